theorem b339_0 {n : Nat} {h : q_Hp} {Q : Option Value → q_Hp → Prop} {x0 : Nat} {x1 : Int32} {m : Nat} {P : Int32 → q_Hp → Prop} (hc : q_mI m 298 [.ref x0] h P) (hm : m ≤ n) (w : ∀ (z : Int32) (h1 : q_Hp), P z h1 → q_wp (n + 1) 339 4 [some (.ref x0), some (.int x1), none, none, none] [.int z] h1 Q) : q_wp (n + 1) 339 0 [some (.ref x0), some (.int x1), none, none, none] [] h Q := by
  refine wp_loc rfl rfl ?_
  exact wp_callI (av := [.ref x0]) rfl rfl rfl (by decide) rfl rfl rfl hm hc w
theorem b339_4 {n : Nat} {h : q_Hp} {Q : Option Value → q_Hp → Prop} {x0 : Nat} {x1 : Int32} {s0 : Int32} (wt : s0 = 0 → q_wp n 339 18 [some (.ref x0), some (.int x1), none, none, none] [] h Q) (wf : ¬ s0 = 0 → q_wp n 339 7 [some (.ref x0), some (.int x1), none, none, none] [] h Q) : q_wp n 339 4 [some (.ref x0), some (.int x1), none, none, none] [.int s0] h Q := by
  exact wp_ifeq (tgt := 18) rfl (by decide) wt wf
theorem b339_7 {n : Nat} {h : q_Hp} {Q : Option Value → q_Hp → Prop} {x0 : Nat} {x1 : Int32} (wt : x1 < 1 → q_wp n 339 18 [some (.ref x0), some (.int x1), none, none, none] [] h Q) (wf : ¬ x1 < 1 → q_wp n 339 12 [some (.ref x0), some (.int x1), none, none, none] [] h Q) : q_wp n 339 7 [some (.ref x0), some (.int x1), none, none, none] [] h Q := by
  refine wp_loc rfl rfl ?_
  refine wp_iconst (v := 1) rfl (by decide) ?_
  exact wp_iclt (tgt := 18) rfl (by decide) wt wf
theorem b339_12 {n : Nat} {h : q_Hp} {Q : Option Value → q_Hp → Prop} {x0 : Nat} {x1 : Int32} (wt : x1 ≤ 40 → q_wp n 339 20 [some (.ref x0), some (.int x1), none, none, none] [] h Q) (wf : ¬ x1 ≤ 40 → q_wp n 339 18 [some (.ref x0), some (.int x1), none, none, none] [] h Q) : q_wp n 339 12 [some (.ref x0), some (.int x1), none, none, none] [] h Q := by
  refine wp_loc rfl rfl ?_
  refine wp_bipush (v := 40) rfl (by decide) ?_
  exact wp_icle (tgt := 20) rfl (by decide) wt wf
theorem b339_18 {n : Nat} {h : q_Hp} {Q : Option Value → q_Hp → Prop} {x0 : Nat} {x1 : Int32} (q : Q (some (.int (-1))) h) : q_wp n 339 18 [some (.ref x0), some (.int x1), none, none, none] [] h Q := by
  refine wp_iconst (v := (-1)) rfl (by decide) ?_
  exact wp_ret rfl rfl q
theorem b339_20 {n : Nat} {h : q_Hp} {Q : Option Value → q_Hp → Prop} {x0 : Nat} {x1 : Int32} (w : q_wp n 339 22 [some (.ref x0), some (.int x1), some (.int x1), none, none] [] h Q) : q_wp n 339 20 [some (.ref x0), some (.int x1), none, none, none] [] h Q := by
  refine wp_loc rfl rfl ?_
  refine wp_loc rfl rfl ?_
  exact w
theorem b339_22 {n : Nat} {h : q_Hp} {Q : Option Value → q_Hp → Prop} {x0 : Nat} {x1 : Int32} {x2 : Int32} {l3 : Option Value} {l4 : Option Value} {m : Nat} {P : Int32 → q_Hp → Prop} (hc : q_mI m 298 [.ref x0] h P) (hm : m ≤ n) (w : ∀ (z : Int32) (h1 : q_Hp), P z h1 → q_wp (n + 1) 339 26 [some (.ref x0), some (.int x1), some (.int x2), l3, l4] [.int z] h1 Q) : q_wp (n + 1) 339 22 [some (.ref x0), some (.int x1), some (.int x2), l3, l4] [] h Q := by
  refine wp_loc rfl rfl ?_
  exact wp_callI (av := [.ref x0]) rfl rfl rfl (by decide) rfl rfl rfl hm hc w
theorem b339_26 {n : Nat} {h : q_Hp} {Q : Option Value → q_Hp → Prop} {x0 : Nat} {x1 : Int32} {x2 : Int32} {l3 : Option Value} {l4 : Option Value} {s0 : Int32} (wt : s0 = 0 → q_wp n 339 140 [some (.ref x0), some (.int x1), some (.int x2), l3, l4] [] h Q) (wf : ¬ s0 = 0 → q_wp n 339 29 [some (.ref x0), some (.int x1), some (.int x2), l3, l4] [] h Q) : q_wp n 339 26 [some (.ref x0), some (.int x1), some (.int x2), l3, l4] [.int s0] h Q := by
  exact wp_ifeq (tgt := 140) rfl (by decide) wt wf
theorem b339_29 {n : Nat} {h : q_Hp} {Q : Option Value → q_Hp → Prop} {x0 : Nat} {x1 : Int32} {x2 : Int32} {l3 : Option Value} {l4 : Option Value} {v0 : Nat} (k0 : q_ok h x0 12) (e0 : qR h x0 111 = v0) (b2 : q_ok h v0 22 ∨ q_ok h v0 23) (i0 : q_in ((qI h x0 106) - 1) (qK h v0).2) (wt : (qA h v0 (((qI h x0 106) - 1 : Int32).toNatClampNeg)) = 0 → q_wp n 339 62 [some (.ref x0), some (.int x1), some (.int x2), some (.int ((qI h x0 106) - 1)), l4] [] h Q) (wf : ¬ (qA h v0 (((qI h x0 106) - 1 : Int32).toNatClampNeg)) = 0 → q_wp n 339 45 [some (.ref x0), some (.int x1), some (.int x2), some (.int ((qI h x0 106) - 1)), l4] [] h Q) : q_wp n 339 29 [some (.ref x0), some (.int x1), some (.int x2), l3, l4] [] h Q := by
  refine wp_loc rfl rfl ?_
  refine wp_getI rfl rfl rfl k0 ?_
  refine wp_iconst (v := 1) rfl (by decide) ?_
  refine wp_stk rfl rfl rfl ?_
  refine wp_loc rfl rfl ?_
  refine wp_loc rfl rfl ?_
  refine wp_getR rfl rfl rfl rfl k0 e0 ?_
  refine wp_loc rfl rfl ?_
  refine wp_bald rfl b2 i0 ?_
  exact wp_ifeq (tgt := 62) rfl (by decide) wt wf
theorem b339_45 {n : Nat} {h : q_Hp} {Q : Option Value → q_Hp → Prop} {x0 : Nat} {x1 : Int32} {x2 : Int32} {x3 : Int32} {l4 : Option Value} {v0 : Nat} (k0 : q_ok h x0 12) (e0 : qR h x0 109 = v0) (k1 : q_ok h v0 20) (i0 : q_in x3 (qK h v0).2) (wt : ¬ (qA h v0 x3.toNatClampNeg) = (-1) → q_wp n 339 62 [some (.ref x0), some (.int x1), some (.int x2), some (.int x3), l4] [] h Q) (wf : (qA h v0 x3.toNatClampNeg) = (-1) → q_wp n 339 55 [some (.ref x0), some (.int x1), some (.int x2), some (.int x3), l4] [] h Q) : q_wp n 339 45 [some (.ref x0), some (.int x1), some (.int x2), some (.int x3), l4] [] h Q := by
  refine wp_loc rfl rfl ?_
  refine wp_getR rfl rfl rfl rfl k0 e0 ?_
  refine wp_loc rfl rfl ?_
  refine wp_iald rfl k1 i0 ?_
  refine wp_iconst (v := (-1)) rfl (by decide) ?_
  exact wp_icne (tgt := 62) rfl (by decide) wt wf
theorem b339_55 {n : Nat} {h : q_Hp} {Q : Option Value → q_Hp → Prop} {x0 : Nat} {x1 : Int32} {x2 : Int32} {x3 : Int32} {l4 : Option Value} {m : Nat} {P : q_Hp → Prop} (hc : q_mV m 338 [.ref x0] h P) (hm : m ≤ n) (w : ∀ h1 : q_Hp, P h1 → q_wp (n + 1) 339 59 [some (.ref x0), some (.int x1), some (.int x2), some (.int x3), l4] [] h1 Q) : q_wp (n + 1) 339 55 [some (.ref x0), some (.int x1), some (.int x2), some (.int x3), l4] [] h Q := by
  refine wp_loc rfl rfl ?_
  exact wp_callV (av := [.ref x0]) rfl rfl rfl (by decide) rfl rfl rfl hm hc w
theorem b339_59 {n : Nat} {h : q_Hp} {Q : Option Value → q_Hp → Prop} {x0 : Nat} {x1 : Int32} {x2 : Int32} {x3 : Int32} {l4 : Option Value} (w : q_wp n 339 22 [some (.ref x0), some (.int x1), some (.int x2), some (.int x3), l4] [] h Q) : q_wp n 339 59 [some (.ref x0), some (.int x1), some (.int x2), some (.int x3), l4] [] h Q := by
  refine wp_goto (tgt := 22) rfl (by decide) ?_
  exact w
theorem b339_62 {n : Nat} {h : q_Hp} {Q : Option Value → q_Hp → Prop} {x0 : Nat} {x1 : Int32} {x2 : Int32} {x3 : Int32} {l4 : Option Value} (wt : ¬ x2 = 0 → q_wp n 339 68 [some (.ref x0), some (.int x1), some (.int x2), some (.int x3), l4] [] h Q) (wf : x2 = 0 → q_wp n 339 66 [some (.ref x0), some (.int x1), some (.int x2), some (.int x3), l4] [] h Q) : q_wp n 339 62 [some (.ref x0), some (.int x1), some (.int x2), some (.int x3), l4] [] h Q := by
  refine wp_loc rfl rfl ?_
  exact wp_ifne (tgt := 68) rfl (by decide) wt wf
theorem b339_66 {n : Nat} {h : q_Hp} {Q : Option Value → q_Hp → Prop} {x0 : Nat} {x1 : Int32} {x2 : Int32} {x3 : Int32} {l4 : Option Value} (q : Q (some (.int 0)) h) : q_wp n 339 66 [some (.ref x0), some (.int x1), some (.int x2), some (.int x3), l4] [] h Q := by
  refine wp_iconst (v := 0) rfl (by decide) ?_
  exact wp_ret rfl rfl q
theorem b339_68 {n : Nat} {h : q_Hp} {Q : Option Value → q_Hp → Prop} {x0 : Nat} {x1 : Int32} {x2 : Int32} {x3 : Int32} {l4 : Option Value} {v0 : Nat} (k0 : q_ok h x0 12) (e0 : qR h x0 111 = v0) (b2 : q_ok h v0 22 ∨ q_ok h v0 23) (i0 : q_in x3 (qK h v0).2) (wt : ¬ (qA h v0 x3.toNatClampNeg) = 0 → q_wp n 339 110 [some (.ref x0), some (.int x1), some (.int (x2 + (-1))), some (.int x3), l4] [] (q_sI h x0 105 ((qI h x0 105) + 1)) Q) (wf : (qA h v0 x3.toNatClampNeg) = 0 → q_wp n 339 90 [some (.ref x0), some (.int x1), some (.int (x2 + (-1))), some (.int x3), l4] [] (q_sI h x0 105 ((qI h x0 105) + 1)) Q) : q_wp n 339 68 [some (.ref x0), some (.int x1), some (.int x2), some (.int x3), l4] [] h Q := by
  refine wp_iinc (v := (-1)) rfl rfl (by decide) rfl ?_
  refine wp_loc rfl rfl ?_
  refine wp_stk rfl rfl rfl ?_
  refine wp_getI rfl rfl rfl k0 ?_
  refine wp_iconst (v := 1) rfl (by decide) ?_
  refine wp_stk rfl rfl rfl ?_
  refine wp_putI rfl rfl (Or.inl rfl) rfl (fun h9 => by cases h9) k0 ?_
  refine wp_loc rfl rfl ?_
  refine wp_getR rfl rfl rfl rfl k0 e0 ?_
  refine wp_loc rfl rfl ?_
  refine wp_bald rfl b2 i0 ?_
  exact wp_ifne (tgt := 110) rfl (by decide) wt wf
theorem b339_90 {n : Nat} {h : q_Hp} {Q : Option Value → q_Hp → Prop} {x0 : Nat} {x1 : Int32} {x2 : Int32} {x3 : Int32} {l4 : Option Value} {v0 : Nat} {v1 : Nat} (k0 : q_ok h x0 12) (e0 : qR h x0 61 = v0) (e1 : qR h x0 108 = v1) (k1 : q_ok h v1 20) (i0 : q_in x3 (qK h v1).2) (k2 : q_ok h v0 20) (i1 : q_in (3 * (qA h v1 x3.toNatClampNeg)) (qK h v0).2) {m : Nat} {P : q_Hp → Prop} (hc : q_mV m 333 [.ref x0, .int (qA h v0 ((3 * (qA h v1 x3.toNatClampNeg) : Int32).toNatClampNeg))] h P) (hm : m ≤ n) (w : ∀ h1 : q_Hp, P h1 → q_wp (n + 1) 339 107 [some (.ref x0), some (.int x1), some (.int x2), some (.int x3), l4] [] h1 Q) : q_wp (n + 1) 339 90 [some (.ref x0), some (.int x1), some (.int x2), some (.int x3), l4] [] h Q := by
  refine wp_loc rfl rfl ?_
  refine wp_loc rfl rfl ?_
  refine wp_getR rfl rfl rfl rfl k0 e0 ?_
  refine wp_iconst (v := 3) rfl (by decide) ?_
  refine wp_loc rfl rfl ?_
  refine wp_getR rfl rfl rfl rfl k0 e1 ?_
  refine wp_loc rfl rfl ?_
  refine wp_iald rfl k1 i0 ?_
  refine wp_stk rfl rfl rfl ?_
  refine wp_iald rfl k2 i1 ?_
  exact wp_callV (av := [.ref x0, .int (qA h v0 ((3 * (qA h v1 x3.toNatClampNeg) : Int32).toNatClampNeg))]) rfl rfl rfl (by decide) rfl rfl rfl hm hc w
theorem b339_107 {n : Nat} {h : q_Hp} {Q : Option Value → q_Hp → Prop} {x0 : Nat} {x1 : Int32} {x2 : Int32} {x3 : Int32} {l4 : Option Value} (w : q_wp n 339 22 [some (.ref x0), some (.int x1), some (.int x2), some (.int x3), l4] [] h Q) : q_wp n 339 107 [some (.ref x0), some (.int x1), some (.int x2), some (.int x3), l4] [] h Q := by
  refine wp_goto (tgt := 22) rfl (by decide) ?_
  exact w
theorem b339_110 {n : Nat} {h : q_Hp} {Q : Option Value → q_Hp → Prop} {x0 : Nat} {x1 : Int32} {x2 : Int32} {x3 : Int32} {l4 : Option Value} {v0 : Nat} {v1 : Nat} (k0 : q_ok h x0 12) (e0 : qR h x0 109 = v0) (k1 : q_ok h v0 20) (i0 : q_in x3 (qK h v0).2) (e1 : qR h x0 62 = v1) (k2 : q_ok h v1 20) (i1 : q_in (qA h v0 x3.toNatClampNeg) (qK h v1).2) {m : Nat} {P : q_Hp → Prop} (hc : q_mV m 341 [.ref x0, .int (qA h v0 x3.toNatClampNeg)] (q_sA h v0 x3.toNatClampNeg (qA h v1 ((qA h v0 x3.toNatClampNeg : Int32).toNatClampNeg))) P) (hm : m ≤ n) (w : ∀ h1 : q_Hp, P h1 → q_wp (n + 1) 339 137 [some (.ref x0), some (.int x1), some (.int x2), some (.int x3), some (.int (qA h v0 x3.toNatClampNeg))] [] h1 Q) : q_wp (n + 1) 339 110 [some (.ref x0), some (.int x1), some (.int x2), some (.int x3), l4] [] h Q := by
  refine wp_loc rfl rfl ?_
  refine wp_getR rfl rfl rfl rfl k0 e0 ?_
  refine wp_loc rfl rfl ?_
  refine wp_iald rfl k1 i0 ?_
  refine wp_loc rfl rfl ?_
  refine wp_loc rfl rfl ?_
  refine wp_getR rfl rfl rfl rfl k0 e0 ?_
  refine wp_loc rfl rfl ?_
  refine wp_loc rfl rfl ?_
  refine wp_getR rfl rfl rfl rfl k0 e1 ?_
  refine wp_loc rfl rfl ?_
  refine wp_iald rfl k2 i1 ?_
  refine wp_iast rfl k1 i0 ?_
  refine wp_loc rfl rfl ?_
  refine wp_loc rfl rfl ?_
  exact wp_callV (av := [.ref x0, .int (qA h v0 x3.toNatClampNeg)]) rfl rfl rfl (by decide) rfl rfl rfl hm hc w
theorem b339_137 {n : Nat} {h : q_Hp} {Q : Option Value → q_Hp → Prop} {x0 : Nat} {x1 : Int32} {x2 : Int32} {x3 : Int32} {x4 : Int32} (w : q_wp n 339 22 [some (.ref x0), some (.int x1), some (.int x2), some (.int x3), some (.int x4)] [] h Q) : q_wp n 339 137 [some (.ref x0), some (.int x1), some (.int x2), some (.int x3), some (.int x4)] [] h Q := by
  refine wp_goto (tgt := 22) rfl (by decide) ?_
  exact w
theorem b339_140 {n : Nat} {h : q_Hp} {Q : Option Value → q_Hp → Prop} {x0 : Nat} {x1 : Int32} {x2 : Int32} {l3 : Option Value} {l4 : Option Value} (k0 : q_ok h x0 12) (q : Q (some (.int (qI h x0 104))) h) : q_wp n 339 140 [some (.ref x0), some (.int x1), some (.int x2), l3, l4] [] h Q := by
  refine wp_loc rfl rfl ?_
  refine wp_getI rfl rfl rfl k0 ?_
  exact wp_ret rfl rfl q
theorem b340_0 {n : Nat} {h : q_Hp} {Q : Option Value → q_Hp → Prop} {x0 : Nat} (w : q_wp n 340 4 [some (.ref x0), some (.int 0), some (.int 0)] [] h Q) : q_wp n 340 0 [some (.ref x0), none, none] [] h Q := by
  refine wp_iconst (v := 0) rfl (by decide) ?_
  refine wp_loc rfl rfl ?_
  refine wp_iconst (v := 0) rfl (by decide) ?_
  refine wp_loc rfl rfl ?_
  exact w
theorem b340_4 {n : Nat} {h : q_Hp} {Q : Option Value → q_Hp → Prop} {x0 : Nat} {x1 : Int32} {x2 : Int32} (k0 : q_ok h x0 12) (wt : (qI h x0 106) ≤ x2 → q_wp n 340 30 [some (.ref x0), some (.int x1), some (.int x2)] [] h Q) (wf : ¬ (qI h x0 106) ≤ x2 → q_wp n 340 12 [some (.ref x0), some (.int x1), some (.int x2)] [] h Q) : q_wp n 340 4 [some (.ref x0), some (.int x1), some (.int x2)] [] h Q := by
  refine wp_loc rfl rfl ?_
  refine wp_loc rfl rfl ?_
  refine wp_getI rfl rfl rfl k0 ?_
  exact wp_icge (tgt := 30) rfl (by decide) wt wf
theorem b340_12 {n : Nat} {h : q_Hp} {Q : Option Value → q_Hp → Prop} {x0 : Nat} {x1 : Int32} {x2 : Int32} {v0 : Nat} (k0 : q_ok h x0 12) (e0 : qR h x0 107 = v0) (k1 : q_ok h v0 20) (i0 : q_in x2 (qK h v0).2) (wt : ¬ (qA h v0 x2.toNatClampNeg) = 0 → q_wp n 340 24 [some (.ref x0), some (.int x1), some (.int x2)] [] h Q) (wf : (qA h v0 x2.toNatClampNeg) = 0 → q_wp n 340 21 [some (.ref x0), some (.int x1), some (.int x2)] [] h Q) : q_wp n 340 12 [some (.ref x0), some (.int x1), some (.int x2)] [] h Q := by
  refine wp_loc rfl rfl ?_
  refine wp_getR rfl rfl rfl rfl k0 e0 ?_
  refine wp_loc rfl rfl ?_
  refine wp_iald rfl k1 i0 ?_
  exact wp_ifne (tgt := 24) rfl (by decide) wt wf
theorem b340_21 {n : Nat} {h : q_Hp} {Q : Option Value → q_Hp → Prop} {x0 : Nat} {x1 : Int32} {x2 : Int32} (w : q_wp n 340 24 [some (.ref x0), some (.int (x1 + 1)), some (.int x2)] [] h Q) : q_wp n 340 21 [some (.ref x0), some (.int x1), some (.int x2)] [] h Q := by
  refine wp_iinc (v := 1) rfl rfl (by decide) rfl ?_
  exact w
theorem b340_24 {n : Nat} {h : q_Hp} {Q : Option Value → q_Hp → Prop} {x0 : Nat} {x1 : Int32} {x2 : Int32} (w : q_wp n 340 4 [some (.ref x0), some (.int x1), some (.int (x2 + 1))] [] h Q) : q_wp n 340 24 [some (.ref x0), some (.int x1), some (.int x2)] [] h Q := by
  refine wp_iinc (v := 1) rfl rfl (by decide) rfl ?_
  refine wp_goto (tgt := 4) rfl (by decide) ?_
  exact w
theorem b340_30 {n : Nat} {h : q_Hp} {Q : Option Value → q_Hp → Prop} {x0 : Nat} {x1 : Int32} {x2 : Int32} (q : Q (some (.int x1)) h) : q_wp n 340 30 [some (.ref x0), some (.int x1), some (.int x2)] [] h Q := by
  refine wp_loc rfl rfl ?_
  exact wp_ret rfl rfl q
set_option maxRecDepth 20000 in
theorem b341_0 {n : Nat} {h : q_Hp} {Q : Option Value → q_Hp → Prop} {x0 : Nat} {x1 : Int32} {v0 : Nat} (k0 : q_ok h x0 12) (e0 : qR h x0 59 = v0) (k1 : q_ok h v0 20) (i0 : q_in x1 (qK h v0).2) (w0 : (qA h v0 x1.toNatClampNeg) = 0 → q_wp n 341 48 [some (.ref x0), some (.int x1), none, none] [] h Q) (w1 : (qA h v0 x1.toNatClampNeg) = 1 → q_wp n 341 65 [some (.ref x0), some (.int x1), none, none] [] h Q) (w2 : (qA h v0 x1.toNatClampNeg) = 2 → q_wp n 341 82 [some (.ref x0), some (.int x1), none, none] [] h Q) (w3 : (qA h v0 x1.toNatClampNeg) = 3 → q_wp n 341 131 [some (.ref x0), some (.int x1), none, none] [] h Q) (w4 : (qA h v0 x1.toNatClampNeg) = 4 → q_wp n 341 168 [some (.ref x0), some (.int x1), none, none] [] h Q) (w5 : (qA h v0 x1.toNatClampNeg) = 5 → q_wp n 341 175 [some (.ref x0), some (.int x1), none, none] [] h Q) (w6 : (qA h v0 x1.toNatClampNeg) = 6 → q_wp n 341 175 [some (.ref x0), some (.int x1), none, none] [] h Q) (wd : ((qA h v0 x1.toNatClampNeg).toInt < 0 ∨ 6 < (qA h v0 x1.toNatClampNeg).toInt) → q_wp n 341 234 [some (.ref x0), some (.int x1), none, none] [] h Q) : q_wp n 341 0 [some (.ref x0), some (.int x1), none, none] [] h Q := by
  refine wp_loc rfl rfl ?_
  refine wp_getR rfl rfl rfl rfl k0 e0 ?_
  refine wp_loc rfl rfl ?_
  refine wp_iald rfl k1 i0 ?_
  refine wp_tab (dt := 234) (tg := fun j => [48, 65, 82, 131, 168, 175, 175].getD j 0) rfl (by decide) (by decide) (by decide) (fun j hj hx => ?_) wd
  have hj : j < 7 := hj
  match j, hj, hx with
  | 0, _, hx => exact w0 (Int32.toInt_inj.mp hx)
  | 1, _, hx => exact w1 (Int32.toInt_inj.mp hx)
  | 2, _, hx => exact w2 (Int32.toInt_inj.mp hx)
  | 3, _, hx => exact w3 (Int32.toInt_inj.mp hx)
  | 4, _, hx => exact w4 (Int32.toInt_inj.mp hx)
  | 5, _, hx => exact w5 (Int32.toInt_inj.mp hx)
  | 6, _, hx => exact w6 (Int32.toInt_inj.mp hx)
set_option maxRecDepth 20000 in
theorem b341_48 {n : Nat} {h : q_Hp} {Q : Option Value → q_Hp → Prop} {x0 : Nat} {x1 : Int32} {v0 : Nat} (k0 : q_ok h x0 12) (e0 : qR h x0 60 = v0) (k1 : q_ok h v0 20) (i0 : q_in x1 (qK h v0).2) {m : Nat} {P : Int32 → q_Hp → Prop} (hc : q_mI m 328 [.ref x0, .int (qA h v0 x1.toNatClampNeg)] h P) (hm : m ≤ n) (w : ∀ (z : Int32) (h1 : q_Hp), P z h1 → q_wp (n + 1) 341 59 [some (.ref x0), some (.int x1), none, none] [.int z, .ref x0] h1 Q) : q_wp (n + 1) 341 48 [some (.ref x0), some (.int x1), none, none] [] h Q := by
  refine wp_loc rfl rfl ?_
  refine wp_loc rfl rfl ?_
  refine wp_loc rfl rfl ?_
  refine wp_getR rfl rfl rfl rfl k0 e0 ?_
  refine wp_loc rfl rfl ?_
  refine wp_iald rfl k1 i0 ?_
  exact wp_callI (av := [.ref x0, .int (qA h v0 x1.toNatClampNeg)]) rfl rfl rfl (by decide) rfl rfl rfl hm hc w
set_option maxRecDepth 20000 in
theorem b341_59 {n : Nat} {h : q_Hp} {Q : Option Value → q_Hp → Prop} {x0 : Nat} {x1 : Int32} {s0 : Int32} {s1 : Nat} {m : Nat} {P : q_Hp → Prop} (hc : q_mV m 342 [.ref s1, .int s0] h P) (hm : m ≤ n) (w : ∀ h1 : q_Hp, P h1 → q_wp (n + 1) 341 62 [some (.ref x0), some (.int x1), none, none] [] h1 Q) : q_wp (n + 1) 341 59 [some (.ref x0), some (.int x1), none, none] [.int s0, .ref s1] h Q := by
  exact wp_callV (av := [.ref s1, .int s0]) rfl rfl rfl (by decide) rfl rfl rfl hm hc w
set_option maxRecDepth 20000 in
theorem b341_62 {n : Nat} {h : q_Hp} {Q : Option Value → q_Hp → Prop} {x0 : Nat} {x1 : Int32} (w : q_wp n 341 248 [some (.ref x0), some (.int x1), none, none] [] h Q) : q_wp n 341 62 [some (.ref x0), some (.int x1), none, none] [] h Q := by
  refine wp_goto (tgt := 248) rfl (by decide) ?_
  exact w
set_option maxRecDepth 20000 in
theorem b341_65 {n : Nat} {h : q_Hp} {Q : Option Value → q_Hp → Prop} {x0 : Nat} {x1 : Int32} {v0 : Nat} (k0 : q_ok h x0 12) (e0 : qR h x0 60 = v0) (k1 : q_ok h v0 20) (i0 : q_in x1 (qK h v0).2) {m : Nat} {P : Int32 → q_Hp → Prop} (hc : q_mI m 329 [.ref x0, .int (qA h v0 x1.toNatClampNeg)] h P) (hm : m ≤ n) (w : ∀ (z : Int32) (h1 : q_Hp), P z h1 → q_wp (n + 1) 341 76 [some (.ref x0), some (.int x1), none, none] [.int z, .ref x0] h1 Q) : q_wp (n + 1) 341 65 [some (.ref x0), some (.int x1), none, none] [] h Q := by
  refine wp_loc rfl rfl ?_
  refine wp_loc rfl rfl ?_
  refine wp_loc rfl rfl ?_
  refine wp_getR rfl rfl rfl rfl k0 e0 ?_
  refine wp_loc rfl rfl ?_
  refine wp_iald rfl k1 i0 ?_
  exact wp_callI (av := [.ref x0, .int (qA h v0 x1.toNatClampNeg)]) rfl rfl rfl (by decide) rfl rfl rfl hm hc w
set_option maxRecDepth 20000 in
theorem b341_76 {n : Nat} {h : q_Hp} {Q : Option Value → q_Hp → Prop} {x0 : Nat} {x1 : Int32} {s0 : Int32} {s1 : Nat} {m : Nat} {P : q_Hp → Prop} (hc : q_mV m 342 [.ref s1, .int s0] h P) (hm : m ≤ n) (w : ∀ h1 : q_Hp, P h1 → q_wp (n + 1) 341 79 [some (.ref x0), some (.int x1), none, none] [] h1 Q) : q_wp (n + 1) 341 76 [some (.ref x0), some (.int x1), none, none] [.int s0, .ref s1] h Q := by
  exact wp_callV (av := [.ref s1, .int s0]) rfl rfl rfl (by decide) rfl rfl rfl hm hc w
set_option maxRecDepth 20000 in
theorem b341_79 {n : Nat} {h : q_Hp} {Q : Option Value → q_Hp → Prop} {x0 : Nat} {x1 : Int32} (w : q_wp n 341 248 [some (.ref x0), some (.int x1), none, none] [] h Q) : q_wp n 341 79 [some (.ref x0), some (.int x1), none, none] [] h Q := by
  refine wp_goto (tgt := 248) rfl (by decide) ?_
  exact w
set_option maxRecDepth 20000 in
theorem b341_82 {n : Nat} {h : q_Hp} {Q : Option Value → q_Hp → Prop} {x0 : Nat} {x1 : Int32} {v0 : Nat} (k0 : q_ok h x0 12) (e0 : qR h x0 61 = v0) (k1 : q_ok h v0 20) (i0 : q_in (3 * x1) (qK h v0).2) (w : q_wp n 341 93 [some (.ref x0), some (.int x1), some (.int 0), some (.int (qA h v0 ((3 * x1 : Int32).toNatClampNeg)))] [] h Q) : q_wp n 341 82 [some (.ref x0), some (.int x1), none, none] [] h Q := by
  refine wp_iconst (v := 0) rfl (by decide) ?_
  refine wp_loc rfl rfl ?_
  refine wp_loc rfl rfl ?_
  refine wp_getR rfl rfl rfl rfl k0 e0 ?_
  refine wp_iconst (v := 3) rfl (by decide) ?_
  refine wp_loc rfl rfl ?_
  refine wp_stk rfl rfl rfl ?_
  refine wp_iald rfl k1 i0 ?_
  refine wp_loc rfl rfl ?_
  exact w
set_option maxRecDepth 20000 in
theorem b341_93 {n : Nat} {h : q_Hp} {Q : Option Value → q_Hp → Prop} {x0 : Nat} {x1 : Int32} {x2 : Int32} {x3 : Int32} (wt : x3 = (-1) → q_wp n 341 123 [some (.ref x0), some (.int x1), some (.int x2), some (.int x3)] [] h Q) (wf : ¬ x3 = (-1) → q_wp n 341 98 [some (.ref x0), some (.int x1), some (.int x2), some (.int x3)] [] h Q) : q_wp n 341 93 [some (.ref x0), some (.int x1), some (.int x2), some (.int x3)] [] h Q := by
  refine wp_loc rfl rfl ?_
  refine wp_iconst (v := (-1)) rfl (by decide) ?_
  exact wp_iceq (tgt := 123) rfl (by decide) wt wf
set_option maxRecDepth 20000 in
theorem b341_98 {n : Nat} {h : q_Hp} {Q : Option Value → q_Hp → Prop} {x0 : Nat} {x1 : Int32} {x2 : Int32} {x3 : Int32} (wt : ¬ x2 = 0 → q_wp n 341 123 [some (.ref x0), some (.int x1), some (.int x2), some (.int x3)] [] h Q) (wf : x2 = 0 → q_wp n 341 102 [some (.ref x0), some (.int x1), some (.int x2), some (.int x3)] [] h Q) : q_wp n 341 98 [some (.ref x0), some (.int x1), some (.int x2), some (.int x3)] [] h Q := by
  refine wp_loc rfl rfl ?_
  exact wp_ifne (tgt := 123) rfl (by decide) wt wf
set_option maxRecDepth 20000 in
theorem b341_102 {n : Nat} {h : q_Hp} {Q : Option Value → q_Hp → Prop} {x0 : Nat} {x1 : Int32} {x2 : Int32} {x3 : Int32} {v0 : Nat} (k0 : q_ok h x0 12) (e0 : qR h x0 60 = v0) (k1 : q_ok h v0 20) (i0 : q_in x3 (qK h v0).2) {m : Nat} {P : Int32 → q_Hp → Prop} (hc : q_mI m 328 [.ref x0, .int (qA h v0 x3.toNatClampNeg)] h P) (hm : m ≤ n) (w : ∀ (z : Int32) (h1 : q_Hp), P z h1 → q_wp (n + 1) 341 112 [some (.ref x0), some (.int x1), some (.int x2), some (.int x3)] [.int z] h1 Q) : q_wp (n + 1) 341 102 [some (.ref x0), some (.int x1), some (.int x2), some (.int x3)] [] h Q := by
  refine wp_loc rfl rfl ?_
  refine wp_loc rfl rfl ?_
  refine wp_getR rfl rfl rfl rfl k0 e0 ?_
  refine wp_loc rfl rfl ?_
  refine wp_iald rfl k1 i0 ?_
  exact wp_callI (av := [.ref x0, .int (qA h v0 x3.toNatClampNeg)]) rfl rfl rfl (by decide) rfl rfl rfl hm hc w
set_option maxRecDepth 20000 in
theorem b341_112 {n : Nat} {h : q_Hp} {Q : Option Value → q_Hp → Prop} {x0 : Nat} {x1 : Int32} {x2 : Int32} {x3 : Int32} {s0 : Int32} {v0 : Nat} (k0 : q_ok h x0 12) (e0 : qR h x0 62 = v0) (k1 : q_ok h v0 20) (i0 : q_in x3 (qK h v0).2) (w : q_wp n 341 93 [some (.ref x0), some (.int x1), some (.int s0), some (.int (qA h v0 x3.toNatClampNeg))] [] h Q) : q_wp n 341 112 [some (.ref x0), some (.int x1), some (.int x2), some (.int x3)] [.int s0] h Q := by
  refine wp_loc rfl rfl ?_
  refine wp_loc rfl rfl ?_
  refine wp_getR rfl rfl rfl rfl k0 e0 ?_
  refine wp_loc rfl rfl ?_
  refine wp_iald rfl k1 i0 ?_
  refine wp_loc rfl rfl ?_
  refine wp_goto (tgt := 93) rfl (by decide) ?_
  exact w
set_option maxRecDepth 20000 in
theorem b341_123 {n : Nat} {h : q_Hp} {Q : Option Value → q_Hp → Prop} {x0 : Nat} {x1 : Int32} {x2 : Int32} {x3 : Int32} {m : Nat} {P : q_Hp → Prop} (hc : q_mV m 342 [.ref x0, .int x2] h P) (hm : m ≤ n) (w : ∀ h1 : q_Hp, P h1 → q_wp (n + 1) 341 128 [some (.ref x0), some (.int x1), some (.int x2), some (.int x3)] [] h1 Q) : q_wp (n + 1) 341 123 [some (.ref x0), some (.int x1), some (.int x2), some (.int x3)] [] h Q := by
  refine wp_loc rfl rfl ?_
  refine wp_loc rfl rfl ?_
  exact wp_callV (av := [.ref x0, .int x2]) rfl rfl rfl (by decide) rfl rfl rfl hm hc w
set_option maxRecDepth 20000 in
theorem b341_128 {n : Nat} {h : q_Hp} {Q : Option Value → q_Hp → Prop} {x0 : Nat} {x1 : Int32} {x2 : Int32} {x3 : Int32} (w : q_wp n 341 248 [some (.ref x0), some (.int x1), some (.int x2), some (.int x3)] [] h Q) : q_wp n 341 128 [some (.ref x0), some (.int x1), some (.int x2), some (.int x3)] [] h Q := by
  refine wp_goto (tgt := 248) rfl (by decide) ?_
  exact w
set_option maxRecDepth 20000 in
theorem b341_131 {n : Nat} {h : q_Hp} {Q : Option Value → q_Hp → Prop} {x0 : Nat} {x1 : Int32} {m : Nat} {P : Int32 → q_Hp → Prop} (hc : q_mI m 340 [.ref x0] h P) (hm : m ≤ n) (w : ∀ (z : Int32) (h1 : q_Hp), P z h1 → q_wp (n + 1) 341 135 [some (.ref x0), some (.int x1), none, none] [.int z] h1 Q) : q_wp (n + 1) 341 131 [some (.ref x0), some (.int x1), none, none] [] h Q := by
  refine wp_loc rfl rfl ?_
  exact wp_callI (av := [.ref x0]) rfl rfl rfl (by decide) rfl rfl rfl hm hc w
set_option maxRecDepth 20000 in
theorem b341_135 {n : Nat} {h : q_Hp} {Q : Option Value → q_Hp → Prop} {x0 : Nat} {x1 : Int32} {s0 : Int32} (wt : ¬ s0 = 20 → q_wp n 341 148 [some (.ref x0), some (.int x1), none, none] [] h Q) (wf : s0 = 20 → q_wp n 341 140 [some (.ref x0), some (.int x1), none, none] [] h Q) : q_wp n 341 135 [some (.ref x0), some (.int x1), none, none] [.int s0] h Q := by
  refine wp_bipush (v := 20) rfl (by decide) ?_
  exact wp_icne (tgt := 148) rfl (by decide) wt wf
set_option maxRecDepth 20000 in
theorem b341_140 {n : Nat} {h : q_Hp} {Q : Option Value → q_Hp → Prop} {x0 : Nat} {x1 : Int32} {m : Nat} {P : q_Hp → Prop} (hc : q_mV m 336 [.ref x0, .int 3] h P) (hm : m ≤ n) (w : ∀ h1 : q_Hp, P h1 → q_wp (n + 1) 341 145 [some (.ref x0), some (.int x1), none, none] [] h1 Q) : q_wp (n + 1) 341 140 [some (.ref x0), some (.int x1), none, none] [] h Q := by
  refine wp_loc rfl rfl ?_
  refine wp_iconst (v := 3) rfl (by decide) ?_
  exact wp_callV (av := [.ref x0, .int 3]) rfl rfl rfl (by decide) rfl rfl rfl hm hc w
set_option maxRecDepth 20000 in
theorem b341_145 {n : Nat} {h : q_Hp} {Q : Option Value → q_Hp → Prop} {x0 : Nat} {x1 : Int32} (w : q_wp n 341 248 [some (.ref x0), some (.int x1), none, none] [] h Q) : q_wp n 341 145 [some (.ref x0), some (.int x1), none, none] [] h Q := by
  refine wp_goto (tgt := 248) rfl (by decide) ?_
  exact w
set_option maxRecDepth 20000 in
theorem b341_148 {n : Nat} {h : q_Hp} {Q : Option Value → q_Hp → Prop} {x0 : Nat} {x1 : Int32} {v0 : Nat} {v1 : Nat} (k0 : q_ok h x0 12) (e0 : qR h x0 63 = v0) (e1 : qR h x0 60 = v1) (k1 : q_ok h v1 20) (i0 : q_in x1 (qK h v1).2) (k2 : q_ok h v0 20) (i1 : q_in (qA h v1 x1.toNatClampNeg) (qK h v0).2) {m : Nat} {P : q_Hp → Prop} (hc : q_mV m 332 [.ref x0, .int 0, .int x1, .int (qA h v0 ((qA h v1 x1.toNatClampNeg : Int32).toNatClampNeg))] h P) (hm : m ≤ n) (w : ∀ h1 : q_Hp, P h1 → q_wp (n + 1) 341 165 [some (.ref x0), some (.int x1), none, none] [] h1 Q) : q_wp (n + 1) 341 148 [some (.ref x0), some (.int x1), none, none] [] h Q := by
  refine wp_loc rfl rfl ?_
  refine wp_iconst (v := 0) rfl (by decide) ?_
  refine wp_loc rfl rfl ?_
  refine wp_loc rfl rfl ?_
  refine wp_getR rfl rfl rfl rfl k0 e0 ?_
  refine wp_loc rfl rfl ?_
  refine wp_getR rfl rfl rfl rfl k0 e1 ?_
  refine wp_loc rfl rfl ?_
  refine wp_iald rfl k1 i0 ?_
  refine wp_iald rfl k2 i1 ?_
  exact wp_callV (av := [.ref x0, .int 0, .int x1, .int (qA h v0 ((qA h v1 x1.toNatClampNeg : Int32).toNatClampNeg))]) rfl rfl rfl (by decide) rfl rfl rfl hm hc w
set_option maxRecDepth 20000 in
theorem b341_165 {n : Nat} {h : q_Hp} {Q : Option Value → q_Hp → Prop} {x0 : Nat} {x1 : Int32} (w : q_wp n 341 248 [some (.ref x0), some (.int x1), none, none] [] h Q) : q_wp n 341 165 [some (.ref x0), some (.int x1), none, none] [] h Q := by
  refine wp_goto (tgt := 248) rfl (by decide) ?_
  exact w
set_option maxRecDepth 20000 in
theorem b341_168 {n : Nat} {h : q_Hp} {Q : Option Value → q_Hp → Prop} {x0 : Nat} {x1 : Int32} {m : Nat} {P : q_Hp → Prop} (hc : q_mV m 337 [.ref x0] h P) (hm : m ≤ n) (w : ∀ h1 : q_Hp, P h1 → q_wp (n + 1) 341 172 [some (.ref x0), some (.int x1), none, none] [] h1 Q) : q_wp (n + 1) 341 168 [some (.ref x0), some (.int x1), none, none] [] h Q := by
  refine wp_loc rfl rfl ?_
  exact wp_callV (av := [.ref x0]) rfl rfl rfl (by decide) rfl rfl rfl hm hc w
set_option maxRecDepth 20000 in
theorem b341_172 {n : Nat} {h : q_Hp} {Q : Option Value → q_Hp → Prop} {x0 : Nat} {x1 : Int32} (w : q_wp n 341 248 [some (.ref x0), some (.int x1), none, none] [] h Q) : q_wp n 341 172 [some (.ref x0), some (.int x1), none, none] [] h Q := by
  refine wp_goto (tgt := 248) rfl (by decide) ?_
  exact w
set_option maxRecDepth 20000 in
theorem b341_175 {n : Nat} {h : q_Hp} {Q : Option Value → q_Hp → Prop} {x0 : Nat} {x1 : Int32} {v0 : Nat} (k0 : q_ok h x0 12) (e0 : qR h x0 59 = v0) (k1 : q_ok h v0 20) (i0 : q_in x1 (qK h v0).2) (wt : ¬ (qA h v0 x1.toNatClampNeg) = 6 → q_wp n 341 198 [some (.ref x0), some (.int x1), none, none] [] h Q) (wf : (qA h v0 x1.toNatClampNeg) = 6 → q_wp n 341 186 [some (.ref x0), some (.int x1), none, none] [] h Q) : q_wp n 341 175 [some (.ref x0), some (.int x1), none, none] [] h Q := by
  refine wp_loc rfl rfl ?_
  refine wp_getR rfl rfl rfl rfl k0 e0 ?_
  refine wp_loc rfl rfl ?_
  refine wp_iald rfl k1 i0 ?_
  refine wp_bipush (v := 6) rfl (by decide) ?_
  exact wp_icne (tgt := 198) rfl (by decide) wt wf
set_option maxRecDepth 20000 in
theorem b341_186 {n : Nat} {h : q_Hp} {Q : Option Value → q_Hp → Prop} {x0 : Nat} {x1 : Int32} {v0 : Nat} (k0 : q_ok h x0 12) (e0 : qR h x0 60 = v0) (k1 : q_ok h v0 20) (i0 : q_in x1 (qK h v0).2) (wt : ¬ (qA h v0 x1.toNatClampNeg) = 0 → q_wp n 341 198 [some (.ref x0), some (.int x1), none, none] [] h Q) (wf : (qA h v0 x1.toNatClampNeg) = 0 → q_wp n 341 195 [some (.ref x0), some (.int x1), none, none] [] h Q) : q_wp n 341 186 [some (.ref x0), some (.int x1), none, none] [] h Q := by
  refine wp_loc rfl rfl ?_
  refine wp_getR rfl rfl rfl rfl k0 e0 ?_
  refine wp_loc rfl rfl ?_
  refine wp_iald rfl k1 i0 ?_
  exact wp_ifne (tgt := 198) rfl (by decide) wt wf
set_option maxRecDepth 20000 in
theorem b341_195 {n : Nat} {h : q_Hp} {Q : Option Value → q_Hp → Prop} {x0 : Nat} {x1 : Int32} (w : q_wp n 341 248 [some (.ref x0), some (.int x1), none, none] [] h Q) : q_wp n 341 195 [some (.ref x0), some (.int x1), none, none] [] h Q := by
  refine wp_goto (tgt := 248) rfl (by decide) ?_
  exact w
set_option maxRecDepth 20000 in
theorem b341_198 {n : Nat} {h : q_Hp} {Q : Option Value → q_Hp → Prop} {x0 : Nat} {x1 : Int32} {v0 : Nat} (k0 : q_ok h x0 12) (e0 : qR h x0 59 = v0) (k1 : q_ok h v0 20) (i0 : q_in x1 (qK h v0).2) (wt : ¬ (qA h v0 x1.toNatClampNeg) = 5 → q_wp n 341 213 [some (.ref x0), some (.int x1), none, none] [.ref x0] h Q) (wf : (qA h v0 x1.toNatClampNeg) = 5 → q_wp n 341 209 [some (.ref x0), some (.int x1), none, none] [.ref x0] h Q) : q_wp n 341 198 [some (.ref x0), some (.int x1), none, none] [] h Q := by
  refine wp_loc rfl rfl ?_
  refine wp_loc rfl rfl ?_
  refine wp_getR rfl rfl rfl rfl k0 e0 ?_
  refine wp_loc rfl rfl ?_
  refine wp_iald rfl k1 i0 ?_
  refine wp_iconst (v := 5) rfl (by decide) ?_
  exact wp_icne (tgt := 213) rfl (by decide) wt wf
set_option maxRecDepth 20000 in
theorem b341_209 {n : Nat} {h : q_Hp} {Q : Option Value → q_Hp → Prop} {x0 : Nat} {x1 : Int32} {s0 : Nat} (w : q_wp n 341 214 [some (.ref x0), some (.int x1), none, none] [.int 1, .ref s0] h Q) : q_wp n 341 209 [some (.ref x0), some (.int x1), none, none] [.ref s0] h Q := by
  refine wp_iconst (v := 1) rfl (by decide) ?_
  refine wp_goto (tgt := 214) rfl (by decide) ?_
  exact w
set_option maxRecDepth 20000 in
theorem b341_213 {n : Nat} {h : q_Hp} {Q : Option Value → q_Hp → Prop} {x0 : Nat} {x1 : Int32} {s0 : Nat} (w : q_wp n 341 214 [some (.ref x0), some (.int x1), none, none] [.int 2, .ref s0] h Q) : q_wp n 341 213 [some (.ref x0), some (.int x1), none, none] [.ref s0] h Q := by
  refine wp_iconst (v := 2) rfl (by decide) ?_
  exact w
set_option maxRecDepth 20000 in
theorem b341_214 {n : Nat} {h : q_Hp} {Q : Option Value → q_Hp → Prop} {x0 : Nat} {x1 : Int32} {s0 : Int32} {s1 : Nat} {m : Nat} {P : q_Hp → Prop} (hc : q_mV m 332 [.ref s1, .int s0, .int x1, .int (-1)] h P) (hm : m ≤ n) (w : ∀ h1 : q_Hp, P h1 → q_wp (n + 1) 341 219 [some (.ref x0), some (.int x1), none, none] [] h1 Q) : q_wp (n + 1) 341 214 [some (.ref x0), some (.int x1), none, none] [.int s0, .ref s1] h Q := by
  refine wp_loc rfl rfl ?_
  refine wp_iconst (v := (-1)) rfl (by decide) ?_
  exact wp_callV (av := [.ref s1, .int s0, .int x1, .int (-1)]) rfl rfl rfl (by decide) rfl rfl rfl hm hc w
set_option maxRecDepth 20000 in
theorem b341_219 {n : Nat} {h : q_Hp} {Q : Option Value → q_Hp → Prop} {x0 : Nat} {x1 : Int32} {v0 : Nat} (k0 : q_ok h x0 12) (e0 : qR h x0 111 = v0) (k1 : q_ok h v0 23) (i0 : q_in ((qI h x0 106) - 1) (qK h v0).2) (w : q_wp n 341 248 [some (.ref x0), some (.int x1), none, none] [] (q_sA h v0 (((qI h x0 106) - 1 : Int32).toNatClampNeg) (vp_nar .boolean 0)) Q) : q_wp n 341 219 [some (.ref x0), some (.int x1), none, none] [] h Q := by
  refine wp_loc rfl rfl ?_
  refine wp_getR rfl rfl rfl rfl k0 e0 ?_
  refine wp_loc rfl rfl ?_
  refine wp_getI rfl rfl rfl k0 ?_
  refine wp_iconst (v := 1) rfl (by decide) ?_
  refine wp_stk rfl rfl rfl ?_
  refine wp_iconst (v := 0) rfl (by decide) ?_
  refine wp_zast rfl k1 i0 ?_
  refine wp_goto (tgt := 248) rfl (by decide) ?_
  exact w
set_option maxRecDepth 20000 in
theorem b341_234 {n : Nat} {h : q_Hp} {Q : Option Value → q_Hp → Prop} {x0 : Nat} {x1 : Int32} {v0 : Nat} (k0 : q_ok h x0 12) (e0 : qR h x0 61 = v0) (k1 : q_ok h v0 20) (i0 : q_in (3 * x1) (qK h v0).2) {m : Nat} {P : q_Hp → Prop} (hc : q_mV m 332 [.ref x0, .int 3, .int x1, .int (qA h v0 ((3 * x1 : Int32).toNatClampNeg))] h P) (hm : m ≤ n) (w : ∀ h1 : q_Hp, P h1 → q_wp (n + 1) 341 248 [some (.ref x0), some (.int x1), none, none] [] h1 Q) : q_wp (n + 1) 341 234 [some (.ref x0), some (.int x1), none, none] [] h Q := by
  refine wp_loc rfl rfl ?_
  refine wp_iconst (v := 3) rfl (by decide) ?_
  refine wp_loc rfl rfl ?_
  refine wp_loc rfl rfl ?_
  refine wp_getR rfl rfl rfl rfl k0 e0 ?_
  refine wp_iconst (v := 3) rfl (by decide) ?_
  refine wp_loc rfl rfl ?_
  refine wp_stk rfl rfl rfl ?_
  refine wp_iald rfl k1 i0 ?_
  exact wp_callV (av := [.ref x0, .int 3, .int x1, .int (qA h v0 ((3 * x1 : Int32).toNatClampNeg))]) rfl rfl rfl (by decide) rfl rfl rfl hm hc w
set_option maxRecDepth 20000 in
theorem b341_248 {n : Nat} {h : q_Hp} {Q : Option Value → q_Hp → Prop} {x0 : Nat} {x1 : Int32} {l2 : Option Value} {l3 : Option Value} (q : Q none h) : q_wp n 341 248 [some (.ref x0), some (.int x1), l2, l3] [] h Q := by
  exact wp_ret rfl rfl q
theorem b342_0 {n : Nat} {h : q_Hp} {Q : Option Value → q_Hp → Prop} {x0 : Nat} {x1 : Int32} (wt : ¬ x1 = 0 → q_wp n 342 8 [some (.ref x0), some (.int x1)] [] h Q) (wf : x1 = 0 → q_wp n 342 4 [some (.ref x0), some (.int x1)] [] h Q) : q_wp n 342 0 [some (.ref x0), some (.int x1)] [] h Q := by
  refine wp_loc rfl rfl ?_
  exact wp_ifne (tgt := 8) rfl (by decide) wt wf
theorem b342_4 {n : Nat} {h : q_Hp} {Q : Option Value → q_Hp → Prop} {x0 : Nat} {x1 : Int32} {m : Nat} {P : q_Hp → Prop} (hc : q_mV m 337 [.ref x0] h P) (hm : m ≤ n) (w : ∀ h1 : q_Hp, P h1 → q_wp (n + 1) 342 8 [some (.ref x0), some (.int x1)] [] h1 Q) : q_wp (n + 1) 342 4 [some (.ref x0), some (.int x1)] [] h Q := by
  refine wp_loc rfl rfl ?_
  exact wp_callV (av := [.ref x0]) rfl rfl rfl (by decide) rfl rfl rfl hm hc w
theorem b342_8 {n : Nat} {h : q_Hp} {Q : Option Value → q_Hp → Prop} {x0 : Nat} {x1 : Int32} (wt : 0 ≤ x1 → q_wp n 342 17 [some (.ref x0), some (.int x1)] [] h Q) (wf : ¬ 0 ≤ x1 → q_wp n 342 12 [some (.ref x0), some (.int x1)] [] h Q) : q_wp n 342 8 [some (.ref x0), some (.int x1)] [] h Q := by
  refine wp_loc rfl rfl ?_
  exact wp_ifge (tgt := 17) rfl (by decide) wt wf
theorem b342_12 {n : Nat} {h : q_Hp} {Q : Option Value → q_Hp → Prop} {x0 : Nat} {x1 : Int32} {m : Nat} {P : q_Hp → Prop} (hc : q_mV m 336 [.ref x0, .int 3] h P) (hm : m ≤ n) (w : ∀ h1 : q_Hp, P h1 → q_wp (n + 1) 342 17 [some (.ref x0), some (.int x1)] [] h1 Q) : q_wp (n + 1) 342 12 [some (.ref x0), some (.int x1)] [] h Q := by
  refine wp_loc rfl rfl ?_
  refine wp_iconst (v := 3) rfl (by decide) ?_
  exact wp_callV (av := [.ref x0, .int 3]) rfl rfl rfl (by decide) rfl rfl rfl hm hc w
theorem b342_17 {n : Nat} {h : q_Hp} {Q : Option Value → q_Hp → Prop} {x0 : Nat} {x1 : Int32} (q : Q none h) : q_wp n 342 17 [some (.ref x0), some (.int x1)] [] h Q := by
  exact wp_ret rfl rfl q
theorem b343_0 {n : Nat} {h : q_Hp} {Q : Option Value → q_Hp → Prop} {x0 : Nat} {x1 : Int32} (wt : x1 < 0 → q_wp n 343 9 [some (.ref x0), some (.int x1)] [] h Q) (wf : ¬ x1 < 0 → q_wp n 343 4 [some (.ref x0), some (.int x1)] [] h Q) : q_wp n 343 0 [some (.ref x0), some (.int x1)] [] h Q := by
  refine wp_loc rfl rfl ?_
  exact wp_iflt (tgt := 9) rfl (by decide) wt wf
theorem b343_4 {n : Nat} {h : q_Hp} {Q : Option Value → q_Hp → Prop} {x0 : Nat} {x1 : Int32} (wt : x1 ≤ 3 → q_wp n 343 11 [some (.ref x0), some (.int x1)] [] h Q) (wf : ¬ x1 ≤ 3 → q_wp n 343 9 [some (.ref x0), some (.int x1)] [] h Q) : q_wp n 343 4 [some (.ref x0), some (.int x1)] [] h Q := by
  refine wp_loc rfl rfl ?_
  refine wp_iconst (v := 3) rfl (by decide) ?_
  exact wp_icle (tgt := 11) rfl (by decide) wt wf
theorem b343_9 {n : Nat} {h : q_Hp} {Q : Option Value → q_Hp → Prop} {x0 : Nat} {x1 : Int32} (q : Q (some (.int 0)) h) : q_wp n 343 9 [some (.ref x0), some (.int x1)] [] h Q := by
  refine wp_iconst (v := 0) rfl (by decide) ?_
  exact wp_ret (r := some (.int 0)) rfl rfl q
theorem b343_11 {n : Nat} {h : q_Hp} {Q : Option Value → q_Hp → Prop} {x0 : Nat} {x1 : Int32} {v0 : Nat} (k0 : q_ok h x0 12) (e0 : qR h x0 89 = v0) {m : Nat} {P : q_Hp → Prop} (hc : q_mV m 292 [.ref x0, .ref v0, .int (156 * x1)] h P) (hm : m ≤ n) (w : ∀ h1 : q_Hp, P h1 → q_wp (n + 1) 343 24 [some (.ref x0), some (.int x1)] [] h1 Q) : q_wp (n + 1) 343 11 [some (.ref x0), some (.int x1)] [] h Q := by
  refine wp_loc rfl rfl ?_
  refine wp_loc rfl rfl ?_
  refine wp_getR rfl rfl rfl rfl k0 e0 ?_
  refine wp_sipush (v := 156) rfl (by decide) ?_
  refine wp_loc rfl rfl ?_
  refine wp_stk rfl rfl rfl ?_
  exact wp_callV (av := [.ref x0, .ref v0, .int (156 * x1)]) rfl rfl rfl (by decide) rfl rfl rfl hm hc w
theorem b343_24 {n : Nat} {h : q_Hp} {Q : Option Value → q_Hp → Prop} {x0 : Nat} {x1 : Int32} {v0 : Nat} (k0 : q_ok h x0 12) (e0 : qR h x0 90 = v0) (k1 : q_ok h v0 23) (i0 : q_in x1 (qK h v0).2) (q : Q (some (.int 1)) (q_sA h v0 x1.toNatClampNeg (vp_nar .boolean 1))) : q_wp n 343 24 [some (.ref x0), some (.int x1)] [] h Q := by
  refine wp_loc rfl rfl ?_
  refine wp_getR rfl rfl rfl rfl k0 e0 ?_
  refine wp_loc rfl rfl ?_
  refine wp_iconst (v := 1) rfl (by decide) ?_
  refine wp_zast rfl k1 i0 ?_
  refine wp_iconst (v := 1) rfl (by decide) ?_
  exact wp_ret (r := some (.int 1)) rfl rfl q
theorem b344_0 {n : Nat} {h : q_Hp} {Q : Option Value → q_Hp → Prop} {x0 : Nat} {x1 : Int32} {x2 : Int32} {x3 : Int32} {x4 : Int32} (w : q_wp n 344 6 [some (.ref x0), some (.int x1), some (.int x2), some (.int x3), some (.int x4), some (.int 0), some (.int 0)] [] h Q) : q_wp n 344 0 [some (.ref x0), some (.int x1), some (.int x2), some (.int x3), some (.int x4), none, none] [] h Q := by
  refine wp_iconst (v := 0) rfl (by decide) ?_
  refine wp_loc rfl rfl ?_
  refine wp_iconst (v := 0) rfl (by decide) ?_
  refine wp_loc rfl rfl ?_
  exact w
theorem b344_6 {n : Nat} {h : q_Hp} {Q : Option Value → q_Hp → Prop} {x0 : Nat} {x1 : Int32} {x2 : Int32} {x3 : Int32} {x4 : Int32} {x5 : Int32} {x6 : Int32} (wt : 40 ≤ x6 → q_wp n 344 127 [some (.ref x0), some (.int x1), some (.int x2), some (.int x3), some (.int x4), some (.int x5), some (.int x6)] [] h Q) (wf : ¬ 40 ≤ x6 → q_wp n 344 13 [some (.ref x0), some (.int x1), some (.int x2), some (.int x3), some (.int x4), some (.int x5), some (.int x6)] [] h Q) : q_wp n 344 6 [some (.ref x0), some (.int x1), some (.int x2), some (.int x3), some (.int x4), some (.int x5), some (.int x6)] [] h Q := by
  refine wp_loc rfl rfl ?_
  refine wp_bipush (v := 40) rfl (by decide) ?_
  exact wp_icge (tgt := 127) rfl (by decide) wt wf
theorem b344_13 {n : Nat} {h : q_Hp} {Q : Option Value → q_Hp → Prop} {x0 : Nat} {x1 : Int32} {x2 : Int32} {x3 : Int32} {x4 : Int32} {x5 : Int32} {x6 : Int32} (wt : ¬ x4 = (-1) → q_wp n 344 67 [some (.ref x0), some (.int x1), some (.int x2), some (.int x3), some (.int x4), some (.int x5), some (.int x6)] [] h Q) (wf : x4 = (-1) → q_wp n 344 19 [some (.ref x0), some (.int x1), some (.int x2), some (.int x3), some (.int x4), some (.int x5), some (.int x6)] [] h Q) : q_wp n 344 13 [some (.ref x0), some (.int x1), some (.int x2), some (.int x3), some (.int x4), some (.int x5), some (.int x6)] [] h Q := by
  refine wp_loc rfl rfl ?_
  refine wp_iconst (v := (-1)) rfl (by decide) ?_
  exact wp_icne (tgt := 67) rfl (by decide) wt wf
theorem b344_19 {n : Nat} {h : q_Hp} {Q : Option Value → q_Hp → Prop} {x0 : Nat} {x1 : Int32} {x2 : Int32} {x3 : Int32} {x4 : Int32} {x5 : Int32} {x6 : Int32} {v0 : Nat} (k0 : q_ok h x0 12) (e0 : qR h x0 87 = v0) (k1 : q_ok h v0 20) (i0 : q_in (36 + x6) (qK h v0).2) (wt : ¬ (qA h v0 ((36 + x6 : Int32).toNatClampNeg)) = x1 → q_wp n 344 121 [some (.ref x0), some (.int x1), some (.int x2), some (.int x3), some (.int x4), some (.int x5), some (.int x6)] [] h Q) (wf : (qA h v0 ((36 + x6 : Int32).toNatClampNeg)) = x1 → q_wp n 344 33 [some (.ref x0), some (.int x1), some (.int x2), some (.int x3), some (.int x4), some (.int x5), some (.int x6)] [] h Q) : q_wp n 344 19 [some (.ref x0), some (.int x1), some (.int x2), some (.int x3), some (.int x4), some (.int x5), some (.int x6)] [] h Q := by
  refine wp_loc rfl rfl ?_
  refine wp_getR rfl rfl rfl rfl k0 e0 ?_
  refine wp_bipush (v := 36) rfl (by decide) ?_
  refine wp_loc rfl rfl ?_
  refine wp_stk rfl rfl rfl ?_
  refine wp_iald rfl k1 i0 ?_
  refine wp_loc rfl rfl ?_
  exact wp_icne (tgt := 121) rfl (by decide) wt wf
theorem b344_33 {n : Nat} {h : q_Hp} {Q : Option Value → q_Hp → Prop} {x0 : Nat} {x1 : Int32} {x2 : Int32} {x3 : Int32} {x4 : Int32} {x5 : Int32} {x6 : Int32} {v0 : Nat} (k0 : q_ok h x0 12) (e0 : qR h x0 87 = v0) (k1 : q_ok h v0 20) (i0 : q_in (76 + x6) (qK h v0).2) (wt : ¬ (qA h v0 ((76 + x6 : Int32).toNatClampNeg)) = x2 → q_wp n 344 121 [some (.ref x0), some (.int x1), some (.int x2), some (.int x3), some (.int x4), some (.int x5), some (.int x6)] [] h Q) (wf : (qA h v0 ((76 + x6 : Int32).toNatClampNeg)) = x2 → q_wp n 344 47 [some (.ref x0), some (.int x1), some (.int x2), some (.int x3), some (.int x4), some (.int x5), some (.int x6)] [] h Q) : q_wp n 344 33 [some (.ref x0), some (.int x1), some (.int x2), some (.int x3), some (.int x4), some (.int x5), some (.int x6)] [] h Q := by
  refine wp_loc rfl rfl ?_
  refine wp_getR rfl rfl rfl rfl k0 e0 ?_
  refine wp_bipush (v := 76) rfl (by decide) ?_
  refine wp_loc rfl rfl ?_
  refine wp_stk rfl rfl rfl ?_
  refine wp_iald rfl k1 i0 ?_
  refine wp_loc rfl rfl ?_
  exact wp_icne (tgt := 121) rfl (by decide) wt wf
theorem b344_47 {n : Nat} {h : q_Hp} {Q : Option Value → q_Hp → Prop} {x0 : Nat} {x1 : Int32} {x2 : Int32} {x3 : Int32} {x4 : Int32} {x5 : Int32} {x6 : Int32} {v0 : Nat} (k0 : q_ok h x0 12) (e0 : qR h x0 87 = v0) (k1 : q_ok h v0 20) (i0 : q_in (116 + x6) (qK h v0).2) (wt : ¬ (qA h v0 ((116 + x6 : Int32).toNatClampNeg)) = x3 → q_wp n 344 121 [some (.ref x0), some (.int x1), some (.int x2), some (.int x3), some (.int x4), some (.int x5), some (.int x6)] [] h Q) (wf : (qA h v0 ((116 + x6 : Int32).toNatClampNeg)) = x3 → q_wp n 344 61 [some (.ref x0), some (.int x1), some (.int x2), some (.int x3), some (.int x4), some (.int x5), some (.int x6)] [] h Q) : q_wp n 344 47 [some (.ref x0), some (.int x1), some (.int x2), some (.int x3), some (.int x4), some (.int x5), some (.int x6)] [] h Q := by
  refine wp_loc rfl rfl ?_
  refine wp_getR rfl rfl rfl rfl k0 e0 ?_
  refine wp_bipush (v := 116) rfl (by decide) ?_
  refine wp_loc rfl rfl ?_
  refine wp_stk rfl rfl rfl ?_
  refine wp_iald rfl k1 i0 ?_
  refine wp_loc rfl rfl ?_
  exact wp_icne (tgt := 121) rfl (by decide) wt wf
theorem b344_61 {n : Nat} {h : q_Hp} {Q : Option Value → q_Hp → Prop} {x0 : Nat} {x1 : Int32} {x2 : Int32} {x3 : Int32} {x4 : Int32} {x5 : Int32} {x6 : Int32} (w : q_wp n 344 121 [some (.ref x0), some (.int x1), some (.int x2), some (.int x3), some (.int x4), some (.int (x5 + 1)), some (.int x6)] [] h Q) : q_wp n 344 61 [some (.ref x0), some (.int x1), some (.int x2), some (.int x3), some (.int x4), some (.int x5), some (.int x6)] [] h Q := by
  refine wp_iinc (v := 1) rfl rfl (by decide) rfl ?_
  refine wp_goto (tgt := 121) rfl (by decide) ?_
  exact w
theorem b344_67 {n : Nat} {h : q_Hp} {Q : Option Value → q_Hp → Prop} {x0 : Nat} {x1 : Int32} {x2 : Int32} {x3 : Int32} {x4 : Int32} {x5 : Int32} {x6 : Int32} {v0 : Nat} (k0 : q_ok h x0 12) (e0 : qR h x0 89 = v0) (k1 : q_ok h v0 20) (i0 : q_in ((x4 + 36) + x6) (qK h v0).2) (wt : ¬ (qA h v0 (((x4 + 36) + x6 : Int32).toNatClampNeg)) = x1 → q_wp n 344 121 [some (.ref x0), some (.int x1), some (.int x2), some (.int x3), some (.int x4), some (.int x5), some (.int x6)] [] h Q) (wf : (qA h v0 (((x4 + 36) + x6 : Int32).toNatClampNeg)) = x1 → q_wp n 344 84 [some (.ref x0), some (.int x1), some (.int x2), some (.int x3), some (.int x4), some (.int x5), some (.int x6)] [] h Q) : q_wp n 344 67 [some (.ref x0), some (.int x1), some (.int x2), some (.int x3), some (.int x4), some (.int x5), some (.int x6)] [] h Q := by
  refine wp_loc rfl rfl ?_
  refine wp_getR rfl rfl rfl rfl k0 e0 ?_
  refine wp_loc rfl rfl ?_
  refine wp_bipush (v := 36) rfl (by decide) ?_
  refine wp_stk rfl rfl rfl ?_
  refine wp_loc rfl rfl ?_
  refine wp_stk rfl rfl rfl ?_
  refine wp_iald rfl k1 i0 ?_
  refine wp_loc rfl rfl ?_
  exact wp_icne (tgt := 121) rfl (by decide) wt wf
theorem b344_84 {n : Nat} {h : q_Hp} {Q : Option Value → q_Hp → Prop} {x0 : Nat} {x1 : Int32} {x2 : Int32} {x3 : Int32} {x4 : Int32} {x5 : Int32} {x6 : Int32} {v0 : Nat} (k0 : q_ok h x0 12) (e0 : qR h x0 89 = v0) (k1 : q_ok h v0 20) (i0 : q_in ((x4 + 76) + x6) (qK h v0).2) (wt : ¬ (qA h v0 (((x4 + 76) + x6 : Int32).toNatClampNeg)) = x2 → q_wp n 344 121 [some (.ref x0), some (.int x1), some (.int x2), some (.int x3), some (.int x4), some (.int x5), some (.int x6)] [] h Q) (wf : (qA h v0 (((x4 + 76) + x6 : Int32).toNatClampNeg)) = x2 → q_wp n 344 101 [some (.ref x0), some (.int x1), some (.int x2), some (.int x3), some (.int x4), some (.int x5), some (.int x6)] [] h Q) : q_wp n 344 84 [some (.ref x0), some (.int x1), some (.int x2), some (.int x3), some (.int x4), some (.int x5), some (.int x6)] [] h Q := by
  refine wp_loc rfl rfl ?_
  refine wp_getR rfl rfl rfl rfl k0 e0 ?_
  refine wp_loc rfl rfl ?_
  refine wp_bipush (v := 76) rfl (by decide) ?_
  refine wp_stk rfl rfl rfl ?_
  refine wp_loc rfl rfl ?_
  refine wp_stk rfl rfl rfl ?_
  refine wp_iald rfl k1 i0 ?_
  refine wp_loc rfl rfl ?_
  exact wp_icne (tgt := 121) rfl (by decide) wt wf
theorem b344_101 {n : Nat} {h : q_Hp} {Q : Option Value → q_Hp → Prop} {x0 : Nat} {x1 : Int32} {x2 : Int32} {x3 : Int32} {x4 : Int32} {x5 : Int32} {x6 : Int32} {v0 : Nat} (k0 : q_ok h x0 12) (e0 : qR h x0 89 = v0) (k1 : q_ok h v0 20) (i0 : q_in ((x4 + 116) + x6) (qK h v0).2) (wt : ¬ (qA h v0 (((x4 + 116) + x6 : Int32).toNatClampNeg)) = x3 → q_wp n 344 121 [some (.ref x0), some (.int x1), some (.int x2), some (.int x3), some (.int x4), some (.int x5), some (.int x6)] [] h Q) (wf : (qA h v0 (((x4 + 116) + x6 : Int32).toNatClampNeg)) = x3 → q_wp n 344 118 [some (.ref x0), some (.int x1), some (.int x2), some (.int x3), some (.int x4), some (.int x5), some (.int x6)] [] h Q) : q_wp n 344 101 [some (.ref x0), some (.int x1), some (.int x2), some (.int x3), some (.int x4), some (.int x5), some (.int x6)] [] h Q := by
  refine wp_loc rfl rfl ?_
  refine wp_getR rfl rfl rfl rfl k0 e0 ?_
  refine wp_loc rfl rfl ?_
  refine wp_bipush (v := 116) rfl (by decide) ?_
  refine wp_stk rfl rfl rfl ?_
  refine wp_loc rfl rfl ?_
  refine wp_stk rfl rfl rfl ?_
  refine wp_iald rfl k1 i0 ?_
  refine wp_loc rfl rfl ?_
  exact wp_icne (tgt := 121) rfl (by decide) wt wf
theorem b344_118 {n : Nat} {h : q_Hp} {Q : Option Value → q_Hp → Prop} {x0 : Nat} {x1 : Int32} {x2 : Int32} {x3 : Int32} {x4 : Int32} {x5 : Int32} {x6 : Int32} (w : q_wp n 344 121 [some (.ref x0), some (.int x1), some (.int x2), some (.int x3), some (.int x4), some (.int (x5 + 1)), some (.int x6)] [] h Q) : q_wp n 344 118 [some (.ref x0), some (.int x1), some (.int x2), some (.int x3), some (.int x4), some (.int x5), some (.int x6)] [] h Q := by
  refine wp_iinc (v := 1) rfl rfl (by decide) rfl ?_
  exact w
theorem b344_121 {n : Nat} {h : q_Hp} {Q : Option Value → q_Hp → Prop} {x0 : Nat} {x1 : Int32} {x2 : Int32} {x3 : Int32} {x4 : Int32} {x5 : Int32} {x6 : Int32} (w : q_wp n 344 6 [some (.ref x0), some (.int x1), some (.int x2), some (.int x3), some (.int x4), some (.int x5), some (.int (x6 + 1))] [] h Q) : q_wp n 344 121 [some (.ref x0), some (.int x1), some (.int x2), some (.int x3), some (.int x4), some (.int x5), some (.int x6)] [] h Q := by
  refine wp_iinc (v := 1) rfl rfl (by decide) rfl ?_
  refine wp_goto (tgt := 6) rfl (by decide) ?_
  exact w
theorem b344_127 {n : Nat} {h : q_Hp} {Q : Option Value → q_Hp → Prop} {x0 : Nat} {x1 : Int32} {x2 : Int32} {x3 : Int32} {x4 : Int32} {x5 : Int32} {x6 : Int32} (q : Q (some (.int x5)) h) : q_wp n 344 127 [some (.ref x0), some (.int x1), some (.int x2), some (.int x3), some (.int x4), some (.int x5), some (.int x6)] [] h Q := by
  refine wp_loc rfl rfl ?_
  exact wp_ret rfl rfl q
set_option maxRecDepth 20000 in
theorem b345_0 {n : Nat} {h : q_Hp} {Q : Option Value → q_Hp → Prop} {x0 : Nat} {x1 : Int32} {x2 : Int32} {v0 : Nat} {v1 : Nat} {v2 : Nat} {v3 : Nat} {v4 : Nat} (k0 : q_ok h x0 12) (e0 : qR h x0 114 = v0) (k1 : q_ok h v0 20) (i0 : q_in x1 (qK h v0).2) (e1 : qR h x0 115 = v1) (e2 : qR h x0 116 = v2) (k2 : q_ok h v2 20) (i1 : q_in x1 (qK h v2).2) (k3 : q_ok h v1 20) (i2 : q_in (qA h v2 x1.toNatClampNeg) (qK h v1).2) (e3 : qR h x0 87 = v3) (k4 : q_ok h v3 20) (i3 : q_in (qA h v0 x1.toNatClampNeg) (qK h v3).2) (e4 : qR h x0 89 = v4) (k5 : q_ok h v4 20) (i4 : q_in (x2 + (qA h v1 ((qA h v2 x1.toNatClampNeg : Int32).toNatClampNeg))) (qK h v4).2) (wt : ¬ (qA h v3 ((qA h v0 x1.toNatClampNeg : Int32).toNatClampNeg)) = (qA h v4 ((x2 + (qA h v1 ((qA h v2 x1.toNatClampNeg : Int32).toNatClampNeg)) : Int32).toNatClampNeg)) → q_wp n 345 86 [some (.ref x0), some (.int x1), some (.int x2), some (.int (qA h v0 x1.toNatClampNeg)), some (.int (qA h v1 ((qA h v2 x1.toNatClampNeg : Int32).toNatClampNeg))), none, none, none, none] [] h Q) (wf : (qA h v3 ((qA h v0 x1.toNatClampNeg : Int32).toNatClampNeg)) = (qA h v4 ((x2 + (qA h v1 ((qA h v2 x1.toNatClampNeg : Int32).toNatClampNeg)) : Int32).toNatClampNeg)) → q_wp n 345 38 [some (.ref x0), some (.int x1), some (.int x2), some (.int (qA h v0 x1.toNatClampNeg)), some (.int (qA h v1 ((qA h v2 x1.toNatClampNeg : Int32).toNatClampNeg))), none, none, none, none] [] h Q) : q_wp n 345 0 [some (.ref x0), some (.int x1), some (.int x2), none, none, none, none, none, none] [] h Q := by
  refine wp_loc rfl rfl ?_
  refine wp_getR rfl rfl rfl rfl k0 e0 ?_
  refine wp_loc rfl rfl ?_
  refine wp_iald rfl k1 i0 ?_
  refine wp_loc rfl rfl ?_
  refine wp_loc rfl rfl ?_
  refine wp_getR rfl rfl rfl rfl k0 e1 ?_
  refine wp_loc rfl rfl ?_
  refine wp_getR rfl rfl rfl rfl k0 e2 ?_
  refine wp_loc rfl rfl ?_
  refine wp_iald rfl k2 i1 ?_
  refine wp_iald rfl k3 i2 ?_
  refine wp_loc rfl rfl ?_
  refine wp_loc rfl rfl ?_
  refine wp_getR rfl rfl rfl rfl k0 e3 ?_
  refine wp_loc rfl rfl ?_
  refine wp_iald rfl k4 i3 ?_
  refine wp_loc rfl rfl ?_
  refine wp_getR rfl rfl rfl rfl k0 e4 ?_
  refine wp_loc rfl rfl ?_
  refine wp_loc rfl rfl ?_
  refine wp_stk rfl rfl rfl ?_
  refine wp_iald rfl k5 i4 ?_
  exact wp_icne (tgt := 86) rfl (by decide) wt wf
set_option maxRecDepth 20000 in
theorem b345_38 {n : Nat} {h : q_Hp} {Q : Option Value → q_Hp → Prop} {x0 : Nat} {x1 : Int32} {x2 : Int32} {x3 : Int32} {x4 : Int32} {v0 : Nat} {v1 : Nat} (k0 : q_ok h x0 12) (e0 : qR h x0 87 = v0) (k1 : q_ok h v0 20) (i0 : q_in (12 + x3) (qK h v0).2) (e1 : qR h x0 89 = v1) (k2 : q_ok h v1 20) (i1 : q_in ((x2 + 12) + x4) (qK h v1).2) (wt : ¬ (qA h v0 ((12 + x3 : Int32).toNatClampNeg)) = (qA h v1 (((x2 + 12) + x4 : Int32).toNatClampNeg)) → q_wp n 345 86 [some (.ref x0), some (.int x1), some (.int x2), some (.int x3), some (.int x4), none, none, none, none] [] h Q) (wf : (qA h v0 ((12 + x3 : Int32).toNatClampNeg)) = (qA h v1 (((x2 + 12) + x4 : Int32).toNatClampNeg)) → q_wp n 345 62 [some (.ref x0), some (.int x1), some (.int x2), some (.int x3), some (.int x4), none, none, none, none] [] h Q) : q_wp n 345 38 [some (.ref x0), some (.int x1), some (.int x2), some (.int x3), some (.int x4), none, none, none, none] [] h Q := by
  refine wp_loc rfl rfl ?_
  refine wp_getR rfl rfl rfl rfl k0 e0 ?_
  refine wp_bipush (v := 12) rfl (by decide) ?_
  refine wp_loc rfl rfl ?_
  refine wp_stk rfl rfl rfl ?_
  refine wp_iald rfl k1 i0 ?_
  refine wp_loc rfl rfl ?_
  refine wp_getR rfl rfl rfl rfl k0 e1 ?_
  refine wp_loc rfl rfl ?_
  refine wp_bipush (v := 12) rfl (by decide) ?_
  refine wp_stk rfl rfl rfl ?_
  refine wp_loc rfl rfl ?_
  refine wp_stk rfl rfl rfl ?_
  refine wp_iald rfl k2 i1 ?_
  exact wp_icne (tgt := 86) rfl (by decide) wt wf
set_option maxRecDepth 20000 in
theorem b345_62 {n : Nat} {h : q_Hp} {Q : Option Value → q_Hp → Prop} {x0 : Nat} {x1 : Int32} {x2 : Int32} {x3 : Int32} {x4 : Int32} {v0 : Nat} {v1 : Nat} (k0 : q_ok h x0 12) (e0 : qR h x0 87 = v0) (k1 : q_ok h v0 20) (i0 : q_in (24 + x3) (qK h v0).2) (e1 : qR h x0 89 = v1) (k2 : q_ok h v1 20) (i1 : q_in ((x2 + 24) + x4) (qK h v1).2) (wt : (qA h v0 ((24 + x3 : Int32).toNatClampNeg)) = (qA h v1 (((x2 + 24) + x4 : Int32).toNatClampNeg)) → q_wp n 345 88 [some (.ref x0), some (.int x1), some (.int x2), some (.int x3), some (.int x4), none, none, none, none] [] h Q) (wf : ¬ (qA h v0 ((24 + x3 : Int32).toNatClampNeg)) = (qA h v1 (((x2 + 24) + x4 : Int32).toNatClampNeg)) → q_wp n 345 86 [some (.ref x0), some (.int x1), some (.int x2), some (.int x3), some (.int x4), none, none, none, none] [] h Q) : q_wp n 345 62 [some (.ref x0), some (.int x1), some (.int x2), some (.int x3), some (.int x4), none, none, none, none] [] h Q := by
  refine wp_loc rfl rfl ?_
  refine wp_getR rfl rfl rfl rfl k0 e0 ?_
  refine wp_bipush (v := 24) rfl (by decide) ?_
  refine wp_loc rfl rfl ?_
  refine wp_stk rfl rfl rfl ?_
  refine wp_iald rfl k1 i0 ?_
  refine wp_loc rfl rfl ?_
  refine wp_getR rfl rfl rfl rfl k0 e1 ?_
  refine wp_loc rfl rfl ?_
  refine wp_bipush (v := 24) rfl (by decide) ?_
  refine wp_stk rfl rfl rfl ?_
  refine wp_loc rfl rfl ?_
  refine wp_stk rfl rfl rfl ?_
  refine wp_iald rfl k2 i1 ?_
  exact wp_iceq (tgt := 88) rfl (by decide) wt wf
set_option maxRecDepth 20000 in
theorem b345_86 {n : Nat} {h : q_Hp} {Q : Option Value → q_Hp → Prop} {x0 : Nat} {x1 : Int32} {x2 : Int32} {x3 : Int32} {x4 : Int32} (q : Q (some (.int 0)) h) : q_wp n 345 86 [some (.ref x0), some (.int x1), some (.int x2), some (.int x3), some (.int x4), none, none, none, none] [] h Q := by
  refine wp_iconst (v := 0) rfl (by decide) ?_
  exact wp_ret (r := some (.int 0)) rfl rfl q
set_option maxRecDepth 20000 in
theorem b345_88 {n : Nat} {h : q_Hp} {Q : Option Value → q_Hp → Prop} {x0 : Nat} {x1 : Int32} {x2 : Int32} {x3 : Int32} {x4 : Int32} (w : q_wp n 345 91 [some (.ref x0), some (.int x1), some (.int x2), some (.int x3), some (.int x4), some (.int 0), none, none, none] [] h Q) : q_wp n 345 88 [some (.ref x0), some (.int x1), some (.int x2), some (.int x3), some (.int x4), none, none, none, none] [] h Q := by
  refine wp_iconst (v := 0) rfl (by decide) ?_
  refine wp_loc rfl rfl ?_
  exact w
set_option maxRecDepth 20000 in
theorem b345_91 {n : Nat} {h : q_Hp} {Q : Option Value → q_Hp → Prop} {x0 : Nat} {x1 : Int32} {x2 : Int32} {x3 : Int32} {x4 : Int32} {x5 : Int32} (wt : x1 ≤ x5 → q_wp n 345 121 [some (.ref x0), some (.int x1), some (.int x2), some (.int x3), some (.int x4), some (.int x5), none, none, none] [] h Q) (wf : ¬ x1 ≤ x5 → q_wp n 345 97 [some (.ref x0), some (.int x1), some (.int x2), some (.int x3), some (.int x4), some (.int x5), none, none, none] [] h Q) : q_wp n 345 91 [some (.ref x0), some (.int x1), some (.int x2), some (.int x3), some (.int x4), some (.int x5), none, none, none] [] h Q := by
  refine wp_loc rfl rfl ?_
  refine wp_loc rfl rfl ?_
  exact wp_icge (tgt := 121) rfl (by decide) wt wf
set_option maxRecDepth 20000 in
theorem b345_97 {n : Nat} {h : q_Hp} {Q : Option Value → q_Hp → Prop} {x0 : Nat} {x1 : Int32} {x2 : Int32} {x3 : Int32} {x4 : Int32} {x5 : Int32} {v0 : Nat} (k0 : q_ok h x0 12) (e0 : qR h x0 116 = v0) (k1 : q_ok h v0 20) (i0 : q_in x5 (qK h v0).2) (i1 : q_in x1 (qK h v0).2) (wt : ¬ (qA h v0 x5.toNatClampNeg) = (qA h v0 x1.toNatClampNeg) → q_wp n 345 115 [some (.ref x0), some (.int x1), some (.int x2), some (.int x3), some (.int x4), some (.int x5), none, none, none] [] h Q) (wf : (qA h v0 x5.toNatClampNeg) = (qA h v0 x1.toNatClampNeg) → q_wp n 345 113 [some (.ref x0), some (.int x1), some (.int x2), some (.int x3), some (.int x4), some (.int x5), none, none, none] [] h Q) : q_wp n 345 97 [some (.ref x0), some (.int x1), some (.int x2), some (.int x3), some (.int x4), some (.int x5), none, none, none] [] h Q := by
  refine wp_loc rfl rfl ?_
  refine wp_getR rfl rfl rfl rfl k0 e0 ?_
  refine wp_loc rfl rfl ?_
  refine wp_iald rfl k1 i0 ?_
  refine wp_loc rfl rfl ?_
  refine wp_getR rfl rfl rfl rfl k0 e0 ?_
  refine wp_loc rfl rfl ?_
  refine wp_iald rfl k1 i1 ?_
  exact wp_icne (tgt := 115) rfl (by decide) wt wf
set_option maxRecDepth 20000 in
theorem b345_113 {n : Nat} {h : q_Hp} {Q : Option Value → q_Hp → Prop} {x0 : Nat} {x1 : Int32} {x2 : Int32} {x3 : Int32} {x4 : Int32} {x5 : Int32} (q : Q (some (.int 0)) h) : q_wp n 345 113 [some (.ref x0), some (.int x1), some (.int x2), some (.int x3), some (.int x4), some (.int x5), none, none, none] [] h Q := by
  refine wp_iconst (v := 0) rfl (by decide) ?_
  exact wp_ret (r := some (.int 0)) rfl rfl q
set_option maxRecDepth 20000 in
theorem b345_115 {n : Nat} {h : q_Hp} {Q : Option Value → q_Hp → Prop} {x0 : Nat} {x1 : Int32} {x2 : Int32} {x3 : Int32} {x4 : Int32} {x5 : Int32} (w : q_wp n 345 91 [some (.ref x0), some (.int x1), some (.int x2), some (.int x3), some (.int x4), some (.int (x5 + 1)), none, none, none] [] h Q) : q_wp n 345 115 [some (.ref x0), some (.int x1), some (.int x2), some (.int x3), some (.int x4), some (.int x5), none, none, none] [] h Q := by
  refine wp_iinc (v := 1) rfl rfl (by decide) rfl ?_
  refine wp_goto (tgt := 91) rfl (by decide) ?_
  exact w
set_option maxRecDepth 20000 in
theorem b345_121 {n : Nat} {h : q_Hp} {Q : Option Value → q_Hp → Prop} {x0 : Nat} {x1 : Int32} {x2 : Int32} {x3 : Int32} {x4 : Int32} {x5 : Int32} (w : q_wp n 345 124 [some (.ref x0), some (.int x1), some (.int x2), some (.int x3), some (.int x4), some (.int 0), none, none, none] [] h Q) : q_wp n 345 121 [some (.ref x0), some (.int x1), some (.int x2), some (.int x3), some (.int x4), some (.int x5), none, none, none] [] h Q := by
  refine wp_iconst (v := 0) rfl (by decide) ?_
  refine wp_loc rfl rfl ?_
  exact w
set_option maxRecDepth 20000 in
theorem b345_124 {n : Nat} {h : q_Hp} {Q : Option Value → q_Hp → Prop} {x0 : Nat} {x1 : Int32} {x2 : Int32} {x3 : Int32} {x4 : Int32} {x5 : Int32} {l6 : Option Value} {l7 : Option Value} {l8 : Option Value} (wt : x1 < x5 → q_wp n 345 227 [some (.ref x0), some (.int x1), some (.int x2), some (.int x3), some (.int x4), some (.int x5), l6, l7, l8] [] h Q) (wf : ¬ x1 < x5 → q_wp n 345 130 [some (.ref x0), some (.int x1), some (.int x2), some (.int x3), some (.int x4), some (.int x5), l6, l7, l8] [] h Q) : q_wp n 345 124 [some (.ref x0), some (.int x1), some (.int x2), some (.int x3), some (.int x4), some (.int x5), l6, l7, l8] [] h Q := by
  refine wp_loc rfl rfl ?_
  refine wp_loc rfl rfl ?_
  exact wp_icgt (tgt := 227) rfl (by decide) wt wf
set_option maxRecDepth 20000 in
theorem b345_130 {n : Nat} {h : q_Hp} {Q : Option Value → q_Hp → Prop} {x0 : Nat} {x1 : Int32} {x2 : Int32} {x3 : Int32} {x4 : Int32} {x5 : Int32} {l6 : Option Value} {l7 : Option Value} {l8 : Option Value} {v0 : Nat} {v1 : Nat} {v2 : Nat} (k0 : q_ok h x0 12) (e0 : qR h x0 114 = v0) (k1 : q_ok h v0 20) (i0 : q_in x5 (qK h v0).2) (e1 : qR h x0 115 = v1) (e2 : qR h x0 116 = v2) (k2 : q_ok h v2 20) (i1 : q_in x5 (qK h v2).2) (k3 : q_ok h v1 20) (i2 : q_in (qA h v2 x5.toNatClampNeg) (qK h v1).2) (w : q_wp n 345 156 [some (.ref x0), some (.int x1), some (.int x2), some (.int x3), some (.int x4), some (.int x5), some (.int (qA h v0 x5.toNatClampNeg)), some (.int (qA h v1 ((qA h v2 x5.toNatClampNeg : Int32).toNatClampNeg))), some (.int 0)] [] h Q) : q_wp n 345 130 [some (.ref x0), some (.int x1), some (.int x2), some (.int x3), some (.int x4), some (.int x5), l6, l7, l8] [] h Q := by
  refine wp_loc rfl rfl ?_
  refine wp_getR rfl rfl rfl rfl k0 e0 ?_
  refine wp_loc rfl rfl ?_
  refine wp_iald rfl k1 i0 ?_
  refine wp_loc rfl rfl ?_
  refine wp_loc rfl rfl ?_
  refine wp_getR rfl rfl rfl rfl k0 e1 ?_
  refine wp_loc rfl rfl ?_
  refine wp_getR rfl rfl rfl rfl k0 e2 ?_
  refine wp_loc rfl rfl ?_
  refine wp_iald rfl k2 i1 ?_
  refine wp_iald rfl k3 i2 ?_
  refine wp_loc rfl rfl ?_
  refine wp_iconst (v := 0) rfl (by decide) ?_
  refine wp_loc rfl rfl ?_
  exact w
set_option maxRecDepth 20000 in
theorem b345_156 {n : Nat} {h : q_Hp} {Q : Option Value → q_Hp → Prop} {x0 : Nat} {x1 : Int32} {x2 : Int32} {x3 : Int32} {x4 : Int32} {x5 : Int32} {x6 : Int32} {x7 : Int32} {x8 : Int32} (k0 : q_ok h x0 12) (wt : (qI h x0 25) ≤ x8 → q_wp n 345 221 [some (.ref x0), some (.int x1), some (.int x2), some (.int x3), some (.int x4), some (.int x5), some (.int x6), some (.int x7), some (.int x8)] [] h Q) (wf : ¬ (qI h x0 25) ≤ x8 → q_wp n 345 165 [some (.ref x0), some (.int x1), some (.int x2), some (.int x3), some (.int x4), some (.int x5), some (.int x6), some (.int x7), some (.int x8)] [] h Q) : q_wp n 345 156 [some (.ref x0), some (.int x1), some (.int x2), some (.int x3), some (.int x4), some (.int x5), some (.int x6), some (.int x7), some (.int x8)] [] h Q := by
  refine wp_loc rfl rfl ?_
  refine wp_loc rfl rfl ?_
  refine wp_getI rfl rfl rfl k0 ?_
  exact wp_icge (tgt := 221) rfl (by decide) wt wf
set_option maxRecDepth 20000 in
theorem b345_165 {n : Nat} {h : q_Hp} {Q : Option Value → q_Hp → Prop} {x0 : Nat} {x1 : Int32} {x2 : Int32} {x3 : Int32} {x4 : Int32} {x5 : Int32} {x6 : Int32} {x7 : Int32} {x8 : Int32} {m : Nat} {P : Int32 → q_Hp → Prop} (hc : q_mI m 344 [.ref x0, .int x8, .int x3, .int x6, .int (-1)] h P) (hm : m ≤ n) (w : ∀ (z : Int32) (h1 : q_Hp), P z h1 → q_wp (n + 1) 345 175 [some (.ref x0), some (.int x1), some (.int x2), some (.int x3), some (.int x4), some (.int x5), some (.int x6), some (.int x7), some (.int x8)] [.int z] h1 Q) : q_wp (n + 1) 345 165 [some (.ref x0), some (.int x1), some (.int x2), some (.int x3), some (.int x4), some (.int x5), some (.int x6), some (.int x7), some (.int x8)] [] h Q := by
  refine wp_loc rfl rfl ?_
  refine wp_loc rfl rfl ?_
  refine wp_loc rfl rfl ?_
  refine wp_loc rfl rfl ?_
  refine wp_iconst (v := (-1)) rfl (by decide) ?_
  exact wp_callI (av := [.ref x0, .int x8, .int x3, .int x6, .int (-1)]) rfl rfl rfl (by decide) rfl rfl rfl hm hc w
set_option maxRecDepth 20000 in
theorem b345_175 {n : Nat} {h : q_Hp} {Q : Option Value → q_Hp → Prop} {x0 : Nat} {x1 : Int32} {x2 : Int32} {x3 : Int32} {x4 : Int32} {x5 : Int32} {x6 : Int32} {x7 : Int32} {x8 : Int32} {s0 : Int32} {m : Nat} {P : Int32 → q_Hp → Prop} (hc : q_mI m 344 [.ref x0, .int x8, .int x4, .int x7, .int x2] h P) (hm : m ≤ n) (w : ∀ (z : Int32) (h1 : q_Hp), P z h1 → q_wp (n + 1) 345 186 [some (.ref x0), some (.int x1), some (.int x2), some (.int x3), some (.int x4), some (.int x5), some (.int x6), some (.int x7), some (.int x8)] [.int z, .int s0] h1 Q) : q_wp (n + 1) 345 175 [some (.ref x0), some (.int x1), some (.int x2), some (.int x3), some (.int x4), some (.int x5), some (.int x6), some (.int x7), some (.int x8)] [.int s0] h Q := by
  refine wp_loc rfl rfl ?_
  refine wp_loc rfl rfl ?_
  refine wp_loc rfl rfl ?_
  refine wp_loc rfl rfl ?_
  refine wp_loc rfl rfl ?_
  exact wp_callI (av := [.ref x0, .int x8, .int x4, .int x7, .int x2]) rfl rfl rfl (by decide) rfl rfl rfl hm hc w
set_option maxRecDepth 20000 in
theorem b345_186 {n : Nat} {h : q_Hp} {Q : Option Value → q_Hp → Prop} {x0 : Nat} {x1 : Int32} {x2 : Int32} {x3 : Int32} {x4 : Int32} {x5 : Int32} {x6 : Int32} {x7 : Int32} {x8 : Int32} {s0 : Int32} {s1 : Int32} (wt : ¬ s1 = s0 → q_wp n 345 213 [some (.ref x0), some (.int x1), some (.int x2), some (.int x3), some (.int x4), some (.int x5), some (.int x6), some (.int x7), some (.int x8)] [] h Q) (wf : s1 = s0 → q_wp n 345 189 [some (.ref x0), some (.int x1), some (.int x2), some (.int x3), some (.int x4), some (.int x5), some (.int x6), some (.int x7), some (.int x8)] [] h Q) : q_wp n 345 186 [some (.ref x0), some (.int x1), some (.int x2), some (.int x3), some (.int x4), some (.int x5), some (.int x6), some (.int x7), some (.int x8)] [.int s0, .int s1] h Q := by
  exact wp_icne (tgt := 213) rfl (by decide) wt wf
set_option maxRecDepth 20000 in
theorem b345_189 {n : Nat} {h : q_Hp} {Q : Option Value → q_Hp → Prop} {x0 : Nat} {x1 : Int32} {x2 : Int32} {x3 : Int32} {x4 : Int32} {x5 : Int32} {x6 : Int32} {x7 : Int32} {x8 : Int32} {m : Nat} {P : Int32 → q_Hp → Prop} (hc : q_mI m 344 [.ref x0, .int x8, .int x6, .int x3, .int (-1)] h P) (hm : m ≤ n) (w : ∀ (z : Int32) (h1 : q_Hp), P z h1 → q_wp (n + 1) 345 199 [some (.ref x0), some (.int x1), some (.int x2), some (.int x3), some (.int x4), some (.int x5), some (.int x6), some (.int x7), some (.int x8)] [.int z] h1 Q) : q_wp (n + 1) 345 189 [some (.ref x0), some (.int x1), some (.int x2), some (.int x3), some (.int x4), some (.int x5), some (.int x6), some (.int x7), some (.int x8)] [] h Q := by
  refine wp_loc rfl rfl ?_
  refine wp_loc rfl rfl ?_
  refine wp_loc rfl rfl ?_
  refine wp_loc rfl rfl ?_
  refine wp_iconst (v := (-1)) rfl (by decide) ?_
  exact wp_callI (av := [.ref x0, .int x8, .int x6, .int x3, .int (-1)]) rfl rfl rfl (by decide) rfl rfl rfl hm hc w
set_option maxRecDepth 20000 in
theorem b345_199 {n : Nat} {h : q_Hp} {Q : Option Value → q_Hp → Prop} {x0 : Nat} {x1 : Int32} {x2 : Int32} {x3 : Int32} {x4 : Int32} {x5 : Int32} {x6 : Int32} {x7 : Int32} {x8 : Int32} {s0 : Int32} {m : Nat} {P : Int32 → q_Hp → Prop} (hc : q_mI m 344 [.ref x0, .int x8, .int x7, .int x4, .int x2] h P) (hm : m ≤ n) (w : ∀ (z : Int32) (h1 : q_Hp), P z h1 → q_wp (n + 1) 345 210 [some (.ref x0), some (.int x1), some (.int x2), some (.int x3), some (.int x4), some (.int x5), some (.int x6), some (.int x7), some (.int x8)] [.int z, .int s0] h1 Q) : q_wp (n + 1) 345 199 [some (.ref x0), some (.int x1), some (.int x2), some (.int x3), some (.int x4), some (.int x5), some (.int x6), some (.int x7), some (.int x8)] [.int s0] h Q := by
  refine wp_loc rfl rfl ?_
  refine wp_loc rfl rfl ?_
  refine wp_loc rfl rfl ?_
  refine wp_loc rfl rfl ?_
  refine wp_loc rfl rfl ?_
  exact wp_callI (av := [.ref x0, .int x8, .int x7, .int x4, .int x2]) rfl rfl rfl (by decide) rfl rfl rfl hm hc w
set_option maxRecDepth 20000 in
theorem b345_210 {n : Nat} {h : q_Hp} {Q : Option Value → q_Hp → Prop} {x0 : Nat} {x1 : Int32} {x2 : Int32} {x3 : Int32} {x4 : Int32} {x5 : Int32} {x6 : Int32} {x7 : Int32} {x8 : Int32} {s0 : Int32} {s1 : Int32} (wt : s1 = s0 → q_wp n 345 215 [some (.ref x0), some (.int x1), some (.int x2), some (.int x3), some (.int x4), some (.int x5), some (.int x6), some (.int x7), some (.int x8)] [] h Q) (wf : ¬ s1 = s0 → q_wp n 345 213 [some (.ref x0), some (.int x1), some (.int x2), some (.int x3), some (.int x4), some (.int x5), some (.int x6), some (.int x7), some (.int x8)] [] h Q) : q_wp n 345 210 [some (.ref x0), some (.int x1), some (.int x2), some (.int x3), some (.int x4), some (.int x5), some (.int x6), some (.int x7), some (.int x8)] [.int s0, .int s1] h Q := by
  exact wp_iceq (tgt := 215) rfl (by decide) wt wf
set_option maxRecDepth 20000 in
theorem b345_213 {n : Nat} {h : q_Hp} {Q : Option Value → q_Hp → Prop} {x0 : Nat} {x1 : Int32} {x2 : Int32} {x3 : Int32} {x4 : Int32} {x5 : Int32} {x6 : Int32} {x7 : Int32} {x8 : Int32} (q : Q (some (.int 0)) h) : q_wp n 345 213 [some (.ref x0), some (.int x1), some (.int x2), some (.int x3), some (.int x4), some (.int x5), some (.int x6), some (.int x7), some (.int x8)] [] h Q := by
  refine wp_iconst (v := 0) rfl (by decide) ?_
  exact wp_ret (r := some (.int 0)) rfl rfl q
set_option maxRecDepth 20000 in
theorem b345_215 {n : Nat} {h : q_Hp} {Q : Option Value → q_Hp → Prop} {x0 : Nat} {x1 : Int32} {x2 : Int32} {x3 : Int32} {x4 : Int32} {x5 : Int32} {x6 : Int32} {x7 : Int32} {x8 : Int32} (w : q_wp n 345 156 [some (.ref x0), some (.int x1), some (.int x2), some (.int x3), some (.int x4), some (.int x5), some (.int x6), some (.int x7), some (.int (x8 + 1))] [] h Q) : q_wp n 345 215 [some (.ref x0), some (.int x1), some (.int x2), some (.int x3), some (.int x4), some (.int x5), some (.int x6), some (.int x7), some (.int x8)] [] h Q := by
  refine wp_iinc (v := 1) rfl rfl (by decide) rfl ?_
  refine wp_goto (tgt := 156) rfl (by decide) ?_
  exact w
set_option maxRecDepth 20000 in
theorem b345_221 {n : Nat} {h : q_Hp} {Q : Option Value → q_Hp → Prop} {x0 : Nat} {x1 : Int32} {x2 : Int32} {x3 : Int32} {x4 : Int32} {x5 : Int32} {x6 : Int32} {x7 : Int32} {x8 : Int32} (w : q_wp n 345 124 [some (.ref x0), some (.int x1), some (.int x2), some (.int x3), some (.int x4), some (.int (x5 + 1)), some (.int x6), some (.int x7), some (.int x8)] [] h Q) : q_wp n 345 221 [some (.ref x0), some (.int x1), some (.int x2), some (.int x3), some (.int x4), some (.int x5), some (.int x6), some (.int x7), some (.int x8)] [] h Q := by
  refine wp_iinc (v := 1) rfl rfl (by decide) rfl ?_
  refine wp_goto (tgt := 124) rfl (by decide) ?_
  exact w
set_option maxRecDepth 20000 in
theorem b345_227 {n : Nat} {h : q_Hp} {Q : Option Value → q_Hp → Prop} {x0 : Nat} {x1 : Int32} {x2 : Int32} {x3 : Int32} {x4 : Int32} {x5 : Int32} {l6 : Option Value} {l7 : Option Value} {l8 : Option Value} (q : Q (some (.int 1)) h) : q_wp n 345 227 [some (.ref x0), some (.int x1), some (.int x2), some (.int x3), some (.int x4), some (.int x5), l6, l7, l8] [] h Q := by
  refine wp_iconst (v := 1) rfl (by decide) ?_
  exact wp_ret (r := some (.int 1)) rfl rfl q
theorem b346_0 {n : Nat} {h : q_Hp} {Q : Option Value → q_Hp → Prop} {x0 : Nat} {x1 : Int32} (wt : x1 < 0 → q_wp n 346 18 [some (.ref x0), some (.int x1), none, none, none, none] [] h Q) (wf : ¬ x1 < 0 → q_wp n 346 4 [some (.ref x0), some (.int x1), none, none, none, none] [] h Q) : q_wp n 346 0 [some (.ref x0), some (.int x1), none, none, none, none] [] h Q := by
  refine wp_loc rfl rfl ?_
  exact wp_iflt (tgt := 18) rfl (by decide) wt wf
theorem b346_4 {n : Nat} {h : q_Hp} {Q : Option Value → q_Hp → Prop} {x0 : Nat} {x1 : Int32} (wt : 3 < x1 → q_wp n 346 18 [some (.ref x0), some (.int x1), none, none, none, none] [] h Q) (wf : ¬ 3 < x1 → q_wp n 346 9 [some (.ref x0), some (.int x1), none, none, none, none] [] h Q) : q_wp n 346 4 [some (.ref x0), some (.int x1), none, none, none, none] [] h Q := by
  refine wp_loc rfl rfl ?_
  refine wp_iconst (v := 3) rfl (by decide) ?_
  exact wp_icgt (tgt := 18) rfl (by decide) wt wf
theorem b346_9 {n : Nat} {h : q_Hp} {Q : Option Value → q_Hp → Prop} {x0 : Nat} {x1 : Int32} {v0 : Nat} (k0 : q_ok h x0 12) (e0 : qR h x0 90 = v0) (b2 : q_ok h v0 22 ∨ q_ok h v0 23) (i0 : q_in x1 (qK h v0).2) (wt : ¬ (qA h v0 x1.toNatClampNeg) = 0 → q_wp n 346 20 [some (.ref x0), some (.int x1), none, none, none, none] [] h Q) (wf : (qA h v0 x1.toNatClampNeg) = 0 → q_wp n 346 18 [some (.ref x0), some (.int x1), none, none, none, none] [] h Q) : q_wp n 346 9 [some (.ref x0), some (.int x1), none, none, none, none] [] h Q := by
  refine wp_loc rfl rfl ?_
  refine wp_getR rfl rfl rfl rfl k0 e0 ?_
  refine wp_loc rfl rfl ?_
  refine wp_bald rfl b2 i0 ?_
  exact wp_ifne (tgt := 20) rfl (by decide) wt wf
theorem b346_18 {n : Nat} {h : q_Hp} {Q : Option Value → q_Hp → Prop} {x0 : Nat} {x1 : Int32} (q : Q (some (.int (-1))) h) : q_wp n 346 18 [some (.ref x0), some (.int x1), none, none, none, none] [] h Q := by
  refine wp_iconst (v := (-1)) rfl (by decide) ?_
  exact wp_ret rfl rfl q
theorem b346_20 {n : Nat} {h : q_Hp} {Q : Option Value → q_Hp → Prop} {x0 : Nat} {x1 : Int32} (w : q_wp n 346 34 [some (.ref x0), some (.int x1), some (.int (156 * x1)), some (.int 0), some (.int 0), some (.int 0)] [] h Q) : q_wp n 346 20 [some (.ref x0), some (.int x1), none, none, none, none] [] h Q := by
  refine wp_sipush (v := 156) rfl (by decide) ?_
  refine wp_loc rfl rfl ?_
  refine wp_stk rfl rfl rfl ?_
  refine wp_loc rfl rfl ?_
  refine wp_iconst (v := 0) rfl (by decide) ?_
  refine wp_loc rfl rfl ?_
  refine wp_iconst (v := 0) rfl (by decide) ?_
  refine wp_loc rfl rfl ?_
  refine wp_iconst (v := 0) rfl (by decide) ?_
  refine wp_loc rfl rfl ?_
  exact w
theorem b346_34 {n : Nat} {h : q_Hp} {Q : Option Value → q_Hp → Prop} {x0 : Nat} {x1 : Int32} {x2 : Int32} {x3 : Int32} {x4 : Int32} {x5 : Int32} (wt : 12 ≤ x5 → q_wp n 346 94 [some (.ref x0), some (.int x1), some (.int x2), some (.int x3), some (.int x4), some (.int x5)] [] h Q) (wf : ¬ 12 ≤ x5 → q_wp n 346 41 [some (.ref x0), some (.int x1), some (.int x2), some (.int x3), some (.int x4), some (.int x5)] [] h Q) : q_wp n 346 34 [some (.ref x0), some (.int x1), some (.int x2), some (.int x3), some (.int x4), some (.int x5)] [] h Q := by
  refine wp_loc rfl rfl ?_
  refine wp_bipush (v := 12) rfl (by decide) ?_
  exact wp_icge (tgt := 94) rfl (by decide) wt wf
theorem b346_41 {n : Nat} {h : q_Hp} {Q : Option Value → q_Hp → Prop} {x0 : Nat} {x1 : Int32} {x2 : Int32} {x3 : Int32} {x4 : Int32} {x5 : Int32} {v0 : Nat} (k0 : q_ok h x0 12) (e0 : qR h x0 87 = v0) (k1 : q_ok h v0 20) (i0 : q_in x5 (qK h v0).2) (wt : (qA h v0 x5.toNatClampNeg) = (-1) → q_wp n 346 63 [some (.ref x0), some (.int x1), some (.int x2), some (.int x3), some (.int x4), some (.int x5)] [] h Q) (wf : ¬ (qA h v0 x5.toNatClampNeg) = (-1) → q_wp n 346 52 [some (.ref x0), some (.int x1), some (.int x2), some (.int x3), some (.int x4), some (.int x5)] [] h Q) : q_wp n 346 41 [some (.ref x0), some (.int x1), some (.int x2), some (.int x3), some (.int x4), some (.int x5)] [] h Q := by
  refine wp_loc rfl rfl ?_
  refine wp_getR rfl rfl rfl rfl k0 e0 ?_
  refine wp_loc rfl rfl ?_
  refine wp_iald rfl k1 i0 ?_
  refine wp_iconst (v := (-1)) rfl (by decide) ?_
  exact wp_iceq (tgt := 63) rfl (by decide) wt wf
theorem b346_52 {n : Nat} {h : q_Hp} {Q : Option Value → q_Hp → Prop} {x0 : Nat} {x1 : Int32} {x2 : Int32} {x3 : Int32} {x4 : Int32} {x5 : Int32} {v0 : Nat} (k0 : q_ok h x0 12) (e0 : qR h x0 114 = v0) (k1 : q_ok h v0 20) (i0 : q_in x3 (qK h v0).2) (w : q_wp n 346 63 [some (.ref x0), some (.int x1), some (.int x2), some (.int (x3 + 1)), some (.int x4), some (.int x5)] [] (q_sA h v0 x3.toNatClampNeg x5) Q) : q_wp n 346 52 [some (.ref x0), some (.int x1), some (.int x2), some (.int x3), some (.int x4), some (.int x5)] [] h Q := by
  refine wp_loc rfl rfl ?_
  refine wp_getR rfl rfl rfl rfl k0 e0 ?_
  refine wp_loc rfl rfl ?_
  refine wp_loc rfl rfl ?_
  refine wp_iast rfl k1 i0 ?_
  refine wp_iinc (v := 1) rfl rfl (by decide) rfl ?_
  exact w
theorem b346_63 {n : Nat} {h : q_Hp} {Q : Option Value → q_Hp → Prop} {x0 : Nat} {x1 : Int32} {x2 : Int32} {x3 : Int32} {x4 : Int32} {x5 : Int32} {v0 : Nat} (k0 : q_ok h x0 12) (e0 : qR h x0 89 = v0) (k1 : q_ok h v0 20) (i0 : q_in (x2 + x5) (qK h v0).2) (wt : (qA h v0 ((x2 + x5 : Int32).toNatClampNeg)) = (-1) → q_wp n 346 88 [some (.ref x0), some (.int x1), some (.int x2), some (.int x3), some (.int x4), some (.int x5)] [] h Q) (wf : ¬ (qA h v0 ((x2 + x5 : Int32).toNatClampNeg)) = (-1) → q_wp n 346 76 [some (.ref x0), some (.int x1), some (.int x2), some (.int x3), some (.int x4), some (.int x5)] [] h Q) : q_wp n 346 63 [some (.ref x0), some (.int x1), some (.int x2), some (.int x3), some (.int x4), some (.int x5)] [] h Q := by
  refine wp_loc rfl rfl ?_
  refine wp_getR rfl rfl rfl rfl k0 e0 ?_
  refine wp_loc rfl rfl ?_
  refine wp_loc rfl rfl ?_
  refine wp_stk rfl rfl rfl ?_
  refine wp_iald rfl k1 i0 ?_
  refine wp_iconst (v := (-1)) rfl (by decide) ?_
  exact wp_iceq (tgt := 88) rfl (by decide) wt wf
theorem b346_76 {n : Nat} {h : q_Hp} {Q : Option Value → q_Hp → Prop} {x0 : Nat} {x1 : Int32} {x2 : Int32} {x3 : Int32} {x4 : Int32} {x5 : Int32} {v0 : Nat} (k0 : q_ok h x0 12) (e0 : qR h x0 115 = v0) (k1 : q_ok h v0 20) (i0 : q_in x4 (qK h v0).2) (w : q_wp n 346 88 [some (.ref x0), some (.int x1), some (.int x2), some (.int x3), some (.int (x4 + 1)), some (.int x5)] [] (q_sA h v0 x4.toNatClampNeg x5) Q) : q_wp n 346 76 [some (.ref x0), some (.int x1), some (.int x2), some (.int x3), some (.int x4), some (.int x5)] [] h Q := by
  refine wp_loc rfl rfl ?_
  refine wp_getR rfl rfl rfl rfl k0 e0 ?_
  refine wp_loc rfl rfl ?_
  refine wp_loc rfl rfl ?_
  refine wp_iast rfl k1 i0 ?_
  refine wp_iinc (v := 1) rfl rfl (by decide) rfl ?_
  exact w
theorem b346_88 {n : Nat} {h : q_Hp} {Q : Option Value → q_Hp → Prop} {x0 : Nat} {x1 : Int32} {x2 : Int32} {x3 : Int32} {x4 : Int32} {x5 : Int32} (w : q_wp n 346 34 [some (.ref x0), some (.int x1), some (.int x2), some (.int x3), some (.int x4), some (.int (x5 + 1))] [] h Q) : q_wp n 346 88 [some (.ref x0), some (.int x1), some (.int x2), some (.int x3), some (.int x4), some (.int x5)] [] h Q := by
  refine wp_iinc (v := 1) rfl rfl (by decide) rfl ?_
  refine wp_goto (tgt := 34) rfl (by decide) ?_
  exact w
theorem b346_94 {n : Nat} {h : q_Hp} {Q : Option Value → q_Hp → Prop} {x0 : Nat} {x1 : Int32} {x2 : Int32} {x3 : Int32} {x4 : Int32} {x5 : Int32} (wt : 7 < x3 → q_wp n 346 107 [some (.ref x0), some (.int x1), some (.int x2), some (.int x3), some (.int x4), some (.int x5)] [] h Q) (wf : ¬ 7 < x3 → q_wp n 346 100 [some (.ref x0), some (.int x1), some (.int x2), some (.int x3), some (.int x4), some (.int x5)] [] h Q) : q_wp n 346 94 [some (.ref x0), some (.int x1), some (.int x2), some (.int x3), some (.int x4), some (.int x5)] [] h Q := by
  refine wp_loc rfl rfl ?_
  refine wp_bipush (v := 7) rfl (by decide) ?_
  exact wp_icgt (tgt := 107) rfl (by decide) wt wf
theorem b346_100 {n : Nat} {h : q_Hp} {Q : Option Value → q_Hp → Prop} {x0 : Nat} {x1 : Int32} {x2 : Int32} {x3 : Int32} {x4 : Int32} {x5 : Int32} (wt : x4 ≤ 7 → q_wp n 346 110 [some (.ref x0), some (.int x1), some (.int x2), some (.int x3), some (.int x4), some (.int x5)] [] h Q) (wf : ¬ x4 ≤ 7 → q_wp n 346 107 [some (.ref x0), some (.int x1), some (.int x2), some (.int x3), some (.int x4), some (.int x5)] [] h Q) : q_wp n 346 100 [some (.ref x0), some (.int x1), some (.int x2), some (.int x3), some (.int x4), some (.int x5)] [] h Q := by
  refine wp_loc rfl rfl ?_
  refine wp_bipush (v := 7) rfl (by decide) ?_
  exact wp_icle (tgt := 110) rfl (by decide) wt wf
theorem b346_107 {n : Nat} {h : q_Hp} {Q : Option Value → q_Hp → Prop} {x0 : Nat} {x1 : Int32} {x2 : Int32} {x3 : Int32} {x4 : Int32} {x5 : Int32} (q : Q (some (.int (-2))) h) : q_wp n 346 107 [some (.ref x0), some (.int x1), some (.int x2), some (.int x3), some (.int x4), some (.int x5)] [] h Q := by
  refine wp_bipush (v := (-2)) rfl (by decide) ?_
  exact wp_ret rfl rfl q
theorem b346_110 {n : Nat} {h : q_Hp} {Q : Option Value → q_Hp → Prop} {x0 : Nat} {x1 : Int32} {x2 : Int32} {x3 : Int32} {x4 : Int32} {x5 : Int32} (wt : x3 = x4 → q_wp n 346 118 [some (.ref x0), some (.int x1), some (.int x2), some (.int x3), some (.int x4), some (.int x5)] [] h Q) (wf : ¬ x3 = x4 → q_wp n 346 116 [some (.ref x0), some (.int x1), some (.int x2), some (.int x3), some (.int x4), some (.int x5)] [] h Q) : q_wp n 346 110 [some (.ref x0), some (.int x1), some (.int x2), some (.int x3), some (.int x4), some (.int x5)] [] h Q := by
  refine wp_loc rfl rfl ?_
  refine wp_loc rfl rfl ?_
  exact wp_iceq (tgt := 118) rfl (by decide) wt wf
theorem b346_116 {n : Nat} {h : q_Hp} {Q : Option Value → q_Hp → Prop} {x0 : Nat} {x1 : Int32} {x2 : Int32} {x3 : Int32} {x4 : Int32} {x5 : Int32} (q : Q (some (.int 0)) h) : q_wp n 346 116 [some (.ref x0), some (.int x1), some (.int x2), some (.int x3), some (.int x4), some (.int x5)] [] h Q := by
  refine wp_iconst (v := 0) rfl (by decide) ?_
  exact wp_ret rfl rfl q
theorem b346_118 {n : Nat} {h : q_Hp} {Q : Option Value → q_Hp → Prop} {x0 : Nat} {x1 : Int32} {x2 : Int32} {x3 : Int32} {x4 : Int32} {x5 : Int32} {v0 : Nat} (k0 : q_ok h x0 12) (e0 : qR h x0 116 = v0) (k1 : q_ok h v0 20) (i0 : q_in 0 (qK h v0).2) (w : q_wp n 346 128 [some (.ref x0), some (.int x1), some (.int x2), some (.int x3), some (.int x4), some (.int 0)] [] (q_sA h v0 ((0 : Int32).toNatClampNeg) (-1)) Q) : q_wp n 346 118 [some (.ref x0), some (.int x1), some (.int x2), some (.int x3), some (.int x4), some (.int x5)] [] h Q := by
  refine wp_iconst (v := 0) rfl (by decide) ?_
  refine wp_loc rfl rfl ?_
  refine wp_loc rfl rfl ?_
  refine wp_getR rfl rfl rfl rfl k0 e0 ?_
  refine wp_iconst (v := 0) rfl (by decide) ?_
  refine wp_iconst (v := (-1)) rfl (by decide) ?_
  refine wp_iast rfl k1 i0 ?_
  exact w
theorem b346_128 {n : Nat} {h : q_Hp} {Q : Option Value → q_Hp → Prop} {x0 : Nat} {x1 : Int32} {x2 : Int32} {x3 : Int32} {x4 : Int32} {x5 : Int32} (wt : x5 < 0 → q_wp n 346 193 [some (.ref x0), some (.int x1), some (.int x2), some (.int x3), some (.int x4), some (.int x5)] [] h Q) (wf : ¬ x5 < 0 → q_wp n 346 133 [some (.ref x0), some (.int x1), some (.int x2), some (.int x3), some (.int x4), some (.int x5)] [] h Q) : q_wp n 346 128 [some (.ref x0), some (.int x1), some (.int x2), some (.int x3), some (.int x4), some (.int x5)] [] h Q := by
  refine wp_loc rfl rfl ?_
  exact wp_iflt (tgt := 193) rfl (by decide) wt wf
theorem b346_133 {n : Nat} {h : q_Hp} {Q : Option Value → q_Hp → Prop} {x0 : Nat} {x1 : Int32} {x2 : Int32} {x3 : Int32} {x4 : Int32} {x5 : Int32} (wt : ¬ x5 = x3 → q_wp n 346 141 [some (.ref x0), some (.int x1), some (.int x2), some (.int x3), some (.int x4), some (.int x5)] [] h Q) (wf : x5 = x3 → q_wp n 346 139 [some (.ref x0), some (.int x1), some (.int x2), some (.int x3), some (.int x4), some (.int x5)] [] h Q) : q_wp n 346 133 [some (.ref x0), some (.int x1), some (.int x2), some (.int x3), some (.int x4), some (.int x5)] [] h Q := by
  refine wp_loc rfl rfl ?_
  refine wp_loc rfl rfl ?_
  exact wp_icne (tgt := 141) rfl (by decide) wt wf
theorem b346_139 {n : Nat} {h : q_Hp} {Q : Option Value → q_Hp → Prop} {x0 : Nat} {x1 : Int32} {x2 : Int32} {x3 : Int32} {x4 : Int32} {x5 : Int32} (q : Q (some (.int 1)) h) : q_wp n 346 139 [some (.ref x0), some (.int x1), some (.int x2), some (.int x3), some (.int x4), some (.int x5)] [] h Q := by
  refine wp_iconst (v := 1) rfl (by decide) ?_
  exact wp_ret rfl rfl q
theorem b346_141 {n : Nat} {h : q_Hp} {Q : Option Value → q_Hp → Prop} {x0 : Nat} {x1 : Int32} {x2 : Int32} {x3 : Int32} {x4 : Int32} {x5 : Int32} {v0 : Nat} (k0 : q_ok h x0 12) (e0 : qR h x0 116 = v0) (k1 : q_ok h v0 20) (i0 : q_in x5 (qK h v0).2) (wt : ¬ (qA (q_sA h v0 x5.toNatClampNeg ((qA h v0 x5.toNatClampNeg) + 1)) v0 x5.toNatClampNeg) = x3 → q_wp n 346 169 [some (.ref x0), some (.int x1), some (.int x2), some (.int x3), some (.int x4), some (.int x5)] [] (q_sA h v0 x5.toNatClampNeg ((qA h v0 x5.toNatClampNeg) + 1)) Q) (wf : (qA (q_sA h v0 x5.toNatClampNeg ((qA h v0 x5.toNatClampNeg) + 1)) v0 x5.toNatClampNeg) = x3 → q_wp n 346 163 [some (.ref x0), some (.int x1), some (.int x2), some (.int x3), some (.int x4), some (.int x5)] [] (q_sA h v0 x5.toNatClampNeg ((qA h v0 x5.toNatClampNeg) + 1)) Q) : q_wp n 346 141 [some (.ref x0), some (.int x1), some (.int x2), some (.int x3), some (.int x4), some (.int x5)] [] h Q := by
  refine wp_loc rfl rfl ?_
  refine wp_getR rfl rfl rfl rfl k0 e0 ?_
  refine wp_loc rfl rfl ?_
  refine wp_stk rfl rfl rfl ?_
  refine wp_iald rfl k1 i0 ?_
  refine wp_iconst (v := 1) rfl (by decide) ?_
  refine wp_stk rfl rfl rfl ?_
  refine wp_iast rfl k1 i0 ?_
  refine wp_loc rfl rfl ?_
  refine wp_getR rfl rfl rfl rfl k0 e0 ?_
  refine wp_loc rfl rfl ?_
  refine wp_iald rfl k1 i0 ?_
  refine wp_loc rfl rfl ?_
  exact wp_icne (tgt := 169) rfl (by decide) wt wf
theorem b346_163 {n : Nat} {h : q_Hp} {Q : Option Value → q_Hp → Prop} {x0 : Nat} {x1 : Int32} {x2 : Int32} {x3 : Int32} {x4 : Int32} {x5 : Int32} (w : q_wp n 346 128 [some (.ref x0), some (.int x1), some (.int x2), some (.int x3), some (.int x4), some (.int (x5 + (-1)))] [] h Q) : q_wp n 346 163 [some (.ref x0), some (.int x1), some (.int x2), some (.int x3), some (.int x4), some (.int x5)] [] h Q := by
  refine wp_iinc (v := (-1)) rfl rfl (by decide) rfl ?_
  refine wp_goto (tgt := 128) rfl (by decide) ?_
  exact w
theorem b346_169 {n : Nat} {h : q_Hp} {Q : Option Value → q_Hp → Prop} {x0 : Nat} {x1 : Int32} {x2 : Int32} {x3 : Int32} {x4 : Int32} {x5 : Int32} {m : Nat} {P : Int32 → q_Hp → Prop} (hc : q_mI m 345 [.ref x0, .int x5, .int x2] h P) (hm : m ≤ n) (w : ∀ (z : Int32) (h1 : q_Hp), P z h1 → q_wp (n + 1) 346 176 [some (.ref x0), some (.int x1), some (.int x2), some (.int x3), some (.int x4), some (.int x5)] [.int z] h1 Q) : q_wp (n + 1) 346 169 [some (.ref x0), some (.int x1), some (.int x2), some (.int x3), some (.int x4), some (.int x5)] [] h Q := by
  refine wp_loc rfl rfl ?_
  refine wp_loc rfl rfl ?_
  refine wp_loc rfl rfl ?_
  exact wp_callI (av := [.ref x0, .int x5, .int x2]) rfl rfl rfl (by decide) rfl rfl rfl hm hc w
theorem b346_176 {n : Nat} {h : q_Hp} {Q : Option Value → q_Hp → Prop} {x0 : Nat} {x1 : Int32} {x2 : Int32} {x3 : Int32} {x4 : Int32} {x5 : Int32} {s0 : Int32} (wt : s0 = 0 → q_wp n 346 128 [some (.ref x0), some (.int x1), some (.int x2), some (.int x3), some (.int x4), some (.int x5)] [] h Q) (wf : ¬ s0 = 0 → q_wp n 346 179 [some (.ref x0), some (.int x1), some (.int x2), some (.int x3), some (.int x4), some (.int x5)] [] h Q) : q_wp n 346 176 [some (.ref x0), some (.int x1), some (.int x2), some (.int x3), some (.int x4), some (.int x5)] [.int s0] h Q := by
  exact wp_ifeq (tgt := 128) rfl (by decide) wt wf
theorem b346_179 {n : Nat} {h : q_Hp} {Q : Option Value → q_Hp → Prop} {x0 : Nat} {x1 : Int32} {x2 : Int32} {x3 : Int32} {x4 : Int32} {x5 : Int32} {v0 : Nat} (k0 : q_ok h x0 12) (e0 : qR h x0 116 = v0) (k1 : q_ok h v0 20) (i0 : q_in (x5 + 1) (qK h v0).2) (w : q_wp n 346 128 [some (.ref x0), some (.int x1), some (.int x2), some (.int x3), some (.int x4), some (.int (x5 + 1))] [] (q_sA h v0 ((x5 + 1 : Int32).toNatClampNeg) (-1)) Q) : q_wp n 346 179 [some (.ref x0), some (.int x1), some (.int x2), some (.int x3), some (.int x4), some (.int x5)] [] h Q := by
  refine wp_iinc (v := 1) rfl rfl (by decide) rfl ?_
  refine wp_loc rfl rfl ?_
  refine wp_getR rfl rfl rfl rfl k0 e0 ?_
  refine wp_loc rfl rfl ?_
  refine wp_iconst (v := (-1)) rfl (by decide) ?_
  refine wp_iast rfl k1 i0 ?_
  refine wp_goto (tgt := 128) rfl (by decide) ?_
  exact w
theorem b346_193 {n : Nat} {h : q_Hp} {Q : Option Value → q_Hp → Prop} {x0 : Nat} {x1 : Int32} {x2 : Int32} {x3 : Int32} {x4 : Int32} {x5 : Int32} (q : Q (some (.int 0)) h) : q_wp n 346 193 [some (.ref x0), some (.int x1), some (.int x2), some (.int x3), some (.int x4), some (.int x5)] [] h Q := by
  refine wp_iconst (v := 0) rfl (by decide) ?_
  exact wp_ret rfl rfl q
theorem b347_0 {n : Nat} {h : q_Hp} {Q : Option Value → q_Hp → Prop} {x0 : Nat} {x1 : Int32} (w0 : x1 = 0 → q_wp n 347 60 [some (.ref x0), some (.int x1)] [] h Q) (w1 : x1 = 1 → q_wp n 347 68 [some (.ref x0), some (.int x1)] [] h Q) (w2 : x1 = 2 → q_wp n 347 77 [some (.ref x0), some (.int x1)] [] h Q) (w3 : x1 = 3 → q_wp n 347 82 [some (.ref x0), some (.int x1)] [] h Q) (w4 : x1 = 4 → q_wp n 347 87 [some (.ref x0), some (.int x1)] [] h Q) (w5 : x1 = 5 → q_wp n 347 92 [some (.ref x0), some (.int x1)] [] h Q) (w6 : x1 = 6 → q_wp n 347 97 [some (.ref x0), some (.int x1)] [] h Q) (w7 : x1 = 7 → q_wp n 347 107 [some (.ref x0), some (.int x1)] [] h Q) (w8 : x1 = 8 → q_wp n 347 112 [some (.ref x0), some (.int x1)] [] h Q) (w9 : x1 = 9 → q_wp n 347 117 [some (.ref x0), some (.int x1)] [] h Q) (w10 : x1 = 10 → q_wp n 347 122 [some (.ref x0), some (.int x1)] [] h Q) (wd : (x1.toInt < 0 ∨ 10 < x1.toInt) → q_wp n 347 138 [some (.ref x0), some (.int x1)] [] h Q) : q_wp n 347 0 [some (.ref x0), some (.int x1)] [] h Q := by
  refine wp_loc rfl rfl ?_
  refine wp_tab (dt := 138) (tg := fun j => [60, 68, 77, 82, 87, 92, 97, 107, 112, 117, 122].getD j 0) rfl (by decide) (by decide) (by decide) (fun j hj hx => ?_) wd
  have hj : j < 11 := hj
  match j, hj, hx with
  | 0, _, hx => exact w0 (Int32.toInt_inj.mp hx)
  | 1, _, hx => exact w1 (Int32.toInt_inj.mp hx)
  | 2, _, hx => exact w2 (Int32.toInt_inj.mp hx)
  | 3, _, hx => exact w3 (Int32.toInt_inj.mp hx)
  | 4, _, hx => exact w4 (Int32.toInt_inj.mp hx)
  | 5, _, hx => exact w5 (Int32.toInt_inj.mp hx)
  | 6, _, hx => exact w6 (Int32.toInt_inj.mp hx)
  | 7, _, hx => exact w7 (Int32.toInt_inj.mp hx)
  | 8, _, hx => exact w8 (Int32.toInt_inj.mp hx)
  | 9, _, hx => exact w9 (Int32.toInt_inj.mp hx)
  | 10, _, hx => exact w10 (Int32.toInt_inj.mp hx)
theorem b347_60 {n : Nat} {h : q_Hp} {Q : Option Value → q_Hp → Prop} {x0 : Nat} {x1 : Int32} {m : Nat} {P : Int32 → q_Hp → Prop} (hc : q_mI m 296 [.ref x0, .int 0, .int 12] h P) (hm : m ≤ n) (w : ∀ (z : Int32) (h1 : q_Hp), P z h1 → q_wp (n + 1) 347 67 [some (.ref x0), some (.int x1)] [.int z] h1 Q) : q_wp (n + 1) 347 60 [some (.ref x0), some (.int x1)] [] h Q := by
  refine wp_loc rfl rfl ?_
  refine wp_iconst (v := 0) rfl (by decide) ?_
  refine wp_bipush (v := 12) rfl (by decide) ?_
  exact wp_callI (av := [.ref x0, .int 0, .int 12]) rfl rfl rfl (by decide) rfl rfl rfl hm hc w
theorem b347_67 {n : Nat} {h : q_Hp} {Q : Option Value → q_Hp → Prop} {x0 : Nat} {x1 : Int32} {s0 : Int32} (q : Q (some (.int s0)) h) : q_wp n 347 67 [some (.ref x0), some (.int x1)] [.int s0] h Q := by
  exact wp_ret rfl rfl q
theorem b347_68 {n : Nat} {h : q_Hp} {Q : Option Value → q_Hp → Prop} {x0 : Nat} {x1 : Int32} {m : Nat} {P : Int32 → q_Hp → Prop} (hc : q_mI m 296 [.ref x0, .int 36, .int 40] h P) (hm : m ≤ n) (w : ∀ (z : Int32) (h1 : q_Hp), P z h1 → q_wp (n + 1) 347 76 [some (.ref x0), some (.int x1)] [.int z] h1 Q) : q_wp (n + 1) 347 68 [some (.ref x0), some (.int x1)] [] h Q := by
  refine wp_loc rfl rfl ?_
  refine wp_bipush (v := 36) rfl (by decide) ?_
  refine wp_bipush (v := 40) rfl (by decide) ?_
  exact wp_callI (av := [.ref x0, .int 36, .int 40]) rfl rfl rfl (by decide) rfl rfl rfl hm hc w
theorem b347_76 {n : Nat} {h : q_Hp} {Q : Option Value → q_Hp → Prop} {x0 : Nat} {x1 : Int32} {s0 : Int32} (q : Q (some (.int s0)) h) : q_wp n 347 76 [some (.ref x0), some (.int x1)] [.int s0] h Q := by
  exact wp_ret rfl rfl q
theorem b347_77 {n : Nat} {h : q_Hp} {Q : Option Value → q_Hp → Prop} {x0 : Nat} {x1 : Int32} (k0 : q_ok h x0 12) (q : Q (some (.int (qI h x0 24))) h) : q_wp n 347 77 [some (.ref x0), some (.int x1)] [] h Q := by
  refine wp_loc rfl rfl ?_
  refine wp_getI rfl rfl rfl k0 ?_
  exact wp_ret rfl rfl q
theorem b347_82 {n : Nat} {h : q_Hp} {Q : Option Value → q_Hp → Prop} {x0 : Nat} {x1 : Int32} (k0 : q_ok h x0 12) (q : Q (some (.int (qI h x0 25))) h) : q_wp n 347 82 [some (.ref x0), some (.int x1)] [] h Q := by
  refine wp_loc rfl rfl ?_
  refine wp_getI rfl rfl rfl k0 ?_
  exact wp_ret rfl rfl q
theorem b347_87 {n : Nat} {h : q_Hp} {Q : Option Value → q_Hp → Prop} {x0 : Nat} {x1 : Int32} (k0 : q_ok h x0 12) (q : Q (some (.int (qI h x0 26))) h) : q_wp n 347 87 [some (.ref x0), some (.int x1)] [] h Q := by
  refine wp_loc rfl rfl ?_
  refine wp_getI rfl rfl rfl k0 ?_
  exact wp_ret rfl rfl q
theorem b347_92 {n : Nat} {h : q_Hp} {Q : Option Value → q_Hp → Prop} {x0 : Nat} {x1 : Int32} (k0 : q_ok h x0 12) (q : Q (some (.int (qI h x0 27))) h) : q_wp n 347 92 [some (.ref x0), some (.int x1)] [] h Q := by
  refine wp_loc rfl rfl ?_
  refine wp_getI rfl rfl rfl k0 ?_
  exact wp_ret rfl rfl q
theorem b347_97 {n : Nat} {h : q_Hp} {Q : Option Value → q_Hp → Prop} {x0 : Nat} {x1 : Int32} (k0 : q_ok h x0 12) (q : Q (some (.int ((qI h x0 91) - (qI h x0 92)))) h) : q_wp n 347 97 [some (.ref x0), some (.int x1)] [] h Q := by
  refine wp_loc rfl rfl ?_
  refine wp_getI rfl rfl rfl k0 ?_
  refine wp_loc rfl rfl ?_
  refine wp_getI rfl rfl rfl k0 ?_
  refine wp_stk rfl rfl rfl ?_
  exact wp_ret rfl rfl q
theorem b347_107 {n : Nat} {h : q_Hp} {Q : Option Value → q_Hp → Prop} {x0 : Nat} {x1 : Int32} (k0 : q_ok h x0 12) (q : Q (some (.int (qI h x0 105))) h) : q_wp n 347 107 [some (.ref x0), some (.int x1)] [] h Q := by
  refine wp_loc rfl rfl ?_
  refine wp_getI rfl rfl rfl k0 ?_
  exact wp_ret rfl rfl q
theorem b347_112 {n : Nat} {h : q_Hp} {Q : Option Value → q_Hp → Prop} {x0 : Nat} {x1 : Int32} (k0 : q_ok h x0 12) (q : Q (some (.int (qI h x0 104))) h) : q_wp n 347 112 [some (.ref x0), some (.int x1)] [] h Q := by
  refine wp_loc rfl rfl ?_
  refine wp_getI rfl rfl rfl k0 ?_
  exact wp_ret rfl rfl q
theorem b347_117 {n : Nat} {h : q_Hp} {Q : Option Value → q_Hp → Prop} {x0 : Nat} {x1 : Int32} (k0 : q_ok h x0 12) (q : Q (some (.int (qI h x0 2))) h) : q_wp n 347 117 [some (.ref x0), some (.int x1)] [] h Q := by
  refine wp_loc rfl rfl ?_
  refine wp_getI rfl rfl rfl k0 ?_
  exact wp_ret rfl rfl q
theorem b347_122 {n : Nat} {h : q_Hp} {Q : Option Value → q_Hp → Prop} {x0 : Nat} {x1 : Int32} {m : Nat} {P : Int32 → q_Hp → Prop} (hc : q_mI m 298 [.ref x0] h P) (hm : m ≤ n) (w : ∀ (z : Int32) (h1 : q_Hp), P z h1 → q_wp (n + 1) 347 126 [some (.ref x0), some (.int x1)] [.int z] h1 Q) : q_wp (n + 1) 347 122 [some (.ref x0), some (.int x1)] [] h Q := by
  refine wp_loc rfl rfl ?_
  exact wp_callI (av := [.ref x0]) rfl rfl rfl (by decide) rfl rfl rfl hm hc w
theorem b347_126 {n : Nat} {h : q_Hp} {Q : Option Value → q_Hp → Prop} {x0 : Nat} {x1 : Int32} {s0 : Int32} (wt : s0 = 0 → q_wp n 347 136 [some (.ref x0), some (.int x1)] [] h Q) (wf : ¬ s0 = 0 → q_wp n 347 129 [some (.ref x0), some (.int x1)] [] h Q) : q_wp n 347 126 [some (.ref x0), some (.int x1)] [.int s0] h Q := by
  exact wp_ifeq (tgt := 136) rfl (by decide) wt wf
theorem b347_129 {n : Nat} {h : q_Hp} {Q : Option Value → q_Hp → Prop} {x0 : Nat} {x1 : Int32} (k0 : q_ok h x0 12) (q : Q (some (.int (qI h x0 106))) h) : q_wp n 347 129 [some (.ref x0), some (.int x1)] [] h Q := by
  refine wp_loc rfl rfl ?_
  refine wp_getI rfl rfl rfl k0 ?_
  refine wp_goto (tgt := 137) rfl (by decide) ?_
  exact wp_ret rfl rfl q
theorem b347_136 {n : Nat} {h : q_Hp} {Q : Option Value → q_Hp → Prop} {x0 : Nat} {x1 : Int32} (q : Q (some (.int 0)) h) : q_wp n 347 136 [some (.ref x0), some (.int x1)] [] h Q := by
  refine wp_iconst (v := 0) rfl (by decide) ?_
  exact wp_ret rfl rfl q
theorem b347_138 {n : Nat} {h : q_Hp} {Q : Option Value → q_Hp → Prop} {x0 : Nat} {x1 : Int32} (q : Q (some (.int (-1))) h) : q_wp n 347 138 [some (.ref x0), some (.int x1)] [] h Q := by
  refine wp_iconst (v := (-1)) rfl (by decide) ?_
  exact wp_ret rfl rfl q
