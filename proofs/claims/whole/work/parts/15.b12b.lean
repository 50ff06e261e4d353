theorem b270_0 {n : Nat} {h : q_Hp} {Q : Option Value → q_Hp → Prop} {x0 : Nat} {x1 : Int32} {v0 : Nat} (k0 : q_ok h x0 12) (e0 : qR h x0 44 = v0) (k1 : q_ok h v0 20) (i0 : q_in x1 (qK h v0).2) (wt : ¬ (qA h v0 x1.toNatClampNeg) = 4 → q_wp n 270 15 [some (.ref x0), some (.int x1), none] [] h Q) (wf : (qA h v0 x1.toNatClampNeg) = 4 → q_wp n 270 10 [some (.ref x0), some (.int x1), none] [] h Q) : q_wp n 270 0 [some (.ref x0), some (.int x1), none] [] h Q := by
  refine wp_loc rfl rfl ?_
  refine wp_getR rfl rfl rfl rfl k0 e0 ?_
  refine wp_loc rfl rfl ?_
  refine wp_iald rfl k1 i0 ?_
  refine wp_iconst (v := 4) rfl (by decide) ?_
  exact wp_icne (tgt := 15) rfl (by decide) wt wf
theorem b270_10 {n : Nat} {h : q_Hp} {Q : Option Value → q_Hp → Prop} {x0 : Nat} {x1 : Int32} {m : Nat} {P : q_Hp → Prop} (hc : q_mV m 250 [.ref x0, .int 2] h P) (hm : m ≤ n) (w : ∀ h1 : q_Hp, P h1 → q_wp (n + 1) 270 15 [some (.ref x0), some (.int x1), none] [] h1 Q) : q_wp (n + 1) 270 10 [some (.ref x0), some (.int x1), none] [] h Q := by
  refine wp_loc rfl rfl ?_
  refine wp_iconst (v := 2) rfl (by decide) ?_
  exact wp_callV (av := [.ref x0, .int 2]) rfl rfl rfl (by decide) rfl rfl rfl hm hc w
theorem b270_15 {n : Nat} {h : q_Hp} {Q : Option Value → q_Hp → Prop} {x0 : Nat} {x1 : Int32} {m : Nat} {P : q_Hp → Prop} (hc : q_mV m 252 [.ref x0] h P) (hm : m ≤ n) (w : ∀ h1 : q_Hp, P h1 → q_wp (n + 1) 270 19 [some (.ref x0), some (.int x1), none] [] h1 Q) : q_wp (n + 1) 270 15 [some (.ref x0), some (.int x1), none] [] h Q := by
  refine wp_loc rfl rfl ?_
  exact wp_callV (av := [.ref x0]) rfl rfl rfl (by decide) rfl rfl rfl hm hc w
theorem b270_19 {n : Nat} {h : q_Hp} {Q : Option Value → q_Hp → Prop} {x0 : Nat} {x1 : Int32} {v0 : Nat} (k0 : q_ok h x0 12) (e0 : qR h x0 44 = v0) (k1 : q_ok h v0 20) (i0 : q_in x1 (qK h v0).2) (wt : (qI h x0 13) ≤ 0 → q_wp n 270 38 [some (.ref x0), some (.int x1), some (.int ((4 * x1) + (qA h v0 x1.toNatClampNeg)))] [] h Q) (wf : ¬ (qI h x0 13) ≤ 0 → q_wp n 270 37 [some (.ref x0), some (.int x1), some (.int ((4 * x1) + (qA h v0 x1.toNatClampNeg)))] [] h Q) : q_wp n 270 19 [some (.ref x0), some (.int x1), none] [] h Q := by
  refine wp_iconst (v := 4) rfl (by decide) ?_
  refine wp_loc rfl rfl ?_
  refine wp_stk rfl rfl rfl ?_
  refine wp_loc rfl rfl ?_
  refine wp_getR rfl rfl rfl rfl k0 e0 ?_
  refine wp_loc rfl rfl ?_
  refine wp_iald rfl k1 i0 ?_
  refine wp_stk rfl rfl rfl ?_
  refine wp_loc rfl rfl ?_
  refine wp_loc rfl rfl ?_
  refine wp_getI rfl rfl rfl k0 ?_
  exact wp_ifle (tgt := 38) rfl (by decide) wt wf
theorem b270_37 {n : Nat} {h : q_Hp} {Q : Option Value → q_Hp → Prop} {x0 : Nat} {x1 : Int32} {x2 : Int32} (q : Q none h) : q_wp n 270 37 [some (.ref x0), some (.int x1), some (.int x2)] [] h Q := by
  exact wp_ret rfl rfl q
theorem b270_38 {n : Nat} {h : q_Hp} {Q : Option Value → q_Hp → Prop} {x0 : Nat} {x1 : Int32} {x2 : Int32} {v0 : Nat} {v1 : Nat} (k0 : q_ok h x0 12) (e0 : qR h x0 44 = v0) (k1 : q_ok h v0 20) (i0 : q_in x1 (qK h v0).2) (e1 : qR h x0 46 = v1) (k2 : q_ok h v1 20) (i1 : q_in x2 (qK h v1).2) {m : Nat} {P : q_Hp → Prop} (hc : q_mV m 280 [.ref x0, .int 0] (q_sA (q_sA h v0 x1.toNatClampNeg ((qA h v0 x1.toNatClampNeg) + 1)) v1 x2.toNatClampNeg (qI h x0 22)) P) (hm : m ≤ n) (w : ∀ h1 : q_Hp, P h1 → q_wp (n + 1) 270 63 [some (.ref x0), some (.int x1), some (.int x2)] [] h1 Q) : q_wp (n + 1) 270 38 [some (.ref x0), some (.int x1), some (.int x2)] [] h Q := by
  refine wp_loc rfl rfl ?_
  refine wp_getR rfl rfl rfl rfl k0 e0 ?_
  refine wp_loc rfl rfl ?_
  refine wp_stk rfl rfl rfl ?_
  refine wp_iald rfl k1 i0 ?_
  refine wp_iconst (v := 1) rfl (by decide) ?_
  refine wp_stk rfl rfl rfl ?_
  refine wp_iast rfl k1 i0 ?_
  refine wp_loc rfl rfl ?_
  refine wp_getR rfl rfl rfl rfl k0 e1 ?_
  refine wp_loc rfl rfl ?_
  refine wp_loc rfl rfl ?_
  refine wp_getI rfl rfl rfl k0 ?_
  refine wp_iast rfl k2 i1 ?_
  refine wp_loc rfl rfl ?_
  refine wp_iconst (v := 0) rfl (by decide) ?_
  exact wp_callV (av := [.ref x0, .int 0]) rfl rfl rfl (by decide) rfl rfl rfl hm hc w
theorem b270_63 {n : Nat} {h : q_Hp} {Q : Option Value → q_Hp → Prop} {x0 : Nat} {x1 : Int32} {x2 : Int32} {v0 : Nat} {v1 : Nat} (k0 : q_ok h x0 12) (e0 : qR h x0 47 = v0) (k1 : q_ok h v0 20) (i0 : q_in x2 (qK h v0).2) (e1 : qR h x0 45 = v1) (wt : (qI h x0 13) ≤ 0 → q_wp n 270 89 [some (.ref x0), some (.int x1), some (.int x2)] [.int x2, .ref v1] (q_sA h v0 x2.toNatClampNeg (qI h x0 22)) Q) (wf : ¬ (qI h x0 13) ≤ 0 → q_wp n 270 85 [some (.ref x0), some (.int x1), some (.int x2)] [.int x2, .ref v1] (q_sA h v0 x2.toNatClampNeg (qI h x0 22)) Q) : q_wp n 270 63 [some (.ref x0), some (.int x1), some (.int x2)] [] h Q := by
  refine wp_loc rfl rfl ?_
  refine wp_getR rfl rfl rfl rfl k0 e0 ?_
  refine wp_loc rfl rfl ?_
  refine wp_loc rfl rfl ?_
  refine wp_getI rfl rfl rfl k0 ?_
  refine wp_iast rfl k1 i0 ?_
  refine wp_loc rfl rfl ?_
  refine wp_getR rfl rfl rfl rfl k0 e1 ?_
  refine wp_loc rfl rfl ?_
  refine wp_loc rfl rfl ?_
  refine wp_getI rfl rfl rfl k0 ?_
  exact wp_ifle (tgt := 89) rfl (by decide) wt wf
theorem b270_85 {n : Nat} {h : q_Hp} {Q : Option Value → q_Hp → Prop} {x0 : Nat} {x1 : Int32} {x2 : Int32} {s0 : Int32} {s1 : Nat} (w : q_wp n 270 98 [some (.ref x0), some (.int x1), some (.int x2)] [.int 0, .int s0, .ref s1] h Q) : q_wp n 270 85 [some (.ref x0), some (.int x1), some (.int x2)] [.int s0, .ref s1] h Q := by
  refine wp_iconst (v := 0) rfl (by decide) ?_
  refine wp_goto (tgt := 98) rfl (by decide) ?_
  exact w
theorem b270_89 {n : Nat} {h : q_Hp} {Q : Option Value → q_Hp → Prop} {x0 : Nat} {x1 : Int32} {x2 : Int32} {s0 : Int32} {s1 : Nat} {v0 : Nat} (k0 : q_ok h x0 12) (e0 : qR h x0 5 = v0) (k1 : q_ok h v0 20) (i0 : q_in (qI h x0 11) (qK h v0).2) (w : q_wp n 270 98 [some (.ref x0), some (.int x1), some (.int x2)] [.int (qA h v0 ((qI h x0 11 : Int32).toNatClampNeg)), .int s0, .ref s1] h Q) : q_wp n 270 89 [some (.ref x0), some (.int x1), some (.int x2)] [.int s0, .ref s1] h Q := by
  refine wp_loc rfl rfl ?_
  refine wp_getR rfl rfl rfl rfl k0 e0 ?_
  refine wp_loc rfl rfl ?_
  refine wp_getI rfl rfl rfl k0 ?_
  refine wp_iald rfl k1 i0 ?_
  exact w
theorem b270_98 {n : Nat} {h : q_Hp} {Q : Option Value → q_Hp → Prop} {x0 : Nat} {x1 : Int32} {x2 : Int32} {s0 : Int32} {s1 : Int32} {s2 : Nat} (k0 : q_ok h s2 20) (i0 : q_in s1 (qK h s2).2) (k1 : q_ok h x0 12) (wt : ¬ (qI h x0 13) = 0 → q_wp n 270 139 [some (.ref x0), some (.int x1), some (.int x2)] [] (q_sA h s2 s1.toNatClampNeg s0) Q) (wf : (qI h x0 13) = 0 → q_wp n 270 106 [some (.ref x0), some (.int x1), some (.int x2)] [] (q_sA h s2 s1.toNatClampNeg s0) Q) : q_wp n 270 98 [some (.ref x0), some (.int x1), some (.int x2)] [.int s0, .int s1, .ref s2] h Q := by
  refine wp_iast rfl k0 i0 ?_
  refine wp_loc rfl rfl ?_
  refine wp_getI rfl rfl rfl k1 ?_
  exact wp_ifne (tgt := 139) rfl (by decide) wt wf
theorem b270_106 {n : Nat} {h : q_Hp} {Q : Option Value → q_Hp → Prop} {x0 : Nat} {x1 : Int32} {x2 : Int32} {v0 : Nat} (k0 : q_ok h x0 12) (e0 : qR h x0 5 = v0) (k1 : q_ok h v0 20) (i0 : q_in (qI h x0 11) (qK h v0).2) (wt : (qA h v0 ((qI h x0 11 : Int32).toNatClampNeg)) < 9 → q_wp n 270 134 [some (.ref x0), some (.int x1), some (.int x2)] [] h Q) (wf : ¬ (qA h v0 ((qI h x0 11 : Int32).toNatClampNeg)) < 9 → q_wp n 270 120 [some (.ref x0), some (.int x1), some (.int x2)] [] h Q) : q_wp n 270 106 [some (.ref x0), some (.int x1), some (.int x2)] [] h Q := by
  refine wp_loc rfl rfl ?_
  refine wp_getR rfl rfl rfl rfl k0 e0 ?_
  refine wp_loc rfl rfl ?_
  refine wp_getI rfl rfl rfl k0 ?_
  refine wp_iald rfl k1 i0 ?_
  refine wp_bipush (v := 9) rfl (by decide) ?_
  exact wp_iclt (tgt := 134) rfl (by decide) wt wf
theorem b270_120 {n : Nat} {h : q_Hp} {Q : Option Value → q_Hp → Prop} {x0 : Nat} {x1 : Int32} {x2 : Int32} {v0 : Nat} (k0 : q_ok h x0 12) (e0 : qR h x0 5 = v0) (k1 : q_ok h v0 20) (i0 : q_in (qI h x0 11) (qK h v0).2) (wt : (qA h v0 ((qI h x0 11 : Int32).toNatClampNeg)) ≤ 12 → q_wp n 270 139 [some (.ref x0), some (.int x1), some (.int x2)] [] h Q) (wf : ¬ (qA h v0 ((qI h x0 11 : Int32).toNatClampNeg)) ≤ 12 → q_wp n 270 134 [some (.ref x0), some (.int x1), some (.int x2)] [] h Q) : q_wp n 270 120 [some (.ref x0), some (.int x1), some (.int x2)] [] h Q := by
  refine wp_loc rfl rfl ?_
  refine wp_getR rfl rfl rfl rfl k0 e0 ?_
  refine wp_loc rfl rfl ?_
  refine wp_getI rfl rfl rfl k0 ?_
  refine wp_iald rfl k1 i0 ?_
  refine wp_bipush (v := 12) rfl (by decide) ?_
  exact wp_icle (tgt := 139) rfl (by decide) wt wf
theorem b270_134 {n : Nat} {h : q_Hp} {Q : Option Value → q_Hp → Prop} {x0 : Nat} {x1 : Int32} {x2 : Int32} {m : Nat} {P : q_Hp → Prop} (hc : q_mV m 250 [.ref x0, .int 1] h P) (hm : m ≤ n) (w : ∀ h1 : q_Hp, P h1 → q_wp (n + 1) 270 139 [some (.ref x0), some (.int x1), some (.int x2)] [] h1 Q) : q_wp (n + 1) 270 134 [some (.ref x0), some (.int x1), some (.int x2)] [] h Q := by
  refine wp_loc rfl rfl ?_
  refine wp_iconst (v := 1) rfl (by decide) ?_
  exact wp_callV (av := [.ref x0, .int 1]) rfl rfl rfl (by decide) rfl rfl rfl hm hc w
theorem b270_139 {n : Nat} {h : q_Hp} {Q : Option Value → q_Hp → Prop} {x0 : Nat} {x1 : Int32} {x2 : Int32} {m : Nat} {P : q_Hp → Prop} (hc : q_mV m 252 [.ref x0] h P) (hm : m ≤ n) (w : ∀ h1 : q_Hp, P h1 → q_wp (n + 1) 270 143 [some (.ref x0), some (.int x1), some (.int x2)] [] h1 Q) : q_wp (n + 1) 270 139 [some (.ref x0), some (.int x1), some (.int x2)] [] h Q := by
  refine wp_loc rfl rfl ?_
  exact wp_callV (av := [.ref x0]) rfl rfl rfl (by decide) rfl rfl rfl hm hc w
theorem b270_143 {n : Nat} {h : q_Hp} {Q : Option Value → q_Hp → Prop} {x0 : Nat} {x1 : Int32} {x2 : Int32} {m : Nat} {P : q_Hp → Prop} (hc : q_mV m 280 [.ref x0, .int 0] h P) (hm : m ≤ n) (w : ∀ h1 : q_Hp, P h1 → q_wp (n + 1) 270 148 [some (.ref x0), some (.int x1), some (.int x2)] [] h1 Q) : q_wp (n + 1) 270 143 [some (.ref x0), some (.int x1), some (.int x2)] [] h Q := by
  refine wp_loc rfl rfl ?_
  refine wp_iconst (v := 0) rfl (by decide) ?_
  exact wp_callV (av := [.ref x0, .int 0]) rfl rfl rfl (by decide) rfl rfl rfl hm hc w
theorem b270_148 {n : Nat} {h : q_Hp} {Q : Option Value → q_Hp → Prop} {x0 : Nat} {x1 : Int32} {x2 : Int32} {v0 : Nat} (k0 : q_ok h x0 12) (e0 : qR h x0 48 = v0) (k1 : q_ok h v0 20) (i0 : q_in x2 (qK h v0).2) {m : Nat} {P : q_Hp → Prop} (hc : q_mV m 253 [.ref x0, .int 4] (q_sA h v0 x2.toNatClampNeg (qI h x0 22)) P) (hm : m ≤ n) (w : ∀ h1 : q_Hp, P h1 → q_wp (n + 1) 270 163 [some (.ref x0), some (.int x1), some (.int x2)] [] h1 Q) : q_wp (n + 1) 270 148 [some (.ref x0), some (.int x1), some (.int x2)] [] h Q := by
  refine wp_loc rfl rfl ?_
  refine wp_getR rfl rfl rfl rfl k0 e0 ?_
  refine wp_loc rfl rfl ?_
  refine wp_loc rfl rfl ?_
  refine wp_getI rfl rfl rfl k0 ?_
  refine wp_iast rfl k1 i0 ?_
  refine wp_loc rfl rfl ?_
  refine wp_iconst (v := 4) rfl (by decide) ?_
  exact wp_callV (av := [.ref x0, .int 4]) rfl rfl rfl (by decide) rfl rfl rfl hm hc w
theorem b270_163 {n : Nat} {h : q_Hp} {Q : Option Value → q_Hp → Prop} {x0 : Nat} {x1 : Int32} {x2 : Int32} (q : Q none h) : q_wp n 270 163 [some (.ref x0), some (.int x1), some (.int x2)] [] h Q := by
  exact wp_ret rfl rfl q
theorem b271_0 {n : Nat} {h : q_Hp} {Q : Option Value → q_Hp → Prop} {x0 : Nat} {x1 : Int32} {m : Nat} {P : Int32 → q_Hp → Prop} (hc : q_mI m 257 [.ref x0, .int x1] h P) (hm : m ≤ n) (w : ∀ (z : Int32) (h1 : q_Hp), P z h1 → q_wp (n + 1) 271 5 [some (.ref x0), some (.int x1), none] [.int z] h1 Q) : q_wp (n + 1) 271 0 [some (.ref x0), some (.int x1), none] [] h Q := by
  refine wp_loc rfl rfl ?_
  refine wp_loc rfl rfl ?_
  exact wp_callI (av := [.ref x0, .int x1]) rfl rfl rfl (by decide) rfl rfl rfl hm hc w
theorem b271_5 {n : Nat} {h : q_Hp} {Q : Option Value → q_Hp → Prop} {x0 : Nat} {x1 : Int32} {s0 : Int32} (wt : s0 = (-1) → q_wp n 271 30 [some (.ref x0), some (.int x1), some (.int s0)] [] h Q) (wf : ¬ s0 = (-1) → q_wp n 271 11 [some (.ref x0), some (.int x1), some (.int s0)] [] h Q) : q_wp n 271 5 [some (.ref x0), some (.int x1), none] [.int s0] h Q := by
  refine wp_loc rfl rfl ?_
  refine wp_loc rfl rfl ?_
  refine wp_iconst (v := (-1)) rfl (by decide) ?_
  exact wp_iceq (tgt := 30) rfl (by decide) wt wf
theorem b271_11 {n : Nat} {h : q_Hp} {Q : Option Value → q_Hp → Prop} {x0 : Nat} {x1 : Int32} {x2 : Int32} {v0 : Nat} (k0 : q_ok h x0 12) (e0 : qR h x0 70 = v0) (k1 : q_ok h v0 20) (i0 : q_in x2 (qK h v0).2) (wt : (qA h v0 x2.toNatClampNeg) = 1 → q_wp n 271 30 [some (.ref x0), some (.int x1), some (.int x2)] [] h Q) (wf : ¬ (qA h v0 x2.toNatClampNeg) = 1 → q_wp n 271 21 [some (.ref x0), some (.int x1), some (.int x2)] [] h Q) : q_wp n 271 11 [some (.ref x0), some (.int x1), some (.int x2)] [] h Q := by
  refine wp_loc rfl rfl ?_
  refine wp_getR rfl rfl rfl rfl k0 e0 ?_
  refine wp_loc rfl rfl ?_
  refine wp_iald rfl k1 i0 ?_
  refine wp_iconst (v := 1) rfl (by decide) ?_
  exact wp_iceq (tgt := 30) rfl (by decide) wt wf
theorem b271_21 {n : Nat} {h : q_Hp} {Q : Option Value → q_Hp → Prop} {x0 : Nat} {x1 : Int32} {x2 : Int32} {v0 : Nat} (k0 : q_ok h x0 12) (e0 : qR h x0 73 = v0) (b2 : q_ok h v0 22 ∨ q_ok h v0 23) (i0 : q_in x2 (qK h v0).2) (wt : (qA h v0 x2.toNatClampNeg) = 0 → q_wp n 271 38 [some (.ref x0), some (.int x1), some (.int x2)] [] h Q) (wf : ¬ (qA h v0 x2.toNatClampNeg) = 0 → q_wp n 271 30 [some (.ref x0), some (.int x1), some (.int x2)] [] h Q) : q_wp n 271 21 [some (.ref x0), some (.int x1), some (.int x2)] [] h Q := by
  refine wp_loc rfl rfl ?_
  refine wp_getR rfl rfl rfl rfl k0 e0 ?_
  refine wp_loc rfl rfl ?_
  refine wp_bald rfl b2 i0 ?_
  exact wp_ifeq (tgt := 38) rfl (by decide) wt wf
theorem b271_30 {n : Nat} {h : q_Hp} {Q : Option Value → q_Hp → Prop} {x0 : Nat} {x1 : Int32} {x2 : Int32} {m : Nat} {P : q_Hp → Prop} (hc : q_mV m 251 [.ref x0, .int 4, .int x1] h P) (hm : m ≤ n) (w : ∀ h1 : q_Hp, P h1 → q_wp (n + 1) 271 36 [some (.ref x0), some (.int x1), some (.int x2)] [] h1 Q) : q_wp (n + 1) 271 30 [some (.ref x0), some (.int x1), some (.int x2)] [] h Q := by
  refine wp_loc rfl rfl ?_
  refine wp_iconst (v := 4) rfl (by decide) ?_
  refine wp_loc rfl rfl ?_
  exact wp_callV (av := [.ref x0, .int 4, .int x1]) rfl rfl rfl (by decide) rfl rfl rfl hm hc w
theorem b271_36 {n : Nat} {h : q_Hp} {Q : Option Value → q_Hp → Prop} {x0 : Nat} {x1 : Int32} {x2 : Int32} (q : Q (some (.int (-1))) h) : q_wp n 271 36 [some (.ref x0), some (.int x1), some (.int x2)] [] h Q := by
  refine wp_iconst (v := (-1)) rfl (by decide) ?_
  exact wp_ret rfl rfl q
theorem b271_38 {n : Nat} {h : q_Hp} {Q : Option Value → q_Hp → Prop} {x0 : Nat} {x1 : Int32} {x2 : Int32} (q : Q (some (.int x2)) h) : q_wp n 271 38 [some (.ref x0), some (.int x1), some (.int x2)] [] h Q := by
  refine wp_loc rfl rfl ?_
  exact wp_ret rfl rfl q
theorem b272_0 {n : Nat} {h : q_Hp} {Q : Option Value → q_Hp → Prop} {x0 : Int32} {x1 : Int32} (wt : ¬ x0 = 2 → q_wp n 272 11 [some (.int x0), some (.int x1)] [] h Q) (wf : x0 = 2 → q_wp n 272 5 [some (.int x0), some (.int x1)] [] h Q) : q_wp n 272 0 [some (.int x0), some (.int x1)] [] h Q := by
  refine wp_loc rfl rfl ?_
  refine wp_iconst (v := 2) rfl (by decide) ?_
  exact wp_icne (tgt := 11) rfl (by decide) wt wf
theorem b272_5 {n : Nat} {h : q_Hp} {Q : Option Value → q_Hp → Prop} {x0 : Int32} {x1 : Int32} (q : Q (some (.int (4 + x1))) h) : q_wp n 272 5 [some (.int x0), some (.int x1)] [] h Q := by
  refine wp_iconst (v := 4) rfl (by decide) ?_
  refine wp_loc rfl rfl ?_
  refine wp_stk rfl rfl rfl ?_
  refine wp_goto (tgt := 12) rfl (by decide) ?_
  exact wp_ret rfl rfl q
theorem b272_11 {n : Nat} {h : q_Hp} {Q : Option Value → q_Hp → Prop} {x0 : Int32} {x1 : Int32} (q : Q (some (.int x1)) h) : q_wp n 272 11 [some (.int x0), some (.int x1)] [] h Q := by
  refine wp_loc rfl rfl ?_
  exact wp_ret rfl rfl q
set_option maxRecDepth 20000 in
theorem b273_0 {n : Nat} {h : q_Hp} {Q : Option Value → q_Hp → Prop} {x0 : Nat} {x1 : Int32} {v0 : Nat} (k0 : q_ok h x0 12) (e0 : qR h x0 49 = v0) (k1 : q_ok h v0 20) (i0 : q_in x1 (qK h v0).2) (wt : ¬ (qA h v0 x1.toNatClampNeg) = 8 → q_wp n 273 16 [some (.ref x0), some (.int x1), none, none, none, none, none] [] h Q) (wf : (qA h v0 x1.toNatClampNeg) = 8 → q_wp n 273 11 [some (.ref x0), some (.int x1), none, none, none, none, none] [] h Q) : q_wp n 273 0 [some (.ref x0), some (.int x1), none, none, none, none, none] [] h Q := by
  refine wp_loc rfl rfl ?_
  refine wp_getR rfl rfl rfl rfl k0 e0 ?_
  refine wp_loc rfl rfl ?_
  refine wp_iald rfl k1 i0 ?_
  refine wp_bipush (v := 8) rfl (by decide) ?_
  exact wp_icne (tgt := 16) rfl (by decide) wt wf
set_option maxRecDepth 20000 in
theorem b273_11 {n : Nat} {h : q_Hp} {Q : Option Value → q_Hp → Prop} {x0 : Nat} {x1 : Int32} {m : Nat} {P : q_Hp → Prop} (hc : q_mV m 250 [.ref x0, .int 2] h P) (hm : m ≤ n) (w : ∀ h1 : q_Hp, P h1 → q_wp (n + 1) 273 16 [some (.ref x0), some (.int x1), none, none, none, none, none] [] h1 Q) : q_wp (n + 1) 273 11 [some (.ref x0), some (.int x1), none, none, none, none, none] [] h Q := by
  refine wp_loc rfl rfl ?_
  refine wp_iconst (v := 2) rfl (by decide) ?_
  exact wp_callV (av := [.ref x0, .int 2]) rfl rfl rfl (by decide) rfl rfl rfl hm hc w
set_option maxRecDepth 20000 in
theorem b273_16 {n : Nat} {h : q_Hp} {Q : Option Value → q_Hp → Prop} {x0 : Nat} {x1 : Int32} {v0 : Nat} (k0 : q_ok h x0 12) (e0 : qR h x0 49 = v0) (k1 : q_ok h v0 20) (i0 : q_in x1 (qK h v0).2) (wt : ¬ (qA h v0 x1.toNatClampNeg) = 0 → q_wp n 273 61 [some (.ref x0), some (.int x1), some (.int (qI h x0 11)), none, none, none, none] [] h Q) (wf : (qA h v0 x1.toNatClampNeg) = 0 → q_wp n 273 30 [some (.ref x0), some (.int x1), some (.int (qI h x0 11)), none, none, none, none] [] h Q) : q_wp n 273 16 [some (.ref x0), some (.int x1), none, none, none, none, none] [] h Q := by
  refine wp_loc rfl rfl ?_
  refine wp_getI rfl rfl rfl k0 ?_
  refine wp_loc rfl rfl ?_
  refine wp_loc rfl rfl ?_
  refine wp_getR rfl rfl rfl rfl k0 e0 ?_
  refine wp_loc rfl rfl ?_
  refine wp_iald rfl k1 i0 ?_
  exact wp_ifne (tgt := 61) rfl (by decide) wt wf
set_option maxRecDepth 20000 in
theorem b273_30 {n : Nat} {h : q_Hp} {Q : Option Value → q_Hp → Prop} {x0 : Nat} {x1 : Int32} {x2 : Int32} (k0 : q_ok h x0 12) (w : q_wp n 273 42 [some (.ref x0), some (.int x1), some (.int x2), some (.int 0), none, none, none] [] (q_sI (q_sI h x0 75 0) x0 77 0) Q) : q_wp n 273 30 [some (.ref x0), some (.int x1), some (.int x2), none, none, none, none] [] h Q := by
  refine wp_loc rfl rfl ?_
  refine wp_iconst (v := 0) rfl (by decide) ?_
  refine wp_putI rfl rfl (Or.inl rfl) rfl (fun h9 => by cases h9) k0 ?_
  refine wp_loc rfl rfl ?_
  refine wp_iconst (v := 0) rfl (by decide) ?_
  refine wp_putI rfl rfl (Or.inl rfl) rfl (fun h9 => by cases h9) k0 ?_
  refine wp_iconst (v := 0) rfl (by decide) ?_
  refine wp_loc rfl rfl ?_
  exact w
set_option maxRecDepth 20000 in
theorem b273_42 {n : Nat} {h : q_Hp} {Q : Option Value → q_Hp → Prop} {x0 : Nat} {x1 : Int32} {x2 : Int32} {x3 : Int32} (wt : 6 ≤ x3 → q_wp n 273 61 [some (.ref x0), some (.int x1), some (.int x2), some (.int x3), none, none, none] [] h Q) (wf : ¬ 6 ≤ x3 → q_wp n 273 48 [some (.ref x0), some (.int x1), some (.int x2), some (.int x3), none, none, none] [] h Q) : q_wp n 273 42 [some (.ref x0), some (.int x1), some (.int x2), some (.int x3), none, none, none] [] h Q := by
  refine wp_loc rfl rfl ?_
  refine wp_bipush (v := 6) rfl (by decide) ?_
  exact wp_icge (tgt := 61) rfl (by decide) wt wf
set_option maxRecDepth 20000 in
theorem b273_48 {n : Nat} {h : q_Hp} {Q : Option Value → q_Hp → Prop} {x0 : Nat} {x1 : Int32} {x2 : Int32} {x3 : Int32} {v0 : Nat} (k0 : q_ok h x0 12) (e0 : qR h x0 74 = v0) (k1 : q_ok h v0 23) (i0 : q_in x3 (qK h v0).2) (w : q_wp n 273 42 [some (.ref x0), some (.int x1), some (.int x2), some (.int (x3 + 1)), none, none, none] [] (q_sA h v0 x3.toNatClampNeg (vp_nar .boolean 0)) Q) : q_wp n 273 48 [some (.ref x0), some (.int x1), some (.int x2), some (.int x3), none, none, none] [] h Q := by
  refine wp_loc rfl rfl ?_
  refine wp_getR rfl rfl rfl rfl k0 e0 ?_
  refine wp_loc rfl rfl ?_
  refine wp_iconst (v := 0) rfl (by decide) ?_
  refine wp_zast rfl k1 i0 ?_
  refine wp_iinc (v := 1) rfl rfl (by decide) rfl ?_
  refine wp_goto (tgt := 42) rfl (by decide) ?_
  exact w
set_option maxRecDepth 20000 in
theorem b273_61 {n : Nat} {h : q_Hp} {Q : Option Value → q_Hp → Prop} {x0 : Nat} {x1 : Int32} {x2 : Int32} {l3 : Option Value} {m : Nat} {P : q_Hp → Prop} (hc : q_mV m 252 [.ref x0] h P) (hm : m ≤ n) (w : ∀ h1 : q_Hp, P h1 → q_wp (n + 1) 273 65 [some (.ref x0), some (.int x1), some (.int x2), l3, none, none, none] [] h1 Q) : q_wp (n + 1) 273 61 [some (.ref x0), some (.int x1), some (.int x2), l3, none, none, none] [] h Q := by
  refine wp_loc rfl rfl ?_
  exact wp_callV (av := [.ref x0]) rfl rfl rfl (by decide) rfl rfl rfl hm hc w
set_option maxRecDepth 20000 in
theorem b273_65 {n : Nat} {h : q_Hp} {Q : Option Value → q_Hp → Prop} {x0 : Nat} {x1 : Int32} {x2 : Int32} {l3 : Option Value} (k0 : q_ok h x0 12) {m : Nat} {P : q_Hp → Prop} (hc : q_mV m 253 [.ref x0, .int 1] h P) (hm : m ≤ n) (w : ∀ h1 : q_Hp, P h1 → q_wp (n + 1) 273 75 [some (.ref x0), some (.int x1), some (.int x2), some (.int (qI h x0 11)), none, none, none] [] h1 Q) : q_wp (n + 1) 273 65 [some (.ref x0), some (.int x1), some (.int x2), l3, none, none, none] [] h Q := by
  refine wp_loc rfl rfl ?_
  refine wp_getI rfl rfl rfl k0 ?_
  refine wp_loc rfl rfl ?_
  refine wp_loc rfl rfl ?_
  refine wp_iconst (v := 1) rfl (by decide) ?_
  exact wp_callV (av := [.ref x0, .int 1]) rfl rfl rfl (by decide) rfl rfl rfl hm hc w
set_option maxRecDepth 20000 in
theorem b273_75 {n : Nat} {h : q_Hp} {Q : Option Value → q_Hp → Prop} {x0 : Nat} {x1 : Int32} {x2 : Int32} {x3 : Int32} (k0 : q_ok h x0 12) (wt : (qI h x0 13) ≤ 0 → q_wp n 273 83 [some (.ref x0), some (.int x1), some (.int x2), some (.int x3), none, none, none] [] h Q) (wf : ¬ (qI h x0 13) ≤ 0 → q_wp n 273 82 [some (.ref x0), some (.int x1), some (.int x2), some (.int x3), none, none, none] [] h Q) : q_wp n 273 75 [some (.ref x0), some (.int x1), some (.int x2), some (.int x3), none, none, none] [] h Q := by
  refine wp_loc rfl rfl ?_
  refine wp_getI rfl rfl rfl k0 ?_
  exact wp_ifle (tgt := 83) rfl (by decide) wt wf
set_option maxRecDepth 20000 in
theorem b273_82 {n : Nat} {h : q_Hp} {Q : Option Value → q_Hp → Prop} {x0 : Nat} {x1 : Int32} {x2 : Int32} {x3 : Int32} (q : Q none h) : q_wp n 273 82 [some (.ref x0), some (.int x1), some (.int x2), some (.int x3), none, none, none] [] h Q := by
  exact wp_ret rfl rfl q
set_option maxRecDepth 20000 in
theorem b273_83 {n : Nat} {h : q_Hp} {Q : Option Value → q_Hp → Prop} {x0 : Nat} {x1 : Int32} {x2 : Int32} {x3 : Int32} {v0 : Nat} {v1 : Nat} {v2 : Nat} {v3 : Nat} {v4 : Nat} {v5 : Nat} (k0 : q_ok h x0 12) (e0 : qR h x0 49 = v0) (k1 : q_ok h v0 20) (i0 : q_in x1 (qK h v0).2) (e1 : qR h x0 51 = v1) (k2 : q_ok h v1 20) (i1 : q_in ((8 * x1) + (qA h v0 x1.toNatClampNeg)) (qK h v1).2) (e2 : qR h x0 52 = v2) (k3 : q_ok h v2 20) (i2 : q_in ((8 * x1) + (qA h v0 x1.toNatClampNeg)) (qK h v2).2) (e3 : qR h x0 53 = v3) (k4 : q_ok h v3 20) (i3 : q_in ((8 * x1) + (qA h v0 x1.toNatClampNeg)) (qK h v3).2) (e4 : qR h x0 54 = v4) (k5 : q_ok h v4 20) (i4 : q_in ((8 * x1) + (qA h v0 x1.toNatClampNeg)) (qK h v4).2) (e5 : qR h x0 5 = v5) (k6 : q_ok h v5 20) (i5 : q_in x2 (qK h v5).2) (w0 : (qA (q_sA (q_sA (q_sA (q_sA h v1 (((8 * x1) + (qA h v0 x1.toNatClampNeg) : Int32).toNatClampNeg) (-1)) v2 (((8 * x1) + (qA h v0 x1.toNatClampNeg) : Int32).toNatClampNeg) (-1)) v3 (((8 * x1) + (qA h v0 x1.toNatClampNeg) : Int32).toNatClampNeg) (-1)) v4 (((8 * x1) + (qA h v0 x1.toNatClampNeg) : Int32).toNatClampNeg) (qI h x0 22)) v5 x2.toNatClampNeg) = 31 → q_wp n 273 164 [some (.ref x0), some (.int x1), some (.int x2), some (.int x3), some (.int ((8 * x1) + (qA h v0 x1.toNatClampNeg))), none, none] [] (q_sA (q_sA (q_sA (q_sA h v1 (((8 * x1) + (qA h v0 x1.toNatClampNeg) : Int32).toNatClampNeg) (-1)) v2 (((8 * x1) + (qA h v0 x1.toNatClampNeg) : Int32).toNatClampNeg) (-1)) v3 (((8 * x1) + (qA h v0 x1.toNatClampNeg) : Int32).toNatClampNeg) (-1)) v4 (((8 * x1) + (qA h v0 x1.toNatClampNeg) : Int32).toNatClampNeg) (qI h x0 22)) Q) (w1 : (qA (q_sA (q_sA (q_sA (q_sA h v1 (((8 * x1) + (qA h v0 x1.toNatClampNeg) : Int32).toNatClampNeg) (-1)) v2 (((8 * x1) + (qA h v0 x1.toNatClampNeg) : Int32).toNatClampNeg) (-1)) v3 (((8 * x1) + (qA h v0 x1.toNatClampNeg) : Int32).toNatClampNeg) (-1)) v4 (((8 * x1) + (qA h v0 x1.toNatClampNeg) : Int32).toNatClampNeg) (qI h x0 22)) v5 x2.toNatClampNeg) = 32 → q_wp n 273 175 [some (.ref x0), some (.int x1), some (.int x2), some (.int x3), some (.int ((8 * x1) + (qA h v0 x1.toNatClampNeg))), none, none] [] (q_sA (q_sA (q_sA (q_sA h v1 (((8 * x1) + (qA h v0 x1.toNatClampNeg) : Int32).toNatClampNeg) (-1)) v2 (((8 * x1) + (qA h v0 x1.toNatClampNeg) : Int32).toNatClampNeg) (-1)) v3 (((8 * x1) + (qA h v0 x1.toNatClampNeg) : Int32).toNatClampNeg) (-1)) v4 (((8 * x1) + (qA h v0 x1.toNatClampNeg) : Int32).toNatClampNeg) (qI h x0 22)) Q) (w2 : (qA (q_sA (q_sA (q_sA (q_sA h v1 (((8 * x1) + (qA h v0 x1.toNatClampNeg) : Int32).toNatClampNeg) (-1)) v2 (((8 * x1) + (qA h v0 x1.toNatClampNeg) : Int32).toNatClampNeg) (-1)) v3 (((8 * x1) + (qA h v0 x1.toNatClampNeg) : Int32).toNatClampNeg) (-1)) v4 (((8 * x1) + (qA h v0 x1.toNatClampNeg) : Int32).toNatClampNeg) (qI h x0 22)) v5 x2.toNatClampNeg) = 33 → q_wp n 273 262 [some (.ref x0), some (.int x1), some (.int x2), some (.int x3), some (.int ((8 * x1) + (qA h v0 x1.toNatClampNeg))), none, none] [] (q_sA (q_sA (q_sA (q_sA h v1 (((8 * x1) + (qA h v0 x1.toNatClampNeg) : Int32).toNatClampNeg) (-1)) v2 (((8 * x1) + (qA h v0 x1.toNatClampNeg) : Int32).toNatClampNeg) (-1)) v3 (((8 * x1) + (qA h v0 x1.toNatClampNeg) : Int32).toNatClampNeg) (-1)) v4 (((8 * x1) + (qA h v0 x1.toNatClampNeg) : Int32).toNatClampNeg) (qI h x0 22)) Q) (wd : ((qA (q_sA (q_sA (q_sA (q_sA h v1 (((8 * x1) + (qA h v0 x1.toNatClampNeg) : Int32).toNatClampNeg) (-1)) v2 (((8 * x1) + (qA h v0 x1.toNatClampNeg) : Int32).toNatClampNeg) (-1)) v3 (((8 * x1) + (qA h v0 x1.toNatClampNeg) : Int32).toNatClampNeg) (-1)) v4 (((8 * x1) + (qA h v0 x1.toNatClampNeg) : Int32).toNatClampNeg) (qI h x0 22)) v5 x2.toNatClampNeg).toInt < 31 ∨ 33 < (qA (q_sA (q_sA (q_sA (q_sA h v1 (((8 * x1) + (qA h v0 x1.toNatClampNeg) : Int32).toNatClampNeg) (-1)) v2 (((8 * x1) + (qA h v0 x1.toNatClampNeg) : Int32).toNatClampNeg) (-1)) v3 (((8 * x1) + (qA h v0 x1.toNatClampNeg) : Int32).toNatClampNeg) (-1)) v4 (((8 * x1) + (qA h v0 x1.toNatClampNeg) : Int32).toNatClampNeg) (qI h x0 22)) v5 x2.toNatClampNeg).toInt) → q_wp n 273 318 [some (.ref x0), some (.int x1), some (.int x2), some (.int x3), some (.int ((8 * x1) + (qA h v0 x1.toNatClampNeg))), none, none] [] (q_sA (q_sA (q_sA (q_sA h v1 (((8 * x1) + (qA h v0 x1.toNatClampNeg) : Int32).toNatClampNeg) (-1)) v2 (((8 * x1) + (qA h v0 x1.toNatClampNeg) : Int32).toNatClampNeg) (-1)) v3 (((8 * x1) + (qA h v0 x1.toNatClampNeg) : Int32).toNatClampNeg) (-1)) v4 (((8 * x1) + (qA h v0 x1.toNatClampNeg) : Int32).toNatClampNeg) (qI h x0 22)) Q) : q_wp n 273 83 [some (.ref x0), some (.int x1), some (.int x2), some (.int x3), none, none, none] [] h Q := by
  refine wp_bipush (v := 8) rfl (by decide) ?_
  refine wp_loc rfl rfl ?_
  refine wp_stk rfl rfl rfl ?_
  refine wp_loc rfl rfl ?_
  refine wp_getR rfl rfl rfl rfl k0 e0 ?_
  refine wp_loc rfl rfl ?_
  refine wp_iald rfl k1 i0 ?_
  refine wp_stk rfl rfl rfl ?_
  refine wp_loc rfl rfl ?_
  refine wp_loc rfl rfl ?_
  refine wp_getR rfl rfl rfl rfl k0 e1 ?_
  refine wp_loc rfl rfl ?_
  refine wp_iconst (v := (-1)) rfl (by decide) ?_
  refine wp_iast rfl k2 i1 ?_
  refine wp_loc rfl rfl ?_
  refine wp_getR rfl rfl rfl rfl k0 e2 ?_
  refine wp_loc rfl rfl ?_
  refine wp_iconst (v := (-1)) rfl (by decide) ?_
  refine wp_iast rfl k3 i2 ?_
  refine wp_loc rfl rfl ?_
  refine wp_getR rfl rfl rfl rfl k0 e3 ?_
  refine wp_loc rfl rfl ?_
  refine wp_iconst (v := (-1)) rfl (by decide) ?_
  refine wp_iast rfl k4 i3 ?_
  refine wp_loc rfl rfl ?_
  refine wp_getR rfl rfl rfl rfl k0 e4 ?_
  refine wp_loc rfl rfl ?_
  refine wp_loc rfl rfl ?_
  refine wp_getI rfl rfl rfl k0 ?_
  refine wp_iast rfl k5 i4 ?_
  refine wp_loc rfl rfl ?_
  refine wp_getR rfl rfl rfl rfl k0 e5 ?_
  refine wp_loc rfl rfl ?_
  refine wp_iald rfl k6 i5 ?_
  refine wp_tab (dt := 318) (tg := fun j => [164, 175, 262].getD j 0) rfl (by decide) (by decide) (by decide) (fun j hj hx => ?_) wd
  have hj : j < 3 := hj
  match j, hj, hx with
  | 0, _, hx => exact w0 (Int32.toInt_inj.mp hx)
  | 1, _, hx => exact w1 (Int32.toInt_inj.mp hx)
  | 2, _, hx => exact w2 (Int32.toInt_inj.mp hx)
set_option maxRecDepth 20000 in
theorem b273_164 {n : Nat} {h : q_Hp} {Q : Option Value → q_Hp → Prop} {x0 : Nat} {x1 : Int32} {x2 : Int32} {x3 : Int32} {x4 : Int32} {m : Nat} {P : q_Hp → Prop} (hc : q_mV m 274 [.ref x0, .int x1, .int x4, .int x3] h P) (hm : m ≤ n) (w : ∀ h1 : q_Hp, P h1 → q_wp (n + 1) 273 172 [some (.ref x0), some (.int x1), some (.int x2), some (.int x3), some (.int x4), none, none] [] h1 Q) : q_wp (n + 1) 273 164 [some (.ref x0), some (.int x1), some (.int x2), some (.int x3), some (.int x4), none, none] [] h Q := by
  refine wp_loc rfl rfl ?_
  refine wp_loc rfl rfl ?_
  refine wp_loc rfl rfl ?_
  refine wp_loc rfl rfl ?_
  exact wp_callV (av := [.ref x0, .int x1, .int x4, .int x3]) rfl rfl rfl (by decide) rfl rfl rfl hm hc w
set_option maxRecDepth 20000 in
theorem b273_172 {n : Nat} {h : q_Hp} {Q : Option Value → q_Hp → Prop} {x0 : Nat} {x1 : Int32} {x2 : Int32} {x3 : Int32} {x4 : Int32} (w : q_wp n 273 435 [some (.ref x0), some (.int x1), some (.int x2), some (.int x3), some (.int x4), none, none] [] h Q) : q_wp n 273 172 [some (.ref x0), some (.int x1), some (.int x2), some (.int x3), some (.int x4), none, none] [] h Q := by
  refine wp_goto (tgt := 435) rfl (by decide) ?_
  exact w
set_option maxRecDepth 20000 in
theorem b273_175 {n : Nat} {h : q_Hp} {Q : Option Value → q_Hp → Prop} {x0 : Nat} {x1 : Int32} {x2 : Int32} {x3 : Int32} {x4 : Int32} {m : Nat} {P : q_Hp → Prop} (hc : q_mV m 253 [.ref x0, .int 5] h P) (hm : m ≤ n) (w : ∀ h1 : q_Hp, P h1 → q_wp (n + 1) 273 180 [some (.ref x0), some (.int x1), some (.int x2), some (.int x3), some (.int x4), none, none] [] h1 Q) : q_wp (n + 1) 273 175 [some (.ref x0), some (.int x1), some (.int x2), some (.int x3), some (.int x4), none, none] [] h Q := by
  refine wp_loc rfl rfl ?_
  refine wp_iconst (v := 5) rfl (by decide) ?_
  exact wp_callV (av := [.ref x0, .int 5]) rfl rfl rfl (by decide) rfl rfl rfl hm hc w
set_option maxRecDepth 20000 in
theorem b273_180 {n : Nat} {h : q_Hp} {Q : Option Value → q_Hp → Prop} {x0 : Nat} {x1 : Int32} {x2 : Int32} {x3 : Int32} {x4 : Int32} (k0 : q_ok h x0 12) {m : Nat} {P : q_Hp → Prop} (hc : q_mV m 253 [.ref x0, .int 1] h P) (hm : m ≤ n) (w : ∀ h1 : q_Hp, P h1 → q_wp (n + 1) 273 191 [some (.ref x0), some (.int x1), some (.int x2), some (.int x3), some (.int x4), some (.int (qI h x0 11)), none] [] h1 Q) : q_wp (n + 1) 273 180 [some (.ref x0), some (.int x1), some (.int x2), some (.int x3), some (.int x4), none, none] [] h Q := by
  refine wp_loc rfl rfl ?_
  refine wp_getI rfl rfl rfl k0 ?_
  refine wp_loc rfl rfl ?_
  refine wp_loc rfl rfl ?_
  refine wp_iconst (v := 1) rfl (by decide) ?_
  exact wp_callV (av := [.ref x0, .int 1]) rfl rfl rfl (by decide) rfl rfl rfl hm hc w
set_option maxRecDepth 20000 in
theorem b273_191 {n : Nat} {h : q_Hp} {Q : Option Value → q_Hp → Prop} {x0 : Nat} {x1 : Int32} {x2 : Int32} {x3 : Int32} {x4 : Int32} {x5 : Int32} (k0 : q_ok h x0 12) (wt : (qI h x0 13) ≤ 0 → q_wp n 273 199 [some (.ref x0), some (.int x1), some (.int x2), some (.int x3), some (.int x4), some (.int x5), none] [] h Q) (wf : ¬ (qI h x0 13) ≤ 0 → q_wp n 273 198 [some (.ref x0), some (.int x1), some (.int x2), some (.int x3), some (.int x4), some (.int x5), none] [] h Q) : q_wp n 273 191 [some (.ref x0), some (.int x1), some (.int x2), some (.int x3), some (.int x4), some (.int x5), none] [] h Q := by
  refine wp_loc rfl rfl ?_
  refine wp_getI rfl rfl rfl k0 ?_
  exact wp_ifle (tgt := 199) rfl (by decide) wt wf
set_option maxRecDepth 20000 in
theorem b273_198 {n : Nat} {h : q_Hp} {Q : Option Value → q_Hp → Prop} {x0 : Nat} {x1 : Int32} {x2 : Int32} {x3 : Int32} {x4 : Int32} {x5 : Int32} (q : Q none h) : q_wp n 273 198 [some (.ref x0), some (.int x1), some (.int x2), some (.int x3), some (.int x4), some (.int x5), none] [] h Q := by
  exact wp_ret rfl rfl q
set_option maxRecDepth 20000 in
theorem b273_199 {n : Nat} {h : q_Hp} {Q : Option Value → q_Hp → Prop} {x0 : Nat} {x1 : Int32} {x2 : Int32} {x3 : Int32} {x4 : Int32} {x5 : Int32} {m : Nat} {P : Int32 → q_Hp → Prop} (hc : q_mI m 255 [.ref x0, .int x5] h P) (hm : m ≤ n) (w : ∀ (z : Int32) (h1 : q_Hp), P z h1 → q_wp (n + 1) 273 205 [some (.ref x0), some (.int x1), some (.int x2), some (.int x3), some (.int x4), some (.int x5), none] [.int z] h1 Q) : q_wp (n + 1) 273 199 [some (.ref x0), some (.int x1), some (.int x2), some (.int x3), some (.int x4), some (.int x5), none] [] h Q := by
  refine wp_loc rfl rfl ?_
  refine wp_loc rfl rfl ?_
  exact wp_callI (av := [.ref x0, .int x5]) rfl rfl rfl (by decide) rfl rfl rfl hm hc w
set_option maxRecDepth 20000 in
theorem b273_205 {n : Nat} {h : q_Hp} {Q : Option Value → q_Hp → Prop} {x0 : Nat} {x1 : Int32} {x2 : Int32} {x3 : Int32} {x4 : Int32} {x5 : Int32} {s0 : Int32} (k0 : q_ok h x0 12) {m : Nat} {P : q_Hp → Prop} (hc : q_mV m 258 [.ref x0, .int x3, .int 2, .int (qI h x0 77), .int s0] h P) (hm : m ≤ n) (w : ∀ h1 : q_Hp, P h1 → q_wp (n + 1) 273 219 [some (.ref x0), some (.int x1), some (.int x2), some (.int x3), some (.int x4), some (.int x5), some (.int s0)] [] h1 Q) : q_wp (n + 1) 273 205 [some (.ref x0), some (.int x1), some (.int x2), some (.int x3), some (.int x4), some (.int x5), none] [.int s0] h Q := by
  refine wp_loc rfl rfl ?_
  refine wp_loc rfl rfl ?_
  refine wp_loc rfl rfl ?_
  refine wp_iconst (v := 2) rfl (by decide) ?_
  refine wp_loc rfl rfl ?_
  refine wp_getI rfl rfl rfl k0 ?_
  refine wp_loc rfl rfl ?_
  exact wp_callV (av := [.ref x0, .int x3, .int 2, .int (qI h x0 77), .int s0]) rfl rfl rfl (by decide) rfl rfl rfl hm hc w
set_option maxRecDepth 20000 in
theorem b273_219 {n : Nat} {h : q_Hp} {Q : Option Value → q_Hp → Prop} {x0 : Nat} {x1 : Int32} {x2 : Int32} {x3 : Int32} {x4 : Int32} {x5 : Int32} {x6 : Int32} {v0 : Nat} {v1 : Nat} {v2 : Nat} (k0 : q_ok h x0 12) (e0 : qR h x0 50 = v0) (k1 : q_ok h v0 20) (i0 : q_in x4 (qK h v0).2) (e1 : qR h x0 51 = v1) (k2 : q_ok h v1 20) (i1 : q_in x4 (qK h v1).2) (e2 : qR h x0 52 = v2) (k3 : q_ok h v2 20) (i2 : q_in x4 (qK h v2).2) (w : q_wp n 273 435 [some (.ref x0), some (.int x1), some (.int x2), some (.int x3), some (.int x4), some (.int x5), some (.int x6)] [] (q_sI (q_sA (q_sA (q_sA h v0 x4.toNatClampNeg 2) v1 x4.toNatClampNeg (4 + (qI h x0 77))) v2 x4.toNatClampNeg x6) x0 77 ((qI h x0 77) + 1)) Q) : q_wp n 273 219 [some (.ref x0), some (.int x1), some (.int x2), some (.int x3), some (.int x4), some (.int x5), some (.int x6)] [] h Q := by
  refine wp_loc rfl rfl ?_
  refine wp_getR rfl rfl rfl rfl k0 e0 ?_
  refine wp_loc rfl rfl ?_
  refine wp_iconst (v := 2) rfl (by decide) ?_
  refine wp_iast rfl k1 i0 ?_
  refine wp_loc rfl rfl ?_
  refine wp_getR rfl rfl rfl rfl k0 e1 ?_
  refine wp_loc rfl rfl ?_
  refine wp_iconst (v := 4) rfl (by decide) ?_
  refine wp_loc rfl rfl ?_
  refine wp_getI rfl rfl rfl k0 ?_
  refine wp_stk rfl rfl rfl ?_
  refine wp_iast rfl k2 i1 ?_
  refine wp_loc rfl rfl ?_
  refine wp_getR rfl rfl rfl rfl k0 e2 ?_
  refine wp_loc rfl rfl ?_
  refine wp_loc rfl rfl ?_
  refine wp_iast rfl k3 i2 ?_
  refine wp_loc rfl rfl ?_
  refine wp_stk rfl rfl rfl ?_
  refine wp_getI rfl rfl rfl k0 ?_
  refine wp_iconst (v := 1) rfl (by decide) ?_
  refine wp_stk rfl rfl rfl ?_
  refine wp_putI rfl rfl (Or.inl rfl) rfl (fun h9 => by cases h9) k0 ?_
  refine wp_goto (tgt := 435) rfl (by decide) ?_
  exact w
set_option maxRecDepth 20000 in
theorem b273_262 {n : Nat} {h : q_Hp} {Q : Option Value → q_Hp → Prop} {x0 : Nat} {x1 : Int32} {x2 : Int32} {x3 : Int32} {x4 : Int32} {m : Nat} {P : q_Hp → Prop} (hc : q_mV m 253 [.ref x0, .int 14] h P) (hm : m ≤ n) (w : ∀ h1 : q_Hp, P h1 → q_wp (n + 1) 273 268 [some (.ref x0), some (.int x1), some (.int x2), some (.int x3), some (.int x4), none, none] [] h1 Q) : q_wp (n + 1) 273 262 [some (.ref x0), some (.int x1), some (.int x2), some (.int x3), some (.int x4), none, none] [] h Q := by
  refine wp_loc rfl rfl ?_
  refine wp_bipush (v := 14) rfl (by decide) ?_
  exact wp_callV (av := [.ref x0, .int 14]) rfl rfl rfl (by decide) rfl rfl rfl hm hc w
set_option maxRecDepth 20000 in
theorem b273_268 {n : Nat} {h : q_Hp} {Q : Option Value → q_Hp → Prop} {x0 : Nat} {x1 : Int32} {x2 : Int32} {x3 : Int32} {x4 : Int32} (k0 : q_ok h x0 12) {m : Nat} {P : q_Hp → Prop} (hc : q_mV m 253 [.ref x0, .int 1] h P) (hm : m ≤ n) (w : ∀ h1 : q_Hp, P h1 → q_wp (n + 1) 273 279 [some (.ref x0), some (.int x1), some (.int x2), some (.int x3), some (.int x4), some (.int (qI h x0 11)), none] [] h1 Q) : q_wp (n + 1) 273 268 [some (.ref x0), some (.int x1), some (.int x2), some (.int x3), some (.int x4), none, none] [] h Q := by
  refine wp_loc rfl rfl ?_
  refine wp_getI rfl rfl rfl k0 ?_
  refine wp_loc rfl rfl ?_
  refine wp_loc rfl rfl ?_
  refine wp_iconst (v := 1) rfl (by decide) ?_
  exact wp_callV (av := [.ref x0, .int 1]) rfl rfl rfl (by decide) rfl rfl rfl hm hc w
set_option maxRecDepth 20000 in
theorem b273_279 {n : Nat} {h : q_Hp} {Q : Option Value → q_Hp → Prop} {x0 : Nat} {x1 : Int32} {x2 : Int32} {x3 : Int32} {x4 : Int32} {x5 : Int32} {m : Nat} {P : q_Hp → Prop} (hc : q_mV m 253 [.ref x0, .int 18] h P) (hm : m ≤ n) (w : ∀ h1 : q_Hp, P h1 → q_wp (n + 1) 273 285 [some (.ref x0), some (.int x1), some (.int x2), some (.int x3), some (.int x4), some (.int x5), none] [] h1 Q) : q_wp (n + 1) 273 279 [some (.ref x0), some (.int x1), some (.int x2), some (.int x3), some (.int x4), some (.int x5), none] [] h Q := by
  refine wp_loc rfl rfl ?_
  refine wp_bipush (v := 18) rfl (by decide) ?_
  exact wp_callV (av := [.ref x0, .int 18]) rfl rfl rfl (by decide) rfl rfl rfl hm hc w
set_option maxRecDepth 20000 in
theorem b273_285 {n : Nat} {h : q_Hp} {Q : Option Value → q_Hp → Prop} {x0 : Nat} {x1 : Int32} {x2 : Int32} {x3 : Int32} {x4 : Int32} {x5 : Int32} (k0 : q_ok h x0 12) {m : Nat} {P : q_Hp → Prop} (hc : q_mV m 253 [.ref x0, .int 1] h P) (hm : m ≤ n) (w : ∀ h1 : q_Hp, P h1 → q_wp (n + 1) 273 296 [some (.ref x0), some (.int x1), some (.int x2), some (.int x3), some (.int x4), some (.int x5), some (.int (qI h x0 11))] [] h1 Q) : q_wp (n + 1) 273 285 [some (.ref x0), some (.int x1), some (.int x2), some (.int x3), some (.int x4), some (.int x5), none] [] h Q := by
  refine wp_loc rfl rfl ?_
  refine wp_getI rfl rfl rfl k0 ?_
  refine wp_loc rfl rfl ?_
  refine wp_loc rfl rfl ?_
  refine wp_iconst (v := 1) rfl (by decide) ?_
  exact wp_callV (av := [.ref x0, .int 1]) rfl rfl rfl (by decide) rfl rfl rfl hm hc w
set_option maxRecDepth 20000 in
theorem b273_296 {n : Nat} {h : q_Hp} {Q : Option Value → q_Hp → Prop} {x0 : Nat} {x1 : Int32} {x2 : Int32} {x3 : Int32} {x4 : Int32} {x5 : Int32} {x6 : Int32} (k0 : q_ok h x0 12) (wt : (qI h x0 13) ≤ 0 → q_wp n 273 304 [some (.ref x0), some (.int x1), some (.int x2), some (.int x3), some (.int x4), some (.int x5), some (.int x6)] [] h Q) (wf : ¬ (qI h x0 13) ≤ 0 → q_wp n 273 303 [some (.ref x0), some (.int x1), some (.int x2), some (.int x3), some (.int x4), some (.int x5), some (.int x6)] [] h Q) : q_wp n 273 296 [some (.ref x0), some (.int x1), some (.int x2), some (.int x3), some (.int x4), some (.int x5), some (.int x6)] [] h Q := by
  refine wp_loc rfl rfl ?_
  refine wp_getI rfl rfl rfl k0 ?_
  exact wp_ifle (tgt := 304) rfl (by decide) wt wf
set_option maxRecDepth 20000 in
theorem b273_303 {n : Nat} {h : q_Hp} {Q : Option Value → q_Hp → Prop} {x0 : Nat} {x1 : Int32} {x2 : Int32} {x3 : Int32} {x4 : Int32} {x5 : Int32} {x6 : Int32} (q : Q none h) : q_wp n 273 303 [some (.ref x0), some (.int x1), some (.int x2), some (.int x3), some (.int x4), some (.int x5), some (.int x6)] [] h Q := by
  exact wp_ret rfl rfl q
set_option maxRecDepth 20000 in
theorem b273_304 {n : Nat} {h : q_Hp} {Q : Option Value → q_Hp → Prop} {x0 : Nat} {x1 : Int32} {x2 : Int32} {x3 : Int32} {x4 : Int32} {x5 : Int32} {x6 : Int32} {m : Nat} {P : q_Hp → Prop} (hc : q_mV m 275 [.ref x0, .int x4, .int x3, .int x5, .int x6] h P) (hm : m ≤ n) (w : ∀ h1 : q_Hp, P h1 → q_wp (n + 1) 273 315 [some (.ref x0), some (.int x1), some (.int x2), some (.int x3), some (.int x4), some (.int x5), some (.int x6)] [] h1 Q) : q_wp (n + 1) 273 304 [some (.ref x0), some (.int x1), some (.int x2), some (.int x3), some (.int x4), some (.int x5), some (.int x6)] [] h Q := by
  refine wp_loc rfl rfl ?_
  refine wp_loc rfl rfl ?_
  refine wp_loc rfl rfl ?_
  refine wp_loc rfl rfl ?_
  refine wp_loc rfl rfl ?_
  exact wp_callV (av := [.ref x0, .int x4, .int x3, .int x5, .int x6]) rfl rfl rfl (by decide) rfl rfl rfl hm hc w
set_option maxRecDepth 20000 in
theorem b273_315 {n : Nat} {h : q_Hp} {Q : Option Value → q_Hp → Prop} {x0 : Nat} {x1 : Int32} {x2 : Int32} {x3 : Int32} {x4 : Int32} {x5 : Int32} {x6 : Int32} (w : q_wp n 273 435 [some (.ref x0), some (.int x1), some (.int x2), some (.int x3), some (.int x4), some (.int x5), some (.int x6)] [] h Q) : q_wp n 273 315 [some (.ref x0), some (.int x1), some (.int x2), some (.int x3), some (.int x4), some (.int x5), some (.int x6)] [] h Q := by
  refine wp_goto (tgt := 435) rfl (by decide) ?_
  exact w
set_option maxRecDepth 20000 in
theorem b273_318 {n : Nat} {h : q_Hp} {Q : Option Value → q_Hp → Prop} {x0 : Nat} {x1 : Int32} {x2 : Int32} {x3 : Int32} {x4 : Int32} {m : Nat} {P : q_Hp → Prop} (hc : q_mV m 253 [.ref x0, .int 6] h P) (hm : m ≤ n) (w : ∀ h1 : q_Hp, P h1 → q_wp (n + 1) 273 324 [some (.ref x0), some (.int x1), some (.int x2), some (.int x3), some (.int x4), none, none] [] h1 Q) : q_wp (n + 1) 273 318 [some (.ref x0), some (.int x1), some (.int x2), some (.int x3), some (.int x4), none, none] [] h Q := by
  refine wp_loc rfl rfl ?_
  refine wp_bipush (v := 6) rfl (by decide) ?_
  exact wp_callV (av := [.ref x0, .int 6]) rfl rfl rfl (by decide) rfl rfl rfl hm hc w
set_option maxRecDepth 20000 in
theorem b273_324 {n : Nat} {h : q_Hp} {Q : Option Value → q_Hp → Prop} {x0 : Nat} {x1 : Int32} {x2 : Int32} {x3 : Int32} {x4 : Int32} (k0 : q_ok h x0 12) {m : Nat} {P : q_Hp → Prop} (hc : q_mV m 253 [.ref x0, .int 2] h P) (hm : m ≤ n) (w : ∀ h1 : q_Hp, P h1 → q_wp (n + 1) 273 335 [some (.ref x0), some (.int x1), some (.int x2), some (.int x3), some (.int x4), some (.int (qI h x0 11)), none] [] h1 Q) : q_wp (n + 1) 273 324 [some (.ref x0), some (.int x1), some (.int x2), some (.int x3), some (.int x4), none, none] [] h Q := by
  refine wp_loc rfl rfl ?_
  refine wp_getI rfl rfl rfl k0 ?_
  refine wp_loc rfl rfl ?_
  refine wp_loc rfl rfl ?_
  refine wp_iconst (v := 2) rfl (by decide) ?_
  exact wp_callV (av := [.ref x0, .int 2]) rfl rfl rfl (by decide) rfl rfl rfl hm hc w
set_option maxRecDepth 20000 in
theorem b273_335 {n : Nat} {h : q_Hp} {Q : Option Value → q_Hp → Prop} {x0 : Nat} {x1 : Int32} {x2 : Int32} {x3 : Int32} {x4 : Int32} {x5 : Int32} (k0 : q_ok h x0 12) (wt : (qI h x0 13) ≤ 0 → q_wp n 273 343 [some (.ref x0), some (.int x1), some (.int x2), some (.int x3), some (.int x4), some (.int x5), none] [] h Q) (wf : ¬ (qI h x0 13) ≤ 0 → q_wp n 273 342 [some (.ref x0), some (.int x1), some (.int x2), some (.int x3), some (.int x4), some (.int x5), none] [] h Q) : q_wp n 273 335 [some (.ref x0), some (.int x1), some (.int x2), some (.int x3), some (.int x4), some (.int x5), none] [] h Q := by
  refine wp_loc rfl rfl ?_
  refine wp_getI rfl rfl rfl k0 ?_
  exact wp_ifle (tgt := 343) rfl (by decide) wt wf
set_option maxRecDepth 20000 in
theorem b273_342 {n : Nat} {h : q_Hp} {Q : Option Value → q_Hp → Prop} {x0 : Nat} {x1 : Int32} {x2 : Int32} {x3 : Int32} {x4 : Int32} {x5 : Int32} (q : Q none h) : q_wp n 273 342 [some (.ref x0), some (.int x1), some (.int x2), some (.int x3), some (.int x4), some (.int x5), none] [] h Q := by
  exact wp_ret rfl rfl q
set_option maxRecDepth 20000 in
theorem b273_343 {n : Nat} {h : q_Hp} {Q : Option Value → q_Hp → Prop} {x0 : Nat} {x1 : Int32} {x2 : Int32} {x3 : Int32} {x4 : Int32} {x5 : Int32} {m : Nat} {P : Int32 → q_Hp → Prop} (hc : q_mI m 271 [.ref x0, .int x3] h P) (hm : m ≤ n) (w : ∀ (z : Int32) (h1 : q_Hp), P z h1 → q_wp (n + 1) 273 348 [some (.ref x0), some (.int x1), some (.int x2), some (.int x3), some (.int x4), some (.int x5), none] [.int z] h1 Q) : q_wp (n + 1) 273 343 [some (.ref x0), some (.int x1), some (.int x2), some (.int x3), some (.int x4), some (.int x5), none] [] h Q := by
  refine wp_loc rfl rfl ?_
  refine wp_loc rfl rfl ?_
  exact wp_callI (av := [.ref x0, .int x3]) rfl rfl rfl (by decide) rfl rfl rfl hm hc w
set_option maxRecDepth 20000 in
theorem b273_348 {n : Nat} {h : q_Hp} {Q : Option Value → q_Hp → Prop} {x0 : Nat} {x1 : Int32} {x2 : Int32} {x3 : Int32} {x4 : Int32} {x5 : Int32} {s0 : Int32} {v0 : Nat} (k0 : q_ok h x0 12) (e0 : qR h x0 7 = v0) (k1 : q_ok h v0 20) (i0 : q_in x5 (qK h v0).2) (wt : (qA h v0 x5.toNatClampNeg) ≤ 1 → q_wp n 273 368 [some (.ref x0), some (.int x1), some (.int x2), some (.int x3), some (.int x4), some (.int x5), some (.int s0)] [] h Q) (wf : ¬ (qA h v0 x5.toNatClampNeg) ≤ 1 → q_wp n 273 361 [some (.ref x0), some (.int x1), some (.int x2), some (.int x3), some (.int x4), some (.int x5), some (.int s0)] [] h Q) : q_wp n 273 348 [some (.ref x0), some (.int x1), some (.int x2), some (.int x3), some (.int x4), some (.int x5), none] [.int s0] h Q := by
  refine wp_loc rfl rfl ?_
  refine wp_loc rfl rfl ?_
  refine wp_getR rfl rfl rfl rfl k0 e0 ?_
  refine wp_loc rfl rfl ?_
  refine wp_iald rfl k1 i0 ?_
  refine wp_iconst (v := 1) rfl (by decide) ?_
  exact wp_icle (tgt := 368) rfl (by decide) wt wf
set_option maxRecDepth 20000 in
theorem b273_361 {n : Nat} {h : q_Hp} {Q : Option Value → q_Hp → Prop} {x0 : Nat} {x1 : Int32} {x2 : Int32} {x3 : Int32} {x4 : Int32} {x5 : Int32} {x6 : Int32} {m : Nat} {P : q_Hp → Prop} (hc : q_mV m 251 [.ref x0, .int 5, .int x5] h P) (hm : m ≤ n) (w : ∀ h1 : q_Hp, P h1 → q_wp (n + 1) 273 368 [some (.ref x0), some (.int x1), some (.int x2), some (.int x3), some (.int x4), some (.int x5), some (.int x6)] [] h1 Q) : q_wp (n + 1) 273 361 [some (.ref x0), some (.int x1), some (.int x2), some (.int x3), some (.int x4), some (.int x5), some (.int x6)] [] h Q := by
  refine wp_loc rfl rfl ?_
  refine wp_iconst (v := 5) rfl (by decide) ?_
  refine wp_loc rfl rfl ?_
  exact wp_callV (av := [.ref x0, .int 5, .int x5]) rfl rfl rfl (by decide) rfl rfl rfl hm hc w
set_option maxRecDepth 20000 in
theorem b273_368 {n : Nat} {h : q_Hp} {Q : Option Value → q_Hp → Prop} {x0 : Nat} {x1 : Int32} {x2 : Int32} {x3 : Int32} {x4 : Int32} {x5 : Int32} {x6 : Int32} {m : Nat} {P : q_Hp → Prop} (hc : q_mV m 253 [.ref x0, .int 8] h P) (hm : m ≤ n) (w : ∀ h1 : q_Hp, P h1 → q_wp (n + 1) 273 374 [some (.ref x0), some (.int x1), some (.int x2), some (.int x3), some (.int x4), some (.int x5), some (.int x6)] [] h1 Q) : q_wp (n + 1) 273 368 [some (.ref x0), some (.int x1), some (.int x2), some (.int x3), some (.int x4), some (.int x5), some (.int x6)] [] h Q := by
  refine wp_loc rfl rfl ?_
  refine wp_bipush (v := 8) rfl (by decide) ?_
  exact wp_callV (av := [.ref x0, .int 8]) rfl rfl rfl (by decide) rfl rfl rfl hm hc w
set_option maxRecDepth 20000 in
theorem b273_374 {n : Nat} {h : q_Hp} {Q : Option Value → q_Hp → Prop} {x0 : Nat} {x1 : Int32} {x2 : Int32} {x3 : Int32} {x4 : Int32} {x5 : Int32} {x6 : Int32} {v0 : Nat} {v1 : Nat} (k0 : q_ok h x0 12) (e0 : qR h x0 50 = v0) (k1 : q_ok h v0 20) (i0 : q_in x4 (qK h v0).2) (e1 : qR h x0 51 = v1) (wt : ¬ x6 = (-1) → q_wp n 273 398 [some (.ref x0), some (.int x1), some (.int x2), some (.int x3), some (.int x4), some (.int x5), some (.int x6)] [.int x4, .ref v1] (q_sA h v0 x4.toNatClampNeg 4) Q) (wf : x6 = (-1) → q_wp n 273 394 [some (.ref x0), some (.int x1), some (.int x2), some (.int x3), some (.int x4), some (.int x5), some (.int x6)] [.int x4, .ref v1] (q_sA h v0 x4.toNatClampNeg 4) Q) : q_wp n 273 374 [some (.ref x0), some (.int x1), some (.int x2), some (.int x3), some (.int x4), some (.int x5), some (.int x6)] [] h Q := by
  refine wp_loc rfl rfl ?_
  refine wp_getR rfl rfl rfl rfl k0 e0 ?_
  refine wp_loc rfl rfl ?_
  refine wp_iconst (v := 4) rfl (by decide) ?_
  refine wp_iast rfl k1 i0 ?_
  refine wp_loc rfl rfl ?_
  refine wp_getR rfl rfl rfl rfl k0 e1 ?_
  refine wp_loc rfl rfl ?_
  refine wp_loc rfl rfl ?_
  refine wp_iconst (v := (-1)) rfl (by decide) ?_
  exact wp_icne (tgt := 398) rfl (by decide) wt wf
set_option maxRecDepth 20000 in
theorem b273_394 {n : Nat} {h : q_Hp} {Q : Option Value → q_Hp → Prop} {x0 : Nat} {x1 : Int32} {x2 : Int32} {x3 : Int32} {x4 : Int32} {x5 : Int32} {x6 : Int32} {s0 : Int32} {s1 : Nat} (w : q_wp n 273 415 [some (.ref x0), some (.int x1), some (.int x2), some (.int x3), some (.int x4), some (.int x5), some (.int x6)] [.int (-1), .int s0, .ref s1] h Q) : q_wp n 273 394 [some (.ref x0), some (.int x1), some (.int x2), some (.int x3), some (.int x4), some (.int x5), some (.int x6)] [.int s0, .ref s1] h Q := by
  refine wp_iconst (v := (-1)) rfl (by decide) ?_
  refine wp_goto (tgt := 415) rfl (by decide) ?_
  exact w
set_option maxRecDepth 20000 in
theorem b273_398 {n : Nat} {h : q_Hp} {Q : Option Value → q_Hp → Prop} {x0 : Nat} {x1 : Int32} {x2 : Int32} {x3 : Int32} {x4 : Int32} {x5 : Int32} {x6 : Int32} {s0 : Int32} {s1 : Nat} {v0 : Nat} {v1 : Nat} (k0 : q_ok h x0 12) (e0 : qR h x0 70 = v0) (k1 : q_ok h v0 20) (i0 : q_in x6 (qK h v0).2) (e1 : qR h x0 71 = v1) (k2 : q_ok h v1 20) (i1 : q_in x6 (qK h v1).2) {m : Nat} {P : Int32 → q_Hp → Prop} (hc : q_mI m 272 [.int (qA h v0 x6.toNatClampNeg), .int (qA h v1 x6.toNatClampNeg)] h P) (hm : m ≤ n) (w : ∀ (z : Int32) (h1 : q_Hp), P z h1 → q_wp (n + 1) 273 415 [some (.ref x0), some (.int x1), some (.int x2), some (.int x3), some (.int x4), some (.int x5), some (.int x6)] [.int z, .int s0, .ref s1] h1 Q) : q_wp (n + 1) 273 398 [some (.ref x0), some (.int x1), some (.int x2), some (.int x3), some (.int x4), some (.int x5), some (.int x6)] [.int s0, .ref s1] h Q := by
  refine wp_loc rfl rfl ?_
  refine wp_getR rfl rfl rfl rfl k0 e0 ?_
  refine wp_loc rfl rfl ?_
  refine wp_iald rfl k1 i0 ?_
  refine wp_loc rfl rfl ?_
  refine wp_getR rfl rfl rfl rfl k0 e1 ?_
  refine wp_loc rfl rfl ?_
  refine wp_iald rfl k2 i1 ?_
  exact wp_callI (av := [.int (qA h v0 x6.toNatClampNeg), .int (qA h v1 x6.toNatClampNeg)]) rfl rfl rfl (by decide) rfl rfl rfl hm hc w
set_option maxRecDepth 20000 in
theorem b273_415 {n : Nat} {h : q_Hp} {Q : Option Value → q_Hp → Prop} {x0 : Nat} {x1 : Int32} {x2 : Int32} {x3 : Int32} {x4 : Int32} {x5 : Int32} {x6 : Int32} {s0 : Int32} {s1 : Int32} {s2 : Nat} {v0 : Nat} {v1 : Nat} (k0 : q_ok h s2 20) (i0 : q_in s1 (qK h s2).2) (k1 : q_ok h x0 12) (e0 : qR h x0 52 = v0) (e1 : qR h x0 7 = v1) (k2 : q_ok h v1 20) (i1 : q_in x5 (qK h v1).2) (k3 : q_ok h v0 20) (i2 : q_in x4 (qK h v0).2) {m : Nat} {P : q_Hp → Prop} (hc : q_mV m 280 [.ref x0, .int 1] (q_sA (q_sA h s2 s1.toNatClampNeg s0) v0 x4.toNatClampNeg (qA (q_sA h s2 s1.toNatClampNeg s0) v1 x5.toNatClampNeg)) P) (hm : m ≤ n) (w : ∀ h1 : q_Hp, P h1 → q_wp (n + 1) 273 435 [some (.ref x0), some (.int x1), some (.int x2), some (.int x3), some (.int x4), some (.int x5), some (.int x6)] [] h1 Q) : q_wp (n + 1) 273 415 [some (.ref x0), some (.int x1), some (.int x2), some (.int x3), some (.int x4), some (.int x5), some (.int x6)] [.int s0, .int s1, .ref s2] h Q := by
  refine wp_iast rfl k0 i0 ?_
  refine wp_loc rfl rfl ?_
  refine wp_getR rfl rfl rfl rfl k1 e0 ?_
  refine wp_loc rfl rfl ?_
  refine wp_loc rfl rfl ?_
  refine wp_getR rfl rfl rfl rfl k1 e1 ?_
  refine wp_loc rfl rfl ?_
  refine wp_iald rfl k2 i1 ?_
  refine wp_iast rfl k3 i2 ?_
  refine wp_loc rfl rfl ?_
  refine wp_iconst (v := 1) rfl (by decide) ?_
  exact wp_callV (av := [.ref x0, .int 1]) rfl rfl rfl (by decide) rfl rfl rfl hm hc w
set_option maxRecDepth 20000 in
theorem b273_435 {n : Nat} {h : q_Hp} {Q : Option Value → q_Hp → Prop} {x0 : Nat} {x1 : Int32} {x2 : Int32} {x3 : Int32} {x4 : Int32} {l5 : Option Value} {l6 : Option Value} {v0 : Nat} {v1 : Nat} (k0 : q_ok h x0 12) (e0 : qR h x0 55 = v0) (k1 : q_ok h v0 20) (i0 : q_in x4 (qK h v0).2) (e1 : qR h x0 49 = v1) (k2 : q_ok h v1 20) (i1 : q_in x1 (qK h v1).2) {m : Nat} {P : q_Hp → Prop} (hc : q_mV m 253 [.ref x0, .int 4] (q_sA (q_sA h v0 x4.toNatClampNeg (qI h x0 22)) v1 x1.toNatClampNeg ((qA (q_sA h v0 x4.toNatClampNeg (qI h x0 22)) v1 x1.toNatClampNeg) + 1)) P) (hm : m ≤ n) (w : ∀ h1 : q_Hp, P h1 → q_wp (n + 1) 273 461 [some (.ref x0), some (.int x1), some (.int x2), some (.int x3), some (.int x4), l5, l6] [] h1 Q) : q_wp (n + 1) 273 435 [some (.ref x0), some (.int x1), some (.int x2), some (.int x3), some (.int x4), l5, l6] [] h Q := by
  refine wp_loc rfl rfl ?_
  refine wp_getR rfl rfl rfl rfl k0 e0 ?_
  refine wp_loc rfl rfl ?_
  refine wp_loc rfl rfl ?_
  refine wp_getI rfl rfl rfl k0 ?_
  refine wp_iast rfl k1 i0 ?_
  refine wp_loc rfl rfl ?_
  refine wp_getR rfl rfl rfl rfl k0 e1 ?_
  refine wp_loc rfl rfl ?_
  refine wp_stk rfl rfl rfl ?_
  refine wp_iald rfl k2 i1 ?_
  refine wp_iconst (v := 1) rfl (by decide) ?_
  refine wp_stk rfl rfl rfl ?_
  refine wp_iast rfl k2 i1 ?_
  refine wp_loc rfl rfl ?_
  refine wp_iconst (v := 4) rfl (by decide) ?_
  exact wp_callV (av := [.ref x0, .int 4]) rfl rfl rfl (by decide) rfl rfl rfl hm hc w
set_option maxRecDepth 20000 in
theorem b273_461 {n : Nat} {h : q_Hp} {Q : Option Value → q_Hp → Prop} {x0 : Nat} {x1 : Int32} {x2 : Int32} {x3 : Int32} {x4 : Int32} {l5 : Option Value} {l6 : Option Value} (q : Q none h) : q_wp n 273 461 [some (.ref x0), some (.int x1), some (.int x2), some (.int x3), some (.int x4), l5, l6] [] h Q := by
  exact wp_ret rfl rfl q
set_option maxRecDepth 20000 in
theorem b274_0 {n : Nat} {h : q_Hp} {Q : Option Value → q_Hp → Prop} {x0 : Nat} {x1 : Int32} {x2 : Int32} {x3 : Int32} {m : Nat} {P : Int32 → q_Hp → Prop} (hc : q_mI m 257 [.ref x0, .int x3] h P) (hm : m ≤ n) (w : ∀ (z : Int32) (h1 : q_Hp), P z h1 → q_wp (n + 1) 274 5 [some (.ref x0), some (.int x1), some (.int x2), some (.int x3), none, none, none] [.int z] h1 Q) : q_wp (n + 1) 274 0 [some (.ref x0), some (.int x1), some (.int x2), some (.int x3), none, none, none] [] h Q := by
  refine wp_loc rfl rfl ?_
  refine wp_loc rfl rfl ?_
  exact wp_callI (av := [.ref x0, .int x3]) rfl rfl rfl (by decide) rfl rfl rfl hm hc w
set_option maxRecDepth 20000 in
theorem b274_5 {n : Nat} {h : q_Hp} {Q : Option Value → q_Hp → Prop} {x0 : Nat} {x1 : Int32} {x2 : Int32} {x3 : Int32} {s0 : Int32} (wt : s0 = (-1) → q_wp n 274 34 [some (.ref x0), some (.int x1), some (.int x2), some (.int x3), some (.int s0), none, none] [] h Q) (wf : ¬ s0 = (-1) → q_wp n 274 13 [some (.ref x0), some (.int x1), some (.int x2), some (.int x3), some (.int s0), none, none] [] h Q) : q_wp n 274 5 [some (.ref x0), some (.int x1), some (.int x2), some (.int x3), none, none, none] [.int s0] h Q := by
  refine wp_loc rfl rfl ?_
  refine wp_loc rfl rfl ?_
  refine wp_iconst (v := (-1)) rfl (by decide) ?_
  exact wp_iceq (tgt := 34) rfl (by decide) wt wf
set_option maxRecDepth 20000 in
theorem b274_13 {n : Nat} {h : q_Hp} {Q : Option Value → q_Hp → Prop} {x0 : Nat} {x1 : Int32} {x2 : Int32} {x3 : Int32} {x4 : Int32} {v0 : Nat} (k0 : q_ok h x0 12) (e0 : qR h x0 70 = v0) (k1 : q_ok h v0 20) (i0 : q_in x4 (qK h v0).2) (wt : (qA h v0 x4.toNatClampNeg) = 2 → q_wp n 274 34 [some (.ref x0), some (.int x1), some (.int x2), some (.int x3), some (.int x4), none, none] [] h Q) (wf : ¬ (qA h v0 x4.toNatClampNeg) = 2 → q_wp n 274 24 [some (.ref x0), some (.int x1), some (.int x2), some (.int x3), some (.int x4), none, none] [] h Q) : q_wp n 274 13 [some (.ref x0), some (.int x1), some (.int x2), some (.int x3), some (.int x4), none, none] [] h Q := by
  refine wp_loc rfl rfl ?_
  refine wp_getR rfl rfl rfl rfl k0 e0 ?_
  refine wp_loc rfl rfl ?_
  refine wp_iald rfl k1 i0 ?_
  refine wp_iconst (v := 2) rfl (by decide) ?_
  exact wp_iceq (tgt := 34) rfl (by decide) wt wf
set_option maxRecDepth 20000 in
theorem b274_24 {n : Nat} {h : q_Hp} {Q : Option Value → q_Hp → Prop} {x0 : Nat} {x1 : Int32} {x2 : Int32} {x3 : Int32} {x4 : Int32} {v0 : Nat} (k0 : q_ok h x0 12) (e0 : qR h x0 73 = v0) (b2 : q_ok h v0 22 ∨ q_ok h v0 23) (i0 : q_in x4 (qK h v0).2) (wt : (qA h v0 x4.toNatClampNeg) = 0 → q_wp n 274 48 [some (.ref x0), some (.int x1), some (.int x2), some (.int x3), some (.int x4), none, none] [] h Q) (wf : ¬ (qA h v0 x4.toNatClampNeg) = 0 → q_wp n 274 34 [some (.ref x0), some (.int x1), some (.int x2), some (.int x3), some (.int x4), none, none] [] h Q) : q_wp n 274 24 [some (.ref x0), some (.int x1), some (.int x2), some (.int x3), some (.int x4), none, none] [] h Q := by
  refine wp_loc rfl rfl ?_
  refine wp_getR rfl rfl rfl rfl k0 e0 ?_
  refine wp_loc rfl rfl ?_
  refine wp_bald rfl b2 i0 ?_
  exact wp_ifeq (tgt := 48) rfl (by decide) wt wf
set_option maxRecDepth 20000 in
theorem b274_34 {n : Nat} {h : q_Hp} {Q : Option Value → q_Hp → Prop} {x0 : Nat} {x1 : Int32} {x2 : Int32} {x3 : Int32} {x4 : Int32} {m : Nat} {P : q_Hp → Prop} (hc : q_mV m 251 [.ref x0, .int 4, .int x3] h P) (hm : m ≤ n) (w : ∀ h1 : q_Hp, P h1 → q_wp (n + 1) 274 40 [some (.ref x0), some (.int x1), some (.int x2), some (.int x3), some (.int x4), none, none] [] h1 Q) : q_wp (n + 1) 274 34 [some (.ref x0), some (.int x1), some (.int x2), some (.int x3), some (.int x4), none, none] [] h Q := by
  refine wp_loc rfl rfl ?_
  refine wp_iconst (v := 4) rfl (by decide) ?_
  refine wp_loc rfl rfl ?_
  exact wp_callV (av := [.ref x0, .int 4, .int x3]) rfl rfl rfl (by decide) rfl rfl rfl hm hc w
set_option maxRecDepth 20000 in
theorem b274_40 {n : Nat} {h : q_Hp} {Q : Option Value → q_Hp → Prop} {x0 : Nat} {x1 : Int32} {x2 : Int32} {x3 : Int32} {x4 : Int32} {v0 : Nat} (k0 : q_ok h x0 12) (e0 : qR h x0 50 = v0) (k1 : q_ok h v0 20) (i0 : q_in x2 (qK h v0).2) (q : Q none (q_sA h v0 x2.toNatClampNeg 0)) : q_wp n 274 40 [some (.ref x0), some (.int x1), some (.int x2), some (.int x3), some (.int x4), none, none] [] h Q := by
  refine wp_loc rfl rfl ?_
  refine wp_getR rfl rfl rfl rfl k0 e0 ?_
  refine wp_loc rfl rfl ?_
  refine wp_iconst (v := 0) rfl (by decide) ?_
  refine wp_iast rfl k1 i0 ?_
  exact wp_ret rfl rfl q
set_option maxRecDepth 20000 in
theorem b274_48 {n : Nat} {h : q_Hp} {Q : Option Value → q_Hp → Prop} {x0 : Nat} {x1 : Int32} {x2 : Int32} {x3 : Int32} {x4 : Int32} {v0 : Nat} {v1 : Nat} {v2 : Nat} {v3 : Nat} {v4 : Nat} (k0 : q_ok h x0 12) (e0 : qR h x0 73 = v0) (k1 : q_ok h v0 23) (i0 : q_in x4 (qK h v0).2) (e1 : qR h x0 51 = v1) (e2 : qR h x0 71 = v2) (k2 : q_ok h v2 20) (i1 : q_in x4 (qK h v2).2) (k3 : q_ok h v1 20) (i2 : q_in x2 (qK h v1).2) (e3 : qR h x0 50 = v3) (e4 : qR h x0 70 = v4) (k4 : q_ok h v4 20) (i3 : q_in x4 (qK h v4).2) (k5 : q_ok h v3 20) (i4 : q_in x2 (qK h v3).2) (wt : ¬ (qA (q_sA (q_sA (q_sA h v0 x4.toNatClampNeg (vp_nar .boolean 1)) v1 x2.toNatClampNeg (qA (q_sA h v0 x4.toNatClampNeg (vp_nar .boolean 1)) v2 x4.toNatClampNeg)) v3 x2.toNatClampNeg (qA (q_sA (q_sA h v0 x4.toNatClampNeg (vp_nar .boolean 1)) v1 x2.toNatClampNeg (qA (q_sA h v0 x4.toNatClampNeg (vp_nar .boolean 1)) v2 x4.toNatClampNeg)) v4 x4.toNatClampNeg)) v4 x4.toNatClampNeg) = 1 → q_wp n 274 107 [some (.ref x0), some (.int x1), some (.int x2), some (.int x3), some (.int x4), none, none] [] (q_sA (q_sA (q_sA h v0 x4.toNatClampNeg (vp_nar .boolean 1)) v1 x2.toNatClampNeg (qA (q_sA h v0 x4.toNatClampNeg (vp_nar .boolean 1)) v2 x4.toNatClampNeg)) v3 x2.toNatClampNeg (qA (q_sA (q_sA h v0 x4.toNatClampNeg (vp_nar .boolean 1)) v1 x2.toNatClampNeg (qA (q_sA h v0 x4.toNatClampNeg (vp_nar .boolean 1)) v2 x4.toNatClampNeg)) v4 x4.toNatClampNeg)) Q) (wf : (qA (q_sA (q_sA (q_sA h v0 x4.toNatClampNeg (vp_nar .boolean 1)) v1 x2.toNatClampNeg (qA (q_sA h v0 x4.toNatClampNeg (vp_nar .boolean 1)) v2 x4.toNatClampNeg)) v3 x2.toNatClampNeg (qA (q_sA (q_sA h v0 x4.toNatClampNeg (vp_nar .boolean 1)) v1 x2.toNatClampNeg (qA (q_sA h v0 x4.toNatClampNeg (vp_nar .boolean 1)) v2 x4.toNatClampNeg)) v4 x4.toNatClampNeg)) v4 x4.toNatClampNeg) = 1 → q_wp n 274 93 [some (.ref x0), some (.int x1), some (.int x2), some (.int x3), some (.int x4), none, none] [] (q_sA (q_sA (q_sA h v0 x4.toNatClampNeg (vp_nar .boolean 1)) v1 x2.toNatClampNeg (qA (q_sA h v0 x4.toNatClampNeg (vp_nar .boolean 1)) v2 x4.toNatClampNeg)) v3 x2.toNatClampNeg (qA (q_sA (q_sA h v0 x4.toNatClampNeg (vp_nar .boolean 1)) v1 x2.toNatClampNeg (qA (q_sA h v0 x4.toNatClampNeg (vp_nar .boolean 1)) v2 x4.toNatClampNeg)) v4 x4.toNatClampNeg)) Q) : q_wp n 274 48 [some (.ref x0), some (.int x1), some (.int x2), some (.int x3), some (.int x4), none, none] [] h Q := by
  refine wp_loc rfl rfl ?_
  refine wp_getR rfl rfl rfl rfl k0 e0 ?_
  refine wp_loc rfl rfl ?_
  refine wp_iconst (v := 1) rfl (by decide) ?_
  refine wp_zast rfl k1 i0 ?_
  refine wp_loc rfl rfl ?_
  refine wp_getR rfl rfl rfl rfl k0 e1 ?_
  refine wp_loc rfl rfl ?_
  refine wp_loc rfl rfl ?_
  refine wp_getR rfl rfl rfl rfl k0 e2 ?_
  refine wp_loc rfl rfl ?_
  refine wp_iald rfl k2 i1 ?_
  refine wp_iast rfl k3 i2 ?_
  refine wp_loc rfl rfl ?_
  refine wp_getR rfl rfl rfl rfl k0 e3 ?_
  refine wp_loc rfl rfl ?_
  refine wp_loc rfl rfl ?_
  refine wp_getR rfl rfl rfl rfl k0 e4 ?_
  refine wp_loc rfl rfl ?_
  refine wp_iald rfl k4 i3 ?_
  refine wp_iast rfl k5 i4 ?_
  refine wp_loc rfl rfl ?_
  refine wp_getR rfl rfl rfl rfl k0 e4 ?_
  refine wp_loc rfl rfl ?_
  refine wp_iald rfl k4 i3 ?_
  refine wp_iconst (v := 1) rfl (by decide) ?_
  exact wp_icne (tgt := 107) rfl (by decide) wt wf
set_option maxRecDepth 20000 in
theorem b274_93 {n : Nat} {h : q_Hp} {Q : Option Value → q_Hp → Prop} {x0 : Nat} {x1 : Int32} {x2 : Int32} {x3 : Int32} {x4 : Int32} {v0 : Nat} {v1 : Nat} (k0 : q_ok h x0 12) (e0 : qR h x0 74 = v0) (e1 : qR h x0 71 = v1) (k1 : q_ok h v1 20) (i0 : q_in x4 (qK h v1).2) (k2 : q_ok h v0 23) (i1 : q_in (qA h v1 x4.toNatClampNeg) (qK h v0).2) (q : Q none (q_sA h v0 ((qA h v1 x4.toNatClampNeg : Int32).toNatClampNeg) (vp_nar .boolean 1))) : q_wp n 274 93 [some (.ref x0), some (.int x1), some (.int x2), some (.int x3), some (.int x4), none, none] [] h Q := by
  refine wp_loc rfl rfl ?_
  refine wp_getR rfl rfl rfl rfl k0 e0 ?_
  refine wp_loc rfl rfl ?_
  refine wp_getR rfl rfl rfl rfl k0 e1 ?_
  refine wp_loc rfl rfl ?_
  refine wp_iald rfl k1 i0 ?_
  refine wp_iconst (v := 1) rfl (by decide) ?_
  refine wp_zast rfl k2 i1 ?_
  exact wp_ret rfl rfl q
set_option maxRecDepth 20000 in
theorem b274_107 {n : Nat} {h : q_Hp} {Q : Option Value → q_Hp → Prop} {x0 : Nat} {x1 : Int32} {x2 : Int32} {x3 : Int32} {x4 : Int32} (w : q_wp n 274 113 [some (.ref x0), some (.int x1), some (.int x2), some (.int x3), some (.int x4), some (.int 0), some (.int 0)] [] h Q) : q_wp n 274 107 [some (.ref x0), some (.int x1), some (.int x2), some (.int x3), some (.int x4), none, none] [] h Q := by
  refine wp_iconst (v := 0) rfl (by decide) ?_
  refine wp_loc rfl rfl ?_
  refine wp_iconst (v := 0) rfl (by decide) ?_
  refine wp_loc rfl rfl ?_
  exact w
set_option maxRecDepth 20000 in
theorem b274_113 {n : Nat} {h : q_Hp} {Q : Option Value → q_Hp → Prop} {x0 : Nat} {x1 : Int32} {x2 : Int32} {x3 : Int32} {x4 : Int32} {x5 : Int32} {x6 : Int32} {v0 : Nat} (k0 : q_ok h x0 12) (e0 : qR h x0 32 = v0) (k1 : q_ok h v0 20) (i0 : q_in x1 (qK h v0).2) (wt : (qA h v0 x1.toNatClampNeg) ≤ x6 → q_wp n 274 196 [some (.ref x0), some (.int x1), some (.int x2), some (.int x3), some (.int x4), some (.int x5), some (.int x6)] [] h Q) (wf : ¬ (qA h v0 x1.toNatClampNeg) ≤ x6 → q_wp n 274 124 [some (.ref x0), some (.int x1), some (.int x2), some (.int x3), some (.int x4), some (.int x5), some (.int x6)] [] h Q) : q_wp n 274 113 [some (.ref x0), some (.int x1), some (.int x2), some (.int x3), some (.int x4), some (.int x5), some (.int x6)] [] h Q := by
  refine wp_loc rfl rfl ?_
  refine wp_loc rfl rfl ?_
  refine wp_getR rfl rfl rfl rfl k0 e0 ?_
  refine wp_loc rfl rfl ?_
  refine wp_iald rfl k1 i0 ?_
  exact wp_icge (tgt := 196) rfl (by decide) wt wf
set_option maxRecDepth 20000 in
theorem b274_124 {n : Nat} {h : q_Hp} {Q : Option Value → q_Hp → Prop} {x0 : Nat} {x1 : Int32} {x2 : Int32} {x3 : Int32} {x4 : Int32} {x5 : Int32} {x6 : Int32} (wt : ¬ x5 = 0 → q_wp n 274 183 [some (.ref x0), some (.int x1), some (.int x2), some (.int x3), some (.int x4), some (.int x5), some (.int x6)] [] h Q) (wf : x5 = 0 → q_wp n 274 129 [some (.ref x0), some (.int x1), some (.int x2), some (.int x3), some (.int x4), some (.int x5), some (.int x6)] [] h Q) : q_wp n 274 124 [some (.ref x0), some (.int x1), some (.int x2), some (.int x3), some (.int x4), some (.int x5), some (.int x6)] [] h Q := by
  refine wp_loc rfl rfl ?_
  exact wp_ifne (tgt := 183) rfl (by decide) wt wf
set_option maxRecDepth 20000 in
theorem b274_129 {n : Nat} {h : q_Hp} {Q : Option Value → q_Hp → Prop} {x0 : Nat} {x1 : Int32} {x2 : Int32} {x3 : Int32} {x4 : Int32} {x5 : Int32} {x6 : Int32} {v0 : Nat} (k0 : q_ok h x0 12) (e0 : qR h x0 74 = v0) (b2 : q_ok h v0 22 ∨ q_ok h v0 23) (i0 : q_in x6 (qK h v0).2) (wt : ¬ (qA h v0 x6.toNatClampNeg) = 0 → q_wp n 274 187 [some (.ref x0), some (.int x1), some (.int x2), some (.int x3), some (.int x4), some (.int x5), some (.int x6)] [] h Q) (wf : (qA h v0 x6.toNatClampNeg) = 0 → q_wp n 274 139 [some (.ref x0), some (.int x1), some (.int x2), some (.int x3), some (.int x4), some (.int x5), some (.int x6)] [] h Q) : q_wp n 274 129 [some (.ref x0), some (.int x1), some (.int x2), some (.int x3), some (.int x4), some (.int x5), some (.int x6)] [] h Q := by
  refine wp_loc rfl rfl ?_
  refine wp_getR rfl rfl rfl rfl k0 e0 ?_
  refine wp_loc rfl rfl ?_
  refine wp_bald rfl b2 i0 ?_
  exact wp_ifne (tgt := 187) rfl (by decide) wt wf
set_option maxRecDepth 20000 in
theorem b274_139 {n : Nat} {h : q_Hp} {Q : Option Value → q_Hp → Prop} {x0 : Nat} {x1 : Int32} {x2 : Int32} {x3 : Int32} {x4 : Int32} {x5 : Int32} {x6 : Int32} {v0 : Nat} {v1 : Nat} (k0 : q_ok h x0 12) (e0 : qR h x0 36 = v0) (k1 : q_ok h v0 20) (i0 : q_in ((6 * x1) + x6) (qK h v0).2) (e1 : qR h x0 71 = v1) (k2 : q_ok h v1 20) (i1 : q_in x4 (qK h v1).2) (wt : (qA h v0 (((6 * x1) + x6 : Int32).toNatClampNeg)) = (qA h v1 x4.toNatClampNeg) → q_wp n 274 183 [some (.ref x0), some (.int x1), some (.int x2), some (.int x3), some (.int x4), some (.int x5), some (.int x6)] [] h Q) (wf : ¬ (qA h v0 (((6 * x1) + x6 : Int32).toNatClampNeg)) = (qA h v1 x4.toNatClampNeg) → q_wp n 274 161 [some (.ref x0), some (.int x1), some (.int x2), some (.int x3), some (.int x4), some (.int x5), some (.int x6)] [] h Q) : q_wp n 274 139 [some (.ref x0), some (.int x1), some (.int x2), some (.int x3), some (.int x4), some (.int x5), some (.int x6)] [] h Q := by
  refine wp_loc rfl rfl ?_
  refine wp_getR rfl rfl rfl rfl k0 e0 ?_
  refine wp_bipush (v := 6) rfl (by decide) ?_
  refine wp_loc rfl rfl ?_
  refine wp_stk rfl rfl rfl ?_
  refine wp_loc rfl rfl ?_
  refine wp_stk rfl rfl rfl ?_
  refine wp_iald rfl k1 i0 ?_
  refine wp_loc rfl rfl ?_
  refine wp_getR rfl rfl rfl rfl k0 e1 ?_
  refine wp_loc rfl rfl ?_
  refine wp_iald rfl k2 i1 ?_
  exact wp_iceq (tgt := 183) rfl (by decide) wt wf
set_option maxRecDepth 20000 in
theorem b274_161 {n : Nat} {h : q_Hp} {Q : Option Value → q_Hp → Prop} {x0 : Nat} {x1 : Int32} {x2 : Int32} {x3 : Int32} {x4 : Int32} {x5 : Int32} {x6 : Int32} {v0 : Nat} {v1 : Nat} (k0 : q_ok h x0 12) (e0 : qR h x0 37 = v0) (k1 : q_ok h v0 20) (i0 : q_in ((6 * x1) + x6) (qK h v0).2) (e1 : qR h x0 71 = v1) (k2 : q_ok h v1 20) (i1 : q_in x4 (qK h v1).2) (wt : ¬ (qA h v0 (((6 * x1) + x6 : Int32).toNatClampNeg)) = (qA h v1 x4.toNatClampNeg) → q_wp n 274 187 [some (.ref x0), some (.int x1), some (.int x2), some (.int x3), some (.int x4), some (.int x5), some (.int x6)] [] h Q) (wf : (qA h v0 (((6 * x1) + x6 : Int32).toNatClampNeg)) = (qA h v1 x4.toNatClampNeg) → q_wp n 274 183 [some (.ref x0), some (.int x1), some (.int x2), some (.int x3), some (.int x4), some (.int x5), some (.int x6)] [] h Q) : q_wp n 274 161 [some (.ref x0), some (.int x1), some (.int x2), some (.int x3), some (.int x4), some (.int x5), some (.int x6)] [] h Q := by
  refine wp_loc rfl rfl ?_
  refine wp_getR rfl rfl rfl rfl k0 e0 ?_
  refine wp_bipush (v := 6) rfl (by decide) ?_
  refine wp_loc rfl rfl ?_
  refine wp_stk rfl rfl rfl ?_
  refine wp_loc rfl rfl ?_
  refine wp_stk rfl rfl rfl ?_
  refine wp_iald rfl k1 i0 ?_
  refine wp_loc rfl rfl ?_
  refine wp_getR rfl rfl rfl rfl k0 e1 ?_
  refine wp_loc rfl rfl ?_
  refine wp_iald rfl k2 i1 ?_
  exact wp_icne (tgt := 187) rfl (by decide) wt wf
set_option maxRecDepth 20000 in
theorem b274_183 {n : Nat} {h : q_Hp} {Q : Option Value → q_Hp → Prop} {x0 : Nat} {x1 : Int32} {x2 : Int32} {x3 : Int32} {x4 : Int32} {x5 : Int32} {x6 : Int32} (w : q_wp n 274 188 [some (.ref x0), some (.int x1), some (.int x2), some (.int x3), some (.int x4), some (.int x5), some (.int x6)] [.int 1] h Q) : q_wp n 274 183 [some (.ref x0), some (.int x1), some (.int x2), some (.int x3), some (.int x4), some (.int x5), some (.int x6)] [] h Q := by
  refine wp_iconst (v := 1) rfl (by decide) ?_
  refine wp_goto (tgt := 188) rfl (by decide) ?_
  exact w
set_option maxRecDepth 20000 in
theorem b274_187 {n : Nat} {h : q_Hp} {Q : Option Value → q_Hp → Prop} {x0 : Nat} {x1 : Int32} {x2 : Int32} {x3 : Int32} {x4 : Int32} {x5 : Int32} {x6 : Int32} (w : q_wp n 274 188 [some (.ref x0), some (.int x1), some (.int x2), some (.int x3), some (.int x4), some (.int x5), some (.int x6)] [.int 0] h Q) : q_wp n 274 187 [some (.ref x0), some (.int x1), some (.int x2), some (.int x3), some (.int x4), some (.int x5), some (.int x6)] [] h Q := by
  refine wp_iconst (v := 0) rfl (by decide) ?_
  exact w
set_option maxRecDepth 20000 in
theorem b274_188 {n : Nat} {h : q_Hp} {Q : Option Value → q_Hp → Prop} {x0 : Nat} {x1 : Int32} {x2 : Int32} {x3 : Int32} {x4 : Int32} {x5 : Int32} {x6 : Int32} {s0 : Int32} (w : q_wp n 274 113 [some (.ref x0), some (.int x1), some (.int x2), some (.int x3), some (.int x4), some (.int s0), some (.int (x6 + 1))] [] h Q) : q_wp n 274 188 [some (.ref x0), some (.int x1), some (.int x2), some (.int x3), some (.int x4), some (.int x5), some (.int x6)] [.int s0] h Q := by
  refine wp_loc rfl rfl ?_
  refine wp_iinc (v := 1) rfl rfl (by decide) rfl ?_
  refine wp_goto (tgt := 113) rfl (by decide) ?_
  exact w
set_option maxRecDepth 20000 in
theorem b274_196 {n : Nat} {h : q_Hp} {Q : Option Value → q_Hp → Prop} {x0 : Nat} {x1 : Int32} {x2 : Int32} {x3 : Int32} {x4 : Int32} {x5 : Int32} {x6 : Int32} (w : q_wp n 274 199 [some (.ref x0), some (.int x1), some (.int x2), some (.int x3), some (.int x4), some (.int x5), some (.int 0)] [] h Q) : q_wp n 274 196 [some (.ref x0), some (.int x1), some (.int x2), some (.int x3), some (.int x4), some (.int x5), some (.int x6)] [] h Q := by
  refine wp_iconst (v := 0) rfl (by decide) ?_
  refine wp_loc rfl rfl ?_
  exact w
set_option maxRecDepth 20000 in
theorem b274_199 {n : Nat} {h : q_Hp} {Q : Option Value → q_Hp → Prop} {x0 : Nat} {x1 : Int32} {x2 : Int32} {x3 : Int32} {x4 : Int32} {x5 : Int32} {x6 : Int32} (k0 : q_ok h x0 12) (wt : (qI h x0 75) ≤ x6 → q_wp n 274 243 [some (.ref x0), some (.int x1), some (.int x2), some (.int x3), some (.int x4), some (.int x5), some (.int x6)] [] h Q) (wf : ¬ (qI h x0 75) ≤ x6 → q_wp n 274 208 [some (.ref x0), some (.int x1), some (.int x2), some (.int x3), some (.int x4), some (.int x5), some (.int x6)] [] h Q) : q_wp n 274 199 [some (.ref x0), some (.int x1), some (.int x2), some (.int x3), some (.int x4), some (.int x5), some (.int x6)] [] h Q := by
  refine wp_loc rfl rfl ?_
  refine wp_loc rfl rfl ?_
  refine wp_getI rfl rfl rfl k0 ?_
  exact wp_icge (tgt := 243) rfl (by decide) wt wf
set_option maxRecDepth 20000 in
theorem b274_208 {n : Nat} {h : q_Hp} {Q : Option Value → q_Hp → Prop} {x0 : Nat} {x1 : Int32} {x2 : Int32} {x3 : Int32} {x4 : Int32} {x5 : Int32} {x6 : Int32} (wt : ¬ x5 = 0 → q_wp n 274 230 [some (.ref x0), some (.int x1), some (.int x2), some (.int x3), some (.int x4), some (.int x5), some (.int x6)] [] h Q) (wf : x5 = 0 → q_wp n 274 213 [some (.ref x0), some (.int x1), some (.int x2), some (.int x3), some (.int x4), some (.int x5), some (.int x6)] [] h Q) : q_wp n 274 208 [some (.ref x0), some (.int x1), some (.int x2), some (.int x3), some (.int x4), some (.int x5), some (.int x6)] [] h Q := by
  refine wp_loc rfl rfl ?_
  exact wp_ifne (tgt := 230) rfl (by decide) wt wf
set_option maxRecDepth 20000 in
theorem b274_213 {n : Nat} {h : q_Hp} {Q : Option Value → q_Hp → Prop} {x0 : Nat} {x1 : Int32} {x2 : Int32} {x3 : Int32} {x4 : Int32} {x5 : Int32} {x6 : Int32} {v0 : Nat} {v1 : Nat} (k0 : q_ok h x0 12) (e0 : qR h x0 76 = v0) (k1 : q_ok h v0 20) (i0 : q_in x6 (qK h v0).2) (e1 : qR h x0 71 = v1) (k2 : q_ok h v1 20) (i1 : q_in x4 (qK h v1).2) (wt : ¬ (qA h v0 x6.toNatClampNeg) = (qA h v1 x4.toNatClampNeg) → q_wp n 274 234 [some (.ref x0), some (.int x1), some (.int x2), some (.int x3), some (.int x4), some (.int x5), some (.int x6)] [] h Q) (wf : (qA h v0 x6.toNatClampNeg) = (qA h v1 x4.toNatClampNeg) → q_wp n 274 230 [some (.ref x0), some (.int x1), some (.int x2), some (.int x3), some (.int x4), some (.int x5), some (.int x6)] [] h Q) : q_wp n 274 213 [some (.ref x0), some (.int x1), some (.int x2), some (.int x3), some (.int x4), some (.int x5), some (.int x6)] [] h Q := by
  refine wp_loc rfl rfl ?_
  refine wp_getR rfl rfl rfl rfl k0 e0 ?_
  refine wp_loc rfl rfl ?_
  refine wp_iald rfl k1 i0 ?_
  refine wp_loc rfl rfl ?_
  refine wp_getR rfl rfl rfl rfl k0 e1 ?_
  refine wp_loc rfl rfl ?_
  refine wp_iald rfl k2 i1 ?_
  exact wp_icne (tgt := 234) rfl (by decide) wt wf
set_option maxRecDepth 20000 in
theorem b274_230 {n : Nat} {h : q_Hp} {Q : Option Value → q_Hp → Prop} {x0 : Nat} {x1 : Int32} {x2 : Int32} {x3 : Int32} {x4 : Int32} {x5 : Int32} {x6 : Int32} (w : q_wp n 274 235 [some (.ref x0), some (.int x1), some (.int x2), some (.int x3), some (.int x4), some (.int x5), some (.int x6)] [.int 1] h Q) : q_wp n 274 230 [some (.ref x0), some (.int x1), some (.int x2), some (.int x3), some (.int x4), some (.int x5), some (.int x6)] [] h Q := by
  refine wp_iconst (v := 1) rfl (by decide) ?_
  refine wp_goto (tgt := 235) rfl (by decide) ?_
  exact w
set_option maxRecDepth 20000 in
theorem b274_234 {n : Nat} {h : q_Hp} {Q : Option Value → q_Hp → Prop} {x0 : Nat} {x1 : Int32} {x2 : Int32} {x3 : Int32} {x4 : Int32} {x5 : Int32} {x6 : Int32} (w : q_wp n 274 235 [some (.ref x0), some (.int x1), some (.int x2), some (.int x3), some (.int x4), some (.int x5), some (.int x6)] [.int 0] h Q) : q_wp n 274 234 [some (.ref x0), some (.int x1), some (.int x2), some (.int x3), some (.int x4), some (.int x5), some (.int x6)] [] h Q := by
  refine wp_iconst (v := 0) rfl (by decide) ?_
  exact w
set_option maxRecDepth 20000 in
theorem b274_235 {n : Nat} {h : q_Hp} {Q : Option Value → q_Hp → Prop} {x0 : Nat} {x1 : Int32} {x2 : Int32} {x3 : Int32} {x4 : Int32} {x5 : Int32} {x6 : Int32} {s0 : Int32} (w : q_wp n 274 199 [some (.ref x0), some (.int x1), some (.int x2), some (.int x3), some (.int x4), some (.int s0), some (.int (x6 + 1))] [] h Q) : q_wp n 274 235 [some (.ref x0), some (.int x1), some (.int x2), some (.int x3), some (.int x4), some (.int x5), some (.int x6)] [.int s0] h Q := by
  refine wp_loc rfl rfl ?_
  refine wp_iinc (v := 1) rfl rfl (by decide) rfl ?_
  refine wp_goto (tgt := 199) rfl (by decide) ?_
  exact w
set_option maxRecDepth 20000 in
theorem b274_243 {n : Nat} {h : q_Hp} {Q : Option Value → q_Hp → Prop} {x0 : Nat} {x1 : Int32} {x2 : Int32} {x3 : Int32} {x4 : Int32} {x5 : Int32} {x6 : Int32} (wt : x5 = 0 → q_wp n 274 254 [some (.ref x0), some (.int x1), some (.int x2), some (.int x3), some (.int x4), some (.int x5), some (.int x6)] [] h Q) (wf : ¬ x5 = 0 → q_wp n 274 248 [some (.ref x0), some (.int x1), some (.int x2), some (.int x3), some (.int x4), some (.int x5), some (.int x6)] [] h Q) : q_wp n 274 243 [some (.ref x0), some (.int x1), some (.int x2), some (.int x3), some (.int x4), some (.int x5), some (.int x6)] [] h Q := by
  refine wp_loc rfl rfl ?_
  exact wp_ifeq (tgt := 254) rfl (by decide) wt wf
set_option maxRecDepth 20000 in
theorem b274_248 {n : Nat} {h : q_Hp} {Q : Option Value → q_Hp → Prop} {x0 : Nat} {x1 : Int32} {x2 : Int32} {x3 : Int32} {x4 : Int32} {x5 : Int32} {x6 : Int32} {m : Nat} {P : q_Hp → Prop} (hc : q_mV m 251 [.ref x0, .int 5, .int x3] h P) (hm : m ≤ n) (w : ∀ h1 : q_Hp, P h1 → q_wp (n + 1) 274 254 [some (.ref x0), some (.int x1), some (.int x2), some (.int x3), some (.int x4), some (.int x5), some (.int x6)] [] h1 Q) : q_wp (n + 1) 274 248 [some (.ref x0), some (.int x1), some (.int x2), some (.int x3), some (.int x4), some (.int x5), some (.int x6)] [] h Q := by
  refine wp_loc rfl rfl ?_
  refine wp_iconst (v := 5) rfl (by decide) ?_
  refine wp_loc rfl rfl ?_
  exact wp_callV (av := [.ref x0, .int 5, .int x3]) rfl rfl rfl (by decide) rfl rfl rfl hm hc w
set_option maxRecDepth 20000 in
theorem b274_254 {n : Nat} {h : q_Hp} {Q : Option Value → q_Hp → Prop} {x0 : Nat} {x1 : Int32} {x2 : Int32} {x3 : Int32} {x4 : Int32} {x5 : Int32} {x6 : Int32} (q : Q none h) : q_wp n 274 254 [some (.ref x0), some (.int x1), some (.int x2), some (.int x3), some (.int x4), some (.int x5), some (.int x6)] [] h Q := by
  exact wp_ret rfl rfl q
set_option maxRecDepth 20000 in
theorem b275_0 {n : Nat} {h : q_Hp} {Q : Option Value → q_Hp → Prop} {x0 : Nat} {x1 : Int32} {x2 : Int32} {x3 : Int32} {x4 : Int32} {m : Nat} {P : Int32 → q_Hp → Prop} (hc : q_mI m 271 [.ref x0, .int x2] h P) (hm : m ≤ n) (w : ∀ (z : Int32) (h1 : q_Hp), P z h1 → q_wp (n + 1) 275 5 [some (.ref x0), some (.int x1), some (.int x2), some (.int x3), some (.int x4), none, none, none, none, none] [.int z] h1 Q) : q_wp (n + 1) 275 0 [some (.ref x0), some (.int x1), some (.int x2), some (.int x3), some (.int x4), none, none, none, none, none] [] h Q := by
  refine wp_loc rfl rfl ?_
  refine wp_loc rfl rfl ?_
  exact wp_callI (av := [.ref x0, .int x2]) rfl rfl rfl (by decide) rfl rfl rfl hm hc w
set_option maxRecDepth 20000 in
theorem b275_5 {n : Nat} {h : q_Hp} {Q : Option Value → q_Hp → Prop} {x0 : Nat} {x1 : Int32} {x2 : Int32} {x3 : Int32} {x4 : Int32} {s0 : Int32} {m : Nat} {P : Int32 → q_Hp → Prop} (hc : q_mI m 256 [.ref x0, .int x3] h P) (hm : m ≤ n) (w : ∀ (z : Int32) (h1 : q_Hp), P z h1 → q_wp (n + 1) 275 12 [some (.ref x0), some (.int x1), some (.int x2), some (.int x3), some (.int x4), some (.int s0), none, none, none, none] [.int z] h1 Q) : q_wp (n + 1) 275 5 [some (.ref x0), some (.int x1), some (.int x2), some (.int x3), some (.int x4), none, none, none, none, none] [.int s0] h Q := by
  refine wp_loc rfl rfl ?_
  refine wp_loc rfl rfl ?_
  refine wp_loc rfl rfl ?_
  exact wp_callI (av := [.ref x0, .int x3]) rfl rfl rfl (by decide) rfl rfl rfl hm hc w
set_option maxRecDepth 20000 in
theorem b275_12 {n : Nat} {h : q_Hp} {Q : Option Value → q_Hp → Prop} {x0 : Nat} {x1 : Int32} {x2 : Int32} {x3 : Int32} {x4 : Int32} {x5 : Int32} {s0 : Int32} {m : Nat} {P : Int32 → q_Hp → Prop} (hc : q_mI m 271 [.ref x0, .int x4] h P) (hm : m ≤ n) (w : ∀ (z : Int32) (h1 : q_Hp), P z h1 → q_wp (n + 1) 275 20 [some (.ref x0), some (.int x1), some (.int x2), some (.int x3), some (.int x4), some (.int x5), some (.int s0), none, none, none] [.int z] h1 Q) : q_wp (n + 1) 275 12 [some (.ref x0), some (.int x1), some (.int x2), some (.int x3), some (.int x4), some (.int x5), none, none, none, none] [.int s0] h Q := by
  refine wp_loc rfl rfl ?_
  refine wp_loc rfl rfl ?_
  refine wp_loc rfl rfl ?_
  exact wp_callI (av := [.ref x0, .int x4]) rfl rfl rfl (by decide) rfl rfl rfl hm hc w
set_option maxRecDepth 20000 in
theorem b275_20 {n : Nat} {h : q_Hp} {Q : Option Value → q_Hp → Prop} {x0 : Nat} {x1 : Int32} {x2 : Int32} {x3 : Int32} {x4 : Int32} {x5 : Int32} {x6 : Int32} {s0 : Int32} {v0 : Nat} (k0 : q_ok h x0 12) (e0 : qR h x0 50 = v0) (k1 : q_ok h v0 20) (i0 : q_in x1 (qK h v0).2) (wt : x6 = (-1) → q_wp n 275 69 [some (.ref x0), some (.int x1), some (.int x2), some (.int x3), some (.int x4), some (.int x5), some (.int x6), some (.int s0), none, none] [] (q_sA h v0 x1.toNatClampNeg 3) Q) (wf : ¬ x6 = (-1) → q_wp n 275 35 [some (.ref x0), some (.int x1), some (.int x2), some (.int x3), some (.int x4), some (.int x5), some (.int x6), some (.int s0), none, none] [] (q_sA h v0 x1.toNatClampNeg 3) Q) : q_wp n 275 20 [some (.ref x0), some (.int x1), some (.int x2), some (.int x3), some (.int x4), some (.int x5), some (.int x6), none, none, none] [.int s0] h Q := by
  refine wp_loc rfl rfl ?_
  refine wp_loc rfl rfl ?_
  refine wp_getR rfl rfl rfl rfl k0 e0 ?_
  refine wp_loc rfl rfl ?_
  refine wp_iconst (v := 3) rfl (by decide) ?_
  refine wp_iast rfl k1 i0 ?_
  refine wp_loc rfl rfl ?_
  refine wp_iconst (v := (-1)) rfl (by decide) ?_
  exact wp_iceq (tgt := 69) rfl (by decide) wt wf
set_option maxRecDepth 20000 in
theorem b275_35 {n : Nat} {h : q_Hp} {Q : Option Value → q_Hp → Prop} {x0 : Nat} {x1 : Int32} {x2 : Int32} {x3 : Int32} {x4 : Int32} {x5 : Int32} {x6 : Int32} {x7 : Int32} (wt : x5 = (-1) → q_wp n 275 69 [some (.ref x0), some (.int x1), some (.int x2), some (.int x3), some (.int x4), some (.int x5), some (.int x6), some (.int x7), none, none] [] h Q) (wf : ¬ x5 = (-1) → q_wp n 275 41 [some (.ref x0), some (.int x1), some (.int x2), some (.int x3), some (.int x4), some (.int x5), some (.int x6), some (.int x7), none, none] [] h Q) : q_wp n 275 35 [some (.ref x0), some (.int x1), some (.int x2), some (.int x3), some (.int x4), some (.int x5), some (.int x6), some (.int x7), none, none] [] h Q := by
  refine wp_loc rfl rfl ?_
  refine wp_iconst (v := (-1)) rfl (by decide) ?_
  exact wp_iceq (tgt := 69) rfl (by decide) wt wf
set_option maxRecDepth 20000 in
theorem b275_41 {n : Nat} {h : q_Hp} {Q : Option Value → q_Hp → Prop} {x0 : Nat} {x1 : Int32} {x2 : Int32} {x3 : Int32} {x4 : Int32} {x5 : Int32} {x6 : Int32} {x7 : Int32} {v0 : Nat} {v1 : Nat} (k0 : q_ok h x0 12) (e0 : qR h x0 72 = v0) (k1 : q_ok h v0 20) (i0 : q_in x5 (qK h v0).2) (e1 : qR h x0 29 = v1) (k2 : q_ok h v1 20) (i1 : q_in (12 + x6) (qK h v1).2) {m : Nat} {P : Int32 → q_Hp → Prop} (hc : q_mI m 276 [.ref x0, .int (qA h v0 x5.toNatClampNeg), .int (qA h v1 ((12 + x6 : Int32).toNatClampNeg))] h P) (hm : m ≤ n) (w : ∀ (z : Int32) (h1 : q_Hp), P z h1 → q_wp (n + 1) 275 62 [some (.ref x0), some (.int x1), some (.int x2), some (.int x3), some (.int x4), some (.int x5), some (.int x6), some (.int x7), none, none] [.int z] h1 Q) : q_wp (n + 1) 275 41 [some (.ref x0), some (.int x1), some (.int x2), some (.int x3), some (.int x4), some (.int x5), some (.int x6), some (.int x7), none, none] [] h Q := by
  refine wp_loc rfl rfl ?_
  refine wp_loc rfl rfl ?_
  refine wp_getR rfl rfl rfl rfl k0 e0 ?_
  refine wp_loc rfl rfl ?_
  refine wp_iald rfl k1 i0 ?_
  refine wp_loc rfl rfl ?_
  refine wp_getR rfl rfl rfl rfl k0 e1 ?_
  refine wp_bipush (v := 12) rfl (by decide) ?_
  refine wp_loc rfl rfl ?_
  refine wp_stk rfl rfl rfl ?_
  refine wp_iald rfl k2 i1 ?_
  exact wp_callI (av := [.ref x0, .int (qA h v0 x5.toNatClampNeg), .int (qA h v1 ((12 + x6 : Int32).toNatClampNeg))]) rfl rfl rfl (by decide) rfl rfl rfl hm hc w
set_option maxRecDepth 20000 in
theorem b275_62 {n : Nat} {h : q_Hp} {Q : Option Value → q_Hp → Prop} {x0 : Nat} {x1 : Int32} {x2 : Int32} {x3 : Int32} {x4 : Int32} {x5 : Int32} {x6 : Int32} {x7 : Int32} {s0 : Int32} (wt : s0 = 0 → q_wp n 275 69 [some (.ref x0), some (.int x1), some (.int x2), some (.int x3), some (.int x4), some (.int x5), some (.int x6), some (.int x7), none, none] [] h Q) (wf : ¬ s0 = 0 → q_wp n 275 65 [some (.ref x0), some (.int x1), some (.int x2), some (.int x3), some (.int x4), some (.int x5), some (.int x6), some (.int x7), none, none] [] h Q) : q_wp n 275 62 [some (.ref x0), some (.int x1), some (.int x2), some (.int x3), some (.int x4), some (.int x5), some (.int x6), some (.int x7), none, none] [.int s0] h Q := by
  exact wp_ifeq (tgt := 69) rfl (by decide) wt wf
set_option maxRecDepth 20000 in
theorem b275_65 {n : Nat} {h : q_Hp} {Q : Option Value → q_Hp → Prop} {x0 : Nat} {x1 : Int32} {x2 : Int32} {x3 : Int32} {x4 : Int32} {x5 : Int32} {x6 : Int32} {x7 : Int32} (w : q_wp n 275 70 [some (.ref x0), some (.int x1), some (.int x2), some (.int x3), some (.int x4), some (.int x5), some (.int x6), some (.int x7), none, none] [.int 1] h Q) : q_wp n 275 65 [some (.ref x0), some (.int x1), some (.int x2), some (.int x3), some (.int x4), some (.int x5), some (.int x6), some (.int x7), none, none] [] h Q := by
  refine wp_iconst (v := 1) rfl (by decide) ?_
  refine wp_goto (tgt := 70) rfl (by decide) ?_
  exact w
set_option maxRecDepth 20000 in
theorem b275_69 {n : Nat} {h : q_Hp} {Q : Option Value → q_Hp → Prop} {x0 : Nat} {x1 : Int32} {x2 : Int32} {x3 : Int32} {x4 : Int32} {x5 : Int32} {x6 : Int32} {x7 : Int32} (w : q_wp n 275 70 [some (.ref x0), some (.int x1), some (.int x2), some (.int x3), some (.int x4), some (.int x5), some (.int x6), some (.int x7), none, none] [.int 0] h Q) : q_wp n 275 69 [some (.ref x0), some (.int x1), some (.int x2), some (.int x3), some (.int x4), some (.int x5), some (.int x6), some (.int x7), none, none] [] h Q := by
  refine wp_iconst (v := 0) rfl (by decide) ?_
  exact w
set_option maxRecDepth 20000 in
theorem b275_70 {n : Nat} {h : q_Hp} {Q : Option Value → q_Hp → Prop} {x0 : Nat} {x1 : Int32} {x2 : Int32} {x3 : Int32} {x4 : Int32} {x5 : Int32} {x6 : Int32} {x7 : Int32} {s0 : Int32} (wt : x6 = (-1) → q_wp n 275 112 [some (.ref x0), some (.int x1), some (.int x2), some (.int x3), some (.int x4), some (.int x5), some (.int x6), some (.int x7), some (.int s0), none] [] h Q) (wf : ¬ x6 = (-1) → q_wp n 275 78 [some (.ref x0), some (.int x1), some (.int x2), some (.int x3), some (.int x4), some (.int x5), some (.int x6), some (.int x7), some (.int s0), none] [] h Q) : q_wp n 275 70 [some (.ref x0), some (.int x1), some (.int x2), some (.int x3), some (.int x4), some (.int x5), some (.int x6), some (.int x7), none, none] [.int s0] h Q := by
  refine wp_loc rfl rfl ?_
  refine wp_loc rfl rfl ?_
  refine wp_iconst (v := (-1)) rfl (by decide) ?_
  exact wp_iceq (tgt := 112) rfl (by decide) wt wf
set_option maxRecDepth 20000 in
theorem b275_78 {n : Nat} {h : q_Hp} {Q : Option Value → q_Hp → Prop} {x0 : Nat} {x1 : Int32} {x2 : Int32} {x3 : Int32} {x4 : Int32} {x5 : Int32} {x6 : Int32} {x7 : Int32} {x8 : Int32} (wt : x7 = (-1) → q_wp n 275 112 [some (.ref x0), some (.int x1), some (.int x2), some (.int x3), some (.int x4), some (.int x5), some (.int x6), some (.int x7), some (.int x8), none] [] h Q) (wf : ¬ x7 = (-1) → q_wp n 275 84 [some (.ref x0), some (.int x1), some (.int x2), some (.int x3), some (.int x4), some (.int x5), some (.int x6), some (.int x7), some (.int x8), none] [] h Q) : q_wp n 275 78 [some (.ref x0), some (.int x1), some (.int x2), some (.int x3), some (.int x4), some (.int x5), some (.int x6), some (.int x7), some (.int x8), none] [] h Q := by
  refine wp_loc rfl rfl ?_
  refine wp_iconst (v := (-1)) rfl (by decide) ?_
  exact wp_iceq (tgt := 112) rfl (by decide) wt wf
set_option maxRecDepth 20000 in
theorem b275_84 {n : Nat} {h : q_Hp} {Q : Option Value → q_Hp → Prop} {x0 : Nat} {x1 : Int32} {x2 : Int32} {x3 : Int32} {x4 : Int32} {x5 : Int32} {x6 : Int32} {x7 : Int32} {x8 : Int32} {v0 : Nat} {v1 : Nat} (k0 : q_ok h x0 12) (e0 : qR h x0 72 = v0) (k1 : q_ok h v0 20) (i0 : q_in x7 (qK h v0).2) (e1 : qR h x0 30 = v1) (k2 : q_ok h v1 20) (i1 : q_in (12 + x6) (qK h v1).2) {m : Nat} {P : Int32 → q_Hp → Prop} (hc : q_mI m 276 [.ref x0, .int (qA h v0 x7.toNatClampNeg), .int (qA h v1 ((12 + x6 : Int32).toNatClampNeg))] h P) (hm : m ≤ n) (w : ∀ (z : Int32) (h1 : q_Hp), P z h1 → q_wp (n + 1) 275 105 [some (.ref x0), some (.int x1), some (.int x2), some (.int x3), some (.int x4), some (.int x5), some (.int x6), some (.int x7), some (.int x8), none] [.int z] h1 Q) : q_wp (n + 1) 275 84 [some (.ref x0), some (.int x1), some (.int x2), some (.int x3), some (.int x4), some (.int x5), some (.int x6), some (.int x7), some (.int x8), none] [] h Q := by
  refine wp_loc rfl rfl ?_
  refine wp_loc rfl rfl ?_
  refine wp_getR rfl rfl rfl rfl k0 e0 ?_
  refine wp_loc rfl rfl ?_
  refine wp_iald rfl k1 i0 ?_
  refine wp_loc rfl rfl ?_
  refine wp_getR rfl rfl rfl rfl k0 e1 ?_
  refine wp_bipush (v := 12) rfl (by decide) ?_
  refine wp_loc rfl rfl ?_
  refine wp_stk rfl rfl rfl ?_
  refine wp_iald rfl k2 i1 ?_
  exact wp_callI (av := [.ref x0, .int (qA h v0 x7.toNatClampNeg), .int (qA h v1 ((12 + x6 : Int32).toNatClampNeg))]) rfl rfl rfl (by decide) rfl rfl rfl hm hc w
set_option maxRecDepth 20000 in
theorem b275_105 {n : Nat} {h : q_Hp} {Q : Option Value → q_Hp → Prop} {x0 : Nat} {x1 : Int32} {x2 : Int32} {x3 : Int32} {x4 : Int32} {x5 : Int32} {x6 : Int32} {x7 : Int32} {x8 : Int32} {s0 : Int32} (wt : s0 = 0 → q_wp n 275 112 [some (.ref x0), some (.int x1), some (.int x2), some (.int x3), some (.int x4), some (.int x5), some (.int x6), some (.int x7), some (.int x8), none] [] h Q) (wf : ¬ s0 = 0 → q_wp n 275 108 [some (.ref x0), some (.int x1), some (.int x2), some (.int x3), some (.int x4), some (.int x5), some (.int x6), some (.int x7), some (.int x8), none] [] h Q) : q_wp n 275 105 [some (.ref x0), some (.int x1), some (.int x2), some (.int x3), some (.int x4), some (.int x5), some (.int x6), some (.int x7), some (.int x8), none] [.int s0] h Q := by
  exact wp_ifeq (tgt := 112) rfl (by decide) wt wf
set_option maxRecDepth 20000 in
theorem b275_108 {n : Nat} {h : q_Hp} {Q : Option Value → q_Hp → Prop} {x0 : Nat} {x1 : Int32} {x2 : Int32} {x3 : Int32} {x4 : Int32} {x5 : Int32} {x6 : Int32} {x7 : Int32} {x8 : Int32} (w : q_wp n 275 113 [some (.ref x0), some (.int x1), some (.int x2), some (.int x3), some (.int x4), some (.int x5), some (.int x6), some (.int x7), some (.int x8), none] [.int 1] h Q) : q_wp n 275 108 [some (.ref x0), some (.int x1), some (.int x2), some (.int x3), some (.int x4), some (.int x5), some (.int x6), some (.int x7), some (.int x8), none] [] h Q := by
  refine wp_iconst (v := 1) rfl (by decide) ?_
  refine wp_goto (tgt := 113) rfl (by decide) ?_
  exact w
set_option maxRecDepth 20000 in
theorem b275_112 {n : Nat} {h : q_Hp} {Q : Option Value → q_Hp → Prop} {x0 : Nat} {x1 : Int32} {x2 : Int32} {x3 : Int32} {x4 : Int32} {x5 : Int32} {x6 : Int32} {x7 : Int32} {x8 : Int32} (w : q_wp n 275 113 [some (.ref x0), some (.int x1), some (.int x2), some (.int x3), some (.int x4), some (.int x5), some (.int x6), some (.int x7), some (.int x8), none] [.int 0] h Q) : q_wp n 275 112 [some (.ref x0), some (.int x1), some (.int x2), some (.int x3), some (.int x4), some (.int x5), some (.int x6), some (.int x7), some (.int x8), none] [] h Q := by
  refine wp_iconst (v := 0) rfl (by decide) ?_
  exact w
set_option maxRecDepth 20000 in
theorem b275_113 {n : Nat} {h : q_Hp} {Q : Option Value → q_Hp → Prop} {x0 : Nat} {x1 : Int32} {x2 : Int32} {x3 : Int32} {x4 : Int32} {x5 : Int32} {x6 : Int32} {x7 : Int32} {x8 : Int32} {s0 : Int32} (wt : ¬ x8 = 0 → q_wp n 275 125 [some (.ref x0), some (.int x1), some (.int x2), some (.int x3), some (.int x4), some (.int x5), some (.int x6), some (.int x7), some (.int x8), some (.int s0)] [] h Q) (wf : x8 = 0 → q_wp n 275 120 [some (.ref x0), some (.int x1), some (.int x2), some (.int x3), some (.int x4), some (.int x5), some (.int x6), some (.int x7), some (.int x8), some (.int s0)] [] h Q) : q_wp n 275 113 [some (.ref x0), some (.int x1), some (.int x2), some (.int x3), some (.int x4), some (.int x5), some (.int x6), some (.int x7), some (.int x8), none] [.int s0] h Q := by
  refine wp_loc rfl rfl ?_
  refine wp_loc rfl rfl ?_
  exact wp_ifne (tgt := 125) rfl (by decide) wt wf
set_option maxRecDepth 20000 in
theorem b275_120 {n : Nat} {h : q_Hp} {Q : Option Value → q_Hp → Prop} {x0 : Nat} {x1 : Int32} {x2 : Int32} {x3 : Int32} {x4 : Int32} {x5 : Int32} {x6 : Int32} {x7 : Int32} {x8 : Int32} {x9 : Int32} (wt : x9 = 0 → q_wp n 275 131 [some (.ref x0), some (.int x1), some (.int x2), some (.int x3), some (.int x4), some (.int x5), some (.int x6), some (.int x7), some (.int x8), some (.int x9)] [] h Q) (wf : ¬ x9 = 0 → q_wp n 275 125 [some (.ref x0), some (.int x1), some (.int x2), some (.int x3), some (.int x4), some (.int x5), some (.int x6), some (.int x7), some (.int x8), some (.int x9)] [] h Q) : q_wp n 275 120 [some (.ref x0), some (.int x1), some (.int x2), some (.int x3), some (.int x4), some (.int x5), some (.int x6), some (.int x7), some (.int x8), some (.int x9)] [] h Q := by
  refine wp_loc rfl rfl ?_
  exact wp_ifeq (tgt := 131) rfl (by decide) wt wf
set_option maxRecDepth 20000 in
theorem b275_125 {n : Nat} {h : q_Hp} {Q : Option Value → q_Hp → Prop} {x0 : Nat} {x1 : Int32} {x2 : Int32} {x3 : Int32} {x4 : Int32} {x5 : Int32} {x6 : Int32} {x7 : Int32} {x8 : Int32} {x9 : Int32} {m : Nat} {P : q_Hp → Prop} (hc : q_mV m 251 [.ref x0, .int 5, .int x3] h P) (hm : m ≤ n) (w : ∀ h1 : q_Hp, P h1 → q_wp (n + 1) 275 131 [some (.ref x0), some (.int x1), some (.int x2), some (.int x3), some (.int x4), some (.int x5), some (.int x6), some (.int x7), some (.int x8), some (.int x9)] [] h1 Q) : q_wp (n + 1) 275 125 [some (.ref x0), some (.int x1), some (.int x2), some (.int x3), some (.int x4), some (.int x5), some (.int x6), some (.int x7), some (.int x8), some (.int x9)] [] h Q := by
  refine wp_loc rfl rfl ?_
  refine wp_iconst (v := 5) rfl (by decide) ?_
  refine wp_loc rfl rfl ?_
  exact wp_callV (av := [.ref x0, .int 5, .int x3]) rfl rfl rfl (by decide) rfl rfl rfl hm hc w
set_option maxRecDepth 20000 in
theorem b275_131 {n : Nat} {h : q_Hp} {Q : Option Value → q_Hp → Prop} {x0 : Nat} {x1 : Int32} {x2 : Int32} {x3 : Int32} {x4 : Int32} {x5 : Int32} {x6 : Int32} {x7 : Int32} {x8 : Int32} {x9 : Int32} (wt : x5 = (-1) → q_wp n 275 143 [some (.ref x0), some (.int x1), some (.int x2), some (.int x3), some (.int x4), some (.int x5), some (.int x6), some (.int x7), some (.int x8), some (.int x9)] [] h Q) (wf : ¬ x5 = (-1) → q_wp n 275 137 [some (.ref x0), some (.int x1), some (.int x2), some (.int x3), some (.int x4), some (.int x5), some (.int x6), some (.int x7), some (.int x8), some (.int x9)] [] h Q) : q_wp n 275 131 [some (.ref x0), some (.int x1), some (.int x2), some (.int x3), some (.int x4), some (.int x5), some (.int x6), some (.int x7), some (.int x8), some (.int x9)] [] h Q := by
  refine wp_loc rfl rfl ?_
  refine wp_iconst (v := (-1)) rfl (by decide) ?_
  exact wp_iceq (tgt := 143) rfl (by decide) wt wf
set_option maxRecDepth 20000 in
theorem b275_137 {n : Nat} {h : q_Hp} {Q : Option Value → q_Hp → Prop} {x0 : Nat} {x1 : Int32} {x2 : Int32} {x3 : Int32} {x4 : Int32} {x5 : Int32} {x6 : Int32} {x7 : Int32} {x8 : Int32} {x9 : Int32} (wt : ¬ x7 = (-1) → q_wp n 275 144 [some (.ref x0), some (.int x1), some (.int x2), some (.int x3), some (.int x4), some (.int x5), some (.int x6), some (.int x7), some (.int x8), some (.int x9)] [] h Q) (wf : x7 = (-1) → q_wp n 275 143 [some (.ref x0), some (.int x1), some (.int x2), some (.int x3), some (.int x4), some (.int x5), some (.int x6), some (.int x7), some (.int x8), some (.int x9)] [] h Q) : q_wp n 275 137 [some (.ref x0), some (.int x1), some (.int x2), some (.int x3), some (.int x4), some (.int x5), some (.int x6), some (.int x7), some (.int x8), some (.int x9)] [] h Q := by
  refine wp_loc rfl rfl ?_
  refine wp_iconst (v := (-1)) rfl (by decide) ?_
  exact wp_icne (tgt := 144) rfl (by decide) wt wf
set_option maxRecDepth 20000 in
theorem b275_143 {n : Nat} {h : q_Hp} {Q : Option Value → q_Hp → Prop} {x0 : Nat} {x1 : Int32} {x2 : Int32} {x3 : Int32} {x4 : Int32} {x5 : Int32} {x6 : Int32} {x7 : Int32} {x8 : Int32} {x9 : Int32} (q : Q none h) : q_wp n 275 143 [some (.ref x0), some (.int x1), some (.int x2), some (.int x3), some (.int x4), some (.int x5), some (.int x6), some (.int x7), some (.int x8), some (.int x9)] [] h Q := by
  exact wp_ret rfl rfl q
set_option maxRecDepth 20000 in
theorem b275_144 {n : Nat} {h : q_Hp} {Q : Option Value → q_Hp → Prop} {x0 : Nat} {x1 : Int32} {x2 : Int32} {x3 : Int32} {x4 : Int32} {x5 : Int32} {x6 : Int32} {x7 : Int32} {x8 : Int32} {x9 : Int32} {v0 : Nat} {v1 : Nat} {v2 : Nat} (k0 : q_ok h x0 12) (e0 : qR h x0 51 = v0) (e1 : qR h x0 70 = v1) (k1 : q_ok h v1 20) (i0 : q_in x5 (qK h v1).2) (e2 : qR h x0 71 = v2) (k2 : q_ok h v2 20) (i1 : q_in x5 (qK h v2).2) {m : Nat} {P : Int32 → q_Hp → Prop} (hc : q_mI m 272 [.int (qA h v1 x5.toNatClampNeg), .int (qA h v2 x5.toNatClampNeg)] h P) (hm : m ≤ n) (w : ∀ (z : Int32) (h1 : q_Hp), P z h1 → q_wp (n + 1) 275 166 [some (.ref x0), some (.int x1), some (.int x2), some (.int x3), some (.int x4), some (.int x5), some (.int x6), some (.int x7), some (.int x8), some (.int x9)] [.int z, .int x1, .ref v0] h1 Q) : q_wp (n + 1) 275 144 [some (.ref x0), some (.int x1), some (.int x2), some (.int x3), some (.int x4), some (.int x5), some (.int x6), some (.int x7), some (.int x8), some (.int x9)] [] h Q := by
  refine wp_loc rfl rfl ?_
  refine wp_getR rfl rfl rfl rfl k0 e0 ?_
  refine wp_loc rfl rfl ?_
  refine wp_loc rfl rfl ?_
  refine wp_getR rfl rfl rfl rfl k0 e1 ?_
  refine wp_loc rfl rfl ?_
  refine wp_iald rfl k1 i0 ?_
  refine wp_loc rfl rfl ?_
  refine wp_getR rfl rfl rfl rfl k0 e2 ?_
  refine wp_loc rfl rfl ?_
  refine wp_iald rfl k2 i1 ?_
  exact wp_callI (av := [.int (qA h v1 x5.toNatClampNeg), .int (qA h v2 x5.toNatClampNeg)]) rfl rfl rfl (by decide) rfl rfl rfl hm hc w
set_option maxRecDepth 20000 in
theorem b275_166 {n : Nat} {h : q_Hp} {Q : Option Value → q_Hp → Prop} {x0 : Nat} {x1 : Int32} {x2 : Int32} {x3 : Int32} {x4 : Int32} {x5 : Int32} {x6 : Int32} {x7 : Int32} {x8 : Int32} {x9 : Int32} {s0 : Int32} {s1 : Int32} {s2 : Nat} {v0 : Nat} {v1 : Nat} {v2 : Nat} {v3 : Nat} (k0 : q_ok h s2 20) (i0 : q_in s1 (qK h s2).2) (k1 : q_ok h x0 12) (e0 : qR h x0 52 = v0) (k2 : q_ok h v0 20) (i1 : q_in x1 (qK h v0).2) (e1 : qR h x0 53 = v1) (e2 : qR h x0 70 = v2) (k3 : q_ok h v2 20) (i2 : q_in x7 (qK h v2).2) (e3 : qR h x0 71 = v3) (k4 : q_ok h v3 20) (i3 : q_in x7 (qK h v3).2) {m : Nat} {P : Int32 → q_Hp → Prop} (hc : q_mI m 272 [.int (qA (q_sA (q_sA h s2 s1.toNatClampNeg s0) v0 x1.toNatClampNeg x6) v2 x7.toNatClampNeg), .int (qA (q_sA (q_sA h s2 s1.toNatClampNeg s0) v0 x1.toNatClampNeg x6) v3 x7.toNatClampNeg)] (q_sA (q_sA h s2 s1.toNatClampNeg s0) v0 x1.toNatClampNeg x6) P) (hm : m ≤ n) (w : ∀ (z : Int32) (h1 : q_Hp), P z h1 → q_wp (n + 1) 275 197 [some (.ref x0), some (.int x1), some (.int x2), some (.int x3), some (.int x4), some (.int x5), some (.int x6), some (.int x7), some (.int x8), some (.int x9)] [.int z, .int x1, .ref v1] h1 Q) : q_wp (n + 1) 275 166 [some (.ref x0), some (.int x1), some (.int x2), some (.int x3), some (.int x4), some (.int x5), some (.int x6), some (.int x7), some (.int x8), some (.int x9)] [.int s0, .int s1, .ref s2] h Q := by
  refine wp_iast rfl k0 i0 ?_
  refine wp_loc rfl rfl ?_
  refine wp_getR rfl rfl rfl rfl k1 e0 ?_
  refine wp_loc rfl rfl ?_
  refine wp_loc rfl rfl ?_
  refine wp_iast rfl k2 i1 ?_
  refine wp_loc rfl rfl ?_
  refine wp_getR rfl rfl rfl rfl k1 e1 ?_
  refine wp_loc rfl rfl ?_
  refine wp_loc rfl rfl ?_
  refine wp_getR rfl rfl rfl rfl k1 e2 ?_
  refine wp_loc rfl rfl ?_
  refine wp_iald rfl k3 i2 ?_
  refine wp_loc rfl rfl ?_
  refine wp_getR rfl rfl rfl rfl k1 e3 ?_
  refine wp_loc rfl rfl ?_
  refine wp_iald rfl k4 i3 ?_
  exact wp_callI (av := [.int (qA (q_sA (q_sA h s2 s1.toNatClampNeg s0) v0 x1.toNatClampNeg x6) v2 x7.toNatClampNeg), .int (qA (q_sA (q_sA h s2 s1.toNatClampNeg s0) v0 x1.toNatClampNeg x6) v3 x7.toNatClampNeg)]) rfl rfl rfl (by decide) rfl rfl rfl hm hc w
set_option maxRecDepth 20000 in
theorem b275_197 {n : Nat} {h : q_Hp} {Q : Option Value → q_Hp → Prop} {x0 : Nat} {x1 : Int32} {x2 : Int32} {x3 : Int32} {x4 : Int32} {x5 : Int32} {x6 : Int32} {x7 : Int32} {x8 : Int32} {x9 : Int32} {s0 : Int32} {s1 : Int32} {s2 : Nat} {v0 : Nat} {v1 : Nat} {v2 : Nat} (k0 : q_ok h s2 20) (i0 : q_in s1 (qK h s2).2) (k1 : q_ok h x0 12) (e0 : qR h x0 76 = v0) (e1 : qR h x0 51 = v1) (k2 : q_ok h v1 20) (i1 : q_in x1 (qK h v1).2) (k3 : q_ok h v0 20) (i2 : q_in (qI h x0 75) (qK h v0).2) (e2 : qR h x0 53 = v2) (k4 : q_ok h v2 20) (i3 : q_in x1 (qK h v2).2) (i4 : q_in ((qI h x0 75) + 1) (qK h v0).2) (q : Q none (q_sI (q_sA (q_sA (q_sA h s2 s1.toNatClampNeg s0) v0 ((qI h x0 75 : Int32).toNatClampNeg) (qA (q_sA h s2 s1.toNatClampNeg s0) v1 x1.toNatClampNeg)) v0 (((qI h x0 75) + 1 : Int32).toNatClampNeg) (qA (q_sA (q_sA h s2 s1.toNatClampNeg s0) v0 ((qI h x0 75 : Int32).toNatClampNeg) (qA (q_sA h s2 s1.toNatClampNeg s0) v1 x1.toNatClampNeg)) v2 x1.toNatClampNeg)) x0 75 ((qI h x0 75) + 2))) : q_wp n 275 197 [some (.ref x0), some (.int x1), some (.int x2), some (.int x3), some (.int x4), some (.int x5), some (.int x6), some (.int x7), some (.int x8), some (.int x9)] [.int s0, .int s1, .ref s2] h Q := by
  refine wp_iast rfl k0 i0 ?_
  refine wp_loc rfl rfl ?_
  refine wp_getR rfl rfl rfl rfl k1 e0 ?_
  refine wp_loc rfl rfl ?_
  refine wp_getI rfl rfl rfl k1 ?_
  refine wp_loc rfl rfl ?_
  refine wp_getR rfl rfl rfl rfl k1 e1 ?_
  refine wp_loc rfl rfl ?_
  refine wp_iald rfl k2 i1 ?_
  refine wp_iast rfl k3 i2 ?_
  refine wp_loc rfl rfl ?_
  refine wp_getR rfl rfl rfl rfl k1 e0 ?_
  refine wp_loc rfl rfl ?_
  refine wp_getI rfl rfl rfl k1 ?_
  refine wp_iconst (v := 1) rfl (by decide) ?_
  refine wp_stk rfl rfl rfl ?_
  refine wp_loc rfl rfl ?_
  refine wp_getR rfl rfl rfl rfl k1 e2 ?_
  refine wp_loc rfl rfl ?_
  refine wp_iald rfl k4 i3 ?_
  refine wp_iast rfl k3 i4 ?_
  refine wp_loc rfl rfl ?_
  refine wp_stk rfl rfl rfl ?_
  refine wp_getI rfl rfl rfl k1 ?_
  refine wp_iconst (v := 2) rfl (by decide) ?_
  refine wp_stk rfl rfl rfl ?_
  refine wp_putI rfl rfl (Or.inl rfl) rfl (fun h9 => by cases h9) k1 ?_
  exact wp_ret rfl rfl q
theorem b276_0 {n : Nat} {h : q_Hp} {Q : Option Value → q_Hp → Prop} {x0 : Nat} {x1 : Int32} {x2 : Int32} (wt : x1 = (-1) → q_wp n 276 25 [some (.ref x0), some (.int x1), some (.int x2)] [] h Q) (wf : ¬ x1 = (-1) → q_wp n 276 5 [some (.ref x0), some (.int x1), some (.int x2)] [] h Q) : q_wp n 276 0 [some (.ref x0), some (.int x1), some (.int x2)] [] h Q := by
  refine wp_loc rfl rfl ?_
  refine wp_iconst (v := (-1)) rfl (by decide) ?_
  exact wp_iceq (tgt := 25) rfl (by decide) wt wf
theorem b276_5 {n : Nat} {h : q_Hp} {Q : Option Value → q_Hp → Prop} {x0 : Nat} {x1 : Int32} {x2 : Int32} (wt : x2 = (-1) → q_wp n 276 25 [some (.ref x0), some (.int x1), some (.int x2)] [] h Q) (wf : ¬ x2 = (-1) → q_wp n 276 10 [some (.ref x0), some (.int x1), some (.int x2)] [] h Q) : q_wp n 276 5 [some (.ref x0), some (.int x1), some (.int x2)] [] h Q := by
  refine wp_loc rfl rfl ?_
  refine wp_iconst (v := (-1)) rfl (by decide) ?_
  exact wp_iceq (tgt := 25) rfl (by decide) wt wf
theorem b276_10 {n : Nat} {h : q_Hp} {Q : Option Value → q_Hp → Prop} {x0 : Nat} {x1 : Int32} {x2 : Int32} {m : Nat} {P : Int32 → q_Hp → Prop} (hc : q_mI m 259 [.ref x0, .int 12, .int x1, .int x2] h P) (hm : m ≤ n) (w : ∀ (z : Int32) (h1 : q_Hp), P z h1 → q_wp (n + 1) 276 18 [some (.ref x0), some (.int x1), some (.int x2)] [.int z] h1 Q) : q_wp (n + 1) 276 10 [some (.ref x0), some (.int x1), some (.int x2)] [] h Q := by
  refine wp_loc rfl rfl ?_
  refine wp_bipush (v := 12) rfl (by decide) ?_
  refine wp_loc rfl rfl ?_
  refine wp_loc rfl rfl ?_
  exact wp_callI (av := [.ref x0, .int 12, .int x1, .int x2]) rfl rfl rfl (by decide) rfl rfl rfl hm hc w
theorem b276_18 {n : Nat} {h : q_Hp} {Q : Option Value → q_Hp → Prop} {x0 : Nat} {x1 : Int32} {x2 : Int32} {s0 : Int32} (wt : ¬ s0 = 0 → q_wp n 276 25 [some (.ref x0), some (.int x1), some (.int x2)] [] h Q) (wf : s0 = 0 → q_wp n 276 21 [some (.ref x0), some (.int x1), some (.int x2)] [] h Q) : q_wp n 276 18 [some (.ref x0), some (.int x1), some (.int x2)] [.int s0] h Q := by
  exact wp_ifne (tgt := 25) rfl (by decide) wt wf
theorem b276_21 {n : Nat} {h : q_Hp} {Q : Option Value → q_Hp → Prop} {x0 : Nat} {x1 : Int32} {x2 : Int32} (q : Q (some (.int 1)) h) : q_wp n 276 21 [some (.ref x0), some (.int x1), some (.int x2)] [] h Q := by
  refine wp_iconst (v := 1) rfl (by decide) ?_
  refine wp_goto (tgt := 26) rfl (by decide) ?_
  exact wp_ret (r := some (.int 1)) rfl rfl q
theorem b276_25 {n : Nat} {h : q_Hp} {Q : Option Value → q_Hp → Prop} {x0 : Nat} {x1 : Int32} {x2 : Int32} (q : Q (some (.int 0)) h) : q_wp n 276 25 [some (.ref x0), some (.int x1), some (.int x2)] [] h Q := by
  refine wp_iconst (v := 0) rfl (by decide) ?_
  exact wp_ret (r := some (.int 0)) rfl rfl q
theorem b277_0 {n : Nat} {h : q_Hp} {Q : Option Value → q_Hp → Prop} {x0 : Nat} {x1 : Int32} {x2 : Int32} {x3 : Int32} {v0 : Nat} {v1 : Nat} {v2 : Nat} (k0 : q_ok h x0 12) (e0 : qR h x0 56 = v0) (k1 : q_ok h v0 20) (i0 : q_in (qI h x0 22) (qK h v0).2) (e1 : qR h x0 57 = v1) (k2 : q_ok h v1 20) (i1 : q_in (qI h x0 22) (qK h v1).2) (e2 : qR h x0 58 = v2) (k3 : q_ok h v2 20) (i2 : q_in (qI h x0 22) (qK h v2).2) (q : Q none (q_sI (q_sA (q_sA (q_sA h v0 ((qI h x0 22 : Int32).toNatClampNeg) x1) v1 ((qI h x0 22 : Int32).toNatClampNeg) x2) v2 ((qI h x0 22 : Int32).toNatClampNeg) x3) x0 22 ((qI h x0 22) + 1))) : q_wp n 277 0 [some (.ref x0), some (.int x1), some (.int x2), some (.int x3)] [] h Q := by
  refine wp_loc rfl rfl ?_
  refine wp_getR rfl rfl rfl rfl k0 e0 ?_
  refine wp_loc rfl rfl ?_
  refine wp_getI rfl rfl rfl k0 ?_
  refine wp_loc rfl rfl ?_
  refine wp_iast rfl k1 i0 ?_
  refine wp_loc rfl rfl ?_
  refine wp_getR rfl rfl rfl rfl k0 e1 ?_
  refine wp_loc rfl rfl ?_
  refine wp_getI rfl rfl rfl k0 ?_
  refine wp_loc rfl rfl ?_
  refine wp_iast rfl k2 i1 ?_
  refine wp_loc rfl rfl ?_
  refine wp_getR rfl rfl rfl rfl k0 e2 ?_
  refine wp_loc rfl rfl ?_
  refine wp_getI rfl rfl rfl k0 ?_
  refine wp_loc rfl rfl ?_
  refine wp_iast rfl k3 i2 ?_
  refine wp_loc rfl rfl ?_
  refine wp_stk rfl rfl rfl ?_
  refine wp_getI rfl rfl rfl k0 ?_
  refine wp_iconst (v := 1) rfl (by decide) ?_
  refine wp_stk rfl rfl rfl ?_
  refine wp_putI rfl rfl (Or.inl rfl) rfl (fun h9 => by cases h9) k0 ?_
  exact wp_ret rfl rfl q
theorem b278_0 {n : Nat} {h : q_Hp} {Q : Option Value → q_Hp → Prop} {x0 : Int32} (wt : ¬ x0 = 16 → q_wp n 278 10 [some (.int x0)] [] h Q) (wf : x0 = 16 → q_wp n 278 6 [some (.int x0)] [] h Q) : q_wp n 278 0 [some (.int x0)] [] h Q := by
  refine wp_loc rfl rfl ?_
  refine wp_bipush (v := 16) rfl (by decide) ?_
  exact wp_icne (tgt := 10) rfl (by decide) wt wf
theorem b278_6 {n : Nat} {h : q_Hp} {Q : Option Value → q_Hp → Prop} {x0 : Int32} (q : Q (some (.int 0)) h) : q_wp n 278 6 [some (.int x0)] [] h Q := by
  refine wp_iconst (v := 0) rfl (by decide) ?_
  refine wp_goto (tgt := 21) rfl (by decide) ?_
  exact wp_ret rfl rfl q
theorem b278_10 {n : Nat} {h : q_Hp} {Q : Option Value → q_Hp → Prop} {x0 : Int32} (wt : ¬ x0 = 15 → q_wp n 278 20 [some (.int x0)] [] h Q) (wf : x0 = 15 → q_wp n 278 16 [some (.int x0)] [] h Q) : q_wp n 278 10 [some (.int x0)] [] h Q := by
  refine wp_loc rfl rfl ?_
  refine wp_bipush (v := 15) rfl (by decide) ?_
  exact wp_icne (tgt := 20) rfl (by decide) wt wf
theorem b278_16 {n : Nat} {h : q_Hp} {Q : Option Value → q_Hp → Prop} {x0 : Int32} (q : Q (some (.int 2)) h) : q_wp n 278 16 [some (.int x0)] [] h Q := by
  refine wp_iconst (v := 2) rfl (by decide) ?_
  refine wp_goto (tgt := 21) rfl (by decide) ?_
  exact wp_ret rfl rfl q
theorem b278_20 {n : Nat} {h : q_Hp} {Q : Option Value → q_Hp → Prop} {x0 : Int32} (q : Q (some (.int 1)) h) : q_wp n 278 20 [some (.int x0)] [] h Q := by
  refine wp_iconst (v := 1) rfl (by decide) ?_
  exact wp_ret rfl rfl q
theorem b279_0 {n : Nat} {h : q_Hp} {Q : Option Value → q_Hp → Prop} {x0 : Nat} {x1 : Int32} {l2 : Option Value} (k0 : q_ok h x0 12) (wt : (qI h x0 78) ≤ 0 → q_wp n 279 85 [some (.ref x0), some (.int x1), l2] [] h Q) (wf : ¬ (qI h x0 78) ≤ 0 → q_wp n 279 7 [some (.ref x0), some (.int x1), l2] [] h Q) : q_wp n 279 0 [some (.ref x0), some (.int x1), l2] [] h Q := by
  refine wp_loc rfl rfl ?_
  refine wp_getI rfl rfl rfl k0 ?_
  exact wp_ifle (tgt := 85) rfl (by decide) wt wf
theorem b279_7 {n : Nat} {h : q_Hp} {Q : Option Value → q_Hp → Prop} {x0 : Nat} {x1 : Int32} {l2 : Option Value} {v0 : Nat} (k0 : q_ok h x0 12) (e0 : qR h x0 79 = v0) (k1 : q_ok h v0 20) (i0 : q_in ((qI h x0 78) - 1) (qK h v0).2) {m : Nat} {P : Int32 → q_Hp → Prop} (hc : q_mI m 278 [.int (qA h v0 (((qI h x0 78) - 1 : Int32).toNatClampNeg))] h P) (hm : m ≤ n) (w : ∀ (z : Int32) (h1 : q_Hp), P z h1 → q_wp (n + 1) 279 21 [some (.ref x0), some (.int x1), l2] [.int z] h1 Q) : q_wp (n + 1) 279 7 [some (.ref x0), some (.int x1), l2] [] h Q := by
  refine wp_loc rfl rfl ?_
  refine wp_getR rfl rfl rfl rfl k0 e0 ?_
  refine wp_loc rfl rfl ?_
  refine wp_getI rfl rfl rfl k0 ?_
  refine wp_iconst (v := 1) rfl (by decide) ?_
  refine wp_stk rfl rfl rfl ?_
  refine wp_iald rfl k1 i0 ?_
  exact wp_callI (av := [.int (qA h v0 (((qI h x0 78) - 1 : Int32).toNatClampNeg))]) rfl rfl rfl (by decide) rfl rfl rfl hm hc w
theorem b279_21 {n : Nat} {h : q_Hp} {Q : Option Value → q_Hp → Prop} {x0 : Nat} {x1 : Int32} {l2 : Option Value} {s0 : Int32} (wt : s0 < x1 → q_wp n 279 85 [some (.ref x0), some (.int x1), l2] [] h Q) (wf : ¬ s0 < x1 → q_wp n 279 25 [some (.ref x0), some (.int x1), l2] [] h Q) : q_wp n 279 21 [some (.ref x0), some (.int x1), l2] [.int s0] h Q := by
  refine wp_loc rfl rfl ?_
  exact wp_iclt (tgt := 85) rfl (by decide) wt wf
theorem b279_25 {n : Nat} {h : q_Hp} {Q : Option Value → q_Hp → Prop} {x0 : Nat} {x1 : Int32} {l2 : Option Value} {v0 : Nat} (k0 : q_ok h x0 12) (e0 : qR h x0 79 = v0) (k1 : q_ok h v0 20) (i0 : q_in (qI (q_sI h x0 78 ((qI h x0 78) - 1)) x0 78) (qK h v0).2) (wt : ¬ (qA h v0 ((qI (q_sI h x0 78 ((qI h x0 78) - 1)) x0 78 : Int32).toNatClampNeg)) = 13 → q_wp n 279 56 [some (.ref x0), some (.int x1), some (.int (qA h v0 ((qI (q_sI h x0 78 ((qI h x0 78) - 1)) x0 78 : Int32).toNatClampNeg)))] [.ref x0] (q_sI h x0 78 ((qI h x0 78) - 1)) Q) (wf : (qA h v0 ((qI (q_sI h x0 78 ((qI h x0 78) - 1)) x0 78 : Int32).toNatClampNeg)) = 13 → q_wp n 279 52 [some (.ref x0), some (.int x1), some (.int (qA h v0 ((qI (q_sI h x0 78 ((qI h x0 78) - 1)) x0 78 : Int32).toNatClampNeg)))] [.ref x0] (q_sI h x0 78 ((qI h x0 78) - 1)) Q) : q_wp n 279 25 [some (.ref x0), some (.int x1), l2] [] h Q := by
  refine wp_loc rfl rfl ?_
  refine wp_stk rfl rfl rfl ?_
  refine wp_getI rfl rfl rfl k0 ?_
  refine wp_iconst (v := 1) rfl (by decide) ?_
  refine wp_stk rfl rfl rfl ?_
  refine wp_putI rfl rfl (Or.inl rfl) rfl (fun h9 => by cases h9) k0 ?_
  refine wp_loc rfl rfl ?_
  refine wp_getR rfl rfl rfl rfl k0 e0 ?_
  refine wp_loc rfl rfl ?_
  refine wp_getI rfl rfl rfl k0 ?_
  refine wp_iald rfl k1 i0 ?_
  refine wp_loc rfl rfl ?_
  refine wp_loc rfl rfl ?_
  refine wp_loc rfl rfl ?_
  refine wp_bipush (v := 13) rfl (by decide) ?_
  exact wp_icne (tgt := 56) rfl (by decide) wt wf
theorem b279_52 {n : Nat} {h : q_Hp} {Q : Option Value → q_Hp → Prop} {x0 : Nat} {x1 : Int32} {x2 : Int32} {s0 : Nat} (w : q_wp n 279 77 [some (.ref x0), some (.int x1), some (.int x2)] [.int 3, .ref s0] h Q) : q_wp n 279 52 [some (.ref x0), some (.int x1), some (.int x2)] [.ref s0] h Q := by
  refine wp_iconst (v := 3) rfl (by decide) ?_
  refine wp_goto (tgt := 77) rfl (by decide) ?_
  exact w
theorem b279_56 {n : Nat} {h : q_Hp} {Q : Option Value → q_Hp → Prop} {x0 : Nat} {x1 : Int32} {x2 : Int32} {s0 : Nat} (wt : ¬ x2 = 14 → q_wp n 279 66 [some (.ref x0), some (.int x1), some (.int x2)] [.ref s0] h Q) (wf : x2 = 14 → q_wp n 279 62 [some (.ref x0), some (.int x1), some (.int x2)] [.ref s0] h Q) : q_wp n 279 56 [some (.ref x0), some (.int x1), some (.int x2)] [.ref s0] h Q := by
  refine wp_loc rfl rfl ?_
  refine wp_bipush (v := 14) rfl (by decide) ?_
  exact wp_icne (tgt := 66) rfl (by decide) wt wf
theorem b279_62 {n : Nat} {h : q_Hp} {Q : Option Value → q_Hp → Prop} {x0 : Nat} {x1 : Int32} {x2 : Int32} {s0 : Nat} (w : q_wp n 279 77 [some (.ref x0), some (.int x1), some (.int x2)] [.int 4, .ref s0] h Q) : q_wp n 279 62 [some (.ref x0), some (.int x1), some (.int x2)] [.ref s0] h Q := by
  refine wp_iconst (v := 4) rfl (by decide) ?_
  refine wp_goto (tgt := 77) rfl (by decide) ?_
  exact w
theorem b279_66 {n : Nat} {h : q_Hp} {Q : Option Value → q_Hp → Prop} {x0 : Nat} {x1 : Int32} {x2 : Int32} {s0 : Nat} (wt : ¬ x2 = 15 → q_wp n 279 76 [some (.ref x0), some (.int x1), some (.int x2)] [.ref s0] h Q) (wf : x2 = 15 → q_wp n 279 72 [some (.ref x0), some (.int x1), some (.int x2)] [.ref s0] h Q) : q_wp n 279 66 [some (.ref x0), some (.int x1), some (.int x2)] [.ref s0] h Q := by
  refine wp_loc rfl rfl ?_
  refine wp_bipush (v := 15) rfl (by decide) ?_
  exact wp_icne (tgt := 76) rfl (by decide) wt wf
theorem b279_72 {n : Nat} {h : q_Hp} {Q : Option Value → q_Hp → Prop} {x0 : Nat} {x1 : Int32} {x2 : Int32} {s0 : Nat} (w : q_wp n 279 77 [some (.ref x0), some (.int x1), some (.int x2)] [.int 5, .ref s0] h Q) : q_wp n 279 72 [some (.ref x0), some (.int x1), some (.int x2)] [.ref s0] h Q := by
  refine wp_iconst (v := 5) rfl (by decide) ?_
  refine wp_goto (tgt := 77) rfl (by decide) ?_
  exact w
theorem b279_76 {n : Nat} {h : q_Hp} {Q : Option Value → q_Hp → Prop} {x0 : Nat} {x1 : Int32} {x2 : Int32} {s0 : Nat} (w : q_wp n 279 77 [some (.ref x0), some (.int x1), some (.int x2)] [.int 2, .ref s0] h Q) : q_wp n 279 76 [some (.ref x0), some (.int x1), some (.int x2)] [.ref s0] h Q := by
  refine wp_iconst (v := 2) rfl (by decide) ?_
  exact w
theorem b279_77 {n : Nat} {h : q_Hp} {Q : Option Value → q_Hp → Prop} {x0 : Nat} {x1 : Int32} {x2 : Int32} {s0 : Int32} {s1 : Nat} {m : Nat} {P : q_Hp → Prop} (hc : q_mV m 277 [.ref s1, .int s0, .int 0, .int 0] h P) (hm : m ≤ n) (w : ∀ h1 : q_Hp, P h1 → q_wp (n + 1) 279 82 [some (.ref x0), some (.int x1), some (.int x2)] [] h1 Q) : q_wp (n + 1) 279 77 [some (.ref x0), some (.int x1), some (.int x2)] [.int s0, .ref s1] h Q := by
  refine wp_iconst (v := 0) rfl (by decide) ?_
  refine wp_iconst (v := 0) rfl (by decide) ?_
  exact wp_callV (av := [.ref s1, .int s0, .int 0, .int 0]) rfl rfl rfl (by decide) rfl rfl rfl hm hc w
theorem b279_82 {n : Nat} {h : q_Hp} {Q : Option Value → q_Hp → Prop} {x0 : Nat} {x1 : Int32} {x2 : Int32} (w : q_wp n 279 0 [some (.ref x0), some (.int x1), some (.int x2)] [] h Q) : q_wp n 279 82 [some (.ref x0), some (.int x1), some (.int x2)] [] h Q := by
  refine wp_goto (tgt := 0) rfl (by decide) ?_
  exact w
theorem b279_85 {n : Nat} {h : q_Hp} {Q : Option Value → q_Hp → Prop} {x0 : Nat} {x1 : Int32} {l2 : Option Value} (q : Q none h) : q_wp n 279 85 [some (.ref x0), some (.int x1), l2] [] h Q := by
  exact wp_ret rfl rfl q
set_option maxRecDepth 20000 in
theorem b280_0 {n : Nat} {h : q_Hp} {Q : Option Value → q_Hp → Prop} {x0 : Nat} {x1 : Int32} (k0 : q_ok h x0 12) (w : q_wp n 280 9 [some (.ref x0), some (.int x1), some (.int 1), some (.int 1), none] [] (q_sI h x0 78 0) Q) : q_wp n 280 0 [some (.ref x0), some (.int x1), none, none, none] [] h Q := by
  refine wp_loc rfl rfl ?_
  refine wp_iconst (v := 0) rfl (by decide) ?_
  refine wp_putI rfl rfl (Or.inl rfl) rfl (fun h9 => by cases h9) k0 ?_
  refine wp_iconst (v := 1) rfl (by decide) ?_
  refine wp_loc rfl rfl ?_
  refine wp_iconst (v := 1) rfl (by decide) ?_
  refine wp_loc rfl rfl ?_
  exact w
set_option maxRecDepth 20000 in
theorem b280_9 {n : Nat} {h : q_Hp} {Q : Option Value → q_Hp → Prop} {x0 : Nat} {x1 : Int32} {x2 : Int32} {x3 : Int32} {l4 : Option Value} (wt : x3 = 0 → q_wp n 280 247 [some (.ref x0), some (.int x1), some (.int x2), some (.int x3), l4] [] h Q) (wf : ¬ x3 = 0 → q_wp n 280 13 [some (.ref x0), some (.int x1), some (.int x2), some (.int x3), l4] [] h Q) : q_wp n 280 9 [some (.ref x0), some (.int x1), some (.int x2), some (.int x3), l4] [] h Q := by
  refine wp_loc rfl rfl ?_
  exact wp_ifeq (tgt := 247) rfl (by decide) wt wf
set_option maxRecDepth 20000 in
theorem b280_13 {n : Nat} {h : q_Hp} {Q : Option Value → q_Hp → Prop} {x0 : Nat} {x1 : Int32} {x2 : Int32} {x3 : Int32} {l4 : Option Value} (k0 : q_ok h x0 12) (wt : ¬ (qI h x0 13) = 0 → q_wp n 280 247 [some (.ref x0), some (.int x1), some (.int x2), some (.int x3), l4] [] h Q) (wf : (qI h x0 13) = 0 → q_wp n 280 20 [some (.ref x0), some (.int x1), some (.int x2), some (.int x3), l4] [] h Q) : q_wp n 280 13 [some (.ref x0), some (.int x1), some (.int x2), some (.int x3), l4] [] h Q := by
  refine wp_loc rfl rfl ?_
  refine wp_getI rfl rfl rfl k0 ?_
  exact wp_ifne (tgt := 247) rfl (by decide) wt wf
set_option maxRecDepth 20000 in
theorem b280_20 {n : Nat} {h : q_Hp} {Q : Option Value → q_Hp → Prop} {x0 : Nat} {x1 : Int32} {x2 : Int32} {x3 : Int32} {l4 : Option Value} (wt : x2 = 0 → q_wp n 280 57 [some (.ref x0), some (.int x1), some (.int x2), some (.int x3), l4] [] h Q) (wf : ¬ x2 = 0 → q_wp n 280 24 [some (.ref x0), some (.int x1), some (.int x2), some (.int x3), l4] [] h Q) : q_wp n 280 20 [some (.ref x0), some (.int x1), some (.int x2), some (.int x3), l4] [] h Q := by
  refine wp_loc rfl rfl ?_
  exact wp_ifeq (tgt := 57) rfl (by decide) wt wf
set_option maxRecDepth 20000 in
theorem b280_24 {n : Nat} {h : q_Hp} {Q : Option Value → q_Hp → Prop} {x0 : Nat} {x1 : Int32} {x2 : Int32} {x3 : Int32} {l4 : Option Value} {m : Nat} {P : Int32 → q_Hp → Prop} (hc : q_mI m 249 [.ref x0, .int 14] h P) (hm : m ≤ n) (w : ∀ (z : Int32) (h1 : q_Hp), P z h1 → q_wp (n + 1) 280 30 [some (.ref x0), some (.int x1), some (.int x2), some (.int x3), l4] [.int z] h1 Q) : q_wp (n + 1) 280 24 [some (.ref x0), some (.int x1), some (.int x2), some (.int x3), l4] [] h Q := by
  refine wp_loc rfl rfl ?_
  refine wp_bipush (v := 14) rfl (by decide) ?_
  exact wp_callI (av := [.ref x0, .int 14]) rfl rfl rfl (by decide) rfl rfl rfl hm hc w
set_option maxRecDepth 20000 in
theorem b280_30 {n : Nat} {h : q_Hp} {Q : Option Value → q_Hp → Prop} {x0 : Nat} {x1 : Int32} {x2 : Int32} {x3 : Int32} {l4 : Option Value} {s0 : Int32} (wt : s0 = 0 → q_wp n 280 57 [some (.ref x0), some (.int x1), some (.int x2), some (.int x3), l4] [] h Q) (wf : ¬ s0 = 0 → q_wp n 280 33 [some (.ref x0), some (.int x1), some (.int x2), some (.int x3), l4] [] h Q) : q_wp n 280 30 [some (.ref x0), some (.int x1), some (.int x2), some (.int x3), l4] [.int s0] h Q := by
  exact wp_ifeq (tgt := 57) rfl (by decide) wt wf
set_option maxRecDepth 20000 in
theorem b280_33 {n : Nat} {h : q_Hp} {Q : Option Value → q_Hp → Prop} {x0 : Nat} {x1 : Int32} {x2 : Int32} {x3 : Int32} {l4 : Option Value} {v0 : Nat} (k0 : q_ok h x0 12) (e0 : qR h x0 79 = v0) (k1 : q_ok h v0 20) (i0 : q_in (qI h x0 78) (qK h v0).2) {m : Nat} {P : q_Hp → Prop} (hc : q_mV m 252 [.ref x0] (q_sI (q_sA h v0 ((qI h x0 78 : Int32).toNatClampNeg) 3) x0 78 ((qI h x0 78) + 1)) P) (hm : m ≤ n) (w : ∀ h1 : q_Hp, P h1 → q_wp (n + 1) 280 57 [some (.ref x0), some (.int x1), some (.int x2), some (.int x3), l4] [] h1 Q) : q_wp (n + 1) 280 33 [some (.ref x0), some (.int x1), some (.int x2), some (.int x3), l4] [] h Q := by
  refine wp_loc rfl rfl ?_
  refine wp_getR rfl rfl rfl rfl k0 e0 ?_
  refine wp_loc rfl rfl ?_
  refine wp_getI rfl rfl rfl k0 ?_
  refine wp_iconst (v := 3) rfl (by decide) ?_
  refine wp_iast rfl k1 i0 ?_
  refine wp_loc rfl rfl ?_
  refine wp_stk rfl rfl rfl ?_
  refine wp_getI rfl rfl rfl k0 ?_
  refine wp_iconst (v := 1) rfl (by decide) ?_
  refine wp_stk rfl rfl rfl ?_
  refine wp_putI rfl rfl (Or.inl rfl) rfl (fun h9 => by cases h9) k0 ?_
  refine wp_loc rfl rfl ?_
  exact wp_callV (av := [.ref x0]) rfl rfl rfl (by decide) rfl rfl rfl hm hc w
set_option maxRecDepth 20000 in
theorem b280_57 {n : Nat} {h : q_Hp} {Q : Option Value → q_Hp → Prop} {x0 : Nat} {x1 : Int32} {x2 : Int32} {x3 : Int32} {l4 : Option Value} {m : Nat} {P : Int32 → q_Hp → Prop} (hc : q_mI m 249 [.ref x0, .int 16] h P) (hm : m ≤ n) (w : ∀ (z : Int32) (h1 : q_Hp), P z h1 → q_wp (n + 1) 280 65 [some (.ref x0), some (.int x1), some (.int 0), some (.int x3), l4] [.int z] h1 Q) : q_wp (n + 1) 280 57 [some (.ref x0), some (.int x1), some (.int x2), some (.int x3), l4] [] h Q := by
  refine wp_iconst (v := 0) rfl (by decide) ?_
  refine wp_loc rfl rfl ?_
  refine wp_loc rfl rfl ?_
  refine wp_bipush (v := 16) rfl (by decide) ?_
  exact wp_callI (av := [.ref x0, .int 16]) rfl rfl rfl (by decide) rfl rfl rfl hm hc w
set_option maxRecDepth 20000 in
theorem b280_65 {n : Nat} {h : q_Hp} {Q : Option Value → q_Hp → Prop} {x0 : Nat} {x1 : Int32} {x2 : Int32} {x3 : Int32} {l4 : Option Value} {s0 : Int32} (wt : s0 = 0 → q_wp n 280 102 [some (.ref x0), some (.int x1), some (.int x2), some (.int x3), l4] [] h Q) (wf : ¬ s0 = 0 → q_wp n 280 68 [some (.ref x0), some (.int x1), some (.int x2), some (.int x3), l4] [] h Q) : q_wp n 280 65 [some (.ref x0), some (.int x1), some (.int x2), some (.int x3), l4] [.int s0] h Q := by
  exact wp_ifeq (tgt := 102) rfl (by decide) wt wf
set_option maxRecDepth 20000 in
theorem b280_68 {n : Nat} {h : q_Hp} {Q : Option Value → q_Hp → Prop} {x0 : Nat} {x1 : Int32} {x2 : Int32} {x3 : Int32} {l4 : Option Value} {m : Nat} {P : q_Hp → Prop} (hc : q_mV m 254 [.ref x0] h P) (hm : m ≤ n) (w : ∀ h1 : q_Hp, P h1 → q_wp (n + 1) 280 72 [some (.ref x0), some (.int x1), some (.int x2), some (.int x3), l4] [] h1 Q) : q_wp (n + 1) 280 68 [some (.ref x0), some (.int x1), some (.int x2), some (.int x3), l4] [] h Q := by
  refine wp_loc rfl rfl ?_
  exact wp_callV (av := [.ref x0]) rfl rfl rfl (by decide) rfl rfl rfl hm hc w
set_option maxRecDepth 20000 in
theorem b280_72 {n : Nat} {h : q_Hp} {Q : Option Value → q_Hp → Prop} {x0 : Nat} {x1 : Int32} {x2 : Int32} {x3 : Int32} {l4 : Option Value} {m : Nat} {P : q_Hp → Prop} (hc : q_mV m 252 [.ref x0] h P) (hm : m ≤ n) (w : ∀ h1 : q_Hp, P h1 → q_wp (n + 1) 280 76 [some (.ref x0), some (.int x1), some (.int x2), some (.int x3), l4] [] h1 Q) : q_wp (n + 1) 280 72 [some (.ref x0), some (.int x1), some (.int x2), some (.int x3), l4] [] h Q := by
  refine wp_loc rfl rfl ?_
  exact wp_callV (av := [.ref x0]) rfl rfl rfl (by decide) rfl rfl rfl hm hc w
set_option maxRecDepth 20000 in
theorem b280_76 {n : Nat} {h : q_Hp} {Q : Option Value → q_Hp → Prop} {x0 : Nat} {x1 : Int32} {x2 : Int32} {x3 : Int32} {l4 : Option Value} {v0 : Nat} (k0 : q_ok h x0 12) (e0 : qR h x0 79 = v0) (k1 : q_ok h v0 20) (i0 : q_in (qI h x0 78) (qK h v0).2) (w : q_wp n 280 9 [some (.ref x0), some (.int x1), some (.int 1), some (.int x3), l4] [] (q_sI (q_sA h v0 ((qI h x0 78 : Int32).toNatClampNeg) 16) x0 78 ((qI h x0 78) + 1)) Q) : q_wp n 280 76 [some (.ref x0), some (.int x1), some (.int x2), some (.int x3), l4] [] h Q := by
  refine wp_loc rfl rfl ?_
  refine wp_getR rfl rfl rfl rfl k0 e0 ?_
  refine wp_loc rfl rfl ?_
  refine wp_getI rfl rfl rfl k0 ?_
  refine wp_bipush (v := 16) rfl (by decide) ?_
  refine wp_iast rfl k1 i0 ?_
  refine wp_loc rfl rfl ?_
  refine wp_stk rfl rfl rfl ?_
  refine wp_getI rfl rfl rfl k0 ?_
  refine wp_iconst (v := 1) rfl (by decide) ?_
  refine wp_stk rfl rfl rfl ?_
  refine wp_putI rfl rfl (Or.inl rfl) rfl (fun h9 => by cases h9) k0 ?_
  refine wp_iconst (v := 1) rfl (by decide) ?_
  refine wp_loc rfl rfl ?_
  refine wp_goto (tgt := 9) rfl (by decide) ?_
  exact w
set_option maxRecDepth 20000 in
theorem b280_102 {n : Nat} {h : q_Hp} {Q : Option Value → q_Hp → Prop} {x0 : Nat} {x1 : Int32} {x2 : Int32} {x3 : Int32} {l4 : Option Value} {m : Nat} {P : q_Hp → Prop} (hc : q_mV m 282 [.ref x0, .int x1] h P) (hm : m ≤ n) (w : ∀ h1 : q_Hp, P h1 → q_wp (n + 1) 280 107 [some (.ref x0), some (.int x1), some (.int x2), some (.int x3), l4] [] h1 Q) : q_wp (n + 1) 280 102 [some (.ref x0), some (.int x1), some (.int x2), some (.int x3), l4] [] h Q := by
  refine wp_loc rfl rfl ?_
  refine wp_loc rfl rfl ?_
  exact wp_callV (av := [.ref x0, .int x1]) rfl rfl rfl (by decide) rfl rfl rfl hm hc w
set_option maxRecDepth 20000 in
theorem b280_107 {n : Nat} {h : q_Hp} {Q : Option Value → q_Hp → Prop} {x0 : Nat} {x1 : Int32} {x2 : Int32} {x3 : Int32} {l4 : Option Value} (w : q_wp n 280 110 [some (.ref x0), some (.int x1), some (.int x2), some (.int x3), some (.int 1)] [] h Q) : q_wp n 280 107 [some (.ref x0), some (.int x1), some (.int x2), some (.int x3), l4] [] h Q := by
  refine wp_iconst (v := 1) rfl (by decide) ?_
  refine wp_loc rfl rfl ?_
  exact w
set_option maxRecDepth 20000 in
theorem b280_110 {n : Nat} {h : q_Hp} {Q : Option Value → q_Hp → Prop} {x0 : Nat} {x1 : Int32} {x2 : Int32} {x3 : Int32} {x4 : Int32} (wt : x4 = 0 → q_wp n 280 244 [some (.ref x0), some (.int x1), some (.int x2), some (.int x3), some (.int x4)] [] h Q) (wf : ¬ x4 = 0 → q_wp n 280 115 [some (.ref x0), some (.int x1), some (.int x2), some (.int x3), some (.int x4)] [] h Q) : q_wp n 280 110 [some (.ref x0), some (.int x1), some (.int x2), some (.int x3), some (.int x4)] [] h Q := by
  refine wp_loc rfl rfl ?_
  exact wp_ifeq (tgt := 244) rfl (by decide) wt wf
set_option maxRecDepth 20000 in
theorem b280_115 {n : Nat} {h : q_Hp} {Q : Option Value → q_Hp → Prop} {x0 : Nat} {x1 : Int32} {x2 : Int32} {x3 : Int32} {x4 : Int32} (k0 : q_ok h x0 12) (wt : ¬ (qI h x0 13) = 0 → q_wp n 280 244 [some (.ref x0), some (.int x1), some (.int x2), some (.int x3), some (.int x4)] [] h Q) (wf : (qI h x0 13) = 0 → q_wp n 280 122 [some (.ref x0), some (.int x1), some (.int x2), some (.int x3), some (.int x4)] [] h Q) : q_wp n 280 115 [some (.ref x0), some (.int x1), some (.int x2), some (.int x3), some (.int x4)] [] h Q := by
  refine wp_loc rfl rfl ?_
  refine wp_getI rfl rfl rfl k0 ?_
  exact wp_ifne (tgt := 244) rfl (by decide) wt wf
set_option maxRecDepth 20000 in
theorem b280_122 {n : Nat} {h : q_Hp} {Q : Option Value → q_Hp → Prop} {x0 : Nat} {x1 : Int32} {x2 : Int32} {x3 : Int32} {x4 : Int32} {m : Nat} {P : Int32 → q_Hp → Prop} (hc : q_mI m 249 [.ref x0, .int 15] h P) (hm : m ≤ n) (w : ∀ (z : Int32) (h1 : q_Hp), P z h1 → q_wp (n + 1) 280 131 [some (.ref x0), some (.int x1), some (.int x2), some (.int x3), some (.int 0)] [.int z] h1 Q) : q_wp (n + 1) 280 122 [some (.ref x0), some (.int x1), some (.int x2), some (.int x3), some (.int x4)] [] h Q := by
  refine wp_iconst (v := 0) rfl (by decide) ?_
  refine wp_loc rfl rfl ?_
  refine wp_loc rfl rfl ?_
  refine wp_bipush (v := 15) rfl (by decide) ?_
  exact wp_callI (av := [.ref x0, .int 15]) rfl rfl rfl (by decide) rfl rfl rfl hm hc w
set_option maxRecDepth 20000 in
theorem b280_131 {n : Nat} {h : q_Hp} {Q : Option Value → q_Hp → Prop} {x0 : Nat} {x1 : Int32} {x2 : Int32} {x3 : Int32} {x4 : Int32} {s0 : Int32} (wt : s0 = 0 → q_wp n 280 148 [some (.ref x0), some (.int x1), some (.int x2), some (.int x3), some (.int x4)] [] h Q) (wf : ¬ s0 = 0 → q_wp n 280 134 [some (.ref x0), some (.int x1), some (.int x2), some (.int x3), some (.int x4)] [] h Q) : q_wp n 280 131 [some (.ref x0), some (.int x1), some (.int x2), some (.int x3), some (.int x4)] [.int s0] h Q := by
  exact wp_ifeq (tgt := 148) rfl (by decide) wt wf
set_option maxRecDepth 20000 in
theorem b280_134 {n : Nat} {h : q_Hp} {Q : Option Value → q_Hp → Prop} {x0 : Nat} {x1 : Int32} {x2 : Int32} {x3 : Int32} {x4 : Int32} {m : Nat} {P : q_Hp → Prop} (hc : q_mV m 279 [.ref x0, .int 2] h P) (hm : m ≤ n) (w : ∀ h1 : q_Hp, P h1 → q_wp (n + 1) 280 139 [some (.ref x0), some (.int x1), some (.int x2), some (.int x3), some (.int x4)] [] h1 Q) : q_wp (n + 1) 280 134 [some (.ref x0), some (.int x1), some (.int x2), some (.int x3), some (.int x4)] [] h Q := by
  refine wp_loc rfl rfl ?_
  refine wp_iconst (v := 2) rfl (by decide) ?_
  exact wp_callV (av := [.ref x0, .int 2]) rfl rfl rfl (by decide) rfl rfl rfl hm hc w
set_option maxRecDepth 20000 in
theorem b280_139 {n : Nat} {h : q_Hp} {Q : Option Value → q_Hp → Prop} {x0 : Nat} {x1 : Int32} {x2 : Int32} {x3 : Int32} {x4 : Int32} {m : Nat} {P : q_Hp → Prop} (hc : q_mV m 281 [.ref x0, .int 15] h P) (hm : m ≤ n) (w : ∀ h1 : q_Hp, P h1 → q_wp (n + 1) 280 145 [some (.ref x0), some (.int x1), some (.int x2), some (.int x3), some (.int x4)] [] h1 Q) : q_wp (n + 1) 280 139 [some (.ref x0), some (.int x1), some (.int x2), some (.int x3), some (.int x4)] [] h Q := by
  refine wp_loc rfl rfl ?_
  refine wp_bipush (v := 15) rfl (by decide) ?_
  exact wp_callV (av := [.ref x0, .int 15]) rfl rfl rfl (by decide) rfl rfl rfl hm hc w
set_option maxRecDepth 20000 in
theorem b280_145 {n : Nat} {h : q_Hp} {Q : Option Value → q_Hp → Prop} {x0 : Nat} {x1 : Int32} {x2 : Int32} {x3 : Int32} {x4 : Int32} (w : q_wp n 280 110 [some (.ref x0), some (.int x1), some (.int x2), some (.int x3), some (.int x4)] [] h Q) : q_wp n 280 145 [some (.ref x0), some (.int x1), some (.int x2), some (.int x3), some (.int x4)] [] h Q := by
  refine wp_goto (tgt := 110) rfl (by decide) ?_
  exact w
set_option maxRecDepth 20000 in
theorem b280_148 {n : Nat} {h : q_Hp} {Q : Option Value → q_Hp → Prop} {x0 : Nat} {x1 : Int32} {x2 : Int32} {x3 : Int32} {x4 : Int32} {m : Nat} {P : Int32 → q_Hp → Prop} (hc : q_mI m 249 [.ref x0, .int 13] h P) (hm : m ≤ n) (w : ∀ (z : Int32) (h1 : q_Hp), P z h1 → q_wp (n + 1) 280 154 [some (.ref x0), some (.int x1), some (.int x2), some (.int x3), some (.int x4)] [.int z] h1 Q) : q_wp (n + 1) 280 148 [some (.ref x0), some (.int x1), some (.int x2), some (.int x3), some (.int x4)] [] h Q := by
  refine wp_loc rfl rfl ?_
  refine wp_bipush (v := 13) rfl (by decide) ?_
  exact wp_callI (av := [.ref x0, .int 13]) rfl rfl rfl (by decide) rfl rfl rfl hm hc w
set_option maxRecDepth 20000 in
theorem b280_154 {n : Nat} {h : q_Hp} {Q : Option Value → q_Hp → Prop} {x0 : Nat} {x1 : Int32} {x2 : Int32} {x3 : Int32} {x4 : Int32} {s0 : Int32} (wt : ¬ s0 = 0 → q_wp n 280 166 [some (.ref x0), some (.int x1), some (.int x2), some (.int x3), some (.int x4)] [] h Q) (wf : s0 = 0 → q_wp n 280 157 [some (.ref x0), some (.int x1), some (.int x2), some (.int x3), some (.int x4)] [] h Q) : q_wp n 280 154 [some (.ref x0), some (.int x1), some (.int x2), some (.int x3), some (.int x4)] [.int s0] h Q := by
  exact wp_ifne (tgt := 166) rfl (by decide) wt wf
set_option maxRecDepth 20000 in
theorem b280_157 {n : Nat} {h : q_Hp} {Q : Option Value → q_Hp → Prop} {x0 : Nat} {x1 : Int32} {x2 : Int32} {x3 : Int32} {x4 : Int32} {m : Nat} {P : Int32 → q_Hp → Prop} (hc : q_mI m 249 [.ref x0, .int 14] h P) (hm : m ≤ n) (w : ∀ (z : Int32) (h1 : q_Hp), P z h1 → q_wp (n + 1) 280 163 [some (.ref x0), some (.int x1), some (.int x2), some (.int x3), some (.int x4)] [.int z] h1 Q) : q_wp (n + 1) 280 157 [some (.ref x0), some (.int x1), some (.int x2), some (.int x3), some (.int x4)] [] h Q := by
  refine wp_loc rfl rfl ?_
  refine wp_bipush (v := 14) rfl (by decide) ?_
  exact wp_callI (av := [.ref x0, .int 14]) rfl rfl rfl (by decide) rfl rfl rfl hm hc w
set_option maxRecDepth 20000 in
theorem b280_163 {n : Nat} {h : q_Hp} {Q : Option Value → q_Hp → Prop} {x0 : Nat} {x1 : Int32} {x2 : Int32} {x3 : Int32} {x4 : Int32} {s0 : Int32} (wt : s0 = 0 → q_wp n 280 187 [some (.ref x0), some (.int x1), some (.int x2), some (.int x3), some (.int x4)] [] h Q) (wf : ¬ s0 = 0 → q_wp n 280 166 [some (.ref x0), some (.int x1), some (.int x2), some (.int x3), some (.int x4)] [] h Q) : q_wp n 280 163 [some (.ref x0), some (.int x1), some (.int x2), some (.int x3), some (.int x4)] [.int s0] h Q := by
  exact wp_ifeq (tgt := 187) rfl (by decide) wt wf
set_option maxRecDepth 20000 in
theorem b280_166 {n : Nat} {h : q_Hp} {Q : Option Value → q_Hp → Prop} {x0 : Nat} {x1 : Int32} {x2 : Int32} {x3 : Int32} {x4 : Int32} {m : Nat} {P : q_Hp → Prop} (hc : q_mV m 279 [.ref x0, .int 1] h P) (hm : m ≤ n) (w : ∀ h1 : q_Hp, P h1 → q_wp (n + 1) 280 171 [some (.ref x0), some (.int x1), some (.int x2), some (.int x3), some (.int x4)] [] h1 Q) : q_wp (n + 1) 280 166 [some (.ref x0), some (.int x1), some (.int x2), some (.int x3), some (.int x4)] [] h Q := by
  refine wp_loc rfl rfl ?_
  refine wp_iconst (v := 1) rfl (by decide) ?_
  exact wp_callV (av := [.ref x0, .int 1]) rfl rfl rfl (by decide) rfl rfl rfl hm hc w
set_option maxRecDepth 20000 in
theorem b280_171 {n : Nat} {h : q_Hp} {Q : Option Value → q_Hp → Prop} {x0 : Nat} {x1 : Int32} {x2 : Int32} {x3 : Int32} {x4 : Int32} {v0 : Nat} (k0 : q_ok h x0 12) (e0 : qR h x0 5 = v0) (k1 : q_ok h v0 20) (i0 : q_in (qI h x0 11) (qK h v0).2) {m : Nat} {P : q_Hp → Prop} (hc : q_mV m 281 [.ref x0, .int (qA h v0 ((qI h x0 11 : Int32).toNatClampNeg))] h P) (hm : m ≤ n) (w : ∀ h1 : q_Hp, P h1 → q_wp (n + 1) 280 184 [some (.ref x0), some (.int x1), some (.int x2), some (.int x3), some (.int x4)] [] h1 Q) : q_wp (n + 1) 280 171 [some (.ref x0), some (.int x1), some (.int x2), some (.int x3), some (.int x4)] [] h Q := by
  refine wp_loc rfl rfl ?_
  refine wp_loc rfl rfl ?_
  refine wp_getR rfl rfl rfl rfl k0 e0 ?_
  refine wp_loc rfl rfl ?_
  refine wp_getI rfl rfl rfl k0 ?_
  refine wp_iald rfl k1 i0 ?_
  exact wp_callV (av := [.ref x0, .int (qA h v0 ((qI h x0 11 : Int32).toNatClampNeg))]) rfl rfl rfl (by decide) rfl rfl rfl hm hc w
set_option maxRecDepth 20000 in
theorem b280_184 {n : Nat} {h : q_Hp} {Q : Option Value → q_Hp → Prop} {x0 : Nat} {x1 : Int32} {x2 : Int32} {x3 : Int32} {x4 : Int32} (w : q_wp n 280 110 [some (.ref x0), some (.int x1), some (.int x2), some (.int x3), some (.int x4)] [] h Q) : q_wp n 280 184 [some (.ref x0), some (.int x1), some (.int x2), some (.int x3), some (.int x4)] [] h Q := by
  refine wp_goto (tgt := 110) rfl (by decide) ?_
  exact w
set_option maxRecDepth 20000 in
theorem b280_187 {n : Nat} {h : q_Hp} {Q : Option Value → q_Hp → Prop} {x0 : Nat} {x1 : Int32} {x2 : Int32} {x3 : Int32} {x4 : Int32} {m : Nat} {P : q_Hp → Prop} (hc : q_mV m 279 [.ref x0, .int 1] h P) (hm : m ≤ n) (w : ∀ h1 : q_Hp, P h1 → q_wp (n + 1) 280 192 [some (.ref x0), some (.int x1), some (.int x2), some (.int x3), some (.int x4)] [] h1 Q) : q_wp (n + 1) 280 187 [some (.ref x0), some (.int x1), some (.int x2), some (.int x3), some (.int x4)] [] h Q := by
  refine wp_loc rfl rfl ?_
  refine wp_iconst (v := 1) rfl (by decide) ?_
  exact wp_callV (av := [.ref x0, .int 1]) rfl rfl rfl (by decide) rfl rfl rfl hm hc w
set_option maxRecDepth 20000 in
theorem b280_192 {n : Nat} {h : q_Hp} {Q : Option Value → q_Hp → Prop} {x0 : Nat} {x1 : Int32} {x2 : Int32} {x3 : Int32} {x4 : Int32} (k0 : q_ok h x0 12) (wt : (qI h x0 78) ≤ 0 → q_wp n 280 203 [some (.ref x0), some (.int x1), some (.int x2), some (.int x3), some (.int x4)] [] h Q) (wf : ¬ (qI h x0 78) ≤ 0 → q_wp n 280 199 [some (.ref x0), some (.int x1), some (.int x2), some (.int x3), some (.int x4)] [] h Q) : q_wp n 280 192 [some (.ref x0), some (.int x1), some (.int x2), some (.int x3), some (.int x4)] [] h Q := by
  refine wp_loc rfl rfl ?_
  refine wp_getI rfl rfl rfl k0 ?_
  exact wp_ifle (tgt := 203) rfl (by decide) wt wf
set_option maxRecDepth 20000 in
theorem b280_199 {n : Nat} {h : q_Hp} {Q : Option Value → q_Hp → Prop} {x0 : Nat} {x1 : Int32} {x2 : Int32} {x3 : Int32} {x4 : Int32} (w : q_wp n 280 204 [some (.ref x0), some (.int x1), some (.int x2), some (.int x3), some (.int x4)] [.int 1] h Q) : q_wp n 280 199 [some (.ref x0), some (.int x1), some (.int x2), some (.int x3), some (.int x4)] [] h Q := by
  refine wp_iconst (v := 1) rfl (by decide) ?_
  refine wp_goto (tgt := 204) rfl (by decide) ?_
  exact w
set_option maxRecDepth 20000 in
theorem b280_203 {n : Nat} {h : q_Hp} {Q : Option Value → q_Hp → Prop} {x0 : Nat} {x1 : Int32} {x2 : Int32} {x3 : Int32} {x4 : Int32} (w : q_wp n 280 204 [some (.ref x0), some (.int x1), some (.int x2), some (.int x3), some (.int x4)] [.int 0] h Q) : q_wp n 280 203 [some (.ref x0), some (.int x1), some (.int x2), some (.int x3), some (.int x4)] [] h Q := by
  refine wp_iconst (v := 0) rfl (by decide) ?_
  exact w
set_option maxRecDepth 20000 in
theorem b280_204 {n : Nat} {h : q_Hp} {Q : Option Value → q_Hp → Prop} {x0 : Nat} {x1 : Int32} {x2 : Int32} {x3 : Int32} {x4 : Int32} {s0 : Int32} (wt : ¬ s0 = 0 → q_wp n 280 212 [some (.ref x0), some (.int x1), some (.int x2), some (.int s0), some (.int x4)] [] h Q) (wf : s0 = 0 → q_wp n 280 209 [some (.ref x0), some (.int x1), some (.int x2), some (.int s0), some (.int x4)] [] h Q) : q_wp n 280 204 [some (.ref x0), some (.int x1), some (.int x2), some (.int x3), some (.int x4)] [.int s0] h Q := by
  refine wp_loc rfl rfl ?_
  refine wp_loc rfl rfl ?_
  exact wp_ifne (tgt := 212) rfl (by decide) wt wf
set_option maxRecDepth 20000 in
theorem b280_209 {n : Nat} {h : q_Hp} {Q : Option Value → q_Hp → Prop} {x0 : Nat} {x1 : Int32} {x2 : Int32} {x3 : Int32} {x4 : Int32} (w : q_wp n 280 244 [some (.ref x0), some (.int x1), some (.int x2), some (.int x3), some (.int x4)] [] h Q) : q_wp n 280 209 [some (.ref x0), some (.int x1), some (.int x2), some (.int x3), some (.int x4)] [] h Q := by
  refine wp_goto (tgt := 244) rfl (by decide) ?_
  exact w
set_option maxRecDepth 20000 in
theorem b280_212 {n : Nat} {h : q_Hp} {Q : Option Value → q_Hp → Prop} {x0 : Nat} {x1 : Int32} {x2 : Int32} {x3 : Int32} {x4 : Int32} {m : Nat} {P : q_Hp → Prop} (hc : q_mV m 253 [.ref x0, .int 17] h P) (hm : m ≤ n) (w : ∀ h1 : q_Hp, P h1 → q_wp (n + 1) 280 218 [some (.ref x0), some (.int x1), some (.int x2), some (.int x3), some (.int x4)] [] h1 Q) : q_wp (n + 1) 280 212 [some (.ref x0), some (.int x1), some (.int x2), some (.int x3), some (.int x4)] [] h Q := by
  refine wp_loc rfl rfl ?_
  refine wp_bipush (v := 17) rfl (by decide) ?_
  exact wp_callV (av := [.ref x0, .int 17]) rfl rfl rfl (by decide) rfl rfl rfl hm hc w
set_option maxRecDepth 20000 in
theorem b280_218 {n : Nat} {h : q_Hp} {Q : Option Value → q_Hp → Prop} {x0 : Nat} {x1 : Int32} {x2 : Int32} {x3 : Int32} {x4 : Int32} (k0 : q_ok h x0 12) (w : q_wp n 280 110 [some (.ref x0), some (.int x1), some (.int x2), some (.int x3), some (.int 1)] [] (q_sI (q_sI h x0 78 ((qI h x0 78) - 1)) x0 12 ((qI (q_sI h x0 78 ((qI h x0 78) - 1)) x0 12) - 1)) Q) : q_wp n 280 218 [some (.ref x0), some (.int x1), some (.int x2), some (.int x3), some (.int x4)] [] h Q := by
  refine wp_loc rfl rfl ?_
  refine wp_stk rfl rfl rfl ?_
  refine wp_getI rfl rfl rfl k0 ?_
  refine wp_iconst (v := 1) rfl (by decide) ?_
  refine wp_stk rfl rfl rfl ?_
  refine wp_putI rfl rfl (Or.inl rfl) rfl (fun h9 => by cases h9) k0 ?_
  refine wp_loc rfl rfl ?_
  refine wp_stk rfl rfl rfl ?_
  refine wp_getI rfl rfl rfl k0 ?_
  refine wp_iconst (v := 1) rfl (by decide) ?_
  refine wp_stk rfl rfl rfl ?_
  refine wp_putI rfl rfl (Or.inl rfl) rfl (fun h9 => by cases h9) k0 ?_
  refine wp_iconst (v := 1) rfl (by decide) ?_
  refine wp_loc rfl rfl ?_
  refine wp_goto (tgt := 110) rfl (by decide) ?_
  exact w
set_option maxRecDepth 20000 in
theorem b280_244 {n : Nat} {h : q_Hp} {Q : Option Value → q_Hp → Prop} {x0 : Nat} {x1 : Int32} {x2 : Int32} {x3 : Int32} {x4 : Int32} (w : q_wp n 280 9 [some (.ref x0), some (.int x1), some (.int x2), some (.int x3), some (.int x4)] [] h Q) : q_wp n 280 244 [some (.ref x0), some (.int x1), some (.int x2), some (.int x3), some (.int x4)] [] h Q := by
  refine wp_goto (tgt := 9) rfl (by decide) ?_
  exact w
set_option maxRecDepth 20000 in
theorem b280_247 {n : Nat} {h : q_Hp} {Q : Option Value → q_Hp → Prop} {x0 : Nat} {x1 : Int32} {x2 : Int32} {x3 : Int32} {l4 : Option Value} (q : Q none h) : q_wp n 280 247 [some (.ref x0), some (.int x1), some (.int x2), some (.int x3), l4] [] h Q := by
  exact wp_ret rfl rfl q
theorem b281_0 {n : Nat} {h : q_Hp} {Q : Option Value → q_Hp → Prop} {x0 : Nat} {x1 : Int32} {v0 : Nat} (k0 : q_ok h x0 12) (e0 : qR h x0 79 = v0) (k1 : q_ok h v0 20) (i0 : q_in (qI h x0 78) (qK h v0).2) {m : Nat} {P : q_Hp → Prop} (hc : q_mV m 252 [.ref x0] (q_sI (q_sA h v0 ((qI h x0 78 : Int32).toNatClampNeg) x1) x0 78 ((qI h x0 78) + 1)) P) (hm : m ≤ n) (w : ∀ h1 : q_Hp, P h1 → q_wp (n + 1) 281 24 [some (.ref x0), some (.int x1)] [] h1 Q) : q_wp (n + 1) 281 0 [some (.ref x0), some (.int x1)] [] h Q := by
  refine wp_loc rfl rfl ?_
  refine wp_getR rfl rfl rfl rfl k0 e0 ?_
  refine wp_loc rfl rfl ?_
  refine wp_getI rfl rfl rfl k0 ?_
  refine wp_loc rfl rfl ?_
  refine wp_iast rfl k1 i0 ?_
  refine wp_loc rfl rfl ?_
  refine wp_stk rfl rfl rfl ?_
  refine wp_getI rfl rfl rfl k0 ?_
  refine wp_iconst (v := 1) rfl (by decide) ?_
  refine wp_stk rfl rfl rfl ?_
  refine wp_putI rfl rfl (Or.inl rfl) rfl (fun h9 => by cases h9) k0 ?_
  refine wp_loc rfl rfl ?_
  exact wp_callV (av := [.ref x0]) rfl rfl rfl (by decide) rfl rfl rfl hm hc w
theorem b281_24 {n : Nat} {h : q_Hp} {Q : Option Value → q_Hp → Prop} {x0 : Nat} {x1 : Int32} (q : Q none h) : q_wp n 281 24 [some (.ref x0), some (.int x1)] [] h Q := by
  exact wp_ret rfl rfl q
theorem b282_0 {n : Nat} {h : q_Hp} {Q : Option Value → q_Hp → Prop} {x0 : Nat} {x1 : Int32} {m : Nat} {P : Int32 → q_Hp → Prop} (hc : q_mI m 249 [.ref x0, .int 2] h P) (hm : m ≤ n) (w : ∀ (z : Int32) (h1 : q_Hp), P z h1 → q_wp (n + 1) 282 5 [some (.ref x0), some (.int x1), none, none, none, none] [.int z] h1 Q) : q_wp (n + 1) 282 0 [some (.ref x0), some (.int x1), none, none, none, none] [] h Q := by
  refine wp_loc rfl rfl ?_
  refine wp_iconst (v := 2) rfl (by decide) ?_
  exact wp_callI (av := [.ref x0, .int 2]) rfl rfl rfl (by decide) rfl rfl rfl hm hc w
theorem b282_5 {n : Nat} {h : q_Hp} {Q : Option Value → q_Hp → Prop} {x0 : Nat} {x1 : Int32} {s0 : Int32} (wt : s0 = 0 → q_wp n 282 28 [some (.ref x0), some (.int x1), none, none, none, none] [] h Q) (wf : ¬ s0 = 0 → q_wp n 282 8 [some (.ref x0), some (.int x1), none, none, none, none] [] h Q) : q_wp n 282 5 [some (.ref x0), some (.int x1), none, none, none, none] [.int s0] h Q := by
  exact wp_ifeq (tgt := 28) rfl (by decide) wt wf
theorem b282_8 {n : Nat} {h : q_Hp} {Q : Option Value → q_Hp → Prop} {x0 : Nat} {x1 : Int32} {v0 : Nat} (k0 : q_ok h x0 12) (e0 : qR h x0 7 = v0) (k1 : q_ok h v0 20) (i0 : q_in (qI h x0 11) (qK h v0).2) {m : Nat} {P : q_Hp → Prop} (hc : q_mV m 277 [.ref x0, .int 0, .int (qA h v0 ((qI h x0 11 : Int32).toNatClampNeg)), .int 0] h P) (hm : m ≤ n) (w : ∀ h1 : q_Hp, P h1 → q_wp (n + 1) 282 23 [some (.ref x0), some (.int x1), none, none, none, none] [] h1 Q) : q_wp (n + 1) 282 8 [some (.ref x0), some (.int x1), none, none, none, none] [] h Q := by
  refine wp_loc rfl rfl ?_
  refine wp_iconst (v := 0) rfl (by decide) ?_
  refine wp_loc rfl rfl ?_
  refine wp_getR rfl rfl rfl rfl k0 e0 ?_
  refine wp_loc rfl rfl ?_
  refine wp_getI rfl rfl rfl k0 ?_
  refine wp_iald rfl k1 i0 ?_
  refine wp_iconst (v := 0) rfl (by decide) ?_
  exact wp_callV (av := [.ref x0, .int 0, .int (qA h v0 ((qI h x0 11 : Int32).toNatClampNeg)), .int 0]) rfl rfl rfl (by decide) rfl rfl rfl hm hc w
theorem b282_23 {n : Nat} {h : q_Hp} {Q : Option Value → q_Hp → Prop} {x0 : Nat} {x1 : Int32} {m : Nat} {P : q_Hp → Prop} (hc : q_mV m 252 [.ref x0] h P) (hm : m ≤ n) (w : ∀ h1 : q_Hp, P h1 → q_wp (n + 1) 282 27 [some (.ref x0), some (.int x1), none, none, none, none] [] h1 Q) : q_wp (n + 1) 282 23 [some (.ref x0), some (.int x1), none, none, none, none] [] h Q := by
  refine wp_loc rfl rfl ?_
  exact wp_callV (av := [.ref x0]) rfl rfl rfl (by decide) rfl rfl rfl hm hc w
theorem b282_27 {n : Nat} {h : q_Hp} {Q : Option Value → q_Hp → Prop} {x0 : Nat} {x1 : Int32} (q : Q none h) : q_wp n 282 27 [some (.ref x0), some (.int x1), none, none, none, none] [] h Q := by
  exact wp_ret rfl rfl q
theorem b282_28 {n : Nat} {h : q_Hp} {Q : Option Value → q_Hp → Prop} {x0 : Nat} {x1 : Int32} (k0 : q_ok h x0 12) {m : Nat} {P : q_Hp → Prop} (hc : q_mV m 253 [.ref x0, .int 1] h P) (hm : m ≤ n) (w : ∀ h1 : q_Hp, P h1 → q_wp (n + 1) 282 38 [some (.ref x0), some (.int x1), some (.int (qI h x0 11)), none, none, none] [] h1 Q) : q_wp (n + 1) 282 28 [some (.ref x0), some (.int x1), none, none, none, none] [] h Q := by
  refine wp_loc rfl rfl ?_
  refine wp_getI rfl rfl rfl k0 ?_
  refine wp_loc rfl rfl ?_
  refine wp_loc rfl rfl ?_
  refine wp_iconst (v := 1) rfl (by decide) ?_
  exact wp_callV (av := [.ref x0, .int 1]) rfl rfl rfl (by decide) rfl rfl rfl hm hc w
theorem b282_38 {n : Nat} {h : q_Hp} {Q : Option Value → q_Hp → Prop} {x0 : Nat} {x1 : Int32} {x2 : Int32} {m : Nat} {P : q_Hp → Prop} (hc : q_mV m 253 [.ref x0, .int 6] h P) (hm : m ≤ n) (w : ∀ h1 : q_Hp, P h1 → q_wp (n + 1) 282 44 [some (.ref x0), some (.int x1), some (.int x2), none, none, none] [] h1 Q) : q_wp (n + 1) 282 38 [some (.ref x0), some (.int x1), some (.int x2), none, none, none] [] h Q := by
  refine wp_loc rfl rfl ?_
  refine wp_bipush (v := 6) rfl (by decide) ?_
  exact wp_callV (av := [.ref x0, .int 6]) rfl rfl rfl (by decide) rfl rfl rfl hm hc w
theorem b282_44 {n : Nat} {h : q_Hp} {Q : Option Value → q_Hp → Prop} {x0 : Nat} {x1 : Int32} {x2 : Int32} (k0 : q_ok h x0 12) {m : Nat} {P : q_Hp → Prop} (hc : q_mV m 253 [.ref x0, .int 2] h P) (hm : m ≤ n) (w : ∀ h1 : q_Hp, P h1 → q_wp (n + 1) 282 54 [some (.ref x0), some (.int x1), some (.int x2), some (.int (qI h x0 11)), none, none] [] h1 Q) : q_wp (n + 1) 282 44 [some (.ref x0), some (.int x1), some (.int x2), none, none, none] [] h Q := by
  refine wp_loc rfl rfl ?_
  refine wp_getI rfl rfl rfl k0 ?_
  refine wp_loc rfl rfl ?_
  refine wp_loc rfl rfl ?_
  refine wp_iconst (v := 2) rfl (by decide) ?_
  exact wp_callV (av := [.ref x0, .int 2]) rfl rfl rfl (by decide) rfl rfl rfl hm hc w
theorem b282_54 {n : Nat} {h : q_Hp} {Q : Option Value → q_Hp → Prop} {x0 : Nat} {x1 : Int32} {x2 : Int32} {x3 : Int32} (k0 : q_ok h x0 12) (wt : (qI h x0 13) ≤ 0 → q_wp n 282 62 [some (.ref x0), some (.int x1), some (.int x2), some (.int x3), none, none] [] h Q) (wf : ¬ (qI h x0 13) ≤ 0 → q_wp n 282 61 [some (.ref x0), some (.int x1), some (.int x2), some (.int x3), none, none] [] h Q) : q_wp n 282 54 [some (.ref x0), some (.int x1), some (.int x2), some (.int x3), none, none] [] h Q := by
  refine wp_loc rfl rfl ?_
  refine wp_getI rfl rfl rfl k0 ?_
  exact wp_ifle (tgt := 62) rfl (by decide) wt wf
theorem b282_61 {n : Nat} {h : q_Hp} {Q : Option Value → q_Hp → Prop} {x0 : Nat} {x1 : Int32} {x2 : Int32} {x3 : Int32} (q : Q none h) : q_wp n 282 61 [some (.ref x0), some (.int x1), some (.int x2), some (.int x3), none, none] [] h Q := by
  exact wp_ret rfl rfl q
theorem b282_62 {n : Nat} {h : q_Hp} {Q : Option Value → q_Hp → Prop} {x0 : Nat} {x1 : Int32} {x2 : Int32} {x3 : Int32} {m : Nat} {P : Int32 → q_Hp → Prop} (hc : q_mI m 257 [.ref x0, .int x2] h P) (hm : m ≤ n) (w : ∀ (z : Int32) (h1 : q_Hp), P z h1 → q_wp (n + 1) 282 67 [some (.ref x0), some (.int x1), some (.int x2), some (.int x3), none, none] [.int z] h1 Q) : q_wp (n + 1) 282 62 [some (.ref x0), some (.int x1), some (.int x2), some (.int x3), none, none] [] h Q := by
  refine wp_loc rfl rfl ?_
  refine wp_loc rfl rfl ?_
  exact wp_callI (av := [.ref x0, .int x2]) rfl rfl rfl (by decide) rfl rfl rfl hm hc w
theorem b282_67 {n : Nat} {h : q_Hp} {Q : Option Value → q_Hp → Prop} {x0 : Nat} {x1 : Int32} {x2 : Int32} {x3 : Int32} {s0 : Int32} (wt : s0 = (-1) → q_wp n 282 103 [some (.ref x0), some (.int x1), some (.int x2), some (.int x3), some (.int s0), none] [] h Q) (wf : ¬ s0 = (-1) → q_wp n 282 75 [some (.ref x0), some (.int x1), some (.int x2), some (.int x3), some (.int s0), none] [] h Q) : q_wp n 282 67 [some (.ref x0), some (.int x1), some (.int x2), some (.int x3), none, none] [.int s0] h Q := by
  refine wp_loc rfl rfl ?_
  refine wp_loc rfl rfl ?_
  refine wp_iconst (v := (-1)) rfl (by decide) ?_
  exact wp_iceq (tgt := 103) rfl (by decide) wt wf
theorem b282_75 {n : Nat} {h : q_Hp} {Q : Option Value → q_Hp → Prop} {x0 : Nat} {x1 : Int32} {x2 : Int32} {x3 : Int32} {x4 : Int32} {v0 : Nat} (k0 : q_ok h x0 12) (e0 : qR h x0 70 = v0) (k1 : q_ok h v0 20) (i0 : q_in x4 (qK h v0).2) (wt : ¬ (qA h v0 x4.toNatClampNeg) = 0 → q_wp n 282 103 [some (.ref x0), some (.int x1), some (.int x2), some (.int x3), some (.int x4), none] [] h Q) (wf : (qA h v0 x4.toNatClampNeg) = 0 → q_wp n 282 85 [some (.ref x0), some (.int x1), some (.int x2), some (.int x3), some (.int x4), none] [] h Q) : q_wp n 282 75 [some (.ref x0), some (.int x1), some (.int x2), some (.int x3), some (.int x4), none] [] h Q := by
  refine wp_loc rfl rfl ?_
  refine wp_getR rfl rfl rfl rfl k0 e0 ?_
  refine wp_loc rfl rfl ?_
  refine wp_iald rfl k1 i0 ?_
  exact wp_ifne (tgt := 103) rfl (by decide) wt wf
theorem b282_85 {n : Nat} {h : q_Hp} {Q : Option Value → q_Hp → Prop} {x0 : Nat} {x1 : Int32} {x2 : Int32} {x3 : Int32} {x4 : Int32} (wt : x1 = 0 → q_wp n 282 99 [some (.ref x0), some (.int x1), some (.int x2), some (.int x3), some (.int x4), none] [] h Q) (wf : ¬ x1 = 0 → q_wp n 282 89 [some (.ref x0), some (.int x1), some (.int x2), some (.int x3), some (.int x4), none] [] h Q) : q_wp n 282 85 [some (.ref x0), some (.int x1), some (.int x2), some (.int x3), some (.int x4), none] [] h Q := by
  refine wp_loc rfl rfl ?_
  exact wp_ifeq (tgt := 99) rfl (by decide) wt wf
theorem b282_89 {n : Nat} {h : q_Hp} {Q : Option Value → q_Hp → Prop} {x0 : Nat} {x1 : Int32} {x2 : Int32} {x3 : Int32} {x4 : Int32} {v0 : Nat} (k0 : q_ok h x0 12) (e0 : qR h x0 73 = v0) (b2 : q_ok h v0 22 ∨ q_ok h v0 23) (i0 : q_in x4 (qK h v0).2) (wt : ¬ (qA h v0 x4.toNatClampNeg) = 0 → q_wp n 282 103 [some (.ref x0), some (.int x1), some (.int x2), some (.int x3), some (.int x4), none] [] h Q) (wf : (qA h v0 x4.toNatClampNeg) = 0 → q_wp n 282 99 [some (.ref x0), some (.int x1), some (.int x2), some (.int x3), some (.int x4), none] [] h Q) : q_wp n 282 89 [some (.ref x0), some (.int x1), some (.int x2), some (.int x3), some (.int x4), none] [] h Q := by
  refine wp_loc rfl rfl ?_
  refine wp_getR rfl rfl rfl rfl k0 e0 ?_
  refine wp_loc rfl rfl ?_
  refine wp_bald rfl b2 i0 ?_
  exact wp_ifne (tgt := 103) rfl (by decide) wt wf
theorem b282_99 {n : Nat} {h : q_Hp} {Q : Option Value → q_Hp → Prop} {x0 : Nat} {x1 : Int32} {x2 : Int32} {x3 : Int32} {x4 : Int32} (w : q_wp n 282 104 [some (.ref x0), some (.int x1), some (.int x2), some (.int x3), some (.int x4), none] [.int 1] h Q) : q_wp n 282 99 [some (.ref x0), some (.int x1), some (.int x2), some (.int x3), some (.int x4), none] [] h Q := by
  refine wp_iconst (v := 1) rfl (by decide) ?_
  refine wp_goto (tgt := 104) rfl (by decide) ?_
  exact w
theorem b282_103 {n : Nat} {h : q_Hp} {Q : Option Value → q_Hp → Prop} {x0 : Nat} {x1 : Int32} {x2 : Int32} {x3 : Int32} {x4 : Int32} (w : q_wp n 282 104 [some (.ref x0), some (.int x1), some (.int x2), some (.int x3), some (.int x4), none] [.int 0] h Q) : q_wp n 282 103 [some (.ref x0), some (.int x1), some (.int x2), some (.int x3), some (.int x4), none] [] h Q := by
  refine wp_iconst (v := 0) rfl (by decide) ?_
  exact w
theorem b282_104 {n : Nat} {h : q_Hp} {Q : Option Value → q_Hp → Prop} {x0 : Nat} {x1 : Int32} {x2 : Int32} {x3 : Int32} {x4 : Int32} {s0 : Int32} (wt : ¬ s0 = 0 → q_wp n 282 117 [some (.ref x0), some (.int x1), some (.int x2), some (.int x3), some (.int x4), some (.int s0)] [] h Q) (wf : s0 = 0 → q_wp n 282 111 [some (.ref x0), some (.int x1), some (.int x2), some (.int x3), some (.int x4), some (.int s0)] [] h Q) : q_wp n 282 104 [some (.ref x0), some (.int x1), some (.int x2), some (.int x3), some (.int x4), none] [.int s0] h Q := by
  refine wp_loc rfl rfl ?_
  refine wp_loc rfl rfl ?_
  exact wp_ifne (tgt := 117) rfl (by decide) wt wf
theorem b282_111 {n : Nat} {h : q_Hp} {Q : Option Value → q_Hp → Prop} {x0 : Nat} {x1 : Int32} {x2 : Int32} {x3 : Int32} {x4 : Int32} {x5 : Int32} {m : Nat} {P : q_Hp → Prop} (hc : q_mV m 251 [.ref x0, .int 4, .int x2] h P) (hm : m ≤ n) (w : ∀ h1 : q_Hp, P h1 → q_wp (n + 1) 282 117 [some (.ref x0), some (.int x1), some (.int x2), some (.int x3), some (.int x4), some (.int x5)] [] h1 Q) : q_wp (n + 1) 282 111 [some (.ref x0), some (.int x1), some (.int x2), some (.int x3), some (.int x4), some (.int x5)] [] h Q := by
  refine wp_loc rfl rfl ?_
  refine wp_iconst (v := 4) rfl (by decide) ?_
  refine wp_loc rfl rfl ?_
  exact wp_callV (av := [.ref x0, .int 4, .int x2]) rfl rfl rfl (by decide) rfl rfl rfl hm hc w
theorem b282_117 {n : Nat} {h : q_Hp} {Q : Option Value → q_Hp → Prop} {x0 : Nat} {x1 : Int32} {x2 : Int32} {x3 : Int32} {x4 : Int32} {x5 : Int32} {v0 : Nat} (k0 : q_ok h x0 12) (e0 : qR h x0 7 = v0) (k1 : q_ok h v0 20) (i0 : q_in x3 (qK h v0).2) (wt : (qA h v0 x3.toNatClampNeg) ≤ 1 → q_wp n 282 133 [some (.ref x0), some (.int x1), some (.int x2), some (.int x3), some (.int x4), some (.int x5)] [] h Q) (wf : ¬ (qA h v0 x3.toNatClampNeg) ≤ 1 → q_wp n 282 127 [some (.ref x0), some (.int x1), some (.int x2), some (.int x3), some (.int x4), some (.int x5)] [] h Q) : q_wp n 282 117 [some (.ref x0), some (.int x1), some (.int x2), some (.int x3), some (.int x4), some (.int x5)] [] h Q := by
  refine wp_loc rfl rfl ?_
  refine wp_getR rfl rfl rfl rfl k0 e0 ?_
  refine wp_loc rfl rfl ?_
  refine wp_iald rfl k1 i0 ?_
  refine wp_iconst (v := 1) rfl (by decide) ?_
  exact wp_icle (tgt := 133) rfl (by decide) wt wf
theorem b282_127 {n : Nat} {h : q_Hp} {Q : Option Value → q_Hp → Prop} {x0 : Nat} {x1 : Int32} {x2 : Int32} {x3 : Int32} {x4 : Int32} {x5 : Int32} {m : Nat} {P : q_Hp → Prop} (hc : q_mV m 251 [.ref x0, .int 5, .int x3] h P) (hm : m ≤ n) (w : ∀ h1 : q_Hp, P h1 → q_wp (n + 1) 282 133 [some (.ref x0), some (.int x1), some (.int x2), some (.int x3), some (.int x4), some (.int x5)] [] h1 Q) : q_wp (n + 1) 282 127 [some (.ref x0), some (.int x1), some (.int x2), some (.int x3), some (.int x4), some (.int x5)] [] h Q := by
  refine wp_loc rfl rfl ?_
  refine wp_iconst (v := 5) rfl (by decide) ?_
  refine wp_loc rfl rfl ?_
  exact wp_callV (av := [.ref x0, .int 5, .int x3]) rfl rfl rfl (by decide) rfl rfl rfl hm hc w
theorem b282_133 {n : Nat} {h : q_Hp} {Q : Option Value → q_Hp → Prop} {x0 : Nat} {x1 : Int32} {x2 : Int32} {x3 : Int32} {x4 : Int32} {x5 : Int32} (wt : x5 = 0 → q_wp n 282 150 [some (.ref x0), some (.int x1), some (.int x2), some (.int x3), some (.int x4), some (.int x5)] [.int 1, .ref x0] h Q) (wf : ¬ x5 = 0 → q_wp n 282 140 [some (.ref x0), some (.int x1), some (.int x2), some (.int x3), some (.int x4), some (.int x5)] [.int 1, .ref x0] h Q) : q_wp n 282 133 [some (.ref x0), some (.int x1), some (.int x2), some (.int x3), some (.int x4), some (.int x5)] [] h Q := by
  refine wp_loc rfl rfl ?_
  refine wp_iconst (v := 1) rfl (by decide) ?_
  refine wp_loc rfl rfl ?_
  exact wp_ifeq (tgt := 150) rfl (by decide) wt wf
theorem b282_140 {n : Nat} {h : q_Hp} {Q : Option Value → q_Hp → Prop} {x0 : Nat} {x1 : Int32} {x2 : Int32} {x3 : Int32} {x4 : Int32} {x5 : Int32} {s0 : Int32} {s1 : Nat} {v0 : Nat} (k0 : q_ok h x0 12) (e0 : qR h x0 71 = v0) (k1 : q_ok h v0 20) (i0 : q_in x4 (qK h v0).2) (w : q_wp n 282 151 [some (.ref x0), some (.int x1), some (.int x2), some (.int x3), some (.int x4), some (.int x5)] [.int (qA h v0 x4.toNatClampNeg), .int s0, .ref s1] h Q) : q_wp n 282 140 [some (.ref x0), some (.int x1), some (.int x2), some (.int x3), some (.int x4), some (.int x5)] [.int s0, .ref s1] h Q := by
  refine wp_loc rfl rfl ?_
  refine wp_getR rfl rfl rfl rfl k0 e0 ?_
  refine wp_loc rfl rfl ?_
  refine wp_iald rfl k1 i0 ?_
  refine wp_goto (tgt := 151) rfl (by decide) ?_
  exact w
theorem b282_150 {n : Nat} {h : q_Hp} {Q : Option Value → q_Hp → Prop} {x0 : Nat} {x1 : Int32} {x2 : Int32} {x3 : Int32} {x4 : Int32} {x5 : Int32} {s0 : Int32} {s1 : Nat} (w : q_wp n 282 151 [some (.ref x0), some (.int x1), some (.int x2), some (.int x3), some (.int x4), some (.int x5)] [.int 0, .int s0, .ref s1] h Q) : q_wp n 282 150 [some (.ref x0), some (.int x1), some (.int x2), some (.int x3), some (.int x4), some (.int x5)] [.int s0, .ref s1] h Q := by
  refine wp_iconst (v := 0) rfl (by decide) ?_
  exact w
theorem b282_151 {n : Nat} {h : q_Hp} {Q : Option Value → q_Hp → Prop} {x0 : Nat} {x1 : Int32} {x2 : Int32} {x3 : Int32} {x4 : Int32} {x5 : Int32} {s0 : Int32} {s1 : Int32} {s2 : Nat} {v0 : Nat} (k0 : q_ok h x0 12) (e0 : qR h x0 7 = v0) (k1 : q_ok h v0 20) (i0 : q_in x3 (qK h v0).2) {m : Nat} {P : q_Hp → Prop} (hc : q_mV m 277 [.ref s2, .int s1, .int s0, .int (qA h v0 x3.toNatClampNeg)] h P) (hm : m ≤ n) (w : ∀ h1 : q_Hp, P h1 → q_wp (n + 1) 282 160 [some (.ref x0), some (.int x1), some (.int x2), some (.int x3), some (.int x4), some (.int x5)] [] h1 Q) : q_wp (n + 1) 282 151 [some (.ref x0), some (.int x1), some (.int x2), some (.int x3), some (.int x4), some (.int x5)] [.int s0, .int s1, .ref s2] h Q := by
  refine wp_loc rfl rfl ?_
  refine wp_getR rfl rfl rfl rfl k0 e0 ?_
  refine wp_loc rfl rfl ?_
  refine wp_iald rfl k1 i0 ?_
  exact wp_callV (av := [.ref s2, .int s1, .int s0, .int (qA h v0 x3.toNatClampNeg)]) rfl rfl rfl (by decide) rfl rfl rfl hm hc w
theorem b282_160 {n : Nat} {h : q_Hp} {Q : Option Value → q_Hp → Prop} {x0 : Nat} {x1 : Int32} {x2 : Int32} {x3 : Int32} {x4 : Int32} {x5 : Int32} (q : Q none h) : q_wp n 282 160 [some (.ref x0), some (.int x1), some (.int x2), some (.int x3), some (.int x4), some (.int x5)] [] h Q := by
  exact wp_ret rfl rfl q
theorem b283_0 {n : Nat} {h : q_Hp} {Q : Option Value → q_Hp → Prop} {x0 : Nat} {x1 : Int32} {v0 : Nat} {v1 : Nat} {v2 : Nat} (k0 : q_ok h x0 12) (e0 : qR h x0 59 = v0) (k1 : q_ok h v0 20) (i0 : q_in (qI h x0 23) (qK h v0).2) (e1 : qR h x0 60 = v1) (k2 : q_ok h v1 20) (i1 : q_in (qI h x0 23) (qK h v1).2) (e2 : qR h x0 62 = v2) (k3 : q_ok h v2 20) (i2 : q_in (qI h x0 23) (qK h v2).2) (w : q_wp n 283 38 [some (.ref x0), some (.int x1), some (.int (qI h x0 23)), some (.int 0)] [] (q_sA (q_sA (q_sA (q_sI h x0 23 ((qI h x0 23) + 1)) v0 ((qI h x0 23 : Int32).toNatClampNeg) x1) v1 ((qI h x0 23 : Int32).toNatClampNeg) 0) v2 ((qI h x0 23 : Int32).toNatClampNeg) (-1)) Q) : q_wp n 283 0 [some (.ref x0), some (.int x1), none, none] [] h Q := by
  refine wp_loc rfl rfl ?_
  refine wp_getI rfl rfl rfl k0 ?_
  refine wp_loc rfl rfl ?_
  refine wp_loc rfl rfl ?_
  refine wp_stk rfl rfl rfl ?_
  refine wp_getI rfl rfl rfl k0 ?_
  refine wp_iconst (v := 1) rfl (by decide) ?_
  refine wp_stk rfl rfl rfl ?_
  refine wp_putI rfl rfl (Or.inl rfl) rfl (fun h9 => by cases h9) k0 ?_
  refine wp_loc rfl rfl ?_
  refine wp_getR rfl rfl rfl rfl k0 e0 ?_
  refine wp_loc rfl rfl ?_
  refine wp_loc rfl rfl ?_
  refine wp_iast rfl k1 i0 ?_
  refine wp_loc rfl rfl ?_
  refine wp_getR rfl rfl rfl rfl k0 e1 ?_
  refine wp_loc rfl rfl ?_
  refine wp_iconst (v := 0) rfl (by decide) ?_
  refine wp_iast rfl k2 i1 ?_
  refine wp_loc rfl rfl ?_
  refine wp_getR rfl rfl rfl rfl k0 e2 ?_
  refine wp_loc rfl rfl ?_
  refine wp_iconst (v := (-1)) rfl (by decide) ?_
  refine wp_iast rfl k3 i2 ?_
  refine wp_iconst (v := 0) rfl (by decide) ?_
  refine wp_loc rfl rfl ?_
  exact w
theorem b283_38 {n : Nat} {h : q_Hp} {Q : Option Value → q_Hp → Prop} {x0 : Nat} {x1 : Int32} {x2 : Int32} {x3 : Int32} (wt : 3 ≤ x3 → q_wp n 283 60 [some (.ref x0), some (.int x1), some (.int x2), some (.int x3)] [] h Q) (wf : ¬ 3 ≤ x3 → q_wp n 283 43 [some (.ref x0), some (.int x1), some (.int x2), some (.int x3)] [] h Q) : q_wp n 283 38 [some (.ref x0), some (.int x1), some (.int x2), some (.int x3)] [] h Q := by
  refine wp_loc rfl rfl ?_
  refine wp_iconst (v := 3) rfl (by decide) ?_
  exact wp_icge (tgt := 60) rfl (by decide) wt wf
theorem b283_43 {n : Nat} {h : q_Hp} {Q : Option Value → q_Hp → Prop} {x0 : Nat} {x1 : Int32} {x2 : Int32} {x3 : Int32} {v0 : Nat} (k0 : q_ok h x0 12) (e0 : qR h x0 61 = v0) (k1 : q_ok h v0 20) (i0 : q_in ((3 * x2) + x3) (qK h v0).2) (w : q_wp n 283 38 [some (.ref x0), some (.int x1), some (.int x2), some (.int (x3 + 1))] [] (q_sA h v0 (((3 * x2) + x3 : Int32).toNatClampNeg) (-1)) Q) : q_wp n 283 43 [some (.ref x0), some (.int x1), some (.int x2), some (.int x3)] [] h Q := by
  refine wp_loc rfl rfl ?_
  refine wp_getR rfl rfl rfl rfl k0 e0 ?_
  refine wp_iconst (v := 3) rfl (by decide) ?_
  refine wp_loc rfl rfl ?_
  refine wp_stk rfl rfl rfl ?_
  refine wp_loc rfl rfl ?_
  refine wp_stk rfl rfl rfl ?_
  refine wp_iconst (v := (-1)) rfl (by decide) ?_
  refine wp_iast rfl k1 i0 ?_
  refine wp_iinc (v := 1) rfl rfl (by decide) rfl ?_
  refine wp_goto (tgt := 38) rfl (by decide) ?_
  exact w
theorem b283_60 {n : Nat} {h : q_Hp} {Q : Option Value → q_Hp → Prop} {x0 : Nat} {x1 : Int32} {x2 : Int32} {x3 : Int32} (q : Q (some (.int x2)) h) : q_wp n 283 60 [some (.ref x0), some (.int x1), some (.int x2), some (.int x3)] [] h Q := by
  refine wp_loc rfl rfl ?_
  exact wp_ret rfl rfl q
theorem b284_0 {n : Nat} {h : q_Hp} {Q : Option Value → q_Hp → Prop} {x0 : Nat} {x1 : Int32} {v0 : Nat} (k0 : q_ok h x0 12) (e0 : qR h x0 83 = v0) (k1 : q_ok h v0 20) (i0 : q_in (qI h x0 80) (qK h v0).2) (wt : (qA h v0 ((qI h x0 80 : Int32).toNatClampNeg)) = (-1) → q_wp n 284 31 [some (.ref x0), some (.int x1)] [] h Q) (wf : ¬ (qA h v0 ((qI h x0 80 : Int32).toNatClampNeg)) = (-1) → q_wp n 284 13 [some (.ref x0), some (.int x1)] [] h Q) : q_wp n 284 0 [some (.ref x0), some (.int x1)] [] h Q := by
  refine wp_loc rfl rfl ?_
  refine wp_getR rfl rfl rfl rfl k0 e0 ?_
  refine wp_loc rfl rfl ?_
  refine wp_getI rfl rfl rfl k0 ?_
  refine wp_iald rfl k1 i0 ?_
  refine wp_iconst (v := (-1)) rfl (by decide) ?_
  exact wp_iceq (tgt := 31) rfl (by decide) wt wf
theorem b284_13 {n : Nat} {h : q_Hp} {Q : Option Value → q_Hp → Prop} {x0 : Nat} {x1 : Int32} {v0 : Nat} {v1 : Nat} (k0 : q_ok h x0 12) (e0 : qR h x0 62 = v0) (e1 : qR h x0 83 = v1) (k1 : q_ok h v1 20) (i0 : q_in (qI h x0 80) (qK h v1).2) (k2 : q_ok h v0 20) (i1 : q_in (qA h v1 ((qI h x0 80 : Int32).toNatClampNeg)) (qK h v0).2) (w : q_wp n 284 81 [some (.ref x0), some (.int x1)] [] (q_sA h v0 ((qA h v1 ((qI h x0 80 : Int32).toNatClampNeg) : Int32).toNatClampNeg) x1) Q) : q_wp n 284 13 [some (.ref x0), some (.int x1)] [] h Q := by
  refine wp_loc rfl rfl ?_
  refine wp_getR rfl rfl rfl rfl k0 e0 ?_
  refine wp_loc rfl rfl ?_
  refine wp_getR rfl rfl rfl rfl k0 e1 ?_
  refine wp_loc rfl rfl ?_
  refine wp_getI rfl rfl rfl k0 ?_
  refine wp_iald rfl k1 i0 ?_
  refine wp_loc rfl rfl ?_
  refine wp_iast rfl k2 i1 ?_
  refine wp_goto (tgt := 81) rfl (by decide) ?_
  exact w
theorem b284_31 {n : Nat} {h : q_Hp} {Q : Option Value → q_Hp → Prop} {x0 : Nat} {x1 : Int32} (k0 : q_ok h x0 12) (wt : ¬ (qI h x0 80) = 0 → q_wp n 284 54 [some (.ref x0), some (.int x1)] [] h Q) (wf : (qI h x0 80) = 0 → q_wp n 284 38 [some (.ref x0), some (.int x1)] [] h Q) : q_wp n 284 31 [some (.ref x0), some (.int x1)] [] h Q := by
  refine wp_loc rfl rfl ?_
  refine wp_getI rfl rfl rfl k0 ?_
  exact wp_ifne (tgt := 54) rfl (by decide) wt wf
theorem b284_38 {n : Nat} {h : q_Hp} {Q : Option Value → q_Hp → Prop} {x0 : Nat} {x1 : Int32} {v0 : Nat} (k0 : q_ok h x0 12) (e0 : qR h x0 63 = v0) (k1 : q_ok h v0 20) (i0 : q_in (10 + (qI h x0 21)) (qK h v0).2) (w : q_wp n 284 81 [some (.ref x0), some (.int x1)] [] (q_sA h v0 ((10 + (qI h x0 21) : Int32).toNatClampNeg) x1) Q) : q_wp n 284 38 [some (.ref x0), some (.int x1)] [] h Q := by
  refine wp_loc rfl rfl ?_
  refine wp_getR rfl rfl rfl rfl k0 e0 ?_
  refine wp_bipush (v := 10) rfl (by decide) ?_
  refine wp_loc rfl rfl ?_
  refine wp_getI rfl rfl rfl k0 ?_
  refine wp_stk rfl rfl rfl ?_
  refine wp_loc rfl rfl ?_
  refine wp_iast rfl k1 i0 ?_
  refine wp_goto (tgt := 81) rfl (by decide) ?_
  exact w
theorem b284_54 {n : Nat} {h : q_Hp} {Q : Option Value → q_Hp → Prop} {x0 : Nat} {x1 : Int32} {v0 : Nat} {v1 : Nat} {v2 : Nat} (k0 : q_ok h x0 12) (e0 : qR h x0 61 = v0) (e1 : qR h x0 81 = v1) (k1 : q_ok h v1 20) (i0 : q_in (qI h x0 80) (qK h v1).2) (e2 : qR h x0 82 = v2) (k2 : q_ok h v2 20) (i1 : q_in (qI h x0 80) (qK h v2).2) (k3 : q_ok h v0 20) (i2 : q_in ((3 * (qA h v1 ((qI h x0 80 : Int32).toNatClampNeg))) + (qA h v2 ((qI h x0 80 : Int32).toNatClampNeg))) (qK h v0).2) (w : q_wp n 284 81 [some (.ref x0), some (.int x1)] [] (q_sA h v0 (((3 * (qA h v1 ((qI h x0 80 : Int32).toNatClampNeg))) + (qA h v2 ((qI h x0 80 : Int32).toNatClampNeg)) : Int32).toNatClampNeg) x1) Q) : q_wp n 284 54 [some (.ref x0), some (.int x1)] [] h Q := by
  refine wp_loc rfl rfl ?_
  refine wp_getR rfl rfl rfl rfl k0 e0 ?_
  refine wp_iconst (v := 3) rfl (by decide) ?_
  refine wp_loc rfl rfl ?_
  refine wp_getR rfl rfl rfl rfl k0 e1 ?_
  refine wp_loc rfl rfl ?_
  refine wp_getI rfl rfl rfl k0 ?_
  refine wp_iald rfl k1 i0 ?_
  refine wp_stk rfl rfl rfl ?_
  refine wp_loc rfl rfl ?_
  refine wp_getR rfl rfl rfl rfl k0 e2 ?_
  refine wp_loc rfl rfl ?_
  refine wp_getI rfl rfl rfl k0 ?_
  refine wp_iald rfl k2 i1 ?_
  refine wp_stk rfl rfl rfl ?_
  refine wp_loc rfl rfl ?_
  refine wp_iast rfl k3 i2 ?_
  exact w
theorem b284_81 {n : Nat} {h : q_Hp} {Q : Option Value → q_Hp → Prop} {x0 : Nat} {x1 : Int32} {v0 : Nat} (k0 : q_ok h x0 12) (e0 : qR h x0 83 = v0) (k1 : q_ok h v0 20) (i0 : q_in (qI h x0 80) (qK h v0).2) (q : Q none (q_sA h v0 ((qI h x0 80 : Int32).toNatClampNeg) x1)) : q_wp n 284 81 [some (.ref x0), some (.int x1)] [] h Q := by
  refine wp_loc rfl rfl ?_
  refine wp_getR rfl rfl rfl rfl k0 e0 ?_
  refine wp_loc rfl rfl ?_
  refine wp_getI rfl rfl rfl k0 ?_
  refine wp_loc rfl rfl ?_
  refine wp_iast rfl k1 i0 ?_
  exact wp_ret rfl rfl q
theorem b285_0 {n : Nat} {h : q_Hp} {Q : Option Value → q_Hp → Prop} {x0 : Nat} {x1 : Int32} {v0 : Nat} {v1 : Nat} (k0 : q_ok h x0 12) (e0 : qR h x0 85 = v0) (k1 : q_ok h v0 20) (i0 : q_in (qI h x0 84) (qK h v0).2) (e1 : qR h x0 86 = v1) (k2 : q_ok h v1 20) (i1 : q_in (qI h x0 84) (qK h v1).2) {m : Nat} {P : q_Hp → Prop} (hc : q_mV m 253 [.ref x0, .int 1] (q_sA (q_sA h v0 ((qI h x0 84 : Int32).toNatClampNeg) (qI h x0 11)) v1 ((qI h x0 84 : Int32).toNatClampNeg) x1) P) (hm : m ≤ n) (w : ∀ h1 : q_Hp, P h1 → q_wp (n + 1) 285 28 [some (.ref x0), some (.int x1)] [] h1 Q) : q_wp (n + 1) 285 0 [some (.ref x0), some (.int x1)] [] h Q := by
  refine wp_loc rfl rfl ?_
  refine wp_getR rfl rfl rfl rfl k0 e0 ?_
  refine wp_loc rfl rfl ?_
  refine wp_getI rfl rfl rfl k0 ?_
  refine wp_loc rfl rfl ?_
  refine wp_getI rfl rfl rfl k0 ?_
  refine wp_iast rfl k1 i0 ?_
  refine wp_loc rfl rfl ?_
  refine wp_getR rfl rfl rfl rfl k0 e1 ?_
  refine wp_loc rfl rfl ?_
  refine wp_getI rfl rfl rfl k0 ?_
  refine wp_loc rfl rfl ?_
  refine wp_iast rfl k2 i1 ?_
  refine wp_loc rfl rfl ?_
  refine wp_iconst (v := 1) rfl (by decide) ?_
  exact wp_callV (av := [.ref x0, .int 1]) rfl rfl rfl (by decide) rfl rfl rfl hm hc w
theorem b285_28 {n : Nat} {h : q_Hp} {Q : Option Value → q_Hp → Prop} {x0 : Nat} {x1 : Int32} (k0 : q_ok h x0 12) (wt : ¬ (qI h x0 13) = 0 → q_wp n 285 45 [some (.ref x0), some (.int x1)] [] h Q) (wf : (qI h x0 13) = 0 → q_wp n 285 35 [some (.ref x0), some (.int x1)] [] h Q) : q_wp n 285 28 [some (.ref x0), some (.int x1)] [] h Q := by
  refine wp_loc rfl rfl ?_
  refine wp_getI rfl rfl rfl k0 ?_
  exact wp_ifne (tgt := 45) rfl (by decide) wt wf
theorem b285_35 {n : Nat} {h : q_Hp} {Q : Option Value → q_Hp → Prop} {x0 : Nat} {x1 : Int32} (k0 : q_ok h x0 12) (w : q_wp n 285 45 [some (.ref x0), some (.int x1)] [] (q_sI h x0 84 ((qI h x0 84) + 1)) Q) : q_wp n 285 35 [some (.ref x0), some (.int x1)] [] h Q := by
  refine wp_loc rfl rfl ?_
  refine wp_stk rfl rfl rfl ?_
  refine wp_getI rfl rfl rfl k0 ?_
  refine wp_iconst (v := 1) rfl (by decide) ?_
  refine wp_stk rfl rfl rfl ?_
  refine wp_putI rfl rfl (Or.inl rfl) rfl (fun h9 => by cases h9) k0 ?_
  exact w
theorem b285_45 {n : Nat} {h : q_Hp} {Q : Option Value → q_Hp → Prop} {x0 : Nat} {x1 : Int32} (q : Q none h) : q_wp n 285 45 [some (.ref x0), some (.int x1)] [] h Q := by
  exact wp_ret rfl rfl q
theorem b286_0 {n : Nat} {h : q_Hp} {Q : Option Value → q_Hp → Prop} {x0 : Nat} {m : Nat} {P : q_Hp → Prop} (hc : q_mV m 252 [.ref x0] h P) (hm : m ≤ n) (w : ∀ h1 : q_Hp, P h1 → q_wp (n + 1) 286 4 [some (.ref x0), none, none] [] h1 Q) : q_wp (n + 1) 286 0 [some (.ref x0), none, none] [] h Q := by
  refine wp_loc rfl rfl ?_
  exact wp_callV (av := [.ref x0]) rfl rfl rfl (by decide) rfl rfl rfl hm hc w
theorem b286_4 {n : Nat} {h : q_Hp} {Q : Option Value → q_Hp → Prop} {x0 : Nat} (k0 : q_ok h x0 12) {m : Nat} {P : Int32 → q_Hp → Prop} (hc : q_mI m 249 [.ref x0, .int 1] h P) (hm : m ≤ n) (w : ∀ (z : Int32) (h1 : q_Hp), P z h1 → q_wp (n + 1) 286 14 [some (.ref x0), some (.int (qI h x0 11)), none] [.int z] h1 Q) : q_wp (n + 1) 286 4 [some (.ref x0), none, none] [] h Q := by
  refine wp_loc rfl rfl ?_
  refine wp_getI rfl rfl rfl k0 ?_
  refine wp_loc rfl rfl ?_
  refine wp_loc rfl rfl ?_
  refine wp_iconst (v := 1) rfl (by decide) ?_
  exact wp_callI (av := [.ref x0, .int 1]) rfl rfl rfl (by decide) rfl rfl rfl hm hc w
theorem b286_14 {n : Nat} {h : q_Hp} {Q : Option Value → q_Hp → Prop} {x0 : Nat} {x1 : Int32} {s0 : Int32} (wt : s0 = 0 → q_wp n 286 31 [some (.ref x0), some (.int x1), none] [] h Q) (wf : ¬ s0 = 0 → q_wp n 286 17 [some (.ref x0), some (.int x1), none] [] h Q) : q_wp n 286 14 [some (.ref x0), some (.int x1), none] [.int s0] h Q := by
  exact wp_ifeq (tgt := 31) rfl (by decide) wt wf
theorem b286_17 {n : Nat} {h : q_Hp} {Q : Option Value → q_Hp → Prop} {x0 : Nat} {x1 : Int32} (k0 : q_ok h x0 12) (wt : ¬ (qI h x0 21) = 10 → q_wp n 286 31 [some (.ref x0), some (.int x1), none] [] h Q) (wf : (qI h x0 21) = 10 → q_wp n 286 26 [some (.ref x0), some (.int x1), none] [] h Q) : q_wp n 286 17 [some (.ref x0), some (.int x1), none] [] h Q := by
  refine wp_loc rfl rfl ?_
  refine wp_getI rfl rfl rfl k0 ?_
  refine wp_bipush (v := 10) rfl (by decide) ?_
  exact wp_icne (tgt := 31) rfl (by decide) wt wf
theorem b286_26 {n : Nat} {h : q_Hp} {Q : Option Value → q_Hp → Prop} {x0 : Nat} {x1 : Int32} {m : Nat} {P : q_Hp → Prop} (hc : q_mV m 250 [.ref x0, .int 2] h P) (hm : m ≤ n) (w : ∀ h1 : q_Hp, P h1 → q_wp (n + 1) 286 31 [some (.ref x0), some (.int x1), none] [] h1 Q) : q_wp (n + 1) 286 26 [some (.ref x0), some (.int x1), none] [] h Q := by
  refine wp_loc rfl rfl ?_
  refine wp_iconst (v := 2) rfl (by decide) ?_
  exact wp_callV (av := [.ref x0, .int 2]) rfl rfl rfl (by decide) rfl rfl rfl hm hc w
theorem b286_31 {n : Nat} {h : q_Hp} {Q : Option Value → q_Hp → Prop} {x0 : Nat} {x1 : Int32} {m : Nat} {P : q_Hp → Prop} (hc : q_mV m 253 [.ref x0, .int 1] h P) (hm : m ≤ n) (w : ∀ h1 : q_Hp, P h1 → q_wp (n + 1) 286 36 [some (.ref x0), some (.int x1), none] [] h1 Q) : q_wp (n + 1) 286 31 [some (.ref x0), some (.int x1), none] [] h Q := by
  refine wp_loc rfl rfl ?_
  refine wp_iconst (v := 1) rfl (by decide) ?_
  exact wp_callV (av := [.ref x0, .int 1]) rfl rfl rfl (by decide) rfl rfl rfl hm hc w
theorem b286_36 {n : Nat} {h : q_Hp} {Q : Option Value → q_Hp → Prop} {x0 : Nat} {x1 : Int32} (k0 : q_ok h x0 12) (wt : (qI h x0 13) ≤ 0 → q_wp n 286 44 [some (.ref x0), some (.int x1), none] [] h Q) (wf : ¬ (qI h x0 13) ≤ 0 → q_wp n 286 43 [some (.ref x0), some (.int x1), none] [] h Q) : q_wp n 286 36 [some (.ref x0), some (.int x1), none] [] h Q := by
  refine wp_loc rfl rfl ?_
  refine wp_getI rfl rfl rfl k0 ?_
  exact wp_ifle (tgt := 44) rfl (by decide) wt wf
theorem b286_43 {n : Nat} {h : q_Hp} {Q : Option Value → q_Hp → Prop} {x0 : Nat} {x1 : Int32} (q : Q none h) : q_wp n 286 43 [some (.ref x0), some (.int x1), none] [] h Q := by
  exact wp_ret rfl rfl q
theorem b286_44 {n : Nat} {h : q_Hp} {Q : Option Value → q_Hp → Prop} {x0 : Nat} {x1 : Int32} {m : Nat} {P : q_Hp → Prop} (hc : q_mV m 264 [.ref x0, .int x1] h P) (hm : m ≤ n) (w : ∀ h1 : q_Hp, P h1 → q_wp (n + 1) 286 49 [some (.ref x0), some (.int x1), none] [] h1 Q) : q_wp (n + 1) 286 44 [some (.ref x0), some (.int x1), none] [] h Q := by
  refine wp_loc rfl rfl ?_
  refine wp_loc rfl rfl ?_
  exact wp_callV (av := [.ref x0, .int x1]) rfl rfl rfl (by decide) rfl rfl rfl hm hc w
theorem b286_49 {n : Nat} {h : q_Hp} {Q : Option Value → q_Hp → Prop} {x0 : Nat} {x1 : Int32} {v0 : Nat} {v1 : Nat} (k0 : q_ok h x0 12) (e0 : qR h x0 63 = v0) (k1 : q_ok h v0 20) (i0 : q_in (10 + (qI h x0 21)) (qK h v0).2) (e1 : qR h x0 83 = v1) (k2 : q_ok h v1 20) (i1 : q_in 0 (qK h v1).2) (w : q_wp n 286 76 [some (.ref x0), some (.int x1), some (.int 1)] [] (q_sA (q_sI (q_sA h v0 ((10 + (qI h x0 21) : Int32).toNatClampNeg) (-1)) x0 80 0) v1 ((0 : Int32).toNatClampNeg) (-1)) Q) : q_wp n 286 49 [some (.ref x0), some (.int x1), none] [] h Q := by
  refine wp_loc rfl rfl ?_
  refine wp_getR rfl rfl rfl rfl k0 e0 ?_
  refine wp_bipush (v := 10) rfl (by decide) ?_
  refine wp_loc rfl rfl ?_
  refine wp_getI rfl rfl rfl k0 ?_
  refine wp_stk rfl rfl rfl ?_
  refine wp_iconst (v := (-1)) rfl (by decide) ?_
  refine wp_iast rfl k1 i0 ?_
  refine wp_loc rfl rfl ?_
  refine wp_iconst (v := 0) rfl (by decide) ?_
  refine wp_putI rfl rfl (Or.inl rfl) rfl (fun h9 => by cases h9) k0 ?_
  refine wp_loc rfl rfl ?_
  refine wp_getR rfl rfl rfl rfl k0 e1 ?_
  refine wp_iconst (v := 0) rfl (by decide) ?_
  refine wp_iconst (v := (-1)) rfl (by decide) ?_
  refine wp_iast rfl k2 i1 ?_
  refine wp_iconst (v := 1) rfl (by decide) ?_
  refine wp_loc rfl rfl ?_
  exact w
theorem b286_76 {n : Nat} {h : q_Hp} {Q : Option Value → q_Hp → Prop} {x0 : Nat} {x1 : Int32} {x2 : Int32} (wt : x2 = 0 → q_wp n 286 95 [some (.ref x0), some (.int x1), some (.int x2)] [] h Q) (wf : ¬ x2 = 0 → q_wp n 286 80 [some (.ref x0), some (.int x1), some (.int x2)] [] h Q) : q_wp n 286 76 [some (.ref x0), some (.int x1), some (.int x2)] [] h Q := by
  refine wp_loc rfl rfl ?_
  exact wp_ifeq (tgt := 95) rfl (by decide) wt wf
theorem b286_80 {n : Nat} {h : q_Hp} {Q : Option Value → q_Hp → Prop} {x0 : Nat} {x1 : Int32} {x2 : Int32} (k0 : q_ok h x0 12) (wt : ¬ (qI h x0 13) = 0 → q_wp n 286 95 [some (.ref x0), some (.int x1), some (.int x2)] [] h Q) (wf : (qI h x0 13) = 0 → q_wp n 286 87 [some (.ref x0), some (.int x1), some (.int x2)] [] h Q) : q_wp n 286 80 [some (.ref x0), some (.int x1), some (.int x2)] [] h Q := by
  refine wp_loc rfl rfl ?_
  refine wp_getI rfl rfl rfl k0 ?_
  exact wp_ifne (tgt := 95) rfl (by decide) wt wf
theorem b286_87 {n : Nat} {h : q_Hp} {Q : Option Value → q_Hp → Prop} {x0 : Nat} {x1 : Int32} {x2 : Int32} {m : Nat} {P : Int32 → q_Hp → Prop} (hc : q_mI m 287 [.ref x0] h P) (hm : m ≤ n) (w : ∀ (z : Int32) (h1 : q_Hp), P z h1 → q_wp (n + 1) 286 91 [some (.ref x0), some (.int x1), some (.int x2)] [.int z] h1 Q) : q_wp (n + 1) 286 87 [some (.ref x0), some (.int x1), some (.int x2)] [] h Q := by
  refine wp_loc rfl rfl ?_
  exact wp_callI (av := [.ref x0]) rfl rfl rfl (by decide) rfl rfl rfl hm hc w
theorem b286_91 {n : Nat} {h : q_Hp} {Q : Option Value → q_Hp → Prop} {x0 : Nat} {x1 : Int32} {x2 : Int32} {s0 : Int32} (w : q_wp n 286 76 [some (.ref x0), some (.int x1), some (.int s0)] [] h Q) : q_wp n 286 91 [some (.ref x0), some (.int x1), some (.int x2)] [.int s0] h Q := by
  refine wp_loc rfl rfl ?_
  refine wp_goto (tgt := 76) rfl (by decide) ?_
  exact w
theorem b286_95 {n : Nat} {h : q_Hp} {Q : Option Value → q_Hp → Prop} {x0 : Nat} {x1 : Int32} {x2 : Int32} (k0 : q_ok h x0 12) (wt : (qI h x0 13) ≤ 0 → q_wp n 286 103 [some (.ref x0), some (.int x1), some (.int x2)] [] h Q) (wf : ¬ (qI h x0 13) ≤ 0 → q_wp n 286 102 [some (.ref x0), some (.int x1), some (.int x2)] [] h Q) : q_wp n 286 95 [some (.ref x0), some (.int x1), some (.int x2)] [] h Q := by
  refine wp_loc rfl rfl ?_
  refine wp_getI rfl rfl rfl k0 ?_
  exact wp_ifle (tgt := 103) rfl (by decide) wt wf
theorem b286_102 {n : Nat} {h : q_Hp} {Q : Option Value → q_Hp → Prop} {x0 : Nat} {x1 : Int32} {x2 : Int32} (q : Q none h) : q_wp n 286 102 [some (.ref x0), some (.int x1), some (.int x2)] [] h Q := by
  exact wp_ret rfl rfl q
theorem b286_103 {n : Nat} {h : q_Hp} {Q : Option Value → q_Hp → Prop} {x0 : Nat} {x1 : Int32} {x2 : Int32} {v0 : Nat} {v1 : Nat} (k0 : q_ok h x0 12) (e0 : qR h x0 67 = v0) (e1 : qR h x0 8 = v1) (k1 : q_ok h v1 21) (i0 : q_in x1 (qK h v1).2) (k2 : q_ok h v0 21) (i1 : q_in (qI h x0 21) (qK h v0).2) (q : Q none (q_sI (q_sL h v0 ((qI h x0 21 : Int32).toNatClampNeg) (qL h v1 x1.toNatClampNeg)) x0 21 ((qI h x0 21) + 1))) : q_wp n 286 103 [some (.ref x0), some (.int x1), some (.int x2)] [] h Q := by
  refine wp_loc rfl rfl ?_
  refine wp_getR rfl rfl rfl rfl k0 e0 ?_
  refine wp_loc rfl rfl ?_
  refine wp_getI rfl rfl rfl k0 ?_
  refine wp_loc rfl rfl ?_
  refine wp_getR rfl rfl rfl rfl k0 e1 ?_
  refine wp_loc rfl rfl ?_
  refine wp_lald rfl k1 i0 ?_
  refine wp_last rfl k2 i1 ?_
  refine wp_loc rfl rfl ?_
  refine wp_stk rfl rfl rfl ?_
  refine wp_getI rfl rfl rfl k0 ?_
  refine wp_iconst (v := 1) rfl (by decide) ?_
  refine wp_stk rfl rfl rfl ?_
  refine wp_putI rfl rfl (Or.inl rfl) rfl (fun h9 => by cases h9) k0 ?_
  exact wp_ret rfl rfl q
set_option maxRecDepth 20000 in
theorem b287_0 {n : Nat} {h : q_Hp} {Q : Option Value → q_Hp → Prop} {x0 : Nat} (k0 : q_ok h x0 12) (wt : (qI h x0 13) ≤ 0 → q_wp n 287 11 [some (.ref x0), none, none, none, none] [] h Q) (wf : ¬ (qI h x0 13) ≤ 0 → q_wp n 287 7 [some (.ref x0), none, none, none, none] [] h Q) : q_wp n 287 0 [some (.ref x0), none, none, none, none] [] h Q := by
  refine wp_loc rfl rfl ?_
  refine wp_getI rfl rfl rfl k0 ?_
  exact wp_ifle (tgt := 11) rfl (by decide) wt wf
set_option maxRecDepth 20000 in
theorem b287_7 {n : Nat} {h : q_Hp} {Q : Option Value → q_Hp → Prop} {x0 : Nat} (w : q_wp n 287 20 [some (.ref x0), none, none, none, none] [.int 3] h Q) : q_wp n 287 7 [some (.ref x0), none, none, none, none] [] h Q := by
  refine wp_iconst (v := 3) rfl (by decide) ?_
  refine wp_goto (tgt := 20) rfl (by decide) ?_
  exact w
set_option maxRecDepth 20000 in
theorem b287_11 {n : Nat} {h : q_Hp} {Q : Option Value → q_Hp → Prop} {x0 : Nat} {v0 : Nat} (k0 : q_ok h x0 12) (e0 : qR h x0 5 = v0) (k1 : q_ok h v0 20) (i0 : q_in (qI h x0 11) (qK h v0).2) (w : q_wp n 287 20 [some (.ref x0), none, none, none, none] [.int (qA h v0 ((qI h x0 11 : Int32).toNatClampNeg))] h Q) : q_wp n 287 11 [some (.ref x0), none, none, none, none] [] h Q := by
  refine wp_loc rfl rfl ?_
  refine wp_getR rfl rfl rfl rfl k0 e0 ?_
  refine wp_loc rfl rfl ?_
  refine wp_getI rfl rfl rfl k0 ?_
  refine wp_iald rfl k1 i0 ?_
  exact w
set_option maxRecDepth 20000 in
theorem b287_20 {n : Nat} {h : q_Hp} {Q : Option Value → q_Hp → Prop} {x0 : Nat} {s0 : Int32} (w0 : s0 = 29 → q_wp n 287 517 [some (.ref x0), none, none, none, none] [] h Q) (w1 : s0 = 30 → q_wp n 287 598 [some (.ref x0), none, none, none, none] [] h Q) (w2 : s0 = 31 → q_wp n 287 598 [some (.ref x0), none, none, none, none] [] h Q) (w3 : s0 = 32 → q_wp n 287 598 [some (.ref x0), none, none, none, none] [] h Q) (w4 : s0 = 33 → q_wp n 287 598 [some (.ref x0), none, none, none, none] [] h Q) (w5 : s0 = 34 → q_wp n 287 598 [some (.ref x0), none, none, none, none] [] h Q) (w6 : s0 = 35 → q_wp n 287 100 [some (.ref x0), none, none, none, none] [] h Q) (w7 : s0 = 36 → q_wp n 287 100 [some (.ref x0), none, none, none, none] [] h Q) (w8 : s0 = 37 → q_wp n 287 153 [some (.ref x0), none, none, none, none] [] h Q) (w9 : s0 = 38 → q_wp n 287 100 [some (.ref x0), none, none, none, none] [] h Q) (w10 : s0 = 39 → q_wp n 287 250 [some (.ref x0), none, none, none, none] [] h Q) (w11 : s0 = 40 → q_wp n 287 270 [some (.ref x0), none, none, none, none] [] h Q) (w12 : s0 = 41 → q_wp n 287 270 [some (.ref x0), none, none, none, none] [] h Q) (w13 : s0 = 42 → q_wp n 287 270 [some (.ref x0), none, none, none, none] [] h Q) (w14 : s0 = 43 → q_wp n 287 427 [some (.ref x0), none, none, none, none] [] h Q) (w15 : s0 = 44 → q_wp n 287 427 [some (.ref x0), none, none, none, none] [] h Q) (wd : (s0.toInt < 29 ∨ 44 < s0.toInt) → q_wp n 287 598 [some (.ref x0), none, none, none, none] [] h Q) : q_wp n 287 20 [some (.ref x0), none, none, none, none] [.int s0] h Q := by
  refine wp_tab (dt := 598) (tg := fun j => [517, 598, 598, 598, 598, 598, 100, 100, 153, 100, 250, 270, 270, 270, 427, 427].getD j 0) rfl (by decide) (by decide) (by decide) (fun j hj hx => ?_) wd
  have hj : j < 16 := hj
  match j, hj, hx with
  | 0, _, hx => exact w0 (Int32.toInt_inj.mp hx)
  | 1, _, hx => exact w1 (Int32.toInt_inj.mp hx)
  | 2, _, hx => exact w2 (Int32.toInt_inj.mp hx)
  | 3, _, hx => exact w3 (Int32.toInt_inj.mp hx)
  | 4, _, hx => exact w4 (Int32.toInt_inj.mp hx)
  | 5, _, hx => exact w5 (Int32.toInt_inj.mp hx)
  | 6, _, hx => exact w6 (Int32.toInt_inj.mp hx)
  | 7, _, hx => exact w7 (Int32.toInt_inj.mp hx)
  | 8, _, hx => exact w8 (Int32.toInt_inj.mp hx)
  | 9, _, hx => exact w9 (Int32.toInt_inj.mp hx)
  | 10, _, hx => exact w10 (Int32.toInt_inj.mp hx)
  | 11, _, hx => exact w11 (Int32.toInt_inj.mp hx)
  | 12, _, hx => exact w12 (Int32.toInt_inj.mp hx)
  | 13, _, hx => exact w13 (Int32.toInt_inj.mp hx)
  | 14, _, hx => exact w14 (Int32.toInt_inj.mp hx)
  | 15, _, hx => exact w15 (Int32.toInt_inj.mp hx)
  | j9 + 16, hj, _ => exact absurd hj (by omega)
set_option maxRecDepth 20000 in
theorem b287_100 {n : Nat} {h : q_Hp} {Q : Option Value → q_Hp → Prop} {x0 : Nat} {m : Nat} {P : Int32 → q_Hp → Prop} (hc : q_mI m 249 [.ref x0, .int 35] h P) (hm : m ≤ n) (w : ∀ (z : Int32) (h1 : q_Hp), P z h1 → q_wp (n + 1) 287 107 [some (.ref x0), none, none, none, none] [.int z, .ref x0] h1 Q) : q_wp (n + 1) 287 100 [some (.ref x0), none, none, none, none] [] h Q := by
  refine wp_loc rfl rfl ?_
  refine wp_loc rfl rfl ?_
  refine wp_bipush (v := 35) rfl (by decide) ?_
  exact wp_callI (av := [.ref x0, .int 35]) rfl rfl rfl (by decide) rfl rfl rfl hm hc w
set_option maxRecDepth 20000 in
theorem b287_107 {n : Nat} {h : q_Hp} {Q : Option Value → q_Hp → Prop} {x0 : Nat} {s0 : Int32} {s1 : Nat} (wt : s0 = 0 → q_wp n 287 114 [some (.ref x0), none, none, none, none] [.ref s1] h Q) (wf : ¬ s0 = 0 → q_wp n 287 110 [some (.ref x0), none, none, none, none] [.ref s1] h Q) : q_wp n 287 107 [some (.ref x0), none, none, none, none] [.int s0, .ref s1] h Q := by
  exact wp_ifeq (tgt := 114) rfl (by decide) wt wf
set_option maxRecDepth 20000 in
theorem b287_110 {n : Nat} {h : q_Hp} {Q : Option Value → q_Hp → Prop} {x0 : Nat} {s0 : Nat} (w : q_wp n 287 128 [some (.ref x0), none, none, none, none] [.int 0, .ref s0] h Q) : q_wp n 287 110 [some (.ref x0), none, none, none, none] [.ref s0] h Q := by
  refine wp_iconst (v := 0) rfl (by decide) ?_
  refine wp_goto (tgt := 128) rfl (by decide) ?_
  exact w
set_option maxRecDepth 20000 in
theorem b287_114 {n : Nat} {h : q_Hp} {Q : Option Value → q_Hp → Prop} {x0 : Nat} {s0 : Nat} {m : Nat} {P : Int32 → q_Hp → Prop} (hc : q_mI m 249 [.ref x0, .int 36] h P) (hm : m ≤ n) (w : ∀ (z : Int32) (h1 : q_Hp), P z h1 → q_wp (n + 1) 287 120 [some (.ref x0), none, none, none, none] [.int z, .ref s0] h1 Q) : q_wp (n + 1) 287 114 [some (.ref x0), none, none, none, none] [.ref s0] h Q := by
  refine wp_loc rfl rfl ?_
  refine wp_bipush (v := 36) rfl (by decide) ?_
  exact wp_callI (av := [.ref x0, .int 36]) rfl rfl rfl (by decide) rfl rfl rfl hm hc w
set_option maxRecDepth 20000 in
theorem b287_120 {n : Nat} {h : q_Hp} {Q : Option Value → q_Hp → Prop} {x0 : Nat} {s0 : Int32} {s1 : Nat} (wt : s0 = 0 → q_wp n 287 127 [some (.ref x0), none, none, none, none] [.ref s1] h Q) (wf : ¬ s0 = 0 → q_wp n 287 123 [some (.ref x0), none, none, none, none] [.ref s1] h Q) : q_wp n 287 120 [some (.ref x0), none, none, none, none] [.int s0, .ref s1] h Q := by
  exact wp_ifeq (tgt := 127) rfl (by decide) wt wf
set_option maxRecDepth 20000 in
theorem b287_123 {n : Nat} {h : q_Hp} {Q : Option Value → q_Hp → Prop} {x0 : Nat} {s0 : Nat} (w : q_wp n 287 128 [some (.ref x0), none, none, none, none] [.int 1, .ref s0] h Q) : q_wp n 287 123 [some (.ref x0), none, none, none, none] [.ref s0] h Q := by
  refine wp_iconst (v := 1) rfl (by decide) ?_
  refine wp_goto (tgt := 128) rfl (by decide) ?_
  exact w
set_option maxRecDepth 20000 in
theorem b287_127 {n : Nat} {h : q_Hp} {Q : Option Value → q_Hp → Prop} {x0 : Nat} {s0 : Nat} (w : q_wp n 287 128 [some (.ref x0), none, none, none, none] [.int 3, .ref s0] h Q) : q_wp n 287 127 [some (.ref x0), none, none, none, none] [.ref s0] h Q := by
  refine wp_iconst (v := 3) rfl (by decide) ?_
  exact w
set_option maxRecDepth 20000 in
theorem b287_128 {n : Nat} {h : q_Hp} {Q : Option Value → q_Hp → Prop} {x0 : Nat} {s0 : Int32} {s1 : Nat} {m : Nat} {P : Int32 → q_Hp → Prop} (hc : q_mI m 283 [.ref s1, .int s0] h P) (hm : m ≤ n) (w : ∀ (z : Int32) (h1 : q_Hp), P z h1 → q_wp (n + 1) 287 131 [some (.ref x0), none, none, none, none] [.int z] h1 Q) : q_wp (n + 1) 287 128 [some (.ref x0), none, none, none, none] [.int s0, .ref s1] h Q := by
  exact wp_callI (av := [.ref s1, .int s0]) rfl rfl rfl (by decide) rfl rfl rfl hm hc w
set_option maxRecDepth 20000 in
theorem b287_131 {n : Nat} {h : q_Hp} {Q : Option Value → q_Hp → Prop} {x0 : Nat} {s0 : Int32} {m : Nat} {P : q_Hp → Prop} (hc : q_mV m 252 [.ref x0] h P) (hm : m ≤ n) (w : ∀ h1 : q_Hp, P h1 → q_wp (n + 1) 287 136 [some (.ref x0), some (.int s0), none, none, none] [] h1 Q) : q_wp (n + 1) 287 131 [some (.ref x0), none, none, none, none] [.int s0] h Q := by
  refine wp_loc rfl rfl ?_
  refine wp_loc rfl rfl ?_
  exact wp_callV (av := [.ref x0]) rfl rfl rfl (by decide) rfl rfl rfl hm hc w
set_option maxRecDepth 20000 in
theorem b287_136 {n : Nat} {h : q_Hp} {Q : Option Value → q_Hp → Prop} {x0 : Nat} {x1 : Int32} {m : Nat} {P : q_Hp → Prop} (hc : q_mV m 285 [.ref x0, .int x1] h P) (hm : m ≤ n) (w : ∀ h1 : q_Hp, P h1 → q_wp (n + 1) 287 141 [some (.ref x0), some (.int x1), none, none, none] [] h1 Q) : q_wp (n + 1) 287 136 [some (.ref x0), some (.int x1), none, none, none] [] h Q := by
  refine wp_loc rfl rfl ?_
  refine wp_loc rfl rfl ?_
  exact wp_callV (av := [.ref x0, .int x1]) rfl rfl rfl (by decide) rfl rfl rfl hm hc w
set_option maxRecDepth 20000 in
theorem b287_141 {n : Nat} {h : q_Hp} {Q : Option Value → q_Hp → Prop} {x0 : Nat} {x1 : Int32} {m : Nat} {P : q_Hp → Prop} (hc : q_mV m 253 [.ref x0, .int 4] h P) (hm : m ≤ n) (w : ∀ h1 : q_Hp, P h1 → q_wp (n + 1) 287 146 [some (.ref x0), some (.int x1), none, none, none] [] h1 Q) : q_wp (n + 1) 287 141 [some (.ref x0), some (.int x1), none, none, none] [] h Q := by
  refine wp_loc rfl rfl ?_
  refine wp_iconst (v := 4) rfl (by decide) ?_
  exact wp_callV (av := [.ref x0, .int 4]) rfl rfl rfl (by decide) rfl rfl rfl hm hc w
set_option maxRecDepth 20000 in
theorem b287_146 {n : Nat} {h : q_Hp} {Q : Option Value → q_Hp → Prop} {x0 : Nat} {x1 : Int32} {m : Nat} {P : q_Hp → Prop} (hc : q_mV m 284 [.ref x0, .int x1] h P) (hm : m ≤ n) (w : ∀ h1 : q_Hp, P h1 → q_wp (n + 1) 287 151 [some (.ref x0), some (.int x1), none, none, none] [] h1 Q) : q_wp (n + 1) 287 146 [some (.ref x0), some (.int x1), none, none, none] [] h Q := by
  refine wp_loc rfl rfl ?_
  refine wp_loc rfl rfl ?_
  exact wp_callV (av := [.ref x0, .int x1]) rfl rfl rfl (by decide) rfl rfl rfl hm hc w
set_option maxRecDepth 20000 in
theorem b287_151 {n : Nat} {h : q_Hp} {Q : Option Value → q_Hp → Prop} {x0 : Nat} {x1 : Int32} (q : Q (some (.int 1)) h) : q_wp n 287 151 [some (.ref x0), some (.int x1), none, none, none] [] h Q := by
  refine wp_iconst (v := 1) rfl (by decide) ?_
  exact wp_ret (r := some (.int 1)) rfl rfl q
set_option maxRecDepth 20000 in
theorem b287_153 {n : Nat} {h : q_Hp} {Q : Option Value → q_Hp → Prop} {x0 : Nat} {m : Nat} {P : Int32 → q_Hp → Prop} (hc : q_mI m 283 [.ref x0, .int 2] h P) (hm : m ≤ n) (w : ∀ (z : Int32) (h1 : q_Hp), P z h1 → q_wp (n + 1) 287 158 [some (.ref x0), none, none, none, none] [.int z] h1 Q) : q_wp (n + 1) 287 153 [some (.ref x0), none, none, none, none] [] h Q := by
  refine wp_loc rfl rfl ?_
  refine wp_iconst (v := 2) rfl (by decide) ?_
  exact wp_callI (av := [.ref x0, .int 2]) rfl rfl rfl (by decide) rfl rfl rfl hm hc w
set_option maxRecDepth 20000 in
theorem b287_158 {n : Nat} {h : q_Hp} {Q : Option Value → q_Hp → Prop} {x0 : Nat} {s0 : Int32} {m : Nat} {P : q_Hp → Prop} (hc : q_mV m 252 [.ref x0] h P) (hm : m ≤ n) (w : ∀ h1 : q_Hp, P h1 → q_wp (n + 1) 287 163 [some (.ref x0), some (.int s0), none, none, none] [] h1 Q) : q_wp (n + 1) 287 158 [some (.ref x0), none, none, none, none] [.int s0] h Q := by
  refine wp_loc rfl rfl ?_
  refine wp_loc rfl rfl ?_
  exact wp_callV (av := [.ref x0]) rfl rfl rfl (by decide) rfl rfl rfl hm hc w
set_option maxRecDepth 20000 in
theorem b287_163 {n : Nat} {h : q_Hp} {Q : Option Value → q_Hp → Prop} {x0 : Nat} {x1 : Int32} (w : q_wp n 287 167 [some (.ref x0), some (.int x1), some (.int (-1)), some (.int 1), none] [] h Q) : q_wp n 287 163 [some (.ref x0), some (.int x1), none, none, none] [] h Q := by
  refine wp_iconst (v := (-1)) rfl (by decide) ?_
  refine wp_loc rfl rfl ?_
  refine wp_iconst (v := 1) rfl (by decide) ?_
  refine wp_loc rfl rfl ?_
  exact w
set_option maxRecDepth 20000 in
theorem b287_167 {n : Nat} {h : q_Hp} {Q : Option Value → q_Hp → Prop} {x0 : Nat} {x1 : Int32} {x2 : Int32} {x3 : Int32} {l4 : Option Value} (wt : x3 = 0 → q_wp n 287 238 [some (.ref x0), some (.int x1), some (.int x2), some (.int x3), l4] [] h Q) (wf : ¬ x3 = 0 → q_wp n 287 171 [some (.ref x0), some (.int x1), some (.int x2), some (.int x3), l4] [] h Q) : q_wp n 287 167 [some (.ref x0), some (.int x1), some (.int x2), some (.int x3), l4] [] h Q := by
  refine wp_loc rfl rfl ?_
  exact wp_ifeq (tgt := 238) rfl (by decide) wt wf
set_option maxRecDepth 20000 in
theorem b287_171 {n : Nat} {h : q_Hp} {Q : Option Value → q_Hp → Prop} {x0 : Nat} {x1 : Int32} {x2 : Int32} {x3 : Int32} {l4 : Option Value} (k0 : q_ok h x0 12) (wt : ¬ (qI h x0 13) = 0 → q_wp n 287 238 [some (.ref x0), some (.int x1), some (.int x2), some (.int x3), l4] [] h Q) (wf : (qI h x0 13) = 0 → q_wp n 287 178 [some (.ref x0), some (.int x1), some (.int x2), some (.int x3), l4] [] h Q) : q_wp n 287 171 [some (.ref x0), some (.int x1), some (.int x2), some (.int x3), l4] [] h Q := by
  refine wp_loc rfl rfl ?_
  refine wp_getI rfl rfl rfl k0 ?_
  exact wp_ifne (tgt := 238) rfl (by decide) wt wf
set_option maxRecDepth 20000 in
theorem b287_178 {n : Nat} {h : q_Hp} {Q : Option Value → q_Hp → Prop} {x0 : Nat} {x1 : Int32} {x2 : Int32} {x3 : Int32} {l4 : Option Value} {m : Nat} {P : Int32 → q_Hp → Prop} (hc : q_mI m 283 [.ref x0, .int 0] h P) (hm : m ≤ n) (w : ∀ (z : Int32) (h1 : q_Hp), P z h1 → q_wp (n + 1) 287 183 [some (.ref x0), some (.int x1), some (.int x2), some (.int x3), l4] [.int z] h1 Q) : q_wp (n + 1) 287 178 [some (.ref x0), some (.int x1), some (.int x2), some (.int x3), l4] [] h Q := by
  refine wp_loc rfl rfl ?_
  refine wp_iconst (v := 0) rfl (by decide) ?_
  exact wp_callI (av := [.ref x0, .int 0]) rfl rfl rfl (by decide) rfl rfl rfl hm hc w
set_option maxRecDepth 20000 in
theorem b287_183 {n : Nat} {h : q_Hp} {Q : Option Value → q_Hp → Prop} {x0 : Nat} {x1 : Int32} {x2 : Int32} {x3 : Int32} {l4 : Option Value} {s0 : Int32} {m : Nat} {P : q_Hp → Prop} (hc : q_mV m 285 [.ref x0, .int s0] h P) (hm : m ≤ n) (w : ∀ h1 : q_Hp, P h1 → q_wp (n + 1) 287 191 [some (.ref x0), some (.int x1), some (.int x2), some (.int x3), some (.int s0)] [] h1 Q) : q_wp (n + 1) 287 183 [some (.ref x0), some (.int x1), some (.int x2), some (.int x3), l4] [.int s0] h Q := by
  refine wp_loc rfl rfl ?_
  refine wp_loc rfl rfl ?_
  refine wp_loc rfl rfl ?_
  exact wp_callV (av := [.ref x0, .int s0]) rfl rfl rfl (by decide) rfl rfl rfl hm hc w
set_option maxRecDepth 20000 in
theorem b287_191 {n : Nat} {h : q_Hp} {Q : Option Value → q_Hp → Prop} {x0 : Nat} {x1 : Int32} {x2 : Int32} {x3 : Int32} {x4 : Int32} (wt : ¬ x2 = (-1) → q_wp n 287 209 [some (.ref x0), some (.int x1), some (.int x2), some (.int x3), some (.int x4)] [] h Q) (wf : x2 = (-1) → q_wp n 287 196 [some (.ref x0), some (.int x1), some (.int x2), some (.int x3), some (.int x4)] [] h Q) : q_wp n 287 191 [some (.ref x0), some (.int x1), some (.int x2), some (.int x3), some (.int x4)] [] h Q := by
  refine wp_loc rfl rfl ?_
  refine wp_iconst (v := (-1)) rfl (by decide) ?_
  exact wp_icne (tgt := 209) rfl (by decide) wt wf
set_option maxRecDepth 20000 in
theorem b287_196 {n : Nat} {h : q_Hp} {Q : Option Value → q_Hp → Prop} {x0 : Nat} {x1 : Int32} {x2 : Int32} {x3 : Int32} {x4 : Int32} {v0 : Nat} (k0 : q_ok h x0 12) (e0 : qR h x0 61 = v0) (k1 : q_ok h v0 20) (i0 : q_in (3 * x1) (qK h v0).2) (w : q_wp n 287 217 [some (.ref x0), some (.int x1), some (.int x2), some (.int x3), some (.int x4)] [] (q_sA h v0 ((3 * x1 : Int32).toNatClampNeg) x4) Q) : q_wp n 287 196 [some (.ref x0), some (.int x1), some (.int x2), some (.int x3), some (.int x4)] [] h Q := by
  refine wp_loc rfl rfl ?_
  refine wp_getR rfl rfl rfl rfl k0 e0 ?_
  refine wp_iconst (v := 3) rfl (by decide) ?_
  refine wp_loc rfl rfl ?_
  refine wp_stk rfl rfl rfl ?_
  refine wp_loc rfl rfl ?_
  refine wp_iast rfl k1 i0 ?_
  refine wp_goto (tgt := 217) rfl (by decide) ?_
  exact w
set_option maxRecDepth 20000 in
theorem b287_209 {n : Nat} {h : q_Hp} {Q : Option Value → q_Hp → Prop} {x0 : Nat} {x1 : Int32} {x2 : Int32} {x3 : Int32} {x4 : Int32} {v0 : Nat} (k0 : q_ok h x0 12) (e0 : qR h x0 62 = v0) (k1 : q_ok h v0 20) (i0 : q_in x2 (qK h v0).2) (w : q_wp n 287 217 [some (.ref x0), some (.int x1), some (.int x2), some (.int x3), some (.int x4)] [] (q_sA h v0 x2.toNatClampNeg x4) Q) : q_wp n 287 209 [some (.ref x0), some (.int x1), some (.int x2), some (.int x3), some (.int x4)] [] h Q := by
  refine wp_loc rfl rfl ?_
  refine wp_getR rfl rfl rfl rfl k0 e0 ?_
  refine wp_loc rfl rfl ?_
  refine wp_loc rfl rfl ?_
  refine wp_iast rfl k1 i0 ?_
  exact w
set_option maxRecDepth 20000 in
theorem b287_217 {n : Nat} {h : q_Hp} {Q : Option Value → q_Hp → Prop} {x0 : Nat} {x1 : Int32} {x2 : Int32} {x3 : Int32} {x4 : Int32} {m : Nat} {P : Int32 → q_Hp → Prop} (hc : q_mI m 249 [.ref x0, .int 7] h P) (hm : m ≤ n) (w : ∀ (z : Int32) (h1 : q_Hp), P z h1 → q_wp (n + 1) 287 226 [some (.ref x0), some (.int x1), some (.int x4), some (.int x3), some (.int x4)] [.int z] h1 Q) : q_wp (n + 1) 287 217 [some (.ref x0), some (.int x1), some (.int x2), some (.int x3), some (.int x4)] [] h Q := by
  refine wp_loc rfl rfl ?_
  refine wp_loc rfl rfl ?_
  refine wp_loc rfl rfl ?_
  refine wp_bipush (v := 7) rfl (by decide) ?_
  exact wp_callI (av := [.ref x0, .int 7]) rfl rfl rfl (by decide) rfl rfl rfl hm hc w
set_option maxRecDepth 20000 in
theorem b287_226 {n : Nat} {h : q_Hp} {Q : Option Value → q_Hp → Prop} {x0 : Nat} {x1 : Int32} {x2 : Int32} {x3 : Int32} {x4 : Int32} {s0 : Int32} (wt : s0 = 0 → q_wp n 287 235 [some (.ref x0), some (.int x1), some (.int x2), some (.int s0), some (.int x4)] [] h Q) (wf : ¬ s0 = 0 → q_wp n 287 231 [some (.ref x0), some (.int x1), some (.int x2), some (.int s0), some (.int x4)] [] h Q) : q_wp n 287 226 [some (.ref x0), some (.int x1), some (.int x2), some (.int x3), some (.int x4)] [.int s0] h Q := by
  refine wp_loc rfl rfl ?_
  refine wp_loc rfl rfl ?_
  exact wp_ifeq (tgt := 235) rfl (by decide) wt wf
set_option maxRecDepth 20000 in
theorem b287_231 {n : Nat} {h : q_Hp} {Q : Option Value → q_Hp → Prop} {x0 : Nat} {x1 : Int32} {x2 : Int32} {x3 : Int32} {x4 : Int32} {m : Nat} {P : q_Hp → Prop} (hc : q_mV m 252 [.ref x0] h P) (hm : m ≤ n) (w : ∀ h1 : q_Hp, P h1 → q_wp (n + 1) 287 235 [some (.ref x0), some (.int x1), some (.int x2), some (.int x3), some (.int x4)] [] h1 Q) : q_wp (n + 1) 287 231 [some (.ref x0), some (.int x1), some (.int x2), some (.int x3), some (.int x4)] [] h Q := by
  refine wp_loc rfl rfl ?_
  exact wp_callV (av := [.ref x0]) rfl rfl rfl (by decide) rfl rfl rfl hm hc w
set_option maxRecDepth 20000 in
theorem b287_235 {n : Nat} {h : q_Hp} {Q : Option Value → q_Hp → Prop} {x0 : Nat} {x1 : Int32} {x2 : Int32} {x3 : Int32} {x4 : Int32} (w : q_wp n 287 167 [some (.ref x0), some (.int x1), some (.int x2), some (.int x3), some (.int x4)] [] h Q) : q_wp n 287 235 [some (.ref x0), some (.int x1), some (.int x2), some (.int x3), some (.int x4)] [] h Q := by
  refine wp_goto (tgt := 167) rfl (by decide) ?_
  exact w
set_option maxRecDepth 20000 in
theorem b287_238 {n : Nat} {h : q_Hp} {Q : Option Value → q_Hp → Prop} {x0 : Nat} {x1 : Int32} {x2 : Int32} {x3 : Int32} {l4 : Option Value} {m : Nat} {P : q_Hp → Prop} (hc : q_mV m 253 [.ref x0, .int 4] h P) (hm : m ≤ n) (w : ∀ h1 : q_Hp, P h1 → q_wp (n + 1) 287 243 [some (.ref x0), some (.int x1), some (.int x2), some (.int x3), l4] [] h1 Q) : q_wp (n + 1) 287 238 [some (.ref x0), some (.int x1), some (.int x2), some (.int x3), l4] [] h Q := by
  refine wp_loc rfl rfl ?_
  refine wp_iconst (v := 4) rfl (by decide) ?_
  exact wp_callV (av := [.ref x0, .int 4]) rfl rfl rfl (by decide) rfl rfl rfl hm hc w
set_option maxRecDepth 20000 in
theorem b287_243 {n : Nat} {h : q_Hp} {Q : Option Value → q_Hp → Prop} {x0 : Nat} {x1 : Int32} {x2 : Int32} {x3 : Int32} {l4 : Option Value} {m : Nat} {P : q_Hp → Prop} (hc : q_mV m 284 [.ref x0, .int x1] h P) (hm : m ≤ n) (w : ∀ h1 : q_Hp, P h1 → q_wp (n + 1) 287 248 [some (.ref x0), some (.int x1), some (.int x2), some (.int x3), l4] [] h1 Q) : q_wp (n + 1) 287 243 [some (.ref x0), some (.int x1), some (.int x2), some (.int x3), l4] [] h Q := by
  refine wp_loc rfl rfl ?_
  refine wp_loc rfl rfl ?_
  exact wp_callV (av := [.ref x0, .int x1]) rfl rfl rfl (by decide) rfl rfl rfl hm hc w
set_option maxRecDepth 20000 in
theorem b287_248 {n : Nat} {h : q_Hp} {Q : Option Value → q_Hp → Prop} {x0 : Nat} {x1 : Int32} {x2 : Int32} {x3 : Int32} {l4 : Option Value} (q : Q (some (.int 1)) h) : q_wp n 287 248 [some (.ref x0), some (.int x1), some (.int x2), some (.int x3), l4] [] h Q := by
  refine wp_iconst (v := 1) rfl (by decide) ?_
  exact wp_ret (r := some (.int 1)) rfl rfl q
set_option maxRecDepth 20000 in
theorem b287_250 {n : Nat} {h : q_Hp} {Q : Option Value → q_Hp → Prop} {x0 : Nat} {m : Nat} {P : q_Hp → Prop} (hc : q_mV m 252 [.ref x0] h P) (hm : m ≤ n) (w : ∀ h1 : q_Hp, P h1 → q_wp (n + 1) 287 254 [some (.ref x0), none, none, none, none] [] h1 Q) : q_wp (n + 1) 287 250 [some (.ref x0), none, none, none, none] [] h Q := by
  refine wp_loc rfl rfl ?_
  exact wp_callV (av := [.ref x0]) rfl rfl rfl (by decide) rfl rfl rfl hm hc w
set_option maxRecDepth 20000 in
theorem b287_254 {n : Nat} {h : q_Hp} {Q : Option Value → q_Hp → Prop} {x0 : Nat} {m : Nat} {P : q_Hp → Prop} (hc : q_mV m 253 [.ref x0, .int 4] h P) (hm : m ≤ n) (w : ∀ h1 : q_Hp, P h1 → q_wp (n + 1) 287 259 [some (.ref x0), none, none, none, none] [] h1 Q) : q_wp (n + 1) 287 254 [some (.ref x0), none, none, none, none] [] h Q := by
  refine wp_loc rfl rfl ?_
  refine wp_iconst (v := 4) rfl (by decide) ?_
  exact wp_callV (av := [.ref x0, .int 4]) rfl rfl rfl (by decide) rfl rfl rfl hm hc w
set_option maxRecDepth 20000 in
theorem b287_259 {n : Nat} {h : q_Hp} {Q : Option Value → q_Hp → Prop} {x0 : Nat} {m : Nat} {P : Int32 → q_Hp → Prop} (hc : q_mI m 283 [.ref x0, .int 4] h P) (hm : m ≤ n) (w : ∀ (z : Int32) (h1 : q_Hp), P z h1 → q_wp (n + 1) 287 265 [some (.ref x0), none, none, none, none] [.int z, .ref x0] h1 Q) : q_wp (n + 1) 287 259 [some (.ref x0), none, none, none, none] [] h Q := by
  refine wp_loc rfl rfl ?_
  refine wp_loc rfl rfl ?_
  refine wp_iconst (v := 4) rfl (by decide) ?_
  exact wp_callI (av := [.ref x0, .int 4]) rfl rfl rfl (by decide) rfl rfl rfl hm hc w
set_option maxRecDepth 20000 in
theorem b287_265 {n : Nat} {h : q_Hp} {Q : Option Value → q_Hp → Prop} {x0 : Nat} {s0 : Int32} {s1 : Nat} {m : Nat} {P : q_Hp → Prop} (hc : q_mV m 284 [.ref s1, .int s0] h P) (hm : m ≤ n) (w : ∀ h1 : q_Hp, P h1 → q_wp (n + 1) 287 268 [some (.ref x0), none, none, none, none] [] h1 Q) : q_wp (n + 1) 287 265 [some (.ref x0), none, none, none, none] [.int s0, .ref s1] h Q := by
  exact wp_callV (av := [.ref s1, .int s0]) rfl rfl rfl (by decide) rfl rfl rfl hm hc w
set_option maxRecDepth 20000 in
theorem b287_268 {n : Nat} {h : q_Hp} {Q : Option Value → q_Hp → Prop} {x0 : Nat} (q : Q (some (.int 1)) h) : q_wp n 287 268 [some (.ref x0), none, none, none, none] [] h Q := by
  refine wp_iconst (v := 1) rfl (by decide) ?_
  exact wp_ret (r := some (.int 1)) rfl rfl q
set_option maxRecDepth 20000 in
theorem b287_270 {n : Nat} {h : q_Hp} {Q : Option Value → q_Hp → Prop} {x0 : Nat} {m : Nat} {P : q_Hp → Prop} (hc : q_mV m 254 [.ref x0] h P) (hm : m ≤ n) (w : ∀ h1 : q_Hp, P h1 → q_wp (n + 1) 287 274 [some (.ref x0), none, none, none, none] [] h1 Q) : q_wp (n + 1) 287 270 [some (.ref x0), none, none, none, none] [] h Q := by
  refine wp_loc rfl rfl ?_
  exact wp_callV (av := [.ref x0]) rfl rfl rfl (by decide) rfl rfl rfl hm hc w
set_option maxRecDepth 20000 in
theorem b287_274 {n : Nat} {h : q_Hp} {Q : Option Value → q_Hp → Prop} {x0 : Nat} {m : Nat} {P : Int32 → q_Hp → Prop} (hc : q_mI m 249 [.ref x0, .int 40] h P) (hm : m ≤ n) (w : ∀ (z : Int32) (h1 : q_Hp), P z h1 → q_wp (n + 1) 287 281 [some (.ref x0), none, none, none, none] [.int z, .ref x0] h1 Q) : q_wp (n + 1) 287 274 [some (.ref x0), none, none, none, none] [] h Q := by
  refine wp_loc rfl rfl ?_
  refine wp_loc rfl rfl ?_
  refine wp_bipush (v := 40) rfl (by decide) ?_
  exact wp_callI (av := [.ref x0, .int 40]) rfl rfl rfl (by decide) rfl rfl rfl hm hc w
set_option maxRecDepth 20000 in
theorem b287_281 {n : Nat} {h : q_Hp} {Q : Option Value → q_Hp → Prop} {x0 : Nat} {s0 : Int32} {s1 : Nat} (wt : s0 = 0 → q_wp n 287 288 [some (.ref x0), none, none, none, none] [.ref s1] h Q) (wf : ¬ s0 = 0 → q_wp n 287 284 [some (.ref x0), none, none, none, none] [.ref s1] h Q) : q_wp n 287 281 [some (.ref x0), none, none, none, none] [.int s0, .ref s1] h Q := by
  exact wp_ifeq (tgt := 288) rfl (by decide) wt wf
set_option maxRecDepth 20000 in
theorem b287_284 {n : Nat} {h : q_Hp} {Q : Option Value → q_Hp → Prop} {x0 : Nat} {s0 : Nat} (w : q_wp n 287 304 [some (.ref x0), none, none, none, none] [.int 5, .ref s0] h Q) : q_wp n 287 284 [some (.ref x0), none, none, none, none] [.ref s0] h Q := by
  refine wp_iconst (v := 5) rfl (by decide) ?_
  refine wp_goto (tgt := 304) rfl (by decide) ?_
  exact w
set_option maxRecDepth 20000 in
theorem b287_288 {n : Nat} {h : q_Hp} {Q : Option Value → q_Hp → Prop} {x0 : Nat} {s0 : Nat} {m : Nat} {P : Int32 → q_Hp → Prop} (hc : q_mI m 249 [.ref x0, .int 41] h P) (hm : m ≤ n) (w : ∀ (z : Int32) (h1 : q_Hp), P z h1 → q_wp (n + 1) 287 294 [some (.ref x0), none, none, none, none] [.int z, .ref s0] h1 Q) : q_wp (n + 1) 287 288 [some (.ref x0), none, none, none, none] [.ref s0] h Q := by
  refine wp_loc rfl rfl ?_
  refine wp_bipush (v := 41) rfl (by decide) ?_
  exact wp_callI (av := [.ref x0, .int 41]) rfl rfl rfl (by decide) rfl rfl rfl hm hc w
set_option maxRecDepth 20000 in
theorem b287_294 {n : Nat} {h : q_Hp} {Q : Option Value → q_Hp → Prop} {x0 : Nat} {s0 : Int32} {s1 : Nat} (wt : s0 = 0 → q_wp n 287 302 [some (.ref x0), none, none, none, none] [.ref s1] h Q) (wf : ¬ s0 = 0 → q_wp n 287 297 [some (.ref x0), none, none, none, none] [.ref s1] h Q) : q_wp n 287 294 [some (.ref x0), none, none, none, none] [.int s0, .ref s1] h Q := by
  exact wp_ifeq (tgt := 302) rfl (by decide) wt wf
set_option maxRecDepth 20000 in
theorem b287_297 {n : Nat} {h : q_Hp} {Q : Option Value → q_Hp → Prop} {x0 : Nat} {s0 : Nat} (w : q_wp n 287 304 [some (.ref x0), none, none, none, none] [.int 6, .ref s0] h Q) : q_wp n 287 297 [some (.ref x0), none, none, none, none] [.ref s0] h Q := by
  refine wp_bipush (v := 6) rfl (by decide) ?_
  refine wp_goto (tgt := 304) rfl (by decide) ?_
  exact w
set_option maxRecDepth 20000 in
theorem b287_302 {n : Nat} {h : q_Hp} {Q : Option Value → q_Hp → Prop} {x0 : Nat} {s0 : Nat} (w : q_wp n 287 304 [some (.ref x0), none, none, none, none] [.int 7, .ref s0] h Q) : q_wp n 287 302 [some (.ref x0), none, none, none, none] [.ref s0] h Q := by
  refine wp_bipush (v := 7) rfl (by decide) ?_
  exact w
set_option maxRecDepth 20000 in
theorem b287_304 {n : Nat} {h : q_Hp} {Q : Option Value → q_Hp → Prop} {x0 : Nat} {s0 : Int32} {s1 : Nat} {m : Nat} {P : Int32 → q_Hp → Prop} (hc : q_mI m 283 [.ref s1, .int s0] h P) (hm : m ≤ n) (w : ∀ (z : Int32) (h1 : q_Hp), P z h1 → q_wp (n + 1) 287 307 [some (.ref x0), none, none, none, none] [.int z] h1 Q) : q_wp (n + 1) 287 304 [some (.ref x0), none, none, none, none] [.int s0, .ref s1] h Q := by
  exact wp_callI (av := [.ref s1, .int s0]) rfl rfl rfl (by decide) rfl rfl rfl hm hc w
set_option maxRecDepth 20000 in
theorem b287_307 {n : Nat} {h : q_Hp} {Q : Option Value → q_Hp → Prop} {x0 : Nat} {s0 : Int32} {m : Nat} {P : Int32 → q_Hp → Prop} (hc : q_mI m 249 [.ref x0, .int 41] h P) (hm : m ≤ n) (w : ∀ (z : Int32) (h1 : q_Hp), P z h1 → q_wp (n + 1) 287 314 [some (.ref x0), some (.int s0), none, none, none] [.int z] h1 Q) : q_wp (n + 1) 287 307 [some (.ref x0), none, none, none, none] [.int s0] h Q := by
  refine wp_loc rfl rfl ?_
  refine wp_loc rfl rfl ?_
  refine wp_bipush (v := 41) rfl (by decide) ?_
  exact wp_callI (av := [.ref x0, .int 41]) rfl rfl rfl (by decide) rfl rfl rfl hm hc w
set_option maxRecDepth 20000 in
theorem b287_314 {n : Nat} {h : q_Hp} {Q : Option Value → q_Hp → Prop} {x0 : Nat} {x1 : Int32} {s0 : Int32} {m : Nat} {P : q_Hp → Prop} (hc : q_mV m 252 [.ref x0] h P) (hm : m ≤ n) (w : ∀ h1 : q_Hp, P h1 → q_wp (n + 1) 287 319 [some (.ref x0), some (.int x1), some (.int s0), none, none] [] h1 Q) : q_wp (n + 1) 287 314 [some (.ref x0), some (.int x1), none, none, none] [.int s0] h Q := by
  refine wp_loc rfl rfl ?_
  refine wp_loc rfl rfl ?_
  exact wp_callV (av := [.ref x0]) rfl rfl rfl (by decide) rfl rfl rfl hm hc w
set_option maxRecDepth 20000 in
theorem b287_319 {n : Nat} {h : q_Hp} {Q : Option Value → q_Hp → Prop} {x0 : Nat} {x1 : Int32} {x2 : Int32} (wt : x2 = 0 → q_wp n 287 371 [some (.ref x0), some (.int x1), some (.int x2), none, none] [] h Q) (wf : ¬ x2 = 0 → q_wp n 287 323 [some (.ref x0), some (.int x1), some (.int x2), none, none] [] h Q) : q_wp n 287 319 [some (.ref x0), some (.int x1), some (.int x2), none, none] [] h Q := by
  refine wp_loc rfl rfl ?_
  exact wp_ifeq (tgt := 371) rfl (by decide) wt wf
set_option maxRecDepth 20000 in
theorem b287_323 {n : Nat} {h : q_Hp} {Q : Option Value → q_Hp → Prop} {x0 : Nat} {x1 : Int32} {x2 : Int32} (k0 : q_ok h x0 12) {m : Nat} {P : q_Hp → Prop} (hc : q_mV m 253 [.ref x0, .int 2] h P) (hm : m ≤ n) (w : ∀ h1 : q_Hp, P h1 → q_wp (n + 1) 287 333 [some (.ref x0), some (.int x1), some (.int x2), some (.int (qI h x0 11)), none] [] h1 Q) : q_wp (n + 1) 287 323 [some (.ref x0), some (.int x1), some (.int x2), none, none] [] h Q := by
  refine wp_loc rfl rfl ?_
  refine wp_getI rfl rfl rfl k0 ?_
  refine wp_loc rfl rfl ?_
  refine wp_loc rfl rfl ?_
  refine wp_iconst (v := 2) rfl (by decide) ?_
  exact wp_callV (av := [.ref x0, .int 2]) rfl rfl rfl (by decide) rfl rfl rfl hm hc w
set_option maxRecDepth 20000 in
theorem b287_333 {n : Nat} {h : q_Hp} {Q : Option Value → q_Hp → Prop} {x0 : Nat} {x1 : Int32} {x2 : Int32} {x3 : Int32} (k0 : q_ok h x0 12) (wt : (qI h x0 13) ≤ 0 → q_wp n 287 342 [some (.ref x0), some (.int x1), some (.int x2), some (.int x3), none] [] h Q) (wf : ¬ (qI h x0 13) ≤ 0 → q_wp n 287 340 [some (.ref x0), some (.int x1), some (.int x2), some (.int x3), none] [] h Q) : q_wp n 287 333 [some (.ref x0), some (.int x1), some (.int x2), some (.int x3), none] [] h Q := by
  refine wp_loc rfl rfl ?_
  refine wp_getI rfl rfl rfl k0 ?_
  exact wp_ifle (tgt := 342) rfl (by decide) wt wf
set_option maxRecDepth 20000 in
theorem b287_340 {n : Nat} {h : q_Hp} {Q : Option Value → q_Hp → Prop} {x0 : Nat} {x1 : Int32} {x2 : Int32} {x3 : Int32} (q : Q (some (.int 0)) h) : q_wp n 287 340 [some (.ref x0), some (.int x1), some (.int x2), some (.int x3), none] [] h Q := by
  refine wp_iconst (v := 0) rfl (by decide) ?_
  exact wp_ret (r := some (.int 0)) rfl rfl q
set_option maxRecDepth 20000 in
theorem b287_342 {n : Nat} {h : q_Hp} {Q : Option Value → q_Hp → Prop} {x0 : Nat} {x1 : Int32} {x2 : Int32} {x3 : Int32} {v0 : Nat} {v1 : Nat} (k0 : q_ok h x0 12) (e0 : qR h x0 60 = v0) (e1 : qR h x0 7 = v1) (k1 : q_ok h v1 20) (i0 : q_in x3 (qK h v1).2) (k2 : q_ok h v0 20) (i1 : q_in x1 (qK h v0).2) (wt : (qA (q_sA h v0 x1.toNatClampNeg (qA h v1 x3.toNatClampNeg)) v1 x3.toNatClampNeg) ≤ 100 → q_wp n 287 371 [some (.ref x0), some (.int x1), some (.int x2), some (.int x3), none] [] (q_sA h v0 x1.toNatClampNeg (qA h v1 x3.toNatClampNeg)) Q) (wf : ¬ (qA (q_sA h v0 x1.toNatClampNeg (qA h v1 x3.toNatClampNeg)) v1 x3.toNatClampNeg) ≤ 100 → q_wp n 287 365 [some (.ref x0), some (.int x1), some (.int x2), some (.int x3), none] [] (q_sA h v0 x1.toNatClampNeg (qA h v1 x3.toNatClampNeg)) Q) : q_wp n 287 342 [some (.ref x0), some (.int x1), some (.int x2), some (.int x3), none] [] h Q := by
  refine wp_loc rfl rfl ?_
  refine wp_getR rfl rfl rfl rfl k0 e0 ?_
  refine wp_loc rfl rfl ?_
  refine wp_loc rfl rfl ?_
  refine wp_getR rfl rfl rfl rfl k0 e1 ?_
  refine wp_loc rfl rfl ?_
  refine wp_iald rfl k1 i0 ?_
  refine wp_iast rfl k2 i1 ?_
  refine wp_loc rfl rfl ?_
  refine wp_getR rfl rfl rfl rfl k0 e1 ?_
  refine wp_loc rfl rfl ?_
  refine wp_iald rfl k1 i0 ?_
  refine wp_bipush (v := 100) rfl (by decide) ?_
  exact wp_icle (tgt := 371) rfl (by decide) wt wf
set_option maxRecDepth 20000 in
theorem b287_365 {n : Nat} {h : q_Hp} {Q : Option Value → q_Hp → Prop} {x0 : Nat} {x1 : Int32} {x2 : Int32} {x3 : Int32} {m : Nat} {P : q_Hp → Prop} (hc : q_mV m 251 [.ref x0, .int 5, .int x3] h P) (hm : m ≤ n) (w : ∀ h1 : q_Hp, P h1 → q_wp (n + 1) 287 371 [some (.ref x0), some (.int x1), some (.int x2), some (.int x3), none] [] h1 Q) : q_wp (n + 1) 287 365 [some (.ref x0), some (.int x1), some (.int x2), some (.int x3), none] [] h Q := by
  refine wp_loc rfl rfl ?_
  refine wp_iconst (v := 5) rfl (by decide) ?_
  refine wp_loc rfl rfl ?_
  exact wp_callV (av := [.ref x0, .int 5, .int x3]) rfl rfl rfl (by decide) rfl rfl rfl hm hc w
set_option maxRecDepth 20000 in
theorem b287_371 {n : Nat} {h : q_Hp} {Q : Option Value → q_Hp → Prop} {x0 : Nat} {x1 : Int32} {x2 : Int32} {l3 : Option Value} (k0 : q_ok h x0 12) (wt : (qI h x0 13) ≤ 0 → q_wp n 287 380 [some (.ref x0), some (.int x1), some (.int x2), l3, none] [] h Q) (wf : ¬ (qI h x0 13) ≤ 0 → q_wp n 287 378 [some (.ref x0), some (.int x1), some (.int x2), l3, none] [] h Q) : q_wp n 287 371 [some (.ref x0), some (.int x1), some (.int x2), l3, none] [] h Q := by
  refine wp_loc rfl rfl ?_
  refine wp_getI rfl rfl rfl k0 ?_
  exact wp_ifle (tgt := 380) rfl (by decide) wt wf
set_option maxRecDepth 20000 in
theorem b287_378 {n : Nat} {h : q_Hp} {Q : Option Value → q_Hp → Prop} {x0 : Nat} {x1 : Int32} {x2 : Int32} {l3 : Option Value} (q : Q (some (.int 0)) h) : q_wp n 287 378 [some (.ref x0), some (.int x1), some (.int x2), l3, none] [] h Q := by
  refine wp_iconst (v := 0) rfl (by decide) ?_
  exact wp_ret (r := some (.int 0)) rfl rfl q
set_option maxRecDepth 20000 in
theorem b287_380 {n : Nat} {h : q_Hp} {Q : Option Value → q_Hp → Prop} {x0 : Nat} {x1 : Int32} {x2 : Int32} {l3 : Option Value} {m : Nat} {P : q_Hp → Prop} (hc : q_mV m 284 [.ref x0, .int x1] h P) (hm : m ≤ n) (w : ∀ h1 : q_Hp, P h1 → q_wp (n + 1) 287 385 [some (.ref x0), some (.int x1), some (.int x2), l3, none] [] h1 Q) : q_wp (n + 1) 287 380 [some (.ref x0), some (.int x1), some (.int x2), l3, none] [] h Q := by
  refine wp_loc rfl rfl ?_
  refine wp_loc rfl rfl ?_
  exact wp_callV (av := [.ref x0, .int x1]) rfl rfl rfl (by decide) rfl rfl rfl hm hc w
set_option maxRecDepth 20000 in
theorem b287_385 {n : Nat} {h : q_Hp} {Q : Option Value → q_Hp → Prop} {x0 : Nat} {x1 : Int32} {x2 : Int32} {l3 : Option Value} {v0 : Nat} {v1 : Nat} {v2 : Nat} (k0 : q_ok h x0 12) (e0 : qR h x0 81 = v0) (k1 : q_ok h v0 20) (i0 : q_in (qI (q_sI h x0 80 ((qI h x0 80) + 1)) x0 80) (qK h v0).2) (e1 : qR h x0 82 = v1) (k2 : q_ok h v1 20) (i1 : q_in (qI (q_sI h x0 80 ((qI h x0 80) + 1)) x0 80) (qK h v1).2) (e2 : qR h x0 83 = v2) (k3 : q_ok h v2 20) (i2 : q_in (qI (q_sI h x0 80 ((qI h x0 80) + 1)) x0 80) (qK h v2).2) (q : Q (some (.int 1)) (q_sA (q_sA (q_sA (q_sI h x0 80 ((qI h x0 80) + 1)) v0 ((qI (q_sI h x0 80 ((qI h x0 80) + 1)) x0 80 : Int32).toNatClampNeg) x1) v1 ((qI (q_sI h x0 80 ((qI h x0 80) + 1)) x0 80 : Int32).toNatClampNeg) 0) v2 ((qI (q_sI h x0 80 ((qI h x0 80) + 1)) x0 80 : Int32).toNatClampNeg) (-1))) : q_wp n 287 385 [some (.ref x0), some (.int x1), some (.int x2), l3, none] [] h Q := by
  refine wp_loc rfl rfl ?_
  refine wp_stk rfl rfl rfl ?_
  refine wp_getI rfl rfl rfl k0 ?_
  refine wp_iconst (v := 1) rfl (by decide) ?_
  refine wp_stk rfl rfl rfl ?_
  refine wp_putI rfl rfl (Or.inl rfl) rfl (fun h9 => by cases h9) k0 ?_
  refine wp_loc rfl rfl ?_
  refine wp_getR rfl rfl rfl rfl k0 e0 ?_
  refine wp_loc rfl rfl ?_
  refine wp_getI rfl rfl rfl k0 ?_
  refine wp_loc rfl rfl ?_
  refine wp_iast rfl k1 i0 ?_
  refine wp_loc rfl rfl ?_
  refine wp_getR rfl rfl rfl rfl k0 e1 ?_
  refine wp_loc rfl rfl ?_
  refine wp_getI rfl rfl rfl k0 ?_
  refine wp_iconst (v := 0) rfl (by decide) ?_
  refine wp_iast rfl k2 i1 ?_
  refine wp_loc rfl rfl ?_
  refine wp_getR rfl rfl rfl rfl k0 e2 ?_
  refine wp_loc rfl rfl ?_
  refine wp_getI rfl rfl rfl k0 ?_
  refine wp_iconst (v := (-1)) rfl (by decide) ?_
  refine wp_iast rfl k3 i2 ?_
  refine wp_iconst (v := 1) rfl (by decide) ?_
  exact wp_ret (r := some (.int 1)) rfl rfl q
set_option maxRecDepth 20000 in
theorem b287_427 {n : Nat} {h : q_Hp} {Q : Option Value → q_Hp → Prop} {x0 : Nat} {m : Nat} {P : Int32 → q_Hp → Prop} (hc : q_mI m 249 [.ref x0, .int 43] h P) (hm : m ≤ n) (w : ∀ (z : Int32) (h1 : q_Hp), P z h1 → q_wp (n + 1) 287 433 [some (.ref x0), none, none, none, none] [.int z] h1 Q) : q_wp (n + 1) 287 427 [some (.ref x0), none, none, none, none] [] h Q := by
  refine wp_loc rfl rfl ?_
  refine wp_bipush (v := 43) rfl (by decide) ?_
  exact wp_callI (av := [.ref x0, .int 43]) rfl rfl rfl (by decide) rfl rfl rfl hm hc w
set_option maxRecDepth 20000 in
theorem b287_433 {n : Nat} {h : q_Hp} {Q : Option Value → q_Hp → Prop} {x0 : Nat} {s0 : Int32} (wt : s0 = 0 → q_wp n 287 440 [some (.ref x0), none, none, none, none] [] h Q) (wf : ¬ s0 = 0 → q_wp n 287 436 [some (.ref x0), none, none, none, none] [] h Q) : q_wp n 287 433 [some (.ref x0), none, none, none, none] [.int s0] h Q := by
  exact wp_ifeq (tgt := 440) rfl (by decide) wt wf
set_option maxRecDepth 20000 in
theorem b287_436 {n : Nat} {h : q_Hp} {Q : Option Value → q_Hp → Prop} {x0 : Nat} (w : q_wp n 287 441 [some (.ref x0), none, none, none, none] [.int 0] h Q) : q_wp n 287 436 [some (.ref x0), none, none, none, none] [] h Q := by
  refine wp_iconst (v := 0) rfl (by decide) ?_
  refine wp_goto (tgt := 441) rfl (by decide) ?_
  exact w
set_option maxRecDepth 20000 in
theorem b287_440 {n : Nat} {h : q_Hp} {Q : Option Value → q_Hp → Prop} {x0 : Nat} (w : q_wp n 287 441 [some (.ref x0), none, none, none, none] [.int 1] h Q) : q_wp n 287 440 [some (.ref x0), none, none, none, none] [] h Q := by
  refine wp_iconst (v := 1) rfl (by decide) ?_
  exact w
set_option maxRecDepth 20000 in
theorem b287_441 {n : Nat} {h : q_Hp} {Q : Option Value → q_Hp → Prop} {x0 : Nat} {s0 : Int32} (k0 : q_ok h x0 12) (wt : (qI h x0 80) = 0 → q_wp n 287 481 [some (.ref x0), some (.int s0), none, none, none] [] h Q) (wf : ¬ (qI h x0 80) = 0 → q_wp n 287 449 [some (.ref x0), some (.int s0), none, none, none] [] h Q) : q_wp n 287 441 [some (.ref x0), none, none, none, none] [.int s0] h Q := by
  refine wp_loc rfl rfl ?_
  refine wp_loc rfl rfl ?_
  refine wp_getI rfl rfl rfl k0 ?_
  exact wp_ifeq (tgt := 481) rfl (by decide) wt wf
set_option maxRecDepth 20000 in
theorem b287_449 {n : Nat} {h : q_Hp} {Q : Option Value → q_Hp → Prop} {x0 : Nat} {x1 : Int32} {v0 : Nat} {v1 : Nat} (k0 : q_ok h x0 12) (e0 : qR h x0 59 = v0) (e1 : qR h x0 81 = v1) (k1 : q_ok h v1 20) (i0 : q_in (qI h x0 80) (qK h v1).2) (k2 : q_ok h v0 20) (i1 : q_in (qA h v1 ((qI h x0 80 : Int32).toNatClampNeg)) (qK h v0).2) (wt : ¬ (qA h v0 ((qA h v1 ((qI h x0 80 : Int32).toNatClampNeg) : Int32).toNatClampNeg)) = 7 → q_wp n 287 481 [some (.ref x0), some (.int x1), none, none, none] [] h Q) (wf : (qA h v0 ((qA h v1 ((qI h x0 80 : Int32).toNatClampNeg) : Int32).toNatClampNeg)) = 7 → q_wp n 287 468 [some (.ref x0), some (.int x1), none, none, none] [] h Q) : q_wp n 287 449 [some (.ref x0), some (.int x1), none, none, none] [] h Q := by
  refine wp_loc rfl rfl ?_
  refine wp_getR rfl rfl rfl rfl k0 e0 ?_
  refine wp_loc rfl rfl ?_
  refine wp_getR rfl rfl rfl rfl k0 e1 ?_
  refine wp_loc rfl rfl ?_
  refine wp_getI rfl rfl rfl k0 ?_
  refine wp_iald rfl k1 i0 ?_
  refine wp_iald rfl k2 i1 ?_
  refine wp_bipush (v := 7) rfl (by decide) ?_
  exact wp_icne (tgt := 481) rfl (by decide) wt wf
set_option maxRecDepth 20000 in
theorem b287_468 {n : Nat} {h : q_Hp} {Q : Option Value → q_Hp → Prop} {x0 : Nat} {x1 : Int32} {v0 : Nat} (k0 : q_ok h x0 12) (e0 : qR h x0 82 = v0) (k1 : q_ok h v0 20) (i0 : q_in (qI h x0 80) (qK h v0).2) (wt : (qA h v0 ((qI h x0 80 : Int32).toNatClampNeg)) = x1 → q_wp n 287 488 [some (.ref x0), some (.int x1), none, none, none] [] h Q) (wf : ¬ (qA h v0 ((qI h x0 80 : Int32).toNatClampNeg)) = x1 → q_wp n 287 481 [some (.ref x0), some (.int x1), none, none, none] [] h Q) : q_wp n 287 468 [some (.ref x0), some (.int x1), none, none, none] [] h Q := by
  refine wp_loc rfl rfl ?_
  refine wp_getR rfl rfl rfl rfl k0 e0 ?_
  refine wp_loc rfl rfl ?_
  refine wp_getI rfl rfl rfl k0 ?_
  refine wp_iald rfl k1 i0 ?_
  refine wp_loc rfl rfl ?_
  exact wp_iceq (tgt := 488) rfl (by decide) wt wf
set_option maxRecDepth 20000 in
theorem b287_481 {n : Nat} {h : q_Hp} {Q : Option Value → q_Hp → Prop} {x0 : Nat} {x1 : Int32} {m : Nat} {P : q_Hp → Prop} (hc : q_mV m 250 [.ref x0, .int 1] h P) (hm : m ≤ n) (w : ∀ h1 : q_Hp, P h1 → q_wp (n + 1) 287 486 [some (.ref x0), some (.int x1), none, none, none] [] h1 Q) : q_wp (n + 1) 287 481 [some (.ref x0), some (.int x1), none, none, none] [] h Q := by
  refine wp_loc rfl rfl ?_
  refine wp_iconst (v := 1) rfl (by decide) ?_
  exact wp_callV (av := [.ref x0, .int 1]) rfl rfl rfl (by decide) rfl rfl rfl hm hc w
set_option maxRecDepth 20000 in
theorem b287_486 {n : Nat} {h : q_Hp} {Q : Option Value → q_Hp → Prop} {x0 : Nat} {x1 : Int32} (q : Q (some (.int 0)) h) : q_wp n 287 486 [some (.ref x0), some (.int x1), none, none, none] [] h Q := by
  refine wp_iconst (v := 0) rfl (by decide) ?_
  exact wp_ret (r := some (.int 0)) rfl rfl q
set_option maxRecDepth 20000 in
theorem b287_488 {n : Nat} {h : q_Hp} {Q : Option Value → q_Hp → Prop} {x0 : Nat} {x1 : Int32} {m : Nat} {P : q_Hp → Prop} (hc : q_mV m 252 [.ref x0] h P) (hm : m ≤ n) (w : ∀ h1 : q_Hp, P h1 → q_wp (n + 1) 287 492 [some (.ref x0), some (.int x1), none, none, none] [] h1 Q) : q_wp (n + 1) 287 488 [some (.ref x0), some (.int x1), none, none, none] [] h Q := by
  refine wp_loc rfl rfl ?_
  exact wp_callV (av := [.ref x0]) rfl rfl rfl (by decide) rfl rfl rfl hm hc w
set_option maxRecDepth 20000 in
theorem b287_492 {n : Nat} {h : q_Hp} {Q : Option Value → q_Hp → Prop} {x0 : Nat} {x1 : Int32} {v0 : Nat} {v1 : Nat} (k0 : q_ok h x0 12) (e0 : qR h x0 82 = v0) (k1 : q_ok h v0 20) (i0 : q_in (qI h x0 80) (qK h v0).2) (e1 : qR h x0 83 = v1) (k2 : q_ok h v1 20) (i1 : q_in (qI h x0 80) (qK h v1).2) (q : Q (some (.int 1)) (q_sA (q_sA h v0 ((qI h x0 80 : Int32).toNatClampNeg) ((qA h v0 ((qI h x0 80 : Int32).toNatClampNeg)) + 1)) v1 ((qI h x0 80 : Int32).toNatClampNeg) (-1))) : q_wp n 287 492 [some (.ref x0), some (.int x1), none, none, none] [] h Q := by
  refine wp_loc rfl rfl ?_
  refine wp_getR rfl rfl rfl rfl k0 e0 ?_
  refine wp_loc rfl rfl ?_
  refine wp_getI rfl rfl rfl k0 ?_
  refine wp_stk rfl rfl rfl ?_
  refine wp_iald rfl k1 i0 ?_
  refine wp_iconst (v := 1) rfl (by decide) ?_
  refine wp_stk rfl rfl rfl ?_
  refine wp_iast rfl k1 i0 ?_
  refine wp_loc rfl rfl ?_
  refine wp_getR rfl rfl rfl rfl k0 e1 ?_
  refine wp_loc rfl rfl ?_
  refine wp_getI rfl rfl rfl k0 ?_
  refine wp_iconst (v := (-1)) rfl (by decide) ?_
  refine wp_iast rfl k2 i1 ?_
  refine wp_iconst (v := 1) rfl (by decide) ?_
  exact wp_ret (r := some (.int 1)) rfl rfl q
set_option maxRecDepth 20000 in
theorem b287_517 {n : Nat} {h : q_Hp} {Q : Option Value → q_Hp → Prop} {x0 : Nat} (k0 : q_ok h x0 12) (wt : (qI h x0 80) ≤ 0 → q_wp n 287 563 [some (.ref x0), none, none, none, none] [] h Q) (wf : ¬ (qI h x0 80) ≤ 0 → q_wp n 287 524 [some (.ref x0), none, none, none, none] [] h Q) : q_wp n 287 517 [some (.ref x0), none, none, none, none] [] h Q := by
  refine wp_loc rfl rfl ?_
  refine wp_getI rfl rfl rfl k0 ?_
  exact wp_ifle (tgt := 563) rfl (by decide) wt wf
set_option maxRecDepth 20000 in
theorem b287_524 {n : Nat} {h : q_Hp} {Q : Option Value → q_Hp → Prop} {x0 : Nat} {v0 : Nat} {v1 : Nat} (k0 : q_ok h x0 12) (e0 : qR h x0 59 = v0) (e1 : qR h x0 81 = v1) (k1 : q_ok h v1 20) (i0 : q_in (qI h x0 80) (qK h v1).2) (k2 : q_ok h v0 20) (i1 : q_in (qA h v1 ((qI h x0 80 : Int32).toNatClampNeg)) (qK h v0).2) (wt : ¬ (qA h v0 ((qA h v1 ((qI h x0 80 : Int32).toNatClampNeg) : Int32).toNatClampNeg)) = 7 → q_wp n 287 563 [some (.ref x0), none, none, none, none] [] h Q) (wf : (qA h v0 ((qA h v1 ((qI h x0 80 : Int32).toNatClampNeg) : Int32).toNatClampNeg)) = 7 → q_wp n 287 543 [some (.ref x0), none, none, none, none] [] h Q) : q_wp n 287 524 [some (.ref x0), none, none, none, none] [] h Q := by
  refine wp_loc rfl rfl ?_
  refine wp_getR rfl rfl rfl rfl k0 e0 ?_
  refine wp_loc rfl rfl ?_
  refine wp_getR rfl rfl rfl rfl k0 e1 ?_
  refine wp_loc rfl rfl ?_
  refine wp_getI rfl rfl rfl k0 ?_
  refine wp_iald rfl k1 i0 ?_
  refine wp_iald rfl k2 i1 ?_
  refine wp_bipush (v := 7) rfl (by decide) ?_
  exact wp_icne (tgt := 563) rfl (by decide) wt wf
set_option maxRecDepth 20000 in
theorem b287_543 {n : Nat} {h : q_Hp} {Q : Option Value → q_Hp → Prop} {x0 : Nat} {v0 : Nat} (k0 : q_ok h x0 12) (e0 : qR h x0 82 = v0) (k1 : q_ok h v0 20) (i0 : q_in (qI h x0 80) (qK h v0).2) (wt : 2 ≤ (qA h v0 ((qI h x0 80 : Int32).toNatClampNeg)) → q_wp n 287 563 [some (.ref x0), none, none, none, none] [] h Q) (wf : ¬ 2 ≤ (qA h v0 ((qI h x0 80 : Int32).toNatClampNeg)) → q_wp n 287 556 [some (.ref x0), none, none, none, none] [] h Q) : q_wp n 287 543 [some (.ref x0), none, none, none, none] [] h Q := by
  refine wp_loc rfl rfl ?_
  refine wp_getR rfl rfl rfl rfl k0 e0 ?_
  refine wp_loc rfl rfl ?_
  refine wp_getI rfl rfl rfl k0 ?_
  refine wp_iald rfl k1 i0 ?_
  refine wp_iconst (v := 2) rfl (by decide) ?_
  exact wp_icge (tgt := 563) rfl (by decide) wt wf
set_option maxRecDepth 20000 in
theorem b287_556 {n : Nat} {h : q_Hp} {Q : Option Value → q_Hp → Prop} {x0 : Nat} {m : Nat} {P : q_Hp → Prop} (hc : q_mV m 250 [.ref x0, .int 1] h P) (hm : m ≤ n) (w : ∀ h1 : q_Hp, P h1 → q_wp (n + 1) 287 561 [some (.ref x0), none, none, none, none] [] h1 Q) : q_wp (n + 1) 287 556 [some (.ref x0), none, none, none, none] [] h Q := by
  refine wp_loc rfl rfl ?_
  refine wp_iconst (v := 1) rfl (by decide) ?_
  exact wp_callV (av := [.ref x0, .int 1]) rfl rfl rfl (by decide) rfl rfl rfl hm hc w
set_option maxRecDepth 20000 in
theorem b287_561 {n : Nat} {h : q_Hp} {Q : Option Value → q_Hp → Prop} {x0 : Nat} (q : Q (some (.int 0)) h) : q_wp n 287 561 [some (.ref x0), none, none, none, none] [] h Q := by
  refine wp_iconst (v := 0) rfl (by decide) ?_
  exact wp_ret (r := some (.int 0)) rfl rfl q
set_option maxRecDepth 20000 in
theorem b287_563 {n : Nat} {h : q_Hp} {Q : Option Value → q_Hp → Prop} {x0 : Nat} {m : Nat} {P : q_Hp → Prop} (hc : q_mV m 252 [.ref x0] h P) (hm : m ≤ n) (w : ∀ h1 : q_Hp, P h1 → q_wp (n + 1) 287 567 [some (.ref x0), none, none, none, none] [] h1 Q) : q_wp (n + 1) 287 563 [some (.ref x0), none, none, none, none] [] h Q := by
  refine wp_loc rfl rfl ?_
  exact wp_callV (av := [.ref x0]) rfl rfl rfl (by decide) rfl rfl rfl hm hc w
set_option maxRecDepth 20000 in
theorem b287_567 {n : Nat} {h : q_Hp} {Q : Option Value → q_Hp → Prop} {x0 : Nat} (k0 : q_ok h x0 12) (wt : ¬ (qI h x0 80) = 0 → q_wp n 287 576 [some (.ref x0), none, none, none, none] [] h Q) (wf : (qI h x0 80) = 0 → q_wp n 287 574 [some (.ref x0), none, none, none, none] [] h Q) : q_wp n 287 567 [some (.ref x0), none, none, none, none] [] h Q := by
  refine wp_loc rfl rfl ?_
  refine wp_getI rfl rfl rfl k0 ?_
  exact wp_ifne (tgt := 576) rfl (by decide) wt wf
set_option maxRecDepth 20000 in
theorem b287_574 {n : Nat} {h : q_Hp} {Q : Option Value → q_Hp → Prop} {x0 : Nat} (q : Q (some (.int 0)) h) : q_wp n 287 574 [some (.ref x0), none, none, none, none] [] h Q := by
  refine wp_iconst (v := 0) rfl (by decide) ?_
  exact wp_ret (r := some (.int 0)) rfl rfl q
set_option maxRecDepth 20000 in
theorem b287_576 {n : Nat} {h : q_Hp} {Q : Option Value → q_Hp → Prop} {x0 : Nat} (k0 : q_ok h x0 12) (q : Q (some (.int 1)) (q_sI (q_sI h x0 80 ((qI h x0 80) - 1)) x0 12 ((qI (q_sI h x0 80 ((qI h x0 80) - 1)) x0 12) - 1))) : q_wp n 287 576 [some (.ref x0), none, none, none, none] [] h Q := by
  refine wp_loc rfl rfl ?_
  refine wp_stk rfl rfl rfl ?_
  refine wp_getI rfl rfl rfl k0 ?_
  refine wp_iconst (v := 1) rfl (by decide) ?_
  refine wp_stk rfl rfl rfl ?_
  refine wp_putI rfl rfl (Or.inl rfl) rfl (fun h9 => by cases h9) k0 ?_
  refine wp_loc rfl rfl ?_
  refine wp_stk rfl rfl rfl ?_
  refine wp_getI rfl rfl rfl k0 ?_
  refine wp_iconst (v := 1) rfl (by decide) ?_
  refine wp_stk rfl rfl rfl ?_
  refine wp_putI rfl rfl (Or.inl rfl) rfl (fun h9 => by cases h9) k0 ?_
  refine wp_iconst (v := 1) rfl (by decide) ?_
  exact wp_ret (r := some (.int 1)) rfl rfl q
set_option maxRecDepth 20000 in
theorem b287_598 {n : Nat} {h : q_Hp} {Q : Option Value → q_Hp → Prop} {x0 : Nat} {m : Nat} {P : q_Hp → Prop} (hc : q_mV m 250 [.ref x0, .int 1] h P) (hm : m ≤ n) (w : ∀ h1 : q_Hp, P h1 → q_wp (n + 1) 287 603 [some (.ref x0), none, none, none, none] [] h1 Q) : q_wp (n + 1) 287 598 [some (.ref x0), none, none, none, none] [] h Q := by
  refine wp_loc rfl rfl ?_
  refine wp_iconst (v := 1) rfl (by decide) ?_
  exact wp_callV (av := [.ref x0, .int 1]) rfl rfl rfl (by decide) rfl rfl rfl hm hc w
set_option maxRecDepth 20000 in
theorem b287_603 {n : Nat} {h : q_Hp} {Q : Option Value → q_Hp → Prop} {x0 : Nat} (q : Q (some (.int 0)) h) : q_wp n 287 603 [some (.ref x0), none, none, none, none] [] h Q := by
  refine wp_iconst (v := 0) rfl (by decide) ?_
  exact wp_ret (r := some (.int 0)) rfl rfl q
theorem b288_0 {n : Nat} {h : q_Hp} {Q : Option Value → q_Hp → Prop} {x0 : Nat} {x1 : Int32} {v0 : Nat} {v1 : Nat} (k0 : q_ok h x0 12) (e0 : qR h x0 86 = v0) (k1 : q_ok h v0 20) (i0 : q_in x1 (qK h v0).2) (e1 : qR h x0 59 = v1) (k2 : q_ok h v1 20) (i1 : q_in (qA h v0 x1.toNatClampNeg) (qK h v1).2) (wt : ¬ (qA h v1 ((qA h v0 x1.toNatClampNeg : Int32).toNatClampNeg)) = 3 → q_wp n 288 66 [some (.ref x0), some (.int x1), some (.int (qA h v0 x1.toNatClampNeg)), some (.int (-1)), none] [] h Q) (wf : (qA h v1 ((qA h v0 x1.toNatClampNeg : Int32).toNatClampNeg)) = 3 → q_wp n 288 19 [some (.ref x0), some (.int x1), some (.int (qA h v0 x1.toNatClampNeg)), some (.int (-1)), none] [] h Q) : q_wp n 288 0 [some (.ref x0), some (.int x1), none, none, none] [] h Q := by
  refine wp_loc rfl rfl ?_
  refine wp_getR rfl rfl rfl rfl k0 e0 ?_
  refine wp_loc rfl rfl ?_
  refine wp_iald rfl k1 i0 ?_
  refine wp_loc rfl rfl ?_
  refine wp_iconst (v := (-1)) rfl (by decide) ?_
  refine wp_loc rfl rfl ?_
  refine wp_loc rfl rfl ?_
  refine wp_getR rfl rfl rfl rfl k0 e1 ?_
  refine wp_loc rfl rfl ?_
  refine wp_iald rfl k2 i1 ?_
  refine wp_iconst (v := 3) rfl (by decide) ?_
  exact wp_icne (tgt := 66) rfl (by decide) wt wf
theorem b288_19 {n : Nat} {h : q_Hp} {Q : Option Value → q_Hp → Prop} {x0 : Nat} {x1 : Int32} {x2 : Int32} {x3 : Int32} (k0 : q_ok h x0 12) (w : q_wp n 288 27 [some (.ref x0), some (.int x1), some (.int x2), some (.int x3), some (.int ((qI h x0 21) - 1))] [] h Q) : q_wp n 288 19 [some (.ref x0), some (.int x1), some (.int x2), some (.int x3), none] [] h Q := by
  refine wp_loc rfl rfl ?_
  refine wp_getI rfl rfl rfl k0 ?_
  refine wp_iconst (v := 1) rfl (by decide) ?_
  refine wp_stk rfl rfl rfl ?_
  refine wp_loc rfl rfl ?_
  exact w
theorem b288_27 {n : Nat} {h : q_Hp} {Q : Option Value → q_Hp → Prop} {x0 : Nat} {x1 : Int32} {x2 : Int32} {x3 : Int32} {x4 : Int32} (wt : x4 < 0 → q_wp n 288 63 [some (.ref x0), some (.int x1), some (.int x2), some (.int x3), some (.int x4)] [] h Q) (wf : ¬ x4 < 0 → q_wp n 288 32 [some (.ref x0), some (.int x1), some (.int x2), some (.int x3), some (.int x4)] [] h Q) : q_wp n 288 27 [some (.ref x0), some (.int x1), some (.int x2), some (.int x3), some (.int x4)] [] h Q := by
  refine wp_loc rfl rfl ?_
  exact wp_iflt (tgt := 63) rfl (by decide) wt wf
theorem b288_32 {n : Nat} {h : q_Hp} {Q : Option Value → q_Hp → Prop} {x0 : Nat} {x1 : Int32} {x2 : Int32} {x3 : Int32} {x4 : Int32} {v0 : Nat} {v1 : Nat} {v2 : Nat} (k0 : q_ok h x0 12) (e0 : qR h x0 67 = v0) (k1 : q_ok h v0 21) (i0 : q_in x4 (qK h v0).2) (e1 : qR h x0 8 = v1) (e2 : qR h x0 85 = v2) (k2 : q_ok h v2 20) (i1 : q_in x1 (qK h v2).2) (k3 : q_ok h v1 21) (i2 : q_in (qA h v2 x1.toNatClampNeg) (qK h v1).2) (wt : ¬ (lg_cmp (qL h v0 x4.toNatClampNeg) (qL h v1 ((qA h v2 x1.toNatClampNeg : Int32).toNatClampNeg))) = 0 → q_wp n 288 57 [some (.ref x0), some (.int x1), some (.int x2), some (.int x3), some (.int x4)] [] h Q) (wf : (lg_cmp (qL h v0 x4.toNatClampNeg) (qL h v1 ((qA h v2 x1.toNatClampNeg : Int32).toNatClampNeg))) = 0 → q_wp n 288 54 [some (.ref x0), some (.int x1), some (.int x2), some (.int x3), some (.int x4)] [] h Q) : q_wp n 288 32 [some (.ref x0), some (.int x1), some (.int x2), some (.int x3), some (.int x4)] [] h Q := by
  refine wp_loc rfl rfl ?_
  refine wp_getR rfl rfl rfl rfl k0 e0 ?_
  refine wp_loc rfl rfl ?_
  refine wp_lald rfl k1 i0 ?_
  refine wp_loc rfl rfl ?_
  refine wp_getR rfl rfl rfl rfl k0 e1 ?_
  refine wp_loc rfl rfl ?_
  refine wp_getR rfl rfl rfl rfl k0 e2 ?_
  refine wp_loc rfl rfl ?_
  refine wp_iald rfl k2 i1 ?_
  refine wp_lald rfl k3 i2 ?_
  refine wp_stk rfl rfl rfl ?_
  exact wp_ifne (tgt := 57) rfl (by decide) wt wf
theorem b288_54 {n : Nat} {h : q_Hp} {Q : Option Value → q_Hp → Prop} {x0 : Nat} {x1 : Int32} {x2 : Int32} {x3 : Int32} {x4 : Int32} (w : q_wp n 288 57 [some (.ref x0), some (.int x1), some (.int x2), some (.int x4), some (.int x4)] [] h Q) : q_wp n 288 54 [some (.ref x0), some (.int x1), some (.int x2), some (.int x3), some (.int x4)] [] h Q := by
  refine wp_loc rfl rfl ?_
  refine wp_loc rfl rfl ?_
  exact w
theorem b288_57 {n : Nat} {h : q_Hp} {Q : Option Value → q_Hp → Prop} {x0 : Nat} {x1 : Int32} {x2 : Int32} {x3 : Int32} {x4 : Int32} (w : q_wp n 288 27 [some (.ref x0), some (.int x1), some (.int x2), some (.int x3), some (.int (x4 + (-1)))] [] h Q) : q_wp n 288 57 [some (.ref x0), some (.int x1), some (.int x2), some (.int x3), some (.int x4)] [] h Q := by
  refine wp_iinc (v := (-1)) rfl rfl (by decide) rfl ?_
  refine wp_goto (tgt := 27) rfl (by decide) ?_
  exact w
theorem b288_63 {n : Nat} {h : q_Hp} {Q : Option Value → q_Hp → Prop} {x0 : Nat} {x1 : Int32} {x2 : Int32} {x3 : Int32} {x4 : Int32} (w : q_wp n 288 110 [some (.ref x0), some (.int x1), some (.int x2), some (.int x3), some (.int x4)] [] h Q) : q_wp n 288 63 [some (.ref x0), some (.int x1), some (.int x2), some (.int x3), some (.int x4)] [] h Q := by
  refine wp_goto (tgt := 110) rfl (by decide) ?_
  exact w
theorem b288_66 {n : Nat} {h : q_Hp} {Q : Option Value → q_Hp → Prop} {x0 : Nat} {x1 : Int32} {x2 : Int32} {x3 : Int32} (k0 : q_ok h x0 12) (w : q_wp n 288 74 [some (.ref x0), some (.int x1), some (.int x2), some (.int x3), some (.int ((qI h x0 20) - 1))] [] h Q) : q_wp n 288 66 [some (.ref x0), some (.int x1), some (.int x2), some (.int x3), none] [] h Q := by
  refine wp_loc rfl rfl ?_
  refine wp_getI rfl rfl rfl k0 ?_
  refine wp_iconst (v := 1) rfl (by decide) ?_
  refine wp_stk rfl rfl rfl ?_
  refine wp_loc rfl rfl ?_
  exact w
theorem b288_74 {n : Nat} {h : q_Hp} {Q : Option Value → q_Hp → Prop} {x0 : Nat} {x1 : Int32} {x2 : Int32} {x3 : Int32} {x4 : Int32} (wt : x4 < 0 → q_wp n 288 110 [some (.ref x0), some (.int x1), some (.int x2), some (.int x3), some (.int x4)] [] h Q) (wf : ¬ x4 < 0 → q_wp n 288 79 [some (.ref x0), some (.int x1), some (.int x2), some (.int x3), some (.int x4)] [] h Q) : q_wp n 288 74 [some (.ref x0), some (.int x1), some (.int x2), some (.int x3), some (.int x4)] [] h Q := by
  refine wp_loc rfl rfl ?_
  exact wp_iflt (tgt := 110) rfl (by decide) wt wf
theorem b288_79 {n : Nat} {h : q_Hp} {Q : Option Value → q_Hp → Prop} {x0 : Nat} {x1 : Int32} {x2 : Int32} {x3 : Int32} {x4 : Int32} {v0 : Nat} {v1 : Nat} {v2 : Nat} (k0 : q_ok h x0 12) (e0 : qR h x0 66 = v0) (k1 : q_ok h v0 21) (i0 : q_in x4 (qK h v0).2) (e1 : qR h x0 8 = v1) (e2 : qR h x0 85 = v2) (k2 : q_ok h v2 20) (i1 : q_in x1 (qK h v2).2) (k3 : q_ok h v1 21) (i2 : q_in (qA h v2 x1.toNatClampNeg) (qK h v1).2) (wt : ¬ (lg_cmp (qL h v0 x4.toNatClampNeg) (qL h v1 ((qA h v2 x1.toNatClampNeg : Int32).toNatClampNeg))) = 0 → q_wp n 288 104 [some (.ref x0), some (.int x1), some (.int x2), some (.int x3), some (.int x4)] [] h Q) (wf : (lg_cmp (qL h v0 x4.toNatClampNeg) (qL h v1 ((qA h v2 x1.toNatClampNeg : Int32).toNatClampNeg))) = 0 → q_wp n 288 101 [some (.ref x0), some (.int x1), some (.int x2), some (.int x3), some (.int x4)] [] h Q) : q_wp n 288 79 [some (.ref x0), some (.int x1), some (.int x2), some (.int x3), some (.int x4)] [] h Q := by
  refine wp_loc rfl rfl ?_
  refine wp_getR rfl rfl rfl rfl k0 e0 ?_
  refine wp_loc rfl rfl ?_
  refine wp_lald rfl k1 i0 ?_
  refine wp_loc rfl rfl ?_
  refine wp_getR rfl rfl rfl rfl k0 e1 ?_
  refine wp_loc rfl rfl ?_
  refine wp_getR rfl rfl rfl rfl k0 e2 ?_
  refine wp_loc rfl rfl ?_
  refine wp_iald rfl k2 i1 ?_
  refine wp_lald rfl k3 i2 ?_
  refine wp_stk rfl rfl rfl ?_
  exact wp_ifne (tgt := 104) rfl (by decide) wt wf
theorem b288_101 {n : Nat} {h : q_Hp} {Q : Option Value → q_Hp → Prop} {x0 : Nat} {x1 : Int32} {x2 : Int32} {x3 : Int32} {x4 : Int32} (w : q_wp n 288 104 [some (.ref x0), some (.int x1), some (.int x2), some (.int x4), some (.int x4)] [] h Q) : q_wp n 288 101 [some (.ref x0), some (.int x1), some (.int x2), some (.int x3), some (.int x4)] [] h Q := by
  refine wp_loc rfl rfl ?_
  refine wp_loc rfl rfl ?_
  exact w
theorem b288_104 {n : Nat} {h : q_Hp} {Q : Option Value → q_Hp → Prop} {x0 : Nat} {x1 : Int32} {x2 : Int32} {x3 : Int32} {x4 : Int32} (w : q_wp n 288 74 [some (.ref x0), some (.int x1), some (.int x2), some (.int x3), some (.int (x4 + (-1)))] [] h Q) : q_wp n 288 104 [some (.ref x0), some (.int x1), some (.int x2), some (.int x3), some (.int x4)] [] h Q := by
  refine wp_iinc (v := (-1)) rfl rfl (by decide) rfl ?_
  refine wp_goto (tgt := 74) rfl (by decide) ?_
  exact w
theorem b288_110 {n : Nat} {h : q_Hp} {Q : Option Value → q_Hp → Prop} {x0 : Nat} {x1 : Int32} {x2 : Int32} {x3 : Int32} {x4 : Int32} (wt : ¬ x3 = (-1) → q_wp n 288 126 [some (.ref x0), some (.int x1), some (.int x2), some (.int x3), some (.int x4)] [] h Q) (wf : x3 = (-1) → q_wp n 288 115 [some (.ref x0), some (.int x1), some (.int x2), some (.int x3), some (.int x4)] [] h Q) : q_wp n 288 110 [some (.ref x0), some (.int x1), some (.int x2), some (.int x3), some (.int x4)] [] h Q := by
  refine wp_loc rfl rfl ?_
  refine wp_iconst (v := (-1)) rfl (by decide) ?_
  exact wp_icne (tgt := 126) rfl (by decide) wt wf
theorem b288_115 {n : Nat} {h : q_Hp} {Q : Option Value → q_Hp → Prop} {x0 : Nat} {x1 : Int32} {x2 : Int32} {x3 : Int32} {x4 : Int32} {v0 : Nat} (k0 : q_ok h x0 12) (e0 : qR h x0 85 = v0) (k1 : q_ok h v0 20) (i0 : q_in x1 (qK h v0).2) {m : Nat} {P : q_Hp → Prop} (hc : q_mV m 251 [.ref x0, .int 4, .int (qA h v0 x1.toNatClampNeg)] h P) (hm : m ≤ n) (w : ∀ h1 : q_Hp, P h1 → q_wp (n + 1) 288 126 [some (.ref x0), some (.int x1), some (.int x2), some (.int x3), some (.int x4)] [] h1 Q) : q_wp (n + 1) 288 115 [some (.ref x0), some (.int x1), some (.int x2), some (.int x3), some (.int x4)] [] h Q := by
  refine wp_loc rfl rfl ?_
  refine wp_iconst (v := 4) rfl (by decide) ?_
  refine wp_loc rfl rfl ?_
  refine wp_getR rfl rfl rfl rfl k0 e0 ?_
  refine wp_loc rfl rfl ?_
  refine wp_iald rfl k1 i0 ?_
  exact wp_callV (av := [.ref x0, .int 4, .int (qA h v0 x1.toNatClampNeg)]) rfl rfl rfl (by decide) rfl rfl rfl hm hc w
theorem b288_126 {n : Nat} {h : q_Hp} {Q : Option Value → q_Hp → Prop} {x0 : Nat} {x1 : Int32} {x2 : Int32} {x3 : Int32} {x4 : Int32} {v0 : Nat} (k0 : q_ok h x0 12) (e0 : qR h x0 60 = v0) (k1 : q_ok h v0 20) (i0 : q_in x2 (qK h v0).2) (q : Q none (q_sA h v0 x2.toNatClampNeg x3)) : q_wp n 288 126 [some (.ref x0), some (.int x1), some (.int x2), some (.int x3), some (.int x4)] [] h Q := by
  refine wp_loc rfl rfl ?_
  refine wp_getR rfl rfl rfl rfl k0 e0 ?_
  refine wp_loc rfl rfl ?_
  refine wp_loc rfl rfl ?_
  refine wp_iast rfl k1 i0 ?_
  exact wp_ret rfl rfl q
set_option maxRecDepth 20000 in
theorem b289_0 {n : Nat} {h : q_Hp} {Q : Option Value → q_Hp → Prop} {x0 : Nat} (k0 : q_ok h x0 12) (w : q_wp n 289 34 [some (.ref x0), some (.int 0), none] [] (q_sI (q_sI (q_sI (q_sI h x0 24 (qI h x0 18)) x0 25 (qI (q_sI h x0 24 (qI h x0 18)) x0 19)) x0 26 (qI (q_sI (q_sI h x0 24 (qI h x0 18)) x0 25 (qI (q_sI h x0 24 (qI h x0 18)) x0 19)) x0 20)) x0 27 (qI (q_sI (q_sI (q_sI h x0 24 (qI h x0 18)) x0 25 (qI (q_sI h x0 24 (qI h x0 18)) x0 19)) x0 26 (qI (q_sI (q_sI h x0 24 (qI h x0 18)) x0 25 (qI (q_sI h x0 24 (qI h x0 18)) x0 19)) x0 20)) x0 21)) Q) : q_wp n 289 0 [some (.ref x0), none, none] [] h Q := by
  refine wp_loc rfl rfl ?_
  refine wp_loc rfl rfl ?_
  refine wp_getI rfl rfl rfl k0 ?_
  refine wp_putI rfl rfl (Or.inl rfl) rfl (fun h9 => by cases h9) k0 ?_
  refine wp_loc rfl rfl ?_
  refine wp_loc rfl rfl ?_
  refine wp_getI rfl rfl rfl k0 ?_
  refine wp_putI rfl rfl (Or.inl rfl) rfl (fun h9 => by cases h9) k0 ?_
  refine wp_loc rfl rfl ?_
  refine wp_loc rfl rfl ?_
  refine wp_getI rfl rfl rfl k0 ?_
  refine wp_putI rfl rfl (Or.inl rfl) rfl (fun h9 => by cases h9) k0 ?_
  refine wp_loc rfl rfl ?_
  refine wp_loc rfl rfl ?_
  refine wp_getI rfl rfl rfl k0 ?_
  refine wp_putI rfl rfl (Or.inl rfl) rfl (fun h9 => by cases h9) k0 ?_
  refine wp_iconst (v := 0) rfl (by decide) ?_
  refine wp_loc rfl rfl ?_
  exact w
set_option maxRecDepth 20000 in
theorem b289_34 {n : Nat} {h : q_Hp} {Q : Option Value → q_Hp → Prop} {x0 : Nat} {x1 : Int32} (wt : 12 ≤ x1 → q_wp n 289 91 [some (.ref x0), some (.int x1), none] [] h Q) (wf : ¬ 12 ≤ x1 → q_wp n 289 40 [some (.ref x0), some (.int x1), none] [] h Q) : q_wp n 289 34 [some (.ref x0), some (.int x1), none] [] h Q := by
  refine wp_loc rfl rfl ?_
  refine wp_bipush (v := 12) rfl (by decide) ?_
  exact wp_icge (tgt := 91) rfl (by decide) wt wf
set_option maxRecDepth 20000 in
theorem b289_40 {n : Nat} {h : q_Hp} {Q : Option Value → q_Hp → Prop} {x0 : Nat} {x1 : Int32} {v0 : Nat} {v1 : Nat} {v2 : Nat} (k0 : q_ok h x0 12) (e0 : qR h x0 28 = v0) (k1 : q_ok h v0 20) (i0 : q_in (12 + x1) (qK h v0).2) (i1 : q_in x1 (qK h v0).2) (e1 : qR h x0 29 = v1) (k2 : q_ok h v1 20) (i2 : q_in (12 + x1) (qK h v1).2) (i3 : q_in x1 (qK h v1).2) (e2 : qR h x0 30 = v2) (k3 : q_ok h v2 20) (i4 : q_in (12 + x1) (qK h v2).2) (i5 : q_in x1 (qK h v2).2) (w : q_wp n 289 34 [some (.ref x0), some (.int (x1 + 1)), none] [] (q_sA (q_sA (q_sA h v0 x1.toNatClampNeg (qA h v0 ((12 + x1 : Int32).toNatClampNeg))) v1 x1.toNatClampNeg (qA (q_sA h v0 x1.toNatClampNeg (qA h v0 ((12 + x1 : Int32).toNatClampNeg))) v1 ((12 + x1 : Int32).toNatClampNeg))) v2 x1.toNatClampNeg (qA (q_sA (q_sA h v0 x1.toNatClampNeg (qA h v0 ((12 + x1 : Int32).toNatClampNeg))) v1 x1.toNatClampNeg (qA (q_sA h v0 x1.toNatClampNeg (qA h v0 ((12 + x1 : Int32).toNatClampNeg))) v1 ((12 + x1 : Int32).toNatClampNeg))) v2 ((12 + x1 : Int32).toNatClampNeg))) Q) : q_wp n 289 40 [some (.ref x0), some (.int x1), none] [] h Q := by
  refine wp_loc rfl rfl ?_
  refine wp_getR rfl rfl rfl rfl k0 e0 ?_
  refine wp_loc rfl rfl ?_
  refine wp_loc rfl rfl ?_
  refine wp_getR rfl rfl rfl rfl k0 e0 ?_
  refine wp_bipush (v := 12) rfl (by decide) ?_
  refine wp_loc rfl rfl ?_
  refine wp_stk rfl rfl rfl ?_
  refine wp_iald rfl k1 i0 ?_
  refine wp_iast rfl k1 i1 ?_
  refine wp_loc rfl rfl ?_
  refine wp_getR rfl rfl rfl rfl k0 e1 ?_
  refine wp_loc rfl rfl ?_
  refine wp_loc rfl rfl ?_
  refine wp_getR rfl rfl rfl rfl k0 e1 ?_
  refine wp_bipush (v := 12) rfl (by decide) ?_
  refine wp_loc rfl rfl ?_
  refine wp_stk rfl rfl rfl ?_
  refine wp_iald rfl k2 i2 ?_
  refine wp_iast rfl k2 i3 ?_
  refine wp_loc rfl rfl ?_
  refine wp_getR rfl rfl rfl rfl k0 e2 ?_
  refine wp_loc rfl rfl ?_
  refine wp_loc rfl rfl ?_
  refine wp_getR rfl rfl rfl rfl k0 e2 ?_
  refine wp_bipush (v := 12) rfl (by decide) ?_
  refine wp_loc rfl rfl ?_
  refine wp_stk rfl rfl rfl ?_
  refine wp_iald rfl k3 i4 ?_
  refine wp_iast rfl k3 i5 ?_
  refine wp_iinc (v := 1) rfl rfl (by decide) rfl ?_
  refine wp_goto (tgt := 34) rfl (by decide) ?_
  exact w
set_option maxRecDepth 20000 in
theorem b289_91 {n : Nat} {h : q_Hp} {Q : Option Value → q_Hp → Prop} {x0 : Nat} {x1 : Int32} (w : q_wp n 289 93 [some (.ref x0), some (.int 0), none] [] h Q) : q_wp n 289 91 [some (.ref x0), some (.int x1), none] [] h Q := by
  refine wp_iconst (v := 0) rfl (by decide) ?_
  refine wp_loc rfl rfl ?_
  exact w
set_option maxRecDepth 20000 in
theorem b289_93 {n : Nat} {h : q_Hp} {Q : Option Value → q_Hp → Prop} {x0 : Nat} {x1 : Int32} (wt : 20 ≤ x1 → q_wp n 289 195 [some (.ref x0), some (.int x1), none] [] h Q) (wf : ¬ 20 ≤ x1 → q_wp n 289 99 [some (.ref x0), some (.int x1), none] [] h Q) : q_wp n 289 93 [some (.ref x0), some (.int x1), none] [] h Q := by
  refine wp_loc rfl rfl ?_
  refine wp_bipush (v := 20) rfl (by decide) ?_
  exact wp_icge (tgt := 195) rfl (by decide) wt wf
set_option maxRecDepth 20000 in
theorem b289_99 {n : Nat} {h : q_Hp} {Q : Option Value → q_Hp → Prop} {x0 : Nat} {x1 : Int32} {v0 : Nat} {v1 : Nat} {v2 : Nat} {v3 : Nat} {v4 : Nat} {v5 : Nat} (k0 : q_ok h x0 12) (e0 : qR h x0 31 = v0) (k1 : q_ok h v0 20) (i0 : q_in (20 + x1) (qK h v0).2) (i1 : q_in x1 (qK h v0).2) (e1 : qR h x0 32 = v1) (k2 : q_ok h v1 20) (i2 : q_in (20 + x1) (qK h v1).2) (i3 : q_in x1 (qK h v1).2) (e2 : qR h x0 33 = v2) (b10 : q_ok h v2 22 ∨ q_ok h v2 23) (i4 : q_in (20 + x1) (qK h v2).2) (k3 : q_ok h v2 23) (i5 : q_in x1 (qK h v2).2) (e3 : qR h x0 38 = v3) (k4 : q_ok h v3 20) (i6 : q_in (20 + x1) (qK h v3).2) (i7 : q_in x1 (qK h v3).2) (e4 : qR h x0 44 = v4) (k5 : q_ok h v4 20) (i8 : q_in (20 + x1) (qK h v4).2) (i9 : q_in x1 (qK h v4).2) (e5 : qR h x0 49 = v5) (k6 : q_ok h v5 20) (i10 : q_in (20 + x1) (qK h v5).2) (i11 : q_in x1 (qK h v5).2) (w : q_wp n 289 93 [some (.ref x0), some (.int (x1 + 1)), none] [] (q_sA (q_sA (q_sA (q_sA (q_sA (q_sA h v0 x1.toNatClampNeg (qA h v0 ((20 + x1 : Int32).toNatClampNeg))) v1 x1.toNatClampNeg (qA (q_sA h v0 x1.toNatClampNeg (qA h v0 ((20 + x1 : Int32).toNatClampNeg))) v1 ((20 + x1 : Int32).toNatClampNeg))) v2 x1.toNatClampNeg (vp_nar .boolean (qA (q_sA (q_sA h v0 x1.toNatClampNeg (qA h v0 ((20 + x1 : Int32).toNatClampNeg))) v1 x1.toNatClampNeg (qA (q_sA h v0 x1.toNatClampNeg (qA h v0 ((20 + x1 : Int32).toNatClampNeg))) v1 ((20 + x1 : Int32).toNatClampNeg))) v2 ((20 + x1 : Int32).toNatClampNeg)))) v3 x1.toNatClampNeg (qA (q_sA (q_sA (q_sA h v0 x1.toNatClampNeg (qA h v0 ((20 + x1 : Int32).toNatClampNeg))) v1 x1.toNatClampNeg (qA (q_sA h v0 x1.toNatClampNeg (qA h v0 ((20 + x1 : Int32).toNatClampNeg))) v1 ((20 + x1 : Int32).toNatClampNeg))) v2 x1.toNatClampNeg (vp_nar .boolean (qA (q_sA (q_sA h v0 x1.toNatClampNeg (qA h v0 ((20 + x1 : Int32).toNatClampNeg))) v1 x1.toNatClampNeg (qA (q_sA h v0 x1.toNatClampNeg (qA h v0 ((20 + x1 : Int32).toNatClampNeg))) v1 ((20 + x1 : Int32).toNatClampNeg))) v2 ((20 + x1 : Int32).toNatClampNeg)))) v3 ((20 + x1 : Int32).toNatClampNeg))) v4 x1.toNatClampNeg (qA (q_sA (q_sA (q_sA (q_sA h v0 x1.toNatClampNeg (qA h v0 ((20 + x1 : Int32).toNatClampNeg))) v1 x1.toNatClampNeg (qA (q_sA h v0 x1.toNatClampNeg (qA h v0 ((20 + x1 : Int32).toNatClampNeg))) v1 ((20 + x1 : Int32).toNatClampNeg))) v2 x1.toNatClampNeg (vp_nar .boolean (qA (q_sA (q_sA h v0 x1.toNatClampNeg (qA h v0 ((20 + x1 : Int32).toNatClampNeg))) v1 x1.toNatClampNeg (qA (q_sA h v0 x1.toNatClampNeg (qA h v0 ((20 + x1 : Int32).toNatClampNeg))) v1 ((20 + x1 : Int32).toNatClampNeg))) v2 ((20 + x1 : Int32).toNatClampNeg)))) v3 x1.toNatClampNeg (qA (q_sA (q_sA (q_sA h v0 x1.toNatClampNeg (qA h v0 ((20 + x1 : Int32).toNatClampNeg))) v1 x1.toNatClampNeg (qA (q_sA h v0 x1.toNatClampNeg (qA h v0 ((20 + x1 : Int32).toNatClampNeg))) v1 ((20 + x1 : Int32).toNatClampNeg))) v2 x1.toNatClampNeg (vp_nar .boolean (qA (q_sA (q_sA h v0 x1.toNatClampNeg (qA h v0 ((20 + x1 : Int32).toNatClampNeg))) v1 x1.toNatClampNeg (qA (q_sA h v0 x1.toNatClampNeg (qA h v0 ((20 + x1 : Int32).toNatClampNeg))) v1 ((20 + x1 : Int32).toNatClampNeg))) v2 ((20 + x1 : Int32).toNatClampNeg)))) v3 ((20 + x1 : Int32).toNatClampNeg))) v4 ((20 + x1 : Int32).toNatClampNeg))) v5 x1.toNatClampNeg (qA (q_sA (q_sA (q_sA (q_sA (q_sA h v0 x1.toNatClampNeg (qA h v0 ((20 + x1 : Int32).toNatClampNeg))) v1 x1.toNatClampNeg (qA (q_sA h v0 x1.toNatClampNeg (qA h v0 ((20 + x1 : Int32).toNatClampNeg))) v1 ((20 + x1 : Int32).toNatClampNeg))) v2 x1.toNatClampNeg (vp_nar .boolean (qA (q_sA (q_sA h v0 x1.toNatClampNeg (qA h v0 ((20 + x1 : Int32).toNatClampNeg))) v1 x1.toNatClampNeg (qA (q_sA h v0 x1.toNatClampNeg (qA h v0 ((20 + x1 : Int32).toNatClampNeg))) v1 ((20 + x1 : Int32).toNatClampNeg))) v2 ((20 + x1 : Int32).toNatClampNeg)))) v3 x1.toNatClampNeg (qA (q_sA (q_sA (q_sA h v0 x1.toNatClampNeg (qA h v0 ((20 + x1 : Int32).toNatClampNeg))) v1 x1.toNatClampNeg (qA (q_sA h v0 x1.toNatClampNeg (qA h v0 ((20 + x1 : Int32).toNatClampNeg))) v1 ((20 + x1 : Int32).toNatClampNeg))) v2 x1.toNatClampNeg (vp_nar .boolean (qA (q_sA (q_sA h v0 x1.toNatClampNeg (qA h v0 ((20 + x1 : Int32).toNatClampNeg))) v1 x1.toNatClampNeg (qA (q_sA h v0 x1.toNatClampNeg (qA h v0 ((20 + x1 : Int32).toNatClampNeg))) v1 ((20 + x1 : Int32).toNatClampNeg))) v2 ((20 + x1 : Int32).toNatClampNeg)))) v3 ((20 + x1 : Int32).toNatClampNeg))) v4 x1.toNatClampNeg (qA (q_sA (q_sA (q_sA (q_sA h v0 x1.toNatClampNeg (qA h v0 ((20 + x1 : Int32).toNatClampNeg))) v1 x1.toNatClampNeg (qA (q_sA h v0 x1.toNatClampNeg (qA h v0 ((20 + x1 : Int32).toNatClampNeg))) v1 ((20 + x1 : Int32).toNatClampNeg))) v2 x1.toNatClampNeg (vp_nar .boolean (qA (q_sA (q_sA h v0 x1.toNatClampNeg (qA h v0 ((20 + x1 : Int32).toNatClampNeg))) v1 x1.toNatClampNeg (qA (q_sA h v0 x1.toNatClampNeg (qA h v0 ((20 + x1 : Int32).toNatClampNeg))) v1 ((20 + x1 : Int32).toNatClampNeg))) v2 ((20 + x1 : Int32).toNatClampNeg)))) v3 x1.toNatClampNeg (qA (q_sA (q_sA (q_sA h v0 x1.toNatClampNeg (qA h v0 ((20 + x1 : Int32).toNatClampNeg))) v1 x1.toNatClampNeg (qA (q_sA h v0 x1.toNatClampNeg (qA h v0 ((20 + x1 : Int32).toNatClampNeg))) v1 ((20 + x1 : Int32).toNatClampNeg))) v2 x1.toNatClampNeg (vp_nar .boolean (qA (q_sA (q_sA h v0 x1.toNatClampNeg (qA h v0 ((20 + x1 : Int32).toNatClampNeg))) v1 x1.toNatClampNeg (qA (q_sA h v0 x1.toNatClampNeg (qA h v0 ((20 + x1 : Int32).toNatClampNeg))) v1 ((20 + x1 : Int32).toNatClampNeg))) v2 ((20 + x1 : Int32).toNatClampNeg)))) v3 ((20 + x1 : Int32).toNatClampNeg))) v4 ((20 + x1 : Int32).toNatClampNeg))) v5 ((20 + x1 : Int32).toNatClampNeg))) Q) : q_wp n 289 99 [some (.ref x0), some (.int x1), none] [] h Q := by
  refine wp_loc rfl rfl ?_
  refine wp_getR rfl rfl rfl rfl k0 e0 ?_
  refine wp_loc rfl rfl ?_
  refine wp_loc rfl rfl ?_
  refine wp_getR rfl rfl rfl rfl k0 e0 ?_
  refine wp_bipush (v := 20) rfl (by decide) ?_
  refine wp_loc rfl rfl ?_
  refine wp_stk rfl rfl rfl ?_
  refine wp_iald rfl k1 i0 ?_
  refine wp_iast rfl k1 i1 ?_
  refine wp_loc rfl rfl ?_
  refine wp_getR rfl rfl rfl rfl k0 e1 ?_
  refine wp_loc rfl rfl ?_
  refine wp_loc rfl rfl ?_
  refine wp_getR rfl rfl rfl rfl k0 e1 ?_
  refine wp_bipush (v := 20) rfl (by decide) ?_
  refine wp_loc rfl rfl ?_
  refine wp_stk rfl rfl rfl ?_
  refine wp_iald rfl k2 i2 ?_
  refine wp_iast rfl k2 i3 ?_
  refine wp_loc rfl rfl ?_
  refine wp_getR rfl rfl rfl rfl k0 e2 ?_
  refine wp_loc rfl rfl ?_
  refine wp_loc rfl rfl ?_
  refine wp_getR rfl rfl rfl rfl k0 e2 ?_
  refine wp_bipush (v := 20) rfl (by decide) ?_
  refine wp_loc rfl rfl ?_
  refine wp_stk rfl rfl rfl ?_
  refine wp_bald rfl b10 i4 ?_
  refine wp_zast rfl k3 i5 ?_
  refine wp_loc rfl rfl ?_
  refine wp_getR rfl rfl rfl rfl k0 e3 ?_
  refine wp_loc rfl rfl ?_
  refine wp_loc rfl rfl ?_
  refine wp_getR rfl rfl rfl rfl k0 e3 ?_
  refine wp_bipush (v := 20) rfl (by decide) ?_
  refine wp_loc rfl rfl ?_
  refine wp_stk rfl rfl rfl ?_
  refine wp_iald rfl k4 i6 ?_
  refine wp_iast rfl k4 i7 ?_
  refine wp_loc rfl rfl ?_
  refine wp_getR rfl rfl rfl rfl k0 e4 ?_
  refine wp_loc rfl rfl ?_
  refine wp_loc rfl rfl ?_
  refine wp_getR rfl rfl rfl rfl k0 e4 ?_
  refine wp_bipush (v := 20) rfl (by decide) ?_
  refine wp_loc rfl rfl ?_
  refine wp_stk rfl rfl rfl ?_
  refine wp_iald rfl k5 i8 ?_
  refine wp_iast rfl k5 i9 ?_
  refine wp_loc rfl rfl ?_
  refine wp_getR rfl rfl rfl rfl k0 e5 ?_
  refine wp_loc rfl rfl ?_
  refine wp_loc rfl rfl ?_
  refine wp_getR rfl rfl rfl rfl k0 e5 ?_
  refine wp_bipush (v := 20) rfl (by decide) ?_
  refine wp_loc rfl rfl ?_
  refine wp_stk rfl rfl rfl ?_
  refine wp_iald rfl k6 i10 ?_
  refine wp_iast rfl k6 i11 ?_
  refine wp_iinc (v := 1) rfl rfl (by decide) rfl ?_
  refine wp_goto (tgt := 93) rfl (by decide) ?_
  exact w
set_option maxRecDepth 20000 in
theorem b289_195 {n : Nat} {h : q_Hp} {Q : Option Value → q_Hp → Prop} {x0 : Nat} {x1 : Int32} (w : q_wp n 289 197 [some (.ref x0), some (.int 0), none] [] h Q) : q_wp n 289 195 [some (.ref x0), some (.int x1), none] [] h Q := by
  refine wp_iconst (v := 0) rfl (by decide) ?_
  refine wp_loc rfl rfl ?_
  exact w
set_option maxRecDepth 20000 in
theorem b289_197 {n : Nat} {h : q_Hp} {Q : Option Value → q_Hp → Prop} {x0 : Nat} {x1 : Int32} (wt : 80 ≤ x1 → q_wp n 289 296 [some (.ref x0), some (.int x1), none] [] h Q) (wf : ¬ 80 ≤ x1 → q_wp n 289 203 [some (.ref x0), some (.int x1), none] [] h Q) : q_wp n 289 197 [some (.ref x0), some (.int x1), none] [] h Q := by
  refine wp_loc rfl rfl ?_
  refine wp_bipush (v := 80) rfl (by decide) ?_
  exact wp_icge (tgt := 296) rfl (by decide) wt wf
set_option maxRecDepth 20000 in
theorem b289_203 {n : Nat} {h : q_Hp} {Q : Option Value → q_Hp → Prop} {x0 : Nat} {x1 : Int32} {v0 : Nat} {v1 : Nat} {v2 : Nat} {v3 : Nat} {v4 : Nat} (k0 : q_ok h x0 12) (e0 : qR h x0 34 = v0) (k1 : q_ok h v0 20) (i0 : q_in (80 + x1) (qK h v0).2) (i1 : q_in x1 (qK h v0).2) (e1 : qR h x0 45 = v1) (k2 : q_ok h v1 20) (i2 : q_in (80 + x1) (qK h v1).2) (i3 : q_in x1 (qK h v1).2) (e2 : qR h x0 46 = v2) (k3 : q_ok h v2 20) (i4 : q_in (80 + x1) (qK h v2).2) (i5 : q_in x1 (qK h v2).2) (e3 : qR h x0 47 = v3) (k4 : q_ok h v3 20) (i6 : q_in (80 + x1) (qK h v3).2) (i7 : q_in x1 (qK h v3).2) (e4 : qR h x0 48 = v4) (k5 : q_ok h v4 20) (i8 : q_in (80 + x1) (qK h v4).2) (i9 : q_in x1 (qK h v4).2) (w : q_wp n 289 197 [some (.ref x0), some (.int (x1 + 1)), none] [] (q_sA (q_sA (q_sA (q_sA (q_sA h v0 x1.toNatClampNeg (qA h v0 ((80 + x1 : Int32).toNatClampNeg))) v1 x1.toNatClampNeg (qA (q_sA h v0 x1.toNatClampNeg (qA h v0 ((80 + x1 : Int32).toNatClampNeg))) v1 ((80 + x1 : Int32).toNatClampNeg))) v2 x1.toNatClampNeg ((qA (q_sA (q_sA h v0 x1.toNatClampNeg (qA h v0 ((80 + x1 : Int32).toNatClampNeg))) v1 x1.toNatClampNeg (qA (q_sA h v0 x1.toNatClampNeg (qA h v0 ((80 + x1 : Int32).toNatClampNeg))) v1 ((80 + x1 : Int32).toNatClampNeg))) v2 ((80 + x1 : Int32).toNatClampNeg)) - 1300)) v3 x1.toNatClampNeg ((qA (q_sA (q_sA (q_sA h v0 x1.toNatClampNeg (qA h v0 ((80 + x1 : Int32).toNatClampNeg))) v1 x1.toNatClampNeg (qA (q_sA h v0 x1.toNatClampNeg (qA h v0 ((80 + x1 : Int32).toNatClampNeg))) v1 ((80 + x1 : Int32).toNatClampNeg))) v2 x1.toNatClampNeg ((qA (q_sA (q_sA h v0 x1.toNatClampNeg (qA h v0 ((80 + x1 : Int32).toNatClampNeg))) v1 x1.toNatClampNeg (qA (q_sA h v0 x1.toNatClampNeg (qA h v0 ((80 + x1 : Int32).toNatClampNeg))) v1 ((80 + x1 : Int32).toNatClampNeg))) v2 ((80 + x1 : Int32).toNatClampNeg)) - 1300)) v3 ((80 + x1 : Int32).toNatClampNeg)) - 1300)) v4 x1.toNatClampNeg ((qA (q_sA (q_sA (q_sA (q_sA h v0 x1.toNatClampNeg (qA h v0 ((80 + x1 : Int32).toNatClampNeg))) v1 x1.toNatClampNeg (qA (q_sA h v0 x1.toNatClampNeg (qA h v0 ((80 + x1 : Int32).toNatClampNeg))) v1 ((80 + x1 : Int32).toNatClampNeg))) v2 x1.toNatClampNeg ((qA (q_sA (q_sA h v0 x1.toNatClampNeg (qA h v0 ((80 + x1 : Int32).toNatClampNeg))) v1 x1.toNatClampNeg (qA (q_sA h v0 x1.toNatClampNeg (qA h v0 ((80 + x1 : Int32).toNatClampNeg))) v1 ((80 + x1 : Int32).toNatClampNeg))) v2 ((80 + x1 : Int32).toNatClampNeg)) - 1300)) v3 x1.toNatClampNeg ((qA (q_sA (q_sA (q_sA h v0 x1.toNatClampNeg (qA h v0 ((80 + x1 : Int32).toNatClampNeg))) v1 x1.toNatClampNeg (qA (q_sA h v0 x1.toNatClampNeg (qA h v0 ((80 + x1 : Int32).toNatClampNeg))) v1 ((80 + x1 : Int32).toNatClampNeg))) v2 x1.toNatClampNeg ((qA (q_sA (q_sA h v0 x1.toNatClampNeg (qA h v0 ((80 + x1 : Int32).toNatClampNeg))) v1 x1.toNatClampNeg (qA (q_sA h v0 x1.toNatClampNeg (qA h v0 ((80 + x1 : Int32).toNatClampNeg))) v1 ((80 + x1 : Int32).toNatClampNeg))) v2 ((80 + x1 : Int32).toNatClampNeg)) - 1300)) v3 ((80 + x1 : Int32).toNatClampNeg)) - 1300)) v4 ((80 + x1 : Int32).toNatClampNeg)) - 1300)) Q) : q_wp n 289 203 [some (.ref x0), some (.int x1), none] [] h Q := by
  refine wp_loc rfl rfl ?_
  refine wp_getR rfl rfl rfl rfl k0 e0 ?_
  refine wp_loc rfl rfl ?_
  refine wp_loc rfl rfl ?_
  refine wp_getR rfl rfl rfl rfl k0 e0 ?_
  refine wp_bipush (v := 80) rfl (by decide) ?_
  refine wp_loc rfl rfl ?_
  refine wp_stk rfl rfl rfl ?_
  refine wp_iald rfl k1 i0 ?_
  refine wp_iast rfl k1 i1 ?_
  refine wp_loc rfl rfl ?_
  refine wp_getR rfl rfl rfl rfl k0 e1 ?_
  refine wp_loc rfl rfl ?_
  refine wp_loc rfl rfl ?_
  refine wp_getR rfl rfl rfl rfl k0 e1 ?_
  refine wp_bipush (v := 80) rfl (by decide) ?_
  refine wp_loc rfl rfl ?_
  refine wp_stk rfl rfl rfl ?_
  refine wp_iald rfl k2 i2 ?_
  refine wp_iast rfl k2 i3 ?_
  refine wp_loc rfl rfl ?_
  refine wp_getR rfl rfl rfl rfl k0 e2 ?_
  refine wp_loc rfl rfl ?_
  refine wp_loc rfl rfl ?_
  refine wp_getR rfl rfl rfl rfl k0 e2 ?_
  refine wp_bipush (v := 80) rfl (by decide) ?_
  refine wp_loc rfl rfl ?_
  refine wp_stk rfl rfl rfl ?_
  refine wp_iald rfl k3 i4 ?_
  refine wp_sipush (v := 1300) rfl (by decide) ?_
  refine wp_stk rfl rfl rfl ?_
  refine wp_iast rfl k3 i5 ?_
  refine wp_loc rfl rfl ?_
  refine wp_getR rfl rfl rfl rfl k0 e3 ?_
  refine wp_loc rfl rfl ?_
  refine wp_loc rfl rfl ?_
  refine wp_getR rfl rfl rfl rfl k0 e3 ?_
  refine wp_bipush (v := 80) rfl (by decide) ?_
  refine wp_loc rfl rfl ?_
  refine wp_stk rfl rfl rfl ?_
  refine wp_iald rfl k4 i6 ?_
  refine wp_sipush (v := 1300) rfl (by decide) ?_
  refine wp_stk rfl rfl rfl ?_
  refine wp_iast rfl k4 i7 ?_
  refine wp_loc rfl rfl ?_
  refine wp_getR rfl rfl rfl rfl k0 e4 ?_
  refine wp_loc rfl rfl ?_
  refine wp_loc rfl rfl ?_
  refine wp_getR rfl rfl rfl rfl k0 e4 ?_
  refine wp_bipush (v := 80) rfl (by decide) ?_
  refine wp_loc rfl rfl ?_
  refine wp_stk rfl rfl rfl ?_
  refine wp_iald rfl k5 i8 ?_
  refine wp_sipush (v := 1300) rfl (by decide) ?_
  refine wp_stk rfl rfl rfl ?_
  refine wp_iast rfl k5 i9 ?_
  refine wp_iinc (v := 1) rfl rfl (by decide) rfl ?_
  refine wp_goto (tgt := 197) rfl (by decide) ?_
  exact w
set_option maxRecDepth 20000 in
theorem b289_296 {n : Nat} {h : q_Hp} {Q : Option Value → q_Hp → Prop} {x0 : Nat} {x1 : Int32} (w : q_wp n 289 298 [some (.ref x0), some (.int 0), none] [] h Q) : q_wp n 289 296 [some (.ref x0), some (.int x1), none] [] h Q := by
  refine wp_iconst (v := 0) rfl (by decide) ?_
  refine wp_loc rfl rfl ?_
  exact w
set_option maxRecDepth 20000 in
theorem b289_298 {n : Nat} {h : q_Hp} {Q : Option Value → q_Hp → Prop} {x0 : Nat} {x1 : Int32} (wt : 120 ≤ x1 → q_wp n 289 400 [some (.ref x0), some (.int x1), none] [] h Q) (wf : ¬ 120 ≤ x1 → q_wp n 289 304 [some (.ref x0), some (.int x1), none] [] h Q) : q_wp n 289 298 [some (.ref x0), some (.int x1), none] [] h Q := by
  refine wp_loc rfl rfl ?_
  refine wp_bipush (v := 120) rfl (by decide) ?_
  exact wp_icge (tgt := 400) rfl (by decide) wt wf
set_option maxRecDepth 20000 in
theorem b289_304 {n : Nat} {h : q_Hp} {Q : Option Value → q_Hp → Prop} {x0 : Nat} {x1 : Int32} {v0 : Nat} {v1 : Nat} {v2 : Nat} {v3 : Nat} {v4 : Nat} {v5 : Nat} (k0 : q_ok h x0 12) (e0 : qR h x0 35 = v0) (k1 : q_ok h v0 20) (i0 : q_in (120 + x1) (qK h v0).2) (i1 : q_in x1 (qK h v0).2) (e1 : qR h x0 36 = v1) (k2 : q_ok h v1 20) (i2 : q_in (120 + x1) (qK h v1).2) (i3 : q_in x1 (qK h v1).2) (e2 : qR h x0 37 = v2) (k3 : q_ok h v2 20) (i4 : q_in (120 + x1) (qK h v2).2) (i5 : q_in x1 (qK h v2).2) (e3 : qR h x0 41 = v3) (k4 : q_ok h v3 20) (i6 : q_in (120 + x1) (qK h v3).2) (i7 : q_in x1 (qK h v3).2) (e4 : qR h x0 42 = v4) (k5 : q_ok h v4 20) (i8 : q_in (120 + x1) (qK h v4).2) (i9 : q_in x1 (qK h v4).2) (e5 : qR h x0 43 = v5) (k6 : q_ok h v5 20) (i10 : q_in (120 + x1) (qK h v5).2) (i11 : q_in x1 (qK h v5).2) (w : q_wp n 289 298 [some (.ref x0), some (.int (x1 + 1)), none] [] (q_sA (q_sA (q_sA (q_sA (q_sA (q_sA h v0 x1.toNatClampNeg (qA h v0 ((120 + x1 : Int32).toNatClampNeg))) v1 x1.toNatClampNeg (qA (q_sA h v0 x1.toNatClampNeg (qA h v0 ((120 + x1 : Int32).toNatClampNeg))) v1 ((120 + x1 : Int32).toNatClampNeg))) v2 x1.toNatClampNeg (qA (q_sA (q_sA h v0 x1.toNatClampNeg (qA h v0 ((120 + x1 : Int32).toNatClampNeg))) v1 x1.toNatClampNeg (qA (q_sA h v0 x1.toNatClampNeg (qA h v0 ((120 + x1 : Int32).toNatClampNeg))) v1 ((120 + x1 : Int32).toNatClampNeg))) v2 ((120 + x1 : Int32).toNatClampNeg))) v3 x1.toNatClampNeg (qA (q_sA (q_sA (q_sA h v0 x1.toNatClampNeg (qA h v0 ((120 + x1 : Int32).toNatClampNeg))) v1 x1.toNatClampNeg (qA (q_sA h v0 x1.toNatClampNeg (qA h v0 ((120 + x1 : Int32).toNatClampNeg))) v1 ((120 + x1 : Int32).toNatClampNeg))) v2 x1.toNatClampNeg (qA (q_sA (q_sA h v0 x1.toNatClampNeg (qA h v0 ((120 + x1 : Int32).toNatClampNeg))) v1 x1.toNatClampNeg (qA (q_sA h v0 x1.toNatClampNeg (qA h v0 ((120 + x1 : Int32).toNatClampNeg))) v1 ((120 + x1 : Int32).toNatClampNeg))) v2 ((120 + x1 : Int32).toNatClampNeg))) v3 ((120 + x1 : Int32).toNatClampNeg))) v4 x1.toNatClampNeg (qA (q_sA (q_sA (q_sA (q_sA h v0 x1.toNatClampNeg (qA h v0 ((120 + x1 : Int32).toNatClampNeg))) v1 x1.toNatClampNeg (qA (q_sA h v0 x1.toNatClampNeg (qA h v0 ((120 + x1 : Int32).toNatClampNeg))) v1 ((120 + x1 : Int32).toNatClampNeg))) v2 x1.toNatClampNeg (qA (q_sA (q_sA h v0 x1.toNatClampNeg (qA h v0 ((120 + x1 : Int32).toNatClampNeg))) v1 x1.toNatClampNeg (qA (q_sA h v0 x1.toNatClampNeg (qA h v0 ((120 + x1 : Int32).toNatClampNeg))) v1 ((120 + x1 : Int32).toNatClampNeg))) v2 ((120 + x1 : Int32).toNatClampNeg))) v3 x1.toNatClampNeg (qA (q_sA (q_sA (q_sA h v0 x1.toNatClampNeg (qA h v0 ((120 + x1 : Int32).toNatClampNeg))) v1 x1.toNatClampNeg (qA (q_sA h v0 x1.toNatClampNeg (qA h v0 ((120 + x1 : Int32).toNatClampNeg))) v1 ((120 + x1 : Int32).toNatClampNeg))) v2 x1.toNatClampNeg (qA (q_sA (q_sA h v0 x1.toNatClampNeg (qA h v0 ((120 + x1 : Int32).toNatClampNeg))) v1 x1.toNatClampNeg (qA (q_sA h v0 x1.toNatClampNeg (qA h v0 ((120 + x1 : Int32).toNatClampNeg))) v1 ((120 + x1 : Int32).toNatClampNeg))) v2 ((120 + x1 : Int32).toNatClampNeg))) v3 ((120 + x1 : Int32).toNatClampNeg))) v4 ((120 + x1 : Int32).toNatClampNeg))) v5 x1.toNatClampNeg (qA (q_sA (q_sA (q_sA (q_sA (q_sA h v0 x1.toNatClampNeg (qA h v0 ((120 + x1 : Int32).toNatClampNeg))) v1 x1.toNatClampNeg (qA (q_sA h v0 x1.toNatClampNeg (qA h v0 ((120 + x1 : Int32).toNatClampNeg))) v1 ((120 + x1 : Int32).toNatClampNeg))) v2 x1.toNatClampNeg (qA (q_sA (q_sA h v0 x1.toNatClampNeg (qA h v0 ((120 + x1 : Int32).toNatClampNeg))) v1 x1.toNatClampNeg (qA (q_sA h v0 x1.toNatClampNeg (qA h v0 ((120 + x1 : Int32).toNatClampNeg))) v1 ((120 + x1 : Int32).toNatClampNeg))) v2 ((120 + x1 : Int32).toNatClampNeg))) v3 x1.toNatClampNeg (qA (q_sA (q_sA (q_sA h v0 x1.toNatClampNeg (qA h v0 ((120 + x1 : Int32).toNatClampNeg))) v1 x1.toNatClampNeg (qA (q_sA h v0 x1.toNatClampNeg (qA h v0 ((120 + x1 : Int32).toNatClampNeg))) v1 ((120 + x1 : Int32).toNatClampNeg))) v2 x1.toNatClampNeg (qA (q_sA (q_sA h v0 x1.toNatClampNeg (qA h v0 ((120 + x1 : Int32).toNatClampNeg))) v1 x1.toNatClampNeg (qA (q_sA h v0 x1.toNatClampNeg (qA h v0 ((120 + x1 : Int32).toNatClampNeg))) v1 ((120 + x1 : Int32).toNatClampNeg))) v2 ((120 + x1 : Int32).toNatClampNeg))) v3 ((120 + x1 : Int32).toNatClampNeg))) v4 x1.toNatClampNeg (qA (q_sA (q_sA (q_sA (q_sA h v0 x1.toNatClampNeg (qA h v0 ((120 + x1 : Int32).toNatClampNeg))) v1 x1.toNatClampNeg (qA (q_sA h v0 x1.toNatClampNeg (qA h v0 ((120 + x1 : Int32).toNatClampNeg))) v1 ((120 + x1 : Int32).toNatClampNeg))) v2 x1.toNatClampNeg (qA (q_sA (q_sA h v0 x1.toNatClampNeg (qA h v0 ((120 + x1 : Int32).toNatClampNeg))) v1 x1.toNatClampNeg (qA (q_sA h v0 x1.toNatClampNeg (qA h v0 ((120 + x1 : Int32).toNatClampNeg))) v1 ((120 + x1 : Int32).toNatClampNeg))) v2 ((120 + x1 : Int32).toNatClampNeg))) v3 x1.toNatClampNeg (qA (q_sA (q_sA (q_sA h v0 x1.toNatClampNeg (qA h v0 ((120 + x1 : Int32).toNatClampNeg))) v1 x1.toNatClampNeg (qA (q_sA h v0 x1.toNatClampNeg (qA h v0 ((120 + x1 : Int32).toNatClampNeg))) v1 ((120 + x1 : Int32).toNatClampNeg))) v2 x1.toNatClampNeg (qA (q_sA (q_sA h v0 x1.toNatClampNeg (qA h v0 ((120 + x1 : Int32).toNatClampNeg))) v1 x1.toNatClampNeg (qA (q_sA h v0 x1.toNatClampNeg (qA h v0 ((120 + x1 : Int32).toNatClampNeg))) v1 ((120 + x1 : Int32).toNatClampNeg))) v2 ((120 + x1 : Int32).toNatClampNeg))) v3 ((120 + x1 : Int32).toNatClampNeg))) v4 ((120 + x1 : Int32).toNatClampNeg))) v5 ((120 + x1 : Int32).toNatClampNeg))) Q) : q_wp n 289 304 [some (.ref x0), some (.int x1), none] [] h Q := by
  refine wp_loc rfl rfl ?_
  refine wp_getR rfl rfl rfl rfl k0 e0 ?_
  refine wp_loc rfl rfl ?_
  refine wp_loc rfl rfl ?_
  refine wp_getR rfl rfl rfl rfl k0 e0 ?_
  refine wp_bipush (v := 120) rfl (by decide) ?_
  refine wp_loc rfl rfl ?_
  refine wp_stk rfl rfl rfl ?_
  refine wp_iald rfl k1 i0 ?_
  refine wp_iast rfl k1 i1 ?_
  refine wp_loc rfl rfl ?_
  refine wp_getR rfl rfl rfl rfl k0 e1 ?_
  refine wp_loc rfl rfl ?_
  refine wp_loc rfl rfl ?_
  refine wp_getR rfl rfl rfl rfl k0 e1 ?_
  refine wp_bipush (v := 120) rfl (by decide) ?_
  refine wp_loc rfl rfl ?_
  refine wp_stk rfl rfl rfl ?_
  refine wp_iald rfl k2 i2 ?_
  refine wp_iast rfl k2 i3 ?_
  refine wp_loc rfl rfl ?_
  refine wp_getR rfl rfl rfl rfl k0 e2 ?_
  refine wp_loc rfl rfl ?_
  refine wp_loc rfl rfl ?_
  refine wp_getR rfl rfl rfl rfl k0 e2 ?_
  refine wp_bipush (v := 120) rfl (by decide) ?_
  refine wp_loc rfl rfl ?_
  refine wp_stk rfl rfl rfl ?_
  refine wp_iald rfl k3 i4 ?_
  refine wp_iast rfl k3 i5 ?_
  refine wp_loc rfl rfl ?_
  refine wp_getR rfl rfl rfl rfl k0 e3 ?_
  refine wp_loc rfl rfl ?_
  refine wp_loc rfl rfl ?_
  refine wp_getR rfl rfl rfl rfl k0 e3 ?_
  refine wp_bipush (v := 120) rfl (by decide) ?_
  refine wp_loc rfl rfl ?_
  refine wp_stk rfl rfl rfl ?_
  refine wp_iald rfl k4 i6 ?_
  refine wp_iast rfl k4 i7 ?_
  refine wp_loc rfl rfl ?_
  refine wp_getR rfl rfl rfl rfl k0 e4 ?_
  refine wp_loc rfl rfl ?_
  refine wp_loc rfl rfl ?_
  refine wp_getR rfl rfl rfl rfl k0 e4 ?_
  refine wp_bipush (v := 120) rfl (by decide) ?_
  refine wp_loc rfl rfl ?_
  refine wp_stk rfl rfl rfl ?_
  refine wp_iald rfl k5 i8 ?_
  refine wp_iast rfl k5 i9 ?_
  refine wp_loc rfl rfl ?_
  refine wp_getR rfl rfl rfl rfl k0 e5 ?_
  refine wp_loc rfl rfl ?_
  refine wp_loc rfl rfl ?_
  refine wp_getR rfl rfl rfl rfl k0 e5 ?_
  refine wp_bipush (v := 120) rfl (by decide) ?_
  refine wp_loc rfl rfl ?_
  refine wp_stk rfl rfl rfl ?_
  refine wp_iald rfl k6 i10 ?_
  refine wp_iast rfl k6 i11 ?_
  refine wp_iinc (v := 1) rfl rfl (by decide) rfl ?_
  refine wp_goto (tgt := 298) rfl (by decide) ?_
  exact w
set_option maxRecDepth 20000 in
theorem b289_400 {n : Nat} {h : q_Hp} {Q : Option Value → q_Hp → Prop} {x0 : Nat} {x1 : Int32} (w : q_wp n 289 402 [some (.ref x0), some (.int 0), none] [] h Q) : q_wp n 289 400 [some (.ref x0), some (.int x1), none] [] h Q := by
  refine wp_iconst (v := 0) rfl (by decide) ?_
  refine wp_loc rfl rfl ?_
  exact w
set_option maxRecDepth 20000 in
theorem b289_402 {n : Nat} {h : q_Hp} {Q : Option Value → q_Hp → Prop} {x0 : Nat} {x1 : Int32} (wt : 40 ≤ x1 → q_wp n 289 444 [some (.ref x0), some (.int x1), none] [] h Q) (wf : ¬ 40 ≤ x1 → q_wp n 289 408 [some (.ref x0), some (.int x1), none] [] h Q) : q_wp n 289 402 [some (.ref x0), some (.int x1), none] [] h Q := by
  refine wp_loc rfl rfl ?_
  refine wp_bipush (v := 40) rfl (by decide) ?_
  exact wp_icge (tgt := 444) rfl (by decide) wt wf
set_option maxRecDepth 20000 in
theorem b289_408 {n : Nat} {h : q_Hp} {Q : Option Value → q_Hp → Prop} {x0 : Nat} {x1 : Int32} {v0 : Nat} {v1 : Nat} (k0 : q_ok h x0 12) (e0 : qR h x0 39 = v0) (k1 : q_ok h v0 20) (i0 : q_in (40 + x1) (qK h v0).2) (i1 : q_in x1 (qK h v0).2) (e1 : qR h x0 40 = v1) (k2 : q_ok h v1 20) (i2 : q_in (40 + x1) (qK h v1).2) (i3 : q_in x1 (qK h v1).2) (w : q_wp n 289 402 [some (.ref x0), some (.int (x1 + 1)), none] [] (q_sA (q_sA h v0 x1.toNatClampNeg (qA h v0 ((40 + x1 : Int32).toNatClampNeg))) v1 x1.toNatClampNeg (qA (q_sA h v0 x1.toNatClampNeg (qA h v0 ((40 + x1 : Int32).toNatClampNeg))) v1 ((40 + x1 : Int32).toNatClampNeg))) Q) : q_wp n 289 408 [some (.ref x0), some (.int x1), none] [] h Q := by
  refine wp_loc rfl rfl ?_
  refine wp_getR rfl rfl rfl rfl k0 e0 ?_
  refine wp_loc rfl rfl ?_
  refine wp_loc rfl rfl ?_
  refine wp_getR rfl rfl rfl rfl k0 e0 ?_
  refine wp_bipush (v := 40) rfl (by decide) ?_
  refine wp_loc rfl rfl ?_
  refine wp_stk rfl rfl rfl ?_
  refine wp_iald rfl k1 i0 ?_
  refine wp_iast rfl k1 i1 ?_
  refine wp_loc rfl rfl ?_
  refine wp_getR rfl rfl rfl rfl k0 e1 ?_
  refine wp_loc rfl rfl ?_
  refine wp_loc rfl rfl ?_
  refine wp_getR rfl rfl rfl rfl k0 e1 ?_
  refine wp_bipush (v := 40) rfl (by decide) ?_
  refine wp_loc rfl rfl ?_
  refine wp_stk rfl rfl rfl ?_
  refine wp_iald rfl k2 i2 ?_
  refine wp_iast rfl k2 i3 ?_
  refine wp_iinc (v := 1) rfl rfl (by decide) rfl ?_
  refine wp_goto (tgt := 402) rfl (by decide) ?_
  exact w
set_option maxRecDepth 20000 in
theorem b289_444 {n : Nat} {h : q_Hp} {Q : Option Value → q_Hp → Prop} {x0 : Nat} {x1 : Int32} (w : q_wp n 289 446 [some (.ref x0), some (.int 0), none] [] h Q) : q_wp n 289 444 [some (.ref x0), some (.int x1), none] [] h Q := by
  refine wp_iconst (v := 0) rfl (by decide) ?_
  refine wp_loc rfl rfl ?_
  exact w
set_option maxRecDepth 20000 in
theorem b289_446 {n : Nat} {h : q_Hp} {Q : Option Value → q_Hp → Prop} {x0 : Nat} {x1 : Int32} (wt : 160 ≤ x1 → q_wp n 289 563 [some (.ref x0), some (.int x1), none] [] h Q) (wf : ¬ 160 ≤ x1 → q_wp n 289 453 [some (.ref x0), some (.int x1), none] [] h Q) : q_wp n 289 446 [some (.ref x0), some (.int x1), none] [] h Q := by
  refine wp_loc rfl rfl ?_
  refine wp_sipush (v := 160) rfl (by decide) ?_
  exact wp_icge (tgt := 563) rfl (by decide) wt wf
set_option maxRecDepth 20000 in
theorem b289_453 {n : Nat} {h : q_Hp} {Q : Option Value → q_Hp → Prop} {x0 : Nat} {x1 : Int32} {v0 : Nat} {v1 : Nat} {v2 : Nat} {v3 : Nat} {v4 : Nat} {v5 : Nat} (k0 : q_ok h x0 12) (e0 : qR h x0 50 = v0) (k1 : q_ok h v0 20) (i0 : q_in (160 + x1) (qK h v0).2) (i1 : q_in x1 (qK h v0).2) (e1 : qR h x0 51 = v1) (k2 : q_ok h v1 20) (i2 : q_in (160 + x1) (qK h v1).2) (i3 : q_in x1 (qK h v1).2) (e2 : qR h x0 52 = v2) (k3 : q_ok h v2 20) (i4 : q_in (160 + x1) (qK h v2).2) (i5 : q_in x1 (qK h v2).2) (e3 : qR h x0 53 = v3) (k4 : q_ok h v3 20) (i6 : q_in (160 + x1) (qK h v3).2) (i7 : q_in x1 (qK h v3).2) (e4 : qR h x0 54 = v4) (k5 : q_ok h v4 20) (i8 : q_in (160 + x1) (qK h v4).2) (i9 : q_in x1 (qK h v4).2) (e5 : qR h x0 55 = v5) (k6 : q_ok h v5 20) (i10 : q_in (160 + x1) (qK h v5).2) (i11 : q_in x1 (qK h v5).2) (w : q_wp n 289 446 [some (.ref x0), some (.int (x1 + 1)), none] [] (q_sA (q_sA (q_sA (q_sA (q_sA (q_sA h v0 x1.toNatClampNeg (qA h v0 ((160 + x1 : Int32).toNatClampNeg))) v1 x1.toNatClampNeg (qA (q_sA h v0 x1.toNatClampNeg (qA h v0 ((160 + x1 : Int32).toNatClampNeg))) v1 ((160 + x1 : Int32).toNatClampNeg))) v2 x1.toNatClampNeg (qA (q_sA (q_sA h v0 x1.toNatClampNeg (qA h v0 ((160 + x1 : Int32).toNatClampNeg))) v1 x1.toNatClampNeg (qA (q_sA h v0 x1.toNatClampNeg (qA h v0 ((160 + x1 : Int32).toNatClampNeg))) v1 ((160 + x1 : Int32).toNatClampNeg))) v2 ((160 + x1 : Int32).toNatClampNeg))) v3 x1.toNatClampNeg (qA (q_sA (q_sA (q_sA h v0 x1.toNatClampNeg (qA h v0 ((160 + x1 : Int32).toNatClampNeg))) v1 x1.toNatClampNeg (qA (q_sA h v0 x1.toNatClampNeg (qA h v0 ((160 + x1 : Int32).toNatClampNeg))) v1 ((160 + x1 : Int32).toNatClampNeg))) v2 x1.toNatClampNeg (qA (q_sA (q_sA h v0 x1.toNatClampNeg (qA h v0 ((160 + x1 : Int32).toNatClampNeg))) v1 x1.toNatClampNeg (qA (q_sA h v0 x1.toNatClampNeg (qA h v0 ((160 + x1 : Int32).toNatClampNeg))) v1 ((160 + x1 : Int32).toNatClampNeg))) v2 ((160 + x1 : Int32).toNatClampNeg))) v3 ((160 + x1 : Int32).toNatClampNeg))) v4 x1.toNatClampNeg ((qA (q_sA (q_sA (q_sA (q_sA h v0 x1.toNatClampNeg (qA h v0 ((160 + x1 : Int32).toNatClampNeg))) v1 x1.toNatClampNeg (qA (q_sA h v0 x1.toNatClampNeg (qA h v0 ((160 + x1 : Int32).toNatClampNeg))) v1 ((160 + x1 : Int32).toNatClampNeg))) v2 x1.toNatClampNeg (qA (q_sA (q_sA h v0 x1.toNatClampNeg (qA h v0 ((160 + x1 : Int32).toNatClampNeg))) v1 x1.toNatClampNeg (qA (q_sA h v0 x1.toNatClampNeg (qA h v0 ((160 + x1 : Int32).toNatClampNeg))) v1 ((160 + x1 : Int32).toNatClampNeg))) v2 ((160 + x1 : Int32).toNatClampNeg))) v3 x1.toNatClampNeg (qA (q_sA (q_sA (q_sA h v0 x1.toNatClampNeg (qA h v0 ((160 + x1 : Int32).toNatClampNeg))) v1 x1.toNatClampNeg (qA (q_sA h v0 x1.toNatClampNeg (qA h v0 ((160 + x1 : Int32).toNatClampNeg))) v1 ((160 + x1 : Int32).toNatClampNeg))) v2 x1.toNatClampNeg (qA (q_sA (q_sA h v0 x1.toNatClampNeg (qA h v0 ((160 + x1 : Int32).toNatClampNeg))) v1 x1.toNatClampNeg (qA (q_sA h v0 x1.toNatClampNeg (qA h v0 ((160 + x1 : Int32).toNatClampNeg))) v1 ((160 + x1 : Int32).toNatClampNeg))) v2 ((160 + x1 : Int32).toNatClampNeg))) v3 ((160 + x1 : Int32).toNatClampNeg))) v4 ((160 + x1 : Int32).toNatClampNeg)) - 1300)) v5 x1.toNatClampNeg ((qA (q_sA (q_sA (q_sA (q_sA (q_sA h v0 x1.toNatClampNeg (qA h v0 ((160 + x1 : Int32).toNatClampNeg))) v1 x1.toNatClampNeg (qA (q_sA h v0 x1.toNatClampNeg (qA h v0 ((160 + x1 : Int32).toNatClampNeg))) v1 ((160 + x1 : Int32).toNatClampNeg))) v2 x1.toNatClampNeg (qA (q_sA (q_sA h v0 x1.toNatClampNeg (qA h v0 ((160 + x1 : Int32).toNatClampNeg))) v1 x1.toNatClampNeg (qA (q_sA h v0 x1.toNatClampNeg (qA h v0 ((160 + x1 : Int32).toNatClampNeg))) v1 ((160 + x1 : Int32).toNatClampNeg))) v2 ((160 + x1 : Int32).toNatClampNeg))) v3 x1.toNatClampNeg (qA (q_sA (q_sA (q_sA h v0 x1.toNatClampNeg (qA h v0 ((160 + x1 : Int32).toNatClampNeg))) v1 x1.toNatClampNeg (qA (q_sA h v0 x1.toNatClampNeg (qA h v0 ((160 + x1 : Int32).toNatClampNeg))) v1 ((160 + x1 : Int32).toNatClampNeg))) v2 x1.toNatClampNeg (qA (q_sA (q_sA h v0 x1.toNatClampNeg (qA h v0 ((160 + x1 : Int32).toNatClampNeg))) v1 x1.toNatClampNeg (qA (q_sA h v0 x1.toNatClampNeg (qA h v0 ((160 + x1 : Int32).toNatClampNeg))) v1 ((160 + x1 : Int32).toNatClampNeg))) v2 ((160 + x1 : Int32).toNatClampNeg))) v3 ((160 + x1 : Int32).toNatClampNeg))) v4 x1.toNatClampNeg ((qA (q_sA (q_sA (q_sA (q_sA h v0 x1.toNatClampNeg (qA h v0 ((160 + x1 : Int32).toNatClampNeg))) v1 x1.toNatClampNeg (qA (q_sA h v0 x1.toNatClampNeg (qA h v0 ((160 + x1 : Int32).toNatClampNeg))) v1 ((160 + x1 : Int32).toNatClampNeg))) v2 x1.toNatClampNeg (qA (q_sA (q_sA h v0 x1.toNatClampNeg (qA h v0 ((160 + x1 : Int32).toNatClampNeg))) v1 x1.toNatClampNeg (qA (q_sA h v0 x1.toNatClampNeg (qA h v0 ((160 + x1 : Int32).toNatClampNeg))) v1 ((160 + x1 : Int32).toNatClampNeg))) v2 ((160 + x1 : Int32).toNatClampNeg))) v3 x1.toNatClampNeg (qA (q_sA (q_sA (q_sA h v0 x1.toNatClampNeg (qA h v0 ((160 + x1 : Int32).toNatClampNeg))) v1 x1.toNatClampNeg (qA (q_sA h v0 x1.toNatClampNeg (qA h v0 ((160 + x1 : Int32).toNatClampNeg))) v1 ((160 + x1 : Int32).toNatClampNeg))) v2 x1.toNatClampNeg (qA (q_sA (q_sA h v0 x1.toNatClampNeg (qA h v0 ((160 + x1 : Int32).toNatClampNeg))) v1 x1.toNatClampNeg (qA (q_sA h v0 x1.toNatClampNeg (qA h v0 ((160 + x1 : Int32).toNatClampNeg))) v1 ((160 + x1 : Int32).toNatClampNeg))) v2 ((160 + x1 : Int32).toNatClampNeg))) v3 ((160 + x1 : Int32).toNatClampNeg))) v4 ((160 + x1 : Int32).toNatClampNeg)) - 1300)) v5 ((160 + x1 : Int32).toNatClampNeg)) - 1300)) Q) : q_wp n 289 453 [some (.ref x0), some (.int x1), none] [] h Q := by
  refine wp_loc rfl rfl ?_
  refine wp_getR rfl rfl rfl rfl k0 e0 ?_
  refine wp_loc rfl rfl ?_
  refine wp_loc rfl rfl ?_
  refine wp_getR rfl rfl rfl rfl k0 e0 ?_
  refine wp_sipush (v := 160) rfl (by decide) ?_
  refine wp_loc rfl rfl ?_
  refine wp_stk rfl rfl rfl ?_
  refine wp_iald rfl k1 i0 ?_
  refine wp_iast rfl k1 i1 ?_
  refine wp_loc rfl rfl ?_
  refine wp_getR rfl rfl rfl rfl k0 e1 ?_
  refine wp_loc rfl rfl ?_
  refine wp_loc rfl rfl ?_
  refine wp_getR rfl rfl rfl rfl k0 e1 ?_
  refine wp_sipush (v := 160) rfl (by decide) ?_
  refine wp_loc rfl rfl ?_
  refine wp_stk rfl rfl rfl ?_
  refine wp_iald rfl k2 i2 ?_
  refine wp_iast rfl k2 i3 ?_
  refine wp_loc rfl rfl ?_
  refine wp_getR rfl rfl rfl rfl k0 e2 ?_
  refine wp_loc rfl rfl ?_
  refine wp_loc rfl rfl ?_
  refine wp_getR rfl rfl rfl rfl k0 e2 ?_
  refine wp_sipush (v := 160) rfl (by decide) ?_
  refine wp_loc rfl rfl ?_
  refine wp_stk rfl rfl rfl ?_
  refine wp_iald rfl k3 i4 ?_
  refine wp_iast rfl k3 i5 ?_
  refine wp_loc rfl rfl ?_
  refine wp_getR rfl rfl rfl rfl k0 e3 ?_
  refine wp_loc rfl rfl ?_
  refine wp_loc rfl rfl ?_
  refine wp_getR rfl rfl rfl rfl k0 e3 ?_
  refine wp_sipush (v := 160) rfl (by decide) ?_
  refine wp_loc rfl rfl ?_
  refine wp_stk rfl rfl rfl ?_
  refine wp_iald rfl k4 i6 ?_
  refine wp_iast rfl k4 i7 ?_
  refine wp_loc rfl rfl ?_
  refine wp_getR rfl rfl rfl rfl k0 e4 ?_
  refine wp_loc rfl rfl ?_
  refine wp_loc rfl rfl ?_
  refine wp_getR rfl rfl rfl rfl k0 e4 ?_
  refine wp_sipush (v := 160) rfl (by decide) ?_
  refine wp_loc rfl rfl ?_
  refine wp_stk rfl rfl rfl ?_
  refine wp_iald rfl k5 i8 ?_
  refine wp_sipush (v := 1300) rfl (by decide) ?_
  refine wp_stk rfl rfl rfl ?_
  refine wp_iast rfl k5 i9 ?_
  refine wp_loc rfl rfl ?_
  refine wp_getR rfl rfl rfl rfl k0 e5 ?_
  refine wp_loc rfl rfl ?_
  refine wp_loc rfl rfl ?_
  refine wp_getR rfl rfl rfl rfl k0 e5 ?_
  refine wp_sipush (v := 160) rfl (by decide) ?_
  refine wp_loc rfl rfl ?_
  refine wp_stk rfl rfl rfl ?_
  refine wp_iald rfl k6 i10 ?_
  refine wp_sipush (v := 1300) rfl (by decide) ?_
  refine wp_stk rfl rfl rfl ?_
  refine wp_iast rfl k6 i11 ?_
  refine wp_iinc (v := 1) rfl rfl (by decide) rfl ?_
  refine wp_goto (tgt := 446) rfl (by decide) ?_
  exact w
set_option maxRecDepth 20000 in
theorem b289_563 {n : Nat} {h : q_Hp} {Q : Option Value → q_Hp → Prop} {x0 : Nat} {x1 : Int32} (w : q_wp n 289 565 [some (.ref x0), some (.int 0), none] [] h Q) : q_wp n 289 563 [some (.ref x0), some (.int x1), none] [] h Q := by
  refine wp_iconst (v := 0) rfl (by decide) ?_
  refine wp_loc rfl rfl ?_
  exact w
set_option maxRecDepth 20000 in
theorem b289_565 {n : Nat} {h : q_Hp} {Q : Option Value → q_Hp → Prop} {x0 : Nat} {x1 : Int32} {l2 : Option Value} (wt : 1300 ≤ x1 → q_wp n 289 717 [some (.ref x0), some (.int x1), l2] [] h Q) (wf : ¬ 1300 ≤ x1 → q_wp n 289 572 [some (.ref x0), some (.int x1), l2] [] h Q) : q_wp n 289 565 [some (.ref x0), some (.int x1), l2] [] h Q := by
  refine wp_loc rfl rfl ?_
  refine wp_sipush (v := 1300) rfl (by decide) ?_
  exact wp_icge (tgt := 717) rfl (by decide) wt wf
set_option maxRecDepth 20000 in
theorem b289_572 {n : Nat} {h : q_Hp} {Q : Option Value → q_Hp → Prop} {x0 : Nat} {x1 : Int32} {l2 : Option Value} {v0 : Nat} {v1 : Nat} {v2 : Nat} {v3 : Nat} {v4 : Nat} {v5 : Nat} (k0 : q_ok h x0 12) (e0 : qR h x0 56 = v0) (k1 : q_ok h v0 20) (i0 : q_in (1300 + x1) (qK h v0).2) (i1 : q_in x1 (qK h v0).2) (e1 : qR h x0 57 = v1) (k2 : q_ok h v1 20) (i2 : q_in (1300 + x1) (qK h v1).2) (i3 : q_in x1 (qK h v1).2) (e2 : qR h x0 58 = v2) (k3 : q_ok h v2 20) (i4 : q_in (1300 + x1) (qK h v2).2) (i5 : q_in x1 (qK h v2).2) (e3 : qR h x0 59 = v3) (k4 : q_ok h v3 20) (i6 : q_in (1300 + x1) (qK h v3).2) (i7 : q_in x1 (qK h v3).2) (e4 : qR h x0 60 = v4) (k5 : q_ok h v4 20) (i8 : q_in (1300 + x1) (qK h v4).2) (i9 : q_in x1 (qK h v4).2) (e5 : qR h x0 62 = v5) (k6 : q_ok h v5 20) (i10 : q_in (1300 + x1) (qK h v5).2) {m : Nat} {P : Int32 → q_Hp → Prop} (hc : q_mI m 290 [.int (qA (q_sA (q_sA (q_sA (q_sA (q_sA h v0 x1.toNatClampNeg (qA h v0 ((1300 + x1 : Int32).toNatClampNeg))) v1 x1.toNatClampNeg (qA (q_sA h v0 x1.toNatClampNeg (qA h v0 ((1300 + x1 : Int32).toNatClampNeg))) v1 ((1300 + x1 : Int32).toNatClampNeg))) v2 x1.toNatClampNeg (qA (q_sA (q_sA h v0 x1.toNatClampNeg (qA h v0 ((1300 + x1 : Int32).toNatClampNeg))) v1 x1.toNatClampNeg (qA (q_sA h v0 x1.toNatClampNeg (qA h v0 ((1300 + x1 : Int32).toNatClampNeg))) v1 ((1300 + x1 : Int32).toNatClampNeg))) v2 ((1300 + x1 : Int32).toNatClampNeg))) v3 x1.toNatClampNeg (qA (q_sA (q_sA (q_sA h v0 x1.toNatClampNeg (qA h v0 ((1300 + x1 : Int32).toNatClampNeg))) v1 x1.toNatClampNeg (qA (q_sA h v0 x1.toNatClampNeg (qA h v0 ((1300 + x1 : Int32).toNatClampNeg))) v1 ((1300 + x1 : Int32).toNatClampNeg))) v2 x1.toNatClampNeg (qA (q_sA (q_sA h v0 x1.toNatClampNeg (qA h v0 ((1300 + x1 : Int32).toNatClampNeg))) v1 x1.toNatClampNeg (qA (q_sA h v0 x1.toNatClampNeg (qA h v0 ((1300 + x1 : Int32).toNatClampNeg))) v1 ((1300 + x1 : Int32).toNatClampNeg))) v2 ((1300 + x1 : Int32).toNatClampNeg))) v3 ((1300 + x1 : Int32).toNatClampNeg))) v4 x1.toNatClampNeg (qA (q_sA (q_sA (q_sA (q_sA h v0 x1.toNatClampNeg (qA h v0 ((1300 + x1 : Int32).toNatClampNeg))) v1 x1.toNatClampNeg (qA (q_sA h v0 x1.toNatClampNeg (qA h v0 ((1300 + x1 : Int32).toNatClampNeg))) v1 ((1300 + x1 : Int32).toNatClampNeg))) v2 x1.toNatClampNeg (qA (q_sA (q_sA h v0 x1.toNatClampNeg (qA h v0 ((1300 + x1 : Int32).toNatClampNeg))) v1 x1.toNatClampNeg (qA (q_sA h v0 x1.toNatClampNeg (qA h v0 ((1300 + x1 : Int32).toNatClampNeg))) v1 ((1300 + x1 : Int32).toNatClampNeg))) v2 ((1300 + x1 : Int32).toNatClampNeg))) v3 x1.toNatClampNeg (qA (q_sA (q_sA (q_sA h v0 x1.toNatClampNeg (qA h v0 ((1300 + x1 : Int32).toNatClampNeg))) v1 x1.toNatClampNeg (qA (q_sA h v0 x1.toNatClampNeg (qA h v0 ((1300 + x1 : Int32).toNatClampNeg))) v1 ((1300 + x1 : Int32).toNatClampNeg))) v2 x1.toNatClampNeg (qA (q_sA (q_sA h v0 x1.toNatClampNeg (qA h v0 ((1300 + x1 : Int32).toNatClampNeg))) v1 x1.toNatClampNeg (qA (q_sA h v0 x1.toNatClampNeg (qA h v0 ((1300 + x1 : Int32).toNatClampNeg))) v1 ((1300 + x1 : Int32).toNatClampNeg))) v2 ((1300 + x1 : Int32).toNatClampNeg))) v3 ((1300 + x1 : Int32).toNatClampNeg))) v4 ((1300 + x1 : Int32).toNatClampNeg))) v5 ((1300 + x1 : Int32).toNatClampNeg))] (q_sA (q_sA (q_sA (q_sA (q_sA h v0 x1.toNatClampNeg (qA h v0 ((1300 + x1 : Int32).toNatClampNeg))) v1 x1.toNatClampNeg (qA (q_sA h v0 x1.toNatClampNeg (qA h v0 ((1300 + x1 : Int32).toNatClampNeg))) v1 ((1300 + x1 : Int32).toNatClampNeg))) v2 x1.toNatClampNeg (qA (q_sA (q_sA h v0 x1.toNatClampNeg (qA h v0 ((1300 + x1 : Int32).toNatClampNeg))) v1 x1.toNatClampNeg (qA (q_sA h v0 x1.toNatClampNeg (qA h v0 ((1300 + x1 : Int32).toNatClampNeg))) v1 ((1300 + x1 : Int32).toNatClampNeg))) v2 ((1300 + x1 : Int32).toNatClampNeg))) v3 x1.toNatClampNeg (qA (q_sA (q_sA (q_sA h v0 x1.toNatClampNeg (qA h v0 ((1300 + x1 : Int32).toNatClampNeg))) v1 x1.toNatClampNeg (qA (q_sA h v0 x1.toNatClampNeg (qA h v0 ((1300 + x1 : Int32).toNatClampNeg))) v1 ((1300 + x1 : Int32).toNatClampNeg))) v2 x1.toNatClampNeg (qA (q_sA (q_sA h v0 x1.toNatClampNeg (qA h v0 ((1300 + x1 : Int32).toNatClampNeg))) v1 x1.toNatClampNeg (qA (q_sA h v0 x1.toNatClampNeg (qA h v0 ((1300 + x1 : Int32).toNatClampNeg))) v1 ((1300 + x1 : Int32).toNatClampNeg))) v2 ((1300 + x1 : Int32).toNatClampNeg))) v3 ((1300 + x1 : Int32).toNatClampNeg))) v4 x1.toNatClampNeg (qA (q_sA (q_sA (q_sA (q_sA h v0 x1.toNatClampNeg (qA h v0 ((1300 + x1 : Int32).toNatClampNeg))) v1 x1.toNatClampNeg (qA (q_sA h v0 x1.toNatClampNeg (qA h v0 ((1300 + x1 : Int32).toNatClampNeg))) v1 ((1300 + x1 : Int32).toNatClampNeg))) v2 x1.toNatClampNeg (qA (q_sA (q_sA h v0 x1.toNatClampNeg (qA h v0 ((1300 + x1 : Int32).toNatClampNeg))) v1 x1.toNatClampNeg (qA (q_sA h v0 x1.toNatClampNeg (qA h v0 ((1300 + x1 : Int32).toNatClampNeg))) v1 ((1300 + x1 : Int32).toNatClampNeg))) v2 ((1300 + x1 : Int32).toNatClampNeg))) v3 x1.toNatClampNeg (qA (q_sA (q_sA (q_sA h v0 x1.toNatClampNeg (qA h v0 ((1300 + x1 : Int32).toNatClampNeg))) v1 x1.toNatClampNeg (qA (q_sA h v0 x1.toNatClampNeg (qA h v0 ((1300 + x1 : Int32).toNatClampNeg))) v1 ((1300 + x1 : Int32).toNatClampNeg))) v2 x1.toNatClampNeg (qA (q_sA (q_sA h v0 x1.toNatClampNeg (qA h v0 ((1300 + x1 : Int32).toNatClampNeg))) v1 x1.toNatClampNeg (qA (q_sA h v0 x1.toNatClampNeg (qA h v0 ((1300 + x1 : Int32).toNatClampNeg))) v1 ((1300 + x1 : Int32).toNatClampNeg))) v2 ((1300 + x1 : Int32).toNatClampNeg))) v3 ((1300 + x1 : Int32).toNatClampNeg))) v4 ((1300 + x1 : Int32).toNatClampNeg))) P) (hm : m ≤ n) (w : ∀ (z : Int32) (h1 : q_Hp), P z h1 → q_wp (n + 1) 289 670 [some (.ref x0), some (.int x1), l2] [.int z, .int x1, .ref v5] h1 Q) : q_wp (n + 1) 289 572 [some (.ref x0), some (.int x1), l2] [] h Q := by
  refine wp_loc rfl rfl ?_
  refine wp_getR rfl rfl rfl rfl k0 e0 ?_
  refine wp_loc rfl rfl ?_
  refine wp_loc rfl rfl ?_
  refine wp_getR rfl rfl rfl rfl k0 e0 ?_
  refine wp_sipush (v := 1300) rfl (by decide) ?_
  refine wp_loc rfl rfl ?_
  refine wp_stk rfl rfl rfl ?_
  refine wp_iald rfl k1 i0 ?_
  refine wp_iast rfl k1 i1 ?_
  refine wp_loc rfl rfl ?_
  refine wp_getR rfl rfl rfl rfl k0 e1 ?_
  refine wp_loc rfl rfl ?_
  refine wp_loc rfl rfl ?_
  refine wp_getR rfl rfl rfl rfl k0 e1 ?_
  refine wp_sipush (v := 1300) rfl (by decide) ?_
  refine wp_loc rfl rfl ?_
  refine wp_stk rfl rfl rfl ?_
  refine wp_iald rfl k2 i2 ?_
  refine wp_iast rfl k2 i3 ?_
  refine wp_loc rfl rfl ?_
  refine wp_getR rfl rfl rfl rfl k0 e2 ?_
  refine wp_loc rfl rfl ?_
  refine wp_loc rfl rfl ?_
  refine wp_getR rfl rfl rfl rfl k0 e2 ?_
  refine wp_sipush (v := 1300) rfl (by decide) ?_
  refine wp_loc rfl rfl ?_
  refine wp_stk rfl rfl rfl ?_
  refine wp_iald rfl k3 i4 ?_
  refine wp_iast rfl k3 i5 ?_
  refine wp_loc rfl rfl ?_
  refine wp_getR rfl rfl rfl rfl k0 e3 ?_
  refine wp_loc rfl rfl ?_
  refine wp_loc rfl rfl ?_
  refine wp_getR rfl rfl rfl rfl k0 e3 ?_
  refine wp_sipush (v := 1300) rfl (by decide) ?_
  refine wp_loc rfl rfl ?_
  refine wp_stk rfl rfl rfl ?_
  refine wp_iald rfl k4 i6 ?_
  refine wp_iast rfl k4 i7 ?_
  refine wp_loc rfl rfl ?_
  refine wp_getR rfl rfl rfl rfl k0 e4 ?_
  refine wp_loc rfl rfl ?_
  refine wp_loc rfl rfl ?_
  refine wp_getR rfl rfl rfl rfl k0 e4 ?_
  refine wp_sipush (v := 1300) rfl (by decide) ?_
  refine wp_loc rfl rfl ?_
  refine wp_stk rfl rfl rfl ?_
  refine wp_iald rfl k5 i8 ?_
  refine wp_iast rfl k5 i9 ?_
  refine wp_loc rfl rfl ?_
  refine wp_getR rfl rfl rfl rfl k0 e5 ?_
  refine wp_loc rfl rfl ?_
  refine wp_loc rfl rfl ?_
  refine wp_getR rfl rfl rfl rfl k0 e5 ?_
  refine wp_sipush (v := 1300) rfl (by decide) ?_
  refine wp_loc rfl rfl ?_
  refine wp_stk rfl rfl rfl ?_
  refine wp_iald rfl k6 i10 ?_
  exact wp_callI (av := [.int (qA (q_sA (q_sA (q_sA (q_sA (q_sA h v0 x1.toNatClampNeg (qA h v0 ((1300 + x1 : Int32).toNatClampNeg))) v1 x1.toNatClampNeg (qA (q_sA h v0 x1.toNatClampNeg (qA h v0 ((1300 + x1 : Int32).toNatClampNeg))) v1 ((1300 + x1 : Int32).toNatClampNeg))) v2 x1.toNatClampNeg (qA (q_sA (q_sA h v0 x1.toNatClampNeg (qA h v0 ((1300 + x1 : Int32).toNatClampNeg))) v1 x1.toNatClampNeg (qA (q_sA h v0 x1.toNatClampNeg (qA h v0 ((1300 + x1 : Int32).toNatClampNeg))) v1 ((1300 + x1 : Int32).toNatClampNeg))) v2 ((1300 + x1 : Int32).toNatClampNeg))) v3 x1.toNatClampNeg (qA (q_sA (q_sA (q_sA h v0 x1.toNatClampNeg (qA h v0 ((1300 + x1 : Int32).toNatClampNeg))) v1 x1.toNatClampNeg (qA (q_sA h v0 x1.toNatClampNeg (qA h v0 ((1300 + x1 : Int32).toNatClampNeg))) v1 ((1300 + x1 : Int32).toNatClampNeg))) v2 x1.toNatClampNeg (qA (q_sA (q_sA h v0 x1.toNatClampNeg (qA h v0 ((1300 + x1 : Int32).toNatClampNeg))) v1 x1.toNatClampNeg (qA (q_sA h v0 x1.toNatClampNeg (qA h v0 ((1300 + x1 : Int32).toNatClampNeg))) v1 ((1300 + x1 : Int32).toNatClampNeg))) v2 ((1300 + x1 : Int32).toNatClampNeg))) v3 ((1300 + x1 : Int32).toNatClampNeg))) v4 x1.toNatClampNeg (qA (q_sA (q_sA (q_sA (q_sA h v0 x1.toNatClampNeg (qA h v0 ((1300 + x1 : Int32).toNatClampNeg))) v1 x1.toNatClampNeg (qA (q_sA h v0 x1.toNatClampNeg (qA h v0 ((1300 + x1 : Int32).toNatClampNeg))) v1 ((1300 + x1 : Int32).toNatClampNeg))) v2 x1.toNatClampNeg (qA (q_sA (q_sA h v0 x1.toNatClampNeg (qA h v0 ((1300 + x1 : Int32).toNatClampNeg))) v1 x1.toNatClampNeg (qA (q_sA h v0 x1.toNatClampNeg (qA h v0 ((1300 + x1 : Int32).toNatClampNeg))) v1 ((1300 + x1 : Int32).toNatClampNeg))) v2 ((1300 + x1 : Int32).toNatClampNeg))) v3 x1.toNatClampNeg (qA (q_sA (q_sA (q_sA h v0 x1.toNatClampNeg (qA h v0 ((1300 + x1 : Int32).toNatClampNeg))) v1 x1.toNatClampNeg (qA (q_sA h v0 x1.toNatClampNeg (qA h v0 ((1300 + x1 : Int32).toNatClampNeg))) v1 ((1300 + x1 : Int32).toNatClampNeg))) v2 x1.toNatClampNeg (qA (q_sA (q_sA h v0 x1.toNatClampNeg (qA h v0 ((1300 + x1 : Int32).toNatClampNeg))) v1 x1.toNatClampNeg (qA (q_sA h v0 x1.toNatClampNeg (qA h v0 ((1300 + x1 : Int32).toNatClampNeg))) v1 ((1300 + x1 : Int32).toNatClampNeg))) v2 ((1300 + x1 : Int32).toNatClampNeg))) v3 ((1300 + x1 : Int32).toNatClampNeg))) v4 ((1300 + x1 : Int32).toNatClampNeg))) v5 ((1300 + x1 : Int32).toNatClampNeg))]) rfl rfl rfl (by decide) rfl rfl rfl hm hc w
set_option maxRecDepth 20000 in
theorem b289_670 {n : Nat} {h : q_Hp} {Q : Option Value → q_Hp → Prop} {x0 : Nat} {x1 : Int32} {l2 : Option Value} {s0 : Int32} {s1 : Int32} {s2 : Nat} (k0 : q_ok h s2 20) (i0 : q_in s1 (qK h s2).2) (w : q_wp n 289 673 [some (.ref x0), some (.int x1), some (.int 0)] [] (q_sA h s2 s1.toNatClampNeg s0) Q) : q_wp n 289 670 [some (.ref x0), some (.int x1), l2] [.int s0, .int s1, .ref s2] h Q := by
  refine wp_iast rfl k0 i0 ?_
  refine wp_iconst (v := 0) rfl (by decide) ?_
  refine wp_loc rfl rfl ?_
  exact w
set_option maxRecDepth 20000 in
theorem b289_673 {n : Nat} {h : q_Hp} {Q : Option Value → q_Hp → Prop} {x0 : Nat} {x1 : Int32} {x2 : Int32} (wt : 3 ≤ x2 → q_wp n 289 711 [some (.ref x0), some (.int x1), some (.int x2)] [] h Q) (wf : ¬ 3 ≤ x2 → q_wp n 289 678 [some (.ref x0), some (.int x1), some (.int x2)] [] h Q) : q_wp n 289 673 [some (.ref x0), some (.int x1), some (.int x2)] [] h Q := by
  refine wp_loc rfl rfl ?_
  refine wp_iconst (v := 3) rfl (by decide) ?_
  exact wp_icge (tgt := 711) rfl (by decide) wt wf
set_option maxRecDepth 20000 in
theorem b289_678 {n : Nat} {h : q_Hp} {Q : Option Value → q_Hp → Prop} {x0 : Nat} {x1 : Int32} {x2 : Int32} {v0 : Nat} (k0 : q_ok h x0 12) (e0 : qR h x0 61 = v0) (k1 : q_ok h v0 20) (i0 : q_in ((3 * (1300 + x1)) + x2) (qK h v0).2) {m : Nat} {P : Int32 → q_Hp → Prop} (hc : q_mI m 290 [.int (qA h v0 (((3 * (1300 + x1)) + x2 : Int32).toNatClampNeg))] h P) (hm : m ≤ n) (w : ∀ (z : Int32) (h1 : q_Hp), P z h1 → q_wp (n + 1) 289 704 [some (.ref x0), some (.int x1), some (.int x2)] [.int z, .int ((3 * x1) + x2), .ref v0] h1 Q) : q_wp (n + 1) 289 678 [some (.ref x0), some (.int x1), some (.int x2)] [] h Q := by
  refine wp_loc rfl rfl ?_
  refine wp_getR rfl rfl rfl rfl k0 e0 ?_
  refine wp_iconst (v := 3) rfl (by decide) ?_
  refine wp_loc rfl rfl ?_
  refine wp_stk rfl rfl rfl ?_
  refine wp_loc rfl rfl ?_
  refine wp_stk rfl rfl rfl ?_
  refine wp_loc rfl rfl ?_
  refine wp_getR rfl rfl rfl rfl k0 e0 ?_
  refine wp_iconst (v := 3) rfl (by decide) ?_
  refine wp_sipush (v := 1300) rfl (by decide) ?_
  refine wp_loc rfl rfl ?_
  refine wp_stk rfl rfl rfl ?_
  refine wp_stk rfl rfl rfl ?_
  refine wp_loc rfl rfl ?_
  refine wp_stk rfl rfl rfl ?_
  refine wp_iald rfl k1 i0 ?_
  exact wp_callI (av := [.int (qA h v0 (((3 * (1300 + x1)) + x2 : Int32).toNatClampNeg))]) rfl rfl rfl (by decide) rfl rfl rfl hm hc w
set_option maxRecDepth 20000 in
theorem b289_704 {n : Nat} {h : q_Hp} {Q : Option Value → q_Hp → Prop} {x0 : Nat} {x1 : Int32} {x2 : Int32} {s0 : Int32} {s1 : Int32} {s2 : Nat} (k0 : q_ok h s2 20) (i0 : q_in s1 (qK h s2).2) (w : q_wp n 289 673 [some (.ref x0), some (.int x1), some (.int (x2 + 1))] [] (q_sA h s2 s1.toNatClampNeg s0) Q) : q_wp n 289 704 [some (.ref x0), some (.int x1), some (.int x2)] [.int s0, .int s1, .ref s2] h Q := by
  refine wp_iast rfl k0 i0 ?_
  refine wp_iinc (v := 1) rfl rfl (by decide) rfl ?_
  refine wp_goto (tgt := 673) rfl (by decide) ?_
  exact w
set_option maxRecDepth 20000 in
theorem b289_711 {n : Nat} {h : q_Hp} {Q : Option Value → q_Hp → Prop} {x0 : Nat} {x1 : Int32} {x2 : Int32} (w : q_wp n 289 565 [some (.ref x0), some (.int (x1 + 1)), some (.int x2)] [] h Q) : q_wp n 289 711 [some (.ref x0), some (.int x1), some (.int x2)] [] h Q := by
  refine wp_iinc (v := 1) rfl rfl (by decide) rfl ?_
  refine wp_goto (tgt := 565) rfl (by decide) ?_
  exact w
set_option maxRecDepth 20000 in
theorem b289_717 {n : Nat} {h : q_Hp} {Q : Option Value → q_Hp → Prop} {x0 : Nat} {x1 : Int32} {l2 : Option Value} (w : q_wp n 289 719 [some (.ref x0), some (.int 0), l2] [] h Q) : q_wp n 289 717 [some (.ref x0), some (.int x1), l2] [] h Q := by
  refine wp_iconst (v := 0) rfl (by decide) ?_
  refine wp_loc rfl rfl ?_
  exact w
set_option maxRecDepth 20000 in
theorem b289_719 {n : Nat} {h : q_Hp} {Q : Option Value → q_Hp → Prop} {x0 : Nat} {x1 : Int32} {l2 : Option Value} (wt : 10 ≤ x1 → q_wp n 289 749 [some (.ref x0), some (.int x1), l2] [] h Q) (wf : ¬ 10 ≤ x1 → q_wp n 289 725 [some (.ref x0), some (.int x1), l2] [] h Q) : q_wp n 289 719 [some (.ref x0), some (.int x1), l2] [] h Q := by
  refine wp_loc rfl rfl ?_
  refine wp_bipush (v := 10) rfl (by decide) ?_
  exact wp_icge (tgt := 749) rfl (by decide) wt wf
set_option maxRecDepth 20000 in
theorem b289_725 {n : Nat} {h : q_Hp} {Q : Option Value → q_Hp → Prop} {x0 : Nat} {x1 : Int32} {l2 : Option Value} {v0 : Nat} (k0 : q_ok h x0 12) (e0 : qR h x0 63 = v0) (k1 : q_ok h v0 20) (i0 : q_in (10 + x1) (qK h v0).2) {m : Nat} {P : Int32 → q_Hp → Prop} (hc : q_mI m 290 [.int (qA h v0 ((10 + x1 : Int32).toNatClampNeg))] h P) (hm : m ≤ n) (w : ∀ (z : Int32) (h1 : q_Hp), P z h1 → q_wp (n + 1) 289 742 [some (.ref x0), some (.int x1), l2] [.int z, .int x1, .ref v0] h1 Q) : q_wp (n + 1) 289 725 [some (.ref x0), some (.int x1), l2] [] h Q := by
  refine wp_loc rfl rfl ?_
  refine wp_getR rfl rfl rfl rfl k0 e0 ?_
  refine wp_loc rfl rfl ?_
  refine wp_loc rfl rfl ?_
  refine wp_getR rfl rfl rfl rfl k0 e0 ?_
  refine wp_bipush (v := 10) rfl (by decide) ?_
  refine wp_loc rfl rfl ?_
  refine wp_stk rfl rfl rfl ?_
  refine wp_iald rfl k1 i0 ?_
  exact wp_callI (av := [.int (qA h v0 ((10 + x1 : Int32).toNatClampNeg))]) rfl rfl rfl (by decide) rfl rfl rfl hm hc w
set_option maxRecDepth 20000 in
theorem b289_742 {n : Nat} {h : q_Hp} {Q : Option Value → q_Hp → Prop} {x0 : Nat} {x1 : Int32} {l2 : Option Value} {s0 : Int32} {s1 : Int32} {s2 : Nat} (k0 : q_ok h s2 20) (i0 : q_in s1 (qK h s2).2) (w : q_wp n 289 719 [some (.ref x0), some (.int (x1 + 1)), l2] [] (q_sA h s2 s1.toNatClampNeg s0) Q) : q_wp n 289 742 [some (.ref x0), some (.int x1), l2] [.int s0, .int s1, .ref s2] h Q := by
  refine wp_iast rfl k0 i0 ?_
  refine wp_iinc (v := 1) rfl rfl (by decide) rfl ?_
  refine wp_goto (tgt := 719) rfl (by decide) ?_
  exact w
set_option maxRecDepth 20000 in
theorem b289_749 {n : Nat} {h : q_Hp} {Q : Option Value → q_Hp → Prop} {x0 : Nat} {x1 : Int32} {l2 : Option Value} (q : Q none h) : q_wp n 289 749 [some (.ref x0), some (.int x1), l2] [] h Q := by
  exact wp_ret rfl rfl q
theorem b290_0 {n : Nat} {h : q_Hp} {Q : Option Value → q_Hp → Prop} {x0 : Int32} (wt : ¬ x0 = (-1) → q_wp n 290 9 [some (.int x0)] [] h Q) (wf : x0 = (-1) → q_wp n 290 5 [some (.int x0)] [] h Q) : q_wp n 290 0 [some (.int x0)] [] h Q := by
  refine wp_loc rfl rfl ?_
  refine wp_iconst (v := (-1)) rfl (by decide) ?_
  exact wp_icne (tgt := 9) rfl (by decide) wt wf
theorem b290_5 {n : Nat} {h : q_Hp} {Q : Option Value → q_Hp → Prop} {x0 : Int32} (q : Q (some (.int (-1))) h) : q_wp n 290 5 [some (.int x0)] [] h Q := by
  refine wp_iconst (v := (-1)) rfl (by decide) ?_
  refine wp_goto (tgt := 14) rfl (by decide) ?_
  exact wp_ret rfl rfl q
theorem b290_9 {n : Nat} {h : q_Hp} {Q : Option Value → q_Hp → Prop} {x0 : Int32} (q : Q (some (.int (x0 - 1300))) h) : q_wp n 290 9 [some (.int x0)] [] h Q := by
  refine wp_loc rfl rfl ?_
  refine wp_sipush (v := 1300) rfl (by decide) ?_
  refine wp_stk rfl rfl rfl ?_
  exact wp_ret rfl rfl q
theorem b291_0 {n : Nat} {h : q_Hp} {Q : Option Value → q_Hp → Prop} {x0 : Nat} (w : q_wp n 291 2 [some (.ref x0), some (.int 0)] [] h Q) : q_wp n 291 0 [some (.ref x0), none] [] h Q := by
  refine wp_iconst (v := 0) rfl (by decide) ?_
  refine wp_loc rfl rfl ?_
  exact w
theorem b291_2 {n : Nat} {h : q_Hp} {Q : Option Value → q_Hp → Prop} {x0 : Nat} {x1 : Int32} (wt : 156 ≤ x1 → q_wp n 291 22 [some (.ref x0), some (.int x1)] [] h Q) (wf : ¬ 156 ≤ x1 → q_wp n 291 9 [some (.ref x0), some (.int x1)] [] h Q) : q_wp n 291 2 [some (.ref x0), some (.int x1)] [] h Q := by
  refine wp_loc rfl rfl ?_
  refine wp_sipush (v := 156) rfl (by decide) ?_
  exact wp_icge (tgt := 22) rfl (by decide) wt wf
theorem b291_9 {n : Nat} {h : q_Hp} {Q : Option Value → q_Hp → Prop} {x0 : Nat} {x1 : Int32} {v0 : Nat} (k0 : q_ok h x0 12) (e0 : qR h x0 87 = v0) (k1 : q_ok h v0 20) (i0 : q_in x1 (qK h v0).2) (w : q_wp n 291 2 [some (.ref x0), some (.int (x1 + 1))] [] (q_sA h v0 x1.toNatClampNeg 0) Q) : q_wp n 291 9 [some (.ref x0), some (.int x1)] [] h Q := by
  refine wp_loc rfl rfl ?_
  refine wp_getR rfl rfl rfl rfl k0 e0 ?_
  refine wp_loc rfl rfl ?_
  refine wp_iconst (v := 0) rfl (by decide) ?_
  refine wp_iast rfl k1 i0 ?_
  refine wp_iinc (v := 1) rfl rfl (by decide) rfl ?_
  refine wp_goto (tgt := 2) rfl (by decide) ?_
  exact w
theorem b291_22 {n : Nat} {h : q_Hp} {Q : Option Value → q_Hp → Prop} {x0 : Nat} {x1 : Int32} (w : q_wp n 291 24 [some (.ref x0), some (.int 0)] [] h Q) : q_wp n 291 22 [some (.ref x0), some (.int x1)] [] h Q := by
  refine wp_iconst (v := 0) rfl (by decide) ?_
  refine wp_loc rfl rfl ?_
  exact w
theorem b291_24 {n : Nat} {h : q_Hp} {Q : Option Value → q_Hp → Prop} {x0 : Nat} {x1 : Int32} (wt : 12 ≤ x1 → q_wp n 291 43 [some (.ref x0), some (.int x1)] [] h Q) (wf : ¬ 12 ≤ x1 → q_wp n 291 30 [some (.ref x0), some (.int x1)] [] h Q) : q_wp n 291 24 [some (.ref x0), some (.int x1)] [] h Q := by
  refine wp_loc rfl rfl ?_
  refine wp_bipush (v := 12) rfl (by decide) ?_
  exact wp_icge (tgt := 43) rfl (by decide) wt wf
theorem b291_30 {n : Nat} {h : q_Hp} {Q : Option Value → q_Hp → Prop} {x0 : Nat} {x1 : Int32} {v0 : Nat} (k0 : q_ok h x0 12) (e0 : qR h x0 87 = v0) (k1 : q_ok h v0 20) (i0 : q_in x1 (qK h v0).2) (w : q_wp n 291 24 [some (.ref x0), some (.int (x1 + 1))] [] (q_sA h v0 x1.toNatClampNeg (-1)) Q) : q_wp n 291 30 [some (.ref x0), some (.int x1)] [] h Q := by
  refine wp_loc rfl rfl ?_
  refine wp_getR rfl rfl rfl rfl k0 e0 ?_
  refine wp_loc rfl rfl ?_
  refine wp_iconst (v := (-1)) rfl (by decide) ?_
  refine wp_iast rfl k1 i0 ?_
  refine wp_iinc (v := 1) rfl rfl (by decide) rfl ?_
  refine wp_goto (tgt := 24) rfl (by decide) ?_
  exact w
theorem b291_43 {n : Nat} {h : q_Hp} {Q : Option Value → q_Hp → Prop} {x0 : Nat} {x1 : Int32} (w : q_wp n 291 45 [some (.ref x0), some (.int 0)] [] h Q) : q_wp n 291 43 [some (.ref x0), some (.int x1)] [] h Q := by
  refine wp_iconst (v := 0) rfl (by decide) ?_
  refine wp_loc rfl rfl ?_
  exact w
theorem b291_45 {n : Nat} {h : q_Hp} {Q : Option Value → q_Hp → Prop} {x0 : Nat} {x1 : Int32} (wt : 40 ≤ x1 → q_wp n 291 67 [some (.ref x0), some (.int x1)] [] h Q) (wf : ¬ 40 ≤ x1 → q_wp n 291 51 [some (.ref x0), some (.int x1)] [] h Q) : q_wp n 291 45 [some (.ref x0), some (.int x1)] [] h Q := by
  refine wp_loc rfl rfl ?_
  refine wp_bipush (v := 40) rfl (by decide) ?_
  exact wp_icge (tgt := 67) rfl (by decide) wt wf
theorem b291_51 {n : Nat} {h : q_Hp} {Q : Option Value → q_Hp → Prop} {x0 : Nat} {x1 : Int32} {v0 : Nat} (k0 : q_ok h x0 12) (e0 : qR h x0 87 = v0) (k1 : q_ok h v0 20) (i0 : q_in (36 + x1) (qK h v0).2) (w : q_wp n 291 45 [some (.ref x0), some (.int (x1 + 1))] [] (q_sA h v0 ((36 + x1 : Int32).toNatClampNeg) (-1)) Q) : q_wp n 291 51 [some (.ref x0), some (.int x1)] [] h Q := by
  refine wp_loc rfl rfl ?_
  refine wp_getR rfl rfl rfl rfl k0 e0 ?_
  refine wp_bipush (v := 36) rfl (by decide) ?_
  refine wp_loc rfl rfl ?_
  refine wp_stk rfl rfl rfl ?_
  refine wp_iconst (v := (-1)) rfl (by decide) ?_
  refine wp_iast rfl k1 i0 ?_
  refine wp_iinc (v := 1) rfl rfl (by decide) rfl ?_
  refine wp_goto (tgt := 45) rfl (by decide) ?_
  exact w
theorem b291_67 {n : Nat} {h : q_Hp} {Q : Option Value → q_Hp → Prop} {x0 : Nat} {x1 : Int32} (w : q_wp n 291 69 [some (.ref x0), some (.int 0)] [] h Q) : q_wp n 291 67 [some (.ref x0), some (.int x1)] [] h Q := by
  refine wp_iconst (v := 0) rfl (by decide) ?_
  refine wp_loc rfl rfl ?_
  exact w
theorem b291_69 {n : Nat} {h : q_Hp} {Q : Option Value → q_Hp → Prop} {x0 : Nat} {x1 : Int32} (wt : 4 ≤ x1 → q_wp n 291 87 [some (.ref x0), some (.int x1)] [] h Q) (wf : ¬ 4 ≤ x1 → q_wp n 291 74 [some (.ref x0), some (.int x1)] [] h Q) : q_wp n 291 69 [some (.ref x0), some (.int x1)] [] h Q := by
  refine wp_loc rfl rfl ?_
  refine wp_iconst (v := 4) rfl (by decide) ?_
  exact wp_icge (tgt := 87) rfl (by decide) wt wf
theorem b291_74 {n : Nat} {h : q_Hp} {Q : Option Value → q_Hp → Prop} {x0 : Nat} {x1 : Int32} {v0 : Nat} (k0 : q_ok h x0 12) (e0 : qR h x0 90 = v0) (k1 : q_ok h v0 23) (i0 : q_in x1 (qK h v0).2) (w : q_wp n 291 69 [some (.ref x0), some (.int (x1 + 1))] [] (q_sA h v0 x1.toNatClampNeg (vp_nar .boolean 0)) Q) : q_wp n 291 74 [some (.ref x0), some (.int x1)] [] h Q := by
  refine wp_loc rfl rfl ?_
  refine wp_getR rfl rfl rfl rfl k0 e0 ?_
  refine wp_loc rfl rfl ?_
  refine wp_iconst (v := 0) rfl (by decide) ?_
  refine wp_zast rfl k1 i0 ?_
  refine wp_iinc (v := 1) rfl rfl (by decide) rfl ?_
  refine wp_goto (tgt := 69) rfl (by decide) ?_
  exact w
theorem b291_87 {n : Nat} {h : q_Hp} {Q : Option Value → q_Hp → Prop} {x0 : Nat} {x1 : Int32} (k0 : q_ok h x0 12) (q : Q none (q_sI (q_sI (q_sI (q_sI (q_sI (q_sI (q_sI h x0 91 0) x0 92 0) x0 104 0) x0 105 0) x0 106 0) x0 95 0) x0 96 0)) : q_wp n 291 87 [some (.ref x0), some (.int x1)] [] h Q := by
  refine wp_loc rfl rfl ?_
  refine wp_iconst (v := 0) rfl (by decide) ?_
  refine wp_putI rfl rfl (Or.inl rfl) rfl (fun h9 => by cases h9) k0 ?_
  refine wp_loc rfl rfl ?_
  refine wp_iconst (v := 0) rfl (by decide) ?_
  refine wp_putI rfl rfl (Or.inl rfl) rfl (fun h9 => by cases h9) k0 ?_
  refine wp_loc rfl rfl ?_
  refine wp_iconst (v := 0) rfl (by decide) ?_
  refine wp_putI rfl rfl (Or.inl rfl) rfl (fun h9 => by cases h9) k0 ?_
  refine wp_loc rfl rfl ?_
  refine wp_iconst (v := 0) rfl (by decide) ?_
  refine wp_putI rfl rfl (Or.inl rfl) rfl (fun h9 => by cases h9) k0 ?_
  refine wp_loc rfl rfl ?_
  refine wp_iconst (v := 0) rfl (by decide) ?_
  refine wp_putI rfl rfl (Or.inl rfl) rfl (fun h9 => by cases h9) k0 ?_
  refine wp_loc rfl rfl ?_
  refine wp_iconst (v := 0) rfl (by decide) ?_
  refine wp_putI rfl rfl (Or.inl rfl) rfl (fun h9 => by cases h9) k0 ?_
  refine wp_loc rfl rfl ?_
  refine wp_iconst (v := 0) rfl (by decide) ?_
  refine wp_putI rfl rfl (Or.inl rfl) rfl (fun h9 => by cases h9) k0 ?_
  exact wp_ret rfl rfl q
theorem b292_0 {n : Nat} {h : q_Hp} {Q : Option Value → q_Hp → Prop} {x0 : Nat} {x1 : Nat} {x2 : Int32} (w : q_wp n 292 2 [some (.ref x0), some (.ref x1), some (.int x2), some (.int 0)] [] h Q) : q_wp n 292 0 [some (.ref x0), some (.ref x1), some (.int x2), none] [] h Q := by
  refine wp_iconst (v := 0) rfl (by decide) ?_
  refine wp_loc rfl rfl ?_
  exact w
theorem b292_2 {n : Nat} {h : q_Hp} {Q : Option Value → q_Hp → Prop} {x0 : Nat} {x1 : Nat} {x2 : Int32} {x3 : Int32} (wt : 156 ≤ x3 → q_wp n 292 26 [some (.ref x0), some (.ref x1), some (.int x2), some (.int x3)] [] h Q) (wf : ¬ 156 ≤ x3 → q_wp n 292 9 [some (.ref x0), some (.ref x1), some (.int x2), some (.int x3)] [] h Q) : q_wp n 292 2 [some (.ref x0), some (.ref x1), some (.int x2), some (.int x3)] [] h Q := by
  refine wp_loc rfl rfl ?_
  refine wp_sipush (v := 156) rfl (by decide) ?_
  exact wp_icge (tgt := 26) rfl (by decide) wt wf
theorem b292_9 {n : Nat} {h : q_Hp} {Q : Option Value → q_Hp → Prop} {x0 : Nat} {x1 : Nat} {x2 : Int32} {x3 : Int32} {v0 : Nat} (k0 : q_ok h x0 12) (e0 : qR h x0 87 = v0) (k1 : q_ok h v0 20) (i0 : q_in x3 (qK h v0).2) (k2 : q_ok h x1 20) (i1 : q_in (x2 + x3) (qK h x1).2) (w : q_wp n 292 2 [some (.ref x0), some (.ref x1), some (.int x2), some (.int (x3 + 1))] [] (q_sA h x1 ((x2 + x3 : Int32).toNatClampNeg) (qA h v0 x3.toNatClampNeg)) Q) : q_wp n 292 9 [some (.ref x0), some (.ref x1), some (.int x2), some (.int x3)] [] h Q := by
  refine wp_loc rfl rfl ?_
  refine wp_loc rfl rfl ?_
  refine wp_loc rfl rfl ?_
  refine wp_stk rfl rfl rfl ?_
  refine wp_loc rfl rfl ?_
  refine wp_getR rfl rfl rfl rfl k0 e0 ?_
  refine wp_loc rfl rfl ?_
  refine wp_iald rfl k1 i0 ?_
  refine wp_iast rfl k2 i1 ?_
  refine wp_iinc (v := 1) rfl rfl (by decide) rfl ?_
  refine wp_goto (tgt := 2) rfl (by decide) ?_
  exact w
theorem b292_26 {n : Nat} {h : q_Hp} {Q : Option Value → q_Hp → Prop} {x0 : Nat} {x1 : Nat} {x2 : Int32} {x3 : Int32} (q : Q none h) : q_wp n 292 26 [some (.ref x0), some (.ref x1), some (.int x2), some (.int x3)] [] h Q := by
  exact wp_ret rfl rfl q
theorem b293_0 {n : Nat} {h : q_Hp} {Q : Option Value → q_Hp → Prop} {x0 : Nat} {x1 : Nat} {x2 : Int32} (w : q_wp n 293 2 [some (.ref x0), some (.ref x1), some (.int x2), some (.int 0)] [] h Q) : q_wp n 293 0 [some (.ref x0), some (.ref x1), some (.int x2), none] [] h Q := by
  refine wp_iconst (v := 0) rfl (by decide) ?_
  refine wp_loc rfl rfl ?_
  exact w
theorem b293_2 {n : Nat} {h : q_Hp} {Q : Option Value → q_Hp → Prop} {x0 : Nat} {x1 : Nat} {x2 : Int32} {x3 : Int32} (wt : 156 ≤ x3 → q_wp n 293 26 [some (.ref x0), some (.ref x1), some (.int x2), some (.int x3)] [] h Q) (wf : ¬ 156 ≤ x3 → q_wp n 293 9 [some (.ref x0), some (.ref x1), some (.int x2), some (.int x3)] [] h Q) : q_wp n 293 2 [some (.ref x0), some (.ref x1), some (.int x2), some (.int x3)] [] h Q := by
  refine wp_loc rfl rfl ?_
  refine wp_sipush (v := 156) rfl (by decide) ?_
  exact wp_icge (tgt := 26) rfl (by decide) wt wf
theorem b293_9 {n : Nat} {h : q_Hp} {Q : Option Value → q_Hp → Prop} {x0 : Nat} {x1 : Nat} {x2 : Int32} {x3 : Int32} {v0 : Nat} (k0 : q_ok h x0 12) (e0 : qR h x0 87 = v0) (k1 : q_ok h x1 20) (i0 : q_in (x2 + x3) (qK h x1).2) (k2 : q_ok h v0 20) (i1 : q_in x3 (qK h v0).2) (w : q_wp n 293 2 [some (.ref x0), some (.ref x1), some (.int x2), some (.int (x3 + 1))] [] (q_sA h v0 x3.toNatClampNeg (qA h x1 ((x2 + x3 : Int32).toNatClampNeg))) Q) : q_wp n 293 9 [some (.ref x0), some (.ref x1), some (.int x2), some (.int x3)] [] h Q := by
  refine wp_loc rfl rfl ?_
  refine wp_getR rfl rfl rfl rfl k0 e0 ?_
  refine wp_loc rfl rfl ?_
  refine wp_loc rfl rfl ?_
  refine wp_loc rfl rfl ?_
  refine wp_loc rfl rfl ?_
  refine wp_stk rfl rfl rfl ?_
  refine wp_iald rfl k1 i0 ?_
  refine wp_iast rfl k2 i1 ?_
  refine wp_iinc (v := 1) rfl rfl (by decide) rfl ?_
  refine wp_goto (tgt := 2) rfl (by decide) ?_
  exact w
theorem b293_26 {n : Nat} {h : q_Hp} {Q : Option Value → q_Hp → Prop} {x0 : Nat} {x1 : Nat} {x2 : Int32} {x3 : Int32} (q : Q none h) : q_wp n 293 26 [some (.ref x0), some (.ref x1), some (.int x2), some (.int x3)] [] h Q := by
  exact wp_ret rfl rfl q
theorem b294_0 {n : Nat} {h : q_Hp} {Q : Option Value → q_Hp → Prop} {x0 : Nat} {x1 : Int32} (wt : x1 < 0 → q_wp n 294 24 [some (.ref x0), some (.int x1)] [] h Q) (wf : ¬ x1 < 0 → q_wp n 294 4 [some (.ref x0), some (.int x1)] [] h Q) : q_wp n 294 0 [some (.ref x0), some (.int x1)] [] h Q := by
  refine wp_loc rfl rfl ?_
  exact wp_iflt (tgt := 24) rfl (by decide) wt wf
theorem b294_4 {n : Nat} {h : q_Hp} {Q : Option Value → q_Hp → Prop} {x0 : Nat} {x1 : Int32} (wt : 12 ≤ x1 → q_wp n 294 24 [some (.ref x0), some (.int x1)] [] h Q) (wf : ¬ 12 ≤ x1 → q_wp n 294 10 [some (.ref x0), some (.int x1)] [] h Q) : q_wp n 294 4 [some (.ref x0), some (.int x1)] [] h Q := by
  refine wp_loc rfl rfl ?_
  refine wp_bipush (v := 12) rfl (by decide) ?_
  exact wp_icge (tgt := 24) rfl (by decide) wt wf
theorem b294_10 {n : Nat} {h : q_Hp} {Q : Option Value → q_Hp → Prop} {x0 : Nat} {x1 : Int32} {v0 : Nat} (k0 : q_ok h x0 12) (e0 : qR h x0 87 = v0) (k1 : q_ok h v0 20) (i0 : q_in x1 (qK h v0).2) (wt : (qA h v0 x1.toNatClampNeg) = (-1) → q_wp n 294 24 [some (.ref x0), some (.int x1)] [] h Q) (wf : ¬ (qA h v0 x1.toNatClampNeg) = (-1) → q_wp n 294 20 [some (.ref x0), some (.int x1)] [] h Q) : q_wp n 294 10 [some (.ref x0), some (.int x1)] [] h Q := by
  refine wp_loc rfl rfl ?_
  refine wp_getR rfl rfl rfl rfl k0 e0 ?_
  refine wp_loc rfl rfl ?_
  refine wp_iald rfl k1 i0 ?_
  refine wp_iconst (v := (-1)) rfl (by decide) ?_
  exact wp_iceq (tgt := 24) rfl (by decide) wt wf
theorem b294_20 {n : Nat} {h : q_Hp} {Q : Option Value → q_Hp → Prop} {x0 : Nat} {x1 : Int32} (q : Q (some (.int 1)) h) : q_wp n 294 20 [some (.ref x0), some (.int x1)] [] h Q := by
  refine wp_iconst (v := 1) rfl (by decide) ?_
  refine wp_goto (tgt := 25) rfl (by decide) ?_
  exact wp_ret (r := some (.int 1)) rfl rfl q
theorem b294_24 {n : Nat} {h : q_Hp} {Q : Option Value → q_Hp → Prop} {x0 : Nat} {x1 : Int32} (q : Q (some (.int 0)) h) : q_wp n 294 24 [some (.ref x0), some (.int x1)] [] h Q := by
  refine wp_iconst (v := 0) rfl (by decide) ?_
  exact wp_ret (r := some (.int 0)) rfl rfl q
theorem b295_0 {n : Nat} {h : q_Hp} {Q : Option Value → q_Hp → Prop} {x0 : Nat} {x1 : Int32} (wt : x1 < 0 → q_wp n 295 27 [some (.ref x0), some (.int x1)] [] h Q) (wf : ¬ x1 < 0 → q_wp n 295 4 [some (.ref x0), some (.int x1)] [] h Q) : q_wp n 295 0 [some (.ref x0), some (.int x1)] [] h Q := by
  refine wp_loc rfl rfl ?_
  exact wp_iflt (tgt := 27) rfl (by decide) wt wf
theorem b295_4 {n : Nat} {h : q_Hp} {Q : Option Value → q_Hp → Prop} {x0 : Nat} {x1 : Int32} (wt : 40 ≤ x1 → q_wp n 295 27 [some (.ref x0), some (.int x1)] [] h Q) (wf : ¬ 40 ≤ x1 → q_wp n 295 10 [some (.ref x0), some (.int x1)] [] h Q) : q_wp n 295 4 [some (.ref x0), some (.int x1)] [] h Q := by
  refine wp_loc rfl rfl ?_
  refine wp_bipush (v := 40) rfl (by decide) ?_
  exact wp_icge (tgt := 27) rfl (by decide) wt wf
theorem b295_10 {n : Nat} {h : q_Hp} {Q : Option Value → q_Hp → Prop} {x0 : Nat} {x1 : Int32} {v0 : Nat} (k0 : q_ok h x0 12) (e0 : qR h x0 87 = v0) (k1 : q_ok h v0 20) (i0 : q_in (36 + x1) (qK h v0).2) (wt : (qA h v0 ((36 + x1 : Int32).toNatClampNeg)) = (-1) → q_wp n 295 27 [some (.ref x0), some (.int x1)] [] h Q) (wf : ¬ (qA h v0 ((36 + x1 : Int32).toNatClampNeg)) = (-1) → q_wp n 295 23 [some (.ref x0), some (.int x1)] [] h Q) : q_wp n 295 10 [some (.ref x0), some (.int x1)] [] h Q := by
  refine wp_loc rfl rfl ?_
  refine wp_getR rfl rfl rfl rfl k0 e0 ?_
  refine wp_bipush (v := 36) rfl (by decide) ?_
  refine wp_loc rfl rfl ?_
  refine wp_stk rfl rfl rfl ?_
  refine wp_iald rfl k1 i0 ?_
  refine wp_iconst (v := (-1)) rfl (by decide) ?_
  exact wp_iceq (tgt := 27) rfl (by decide) wt wf
theorem b295_23 {n : Nat} {h : q_Hp} {Q : Option Value → q_Hp → Prop} {x0 : Nat} {x1 : Int32} (q : Q (some (.int 1)) h) : q_wp n 295 23 [some (.ref x0), some (.int x1)] [] h Q := by
  refine wp_iconst (v := 1) rfl (by decide) ?_
  refine wp_goto (tgt := 28) rfl (by decide) ?_
  exact wp_ret (r := some (.int 1)) rfl rfl q
theorem b295_27 {n : Nat} {h : q_Hp} {Q : Option Value → q_Hp → Prop} {x0 : Nat} {x1 : Int32} (q : Q (some (.int 0)) h) : q_wp n 295 27 [some (.ref x0), some (.int x1)] [] h Q := by
  refine wp_iconst (v := 0) rfl (by decide) ?_
  exact wp_ret (r := some (.int 0)) rfl rfl q
theorem b296_0 {n : Nat} {h : q_Hp} {Q : Option Value → q_Hp → Prop} {x0 : Nat} {x1 : Int32} {x2 : Int32} (w : q_wp n 296 5 [some (.ref x0), some (.int x1), some (.int x2), some (.int 0), some (.int 0)] [] h Q) : q_wp n 296 0 [some (.ref x0), some (.int x1), some (.int x2), none, none] [] h Q := by
  refine wp_iconst (v := 0) rfl (by decide) ?_
  refine wp_loc rfl rfl ?_
  refine wp_iconst (v := 0) rfl (by decide) ?_
  refine wp_loc rfl rfl ?_
  exact w
theorem b296_5 {n : Nat} {h : q_Hp} {Q : Option Value → q_Hp → Prop} {x0 : Nat} {x1 : Int32} {x2 : Int32} {x3 : Int32} {x4 : Int32} (wt : x2 ≤ x4 → q_wp n 296 33 [some (.ref x0), some (.int x1), some (.int x2), some (.int x3), some (.int x4)] [] h Q) (wf : ¬ x2 ≤ x4 → q_wp n 296 11 [some (.ref x0), some (.int x1), some (.int x2), some (.int x3), some (.int x4)] [] h Q) : q_wp n 296 5 [some (.ref x0), some (.int x1), some (.int x2), some (.int x3), some (.int x4)] [] h Q := by
  refine wp_loc rfl rfl ?_
  refine wp_loc rfl rfl ?_
  exact wp_icge (tgt := 33) rfl (by decide) wt wf
theorem b296_11 {n : Nat} {h : q_Hp} {Q : Option Value → q_Hp → Prop} {x0 : Nat} {x1 : Int32} {x2 : Int32} {x3 : Int32} {x4 : Int32} {v0 : Nat} (k0 : q_ok h x0 12) (e0 : qR h x0 87 = v0) (k1 : q_ok h v0 20) (i0 : q_in (x1 + x4) (qK h v0).2) (wt : (qA h v0 ((x1 + x4 : Int32).toNatClampNeg)) = (-1) → q_wp n 296 27 [some (.ref x0), some (.int x1), some (.int x2), some (.int x3), some (.int x4)] [] h Q) (wf : ¬ (qA h v0 ((x1 + x4 : Int32).toNatClampNeg)) = (-1) → q_wp n 296 24 [some (.ref x0), some (.int x1), some (.int x2), some (.int x3), some (.int x4)] [] h Q) : q_wp n 296 11 [some (.ref x0), some (.int x1), some (.int x2), some (.int x3), some (.int x4)] [] h Q := by
  refine wp_loc rfl rfl ?_
  refine wp_getR rfl rfl rfl rfl k0 e0 ?_
  refine wp_loc rfl rfl ?_
  refine wp_loc rfl rfl ?_
  refine wp_stk rfl rfl rfl ?_
  refine wp_iald rfl k1 i0 ?_
  refine wp_iconst (v := (-1)) rfl (by decide) ?_
  exact wp_iceq (tgt := 27) rfl (by decide) wt wf
theorem b296_24 {n : Nat} {h : q_Hp} {Q : Option Value → q_Hp → Prop} {x0 : Nat} {x1 : Int32} {x2 : Int32} {x3 : Int32} {x4 : Int32} (w : q_wp n 296 27 [some (.ref x0), some (.int x1), some (.int x2), some (.int (x3 + 1)), some (.int x4)] [] h Q) : q_wp n 296 24 [some (.ref x0), some (.int x1), some (.int x2), some (.int x3), some (.int x4)] [] h Q := by
  refine wp_iinc (v := 1) rfl rfl (by decide) rfl ?_
  exact w
theorem b296_27 {n : Nat} {h : q_Hp} {Q : Option Value → q_Hp → Prop} {x0 : Nat} {x1 : Int32} {x2 : Int32} {x3 : Int32} {x4 : Int32} (w : q_wp n 296 5 [some (.ref x0), some (.int x1), some (.int x2), some (.int x3), some (.int (x4 + 1))] [] h Q) : q_wp n 296 27 [some (.ref x0), some (.int x1), some (.int x2), some (.int x3), some (.int x4)] [] h Q := by
  refine wp_iinc (v := 1) rfl rfl (by decide) rfl ?_
  refine wp_goto (tgt := 5) rfl (by decide) ?_
  exact w
theorem b296_33 {n : Nat} {h : q_Hp} {Q : Option Value → q_Hp → Prop} {x0 : Nat} {x1 : Int32} {x2 : Int32} {x3 : Int32} {x4 : Int32} (q : Q (some (.int x3)) h) : q_wp n 296 33 [some (.ref x0), some (.int x1), some (.int x2), some (.int x3), some (.int x4)] [] h Q := by
  refine wp_loc rfl rfl ?_
  exact wp_ret rfl rfl q
theorem b297_0 {n : Nat} {h : q_Hp} {Q : Option Value → q_Hp → Prop} {x0 : Nat} {x1 : Int32} {x2 : Int32} (w : q_wp n 297 2 [some (.ref x0), some (.int x1), some (.int x2), some (.int 0)] [] h Q) : q_wp n 297 0 [some (.ref x0), some (.int x1), some (.int x2), none] [] h Q := by
  refine wp_iconst (v := 0) rfl (by decide) ?_
  refine wp_loc rfl rfl ?_
  exact w
theorem b297_2 {n : Nat} {h : q_Hp} {Q : Option Value → q_Hp → Prop} {x0 : Nat} {x1 : Int32} {x2 : Int32} {x3 : Int32} (wt : x2 ≤ x3 → q_wp n 297 27 [some (.ref x0), some (.int x1), some (.int x2), some (.int x3)] [] h Q) (wf : ¬ x2 ≤ x3 → q_wp n 297 7 [some (.ref x0), some (.int x1), some (.int x2), some (.int x3)] [] h Q) : q_wp n 297 2 [some (.ref x0), some (.int x1), some (.int x2), some (.int x3)] [] h Q := by
  refine wp_loc rfl rfl ?_
  refine wp_loc rfl rfl ?_
  exact wp_icge (tgt := 27) rfl (by decide) wt wf
theorem b297_7 {n : Nat} {h : q_Hp} {Q : Option Value → q_Hp → Prop} {x0 : Nat} {x1 : Int32} {x2 : Int32} {x3 : Int32} {v0 : Nat} (k0 : q_ok h x0 12) (e0 : qR h x0 87 = v0) (k1 : q_ok h v0 20) (i0 : q_in (x1 + x3) (qK h v0).2) (wt : ¬ (qA h v0 ((x1 + x3 : Int32).toNatClampNeg)) = (-1) → q_wp n 297 21 [some (.ref x0), some (.int x1), some (.int x2), some (.int x3)] [] h Q) (wf : (qA h v0 ((x1 + x3 : Int32).toNatClampNeg)) = (-1) → q_wp n 297 19 [some (.ref x0), some (.int x1), some (.int x2), some (.int x3)] [] h Q) : q_wp n 297 7 [some (.ref x0), some (.int x1), some (.int x2), some (.int x3)] [] h Q := by
  refine wp_loc rfl rfl ?_
  refine wp_getR rfl rfl rfl rfl k0 e0 ?_
  refine wp_loc rfl rfl ?_
  refine wp_loc rfl rfl ?_
  refine wp_stk rfl rfl rfl ?_
  refine wp_iald rfl k1 i0 ?_
  refine wp_iconst (v := (-1)) rfl (by decide) ?_
  exact wp_icne (tgt := 21) rfl (by decide) wt wf
theorem b297_19 {n : Nat} {h : q_Hp} {Q : Option Value → q_Hp → Prop} {x0 : Nat} {x1 : Int32} {x2 : Int32} {x3 : Int32} (q : Q (some (.int x3)) h) : q_wp n 297 19 [some (.ref x0), some (.int x1), some (.int x2), some (.int x3)] [] h Q := by
  refine wp_loc rfl rfl ?_
  exact wp_ret rfl rfl q
theorem b297_21 {n : Nat} {h : q_Hp} {Q : Option Value → q_Hp → Prop} {x0 : Nat} {x1 : Int32} {x2 : Int32} {x3 : Int32} (w : q_wp n 297 2 [some (.ref x0), some (.int x1), some (.int x2), some (.int (x3 + 1))] [] h Q) : q_wp n 297 21 [some (.ref x0), some (.int x1), some (.int x2), some (.int x3)] [] h Q := by
  refine wp_iinc (v := 1) rfl rfl (by decide) rfl ?_
  refine wp_goto (tgt := 2) rfl (by decide) ?_
  exact w
theorem b297_27 {n : Nat} {h : q_Hp} {Q : Option Value → q_Hp → Prop} {x0 : Nat} {x1 : Int32} {x2 : Int32} {x3 : Int32} (q : Q (some (.int (-1))) h) : q_wp n 297 27 [some (.ref x0), some (.int x1), some (.int x2), some (.int x3)] [] h Q := by
  refine wp_iconst (v := (-1)) rfl (by decide) ?_
  exact wp_ret rfl rfl q
theorem b298_0 {n : Nat} {h : q_Hp} {Q : Option Value → q_Hp → Prop} {x0 : Nat} (k0 : q_ok h x0 12) (wt : ¬ (qI h x0 104) = 4 → q_wp n 298 12 [some (.ref x0)] [] h Q) (wf : (qI h x0 104) = 4 → q_wp n 298 8 [some (.ref x0)] [] h Q) : q_wp n 298 0 [some (.ref x0)] [] h Q := by
  refine wp_loc rfl rfl ?_
  refine wp_getI rfl rfl rfl k0 ?_
  refine wp_iconst (v := 4) rfl (by decide) ?_
  exact wp_icne (tgt := 12) rfl (by decide) wt wf
theorem b298_8 {n : Nat} {h : q_Hp} {Q : Option Value → q_Hp → Prop} {x0 : Nat} (q : Q (some (.int 1)) h) : q_wp n 298 8 [some (.ref x0)] [] h Q := by
  refine wp_iconst (v := 1) rfl (by decide) ?_
  refine wp_goto (tgt := 13) rfl (by decide) ?_
  exact wp_ret (r := some (.int 1)) rfl rfl q
theorem b298_12 {n : Nat} {h : q_Hp} {Q : Option Value → q_Hp → Prop} {x0 : Nat} (q : Q (some (.int 0)) h) : q_wp n 298 12 [some (.ref x0)] [] h Q := by
  refine wp_iconst (v := 0) rfl (by decide) ?_
  exact wp_ret (r := some (.int 0)) rfl rfl q
theorem b299_0 {n : Nat} {h : q_Hp} {Q : Option Value → q_Hp → Prop} {x0 : Nat} {x1 : Int32} {m : Nat} {P : Int32 → q_Hp → Prop} (hc : q_mI m 297 [.ref x0, .int 0, .int 12] h P) (hm : m ≤ n) (w : ∀ (z : Int32) (h1 : q_Hp), P z h1 → q_wp (n + 1) 299 7 [some (.ref x0), some (.int x1), none] [.int z] h1 Q) : q_wp (n + 1) 299 0 [some (.ref x0), some (.int x1), none] [] h Q := by
  refine wp_loc rfl rfl ?_
  refine wp_iconst (v := 0) rfl (by decide) ?_
  refine wp_bipush (v := 12) rfl (by decide) ?_
  exact wp_callI (av := [.ref x0, .int 0, .int 12]) rfl rfl rfl (by decide) rfl rfl rfl hm hc w
theorem b299_7 {n : Nat} {h : q_Hp} {Q : Option Value → q_Hp → Prop} {x0 : Nat} {x1 : Int32} {s0 : Int32} (wt : ¬ s0 = (-1) → q_wp n 299 15 [some (.ref x0), some (.int x1), some (.int s0)] [] h Q) (wf : s0 = (-1) → q_wp n 299 13 [some (.ref x0), some (.int x1), some (.int s0)] [] h Q) : q_wp n 299 7 [some (.ref x0), some (.int x1), none] [.int s0] h Q := by
  refine wp_loc rfl rfl ?_
  refine wp_loc rfl rfl ?_
  refine wp_iconst (v := (-1)) rfl (by decide) ?_
  exact wp_icne (tgt := 15) rfl (by decide) wt wf
theorem b299_13 {n : Nat} {h : q_Hp} {Q : Option Value → q_Hp → Prop} {x0 : Nat} {x1 : Int32} {x2 : Int32} (q : Q (some (.int (-1))) h) : q_wp n 299 13 [some (.ref x0), some (.int x1), some (.int x2)] [] h Q := by
  refine wp_iconst (v := (-1)) rfl (by decide) ?_
  exact wp_ret rfl rfl q
theorem b299_15 {n : Nat} {h : q_Hp} {Q : Option Value → q_Hp → Prop} {x0 : Nat} {x1 : Int32} {x2 : Int32} {v0 : Nat} (k0 : q_ok h x0 12) (e0 : qR h x0 87 = v0) (k1 : q_ok h v0 20) (i0 : q_in x2 (qK h v0).2) (i1 : q_in (12 + x2) (qK h v0).2) (i2 : q_in (24 + x2) (qK h v0).2) (q : Q (some (.int x2)) (q_sA (q_sA (q_sA h v0 x2.toNatClampNeg x1) v0 ((12 + x2 : Int32).toNatClampNeg) 0) v0 ((24 + x2 : Int32).toNatClampNeg) 0)) : q_wp n 299 15 [some (.ref x0), some (.int x1), some (.int x2)] [] h Q := by
  refine wp_loc rfl rfl ?_
  refine wp_getR rfl rfl rfl rfl k0 e0 ?_
  refine wp_loc rfl rfl ?_
  refine wp_loc rfl rfl ?_
  refine wp_iast rfl k1 i0 ?_
  refine wp_loc rfl rfl ?_
  refine wp_getR rfl rfl rfl rfl k0 e0 ?_
  refine wp_bipush (v := 12) rfl (by decide) ?_
  refine wp_loc rfl rfl ?_
  refine wp_stk rfl rfl rfl ?_
  refine wp_iconst (v := 0) rfl (by decide) ?_
  refine wp_iast rfl k1 i1 ?_
  refine wp_loc rfl rfl ?_
  refine wp_getR rfl rfl rfl rfl k0 e0 ?_
  refine wp_bipush (v := 24) rfl (by decide) ?_
  refine wp_loc rfl rfl ?_
  refine wp_stk rfl rfl rfl ?_
  refine wp_iconst (v := 0) rfl (by decide) ?_
  refine wp_iast rfl k1 i2 ?_
  refine wp_loc rfl rfl ?_
  exact wp_ret rfl rfl q
theorem b300_0 {n : Nat} {h : q_Hp} {Q : Option Value → q_Hp → Prop} {x0 : Nat} {x1 : Int32} {x2 : Int32} {x3 : Int32} {m : Nat} {P : Int32 → q_Hp → Prop} (hc : q_mI m 297 [.ref x0, .int 36, .int 40] h P) (hm : m ≤ n) (w : ∀ (z : Int32) (h1 : q_Hp), P z h1 → q_wp (n + 1) 300 8 [some (.ref x0), some (.int x1), some (.int x2), some (.int x3), none] [.int z] h1 Q) : q_wp (n + 1) 300 0 [some (.ref x0), some (.int x1), some (.int x2), some (.int x3), none] [] h Q := by
  refine wp_loc rfl rfl ?_
  refine wp_bipush (v := 36) rfl (by decide) ?_
  refine wp_bipush (v := 40) rfl (by decide) ?_
  exact wp_callI (av := [.ref x0, .int 36, .int 40]) rfl rfl rfl (by decide) rfl rfl rfl hm hc w
theorem b300_8 {n : Nat} {h : q_Hp} {Q : Option Value → q_Hp → Prop} {x0 : Nat} {x1 : Int32} {x2 : Int32} {x3 : Int32} {s0 : Int32} (wt : ¬ s0 = (-1) → q_wp n 300 18 [some (.ref x0), some (.int x1), some (.int x2), some (.int x3), some (.int s0)] [] h Q) (wf : s0 = (-1) → q_wp n 300 16 [some (.ref x0), some (.int x1), some (.int x2), some (.int x3), some (.int s0)] [] h Q) : q_wp n 300 8 [some (.ref x0), some (.int x1), some (.int x2), some (.int x3), none] [.int s0] h Q := by
  refine wp_loc rfl rfl ?_
  refine wp_loc rfl rfl ?_
  refine wp_iconst (v := (-1)) rfl (by decide) ?_
  exact wp_icne (tgt := 18) rfl (by decide) wt wf
theorem b300_16 {n : Nat} {h : q_Hp} {Q : Option Value → q_Hp → Prop} {x0 : Nat} {x1 : Int32} {x2 : Int32} {x3 : Int32} {x4 : Int32} (q : Q (some (.int (-1))) h) : q_wp n 300 16 [some (.ref x0), some (.int x1), some (.int x2), some (.int x3), some (.int x4)] [] h Q := by
  refine wp_iconst (v := (-1)) rfl (by decide) ?_
  exact wp_ret rfl rfl q
theorem b300_18 {n : Nat} {h : q_Hp} {Q : Option Value → q_Hp → Prop} {x0 : Nat} {x1 : Int32} {x2 : Int32} {x3 : Int32} {x4 : Int32} {v0 : Nat} (k0 : q_ok h x0 12) (e0 : qR h x0 87 = v0) (k1 : q_ok h v0 20) (i0 : q_in (36 + x4) (qK h v0).2) (i1 : q_in (76 + x4) (qK h v0).2) (i2 : q_in (116 + x4) (qK h v0).2) (q : Q (some (.int x4)) (q_sA (q_sA (q_sA h v0 ((36 + x4 : Int32).toNatClampNeg) x1) v0 ((76 + x4 : Int32).toNatClampNeg) x2) v0 ((116 + x4 : Int32).toNatClampNeg) x3)) : q_wp n 300 18 [some (.ref x0), some (.int x1), some (.int x2), some (.int x3), some (.int x4)] [] h Q := by
  refine wp_loc rfl rfl ?_
  refine wp_getR rfl rfl rfl rfl k0 e0 ?_
  refine wp_bipush (v := 36) rfl (by decide) ?_
  refine wp_loc rfl rfl ?_
  refine wp_stk rfl rfl rfl ?_
  refine wp_loc rfl rfl ?_
  refine wp_iast rfl k1 i0 ?_
  refine wp_loc rfl rfl ?_
  refine wp_getR rfl rfl rfl rfl k0 e0 ?_
  refine wp_bipush (v := 76) rfl (by decide) ?_
  refine wp_loc rfl rfl ?_
  refine wp_stk rfl rfl rfl ?_
  refine wp_loc rfl rfl ?_
  refine wp_iast rfl k1 i1 ?_
  refine wp_loc rfl rfl ?_
  refine wp_getR rfl rfl rfl rfl k0 e0 ?_
  refine wp_bipush (v := 116) rfl (by decide) ?_
  refine wp_loc rfl rfl ?_
  refine wp_stk rfl rfl rfl ?_
  refine wp_loc rfl rfl ?_
  refine wp_iast rfl k1 i2 ?_
  refine wp_loc rfl rfl ?_
  exact wp_ret rfl rfl q
theorem b301_0 {n : Nat} {h : q_Hp} {Q : Option Value → q_Hp → Prop} {x0 : Nat} {x1 : Int32} (wt : x1 < 0 → q_wp n 301 19 [some (.ref x0), some (.int x1), none] [] h Q) (wf : ¬ x1 < 0 → q_wp n 301 4 [some (.ref x0), some (.int x1), none] [] h Q) : q_wp n 301 0 [some (.ref x0), some (.int x1), none] [] h Q := by
  refine wp_loc rfl rfl ?_
  exact wp_iflt (tgt := 19) rfl (by decide) wt wf
theorem b301_4 {n : Nat} {h : q_Hp} {Q : Option Value → q_Hp → Prop} {x0 : Nat} {x1 : Int32} (k0 : q_ok h x0 12) (wt : (qI h x0 24) ≤ x1 → q_wp n 301 19 [some (.ref x0), some (.int x1), none] [] h Q) (wf : ¬ (qI h x0 24) ≤ x1 → q_wp n 301 12 [some (.ref x0), some (.int x1), none] [] h Q) : q_wp n 301 4 [some (.ref x0), some (.int x1), none] [] h Q := by
  refine wp_loc rfl rfl ?_
  refine wp_loc rfl rfl ?_
  refine wp_getI rfl rfl rfl k0 ?_
  exact wp_icge (tgt := 19) rfl (by decide) wt wf
theorem b301_12 {n : Nat} {h : q_Hp} {Q : Option Value → q_Hp → Prop} {x0 : Nat} {x1 : Int32} {m : Nat} {P : Int32 → q_Hp → Prop} (hc : q_mI m 298 [.ref x0] h P) (hm : m ≤ n) (w : ∀ (z : Int32) (h1 : q_Hp), P z h1 → q_wp (n + 1) 301 16 [some (.ref x0), some (.int x1), none] [.int z] h1 Q) : q_wp (n + 1) 301 12 [some (.ref x0), some (.int x1), none] [] h Q := by
  refine wp_loc rfl rfl ?_
  exact wp_callI (av := [.ref x0]) rfl rfl rfl (by decide) rfl rfl rfl hm hc w
theorem b301_16 {n : Nat} {h : q_Hp} {Q : Option Value → q_Hp → Prop} {x0 : Nat} {x1 : Int32} {s0 : Int32} (wt : s0 = 0 → q_wp n 301 21 [some (.ref x0), some (.int x1), none] [] h Q) (wf : ¬ s0 = 0 → q_wp n 301 19 [some (.ref x0), some (.int x1), none] [] h Q) : q_wp n 301 16 [some (.ref x0), some (.int x1), none] [.int s0] h Q := by
  exact wp_ifeq (tgt := 21) rfl (by decide) wt wf
theorem b301_19 {n : Nat} {h : q_Hp} {Q : Option Value → q_Hp → Prop} {x0 : Nat} {x1 : Int32} (q : Q (some (.int (-1))) h) : q_wp n 301 19 [some (.ref x0), some (.int x1), none] [] h Q := by
  refine wp_iconst (v := (-1)) rfl (by decide) ?_
  exact wp_ret rfl rfl q
theorem b301_21 {n : Nat} {h : q_Hp} {Q : Option Value → q_Hp → Prop} {x0 : Nat} {x1 : Int32} {m : Nat} {P : Int32 → q_Hp → Prop} (hc : q_mI m 299 [.ref x0, .int x1] h P) (hm : m ≤ n) (w : ∀ (z : Int32) (h1 : q_Hp), P z h1 → q_wp (n + 1) 301 26 [some (.ref x0), some (.int x1), none] [.int z] h1 Q) : q_wp (n + 1) 301 21 [some (.ref x0), some (.int x1), none] [] h Q := by
  refine wp_loc rfl rfl ?_
  refine wp_loc rfl rfl ?_
  exact wp_callI (av := [.ref x0, .int x1]) rfl rfl rfl (by decide) rfl rfl rfl hm hc w
theorem b301_26 {n : Nat} {h : q_Hp} {Q : Option Value → q_Hp → Prop} {x0 : Nat} {x1 : Int32} {s0 : Int32} (wt : s0 = (-1) → q_wp n 301 40 [some (.ref x0), some (.int x1), some (.int s0)] [] h Q) (wf : ¬ s0 = (-1) → q_wp n 301 32 [some (.ref x0), some (.int x1), some (.int s0)] [] h Q) : q_wp n 301 26 [some (.ref x0), some (.int x1), none] [.int s0] h Q := by
  refine wp_loc rfl rfl ?_
  refine wp_loc rfl rfl ?_
  refine wp_iconst (v := (-1)) rfl (by decide) ?_
  exact wp_iceq (tgt := 40) rfl (by decide) wt wf
theorem b301_32 {n : Nat} {h : q_Hp} {Q : Option Value → q_Hp → Prop} {x0 : Nat} {x1 : Int32} {x2 : Int32} (k0 : q_ok h x0 12) (w : q_wp n 301 40 [some (.ref x0), some (.int x1), some (.int x2)] [] (q_sI h x0 92 (qI h x0 91)) Q) : q_wp n 301 32 [some (.ref x0), some (.int x1), some (.int x2)] [] h Q := by
  refine wp_loc rfl rfl ?_
  refine wp_loc rfl rfl ?_
  refine wp_getI rfl rfl rfl k0 ?_
  refine wp_putI rfl rfl (Or.inl rfl) rfl (fun h9 => by cases h9) k0 ?_
  exact w
theorem b301_40 {n : Nat} {h : q_Hp} {Q : Option Value → q_Hp → Prop} {x0 : Nat} {x1 : Int32} {x2 : Int32} (q : Q (some (.int x2)) h) : q_wp n 301 40 [some (.ref x0), some (.int x1), some (.int x2)] [] h Q := by
  refine wp_loc rfl rfl ?_
  exact wp_ret rfl rfl q
theorem b302_0 {n : Nat} {h : q_Hp} {Q : Option Value → q_Hp → Prop} {x0 : Nat} {x1 : Int32} {x2 : Int32} {x3 : Int32} (wt : x1 < 0 → q_wp n 302 35 [some (.ref x0), some (.int x1), some (.int x2), some (.int x3), none] [] h Q) (wf : ¬ x1 < 0 → q_wp n 302 4 [some (.ref x0), some (.int x1), some (.int x2), some (.int x3), none] [] h Q) : q_wp n 302 0 [some (.ref x0), some (.int x1), some (.int x2), some (.int x3), none] [] h Q := by
  refine wp_loc rfl rfl ?_
  exact wp_iflt (tgt := 35) rfl (by decide) wt wf
theorem b302_4 {n : Nat} {h : q_Hp} {Q : Option Value → q_Hp → Prop} {x0 : Nat} {x1 : Int32} {x2 : Int32} {x3 : Int32} (k0 : q_ok h x0 12) (wt : (qI h x0 25) ≤ x1 → q_wp n 302 35 [some (.ref x0), some (.int x1), some (.int x2), some (.int x3), none] [] h Q) (wf : ¬ (qI h x0 25) ≤ x1 → q_wp n 302 12 [some (.ref x0), some (.int x1), some (.int x2), some (.int x3), none] [] h Q) : q_wp n 302 4 [some (.ref x0), some (.int x1), some (.int x2), some (.int x3), none] [] h Q := by
  refine wp_loc rfl rfl ?_
  refine wp_loc rfl rfl ?_
  refine wp_getI rfl rfl rfl k0 ?_
  exact wp_icge (tgt := 35) rfl (by decide) wt wf
theorem b302_12 {n : Nat} {h : q_Hp} {Q : Option Value → q_Hp → Prop} {x0 : Nat} {x1 : Int32} {x2 : Int32} {x3 : Int32} {m : Nat} {P : Int32 → q_Hp → Prop} (hc : q_mI m 294 [.ref x0, .int x2] h P) (hm : m ≤ n) (w : ∀ (z : Int32) (h1 : q_Hp), P z h1 → q_wp (n + 1) 302 17 [some (.ref x0), some (.int x1), some (.int x2), some (.int x3), none] [.int z] h1 Q) : q_wp (n + 1) 302 12 [some (.ref x0), some (.int x1), some (.int x2), some (.int x3), none] [] h Q := by
  refine wp_loc rfl rfl ?_
  refine wp_loc rfl rfl ?_
  exact wp_callI (av := [.ref x0, .int x2]) rfl rfl rfl (by decide) rfl rfl rfl hm hc w
theorem b302_17 {n : Nat} {h : q_Hp} {Q : Option Value → q_Hp → Prop} {x0 : Nat} {x1 : Int32} {x2 : Int32} {x3 : Int32} {s0 : Int32} (wt : s0 = 0 → q_wp n 302 35 [some (.ref x0), some (.int x1), some (.int x2), some (.int x3), none] [] h Q) (wf : ¬ s0 = 0 → q_wp n 302 20 [some (.ref x0), some (.int x1), some (.int x2), some (.int x3), none] [] h Q) : q_wp n 302 17 [some (.ref x0), some (.int x1), some (.int x2), some (.int x3), none] [.int s0] h Q := by
  exact wp_ifeq (tgt := 35) rfl (by decide) wt wf
theorem b302_20 {n : Nat} {h : q_Hp} {Q : Option Value → q_Hp → Prop} {x0 : Nat} {x1 : Int32} {x2 : Int32} {x3 : Int32} {m : Nat} {P : Int32 → q_Hp → Prop} (hc : q_mI m 294 [.ref x0, .int x3] h P) (hm : m ≤ n) (w : ∀ (z : Int32) (h1 : q_Hp), P z h1 → q_wp (n + 1) 302 25 [some (.ref x0), some (.int x1), some (.int x2), some (.int x3), none] [.int z] h1 Q) : q_wp (n + 1) 302 20 [some (.ref x0), some (.int x1), some (.int x2), some (.int x3), none] [] h Q := by
  refine wp_loc rfl rfl ?_
  refine wp_loc rfl rfl ?_
  exact wp_callI (av := [.ref x0, .int x3]) rfl rfl rfl (by decide) rfl rfl rfl hm hc w
theorem b302_25 {n : Nat} {h : q_Hp} {Q : Option Value → q_Hp → Prop} {x0 : Nat} {x1 : Int32} {x2 : Int32} {x3 : Int32} {s0 : Int32} (wt : s0 = 0 → q_wp n 302 35 [some (.ref x0), some (.int x1), some (.int x2), some (.int x3), none] [] h Q) (wf : ¬ s0 = 0 → q_wp n 302 28 [some (.ref x0), some (.int x1), some (.int x2), some (.int x3), none] [] h Q) : q_wp n 302 25 [some (.ref x0), some (.int x1), some (.int x2), some (.int x3), none] [.int s0] h Q := by
  exact wp_ifeq (tgt := 35) rfl (by decide) wt wf
theorem b302_28 {n : Nat} {h : q_Hp} {Q : Option Value → q_Hp → Prop} {x0 : Nat} {x1 : Int32} {x2 : Int32} {x3 : Int32} {m : Nat} {P : Int32 → q_Hp → Prop} (hc : q_mI m 298 [.ref x0] h P) (hm : m ≤ n) (w : ∀ (z : Int32) (h1 : q_Hp), P z h1 → q_wp (n + 1) 302 32 [some (.ref x0), some (.int x1), some (.int x2), some (.int x3), none] [.int z] h1 Q) : q_wp (n + 1) 302 28 [some (.ref x0), some (.int x1), some (.int x2), some (.int x3), none] [] h Q := by
  refine wp_loc rfl rfl ?_
  exact wp_callI (av := [.ref x0]) rfl rfl rfl (by decide) rfl rfl rfl hm hc w
theorem b302_32 {n : Nat} {h : q_Hp} {Q : Option Value → q_Hp → Prop} {x0 : Nat} {x1 : Int32} {x2 : Int32} {x3 : Int32} {s0 : Int32} (wt : s0 = 0 → q_wp n 302 37 [some (.ref x0), some (.int x1), some (.int x2), some (.int x3), none] [] h Q) (wf : ¬ s0 = 0 → q_wp n 302 35 [some (.ref x0), some (.int x1), some (.int x2), some (.int x3), none] [] h Q) : q_wp n 302 32 [some (.ref x0), some (.int x1), some (.int x2), some (.int x3), none] [.int s0] h Q := by
  exact wp_ifeq (tgt := 37) rfl (by decide) wt wf
theorem b302_35 {n : Nat} {h : q_Hp} {Q : Option Value → q_Hp → Prop} {x0 : Nat} {x1 : Int32} {x2 : Int32} {x3 : Int32} (q : Q (some (.int (-1))) h) : q_wp n 302 35 [some (.ref x0), some (.int x1), some (.int x2), some (.int x3), none] [] h Q := by
  refine wp_iconst (v := (-1)) rfl (by decide) ?_
  exact wp_ret rfl rfl q
theorem b302_37 {n : Nat} {h : q_Hp} {Q : Option Value → q_Hp → Prop} {x0 : Nat} {x1 : Int32} {x2 : Int32} {x3 : Int32} {v0 : Nat} {v1 : Nat} (k0 : q_ok h x0 12) (e0 : qR h x0 87 = v0) (k1 : q_ok h v0 20) (i0 : q_in x2 (qK h v0).2) (e1 : qR h x0 29 = v1) (k2 : q_ok h v1 20) (i1 : q_in x1 (qK h v1).2) {m : Nat} {P : Int32 → q_Hp → Prop} (hc : q_mI m 259 [.ref x0, .int 0, .int (qA h v0 x2.toNatClampNeg), .int (qA h v1 x1.toNatClampNeg)] h P) (hm : m ≤ n) (w : ∀ (z : Int32) (h1 : q_Hp), P z h1 → q_wp (n + 1) 302 54 [some (.ref x0), some (.int x1), some (.int x2), some (.int x3), none] [.int z] h1 Q) : q_wp (n + 1) 302 37 [some (.ref x0), some (.int x1), some (.int x2), some (.int x3), none] [] h Q := by
  refine wp_loc rfl rfl ?_
  refine wp_iconst (v := 0) rfl (by decide) ?_
  refine wp_loc rfl rfl ?_
  refine wp_getR rfl rfl rfl rfl k0 e0 ?_
  refine wp_loc rfl rfl ?_
  refine wp_iald rfl k1 i0 ?_
  refine wp_loc rfl rfl ?_
  refine wp_getR rfl rfl rfl rfl k0 e1 ?_
  refine wp_loc rfl rfl ?_
  refine wp_iald rfl k2 i1 ?_
  exact wp_callI (av := [.ref x0, .int 0, .int (qA h v0 x2.toNatClampNeg), .int (qA h v1 x1.toNatClampNeg)]) rfl rfl rfl (by decide) rfl rfl rfl hm hc w
theorem b302_54 {n : Nat} {h : q_Hp} {Q : Option Value → q_Hp → Prop} {x0 : Nat} {x1 : Int32} {x2 : Int32} {x3 : Int32} {s0 : Int32} (wt : s0 = 0 → q_wp n 302 77 [some (.ref x0), some (.int x1), some (.int x2), some (.int x3), none] [] h Q) (wf : ¬ s0 = 0 → q_wp n 302 57 [some (.ref x0), some (.int x1), some (.int x2), some (.int x3), none] [] h Q) : q_wp n 302 54 [some (.ref x0), some (.int x1), some (.int x2), some (.int x3), none] [.int s0] h Q := by
  exact wp_ifeq (tgt := 77) rfl (by decide) wt wf
theorem b302_57 {n : Nat} {h : q_Hp} {Q : Option Value → q_Hp → Prop} {x0 : Nat} {x1 : Int32} {x2 : Int32} {x3 : Int32} {v0 : Nat} {v1 : Nat} (k0 : q_ok h x0 12) (e0 : qR h x0 87 = v0) (k1 : q_ok h v0 20) (i0 : q_in x3 (qK h v0).2) (e1 : qR h x0 30 = v1) (k2 : q_ok h v1 20) (i1 : q_in x1 (qK h v1).2) {m : Nat} {P : Int32 → q_Hp → Prop} (hc : q_mI m 259 [.ref x0, .int 0, .int (qA h v0 x3.toNatClampNeg), .int (qA h v1 x1.toNatClampNeg)] h P) (hm : m ≤ n) (w : ∀ (z : Int32) (h1 : q_Hp), P z h1 → q_wp (n + 1) 302 74 [some (.ref x0), some (.int x1), some (.int x2), some (.int x3), none] [.int z] h1 Q) : q_wp (n + 1) 302 57 [some (.ref x0), some (.int x1), some (.int x2), some (.int x3), none] [] h Q := by
  refine wp_loc rfl rfl ?_
  refine wp_iconst (v := 0) rfl (by decide) ?_
  refine wp_loc rfl rfl ?_
  refine wp_getR rfl rfl rfl rfl k0 e0 ?_
  refine wp_loc rfl rfl ?_
  refine wp_iald rfl k1 i0 ?_
  refine wp_loc rfl rfl ?_
  refine wp_getR rfl rfl rfl rfl k0 e1 ?_
  refine wp_loc rfl rfl ?_
  refine wp_iald rfl k2 i1 ?_
  exact wp_callI (av := [.ref x0, .int 0, .int (qA h v0 x3.toNatClampNeg), .int (qA h v1 x1.toNatClampNeg)]) rfl rfl rfl (by decide) rfl rfl rfl hm hc w
theorem b302_74 {n : Nat} {h : q_Hp} {Q : Option Value → q_Hp → Prop} {x0 : Nat} {x1 : Int32} {x2 : Int32} {x3 : Int32} {s0 : Int32} (wt : ¬ s0 = 0 → q_wp n 302 79 [some (.ref x0), some (.int x1), some (.int x2), some (.int x3), none] [] h Q) (wf : s0 = 0 → q_wp n 302 77 [some (.ref x0), some (.int x1), some (.int x2), some (.int x3), none] [] h Q) : q_wp n 302 74 [some (.ref x0), some (.int x1), some (.int x2), some (.int x3), none] [.int s0] h Q := by
  exact wp_ifne (tgt := 79) rfl (by decide) wt wf
theorem b302_77 {n : Nat} {h : q_Hp} {Q : Option Value → q_Hp → Prop} {x0 : Nat} {x1 : Int32} {x2 : Int32} {x3 : Int32} (q : Q (some (.int (-1))) h) : q_wp n 302 77 [some (.ref x0), some (.int x1), some (.int x2), some (.int x3), none] [] h Q := by
  refine wp_iconst (v := (-1)) rfl (by decide) ?_
  exact wp_ret rfl rfl q
theorem b302_79 {n : Nat} {h : q_Hp} {Q : Option Value → q_Hp → Prop} {x0 : Nat} {x1 : Int32} {x2 : Int32} {x3 : Int32} {m : Nat} {P : Int32 → q_Hp → Prop} (hc : q_mI m 300 [.ref x0, .int x1, .int x2, .int x3] h P) (hm : m ≤ n) (w : ∀ (z : Int32) (h1 : q_Hp), P z h1 → q_wp (n + 1) 302 86 [some (.ref x0), some (.int x1), some (.int x2), some (.int x3), none] [.int z] h1 Q) : q_wp (n + 1) 302 79 [some (.ref x0), some (.int x1), some (.int x2), some (.int x3), none] [] h Q := by
  refine wp_loc rfl rfl ?_
  refine wp_loc rfl rfl ?_
  refine wp_loc rfl rfl ?_
  refine wp_loc rfl rfl ?_
  exact wp_callI (av := [.ref x0, .int x1, .int x2, .int x3]) rfl rfl rfl (by decide) rfl rfl rfl hm hc w
theorem b302_86 {n : Nat} {h : q_Hp} {Q : Option Value → q_Hp → Prop} {x0 : Nat} {x1 : Int32} {x2 : Int32} {x3 : Int32} {s0 : Int32} (wt : s0 = (-1) → q_wp n 302 102 [some (.ref x0), some (.int x1), some (.int x2), some (.int x3), some (.int s0)] [] h Q) (wf : ¬ s0 = (-1) → q_wp n 302 94 [some (.ref x0), some (.int x1), some (.int x2), some (.int x3), some (.int s0)] [] h Q) : q_wp n 302 86 [some (.ref x0), some (.int x1), some (.int x2), some (.int x3), none] [.int s0] h Q := by
  refine wp_loc rfl rfl ?_
  refine wp_loc rfl rfl ?_
  refine wp_iconst (v := (-1)) rfl (by decide) ?_
  exact wp_iceq (tgt := 102) rfl (by decide) wt wf
theorem b302_94 {n : Nat} {h : q_Hp} {Q : Option Value → q_Hp → Prop} {x0 : Nat} {x1 : Int32} {x2 : Int32} {x3 : Int32} {x4 : Int32} (k0 : q_ok h x0 12) (w : q_wp n 302 102 [some (.ref x0), some (.int x1), some (.int x2), some (.int x3), some (.int x4)] [] (q_sI h x0 92 (qI h x0 91)) Q) : q_wp n 302 94 [some (.ref x0), some (.int x1), some (.int x2), some (.int x3), some (.int x4)] [] h Q := by
  refine wp_loc rfl rfl ?_
  refine wp_loc rfl rfl ?_
  refine wp_getI rfl rfl rfl k0 ?_
  refine wp_putI rfl rfl (Or.inl rfl) rfl (fun h9 => by cases h9) k0 ?_
  exact w
theorem b302_102 {n : Nat} {h : q_Hp} {Q : Option Value → q_Hp → Prop} {x0 : Nat} {x1 : Int32} {x2 : Int32} {x3 : Int32} {x4 : Int32} (q : Q (some (.int x4)) h) : q_wp n 302 102 [some (.ref x0), some (.int x1), some (.int x2), some (.int x3), some (.int x4)] [] h Q := by
  refine wp_loc rfl rfl ?_
  exact wp_ret rfl rfl q
