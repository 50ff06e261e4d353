theorem b127_0 {n : Nat} {h : q_Hp} {Q : Option Value → q_Hp → Prop} {x0 : Nat} (k0 : q_ok h x0 6) (q : Q none (q_sI (q_sI (q_sI (q_sI (q_sI (q_sI (q_sI h x0 0 0) x0 1 0) x0 2 0) x0 3 0) x0 4 0) x0 5 0) x0 6 0)) : q_wp n 127 0 [some (.ref x0)] [] h Q := by
  refine wp_loc rfl rfl ?_
  refine wp_iconst (v := 0) rfl (by decide) ?_
  refine wp_putI rfl rfl (Or.inl rfl) rfl (fun h9 => by cases h9) k0 ?_
  refine wp_loc rfl rfl ?_
  refine wp_iconst (v := 0) rfl (by decide) ?_
  refine wp_putI rfl rfl (Or.inl rfl) rfl (fun h9 => by cases h9) k0 ?_
  refine wp_loc rfl rfl ?_
  refine wp_iconst (v := 0) rfl (by decide) ?_
  refine wp_putI rfl rfl (Or.inl rfl) rfl (fun h9 => by cases h9) k0 ?_
  refine wp_loc rfl rfl ?_
  refine wp_iconst (v := 0) rfl (by decide) ?_
  refine wp_putI rfl rfl (Or.inl rfl) rfl (fun h9 => by cases h9) k0 ?_
  refine wp_loc rfl rfl ?_
  refine wp_iconst (v := 0) rfl (by decide) ?_
  refine wp_putI rfl rfl (Or.inl rfl) rfl (fun h9 => by cases h9) k0 ?_
  refine wp_loc rfl rfl ?_
  refine wp_iconst (v := 0) rfl (by decide) ?_
  refine wp_putI rfl rfl (Or.inl rfl) rfl (fun h9 => by cases h9) k0 ?_
  refine wp_loc rfl rfl ?_
  refine wp_iconst (v := 0) rfl (by decide) ?_
  refine wp_putI rfl rfl (Or.inl rfl) rfl (fun _ => Or.inl rfl) k0 ?_
  exact wp_ret rfl rfl q
theorem b128_0 {n : Nat} {h : q_Hp} {Q : Option Value → q_Hp → Prop} {x0 : Int32} {x1 : Int32} (q : Q (some (.int ((2 * x0) + x1))) h) : q_wp n 128 0 [some (.int x0), some (.int x1)] [] h Q := by
  refine wp_iconst (v := 2) rfl (by decide) ?_
  refine wp_loc rfl rfl ?_
  refine wp_stk rfl rfl rfl ?_
  refine wp_loc rfl rfl ?_
  refine wp_stk rfl rfl rfl ?_
  exact wp_ret rfl rfl q
theorem b129_0 {n : Nat} {h : q_Hp} {Q : Option Value → q_Hp → Prop} {x0 : Int32} (q : Q (some (.int (8 + x0))) h) : q_wp n 129 0 [some (.int x0)] [] h Q := by
  refine wp_bipush (v := 8) rfl (by decide) ?_
  refine wp_loc rfl rfl ?_
  refine wp_stk rfl rfl rfl ?_
  exact wp_ret rfl rfl q
theorem b130_0 {n : Nat} {h : q_Hp} {Q : Option Value → q_Hp → Prop} {x0 : Int32} (q : Q (some (.int (6 + (x0 * 3)))) h) : q_wp n 130 0 [some (.int x0)] [] h Q := by
  refine wp_bipush (v := 6) rfl (by decide) ?_
  refine wp_loc rfl rfl ?_
  refine wp_iconst (v := 3) rfl (by decide) ?_
  refine wp_stk rfl rfl rfl ?_
  refine wp_stk rfl rfl rfl ?_
  exact wp_ret rfl rfl q
theorem b131_0 {n : Nat} {h : q_Hp} {Q : Option Value → q_Hp → Prop} {x0 : Nat} {x1 : Int32} (k0 : q_ok h x0 6) (wt : (qI h x0 0) < 4 → q_wp n 131 10 [some (.ref x0), some (.int x1)] [] h Q) (wf : ¬ (qI h x0 0) < 4 → q_wp n 131 8 [some (.ref x0), some (.int x1)] [] h Q) : q_wp n 131 0 [some (.ref x0), some (.int x1)] [] h Q := by
  refine wp_loc rfl rfl ?_
  refine wp_getI rfl rfl rfl k0 ?_
  refine wp_iconst (v := 4) rfl (by decide) ?_
  exact wp_iclt (tgt := 10) rfl (by decide) wt wf
theorem b131_8 {n : Nat} {h : q_Hp} {Q : Option Value → q_Hp → Prop} {x0 : Nat} {x1 : Int32} (q : Q (some (.int (-1))) h) : q_wp n 131 8 [some (.ref x0), some (.int x1)] [] h Q := by
  refine wp_iconst (v := (-1)) rfl (by decide) ?_
  exact wp_ret rfl rfl q
theorem b131_10 {n : Nat} {h : q_Hp} {Q : Option Value → q_Hp → Prop} {x0 : Nat} {x1 : Int32} {v0 : Nat} (k0 : q_ok h x0 6) (e0 : qR h x0 7 = v0) (k1 : q_ok h v0 20) (i0 : q_in (qI h x0 0) (qK h v0).2) (q : Q (some (.int ((qI (q_sI (q_sA h v0 ((qI h x0 0 : Int32).toNatClampNeg) x1) x0 0 ((qI h x0 0) + 1)) x0 0) - 1))) (q_sI (q_sA h v0 ((qI h x0 0 : Int32).toNatClampNeg) x1) x0 0 ((qI h x0 0) + 1))) : q_wp n 131 10 [some (.ref x0), some (.int x1)] [] h Q := by
  refine wp_loc rfl rfl ?_
  refine wp_getR rfl rfl rfl rfl k0 e0 ?_
  refine wp_loc rfl rfl ?_
  refine wp_getI rfl rfl rfl k0 ?_
  refine wp_loc rfl rfl ?_
  refine wp_iast rfl k1 i0 ?_
  refine wp_loc rfl rfl ?_
  refine wp_stk rfl rfl rfl ?_
  refine wp_getI rfl rfl rfl k0 ?_
  refine wp_iconst (v := 1) rfl (by decide) ?_
  refine wp_stk rfl rfl rfl ?_
  refine wp_putI rfl rfl (Or.inl rfl) rfl (fun h9 => by cases h9) k0 ?_
  refine wp_loc rfl rfl ?_
  refine wp_getI rfl rfl rfl k0 ?_
  refine wp_iconst (v := 1) rfl (by decide) ?_
  refine wp_stk rfl rfl rfl ?_
  exact wp_ret rfl rfl q
theorem b132_0 {n : Nat} {h : q_Hp} {Q : Option Value → q_Hp → Prop} {x0 : Nat} (k0 : q_ok h x0 6) (wt : 2 ≤ (qI h x0 2) → q_wp n 132 38 [some (.ref x0)] [] h Q) (wf : ¬ 2 ≤ (qI h x0 2) → q_wp n 132 8 [some (.ref x0)] [] h Q) : q_wp n 132 0 [some (.ref x0)] [] h Q := by
  refine wp_loc rfl rfl ?_
  refine wp_getI rfl rfl rfl k0 ?_
  refine wp_iconst (v := 2) rfl (by decide) ?_
  exact wp_icge (tgt := 38) rfl (by decide) wt wf
theorem b132_8 {n : Nat} {h : q_Hp} {Q : Option Value → q_Hp → Prop} {x0 : Nat} {v0 : Nat} {v1 : Nat} (k0 : q_ok h x0 6) (e0 : qR h x0 8 = v0) (k1 : q_ok h v0 20) (i0 : q_in (qI h x0 2) (qK h v0).2) (e1 : qR h x0 9 = v1) (k2 : q_ok h v1 20) (i1 : q_in (qI h x0 2) (qK h v1).2) (w : q_wp n 132 38 [some (.ref x0)] [] (q_sI (q_sA (q_sA h v0 ((qI h x0 2 : Int32).toNatClampNeg) (-1)) v1 ((qI h x0 2 : Int32).toNatClampNeg) 0) x0 2 ((qI h x0 2) + 1)) Q) : q_wp n 132 8 [some (.ref x0)] [] h Q := by
  refine wp_loc rfl rfl ?_
  refine wp_getR rfl rfl rfl rfl k0 e0 ?_
  refine wp_loc rfl rfl ?_
  refine wp_getI rfl rfl rfl k0 ?_
  refine wp_iconst (v := (-1)) rfl (by decide) ?_
  refine wp_iast rfl k1 i0 ?_
  refine wp_loc rfl rfl ?_
  refine wp_getR rfl rfl rfl rfl k0 e1 ?_
  refine wp_loc rfl rfl ?_
  refine wp_getI rfl rfl rfl k0 ?_
  refine wp_iconst (v := 0) rfl (by decide) ?_
  refine wp_iast rfl k2 i1 ?_
  refine wp_loc rfl rfl ?_
  refine wp_stk rfl rfl rfl ?_
  refine wp_getI rfl rfl rfl k0 ?_
  refine wp_iconst (v := 1) rfl (by decide) ?_
  refine wp_stk rfl rfl rfl ?_
  refine wp_putI rfl rfl (Or.inl rfl) rfl (fun h9 => by cases h9) k0 ?_
  exact w
theorem b132_38 {n : Nat} {h : q_Hp} {Q : Option Value → q_Hp → Prop} {x0 : Nat} (q : Q none h) : q_wp n 132 38 [some (.ref x0)] [] h Q := by
  exact wp_ret rfl rfl q
theorem b133_0 {n : Nat} {h : q_Hp} {Q : Option Value → q_Hp → Prop} {x0 : Nat} {x1 : Int32} {x2 : Int32} {x3 : Int32} (k0 : q_ok h x0 6) (wt : (qI h x0 1) < 6 → q_wp n 133 11 [some (.ref x0), some (.int x1), some (.int x2), some (.int x3)] [] h Q) (wf : ¬ (qI h x0 1) < 6 → q_wp n 133 9 [some (.ref x0), some (.int x1), some (.int x2), some (.int x3)] [] h Q) : q_wp n 133 0 [some (.ref x0), some (.int x1), some (.int x2), some (.int x3)] [] h Q := by
  refine wp_loc rfl rfl ?_
  refine wp_getI rfl rfl rfl k0 ?_
  refine wp_bipush (v := 6) rfl (by decide) ?_
  exact wp_iclt (tgt := 11) rfl (by decide) wt wf
theorem b133_9 {n : Nat} {h : q_Hp} {Q : Option Value → q_Hp → Prop} {x0 : Nat} {x1 : Int32} {x2 : Int32} {x3 : Int32} (q : Q (some (.int (-1))) h) : q_wp n 133 9 [some (.ref x0), some (.int x1), some (.int x2), some (.int x3)] [] h Q := by
  refine wp_iconst (v := (-1)) rfl (by decide) ?_
  exact wp_ret rfl rfl q
theorem b133_11 {n : Nat} {h : q_Hp} {Q : Option Value → q_Hp → Prop} {x0 : Nat} {x1 : Int32} {x2 : Int32} {x3 : Int32} (k0 : q_ok h x0 6) {m : Nat} {P : q_Hp → Prop} (hc : q_mV m 135 [.ref x0, .int (qI h x0 1), .int x1, .int x2, .int x3] h P) (hm : m ≤ n) (w : ∀ h1 : q_Hp, P h1 → q_wp (n + 1) 133 22 [some (.ref x0), some (.int x1), some (.int x2), some (.int x3)] [] h1 Q) : q_wp (n + 1) 133 11 [some (.ref x0), some (.int x1), some (.int x2), some (.int x3)] [] h Q := by
  refine wp_loc rfl rfl ?_
  refine wp_loc rfl rfl ?_
  refine wp_getI rfl rfl rfl k0 ?_
  refine wp_loc rfl rfl ?_
  refine wp_loc rfl rfl ?_
  refine wp_loc rfl rfl ?_
  exact wp_callV (av := [.ref x0, .int (qI h x0 1), .int x1, .int x2, .int x3]) rfl rfl rfl (by decide) rfl rfl rfl hm hc w
theorem b133_22 {n : Nat} {h : q_Hp} {Q : Option Value → q_Hp → Prop} {x0 : Nat} {x1 : Int32} {x2 : Int32} {x3 : Int32} (k0 : q_ok h x0 6) (q : Q (some (.int ((qI (q_sI h x0 1 ((qI h x0 1) + 1)) x0 1) - 1))) (q_sI h x0 1 ((qI h x0 1) + 1))) : q_wp n 133 22 [some (.ref x0), some (.int x1), some (.int x2), some (.int x3)] [] h Q := by
  refine wp_loc rfl rfl ?_
  refine wp_stk rfl rfl rfl ?_
  refine wp_getI rfl rfl rfl k0 ?_
  refine wp_iconst (v := 1) rfl (by decide) ?_
  refine wp_stk rfl rfl rfl ?_
  refine wp_putI rfl rfl (Or.inl rfl) rfl (fun h9 => by cases h9) k0 ?_
  refine wp_loc rfl rfl ?_
  refine wp_getI rfl rfl rfl k0 ?_
  refine wp_iconst (v := 1) rfl (by decide) ?_
  refine wp_stk rfl rfl rfl ?_
  exact wp_ret rfl rfl q
theorem b134_0 {n : Nat} {h : q_Hp} {Q : Option Value → q_Hp → Prop} {x0 : Nat} {x1 : Int32} {x2 : Int32} {x3 : Int32} {x4 : Int32} (wt : x1 < 0 → q_wp n 134 48 [some (.ref x0), some (.int x1), some (.int x2), some (.int x3), some (.int x4)] [] h Q) (wf : ¬ x1 < 0 → q_wp n 134 4 [some (.ref x0), some (.int x1), some (.int x2), some (.int x3), some (.int x4)] [] h Q) : q_wp n 134 0 [some (.ref x0), some (.int x1), some (.int x2), some (.int x3), some (.int x4)] [] h Q := by
  refine wp_loc rfl rfl ?_
  exact wp_iflt (tgt := 48) rfl (by decide) wt wf
theorem b134_4 {n : Nat} {h : q_Hp} {Q : Option Value → q_Hp → Prop} {x0 : Nat} {x1 : Int32} {x2 : Int32} {x3 : Int32} {x4 : Int32} (wt : 2 ≤ x1 → q_wp n 134 48 [some (.ref x0), some (.int x1), some (.int x2), some (.int x3), some (.int x4)] [] h Q) (wf : ¬ 2 ≤ x1 → q_wp n 134 9 [some (.ref x0), some (.int x1), some (.int x2), some (.int x3), some (.int x4)] [] h Q) : q_wp n 134 4 [some (.ref x0), some (.int x1), some (.int x2), some (.int x3), some (.int x4)] [] h Q := by
  refine wp_loc rfl rfl ?_
  refine wp_iconst (v := 2) rfl (by decide) ?_
  exact wp_icge (tgt := 48) rfl (by decide) wt wf
theorem b134_9 {n : Nat} {h : q_Hp} {Q : Option Value → q_Hp → Prop} {x0 : Nat} {x1 : Int32} {x2 : Int32} {x3 : Int32} {x4 : Int32} {v0 : Nat} (k0 : q_ok h x0 6) (e0 : qR h x0 9 = v0) (k1 : q_ok h v0 20) (i0 : q_in x1 (qK h v0).2) (wt : 3 ≤ (qA h v0 x1.toNatClampNeg) → q_wp n 134 48 [some (.ref x0), some (.int x1), some (.int x2), some (.int x3), some (.int x4)] [] h Q) (wf : ¬ 3 ≤ (qA h v0 x1.toNatClampNeg) → q_wp n 134 19 [some (.ref x0), some (.int x1), some (.int x2), some (.int x3), some (.int x4)] [] h Q) : q_wp n 134 9 [some (.ref x0), some (.int x1), some (.int x2), some (.int x3), some (.int x4)] [] h Q := by
  refine wp_loc rfl rfl ?_
  refine wp_getR rfl rfl rfl rfl k0 e0 ?_
  refine wp_loc rfl rfl ?_
  refine wp_iald rfl k1 i0 ?_
  refine wp_iconst (v := 3) rfl (by decide) ?_
  exact wp_icge (tgt := 48) rfl (by decide) wt wf
theorem b134_19 {n : Nat} {h : q_Hp} {Q : Option Value → q_Hp → Prop} {x0 : Nat} {x1 : Int32} {x2 : Int32} {x3 : Int32} {x4 : Int32} {m : Nat} {P : Int32 → q_Hp → Prop} (hc : q_mI m 130 [.int x1] h P) (hm : m ≤ n) (w : ∀ (z : Int32) (h1 : q_Hp), P z h1 → q_wp (n + 1) 134 24 [some (.ref x0), some (.int x1), some (.int x2), some (.int x3), some (.int x4)] [.int z, .ref x0] h1 Q) : q_wp (n + 1) 134 19 [some (.ref x0), some (.int x1), some (.int x2), some (.int x3), some (.int x4)] [] h Q := by
  refine wp_loc rfl rfl ?_
  refine wp_loc rfl rfl ?_
  exact wp_callI (av := [.int x1]) rfl rfl rfl (by decide) rfl rfl rfl hm hc w
theorem b134_24 {n : Nat} {h : q_Hp} {Q : Option Value → q_Hp → Prop} {x0 : Nat} {x1 : Int32} {x2 : Int32} {x3 : Int32} {x4 : Int32} {s0 : Int32} {s1 : Nat} {v0 : Nat} (k0 : q_ok h x0 6) (e0 : qR h x0 9 = v0) (k1 : q_ok h v0 20) (i0 : q_in x1 (qK h v0).2) {m : Nat} {P : q_Hp → Prop} (hc : q_mV m 135 [.ref s1, .int (s0 + (qA h v0 x1.toNatClampNeg)), .int x2, .int x3, .int x4] h P) (hm : m ≤ n) (w : ∀ h1 : q_Hp, P h1 → q_wp (n + 1) 134 38 [some (.ref x0), some (.int x1), some (.int x2), some (.int x3), some (.int x4)] [] h1 Q) : q_wp (n + 1) 134 24 [some (.ref x0), some (.int x1), some (.int x2), some (.int x3), some (.int x4)] [.int s0, .ref s1] h Q := by
  refine wp_loc rfl rfl ?_
  refine wp_getR rfl rfl rfl rfl k0 e0 ?_
  refine wp_loc rfl rfl ?_
  refine wp_iald rfl k1 i0 ?_
  refine wp_stk rfl rfl rfl ?_
  refine wp_loc rfl rfl ?_
  refine wp_loc rfl rfl ?_
  refine wp_loc rfl rfl ?_
  exact wp_callV (av := [.ref s1, .int (s0 + (qA h v0 x1.toNatClampNeg)), .int x2, .int x3, .int x4]) rfl rfl rfl (by decide) rfl rfl rfl hm hc w
theorem b134_38 {n : Nat} {h : q_Hp} {Q : Option Value → q_Hp → Prop} {x0 : Nat} {x1 : Int32} {x2 : Int32} {x3 : Int32} {x4 : Int32} {v0 : Nat} (k0 : q_ok h x0 6) (e0 : qR h x0 9 = v0) (k1 : q_ok h v0 20) (i0 : q_in x1 (qK h v0).2) (w : q_wp n 134 48 [some (.ref x0), some (.int x1), some (.int x2), some (.int x3), some (.int x4)] [] (q_sA h v0 x1.toNatClampNeg ((qA h v0 x1.toNatClampNeg) + 1)) Q) : q_wp n 134 38 [some (.ref x0), some (.int x1), some (.int x2), some (.int x3), some (.int x4)] [] h Q := by
  refine wp_loc rfl rfl ?_
  refine wp_getR rfl rfl rfl rfl k0 e0 ?_
  refine wp_loc rfl rfl ?_
  refine wp_stk rfl rfl rfl ?_
  refine wp_iald rfl k1 i0 ?_
  refine wp_iconst (v := 1) rfl (by decide) ?_
  refine wp_stk rfl rfl rfl ?_
  refine wp_iast rfl k1 i0 ?_
  exact w
theorem b134_48 {n : Nat} {h : q_Hp} {Q : Option Value → q_Hp → Prop} {x0 : Nat} {x1 : Int32} {x2 : Int32} {x3 : Int32} {x4 : Int32} (q : Q none h) : q_wp n 134 48 [some (.ref x0), some (.int x1), some (.int x2), some (.int x3), some (.int x4)] [] h Q := by
  exact wp_ret rfl rfl q
theorem b135_0 {n : Nat} {h : q_Hp} {Q : Option Value → q_Hp → Prop} {x0 : Nat} {x1 : Int32} {x2 : Int32} {x3 : Int32} {x4 : Int32} {v0 : Nat} (k0 : q_ok h x0 6) (e0 : qR h x0 10 = v0) {m : Nat} {P : q_Hp → Prop} (hc : q_mV m 233 [.ref v0, .int x1, .int x2] h P) (hm : m ≤ n) (w : ∀ h1 : q_Hp, P h1 → q_wp (n + 1) 135 9 [some (.ref x0), some (.int x1), some (.int x2), some (.int x3), some (.int x4)] [] h1 Q) : q_wp (n + 1) 135 0 [some (.ref x0), some (.int x1), some (.int x2), some (.int x3), some (.int x4)] [] h Q := by
  refine wp_loc rfl rfl ?_
  refine wp_getR rfl rfl rfl rfl k0 e0 ?_
  refine wp_loc rfl rfl ?_
  refine wp_loc rfl rfl ?_
  exact wp_callV (av := [.ref v0, .int x1, .int x2]) rfl rfl rfl (by decide) rfl rfl rfl hm hc w
theorem b135_9 {n : Nat} {h : q_Hp} {Q : Option Value → q_Hp → Prop} {x0 : Nat} {x1 : Int32} {x2 : Int32} {x3 : Int32} {x4 : Int32} {v0 : Nat} (k0 : q_ok h x0 6) (e0 : qR h x0 11 = v0) {m : Nat} {P : q_Hp → Prop} (hc : q_mV m 233 [.ref v0, .int x1, .int x3] h P) (hm : m ≤ n) (w : ∀ h1 : q_Hp, P h1 → q_wp (n + 1) 135 18 [some (.ref x0), some (.int x1), some (.int x2), some (.int x3), some (.int x4)] [] h1 Q) : q_wp (n + 1) 135 9 [some (.ref x0), some (.int x1), some (.int x2), some (.int x3), some (.int x4)] [] h Q := by
  refine wp_loc rfl rfl ?_
  refine wp_getR rfl rfl rfl rfl k0 e0 ?_
  refine wp_loc rfl rfl ?_
  refine wp_loc rfl rfl ?_
  exact wp_callV (av := [.ref v0, .int x1, .int x3]) rfl rfl rfl (by decide) rfl rfl rfl hm hc w
theorem b135_18 {n : Nat} {h : q_Hp} {Q : Option Value → q_Hp → Prop} {x0 : Nat} {x1 : Int32} {x2 : Int32} {x3 : Int32} {x4 : Int32} {v0 : Nat} (k0 : q_ok h x0 6) (e0 : qR h x0 12 = v0) {m : Nat} {P : q_Hp → Prop} (hc : q_mV m 233 [.ref v0, .int x1, .int x4] h P) (hm : m ≤ n) (w : ∀ h1 : q_Hp, P h1 → q_wp (n + 1) 135 28 [some (.ref x0), some (.int x1), some (.int x2), some (.int x3), some (.int x4)] [] h1 Q) : q_wp (n + 1) 135 18 [some (.ref x0), some (.int x1), some (.int x2), some (.int x3), some (.int x4)] [] h Q := by
  refine wp_loc rfl rfl ?_
  refine wp_getR rfl rfl rfl rfl k0 e0 ?_
  refine wp_loc rfl rfl ?_
  refine wp_loc rfl rfl ?_
  exact wp_callV (av := [.ref v0, .int x1, .int x4]) rfl rfl rfl (by decide) rfl rfl rfl hm hc w
theorem b135_28 {n : Nat} {h : q_Hp} {Q : Option Value → q_Hp → Prop} {x0 : Nat} {x1 : Int32} {x2 : Int32} {x3 : Int32} {x4 : Int32} (q : Q none h) : q_wp n 135 28 [some (.ref x0), some (.int x1), some (.int x2), some (.int x3), some (.int x4)] [] h Q := by
  exact wp_ret rfl rfl q
theorem b136_0 {n : Nat} {h : q_Hp} {Q : Option Value → q_Hp → Prop} {x0 : Nat} {x1 : Int32} (k0 : q_ok h x0 6) (wt : 4 ≤ (qI h x0 3) → q_wp n 136 28 [some (.ref x0), some (.int x1)] [] h Q) (wf : ¬ 4 ≤ (qI h x0 3) → q_wp n 136 8 [some (.ref x0), some (.int x1)] [] h Q) : q_wp n 136 0 [some (.ref x0), some (.int x1)] [] h Q := by
  refine wp_loc rfl rfl ?_
  refine wp_getI rfl rfl rfl k0 ?_
  refine wp_iconst (v := 4) rfl (by decide) ?_
  exact wp_icge (tgt := 28) rfl (by decide) wt wf
theorem b136_8 {n : Nat} {h : q_Hp} {Q : Option Value → q_Hp → Prop} {x0 : Nat} {x1 : Int32} {v0 : Nat} (k0 : q_ok h x0 6) (e0 : qR h x0 13 = v0) (k1 : q_ok h v0 20) (i0 : q_in (qI h x0 3) (qK h v0).2) (w : q_wp n 136 28 [some (.ref x0), some (.int x1)] [] (q_sI (q_sA h v0 ((qI h x0 3 : Int32).toNatClampNeg) x1) x0 3 ((qI h x0 3) + 1)) Q) : q_wp n 136 8 [some (.ref x0), some (.int x1)] [] h Q := by
  refine wp_loc rfl rfl ?_
  refine wp_getR rfl rfl rfl rfl k0 e0 ?_
  refine wp_loc rfl rfl ?_
  refine wp_getI rfl rfl rfl k0 ?_
  refine wp_loc rfl rfl ?_
  refine wp_iast rfl k1 i0 ?_
  refine wp_loc rfl rfl ?_
  refine wp_stk rfl rfl rfl ?_
  refine wp_getI rfl rfl rfl k0 ?_
  refine wp_iconst (v := 1) rfl (by decide) ?_
  refine wp_stk rfl rfl rfl ?_
  refine wp_putI rfl rfl (Or.inl rfl) rfl (fun h9 => by cases h9) k0 ?_
  exact w
theorem b136_28 {n : Nat} {h : q_Hp} {Q : Option Value → q_Hp → Prop} {x0 : Nat} {x1 : Int32} (q : Q none h) : q_wp n 136 28 [some (.ref x0), some (.int x1)] [] h Q := by
  exact wp_ret rfl rfl q
theorem b137_0 {n : Nat} {h : q_Hp} {Q : Option Value → q_Hp → Prop} {x0 : Nat} {x1 : Int32} {x2 : Int32} {x3 : Int32} {x4 : Int32} (k0 : q_ok h x0 6) (wt : 8 ≤ (qI h x0 4) → q_wp n 137 60 [some (.ref x0), some (.int x1), some (.int x2), some (.int x3), some (.int x4)] [] h Q) (wf : ¬ 8 ≤ (qI h x0 4) → q_wp n 137 9 [some (.ref x0), some (.int x1), some (.int x2), some (.int x3), some (.int x4)] [] h Q) : q_wp n 137 0 [some (.ref x0), some (.int x1), some (.int x2), some (.int x3), some (.int x4)] [] h Q := by
  refine wp_loc rfl rfl ?_
  refine wp_getI rfl rfl rfl k0 ?_
  refine wp_bipush (v := 8) rfl (by decide) ?_
  exact wp_icge (tgt := 60) rfl (by decide) wt wf
theorem b137_9 {n : Nat} {h : q_Hp} {Q : Option Value → q_Hp → Prop} {x0 : Nat} {x1 : Int32} {x2 : Int32} {x3 : Int32} {x4 : Int32} {v0 : Nat} {v1 : Nat} {v2 : Nat} {v3 : Nat} (k0 : q_ok h x0 6) (e0 : qR h x0 14 = v0) (k1 : q_ok h v0 20) (i0 : q_in (qI h x0 4) (qK h v0).2) (e1 : qR h x0 15 = v1) (k2 : q_ok h v1 20) (i1 : q_in (qI h x0 4) (qK h v1).2) (e2 : qR h x0 16 = v2) (k3 : q_ok h v2 20) (i2 : q_in (qI h x0 4) (qK h v2).2) (e3 : qR h x0 17 = v3) (k4 : q_ok h v3 20) (i3 : q_in (qI h x0 4) (qK h v3).2) (w : q_wp n 137 60 [some (.ref x0), some (.int x1), some (.int x2), some (.int x3), some (.int x4)] [] (q_sI (q_sA (q_sA (q_sA (q_sA h v0 ((qI h x0 4 : Int32).toNatClampNeg) x1) v1 ((qI h x0 4 : Int32).toNatClampNeg) x2) v2 ((qI h x0 4 : Int32).toNatClampNeg) x3) v3 ((qI h x0 4 : Int32).toNatClampNeg) x4) x0 4 ((qI h x0 4) + 1)) Q) : q_wp n 137 9 [some (.ref x0), some (.int x1), some (.int x2), some (.int x3), some (.int x4)] [] h Q := by
  refine wp_loc rfl rfl ?_
  refine wp_getR rfl rfl rfl rfl k0 e0 ?_
  refine wp_loc rfl rfl ?_
  refine wp_getI rfl rfl rfl k0 ?_
  refine wp_loc rfl rfl ?_
  refine wp_iast rfl k1 i0 ?_
  refine wp_loc rfl rfl ?_
  refine wp_getR rfl rfl rfl rfl k0 e1 ?_
  refine wp_loc rfl rfl ?_
  refine wp_getI rfl rfl rfl k0 ?_
  refine wp_loc rfl rfl ?_
  refine wp_iast rfl k2 i1 ?_
  refine wp_loc rfl rfl ?_
  refine wp_getR rfl rfl rfl rfl k0 e2 ?_
  refine wp_loc rfl rfl ?_
  refine wp_getI rfl rfl rfl k0 ?_
  refine wp_loc rfl rfl ?_
  refine wp_iast rfl k3 i2 ?_
  refine wp_loc rfl rfl ?_
  refine wp_getR rfl rfl rfl rfl k0 e3 ?_
  refine wp_loc rfl rfl ?_
  refine wp_getI rfl rfl rfl k0 ?_
  refine wp_loc rfl rfl ?_
  refine wp_iast rfl k4 i3 ?_
  refine wp_loc rfl rfl ?_
  refine wp_stk rfl rfl rfl ?_
  refine wp_getI rfl rfl rfl k0 ?_
  refine wp_iconst (v := 1) rfl (by decide) ?_
  refine wp_stk rfl rfl rfl ?_
  refine wp_putI rfl rfl (Or.inl rfl) rfl (fun h9 => by cases h9) k0 ?_
  exact w
theorem b137_60 {n : Nat} {h : q_Hp} {Q : Option Value → q_Hp → Prop} {x0 : Nat} {x1 : Int32} {x2 : Int32} {x3 : Int32} {x4 : Int32} (q : Q none h) : q_wp n 137 60 [some (.ref x0), some (.int x1), some (.int x2), some (.int x3), some (.int x4)] [] h Q := by
  exact wp_ret rfl rfl q
