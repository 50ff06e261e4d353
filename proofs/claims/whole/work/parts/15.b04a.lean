theorem b90_81 {n : Nat} {h : q_Hp} {Q : Option Value → q_Hp → Prop} {x0 : Nat} {x1 : Nat} {x2 : Nat} {s0 : Nat} {s1 : Nat} (k0 : q_ok h s1 4) (q : Q none (q_sR h s1 2 s0)) : q_wp n 90 81 [some (.ref x0), some (.ref x1), some (.ref x2)] [.ref s0, .ref s1] h Q := by
  refine wp_putR rfl rfl (Or.inl rfl) rfl rfl k0 ?_
  exact wp_ret rfl rfl q
theorem b91_0 {n : Nat} {h : q_Hp} {Q : Option Value → q_Hp → Prop} {x0 : Nat} {x1 : Nat} {x2 : Int32} {v0 : Nat} (k0 : q_ok h x0 4) (e0 : qR (q_sR h x0 1 x1) x0 1 = v0) {m : Nat} {P : Nat → q_Hp → Prop} (hc : q_mR m 9 [.ref v0, .int x2] (q_sR h x0 1 x1) P) (hm : m ≤ n) (w : ∀ (z : Nat) (h1 : q_Hp), P z h1 → q_wp (n + 1) 91 14 [some (.ref x0), some (.ref x1), some (.int x2), none] [.ref z, .ref x0] h1 Q) : q_wp (n + 1) 91 0 [some (.ref x0), some (.ref x1), some (.int x2), none] [] h Q := by
  refine wp_loc rfl rfl ?_
  refine wp_loc rfl rfl ?_
  refine wp_putR rfl rfl (Or.inl rfl) rfl rfl k0 ?_
  refine wp_loc rfl rfl ?_
  refine wp_loc rfl rfl ?_
  refine wp_getR rfl rfl rfl rfl k0 e0 ?_
  refine wp_loc rfl rfl ?_
  exact wp_callR (av := [.ref v0, .int x2]) rfl rfl rfl (by decide) rfl rfl rfl hm hc w
theorem b91_14 {n : Nat} {h : q_Hp} {Q : Option Value → q_Hp → Prop} {x0 : Nat} {x1 : Nat} {x2 : Int32} {s0 : Nat} {s1 : Nat} (k0 : q_ok h s1 4) (k1 : q_ok h x0 4) (w : q_wp n 91 24 [some (.ref x0), some (.ref x1), some (.int x2), some (.int 0)] [] (q_sI (q_sR h s1 2 s0) x0 6 1) Q) : q_wp n 91 14 [some (.ref x0), some (.ref x1), some (.int x2), none] [.ref s0, .ref s1] h Q := by
  refine wp_putR rfl rfl (Or.inl rfl) rfl rfl k0 ?_
  refine wp_loc rfl rfl ?_
  refine wp_iconst (v := 1) rfl (by decide) ?_
  refine wp_putI rfl rfl (Or.inl rfl) rfl (fun _ => Or.inr rfl) k1 ?_
  refine wp_iconst (v := 0) rfl (by decide) ?_
  refine wp_loc rfl rfl ?_
  exact w
theorem b91_24 {n : Nat} {h : q_Hp} {Q : Option Value → q_Hp → Prop} {x0 : Nat} {x1 : Nat} {x2 : Int32} {x3 : Int32} (wt : 4 ≤ x3 → q_wp n 91 76 [some (.ref x0), some (.ref x1), some (.int x2), some (.int x3)] [] h Q) (wf : ¬ 4 ≤ x3 → q_wp n 91 29 [some (.ref x0), some (.ref x1), some (.int x2), some (.int x3)] [] h Q) : q_wp n 91 24 [some (.ref x0), some (.ref x1), some (.int x2), some (.int x3)] [] h Q := by
  refine wp_loc rfl rfl ?_
  refine wp_iconst (v := 4) rfl (by decide) ?_
  exact wp_icge (tgt := 76) rfl (by decide) wt wf
theorem b91_29 {n : Nat} {h : q_Hp} {Q : Option Value → q_Hp → Prop} {x0 : Nat} {x1 : Nat} {x2 : Int32} {x3 : Int32} {v0 : Nat} {v1 : Nat} {v2 : Nat} (k0 : q_ok h x0 4) (e0 : qR h x0 3 = v0) (k1 : q_ok h v0 20) (i0 : q_in x3 (qK h v0).2) (e1 : qR h x0 7 = v1) (e2 : qR h x0 2 = v2) (k2 : q_ok h v2 6) (wt : (qI h v2 0) ≤ x3 → q_wp n 91 68 [some (.ref x0), some (.ref x1), some (.int x2), some (.int x3)] [.int x3, .ref v1] (q_sA h v0 x3.toNatClampNeg (-1)) Q) (wf : ¬ (qI h v2 0) ≤ x3 → q_wp n 91 52 [some (.ref x0), some (.ref x1), some (.int x2), some (.int x3)] [.int x3, .ref v1] (q_sA h v0 x3.toNatClampNeg (-1)) Q) : q_wp n 91 29 [some (.ref x0), some (.ref x1), some (.int x2), some (.int x3)] [] h Q := by
  refine wp_loc rfl rfl ?_
  refine wp_getR rfl rfl rfl rfl k0 e0 ?_
  refine wp_loc rfl rfl ?_
  refine wp_iconst (v := (-1)) rfl (by decide) ?_
  refine wp_iast rfl k1 i0 ?_
  refine wp_loc rfl rfl ?_
  refine wp_getR rfl rfl rfl rfl k0 e1 ?_
  refine wp_loc rfl rfl ?_
  refine wp_loc rfl rfl ?_
  refine wp_loc rfl rfl ?_
  refine wp_getR rfl rfl rfl rfl k0 e2 ?_
  refine wp_getI rfl rfl rfl k2 ?_
  exact wp_icge (tgt := 68) rfl (by decide) wt wf
theorem b91_52 {n : Nat} {h : q_Hp} {Q : Option Value → q_Hp → Prop} {x0 : Nat} {x1 : Nat} {x2 : Int32} {x3 : Int32} {s0 : Int32} {s1 : Nat} {v0 : Nat} {v1 : Nat} (k0 : q_ok h x0 4) (e0 : qR h x0 2 = v0) (k1 : q_ok h v0 6) (e1 : qR h v0 7 = v1) (k2 : q_ok h v1 20) (i0 : q_in x3 (qK h v1).2) {m : Nat} {P : Int32 → q_Hp → Prop} (hc : q_mI m 92 [.ref x0, .int (qA h v1 x3.toNatClampNeg)] h P) (hm : m ≤ n) (w : ∀ (z : Int32) (h1 : q_Hp), P z h1 → q_wp (n + 1) 91 65 [some (.ref x0), some (.ref x1), some (.int x2), some (.int x3)] [.int z, .int s0, .ref s1] h1 Q) : q_wp (n + 1) 91 52 [some (.ref x0), some (.ref x1), some (.int x2), some (.int x3)] [.int s0, .ref s1] h Q := by
  refine wp_loc rfl rfl ?_
  refine wp_loc rfl rfl ?_
  refine wp_getR rfl rfl rfl rfl k0 e0 ?_
  refine wp_getR rfl rfl rfl rfl k1 e1 ?_
  refine wp_loc rfl rfl ?_
  refine wp_iald rfl k2 i0 ?_
  exact wp_callI (av := [.ref x0, .int (qA h v1 x3.toNatClampNeg)]) rfl rfl rfl (by decide) rfl rfl rfl hm hc w
theorem b91_65 {n : Nat} {h : q_Hp} {Q : Option Value → q_Hp → Prop} {x0 : Nat} {x1 : Nat} {x2 : Int32} {x3 : Int32} {s0 : Int32} {s1 : Int32} {s2 : Nat} (w : q_wp n 91 69 [some (.ref x0), some (.ref x1), some (.int x2), some (.int x3)] [.int s0, .int s1, .ref s2] h Q) : q_wp n 91 65 [some (.ref x0), some (.ref x1), some (.int x2), some (.int x3)] [.int s0, .int s1, .ref s2] h Q := by
  refine wp_goto (tgt := 69) rfl (by decide) ?_
  exact w
theorem b91_68 {n : Nat} {h : q_Hp} {Q : Option Value → q_Hp → Prop} {x0 : Nat} {x1 : Nat} {x2 : Int32} {x3 : Int32} {s0 : Int32} {s1 : Nat} (w : q_wp n 91 69 [some (.ref x0), some (.ref x1), some (.int x2), some (.int x3)] [.int 0, .int s0, .ref s1] h Q) : q_wp n 91 68 [some (.ref x0), some (.ref x1), some (.int x2), some (.int x3)] [.int s0, .ref s1] h Q := by
  refine wp_iconst (v := 0) rfl (by decide) ?_
  exact w
theorem b91_69 {n : Nat} {h : q_Hp} {Q : Option Value → q_Hp → Prop} {x0 : Nat} {x1 : Nat} {x2 : Int32} {x3 : Int32} {s0 : Int32} {s1 : Int32} {s2 : Nat} (k0 : q_ok h s2 20) (i0 : q_in s1 (qK h s2).2) (w : q_wp n 91 24 [some (.ref x0), some (.ref x1), some (.int x2), some (.int (x3 + 1))] [] (q_sA h s2 s1.toNatClampNeg s0) Q) : q_wp n 91 69 [some (.ref x0), some (.ref x1), some (.int x2), some (.int x3)] [.int s0, .int s1, .ref s2] h Q := by
  refine wp_iast rfl k0 i0 ?_
  refine wp_iinc (v := 1) rfl rfl (by decide) rfl ?_
  refine wp_goto (tgt := 24) rfl (by decide) ?_
  exact w
theorem b91_76 {n : Nat} {h : q_Hp} {Q : Option Value → q_Hp → Prop} {x0 : Nat} {x1 : Nat} {x2 : Int32} {x3 : Int32} (w : q_wp n 91 78 [some (.ref x0), some (.ref x1), some (.int x2), some (.int 0)] [] h Q) : q_wp n 91 76 [some (.ref x0), some (.ref x1), some (.int x2), some (.int x3)] [] h Q := by
  refine wp_iconst (v := 0) rfl (by decide) ?_
  refine wp_loc rfl rfl ?_
  exact w
theorem b91_78 {n : Nat} {h : q_Hp} {Q : Option Value → q_Hp → Prop} {x0 : Nat} {x1 : Nat} {x2 : Int32} {x3 : Int32} (wt : 2 ≤ x3 → q_wp n 91 123 [some (.ref x0), some (.ref x1), some (.int x2), some (.int x3)] [] h Q) (wf : ¬ 2 ≤ x3 → q_wp n 91 83 [some (.ref x0), some (.ref x1), some (.int x2), some (.int x3)] [] h Q) : q_wp n 91 78 [some (.ref x0), some (.ref x1), some (.int x2), some (.int x3)] [] h Q := by
  refine wp_loc rfl rfl ?_
  refine wp_iconst (v := 2) rfl (by decide) ?_
  exact wp_icge (tgt := 123) rfl (by decide) wt wf
theorem b91_83 {n : Nat} {h : q_Hp} {Q : Option Value → q_Hp → Prop} {x0 : Nat} {x1 : Nat} {x2 : Int32} {x3 : Int32} {v0 : Nat} {v1 : Nat} (k0 : q_ok h x0 4) (e0 : qR h x0 8 = v0) (e1 : qR h x0 2 = v1) (k1 : q_ok h v1 6) (wt : (qI h v1 2) ≤ x3 → q_wp n 91 115 [some (.ref x0), some (.ref x1), some (.int x2), some (.int x3)] [.int x3, .ref v0] h Q) (wf : ¬ (qI h v1 2) ≤ x3 → q_wp n 91 99 [some (.ref x0), some (.ref x1), some (.int x2), some (.int x3)] [.int x3, .ref v0] h Q) : q_wp n 91 83 [some (.ref x0), some (.ref x1), some (.int x2), some (.int x3)] [] h Q := by
  refine wp_loc rfl rfl ?_
  refine wp_getR rfl rfl rfl rfl k0 e0 ?_
  refine wp_loc rfl rfl ?_
  refine wp_loc rfl rfl ?_
  refine wp_loc rfl rfl ?_
  refine wp_getR rfl rfl rfl rfl k0 e1 ?_
  refine wp_getI rfl rfl rfl k1 ?_
  exact wp_icge (tgt := 115) rfl (by decide) wt wf
theorem b91_99 {n : Nat} {h : q_Hp} {Q : Option Value → q_Hp → Prop} {x0 : Nat} {x1 : Nat} {x2 : Int32} {x3 : Int32} {s0 : Int32} {s1 : Nat} {v0 : Nat} {v1 : Nat} (k0 : q_ok h x0 4) (e0 : qR h x0 2 = v0) (k1 : q_ok h v0 6) (e1 : qR h v0 8 = v1) (k2 : q_ok h v1 20) (i0 : q_in x3 (qK h v1).2) {m : Nat} {P : Int32 → q_Hp → Prop} (hc : q_mI m 92 [.ref x0, .int (qA h v1 x3.toNatClampNeg)] h P) (hm : m ≤ n) (w : ∀ (z : Int32) (h1 : q_Hp), P z h1 → q_wp (n + 1) 91 112 [some (.ref x0), some (.ref x1), some (.int x2), some (.int x3)] [.int z, .int s0, .ref s1] h1 Q) : q_wp (n + 1) 91 99 [some (.ref x0), some (.ref x1), some (.int x2), some (.int x3)] [.int s0, .ref s1] h Q := by
  refine wp_loc rfl rfl ?_
  refine wp_loc rfl rfl ?_
  refine wp_getR rfl rfl rfl rfl k0 e0 ?_
  refine wp_getR rfl rfl rfl rfl k1 e1 ?_
  refine wp_loc rfl rfl ?_
  refine wp_iald rfl k2 i0 ?_
  exact wp_callI (av := [.ref x0, .int (qA h v1 x3.toNatClampNeg)]) rfl rfl rfl (by decide) rfl rfl rfl hm hc w
theorem b91_112 {n : Nat} {h : q_Hp} {Q : Option Value → q_Hp → Prop} {x0 : Nat} {x1 : Nat} {x2 : Int32} {x3 : Int32} {s0 : Int32} {s1 : Int32} {s2 : Nat} (w : q_wp n 91 116 [some (.ref x0), some (.ref x1), some (.int x2), some (.int x3)] [.int s0, .int s1, .ref s2] h Q) : q_wp n 91 112 [some (.ref x0), some (.ref x1), some (.int x2), some (.int x3)] [.int s0, .int s1, .ref s2] h Q := by
  refine wp_goto (tgt := 116) rfl (by decide) ?_
  exact w
theorem b91_115 {n : Nat} {h : q_Hp} {Q : Option Value → q_Hp → Prop} {x0 : Nat} {x1 : Nat} {x2 : Int32} {x3 : Int32} {s0 : Int32} {s1 : Nat} (w : q_wp n 91 116 [some (.ref x0), some (.ref x1), some (.int x2), some (.int x3)] [.int 0, .int s0, .ref s1] h Q) : q_wp n 91 115 [some (.ref x0), some (.ref x1), some (.int x2), some (.int x3)] [.int s0, .ref s1] h Q := by
  refine wp_iconst (v := 0) rfl (by decide) ?_
  exact w
theorem b91_116 {n : Nat} {h : q_Hp} {Q : Option Value → q_Hp → Prop} {x0 : Nat} {x1 : Nat} {x2 : Int32} {x3 : Int32} {s0 : Int32} {s1 : Int32} {s2 : Nat} (k0 : q_ok h s2 20) (i0 : q_in s1 (qK h s2).2) (w : q_wp n 91 78 [some (.ref x0), some (.ref x1), some (.int x2), some (.int (x3 + 1))] [] (q_sA h s2 s1.toNatClampNeg s0) Q) : q_wp n 91 116 [some (.ref x0), some (.ref x1), some (.int x2), some (.int x3)] [.int s0, .int s1, .ref s2] h Q := by
  refine wp_iast rfl k0 i0 ?_
  refine wp_iinc (v := 1) rfl rfl (by decide) rfl ?_
  refine wp_goto (tgt := 78) rfl (by decide) ?_
  exact w
theorem b91_123 {n : Nat} {h : q_Hp} {Q : Option Value → q_Hp → Prop} {x0 : Nat} {x1 : Nat} {x2 : Int32} {x3 : Int32} {m : Nat} {P : q_Hp → Prop} (hc : q_mV m 93 [.ref x0] h P) (hm : m ≤ n) (w : ∀ h1 : q_Hp, P h1 → q_wp (n + 1) 91 127 [some (.ref x0), some (.ref x1), some (.int x2), some (.int x3)] [] h1 Q) : q_wp (n + 1) 91 123 [some (.ref x0), some (.ref x1), some (.int x2), some (.int x3)] [] h Q := by
  refine wp_loc rfl rfl ?_
  exact wp_callV (av := [.ref x0]) rfl rfl rfl (by decide) rfl rfl rfl hm hc w
theorem b91_127 {n : Nat} {h : q_Hp} {Q : Option Value → q_Hp → Prop} {x0 : Nat} {x1 : Nat} {x2 : Int32} {x3 : Int32} (q : Q none h) : q_wp n 91 127 [some (.ref x0), some (.ref x1), some (.int x2), some (.int x3)] [] h Q := by
  exact wp_ret rfl rfl q
theorem b92_0 {n : Nat} {h : q_Hp} {Q : Option Value → q_Hp → Prop} {x0 : Nat} {x1 : Int32} (w : q_wp n 92 4 [some (.ref x0), some (.int x1), some (.int 0), some (.int 0)] [] h Q) : q_wp n 92 0 [some (.ref x0), some (.int x1), none, none] [] h Q := by
  refine wp_iconst (v := 0) rfl (by decide) ?_
  refine wp_loc rfl rfl ?_
  refine wp_iconst (v := 0) rfl (by decide) ?_
  refine wp_loc rfl rfl ?_
  exact w
theorem b92_4 {n : Nat} {h : q_Hp} {Q : Option Value → q_Hp → Prop} {x0 : Nat} {x1 : Int32} {x2 : Int32} {x3 : Int32} (wt : 12 ≤ x3 → q_wp n 92 41 [some (.ref x0), some (.int x1), some (.int x2), some (.int x3)] [] h Q) (wf : ¬ 12 ≤ x3 → q_wp n 92 10 [some (.ref x0), some (.int x1), some (.int x2), some (.int x3)] [] h Q) : q_wp n 92 4 [some (.ref x0), some (.int x1), some (.int x2), some (.int x3)] [] h Q := by
  refine wp_loc rfl rfl ?_
  refine wp_bipush (v := 12) rfl (by decide) ?_
  exact wp_icge (tgt := 41) rfl (by decide) wt wf
theorem b92_10 {n : Nat} {h : q_Hp} {Q : Option Value → q_Hp → Prop} {x0 : Nat} {x1 : Int32} {x2 : Int32} {x3 : Int32} {v0 : Nat} {v1 : Nat} (k0 : q_ok h x0 4) (e0 : qR h x0 1 = v0) (e1 : qR h x0 0 = v1) {m : Nat} {P : Int32 → q_Hp → Prop} (hc : q_mI m 64 [.ref v1, .int x3] h P) (hm : m ≤ n) (w : ∀ (z : Int32) (h1 : q_Hp), P z h1 → q_wp (n + 1) 92 22 [some (.ref x0), some (.int x1), some (.int x2), some (.int x3)] [.int z, .ref v0] h1 Q) : q_wp (n + 1) 92 10 [some (.ref x0), some (.int x1), some (.int x2), some (.int x3)] [] h Q := by
  refine wp_loc rfl rfl ?_
  refine wp_getR rfl rfl rfl rfl k0 e0 ?_
  refine wp_loc rfl rfl ?_
  refine wp_getR rfl rfl rfl rfl k0 e1 ?_
  refine wp_loc rfl rfl ?_
  exact wp_callI (av := [.ref v1, .int x3]) rfl rfl rfl (by decide) rfl rfl rfl hm hc w
theorem b92_22 {n : Nat} {h : q_Hp} {Q : Option Value → q_Hp → Prop} {x0 : Nat} {x1 : Int32} {x2 : Int32} {x3 : Int32} {s0 : Int32} {s1 : Nat} {m : Nat} {P : Int32 → q_Hp → Prop} (hc : q_mI m 6 [.ref s1, .int s0, .int x1] h P) (hm : m ≤ n) (w : ∀ (z : Int32) (h1 : q_Hp), P z h1 → q_wp (n + 1) 92 26 [some (.ref x0), some (.int x1), some (.int x2), some (.int x3)] [.int z] h1 Q) : q_wp (n + 1) 92 22 [some (.ref x0), some (.int x1), some (.int x2), some (.int x3)] [.int s0, .ref s1] h Q := by
  refine wp_loc rfl rfl ?_
  exact wp_callI (av := [.ref s1, .int s0, .int x1]) rfl rfl rfl (by decide) rfl rfl rfl hm hc w
theorem b92_26 {n : Nat} {h : q_Hp} {Q : Option Value → q_Hp → Prop} {x0 : Nat} {x1 : Int32} {x2 : Int32} {x3 : Int32} {s0 : Int32} (wt : s0 = 0 → q_wp n 92 35 [some (.ref x0), some (.int x1), some (.int x2), some (.int x3)] [] h Q) (wf : ¬ s0 = 0 → q_wp n 92 29 [some (.ref x0), some (.int x1), some (.int x2), some (.int x3)] [] h Q) : q_wp n 92 26 [some (.ref x0), some (.int x1), some (.int x2), some (.int x3)] [.int s0] h Q := by
  exact wp_ifeq (tgt := 35) rfl (by decide) wt wf
theorem b92_29 {n : Nat} {h : q_Hp} {Q : Option Value → q_Hp → Prop} {x0 : Nat} {x1 : Int32} {x2 : Int32} {x3 : Int32} (w : q_wp n 92 35 [some (.ref x0), some (.int x1), some (.int (x2 ||| (1 <<< (x3 &&& 31)))), some (.int x3)] [] h Q) : q_wp n 92 29 [some (.ref x0), some (.int x1), some (.int x2), some (.int x3)] [] h Q := by
  refine wp_loc rfl rfl ?_
  refine wp_iconst (v := 1) rfl (by decide) ?_
  refine wp_loc rfl rfl ?_
  refine wp_stk rfl rfl rfl ?_
  refine wp_stk rfl rfl rfl ?_
  refine wp_loc rfl rfl ?_
  exact w
theorem b92_35 {n : Nat} {h : q_Hp} {Q : Option Value → q_Hp → Prop} {x0 : Nat} {x1 : Int32} {x2 : Int32} {x3 : Int32} (w : q_wp n 92 4 [some (.ref x0), some (.int x1), some (.int x2), some (.int (x3 + 1))] [] h Q) : q_wp n 92 35 [some (.ref x0), some (.int x1), some (.int x2), some (.int x3)] [] h Q := by
  refine wp_iinc (v := 1) rfl rfl (by decide) rfl ?_
  refine wp_goto (tgt := 4) rfl (by decide) ?_
  exact w
theorem b92_41 {n : Nat} {h : q_Hp} {Q : Option Value → q_Hp → Prop} {x0 : Nat} {x1 : Int32} {x2 : Int32} {x3 : Int32} (q : Q (some (.int x2)) h) : q_wp n 92 41 [some (.ref x0), some (.int x1), some (.int x2), some (.int x3)] [] h Q := by
  refine wp_loc rfl rfl ?_
  exact wp_ret rfl rfl q
theorem b93_0 {n : Nat} {h : q_Hp} {Q : Option Value → q_Hp → Prop} {x0 : Nat} {v0 : Nat} (k0 : q_ok h x0 4) (e0 : qR h x0 9 = v0) {m : Nat} {P : q_Hp → Prop} (hc : q_mV m 352 [.ref v0, .int 0] h P) (hm : m ≤ n) (w : ∀ h1 : q_Hp, P h1 → q_wp (n + 1) 93 8 [some (.ref x0), none, none] [] h1 Q) : q_wp (n + 1) 93 0 [some (.ref x0), none, none] [] h Q := by
  refine wp_loc rfl rfl ?_
  refine wp_getR rfl rfl rfl rfl k0 e0 ?_
  refine wp_iconst (v := 0) rfl (by decide) ?_
  exact wp_callV (av := [.ref v0, .int 0]) rfl rfl rfl (by decide) rfl rfl rfl hm hc w
theorem b93_8 {n : Nat} {h : q_Hp} {Q : Option Value → q_Hp → Prop} {x0 : Nat} (w : q_wp n 93 10 [some (.ref x0), some (.int 0), none] [] h Q) : q_wp n 93 8 [some (.ref x0), none, none] [] h Q := by
  refine wp_iconst (v := 0) rfl (by decide) ?_
  refine wp_loc rfl rfl ?_
  exact w
theorem b93_10 {n : Nat} {h : q_Hp} {Q : Option Value → q_Hp → Prop} {x0 : Nat} {x1 : Int32} {l2 : Option Value} (wt : 40 ≤ x1 → q_wp n 93 86 [some (.ref x0), some (.int x1), l2] [] h Q) (wf : ¬ 40 ≤ x1 → q_wp n 93 16 [some (.ref x0), some (.int x1), l2] [] h Q) : q_wp n 93 10 [some (.ref x0), some (.int x1), l2] [] h Q := by
  refine wp_loc rfl rfl ?_
  refine wp_bipush (v := 40) rfl (by decide) ?_
  exact wp_icge (tgt := 86) rfl (by decide) wt wf
theorem b93_16 {n : Nat} {h : q_Hp} {Q : Option Value → q_Hp → Prop} {x0 : Nat} {x1 : Int32} {l2 : Option Value} {v0 : Nat} (k0 : q_ok h x0 4) (e0 : qR h x0 0 = v0) {m : Nat} {P : Int32 → q_Hp → Prop} (hc : q_mI m 68 [.ref v0, .int x1] h P) (hm : m ≤ n) (w : ∀ (z : Int32) (h1 : q_Hp), P z h1 → q_wp (n + 1) 93 24 [some (.ref x0), some (.int x1), l2] [.int z] h1 Q) : q_wp (n + 1) 93 16 [some (.ref x0), some (.int x1), l2] [] h Q := by
  refine wp_loc rfl rfl ?_
  refine wp_getR rfl rfl rfl rfl k0 e0 ?_
  refine wp_loc rfl rfl ?_
  exact wp_callI (av := [.ref v0, .int x1]) rfl rfl rfl (by decide) rfl rfl rfl hm hc w
theorem b93_24 {n : Nat} {h : q_Hp} {Q : Option Value → q_Hp → Prop} {x0 : Nat} {x1 : Int32} {l2 : Option Value} {s0 : Int32} {v0 : Nat} (k0 : q_ok h x0 4) (e0 : qR h x0 0 = v0) {m : Nat} {P : Int32 → q_Hp → Prop} (hc : q_mI m 69 [.ref v0, .int x1] h P) (hm : m ≤ n) (w : ∀ (z : Int32) (h1 : q_Hp), P z h1 → q_wp (n + 1) 93 35 [some (.ref x0), some (.int x1), l2] [.int z, .int (s0 * 12)] h1 Q) : q_wp (n + 1) 93 24 [some (.ref x0), some (.int x1), l2] [.int s0] h Q := by
  refine wp_bipush (v := 12) rfl (by decide) ?_
  refine wp_stk rfl rfl rfl ?_
  refine wp_loc rfl rfl ?_
  refine wp_getR rfl rfl rfl rfl k0 e0 ?_
  refine wp_loc rfl rfl ?_
  exact wp_callI (av := [.ref v0, .int x1]) rfl rfl rfl (by decide) rfl rfl rfl hm hc w
theorem b93_35 {n : Nat} {h : q_Hp} {Q : Option Value → q_Hp → Prop} {x0 : Nat} {x1 : Int32} {l2 : Option Value} {s0 : Int32} {s1 : Int32} {v0 : Nat} (k0 : q_ok h x0 4) (e0 : qR h x0 0 = v0) {m : Nat} {P : Int32 → q_Hp → Prop} (hc : q_mI m 71 [.ref v0, .int x1] h P) (hm : m ≤ n) (w : ∀ (z : Int32) (h1 : q_Hp), P z h1 → q_wp (n + 1) 93 45 [some (.ref x0), some (.int x1), some (.int (s1 + s0))] [.int z] h1 Q) : q_wp (n + 1) 93 35 [some (.ref x0), some (.int x1), l2] [.int s0, .int s1] h Q := by
  refine wp_stk rfl rfl rfl ?_
  refine wp_loc rfl rfl ?_
  refine wp_loc rfl rfl ?_
  refine wp_getR rfl rfl rfl rfl k0 e0 ?_
  refine wp_loc rfl rfl ?_
  exact wp_callI (av := [.ref v0, .int x1]) rfl rfl rfl (by decide) rfl rfl rfl hm hc w
theorem b93_45 {n : Nat} {h : q_Hp} {Q : Option Value → q_Hp → Prop} {x0 : Nat} {x1 : Int32} {x2 : Int32} {s0 : Int32} (wt : s0 = 0 → q_wp n 93 80 [some (.ref x0), some (.int x1), some (.int x2)] [] h Q) (wf : ¬ s0 = 0 → q_wp n 93 48 [some (.ref x0), some (.int x1), some (.int x2)] [] h Q) : q_wp n 93 45 [some (.ref x0), some (.int x1), some (.int x2)] [.int s0] h Q := by
  exact wp_ifeq (tgt := 80) rfl (by decide) wt wf
theorem b93_48 {n : Nat} {h : q_Hp} {Q : Option Value → q_Hp → Prop} {x0 : Nat} {x1 : Int32} {x2 : Int32} (wt : x2 < 0 → q_wp n 93 80 [some (.ref x0), some (.int x1), some (.int x2)] [] h Q) (wf : ¬ x2 < 0 → q_wp n 93 52 [some (.ref x0), some (.int x1), some (.int x2)] [] h Q) : q_wp n 93 48 [some (.ref x0), some (.int x1), some (.int x2)] [] h Q := by
  refine wp_loc rfl rfl ?_
  exact wp_iflt (tgt := 80) rfl (by decide) wt wf
theorem b93_52 {n : Nat} {h : q_Hp} {Q : Option Value → q_Hp → Prop} {x0 : Nat} {x1 : Int32} {x2 : Int32} {v0 : Nat} {cd0 : Nat} (k0 : q_ok h x0 4) (e0 : qR h x0 9 = v0) (a2 : q_ok h v0 cd0) (a2c : 20 ≤ cd0 ∧ cd0 ≤ 24) (wt : (Int32.ofNat (qK h v0).2) ≤ x2 → q_wp n 93 80 [some (.ref x0), some (.int x1), some (.int x2)] [] h Q) (wf : ¬ (Int32.ofNat (qK h v0).2) ≤ x2 → q_wp n 93 61 [some (.ref x0), some (.int x1), some (.int x2)] [] h Q) : q_wp n 93 52 [some (.ref x0), some (.int x1), some (.int x2)] [] h Q := by
  refine wp_loc rfl rfl ?_
  refine wp_loc rfl rfl ?_
  refine wp_getR rfl rfl rfl rfl k0 e0 ?_
  refine wp_alen rfl a2 a2c ?_
  exact wp_icge (tgt := 80) rfl (by decide) wt wf
theorem b93_61 {n : Nat} {h : q_Hp} {Q : Option Value → q_Hp → Prop} {x0 : Nat} {x1 : Int32} {x2 : Int32} {v0 : Nat} {v1 : Nat} (k0 : q_ok h x0 4) (e0 : qR h x0 9 = v0) (k1 : q_ok h v0 20) (i0 : q_in x2 (qK h v0).2) (e1 : qR h x0 0 = v1) {m : Nat} {P : Int32 → q_Hp → Prop} (hc : q_mI m 70 [.ref v1, .int x1] h P) (hm : m ≤ n) (w : ∀ (z : Int32) (h1 : q_Hp), P z h1 → q_wp (n + 1) 93 77 [some (.ref x0), some (.int x1), some (.int x2)] [.int z, .int 1, .int (qA h v0 x2.toNatClampNeg), .int x2, .ref v0] h1 Q) : q_wp (n + 1) 93 61 [some (.ref x0), some (.int x1), some (.int x2)] [] h Q := by
  refine wp_loc rfl rfl ?_
  refine wp_getR rfl rfl rfl rfl k0 e0 ?_
  refine wp_loc rfl rfl ?_
  refine wp_stk rfl rfl rfl ?_
  refine wp_iald rfl k1 i0 ?_
  refine wp_iconst (v := 1) rfl (by decide) ?_
  refine wp_loc rfl rfl ?_
  refine wp_getR rfl rfl rfl rfl k0 e1 ?_
  refine wp_loc rfl rfl ?_
  exact wp_callI (av := [.ref v1, .int x1]) rfl rfl rfl (by decide) rfl rfl rfl hm hc w
theorem b93_77 {n : Nat} {h : q_Hp} {Q : Option Value → q_Hp → Prop} {x0 : Nat} {x1 : Int32} {x2 : Int32} {s0 : Int32} {s1 : Int32} {s2 : Int32} {s3 : Int32} {s4 : Nat} (k0 : q_ok h s4 20) (i0 : q_in s3 (qK h s4).2) (w : q_wp n 93 80 [some (.ref x0), some (.int x1), some (.int x2)] [] (q_sA h s4 s3.toNatClampNeg (s2 ||| (s1 <<< (s0 &&& 31)))) Q) : q_wp n 93 77 [some (.ref x0), some (.int x1), some (.int x2)] [.int s0, .int s1, .int s2, .int s3, .ref s4] h Q := by
  refine wp_stk rfl rfl rfl ?_
  refine wp_stk rfl rfl rfl ?_
  refine wp_iast rfl k0 i0 ?_
  exact w
theorem b93_80 {n : Nat} {h : q_Hp} {Q : Option Value → q_Hp → Prop} {x0 : Nat} {x1 : Int32} {x2 : Int32} (w : q_wp n 93 10 [some (.ref x0), some (.int (x1 + 1)), some (.int x2)] [] h Q) : q_wp n 93 80 [some (.ref x0), some (.int x1), some (.int x2)] [] h Q := by
  refine wp_iinc (v := 1) rfl rfl (by decide) rfl ?_
  refine wp_goto (tgt := 10) rfl (by decide) ?_
  exact w
theorem b93_86 {n : Nat} {h : q_Hp} {Q : Option Value → q_Hp → Prop} {x0 : Nat} {x1 : Int32} {l2 : Option Value} (q : Q none h) : q_wp n 93 86 [some (.ref x0), some (.int x1), l2] [] h Q := by
  exact wp_ret rfl rfl q
theorem b94_0 {n : Nat} {h : q_Hp} {Q : Option Value → q_Hp → Prop} {x0 : Nat} {v0 : Nat} (k0 : q_ok h x0 4) (e0 : qR h x0 2 = v0) (k1 : q_ok h v0 6) (wt : (qI h x0 6) = 0 → q_wp n 94 23 [some (.ref x0), some (.int (qI h x0 6)), some (.int ((qI h v0 0) - 1)), none, none] [] h Q) (wf : ¬ (qI h x0 6) = 0 → q_wp n 94 19 [some (.ref x0), some (.int (qI h x0 6)), some (.int ((qI h v0 0) - 1)), none, none] [] h Q) : q_wp n 94 0 [some (.ref x0), none, none, none, none] [] h Q := by
  refine wp_loc rfl rfl ?_
  refine wp_getI rfl rfl rfl k0 ?_
  refine wp_loc rfl rfl ?_
  refine wp_loc rfl rfl ?_
  refine wp_getR rfl rfl rfl rfl k0 e0 ?_
  refine wp_getI rfl rfl rfl k1 ?_
  refine wp_iconst (v := 1) rfl (by decide) ?_
  refine wp_stk rfl rfl rfl ?_
  refine wp_loc rfl rfl ?_
  refine wp_loc rfl rfl ?_
  exact wp_ifeq (tgt := 23) rfl (by decide) wt wf
theorem b94_19 {n : Nat} {h : q_Hp} {Q : Option Value → q_Hp → Prop} {x0 : Nat} {x1 : Int32} {x2 : Int32} (w : q_wp n 94 24 [some (.ref x0), some (.int x1), some (.int x2), none, none] [.int 0] h Q) : q_wp n 94 19 [some (.ref x0), some (.int x1), some (.int x2), none, none] [] h Q := by
  refine wp_iconst (v := 0) rfl (by decide) ?_
  refine wp_goto (tgt := 24) rfl (by decide) ?_
  exact w
theorem b94_23 {n : Nat} {h : q_Hp} {Q : Option Value → q_Hp → Prop} {x0 : Nat} {x1 : Int32} {x2 : Int32} (w : q_wp n 94 24 [some (.ref x0), some (.int x1), some (.int x2), none, none] [.int x2] h Q) : q_wp n 94 23 [some (.ref x0), some (.int x1), some (.int x2), none, none] [] h Q := by
  refine wp_loc rfl rfl ?_
  exact w
theorem b94_24 {n : Nat} {h : q_Hp} {Q : Option Value → q_Hp → Prop} {x0 : Nat} {x1 : Int32} {x2 : Int32} {s0 : Int32} (k0 : q_ok h x0 4) (wt : 0 ≤ x2 → q_wp n 94 51 [some (.ref x0), some (.int x1), some (.int x2), some (.int s0), none] [] (q_sI h x0 6 0) Q) (wf : ¬ 0 ≤ x2 → q_wp n 94 34 [some (.ref x0), some (.int x1), some (.int x2), some (.int s0), none] [] (q_sI h x0 6 0) Q) : q_wp n 94 24 [some (.ref x0), some (.int x1), some (.int x2), none, none] [.int s0] h Q := by
  refine wp_loc rfl rfl ?_
  refine wp_loc rfl rfl ?_
  refine wp_iconst (v := 0) rfl (by decide) ?_
  refine wp_putI rfl rfl (Or.inl rfl) rfl (fun _ => Or.inl rfl) k0 ?_
  refine wp_loc rfl rfl ?_
  exact wp_ifge (tgt := 51) rfl (by decide) wt wf
theorem b94_34 {n : Nat} {h : q_Hp} {Q : Option Value → q_Hp → Prop} {x0 : Nat} {x1 : Int32} {x2 : Int32} {x3 : Int32} (wt : x1 = 0 → q_wp n 94 49 [some (.ref x0), some (.int x1), some (.int x2), some (.int x3), none] [] h Q) (wf : ¬ x1 = 0 → q_wp n 94 38 [some (.ref x0), some (.int x1), some (.int x2), some (.int x3), none] [] h Q) : q_wp n 94 34 [some (.ref x0), some (.int x1), some (.int x2), some (.int x3), none] [] h Q := by
  refine wp_loc rfl rfl ?_
  exact wp_ifeq (tgt := 49) rfl (by decide) wt wf
theorem b94_38 {n : Nat} {h : q_Hp} {Q : Option Value → q_Hp → Prop} {x0 : Nat} {x1 : Int32} {x2 : Int32} {x3 : Int32} {m : Nat} {P : Int32 → q_Hp → Prop} (hc : q_mI m 99 [.ref x0] h P) (hm : m ≤ n) (w : ∀ (z : Int32) (h1 : q_Hp), P z h1 → q_wp (n + 1) 94 42 [some (.ref x0), some (.int x1), some (.int x2), some (.int x3), none] [.int z] h1 Q) : q_wp (n + 1) 94 38 [some (.ref x0), some (.int x1), some (.int x2), some (.int x3), none] [] h Q := by
  refine wp_loc rfl rfl ?_
  exact wp_callI (av := [.ref x0]) rfl rfl rfl (by decide) rfl rfl rfl hm hc w
theorem b94_42 {n : Nat} {h : q_Hp} {Q : Option Value → q_Hp → Prop} {x0 : Nat} {x1 : Int32} {x2 : Int32} {x3 : Int32} {s0 : Int32} (wt : s0 = 0 → q_wp n 94 49 [some (.ref x0), some (.int x1), some (.int x2), some (.int x3), none] [] h Q) (wf : ¬ s0 = 0 → q_wp n 94 45 [some (.ref x0), some (.int x1), some (.int x2), some (.int x3), none] [] h Q) : q_wp n 94 42 [some (.ref x0), some (.int x1), some (.int x2), some (.int x3), none] [.int s0] h Q := by
  exact wp_ifeq (tgt := 49) rfl (by decide) wt wf
theorem b94_45 {n : Nat} {h : q_Hp} {Q : Option Value → q_Hp → Prop} {x0 : Nat} {x1 : Int32} {x2 : Int32} {x3 : Int32} (q : Q (some (.int 1)) h) : q_wp n 94 45 [some (.ref x0), some (.int x1), some (.int x2), some (.int x3), none] [] h Q := by
  refine wp_iconst (v := 1) rfl (by decide) ?_
  refine wp_goto (tgt := 50) rfl (by decide) ?_
  exact wp_ret (r := some (.int 1)) rfl rfl q
theorem b94_49 {n : Nat} {h : q_Hp} {Q : Option Value → q_Hp → Prop} {x0 : Nat} {x1 : Int32} {x2 : Int32} {x3 : Int32} (q : Q (some (.int 0)) h) : q_wp n 94 49 [some (.ref x0), some (.int x1), some (.int x2), some (.int x3), none] [] h Q := by
  refine wp_iconst (v := 0) rfl (by decide) ?_
  exact wp_ret (r := some (.int 0)) rfl rfl q
theorem b94_51 {n : Nat} {h : q_Hp} {Q : Option Value → q_Hp → Prop} {x0 : Nat} {x1 : Int32} {x2 : Int32} {x3 : Int32} (w : q_wp n 94 54 [some (.ref x0), some (.int x1), some (.int x2), some (.int x3), some (.int 0)] [] h Q) : q_wp n 94 51 [some (.ref x0), some (.int x1), some (.int x2), some (.int x3), none] [] h Q := by
  refine wp_iconst (v := 0) rfl (by decide) ?_
  refine wp_loc rfl rfl ?_
  exact w
theorem b94_54 {n : Nat} {h : q_Hp} {Q : Option Value → q_Hp → Prop} {x0 : Nat} {x1 : Int32} {x2 : Int32} {x3 : Int32} {x4 : Int32} (wt : 1000000 ≤ x4 → q_wp n 94 123 [some (.ref x0), some (.int x1), some (.int x2), some (.int x3), some (.int x4)] [] h Q) (wf : ¬ 1000000 ≤ x4 → q_wp n 94 61 [some (.ref x0), some (.int x1), some (.int x2), some (.int x3), some (.int x4)] [] h Q) : q_wp n 94 54 [some (.ref x0), some (.int x1), some (.int x2), some (.int x3), some (.int x4)] [] h Q := by
  refine wp_loc rfl rfl ?_
  refine wp_stk (m := 2) (st' := .int 1000000 :: _) rfl rfl rfl ?_
  exact wp_icge (tgt := 123) rfl (by decide) wt wf
theorem b94_61 {n : Nat} {h : q_Hp} {Q : Option Value → q_Hp → Prop} {x0 : Nat} {x1 : Int32} {x2 : Int32} {x3 : Int32} {x4 : Int32} (wt : x3 < 0 → q_wp n 94 123 [some (.ref x0), some (.int x1), some (.int x2), some (.int x3), some (.int x4)] [] h Q) (wf : ¬ x3 < 0 → q_wp n 94 65 [some (.ref x0), some (.int x1), some (.int x2), some (.int x3), some (.int x4)] [] h Q) : q_wp n 94 61 [some (.ref x0), some (.int x1), some (.int x2), some (.int x3), some (.int x4)] [] h Q := by
  refine wp_loc rfl rfl ?_
  exact wp_iflt (tgt := 123) rfl (by decide) wt wf
theorem b94_65 {n : Nat} {h : q_Hp} {Q : Option Value → q_Hp → Prop} {x0 : Nat} {x1 : Int32} {x2 : Int32} {x3 : Int32} {x4 : Int32} (wt : 4 ≤ x3 → q_wp n 94 123 [some (.ref x0), some (.int x1), some (.int x2), some (.int x3), some (.int x4)] [] h Q) (wf : ¬ 4 ≤ x3 → q_wp n 94 70 [some (.ref x0), some (.int x1), some (.int x2), some (.int x3), some (.int x4)] [] h Q) : q_wp n 94 65 [some (.ref x0), some (.int x1), some (.int x2), some (.int x3), some (.int x4)] [] h Q := by
  refine wp_loc rfl rfl ?_
  refine wp_iconst (v := 4) rfl (by decide) ?_
  exact wp_icge (tgt := 123) rfl (by decide) wt wf
theorem b94_70 {n : Nat} {h : q_Hp} {Q : Option Value → q_Hp → Prop} {x0 : Nat} {x1 : Int32} {x2 : Int32} {x3 : Int32} {x4 : Int32} {v0 : Nat} (k0 : q_ok h x0 4) (e0 : qR h x0 3 = v0) {m : Nat} {P : Int32 → q_Hp → Prop} (hc : q_mI m 95 [.ref x0, .int x3] h P) (hm : m ≤ n) (w : ∀ (z : Int32) (h1 : q_Hp), P z h1 → q_wp (n + 1) 94 80 [some (.ref x0), some (.int x1), some (.int x2), some (.int x3), some (.int x4)] [.int z, .int x3, .ref v0] h1 Q) : q_wp (n + 1) 94 70 [some (.ref x0), some (.int x1), some (.int x2), some (.int x3), some (.int x4)] [] h Q := by
  refine wp_loc rfl rfl ?_
  refine wp_getR rfl rfl rfl rfl k0 e0 ?_
  refine wp_loc rfl rfl ?_
  refine wp_loc rfl rfl ?_
  refine wp_loc rfl rfl ?_
  exact wp_callI (av := [.ref x0, .int x3]) rfl rfl rfl (by decide) rfl rfl rfl hm hc w
theorem b94_80 {n : Nat} {h : q_Hp} {Q : Option Value → q_Hp → Prop} {x0 : Nat} {x1 : Int32} {x2 : Int32} {x3 : Int32} {x4 : Int32} {s0 : Int32} {s1 : Int32} {s2 : Nat} {v0 : Nat} (k0 : q_ok h s2 20) (i0 : q_in s1 (qK h s2).2) (k1 : q_ok h x0 4) (e0 : qR h x0 3 = v0) (k2 : q_ok h v0 20) (i1 : q_in x3 (qK h v0).2) (wt : ¬ (qA (q_sA h s2 s1.toNatClampNeg s0) v0 x3.toNatClampNeg) = (-1) → q_wp n 94 97 [some (.ref x0), some (.int x1), some (.int x2), some (.int x3), some (.int x4)] [] (q_sA h s2 s1.toNatClampNeg s0) Q) (wf : (qA (q_sA h s2 s1.toNatClampNeg s0) v0 x3.toNatClampNeg) = (-1) → q_wp n 94 91 [some (.ref x0), some (.int x1), some (.int x2), some (.int x3), some (.int x4)] [] (q_sA h s2 s1.toNatClampNeg s0) Q) : q_wp n 94 80 [some (.ref x0), some (.int x1), some (.int x2), some (.int x3), some (.int x4)] [.int s0, .int s1, .ref s2] h Q := by
  refine wp_iast rfl k0 i0 ?_
  refine wp_loc rfl rfl ?_
  refine wp_getR rfl rfl rfl rfl k1 e0 ?_
  refine wp_loc rfl rfl ?_
  refine wp_iald rfl k2 i1 ?_
  refine wp_iconst (v := (-1)) rfl (by decide) ?_
  exact wp_icne (tgt := 97) rfl (by decide) wt wf
theorem b94_91 {n : Nat} {h : q_Hp} {Q : Option Value → q_Hp → Prop} {x0 : Nat} {x1 : Int32} {x2 : Int32} {x3 : Int32} {x4 : Int32} (w : q_wp n 94 117 [some (.ref x0), some (.int x1), some (.int x2), some (.int (x3 + (-1))), some (.int x4)] [] h Q) : q_wp n 94 91 [some (.ref x0), some (.int x1), some (.int x2), some (.int x3), some (.int x4)] [] h Q := by
  refine wp_iinc (v := (-1)) rfl rfl (by decide) rfl ?_
  refine wp_goto (tgt := 117) rfl (by decide) ?_
  exact w
theorem b94_97 {n : Nat} {h : q_Hp} {Q : Option Value → q_Hp → Prop} {x0 : Nat} {x1 : Int32} {x2 : Int32} {x3 : Int32} {x4 : Int32} (wt : x2 ≤ x3 → q_wp n 94 108 [some (.ref x0), some (.int x1), some (.int x2), some (.int x3), some (.int x4)] [] h Q) (wf : ¬ x2 ≤ x3 → q_wp n 94 102 [some (.ref x0), some (.int x1), some (.int x2), some (.int x3), some (.int x4)] [] h Q) : q_wp n 94 97 [some (.ref x0), some (.int x1), some (.int x2), some (.int x3), some (.int x4)] [] h Q := by
  refine wp_loc rfl rfl ?_
  refine wp_loc rfl rfl ?_
  exact wp_icge (tgt := 108) rfl (by decide) wt wf
theorem b94_102 {n : Nat} {h : q_Hp} {Q : Option Value → q_Hp → Prop} {x0 : Nat} {x1 : Int32} {x2 : Int32} {x3 : Int32} {x4 : Int32} (w : q_wp n 94 117 [some (.ref x0), some (.int x1), some (.int x2), some (.int (x3 + 1)), some (.int x4)] [] h Q) : q_wp n 94 102 [some (.ref x0), some (.int x1), some (.int x2), some (.int x3), some (.int x4)] [] h Q := by
  refine wp_iinc (v := 1) rfl rfl (by decide) rfl ?_
  refine wp_goto (tgt := 117) rfl (by decide) ?_
  exact w
theorem b94_108 {n : Nat} {h : q_Hp} {Q : Option Value → q_Hp → Prop} {x0 : Nat} {x1 : Int32} {x2 : Int32} {x3 : Int32} {x4 : Int32} {m : Nat} {P : Int32 → q_Hp → Prop} (hc : q_mI m 99 [.ref x0] h P) (hm : m ≤ n) (w : ∀ (z : Int32) (h1 : q_Hp), P z h1 → q_wp (n + 1) 94 112 [some (.ref x0), some (.int x1), some (.int x2), some (.int x3), some (.int x4)] [.int z] h1 Q) : q_wp (n + 1) 94 108 [some (.ref x0), some (.int x1), some (.int x2), some (.int x3), some (.int x4)] [] h Q := by
  refine wp_loc rfl rfl ?_
  exact wp_callI (av := [.ref x0]) rfl rfl rfl (by decide) rfl rfl rfl hm hc w
theorem b94_112 {n : Nat} {h : q_Hp} {Q : Option Value → q_Hp → Prop} {x0 : Nat} {x1 : Int32} {x2 : Int32} {x3 : Int32} {x4 : Int32} {s0 : Int32} (wt : s0 = 0 → q_wp n 94 117 [some (.ref x0), some (.int x1), some (.int x2), some (.int x3), some (.int x4)] [] h Q) (wf : ¬ s0 = 0 → q_wp n 94 115 [some (.ref x0), some (.int x1), some (.int x2), some (.int x3), some (.int x4)] [] h Q) : q_wp n 94 112 [some (.ref x0), some (.int x1), some (.int x2), some (.int x3), some (.int x4)] [.int s0] h Q := by
  exact wp_ifeq (tgt := 117) rfl (by decide) wt wf
theorem b94_115 {n : Nat} {h : q_Hp} {Q : Option Value → q_Hp → Prop} {x0 : Nat} {x1 : Int32} {x2 : Int32} {x3 : Int32} {x4 : Int32} (q : Q (some (.int 1)) h) : q_wp n 94 115 [some (.ref x0), some (.int x1), some (.int x2), some (.int x3), some (.int x4)] [] h Q := by
  refine wp_iconst (v := 1) rfl (by decide) ?_
  exact wp_ret (r := some (.int 1)) rfl rfl q
theorem b94_117 {n : Nat} {h : q_Hp} {Q : Option Value → q_Hp → Prop} {x0 : Nat} {x1 : Int32} {x2 : Int32} {x3 : Int32} {x4 : Int32} (w : q_wp n 94 54 [some (.ref x0), some (.int x1), some (.int x2), some (.int x3), some (.int (x4 + 1))] [] h Q) : q_wp n 94 117 [some (.ref x0), some (.int x1), some (.int x2), some (.int x3), some (.int x4)] [] h Q := by
  refine wp_iinc (v := 1) rfl rfl (by decide) rfl ?_
  refine wp_goto (tgt := 54) rfl (by decide) ?_
  exact w
theorem b94_123 {n : Nat} {h : q_Hp} {Q : Option Value → q_Hp → Prop} {x0 : Nat} {x1 : Int32} {x2 : Int32} {x3 : Int32} {x4 : Int32} (q : Q (some (.int 0)) h) : q_wp n 94 123 [some (.ref x0), some (.int x1), some (.int x2), some (.int x3), some (.int x4)] [] h Q := by
  refine wp_iconst (v := 0) rfl (by decide) ?_
  exact wp_ret (r := some (.int 0)) rfl rfl q
theorem b95_0 {n : Nat} {h : q_Hp} {Q : Option Value → q_Hp → Prop} {x0 : Nat} {x1 : Int32} {v0 : Nat} (k0 : q_ok h x0 4) (e0 : qR h x0 3 = v0) {m : Nat} {P : Int32 → q_Hp → Prop} (hc : q_mI m 232 [.ref v0, .int x1] h P) (hm : m ≤ n) (w : ∀ (z : Int32) (h1 : q_Hp), P z h1 → q_wp (n + 1) 95 8 [some (.ref x0), some (.int x1), none] [.int z] h1 Q) : q_wp (n + 1) 95 0 [some (.ref x0), some (.int x1), none] [] h Q := by
  refine wp_loc rfl rfl ?_
  refine wp_getR rfl rfl rfl rfl k0 e0 ?_
  refine wp_loc rfl rfl ?_
  exact wp_callI (av := [.ref v0, .int x1]) rfl rfl rfl (by decide) rfl rfl rfl hm hc w
theorem b95_8 {n : Nat} {h : q_Hp} {Q : Option Value → q_Hp → Prop} {x0 : Nat} {x1 : Int32} {s0 : Int32} (w : q_wp n 95 11 [some (.ref x0), some (.int x1), some (.int (s0 + 1))] [] h Q) : q_wp n 95 8 [some (.ref x0), some (.int x1), none] [.int s0] h Q := by
  refine wp_iconst (v := 1) rfl (by decide) ?_
  refine wp_stk rfl rfl rfl ?_
  refine wp_loc rfl rfl ?_
  exact w
theorem b95_11 {n : Nat} {h : q_Hp} {Q : Option Value → q_Hp → Prop} {x0 : Nat} {x1 : Int32} {x2 : Int32} (wt : 12 ≤ x2 → q_wp n 95 34 [some (.ref x0), some (.int x1), some (.int x2)] [] h Q) (wf : ¬ 12 ≤ x2 → q_wp n 95 17 [some (.ref x0), some (.int x1), some (.int x2)] [] h Q) : q_wp n 95 11 [some (.ref x0), some (.int x1), some (.int x2)] [] h Q := by
  refine wp_loc rfl rfl ?_
  refine wp_bipush (v := 12) rfl (by decide) ?_
  exact wp_icge (tgt := 34) rfl (by decide) wt wf
theorem b95_17 {n : Nat} {h : q_Hp} {Q : Option Value → q_Hp → Prop} {x0 : Nat} {x1 : Int32} {x2 : Int32} {m : Nat} {P : Int32 → q_Hp → Prop} (hc : q_mI m 96 [.ref x0, .int x1, .int x2] h P) (hm : m ≤ n) (w : ∀ (z : Int32) (h1 : q_Hp), P z h1 → q_wp (n + 1) 95 23 [some (.ref x0), some (.int x1), some (.int x2)] [.int z] h1 Q) : q_wp (n + 1) 95 17 [some (.ref x0), some (.int x1), some (.int x2)] [] h Q := by
  refine wp_loc rfl rfl ?_
  refine wp_loc rfl rfl ?_
  refine wp_loc rfl rfl ?_
  exact wp_callI (av := [.ref x0, .int x1, .int x2]) rfl rfl rfl (by decide) rfl rfl rfl hm hc w
theorem b95_23 {n : Nat} {h : q_Hp} {Q : Option Value → q_Hp → Prop} {x0 : Nat} {x1 : Int32} {x2 : Int32} {s0 : Int32} (wt : s0 = 0 → q_wp n 95 28 [some (.ref x0), some (.int x1), some (.int x2)] [] h Q) (wf : ¬ s0 = 0 → q_wp n 95 26 [some (.ref x0), some (.int x1), some (.int x2)] [] h Q) : q_wp n 95 23 [some (.ref x0), some (.int x1), some (.int x2)] [.int s0] h Q := by
  exact wp_ifeq (tgt := 28) rfl (by decide) wt wf
theorem b95_26 {n : Nat} {h : q_Hp} {Q : Option Value → q_Hp → Prop} {x0 : Nat} {x1 : Int32} {x2 : Int32} (q : Q (some (.int x2)) h) : q_wp n 95 26 [some (.ref x0), some (.int x1), some (.int x2)] [] h Q := by
  refine wp_loc rfl rfl ?_
  exact wp_ret rfl rfl q
theorem b95_28 {n : Nat} {h : q_Hp} {Q : Option Value → q_Hp → Prop} {x0 : Nat} {x1 : Int32} {x2 : Int32} (w : q_wp n 95 11 [some (.ref x0), some (.int x1), some (.int (x2 + 1))] [] h Q) : q_wp n 95 28 [some (.ref x0), some (.int x1), some (.int x2)] [] h Q := by
  refine wp_iinc (v := 1) rfl rfl (by decide) rfl ?_
  refine wp_goto (tgt := 11) rfl (by decide) ?_
  exact w
theorem b95_34 {n : Nat} {h : q_Hp} {Q : Option Value → q_Hp → Prop} {x0 : Nat} {x1 : Int32} {x2 : Int32} (q : Q (some (.int (-1))) h) : q_wp n 95 34 [some (.ref x0), some (.int x1), some (.int x2)] [] h Q := by
  refine wp_iconst (v := (-1)) rfl (by decide) ?_
  exact wp_ret rfl rfl q
theorem b96_0 {n : Nat} {h : q_Hp} {Q : Option Value → q_Hp → Prop} {x0 : Nat} {x1 : Int32} {x2 : Int32} {v0 : Nat} (k0 : q_ok h x0 4) (e0 : qR h x0 7 = v0) {m : Nat} {P : Int32 → q_Hp → Prop} (hc : q_mI m 232 [.ref v0, .int x1] h P) (hm : m ≤ n) (w : ∀ (z : Int32) (h1 : q_Hp), P z h1 → q_wp (n + 1) 96 8 [some (.ref x0), some (.int x1), some (.int x2), none, none, none, none, none, none] [.int z] h1 Q) : q_wp (n + 1) 96 0 [some (.ref x0), some (.int x1), some (.int x2), none, none, none, none, none, none] [] h Q := by
  refine wp_loc rfl rfl ?_
  refine wp_getR rfl rfl rfl rfl k0 e0 ?_
  refine wp_loc rfl rfl ?_
  exact wp_callI (av := [.ref v0, .int x1]) rfl rfl rfl (by decide) rfl rfl rfl hm hc w
theorem b96_8 {n : Nat} {h : q_Hp} {Q : Option Value → q_Hp → Prop} {x0 : Nat} {x1 : Int32} {x2 : Int32} {s0 : Int32} (wt : ¬ ((s0 >>> (x2 &&& 31)) &&& 1) = 0 → q_wp n 96 17 [some (.ref x0), some (.int x1), some (.int x2), none, none, none, none, none, none] [] h Q) (wf : ((s0 >>> (x2 &&& 31)) &&& 1) = 0 → q_wp n 96 15 [some (.ref x0), some (.int x1), some (.int x2), none, none, none, none, none, none] [] h Q) : q_wp n 96 8 [some (.ref x0), some (.int x1), some (.int x2), none, none, none, none, none, none] [.int s0] h Q := by
  refine wp_loc rfl rfl ?_
  refine wp_stk rfl rfl rfl ?_
  refine wp_iconst (v := 1) rfl (by decide) ?_
  refine wp_stk rfl rfl rfl ?_
  exact wp_ifne (tgt := 17) rfl (by decide) wt wf
theorem b96_15 {n : Nat} {h : q_Hp} {Q : Option Value → q_Hp → Prop} {x0 : Nat} {x1 : Int32} {x2 : Int32} (q : Q (some (.int 0)) h) : q_wp n 96 15 [some (.ref x0), some (.int x1), some (.int x2), none, none, none, none, none, none] [] h Q := by
  refine wp_iconst (v := 0) rfl (by decide) ?_
  exact wp_ret (r := some (.int 0)) rfl rfl q
theorem b96_17 {n : Nat} {h : q_Hp} {Q : Option Value → q_Hp → Prop} {x0 : Nat} {x1 : Int32} {x2 : Int32} (w : q_wp n 96 19 [some (.ref x0), some (.int x1), some (.int x2), some (.int 0), none, none, none, none, none] [] h Q) : q_wp n 96 17 [some (.ref x0), some (.int x1), some (.int x2), none, none, none, none, none, none] [] h Q := by
  refine wp_iconst (v := 0) rfl (by decide) ?_
  refine wp_loc rfl rfl ?_
  exact w
theorem b96_19 {n : Nat} {h : q_Hp} {Q : Option Value → q_Hp → Prop} {x0 : Nat} {x1 : Int32} {x2 : Int32} {x3 : Int32} (wt : x1 ≤ x3 → q_wp n 96 56 [some (.ref x0), some (.int x1), some (.int x2), some (.int x3), none, none, none, none, none] [] h Q) (wf : ¬ x1 ≤ x3 → q_wp n 96 24 [some (.ref x0), some (.int x1), some (.int x2), some (.int x3), none, none, none, none, none] [] h Q) : q_wp n 96 19 [some (.ref x0), some (.int x1), some (.int x2), some (.int x3), none, none, none, none, none] [] h Q := by
  refine wp_loc rfl rfl ?_
  refine wp_loc rfl rfl ?_
  exact wp_icge (tgt := 56) rfl (by decide) wt wf
theorem b96_24 {n : Nat} {h : q_Hp} {Q : Option Value → q_Hp → Prop} {x0 : Nat} {x1 : Int32} {x2 : Int32} {x3 : Int32} (wt : 4 ≤ x3 → q_wp n 96 56 [some (.ref x0), some (.int x1), some (.int x2), some (.int x3), none, none, none, none, none] [] h Q) (wf : ¬ 4 ≤ x3 → q_wp n 96 29 [some (.ref x0), some (.int x1), some (.int x2), some (.int x3), none, none, none, none, none] [] h Q) : q_wp n 96 24 [some (.ref x0), some (.int x1), some (.int x2), some (.int x3), none, none, none, none, none] [] h Q := by
  refine wp_loc rfl rfl ?_
  refine wp_iconst (v := 4) rfl (by decide) ?_
  exact wp_icge (tgt := 56) rfl (by decide) wt wf
theorem b96_29 {n : Nat} {h : q_Hp} {Q : Option Value → q_Hp → Prop} {x0 : Nat} {x1 : Int32} {x2 : Int32} {x3 : Int32} {v0 : Nat} (k0 : q_ok h x0 4) (e0 : qR h x0 3 = v0) (k1 : q_ok h v0 20) (i0 : q_in x3 (qK h v0).2) (wt : ¬ (qA h v0 x3.toNatClampNeg) = x2 → q_wp n 96 50 [some (.ref x0), some (.int x1), some (.int x2), some (.int x3), none, none, none, none, none] [] h Q) (wf : (qA h v0 x3.toNatClampNeg) = x2 → q_wp n 96 39 [some (.ref x0), some (.int x1), some (.int x2), some (.int x3), none, none, none, none, none] [] h Q) : q_wp n 96 29 [some (.ref x0), some (.int x1), some (.int x2), some (.int x3), none, none, none, none, none] [] h Q := by
  refine wp_loc rfl rfl ?_
  refine wp_getR rfl rfl rfl rfl k0 e0 ?_
  refine wp_loc rfl rfl ?_
  refine wp_iald rfl k1 i0 ?_
  refine wp_loc rfl rfl ?_
  exact wp_icne (tgt := 50) rfl (by decide) wt wf
theorem b96_39 {n : Nat} {h : q_Hp} {Q : Option Value → q_Hp → Prop} {x0 : Nat} {x1 : Int32} {x2 : Int32} {x3 : Int32} {m : Nat} {P : Int32 → q_Hp → Prop} (hc : q_mI m 97 [.ref x0, .int x3, .int x1] h P) (hm : m ≤ n) (w : ∀ (z : Int32) (h1 : q_Hp), P z h1 → q_wp (n + 1) 96 45 [some (.ref x0), some (.int x1), some (.int x2), some (.int x3), none, none, none, none, none] [.int z] h1 Q) : q_wp (n + 1) 96 39 [some (.ref x0), some (.int x1), some (.int x2), some (.int x3), none, none, none, none, none] [] h Q := by
  refine wp_loc rfl rfl ?_
  refine wp_loc rfl rfl ?_
  refine wp_loc rfl rfl ?_
  exact wp_callI (av := [.ref x0, .int x3, .int x1]) rfl rfl rfl (by decide) rfl rfl rfl hm hc w
theorem b96_45 {n : Nat} {h : q_Hp} {Q : Option Value → q_Hp → Prop} {x0 : Nat} {x1 : Int32} {x2 : Int32} {x3 : Int32} {s0 : Int32} (wt : ¬ s0 = 0 → q_wp n 96 50 [some (.ref x0), some (.int x1), some (.int x2), some (.int x3), none, none, none, none, none] [] h Q) (wf : s0 = 0 → q_wp n 96 48 [some (.ref x0), some (.int x1), some (.int x2), some (.int x3), none, none, none, none, none] [] h Q) : q_wp n 96 45 [some (.ref x0), some (.int x1), some (.int x2), some (.int x3), none, none, none, none, none] [.int s0] h Q := by
  exact wp_ifne (tgt := 50) rfl (by decide) wt wf
theorem b96_48 {n : Nat} {h : q_Hp} {Q : Option Value → q_Hp → Prop} {x0 : Nat} {x1 : Int32} {x2 : Int32} {x3 : Int32} (q : Q (some (.int 0)) h) : q_wp n 96 48 [some (.ref x0), some (.int x1), some (.int x2), some (.int x3), none, none, none, none, none] [] h Q := by
  refine wp_iconst (v := 0) rfl (by decide) ?_
  exact wp_ret (r := some (.int 0)) rfl rfl q
theorem b96_50 {n : Nat} {h : q_Hp} {Q : Option Value → q_Hp → Prop} {x0 : Nat} {x1 : Int32} {x2 : Int32} {x3 : Int32} (w : q_wp n 96 19 [some (.ref x0), some (.int x1), some (.int x2), some (.int (x3 + 1)), none, none, none, none, none] [] h Q) : q_wp n 96 50 [some (.ref x0), some (.int x1), some (.int x2), some (.int x3), none, none, none, none, none] [] h Q := by
  refine wp_iinc (v := 1) rfl rfl (by decide) rfl ?_
  refine wp_goto (tgt := 19) rfl (by decide) ?_
  exact w
theorem b96_56 {n : Nat} {h : q_Hp} {Q : Option Value → q_Hp → Prop} {x0 : Nat} {x1 : Int32} {x2 : Int32} {x3 : Int32} (w : q_wp n 96 58 [some (.ref x0), some (.int x1), some (.int x2), some (.int 0), none, none, none, none, none] [] h Q) : q_wp n 96 56 [some (.ref x0), some (.int x1), some (.int x2), some (.int x3), none, none, none, none, none] [] h Q := by
  refine wp_iconst (v := 0) rfl (by decide) ?_
  refine wp_loc rfl rfl ?_
  exact w
theorem b96_58 {n : Nat} {h : q_Hp} {Q : Option Value → q_Hp → Prop} {x0 : Nat} {x1 : Int32} {x2 : Int32} {x3 : Int32} {l4 : Option Value} {l5 : Option Value} {l6 : Option Value} {l7 : Option Value} {l8 : Option Value} {v0 : Nat} (k0 : q_ok h x0 4) (e0 : qR h x0 2 = v0) (k1 : q_ok h v0 6) (wt : (qI h v0 1) ≤ x3 → q_wp n 96 192 [some (.ref x0), some (.int x1), some (.int x2), some (.int x3), l4, l5, l6, l7, l8] [] h Q) (wf : ¬ (qI h v0 1) ≤ x3 → q_wp n 96 69 [some (.ref x0), some (.int x1), some (.int x2), some (.int x3), l4, l5, l6, l7, l8] [] h Q) : q_wp n 96 58 [some (.ref x0), some (.int x1), some (.int x2), some (.int x3), l4, l5, l6, l7, l8] [] h Q := by
  refine wp_loc rfl rfl ?_
  refine wp_loc rfl rfl ?_
  refine wp_getR rfl rfl rfl rfl k0 e0 ?_
  refine wp_getI rfl rfl rfl k1 ?_
  exact wp_icge (tgt := 192) rfl (by decide) wt wf
theorem b96_69 {n : Nat} {h : q_Hp} {Q : Option Value → q_Hp → Prop} {x0 : Nat} {x1 : Int32} {x2 : Int32} {x3 : Int32} {l4 : Option Value} {l5 : Option Value} {l6 : Option Value} {l7 : Option Value} {l8 : Option Value} (wt : 6 ≤ x3 → q_wp n 96 192 [some (.ref x0), some (.int x1), some (.int x2), some (.int x3), l4, l5, l6, l7, l8] [] h Q) (wf : ¬ 6 ≤ x3 → q_wp n 96 75 [some (.ref x0), some (.int x1), some (.int x2), some (.int x3), l4, l5, l6, l7, l8] [] h Q) : q_wp n 96 69 [some (.ref x0), some (.int x1), some (.int x2), some (.int x3), l4, l5, l6, l7, l8] [] h Q := by
  refine wp_loc rfl rfl ?_
  refine wp_bipush (v := 6) rfl (by decide) ?_
  exact wp_icge (tgt := 192) rfl (by decide) wt wf
theorem b96_75 {n : Nat} {h : q_Hp} {Q : Option Value → q_Hp → Prop} {x0 : Nat} {x1 : Int32} {x2 : Int32} {x3 : Int32} {l4 : Option Value} {l5 : Option Value} {l6 : Option Value} {l7 : Option Value} {l8 : Option Value} {v0 : Nat} {v1 : Nat} {v2 : Nat} (k0 : q_ok h x0 4) (e0 : qR h x0 2 = v0) (k1 : q_ok h v0 6) (e1 : qR h v0 11 = v1) (k2 : q_ok h v1 20) (i0 : q_in x3 (qK h v1).2) (e2 : qR h v0 12 = v2) (k3 : q_ok h v2 20) (i1 : q_in x3 (qK h v2).2) {m : Nat} {P : Int32 → q_Hp → Prop} (hc : q_mI m 349 [.int (qA h v1 x3.toNatClampNeg), .int (qA h v2 x3.toNatClampNeg)] h P) (hm : m ≤ n) (w : ∀ (z : Int32) (h1 : q_Hp), P z h1 → q_wp (n + 1) 96 104 [some (.ref x0), some (.int x1), some (.int x2), some (.int x3), some (.int (qA h v1 x3.toNatClampNeg)), some (.int (qA h v2 x3.toNatClampNeg)), l6, l7, l8] [.int z] h1 Q) : q_wp (n + 1) 96 75 [some (.ref x0), some (.int x1), some (.int x2), some (.int x3), l4, l5, l6, l7, l8] [] h Q := by
  refine wp_loc rfl rfl ?_
  refine wp_getR rfl rfl rfl rfl k0 e0 ?_
  refine wp_getR rfl rfl rfl rfl k1 e1 ?_
  refine wp_loc rfl rfl ?_
  refine wp_iald rfl k2 i0 ?_
  refine wp_loc rfl rfl ?_
  refine wp_loc rfl rfl ?_
  refine wp_getR rfl rfl rfl rfl k0 e0 ?_
  refine wp_getR rfl rfl rfl rfl k1 e2 ?_
  refine wp_loc rfl rfl ?_
  refine wp_iald rfl k3 i1 ?_
  refine wp_loc rfl rfl ?_
  refine wp_loc rfl rfl ?_
  refine wp_loc rfl rfl ?_
  exact wp_callI (av := [.int (qA h v1 x3.toNatClampNeg), .int (qA h v2 x3.toNatClampNeg)]) rfl rfl rfl (by decide) rfl rfl rfl hm hc w
theorem b96_104 {n : Nat} {h : q_Hp} {Q : Option Value → q_Hp → Prop} {x0 : Nat} {x1 : Int32} {x2 : Int32} {x3 : Int32} {x4 : Int32} {x5 : Int32} {l6 : Option Value} {l7 : Option Value} {l8 : Option Value} {s0 : Int32} (wt : ¬ s0 = x1 → q_wp n 96 186 [some (.ref x0), some (.int x1), some (.int x2), some (.int x3), some (.int x4), some (.int x5), l6, l7, l8] [] h Q) (wf : s0 = x1 → q_wp n 96 108 [some (.ref x0), some (.int x1), some (.int x2), some (.int x3), some (.int x4), some (.int x5), l6, l7, l8] [] h Q) : q_wp n 96 104 [some (.ref x0), some (.int x1), some (.int x2), some (.int x3), some (.int x4), some (.int x5), l6, l7, l8] [.int s0] h Q := by
  refine wp_loc rfl rfl ?_
  exact wp_icne (tgt := 186) rfl (by decide) wt wf
theorem b96_108 {n : Nat} {h : q_Hp} {Q : Option Value → q_Hp → Prop} {x0 : Nat} {x1 : Int32} {x2 : Int32} {x3 : Int32} {x4 : Int32} {x5 : Int32} {l6 : Option Value} {l7 : Option Value} {l8 : Option Value} (wt : ¬ x4 = x1 → q_wp n 96 118 [some (.ref x0), some (.int x1), some (.int x2), some (.int x3), some (.int x4), some (.int x5), l6, l7, l8] [] h Q) (wf : x4 = x1 → q_wp n 96 114 [some (.ref x0), some (.int x1), some (.int x2), some (.int x3), some (.int x4), some (.int x5), l6, l7, l8] [] h Q) : q_wp n 96 108 [some (.ref x0), some (.int x1), some (.int x2), some (.int x3), some (.int x4), some (.int x5), l6, l7, l8] [] h Q := by
  refine wp_loc rfl rfl ?_
  refine wp_loc rfl rfl ?_
  exact wp_icne (tgt := 118) rfl (by decide) wt wf
theorem b96_114 {n : Nat} {h : q_Hp} {Q : Option Value → q_Hp → Prop} {x0 : Nat} {x1 : Int32} {x2 : Int32} {x3 : Int32} {x4 : Int32} {x5 : Int32} {l6 : Option Value} {l7 : Option Value} {l8 : Option Value} (w : q_wp n 96 127 [some (.ref x0), some (.int x1), some (.int x2), some (.int x3), some (.int x4), some (.int x5), l6, l7, l8] [.int x2] h Q) : q_wp n 96 114 [some (.ref x0), some (.int x1), some (.int x2), some (.int x3), some (.int x4), some (.int x5), l6, l7, l8] [] h Q := by
  refine wp_loc rfl rfl ?_
  refine wp_goto (tgt := 127) rfl (by decide) ?_
  exact w
theorem b96_118 {n : Nat} {h : q_Hp} {Q : Option Value → q_Hp → Prop} {x0 : Nat} {x1 : Int32} {x2 : Int32} {x3 : Int32} {x4 : Int32} {x5 : Int32} {l6 : Option Value} {l7 : Option Value} {l8 : Option Value} {v0 : Nat} (k0 : q_ok h x0 4) (e0 : qR h x0 3 = v0) {m : Nat} {P : Int32 → q_Hp → Prop} (hc : q_mI m 232 [.ref v0, .int x4] h P) (hm : m ≤ n) (w : ∀ (z : Int32) (h1 : q_Hp), P z h1 → q_wp (n + 1) 96 127 [some (.ref x0), some (.int x1), some (.int x2), some (.int x3), some (.int x4), some (.int x5), l6, l7, l8] [.int z] h1 Q) : q_wp (n + 1) 96 118 [some (.ref x0), some (.int x1), some (.int x2), some (.int x3), some (.int x4), some (.int x5), l6, l7, l8] [] h Q := by
  refine wp_loc rfl rfl ?_
  refine wp_getR rfl rfl rfl rfl k0 e0 ?_
  refine wp_loc rfl rfl ?_
  exact wp_callI (av := [.ref v0, .int x4]) rfl rfl rfl (by decide) rfl rfl rfl hm hc w
theorem b96_127 {n : Nat} {h : q_Hp} {Q : Option Value → q_Hp → Prop} {x0 : Nat} {x1 : Int32} {x2 : Int32} {x3 : Int32} {x4 : Int32} {x5 : Int32} {l6 : Option Value} {l7 : Option Value} {l8 : Option Value} {s0 : Int32} (wt : ¬ x5 = x1 → q_wp n 96 139 [some (.ref x0), some (.int x1), some (.int x2), some (.int x3), some (.int x4), some (.int x5), some (.int s0), l7, l8] [] h Q) (wf : x5 = x1 → q_wp n 96 135 [some (.ref x0), some (.int x1), some (.int x2), some (.int x3), some (.int x4), some (.int x5), some (.int s0), l7, l8] [] h Q) : q_wp n 96 127 [some (.ref x0), some (.int x1), some (.int x2), some (.int x3), some (.int x4), some (.int x5), l6, l7, l8] [.int s0] h Q := by
  refine wp_loc rfl rfl ?_
  refine wp_loc rfl rfl ?_
  refine wp_loc rfl rfl ?_
  exact wp_icne (tgt := 139) rfl (by decide) wt wf
theorem b96_135 {n : Nat} {h : q_Hp} {Q : Option Value → q_Hp → Prop} {x0 : Nat} {x1 : Int32} {x2 : Int32} {x3 : Int32} {x4 : Int32} {x5 : Int32} {x6 : Int32} {l7 : Option Value} {l8 : Option Value} (w : q_wp n 96 148 [some (.ref x0), some (.int x1), some (.int x2), some (.int x3), some (.int x4), some (.int x5), some (.int x6), l7, l8] [.int x2] h Q) : q_wp n 96 135 [some (.ref x0), some (.int x1), some (.int x2), some (.int x3), some (.int x4), some (.int x5), some (.int x6), l7, l8] [] h Q := by
  refine wp_loc rfl rfl ?_
  refine wp_goto (tgt := 148) rfl (by decide) ?_
  exact w
theorem b96_139 {n : Nat} {h : q_Hp} {Q : Option Value → q_Hp → Prop} {x0 : Nat} {x1 : Int32} {x2 : Int32} {x3 : Int32} {x4 : Int32} {x5 : Int32} {x6 : Int32} {l7 : Option Value} {l8 : Option Value} {v0 : Nat} (k0 : q_ok h x0 4) (e0 : qR h x0 3 = v0) {m : Nat} {P : Int32 → q_Hp → Prop} (hc : q_mI m 232 [.ref v0, .int x5] h P) (hm : m ≤ n) (w : ∀ (z : Int32) (h1 : q_Hp), P z h1 → q_wp (n + 1) 96 148 [some (.ref x0), some (.int x1), some (.int x2), some (.int x3), some (.int x4), some (.int x5), some (.int x6), l7, l8] [.int z] h1 Q) : q_wp (n + 1) 96 139 [some (.ref x0), some (.int x1), some (.int x2), some (.int x3), some (.int x4), some (.int x5), some (.int x6), l7, l8] [] h Q := by
  refine wp_loc rfl rfl ?_
  refine wp_getR rfl rfl rfl rfl k0 e0 ?_
  refine wp_loc rfl rfl ?_
  exact wp_callI (av := [.ref v0, .int x5]) rfl rfl rfl (by decide) rfl rfl rfl hm hc w
theorem b96_148 {n : Nat} {h : q_Hp} {Q : Option Value → q_Hp → Prop} {x0 : Nat} {x1 : Int32} {x2 : Int32} {x3 : Int32} {x4 : Int32} {x5 : Int32} {x6 : Int32} {l7 : Option Value} {l8 : Option Value} {s0 : Int32} {v0 : Nat} {v1 : Nat} {v2 : Nat} (k0 : q_ok h x0 4) (e0 : qR h x0 9 = v0) (e1 : qR h x0 2 = v1) (k1 : q_ok h v1 6) (e2 : qR h v1 10 = v2) (k2 : q_ok h v2 20) (i0 : q_in x3 (qK h v2).2) {m : Nat} {P : Int32 → q_Hp → Prop} (hc : q_mI m 232 [.ref v0, .int (((qA h v2 x3.toNatClampNeg) * 12) + x6)] h P) (hm : m ≤ n) (w : ∀ (z : Int32) (h1 : q_Hp), P z h1 → q_wp (n + 1) 96 172 [some (.ref x0), some (.int x1), some (.int x2), some (.int x3), some (.int x4), some (.int x5), some (.int x6), some (.int s0), l8] [.int z] h1 Q) : q_wp (n + 1) 96 148 [some (.ref x0), some (.int x1), some (.int x2), some (.int x3), some (.int x4), some (.int x5), some (.int x6), l7, l8] [.int s0] h Q := by
  refine wp_loc rfl rfl ?_
  refine wp_loc rfl rfl ?_
  refine wp_getR rfl rfl rfl rfl k0 e0 ?_
  refine wp_loc rfl rfl ?_
  refine wp_getR rfl rfl rfl rfl k0 e1 ?_
  refine wp_getR rfl rfl rfl rfl k1 e2 ?_
  refine wp_loc rfl rfl ?_
  refine wp_iald rfl k2 i0 ?_
  refine wp_bipush (v := 12) rfl (by decide) ?_
  refine wp_stk rfl rfl rfl ?_
  refine wp_loc rfl rfl ?_
  refine wp_stk rfl rfl rfl ?_
  exact wp_callI (av := [.ref v0, .int (((qA h v2 x3.toNatClampNeg) * 12) + x6)]) rfl rfl rfl (by decide) rfl rfl rfl hm hc w
theorem b96_172 {n : Nat} {h : q_Hp} {Q : Option Value → q_Hp → Prop} {x0 : Nat} {x1 : Int32} {x2 : Int32} {x3 : Int32} {x4 : Int32} {x5 : Int32} {x6 : Int32} {x7 : Int32} {l8 : Option Value} {s0 : Int32} (wt : ¬ ((s0 >>> (x7 &&& 31)) &&& 1) = 0 → q_wp n 96 186 [some (.ref x0), some (.int x1), some (.int x2), some (.int x3), some (.int x4), some (.int x5), some (.int x6), some (.int x7), some (.int s0)] [] h Q) (wf : ((s0 >>> (x7 &&& 31)) &&& 1) = 0 → q_wp n 96 184 [some (.ref x0), some (.int x1), some (.int x2), some (.int x3), some (.int x4), some (.int x5), some (.int x6), some (.int x7), some (.int s0)] [] h Q) : q_wp n 96 172 [some (.ref x0), some (.int x1), some (.int x2), some (.int x3), some (.int x4), some (.int x5), some (.int x6), some (.int x7), l8] [.int s0] h Q := by
  refine wp_loc rfl rfl ?_
  refine wp_loc rfl rfl ?_
  refine wp_loc rfl rfl ?_
  refine wp_stk rfl rfl rfl ?_
  refine wp_iconst (v := 1) rfl (by decide) ?_
  refine wp_stk rfl rfl rfl ?_
  exact wp_ifne (tgt := 186) rfl (by decide) wt wf
theorem b96_184 {n : Nat} {h : q_Hp} {Q : Option Value → q_Hp → Prop} {x0 : Nat} {x1 : Int32} {x2 : Int32} {x3 : Int32} {x4 : Int32} {x5 : Int32} {x6 : Int32} {x7 : Int32} {x8 : Int32} (q : Q (some (.int 0)) h) : q_wp n 96 184 [some (.ref x0), some (.int x1), some (.int x2), some (.int x3), some (.int x4), some (.int x5), some (.int x6), some (.int x7), some (.int x8)] [] h Q := by
  refine wp_iconst (v := 0) rfl (by decide) ?_
  exact wp_ret (r := some (.int 0)) rfl rfl q
theorem b96_186 {n : Nat} {h : q_Hp} {Q : Option Value → q_Hp → Prop} {x0 : Nat} {x1 : Int32} {x2 : Int32} {x3 : Int32} {x4 : Int32} {x5 : Int32} {l6 : Option Value} {l7 : Option Value} {l8 : Option Value} (w : q_wp n 96 58 [some (.ref x0), some (.int x1), some (.int x2), some (.int (x3 + 1)), some (.int x4), some (.int x5), l6, l7, l8] [] h Q) : q_wp n 96 186 [some (.ref x0), some (.int x1), some (.int x2), some (.int x3), some (.int x4), some (.int x5), l6, l7, l8] [] h Q := by
  refine wp_iinc (v := 1) rfl rfl (by decide) rfl ?_
  refine wp_goto (tgt := 58) rfl (by decide) ?_
  exact w
theorem b96_192 {n : Nat} {h : q_Hp} {Q : Option Value → q_Hp → Prop} {x0 : Nat} {x1 : Int32} {x2 : Int32} {x3 : Int32} {l4 : Option Value} {l5 : Option Value} {l6 : Option Value} {l7 : Option Value} {l8 : Option Value} (q : Q (some (.int 1)) h) : q_wp n 96 192 [some (.ref x0), some (.int x1), some (.int x2), some (.int x3), l4, l5, l6, l7, l8] [] h Q := by
  refine wp_iconst (v := 1) rfl (by decide) ?_
  exact wp_ret (r := some (.int 1)) rfl rfl q
theorem b97_0 {n : Nat} {h : q_Hp} {Q : Option Value → q_Hp → Prop} {x0 : Nat} {x1 : Int32} {x2 : Int32} {v0 : Nat} (k0 : q_ok h x0 4) (e0 : qR h x0 2 = v0) (k1 : q_ok h v0 6) (wt : (qI h v0 6) = 0 → q_wp n 97 32 [some (.ref x0), some (.int x1), some (.int x2)] [] h Q) (wf : ¬ (qI h v0 6) = 0 → q_wp n 97 10 [some (.ref x0), some (.int x1), some (.int x2)] [] h Q) : q_wp n 97 0 [some (.ref x0), some (.int x1), some (.int x2)] [] h Q := by
  refine wp_loc rfl rfl ?_
  refine wp_getR rfl rfl rfl rfl k0 e0 ?_
  refine wp_getI rfl rfl rfl k1 ?_
  exact wp_ifeq (tgt := 32) rfl (by decide) wt wf
theorem b97_10 {n : Nat} {h : q_Hp} {Q : Option Value → q_Hp → Prop} {x0 : Nat} {x1 : Int32} {x2 : Int32} {v0 : Nat} (k0 : q_ok h x0 4) (e0 : qR h x0 2 = v0) (k1 : q_ok h v0 6) (wt : ¬ ((qI h v0 5) &&& ((1 <<< (x1 &&& 31)) ||| (1 <<< (x2 &&& 31)))) = 0 → q_wp n 97 32 [some (.ref x0), some (.int x1), some (.int x2)] [] h Q) (wf : ((qI h v0 5) &&& ((1 <<< (x1 &&& 31)) ||| (1 <<< (x2 &&& 31)))) = 0 → q_wp n 97 28 [some (.ref x0), some (.int x1), some (.int x2)] [] h Q) : q_wp n 97 10 [some (.ref x0), some (.int x1), some (.int x2)] [] h Q := by
  refine wp_loc rfl rfl ?_
  refine wp_getR rfl rfl rfl rfl k0 e0 ?_
  refine wp_getI rfl rfl rfl k1 ?_
  refine wp_iconst (v := 1) rfl (by decide) ?_
  refine wp_loc rfl rfl ?_
  refine wp_stk rfl rfl rfl ?_
  refine wp_iconst (v := 1) rfl (by decide) ?_
  refine wp_loc rfl rfl ?_
  refine wp_stk rfl rfl rfl ?_
  refine wp_stk rfl rfl rfl ?_
  refine wp_stk rfl rfl rfl ?_
  exact wp_ifne (tgt := 32) rfl (by decide) wt wf
theorem b97_28 {n : Nat} {h : q_Hp} {Q : Option Value → q_Hp → Prop} {x0 : Nat} {x1 : Int32} {x2 : Int32} (q : Q (some (.int 1)) h) : q_wp n 97 28 [some (.ref x0), some (.int x1), some (.int x2)] [] h Q := by
  refine wp_iconst (v := 1) rfl (by decide) ?_
  refine wp_goto (tgt := 33) rfl (by decide) ?_
  exact wp_ret (r := some (.int 1)) rfl rfl q
theorem b97_32 {n : Nat} {h : q_Hp} {Q : Option Value → q_Hp → Prop} {x0 : Nat} {x1 : Int32} {x2 : Int32} (q : Q (some (.int 0)) h) : q_wp n 97 32 [some (.ref x0), some (.int x1), some (.int x2)] [] h Q := by
  refine wp_iconst (v := 0) rfl (by decide) ?_
  exact wp_ret (r := some (.int 0)) rfl rfl q
theorem b98_0 {n : Nat} {h : q_Hp} {Q : Option Value → q_Hp → Prop} {x0 : Nat} {x1 : Nat} {x2 : Int32} {x3 : Nat} {x4 : Int32} {m : Nat} {P : q_Hp → Prop} (hc : q_mV m 91 [.ref x0, .ref x1, .int x2] h P) (hm : m ≤ n) (w : ∀ h1 : q_Hp, P h1 → q_wp (n + 1) 98 6 [some (.ref x0), some (.ref x1), some (.int x2), some (.ref x3), some (.int x4), none, none] [] h1 Q) : q_wp (n + 1) 98 0 [some (.ref x0), some (.ref x1), some (.int x2), some (.ref x3), some (.int x4), none, none] [] h Q := by
  refine wp_loc rfl rfl ?_
  refine wp_loc rfl rfl ?_
  refine wp_loc rfl rfl ?_
  exact wp_callV (av := [.ref x0, .ref x1, .int x2]) rfl rfl rfl (by decide) rfl rfl rfl hm hc w
theorem b98_6 {n : Nat} {h : q_Hp} {Q : Option Value → q_Hp → Prop} {x0 : Nat} {x1 : Nat} {x2 : Int32} {x3 : Nat} {x4 : Int32} (w : q_wp n 98 9 [some (.ref x0), some (.ref x1), some (.int x2), some (.ref x3), some (.int x4), some (.int 0), none] [] h Q) : q_wp n 98 6 [some (.ref x0), some (.ref x1), some (.int x2), some (.ref x3), some (.int x4), none, none] [] h Q := by
  refine wp_iconst (v := 0) rfl (by decide) ?_
  refine wp_loc rfl rfl ?_
  exact w
theorem b98_9 {n : Nat} {h : q_Hp} {Q : Option Value → q_Hp → Prop} {x0 : Nat} {x1 : Nat} {x2 : Int32} {x3 : Nat} {x4 : Int32} {x5 : Int32} {l6 : Option Value} {v0 : Nat} (k0 : q_ok h x0 4) (e0 : qR h x0 2 = v0) (k1 : q_ok h v0 6) (wt : (qI h v0 0) ≤ x5 → q_wp n 98 71 [some (.ref x0), some (.ref x1), some (.int x2), some (.ref x3), some (.int x4), some (.int x5), l6] [] h Q) (wf : ¬ (qI h v0 0) ≤ x5 → q_wp n 98 21 [some (.ref x0), some (.ref x1), some (.int x2), some (.ref x3), some (.int x4), some (.int x5), l6] [] h Q) : q_wp n 98 9 [some (.ref x0), some (.ref x1), some (.int x2), some (.ref x3), some (.int x4), some (.int x5), l6] [] h Q := by
  refine wp_loc rfl rfl ?_
  refine wp_loc rfl rfl ?_
  refine wp_getR rfl rfl rfl rfl k0 e0 ?_
  refine wp_getI rfl rfl rfl k1 ?_
  exact wp_icge (tgt := 71) rfl (by decide) wt wf
theorem b98_21 {n : Nat} {h : q_Hp} {Q : Option Value → q_Hp → Prop} {x0 : Nat} {x1 : Nat} {x2 : Int32} {x3 : Nat} {x4 : Int32} {x5 : Int32} {l6 : Option Value} (wt : 4 ≤ x5 → q_wp n 98 71 [some (.ref x0), some (.ref x1), some (.int x2), some (.ref x3), some (.int x4), some (.int x5), l6] [] h Q) (wf : ¬ 4 ≤ x5 → q_wp n 98 27 [some (.ref x0), some (.ref x1), some (.int x2), some (.ref x3), some (.int x4), some (.int x5), l6] [] h Q) : q_wp n 98 21 [some (.ref x0), some (.ref x1), some (.int x2), some (.ref x3), some (.int x4), some (.int x5), l6] [] h Q := by
  refine wp_loc rfl rfl ?_
  refine wp_iconst (v := 4) rfl (by decide) ?_
  exact wp_icge (tgt := 71) rfl (by decide) wt wf
theorem b98_27 {n : Nat} {h : q_Hp} {Q : Option Value → q_Hp → Prop} {x0 : Nat} {x1 : Nat} {x2 : Int32} {x3 : Nat} {x4 : Int32} {x5 : Int32} {l6 : Option Value} {m : Nat} {P : Int32 → q_Hp → Prop} (hc : q_mI m 232 [.ref x3, .int (x4 + x5)] h P) (hm : m ≤ n) (w : ∀ (z : Int32) (h1 : q_Hp), P z h1 → q_wp (n + 1) 98 36 [some (.ref x0), some (.ref x1), some (.int x2), some (.ref x3), some (.int x4), some (.int x5), l6] [.int z] h1 Q) : q_wp (n + 1) 98 27 [some (.ref x0), some (.ref x1), some (.int x2), some (.ref x3), some (.int x4), some (.int x5), l6] [] h Q := by
  refine wp_loc rfl rfl ?_
  refine wp_loc rfl rfl ?_
  refine wp_loc rfl rfl ?_
  refine wp_stk rfl rfl rfl ?_
  exact wp_callI (av := [.ref x3, .int (x4 + x5)]) rfl rfl rfl (by decide) rfl rfl rfl hm hc w
theorem b98_36 {n : Nat} {h : q_Hp} {Q : Option Value → q_Hp → Prop} {x0 : Nat} {x1 : Nat} {x2 : Int32} {x3 : Nat} {x4 : Int32} {x5 : Int32} {l6 : Option Value} {s0 : Int32} (wt : s0 < 0 → q_wp n 98 54 [some (.ref x0), some (.ref x1), some (.int x2), some (.ref x3), some (.int x4), some (.int x5), some (.int s0)] [] h Q) (wf : ¬ s0 < 0 → q_wp n 98 43 [some (.ref x0), some (.ref x1), some (.int x2), some (.ref x3), some (.int x4), some (.int x5), some (.int s0)] [] h Q) : q_wp n 98 36 [some (.ref x0), some (.ref x1), some (.int x2), some (.ref x3), some (.int x4), some (.int x5), l6] [.int s0] h Q := by
  refine wp_loc rfl rfl ?_
  refine wp_loc rfl rfl ?_
  exact wp_iflt (tgt := 54) rfl (by decide) wt wf
theorem b98_43 {n : Nat} {h : q_Hp} {Q : Option Value → q_Hp → Prop} {x0 : Nat} {x1 : Nat} {x2 : Int32} {x3 : Nat} {x4 : Int32} {x5 : Int32} {x6 : Int32} {m : Nat} {P : Int32 → q_Hp → Prop} (hc : q_mI m 96 [.ref x0, .int x5, .int x6] h P) (hm : m ≤ n) (w : ∀ (z : Int32) (h1 : q_Hp), P z h1 → q_wp (n + 1) 98 51 [some (.ref x0), some (.ref x1), some (.int x2), some (.ref x3), some (.int x4), some (.int x5), some (.int x6)] [.int z] h1 Q) : q_wp (n + 1) 98 43 [some (.ref x0), some (.ref x1), some (.int x2), some (.ref x3), some (.int x4), some (.int x5), some (.int x6)] [] h Q := by
  refine wp_loc rfl rfl ?_
  refine wp_loc rfl rfl ?_
  refine wp_loc rfl rfl ?_
  exact wp_callI (av := [.ref x0, .int x5, .int x6]) rfl rfl rfl (by decide) rfl rfl rfl hm hc w
theorem b98_51 {n : Nat} {h : q_Hp} {Q : Option Value → q_Hp → Prop} {x0 : Nat} {x1 : Nat} {x2 : Int32} {x3 : Nat} {x4 : Int32} {x5 : Int32} {x6 : Int32} {s0 : Int32} (wt : ¬ s0 = 0 → q_wp n 98 56 [some (.ref x0), some (.ref x1), some (.int x2), some (.ref x3), some (.int x4), some (.int x5), some (.int x6)] [] h Q) (wf : s0 = 0 → q_wp n 98 54 [some (.ref x0), some (.ref x1), some (.int x2), some (.ref x3), some (.int x4), some (.int x5), some (.int x6)] [] h Q) : q_wp n 98 51 [some (.ref x0), some (.ref x1), some (.int x2), some (.ref x3), some (.int x4), some (.int x5), some (.int x6)] [.int s0] h Q := by
  exact wp_ifne (tgt := 56) rfl (by decide) wt wf
theorem b98_54 {n : Nat} {h : q_Hp} {Q : Option Value → q_Hp → Prop} {x0 : Nat} {x1 : Nat} {x2 : Int32} {x3 : Nat} {x4 : Int32} {x5 : Int32} {x6 : Int32} (q : Q (some (.int 0)) h) : q_wp n 98 54 [some (.ref x0), some (.ref x1), some (.int x2), some (.ref x3), some (.int x4), some (.int x5), some (.int x6)] [] h Q := by
  refine wp_iconst (v := 0) rfl (by decide) ?_
  exact wp_ret (r := some (.int 0)) rfl rfl q
theorem b98_56 {n : Nat} {h : q_Hp} {Q : Option Value → q_Hp → Prop} {x0 : Nat} {x1 : Nat} {x2 : Int32} {x3 : Nat} {x4 : Int32} {x5 : Int32} {x6 : Int32} {v0 : Nat} (k0 : q_ok h x0 4) (e0 : qR h x0 3 = v0) (k1 : q_ok h v0 20) (i0 : q_in x5 (qK h v0).2) (w : q_wp n 98 9 [some (.ref x0), some (.ref x1), some (.int x2), some (.ref x3), some (.int x4), some (.int (x5 + 1)), some (.int x6)] [] (q_sA h v0 x5.toNatClampNeg x6) Q) : q_wp n 98 56 [some (.ref x0), some (.ref x1), some (.int x2), some (.ref x3), some (.int x4), some (.int x5), some (.int x6)] [] h Q := by
  refine wp_loc rfl rfl ?_
  refine wp_getR rfl rfl rfl rfl k0 e0 ?_
  refine wp_loc rfl rfl ?_
  refine wp_loc rfl rfl ?_
  refine wp_iast rfl k1 i0 ?_
  refine wp_iinc (v := 1) rfl rfl (by decide) rfl ?_
  refine wp_goto (tgt := 9) rfl (by decide) ?_
  exact w
theorem b98_71 {n : Nat} {h : q_Hp} {Q : Option Value → q_Hp → Prop} {x0 : Nat} {x1 : Nat} {x2 : Int32} {x3 : Nat} {x4 : Int32} {x5 : Int32} {l6 : Option Value} {m : Nat} {P : Int32 → q_Hp → Prop} (hc : q_mI m 99 [.ref x0] h P) (hm : m ≤ n) (w : ∀ (z : Int32) (h1 : q_Hp), P z h1 → q_wp (n + 1) 98 75 [some (.ref x0), some (.ref x1), some (.int x2), some (.ref x3), some (.int x4), some (.int x5), l6] [.int z] h1 Q) : q_wp (n + 1) 98 71 [some (.ref x0), some (.ref x1), some (.int x2), some (.ref x3), some (.int x4), some (.int x5), l6] [] h Q := by
  refine wp_loc rfl rfl ?_
  exact wp_callI (av := [.ref x0]) rfl rfl rfl (by decide) rfl rfl rfl hm hc w
theorem b98_75 {n : Nat} {h : q_Hp} {Q : Option Value → q_Hp → Prop} {x0 : Nat} {x1 : Nat} {x2 : Int32} {x3 : Nat} {x4 : Int32} {x5 : Int32} {l6 : Option Value} {s0 : Int32} (zr : s0 = 0 ∨ s0 = 1) (q : Q (some (.int s0)) h) : q_wp n 98 75 [some (.ref x0), some (.ref x1), some (.int x2), some (.ref x3), some (.int x4), some (.int x5), l6] [.int s0] h Q := by
  exact wp_ret rfl (if_pos zr) q
theorem b99_0 {n : Nat} {h : q_Hp} {Q : Option Value → q_Hp → Prop} {x0 : Nat} {m : Nat} {P : Int32 → q_Hp → Prop} (hc : q_mI m 100 [.ref x0] h P) (hm : m ≤ n) (w : ∀ (z : Int32) (h1 : q_Hp), P z h1 → q_wp (n + 1) 99 4 [some (.ref x0), none] [.int z] h1 Q) : q_wp (n + 1) 99 0 [some (.ref x0), none] [] h Q := by
  refine wp_loc rfl rfl ?_
  exact wp_callI (av := [.ref x0]) rfl rfl rfl (by decide) rfl rfl rfl hm hc w
theorem b99_4 {n : Nat} {h : q_Hp} {Q : Option Value → q_Hp → Prop} {x0 : Nat} {s0 : Int32} (wt : s0 = 0 → q_wp n 99 21 [some (.ref x0), none] [] h Q) (wf : ¬ s0 = 0 → q_wp n 99 7 [some (.ref x0), none] [] h Q) : q_wp n 99 4 [some (.ref x0), none] [.int s0] h Q := by
  exact wp_ifeq (tgt := 21) rfl (by decide) wt wf
theorem b99_7 {n : Nat} {h : q_Hp} {Q : Option Value → q_Hp → Prop} {x0 : Nat} {m : Nat} {P : Int32 → q_Hp → Prop} (hc : q_mI m 101 [.ref x0] h P) (hm : m ≤ n) (w : ∀ (z : Int32) (h1 : q_Hp), P z h1 → q_wp (n + 1) 99 11 [some (.ref x0), none] [.int z] h1 Q) : q_wp (n + 1) 99 7 [some (.ref x0), none] [] h Q := by
  refine wp_loc rfl rfl ?_
  exact wp_callI (av := [.ref x0]) rfl rfl rfl (by decide) rfl rfl rfl hm hc w
theorem b99_11 {n : Nat} {h : q_Hp} {Q : Option Value → q_Hp → Prop} {x0 : Nat} {s0 : Int32} (wt : s0 = 0 → q_wp n 99 21 [some (.ref x0), none] [] h Q) (wf : ¬ s0 = 0 → q_wp n 99 14 [some (.ref x0), none] [] h Q) : q_wp n 99 11 [some (.ref x0), none] [.int s0] h Q := by
  exact wp_ifeq (tgt := 21) rfl (by decide) wt wf
theorem b99_14 {n : Nat} {h : q_Hp} {Q : Option Value → q_Hp → Prop} {x0 : Nat} {m : Nat} {P : Int32 → q_Hp → Prop} (hc : q_mI m 103 [.ref x0] h P) (hm : m ≤ n) (w : ∀ (z : Int32) (h1 : q_Hp), P z h1 → q_wp (n + 1) 99 18 [some (.ref x0), none] [.int z] h1 Q) : q_wp (n + 1) 99 14 [some (.ref x0), none] [] h Q := by
  refine wp_loc rfl rfl ?_
  exact wp_callI (av := [.ref x0]) rfl rfl rfl (by decide) rfl rfl rfl hm hc w
theorem b99_18 {n : Nat} {h : q_Hp} {Q : Option Value → q_Hp → Prop} {x0 : Nat} {s0 : Int32} (wt : s0 = 0 → q_wp n 99 23 [some (.ref x0), none] [] h Q) (wf : ¬ s0 = 0 → q_wp n 99 21 [some (.ref x0), none] [] h Q) : q_wp n 99 18 [some (.ref x0), none] [.int s0] h Q := by
  exact wp_ifeq (tgt := 23) rfl (by decide) wt wf
theorem b99_21 {n : Nat} {h : q_Hp} {Q : Option Value → q_Hp → Prop} {x0 : Nat} (q : Q (some (.int 0)) h) : q_wp n 99 21 [some (.ref x0), none] [] h Q := by
  refine wp_iconst (v := 0) rfl (by decide) ?_
  exact wp_ret (r := some (.int 0)) rfl rfl q
theorem b99_23 {n : Nat} {h : q_Hp} {Q : Option Value → q_Hp → Prop} {x0 : Nat} (w : q_wp n 99 25 [some (.ref x0), some (.int 0)] [] h Q) : q_wp n 99 23 [some (.ref x0), none] [] h Q := by
  refine wp_iconst (v := 0) rfl (by decide) ?_
  refine wp_loc rfl rfl ?_
  exact w
theorem b99_25 {n : Nat} {h : q_Hp} {Q : Option Value → q_Hp → Prop} {x0 : Nat} {x1 : Int32} {v0 : Nat} (k0 : q_ok h x0 4) (e0 : qR h x0 2 = v0) (k1 : q_ok h v0 6) (wt : (qI h v0 2) ≤ x1 → q_wp n 99 52 [some (.ref x0), some (.int x1)] [] h Q) (wf : ¬ (qI h v0 2) ≤ x1 → q_wp n 99 36 [some (.ref x0), some (.int x1)] [] h Q) : q_wp n 99 25 [some (.ref x0), some (.int x1)] [] h Q := by
  refine wp_loc rfl rfl ?_
  refine wp_loc rfl rfl ?_
  refine wp_getR rfl rfl rfl rfl k0 e0 ?_
  refine wp_getI rfl rfl rfl k1 ?_
  exact wp_icge (tgt := 52) rfl (by decide) wt wf
theorem b99_36 {n : Nat} {h : q_Hp} {Q : Option Value → q_Hp → Prop} {x0 : Nat} {x1 : Int32} {m : Nat} {P : Int32 → q_Hp → Prop} (hc : q_mI m 104 [.ref x0, .int x1] h P) (hm : m ≤ n) (w : ∀ (z : Int32) (h1 : q_Hp), P z h1 → q_wp (n + 1) 99 41 [some (.ref x0), some (.int x1)] [.int z] h1 Q) : q_wp (n + 1) 99 36 [some (.ref x0), some (.int x1)] [] h Q := by
  refine wp_loc rfl rfl ?_
  refine wp_loc rfl rfl ?_
  exact wp_callI (av := [.ref x0, .int x1]) rfl rfl rfl (by decide) rfl rfl rfl hm hc w
theorem b99_41 {n : Nat} {h : q_Hp} {Q : Option Value → q_Hp → Prop} {x0 : Nat} {x1 : Int32} {s0 : Int32} (wt : s0 = 0 → q_wp n 99 46 [some (.ref x0), some (.int x1)] [] h Q) (wf : ¬ s0 = 0 → q_wp n 99 44 [some (.ref x0), some (.int x1)] [] h Q) : q_wp n 99 41 [some (.ref x0), some (.int x1)] [.int s0] h Q := by
  exact wp_ifeq (tgt := 46) rfl (by decide) wt wf
theorem b99_44 {n : Nat} {h : q_Hp} {Q : Option Value → q_Hp → Prop} {x0 : Nat} {x1 : Int32} (q : Q (some (.int 0)) h) : q_wp n 99 44 [some (.ref x0), some (.int x1)] [] h Q := by
  refine wp_iconst (v := 0) rfl (by decide) ?_
  exact wp_ret (r := some (.int 0)) rfl rfl q
theorem b99_46 {n : Nat} {h : q_Hp} {Q : Option Value → q_Hp → Prop} {x0 : Nat} {x1 : Int32} (w : q_wp n 99 25 [some (.ref x0), some (.int (x1 + 1))] [] h Q) : q_wp n 99 46 [some (.ref x0), some (.int x1)] [] h Q := by
  refine wp_iinc (v := 1) rfl rfl (by decide) rfl ?_
  refine wp_goto (tgt := 25) rfl (by decide) ?_
  exact w
theorem b99_52 {n : Nat} {h : q_Hp} {Q : Option Value → q_Hp → Prop} {x0 : Nat} {x1 : Int32} (q : Q (some (.int 1)) h) : q_wp n 99 52 [some (.ref x0), some (.int x1)] [] h Q := by
  refine wp_iconst (v := 1) rfl (by decide) ?_
  exact wp_ret (r := some (.int 1)) rfl rfl q
theorem b100_0 {n : Nat} {h : q_Hp} {Q : Option Value → q_Hp → Prop} {x0 : Nat} (k0 : q_ok h x0 4) (w : q_wp n 100 7 [some (.ref x0), some (.int 0), none, none] [] (q_sL h x0 5 0) Q) : q_wp n 100 0 [some (.ref x0), none, none, none] [] h Q := by
  refine wp_loc rfl rfl ?_
  refine wp_lconst (v := 0) rfl (by decide) ?_
  refine wp_putJ rfl rfl (Or.inl rfl) rfl rfl k0 ?_
  refine wp_iconst (v := 0) rfl (by decide) ?_
  refine wp_loc rfl rfl ?_
  exact w
theorem b100_7 {n : Nat} {h : q_Hp} {Q : Option Value → q_Hp → Prop} {x0 : Nat} {x1 : Int32} {l2 : Option Value} {l3 : Option Value} {v0 : Nat} (k0 : q_ok h x0 4) (e0 : qR h x0 2 = v0) (k1 : q_ok h v0 6) (wt : (qI h v0 1) ≤ x1 → q_wp n 100 121 [some (.ref x0), some (.int x1), l2, l3] [] h Q) (wf : ¬ (qI h v0 1) ≤ x1 → q_wp n 100 18 [some (.ref x0), some (.int x1), l2, l3] [] h Q) : q_wp n 100 7 [some (.ref x0), some (.int x1), l2, l3] [] h Q := by
  refine wp_loc rfl rfl ?_
  refine wp_loc rfl rfl ?_
  refine wp_getR rfl rfl rfl rfl k0 e0 ?_
  refine wp_getI rfl rfl rfl k1 ?_
  exact wp_icge (tgt := 121) rfl (by decide) wt wf
theorem b100_18 {n : Nat} {h : q_Hp} {Q : Option Value → q_Hp → Prop} {x0 : Nat} {x1 : Int32} {l2 : Option Value} {l3 : Option Value} (wt : 6 ≤ x1 → q_wp n 100 121 [some (.ref x0), some (.int x1), l2, l3] [] h Q) (wf : ¬ 6 ≤ x1 → q_wp n 100 24 [some (.ref x0), some (.int x1), l2, l3] [] h Q) : q_wp n 100 18 [some (.ref x0), some (.int x1), l2, l3] [] h Q := by
  refine wp_loc rfl rfl ?_
  refine wp_bipush (v := 6) rfl (by decide) ?_
  exact wp_icge (tgt := 121) rfl (by decide) wt wf
theorem b100_24 {n : Nat} {h : q_Hp} {Q : Option Value → q_Hp → Prop} {x0 : Nat} {x1 : Int32} {l2 : Option Value} {l3 : Option Value} {v0 : Nat} {v1 : Nat} {v2 : Nat} (k0 : q_ok h x0 4) (e0 : qR h x0 3 = v0) (e1 : qR h x0 2 = v1) (k1 : q_ok h v1 6) (e2 : qR h v1 11 = v2) (k2 : q_ok h v2 20) (i0 : q_in x1 (qK h v2).2) {m : Nat} {P : Int32 → q_Hp → Prop} (hc : q_mI m 232 [.ref v0, .int (qA h v2 x1.toNatClampNeg)] h P) (hm : m ≤ n) (w : ∀ (z : Int32) (h1 : q_Hp), P z h1 → q_wp (n + 1) 100 40 [some (.ref x0), some (.int x1), l2, l3] [.int z] h1 Q) : q_wp (n + 1) 100 24 [some (.ref x0), some (.int x1), l2, l3] [] h Q := by
  refine wp_loc rfl rfl ?_
  refine wp_getR rfl rfl rfl rfl k0 e0 ?_
  refine wp_loc rfl rfl ?_
  refine wp_getR rfl rfl rfl rfl k0 e1 ?_
  refine wp_getR rfl rfl rfl rfl k1 e2 ?_
  refine wp_loc rfl rfl ?_
  refine wp_iald rfl k2 i0 ?_
  exact wp_callI (av := [.ref v0, .int (qA h v2 x1.toNatClampNeg)]) rfl rfl rfl (by decide) rfl rfl rfl hm hc w
theorem b100_40 {n : Nat} {h : q_Hp} {Q : Option Value → q_Hp → Prop} {x0 : Nat} {x1 : Int32} {l2 : Option Value} {l3 : Option Value} {s0 : Int32} {v0 : Nat} {v1 : Nat} {v2 : Nat} (k0 : q_ok h x0 4) (e0 : qR h x0 3 = v0) (e1 : qR h x0 2 = v1) (k1 : q_ok h v1 6) (e2 : qR h v1 12 = v2) (k2 : q_ok h v2 20) (i0 : q_in x1 (qK h v2).2) {m : Nat} {P : Int32 → q_Hp → Prop} (hc : q_mI m 232 [.ref v0, .int (qA h v2 x1.toNatClampNeg)] h P) (hm : m ≤ n) (w : ∀ (z : Int32) (h1 : q_Hp), P z h1 → q_wp (n + 1) 100 57 [some (.ref x0), some (.int x1), some (.int s0), l3] [.int z] h1 Q) : q_wp (n + 1) 100 40 [some (.ref x0), some (.int x1), l2, l3] [.int s0] h Q := by
  refine wp_loc rfl rfl ?_
  refine wp_loc rfl rfl ?_
  refine wp_getR rfl rfl rfl rfl k0 e0 ?_
  refine wp_loc rfl rfl ?_
  refine wp_getR rfl rfl rfl rfl k0 e1 ?_
  refine wp_getR rfl rfl rfl rfl k1 e2 ?_
  refine wp_loc rfl rfl ?_
  refine wp_iald rfl k2 i0 ?_
  exact wp_callI (av := [.ref v0, .int (qA h v2 x1.toNatClampNeg)]) rfl rfl rfl (by decide) rfl rfl rfl hm hc w
theorem b100_57 {n : Nat} {h : q_Hp} {Q : Option Value → q_Hp → Prop} {x0 : Nat} {x1 : Int32} {x2 : Int32} {l3 : Option Value} {s0 : Int32} {v0 : Nat} {v1 : Nat} {v2 : Nat} {v3 : Nat} (k0 : q_ok h x0 4) (e0 : qR h x0 4 = v0) (e1 : qR h x0 0 = v1) (e2 : qR h x0 2 = v2) (k1 : q_ok h v2 6) (e3 : qR h v2 10 = v3) (k2 : q_ok h v3 20) (i0 : q_in x1 (qK h v3).2) {m : Nat} {P : Int32 → q_Hp → Prop} (hc : q_mI m 76 [.ref v1, .int (qA h v3 x1.toNatClampNeg), .int x2, .int s0, .long (qL h x0 5)] h P) (hm : m ≤ n) (w : ∀ (z : Int32) (h1 : q_Hp), P z h1 → q_wp (n + 1) 100 85 [some (.ref x0), some (.int x1), some (.int x2), some (.int s0)] [.int z, .int x1, .ref v0] h1 Q) : q_wp (n + 1) 100 57 [some (.ref x0), some (.int x1), some (.int x2), l3] [.int s0] h Q := by
  refine wp_loc rfl rfl ?_
  refine wp_loc rfl rfl ?_
  refine wp_getR rfl rfl rfl rfl k0 e0 ?_
  refine wp_loc rfl rfl ?_
  refine wp_loc rfl rfl ?_
  refine wp_getR rfl rfl rfl rfl k0 e1 ?_
  refine wp_loc rfl rfl ?_
  refine wp_getR rfl rfl rfl rfl k0 e2 ?_
  refine wp_getR rfl rfl rfl rfl k1 e3 ?_
  refine wp_loc rfl rfl ?_
  refine wp_iald rfl k2 i0 ?_
  refine wp_loc rfl rfl ?_
  refine wp_loc rfl rfl ?_
  refine wp_loc rfl rfl ?_
  refine wp_getJ rfl rfl rfl rfl k0 ?_
  exact wp_callI (av := [.ref v1, .int (qA h v3 x1.toNatClampNeg), .int x2, .int s0, .long (qL h x0 5)]) rfl rfl rfl (by decide) rfl rfl rfl hm hc w
theorem b100_85 {n : Nat} {h : q_Hp} {Q : Option Value → q_Hp → Prop} {x0 : Nat} {x1 : Int32} {x2 : Int32} {x3 : Int32} {s0 : Int32} {s1 : Int32} {s2 : Nat} {v0 : Nat} (k0 : q_ok h s2 20) (i0 : q_in s1 (qK h s2).2) (k1 : q_ok h x0 4) (e0 : qR h x0 4 = v0) (k2 : q_ok h v0 20) (i1 : q_in x1 (qK h v0).2) (wt : ¬ (qA (q_sA h s2 s1.toNatClampNeg s0) v0 x1.toNatClampNeg) = (-1) → q_wp n 100 98 [some (.ref x0), some (.int x1), some (.int x2), some (.int x3)] [] (q_sA h s2 s1.toNatClampNeg s0) Q) (wf : (qA (q_sA h s2 s1.toNatClampNeg s0) v0 x1.toNatClampNeg) = (-1) → q_wp n 100 96 [some (.ref x0), some (.int x1), some (.int x2), some (.int x3)] [] (q_sA h s2 s1.toNatClampNeg s0) Q) : q_wp n 100 85 [some (.ref x0), some (.int x1), some (.int x2), some (.int x3)] [.int s0, .int s1, .ref s2] h Q := by
  refine wp_iast rfl k0 i0 ?_
  refine wp_loc rfl rfl ?_
  refine wp_getR rfl rfl rfl rfl k1 e0 ?_
  refine wp_loc rfl rfl ?_
  refine wp_iald rfl k2 i1 ?_
  refine wp_iconst (v := (-1)) rfl (by decide) ?_
  exact wp_icne (tgt := 98) rfl (by decide) wt wf
theorem b100_96 {n : Nat} {h : q_Hp} {Q : Option Value → q_Hp → Prop} {x0 : Nat} {x1 : Int32} {x2 : Int32} {x3 : Int32} (q : Q (some (.int 0)) h) : q_wp n 100 96 [some (.ref x0), some (.int x1), some (.int x2), some (.int x3)] [] h Q := by
  refine wp_iconst (v := 0) rfl (by decide) ?_
  exact wp_ret (r := some (.int 0)) rfl rfl q
theorem b100_98 {n : Nat} {h : q_Hp} {Q : Option Value → q_Hp → Prop} {x0 : Nat} {x1 : Int32} {x2 : Int32} {x3 : Int32} {v0 : Nat} (k0 : q_ok h x0 4) (e0 : qR h x0 4 = v0) (k1 : q_ok h v0 20) (i0 : q_in x1 (qK h v0).2) (w : q_wp n 100 7 [some (.ref x0), some (.int (x1 + 1)), some (.int x2), some (.int x3)] [] (q_sL h x0 5 ((qL h x0 5) ||| (1 <<< ((qA h v0 x1.toNatClampNeg : Int32).toInt64 &&& 63)))) Q) : q_wp n 100 98 [some (.ref x0), some (.int x1), some (.int x2), some (.int x3)] [] h Q := by
  refine wp_loc rfl rfl ?_
  refine wp_stk rfl rfl rfl ?_
  refine wp_getJ rfl rfl rfl rfl k0 ?_
  refine wp_lconst (v := 1) rfl (by decide) ?_
  refine wp_loc rfl rfl ?_
  refine wp_getR rfl rfl rfl rfl k0 e0 ?_
  refine wp_loc rfl rfl ?_
  refine wp_iald rfl k1 i0 ?_
  refine wp_stk rfl rfl rfl ?_
  refine wp_stk rfl rfl rfl ?_
  refine wp_putJ rfl rfl (Or.inl rfl) rfl rfl k0 ?_
  refine wp_iinc (v := 1) rfl rfl (by decide) rfl ?_
  refine wp_goto (tgt := 7) rfl (by decide) ?_
  exact w
theorem b100_121 {n : Nat} {h : q_Hp} {Q : Option Value → q_Hp → Prop} {x0 : Nat} {x1 : Int32} {l2 : Option Value} {l3 : Option Value} (q : Q (some (.int 1)) h) : q_wp n 100 121 [some (.ref x0), some (.int x1), l2, l3] [] h Q := by
  refine wp_iconst (v := 1) rfl (by decide) ?_
  exact wp_ret (r := some (.int 1)) rfl rfl q
theorem b101_0 {n : Nat} {h : q_Hp} {Q : Option Value → q_Hp → Prop} {x0 : Nat} (w : q_wp n 101 2 [some (.ref x0), some (.int 0), none, none, none] [] h Q) : q_wp n 101 0 [some (.ref x0), none, none, none, none] [] h Q := by
  refine wp_iconst (v := 0) rfl (by decide) ?_
  refine wp_loc rfl rfl ?_
  exact w
theorem b101_2 {n : Nat} {h : q_Hp} {Q : Option Value → q_Hp → Prop} {x0 : Nat} {x1 : Int32} {l2 : Option Value} {l3 : Option Value} {l4 : Option Value} {v0 : Nat} (k0 : q_ok h x0 4) (e0 : qR h x0 2 = v0) (k1 : q_ok h v0 6) (wt : (qI h v0 3) ≤ x1 → q_wp n 101 81 [some (.ref x0), some (.int x1), l2, l3, l4] [] h Q) (wf : ¬ (qI h v0 3) ≤ x1 → q_wp n 101 13 [some (.ref x0), some (.int x1), l2, l3, l4] [] h Q) : q_wp n 101 2 [some (.ref x0), some (.int x1), l2, l3, l4] [] h Q := by
  refine wp_loc rfl rfl ?_
  refine wp_loc rfl rfl ?_
  refine wp_getR rfl rfl rfl rfl k0 e0 ?_
  refine wp_getI rfl rfl rfl k1 ?_
  exact wp_icge (tgt := 81) rfl (by decide) wt wf
theorem b101_13 {n : Nat} {h : q_Hp} {Q : Option Value → q_Hp → Prop} {x0 : Nat} {x1 : Int32} {l2 : Option Value} {l3 : Option Value} {l4 : Option Value} (wt : 4 ≤ x1 → q_wp n 101 81 [some (.ref x0), some (.int x1), l2, l3, l4] [] h Q) (wf : ¬ 4 ≤ x1 → q_wp n 101 18 [some (.ref x0), some (.int x1), l2, l3, l4] [] h Q) : q_wp n 101 13 [some (.ref x0), some (.int x1), l2, l3, l4] [] h Q := by
  refine wp_loc rfl rfl ?_
  refine wp_iconst (v := 4) rfl (by decide) ?_
  exact wp_icge (tgt := 81) rfl (by decide) wt wf
theorem b101_18 {n : Nat} {h : q_Hp} {Q : Option Value → q_Hp → Prop} {x0 : Nat} {x1 : Int32} {l2 : Option Value} {l3 : Option Value} {l4 : Option Value} {m : Nat} {P : Int32 → q_Hp → Prop} (hc : q_mI m 128 [.int x1, .int 0] h P) (hm : m ≤ n) (w : ∀ (z : Int32) (h1 : q_Hp), P z h1 → q_wp (n + 1) 101 24 [some (.ref x0), some (.int x1), l2, l3, l4] [.int z, .ref x0] h1 Q) : q_wp (n + 1) 101 18 [some (.ref x0), some (.int x1), l2, l3, l4] [] h Q := by
  refine wp_loc rfl rfl ?_
  refine wp_loc rfl rfl ?_
  refine wp_iconst (v := 0) rfl (by decide) ?_
  exact wp_callI (av := [.int x1, .int 0]) rfl rfl rfl (by decide) rfl rfl rfl hm hc w
theorem b101_24 {n : Nat} {h : q_Hp} {Q : Option Value → q_Hp → Prop} {x0 : Nat} {x1 : Int32} {l2 : Option Value} {l3 : Option Value} {l4 : Option Value} {s0 : Int32} {s1 : Nat} {m : Nat} {P : Int32 → q_Hp → Prop} (hc : q_mI m 106 [.ref s1, .int s0] h P) (hm : m ≤ n) (w : ∀ (z : Int32) (h1 : q_Hp), P z h1 → q_wp (n + 1) 101 27 [some (.ref x0), some (.int x1), l2, l3, l4] [.int z] h1 Q) : q_wp (n + 1) 101 24 [some (.ref x0), some (.int x1), l2, l3, l4] [.int s0, .ref s1] h Q := by
  exact wp_callI (av := [.ref s1, .int s0]) rfl rfl rfl (by decide) rfl rfl rfl hm hc w
theorem b101_27 {n : Nat} {h : q_Hp} {Q : Option Value → q_Hp → Prop} {x0 : Nat} {x1 : Int32} {l2 : Option Value} {l3 : Option Value} {l4 : Option Value} {s0 : Int32} (k0 : q_ok h x0 4) {m : Nat} {P : Int32 → q_Hp → Prop} (hc : q_mI m 128 [.int x1, .int 1] h P) (hm : m ≤ n) (w : ∀ (z : Int32) (h1 : q_Hp), P z h1 → q_wp (n + 1) 101 39 [some (.ref x0), some (.int x1), some (.int s0), some (.int (qI h x0 11)), l4] [.int z, .ref x0] h1 Q) : q_wp (n + 1) 101 27 [some (.ref x0), some (.int x1), l2, l3, l4] [.int s0] h Q := by
  refine wp_loc rfl rfl ?_
  refine wp_loc rfl rfl ?_
  refine wp_getI rfl rfl rfl k0 ?_
  refine wp_loc rfl rfl ?_
  refine wp_loc rfl rfl ?_
  refine wp_loc rfl rfl ?_
  refine wp_iconst (v := 1) rfl (by decide) ?_
  exact wp_callI (av := [.int x1, .int 1]) rfl rfl rfl (by decide) rfl rfl rfl hm hc w
theorem b101_39 {n : Nat} {h : q_Hp} {Q : Option Value → q_Hp → Prop} {x0 : Nat} {x1 : Int32} {x2 : Int32} {x3 : Int32} {l4 : Option Value} {s0 : Int32} {s1 : Nat} {m : Nat} {P : Int32 → q_Hp → Prop} (hc : q_mI m 106 [.ref s1, .int s0] h P) (hm : m ≤ n) (w : ∀ (z : Int32) (h1 : q_Hp), P z h1 → q_wp (n + 1) 101 42 [some (.ref x0), some (.int x1), some (.int x2), some (.int x3), l4] [.int z] h1 Q) : q_wp (n + 1) 101 39 [some (.ref x0), some (.int x1), some (.int x2), some (.int x3), l4] [.int s0, .ref s1] h Q := by
  exact wp_callI (av := [.ref s1, .int s0]) rfl rfl rfl (by decide) rfl rfl rfl hm hc w
theorem b101_42 {n : Nat} {h : q_Hp} {Q : Option Value → q_Hp → Prop} {x0 : Nat} {x1 : Int32} {x2 : Int32} {x3 : Int32} {l4 : Option Value} {s0 : Int32} (wt : ¬ x3 = 0 → q_wp n 101 73 [some (.ref x0), some (.int x1), some (.int x2), some (.int x3), some (.int s0)] [] h Q) (wf : x3 = 0 → q_wp n 101 48 [some (.ref x0), some (.int x1), some (.int x2), some (.int x3), some (.int s0)] [] h Q) : q_wp n 101 42 [some (.ref x0), some (.int x1), some (.int x2), some (.int x3), l4] [.int s0] h Q := by
  refine wp_loc rfl rfl ?_
  refine wp_loc rfl rfl ?_
  exact wp_ifne (tgt := 73) rfl (by decide) wt wf
theorem b101_48 {n : Nat} {h : q_Hp} {Q : Option Value → q_Hp → Prop} {x0 : Nat} {x1 : Int32} {x2 : Int32} {x3 : Int32} {x4 : Int32} (k0 : q_ok h x0 4) (wt : ¬ (qI h x0 11) = 0 → q_wp n 101 73 [some (.ref x0), some (.int x1), some (.int x2), some (.int x3), some (.int x4)] [] h Q) (wf : (qI h x0 11) = 0 → q_wp n 101 55 [some (.ref x0), some (.int x1), some (.int x2), some (.int x3), some (.int x4)] [] h Q) : q_wp n 101 48 [some (.ref x0), some (.int x1), some (.int x2), some (.int x3), some (.int x4)] [] h Q := by
  refine wp_loc rfl rfl ?_
  refine wp_getI rfl rfl rfl k0 ?_
  exact wp_ifne (tgt := 73) rfl (by decide) wt wf
theorem b101_55 {n : Nat} {h : q_Hp} {Q : Option Value → q_Hp → Prop} {x0 : Nat} {x1 : Int32} {x2 : Int32} {x3 : Int32} {x4 : Int32} {v0 : Nat} {v1 : Nat} (k0 : q_ok h x0 4) (e0 : qR h x0 2 = v0) (k1 : q_ok h v0 6) (e1 : qR h v0 13 = v1) (k2 : q_ok h v1 20) (i0 : q_in x1 (qK h v1).2) {m : Nat} {P : Int32 → q_Hp → Prop} (hc : q_mI m 102 [.int (qA h v1 x1.toNatClampNeg), .int x2, .int x4] h P) (hm : m ≤ n) (w : ∀ (z : Int32) (h1 : q_Hp), P z h1 → q_wp (n + 1) 101 70 [some (.ref x0), some (.int x1), some (.int x2), some (.int x3), some (.int x4)] [.int z] h1 Q) : q_wp (n + 1) 101 55 [some (.ref x0), some (.int x1), some (.int x2), some (.int x3), some (.int x4)] [] h Q := by
  refine wp_loc rfl rfl ?_
  refine wp_getR rfl rfl rfl rfl k0 e0 ?_
  refine wp_getR rfl rfl rfl rfl k1 e1 ?_
  refine wp_loc rfl rfl ?_
  refine wp_iald rfl k2 i0 ?_
  refine wp_loc rfl rfl ?_
  refine wp_loc rfl rfl ?_
  exact wp_callI (av := [.int (qA h v1 x1.toNatClampNeg), .int x2, .int x4]) rfl rfl rfl (by decide) rfl rfl rfl hm hc w
theorem b101_70 {n : Nat} {h : q_Hp} {Q : Option Value → q_Hp → Prop} {x0 : Nat} {x1 : Int32} {x2 : Int32} {x3 : Int32} {x4 : Int32} {s0 : Int32} (wt : ¬ s0 = 0 → q_wp n 101 75 [some (.ref x0), some (.int x1), some (.int x2), some (.int x3), some (.int x4)] [] h Q) (wf : s0 = 0 → q_wp n 101 73 [some (.ref x0), some (.int x1), some (.int x2), some (.int x3), some (.int x4)] [] h Q) : q_wp n 101 70 [some (.ref x0), some (.int x1), some (.int x2), some (.int x3), some (.int x4)] [.int s0] h Q := by
  exact wp_ifne (tgt := 75) rfl (by decide) wt wf
theorem b101_73 {n : Nat} {h : q_Hp} {Q : Option Value → q_Hp → Prop} {x0 : Nat} {x1 : Int32} {x2 : Int32} {x3 : Int32} {x4 : Int32} (q : Q (some (.int 0)) h) : q_wp n 101 73 [some (.ref x0), some (.int x1), some (.int x2), some (.int x3), some (.int x4)] [] h Q := by
  refine wp_iconst (v := 0) rfl (by decide) ?_
  exact wp_ret (r := some (.int 0)) rfl rfl q
theorem b101_75 {n : Nat} {h : q_Hp} {Q : Option Value → q_Hp → Prop} {x0 : Nat} {x1 : Int32} {x2 : Int32} {x3 : Int32} {x4 : Int32} (w : q_wp n 101 2 [some (.ref x0), some (.int (x1 + 1)), some (.int x2), some (.int x3), some (.int x4)] [] h Q) : q_wp n 101 75 [some (.ref x0), some (.int x1), some (.int x2), some (.int x3), some (.int x4)] [] h Q := by
  refine wp_iinc (v := 1) rfl rfl (by decide) rfl ?_
  refine wp_goto (tgt := 2) rfl (by decide) ?_
  exact w
theorem b101_81 {n : Nat} {h : q_Hp} {Q : Option Value → q_Hp → Prop} {x0 : Nat} {x1 : Int32} {l2 : Option Value} {l3 : Option Value} {l4 : Option Value} (q : Q (some (.int 1)) h) : q_wp n 101 81 [some (.ref x0), some (.int x1), l2, l3, l4] [] h Q := by
  refine wp_iconst (v := 1) rfl (by decide) ?_
  exact wp_ret (r := some (.int 1)) rfl rfl q
theorem b102_36 {n : Nat} {h : q_Hp} {Q : Option Value → q_Hp → Prop} {x0 : Int32} {x1 : Int32} {x2 : Int32} (wt : ¬ x1 = x2 → q_wp n 102 45 [some (.int x0), some (.int x1), some (.int x2)] [] h Q) (wf : x1 = x2 → q_wp n 102 41 [some (.int x0), some (.int x1), some (.int x2)] [] h Q) : q_wp n 102 36 [some (.int x0), some (.int x1), some (.int x2)] [] h Q := by
  refine wp_loc rfl rfl ?_
  refine wp_loc rfl rfl ?_
  exact wp_icne (tgt := 45) rfl (by decide) wt wf
theorem b102_41 {n : Nat} {h : q_Hp} {Q : Option Value → q_Hp → Prop} {x0 : Int32} {x1 : Int32} {x2 : Int32} (q : Q (some (.int 1)) h) : q_wp n 102 41 [some (.int x0), some (.int x1), some (.int x2)] [] h Q := by
  refine wp_iconst (v := 1) rfl (by decide) ?_
  refine wp_goto (tgt := 46) rfl (by decide) ?_
  exact wp_ret (r := some (.int 1)) rfl rfl q
theorem b102_45 {n : Nat} {h : q_Hp} {Q : Option Value → q_Hp → Prop} {x0 : Int32} {x1 : Int32} {x2 : Int32} (q : Q (some (.int 0)) h) : q_wp n 102 45 [some (.int x0), some (.int x1), some (.int x2)] [] h Q := by
  refine wp_iconst (v := 0) rfl (by decide) ?_
  exact wp_ret (r := some (.int 0)) rfl rfl q
theorem b102_47 {n : Nat} {h : q_Hp} {Q : Option Value → q_Hp → Prop} {x0 : Int32} {x1 : Int32} {x2 : Int32} (wt : x1 = x2 → q_wp n 102 56 [some (.int x0), some (.int x1), some (.int x2)] [] h Q) (wf : ¬ x1 = x2 → q_wp n 102 52 [some (.int x0), some (.int x1), some (.int x2)] [] h Q) : q_wp n 102 47 [some (.int x0), some (.int x1), some (.int x2)] [] h Q := by
  refine wp_loc rfl rfl ?_
  refine wp_loc rfl rfl ?_
  exact wp_iceq (tgt := 56) rfl (by decide) wt wf
theorem b102_52 {n : Nat} {h : q_Hp} {Q : Option Value → q_Hp → Prop} {x0 : Int32} {x1 : Int32} {x2 : Int32} (q : Q (some (.int 1)) h) : q_wp n 102 52 [some (.int x0), some (.int x1), some (.int x2)] [] h Q := by
  refine wp_iconst (v := 1) rfl (by decide) ?_
  refine wp_goto (tgt := 57) rfl (by decide) ?_
  exact wp_ret (r := some (.int 1)) rfl rfl q
theorem b102_56 {n : Nat} {h : q_Hp} {Q : Option Value → q_Hp → Prop} {x0 : Int32} {x1 : Int32} {x2 : Int32} (q : Q (some (.int 0)) h) : q_wp n 102 56 [some (.int x0), some (.int x1), some (.int x2)] [] h Q := by
  refine wp_iconst (v := 0) rfl (by decide) ?_
  exact wp_ret (r := some (.int 0)) rfl rfl q
theorem b102_58 {n : Nat} {h : q_Hp} {Q : Option Value → q_Hp → Prop} {x0 : Int32} {x1 : Int32} {x2 : Int32} (wt : x2 ≤ x1 → q_wp n 102 67 [some (.int x0), some (.int x1), some (.int x2)] [] h Q) (wf : ¬ x2 ≤ x1 → q_wp n 102 63 [some (.int x0), some (.int x1), some (.int x2)] [] h Q) : q_wp n 102 58 [some (.int x0), some (.int x1), some (.int x2)] [] h Q := by
  refine wp_loc rfl rfl ?_
  refine wp_loc rfl rfl ?_
  exact wp_icge (tgt := 67) rfl (by decide) wt wf
theorem b102_63 {n : Nat} {h : q_Hp} {Q : Option Value → q_Hp → Prop} {x0 : Int32} {x1 : Int32} {x2 : Int32} (q : Q (some (.int 1)) h) : q_wp n 102 63 [some (.int x0), some (.int x1), some (.int x2)] [] h Q := by
  refine wp_iconst (v := 1) rfl (by decide) ?_
  refine wp_goto (tgt := 68) rfl (by decide) ?_
  exact wp_ret (r := some (.int 1)) rfl rfl q
theorem b102_67 {n : Nat} {h : q_Hp} {Q : Option Value → q_Hp → Prop} {x0 : Int32} {x1 : Int32} {x2 : Int32} (q : Q (some (.int 0)) h) : q_wp n 102 67 [some (.int x0), some (.int x1), some (.int x2)] [] h Q := by
  refine wp_iconst (v := 0) rfl (by decide) ?_
  exact wp_ret (r := some (.int 0)) rfl rfl q
theorem b102_69 {n : Nat} {h : q_Hp} {Q : Option Value → q_Hp → Prop} {x0 : Int32} {x1 : Int32} {x2 : Int32} (wt : x2 < x1 → q_wp n 102 78 [some (.int x0), some (.int x1), some (.int x2)] [] h Q) (wf : ¬ x2 < x1 → q_wp n 102 74 [some (.int x0), some (.int x1), some (.int x2)] [] h Q) : q_wp n 102 69 [some (.int x0), some (.int x1), some (.int x2)] [] h Q := by
  refine wp_loc rfl rfl ?_
  refine wp_loc rfl rfl ?_
  exact wp_icgt (tgt := 78) rfl (by decide) wt wf
theorem b102_74 {n : Nat} {h : q_Hp} {Q : Option Value → q_Hp → Prop} {x0 : Int32} {x1 : Int32} {x2 : Int32} (q : Q (some (.int 1)) h) : q_wp n 102 74 [some (.int x0), some (.int x1), some (.int x2)] [] h Q := by
  refine wp_iconst (v := 1) rfl (by decide) ?_
  refine wp_goto (tgt := 79) rfl (by decide) ?_
  exact wp_ret (r := some (.int 1)) rfl rfl q
theorem b102_78 {n : Nat} {h : q_Hp} {Q : Option Value → q_Hp → Prop} {x0 : Int32} {x1 : Int32} {x2 : Int32} (q : Q (some (.int 0)) h) : q_wp n 102 78 [some (.int x0), some (.int x1), some (.int x2)] [] h Q := by
  refine wp_iconst (v := 0) rfl (by decide) ?_
  exact wp_ret (r := some (.int 0)) rfl rfl q
theorem b103_0 {n : Nat} {h : q_Hp} {Q : Option Value → q_Hp → Prop} {x0 : Nat} (w : q_wp n 103 4 [some (.ref x0), some (.int 0), some (.int 0), none] [] h Q) : q_wp n 103 0 [some (.ref x0), none, none, none] [] h Q := by
  refine wp_iconst (v := 0) rfl (by decide) ?_
  refine wp_loc rfl rfl ?_
  refine wp_iconst (v := 0) rfl (by decide) ?_
  refine wp_loc rfl rfl ?_
  exact w
theorem b103_4 {n : Nat} {h : q_Hp} {Q : Option Value → q_Hp → Prop} {x0 : Nat} {x1 : Int32} {x2 : Int32} {v0 : Nat} (k0 : q_ok h x0 4) (e0 : qR h x0 2 = v0) (k1 : q_ok h v0 6) (wt : (qI h v0 0) ≤ x2 → q_wp n 103 52 [some (.ref x0), some (.int x1), some (.int x2), none] [] h Q) (wf : ¬ (qI h v0 0) ≤ x2 → q_wp n 103 15 [some (.ref x0), some (.int x1), some (.int x2), none] [] h Q) : q_wp n 103 4 [some (.ref x0), some (.int x1), some (.int x2), none] [] h Q := by
  refine wp_loc rfl rfl ?_
  refine wp_loc rfl rfl ?_
  refine wp_getR rfl rfl rfl rfl k0 e0 ?_
  refine wp_getI rfl rfl rfl k1 ?_
  exact wp_icge (tgt := 52) rfl (by decide) wt wf
theorem b103_15 {n : Nat} {h : q_Hp} {Q : Option Value → q_Hp → Prop} {x0 : Nat} {x1 : Int32} {x2 : Int32} (wt : 4 ≤ x2 → q_wp n 103 52 [some (.ref x0), some (.int x1), some (.int x2), none] [] h Q) (wf : ¬ 4 ≤ x2 → q_wp n 103 20 [some (.ref x0), some (.int x1), some (.int x2), none] [] h Q) : q_wp n 103 15 [some (.ref x0), some (.int x1), some (.int x2), none] [] h Q := by
  refine wp_loc rfl rfl ?_
  refine wp_iconst (v := 4) rfl (by decide) ?_
  exact wp_icge (tgt := 52) rfl (by decide) wt wf
theorem b103_20 {n : Nat} {h : q_Hp} {Q : Option Value → q_Hp → Prop} {x0 : Nat} {x1 : Int32} {x2 : Int32} {v0 : Nat} (k0 : q_ok h x0 4) (e0 : qR h x0 2 = v0) (k1 : q_ok h v0 6) (wt : ¬ (((qI h v0 5) >>> (x2 &&& 31)) &&& 1) = 1 → q_wp n 103 46 [some (.ref x0), some (.int x1), some (.int x2), none] [] h Q) (wf : (((qI h v0 5) >>> (x2 &&& 31)) &&& 1) = 1 → q_wp n 103 35 [some (.ref x0), some (.int x1), some (.int x2), none] [] h Q) : q_wp n 103 20 [some (.ref x0), some (.int x1), some (.int x2), none] [] h Q := by
  refine wp_loc rfl rfl ?_
  refine wp_getR rfl rfl rfl rfl k0 e0 ?_
  refine wp_getI rfl rfl rfl k1 ?_
  refine wp_loc rfl rfl ?_
  refine wp_stk rfl rfl rfl ?_
  refine wp_iconst (v := 1) rfl (by decide) ?_
  refine wp_stk rfl rfl rfl ?_
  refine wp_iconst (v := 1) rfl (by decide) ?_
  exact wp_icne (tgt := 46) rfl (by decide) wt wf
theorem b103_35 {n : Nat} {h : q_Hp} {Q : Option Value → q_Hp → Prop} {x0 : Nat} {x1 : Int32} {x2 : Int32} {v0 : Nat} (k0 : q_ok h x0 4) (e0 : qR h x0 3 = v0) (k1 : q_ok h v0 20) (i0 : q_in x2 (qK h v0).2) (w : q_wp n 103 46 [some (.ref x0), some (.int (x1 ||| (1 <<< (qA h v0 x2.toNatClampNeg &&& 31)))), some (.int x2), none] [] h Q) : q_wp n 103 35 [some (.ref x0), some (.int x1), some (.int x2), none] [] h Q := by
  refine wp_loc rfl rfl ?_
  refine wp_iconst (v := 1) rfl (by decide) ?_
  refine wp_loc rfl rfl ?_
  refine wp_getR rfl rfl rfl rfl k0 e0 ?_
  refine wp_loc rfl rfl ?_
  refine wp_iald rfl k1 i0 ?_
  refine wp_stk rfl rfl rfl ?_
  refine wp_stk rfl rfl rfl ?_
  refine wp_loc rfl rfl ?_
  exact w
theorem b103_46 {n : Nat} {h : q_Hp} {Q : Option Value → q_Hp → Prop} {x0 : Nat} {x1 : Int32} {x2 : Int32} (w : q_wp n 103 4 [some (.ref x0), some (.int x1), some (.int (x2 + 1)), none] [] h Q) : q_wp n 103 46 [some (.ref x0), some (.int x1), some (.int x2), none] [] h Q := by
  refine wp_iinc (v := 1) rfl rfl (by decide) rfl ?_
  refine wp_goto (tgt := 4) rfl (by decide) ?_
  exact w
theorem b103_52 {n : Nat} {h : q_Hp} {Q : Option Value → q_Hp → Prop} {x0 : Nat} {x1 : Int32} {x2 : Int32} (w : q_wp n 103 54 [some (.ref x0), some (.int x1), some (.int 0), none] [] h Q) : q_wp n 103 52 [some (.ref x0), some (.int x1), some (.int x2), none] [] h Q := by
  refine wp_iconst (v := 0) rfl (by decide) ?_
  refine wp_loc rfl rfl ?_
  exact w
theorem b103_54 {n : Nat} {h : q_Hp} {Q : Option Value → q_Hp → Prop} {x0 : Nat} {x1 : Int32} {x2 : Int32} {l3 : Option Value} (wt : 40 ≤ x2 → q_wp n 103 124 [some (.ref x0), some (.int x1), some (.int x2), l3] [] h Q) (wf : ¬ 40 ≤ x2 → q_wp n 103 60 [some (.ref x0), some (.int x1), some (.int x2), l3] [] h Q) : q_wp n 103 54 [some (.ref x0), some (.int x1), some (.int x2), l3] [] h Q := by
  refine wp_loc rfl rfl ?_
  refine wp_bipush (v := 40) rfl (by decide) ?_
  exact wp_icge (tgt := 124) rfl (by decide) wt wf
theorem b103_60 {n : Nat} {h : q_Hp} {Q : Option Value → q_Hp → Prop} {x0 : Nat} {x1 : Int32} {x2 : Int32} {l3 : Option Value} (wt : x1 = 0 → q_wp n 103 124 [some (.ref x0), some (.int x1), some (.int x2), l3] [] h Q) (wf : ¬ x1 = 0 → q_wp n 103 64 [some (.ref x0), some (.int x1), some (.int x2), l3] [] h Q) : q_wp n 103 60 [some (.ref x0), some (.int x1), some (.int x2), l3] [] h Q := by
  refine wp_loc rfl rfl ?_
  exact wp_ifeq (tgt := 124) rfl (by decide) wt wf
theorem b103_64 {n : Nat} {h : q_Hp} {Q : Option Value → q_Hp → Prop} {x0 : Nat} {x1 : Int32} {x2 : Int32} {l3 : Option Value} {v0 : Nat} (k0 : q_ok h x0 4) (e0 : qR h x0 0 = v0) {m : Nat} {P : Int32 → q_Hp → Prop} (hc : q_mI m 71 [.ref v0, .int x2] h P) (hm : m ≤ n) (w : ∀ (z : Int32) (h1 : q_Hp), P z h1 → q_wp (n + 1) 103 72 [some (.ref x0), some (.int x1), some (.int x2), l3] [.int z] h1 Q) : q_wp (n + 1) 103 64 [some (.ref x0), some (.int x1), some (.int x2), l3] [] h Q := by
  refine wp_loc rfl rfl ?_
  refine wp_getR rfl rfl rfl rfl k0 e0 ?_
  refine wp_loc rfl rfl ?_
  exact wp_callI (av := [.ref v0, .int x2]) rfl rfl rfl (by decide) rfl rfl rfl hm hc w
theorem b103_72 {n : Nat} {h : q_Hp} {Q : Option Value → q_Hp → Prop} {x0 : Nat} {x1 : Int32} {x2 : Int32} {l3 : Option Value} {s0 : Int32} (wt : s0 = 0 → q_wp n 103 118 [some (.ref x0), some (.int x1), some (.int x2), l3] [] h Q) (wf : ¬ s0 = 0 → q_wp n 103 75 [some (.ref x0), some (.int x1), some (.int x2), l3] [] h Q) : q_wp n 103 72 [some (.ref x0), some (.int x1), some (.int x2), l3] [.int s0] h Q := by
  exact wp_ifeq (tgt := 118) rfl (by decide) wt wf
theorem b103_75 {n : Nat} {h : q_Hp} {Q : Option Value → q_Hp → Prop} {x0 : Nat} {x1 : Int32} {x2 : Int32} {l3 : Option Value} (k0 : q_ok h x0 4) (wt : ¬ (lg_cmp (((qL h x0 5) >>> ((x2 : Int32).toInt64 &&& 63)) &&& 1) 0) = 0 → q_wp n 103 118 [some (.ref x0), some (.int x1), some (.int x2), l3] [] h Q) (wf : (lg_cmp (((qL h x0 5) >>> ((x2 : Int32).toInt64 &&& 63)) &&& 1) 0) = 0 → q_wp n 103 88 [some (.ref x0), some (.int x1), some (.int x2), l3] [] h Q) : q_wp n 103 75 [some (.ref x0), some (.int x1), some (.int x2), l3] [] h Q := by
  refine wp_loc rfl rfl ?_
  refine wp_getJ rfl rfl rfl rfl k0 ?_
  refine wp_loc rfl rfl ?_
  refine wp_stk rfl rfl rfl ?_
  refine wp_lconst (v := 1) rfl (by decide) ?_
  refine wp_stk rfl rfl rfl ?_
  refine wp_lconst (v := 0) rfl (by decide) ?_
  refine wp_stk rfl rfl rfl ?_
  exact wp_ifne (tgt := 118) rfl (by decide) wt wf
theorem b103_88 {n : Nat} {h : q_Hp} {Q : Option Value → q_Hp → Prop} {x0 : Nat} {x1 : Int32} {x2 : Int32} {l3 : Option Value} {v0 : Nat} (k0 : q_ok h x0 4) (e0 : qR h x0 0 = v0) {m : Nat} {P : Int32 → q_Hp → Prop} (hc : q_mI m 69 [.ref v0, .int x2] h P) (hm : m ≤ n) (w : ∀ (z : Int32) (h1 : q_Hp), P z h1 → q_wp (n + 1) 103 97 [some (.ref x0), some (.int x1), some (.int x2), l3] [.int z, .int 1] h1 Q) : q_wp (n + 1) 103 88 [some (.ref x0), some (.int x1), some (.int x2), l3] [] h Q := by
  refine wp_iconst (v := 1) rfl (by decide) ?_
  refine wp_loc rfl rfl ?_
  refine wp_getR rfl rfl rfl rfl k0 e0 ?_
  refine wp_loc rfl rfl ?_
  exact wp_callI (av := [.ref v0, .int x2]) rfl rfl rfl (by decide) rfl rfl rfl hm hc w
theorem b103_97 {n : Nat} {h : q_Hp} {Q : Option Value → q_Hp → Prop} {x0 : Nat} {x1 : Int32} {x2 : Int32} {l3 : Option Value} {s0 : Int32} {s1 : Int32} {v0 : Nat} (k0 : q_ok h x0 4) (e0 : qR h x0 0 = v0) {m : Nat} {P : Int32 → q_Hp → Prop} (hc : q_mI m 70 [.ref v0, .int x2] h P) (hm : m ≤ n) (w : ∀ (z : Int32) (h1 : q_Hp), P z h1 → q_wp (n + 1) 103 107 [some (.ref x0), some (.int x1), some (.int x2), l3] [.int z, .int 1, .int (s1 <<< (s0 &&& 31))] h1 Q) : q_wp (n + 1) 103 97 [some (.ref x0), some (.int x1), some (.int x2), l3] [.int s0, .int s1] h Q := by
  refine wp_stk rfl rfl rfl ?_
  refine wp_iconst (v := 1) rfl (by decide) ?_
  refine wp_loc rfl rfl ?_
  refine wp_getR rfl rfl rfl rfl k0 e0 ?_
  refine wp_loc rfl rfl ?_
  exact wp_callI (av := [.ref v0, .int x2]) rfl rfl rfl (by decide) rfl rfl rfl hm hc w
theorem b103_107 {n : Nat} {h : q_Hp} {Q : Option Value → q_Hp → Prop} {x0 : Nat} {x1 : Int32} {x2 : Int32} {l3 : Option Value} {s0 : Int32} {s1 : Int32} {s2 : Int32} (wt : ((s2 ||| (s1 <<< (s0 &&& 31))) &&& x1) = 0 → q_wp n 103 118 [some (.ref x0), some (.int x1), some (.int x2), some (.int (s2 ||| (s1 <<< (s0 &&& 31))))] [] h Q) (wf : ¬ ((s2 ||| (s1 <<< (s0 &&& 31))) &&& x1) = 0 → q_wp n 103 116 [some (.ref x0), some (.int x1), some (.int x2), some (.int (s2 ||| (s1 <<< (s0 &&& 31))))] [] h Q) : q_wp n 103 107 [some (.ref x0), some (.int x1), some (.int x2), l3] [.int s0, .int s1, .int s2] h Q := by
  refine wp_stk rfl rfl rfl ?_
  refine wp_stk rfl rfl rfl ?_
  refine wp_loc rfl rfl ?_
  refine wp_loc rfl rfl ?_
  refine wp_loc rfl rfl ?_
  refine wp_stk rfl rfl rfl ?_
  exact wp_ifeq (tgt := 118) rfl (by decide) wt wf
theorem b103_116 {n : Nat} {h : q_Hp} {Q : Option Value → q_Hp → Prop} {x0 : Nat} {x1 : Int32} {x2 : Int32} {x3 : Int32} (q : Q (some (.int 1)) h) : q_wp n 103 116 [some (.ref x0), some (.int x1), some (.int x2), some (.int x3)] [] h Q := by
  refine wp_iconst (v := 1) rfl (by decide) ?_
  exact wp_ret (r := some (.int 1)) rfl rfl q
theorem b103_118 {n : Nat} {h : q_Hp} {Q : Option Value → q_Hp → Prop} {x0 : Nat} {x1 : Int32} {x2 : Int32} {l3 : Option Value} (w : q_wp n 103 54 [some (.ref x0), some (.int x1), some (.int (x2 + 1)), l3] [] h Q) : q_wp n 103 118 [some (.ref x0), some (.int x1), some (.int x2), l3] [] h Q := by
  refine wp_iinc (v := 1) rfl rfl (by decide) rfl ?_
  refine wp_goto (tgt := 54) rfl (by decide) ?_
  exact w
theorem b103_124 {n : Nat} {h : q_Hp} {Q : Option Value → q_Hp → Prop} {x0 : Nat} {x1 : Int32} {x2 : Int32} {l3 : Option Value} (q : Q (some (.int 0)) h) : q_wp n 103 124 [some (.ref x0), some (.int x1), some (.int x2), l3] [] h Q := by
  refine wp_iconst (v := 0) rfl (by decide) ?_
  exact wp_ret (r := some (.int 0)) rfl rfl q
theorem b104_0 {n : Nat} {h : q_Hp} {Q : Option Value → q_Hp → Prop} {x0 : Nat} {x1 : Int32} {v0 : Nat} {v1 : Nat} (k0 : q_ok h x0 4) (e0 : qR h x0 2 = v0) (k1 : q_ok h v0 6) (e1 : qR h v0 8 = v1) {m : Nat} {P : Int32 → q_Hp → Prop} (hc : q_mI m 232 [.ref v1, .int x1] h P) (hm : m ≤ n) (w : ∀ (z : Int32) (h1 : q_Hp), P z h1 → q_wp (n + 1) 104 11 [some (.ref x0), some (.int x1), none, none, none] [.int z] h1 Q) : q_wp (n + 1) 104 0 [some (.ref x0), some (.int x1), none, none, none] [] h Q := by
  refine wp_loc rfl rfl ?_
  refine wp_getR rfl rfl rfl rfl k0 e0 ?_
  refine wp_getR rfl rfl rfl rfl k1 e1 ?_
  refine wp_loc rfl rfl ?_
  exact wp_callI (av := [.ref v1, .int x1]) rfl rfl rfl (by decide) rfl rfl rfl hm hc w
theorem b104_11 {n : Nat} {h : q_Hp} {Q : Option Value → q_Hp → Prop} {x0 : Nat} {x1 : Int32} {s0 : Int32} (wt : s0 = (-1) → q_wp n 104 19 [some (.ref x0), some (.int x1), none, none, none] [] h Q) (wf : ¬ s0 = (-1) → q_wp n 104 15 [some (.ref x0), some (.int x1), none, none, none] [] h Q) : q_wp n 104 11 [some (.ref x0), some (.int x1), none, none, none] [.int s0] h Q := by
  refine wp_iconst (v := (-1)) rfl (by decide) ?_
  exact wp_iceq (tgt := 19) rfl (by decide) wt wf
theorem b104_15 {n : Nat} {h : q_Hp} {Q : Option Value → q_Hp → Prop} {x0 : Nat} {x1 : Int32} (w : q_wp n 104 20 [some (.ref x0), some (.int x1), none, none, none] [.int 1] h Q) : q_wp n 104 15 [some (.ref x0), some (.int x1), none, none, none] [] h Q := by
  refine wp_iconst (v := 1) rfl (by decide) ?_
  refine wp_goto (tgt := 20) rfl (by decide) ?_
  exact w
theorem b104_19 {n : Nat} {h : q_Hp} {Q : Option Value → q_Hp → Prop} {x0 : Nat} {x1 : Int32} (w : q_wp n 104 20 [some (.ref x0), some (.int x1), none, none, none] [.int 0] h Q) : q_wp n 104 19 [some (.ref x0), some (.int x1), none, none, none] [] h Q := by
  refine wp_iconst (v := 0) rfl (by decide) ?_
  exact w
theorem b104_20 {n : Nat} {h : q_Hp} {Q : Option Value → q_Hp → Prop} {x0 : Nat} {x1 : Int32} {s0 : Int32} (wt : s0 = 0 → q_wp n 104 30 [some (.ref x0), some (.int x1), some (.int s0), none, none] [] h Q) (wf : ¬ s0 = 0 → q_wp n 104 25 [some (.ref x0), some (.int x1), some (.int s0), none, none] [] h Q) : q_wp n 104 20 [some (.ref x0), some (.int x1), none, none, none] [.int s0] h Q := by
  refine wp_loc rfl rfl ?_
  refine wp_loc rfl rfl ?_
  exact wp_ifeq (tgt := 30) rfl (by decide) wt wf
theorem b104_25 {n : Nat} {h : q_Hp} {Q : Option Value → q_Hp → Prop} {x0 : Nat} {x1 : Int32} {x2 : Int32} (w : q_wp n 104 31 [some (.ref x0), some (.int x1), some (.int x2), none, none] [.int 12] h Q) : q_wp n 104 25 [some (.ref x0), some (.int x1), some (.int x2), none, none] [] h Q := by
  refine wp_bipush (v := 12) rfl (by decide) ?_
  refine wp_goto (tgt := 31) rfl (by decide) ?_
  exact w
theorem b104_30 {n : Nat} {h : q_Hp} {Q : Option Value → q_Hp → Prop} {x0 : Nat} {x1 : Int32} {x2 : Int32} (w : q_wp n 104 31 [some (.ref x0), some (.int x1), some (.int x2), none, none] [.int 1] h Q) : q_wp n 104 30 [some (.ref x0), some (.int x1), some (.int x2), none, none] [] h Q := by
  refine wp_iconst (v := 1) rfl (by decide) ?_
  exact w
theorem b104_31 {n : Nat} {h : q_Hp} {Q : Option Value → q_Hp → Prop} {x0 : Nat} {x1 : Int32} {x2 : Int32} {s0 : Int32} (w : q_wp n 104 35 [some (.ref x0), some (.int x1), some (.int x2), some (.int s0), some (.int 0)] [] h Q) : q_wp n 104 31 [some (.ref x0), some (.int x1), some (.int x2), none, none] [.int s0] h Q := by
  refine wp_loc rfl rfl ?_
  refine wp_iconst (v := 0) rfl (by decide) ?_
  refine wp_loc rfl rfl ?_
  exact w
theorem b104_35 {n : Nat} {h : q_Hp} {Q : Option Value → q_Hp → Prop} {x0 : Nat} {x1 : Int32} {x2 : Int32} {x3 : Int32} {x4 : Int32} (wt : x3 ≤ x4 → q_wp n 104 80 [some (.ref x0), some (.int x1), some (.int x2), some (.int x3), some (.int x4)] [] h Q) (wf : ¬ x3 ≤ x4 → q_wp n 104 41 [some (.ref x0), some (.int x1), some (.int x2), some (.int x3), some (.int x4)] [] h Q) : q_wp n 104 35 [some (.ref x0), some (.int x1), some (.int x2), some (.int x3), some (.int x4)] [] h Q := by
  refine wp_loc rfl rfl ?_
  refine wp_loc rfl rfl ?_
  exact wp_icge (tgt := 80) rfl (by decide) wt wf
theorem b104_41 {n : Nat} {h : q_Hp} {Q : Option Value → q_Hp → Prop} {x0 : Nat} {x1 : Int32} {x2 : Int32} {x3 : Int32} {x4 : Int32} (wt : x2 = 0 → q_wp n 104 62 [some (.ref x0), some (.int x1), some (.int x2), some (.int x3), some (.int x4)] [] h Q) (wf : ¬ x2 = 0 → q_wp n 104 45 [some (.ref x0), some (.int x1), some (.int x2), some (.int x3), some (.int x4)] [] h Q) : q_wp n 104 41 [some (.ref x0), some (.int x1), some (.int x2), some (.int x3), some (.int x4)] [] h Q := by
  refine wp_loc rfl rfl ?_
  exact wp_ifeq (tgt := 62) rfl (by decide) wt wf
theorem b104_45 {n : Nat} {h : q_Hp} {Q : Option Value → q_Hp → Prop} {x0 : Nat} {x1 : Int32} {x2 : Int32} {x3 : Int32} {x4 : Int32} {v0 : Nat} (k0 : q_ok h x0 4) (e0 : qR h x0 8 = v0) {m : Nat} {P : Int32 → q_Hp → Prop} (hc : q_mI m 232 [.ref v0, .int x1] h P) (hm : m ≤ n) (w : ∀ (z : Int32) (h1 : q_Hp), P z h1 → q_wp (n + 1) 104 53 [some (.ref x0), some (.int x1), some (.int x2), some (.int x3), some (.int x4)] [.int z] h1 Q) : q_wp (n + 1) 104 45 [some (.ref x0), some (.int x1), some (.int x2), some (.int x3), some (.int x4)] [] h Q := by
  refine wp_loc rfl rfl ?_
  refine wp_getR rfl rfl rfl rfl k0 e0 ?_
  refine wp_loc rfl rfl ?_
  exact wp_callI (av := [.ref v0, .int x1]) rfl rfl rfl (by decide) rfl rfl rfl hm hc w
theorem b104_53 {n : Nat} {h : q_Hp} {Q : Option Value → q_Hp → Prop} {x0 : Nat} {x1 : Int32} {x2 : Int32} {x3 : Int32} {x4 : Int32} {s0 : Int32} (wt : ¬ ((s0 >>> (x4 &&& 31)) &&& 1) = 1 → q_wp n 104 74 [some (.ref x0), some (.int x1), some (.int x2), some (.int x3), some (.int x4)] [] h Q) (wf : ((s0 >>> (x4 &&& 31)) &&& 1) = 1 → q_wp n 104 62 [some (.ref x0), some (.int x1), some (.int x2), some (.int x3), some (.int x4)] [] h Q) : q_wp n 104 53 [some (.ref x0), some (.int x1), some (.int x2), some (.int x3), some (.int x4)] [.int s0] h Q := by
  refine wp_loc rfl rfl ?_
  refine wp_stk rfl rfl rfl ?_
  refine wp_iconst (v := 1) rfl (by decide) ?_
  refine wp_stk rfl rfl rfl ?_
  refine wp_iconst (v := 1) rfl (by decide) ?_
  exact wp_icne (tgt := 74) rfl (by decide) wt wf
theorem b104_62 {n : Nat} {h : q_Hp} {Q : Option Value → q_Hp → Prop} {x0 : Nat} {x1 : Int32} {x2 : Int32} {x3 : Int32} {x4 : Int32} {m : Nat} {P : Int32 → q_Hp → Prop} (hc : q_mI m 105 [.ref x0, .int x1, .int x4] h P) (hm : m ≤ n) (w : ∀ (z : Int32) (h1 : q_Hp), P z h1 → q_wp (n + 1) 104 69 [some (.ref x0), some (.int x1), some (.int x2), some (.int x3), some (.int x4)] [.int z] h1 Q) : q_wp (n + 1) 104 62 [some (.ref x0), some (.int x1), some (.int x2), some (.int x3), some (.int x4)] [] h Q := by
  refine wp_loc rfl rfl ?_
  refine wp_loc rfl rfl ?_
  refine wp_loc rfl rfl ?_
  exact wp_callI (av := [.ref x0, .int x1, .int x4]) rfl rfl rfl (by decide) rfl rfl rfl hm hc w
theorem b104_69 {n : Nat} {h : q_Hp} {Q : Option Value → q_Hp → Prop} {x0 : Nat} {x1 : Int32} {x2 : Int32} {x3 : Int32} {x4 : Int32} {s0 : Int32} (wt : s0 = 0 → q_wp n 104 74 [some (.ref x0), some (.int x1), some (.int x2), some (.int x3), some (.int x4)] [] h Q) (wf : ¬ s0 = 0 → q_wp n 104 72 [some (.ref x0), some (.int x1), some (.int x2), some (.int x3), some (.int x4)] [] h Q) : q_wp n 104 69 [some (.ref x0), some (.int x1), some (.int x2), some (.int x3), some (.int x4)] [.int s0] h Q := by
  exact wp_ifeq (tgt := 74) rfl (by decide) wt wf
theorem b104_72 {n : Nat} {h : q_Hp} {Q : Option Value → q_Hp → Prop} {x0 : Nat} {x1 : Int32} {x2 : Int32} {x3 : Int32} {x4 : Int32} (q : Q (some (.int 1)) h) : q_wp n 104 72 [some (.ref x0), some (.int x1), some (.int x2), some (.int x3), some (.int x4)] [] h Q := by
  refine wp_iconst (v := 1) rfl (by decide) ?_
  exact wp_ret (r := some (.int 1)) rfl rfl q
theorem b104_74 {n : Nat} {h : q_Hp} {Q : Option Value → q_Hp → Prop} {x0 : Nat} {x1 : Int32} {x2 : Int32} {x3 : Int32} {x4 : Int32} (w : q_wp n 104 35 [some (.ref x0), some (.int x1), some (.int x2), some (.int x3), some (.int (x4 + 1))] [] h Q) : q_wp n 104 74 [some (.ref x0), some (.int x1), some (.int x2), some (.int x3), some (.int x4)] [] h Q := by
  refine wp_iinc (v := 1) rfl rfl (by decide) rfl ?_
  refine wp_goto (tgt := 35) rfl (by decide) ?_
  exact w
theorem b104_80 {n : Nat} {h : q_Hp} {Q : Option Value → q_Hp → Prop} {x0 : Nat} {x1 : Int32} {x2 : Int32} {x3 : Int32} {x4 : Int32} (q : Q (some (.int 0)) h) : q_wp n 104 80 [some (.ref x0), some (.int x1), some (.int x2), some (.int x3), some (.int x4)] [] h Q := by
  refine wp_iconst (v := 0) rfl (by decide) ?_
  exact wp_ret (r := some (.int 0)) rfl rfl q
theorem b105_0 {n : Nat} {h : q_Hp} {Q : Option Value → q_Hp → Prop} {x0 : Nat} {x1 : Int32} {x2 : Int32} (k0 : q_ok h x0 4) (w : q_wp n 105 8 [some (.ref x0), some (.int x1), some (.int x2), some (.long (qL h x0 5)), none, some (.int 0), none, none, none, none, none, none, none] [] h Q) : q_wp n 105 0 [some (.ref x0), some (.int x1), some (.int x2), none, none, none, none, none, none, none, none, none, none] [] h Q := by
  refine wp_loc rfl rfl ?_
  refine wp_getJ rfl rfl rfl rfl k0 ?_
  refine wp_loc rfl rfl ?_
  refine wp_iconst (v := 0) rfl (by decide) ?_
  refine wp_loc rfl rfl ?_
  exact w
theorem b105_8 {n : Nat} {h : q_Hp} {Q : Option Value → q_Hp → Prop} {x0 : Nat} {x1 : Int32} {x2 : Int32} {x3 : Int64} {x5 : Int32} {l6 : Option Value} {l7 : Option Value} {l8 : Option Value} {l9 : Option Value} {l10 : Option Value} {l11 : Option Value} {l12 : Option Value} {v0 : Nat} {v1 : Nat} (k0 : q_ok h x0 4) (e0 : qR h x0 2 = v0) (k1 : q_ok h v0 6) (e1 : qR h v0 9 = v1) {m : Nat} {P : Int32 → q_Hp → Prop} (hc : q_mI m 232 [.ref v1, .int x1] h P) (hm : m ≤ n) (w : ∀ (z : Int32) (h1 : q_Hp), P z h1 → q_wp (n + 1) 105 21 [some (.ref x0), some (.int x1), some (.int x2), some (.long x3), none, some (.int x5), l6, l7, l8, l9, l10, l11, l12] [.int z, .int x5] h1 Q) : q_wp (n + 1) 105 8 [some (.ref x0), some (.int x1), some (.int x2), some (.long x3), none, some (.int x5), l6, l7, l8, l9, l10, l11, l12] [] h Q := by
  refine wp_loc rfl rfl ?_
  refine wp_loc rfl rfl ?_
  refine wp_getR rfl rfl rfl rfl k0 e0 ?_
  refine wp_getR rfl rfl rfl rfl k1 e1 ?_
  refine wp_loc rfl rfl ?_
  exact wp_callI (av := [.ref v1, .int x1]) rfl rfl rfl (by decide) rfl rfl rfl hm hc w
theorem b105_21 {n : Nat} {h : q_Hp} {Q : Option Value → q_Hp → Prop} {x0 : Nat} {x1 : Int32} {x2 : Int32} {x3 : Int64} {x5 : Int32} {l6 : Option Value} {l7 : Option Value} {l8 : Option Value} {l9 : Option Value} {l10 : Option Value} {l11 : Option Value} {l12 : Option Value} {s0 : Int32} {s1 : Int32} (wt : s0 ≤ s1 → q_wp n 105 179 [some (.ref x0), some (.int x1), some (.int x2), some (.long x3), none, some (.int x5), l6, l7, l8, l9, l10, l11, l12] [] h Q) (wf : ¬ s0 ≤ s1 → q_wp n 105 24 [some (.ref x0), some (.int x1), some (.int x2), some (.long x3), none, some (.int x5), l6, l7, l8, l9, l10, l11, l12] [] h Q) : q_wp n 105 21 [some (.ref x0), some (.int x1), some (.int x2), some (.long x3), none, some (.int x5), l6, l7, l8, l9, l10, l11, l12] [.int s0, .int s1] h Q := by
  exact wp_icge (tgt := 179) rfl (by decide) wt wf
theorem b105_24 {n : Nat} {h : q_Hp} {Q : Option Value → q_Hp → Prop} {x0 : Nat} {x1 : Int32} {x2 : Int32} {x3 : Int64} {x5 : Int32} {l6 : Option Value} {l7 : Option Value} {l8 : Option Value} {l9 : Option Value} {l10 : Option Value} {l11 : Option Value} {l12 : Option Value} {m : Nat} {P : Int32 → q_Hp → Prop} (hc : q_mI m 130 [.int x1] h P) (hm : m ≤ n) (w : ∀ (z : Int32) (h1 : q_Hp), P z h1 → q_wp (n + 1) 105 28 [some (.ref x0), some (.int x1), some (.int x2), some (.long x3), none, some (.int x5), l6, l7, l8, l9, l10, l11, l12] [.int z] h1 Q) : q_wp (n + 1) 105 24 [some (.ref x0), some (.int x1), some (.int x2), some (.long x3), none, some (.int x5), l6, l7, l8, l9, l10, l11, l12] [] h Q := by
  refine wp_loc rfl rfl ?_
  exact wp_callI (av := [.int x1]) rfl rfl rfl (by decide) rfl rfl rfl hm hc w
theorem b105_28 {n : Nat} {h : q_Hp} {Q : Option Value → q_Hp → Prop} {x0 : Nat} {x1 : Int32} {x2 : Int32} {x3 : Int64} {x5 : Int32} {l6 : Option Value} {l7 : Option Value} {l8 : Option Value} {l9 : Option Value} {l10 : Option Value} {l11 : Option Value} {l12 : Option Value} {s0 : Int32} {v0 : Nat} {v1 : Nat} (k0 : q_ok h x0 4) (e0 : qR h x0 2 = v0) (k1 : q_ok h v0 6) (e1 : qR h v0 11 = v1) {m : Nat} {P : Int32 → q_Hp → Prop} (hc : q_mI m 232 [.ref v1, .int (s0 + x5)] h P) (hm : m ≤ n) (w : ∀ (z : Int32) (h1 : q_Hp), P z h1 → q_wp (n + 1) 105 45 [some (.ref x0), some (.int x1), some (.int x2), some (.long x3), none, some (.int x5), some (.int (s0 + x5)), l7, l8, l9, l10, l11, l12] [.int z] h1 Q) : q_wp (n + 1) 105 28 [some (.ref x0), some (.int x1), some (.int x2), some (.long x3), none, some (.int x5), l6, l7, l8, l9, l10, l11, l12] [.int s0] h Q := by
  refine wp_loc rfl rfl ?_
  refine wp_stk rfl rfl rfl ?_
  refine wp_loc rfl rfl ?_
  refine wp_loc rfl rfl ?_
  refine wp_getR rfl rfl rfl rfl k0 e0 ?_
  refine wp_getR rfl rfl rfl rfl k1 e1 ?_
  refine wp_loc rfl rfl ?_
  exact wp_callI (av := [.ref v1, .int (s0 + x5)]) rfl rfl rfl (by decide) rfl rfl rfl hm hc w
theorem b105_45 {n : Nat} {h : q_Hp} {Q : Option Value → q_Hp → Prop} {x0 : Nat} {x1 : Int32} {x2 : Int32} {x3 : Int64} {x5 : Int32} {x6 : Int32} {l7 : Option Value} {l8 : Option Value} {l9 : Option Value} {l10 : Option Value} {l11 : Option Value} {l12 : Option Value} {s0 : Int32} {v0 : Nat} {v1 : Nat} (k0 : q_ok h x0 4) (e0 : qR h x0 2 = v0) (k1 : q_ok h v0 6) (e1 : qR h v0 12 = v1) {m : Nat} {P : Int32 → q_Hp → Prop} (hc : q_mI m 232 [.ref v1, .int x6] h P) (hm : m ≤ n) (w : ∀ (z : Int32) (h1 : q_Hp), P z h1 → q_wp (n + 1) 105 59 [some (.ref x0), some (.int x1), some (.int x2), some (.long x3), none, some (.int x5), some (.int x6), some (.int s0), l8, l9, l10, l11, l12] [.int z] h1 Q) : q_wp (n + 1) 105 45 [some (.ref x0), some (.int x1), some (.int x2), some (.long x3), none, some (.int x5), some (.int x6), l7, l8, l9, l10, l11, l12] [.int s0] h Q := by
  refine wp_loc rfl rfl ?_
  refine wp_loc rfl rfl ?_
  refine wp_getR rfl rfl rfl rfl k0 e0 ?_
  refine wp_getR rfl rfl rfl rfl k1 e1 ?_
  refine wp_loc rfl rfl ?_
  exact wp_callI (av := [.ref v1, .int x6]) rfl rfl rfl (by decide) rfl rfl rfl hm hc w
theorem b105_59 {n : Nat} {h : q_Hp} {Q : Option Value → q_Hp → Prop} {x0 : Nat} {x1 : Int32} {x2 : Int32} {x3 : Int64} {x5 : Int32} {x6 : Int32} {x7 : Int32} {l8 : Option Value} {l9 : Option Value} {l10 : Option Value} {l11 : Option Value} {l12 : Option Value} {s0 : Int32} (wt : ¬ x7 = 4 → q_wp n 105 71 [some (.ref x0), some (.int x1), some (.int x2), some (.long x3), none, some (.int x5), some (.int x6), some (.int x7), some (.int s0), l9, l10, l11, l12] [] h Q) (wf : x7 = 4 → q_wp n 105 67 [some (.ref x0), some (.int x1), some (.int x2), some (.long x3), none, some (.int x5), some (.int x6), some (.int x7), some (.int s0), l9, l10, l11, l12] [] h Q) : q_wp n 105 59 [some (.ref x0), some (.int x1), some (.int x2), some (.long x3), none, some (.int x5), some (.int x6), some (.int x7), l8, l9, l10, l11, l12] [.int s0] h Q := by
  refine wp_loc rfl rfl ?_
  refine wp_loc rfl rfl ?_
  refine wp_iconst (v := 4) rfl (by decide) ?_
  exact wp_icne (tgt := 71) rfl (by decide) wt wf
theorem b105_67 {n : Nat} {h : q_Hp} {Q : Option Value → q_Hp → Prop} {x0 : Nat} {x1 : Int32} {x2 : Int32} {x3 : Int64} {x5 : Int32} {x6 : Int32} {x7 : Int32} {x8 : Int32} {l9 : Option Value} {l10 : Option Value} {l11 : Option Value} {l12 : Option Value} (w : q_wp n 105 80 [some (.ref x0), some (.int x1), some (.int x2), some (.long x3), none, some (.int x5), some (.int x6), some (.int x7), some (.int x8), l9, l10, l11, l12] [.int x2] h Q) : q_wp n 105 67 [some (.ref x0), some (.int x1), some (.int x2), some (.long x3), none, some (.int x5), some (.int x6), some (.int x7), some (.int x8), l9, l10, l11, l12] [] h Q := by
  refine wp_loc rfl rfl ?_
  refine wp_goto (tgt := 80) rfl (by decide) ?_
  exact w
theorem b105_71 {n : Nat} {h : q_Hp} {Q : Option Value → q_Hp → Prop} {x0 : Nat} {x1 : Int32} {x2 : Int32} {x3 : Int64} {x5 : Int32} {x6 : Int32} {x7 : Int32} {x8 : Int32} {l9 : Option Value} {l10 : Option Value} {l11 : Option Value} {l12 : Option Value} {v0 : Nat} (k0 : q_ok h x0 4) (e0 : qR h x0 3 = v0) {m : Nat} {P : Int32 → q_Hp → Prop} (hc : q_mI m 232 [.ref v0, .int x7] h P) (hm : m ≤ n) (w : ∀ (z : Int32) (h1 : q_Hp), P z h1 → q_wp (n + 1) 105 80 [some (.ref x0), some (.int x1), some (.int x2), some (.long x3), none, some (.int x5), some (.int x6), some (.int x7), some (.int x8), l9, l10, l11, l12] [.int z] h1 Q) : q_wp (n + 1) 105 71 [some (.ref x0), some (.int x1), some (.int x2), some (.long x3), none, some (.int x5), some (.int x6), some (.int x7), some (.int x8), l9, l10, l11, l12] [] h Q := by
  refine wp_loc rfl rfl ?_
  refine wp_getR rfl rfl rfl rfl k0 e0 ?_
  refine wp_loc rfl rfl ?_
  exact wp_callI (av := [.ref v0, .int x7]) rfl rfl rfl (by decide) rfl rfl rfl hm hc w
theorem b105_80 {n : Nat} {h : q_Hp} {Q : Option Value → q_Hp → Prop} {x0 : Nat} {x1 : Int32} {x2 : Int32} {x3 : Int64} {x5 : Int32} {x6 : Int32} {x7 : Int32} {x8 : Int32} {l9 : Option Value} {l10 : Option Value} {l11 : Option Value} {l12 : Option Value} {s0 : Int32} (wt : ¬ x8 = 4 → q_wp n 105 92 [some (.ref x0), some (.int x1), some (.int x2), some (.long x3), none, some (.int x5), some (.int x6), some (.int x7), some (.int x8), some (.int s0), l10, l11, l12] [] h Q) (wf : x8 = 4 → q_wp n 105 88 [some (.ref x0), some (.int x1), some (.int x2), some (.long x3), none, some (.int x5), some (.int x6), some (.int x7), some (.int x8), some (.int s0), l10, l11, l12] [] h Q) : q_wp n 105 80 [some (.ref x0), some (.int x1), some (.int x2), some (.long x3), none, some (.int x5), some (.int x6), some (.int x7), some (.int x8), l9, l10, l11, l12] [.int s0] h Q := by
  refine wp_loc rfl rfl ?_
  refine wp_loc rfl rfl ?_
  refine wp_iconst (v := 4) rfl (by decide) ?_
  exact wp_icne (tgt := 92) rfl (by decide) wt wf
theorem b105_88 {n : Nat} {h : q_Hp} {Q : Option Value → q_Hp → Prop} {x0 : Nat} {x1 : Int32} {x2 : Int32} {x3 : Int64} {x5 : Int32} {x6 : Int32} {x7 : Int32} {x8 : Int32} {x9 : Int32} {l10 : Option Value} {l11 : Option Value} {l12 : Option Value} (w : q_wp n 105 101 [some (.ref x0), some (.int x1), some (.int x2), some (.long x3), none, some (.int x5), some (.int x6), some (.int x7), some (.int x8), some (.int x9), l10, l11, l12] [.int x2] h Q) : q_wp n 105 88 [some (.ref x0), some (.int x1), some (.int x2), some (.long x3), none, some (.int x5), some (.int x6), some (.int x7), some (.int x8), some (.int x9), l10, l11, l12] [] h Q := by
  refine wp_loc rfl rfl ?_
  refine wp_goto (tgt := 101) rfl (by decide) ?_
  exact w
theorem b105_92 {n : Nat} {h : q_Hp} {Q : Option Value → q_Hp → Prop} {x0 : Nat} {x1 : Int32} {x2 : Int32} {x3 : Int64} {x5 : Int32} {x6 : Int32} {x7 : Int32} {x8 : Int32} {x9 : Int32} {l10 : Option Value} {l11 : Option Value} {l12 : Option Value} {v0 : Nat} (k0 : q_ok h x0 4) (e0 : qR h x0 3 = v0) {m : Nat} {P : Int32 → q_Hp → Prop} (hc : q_mI m 232 [.ref v0, .int x8] h P) (hm : m ≤ n) (w : ∀ (z : Int32) (h1 : q_Hp), P z h1 → q_wp (n + 1) 105 101 [some (.ref x0), some (.int x1), some (.int x2), some (.long x3), none, some (.int x5), some (.int x6), some (.int x7), some (.int x8), some (.int x9), l10, l11, l12] [.int z] h1 Q) : q_wp (n + 1) 105 92 [some (.ref x0), some (.int x1), some (.int x2), some (.long x3), none, some (.int x5), some (.int x6), some (.int x7), some (.int x8), some (.int x9), l10, l11, l12] [] h Q := by
  refine wp_loc rfl rfl ?_
  refine wp_getR rfl rfl rfl rfl k0 e0 ?_
  refine wp_loc rfl rfl ?_
  exact wp_callI (av := [.ref v0, .int x8]) rfl rfl rfl (by decide) rfl rfl rfl hm hc w
theorem b105_101 {n : Nat} {h : q_Hp} {Q : Option Value → q_Hp → Prop} {x0 : Nat} {x1 : Int32} {x2 : Int32} {x3 : Int64} {x5 : Int32} {x6 : Int32} {x7 : Int32} {x8 : Int32} {x9 : Int32} {l10 : Option Value} {l11 : Option Value} {l12 : Option Value} {s0 : Int32} {v0 : Nat} {v1 : Nat} (k0 : q_ok h x0 4) (e0 : qR h x0 2 = v0) (k1 : q_ok h v0 6) (e1 : qR h v0 10 = v1) {m : Nat} {P : Int32 → q_Hp → Prop} (hc : q_mI m 232 [.ref v1, .int x6] h P) (hm : m ≤ n) (w : ∀ (z : Int32) (h1 : q_Hp), P z h1 → q_wp (n + 1) 105 115 [some (.ref x0), some (.int x1), some (.int x2), some (.long x3), none, some (.int x5), some (.int x6), some (.int x7), some (.int x8), some (.int x9), some (.int s0), l11, l12] [.int z] h1 Q) : q_wp (n + 1) 105 101 [some (.ref x0), some (.int x1), some (.int x2), some (.long x3), none, some (.int x5), some (.int x6), some (.int x7), some (.int x8), some (.int x9), l10, l11, l12] [.int s0] h Q := by
  refine wp_loc rfl rfl ?_
  refine wp_loc rfl rfl ?_
  refine wp_getR rfl rfl rfl rfl k0 e0 ?_
  refine wp_getR rfl rfl rfl rfl k1 e1 ?_
  refine wp_loc rfl rfl ?_
  exact wp_callI (av := [.ref v1, .int x6]) rfl rfl rfl (by decide) rfl rfl rfl hm hc w
theorem b105_115 {n : Nat} {h : q_Hp} {Q : Option Value → q_Hp → Prop} {x0 : Nat} {x1 : Int32} {x2 : Int32} {x3 : Int64} {x5 : Int32} {x6 : Int32} {x7 : Int32} {x8 : Int32} {x9 : Int32} {x10 : Int32} {l11 : Option Value} {l12 : Option Value} {s0 : Int32} {v0 : Nat} (k0 : q_ok h x0 4) (e0 : qR h x0 9 = v0) {m : Nat} {P : Int32 → q_Hp → Prop} (hc : q_mI m 232 [.ref v0, .int ((s0 * 12) + x9)] h P) (hm : m ≤ n) (w : ∀ (z : Int32) (h1 : q_Hp), P z h1 → q_wp (n + 1) 105 132 [some (.ref x0), some (.int x1), some (.int x2), some (.long x3), none, some (.int x5), some (.int x6), some (.int x7), some (.int x8), some (.int x9), some (.int x10), some (.int s0), l12] [.int z] h1 Q) : q_wp (n + 1) 105 115 [some (.ref x0), some (.int x1), some (.int x2), some (.long x3), none, some (.int x5), some (.int x6), some (.int x7), some (.int x8), some (.int x9), some (.int x10), l11, l12] [.int s0] h Q := by
  refine wp_loc rfl rfl ?_
  refine wp_loc rfl rfl ?_
  refine wp_getR rfl rfl rfl rfl k0 e0 ?_
  refine wp_loc rfl rfl ?_
  refine wp_bipush (v := 12) rfl (by decide) ?_
  refine wp_stk rfl rfl rfl ?_
  refine wp_loc rfl rfl ?_
  refine wp_stk rfl rfl rfl ?_
  exact wp_callI (av := [.ref v0, .int ((s0 * 12) + x9)]) rfl rfl rfl (by decide) rfl rfl rfl hm hc w
theorem b105_132 {n : Nat} {h : q_Hp} {Q : Option Value → q_Hp → Prop} {x0 : Nat} {x1 : Int32} {x2 : Int32} {x3 : Int64} {x5 : Int32} {x6 : Int32} {x7 : Int32} {x8 : Int32} {x9 : Int32} {x10 : Int32} {x11 : Int32} {l12 : Option Value} {s0 : Int32} (wt : ¬ ((s0 >>> (x10 &&& 31)) &&& 1) = 0 → q_wp n 105 142 [some (.ref x0), some (.int x1), some (.int x2), some (.long x3), none, some (.int x5), some (.int x6), some (.int x7), some (.int x8), some (.int x9), some (.int x10), some (.int x11), l12] [] h Q) (wf : ((s0 >>> (x10 &&& 31)) &&& 1) = 0 → q_wp n 105 140 [some (.ref x0), some (.int x1), some (.int x2), some (.long x3), none, some (.int x5), some (.int x6), some (.int x7), some (.int x8), some (.int x9), some (.int x10), some (.int x11), l12] [] h Q) : q_wp n 105 132 [some (.ref x0), some (.int x1), some (.int x2), some (.long x3), none, some (.int x5), some (.int x6), some (.int x7), some (.int x8), some (.int x9), some (.int x10), some (.int x11), l12] [.int s0] h Q := by
  refine wp_loc rfl rfl ?_
  refine wp_stk rfl rfl rfl ?_
  refine wp_iconst (v := 1) rfl (by decide) ?_
  refine wp_stk rfl rfl rfl ?_
  exact wp_ifne (tgt := 142) rfl (by decide) wt wf
theorem b105_140 {n : Nat} {h : q_Hp} {Q : Option Value → q_Hp → Prop} {x0 : Nat} {x1 : Int32} {x2 : Int32} {x3 : Int64} {x5 : Int32} {x6 : Int32} {x7 : Int32} {x8 : Int32} {x9 : Int32} {x10 : Int32} {x11 : Int32} {l12 : Option Value} (q : Q (some (.int 0)) h) : q_wp n 105 140 [some (.ref x0), some (.int x1), some (.int x2), some (.long x3), none, some (.int x5), some (.int x6), some (.int x7), some (.int x8), some (.int x9), some (.int x10), some (.int x11), l12] [] h Q := by
  refine wp_iconst (v := 0) rfl (by decide) ?_
  exact wp_ret (r := some (.int 0)) rfl rfl q
theorem b105_142 {n : Nat} {h : q_Hp} {Q : Option Value → q_Hp → Prop} {x0 : Nat} {x1 : Int32} {x2 : Int32} {x3 : Int64} {x5 : Int32} {x6 : Int32} {x7 : Int32} {x8 : Int32} {x9 : Int32} {x10 : Int32} {x11 : Int32} {l12 : Option Value} {v0 : Nat} (k0 : q_ok h x0 4) (e0 : qR h x0 0 = v0) {m : Nat} {P : Int32 → q_Hp → Prop} (hc : q_mI m 76 [.ref v0, .int x11, .int x9, .int x10, .long x3] h P) (hm : m ≤ n) (w : ∀ (z : Int32) (h1 : q_Hp), P z h1 → q_wp (n + 1) 105 156 [some (.ref x0), some (.int x1), some (.int x2), some (.long x3), none, some (.int x5), some (.int x6), some (.int x7), some (.int x8), some (.int x9), some (.int x10), some (.int x11), l12] [.int z] h1 Q) : q_wp (n + 1) 105 142 [some (.ref x0), some (.int x1), some (.int x2), some (.long x3), none, some (.int x5), some (.int x6), some (.int x7), some (.int x8), some (.int x9), some (.int x10), some (.int x11), l12] [] h Q := by
  refine wp_loc rfl rfl ?_
  refine wp_getR rfl rfl rfl rfl k0 e0 ?_
  refine wp_loc rfl rfl ?_
  refine wp_loc rfl rfl ?_
  refine wp_loc rfl rfl ?_
  refine wp_loc rfl rfl ?_
  exact wp_callI (av := [.ref v0, .int x11, .int x9, .int x10, .long x3]) rfl rfl rfl (by decide) rfl rfl rfl hm hc w
theorem b105_156 {n : Nat} {h : q_Hp} {Q : Option Value → q_Hp → Prop} {x0 : Nat} {x1 : Int32} {x2 : Int32} {x3 : Int64} {x5 : Int32} {x6 : Int32} {x7 : Int32} {x8 : Int32} {x9 : Int32} {x10 : Int32} {x11 : Int32} {l12 : Option Value} {s0 : Int32} (wt : ¬ s0 = (-1) → q_wp n 105 166 [some (.ref x0), some (.int x1), some (.int x2), some (.long x3), none, some (.int x5), some (.int x6), some (.int x7), some (.int x8), some (.int x9), some (.int x10), some (.int x11), some (.int s0)] [] h Q) (wf : s0 = (-1) → q_wp n 105 164 [some (.ref x0), some (.int x1), some (.int x2), some (.long x3), none, some (.int x5), some (.int x6), some (.int x7), some (.int x8), some (.int x9), some (.int x10), some (.int x11), some (.int s0)] [] h Q) : q_wp n 105 156 [some (.ref x0), some (.int x1), some (.int x2), some (.long x3), none, some (.int x5), some (.int x6), some (.int x7), some (.int x8), some (.int x9), some (.int x10), some (.int x11), l12] [.int s0] h Q := by
  refine wp_loc rfl rfl ?_
  refine wp_loc rfl rfl ?_
  refine wp_iconst (v := (-1)) rfl (by decide) ?_
  exact wp_icne (tgt := 166) rfl (by decide) wt wf
theorem b105_164 {n : Nat} {h : q_Hp} {Q : Option Value → q_Hp → Prop} {x0 : Nat} {x1 : Int32} {x2 : Int32} {x3 : Int64} {x5 : Int32} {x6 : Int32} {x7 : Int32} {x8 : Int32} {x9 : Int32} {x10 : Int32} {x11 : Int32} {x12 : Int32} (q : Q (some (.int 0)) h) : q_wp n 105 164 [some (.ref x0), some (.int x1), some (.int x2), some (.long x3), none, some (.int x5), some (.int x6), some (.int x7), some (.int x8), some (.int x9), some (.int x10), some (.int x11), some (.int x12)] [] h Q := by
  refine wp_iconst (v := 0) rfl (by decide) ?_
  exact wp_ret (r := some (.int 0)) rfl rfl q
theorem b105_166 {n : Nat} {h : q_Hp} {Q : Option Value → q_Hp → Prop} {x0 : Nat} {x1 : Int32} {x2 : Int32} {x3 : Int64} {x5 : Int32} {x6 : Int32} {x7 : Int32} {x8 : Int32} {x9 : Int32} {x10 : Int32} {x11 : Int32} {x12 : Int32} (w : q_wp n 105 8 [some (.ref x0), some (.int x1), some (.int x2), some (.long (x3 ||| (1 <<< ((x12 : Int32).toInt64 &&& 63)))), none, some (.int (x5 + 1)), some (.int x6), some (.int x7), some (.int x8), some (.int x9), some (.int x10), some (.int x11), some (.int x12)] [] h Q) : q_wp n 105 166 [some (.ref x0), some (.int x1), some (.int x2), some (.long x3), none, some (.int x5), some (.int x6), some (.int x7), some (.int x8), some (.int x9), some (.int x10), some (.int x11), some (.int x12)] [] h Q := by
  refine wp_loc rfl rfl ?_
  refine wp_lconst (v := 1) rfl (by decide) ?_
  refine wp_loc rfl rfl ?_
  refine wp_stk rfl rfl rfl ?_
  refine wp_stk rfl rfl rfl ?_
  refine wp_loc rfl rfl ?_
  refine wp_iinc (v := 1) rfl rfl (by decide) rfl ?_
  refine wp_goto (tgt := 8) rfl (by decide) ?_
  exact w
theorem b105_179 {n : Nat} {h : q_Hp} {Q : Option Value → q_Hp → Prop} {x0 : Nat} {x1 : Int32} {x2 : Int32} {x3 : Int64} {x5 : Int32} {l6 : Option Value} {l7 : Option Value} {l8 : Option Value} {l9 : Option Value} {l10 : Option Value} {l11 : Option Value} {l12 : Option Value} (q : Q (some (.int 1)) h) : q_wp n 105 179 [some (.ref x0), some (.int x1), some (.int x2), some (.long x3), none, some (.int x5), l6, l7, l8, l9, l10, l11, l12] [] h Q := by
  refine wp_iconst (v := 1) rfl (by decide) ?_
  exact wp_ret (r := some (.int 1)) rfl rfl q
theorem b106_0 {n : Nat} {h : q_Hp} {Q : Option Value → q_Hp → Prop} {x0 : Nat} {x1 : Int32} {v0 : Nat} {v1 : Nat} (k0 : q_ok h x0 4) (e0 : qR h x0 2 = v0) (k1 : q_ok h v0 6) (e1 : qR h v0 19 = v1) {m : Nat} {P : Int32 → q_Hp → Prop} (hc : q_mI m 232 [.ref v1, .int x1] (q_sI h x0 11 0) P) (hm : m ≤ n) (w : ∀ (z : Int32) (h1 : q_Hp), P z h1 → q_wp (n + 1) 106 18 [some (.ref x0), some (.int x1), some (.int 0), none, none, none, none, none, none] [.int z] h1 Q) : q_wp (n + 1) 106 0 [some (.ref x0), some (.int x1), none, none, none, none, none, none, none] [] h Q := by
  refine wp_loc rfl rfl ?_
  refine wp_iconst (v := 0) rfl (by decide) ?_
  refine wp_putI rfl rfl (Or.inl rfl) rfl (fun _ => Or.inl rfl) k0 ?_
  refine wp_iconst (v := 0) rfl (by decide) ?_
  refine wp_loc rfl rfl ?_
  refine wp_loc rfl rfl ?_
  refine wp_getR rfl rfl rfl rfl k0 e0 ?_
  refine wp_getR rfl rfl rfl rfl k1 e1 ?_
  refine wp_loc rfl rfl ?_
  exact wp_callI (av := [.ref v1, .int x1]) rfl rfl rfl (by decide) rfl rfl rfl hm hc w
theorem b106_18 {n : Nat} {h : q_Hp} {Q : Option Value → q_Hp → Prop} {x0 : Nat} {x1 : Int32} {x2 : Int32} {s0 : Int32} {v0 : Nat} {v1 : Nat} (k0 : q_ok h x0 4) (e0 : qR h x0 2 = v0) (k1 : q_ok h v0 6) (e1 : qR h v0 18 = v1) {m : Nat} {P : Int32 → q_Hp → Prop} (hc : q_mI m 232 [.ref v1, .int x1] h P) (hm : m ≤ n) (w : ∀ (z : Int32) (h1 : q_Hp), P z h1 → q_wp (n + 1) 106 31 [some (.ref x0), some (.int x1), some (.int x2), some (.int s0), none, none, none, none, none] [.int z, .int 0] h1 Q) : q_wp (n + 1) 106 18 [some (.ref x0), some (.int x1), some (.int x2), none, none, none, none, none, none] [.int s0] h Q := by
  refine wp_loc rfl rfl ?_
  refine wp_iconst (v := 0) rfl (by decide) ?_
  refine wp_loc rfl rfl ?_
  refine wp_getR rfl rfl rfl rfl k0 e0 ?_
  refine wp_getR rfl rfl rfl rfl k1 e1 ?_
  refine wp_loc rfl rfl ?_
  exact wp_callI (av := [.ref v1, .int x1]) rfl rfl rfl (by decide) rfl rfl rfl hm hc w
theorem b106_31 {n : Nat} {h : q_Hp} {Q : Option Value → q_Hp → Prop} {x0 : Nat} {x1 : Int32} {x2 : Int32} {x3 : Int32} {s0 : Int32} {s1 : Int32} {m : Nat} {P : Int32 → q_Hp → Prop} (hc : q_mI m 349 [.int s1, .int s0] h P) (hm : m ≤ n) (w : ∀ (z : Int32) (h1 : q_Hp), P z h1 → q_wp (n + 1) 106 34 [some (.ref x0), some (.int x1), some (.int x2), some (.int x3), none, none, none, none, none] [.int z] h1 Q) : q_wp (n + 1) 106 31 [some (.ref x0), some (.int x1), some (.int x2), some (.int x3), none, none, none, none, none] [.int s0, .int s1] h Q := by
  exact wp_callI (av := [.int s1, .int s0]) rfl rfl rfl (by decide) rfl rfl rfl hm hc w
theorem b106_34 {n : Nat} {h : q_Hp} {Q : Option Value → q_Hp → Prop} {x0 : Nat} {x1 : Int32} {x2 : Int32} {x3 : Int32} {s0 : Int32} (w : q_wp n 106 36 [some (.ref x0), some (.int x1), some (.int x2), some (.int x3), some (.int s0), none, none, none, none] [] h Q) : q_wp n 106 34 [some (.ref x0), some (.int x1), some (.int x2), some (.int x3), none, none, none, none, none] [.int s0] h Q := by
  refine wp_loc rfl rfl ?_
  exact w
theorem b106_36 {n : Nat} {h : q_Hp} {Q : Option Value → q_Hp → Prop} {x0 : Nat} {x1 : Int32} {x2 : Int32} {x3 : Int32} {x4 : Int32} {l5 : Option Value} {l6 : Option Value} {l7 : Option Value} (wt : x3 ≤ x4 → q_wp n 106 208 [some (.ref x0), some (.int x1), some (.int x2), some (.int x3), some (.int x4), l5, l6, l7, none] [] h Q) (wf : ¬ x3 ≤ x4 → q_wp n 106 42 [some (.ref x0), some (.int x1), some (.int x2), some (.int x3), some (.int x4), l5, l6, l7, none] [] h Q) : q_wp n 106 36 [some (.ref x0), some (.int x1), some (.int x2), some (.int x3), some (.int x4), l5, l6, l7, none] [] h Q := by
  refine wp_loc rfl rfl ?_
  refine wp_loc rfl rfl ?_
  exact wp_icge (tgt := 208) rfl (by decide) wt wf
theorem b106_42 {n : Nat} {h : q_Hp} {Q : Option Value → q_Hp → Prop} {x0 : Nat} {x1 : Int32} {x2 : Int32} {x3 : Int32} {x4 : Int32} {l5 : Option Value} {l6 : Option Value} {l7 : Option Value} (k0 : q_ok h x0 4) (wt : ¬ (qI h x0 11) = 0 → q_wp n 106 208 [some (.ref x0), some (.int x1), some (.int x2), some (.int x3), some (.int x4), l5, l6, l7, none] [] h Q) (wf : (qI h x0 11) = 0 → q_wp n 106 49 [some (.ref x0), some (.int x1), some (.int x2), some (.int x3), some (.int x4), l5, l6, l7, none] [] h Q) : q_wp n 106 42 [some (.ref x0), some (.int x1), some (.int x2), some (.int x3), some (.int x4), l5, l6, l7, none] [] h Q := by
  refine wp_loc rfl rfl ?_
  refine wp_getI rfl rfl rfl k0 ?_
  exact wp_ifne (tgt := 208) rfl (by decide) wt wf
theorem b106_49 {n : Nat} {h : q_Hp} {Q : Option Value → q_Hp → Prop} {x0 : Nat} {x1 : Int32} {x2 : Int32} {x3 : Int32} {x4 : Int32} {l5 : Option Value} {l6 : Option Value} {l7 : Option Value} {v0 : Nat} (k0 : q_ok h x0 4) (e0 : qR h x0 1 = v0) {m : Nat} {P : Int32 → q_Hp → Prop} (hc : q_mI m 16 [.ref v0, .int x4] h P) (hm : m ≤ n) (w : ∀ (z : Int32) (h1 : q_Hp), P z h1 → q_wp (n + 1) 106 58 [some (.ref x0), some (.int x1), some (.int x2), some (.int x3), some (.int x4), l5, l6, l7, none] [.int z] h1 Q) : q_wp (n + 1) 106 49 [some (.ref x0), some (.int x1), some (.int x2), some (.int x3), some (.int x4), l5, l6, l7, none] [] h Q := by
  refine wp_loc rfl rfl ?_
  refine wp_getR rfl rfl rfl rfl k0 e0 ?_
  refine wp_loc rfl rfl ?_
  exact wp_callI (av := [.ref v0, .int x4]) rfl rfl rfl (by decide) rfl rfl rfl hm hc w
theorem b106_58 {n : Nat} {h : q_Hp} {Q : Option Value → q_Hp → Prop} {x0 : Nat} {x1 : Int32} {x2 : Int32} {x3 : Int32} {x4 : Int32} {l5 : Option Value} {l6 : Option Value} {l7 : Option Value} {s0 : Int32} {v0 : Nat} (k0 : q_ok h x0 4) (e0 : qR h x0 1 = v0) {m : Nat} {P : Int32 → q_Hp → Prop} (hc : q_mI m 17 [.ref v0, .int x4] h P) (hm : m ≤ n) (w : ∀ (z : Int32) (h1 : q_Hp), P z h1 → q_wp (n + 1) 106 69 [some (.ref x0), some (.int x1), some (.int x2), some (.int x3), some (.int x4), some (.int s0), l6, l7, none] [.int z] h1 Q) : q_wp (n + 1) 106 58 [some (.ref x0), some (.int x1), some (.int x2), some (.int x3), some (.int x4), l5, l6, l7, none] [.int s0] h Q := by
  refine wp_loc rfl rfl ?_
  refine wp_loc rfl rfl ?_
  refine wp_getR rfl rfl rfl rfl k0 e0 ?_
  refine wp_loc rfl rfl ?_
  exact wp_callI (av := [.ref v0, .int x4]) rfl rfl rfl (by decide) rfl rfl rfl hm hc w
theorem b106_69 {n : Nat} {h : q_Hp} {Q : Option Value → q_Hp → Prop} {x0 : Nat} {x1 : Int32} {x2 : Int32} {x3 : Int32} {x4 : Int32} {x5 : Int32} {l6 : Option Value} {l7 : Option Value} {s0 : Int32} (wt : ¬ x5 = 1 → q_wp n 106 110 [some (.ref x0), some (.int x1), some (.int x2), some (.int x3), some (.int x4), some (.int x5), some (.int s0), some (.long ((s0 : Int32).toInt64)), none] [] h Q) (wf : x5 = 1 → q_wp n 106 82 [some (.ref x0), some (.int x1), some (.int x2), some (.int x3), some (.int x4), some (.int x5), some (.int s0), some (.long ((s0 : Int32).toInt64)), none] [] h Q) : q_wp n 106 69 [some (.ref x0), some (.int x1), some (.int x2), some (.int x3), some (.int x4), some (.int x5), l6, l7, none] [.int s0] h Q := by
  refine wp_loc rfl rfl ?_
  refine wp_loc rfl rfl ?_
  refine wp_stk rfl rfl rfl ?_
  refine wp_loc rfl rfl ?_
  refine wp_loc rfl rfl ?_
  refine wp_iconst (v := 1) rfl (by decide) ?_
  exact wp_icne (tgt := 110) rfl (by decide) wt wf
theorem b106_82 {n : Nat} {h : q_Hp} {Q : Option Value → q_Hp → Prop} {x0 : Nat} {x1 : Int32} {x2 : Int32} {x3 : Int32} {x4 : Int32} {x5 : Int32} {x6 : Int32} {x7 : Int64} {v0 : Nat} {v1 : Nat} (k0 : q_ok h x0 4) (e0 : qR h x0 0 = v0) (e1 : qR h x0 3 = v1) {m : Nat} {P : Int32 → q_Hp → Prop} (hc : q_mI m 232 [.ref v1, .int (x6 >>> (1 &&& 31))] h P) (hm : m ≤ n) (w : ∀ (z : Int32) (h1 : q_Hp), P z h1 → q_wp (n + 1) 106 97 [some (.ref x0), some (.int x1), some (.int x2), some (.int x3), some (.int x4), some (.int x5), some (.int x6), some (.long x7), none] [.int z, .ref v0] h1 Q) : q_wp (n + 1) 106 82 [some (.ref x0), some (.int x1), some (.int x2), some (.int x3), some (.int x4), some (.int x5), some (.int x6), some (.long x7), none] [] h Q := by
  refine wp_loc rfl rfl ?_
  refine wp_getR rfl rfl rfl rfl k0 e0 ?_
  refine wp_loc rfl rfl ?_
  refine wp_getR rfl rfl rfl rfl k0 e1 ?_
  refine wp_loc rfl rfl ?_
  refine wp_iconst (v := 1) rfl (by decide) ?_
  refine wp_stk rfl rfl rfl ?_
  exact wp_callI (av := [.ref v1, .int (x6 >>> (1 &&& 31))]) rfl rfl rfl (by decide) rfl rfl rfl hm hc w
theorem b106_97 {n : Nat} {h : q_Hp} {Q : Option Value → q_Hp → Prop} {x0 : Nat} {x1 : Int32} {x2 : Int32} {x3 : Int32} {x4 : Int32} {x5 : Int32} {x6 : Int32} {x7 : Int64} {s0 : Int32} {s1 : Nat} {m : Nat} {P : Int32 → q_Hp → Prop} (hc : q_mI m 66 [.ref s1, .int s0, .int (x6 &&& 1)] h P) (hm : m ≤ n) (w : ∀ (z : Int32) (h1 : q_Hp), P z h1 → q_wp (n + 1) 106 104 [some (.ref x0), some (.int x1), some (.int x2), some (.int x3), some (.int x4), some (.int x5), some (.int x6), some (.long x7), none] [.int z] h1 Q) : q_wp (n + 1) 106 97 [some (.ref x0), some (.int x1), some (.int x2), some (.int x3), some (.int x4), some (.int x5), some (.int x6), some (.long x7), none] [.int s0, .ref s1] h Q := by
  refine wp_loc rfl rfl ?_
  refine wp_iconst (v := 1) rfl (by decide) ?_
  refine wp_stk rfl rfl rfl ?_
  exact wp_callI (av := [.ref s1, .int s0, .int (x6 &&& 1)]) rfl rfl rfl (by decide) rfl rfl rfl hm hc w
theorem b106_104 {n : Nat} {h : q_Hp} {Q : Option Value → q_Hp → Prop} {x0 : Nat} {x1 : Int32} {x2 : Int32} {x3 : Int32} {x4 : Int32} {x5 : Int32} {x6 : Int32} {x7 : Int64} {s0 : Int32} (w : q_wp n 106 169 [some (.ref x0), some (.int x1), some (.int x2), some (.int x3), some (.int x4), some (.int x5), some (.int x6), some (.long ((s0 : Int32).toInt64)), none] [] h Q) : q_wp n 106 104 [some (.ref x0), some (.int x1), some (.int x2), some (.int x3), some (.int x4), some (.int x5), some (.int x6), some (.long x7), none] [.int s0] h Q := by
  refine wp_stk rfl rfl rfl ?_
  refine wp_loc rfl rfl ?_
  refine wp_goto (tgt := 169) rfl (by decide) ?_
  exact w
theorem b106_110 {n : Nat} {h : q_Hp} {Q : Option Value → q_Hp → Prop} {x0 : Nat} {x1 : Int32} {x2 : Int32} {x3 : Int32} {x4 : Int32} {x5 : Int32} {x6 : Int32} {x7 : Int64} (wt : ¬ x5 = 2 → q_wp n 106 134 [some (.ref x0), some (.int x1), some (.int x2), some (.int x3), some (.int x4), some (.int x5), some (.int x6), some (.long x7), none] [] h Q) (wf : x5 = 2 → q_wp n 106 116 [some (.ref x0), some (.int x1), some (.int x2), some (.int x3), some (.int x4), some (.int x5), some (.int x6), some (.long x7), none] [] h Q) : q_wp n 106 110 [some (.ref x0), some (.int x1), some (.int x2), some (.int x3), some (.int x4), some (.int x5), some (.int x6), some (.long x7), none] [] h Q := by
  refine wp_loc rfl rfl ?_
  refine wp_iconst (v := 2) rfl (by decide) ?_
  exact wp_icne (tgt := 134) rfl (by decide) wt wf
theorem b106_116 {n : Nat} {h : q_Hp} {Q : Option Value → q_Hp → Prop} {x0 : Nat} {x1 : Int32} {x2 : Int32} {x3 : Int32} {x4 : Int32} {x5 : Int32} {x6 : Int32} {x7 : Int64} {v0 : Nat} (k0 : q_ok h x0 4) (e0 : qR h x0 10 = v0) {m : Nat} {P : Int32 → q_Hp → Prop} (hc : q_mI m 232 [.ref v0, .int (x2 + (-1))] h P) (hm : m ≤ n) (w : ∀ (z : Int32) (h1 : q_Hp), P z h1 → q_wp (n + 1) 106 127 [some (.ref x0), some (.int x1), some (.int (x2 + (-1))), some (.int x3), some (.int x4), some (.int x5), some (.int x6), some (.long x7), none] [.int z] h1 Q) : q_wp (n + 1) 106 116 [some (.ref x0), some (.int x1), some (.int x2), some (.int x3), some (.int x4), some (.int x5), some (.int x6), some (.long x7), none] [] h Q := by
  refine wp_iinc (v := (-1)) rfl rfl (by decide) rfl ?_
  refine wp_loc rfl rfl ?_
  refine wp_getR rfl rfl rfl rfl k0 e0 ?_
  refine wp_loc rfl rfl ?_
  exact wp_callI (av := [.ref v0, .int (x2 + (-1))]) rfl rfl rfl (by decide) rfl rfl rfl hm hc w
theorem b106_127 {n : Nat} {h : q_Hp} {Q : Option Value → q_Hp → Prop} {x0 : Nat} {x1 : Int32} {x2 : Int32} {x3 : Int32} {x4 : Int32} {x5 : Int32} {x6 : Int32} {x7 : Int64} {s0 : Int32} (w : q_wp n 106 169 [some (.ref x0), some (.int x1), some (.int x2), some (.int x3), some (.int x4), some (.int x5), some (.int x6), some (.long (-((s0 : Int32).toInt64))), none] [] h Q) : q_wp n 106 127 [some (.ref x0), some (.int x1), some (.int x2), some (.int x3), some (.int x4), some (.int x5), some (.int x6), some (.long x7), none] [.int s0] h Q := by
  refine wp_stk rfl rfl rfl ?_
  refine wp_stk rfl rfl rfl ?_
  refine wp_loc rfl rfl ?_
  refine wp_goto (tgt := 169) rfl (by decide) ?_
  exact w
theorem b106_134 {n : Nat} {h : q_Hp} {Q : Option Value → q_Hp → Prop} {x0 : Nat} {x1 : Int32} {x2 : Int32} {x3 : Int32} {x4 : Int32} {x5 : Int32} {x6 : Int32} {x7 : Int64} (wt : x5 = 0 → q_wp n 106 169 [some (.ref x0), some (.int x1), some (.int x2), some (.int x3), some (.int x4), some (.int x5), some (.int x6), some (.long x7), none] [] h Q) (wf : ¬ x5 = 0 → q_wp n 106 139 [some (.ref x0), some (.int x1), some (.int x2), some (.int x3), some (.int x4), some (.int x5), some (.int x6), some (.long x7), none] [] h Q) : q_wp n 106 134 [some (.ref x0), some (.int x1), some (.int x2), some (.int x3), some (.int x4), some (.int x5), some (.int x6), some (.long x7), none] [] h Q := by
  refine wp_loc rfl rfl ?_
  exact wp_ifeq (tgt := 169) rfl (by decide) wt wf
theorem b106_139 {n : Nat} {h : q_Hp} {Q : Option Value → q_Hp → Prop} {x0 : Nat} {x1 : Int32} {x2 : Int32} {x3 : Int32} {x4 : Int32} {x5 : Int32} {x6 : Int32} {x7 : Int64} {v0 : Nat} (k0 : q_ok h x0 4) (e0 : qR h x0 10 = v0) {m : Nat} {P : Int32 → q_Hp → Prop} (hc : q_mI m 232 [.ref v0, .int (x2 + (-2))] h P) (hm : m ≤ n) (w : ∀ (z : Int32) (h1 : q_Hp), P z h1 → q_wp (n + 1) 106 152 [some (.ref x0), some (.int x1), some (.int (x2 + (-2))), some (.int x3), some (.int x4), some (.int x5), some (.int x6), some (.long x7), none] [.int z, .int x5] h1 Q) : q_wp (n + 1) 106 139 [some (.ref x0), some (.int x1), some (.int x2), some (.int x3), some (.int x4), some (.int x5), some (.int x6), some (.long x7), none] [] h Q := by
  refine wp_iinc (v := (-2)) rfl rfl (by decide) rfl ?_
  refine wp_loc rfl rfl ?_
  refine wp_loc rfl rfl ?_
  refine wp_getR rfl rfl rfl rfl k0 e0 ?_
  refine wp_loc rfl rfl ?_
  exact wp_callI (av := [.ref v0, .int (x2 + (-2))]) rfl rfl rfl (by decide) rfl rfl rfl hm hc w
theorem b106_152 {n : Nat} {h : q_Hp} {Q : Option Value → q_Hp → Prop} {x0 : Nat} {x1 : Int32} {x2 : Int32} {x3 : Int32} {x4 : Int32} {x5 : Int32} {x6 : Int32} {x7 : Int64} {s0 : Int32} {s1 : Int32} {v0 : Nat} (k0 : q_ok h x0 4) (e0 : qR h x0 10 = v0) {m : Nat} {P : Int32 → q_Hp → Prop} (hc : q_mI m 232 [.ref v0, .int (x2 + 1)] h P) (hm : m ≤ n) (w : ∀ (z : Int32) (h1 : q_Hp), P z h1 → q_wp (n + 1) 106 163 [some (.ref x0), some (.int x1), some (.int x2), some (.int x3), some (.int x4), some (.int x5), some (.int x6), some (.long x7), none] [.int z, .long ((s0 : Int32).toInt64), .int s1] h1 Q) : q_wp (n + 1) 106 152 [some (.ref x0), some (.int x1), some (.int x2), some (.int x3), some (.int x4), some (.int x5), some (.int x6), some (.long x7), none] [.int s0, .int s1] h Q := by
  refine wp_stk rfl rfl rfl ?_
  refine wp_loc rfl rfl ?_
  refine wp_getR rfl rfl rfl rfl k0 e0 ?_
  refine wp_loc rfl rfl ?_
  refine wp_iconst (v := 1) rfl (by decide) ?_
  refine wp_stk rfl rfl rfl ?_
  exact wp_callI (av := [.ref v0, .int (x2 + 1)]) rfl rfl rfl (by decide) rfl rfl rfl hm hc w
theorem b106_163 {n : Nat} {h : q_Hp} {Q : Option Value → q_Hp → Prop} {x0 : Nat} {x1 : Int32} {x2 : Int32} {x3 : Int32} {x4 : Int32} {x5 : Int32} {x6 : Int32} {x7 : Int64} {s0 : Int32} {s1 : Int64} {s2 : Int32} {m : Nat} {P : Int64 → q_Hp → Prop} (hc : q_mJ m 107 [.int s2, .long s1, .long ((s0 : Int32).toInt64)] h P) (hm : m ≤ n) (w : ∀ (z : Int64) (h1 : q_Hp), P z h1 → q_wp (n + 1) 106 167 [some (.ref x0), some (.int x1), some (.int x2), some (.int x3), some (.int x4), some (.int x5), some (.int x6), some (.long x7), none] [.long z] h1 Q) : q_wp (n + 1) 106 163 [some (.ref x0), some (.int x1), some (.int x2), some (.int x3), some (.int x4), some (.int x5), some (.int x6), some (.long x7), none] [.int s0, .long s1, .int s2] h Q := by
  refine wp_stk rfl rfl rfl ?_
  exact wp_callJ (av := [.int s2, .long s1, .long ((s0 : Int32).toInt64)]) rfl rfl rfl (by decide) rfl rfl rfl hm hc w
theorem b106_167 {n : Nat} {h : q_Hp} {Q : Option Value → q_Hp → Prop} {x0 : Nat} {x1 : Int32} {x2 : Int32} {x3 : Int32} {x4 : Int32} {x5 : Int32} {x6 : Int32} {x7 : Int64} {s0 : Int64} (w : q_wp n 106 169 [some (.ref x0), some (.int x1), some (.int x2), some (.int x3), some (.int x4), some (.int x5), some (.int x6), some (.long s0), none] [] h Q) : q_wp n 106 167 [some (.ref x0), some (.int x1), some (.int x2), some (.int x3), some (.int x4), some (.int x5), some (.int x6), some (.long x7), none] [.long s0] h Q := by
  refine wp_loc rfl rfl ?_
  exact w
theorem b106_169 {n : Nat} {h : q_Hp} {Q : Option Value → q_Hp → Prop} {x0 : Nat} {x1 : Int32} {x2 : Int32} {x3 : Int32} {x4 : Int32} {x5 : Int32} {x6 : Int32} {x7 : Int64} (wt : (lg_cmp x7 (((x7 : Int64).toInt32 : Int32).toInt64)) = 0 → q_wp n 106 184 [some (.ref x0), some (.int x1), some (.int x2), some (.int x3), some (.int x4), some (.int x5), some (.int x6), some (.long x7), none] [.ref x0] h Q) (wf : ¬ (lg_cmp x7 (((x7 : Int64).toInt32 : Int32).toInt64)) = 0 → q_wp n 106 180 [some (.ref x0), some (.int x1), some (.int x2), some (.int x3), some (.int x4), some (.int x5), some (.int x6), some (.long x7), none] [.ref x0] h Q) : q_wp n 106 169 [some (.ref x0), some (.int x1), some (.int x2), some (.int x3), some (.int x4), some (.int x5), some (.int x6), some (.long x7), none] [] h Q := by
  refine wp_loc rfl rfl ?_
  refine wp_loc rfl rfl ?_
  refine wp_loc rfl rfl ?_
  refine wp_stk rfl rfl rfl ?_
  refine wp_stk rfl rfl rfl ?_
  refine wp_stk rfl rfl rfl ?_
  exact wp_ifeq (tgt := 184) rfl (by decide) wt wf
theorem b106_180 {n : Nat} {h : q_Hp} {Q : Option Value → q_Hp → Prop} {x0 : Nat} {x1 : Int32} {x2 : Int32} {x3 : Int32} {x4 : Int32} {x5 : Int32} {x6 : Int32} {x7 : Int64} {s0 : Nat} (w : q_wp n 106 185 [some (.ref x0), some (.int x1), some (.int x2), some (.int x3), some (.int x4), some (.int x5), some (.int x6), some (.long x7), none] [.int 1, .ref s0] h Q) : q_wp n 106 180 [some (.ref x0), some (.int x1), some (.int x2), some (.int x3), some (.int x4), some (.int x5), some (.int x6), some (.long x7), none] [.ref s0] h Q := by
  refine wp_iconst (v := 1) rfl (by decide) ?_
  refine wp_goto (tgt := 185) rfl (by decide) ?_
  exact w
theorem b106_184 {n : Nat} {h : q_Hp} {Q : Option Value → q_Hp → Prop} {x0 : Nat} {x1 : Int32} {x2 : Int32} {x3 : Int32} {x4 : Int32} {x5 : Int32} {x6 : Int32} {x7 : Int64} {s0 : Nat} (w : q_wp n 106 185 [some (.ref x0), some (.int x1), some (.int x2), some (.int x3), some (.int x4), some (.int x5), some (.int x6), some (.long x7), none] [.int 0, .ref s0] h Q) : q_wp n 106 184 [some (.ref x0), some (.int x1), some (.int x2), some (.int x3), some (.int x4), some (.int x5), some (.int x6), some (.long x7), none] [.ref s0] h Q := by
  refine wp_iconst (v := 0) rfl (by decide) ?_
  exact w
theorem b106_185 {n : Nat} {h : q_Hp} {Q : Option Value → q_Hp → Prop} {x0 : Nat} {x1 : Int32} {x2 : Int32} {x3 : Int32} {x4 : Int32} {x5 : Int32} {x6 : Int32} {x7 : Int64} {s0 : Int32} {s1 : Nat} {v0 : Nat} (k0 : q_ok h s1 4) (z1 : s0 = 0 ∨ s0 = 1) (k1 : q_ok h x0 4) (e0 : qR h x0 10 = v0) {m : Nat} {P : q_Hp → Prop} (hc : q_mV m 233 [.ref v0, .int x2, .int ((x7 : Int64).toInt32)] (q_sI h s1 11 s0) P) (hm : m ≤ n) (w : ∀ h1 : q_Hp, P h1 → q_wp (n + 1) 106 199 [some (.ref x0), some (.int x1), some (.int x2), some (.int x3), some (.int x4), some (.int x5), some (.int x6), some (.long x7), none] [] h1 Q) : q_wp (n + 1) 106 185 [some (.ref x0), some (.int x1), some (.int x2), some (.int x3), some (.int x4), some (.int x5), some (.int x6), some (.long x7), none] [.int s0, .ref s1] h Q := by
  refine wp_putI rfl rfl (Or.inl rfl) rfl (fun _ => z1) k0 ?_
  refine wp_loc rfl rfl ?_
  refine wp_getR rfl rfl rfl rfl k1 e0 ?_
  refine wp_loc rfl rfl ?_
  refine wp_loc rfl rfl ?_
  refine wp_stk rfl rfl rfl ?_
  exact wp_callV (av := [.ref v0, .int x2, .int ((x7 : Int64).toInt32)]) rfl rfl rfl (by decide) rfl rfl rfl hm hc w
theorem b106_199 {n : Nat} {h : q_Hp} {Q : Option Value → q_Hp → Prop} {x0 : Nat} {x1 : Int32} {x2 : Int32} {x3 : Int32} {x4 : Int32} {x5 : Int32} {x6 : Int32} {x7 : Int64} (w : q_wp n 106 36 [some (.ref x0), some (.int x1), some (.int (x2 + 1)), some (.int x3), some (.int (x4 + 1)), some (.int x5), some (.int x6), some (.long x7), none] [] h Q) : q_wp n 106 199 [some (.ref x0), some (.int x1), some (.int x2), some (.int x3), some (.int x4), some (.int x5), some (.int x6), some (.long x7), none] [] h Q := by
  refine wp_iinc (v := 1) rfl rfl (by decide) rfl ?_
  refine wp_iinc (v := 1) rfl rfl (by decide) rfl ?_
  refine wp_goto (tgt := 36) rfl (by decide) ?_
  exact w
theorem b106_208 {n : Nat} {h : q_Hp} {Q : Option Value → q_Hp → Prop} {x0 : Nat} {x1 : Int32} {x2 : Int32} {x3 : Int32} {x4 : Int32} {l5 : Option Value} {l6 : Option Value} {l7 : Option Value} (k0 : q_ok h x0 4) (wt : (qI h x0 11) = 0 → q_wp n 106 219 [some (.ref x0), some (.int x1), some (.int x2), some (.int x3), some (.int x4), l5, l6, l7, none] [] h Q) (wf : ¬ (qI h x0 11) = 0 → q_wp n 106 215 [some (.ref x0), some (.int x1), some (.int x2), some (.int x3), some (.int x4), l5, l6, l7, none] [] h Q) : q_wp n 106 208 [some (.ref x0), some (.int x1), some (.int x2), some (.int x3), some (.int x4), l5, l6, l7, none] [] h Q := by
  refine wp_loc rfl rfl ?_
  refine wp_getI rfl rfl rfl k0 ?_
  exact wp_ifeq (tgt := 219) rfl (by decide) wt wf
theorem b106_215 {n : Nat} {h : q_Hp} {Q : Option Value → q_Hp → Prop} {x0 : Nat} {x1 : Int32} {x2 : Int32} {x3 : Int32} {x4 : Int32} {l5 : Option Value} {l6 : Option Value} {l7 : Option Value} (q : Q (some (.int 0)) h) : q_wp n 106 215 [some (.ref x0), some (.int x1), some (.int x2), some (.int x3), some (.int x4), l5, l6, l7, none] [] h Q := by
  refine wp_iconst (v := 0) rfl (by decide) ?_
  refine wp_goto (tgt := 225) rfl (by decide) ?_
  exact wp_ret rfl rfl q
theorem b106_219 {n : Nat} {h : q_Hp} {Q : Option Value → q_Hp → Prop} {x0 : Nat} {x1 : Int32} {x2 : Int32} {x3 : Int32} {x4 : Int32} {l5 : Option Value} {l6 : Option Value} {l7 : Option Value} {v0 : Nat} (k0 : q_ok h x0 4) (e0 : qR h x0 10 = v0) (k1 : q_ok h v0 20) (i0 : q_in 0 (qK h v0).2) (q : Q (some (.int (qA h v0 ((0 : Int32).toNatClampNeg)))) h) : q_wp n 106 219 [some (.ref x0), some (.int x1), some (.int x2), some (.int x3), some (.int x4), l5, l6, l7, none] [] h Q := by
  refine wp_loc rfl rfl ?_
  refine wp_getR rfl rfl rfl rfl k0 e0 ?_
  refine wp_iconst (v := 0) rfl (by decide) ?_
  refine wp_iald rfl k1 i0 ?_
  exact wp_ret rfl rfl q
theorem b107_0 {n : Nat} {h : q_Hp} {Q : Option Value → q_Hp → Prop} {x0 : Int32} {x1 : Int64} {x3 : Int64} (wt : ¬ x0 = 3 → q_wp n 107 9 [some (.int x0), some (.long x1), none, some (.long x3), none] [] h Q) (wf : x0 = 3 → q_wp n 107 5 [some (.int x0), some (.long x1), none, some (.long x3), none] [] h Q) : q_wp n 107 0 [some (.int x0), some (.long x1), none, some (.long x3), none] [] h Q := by
  refine wp_loc rfl rfl ?_
  refine wp_iconst (v := 3) rfl (by decide) ?_
  exact wp_icne (tgt := 9) rfl (by decide) wt wf
theorem b107_5 {n : Nat} {h : q_Hp} {Q : Option Value → q_Hp → Prop} {x0 : Int32} {x1 : Int64} {x3 : Int64} (q : Q (some (.long (x1 + x3))) h) : q_wp n 107 5 [some (.int x0), some (.long x1), none, some (.long x3), none] [] h Q := by
  refine wp_loc rfl rfl ?_
  refine wp_loc rfl rfl ?_
  refine wp_stk rfl rfl rfl ?_
  exact wp_ret rfl rfl q
theorem b107_9 {n : Nat} {h : q_Hp} {Q : Option Value → q_Hp → Prop} {x0 : Int32} {x1 : Int64} {x3 : Int64} (wt : ¬ x0 = 4 → q_wp n 107 20 [some (.int x0), some (.long x1), none, some (.long x3), none] [] h Q) (wf : x0 = 4 → q_wp n 107 14 [some (.int x0), some (.long x1), none, some (.long x3), none] [] h Q) : q_wp n 107 9 [some (.int x0), some (.long x1), none, some (.long x3), none] [] h Q := by
  refine wp_loc rfl rfl ?_
  refine wp_iconst (v := 4) rfl (by decide) ?_
  exact wp_icne (tgt := 20) rfl (by decide) wt wf
theorem b107_14 {n : Nat} {h : q_Hp} {Q : Option Value → q_Hp → Prop} {x0 : Int32} {x1 : Int64} {x3 : Int64} (q : Q (some (.long (x1 - x3))) h) : q_wp n 107 14 [some (.int x0), some (.long x1), none, some (.long x3), none] [] h Q := by
  refine wp_loc rfl rfl ?_
  refine wp_loc rfl rfl ?_
  refine wp_stk rfl rfl rfl ?_
  refine wp_goto (tgt := 23) rfl (by decide) ?_
  exact wp_ret rfl rfl q
theorem b107_20 {n : Nat} {h : q_Hp} {Q : Option Value → q_Hp → Prop} {x0 : Int32} {x1 : Int64} {x3 : Int64} (q : Q (some (.long (x1 * x3))) h) : q_wp n 107 20 [some (.int x0), some (.long x1), none, some (.long x3), none] [] h Q := by
  refine wp_loc rfl rfl ?_
  refine wp_loc rfl rfl ?_
  refine wp_stk rfl rfl rfl ?_
  exact wp_ret rfl rfl q
theorem b108_0 {n : Nat} {h : q_Hp} {Q : Option Value → q_Hp → Prop} {x0 : Nat} (k0 : q_ok h x0 4) (zr : qI h x0 11 = 0 ∨ qI h x0 11 = 1) (q : Q (some (.int (qI h x0 11))) h) : q_wp n 108 0 [some (.ref x0)] [] h Q := by
  refine wp_loc rfl rfl ?_
  refine wp_getI rfl rfl rfl k0 ?_
  exact wp_ret rfl (if_pos zr) q
theorem b109_0 {n : Nat} {h : q_Hp} {Q : Option Value → q_Hp → Prop} {x0 : Nat} {v0 : Nat} (k0 : q_ok h x0 4) (e0 : qR h x0 2 = v0) (q : Q (some (.ref v0)) h) : q_wp n 109 0 [some (.ref x0)] [] h Q := by
  refine wp_loc rfl rfl ?_
  refine wp_getR rfl rfl rfl rfl k0 e0 ?_
  exact wp_ret rfl rfl q
theorem b110_0 {n : Nat} {h : q_Hp} {Q : Option Value → q_Hp → Prop} {x0 : Nat} {x1 : Int32} {v0 : Nat} (k0 : q_ok h x0 4) (e0 : qR h x0 3 = v0) {m : Nat} {P : Int32 → q_Hp → Prop} (hc : q_mI m 232 [.ref v0, .int x1] h P) (hm : m ≤ n) (w : ∀ (z : Int32) (h1 : q_Hp), P z h1 → q_wp (n + 1) 110 8 [some (.ref x0), some (.int x1)] [.int z] h1 Q) : q_wp (n + 1) 110 0 [some (.ref x0), some (.int x1)] [] h Q := by
  refine wp_loc rfl rfl ?_
  refine wp_getR rfl rfl rfl rfl k0 e0 ?_
  refine wp_loc rfl rfl ?_
  exact wp_callI (av := [.ref v0, .int x1]) rfl rfl rfl (by decide) rfl rfl rfl hm hc w
theorem b110_8 {n : Nat} {h : q_Hp} {Q : Option Value → q_Hp → Prop} {x0 : Nat} {x1 : Int32} {s0 : Int32} (q : Q (some (.int s0)) h) : q_wp n 110 8 [some (.ref x0), some (.int x1)] [.int s0] h Q := by
  exact wp_ret rfl rfl q
theorem b111_0 {n : Nat} {h : q_Hp} {Q : Option Value → q_Hp → Prop} {x0 : Nat} {x1 : Int32} {v0 : Nat} (k0 : q_ok h x0 4) (e0 : qR h x0 4 = v0) {m : Nat} {P : Int32 → q_Hp → Prop} (hc : q_mI m 232 [.ref v0, .int x1] h P) (hm : m ≤ n) (w : ∀ (z : Int32) (h1 : q_Hp), P z h1 → q_wp (n + 1) 111 8 [some (.ref x0), some (.int x1)] [.int z] h1 Q) : q_wp (n + 1) 111 0 [some (.ref x0), some (.int x1)] [] h Q := by
  refine wp_loc rfl rfl ?_
  refine wp_getR rfl rfl rfl rfl k0 e0 ?_
  refine wp_loc rfl rfl ?_
  exact wp_callI (av := [.ref v0, .int x1]) rfl rfl rfl (by decide) rfl rfl rfl hm hc w
theorem b111_8 {n : Nat} {h : q_Hp} {Q : Option Value → q_Hp → Prop} {x0 : Nat} {x1 : Int32} {s0 : Int32} (q : Q (some (.int s0)) h) : q_wp n 111 8 [some (.ref x0), some (.int x1)] [.int s0] h Q := by
  exact wp_ret rfl rfl q
theorem b112_0 {n : Nat} {h : q_Hp} {Q : Option Value → q_Hp → Prop} {x0 : Nat} (w : q_wp n 112 4 [some (.ref x0), some (.int 0), some (.int 0)] [] h Q) : q_wp n 112 0 [some (.ref x0), none, none] [] h Q := by
  refine wp_iconst (v := 0) rfl (by decide) ?_
  refine wp_loc rfl rfl ?_
  refine wp_iconst (v := 0) rfl (by decide) ?_
  refine wp_loc rfl rfl ?_
  exact w
theorem b112_4 {n : Nat} {h : q_Hp} {Q : Option Value → q_Hp → Prop} {x0 : Nat} {x1 : Int32} {x2 : Int32} {v0 : Nat} (k0 : q_ok h x0 4) (e0 : qR h x0 2 = v0) (k1 : q_ok h v0 6) (wt : (qI h v0 0) ≤ x2 → q_wp n 112 37 [some (.ref x0), some (.int x1), some (.int x2)] [] h Q) (wf : ¬ (qI h v0 0) ≤ x2 → q_wp n 112 15 [some (.ref x0), some (.int x1), some (.int x2)] [] h Q) : q_wp n 112 4 [some (.ref x0), some (.int x1), some (.int x2)] [] h Q := by
  refine wp_loc rfl rfl ?_
  refine wp_loc rfl rfl ?_
  refine wp_getR rfl rfl rfl rfl k0 e0 ?_
  refine wp_getI rfl rfl rfl k1 ?_
  exact wp_icge (tgt := 37) rfl (by decide) wt wf
theorem b112_15 {n : Nat} {h : q_Hp} {Q : Option Value → q_Hp → Prop} {x0 : Nat} {x1 : Int32} {x2 : Int32} (wt : 4 ≤ x2 → q_wp n 112 37 [some (.ref x0), some (.int x1), some (.int x2)] [] h Q) (wf : ¬ 4 ≤ x2 → q_wp n 112 20 [some (.ref x0), some (.int x1), some (.int x2)] [] h Q) : q_wp n 112 15 [some (.ref x0), some (.int x1), some (.int x2)] [] h Q := by
  refine wp_loc rfl rfl ?_
  refine wp_iconst (v := 4) rfl (by decide) ?_
  exact wp_icge (tgt := 37) rfl (by decide) wt wf
theorem b112_20 {n : Nat} {h : q_Hp} {Q : Option Value → q_Hp → Prop} {x0 : Nat} {x1 : Int32} {x2 : Int32} {v0 : Nat} (k0 : q_ok h x0 4) (e0 : qR h x0 3 = v0) (k1 : q_ok h v0 20) (i0 : q_in x2 (qK h v0).2) (w : q_wp n 112 4 [some (.ref x0), some (.int (x1 ||| (1 <<< (qA h v0 x2.toNatClampNeg &&& 31)))), some (.int (x2 + 1))] [] h Q) : q_wp n 112 20 [some (.ref x0), some (.int x1), some (.int x2)] [] h Q := by
  refine wp_loc rfl rfl ?_
  refine wp_iconst (v := 1) rfl (by decide) ?_
  refine wp_loc rfl rfl ?_
  refine wp_getR rfl rfl rfl rfl k0 e0 ?_
  refine wp_loc rfl rfl ?_
  refine wp_iald rfl k1 i0 ?_
  refine wp_stk rfl rfl rfl ?_
  refine wp_stk rfl rfl rfl ?_
  refine wp_loc rfl rfl ?_
  refine wp_iinc (v := 1) rfl rfl (by decide) rfl ?_
  refine wp_goto (tgt := 4) rfl (by decide) ?_
  exact w
theorem b112_37 {n : Nat} {h : q_Hp} {Q : Option Value → q_Hp → Prop} {x0 : Nat} {x1 : Int32} {x2 : Int32} (q : Q (some (.int x1)) h) : q_wp n 112 37 [some (.ref x0), some (.int x1), some (.int x2)] [] h Q := by
  refine wp_loc rfl rfl ?_
  exact wp_ret rfl rfl q
theorem b113_0 {n : Nat} {h : q_Hp} {Q : Option Value → q_Hp → Prop} {x0 : Nat} {v0 : Nat} (k0 : q_ok h x0 4) (e0 : qR h x0 2 = v0) (k1 : q_ok h v0 6) (w : q_wp n 113 24 [some (.ref x0), some (.int 0)] [] (q_sI (q_sI h x0 14 (qI h v0 0)) x0 15 (qI (q_sI h x0 14 (qI h v0 0)) v0 1)) Q) : q_wp n 113 0 [some (.ref x0), none] [] h Q := by
  refine wp_loc rfl rfl ?_
  refine wp_loc rfl rfl ?_
  refine wp_getR rfl rfl rfl rfl k0 e0 ?_
  refine wp_getI rfl rfl rfl k1 ?_
  refine wp_putI rfl rfl (Or.inl rfl) rfl (fun h9 => by cases h9) k0 ?_
  refine wp_loc rfl rfl ?_
  refine wp_loc rfl rfl ?_
  refine wp_getR rfl rfl rfl rfl k0 e0 ?_
  refine wp_getI rfl rfl rfl k1 ?_
  refine wp_putI rfl rfl (Or.inl rfl) rfl (fun h9 => by cases h9) k0 ?_
  refine wp_iconst (v := 0) rfl (by decide) ?_
  refine wp_loc rfl rfl ?_
  exact w
theorem b113_24 {n : Nat} {h : q_Hp} {Q : Option Value → q_Hp → Prop} {x0 : Nat} {x1 : Int32} (wt : 4 ≤ x1 → q_wp n 113 47 [some (.ref x0), some (.int x1)] [] h Q) (wf : ¬ 4 ≤ x1 → q_wp n 113 29 [some (.ref x0), some (.int x1)] [] h Q) : q_wp n 113 24 [some (.ref x0), some (.int x1)] [] h Q := by
  refine wp_loc rfl rfl ?_
  refine wp_iconst (v := 4) rfl (by decide) ?_
  exact wp_icge (tgt := 47) rfl (by decide) wt wf
theorem b113_29 {n : Nat} {h : q_Hp} {Q : Option Value → q_Hp → Prop} {x0 : Nat} {x1 : Int32} {v0 : Nat} {v1 : Nat} (k0 : q_ok h x0 4) (e0 : qR h x0 12 = v0) (e1 : qR h x0 3 = v1) (k1 : q_ok h v1 20) (i0 : q_in x1 (qK h v1).2) (k2 : q_ok h v0 20) (i1 : q_in x1 (qK h v0).2) (w : q_wp n 113 24 [some (.ref x0), some (.int (x1 + 1))] [] (q_sA h v0 x1.toNatClampNeg (qA h v1 x1.toNatClampNeg)) Q) : q_wp n 113 29 [some (.ref x0), some (.int x1)] [] h Q := by
  refine wp_loc rfl rfl ?_
  refine wp_getR rfl rfl rfl rfl k0 e0 ?_
  refine wp_loc rfl rfl ?_
  refine wp_loc rfl rfl ?_
  refine wp_getR rfl rfl rfl rfl k0 e1 ?_
  refine wp_loc rfl rfl ?_
  refine wp_iald rfl k1 i0 ?_
  refine wp_iast rfl k2 i1 ?_
  refine wp_iinc (v := 1) rfl rfl (by decide) rfl ?_
  refine wp_goto (tgt := 24) rfl (by decide) ?_
  exact w
theorem b113_47 {n : Nat} {h : q_Hp} {Q : Option Value → q_Hp → Prop} {x0 : Nat} {x1 : Int32} (w : q_wp n 113 49 [some (.ref x0), some (.int 0)] [] h Q) : q_wp n 113 47 [some (.ref x0), some (.int x1)] [] h Q := by
  refine wp_iconst (v := 0) rfl (by decide) ?_
  refine wp_loc rfl rfl ?_
  exact w
theorem b113_49 {n : Nat} {h : q_Hp} {Q : Option Value → q_Hp → Prop} {x0 : Nat} {x1 : Int32} (wt : 6 ≤ x1 → q_wp n 113 73 [some (.ref x0), some (.int x1)] [] h Q) (wf : ¬ 6 ≤ x1 → q_wp n 113 55 [some (.ref x0), some (.int x1)] [] h Q) : q_wp n 113 49 [some (.ref x0), some (.int x1)] [] h Q := by
  refine wp_loc rfl rfl ?_
  refine wp_bipush (v := 6) rfl (by decide) ?_
  exact wp_icge (tgt := 73) rfl (by decide) wt wf
theorem b113_55 {n : Nat} {h : q_Hp} {Q : Option Value → q_Hp → Prop} {x0 : Nat} {x1 : Int32} {v0 : Nat} {v1 : Nat} (k0 : q_ok h x0 4) (e0 : qR h x0 13 = v0) (e1 : qR h x0 4 = v1) (k1 : q_ok h v1 20) (i0 : q_in x1 (qK h v1).2) (k2 : q_ok h v0 20) (i1 : q_in x1 (qK h v0).2) (w : q_wp n 113 49 [some (.ref x0), some (.int (x1 + 1))] [] (q_sA h v0 x1.toNatClampNeg (qA h v1 x1.toNatClampNeg)) Q) : q_wp n 113 55 [some (.ref x0), some (.int x1)] [] h Q := by
  refine wp_loc rfl rfl ?_
  refine wp_getR rfl rfl rfl rfl k0 e0 ?_
  refine wp_loc rfl rfl ?_
  refine wp_loc rfl rfl ?_
  refine wp_getR rfl rfl rfl rfl k0 e1 ?_
  refine wp_loc rfl rfl ?_
  refine wp_iald rfl k1 i0 ?_
  refine wp_iast rfl k2 i1 ?_
  refine wp_iinc (v := 1) rfl rfl (by decide) rfl ?_
  refine wp_goto (tgt := 49) rfl (by decide) ?_
  exact w
theorem b113_73 {n : Nat} {h : q_Hp} {Q : Option Value → q_Hp → Prop} {x0 : Nat} {x1 : Int32} (q : Q none h) : q_wp n 113 73 [some (.ref x0), some (.int x1)] [] h Q := by
  exact wp_ret rfl rfl q
theorem b114_0 {n : Nat} {h : q_Hp} {Q : Option Value → q_Hp → Prop} {x0 : Nat} (k0 : q_ok h x0 4) (q : Q none (q_sI (q_sI h x0 14 0) x0 15 0)) : q_wp n 114 0 [some (.ref x0)] [] h Q := by
  refine wp_loc rfl rfl ?_
  refine wp_iconst (v := 0) rfl (by decide) ?_
  refine wp_putI rfl rfl (Or.inl rfl) rfl (fun h9 => by cases h9) k0 ?_
  refine wp_loc rfl rfl ?_
  refine wp_iconst (v := 0) rfl (by decide) ?_
  refine wp_putI rfl rfl (Or.inl rfl) rfl (fun h9 => by cases h9) k0 ?_
  exact wp_ret rfl rfl q
theorem b115_0 {n : Nat} {h : q_Hp} {Q : Option Value → q_Hp → Prop} {x0 : Nat} {x1 : Int32} (k0 : q_ok h x0 4) (wt : (qI h x0 14) ≤ x1 → q_wp n 115 19 [some (.ref x0), some (.int x1)] [] h Q) (wf : ¬ (qI h x0 14) ≤ x1 → q_wp n 115 8 [some (.ref x0), some (.int x1)] [] h Q) : q_wp n 115 0 [some (.ref x0), some (.int x1)] [] h Q := by
  refine wp_loc rfl rfl ?_
  refine wp_loc rfl rfl ?_
  refine wp_getI rfl rfl rfl k0 ?_
  exact wp_icge (tgt := 19) rfl (by decide) wt wf
theorem b115_8 {n : Nat} {h : q_Hp} {Q : Option Value → q_Hp → Prop} {x0 : Nat} {x1 : Int32} {v0 : Nat} (k0 : q_ok h x0 4) (e0 : qR h x0 12 = v0) {m : Nat} {P : Int32 → q_Hp → Prop} (hc : q_mI m 232 [.ref v0, .int x1] h P) (hm : m ≤ n) (w : ∀ (z : Int32) (h1 : q_Hp), P z h1 → q_wp (n + 1) 115 16 [some (.ref x0), some (.int x1)] [.int z] h1 Q) : q_wp (n + 1) 115 8 [some (.ref x0), some (.int x1)] [] h Q := by
  refine wp_loc rfl rfl ?_
  refine wp_getR rfl rfl rfl rfl k0 e0 ?_
  refine wp_loc rfl rfl ?_
  exact wp_callI (av := [.ref v0, .int x1]) rfl rfl rfl (by decide) rfl rfl rfl hm hc w
theorem b115_16 {n : Nat} {h : q_Hp} {Q : Option Value → q_Hp → Prop} {x0 : Nat} {x1 : Int32} {s0 : Int32} (q : Q (some (.int s0)) h) : q_wp n 115 16 [some (.ref x0), some (.int x1)] [.int s0] h Q := by
  refine wp_goto (tgt := 20) rfl (by decide) ?_
  exact wp_ret rfl rfl q
theorem b115_19 {n : Nat} {h : q_Hp} {Q : Option Value → q_Hp → Prop} {x0 : Nat} {x1 : Int32} (q : Q (some (.int (-1))) h) : q_wp n 115 19 [some (.ref x0), some (.int x1)] [] h Q := by
  refine wp_iconst (v := (-1)) rfl (by decide) ?_
  exact wp_ret rfl rfl q
theorem b116_0 {n : Nat} {h : q_Hp} {Q : Option Value → q_Hp → Prop} {x0 : Nat} {x1 : Int32} (k0 : q_ok h x0 4) (wt : (qI h x0 15) ≤ x1 → q_wp n 116 19 [some (.ref x0), some (.int x1)] [] h Q) (wf : ¬ (qI h x0 15) ≤ x1 → q_wp n 116 8 [some (.ref x0), some (.int x1)] [] h Q) : q_wp n 116 0 [some (.ref x0), some (.int x1)] [] h Q := by
  refine wp_loc rfl rfl ?_
  refine wp_loc rfl rfl ?_
  refine wp_getI rfl rfl rfl k0 ?_
  exact wp_icge (tgt := 19) rfl (by decide) wt wf
theorem b116_8 {n : Nat} {h : q_Hp} {Q : Option Value → q_Hp → Prop} {x0 : Nat} {x1 : Int32} {v0 : Nat} (k0 : q_ok h x0 4) (e0 : qR h x0 13 = v0) {m : Nat} {P : Int32 → q_Hp → Prop} (hc : q_mI m 232 [.ref v0, .int x1] h P) (hm : m ≤ n) (w : ∀ (z : Int32) (h1 : q_Hp), P z h1 → q_wp (n + 1) 116 16 [some (.ref x0), some (.int x1)] [.int z] h1 Q) : q_wp (n + 1) 116 8 [some (.ref x0), some (.int x1)] [] h Q := by
  refine wp_loc rfl rfl ?_
  refine wp_getR rfl rfl rfl rfl k0 e0 ?_
  refine wp_loc rfl rfl ?_
  exact wp_callI (av := [.ref v0, .int x1]) rfl rfl rfl (by decide) rfl rfl rfl hm hc w
theorem b116_16 {n : Nat} {h : q_Hp} {Q : Option Value → q_Hp → Prop} {x0 : Nat} {x1 : Int32} {s0 : Int32} (q : Q (some (.int s0)) h) : q_wp n 116 16 [some (.ref x0), some (.int x1)] [.int s0] h Q := by
  refine wp_goto (tgt := 20) rfl (by decide) ?_
  exact wp_ret rfl rfl q
theorem b116_19 {n : Nat} {h : q_Hp} {Q : Option Value → q_Hp → Prop} {x0 : Nat} {x1 : Int32} (q : Q (some (.int (-1))) h) : q_wp n 116 19 [some (.ref x0), some (.int x1)] [] h Q := by
  refine wp_iconst (v := (-1)) rfl (by decide) ?_
  exact wp_ret rfl rfl q
