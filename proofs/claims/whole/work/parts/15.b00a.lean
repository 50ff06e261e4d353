theorem b0_74 {n : Nat} {h : q_Hp} {Q : Option Value → q_Hp → Prop} {x0 : Nat} {x1 : Int32} (wt : 20 ≤ x1 → q_wp n 0 99 [some (.ref x0), some (.int x1)] [] h Q) (wf : ¬ 20 ≤ x1 → q_wp n 0 80 [some (.ref x0), some (.int x1)] [] h Q) : q_wp n 0 74 [some (.ref x0), some (.int x1)] [] h Q := by
  refine wp_loc rfl rfl ?_
  refine wp_bipush (v := 20) rfl (by decide) ?_
  exact wp_icge (tgt := 99) rfl (by decide) wt wf
theorem b0_92 {n : Nat} {h : q_Hp} {Q : Option Value → q_Hp → Prop} {x0 : Nat} {x1 : Int32} {s0 : Nat} {s1 : Int32} {s2 : Nat} (k0 : q_ok h s2 24) (i0 : q_in s1 (qK h s2).2) (k1 : q_ok h s0 6) (w : q_wp n 0 74 [some (.ref x0), some (.int (x1 + 1))] [] (q_sR h s2 s1.toNatClampNeg s0) Q) : q_wp n 0 92 [some (.ref x0), some (.int x1)] [.ref s0, .int s1, .ref s2] h Q := by
  refine wp_aast rfl k0 i0 k1 ?_
  refine wp_iinc (v := 1) rfl rfl (by decide) rfl ?_
  refine wp_goto (tgt := 74) rfl (by decide) ?_
  exact w
theorem b0_99 {n : Nat} {h : q_Hp} {Q : Option Value → q_Hp → Prop} {x0 : Nat} {x1 : Int32} (q : Q none h) : q_wp n 0 99 [some (.ref x0), some (.int x1)] [] h Q := by
  exact wp_ret rfl rfl q
theorem b1_0 {n : Nat} {h : q_Hp} {Q : Option Value → q_Hp → Prop} {x0 : Nat} (k0 : q_ok h x0 0) (q : Q none (q_sI (q_sI (q_sI (q_sI (q_sI (q_sI h x0 0 0) x0 1 0) x0 2 0) x0 3 0) x0 4 0) x0 5 0)) : q_wp n 1 0 [some (.ref x0)] [] h Q := by
  refine wp_loc rfl rfl ?_
  refine wp_iconst (v := 0) rfl (by decide) ?_
  refine wp_putI rfl rfl (Or.inl rfl) rfl (fun h9 => by cases h9) k0 ?_
  refine wp_loc rfl rfl ?_
  refine wp_iconst (v := 0) rfl (by decide) ?_
  refine wp_putI rfl rfl (Or.inl rfl) rfl (fun h9 => by cases h9) k0 ?_
  refine wp_loc rfl rfl ?_
  refine wp_iconst (v := 0) rfl (by decide) ?_
  refine wp_putI rfl rfl (Or.inl rfl) rfl (fun h9 => by cases h9) k0 ?_
  refine wp_loc rfl rfl ?_
  refine wp_iconst (v := 0) rfl (by decide) ?_
  refine wp_putI rfl rfl (Or.inl rfl) rfl (fun h9 => by cases h9) k0 ?_
  refine wp_loc rfl rfl ?_
  refine wp_iconst (v := 0) rfl (by decide) ?_
  refine wp_putI rfl rfl (Or.inl rfl) rfl (fun h9 => by cases h9) k0 ?_
  refine wp_loc rfl rfl ?_
  refine wp_iconst (v := 0) rfl (by decide) ?_
  refine wp_putI rfl rfl (Or.inl rfl) rfl (fun h9 => by cases h9) k0 ?_
  exact wp_ret rfl rfl q
theorem b2_0 {n : Nat} {h : q_Hp} {Q : Option Value → q_Hp → Prop} {x0 : Nat} {x1 : Int32} (wt : x1 < 0 → q_wp n 2 22 [some (.ref x0), some (.int x1)] [] h Q) (wf : ¬ x1 < 0 → q_wp n 2 4 [some (.ref x0), some (.int x1)] [] h Q) : q_wp n 2 0 [some (.ref x0), some (.int x1)] [] h Q := by
  refine wp_loc rfl rfl ?_
  exact wp_iflt (tgt := 22) rfl (by decide) wt wf
theorem b2_4 {n : Nat} {h : q_Hp} {Q : Option Value → q_Hp → Prop} {x0 : Nat} {x1 : Int32} (k0 : q_ok h x0 0) (wt : (qI h x0 0) ≤ x1 → q_wp n 2 22 [some (.ref x0), some (.int x1)] [] h Q) (wf : ¬ (qI h x0 0) ≤ x1 → q_wp n 2 12 [some (.ref x0), some (.int x1)] [] h Q) : q_wp n 2 4 [some (.ref x0), some (.int x1)] [] h Q := by
  refine wp_loc rfl rfl ?_
  refine wp_loc rfl rfl ?_
  refine wp_getI rfl rfl rfl k0 ?_
  exact wp_icge (tgt := 22) rfl (by decide) wt wf
theorem b2_12 {n : Nat} {h : q_Hp} {Q : Option Value → q_Hp → Prop} {x0 : Nat} {x1 : Int32} (wt : 12 ≤ x1 → q_wp n 2 22 [some (.ref x0), some (.int x1)] [] h Q) (wf : ¬ 12 ≤ x1 → q_wp n 2 18 [some (.ref x0), some (.int x1)] [] h Q) : q_wp n 2 12 [some (.ref x0), some (.int x1)] [] h Q := by
  refine wp_loc rfl rfl ?_
  refine wp_bipush (v := 12) rfl (by decide) ?_
  exact wp_icge (tgt := 22) rfl (by decide) wt wf
theorem b2_18 {n : Nat} {h : q_Hp} {Q : Option Value → q_Hp → Prop} {x0 : Nat} {x1 : Int32} (q : Q (some (.int 1)) h) : q_wp n 2 18 [some (.ref x0), some (.int x1)] [] h Q := by
  refine wp_iconst (v := 1) rfl (by decide) ?_
  refine wp_goto (tgt := 23) rfl (by decide) ?_
  exact wp_ret (r := some (.int 1)) rfl rfl q
theorem b2_22 {n : Nat} {h : q_Hp} {Q : Option Value → q_Hp → Prop} {x0 : Nat} {x1 : Int32} (q : Q (some (.int 0)) h) : q_wp n 2 22 [some (.ref x0), some (.int x1)] [] h Q := by
  refine wp_iconst (v := 0) rfl (by decide) ?_
  exact wp_ret (r := some (.int 0)) rfl rfl q
theorem b3_0 {n : Nat} {h : q_Hp} {Q : Option Value → q_Hp → Prop} {x0 : Nat} {x1 : Int32} (wt : x1 < 0 → q_wp n 3 22 [some (.ref x0), some (.int x1)] [] h Q) (wf : ¬ x1 < 0 → q_wp n 3 4 [some (.ref x0), some (.int x1)] [] h Q) : q_wp n 3 0 [some (.ref x0), some (.int x1)] [] h Q := by
  refine wp_loc rfl rfl ?_
  exact wp_iflt (tgt := 22) rfl (by decide) wt wf
theorem b3_4 {n : Nat} {h : q_Hp} {Q : Option Value → q_Hp → Prop} {x0 : Nat} {x1 : Int32} (k0 : q_ok h x0 0) (wt : (qI h x0 1) ≤ x1 → q_wp n 3 22 [some (.ref x0), some (.int x1)] [] h Q) (wf : ¬ (qI h x0 1) ≤ x1 → q_wp n 3 12 [some (.ref x0), some (.int x1)] [] h Q) : q_wp n 3 4 [some (.ref x0), some (.int x1)] [] h Q := by
  refine wp_loc rfl rfl ?_
  refine wp_loc rfl rfl ?_
  refine wp_getI rfl rfl rfl k0 ?_
  exact wp_icge (tgt := 22) rfl (by decide) wt wf
theorem b3_12 {n : Nat} {h : q_Hp} {Q : Option Value → q_Hp → Prop} {x0 : Nat} {x1 : Int32} (wt : 12 ≤ x1 → q_wp n 3 22 [some (.ref x0), some (.int x1)] [] h Q) (wf : ¬ 12 ≤ x1 → q_wp n 3 18 [some (.ref x0), some (.int x1)] [] h Q) : q_wp n 3 12 [some (.ref x0), some (.int x1)] [] h Q := by
  refine wp_loc rfl rfl ?_
  refine wp_bipush (v := 12) rfl (by decide) ?_
  exact wp_icge (tgt := 22) rfl (by decide) wt wf
theorem b3_18 {n : Nat} {h : q_Hp} {Q : Option Value → q_Hp → Prop} {x0 : Nat} {x1 : Int32} (q : Q (some (.int 1)) h) : q_wp n 3 18 [some (.ref x0), some (.int x1)] [] h Q := by
  refine wp_iconst (v := 1) rfl (by decide) ?_
  refine wp_goto (tgt := 23) rfl (by decide) ?_
  exact wp_ret (r := some (.int 1)) rfl rfl q
theorem b3_22 {n : Nat} {h : q_Hp} {Q : Option Value → q_Hp → Prop} {x0 : Nat} {x1 : Int32} (q : Q (some (.int 0)) h) : q_wp n 3 22 [some (.ref x0), some (.int x1)] [] h Q := by
  refine wp_iconst (v := 0) rfl (by decide) ?_
  exact wp_ret (r := some (.int 0)) rfl rfl q
theorem b4_0 {n : Nat} {h : q_Hp} {Q : Option Value → q_Hp → Prop} {x0 : Nat} {x1 : Int32} (wt : x1 < 0 → q_wp n 4 22 [some (.ref x0), some (.int x1)] [] h Q) (wf : ¬ x1 < 0 → q_wp n 4 4 [some (.ref x0), some (.int x1)] [] h Q) : q_wp n 4 0 [some (.ref x0), some (.int x1)] [] h Q := by
  refine wp_loc rfl rfl ?_
  exact wp_iflt (tgt := 22) rfl (by decide) wt wf
theorem b4_4 {n : Nat} {h : q_Hp} {Q : Option Value → q_Hp → Prop} {x0 : Nat} {x1 : Int32} (k0 : q_ok h x0 0) (wt : (qI h x0 2) ≤ x1 → q_wp n 4 22 [some (.ref x0), some (.int x1)] [] h Q) (wf : ¬ (qI h x0 2) ≤ x1 → q_wp n 4 12 [some (.ref x0), some (.int x1)] [] h Q) : q_wp n 4 4 [some (.ref x0), some (.int x1)] [] h Q := by
  refine wp_loc rfl rfl ?_
  refine wp_loc rfl rfl ?_
  refine wp_getI rfl rfl rfl k0 ?_
  exact wp_icge (tgt := 22) rfl (by decide) wt wf
theorem b4_12 {n : Nat} {h : q_Hp} {Q : Option Value → q_Hp → Prop} {x0 : Nat} {x1 : Int32} (wt : 20 ≤ x1 → q_wp n 4 22 [some (.ref x0), some (.int x1)] [] h Q) (wf : ¬ 20 ≤ x1 → q_wp n 4 18 [some (.ref x0), some (.int x1)] [] h Q) : q_wp n 4 12 [some (.ref x0), some (.int x1)] [] h Q := by
  refine wp_loc rfl rfl ?_
  refine wp_bipush (v := 20) rfl (by decide) ?_
  exact wp_icge (tgt := 22) rfl (by decide) wt wf
theorem b4_18 {n : Nat} {h : q_Hp} {Q : Option Value → q_Hp → Prop} {x0 : Nat} {x1 : Int32} (q : Q (some (.int 1)) h) : q_wp n 4 18 [some (.ref x0), some (.int x1)] [] h Q := by
  refine wp_iconst (v := 1) rfl (by decide) ?_
  refine wp_goto (tgt := 23) rfl (by decide) ?_
  exact wp_ret (r := some (.int 1)) rfl rfl q
theorem b4_22 {n : Nat} {h : q_Hp} {Q : Option Value → q_Hp → Prop} {x0 : Nat} {x1 : Int32} (q : Q (some (.int 0)) h) : q_wp n 4 22 [some (.ref x0), some (.int x1)] [] h Q := by
  refine wp_iconst (v := 0) rfl (by decide) ?_
  exact wp_ret (r := some (.int 0)) rfl rfl q
theorem b5_0 {n : Nat} {h : q_Hp} {Q : Option Value → q_Hp → Prop} {x0 : Nat} {x1 : Int32} (wt : x1 < 0 → q_wp n 5 22 [some (.ref x0), some (.int x1)] [] h Q) (wf : ¬ x1 < 0 → q_wp n 5 4 [some (.ref x0), some (.int x1)] [] h Q) : q_wp n 5 0 [some (.ref x0), some (.int x1)] [] h Q := by
  refine wp_loc rfl rfl ?_
  exact wp_iflt (tgt := 22) rfl (by decide) wt wf
theorem b5_4 {n : Nat} {h : q_Hp} {Q : Option Value → q_Hp → Prop} {x0 : Nat} {x1 : Int32} (k0 : q_ok h x0 0) (wt : (qI h x0 3) ≤ x1 → q_wp n 5 22 [some (.ref x0), some (.int x1)] [] h Q) (wf : ¬ (qI h x0 3) ≤ x1 → q_wp n 5 12 [some (.ref x0), some (.int x1)] [] h Q) : q_wp n 5 4 [some (.ref x0), some (.int x1)] [] h Q := by
  refine wp_loc rfl rfl ?_
  refine wp_loc rfl rfl ?_
  refine wp_getI rfl rfl rfl k0 ?_
  exact wp_icge (tgt := 22) rfl (by decide) wt wf
theorem b5_12 {n : Nat} {h : q_Hp} {Q : Option Value → q_Hp → Prop} {x0 : Nat} {x1 : Int32} (wt : 10 ≤ x1 → q_wp n 5 22 [some (.ref x0), some (.int x1)] [] h Q) (wf : ¬ 10 ≤ x1 → q_wp n 5 18 [some (.ref x0), some (.int x1)] [] h Q) : q_wp n 5 12 [some (.ref x0), some (.int x1)] [] h Q := by
  refine wp_loc rfl rfl ?_
  refine wp_bipush (v := 10) rfl (by decide) ?_
  exact wp_icge (tgt := 22) rfl (by decide) wt wf
theorem b5_18 {n : Nat} {h : q_Hp} {Q : Option Value → q_Hp → Prop} {x0 : Nat} {x1 : Int32} (q : Q (some (.int 1)) h) : q_wp n 5 18 [some (.ref x0), some (.int x1)] [] h Q := by
  refine wp_iconst (v := 1) rfl (by decide) ?_
  refine wp_goto (tgt := 23) rfl (by decide) ?_
  exact wp_ret (r := some (.int 1)) rfl rfl q
theorem b5_22 {n : Nat} {h : q_Hp} {Q : Option Value → q_Hp → Prop} {x0 : Nat} {x1 : Int32} (q : Q (some (.int 0)) h) : q_wp n 5 22 [some (.ref x0), some (.int x1)] [] h Q := by
  refine wp_iconst (v := 0) rfl (by decide) ?_
  exact wp_ret (r := some (.int 0)) rfl rfl q
theorem b6_0 {n : Nat} {h : q_Hp} {Q : Option Value → q_Hp → Prop} {x0 : Nat} {x1 : Int32} {x2 : Int32} (w : q_wp n 6 5 [some (.ref x0), some (.int x1), some (.int x2), some (.int x1), some (.int 0)] [] h Q) : q_wp n 6 0 [some (.ref x0), some (.int x1), some (.int x2), none, none] [] h Q := by
  refine wp_loc rfl rfl ?_
  refine wp_loc rfl rfl ?_
  refine wp_iconst (v := 0) rfl (by decide) ?_
  refine wp_loc rfl rfl ?_
  exact w
theorem b6_5 {n : Nat} {h : q_Hp} {Q : Option Value → q_Hp → Prop} {x0 : Nat} {x1 : Int32} {x2 : Int32} {x3 : Int32} {x4 : Int32} (wt : 12 ≤ x4 → q_wp n 6 50 [some (.ref x0), some (.int x1), some (.int x2), some (.int x3), some (.int x4)] [] h Q) (wf : ¬ 12 ≤ x4 → q_wp n 6 12 [some (.ref x0), some (.int x1), some (.int x2), some (.int x3), some (.int x4)] [] h Q) : q_wp n 6 5 [some (.ref x0), some (.int x1), some (.int x2), some (.int x3), some (.int x4)] [] h Q := by
  refine wp_loc rfl rfl ?_
  refine wp_bipush (v := 12) rfl (by decide) ?_
  exact wp_icge (tgt := 50) rfl (by decide) wt wf
theorem b6_12 {n : Nat} {h : q_Hp} {Q : Option Value → q_Hp → Prop} {x0 : Nat} {x1 : Int32} {x2 : Int32} {x3 : Int32} {x4 : Int32} (wt : x3 < 0 → q_wp n 6 50 [some (.ref x0), some (.int x1), some (.int x2), some (.int x3), some (.int x4)] [] h Q) (wf : ¬ x3 < 0 → q_wp n 6 16 [some (.ref x0), some (.int x1), some (.int x2), some (.int x3), some (.int x4)] [] h Q) : q_wp n 6 12 [some (.ref x0), some (.int x1), some (.int x2), some (.int x3), some (.int x4)] [] h Q := by
  refine wp_loc rfl rfl ?_
  exact wp_iflt (tgt := 50) rfl (by decide) wt wf
theorem b6_16 {n : Nat} {h : q_Hp} {Q : Option Value → q_Hp → Prop} {x0 : Nat} {x1 : Int32} {x2 : Int32} {x3 : Int32} {x4 : Int32} (k0 : q_ok h x0 0) (wt : (qI h x0 0) ≤ x3 → q_wp n 6 50 [some (.ref x0), some (.int x1), some (.int x2), some (.int x3), some (.int x4)] [] h Q) (wf : ¬ (qI h x0 0) ≤ x3 → q_wp n 6 24 [some (.ref x0), some (.int x1), some (.int x2), some (.int x3), some (.int x4)] [] h Q) : q_wp n 6 16 [some (.ref x0), some (.int x1), some (.int x2), some (.int x3), some (.int x4)] [] h Q := by
  refine wp_loc rfl rfl ?_
  refine wp_loc rfl rfl ?_
  refine wp_getI rfl rfl rfl k0 ?_
  exact wp_icge (tgt := 50) rfl (by decide) wt wf
theorem b6_24 {n : Nat} {h : q_Hp} {Q : Option Value → q_Hp → Prop} {x0 : Nat} {x1 : Int32} {x2 : Int32} {x3 : Int32} {x4 : Int32} (wt : 12 ≤ x3 → q_wp n 6 50 [some (.ref x0), some (.int x1), some (.int x2), some (.int x3), some (.int x4)] [] h Q) (wf : ¬ 12 ≤ x3 → q_wp n 6 30 [some (.ref x0), some (.int x1), some (.int x2), some (.int x3), some (.int x4)] [] h Q) : q_wp n 6 24 [some (.ref x0), some (.int x1), some (.int x2), some (.int x3), some (.int x4)] [] h Q := by
  refine wp_loc rfl rfl ?_
  refine wp_bipush (v := 12) rfl (by decide) ?_
  exact wp_icge (tgt := 50) rfl (by decide) wt wf
theorem b6_30 {n : Nat} {h : q_Hp} {Q : Option Value → q_Hp → Prop} {x0 : Nat} {x1 : Int32} {x2 : Int32} {x3 : Int32} {x4 : Int32} (wt : ¬ x3 = x2 → q_wp n 6 37 [some (.ref x0), some (.int x1), some (.int x2), some (.int x3), some (.int x4)] [] h Q) (wf : x3 = x2 → q_wp n 6 35 [some (.ref x0), some (.int x1), some (.int x2), some (.int x3), some (.int x4)] [] h Q) : q_wp n 6 30 [some (.ref x0), some (.int x1), some (.int x2), some (.int x3), some (.int x4)] [] h Q := by
  refine wp_loc rfl rfl ?_
  refine wp_loc rfl rfl ?_
  exact wp_icne (tgt := 37) rfl (by decide) wt wf
theorem b6_35 {n : Nat} {h : q_Hp} {Q : Option Value → q_Hp → Prop} {x0 : Nat} {x1 : Int32} {x2 : Int32} {x3 : Int32} {x4 : Int32} (q : Q (some (.int 1)) h) : q_wp n 6 35 [some (.ref x0), some (.int x1), some (.int x2), some (.int x3), some (.int x4)] [] h Q := by
  refine wp_iconst (v := 1) rfl (by decide) ?_
  exact wp_ret (r := some (.int 1)) rfl rfl q
theorem b6_37 {n : Nat} {h : q_Hp} {Q : Option Value → q_Hp → Prop} {x0 : Nat} {x1 : Int32} {x2 : Int32} {x3 : Int32} {x4 : Int32} {v0 : Nat} (k0 : q_ok h x0 0) (e0 : qR h x0 6 = v0) (k1 : q_ok h v0 20) (i0 : q_in x3 (qK h v0).2) (w : q_wp n 6 5 [some (.ref x0), some (.int x1), some (.int x2), some (.int (qA h v0 x3.toNatClampNeg)), some (.int (x4 + 1))] [] h Q) : q_wp n 6 37 [some (.ref x0), some (.int x1), some (.int x2), some (.int x3), some (.int x4)] [] h Q := by
  refine wp_loc rfl rfl ?_
  refine wp_getR rfl rfl rfl rfl k0 e0 ?_
  refine wp_loc rfl rfl ?_
  refine wp_iald rfl k1 i0 ?_
  refine wp_loc rfl rfl ?_
  refine wp_iinc (v := 1) rfl rfl (by decide) rfl ?_
  refine wp_goto (tgt := 5) rfl (by decide) ?_
  exact w
theorem b6_50 {n : Nat} {h : q_Hp} {Q : Option Value → q_Hp → Prop} {x0 : Nat} {x1 : Int32} {x2 : Int32} {x3 : Int32} {x4 : Int32} (q : Q (some (.int 0)) h) : q_wp n 6 50 [some (.ref x0), some (.int x1), some (.int x2), some (.int x3), some (.int x4)] [] h Q := by
  refine wp_iconst (v := 0) rfl (by decide) ?_
  exact wp_ret (r := some (.int 0)) rfl rfl q
theorem b7_0 {n : Nat} {h : q_Hp} {Q : Option Value → q_Hp → Prop} {x0 : Nat} {x1 : Int32} {x2 : Int32} {m : Nat} {P : Int32 → q_Hp → Prop} (hc : q_mI m 3 [.ref x0, .int x1] h P) (hm : m ≤ n) (w : ∀ (z : Int32) (h1 : q_Hp), P z h1 → q_wp (n + 1) 7 5 [some (.ref x0), some (.int x1), some (.int x2)] [.int z] h1 Q) : q_wp (n + 1) 7 0 [some (.ref x0), some (.int x1), some (.int x2)] [] h Q := by
  refine wp_loc rfl rfl ?_
  refine wp_loc rfl rfl ?_
  exact wp_callI (av := [.ref x0, .int x1]) rfl rfl rfl (by decide) rfl rfl rfl hm hc w
theorem b7_5 {n : Nat} {h : q_Hp} {Q : Option Value → q_Hp → Prop} {x0 : Nat} {x1 : Int32} {x2 : Int32} {s0 : Int32} (wt : s0 = 0 → q_wp n 7 26 [some (.ref x0), some (.int x1), some (.int x2)] [] h Q) (wf : ¬ s0 = 0 → q_wp n 7 8 [some (.ref x0), some (.int x1), some (.int x2)] [] h Q) : q_wp n 7 5 [some (.ref x0), some (.int x1), some (.int x2)] [.int s0] h Q := by
  exact wp_ifeq (tgt := 26) rfl (by decide) wt wf
theorem b7_8 {n : Nat} {h : q_Hp} {Q : Option Value → q_Hp → Prop} {x0 : Nat} {x1 : Int32} {x2 : Int32} {v0 : Nat} (k0 : q_ok h x0 0) (e0 : qR h x0 7 = v0) (k1 : q_ok h v0 20) (i0 : q_in x1 (qK h v0).2) {m : Nat} {P : Int32 → q_Hp → Prop} (hc : q_mI m 6 [.ref x0, .int x2, .int (qA h v0 x1.toNatClampNeg)] h P) (hm : m ≤ n) (w : ∀ (z : Int32) (h1 : q_Hp), P z h1 → q_wp (n + 1) 7 19 [some (.ref x0), some (.int x1), some (.int x2)] [.int z] h1 Q) : q_wp (n + 1) 7 8 [some (.ref x0), some (.int x1), some (.int x2)] [] h Q := by
  refine wp_loc rfl rfl ?_
  refine wp_loc rfl rfl ?_
  refine wp_loc rfl rfl ?_
  refine wp_getR rfl rfl rfl rfl k0 e0 ?_
  refine wp_loc rfl rfl ?_
  refine wp_iald rfl k1 i0 ?_
  exact wp_callI (av := [.ref x0, .int x2, .int (qA h v0 x1.toNatClampNeg)]) rfl rfl rfl (by decide) rfl rfl rfl hm hc w
theorem b7_19 {n : Nat} {h : q_Hp} {Q : Option Value → q_Hp → Prop} {x0 : Nat} {x1 : Int32} {x2 : Int32} {s0 : Int32} (wt : s0 = 0 → q_wp n 7 26 [some (.ref x0), some (.int x1), some (.int x2)] [] h Q) (wf : ¬ s0 = 0 → q_wp n 7 22 [some (.ref x0), some (.int x1), some (.int x2)] [] h Q) : q_wp n 7 19 [some (.ref x0), some (.int x1), some (.int x2)] [.int s0] h Q := by
  exact wp_ifeq (tgt := 26) rfl (by decide) wt wf
theorem b7_22 {n : Nat} {h : q_Hp} {Q : Option Value → q_Hp → Prop} {x0 : Nat} {x1 : Int32} {x2 : Int32} (q : Q (some (.int 1)) h) : q_wp n 7 22 [some (.ref x0), some (.int x1), some (.int x2)] [] h Q := by
  refine wp_iconst (v := 1) rfl (by decide) ?_
  refine wp_goto (tgt := 27) rfl (by decide) ?_
  exact wp_ret (r := some (.int 1)) rfl rfl q
theorem b7_26 {n : Nat} {h : q_Hp} {Q : Option Value → q_Hp → Prop} {x0 : Nat} {x1 : Int32} {x2 : Int32} (q : Q (some (.int 0)) h) : q_wp n 7 26 [some (.ref x0), some (.int x1), some (.int x2)] [] h Q := by
  refine wp_iconst (v := 0) rfl (by decide) ?_
  exact wp_ret (r := some (.int 0)) rfl rfl q
theorem b8_0 {n : Nat} {h : q_Hp} {Q : Option Value → q_Hp → Prop} {x0 : Nat} {x1 : Int32} {x2 : Int32} {m : Nat} {P : Int32 → q_Hp → Prop} (hc : q_mI m 3 [.ref x0, .int x1] h P) (hm : m ≤ n) (w : ∀ (z : Int32) (h1 : q_Hp), P z h1 → q_wp (n + 1) 8 5 [some (.ref x0), some (.int x1), some (.int x2)] [.int z] h1 Q) : q_wp (n + 1) 8 0 [some (.ref x0), some (.int x1), some (.int x2)] [] h Q := by
  refine wp_loc rfl rfl ?_
  refine wp_loc rfl rfl ?_
  exact wp_callI (av := [.ref x0, .int x1]) rfl rfl rfl (by decide) rfl rfl rfl hm hc w
theorem b8_5 {n : Nat} {h : q_Hp} {Q : Option Value → q_Hp → Prop} {x0 : Nat} {x1 : Int32} {x2 : Int32} {s0 : Int32} (wt : s0 = 0 → q_wp n 8 26 [some (.ref x0), some (.int x1), some (.int x2)] [] h Q) (wf : ¬ s0 = 0 → q_wp n 8 8 [some (.ref x0), some (.int x1), some (.int x2)] [] h Q) : q_wp n 8 5 [some (.ref x0), some (.int x1), some (.int x2)] [.int s0] h Q := by
  exact wp_ifeq (tgt := 26) rfl (by decide) wt wf
theorem b8_8 {n : Nat} {h : q_Hp} {Q : Option Value → q_Hp → Prop} {x0 : Nat} {x1 : Int32} {x2 : Int32} {v0 : Nat} (k0 : q_ok h x0 0) (e0 : qR h x0 8 = v0) (k1 : q_ok h v0 20) (i0 : q_in x1 (qK h v0).2) {m : Nat} {P : Int32 → q_Hp → Prop} (hc : q_mI m 6 [.ref x0, .int x2, .int (qA h v0 x1.toNatClampNeg)] h P) (hm : m ≤ n) (w : ∀ (z : Int32) (h1 : q_Hp), P z h1 → q_wp (n + 1) 8 19 [some (.ref x0), some (.int x1), some (.int x2)] [.int z] h1 Q) : q_wp (n + 1) 8 8 [some (.ref x0), some (.int x1), some (.int x2)] [] h Q := by
  refine wp_loc rfl rfl ?_
  refine wp_loc rfl rfl ?_
  refine wp_loc rfl rfl ?_
  refine wp_getR rfl rfl rfl rfl k0 e0 ?_
  refine wp_loc rfl rfl ?_
  refine wp_iald rfl k1 i0 ?_
  exact wp_callI (av := [.ref x0, .int x2, .int (qA h v0 x1.toNatClampNeg)]) rfl rfl rfl (by decide) rfl rfl rfl hm hc w
theorem b8_19 {n : Nat} {h : q_Hp} {Q : Option Value → q_Hp → Prop} {x0 : Nat} {x1 : Int32} {x2 : Int32} {s0 : Int32} (wt : s0 = 0 → q_wp n 8 26 [some (.ref x0), some (.int x1), some (.int x2)] [] h Q) (wf : ¬ s0 = 0 → q_wp n 8 22 [some (.ref x0), some (.int x1), some (.int x2)] [] h Q) : q_wp n 8 19 [some (.ref x0), some (.int x1), some (.int x2)] [.int s0] h Q := by
  exact wp_ifeq (tgt := 26) rfl (by decide) wt wf
theorem b8_22 {n : Nat} {h : q_Hp} {Q : Option Value → q_Hp → Prop} {x0 : Nat} {x1 : Int32} {x2 : Int32} (q : Q (some (.int 1)) h) : q_wp n 8 22 [some (.ref x0), some (.int x1), some (.int x2)] [] h Q := by
  refine wp_iconst (v := 1) rfl (by decide) ?_
  refine wp_goto (tgt := 27) rfl (by decide) ?_
  exact wp_ret (r := some (.int 1)) rfl rfl q
theorem b8_26 {n : Nat} {h : q_Hp} {Q : Option Value → q_Hp → Prop} {x0 : Nat} {x1 : Int32} {x2 : Int32} (q : Q (some (.int 0)) h) : q_wp n 8 26 [some (.ref x0), some (.int x1), some (.int x2)] [] h Q := by
  refine wp_iconst (v := 0) rfl (by decide) ?_
  exact wp_ret (r := some (.int 0)) rfl rfl q
theorem b9_0 {n : Nat} {h : q_Hp} {Q : Option Value → q_Hp → Prop} {x0 : Nat} {x1 : Int32} (wt : x1 < 0 → q_wp n 9 19 [some (.ref x0), some (.int x1)] [] h Q) (wf : ¬ x1 < 0 → q_wp n 9 4 [some (.ref x0), some (.int x1)] [] h Q) : q_wp n 9 0 [some (.ref x0), some (.int x1)] [] h Q := by
  refine wp_loc rfl rfl ?_
  exact wp_iflt (tgt := 19) rfl (by decide) wt wf
theorem b9_4 {n : Nat} {h : q_Hp} {Q : Option Value → q_Hp → Prop} {x0 : Nat} {x1 : Int32} (wt : 20 ≤ x1 → q_wp n 9 19 [some (.ref x0), some (.int x1)] [] h Q) (wf : ¬ 20 ≤ x1 → q_wp n 9 10 [some (.ref x0), some (.int x1)] [] h Q) : q_wp n 9 4 [some (.ref x0), some (.int x1)] [] h Q := by
  refine wp_loc rfl rfl ?_
  refine wp_bipush (v := 20) rfl (by decide) ?_
  exact wp_icge (tgt := 19) rfl (by decide) wt wf
theorem b9_10 {n : Nat} {h : q_Hp} {Q : Option Value → q_Hp → Prop} {x0 : Nat} {x1 : Int32} {v0 : Nat} {v1 : Nat} (k0 : q_ok h x0 0) (e0 : qR h x0 9 = v0) (k1 : q_ok h v0 24) (i0 : q_in x1 (qK h v0).2) (e1 : qR h v0 x1.toNatClampNeg = v1) (q : Q (some (.ref v1)) h) : q_wp n 9 10 [some (.ref x0), some (.int x1)] [] h Q := by
  refine wp_loc rfl rfl ?_
  refine wp_getR rfl rfl rfl rfl k0 e0 ?_
  refine wp_loc rfl rfl ?_
  refine wp_aald rfl k1 i0 e1 ?_
  refine wp_goto (tgt := 25) rfl (by decide) ?_
  exact wp_ret rfl rfl q
theorem b9_19 {n : Nat} {h : q_Hp} {Q : Option Value → q_Hp → Prop} {x0 : Nat} {x1 : Int32} {v0 : Nat} {v1 : Nat} (k0 : q_ok h x0 0) (e0 : qR h x0 9 = v0) (k1 : q_ok h v0 24) (i0 : q_in 0 (qK h v0).2) (e1 : qR h v0 ((0 : Int32).toNatClampNeg) = v1) (q : Q (some (.ref v1)) h) : q_wp n 9 19 [some (.ref x0), some (.int x1)] [] h Q := by
  refine wp_loc rfl rfl ?_
  refine wp_getR rfl rfl rfl rfl k0 e0 ?_
  refine wp_iconst (v := 0) rfl (by decide) ?_
  refine wp_aald rfl k1 i0 e1 ?_
  exact wp_ret rfl rfl q
theorem b10_0 {n : Nat} {h : q_Hp} {Q : Option Value → q_Hp → Prop} {x0 : Nat} {x1 : Int32} {m : Nat} {P : Int32 → q_Hp → Prop} (hc : q_mI m 5 [.ref x0, .int x1] h P) (hm : m ≤ n) (w : ∀ (z : Int32) (h1 : q_Hp), P z h1 → q_wp (n + 1) 10 5 [some (.ref x0), some (.int x1)] [.int z] h1 Q) : q_wp (n + 1) 10 0 [some (.ref x0), some (.int x1)] [] h Q := by
  refine wp_loc rfl rfl ?_
  refine wp_loc rfl rfl ?_
  exact wp_callI (av := [.ref x0, .int x1]) rfl rfl rfl (by decide) rfl rfl rfl hm hc w
theorem b10_5 {n : Nat} {h : q_Hp} {Q : Option Value → q_Hp → Prop} {x0 : Nat} {x1 : Int32} {s0 : Int32} (wt : s0 = 0 → q_wp n 10 17 [some (.ref x0), some (.int x1)] [] h Q) (wf : ¬ s0 = 0 → q_wp n 10 8 [some (.ref x0), some (.int x1)] [] h Q) : q_wp n 10 5 [some (.ref x0), some (.int x1)] [.int s0] h Q := by
  exact wp_ifeq (tgt := 17) rfl (by decide) wt wf
theorem b10_8 {n : Nat} {h : q_Hp} {Q : Option Value → q_Hp → Prop} {x0 : Nat} {x1 : Int32} {v0 : Nat} (k0 : q_ok h x0 0) (e0 : qR h x0 10 = v0) (k1 : q_ok h v0 20) (i0 : q_in x1 (qK h v0).2) (q : Q (some (.int (qA h v0 x1.toNatClampNeg))) h) : q_wp n 10 8 [some (.ref x0), some (.int x1)] [] h Q := by
  refine wp_loc rfl rfl ?_
  refine wp_getR rfl rfl rfl rfl k0 e0 ?_
  refine wp_loc rfl rfl ?_
  refine wp_iald rfl k1 i0 ?_
  refine wp_goto (tgt := 18) rfl (by decide) ?_
  exact wp_ret rfl rfl q
theorem b10_17 {n : Nat} {h : q_Hp} {Q : Option Value → q_Hp → Prop} {x0 : Nat} {x1 : Int32} (q : Q (some (.int (-1))) h) : q_wp n 10 17 [some (.ref x0), some (.int x1)] [] h Q := by
  refine wp_iconst (v := (-1)) rfl (by decide) ?_
  exact wp_ret rfl rfl q
theorem b11_0 {n : Nat} {h : q_Hp} {Q : Option Value → q_Hp → Prop} {x0 : Nat} {x1 : Int32} (k0 : q_ok h x0 0) (wt : 12 ≤ (qI h x0 0) → q_wp n 11 29 [some (.ref x0), some (.int x1)] [] h Q) (wf : ¬ 12 ≤ (qI h x0 0) → q_wp n 11 9 [some (.ref x0), some (.int x1)] [] h Q) : q_wp n 11 0 [some (.ref x0), some (.int x1)] [] h Q := by
  refine wp_loc rfl rfl ?_
  refine wp_getI rfl rfl rfl k0 ?_
  refine wp_bipush (v := 12) rfl (by decide) ?_
  exact wp_icge (tgt := 29) rfl (by decide) wt wf
theorem b11_9 {n : Nat} {h : q_Hp} {Q : Option Value → q_Hp → Prop} {x0 : Nat} {x1 : Int32} {v0 : Nat} (k0 : q_ok h x0 0) (e0 : qR h x0 6 = v0) (k1 : q_ok h v0 20) (i0 : q_in (qI h x0 0) (qK h v0).2) (w : q_wp n 11 29 [some (.ref x0), some (.int x1)] [] (q_sI (q_sA h v0 ((qI h x0 0 : Int32).toNatClampNeg) x1) x0 0 ((qI h x0 0) + 1)) Q) : q_wp n 11 9 [some (.ref x0), some (.int x1)] [] h Q := by
  refine wp_loc rfl rfl ?_
  refine wp_getR rfl rfl rfl rfl k0 e0 ?_
  refine wp_loc rfl rfl ?_
  refine wp_getI rfl rfl rfl k0 ?_
  refine wp_loc rfl rfl ?_
  refine wp_iast rfl k1 i0 ?_
  refine wp_loc rfl rfl ?_
  refine wp_stk rfl rfl rfl ?_
  refine wp_getI rfl rfl rfl k0 ?_
  refine wp_iconst (v := 1) rfl (by decide) ?_
  refine wp_stk rfl rfl rfl ?_
  refine wp_putI rfl rfl (Or.inl rfl) rfl (fun h9 => by cases h9) k0 ?_
  exact w
theorem b11_29 {n : Nat} {h : q_Hp} {Q : Option Value → q_Hp → Prop} {x0 : Nat} {x1 : Int32} (q : Q none h) : q_wp n 11 29 [some (.ref x0), some (.int x1)] [] h Q := by
  exact wp_ret rfl rfl q
theorem b12_0 {n : Nat} {h : q_Hp} {Q : Option Value → q_Hp → Prop} {x0 : Nat} {x1 : Int32} {x2 : Int32} (k0 : q_ok h x0 0) (wt : 12 ≤ (qI h x0 1) → q_wp n 12 39 [some (.ref x0), some (.int x1), some (.int x2)] [] h Q) (wf : ¬ 12 ≤ (qI h x0 1) → q_wp n 12 9 [some (.ref x0), some (.int x1), some (.int x2)] [] h Q) : q_wp n 12 0 [some (.ref x0), some (.int x1), some (.int x2)] [] h Q := by
  refine wp_loc rfl rfl ?_
  refine wp_getI rfl rfl rfl k0 ?_
  refine wp_bipush (v := 12) rfl (by decide) ?_
  exact wp_icge (tgt := 39) rfl (by decide) wt wf
theorem b12_9 {n : Nat} {h : q_Hp} {Q : Option Value → q_Hp → Prop} {x0 : Nat} {x1 : Int32} {x2 : Int32} {v0 : Nat} {v1 : Nat} (k0 : q_ok h x0 0) (e0 : qR h x0 7 = v0) (k1 : q_ok h v0 20) (i0 : q_in (qI h x0 1) (qK h v0).2) (e1 : qR h x0 8 = v1) (k2 : q_ok h v1 20) (i1 : q_in (qI h x0 1) (qK h v1).2) (w : q_wp n 12 39 [some (.ref x0), some (.int x1), some (.int x2)] [] (q_sI (q_sA (q_sA h v0 ((qI h x0 1 : Int32).toNatClampNeg) x1) v1 ((qI h x0 1 : Int32).toNatClampNeg) x2) x0 1 ((qI h x0 1) + 1)) Q) : q_wp n 12 9 [some (.ref x0), some (.int x1), some (.int x2)] [] h Q := by
  refine wp_loc rfl rfl ?_
  refine wp_getR rfl rfl rfl rfl k0 e0 ?_
  refine wp_loc rfl rfl ?_
  refine wp_getI rfl rfl rfl k0 ?_
  refine wp_loc rfl rfl ?_
  refine wp_iast rfl k1 i0 ?_
  refine wp_loc rfl rfl ?_
  refine wp_getR rfl rfl rfl rfl k0 e1 ?_
  refine wp_loc rfl rfl ?_
  refine wp_getI rfl rfl rfl k0 ?_
  refine wp_loc rfl rfl ?_
  refine wp_iast rfl k2 i1 ?_
  refine wp_loc rfl rfl ?_
  refine wp_stk rfl rfl rfl ?_
  refine wp_getI rfl rfl rfl k0 ?_
  refine wp_iconst (v := 1) rfl (by decide) ?_
  refine wp_stk rfl rfl rfl ?_
  refine wp_putI rfl rfl (Or.inl rfl) rfl (fun h9 => by cases h9) k0 ?_
  exact w
theorem b12_39 {n : Nat} {h : q_Hp} {Q : Option Value → q_Hp → Prop} {x0 : Nat} {x1 : Int32} {x2 : Int32} (q : Q none h) : q_wp n 12 39 [some (.ref x0), some (.int x1), some (.int x2)] [] h Q := by
  exact wp_ret rfl rfl q
theorem b13_0 {n : Nat} {h : q_Hp} {Q : Option Value → q_Hp → Prop} {x0 : Nat} (k0 : q_ok h x0 0) (wt : 20 ≤ (qI h x0 2) → q_wp n 13 19 [some (.ref x0)] [] h Q) (wf : ¬ 20 ≤ (qI h x0 2) → q_wp n 13 9 [some (.ref x0)] [] h Q) : q_wp n 13 0 [some (.ref x0)] [] h Q := by
  refine wp_loc rfl rfl ?_
  refine wp_getI rfl rfl rfl k0 ?_
  refine wp_bipush (v := 20) rfl (by decide) ?_
  exact wp_icge (tgt := 19) rfl (by decide) wt wf
theorem b13_9 {n : Nat} {h : q_Hp} {Q : Option Value → q_Hp → Prop} {x0 : Nat} (k0 : q_ok h x0 0) (w : q_wp n 13 19 [some (.ref x0)] [] (q_sI h x0 2 ((qI h x0 2) + 1)) Q) : q_wp n 13 9 [some (.ref x0)] [] h Q := by
  refine wp_loc rfl rfl ?_
  refine wp_stk rfl rfl rfl ?_
  refine wp_getI rfl rfl rfl k0 ?_
  refine wp_iconst (v := 1) rfl (by decide) ?_
  refine wp_stk rfl rfl rfl ?_
  refine wp_putI rfl rfl (Or.inl rfl) rfl (fun h9 => by cases h9) k0 ?_
  exact w
theorem b13_19 {n : Nat} {h : q_Hp} {Q : Option Value → q_Hp → Prop} {x0 : Nat} (q : Q none h) : q_wp n 13 19 [some (.ref x0)] [] h Q := by
  exact wp_ret rfl rfl q
theorem b14_0 {n : Nat} {h : q_Hp} {Q : Option Value → q_Hp → Prop} {x0 : Nat} {x1 : Int32} (k0 : q_ok h x0 0) (wt : 10 ≤ (qI h x0 3) → q_wp n 14 29 [some (.ref x0), some (.int x1)] [] h Q) (wf : ¬ 10 ≤ (qI h x0 3) → q_wp n 14 9 [some (.ref x0), some (.int x1)] [] h Q) : q_wp n 14 0 [some (.ref x0), some (.int x1)] [] h Q := by
  refine wp_loc rfl rfl ?_
  refine wp_getI rfl rfl rfl k0 ?_
  refine wp_bipush (v := 10) rfl (by decide) ?_
  exact wp_icge (tgt := 29) rfl (by decide) wt wf
theorem b14_9 {n : Nat} {h : q_Hp} {Q : Option Value → q_Hp → Prop} {x0 : Nat} {x1 : Int32} {v0 : Nat} (k0 : q_ok h x0 0) (e0 : qR h x0 10 = v0) (k1 : q_ok h v0 20) (i0 : q_in (qI h x0 3) (qK h v0).2) (w : q_wp n 14 29 [some (.ref x0), some (.int x1)] [] (q_sI (q_sA h v0 ((qI h x0 3 : Int32).toNatClampNeg) x1) x0 3 ((qI h x0 3) + 1)) Q) : q_wp n 14 9 [some (.ref x0), some (.int x1)] [] h Q := by
  refine wp_loc rfl rfl ?_
  refine wp_getR rfl rfl rfl rfl k0 e0 ?_
  refine wp_loc rfl rfl ?_
  refine wp_getI rfl rfl rfl k0 ?_
  refine wp_loc rfl rfl ?_
  refine wp_iast rfl k1 i0 ?_
  refine wp_loc rfl rfl ?_
  refine wp_stk rfl rfl rfl ?_
  refine wp_getI rfl rfl rfl k0 ?_
  refine wp_iconst (v := 1) rfl (by decide) ?_
  refine wp_stk rfl rfl rfl ?_
  refine wp_putI rfl rfl (Or.inl rfl) rfl (fun h9 => by cases h9) k0 ?_
  exact w
theorem b14_29 {n : Nat} {h : q_Hp} {Q : Option Value → q_Hp → Prop} {x0 : Nat} {x1 : Int32} (q : Q none h) : q_wp n 14 29 [some (.ref x0), some (.int x1)] [] h Q := by
  exact wp_ret rfl rfl q
theorem b15_0 {n : Nat} {h : q_Hp} {Q : Option Value → q_Hp → Prop} {x0 : Nat} (k0 : q_ok h x0 0) (q : Q (some (.int (qI h x0 4))) h) : q_wp n 15 0 [some (.ref x0)] [] h Q := by
  refine wp_loc rfl rfl ?_
  refine wp_getI rfl rfl rfl k0 ?_
  exact wp_ret rfl rfl q
theorem b16_0 {n : Nat} {h : q_Hp} {Q : Option Value → q_Hp → Prop} {x0 : Nat} {x1 : Int32} (wt : x1 < 0 → q_wp n 16 28 [some (.ref x0), some (.int x1)] [] h Q) (wf : ¬ x1 < 0 → q_wp n 16 4 [some (.ref x0), some (.int x1)] [] h Q) : q_wp n 16 0 [some (.ref x0), some (.int x1)] [] h Q := by
  refine wp_loc rfl rfl ?_
  exact wp_iflt (tgt := 28) rfl (by decide) wt wf
theorem b16_4 {n : Nat} {h : q_Hp} {Q : Option Value → q_Hp → Prop} {x0 : Nat} {x1 : Int32} (k0 : q_ok h x0 0) (wt : (qI h x0 4) ≤ x1 → q_wp n 16 28 [some (.ref x0), some (.int x1)] [] h Q) (wf : ¬ (qI h x0 4) ≤ x1 → q_wp n 16 12 [some (.ref x0), some (.int x1)] [] h Q) : q_wp n 16 4 [some (.ref x0), some (.int x1)] [] h Q := by
  refine wp_loc rfl rfl ?_
  refine wp_loc rfl rfl ?_
  refine wp_getI rfl rfl rfl k0 ?_
  exact wp_icge (tgt := 28) rfl (by decide) wt wf
theorem b16_12 {n : Nat} {h : q_Hp} {Q : Option Value → q_Hp → Prop} {x0 : Nat} {x1 : Int32} (wt : 1200 ≤ x1 → q_wp n 16 28 [some (.ref x0), some (.int x1)] [] h Q) (wf : ¬ 1200 ≤ x1 → q_wp n 16 19 [some (.ref x0), some (.int x1)] [] h Q) : q_wp n 16 12 [some (.ref x0), some (.int x1)] [] h Q := by
  refine wp_loc rfl rfl ?_
  refine wp_sipush (v := 1200) rfl (by decide) ?_
  exact wp_icge (tgt := 28) rfl (by decide) wt wf
theorem b16_19 {n : Nat} {h : q_Hp} {Q : Option Value → q_Hp → Prop} {x0 : Nat} {x1 : Int32} {v0 : Nat} (k0 : q_ok h x0 0) (e0 : qR h x0 11 = v0) (k1 : q_ok h v0 20) (i0 : q_in x1 (qK h v0).2) (q : Q (some (.int (qA h v0 x1.toNatClampNeg))) h) : q_wp n 16 19 [some (.ref x0), some (.int x1)] [] h Q := by
  refine wp_loc rfl rfl ?_
  refine wp_getR rfl rfl rfl rfl k0 e0 ?_
  refine wp_loc rfl rfl ?_
  refine wp_iald rfl k1 i0 ?_
  refine wp_goto (tgt := 29) rfl (by decide) ?_
  exact wp_ret rfl rfl q
theorem b16_28 {n : Nat} {h : q_Hp} {Q : Option Value → q_Hp → Prop} {x0 : Nat} {x1 : Int32} (q : Q (some (.int 0)) h) : q_wp n 16 28 [some (.ref x0), some (.int x1)] [] h Q := by
  refine wp_iconst (v := 0) rfl (by decide) ?_
  exact wp_ret rfl rfl q
theorem b17_0 {n : Nat} {h : q_Hp} {Q : Option Value → q_Hp → Prop} {x0 : Nat} {x1 : Int32} (wt : x1 < 0 → q_wp n 17 28 [some (.ref x0), some (.int x1)] [] h Q) (wf : ¬ x1 < 0 → q_wp n 17 4 [some (.ref x0), some (.int x1)] [] h Q) : q_wp n 17 0 [some (.ref x0), some (.int x1)] [] h Q := by
  refine wp_loc rfl rfl ?_
  exact wp_iflt (tgt := 28) rfl (by decide) wt wf
theorem b17_4 {n : Nat} {h : q_Hp} {Q : Option Value → q_Hp → Prop} {x0 : Nat} {x1 : Int32} (k0 : q_ok h x0 0) (wt : (qI h x0 4) ≤ x1 → q_wp n 17 28 [some (.ref x0), some (.int x1)] [] h Q) (wf : ¬ (qI h x0 4) ≤ x1 → q_wp n 17 12 [some (.ref x0), some (.int x1)] [] h Q) : q_wp n 17 4 [some (.ref x0), some (.int x1)] [] h Q := by
  refine wp_loc rfl rfl ?_
  refine wp_loc rfl rfl ?_
  refine wp_getI rfl rfl rfl k0 ?_
  exact wp_icge (tgt := 28) rfl (by decide) wt wf
theorem b17_12 {n : Nat} {h : q_Hp} {Q : Option Value → q_Hp → Prop} {x0 : Nat} {x1 : Int32} (wt : 1200 ≤ x1 → q_wp n 17 28 [some (.ref x0), some (.int x1)] [] h Q) (wf : ¬ 1200 ≤ x1 → q_wp n 17 19 [some (.ref x0), some (.int x1)] [] h Q) : q_wp n 17 12 [some (.ref x0), some (.int x1)] [] h Q := by
  refine wp_loc rfl rfl ?_
  refine wp_sipush (v := 1200) rfl (by decide) ?_
  exact wp_icge (tgt := 28) rfl (by decide) wt wf
theorem b17_19 {n : Nat} {h : q_Hp} {Q : Option Value → q_Hp → Prop} {x0 : Nat} {x1 : Int32} {v0 : Nat} (k0 : q_ok h x0 0) (e0 : qR h x0 12 = v0) (k1 : q_ok h v0 20) (i0 : q_in x1 (qK h v0).2) (q : Q (some (.int (qA h v0 x1.toNatClampNeg))) h) : q_wp n 17 19 [some (.ref x0), some (.int x1)] [] h Q := by
  refine wp_loc rfl rfl ?_
  refine wp_getR rfl rfl rfl rfl k0 e0 ?_
  refine wp_loc rfl rfl ?_
  refine wp_iald rfl k1 i0 ?_
  refine wp_goto (tgt := 29) rfl (by decide) ?_
  exact wp_ret rfl rfl q
theorem b17_28 {n : Nat} {h : q_Hp} {Q : Option Value → q_Hp → Prop} {x0 : Nat} {x1 : Int32} (q : Q (some (.int 0)) h) : q_wp n 17 28 [some (.ref x0), some (.int x1)] [] h Q := by
  refine wp_iconst (v := 0) rfl (by decide) ?_
  exact wp_ret rfl rfl q
theorem b18_0 {n : Nat} {h : q_Hp} {Q : Option Value → q_Hp → Prop} {x0 : Nat} {x1 : Int32} {x2 : Int32} (k0 : q_ok h x0 0) (wt : 1200 ≤ (qI h x0 4) → q_wp n 18 40 [some (.ref x0), some (.int x1), some (.int x2)] [] h Q) (wf : ¬ 1200 ≤ (qI h x0 4) → q_wp n 18 10 [some (.ref x0), some (.int x1), some (.int x2)] [] h Q) : q_wp n 18 0 [some (.ref x0), some (.int x1), some (.int x2)] [] h Q := by
  refine wp_loc rfl rfl ?_
  refine wp_getI rfl rfl rfl k0 ?_
  refine wp_sipush (v := 1200) rfl (by decide) ?_
  exact wp_icge (tgt := 40) rfl (by decide) wt wf
theorem b18_10 {n : Nat} {h : q_Hp} {Q : Option Value → q_Hp → Prop} {x0 : Nat} {x1 : Int32} {x2 : Int32} {v0 : Nat} {v1 : Nat} (k0 : q_ok h x0 0) (e0 : qR h x0 11 = v0) (k1 : q_ok h v0 20) (i0 : q_in (qI h x0 4) (qK h v0).2) (e1 : qR h x0 12 = v1) (k2 : q_ok h v1 20) (i1 : q_in (qI h x0 4) (qK h v1).2) (w : q_wp n 18 40 [some (.ref x0), some (.int x1), some (.int x2)] [] (q_sI (q_sA (q_sA h v0 ((qI h x0 4 : Int32).toNatClampNeg) x1) v1 ((qI h x0 4 : Int32).toNatClampNeg) x2) x0 4 ((qI h x0 4) + 1)) Q) : q_wp n 18 10 [some (.ref x0), some (.int x1), some (.int x2)] [] h Q := by
  refine wp_loc rfl rfl ?_
  refine wp_getR rfl rfl rfl rfl k0 e0 ?_
  refine wp_loc rfl rfl ?_
  refine wp_getI rfl rfl rfl k0 ?_
  refine wp_loc rfl rfl ?_
  refine wp_iast rfl k1 i0 ?_
  refine wp_loc rfl rfl ?_
  refine wp_getR rfl rfl rfl rfl k0 e1 ?_
  refine wp_loc rfl rfl ?_
  refine wp_getI rfl rfl rfl k0 ?_
  refine wp_loc rfl rfl ?_
  refine wp_iast rfl k2 i1 ?_
  refine wp_loc rfl rfl ?_
  refine wp_stk rfl rfl rfl ?_
  refine wp_getI rfl rfl rfl k0 ?_
  refine wp_iconst (v := 1) rfl (by decide) ?_
  refine wp_stk rfl rfl rfl ?_
  refine wp_putI rfl rfl (Or.inl rfl) rfl (fun h9 => by cases h9) k0 ?_
  exact w
theorem b18_40 {n : Nat} {h : q_Hp} {Q : Option Value → q_Hp → Prop} {x0 : Nat} {x1 : Int32} {x2 : Int32} (q : Q none h) : q_wp n 18 40 [some (.ref x0), some (.int x1), some (.int x2)] [] h Q := by
  exact wp_ret rfl rfl q
theorem b19_0 {n : Nat} {h : q_Hp} {Q : Option Value → q_Hp → Prop} {x0 : Nat} {x1 : Int32} (k0 : q_ok h x0 0) (wt : (qI h x0 5) < 1200 → q_wp n 19 12 [some (.ref x0), some (.int x1), none, none] [] h Q) (wf : ¬ (qI h x0 5) < 1200 → q_wp n 19 10 [some (.ref x0), some (.int x1), none, none] [] h Q) : q_wp n 19 0 [some (.ref x0), some (.int x1), none, none] [] h Q := by
  refine wp_loc rfl rfl ?_
  refine wp_getI rfl rfl rfl k0 ?_
  refine wp_sipush (v := 1200) rfl (by decide) ?_
  exact wp_iclt (tgt := 12) rfl (by decide) wt wf
theorem b19_10 {n : Nat} {h : q_Hp} {Q : Option Value → q_Hp → Prop} {x0 : Nat} {x1 : Int32} (q : Q (some (.int (-1))) h) : q_wp n 19 10 [some (.ref x0), some (.int x1), none, none] [] h Q := by
  refine wp_iconst (v := (-1)) rfl (by decide) ?_
  exact wp_ret rfl rfl q
theorem b19_12 {n : Nat} {h : q_Hp} {Q : Option Value → q_Hp → Prop} {x0 : Nat} {x1 : Int32} (k0 : q_ok h x0 0) (w : q_wp n 19 29 [some (.ref x0), some (.int x1), some (.int (qI h x0 5)), some (.int 0)] [] (q_sI h x0 5 ((qI h x0 5) + 1)) Q) : q_wp n 19 12 [some (.ref x0), some (.int x1), none, none] [] h Q := by
  refine wp_loc rfl rfl ?_
  refine wp_getI rfl rfl rfl k0 ?_
  refine wp_loc rfl rfl ?_
  refine wp_loc rfl rfl ?_
  refine wp_stk rfl rfl rfl ?_
  refine wp_getI rfl rfl rfl k0 ?_
  refine wp_iconst (v := 1) rfl (by decide) ?_
  refine wp_stk rfl rfl rfl ?_
  refine wp_putI rfl rfl (Or.inl rfl) rfl (fun h9 => by cases h9) k0 ?_
  refine wp_iconst (v := 0) rfl (by decide) ?_
  refine wp_loc rfl rfl ?_
  exact w
theorem b19_29 {n : Nat} {h : q_Hp} {Q : Option Value → q_Hp → Prop} {x0 : Nat} {x1 : Int32} {x2 : Int32} {x3 : Int32} (wt : 6 ≤ x3 → q_wp n 19 63 [some (.ref x0), some (.int x1), some (.int x2), some (.int x3)] [] h Q) (wf : ¬ 6 ≤ x3 → q_wp n 19 35 [some (.ref x0), some (.int x1), some (.int x2), some (.int x3)] [] h Q) : q_wp n 19 29 [some (.ref x0), some (.int x1), some (.int x2), some (.int x3)] [] h Q := by
  refine wp_loc rfl rfl ?_
  refine wp_bipush (v := 6) rfl (by decide) ?_
  exact wp_icge (tgt := 63) rfl (by decide) wt wf
theorem b19_35 {n : Nat} {h : q_Hp} {Q : Option Value → q_Hp → Prop} {x0 : Nat} {x1 : Int32} {x2 : Int32} {x3 : Int32} {v0 : Nat} (k0 : q_ok h x0 0) (e0 : qR h x0 13 = v0) (wt : ¬ x3 = 0 → q_wp n 19 53 [some (.ref x0), some (.int x1), some (.int x2), some (.int x3)] [.int ((x2 * 6) + x3), .ref v0] h Q) (wf : x3 = 0 → q_wp n 19 49 [some (.ref x0), some (.int x1), some (.int x2), some (.int x3)] [.int ((x2 * 6) + x3), .ref v0] h Q) : q_wp n 19 35 [some (.ref x0), some (.int x1), some (.int x2), some (.int x3)] [] h Q := by
  refine wp_loc rfl rfl ?_
  refine wp_getR rfl rfl rfl rfl k0 e0 ?_
  refine wp_loc rfl rfl ?_
  refine wp_bipush (v := 6) rfl (by decide) ?_
  refine wp_stk rfl rfl rfl ?_
  refine wp_loc rfl rfl ?_
  refine wp_stk rfl rfl rfl ?_
  refine wp_loc rfl rfl ?_
  exact wp_ifne (tgt := 53) rfl (by decide) wt wf
theorem b19_49 {n : Nat} {h : q_Hp} {Q : Option Value → q_Hp → Prop} {x0 : Nat} {x1 : Int32} {x2 : Int32} {x3 : Int32} {s0 : Int32} {s1 : Nat} (w : q_wp n 19 54 [some (.ref x0), some (.int x1), some (.int x2), some (.int x3)] [.int x1, .int s0, .ref s1] h Q) : q_wp n 19 49 [some (.ref x0), some (.int x1), some (.int x2), some (.int x3)] [.int s0, .ref s1] h Q := by
  refine wp_loc rfl rfl ?_
  refine wp_goto (tgt := 54) rfl (by decide) ?_
  exact w
theorem b19_53 {n : Nat} {h : q_Hp} {Q : Option Value → q_Hp → Prop} {x0 : Nat} {x1 : Int32} {x2 : Int32} {x3 : Int32} {s0 : Int32} {s1 : Nat} (w : q_wp n 19 54 [some (.ref x0), some (.int x1), some (.int x2), some (.int x3)] [.int (-1), .int s0, .ref s1] h Q) : q_wp n 19 53 [some (.ref x0), some (.int x1), some (.int x2), some (.int x3)] [.int s0, .ref s1] h Q := by
  refine wp_iconst (v := (-1)) rfl (by decide) ?_
  exact w
theorem b19_54 {n : Nat} {h : q_Hp} {Q : Option Value → q_Hp → Prop} {x0 : Nat} {x1 : Int32} {x2 : Int32} {x3 : Int32} {s0 : Int32} {s1 : Int32} {s2 : Nat} {m : Nat} {P : q_Hp → Prop} (hc : q_mV m 233 [.ref s2, .int s1, .int s0] h P) (hm : m ≤ n) (w : ∀ h1 : q_Hp, P h1 → q_wp (n + 1) 19 57 [some (.ref x0), some (.int x1), some (.int x2), some (.int x3)] [] h1 Q) : q_wp (n + 1) 19 54 [some (.ref x0), some (.int x1), some (.int x2), some (.int x3)] [.int s0, .int s1, .ref s2] h Q := by
  exact wp_callV (av := [.ref s2, .int s1, .int s0]) rfl rfl rfl (by decide) rfl rfl rfl hm hc w
theorem b19_57 {n : Nat} {h : q_Hp} {Q : Option Value → q_Hp → Prop} {x0 : Nat} {x1 : Int32} {x2 : Int32} {x3 : Int32} (w : q_wp n 19 29 [some (.ref x0), some (.int x1), some (.int x2), some (.int (x3 + 1))] [] h Q) : q_wp n 19 57 [some (.ref x0), some (.int x1), some (.int x2), some (.int x3)] [] h Q := by
  refine wp_iinc (v := 1) rfl rfl (by decide) rfl ?_
  refine wp_goto (tgt := 29) rfl (by decide) ?_
  exact w
theorem b19_63 {n : Nat} {h : q_Hp} {Q : Option Value → q_Hp → Prop} {x0 : Nat} {x1 : Int32} {x2 : Int32} {x3 : Int32} (q : Q (some (.int x2)) h) : q_wp n 19 63 [some (.ref x0), some (.int x1), some (.int x2), some (.int x3)] [] h Q := by
  refine wp_loc rfl rfl ?_
  exact wp_ret rfl rfl q
theorem b20_0 {n : Nat} {h : q_Hp} {Q : Option Value → q_Hp → Prop} {x0 : Nat} {x1 : Int32} {x2 : Int32} (wt : x1 < 0 → q_wp n 20 28 [some (.ref x0), some (.int x1), some (.int x2)] [] h Q) (wf : ¬ x1 < 0 → q_wp n 20 4 [some (.ref x0), some (.int x1), some (.int x2)] [] h Q) : q_wp n 20 0 [some (.ref x0), some (.int x1), some (.int x2)] [] h Q := by
  refine wp_loc rfl rfl ?_
  exact wp_iflt (tgt := 28) rfl (by decide) wt wf
theorem b20_4 {n : Nat} {h : q_Hp} {Q : Option Value → q_Hp → Prop} {x0 : Nat} {x1 : Int32} {x2 : Int32} (k0 : q_ok h x0 0) (wt : (qI h x0 5) ≤ x1 → q_wp n 20 28 [some (.ref x0), some (.int x1), some (.int x2)] [] h Q) (wf : ¬ (qI h x0 5) ≤ x1 → q_wp n 20 12 [some (.ref x0), some (.int x1), some (.int x2)] [] h Q) : q_wp n 20 4 [some (.ref x0), some (.int x1), some (.int x2)] [] h Q := by
  refine wp_loc rfl rfl ?_
  refine wp_loc rfl rfl ?_
  refine wp_getI rfl rfl rfl k0 ?_
  exact wp_icge (tgt := 28) rfl (by decide) wt wf
theorem b20_12 {n : Nat} {h : q_Hp} {Q : Option Value → q_Hp → Prop} {x0 : Nat} {x1 : Int32} {x2 : Int32} {v0 : Nat} (k0 : q_ok h x0 0) (e0 : qR h x0 13 = v0) {m : Nat} {P : Int32 → q_Hp → Prop} (hc : q_mI m 232 [.ref v0, .int ((x1 * 6) + x2)] h P) (hm : m ≤ n) (w : ∀ (z : Int32) (h1 : q_Hp), P z h1 → q_wp (n + 1) 20 25 [some (.ref x0), some (.int x1), some (.int x2)] [.int z] h1 Q) : q_wp (n + 1) 20 12 [some (.ref x0), some (.int x1), some (.int x2)] [] h Q := by
  refine wp_loc rfl rfl ?_
  refine wp_getR rfl rfl rfl rfl k0 e0 ?_
  refine wp_loc rfl rfl ?_
  refine wp_bipush (v := 6) rfl (by decide) ?_
  refine wp_stk rfl rfl rfl ?_
  refine wp_loc rfl rfl ?_
  refine wp_stk rfl rfl rfl ?_
  exact wp_callI (av := [.ref v0, .int ((x1 * 6) + x2)]) rfl rfl rfl (by decide) rfl rfl rfl hm hc w
theorem b20_25 {n : Nat} {h : q_Hp} {Q : Option Value → q_Hp → Prop} {x0 : Nat} {x1 : Int32} {x2 : Int32} {s0 : Int32} (q : Q (some (.int s0)) h) : q_wp n 20 25 [some (.ref x0), some (.int x1), some (.int x2)] [.int s0] h Q := by
  refine wp_goto (tgt := 29) rfl (by decide) ?_
  exact wp_ret rfl rfl q
theorem b20_28 {n : Nat} {h : q_Hp} {Q : Option Value → q_Hp → Prop} {x0 : Nat} {x1 : Int32} {x2 : Int32} (q : Q (some (.int (-1))) h) : q_wp n 20 28 [some (.ref x0), some (.int x1), some (.int x2)] [] h Q := by
  refine wp_iconst (v := (-1)) rfl (by decide) ?_
  exact wp_ret rfl rfl q
theorem b21_0 {n : Nat} {h : q_Hp} {Q : Option Value → q_Hp → Prop} {x0 : Nat} {x1 : Int32} {x2 : Int32} {x3 : Int32} (wt : x1 < 0 → q_wp n 21 26 [some (.ref x0), some (.int x1), some (.int x2), some (.int x3)] [] h Q) (wf : ¬ x1 < 0 → q_wp n 21 4 [some (.ref x0), some (.int x1), some (.int x2), some (.int x3)] [] h Q) : q_wp n 21 0 [some (.ref x0), some (.int x1), some (.int x2), some (.int x3)] [] h Q := by
  refine wp_loc rfl rfl ?_
  exact wp_iflt (tgt := 26) rfl (by decide) wt wf
theorem b21_4 {n : Nat} {h : q_Hp} {Q : Option Value → q_Hp → Prop} {x0 : Nat} {x1 : Int32} {x2 : Int32} {x3 : Int32} (k0 : q_ok h x0 0) (wt : (qI h x0 5) ≤ x1 → q_wp n 21 26 [some (.ref x0), some (.int x1), some (.int x2), some (.int x3)] [] h Q) (wf : ¬ (qI h x0 5) ≤ x1 → q_wp n 21 12 [some (.ref x0), some (.int x1), some (.int x2), some (.int x3)] [] h Q) : q_wp n 21 4 [some (.ref x0), some (.int x1), some (.int x2), some (.int x3)] [] h Q := by
  refine wp_loc rfl rfl ?_
  refine wp_loc rfl rfl ?_
  refine wp_getI rfl rfl rfl k0 ?_
  exact wp_icge (tgt := 26) rfl (by decide) wt wf
theorem b21_12 {n : Nat} {h : q_Hp} {Q : Option Value → q_Hp → Prop} {x0 : Nat} {x1 : Int32} {x2 : Int32} {x3 : Int32} {v0 : Nat} (k0 : q_ok h x0 0) (e0 : qR h x0 13 = v0) {m : Nat} {P : q_Hp → Prop} (hc : q_mV m 233 [.ref v0, .int ((x1 * 6) + x2), .int x3] h P) (hm : m ≤ n) (w : ∀ h1 : q_Hp, P h1 → q_wp (n + 1) 21 26 [some (.ref x0), some (.int x1), some (.int x2), some (.int x3)] [] h1 Q) : q_wp (n + 1) 21 12 [some (.ref x0), some (.int x1), some (.int x2), some (.int x3)] [] h Q := by
  refine wp_loc rfl rfl ?_
  refine wp_getR rfl rfl rfl rfl k0 e0 ?_
  refine wp_loc rfl rfl ?_
  refine wp_bipush (v := 6) rfl (by decide) ?_
  refine wp_stk rfl rfl rfl ?_
  refine wp_loc rfl rfl ?_
  refine wp_stk rfl rfl rfl ?_
  refine wp_loc rfl rfl ?_
  exact wp_callV (av := [.ref v0, .int ((x1 * 6) + x2), .int x3]) rfl rfl rfl (by decide) rfl rfl rfl hm hc w
theorem b21_26 {n : Nat} {h : q_Hp} {Q : Option Value → q_Hp → Prop} {x0 : Nat} {x1 : Int32} {x2 : Int32} {x3 : Int32} (q : Q none h) : q_wp n 21 26 [some (.ref x0), some (.int x1), some (.int x2), some (.int x3)] [] h Q := by
  exact wp_ret rfl rfl q
