theorem b82_0 {n : Nat} {h : q_Hp} {Q : Option Value → q_Hp → Prop} {x0 : Nat} (k0 : q_ok h x0 3) (q : Q (some (.int (qI h x0 3))) h) : q_wp n 82 0 [some (.ref x0)] [] h Q := by
  refine wp_loc rfl rfl ?_
  refine wp_getI rfl rfl rfl k0 ?_
  exact wp_ret rfl rfl q
theorem b83_0 {n : Nat} {h : q_Hp} {Q : Option Value → q_Hp → Prop} {x0 : Nat} (k0 : q_ok h x0 3) (q : Q (some (.int (qI h x0 4))) h) : q_wp n 83 0 [some (.ref x0)] [] h Q := by
  refine wp_loc rfl rfl ?_
  refine wp_getI rfl rfl rfl k0 ?_
  exact wp_ret rfl rfl q
theorem b84_0 {n : Nat} {h : q_Hp} {Q : Option Value → q_Hp → Prop} {x0 : Nat} (k0 : q_ok h x0 3) (q : Q none (q_sI h x0 3 0)) : q_wp n 84 0 [some (.ref x0)] [] h Q := by
  refine wp_loc rfl rfl ?_
  refine wp_iconst (v := 0) rfl (by decide) ?_
  refine wp_putI rfl rfl (Or.inl rfl) rfl (fun h9 => by cases h9) k0 ?_
  exact wp_ret rfl rfl q
theorem b85_0 {n : Nat} {h : q_Hp} {Q : Option Value → q_Hp → Prop} {x0 : Nat} {v0 : Nat} {v1 : Nat} (k0 : q_ok h x0 3) (e0 : qR h x0 0 = v0) (e1 : qR h x0 1 = v1) {m : Nat} {P : q_Hp → Prop} (hc : q_mV m 62 [.ref v0, .ref v1, .int (qI h x0 2)] h P) (hm : m ≤ n) (w : ∀ h1 : q_Hp, P h1 → q_wp (n + 1) 85 15 [some (.ref x0)] [] h1 Q) : q_wp (n + 1) 85 0 [some (.ref x0)] [] h Q := by
  refine wp_loc rfl rfl ?_
  refine wp_getR rfl rfl rfl rfl k0 e0 ?_
  refine wp_loc rfl rfl ?_
  refine wp_getR rfl rfl rfl rfl k0 e1 ?_
  refine wp_loc rfl rfl ?_
  refine wp_getI rfl rfl rfl k0 ?_
  exact wp_callV (av := [.ref v0, .ref v1, .int (qI h x0 2)]) rfl rfl rfl (by decide) rfl rfl rfl hm hc w
theorem b85_15 {n : Nat} {h : q_Hp} {Q : Option Value → q_Hp → Prop} {x0 : Nat} (q : Q none h) : q_wp n 85 15 [some (.ref x0)] [] h Q := by
  exact wp_ret rfl rfl q
theorem b86_0 {n : Nat} {h : q_Hp} {Q : Option Value → q_Hp → Prop} {x0 : Nat} {v0 : Nat} {v1 : Nat} (k0 : q_ok h x0 3) (e0 : qR h x0 0 = v0) (e1 : qR h x0 1 = v1) {m : Nat} {P : q_Hp → Prop} (hc : q_mV m 63 [.ref v0, .ref v1, .int (qI h x0 2)] h P) (hm : m ≤ n) (w : ∀ h1 : q_Hp, P h1 → q_wp (n + 1) 86 15 [some (.ref x0)] [] h1 Q) : q_wp (n + 1) 86 0 [some (.ref x0)] [] h Q := by
  refine wp_loc rfl rfl ?_
  refine wp_getR rfl rfl rfl rfl k0 e0 ?_
  refine wp_loc rfl rfl ?_
  refine wp_getR rfl rfl rfl rfl k0 e1 ?_
  refine wp_loc rfl rfl ?_
  refine wp_getI rfl rfl rfl k0 ?_
  exact wp_callV (av := [.ref v0, .ref v1, .int (qI h x0 2)]) rfl rfl rfl (by decide) rfl rfl rfl hm hc w
theorem b86_15 {n : Nat} {h : q_Hp} {Q : Option Value → q_Hp → Prop} {x0 : Nat} (q : Q none h) : q_wp n 86 15 [some (.ref x0)] [] h Q := by
  exact wp_ret rfl rfl q
theorem b87_0 {n : Nat} {h : q_Hp} {Q : Option Value → q_Hp → Prop} {x0 : Nat} (k0 : q_ok h x0 3) (nz1 : ¬ (101 : Int32) = 0) {m : Nat} {P : Int32 → q_Hp → Prop} (hc : q_mI m 350 [.int ((qI (q_sI h x0 2 (((qI h x0 2) + 1) - ((qI h x0 2) + 1) / 101 * 101)) x0 3) + 1), .int 100] (q_sI h x0 2 (((qI h x0 2) + 1) - ((qI h x0 2) + 1) / 101 * 101)) P) (hm : m ≤ n) (w : ∀ (z : Int32) (h1 : q_Hp), P z h1 → q_wp (n + 1) 87 25 [some (.ref x0)] [.int z, .ref x0] h1 Q) : q_wp (n + 1) 87 0 [some (.ref x0)] [] h Q := by
  refine wp_loc rfl rfl ?_
  refine wp_loc rfl rfl ?_
  refine wp_getI rfl rfl rfl k0 ?_
  refine wp_iconst (v := 1) rfl (by decide) ?_
  refine wp_stk rfl rfl rfl ?_
  refine wp_bipush (v := 101) rfl (by decide) ?_
  refine wp_irem rfl nz1 ?_
  refine wp_putI rfl rfl (Or.inl rfl) rfl (fun h9 => by cases h9) k0 ?_
  refine wp_loc rfl rfl ?_
  refine wp_loc rfl rfl ?_
  refine wp_getI rfl rfl rfl k0 ?_
  refine wp_iconst (v := 1) rfl (by decide) ?_
  refine wp_stk rfl rfl rfl ?_
  refine wp_bipush (v := 100) rfl (by decide) ?_
  exact wp_callI (av := [.int ((qI (q_sI h x0 2 (((qI h x0 2) + 1) - ((qI h x0 2) + 1) / 101 * 101)) x0 3) + 1), .int 100]) rfl rfl rfl (by decide) rfl rfl rfl hm hc w
theorem b87_25 {n : Nat} {h : q_Hp} {Q : Option Value → q_Hp → Prop} {x0 : Nat} {s0 : Int32} {s1 : Nat} (k0 : q_ok h s1 3) (k1 : q_ok h x0 3) (q : Q none (q_sI (q_sI h s1 3 s0) x0 4 ((qI (q_sI h s1 3 s0) x0 4) + 1))) : q_wp n 87 25 [some (.ref x0)] [.int s0, .ref s1] h Q := by
  refine wp_putI rfl rfl (Or.inl rfl) rfl (fun h9 => by cases h9) k0 ?_
  refine wp_loc rfl rfl ?_
  refine wp_stk rfl rfl rfl ?_
  refine wp_getI rfl rfl rfl k1 ?_
  refine wp_iconst (v := 1) rfl (by decide) ?_
  refine wp_stk rfl rfl rfl ?_
  refine wp_putI rfl rfl (Or.inl rfl) rfl (fun h9 => by cases h9) k1 ?_
  exact wp_ret rfl rfl q
theorem b88_0 {n : Nat} {h : q_Hp} {Q : Option Value → q_Hp → Prop} {x0 : Nat} {x1 : Int32} (k0 : q_ok h x0 3) {m : Nat} {P : Int32 → q_Hp → Prop} (hc : q_mI m 348 [.int ((qI h x0 2) - ((qI h x0 4) - x1)), .int 101] h P) (hm : m ≤ n) (w : ∀ (z : Int32) (h1 : q_Hp), P z h1 → q_wp (n + 1) 88 19 [some (.ref x0), some (.int x1), some (.int ((qI h x0 4) - x1))] [.int z, .ref x0] h1 Q) : q_wp (n + 1) 88 0 [some (.ref x0), some (.int x1), none] [] h Q := by
  refine wp_loc rfl rfl ?_
  refine wp_getI rfl rfl rfl k0 ?_
  refine wp_loc rfl rfl ?_
  refine wp_stk rfl rfl rfl ?_
  refine wp_loc rfl rfl ?_
  refine wp_loc rfl rfl ?_
  refine wp_loc rfl rfl ?_
  refine wp_getI rfl rfl rfl k0 ?_
  refine wp_loc rfl rfl ?_
  refine wp_stk rfl rfl rfl ?_
  refine wp_bipush (v := 101) rfl (by decide) ?_
  exact wp_callI (av := [.int ((qI h x0 2) - ((qI h x0 4) - x1)), .int 101]) rfl rfl rfl (by decide) rfl rfl rfl hm hc w
theorem b88_19 {n : Nat} {h : q_Hp} {Q : Option Value → q_Hp → Prop} {x0 : Nat} {x1 : Int32} {x2 : Int32} {s0 : Int32} {s1 : Nat} (k0 : q_ok h s1 3) (k1 : q_ok h x0 3) {m : Nat} {P : Int32 → q_Hp → Prop} (hc : q_mI m 349 [.int 0, .int ((qI (q_sI h s1 2 s0) x0 3) - x2)] (q_sI h s1 2 s0) P) (hm : m ≤ n) (w : ∀ (z : Int32) (h1 : q_Hp), P z h1 → q_wp (n + 1) 88 33 [some (.ref x0), some (.int x1), some (.int x2)] [.int z, .ref x0] h1 Q) : q_wp (n + 1) 88 19 [some (.ref x0), some (.int x1), some (.int x2)] [.int s0, .ref s1] h Q := by
  refine wp_putI rfl rfl (Or.inl rfl) rfl (fun h9 => by cases h9) k0 ?_
  refine wp_loc rfl rfl ?_
  refine wp_iconst (v := 0) rfl (by decide) ?_
  refine wp_loc rfl rfl ?_
  refine wp_getI rfl rfl rfl k1 ?_
  refine wp_loc rfl rfl ?_
  refine wp_stk rfl rfl rfl ?_
  exact wp_callI (av := [.int 0, .int ((qI (q_sI h s1 2 s0) x0 3) - x2)]) rfl rfl rfl (by decide) rfl rfl rfl hm hc w
theorem b88_33 {n : Nat} {h : q_Hp} {Q : Option Value → q_Hp → Prop} {x0 : Nat} {x1 : Int32} {x2 : Int32} {s0 : Int32} {s1 : Nat} (k0 : q_ok h s1 3) (k1 : q_ok h x0 3) (q : Q none (q_sI (q_sI h s1 3 s0) x0 4 x1)) : q_wp n 88 33 [some (.ref x0), some (.int x1), some (.int x2)] [.int s0, .ref s1] h Q := by
  refine wp_putI rfl rfl (Or.inl rfl) rfl (fun h9 => by cases h9) k0 ?_
  refine wp_loc rfl rfl ?_
  refine wp_loc rfl rfl ?_
  refine wp_putI rfl rfl (Or.inl rfl) rfl (fun h9 => by cases h9) k1 ?_
  exact wp_ret rfl rfl q
theorem b89_0 {n : Nat} {h : q_Hp} {Q : Option Value → q_Hp → Prop} {x0 : Nat} {x1 : Int32} (wt : x1 < 1 → q_wp n 89 13 [some (.ref x0), some (.int x1)] [] h Q) (wf : ¬ x1 < 1 → q_wp n 89 5 [some (.ref x0), some (.int x1)] [] h Q) : q_wp n 89 0 [some (.ref x0), some (.int x1)] [] h Q := by
  refine wp_loc rfl rfl ?_
  refine wp_iconst (v := 1) rfl (by decide) ?_
  exact wp_iclt (tgt := 13) rfl (by decide) wt wf
theorem b89_5 {n : Nat} {h : q_Hp} {Q : Option Value → q_Hp → Prop} {x0 : Nat} {x1 : Int32} (k0 : q_ok h x0 3) (wt : x1 ≤ (qI h x0 3) → q_wp n 89 15 [some (.ref x0), some (.int x1)] [] h Q) (wf : ¬ x1 ≤ (qI h x0 3) → q_wp n 89 13 [some (.ref x0), some (.int x1)] [] h Q) : q_wp n 89 5 [some (.ref x0), some (.int x1)] [] h Q := by
  refine wp_loc rfl rfl ?_
  refine wp_loc rfl rfl ?_
  refine wp_getI rfl rfl rfl k0 ?_
  exact wp_icle (tgt := 15) rfl (by decide) wt wf
theorem b89_13 {n : Nat} {h : q_Hp} {Q : Option Value → q_Hp → Prop} {x0 : Nat} {x1 : Int32} (q : Q (some (.int 0)) h) : q_wp n 89 13 [some (.ref x0), some (.int x1)] [] h Q := by
  refine wp_iconst (v := 0) rfl (by decide) ?_
  exact wp_ret (r := some (.int 0)) rfl rfl q
theorem b89_15 {n : Nat} {h : q_Hp} {Q : Option Value → q_Hp → Prop} {x0 : Nat} {x1 : Int32} (k0 : q_ok h x0 3) {m : Nat} {P : q_Hp → Prop} (hc : q_mV m 88 [.ref x0, .int ((qI h x0 4) - x1)] h P) (hm : m ≤ n) (w : ∀ h1 : q_Hp, P h1 → q_wp (n + 1) 89 25 [some (.ref x0), some (.int x1)] [] h1 Q) : q_wp (n + 1) 89 15 [some (.ref x0), some (.int x1)] [] h Q := by
  refine wp_loc rfl rfl ?_
  refine wp_loc rfl rfl ?_
  refine wp_getI rfl rfl rfl k0 ?_
  refine wp_loc rfl rfl ?_
  refine wp_stk rfl rfl rfl ?_
  exact wp_callV (av := [.ref x0, .int ((qI h x0 4) - x1)]) rfl rfl rfl (by decide) rfl rfl rfl hm hc w
theorem b89_25 {n : Nat} {h : q_Hp} {Q : Option Value → q_Hp → Prop} {x0 : Nat} {x1 : Int32} {v0 : Nat} {v1 : Nat} (k0 : q_ok h x0 3) (e0 : qR h x0 0 = v0) (e1 : qR h x0 1 = v1) {m : Nat} {P : q_Hp → Prop} (hc : q_mV m 63 [.ref v0, .ref v1, .int (qI h x0 2)] h P) (hm : m ≤ n) (w : ∀ h1 : q_Hp, P h1 → q_wp (n + 1) 89 40 [some (.ref x0), some (.int x1)] [] h1 Q) : q_wp (n + 1) 89 25 [some (.ref x0), some (.int x1)] [] h Q := by
  refine wp_loc rfl rfl ?_
  refine wp_getR rfl rfl rfl rfl k0 e0 ?_
  refine wp_loc rfl rfl ?_
  refine wp_getR rfl rfl rfl rfl k0 e1 ?_
  refine wp_loc rfl rfl ?_
  refine wp_getI rfl rfl rfl k0 ?_
  exact wp_callV (av := [.ref v0, .ref v1, .int (qI h x0 2)]) rfl rfl rfl (by decide) rfl rfl rfl hm hc w
theorem b89_40 {n : Nat} {h : q_Hp} {Q : Option Value → q_Hp → Prop} {x0 : Nat} {x1 : Int32} (q : Q (some (.int 1)) h) : q_wp n 89 40 [some (.ref x0), some (.int x1)] [] h Q := by
  refine wp_iconst (v := 1) rfl (by decide) ?_
  exact wp_ret (r := some (.int 1)) rfl rfl q
