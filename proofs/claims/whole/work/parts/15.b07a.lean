theorem b139_0 {n : Nat} {h : q_Hp} {Q : Option Value → q_Hp → Prop} {x0 : Nat} (k0 : q_ok h x0 7) (wt : ¬ (qI h x0 4) = 4 → q_wp n 139 12 [some (.ref x0)] [] h Q) (wf : (qI h x0 4) = 4 → q_wp n 139 8 [some (.ref x0)] [] h Q) : q_wp n 139 0 [some (.ref x0)] [] h Q := by
  refine wp_loc rfl rfl ?_
  refine wp_getI rfl rfl rfl k0 ?_
  refine wp_iconst (v := 4) rfl (by decide) ?_
  exact wp_icne (tgt := 12) rfl (by decide) wt wf
theorem b139_8 {n : Nat} {h : q_Hp} {Q : Option Value → q_Hp → Prop} {x0 : Nat} (q : Q (some (.int 1)) h) : q_wp n 139 8 [some (.ref x0)] [] h Q := by
  refine wp_iconst (v := 1) rfl (by decide) ?_
  refine wp_goto (tgt := 13) rfl (by decide) ?_
  exact wp_ret (r := some (.int 1)) rfl rfl q
theorem b139_12 {n : Nat} {h : q_Hp} {Q : Option Value → q_Hp → Prop} {x0 : Nat} (q : Q (some (.int 0)) h) : q_wp n 139 12 [some (.ref x0)] [] h Q := by
  refine wp_iconst (v := 0) rfl (by decide) ?_
  exact wp_ret (r := some (.int 0)) rfl rfl q
theorem b140_0 {n : Nat} {h : q_Hp} {Q : Option Value → q_Hp → Prop} {x0 : Nat} (k0 : q_ok h x0 7) (q : Q (some (.int (qI h x0 4))) h) : q_wp n 140 0 [some (.ref x0)] [] h Q := by
  refine wp_loc rfl rfl ?_
  refine wp_getI rfl rfl rfl k0 ?_
  exact wp_ret rfl rfl q
theorem b141_0 {n : Nat} {h : q_Hp} {Q : Option Value → q_Hp → Prop} {x0 : Nat} (k0 : q_ok h x0 7) (q : Q (some (.int (qI h x0 5))) h) : q_wp n 141 0 [some (.ref x0)] [] h Q := by
  refine wp_loc rfl rfl ?_
  refine wp_getI rfl rfl rfl k0 ?_
  exact wp_ret rfl rfl q
theorem b142_0 {n : Nat} {h : q_Hp} {Q : Option Value → q_Hp → Prop} {x0 : Nat} {m : Nat} {P : Int32 → q_Hp → Prop} (hc : q_mI m 139 [.ref x0] h P) (hm : m ≤ n) (w : ∀ (z : Int32) (h1 : q_Hp), P z h1 → q_wp (n + 1) 142 4 [some (.ref x0)] [.int z] h1 Q) : q_wp (n + 1) 142 0 [some (.ref x0)] [] h Q := by
  refine wp_loc rfl rfl ?_
  exact wp_callI (av := [.ref x0]) rfl rfl rfl (by decide) rfl rfl rfl hm hc w
theorem b142_4 {n : Nat} {h : q_Hp} {Q : Option Value → q_Hp → Prop} {x0 : Nat} {s0 : Int32} (wt : s0 = 0 → q_wp n 142 14 [some (.ref x0)] [] h Q) (wf : ¬ s0 = 0 → q_wp n 142 7 [some (.ref x0)] [] h Q) : q_wp n 142 4 [some (.ref x0)] [.int s0] h Q := by
  exact wp_ifeq (tgt := 14) rfl (by decide) wt wf
theorem b142_7 {n : Nat} {h : q_Hp} {Q : Option Value → q_Hp → Prop} {x0 : Nat} (k0 : q_ok h x0 7) (q : Q (some (.int (qI h x0 7))) h) : q_wp n 142 7 [some (.ref x0)] [] h Q := by
  refine wp_loc rfl rfl ?_
  refine wp_getI rfl rfl rfl k0 ?_
  refine wp_goto (tgt := 15) rfl (by decide) ?_
  exact wp_ret rfl rfl q
theorem b142_14 {n : Nat} {h : q_Hp} {Q : Option Value → q_Hp → Prop} {x0 : Nat} (q : Q (some (.int 0)) h) : q_wp n 142 14 [some (.ref x0)] [] h Q := by
  refine wp_iconst (v := 0) rfl (by decide) ?_
  exact wp_ret rfl rfl q
theorem b143_0 {n : Nat} {h : q_Hp} {Q : Option Value → q_Hp → Prop} {x0 : Nat} (k0 : q_ok h x0 7) (q : Q none (q_sI (q_sI (q_sI h x0 4 0) x0 5 0) x0 7 0)) : q_wp n 143 0 [some (.ref x0)] [] h Q := by
  refine wp_loc rfl rfl ?_
  refine wp_iconst (v := 0) rfl (by decide) ?_
  refine wp_putI rfl rfl (Or.inl rfl) rfl (fun h9 => by cases h9) k0 ?_
  refine wp_loc rfl rfl ?_
  refine wp_iconst (v := 0) rfl (by decide) ?_
  refine wp_putI rfl rfl (Or.inl rfl) rfl (fun h9 => by cases h9) k0 ?_
  refine wp_loc rfl rfl ?_
  refine wp_iconst (v := 0) rfl (by decide) ?_
  refine wp_putI rfl rfl (Or.inl rfl) rfl (fun h9 => by cases h9) k0 ?_
  exact wp_ret rfl rfl q
theorem b144_0 {n : Nat} {h : q_Hp} {Q : Option Value → q_Hp → Prop} {x0 : Nat} {x1 : Nat} {x2 : Int32} {m : Nat} {P : Int32 → q_Hp → Prop} (hc : q_mI m 139 [.ref x0] h P) (hm : m ≤ n) (w : ∀ (z : Int32) (h1 : q_Hp), P z h1 → q_wp (n + 1) 144 4 [some (.ref x0), some (.ref x1), some (.int x2)] [.int z] h1 Q) : q_wp (n + 1) 144 0 [some (.ref x0), some (.ref x1), some (.int x2)] [] h Q := by
  refine wp_loc rfl rfl ?_
  exact wp_callI (av := [.ref x0]) rfl rfl rfl (by decide) rfl rfl rfl hm hc w
theorem b144_4 {n : Nat} {h : q_Hp} {Q : Option Value → q_Hp → Prop} {x0 : Nat} {x1 : Nat} {x2 : Int32} {s0 : Int32} (wt : s0 = 0 → q_wp n 144 12 [some (.ref x0), some (.ref x1), some (.int x2)] [] h Q) (wf : ¬ s0 = 0 → q_wp n 144 7 [some (.ref x0), some (.ref x1), some (.int x2)] [] h Q) : q_wp n 144 4 [some (.ref x0), some (.ref x1), some (.int x2)] [.int s0] h Q := by
  exact wp_ifeq (tgt := 12) rfl (by decide) wt wf
theorem b144_7 {n : Nat} {h : q_Hp} {Q : Option Value → q_Hp → Prop} {x0 : Nat} {x1 : Nat} {x2 : Int32} {m : Nat} {P : q_Hp → Prop} (hc : q_mV m 149 [.ref x0, .int 0] h P) (hm : m ≤ n) (w : ∀ h1 : q_Hp, P h1 → q_wp (n + 1) 144 12 [some (.ref x0), some (.ref x1), some (.int x2)] [] h1 Q) : q_wp (n + 1) 144 7 [some (.ref x0), some (.ref x1), some (.int x2)] [] h Q := by
  refine wp_loc rfl rfl ?_
  refine wp_iconst (v := 0) rfl (by decide) ?_
  exact wp_callV (av := [.ref x0, .int 0]) rfl rfl rfl (by decide) rfl rfl rfl hm hc w
theorem b144_12 {n : Nat} {h : q_Hp} {Q : Option Value → q_Hp → Prop} {x0 : Nat} {x1 : Nat} {x2 : Int32} {v0 : Nat} (k0 : q_ok h x0 7) (e0 : qR (q_sR h x0 3 x1) x0 3 = v0) {m : Nat} {P : Int32 → q_Hp → Prop} (hc : q_mI m 10 [.ref v0, .int x2] (q_sI (q_sI (q_sI (q_sI (q_sR h x0 3 x1) x0 4 4) x0 5 0) x0 7 0) x0 8 0) P) (hm : m ≤ n) (w : ∀ (z : Int32) (h1 : q_Hp), P z h1 → q_wp (n + 1) 144 48 [some (.ref x0), some (.ref x1), some (.int x2)] [.int z, .int (-1), .int 0, .ref x0] h1 Q) : q_wp (n + 1) 144 12 [some (.ref x0), some (.ref x1), some (.int x2)] [] h Q := by
  refine wp_loc rfl rfl ?_
  refine wp_loc rfl rfl ?_
  refine wp_putR rfl rfl (Or.inl rfl) rfl rfl k0 ?_
  refine wp_loc rfl rfl ?_
  refine wp_iconst (v := 4) rfl (by decide) ?_
  refine wp_putI rfl rfl (Or.inl rfl) rfl (fun h9 => by cases h9) k0 ?_
  refine wp_loc rfl rfl ?_
  refine wp_iconst (v := 0) rfl (by decide) ?_
  refine wp_putI rfl rfl (Or.inl rfl) rfl (fun h9 => by cases h9) k0 ?_
  refine wp_loc rfl rfl ?_
  refine wp_iconst (v := 0) rfl (by decide) ?_
  refine wp_putI rfl rfl (Or.inl rfl) rfl (fun h9 => by cases h9) k0 ?_
  refine wp_loc rfl rfl ?_
  refine wp_iconst (v := 0) rfl (by decide) ?_
  refine wp_putI rfl rfl (Or.inl rfl) rfl (fun h9 => by cases h9) k0 ?_
  refine wp_loc rfl rfl ?_
  refine wp_iconst (v := 0) rfl (by decide) ?_
  refine wp_iconst (v := (-1)) rfl (by decide) ?_
  refine wp_loc rfl rfl ?_
  refine wp_getR rfl rfl rfl rfl k0 e0 ?_
  refine wp_loc rfl rfl ?_
  exact wp_callI (av := [.ref v0, .int x2]) rfl rfl rfl (by decide) rfl rfl rfl hm hc w
theorem b144_48 {n : Nat} {h : q_Hp} {Q : Option Value → q_Hp → Prop} {x0 : Nat} {x1 : Nat} {x2 : Int32} {s0 : Int32} {s1 : Int32} {s2 : Int32} {s3 : Nat} {m : Nat} {P : q_Hp → Prop} (hc : q_mV m 147 [.ref s3, .int s2, .int s1, .int s0] h P) (hm : m ≤ n) (w : ∀ h1 : q_Hp, P h1 → q_wp (n + 1) 144 51 [some (.ref x0), some (.ref x1), some (.int x2)] [] h1 Q) : q_wp (n + 1) 144 48 [some (.ref x0), some (.ref x1), some (.int x2)] [.int s0, .int s1, .int s2, .ref s3] h Q := by
  exact wp_callV (av := [.ref s3, .int s2, .int s1, .int s0]) rfl rfl rfl (by decide) rfl rfl rfl hm hc w
theorem b144_51 {n : Nat} {h : q_Hp} {Q : Option Value → q_Hp → Prop} {x0 : Nat} {x1 : Nat} {x2 : Int32} (q : Q none h) : q_wp n 144 51 [some (.ref x0), some (.ref x1), some (.int x2)] [] h Q := by
  exact wp_ret rfl rfl q
theorem b145_0 {n : Nat} {h : q_Hp} {Q : Option Value → q_Hp → Prop} {x0 : Nat} (k0 : q_ok h x0 7) (wt : ¬ (qI (q_sI h x0 5 ((qI h x0 5) + 1)) x0 6) = (-1) → q_wp n 145 23 [some (.ref x0), none, none, none, none] [] (q_sI h x0 5 ((qI h x0 5) + 1)) Q) (wf : (qI (q_sI h x0 5 ((qI h x0 5) + 1)) x0 6) = (-1) → q_wp n 145 18 [some (.ref x0), none, none, none, none] [] (q_sI h x0 5 ((qI h x0 5) + 1)) Q) : q_wp n 145 0 [some (.ref x0), none, none, none, none] [] h Q := by
  refine wp_loc rfl rfl ?_
  refine wp_stk rfl rfl rfl ?_
  refine wp_getI rfl rfl rfl k0 ?_
  refine wp_iconst (v := 1) rfl (by decide) ?_
  refine wp_stk rfl rfl rfl ?_
  refine wp_putI rfl rfl (Or.inl rfl) rfl (fun h9 => by cases h9) k0 ?_
  refine wp_loc rfl rfl ?_
  refine wp_getI rfl rfl rfl k0 ?_
  refine wp_iconst (v := (-1)) rfl (by decide) ?_
  exact wp_icne (tgt := 23) rfl (by decide) wt wf
theorem b145_18 {n : Nat} {h : q_Hp} {Q : Option Value → q_Hp → Prop} {x0 : Nat} {m : Nat} {P : q_Hp → Prop} (hc : q_mV m 153 [.ref x0] h P) (hm : m ≤ n) (w : ∀ h1 : q_Hp, P h1 → q_wp (n + 1) 145 22 [some (.ref x0), none, none, none, none] [] h1 Q) : q_wp (n + 1) 145 18 [some (.ref x0), none, none, none, none] [] h Q := by
  refine wp_loc rfl rfl ?_
  exact wp_callV (av := [.ref x0]) rfl rfl rfl (by decide) rfl rfl rfl hm hc w
theorem b145_22 {n : Nat} {h : q_Hp} {Q : Option Value → q_Hp → Prop} {x0 : Nat} (q : Q none h) : q_wp n 145 22 [some (.ref x0), none, none, none, none] [] h Q := by
  exact wp_ret rfl rfl q
theorem b145_23 {n : Nat} {h : q_Hp} {Q : Option Value → q_Hp → Prop} {x0 : Nat} {v0 : Nat} (k0 : q_ok h x0 7) (e0 : qR h x0 3 = v0) {m : Nat} {P : Int32 → q_Hp → Prop} (hc : q_mI m 20 [.ref v0, .int (qI h x0 6), .int 1] h P) (hm : m ≤ n) (w : ∀ (z : Int32) (h1 : q_Hp), P z h1 → q_wp (n + 1) 145 35 [some (.ref x0), none, none, none, none] [.int z] h1 Q) : q_wp (n + 1) 145 23 [some (.ref x0), none, none, none, none] [] h Q := by
  refine wp_loc rfl rfl ?_
  refine wp_getR rfl rfl rfl rfl k0 e0 ?_
  refine wp_loc rfl rfl ?_
  refine wp_getI rfl rfl rfl k0 ?_
  refine wp_iconst (v := 1) rfl (by decide) ?_
  exact wp_callI (av := [.ref v0, .int (qI h x0 6), .int 1]) rfl rfl rfl (by decide) rfl rfl rfl hm hc w
theorem b145_35 {n : Nat} {h : q_Hp} {Q : Option Value → q_Hp → Prop} {x0 : Nat} {s0 : Int32} {v0 : Nat} (k0 : q_ok h x0 7) (e0 : qR h x0 3 = v0) {m : Nat} {P : Int32 → q_Hp → Prop} (hc : q_mI m 20 [.ref v0, .int (qI h x0 6), .int 3] h P) (hm : m ≤ n) (w : ∀ (z : Int32) (h1 : q_Hp), P z h1 → q_wp (n + 1) 145 48 [some (.ref x0), some (.int s0), none, none, none] [.int z] h1 Q) : q_wp (n + 1) 145 35 [some (.ref x0), none, none, none, none] [.int s0] h Q := by
  refine wp_loc rfl rfl ?_
  refine wp_loc rfl rfl ?_
  refine wp_getR rfl rfl rfl rfl k0 e0 ?_
  refine wp_loc rfl rfl ?_
  refine wp_getI rfl rfl rfl k0 ?_
  refine wp_iconst (v := 3) rfl (by decide) ?_
  exact wp_callI (av := [.ref v0, .int (qI h x0 6), .int 3]) rfl rfl rfl (by decide) rfl rfl rfl hm hc w
theorem b145_48 {n : Nat} {h : q_Hp} {Q : Option Value → q_Hp → Prop} {x0 : Nat} {x1 : Int32} {s0 : Int32} {v0 : Nat} (k0 : q_ok h x0 7) (e0 : qR h x0 3 = v0) {m : Nat} {P : Int32 → q_Hp → Prop} (hc : q_mI m 20 [.ref v0, .int (qI h x0 6), .int 0] h P) (hm : m ≤ n) (w : ∀ (z : Int32) (h1 : q_Hp), P z h1 → q_wp (n + 1) 145 61 [some (.ref x0), some (.int x1), some (.int s0), none, none] [.int z] h1 Q) : q_wp (n + 1) 145 48 [some (.ref x0), some (.int x1), none, none, none] [.int s0] h Q := by
  refine wp_loc rfl rfl ?_
  refine wp_loc rfl rfl ?_
  refine wp_getR rfl rfl rfl rfl k0 e0 ?_
  refine wp_loc rfl rfl ?_
  refine wp_getI rfl rfl rfl k0 ?_
  refine wp_iconst (v := 0) rfl (by decide) ?_
  exact wp_callI (av := [.ref v0, .int (qI h x0 6), .int 0]) rfl rfl rfl (by decide) rfl rfl rfl hm hc w
theorem b145_61 {n : Nat} {h : q_Hp} {Q : Option Value → q_Hp → Prop} {x0 : Nat} {x1 : Int32} {x2 : Int32} {s0 : Int32} (w0 : s0 = 15 → q_wp n 145 108 [some (.ref x0), some (.int x1), some (.int x2), none, none] [] h Q) (w1 : s0 = 16 → q_wp n 145 127 [some (.ref x0), some (.int x1), some (.int x2), none, none] [] h Q) (w2 : s0 = 17 → q_wp n 145 158 [some (.ref x0), some (.int x1), some (.int x2), none, none] [] h Q) (w3 : s0 = 18 → q_wp n 145 225 [some (.ref x0), some (.int x1), some (.int x2), none, none] [] h Q) (w4 : s0 = 19 → q_wp n 145 272 [some (.ref x0), some (.int x1), some (.int x2), none, none] [] h Q) (w5 : s0 = 20 → q_wp n 145 233 [some (.ref x0), some (.int x1), some (.int x2), none, none] [] h Q) (w6 : s0 = 21 → q_wp n 145 246 [some (.ref x0), some (.int x1), some (.int x2), none, none] [] h Q) (w7 : s0 = 22 → q_wp n 145 259 [some (.ref x0), some (.int x1), some (.int x2), none, none] [] h Q) (wd : (s0.toInt < 15 ∨ 22 < s0.toInt) → q_wp n 145 272 [some (.ref x0), some (.int x1), some (.int x2), none, none] [] h Q) : q_wp n 145 61 [some (.ref x0), some (.int x1), some (.int x2), none, none] [.int s0] h Q := by
  refine wp_tab (dt := 272) (tg := fun j => [108, 127, 158, 225, 272, 233, 246, 259].getD j 0) rfl (by decide) (by decide) (by decide) (fun j hj hx => ?_) wd
  have hj : j < 8 := hj
  match j, hj, hx with
  | 0, _, hx => exact w0 (Int32.toInt_inj.mp hx)
  | 1, _, hx => exact w1 (Int32.toInt_inj.mp hx)
  | 2, _, hx => exact w2 (Int32.toInt_inj.mp hx)
  | 3, _, hx => exact w3 (Int32.toInt_inj.mp hx)
  | 4, _, hx => exact w4 (Int32.toInt_inj.mp hx)
  | 5, _, hx => exact w5 (Int32.toInt_inj.mp hx)
  | 6, _, hx => exact w6 (Int32.toInt_inj.mp hx)
  | 7, _, hx => exact w7 (Int32.toInt_inj.mp hx)
theorem b145_108 {n : Nat} {h : q_Hp} {Q : Option Value → q_Hp → Prop} {x0 : Nat} {x1 : Int32} {x2 : Int32} {v0 : Nat} {v1 : Nat} (k0 : q_ok h x0 7) (e0 : qR h x0 1 = v0) (e1 : qR h x0 3 = v1) {m : Nat} {P : Int32 → q_Hp → Prop} (hc : q_mI m 118 [.ref v0, .ref v1, .int x1] h P) (hm : m ≤ n) (w : ∀ (z : Int32) (h1 : q_Hp), P z h1 → q_wp (n + 1) 145 121 [some (.ref x0), some (.int x1), some (.int x2), none, none] [.int z, .ref x0] h1 Q) : q_wp (n + 1) 145 108 [some (.ref x0), some (.int x1), some (.int x2), none, none] [] h Q := by
  refine wp_loc rfl rfl ?_
  refine wp_loc rfl rfl ?_
  refine wp_getR rfl rfl rfl rfl k0 e0 ?_
  refine wp_loc rfl rfl ?_
  refine wp_getR rfl rfl rfl rfl k0 e1 ?_
  refine wp_loc rfl rfl ?_
  exact wp_callI (av := [.ref v0, .ref v1, .int x1]) rfl rfl rfl (by decide) rfl rfl rfl hm hc w
theorem b145_121 {n : Nat} {h : q_Hp} {Q : Option Value → q_Hp → Prop} {x0 : Nat} {x1 : Int32} {x2 : Int32} {s0 : Int32} {s1 : Nat} {m : Nat} {P : q_Hp → Prop} (hc : q_mV m 154 [.ref s1, .int s0] h P) (hm : m ≤ n) (w : ∀ h1 : q_Hp, P h1 → q_wp (n + 1) 145 124 [some (.ref x0), some (.int x1), some (.int x2), none, none] [] h1 Q) : q_wp (n + 1) 145 121 [some (.ref x0), some (.int x1), some (.int x2), none, none] [.int s0, .ref s1] h Q := by
  exact wp_callV (av := [.ref s1, .int s0]) rfl rfl rfl (by decide) rfl rfl rfl hm hc w
theorem b145_124 {n : Nat} {h : q_Hp} {Q : Option Value → q_Hp → Prop} {x0 : Nat} {x1 : Int32} {x2 : Int32} (w : q_wp n 145 276 [some (.ref x0), some (.int x1), some (.int x2), none, none] [] h Q) : q_wp n 145 124 [some (.ref x0), some (.int x1), some (.int x2), none, none] [] h Q := by
  refine wp_goto (tgt := 276) rfl (by decide) ?_
  exact w
theorem b145_127 {n : Nat} {h : q_Hp} {Q : Option Value → q_Hp → Prop} {x0 : Nat} {x1 : Int32} {x2 : Int32} {v0 : Nat} {v1 : Nat} (k0 : q_ok h x0 7) (e0 : qR h x0 1 = v0) (e1 : qR h x0 3 = v1) {m : Nat} {P : q_Hp → Prop} (hc : q_mV m 119 [.ref v0, .ref v1, .int x1] h P) (hm : m ≤ n) (w : ∀ h1 : q_Hp, P h1 → q_wp (n + 1) 145 139 [some (.ref x0), some (.int x1), some (.int x2), none, none] [] h1 Q) : q_wp (n + 1) 145 127 [some (.ref x0), some (.int x1), some (.int x2), none, none] [] h Q := by
  refine wp_loc rfl rfl ?_
  refine wp_getR rfl rfl rfl rfl k0 e0 ?_
  refine wp_loc rfl rfl ?_
  refine wp_getR rfl rfl rfl rfl k0 e1 ?_
  refine wp_loc rfl rfl ?_
  exact wp_callV (av := [.ref v0, .ref v1, .int x1]) rfl rfl rfl (by decide) rfl rfl rfl hm hc w
theorem b145_139 {n : Nat} {h : q_Hp} {Q : Option Value → q_Hp → Prop} {x0 : Nat} {x1 : Int32} {x2 : Int32} {v0 : Nat} {v1 : Nat} (k0 : q_ok h x0 7) (e0 : qR h x0 1 = v0) (e1 : qR h x0 3 = v1) {m : Nat} {P : Int32 → q_Hp → Prop} (hc : q_mI m 120 [.ref v0, .ref v1, .int x1] h P) (hm : m ≤ n) (w : ∀ (z : Int32) (h1 : q_Hp), P z h1 → q_wp (n + 1) 145 152 [some (.ref x0), some (.int x1), some (.int x2), none, none] [.int z, .ref x0] h1 Q) : q_wp (n + 1) 145 139 [some (.ref x0), some (.int x1), some (.int x2), none, none] [] h Q := by
  refine wp_loc rfl rfl ?_
  refine wp_loc rfl rfl ?_
  refine wp_getR rfl rfl rfl rfl k0 e0 ?_
  refine wp_loc rfl rfl ?_
  refine wp_getR rfl rfl rfl rfl k0 e1 ?_
  refine wp_loc rfl rfl ?_
  exact wp_callI (av := [.ref v0, .ref v1, .int x1]) rfl rfl rfl (by decide) rfl rfl rfl hm hc w
theorem b145_152 {n : Nat} {h : q_Hp} {Q : Option Value → q_Hp → Prop} {x0 : Nat} {x1 : Int32} {x2 : Int32} {s0 : Int32} {s1 : Nat} {m : Nat} {P : q_Hp → Prop} (hc : q_mV m 154 [.ref s1, .int s0] h P) (hm : m ≤ n) (w : ∀ h1 : q_Hp, P h1 → q_wp (n + 1) 145 155 [some (.ref x0), some (.int x1), some (.int x2), none, none] [] h1 Q) : q_wp (n + 1) 145 152 [some (.ref x0), some (.int x1), some (.int x2), none, none] [.int s0, .ref s1] h Q := by
  exact wp_callV (av := [.ref s1, .int s0]) rfl rfl rfl (by decide) rfl rfl rfl hm hc w
theorem b145_155 {n : Nat} {h : q_Hp} {Q : Option Value → q_Hp → Prop} {x0 : Nat} {x1 : Int32} {x2 : Int32} (w : q_wp n 145 276 [some (.ref x0), some (.int x1), some (.int x2), none, none] [] h Q) : q_wp n 145 155 [some (.ref x0), some (.int x1), some (.int x2), none, none] [] h Q := by
  refine wp_goto (tgt := 276) rfl (by decide) ?_
  exact w
theorem b145_158 {n : Nat} {h : q_Hp} {Q : Option Value → q_Hp → Prop} {x0 : Nat} {x1 : Int32} {x2 : Int32} (w : q_wp n 145 163 [some (.ref x0), some (.int x1), some (.int x2), some (.int 0), some (.int 0)] [] h Q) : q_wp n 145 158 [some (.ref x0), some (.int x1), some (.int x2), none, none] [] h Q := by
  refine wp_iconst (v := 0) rfl (by decide) ?_
  refine wp_loc rfl rfl ?_
  refine wp_iconst (v := 0) rfl (by decide) ?_
  refine wp_loc rfl rfl ?_
  exact w
theorem b145_163 {n : Nat} {h : q_Hp} {Q : Option Value → q_Hp → Prop} {x0 : Nat} {x1 : Int32} {x2 : Int32} {x3 : Int32} {x4 : Int32} (wt : 1200 < x4 → q_wp n 145 217 [some (.ref x0), some (.int x1), some (.int x2), some (.int x3), some (.int x4)] [] h Q) (wf : ¬ 1200 < x4 → q_wp n 145 171 [some (.ref x0), some (.int x1), some (.int x2), some (.int x3), some (.int x4)] [] h Q) : q_wp n 145 163 [some (.ref x0), some (.int x1), some (.int x2), some (.int x3), some (.int x4)] [] h Q := by
  refine wp_loc rfl rfl ?_
  refine wp_sipush (v := 1200) rfl (by decide) ?_
  exact wp_icgt (tgt := 217) rfl (by decide) wt wf
theorem b145_171 {n : Nat} {h : q_Hp} {Q : Option Value → q_Hp → Prop} {x0 : Nat} {x1 : Int32} {x2 : Int32} {x3 : Int32} {x4 : Int32} (wt : x2 = (-1) → q_wp n 145 217 [some (.ref x0), some (.int x1), some (.int x2), some (.int x3), some (.int x4)] [] h Q) (wf : ¬ x2 = (-1) → q_wp n 145 176 [some (.ref x0), some (.int x1), some (.int x2), some (.int x3), some (.int x4)] [] h Q) : q_wp n 145 171 [some (.ref x0), some (.int x1), some (.int x2), some (.int x3), some (.int x4)] [] h Q := by
  refine wp_loc rfl rfl ?_
  refine wp_iconst (v := (-1)) rfl (by decide) ?_
  exact wp_iceq (tgt := 217) rfl (by decide) wt wf
theorem b145_176 {n : Nat} {h : q_Hp} {Q : Option Value → q_Hp → Prop} {x0 : Nat} {x1 : Int32} {x2 : Int32} {x3 : Int32} {x4 : Int32} (wt : ¬ x3 = 0 → q_wp n 145 217 [some (.ref x0), some (.int x1), some (.int x2), some (.int x3), some (.int x4)] [] h Q) (wf : x3 = 0 → q_wp n 145 180 [some (.ref x0), some (.int x1), some (.int x2), some (.int x3), some (.int x4)] [] h Q) : q_wp n 145 176 [some (.ref x0), some (.int x1), some (.int x2), some (.int x3), some (.int x4)] [] h Q := by
  refine wp_loc rfl rfl ?_
  exact wp_ifne (tgt := 217) rfl (by decide) wt wf
theorem b145_180 {n : Nat} {h : q_Hp} {Q : Option Value → q_Hp → Prop} {x0 : Nat} {x1 : Int32} {x2 : Int32} {x3 : Int32} {x4 : Int32} {v0 : Nat} {v1 : Nat} (k0 : q_ok h x0 7) (e0 : qR h x0 1 = v0) (e1 : qR h x0 3 = v1) {m : Nat} {P : Int32 → q_Hp → Prop} (hc : q_mI m 20 [.ref v1, .int x2, .int 1] h P) (hm : m ≤ n) (w : ∀ (z : Int32) (h1 : q_Hp), P z h1 → q_wp (n + 1) 145 197 [some (.ref x0), some (.int x1), some (.int x2), some (.int x3), some (.int x4)] [.int z, .ref v1, .ref v0] h1 Q) : q_wp (n + 1) 145 180 [some (.ref x0), some (.int x1), some (.int x2), some (.int x3), some (.int x4)] [] h Q := by
  refine wp_loc rfl rfl ?_
  refine wp_getR rfl rfl rfl rfl k0 e0 ?_
  refine wp_loc rfl rfl ?_
  refine wp_getR rfl rfl rfl rfl k0 e1 ?_
  refine wp_loc rfl rfl ?_
  refine wp_getR rfl rfl rfl rfl k0 e1 ?_
  refine wp_loc rfl rfl ?_
  refine wp_iconst (v := 1) rfl (by decide) ?_
  exact wp_callI (av := [.ref v1, .int x2, .int 1]) rfl rfl rfl (by decide) rfl rfl rfl hm hc w
theorem b145_197 {n : Nat} {h : q_Hp} {Q : Option Value → q_Hp → Prop} {x0 : Nat} {x1 : Int32} {x2 : Int32} {x3 : Int32} {x4 : Int32} {s0 : Int32} {s1 : Nat} {s2 : Nat} {m : Nat} {P : Int32 → q_Hp → Prop} (hc : q_mI m 118 [.ref s2, .ref s1, .int s0] h P) (hm : m ≤ n) (w : ∀ (z : Int32) (h1 : q_Hp), P z h1 → q_wp (n + 1) 145 200 [some (.ref x0), some (.int x1), some (.int x2), some (.int x3), some (.int x4)] [.int z] h1 Q) : q_wp (n + 1) 145 197 [some (.ref x0), some (.int x1), some (.int x2), some (.int x3), some (.int x4)] [.int s0, .ref s1, .ref s2] h Q := by
  exact wp_callI (av := [.ref s2, .ref s1, .int s0]) rfl rfl rfl (by decide) rfl rfl rfl hm hc w
theorem b145_200 {n : Nat} {h : q_Hp} {Q : Option Value → q_Hp → Prop} {x0 : Nat} {x1 : Int32} {x2 : Int32} {x3 : Int32} {x4 : Int32} {s0 : Int32} {v0 : Nat} (k0 : q_ok h x0 7) (e0 : qR h x0 3 = v0) {m : Nat} {P : Int32 → q_Hp → Prop} (hc : q_mI m 20 [.ref v0, .int x2, .int 2] h P) (hm : m ≤ n) (w : ∀ (z : Int32) (h1 : q_Hp), P z h1 → q_wp (n + 1) 145 210 [some (.ref x0), some (.int x1), some (.int x2), some (.int s0), some (.int x4)] [.int z] h1 Q) : q_wp (n + 1) 145 200 [some (.ref x0), some (.int x1), some (.int x2), some (.int x3), some (.int x4)] [.int s0] h Q := by
  refine wp_loc rfl rfl ?_
  refine wp_loc rfl rfl ?_
  refine wp_getR rfl rfl rfl rfl k0 e0 ?_
  refine wp_loc rfl rfl ?_
  refine wp_iconst (v := 2) rfl (by decide) ?_
  exact wp_callI (av := [.ref v0, .int x2, .int 2]) rfl rfl rfl (by decide) rfl rfl rfl hm hc w
theorem b145_210 {n : Nat} {h : q_Hp} {Q : Option Value → q_Hp → Prop} {x0 : Nat} {x1 : Int32} {x2 : Int32} {x3 : Int32} {x4 : Int32} {s0 : Int32} (w : q_wp n 145 163 [some (.ref x0), some (.int x1), some (.int s0), some (.int x3), some (.int (x4 + 1))] [] h Q) : q_wp n 145 210 [some (.ref x0), some (.int x1), some (.int x2), some (.int x3), some (.int x4)] [.int s0] h Q := by
  refine wp_loc rfl rfl ?_
  refine wp_iinc (v := 1) rfl rfl (by decide) rfl ?_
  refine wp_goto (tgt := 163) rfl (by decide) ?_
  exact w
theorem b145_217 {n : Nat} {h : q_Hp} {Q : Option Value → q_Hp → Prop} {x0 : Nat} {x1 : Int32} {x2 : Int32} {x3 : Int32} {x4 : Int32} {m : Nat} {P : q_Hp → Prop} (hc : q_mV m 154 [.ref x0, .int x3] h P) (hm : m ≤ n) (w : ∀ h1 : q_Hp, P h1 → q_wp (n + 1) 145 222 [some (.ref x0), some (.int x1), some (.int x2), some (.int x3), some (.int x4)] [] h1 Q) : q_wp (n + 1) 145 217 [some (.ref x0), some (.int x1), some (.int x2), some (.int x3), some (.int x4)] [] h Q := by
  refine wp_loc rfl rfl ?_
  refine wp_loc rfl rfl ?_
  exact wp_callV (av := [.ref x0, .int x3]) rfl rfl rfl (by decide) rfl rfl rfl hm hc w
theorem b145_222 {n : Nat} {h : q_Hp} {Q : Option Value → q_Hp → Prop} {x0 : Nat} {x1 : Int32} {x2 : Int32} {x3 : Int32} {x4 : Int32} (w : q_wp n 145 276 [some (.ref x0), some (.int x1), some (.int x2), some (.int x3), some (.int x4)] [] h Q) : q_wp n 145 222 [some (.ref x0), some (.int x1), some (.int x2), some (.int x3), some (.int x4)] [] h Q := by
  refine wp_goto (tgt := 276) rfl (by decide) ?_
  exact w
theorem b145_225 {n : Nat} {h : q_Hp} {Q : Option Value → q_Hp → Prop} {x0 : Nat} {x1 : Int32} {x2 : Int32} {m : Nat} {P : q_Hp → Prop} (hc : q_mV m 155 [.ref x0, .int x1] h P) (hm : m ≤ n) (w : ∀ h1 : q_Hp, P h1 → q_wp (n + 1) 145 230 [some (.ref x0), some (.int x1), some (.int x2), none, none] [] h1 Q) : q_wp (n + 1) 145 225 [some (.ref x0), some (.int x1), some (.int x2), none, none] [] h Q := by
  refine wp_loc rfl rfl ?_
  refine wp_loc rfl rfl ?_
  exact wp_callV (av := [.ref x0, .int x1]) rfl rfl rfl (by decide) rfl rfl rfl hm hc w
theorem b145_230 {n : Nat} {h : q_Hp} {Q : Option Value → q_Hp → Prop} {x0 : Nat} {x1 : Int32} {x2 : Int32} (w : q_wp n 145 276 [some (.ref x0), some (.int x1), some (.int x2), none, none] [] h Q) : q_wp n 145 230 [some (.ref x0), some (.int x1), some (.int x2), none, none] [] h Q := by
  refine wp_goto (tgt := 276) rfl (by decide) ?_
  exact w
theorem b145_233 {n : Nat} {h : q_Hp} {Q : Option Value → q_Hp → Prop} {x0 : Nat} {x1 : Int32} {x2 : Int32} (k0 : q_ok h x0 7) {m : Nat} {P : q_Hp → Prop} (hc : q_mV m 147 [.ref x0, .int 1, .int (qI h x0 6), .int (-1)] h P) (hm : m ≤ n) (w : ∀ h1 : q_Hp, P h1 → q_wp (n + 1) 145 243 [some (.ref x0), some (.int x1), some (.int x2), none, none] [] h1 Q) : q_wp (n + 1) 145 233 [some (.ref x0), some (.int x1), some (.int x2), none, none] [] h Q := by
  refine wp_loc rfl rfl ?_
  refine wp_iconst (v := 1) rfl (by decide) ?_
  refine wp_loc rfl rfl ?_
  refine wp_getI rfl rfl rfl k0 ?_
  refine wp_iconst (v := (-1)) rfl (by decide) ?_
  exact wp_callV (av := [.ref x0, .int 1, .int (qI h x0 6), .int (-1)]) rfl rfl rfl (by decide) rfl rfl rfl hm hc w
theorem b145_243 {n : Nat} {h : q_Hp} {Q : Option Value → q_Hp → Prop} {x0 : Nat} {x1 : Int32} {x2 : Int32} (w : q_wp n 145 276 [some (.ref x0), some (.int x1), some (.int x2), none, none] [] h Q) : q_wp n 145 243 [some (.ref x0), some (.int x1), some (.int x2), none, none] [] h Q := by
  refine wp_goto (tgt := 276) rfl (by decide) ?_
  exact w
theorem b145_246 {n : Nat} {h : q_Hp} {Q : Option Value → q_Hp → Prop} {x0 : Nat} {x1 : Int32} {x2 : Int32} (k0 : q_ok h x0 7) {m : Nat} {P : q_Hp → Prop} (hc : q_mV m 147 [.ref x0, .int 2, .int (qI h x0 6), .int (-1)] h P) (hm : m ≤ n) (w : ∀ h1 : q_Hp, P h1 → q_wp (n + 1) 145 256 [some (.ref x0), some (.int x1), some (.int x2), none, none] [] h1 Q) : q_wp (n + 1) 145 246 [some (.ref x0), some (.int x1), some (.int x2), none, none] [] h Q := by
  refine wp_loc rfl rfl ?_
  refine wp_iconst (v := 2) rfl (by decide) ?_
  refine wp_loc rfl rfl ?_
  refine wp_getI rfl rfl rfl k0 ?_
  refine wp_iconst (v := (-1)) rfl (by decide) ?_
  exact wp_callV (av := [.ref x0, .int 2, .int (qI h x0 6), .int (-1)]) rfl rfl rfl (by decide) rfl rfl rfl hm hc w
theorem b145_256 {n : Nat} {h : q_Hp} {Q : Option Value → q_Hp → Prop} {x0 : Nat} {x1 : Int32} {x2 : Int32} (w : q_wp n 145 276 [some (.ref x0), some (.int x1), some (.int x2), none, none] [] h Q) : q_wp n 145 256 [some (.ref x0), some (.int x1), some (.int x2), none, none] [] h Q := by
  refine wp_goto (tgt := 276) rfl (by decide) ?_
  exact w
theorem b145_259 {n : Nat} {h : q_Hp} {Q : Option Value → q_Hp → Prop} {x0 : Nat} {x1 : Int32} {x2 : Int32} (k0 : q_ok h x0 7) {m : Nat} {P : q_Hp → Prop} (hc : q_mV m 147 [.ref x0, .int 3, .int (qI h x0 6), .int x2] h P) (hm : m ≤ n) (w : ∀ h1 : q_Hp, P h1 → q_wp (n + 1) 145 269 [some (.ref x0), some (.int x1), some (.int x2), none, none] [] h1 Q) : q_wp (n + 1) 145 259 [some (.ref x0), some (.int x1), some (.int x2), none, none] [] h Q := by
  refine wp_loc rfl rfl ?_
  refine wp_iconst (v := 3) rfl (by decide) ?_
  refine wp_loc rfl rfl ?_
  refine wp_getI rfl rfl rfl k0 ?_
  refine wp_loc rfl rfl ?_
  exact wp_callV (av := [.ref x0, .int 3, .int (qI h x0 6), .int x2]) rfl rfl rfl (by decide) rfl rfl rfl hm hc w
theorem b145_269 {n : Nat} {h : q_Hp} {Q : Option Value → q_Hp → Prop} {x0 : Nat} {x1 : Int32} {x2 : Int32} (w : q_wp n 145 276 [some (.ref x0), some (.int x1), some (.int x2), none, none] [] h Q) : q_wp n 145 269 [some (.ref x0), some (.int x1), some (.int x2), none, none] [] h Q := by
  refine wp_goto (tgt := 276) rfl (by decide) ?_
  exact w
theorem b145_272 {n : Nat} {h : q_Hp} {Q : Option Value → q_Hp → Prop} {x0 : Nat} {x1 : Int32} {x2 : Int32} {m : Nat} {P : q_Hp → Prop} (hc : q_mV m 159 [.ref x0] h P) (hm : m ≤ n) (w : ∀ h1 : q_Hp, P h1 → q_wp (n + 1) 145 276 [some (.ref x0), some (.int x1), some (.int x2), none, none] [] h1 Q) : q_wp (n + 1) 145 272 [some (.ref x0), some (.int x1), some (.int x2), none, none] [] h Q := by
  refine wp_loc rfl rfl ?_
  exact wp_callV (av := [.ref x0]) rfl rfl rfl (by decide) rfl rfl rfl hm hc w
theorem b145_276 {n : Nat} {h : q_Hp} {Q : Option Value → q_Hp → Prop} {x0 : Nat} {x1 : Int32} {x2 : Int32} {l3 : Option Value} {l4 : Option Value} (q : Q none h) : q_wp n 145 276 [some (.ref x0), some (.int x1), some (.int x2), l3, l4] [] h Q := by
  exact wp_ret rfl rfl q
theorem b146_0 {n : Nat} {h : q_Hp} {Q : Option Value → q_Hp → Prop} {x0 : Nat} (w : q_wp n 146 2 [some (.ref x0), some (.int 0)] [] h Q) : q_wp n 146 0 [some (.ref x0), none] [] h Q := by
  refine wp_iconst (v := 0) rfl (by decide) ?_
  refine wp_loc rfl rfl ?_
  exact w
theorem b146_2 {n : Nat} {h : q_Hp} {Q : Option Value → q_Hp → Prop} {x0 : Nat} {x1 : Int32} (wt : 360 < x1 → q_wp n 146 41 [some (.ref x0), some (.int x1)] [] h Q) (wf : ¬ 360 < x1 → q_wp n 146 9 [some (.ref x0), some (.int x1)] [] h Q) : q_wp n 146 2 [some (.ref x0), some (.int x1)] [] h Q := by
  refine wp_loc rfl rfl ?_
  refine wp_sipush (v := 360) rfl (by decide) ?_
  exact wp_icgt (tgt := 41) rfl (by decide) wt wf
theorem b146_9 {n : Nat} {h : q_Hp} {Q : Option Value → q_Hp → Prop} {x0 : Nat} {x1 : Int32} {m : Nat} {P : Int32 → q_Hp → Prop} (hc : q_mI m 139 [.ref x0] h P) (hm : m ≤ n) (w : ∀ (z : Int32) (h1 : q_Hp), P z h1 → q_wp (n + 1) 146 13 [some (.ref x0), some (.int x1)] [.int z] h1 Q) : q_wp (n + 1) 146 9 [some (.ref x0), some (.int x1)] [] h Q := by
  refine wp_loc rfl rfl ?_
  exact wp_callI (av := [.ref x0]) rfl rfl rfl (by decide) rfl rfl rfl hm hc w
theorem b146_13 {n : Nat} {h : q_Hp} {Q : Option Value → q_Hp → Prop} {x0 : Nat} {x1 : Int32} {s0 : Int32} (wt : s0 = 0 → q_wp n 146 41 [some (.ref x0), some (.int x1)] [] h Q) (wf : ¬ s0 = 0 → q_wp n 146 16 [some (.ref x0), some (.int x1)] [] h Q) : q_wp n 146 13 [some (.ref x0), some (.int x1)] [.int s0] h Q := by
  exact wp_ifeq (tgt := 41) rfl (by decide) wt wf
theorem b146_16 {n : Nat} {h : q_Hp} {Q : Option Value → q_Hp → Prop} {x0 : Nat} {x1 : Int32} (k0 : q_ok h x0 7) (wt : ¬ (qI h x0 6) = (-1) → q_wp n 146 41 [some (.ref x0), some (.int x1)] [] h Q) (wf : (qI h x0 6) = (-1) → q_wp n 146 24 [some (.ref x0), some (.int x1)] [] h Q) : q_wp n 146 16 [some (.ref x0), some (.int x1)] [] h Q := by
  refine wp_loc rfl rfl ?_
  refine wp_getI rfl rfl rfl k0 ?_
  refine wp_iconst (v := (-1)) rfl (by decide) ?_
  exact wp_icne (tgt := 41) rfl (by decide) wt wf
theorem b146_24 {n : Nat} {h : q_Hp} {Q : Option Value → q_Hp → Prop} {x0 : Nat} {x1 : Int32} {m : Nat} {P : Int32 → q_Hp → Prop} (hc : q_mI m 152 [.ref x0] h P) (hm : m ≤ n) (w : ∀ (z : Int32) (h1 : q_Hp), P z h1 → q_wp (n + 1) 146 28 [some (.ref x0), some (.int x1)] [.int z] h1 Q) : q_wp (n + 1) 146 24 [some (.ref x0), some (.int x1)] [] h Q := by
  refine wp_loc rfl rfl ?_
  exact wp_callI (av := [.ref x0]) rfl rfl rfl (by decide) rfl rfl rfl hm hc w
theorem b146_28 {n : Nat} {h : q_Hp} {Q : Option Value → q_Hp → Prop} {x0 : Nat} {x1 : Int32} {s0 : Int32} (wt : ¬ s0 = 0 → q_wp n 146 41 [some (.ref x0), some (.int x1)] [] h Q) (wf : s0 = 0 → q_wp n 146 31 [some (.ref x0), some (.int x1)] [] h Q) : q_wp n 146 28 [some (.ref x0), some (.int x1)] [.int s0] h Q := by
  exact wp_ifne (tgt := 41) rfl (by decide) wt wf
theorem b146_31 {n : Nat} {h : q_Hp} {Q : Option Value → q_Hp → Prop} {x0 : Nat} {x1 : Int32} {m : Nat} {P : q_Hp → Prop} (hc : q_mV m 158 [.ref x0] h P) (hm : m ≤ n) (w : ∀ h1 : q_Hp, P h1 → q_wp (n + 1) 146 35 [some (.ref x0), some (.int x1)] [] h1 Q) : q_wp (n + 1) 146 31 [some (.ref x0), some (.int x1)] [] h Q := by
  refine wp_loc rfl rfl ?_
  exact wp_callV (av := [.ref x0]) rfl rfl rfl (by decide) rfl rfl rfl hm hc w
theorem b146_35 {n : Nat} {h : q_Hp} {Q : Option Value → q_Hp → Prop} {x0 : Nat} {x1 : Int32} (w : q_wp n 146 2 [some (.ref x0), some (.int (x1 + 1))] [] h Q) : q_wp n 146 35 [some (.ref x0), some (.int x1)] [] h Q := by
  refine wp_iinc (v := 1) rfl rfl (by decide) rfl ?_
  refine wp_goto (tgt := 2) rfl (by decide) ?_
  exact w
theorem b146_41 {n : Nat} {h : q_Hp} {Q : Option Value → q_Hp → Prop} {x0 : Nat} {x1 : Int32} (q : Q none h) : q_wp n 146 41 [some (.ref x0), some (.int x1)] [] h Q := by
  exact wp_ret rfl rfl q
theorem b147_0 {n : Nat} {h : q_Hp} {Q : Option Value → q_Hp → Prop} {x0 : Nat} {x1 : Int32} {x2 : Int32} {x3 : Int32} (k0 : q_ok h x0 7) (wt : (qI h x0 7) < 0 → q_wp n 147 17 [some (.ref x0), some (.int x1), some (.int x2), some (.int x3)] [] h Q) (wf : ¬ (qI h x0 7) < 0 → q_wp n 147 7 [some (.ref x0), some (.int x1), some (.int x2), some (.int x3)] [] h Q) : q_wp n 147 0 [some (.ref x0), some (.int x1), some (.int x2), some (.int x3)] [] h Q := by
  refine wp_loc rfl rfl ?_
  refine wp_getI rfl rfl rfl k0 ?_
  exact wp_iflt (tgt := 17) rfl (by decide) wt wf
theorem b147_7 {n : Nat} {h : q_Hp} {Q : Option Value → q_Hp → Prop} {x0 : Nat} {x1 : Int32} {x2 : Int32} {x3 : Int32} (k0 : q_ok h x0 7) (wt : (qI h x0 7) < 180 → q_wp n 147 23 [some (.ref x0), some (.int x1), some (.int x2), some (.int x3)] [] h Q) (wf : ¬ (qI h x0 7) < 180 → q_wp n 147 17 [some (.ref x0), some (.int x1), some (.int x2), some (.int x3)] [] h Q) : q_wp n 147 7 [some (.ref x0), some (.int x1), some (.int x2), some (.int x3)] [] h Q := by
  refine wp_loc rfl rfl ?_
  refine wp_getI rfl rfl rfl k0 ?_
  refine wp_sipush (v := 180) rfl (by decide) ?_
  exact wp_iclt (tgt := 23) rfl (by decide) wt wf
theorem b147_17 {n : Nat} {h : q_Hp} {Q : Option Value → q_Hp → Prop} {x0 : Nat} {x1 : Int32} {x2 : Int32} {x3 : Int32} (k0 : q_ok h x0 7) (q : Q none (q_sI h x0 4 3)) : q_wp n 147 17 [some (.ref x0), some (.int x1), some (.int x2), some (.int x3)] [] h Q := by
  refine wp_loc rfl rfl ?_
  refine wp_iconst (v := 3) rfl (by decide) ?_
  refine wp_putI rfl rfl (Or.inl rfl) rfl (fun h9 => by cases h9) k0 ?_
  exact wp_ret rfl rfl q
theorem b147_23 {n : Nat} {h : q_Hp} {Q : Option Value → q_Hp → Prop} {x0 : Nat} {x1 : Int32} {x2 : Int32} {x3 : Int32} {v0 : Nat} {v1 : Nat} {v2 : Nat} (k0 : q_ok h x0 7) (e0 : qR h x0 9 = v0) (k1 : q_ok h v0 20) (i0 : q_in (qI h x0 7) (qK h v0).2) (e1 : qR h x0 10 = v1) (k2 : q_ok h v1 20) (i1 : q_in (qI h x0 7) (qK h v1).2) (e2 : qR h x0 11 = v2) (k3 : q_ok h v2 20) (i2 : q_in (qI h x0 7) (qK h v2).2) (wt : ¬ x1 = 0 → q_wp n 147 77 [some (.ref x0), some (.int x1), some (.int x2), some (.int x3)] [] (q_sI (q_sA (q_sA (q_sA h v0 ((qI h x0 7 : Int32).toNatClampNeg) x1) v1 ((qI h x0 7 : Int32).toNatClampNeg) x2) v2 ((qI h x0 7 : Int32).toNatClampNeg) 0) x0 7 ((qI h x0 7) + 1)) Q) (wf : x1 = 0 → q_wp n 147 67 [some (.ref x0), some (.int x1), some (.int x2), some (.int x3)] [] (q_sI (q_sA (q_sA (q_sA h v0 ((qI h x0 7 : Int32).toNatClampNeg) x1) v1 ((qI h x0 7 : Int32).toNatClampNeg) x2) v2 ((qI h x0 7 : Int32).toNatClampNeg) 0) x0 7 ((qI h x0 7) + 1)) Q) : q_wp n 147 23 [some (.ref x0), some (.int x1), some (.int x2), some (.int x3)] [] h Q := by
  refine wp_loc rfl rfl ?_
  refine wp_getR rfl rfl rfl rfl k0 e0 ?_
  refine wp_loc rfl rfl ?_
  refine wp_getI rfl rfl rfl k0 ?_
  refine wp_loc rfl rfl ?_
  refine wp_iast rfl k1 i0 ?_
  refine wp_loc rfl rfl ?_
  refine wp_getR rfl rfl rfl rfl k0 e1 ?_
  refine wp_loc rfl rfl ?_
  refine wp_getI rfl rfl rfl k0 ?_
  refine wp_loc rfl rfl ?_
  refine wp_iast rfl k2 i1 ?_
  refine wp_loc rfl rfl ?_
  refine wp_getR rfl rfl rfl rfl k0 e2 ?_
  refine wp_loc rfl rfl ?_
  refine wp_getI rfl rfl rfl k0 ?_
  refine wp_iconst (v := 0) rfl (by decide) ?_
  refine wp_iast rfl k3 i2 ?_
  refine wp_loc rfl rfl ?_
  refine wp_stk rfl rfl rfl ?_
  refine wp_getI rfl rfl rfl k0 ?_
  refine wp_iconst (v := 1) rfl (by decide) ?_
  refine wp_stk rfl rfl rfl ?_
  refine wp_putI rfl rfl (Or.inl rfl) rfl (fun h9 => by cases h9) k0 ?_
  refine wp_loc rfl rfl ?_
  exact wp_ifne (tgt := 77) rfl (by decide) wt wf
theorem b147_67 {n : Nat} {h : q_Hp} {Q : Option Value → q_Hp → Prop} {x0 : Nat} {x1 : Int32} {x2 : Int32} {x3 : Int32} (k0 : q_ok h x0 7) (w : q_wp n 147 77 [some (.ref x0), some (.int x1), some (.int x2), some (.int x3)] [] (q_sI h x0 8 ((qI h x0 8) + 1)) Q) : q_wp n 147 67 [some (.ref x0), some (.int x1), some (.int x2), some (.int x3)] [] h Q := by
  refine wp_loc rfl rfl ?_
  refine wp_stk rfl rfl rfl ?_
  refine wp_getI rfl rfl rfl k0 ?_
  refine wp_iconst (v := 1) rfl (by decide) ?_
  refine wp_stk rfl rfl rfl ?_
  refine wp_putI rfl rfl (Or.inl rfl) rfl (fun h9 => by cases h9) k0 ?_
  exact w
theorem b147_77 {n : Nat} {h : q_Hp} {Q : Option Value → q_Hp → Prop} {x0 : Nat} {x1 : Int32} {x2 : Int32} {x3 : Int32} (k0 : q_ok h x0 7) (wt : (qI h x0 7) = 1 → q_wp n 147 90 [some (.ref x0), some (.int x1), some (.int x2), some (.int x3)] [] h Q) (wf : ¬ (qI h x0 7) = 1 → q_wp n 147 85 [some (.ref x0), some (.int x1), some (.int x2), some (.int x3)] [] h Q) : q_wp n 147 77 [some (.ref x0), some (.int x1), some (.int x2), some (.int x3)] [] h Q := by
  refine wp_loc rfl rfl ?_
  refine wp_getI rfl rfl rfl k0 ?_
  refine wp_iconst (v := 1) rfl (by decide) ?_
  exact wp_iceq (tgt := 90) rfl (by decide) wt wf
theorem b147_85 {n : Nat} {h : q_Hp} {Q : Option Value → q_Hp → Prop} {x0 : Nat} {x1 : Int32} {x2 : Int32} {x3 : Int32} (wt : ¬ x1 = 3 → q_wp n 147 94 [some (.ref x0), some (.int x1), some (.int x2), some (.int x3)] [] h Q) (wf : x1 = 3 → q_wp n 147 90 [some (.ref x0), some (.int x1), some (.int x2), some (.int x3)] [] h Q) : q_wp n 147 85 [some (.ref x0), some (.int x1), some (.int x2), some (.int x3)] [] h Q := by
  refine wp_loc rfl rfl ?_
  refine wp_iconst (v := 3) rfl (by decide) ?_
  exact wp_icne (tgt := 94) rfl (by decide) wt wf
theorem b147_90 {n : Nat} {h : q_Hp} {Q : Option Value → q_Hp → Prop} {x0 : Nat} {x1 : Int32} {x2 : Int32} {x3 : Int32} {m : Nat} {P : q_Hp → Prop} (hc : q_mV m 148 [.ref x0] h P) (hm : m ≤ n) (w : ∀ h1 : q_Hp, P h1 → q_wp (n + 1) 147 94 [some (.ref x0), some (.int x1), some (.int x2), some (.int x3)] [] h1 Q) : q_wp (n + 1) 147 90 [some (.ref x0), some (.int x1), some (.int x2), some (.int x3)] [] h Q := by
  refine wp_loc rfl rfl ?_
  exact wp_callV (av := [.ref x0]) rfl rfl rfl (by decide) rfl rfl rfl hm hc w
theorem b147_94 {n : Nat} {h : q_Hp} {Q : Option Value → q_Hp → Prop} {x0 : Nat} {x1 : Int32} {x2 : Int32} {x3 : Int32} (k0 : q_ok h x0 7) (q : Q none (q_sI h x0 6 x3)) : q_wp n 147 94 [some (.ref x0), some (.int x1), some (.int x2), some (.int x3)] [] h Q := by
  refine wp_loc rfl rfl ?_
  refine wp_loc rfl rfl ?_
  refine wp_putI rfl rfl (Or.inl rfl) rfl (fun h9 => by cases h9) k0 ?_
  exact wp_ret rfl rfl q
theorem b148_0 {n : Nat} {h : q_Hp} {Q : Option Value → q_Hp → Prop} {x0 : Nat} {v0 : Nat} {v1 : Nat} (k0 : q_ok h x0 7) (e0 : qR h x0 12 = v0) (e1 : qR h x0 2 = v1) {m : Nat} {P : Int32 → q_Hp → Prop} (hc : q_mI m 83 [.ref v1] h P) (hm : m ≤ n) (w : ∀ (z : Int32) (h1 : q_Hp), P z h1 → q_wp (n + 1) 148 17 [some (.ref x0)] [.int z, .int ((qI h x0 7) - 1), .ref v0] h1 Q) : q_wp (n + 1) 148 0 [some (.ref x0)] [] h Q := by
  refine wp_loc rfl rfl ?_
  refine wp_getR rfl rfl rfl rfl k0 e0 ?_
  refine wp_loc rfl rfl ?_
  refine wp_getI rfl rfl rfl k0 ?_
  refine wp_iconst (v := 1) rfl (by decide) ?_
  refine wp_stk rfl rfl rfl ?_
  refine wp_loc rfl rfl ?_
  refine wp_getR rfl rfl rfl rfl k0 e1 ?_
  exact wp_callI (av := [.ref v1]) rfl rfl rfl (by decide) rfl rfl rfl hm hc w
theorem b148_17 {n : Nat} {h : q_Hp} {Q : Option Value → q_Hp → Prop} {x0 : Nat} {s0 : Int32} {s1 : Int32} {s2 : Nat} {m : Nat} {P : q_Hp → Prop} (hc : q_mV m 233 [.ref s2, .int s1, .int s0] h P) (hm : m ≤ n) (w : ∀ h1 : q_Hp, P h1 → q_wp (n + 1) 148 20 [some (.ref x0)] [] h1 Q) : q_wp (n + 1) 148 17 [some (.ref x0)] [.int s0, .int s1, .ref s2] h Q := by
  exact wp_callV (av := [.ref s2, .int s1, .int s0]) rfl rfl rfl (by decide) rfl rfl rfl hm hc w
theorem b148_20 {n : Nat} {h : q_Hp} {Q : Option Value → q_Hp → Prop} {x0 : Nat} {v0 : Nat} {v1 : Nat} (k0 : q_ok h x0 7) (e0 : qR h x0 0 = v0) (e1 : qR h x0 13 = v1) {m : Nat} {P : q_Hp → Prop} (hc : q_mV m 62 [.ref v0, .ref v1, .int ((qI h x0 7) - 1)] h P) (hm : m ≤ n) (w : ∀ h1 : q_Hp, P h1 → q_wp (n + 1) 148 37 [some (.ref x0)] [] h1 Q) : q_wp (n + 1) 148 20 [some (.ref x0)] [] h Q := by
  refine wp_loc rfl rfl ?_
  refine wp_getR rfl rfl rfl rfl k0 e0 ?_
  refine wp_loc rfl rfl ?_
  refine wp_getR rfl rfl rfl rfl k0 e1 ?_
  refine wp_loc rfl rfl ?_
  refine wp_getI rfl rfl rfl k0 ?_
  refine wp_iconst (v := 1) rfl (by decide) ?_
  refine wp_stk rfl rfl rfl ?_
  exact wp_callV (av := [.ref v0, .ref v1, .int ((qI h x0 7) - 1)]) rfl rfl rfl (by decide) rfl rfl rfl hm hc w
theorem b148_37 {n : Nat} {h : q_Hp} {Q : Option Value → q_Hp → Prop} {x0 : Nat} (q : Q none h) : q_wp n 148 37 [some (.ref x0)] [] h Q := by
  exact wp_ret rfl rfl q
theorem b149_0 {n : Nat} {h : q_Hp} {Q : Option Value → q_Hp → Prop} {x0 : Nat} {x1 : Int32} {v0 : Nat} {v1 : Nat} (k0 : q_ok h x0 7) (e0 : qR h x0 2 = v0) (e1 : qR h x0 12 = v1) {m : Nat} {P : Int32 → q_Hp → Prop} (hc : q_mI m 232 [.ref v1, .int x1] h P) (hm : m ≤ n) (w : ∀ (z : Int32) (h1 : q_Hp), P z h1 → q_wp (n + 1) 149 12 [some (.ref x0), some (.int x1)] [.int z, .ref v0] h1 Q) : q_wp (n + 1) 149 0 [some (.ref x0), some (.int x1)] [] h Q := by
  refine wp_loc rfl rfl ?_
  refine wp_getR rfl rfl rfl rfl k0 e0 ?_
  refine wp_loc rfl rfl ?_
  refine wp_getR rfl rfl rfl rfl k0 e1 ?_
  refine wp_loc rfl rfl ?_
  exact wp_callI (av := [.ref v1, .int x1]) rfl rfl rfl (by decide) rfl rfl rfl hm hc w
theorem b149_12 {n : Nat} {h : q_Hp} {Q : Option Value → q_Hp → Prop} {x0 : Nat} {x1 : Int32} {s0 : Int32} {s1 : Nat} {m : Nat} {P : q_Hp → Prop} (hc : q_mV m 88 [.ref s1, .int s0] h P) (hm : m ≤ n) (w : ∀ h1 : q_Hp, P h1 → q_wp (n + 1) 149 15 [some (.ref x0), some (.int x1)] [] h1 Q) : q_wp (n + 1) 149 12 [some (.ref x0), some (.int x1)] [.int s0, .ref s1] h Q := by
  exact wp_callV (av := [.ref s1, .int s0]) rfl rfl rfl (by decide) rfl rfl rfl hm hc w
theorem b149_15 {n : Nat} {h : q_Hp} {Q : Option Value → q_Hp → Prop} {x0 : Nat} {x1 : Int32} {v0 : Nat} {v1 : Nat} (k0 : q_ok h x0 7) (e0 : qR h x0 0 = v0) (e1 : qR h x0 13 = v1) {m : Nat} {P : q_Hp → Prop} (hc : q_mV m 63 [.ref v0, .ref v1, .int x1] h P) (hm : m ≤ n) (w : ∀ h1 : q_Hp, P h1 → q_wp (n + 1) 149 27 [some (.ref x0), some (.int x1)] [] h1 Q) : q_wp (n + 1) 149 15 [some (.ref x0), some (.int x1)] [] h Q := by
  refine wp_loc rfl rfl ?_
  refine wp_getR rfl rfl rfl rfl k0 e0 ?_
  refine wp_loc rfl rfl ?_
  refine wp_getR rfl rfl rfl rfl k0 e1 ?_
  refine wp_loc rfl rfl ?_
  exact wp_callV (av := [.ref v0, .ref v1, .int x1]) rfl rfl rfl (by decide) rfl rfl rfl hm hc w
theorem b149_27 {n : Nat} {h : q_Hp} {Q : Option Value → q_Hp → Prop} {x0 : Nat} {x1 : Int32} (q : Q none h) : q_wp n 149 27 [some (.ref x0), some (.int x1)] [] h Q := by
  exact wp_ret rfl rfl q
theorem b150_0 {n : Nat} {h : q_Hp} {Q : Option Value → q_Hp → Prop} {x0 : Nat} {v0 : Nat} (k0 : q_ok h x0 7) (e0 : qR h x0 9 = v0) {m : Nat} {P : Int32 → q_Hp → Prop} (hc : q_mI m 232 [.ref v0, .int ((qI h x0 7) - 1)] h P) (hm : m ≤ n) (w : ∀ (z : Int32) (h1 : q_Hp), P z h1 → q_wp (n + 1) 150 13 [some (.ref x0)] [.int z] h1 Q) : q_wp (n + 1) 150 0 [some (.ref x0)] [] h Q := by
  refine wp_loc rfl rfl ?_
  refine wp_getR rfl rfl rfl rfl k0 e0 ?_
  refine wp_loc rfl rfl ?_
  refine wp_getI rfl rfl rfl k0 ?_
  refine wp_iconst (v := 1) rfl (by decide) ?_
  refine wp_stk rfl rfl rfl ?_
  exact wp_callI (av := [.ref v0, .int ((qI h x0 7) - 1)]) rfl rfl rfl (by decide) rfl rfl rfl hm hc w
theorem b150_13 {n : Nat} {h : q_Hp} {Q : Option Value → q_Hp → Prop} {x0 : Nat} {s0 : Int32} (q : Q (some (.int s0)) h) : q_wp n 150 13 [some (.ref x0)] [.int s0] h Q := by
  exact wp_ret rfl rfl q
theorem b151_0 {n : Nat} {h : q_Hp} {Q : Option Value → q_Hp → Prop} {x0 : Nat} {v0 : Nat} (k0 : q_ok h x0 7) (e0 : qR h x0 10 = v0) {m : Nat} {P : Int32 → q_Hp → Prop} (hc : q_mI m 232 [.ref v0, .int ((qI h x0 7) - 1)] h P) (hm : m ≤ n) (w : ∀ (z : Int32) (h1 : q_Hp), P z h1 → q_wp (n + 1) 151 13 [some (.ref x0)] [.int z] h1 Q) : q_wp (n + 1) 151 0 [some (.ref x0)] [] h Q := by
  refine wp_loc rfl rfl ?_
  refine wp_getR rfl rfl rfl rfl k0 e0 ?_
  refine wp_loc rfl rfl ?_
  refine wp_getI rfl rfl rfl k0 ?_
  refine wp_iconst (v := 1) rfl (by decide) ?_
  refine wp_stk rfl rfl rfl ?_
  exact wp_callI (av := [.ref v0, .int ((qI h x0 7) - 1)]) rfl rfl rfl (by decide) rfl rfl rfl hm hc w
theorem b151_13 {n : Nat} {h : q_Hp} {Q : Option Value → q_Hp → Prop} {x0 : Nat} {s0 : Int32} (q : Q (some (.int s0)) h) : q_wp n 151 13 [some (.ref x0)] [.int s0] h Q := by
  exact wp_ret rfl rfl q
theorem b152_0 {n : Nat} {h : q_Hp} {Q : Option Value → q_Hp → Prop} {x0 : Nat} {v0 : Nat} (k0 : q_ok h x0 7) (e0 : qR h x0 11 = v0) {m : Nat} {P : Int32 → q_Hp → Prop} (hc : q_mI m 232 [.ref v0, .int ((qI h x0 7) - 1)] h P) (hm : m ≤ n) (w : ∀ (z : Int32) (h1 : q_Hp), P z h1 → q_wp (n + 1) 152 13 [some (.ref x0), none] [.int z] h1 Q) : q_wp (n + 1) 152 0 [some (.ref x0), none] [] h Q := by
  refine wp_loc rfl rfl ?_
  refine wp_getR rfl rfl rfl rfl k0 e0 ?_
  refine wp_loc rfl rfl ?_
  refine wp_getI rfl rfl rfl k0 ?_
  refine wp_iconst (v := 1) rfl (by decide) ?_
  refine wp_stk rfl rfl rfl ?_
  exact wp_callI (av := [.ref v0, .int ((qI h x0 7) - 1)]) rfl rfl rfl (by decide) rfl rfl rfl hm hc w
theorem b152_13 {n : Nat} {h : q_Hp} {Q : Option Value → q_Hp → Prop} {x0 : Nat} {s0 : Int32} {m : Nat} {P : Int32 → q_Hp → Prop} (hc : q_mI m 150 [.ref x0] h P) (hm : m ≤ n) (w : ∀ (z : Int32) (h1 : q_Hp), P z h1 → q_wp (n + 1) 152 18 [some (.ref x0), some (.int s0)] [.int z] h1 Q) : q_wp (n + 1) 152 13 [some (.ref x0), none] [.int s0] h Q := by
  refine wp_loc rfl rfl ?_
  refine wp_loc rfl rfl ?_
  exact wp_callI (av := [.ref x0]) rfl rfl rfl (by decide) rfl rfl rfl hm hc w
theorem b152_18 {n : Nat} {h : q_Hp} {Q : Option Value → q_Hp → Prop} {x0 : Nat} {x1 : Int32} {s0 : Int32} (wt : ¬ s0 = 1 → q_wp n 152 55 [some (.ref x0), some (.int x1)] [] h Q) (wf : s0 = 1 → q_wp n 152 22 [some (.ref x0), some (.int x1)] [] h Q) : q_wp n 152 18 [some (.ref x0), some (.int x1)] [.int s0] h Q := by
  refine wp_iconst (v := 1) rfl (by decide) ?_
  exact wp_icne (tgt := 55) rfl (by decide) wt wf
theorem b152_22 {n : Nat} {h : q_Hp} {Q : Option Value → q_Hp → Prop} {x0 : Nat} {x1 : Int32} (wt : x1 = 0 → q_wp n 152 49 [some (.ref x0), some (.int x1)] [] h Q) (wf : ¬ x1 = 0 → q_wp n 152 26 [some (.ref x0), some (.int x1)] [] h Q) : q_wp n 152 22 [some (.ref x0), some (.int x1)] [] h Q := by
  refine wp_loc rfl rfl ?_
  exact wp_ifeq (tgt := 49) rfl (by decide) wt wf
theorem b152_26 {n : Nat} {h : q_Hp} {Q : Option Value → q_Hp → Prop} {x0 : Nat} {x1 : Int32} {v0 : Nat} (k0 : q_ok h x0 7) (e0 : qR h x0 2 = v0) {m : Nat} {P : Int32 → q_Hp → Prop} (hc : q_mI m 83 [.ref v0] h P) (hm : m ≤ n) (w : ∀ (z : Int32) (h1 : q_Hp), P z h1 → q_wp (n + 1) 152 33 [some (.ref x0), some (.int x1)] [.int z] h1 Q) : q_wp (n + 1) 152 26 [some (.ref x0), some (.int x1)] [] h Q := by
  refine wp_loc rfl rfl ?_
  refine wp_getR rfl rfl rfl rfl k0 e0 ?_
  exact wp_callI (av := [.ref v0]) rfl rfl rfl (by decide) rfl rfl rfl hm hc w
theorem b152_33 {n : Nat} {h : q_Hp} {Q : Option Value → q_Hp → Prop} {x0 : Nat} {x1 : Int32} {s0 : Int32} {v0 : Nat} (k0 : q_ok h x0 7) (e0 : qR h x0 12 = v0) {m : Nat} {P : Int32 → q_Hp → Prop} (hc : q_mI m 232 [.ref v0, .int ((qI h x0 7) - 1)] h P) (hm : m ≤ n) (w : ∀ (z : Int32) (h1 : q_Hp), P z h1 → q_wp (n + 1) 152 46 [some (.ref x0), some (.int x1)] [.int z, .int s0] h1 Q) : q_wp (n + 1) 152 33 [some (.ref x0), some (.int x1)] [.int s0] h Q := by
  refine wp_loc rfl rfl ?_
  refine wp_getR rfl rfl rfl rfl k0 e0 ?_
  refine wp_loc rfl rfl ?_
  refine wp_getI rfl rfl rfl k0 ?_
  refine wp_iconst (v := 1) rfl (by decide) ?_
  refine wp_stk rfl rfl rfl ?_
  exact wp_callI (av := [.ref v0, .int ((qI h x0 7) - 1)]) rfl rfl rfl (by decide) rfl rfl rfl hm hc w
theorem b152_46 {n : Nat} {h : q_Hp} {Q : Option Value → q_Hp → Prop} {x0 : Nat} {x1 : Int32} {s0 : Int32} {s1 : Int32} (wt : s1 ≤ s0 → q_wp n 152 53 [some (.ref x0), some (.int x1)] [] h Q) (wf : ¬ s1 ≤ s0 → q_wp n 152 49 [some (.ref x0), some (.int x1)] [] h Q) : q_wp n 152 46 [some (.ref x0), some (.int x1)] [.int s0, .int s1] h Q := by
  exact wp_icle (tgt := 53) rfl (by decide) wt wf
theorem b152_49 {n : Nat} {h : q_Hp} {Q : Option Value → q_Hp → Prop} {x0 : Nat} {x1 : Int32} (q : Q (some (.int 1)) h) : q_wp n 152 49 [some (.ref x0), some (.int x1)] [] h Q := by
  refine wp_iconst (v := 1) rfl (by decide) ?_
  refine wp_goto (tgt := 54) rfl (by decide) ?_
  exact wp_ret (r := some (.int 1)) rfl rfl q
theorem b152_53 {n : Nat} {h : q_Hp} {Q : Option Value → q_Hp → Prop} {x0 : Nat} {x1 : Int32} (q : Q (some (.int 0)) h) : q_wp n 152 53 [some (.ref x0), some (.int x1)] [] h Q := by
  refine wp_iconst (v := 0) rfl (by decide) ?_
  exact wp_ret (r := some (.int 0)) rfl rfl q
theorem b152_55 {n : Nat} {h : q_Hp} {Q : Option Value → q_Hp → Prop} {x0 : Nat} {x1 : Int32} {m : Nat} {P : Int32 → q_Hp → Prop} (hc : q_mI m 150 [.ref x0] h P) (hm : m ≤ n) (w : ∀ (z : Int32) (h1 : q_Hp), P z h1 → q_wp (n + 1) 152 59 [some (.ref x0), some (.int x1)] [.int z] h1 Q) : q_wp (n + 1) 152 55 [some (.ref x0), some (.int x1)] [] h Q := by
  refine wp_loc rfl rfl ?_
  exact wp_callI (av := [.ref x0]) rfl rfl rfl (by decide) rfl rfl rfl hm hc w
theorem b152_59 {n : Nat} {h : q_Hp} {Q : Option Value → q_Hp → Prop} {x0 : Nat} {x1 : Int32} {s0 : Int32} (wt : ¬ s0 = 2 → q_wp n 152 83 [some (.ref x0), some (.int x1)] [] h Q) (wf : s0 = 2 → q_wp n 152 63 [some (.ref x0), some (.int x1)] [] h Q) : q_wp n 152 59 [some (.ref x0), some (.int x1)] [.int s0] h Q := by
  refine wp_iconst (v := 2) rfl (by decide) ?_
  exact wp_icne (tgt := 83) rfl (by decide) wt wf
theorem b152_63 {n : Nat} {h : q_Hp} {Q : Option Value → q_Hp → Prop} {x0 : Nat} {x1 : Int32} {v0 : Nat} (k0 : q_ok h x0 7) (e0 : qR h x0 3 = v0) {m : Nat} {P : Int32 → q_Hp → Prop} (hc : q_mI m 151 [.ref x0] h P) (hm : m ≤ n) (w : ∀ (z : Int32) (h1 : q_Hp), P z h1 → q_wp (n + 1) 152 72 [some (.ref x0), some (.int x1)] [.int z, .ref v0, .int x1] h1 Q) : q_wp (n + 1) 152 63 [some (.ref x0), some (.int x1)] [] h Q := by
  refine wp_loc rfl rfl ?_
  refine wp_loc rfl rfl ?_
  refine wp_getR rfl rfl rfl rfl k0 e0 ?_
  refine wp_loc rfl rfl ?_
  exact wp_callI (av := [.ref x0]) rfl rfl rfl (by decide) rfl rfl rfl hm hc w
theorem b152_72 {n : Nat} {h : q_Hp} {Q : Option Value → q_Hp → Prop} {x0 : Nat} {x1 : Int32} {s0 : Int32} {s1 : Nat} {s2 : Int32} {m : Nat} {P : Int32 → q_Hp → Prop} (hc : q_mI m 20 [.ref s1, .int s0, .int 1] h P) (hm : m ≤ n) (w : ∀ (z : Int32) (h1 : q_Hp), P z h1 → q_wp (n + 1) 152 76 [some (.ref x0), some (.int x1)] [.int z, .int s2] h1 Q) : q_wp (n + 1) 152 72 [some (.ref x0), some (.int x1)] [.int s0, .ref s1, .int s2] h Q := by
  refine wp_iconst (v := 1) rfl (by decide) ?_
  exact wp_callI (av := [.ref s1, .int s0, .int 1]) rfl rfl rfl (by decide) rfl rfl rfl hm hc w
theorem b152_76 {n : Nat} {h : q_Hp} {Q : Option Value → q_Hp → Prop} {x0 : Nat} {x1 : Int32} {s0 : Int32} {s1 : Int32} (wt : s0 ≤ s1 → q_wp n 152 83 [some (.ref x0), some (.int x1)] [] h Q) (wf : ¬ s0 ≤ s1 → q_wp n 152 79 [some (.ref x0), some (.int x1)] [] h Q) : q_wp n 152 76 [some (.ref x0), some (.int x1)] [.int s0, .int s1] h Q := by
  exact wp_icge (tgt := 83) rfl (by decide) wt wf
theorem b152_79 {n : Nat} {h : q_Hp} {Q : Option Value → q_Hp → Prop} {x0 : Nat} {x1 : Int32} (q : Q (some (.int 1)) h) : q_wp n 152 79 [some (.ref x0), some (.int x1)] [] h Q := by
  refine wp_iconst (v := 1) rfl (by decide) ?_
  refine wp_goto (tgt := 84) rfl (by decide) ?_
  exact wp_ret (r := some (.int 1)) rfl rfl q
theorem b152_83 {n : Nat} {h : q_Hp} {Q : Option Value → q_Hp → Prop} {x0 : Nat} {x1 : Int32} (q : Q (some (.int 0)) h) : q_wp n 152 83 [some (.ref x0), some (.int x1)] [] h Q := by
  refine wp_iconst (v := 0) rfl (by decide) ?_
  exact wp_ret (r := some (.int 0)) rfl rfl q
theorem b153_0 {n : Nat} {h : q_Hp} {Q : Option Value → q_Hp → Prop} {x0 : Nat} {v0 : Nat} (k0 : q_ok h x0 7) (e0 : qR h x0 11 = v0) {m : Nat} {P : Int32 → q_Hp → Prop} (hc : q_mI m 232 [.ref v0, .int ((qI h x0 7) - 1)] h P) (hm : m ≤ n) (w : ∀ (z : Int32) (h1 : q_Hp), P z h1 → q_wp (n + 1) 153 23 [some (.ref x0)] [.int z, .int ((qI h x0 7) - 1), .ref v0] h1 Q) : q_wp (n + 1) 153 0 [some (.ref x0)] [] h Q := by
  refine wp_loc rfl rfl ?_
  refine wp_getR rfl rfl rfl rfl k0 e0 ?_
  refine wp_loc rfl rfl ?_
  refine wp_getI rfl rfl rfl k0 ?_
  refine wp_iconst (v := 1) rfl (by decide) ?_
  refine wp_stk rfl rfl rfl ?_
  refine wp_loc rfl rfl ?_
  refine wp_getR rfl rfl rfl rfl k0 e0 ?_
  refine wp_loc rfl rfl ?_
  refine wp_getI rfl rfl rfl k0 ?_
  refine wp_iconst (v := 1) rfl (by decide) ?_
  refine wp_stk rfl rfl rfl ?_
  exact wp_callI (av := [.ref v0, .int ((qI h x0 7) - 1)]) rfl rfl rfl (by decide) rfl rfl rfl hm hc w
theorem b153_23 {n : Nat} {h : q_Hp} {Q : Option Value → q_Hp → Prop} {x0 : Nat} {s0 : Int32} {s1 : Int32} {s2 : Nat} {m : Nat} {P : q_Hp → Prop} (hc : q_mV m 233 [.ref s2, .int s1, .int (s0 + 1)] h P) (hm : m ≤ n) (w : ∀ h1 : q_Hp, P h1 → q_wp (n + 1) 153 28 [some (.ref x0)] [] h1 Q) : q_wp (n + 1) 153 23 [some (.ref x0)] [.int s0, .int s1, .ref s2] h Q := by
  refine wp_iconst (v := 1) rfl (by decide) ?_
  refine wp_stk rfl rfl rfl ?_
  exact wp_callV (av := [.ref s2, .int s1, .int (s0 + 1)]) rfl rfl rfl (by decide) rfl rfl rfl hm hc w
theorem b153_28 {n : Nat} {h : q_Hp} {Q : Option Value → q_Hp → Prop} {x0 : Nat} {m : Nat} {P : Int32 → q_Hp → Prop} (hc : q_mI m 150 [.ref x0] h P) (hm : m ≤ n) (w : ∀ (z : Int32) (h1 : q_Hp), P z h1 → q_wp (n + 1) 153 32 [some (.ref x0)] [.int z] h1 Q) : q_wp (n + 1) 153 28 [some (.ref x0)] [] h Q := by
  refine wp_loc rfl rfl ?_
  exact wp_callI (av := [.ref x0]) rfl rfl rfl (by decide) rfl rfl rfl hm hc w
theorem b153_32 {n : Nat} {h : q_Hp} {Q : Option Value → q_Hp → Prop} {x0 : Nat} {s0 : Int32} (wt : ¬ s0 = 1 → q_wp n 153 40 [some (.ref x0)] [] h Q) (wf : s0 = 1 → q_wp n 153 36 [some (.ref x0)] [] h Q) : q_wp n 153 32 [some (.ref x0)] [.int s0] h Q := by
  refine wp_iconst (v := 1) rfl (by decide) ?_
  exact wp_icne (tgt := 40) rfl (by decide) wt wf
theorem b153_36 {n : Nat} {h : q_Hp} {Q : Option Value → q_Hp → Prop} {x0 : Nat} {m : Nat} {P : q_Hp → Prop} (hc : q_mV m 148 [.ref x0] h P) (hm : m ≤ n) (w : ∀ h1 : q_Hp, P h1 → q_wp (n + 1) 153 40 [some (.ref x0)] [] h1 Q) : q_wp (n + 1) 153 36 [some (.ref x0)] [] h Q := by
  refine wp_loc rfl rfl ?_
  exact wp_callV (av := [.ref x0]) rfl rfl rfl (by decide) rfl rfl rfl hm hc w
theorem b153_40 {n : Nat} {h : q_Hp} {Q : Option Value → q_Hp → Prop} {x0 : Nat} {v0 : Nat} (k0 : q_ok h x0 7) (e0 : qR h x0 3 = v0) {m : Nat} {P : Int32 → q_Hp → Prop} (hc : q_mI m 151 [.ref x0] h P) (hm : m ≤ n) (w : ∀ (z : Int32) (h1 : q_Hp), P z h1 → q_wp (n + 1) 153 49 [some (.ref x0)] [.int z, .ref v0, .ref x0] h1 Q) : q_wp (n + 1) 153 40 [some (.ref x0)] [] h Q := by
  refine wp_loc rfl rfl ?_
  refine wp_loc rfl rfl ?_
  refine wp_getR rfl rfl rfl rfl k0 e0 ?_
  refine wp_loc rfl rfl ?_
  exact wp_callI (av := [.ref x0]) rfl rfl rfl (by decide) rfl rfl rfl hm hc w
theorem b153_49 {n : Nat} {h : q_Hp} {Q : Option Value → q_Hp → Prop} {x0 : Nat} {s0 : Int32} {s1 : Nat} {s2 : Nat} {m : Nat} {P : Int32 → q_Hp → Prop} (hc : q_mI m 20 [.ref s1, .int s0, .int 3] h P) (hm : m ≤ n) (w : ∀ (z : Int32) (h1 : q_Hp), P z h1 → q_wp (n + 1) 153 53 [some (.ref x0)] [.int z, .ref s2] h1 Q) : q_wp (n + 1) 153 49 [some (.ref x0)] [.int s0, .ref s1, .ref s2] h Q := by
  refine wp_iconst (v := 3) rfl (by decide) ?_
  exact wp_callI (av := [.ref s1, .int s0, .int 3]) rfl rfl rfl (by decide) rfl rfl rfl hm hc w
theorem b153_53 {n : Nat} {h : q_Hp} {Q : Option Value → q_Hp → Prop} {x0 : Nat} {s0 : Int32} {s1 : Nat} (k0 : q_ok h s1 7) (q : Q none (q_sI h s1 6 s0)) : q_wp n 153 53 [some (.ref x0)] [.int s0, .ref s1] h Q := by
  refine wp_putI rfl rfl (Or.inl rfl) rfl (fun h9 => by cases h9) k0 ?_
  exact wp_ret rfl rfl q
theorem b154_0 {n : Nat} {h : q_Hp} {Q : Option Value → q_Hp → Prop} {x0 : Nat} {x1 : Int32} (wt : ¬ x1 = 2 → q_wp n 154 13 [some (.ref x0), some (.int x1)] [] h Q) (wf : x1 = 2 → q_wp n 154 5 [some (.ref x0), some (.int x1)] [] h Q) : q_wp n 154 0 [some (.ref x0), some (.int x1)] [] h Q := by
  refine wp_loc rfl rfl ?_
  refine wp_iconst (v := 2) rfl (by decide) ?_
  exact wp_icne (tgt := 13) rfl (by decide) wt wf
theorem b154_5 {n : Nat} {h : q_Hp} {Q : Option Value → q_Hp → Prop} {x0 : Nat} {x1 : Int32} (k0 : q_ok h x0 7) (q : Q none (q_sI h x0 4 3)) : q_wp n 154 5 [some (.ref x0), some (.int x1)] [] h Q := by
  refine wp_loc rfl rfl ?_
  refine wp_iconst (v := 3) rfl (by decide) ?_
  refine wp_putI rfl rfl (Or.inl rfl) rfl (fun h9 => by cases h9) k0 ?_
  refine wp_goto (tgt := 40) rfl (by decide) ?_
  exact wp_ret rfl rfl q
theorem b154_13 {n : Nat} {h : q_Hp} {Q : Option Value → q_Hp → Prop} {x0 : Nat} {x1 : Int32} (wt : ¬ x1 = 0 → q_wp n 154 24 [some (.ref x0), some (.int x1)] [] h Q) (wf : x1 = 0 → q_wp n 154 17 [some (.ref x0), some (.int x1)] [] h Q) : q_wp n 154 13 [some (.ref x0), some (.int x1)] [] h Q := by
  refine wp_loc rfl rfl ?_
  exact wp_ifne (tgt := 24) rfl (by decide) wt wf
theorem b154_17 {n : Nat} {h : q_Hp} {Q : Option Value → q_Hp → Prop} {x0 : Nat} {x1 : Int32} {m : Nat} {P : q_Hp → Prop} (hc : q_mV m 159 [.ref x0] h P) (hm : m ≤ n) (w : ∀ h1 : q_Hp, P h1 → q_wp (n + 1) 154 21 [some (.ref x0), some (.int x1)] [] h1 Q) : q_wp (n + 1) 154 17 [some (.ref x0), some (.int x1)] [] h Q := by
  refine wp_loc rfl rfl ?_
  exact wp_callV (av := [.ref x0]) rfl rfl rfl (by decide) rfl rfl rfl hm hc w
theorem b154_21 {n : Nat} {h : q_Hp} {Q : Option Value → q_Hp → Prop} {x0 : Nat} {x1 : Int32} (q : Q none h) : q_wp n 154 21 [some (.ref x0), some (.int x1)] [] h Q := by
  refine wp_goto (tgt := 40) rfl (by decide) ?_
  exact wp_ret rfl rfl q
theorem b154_24 {n : Nat} {h : q_Hp} {Q : Option Value → q_Hp → Prop} {x0 : Nat} {x1 : Int32} {v0 : Nat} (k0 : q_ok h x0 7) (e0 : qR h x0 3 = v0) {m : Nat} {P : Int32 → q_Hp → Prop} (hc : q_mI m 20 [.ref v0, .int (qI h x0 6), .int 2] h P) (hm : m ≤ n) (w : ∀ (z : Int32) (h1 : q_Hp), P z h1 → q_wp (n + 1) 154 37 [some (.ref x0), some (.int x1)] [.int z, .ref x0] h1 Q) : q_wp (n + 1) 154 24 [some (.ref x0), some (.int x1)] [] h Q := by
  refine wp_loc rfl rfl ?_
  refine wp_loc rfl rfl ?_
  refine wp_getR rfl rfl rfl rfl k0 e0 ?_
  refine wp_loc rfl rfl ?_
  refine wp_getI rfl rfl rfl k0 ?_
  refine wp_iconst (v := 2) rfl (by decide) ?_
  exact wp_callI (av := [.ref v0, .int (qI h x0 6), .int 2]) rfl rfl rfl (by decide) rfl rfl rfl hm hc w
theorem b154_37 {n : Nat} {h : q_Hp} {Q : Option Value → q_Hp → Prop} {x0 : Nat} {x1 : Int32} {s0 : Int32} {s1 : Nat} (k0 : q_ok h s1 7) (q : Q none (q_sI h s1 6 s0)) : q_wp n 154 37 [some (.ref x0), some (.int x1)] [.int s0, .ref s1] h Q := by
  refine wp_putI rfl rfl (Or.inl rfl) rfl (fun h9 => by cases h9) k0 ?_
  exact wp_ret rfl rfl q
theorem b155_0 {n : Nat} {h : q_Hp} {Q : Option Value → q_Hp → Prop} {x0 : Nat} {x1 : Int32} (k0 : q_ok h x0 7) (wt : (qI h x0 8) < 20 → q_wp n 155 17 [some (.ref x0), some (.int x1)] [] h Q) (wf : ¬ (qI h x0 8) < 20 → q_wp n 155 9 [some (.ref x0), some (.int x1)] [] h Q) : q_wp n 155 0 [some (.ref x0), some (.int x1)] [] h Q := by
  refine wp_loc rfl rfl ?_
  refine wp_getI rfl rfl rfl k0 ?_
  refine wp_bipush (v := 20) rfl (by decide) ?_
  exact wp_iclt (tgt := 17) rfl (by decide) wt wf
theorem b155_9 {n : Nat} {h : q_Hp} {Q : Option Value → q_Hp → Prop} {x0 : Nat} {x1 : Int32} (k0 : q_ok h x0 7) (w : q_wp n 155 34 [some (.ref x0), some (.int x1)] [] (q_sI h x0 4 3) Q) : q_wp n 155 9 [some (.ref x0), some (.int x1)] [] h Q := by
  refine wp_loc rfl rfl ?_
  refine wp_iconst (v := 3) rfl (by decide) ?_
  refine wp_putI rfl rfl (Or.inl rfl) rfl (fun h9 => by cases h9) k0 ?_
  refine wp_goto (tgt := 34) rfl (by decide) ?_
  exact w
theorem b155_17 {n : Nat} {h : q_Hp} {Q : Option Value → q_Hp → Prop} {x0 : Nat} {x1 : Int32} {v0 : Nat} (k0 : q_ok h x0 7) (e0 : qR h x0 3 = v0) {m : Nat} {P : Int32 → q_Hp → Prop} (hc : q_mI m 10 [.ref v0, .int x1] h P) (hm : m ≤ n) (w : ∀ (z : Int32) (h1 : q_Hp), P z h1 → q_wp (n + 1) 155 31 [some (.ref x0), some (.int x1)] [.int z, .int (qI h x0 6), .int 0, .ref x0] h1 Q) : q_wp (n + 1) 155 17 [some (.ref x0), some (.int x1)] [] h Q := by
  refine wp_loc rfl rfl ?_
  refine wp_iconst (v := 0) rfl (by decide) ?_
  refine wp_loc rfl rfl ?_
  refine wp_getI rfl rfl rfl k0 ?_
  refine wp_loc rfl rfl ?_
  refine wp_getR rfl rfl rfl rfl k0 e0 ?_
  refine wp_loc rfl rfl ?_
  exact wp_callI (av := [.ref v0, .int x1]) rfl rfl rfl (by decide) rfl rfl rfl hm hc w
theorem b155_31 {n : Nat} {h : q_Hp} {Q : Option Value → q_Hp → Prop} {x0 : Nat} {x1 : Int32} {s0 : Int32} {s1 : Int32} {s2 : Int32} {s3 : Nat} {m : Nat} {P : q_Hp → Prop} (hc : q_mV m 147 [.ref s3, .int s2, .int s1, .int s0] h P) (hm : m ≤ n) (w : ∀ h1 : q_Hp, P h1 → q_wp (n + 1) 155 34 [some (.ref x0), some (.int x1)] [] h1 Q) : q_wp (n + 1) 155 31 [some (.ref x0), some (.int x1)] [.int s0, .int s1, .int s2, .ref s3] h Q := by
  exact wp_callV (av := [.ref s3, .int s2, .int s1, .int s0]) rfl rfl rfl (by decide) rfl rfl rfl hm hc w
theorem b155_34 {n : Nat} {h : q_Hp} {Q : Option Value → q_Hp → Prop} {x0 : Nat} {x1 : Int32} (q : Q none h) : q_wp n 155 34 [some (.ref x0), some (.int x1)] [] h Q := by
  exact wp_ret rfl rfl q
theorem b156_0 {n : Nat} {h : q_Hp} {Q : Option Value → q_Hp → Prop} {x0 : Nat} {m : Nat} {P : Int32 → q_Hp → Prop} (hc : q_mI m 151 [.ref x0] h P) (hm : m ≤ n) (w : ∀ (z : Int32) (h1 : q_Hp), P z h1 → q_wp (n + 1) 156 4 [some (.ref x0), none] [.int z] h1 Q) : q_wp (n + 1) 156 0 [some (.ref x0), none] [] h Q := by
  refine wp_loc rfl rfl ?_
  exact wp_callI (av := [.ref x0]) rfl rfl rfl (by decide) rfl rfl rfl hm hc w
theorem b156_4 {n : Nat} {h : q_Hp} {Q : Option Value → q_Hp → Prop} {x0 : Nat} {s0 : Int32} {m : Nat} {P : Int32 → q_Hp → Prop} (hc : q_mI m 150 [.ref x0] h P) (hm : m ≤ n) (w : ∀ (z : Int32) (h1 : q_Hp), P z h1 → q_wp (n + 1) 156 9 [some (.ref x0), some (.int s0)] [.int z] h1 Q) : q_wp (n + 1) 156 4 [some (.ref x0), none] [.int s0] h Q := by
  refine wp_loc rfl rfl ?_
  refine wp_loc rfl rfl ?_
  exact wp_callI (av := [.ref x0]) rfl rfl rfl (by decide) rfl rfl rfl hm hc w
theorem b156_9 {n : Nat} {h : q_Hp} {Q : Option Value → q_Hp → Prop} {x0 : Nat} {x1 : Int32} {s0 : Int32} (wt : ¬ s0 = 0 → q_wp n 156 22 [some (.ref x0), some (.int x1)] [] h Q) (wf : s0 = 0 → q_wp n 156 12 [some (.ref x0), some (.int x1)] [] h Q) : q_wp n 156 9 [some (.ref x0), some (.int x1)] [.int s0] h Q := by
  exact wp_ifne (tgt := 22) rfl (by decide) wt wf
theorem b156_12 {n : Nat} {h : q_Hp} {Q : Option Value → q_Hp → Prop} {x0 : Nat} {x1 : Int32} (k0 : q_ok h x0 7) (w : q_wp n 156 22 [some (.ref x0), some (.int x1)] [] (q_sI h x0 8 ((qI h x0 8) - 1)) Q) : q_wp n 156 12 [some (.ref x0), some (.int x1)] [] h Q := by
  refine wp_loc rfl rfl ?_
  refine wp_stk rfl rfl rfl ?_
  refine wp_getI rfl rfl rfl k0 ?_
  refine wp_iconst (v := 1) rfl (by decide) ?_
  refine wp_stk rfl rfl rfl ?_
  refine wp_putI rfl rfl (Or.inl rfl) rfl (fun h9 => by cases h9) k0 ?_
  exact w
theorem b156_22 {n : Nat} {h : q_Hp} {Q : Option Value → q_Hp → Prop} {x0 : Nat} {x1 : Int32} {v0 : Nat} (k0 : q_ok h x0 7) (e0 : qR h x0 3 = v0) {m : Nat} {P : Int32 → q_Hp → Prop} (hc : q_mI m 20 [.ref v0, .int x1, .int 2] (q_sI h x0 7 ((qI h x0 7) - 1)) P) (hm : m ≤ n) (w : ∀ (z : Int32) (h1 : q_Hp), P z h1 → q_wp (n + 1) 156 42 [some (.ref x0), some (.int x1)] [.int z, .ref x0] h1 Q) : q_wp (n + 1) 156 22 [some (.ref x0), some (.int x1)] [] h Q := by
  refine wp_loc rfl rfl ?_
  refine wp_stk rfl rfl rfl ?_
  refine wp_getI rfl rfl rfl k0 ?_
  refine wp_iconst (v := 1) rfl (by decide) ?_
  refine wp_stk rfl rfl rfl ?_
  refine wp_putI rfl rfl (Or.inl rfl) rfl (fun h9 => by cases h9) k0 ?_
  refine wp_loc rfl rfl ?_
  refine wp_loc rfl rfl ?_
  refine wp_getR rfl rfl rfl rfl k0 e0 ?_
  refine wp_loc rfl rfl ?_
  refine wp_iconst (v := 2) rfl (by decide) ?_
  exact wp_callI (av := [.ref v0, .int x1, .int 2]) rfl rfl rfl (by decide) rfl rfl rfl hm hc w
theorem b156_42 {n : Nat} {h : q_Hp} {Q : Option Value → q_Hp → Prop} {x0 : Nat} {x1 : Int32} {s0 : Int32} {s1 : Nat} (k0 : q_ok h s1 7) (q : Q none (q_sI h s1 6 s0)) : q_wp n 156 42 [some (.ref x0), some (.int x1)] [.int s0, .ref s1] h Q := by
  refine wp_putI rfl rfl (Or.inl rfl) rfl (fun h9 => by cases h9) k0 ?_
  exact wp_ret rfl rfl q
theorem b157_0 {n : Nat} {h : q_Hp} {Q : Option Value → q_Hp → Prop} {x0 : Nat} {x1 : Int32} {v0 : Nat} (k0 : q_ok h x0 7) (e0 : qR h x0 9 = v0) {m : Nat} {P : q_Hp → Prop} (hc : q_mV m 233 [.ref v0, .int ((qI h x0 7) - 1), .int 4] h P) (hm : m ≤ n) (w : ∀ h1 : q_Hp, P h1 → q_wp (n + 1) 157 14 [some (.ref x0), some (.int x1)] [] h1 Q) : q_wp (n + 1) 157 0 [some (.ref x0), some (.int x1)] [] h Q := by
  refine wp_loc rfl rfl ?_
  refine wp_getR rfl rfl rfl rfl k0 e0 ?_
  refine wp_loc rfl rfl ?_
  refine wp_getI rfl rfl rfl k0 ?_
  refine wp_iconst (v := 1) rfl (by decide) ?_
  refine wp_stk rfl rfl rfl ?_
  refine wp_iconst (v := 4) rfl (by decide) ?_
  exact wp_callV (av := [.ref v0, .int ((qI h x0 7) - 1), .int 4]) rfl rfl rfl (by decide) rfl rfl rfl hm hc w
theorem b157_14 {n : Nat} {h : q_Hp} {Q : Option Value → q_Hp → Prop} {x0 : Nat} {x1 : Int32} {v0 : Nat} (k0 : q_ok h x0 7) (e0 : qR h x0 3 = v0) {m : Nat} {P : Int32 → q_Hp → Prop} (hc : q_mI m 151 [.ref x0] h P) (hm : m ≤ n) (w : ∀ (z : Int32) (h1 : q_Hp), P z h1 → q_wp (n + 1) 157 23 [some (.ref x0), some (.int x1)] [.int z, .ref v0, .ref x0] h1 Q) : q_wp (n + 1) 157 14 [some (.ref x0), some (.int x1)] [] h Q := by
  refine wp_loc rfl rfl ?_
  refine wp_loc rfl rfl ?_
  refine wp_getR rfl rfl rfl rfl k0 e0 ?_
  refine wp_loc rfl rfl ?_
  exact wp_callI (av := [.ref x0]) rfl rfl rfl (by decide) rfl rfl rfl hm hc w
theorem b157_23 {n : Nat} {h : q_Hp} {Q : Option Value → q_Hp → Prop} {x0 : Nat} {x1 : Int32} {s0 : Int32} {s1 : Nat} {s2 : Nat} {m : Nat} {P : Int32 → q_Hp → Prop} (hc : q_mI m 20 [.ref s1, .int s0, .int x1] h P) (hm : m ≤ n) (w : ∀ (z : Int32) (h1 : q_Hp), P z h1 → q_wp (n + 1) 157 27 [some (.ref x0), some (.int x1)] [.int z, .ref s2] h1 Q) : q_wp (n + 1) 157 23 [some (.ref x0), some (.int x1)] [.int s0, .ref s1, .ref s2] h Q := by
  refine wp_loc rfl rfl ?_
  exact wp_callI (av := [.ref s1, .int s0, .int x1]) rfl rfl rfl (by decide) rfl rfl rfl hm hc w
theorem b157_27 {n : Nat} {h : q_Hp} {Q : Option Value → q_Hp → Prop} {x0 : Nat} {x1 : Int32} {s0 : Int32} {s1 : Nat} (k0 : q_ok h s1 7) (q : Q none (q_sI h s1 6 s0)) : q_wp n 157 27 [some (.ref x0), some (.int x1)] [.int s0, .ref s1] h Q := by
  refine wp_putI rfl rfl (Or.inl rfl) rfl (fun h9 => by cases h9) k0 ?_
  exact wp_ret rfl rfl q
theorem b158_0 {n : Nat} {h : q_Hp} {Q : Option Value → q_Hp → Prop} {x0 : Nat} {m : Nat} {P : Int32 → q_Hp → Prop} (hc : q_mI m 150 [.ref x0] h P) (hm : m ≤ n) (w : ∀ (z : Int32) (h1 : q_Hp), P z h1 → q_wp (n + 1) 158 4 [some (.ref x0)] [.int z] h1 Q) : q_wp (n + 1) 158 0 [some (.ref x0)] [] h Q := by
  refine wp_loc rfl rfl ?_
  exact wp_callI (av := [.ref x0]) rfl rfl rfl (by decide) rfl rfl rfl hm hc w
theorem b158_4 {n : Nat} {h : q_Hp} {Q : Option Value → q_Hp → Prop} {x0 : Nat} {s0 : Int32} (wt : ¬ s0 = 3 → q_wp n 158 16 [some (.ref x0)] [] h Q) (wf : s0 = 3 → q_wp n 158 8 [some (.ref x0)] [] h Q) : q_wp n 158 4 [some (.ref x0)] [.int s0] h Q := by
  refine wp_iconst (v := 3) rfl (by decide) ?_
  exact wp_icne (tgt := 16) rfl (by decide) wt wf
theorem b158_8 {n : Nat} {h : q_Hp} {Q : Option Value → q_Hp → Prop} {x0 : Nat} {m : Nat} {P : q_Hp → Prop} (hc : q_mV m 157 [.ref x0, .int 4] h P) (hm : m ≤ n) (w : ∀ h1 : q_Hp, P h1 → q_wp (n + 1) 158 13 [some (.ref x0)] [] h1 Q) : q_wp (n + 1) 158 8 [some (.ref x0)] [] h Q := by
  refine wp_loc rfl rfl ?_
  refine wp_iconst (v := 4) rfl (by decide) ?_
  exact wp_callV (av := [.ref x0, .int 4]) rfl rfl rfl (by decide) rfl rfl rfl hm hc w
theorem b158_13 {n : Nat} {h : q_Hp} {Q : Option Value → q_Hp → Prop} {x0 : Nat} (w : q_wp n 158 36 [some (.ref x0)] [] h Q) : q_wp n 158 13 [some (.ref x0)] [] h Q := by
  refine wp_goto (tgt := 36) rfl (by decide) ?_
  exact w
theorem b158_16 {n : Nat} {h : q_Hp} {Q : Option Value → q_Hp → Prop} {x0 : Nat} (k0 : q_ok h x0 7) (wt : ¬ (qI h x0 7) = 1 → q_wp n 158 32 [some (.ref x0)] [] h Q) (wf : (qI h x0 7) = 1 → q_wp n 158 24 [some (.ref x0)] [] h Q) : q_wp n 158 16 [some (.ref x0)] [] h Q := by
  refine wp_loc rfl rfl ?_
  refine wp_getI rfl rfl rfl k0 ?_
  refine wp_iconst (v := 1) rfl (by decide) ?_
  exact wp_icne (tgt := 32) rfl (by decide) wt wf
theorem b158_24 {n : Nat} {h : q_Hp} {Q : Option Value → q_Hp → Prop} {x0 : Nat} (k0 : q_ok h x0 7) (w : q_wp n 158 36 [some (.ref x0)] [] (q_sI h x0 4 1) Q) : q_wp n 158 24 [some (.ref x0)] [] h Q := by
  refine wp_loc rfl rfl ?_
  refine wp_iconst (v := 1) rfl (by decide) ?_
  refine wp_putI rfl rfl (Or.inl rfl) rfl (fun h9 => by cases h9) k0 ?_
  refine wp_goto (tgt := 36) rfl (by decide) ?_
  exact w
theorem b158_32 {n : Nat} {h : q_Hp} {Q : Option Value → q_Hp → Prop} {x0 : Nat} {m : Nat} {P : q_Hp → Prop} (hc : q_mV m 156 [.ref x0] h P) (hm : m ≤ n) (w : ∀ h1 : q_Hp, P h1 → q_wp (n + 1) 158 36 [some (.ref x0)] [] h1 Q) : q_wp (n + 1) 158 32 [some (.ref x0)] [] h Q := by
  refine wp_loc rfl rfl ?_
  exact wp_callV (av := [.ref x0]) rfl rfl rfl (by decide) rfl rfl rfl hm hc w
theorem b158_36 {n : Nat} {h : q_Hp} {Q : Option Value → q_Hp → Prop} {x0 : Nat} (q : Q none h) : q_wp n 158 36 [some (.ref x0)] [] h Q := by
  exact wp_ret rfl rfl q
theorem b159_0 {n : Nat} {h : q_Hp} {Q : Option Value → q_Hp → Prop} {x0 : Nat} (w : q_wp n 159 2 [some (.ref x0), some (.int 0)] [] h Q) : q_wp n 159 0 [some (.ref x0), none] [] h Q := by
  refine wp_iconst (v := 0) rfl (by decide) ?_
  refine wp_loc rfl rfl ?_
  exact w
theorem b159_2 {n : Nat} {h : q_Hp} {Q : Option Value → q_Hp → Prop} {x0 : Nat} {x1 : Int32} (wt : 180 ≤ x1 → q_wp n 159 94 [some (.ref x0), some (.int x1)] [] h Q) (wf : ¬ 180 ≤ x1 → q_wp n 159 9 [some (.ref x0), some (.int x1)] [] h Q) : q_wp n 159 2 [some (.ref x0), some (.int x1)] [] h Q := by
  refine wp_loc rfl rfl ?_
  refine wp_sipush (v := 180) rfl (by decide) ?_
  exact wp_icge (tgt := 94) rfl (by decide) wt wf
theorem b159_9 {n : Nat} {h : q_Hp} {Q : Option Value → q_Hp → Prop} {x0 : Nat} {x1 : Int32} {m : Nat} {P : Int32 → q_Hp → Prop} (hc : q_mI m 139 [.ref x0] h P) (hm : m ≤ n) (w : ∀ (z : Int32) (h1 : q_Hp), P z h1 → q_wp (n + 1) 159 13 [some (.ref x0), some (.int x1)] [.int z] h1 Q) : q_wp (n + 1) 159 9 [some (.ref x0), some (.int x1)] [] h Q := by
  refine wp_loc rfl rfl ?_
  exact wp_callI (av := [.ref x0]) rfl rfl rfl (by decide) rfl rfl rfl hm hc w
theorem b159_13 {n : Nat} {h : q_Hp} {Q : Option Value → q_Hp → Prop} {x0 : Nat} {x1 : Int32} {s0 : Int32} (wt : s0 = 0 → q_wp n 159 94 [some (.ref x0), some (.int x1)] [] h Q) (wf : ¬ s0 = 0 → q_wp n 159 16 [some (.ref x0), some (.int x1)] [] h Q) : q_wp n 159 13 [some (.ref x0), some (.int x1)] [.int s0] h Q := by
  exact wp_ifeq (tgt := 94) rfl (by decide) wt wf
theorem b159_16 {n : Nat} {h : q_Hp} {Q : Option Value → q_Hp → Prop} {x0 : Nat} {x1 : Int32} {m : Nat} {P : Int32 → q_Hp → Prop} (hc : q_mI m 150 [.ref x0] h P) (hm : m ≤ n) (w : ∀ (z : Int32) (h1 : q_Hp), P z h1 → q_wp (n + 1) 159 20 [some (.ref x0), some (.int x1)] [.int z] h1 Q) : q_wp (n + 1) 159 16 [some (.ref x0), some (.int x1)] [] h Q := by
  refine wp_loc rfl rfl ?_
  exact wp_callI (av := [.ref x0]) rfl rfl rfl (by decide) rfl rfl rfl hm hc w
theorem b159_20 {n : Nat} {h : q_Hp} {Q : Option Value → q_Hp → Prop} {x0 : Nat} {x1 : Int32} {s0 : Int32} (wt : ¬ s0 = 3 → q_wp n 159 40 [some (.ref x0), some (.int x1)] [] h Q) (wf : s0 = 3 → q_wp n 159 24 [some (.ref x0), some (.int x1)] [] h Q) : q_wp n 159 20 [some (.ref x0), some (.int x1)] [.int s0] h Q := by
  refine wp_iconst (v := 3) rfl (by decide) ?_
  exact wp_icne (tgt := 40) rfl (by decide) wt wf
theorem b159_24 {n : Nat} {h : q_Hp} {Q : Option Value → q_Hp → Prop} {x0 : Nat} {x1 : Int32} (k0 : q_ok h x0 7) {m : Nat} {P : q_Hp → Prop} (hc : q_mV m 149 [.ref x0, .int ((qI h x0 7) - 1)] h P) (hm : m ≤ n) (w : ∀ h1 : q_Hp, P h1 → q_wp (n + 1) 159 34 [some (.ref x0), some (.int x1)] [] h1 Q) : q_wp (n + 1) 159 24 [some (.ref x0), some (.int x1)] [] h Q := by
  refine wp_loc rfl rfl ?_
  refine wp_loc rfl rfl ?_
  refine wp_getI rfl rfl rfl k0 ?_
  refine wp_iconst (v := 1) rfl (by decide) ?_
  refine wp_stk rfl rfl rfl ?_
  exact wp_callV (av := [.ref x0, .int ((qI h x0 7) - 1)]) rfl rfl rfl (by decide) rfl rfl rfl hm hc w
theorem b159_34 {n : Nat} {h : q_Hp} {Q : Option Value → q_Hp → Prop} {x0 : Nat} {x1 : Int32} {m : Nat} {P : q_Hp → Prop} (hc : q_mV m 157 [.ref x0, .int 5] h P) (hm : m ≤ n) (w : ∀ h1 : q_Hp, P h1 → q_wp (n + 1) 159 39 [some (.ref x0), some (.int x1)] [] h1 Q) : q_wp (n + 1) 159 34 [some (.ref x0), some (.int x1)] [] h Q := by
  refine wp_loc rfl rfl ?_
  refine wp_iconst (v := 5) rfl (by decide) ?_
  exact wp_callV (av := [.ref x0, .int 5]) rfl rfl rfl (by decide) rfl rfl rfl hm hc w
theorem b159_39 {n : Nat} {h : q_Hp} {Q : Option Value → q_Hp → Prop} {x0 : Nat} {x1 : Int32} (q : Q none h) : q_wp n 159 39 [some (.ref x0), some (.int x1)] [] h Q := by
  exact wp_ret rfl rfl q
theorem b159_40 {n : Nat} {h : q_Hp} {Q : Option Value → q_Hp → Prop} {x0 : Nat} {x1 : Int32} {m : Nat} {P : Int32 → q_Hp → Prop} (hc : q_mI m 150 [.ref x0] h P) (hm : m ≤ n) (w : ∀ (z : Int32) (h1 : q_Hp), P z h1 → q_wp (n + 1) 159 44 [some (.ref x0), some (.int x1)] [.int z] h1 Q) : q_wp (n + 1) 159 40 [some (.ref x0), some (.int x1)] [] h Q := by
  refine wp_loc rfl rfl ?_
  exact wp_callI (av := [.ref x0]) rfl rfl rfl (by decide) rfl rfl rfl hm hc w
theorem b159_44 {n : Nat} {h : q_Hp} {Q : Option Value → q_Hp → Prop} {x0 : Nat} {x1 : Int32} {s0 : Int32} (wt : ¬ s0 = 1 → q_wp n 159 63 [some (.ref x0), some (.int x1)] [] h Q) (wf : s0 = 1 → q_wp n 159 48 [some (.ref x0), some (.int x1)] [] h Q) : q_wp n 159 44 [some (.ref x0), some (.int x1)] [.int s0] h Q := by
  refine wp_iconst (v := 1) rfl (by decide) ?_
  exact wp_icne (tgt := 63) rfl (by decide) wt wf
theorem b159_48 {n : Nat} {h : q_Hp} {Q : Option Value → q_Hp → Prop} {x0 : Nat} {x1 : Int32} (k0 : q_ok h x0 7) {m : Nat} {P : q_Hp → Prop} (hc : q_mV m 149 [.ref x0, .int ((qI h x0 7) - 1)] h P) (hm : m ≤ n) (w : ∀ h1 : q_Hp, P h1 → q_wp (n + 1) 159 58 [some (.ref x0), some (.int x1)] [] h1 Q) : q_wp (n + 1) 159 48 [some (.ref x0), some (.int x1)] [] h Q := by
  refine wp_loc rfl rfl ?_
  refine wp_loc rfl rfl ?_
  refine wp_getI rfl rfl rfl k0 ?_
  refine wp_iconst (v := 1) rfl (by decide) ?_
  refine wp_stk rfl rfl rfl ?_
  exact wp_callV (av := [.ref x0, .int ((qI h x0 7) - 1)]) rfl rfl rfl (by decide) rfl rfl rfl hm hc w
theorem b159_58 {n : Nat} {h : q_Hp} {Q : Option Value → q_Hp → Prop} {x0 : Nat} {x1 : Int32} {m : Nat} {P : q_Hp → Prop} (hc : q_mV m 156 [.ref x0] h P) (hm : m ≤ n) (w : ∀ h1 : q_Hp, P h1 → q_wp (n + 1) 159 62 [some (.ref x0), some (.int x1)] [] h1 Q) : q_wp (n + 1) 159 58 [some (.ref x0), some (.int x1)] [] h Q := by
  refine wp_loc rfl rfl ?_
  exact wp_callV (av := [.ref x0]) rfl rfl rfl (by decide) rfl rfl rfl hm hc w
theorem b159_62 {n : Nat} {h : q_Hp} {Q : Option Value → q_Hp → Prop} {x0 : Nat} {x1 : Int32} (q : Q none h) : q_wp n 159 62 [some (.ref x0), some (.int x1)] [] h Q := by
  exact wp_ret rfl rfl q
theorem b159_63 {n : Nat} {h : q_Hp} {Q : Option Value → q_Hp → Prop} {x0 : Nat} {x1 : Int32} (k0 : q_ok h x0 7) (wt : 1 < (qI h x0 7) → q_wp n 159 84 [some (.ref x0), some (.int x1)] [] h Q) (wf : ¬ 1 < (qI h x0 7) → q_wp n 159 71 [some (.ref x0), some (.int x1)] [] h Q) : q_wp n 159 63 [some (.ref x0), some (.int x1)] [] h Q := by
  refine wp_loc rfl rfl ?_
  refine wp_getI rfl rfl rfl k0 ?_
  refine wp_iconst (v := 1) rfl (by decide) ?_
  exact wp_icgt (tgt := 84) rfl (by decide) wt wf
theorem b159_71 {n : Nat} {h : q_Hp} {Q : Option Value → q_Hp → Prop} {x0 : Nat} {x1 : Int32} {m : Nat} {P : q_Hp → Prop} (hc : q_mV m 149 [.ref x0, .int 0] h P) (hm : m ≤ n) (w : ∀ h1 : q_Hp, P h1 → q_wp (n + 1) 159 76 [some (.ref x0), some (.int x1)] [] h1 Q) : q_wp (n + 1) 159 71 [some (.ref x0), some (.int x1)] [] h Q := by
  refine wp_loc rfl rfl ?_
  refine wp_iconst (v := 0) rfl (by decide) ?_
  exact wp_callV (av := [.ref x0, .int 0]) rfl rfl rfl (by decide) rfl rfl rfl hm hc w
theorem b159_76 {n : Nat} {h : q_Hp} {Q : Option Value → q_Hp → Prop} {x0 : Nat} {x1 : Int32} (k0 : q_ok h x0 7) (w : q_wp n 159 88 [some (.ref x0), some (.int x1)] [] (q_sI h x0 4 2) Q) : q_wp n 159 76 [some (.ref x0), some (.int x1)] [] h Q := by
  refine wp_loc rfl rfl ?_
  refine wp_iconst (v := 2) rfl (by decide) ?_
  refine wp_putI rfl rfl (Or.inl rfl) rfl (fun h9 => by cases h9) k0 ?_
  refine wp_goto (tgt := 88) rfl (by decide) ?_
  exact w
theorem b159_84 {n : Nat} {h : q_Hp} {Q : Option Value → q_Hp → Prop} {x0 : Nat} {x1 : Int32} {m : Nat} {P : q_Hp → Prop} (hc : q_mV m 156 [.ref x0] h P) (hm : m ≤ n) (w : ∀ h1 : q_Hp, P h1 → q_wp (n + 1) 159 88 [some (.ref x0), some (.int x1)] [] h1 Q) : q_wp (n + 1) 159 84 [some (.ref x0), some (.int x1)] [] h Q := by
  refine wp_loc rfl rfl ?_
  exact wp_callV (av := [.ref x0]) rfl rfl rfl (by decide) rfl rfl rfl hm hc w
theorem b159_88 {n : Nat} {h : q_Hp} {Q : Option Value → q_Hp → Prop} {x0 : Nat} {x1 : Int32} (w : q_wp n 159 2 [some (.ref x0), some (.int (x1 + 1))] [] h Q) : q_wp n 159 88 [some (.ref x0), some (.int x1)] [] h Q := by
  refine wp_iinc (v := 1) rfl rfl (by decide) rfl ?_
  refine wp_goto (tgt := 2) rfl (by decide) ?_
  exact w
theorem b159_94 {n : Nat} {h : q_Hp} {Q : Option Value → q_Hp → Prop} {x0 : Nat} {x1 : Int32} (q : Q none h) : q_wp n 159 94 [some (.ref x0), some (.int x1)] [] h Q := by
  exact wp_ret rfl rfl q
