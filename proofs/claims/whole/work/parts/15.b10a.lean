theorem b202_0 {n : Nat} {h : q_Hp} {Q : Option Value → q_Hp → Prop} {x0 : Nat} {v0 : Nat} (k0 : q_ok h x0 10) (e0 : qR h x0 0 = v0) {m : Nat} {P : Int32 → q_Hp → Prop} (hc : q_mI m 72 [.ref v0] h P) (hm : m ≤ n) (w : ∀ (z : Int32) (h1 : q_Hp), P z h1 → q_wp (n + 1) 202 8 [some (.ref x0)] [.int z, .ref x0] h1 Q) : q_wp (n + 1) 202 0 [some (.ref x0)] [] h Q := by
  refine wp_loc rfl rfl ?_
  refine wp_loc rfl rfl ?_
  refine wp_getR rfl rfl rfl rfl k0 e0 ?_
  exact wp_callI (av := [.ref v0]) rfl rfl rfl (by decide) rfl rfl rfl hm hc w
theorem b202_8 {n : Nat} {h : q_Hp} {Q : Option Value → q_Hp → Prop} {x0 : Nat} {s0 : Int32} {s1 : Nat} {v0 : Nat} (k0 : q_ok h s1 10) (k1 : q_ok h x0 10) (e0 : qR h x0 1 = v0) {m : Nat} {P : Int32 → q_Hp → Prop} (hc : q_mI m 72 [.ref v0] (q_sI h s1 6 s0) P) (hm : m ≤ n) (w : ∀ (z : Int32) (h1 : q_Hp), P z h1 → q_wp (n + 1) 202 22 [some (.ref x0)] [.int z, .int (qI (q_sI h s1 6 s0) x0 6)] h1 Q) : q_wp (n + 1) 202 8 [some (.ref x0)] [.int s0, .ref s1] h Q := by
  refine wp_putI rfl rfl (Or.inl rfl) rfl (fun h9 => by cases h9) k0 ?_
  refine wp_loc rfl rfl ?_
  refine wp_getI rfl rfl rfl k1 ?_
  refine wp_loc rfl rfl ?_
  refine wp_getR rfl rfl rfl rfl k1 e0 ?_
  exact wp_callI (av := [.ref v0]) rfl rfl rfl (by decide) rfl rfl rfl hm hc w
theorem b202_22 {n : Nat} {h : q_Hp} {Q : Option Value → q_Hp → Prop} {x0 : Nat} {s0 : Int32} {s1 : Int32} (wt : ¬ s1 = s0 → q_wp n 202 51 [some (.ref x0)] [] h Q) (wf : s1 = s0 → q_wp n 202 25 [some (.ref x0)] [] h Q) : q_wp n 202 22 [some (.ref x0)] [.int s0, .int s1] h Q := by
  exact wp_icne (tgt := 51) rfl (by decide) wt wf
theorem b202_25 {n : Nat} {h : q_Hp} {Q : Option Value → q_Hp → Prop} {x0 : Nat} (k0 : q_ok h x0 10) (wt : 7 < (qI h x0 6) → q_wp n 202 51 [some (.ref x0)] [] h Q) (wf : ¬ 7 < (qI h x0 6) → q_wp n 202 34 [some (.ref x0)] [] h Q) : q_wp n 202 25 [some (.ref x0)] [] h Q := by
  refine wp_loc rfl rfl ?_
  refine wp_getI rfl rfl rfl k0 ?_
  refine wp_bipush (v := 7) rfl (by decide) ?_
  exact wp_icgt (tgt := 51) rfl (by decide) wt wf
theorem b202_34 {n : Nat} {h : q_Hp} {Q : Option Value → q_Hp → Prop} {x0 : Nat} {v0 : Nat} (k0 : q_ok h x0 10) (e0 : qR h x0 0 = v0) {m : Nat} {P : Int32 → q_Hp → Prop} (hc : q_mI m 73 [.ref v0] h P) (hm : m ≤ n) (w : ∀ (z : Int32) (h1 : q_Hp), P z h1 → q_wp (n + 1) 202 41 [some (.ref x0)] [.int z] h1 Q) : q_wp (n + 1) 202 34 [some (.ref x0)] [] h Q := by
  refine wp_loc rfl rfl ?_
  refine wp_getR rfl rfl rfl rfl k0 e0 ?_
  exact wp_callI (av := [.ref v0]) rfl rfl rfl (by decide) rfl rfl rfl hm hc w
theorem b202_41 {n : Nat} {h : q_Hp} {Q : Option Value → q_Hp → Prop} {x0 : Nat} {s0 : Int32} {v0 : Nat} (k0 : q_ok h x0 10) (e0 : qR h x0 1 = v0) {m : Nat} {P : Int32 → q_Hp → Prop} (hc : q_mI m 73 [.ref v0] h P) (hm : m ≤ n) (w : ∀ (z : Int32) (h1 : q_Hp), P z h1 → q_wp (n + 1) 202 48 [some (.ref x0)] [.int z, .int s0] h1 Q) : q_wp (n + 1) 202 41 [some (.ref x0)] [.int s0] h Q := by
  refine wp_loc rfl rfl ?_
  refine wp_getR rfl rfl rfl rfl k0 e0 ?_
  exact wp_callI (av := [.ref v0]) rfl rfl rfl (by decide) rfl rfl rfl hm hc w
theorem b202_48 {n : Nat} {h : q_Hp} {Q : Option Value → q_Hp → Prop} {x0 : Nat} {s0 : Int32} {s1 : Int32} (wt : s1 = s0 → q_wp n 202 53 [some (.ref x0)] [] h Q) (wf : ¬ s1 = s0 → q_wp n 202 51 [some (.ref x0)] [] h Q) : q_wp n 202 48 [some (.ref x0)] [.int s0, .int s1] h Q := by
  exact wp_iceq (tgt := 53) rfl (by decide) wt wf
theorem b202_51 {n : Nat} {h : q_Hp} {Q : Option Value → q_Hp → Prop} {x0 : Nat} (q : Q (some (.int 0)) h) : q_wp n 202 51 [some (.ref x0)] [] h Q := by
  refine wp_iconst (v := 0) rfl (by decide) ?_
  exact wp_ret (r := some (.int 0)) rfl rfl q
theorem b202_53 {n : Nat} {h : q_Hp} {Q : Option Value → q_Hp → Prop} {x0 : Nat} {v0 : Nat} {v1 : Nat} (k0 : q_ok h x0 10) (e0 : qR h x0 0 = v0) (e1 : qR h x0 2 = v1) {m : Nat} {P : q_Hp → Prop} (hc : q_mV m 203 [.ref v0, .ref v1] h P) (hm : m ≤ n) (w : ∀ h1 : q_Hp, P h1 → q_wp (n + 1) 202 64 [some (.ref x0)] [] h1 Q) : q_wp (n + 1) 202 53 [some (.ref x0)] [] h Q := by
  refine wp_loc rfl rfl ?_
  refine wp_getR rfl rfl rfl rfl k0 e0 ?_
  refine wp_loc rfl rfl ?_
  refine wp_getR rfl rfl rfl rfl k0 e1 ?_
  exact wp_callV (av := [.ref v0, .ref v1]) rfl rfl rfl (by decide) rfl rfl rfl hm hc w
theorem b202_64 {n : Nat} {h : q_Hp} {Q : Option Value → q_Hp → Prop} {x0 : Nat} {v0 : Nat} {v1 : Nat} (k0 : q_ok h x0 10) (e0 : qR h x0 1 = v0) (e1 : qR h x0 3 = v1) {m : Nat} {P : q_Hp → Prop} (hc : q_mV m 203 [.ref v0, .ref v1] h P) (hm : m ≤ n) (w : ∀ h1 : q_Hp, P h1 → q_wp (n + 1) 202 75 [some (.ref x0)] [] h1 Q) : q_wp (n + 1) 202 64 [some (.ref x0)] [] h Q := by
  refine wp_loc rfl rfl ?_
  refine wp_getR rfl rfl rfl rfl k0 e0 ?_
  refine wp_loc rfl rfl ?_
  refine wp_getR rfl rfl rfl rfl k0 e1 ?_
  exact wp_callV (av := [.ref v0, .ref v1]) rfl rfl rfl (by decide) rfl rfl rfl hm hc w
theorem b202_75 {n : Nat} {h : q_Hp} {Q : Option Value → q_Hp → Prop} {x0 : Nat} {v0 : Nat} {v1 : Nat} {v2 : Nat} (k0 : q_ok h x0 10) (e0 : qR h x0 0 = v0) (e1 : qR h x0 2 = v1) (e2 : qR h x0 4 = v2) {m : Nat} {P : q_Hp → Prop} (hc : q_mV m 204 [.ref x0, .ref v0, .ref v1, .ref v2] h P) (hm : m ≤ n) (w : ∀ h1 : q_Hp, P h1 → q_wp (n + 1) 202 91 [some (.ref x0)] [] h1 Q) : q_wp (n + 1) 202 75 [some (.ref x0)] [] h Q := by
  refine wp_loc rfl rfl ?_
  refine wp_loc rfl rfl ?_
  refine wp_getR rfl rfl rfl rfl k0 e0 ?_
  refine wp_loc rfl rfl ?_
  refine wp_getR rfl rfl rfl rfl k0 e1 ?_
  refine wp_loc rfl rfl ?_
  refine wp_getR rfl rfl rfl rfl k0 e2 ?_
  exact wp_callV (av := [.ref x0, .ref v0, .ref v1, .ref v2]) rfl rfl rfl (by decide) rfl rfl rfl hm hc w
theorem b202_91 {n : Nat} {h : q_Hp} {Q : Option Value → q_Hp → Prop} {x0 : Nat} {v0 : Nat} {v1 : Nat} {v2 : Nat} (k0 : q_ok h x0 10) (e0 : qR h x0 1 = v0) (e1 : qR h x0 3 = v1) (e2 : qR h x0 5 = v2) {m : Nat} {P : q_Hp → Prop} (hc : q_mV m 204 [.ref x0, .ref v0, .ref v1, .ref v2] h P) (hm : m ≤ n) (w : ∀ h1 : q_Hp, P h1 → q_wp (n + 1) 202 107 [some (.ref x0)] [] h1 Q) : q_wp (n + 1) 202 91 [some (.ref x0)] [] h Q := by
  refine wp_loc rfl rfl ?_
  refine wp_loc rfl rfl ?_
  refine wp_getR rfl rfl rfl rfl k0 e0 ?_
  refine wp_loc rfl rfl ?_
  refine wp_getR rfl rfl rfl rfl k0 e1 ?_
  refine wp_loc rfl rfl ?_
  refine wp_getR rfl rfl rfl rfl k0 e2 ?_
  exact wp_callV (av := [.ref x0, .ref v0, .ref v1, .ref v2]) rfl rfl rfl (by decide) rfl rfl rfl hm hc w
theorem b202_107 {n : Nat} {h : q_Hp} {Q : Option Value → q_Hp → Prop} {x0 : Nat} (k0 : q_ok h x0 10) {m : Nat} {P : Int32 → q_Hp → Prop} (hc : q_mI m 207 [.ref x0, .int 0] (q_sI h x0 8 0) P) (hm : m ≤ n) (w : ∀ (z : Int32) (h1 : q_Hp), P z h1 → q_wp (n + 1) 202 117 [some (.ref x0)] [.int z] h1 Q) : q_wp (n + 1) 202 107 [some (.ref x0)] [] h Q := by
  refine wp_loc rfl rfl ?_
  refine wp_iconst (v := 0) rfl (by decide) ?_
  refine wp_putI rfl rfl (Or.inl rfl) rfl (fun h9 => by cases h9) k0 ?_
  refine wp_loc rfl rfl ?_
  refine wp_iconst (v := 0) rfl (by decide) ?_
  exact wp_callI (av := [.ref x0, .int 0]) rfl rfl rfl (by decide) rfl rfl rfl hm hc w
theorem b202_117 {n : Nat} {h : q_Hp} {Q : Option Value → q_Hp → Prop} {x0 : Nat} {s0 : Int32} (zr : s0 = 0 ∨ s0 = 1) (q : Q (some (.int s0)) h) : q_wp n 202 117 [some (.ref x0)] [.int s0] h Q := by
  exact wp_ret rfl (if_pos zr) q
theorem b203_0 {n : Nat} {h : q_Hp} {Q : Option Value → q_Hp → Prop} {x0 : Nat} {x1 : Nat} (w : q_wp n 203 4 [some (.ref x0), some (.ref x1), some (.int 0), some (.int 0)] [] h Q) : q_wp n 203 0 [some (.ref x0), some (.ref x1), none, none] [] h Q := by
  refine wp_iconst (v := 0) rfl (by decide) ?_
  refine wp_loc rfl rfl ?_
  refine wp_iconst (v := 0) rfl (by decide) ?_
  refine wp_loc rfl rfl ?_
  exact w
theorem b203_4 {n : Nat} {h : q_Hp} {Q : Option Value → q_Hp → Prop} {x0 : Nat} {x1 : Nat} {x2 : Int32} {x3 : Int32} (wt : 12 ≤ x3 → q_wp n 203 33 [some (.ref x0), some (.ref x1), some (.int x2), some (.int x3)] [] h Q) (wf : ¬ 12 ≤ x3 → q_wp n 203 10 [some (.ref x0), some (.ref x1), some (.int x2), some (.int x3)] [] h Q) : q_wp n 203 4 [some (.ref x0), some (.ref x1), some (.int x2), some (.int x3)] [] h Q := by
  refine wp_loc rfl rfl ?_
  refine wp_bipush (v := 12) rfl (by decide) ?_
  exact wp_icge (tgt := 33) rfl (by decide) wt wf
theorem b203_10 {n : Nat} {h : q_Hp} {Q : Option Value → q_Hp → Prop} {x0 : Nat} {x1 : Nat} {x2 : Int32} {x3 : Int32} {m : Nat} {P : Int32 → q_Hp → Prop} (hc : q_mI m 65 [.ref x0, .int x3] h P) (hm : m ≤ n) (w : ∀ (z : Int32) (h1 : q_Hp), P z h1 → q_wp (n + 1) 203 15 [some (.ref x0), some (.ref x1), some (.int x2), some (.int x3)] [.int z] h1 Q) : q_wp (n + 1) 203 10 [some (.ref x0), some (.ref x1), some (.int x2), some (.int x3)] [] h Q := by
  refine wp_loc rfl rfl ?_
  refine wp_loc rfl rfl ?_
  exact wp_callI (av := [.ref x0, .int x3]) rfl rfl rfl (by decide) rfl rfl rfl hm hc w
theorem b203_15 {n : Nat} {h : q_Hp} {Q : Option Value → q_Hp → Prop} {x0 : Nat} {x1 : Nat} {x2 : Int32} {x3 : Int32} {s0 : Int32} (wt : s0 = 0 → q_wp n 203 27 [some (.ref x0), some (.ref x1), some (.int x2), some (.int x3)] [] h Q) (wf : ¬ s0 = 0 → q_wp n 203 18 [some (.ref x0), some (.ref x1), some (.int x2), some (.int x3)] [] h Q) : q_wp n 203 15 [some (.ref x0), some (.ref x1), some (.int x2), some (.int x3)] [.int s0] h Q := by
  exact wp_ifeq (tgt := 27) rfl (by decide) wt wf
theorem b203_18 {n : Nat} {h : q_Hp} {Q : Option Value → q_Hp → Prop} {x0 : Nat} {x1 : Nat} {x2 : Int32} {x3 : Int32} {m : Nat} {P : q_Hp → Prop} (hc : q_mV m 233 [.ref x1, .int x2, .int x3] h P) (hm : m ≤ n) (w : ∀ h1 : q_Hp, P h1 → q_wp (n + 1) 203 24 [some (.ref x0), some (.ref x1), some (.int x2), some (.int x3)] [] h1 Q) : q_wp (n + 1) 203 18 [some (.ref x0), some (.ref x1), some (.int x2), some (.int x3)] [] h Q := by
  refine wp_loc rfl rfl ?_
  refine wp_loc rfl rfl ?_
  refine wp_loc rfl rfl ?_
  exact wp_callV (av := [.ref x1, .int x2, .int x3]) rfl rfl rfl (by decide) rfl rfl rfl hm hc w
theorem b203_24 {n : Nat} {h : q_Hp} {Q : Option Value → q_Hp → Prop} {x0 : Nat} {x1 : Nat} {x2 : Int32} {x3 : Int32} (w : q_wp n 203 27 [some (.ref x0), some (.ref x1), some (.int (x2 + 1)), some (.int x3)] [] h Q) : q_wp n 203 24 [some (.ref x0), some (.ref x1), some (.int x2), some (.int x3)] [] h Q := by
  refine wp_iinc (v := 1) rfl rfl (by decide) rfl ?_
  exact w
theorem b203_27 {n : Nat} {h : q_Hp} {Q : Option Value → q_Hp → Prop} {x0 : Nat} {x1 : Nat} {x2 : Int32} {x3 : Int32} (w : q_wp n 203 4 [some (.ref x0), some (.ref x1), some (.int x2), some (.int (x3 + 1))] [] h Q) : q_wp n 203 27 [some (.ref x0), some (.ref x1), some (.int x2), some (.int x3)] [] h Q := by
  refine wp_iinc (v := 1) rfl rfl (by decide) rfl ?_
  refine wp_goto (tgt := 4) rfl (by decide) ?_
  exact w
theorem b203_33 {n : Nat} {h : q_Hp} {Q : Option Value → q_Hp → Prop} {x0 : Nat} {x1 : Nat} {x2 : Int32} {x3 : Int32} (q : Q none h) : q_wp n 203 33 [some (.ref x0), some (.ref x1), some (.int x2), some (.int x3)] [] h Q := by
  exact wp_ret rfl rfl q
theorem b204_0 {n : Nat} {h : q_Hp} {Q : Option Value → q_Hp → Prop} {x0 : Nat} {x1 : Nat} {x2 : Nat} {x3 : Nat} {m : Nat} {P : q_Hp → Prop} (hc : q_mV m 351 [.ref x3, .long 0] h P) (hm : m ≤ n) (w : ∀ h1 : q_Hp, P h1 → q_wp (n + 1) 204 5 [some (.ref x0), some (.ref x1), some (.ref x2), some (.ref x3), none, none, none, none] [] h1 Q) : q_wp (n + 1) 204 0 [some (.ref x0), some (.ref x1), some (.ref x2), some (.ref x3), none, none, none, none] [] h Q := by
  refine wp_loc rfl rfl ?_
  refine wp_lconst (v := 0) rfl (by decide) ?_
  exact wp_callV (av := [.ref x3, .long 0]) rfl rfl rfl (by decide) rfl rfl rfl hm hc w
theorem b204_5 {n : Nat} {h : q_Hp} {Q : Option Value → q_Hp → Prop} {x0 : Nat} {x1 : Nat} {x2 : Nat} {x3 : Nat} (w : q_wp n 204 8 [some (.ref x0), some (.ref x1), some (.ref x2), some (.ref x3), some (.int 0), none, none, none] [] h Q) : q_wp n 204 5 [some (.ref x0), some (.ref x1), some (.ref x2), some (.ref x3), none, none, none, none] [] h Q := by
  refine wp_iconst (v := 0) rfl (by decide) ?_
  refine wp_loc rfl rfl ?_
  exact w
theorem b204_8 {n : Nat} {h : q_Hp} {Q : Option Value → q_Hp → Prop} {x0 : Nat} {x1 : Nat} {x2 : Nat} {x3 : Nat} {x4 : Int32} {l5 : Option Value} {l6 : Option Value} {l7 : Option Value} (wt : 40 ≤ x4 → q_wp n 204 110 [some (.ref x0), some (.ref x1), some (.ref x2), some (.ref x3), some (.int x4), l5, l6, l7] [] h Q) (wf : ¬ 40 ≤ x4 → q_wp n 204 15 [some (.ref x0), some (.ref x1), some (.ref x2), some (.ref x3), some (.int x4), l5, l6, l7] [] h Q) : q_wp n 204 8 [some (.ref x0), some (.ref x1), some (.ref x2), some (.ref x3), some (.int x4), l5, l6, l7] [] h Q := by
  refine wp_loc rfl rfl ?_
  refine wp_bipush (v := 40) rfl (by decide) ?_
  exact wp_icge (tgt := 110) rfl (by decide) wt wf
theorem b204_15 {n : Nat} {h : q_Hp} {Q : Option Value → q_Hp → Prop} {x0 : Nat} {x1 : Nat} {x2 : Nat} {x3 : Nat} {x4 : Int32} {l5 : Option Value} {l6 : Option Value} {l7 : Option Value} {m : Nat} {P : Int32 → q_Hp → Prop} (hc : q_mI m 68 [.ref x1, .int x4] h P) (hm : m ≤ n) (w : ∀ (z : Int32) (h1 : q_Hp), P z h1 → q_wp (n + 1) 204 21 [some (.ref x0), some (.ref x1), some (.ref x2), some (.ref x3), some (.int x4), l5, l6, l7] [.int z] h1 Q) : q_wp (n + 1) 204 15 [some (.ref x0), some (.ref x1), some (.ref x2), some (.ref x3), some (.int x4), l5, l6, l7] [] h Q := by
  refine wp_loc rfl rfl ?_
  refine wp_loc rfl rfl ?_
  exact wp_callI (av := [.ref x1, .int x4]) rfl rfl rfl (by decide) rfl rfl rfl hm hc w
theorem b204_21 {n : Nat} {h : q_Hp} {Q : Option Value → q_Hp → Prop} {x0 : Nat} {x1 : Nat} {x2 : Nat} {x3 : Nat} {x4 : Int32} {l5 : Option Value} {l6 : Option Value} {l7 : Option Value} {s0 : Int32} {m : Nat} {P : Int32 → q_Hp → Prop} (hc : q_mI m 69 [.ref x1, .int x4] h P) (hm : m ≤ n) (w : ∀ (z : Int32) (h1 : q_Hp), P z h1 → q_wp (n + 1) 204 31 [some (.ref x0), some (.ref x1), some (.ref x2), some (.ref x3), some (.int x4), some (.int s0), l6, l7] [.int z, .ref x2, .ref x0] h1 Q) : q_wp (n + 1) 204 21 [some (.ref x0), some (.ref x1), some (.ref x2), some (.ref x3), some (.int x4), l5, l6, l7] [.int s0] h Q := by
  refine wp_loc rfl rfl ?_
  refine wp_loc rfl rfl ?_
  refine wp_loc rfl rfl ?_
  refine wp_loc rfl rfl ?_
  refine wp_loc rfl rfl ?_
  exact wp_callI (av := [.ref x1, .int x4]) rfl rfl rfl (by decide) rfl rfl rfl hm hc w
theorem b204_31 {n : Nat} {h : q_Hp} {Q : Option Value → q_Hp → Prop} {x0 : Nat} {x1 : Nat} {x2 : Nat} {x3 : Nat} {x4 : Int32} {x5 : Int32} {l6 : Option Value} {l7 : Option Value} {s0 : Int32} {s1 : Nat} {s2 : Nat} {m : Nat} {P : Int32 → q_Hp → Prop} (hc : q_mI m 205 [.ref s2, .ref s1, .int s0] h P) (hm : m ≤ n) (w : ∀ (z : Int32) (h1 : q_Hp), P z h1 → q_wp (n + 1) 204 34 [some (.ref x0), some (.ref x1), some (.ref x2), some (.ref x3), some (.int x4), some (.int x5), l6, l7] [.int z] h1 Q) : q_wp (n + 1) 204 31 [some (.ref x0), some (.ref x1), some (.ref x2), some (.ref x3), some (.int x4), some (.int x5), l6, l7] [.int s0, .ref s1, .ref s2] h Q := by
  exact wp_callI (av := [.ref s2, .ref s1, .int s0]) rfl rfl rfl (by decide) rfl rfl rfl hm hc w
theorem b204_34 {n : Nat} {h : q_Hp} {Q : Option Value → q_Hp → Prop} {x0 : Nat} {x1 : Nat} {x2 : Nat} {x3 : Nat} {x4 : Int32} {x5 : Int32} {l6 : Option Value} {l7 : Option Value} {s0 : Int32} {m : Nat} {P : Int32 → q_Hp → Prop} (hc : q_mI m 70 [.ref x1, .int x4] h P) (hm : m ≤ n) (w : ∀ (z : Int32) (h1 : q_Hp), P z h1 → q_wp (n + 1) 204 42 [some (.ref x0), some (.ref x1), some (.ref x2), some (.ref x3), some (.int x4), some (.int x5), l6, l7] [.int z, .ref x2, .ref x0, .int s0] h1 Q) : q_wp (n + 1) 204 34 [some (.ref x0), some (.ref x1), some (.ref x2), some (.ref x3), some (.int x4), some (.int x5), l6, l7] [.int s0] h Q := by
  refine wp_loc rfl rfl ?_
  refine wp_loc rfl rfl ?_
  refine wp_loc rfl rfl ?_
  refine wp_loc rfl rfl ?_
  exact wp_callI (av := [.ref x1, .int x4]) rfl rfl rfl (by decide) rfl rfl rfl hm hc w
theorem b204_42 {n : Nat} {h : q_Hp} {Q : Option Value → q_Hp → Prop} {x0 : Nat} {x1 : Nat} {x2 : Nat} {x3 : Nat} {x4 : Int32} {x5 : Int32} {l6 : Option Value} {l7 : Option Value} {s0 : Int32} {s1 : Nat} {s2 : Nat} {s3 : Int32} {m : Nat} {P : Int32 → q_Hp → Prop} (hc : q_mI m 205 [.ref s2, .ref s1, .int s0] h P) (hm : m ≤ n) (w : ∀ (z : Int32) (h1 : q_Hp), P z h1 → q_wp (n + 1) 204 45 [some (.ref x0), some (.ref x1), some (.ref x2), some (.ref x3), some (.int x4), some (.int x5), l6, l7] [.int z, .int s3] h1 Q) : q_wp (n + 1) 204 42 [some (.ref x0), some (.ref x1), some (.ref x2), some (.ref x3), some (.int x4), some (.int x5), l6, l7] [.int s0, .ref s1, .ref s2, .int s3] h Q := by
  exact wp_callI (av := [.ref s2, .ref s1, .int s0]) rfl rfl rfl (by decide) rfl rfl rfl hm hc w
theorem b204_45 {n : Nat} {h : q_Hp} {Q : Option Value → q_Hp → Prop} {x0 : Nat} {x1 : Nat} {x2 : Nat} {x3 : Nat} {x4 : Int32} {x5 : Int32} {l6 : Option Value} {l7 : Option Value} {s0 : Int32} {s1 : Int32} {m : Nat} {P : Int32 → q_Hp → Prop} (hc : q_mI m 206 [.int s1, .int s0] h P) (hm : m ≤ n) (w : ∀ (z : Int32) (h1 : q_Hp), P z h1 → q_wp (n + 1) 204 48 [some (.ref x0), some (.ref x1), some (.ref x2), some (.ref x3), some (.int x4), some (.int x5), l6, l7] [.int z] h1 Q) : q_wp (n + 1) 204 45 [some (.ref x0), some (.ref x1), some (.ref x2), some (.ref x3), some (.int x4), some (.int x5), l6, l7] [.int s0, .int s1] h Q := by
  exact wp_callI (av := [.int s1, .int s0]) rfl rfl rfl (by decide) rfl rfl rfl hm hc w
theorem b204_48 {n : Nat} {h : q_Hp} {Q : Option Value → q_Hp → Prop} {x0 : Nat} {x1 : Nat} {x2 : Nat} {x3 : Nat} {x4 : Int32} {x5 : Int32} {l6 : Option Value} {l7 : Option Value} {s0 : Int32} (wt : 6 ≤ x5 → q_wp n 204 62 [some (.ref x0), some (.ref x1), some (.ref x2), some (.ref x3), some (.int x4), some (.int x5), some (.int s0), l7] [] h Q) (wf : ¬ 6 ≤ x5 → q_wp n 204 57 [some (.ref x0), some (.ref x1), some (.ref x2), some (.ref x3), some (.int x4), some (.int x5), some (.int s0), l7] [] h Q) : q_wp n 204 48 [some (.ref x0), some (.ref x1), some (.ref x2), some (.ref x3), some (.int x4), some (.int x5), l6, l7] [.int s0] h Q := by
  refine wp_loc rfl rfl ?_
  refine wp_loc rfl rfl ?_
  refine wp_bipush (v := 6) rfl (by decide) ?_
  exact wp_icge (tgt := 62) rfl (by decide) wt wf
theorem b204_57 {n : Nat} {h : q_Hp} {Q : Option Value → q_Hp → Prop} {x0 : Nat} {x1 : Nat} {x2 : Nat} {x3 : Nat} {x4 : Int32} {x5 : Int32} {x6 : Int32} {l7 : Option Value} (w : q_wp n 204 67 [some (.ref x0), some (.ref x1), some (.ref x2), some (.ref x3), some (.int x4), some (.int x5), some (.int x6), l7] [.int x6] h Q) : q_wp n 204 57 [some (.ref x0), some (.ref x1), some (.ref x2), some (.ref x3), some (.int x4), some (.int x5), some (.int x6), l7] [] h Q := by
  refine wp_loc rfl rfl ?_
  refine wp_goto (tgt := 67) rfl (by decide) ?_
  exact w
theorem b204_62 {n : Nat} {h : q_Hp} {Q : Option Value → q_Hp → Prop} {x0 : Nat} {x1 : Nat} {x2 : Nat} {x3 : Nat} {x4 : Int32} {x5 : Int32} {x6 : Int32} {l7 : Option Value} (w : q_wp n 204 67 [some (.ref x0), some (.ref x1), some (.ref x2), some (.ref x3), some (.int x4), some (.int x5), some (.int x6), l7] [.int (x6 + 49)] h Q) : q_wp n 204 62 [some (.ref x0), some (.ref x1), some (.ref x2), some (.ref x3), some (.int x4), some (.int x5), some (.int x6), l7] [] h Q := by
  refine wp_loc rfl rfl ?_
  refine wp_bipush (v := 49) rfl (by decide) ?_
  refine wp_stk rfl rfl rfl ?_
  exact w
theorem b204_67 {n : Nat} {h : q_Hp} {Q : Option Value → q_Hp → Prop} {x0 : Nat} {x1 : Nat} {x2 : Nat} {x3 : Nat} {x4 : Int32} {x5 : Int32} {x6 : Int32} {l7 : Option Value} {s0 : Int32} (wt : x5 = (-1) → q_wp n 204 104 [some (.ref x0), some (.ref x1), some (.ref x2), some (.ref x3), some (.int x4), some (.int x5), some (.int x6), some (.int s0)] [] h Q) (wf : ¬ x5 = (-1) → q_wp n 204 75 [some (.ref x0), some (.ref x1), some (.ref x2), some (.ref x3), some (.int x4), some (.int x5), some (.int x6), some (.int s0)] [] h Q) : q_wp n 204 67 [some (.ref x0), some (.ref x1), some (.ref x2), some (.ref x3), some (.int x4), some (.int x5), some (.int x6), l7] [.int s0] h Q := by
  refine wp_loc rfl rfl ?_
  refine wp_loc rfl rfl ?_
  refine wp_iconst (v := (-1)) rfl (by decide) ?_
  exact wp_iceq (tgt := 104) rfl (by decide) wt wf
theorem b204_75 {n : Nat} {h : q_Hp} {Q : Option Value → q_Hp → Prop} {x0 : Nat} {x1 : Nat} {x2 : Nat} {x3 : Nat} {x4 : Int32} {x5 : Int32} {x6 : Int32} {x7 : Int32} (wt : x7 < 0 → q_wp n 204 104 [some (.ref x0), some (.ref x1), some (.ref x2), some (.ref x3), some (.int x4), some (.int x5), some (.int x6), some (.int x7)] [] h Q) (wf : ¬ x7 < 0 → q_wp n 204 80 [some (.ref x0), some (.ref x1), some (.ref x2), some (.ref x3), some (.int x4), some (.int x5), some (.int x6), some (.int x7)] [] h Q) : q_wp n 204 75 [some (.ref x0), some (.ref x1), some (.ref x2), some (.ref x3), some (.int x4), some (.int x5), some (.int x6), some (.int x7)] [] h Q := by
  refine wp_loc rfl rfl ?_
  exact wp_iflt (tgt := 104) rfl (by decide) wt wf
theorem b204_80 {n : Nat} {h : q_Hp} {Q : Option Value → q_Hp → Prop} {x0 : Nat} {x1 : Nat} {x2 : Nat} {x3 : Nat} {x4 : Int32} {x5 : Int32} {x6 : Int32} {x7 : Int32} {cd0 : Nat} (a0 : q_ok h x3 cd0) (a0c : 20 ≤ cd0 ∧ cd0 ≤ 24) (wt : (Int32.ofNat (qK h x3).2) ≤ x7 → q_wp n 204 104 [some (.ref x0), some (.ref x1), some (.ref x2), some (.ref x3), some (.int x4), some (.int x5), some (.int x6), some (.int x7)] [] h Q) (wf : ¬ (Int32.ofNat (qK h x3).2) ≤ x7 → q_wp n 204 87 [some (.ref x0), some (.ref x1), some (.ref x2), some (.ref x3), some (.int x4), some (.int x5), some (.int x6), some (.int x7)] [] h Q) : q_wp n 204 80 [some (.ref x0), some (.ref x1), some (.ref x2), some (.ref x3), some (.int x4), some (.int x5), some (.int x6), some (.int x7)] [] h Q := by
  refine wp_loc rfl rfl ?_
  refine wp_loc rfl rfl ?_
  refine wp_alen rfl a0 a0c ?_
  exact wp_icge (tgt := 104) rfl (by decide) wt wf
theorem b204_87 {n : Nat} {h : q_Hp} {Q : Option Value → q_Hp → Prop} {x0 : Nat} {x1 : Nat} {x2 : Nat} {x3 : Nat} {x4 : Int32} {x5 : Int32} {x6 : Int32} {x7 : Int32} (k0 : q_ok h x3 21) (i0 : q_in x7 (qK h x3).2) (nz2 : ¬ (6 : Int32) = 0) (w : q_wp n 204 104 [some (.ref x0), some (.ref x1), some (.ref x2), some (.ref x3), some (.int x4), some (.int x5), some (.int x6), some (.int x7)] [] (q_sL h x3 x7.toNatClampNeg ((qL h x3 x7.toNatClampNeg) + (1 <<< ((6 * (x5 - x5 / 6 * 6) : Int32).toInt64 &&& 63)))) Q) : q_wp n 204 87 [some (.ref x0), some (.ref x1), some (.ref x2), some (.ref x3), some (.int x4), some (.int x5), some (.int x6), some (.int x7)] [] h Q := by
  refine wp_loc rfl rfl ?_
  refine wp_loc rfl rfl ?_
  refine wp_stk rfl rfl rfl ?_
  refine wp_lald rfl k0 i0 ?_
  refine wp_lconst (v := 1) rfl (by decide) ?_
  refine wp_bipush (v := 6) rfl (by decide) ?_
  refine wp_loc rfl rfl ?_
  refine wp_bipush (v := 6) rfl (by decide) ?_
  refine wp_irem rfl nz2 ?_
  refine wp_stk rfl rfl rfl ?_
  refine wp_stk rfl rfl rfl ?_
  refine wp_stk rfl rfl rfl ?_
  refine wp_last rfl k0 i0 ?_
  exact w
theorem b204_104 {n : Nat} {h : q_Hp} {Q : Option Value → q_Hp → Prop} {x0 : Nat} {x1 : Nat} {x2 : Nat} {x3 : Nat} {x4 : Int32} {x5 : Int32} {x6 : Int32} {x7 : Int32} (w : q_wp n 204 8 [some (.ref x0), some (.ref x1), some (.ref x2), some (.ref x3), some (.int (x4 + 1)), some (.int x5), some (.int x6), some (.int x7)] [] h Q) : q_wp n 204 104 [some (.ref x0), some (.ref x1), some (.ref x2), some (.ref x3), some (.int x4), some (.int x5), some (.int x6), some (.int x7)] [] h Q := by
  refine wp_iinc (v := 1) rfl rfl (by decide) rfl ?_
  refine wp_goto (tgt := 8) rfl (by decide) ?_
  exact w
theorem b204_110 {n : Nat} {h : q_Hp} {Q : Option Value → q_Hp → Prop} {x0 : Nat} {x1 : Nat} {x2 : Nat} {x3 : Nat} {x4 : Int32} {l5 : Option Value} {l6 : Option Value} {l7 : Option Value} (q : Q none h) : q_wp n 204 110 [some (.ref x0), some (.ref x1), some (.ref x2), some (.ref x3), some (.int x4), l5, l6, l7] [] h Q := by
  exact wp_ret rfl rfl q
theorem b205_0 {n : Nat} {h : q_Hp} {Q : Option Value → q_Hp → Prop} {x0 : Nat} {x1 : Nat} {x2 : Int32} (w : q_wp n 205 2 [some (.ref x0), some (.ref x1), some (.int x2), some (.int 0)] [] h Q) : q_wp n 205 0 [some (.ref x0), some (.ref x1), some (.int x2), none] [] h Q := by
  refine wp_iconst (v := 0) rfl (by decide) ?_
  refine wp_loc rfl rfl ?_
  exact w
theorem b205_2 {n : Nat} {h : q_Hp} {Q : Option Value → q_Hp → Prop} {x0 : Nat} {x1 : Nat} {x2 : Int32} {x3 : Int32} (k0 : q_ok h x0 10) (wt : (qI h x0 6) ≤ x3 → q_wp n 205 31 [some (.ref x0), some (.ref x1), some (.int x2), some (.int x3)] [] h Q) (wf : ¬ (qI h x0 6) ≤ x3 → q_wp n 205 10 [some (.ref x0), some (.ref x1), some (.int x2), some (.int x3)] [] h Q) : q_wp n 205 2 [some (.ref x0), some (.ref x1), some (.int x2), some (.int x3)] [] h Q := by
  refine wp_loc rfl rfl ?_
  refine wp_loc rfl rfl ?_
  refine wp_getI rfl rfl rfl k0 ?_
  exact wp_icge (tgt := 31) rfl (by decide) wt wf
theorem b205_10 {n : Nat} {h : q_Hp} {Q : Option Value → q_Hp → Prop} {x0 : Nat} {x1 : Nat} {x2 : Int32} {x3 : Int32} {cd0 : Nat} (a0 : q_ok h x1 cd0) (a0c : 20 ≤ cd0 ∧ cd0 ≤ 24) (wt : (Int32.ofNat (qK h x1).2) ≤ x3 → q_wp n 205 31 [some (.ref x0), some (.ref x1), some (.int x2), some (.int x3)] [] h Q) (wf : ¬ (Int32.ofNat (qK h x1).2) ≤ x3 → q_wp n 205 16 [some (.ref x0), some (.ref x1), some (.int x2), some (.int x3)] [] h Q) : q_wp n 205 10 [some (.ref x0), some (.ref x1), some (.int x2), some (.int x3)] [] h Q := by
  refine wp_loc rfl rfl ?_
  refine wp_loc rfl rfl ?_
  refine wp_alen rfl a0 a0c ?_
  exact wp_icge (tgt := 31) rfl (by decide) wt wf
theorem b205_16 {n : Nat} {h : q_Hp} {Q : Option Value → q_Hp → Prop} {x0 : Nat} {x1 : Nat} {x2 : Int32} {x3 : Int32} (k0 : q_ok h x1 20) (i0 : q_in x3 (qK h x1).2) (wt : ¬ (qA h x1 x3.toNatClampNeg) = x2 → q_wp n 205 25 [some (.ref x0), some (.ref x1), some (.int x2), some (.int x3)] [] h Q) (wf : (qA h x1 x3.toNatClampNeg) = x2 → q_wp n 205 23 [some (.ref x0), some (.ref x1), some (.int x2), some (.int x3)] [] h Q) : q_wp n 205 16 [some (.ref x0), some (.ref x1), some (.int x2), some (.int x3)] [] h Q := by
  refine wp_loc rfl rfl ?_
  refine wp_loc rfl rfl ?_
  refine wp_iald rfl k0 i0 ?_
  refine wp_loc rfl rfl ?_
  exact wp_icne (tgt := 25) rfl (by decide) wt wf
theorem b205_23 {n : Nat} {h : q_Hp} {Q : Option Value → q_Hp → Prop} {x0 : Nat} {x1 : Nat} {x2 : Int32} {x3 : Int32} (q : Q (some (.int x3)) h) : q_wp n 205 23 [some (.ref x0), some (.ref x1), some (.int x2), some (.int x3)] [] h Q := by
  refine wp_loc rfl rfl ?_
  exact wp_ret rfl rfl q
theorem b205_25 {n : Nat} {h : q_Hp} {Q : Option Value → q_Hp → Prop} {x0 : Nat} {x1 : Nat} {x2 : Int32} {x3 : Int32} (w : q_wp n 205 2 [some (.ref x0), some (.ref x1), some (.int x2), some (.int (x3 + 1))] [] h Q) : q_wp n 205 25 [some (.ref x0), some (.ref x1), some (.int x2), some (.int x3)] [] h Q := by
  refine wp_iinc (v := 1) rfl rfl (by decide) rfl ?_
  refine wp_goto (tgt := 2) rfl (by decide) ?_
  exact w
theorem b205_31 {n : Nat} {h : q_Hp} {Q : Option Value → q_Hp → Prop} {x0 : Nat} {x1 : Nat} {x2 : Int32} {x3 : Int32} (q : Q (some (.int 0)) h) : q_wp n 205 31 [some (.ref x0), some (.ref x1), some (.int x2), some (.int x3)] [] h Q := by
  refine wp_iconst (v := 0) rfl (by decide) ?_
  exact wp_ret rfl rfl q
theorem b206_0 {n : Nat} {h : q_Hp} {Q : Option Value → q_Hp → Prop} {x0 : Int32} {x1 : Int32} (q : Q (some (.int ((x0 * 7) + x1))) h) : q_wp n 206 0 [some (.int x0), some (.int x1)] [] h Q := by
  refine wp_loc rfl rfl ?_
  refine wp_bipush (v := 7) rfl (by decide) ?_
  refine wp_stk rfl rfl rfl ?_
  refine wp_loc rfl rfl ?_
  refine wp_stk rfl rfl rfl ?_
  exact wp_ret rfl rfl q
theorem b207_0 {n : Nat} {h : q_Hp} {Q : Option Value → q_Hp → Prop} {x0 : Nat} {x1 : Int32} (k0 : q_ok h x0 10) (wt : (qI h x0 6) ≤ x1 → q_wp n 207 14 [some (.ref x0), some (.int x1), none] [] h Q) (wf : ¬ (qI h x0 6) ≤ x1 → q_wp n 207 8 [some (.ref x0), some (.int x1), none] [] h Q) : q_wp n 207 0 [some (.ref x0), some (.int x1), none] [] h Q := by
  refine wp_loc rfl rfl ?_
  refine wp_loc rfl rfl ?_
  refine wp_getI rfl rfl rfl k0 ?_
  exact wp_icge (tgt := 14) rfl (by decide) wt wf
theorem b207_8 {n : Nat} {h : q_Hp} {Q : Option Value → q_Hp → Prop} {x0 : Nat} {x1 : Int32} (wt : x1 < 7 → q_wp n 207 16 [some (.ref x0), some (.int x1), none] [] h Q) (wf : ¬ x1 < 7 → q_wp n 207 14 [some (.ref x0), some (.int x1), none] [] h Q) : q_wp n 207 8 [some (.ref x0), some (.int x1), none] [] h Q := by
  refine wp_loc rfl rfl ?_
  refine wp_bipush (v := 7) rfl (by decide) ?_
  exact wp_iclt (tgt := 16) rfl (by decide) wt wf
theorem b207_14 {n : Nat} {h : q_Hp} {Q : Option Value → q_Hp → Prop} {x0 : Nat} {x1 : Int32} (q : Q (some (.int 1)) h) : q_wp n 207 14 [some (.ref x0), some (.int x1), none] [] h Q := by
  refine wp_iconst (v := 1) rfl (by decide) ?_
  exact wp_ret (r := some (.int 1)) rfl rfl q
theorem b207_16 {n : Nat} {h : q_Hp} {Q : Option Value → q_Hp → Prop} {x0 : Nat} {x1 : Int32} (w : q_wp n 207 18 [some (.ref x0), some (.int x1), some (.int 0)] [] h Q) : q_wp n 207 16 [some (.ref x0), some (.int x1), none] [] h Q := by
  refine wp_iconst (v := 0) rfl (by decide) ?_
  refine wp_loc rfl rfl ?_
  exact w
theorem b207_18 {n : Nat} {h : q_Hp} {Q : Option Value → q_Hp → Prop} {x0 : Nat} {x1 : Int32} {x2 : Int32} (k0 : q_ok h x0 10) (wt : (qI h x0 6) ≤ x2 → q_wp n 207 97 [some (.ref x0), some (.int x1), some (.int x2)] [] h Q) (wf : ¬ (qI h x0 6) ≤ x2 → q_wp n 207 26 [some (.ref x0), some (.int x1), some (.int x2)] [] h Q) : q_wp n 207 18 [some (.ref x0), some (.int x1), some (.int x2)] [] h Q := by
  refine wp_loc rfl rfl ?_
  refine wp_loc rfl rfl ?_
  refine wp_getI rfl rfl rfl k0 ?_
  exact wp_icge (tgt := 97) rfl (by decide) wt wf
theorem b207_26 {n : Nat} {h : q_Hp} {Q : Option Value → q_Hp → Prop} {x0 : Nat} {x1 : Int32} {x2 : Int32} (k0 : q_ok h x0 10) (wt : ¬ (((qI h x0 8) >>> (x2 &&& 31)) &&& 1) = 0 → q_wp n 207 91 [some (.ref x0), some (.int x1), some (.int x2)] [] h Q) (wf : (((qI h x0 8) >>> (x2 &&& 31)) &&& 1) = 0 → q_wp n 207 37 [some (.ref x0), some (.int x1), some (.int x2)] [] h Q) : q_wp n 207 26 [some (.ref x0), some (.int x1), some (.int x2)] [] h Q := by
  refine wp_loc rfl rfl ?_
  refine wp_getI rfl rfl rfl k0 ?_
  refine wp_loc rfl rfl ?_
  refine wp_stk rfl rfl rfl ?_
  refine wp_iconst (v := 1) rfl (by decide) ?_
  refine wp_stk rfl rfl rfl ?_
  exact wp_ifne (tgt := 91) rfl (by decide) wt wf
theorem b207_37 {n : Nat} {h : q_Hp} {Q : Option Value → q_Hp → Prop} {x0 : Nat} {x1 : Int32} {x2 : Int32} {m : Nat} {P : Int32 → q_Hp → Prop} (hc : q_mI m 208 [.ref x0, .int x1, .int x2] h P) (hm : m ≤ n) (w : ∀ (z : Int32) (h1 : q_Hp), P z h1 → q_wp (n + 1) 207 43 [some (.ref x0), some (.int x1), some (.int x2)] [.int z] h1 Q) : q_wp (n + 1) 207 37 [some (.ref x0), some (.int x1), some (.int x2)] [] h Q := by
  refine wp_loc rfl rfl ?_
  refine wp_loc rfl rfl ?_
  refine wp_loc rfl rfl ?_
  exact wp_callI (av := [.ref x0, .int x1, .int x2]) rfl rfl rfl (by decide) rfl rfl rfl hm hc w
theorem b207_43 {n : Nat} {h : q_Hp} {Q : Option Value → q_Hp → Prop} {x0 : Nat} {x1 : Int32} {x2 : Int32} {s0 : Int32} (wt : s0 = 0 → q_wp n 207 91 [some (.ref x0), some (.int x1), some (.int x2)] [] h Q) (wf : ¬ s0 = 0 → q_wp n 207 46 [some (.ref x0), some (.int x1), some (.int x2)] [] h Q) : q_wp n 207 43 [some (.ref x0), some (.int x1), some (.int x2)] [.int s0] h Q := by
  exact wp_ifeq (tgt := 91) rfl (by decide) wt wf
theorem b207_46 {n : Nat} {h : q_Hp} {Q : Option Value → q_Hp → Prop} {x0 : Nat} {x1 : Int32} {x2 : Int32} {v0 : Nat} (k0 : q_ok h x0 10) (e0 : qR h x0 7 = v0) (k1 : q_ok h v0 20) (i0 : q_in x1 (qK h v0).2) {m : Nat} {P : Int32 → q_Hp → Prop} (hc : q_mI m 207 [.ref x0, .int (x1 + 1)] (q_sI (q_sA h v0 x1.toNatClampNeg x2) x0 8 ((qI h x0 8) ||| (1 <<< (x2 &&& 31)))) P) (hm : m ≤ n) (w : ∀ (z : Int32) (h1 : q_Hp), P z h1 → q_wp (n + 1) 207 72 [some (.ref x0), some (.int x1), some (.int x2)] [.int z] h1 Q) : q_wp (n + 1) 207 46 [some (.ref x0), some (.int x1), some (.int x2)] [] h Q := by
  refine wp_loc rfl rfl ?_
  refine wp_getR rfl rfl rfl rfl k0 e0 ?_
  refine wp_loc rfl rfl ?_
  refine wp_loc rfl rfl ?_
  refine wp_iast rfl k1 i0 ?_
  refine wp_loc rfl rfl ?_
  refine wp_stk rfl rfl rfl ?_
  refine wp_getI rfl rfl rfl k0 ?_
  refine wp_iconst (v := 1) rfl (by decide) ?_
  refine wp_loc rfl rfl ?_
  refine wp_stk rfl rfl rfl ?_
  refine wp_stk rfl rfl rfl ?_
  refine wp_putI rfl rfl (Or.inl rfl) rfl (fun h9 => by cases h9) k0 ?_
  refine wp_loc rfl rfl ?_
  refine wp_loc rfl rfl ?_
  refine wp_iconst (v := 1) rfl (by decide) ?_
  refine wp_stk rfl rfl rfl ?_
  exact wp_callI (av := [.ref x0, .int (x1 + 1)]) rfl rfl rfl (by decide) rfl rfl rfl hm hc w
theorem b207_72 {n : Nat} {h : q_Hp} {Q : Option Value → q_Hp → Prop} {x0 : Nat} {x1 : Int32} {x2 : Int32} {s0 : Int32} (wt : s0 = 0 → q_wp n 207 77 [some (.ref x0), some (.int x1), some (.int x2)] [] h Q) (wf : ¬ s0 = 0 → q_wp n 207 75 [some (.ref x0), some (.int x1), some (.int x2)] [] h Q) : q_wp n 207 72 [some (.ref x0), some (.int x1), some (.int x2)] [.int s0] h Q := by
  exact wp_ifeq (tgt := 77) rfl (by decide) wt wf
theorem b207_75 {n : Nat} {h : q_Hp} {Q : Option Value → q_Hp → Prop} {x0 : Nat} {x1 : Int32} {x2 : Int32} (q : Q (some (.int 1)) h) : q_wp n 207 75 [some (.ref x0), some (.int x1), some (.int x2)] [] h Q := by
  refine wp_iconst (v := 1) rfl (by decide) ?_
  exact wp_ret (r := some (.int 1)) rfl rfl q
theorem b207_77 {n : Nat} {h : q_Hp} {Q : Option Value → q_Hp → Prop} {x0 : Nat} {x1 : Int32} {x2 : Int32} (k0 : q_ok h x0 10) (w : q_wp n 207 91 [some (.ref x0), some (.int x1), some (.int x2)] [] (q_sI h x0 8 ((qI h x0 8) &&& ((1 <<< (x2 &&& 31)) ^^^ (-1)))) Q) : q_wp n 207 77 [some (.ref x0), some (.int x1), some (.int x2)] [] h Q := by
  refine wp_loc rfl rfl ?_
  refine wp_stk rfl rfl rfl ?_
  refine wp_getI rfl rfl rfl k0 ?_
  refine wp_iconst (v := 1) rfl (by decide) ?_
  refine wp_loc rfl rfl ?_
  refine wp_stk rfl rfl rfl ?_
  refine wp_iconst (v := (-1)) rfl (by decide) ?_
  refine wp_stk rfl rfl rfl ?_
  refine wp_stk rfl rfl rfl ?_
  refine wp_putI rfl rfl (Or.inl rfl) rfl (fun h9 => by cases h9) k0 ?_
  exact w
theorem b207_91 {n : Nat} {h : q_Hp} {Q : Option Value → q_Hp → Prop} {x0 : Nat} {x1 : Int32} {x2 : Int32} (w : q_wp n 207 18 [some (.ref x0), some (.int x1), some (.int (x2 + 1))] [] h Q) : q_wp n 207 91 [some (.ref x0), some (.int x1), some (.int x2)] [] h Q := by
  refine wp_iinc (v := 1) rfl rfl (by decide) rfl ?_
  refine wp_goto (tgt := 18) rfl (by decide) ?_
  exact w
theorem b207_97 {n : Nat} {h : q_Hp} {Q : Option Value → q_Hp → Prop} {x0 : Nat} {x1 : Int32} {x2 : Int32} (q : Q (some (.int 0)) h) : q_wp n 207 97 [some (.ref x0), some (.int x1), some (.int x2)] [] h Q := by
  refine wp_iconst (v := 0) rfl (by decide) ?_
  exact wp_ret (r := some (.int 0)) rfl rfl q
theorem b208_0 {n : Nat} {h : q_Hp} {Q : Option Value → q_Hp → Prop} {x0 : Nat} {x1 : Int32} {x2 : Int32} {v0 : Nat} (k0 : q_ok h x0 10) (e0 : qR h x0 2 = v0) {m : Nat} {P : Int32 → q_Hp → Prop} (hc : q_mI m 232 [.ref v0, .int x1] h P) (hm : m ≤ n) (w : ∀ (z : Int32) (h1 : q_Hp), P z h1 → q_wp (n + 1) 208 8 [some (.ref x0), some (.int x1), some (.int x2), none, none, none, none] [.int z] h1 Q) : q_wp (n + 1) 208 0 [some (.ref x0), some (.int x1), some (.int x2), none, none, none, none] [] h Q := by
  refine wp_loc rfl rfl ?_
  refine wp_getR rfl rfl rfl rfl k0 e0 ?_
  refine wp_loc rfl rfl ?_
  exact wp_callI (av := [.ref v0, .int x1]) rfl rfl rfl (by decide) rfl rfl rfl hm hc w
theorem b208_8 {n : Nat} {h : q_Hp} {Q : Option Value → q_Hp → Prop} {x0 : Nat} {x1 : Int32} {x2 : Int32} {s0 : Int32} {v0 : Nat} (k0 : q_ok h x0 10) (e0 : qR h x0 3 = v0) {m : Nat} {P : Int32 → q_Hp → Prop} (hc : q_mI m 232 [.ref v0, .int x2] h P) (hm : m ≤ n) (w : ∀ (z : Int32) (h1 : q_Hp), P z h1 → q_wp (n + 1) 208 17 [some (.ref x0), some (.int x1), some (.int x2), some (.int s0), none, none, none] [.int z] h1 Q) : q_wp (n + 1) 208 8 [some (.ref x0), some (.int x1), some (.int x2), none, none, none, none] [.int s0] h Q := by
  refine wp_loc rfl rfl ?_
  refine wp_loc rfl rfl ?_
  refine wp_getR rfl rfl rfl rfl k0 e0 ?_
  refine wp_loc rfl rfl ?_
  exact wp_callI (av := [.ref v0, .int x2]) rfl rfl rfl (by decide) rfl rfl rfl hm hc w
theorem b208_17 {n : Nat} {h : q_Hp} {Q : Option Value → q_Hp → Prop} {x0 : Nat} {x1 : Int32} {x2 : Int32} {x3 : Int32} {s0 : Int32} {v0 : Nat} (k0 : q_ok h x0 10) (e0 : qR h x0 0 = v0) {m : Nat} {P : Int32 → q_Hp → Prop} (hc : q_mI m 64 [.ref v0, .int x3] h P) (hm : m ≤ n) (w : ∀ (z : Int32) (h1 : q_Hp), P z h1 → q_wp (n + 1) 208 27 [some (.ref x0), some (.int x1), some (.int x2), some (.int x3), some (.int s0), none, none] [.int z] h1 Q) : q_wp (n + 1) 208 17 [some (.ref x0), some (.int x1), some (.int x2), some (.int x3), none, none, none] [.int s0] h Q := by
  refine wp_loc rfl rfl ?_
  refine wp_loc rfl rfl ?_
  refine wp_getR rfl rfl rfl rfl k0 e0 ?_
  refine wp_loc rfl rfl ?_
  exact wp_callI (av := [.ref v0, .int x3]) rfl rfl rfl (by decide) rfl rfl rfl hm hc w
theorem b208_27 {n : Nat} {h : q_Hp} {Q : Option Value → q_Hp → Prop} {x0 : Nat} {x1 : Int32} {x2 : Int32} {x3 : Int32} {x4 : Int32} {s0 : Int32} {v0 : Nat} (k0 : q_ok h x0 10) (e0 : qR h x0 1 = v0) {m : Nat} {P : Int32 → q_Hp → Prop} (hc : q_mI m 64 [.ref v0, .int x4] h P) (hm : m ≤ n) (w : ∀ (z : Int32) (h1 : q_Hp), P z h1 → q_wp (n + 1) 208 36 [some (.ref x0), some (.int x1), some (.int x2), some (.int x3), some (.int x4), none, none] [.int z, .int s0] h1 Q) : q_wp (n + 1) 208 27 [some (.ref x0), some (.int x1), some (.int x2), some (.int x3), some (.int x4), none, none] [.int s0] h Q := by
  refine wp_loc rfl rfl ?_
  refine wp_getR rfl rfl rfl rfl k0 e0 ?_
  refine wp_loc rfl rfl ?_
  exact wp_callI (av := [.ref v0, .int x4]) rfl rfl rfl (by decide) rfl rfl rfl hm hc w
theorem b208_36 {n : Nat} {h : q_Hp} {Q : Option Value → q_Hp → Prop} {x0 : Nat} {x1 : Int32} {x2 : Int32} {x3 : Int32} {x4 : Int32} {s0 : Int32} {s1 : Int32} (wt : s1 = s0 → q_wp n 208 41 [some (.ref x0), some (.int x1), some (.int x2), some (.int x3), some (.int x4), none, none] [] h Q) (wf : ¬ s1 = s0 → q_wp n 208 39 [some (.ref x0), some (.int x1), some (.int x2), some (.int x3), some (.int x4), none, none] [] h Q) : q_wp n 208 36 [some (.ref x0), some (.int x1), some (.int x2), some (.int x3), some (.int x4), none, none] [.int s0, .int s1] h Q := by
  exact wp_iceq (tgt := 41) rfl (by decide) wt wf
theorem b208_39 {n : Nat} {h : q_Hp} {Q : Option Value → q_Hp → Prop} {x0 : Nat} {x1 : Int32} {x2 : Int32} {x3 : Int32} {x4 : Int32} (q : Q (some (.int 0)) h) : q_wp n 208 39 [some (.ref x0), some (.int x1), some (.int x2), some (.int x3), some (.int x4), none, none] [] h Q := by
  refine wp_iconst (v := 0) rfl (by decide) ?_
  exact wp_ret (r := some (.int 0)) rfl rfl q
theorem b208_41 {n : Nat} {h : q_Hp} {Q : Option Value → q_Hp → Prop} {x0 : Nat} {x1 : Int32} {x2 : Int32} {x3 : Int32} {x4 : Int32} (w : q_wp n 208 44 [some (.ref x0), some (.int x1), some (.int x2), some (.int x3), some (.int x4), some (.int 0), none] [] h Q) : q_wp n 208 41 [some (.ref x0), some (.int x1), some (.int x2), some (.int x3), some (.int x4), none, none] [] h Q := by
  refine wp_iconst (v := 0) rfl (by decide) ?_
  refine wp_loc rfl rfl ?_
  exact w
theorem b208_44 {n : Nat} {h : q_Hp} {Q : Option Value → q_Hp → Prop} {x0 : Nat} {x1 : Int32} {x2 : Int32} {x3 : Int32} {x4 : Int32} {x5 : Int32} (wt : 2 ≤ x5 → q_wp n 208 82 [some (.ref x0), some (.int x1), some (.int x2), some (.int x3), some (.int x4), some (.int x5), none] [] h Q) (wf : ¬ 2 ≤ x5 → q_wp n 208 50 [some (.ref x0), some (.int x1), some (.int x2), some (.int x3), some (.int x4), some (.int x5), none] [] h Q) : q_wp n 208 44 [some (.ref x0), some (.int x1), some (.int x2), some (.int x3), some (.int x4), some (.int x5), none] [] h Q := by
  refine wp_loc rfl rfl ?_
  refine wp_iconst (v := 2) rfl (by decide) ?_
  exact wp_icge (tgt := 82) rfl (by decide) wt wf
theorem b208_50 {n : Nat} {h : q_Hp} {Q : Option Value → q_Hp → Prop} {x0 : Nat} {x1 : Int32} {x2 : Int32} {x3 : Int32} {x4 : Int32} {x5 : Int32} {v0 : Nat} (k0 : q_ok h x0 10) (e0 : qR h x0 0 = v0) {m : Nat} {P : Int32 → q_Hp → Prop} (hc : q_mI m 66 [.ref v0, .int x3, .int x5] h P) (hm : m ≤ n) (w : ∀ (z : Int32) (h1 : q_Hp), P z h1 → q_wp (n + 1) 208 60 [some (.ref x0), some (.int x1), some (.int x2), some (.int x3), some (.int x4), some (.int x5), none] [.int z] h1 Q) : q_wp (n + 1) 208 50 [some (.ref x0), some (.int x1), some (.int x2), some (.int x3), some (.int x4), some (.int x5), none] [] h Q := by
  refine wp_loc rfl rfl ?_
  refine wp_getR rfl rfl rfl rfl k0 e0 ?_
  refine wp_loc rfl rfl ?_
  refine wp_loc rfl rfl ?_
  exact wp_callI (av := [.ref v0, .int x3, .int x5]) rfl rfl rfl (by decide) rfl rfl rfl hm hc w
theorem b208_60 {n : Nat} {h : q_Hp} {Q : Option Value → q_Hp → Prop} {x0 : Nat} {x1 : Int32} {x2 : Int32} {x3 : Int32} {x4 : Int32} {x5 : Int32} {s0 : Int32} {v0 : Nat} (k0 : q_ok h x0 10) (e0 : qR h x0 1 = v0) {m : Nat} {P : Int32 → q_Hp → Prop} (hc : q_mI m 66 [.ref v0, .int x4, .int x5] h P) (hm : m ≤ n) (w : ∀ (z : Int32) (h1 : q_Hp), P z h1 → q_wp (n + 1) 208 71 [some (.ref x0), some (.int x1), some (.int x2), some (.int x3), some (.int x4), some (.int x5), none] [.int z, .int s0] h1 Q) : q_wp (n + 1) 208 60 [some (.ref x0), some (.int x1), some (.int x2), some (.int x3), some (.int x4), some (.int x5), none] [.int s0] h Q := by
  refine wp_loc rfl rfl ?_
  refine wp_getR rfl rfl rfl rfl k0 e0 ?_
  refine wp_loc rfl rfl ?_
  refine wp_loc rfl rfl ?_
  exact wp_callI (av := [.ref v0, .int x4, .int x5]) rfl rfl rfl (by decide) rfl rfl rfl hm hc w
theorem b208_71 {n : Nat} {h : q_Hp} {Q : Option Value → q_Hp → Prop} {x0 : Nat} {x1 : Int32} {x2 : Int32} {x3 : Int32} {x4 : Int32} {x5 : Int32} {s0 : Int32} {s1 : Int32} (wt : s1 = s0 → q_wp n 208 76 [some (.ref x0), some (.int x1), some (.int x2), some (.int x3), some (.int x4), some (.int x5), none] [] h Q) (wf : ¬ s1 = s0 → q_wp n 208 74 [some (.ref x0), some (.int x1), some (.int x2), some (.int x3), some (.int x4), some (.int x5), none] [] h Q) : q_wp n 208 71 [some (.ref x0), some (.int x1), some (.int x2), some (.int x3), some (.int x4), some (.int x5), none] [.int s0, .int s1] h Q := by
  exact wp_iceq (tgt := 76) rfl (by decide) wt wf
theorem b208_74 {n : Nat} {h : q_Hp} {Q : Option Value → q_Hp → Prop} {x0 : Nat} {x1 : Int32} {x2 : Int32} {x3 : Int32} {x4 : Int32} {x5 : Int32} (q : Q (some (.int 0)) h) : q_wp n 208 74 [some (.ref x0), some (.int x1), some (.int x2), some (.int x3), some (.int x4), some (.int x5), none] [] h Q := by
  refine wp_iconst (v := 0) rfl (by decide) ?_
  exact wp_ret (r := some (.int 0)) rfl rfl q
theorem b208_76 {n : Nat} {h : q_Hp} {Q : Option Value → q_Hp → Prop} {x0 : Nat} {x1 : Int32} {x2 : Int32} {x3 : Int32} {x4 : Int32} {x5 : Int32} (w : q_wp n 208 44 [some (.ref x0), some (.int x1), some (.int x2), some (.int x3), some (.int x4), some (.int (x5 + 1)), none] [] h Q) : q_wp n 208 76 [some (.ref x0), some (.int x1), some (.int x2), some (.int x3), some (.int x4), some (.int x5), none] [] h Q := by
  refine wp_iinc (v := 1) rfl rfl (by decide) rfl ?_
  refine wp_goto (tgt := 44) rfl (by decide) ?_
  exact w
theorem b208_82 {n : Nat} {h : q_Hp} {Q : Option Value → q_Hp → Prop} {x0 : Nat} {x1 : Int32} {x2 : Int32} {x3 : Int32} {x4 : Int32} {x5 : Int32} (w : q_wp n 208 85 [some (.ref x0), some (.int x1), some (.int x2), some (.int x3), some (.int x4), some (.int 0), none] [] h Q) : q_wp n 208 82 [some (.ref x0), some (.int x1), some (.int x2), some (.int x3), some (.int x4), some (.int x5), none] [] h Q := by
  refine wp_iconst (v := 0) rfl (by decide) ?_
  refine wp_loc rfl rfl ?_
  exact w
theorem b208_85 {n : Nat} {h : q_Hp} {Q : Option Value → q_Hp → Prop} {x0 : Nat} {x1 : Int32} {x2 : Int32} {x3 : Int32} {x4 : Int32} {x5 : Int32} {l6 : Option Value} (wt : x1 < x5 → q_wp n 208 163 [some (.ref x0), some (.int x1), some (.int x2), some (.int x3), some (.int x4), some (.int x5), l6] [] h Q) (wf : ¬ x1 < x5 → q_wp n 208 91 [some (.ref x0), some (.int x1), some (.int x2), some (.int x3), some (.int x4), some (.int x5), l6] [] h Q) : q_wp n 208 85 [some (.ref x0), some (.int x1), some (.int x2), some (.int x3), some (.int x4), some (.int x5), l6] [] h Q := by
  refine wp_loc rfl rfl ?_
  refine wp_loc rfl rfl ?_
  exact wp_icgt (tgt := 163) rfl (by decide) wt wf
theorem b208_91 {n : Nat} {h : q_Hp} {Q : Option Value → q_Hp → Prop} {x0 : Nat} {x1 : Int32} {x2 : Int32} {x3 : Int32} {x4 : Int32} {x5 : Int32} {l6 : Option Value} (wt : 7 ≤ x5 → q_wp n 208 163 [some (.ref x0), some (.int x1), some (.int x2), some (.int x3), some (.int x4), some (.int x5), l6] [] h Q) (wf : ¬ 7 ≤ x5 → q_wp n 208 98 [some (.ref x0), some (.int x1), some (.int x2), some (.int x3), some (.int x4), some (.int x5), l6] [] h Q) : q_wp n 208 91 [some (.ref x0), some (.int x1), some (.int x2), some (.int x3), some (.int x4), some (.int x5), l6] [] h Q := by
  refine wp_loc rfl rfl ?_
  refine wp_bipush (v := 7) rfl (by decide) ?_
  exact wp_icge (tgt := 163) rfl (by decide) wt wf
theorem b208_98 {n : Nat} {h : q_Hp} {Q : Option Value → q_Hp → Prop} {x0 : Nat} {x1 : Int32} {x2 : Int32} {x3 : Int32} {x4 : Int32} {x5 : Int32} {l6 : Option Value} (wt : ¬ x5 = x1 → q_wp n 208 108 [some (.ref x0), some (.int x1), some (.int x2), some (.int x3), some (.int x4), some (.int x5), l6] [] h Q) (wf : x5 = x1 → q_wp n 208 104 [some (.ref x0), some (.int x1), some (.int x2), some (.int x3), some (.int x4), some (.int x5), l6] [] h Q) : q_wp n 208 98 [some (.ref x0), some (.int x1), some (.int x2), some (.int x3), some (.int x4), some (.int x5), l6] [] h Q := by
  refine wp_loc rfl rfl ?_
  refine wp_loc rfl rfl ?_
  exact wp_icne (tgt := 108) rfl (by decide) wt wf
theorem b208_104 {n : Nat} {h : q_Hp} {Q : Option Value → q_Hp → Prop} {x0 : Nat} {x1 : Int32} {x2 : Int32} {x3 : Int32} {x4 : Int32} {x5 : Int32} {l6 : Option Value} (w : q_wp n 208 115 [some (.ref x0), some (.int x1), some (.int x2), some (.int x3), some (.int x4), some (.int x5), l6] [.int x2] h Q) : q_wp n 208 104 [some (.ref x0), some (.int x1), some (.int x2), some (.int x3), some (.int x4), some (.int x5), l6] [] h Q := by
  refine wp_loc rfl rfl ?_
  refine wp_goto (tgt := 115) rfl (by decide) ?_
  exact w
theorem b208_108 {n : Nat} {h : q_Hp} {Q : Option Value → q_Hp → Prop} {x0 : Nat} {x1 : Int32} {x2 : Int32} {x3 : Int32} {x4 : Int32} {x5 : Int32} {l6 : Option Value} {v0 : Nat} (k0 : q_ok h x0 10) (e0 : qR h x0 7 = v0) (k1 : q_ok h v0 20) (i0 : q_in x5 (qK h v0).2) (w : q_wp n 208 115 [some (.ref x0), some (.int x1), some (.int x2), some (.int x3), some (.int x4), some (.int x5), l6] [.int (qA h v0 x5.toNatClampNeg)] h Q) : q_wp n 208 108 [some (.ref x0), some (.int x1), some (.int x2), some (.int x3), some (.int x4), some (.int x5), l6] [] h Q := by
  refine wp_loc rfl rfl ?_
  refine wp_getR rfl rfl rfl rfl k0 e0 ?_
  refine wp_loc rfl rfl ?_
  refine wp_iald rfl k1 i0 ?_
  exact w
theorem b208_115 {n : Nat} {h : q_Hp} {Q : Option Value → q_Hp → Prop} {x0 : Nat} {x1 : Int32} {x2 : Int32} {x3 : Int32} {x4 : Int32} {x5 : Int32} {l6 : Option Value} {s0 : Int32} {m : Nat} {P : Int32 → q_Hp → Prop} (hc : q_mI m 206 [.int x5, .int x1] h P) (hm : m ≤ n) (w : ∀ (z : Int32) (h1 : q_Hp), P z h1 → q_wp (n + 1) 208 124 [some (.ref x0), some (.int x1), some (.int x2), some (.int x3), some (.int x4), some (.int x5), some (.int s0)] [.int z, .ref x0] h1 Q) : q_wp (n + 1) 208 115 [some (.ref x0), some (.int x1), some (.int x2), some (.int x3), some (.int x4), some (.int x5), l6] [.int s0] h Q := by
  refine wp_loc rfl rfl ?_
  refine wp_loc rfl rfl ?_
  refine wp_loc rfl rfl ?_
  refine wp_loc rfl rfl ?_
  exact wp_callI (av := [.int x5, .int x1]) rfl rfl rfl (by decide) rfl rfl rfl hm hc w
theorem b208_124 {n : Nat} {h : q_Hp} {Q : Option Value → q_Hp → Prop} {x0 : Nat} {x1 : Int32} {x2 : Int32} {x3 : Int32} {x4 : Int32} {x5 : Int32} {x6 : Int32} {s0 : Int32} {s1 : Nat} {m : Nat} {P : Int32 → q_Hp → Prop} (hc : q_mI m 206 [.int x6, .int x2] h P) (hm : m ≤ n) (w : ∀ (z : Int32) (h1 : q_Hp), P z h1 → q_wp (n + 1) 208 130 [some (.ref x0), some (.int x1), some (.int x2), some (.int x3), some (.int x4), some (.int x5), some (.int x6)] [.int z, .int s0, .ref s1] h1 Q) : q_wp (n + 1) 208 124 [some (.ref x0), some (.int x1), some (.int x2), some (.int x3), some (.int x4), some (.int x5), some (.int x6)] [.int s0, .ref s1] h Q := by
  refine wp_loc rfl rfl ?_
  refine wp_loc rfl rfl ?_
  exact wp_callI (av := [.int x6, .int x2]) rfl rfl rfl (by decide) rfl rfl rfl hm hc w
theorem b208_130 {n : Nat} {h : q_Hp} {Q : Option Value → q_Hp → Prop} {x0 : Nat} {x1 : Int32} {x2 : Int32} {x3 : Int32} {x4 : Int32} {x5 : Int32} {x6 : Int32} {s0 : Int32} {s1 : Int32} {s2 : Nat} {m : Nat} {P : Int32 → q_Hp → Prop} (hc : q_mI m 209 [.ref s2, .int s1, .int s0] h P) (hm : m ≤ n) (w : ∀ (z : Int32) (h1 : q_Hp), P z h1 → q_wp (n + 1) 208 133 [some (.ref x0), some (.int x1), some (.int x2), some (.int x3), some (.int x4), some (.int x5), some (.int x6)] [.int z] h1 Q) : q_wp (n + 1) 208 130 [some (.ref x0), some (.int x1), some (.int x2), some (.int x3), some (.int x4), some (.int x5), some (.int x6)] [.int s0, .int s1, .ref s2] h Q := by
  exact wp_callI (av := [.ref s2, .int s1, .int s0]) rfl rfl rfl (by decide) rfl rfl rfl hm hc w
theorem b208_133 {n : Nat} {h : q_Hp} {Q : Option Value → q_Hp → Prop} {x0 : Nat} {x1 : Int32} {x2 : Int32} {x3 : Int32} {x4 : Int32} {x5 : Int32} {x6 : Int32} {s0 : Int32} (wt : s0 = 0 → q_wp n 208 155 [some (.ref x0), some (.int x1), some (.int x2), some (.int x3), some (.int x4), some (.int x5), some (.int x6)] [] h Q) (wf : ¬ s0 = 0 → q_wp n 208 136 [some (.ref x0), some (.int x1), some (.int x2), some (.int x3), some (.int x4), some (.int x5), some (.int x6)] [] h Q) : q_wp n 208 133 [some (.ref x0), some (.int x1), some (.int x2), some (.int x3), some (.int x4), some (.int x5), some (.int x6)] [.int s0] h Q := by
  exact wp_ifeq (tgt := 155) rfl (by decide) wt wf
theorem b208_136 {n : Nat} {h : q_Hp} {Q : Option Value → q_Hp → Prop} {x0 : Nat} {x1 : Int32} {x2 : Int32} {x3 : Int32} {x4 : Int32} {x5 : Int32} {x6 : Int32} {m : Nat} {P : Int32 → q_Hp → Prop} (hc : q_mI m 206 [.int x1, .int x5] h P) (hm : m ≤ n) (w : ∀ (z : Int32) (h1 : q_Hp), P z h1 → q_wp (n + 1) 208 143 [some (.ref x0), some (.int x1), some (.int x2), some (.int x3), some (.int x4), some (.int x5), some (.int x6)] [.int z, .ref x0] h1 Q) : q_wp (n + 1) 208 136 [some (.ref x0), some (.int x1), some (.int x2), some (.int x3), some (.int x4), some (.int x5), some (.int x6)] [] h Q := by
  refine wp_loc rfl rfl ?_
  refine wp_loc rfl rfl ?_
  refine wp_loc rfl rfl ?_
  exact wp_callI (av := [.int x1, .int x5]) rfl rfl rfl (by decide) rfl rfl rfl hm hc w
theorem b208_143 {n : Nat} {h : q_Hp} {Q : Option Value → q_Hp → Prop} {x0 : Nat} {x1 : Int32} {x2 : Int32} {x3 : Int32} {x4 : Int32} {x5 : Int32} {x6 : Int32} {s0 : Int32} {s1 : Nat} {m : Nat} {P : Int32 → q_Hp → Prop} (hc : q_mI m 206 [.int x2, .int x6] h P) (hm : m ≤ n) (w : ∀ (z : Int32) (h1 : q_Hp), P z h1 → q_wp (n + 1) 208 149 [some (.ref x0), some (.int x1), some (.int x2), some (.int x3), some (.int x4), some (.int x5), some (.int x6)] [.int z, .int s0, .ref s1] h1 Q) : q_wp (n + 1) 208 143 [some (.ref x0), some (.int x1), some (.int x2), some (.int x3), some (.int x4), some (.int x5), some (.int x6)] [.int s0, .ref s1] h Q := by
  refine wp_loc rfl rfl ?_
  refine wp_loc rfl rfl ?_
  exact wp_callI (av := [.int x2, .int x6]) rfl rfl rfl (by decide) rfl rfl rfl hm hc w
theorem b208_149 {n : Nat} {h : q_Hp} {Q : Option Value → q_Hp → Prop} {x0 : Nat} {x1 : Int32} {x2 : Int32} {x3 : Int32} {x4 : Int32} {x5 : Int32} {x6 : Int32} {s0 : Int32} {s1 : Int32} {s2 : Nat} {m : Nat} {P : Int32 → q_Hp → Prop} (hc : q_mI m 209 [.ref s2, .int s1, .int s0] h P) (hm : m ≤ n) (w : ∀ (z : Int32) (h1 : q_Hp), P z h1 → q_wp (n + 1) 208 152 [some (.ref x0), some (.int x1), some (.int x2), some (.int x3), some (.int x4), some (.int x5), some (.int x6)] [.int z] h1 Q) : q_wp (n + 1) 208 149 [some (.ref x0), some (.int x1), some (.int x2), some (.int x3), some (.int x4), some (.int x5), some (.int x6)] [.int s0, .int s1, .ref s2] h Q := by
  exact wp_callI (av := [.ref s2, .int s1, .int s0]) rfl rfl rfl (by decide) rfl rfl rfl hm hc w
theorem b208_152 {n : Nat} {h : q_Hp} {Q : Option Value → q_Hp → Prop} {x0 : Nat} {x1 : Int32} {x2 : Int32} {x3 : Int32} {x4 : Int32} {x5 : Int32} {x6 : Int32} {s0 : Int32} (wt : ¬ s0 = 0 → q_wp n 208 157 [some (.ref x0), some (.int x1), some (.int x2), some (.int x3), some (.int x4), some (.int x5), some (.int x6)] [] h Q) (wf : s0 = 0 → q_wp n 208 155 [some (.ref x0), some (.int x1), some (.int x2), some (.int x3), some (.int x4), some (.int x5), some (.int x6)] [] h Q) : q_wp n 208 152 [some (.ref x0), some (.int x1), some (.int x2), some (.int x3), some (.int x4), some (.int x5), some (.int x6)] [.int s0] h Q := by
  exact wp_ifne (tgt := 157) rfl (by decide) wt wf
theorem b208_155 {n : Nat} {h : q_Hp} {Q : Option Value → q_Hp → Prop} {x0 : Nat} {x1 : Int32} {x2 : Int32} {x3 : Int32} {x4 : Int32} {x5 : Int32} {x6 : Int32} (q : Q (some (.int 0)) h) : q_wp n 208 155 [some (.ref x0), some (.int x1), some (.int x2), some (.int x3), some (.int x4), some (.int x5), some (.int x6)] [] h Q := by
  refine wp_iconst (v := 0) rfl (by decide) ?_
  exact wp_ret (r := some (.int 0)) rfl rfl q
theorem b208_157 {n : Nat} {h : q_Hp} {Q : Option Value → q_Hp → Prop} {x0 : Nat} {x1 : Int32} {x2 : Int32} {x3 : Int32} {x4 : Int32} {x5 : Int32} {x6 : Int32} (w : q_wp n 208 85 [some (.ref x0), some (.int x1), some (.int x2), some (.int x3), some (.int x4), some (.int (x5 + 1)), some (.int x6)] [] h Q) : q_wp n 208 157 [some (.ref x0), some (.int x1), some (.int x2), some (.int x3), some (.int x4), some (.int x5), some (.int x6)] [] h Q := by
  refine wp_iinc (v := 1) rfl rfl (by decide) rfl ?_
  refine wp_goto (tgt := 85) rfl (by decide) ?_
  exact w
theorem b208_163 {n : Nat} {h : q_Hp} {Q : Option Value → q_Hp → Prop} {x0 : Nat} {x1 : Int32} {x2 : Int32} {x3 : Int32} {x4 : Int32} {x5 : Int32} {l6 : Option Value} (q : Q (some (.int 1)) h) : q_wp n 208 163 [some (.ref x0), some (.int x1), some (.int x2), some (.int x3), some (.int x4), some (.int x5), l6] [] h Q := by
  refine wp_iconst (v := 1) rfl (by decide) ?_
  exact wp_ret (r := some (.int 1)) rfl rfl q
theorem b209_0 {n : Nat} {h : q_Hp} {Q : Option Value → q_Hp → Prop} {x0 : Nat} {x1 : Int32} {x2 : Int32} (wt : x1 < 0 → q_wp n 209 20 [some (.ref x0), some (.int x1), some (.int x2)] [] h Q) (wf : ¬ x1 < 0 → q_wp n 209 4 [some (.ref x0), some (.int x1), some (.int x2)] [] h Q) : q_wp n 209 0 [some (.ref x0), some (.int x1), some (.int x2)] [] h Q := by
  refine wp_loc rfl rfl ?_
  exact wp_iflt (tgt := 20) rfl (by decide) wt wf
theorem b209_4 {n : Nat} {h : q_Hp} {Q : Option Value → q_Hp → Prop} {x0 : Nat} {x1 : Int32} {x2 : Int32} (wt : 49 ≤ x1 → q_wp n 209 20 [some (.ref x0), some (.int x1), some (.int x2)] [] h Q) (wf : ¬ 49 ≤ x1 → q_wp n 209 10 [some (.ref x0), some (.int x1), some (.int x2)] [] h Q) : q_wp n 209 4 [some (.ref x0), some (.int x1), some (.int x2)] [] h Q := by
  refine wp_loc rfl rfl ?_
  refine wp_bipush (v := 49) rfl (by decide) ?_
  exact wp_icge (tgt := 20) rfl (by decide) wt wf
theorem b209_10 {n : Nat} {h : q_Hp} {Q : Option Value → q_Hp → Prop} {x0 : Nat} {x1 : Int32} {x2 : Int32} (wt : x2 < 0 → q_wp n 209 20 [some (.ref x0), some (.int x1), some (.int x2)] [] h Q) (wf : ¬ x2 < 0 → q_wp n 209 14 [some (.ref x0), some (.int x1), some (.int x2)] [] h Q) : q_wp n 209 10 [some (.ref x0), some (.int x1), some (.int x2)] [] h Q := by
  refine wp_loc rfl rfl ?_
  exact wp_iflt (tgt := 20) rfl (by decide) wt wf
theorem b209_14 {n : Nat} {h : q_Hp} {Q : Option Value → q_Hp → Prop} {x0 : Nat} {x1 : Int32} {x2 : Int32} (wt : x2 < 49 → q_wp n 209 22 [some (.ref x0), some (.int x1), some (.int x2)] [] h Q) (wf : ¬ x2 < 49 → q_wp n 209 20 [some (.ref x0), some (.int x1), some (.int x2)] [] h Q) : q_wp n 209 14 [some (.ref x0), some (.int x1), some (.int x2)] [] h Q := by
  refine wp_loc rfl rfl ?_
  refine wp_bipush (v := 49) rfl (by decide) ?_
  exact wp_iclt (tgt := 22) rfl (by decide) wt wf
theorem b209_20 {n : Nat} {h : q_Hp} {Q : Option Value → q_Hp → Prop} {x0 : Nat} {x1 : Int32} {x2 : Int32} (q : Q (some (.int 0)) h) : q_wp n 209 20 [some (.ref x0), some (.int x1), some (.int x2)] [] h Q := by
  refine wp_iconst (v := 0) rfl (by decide) ?_
  exact wp_ret (r := some (.int 0)) rfl rfl q
theorem b209_22 {n : Nat} {h : q_Hp} {Q : Option Value → q_Hp → Prop} {x0 : Nat} {x1 : Int32} {x2 : Int32} {v0 : Nat} {v1 : Nat} (k0 : q_ok h x0 10) (e0 : qR h x0 4 = v0) (k1 : q_ok h v0 21) (i0 : q_in x1 (qK h v0).2) (e1 : qR h x0 5 = v1) (k2 : q_ok h v1 21) (i1 : q_in x2 (qK h v1).2) (wt : ¬ (lg_cmp (qL h v0 x1.toNatClampNeg) (qL h v1 x2.toNatClampNeg)) = 0 → q_wp n 209 64 [some (.ref x0), some (.int x1), some (.int x2)] [] h Q) (wf : (lg_cmp (qL h v0 x1.toNatClampNeg) (qL h v1 x2.toNatClampNeg)) = 0 → q_wp n 209 38 [some (.ref x0), some (.int x1), some (.int x2)] [] h Q) : q_wp n 209 22 [some (.ref x0), some (.int x1), some (.int x2)] [] h Q := by
  refine wp_loc rfl rfl ?_
  refine wp_getR rfl rfl rfl rfl k0 e0 ?_
  refine wp_loc rfl rfl ?_
  refine wp_lald rfl k1 i0 ?_
  refine wp_loc rfl rfl ?_
  refine wp_getR rfl rfl rfl rfl k0 e1 ?_
  refine wp_loc rfl rfl ?_
  refine wp_lald rfl k2 i1 ?_
  refine wp_stk rfl rfl rfl ?_
  exact wp_ifne (tgt := 64) rfl (by decide) wt wf
theorem b209_38 {n : Nat} {h : q_Hp} {Q : Option Value → q_Hp → Prop} {x0 : Nat} {x1 : Int32} {x2 : Int32} {v0 : Nat} {v1 : Nat} (k0 : q_ok h x0 10) (e0 : qR h x0 4 = v0) (k1 : q_ok h v0 21) (i0 : q_in (x1 + 49) (qK h v0).2) (e1 : qR h x0 5 = v1) (k2 : q_ok h v1 21) (i1 : q_in (x2 + 49) (qK h v1).2) (wt : ¬ (lg_cmp (qL h v0 ((x1 + 49 : Int32).toNatClampNeg)) (qL h v1 ((x2 + 49 : Int32).toNatClampNeg))) = 0 → q_wp n 209 64 [some (.ref x0), some (.int x1), some (.int x2)] [] h Q) (wf : (lg_cmp (qL h v0 ((x1 + 49 : Int32).toNatClampNeg)) (qL h v1 ((x2 + 49 : Int32).toNatClampNeg))) = 0 → q_wp n 209 60 [some (.ref x0), some (.int x1), some (.int x2)] [] h Q) : q_wp n 209 38 [some (.ref x0), some (.int x1), some (.int x2)] [] h Q := by
  refine wp_loc rfl rfl ?_
  refine wp_getR rfl rfl rfl rfl k0 e0 ?_
  refine wp_loc rfl rfl ?_
  refine wp_bipush (v := 49) rfl (by decide) ?_
  refine wp_stk rfl rfl rfl ?_
  refine wp_lald rfl k1 i0 ?_
  refine wp_loc rfl rfl ?_
  refine wp_getR rfl rfl rfl rfl k0 e1 ?_
  refine wp_loc rfl rfl ?_
  refine wp_bipush (v := 49) rfl (by decide) ?_
  refine wp_stk rfl rfl rfl ?_
  refine wp_lald rfl k2 i1 ?_
  refine wp_stk rfl rfl rfl ?_
  exact wp_ifne (tgt := 64) rfl (by decide) wt wf
theorem b209_60 {n : Nat} {h : q_Hp} {Q : Option Value → q_Hp → Prop} {x0 : Nat} {x1 : Int32} {x2 : Int32} (q : Q (some (.int 1)) h) : q_wp n 209 60 [some (.ref x0), some (.int x1), some (.int x2)] [] h Q := by
  refine wp_iconst (v := 1) rfl (by decide) ?_
  refine wp_goto (tgt := 65) rfl (by decide) ?_
  exact wp_ret (r := some (.int 1)) rfl rfl q
theorem b209_64 {n : Nat} {h : q_Hp} {Q : Option Value → q_Hp → Prop} {x0 : Nat} {x1 : Int32} {x2 : Int32} (q : Q (some (.int 0)) h) : q_wp n 209 64 [some (.ref x0), some (.int x1), some (.int x2)] [] h Q := by
  refine wp_iconst (v := 0) rfl (by decide) ?_
  exact wp_ret (r := some (.int 0)) rfl rfl q
