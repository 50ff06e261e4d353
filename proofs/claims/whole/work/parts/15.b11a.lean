theorem b210_227 {n : Nat} {h : q_Hp} {Q : Option Value → q_Hp → Prop} {x0 : Nat} {s0 : Nat} {s1 : Nat} (k0 : q_ok h s1 11) (q : Q none (q_sR h s1 16 s0)) : q_wp n 210 227 [some (.ref x0)] [.ref s0, .ref s1] h Q := by
  refine wp_putR rfl rfl (Or.inr ⟨rfl, rfl⟩) rfl rfl k0 ?_
  exact wp_ret rfl rfl q
theorem b211_0 {n : Nat} {h : q_Hp} {Q : Option Value → q_Hp → Prop} {x0 : Nat} {x1 : Int32} {x2 : Int32} {x3 : Int32} {x4 : Int32} {x5 : Int32} (k0 : q_ok h x0 11) (wt : (qI h x0 1) ≤ 3980 → q_wp n 211 12 [some (.ref x0), some (.int x1), some (.int x2), some (.int x3), some (.int x4), some (.int x5)] [] h Q) (wf : ¬ (qI h x0 1) ≤ 3980 → q_wp n 211 10 [some (.ref x0), some (.int x1), some (.int x2), some (.int x3), some (.int x4), some (.int x5)] [] h Q) : q_wp n 211 0 [some (.ref x0), some (.int x1), some (.int x2), some (.int x3), some (.int x4), some (.int x5)] [] h Q := by
  refine wp_loc rfl rfl ?_
  refine wp_getI rfl rfl rfl k0 ?_
  refine wp_sipush (v := 3980) rfl (by decide) ?_
  exact wp_icle (tgt := 12) rfl (by decide) wt wf
theorem b211_10 {n : Nat} {h : q_Hp} {Q : Option Value → q_Hp → Prop} {x0 : Nat} {x1 : Int32} {x2 : Int32} {x3 : Int32} {x4 : Int32} {x5 : Int32} (q : Q (some (.int (-1))) h) : q_wp n 211 10 [some (.ref x0), some (.int x1), some (.int x2), some (.int x3), some (.int x4), some (.int x5)] [] h Q := by
  refine wp_iconst (v := (-1)) rfl (by decide) ?_
  exact wp_ret rfl rfl q
theorem b211_12 {n : Nat} {h : q_Hp} {Q : Option Value → q_Hp → Prop} {x0 : Nat} {x1 : Int32} {x2 : Int32} {x3 : Int32} {x4 : Int32} {x5 : Int32} {m : Nat} {P : q_Hp → Prop} (hc : q_mV m 234 [.ref x0, .int x1] h P) (hm : m ≤ n) (w : ∀ h1 : q_Hp, P h1 → q_wp (n + 1) 211 17 [some (.ref x0), some (.int x1), some (.int x2), some (.int x3), some (.int x4), some (.int x5)] [] h1 Q) : q_wp (n + 1) 211 12 [some (.ref x0), some (.int x1), some (.int x2), some (.int x3), some (.int x4), some (.int x5)] [] h Q := by
  refine wp_loc rfl rfl ?_
  refine wp_loc rfl rfl ?_
  exact wp_callV (av := [.ref x0, .int x1]) rfl rfl rfl (by decide) rfl rfl rfl hm hc w
theorem b211_17 {n : Nat} {h : q_Hp} {Q : Option Value → q_Hp → Prop} {x0 : Nat} {x1 : Int32} {x2 : Int32} {x3 : Int32} {x4 : Int32} {x5 : Int32} {m : Nat} {P : q_Hp → Prop} (hc : q_mV m 234 [.ref x0, .int x2] h P) (hm : m ≤ n) (w : ∀ h1 : q_Hp, P h1 → q_wp (n + 1) 211 22 [some (.ref x0), some (.int x1), some (.int x2), some (.int x3), some (.int x4), some (.int x5)] [] h1 Q) : q_wp (n + 1) 211 17 [some (.ref x0), some (.int x1), some (.int x2), some (.int x3), some (.int x4), some (.int x5)] [] h Q := by
  refine wp_loc rfl rfl ?_
  refine wp_loc rfl rfl ?_
  exact wp_callV (av := [.ref x0, .int x2]) rfl rfl rfl (by decide) rfl rfl rfl hm hc w
theorem b211_22 {n : Nat} {h : q_Hp} {Q : Option Value → q_Hp → Prop} {x0 : Nat} {x1 : Int32} {x2 : Int32} {x3 : Int32} {x4 : Int32} {x5 : Int32} {m : Nat} {P : q_Hp → Prop} (hc : q_mV m 234 [.ref x0, .int x3] h P) (hm : m ≤ n) (w : ∀ h1 : q_Hp, P h1 → q_wp (n + 1) 211 27 [some (.ref x0), some (.int x1), some (.int x2), some (.int x3), some (.int x4), some (.int x5)] [] h1 Q) : q_wp (n + 1) 211 22 [some (.ref x0), some (.int x1), some (.int x2), some (.int x3), some (.int x4), some (.int x5)] [] h Q := by
  refine wp_loc rfl rfl ?_
  refine wp_loc rfl rfl ?_
  exact wp_callV (av := [.ref x0, .int x3]) rfl rfl rfl (by decide) rfl rfl rfl hm hc w
theorem b211_27 {n : Nat} {h : q_Hp} {Q : Option Value → q_Hp → Prop} {x0 : Nat} {x1 : Int32} {x2 : Int32} {x3 : Int32} {x4 : Int32} {x5 : Int32} {m : Nat} {P : q_Hp → Prop} (hc : q_mV m 234 [.ref x0, .int x4] h P) (hm : m ≤ n) (w : ∀ h1 : q_Hp, P h1 → q_wp (n + 1) 211 33 [some (.ref x0), some (.int x1), some (.int x2), some (.int x3), some (.int x4), some (.int x5)] [] h1 Q) : q_wp (n + 1) 211 27 [some (.ref x0), some (.int x1), some (.int x2), some (.int x3), some (.int x4), some (.int x5)] [] h Q := by
  refine wp_loc rfl rfl ?_
  refine wp_loc rfl rfl ?_
  exact wp_callV (av := [.ref x0, .int x4]) rfl rfl rfl (by decide) rfl rfl rfl hm hc w
theorem b211_33 {n : Nat} {h : q_Hp} {Q : Option Value → q_Hp → Prop} {x0 : Nat} {x1 : Int32} {x2 : Int32} {x3 : Int32} {x4 : Int32} {x5 : Int32} {m : Nat} {P : q_Hp → Prop} (hc : q_mV m 234 [.ref x0, .int x5] h P) (hm : m ≤ n) (w : ∀ h1 : q_Hp, P h1 → q_wp (n + 1) 211 39 [some (.ref x0), some (.int x1), some (.int x2), some (.int x3), some (.int x4), some (.int x5)] [] h1 Q) : q_wp (n + 1) 211 33 [some (.ref x0), some (.int x1), some (.int x2), some (.int x3), some (.int x4), some (.int x5)] [] h Q := by
  refine wp_loc rfl rfl ?_
  refine wp_loc rfl rfl ?_
  exact wp_callV (av := [.ref x0, .int x5]) rfl rfl rfl (by decide) rfl rfl rfl hm hc w
theorem b211_39 {n : Nat} {h : q_Hp} {Q : Option Value → q_Hp → Prop} {x0 : Nat} {x1 : Int32} {x2 : Int32} {x3 : Int32} {x4 : Int32} {x5 : Int32} (k0 : q_ok h x0 11) (q : Q (some (.int (qI h x0 1))) h) : q_wp n 211 39 [some (.ref x0), some (.int x1), some (.int x2), some (.int x3), some (.int x4), some (.int x5)] [] h Q := by
  refine wp_loc rfl rfl ?_
  refine wp_getI rfl rfl rfl k0 ?_
  exact wp_ret rfl rfl q
theorem b212_0 {n : Nat} {h : q_Hp} {Q : Option Value → q_Hp → Prop} {x0 : Nat} {x1 : Int32} (wt : x1 < 0 → q_wp n 212 12 [some (.ref x0), some (.int x1)] [] h Q) (wf : ¬ x1 < 0 → q_wp n 212 4 [some (.ref x0), some (.int x1)] [] h Q) : q_wp n 212 0 [some (.ref x0), some (.int x1)] [] h Q := by
  refine wp_loc rfl rfl ?_
  exact wp_iflt (tgt := 12) rfl (by decide) wt wf
theorem b212_4 {n : Nat} {h : q_Hp} {Q : Option Value → q_Hp → Prop} {x0 : Nat} {x1 : Int32} (k0 : q_ok h x0 11) (wt : x1 ≤ (qI h x0 1) → q_wp n 212 14 [some (.ref x0), some (.int x1)] [] h Q) (wf : ¬ x1 ≤ (qI h x0 1) → q_wp n 212 12 [some (.ref x0), some (.int x1)] [] h Q) : q_wp n 212 4 [some (.ref x0), some (.int x1)] [] h Q := by
  refine wp_loc rfl rfl ?_
  refine wp_loc rfl rfl ?_
  refine wp_getI rfl rfl rfl k0 ?_
  exact wp_icle (tgt := 14) rfl (by decide) wt wf
theorem b212_12 {n : Nat} {h : q_Hp} {Q : Option Value → q_Hp → Prop} {x0 : Nat} {x1 : Int32} (q : Q (some (.int (-1))) h) : q_wp n 212 12 [some (.ref x0), some (.int x1)] [] h Q := by
  refine wp_iconst (v := (-1)) rfl (by decide) ?_
  exact wp_ret rfl rfl q
theorem b212_14 {n : Nat} {h : q_Hp} {Q : Option Value → q_Hp → Prop} {x0 : Nat} {x1 : Int32} (k0 : q_ok h x0 11) (q : Q (some (.int (qI (q_sI h x0 1 ((qI h x0 1) - x1)) x0 1))) (q_sI h x0 1 ((qI h x0 1) - x1))) : q_wp n 212 14 [some (.ref x0), some (.int x1)] [] h Q := by
  refine wp_loc rfl rfl ?_
  refine wp_stk rfl rfl rfl ?_
  refine wp_getI rfl rfl rfl k0 ?_
  refine wp_loc rfl rfl ?_
  refine wp_stk rfl rfl rfl ?_
  refine wp_putI rfl rfl (Or.inl rfl) rfl (fun h9 => by cases h9) k0 ?_
  refine wp_loc rfl rfl ?_
  refine wp_getI rfl rfl rfl k0 ?_
  exact wp_ret rfl rfl q
theorem b213_0 {n : Nat} {h : q_Hp} {Q : Option Value → q_Hp → Prop} {x0 : Nat} {v0 : Nat} {v1 : Nat} (k0 : q_ok h x0 11) (e0 : qR h x0 3 = v0) (e1 : qR h x0 0 = v1) {m : Nat} {P : q_Hp → Prop} (hc : q_mV m 187 [.ref v0, .ref v1, .int (qI h x0 1)] h P) (hm : m ≤ n) (w : ∀ h1 : q_Hp, P h1 → q_wp (n + 1) 213 15 [some (.ref x0), none] [] h1 Q) : q_wp (n + 1) 213 0 [some (.ref x0), none] [] h Q := by
  refine wp_loc rfl rfl ?_
  refine wp_getR rfl rfl rfl rfl k0 e0 ?_
  refine wp_loc rfl rfl ?_
  refine wp_getR rfl rfl rfl rfl k0 e1 ?_
  refine wp_loc rfl rfl ?_
  refine wp_getI rfl rfl rfl k0 ?_
  exact wp_callV (av := [.ref v0, .ref v1, .int (qI h x0 1)]) rfl rfl rfl (by decide) rfl rfl rfl hm hc w
theorem b213_15 {n : Nat} {h : q_Hp} {Q : Option Value → q_Hp → Prop} {x0 : Nat} {v0 : Nat} (k0 : q_ok h x0 11) (e0 : qR h x0 4 = v0) {m : Nat} {P : Int32 → q_Hp → Prop} (hc : q_mI m 161 [.ref v0] (q_sI h x0 1 0) P) (hm : m ≤ n) (w : ∀ (z : Int32) (h1 : q_Hp), P z h1 → q_wp (n + 1) 213 27 [some (.ref x0), none] [.int z] h1 Q) : q_wp (n + 1) 213 15 [some (.ref x0), none] [] h Q := by
  refine wp_loc rfl rfl ?_
  refine wp_iconst (v := 0) rfl (by decide) ?_
  refine wp_putI rfl rfl (Or.inl rfl) rfl (fun h9 => by cases h9) k0 ?_
  refine wp_loc rfl rfl ?_
  refine wp_getR rfl rfl rfl rfl k0 e0 ?_
  exact wp_callI (av := [.ref v0]) rfl rfl rfl (by decide) rfl rfl rfl hm hc w
theorem b213_27 {n : Nat} {h : q_Hp} {Q : Option Value → q_Hp → Prop} {x0 : Nat} {s0 : Int32} {v0 : Nat} (k0 : q_ok h x0 11) (e0 : qR h x0 4 = v0) {m : Nat} {P : Int32 → q_Hp → Prop} (hc : q_mI m 162 [.ref v0] h P) (hm : m ≤ n) (w : ∀ (z : Int32) (h1 : q_Hp), P z h1 → q_wp (n + 1) 213 36 [some (.ref x0), some (.int s0)] [.int z, .ref x0] h1 Q) : q_wp (n + 1) 213 27 [some (.ref x0), none] [.int s0] h Q := by
  refine wp_loc rfl rfl ?_
  refine wp_loc rfl rfl ?_
  refine wp_loc rfl rfl ?_
  refine wp_getR rfl rfl rfl rfl k0 e0 ?_
  exact wp_callI (av := [.ref v0]) rfl rfl rfl (by decide) rfl rfl rfl hm hc w
theorem b213_36 {n : Nat} {h : q_Hp} {Q : Option Value → q_Hp → Prop} {x0 : Nat} {x1 : Int32} {s0 : Int32} {s1 : Nat} (k0 : q_ok h s1 11) (wt : ¬ x1 = 0 → q_wp n 213 66 [some (.ref x0), some (.int x1)] [] (q_sI h s1 2 s0) Q) (wf : x1 = 0 → q_wp n 213 43 [some (.ref x0), some (.int x1)] [] (q_sI h s1 2 s0) Q) : q_wp n 213 36 [some (.ref x0), some (.int x1)] [.int s0, .ref s1] h Q := by
  refine wp_putI rfl rfl (Or.inl rfl) rfl (fun h9 => by cases h9) k0 ?_
  refine wp_loc rfl rfl ?_
  exact wp_ifne (tgt := 66) rfl (by decide) wt wf
theorem b213_43 {n : Nat} {h : q_Hp} {Q : Option Value → q_Hp → Prop} {x0 : Nat} {x1 : Int32} {v0 : Nat} {v1 : Nat} (k0 : q_ok h x0 11) (e0 : qR h x0 7 = v0) (e1 : qR h x0 6 = v1) {m : Nat} {P : Int32 → q_Hp → Prop} (hc : q_mI m 23 [.ref v0, .ref v1] h P) (hm : m ≤ n) (w : ∀ (z : Int32) (h1 : q_Hp), P z h1 → q_wp (n + 1) 213 54 [some (.ref x0), some (.int x1)] [.int z] h1 Q) : q_wp (n + 1) 213 43 [some (.ref x0), some (.int x1)] [] h Q := by
  refine wp_loc rfl rfl ?_
  refine wp_getR rfl rfl rfl rfl k0 e0 ?_
  refine wp_loc rfl rfl ?_
  refine wp_getR rfl rfl rfl rfl k0 e1 ?_
  exact wp_callI (av := [.ref v0, .ref v1]) rfl rfl rfl (by decide) rfl rfl rfl hm hc w
theorem b213_54 {n : Nat} {h : q_Hp} {Q : Option Value → q_Hp → Prop} {x0 : Nat} {x1 : Int32} {s0 : Int32} {v0 : Nat} (k0 : q_ok h x0 11) (e0 : qR h x0 7 = v0) {m : Nat} {P : Int32 → q_Hp → Prop} (hc : q_mI m 24 [.ref v0] h P) (hm : m ≤ n) (w : ∀ (z : Int32) (h1 : q_Hp), P z h1 → q_wp (n + 1) 213 63 [some (.ref x0), some (.int s0)] [.int z, .ref x0] h1 Q) : q_wp (n + 1) 213 54 [some (.ref x0), some (.int x1)] [.int s0] h Q := by
  refine wp_loc rfl rfl ?_
  refine wp_loc rfl rfl ?_
  refine wp_loc rfl rfl ?_
  refine wp_getR rfl rfl rfl rfl k0 e0 ?_
  exact wp_callI (av := [.ref v0]) rfl rfl rfl (by decide) rfl rfl rfl hm hc w
theorem b213_63 {n : Nat} {h : q_Hp} {Q : Option Value → q_Hp → Prop} {x0 : Nat} {x1 : Int32} {s0 : Int32} {s1 : Nat} (k0 : q_ok h s1 11) (w : q_wp n 213 66 [some (.ref x0), some (.int x1)] [] (q_sI h s1 2 s0) Q) : q_wp n 213 63 [some (.ref x0), some (.int x1)] [.int s0, .ref s1] h Q := by
  refine wp_putI rfl rfl (Or.inl rfl) rfl (fun h9 => by cases h9) k0 ?_
  exact w
theorem b213_66 {n : Nat} {h : q_Hp} {Q : Option Value → q_Hp → Prop} {x0 : Nat} {x1 : Int32} (wt : ¬ x1 = 0 → q_wp n 213 74 [some (.ref x0), some (.int x1)] [] h Q) (wf : x1 = 0 → q_wp n 213 70 [some (.ref x0), some (.int x1)] [] h Q) : q_wp n 213 66 [some (.ref x0), some (.int x1)] [] h Q := by
  refine wp_loc rfl rfl ?_
  exact wp_ifne (tgt := 74) rfl (by decide) wt wf
theorem b213_70 {n : Nat} {h : q_Hp} {Q : Option Value → q_Hp → Prop} {x0 : Nat} {x1 : Int32} {m : Nat} {P : q_Hp → Prop} (hc : q_mV m 235 [.ref x0] h P) (hm : m ≤ n) (w : ∀ h1 : q_Hp, P h1 → q_wp (n + 1) 213 74 [some (.ref x0), some (.int x1)] [] h1 Q) : q_wp (n + 1) 213 70 [some (.ref x0), some (.int x1)] [] h Q := by
  refine wp_loc rfl rfl ?_
  exact wp_callV (av := [.ref x0]) rfl rfl rfl (by decide) rfl rfl rfl hm hc w
theorem b213_74 {n : Nat} {h : q_Hp} {Q : Option Value → q_Hp → Prop} {x0 : Nat} {x1 : Int32} (q : Q (some (.int x1)) h) : q_wp n 213 74 [some (.ref x0), some (.int x1)] [] h Q := by
  refine wp_loc rfl rfl ?_
  exact wp_ret rfl rfl q
theorem b214_0 {n : Nat} {h : q_Hp} {Q : Option Value → q_Hp → Prop} {x0 : Nat} (k0 : q_ok h x0 11) (q : Q (some (.int (qI h x0 2))) h) : q_wp n 214 0 [some (.ref x0)] [] h Q := by
  refine wp_loc rfl rfl ?_
  refine wp_getI rfl rfl rfl k0 ?_
  exact wp_ret rfl rfl q
theorem b215_0 {n : Nat} {h : q_Hp} {Q : Option Value → q_Hp → Prop} {x0 : Nat} {x1 : Int32} {v0 : Nat} (k0 : q_ok h x0 11) (e0 : qR h x0 12 = v0) {m : Nat} {P : Int32 → q_Hp → Prop} (hc : q_mI m 139 [.ref v0] h P) (hm : m ≤ n) (w : ∀ (z : Int32) (h1 : q_Hp), P z h1 → q_wp (n + 1) 215 7 [some (.ref x0), some (.int x1), none] [.int z] h1 Q) : q_wp (n + 1) 215 0 [some (.ref x0), some (.int x1), none] [] h Q := by
  refine wp_loc rfl rfl ?_
  refine wp_getR rfl rfl rfl rfl k0 e0 ?_
  exact wp_callI (av := [.ref v0]) rfl rfl rfl (by decide) rfl rfl rfl hm hc w
theorem b215_7 {n : Nat} {h : q_Hp} {Q : Option Value → q_Hp → Prop} {x0 : Nat} {x1 : Int32} {s0 : Int32} (wt : ¬ s0 = 0 → q_wp n 215 21 [some (.ref x0), some (.int x1), none] [] h Q) (wf : s0 = 0 → q_wp n 215 10 [some (.ref x0), some (.int x1), none] [] h Q) : q_wp n 215 7 [some (.ref x0), some (.int x1), none] [.int s0] h Q := by
  exact wp_ifne (tgt := 21) rfl (by decide) wt wf
theorem b215_10 {n : Nat} {h : q_Hp} {Q : Option Value → q_Hp → Prop} {x0 : Nat} {x1 : Int32} {v0 : Nat} (k0 : q_ok h x0 11) (e0 : qR h x0 5 = v0) {m : Nat} {P : Int32 → q_Hp → Prop} (hc : q_mI m 2 [.ref v0, .int x1] h P) (hm : m ≤ n) (w : ∀ (z : Int32) (h1 : q_Hp), P z h1 → q_wp (n + 1) 215 18 [some (.ref x0), some (.int x1), none] [.int z] h1 Q) : q_wp (n + 1) 215 10 [some (.ref x0), some (.int x1), none] [] h Q := by
  refine wp_loc rfl rfl ?_
  refine wp_getR rfl rfl rfl rfl k0 e0 ?_
  refine wp_loc rfl rfl ?_
  exact wp_callI (av := [.ref v0, .int x1]) rfl rfl rfl (by decide) rfl rfl rfl hm hc w
theorem b215_18 {n : Nat} {h : q_Hp} {Q : Option Value → q_Hp → Prop} {x0 : Nat} {x1 : Int32} {s0 : Int32} (wt : ¬ s0 = 0 → q_wp n 215 23 [some (.ref x0), some (.int x1), none] [] h Q) (wf : s0 = 0 → q_wp n 215 21 [some (.ref x0), some (.int x1), none] [] h Q) : q_wp n 215 18 [some (.ref x0), some (.int x1), none] [.int s0] h Q := by
  exact wp_ifne (tgt := 23) rfl (by decide) wt wf
theorem b215_21 {n : Nat} {h : q_Hp} {Q : Option Value → q_Hp → Prop} {x0 : Nat} {x1 : Int32} (q : Q (some (.int (-1))) h) : q_wp n 215 21 [some (.ref x0), some (.int x1), none] [] h Q := by
  refine wp_iconst (v := (-1)) rfl (by decide) ?_
  exact wp_ret rfl rfl q
theorem b215_23 {n : Nat} {h : q_Hp} {Q : Option Value → q_Hp → Prop} {x0 : Nat} {x1 : Int32} {v0 : Nat} (k0 : q_ok h x0 11) (e0 : qR h x0 8 = v0) {m : Nat} {P : Int32 → q_Hp → Prop} (hc : q_mI m 77 [.ref v0, .int x1] h P) (hm : m ≤ n) (w : ∀ (z : Int32) (h1 : q_Hp), P z h1 → q_wp (n + 1) 215 31 [some (.ref x0), some (.int x1), none] [.int z] h1 Q) : q_wp (n + 1) 215 23 [some (.ref x0), some (.int x1), none] [] h Q := by
  refine wp_loc rfl rfl ?_
  refine wp_getR rfl rfl rfl rfl k0 e0 ?_
  refine wp_loc rfl rfl ?_
  exact wp_callI (av := [.ref v0, .int x1]) rfl rfl rfl (by decide) rfl rfl rfl hm hc w
theorem b215_31 {n : Nat} {h : q_Hp} {Q : Option Value → q_Hp → Prop} {x0 : Nat} {x1 : Int32} {s0 : Int32} (wt : s0 = (-1) → q_wp n 215 44 [some (.ref x0), some (.int x1), some (.int s0)] [] h Q) (wf : ¬ s0 = (-1) → q_wp n 215 37 [some (.ref x0), some (.int x1), some (.int s0)] [] h Q) : q_wp n 215 31 [some (.ref x0), some (.int x1), none] [.int s0] h Q := by
  refine wp_loc rfl rfl ?_
  refine wp_loc rfl rfl ?_
  refine wp_iconst (v := (-1)) rfl (by decide) ?_
  exact wp_iceq (tgt := 44) rfl (by decide) wt wf
theorem b215_37 {n : Nat} {h : q_Hp} {Q : Option Value → q_Hp → Prop} {x0 : Nat} {x1 : Int32} {x2 : Int32} {v0 : Nat} (k0 : q_ok h x0 11) (e0 : qR h x0 9 = v0) {m : Nat} {P : q_Hp → Prop} (hc : q_mV m 84 [.ref v0] h P) (hm : m ≤ n) (w : ∀ h1 : q_Hp, P h1 → q_wp (n + 1) 215 44 [some (.ref x0), some (.int x1), some (.int x2)] [] h1 Q) : q_wp (n + 1) 215 37 [some (.ref x0), some (.int x1), some (.int x2)] [] h Q := by
  refine wp_loc rfl rfl ?_
  refine wp_getR rfl rfl rfl rfl k0 e0 ?_
  exact wp_callV (av := [.ref v0]) rfl rfl rfl (by decide) rfl rfl rfl hm hc w
theorem b215_44 {n : Nat} {h : q_Hp} {Q : Option Value → q_Hp → Prop} {x0 : Nat} {x1 : Int32} {x2 : Int32} (q : Q (some (.int x2)) h) : q_wp n 215 44 [some (.ref x0), some (.int x1), some (.int x2)] [] h Q := by
  refine wp_loc rfl rfl ?_
  exact wp_ret rfl rfl q
theorem b216_0 {n : Nat} {h : q_Hp} {Q : Option Value → q_Hp → Prop} {x0 : Nat} {x1 : Int32} {x2 : Int32} {x3 : Int32} {v0 : Nat} (k0 : q_ok h x0 11) (e0 : qR h x0 12 = v0) {m : Nat} {P : Int32 → q_Hp → Prop} (hc : q_mI m 139 [.ref v0] h P) (hm : m ≤ n) (w : ∀ (z : Int32) (h1 : q_Hp), P z h1 → q_wp (n + 1) 216 7 [some (.ref x0), some (.int x1), some (.int x2), some (.int x3), none] [.int z] h1 Q) : q_wp (n + 1) 216 0 [some (.ref x0), some (.int x1), some (.int x2), some (.int x3), none] [] h Q := by
  refine wp_loc rfl rfl ?_
  refine wp_getR rfl rfl rfl rfl k0 e0 ?_
  exact wp_callI (av := [.ref v0]) rfl rfl rfl (by decide) rfl rfl rfl hm hc w
theorem b216_7 {n : Nat} {h : q_Hp} {Q : Option Value → q_Hp → Prop} {x0 : Nat} {x1 : Int32} {x2 : Int32} {x3 : Int32} {s0 : Int32} (wt : ¬ s0 = 0 → q_wp n 216 43 [some (.ref x0), some (.int x1), some (.int x2), some (.int x3), none] [] h Q) (wf : s0 = 0 → q_wp n 216 10 [some (.ref x0), some (.int x1), some (.int x2), some (.int x3), none] [] h Q) : q_wp n 216 7 [some (.ref x0), some (.int x1), some (.int x2), some (.int x3), none] [.int s0] h Q := by
  exact wp_ifne (tgt := 43) rfl (by decide) wt wf
theorem b216_10 {n : Nat} {h : q_Hp} {Q : Option Value → q_Hp → Prop} {x0 : Nat} {x1 : Int32} {x2 : Int32} {x3 : Int32} {v0 : Nat} (k0 : q_ok h x0 11) (e0 : qR h x0 5 = v0) {m : Nat} {P : Int32 → q_Hp → Prop} (hc : q_mI m 3 [.ref v0, .int x1] h P) (hm : m ≤ n) (w : ∀ (z : Int32) (h1 : q_Hp), P z h1 → q_wp (n + 1) 216 18 [some (.ref x0), some (.int x1), some (.int x2), some (.int x3), none] [.int z] h1 Q) : q_wp (n + 1) 216 10 [some (.ref x0), some (.int x1), some (.int x2), some (.int x3), none] [] h Q := by
  refine wp_loc rfl rfl ?_
  refine wp_getR rfl rfl rfl rfl k0 e0 ?_
  refine wp_loc rfl rfl ?_
  exact wp_callI (av := [.ref v0, .int x1]) rfl rfl rfl (by decide) rfl rfl rfl hm hc w
theorem b216_18 {n : Nat} {h : q_Hp} {Q : Option Value → q_Hp → Prop} {x0 : Nat} {x1 : Int32} {x2 : Int32} {x3 : Int32} {s0 : Int32} (wt : s0 = 0 → q_wp n 216 43 [some (.ref x0), some (.int x1), some (.int x2), some (.int x3), none] [] h Q) (wf : ¬ s0 = 0 → q_wp n 216 21 [some (.ref x0), some (.int x1), some (.int x2), some (.int x3), none] [] h Q) : q_wp n 216 18 [some (.ref x0), some (.int x1), some (.int x2), some (.int x3), none] [.int s0] h Q := by
  exact wp_ifeq (tgt := 43) rfl (by decide) wt wf
theorem b216_21 {n : Nat} {h : q_Hp} {Q : Option Value → q_Hp → Prop} {x0 : Nat} {x1 : Int32} {x2 : Int32} {x3 : Int32} {v0 : Nat} (k0 : q_ok h x0 11) (e0 : qR h x0 8 = v0) {m : Nat} {P : Int32 → q_Hp → Prop} (hc : q_mI m 65 [.ref v0, .int x2] h P) (hm : m ≤ n) (w : ∀ (z : Int32) (h1 : q_Hp), P z h1 → q_wp (n + 1) 216 29 [some (.ref x0), some (.int x1), some (.int x2), some (.int x3), none] [.int z] h1 Q) : q_wp (n + 1) 216 21 [some (.ref x0), some (.int x1), some (.int x2), some (.int x3), none] [] h Q := by
  refine wp_loc rfl rfl ?_
  refine wp_getR rfl rfl rfl rfl k0 e0 ?_
  refine wp_loc rfl rfl ?_
  exact wp_callI (av := [.ref v0, .int x2]) rfl rfl rfl (by decide) rfl rfl rfl hm hc w
theorem b216_29 {n : Nat} {h : q_Hp} {Q : Option Value → q_Hp → Prop} {x0 : Nat} {x1 : Int32} {x2 : Int32} {x3 : Int32} {s0 : Int32} (wt : s0 = 0 → q_wp n 216 43 [some (.ref x0), some (.int x1), some (.int x2), some (.int x3), none] [] h Q) (wf : ¬ s0 = 0 → q_wp n 216 32 [some (.ref x0), some (.int x1), some (.int x2), some (.int x3), none] [] h Q) : q_wp n 216 29 [some (.ref x0), some (.int x1), some (.int x2), some (.int x3), none] [.int s0] h Q := by
  exact wp_ifeq (tgt := 43) rfl (by decide) wt wf
theorem b216_32 {n : Nat} {h : q_Hp} {Q : Option Value → q_Hp → Prop} {x0 : Nat} {x1 : Int32} {x2 : Int32} {x3 : Int32} {v0 : Nat} (k0 : q_ok h x0 11) (e0 : qR h x0 8 = v0) {m : Nat} {P : Int32 → q_Hp → Prop} (hc : q_mI m 65 [.ref v0, .int x3] h P) (hm : m ≤ n) (w : ∀ (z : Int32) (h1 : q_Hp), P z h1 → q_wp (n + 1) 216 40 [some (.ref x0), some (.int x1), some (.int x2), some (.int x3), none] [.int z] h1 Q) : q_wp (n + 1) 216 32 [some (.ref x0), some (.int x1), some (.int x2), some (.int x3), none] [] h Q := by
  refine wp_loc rfl rfl ?_
  refine wp_getR rfl rfl rfl rfl k0 e0 ?_
  refine wp_loc rfl rfl ?_
  exact wp_callI (av := [.ref v0, .int x3]) rfl rfl rfl (by decide) rfl rfl rfl hm hc w
theorem b216_40 {n : Nat} {h : q_Hp} {Q : Option Value → q_Hp → Prop} {x0 : Nat} {x1 : Int32} {x2 : Int32} {x3 : Int32} {s0 : Int32} (wt : ¬ s0 = 0 → q_wp n 216 45 [some (.ref x0), some (.int x1), some (.int x2), some (.int x3), none] [] h Q) (wf : s0 = 0 → q_wp n 216 43 [some (.ref x0), some (.int x1), some (.int x2), some (.int x3), none] [] h Q) : q_wp n 216 40 [some (.ref x0), some (.int x1), some (.int x2), some (.int x3), none] [.int s0] h Q := by
  exact wp_ifne (tgt := 45) rfl (by decide) wt wf
theorem b216_43 {n : Nat} {h : q_Hp} {Q : Option Value → q_Hp → Prop} {x0 : Nat} {x1 : Int32} {x2 : Int32} {x3 : Int32} (q : Q (some (.int (-1))) h) : q_wp n 216 43 [some (.ref x0), some (.int x1), some (.int x2), some (.int x3), none] [] h Q := by
  refine wp_iconst (v := (-1)) rfl (by decide) ?_
  exact wp_ret rfl rfl q
theorem b216_45 {n : Nat} {h : q_Hp} {Q : Option Value → q_Hp → Prop} {x0 : Nat} {x1 : Int32} {x2 : Int32} {x3 : Int32} {v0 : Nat} {v1 : Nat} (k0 : q_ok h x0 11) (e0 : qR h x0 5 = v0) (e1 : qR h x0 8 = v1) {m : Nat} {P : Int32 → q_Hp → Prop} (hc : q_mI m 64 [.ref v1, .int x2] h P) (hm : m ≤ n) (w : ∀ (z : Int32) (h1 : q_Hp), P z h1 → q_wp (n + 1) 216 58 [some (.ref x0), some (.int x1), some (.int x2), some (.int x3), none] [.int z, .int x1, .ref v0] h1 Q) : q_wp (n + 1) 216 45 [some (.ref x0), some (.int x1), some (.int x2), some (.int x3), none] [] h Q := by
  refine wp_loc rfl rfl ?_
  refine wp_getR rfl rfl rfl rfl k0 e0 ?_
  refine wp_loc rfl rfl ?_
  refine wp_loc rfl rfl ?_
  refine wp_getR rfl rfl rfl rfl k0 e1 ?_
  refine wp_loc rfl rfl ?_
  exact wp_callI (av := [.ref v1, .int x2]) rfl rfl rfl (by decide) rfl rfl rfl hm hc w
theorem b216_58 {n : Nat} {h : q_Hp} {Q : Option Value → q_Hp → Prop} {x0 : Nat} {x1 : Int32} {x2 : Int32} {x3 : Int32} {s0 : Int32} {s1 : Int32} {s2 : Nat} {m : Nat} {P : Int32 → q_Hp → Prop} (hc : q_mI m 7 [.ref s2, .int s1, .int s0] h P) (hm : m ≤ n) (w : ∀ (z : Int32) (h1 : q_Hp), P z h1 → q_wp (n + 1) 216 61 [some (.ref x0), some (.int x1), some (.int x2), some (.int x3), none] [.int z] h1 Q) : q_wp (n + 1) 216 58 [some (.ref x0), some (.int x1), some (.int x2), some (.int x3), none] [.int s0, .int s1, .ref s2] h Q := by
  exact wp_callI (av := [.ref s2, .int s1, .int s0]) rfl rfl rfl (by decide) rfl rfl rfl hm hc w
theorem b216_61 {n : Nat} {h : q_Hp} {Q : Option Value → q_Hp → Prop} {x0 : Nat} {x1 : Int32} {x2 : Int32} {x3 : Int32} {s0 : Int32} (wt : s0 = 0 → q_wp n 216 83 [some (.ref x0), some (.int x1), some (.int x2), some (.int x3), none] [] h Q) (wf : ¬ s0 = 0 → q_wp n 216 64 [some (.ref x0), some (.int x1), some (.int x2), some (.int x3), none] [] h Q) : q_wp n 216 61 [some (.ref x0), some (.int x1), some (.int x2), some (.int x3), none] [.int s0] h Q := by
  exact wp_ifeq (tgt := 83) rfl (by decide) wt wf
theorem b216_64 {n : Nat} {h : q_Hp} {Q : Option Value → q_Hp → Prop} {x0 : Nat} {x1 : Int32} {x2 : Int32} {x3 : Int32} {v0 : Nat} {v1 : Nat} (k0 : q_ok h x0 11) (e0 : qR h x0 5 = v0) (e1 : qR h x0 8 = v1) {m : Nat} {P : Int32 → q_Hp → Prop} (hc : q_mI m 64 [.ref v1, .int x3] h P) (hm : m ≤ n) (w : ∀ (z : Int32) (h1 : q_Hp), P z h1 → q_wp (n + 1) 216 77 [some (.ref x0), some (.int x1), some (.int x2), some (.int x3), none] [.int z, .int x1, .ref v0] h1 Q) : q_wp (n + 1) 216 64 [some (.ref x0), some (.int x1), some (.int x2), some (.int x3), none] [] h Q := by
  refine wp_loc rfl rfl ?_
  refine wp_getR rfl rfl rfl rfl k0 e0 ?_
  refine wp_loc rfl rfl ?_
  refine wp_loc rfl rfl ?_
  refine wp_getR rfl rfl rfl rfl k0 e1 ?_
  refine wp_loc rfl rfl ?_
  exact wp_callI (av := [.ref v1, .int x3]) rfl rfl rfl (by decide) rfl rfl rfl hm hc w
theorem b216_77 {n : Nat} {h : q_Hp} {Q : Option Value → q_Hp → Prop} {x0 : Nat} {x1 : Int32} {x2 : Int32} {x3 : Int32} {s0 : Int32} {s1 : Int32} {s2 : Nat} {m : Nat} {P : Int32 → q_Hp → Prop} (hc : q_mI m 8 [.ref s2, .int s1, .int s0] h P) (hm : m ≤ n) (w : ∀ (z : Int32) (h1 : q_Hp), P z h1 → q_wp (n + 1) 216 80 [some (.ref x0), some (.int x1), some (.int x2), some (.int x3), none] [.int z] h1 Q) : q_wp (n + 1) 216 77 [some (.ref x0), some (.int x1), some (.int x2), some (.int x3), none] [.int s0, .int s1, .ref s2] h Q := by
  exact wp_callI (av := [.ref s2, .int s1, .int s0]) rfl rfl rfl (by decide) rfl rfl rfl hm hc w
theorem b216_80 {n : Nat} {h : q_Hp} {Q : Option Value → q_Hp → Prop} {x0 : Nat} {x1 : Int32} {x2 : Int32} {x3 : Int32} {s0 : Int32} (wt : ¬ s0 = 0 → q_wp n 216 85 [some (.ref x0), some (.int x1), some (.int x2), some (.int x3), none] [] h Q) (wf : s0 = 0 → q_wp n 216 83 [some (.ref x0), some (.int x1), some (.int x2), some (.int x3), none] [] h Q) : q_wp n 216 80 [some (.ref x0), some (.int x1), some (.int x2), some (.int x3), none] [.int s0] h Q := by
  exact wp_ifne (tgt := 85) rfl (by decide) wt wf
theorem b216_83 {n : Nat} {h : q_Hp} {Q : Option Value → q_Hp → Prop} {x0 : Nat} {x1 : Int32} {x2 : Int32} {x3 : Int32} (q : Q (some (.int (-1))) h) : q_wp n 216 83 [some (.ref x0), some (.int x1), some (.int x2), some (.int x3), none] [] h Q := by
  refine wp_iconst (v := (-1)) rfl (by decide) ?_
  exact wp_ret rfl rfl q
theorem b216_85 {n : Nat} {h : q_Hp} {Q : Option Value → q_Hp → Prop} {x0 : Nat} {x1 : Int32} {x2 : Int32} {x3 : Int32} {v0 : Nat} (k0 : q_ok h x0 11) (e0 : qR h x0 8 = v0) {m : Nat} {P : Int32 → q_Hp → Prop} (hc : q_mI m 78 [.ref v0, .int x1, .int x2, .int x3] h P) (hm : m ≤ n) (w : ∀ (z : Int32) (h1 : q_Hp), P z h1 → q_wp (n + 1) 216 95 [some (.ref x0), some (.int x1), some (.int x2), some (.int x3), none] [.int z] h1 Q) : q_wp (n + 1) 216 85 [some (.ref x0), some (.int x1), some (.int x2), some (.int x3), none] [] h Q := by
  refine wp_loc rfl rfl ?_
  refine wp_getR rfl rfl rfl rfl k0 e0 ?_
  refine wp_loc rfl rfl ?_
  refine wp_loc rfl rfl ?_
  refine wp_loc rfl rfl ?_
  exact wp_callI (av := [.ref v0, .int x1, .int x2, .int x3]) rfl rfl rfl (by decide) rfl rfl rfl hm hc w
theorem b216_95 {n : Nat} {h : q_Hp} {Q : Option Value → q_Hp → Prop} {x0 : Nat} {x1 : Int32} {x2 : Int32} {x3 : Int32} {s0 : Int32} (wt : s0 = (-1) → q_wp n 216 110 [some (.ref x0), some (.int x1), some (.int x2), some (.int x3), some (.int s0)] [] h Q) (wf : ¬ s0 = (-1) → q_wp n 216 103 [some (.ref x0), some (.int x1), some (.int x2), some (.int x3), some (.int s0)] [] h Q) : q_wp n 216 95 [some (.ref x0), some (.int x1), some (.int x2), some (.int x3), none] [.int s0] h Q := by
  refine wp_loc rfl rfl ?_
  refine wp_loc rfl rfl ?_
  refine wp_iconst (v := (-1)) rfl (by decide) ?_
  exact wp_iceq (tgt := 110) rfl (by decide) wt wf
theorem b216_103 {n : Nat} {h : q_Hp} {Q : Option Value → q_Hp → Prop} {x0 : Nat} {x1 : Int32} {x2 : Int32} {x3 : Int32} {x4 : Int32} {v0 : Nat} (k0 : q_ok h x0 11) (e0 : qR h x0 9 = v0) {m : Nat} {P : q_Hp → Prop} (hc : q_mV m 84 [.ref v0] h P) (hm : m ≤ n) (w : ∀ h1 : q_Hp, P h1 → q_wp (n + 1) 216 110 [some (.ref x0), some (.int x1), some (.int x2), some (.int x3), some (.int x4)] [] h1 Q) : q_wp (n + 1) 216 103 [some (.ref x0), some (.int x1), some (.int x2), some (.int x3), some (.int x4)] [] h Q := by
  refine wp_loc rfl rfl ?_
  refine wp_getR rfl rfl rfl rfl k0 e0 ?_
  exact wp_callV (av := [.ref v0]) rfl rfl rfl (by decide) rfl rfl rfl hm hc w
theorem b216_110 {n : Nat} {h : q_Hp} {Q : Option Value → q_Hp → Prop} {x0 : Nat} {x1 : Int32} {x2 : Int32} {x3 : Int32} {x4 : Int32} (q : Q (some (.int x4)) h) : q_wp n 216 110 [some (.ref x0), some (.int x1), some (.int x2), some (.int x3), some (.int x4)] [] h Q := by
  refine wp_loc rfl rfl ?_
  exact wp_ret rfl rfl q
theorem b217_0 {n : Nat} {h : q_Hp} {Q : Option Value → q_Hp → Prop} {x0 : Nat} {x1 : Int32} {x2 : Int32} {x3 : Int32} {v0 : Nat} (k0 : q_ok h x0 11) (e0 : qR h x0 12 = v0) {m : Nat} {P : Int32 → q_Hp → Prop} (hc : q_mI m 139 [.ref v0] h P) (hm : m ≤ n) (w : ∀ (z : Int32) (h1 : q_Hp), P z h1 → q_wp (n + 1) 217 7 [some (.ref x0), some (.int x1), some (.int x2), some (.int x3)] [.int z] h1 Q) : q_wp (n + 1) 217 0 [some (.ref x0), some (.int x1), some (.int x2), some (.int x3)] [] h Q := by
  refine wp_loc rfl rfl ?_
  refine wp_getR rfl rfl rfl rfl k0 e0 ?_
  exact wp_callI (av := [.ref v0]) rfl rfl rfl (by decide) rfl rfl rfl hm hc w
theorem b217_7 {n : Nat} {h : q_Hp} {Q : Option Value → q_Hp → Prop} {x0 : Nat} {x1 : Int32} {x2 : Int32} {x3 : Int32} {s0 : Int32} (wt : ¬ s0 = 0 → q_wp n 217 30 [some (.ref x0), some (.int x1), some (.int x2), some (.int x3)] [] h Q) (wf : s0 = 0 → q_wp n 217 10 [some (.ref x0), some (.int x1), some (.int x2), some (.int x3)] [] h Q) : q_wp n 217 7 [some (.ref x0), some (.int x1), some (.int x2), some (.int x3)] [.int s0] h Q := by
  exact wp_ifne (tgt := 30) rfl (by decide) wt wf
theorem b217_10 {n : Nat} {h : q_Hp} {Q : Option Value → q_Hp → Prop} {x0 : Nat} {x1 : Int32} {x2 : Int32} {x3 : Int32} {v0 : Nat} (k0 : q_ok h x0 11) (e0 : qR h x0 8 = v0) {m : Nat} {P : Int32 → q_Hp → Prop} (hc : q_mI m 65 [.ref v0, .int x1] h P) (hm : m ≤ n) (w : ∀ (z : Int32) (h1 : q_Hp), P z h1 → q_wp (n + 1) 217 18 [some (.ref x0), some (.int x1), some (.int x2), some (.int x3)] [.int z] h1 Q) : q_wp (n + 1) 217 10 [some (.ref x0), some (.int x1), some (.int x2), some (.int x3)] [] h Q := by
  refine wp_loc rfl rfl ?_
  refine wp_getR rfl rfl rfl rfl k0 e0 ?_
  refine wp_loc rfl rfl ?_
  exact wp_callI (av := [.ref v0, .int x1]) rfl rfl rfl (by decide) rfl rfl rfl hm hc w
theorem b217_18 {n : Nat} {h : q_Hp} {Q : Option Value → q_Hp → Prop} {x0 : Nat} {x1 : Int32} {x2 : Int32} {x3 : Int32} {s0 : Int32} (wt : s0 = 0 → q_wp n 217 30 [some (.ref x0), some (.int x1), some (.int x2), some (.int x3)] [] h Q) (wf : ¬ s0 = 0 → q_wp n 217 21 [some (.ref x0), some (.int x1), some (.int x2), some (.int x3)] [] h Q) : q_wp n 217 18 [some (.ref x0), some (.int x1), some (.int x2), some (.int x3)] [.int s0] h Q := by
  exact wp_ifeq (tgt := 30) rfl (by decide) wt wf
theorem b217_21 {n : Nat} {h : q_Hp} {Q : Option Value → q_Hp → Prop} {x0 : Nat} {x1 : Int32} {x2 : Int32} {x3 : Int32} (wt : x2 < 0 → q_wp n 217 30 [some (.ref x0), some (.int x1), some (.int x2), some (.int x3)] [] h Q) (wf : ¬ x2 < 0 → q_wp n 217 25 [some (.ref x0), some (.int x1), some (.int x2), some (.int x3)] [] h Q) : q_wp n 217 21 [some (.ref x0), some (.int x1), some (.int x2), some (.int x3)] [] h Q := by
  refine wp_loc rfl rfl ?_
  exact wp_iflt (tgt := 30) rfl (by decide) wt wf
theorem b217_25 {n : Nat} {h : q_Hp} {Q : Option Value → q_Hp → Prop} {x0 : Nat} {x1 : Int32} {x2 : Int32} {x3 : Int32} (wt : x2 ≤ 1 → q_wp n 217 32 [some (.ref x0), some (.int x1), some (.int x2), some (.int x3)] [] h Q) (wf : ¬ x2 ≤ 1 → q_wp n 217 30 [some (.ref x0), some (.int x1), some (.int x2), some (.int x3)] [] h Q) : q_wp n 217 25 [some (.ref x0), some (.int x1), some (.int x2), some (.int x3)] [] h Q := by
  refine wp_loc rfl rfl ?_
  refine wp_iconst (v := 1) rfl (by decide) ?_
  exact wp_icle (tgt := 32) rfl (by decide) wt wf
theorem b217_30 {n : Nat} {h : q_Hp} {Q : Option Value → q_Hp → Prop} {x0 : Nat} {x1 : Int32} {x2 : Int32} {x3 : Int32} (q : Q (some (.int 0)) h) : q_wp n 217 30 [some (.ref x0), some (.int x1), some (.int x2), some (.int x3)] [] h Q := by
  refine wp_iconst (v := 0) rfl (by decide) ?_
  exact wp_ret (r := some (.int 0)) rfl rfl q
theorem b217_32 {n : Nat} {h : q_Hp} {Q : Option Value → q_Hp → Prop} {x0 : Nat} {x1 : Int32} {x2 : Int32} {x3 : Int32} {v0 : Nat} (k0 : q_ok h x0 11) (e0 : qR h x0 8 = v0) {m : Nat} {P : q_Hp → Prop} (hc : q_mV m 67 [.ref v0, .int x1, .int x2, .int x3] h P) (hm : m ≤ n) (w : ∀ h1 : q_Hp, P h1 → q_wp (n + 1) 217 42 [some (.ref x0), some (.int x1), some (.int x2), some (.int x3)] [] h1 Q) : q_wp (n + 1) 217 32 [some (.ref x0), some (.int x1), some (.int x2), some (.int x3)] [] h Q := by
  refine wp_loc rfl rfl ?_
  refine wp_getR rfl rfl rfl rfl k0 e0 ?_
  refine wp_loc rfl rfl ?_
  refine wp_loc rfl rfl ?_
  refine wp_loc rfl rfl ?_
  exact wp_callV (av := [.ref v0, .int x1, .int x2, .int x3]) rfl rfl rfl (by decide) rfl rfl rfl hm hc w
theorem b217_42 {n : Nat} {h : q_Hp} {Q : Option Value → q_Hp → Prop} {x0 : Nat} {x1 : Int32} {x2 : Int32} {x3 : Int32} {v0 : Nat} (k0 : q_ok h x0 11) (e0 : qR h x0 9 = v0) {m : Nat} {P : q_Hp → Prop} (hc : q_mV m 84 [.ref v0] h P) (hm : m ≤ n) (w : ∀ h1 : q_Hp, P h1 → q_wp (n + 1) 217 49 [some (.ref x0), some (.int x1), some (.int x2), some (.int x3)] [] h1 Q) : q_wp (n + 1) 217 42 [some (.ref x0), some (.int x1), some (.int x2), some (.int x3)] [] h Q := by
  refine wp_loc rfl rfl ?_
  refine wp_getR rfl rfl rfl rfl k0 e0 ?_
  exact wp_callV (av := [.ref v0]) rfl rfl rfl (by decide) rfl rfl rfl hm hc w
theorem b217_49 {n : Nat} {h : q_Hp} {Q : Option Value → q_Hp → Prop} {x0 : Nat} {x1 : Int32} {x2 : Int32} {x3 : Int32} (q : Q (some (.int 1)) h) : q_wp n 217 49 [some (.ref x0), some (.int x1), some (.int x2), some (.int x3)] [] h Q := by
  refine wp_iconst (v := 1) rfl (by decide) ?_
  exact wp_ret (r := some (.int 1)) rfl rfl q
theorem b218_0 {n : Nat} {h : q_Hp} {Q : Option Value → q_Hp → Prop} {x0 : Nat} {x1 : Int32} {v0 : Nat} (k0 : q_ok h x0 11) (e0 : qR h x0 12 = v0) {m : Nat} {P : Int32 → q_Hp → Prop} (hc : q_mI m 139 [.ref v0] h P) (hm : m ≤ n) (w : ∀ (z : Int32) (h1 : q_Hp), P z h1 → q_wp (n + 1) 218 7 [some (.ref x0), some (.int x1)] [.int z] h1 Q) : q_wp (n + 1) 218 0 [some (.ref x0), some (.int x1)] [] h Q := by
  refine wp_loc rfl rfl ?_
  refine wp_getR rfl rfl rfl rfl k0 e0 ?_
  exact wp_callI (av := [.ref v0]) rfl rfl rfl (by decide) rfl rfl rfl hm hc w
theorem b218_7 {n : Nat} {h : q_Hp} {Q : Option Value → q_Hp → Prop} {x0 : Nat} {x1 : Int32} {s0 : Int32} (wt : ¬ s0 = 0 → q_wp n 218 21 [some (.ref x0), some (.int x1)] [] h Q) (wf : s0 = 0 → q_wp n 218 10 [some (.ref x0), some (.int x1)] [] h Q) : q_wp n 218 7 [some (.ref x0), some (.int x1)] [.int s0] h Q := by
  exact wp_ifne (tgt := 21) rfl (by decide) wt wf
theorem b218_10 {n : Nat} {h : q_Hp} {Q : Option Value → q_Hp → Prop} {x0 : Nat} {x1 : Int32} {v0 : Nat} (k0 : q_ok h x0 11) (e0 : qR h x0 8 = v0) {m : Nat} {P : Int32 → q_Hp → Prop} (hc : q_mI m 65 [.ref v0, .int x1] h P) (hm : m ≤ n) (w : ∀ (z : Int32) (h1 : q_Hp), P z h1 → q_wp (n + 1) 218 18 [some (.ref x0), some (.int x1)] [.int z] h1 Q) : q_wp (n + 1) 218 10 [some (.ref x0), some (.int x1)] [] h Q := by
  refine wp_loc rfl rfl ?_
  refine wp_getR rfl rfl rfl rfl k0 e0 ?_
  refine wp_loc rfl rfl ?_
  exact wp_callI (av := [.ref v0, .int x1]) rfl rfl rfl (by decide) rfl rfl rfl hm hc w
theorem b218_18 {n : Nat} {h : q_Hp} {Q : Option Value → q_Hp → Prop} {x0 : Nat} {x1 : Int32} {s0 : Int32} (wt : ¬ s0 = 0 → q_wp n 218 23 [some (.ref x0), some (.int x1)] [] h Q) (wf : s0 = 0 → q_wp n 218 21 [some (.ref x0), some (.int x1)] [] h Q) : q_wp n 218 18 [some (.ref x0), some (.int x1)] [.int s0] h Q := by
  exact wp_ifne (tgt := 23) rfl (by decide) wt wf
theorem b218_21 {n : Nat} {h : q_Hp} {Q : Option Value → q_Hp → Prop} {x0 : Nat} {x1 : Int32} (q : Q (some (.int 0)) h) : q_wp n 218 21 [some (.ref x0), some (.int x1)] [] h Q := by
  refine wp_iconst (v := 0) rfl (by decide) ?_
  exact wp_ret (r := some (.int 0)) rfl rfl q
theorem b218_23 {n : Nat} {h : q_Hp} {Q : Option Value → q_Hp → Prop} {x0 : Nat} {x1 : Int32} {v0 : Nat} (k0 : q_ok h x0 11) (e0 : qR h x0 8 = v0) {m : Nat} {P : Int32 → q_Hp → Prop} (hc : q_mI m 74 [.ref v0, .int x1] h P) (hm : m ≤ n) (w : ∀ (z : Int32) (h1 : q_Hp), P z h1 → q_wp (n + 1) 218 31 [some (.ref x0), some (.int x1)] [.int z] h1 Q) : q_wp (n + 1) 218 23 [some (.ref x0), some (.int x1)] [] h Q := by
  refine wp_loc rfl rfl ?_
  refine wp_getR rfl rfl rfl rfl k0 e0 ?_
  refine wp_loc rfl rfl ?_
  exact wp_callI (av := [.ref v0, .int x1]) rfl rfl rfl (by decide) rfl rfl rfl hm hc w
theorem b218_31 {n : Nat} {h : q_Hp} {Q : Option Value → q_Hp → Prop} {x0 : Nat} {x1 : Int32} {s0 : Int32} (wt : 0 < s0 → q_wp n 218 45 [some (.ref x0), some (.int x1)] [] h Q) (wf : ¬ 0 < s0 → q_wp n 218 34 [some (.ref x0), some (.int x1)] [] h Q) : q_wp n 218 31 [some (.ref x0), some (.int x1)] [.int s0] h Q := by
  exact wp_ifgt (tgt := 45) rfl (by decide) wt wf
theorem b218_34 {n : Nat} {h : q_Hp} {Q : Option Value → q_Hp → Prop} {x0 : Nat} {x1 : Int32} {v0 : Nat} (k0 : q_ok h x0 11) (e0 : qR h x0 8 = v0) {m : Nat} {P : Int32 → q_Hp → Prop} (hc : q_mI m 75 [.ref v0, .int x1] h P) (hm : m ≤ n) (w : ∀ (z : Int32) (h1 : q_Hp), P z h1 → q_wp (n + 1) 218 42 [some (.ref x0), some (.int x1)] [.int z] h1 Q) : q_wp (n + 1) 218 34 [some (.ref x0), some (.int x1)] [] h Q := by
  refine wp_loc rfl rfl ?_
  refine wp_getR rfl rfl rfl rfl k0 e0 ?_
  refine wp_loc rfl rfl ?_
  exact wp_callI (av := [.ref v0, .int x1]) rfl rfl rfl (by decide) rfl rfl rfl hm hc w
theorem b218_42 {n : Nat} {h : q_Hp} {Q : Option Value → q_Hp → Prop} {x0 : Nat} {x1 : Int32} {s0 : Int32} (wt : s0 ≤ 0 → q_wp n 218 47 [some (.ref x0), some (.int x1)] [] h Q) (wf : ¬ s0 ≤ 0 → q_wp n 218 45 [some (.ref x0), some (.int x1)] [] h Q) : q_wp n 218 42 [some (.ref x0), some (.int x1)] [.int s0] h Q := by
  exact wp_ifle (tgt := 47) rfl (by decide) wt wf
theorem b218_45 {n : Nat} {h : q_Hp} {Q : Option Value → q_Hp → Prop} {x0 : Nat} {x1 : Int32} (q : Q (some (.int 0)) h) : q_wp n 218 45 [some (.ref x0), some (.int x1)] [] h Q := by
  refine wp_iconst (v := 0) rfl (by decide) ?_
  exact wp_ret (r := some (.int 0)) rfl rfl q
theorem b218_47 {n : Nat} {h : q_Hp} {Q : Option Value → q_Hp → Prop} {x0 : Nat} {x1 : Int32} {v0 : Nat} (k0 : q_ok h x0 11) (e0 : qR h x0 8 = v0) {m : Nat} {P : q_Hp → Prop} (hc : q_mV m 79 [.ref v0, .int x1] h P) (hm : m ≤ n) (w : ∀ h1 : q_Hp, P h1 → q_wp (n + 1) 218 55 [some (.ref x0), some (.int x1)] [] h1 Q) : q_wp (n + 1) 218 47 [some (.ref x0), some (.int x1)] [] h Q := by
  refine wp_loc rfl rfl ?_
  refine wp_getR rfl rfl rfl rfl k0 e0 ?_
  refine wp_loc rfl rfl ?_
  exact wp_callV (av := [.ref v0, .int x1]) rfl rfl rfl (by decide) rfl rfl rfl hm hc w
theorem b218_55 {n : Nat} {h : q_Hp} {Q : Option Value → q_Hp → Prop} {x0 : Nat} {x1 : Int32} {v0 : Nat} (k0 : q_ok h x0 11) (e0 : qR h x0 9 = v0) {m : Nat} {P : q_Hp → Prop} (hc : q_mV m 84 [.ref v0] h P) (hm : m ≤ n) (w : ∀ h1 : q_Hp, P h1 → q_wp (n + 1) 218 62 [some (.ref x0), some (.int x1)] [] h1 Q) : q_wp (n + 1) 218 55 [some (.ref x0), some (.int x1)] [] h Q := by
  refine wp_loc rfl rfl ?_
  refine wp_getR rfl rfl rfl rfl k0 e0 ?_
  exact wp_callV (av := [.ref v0]) rfl rfl rfl (by decide) rfl rfl rfl hm hc w
theorem b218_62 {n : Nat} {h : q_Hp} {Q : Option Value → q_Hp → Prop} {x0 : Nat} {x1 : Int32} (q : Q (some (.int 1)) h) : q_wp n 218 62 [some (.ref x0), some (.int x1)] [] h Q := by
  refine wp_iconst (v := 1) rfl (by decide) ?_
  exact wp_ret (r := some (.int 1)) rfl rfl q
theorem b219_0 {n : Nat} {h : q_Hp} {Q : Option Value → q_Hp → Prop} {x0 : Nat} {x1 : Int32} {v0 : Nat} (k0 : q_ok h x0 11) (e0 : qR h x0 12 = v0) {m : Nat} {P : Int32 → q_Hp → Prop} (hc : q_mI m 139 [.ref v0] h P) (hm : m ≤ n) (w : ∀ (z : Int32) (h1 : q_Hp), P z h1 → q_wp (n + 1) 219 7 [some (.ref x0), some (.int x1)] [.int z] h1 Q) : q_wp (n + 1) 219 0 [some (.ref x0), some (.int x1)] [] h Q := by
  refine wp_loc rfl rfl ?_
  refine wp_getR rfl rfl rfl rfl k0 e0 ?_
  exact wp_callI (av := [.ref v0]) rfl rfl rfl (by decide) rfl rfl rfl hm hc w
theorem b219_7 {n : Nat} {h : q_Hp} {Q : Option Value → q_Hp → Prop} {x0 : Nat} {x1 : Int32} {s0 : Int32} (wt : ¬ s0 = 0 → q_wp n 219 21 [some (.ref x0), some (.int x1)] [] h Q) (wf : s0 = 0 → q_wp n 219 10 [some (.ref x0), some (.int x1)] [] h Q) : q_wp n 219 7 [some (.ref x0), some (.int x1)] [.int s0] h Q := by
  exact wp_ifne (tgt := 21) rfl (by decide) wt wf
theorem b219_10 {n : Nat} {h : q_Hp} {Q : Option Value → q_Hp → Prop} {x0 : Nat} {x1 : Int32} {v0 : Nat} (k0 : q_ok h x0 11) (e0 : qR h x0 8 = v0) {m : Nat} {P : Int32 → q_Hp → Prop} (hc : q_mI m 71 [.ref v0, .int x1] h P) (hm : m ≤ n) (w : ∀ (z : Int32) (h1 : q_Hp), P z h1 → q_wp (n + 1) 219 18 [some (.ref x0), some (.int x1)] [.int z] h1 Q) : q_wp (n + 1) 219 10 [some (.ref x0), some (.int x1)] [] h Q := by
  refine wp_loc rfl rfl ?_
  refine wp_getR rfl rfl rfl rfl k0 e0 ?_
  refine wp_loc rfl rfl ?_
  exact wp_callI (av := [.ref v0, .int x1]) rfl rfl rfl (by decide) rfl rfl rfl hm hc w
theorem b219_18 {n : Nat} {h : q_Hp} {Q : Option Value → q_Hp → Prop} {x0 : Nat} {x1 : Int32} {s0 : Int32} (wt : ¬ s0 = 0 → q_wp n 219 23 [some (.ref x0), some (.int x1)] [] h Q) (wf : s0 = 0 → q_wp n 219 21 [some (.ref x0), some (.int x1)] [] h Q) : q_wp n 219 18 [some (.ref x0), some (.int x1)] [.int s0] h Q := by
  exact wp_ifne (tgt := 23) rfl (by decide) wt wf
theorem b219_21 {n : Nat} {h : q_Hp} {Q : Option Value → q_Hp → Prop} {x0 : Nat} {x1 : Int32} (q : Q (some (.int 0)) h) : q_wp n 219 21 [some (.ref x0), some (.int x1)] [] h Q := by
  refine wp_iconst (v := 0) rfl (by decide) ?_
  exact wp_ret (r := some (.int 0)) rfl rfl q
theorem b219_23 {n : Nat} {h : q_Hp} {Q : Option Value → q_Hp → Prop} {x0 : Nat} {x1 : Int32} {v0 : Nat} (k0 : q_ok h x0 11) (e0 : qR h x0 8 = v0) {m : Nat} {P : q_Hp → Prop} (hc : q_mV m 80 [.ref v0, .int x1] h P) (hm : m ≤ n) (w : ∀ h1 : q_Hp, P h1 → q_wp (n + 1) 219 31 [some (.ref x0), some (.int x1)] [] h1 Q) : q_wp (n + 1) 219 23 [some (.ref x0), some (.int x1)] [] h Q := by
  refine wp_loc rfl rfl ?_
  refine wp_getR rfl rfl rfl rfl k0 e0 ?_
  refine wp_loc rfl rfl ?_
  exact wp_callV (av := [.ref v0, .int x1]) rfl rfl rfl (by decide) rfl rfl rfl hm hc w
theorem b219_31 {n : Nat} {h : q_Hp} {Q : Option Value → q_Hp → Prop} {x0 : Nat} {x1 : Int32} {v0 : Nat} (k0 : q_ok h x0 11) (e0 : qR h x0 9 = v0) {m : Nat} {P : q_Hp → Prop} (hc : q_mV m 84 [.ref v0] h P) (hm : m ≤ n) (w : ∀ h1 : q_Hp, P h1 → q_wp (n + 1) 219 38 [some (.ref x0), some (.int x1)] [] h1 Q) : q_wp (n + 1) 219 31 [some (.ref x0), some (.int x1)] [] h Q := by
  refine wp_loc rfl rfl ?_
  refine wp_getR rfl rfl rfl rfl k0 e0 ?_
  exact wp_callV (av := [.ref v0]) rfl rfl rfl (by decide) rfl rfl rfl hm hc w
theorem b219_38 {n : Nat} {h : q_Hp} {Q : Option Value → q_Hp → Prop} {x0 : Nat} {x1 : Int32} (q : Q (some (.int 1)) h) : q_wp n 219 38 [some (.ref x0), some (.int x1)] [] h Q := by
  refine wp_iconst (v := 1) rfl (by decide) ?_
  exact wp_ret (r := some (.int 1)) rfl rfl q
theorem b220_0 {n : Nat} {h : q_Hp} {Q : Option Value → q_Hp → Prop} {x0 : Nat} {x1 : Int32} {x2 : Int32} (wt : x2 = 1 → q_wp n 220 10 [some (.ref x0), some (.int x1), some (.int x2)] [] h Q) (wf : ¬ x2 = 1 → q_wp n 220 5 [some (.ref x0), some (.int x1), some (.int x2)] [] h Q) : q_wp n 220 0 [some (.ref x0), some (.int x1), some (.int x2)] [] h Q := by
  refine wp_loc rfl rfl ?_
  refine wp_iconst (v := 1) rfl (by decide) ?_
  exact wp_iceq (tgt := 10) rfl (by decide) wt wf
theorem b220_5 {n : Nat} {h : q_Hp} {Q : Option Value → q_Hp → Prop} {x0 : Nat} {x1 : Int32} {x2 : Int32} (wt : ¬ x2 = 2 → q_wp n 220 22 [some (.ref x0), some (.int x1), some (.int x2)] [] h Q) (wf : x2 = 2 → q_wp n 220 10 [some (.ref x0), some (.int x1), some (.int x2)] [] h Q) : q_wp n 220 5 [some (.ref x0), some (.int x1), some (.int x2)] [] h Q := by
  refine wp_loc rfl rfl ?_
  refine wp_iconst (v := 2) rfl (by decide) ?_
  exact wp_icne (tgt := 22) rfl (by decide) wt wf
theorem b220_10 {n : Nat} {h : q_Hp} {Q : Option Value → q_Hp → Prop} {x0 : Nat} {x1 : Int32} {x2 : Int32} {v0 : Nat} (k0 : q_ok h x0 11) (e0 : qR h x0 8 = v0) {m : Nat} {P : Int32 → q_Hp → Prop} (hc : q_mI m 66 [.ref v0, .int x1, .int (x2 - 1)] h P) (hm : m ≤ n) (w : ∀ (z : Int32) (h1 : q_Hp), P z h1 → q_wp (n + 1) 220 21 [some (.ref x0), some (.int x1), some (.int x2)] [.int z] h1 Q) : q_wp (n + 1) 220 10 [some (.ref x0), some (.int x1), some (.int x2)] [] h Q := by
  refine wp_loc rfl rfl ?_
  refine wp_getR rfl rfl rfl rfl k0 e0 ?_
  refine wp_loc rfl rfl ?_
  refine wp_loc rfl rfl ?_
  refine wp_iconst (v := 1) rfl (by decide) ?_
  refine wp_stk rfl rfl rfl ?_
  exact wp_callI (av := [.ref v0, .int x1, .int (x2 - 1)]) rfl rfl rfl (by decide) rfl rfl rfl hm hc w
theorem b220_21 {n : Nat} {h : q_Hp} {Q : Option Value → q_Hp → Prop} {x0 : Nat} {x1 : Int32} {x2 : Int32} {s0 : Int32} (q : Q (some (.int s0)) h) : q_wp n 220 21 [some (.ref x0), some (.int x1), some (.int x2)] [.int s0] h Q := by
  exact wp_ret rfl rfl q
theorem b220_22 {n : Nat} {h : q_Hp} {Q : Option Value → q_Hp → Prop} {x0 : Nat} {x1 : Int32} {x2 : Int32} {v0 : Nat} (k0 : q_ok h x0 11) (e0 : qR h x0 8 = v0) {m : Nat} {P : Int32 → q_Hp → Prop} (hc : q_mI m 65 [.ref v0, .int x1] h P) (hm : m ≤ n) (w : ∀ (z : Int32) (h1 : q_Hp), P z h1 → q_wp (n + 1) 220 30 [some (.ref x0), some (.int x1), some (.int x2)] [.int z] h1 Q) : q_wp (n + 1) 220 22 [some (.ref x0), some (.int x1), some (.int x2)] [] h Q := by
  refine wp_loc rfl rfl ?_
  refine wp_getR rfl rfl rfl rfl k0 e0 ?_
  refine wp_loc rfl rfl ?_
  exact wp_callI (av := [.ref v0, .int x1]) rfl rfl rfl (by decide) rfl rfl rfl hm hc w
theorem b220_30 {n : Nat} {h : q_Hp} {Q : Option Value → q_Hp → Prop} {x0 : Nat} {x1 : Int32} {x2 : Int32} {s0 : Int32} (wt : ¬ s0 = 0 → q_wp n 220 35 [some (.ref x0), some (.int x1), some (.int x2)] [] h Q) (wf : s0 = 0 → q_wp n 220 33 [some (.ref x0), some (.int x1), some (.int x2)] [] h Q) : q_wp n 220 30 [some (.ref x0), some (.int x1), some (.int x2)] [.int s0] h Q := by
  exact wp_ifne (tgt := 35) rfl (by decide) wt wf
theorem b220_33 {n : Nat} {h : q_Hp} {Q : Option Value → q_Hp → Prop} {x0 : Nat} {x1 : Int32} {x2 : Int32} (q : Q (some (.int (-1))) h) : q_wp n 220 33 [some (.ref x0), some (.int x1), some (.int x2)] [] h Q := by
  refine wp_iconst (v := (-1)) rfl (by decide) ?_
  exact wp_ret rfl rfl q
theorem b220_35 {n : Nat} {h : q_Hp} {Q : Option Value → q_Hp → Prop} {x0 : Nat} {x1 : Int32} {x2 : Int32} (w0 : x2 = 0 → q_wp n 220 72 [some (.ref x0), some (.int x1), some (.int x2)] [] h Q) (w1 : x2 = 1 → q_wp n 220 99 [some (.ref x0), some (.int x1), some (.int x2)] [] h Q) (w2 : x2 = 2 → q_wp n 220 99 [some (.ref x0), some (.int x1), some (.int x2)] [] h Q) (w3 : x2 = 3 → q_wp n 220 81 [some (.ref x0), some (.int x1), some (.int x2)] [] h Q) (w4 : x2 = 4 → q_wp n 220 90 [some (.ref x0), some (.int x1), some (.int x2)] [] h Q) (wd : (x2.toInt < 0 ∨ 4 < x2.toInt) → q_wp n 220 99 [some (.ref x0), some (.int x1), some (.int x2)] [] h Q) : q_wp n 220 35 [some (.ref x0), some (.int x1), some (.int x2)] [] h Q := by
  refine wp_loc rfl rfl ?_
  refine wp_tab (dt := 99) (tg := fun j => [72, 99, 99, 81, 90].getD j 0) rfl (by decide) (by decide) (by decide) (fun j hj hx => ?_) wd
  have hj : j < 5 := hj
  match j, hj, hx with
  | 0, _, hx => exact w0 (Int32.toInt_inj.mp hx)
  | 1, _, hx => exact w1 (Int32.toInt_inj.mp hx)
  | 2, _, hx => exact w2 (Int32.toInt_inj.mp hx)
  | 3, _, hx => exact w3 (Int32.toInt_inj.mp hx)
  | 4, _, hx => exact w4 (Int32.toInt_inj.mp hx)
theorem b220_72 {n : Nat} {h : q_Hp} {Q : Option Value → q_Hp → Prop} {x0 : Nat} {x1 : Int32} {x2 : Int32} {v0 : Nat} (k0 : q_ok h x0 11) (e0 : qR h x0 8 = v0) {m : Nat} {P : Int32 → q_Hp → Prop} (hc : q_mI m 64 [.ref v0, .int x1] h P) (hm : m ≤ n) (w : ∀ (z : Int32) (h1 : q_Hp), P z h1 → q_wp (n + 1) 220 80 [some (.ref x0), some (.int x1), some (.int x2)] [.int z] h1 Q) : q_wp (n + 1) 220 72 [some (.ref x0), some (.int x1), some (.int x2)] [] h Q := by
  refine wp_loc rfl rfl ?_
  refine wp_getR rfl rfl rfl rfl k0 e0 ?_
  refine wp_loc rfl rfl ?_
  exact wp_callI (av := [.ref v0, .int x1]) rfl rfl rfl (by decide) rfl rfl rfl hm hc w
theorem b220_80 {n : Nat} {h : q_Hp} {Q : Option Value → q_Hp → Prop} {x0 : Nat} {x1 : Int32} {x2 : Int32} {s0 : Int32} (q : Q (some (.int s0)) h) : q_wp n 220 80 [some (.ref x0), some (.int x1), some (.int x2)] [.int s0] h Q := by
  exact wp_ret rfl rfl q
theorem b220_81 {n : Nat} {h : q_Hp} {Q : Option Value → q_Hp → Prop} {x0 : Nat} {x1 : Int32} {x2 : Int32} {v0 : Nat} (k0 : q_ok h x0 11) (e0 : qR h x0 8 = v0) {m : Nat} {P : Int32 → q_Hp → Prop} (hc : q_mI m 74 [.ref v0, .int x1] h P) (hm : m ≤ n) (w : ∀ (z : Int32) (h1 : q_Hp), P z h1 → q_wp (n + 1) 220 89 [some (.ref x0), some (.int x1), some (.int x2)] [.int z] h1 Q) : q_wp (n + 1) 220 81 [some (.ref x0), some (.int x1), some (.int x2)] [] h Q := by
  refine wp_loc rfl rfl ?_
  refine wp_getR rfl rfl rfl rfl k0 e0 ?_
  refine wp_loc rfl rfl ?_
  exact wp_callI (av := [.ref v0, .int x1]) rfl rfl rfl (by decide) rfl rfl rfl hm hc w
theorem b220_89 {n : Nat} {h : q_Hp} {Q : Option Value → q_Hp → Prop} {x0 : Nat} {x1 : Int32} {x2 : Int32} {s0 : Int32} (q : Q (some (.int s0)) h) : q_wp n 220 89 [some (.ref x0), some (.int x1), some (.int x2)] [.int s0] h Q := by
  exact wp_ret rfl rfl q
theorem b220_90 {n : Nat} {h : q_Hp} {Q : Option Value → q_Hp → Prop} {x0 : Nat} {x1 : Int32} {x2 : Int32} {v0 : Nat} (k0 : q_ok h x0 11) (e0 : qR h x0 8 = v0) {m : Nat} {P : Int32 → q_Hp → Prop} (hc : q_mI m 75 [.ref v0, .int x1] h P) (hm : m ≤ n) (w : ∀ (z : Int32) (h1 : q_Hp), P z h1 → q_wp (n + 1) 220 98 [some (.ref x0), some (.int x1), some (.int x2)] [.int z] h1 Q) : q_wp (n + 1) 220 90 [some (.ref x0), some (.int x1), some (.int x2)] [] h Q := by
  refine wp_loc rfl rfl ?_
  refine wp_getR rfl rfl rfl rfl k0 e0 ?_
  refine wp_loc rfl rfl ?_
  exact wp_callI (av := [.ref v0, .int x1]) rfl rfl rfl (by decide) rfl rfl rfl hm hc w
theorem b220_98 {n : Nat} {h : q_Hp} {Q : Option Value → q_Hp → Prop} {x0 : Nat} {x1 : Int32} {x2 : Int32} {s0 : Int32} (q : Q (some (.int s0)) h) : q_wp n 220 98 [some (.ref x0), some (.int x1), some (.int x2)] [.int s0] h Q := by
  exact wp_ret rfl rfl q
theorem b220_99 {n : Nat} {h : q_Hp} {Q : Option Value → q_Hp → Prop} {x0 : Nat} {x1 : Int32} {x2 : Int32} (q : Q (some (.int (-1))) h) : q_wp n 220 99 [some (.ref x0), some (.int x1), some (.int x2)] [] h Q := by
  refine wp_iconst (v := (-1)) rfl (by decide) ?_
  exact wp_ret rfl rfl q
theorem b221_0 {n : Nat} {h : q_Hp} {Q : Option Value → q_Hp → Prop} {x0 : Nat} {x1 : Int32} {x2 : Int32} {v0 : Nat} (k0 : q_ok h x0 11) (e0 : qR h x0 8 = v0) {m : Nat} {P : Int32 → q_Hp → Prop} (hc : q_mI m 71 [.ref v0, .int x1] h P) (hm : m ≤ n) (w : ∀ (z : Int32) (h1 : q_Hp), P z h1 → q_wp (n + 1) 221 8 [some (.ref x0), some (.int x1), some (.int x2)] [.int z] h1 Q) : q_wp (n + 1) 221 0 [some (.ref x0), some (.int x1), some (.int x2)] [] h Q := by
  refine wp_loc rfl rfl ?_
  refine wp_getR rfl rfl rfl rfl k0 e0 ?_
  refine wp_loc rfl rfl ?_
  exact wp_callI (av := [.ref v0, .int x1]) rfl rfl rfl (by decide) rfl rfl rfl hm hc w
theorem b221_8 {n : Nat} {h : q_Hp} {Q : Option Value → q_Hp → Prop} {x0 : Nat} {x1 : Int32} {x2 : Int32} {s0 : Int32} (wt : ¬ s0 = 0 → q_wp n 221 13 [some (.ref x0), some (.int x1), some (.int x2)] [] h Q) (wf : s0 = 0 → q_wp n 221 11 [some (.ref x0), some (.int x1), some (.int x2)] [] h Q) : q_wp n 221 8 [some (.ref x0), some (.int x1), some (.int x2)] [.int s0] h Q := by
  exact wp_ifne (tgt := 13) rfl (by decide) wt wf
theorem b221_11 {n : Nat} {h : q_Hp} {Q : Option Value → q_Hp → Prop} {x0 : Nat} {x1 : Int32} {x2 : Int32} (q : Q (some (.int (-1))) h) : q_wp n 221 11 [some (.ref x0), some (.int x1), some (.int x2)] [] h Q := by
  refine wp_iconst (v := (-1)) rfl (by decide) ?_
  exact wp_ret rfl rfl q
theorem b221_13 {n : Nat} {h : q_Hp} {Q : Option Value → q_Hp → Prop} {x0 : Nat} {x1 : Int32} {x2 : Int32} (w0 : x2 = 0 → q_wp n 221 40 [some (.ref x0), some (.int x1), some (.int x2)] [] h Q) (w1 : x2 = 1 → q_wp n 221 49 [some (.ref x0), some (.int x1), some (.int x2)] [] h Q) (w2 : x2 = 2 → q_wp n 221 58 [some (.ref x0), some (.int x1), some (.int x2)] [] h Q) (wd : (x2.toInt < 0 ∨ 2 < x2.toInt) → q_wp n 221 67 [some (.ref x0), some (.int x1), some (.int x2)] [] h Q) : q_wp n 221 13 [some (.ref x0), some (.int x1), some (.int x2)] [] h Q := by
  refine wp_loc rfl rfl ?_
  refine wp_tab (dt := 67) (tg := fun j => [40, 49, 58].getD j 0) rfl (by decide) (by decide) (by decide) (fun j hj hx => ?_) wd
  have hj : j < 3 := hj
  match j, hj, hx with
  | 0, _, hx => exact w0 (Int32.toInt_inj.mp hx)
  | 1, _, hx => exact w1 (Int32.toInt_inj.mp hx)
  | 2, _, hx => exact w2 (Int32.toInt_inj.mp hx)
theorem b221_40 {n : Nat} {h : q_Hp} {Q : Option Value → q_Hp → Prop} {x0 : Nat} {x1 : Int32} {x2 : Int32} {v0 : Nat} (k0 : q_ok h x0 11) (e0 : qR h x0 8 = v0) {m : Nat} {P : Int32 → q_Hp → Prop} (hc : q_mI m 68 [.ref v0, .int x1] h P) (hm : m ≤ n) (w : ∀ (z : Int32) (h1 : q_Hp), P z h1 → q_wp (n + 1) 221 48 [some (.ref x0), some (.int x1), some (.int x2)] [.int z] h1 Q) : q_wp (n + 1) 221 40 [some (.ref x0), some (.int x1), some (.int x2)] [] h Q := by
  refine wp_loc rfl rfl ?_
  refine wp_getR rfl rfl rfl rfl k0 e0 ?_
  refine wp_loc rfl rfl ?_
  exact wp_callI (av := [.ref v0, .int x1]) rfl rfl rfl (by decide) rfl rfl rfl hm hc w
theorem b221_48 {n : Nat} {h : q_Hp} {Q : Option Value → q_Hp → Prop} {x0 : Nat} {x1 : Int32} {x2 : Int32} {s0 : Int32} (q : Q (some (.int s0)) h) : q_wp n 221 48 [some (.ref x0), some (.int x1), some (.int x2)] [.int s0] h Q := by
  exact wp_ret rfl rfl q
theorem b221_49 {n : Nat} {h : q_Hp} {Q : Option Value → q_Hp → Prop} {x0 : Nat} {x1 : Int32} {x2 : Int32} {v0 : Nat} (k0 : q_ok h x0 11) (e0 : qR h x0 8 = v0) {m : Nat} {P : Int32 → q_Hp → Prop} (hc : q_mI m 69 [.ref v0, .int x1] h P) (hm : m ≤ n) (w : ∀ (z : Int32) (h1 : q_Hp), P z h1 → q_wp (n + 1) 221 57 [some (.ref x0), some (.int x1), some (.int x2)] [.int z] h1 Q) : q_wp (n + 1) 221 49 [some (.ref x0), some (.int x1), some (.int x2)] [] h Q := by
  refine wp_loc rfl rfl ?_
  refine wp_getR rfl rfl rfl rfl k0 e0 ?_
  refine wp_loc rfl rfl ?_
  exact wp_callI (av := [.ref v0, .int x1]) rfl rfl rfl (by decide) rfl rfl rfl hm hc w
theorem b221_57 {n : Nat} {h : q_Hp} {Q : Option Value → q_Hp → Prop} {x0 : Nat} {x1 : Int32} {x2 : Int32} {s0 : Int32} (q : Q (some (.int s0)) h) : q_wp n 221 57 [some (.ref x0), some (.int x1), some (.int x2)] [.int s0] h Q := by
  exact wp_ret rfl rfl q
theorem b221_58 {n : Nat} {h : q_Hp} {Q : Option Value → q_Hp → Prop} {x0 : Nat} {x1 : Int32} {x2 : Int32} {v0 : Nat} (k0 : q_ok h x0 11) (e0 : qR h x0 8 = v0) {m : Nat} {P : Int32 → q_Hp → Prop} (hc : q_mI m 70 [.ref v0, .int x1] h P) (hm : m ≤ n) (w : ∀ (z : Int32) (h1 : q_Hp), P z h1 → q_wp (n + 1) 221 66 [some (.ref x0), some (.int x1), some (.int x2)] [.int z] h1 Q) : q_wp (n + 1) 221 58 [some (.ref x0), some (.int x1), some (.int x2)] [] h Q := by
  refine wp_loc rfl rfl ?_
  refine wp_getR rfl rfl rfl rfl k0 e0 ?_
  refine wp_loc rfl rfl ?_
  exact wp_callI (av := [.ref v0, .int x1]) rfl rfl rfl (by decide) rfl rfl rfl hm hc w
theorem b221_66 {n : Nat} {h : q_Hp} {Q : Option Value → q_Hp → Prop} {x0 : Nat} {x1 : Int32} {x2 : Int32} {s0 : Int32} (q : Q (some (.int s0)) h) : q_wp n 221 66 [some (.ref x0), some (.int x1), some (.int x2)] [.int s0] h Q := by
  exact wp_ret rfl rfl q
theorem b221_67 {n : Nat} {h : q_Hp} {Q : Option Value → q_Hp → Prop} {x0 : Nat} {x1 : Int32} {x2 : Int32} (q : Q (some (.int (-1))) h) : q_wp n 221 67 [some (.ref x0), some (.int x1), some (.int x2)] [] h Q := by
  refine wp_iconst (v := (-1)) rfl (by decide) ?_
  exact wp_ret rfl rfl q
theorem b222_0 {n : Nat} {h : q_Hp} {Q : Option Value → q_Hp → Prop} {x0 : Nat} {x1 : Int32} {v0 : Nat} (k0 : q_ok h x0 11) (e0 : qR h x0 5 = v0) {m : Nat} {P : Int32 → q_Hp → Prop} (hc : q_mI m 4 [.ref v0, .int x1] h P) (hm : m ≤ n) (w : ∀ (z : Int32) (h1 : q_Hp), P z h1 → q_wp (n + 1) 222 8 [some (.ref x0), some (.int x1), none, none] [.int z] h1 Q) : q_wp (n + 1) 222 0 [some (.ref x0), some (.int x1), none, none] [] h Q := by
  refine wp_loc rfl rfl ?_
  refine wp_getR rfl rfl rfl rfl k0 e0 ?_
  refine wp_loc rfl rfl ?_
  exact wp_callI (av := [.ref v0, .int x1]) rfl rfl rfl (by decide) rfl rfl rfl hm hc w
theorem b222_8 {n : Nat} {h : q_Hp} {Q : Option Value → q_Hp → Prop} {x0 : Nat} {x1 : Int32} {s0 : Int32} (wt : ¬ s0 = 0 → q_wp n 222 13 [some (.ref x0), some (.int x1), none, none] [] h Q) (wf : s0 = 0 → q_wp n 222 11 [some (.ref x0), some (.int x1), none, none] [] h Q) : q_wp n 222 8 [some (.ref x0), some (.int x1), none, none] [.int s0] h Q := by
  exact wp_ifne (tgt := 13) rfl (by decide) wt wf
theorem b222_11 {n : Nat} {h : q_Hp} {Q : Option Value → q_Hp → Prop} {x0 : Nat} {x1 : Int32} (q : Q (some (.int (-1))) h) : q_wp n 222 11 [some (.ref x0), some (.int x1), none, none] [] h Q := by
  refine wp_iconst (v := (-1)) rfl (by decide) ?_
  exact wp_ret rfl rfl q
theorem b222_13 {n : Nat} {h : q_Hp} {Q : Option Value → q_Hp → Prop} {x0 : Nat} {x1 : Int32} {v0 : Nat} {v1 : Nat} (k0 : q_ok h x0 11) (e0 : qR h x0 10 = v0) (e1 : qR h x0 5 = v1) {m : Nat} {P : q_Hp → Prop} (hc : q_mV m 91 [.ref v0, .ref v1, .int x1] h P) (hm : m ≤ n) (w : ∀ h1 : q_Hp, P h1 → q_wp (n + 1) 222 25 [some (.ref x0), some (.int x1), none, none] [] h1 Q) : q_wp (n + 1) 222 13 [some (.ref x0), some (.int x1), none, none] [] h Q := by
  refine wp_loc rfl rfl ?_
  refine wp_getR rfl rfl rfl rfl k0 e0 ?_
  refine wp_loc rfl rfl ?_
  refine wp_getR rfl rfl rfl rfl k0 e1 ?_
  refine wp_loc rfl rfl ?_
  exact wp_callV (av := [.ref v0, .ref v1, .int x1]) rfl rfl rfl (by decide) rfl rfl rfl hm hc w
theorem b222_25 {n : Nat} {h : q_Hp} {Q : Option Value → q_Hp → Prop} {x0 : Nat} {x1 : Int32} (w : q_wp n 222 29 [some (.ref x0), some (.int x1), some (.int 0), some (.int 0)] [] h Q) : q_wp n 222 25 [some (.ref x0), some (.int x1), none, none] [] h Q := by
  refine wp_iconst (v := 0) rfl (by decide) ?_
  refine wp_loc rfl rfl ?_
  refine wp_iconst (v := 0) rfl (by decide) ?_
  refine wp_loc rfl rfl ?_
  exact w
theorem b222_29 {n : Nat} {h : q_Hp} {Q : Option Value → q_Hp → Prop} {x0 : Nat} {x1 : Int32} {x2 : Int32} {x3 : Int32} (wt : 1000000 ≤ x3 → q_wp n 222 54 [some (.ref x0), some (.int x1), some (.int x2), some (.int x3)] [] h Q) (wf : ¬ 1000000 ≤ x3 → q_wp n 222 35 [some (.ref x0), some (.int x1), some (.int x2), some (.int x3)] [] h Q) : q_wp n 222 29 [some (.ref x0), some (.int x1), some (.int x2), some (.int x3)] [] h Q := by
  refine wp_loc rfl rfl ?_
  refine wp_stk (m := 2) (st' := .int 1000000 :: _) rfl rfl rfl ?_
  exact wp_icge (tgt := 54) rfl (by decide) wt wf
theorem b222_35 {n : Nat} {h : q_Hp} {Q : Option Value → q_Hp → Prop} {x0 : Nat} {x1 : Int32} {x2 : Int32} {x3 : Int32} {v0 : Nat} (k0 : q_ok h x0 11) (e0 : qR h x0 10 = v0) {m : Nat} {P : Int32 → q_Hp → Prop} (hc : q_mI m 94 [.ref v0] h P) (hm : m ≤ n) (w : ∀ (z : Int32) (h1 : q_Hp), P z h1 → q_wp (n + 1) 222 42 [some (.ref x0), some (.int x1), some (.int x2), some (.int x3)] [.int z] h1 Q) : q_wp (n + 1) 222 35 [some (.ref x0), some (.int x1), some (.int x2), some (.int x3)] [] h Q := by
  refine wp_loc rfl rfl ?_
  refine wp_getR rfl rfl rfl rfl k0 e0 ?_
  exact wp_callI (av := [.ref v0]) rfl rfl rfl (by decide) rfl rfl rfl hm hc w
theorem b222_42 {n : Nat} {h : q_Hp} {Q : Option Value → q_Hp → Prop} {x0 : Nat} {x1 : Int32} {x2 : Int32} {x3 : Int32} {s0 : Int32} (wt : s0 = 0 → q_wp n 222 54 [some (.ref x0), some (.int x1), some (.int x2), some (.int x3)] [] h Q) (wf : ¬ s0 = 0 → q_wp n 222 45 [some (.ref x0), some (.int x1), some (.int x2), some (.int x3)] [] h Q) : q_wp n 222 42 [some (.ref x0), some (.int x1), some (.int x2), some (.int x3)] [.int s0] h Q := by
  exact wp_ifeq (tgt := 54) rfl (by decide) wt wf
theorem b222_45 {n : Nat} {h : q_Hp} {Q : Option Value → q_Hp → Prop} {x0 : Nat} {x1 : Int32} {x2 : Int32} {x3 : Int32} (w : q_wp n 222 29 [some (.ref x0), some (.int x1), some (.int (x2 + 1)), some (.int (x3 + 1))] [] h Q) : q_wp n 222 45 [some (.ref x0), some (.int x1), some (.int x2), some (.int x3)] [] h Q := by
  refine wp_iinc (v := 1) rfl rfl (by decide) rfl ?_
  refine wp_iinc (v := 1) rfl rfl (by decide) rfl ?_
  refine wp_goto (tgt := 29) rfl (by decide) ?_
  exact w
theorem b222_54 {n : Nat} {h : q_Hp} {Q : Option Value → q_Hp → Prop} {x0 : Nat} {x1 : Int32} {x2 : Int32} {x3 : Int32} (q : Q (some (.int x2)) h) : q_wp n 222 54 [some (.ref x0), some (.int x1), some (.int x2), some (.int x3)] [] h Q := by
  refine wp_loc rfl rfl ?_
  exact wp_ret rfl rfl q
theorem b223_0 {n : Nat} {h : q_Hp} {Q : Option Value → q_Hp → Prop} {x0 : Nat} {x1 : Int32} {x2 : Int32} {v0 : Nat} (k0 : q_ok h x0 11) (e0 : qR h x0 5 = v0) {m : Nat} {P : Int32 → q_Hp → Prop} (hc : q_mI m 4 [.ref v0, .int x1] h P) (hm : m ≤ n) (w : ∀ (z : Int32) (h1 : q_Hp), P z h1 → q_wp (n + 1) 223 8 [some (.ref x0), some (.int x1), some (.int x2), none] [.int z] h1 Q) : q_wp (n + 1) 223 0 [some (.ref x0), some (.int x1), some (.int x2), none] [] h Q := by
  refine wp_loc rfl rfl ?_
  refine wp_getR rfl rfl rfl rfl k0 e0 ?_
  refine wp_loc rfl rfl ?_
  exact wp_callI (av := [.ref v0, .int x1]) rfl rfl rfl (by decide) rfl rfl rfl hm hc w
theorem b223_8 {n : Nat} {h : q_Hp} {Q : Option Value → q_Hp → Prop} {x0 : Nat} {x1 : Int32} {x2 : Int32} {s0 : Int32} (wt : s0 = 0 → q_wp n 223 15 [some (.ref x0), some (.int x1), some (.int x2), none] [] h Q) (wf : ¬ s0 = 0 → q_wp n 223 11 [some (.ref x0), some (.int x1), some (.int x2), none] [] h Q) : q_wp n 223 8 [some (.ref x0), some (.int x1), some (.int x2), none] [.int s0] h Q := by
  exact wp_ifeq (tgt := 15) rfl (by decide) wt wf
theorem b223_11 {n : Nat} {h : q_Hp} {Q : Option Value → q_Hp → Prop} {x0 : Nat} {x1 : Int32} {x2 : Int32} (wt : 0 ≤ x2 → q_wp n 223 17 [some (.ref x0), some (.int x1), some (.int x2), none] [] h Q) (wf : ¬ 0 ≤ x2 → q_wp n 223 15 [some (.ref x0), some (.int x1), some (.int x2), none] [] h Q) : q_wp n 223 11 [some (.ref x0), some (.int x1), some (.int x2), none] [] h Q := by
  refine wp_loc rfl rfl ?_
  exact wp_ifge (tgt := 17) rfl (by decide) wt wf
theorem b223_15 {n : Nat} {h : q_Hp} {Q : Option Value → q_Hp → Prop} {x0 : Nat} {x1 : Int32} {x2 : Int32} (q : Q (some (.int 0)) h) : q_wp n 223 15 [some (.ref x0), some (.int x1), some (.int x2), none] [] h Q := by
  refine wp_iconst (v := 0) rfl (by decide) ?_
  exact wp_ret (r := some (.int 0)) rfl rfl q
theorem b223_17 {n : Nat} {h : q_Hp} {Q : Option Value → q_Hp → Prop} {x0 : Nat} {x1 : Int32} {x2 : Int32} {v0 : Nat} {v1 : Nat} (k0 : q_ok h x0 11) (e0 : qR h x0 10 = v0) (e1 : qR h x0 5 = v1) {m : Nat} {P : q_Hp → Prop} (hc : q_mV m 91 [.ref v0, .ref v1, .int x1] h P) (hm : m ≤ n) (w : ∀ h1 : q_Hp, P h1 → q_wp (n + 1) 223 29 [some (.ref x0), some (.int x1), some (.int x2), none] [] h1 Q) : q_wp (n + 1) 223 17 [some (.ref x0), some (.int x1), some (.int x2), none] [] h Q := by
  refine wp_loc rfl rfl ?_
  refine wp_getR rfl rfl rfl rfl k0 e0 ?_
  refine wp_loc rfl rfl ?_
  refine wp_getR rfl rfl rfl rfl k0 e1 ?_
  refine wp_loc rfl rfl ?_
  exact wp_callV (av := [.ref v0, .ref v1, .int x1]) rfl rfl rfl (by decide) rfl rfl rfl hm hc w
theorem b223_29 {n : Nat} {h : q_Hp} {Q : Option Value → q_Hp → Prop} {x0 : Nat} {x1 : Int32} {x2 : Int32} (w : q_wp n 223 31 [some (.ref x0), some (.int x1), some (.int x2), some (.int 0)] [] h Q) : q_wp n 223 29 [some (.ref x0), some (.int x1), some (.int x2), none] [] h Q := by
  refine wp_iconst (v := 0) rfl (by decide) ?_
  refine wp_loc rfl rfl ?_
  exact w
theorem b223_31 {n : Nat} {h : q_Hp} {Q : Option Value → q_Hp → Prop} {x0 : Nat} {x1 : Int32} {x2 : Int32} {x3 : Int32} (wt : 1000000 ≤ x3 → q_wp n 223 67 [some (.ref x0), some (.int x1), some (.int x2), some (.int x3)] [] h Q) (wf : ¬ 1000000 ≤ x3 → q_wp n 223 37 [some (.ref x0), some (.int x1), some (.int x2), some (.int x3)] [] h Q) : q_wp n 223 31 [some (.ref x0), some (.int x1), some (.int x2), some (.int x3)] [] h Q := by
  refine wp_loc rfl rfl ?_
  refine wp_stk (m := 2) (st' := .int 1000000 :: _) rfl rfl rfl ?_
  exact wp_icge (tgt := 67) rfl (by decide) wt wf
theorem b223_37 {n : Nat} {h : q_Hp} {Q : Option Value → q_Hp → Prop} {x0 : Nat} {x1 : Int32} {x2 : Int32} {x3 : Int32} {v0 : Nat} (k0 : q_ok h x0 11) (e0 : qR h x0 10 = v0) {m : Nat} {P : Int32 → q_Hp → Prop} (hc : q_mI m 94 [.ref v0] h P) (hm : m ≤ n) (w : ∀ (z : Int32) (h1 : q_Hp), P z h1 → q_wp (n + 1) 223 44 [some (.ref x0), some (.int x1), some (.int x2), some (.int x3)] [.int z] h1 Q) : q_wp (n + 1) 223 37 [some (.ref x0), some (.int x1), some (.int x2), some (.int x3)] [] h Q := by
  refine wp_loc rfl rfl ?_
  refine wp_getR rfl rfl rfl rfl k0 e0 ?_
  exact wp_callI (av := [.ref v0]) rfl rfl rfl (by decide) rfl rfl rfl hm hc w
theorem b223_44 {n : Nat} {h : q_Hp} {Q : Option Value → q_Hp → Prop} {x0 : Nat} {x1 : Int32} {x2 : Int32} {x3 : Int32} {s0 : Int32} (wt : s0 = 0 → q_wp n 223 67 [some (.ref x0), some (.int x1), some (.int x2), some (.int x3)] [] h Q) (wf : ¬ s0 = 0 → q_wp n 223 47 [some (.ref x0), some (.int x1), some (.int x2), some (.int x3)] [] h Q) : q_wp n 223 44 [some (.ref x0), some (.int x1), some (.int x2), some (.int x3)] [.int s0] h Q := by
  exact wp_ifeq (tgt := 67) rfl (by decide) wt wf
theorem b223_47 {n : Nat} {h : q_Hp} {Q : Option Value → q_Hp → Prop} {x0 : Nat} {x1 : Int32} {x2 : Int32} {x3 : Int32} (wt : ¬ x3 = x2 → q_wp n 223 61 [some (.ref x0), some (.int x1), some (.int x2), some (.int x3)] [] h Q) (wf : x3 = x2 → q_wp n 223 52 [some (.ref x0), some (.int x1), some (.int x2), some (.int x3)] [] h Q) : q_wp n 223 47 [some (.ref x0), some (.int x1), some (.int x2), some (.int x3)] [] h Q := by
  refine wp_loc rfl rfl ?_
  refine wp_loc rfl rfl ?_
  exact wp_icne (tgt := 61) rfl (by decide) wt wf
theorem b223_52 {n : Nat} {h : q_Hp} {Q : Option Value → q_Hp → Prop} {x0 : Nat} {x1 : Int32} {x2 : Int32} {x3 : Int32} {v0 : Nat} (k0 : q_ok h x0 11) (e0 : qR h x0 10 = v0) {m : Nat} {P : q_Hp → Prop} (hc : q_mV m 113 [.ref v0] h P) (hm : m ≤ n) (w : ∀ h1 : q_Hp, P h1 → q_wp (n + 1) 223 59 [some (.ref x0), some (.int x1), some (.int x2), some (.int x3)] [] h1 Q) : q_wp (n + 1) 223 52 [some (.ref x0), some (.int x1), some (.int x2), some (.int x3)] [] h Q := by
  refine wp_loc rfl rfl ?_
  refine wp_getR rfl rfl rfl rfl k0 e0 ?_
  exact wp_callV (av := [.ref v0]) rfl rfl rfl (by decide) rfl rfl rfl hm hc w
theorem b223_59 {n : Nat} {h : q_Hp} {Q : Option Value → q_Hp → Prop} {x0 : Nat} {x1 : Int32} {x2 : Int32} {x3 : Int32} (q : Q (some (.int 1)) h) : q_wp n 223 59 [some (.ref x0), some (.int x1), some (.int x2), some (.int x3)] [] h Q := by
  refine wp_iconst (v := 1) rfl (by decide) ?_
  exact wp_ret (r := some (.int 1)) rfl rfl q
theorem b223_61 {n : Nat} {h : q_Hp} {Q : Option Value → q_Hp → Prop} {x0 : Nat} {x1 : Int32} {x2 : Int32} {x3 : Int32} (w : q_wp n 223 31 [some (.ref x0), some (.int x1), some (.int x2), some (.int (x3 + 1))] [] h Q) : q_wp n 223 61 [some (.ref x0), some (.int x1), some (.int x2), some (.int x3)] [] h Q := by
  refine wp_iinc (v := 1) rfl rfl (by decide) rfl ?_
  refine wp_goto (tgt := 31) rfl (by decide) ?_
  exact w
theorem b223_67 {n : Nat} {h : q_Hp} {Q : Option Value → q_Hp → Prop} {x0 : Nat} {x1 : Int32} {x2 : Int32} {x3 : Int32} (q : Q (some (.int 0)) h) : q_wp n 223 67 [some (.ref x0), some (.int x1), some (.int x2), some (.int x3)] [] h Q := by
  refine wp_iconst (v := 0) rfl (by decide) ?_
  exact wp_ret (r := some (.int 0)) rfl rfl q
theorem b224_0 {n : Nat} {h : q_Hp} {Q : Option Value → q_Hp → Prop} {x0 : Nat} {x1 : Int32} {x2 : Int32} (wt : x2 = 0 → q_wp n 224 15 [some (.ref x0), some (.int x1), some (.int x2)] [] h Q) (wf : ¬ x2 = 0 → q_wp n 224 4 [some (.ref x0), some (.int x1), some (.int x2)] [] h Q) : q_wp n 224 0 [some (.ref x0), some (.int x1), some (.int x2)] [] h Q := by
  refine wp_loc rfl rfl ?_
  exact wp_ifeq (tgt := 15) rfl (by decide) wt wf
theorem b224_4 {n : Nat} {h : q_Hp} {Q : Option Value → q_Hp → Prop} {x0 : Nat} {x1 : Int32} {x2 : Int32} {v0 : Nat} (k0 : q_ok h x0 11) (e0 : qR h x0 10 = v0) {m : Nat} {P : Int32 → q_Hp → Prop} (hc : q_mI m 116 [.ref v0, .int x1] h P) (hm : m ≤ n) (w : ∀ (z : Int32) (h1 : q_Hp), P z h1 → q_wp (n + 1) 224 12 [some (.ref x0), some (.int x1), some (.int x2)] [.int z] h1 Q) : q_wp (n + 1) 224 4 [some (.ref x0), some (.int x1), some (.int x2)] [] h Q := by
  refine wp_loc rfl rfl ?_
  refine wp_getR rfl rfl rfl rfl k0 e0 ?_
  refine wp_loc rfl rfl ?_
  exact wp_callI (av := [.ref v0, .int x1]) rfl rfl rfl (by decide) rfl rfl rfl hm hc w
theorem b224_12 {n : Nat} {h : q_Hp} {Q : Option Value → q_Hp → Prop} {x0 : Nat} {x1 : Int32} {x2 : Int32} {s0 : Int32} (w : q_wp n 224 23 [some (.ref x0), some (.int x1), some (.int x2)] [.int s0] h Q) : q_wp n 224 12 [some (.ref x0), some (.int x1), some (.int x2)] [.int s0] h Q := by
  refine wp_goto (tgt := 23) rfl (by decide) ?_
  exact w
theorem b224_15 {n : Nat} {h : q_Hp} {Q : Option Value → q_Hp → Prop} {x0 : Nat} {x1 : Int32} {x2 : Int32} {v0 : Nat} (k0 : q_ok h x0 11) (e0 : qR h x0 10 = v0) {m : Nat} {P : Int32 → q_Hp → Prop} (hc : q_mI m 115 [.ref v0, .int x1] h P) (hm : m ≤ n) (w : ∀ (z : Int32) (h1 : q_Hp), P z h1 → q_wp (n + 1) 224 23 [some (.ref x0), some (.int x1), some (.int x2)] [.int z] h1 Q) : q_wp (n + 1) 224 15 [some (.ref x0), some (.int x1), some (.int x2)] [] h Q := by
  refine wp_loc rfl rfl ?_
  refine wp_getR rfl rfl rfl rfl k0 e0 ?_
  refine wp_loc rfl rfl ?_
  exact wp_callI (av := [.ref v0, .int x1]) rfl rfl rfl (by decide) rfl rfl rfl hm hc w
theorem b224_23 {n : Nat} {h : q_Hp} {Q : Option Value → q_Hp → Prop} {x0 : Nat} {x1 : Int32} {x2 : Int32} {s0 : Int32} (q : Q (some (.int s0)) h) : q_wp n 224 23 [some (.ref x0), some (.int x1), some (.int x2)] [.int s0] h Q := by
  exact wp_ret rfl rfl q
theorem b225_0 {n : Nat} {h : q_Hp} {Q : Option Value → q_Hp → Prop} {x0 : Nat} {x1 : Int32} {v0 : Nat} (k0 : q_ok h x0 11) (e0 : qR h x0 12 = v0) {m : Nat} {P : Int32 → q_Hp → Prop} (hc : q_mI m 139 [.ref v0] h P) (hm : m ≤ n) (w : ∀ (z : Int32) (h1 : q_Hp), P z h1 → q_wp (n + 1) 225 7 [some (.ref x0), some (.int x1), none] [.int z] h1 Q) : q_wp (n + 1) 225 0 [some (.ref x0), some (.int x1), none] [] h Q := by
  refine wp_loc rfl rfl ?_
  refine wp_getR rfl rfl rfl rfl k0 e0 ?_
  exact wp_callI (av := [.ref v0]) rfl rfl rfl (by decide) rfl rfl rfl hm hc w
theorem b225_7 {n : Nat} {h : q_Hp} {Q : Option Value → q_Hp → Prop} {x0 : Nat} {x1 : Int32} {s0 : Int32} (wt : ¬ s0 = 0 → q_wp n 225 21 [some (.ref x0), some (.int x1), none] [] h Q) (wf : s0 = 0 → q_wp n 225 10 [some (.ref x0), some (.int x1), none] [] h Q) : q_wp n 225 7 [some (.ref x0), some (.int x1), none] [.int s0] h Q := by
  exact wp_ifne (tgt := 21) rfl (by decide) wt wf
theorem b225_10 {n : Nat} {h : q_Hp} {Q : Option Value → q_Hp → Prop} {x0 : Nat} {x1 : Int32} {v0 : Nat} (k0 : q_ok h x0 11) (e0 : qR h x0 5 = v0) {m : Nat} {P : Int32 → q_Hp → Prop} (hc : q_mI m 4 [.ref v0, .int x1] h P) (hm : m ≤ n) (w : ∀ (z : Int32) (h1 : q_Hp), P z h1 → q_wp (n + 1) 225 18 [some (.ref x0), some (.int x1), none] [.int z] h1 Q) : q_wp (n + 1) 225 10 [some (.ref x0), some (.int x1), none] [] h Q := by
  refine wp_loc rfl rfl ?_
  refine wp_getR rfl rfl rfl rfl k0 e0 ?_
  refine wp_loc rfl rfl ?_
  exact wp_callI (av := [.ref v0, .int x1]) rfl rfl rfl (by decide) rfl rfl rfl hm hc w
theorem b225_18 {n : Nat} {h : q_Hp} {Q : Option Value → q_Hp → Prop} {x0 : Nat} {x1 : Int32} {s0 : Int32} (wt : ¬ s0 = 0 → q_wp n 225 23 [some (.ref x0), some (.int x1), none] [] h Q) (wf : s0 = 0 → q_wp n 225 21 [some (.ref x0), some (.int x1), none] [] h Q) : q_wp n 225 18 [some (.ref x0), some (.int x1), none] [.int s0] h Q := by
  exact wp_ifne (tgt := 23) rfl (by decide) wt wf
theorem b225_21 {n : Nat} {h : q_Hp} {Q : Option Value → q_Hp → Prop} {x0 : Nat} {x1 : Int32} (q : Q (some (.int (-1))) h) : q_wp n 225 21 [some (.ref x0), some (.int x1), none] [] h Q := by
  refine wp_iconst (v := (-1)) rfl (by decide) ?_
  exact wp_ret rfl rfl q
theorem b225_23 {n : Nat} {h : q_Hp} {Q : Option Value → q_Hp → Prop} {x0 : Nat} {x1 : Int32} {v0 : Nat} {v1 : Nat} (k0 : q_ok h x0 11) (e0 : qR h x0 11 = v0) (e1 : qR h x0 5 = v1) {m : Nat} {P : Int32 → q_Hp → Prop} (hc : q_mI m 118 [.ref v0, .ref v1, .int x1] h P) (hm : m ≤ n) (w : ∀ (z : Int32) (h1 : q_Hp), P z h1 → q_wp (n + 1) 225 35 [some (.ref x0), some (.int x1), none] [.int z] h1 Q) : q_wp (n + 1) 225 23 [some (.ref x0), some (.int x1), none] [] h Q := by
  refine wp_loc rfl rfl ?_
  refine wp_getR rfl rfl rfl rfl k0 e0 ?_
  refine wp_loc rfl rfl ?_
  refine wp_getR rfl rfl rfl rfl k0 e1 ?_
  refine wp_loc rfl rfl ?_
  exact wp_callI (av := [.ref v0, .ref v1, .int x1]) rfl rfl rfl (by decide) rfl rfl rfl hm hc w
theorem b225_35 {n : Nat} {h : q_Hp} {Q : Option Value → q_Hp → Prop} {x0 : Nat} {x1 : Int32} {s0 : Int32} (wt : ¬ s0 = 2 → q_wp n 225 44 [some (.ref x0), some (.int x1), some (.int s0)] [] h Q) (wf : s0 = 2 → q_wp n 225 41 [some (.ref x0), some (.int x1), some (.int s0)] [] h Q) : q_wp n 225 35 [some (.ref x0), some (.int x1), none] [.int s0] h Q := by
  refine wp_loc rfl rfl ?_
  refine wp_loc rfl rfl ?_
  refine wp_iconst (v := 2) rfl (by decide) ?_
  exact wp_icne (tgt := 44) rfl (by decide) wt wf
theorem b225_41 {n : Nat} {h : q_Hp} {Q : Option Value → q_Hp → Prop} {x0 : Nat} {x1 : Int32} {x2 : Int32} (q : Q (some (.int (-3))) h) : q_wp n 225 41 [some (.ref x0), some (.int x1), some (.int x2)] [] h Q := by
  refine wp_bipush (v := (-3)) rfl (by decide) ?_
  exact wp_ret rfl rfl q
theorem b225_44 {n : Nat} {h : q_Hp} {Q : Option Value → q_Hp → Prop} {x0 : Nat} {x1 : Int32} {x2 : Int32} (wt : ¬ x2 = 1 → q_wp n 225 53 [some (.ref x0), some (.int x1), some (.int x2)] [] h Q) (wf : x2 = 1 → q_wp n 225 49 [some (.ref x0), some (.int x1), some (.int x2)] [] h Q) : q_wp n 225 44 [some (.ref x0), some (.int x1), some (.int x2)] [] h Q := by
  refine wp_loc rfl rfl ?_
  refine wp_iconst (v := 1) rfl (by decide) ?_
  exact wp_icne (tgt := 53) rfl (by decide) wt wf
theorem b225_49 {n : Nat} {h : q_Hp} {Q : Option Value → q_Hp → Prop} {x0 : Nat} {x1 : Int32} {x2 : Int32} (q : Q (some (.int 1)) h) : q_wp n 225 49 [some (.ref x0), some (.int x1), some (.int x2)] [] h Q := by
  refine wp_iconst (v := 1) rfl (by decide) ?_
  refine wp_goto (tgt := 54) rfl (by decide) ?_
  exact wp_ret rfl rfl q
theorem b225_53 {n : Nat} {h : q_Hp} {Q : Option Value → q_Hp → Prop} {x0 : Nat} {x1 : Int32} {x2 : Int32} (q : Q (some (.int 0)) h) : q_wp n 225 53 [some (.ref x0), some (.int x1), some (.int x2)] [] h Q := by
  refine wp_iconst (v := 0) rfl (by decide) ?_
  exact wp_ret rfl rfl q
theorem b226_0 {n : Nat} {h : q_Hp} {Q : Option Value → q_Hp → Prop} {x0 : Nat} {x1 : Int32} {v0 : Nat} (k0 : q_ok h x0 11) (e0 : qR h x0 5 = v0) {m : Nat} {P : Int32 → q_Hp → Prop} (hc : q_mI m 5 [.ref v0, .int x1] h P) (hm : m ≤ n) (w : ∀ (z : Int32) (h1 : q_Hp), P z h1 → q_wp (n + 1) 226 8 [some (.ref x0), some (.int x1)] [.int z] h1 Q) : q_wp (n + 1) 226 0 [some (.ref x0), some (.int x1)] [] h Q := by
  refine wp_loc rfl rfl ?_
  refine wp_getR rfl rfl rfl rfl k0 e0 ?_
  refine wp_loc rfl rfl ?_
  exact wp_callI (av := [.ref v0, .int x1]) rfl rfl rfl (by decide) rfl rfl rfl hm hc w
theorem b226_8 {n : Nat} {h : q_Hp} {Q : Option Value → q_Hp → Prop} {x0 : Nat} {x1 : Int32} {s0 : Int32} (wt : ¬ s0 = 0 → q_wp n 226 13 [some (.ref x0), some (.int x1)] [] h Q) (wf : s0 = 0 → q_wp n 226 11 [some (.ref x0), some (.int x1)] [] h Q) : q_wp n 226 8 [some (.ref x0), some (.int x1)] [.int s0] h Q := by
  exact wp_ifne (tgt := 13) rfl (by decide) wt wf
theorem b226_11 {n : Nat} {h : q_Hp} {Q : Option Value → q_Hp → Prop} {x0 : Nat} {x1 : Int32} (q : Q (some (.int 0)) h) : q_wp n 226 11 [some (.ref x0), some (.int x1)] [] h Q := by
  refine wp_iconst (v := 0) rfl (by decide) ?_
  exact wp_ret (r := some (.int 0)) rfl rfl q
theorem b226_13 {n : Nat} {h : q_Hp} {Q : Option Value → q_Hp → Prop} {x0 : Nat} {x1 : Int32} {v0 : Nat} {v1 : Nat} (k0 : q_ok h x0 11) (e0 : qR h x0 12 = v0) (e1 : qR h x0 5 = v1) {m : Nat} {P : q_Hp → Prop} (hc : q_mV m 144 [.ref v0, .ref v1, .int x1] h P) (hm : m ≤ n) (w : ∀ h1 : q_Hp, P h1 → q_wp (n + 1) 226 25 [some (.ref x0), some (.int x1)] [] h1 Q) : q_wp (n + 1) 226 13 [some (.ref x0), some (.int x1)] [] h Q := by
  refine wp_loc rfl rfl ?_
  refine wp_getR rfl rfl rfl rfl k0 e0 ?_
  refine wp_loc rfl rfl ?_
  refine wp_getR rfl rfl rfl rfl k0 e1 ?_
  refine wp_loc rfl rfl ?_
  exact wp_callV (av := [.ref v0, .ref v1, .int x1]) rfl rfl rfl (by decide) rfl rfl rfl hm hc w
theorem b226_25 {n : Nat} {h : q_Hp} {Q : Option Value → q_Hp → Prop} {x0 : Nat} {x1 : Int32} (q : Q (some (.int 1)) h) : q_wp n 226 25 [some (.ref x0), some (.int x1)] [] h Q := by
  refine wp_iconst (v := 1) rfl (by decide) ?_
  exact wp_ret (r := some (.int 1)) rfl rfl q
theorem b227_0 {n : Nat} {h : q_Hp} {Q : Option Value → q_Hp → Prop} {x0 : Nat} {x1 : Int32} {v0 : Nat} (k0 : q_ok h x0 11) (e0 : qR h x0 12 = v0) {m : Nat} {P : Int32 → q_Hp → Prop} (hc : q_mI m 139 [.ref v0] h P) (hm : m ≤ n) (w : ∀ (z : Int32) (h1 : q_Hp), P z h1 → q_wp (n + 1) 227 7 [some (.ref x0), some (.int x1), none] [.int z] h1 Q) : q_wp (n + 1) 227 0 [some (.ref x0), some (.int x1), none] [] h Q := by
  refine wp_loc rfl rfl ?_
  refine wp_getR rfl rfl rfl rfl k0 e0 ?_
  exact wp_callI (av := [.ref v0]) rfl rfl rfl (by decide) rfl rfl rfl hm hc w
theorem b227_7 {n : Nat} {h : q_Hp} {Q : Option Value → q_Hp → Prop} {x0 : Nat} {x1 : Int32} {s0 : Int32} (wt : s0 = 0 → q_wp n 227 21 [some (.ref x0), some (.int x1), none] [] h Q) (wf : ¬ s0 = 0 → q_wp n 227 10 [some (.ref x0), some (.int x1), none] [] h Q) : q_wp n 227 7 [some (.ref x0), some (.int x1), none] [.int s0] h Q := by
  exact wp_ifeq (tgt := 21) rfl (by decide) wt wf
theorem b227_10 {n : Nat} {h : q_Hp} {Q : Option Value → q_Hp → Prop} {x0 : Nat} {x1 : Int32} (wt : x1 < 1 → q_wp n 227 21 [some (.ref x0), some (.int x1), none] [] h Q) (wf : ¬ x1 < 1 → q_wp n 227 15 [some (.ref x0), some (.int x1), none] [] h Q) : q_wp n 227 10 [some (.ref x0), some (.int x1), none] [] h Q := by
  refine wp_loc rfl rfl ?_
  refine wp_iconst (v := 1) rfl (by decide) ?_
  exact wp_iclt (tgt := 21) rfl (by decide) wt wf
theorem b227_15 {n : Nat} {h : q_Hp} {Q : Option Value → q_Hp → Prop} {x0 : Nat} {x1 : Int32} (wt : x1 ≤ 40 → q_wp n 227 23 [some (.ref x0), some (.int x1), none] [] h Q) (wf : ¬ x1 ≤ 40 → q_wp n 227 21 [some (.ref x0), some (.int x1), none] [] h Q) : q_wp n 227 15 [some (.ref x0), some (.int x1), none] [] h Q := by
  refine wp_loc rfl rfl ?_
  refine wp_bipush (v := 40) rfl (by decide) ?_
  exact wp_icle (tgt := 23) rfl (by decide) wt wf
theorem b227_21 {n : Nat} {h : q_Hp} {Q : Option Value → q_Hp → Prop} {x0 : Nat} {x1 : Int32} (q : Q (some (.int (-1))) h) : q_wp n 227 21 [some (.ref x0), some (.int x1), none] [] h Q := by
  refine wp_iconst (v := (-1)) rfl (by decide) ?_
  exact wp_ret rfl rfl q
theorem b227_23 {n : Nat} {h : q_Hp} {Q : Option Value → q_Hp → Prop} {x0 : Nat} {x1 : Int32} {v0 : Nat} (k0 : q_ok h x0 11) (e0 : qR h x0 12 = v0) {m : Nat} {P : q_Hp → Prop} (hc : q_mV m 146 [.ref v0] h P) (hm : m ≤ n) (w : ∀ h1 : q_Hp, P h1 → q_wp (n + 1) 227 30 [some (.ref x0), some (.int x1), none] [] h1 Q) : q_wp (n + 1) 227 23 [some (.ref x0), some (.int x1), none] [] h Q := by
  refine wp_loc rfl rfl ?_
  refine wp_getR rfl rfl rfl rfl k0 e0 ?_
  exact wp_callV (av := [.ref v0]) rfl rfl rfl (by decide) rfl rfl rfl hm hc w
theorem b227_30 {n : Nat} {h : q_Hp} {Q : Option Value → q_Hp → Prop} {x0 : Nat} {x1 : Int32} (w : q_wp n 227 32 [some (.ref x0), some (.int x1), some (.int 0)] [] h Q) : q_wp n 227 30 [some (.ref x0), some (.int x1), none] [] h Q := by
  refine wp_iconst (v := 0) rfl (by decide) ?_
  refine wp_loc rfl rfl ?_
  exact w
theorem b227_32 {n : Nat} {h : q_Hp} {Q : Option Value → q_Hp → Prop} {x0 : Nat} {x1 : Int32} {x2 : Int32} (wt : x1 ≤ x2 → q_wp n 227 67 [some (.ref x0), some (.int x1), some (.int x2)] [] h Q) (wf : ¬ x1 ≤ x2 → q_wp n 227 37 [some (.ref x0), some (.int x1), some (.int x2)] [] h Q) : q_wp n 227 32 [some (.ref x0), some (.int x1), some (.int x2)] [] h Q := by
  refine wp_loc rfl rfl ?_
  refine wp_loc rfl rfl ?_
  exact wp_icge (tgt := 67) rfl (by decide) wt wf
theorem b227_37 {n : Nat} {h : q_Hp} {Q : Option Value → q_Hp → Prop} {x0 : Nat} {x1 : Int32} {x2 : Int32} {v0 : Nat} (k0 : q_ok h x0 11) (e0 : qR h x0 12 = v0) {m : Nat} {P : Int32 → q_Hp → Prop} (hc : q_mI m 139 [.ref v0] h P) (hm : m ≤ n) (w : ∀ (z : Int32) (h1 : q_Hp), P z h1 → q_wp (n + 1) 227 44 [some (.ref x0), some (.int x1), some (.int x2)] [.int z] h1 Q) : q_wp (n + 1) 227 37 [some (.ref x0), some (.int x1), some (.int x2)] [] h Q := by
  refine wp_loc rfl rfl ?_
  refine wp_getR rfl rfl rfl rfl k0 e0 ?_
  exact wp_callI (av := [.ref v0]) rfl rfl rfl (by decide) rfl rfl rfl hm hc w
theorem b227_44 {n : Nat} {h : q_Hp} {Q : Option Value → q_Hp → Prop} {x0 : Nat} {x1 : Int32} {x2 : Int32} {s0 : Int32} (wt : s0 = 0 → q_wp n 227 67 [some (.ref x0), some (.int x1), some (.int x2)] [] h Q) (wf : ¬ s0 = 0 → q_wp n 227 47 [some (.ref x0), some (.int x1), some (.int x2)] [] h Q) : q_wp n 227 44 [some (.ref x0), some (.int x1), some (.int x2)] [.int s0] h Q := by
  exact wp_ifeq (tgt := 67) rfl (by decide) wt wf
theorem b227_47 {n : Nat} {h : q_Hp} {Q : Option Value → q_Hp → Prop} {x0 : Nat} {x1 : Int32} {x2 : Int32} {v0 : Nat} (k0 : q_ok h x0 11) (e0 : qR h x0 12 = v0) {m : Nat} {P : q_Hp → Prop} (hc : q_mV m 145 [.ref v0] h P) (hm : m ≤ n) (w : ∀ h1 : q_Hp, P h1 → q_wp (n + 1) 227 54 [some (.ref x0), some (.int x1), some (.int x2)] [] h1 Q) : q_wp (n + 1) 227 47 [some (.ref x0), some (.int x1), some (.int x2)] [] h Q := by
  refine wp_loc rfl rfl ?_
  refine wp_getR rfl rfl rfl rfl k0 e0 ?_
  exact wp_callV (av := [.ref v0]) rfl rfl rfl (by decide) rfl rfl rfl hm hc w
theorem b227_54 {n : Nat} {h : q_Hp} {Q : Option Value → q_Hp → Prop} {x0 : Nat} {x1 : Int32} {x2 : Int32} {v0 : Nat} (k0 : q_ok h x0 11) (e0 : qR h x0 12 = v0) {m : Nat} {P : q_Hp → Prop} (hc : q_mV m 146 [.ref v0] h P) (hm : m ≤ n) (w : ∀ h1 : q_Hp, P h1 → q_wp (n + 1) 227 61 [some (.ref x0), some (.int x1), some (.int x2)] [] h1 Q) : q_wp (n + 1) 227 54 [some (.ref x0), some (.int x1), some (.int x2)] [] h Q := by
  refine wp_loc rfl rfl ?_
  refine wp_getR rfl rfl rfl rfl k0 e0 ?_
  exact wp_callV (av := [.ref v0]) rfl rfl rfl (by decide) rfl rfl rfl hm hc w
theorem b227_61 {n : Nat} {h : q_Hp} {Q : Option Value → q_Hp → Prop} {x0 : Nat} {x1 : Int32} {x2 : Int32} (w : q_wp n 227 32 [some (.ref x0), some (.int x1), some (.int (x2 + 1))] [] h Q) : q_wp n 227 61 [some (.ref x0), some (.int x1), some (.int x2)] [] h Q := by
  refine wp_iinc (v := 1) rfl rfl (by decide) rfl ?_
  refine wp_goto (tgt := 32) rfl (by decide) ?_
  exact w
theorem b227_67 {n : Nat} {h : q_Hp} {Q : Option Value → q_Hp → Prop} {x0 : Nat} {x1 : Int32} {x2 : Int32} {v0 : Nat} (k0 : q_ok h x0 11) (e0 : qR h x0 12 = v0) {m : Nat} {P : Int32 → q_Hp → Prop} (hc : q_mI m 139 [.ref v0] h P) (hm : m ≤ n) (w : ∀ (z : Int32) (h1 : q_Hp), P z h1 → q_wp (n + 1) 227 74 [some (.ref x0), some (.int x1), some (.int x2)] [.int z] h1 Q) : q_wp (n + 1) 227 67 [some (.ref x0), some (.int x1), some (.int x2)] [] h Q := by
  refine wp_loc rfl rfl ?_
  refine wp_getR rfl rfl rfl rfl k0 e0 ?_
  exact wp_callI (av := [.ref v0]) rfl rfl rfl (by decide) rfl rfl rfl hm hc w
theorem b227_74 {n : Nat} {h : q_Hp} {Q : Option Value → q_Hp → Prop} {x0 : Nat} {x1 : Int32} {x2 : Int32} {s0 : Int32} (wt : s0 = 0 → q_wp n 227 81 [some (.ref x0), some (.int x1), some (.int x2)] [] h Q) (wf : ¬ s0 = 0 → q_wp n 227 77 [some (.ref x0), some (.int x1), some (.int x2)] [] h Q) : q_wp n 227 74 [some (.ref x0), some (.int x1), some (.int x2)] [.int s0] h Q := by
  exact wp_ifeq (tgt := 81) rfl (by decide) wt wf
theorem b227_77 {n : Nat} {h : q_Hp} {Q : Option Value → q_Hp → Prop} {x0 : Nat} {x1 : Int32} {x2 : Int32} (w : q_wp n 227 88 [some (.ref x0), some (.int x1), some (.int x2)] [.int 0] h Q) : q_wp n 227 77 [some (.ref x0), some (.int x1), some (.int x2)] [] h Q := by
  refine wp_iconst (v := 0) rfl (by decide) ?_
  refine wp_goto (tgt := 88) rfl (by decide) ?_
  exact w
theorem b227_81 {n : Nat} {h : q_Hp} {Q : Option Value → q_Hp → Prop} {x0 : Nat} {x1 : Int32} {x2 : Int32} {v0 : Nat} (k0 : q_ok h x0 11) (e0 : qR h x0 12 = v0) {m : Nat} {P : Int32 → q_Hp → Prop} (hc : q_mI m 140 [.ref v0] h P) (hm : m ≤ n) (w : ∀ (z : Int32) (h1 : q_Hp), P z h1 → q_wp (n + 1) 227 88 [some (.ref x0), some (.int x1), some (.int x2)] [.int z] h1 Q) : q_wp (n + 1) 227 81 [some (.ref x0), some (.int x1), some (.int x2)] [] h Q := by
  refine wp_loc rfl rfl ?_
  refine wp_getR rfl rfl rfl rfl k0 e0 ?_
  exact wp_callI (av := [.ref v0]) rfl rfl rfl (by decide) rfl rfl rfl hm hc w
theorem b227_88 {n : Nat} {h : q_Hp} {Q : Option Value → q_Hp → Prop} {x0 : Nat} {x1 : Int32} {x2 : Int32} {s0 : Int32} (q : Q (some (.int s0)) h) : q_wp n 227 88 [some (.ref x0), some (.int x1), some (.int x2)] [.int s0] h Q := by
  exact wp_ret rfl rfl q
theorem b228_0 {n : Nat} {h : q_Hp} {Q : Option Value → q_Hp → Prop} {x0 : Nat} {x1 : Int32} {v0 : Nat} (k0 : q_ok h x0 11) (e0 : qR h x0 12 = v0) {m : Nat} {P : Int32 → q_Hp → Prop} (hc : q_mI m 139 [.ref v0] h P) (hm : m ≤ n) (w : ∀ (z : Int32) (h1 : q_Hp), P z h1 → q_wp (n + 1) 228 7 [some (.ref x0), some (.int x1)] [.int z] h1 Q) : q_wp (n + 1) 228 0 [some (.ref x0), some (.int x1)] [] h Q := by
  refine wp_loc rfl rfl ?_
  refine wp_getR rfl rfl rfl rfl k0 e0 ?_
  exact wp_callI (av := [.ref v0]) rfl rfl rfl (by decide) rfl rfl rfl hm hc w
theorem b228_7 {n : Nat} {h : q_Hp} {Q : Option Value → q_Hp → Prop} {x0 : Nat} {x1 : Int32} {s0 : Int32} (wt : ¬ s0 = 0 → q_wp n 228 25 [some (.ref x0), some (.int x1)] [] h Q) (wf : s0 = 0 → q_wp n 228 10 [some (.ref x0), some (.int x1)] [] h Q) : q_wp n 228 7 [some (.ref x0), some (.int x1)] [.int s0] h Q := by
  exact wp_ifne (tgt := 25) rfl (by decide) wt wf
theorem b228_10 {n : Nat} {h : q_Hp} {Q : Option Value → q_Hp → Prop} {x0 : Nat} {x1 : Int32} {v0 : Nat} (k0 : q_ok h x0 11) (e0 : qR h x0 9 = v0) {m : Nat} {P : Int32 → q_Hp → Prop} (hc : q_mI m 89 [.ref v0, .int x1] h P) (hm : m ≤ n) (w : ∀ (z : Int32) (h1 : q_Hp), P z h1 → q_wp (n + 1) 228 18 [some (.ref x0), some (.int x1)] [.int z] h1 Q) : q_wp (n + 1) 228 10 [some (.ref x0), some (.int x1)] [] h Q := by
  refine wp_loc rfl rfl ?_
  refine wp_getR rfl rfl rfl rfl k0 e0 ?_
  refine wp_loc rfl rfl ?_
  exact wp_callI (av := [.ref v0, .int x1]) rfl rfl rfl (by decide) rfl rfl rfl hm hc w
theorem b228_18 {n : Nat} {h : q_Hp} {Q : Option Value → q_Hp → Prop} {x0 : Nat} {x1 : Int32} {s0 : Int32} (wt : s0 = 0 → q_wp n 228 25 [some (.ref x0), some (.int x1)] [] h Q) (wf : ¬ s0 = 0 → q_wp n 228 21 [some (.ref x0), some (.int x1)] [] h Q) : q_wp n 228 18 [some (.ref x0), some (.int x1)] [.int s0] h Q := by
  exact wp_ifeq (tgt := 25) rfl (by decide) wt wf
theorem b228_21 {n : Nat} {h : q_Hp} {Q : Option Value → q_Hp → Prop} {x0 : Nat} {x1 : Int32} (q : Q (some (.int 1)) h) : q_wp n 228 21 [some (.ref x0), some (.int x1)] [] h Q := by
  refine wp_iconst (v := 1) rfl (by decide) ?_
  refine wp_goto (tgt := 26) rfl (by decide) ?_
  exact wp_ret (r := some (.int 1)) rfl rfl q
theorem b228_25 {n : Nat} {h : q_Hp} {Q : Option Value → q_Hp → Prop} {x0 : Nat} {x1 : Int32} (q : Q (some (.int 0)) h) : q_wp n 228 25 [some (.ref x0), some (.int x1)] [] h Q := by
  refine wp_iconst (v := 0) rfl (by decide) ?_
  exact wp_ret (r := some (.int 0)) rfl rfl q
theorem b229_0 {n : Nat} {h : q_Hp} {Q : Option Value → q_Hp → Prop} {x0 : Nat} {x1 : Int32} (wt : x1 < 0 → q_wp n 229 9 [some (.ref x0), some (.int x1)] [] h Q) (wf : ¬ x1 < 0 → q_wp n 229 4 [some (.ref x0), some (.int x1)] [] h Q) : q_wp n 229 0 [some (.ref x0), some (.int x1)] [] h Q := by
  refine wp_loc rfl rfl ?_
  exact wp_iflt (tgt := 9) rfl (by decide) wt wf
theorem b229_4 {n : Nat} {h : q_Hp} {Q : Option Value → q_Hp → Prop} {x0 : Nat} {x1 : Int32} (wt : x1 < 4 → q_wp n 229 11 [some (.ref x0), some (.int x1)] [] h Q) (wf : ¬ x1 < 4 → q_wp n 229 9 [some (.ref x0), some (.int x1)] [] h Q) : q_wp n 229 4 [some (.ref x0), some (.int x1)] [] h Q := by
  refine wp_loc rfl rfl ?_
  refine wp_iconst (v := 4) rfl (by decide) ?_
  exact wp_iclt (tgt := 11) rfl (by decide) wt wf
theorem b229_9 {n : Nat} {h : q_Hp} {Q : Option Value → q_Hp → Prop} {x0 : Nat} {x1 : Int32} (q : Q (some (.int 0)) h) : q_wp n 229 9 [some (.ref x0), some (.int x1)] [] h Q := by
  refine wp_iconst (v := 0) rfl (by decide) ?_
  exact wp_ret (r := some (.int 0)) rfl rfl q
theorem b229_11 {n : Nat} {h : q_Hp} {Q : Option Value → q_Hp → Prop} {x0 : Nat} {x1 : Int32} {v0 : Nat} {v1 : Nat} (k0 : q_ok h x0 11) (e0 : qR h x0 8 = v0) (e1 : qR h x0 13 = v1) {m : Nat} {P : q_Hp → Prop} (hc : q_mV m 62 [.ref v0, .ref v1, .int x1] h P) (hm : m ≤ n) (w : ∀ h1 : q_Hp, P h1 → q_wp (n + 1) 229 23 [some (.ref x0), some (.int x1)] [] h1 Q) : q_wp (n + 1) 229 11 [some (.ref x0), some (.int x1)] [] h Q := by
  refine wp_loc rfl rfl ?_
  refine wp_getR rfl rfl rfl rfl k0 e0 ?_
  refine wp_loc rfl rfl ?_
  refine wp_getR rfl rfl rfl rfl k0 e1 ?_
  refine wp_loc rfl rfl ?_
  exact wp_callV (av := [.ref v0, .ref v1, .int x1]) rfl rfl rfl (by decide) rfl rfl rfl hm hc w
theorem b229_23 {n : Nat} {h : q_Hp} {Q : Option Value → q_Hp → Prop} {x0 : Nat} {x1 : Int32} {v0 : Nat} (k0 : q_ok h x0 11) (e0 : qR h x0 14 = v0) (k1 : q_ok h v0 23) (i0 : q_in x1 (qK h v0).2) (q : Q (some (.int 1)) (q_sA h v0 x1.toNatClampNeg (vp_nar .boolean 1))) : q_wp n 229 23 [some (.ref x0), some (.int x1)] [] h Q := by
  refine wp_loc rfl rfl ?_
  refine wp_getR rfl rfl rfl rfl k0 e0 ?_
  refine wp_loc rfl rfl ?_
  refine wp_iconst (v := 1) rfl (by decide) ?_
  refine wp_zast rfl k1 i0 ?_
  refine wp_iconst (v := 1) rfl (by decide) ?_
  exact wp_ret (r := some (.int 1)) rfl rfl q
theorem b230_0 {n : Nat} {h : q_Hp} {Q : Option Value → q_Hp → Prop} {x0 : Nat} {x1 : Int32} (wt : x1 < 0 → q_wp n 230 18 [some (.ref x0), some (.int x1)] [] h Q) (wf : ¬ x1 < 0 → q_wp n 230 4 [some (.ref x0), some (.int x1)] [] h Q) : q_wp n 230 0 [some (.ref x0), some (.int x1)] [] h Q := by
  refine wp_loc rfl rfl ?_
  exact wp_iflt (tgt := 18) rfl (by decide) wt wf
theorem b230_4 {n : Nat} {h : q_Hp} {Q : Option Value → q_Hp → Prop} {x0 : Nat} {x1 : Int32} (wt : 4 ≤ x1 → q_wp n 230 18 [some (.ref x0), some (.int x1)] [] h Q) (wf : ¬ 4 ≤ x1 → q_wp n 230 9 [some (.ref x0), some (.int x1)] [] h Q) : q_wp n 230 4 [some (.ref x0), some (.int x1)] [] h Q := by
  refine wp_loc rfl rfl ?_
  refine wp_iconst (v := 4) rfl (by decide) ?_
  exact wp_icge (tgt := 18) rfl (by decide) wt wf
theorem b230_9 {n : Nat} {h : q_Hp} {Q : Option Value → q_Hp → Prop} {x0 : Nat} {x1 : Int32} {v0 : Nat} (k0 : q_ok h x0 11) (e0 : qR h x0 14 = v0) (b2 : q_ok h v0 22 ∨ q_ok h v0 23) (i0 : q_in x1 (qK h v0).2) (wt : ¬ (qA h v0 x1.toNatClampNeg) = 0 → q_wp n 230 20 [some (.ref x0), some (.int x1)] [] h Q) (wf : (qA h v0 x1.toNatClampNeg) = 0 → q_wp n 230 18 [some (.ref x0), some (.int x1)] [] h Q) : q_wp n 230 9 [some (.ref x0), some (.int x1)] [] h Q := by
  refine wp_loc rfl rfl ?_
  refine wp_getR rfl rfl rfl rfl k0 e0 ?_
  refine wp_loc rfl rfl ?_
  refine wp_bald rfl b2 i0 ?_
  exact wp_ifne (tgt := 20) rfl (by decide) wt wf
theorem b230_18 {n : Nat} {h : q_Hp} {Q : Option Value → q_Hp → Prop} {x0 : Nat} {x1 : Int32} (q : Q (some (.int (-1))) h) : q_wp n 230 18 [some (.ref x0), some (.int x1)] [] h Q := by
  refine wp_iconst (v := (-1)) rfl (by decide) ?_
  exact wp_ret rfl rfl q
theorem b230_20 {n : Nat} {h : q_Hp} {Q : Option Value → q_Hp → Prop} {x0 : Nat} {x1 : Int32} {v0 : Nat} {v1 : Nat} (k0 : q_ok h x0 11) (e0 : qR h x0 15 = v0) (e1 : qR h x0 13 = v1) {m : Nat} {P : q_Hp → Prop} (hc : q_mV m 63 [.ref v0, .ref v1, .int x1] h P) (hm : m ≤ n) (w : ∀ h1 : q_Hp, P h1 → q_wp (n + 1) 230 32 [some (.ref x0), some (.int x1)] [] h1 Q) : q_wp (n + 1) 230 20 [some (.ref x0), some (.int x1)] [] h Q := by
  refine wp_loc rfl rfl ?_
  refine wp_getR rfl rfl rfl rfl k0 e0 ?_
  refine wp_loc rfl rfl ?_
  refine wp_getR rfl rfl rfl rfl k0 e1 ?_
  refine wp_loc rfl rfl ?_
  exact wp_callV (av := [.ref v0, .ref v1, .int x1]) rfl rfl rfl (by decide) rfl rfl rfl hm hc w
theorem b230_32 {n : Nat} {h : q_Hp} {Q : Option Value → q_Hp → Prop} {x0 : Nat} {x1 : Int32} {v0 : Nat} (k0 : q_ok h x0 11) (e0 : qR h x0 8 = v0) {m : Nat} {P : Int32 → q_Hp → Prop} (hc : q_mI m 72 [.ref v0] h P) (hm : m ≤ n) (w : ∀ (z : Int32) (h1 : q_Hp), P z h1 → q_wp (n + 1) 230 39 [some (.ref x0), some (.int x1)] [.int z] h1 Q) : q_wp (n + 1) 230 32 [some (.ref x0), some (.int x1)] [] h Q := by
  refine wp_loc rfl rfl ?_
  refine wp_getR rfl rfl rfl rfl k0 e0 ?_
  exact wp_callI (av := [.ref v0]) rfl rfl rfl (by decide) rfl rfl rfl hm hc w
theorem b230_39 {n : Nat} {h : q_Hp} {Q : Option Value → q_Hp → Prop} {x0 : Nat} {x1 : Int32} {s0 : Int32} (wt : 7 < s0 → q_wp n 230 56 [some (.ref x0), some (.int x1)] [] h Q) (wf : ¬ 7 < s0 → q_wp n 230 44 [some (.ref x0), some (.int x1)] [] h Q) : q_wp n 230 39 [some (.ref x0), some (.int x1)] [.int s0] h Q := by
  refine wp_bipush (v := 7) rfl (by decide) ?_
  exact wp_icgt (tgt := 56) rfl (by decide) wt wf
theorem b230_44 {n : Nat} {h : q_Hp} {Q : Option Value → q_Hp → Prop} {x0 : Nat} {x1 : Int32} {v0 : Nat} (k0 : q_ok h x0 11) (e0 : qR h x0 15 = v0) {m : Nat} {P : Int32 → q_Hp → Prop} (hc : q_mI m 72 [.ref v0] h P) (hm : m ≤ n) (w : ∀ (z : Int32) (h1 : q_Hp), P z h1 → q_wp (n + 1) 230 51 [some (.ref x0), some (.int x1)] [.int z] h1 Q) : q_wp (n + 1) 230 44 [some (.ref x0), some (.int x1)] [] h Q := by
  refine wp_loc rfl rfl ?_
  refine wp_getR rfl rfl rfl rfl k0 e0 ?_
  exact wp_callI (av := [.ref v0]) rfl rfl rfl (by decide) rfl rfl rfl hm hc w
theorem b230_51 {n : Nat} {h : q_Hp} {Q : Option Value → q_Hp → Prop} {x0 : Nat} {x1 : Int32} {s0 : Int32} (wt : s0 ≤ 7 → q_wp n 230 59 [some (.ref x0), some (.int x1)] [] h Q) (wf : ¬ s0 ≤ 7 → q_wp n 230 56 [some (.ref x0), some (.int x1)] [] h Q) : q_wp n 230 51 [some (.ref x0), some (.int x1)] [.int s0] h Q := by
  refine wp_bipush (v := 7) rfl (by decide) ?_
  exact wp_icle (tgt := 59) rfl (by decide) wt wf
theorem b230_56 {n : Nat} {h : q_Hp} {Q : Option Value → q_Hp → Prop} {x0 : Nat} {x1 : Int32} (q : Q (some (.int (-2))) h) : q_wp n 230 56 [some (.ref x0), some (.int x1)] [] h Q := by
  refine wp_bipush (v := (-2)) rfl (by decide) ?_
  exact wp_ret rfl rfl q
theorem b230_59 {n : Nat} {h : q_Hp} {Q : Option Value → q_Hp → Prop} {x0 : Nat} {x1 : Int32} {v0 : Nat} (k0 : q_ok h x0 11) (e0 : qR h x0 16 = v0) {m : Nat} {P : Int32 → q_Hp → Prop} (hc : q_mI m 202 [.ref v0] h P) (hm : m ≤ n) (w : ∀ (z : Int32) (h1 : q_Hp), P z h1 → q_wp (n + 1) 230 66 [some (.ref x0), some (.int x1)] [.int z] h1 Q) : q_wp (n + 1) 230 59 [some (.ref x0), some (.int x1)] [] h Q := by
  refine wp_loc rfl rfl ?_
  refine wp_getR rfl rfl rfl rfl k0 e0 ?_
  exact wp_callI (av := [.ref v0]) rfl rfl rfl (by decide) rfl rfl rfl hm hc w
theorem b230_66 {n : Nat} {h : q_Hp} {Q : Option Value → q_Hp → Prop} {x0 : Nat} {x1 : Int32} {s0 : Int32} (wt : s0 = 0 → q_wp n 230 73 [some (.ref x0), some (.int x1)] [] h Q) (wf : ¬ s0 = 0 → q_wp n 230 69 [some (.ref x0), some (.int x1)] [] h Q) : q_wp n 230 66 [some (.ref x0), some (.int x1)] [.int s0] h Q := by
  exact wp_ifeq (tgt := 73) rfl (by decide) wt wf
theorem b230_69 {n : Nat} {h : q_Hp} {Q : Option Value → q_Hp → Prop} {x0 : Nat} {x1 : Int32} (q : Q (some (.int 1)) h) : q_wp n 230 69 [some (.ref x0), some (.int x1)] [] h Q := by
  refine wp_iconst (v := 1) rfl (by decide) ?_
  refine wp_goto (tgt := 74) rfl (by decide) ?_
  exact wp_ret rfl rfl q
theorem b230_73 {n : Nat} {h : q_Hp} {Q : Option Value → q_Hp → Prop} {x0 : Nat} {x1 : Int32} (q : Q (some (.int 0)) h) : q_wp n 230 73 [some (.ref x0), some (.int x1)] [] h Q := by
  refine wp_iconst (v := 0) rfl (by decide) ?_
  exact wp_ret rfl rfl q
theorem b231_0 {n : Nat} {h : q_Hp} {Q : Option Value → q_Hp → Prop} {x0 : Nat} {x1 : Int32} (w0 : x1 = 0 → q_wp n 231 60 [some (.ref x0), some (.int x1)] [] h Q) (w1 : x1 = 1 → q_wp n 231 68 [some (.ref x0), some (.int x1)] [] h Q) (w2 : x1 = 2 → q_wp n 231 76 [some (.ref x0), some (.int x1)] [] h Q) (w3 : x1 = 3 → q_wp n 231 84 [some (.ref x0), some (.int x1)] [] h Q) (w4 : x1 = 4 → q_wp n 231 92 [some (.ref x0), some (.int x1)] [] h Q) (w5 : x1 = 5 → q_wp n 231 100 [some (.ref x0), some (.int x1)] [] h Q) (w6 : x1 = 6 → q_wp n 231 108 [some (.ref x0), some (.int x1)] [] h Q) (w7 : x1 = 7 → q_wp n 231 116 [some (.ref x0), some (.int x1)] [] h Q) (w8 : x1 = 8 → q_wp n 231 124 [some (.ref x0), some (.int x1)] [] h Q) (w9 : x1 = 9 → q_wp n 231 132 [some (.ref x0), some (.int x1)] [] h Q) (w10 : x1 = 10 → q_wp n 231 137 [some (.ref x0), some (.int x1)] [] h Q) (wd : (x1.toInt < 0 ∨ 10 < x1.toInt) → q_wp n 231 145 [some (.ref x0), some (.int x1)] [] h Q) : q_wp n 231 0 [some (.ref x0), some (.int x1)] [] h Q := by
  refine wp_loc rfl rfl ?_
  refine wp_tab (dt := 145) (tg := fun j => [60, 68, 76, 84, 92, 100, 108, 116, 124, 132, 137].getD j 0) rfl (by decide) (by decide) (by decide) (fun j hj hx => ?_) wd
  have hj : j < 11 := hj
  match j, hj, hx with
  | 0, _, hx => exact w0 (Int32.toInt_inj.mp hx)
  | 1, _, hx => exact w1 (Int32.toInt_inj.mp hx)
  | 2, _, hx => exact w2 (Int32.toInt_inj.mp hx)
  | 3, _, hx => exact w3 (Int32.toInt_inj.mp hx)
  | 4, _, hx => exact w4 (Int32.toInt_inj.mp hx)
  | 5, _, hx => exact w5 (Int32.toInt_inj.mp hx)
  | 6, _, hx => exact w6 (Int32.toInt_inj.mp hx)
  | 7, _, hx => exact w7 (Int32.toInt_inj.mp hx)
  | 8, _, hx => exact w8 (Int32.toInt_inj.mp hx)
  | 9, _, hx => exact w9 (Int32.toInt_inj.mp hx)
  | 10, _, hx => exact w10 (Int32.toInt_inj.mp hx)
theorem b231_60 {n : Nat} {h : q_Hp} {Q : Option Value → q_Hp → Prop} {x0 : Nat} {x1 : Int32} {v0 : Nat} (k0 : q_ok h x0 11) (e0 : qR h x0 8 = v0) {m : Nat} {P : Int32 → q_Hp → Prop} (hc : q_mI m 72 [.ref v0] h P) (hm : m ≤ n) (w : ∀ (z : Int32) (h1 : q_Hp), P z h1 → q_wp (n + 1) 231 67 [some (.ref x0), some (.int x1)] [.int z] h1 Q) : q_wp (n + 1) 231 60 [some (.ref x0), some (.int x1)] [] h Q := by
  refine wp_loc rfl rfl ?_
  refine wp_getR rfl rfl rfl rfl k0 e0 ?_
  exact wp_callI (av := [.ref v0]) rfl rfl rfl (by decide) rfl rfl rfl hm hc w
theorem b231_67 {n : Nat} {h : q_Hp} {Q : Option Value → q_Hp → Prop} {x0 : Nat} {x1 : Int32} {s0 : Int32} (q : Q (some (.int s0)) h) : q_wp n 231 67 [some (.ref x0), some (.int x1)] [.int s0] h Q := by
  exact wp_ret rfl rfl q
theorem b231_68 {n : Nat} {h : q_Hp} {Q : Option Value → q_Hp → Prop} {x0 : Nat} {x1 : Int32} {v0 : Nat} (k0 : q_ok h x0 11) (e0 : qR h x0 8 = v0) {m : Nat} {P : Int32 → q_Hp → Prop} (hc : q_mI m 73 [.ref v0] h P) (hm : m ≤ n) (w : ∀ (z : Int32) (h1 : q_Hp), P z h1 → q_wp (n + 1) 231 75 [some (.ref x0), some (.int x1)] [.int z] h1 Q) : q_wp (n + 1) 231 68 [some (.ref x0), some (.int x1)] [] h Q := by
  refine wp_loc rfl rfl ?_
  refine wp_getR rfl rfl rfl rfl k0 e0 ?_
  exact wp_callI (av := [.ref v0]) rfl rfl rfl (by decide) rfl rfl rfl hm hc w
theorem b231_75 {n : Nat} {h : q_Hp} {Q : Option Value → q_Hp → Prop} {x0 : Nat} {x1 : Int32} {s0 : Int32} (q : Q (some (.int s0)) h) : q_wp n 231 75 [some (.ref x0), some (.int x1)] [.int s0] h Q := by
  exact wp_ret rfl rfl q
theorem b231_76 {n : Nat} {h : q_Hp} {Q : Option Value → q_Hp → Prop} {x0 : Nat} {x1 : Int32} {v0 : Nat} (k0 : q_ok h x0 11) (e0 : qR h x0 5 = v0) (k1 : q_ok h v0 0) (q : Q (some (.int (qI h v0 0))) h) : q_wp n 231 76 [some (.ref x0), some (.int x1)] [] h Q := by
  refine wp_loc rfl rfl ?_
  refine wp_getR rfl rfl rfl rfl k0 e0 ?_
  refine wp_getI rfl rfl rfl k1 ?_
  exact wp_ret rfl rfl q
theorem b231_84 {n : Nat} {h : q_Hp} {Q : Option Value → q_Hp → Prop} {x0 : Nat} {x1 : Int32} {v0 : Nat} (k0 : q_ok h x0 11) (e0 : qR h x0 5 = v0) (k1 : q_ok h v0 0) (q : Q (some (.int (qI h v0 1))) h) : q_wp n 231 84 [some (.ref x0), some (.int x1)] [] h Q := by
  refine wp_loc rfl rfl ?_
  refine wp_getR rfl rfl rfl rfl k0 e0 ?_
  refine wp_getI rfl rfl rfl k1 ?_
  exact wp_ret rfl rfl q
theorem b231_92 {n : Nat} {h : q_Hp} {Q : Option Value → q_Hp → Prop} {x0 : Nat} {x1 : Int32} {v0 : Nat} (k0 : q_ok h x0 11) (e0 : qR h x0 5 = v0) (k1 : q_ok h v0 0) (q : Q (some (.int (qI h v0 2))) h) : q_wp n 231 92 [some (.ref x0), some (.int x1)] [] h Q := by
  refine wp_loc rfl rfl ?_
  refine wp_getR rfl rfl rfl rfl k0 e0 ?_
  refine wp_getI rfl rfl rfl k1 ?_
  exact wp_ret rfl rfl q
theorem b231_100 {n : Nat} {h : q_Hp} {Q : Option Value → q_Hp → Prop} {x0 : Nat} {x1 : Int32} {v0 : Nat} (k0 : q_ok h x0 11) (e0 : qR h x0 5 = v0) (k1 : q_ok h v0 0) (q : Q (some (.int (qI h v0 3))) h) : q_wp n 231 100 [some (.ref x0), some (.int x1)] [] h Q := by
  refine wp_loc rfl rfl ?_
  refine wp_getR rfl rfl rfl rfl k0 e0 ?_
  refine wp_getI rfl rfl rfl k1 ?_
  exact wp_ret rfl rfl q
theorem b231_108 {n : Nat} {h : q_Hp} {Q : Option Value → q_Hp → Prop} {x0 : Nat} {x1 : Int32} {v0 : Nat} (k0 : q_ok h x0 11) (e0 : qR h x0 9 = v0) {m : Nat} {P : Int32 → q_Hp → Prop} (hc : q_mI m 82 [.ref v0] h P) (hm : m ≤ n) (w : ∀ (z : Int32) (h1 : q_Hp), P z h1 → q_wp (n + 1) 231 115 [some (.ref x0), some (.int x1)] [.int z] h1 Q) : q_wp (n + 1) 231 108 [some (.ref x0), some (.int x1)] [] h Q := by
  refine wp_loc rfl rfl ?_
  refine wp_getR rfl rfl rfl rfl k0 e0 ?_
  exact wp_callI (av := [.ref v0]) rfl rfl rfl (by decide) rfl rfl rfl hm hc w
theorem b231_115 {n : Nat} {h : q_Hp} {Q : Option Value → q_Hp → Prop} {x0 : Nat} {x1 : Int32} {s0 : Int32} (q : Q (some (.int s0)) h) : q_wp n 231 115 [some (.ref x0), some (.int x1)] [.int s0] h Q := by
  exact wp_ret rfl rfl q
theorem b231_116 {n : Nat} {h : q_Hp} {Q : Option Value → q_Hp → Prop} {x0 : Nat} {x1 : Int32} {v0 : Nat} (k0 : q_ok h x0 11) (e0 : qR h x0 12 = v0) {m : Nat} {P : Int32 → q_Hp → Prop} (hc : q_mI m 141 [.ref v0] h P) (hm : m ≤ n) (w : ∀ (z : Int32) (h1 : q_Hp), P z h1 → q_wp (n + 1) 231 123 [some (.ref x0), some (.int x1)] [.int z] h1 Q) : q_wp (n + 1) 231 116 [some (.ref x0), some (.int x1)] [] h Q := by
  refine wp_loc rfl rfl ?_
  refine wp_getR rfl rfl rfl rfl k0 e0 ?_
  exact wp_callI (av := [.ref v0]) rfl rfl rfl (by decide) rfl rfl rfl hm hc w
theorem b231_123 {n : Nat} {h : q_Hp} {Q : Option Value → q_Hp → Prop} {x0 : Nat} {x1 : Int32} {s0 : Int32} (q : Q (some (.int s0)) h) : q_wp n 231 123 [some (.ref x0), some (.int x1)] [.int s0] h Q := by
  exact wp_ret rfl rfl q
theorem b231_124 {n : Nat} {h : q_Hp} {Q : Option Value → q_Hp → Prop} {x0 : Nat} {x1 : Int32} {v0 : Nat} (k0 : q_ok h x0 11) (e0 : qR h x0 12 = v0) {m : Nat} {P : Int32 → q_Hp → Prop} (hc : q_mI m 140 [.ref v0] h P) (hm : m ≤ n) (w : ∀ (z : Int32) (h1 : q_Hp), P z h1 → q_wp (n + 1) 231 131 [some (.ref x0), some (.int x1)] [.int z] h1 Q) : q_wp (n + 1) 231 124 [some (.ref x0), some (.int x1)] [] h Q := by
  refine wp_loc rfl rfl ?_
  refine wp_getR rfl rfl rfl rfl k0 e0 ?_
  exact wp_callI (av := [.ref v0]) rfl rfl rfl (by decide) rfl rfl rfl hm hc w
theorem b231_131 {n : Nat} {h : q_Hp} {Q : Option Value → q_Hp → Prop} {x0 : Nat} {x1 : Int32} {s0 : Int32} (q : Q (some (.int s0)) h) : q_wp n 231 131 [some (.ref x0), some (.int x1)] [.int s0] h Q := by
  exact wp_ret rfl rfl q
theorem b231_132 {n : Nat} {h : q_Hp} {Q : Option Value → q_Hp → Prop} {x0 : Nat} {x1 : Int32} (k0 : q_ok h x0 11) (q : Q (some (.int (qI h x0 1))) h) : q_wp n 231 132 [some (.ref x0), some (.int x1)] [] h Q := by
  refine wp_loc rfl rfl ?_
  refine wp_getI rfl rfl rfl k0 ?_
  exact wp_ret rfl rfl q
theorem b231_137 {n : Nat} {h : q_Hp} {Q : Option Value → q_Hp → Prop} {x0 : Nat} {x1 : Int32} {v0 : Nat} (k0 : q_ok h x0 11) (e0 : qR h x0 12 = v0) {m : Nat} {P : Int32 → q_Hp → Prop} (hc : q_mI m 142 [.ref v0] h P) (hm : m ≤ n) (w : ∀ (z : Int32) (h1 : q_Hp), P z h1 → q_wp (n + 1) 231 144 [some (.ref x0), some (.int x1)] [.int z] h1 Q) : q_wp (n + 1) 231 137 [some (.ref x0), some (.int x1)] [] h Q := by
  refine wp_loc rfl rfl ?_
  refine wp_getR rfl rfl rfl rfl k0 e0 ?_
  exact wp_callI (av := [.ref v0]) rfl rfl rfl (by decide) rfl rfl rfl hm hc w
theorem b231_144 {n : Nat} {h : q_Hp} {Q : Option Value → q_Hp → Prop} {x0 : Nat} {x1 : Int32} {s0 : Int32} (q : Q (some (.int s0)) h) : q_wp n 231 144 [some (.ref x0), some (.int x1)] [.int s0] h Q := by
  exact wp_ret rfl rfl q
theorem b231_145 {n : Nat} {h : q_Hp} {Q : Option Value → q_Hp → Prop} {x0 : Nat} {x1 : Int32} (q : Q (some (.int (-1))) h) : q_wp n 231 145 [some (.ref x0), some (.int x1)] [] h Q := by
  refine wp_iconst (v := (-1)) rfl (by decide) ?_
  exact wp_ret rfl rfl q
theorem b232_0 {n : Nat} {h : q_Hp} {Q : Option Value → q_Hp → Prop} {x0 : Nat} {x1 : Int32} (wt : x1 < 0 → q_wp n 232 16 [some (.ref x0), some (.int x1)] [] h Q) (wf : ¬ x1 < 0 → q_wp n 232 4 [some (.ref x0), some (.int x1)] [] h Q) : q_wp n 232 0 [some (.ref x0), some (.int x1)] [] h Q := by
  refine wp_loc rfl rfl ?_
  exact wp_iflt (tgt := 16) rfl (by decide) wt wf
theorem b232_4 {n : Nat} {h : q_Hp} {Q : Option Value → q_Hp → Prop} {x0 : Nat} {x1 : Int32} {cd0 : Nat} (a0 : q_ok h x0 cd0) (a0c : 20 ≤ cd0 ∧ cd0 ≤ 24) (wt : (Int32.ofNat (qK h x0).2) ≤ x1 → q_wp n 232 16 [some (.ref x0), some (.int x1)] [] h Q) (wf : ¬ (Int32.ofNat (qK h x0).2) ≤ x1 → q_wp n 232 10 [some (.ref x0), some (.int x1)] [] h Q) : q_wp n 232 4 [some (.ref x0), some (.int x1)] [] h Q := by
  refine wp_loc rfl rfl ?_
  refine wp_loc rfl rfl ?_
  refine wp_alen rfl a0 a0c ?_
  exact wp_icge (tgt := 16) rfl (by decide) wt wf
theorem b232_10 {n : Nat} {h : q_Hp} {Q : Option Value → q_Hp → Prop} {x0 : Nat} {x1 : Int32} (k0 : q_ok h x0 20) (i0 : q_in x1 (qK h x0).2) (q : Q (some (.int (qA h x0 x1.toNatClampNeg))) h) : q_wp n 232 10 [some (.ref x0), some (.int x1)] [] h Q := by
  refine wp_loc rfl rfl ?_
  refine wp_loc rfl rfl ?_
  refine wp_iald rfl k0 i0 ?_
  refine wp_goto (tgt := 17) rfl (by decide) ?_
  exact wp_ret rfl rfl q
theorem b232_16 {n : Nat} {h : q_Hp} {Q : Option Value → q_Hp → Prop} {x0 : Nat} {x1 : Int32} (q : Q (some (.int (-1))) h) : q_wp n 232 16 [some (.ref x0), some (.int x1)] [] h Q := by
  refine wp_iconst (v := (-1)) rfl (by decide) ?_
  exact wp_ret rfl rfl q
theorem b233_0 {n : Nat} {h : q_Hp} {Q : Option Value → q_Hp → Prop} {x0 : Nat} {x1 : Int32} {x2 : Int32} (wt : x1 < 0 → q_wp n 233 14 [some (.ref x0), some (.int x1), some (.int x2)] [] h Q) (wf : ¬ x1 < 0 → q_wp n 233 4 [some (.ref x0), some (.int x1), some (.int x2)] [] h Q) : q_wp n 233 0 [some (.ref x0), some (.int x1), some (.int x2)] [] h Q := by
  refine wp_loc rfl rfl ?_
  exact wp_iflt (tgt := 14) rfl (by decide) wt wf
theorem b233_4 {n : Nat} {h : q_Hp} {Q : Option Value → q_Hp → Prop} {x0 : Nat} {x1 : Int32} {x2 : Int32} {cd0 : Nat} (a0 : q_ok h x0 cd0) (a0c : 20 ≤ cd0 ∧ cd0 ≤ 24) (wt : (Int32.ofNat (qK h x0).2) ≤ x1 → q_wp n 233 14 [some (.ref x0), some (.int x1), some (.int x2)] [] h Q) (wf : ¬ (Int32.ofNat (qK h x0).2) ≤ x1 → q_wp n 233 10 [some (.ref x0), some (.int x1), some (.int x2)] [] h Q) : q_wp n 233 4 [some (.ref x0), some (.int x1), some (.int x2)] [] h Q := by
  refine wp_loc rfl rfl ?_
  refine wp_loc rfl rfl ?_
  refine wp_alen rfl a0 a0c ?_
  exact wp_icge (tgt := 14) rfl (by decide) wt wf
theorem b233_10 {n : Nat} {h : q_Hp} {Q : Option Value → q_Hp → Prop} {x0 : Nat} {x1 : Int32} {x2 : Int32} (k0 : q_ok h x0 20) (i0 : q_in x1 (qK h x0).2) (w : q_wp n 233 14 [some (.ref x0), some (.int x1), some (.int x2)] [] (q_sA h x0 x1.toNatClampNeg x2) Q) : q_wp n 233 10 [some (.ref x0), some (.int x1), some (.int x2)] [] h Q := by
  refine wp_loc rfl rfl ?_
  refine wp_loc rfl rfl ?_
  refine wp_loc rfl rfl ?_
  refine wp_iast rfl k0 i0 ?_
  exact w
theorem b233_14 {n : Nat} {h : q_Hp} {Q : Option Value → q_Hp → Prop} {x0 : Nat} {x1 : Int32} {x2 : Int32} (q : Q none h) : q_wp n 233 14 [some (.ref x0), some (.int x1), some (.int x2)] [] h Q := by
  exact wp_ret rfl rfl q
theorem b234_0 {n : Nat} {h : q_Hp} {Q : Option Value → q_Hp → Prop} {x0 : Nat} {x1 : Int32} (w : q_wp n 234 3 [some (.ref x0), some (.int x1), some (.int 24)] [] h Q) : q_wp n 234 0 [some (.ref x0), some (.int x1), none] [] h Q := by
  refine wp_bipush (v := 24) rfl (by decide) ?_
  refine wp_loc rfl rfl ?_
  exact w
theorem b234_3 {n : Nat} {h : q_Hp} {Q : Option Value → q_Hp → Prop} {x0 : Nat} {x1 : Int32} {x2 : Int32} (wt : x2 < 0 → q_wp n 234 46 [some (.ref x0), some (.int x1), some (.int x2)] [] h Q) (wf : ¬ x2 < 0 → q_wp n 234 7 [some (.ref x0), some (.int x1), some (.int x2)] [] h Q) : q_wp n 234 3 [some (.ref x0), some (.int x1), some (.int x2)] [] h Q := by
  refine wp_loc rfl rfl ?_
  exact wp_iflt (tgt := 46) rfl (by decide) wt wf
theorem b234_7 {n : Nat} {h : q_Hp} {Q : Option Value → q_Hp → Prop} {x0 : Nat} {x1 : Int32} {x2 : Int32} (k0 : q_ok h x0 11) (wt : 4000 ≤ (qI h x0 1) → q_wp n 234 40 [some (.ref x0), some (.int x1), some (.int x2)] [] h Q) (wf : ¬ 4000 ≤ (qI h x0 1) → q_wp n 234 17 [some (.ref x0), some (.int x1), some (.int x2)] [] h Q) : q_wp n 234 7 [some (.ref x0), some (.int x1), some (.int x2)] [] h Q := by
  refine wp_loc rfl rfl ?_
  refine wp_getI rfl rfl rfl k0 ?_
  refine wp_sipush (v := 4000) rfl (by decide) ?_
  exact wp_icge (tgt := 40) rfl (by decide) wt wf
theorem b234_17 {n : Nat} {h : q_Hp} {Q : Option Value → q_Hp → Prop} {x0 : Nat} {x1 : Int32} {x2 : Int32} {v0 : Nat} (k0 : q_ok h x0 11) (e0 : qR h x0 0 = v0) (k1 : q_ok h v0 22) (i0 : q_in (qI h x0 1) (qK h v0).2) (w : q_wp n 234 40 [some (.ref x0), some (.int x1), some (.int x2)] [] (q_sI (q_sA h v0 ((qI h x0 1 : Int32).toNatClampNeg) (vp_nar .byte ((x1 >>> (x2 &&& 31) : Int32).toInt8.toInt32))) x0 1 ((qI h x0 1) + 1)) Q) : q_wp n 234 17 [some (.ref x0), some (.int x1), some (.int x2)] [] h Q := by
  refine wp_loc rfl rfl ?_
  refine wp_getR rfl rfl rfl rfl k0 e0 ?_
  refine wp_loc rfl rfl ?_
  refine wp_getI rfl rfl rfl k0 ?_
  refine wp_loc rfl rfl ?_
  refine wp_loc rfl rfl ?_
  refine wp_stk rfl rfl rfl ?_
  refine wp_stk rfl rfl rfl ?_
  refine wp_bast rfl k1 i0 ?_
  refine wp_loc rfl rfl ?_
  refine wp_stk rfl rfl rfl ?_
  refine wp_getI rfl rfl rfl k0 ?_
  refine wp_iconst (v := 1) rfl (by decide) ?_
  refine wp_stk rfl rfl rfl ?_
  refine wp_putI rfl rfl (Or.inl rfl) rfl (fun h9 => by cases h9) k0 ?_
  exact w
theorem b234_40 {n : Nat} {h : q_Hp} {Q : Option Value → q_Hp → Prop} {x0 : Nat} {x1 : Int32} {x2 : Int32} (w : q_wp n 234 3 [some (.ref x0), some (.int x1), some (.int (x2 + (-8)))] [] h Q) : q_wp n 234 40 [some (.ref x0), some (.int x1), some (.int x2)] [] h Q := by
  refine wp_iinc (v := (-8)) rfl rfl (by decide) rfl ?_
  refine wp_goto (tgt := 3) rfl (by decide) ?_
  exact w
theorem b234_46 {n : Nat} {h : q_Hp} {Q : Option Value → q_Hp → Prop} {x0 : Nat} {x1 : Int32} {x2 : Int32} (q : Q none h) : q_wp n 234 46 [some (.ref x0), some (.int x1), some (.int x2)] [] h Q := by
  exact wp_ret rfl rfl q
theorem b235_0 {n : Nat} {h : q_Hp} {Q : Option Value → q_Hp → Prop} {x0 : Nat} {v0 : Nat} {v1 : Nat} {v2 : Nat} (k0 : q_ok h x0 11) (e0 : qR h x0 6 = v0) (e1 : qR h x0 5 = v1) (e2 : qR (q_sR (q_sR h x0 6 v1) x0 5 v0) x0 8 = v2) {m : Nat} {P : q_Hp → Prop} (hc : q_mV m 61 [.ref v2] (q_sR (q_sR h x0 6 v1) x0 5 v0) P) (hm : m ≤ n) (w : ∀ h1 : q_Hp, P h1 → q_wp (n + 1) 235 25 [some (.ref x0), some (.ref v0), none] [] h1 Q) : q_wp (n + 1) 235 0 [some (.ref x0), none, none] [] h Q := by
  refine wp_loc rfl rfl ?_
  refine wp_getR rfl rfl rfl rfl k0 e0 ?_
  refine wp_loc rfl rfl ?_
  refine wp_loc rfl rfl ?_
  refine wp_loc rfl rfl ?_
  refine wp_getR rfl rfl rfl rfl k0 e1 ?_
  refine wp_putR rfl rfl (Or.inl rfl) rfl rfl k0 ?_
  refine wp_loc rfl rfl ?_
  refine wp_loc rfl rfl ?_
  refine wp_putR rfl rfl (Or.inl rfl) rfl rfl k0 ?_
  refine wp_loc rfl rfl ?_
  refine wp_getR rfl rfl rfl rfl k0 e2 ?_
  exact wp_callV (av := [.ref v2]) rfl rfl rfl (by decide) rfl rfl rfl hm hc w
theorem b235_25 {n : Nat} {h : q_Hp} {Q : Option Value → q_Hp → Prop} {x0 : Nat} {x1 : Nat} {v0 : Nat} (k0 : q_ok h x0 11) (e0 : qR h x0 9 = v0) {m : Nat} {P : q_Hp → Prop} (hc : q_mV m 84 [.ref v0] h P) (hm : m ≤ n) (w : ∀ h1 : q_Hp, P h1 → q_wp (n + 1) 235 32 [some (.ref x0), some (.ref x1), none] [] h1 Q) : q_wp (n + 1) 235 25 [some (.ref x0), some (.ref x1), none] [] h Q := by
  refine wp_loc rfl rfl ?_
  refine wp_getR rfl rfl rfl rfl k0 e0 ?_
  exact wp_callV (av := [.ref v0]) rfl rfl rfl (by decide) rfl rfl rfl hm hc w
theorem b235_32 {n : Nat} {h : q_Hp} {Q : Option Value → q_Hp → Prop} {x0 : Nat} {x1 : Nat} {v0 : Nat} (k0 : q_ok h x0 11) (e0 : qR h x0 12 = v0) {m : Nat} {P : q_Hp → Prop} (hc : q_mV m 143 [.ref v0] h P) (hm : m ≤ n) (w : ∀ h1 : q_Hp, P h1 → q_wp (n + 1) 235 39 [some (.ref x0), some (.ref x1), none] [] h1 Q) : q_wp (n + 1) 235 32 [some (.ref x0), some (.ref x1), none] [] h Q := by
  refine wp_loc rfl rfl ?_
  refine wp_getR rfl rfl rfl rfl k0 e0 ?_
  exact wp_callV (av := [.ref v0]) rfl rfl rfl (by decide) rfl rfl rfl hm hc w
theorem b235_39 {n : Nat} {h : q_Hp} {Q : Option Value → q_Hp → Prop} {x0 : Nat} {x1 : Nat} {v0 : Nat} (k0 : q_ok h x0 11) (e0 : qR h x0 10 = v0) {m : Nat} {P : q_Hp → Prop} (hc : q_mV m 114 [.ref v0] h P) (hm : m ≤ n) (w : ∀ h1 : q_Hp, P h1 → q_wp (n + 1) 235 46 [some (.ref x0), some (.ref x1), none] [] h1 Q) : q_wp (n + 1) 235 39 [some (.ref x0), some (.ref x1), none] [] h Q := by
  refine wp_loc rfl rfl ?_
  refine wp_getR rfl rfl rfl rfl k0 e0 ?_
  exact wp_callV (av := [.ref v0]) rfl rfl rfl (by decide) rfl rfl rfl hm hc w
theorem b235_46 {n : Nat} {h : q_Hp} {Q : Option Value → q_Hp → Prop} {x0 : Nat} {x1 : Nat} (w : q_wp n 235 48 [some (.ref x0), some (.ref x1), some (.int 0)] [] h Q) : q_wp n 235 46 [some (.ref x0), some (.ref x1), none] [] h Q := by
  refine wp_iconst (v := 0) rfl (by decide) ?_
  refine wp_loc rfl rfl ?_
  exact w
theorem b235_48 {n : Nat} {h : q_Hp} {Q : Option Value → q_Hp → Prop} {x0 : Nat} {x1 : Nat} {x2 : Int32} (wt : 4 ≤ x2 → q_wp n 235 66 [some (.ref x0), some (.ref x1), some (.int x2)] [] h Q) (wf : ¬ 4 ≤ x2 → q_wp n 235 53 [some (.ref x0), some (.ref x1), some (.int x2)] [] h Q) : q_wp n 235 48 [some (.ref x0), some (.ref x1), some (.int x2)] [] h Q := by
  refine wp_loc rfl rfl ?_
  refine wp_iconst (v := 4) rfl (by decide) ?_
  exact wp_icge (tgt := 66) rfl (by decide) wt wf
theorem b235_53 {n : Nat} {h : q_Hp} {Q : Option Value → q_Hp → Prop} {x0 : Nat} {x1 : Nat} {x2 : Int32} {v0 : Nat} (k0 : q_ok h x0 11) (e0 : qR h x0 14 = v0) (k1 : q_ok h v0 23) (i0 : q_in x2 (qK h v0).2) (w : q_wp n 235 48 [some (.ref x0), some (.ref x1), some (.int (x2 + 1))] [] (q_sA h v0 x2.toNatClampNeg (vp_nar .boolean 0)) Q) : q_wp n 235 53 [some (.ref x0), some (.ref x1), some (.int x2)] [] h Q := by
  refine wp_loc rfl rfl ?_
  refine wp_getR rfl rfl rfl rfl k0 e0 ?_
  refine wp_loc rfl rfl ?_
  refine wp_iconst (v := 0) rfl (by decide) ?_
  refine wp_zast rfl k1 i0 ?_
  refine wp_iinc (v := 1) rfl rfl (by decide) rfl ?_
  refine wp_goto (tgt := 48) rfl (by decide) ?_
  exact w
theorem b235_66 {n : Nat} {h : q_Hp} {Q : Option Value → q_Hp → Prop} {x0 : Nat} {x1 : Nat} {x2 : Int32} (q : Q none h) : q_wp n 235 66 [some (.ref x0), some (.ref x1), some (.int x2)] [] h Q := by
  exact wp_ret rfl rfl q
