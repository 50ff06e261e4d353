theorem b186_53 {n : Nat} {h : q_Hp} {Q : Option Value → q_Hp → Prop} {x0 : Nat} {x1 : Int32} {x2 : Int64} {x4 : Int32} {l5 : Option Value} {s0 : Int32} {s1 : Int32} (wt : s0 ≤ s1 → q_wp n 186 108 [some (.ref x0), some (.int x1), some (.long x2), none, some (.int x4), l5] [] h Q) (wf : ¬ s0 ≤ s1 → q_wp n 186 56 [some (.ref x0), some (.int x1), some (.long x2), none, some (.int x4), l5] [] h Q) : q_wp n 186 53 [some (.ref x0), some (.int x1), some (.long x2), none, some (.int x4), l5] [.int s0, .int s1] h Q := by
  exact wp_icge (tgt := 108) rfl (by decide) wt wf
theorem b186_56 {n : Nat} {h : q_Hp} {Q : Option Value → q_Hp → Prop} {x0 : Nat} {x1 : Int32} {x2 : Int64} {x4 : Int32} {l5 : Option Value} (wt : 25 ≤ x1 → q_wp n 186 108 [some (.ref x0), some (.int x1), some (.long x2), none, some (.int x4), l5] [] h Q) (wf : ¬ 25 ≤ x1 → q_wp n 186 62 [some (.ref x0), some (.int x1), some (.long x2), none, some (.int x4), l5] [] h Q) : q_wp n 186 56 [some (.ref x0), some (.int x1), some (.long x2), none, some (.int x4), l5] [] h Q := by
  refine wp_loc rfl rfl ?_
  refine wp_bipush (v := 25) rfl (by decide) ?_
  exact wp_icge (tgt := 108) rfl (by decide) wt wf
theorem b186_69 {n : Nat} {h : q_Hp} {Q : Option Value → q_Hp → Prop} {x0 : Nat} {x1 : Int32} {x2 : Int64} {x4 : Int32} {l5 : Option Value} {s0 : Int32} (wt : ¬ s0 = 32 → q_wp n 186 93 [some (.ref x0), some (.int x1), some (.long x2), none, some (.int x4), some (.int s0)] [] h Q) (wf : s0 = 32 → q_wp n 186 78 [some (.ref x0), some (.int x1), some (.long x2), none, some (.int x4), some (.int s0)] [] h Q) : q_wp n 186 69 [some (.ref x0), some (.int x1), some (.long x2), none, some (.int x4), l5] [.int s0] h Q := by
  refine wp_loc rfl rfl ?_
  refine wp_loc rfl rfl ?_
  refine wp_bipush (v := 32) rfl (by decide) ?_
  exact wp_icne (tgt := 93) rfl (by decide) wt wf
theorem b186_78 {n : Nat} {h : q_Hp} {Q : Option Value → q_Hp → Prop} {x0 : Nat} {x1 : Int32} {x2 : Int64} {x4 : Int32} {x5 : Int32} {v0 : Nat} (k0 : q_ok h x0 9) (e0 : qR h x0 0 = v0) (k1 : q_ok h v0 21) (i0 : q_in x1 (qK h v0).2) (w : q_wp n 186 102 [some (.ref x0), some (.int (x1 + 1)), some (.long 0), none, some (.int x4), some (.int x5)] [] (q_sL h v0 x1.toNatClampNeg x2) Q) : q_wp n 186 78 [some (.ref x0), some (.int x1), some (.long x2), none, some (.int x4), some (.int x5)] [] h Q := by
  refine wp_loc rfl rfl ?_
  refine wp_getR rfl rfl rfl rfl k0 e0 ?_
  refine wp_loc rfl rfl ?_
  refine wp_loc rfl rfl ?_
  refine wp_last rfl k1 i0 ?_
  refine wp_iinc (v := 1) rfl rfl (by decide) rfl ?_
  refine wp_lconst (v := 0) rfl (by decide) ?_
  refine wp_loc rfl rfl ?_
  refine wp_goto (tgt := 102) rfl (by decide) ?_
  exact w
theorem b186_93 {n : Nat} {h : q_Hp} {Q : Option Value → q_Hp → Prop} {x0 : Nat} {x1 : Int32} {x2 : Int64} {x4 : Int32} {x5 : Int32} (w : q_wp n 186 102 [some (.ref x0), some (.int x1), some (.long ((x2 <<< ((8 : Int32).toInt64 &&& 63)) ||| ((x5 : Int32).toInt64))), none, some (.int x4), some (.int x5)] [] h Q) : q_wp n 186 93 [some (.ref x0), some (.int x1), some (.long x2), none, some (.int x4), some (.int x5)] [] h Q := by
  refine wp_loc rfl rfl ?_
  refine wp_bipush (v := 8) rfl (by decide) ?_
  refine wp_stk rfl rfl rfl ?_
  refine wp_loc rfl rfl ?_
  refine wp_stk rfl rfl rfl ?_
  refine wp_stk rfl rfl rfl ?_
  refine wp_loc rfl rfl ?_
  exact w
theorem b186_102 {n : Nat} {h : q_Hp} {Q : Option Value → q_Hp → Prop} {x0 : Nat} {x1 : Int32} {x2 : Int64} {x4 : Int32} {x5 : Int32} (w : q_wp n 186 46 [some (.ref x0), some (.int x1), some (.long x2), none, some (.int (x4 + 1)), some (.int x5)] [] h Q) : q_wp n 186 102 [some (.ref x0), some (.int x1), some (.long x2), none, some (.int x4), some (.int x5)] [] h Q := by
  refine wp_iinc (v := 1) rfl rfl (by decide) rfl ?_
  refine wp_goto (tgt := 46) rfl (by decide) ?_
  exact w
theorem b186_108 {n : Nat} {h : q_Hp} {Q : Option Value → q_Hp → Prop} {x0 : Nat} {x1 : Int32} {x2 : Int64} {x4 : Int32} {l5 : Option Value} (q : Q none h) : q_wp n 186 108 [some (.ref x0), some (.int x1), some (.long x2), none, some (.int x4), l5] [] h Q := by
  exact wp_ret rfl rfl q
theorem b187_0 {n : Nat} {h : q_Hp} {Q : Option Value → q_Hp → Prop} {x0 : Nat} {x1 : Nat} {x2 : Int32} {cd0 : Nat} (k0 : q_ok h x0 9) (a1 : q_ok h x1 cd0) (a1c : 20 ≤ cd0 ∧ cd0 ≤ 24) {m : Nat} {P : Int32 → q_Hp → Prop} (hc : q_mI m 350 [.int x2, .int (Int32.ofNat (qK h x1).2)] (q_sI h x0 4 0) P) (hm : m ≤ n) (w : ∀ (z : Int32) (h1 : q_Hp), P z h1 → q_wp (n + 1) 187 11 [some (.ref x0), some (.ref x1), some (.int x2), none, none, none] [.int z] h1 Q) : q_wp (n + 1) 187 0 [some (.ref x0), some (.ref x1), some (.int x2), none, none, none] [] h Q := by
  refine wp_loc rfl rfl ?_
  refine wp_iconst (v := 0) rfl (by decide) ?_
  refine wp_putI rfl rfl (Or.inl rfl) rfl (fun h9 => by cases h9) k0 ?_
  refine wp_loc rfl rfl ?_
  refine wp_loc rfl rfl ?_
  refine wp_alen rfl a1 a1c ?_
  exact wp_callI (av := [.int x2, .int (Int32.ofNat (qK h x1).2)]) rfl rfl rfl (by decide) rfl rfl rfl hm hc w
theorem b187_11 {n : Nat} {h : q_Hp} {Q : Option Value → q_Hp → Prop} {x0 : Nat} {x1 : Nat} {x2 : Int32} {s0 : Int32} (w : q_wp n 187 18 [some (.ref x0), some (.ref x1), some (.int x2), some (.int s0), some (.int 0), some (.int 0)] [] h Q) : q_wp n 187 11 [some (.ref x0), some (.ref x1), some (.int x2), none, none, none] [.int s0] h Q := by
  refine wp_loc rfl rfl ?_
  refine wp_iconst (v := 0) rfl (by decide) ?_
  refine wp_loc rfl rfl ?_
  refine wp_iconst (v := 0) rfl (by decide) ?_
  refine wp_loc rfl rfl ?_
  exact w
theorem b187_18 {n : Nat} {h : q_Hp} {Q : Option Value → q_Hp → Prop} {x0 : Nat} {x1 : Nat} {x2 : Int32} {x3 : Int32} {x4 : Int32} {x5 : Int32} (wt : 1200 < x5 → q_wp n 187 82 [some (.ref x0), some (.ref x1), some (.int x2), some (.int x3), some (.int x4), some (.int x5)] [] h Q) (wf : ¬ 1200 < x5 → q_wp n 187 26 [some (.ref x0), some (.ref x1), some (.int x2), some (.int x3), some (.int x4), some (.int x5)] [] h Q) : q_wp n 187 18 [some (.ref x0), some (.ref x1), some (.int x2), some (.int x3), some (.int x4), some (.int x5)] [] h Q := by
  refine wp_loc rfl rfl ?_
  refine wp_sipush (v := 1200) rfl (by decide) ?_
  exact wp_icgt (tgt := 82) rfl (by decide) wt wf
theorem b187_26 {n : Nat} {h : q_Hp} {Q : Option Value → q_Hp → Prop} {x0 : Nat} {x1 : Nat} {x2 : Int32} {x3 : Int32} {x4 : Int32} {x5 : Int32} {m : Nat} {P : Int32 → q_Hp → Prop} (hc : q_mI m 195 [.ref x1, .int x3, .int x4] h P) (hm : m ≤ n) (w : ∀ (z : Int32) (h1 : q_Hp), P z h1 → q_wp (n + 1) 187 33 [some (.ref x0), some (.ref x1), some (.int x2), some (.int x3), some (.int x4), some (.int x5)] [.int z] h1 Q) : q_wp (n + 1) 187 26 [some (.ref x0), some (.ref x1), some (.int x2), some (.int x3), some (.int x4), some (.int x5)] [] h Q := by
  refine wp_loc rfl rfl ?_
  refine wp_loc rfl rfl ?_
  refine wp_loc rfl rfl ?_
  exact wp_callI (av := [.ref x1, .int x3, .int x4]) rfl rfl rfl (by decide) rfl rfl rfl hm hc w
theorem b187_33 {n : Nat} {h : q_Hp} {Q : Option Value → q_Hp → Prop} {x0 : Nat} {x1 : Nat} {x2 : Int32} {x3 : Int32} {x4 : Int32} {x5 : Int32} {s0 : Int32} (wt : s0 < x3 → q_wp n 187 50 [some (.ref x0), some (.ref x1), some (.int x2), some (.int x3), some (.int s0), some (.int x5)] [] h Q) (wf : ¬ s0 < x3 → q_wp n 187 41 [some (.ref x0), some (.ref x1), some (.int x2), some (.int x3), some (.int s0), some (.int x5)] [] h Q) : q_wp n 187 33 [some (.ref x0), some (.ref x1), some (.int x2), some (.int x3), some (.int x4), some (.int x5)] [.int s0] h Q := by
  refine wp_loc rfl rfl ?_
  refine wp_loc rfl rfl ?_
  refine wp_loc rfl rfl ?_
  exact wp_iclt (tgt := 50) rfl (by decide) wt wf
theorem b187_41 {n : Nat} {h : q_Hp} {Q : Option Value → q_Hp → Prop} {x0 : Nat} {x1 : Nat} {x2 : Int32} {x3 : Int32} {x4 : Int32} {x5 : Int32} {m : Nat} {P : q_Hp → Prop} (hc : q_mV m 191 [.ref x0, .int 42, .int x3, .long 0] h P) (hm : m ≤ n) (w : ∀ h1 : q_Hp, P h1 → q_wp (n + 1) 187 49 [some (.ref x0), some (.ref x1), some (.int x2), some (.int x3), some (.int x4), some (.int x5)] [] h1 Q) : q_wp (n + 1) 187 41 [some (.ref x0), some (.ref x1), some (.int x2), some (.int x3), some (.int x4), some (.int x5)] [] h Q := by
  refine wp_loc rfl rfl ?_
  refine wp_bipush (v := 42) rfl (by decide) ?_
  refine wp_loc rfl rfl ?_
  refine wp_lconst (v := 0) rfl (by decide) ?_
  exact wp_callV (av := [.ref x0, .int 42, .int x3, .long 0]) rfl rfl rfl (by decide) rfl rfl rfl hm hc w
theorem b187_49 {n : Nat} {h : q_Hp} {Q : Option Value → q_Hp → Prop} {x0 : Nat} {x1 : Nat} {x2 : Int32} {x3 : Int32} {x4 : Int32} {x5 : Int32} (q : Q none h) : q_wp n 187 49 [some (.ref x0), some (.ref x1), some (.int x2), some (.int x3), some (.int x4), some (.int x5)] [] h Q := by
  exact wp_ret rfl rfl q
theorem b187_50 {n : Nat} {h : q_Hp} {Q : Option Value → q_Hp → Prop} {x0 : Nat} {x1 : Nat} {x2 : Int32} {x3 : Int32} {x4 : Int32} {x5 : Int32} {m : Nat} {P : Int32 → q_Hp → Prop} (hc : q_mI m 196 [.ref x0, .ref x1, .int x3, .int x4] h P) (hm : m ≤ n) (w : ∀ (z : Int32) (h1 : q_Hp), P z h1 → q_wp (n + 1) 187 58 [some (.ref x0), some (.ref x1), some (.int x2), some (.int x3), some (.int x4), some (.int x5)] [.int z] h1 Q) : q_wp (n + 1) 187 50 [some (.ref x0), some (.ref x1), some (.int x2), some (.int x3), some (.int x4), some (.int x5)] [] h Q := by
  refine wp_loc rfl rfl ?_
  refine wp_loc rfl rfl ?_
  refine wp_loc rfl rfl ?_
  refine wp_loc rfl rfl ?_
  exact wp_callI (av := [.ref x0, .ref x1, .int x3, .int x4]) rfl rfl rfl (by decide) rfl rfl rfl hm hc w
theorem b187_58 {n : Nat} {h : q_Hp} {Q : Option Value → q_Hp → Prop} {x0 : Nat} {x1 : Nat} {x2 : Int32} {x3 : Int32} {x4 : Int32} {x5 : Int32} {s0 : Int32} (k0 : q_ok h x0 9) {m : Nat} {P : Int32 → q_Hp → Prop} (hc : q_mI m 188 [.ref x0, .int ((qI h x0 4) - 1)] h P) (hm : m ≤ n) (w : ∀ (z : Int32) (h1 : q_Hp), P z h1 → q_wp (n + 1) 187 70 [some (.ref x0), some (.ref x1), some (.int x2), some (.int x3), some (.int s0), some (.int x5)] [.int z] h1 Q) : q_wp (n + 1) 187 58 [some (.ref x0), some (.ref x1), some (.int x2), some (.int x3), some (.int x4), some (.int x5)] [.int s0] h Q := by
  refine wp_loc rfl rfl ?_
  refine wp_loc rfl rfl ?_
  refine wp_loc rfl rfl ?_
  refine wp_getI rfl rfl rfl k0 ?_
  refine wp_iconst (v := 1) rfl (by decide) ?_
  refine wp_stk rfl rfl rfl ?_
  exact wp_callI (av := [.ref x0, .int ((qI h x0 4) - 1)]) rfl rfl rfl (by decide) rfl rfl rfl hm hc w
theorem b187_70 {n : Nat} {h : q_Hp} {Q : Option Value → q_Hp → Prop} {x0 : Nat} {x1 : Nat} {x2 : Int32} {x3 : Int32} {x4 : Int32} {x5 : Int32} {s0 : Int32} (wt : ¬ s0 = 43 → q_wp n 187 76 [some (.ref x0), some (.ref x1), some (.int x2), some (.int x3), some (.int x4), some (.int x5)] [] h Q) (wf : s0 = 43 → q_wp n 187 75 [some (.ref x0), some (.ref x1), some (.int x2), some (.int x3), some (.int x4), some (.int x5)] [] h Q) : q_wp n 187 70 [some (.ref x0), some (.ref x1), some (.int x2), some (.int x3), some (.int x4), some (.int x5)] [.int s0] h Q := by
  refine wp_bipush (v := 43) rfl (by decide) ?_
  exact wp_icne (tgt := 76) rfl (by decide) wt wf
theorem b187_75 {n : Nat} {h : q_Hp} {Q : Option Value → q_Hp → Prop} {x0 : Nat} {x1 : Nat} {x2 : Int32} {x3 : Int32} {x4 : Int32} {x5 : Int32} (q : Q none h) : q_wp n 187 75 [some (.ref x0), some (.ref x1), some (.int x2), some (.int x3), some (.int x4), some (.int x5)] [] h Q := by
  exact wp_ret rfl rfl q
theorem b187_76 {n : Nat} {h : q_Hp} {Q : Option Value → q_Hp → Prop} {x0 : Nat} {x1 : Nat} {x2 : Int32} {x3 : Int32} {x4 : Int32} {x5 : Int32} (w : q_wp n 187 18 [some (.ref x0), some (.ref x1), some (.int x2), some (.int x3), some (.int x4), some (.int (x5 + 1))] [] h Q) : q_wp n 187 76 [some (.ref x0), some (.ref x1), some (.int x2), some (.int x3), some (.int x4), some (.int x5)] [] h Q := by
  refine wp_iinc (v := 1) rfl rfl (by decide) rfl ?_
  refine wp_goto (tgt := 18) rfl (by decide) ?_
  exact w
theorem b187_82 {n : Nat} {h : q_Hp} {Q : Option Value → q_Hp → Prop} {x0 : Nat} {x1 : Nat} {x2 : Int32} {x3 : Int32} {x4 : Int32} {x5 : Int32} (q : Q none h) : q_wp n 187 82 [some (.ref x0), some (.ref x1), some (.int x2), some (.int x3), some (.int x4), some (.int x5)] [] h Q := by
  exact wp_ret rfl rfl q
theorem b188_0 {n : Nat} {h : q_Hp} {Q : Option Value → q_Hp → Prop} {x0 : Nat} {x1 : Int32} (wt : x1 < 0 → q_wp n 188 21 [some (.ref x0), some (.int x1)] [] h Q) (wf : ¬ x1 < 0 → q_wp n 188 4 [some (.ref x0), some (.int x1)] [] h Q) : q_wp n 188 0 [some (.ref x0), some (.int x1)] [] h Q := by
  refine wp_loc rfl rfl ?_
  exact wp_iflt (tgt := 21) rfl (by decide) wt wf
theorem b188_4 {n : Nat} {h : q_Hp} {Q : Option Value → q_Hp → Prop} {x0 : Nat} {x1 : Int32} (k0 : q_ok h x0 9) (wt : (qI h x0 4) ≤ x1 → q_wp n 188 21 [some (.ref x0), some (.int x1)] [] h Q) (wf : ¬ (qI h x0 4) ≤ x1 → q_wp n 188 12 [some (.ref x0), some (.int x1)] [] h Q) : q_wp n 188 4 [some (.ref x0), some (.int x1)] [] h Q := by
  refine wp_loc rfl rfl ?_
  refine wp_loc rfl rfl ?_
  refine wp_getI rfl rfl rfl k0 ?_
  exact wp_icge (tgt := 21) rfl (by decide) wt wf
theorem b188_12 {n : Nat} {h : q_Hp} {Q : Option Value → q_Hp → Prop} {x0 : Nat} {x1 : Int32} {v0 : Nat} (k0 : q_ok h x0 9) (e0 : qR h x0 1 = v0) (k1 : q_ok h v0 20) (i0 : q_in x1 (qK h v0).2) (q : Q (some (.int (qA h v0 x1.toNatClampNeg))) h) : q_wp n 188 12 [some (.ref x0), some (.int x1)] [] h Q := by
  refine wp_loc rfl rfl ?_
  refine wp_getR rfl rfl rfl rfl k0 e0 ?_
  refine wp_loc rfl rfl ?_
  refine wp_iald rfl k1 i0 ?_
  refine wp_goto (tgt := 23) rfl (by decide) ?_
  exact wp_ret rfl rfl q
theorem b188_21 {n : Nat} {h : q_Hp} {Q : Option Value → q_Hp → Prop} {x0 : Nat} {x1 : Int32} (q : Q (some (.int 42)) h) : q_wp n 188 21 [some (.ref x0), some (.int x1)] [] h Q := by
  refine wp_bipush (v := 42) rfl (by decide) ?_
  exact wp_ret rfl rfl q
theorem b189_0 {n : Nat} {h : q_Hp} {Q : Option Value → q_Hp → Prop} {x0 : Nat} {x1 : Int32} (wt : x1 < 0 → q_wp n 189 21 [some (.ref x0), some (.int x1)] [] h Q) (wf : ¬ x1 < 0 → q_wp n 189 4 [some (.ref x0), some (.int x1)] [] h Q) : q_wp n 189 0 [some (.ref x0), some (.int x1)] [] h Q := by
  refine wp_loc rfl rfl ?_
  exact wp_iflt (tgt := 21) rfl (by decide) wt wf
theorem b189_4 {n : Nat} {h : q_Hp} {Q : Option Value → q_Hp → Prop} {x0 : Nat} {x1 : Int32} (k0 : q_ok h x0 9) (wt : (qI h x0 4) ≤ x1 → q_wp n 189 21 [some (.ref x0), some (.int x1)] [] h Q) (wf : ¬ (qI h x0 4) ≤ x1 → q_wp n 189 12 [some (.ref x0), some (.int x1)] [] h Q) : q_wp n 189 4 [some (.ref x0), some (.int x1)] [] h Q := by
  refine wp_loc rfl rfl ?_
  refine wp_loc rfl rfl ?_
  refine wp_getI rfl rfl rfl k0 ?_
  exact wp_icge (tgt := 21) rfl (by decide) wt wf
theorem b189_12 {n : Nat} {h : q_Hp} {Q : Option Value → q_Hp → Prop} {x0 : Nat} {x1 : Int32} {v0 : Nat} (k0 : q_ok h x0 9) (e0 : qR h x0 2 = v0) (k1 : q_ok h v0 20) (i0 : q_in x1 (qK h v0).2) (q : Q (some (.int (qA h v0 x1.toNatClampNeg))) h) : q_wp n 189 12 [some (.ref x0), some (.int x1)] [] h Q := by
  refine wp_loc rfl rfl ?_
  refine wp_getR rfl rfl rfl rfl k0 e0 ?_
  refine wp_loc rfl rfl ?_
  refine wp_iald rfl k1 i0 ?_
  refine wp_goto (tgt := 22) rfl (by decide) ?_
  exact wp_ret rfl rfl q
theorem b189_21 {n : Nat} {h : q_Hp} {Q : Option Value → q_Hp → Prop} {x0 : Nat} {x1 : Int32} (q : Q (some (.int (-1))) h) : q_wp n 189 21 [some (.ref x0), some (.int x1)] [] h Q := by
  refine wp_iconst (v := (-1)) rfl (by decide) ?_
  exact wp_ret rfl rfl q
theorem b190_0 {n : Nat} {h : q_Hp} {Q : Option Value → q_Hp → Prop} {x0 : Nat} {x1 : Int32} (wt : x1 < 0 → q_wp n 190 21 [some (.ref x0), some (.int x1)] [] h Q) (wf : ¬ x1 < 0 → q_wp n 190 4 [some (.ref x0), some (.int x1)] [] h Q) : q_wp n 190 0 [some (.ref x0), some (.int x1)] [] h Q := by
  refine wp_loc rfl rfl ?_
  exact wp_iflt (tgt := 21) rfl (by decide) wt wf
theorem b190_4 {n : Nat} {h : q_Hp} {Q : Option Value → q_Hp → Prop} {x0 : Nat} {x1 : Int32} (k0 : q_ok h x0 9) (wt : (qI h x0 4) ≤ x1 → q_wp n 190 21 [some (.ref x0), some (.int x1)] [] h Q) (wf : ¬ (qI h x0 4) ≤ x1 → q_wp n 190 12 [some (.ref x0), some (.int x1)] [] h Q) : q_wp n 190 4 [some (.ref x0), some (.int x1)] [] h Q := by
  refine wp_loc rfl rfl ?_
  refine wp_loc rfl rfl ?_
  refine wp_getI rfl rfl rfl k0 ?_
  exact wp_icge (tgt := 21) rfl (by decide) wt wf
theorem b190_12 {n : Nat} {h : q_Hp} {Q : Option Value → q_Hp → Prop} {x0 : Nat} {x1 : Int32} {v0 : Nat} (k0 : q_ok h x0 9) (e0 : qR h x0 3 = v0) (k1 : q_ok h v0 21) (i0 : q_in x1 (qK h v0).2) (q : Q (some (.long (qL h v0 x1.toNatClampNeg))) h) : q_wp n 190 12 [some (.ref x0), some (.int x1)] [] h Q := by
  refine wp_loc rfl rfl ?_
  refine wp_getR rfl rfl rfl rfl k0 e0 ?_
  refine wp_loc rfl rfl ?_
  refine wp_lald rfl k1 i0 ?_
  refine wp_goto (tgt := 22) rfl (by decide) ?_
  exact wp_ret rfl rfl q
theorem b190_21 {n : Nat} {h : q_Hp} {Q : Option Value → q_Hp → Prop} {x0 : Nat} {x1 : Int32} (q : Q (some (.long 0)) h) : q_wp n 190 21 [some (.ref x0), some (.int x1)] [] h Q := by
  refine wp_lconst (v := 0) rfl (by decide) ?_
  exact wp_ret rfl rfl q
theorem b191_0 {n : Nat} {h : q_Hp} {Q : Option Value → q_Hp → Prop} {x0 : Nat} {x1 : Int32} {x2 : Int32} {x3 : Int64} (k0 : q_ok h x0 9) (wt : 1200 < (qI h x0 4) → q_wp n 191 50 [some (.ref x0), some (.int x1), some (.int x2), some (.long x3), none] [] h Q) (wf : ¬ 1200 < (qI h x0 4) → q_wp n 191 10 [some (.ref x0), some (.int x1), some (.int x2), some (.long x3), none] [] h Q) : q_wp n 191 0 [some (.ref x0), some (.int x1), some (.int x2), some (.long x3), none] [] h Q := by
  refine wp_loc rfl rfl ?_
  refine wp_getI rfl rfl rfl k0 ?_
  refine wp_sipush (v := 1200) rfl (by decide) ?_
  exact wp_icgt (tgt := 50) rfl (by decide) wt wf
theorem b191_10 {n : Nat} {h : q_Hp} {Q : Option Value → q_Hp → Prop} {x0 : Nat} {x1 : Int32} {x2 : Int32} {x3 : Int64} {v0 : Nat} {v1 : Nat} {v2 : Nat} (k0 : q_ok h x0 9) (e0 : qR h x0 1 = v0) (k1 : q_ok h v0 20) (i0 : q_in (qI h x0 4) (qK h v0).2) (e1 : qR h x0 2 = v1) (k2 : q_ok h v1 20) (i1 : q_in (qI h x0 4) (qK h v1).2) (e2 : qR h x0 3 = v2) (k3 : q_ok h v2 21) (i2 : q_in (qI h x0 4) (qK h v2).2) (w : q_wp n 191 50 [some (.ref x0), some (.int x1), some (.int x2), some (.long x3), none] [] (q_sI (q_sL (q_sA (q_sA h v0 ((qI h x0 4 : Int32).toNatClampNeg) x1) v1 ((qI h x0 4 : Int32).toNatClampNeg) x2) v2 ((qI h x0 4 : Int32).toNatClampNeg) x3) x0 4 ((qI h x0 4) + 1)) Q) : q_wp n 191 10 [some (.ref x0), some (.int x1), some (.int x2), some (.long x3), none] [] h Q := by
  refine wp_loc rfl rfl ?_
  refine wp_getR rfl rfl rfl rfl k0 e0 ?_
  refine wp_loc rfl rfl ?_
  refine wp_getI rfl rfl rfl k0 ?_
  refine wp_loc rfl rfl ?_
  refine wp_iast rfl k1 i0 ?_
  refine wp_loc rfl rfl ?_
  refine wp_getR rfl rfl rfl rfl k0 e1 ?_
  refine wp_loc rfl rfl ?_
  refine wp_getI rfl rfl rfl k0 ?_
  refine wp_loc rfl rfl ?_
  refine wp_iast rfl k2 i1 ?_
  refine wp_loc rfl rfl ?_
  refine wp_getR rfl rfl rfl rfl k0 e2 ?_
  refine wp_loc rfl rfl ?_
  refine wp_getI rfl rfl rfl k0 ?_
  refine wp_loc rfl rfl ?_
  refine wp_last rfl k3 i2 ?_
  refine wp_loc rfl rfl ?_
  refine wp_stk rfl rfl rfl ?_
  refine wp_getI rfl rfl rfl k0 ?_
  refine wp_iconst (v := 1) rfl (by decide) ?_
  refine wp_stk rfl rfl rfl ?_
  refine wp_putI rfl rfl (Or.inl rfl) rfl (fun h9 => by cases h9) k0 ?_
  exact w
theorem b191_50 {n : Nat} {h : q_Hp} {Q : Option Value → q_Hp → Prop} {x0 : Nat} {x1 : Int32} {x2 : Int32} {x3 : Int64} (q : Q none h) : q_wp n 191 50 [some (.ref x0), some (.int x1), some (.int x2), some (.long x3), none] [] h Q := by
  exact wp_ret rfl rfl q
theorem b192_0 {n : Nat} {h : q_Hp} {Q : Option Value → q_Hp → Prop} {x0 : Nat} {x1 : Int32} {x2 : Int32} (wt : x2 < 0 → q_wp n 192 25 [some (.ref x0), some (.int x1), some (.int x2)] [] h Q) (wf : ¬ x2 < 0 → q_wp n 192 4 [some (.ref x0), some (.int x1), some (.int x2)] [] h Q) : q_wp n 192 0 [some (.ref x0), some (.int x1), some (.int x2)] [] h Q := by
  refine wp_loc rfl rfl ?_
  exact wp_iflt (tgt := 25) rfl (by decide) wt wf
theorem b192_4 {n : Nat} {h : q_Hp} {Q : Option Value → q_Hp → Prop} {x0 : Nat} {x1 : Int32} {x2 : Int32} (wt : x1 ≤ x2 → q_wp n 192 25 [some (.ref x0), some (.int x1), some (.int x2)] [] h Q) (wf : ¬ x1 ≤ x2 → q_wp n 192 9 [some (.ref x0), some (.int x1), some (.int x2)] [] h Q) : q_wp n 192 4 [some (.ref x0), some (.int x1), some (.int x2)] [] h Q := by
  refine wp_loc rfl rfl ?_
  refine wp_loc rfl rfl ?_
  exact wp_icge (tgt := 25) rfl (by decide) wt wf
theorem b192_9 {n : Nat} {h : q_Hp} {Q : Option Value → q_Hp → Prop} {x0 : Nat} {x1 : Int32} {x2 : Int32} {cd0 : Nat} (a0 : q_ok h x0 cd0) (a0c : 20 ≤ cd0 ∧ cd0 ≤ 24) (wt : (Int32.ofNat (qK h x0).2) ≤ x2 → q_wp n 192 25 [some (.ref x0), some (.int x1), some (.int x2)] [] h Q) (wf : ¬ (Int32.ofNat (qK h x0).2) ≤ x2 → q_wp n 192 15 [some (.ref x0), some (.int x1), some (.int x2)] [] h Q) : q_wp n 192 9 [some (.ref x0), some (.int x1), some (.int x2)] [] h Q := by
  refine wp_loc rfl rfl ?_
  refine wp_loc rfl rfl ?_
  refine wp_alen rfl a0 a0c ?_
  exact wp_icge (tgt := 25) rfl (by decide) wt wf
theorem b192_15 {n : Nat} {h : q_Hp} {Q : Option Value → q_Hp → Prop} {x0 : Nat} {x1 : Int32} {x2 : Int32} (b0 : q_ok h x0 22 ∨ q_ok h x0 23) (i0 : q_in x2 (qK h x0).2) (q : Q (some (.int ((qA h x0 x2.toNatClampNeg) &&& 255))) h) : q_wp n 192 15 [some (.ref x0), some (.int x1), some (.int x2)] [] h Q := by
  refine wp_loc rfl rfl ?_
  refine wp_loc rfl rfl ?_
  refine wp_bald rfl b0 i0 ?_
  refine wp_sipush (v := 255) rfl (by decide) ?_
  refine wp_stk rfl rfl rfl ?_
  refine wp_goto (tgt := 26) rfl (by decide) ?_
  exact wp_ret rfl rfl q
theorem b192_25 {n : Nat} {h : q_Hp} {Q : Option Value → q_Hp → Prop} {x0 : Nat} {x1 : Int32} {x2 : Int32} (q : Q (some (.int 0)) h) : q_wp n 192 25 [some (.ref x0), some (.int x1), some (.int x2)] [] h Q := by
  refine wp_iconst (v := 0) rfl (by decide) ?_
  exact wp_ret rfl rfl q
theorem b193_0 {n : Nat} {h : q_Hp} {Q : Option Value → q_Hp → Prop} {x0 : Int32} (wt : x0 < 48 → q_wp n 193 16 [some (.int x0)] [] h Q) (wf : ¬ x0 < 48 → q_wp n 193 6 [some (.int x0)] [] h Q) : q_wp n 193 0 [some (.int x0)] [] h Q := by
  refine wp_loc rfl rfl ?_
  refine wp_bipush (v := 48) rfl (by decide) ?_
  exact wp_iclt (tgt := 16) rfl (by decide) wt wf
theorem b193_6 {n : Nat} {h : q_Hp} {Q : Option Value → q_Hp → Prop} {x0 : Int32} (wt : 57 < x0 → q_wp n 193 16 [some (.int x0)] [] h Q) (wf : ¬ 57 < x0 → q_wp n 193 12 [some (.int x0)] [] h Q) : q_wp n 193 6 [some (.int x0)] [] h Q := by
  refine wp_loc rfl rfl ?_
  refine wp_bipush (v := 57) rfl (by decide) ?_
  exact wp_icgt (tgt := 16) rfl (by decide) wt wf
theorem b193_12 {n : Nat} {h : q_Hp} {Q : Option Value → q_Hp → Prop} {x0 : Int32} (q : Q (some (.int 1)) h) : q_wp n 193 12 [some (.int x0)] [] h Q := by
  refine wp_iconst (v := 1) rfl (by decide) ?_
  refine wp_goto (tgt := 17) rfl (by decide) ?_
  exact wp_ret (r := some (.int 1)) rfl rfl q
theorem b193_16 {n : Nat} {h : q_Hp} {Q : Option Value → q_Hp → Prop} {x0 : Int32} (q : Q (some (.int 0)) h) : q_wp n 193 16 [some (.int x0)] [] h Q := by
  refine wp_iconst (v := 0) rfl (by decide) ?_
  exact wp_ret (r := some (.int 0)) rfl rfl q
theorem b194_0 {n : Nat} {h : q_Hp} {Q : Option Value → q_Hp → Prop} {x0 : Int32} (wt : x0 < 97 → q_wp n 194 16 [some (.int x0)] [] h Q) (wf : ¬ x0 < 97 → q_wp n 194 6 [some (.int x0)] [] h Q) : q_wp n 194 0 [some (.int x0)] [] h Q := by
  refine wp_loc rfl rfl ?_
  refine wp_bipush (v := 97) rfl (by decide) ?_
  exact wp_iclt (tgt := 16) rfl (by decide) wt wf
theorem b194_6 {n : Nat} {h : q_Hp} {Q : Option Value → q_Hp → Prop} {x0 : Int32} (wt : 122 < x0 → q_wp n 194 16 [some (.int x0)] [] h Q) (wf : ¬ 122 < x0 → q_wp n 194 12 [some (.int x0)] [] h Q) : q_wp n 194 6 [some (.int x0)] [] h Q := by
  refine wp_loc rfl rfl ?_
  refine wp_bipush (v := 122) rfl (by decide) ?_
  exact wp_icgt (tgt := 16) rfl (by decide) wt wf
theorem b194_12 {n : Nat} {h : q_Hp} {Q : Option Value → q_Hp → Prop} {x0 : Int32} (q : Q (some (.int 1)) h) : q_wp n 194 12 [some (.int x0)] [] h Q := by
  refine wp_iconst (v := 1) rfl (by decide) ?_
  refine wp_goto (tgt := 17) rfl (by decide) ?_
  exact wp_ret (r := some (.int 1)) rfl rfl q
theorem b194_16 {n : Nat} {h : q_Hp} {Q : Option Value → q_Hp → Prop} {x0 : Int32} (q : Q (some (.int 0)) h) : q_wp n 194 16 [some (.int x0)] [] h Q := by
  refine wp_iconst (v := 0) rfl (by decide) ?_
  exact wp_ret (r := some (.int 0)) rfl rfl q
theorem b195_0 {n : Nat} {h : q_Hp} {Q : Option Value → q_Hp → Prop} {x0 : Nat} {x1 : Int32} {x2 : Int32} (w : q_wp n 195 2 [some (.ref x0), some (.int x1), some (.int x2), some (.int x2), none] [] h Q) : q_wp n 195 0 [some (.ref x0), some (.int x1), some (.int x2), none, none] [] h Q := by
  refine wp_loc rfl rfl ?_
  refine wp_loc rfl rfl ?_
  exact w
theorem b195_2 {n : Nat} {h : q_Hp} {Q : Option Value → q_Hp → Prop} {x0 : Nat} {x1 : Int32} {x2 : Int32} {x3 : Int32} {l4 : Option Value} (wt : x1 ≤ x3 → q_wp n 195 51 [some (.ref x0), some (.int x1), some (.int x2), some (.int x3), l4] [] h Q) (wf : ¬ x1 ≤ x3 → q_wp n 195 7 [some (.ref x0), some (.int x1), some (.int x2), some (.int x3), l4] [] h Q) : q_wp n 195 2 [some (.ref x0), some (.int x1), some (.int x2), some (.int x3), l4] [] h Q := by
  refine wp_loc rfl rfl ?_
  refine wp_loc rfl rfl ?_
  exact wp_icge (tgt := 51) rfl (by decide) wt wf
theorem b195_7 {n : Nat} {h : q_Hp} {Q : Option Value → q_Hp → Prop} {x0 : Nat} {x1 : Int32} {x2 : Int32} {x3 : Int32} {l4 : Option Value} {m : Nat} {P : Int32 → q_Hp → Prop} (hc : q_mI m 192 [.ref x0, .int x1, .int x3] h P) (hm : m ≤ n) (w : ∀ (z : Int32) (h1 : q_Hp), P z h1 → q_wp (n + 1) 195 13 [some (.ref x0), some (.int x1), some (.int x2), some (.int x3), l4] [.int z] h1 Q) : q_wp (n + 1) 195 7 [some (.ref x0), some (.int x1), some (.int x2), some (.int x3), l4] [] h Q := by
  refine wp_loc rfl rfl ?_
  refine wp_loc rfl rfl ?_
  refine wp_loc rfl rfl ?_
  exact wp_callI (av := [.ref x0, .int x1, .int x3]) rfl rfl rfl (by decide) rfl rfl rfl hm hc w
theorem b195_13 {n : Nat} {h : q_Hp} {Q : Option Value → q_Hp → Prop} {x0 : Nat} {x1 : Int32} {x2 : Int32} {x3 : Int32} {l4 : Option Value} {s0 : Int32} (wt : s0 = 9 → q_wp n 195 45 [some (.ref x0), some (.int x1), some (.int x2), some (.int x3), some (.int s0)] [] h Q) (wf : ¬ s0 = 9 → q_wp n 195 22 [some (.ref x0), some (.int x1), some (.int x2), some (.int x3), some (.int s0)] [] h Q) : q_wp n 195 13 [some (.ref x0), some (.int x1), some (.int x2), some (.int x3), l4] [.int s0] h Q := by
  refine wp_loc rfl rfl ?_
  refine wp_loc rfl rfl ?_
  refine wp_bipush (v := 9) rfl (by decide) ?_
  exact wp_iceq (tgt := 45) rfl (by decide) wt wf
theorem b195_22 {n : Nat} {h : q_Hp} {Q : Option Value → q_Hp → Prop} {x0 : Nat} {x1 : Int32} {x2 : Int32} {x3 : Int32} {x4 : Int32} (wt : x4 = 10 → q_wp n 195 45 [some (.ref x0), some (.int x1), some (.int x2), some (.int x3), some (.int x4)] [] h Q) (wf : ¬ x4 = 10 → q_wp n 195 29 [some (.ref x0), some (.int x1), some (.int x2), some (.int x3), some (.int x4)] [] h Q) : q_wp n 195 22 [some (.ref x0), some (.int x1), some (.int x2), some (.int x3), some (.int x4)] [] h Q := by
  refine wp_loc rfl rfl ?_
  refine wp_bipush (v := 10) rfl (by decide) ?_
  exact wp_iceq (tgt := 45) rfl (by decide) wt wf
theorem b195_29 {n : Nat} {h : q_Hp} {Q : Option Value → q_Hp → Prop} {x0 : Nat} {x1 : Int32} {x2 : Int32} {x3 : Int32} {x4 : Int32} (wt : x4 = 13 → q_wp n 195 45 [some (.ref x0), some (.int x1), some (.int x2), some (.int x3), some (.int x4)] [] h Q) (wf : ¬ x4 = 13 → q_wp n 195 36 [some (.ref x0), some (.int x1), some (.int x2), some (.int x3), some (.int x4)] [] h Q) : q_wp n 195 29 [some (.ref x0), some (.int x1), some (.int x2), some (.int x3), some (.int x4)] [] h Q := by
  refine wp_loc rfl rfl ?_
  refine wp_bipush (v := 13) rfl (by decide) ?_
  exact wp_iceq (tgt := 45) rfl (by decide) wt wf
theorem b195_36 {n : Nat} {h : q_Hp} {Q : Option Value → q_Hp → Prop} {x0 : Nat} {x1 : Int32} {x2 : Int32} {x3 : Int32} {x4 : Int32} (wt : x4 = 32 → q_wp n 195 45 [some (.ref x0), some (.int x1), some (.int x2), some (.int x3), some (.int x4)] [] h Q) (wf : ¬ x4 = 32 → q_wp n 195 43 [some (.ref x0), some (.int x1), some (.int x2), some (.int x3), some (.int x4)] [] h Q) : q_wp n 195 36 [some (.ref x0), some (.int x1), some (.int x2), some (.int x3), some (.int x4)] [] h Q := by
  refine wp_loc rfl rfl ?_
  refine wp_bipush (v := 32) rfl (by decide) ?_
  exact wp_iceq (tgt := 45) rfl (by decide) wt wf
theorem b195_43 {n : Nat} {h : q_Hp} {Q : Option Value → q_Hp → Prop} {x0 : Nat} {x1 : Int32} {x2 : Int32} {x3 : Int32} {x4 : Int32} (q : Q (some (.int x3)) h) : q_wp n 195 43 [some (.ref x0), some (.int x1), some (.int x2), some (.int x3), some (.int x4)] [] h Q := by
  refine wp_loc rfl rfl ?_
  exact wp_ret rfl rfl q
theorem b195_45 {n : Nat} {h : q_Hp} {Q : Option Value → q_Hp → Prop} {x0 : Nat} {x1 : Int32} {x2 : Int32} {x3 : Int32} {x4 : Int32} (w : q_wp n 195 2 [some (.ref x0), some (.int x1), some (.int x2), some (.int (x3 + 1)), some (.int x4)] [] h Q) : q_wp n 195 45 [some (.ref x0), some (.int x1), some (.int x2), some (.int x3), some (.int x4)] [] h Q := by
  refine wp_iinc (v := 1) rfl rfl (by decide) rfl ?_
  refine wp_goto (tgt := 2) rfl (by decide) ?_
  exact w
theorem b195_51 {n : Nat} {h : q_Hp} {Q : Option Value → q_Hp → Prop} {x0 : Nat} {x1 : Int32} {x2 : Int32} {x3 : Int32} {l4 : Option Value} (q : Q (some (.int x1)) h) : q_wp n 195 51 [some (.ref x0), some (.int x1), some (.int x2), some (.int x3), l4] [] h Q := by
  refine wp_loc rfl rfl ?_
  exact wp_ret rfl rfl q
theorem b196_0 {n : Nat} {h : q_Hp} {Q : Option Value → q_Hp → Prop} {x0 : Nat} {x1 : Nat} {x2 : Int32} {x3 : Int32} {m : Nat} {P : Int32 → q_Hp → Prop} (hc : q_mI m 192 [.ref x1, .int x2, .int x3] h P) (hm : m ≤ n) (w : ∀ (z : Int32) (h1 : q_Hp), P z h1 → q_wp (n + 1) 196 6 [some (.ref x0), some (.ref x1), some (.int x2), some (.int x3), none, none] [.int z] h1 Q) : q_wp (n + 1) 196 0 [some (.ref x0), some (.ref x1), some (.int x2), some (.int x3), none, none] [] h Q := by
  refine wp_loc rfl rfl ?_
  refine wp_loc rfl rfl ?_
  refine wp_loc rfl rfl ?_
  exact wp_callI (av := [.ref x1, .int x2, .int x3]) rfl rfl rfl (by decide) rfl rfl rfl hm hc w
theorem b196_6 {n : Nat} {h : q_Hp} {Q : Option Value → q_Hp → Prop} {x0 : Nat} {x1 : Nat} {x2 : Int32} {x3 : Int32} {s0 : Int32} {m : Nat} {P : Int32 → q_Hp → Prop} (hc : q_mI m 194 [.int s0] h P) (hm : m ≤ n) (w : ∀ (z : Int32) (h1 : q_Hp), P z h1 → q_wp (n + 1) 196 13 [some (.ref x0), some (.ref x1), some (.int x2), some (.int x3), some (.int s0), none] [.int z] h1 Q) : q_wp (n + 1) 196 6 [some (.ref x0), some (.ref x1), some (.int x2), some (.int x3), none, none] [.int s0] h Q := by
  refine wp_loc rfl rfl ?_
  refine wp_loc rfl rfl ?_
  exact wp_callI (av := [.int s0]) rfl rfl rfl (by decide) rfl rfl rfl hm hc w
theorem b196_13 {n : Nat} {h : q_Hp} {Q : Option Value → q_Hp → Prop} {x0 : Nat} {x1 : Nat} {x2 : Int32} {x3 : Int32} {x4 : Int32} {s0 : Int32} (wt : s0 = 0 → q_wp n 196 24 [some (.ref x0), some (.ref x1), some (.int x2), some (.int x3), some (.int x4), none] [] h Q) (wf : ¬ s0 = 0 → q_wp n 196 16 [some (.ref x0), some (.ref x1), some (.int x2), some (.int x3), some (.int x4), none] [] h Q) : q_wp n 196 13 [some (.ref x0), some (.ref x1), some (.int x2), some (.int x3), some (.int x4), none] [.int s0] h Q := by
  exact wp_ifeq (tgt := 24) rfl (by decide) wt wf
theorem b196_16 {n : Nat} {h : q_Hp} {Q : Option Value → q_Hp → Prop} {x0 : Nat} {x1 : Nat} {x2 : Int32} {x3 : Int32} {x4 : Int32} {m : Nat} {P : Int32 → q_Hp → Prop} (hc : q_mI m 197 [.ref x0, .ref x1, .int x2, .int x3] h P) (hm : m ≤ n) (w : ∀ (z : Int32) (h1 : q_Hp), P z h1 → q_wp (n + 1) 196 23 [some (.ref x0), some (.ref x1), some (.int x2), some (.int x3), some (.int x4), none] [.int z] h1 Q) : q_wp (n + 1) 196 16 [some (.ref x0), some (.ref x1), some (.int x2), some (.int x3), some (.int x4), none] [] h Q := by
  refine wp_loc rfl rfl ?_
  refine wp_loc rfl rfl ?_
  refine wp_loc rfl rfl ?_
  refine wp_loc rfl rfl ?_
  exact wp_callI (av := [.ref x0, .ref x1, .int x2, .int x3]) rfl rfl rfl (by decide) rfl rfl rfl hm hc w
theorem b196_23 {n : Nat} {h : q_Hp} {Q : Option Value → q_Hp → Prop} {x0 : Nat} {x1 : Nat} {x2 : Int32} {x3 : Int32} {x4 : Int32} {s0 : Int32} (q : Q (some (.int s0)) h) : q_wp n 196 23 [some (.ref x0), some (.ref x1), some (.int x2), some (.int x3), some (.int x4), none] [.int s0] h Q := by
  exact wp_ret rfl rfl q
theorem b196_24 {n : Nat} {h : q_Hp} {Q : Option Value → q_Hp → Prop} {x0 : Nat} {x1 : Nat} {x2 : Int32} {x3 : Int32} {x4 : Int32} {m : Nat} {P : Int32 → q_Hp → Prop} (hc : q_mI m 193 [.int x4] h P) (hm : m ≤ n) (w : ∀ (z : Int32) (h1 : q_Hp), P z h1 → q_wp (n + 1) 196 29 [some (.ref x0), some (.ref x1), some (.int x2), some (.int x3), some (.int x4), none] [.int z] h1 Q) : q_wp (n + 1) 196 24 [some (.ref x0), some (.ref x1), some (.int x2), some (.int x3), some (.int x4), none] [] h Q := by
  refine wp_loc rfl rfl ?_
  exact wp_callI (av := [.int x4]) rfl rfl rfl (by decide) rfl rfl rfl hm hc w
theorem b196_29 {n : Nat} {h : q_Hp} {Q : Option Value → q_Hp → Prop} {x0 : Nat} {x1 : Nat} {x2 : Int32} {x3 : Int32} {x4 : Int32} {s0 : Int32} (wt : s0 = 0 → q_wp n 196 40 [some (.ref x0), some (.ref x1), some (.int x2), some (.int x3), some (.int x4), none] [] h Q) (wf : ¬ s0 = 0 → q_wp n 196 32 [some (.ref x0), some (.ref x1), some (.int x2), some (.int x3), some (.int x4), none] [] h Q) : q_wp n 196 29 [some (.ref x0), some (.ref x1), some (.int x2), some (.int x3), some (.int x4), none] [.int s0] h Q := by
  exact wp_ifeq (tgt := 40) rfl (by decide) wt wf
theorem b196_32 {n : Nat} {h : q_Hp} {Q : Option Value → q_Hp → Prop} {x0 : Nat} {x1 : Nat} {x2 : Int32} {x3 : Int32} {x4 : Int32} {m : Nat} {P : Int32 → q_Hp → Prop} (hc : q_mI m 199 [.ref x0, .ref x1, .int x2, .int x3] h P) (hm : m ≤ n) (w : ∀ (z : Int32) (h1 : q_Hp), P z h1 → q_wp (n + 1) 196 39 [some (.ref x0), some (.ref x1), some (.int x2), some (.int x3), some (.int x4), none] [.int z] h1 Q) : q_wp (n + 1) 196 32 [some (.ref x0), some (.ref x1), some (.int x2), some (.int x3), some (.int x4), none] [] h Q := by
  refine wp_loc rfl rfl ?_
  refine wp_loc rfl rfl ?_
  refine wp_loc rfl rfl ?_
  refine wp_loc rfl rfl ?_
  exact wp_callI (av := [.ref x0, .ref x1, .int x2, .int x3]) rfl rfl rfl (by decide) rfl rfl rfl hm hc w
theorem b196_39 {n : Nat} {h : q_Hp} {Q : Option Value → q_Hp → Prop} {x0 : Nat} {x1 : Nat} {x2 : Int32} {x3 : Int32} {x4 : Int32} {s0 : Int32} (q : Q (some (.int s0)) h) : q_wp n 196 39 [some (.ref x0), some (.ref x1), some (.int x2), some (.int x3), some (.int x4), none] [.int s0] h Q := by
  exact wp_ret rfl rfl q
theorem b196_40 {n : Nat} {h : q_Hp} {Q : Option Value → q_Hp → Prop} {x0 : Nat} {x1 : Nat} {x2 : Int32} {x3 : Int32} {x4 : Int32} {m : Nat} {P : Int32 → q_Hp → Prop} (hc : q_mI m 192 [.ref x1, .int x2, .int (x3 + 1)] h P) (hm : m ≤ n) (w : ∀ (z : Int32) (h1 : q_Hp), P z h1 → q_wp (n + 1) 196 50 [some (.ref x0), some (.ref x1), some (.int x2), some (.int x3), some (.int x4), none] [.int z, .int x4] h1 Q) : q_wp (n + 1) 196 40 [some (.ref x0), some (.ref x1), some (.int x2), some (.int x3), some (.int x4), none] [] h Q := by
  refine wp_loc rfl rfl ?_
  refine wp_loc rfl rfl ?_
  refine wp_loc rfl rfl ?_
  refine wp_loc rfl rfl ?_
  refine wp_iconst (v := 1) rfl (by decide) ?_
  refine wp_stk rfl rfl rfl ?_
  exact wp_callI (av := [.ref x1, .int x2, .int (x3 + 1)]) rfl rfl rfl (by decide) rfl rfl rfl hm hc w
theorem b196_50 {n : Nat} {h : q_Hp} {Q : Option Value → q_Hp → Prop} {x0 : Nat} {x1 : Nat} {x2 : Int32} {x3 : Int32} {x4 : Int32} {s0 : Int32} {s1 : Int32} {m : Nat} {P : Int32 → q_Hp → Prop} (hc : q_mI m 200 [.int s1, .int s0] h P) (hm : m ≤ n) (w : ∀ (z : Int32) (h1 : q_Hp), P z h1 → q_wp (n + 1) 196 53 [some (.ref x0), some (.ref x1), some (.int x2), some (.int x3), some (.int x4), none] [.int z] h1 Q) : q_wp (n + 1) 196 50 [some (.ref x0), some (.ref x1), some (.int x2), some (.int x3), some (.int x4), none] [.int s0, .int s1] h Q := by
  exact wp_callI (av := [.int s1, .int s0]) rfl rfl rfl (by decide) rfl rfl rfl hm hc w
theorem b196_53 {n : Nat} {h : q_Hp} {Q : Option Value → q_Hp → Prop} {x0 : Nat} {x1 : Nat} {x2 : Int32} {x3 : Int32} {x4 : Int32} {s0 : Int32} {m : Nat} {P : q_Hp → Prop} (hc : q_mV m 191 [.ref x0, .int s0, .int x3, .long 0] h P) (hm : m ≤ n) (w : ∀ h1 : q_Hp, P h1 → q_wp (n + 1) 196 63 [some (.ref x0), some (.ref x1), some (.int x2), some (.int x3), some (.int x4), some (.int s0)] [] h1 Q) : q_wp (n + 1) 196 53 [some (.ref x0), some (.ref x1), some (.int x2), some (.int x3), some (.int x4), none] [.int s0] h Q := by
  refine wp_loc rfl rfl ?_
  refine wp_loc rfl rfl ?_
  refine wp_loc rfl rfl ?_
  refine wp_loc rfl rfl ?_
  refine wp_lconst (v := 0) rfl (by decide) ?_
  exact wp_callV (av := [.ref x0, .int s0, .int x3, .long 0]) rfl rfl rfl (by decide) rfl rfl rfl hm hc w
theorem b196_63 {n : Nat} {h : q_Hp} {Q : Option Value → q_Hp → Prop} {x0 : Nat} {x1 : Nat} {x2 : Int32} {x3 : Int32} {x4 : Int32} {x5 : Int32} (wt : x5 < 36 → q_wp n 196 83 [some (.ref x0), some (.ref x1), some (.int x2), some (.int x3), some (.int x4), some (.int x5)] [] h Q) (wf : ¬ x5 < 36 → q_wp n 196 70 [some (.ref x0), some (.ref x1), some (.int x2), some (.int x3), some (.int x4), some (.int x5)] [] h Q) : q_wp n 196 63 [some (.ref x0), some (.ref x1), some (.int x2), some (.int x3), some (.int x4), some (.int x5)] [] h Q := by
  refine wp_loc rfl rfl ?_
  refine wp_bipush (v := 36) rfl (by decide) ?_
  exact wp_iclt (tgt := 83) rfl (by decide) wt wf
theorem b196_70 {n : Nat} {h : q_Hp} {Q : Option Value → q_Hp → Prop} {x0 : Nat} {x1 : Nat} {x2 : Int32} {x3 : Int32} {x4 : Int32} {x5 : Int32} (wt : 39 < x5 → q_wp n 196 83 [some (.ref x0), some (.ref x1), some (.int x2), some (.int x3), some (.int x4), some (.int x5)] [] h Q) (wf : ¬ 39 < x5 → q_wp n 196 77 [some (.ref x0), some (.ref x1), some (.int x2), some (.int x3), some (.int x4), some (.int x5)] [] h Q) : q_wp n 196 70 [some (.ref x0), some (.ref x1), some (.int x2), some (.int x3), some (.int x4), some (.int x5)] [] h Q := by
  refine wp_loc rfl rfl ?_
  refine wp_bipush (v := 39) rfl (by decide) ?_
  exact wp_icgt (tgt := 83) rfl (by decide) wt wf
theorem b196_77 {n : Nat} {h : q_Hp} {Q : Option Value → q_Hp → Prop} {x0 : Nat} {x1 : Nat} {x2 : Int32} {x3 : Int32} {x4 : Int32} {x5 : Int32} (q : Q (some (.int (x3 + 2))) h) : q_wp n 196 77 [some (.ref x0), some (.ref x1), some (.int x2), some (.int x3), some (.int x4), some (.int x5)] [] h Q := by
  refine wp_loc rfl rfl ?_
  refine wp_iconst (v := 2) rfl (by decide) ?_
  refine wp_stk rfl rfl rfl ?_
  refine wp_goto (tgt := 86) rfl (by decide) ?_
  exact wp_ret rfl rfl q
theorem b196_83 {n : Nat} {h : q_Hp} {Q : Option Value → q_Hp → Prop} {x0 : Nat} {x1 : Nat} {x2 : Int32} {x3 : Int32} {x4 : Int32} {x5 : Int32} (q : Q (some (.int (x3 + 1))) h) : q_wp n 196 83 [some (.ref x0), some (.ref x1), some (.int x2), some (.int x3), some (.int x4), some (.int x5)] [] h Q := by
  refine wp_loc rfl rfl ?_
  refine wp_iconst (v := 1) rfl (by decide) ?_
  refine wp_stk rfl rfl rfl ?_
  exact wp_ret rfl rfl q
theorem b197_0 {n : Nat} {h : q_Hp} {Q : Option Value → q_Hp → Prop} {x0 : Nat} {x1 : Nat} {x2 : Int32} {x3 : Int32} (w : q_wp n 197 6 [some (.ref x0), some (.ref x1), some (.int x2), some (.int x3), some (.long 0), none, some (.int x3), none] [] h Q) : q_wp n 197 0 [some (.ref x0), some (.ref x1), some (.int x2), some (.int x3), none, none, none, none] [] h Q := by
  refine wp_lconst (v := 0) rfl (by decide) ?_
  refine wp_loc rfl rfl ?_
  refine wp_loc rfl rfl ?_
  refine wp_loc rfl rfl ?_
  exact w
theorem b197_6 {n : Nat} {h : q_Hp} {Q : Option Value → q_Hp → Prop} {x0 : Nat} {x1 : Nat} {x2 : Int32} {x3 : Int32} {x4 : Int64} {x6 : Int32} {l7 : Option Value} (wt : x2 ≤ x6 → q_wp n 197 57 [some (.ref x0), some (.ref x1), some (.int x2), some (.int x3), some (.long x4), none, some (.int x6), l7] [] h Q) (wf : ¬ x2 ≤ x6 → q_wp n 197 12 [some (.ref x0), some (.ref x1), some (.int x2), some (.int x3), some (.long x4), none, some (.int x6), l7] [] h Q) : q_wp n 197 6 [some (.ref x0), some (.ref x1), some (.int x2), some (.int x3), some (.long x4), none, some (.int x6), l7] [] h Q := by
  refine wp_loc rfl rfl ?_
  refine wp_loc rfl rfl ?_
  exact wp_icge (tgt := 57) rfl (by decide) wt wf
theorem b197_12 {n : Nat} {h : q_Hp} {Q : Option Value → q_Hp → Prop} {x0 : Nat} {x1 : Nat} {x2 : Int32} {x3 : Int32} {x4 : Int64} {x6 : Int32} {l7 : Option Value} {m : Nat} {P : Int32 → q_Hp → Prop} (hc : q_mI m 192 [.ref x1, .int x2, .int x6] h P) (hm : m ≤ n) (w : ∀ (z : Int32) (h1 : q_Hp), P z h1 → q_wp (n + 1) 197 19 [some (.ref x0), some (.ref x1), some (.int x2), some (.int x3), some (.long x4), none, some (.int x6), l7] [.int z] h1 Q) : q_wp (n + 1) 197 12 [some (.ref x0), some (.ref x1), some (.int x2), some (.int x3), some (.long x4), none, some (.int x6), l7] [] h Q := by
  refine wp_loc rfl rfl ?_
  refine wp_loc rfl rfl ?_
  refine wp_loc rfl rfl ?_
  exact wp_callI (av := [.ref x1, .int x2, .int x6]) rfl rfl rfl (by decide) rfl rfl rfl hm hc w
theorem b197_19 {n : Nat} {h : q_Hp} {Q : Option Value → q_Hp → Prop} {x0 : Nat} {x1 : Nat} {x2 : Int32} {x3 : Int32} {x4 : Int64} {x6 : Int32} {l7 : Option Value} {s0 : Int32} {m : Nat} {P : Int32 → q_Hp → Prop} (hc : q_mI m 194 [.int s0] h P) (hm : m ≤ n) (w : ∀ (z : Int32) (h1 : q_Hp), P z h1 → q_wp (n + 1) 197 26 [some (.ref x0), some (.ref x1), some (.int x2), some (.int x3), some (.long x4), none, some (.int x6), some (.int s0)] [.int z] h1 Q) : q_wp (n + 1) 197 19 [some (.ref x0), some (.ref x1), some (.int x2), some (.int x3), some (.long x4), none, some (.int x6), l7] [.int s0] h Q := by
  refine wp_loc rfl rfl ?_
  refine wp_loc rfl rfl ?_
  exact wp_callI (av := [.int s0]) rfl rfl rfl (by decide) rfl rfl rfl hm hc w
theorem b197_26 {n : Nat} {h : q_Hp} {Q : Option Value → q_Hp → Prop} {x0 : Nat} {x1 : Nat} {x2 : Int32} {x3 : Int32} {x4 : Int64} {x6 : Int32} {x7 : Int32} {s0 : Int32} (wt : ¬ s0 = 0 → q_wp n 197 40 [some (.ref x0), some (.ref x1), some (.int x2), some (.int x3), some (.long x4), none, some (.int x6), some (.int x7)] [] h Q) (wf : s0 = 0 → q_wp n 197 29 [some (.ref x0), some (.ref x1), some (.int x2), some (.int x3), some (.long x4), none, some (.int x6), some (.int x7)] [] h Q) : q_wp n 197 26 [some (.ref x0), some (.ref x1), some (.int x2), some (.int x3), some (.long x4), none, some (.int x6), some (.int x7)] [.int s0] h Q := by
  exact wp_ifne (tgt := 40) rfl (by decide) wt wf
theorem b197_29 {n : Nat} {h : q_Hp} {Q : Option Value → q_Hp → Prop} {x0 : Nat} {x1 : Nat} {x2 : Int32} {x3 : Int32} {x4 : Int64} {x6 : Int32} {x7 : Int32} {m : Nat} {P : Int32 → q_Hp → Prop} (hc : q_mI m 193 [.int x7] h P) (hm : m ≤ n) (w : ∀ (z : Int32) (h1 : q_Hp), P z h1 → q_wp (n + 1) 197 34 [some (.ref x0), some (.ref x1), some (.int x2), some (.int x3), some (.long x4), none, some (.int x6), some (.int x7)] [.int z] h1 Q) : q_wp (n + 1) 197 29 [some (.ref x0), some (.ref x1), some (.int x2), some (.int x3), some (.long x4), none, some (.int x6), some (.int x7)] [] h Q := by
  refine wp_loc rfl rfl ?_
  exact wp_callI (av := [.int x7]) rfl rfl rfl (by decide) rfl rfl rfl hm hc w
theorem b197_34 {n : Nat} {h : q_Hp} {Q : Option Value → q_Hp → Prop} {x0 : Nat} {x1 : Nat} {x2 : Int32} {x3 : Int32} {x4 : Int64} {x6 : Int32} {x7 : Int32} {s0 : Int32} (wt : ¬ s0 = 0 → q_wp n 197 40 [some (.ref x0), some (.ref x1), some (.int x2), some (.int x3), some (.long x4), none, some (.int x6), some (.int x7)] [] h Q) (wf : s0 = 0 → q_wp n 197 37 [some (.ref x0), some (.ref x1), some (.int x2), some (.int x3), some (.long x4), none, some (.int x6), some (.int x7)] [] h Q) : q_wp n 197 34 [some (.ref x0), some (.ref x1), some (.int x2), some (.int x3), some (.long x4), none, some (.int x6), some (.int x7)] [.int s0] h Q := by
  exact wp_ifne (tgt := 40) rfl (by decide) wt wf
theorem b197_37 {n : Nat} {h : q_Hp} {Q : Option Value → q_Hp → Prop} {x0 : Nat} {x1 : Nat} {x2 : Int32} {x3 : Int32} {x4 : Int64} {x6 : Int32} {x7 : Int32} (w : q_wp n 197 57 [some (.ref x0), some (.ref x1), some (.int x2), some (.int x3), some (.long x4), none, some (.int x6), some (.int x7)] [] h Q) : q_wp n 197 37 [some (.ref x0), some (.ref x1), some (.int x2), some (.int x3), some (.long x4), none, some (.int x6), some (.int x7)] [] h Q := by
  refine wp_goto (tgt := 57) rfl (by decide) ?_
  exact w
theorem b197_40 {n : Nat} {h : q_Hp} {Q : Option Value → q_Hp → Prop} {x0 : Nat} {x1 : Nat} {x2 : Int32} {x3 : Int32} {x4 : Int64} {x6 : Int32} {x7 : Int32} (w : q_wp n 197 6 [some (.ref x0), some (.ref x1), some (.int x2), some (.int x3), some (.long ((x4 <<< ((8 : Int32).toInt64 &&& 63)) ||| ((x7 : Int32).toInt64))), none, some (.int (x6 + 1)), some (.int x7)] [] h Q) : q_wp n 197 40 [some (.ref x0), some (.ref x1), some (.int x2), some (.int x3), some (.long x4), none, some (.int x6), some (.int x7)] [] h Q := by
  refine wp_loc rfl rfl ?_
  refine wp_bipush (v := 8) rfl (by decide) ?_
  refine wp_stk rfl rfl rfl ?_
  refine wp_loc rfl rfl ?_
  refine wp_stk rfl rfl rfl ?_
  refine wp_stk rfl rfl rfl ?_
  refine wp_loc rfl rfl ?_
  refine wp_iinc (v := 1) rfl rfl (by decide) rfl ?_
  refine wp_goto (tgt := 6) rfl (by decide) ?_
  exact w
theorem b197_57 {n : Nat} {h : q_Hp} {Q : Option Value → q_Hp → Prop} {x0 : Nat} {x1 : Nat} {x2 : Int32} {x3 : Int32} {x4 : Int64} {x6 : Int32} {l7 : Option Value} (wt : (x6 - x3) ≤ 8 → q_wp n 197 77 [some (.ref x0), some (.ref x1), some (.int x2), some (.int x3), some (.long x4), none, some (.int x6), l7] [] h Q) (wf : ¬ (x6 - x3) ≤ 8 → q_wp n 197 66 [some (.ref x0), some (.ref x1), some (.int x2), some (.int x3), some (.long x4), none, some (.int x6), l7] [] h Q) : q_wp n 197 57 [some (.ref x0), some (.ref x1), some (.int x2), some (.int x3), some (.long x4), none, some (.int x6), l7] [] h Q := by
  refine wp_loc rfl rfl ?_
  refine wp_loc rfl rfl ?_
  refine wp_stk rfl rfl rfl ?_
  refine wp_bipush (v := 8) rfl (by decide) ?_
  exact wp_icle (tgt := 77) rfl (by decide) wt wf
theorem b197_66 {n : Nat} {h : q_Hp} {Q : Option Value → q_Hp → Prop} {x0 : Nat} {x1 : Nat} {x2 : Int32} {x3 : Int32} {x4 : Int64} {x6 : Int32} {l7 : Option Value} {m : Nat} {P : q_Hp → Prop} (hc : q_mV m 191 [.ref x0, .int 43, .int x3, .long 0] h P) (hm : m ≤ n) (w : ∀ h1 : q_Hp, P h1 → q_wp (n + 1) 197 74 [some (.ref x0), some (.ref x1), some (.int x2), some (.int x3), some (.long x4), none, some (.int x6), l7] [] h1 Q) : q_wp (n + 1) 197 66 [some (.ref x0), some (.ref x1), some (.int x2), some (.int x3), some (.long x4), none, some (.int x6), l7] [] h Q := by
  refine wp_loc rfl rfl ?_
  refine wp_bipush (v := 43) rfl (by decide) ?_
  refine wp_loc rfl rfl ?_
  refine wp_lconst (v := 0) rfl (by decide) ?_
  exact wp_callV (av := [.ref x0, .int 43, .int x3, .long 0]) rfl rfl rfl (by decide) rfl rfl rfl hm hc w
theorem b197_74 {n : Nat} {h : q_Hp} {Q : Option Value → q_Hp → Prop} {x0 : Nat} {x1 : Nat} {x2 : Int32} {x3 : Int32} {x4 : Int64} {x6 : Int32} {l7 : Option Value} (w : q_wp n 197 90 [some (.ref x0), some (.ref x1), some (.int x2), some (.int x3), some (.long x4), none, some (.int x6), l7] [] h Q) : q_wp n 197 74 [some (.ref x0), some (.ref x1), some (.int x2), some (.int x3), some (.long x4), none, some (.int x6), l7] [] h Q := by
  refine wp_goto (tgt := 90) rfl (by decide) ?_
  exact w
theorem b197_77 {n : Nat} {h : q_Hp} {Q : Option Value → q_Hp → Prop} {x0 : Nat} {x1 : Nat} {x2 : Int32} {x3 : Int32} {x4 : Int64} {x6 : Int32} {l7 : Option Value} {m : Nat} {P : Int32 → q_Hp → Prop} (hc : q_mI m 198 [.ref x0, .long x4] h P) (hm : m ≤ n) (w : ∀ (z : Int32) (h1 : q_Hp), P z h1 → q_wp (n + 1) 197 84 [some (.ref x0), some (.ref x1), some (.int x2), some (.int x3), some (.long x4), none, some (.int x6), l7] [.int z, .ref x0] h1 Q) : q_wp (n + 1) 197 77 [some (.ref x0), some (.ref x1), some (.int x2), some (.int x3), some (.long x4), none, some (.int x6), l7] [] h Q := by
  refine wp_loc rfl rfl ?_
  refine wp_loc rfl rfl ?_
  refine wp_loc rfl rfl ?_
  exact wp_callI (av := [.ref x0, .long x4]) rfl rfl rfl (by decide) rfl rfl rfl hm hc w
theorem b197_84 {n : Nat} {h : q_Hp} {Q : Option Value → q_Hp → Prop} {x0 : Nat} {x1 : Nat} {x2 : Int32} {x3 : Int32} {x4 : Int64} {x6 : Int32} {l7 : Option Value} {s0 : Int32} {s1 : Nat} {m : Nat} {P : q_Hp → Prop} (hc : q_mV m 191 [.ref s1, .int s0, .int x3, .long x4] h P) (hm : m ≤ n) (w : ∀ h1 : q_Hp, P h1 → q_wp (n + 1) 197 90 [some (.ref x0), some (.ref x1), some (.int x2), some (.int x3), some (.long x4), none, some (.int x6), l7] [] h1 Q) : q_wp (n + 1) 197 84 [some (.ref x0), some (.ref x1), some (.int x2), some (.int x3), some (.long x4), none, some (.int x6), l7] [.int s0, .ref s1] h Q := by
  refine wp_loc rfl rfl ?_
  refine wp_loc rfl rfl ?_
  exact wp_callV (av := [.ref s1, .int s0, .int x3, .long x4]) rfl rfl rfl (by decide) rfl rfl rfl hm hc w
theorem b197_90 {n : Nat} {h : q_Hp} {Q : Option Value → q_Hp → Prop} {x0 : Nat} {x1 : Nat} {x2 : Int32} {x3 : Int32} {x4 : Int64} {x6 : Int32} {l7 : Option Value} (q : Q (some (.int x6)) h) : q_wp n 197 90 [some (.ref x0), some (.ref x1), some (.int x2), some (.int x3), some (.long x4), none, some (.int x6), l7] [] h Q := by
  refine wp_loc rfl rfl ?_
  exact wp_ret rfl rfl q
theorem b198_0 {n : Nat} {h : q_Hp} {Q : Option Value → q_Hp → Prop} {x0 : Nat} {x1 : Int64} (w : q_wp n 198 2 [some (.ref x0), some (.long x1), none, some (.int 0)] [] h Q) : q_wp n 198 0 [some (.ref x0), some (.long x1), none, none] [] h Q := by
  refine wp_iconst (v := 0) rfl (by decide) ?_
  refine wp_loc rfl rfl ?_
  exact w
theorem b198_2 {n : Nat} {h : q_Hp} {Q : Option Value → q_Hp → Prop} {x0 : Nat} {x1 : Int64} {x3 : Int32} (wt : 25 ≤ x3 → q_wp n 198 27 [some (.ref x0), some (.long x1), none, some (.int x3)] [] h Q) (wf : ¬ 25 ≤ x3 → q_wp n 198 8 [some (.ref x0), some (.long x1), none, some (.int x3)] [] h Q) : q_wp n 198 2 [some (.ref x0), some (.long x1), none, some (.int x3)] [] h Q := by
  refine wp_loc rfl rfl ?_
  refine wp_bipush (v := 25) rfl (by decide) ?_
  exact wp_icge (tgt := 27) rfl (by decide) wt wf
theorem b198_8 {n : Nat} {h : q_Hp} {Q : Option Value → q_Hp → Prop} {x0 : Nat} {x1 : Int64} {x3 : Int32} {v0 : Nat} (k0 : q_ok h x0 9) (e0 : qR h x0 0 = v0) (k1 : q_ok h v0 21) (i0 : q_in x3 (qK h v0).2) (wt : ¬ (lg_cmp (qL h v0 x3.toNatClampNeg) x1) = 0 → q_wp n 198 21 [some (.ref x0), some (.long x1), none, some (.int x3)] [] h Q) (wf : (lg_cmp (qL h v0 x3.toNatClampNeg) x1) = 0 → q_wp n 198 19 [some (.ref x0), some (.long x1), none, some (.int x3)] [] h Q) : q_wp n 198 8 [some (.ref x0), some (.long x1), none, some (.int x3)] [] h Q := by
  refine wp_loc rfl rfl ?_
  refine wp_getR rfl rfl rfl rfl k0 e0 ?_
  refine wp_loc rfl rfl ?_
  refine wp_lald rfl k1 i0 ?_
  refine wp_loc rfl rfl ?_
  refine wp_stk rfl rfl rfl ?_
  exact wp_ifne (tgt := 21) rfl (by decide) wt wf
theorem b198_19 {n : Nat} {h : q_Hp} {Q : Option Value → q_Hp → Prop} {x0 : Nat} {x1 : Int64} {x3 : Int32} (q : Q (some (.int x3)) h) : q_wp n 198 19 [some (.ref x0), some (.long x1), none, some (.int x3)] [] h Q := by
  refine wp_loc rfl rfl ?_
  exact wp_ret rfl rfl q
theorem b198_21 {n : Nat} {h : q_Hp} {Q : Option Value → q_Hp → Prop} {x0 : Nat} {x1 : Int64} {x3 : Int32} (w : q_wp n 198 2 [some (.ref x0), some (.long x1), none, some (.int (x3 + 1))] [] h Q) : q_wp n 198 21 [some (.ref x0), some (.long x1), none, some (.int x3)] [] h Q := by
  refine wp_iinc (v := 1) rfl rfl (by decide) rfl ?_
  refine wp_goto (tgt := 2) rfl (by decide) ?_
  exact w
theorem b198_27 {n : Nat} {h : q_Hp} {Q : Option Value → q_Hp → Prop} {x0 : Nat} {x1 : Int64} {x3 : Int32} (q : Q (some (.int 40)) h) : q_wp n 198 27 [some (.ref x0), some (.long x1), none, some (.int x3)] [] h Q := by
  refine wp_bipush (v := 40) rfl (by decide) ?_
  exact wp_ret rfl rfl q
theorem b199_0 {n : Nat} {h : q_Hp} {Q : Option Value → q_Hp → Prop} {x0 : Nat} {x1 : Nat} {x2 : Int32} {x3 : Int32} (w : q_wp n 199 6 [some (.ref x0), some (.ref x1), some (.int x2), some (.int x3), some (.long 0), none, some (.int x3), none] [] h Q) : q_wp n 199 0 [some (.ref x0), some (.ref x1), some (.int x2), some (.int x3), none, none, none, none] [] h Q := by
  refine wp_lconst (v := 0) rfl (by decide) ?_
  refine wp_loc rfl rfl ?_
  refine wp_loc rfl rfl ?_
  refine wp_loc rfl rfl ?_
  exact w
theorem b199_6 {n : Nat} {h : q_Hp} {Q : Option Value → q_Hp → Prop} {x0 : Nat} {x1 : Nat} {x2 : Int32} {x3 : Int32} {x4 : Int64} {x6 : Int32} {l7 : Option Value} (wt : x2 ≤ x6 → q_wp n 199 53 [some (.ref x0), some (.ref x1), some (.int x2), some (.int x3), some (.long x4), none, some (.int x6), l7] [] h Q) (wf : ¬ x2 ≤ x6 → q_wp n 199 12 [some (.ref x0), some (.ref x1), some (.int x2), some (.int x3), some (.long x4), none, some (.int x6), l7] [] h Q) : q_wp n 199 6 [some (.ref x0), some (.ref x1), some (.int x2), some (.int x3), some (.long x4), none, some (.int x6), l7] [] h Q := by
  refine wp_loc rfl rfl ?_
  refine wp_loc rfl rfl ?_
  exact wp_icge (tgt := 53) rfl (by decide) wt wf
theorem b199_12 {n : Nat} {h : q_Hp} {Q : Option Value → q_Hp → Prop} {x0 : Nat} {x1 : Nat} {x2 : Int32} {x3 : Int32} {x4 : Int64} {x6 : Int32} {l7 : Option Value} {m : Nat} {P : Int32 → q_Hp → Prop} (hc : q_mI m 192 [.ref x1, .int x2, .int x6] h P) (hm : m ≤ n) (w : ∀ (z : Int32) (h1 : q_Hp), P z h1 → q_wp (n + 1) 199 19 [some (.ref x0), some (.ref x1), some (.int x2), some (.int x3), some (.long x4), none, some (.int x6), l7] [.int z] h1 Q) : q_wp (n + 1) 199 12 [some (.ref x0), some (.ref x1), some (.int x2), some (.int x3), some (.long x4), none, some (.int x6), l7] [] h Q := by
  refine wp_loc rfl rfl ?_
  refine wp_loc rfl rfl ?_
  refine wp_loc rfl rfl ?_
  exact wp_callI (av := [.ref x1, .int x2, .int x6]) rfl rfl rfl (by decide) rfl rfl rfl hm hc w
theorem b199_19 {n : Nat} {h : q_Hp} {Q : Option Value → q_Hp → Prop} {x0 : Nat} {x1 : Nat} {x2 : Int32} {x3 : Int32} {x4 : Int64} {x6 : Int32} {l7 : Option Value} {s0 : Int32} {m : Nat} {P : Int32 → q_Hp → Prop} (hc : q_mI m 193 [.int s0] h P) (hm : m ≤ n) (w : ∀ (z : Int32) (h1 : q_Hp), P z h1 → q_wp (n + 1) 199 26 [some (.ref x0), some (.ref x1), some (.int x2), some (.int x3), some (.long x4), none, some (.int x6), some (.int s0)] [.int z] h1 Q) : q_wp (n + 1) 199 19 [some (.ref x0), some (.ref x1), some (.int x2), some (.int x3), some (.long x4), none, some (.int x6), l7] [.int s0] h Q := by
  refine wp_loc rfl rfl ?_
  refine wp_loc rfl rfl ?_
  exact wp_callI (av := [.int s0]) rfl rfl rfl (by decide) rfl rfl rfl hm hc w
theorem b199_26 {n : Nat} {h : q_Hp} {Q : Option Value → q_Hp → Prop} {x0 : Nat} {x1 : Nat} {x2 : Int32} {x3 : Int32} {x4 : Int64} {x6 : Int32} {x7 : Int32} {s0 : Int32} (wt : ¬ s0 = 0 → q_wp n 199 32 [some (.ref x0), some (.ref x1), some (.int x2), some (.int x3), some (.long x4), none, some (.int x6), some (.int x7)] [] h Q) (wf : s0 = 0 → q_wp n 199 29 [some (.ref x0), some (.ref x1), some (.int x2), some (.int x3), some (.long x4), none, some (.int x6), some (.int x7)] [] h Q) : q_wp n 199 26 [some (.ref x0), some (.ref x1), some (.int x2), some (.int x3), some (.long x4), none, some (.int x6), some (.int x7)] [.int s0] h Q := by
  exact wp_ifne (tgt := 32) rfl (by decide) wt wf
theorem b199_29 {n : Nat} {h : q_Hp} {Q : Option Value → q_Hp → Prop} {x0 : Nat} {x1 : Nat} {x2 : Int32} {x3 : Int32} {x4 : Int64} {x6 : Int32} {x7 : Int32} (w : q_wp n 199 53 [some (.ref x0), some (.ref x1), some (.int x2), some (.int x3), some (.long x4), none, some (.int x6), some (.int x7)] [] h Q) : q_wp n 199 29 [some (.ref x0), some (.ref x1), some (.int x2), some (.int x3), some (.long x4), none, some (.int x6), some (.int x7)] [] h Q := by
  refine wp_goto (tgt := 53) rfl (by decide) ?_
  exact w
theorem b199_32 {n : Nat} {h : q_Hp} {Q : Option Value → q_Hp → Prop} {x0 : Nat} {x1 : Nat} {x2 : Int32} {x3 : Int32} {x4 : Int64} {x6 : Int32} {x7 : Int32} (w : q_wp n 199 6 [some (.ref x0), some (.ref x1), some (.int x2), some (.int x3), some (.long ((x4 * 10) + ((x7 - 48 : Int32).toInt64))), none, some (.int (x6 + 1)), some (.int x7)] [] h Q) : q_wp n 199 32 [some (.ref x0), some (.ref x1), some (.int x2), some (.int x3), some (.long x4), none, some (.int x6), some (.int x7)] [] h Q := by
  refine wp_loc rfl rfl ?_
  refine wp_stk (m := 3) (st' := .long 10 :: _) rfl rfl rfl ?_
  refine wp_stk rfl rfl rfl ?_
  refine wp_loc rfl rfl ?_
  refine wp_bipush (v := 48) rfl (by decide) ?_
  refine wp_stk rfl rfl rfl ?_
  refine wp_stk rfl rfl rfl ?_
  refine wp_stk rfl rfl rfl ?_
  refine wp_loc rfl rfl ?_
  refine wp_iinc (v := 1) rfl rfl (by decide) rfl ?_
  refine wp_goto (tgt := 6) rfl (by decide) ?_
  exact w
theorem b199_53 {n : Nat} {h : q_Hp} {Q : Option Value → q_Hp → Prop} {x0 : Nat} {x1 : Nat} {x2 : Int32} {x3 : Int32} {x4 : Int64} {x6 : Int32} {l7 : Option Value} (wt : (x6 - x3) ≤ 9 → q_wp n 199 68 [some (.ref x0), some (.ref x1), some (.int x2), some (.int x3), some (.long x4), none, some (.int x6), l7] [.ref x0] h Q) (wf : ¬ (x6 - x3) ≤ 9 → q_wp n 199 63 [some (.ref x0), some (.ref x1), some (.int x2), some (.int x3), some (.long x4), none, some (.int x6), l7] [.ref x0] h Q) : q_wp n 199 53 [some (.ref x0), some (.ref x1), some (.int x2), some (.int x3), some (.long x4), none, some (.int x6), l7] [] h Q := by
  refine wp_loc rfl rfl ?_
  refine wp_loc rfl rfl ?_
  refine wp_loc rfl rfl ?_
  refine wp_stk rfl rfl rfl ?_
  refine wp_bipush (v := 9) rfl (by decide) ?_
  exact wp_icle (tgt := 68) rfl (by decide) wt wf
theorem b199_63 {n : Nat} {h : q_Hp} {Q : Option Value → q_Hp → Prop} {x0 : Nat} {x1 : Nat} {x2 : Int32} {x3 : Int32} {x4 : Int64} {x6 : Int32} {l7 : Option Value} {s0 : Nat} (w : q_wp n 199 70 [some (.ref x0), some (.ref x1), some (.int x2), some (.int x3), some (.long x4), none, some (.int x6), l7] [.int 43, .ref s0] h Q) : q_wp n 199 63 [some (.ref x0), some (.ref x1), some (.int x2), some (.int x3), some (.long x4), none, some (.int x6), l7] [.ref s0] h Q := by
  refine wp_bipush (v := 43) rfl (by decide) ?_
  refine wp_goto (tgt := 70) rfl (by decide) ?_
  exact w
theorem b199_68 {n : Nat} {h : q_Hp} {Q : Option Value → q_Hp → Prop} {x0 : Nat} {x1 : Nat} {x2 : Int32} {x3 : Int32} {x4 : Int64} {x6 : Int32} {l7 : Option Value} {s0 : Nat} (w : q_wp n 199 70 [some (.ref x0), some (.ref x1), some (.int x2), some (.int x3), some (.long x4), none, some (.int x6), l7] [.int 41, .ref s0] h Q) : q_wp n 199 68 [some (.ref x0), some (.ref x1), some (.int x2), some (.int x3), some (.long x4), none, some (.int x6), l7] [.ref s0] h Q := by
  refine wp_bipush (v := 41) rfl (by decide) ?_
  exact w
theorem b199_70 {n : Nat} {h : q_Hp} {Q : Option Value → q_Hp → Prop} {x0 : Nat} {x1 : Nat} {x2 : Int32} {x3 : Int32} {x4 : Int64} {x6 : Int32} {l7 : Option Value} {s0 : Int32} {s1 : Nat} {m : Nat} {P : q_Hp → Prop} (hc : q_mV m 191 [.ref s1, .int s0, .int x3, .long x4] h P) (hm : m ≤ n) (w : ∀ h1 : q_Hp, P h1 → q_wp (n + 1) 199 76 [some (.ref x0), some (.ref x1), some (.int x2), some (.int x3), some (.long x4), none, some (.int x6), l7] [] h1 Q) : q_wp (n + 1) 199 70 [some (.ref x0), some (.ref x1), some (.int x2), some (.int x3), some (.long x4), none, some (.int x6), l7] [.int s0, .ref s1] h Q := by
  refine wp_loc rfl rfl ?_
  refine wp_loc rfl rfl ?_
  exact wp_callV (av := [.ref s1, .int s0, .int x3, .long x4]) rfl rfl rfl (by decide) rfl rfl rfl hm hc w
theorem b199_76 {n : Nat} {h : q_Hp} {Q : Option Value → q_Hp → Prop} {x0 : Nat} {x1 : Nat} {x2 : Int32} {x3 : Int32} {x4 : Int64} {x6 : Int32} {l7 : Option Value} (q : Q (some (.int x6)) h) : q_wp n 199 76 [some (.ref x0), some (.ref x1), some (.int x2), some (.int x3), some (.long x4), none, some (.int x6), l7] [] h Q := by
  refine wp_loc rfl rfl ?_
  exact wp_ret rfl rfl q
theorem b200_0 {n : Nat} {h : q_Hp} {Q : Option Value → q_Hp → Prop} {x0 : Int32} {x1 : Int32} (wt : ¬ x0 = 33 → q_wp n 200 20 [some (.int x0), some (.int x1), none] [] h Q) (wf : x0 = 33 → q_wp n 200 6 [some (.int x0), some (.int x1), none] [] h Q) : q_wp n 200 0 [some (.int x0), some (.int x1), none] [] h Q := by
  refine wp_loc rfl rfl ?_
  refine wp_bipush (v := 33) rfl (by decide) ?_
  exact wp_icne (tgt := 20) rfl (by decide) wt wf
theorem b200_6 {n : Nat} {h : q_Hp} {Q : Option Value → q_Hp → Prop} {x0 : Int32} {x1 : Int32} (wt : ¬ x1 = 61 → q_wp n 200 17 [some (.int x0), some (.int x1), none] [] h Q) (wf : x1 = 61 → q_wp n 200 12 [some (.int x0), some (.int x1), none] [] h Q) : q_wp n 200 6 [some (.int x0), some (.int x1), none] [] h Q := by
  refine wp_loc rfl rfl ?_
  refine wp_bipush (v := 61) rfl (by decide) ?_
  exact wp_icne (tgt := 17) rfl (by decide) wt wf
theorem b200_12 {n : Nat} {h : q_Hp} {Q : Option Value → q_Hp → Prop} {x0 : Int32} {x1 : Int32} (q : Q (some (.int 37)) h) : q_wp n 200 12 [some (.int x0), some (.int x1), none] [] h Q := by
  refine wp_bipush (v := 37) rfl (by decide) ?_
  refine wp_goto (tgt := 19) rfl (by decide) ?_
  exact wp_ret rfl rfl q
theorem b200_17 {n : Nat} {h : q_Hp} {Q : Option Value → q_Hp → Prop} {x0 : Int32} {x1 : Int32} (q : Q (some (.int 43)) h) : q_wp n 200 17 [some (.int x0), some (.int x1), none] [] h Q := by
  refine wp_bipush (v := 43) rfl (by decide) ?_
  exact wp_ret rfl rfl q
theorem b200_20 {n : Nat} {h : q_Hp} {Q : Option Value → q_Hp → Prop} {x0 : Int32} {x1 : Int32} (wt : ¬ x0 = 61 → q_wp n 200 35 [some (.int x0), some (.int x1), none] [] h Q) (wf : x0 = 61 → q_wp n 200 26 [some (.int x0), some (.int x1), none] [] h Q) : q_wp n 200 20 [some (.int x0), some (.int x1), none] [] h Q := by
  refine wp_loc rfl rfl ?_
  refine wp_bipush (v := 61) rfl (by decide) ?_
  exact wp_icne (tgt := 35) rfl (by decide) wt wf
theorem b200_26 {n : Nat} {h : q_Hp} {Q : Option Value → q_Hp → Prop} {x0 : Int32} {x1 : Int32} (wt : ¬ x1 = 61 → q_wp n 200 35 [some (.int x0), some (.int x1), none] [] h Q) (wf : x1 = 61 → q_wp n 200 32 [some (.int x0), some (.int x1), none] [] h Q) : q_wp n 200 26 [some (.int x0), some (.int x1), none] [] h Q := by
  refine wp_loc rfl rfl ?_
  refine wp_bipush (v := 61) rfl (by decide) ?_
  exact wp_icne (tgt := 35) rfl (by decide) wt wf
theorem b200_32 {n : Nat} {h : q_Hp} {Q : Option Value → q_Hp → Prop} {x0 : Int32} {x1 : Int32} (q : Q (some (.int 36)) h) : q_wp n 200 32 [some (.int x0), some (.int x1), none] [] h Q := by
  refine wp_bipush (v := 36) rfl (by decide) ?_
  exact wp_ret rfl rfl q
theorem b200_35 {n : Nat} {h : q_Hp} {Q : Option Value → q_Hp → Prop} {x0 : Int32} {x1 : Int32} (wt : ¬ x0 = 60 → q_wp n 200 50 [some (.int x0), some (.int x1), none] [] h Q) (wf : x0 = 60 → q_wp n 200 41 [some (.int x0), some (.int x1), none] [] h Q) : q_wp n 200 35 [some (.int x0), some (.int x1), none] [] h Q := by
  refine wp_loc rfl rfl ?_
  refine wp_bipush (v := 60) rfl (by decide) ?_
  exact wp_icne (tgt := 50) rfl (by decide) wt wf
theorem b200_41 {n : Nat} {h : q_Hp} {Q : Option Value → q_Hp → Prop} {x0 : Int32} {x1 : Int32} (wt : ¬ x1 = 61 → q_wp n 200 50 [some (.int x0), some (.int x1), none] [] h Q) (wf : x1 = 61 → q_wp n 200 47 [some (.int x0), some (.int x1), none] [] h Q) : q_wp n 200 41 [some (.int x0), some (.int x1), none] [] h Q := by
  refine wp_loc rfl rfl ?_
  refine wp_bipush (v := 61) rfl (by decide) ?_
  exact wp_icne (tgt := 50) rfl (by decide) wt wf
theorem b200_47 {n : Nat} {h : q_Hp} {Q : Option Value → q_Hp → Prop} {x0 : Int32} {x1 : Int32} (q : Q (some (.int 38)) h) : q_wp n 200 47 [some (.int x0), some (.int x1), none] [] h Q := by
  refine wp_bipush (v := 38) rfl (by decide) ?_
  exact wp_ret rfl rfl q
theorem b200_50 {n : Nat} {h : q_Hp} {Q : Option Value → q_Hp → Prop} {x0 : Int32} {x1 : Int32} (wt : ¬ x0 = 45 → q_wp n 200 65 [some (.int x0), some (.int x1), none] [] h Q) (wf : x0 = 45 → q_wp n 200 56 [some (.int x0), some (.int x1), none] [] h Q) : q_wp n 200 50 [some (.int x0), some (.int x1), none] [] h Q := by
  refine wp_loc rfl rfl ?_
  refine wp_bipush (v := 45) rfl (by decide) ?_
  exact wp_icne (tgt := 65) rfl (by decide) wt wf
theorem b200_56 {n : Nat} {h : q_Hp} {Q : Option Value → q_Hp → Prop} {x0 : Int32} {x1 : Int32} (wt : ¬ x1 = 62 → q_wp n 200 65 [some (.int x0), some (.int x1), none] [] h Q) (wf : x1 = 62 → q_wp n 200 62 [some (.int x0), some (.int x1), none] [] h Q) : q_wp n 200 56 [some (.int x0), some (.int x1), none] [] h Q := by
  refine wp_loc rfl rfl ?_
  refine wp_bipush (v := 62) rfl (by decide) ?_
  exact wp_icne (tgt := 65) rfl (by decide) wt wf
theorem b200_62 {n : Nat} {h : q_Hp} {Q : Option Value → q_Hp → Prop} {x0 : Int32} {x1 : Int32} (q : Q (some (.int 39)) h) : q_wp n 200 62 [some (.int x0), some (.int x1), none] [] h Q := by
  refine wp_bipush (v := 39) rfl (by decide) ?_
  exact wp_ret rfl rfl q
theorem b200_72 {n : Nat} {h : q_Hp} {Q : Option Value → q_Hp → Prop} {x0 : Int32} {x1 : Int32} {s0 : Int32} (wt : 0 ≤ s0 → q_wp n 200 82 [some (.int x0), some (.int x1), some (.int s0)] [] h Q) (wf : ¬ 0 ≤ s0 → q_wp n 200 77 [some (.int x0), some (.int x1), some (.int s0)] [] h Q) : q_wp n 200 72 [some (.int x0), some (.int x1), none] [.int s0] h Q := by
  refine wp_loc rfl rfl ?_
  refine wp_loc rfl rfl ?_
  exact wp_ifge (tgt := 82) rfl (by decide) wt wf
theorem b200_77 {n : Nat} {h : q_Hp} {Q : Option Value → q_Hp → Prop} {x0 : Int32} {x1 : Int32} {x2 : Int32} (q : Q (some (.int 43)) h) : q_wp n 200 77 [some (.int x0), some (.int x1), some (.int x2)] [] h Q := by
  refine wp_bipush (v := 43) rfl (by decide) ?_
  refine wp_goto (tgt := 86) rfl (by decide) ?_
  exact wp_ret rfl rfl q
theorem b200_82 {n : Nat} {h : q_Hp} {Q : Option Value → q_Hp → Prop} {x0 : Int32} {x1 : Int32} {x2 : Int32} (q : Q (some (.int (25 + x2))) h) : q_wp n 200 82 [some (.int x0), some (.int x1), some (.int x2)] [] h Q := by
  refine wp_bipush (v := 25) rfl (by decide) ?_
  refine wp_loc rfl rfl ?_
  refine wp_stk rfl rfl rfl ?_
  exact wp_ret rfl rfl q
