theorem b22_81 {n : Nat} {h : q_Hp} {Q : Option Value → q_Hp → Prop} {x0 : Nat} {x1 : Nat} {x2 : Nat} {x3 : Nat} {s0 : Nat} {s1 : Nat} (k0 : q_ok h s1 1) (q : Q none (q_sR h s1 13 s0)) : q_wp n 22 81 [some (.ref x0), some (.ref x1), some (.ref x2), some (.ref x3)] [.ref s0, .ref s1] h Q := by
  refine wp_putR rfl rfl (Or.inl rfl) rfl rfl k0 ?_
  exact wp_ret rfl rfl q
theorem b23_0 {n : Nat} {h : q_Hp} {Q : Option Value → q_Hp → Prop} {x0 : Nat} {x1 : Nat} {v0 : Nat} (k0 : q_ok h x0 1) (e0 : qR (q_sR h x0 12 x1) x0 12 = v0) {m : Nat} {P : q_Hp → Prop} (hc : q_mV m 1 [.ref v0] (q_sR h x0 12 x1) P) (hm : m ≤ n) (w : ∀ h1 : q_Hp, P h1 → q_wp (n + 1) 23 12 [some (.ref x0), some (.ref x1), none] [] h1 Q) : q_wp (n + 1) 23 0 [some (.ref x0), some (.ref x1), none] [] h Q := by
  refine wp_loc rfl rfl ?_
  refine wp_loc rfl rfl ?_
  refine wp_putR rfl rfl (Or.inl rfl) rfl rfl k0 ?_
  refine wp_loc rfl rfl ?_
  refine wp_getR rfl rfl rfl rfl k0 e0 ?_
  exact wp_callV (av := [.ref v0]) rfl rfl rfl (by decide) rfl rfl rfl hm hc w
theorem b23_12 {n : Nat} {h : q_Hp} {Q : Option Value → q_Hp → Prop} {x0 : Nat} {x1 : Nat} (k0 : q_ok h x0 1) (w : q_wp n 23 24 [some (.ref x0), some (.ref x1), some (.int 0)] [] (q_sI (q_sI h x0 14 0) x0 15 0) Q) : q_wp n 23 12 [some (.ref x0), some (.ref x1), none] [] h Q := by
  refine wp_loc rfl rfl ?_
  refine wp_iconst (v := 0) rfl (by decide) ?_
  refine wp_putI rfl rfl (Or.inl rfl) rfl (fun h9 => by cases h9) k0 ?_
  refine wp_loc rfl rfl ?_
  refine wp_iconst (v := 0) rfl (by decide) ?_
  refine wp_putI rfl rfl (Or.inl rfl) rfl (fun h9 => by cases h9) k0 ?_
  refine wp_iconst (v := 0) rfl (by decide) ?_
  refine wp_loc rfl rfl ?_
  exact w
theorem b23_24 {n : Nat} {h : q_Hp} {Q : Option Value → q_Hp → Prop} {x0 : Nat} {x1 : Nat} {x2 : Int32} (wt : 1200 < x2 → q_wp n 23 94 [some (.ref x0), some (.ref x1), some (.int x2)] [] h Q) (wf : ¬ 1200 < x2 → q_wp n 23 31 [some (.ref x0), some (.ref x1), some (.int x2)] [] h Q) : q_wp n 23 24 [some (.ref x0), some (.ref x1), some (.int x2)] [] h Q := by
  refine wp_loc rfl rfl ?_
  refine wp_sipush (v := 1200) rfl (by decide) ?_
  exact wp_icgt (tgt := 94) rfl (by decide) wt wf
theorem b23_31 {n : Nat} {h : q_Hp} {Q : Option Value → q_Hp → Prop} {x0 : Nat} {x1 : Nat} {x2 : Int32} {m : Nat} {P : Int32 → q_Hp → Prop} (hc : q_mI m 25 [.ref x0] h P) (hm : m ≤ n) (w : ∀ (z : Int32) (h1 : q_Hp), P z h1 → q_wp (n + 1) 23 35 [some (.ref x0), some (.ref x1), some (.int x2)] [.int z] h1 Q) : q_wp (n + 1) 23 31 [some (.ref x0), some (.ref x1), some (.int x2)] [] h Q := by
  refine wp_loc rfl rfl ?_
  exact wp_callI (av := [.ref x0]) rfl rfl rfl (by decide) rfl rfl rfl hm hc w
theorem b23_35 {n : Nat} {h : q_Hp} {Q : Option Value → q_Hp → Prop} {x0 : Nat} {x1 : Nat} {x2 : Int32} {s0 : Int32} (wt : s0 = 42 → q_wp n 23 94 [some (.ref x0), some (.ref x1), some (.int x2)] [] h Q) (wf : ¬ s0 = 42 → q_wp n 23 40 [some (.ref x0), some (.ref x1), some (.int x2)] [] h Q) : q_wp n 23 35 [some (.ref x0), some (.ref x1), some (.int x2)] [.int s0] h Q := by
  refine wp_bipush (v := 42) rfl (by decide) ?_
  exact wp_iceq (tgt := 94) rfl (by decide) wt wf
theorem b23_40 {n : Nat} {h : q_Hp} {Q : Option Value → q_Hp → Prop} {x0 : Nat} {x1 : Nat} {x2 : Int32} {m : Nat} {P : Int32 → q_Hp → Prop} (hc : q_mI m 25 [.ref x0] h P) (hm : m ≤ n) (w : ∀ (z : Int32) (h1 : q_Hp), P z h1 → q_wp (n + 1) 23 44 [some (.ref x0), some (.ref x1), some (.int x2)] [.int z] h1 Q) : q_wp (n + 1) 23 40 [some (.ref x0), some (.ref x1), some (.int x2)] [] h Q := by
  refine wp_loc rfl rfl ?_
  exact wp_callI (av := [.ref x0]) rfl rfl rfl (by decide) rfl rfl rfl hm hc w
theorem b23_44 {n : Nat} {h : q_Hp} {Q : Option Value → q_Hp → Prop} {x0 : Nat} {x1 : Nat} {x2 : Int32} {s0 : Int32} (wt : ¬ s0 = 0 → q_wp n 23 54 [some (.ref x0), some (.ref x1), some (.int x2)] [] h Q) (wf : s0 = 0 → q_wp n 23 47 [some (.ref x0), some (.ref x1), some (.int x2)] [] h Q) : q_wp n 23 44 [some (.ref x0), some (.ref x1), some (.int x2)] [.int s0] h Q := by
  exact wp_ifne (tgt := 54) rfl (by decide) wt wf
theorem b23_47 {n : Nat} {h : q_Hp} {Q : Option Value → q_Hp → Prop} {x0 : Nat} {x1 : Nat} {x2 : Int32} {m : Nat} {P : q_Hp → Prop} (hc : q_mV m 30 [.ref x0] h P) (hm : m ≤ n) (w : ∀ h1 : q_Hp, P h1 → q_wp (n + 1) 23 51 [some (.ref x0), some (.ref x1), some (.int x2)] [] h1 Q) : q_wp (n + 1) 23 47 [some (.ref x0), some (.ref x1), some (.int x2)] [] h Q := by
  refine wp_loc rfl rfl ?_
  exact wp_callV (av := [.ref x0]) rfl rfl rfl (by decide) rfl rfl rfl hm hc w
theorem b23_51 {n : Nat} {h : q_Hp} {Q : Option Value → q_Hp → Prop} {x0 : Nat} {x1 : Nat} {x2 : Int32} (w : q_wp n 23 88 [some (.ref x0), some (.ref x1), some (.int x2)] [] h Q) : q_wp n 23 51 [some (.ref x0), some (.ref x1), some (.int x2)] [] h Q := by
  refine wp_goto (tgt := 88) rfl (by decide) ?_
  exact w
theorem b23_54 {n : Nat} {h : q_Hp} {Q : Option Value → q_Hp → Prop} {x0 : Nat} {x1 : Nat} {x2 : Int32} {m : Nat} {P : Int32 → q_Hp → Prop} (hc : q_mI m 25 [.ref x0] h P) (hm : m ≤ n) (w : ∀ (z : Int32) (h1 : q_Hp), P z h1 → q_wp (n + 1) 23 58 [some (.ref x0), some (.ref x1), some (.int x2)] [.int z] h1 Q) : q_wp (n + 1) 23 54 [some (.ref x0), some (.ref x1), some (.int x2)] [] h Q := by
  refine wp_loc rfl rfl ?_
  exact wp_callI (av := [.ref x0]) rfl rfl rfl (by decide) rfl rfl rfl hm hc w
theorem b23_58 {n : Nat} {h : q_Hp} {Q : Option Value → q_Hp → Prop} {x0 : Nat} {x1 : Nat} {x2 : Int32} {s0 : Int32} (wt : ¬ s0 = 2 → q_wp n 23 69 [some (.ref x0), some (.ref x1), some (.int x2)] [] h Q) (wf : s0 = 2 → q_wp n 23 62 [some (.ref x0), some (.ref x1), some (.int x2)] [] h Q) : q_wp n 23 58 [some (.ref x0), some (.ref x1), some (.int x2)] [.int s0] h Q := by
  refine wp_iconst (v := 2) rfl (by decide) ?_
  exact wp_icne (tgt := 69) rfl (by decide) wt wf
theorem b23_62 {n : Nat} {h : q_Hp} {Q : Option Value → q_Hp → Prop} {x0 : Nat} {x1 : Nat} {x2 : Int32} {m : Nat} {P : q_Hp → Prop} (hc : q_mV m 31 [.ref x0] h P) (hm : m ≤ n) (w : ∀ h1 : q_Hp, P h1 → q_wp (n + 1) 23 66 [some (.ref x0), some (.ref x1), some (.int x2)] [] h1 Q) : q_wp (n + 1) 23 62 [some (.ref x0), some (.ref x1), some (.int x2)] [] h Q := by
  refine wp_loc rfl rfl ?_
  exact wp_callV (av := [.ref x0]) rfl rfl rfl (by decide) rfl rfl rfl hm hc w
theorem b23_66 {n : Nat} {h : q_Hp} {Q : Option Value → q_Hp → Prop} {x0 : Nat} {x1 : Nat} {x2 : Int32} (w : q_wp n 23 88 [some (.ref x0), some (.ref x1), some (.int x2)] [] h Q) : q_wp n 23 66 [some (.ref x0), some (.ref x1), some (.int x2)] [] h Q := by
  refine wp_goto (tgt := 88) rfl (by decide) ?_
  exact w
theorem b23_69 {n : Nat} {h : q_Hp} {Q : Option Value → q_Hp → Prop} {x0 : Nat} {x1 : Nat} {x2 : Int32} {m : Nat} {P : Int32 → q_Hp → Prop} (hc : q_mI m 25 [.ref x0] h P) (hm : m ≤ n) (w : ∀ (z : Int32) (h1 : q_Hp), P z h1 → q_wp (n + 1) 23 73 [some (.ref x0), some (.ref x1), some (.int x2)] [.int z] h1 Q) : q_wp (n + 1) 23 69 [some (.ref x0), some (.ref x1), some (.int x2)] [] h Q := by
  refine wp_loc rfl rfl ?_
  exact wp_callI (av := [.ref x0]) rfl rfl rfl (by decide) rfl rfl rfl hm hc w
theorem b23_73 {n : Nat} {h : q_Hp} {Q : Option Value → q_Hp → Prop} {x0 : Nat} {x1 : Nat} {x2 : Int32} {s0 : Int32} (wt : ¬ s0 = 3 → q_wp n 23 84 [some (.ref x0), some (.ref x1), some (.int x2)] [] h Q) (wf : s0 = 3 → q_wp n 23 77 [some (.ref x0), some (.ref x1), some (.int x2)] [] h Q) : q_wp n 23 73 [some (.ref x0), some (.ref x1), some (.int x2)] [.int s0] h Q := by
  refine wp_iconst (v := 3) rfl (by decide) ?_
  exact wp_icne (tgt := 84) rfl (by decide) wt wf
theorem b23_77 {n : Nat} {h : q_Hp} {Q : Option Value → q_Hp → Prop} {x0 : Nat} {x1 : Nat} {x2 : Int32} {m : Nat} {P : q_Hp → Prop} (hc : q_mV m 33 [.ref x0] h P) (hm : m ≤ n) (w : ∀ h1 : q_Hp, P h1 → q_wp (n + 1) 23 81 [some (.ref x0), some (.ref x1), some (.int x2)] [] h1 Q) : q_wp (n + 1) 23 77 [some (.ref x0), some (.ref x1), some (.int x2)] [] h Q := by
  refine wp_loc rfl rfl ?_
  exact wp_callV (av := [.ref x0]) rfl rfl rfl (by decide) rfl rfl rfl hm hc w
theorem b23_81 {n : Nat} {h : q_Hp} {Q : Option Value → q_Hp → Prop} {x0 : Nat} {x1 : Nat} {x2 : Int32} (w : q_wp n 23 88 [some (.ref x0), some (.ref x1), some (.int x2)] [] h Q) : q_wp n 23 81 [some (.ref x0), some (.ref x1), some (.int x2)] [] h Q := by
  refine wp_goto (tgt := 88) rfl (by decide) ?_
  exact w
theorem b23_84 {n : Nat} {h : q_Hp} {Q : Option Value → q_Hp → Prop} {x0 : Nat} {x1 : Nat} {x2 : Int32} {m : Nat} {P : q_Hp → Prop} (hc : q_mV m 52 [.ref x0] h P) (hm : m ≤ n) (w : ∀ h1 : q_Hp, P h1 → q_wp (n + 1) 23 88 [some (.ref x0), some (.ref x1), some (.int x2)] [] h1 Q) : q_wp (n + 1) 23 84 [some (.ref x0), some (.ref x1), some (.int x2)] [] h Q := by
  refine wp_loc rfl rfl ?_
  exact wp_callV (av := [.ref x0]) rfl rfl rfl (by decide) rfl rfl rfl hm hc w
theorem b23_88 {n : Nat} {h : q_Hp} {Q : Option Value → q_Hp → Prop} {x0 : Nat} {x1 : Nat} {x2 : Int32} (w : q_wp n 23 24 [some (.ref x0), some (.ref x1), some (.int (x2 + 1))] [] h Q) : q_wp n 23 88 [some (.ref x0), some (.ref x1), some (.int x2)] [] h Q := by
  refine wp_iinc (v := 1) rfl rfl (by decide) rfl ?_
  refine wp_goto (tgt := 24) rfl (by decide) ?_
  exact w
theorem b23_94 {n : Nat} {h : q_Hp} {Q : Option Value → q_Hp → Prop} {x0 : Nat} {x1 : Nat} {x2 : Int32} (k0 : q_ok h x0 1) (q : Q (some (.int (qI h x0 15))) h) : q_wp n 23 94 [some (.ref x0), some (.ref x1), some (.int x2)] [] h Q := by
  refine wp_loc rfl rfl ?_
  refine wp_getI rfl rfl rfl k0 ?_
  exact wp_ret rfl rfl q
theorem b24_0 {n : Nat} {h : q_Hp} {Q : Option Value → q_Hp → Prop} {x0 : Nat} (k0 : q_ok h x0 1) (wt : ¬ (qI h x0 15) = 0 → q_wp n 24 11 [some (.ref x0)] [] h Q) (wf : (qI h x0 15) = 0 → q_wp n 24 7 [some (.ref x0)] [] h Q) : q_wp n 24 0 [some (.ref x0)] [] h Q := by
  refine wp_loc rfl rfl ?_
  refine wp_getI rfl rfl rfl k0 ?_
  exact wp_ifne (tgt := 11) rfl (by decide) wt wf
theorem b24_7 {n : Nat} {h : q_Hp} {Q : Option Value → q_Hp → Prop} {x0 : Nat} (w : q_wp n 24 22 [some (.ref x0)] [.int (-1)] h Q) : q_wp n 24 7 [some (.ref x0)] [] h Q := by
  refine wp_iconst (v := (-1)) rfl (by decide) ?_
  refine wp_goto (tgt := 22) rfl (by decide) ?_
  exact w
theorem b24_11 {n : Nat} {h : q_Hp} {Q : Option Value → q_Hp → Prop} {x0 : Nat} {v0 : Nat} (k0 : q_ok h x0 1) (e0 : qR h x0 0 = v0) {m : Nat} {P : Int32 → q_Hp → Prop} (hc : q_mI m 189 [.ref v0, .int (qI h x0 16)] h P) (hm : m ≤ n) (w : ∀ (z : Int32) (h1 : q_Hp), P z h1 → q_wp (n + 1) 24 22 [some (.ref x0)] [.int z] h1 Q) : q_wp (n + 1) 24 11 [some (.ref x0)] [] h Q := by
  refine wp_loc rfl rfl ?_
  refine wp_getR rfl rfl rfl rfl k0 e0 ?_
  refine wp_loc rfl rfl ?_
  refine wp_getI rfl rfl rfl k0 ?_
  exact wp_callI (av := [.ref v0, .int (qI h x0 16)]) rfl rfl rfl (by decide) rfl rfl rfl hm hc w
theorem b24_22 {n : Nat} {h : q_Hp} {Q : Option Value → q_Hp → Prop} {x0 : Nat} {s0 : Int32} (q : Q (some (.int s0)) h) : q_wp n 24 22 [some (.ref x0)] [.int s0] h Q := by
  exact wp_ret rfl rfl q
theorem b25_0 {n : Nat} {h : q_Hp} {Q : Option Value → q_Hp → Prop} {x0 : Nat} {v0 : Nat} (k0 : q_ok h x0 1) (e0 : qR h x0 0 = v0) {m : Nat} {P : Int32 → q_Hp → Prop} (hc : q_mI m 188 [.ref v0, .int (qI h x0 14)] h P) (hm : m ≤ n) (w : ∀ (z : Int32) (h1 : q_Hp), P z h1 → q_wp (n + 1) 25 11 [some (.ref x0)] [.int z] h1 Q) : q_wp (n + 1) 25 0 [some (.ref x0)] [] h Q := by
  refine wp_loc rfl rfl ?_
  refine wp_getR rfl rfl rfl rfl k0 e0 ?_
  refine wp_loc rfl rfl ?_
  refine wp_getI rfl rfl rfl k0 ?_
  exact wp_callI (av := [.ref v0, .int (qI h x0 14)]) rfl rfl rfl (by decide) rfl rfl rfl hm hc w
theorem b25_11 {n : Nat} {h : q_Hp} {Q : Option Value → q_Hp → Prop} {x0 : Nat} {s0 : Int32} (q : Q (some (.int s0)) h) : q_wp n 25 11 [some (.ref x0)] [.int s0] h Q := by
  exact wp_ret rfl rfl q
theorem b26_0 {n : Nat} {h : q_Hp} {Q : Option Value → q_Hp → Prop} {x0 : Nat} {x1 : Int32} (k0 : q_ok h x0 1) (wt : ¬ (qI h x0 15) = 0 → q_wp n 26 20 [some (.ref x0), some (.int x1)] [] h Q) (wf : (qI h x0 15) = 0 → q_wp n 26 7 [some (.ref x0), some (.int x1)] [] h Q) : q_wp n 26 0 [some (.ref x0), some (.int x1)] [] h Q := by
  refine wp_loc rfl rfl ?_
  refine wp_getI rfl rfl rfl k0 ?_
  exact wp_ifne (tgt := 20) rfl (by decide) wt wf
theorem b26_7 {n : Nat} {h : q_Hp} {Q : Option Value → q_Hp → Prop} {x0 : Nat} {x1 : Int32} (k0 : q_ok h x0 1) (w : q_wp n 26 20 [some (.ref x0), some (.int x1)] [] (q_sI (q_sI h x0 15 x1) x0 16 (qI (q_sI h x0 15 x1) x0 14)) Q) : q_wp n 26 7 [some (.ref x0), some (.int x1)] [] h Q := by
  refine wp_loc rfl rfl ?_
  refine wp_loc rfl rfl ?_
  refine wp_putI rfl rfl (Or.inl rfl) rfl (fun h9 => by cases h9) k0 ?_
  refine wp_loc rfl rfl ?_
  refine wp_loc rfl rfl ?_
  refine wp_getI rfl rfl rfl k0 ?_
  refine wp_putI rfl rfl (Or.inl rfl) rfl (fun h9 => by cases h9) k0 ?_
  exact w
theorem b26_20 {n : Nat} {h : q_Hp} {Q : Option Value → q_Hp → Prop} {x0 : Nat} {x1 : Int32} (q : Q none h) : q_wp n 26 20 [some (.ref x0), some (.int x1)] [] h Q := by
  exact wp_ret rfl rfl q
theorem b27_0 {n : Nat} {h : q_Hp} {Q : Option Value → q_Hp → Prop} {x0 : Nat} {x1 : Int32} {x2 : Int64} (w : q_wp n 27 3 [some (.ref x0), some (.int x1), some (.long x2), none, some (.int 0)] [] h Q) : q_wp n 27 0 [some (.ref x0), some (.int x1), some (.long x2), none, none] [] h Q := by
  refine wp_iconst (v := 0) rfl (by decide) ?_
  refine wp_loc rfl rfl ?_
  exact w
theorem b27_3 {n : Nat} {h : q_Hp} {Q : Option Value → q_Hp → Prop} {x0 : Nat} {x1 : Int32} {x2 : Int64} {x4 : Int32} (wt : x1 ≤ x4 → q_wp n 27 34 [some (.ref x0), some (.int x1), some (.long x2), none, some (.int x4)] [] h Q) (wf : ¬ x1 ≤ x4 → q_wp n 27 9 [some (.ref x0), some (.int x1), some (.long x2), none, some (.int x4)] [] h Q) : q_wp n 27 3 [some (.ref x0), some (.int x1), some (.long x2), none, some (.int x4)] [] h Q := by
  refine wp_loc rfl rfl ?_
  refine wp_loc rfl rfl ?_
  exact wp_icge (tgt := 34) rfl (by decide) wt wf
theorem b27_9 {n : Nat} {h : q_Hp} {Q : Option Value → q_Hp → Prop} {x0 : Nat} {x1 : Int32} {x2 : Int64} {x4 : Int32} {cd0 : Nat} (a0 : q_ok h x0 cd0) (a0c : 20 ≤ cd0 ∧ cd0 ≤ 24) (wt : (Int32.ofNat (qK h x0).2) ≤ x4 → q_wp n 27 34 [some (.ref x0), some (.int x1), some (.long x2), none, some (.int x4)] [] h Q) (wf : ¬ (Int32.ofNat (qK h x0).2) ≤ x4 → q_wp n 27 16 [some (.ref x0), some (.int x1), some (.long x2), none, some (.int x4)] [] h Q) : q_wp n 27 9 [some (.ref x0), some (.int x1), some (.long x2), none, some (.int x4)] [] h Q := by
  refine wp_loc rfl rfl ?_
  refine wp_loc rfl rfl ?_
  refine wp_alen rfl a0 a0c ?_
  exact wp_icge (tgt := 34) rfl (by decide) wt wf
theorem b27_16 {n : Nat} {h : q_Hp} {Q : Option Value → q_Hp → Prop} {x0 : Nat} {x1 : Int32} {x2 : Int64} {x4 : Int32} (k0 : q_ok h x0 21) (i0 : q_in x4 (qK h x0).2) (wt : ¬ (lg_cmp (qL h x0 x4.toNatClampNeg) x2) = 0 → q_wp n 27 28 [some (.ref x0), some (.int x1), some (.long x2), none, some (.int x4)] [] h Q) (wf : (lg_cmp (qL h x0 x4.toNatClampNeg) x2) = 0 → q_wp n 27 25 [some (.ref x0), some (.int x1), some (.long x2), none, some (.int x4)] [] h Q) : q_wp n 27 16 [some (.ref x0), some (.int x1), some (.long x2), none, some (.int x4)] [] h Q := by
  refine wp_loc rfl rfl ?_
  refine wp_loc rfl rfl ?_
  refine wp_lald rfl k0 i0 ?_
  refine wp_loc rfl rfl ?_
  refine wp_stk rfl rfl rfl ?_
  exact wp_ifne (tgt := 28) rfl (by decide) wt wf
theorem b27_25 {n : Nat} {h : q_Hp} {Q : Option Value → q_Hp → Prop} {x0 : Nat} {x1 : Int32} {x2 : Int64} {x4 : Int32} (q : Q (some (.int x4)) h) : q_wp n 27 25 [some (.ref x0), some (.int x1), some (.long x2), none, some (.int x4)] [] h Q := by
  refine wp_loc rfl rfl ?_
  exact wp_ret rfl rfl q
theorem b27_28 {n : Nat} {h : q_Hp} {Q : Option Value → q_Hp → Prop} {x0 : Nat} {x1 : Int32} {x2 : Int64} {x4 : Int32} (w : q_wp n 27 3 [some (.ref x0), some (.int x1), some (.long x2), none, some (.int (x4 + 1))] [] h Q) : q_wp n 27 28 [some (.ref x0), some (.int x1), some (.long x2), none, some (.int x4)] [] h Q := by
  refine wp_iinc (v := 1) rfl rfl (by decide) rfl ?_
  refine wp_goto (tgt := 3) rfl (by decide) ?_
  exact w
theorem b27_34 {n : Nat} {h : q_Hp} {Q : Option Value → q_Hp → Prop} {x0 : Nat} {x1 : Int32} {x2 : Int64} {x4 : Int32} (q : Q (some (.int (-1))) h) : q_wp n 27 34 [some (.ref x0), some (.int x1), some (.long x2), none, some (.int x4)] [] h Q := by
  refine wp_iconst (v := (-1)) rfl (by decide) ?_
  exact wp_ret rfl rfl q
theorem b28_0 {n : Nat} {h : q_Hp} {Q : Option Value → q_Hp → Prop} {x0 : Nat} {v0 : Nat} {v1 : Nat} {v2 : Nat} (k0 : q_ok h x0 1) (e0 : qR h x0 2 = v0) (e1 : qR h x0 12 = v1) (k1 : q_ok h v1 0) (e2 : qR h x0 0 = v2) {m : Nat} {P : Int64 → q_Hp → Prop} (hc : q_mJ m 190 [.ref v2, .int (qI h x0 14)] h P) (hm : m ≤ n) (w : ∀ (z : Int64) (h1 : q_Hp), P z h1 → q_wp (n + 1) 28 22 [some (.ref x0), none] [.long z, .int (qI h v1 0), .ref v0] h1 Q) : q_wp (n + 1) 28 0 [some (.ref x0), none] [] h Q := by
  refine wp_loc rfl rfl ?_
  refine wp_getR rfl rfl rfl rfl k0 e0 ?_
  refine wp_loc rfl rfl ?_
  refine wp_getR rfl rfl rfl rfl k0 e1 ?_
  refine wp_getI rfl rfl rfl k1 ?_
  refine wp_loc rfl rfl ?_
  refine wp_getR rfl rfl rfl rfl k0 e2 ?_
  refine wp_loc rfl rfl ?_
  refine wp_getI rfl rfl rfl k0 ?_
  exact wp_callJ (av := [.ref v2, .int (qI h x0 14)]) rfl rfl rfl (by decide) rfl rfl rfl hm hc w
theorem b28_22 {n : Nat} {h : q_Hp} {Q : Option Value → q_Hp → Prop} {x0 : Nat} {s0 : Int64} {s1 : Int32} {s2 : Nat} {m : Nat} {P : Int32 → q_Hp → Prop} (hc : q_mI m 27 [.ref s2, .int s1, .long s0] h P) (hm : m ≤ n) (w : ∀ (z : Int32) (h1 : q_Hp), P z h1 → q_wp (n + 1) 28 25 [some (.ref x0), none] [.int z] h1 Q) : q_wp (n + 1) 28 22 [some (.ref x0), none] [.long s0, .int s1, .ref s2] h Q := by
  exact wp_callI (av := [.ref s2, .int s1, .long s0]) rfl rfl rfl (by decide) rfl rfl rfl hm hc w
theorem b28_25 {n : Nat} {h : q_Hp} {Q : Option Value → q_Hp → Prop} {x0 : Nat} {s0 : Int32} (wt : ¬ s0 = (-1) → q_wp n 28 36 [some (.ref x0), some (.int s0)] [] h Q) (wf : s0 = (-1) → q_wp n 28 31 [some (.ref x0), some (.int s0)] [] h Q) : q_wp n 28 25 [some (.ref x0), none] [.int s0] h Q := by
  refine wp_loc rfl rfl ?_
  refine wp_loc rfl rfl ?_
  refine wp_iconst (v := (-1)) rfl (by decide) ?_
  exact wp_icne (tgt := 36) rfl (by decide) wt wf
theorem b28_31 {n : Nat} {h : q_Hp} {Q : Option Value → q_Hp → Prop} {x0 : Nat} {x1 : Int32} {m : Nat} {P : q_Hp → Prop} (hc : q_mV m 26 [.ref x0, .int 4] h P) (hm : m ≤ n) (w : ∀ h1 : q_Hp, P h1 → q_wp (n + 1) 28 36 [some (.ref x0), some (.int x1)] [] h1 Q) : q_wp (n + 1) 28 31 [some (.ref x0), some (.int x1)] [] h Q := by
  refine wp_loc rfl rfl ?_
  refine wp_iconst (v := 4) rfl (by decide) ?_
  exact wp_callV (av := [.ref x0, .int 4]) rfl rfl rfl (by decide) rfl rfl rfl hm hc w
theorem b28_36 {n : Nat} {h : q_Hp} {Q : Option Value → q_Hp → Prop} {x0 : Nat} {x1 : Int32} (k0 : q_ok h x0 1) (q : Q (some (.int x1)) (q_sI h x0 14 ((qI h x0 14) + 1))) : q_wp n 28 36 [some (.ref x0), some (.int x1)] [] h Q := by
  refine wp_loc rfl rfl ?_
  refine wp_stk rfl rfl rfl ?_
  refine wp_getI rfl rfl rfl k0 ?_
  refine wp_iconst (v := 1) rfl (by decide) ?_
  refine wp_stk rfl rfl rfl ?_
  refine wp_putI rfl rfl (Or.inl rfl) rfl (fun h9 => by cases h9) k0 ?_
  refine wp_loc rfl rfl ?_
  exact wp_ret rfl rfl q
theorem b29_0 {n : Nat} {h : q_Hp} {Q : Option Value → q_Hp → Prop} {x0 : Nat} {v0 : Nat} {v1 : Nat} {v2 : Nat} (k0 : q_ok h x0 1) (e0 : qR h x0 3 = v0) (e1 : qR h x0 12 = v1) (k1 : q_ok h v1 0) (e2 : qR h x0 0 = v2) {m : Nat} {P : Int64 → q_Hp → Prop} (hc : q_mJ m 190 [.ref v2, .int (qI h x0 14)] h P) (hm : m ≤ n) (w : ∀ (z : Int64) (h1 : q_Hp), P z h1 → q_wp (n + 1) 29 22 [some (.ref x0), none] [.long z, .int (qI h v1 1), .ref v0] h1 Q) : q_wp (n + 1) 29 0 [some (.ref x0), none] [] h Q := by
  refine wp_loc rfl rfl ?_
  refine wp_getR rfl rfl rfl rfl k0 e0 ?_
  refine wp_loc rfl rfl ?_
  refine wp_getR rfl rfl rfl rfl k0 e1 ?_
  refine wp_getI rfl rfl rfl k1 ?_
  refine wp_loc rfl rfl ?_
  refine wp_getR rfl rfl rfl rfl k0 e2 ?_
  refine wp_loc rfl rfl ?_
  refine wp_getI rfl rfl rfl k0 ?_
  exact wp_callJ (av := [.ref v2, .int (qI h x0 14)]) rfl rfl rfl (by decide) rfl rfl rfl hm hc w
theorem b29_22 {n : Nat} {h : q_Hp} {Q : Option Value → q_Hp → Prop} {x0 : Nat} {s0 : Int64} {s1 : Int32} {s2 : Nat} {m : Nat} {P : Int32 → q_Hp → Prop} (hc : q_mI m 27 [.ref s2, .int s1, .long s0] h P) (hm : m ≤ n) (w : ∀ (z : Int32) (h1 : q_Hp), P z h1 → q_wp (n + 1) 29 25 [some (.ref x0), none] [.int z] h1 Q) : q_wp (n + 1) 29 22 [some (.ref x0), none] [.long s0, .int s1, .ref s2] h Q := by
  exact wp_callI (av := [.ref s2, .int s1, .long s0]) rfl rfl rfl (by decide) rfl rfl rfl hm hc w
theorem b29_25 {n : Nat} {h : q_Hp} {Q : Option Value → q_Hp → Prop} {x0 : Nat} {s0 : Int32} (wt : ¬ s0 = (-1) → q_wp n 29 36 [some (.ref x0), some (.int s0)] [] h Q) (wf : s0 = (-1) → q_wp n 29 31 [some (.ref x0), some (.int s0)] [] h Q) : q_wp n 29 25 [some (.ref x0), none] [.int s0] h Q := by
  refine wp_loc rfl rfl ?_
  refine wp_loc rfl rfl ?_
  refine wp_iconst (v := (-1)) rfl (by decide) ?_
  exact wp_icne (tgt := 36) rfl (by decide) wt wf
theorem b29_31 {n : Nat} {h : q_Hp} {Q : Option Value → q_Hp → Prop} {x0 : Nat} {x1 : Int32} {m : Nat} {P : q_Hp → Prop} (hc : q_mV m 26 [.ref x0, .int 4] h P) (hm : m ≤ n) (w : ∀ h1 : q_Hp, P h1 → q_wp (n + 1) 29 36 [some (.ref x0), some (.int x1)] [] h1 Q) : q_wp (n + 1) 29 31 [some (.ref x0), some (.int x1)] [] h Q := by
  refine wp_loc rfl rfl ?_
  refine wp_iconst (v := 4) rfl (by decide) ?_
  exact wp_callV (av := [.ref x0, .int 4]) rfl rfl rfl (by decide) rfl rfl rfl hm hc w
theorem b29_36 {n : Nat} {h : q_Hp} {Q : Option Value → q_Hp → Prop} {x0 : Nat} {x1 : Int32} (k0 : q_ok h x0 1) (q : Q (some (.int x1)) (q_sI h x0 14 ((qI h x0 14) + 1))) : q_wp n 29 36 [some (.ref x0), some (.int x1)] [] h Q := by
  refine wp_loc rfl rfl ?_
  refine wp_stk rfl rfl rfl ?_
  refine wp_getI rfl rfl rfl k0 ?_
  refine wp_iconst (v := 1) rfl (by decide) ?_
  refine wp_stk rfl rfl rfl ?_
  refine wp_putI rfl rfl (Or.inl rfl) rfl (fun h9 => by cases h9) k0 ?_
  refine wp_loc rfl rfl ?_
  exact wp_ret rfl rfl q
theorem b30_0 {n : Nat} {h : q_Hp} {Q : Option Value → q_Hp → Prop} {x0 : Nat} {v0 : Nat} (k0 : q_ok h x0 1) (e0 : qR h x0 0 = v0) {m : Nat} {P : Int64 → q_Hp → Prop} (hc : q_mJ m 190 [.ref v0, .int (qI (q_sI h x0 14 ((qI h x0 14) + 1)) x0 14)] (q_sI h x0 14 ((qI h x0 14) + 1)) P) (hm : m ≤ n) (w : ∀ (z : Int64) (h1 : q_Hp), P z h1 → q_wp (n + 1) 30 21 [some (.ref x0), none, none, none] [.long z] h1 Q) : q_wp (n + 1) 30 0 [some (.ref x0), none, none, none] [] h Q := by
  refine wp_loc rfl rfl ?_
  refine wp_stk rfl rfl rfl ?_
  refine wp_getI rfl rfl rfl k0 ?_
  refine wp_iconst (v := 1) rfl (by decide) ?_
  refine wp_stk rfl rfl rfl ?_
  refine wp_putI rfl rfl (Or.inl rfl) rfl (fun h9 => by cases h9) k0 ?_
  refine wp_loc rfl rfl ?_
  refine wp_getR rfl rfl rfl rfl k0 e0 ?_
  refine wp_loc rfl rfl ?_
  refine wp_getI rfl rfl rfl k0 ?_
  exact wp_callJ (av := [.ref v0, .int (qI (q_sI h x0 14 ((qI h x0 14) + 1)) x0 14)]) rfl rfl rfl (by decide) rfl rfl rfl hm hc w
theorem b30_21 {n : Nat} {h : q_Hp} {Q : Option Value → q_Hp → Prop} {x0 : Nat} {s0 : Int64} {v0 : Nat} {v1 : Nat} (k0 : q_ok h x0 1) (e0 : qR h x0 2 = v0) (e1 : qR h x0 12 = v1) (k1 : q_ok h v1 0) {m : Nat} {P : Int32 → q_Hp → Prop} (hc : q_mI m 27 [.ref v0, .int (qI h v1 0), .long s0] h P) (hm : m ≤ n) (w : ∀ (z : Int32) (h1 : q_Hp), P z h1 → q_wp (n + 1) 30 37 [some (.ref x0), some (.long s0), none, none] [.int z] h1 Q) : q_wp (n + 1) 30 21 [some (.ref x0), none, none, none] [.long s0] h Q := by
  refine wp_loc rfl rfl ?_
  refine wp_loc rfl rfl ?_
  refine wp_getR rfl rfl rfl rfl k0 e0 ?_
  refine wp_loc rfl rfl ?_
  refine wp_getR rfl rfl rfl rfl k0 e1 ?_
  refine wp_getI rfl rfl rfl k1 ?_
  refine wp_loc rfl rfl ?_
  exact wp_callI (av := [.ref v0, .int (qI h v1 0), .long s0]) rfl rfl rfl (by decide) rfl rfl rfl hm hc w
theorem b30_37 {n : Nat} {h : q_Hp} {Q : Option Value → q_Hp → Prop} {x0 : Nat} {x1 : Int64} {s0 : Int32} (wt : s0 = (-1) → q_wp n 30 46 [some (.ref x0), some (.long x1), none, none] [] h Q) (wf : ¬ s0 = (-1) → q_wp n 30 41 [some (.ref x0), some (.long x1), none, none] [] h Q) : q_wp n 30 37 [some (.ref x0), some (.long x1), none, none] [.int s0] h Q := by
  refine wp_iconst (v := (-1)) rfl (by decide) ?_
  exact wp_iceq (tgt := 46) rfl (by decide) wt wf
theorem b30_41 {n : Nat} {h : q_Hp} {Q : Option Value → q_Hp → Prop} {x0 : Nat} {x1 : Int64} {m : Nat} {P : q_Hp → Prop} (hc : q_mV m 26 [.ref x0, .int 3] h P) (hm : m ≤ n) (w : ∀ h1 : q_Hp, P h1 → q_wp (n + 1) 30 46 [some (.ref x0), some (.long x1), none, none] [] h1 Q) : q_wp (n + 1) 30 41 [some (.ref x0), some (.long x1), none, none] [] h Q := by
  refine wp_loc rfl rfl ?_
  refine wp_iconst (v := 3) rfl (by decide) ?_
  exact wp_callV (av := [.ref x0, .int 3]) rfl rfl rfl (by decide) rfl rfl rfl hm hc w
theorem b30_46 {n : Nat} {h : q_Hp} {Q : Option Value → q_Hp → Prop} {x0 : Nat} {x1 : Int64} (k0 : q_ok h x0 1) {m : Nat} {P : Int32 → q_Hp → Prop} (hc : q_mI m 25 [.ref x0] (q_sI h x0 14 ((qI h x0 14) + 1)) P) (hm : m ≤ n) (w : ∀ (z : Int32) (h1 : q_Hp), P z h1 → q_wp (n + 1) 30 62 [some (.ref x0), some (.long x1), none, some (.int (-1))] [.int z] h1 Q) : q_wp (n + 1) 30 46 [some (.ref x0), some (.long x1), none, none] [] h Q := by
  refine wp_loc rfl rfl ?_
  refine wp_stk rfl rfl rfl ?_
  refine wp_getI rfl rfl rfl k0 ?_
  refine wp_iconst (v := 1) rfl (by decide) ?_
  refine wp_stk rfl rfl rfl ?_
  refine wp_putI rfl rfl (Or.inl rfl) rfl (fun h9 => by cases h9) k0 ?_
  refine wp_iconst (v := (-1)) rfl (by decide) ?_
  refine wp_loc rfl rfl ?_
  refine wp_loc rfl rfl ?_
  exact wp_callI (av := [.ref x0]) rfl rfl rfl (by decide) rfl rfl rfl hm hc w
theorem b30_62 {n : Nat} {h : q_Hp} {Q : Option Value → q_Hp → Prop} {x0 : Nat} {x1 : Int64} {x3 : Int32} {s0 : Int32} (wt : ¬ s0 = 1 → q_wp n 30 81 [some (.ref x0), some (.long x1), none, some (.int x3)] [] h Q) (wf : s0 = 1 → q_wp n 30 66 [some (.ref x0), some (.long x1), none, some (.int x3)] [] h Q) : q_wp n 30 62 [some (.ref x0), some (.long x1), none, some (.int x3)] [.int s0] h Q := by
  refine wp_iconst (v := 1) rfl (by decide) ?_
  exact wp_icne (tgt := 81) rfl (by decide) wt wf
theorem b30_66 {n : Nat} {h : q_Hp} {Q : Option Value → q_Hp → Prop} {x0 : Nat} {x1 : Int64} {x3 : Int32} (k0 : q_ok h x0 1) {m : Nat} {P : Int32 → q_Hp → Prop} (hc : q_mI m 28 [.ref x0] (q_sI h x0 14 ((qI h x0 14) + 1)) P) (hm : m ≤ n) (w : ∀ (z : Int32) (h1 : q_Hp), P z h1 → q_wp (n + 1) 30 80 [some (.ref x0), some (.long x1), none, some (.int x3)] [.int z] h1 Q) : q_wp (n + 1) 30 66 [some (.ref x0), some (.long x1), none, some (.int x3)] [] h Q := by
  refine wp_loc rfl rfl ?_
  refine wp_stk rfl rfl rfl ?_
  refine wp_getI rfl rfl rfl k0 ?_
  refine wp_iconst (v := 1) rfl (by decide) ?_
  refine wp_stk rfl rfl rfl ?_
  refine wp_putI rfl rfl (Or.inl rfl) rfl (fun h9 => by cases h9) k0 ?_
  refine wp_loc rfl rfl ?_
  exact wp_callI (av := [.ref x0]) rfl rfl rfl (by decide) rfl rfl rfl hm hc w
theorem b30_80 {n : Nat} {h : q_Hp} {Q : Option Value → q_Hp → Prop} {x0 : Nat} {x1 : Int64} {x3 : Int32} {s0 : Int32} (w : q_wp n 30 81 [some (.ref x0), some (.long x1), none, some (.int s0)] [] h Q) : q_wp n 30 80 [some (.ref x0), some (.long x1), none, some (.int x3)] [.int s0] h Q := by
  refine wp_loc rfl rfl ?_
  exact w
theorem b30_81 {n : Nat} {h : q_Hp} {Q : Option Value → q_Hp → Prop} {x0 : Nat} {x1 : Int64} {x3 : Int32} {v0 : Nat} (k0 : q_ok h x0 1) (e0 : qR h x0 12 = v0) (k1 : q_ok h v0 0) (wt : 12 ≤ (qI h v0 0) → q_wp n 30 106 [some (.ref x0), some (.long x1), none, some (.int x3)] [] h Q) (wf : ¬ 12 ≤ (qI h v0 0) → q_wp n 30 93 [some (.ref x0), some (.long x1), none, some (.int x3)] [] h Q) : q_wp n 30 81 [some (.ref x0), some (.long x1), none, some (.int x3)] [] h Q := by
  refine wp_loc rfl rfl ?_
  refine wp_getR rfl rfl rfl rfl k0 e0 ?_
  refine wp_getI rfl rfl rfl k1 ?_
  refine wp_bipush (v := 12) rfl (by decide) ?_
  exact wp_icge (tgt := 106) rfl (by decide) wt wf
theorem b30_93 {n : Nat} {h : q_Hp} {Q : Option Value → q_Hp → Prop} {x0 : Nat} {x1 : Int64} {x3 : Int32} {v0 : Nat} {v1 : Nat} (k0 : q_ok h x0 1) (e0 : qR h x0 2 = v0) (e1 : qR h x0 12 = v1) (k1 : q_ok h v1 0) (k2 : q_ok h v0 21) (i0 : q_in (qI h v1 0) (qK h v0).2) (w : q_wp n 30 106 [some (.ref x0), some (.long x1), none, some (.int x3)] [] (q_sL h v0 ((qI h v1 0 : Int32).toNatClampNeg) x1) Q) : q_wp n 30 93 [some (.ref x0), some (.long x1), none, some (.int x3)] [] h Q := by
  refine wp_loc rfl rfl ?_
  refine wp_getR rfl rfl rfl rfl k0 e0 ?_
  refine wp_loc rfl rfl ?_
  refine wp_getR rfl rfl rfl rfl k0 e1 ?_
  refine wp_getI rfl rfl rfl k1 ?_
  refine wp_loc rfl rfl ?_
  refine wp_last rfl k2 i0 ?_
  exact w
theorem b30_106 {n : Nat} {h : q_Hp} {Q : Option Value → q_Hp → Prop} {x0 : Nat} {x1 : Int64} {x3 : Int32} {v0 : Nat} (k0 : q_ok h x0 1) (e0 : qR h x0 12 = v0) {m : Nat} {P : q_Hp → Prop} (hc : q_mV m 11 [.ref v0, .int x3] h P) (hm : m ≤ n) (w : ∀ h1 : q_Hp, P h1 → q_wp (n + 1) 30 114 [some (.ref x0), some (.long x1), none, some (.int x3)] [] h1 Q) : q_wp (n + 1) 30 106 [some (.ref x0), some (.long x1), none, some (.int x3)] [] h Q := by
  refine wp_loc rfl rfl ?_
  refine wp_getR rfl rfl rfl rfl k0 e0 ?_
  refine wp_loc rfl rfl ?_
  exact wp_callV (av := [.ref v0, .int x3]) rfl rfl rfl (by decide) rfl rfl rfl hm hc w
theorem b30_114 {n : Nat} {h : q_Hp} {Q : Option Value → q_Hp → Prop} {x0 : Nat} {x1 : Int64} {x3 : Int32} (k0 : q_ok h x0 1) (q : Q none (q_sI h x0 14 ((qI h x0 14) + 1))) : q_wp n 30 114 [some (.ref x0), some (.long x1), none, some (.int x3)] [] h Q := by
  refine wp_loc rfl rfl ?_
  refine wp_stk rfl rfl rfl ?_
  refine wp_getI rfl rfl rfl k0 ?_
  refine wp_iconst (v := 1) rfl (by decide) ?_
  refine wp_stk rfl rfl rfl ?_
  refine wp_putI rfl rfl (Or.inl rfl) rfl (fun h9 => by cases h9) k0 ?_
  exact wp_ret rfl rfl q
theorem b31_0 {n : Nat} {h : q_Hp} {Q : Option Value → q_Hp → Prop} {x0 : Nat} {v0 : Nat} (k0 : q_ok h x0 1) (e0 : qR h x0 0 = v0) {m : Nat} {P : Int64 → q_Hp → Prop} (hc : q_mJ m 190 [.ref v0, .int (qI (q_sI h x0 14 ((qI h x0 14) + 1)) x0 14)] (q_sI h x0 14 ((qI h x0 14) + 1)) P) (hm : m ≤ n) (w : ∀ (z : Int64) (h1 : q_Hp), P z h1 → q_wp (n + 1) 31 21 [some (.ref x0), none, none, none, none] [.long z] h1 Q) : q_wp (n + 1) 31 0 [some (.ref x0), none, none, none, none] [] h Q := by
  refine wp_loc rfl rfl ?_
  refine wp_stk rfl rfl rfl ?_
  refine wp_getI rfl rfl rfl k0 ?_
  refine wp_iconst (v := 1) rfl (by decide) ?_
  refine wp_stk rfl rfl rfl ?_
  refine wp_putI rfl rfl (Or.inl rfl) rfl (fun h9 => by cases h9) k0 ?_
  refine wp_loc rfl rfl ?_
  refine wp_getR rfl rfl rfl rfl k0 e0 ?_
  refine wp_loc rfl rfl ?_
  refine wp_getI rfl rfl rfl k0 ?_
  exact wp_callJ (av := [.ref v0, .int (qI (q_sI h x0 14 ((qI h x0 14) + 1)) x0 14)]) rfl rfl rfl (by decide) rfl rfl rfl hm hc w
theorem b31_21 {n : Nat} {h : q_Hp} {Q : Option Value → q_Hp → Prop} {x0 : Nat} {s0 : Int64} {v0 : Nat} {v1 : Nat} (k0 : q_ok h x0 1) (e0 : qR h x0 3 = v0) (e1 : qR h x0 12 = v1) (k1 : q_ok h v1 0) {m : Nat} {P : Int32 → q_Hp → Prop} (hc : q_mI m 27 [.ref v0, .int (qI h v1 1), .long s0] h P) (hm : m ≤ n) (w : ∀ (z : Int32) (h1 : q_Hp), P z h1 → q_wp (n + 1) 31 37 [some (.ref x0), some (.long s0), none, none, none] [.int z] h1 Q) : q_wp (n + 1) 31 21 [some (.ref x0), none, none, none, none] [.long s0] h Q := by
  refine wp_loc rfl rfl ?_
  refine wp_loc rfl rfl ?_
  refine wp_getR rfl rfl rfl rfl k0 e0 ?_
  refine wp_loc rfl rfl ?_
  refine wp_getR rfl rfl rfl rfl k0 e1 ?_
  refine wp_getI rfl rfl rfl k1 ?_
  refine wp_loc rfl rfl ?_
  exact wp_callI (av := [.ref v0, .int (qI h v1 1), .long s0]) rfl rfl rfl (by decide) rfl rfl rfl hm hc w
theorem b31_37 {n : Nat} {h : q_Hp} {Q : Option Value → q_Hp → Prop} {x0 : Nat} {x1 : Int64} {s0 : Int32} (wt : s0 = (-1) → q_wp n 31 46 [some (.ref x0), some (.long x1), none, none, none] [] h Q) (wf : ¬ s0 = (-1) → q_wp n 31 41 [some (.ref x0), some (.long x1), none, none, none] [] h Q) : q_wp n 31 37 [some (.ref x0), some (.long x1), none, none, none] [.int s0] h Q := by
  refine wp_iconst (v := (-1)) rfl (by decide) ?_
  exact wp_iceq (tgt := 46) rfl (by decide) wt wf
theorem b31_41 {n : Nat} {h : q_Hp} {Q : Option Value → q_Hp → Prop} {x0 : Nat} {x1 : Int64} {m : Nat} {P : q_Hp → Prop} (hc : q_mV m 26 [.ref x0, .int 3] h P) (hm : m ≤ n) (w : ∀ h1 : q_Hp, P h1 → q_wp (n + 1) 31 46 [some (.ref x0), some (.long x1), none, none, none] [] h1 Q) : q_wp (n + 1) 31 41 [some (.ref x0), some (.long x1), none, none, none] [] h Q := by
  refine wp_loc rfl rfl ?_
  refine wp_iconst (v := 3) rfl (by decide) ?_
  exact wp_callV (av := [.ref x0, .int 3]) rfl rfl rfl (by decide) rfl rfl rfl hm hc w
theorem b31_46 {n : Nat} {h : q_Hp} {Q : Option Value → q_Hp → Prop} {x0 : Nat} {x1 : Int64} (k0 : q_ok h x0 1) {m : Nat} {P : Int32 → q_Hp → Prop} (hc : q_mI m 28 [.ref x0] (q_sI h x0 14 ((qI h x0 14) + 2)) P) (hm : m ≤ n) (w : ∀ (z : Int32) (h1 : q_Hp), P z h1 → q_wp (n + 1) 31 60 [some (.ref x0), some (.long x1), none, none, none] [.int z] h1 Q) : q_wp (n + 1) 31 46 [some (.ref x0), some (.long x1), none, none, none] [] h Q := by
  refine wp_loc rfl rfl ?_
  refine wp_stk rfl rfl rfl ?_
  refine wp_getI rfl rfl rfl k0 ?_
  refine wp_iconst (v := 2) rfl (by decide) ?_
  refine wp_stk rfl rfl rfl ?_
  refine wp_putI rfl rfl (Or.inl rfl) rfl (fun h9 => by cases h9) k0 ?_
  refine wp_loc rfl rfl ?_
  exact wp_callI (av := [.ref x0]) rfl rfl rfl (by decide) rfl rfl rfl hm hc w
theorem b31_60 {n : Nat} {h : q_Hp} {Q : Option Value → q_Hp → Prop} {x0 : Nat} {x1 : Int64} {s0 : Int32} (k0 : q_ok h x0 1) {m : Nat} {P : Int32 → q_Hp → Prop} (hc : q_mI m 28 [.ref x0] (q_sI h x0 14 ((qI h x0 14) + 1)) P) (hm : m ≤ n) (w : ∀ (z : Int32) (h1 : q_Hp), P z h1 → q_wp (n + 1) 31 75 [some (.ref x0), some (.long x1), none, some (.int s0), none] [.int z] h1 Q) : q_wp (n + 1) 31 60 [some (.ref x0), some (.long x1), none, none, none] [.int s0] h Q := by
  refine wp_loc rfl rfl ?_
  refine wp_loc rfl rfl ?_
  refine wp_stk rfl rfl rfl ?_
  refine wp_getI rfl rfl rfl k0 ?_
  refine wp_iconst (v := 1) rfl (by decide) ?_
  refine wp_stk rfl rfl rfl ?_
  refine wp_putI rfl rfl (Or.inl rfl) rfl (fun h9 => by cases h9) k0 ?_
  refine wp_loc rfl rfl ?_
  exact wp_callI (av := [.ref x0]) rfl rfl rfl (by decide) rfl rfl rfl hm hc w
theorem b31_75 {n : Nat} {h : q_Hp} {Q : Option Value → q_Hp → Prop} {x0 : Nat} {x1 : Int64} {x3 : Int32} {s0 : Int32} {v0 : Nat} (k0 : q_ok h x0 1) (e0 : qR h x0 12 = v0) (k1 : q_ok h v0 0) (wt : 12 ≤ (qI h v0 1) → q_wp n 31 102 [some (.ref x0), some (.long x1), none, some (.int x3), some (.int s0)] [] h Q) (wf : ¬ 12 ≤ (qI h v0 1) → q_wp n 31 89 [some (.ref x0), some (.long x1), none, some (.int x3), some (.int s0)] [] h Q) : q_wp n 31 75 [some (.ref x0), some (.long x1), none, some (.int x3), none] [.int s0] h Q := by
  refine wp_loc rfl rfl ?_
  refine wp_loc rfl rfl ?_
  refine wp_getR rfl rfl rfl rfl k0 e0 ?_
  refine wp_getI rfl rfl rfl k1 ?_
  refine wp_bipush (v := 12) rfl (by decide) ?_
  exact wp_icge (tgt := 102) rfl (by decide) wt wf
theorem b31_89 {n : Nat} {h : q_Hp} {Q : Option Value → q_Hp → Prop} {x0 : Nat} {x1 : Int64} {x3 : Int32} {x4 : Int32} {v0 : Nat} {v1 : Nat} (k0 : q_ok h x0 1) (e0 : qR h x0 3 = v0) (e1 : qR h x0 12 = v1) (k1 : q_ok h v1 0) (k2 : q_ok h v0 21) (i0 : q_in (qI h v1 1) (qK h v0).2) (w : q_wp n 31 102 [some (.ref x0), some (.long x1), none, some (.int x3), some (.int x4)] [] (q_sL h v0 ((qI h v1 1 : Int32).toNatClampNeg) x1) Q) : q_wp n 31 89 [some (.ref x0), some (.long x1), none, some (.int x3), some (.int x4)] [] h Q := by
  refine wp_loc rfl rfl ?_
  refine wp_getR rfl rfl rfl rfl k0 e0 ?_
  refine wp_loc rfl rfl ?_
  refine wp_getR rfl rfl rfl rfl k0 e1 ?_
  refine wp_getI rfl rfl rfl k1 ?_
  refine wp_loc rfl rfl ?_
  refine wp_last rfl k2 i0 ?_
  exact w
theorem b31_102 {n : Nat} {h : q_Hp} {Q : Option Value → q_Hp → Prop} {x0 : Nat} {x1 : Int64} {x3 : Int32} {x4 : Int32} {v0 : Nat} (k0 : q_ok h x0 1) (e0 : qR h x0 12 = v0) {m : Nat} {P : q_Hp → Prop} (hc : q_mV m 12 [.ref v0, .int x3, .int x4] h P) (hm : m ≤ n) (w : ∀ h1 : q_Hp, P h1 → q_wp (n + 1) 31 112 [some (.ref x0), some (.long x1), none, some (.int x3), some (.int x4)] [] h1 Q) : q_wp (n + 1) 31 102 [some (.ref x0), some (.long x1), none, some (.int x3), some (.int x4)] [] h Q := by
  refine wp_loc rfl rfl ?_
  refine wp_getR rfl rfl rfl rfl k0 e0 ?_
  refine wp_loc rfl rfl ?_
  refine wp_loc rfl rfl ?_
  exact wp_callV (av := [.ref v0, .int x3, .int x4]) rfl rfl rfl (by decide) rfl rfl rfl hm hc w
theorem b31_112 {n : Nat} {h : q_Hp} {Q : Option Value → q_Hp → Prop} {x0 : Nat} {x1 : Int64} {x3 : Int32} {x4 : Int32} (k0 : q_ok h x0 1) (q : Q none (q_sI h x0 14 ((qI h x0 14) + 1))) : q_wp n 31 112 [some (.ref x0), some (.long x1), none, some (.int x3), some (.int x4)] [] h Q := by
  refine wp_loc rfl rfl ?_
  refine wp_stk rfl rfl rfl ?_
  refine wp_getI rfl rfl rfl k0 ?_
  refine wp_iconst (v := 1) rfl (by decide) ?_
  refine wp_stk rfl rfl rfl ?_
  refine wp_putI rfl rfl (Or.inl rfl) rfl (fun h9 => by cases h9) k0 ?_
  exact wp_ret rfl rfl q
theorem b32_0 {n : Nat} {h : q_Hp} {Q : Option Value → q_Hp → Prop} {x0 : Nat} {v0 : Nat} (k0 : q_ok h x0 1) (e0 : qR h x0 0 = v0) {m : Nat} {P : Int64 → q_Hp → Prop} (hc : q_mJ m 190 [.ref v0, .int (qI h x0 14)] h P) (hm : m ≤ n) (w : ∀ (z : Int64) (h1 : q_Hp), P z h1 → q_wp (n + 1) 32 11 [some (.ref x0), none, none, none] [.long z] h1 Q) : q_wp (n + 1) 32 0 [some (.ref x0), none, none, none] [] h Q := by
  refine wp_loc rfl rfl ?_
  refine wp_getR rfl rfl rfl rfl k0 e0 ?_
  refine wp_loc rfl rfl ?_
  refine wp_getI rfl rfl rfl k0 ?_
  exact wp_callJ (av := [.ref v0, .int (qI h x0 14)]) rfl rfl rfl (by decide) rfl rfl rfl hm hc w
theorem b32_11 {n : Nat} {h : q_Hp} {Q : Option Value → q_Hp → Prop} {x0 : Nat} {s0 : Int64} (w : q_wp n 32 14 [some (.ref x0), some (.long s0), none, some (.int 0)] [] h Q) : q_wp n 32 11 [some (.ref x0), none, none, none] [.long s0] h Q := by
  refine wp_loc rfl rfl ?_
  refine wp_iconst (v := 0) rfl (by decide) ?_
  refine wp_loc rfl rfl ?_
  exact w
theorem b32_14 {n : Nat} {h : q_Hp} {Q : Option Value → q_Hp → Prop} {x0 : Nat} {x1 : Int64} {x3 : Int32} {v0 : Nat} (k0 : q_ok h x0 1) (e0 : qR h x0 12 = v0) (k1 : q_ok h v0 0) (wt : (qI h v0 2) ≤ x3 → q_wp n 32 49 [some (.ref x0), some (.long x1), none, some (.int x3)] [] h Q) (wf : ¬ (qI h v0 2) ≤ x3 → q_wp n 32 25 [some (.ref x0), some (.long x1), none, some (.int x3)] [] h Q) : q_wp n 32 14 [some (.ref x0), some (.long x1), none, some (.int x3)] [] h Q := by
  refine wp_loc rfl rfl ?_
  refine wp_loc rfl rfl ?_
  refine wp_getR rfl rfl rfl rfl k0 e0 ?_
  refine wp_getI rfl rfl rfl k1 ?_
  exact wp_icge (tgt := 49) rfl (by decide) wt wf
theorem b32_25 {n : Nat} {h : q_Hp} {Q : Option Value → q_Hp → Prop} {x0 : Nat} {x1 : Int64} {x3 : Int32} {v0 : Nat} (k0 : q_ok h x0 1) (e0 : qR h x0 1 = v0) {m : Nat} {P : Int64 → q_Hp → Prop} (hc : q_mJ m 165 [.ref v0, .int x3] h P) (hm : m ≤ n) (w : ∀ (z : Int64) (h1 : q_Hp), P z h1 → q_wp (n + 1) 32 33 [some (.ref x0), some (.long x1), none, some (.int x3)] [.long z] h1 Q) : q_wp (n + 1) 32 25 [some (.ref x0), some (.long x1), none, some (.int x3)] [] h Q := by
  refine wp_loc rfl rfl ?_
  refine wp_getR rfl rfl rfl rfl k0 e0 ?_
  refine wp_loc rfl rfl ?_
  exact wp_callJ (av := [.ref v0, .int x3]) rfl rfl rfl (by decide) rfl rfl rfl hm hc w
theorem b32_33 {n : Nat} {h : q_Hp} {Q : Option Value → q_Hp → Prop} {x0 : Nat} {x1 : Int64} {x3 : Int32} {s0 : Int64} (wt : ¬ (lg_cmp s0 x1) = 0 → q_wp n 32 43 [some (.ref x0), some (.long x1), none, some (.int x3)] [] h Q) (wf : (lg_cmp s0 x1) = 0 → q_wp n 32 38 [some (.ref x0), some (.long x1), none, some (.int x3)] [] h Q) : q_wp n 32 33 [some (.ref x0), some (.long x1), none, some (.int x3)] [.long s0] h Q := by
  refine wp_loc rfl rfl ?_
  refine wp_stk rfl rfl rfl ?_
  exact wp_ifne (tgt := 43) rfl (by decide) wt wf
theorem b32_38 {n : Nat} {h : q_Hp} {Q : Option Value → q_Hp → Prop} {x0 : Nat} {x1 : Int64} {x3 : Int32} {m : Nat} {P : q_Hp → Prop} (hc : q_mV m 26 [.ref x0, .int 3] h P) (hm : m ≤ n) (w : ∀ h1 : q_Hp, P h1 → q_wp (n + 1) 32 43 [some (.ref x0), some (.long x1), none, some (.int x3)] [] h1 Q) : q_wp (n + 1) 32 38 [some (.ref x0), some (.long x1), none, some (.int x3)] [] h Q := by
  refine wp_loc rfl rfl ?_
  refine wp_iconst (v := 3) rfl (by decide) ?_
  exact wp_callV (av := [.ref x0, .int 3]) rfl rfl rfl (by decide) rfl rfl rfl hm hc w
theorem b32_43 {n : Nat} {h : q_Hp} {Q : Option Value → q_Hp → Prop} {x0 : Nat} {x1 : Int64} {x3 : Int32} (w : q_wp n 32 14 [some (.ref x0), some (.long x1), none, some (.int (x3 + 1))] [] h Q) : q_wp n 32 43 [some (.ref x0), some (.long x1), none, some (.int x3)] [] h Q := by
  refine wp_iinc (v := 1) rfl rfl (by decide) rfl ?_
  refine wp_goto (tgt := 14) rfl (by decide) ?_
  exact w
theorem b32_49 {n : Nat} {h : q_Hp} {Q : Option Value → q_Hp → Prop} {x0 : Nat} {x1 : Int64} {x3 : Int32} (w : q_wp n 32 51 [some (.ref x0), some (.long x1), none, some (.int 0)] [] h Q) : q_wp n 32 49 [some (.ref x0), some (.long x1), none, some (.int x3)] [] h Q := by
  refine wp_iconst (v := 0) rfl (by decide) ?_
  refine wp_loc rfl rfl ?_
  exact w
theorem b32_51 {n : Nat} {h : q_Hp} {Q : Option Value → q_Hp → Prop} {x0 : Nat} {x1 : Int64} {x3 : Int32} {v0 : Nat} (k0 : q_ok h x0 1) (e0 : qR h x0 12 = v0) (k1 : q_ok h v0 0) (wt : (qI h v0 3) ≤ x3 → q_wp n 32 86 [some (.ref x0), some (.long x1), none, some (.int x3)] [] h Q) (wf : ¬ (qI h v0 3) ≤ x3 → q_wp n 32 62 [some (.ref x0), some (.long x1), none, some (.int x3)] [] h Q) : q_wp n 32 51 [some (.ref x0), some (.long x1), none, some (.int x3)] [] h Q := by
  refine wp_loc rfl rfl ?_
  refine wp_loc rfl rfl ?_
  refine wp_getR rfl rfl rfl rfl k0 e0 ?_
  refine wp_getI rfl rfl rfl k1 ?_
  exact wp_icge (tgt := 86) rfl (by decide) wt wf
theorem b32_62 {n : Nat} {h : q_Hp} {Q : Option Value → q_Hp → Prop} {x0 : Nat} {x1 : Int64} {x3 : Int32} {v0 : Nat} (k0 : q_ok h x0 1) (e0 : qR h x0 1 = v0) {m : Nat} {P : Int64 → q_Hp → Prop} (hc : q_mJ m 166 [.ref v0, .int x3] h P) (hm : m ≤ n) (w : ∀ (z : Int64) (h1 : q_Hp), P z h1 → q_wp (n + 1) 32 70 [some (.ref x0), some (.long x1), none, some (.int x3)] [.long z] h1 Q) : q_wp (n + 1) 32 62 [some (.ref x0), some (.long x1), none, some (.int x3)] [] h Q := by
  refine wp_loc rfl rfl ?_
  refine wp_getR rfl rfl rfl rfl k0 e0 ?_
  refine wp_loc rfl rfl ?_
  exact wp_callJ (av := [.ref v0, .int x3]) rfl rfl rfl (by decide) rfl rfl rfl hm hc w
theorem b32_70 {n : Nat} {h : q_Hp} {Q : Option Value → q_Hp → Prop} {x0 : Nat} {x1 : Int64} {x3 : Int32} {s0 : Int64} (wt : ¬ (lg_cmp s0 x1) = 0 → q_wp n 32 80 [some (.ref x0), some (.long x1), none, some (.int x3)] [] h Q) (wf : (lg_cmp s0 x1) = 0 → q_wp n 32 75 [some (.ref x0), some (.long x1), none, some (.int x3)] [] h Q) : q_wp n 32 70 [some (.ref x0), some (.long x1), none, some (.int x3)] [.long s0] h Q := by
  refine wp_loc rfl rfl ?_
  refine wp_stk rfl rfl rfl ?_
  exact wp_ifne (tgt := 80) rfl (by decide) wt wf
theorem b32_75 {n : Nat} {h : q_Hp} {Q : Option Value → q_Hp → Prop} {x0 : Nat} {x1 : Int64} {x3 : Int32} {m : Nat} {P : q_Hp → Prop} (hc : q_mV m 26 [.ref x0, .int 3] h P) (hm : m ≤ n) (w : ∀ h1 : q_Hp, P h1 → q_wp (n + 1) 32 80 [some (.ref x0), some (.long x1), none, some (.int x3)] [] h1 Q) : q_wp (n + 1) 32 75 [some (.ref x0), some (.long x1), none, some (.int x3)] [] h Q := by
  refine wp_loc rfl rfl ?_
  refine wp_iconst (v := 3) rfl (by decide) ?_
  exact wp_callV (av := [.ref x0, .int 3]) rfl rfl rfl (by decide) rfl rfl rfl hm hc w
theorem b32_80 {n : Nat} {h : q_Hp} {Q : Option Value → q_Hp → Prop} {x0 : Nat} {x1 : Int64} {x3 : Int32} (w : q_wp n 32 51 [some (.ref x0), some (.long x1), none, some (.int (x3 + 1))] [] h Q) : q_wp n 32 80 [some (.ref x0), some (.long x1), none, some (.int x3)] [] h Q := by
  refine wp_iinc (v := 1) rfl rfl (by decide) rfl ?_
  refine wp_goto (tgt := 51) rfl (by decide) ?_
  exact w
theorem b32_86 {n : Nat} {h : q_Hp} {Q : Option Value → q_Hp → Prop} {x0 : Nat} {x1 : Int64} {x3 : Int32} (k0 : q_ok h x0 1) (q : Q none (q_sI h x0 14 ((qI h x0 14) + 1))) : q_wp n 32 86 [some (.ref x0), some (.long x1), none, some (.int x3)] [] h Q := by
  refine wp_loc rfl rfl ?_
  refine wp_stk rfl rfl rfl ?_
  refine wp_getI rfl rfl rfl k0 ?_
  refine wp_iconst (v := 1) rfl (by decide) ?_
  refine wp_stk rfl rfl rfl ?_
  refine wp_putI rfl rfl (Or.inl rfl) rfl (fun h9 => by cases h9) k0 ?_
  exact wp_ret rfl rfl q
theorem b33_0 {n : Nat} {h : q_Hp} {Q : Option Value → q_Hp → Prop} {x0 : Nat} (k0 : q_ok h x0 1) {m : Nat} {P : q_Hp → Prop} (hc : q_mV m 32 [.ref x0] (q_sI h x0 14 ((qI h x0 14) + 1)) P) (hm : m ≤ n) (w : ∀ h1 : q_Hp, P h1 → q_wp (n + 1) 33 14 [some (.ref x0), none, none] [] h1 Q) : q_wp (n + 1) 33 0 [some (.ref x0), none, none] [] h Q := by
  refine wp_loc rfl rfl ?_
  refine wp_stk rfl rfl rfl ?_
  refine wp_getI rfl rfl rfl k0 ?_
  refine wp_iconst (v := 1) rfl (by decide) ?_
  refine wp_stk rfl rfl rfl ?_
  refine wp_putI rfl rfl (Or.inl rfl) rfl (fun h9 => by cases h9) k0 ?_
  refine wp_loc rfl rfl ?_
  exact wp_callV (av := [.ref x0]) rfl rfl rfl (by decide) rfl rfl rfl hm hc w
theorem b33_14 {n : Nat} {h : q_Hp} {Q : Option Value → q_Hp → Prop} {x0 : Nat} {v0 : Nat} (k0 : q_ok h x0 1) (e0 : qR h x0 12 = v0) (k1 : q_ok h v0 0) {m : Nat} {P : Nat → q_Hp → Prop} (hc : q_mR m 9 [.ref v0, .int (qI h v0 2)] h P) (hm : m ≤ n) (w : ∀ (z : Nat) (h1 : q_Hp), P z h1 → q_wp (n + 1) 33 29 [some (.ref x0), none, none] [.ref z, .ref x0] h1 Q) : q_wp (n + 1) 33 14 [some (.ref x0), none, none] [] h Q := by
  refine wp_loc rfl rfl ?_
  refine wp_loc rfl rfl ?_
  refine wp_getR rfl rfl rfl rfl k0 e0 ?_
  refine wp_loc rfl rfl ?_
  refine wp_getR rfl rfl rfl rfl k0 e0 ?_
  refine wp_getI rfl rfl rfl k1 ?_
  exact wp_callR (av := [.ref v0, .int (qI h v0 2)]) rfl rfl rfl (by decide) rfl rfl rfl hm hc w
theorem b33_29 {n : Nat} {h : q_Hp} {Q : Option Value → q_Hp → Prop} {x0 : Nat} {s0 : Nat} {s1 : Nat} {v0 : Nat} (k0 : q_ok h s1 1) (k1 : q_ok h x0 1) (e0 : qR (q_sR h s1 13 s0) x0 13 = v0) {m : Nat} {P : q_Hp → Prop} (hc : q_mV m 127 [.ref v0] (q_sR h s1 13 s0) P) (hm : m ≤ n) (w : ∀ h1 : q_Hp, P h1 → q_wp (n + 1) 33 39 [some (.ref x0), none, none] [] h1 Q) : q_wp (n + 1) 33 29 [some (.ref x0), none, none] [.ref s0, .ref s1] h Q := by
  refine wp_putR rfl rfl (Or.inl rfl) rfl rfl k0 ?_
  refine wp_loc rfl rfl ?_
  refine wp_getR rfl rfl rfl rfl k1 e0 ?_
  exact wp_callV (av := [.ref v0]) rfl rfl rfl (by decide) rfl rfl rfl hm hc w
theorem b33_39 {n : Nat} {h : q_Hp} {Q : Option Value → q_Hp → Prop} {x0 : Nat} (k0 : q_ok h x0 1) {m : Nat} {P : q_Hp → Prop} (hc : q_mV m 39 [.ref x0, .int (-1)] (q_sI (q_sI (q_sI h x0 9 0) x0 10 0) x0 11 0) P) (hm : m ≤ n) (w : ∀ h1 : q_Hp, P h1 → q_wp (n + 1) 33 59 [some (.ref x0), none, none] [] h1 Q) : q_wp (n + 1) 33 39 [some (.ref x0), none, none] [] h Q := by
  refine wp_loc rfl rfl ?_
  refine wp_iconst (v := 0) rfl (by decide) ?_
  refine wp_putI rfl rfl (Or.inl rfl) rfl (fun h9 => by cases h9) k0 ?_
  refine wp_loc rfl rfl ?_
  refine wp_iconst (v := 0) rfl (by decide) ?_
  refine wp_putI rfl rfl (Or.inl rfl) rfl (fun h9 => by cases h9) k0 ?_
  refine wp_loc rfl rfl ?_
  refine wp_iconst (v := 0) rfl (by decide) ?_
  refine wp_putI rfl rfl (Or.inl rfl) rfl (fun h9 => by cases h9) k0 ?_
  refine wp_loc rfl rfl ?_
  refine wp_iconst (v := (-1)) rfl (by decide) ?_
  exact wp_callV (av := [.ref x0, .int (-1)]) rfl rfl rfl (by decide) rfl rfl rfl hm hc w
theorem b33_59 {n : Nat} {h : q_Hp} {Q : Option Value → q_Hp → Prop} {x0 : Nat} (w : q_wp n 33 61 [some (.ref x0), some (.int 0), none] [] h Q) : q_wp n 33 59 [some (.ref x0), none, none] [] h Q := by
  refine wp_iconst (v := 0) rfl (by decide) ?_
  refine wp_loc rfl rfl ?_
  exact w
theorem b33_61 {n : Nat} {h : q_Hp} {Q : Option Value → q_Hp → Prop} {x0 : Nat} {x1 : Int32} {l2 : Option Value} (wt : 1200 < x1 → q_wp n 33 133 [some (.ref x0), some (.int x1), l2] [] h Q) (wf : ¬ 1200 < x1 → q_wp n 33 68 [some (.ref x0), some (.int x1), l2] [] h Q) : q_wp n 33 61 [some (.ref x0), some (.int x1), l2] [] h Q := by
  refine wp_loc rfl rfl ?_
  refine wp_sipush (v := 1200) rfl (by decide) ?_
  exact wp_icgt (tgt := 133) rfl (by decide) wt wf
theorem b33_68 {n : Nat} {h : q_Hp} {Q : Option Value → q_Hp → Prop} {x0 : Nat} {x1 : Int32} {l2 : Option Value} {m : Nat} {P : Int32 → q_Hp → Prop} (hc : q_mI m 25 [.ref x0] h P) (hm : m ≤ n) (w : ∀ (z : Int32) (h1 : q_Hp), P z h1 → q_wp (n + 1) 33 72 [some (.ref x0), some (.int x1), l2] [.int z] h1 Q) : q_wp (n + 1) 33 68 [some (.ref x0), some (.int x1), l2] [] h Q := by
  refine wp_loc rfl rfl ?_
  exact wp_callI (av := [.ref x0]) rfl rfl rfl (by decide) rfl rfl rfl hm hc w
theorem b33_72 {n : Nat} {h : q_Hp} {Q : Option Value → q_Hp → Prop} {x0 : Nat} {x1 : Int32} {l2 : Option Value} {s0 : Int32} (wt : ¬ s0 = 9 → q_wp n 33 133 [some (.ref x0), some (.int x1), l2] [] h Q) (wf : s0 = 9 → q_wp n 33 77 [some (.ref x0), some (.int x1), l2] [] h Q) : q_wp n 33 72 [some (.ref x0), some (.int x1), l2] [.int s0] h Q := by
  refine wp_bipush (v := 9) rfl (by decide) ?_
  exact wp_icne (tgt := 133) rfl (by decide) wt wf
theorem b33_77 {n : Nat} {h : q_Hp} {Q : Option Value → q_Hp → Prop} {x0 : Nat} {x1 : Int32} {l2 : Option Value} {v0 : Nat} (k0 : q_ok h x0 1) (e0 : qR h x0 13 = v0) {m : Nat} {P : q_Hp → Prop} (hc : q_mV m 132 [.ref v0] (q_sI h x0 14 ((qI h x0 14) + 1)) P) (hm : m ≤ n) (w : ∀ h1 : q_Hp, P h1 → q_wp (n + 1) 33 99 [some (.ref x0), some (.int x1), some (.int (qI h x0 9))] [] h1 Q) : q_wp (n + 1) 33 77 [some (.ref x0), some (.int x1), l2] [] h Q := by
  refine wp_loc rfl rfl ?_
  refine wp_getI rfl rfl rfl k0 ?_
  refine wp_loc rfl rfl ?_
  refine wp_loc rfl rfl ?_
  refine wp_stk rfl rfl rfl ?_
  refine wp_getI rfl rfl rfl k0 ?_
  refine wp_iconst (v := 1) rfl (by decide) ?_
  refine wp_stk rfl rfl rfl ?_
  refine wp_putI rfl rfl (Or.inl rfl) rfl (fun h9 => by cases h9) k0 ?_
  refine wp_loc rfl rfl ?_
  refine wp_getR rfl rfl rfl rfl k0 e0 ?_
  exact wp_callV (av := [.ref v0]) rfl rfl rfl (by decide) rfl rfl rfl hm hc w
theorem b33_99 {n : Nat} {h : q_Hp} {Q : Option Value → q_Hp → Prop} {x0 : Nat} {x1 : Int32} {x2 : Int32} {v0 : Nat} (k0 : q_ok h x0 1) (e0 : qR h x0 13 = v0) (k1 : q_ok h v0 6) {m : Nat} {P : q_Hp → Prop} (hc : q_mV m 39 [.ref x0, .int ((qI h v0 2) - 1)] h P) (hm : m ≤ n) (w : ∀ h1 : q_Hp, P h1 → q_wp (n + 1) 33 112 [some (.ref x0), some (.int x1), some (.int x2)] [] h1 Q) : q_wp (n + 1) 33 99 [some (.ref x0), some (.int x1), some (.int x2)] [] h Q := by
  refine wp_loc rfl rfl ?_
  refine wp_loc rfl rfl ?_
  refine wp_getR rfl rfl rfl rfl k0 e0 ?_
  refine wp_getI rfl rfl rfl k1 ?_
  refine wp_iconst (v := 1) rfl (by decide) ?_
  refine wp_stk rfl rfl rfl ?_
  exact wp_callV (av := [.ref x0, .int ((qI h v0 2) - 1)]) rfl rfl rfl (by decide) rfl rfl rfl hm hc w
theorem b33_112 {n : Nat} {h : q_Hp} {Q : Option Value → q_Hp → Prop} {x0 : Nat} {x1 : Int32} {x2 : Int32} (k0 : q_ok h x0 1) (w : q_wp n 33 61 [some (.ref x0), some (.int (x1 + 1)), some (.int x2)] [] (q_sI (q_sI h x0 14 ((qI h x0 14) + 1)) x0 9 x2) Q) : q_wp n 33 112 [some (.ref x0), some (.int x1), some (.int x2)] [] h Q := by
  refine wp_loc rfl rfl ?_
  refine wp_stk rfl rfl rfl ?_
  refine wp_getI rfl rfl rfl k0 ?_
  refine wp_iconst (v := 1) rfl (by decide) ?_
  refine wp_stk rfl rfl rfl ?_
  refine wp_putI rfl rfl (Or.inl rfl) rfl (fun h9 => by cases h9) k0 ?_
  refine wp_loc rfl rfl ?_
  refine wp_loc rfl rfl ?_
  refine wp_putI rfl rfl (Or.inl rfl) rfl (fun h9 => by cases h9) k0 ?_
  refine wp_iinc (v := 1) rfl rfl (by decide) rfl ?_
  refine wp_goto (tgt := 61) rfl (by decide) ?_
  exact w
theorem b33_133 {n : Nat} {h : q_Hp} {Q : Option Value → q_Hp → Prop} {x0 : Nat} {x1 : Int32} {l2 : Option Value} (w : q_wp n 33 135 [some (.ref x0), some (.int 0), l2] [] h Q) : q_wp n 33 133 [some (.ref x0), some (.int x1), l2] [] h Q := by
  refine wp_iconst (v := 0) rfl (by decide) ?_
  refine wp_loc rfl rfl ?_
  exact w
theorem b33_135 {n : Nat} {h : q_Hp} {Q : Option Value → q_Hp → Prop} {x0 : Nat} {x1 : Int32} {l2 : Option Value} (wt : 1200 < x1 → q_wp n 33 161 [some (.ref x0), some (.int x1), l2] [] h Q) (wf : ¬ 1200 < x1 → q_wp n 33 142 [some (.ref x0), some (.int x1), l2] [] h Q) : q_wp n 33 135 [some (.ref x0), some (.int x1), l2] [] h Q := by
  refine wp_loc rfl rfl ?_
  refine wp_sipush (v := 1200) rfl (by decide) ?_
  exact wp_icgt (tgt := 161) rfl (by decide) wt wf
theorem b33_142 {n : Nat} {h : q_Hp} {Q : Option Value → q_Hp → Prop} {x0 : Nat} {x1 : Int32} {l2 : Option Value} {m : Nat} {P : Int32 → q_Hp → Prop} (hc : q_mI m 25 [.ref x0] h P) (hm : m ≤ n) (w : ∀ (z : Int32) (h1 : q_Hp), P z h1 → q_wp (n + 1) 33 146 [some (.ref x0), some (.int x1), l2] [.int z] h1 Q) : q_wp (n + 1) 33 142 [some (.ref x0), some (.int x1), l2] [] h Q := by
  refine wp_loc rfl rfl ?_
  exact wp_callI (av := [.ref x0]) rfl rfl rfl (by decide) rfl rfl rfl hm hc w
theorem b33_146 {n : Nat} {h : q_Hp} {Q : Option Value → q_Hp → Prop} {x0 : Nat} {x1 : Int32} {l2 : Option Value} {s0 : Int32} (wt : ¬ s0 = 10 → q_wp n 33 161 [some (.ref x0), some (.int x1), l2] [] h Q) (wf : s0 = 10 → q_wp n 33 151 [some (.ref x0), some (.int x1), l2] [] h Q) : q_wp n 33 146 [some (.ref x0), some (.int x1), l2] [.int s0] h Q := by
  refine wp_bipush (v := 10) rfl (by decide) ?_
  exact wp_icne (tgt := 161) rfl (by decide) wt wf
theorem b33_151 {n : Nat} {h : q_Hp} {Q : Option Value → q_Hp → Prop} {x0 : Nat} {x1 : Int32} {l2 : Option Value} {m : Nat} {P : q_Hp → Prop} (hc : q_mV m 42 [.ref x0] h P) (hm : m ≤ n) (w : ∀ h1 : q_Hp, P h1 → q_wp (n + 1) 33 155 [some (.ref x0), some (.int x1), l2] [] h1 Q) : q_wp (n + 1) 33 151 [some (.ref x0), some (.int x1), l2] [] h Q := by
  refine wp_loc rfl rfl ?_
  exact wp_callV (av := [.ref x0]) rfl rfl rfl (by decide) rfl rfl rfl hm hc w
theorem b33_155 {n : Nat} {h : q_Hp} {Q : Option Value → q_Hp → Prop} {x0 : Nat} {x1 : Int32} {l2 : Option Value} (w : q_wp n 33 135 [some (.ref x0), some (.int (x1 + 1)), l2] [] h Q) : q_wp n 33 155 [some (.ref x0), some (.int x1), l2] [] h Q := by
  refine wp_iinc (v := 1) rfl rfl (by decide) rfl ?_
  refine wp_goto (tgt := 135) rfl (by decide) ?_
  exact w
theorem b33_161 {n : Nat} {h : q_Hp} {Q : Option Value → q_Hp → Prop} {x0 : Nat} {x1 : Int32} {l2 : Option Value} (w : q_wp n 33 163 [some (.ref x0), some (.int 0), l2] [] h Q) : q_wp n 33 161 [some (.ref x0), some (.int x1), l2] [] h Q := by
  refine wp_iconst (v := 0) rfl (by decide) ?_
  refine wp_loc rfl rfl ?_
  exact w
theorem b33_163 {n : Nat} {h : q_Hp} {Q : Option Value → q_Hp → Prop} {x0 : Nat} {x1 : Int32} {l2 : Option Value} (wt : 1200 < x1 → q_wp n 33 261 [some (.ref x0), some (.int x1), l2] [] h Q) (wf : ¬ 1200 < x1 → q_wp n 33 170 [some (.ref x0), some (.int x1), l2] [] h Q) : q_wp n 33 163 [some (.ref x0), some (.int x1), l2] [] h Q := by
  refine wp_loc rfl rfl ?_
  refine wp_sipush (v := 1200) rfl (by decide) ?_
  exact wp_icgt (tgt := 261) rfl (by decide) wt wf
theorem b33_170 {n : Nat} {h : q_Hp} {Q : Option Value → q_Hp → Prop} {x0 : Nat} {x1 : Int32} {l2 : Option Value} {m : Nat} {P : Int32 → q_Hp → Prop} (hc : q_mI m 25 [.ref x0] h P) (hm : m ≤ n) (w : ∀ (z : Int32) (h1 : q_Hp), P z h1 → q_wp (n + 1) 33 174 [some (.ref x0), some (.int x1), l2] [.int z] h1 Q) : q_wp (n + 1) 33 170 [some (.ref x0), some (.int x1), l2] [] h Q := by
  refine wp_loc rfl rfl ?_
  exact wp_callI (av := [.ref x0]) rfl rfl rfl (by decide) rfl rfl rfl hm hc w
theorem b33_174 {n : Nat} {h : q_Hp} {Q : Option Value → q_Hp → Prop} {x0 : Nat} {x1 : Int32} {l2 : Option Value} {s0 : Int32} (wt : s0 = 5 → q_wp n 33 261 [some (.ref x0), some (.int x1), l2] [] h Q) (wf : ¬ s0 = 5 → q_wp n 33 178 [some (.ref x0), some (.int x1), l2] [] h Q) : q_wp n 33 174 [some (.ref x0), some (.int x1), l2] [.int s0] h Q := by
  refine wp_iconst (v := 5) rfl (by decide) ?_
  exact wp_iceq (tgt := 261) rfl (by decide) wt wf
theorem b33_178 {n : Nat} {h : q_Hp} {Q : Option Value → q_Hp → Prop} {x0 : Nat} {x1 : Int32} {l2 : Option Value} {m : Nat} {P : Int32 → q_Hp → Prop} (hc : q_mI m 25 [.ref x0] h P) (hm : m ≤ n) (w : ∀ (z : Int32) (h1 : q_Hp), P z h1 → q_wp (n + 1) 33 182 [some (.ref x0), some (.int x1), l2] [.int z] h1 Q) : q_wp (n + 1) 33 178 [some (.ref x0), some (.int x1), l2] [] h Q := by
  refine wp_loc rfl rfl ?_
  exact wp_callI (av := [.ref x0]) rfl rfl rfl (by decide) rfl rfl rfl hm hc w
theorem b33_182 {n : Nat} {h : q_Hp} {Q : Option Value → q_Hp → Prop} {x0 : Nat} {x1 : Int32} {l2 : Option Value} {s0 : Int32} (k0 : q_ok h x0 1) (w0 : s0 = 11 → q_wp n 33 220 [some (.ref x0), some (.int x1), some (.int s0)] [] (q_sI h x0 14 ((qI h x0 14) + 1)) Q) (w1 : s0 = 12 → q_wp n 33 227 [some (.ref x0), some (.int x1), some (.int s0)] [] (q_sI h x0 14 ((qI h x0 14) + 1)) Q) (w2 : s0 = 13 → q_wp n 33 234 [some (.ref x0), some (.int x1), some (.int s0)] [] (q_sI h x0 14 ((qI h x0 14) + 1)) Q) (wd : (s0.toInt < 11 ∨ 13 < s0.toInt) → q_wp n 33 241 [some (.ref x0), some (.int x1), some (.int s0)] [] (q_sI h x0 14 ((qI h x0 14) + 1)) Q) : q_wp n 33 182 [some (.ref x0), some (.int x1), l2] [.int s0] h Q := by
  refine wp_loc rfl rfl ?_
  refine wp_loc rfl rfl ?_
  refine wp_stk rfl rfl rfl ?_
  refine wp_getI rfl rfl rfl k0 ?_
  refine wp_iconst (v := 1) rfl (by decide) ?_
  refine wp_stk rfl rfl rfl ?_
  refine wp_putI rfl rfl (Or.inl rfl) rfl (fun h9 => by cases h9) k0 ?_
  refine wp_loc rfl rfl ?_
  refine wp_tab (dt := 241) (tg := fun j => [220, 227, 234].getD j 0) rfl (by decide) (by decide) (by decide) (fun j hj hx => ?_) wd
  have hj : j < 3 := hj
  match j, hj, hx with
  | 0, _, hx => exact w0 (Int32.toInt_inj.mp hx)
  | 1, _, hx => exact w1 (Int32.toInt_inj.mp hx)
  | 2, _, hx => exact w2 (Int32.toInt_inj.mp hx)
theorem b33_220 {n : Nat} {h : q_Hp} {Q : Option Value → q_Hp → Prop} {x0 : Nat} {x1 : Int32} {x2 : Int32} {m : Nat} {P : q_Hp → Prop} (hc : q_mV m 43 [.ref x0] h P) (hm : m ≤ n) (w : ∀ h1 : q_Hp, P h1 → q_wp (n + 1) 33 224 [some (.ref x0), some (.int x1), some (.int x2)] [] h1 Q) : q_wp (n + 1) 33 220 [some (.ref x0), some (.int x1), some (.int x2)] [] h Q := by
  refine wp_loc rfl rfl ?_
  exact wp_callV (av := [.ref x0]) rfl rfl rfl (by decide) rfl rfl rfl hm hc w
theorem b33_224 {n : Nat} {h : q_Hp} {Q : Option Value → q_Hp → Prop} {x0 : Nat} {x1 : Int32} {x2 : Int32} (w : q_wp n 33 245 [some (.ref x0), some (.int x1), some (.int x2)] [] h Q) : q_wp n 33 224 [some (.ref x0), some (.int x1), some (.int x2)] [] h Q := by
  refine wp_goto (tgt := 245) rfl (by decide) ?_
  exact w
theorem b33_227 {n : Nat} {h : q_Hp} {Q : Option Value → q_Hp → Prop} {x0 : Nat} {x1 : Int32} {x2 : Int32} {m : Nat} {P : q_Hp → Prop} (hc : q_mV m 45 [.ref x0] h P) (hm : m ≤ n) (w : ∀ h1 : q_Hp, P h1 → q_wp (n + 1) 33 231 [some (.ref x0), some (.int x1), some (.int x2)] [] h1 Q) : q_wp (n + 1) 33 227 [some (.ref x0), some (.int x1), some (.int x2)] [] h Q := by
  refine wp_loc rfl rfl ?_
  exact wp_callV (av := [.ref x0]) rfl rfl rfl (by decide) rfl rfl rfl hm hc w
theorem b33_231 {n : Nat} {h : q_Hp} {Q : Option Value → q_Hp → Prop} {x0 : Nat} {x1 : Int32} {x2 : Int32} (w : q_wp n 33 245 [some (.ref x0), some (.int x1), some (.int x2)] [] h Q) : q_wp n 33 231 [some (.ref x0), some (.int x1), some (.int x2)] [] h Q := by
  refine wp_goto (tgt := 245) rfl (by decide) ?_
  exact w
theorem b33_234 {n : Nat} {h : q_Hp} {Q : Option Value → q_Hp → Prop} {x0 : Nat} {x1 : Int32} {x2 : Int32} {m : Nat} {P : q_Hp → Prop} (hc : q_mV m 46 [.ref x0] h P) (hm : m ≤ n) (w : ∀ h1 : q_Hp, P h1 → q_wp (n + 1) 33 238 [some (.ref x0), some (.int x1), some (.int x2)] [] h1 Q) : q_wp (n + 1) 33 234 [some (.ref x0), some (.int x1), some (.int x2)] [] h Q := by
  refine wp_loc rfl rfl ?_
  exact wp_callV (av := [.ref x0]) rfl rfl rfl (by decide) rfl rfl rfl hm hc w
theorem b33_238 {n : Nat} {h : q_Hp} {Q : Option Value → q_Hp → Prop} {x0 : Nat} {x1 : Int32} {x2 : Int32} (w : q_wp n 33 245 [some (.ref x0), some (.int x1), some (.int x2)] [] h Q) : q_wp n 33 238 [some (.ref x0), some (.int x1), some (.int x2)] [] h Q := by
  refine wp_goto (tgt := 245) rfl (by decide) ?_
  exact w
theorem b33_241 {n : Nat} {h : q_Hp} {Q : Option Value → q_Hp → Prop} {x0 : Nat} {x1 : Int32} {x2 : Int32} {m : Nat} {P : q_Hp → Prop} (hc : q_mV m 48 [.ref x0] h P) (hm : m ≤ n) (w : ∀ h1 : q_Hp, P h1 → q_wp (n + 1) 33 245 [some (.ref x0), some (.int x1), some (.int x2)] [] h1 Q) : q_wp (n + 1) 33 241 [some (.ref x0), some (.int x1), some (.int x2)] [] h Q := by
  refine wp_loc rfl rfl ?_
  exact wp_callV (av := [.ref x0]) rfl rfl rfl (by decide) rfl rfl rfl hm hc w
theorem b33_245 {n : Nat} {h : q_Hp} {Q : Option Value → q_Hp → Prop} {x0 : Nat} {x1 : Int32} {x2 : Int32} (k0 : q_ok h x0 1) (w : q_wp n 33 163 [some (.ref x0), some (.int (x1 + 1)), some (.int x2)] [] (q_sI h x0 14 ((qI h x0 14) + 1)) Q) : q_wp n 33 245 [some (.ref x0), some (.int x1), some (.int x2)] [] h Q := by
  refine wp_loc rfl rfl ?_
  refine wp_stk rfl rfl rfl ?_
  refine wp_getI rfl rfl rfl k0 ?_
  refine wp_iconst (v := 1) rfl (by decide) ?_
  refine wp_stk rfl rfl rfl ?_
  refine wp_putI rfl rfl (Or.inl rfl) rfl (fun h9 => by cases h9) k0 ?_
  refine wp_iinc (v := 1) rfl rfl (by decide) rfl ?_
  refine wp_goto (tgt := 163) rfl (by decide) ?_
  exact w
theorem b33_261 {n : Nat} {h : q_Hp} {Q : Option Value → q_Hp → Prop} {x0 : Nat} {x1 : Int32} {l2 : Option Value} {v0 : Nat} (k0 : q_ok h x0 1) (e0 : qR h x0 12 = v0) {m : Nat} {P : q_Hp → Prop} (hc : q_mV m 13 [.ref v0] (q_sI h x0 14 ((qI h x0 14) + 1)) P) (hm : m ≤ n) (w : ∀ h1 : q_Hp, P h1 → q_wp (n + 1) 33 278 [some (.ref x0), some (.int x1), l2] [] h1 Q) : q_wp (n + 1) 33 261 [some (.ref x0), some (.int x1), l2] [] h Q := by
  refine wp_loc rfl rfl ?_
  refine wp_stk rfl rfl rfl ?_
  refine wp_getI rfl rfl rfl k0 ?_
  refine wp_iconst (v := 1) rfl (by decide) ?_
  refine wp_stk rfl rfl rfl ?_
  refine wp_putI rfl rfl (Or.inl rfl) rfl (fun h9 => by cases h9) k0 ?_
  refine wp_loc rfl rfl ?_
  refine wp_getR rfl rfl rfl rfl k0 e0 ?_
  exact wp_callV (av := [.ref v0]) rfl rfl rfl (by decide) rfl rfl rfl hm hc w
theorem b33_278 {n : Nat} {h : q_Hp} {Q : Option Value → q_Hp → Prop} {x0 : Nat} {x1 : Int32} {l2 : Option Value} (q : Q none h) : q_wp n 33 278 [some (.ref x0), some (.int x1), l2] [] h Q := by
  exact wp_ret rfl rfl q
theorem b34_0 {n : Nat} {h : q_Hp} {Q : Option Value → q_Hp → Prop} {x0 : Nat} {x1 : Int64} {x3 : Int32} (w : q_wp n 34 3 [some (.ref x0), some (.long x1), none, some (.int x3), some (.int 0)] [] h Q) : q_wp n 34 0 [some (.ref x0), some (.long x1), none, some (.int x3), none] [] h Q := by
  refine wp_iconst (v := 0) rfl (by decide) ?_
  refine wp_loc rfl rfl ?_
  exact w
theorem b34_3 {n : Nat} {h : q_Hp} {Q : Option Value → q_Hp → Prop} {x0 : Nat} {x1 : Int64} {x3 : Int32} {x4 : Int32} (k0 : q_ok h x0 1) (wt : (qI h x0 9) ≤ x4 → q_wp n 34 62 [some (.ref x0), some (.long x1), none, some (.int x3), some (.int x4)] [] h Q) (wf : ¬ (qI h x0 9) ≤ x4 → q_wp n 34 12 [some (.ref x0), some (.long x1), none, some (.int x3), some (.int x4)] [] h Q) : q_wp n 34 3 [some (.ref x0), some (.long x1), none, some (.int x3), some (.int x4)] [] h Q := by
  refine wp_loc rfl rfl ?_
  refine wp_loc rfl rfl ?_
  refine wp_getI rfl rfl rfl k0 ?_
  exact wp_icge (tgt := 62) rfl (by decide) wt wf
theorem b34_12 {n : Nat} {h : q_Hp} {Q : Option Value → q_Hp → Prop} {x0 : Nat} {x1 : Int64} {x3 : Int32} {x4 : Int32} (wt : 22 ≤ x4 → q_wp n 34 62 [some (.ref x0), some (.long x1), none, some (.int x3), some (.int x4)] [] h Q) (wf : ¬ 22 ≤ x4 → q_wp n 34 19 [some (.ref x0), some (.long x1), none, some (.int x3), some (.int x4)] [] h Q) : q_wp n 34 12 [some (.ref x0), some (.long x1), none, some (.int x3), some (.int x4)] [] h Q := by
  refine wp_loc rfl rfl ?_
  refine wp_bipush (v := 22) rfl (by decide) ?_
  exact wp_icge (tgt := 62) rfl (by decide) wt wf
theorem b34_19 {n : Nat} {h : q_Hp} {Q : Option Value → q_Hp → Prop} {x0 : Nat} {x1 : Int64} {x3 : Int32} {x4 : Int32} {v0 : Nat} (k0 : q_ok h x0 1) (e0 : qR h x0 4 = v0) (k1 : q_ok h v0 21) (i0 : q_in x4 (qK h v0).2) (wt : ¬ (lg_cmp (qL h v0 x4.toNatClampNeg) x1) = 0 → q_wp n 34 56 [some (.ref x0), some (.long x1), none, some (.int x3), some (.int x4)] [] h Q) (wf : (lg_cmp (qL h v0 x4.toNatClampNeg) x1) = 0 → q_wp n 34 31 [some (.ref x0), some (.long x1), none, some (.int x3), some (.int x4)] [] h Q) : q_wp n 34 19 [some (.ref x0), some (.long x1), none, some (.int x3), some (.int x4)] [] h Q := by
  refine wp_loc rfl rfl ?_
  refine wp_getR rfl rfl rfl rfl k0 e0 ?_
  refine wp_loc rfl rfl ?_
  refine wp_lald rfl k1 i0 ?_
  refine wp_loc rfl rfl ?_
  refine wp_stk rfl rfl rfl ?_
  exact wp_ifne (tgt := 56) rfl (by decide) wt wf
theorem b34_31 {n : Nat} {h : q_Hp} {Q : Option Value → q_Hp → Prop} {x0 : Nat} {x1 : Int64} {x3 : Int32} {x4 : Int32} {v0 : Nat} (k0 : q_ok h x0 1) (e0 : qR h x0 5 = v0) (k1 : q_ok h v0 20) (i0 : q_in x4 (qK h v0).2) (wt : ((qA h v0 x4.toNatClampNeg) &&& x3) = 0 → q_wp n 34 56 [some (.ref x0), some (.long x1), none, some (.int x3), some (.int x4)] [] h Q) (wf : ¬ ((qA h v0 x4.toNatClampNeg) &&& x3) = 0 → q_wp n 34 43 [some (.ref x0), some (.long x1), none, some (.int x3), some (.int x4)] [] h Q) : q_wp n 34 31 [some (.ref x0), some (.long x1), none, some (.int x3), some (.int x4)] [] h Q := by
  refine wp_loc rfl rfl ?_
  refine wp_getR rfl rfl rfl rfl k0 e0 ?_
  refine wp_loc rfl rfl ?_
  refine wp_iald rfl k1 i0 ?_
  refine wp_loc rfl rfl ?_
  refine wp_stk rfl rfl rfl ?_
  exact wp_ifeq (tgt := 56) rfl (by decide) wt wf
theorem b34_43 {n : Nat} {h : q_Hp} {Q : Option Value → q_Hp → Prop} {x0 : Nat} {x1 : Int64} {x3 : Int32} {x4 : Int32} {v0 : Nat} (k0 : q_ok h x0 1) (e0 : qR h x0 8 = v0) (b2 : q_ok h v0 22 ∨ q_ok h v0 23) (i0 : q_in x4 (qK h v0).2) (wt : ¬ (qA h v0 x4.toNatClampNeg) = 0 → q_wp n 34 56 [some (.ref x0), some (.long x1), none, some (.int x3), some (.int x4)] [] h Q) (wf : (qA h v0 x4.toNatClampNeg) = 0 → q_wp n 34 53 [some (.ref x0), some (.long x1), none, some (.int x3), some (.int x4)] [] h Q) : q_wp n 34 43 [some (.ref x0), some (.long x1), none, some (.int x3), some (.int x4)] [] h Q := by
  refine wp_loc rfl rfl ?_
  refine wp_getR rfl rfl rfl rfl k0 e0 ?_
  refine wp_loc rfl rfl ?_
  refine wp_bald rfl b2 i0 ?_
  exact wp_ifne (tgt := 56) rfl (by decide) wt wf
theorem b34_53 {n : Nat} {h : q_Hp} {Q : Option Value → q_Hp → Prop} {x0 : Nat} {x1 : Int64} {x3 : Int32} {x4 : Int32} (q : Q (some (.int x4)) h) : q_wp n 34 53 [some (.ref x0), some (.long x1), none, some (.int x3), some (.int x4)] [] h Q := by
  refine wp_loc rfl rfl ?_
  exact wp_ret rfl rfl q
theorem b34_56 {n : Nat} {h : q_Hp} {Q : Option Value → q_Hp → Prop} {x0 : Nat} {x1 : Int64} {x3 : Int32} {x4 : Int32} (w : q_wp n 34 3 [some (.ref x0), some (.long x1), none, some (.int x3), some (.int (x4 + 1))] [] h Q) : q_wp n 34 56 [some (.ref x0), some (.long x1), none, some (.int x3), some (.int x4)] [] h Q := by
  refine wp_iinc (v := 1) rfl rfl (by decide) rfl ?_
  refine wp_goto (tgt := 3) rfl (by decide) ?_
  exact w
theorem b34_62 {n : Nat} {h : q_Hp} {Q : Option Value → q_Hp → Prop} {x0 : Nat} {x1 : Int64} {x3 : Int32} {x4 : Int32} (q : Q (some (.int (-1))) h) : q_wp n 34 62 [some (.ref x0), some (.long x1), none, some (.int x3), some (.int x4)] [] h Q := by
  refine wp_iconst (v := (-1)) rfl (by decide) ?_
  exact wp_ret rfl rfl q
theorem b35_0 {n : Nat} {h : q_Hp} {Q : Option Value → q_Hp → Prop} {x0 : Nat} {x1 : Int32} {v0 : Nat} (k0 : q_ok h x0 1) (e0 : qR h x0 0 = v0) {m : Nat} {P : Int64 → q_Hp → Prop} (hc : q_mJ m 190 [.ref v0, .int (qI h x0 14)] h P) (hm : m ≤ n) (w : ∀ (z : Int64) (h1 : q_Hp), P z h1 → q_wp (n + 1) 35 12 [some (.ref x0), some (.int x1), none] [.long z, .ref x0] h1 Q) : q_wp (n + 1) 35 0 [some (.ref x0), some (.int x1), none] [] h Q := by
  refine wp_loc rfl rfl ?_
  refine wp_loc rfl rfl ?_
  refine wp_getR rfl rfl rfl rfl k0 e0 ?_
  refine wp_loc rfl rfl ?_
  refine wp_getI rfl rfl rfl k0 ?_
  exact wp_callJ (av := [.ref v0, .int (qI h x0 14)]) rfl rfl rfl (by decide) rfl rfl rfl hm hc w
theorem b35_12 {n : Nat} {h : q_Hp} {Q : Option Value → q_Hp → Prop} {x0 : Nat} {x1 : Int32} {s0 : Int64} {s1 : Nat} {m : Nat} {P : Int32 → q_Hp → Prop} (hc : q_mI m 34 [.ref s1, .long s0, .int x1] h P) (hm : m ≤ n) (w : ∀ (z : Int32) (h1 : q_Hp), P z h1 → q_wp (n + 1) 35 16 [some (.ref x0), some (.int x1), none] [.int z] h1 Q) : q_wp (n + 1) 35 12 [some (.ref x0), some (.int x1), none] [.long s0, .ref s1] h Q := by
  refine wp_loc rfl rfl ?_
  exact wp_callI (av := [.ref s1, .long s0, .int x1]) rfl rfl rfl (by decide) rfl rfl rfl hm hc w
theorem b35_16 {n : Nat} {h : q_Hp} {Q : Option Value → q_Hp → Prop} {x0 : Nat} {x1 : Int32} {s0 : Int32} (wt : ¬ s0 = (-1) → q_wp n 35 27 [some (.ref x0), some (.int x1), some (.int s0)] [] h Q) (wf : s0 = (-1) → q_wp n 35 22 [some (.ref x0), some (.int x1), some (.int s0)] [] h Q) : q_wp n 35 16 [some (.ref x0), some (.int x1), none] [.int s0] h Q := by
  refine wp_loc rfl rfl ?_
  refine wp_loc rfl rfl ?_
  refine wp_iconst (v := (-1)) rfl (by decide) ?_
  exact wp_icne (tgt := 27) rfl (by decide) wt wf
theorem b35_22 {n : Nat} {h : q_Hp} {Q : Option Value → q_Hp → Prop} {x0 : Nat} {x1 : Int32} {x2 : Int32} {m : Nat} {P : q_Hp → Prop} (hc : q_mV m 26 [.ref x0, .int 4] h P) (hm : m ≤ n) (w : ∀ h1 : q_Hp, P h1 → q_wp (n + 1) 35 27 [some (.ref x0), some (.int x1), some (.int x2)] [] h1 Q) : q_wp (n + 1) 35 22 [some (.ref x0), some (.int x1), some (.int x2)] [] h Q := by
  refine wp_loc rfl rfl ?_
  refine wp_iconst (v := 4) rfl (by decide) ?_
  exact wp_callV (av := [.ref x0, .int 4]) rfl rfl rfl (by decide) rfl rfl rfl hm hc w
theorem b35_27 {n : Nat} {h : q_Hp} {Q : Option Value → q_Hp → Prop} {x0 : Nat} {x1 : Int32} {x2 : Int32} (k0 : q_ok h x0 1) (q : Q (some (.int x2)) (q_sI h x0 14 ((qI h x0 14) + 1))) : q_wp n 35 27 [some (.ref x0), some (.int x1), some (.int x2)] [] h Q := by
  refine wp_loc rfl rfl ?_
  refine wp_stk rfl rfl rfl ?_
  refine wp_getI rfl rfl rfl k0 ?_
  refine wp_iconst (v := 1) rfl (by decide) ?_
  refine wp_stk rfl rfl rfl ?_
  refine wp_putI rfl rfl (Or.inl rfl) rfl (fun h9 => by cases h9) k0 ?_
  refine wp_loc rfl rfl ?_
  exact wp_ret rfl rfl q
theorem b36_0 {n : Nat} {h : q_Hp} {Q : Option Value → q_Hp → Prop} {x0 : Nat} {v0 : Nat} (k0 : q_ok h x0 1) (e0 : qR h x0 6 = v0) {m : Nat} {P : Int32 → q_Hp → Prop} (hc : q_mI m 35 [.ref x0, .int 1] h P) (hm : m ≤ n) (w : ∀ (z : Int32) (h1 : q_Hp), P z h1 → q_wp (n + 1) 36 9 [some (.ref x0)] [.int z, .ref v0] h1 Q) : q_wp (n + 1) 36 0 [some (.ref x0)] [] h Q := by
  refine wp_loc rfl rfl ?_
  refine wp_getR rfl rfl rfl rfl k0 e0 ?_
  refine wp_loc rfl rfl ?_
  refine wp_iconst (v := 1) rfl (by decide) ?_
  exact wp_callI (av := [.ref x0, .int 1]) rfl rfl rfl (by decide) rfl rfl rfl hm hc w
theorem b36_9 {n : Nat} {h : q_Hp} {Q : Option Value → q_Hp → Prop} {x0 : Nat} {s0 : Int32} {s1 : Nat} {m : Nat} {P : Int32 → q_Hp → Prop} (hc : q_mI m 232 [.ref s1, .int s0] h P) (hm : m ≤ n) (w : ∀ (z : Int32) (h1 : q_Hp), P z h1 → q_wp (n + 1) 36 12 [some (.ref x0)] [.int z] h1 Q) : q_wp (n + 1) 36 9 [some (.ref x0)] [.int s0, .ref s1] h Q := by
  exact wp_callI (av := [.ref s1, .int s0]) rfl rfl rfl (by decide) rfl rfl rfl hm hc w
theorem b36_12 {n : Nat} {h : q_Hp} {Q : Option Value → q_Hp → Prop} {x0 : Nat} {s0 : Int32} (q : Q (some (.int s0)) h) : q_wp n 36 12 [some (.ref x0)] [.int s0] h Q := by
  exact wp_ret rfl rfl q
theorem b37_0 {n : Nat} {h : q_Hp} {Q : Option Value → q_Hp → Prop} {x0 : Nat} {v0 : Nat} (k0 : q_ok h x0 1) (e0 : qR h x0 0 = v0) {m : Nat} {P : Int64 → q_Hp → Prop} (hc : q_mJ m 190 [.ref v0, .int (qI h x0 14)] h P) (hm : m ≤ n) (w : ∀ (z : Int64) (h1 : q_Hp), P z h1 → q_wp (n + 1) 37 11 [some (.ref x0), none, none, none] [.long z] h1 Q) : q_wp (n + 1) 37 0 [some (.ref x0), none, none, none] [] h Q := by
  refine wp_loc rfl rfl ?_
  refine wp_getR rfl rfl rfl rfl k0 e0 ?_
  refine wp_loc rfl rfl ?_
  refine wp_getI rfl rfl rfl k0 ?_
  exact wp_callJ (av := [.ref v0, .int (qI h x0 14)]) rfl rfl rfl (by decide) rfl rfl rfl hm hc w
theorem b37_11 {n : Nat} {h : q_Hp} {Q : Option Value → q_Hp → Prop} {x0 : Nat} {s0 : Int64} (w : q_wp n 37 14 [some (.ref x0), some (.long s0), none, some (.int 0)] [] h Q) : q_wp n 37 11 [some (.ref x0), none, none, none] [.long s0] h Q := by
  refine wp_loc rfl rfl ?_
  refine wp_iconst (v := 0) rfl (by decide) ?_
  refine wp_loc rfl rfl ?_
  exact w
theorem b37_14 {n : Nat} {h : q_Hp} {Q : Option Value → q_Hp → Prop} {x0 : Nat} {x1 : Int64} {x3 : Int32} (k0 : q_ok h x0 1) (wt : (qI h x0 9) ≤ x3 → q_wp n 37 50 [some (.ref x0), some (.long x1), none, some (.int x3)] [] h Q) (wf : ¬ (qI h x0 9) ≤ x3 → q_wp n 37 22 [some (.ref x0), some (.long x1), none, some (.int x3)] [] h Q) : q_wp n 37 14 [some (.ref x0), some (.long x1), none, some (.int x3)] [] h Q := by
  refine wp_loc rfl rfl ?_
  refine wp_loc rfl rfl ?_
  refine wp_getI rfl rfl rfl k0 ?_
  exact wp_icge (tgt := 50) rfl (by decide) wt wf
theorem b37_22 {n : Nat} {h : q_Hp} {Q : Option Value → q_Hp → Prop} {x0 : Nat} {x1 : Int64} {x3 : Int32} (wt : 22 ≤ x3 → q_wp n 37 50 [some (.ref x0), some (.long x1), none, some (.int x3)] [] h Q) (wf : ¬ 22 ≤ x3 → q_wp n 37 28 [some (.ref x0), some (.long x1), none, some (.int x3)] [] h Q) : q_wp n 37 22 [some (.ref x0), some (.long x1), none, some (.int x3)] [] h Q := by
  refine wp_loc rfl rfl ?_
  refine wp_bipush (v := 22) rfl (by decide) ?_
  exact wp_icge (tgt := 50) rfl (by decide) wt wf
theorem b37_28 {n : Nat} {h : q_Hp} {Q : Option Value → q_Hp → Prop} {x0 : Nat} {x1 : Int64} {x3 : Int32} {v0 : Nat} (k0 : q_ok h x0 1) (e0 : qR h x0 4 = v0) (k1 : q_ok h v0 21) (i0 : q_in x3 (qK h v0).2) (wt : ¬ (lg_cmp (qL h v0 x3.toNatClampNeg) x1) = 0 → q_wp n 37 44 [some (.ref x0), some (.long x1), none, some (.int x3)] [] h Q) (wf : (lg_cmp (qL h v0 x3.toNatClampNeg) x1) = 0 → q_wp n 37 39 [some (.ref x0), some (.long x1), none, some (.int x3)] [] h Q) : q_wp n 37 28 [some (.ref x0), some (.long x1), none, some (.int x3)] [] h Q := by
  refine wp_loc rfl rfl ?_
  refine wp_getR rfl rfl rfl rfl k0 e0 ?_
  refine wp_loc rfl rfl ?_
  refine wp_lald rfl k1 i0 ?_
  refine wp_loc rfl rfl ?_
  refine wp_stk rfl rfl rfl ?_
  exact wp_ifne (tgt := 44) rfl (by decide) wt wf
theorem b37_39 {n : Nat} {h : q_Hp} {Q : Option Value → q_Hp → Prop} {x0 : Nat} {x1 : Int64} {x3 : Int32} {m : Nat} {P : q_Hp → Prop} (hc : q_mV m 26 [.ref x0, .int 3] h P) (hm : m ≤ n) (w : ∀ h1 : q_Hp, P h1 → q_wp (n + 1) 37 44 [some (.ref x0), some (.long x1), none, some (.int x3)] [] h1 Q) : q_wp (n + 1) 37 39 [some (.ref x0), some (.long x1), none, some (.int x3)] [] h Q := by
  refine wp_loc rfl rfl ?_
  refine wp_iconst (v := 3) rfl (by decide) ?_
  exact wp_callV (av := [.ref x0, .int 3]) rfl rfl rfl (by decide) rfl rfl rfl hm hc w
theorem b37_44 {n : Nat} {h : q_Hp} {Q : Option Value → q_Hp → Prop} {x0 : Nat} {x1 : Int64} {x3 : Int32} (w : q_wp n 37 14 [some (.ref x0), some (.long x1), none, some (.int (x3 + 1))] [] h Q) : q_wp n 37 44 [some (.ref x0), some (.long x1), none, some (.int x3)] [] h Q := by
  refine wp_iinc (v := 1) rfl rfl (by decide) rfl ?_
  refine wp_goto (tgt := 14) rfl (by decide) ?_
  exact w
theorem b37_50 {n : Nat} {h : q_Hp} {Q : Option Value → q_Hp → Prop} {x0 : Nat} {x1 : Int64} {x3 : Int32} (k0 : q_ok h x0 1) (q : Q (some (.long x1)) (q_sI h x0 14 ((qI h x0 14) + 1))) : q_wp n 37 50 [some (.ref x0), some (.long x1), none, some (.int x3)] [] h Q := by
  refine wp_loc rfl rfl ?_
  refine wp_stk rfl rfl rfl ?_
  refine wp_getI rfl rfl rfl k0 ?_
  refine wp_iconst (v := 1) rfl (by decide) ?_
  refine wp_stk rfl rfl rfl ?_
  refine wp_putI rfl rfl (Or.inl rfl) rfl (fun h9 => by cases h9) k0 ?_
  refine wp_loc rfl rfl ?_
  exact wp_ret rfl rfl q
theorem b38_0 {n : Nat} {h : q_Hp} {Q : Option Value → q_Hp → Prop} {x0 : Nat} {x1 : Int64} {x3 : Int32} {x4 : Int32} {x5 : Int32} (k0 : q_ok h x0 1) (wt : 22 ≤ (qI h x0 9) → q_wp n 38 71 [some (.ref x0), some (.long x1), none, some (.int x3), some (.int x4), some (.int x5)] [] h Q) (wf : ¬ 22 ≤ (qI h x0 9) → q_wp n 38 9 [some (.ref x0), some (.long x1), none, some (.int x3), some (.int x4), some (.int x5)] [] h Q) : q_wp n 38 0 [some (.ref x0), some (.long x1), none, some (.int x3), some (.int x4), some (.int x5)] [] h Q := by
  refine wp_loc rfl rfl ?_
  refine wp_getI rfl rfl rfl k0 ?_
  refine wp_bipush (v := 22) rfl (by decide) ?_
  exact wp_icge (tgt := 71) rfl (by decide) wt wf
theorem b38_9 {n : Nat} {h : q_Hp} {Q : Option Value → q_Hp → Prop} {x0 : Nat} {x1 : Int64} {x3 : Int32} {x4 : Int32} {x5 : Int32} {v0 : Nat} {v1 : Nat} {v2 : Nat} {v3 : Nat} {v4 : Nat} (k0 : q_ok h x0 1) (e0 : qR h x0 4 = v0) (k1 : q_ok h v0 21) (i0 : q_in (qI h x0 9) (qK h v0).2) (e1 : qR h x0 5 = v1) (k2 : q_ok h v1 20) (i1 : q_in (qI h x0 9) (qK h v1).2) (e2 : qR h x0 6 = v2) (k3 : q_ok h v2 20) (i2 : q_in (qI h x0 9) (qK h v2).2) (e3 : qR h x0 7 = v3) (k4 : q_ok h v3 20) (i3 : q_in (qI h x0 9) (qK h v3).2) (e4 : qR h x0 8 = v4) (k5 : q_ok h v4 23) (i4 : q_in (qI h x0 9) (qK h v4).2) (w : q_wp n 38 71 [some (.ref x0), some (.long x1), none, some (.int x3), some (.int x4), some (.int x5)] [] (q_sI (q_sA (q_sA (q_sA (q_sA (q_sL h v0 ((qI h x0 9 : Int32).toNatClampNeg) x1) v1 ((qI h x0 9 : Int32).toNatClampNeg) x3) v2 ((qI h x0 9 : Int32).toNatClampNeg) x4) v3 ((qI h x0 9 : Int32).toNatClampNeg) x5) v4 ((qI h x0 9 : Int32).toNatClampNeg) (vp_nar .boolean 0)) x0 9 ((qI h x0 9) + 1)) Q) : q_wp n 38 9 [some (.ref x0), some (.long x1), none, some (.int x3), some (.int x4), some (.int x5)] [] h Q := by
  refine wp_loc rfl rfl ?_
  refine wp_getR rfl rfl rfl rfl k0 e0 ?_
  refine wp_loc rfl rfl ?_
  refine wp_getI rfl rfl rfl k0 ?_
  refine wp_loc rfl rfl ?_
  refine wp_last rfl k1 i0 ?_
  refine wp_loc rfl rfl ?_
  refine wp_getR rfl rfl rfl rfl k0 e1 ?_
  refine wp_loc rfl rfl ?_
  refine wp_getI rfl rfl rfl k0 ?_
  refine wp_loc rfl rfl ?_
  refine wp_iast rfl k2 i1 ?_
  refine wp_loc rfl rfl ?_
  refine wp_getR rfl rfl rfl rfl k0 e2 ?_
  refine wp_loc rfl rfl ?_
  refine wp_getI rfl rfl rfl k0 ?_
  refine wp_loc rfl rfl ?_
  refine wp_iast rfl k3 i2 ?_
  refine wp_loc rfl rfl ?_
  refine wp_getR rfl rfl rfl rfl k0 e3 ?_
  refine wp_loc rfl rfl ?_
  refine wp_getI rfl rfl rfl k0 ?_
  refine wp_loc rfl rfl ?_
  refine wp_iast rfl k4 i3 ?_
  refine wp_loc rfl rfl ?_
  refine wp_getR rfl rfl rfl rfl k0 e4 ?_
  refine wp_loc rfl rfl ?_
  refine wp_getI rfl rfl rfl k0 ?_
  refine wp_iconst (v := 0) rfl (by decide) ?_
  refine wp_zast rfl k5 i4 ?_
  refine wp_loc rfl rfl ?_
  refine wp_stk rfl rfl rfl ?_
  refine wp_getI rfl rfl rfl k0 ?_
  refine wp_iconst (v := 1) rfl (by decide) ?_
  refine wp_stk rfl rfl rfl ?_
  refine wp_putI rfl rfl (Or.inl rfl) rfl (fun h9 => by cases h9) k0 ?_
  exact w
theorem b38_71 {n : Nat} {h : q_Hp} {Q : Option Value → q_Hp → Prop} {x0 : Nat} {x1 : Int64} {x3 : Int32} {x4 : Int32} {x5 : Int32} (q : Q none h) : q_wp n 38 71 [some (.ref x0), some (.long x1), none, some (.int x3), some (.int x4), some (.int x5)] [] h Q := by
  exact wp_ret rfl rfl q
theorem b39_0 {n : Nat} {h : q_Hp} {Q : Option Value → q_Hp → Prop} {x0 : Nat} {x1 : Int32} (w : q_wp n 39 2 [some (.ref x0), some (.int x1), some (.int 0)] [] h Q) : q_wp n 39 0 [some (.ref x0), some (.int x1), none] [] h Q := by
  refine wp_iconst (v := 0) rfl (by decide) ?_
  refine wp_loc rfl rfl ?_
  exact w
theorem b39_2 {n : Nat} {h : q_Hp} {Q : Option Value → q_Hp → Prop} {x0 : Nat} {x1 : Int32} {x2 : Int32} (wt : 1200 < x2 → q_wp n 39 110 [some (.ref x0), some (.int x1), some (.int x2)] [] h Q) (wf : ¬ 1200 < x2 → q_wp n 39 9 [some (.ref x0), some (.int x1), some (.int x2)] [] h Q) : q_wp n 39 2 [some (.ref x0), some (.int x1), some (.int x2)] [] h Q := by
  refine wp_loc rfl rfl ?_
  refine wp_sipush (v := 1200) rfl (by decide) ?_
  exact wp_icgt (tgt := 110) rfl (by decide) wt wf
theorem b39_9 {n : Nat} {h : q_Hp} {Q : Option Value → q_Hp → Prop} {x0 : Nat} {x1 : Int32} {x2 : Int32} {m : Nat} {P : Int32 → q_Hp → Prop} (hc : q_mI m 25 [.ref x0] h P) (hm : m ≤ n) (w : ∀ (z : Int32) (h1 : q_Hp), P z h1 → q_wp (n + 1) 39 13 [some (.ref x0), some (.int x1), some (.int x2)] [.int z] h1 Q) : q_wp (n + 1) 39 9 [some (.ref x0), some (.int x1), some (.int x2)] [] h Q := by
  refine wp_loc rfl rfl ?_
  exact wp_callI (av := [.ref x0]) rfl rfl rfl (by decide) rfl rfl rfl hm hc w
theorem b39_13 {n : Nat} {h : q_Hp} {Q : Option Value → q_Hp → Prop} {x0 : Nat} {x1 : Int32} {x2 : Int32} {s0 : Int32} (wt : ¬ s0 = 6 → q_wp n 39 36 [some (.ref x0), some (.int x1), some (.int x2)] [] h Q) (wf : s0 = 6 → q_wp n 39 18 [some (.ref x0), some (.int x1), some (.int x2)] [] h Q) : q_wp n 39 13 [some (.ref x0), some (.int x1), some (.int x2)] [.int s0] h Q := by
  refine wp_bipush (v := 6) rfl (by decide) ?_
  exact wp_icne (tgt := 36) rfl (by decide) wt wf
theorem b39_18 {n : Nat} {h : q_Hp} {Q : Option Value → q_Hp → Prop} {x0 : Nat} {x1 : Int32} {x2 : Int32} (k0 : q_ok h x0 1) {m : Nat} {P : q_Hp → Prop} (hc : q_mV m 40 [.ref x0, .int x1] (q_sI h x0 14 ((qI h x0 14) + 1)) P) (hm : m ≤ n) (w : ∀ h1 : q_Hp, P h1 → q_wp (n + 1) 39 33 [some (.ref x0), some (.int x1), some (.int x2)] [] h1 Q) : q_wp (n + 1) 39 18 [some (.ref x0), some (.int x1), some (.int x2)] [] h Q := by
  refine wp_loc rfl rfl ?_
  refine wp_stk rfl rfl rfl ?_
  refine wp_getI rfl rfl rfl k0 ?_
  refine wp_iconst (v := 1) rfl (by decide) ?_
  refine wp_stk rfl rfl rfl ?_
  refine wp_putI rfl rfl (Or.inl rfl) rfl (fun h9 => by cases h9) k0 ?_
  refine wp_loc rfl rfl ?_
  refine wp_loc rfl rfl ?_
  exact wp_callV (av := [.ref x0, .int x1]) rfl rfl rfl (by decide) rfl rfl rfl hm hc w
theorem b39_33 {n : Nat} {h : q_Hp} {Q : Option Value → q_Hp → Prop} {x0 : Nat} {x1 : Int32} {x2 : Int32} (w : q_wp n 39 94 [some (.ref x0), some (.int x1), some (.int x2)] [] h Q) : q_wp n 39 33 [some (.ref x0), some (.int x1), some (.int x2)] [] h Q := by
  refine wp_goto (tgt := 94) rfl (by decide) ?_
  exact w
theorem b39_36 {n : Nat} {h : q_Hp} {Q : Option Value → q_Hp → Prop} {x0 : Nat} {x1 : Int32} {x2 : Int32} {m : Nat} {P : Int32 → q_Hp → Prop} (hc : q_mI m 25 [.ref x0] h P) (hm : m ≤ n) (w : ∀ (z : Int32) (h1 : q_Hp), P z h1 → q_wp (n + 1) 39 40 [some (.ref x0), some (.int x1), some (.int x2)] [.int z] h1 Q) : q_wp (n + 1) 39 36 [some (.ref x0), some (.int x1), some (.int x2)] [] h Q := by
  refine wp_loc rfl rfl ?_
  exact wp_callI (av := [.ref x0]) rfl rfl rfl (by decide) rfl rfl rfl hm hc w
theorem b39_40 {n : Nat} {h : q_Hp} {Q : Option Value → q_Hp → Prop} {x0 : Nat} {x1 : Int32} {x2 : Int32} {s0 : Int32} (wt : ¬ s0 = 7 → q_wp n 39 63 [some (.ref x0), some (.int x1), some (.int x2)] [] h Q) (wf : s0 = 7 → q_wp n 39 45 [some (.ref x0), some (.int x1), some (.int x2)] [] h Q) : q_wp n 39 40 [some (.ref x0), some (.int x1), some (.int x2)] [.int s0] h Q := by
  refine wp_bipush (v := 7) rfl (by decide) ?_
  exact wp_icne (tgt := 63) rfl (by decide) wt wf
theorem b39_45 {n : Nat} {h : q_Hp} {Q : Option Value → q_Hp → Prop} {x0 : Nat} {x1 : Int32} {x2 : Int32} (k0 : q_ok h x0 1) {m : Nat} {P : q_Hp → Prop} (hc : q_mV m 41 [.ref x0, .int x1] (q_sI h x0 14 ((qI h x0 14) + 1)) P) (hm : m ≤ n) (w : ∀ h1 : q_Hp, P h1 → q_wp (n + 1) 39 60 [some (.ref x0), some (.int x1), some (.int x2)] [] h1 Q) : q_wp (n + 1) 39 45 [some (.ref x0), some (.int x1), some (.int x2)] [] h Q := by
  refine wp_loc rfl rfl ?_
  refine wp_stk rfl rfl rfl ?_
  refine wp_getI rfl rfl rfl k0 ?_
  refine wp_iconst (v := 1) rfl (by decide) ?_
  refine wp_stk rfl rfl rfl ?_
  refine wp_putI rfl rfl (Or.inl rfl) rfl (fun h9 => by cases h9) k0 ?_
  refine wp_loc rfl rfl ?_
  refine wp_loc rfl rfl ?_
  exact wp_callV (av := [.ref x0, .int x1]) rfl rfl rfl (by decide) rfl rfl rfl hm hc w
theorem b39_60 {n : Nat} {h : q_Hp} {Q : Option Value → q_Hp → Prop} {x0 : Nat} {x1 : Int32} {x2 : Int32} (w : q_wp n 39 94 [some (.ref x0), some (.int x1), some (.int x2)] [] h Q) : q_wp n 39 60 [some (.ref x0), some (.int x1), some (.int x2)] [] h Q := by
  refine wp_goto (tgt := 94) rfl (by decide) ?_
  exact w
theorem b39_63 {n : Nat} {h : q_Hp} {Q : Option Value → q_Hp → Prop} {x0 : Nat} {x1 : Int32} {x2 : Int32} {m : Nat} {P : Int32 → q_Hp → Prop} (hc : q_mI m 25 [.ref x0] h P) (hm : m ≤ n) (w : ∀ (z : Int32) (h1 : q_Hp), P z h1 → q_wp (n + 1) 39 67 [some (.ref x0), some (.int x1), some (.int x2)] [.int z] h1 Q) : q_wp (n + 1) 39 63 [some (.ref x0), some (.int x1), some (.int x2)] [] h Q := by
  refine wp_loc rfl rfl ?_
  exact wp_callI (av := [.ref x0]) rfl rfl rfl (by decide) rfl rfl rfl hm hc w
theorem b39_67 {n : Nat} {h : q_Hp} {Q : Option Value → q_Hp → Prop} {x0 : Nat} {x1 : Int32} {x2 : Int32} {s0 : Int32} (wt : ¬ s0 = 8 → q_wp n 39 93 [some (.ref x0), some (.int x1), some (.int x2)] [] h Q) (wf : s0 = 8 → q_wp n 39 72 [some (.ref x0), some (.int x1), some (.int x2)] [] h Q) : q_wp n 39 67 [some (.ref x0), some (.int x1), some (.int x2)] [.int s0] h Q := by
  refine wp_bipush (v := 8) rfl (by decide) ?_
  exact wp_icne (tgt := 93) rfl (by decide) wt wf
theorem b39_72 {n : Nat} {h : q_Hp} {Q : Option Value → q_Hp → Prop} {x0 : Nat} {x1 : Int32} {x2 : Int32} {v0 : Nat} (k0 : q_ok h x0 1) (e0 : qR h x0 13 = v0) (k1 : q_ok h v0 6) (w : q_wp n 39 94 [some (.ref x0), some (.int x1), some (.int x2)] [] (q_sI (q_sI h x0 14 ((qI h x0 14) + 1)) v0 6 1) Q) : q_wp n 39 72 [some (.ref x0), some (.int x1), some (.int x2)] [] h Q := by
  refine wp_loc rfl rfl ?_
  refine wp_stk rfl rfl rfl ?_
  refine wp_getI rfl rfl rfl k0 ?_
  refine wp_iconst (v := 1) rfl (by decide) ?_
  refine wp_stk rfl rfl rfl ?_
  refine wp_putI rfl rfl (Or.inl rfl) rfl (fun h9 => by cases h9) k0 ?_
  refine wp_loc rfl rfl ?_
  refine wp_getR rfl rfl rfl rfl k0 e0 ?_
  refine wp_iconst (v := 1) rfl (by decide) ?_
  refine wp_putI rfl rfl (Or.inl rfl) rfl (fun _ => Or.inr rfl) k1 ?_
  refine wp_goto (tgt := 94) rfl (by decide) ?_
  exact w
theorem b39_93 {n : Nat} {h : q_Hp} {Q : Option Value → q_Hp → Prop} {x0 : Nat} {x1 : Int32} {x2 : Int32} (q : Q none h) : q_wp n 39 93 [some (.ref x0), some (.int x1), some (.int x2)] [] h Q := by
  exact wp_ret rfl rfl q
theorem b39_94 {n : Nat} {h : q_Hp} {Q : Option Value → q_Hp → Prop} {x0 : Nat} {x1 : Int32} {x2 : Int32} (k0 : q_ok h x0 1) (w : q_wp n 39 2 [some (.ref x0), some (.int x1), some (.int (x2 + 1))] [] (q_sI h x0 14 ((qI h x0 14) + 1)) Q) : q_wp n 39 94 [some (.ref x0), some (.int x1), some (.int x2)] [] h Q := by
  refine wp_loc rfl rfl ?_
  refine wp_stk rfl rfl rfl ?_
  refine wp_getI rfl rfl rfl k0 ?_
  refine wp_iconst (v := 1) rfl (by decide) ?_
  refine wp_stk rfl rfl rfl ?_
  refine wp_putI rfl rfl (Or.inl rfl) rfl (fun h9 => by cases h9) k0 ?_
  refine wp_iinc (v := 1) rfl rfl (by decide) rfl ?_
  refine wp_goto (tgt := 2) rfl (by decide) ?_
  exact w
theorem b39_110 {n : Nat} {h : q_Hp} {Q : Option Value → q_Hp → Prop} {x0 : Nat} {x1 : Int32} {x2 : Int32} (q : Q none h) : q_wp n 39 110 [some (.ref x0), some (.int x1), some (.int x2)] [] h Q := by
  exact wp_ret rfl rfl q
theorem b40_0 {n : Nat} {h : q_Hp} {Q : Option Value → q_Hp → Prop} {x0 : Nat} {x1 : Int32} {m : Nat} {P : Int64 → q_Hp → Prop} (hc : q_mJ m 37 [.ref x0] h P) (hm : m ≤ n) (w : ∀ (z : Int64) (h1 : q_Hp), P z h1 → q_wp (n + 1) 40 4 [some (.ref x0), some (.int x1), none, none, none, none] [.long z] h1 Q) : q_wp (n + 1) 40 0 [some (.ref x0), some (.int x1), none, none, none, none] [] h Q := by
  refine wp_loc rfl rfl ?_
  exact wp_callJ (av := [.ref x0]) rfl rfl rfl (by decide) rfl rfl rfl hm hc w
theorem b40_4 {n : Nat} {h : q_Hp} {Q : Option Value → q_Hp → Prop} {x0 : Nat} {x1 : Int32} {s0 : Int64} (k0 : q_ok h x0 1) {m : Nat} {P : Int32 → q_Hp → Prop} (hc : q_mI m 28 [.ref x0] (q_sI h x0 14 ((qI h x0 14) + 1)) P) (hm : m ≤ n) (w : ∀ (z : Int32) (h1 : q_Hp), P z h1 → q_wp (n + 1) 40 19 [some (.ref x0), some (.int x1), some (.long s0), none, none, none] [.int z] h1 Q) : q_wp (n + 1) 40 4 [some (.ref x0), some (.int x1), none, none, none, none] [.long s0] h Q := by
  refine wp_loc rfl rfl ?_
  refine wp_loc rfl rfl ?_
  refine wp_stk rfl rfl rfl ?_
  refine wp_getI rfl rfl rfl k0 ?_
  refine wp_iconst (v := 1) rfl (by decide) ?_
  refine wp_stk rfl rfl rfl ?_
  refine wp_putI rfl rfl (Or.inl rfl) rfl (fun h9 => by cases h9) k0 ?_
  refine wp_loc rfl rfl ?_
  exact wp_callI (av := [.ref x0]) rfl rfl rfl (by decide) rfl rfl rfl hm hc w
theorem b40_19 {n : Nat} {h : q_Hp} {Q : Option Value → q_Hp → Prop} {x0 : Nat} {x1 : Int32} {x2 : Int64} {s0 : Int32} (wt : ¬ x1 = (-1) → q_wp n 40 43 [some (.ref x0), some (.int x1), some (.long x2), none, some (.int s0), some (.int 4)] [] h Q) (wf : x1 = (-1) → q_wp n 40 29 [some (.ref x0), some (.int x1), some (.long x2), none, some (.int s0), some (.int 4)] [] h Q) : q_wp n 40 19 [some (.ref x0), some (.int x1), some (.long x2), none, none, none] [.int s0] h Q := by
  refine wp_loc rfl rfl ?_
  refine wp_iconst (v := 4) rfl (by decide) ?_
  refine wp_loc rfl rfl ?_
  refine wp_loc rfl rfl ?_
  refine wp_iconst (v := (-1)) rfl (by decide) ?_
  exact wp_icne (tgt := 43) rfl (by decide) wt wf
theorem b40_29 {n : Nat} {h : q_Hp} {Q : Option Value → q_Hp → Prop} {x0 : Nat} {x1 : Int32} {x2 : Int64} {x4 : Int32} {x5 : Int32} {v0 : Nat} (k0 : q_ok h x0 1) (e0 : qR h x0 13 = v0) {m : Nat} {P : Int32 → q_Hp → Prop} (hc : q_mI m 131 [.ref v0, .int x4] h P) (hm : m ≤ n) (w : ∀ (z : Int32) (h1 : q_Hp), P z h1 → q_wp (n + 1) 40 38 [some (.ref x0), some (.int x1), some (.long x2), none, some (.int x4), some (.int x5)] [.int z] h1 Q) : q_wp (n + 1) 40 29 [some (.ref x0), some (.int x1), some (.long x2), none, some (.int x4), some (.int x5)] [] h Q := by
  refine wp_loc rfl rfl ?_
  refine wp_getR rfl rfl rfl rfl k0 e0 ?_
  refine wp_loc rfl rfl ?_
  exact wp_callI (av := [.ref v0, .int x4]) rfl rfl rfl (by decide) rfl rfl rfl hm hc w
theorem b40_38 {n : Nat} {h : q_Hp} {Q : Option Value → q_Hp → Prop} {x0 : Nat} {x1 : Int32} {x2 : Int64} {x4 : Int32} {x5 : Int32} {s0 : Int32} (w : q_wp n 40 56 [some (.ref x0), some (.int x1), some (.long x2), none, some (.int x4), some (.int s0)] [] h Q) : q_wp n 40 38 [some (.ref x0), some (.int x1), some (.long x2), none, some (.int x4), some (.int x5)] [.int s0] h Q := by
  refine wp_loc rfl rfl ?_
  refine wp_goto (tgt := 56) rfl (by decide) ?_
  exact w
theorem b40_43 {n : Nat} {h : q_Hp} {Q : Option Value → q_Hp → Prop} {x0 : Nat} {x1 : Int32} {x2 : Int64} {x4 : Int32} {x5 : Int32} {v0 : Nat} {v1 : Nat} (k0 : q_ok h x0 1) (e0 : qR h x0 13 = v0) (k1 : q_ok h v0 6) (e1 : qR h v0 8 = v1) {m : Nat} {P : q_Hp → Prop} (hc : q_mV m 233 [.ref v1, .int x1, .int x4] h P) (hm : m ≤ n) (w : ∀ h1 : q_Hp, P h1 → q_wp (n + 1) 40 56 [some (.ref x0), some (.int x1), some (.long x2), none, some (.int x4), some (.int x5)] [] h1 Q) : q_wp (n + 1) 40 43 [some (.ref x0), some (.int x1), some (.long x2), none, some (.int x4), some (.int x5)] [] h Q := by
  refine wp_loc rfl rfl ?_
  refine wp_getR rfl rfl rfl rfl k0 e0 ?_
  refine wp_getR rfl rfl rfl rfl k1 e1 ?_
  refine wp_loc rfl rfl ?_
  refine wp_loc rfl rfl ?_
  exact wp_callV (av := [.ref v1, .int x1, .int x4]) rfl rfl rfl (by decide) rfl rfl rfl hm hc w
theorem b40_56 {n : Nat} {h : q_Hp} {Q : Option Value → q_Hp → Prop} {x0 : Nat} {x1 : Int32} {x2 : Int64} {x4 : Int32} {x5 : Int32} {m : Nat} {P : q_Hp → Prop} (hc : q_mV m 38 [.ref x0, .long x2, .int 1, .int x5, .int x4] h P) (hm : m ≤ n) (w : ∀ h1 : q_Hp, P h1 → q_wp (n + 1) 40 66 [some (.ref x0), some (.int x1), some (.long x2), none, some (.int x4), some (.int x5)] [] h1 Q) : q_wp (n + 1) 40 56 [some (.ref x0), some (.int x1), some (.long x2), none, some (.int x4), some (.int x5)] [] h Q := by
  refine wp_loc rfl rfl ?_
  refine wp_loc rfl rfl ?_
  refine wp_iconst (v := 1) rfl (by decide) ?_
  refine wp_loc rfl rfl ?_
  refine wp_loc rfl rfl ?_
  exact wp_callV (av := [.ref x0, .long x2, .int 1, .int x5, .int x4]) rfl rfl rfl (by decide) rfl rfl rfl hm hc w
theorem b40_66 {n : Nat} {h : q_Hp} {Q : Option Value → q_Hp → Prop} {x0 : Nat} {x1 : Int32} {x2 : Int64} {x4 : Int32} {x5 : Int32} (q : Q none h) : q_wp n 40 66 [some (.ref x0), some (.int x1), some (.long x2), none, some (.int x4), some (.int x5)] [] h Q := by
  exact wp_ret rfl rfl q
theorem b41_0 {n : Nat} {h : q_Hp} {Q : Option Value → q_Hp → Prop} {x0 : Nat} {x1 : Int32} {m : Nat} {P : Int64 → q_Hp → Prop} (hc : q_mJ m 37 [.ref x0] h P) (hm : m ≤ n) (w : ∀ (z : Int64) (h1 : q_Hp), P z h1 → q_wp (n + 1) 41 4 [some (.ref x0), some (.int x1), none, none, none, none, none, none] [.long z] h1 Q) : q_wp (n + 1) 41 0 [some (.ref x0), some (.int x1), none, none, none, none, none, none] [] h Q := by
  refine wp_loc rfl rfl ?_
  exact wp_callJ (av := [.ref x0]) rfl rfl rfl (by decide) rfl rfl rfl hm hc w
theorem b41_4 {n : Nat} {h : q_Hp} {Q : Option Value → q_Hp → Prop} {x0 : Nat} {x1 : Int32} {s0 : Int64} (k0 : q_ok h x0 1) {m : Nat} {P : Int32 → q_Hp → Prop} (hc : q_mI m 36 [.ref x0] (q_sI h x0 14 ((qI h x0 14) + 1)) P) (hm : m ≤ n) (w : ∀ (z : Int32) (h1 : q_Hp), P z h1 → q_wp (n + 1) 41 19 [some (.ref x0), some (.int x1), some (.long s0), none, none, none, none, none] [.int z] h1 Q) : q_wp (n + 1) 41 4 [some (.ref x0), some (.int x1), none, none, none, none, none, none] [.long s0] h Q := by
  refine wp_loc rfl rfl ?_
  refine wp_loc rfl rfl ?_
  refine wp_stk rfl rfl rfl ?_
  refine wp_getI rfl rfl rfl k0 ?_
  refine wp_iconst (v := 1) rfl (by decide) ?_
  refine wp_stk rfl rfl rfl ?_
  refine wp_putI rfl rfl (Or.inl rfl) rfl (fun h9 => by cases h9) k0 ?_
  refine wp_loc rfl rfl ?_
  exact wp_callI (av := [.ref x0]) rfl rfl rfl (by decide) rfl rfl rfl hm hc w
theorem b41_19 {n : Nat} {h : q_Hp} {Q : Option Value → q_Hp → Prop} {x0 : Nat} {x1 : Int32} {x2 : Int64} {s0 : Int32} (k0 : q_ok h x0 1) {m : Nat} {P : Int32 → q_Hp → Prop} (hc : q_mI m 29 [.ref x0] (q_sI h x0 14 ((qI h x0 14) + 1)) P) (hm : m ≤ n) (w : ∀ (z : Int32) (h1 : q_Hp), P z h1 → q_wp (n + 1) 41 35 [some (.ref x0), some (.int x1), some (.long x2), none, some (.int s0), none, none, none] [.int z] h1 Q) : q_wp (n + 1) 41 19 [some (.ref x0), some (.int x1), some (.long x2), none, none, none, none, none] [.int s0] h Q := by
  refine wp_loc rfl rfl ?_
  refine wp_loc rfl rfl ?_
  refine wp_stk rfl rfl rfl ?_
  refine wp_getI rfl rfl rfl k0 ?_
  refine wp_iconst (v := 1) rfl (by decide) ?_
  refine wp_stk rfl rfl rfl ?_
  refine wp_putI rfl rfl (Or.inl rfl) rfl (fun h9 => by cases h9) k0 ?_
  refine wp_loc rfl rfl ?_
  exact wp_callI (av := [.ref x0]) rfl rfl rfl (by decide) rfl rfl rfl hm hc w
theorem b41_35 {n : Nat} {h : q_Hp} {Q : Option Value → q_Hp → Prop} {x0 : Nat} {x1 : Int32} {x2 : Int64} {x4 : Int32} {s0 : Int32} (k0 : q_ok h x0 1) {m : Nat} {P : Int32 → q_Hp → Prop} (hc : q_mI m 36 [.ref x0] (q_sI h x0 14 ((qI h x0 14) + 1)) P) (hm : m ≤ n) (w : ∀ (z : Int32) (h1 : q_Hp), P z h1 → q_wp (n + 1) 41 51 [some (.ref x0), some (.int x1), some (.long x2), none, some (.int x4), some (.int s0), none, none] [.int z] h1 Q) : q_wp (n + 1) 41 35 [some (.ref x0), some (.int x1), some (.long x2), none, some (.int x4), none, none, none] [.int s0] h Q := by
  refine wp_loc rfl rfl ?_
  refine wp_loc rfl rfl ?_
  refine wp_stk rfl rfl rfl ?_
  refine wp_getI rfl rfl rfl k0 ?_
  refine wp_iconst (v := 1) rfl (by decide) ?_
  refine wp_stk rfl rfl rfl ?_
  refine wp_putI rfl rfl (Or.inl rfl) rfl (fun h9 => by cases h9) k0 ?_
  refine wp_loc rfl rfl ?_
  exact wp_callI (av := [.ref x0]) rfl rfl rfl (by decide) rfl rfl rfl hm hc w
theorem b41_51 {n : Nat} {h : q_Hp} {Q : Option Value → q_Hp → Prop} {x0 : Nat} {x1 : Int32} {x2 : Int64} {x4 : Int32} {x5 : Int32} {s0 : Int32} (wt : ¬ x1 = (-1) → q_wp n 41 79 [some (.ref x0), some (.int x1), some (.long x2), none, some (.int x4), some (.int x5), some (.int s0), some (.int (-1))] [] h Q) (wf : x1 = (-1) → q_wp n 41 61 [some (.ref x0), some (.int x1), some (.long x2), none, some (.int x4), some (.int x5), some (.int s0), some (.int (-1))] [] h Q) : q_wp n 41 51 [some (.ref x0), some (.int x1), some (.long x2), none, some (.int x4), some (.int x5), none, none] [.int s0] h Q := by
  refine wp_loc rfl rfl ?_
  refine wp_iconst (v := (-1)) rfl (by decide) ?_
  refine wp_loc rfl rfl ?_
  refine wp_loc rfl rfl ?_
  refine wp_iconst (v := (-1)) rfl (by decide) ?_
  exact wp_icne (tgt := 79) rfl (by decide) wt wf
theorem b41_61 {n : Nat} {h : q_Hp} {Q : Option Value → q_Hp → Prop} {x0 : Nat} {x1 : Int32} {x2 : Int64} {x4 : Int32} {x5 : Int32} {x6 : Int32} {x7 : Int32} {v0 : Nat} (k0 : q_ok h x0 1) (e0 : qR h x0 13 = v0) {m : Nat} {P : Int32 → q_Hp → Prop} (hc : q_mI m 133 [.ref v0, .int x5, .int x4, .int x6] h P) (hm : m ≤ n) (w : ∀ (z : Int32) (h1 : q_Hp), P z h1 → q_wp (n + 1) 41 74 [some (.ref x0), some (.int x1), some (.long x2), none, some (.int x4), some (.int x5), some (.int x6), some (.int x7)] [.int z] h1 Q) : q_wp (n + 1) 41 61 [some (.ref x0), some (.int x1), some (.long x2), none, some (.int x4), some (.int x5), some (.int x6), some (.int x7)] [] h Q := by
  refine wp_loc rfl rfl ?_
  refine wp_getR rfl rfl rfl rfl k0 e0 ?_
  refine wp_loc rfl rfl ?_
  refine wp_loc rfl rfl ?_
  refine wp_loc rfl rfl ?_
  exact wp_callI (av := [.ref v0, .int x5, .int x4, .int x6]) rfl rfl rfl (by decide) rfl rfl rfl hm hc w
theorem b41_74 {n : Nat} {h : q_Hp} {Q : Option Value → q_Hp → Prop} {x0 : Nat} {x1 : Int32} {x2 : Int64} {x4 : Int32} {x5 : Int32} {x6 : Int32} {x7 : Int32} {s0 : Int32} (w : q_wp n 41 93 [some (.ref x0), some (.int x1), some (.long x2), none, some (.int x4), some (.int x5), some (.int x6), some (.int s0)] [] h Q) : q_wp n 41 74 [some (.ref x0), some (.int x1), some (.long x2), none, some (.int x4), some (.int x5), some (.int x6), some (.int x7)] [.int s0] h Q := by
  refine wp_loc rfl rfl ?_
  refine wp_goto (tgt := 93) rfl (by decide) ?_
  exact w
theorem b41_79 {n : Nat} {h : q_Hp} {Q : Option Value → q_Hp → Prop} {x0 : Nat} {x1 : Int32} {x2 : Int64} {x4 : Int32} {x5 : Int32} {x6 : Int32} {x7 : Int32} {v0 : Nat} (k0 : q_ok h x0 1) (e0 : qR h x0 13 = v0) {m : Nat} {P : q_Hp → Prop} (hc : q_mV m 134 [.ref v0, .int x1, .int x5, .int x4, .int x6] h P) (hm : m ≤ n) (w : ∀ h1 : q_Hp, P h1 → q_wp (n + 1) 41 93 [some (.ref x0), some (.int x1), some (.long x2), none, some (.int x4), some (.int x5), some (.int x6), some (.int x7)] [] h1 Q) : q_wp (n + 1) 41 79 [some (.ref x0), some (.int x1), some (.long x2), none, some (.int x4), some (.int x5), some (.int x6), some (.int x7)] [] h Q := by
  refine wp_loc rfl rfl ?_
  refine wp_getR rfl rfl rfl rfl k0 e0 ?_
  refine wp_loc rfl rfl ?_
  refine wp_loc rfl rfl ?_
  refine wp_loc rfl rfl ?_
  refine wp_loc rfl rfl ?_
  exact wp_callV (av := [.ref v0, .int x1, .int x5, .int x4, .int x6]) rfl rfl rfl (by decide) rfl rfl rfl hm hc w
theorem b41_93 {n : Nat} {h : q_Hp} {Q : Option Value → q_Hp → Prop} {x0 : Nat} {x1 : Int32} {x2 : Int64} {x4 : Int32} {x5 : Int32} {x6 : Int32} {x7 : Int32} {m : Nat} {P : q_Hp → Prop} (hc : q_mV m 38 [.ref x0, .long x2, .int 2, .int x7, .int (-1)] h P) (hm : m ≤ n) (w : ∀ h1 : q_Hp, P h1 → q_wp (n + 1) 41 102 [some (.ref x0), some (.int x1), some (.long x2), none, some (.int x4), some (.int x5), some (.int x6), some (.int x7)] [] h1 Q) : q_wp (n + 1) 41 93 [some (.ref x0), some (.int x1), some (.long x2), none, some (.int x4), some (.int x5), some (.int x6), some (.int x7)] [] h Q := by
  refine wp_loc rfl rfl ?_
  refine wp_loc rfl rfl ?_
  refine wp_iconst (v := 2) rfl (by decide) ?_
  refine wp_loc rfl rfl ?_
  refine wp_iconst (v := (-1)) rfl (by decide) ?_
  exact wp_callV (av := [.ref x0, .long x2, .int 2, .int x7, .int (-1)]) rfl rfl rfl (by decide) rfl rfl rfl hm hc w
theorem b41_102 {n : Nat} {h : q_Hp} {Q : Option Value → q_Hp → Prop} {x0 : Nat} {x1 : Int32} {x2 : Int64} {x4 : Int32} {x5 : Int32} {x6 : Int32} {x7 : Int32} (q : Q none h) : q_wp n 41 102 [some (.ref x0), some (.int x1), some (.long x2), none, some (.int x4), some (.int x5), some (.int x6), some (.int x7)] [] h Q := by
  exact wp_ret rfl rfl q
theorem b42_0 {n : Nat} {h : q_Hp} {Q : Option Value → q_Hp → Prop} {x0 : Nat} {v0 : Nat} {v1 : Nat} (k0 : q_ok h x0 1) (e0 : qR h x0 13 = v0) (k1 : q_ok h v0 6) (e1 : qR h v0 18 = v1) {m : Nat} {P : Int32 → q_Hp → Prop} (hc : q_mI m 128 [.int (qI h v0 3), .int 0] (q_sI h x0 14 ((qI h x0 14) + 1)) P) (hm : m ≤ n) (w : ∀ (z : Int32) (h1 : q_Hp), P z h1 → q_wp (n + 1) 42 30 [some (.ref x0), some (.int (qI h v0 3))] [.int z, .ref v1] h1 Q) : q_wp (n + 1) 42 0 [some (.ref x0), none] [] h Q := by
  refine wp_loc rfl rfl ?_
  refine wp_getR rfl rfl rfl rfl k0 e0 ?_
  refine wp_getI rfl rfl rfl k1 ?_
  refine wp_loc rfl rfl ?_
  refine wp_loc rfl rfl ?_
  refine wp_stk rfl rfl rfl ?_
  refine wp_getI rfl rfl rfl k0 ?_
  refine wp_iconst (v := 1) rfl (by decide) ?_
  refine wp_stk rfl rfl rfl ?_
  refine wp_putI rfl rfl (Or.inl rfl) rfl (fun h9 => by cases h9) k0 ?_
  refine wp_loc rfl rfl ?_
  refine wp_getR rfl rfl rfl rfl k0 e0 ?_
  refine wp_getR rfl rfl rfl rfl k1 e1 ?_
  refine wp_loc rfl rfl ?_
  refine wp_iconst (v := 0) rfl (by decide) ?_
  exact wp_callI (av := [.int (qI h v0 3), .int 0]) rfl rfl rfl (by decide) rfl rfl rfl hm hc w
theorem b42_30 {n : Nat} {h : q_Hp} {Q : Option Value → q_Hp → Prop} {x0 : Nat} {x1 : Int32} {s0 : Int32} {s1 : Nat} {v0 : Nat} (k0 : q_ok h x0 1) (e0 : qR h x0 12 = v0) {m : Nat} {P : Int32 → q_Hp → Prop} (hc : q_mI m 15 [.ref v0] h P) (hm : m ≤ n) (w : ∀ (z : Int32) (h1 : q_Hp), P z h1 → q_wp (n + 1) 42 37 [some (.ref x0), some (.int x1)] [.int z, .int s0, .ref s1] h1 Q) : q_wp (n + 1) 42 30 [some (.ref x0), some (.int x1)] [.int s0, .ref s1] h Q := by
  refine wp_loc rfl rfl ?_
  refine wp_getR rfl rfl rfl rfl k0 e0 ?_
  exact wp_callI (av := [.ref v0]) rfl rfl rfl (by decide) rfl rfl rfl hm hc w
theorem b42_37 {n : Nat} {h : q_Hp} {Q : Option Value → q_Hp → Prop} {x0 : Nat} {x1 : Int32} {s0 : Int32} {s1 : Int32} {s2 : Nat} {m : Nat} {P : q_Hp → Prop} (hc : q_mV m 233 [.ref s2, .int s1, .int s0] h P) (hm : m ≤ n) (w : ∀ h1 : q_Hp, P h1 → q_wp (n + 1) 42 40 [some (.ref x0), some (.int x1)] [] h1 Q) : q_wp (n + 1) 42 37 [some (.ref x0), some (.int x1)] [.int s0, .int s1, .ref s2] h Q := by
  exact wp_callV (av := [.ref s2, .int s1, .int s0]) rfl rfl rfl (by decide) rfl rfl rfl hm hc w
theorem b42_40 {n : Nat} {h : q_Hp} {Q : Option Value → q_Hp → Prop} {x0 : Nat} {x1 : Int32} {m : Nat} {P : q_Hp → Prop} (hc : q_mV m 50 [.ref x0, .int 0] h P) (hm : m ≤ n) (w : ∀ h1 : q_Hp, P h1 → q_wp (n + 1) 42 45 [some (.ref x0), some (.int x1)] [] h1 Q) : q_wp (n + 1) 42 40 [some (.ref x0), some (.int x1)] [] h Q := by
  refine wp_loc rfl rfl ?_
  refine wp_iconst (v := 0) rfl (by decide) ?_
  exact wp_callV (av := [.ref x0, .int 0]) rfl rfl rfl (by decide) rfl rfl rfl hm hc w
theorem b42_45 {n : Nat} {h : q_Hp} {Q : Option Value → q_Hp → Prop} {x0 : Nat} {x1 : Int32} {v0 : Nat} {v1 : Nat} (k0 : q_ok h x0 1) (e0 : qR h x0 13 = v0) (k1 : q_ok h v0 6) (e1 : qR h v0 19 = v1) {m : Nat} {P : Int32 → q_Hp → Prop} (hc : q_mI m 128 [.int x1, .int 0] h P) (hm : m ≤ n) (w : ∀ (z : Int32) (h1 : q_Hp), P z h1 → q_wp (n + 1) 42 57 [some (.ref x0), some (.int x1)] [.int z, .ref v1] h1 Q) : q_wp (n + 1) 42 45 [some (.ref x0), some (.int x1)] [] h Q := by
  refine wp_loc rfl rfl ?_
  refine wp_getR rfl rfl rfl rfl k0 e0 ?_
  refine wp_getR rfl rfl rfl rfl k1 e1 ?_
  refine wp_loc rfl rfl ?_
  refine wp_iconst (v := 0) rfl (by decide) ?_
  exact wp_callI (av := [.int x1, .int 0]) rfl rfl rfl (by decide) rfl rfl rfl hm hc w
theorem b42_57 {n : Nat} {h : q_Hp} {Q : Option Value → q_Hp → Prop} {x0 : Nat} {x1 : Int32} {s0 : Int32} {s1 : Nat} {v0 : Nat} (k0 : q_ok h x0 1) (e0 : qR h x0 12 = v0) {m : Nat} {P : Int32 → q_Hp → Prop} (hc : q_mI m 15 [.ref v0] h P) (hm : m ≤ n) (w : ∀ (z : Int32) (h1 : q_Hp), P z h1 → q_wp (n + 1) 42 64 [some (.ref x0), some (.int x1)] [.int z, .int s0, .ref s1] h1 Q) : q_wp (n + 1) 42 57 [some (.ref x0), some (.int x1)] [.int s0, .ref s1] h Q := by
  refine wp_loc rfl rfl ?_
  refine wp_getR rfl rfl rfl rfl k0 e0 ?_
  exact wp_callI (av := [.ref v0]) rfl rfl rfl (by decide) rfl rfl rfl hm hc w
theorem b42_64 {n : Nat} {h : q_Hp} {Q : Option Value → q_Hp → Prop} {x0 : Nat} {x1 : Int32} {s0 : Int32} {s1 : Int32} {s2 : Nat} {m : Nat} {P : q_Hp → Prop} (hc : q_mV m 233 [.ref s2, .int s1, .int s0] h P) (hm : m ≤ n) (w : ∀ h1 : q_Hp, P h1 → q_wp (n + 1) 42 67 [some (.ref x0), some (.int x1)] [] h1 Q) : q_wp (n + 1) 42 64 [some (.ref x0), some (.int x1)] [.int s0, .int s1, .ref s2] h Q := by
  exact wp_callV (av := [.ref s2, .int s1, .int s0]) rfl rfl rfl (by decide) rfl rfl rfl hm hc w
theorem b42_67 {n : Nat} {h : q_Hp} {Q : Option Value → q_Hp → Prop} {x0 : Nat} {x1 : Int32} {v0 : Nat} (k0 : q_ok h x0 1) (e0 : qR h x0 13 = v0) {m : Nat} {P : Int32 → q_Hp → Prop} (hc : q_mI m 25 [.ref x0] h P) (hm : m ≤ n) (w : ∀ (z : Int32) (h1 : q_Hp), P z h1 → q_wp (n + 1) 42 75 [some (.ref x0), some (.int x1)] [.int z, .ref v0] h1 Q) : q_wp (n + 1) 42 67 [some (.ref x0), some (.int x1)] [] h Q := by
  refine wp_loc rfl rfl ?_
  refine wp_getR rfl rfl rfl rfl k0 e0 ?_
  refine wp_loc rfl rfl ?_
  exact wp_callI (av := [.ref x0]) rfl rfl rfl (by decide) rfl rfl rfl hm hc w
theorem b42_75 {n : Nat} {h : q_Hp} {Q : Option Value → q_Hp → Prop} {x0 : Nat} {x1 : Int32} {s0 : Int32} {s1 : Nat} {m : Nat} {P : q_Hp → Prop} (hc : q_mV m 136 [.ref s1, .int s0] h P) (hm : m ≤ n) (w : ∀ h1 : q_Hp, P h1 → q_wp (n + 1) 42 78 [some (.ref x0), some (.int x1)] [] h1 Q) : q_wp (n + 1) 42 75 [some (.ref x0), some (.int x1)] [.int s0, .ref s1] h Q := by
  exact wp_callV (av := [.ref s1, .int s0]) rfl rfl rfl (by decide) rfl rfl rfl hm hc w
theorem b42_78 {n : Nat} {h : q_Hp} {Q : Option Value → q_Hp → Prop} {x0 : Nat} {x1 : Int32} {v0 : Nat} {v1 : Nat} (k0 : q_ok h x0 1) (e0 : qR h x0 13 = v0) (k1 : q_ok h v0 6) (e1 : qR h v0 18 = v1) {m : Nat} {P : Int32 → q_Hp → Prop} (hc : q_mI m 128 [.int x1, .int 1] (q_sI h x0 14 ((qI h x0 14) + 1)) P) (hm : m ≤ n) (w : ∀ (z : Int32) (h1 : q_Hp), P z h1 → q_wp (n + 1) 42 100 [some (.ref x0), some (.int x1)] [.int z, .ref v1] h1 Q) : q_wp (n + 1) 42 78 [some (.ref x0), some (.int x1)] [] h Q := by
  refine wp_loc rfl rfl ?_
  refine wp_stk rfl rfl rfl ?_
  refine wp_getI rfl rfl rfl k0 ?_
  refine wp_iconst (v := 1) rfl (by decide) ?_
  refine wp_stk rfl rfl rfl ?_
  refine wp_putI rfl rfl (Or.inl rfl) rfl (fun h9 => by cases h9) k0 ?_
  refine wp_loc rfl rfl ?_
  refine wp_getR rfl rfl rfl rfl k0 e0 ?_
  refine wp_getR rfl rfl rfl rfl k1 e1 ?_
  refine wp_loc rfl rfl ?_
  refine wp_iconst (v := 1) rfl (by decide) ?_
  exact wp_callI (av := [.int x1, .int 1]) rfl rfl rfl (by decide) rfl rfl rfl hm hc w
theorem b42_100 {n : Nat} {h : q_Hp} {Q : Option Value → q_Hp → Prop} {x0 : Nat} {x1 : Int32} {s0 : Int32} {s1 : Nat} {v0 : Nat} (k0 : q_ok h x0 1) (e0 : qR h x0 12 = v0) {m : Nat} {P : Int32 → q_Hp → Prop} (hc : q_mI m 15 [.ref v0] h P) (hm : m ≤ n) (w : ∀ (z : Int32) (h1 : q_Hp), P z h1 → q_wp (n + 1) 42 107 [some (.ref x0), some (.int x1)] [.int z, .int s0, .ref s1] h1 Q) : q_wp (n + 1) 42 100 [some (.ref x0), some (.int x1)] [.int s0, .ref s1] h Q := by
  refine wp_loc rfl rfl ?_
  refine wp_getR rfl rfl rfl rfl k0 e0 ?_
  exact wp_callI (av := [.ref v0]) rfl rfl rfl (by decide) rfl rfl rfl hm hc w
theorem b42_107 {n : Nat} {h : q_Hp} {Q : Option Value → q_Hp → Prop} {x0 : Nat} {x1 : Int32} {s0 : Int32} {s1 : Int32} {s2 : Nat} {m : Nat} {P : q_Hp → Prop} (hc : q_mV m 233 [.ref s2, .int s1, .int s0] h P) (hm : m ≤ n) (w : ∀ h1 : q_Hp, P h1 → q_wp (n + 1) 42 110 [some (.ref x0), some (.int x1)] [] h1 Q) : q_wp (n + 1) 42 107 [some (.ref x0), some (.int x1)] [.int s0, .int s1, .ref s2] h Q := by
  exact wp_callV (av := [.ref s2, .int s1, .int s0]) rfl rfl rfl (by decide) rfl rfl rfl hm hc w
theorem b42_110 {n : Nat} {h : q_Hp} {Q : Option Value → q_Hp → Prop} {x0 : Nat} {x1 : Int32} {m : Nat} {P : q_Hp → Prop} (hc : q_mV m 50 [.ref x0, .int 0] h P) (hm : m ≤ n) (w : ∀ h1 : q_Hp, P h1 → q_wp (n + 1) 42 115 [some (.ref x0), some (.int x1)] [] h1 Q) : q_wp (n + 1) 42 110 [some (.ref x0), some (.int x1)] [] h Q := by
  refine wp_loc rfl rfl ?_
  refine wp_iconst (v := 0) rfl (by decide) ?_
  exact wp_callV (av := [.ref x0, .int 0]) rfl rfl rfl (by decide) rfl rfl rfl hm hc w
theorem b42_115 {n : Nat} {h : q_Hp} {Q : Option Value → q_Hp → Prop} {x0 : Nat} {x1 : Int32} {v0 : Nat} {v1 : Nat} (k0 : q_ok h x0 1) (e0 : qR h x0 13 = v0) (k1 : q_ok h v0 6) (e1 : qR h v0 19 = v1) {m : Nat} {P : Int32 → q_Hp → Prop} (hc : q_mI m 128 [.int x1, .int 1] h P) (hm : m ≤ n) (w : ∀ (z : Int32) (h1 : q_Hp), P z h1 → q_wp (n + 1) 42 127 [some (.ref x0), some (.int x1)] [.int z, .ref v1] h1 Q) : q_wp (n + 1) 42 115 [some (.ref x0), some (.int x1)] [] h Q := by
  refine wp_loc rfl rfl ?_
  refine wp_getR rfl rfl rfl rfl k0 e0 ?_
  refine wp_getR rfl rfl rfl rfl k1 e1 ?_
  refine wp_loc rfl rfl ?_
  refine wp_iconst (v := 1) rfl (by decide) ?_
  exact wp_callI (av := [.int x1, .int 1]) rfl rfl rfl (by decide) rfl rfl rfl hm hc w
theorem b42_127 {n : Nat} {h : q_Hp} {Q : Option Value → q_Hp → Prop} {x0 : Nat} {x1 : Int32} {s0 : Int32} {s1 : Nat} {v0 : Nat} (k0 : q_ok h x0 1) (e0 : qR h x0 12 = v0) {m : Nat} {P : Int32 → q_Hp → Prop} (hc : q_mI m 15 [.ref v0] h P) (hm : m ≤ n) (w : ∀ (z : Int32) (h1 : q_Hp), P z h1 → q_wp (n + 1) 42 134 [some (.ref x0), some (.int x1)] [.int z, .int s0, .ref s1] h1 Q) : q_wp (n + 1) 42 127 [some (.ref x0), some (.int x1)] [.int s0, .ref s1] h Q := by
  refine wp_loc rfl rfl ?_
  refine wp_getR rfl rfl rfl rfl k0 e0 ?_
  exact wp_callI (av := [.ref v0]) rfl rfl rfl (by decide) rfl rfl rfl hm hc w
theorem b42_134 {n : Nat} {h : q_Hp} {Q : Option Value → q_Hp → Prop} {x0 : Nat} {x1 : Int32} {s0 : Int32} {s1 : Int32} {s2 : Nat} {m : Nat} {P : q_Hp → Prop} (hc : q_mV m 233 [.ref s2, .int s1, .int s0] h P) (hm : m ≤ n) (w : ∀ h1 : q_Hp, P h1 → q_wp (n + 1) 42 137 [some (.ref x0), some (.int x1)] [] h1 Q) : q_wp (n + 1) 42 134 [some (.ref x0), some (.int x1)] [.int s0, .int s1, .ref s2] h Q := by
  exact wp_callV (av := [.ref s2, .int s1, .int s0]) rfl rfl rfl (by decide) rfl rfl rfl hm hc w
theorem b42_137 {n : Nat} {h : q_Hp} {Q : Option Value → q_Hp → Prop} {x0 : Nat} {x1 : Int32} (k0 : q_ok h x0 1) (q : Q none (q_sI h x0 14 ((qI h x0 14) + 1))) : q_wp n 42 137 [some (.ref x0), some (.int x1)] [] h Q := by
  refine wp_loc rfl rfl ?_
  refine wp_stk rfl rfl rfl ?_
  refine wp_getI rfl rfl rfl k0 ?_
  refine wp_iconst (v := 1) rfl (by decide) ?_
  refine wp_stk rfl rfl rfl ?_
  refine wp_putI rfl rfl (Or.inl rfl) rfl (fun h9 => by cases h9) k0 ?_
  exact wp_ret rfl rfl q
theorem b43_0 {n : Nat} {h : q_Hp} {Q : Option Value → q_Hp → Prop} {x0 : Nat} {v0 : Nat} (k0 : q_ok h x0 1) (e0 : qR h x0 0 = v0) {m : Nat} {P : Int64 → q_Hp → Prop} (hc : q_mJ m 190 [.ref v0, .int (qI h x0 14)] h P) (hm : m ≤ n) (w : ∀ (z : Int64) (h1 : q_Hp), P z h1 → q_wp (n + 1) 43 12 [some (.ref x0), none, none] [.long z, .ref x0] h1 Q) : q_wp (n + 1) 43 0 [some (.ref x0), none, none] [] h Q := by
  refine wp_loc rfl rfl ?_
  refine wp_loc rfl rfl ?_
  refine wp_getR rfl rfl rfl rfl k0 e0 ?_
  refine wp_loc rfl rfl ?_
  refine wp_getI rfl rfl rfl k0 ?_
  exact wp_callJ (av := [.ref v0, .int (qI h x0 14)]) rfl rfl rfl (by decide) rfl rfl rfl hm hc w
theorem b43_12 {n : Nat} {h : q_Hp} {Q : Option Value → q_Hp → Prop} {x0 : Nat} {s0 : Int64} {s1 : Nat} {m : Nat} {P : Int32 → q_Hp → Prop} (hc : q_mI m 34 [.ref s1, .long s0, .int 3] h P) (hm : m ≤ n) (w : ∀ (z : Int32) (h1 : q_Hp), P z h1 → q_wp (n + 1) 43 16 [some (.ref x0), none, none] [.int z] h1 Q) : q_wp (n + 1) 43 12 [some (.ref x0), none, none] [.long s0, .ref s1] h Q := by
  refine wp_iconst (v := 3) rfl (by decide) ?_
  exact wp_callI (av := [.ref s1, .long s0, .int 3]) rfl rfl rfl (by decide) rfl rfl rfl hm hc w
theorem b43_16 {n : Nat} {h : q_Hp} {Q : Option Value → q_Hp → Prop} {x0 : Nat} {s0 : Int32} (wt : s0 = (-1) → q_wp n 43 28 [some (.ref x0), some (.int s0), none] [] h Q) (wf : ¬ s0 = (-1) → q_wp n 43 22 [some (.ref x0), some (.int s0), none] [] h Q) : q_wp n 43 16 [some (.ref x0), none, none] [.int s0] h Q := by
  refine wp_loc rfl rfl ?_
  refine wp_loc rfl rfl ?_
  refine wp_iconst (v := (-1)) rfl (by decide) ?_
  exact wp_iceq (tgt := 28) rfl (by decide) wt wf
theorem b43_22 {n : Nat} {h : q_Hp} {Q : Option Value → q_Hp → Prop} {x0 : Nat} {x1 : Int32} (wt : x1 < 22 → q_wp n 43 44 [some (.ref x0), some (.int x1), none] [] h Q) (wf : ¬ x1 < 22 → q_wp n 43 28 [some (.ref x0), some (.int x1), none] [] h Q) : q_wp n 43 22 [some (.ref x0), some (.int x1), none] [] h Q := by
  refine wp_loc rfl rfl ?_
  refine wp_bipush (v := 22) rfl (by decide) ?_
  exact wp_iclt (tgt := 44) rfl (by decide) wt wf
theorem b43_28 {n : Nat} {h : q_Hp} {Q : Option Value → q_Hp → Prop} {x0 : Nat} {x1 : Int32} {m : Nat} {P : q_Hp → Prop} (hc : q_mV m 26 [.ref x0, .int 4] h P) (hm : m ≤ n) (w : ∀ h1 : q_Hp, P h1 → q_wp (n + 1) 43 33 [some (.ref x0), some (.int x1), none] [] h1 Q) : q_wp (n + 1) 43 28 [some (.ref x0), some (.int x1), none] [] h Q := by
  refine wp_loc rfl rfl ?_
  refine wp_iconst (v := 4) rfl (by decide) ?_
  exact wp_callV (av := [.ref x0, .int 4]) rfl rfl rfl (by decide) rfl rfl rfl hm hc w
theorem b43_33 {n : Nat} {h : q_Hp} {Q : Option Value → q_Hp → Prop} {x0 : Nat} {x1 : Int32} (k0 : q_ok h x0 1) (q : Q none (q_sI h x0 14 ((qI h x0 14) + 1))) : q_wp n 43 33 [some (.ref x0), some (.int x1), none] [] h Q := by
  refine wp_loc rfl rfl ?_
  refine wp_stk rfl rfl rfl ?_
  refine wp_getI rfl rfl rfl k0 ?_
  refine wp_iconst (v := 1) rfl (by decide) ?_
  refine wp_stk rfl rfl rfl ?_
  refine wp_putI rfl rfl (Or.inl rfl) rfl (fun h9 => by cases h9) k0 ?_
  exact wp_ret rfl rfl q
theorem b43_44 {n : Nat} {h : q_Hp} {Q : Option Value → q_Hp → Prop} {x0 : Nat} {x1 : Int32} {v0 : Nat} {v1 : Nat} {v2 : Nat} (k0 : q_ok h x0 1) (e0 : qR h x0 6 = v0) (k1 : q_ok h v0 20) (i0 : q_in x1 (qK h v0).2) (e1 : qR h x0 8 = v1) (k2 : q_ok h v1 23) (i1 : q_in x1 (qK h v1).2) (e2 : qR h x0 5 = v2) (k3 : q_ok h v2 20) (i2 : q_in x1 (qK h v2).2) (wt : ¬ (qA (q_sA h v1 x1.toNatClampNeg (vp_nar .boolean 1)) v2 x1.toNatClampNeg) = 2 → q_wp n 43 83 [some (.ref x0), some (.int x1), some (.int (qA h v0 x1.toNatClampNeg))] [] (q_sA h v1 x1.toNatClampNeg (vp_nar .boolean 1)) Q) (wf : (qA (q_sA h v1 x1.toNatClampNeg (vp_nar .boolean 1)) v2 x1.toNatClampNeg) = 2 → q_wp n 43 68 [some (.ref x0), some (.int x1), some (.int (qA h v0 x1.toNatClampNeg))] [] (q_sA h v1 x1.toNatClampNeg (vp_nar .boolean 1)) Q) : q_wp n 43 44 [some (.ref x0), some (.int x1), none] [] h Q := by
  refine wp_loc rfl rfl ?_
  refine wp_getR rfl rfl rfl rfl k0 e0 ?_
  refine wp_loc rfl rfl ?_
  refine wp_iald rfl k1 i0 ?_
  refine wp_loc rfl rfl ?_
  refine wp_loc rfl rfl ?_
  refine wp_getR rfl rfl rfl rfl k0 e1 ?_
  refine wp_loc rfl rfl ?_
  refine wp_iconst (v := 1) rfl (by decide) ?_
  refine wp_zast rfl k2 i1 ?_
  refine wp_loc rfl rfl ?_
  refine wp_getR rfl rfl rfl rfl k0 e2 ?_
  refine wp_loc rfl rfl ?_
  refine wp_iald rfl k3 i2 ?_
  refine wp_iconst (v := 2) rfl (by decide) ?_
  exact wp_icne (tgt := 83) rfl (by decide) wt wf
theorem b43_68 {n : Nat} {h : q_Hp} {Q : Option Value → q_Hp → Prop} {x0 : Nat} {x1 : Int32} {x2 : Int32} {v0 : Nat} (k0 : q_ok h x0 1) (e0 : qR h x0 13 = v0) {m : Nat} {P : q_Hp → Prop} (hc : q_mV m 137 [.ref v0, .int 7, .int x2, .int (-1), .int (-1)] h P) (hm : m ≤ n) (w : ∀ h1 : q_Hp, P h1 → q_wp (n + 1) 43 80 [some (.ref x0), some (.int x1), some (.int x2)] [] h1 Q) : q_wp (n + 1) 43 68 [some (.ref x0), some (.int x1), some (.int x2)] [] h Q := by
  refine wp_loc rfl rfl ?_
  refine wp_getR rfl rfl rfl rfl k0 e0 ?_
  refine wp_bipush (v := 7) rfl (by decide) ?_
  refine wp_loc rfl rfl ?_
  refine wp_iconst (v := (-1)) rfl (by decide) ?_
  refine wp_iconst (v := (-1)) rfl (by decide) ?_
  exact wp_callV (av := [.ref v0, .int 7, .int x2, .int (-1), .int (-1)]) rfl rfl rfl (by decide) rfl rfl rfl hm hc w
theorem b43_80 {n : Nat} {h : q_Hp} {Q : Option Value → q_Hp → Prop} {x0 : Nat} {x1 : Int32} {x2 : Int32} (w : q_wp n 43 123 [some (.ref x0), some (.int x1), some (.int x2)] [] h Q) : q_wp n 43 80 [some (.ref x0), some (.int x1), some (.int x2)] [] h Q := by
  refine wp_goto (tgt := 123) rfl (by decide) ?_
  exact w
theorem b43_83 {n : Nat} {h : q_Hp} {Q : Option Value → q_Hp → Prop} {x0 : Nat} {x1 : Int32} {x2 : Int32} {m : Nat} {P : Int32 → q_Hp → Prop} (hc : q_mI m 44 [.ref x0, .int x2] h P) (hm : m ≤ n) (w : ∀ (z : Int32) (h1 : q_Hp), P z h1 → q_wp (n + 1) 43 88 [some (.ref x0), some (.int x1), some (.int x2)] [.int z] h1 Q) : q_wp (n + 1) 43 83 [some (.ref x0), some (.int x1), some (.int x2)] [] h Q := by
  refine wp_loc rfl rfl ?_
  refine wp_loc rfl rfl ?_
  exact wp_callI (av := [.ref x0, .int x2]) rfl rfl rfl (by decide) rfl rfl rfl hm hc w
theorem b43_88 {n : Nat} {h : q_Hp} {Q : Option Value → q_Hp → Prop} {x0 : Nat} {x1 : Int32} {x2 : Int32} {s0 : Int32} (wt : s0 = 0 → q_wp n 43 96 [some (.ref x0), some (.int x1), some (.int x2)] [] h Q) (wf : ¬ s0 = 0 → q_wp n 43 91 [some (.ref x0), some (.int x1), some (.int x2)] [] h Q) : q_wp n 43 88 [some (.ref x0), some (.int x1), some (.int x2)] [.int s0] h Q := by
  exact wp_ifeq (tgt := 96) rfl (by decide) wt wf
theorem b43_91 {n : Nat} {h : q_Hp} {Q : Option Value → q_Hp → Prop} {x0 : Nat} {x1 : Int32} {x2 : Int32} {m : Nat} {P : q_Hp → Prop} (hc : q_mV m 26 [.ref x0, .int 5] h P) (hm : m ≤ n) (w : ∀ h1 : q_Hp, P h1 → q_wp (n + 1) 43 96 [some (.ref x0), some (.int x1), some (.int x2)] [] h1 Q) : q_wp (n + 1) 43 91 [some (.ref x0), some (.int x1), some (.int x2)] [] h Q := by
  refine wp_loc rfl rfl ?_
  refine wp_iconst (v := 5) rfl (by decide) ?_
  exact wp_callV (av := [.ref x0, .int 5]) rfl rfl rfl (by decide) rfl rfl rfl hm hc w
theorem b43_96 {n : Nat} {h : q_Hp} {Q : Option Value → q_Hp → Prop} {x0 : Nat} {x1 : Int32} {x2 : Int32} {v0 : Nat} (k0 : q_ok h x0 1) (e0 : qR h x0 13 = v0) {m : Nat} {P : q_Hp → Prop} (hc : q_mV m 137 [.ref v0, .int 11, .int x2, .int (-1), .int (-1)] h P) (hm : m ≤ n) (w : ∀ h1 : q_Hp, P h1 → q_wp (n + 1) 43 108 [some (.ref x0), some (.int x1), some (.int x2)] [] h1 Q) : q_wp (n + 1) 43 96 [some (.ref x0), some (.int x1), some (.int x2)] [] h Q := by
  refine wp_loc rfl rfl ?_
  refine wp_getR rfl rfl rfl rfl k0 e0 ?_
  refine wp_bipush (v := 11) rfl (by decide) ?_
  refine wp_loc rfl rfl ?_
  refine wp_iconst (v := (-1)) rfl (by decide) ?_
  refine wp_iconst (v := (-1)) rfl (by decide) ?_
  exact wp_callV (av := [.ref v0, .int 11, .int x2, .int (-1), .int (-1)]) rfl rfl rfl (by decide) rfl rfl rfl hm hc w
theorem b43_108 {n : Nat} {h : q_Hp} {Q : Option Value → q_Hp → Prop} {x0 : Nat} {x1 : Int32} {x2 : Int32} {v0 : Nat} (k0 : q_ok h x0 1) (e0 : qR h x0 13 = v0) (k1 : q_ok h v0 6) (w : q_wp n 43 123 [some (.ref x0), some (.int x1), some (.int x2)] [] (q_sI h v0 5 ((qI h v0 5) ||| (1 <<< (x2 &&& 31)))) Q) : q_wp n 43 108 [some (.ref x0), some (.int x1), some (.int x2)] [] h Q := by
  refine wp_loc rfl rfl ?_
  refine wp_getR rfl rfl rfl rfl k0 e0 ?_
  refine wp_stk rfl rfl rfl ?_
  refine wp_getI rfl rfl rfl k1 ?_
  refine wp_iconst (v := 1) rfl (by decide) ?_
  refine wp_loc rfl rfl ?_
  refine wp_stk rfl rfl rfl ?_
  refine wp_stk rfl rfl rfl ?_
  refine wp_putI rfl rfl (Or.inl rfl) rfl (fun h9 => by cases h9) k1 ?_
  exact w
theorem b43_123 {n : Nat} {h : q_Hp} {Q : Option Value → q_Hp → Prop} {x0 : Nat} {x1 : Int32} {x2 : Int32} (k0 : q_ok h x0 1) (q : Q none (q_sI h x0 14 ((qI h x0 14) + 1))) : q_wp n 43 123 [some (.ref x0), some (.int x1), some (.int x2)] [] h Q := by
  refine wp_loc rfl rfl ?_
  refine wp_stk rfl rfl rfl ?_
  refine wp_getI rfl rfl rfl k0 ?_
  refine wp_iconst (v := 1) rfl (by decide) ?_
  refine wp_stk rfl rfl rfl ?_
  refine wp_putI rfl rfl (Or.inl rfl) rfl (fun h9 => by cases h9) k0 ?_
  exact wp_ret rfl rfl q
theorem b44_0 {n : Nat} {h : q_Hp} {Q : Option Value → q_Hp → Prop} {x0 : Nat} {x1 : Int32} (w : q_wp n 44 2 [some (.ref x0), some (.int x1), some (.int 0), none] [] h Q) : q_wp n 44 0 [some (.ref x0), some (.int x1), none, none] [] h Q := by
  refine wp_iconst (v := 0) rfl (by decide) ?_
  refine wp_loc rfl rfl ?_
  exact w
theorem b44_2 {n : Nat} {h : q_Hp} {Q : Option Value → q_Hp → Prop} {x0 : Nat} {x1 : Int32} {x2 : Int32} {l3 : Option Value} (k0 : q_ok h x0 1) (wt : (qI h x0 9) ≤ x2 → q_wp n 44 80 [some (.ref x0), some (.int x1), some (.int x2), l3] [] h Q) (wf : ¬ (qI h x0 9) ≤ x2 → q_wp n 44 10 [some (.ref x0), some (.int x1), some (.int x2), l3] [] h Q) : q_wp n 44 2 [some (.ref x0), some (.int x1), some (.int x2), l3] [] h Q := by
  refine wp_loc rfl rfl ?_
  refine wp_loc rfl rfl ?_
  refine wp_getI rfl rfl rfl k0 ?_
  exact wp_icge (tgt := 80) rfl (by decide) wt wf
theorem b44_10 {n : Nat} {h : q_Hp} {Q : Option Value → q_Hp → Prop} {x0 : Nat} {x1 : Int32} {x2 : Int32} {l3 : Option Value} (wt : 22 ≤ x2 → q_wp n 44 80 [some (.ref x0), some (.int x1), some (.int x2), l3] [] h Q) (wf : ¬ 22 ≤ x2 → q_wp n 44 16 [some (.ref x0), some (.int x1), some (.int x2), l3] [] h Q) : q_wp n 44 10 [some (.ref x0), some (.int x1), some (.int x2), l3] [] h Q := by
  refine wp_loc rfl rfl ?_
  refine wp_bipush (v := 22) rfl (by decide) ?_
  exact wp_icge (tgt := 80) rfl (by decide) wt wf
theorem b44_16 {n : Nat} {h : q_Hp} {Q : Option Value → q_Hp → Prop} {x0 : Nat} {x1 : Int32} {x2 : Int32} {l3 : Option Value} {v0 : Nat} (k0 : q_ok h x0 1) (e0 : qR h x0 5 = v0) (k1 : q_ok h v0 20) (i0 : q_in x2 (qK h v0).2) (wt : ¬ (qA h v0 x2.toNatClampNeg) = 2 → q_wp n 44 74 [some (.ref x0), some (.int x1), some (.int x2), l3] [] h Q) (wf : (qA h v0 x2.toNatClampNeg) = 2 → q_wp n 44 26 [some (.ref x0), some (.int x1), some (.int x2), l3] [] h Q) : q_wp n 44 16 [some (.ref x0), some (.int x1), some (.int x2), l3] [] h Q := by
  refine wp_loc rfl rfl ?_
  refine wp_getR rfl rfl rfl rfl k0 e0 ?_
  refine wp_loc rfl rfl ?_
  refine wp_iald rfl k1 i0 ?_
  refine wp_iconst (v := 2) rfl (by decide) ?_
  exact wp_icne (tgt := 74) rfl (by decide) wt wf
theorem b44_26 {n : Nat} {h : q_Hp} {Q : Option Value → q_Hp → Prop} {x0 : Nat} {x1 : Int32} {x2 : Int32} {l3 : Option Value} {v0 : Nat} (k0 : q_ok h x0 1) (e0 : qR h x0 8 = v0) (b2 : q_ok h v0 22 ∨ q_ok h v0 23) (i0 : q_in x2 (qK h v0).2) (wt : ¬ (qA h v0 x2.toNatClampNeg) = 0 → q_wp n 44 74 [some (.ref x0), some (.int x1), some (.int x2), l3] [] h Q) (wf : (qA h v0 x2.toNatClampNeg) = 0 → q_wp n 44 35 [some (.ref x0), some (.int x1), some (.int x2), l3] [] h Q) : q_wp n 44 26 [some (.ref x0), some (.int x1), some (.int x2), l3] [] h Q := by
  refine wp_loc rfl rfl ?_
  refine wp_getR rfl rfl rfl rfl k0 e0 ?_
  refine wp_loc rfl rfl ?_
  refine wp_bald rfl b2 i0 ?_
  exact wp_ifne (tgt := 74) rfl (by decide) wt wf
theorem b44_35 {n : Nat} {h : q_Hp} {Q : Option Value → q_Hp → Prop} {x0 : Nat} {x1 : Int32} {x2 : Int32} {l3 : Option Value} {v0 : Nat} {v1 : Nat} {v2 : Nat} (k0 : q_ok h x0 1) (e0 : qR h x0 6 = v0) (k1 : q_ok h v0 20) (i0 : q_in x2 (qK h v0).2) (e1 : qR h x0 13 = v1) (k2 : q_ok h v1 6) (e2 : qR h v1 11 = v2) {m : Nat} {P : Int32 → q_Hp → Prop} (hc : q_mI m 232 [.ref v2, .int (qA h v0 x2.toNatClampNeg)] h P) (hm : m ≤ n) (w : ∀ (z : Int32) (h1 : q_Hp), P z h1 → q_wp (n + 1) 44 53 [some (.ref x0), some (.int x1), some (.int x2), some (.int (qA h v0 x2.toNatClampNeg))] [.int z] h1 Q) : q_wp (n + 1) 44 35 [some (.ref x0), some (.int x1), some (.int x2), l3] [] h Q := by
  refine wp_loc rfl rfl ?_
  refine wp_getR rfl rfl rfl rfl k0 e0 ?_
  refine wp_loc rfl rfl ?_
  refine wp_iald rfl k1 i0 ?_
  refine wp_loc rfl rfl ?_
  refine wp_loc rfl rfl ?_
  refine wp_getR rfl rfl rfl rfl k0 e1 ?_
  refine wp_getR rfl rfl rfl rfl k2 e2 ?_
  refine wp_loc rfl rfl ?_
  exact wp_callI (av := [.ref v2, .int (qA h v0 x2.toNatClampNeg)]) rfl rfl rfl (by decide) rfl rfl rfl hm hc w
theorem b44_53 {n : Nat} {h : q_Hp} {Q : Option Value → q_Hp → Prop} {x0 : Nat} {x1 : Int32} {x2 : Int32} {x3 : Int32} {s0 : Int32} (wt : s0 = x1 → q_wp n 44 72 [some (.ref x0), some (.int x1), some (.int x2), some (.int x3)] [] h Q) (wf : ¬ s0 = x1 → q_wp n 44 57 [some (.ref x0), some (.int x1), some (.int x2), some (.int x3)] [] h Q) : q_wp n 44 53 [some (.ref x0), some (.int x1), some (.int x2), some (.int x3)] [.int s0] h Q := by
  refine wp_loc rfl rfl ?_
  exact wp_iceq (tgt := 72) rfl (by decide) wt wf
theorem b44_57 {n : Nat} {h : q_Hp} {Q : Option Value → q_Hp → Prop} {x0 : Nat} {x1 : Int32} {x2 : Int32} {x3 : Int32} {v0 : Nat} {v1 : Nat} (k0 : q_ok h x0 1) (e0 : qR h x0 13 = v0) (k1 : q_ok h v0 6) (e1 : qR h v0 12 = v1) {m : Nat} {P : Int32 → q_Hp → Prop} (hc : q_mI m 232 [.ref v1, .int x3] h P) (hm : m ≤ n) (w : ∀ (z : Int32) (h1 : q_Hp), P z h1 → q_wp (n + 1) 44 68 [some (.ref x0), some (.int x1), some (.int x2), some (.int x3)] [.int z] h1 Q) : q_wp (n + 1) 44 57 [some (.ref x0), some (.int x1), some (.int x2), some (.int x3)] [] h Q := by
  refine wp_loc rfl rfl ?_
  refine wp_getR rfl rfl rfl rfl k0 e0 ?_
  refine wp_getR rfl rfl rfl rfl k1 e1 ?_
  refine wp_loc rfl rfl ?_
  exact wp_callI (av := [.ref v1, .int x3]) rfl rfl rfl (by decide) rfl rfl rfl hm hc w
theorem b44_68 {n : Nat} {h : q_Hp} {Q : Option Value → q_Hp → Prop} {x0 : Nat} {x1 : Int32} {x2 : Int32} {x3 : Int32} {s0 : Int32} (wt : ¬ s0 = x1 → q_wp n 44 74 [some (.ref x0), some (.int x1), some (.int x2), some (.int x3)] [] h Q) (wf : s0 = x1 → q_wp n 44 72 [some (.ref x0), some (.int x1), some (.int x2), some (.int x3)] [] h Q) : q_wp n 44 68 [some (.ref x0), some (.int x1), some (.int x2), some (.int x3)] [.int s0] h Q := by
  refine wp_loc rfl rfl ?_
  exact wp_icne (tgt := 74) rfl (by decide) wt wf
theorem b44_72 {n : Nat} {h : q_Hp} {Q : Option Value → q_Hp → Prop} {x0 : Nat} {x1 : Int32} {x2 : Int32} {x3 : Int32} (q : Q (some (.int 1)) h) : q_wp n 44 72 [some (.ref x0), some (.int x1), some (.int x2), some (.int x3)] [] h Q := by
  refine wp_iconst (v := 1) rfl (by decide) ?_
  exact wp_ret (r := some (.int 1)) rfl rfl q
theorem b44_74 {n : Nat} {h : q_Hp} {Q : Option Value → q_Hp → Prop} {x0 : Nat} {x1 : Int32} {x2 : Int32} {l3 : Option Value} (w : q_wp n 44 2 [some (.ref x0), some (.int x1), some (.int (x2 + 1)), l3] [] h Q) : q_wp n 44 74 [some (.ref x0), some (.int x1), some (.int x2), l3] [] h Q := by
  refine wp_iinc (v := 1) rfl rfl (by decide) rfl ?_
  refine wp_goto (tgt := 2) rfl (by decide) ?_
  exact w
theorem b44_80 {n : Nat} {h : q_Hp} {Q : Option Value → q_Hp → Prop} {x0 : Nat} {x1 : Int32} {x2 : Int32} {l3 : Option Value} (k0 : q_ok h x0 1) (wt : ¬ (((qI h x0 11) >>> (x1 &&& 31)) &&& 1) = 1 → q_wp n 44 96 [some (.ref x0), some (.int x1), some (.int x2), l3] [] h Q) (wf : (((qI h x0 11) >>> (x1 &&& 31)) &&& 1) = 1 → q_wp n 44 92 [some (.ref x0), some (.int x1), some (.int x2), l3] [] h Q) : q_wp n 44 80 [some (.ref x0), some (.int x1), some (.int x2), l3] [] h Q := by
  refine wp_loc rfl rfl ?_
  refine wp_getI rfl rfl rfl k0 ?_
  refine wp_loc rfl rfl ?_
  refine wp_stk rfl rfl rfl ?_
  refine wp_iconst (v := 1) rfl (by decide) ?_
  refine wp_stk rfl rfl rfl ?_
  refine wp_iconst (v := 1) rfl (by decide) ?_
  exact wp_icne (tgt := 96) rfl (by decide) wt wf
theorem b44_92 {n : Nat} {h : q_Hp} {Q : Option Value → q_Hp → Prop} {x0 : Nat} {x1 : Int32} {x2 : Int32} {l3 : Option Value} (q : Q (some (.int 1)) h) : q_wp n 44 92 [some (.ref x0), some (.int x1), some (.int x2), l3] [] h Q := by
  refine wp_iconst (v := 1) rfl (by decide) ?_
  refine wp_goto (tgt := 97) rfl (by decide) ?_
  exact wp_ret (r := some (.int 1)) rfl rfl q
theorem b44_96 {n : Nat} {h : q_Hp} {Q : Option Value → q_Hp → Prop} {x0 : Nat} {x1 : Int32} {x2 : Int32} {l3 : Option Value} (q : Q (some (.int 0)) h) : q_wp n 44 96 [some (.ref x0), some (.int x1), some (.int x2), l3] [] h Q := by
  refine wp_iconst (v := 0) rfl (by decide) ?_
  exact wp_ret (r := some (.int 0)) rfl rfl q
theorem b45_0 {n : Nat} {h : q_Hp} {Q : Option Value → q_Hp → Prop} {x0 : Nat} {m : Nat} {P : Int64 → q_Hp → Prop} (hc : q_mJ m 37 [.ref x0] h P) (hm : m ≤ n) (w : ∀ (z : Int64) (h1 : q_Hp), P z h1 → q_wp (n + 1) 45 4 [some (.ref x0), none, none, none, none] [.long z] h1 Q) : q_wp (n + 1) 45 0 [some (.ref x0), none, none, none, none] [] h Q := by
  refine wp_loc rfl rfl ?_
  exact wp_callJ (av := [.ref x0]) rfl rfl rfl (by decide) rfl rfl rfl hm hc w
theorem b45_4 {n : Nat} {h : q_Hp} {Q : Option Value → q_Hp → Prop} {x0 : Nat} {s0 : Int64} (k0 : q_ok h x0 1) {m : Nat} {P : Int32 → q_Hp → Prop} (hc : q_mI m 28 [.ref x0] (q_sI h x0 14 ((qI h x0 14) + 1)) P) (hm : m ≤ n) (w : ∀ (z : Int32) (h1 : q_Hp), P z h1 → q_wp (n + 1) 45 19 [some (.ref x0), some (.long s0), none, none, none] [.int z] h1 Q) : q_wp (n + 1) 45 4 [some (.ref x0), none, none, none, none] [.long s0] h Q := by
  refine wp_loc rfl rfl ?_
  refine wp_loc rfl rfl ?_
  refine wp_stk rfl rfl rfl ?_
  refine wp_getI rfl rfl rfl k0 ?_
  refine wp_iconst (v := 1) rfl (by decide) ?_
  refine wp_stk rfl rfl rfl ?_
  refine wp_putI rfl rfl (Or.inl rfl) rfl (fun h9 => by cases h9) k0 ?_
  refine wp_loc rfl rfl ?_
  exact wp_callI (av := [.ref x0]) rfl rfl rfl (by decide) rfl rfl rfl hm hc w
theorem b45_19 {n : Nat} {h : q_Hp} {Q : Option Value → q_Hp → Prop} {x0 : Nat} {x1 : Int64} {s0 : Int32} {v0 : Nat} (k0 : q_ok h x0 1) (e0 : qR h x0 13 = v0) {m : Nat} {P : q_Hp → Prop} (hc : q_mV m 137 [.ref v0, .int 12, .int (4 + (qI h x0 10)), .int s0, .int (-1)] (q_sI h x0 10 ((qI h x0 10) + 1)) P) (hm : m ≤ n) (w : ∀ h1 : q_Hp, P h1 → q_wp (n + 1) 45 51 [some (.ref x0), some (.long x1), none, some (.int s0), some (.int (4 + (qI h x0 10)))] [] h1 Q) : q_wp (n + 1) 45 19 [some (.ref x0), some (.long x1), none, none, none] [.int s0] h Q := by
  refine wp_loc rfl rfl ?_
  refine wp_iconst (v := 4) rfl (by decide) ?_
  refine wp_loc rfl rfl ?_
  refine wp_getI rfl rfl rfl k0 ?_
  refine wp_stk rfl rfl rfl ?_
  refine wp_loc rfl rfl ?_
  refine wp_loc rfl rfl ?_
  refine wp_stk rfl rfl rfl ?_
  refine wp_getI rfl rfl rfl k0 ?_
  refine wp_iconst (v := 1) rfl (by decide) ?_
  refine wp_stk rfl rfl rfl ?_
  refine wp_putI rfl rfl (Or.inl rfl) rfl (fun h9 => by cases h9) k0 ?_
  refine wp_loc rfl rfl ?_
  refine wp_getR rfl rfl rfl rfl k0 e0 ?_
  refine wp_bipush (v := 12) rfl (by decide) ?_
  refine wp_loc rfl rfl ?_
  refine wp_loc rfl rfl ?_
  refine wp_iconst (v := (-1)) rfl (by decide) ?_
  exact wp_callV (av := [.ref v0, .int 12, .int (4 + (qI h x0 10)), .int s0, .int (-1)]) rfl rfl rfl (by decide) rfl rfl rfl hm hc w
theorem b45_51 {n : Nat} {h : q_Hp} {Q : Option Value → q_Hp → Prop} {x0 : Nat} {x1 : Int64} {x3 : Int32} {x4 : Int32} {m : Nat} {P : q_Hp → Prop} (hc : q_mV m 38 [.ref x0, .long x1, .int 4, .int x4, .int x3] h P) (hm : m ≤ n) (w : ∀ h1 : q_Hp, P h1 → q_wp (n + 1) 45 60 [some (.ref x0), some (.long x1), none, some (.int x3), some (.int x4)] [] h1 Q) : q_wp (n + 1) 45 51 [some (.ref x0), some (.long x1), none, some (.int x3), some (.int x4)] [] h Q := by
  refine wp_loc rfl rfl ?_
  refine wp_loc rfl rfl ?_
  refine wp_iconst (v := 4) rfl (by decide) ?_
  refine wp_loc rfl rfl ?_
  refine wp_loc rfl rfl ?_
  exact wp_callV (av := [.ref x0, .long x1, .int 4, .int x4, .int x3]) rfl rfl rfl (by decide) rfl rfl rfl hm hc w
theorem b45_60 {n : Nat} {h : q_Hp} {Q : Option Value → q_Hp → Prop} {x0 : Nat} {x1 : Int64} {x3 : Int32} {x4 : Int32} (q : Q none h) : q_wp n 45 60 [some (.ref x0), some (.long x1), none, some (.int x3), some (.int x4)] [] h Q := by
  exact wp_ret rfl rfl q
theorem b46_0 {n : Nat} {h : q_Hp} {Q : Option Value → q_Hp → Prop} {x0 : Nat} {m : Nat} {P : Int32 → q_Hp → Prop} (hc : q_mI m 35 [.ref x0, .int 5] h P) (hm : m ≤ n) (w : ∀ (z : Int32) (h1 : q_Hp), P z h1 → q_wp (n + 1) 46 5 [some (.ref x0), none, none, none, none, none] [.int z] h1 Q) : q_wp (n + 1) 46 0 [some (.ref x0), none, none, none, none, none] [] h Q := by
  refine wp_loc rfl rfl ?_
  refine wp_iconst (v := 5) rfl (by decide) ?_
  exact wp_callI (av := [.ref x0, .int 5]) rfl rfl rfl (by decide) rfl rfl rfl hm hc w
theorem b46_5 {n : Nat} {h : q_Hp} {Q : Option Value → q_Hp → Prop} {x0 : Nat} {s0 : Int32} {v0 : Nat} (k0 : q_ok h x0 1) (e0 : qR h x0 0 = v0) {m : Nat} {P : Int64 → q_Hp → Prop} (hc : q_mJ m 190 [.ref v0, .int ((qI (q_sI h x0 14 ((qI h x0 14) + 1)) x0 14) + 2)] (q_sI h x0 14 ((qI h x0 14) + 1)) P) (hm : m ≤ n) (w : ∀ (z : Int64) (h1 : q_Hp), P z h1 → q_wp (n + 1) 46 30 [some (.ref x0), some (.int s0), none, none, none, none] [.long z, .ref x0] h1 Q) : q_wp (n + 1) 46 5 [some (.ref x0), none, none, none, none, none] [.int s0] h Q := by
  refine wp_loc rfl rfl ?_
  refine wp_loc rfl rfl ?_
  refine wp_stk rfl rfl rfl ?_
  refine wp_getI rfl rfl rfl k0 ?_
  refine wp_iconst (v := 1) rfl (by decide) ?_
  refine wp_stk rfl rfl rfl ?_
  refine wp_putI rfl rfl (Or.inl rfl) rfl (fun h9 => by cases h9) k0 ?_
  refine wp_loc rfl rfl ?_
  refine wp_loc rfl rfl ?_
  refine wp_getR rfl rfl rfl rfl k0 e0 ?_
  refine wp_loc rfl rfl ?_
  refine wp_getI rfl rfl rfl k0 ?_
  refine wp_iconst (v := 2) rfl (by decide) ?_
  refine wp_stk rfl rfl rfl ?_
  exact wp_callJ (av := [.ref v0, .int ((qI (q_sI h x0 14 ((qI h x0 14) + 1)) x0 14) + 2)]) rfl rfl rfl (by decide) rfl rfl rfl hm hc w
theorem b46_30 {n : Nat} {h : q_Hp} {Q : Option Value → q_Hp → Prop} {x0 : Nat} {x1 : Int32} {s0 : Int64} {s1 : Nat} {m : Nat} {P : Int32 → q_Hp → Prop} (hc : q_mI m 34 [.ref s1, .long s0, .int 5] h P) (hm : m ≤ n) (w : ∀ (z : Int32) (h1 : q_Hp), P z h1 → q_wp (n + 1) 46 34 [some (.ref x0), some (.int x1), none, none, none, none] [.int z] h1 Q) : q_wp (n + 1) 46 30 [some (.ref x0), some (.int x1), none, none, none, none] [.long s0, .ref s1] h Q := by
  refine wp_iconst (v := 5) rfl (by decide) ?_
  exact wp_callI (av := [.ref s1, .long s0, .int 5]) rfl rfl rfl (by decide) rfl rfl rfl hm hc w
theorem b46_34 {n : Nat} {h : q_Hp} {Q : Option Value → q_Hp → Prop} {x0 : Nat} {x1 : Int32} {s0 : Int32} {v0 : Nat} {v1 : Nat} {v2 : Nat} (k0 : q_ok h x0 1) (e0 : qR h x0 3 = v0) (e1 : qR h x0 12 = v1) (k1 : q_ok h v1 0) (e2 : qR h x0 0 = v2) {m : Nat} {P : Int64 → q_Hp → Prop} (hc : q_mJ m 190 [.ref v2, .int (qI h x0 14)] h P) (hm : m ≤ n) (w : ∀ (z : Int64) (h1 : q_Hp), P z h1 → q_wp (n + 1) 46 57 [some (.ref x0), some (.int x1), some (.int s0), none, none, none] [.long z, .int (qI h v1 1), .ref v0] h1 Q) : q_wp (n + 1) 46 34 [some (.ref x0), some (.int x1), none, none, none, none] [.int s0] h Q := by
  refine wp_loc rfl rfl ?_
  refine wp_loc rfl rfl ?_
  refine wp_getR rfl rfl rfl rfl k0 e0 ?_
  refine wp_loc rfl rfl ?_
  refine wp_getR rfl rfl rfl rfl k0 e1 ?_
  refine wp_getI rfl rfl rfl k1 ?_
  refine wp_loc rfl rfl ?_
  refine wp_getR rfl rfl rfl rfl k0 e2 ?_
  refine wp_loc rfl rfl ?_
  refine wp_getI rfl rfl rfl k0 ?_
  exact wp_callJ (av := [.ref v2, .int (qI h x0 14)]) rfl rfl rfl (by decide) rfl rfl rfl hm hc w
theorem b46_57 {n : Nat} {h : q_Hp} {Q : Option Value → q_Hp → Prop} {x0 : Nat} {x1 : Int32} {x2 : Int32} {s0 : Int64} {s1 : Int32} {s2 : Nat} {m : Nat} {P : Int32 → q_Hp → Prop} (hc : q_mI m 27 [.ref s2, .int s1, .long s0] h P) (hm : m ≤ n) (w : ∀ (z : Int32) (h1 : q_Hp), P z h1 → q_wp (n + 1) 46 60 [some (.ref x0), some (.int x1), some (.int x2), none, none, none] [.int z] h1 Q) : q_wp (n + 1) 46 57 [some (.ref x0), some (.int x1), some (.int x2), none, none, none] [.long s0, .int s1, .ref s2] h Q := by
  exact wp_callI (av := [.ref s2, .int s1, .long s0]) rfl rfl rfl (by decide) rfl rfl rfl hm hc w
theorem b46_60 {n : Nat} {h : q_Hp} {Q : Option Value → q_Hp → Prop} {x0 : Nat} {x1 : Int32} {x2 : Int32} {s0 : Int32} (wt : ¬ s0 = (-1) → q_wp n 46 74 [some (.ref x0), some (.int x1), some (.int x2), some (.int s0), none, none] [] h Q) (wf : s0 = (-1) → q_wp n 46 66 [some (.ref x0), some (.int x1), some (.int x2), some (.int s0), none, none] [] h Q) : q_wp n 46 60 [some (.ref x0), some (.int x1), some (.int x2), none, none, none] [.int s0] h Q := by
  refine wp_loc rfl rfl ?_
  refine wp_loc rfl rfl ?_
  refine wp_iconst (v := (-1)) rfl (by decide) ?_
  exact wp_icne (tgt := 74) rfl (by decide) wt wf
theorem b46_66 {n : Nat} {h : q_Hp} {Q : Option Value → q_Hp → Prop} {x0 : Nat} {x1 : Int32} {x2 : Int32} {x3 : Int32} {m : Nat} {P : q_Hp → Prop} (hc : q_mV m 26 [.ref x0, .int 4] h P) (hm : m ≤ n) (w : ∀ h1 : q_Hp, P h1 → q_wp (n + 1) 46 71 [some (.ref x0), some (.int x1), some (.int x2), some (.int x3), none, none] [] h1 Q) : q_wp (n + 1) 46 66 [some (.ref x0), some (.int x1), some (.int x2), some (.int x3), none, none] [] h Q := by
  refine wp_loc rfl rfl ?_
  refine wp_iconst (v := 4) rfl (by decide) ?_
  exact wp_callV (av := [.ref x0, .int 4]) rfl rfl rfl (by decide) rfl rfl rfl hm hc w
theorem b46_71 {n : Nat} {h : q_Hp} {Q : Option Value → q_Hp → Prop} {x0 : Nat} {x1 : Int32} {x2 : Int32} {x3 : Int32} (w : q_wp n 46 135 [some (.ref x0), some (.int x1), some (.int x2), some (.int x3), none, none] [] h Q) : q_wp n 46 71 [some (.ref x0), some (.int x1), some (.int x2), some (.int x3), none, none] [] h Q := by
  refine wp_goto (tgt := 135) rfl (by decide) ?_
  exact w
theorem b46_74 {n : Nat} {h : q_Hp} {Q : Option Value → q_Hp → Prop} {x0 : Nat} {x1 : Int32} {x2 : Int32} {x3 : Int32} (wt : x1 = (-1) → q_wp n 46 106 [some (.ref x0), some (.int x1), some (.int x2), some (.int x3), none, none] [] h Q) (wf : ¬ x1 = (-1) → q_wp n 46 79 [some (.ref x0), some (.int x1), some (.int x2), some (.int x3), none, none] [] h Q) : q_wp n 46 74 [some (.ref x0), some (.int x1), some (.int x2), some (.int x3), none, none] [] h Q := by
  refine wp_loc rfl rfl ?_
  refine wp_iconst (v := (-1)) rfl (by decide) ?_
  exact wp_iceq (tgt := 106) rfl (by decide) wt wf
theorem b46_79 {n : Nat} {h : q_Hp} {Q : Option Value → q_Hp → Prop} {x0 : Nat} {x1 : Int32} {x2 : Int32} {x3 : Int32} {v0 : Nat} {v1 : Nat} (k0 : q_ok h x0 1) (e0 : qR h x0 12 = v0) (e1 : qR h x0 7 = v1) {m : Nat} {P : Int32 → q_Hp → Prop} (hc : q_mI m 232 [.ref v1, .int x1] h P) (hm : m ≤ n) (w : ∀ (z : Int32) (h1 : q_Hp), P z h1 → q_wp (n + 1) 46 92 [some (.ref x0), some (.int x1), some (.int x2), some (.int x3), none, none] [.int z, .int x3, .ref v0] h1 Q) : q_wp (n + 1) 46 79 [some (.ref x0), some (.int x1), some (.int x2), some (.int x3), none, none] [] h Q := by
  refine wp_loc rfl rfl ?_
  refine wp_getR rfl rfl rfl rfl k0 e0 ?_
  refine wp_loc rfl rfl ?_
  refine wp_loc rfl rfl ?_
  refine wp_getR rfl rfl rfl rfl k0 e1 ?_
  refine wp_loc rfl rfl ?_
  exact wp_callI (av := [.ref v1, .int x1]) rfl rfl rfl (by decide) rfl rfl rfl hm hc w
theorem b46_92 {n : Nat} {h : q_Hp} {Q : Option Value → q_Hp → Prop} {x0 : Nat} {x1 : Int32} {x2 : Int32} {x3 : Int32} {s0 : Int32} {s1 : Int32} {s2 : Nat} {m : Nat} {P : Int32 → q_Hp → Prop} (hc : q_mI m 7 [.ref s2, .int s1, .int s0] h P) (hm : m ≤ n) (w : ∀ (z : Int32) (h1 : q_Hp), P z h1 → q_wp (n + 1) 46 95 [some (.ref x0), some (.int x1), some (.int x2), some (.int x3), none, none] [.int z] h1 Q) : q_wp (n + 1) 46 92 [some (.ref x0), some (.int x1), some (.int x2), some (.int x3), none, none] [.int s0, .int s1, .ref s2] h Q := by
  exact wp_callI (av := [.ref s2, .int s1, .int s0]) rfl rfl rfl (by decide) rfl rfl rfl hm hc w
theorem b46_95 {n : Nat} {h : q_Hp} {Q : Option Value → q_Hp → Prop} {x0 : Nat} {x1 : Int32} {x2 : Int32} {x3 : Int32} {s0 : Int32} (wt : ¬ s0 = 0 → q_wp n 46 106 [some (.ref x0), some (.int x1), some (.int x2), some (.int x3), none, none] [] h Q) (wf : s0 = 0 → q_wp n 46 98 [some (.ref x0), some (.int x1), some (.int x2), some (.int x3), none, none] [] h Q) : q_wp n 46 95 [some (.ref x0), some (.int x1), some (.int x2), some (.int x3), none, none] [.int s0] h Q := by
  exact wp_ifne (tgt := 106) rfl (by decide) wt wf
theorem b46_98 {n : Nat} {h : q_Hp} {Q : Option Value → q_Hp → Prop} {x0 : Nat} {x1 : Int32} {x2 : Int32} {x3 : Int32} {m : Nat} {P : q_Hp → Prop} (hc : q_mV m 26 [.ref x0, .int 5] h P) (hm : m ≤ n) (w : ∀ h1 : q_Hp, P h1 → q_wp (n + 1) 46 103 [some (.ref x0), some (.int x1), some (.int x2), some (.int x3), none, none] [] h1 Q) : q_wp (n + 1) 46 98 [some (.ref x0), some (.int x1), some (.int x2), some (.int x3), none, none] [] h Q := by
  refine wp_loc rfl rfl ?_
  refine wp_iconst (v := 5) rfl (by decide) ?_
  exact wp_callV (av := [.ref x0, .int 5]) rfl rfl rfl (by decide) rfl rfl rfl hm hc w
theorem b46_103 {n : Nat} {h : q_Hp} {Q : Option Value → q_Hp → Prop} {x0 : Nat} {x1 : Int32} {x2 : Int32} {x3 : Int32} (w : q_wp n 46 135 [some (.ref x0), some (.int x1), some (.int x2), some (.int x3), none, none] [] h Q) : q_wp n 46 103 [some (.ref x0), some (.int x1), some (.int x2), some (.int x3), none, none] [] h Q := by
  refine wp_goto (tgt := 135) rfl (by decide) ?_
  exact w
theorem b46_106 {n : Nat} {h : q_Hp} {Q : Option Value → q_Hp → Prop} {x0 : Nat} {x1 : Int32} {x2 : Int32} {x3 : Int32} (wt : x2 = (-1) → q_wp n 46 135 [some (.ref x0), some (.int x1), some (.int x2), some (.int x3), none, none] [] h Q) (wf : ¬ x2 = (-1) → q_wp n 46 111 [some (.ref x0), some (.int x1), some (.int x2), some (.int x3), none, none] [] h Q) : q_wp n 46 106 [some (.ref x0), some (.int x1), some (.int x2), some (.int x3), none, none] [] h Q := by
  refine wp_loc rfl rfl ?_
  refine wp_iconst (v := (-1)) rfl (by decide) ?_
  exact wp_iceq (tgt := 135) rfl (by decide) wt wf
theorem b46_111 {n : Nat} {h : q_Hp} {Q : Option Value → q_Hp → Prop} {x0 : Nat} {x1 : Int32} {x2 : Int32} {x3 : Int32} {v0 : Nat} {v1 : Nat} (k0 : q_ok h x0 1) (e0 : qR h x0 12 = v0) (e1 : qR h x0 7 = v1) {m : Nat} {P : Int32 → q_Hp → Prop} (hc : q_mI m 232 [.ref v1, .int x2] h P) (hm : m ≤ n) (w : ∀ (z : Int32) (h1 : q_Hp), P z h1 → q_wp (n + 1) 46 124 [some (.ref x0), some (.int x1), some (.int x2), some (.int x3), none, none] [.int z, .int x3, .ref v0] h1 Q) : q_wp (n + 1) 46 111 [some (.ref x0), some (.int x1), some (.int x2), some (.int x3), none, none] [] h Q := by
  refine wp_loc rfl rfl ?_
  refine wp_getR rfl rfl rfl rfl k0 e0 ?_
  refine wp_loc rfl rfl ?_
  refine wp_loc rfl rfl ?_
  refine wp_getR rfl rfl rfl rfl k0 e1 ?_
  refine wp_loc rfl rfl ?_
  exact wp_callI (av := [.ref v1, .int x2]) rfl rfl rfl (by decide) rfl rfl rfl hm hc w
theorem b46_124 {n : Nat} {h : q_Hp} {Q : Option Value → q_Hp → Prop} {x0 : Nat} {x1 : Int32} {x2 : Int32} {x3 : Int32} {s0 : Int32} {s1 : Int32} {s2 : Nat} {m : Nat} {P : Int32 → q_Hp → Prop} (hc : q_mI m 8 [.ref s2, .int s1, .int s0] h P) (hm : m ≤ n) (w : ∀ (z : Int32) (h1 : q_Hp), P z h1 → q_wp (n + 1) 46 127 [some (.ref x0), some (.int x1), some (.int x2), some (.int x3), none, none] [.int z] h1 Q) : q_wp (n + 1) 46 124 [some (.ref x0), some (.int x1), some (.int x2), some (.int x3), none, none] [.int s0, .int s1, .ref s2] h Q := by
  exact wp_callI (av := [.ref s2, .int s1, .int s0]) rfl rfl rfl (by decide) rfl rfl rfl hm hc w
theorem b46_127 {n : Nat} {h : q_Hp} {Q : Option Value → q_Hp → Prop} {x0 : Nat} {x1 : Int32} {x2 : Int32} {x3 : Int32} {s0 : Int32} (wt : ¬ s0 = 0 → q_wp n 46 135 [some (.ref x0), some (.int x1), some (.int x2), some (.int x3), none, none] [] h Q) (wf : s0 = 0 → q_wp n 46 130 [some (.ref x0), some (.int x1), some (.int x2), some (.int x3), none, none] [] h Q) : q_wp n 46 127 [some (.ref x0), some (.int x1), some (.int x2), some (.int x3), none, none] [.int s0] h Q := by
  exact wp_ifne (tgt := 135) rfl (by decide) wt wf
theorem b46_130 {n : Nat} {h : q_Hp} {Q : Option Value → q_Hp → Prop} {x0 : Nat} {x1 : Int32} {x2 : Int32} {x3 : Int32} {m : Nat} {P : q_Hp → Prop} (hc : q_mV m 26 [.ref x0, .int 5] h P) (hm : m ≤ n) (w : ∀ h1 : q_Hp, P h1 → q_wp (n + 1) 46 135 [some (.ref x0), some (.int x1), some (.int x2), some (.int x3), none, none] [] h1 Q) : q_wp (n + 1) 46 130 [some (.ref x0), some (.int x1), some (.int x2), some (.int x3), none, none] [] h Q := by
  refine wp_loc rfl rfl ?_
  refine wp_iconst (v := 5) rfl (by decide) ?_
  exact wp_callV (av := [.ref x0, .int 5]) rfl rfl rfl (by decide) rfl rfl rfl hm hc w
theorem b46_135 {n : Nat} {h : q_Hp} {Q : Option Value → q_Hp → Prop} {x0 : Nat} {x1 : Int32} {x2 : Int32} {x3 : Int32} (k0 : q_ok h x0 1) {m : Nat} {P : Int32 → q_Hp → Prop} (hc : q_mI m 35 [.ref x0, .int 5] (q_sI h x0 14 ((qI h x0 14) + 2)) P) (hm : m ≤ n) (w : ∀ (z : Int32) (h1 : q_Hp), P z h1 → q_wp (n + 1) 46 150 [some (.ref x0), some (.int x1), some (.int x2), some (.int x3), none, none] [.int z] h1 Q) : q_wp (n + 1) 46 135 [some (.ref x0), some (.int x1), some (.int x2), some (.int x3), none, none] [] h Q := by
  refine wp_loc rfl rfl ?_
  refine wp_stk rfl rfl rfl ?_
  refine wp_getI rfl rfl rfl k0 ?_
  refine wp_iconst (v := 2) rfl (by decide) ?_
  refine wp_stk rfl rfl rfl ?_
  refine wp_putI rfl rfl (Or.inl rfl) rfl (fun h9 => by cases h9) k0 ?_
  refine wp_loc rfl rfl ?_
  refine wp_iconst (v := 5) rfl (by decide) ?_
  exact wp_callI (av := [.ref x0, .int 5]) rfl rfl rfl (by decide) rfl rfl rfl hm hc w
theorem b46_150 {n : Nat} {h : q_Hp} {Q : Option Value → q_Hp → Prop} {x0 : Nat} {x1 : Int32} {x2 : Int32} {x3 : Int32} {s0 : Int32} {v0 : Nat} (k0 : q_ok h x0 1) (e0 : qR h x0 6 = v0) {m : Nat} {P : Int32 → q_Hp → Prop} (hc : q_mI m 232 [.ref v0, .int x1] h P) (hm : m ≤ n) (w : ∀ (z : Int32) (h1 : q_Hp), P z h1 → q_wp (n + 1) 46 159 [some (.ref x0), some (.int x1), some (.int x2), some (.int x3), none, none] [.int z] h1 Q) : q_wp (n + 1) 46 150 [some (.ref x0), some (.int x1), some (.int x2), some (.int x3), none, none] [.int s0] h Q := by
  refine wp_stk rfl rfl rfl ?_
  refine wp_loc rfl rfl ?_
  refine wp_getR rfl rfl rfl rfl k0 e0 ?_
  refine wp_loc rfl rfl ?_
  exact wp_callI (av := [.ref v0, .int x1]) rfl rfl rfl (by decide) rfl rfl rfl hm hc w
theorem b46_159 {n : Nat} {h : q_Hp} {Q : Option Value → q_Hp → Prop} {x0 : Nat} {x1 : Int32} {x2 : Int32} {x3 : Int32} {s0 : Int32} {v0 : Nat} (k0 : q_ok h x0 1) (e0 : qR h x0 6 = v0) {m : Nat} {P : Int32 → q_Hp → Prop} (hc : q_mI m 232 [.ref v0, .int x2] h P) (hm : m ≤ n) (w : ∀ (z : Int32) (h1 : q_Hp), P z h1 → q_wp (n + 1) 46 169 [some (.ref x0), some (.int x1), some (.int x2), some (.int x3), some (.int s0), none] [.int z] h1 Q) : q_wp (n + 1) 46 159 [some (.ref x0), some (.int x1), some (.int x2), some (.int x3), none, none] [.int s0] h Q := by
  refine wp_loc rfl rfl ?_
  refine wp_loc rfl rfl ?_
  refine wp_getR rfl rfl rfl rfl k0 e0 ?_
  refine wp_loc rfl rfl ?_
  exact wp_callI (av := [.ref v0, .int x2]) rfl rfl rfl (by decide) rfl rfl rfl hm hc w
theorem b46_169 {n : Nat} {h : q_Hp} {Q : Option Value → q_Hp → Prop} {x0 : Nat} {x1 : Int32} {x2 : Int32} {x3 : Int32} {x4 : Int32} {s0 : Int32} {v0 : Nat} (k0 : q_ok h x0 1) (e0 : qR h x0 13 = v0) {m : Nat} {P : q_Hp → Prop} (hc : q_mV m 137 [.ref v0, .int 13, .int x4, .int x3, .int s0] h P) (hm : m ≤ n) (w : ∀ h1 : q_Hp, P h1 → q_wp (n + 1) 46 185 [some (.ref x0), some (.int x1), some (.int x2), some (.int x3), some (.int x4), some (.int s0)] [] h1 Q) : q_wp (n + 1) 46 169 [some (.ref x0), some (.int x1), some (.int x2), some (.int x3), some (.int x4), none] [.int s0] h Q := by
  refine wp_loc rfl rfl ?_
  refine wp_loc rfl rfl ?_
  refine wp_getR rfl rfl rfl rfl k0 e0 ?_
  refine wp_bipush (v := 13) rfl (by decide) ?_
  refine wp_loc rfl rfl ?_
  refine wp_loc rfl rfl ?_
  refine wp_loc rfl rfl ?_
  exact wp_callV (av := [.ref v0, .int 13, .int x4, .int x3, .int s0]) rfl rfl rfl (by decide) rfl rfl rfl hm hc w
theorem b46_185 {n : Nat} {h : q_Hp} {Q : Option Value → q_Hp → Prop} {x0 : Nat} {x1 : Int32} {x2 : Int32} {x3 : Int32} {x4 : Int32} {x5 : Int32} (k0 : q_ok h x0 1) {m : Nat} {P : Int32 → q_Hp → Prop} (hc : q_mI m 47 [.int x4] h P) (hm : m ≤ n) (w : ∀ (z : Int32) (h1 : q_Hp), P z h1 → q_wp (n + 1) 46 195 [some (.ref x0), some (.int x1), some (.int x2), some (.int x3), some (.int x4), some (.int x5)] [.int z, .int (qI h x0 11), .ref x0] h1 Q) : q_wp (n + 1) 46 185 [some (.ref x0), some (.int x1), some (.int x2), some (.int x3), some (.int x4), some (.int x5)] [] h Q := by
  refine wp_loc rfl rfl ?_
  refine wp_stk rfl rfl rfl ?_
  refine wp_getI rfl rfl rfl k0 ?_
  refine wp_loc rfl rfl ?_
  exact wp_callI (av := [.int x4]) rfl rfl rfl (by decide) rfl rfl rfl hm hc w
theorem b46_195 {n : Nat} {h : q_Hp} {Q : Option Value → q_Hp → Prop} {x0 : Nat} {x1 : Int32} {x2 : Int32} {x3 : Int32} {x4 : Int32} {x5 : Int32} {s0 : Int32} {s1 : Int32} {s2 : Nat} {m : Nat} {P : Int32 → q_Hp → Prop} (hc : q_mI m 47 [.int x5] h P) (hm : m ≤ n) (w : ∀ (z : Int32) (h1 : q_Hp), P z h1 → q_wp (n + 1) 46 200 [some (.ref x0), some (.int x1), some (.int x2), some (.int x3), some (.int x4), some (.int x5)] [.int z, .int s0, .int s1, .ref s2] h1 Q) : q_wp (n + 1) 46 195 [some (.ref x0), some (.int x1), some (.int x2), some (.int x3), some (.int x4), some (.int x5)] [.int s0, .int s1, .ref s2] h Q := by
  refine wp_loc rfl rfl ?_
  exact wp_callI (av := [.int x5]) rfl rfl rfl (by decide) rfl rfl rfl hm hc w
theorem b46_200 {n : Nat} {h : q_Hp} {Q : Option Value → q_Hp → Prop} {x0 : Nat} {x1 : Int32} {x2 : Int32} {x3 : Int32} {x4 : Int32} {x5 : Int32} {s0 : Int32} {s1 : Int32} {s2 : Int32} {s3 : Nat} (k0 : q_ok h s3 1) (q : Q none (q_sI h s3 11 (s2 ||| (s1 ||| s0)))) : q_wp n 46 200 [some (.ref x0), some (.int x1), some (.int x2), some (.int x3), some (.int x4), some (.int x5)] [.int s0, .int s1, .int s2, .ref s3] h Q := by
  refine wp_stk rfl rfl rfl ?_
  refine wp_stk rfl rfl rfl ?_
  refine wp_putI rfl rfl (Or.inl rfl) rfl (fun h9 => by cases h9) k0 ?_
  exact wp_ret rfl rfl q
theorem b47_0 {n : Nat} {h : q_Hp} {Q : Option Value → q_Hp → Prop} {x0 : Int32} (wt : x0 < 0 → q_wp n 47 10 [some (.int x0)] [] h Q) (wf : ¬ x0 < 0 → q_wp n 47 4 [some (.int x0)] [] h Q) : q_wp n 47 0 [some (.int x0)] [] h Q := by
  refine wp_loc rfl rfl ?_
  exact wp_iflt (tgt := 10) rfl (by decide) wt wf
theorem b47_4 {n : Nat} {h : q_Hp} {Q : Option Value → q_Hp → Prop} {x0 : Int32} (q : Q (some (.int (1 <<< (x0 &&& 31)))) h) : q_wp n 47 4 [some (.int x0)] [] h Q := by
  refine wp_iconst (v := 1) rfl (by decide) ?_
  refine wp_loc rfl rfl ?_
  refine wp_stk rfl rfl rfl ?_
  refine wp_goto (tgt := 11) rfl (by decide) ?_
  exact wp_ret rfl rfl q
theorem b47_10 {n : Nat} {h : q_Hp} {Q : Option Value → q_Hp → Prop} {x0 : Int32} (q : Q (some (.int 0)) h) : q_wp n 47 10 [some (.int x0)] [] h Q := by
  refine wp_iconst (v := 0) rfl (by decide) ?_
  exact wp_ret rfl rfl q
theorem b48_0 {n : Nat} {h : q_Hp} {Q : Option Value → q_Hp → Prop} {x0 : Nat} {m : Nat} {P : Int32 → q_Hp → Prop} (hc : q_mI m 35 [.ref x0, .int 5] h P) (hm : m ≤ n) (w : ∀ (z : Int32) (h1 : q_Hp), P z h1 → q_wp (n + 1) 48 5 [some (.ref x0), none, none, none] [.int z] h1 Q) : q_wp (n + 1) 48 0 [some (.ref x0), none, none, none] [] h Q := by
  refine wp_loc rfl rfl ?_
  refine wp_iconst (v := 5) rfl (by decide) ?_
  exact wp_callI (av := [.ref x0, .int 5]) rfl rfl rfl (by decide) rfl rfl rfl hm hc w
theorem b48_5 {n : Nat} {h : q_Hp} {Q : Option Value → q_Hp → Prop} {x0 : Nat} {s0 : Int32} (k0 : q_ok h x0 1) {m : Nat} {P : Int32 → q_Hp → Prop} (hc : q_mI m 49 [.ref x0] (q_sI h x0 14 ((qI h x0 14) + 1)) P) (hm : m ≤ n) (w : ∀ (z : Int32) (h1 : q_Hp), P z h1 → q_wp (n + 1) 48 20 [some (.ref x0), some (.int s0), none, none] [.int z] h1 Q) : q_wp (n + 1) 48 5 [some (.ref x0), none, none, none] [.int s0] h Q := by
  refine wp_loc rfl rfl ?_
  refine wp_loc rfl rfl ?_
  refine wp_stk rfl rfl rfl ?_
  refine wp_getI rfl rfl rfl k0 ?_
  refine wp_iconst (v := 1) rfl (by decide) ?_
  refine wp_stk rfl rfl rfl ?_
  refine wp_putI rfl rfl (Or.inl rfl) rfl (fun h9 => by cases h9) k0 ?_
  refine wp_loc rfl rfl ?_
  exact wp_callI (av := [.ref x0]) rfl rfl rfl (by decide) rfl rfl rfl hm hc w
theorem b48_20 {n : Nat} {h : q_Hp} {Q : Option Value → q_Hp → Prop} {x0 : Nat} {x1 : Int32} {s0 : Int32} {v0 : Nat} (k0 : q_ok h x0 1) (e0 : qR h x0 13 = v0) (k1 : q_ok h v0 6) {m : Nat} {P : Int32 → q_Hp → Prop} (hc : q_mI m 129 [.int (qI (q_sI h x0 14 ((qI h x0 14) + 1)) v0 4)] (q_sI h x0 14 ((qI h x0 14) + 1)) P) (hm : m ≤ n) (w : ∀ (z : Int32) (h1 : q_Hp), P z h1 → q_wp (n + 1) 48 41 [some (.ref x0), some (.int x1), some (.int s0), none] [.int z] h1 Q) : q_wp (n + 1) 48 20 [some (.ref x0), some (.int x1), none, none] [.int s0] h Q := by
  refine wp_loc rfl rfl ?_
  refine wp_loc rfl rfl ?_
  refine wp_stk rfl rfl rfl ?_
  refine wp_getI rfl rfl rfl k0 ?_
  refine wp_iconst (v := 1) rfl (by decide) ?_
  refine wp_stk rfl rfl rfl ?_
  refine wp_putI rfl rfl (Or.inl rfl) rfl (fun h9 => by cases h9) k0 ?_
  refine wp_loc rfl rfl ?_
  refine wp_getR rfl rfl rfl rfl k0 e0 ?_
  refine wp_getI rfl rfl rfl k1 ?_
  exact wp_callI (av := [.int (qI (q_sI h x0 14 ((qI h x0 14) + 1)) v0 4)]) rfl rfl rfl (by decide) rfl rfl rfl hm hc w
theorem b48_41 {n : Nat} {h : q_Hp} {Q : Option Value → q_Hp → Prop} {x0 : Nat} {x1 : Int32} {x2 : Int32} {s0 : Int32} {v0 : Nat} {v1 : Nat} {v2 : Nat} (k0 : q_ok h x0 1) (e0 : qR h x0 13 = v0) (k1 : q_ok h v0 6) (e1 : qR h v0 18 = v1) (e2 : qR h x0 12 = v2) {m : Nat} {P : Int32 → q_Hp → Prop} (hc : q_mI m 15 [.ref v2] h P) (hm : m ≤ n) (w : ∀ (z : Int32) (h1 : q_Hp), P z h1 → q_wp (n + 1) 48 57 [some (.ref x0), some (.int x1), some (.int x2), some (.int s0)] [.int z, .int s0, .ref v1] h1 Q) : q_wp (n + 1) 48 41 [some (.ref x0), some (.int x1), some (.int x2), none] [.int s0] h Q := by
  refine wp_loc rfl rfl ?_
  refine wp_loc rfl rfl ?_
  refine wp_getR rfl rfl rfl rfl k0 e0 ?_
  refine wp_getR rfl rfl rfl rfl k1 e1 ?_
  refine wp_loc rfl rfl ?_
  refine wp_loc rfl rfl ?_
  refine wp_getR rfl rfl rfl rfl k0 e2 ?_
  exact wp_callI (av := [.ref v2]) rfl rfl rfl (by decide) rfl rfl rfl hm hc w
theorem b48_57 {n : Nat} {h : q_Hp} {Q : Option Value → q_Hp → Prop} {x0 : Nat} {x1 : Int32} {x2 : Int32} {x3 : Int32} {s0 : Int32} {s1 : Int32} {s2 : Nat} {m : Nat} {P : q_Hp → Prop} (hc : q_mV m 233 [.ref s2, .int s1, .int s0] h P) (hm : m ≤ n) (w : ∀ h1 : q_Hp, P h1 → q_wp (n + 1) 48 60 [some (.ref x0), some (.int x1), some (.int x2), some (.int x3)] [] h1 Q) : q_wp (n + 1) 48 57 [some (.ref x0), some (.int x1), some (.int x2), some (.int x3)] [.int s0, .int s1, .ref s2] h Q := by
  exact wp_callV (av := [.ref s2, .int s1, .int s0]) rfl rfl rfl (by decide) rfl rfl rfl hm hc w
theorem b48_60 {n : Nat} {h : q_Hp} {Q : Option Value → q_Hp → Prop} {x0 : Nat} {x1 : Int32} {x2 : Int32} {x3 : Int32} {m : Nat} {P : q_Hp → Prop} (hc : q_mV m 50 [.ref x0, .int 0] h P) (hm : m ≤ n) (w : ∀ h1 : q_Hp, P h1 → q_wp (n + 1) 48 65 [some (.ref x0), some (.int x1), some (.int x2), some (.int x3)] [] h1 Q) : q_wp (n + 1) 48 60 [some (.ref x0), some (.int x1), some (.int x2), some (.int x3)] [] h Q := by
  refine wp_loc rfl rfl ?_
  refine wp_iconst (v := 0) rfl (by decide) ?_
  exact wp_callV (av := [.ref x0, .int 0]) rfl rfl rfl (by decide) rfl rfl rfl hm hc w
theorem b48_65 {n : Nat} {h : q_Hp} {Q : Option Value → q_Hp → Prop} {x0 : Nat} {x1 : Int32} {x2 : Int32} {x3 : Int32} {v0 : Nat} {v1 : Nat} {v2 : Nat} (k0 : q_ok h x0 1) (e0 : qR h x0 13 = v0) (k1 : q_ok h v0 6) (e1 : qR h v0 19 = v1) (e2 : qR h x0 12 = v2) {m : Nat} {P : Int32 → q_Hp → Prop} (hc : q_mI m 15 [.ref v2] h P) (hm : m ≤ n) (w : ∀ (z : Int32) (h1 : q_Hp), P z h1 → q_wp (n + 1) 48 80 [some (.ref x0), some (.int x1), some (.int x2), some (.int x3)] [.int z, .int x3, .ref v1] h1 Q) : q_wp (n + 1) 48 65 [some (.ref x0), some (.int x1), some (.int x2), some (.int x3)] [] h Q := by
  refine wp_loc rfl rfl ?_
  refine wp_getR rfl rfl rfl rfl k0 e0 ?_
  refine wp_getR rfl rfl rfl rfl k1 e1 ?_
  refine wp_loc rfl rfl ?_
  refine wp_loc rfl rfl ?_
  refine wp_getR rfl rfl rfl rfl k0 e2 ?_
  exact wp_callI (av := [.ref v2]) rfl rfl rfl (by decide) rfl rfl rfl hm hc w
theorem b48_80 {n : Nat} {h : q_Hp} {Q : Option Value → q_Hp → Prop} {x0 : Nat} {x1 : Int32} {x2 : Int32} {x3 : Int32} {s0 : Int32} {s1 : Int32} {s2 : Nat} {m : Nat} {P : q_Hp → Prop} (hc : q_mV m 233 [.ref s2, .int s1, .int s0] h P) (hm : m ≤ n) (w : ∀ h1 : q_Hp, P h1 → q_wp (n + 1) 48 83 [some (.ref x0), some (.int x1), some (.int x2), some (.int x3)] [] h1 Q) : q_wp (n + 1) 48 80 [some (.ref x0), some (.int x1), some (.int x2), some (.int x3)] [.int s0, .int s1, .ref s2] h Q := by
  exact wp_callV (av := [.ref s2, .int s1, .int s0]) rfl rfl rfl (by decide) rfl rfl rfl hm hc w
theorem b48_83 {n : Nat} {h : q_Hp} {Q : Option Value → q_Hp → Prop} {x0 : Nat} {x1 : Int32} {x2 : Int32} {x3 : Int32} {v0 : Nat} {v1 : Nat} (k0 : q_ok h x0 1) (e0 : qR h x0 13 = v0) (e1 : qR h x0 6 = v1) {m : Nat} {P : Int32 → q_Hp → Prop} (hc : q_mI m 232 [.ref v1, .int x1] h P) (hm : m ≤ n) (w : ∀ (z : Int32) (h1 : q_Hp), P z h1 → q_wp (n + 1) 48 97 [some (.ref x0), some (.int x1), some (.int x2), some (.int x3)] [.int z, .int 14, .ref v0] h1 Q) : q_wp (n + 1) 48 83 [some (.ref x0), some (.int x1), some (.int x2), some (.int x3)] [] h Q := by
  refine wp_loc rfl rfl ?_
  refine wp_getR rfl rfl rfl rfl k0 e0 ?_
  refine wp_bipush (v := 14) rfl (by decide) ?_
  refine wp_loc rfl rfl ?_
  refine wp_getR rfl rfl rfl rfl k0 e1 ?_
  refine wp_loc rfl rfl ?_
  exact wp_callI (av := [.ref v1, .int x1]) rfl rfl rfl (by decide) rfl rfl rfl hm hc w
theorem b48_97 {n : Nat} {h : q_Hp} {Q : Option Value → q_Hp → Prop} {x0 : Nat} {x1 : Int32} {x2 : Int32} {x3 : Int32} {s0 : Int32} {s1 : Int32} {s2 : Nat} {m : Nat} {P : q_Hp → Prop} (hc : q_mV m 137 [.ref s2, .int s1, .int s0, .int x2, .int (-1)] h P) (hm : m ≤ n) (w : ∀ h1 : q_Hp, P h1 → q_wp (n + 1) 48 102 [some (.ref x0), some (.int x1), some (.int x2), some (.int x3)] [] h1 Q) : q_wp (n + 1) 48 97 [some (.ref x0), some (.int x1), some (.int x2), some (.int x3)] [.int s0, .int s1, .ref s2] h Q := by
  refine wp_loc rfl rfl ?_
  refine wp_iconst (v := (-1)) rfl (by decide) ?_
  exact wp_callV (av := [.ref s2, .int s1, .int s0, .int x2, .int (-1)]) rfl rfl rfl (by decide) rfl rfl rfl hm hc w
theorem b48_102 {n : Nat} {h : q_Hp} {Q : Option Value → q_Hp → Prop} {x0 : Nat} {x1 : Int32} {x2 : Int32} {x3 : Int32} (q : Q none h) : q_wp n 48 102 [some (.ref x0), some (.int x1), some (.int x2), some (.int x3)] [] h Q := by
  exact wp_ret rfl rfl q
theorem b49_0 {n : Nat} {h : q_Hp} {Q : Option Value → q_Hp → Prop} {x0 : Nat} {v0 : Nat} (k0 : q_ok h x0 1) (e0 : qR h x0 0 = v0) {m : Nat} {P : Int64 → q_Hp → Prop} (hc : q_mJ m 190 [.ref v0, .int (qI h x0 14)] h P) (hm : m ≤ n) (w : ∀ (z : Int64) (h1 : q_Hp), P z h1 → q_wp (n + 1) 49 11 [some (.ref x0), none, none] [.long z] h1 Q) : q_wp (n + 1) 49 0 [some (.ref x0), none, none] [] h Q := by
  refine wp_loc rfl rfl ?_
  refine wp_getR rfl rfl rfl rfl k0 e0 ?_
  refine wp_loc rfl rfl ?_
  refine wp_getI rfl rfl rfl k0 ?_
  exact wp_callJ (av := [.ref v0, .int (qI h x0 14)]) rfl rfl rfl (by decide) rfl rfl rfl hm hc w
theorem b49_11 {n : Nat} {h : q_Hp} {Q : Option Value → q_Hp → Prop} {x0 : Nat} {s0 : Int64} (wt : (lg_cmp s0 1) ≤ 0 → q_wp n 49 23 [some (.ref x0), some (.long s0), none] [] h Q) (wf : ¬ (lg_cmp s0 1) ≤ 0 → q_wp n 49 18 [some (.ref x0), some (.long s0), none] [] h Q) : q_wp n 49 11 [some (.ref x0), none, none] [.long s0] h Q := by
  refine wp_loc rfl rfl ?_
  refine wp_loc rfl rfl ?_
  refine wp_lconst (v := 1) rfl (by decide) ?_
  refine wp_stk rfl rfl rfl ?_
  exact wp_ifle (tgt := 23) rfl (by decide) wt wf
theorem b49_18 {n : Nat} {h : q_Hp} {Q : Option Value → q_Hp → Prop} {x0 : Nat} {x1 : Int64} {m : Nat} {P : q_Hp → Prop} (hc : q_mV m 26 [.ref x0, .int 5] h P) (hm : m ≤ n) (w : ∀ h1 : q_Hp, P h1 → q_wp (n + 1) 49 23 [some (.ref x0), some (.long x1), none] [] h1 Q) : q_wp (n + 1) 49 18 [some (.ref x0), some (.long x1), none] [] h Q := by
  refine wp_loc rfl rfl ?_
  refine wp_iconst (v := 5) rfl (by decide) ?_
  exact wp_callV (av := [.ref x0, .int 5]) rfl rfl rfl (by decide) rfl rfl rfl hm hc w
theorem b49_23 {n : Nat} {h : q_Hp} {Q : Option Value → q_Hp → Prop} {x0 : Nat} {x1 : Int64} (k0 : q_ok h x0 1) (q : Q (some (.int ((x1 : Int64).toInt32))) (q_sI h x0 14 ((qI h x0 14) + 1))) : q_wp n 49 23 [some (.ref x0), some (.long x1), none] [] h Q := by
  refine wp_loc rfl rfl ?_
  refine wp_stk rfl rfl rfl ?_
  refine wp_getI rfl rfl rfl k0 ?_
  refine wp_iconst (v := 1) rfl (by decide) ?_
  refine wp_stk rfl rfl rfl ?_
  refine wp_putI rfl rfl (Or.inl rfl) rfl (fun h9 => by cases h9) k0 ?_
  refine wp_loc rfl rfl ?_
  refine wp_stk rfl rfl rfl ?_
  exact wp_ret rfl rfl q
theorem b50_0 {n : Nat} {h : q_Hp} {Q : Option Value → q_Hp → Prop} {x0 : Nat} {x1 : Int32} {m : Nat} {P : Int32 → q_Hp → Prop} (hc : q_mI m 25 [.ref x0] h P) (hm : m ≤ n) (w : ∀ (z : Int32) (h1 : q_Hp), P z h1 → q_wp (n + 1) 50 4 [some (.ref x0), some (.int x1), none, none, none, none] [.int z] h1 Q) : q_wp (n + 1) 50 0 [some (.ref x0), some (.int x1), none, none, none, none] [] h Q := by
  refine wp_loc rfl rfl ?_
  exact wp_callI (av := [.ref x0]) rfl rfl rfl (by decide) rfl rfl rfl hm hc w
theorem b50_4 {n : Nat} {h : q_Hp} {Q : Option Value → q_Hp → Prop} {x0 : Nat} {x1 : Int32} {s0 : Int32} (wt : ¬ s0 = 32 → q_wp n 50 13 [some (.ref x0), some (.int x1), none, none, none, none] [] h Q) (wf : s0 = 32 → q_wp n 50 9 [some (.ref x0), some (.int x1), none, none, none, none] [] h Q) : q_wp n 50 4 [some (.ref x0), some (.int x1), none, none, none, none] [.int s0] h Q := by
  refine wp_bipush (v := 32) rfl (by decide) ?_
  exact wp_icne (tgt := 13) rfl (by decide) wt wf
theorem b50_9 {n : Nat} {h : q_Hp} {Q : Option Value → q_Hp → Prop} {x0 : Nat} {x1 : Int32} (w : q_wp n 50 14 [some (.ref x0), some (.int x1), none, none, none, none] [.int 1] h Q) : q_wp n 50 9 [some (.ref x0), some (.int x1), none, none, none, none] [] h Q := by
  refine wp_iconst (v := 1) rfl (by decide) ?_
  refine wp_goto (tgt := 14) rfl (by decide) ?_
  exact w
theorem b50_13 {n : Nat} {h : q_Hp} {Q : Option Value → q_Hp → Prop} {x0 : Nat} {x1 : Int32} (w : q_wp n 50 14 [some (.ref x0), some (.int x1), none, none, none, none] [.int 0] h Q) : q_wp n 50 13 [some (.ref x0), some (.int x1), none, none, none, none] [] h Q := by
  refine wp_iconst (v := 0) rfl (by decide) ?_
  exact w
theorem b50_14 {n : Nat} {h : q_Hp} {Q : Option Value → q_Hp → Prop} {x0 : Nat} {x1 : Int32} {s0 : Int32} (wt : s0 = 0 → q_wp n 50 29 [some (.ref x0), some (.int x1), some (.int s0), none, none, none] [] h Q) (wf : ¬ s0 = 0 → q_wp n 50 19 [some (.ref x0), some (.int x1), some (.int s0), none, none, none] [] h Q) : q_wp n 50 14 [some (.ref x0), some (.int x1), none, none, none, none] [.int s0] h Q := by
  refine wp_loc rfl rfl ?_
  refine wp_loc rfl rfl ?_
  exact wp_ifeq (tgt := 29) rfl (by decide) wt wf
theorem b50_19 {n : Nat} {h : q_Hp} {Q : Option Value → q_Hp → Prop} {x0 : Nat} {x1 : Int32} {x2 : Int32} (k0 : q_ok h x0 1) (w : q_wp n 50 29 [some (.ref x0), some (.int x1), some (.int x2), none, none, none] [] (q_sI h x0 14 ((qI h x0 14) + 1)) Q) : q_wp n 50 19 [some (.ref x0), some (.int x1), some (.int x2), none, none, none] [] h Q := by
  refine wp_loc rfl rfl ?_
  refine wp_stk rfl rfl rfl ?_
  refine wp_getI rfl rfl rfl k0 ?_
  refine wp_iconst (v := 1) rfl (by decide) ?_
  refine wp_stk rfl rfl rfl ?_
  refine wp_putI rfl rfl (Or.inl rfl) rfl (fun h9 => by cases h9) k0 ?_
  exact w
theorem b50_29 {n : Nat} {h : q_Hp} {Q : Option Value → q_Hp → Prop} {x0 : Nat} {x1 : Int32} {x2 : Int32} (w : q_wp n 50 34 [some (.ref x0), some (.int x1), some (.int x2), some (.int (-1)), some (.int 0), none] [] h Q) : q_wp n 50 29 [some (.ref x0), some (.int x1), some (.int x2), none, none, none] [] h Q := by
  refine wp_iconst (v := (-1)) rfl (by decide) ?_
  refine wp_loc rfl rfl ?_
  refine wp_iconst (v := 0) rfl (by decide) ?_
  refine wp_loc rfl rfl ?_
  exact w
theorem b50_34 {n : Nat} {h : q_Hp} {Q : Option Value → q_Hp → Prop} {x0 : Nat} {x1 : Int32} {x2 : Int32} {x3 : Int32} {x4 : Int32} {l5 : Option Value} (wt : 1200 < x4 → q_wp n 50 170 [some (.ref x0), some (.int x1), some (.int x2), some (.int x3), some (.int x4), l5] [] h Q) (wf : ¬ 1200 < x4 → q_wp n 50 42 [some (.ref x0), some (.int x1), some (.int x2), some (.int x3), some (.int x4), l5] [] h Q) : q_wp n 50 34 [some (.ref x0), some (.int x1), some (.int x2), some (.int x3), some (.int x4), l5] [] h Q := by
  refine wp_loc rfl rfl ?_
  refine wp_sipush (v := 1200) rfl (by decide) ?_
  exact wp_icgt (tgt := 170) rfl (by decide) wt wf
theorem b50_42 {n : Nat} {h : q_Hp} {Q : Option Value → q_Hp → Prop} {x0 : Nat} {x1 : Int32} {x2 : Int32} {x3 : Int32} {x4 : Int32} {l5 : Option Value} {m : Nat} {P : q_Hp → Prop} (hc : q_mV m 51 [.ref x0, .int x1] h P) (hm : m ≤ n) (w : ∀ h1 : q_Hp, P h1 → q_wp (n + 1) 50 47 [some (.ref x0), some (.int x1), some (.int x2), some (.int x3), some (.int x4), l5] [] h1 Q) : q_wp (n + 1) 50 42 [some (.ref x0), some (.int x1), some (.int x2), some (.int x3), some (.int x4), l5] [] h Q := by
  refine wp_loc rfl rfl ?_
  refine wp_loc rfl rfl ?_
  exact wp_callV (av := [.ref x0, .int x1]) rfl rfl rfl (by decide) rfl rfl rfl hm hc w
theorem b50_47 {n : Nat} {h : q_Hp} {Q : Option Value → q_Hp → Prop} {x0 : Nat} {x1 : Int32} {x2 : Int32} {x3 : Int32} {x4 : Int32} {l5 : Option Value} (w : q_wp n 50 50 [some (.ref x0), some (.int x1), some (.int x2), some (.int x3), some (.int x4), some (.int 0)] [] h Q) : q_wp n 50 47 [some (.ref x0), some (.int x1), some (.int x2), some (.int x3), some (.int x4), l5] [] h Q := by
  refine wp_iconst (v := 0) rfl (by decide) ?_
  refine wp_loc rfl rfl ?_
  exact w
theorem b50_50 {n : Nat} {h : q_Hp} {Q : Option Value → q_Hp → Prop} {x0 : Nat} {x1 : Int32} {x2 : Int32} {x3 : Int32} {x4 : Int32} {x5 : Int32} (wt : 1200 < x5 → q_wp n 50 97 [some (.ref x0), some (.int x1), some (.int x2), some (.int x3), some (.int x4), some (.int x5)] [] h Q) (wf : ¬ 1200 < x5 → q_wp n 50 58 [some (.ref x0), some (.int x1), some (.int x2), some (.int x3), some (.int x4), some (.int x5)] [] h Q) : q_wp n 50 50 [some (.ref x0), some (.int x1), some (.int x2), some (.int x3), some (.int x4), some (.int x5)] [] h Q := by
  refine wp_loc rfl rfl ?_
  refine wp_sipush (v := 1200) rfl (by decide) ?_
  exact wp_icgt (tgt := 97) rfl (by decide) wt wf
theorem b50_58 {n : Nat} {h : q_Hp} {Q : Option Value → q_Hp → Prop} {x0 : Nat} {x1 : Int32} {x2 : Int32} {x3 : Int32} {x4 : Int32} {x5 : Int32} {m : Nat} {P : Int32 → q_Hp → Prop} (hc : q_mI m 25 [.ref x0] h P) (hm : m ≤ n) (w : ∀ (z : Int32) (h1 : q_Hp), P z h1 → q_wp (n + 1) 50 62 [some (.ref x0), some (.int x1), some (.int x2), some (.int x3), some (.int x4), some (.int x5)] [.int z] h1 Q) : q_wp (n + 1) 50 58 [some (.ref x0), some (.int x1), some (.int x2), some (.int x3), some (.int x4), some (.int x5)] [] h Q := by
  refine wp_loc rfl rfl ?_
  exact wp_callI (av := [.ref x0]) rfl rfl rfl (by decide) rfl rfl rfl hm hc w
theorem b50_62 {n : Nat} {h : q_Hp} {Q : Option Value → q_Hp → Prop} {x0 : Nat} {x1 : Int32} {x2 : Int32} {x3 : Int32} {x4 : Int32} {x5 : Int32} {s0 : Int32} (wt : ¬ s0 = 33 → q_wp n 50 97 [some (.ref x0), some (.int x1), some (.int x2), some (.int x3), some (.int x4), some (.int x5)] [] h Q) (wf : s0 = 33 → q_wp n 50 67 [some (.ref x0), some (.int x1), some (.int x2), some (.int x3), some (.int x4), some (.int x5)] [] h Q) : q_wp n 50 62 [some (.ref x0), some (.int x1), some (.int x2), some (.int x3), some (.int x4), some (.int x5)] [.int s0] h Q := by
  refine wp_bipush (v := 33) rfl (by decide) ?_
  exact wp_icne (tgt := 97) rfl (by decide) wt wf
theorem b50_67 {n : Nat} {h : q_Hp} {Q : Option Value → q_Hp → Prop} {x0 : Nat} {x1 : Int32} {x2 : Int32} {x3 : Int32} {x4 : Int32} {x5 : Int32} (k0 : q_ok h x0 1) {m : Nat} {P : q_Hp → Prop} (hc : q_mV m 51 [.ref x0, .int x1] (q_sI h x0 14 ((qI h x0 14) + 1)) P) (hm : m ≤ n) (w : ∀ h1 : q_Hp, P h1 → q_wp (n + 1) 50 82 [some (.ref x0), some (.int x1), some (.int x2), some (.int x3), some (.int x4), some (.int x5)] [] h1 Q) : q_wp (n + 1) 50 67 [some (.ref x0), some (.int x1), some (.int x2), some (.int x3), some (.int x4), some (.int x5)] [] h Q := by
  refine wp_loc rfl rfl ?_
  refine wp_stk rfl rfl rfl ?_
  refine wp_getI rfl rfl rfl k0 ?_
  refine wp_iconst (v := 1) rfl (by decide) ?_
  refine wp_stk rfl rfl rfl ?_
  refine wp_putI rfl rfl (Or.inl rfl) rfl (fun h9 => by cases h9) k0 ?_
  refine wp_loc rfl rfl ?_
  refine wp_loc rfl rfl ?_
  exact wp_callV (av := [.ref x0, .int x1]) rfl rfl rfl (by decide) rfl rfl rfl hm hc w
theorem b50_82 {n : Nat} {h : q_Hp} {Q : Option Value → q_Hp → Prop} {x0 : Nat} {x1 : Int32} {x2 : Int32} {x3 : Int32} {x4 : Int32} {x5 : Int32} {v0 : Nat} (k0 : q_ok h x0 1) (e0 : qR h x0 12 = v0) {m : Nat} {P : q_Hp → Prop} (hc : q_mV m 18 [.ref v0, .int 5, .int 0] h P) (hm : m ≤ n) (w : ∀ h1 : q_Hp, P h1 → q_wp (n + 1) 50 91 [some (.ref x0), some (.int x1), some (.int x2), some (.int x3), some (.int x4), some (.int x5)] [] h1 Q) : q_wp (n + 1) 50 82 [some (.ref x0), some (.int x1), some (.int x2), some (.int x3), some (.int x4), some (.int x5)] [] h Q := by
  refine wp_loc rfl rfl ?_
  refine wp_getR rfl rfl rfl rfl k0 e0 ?_
  refine wp_iconst (v := 5) rfl (by decide) ?_
  refine wp_iconst (v := 0) rfl (by decide) ?_
  exact wp_callV (av := [.ref v0, .int 5, .int 0]) rfl rfl rfl (by decide) rfl rfl rfl hm hc w
theorem b50_91 {n : Nat} {h : q_Hp} {Q : Option Value → q_Hp → Prop} {x0 : Nat} {x1 : Int32} {x2 : Int32} {x3 : Int32} {x4 : Int32} {x5 : Int32} (w : q_wp n 50 50 [some (.ref x0), some (.int x1), some (.int x2), some (.int x3), some (.int x4), some (.int (x5 + 1))] [] h Q) : q_wp n 50 91 [some (.ref x0), some (.int x1), some (.int x2), some (.int x3), some (.int x4), some (.int x5)] [] h Q := by
  refine wp_iinc (v := 1) rfl rfl (by decide) rfl ?_
  refine wp_goto (tgt := 50) rfl (by decide) ?_
  exact w
theorem b50_97 {n : Nat} {h : q_Hp} {Q : Option Value → q_Hp → Prop} {x0 : Nat} {x1 : Int32} {x2 : Int32} {x3 : Int32} {x4 : Int32} {x5 : Int32} (wt : x2 = 0 → q_wp n 50 112 [some (.ref x0), some (.int x1), some (.int x2), some (.int x3), some (.int x4), some (.int x5)] [] h Q) (wf : ¬ x2 = 0 → q_wp n 50 101 [some (.ref x0), some (.int x1), some (.int x2), some (.int x3), some (.int x4), some (.int x5)] [] h Q) : q_wp n 50 97 [some (.ref x0), some (.int x1), some (.int x2), some (.int x3), some (.int x4), some (.int x5)] [] h Q := by
  refine wp_loc rfl rfl ?_
  exact wp_ifeq (tgt := 112) rfl (by decide) wt wf
theorem b50_101 {n : Nat} {h : q_Hp} {Q : Option Value → q_Hp → Prop} {x0 : Nat} {x1 : Int32} {x2 : Int32} {x3 : Int32} {x4 : Int32} {x5 : Int32} {v0 : Nat} (k0 : q_ok h x0 1) (e0 : qR h x0 12 = v0) {m : Nat} {P : q_Hp → Prop} (hc : q_mV m 18 [.ref v0, .int 2, .int 0] h P) (hm : m ≤ n) (w : ∀ h1 : q_Hp, P h1 → q_wp (n + 1) 50 110 [some (.ref x0), some (.int x1), some (.int x2), some (.int x3), some (.int x4), some (.int x5)] [] h1 Q) : q_wp (n + 1) 50 101 [some (.ref x0), some (.int x1), some (.int x2), some (.int x3), some (.int x4), some (.int x5)] [] h Q := by
  refine wp_loc rfl rfl ?_
  refine wp_getR rfl rfl rfl rfl k0 e0 ?_
  refine wp_iconst (v := 2) rfl (by decide) ?_
  refine wp_iconst (v := 0) rfl (by decide) ?_
  exact wp_callV (av := [.ref v0, .int 2, .int 0]) rfl rfl rfl (by decide) rfl rfl rfl hm hc w
theorem b50_110 {n : Nat} {h : q_Hp} {Q : Option Value → q_Hp → Prop} {x0 : Nat} {x1 : Int32} {x2 : Int32} {x3 : Int32} {x4 : Int32} {x5 : Int32} (w : q_wp n 50 112 [some (.ref x0), some (.int x1), some (.int 0), some (.int x3), some (.int x4), some (.int x5)] [] h Q) : q_wp n 50 110 [some (.ref x0), some (.int x1), some (.int x2), some (.int x3), some (.int x4), some (.int x5)] [] h Q := by
  refine wp_iconst (v := 0) rfl (by decide) ?_
  refine wp_loc rfl rfl ?_
  exact w
theorem b50_112 {n : Nat} {h : q_Hp} {Q : Option Value → q_Hp → Prop} {x0 : Nat} {x1 : Int32} {x2 : Int32} {x3 : Int32} {x4 : Int32} {x5 : Int32} (wt : x3 = (-1) → q_wp n 50 136 [some (.ref x0), some (.int x1), some (.int x2), some (.int x3), some (.int x4), some (.int x5)] [] h Q) (wf : ¬ x3 = (-1) → q_wp n 50 117 [some (.ref x0), some (.int x1), some (.int x2), some (.int x3), some (.int x4), some (.int x5)] [] h Q) : q_wp n 50 112 [some (.ref x0), some (.int x1), some (.int x2), some (.int x3), some (.int x4), some (.int x5)] [] h Q := by
  refine wp_loc rfl rfl ?_
  refine wp_iconst (v := (-1)) rfl (by decide) ?_
  exact wp_iceq (tgt := 136) rfl (by decide) wt wf
theorem b50_117 {n : Nat} {h : q_Hp} {Q : Option Value → q_Hp → Prop} {x0 : Nat} {x1 : Int32} {x2 : Int32} {x3 : Int32} {x4 : Int32} {x5 : Int32} {v0 : Nat} (k0 : q_ok h x0 1) (e0 : qR h x0 12 = v0) (wt : ¬ x3 = 31 → q_wp n 50 131 [some (.ref x0), some (.int x1), some (.int x2), some (.int x3), some (.int x4), some (.int x5)] [.ref v0] h Q) (wf : x3 = 31 → q_wp n 50 127 [some (.ref x0), some (.int x1), some (.int x2), some (.int x3), some (.int x4), some (.int x5)] [.ref v0] h Q) : q_wp n 50 117 [some (.ref x0), some (.int x1), some (.int x2), some (.int x3), some (.int x4), some (.int x5)] [] h Q := by
  refine wp_loc rfl rfl ?_
  refine wp_getR rfl rfl rfl rfl k0 e0 ?_
  refine wp_loc rfl rfl ?_
  refine wp_bipush (v := 31) rfl (by decide) ?_
  exact wp_icne (tgt := 131) rfl (by decide) wt wf
theorem b50_127 {n : Nat} {h : q_Hp} {Q : Option Value → q_Hp → Prop} {x0 : Nat} {x1 : Int32} {x2 : Int32} {x3 : Int32} {x4 : Int32} {x5 : Int32} {s0 : Nat} (w : q_wp n 50 132 [some (.ref x0), some (.int x1), some (.int x2), some (.int x3), some (.int x4), some (.int x5)] [.int 3, .ref s0] h Q) : q_wp n 50 127 [some (.ref x0), some (.int x1), some (.int x2), some (.int x3), some (.int x4), some (.int x5)] [.ref s0] h Q := by
  refine wp_iconst (v := 3) rfl (by decide) ?_
  refine wp_goto (tgt := 132) rfl (by decide) ?_
  exact w
theorem b50_131 {n : Nat} {h : q_Hp} {Q : Option Value → q_Hp → Prop} {x0 : Nat} {x1 : Int32} {x2 : Int32} {x3 : Int32} {x4 : Int32} {x5 : Int32} {s0 : Nat} (w : q_wp n 50 132 [some (.ref x0), some (.int x1), some (.int x2), some (.int x3), some (.int x4), some (.int x5)] [.int 4, .ref s0] h Q) : q_wp n 50 131 [some (.ref x0), some (.int x1), some (.int x2), some (.int x3), some (.int x4), some (.int x5)] [.ref s0] h Q := by
  refine wp_iconst (v := 4) rfl (by decide) ?_
  exact w
theorem b50_132 {n : Nat} {h : q_Hp} {Q : Option Value → q_Hp → Prop} {x0 : Nat} {x1 : Int32} {x2 : Int32} {x3 : Int32} {x4 : Int32} {x5 : Int32} {s0 : Int32} {s1 : Nat} {m : Nat} {P : q_Hp → Prop} (hc : q_mV m 18 [.ref s1, .int s0, .int 0] h P) (hm : m ≤ n) (w : ∀ h1 : q_Hp, P h1 → q_wp (n + 1) 50 136 [some (.ref x0), some (.int x1), some (.int x2), some (.int x3), some (.int x4), some (.int x5)] [] h1 Q) : q_wp (n + 1) 50 132 [some (.ref x0), some (.int x1), some (.int x2), some (.int x3), some (.int x4), some (.int x5)] [.int s0, .ref s1] h Q := by
  refine wp_iconst (v := 0) rfl (by decide) ?_
  exact wp_callV (av := [.ref s1, .int s0, .int 0]) rfl rfl rfl (by decide) rfl rfl rfl hm hc w
theorem b50_136 {n : Nat} {h : q_Hp} {Q : Option Value → q_Hp → Prop} {x0 : Nat} {x1 : Int32} {x2 : Int32} {x3 : Int32} {x4 : Int32} {x5 : Int32} {m : Nat} {P : Int32 → q_Hp → Prop} (hc : q_mI m 25 [.ref x0] h P) (hm : m ≤ n) (w : ∀ (z : Int32) (h1 : q_Hp), P z h1 → q_wp (n + 1) 50 140 [some (.ref x0), some (.int x1), some (.int x2), some (.int x3), some (.int x4), some (.int x5)] [.int z] h1 Q) : q_wp (n + 1) 50 136 [some (.ref x0), some (.int x1), some (.int x2), some (.int x3), some (.int x4), some (.int x5)] [] h Q := by
  refine wp_loc rfl rfl ?_
  exact wp_callI (av := [.ref x0]) rfl rfl rfl (by decide) rfl rfl rfl hm hc w
theorem b50_140 {n : Nat} {h : q_Hp} {Q : Option Value → q_Hp → Prop} {x0 : Nat} {x1 : Int32} {x2 : Int32} {x3 : Int32} {x4 : Int32} {x5 : Int32} {s0 : Int32} (wt : s0 = 31 → q_wp n 50 154 [some (.ref x0), some (.int x1), some (.int x2), some (.int s0), some (.int x4), some (.int x5)] [] h Q) (wf : ¬ s0 = 31 → q_wp n 50 147 [some (.ref x0), some (.int x1), some (.int x2), some (.int s0), some (.int x4), some (.int x5)] [] h Q) : q_wp n 50 140 [some (.ref x0), some (.int x1), some (.int x2), some (.int x3), some (.int x4), some (.int x5)] [.int s0] h Q := by
  refine wp_loc rfl rfl ?_
  refine wp_loc rfl rfl ?_
  refine wp_bipush (v := 31) rfl (by decide) ?_
  exact wp_iceq (tgt := 154) rfl (by decide) wt wf
theorem b50_147 {n : Nat} {h : q_Hp} {Q : Option Value → q_Hp → Prop} {x0 : Nat} {x1 : Int32} {x2 : Int32} {x3 : Int32} {x4 : Int32} {x5 : Int32} (wt : x3 = 32 → q_wp n 50 154 [some (.ref x0), some (.int x1), some (.int x2), some (.int x3), some (.int x4), some (.int x5)] [] h Q) (wf : ¬ x3 = 32 → q_wp n 50 153 [some (.ref x0), some (.int x1), some (.int x2), some (.int x3), some (.int x4), some (.int x5)] [] h Q) : q_wp n 50 147 [some (.ref x0), some (.int x1), some (.int x2), some (.int x3), some (.int x4), some (.int x5)] [] h Q := by
  refine wp_loc rfl rfl ?_
  refine wp_bipush (v := 32) rfl (by decide) ?_
  exact wp_iceq (tgt := 154) rfl (by decide) wt wf
theorem b50_153 {n : Nat} {h : q_Hp} {Q : Option Value → q_Hp → Prop} {x0 : Nat} {x1 : Int32} {x2 : Int32} {x3 : Int32} {x4 : Int32} {x5 : Int32} (q : Q none h) : q_wp n 50 153 [some (.ref x0), some (.int x1), some (.int x2), some (.int x3), some (.int x4), some (.int x5)] [] h Q := by
  exact wp_ret rfl rfl q
theorem b50_154 {n : Nat} {h : q_Hp} {Q : Option Value → q_Hp → Prop} {x0 : Nat} {x1 : Int32} {x2 : Int32} {x3 : Int32} {x4 : Int32} {x5 : Int32} (k0 : q_ok h x0 1) (w : q_wp n 50 34 [some (.ref x0), some (.int x1), some (.int x2), some (.int x3), some (.int (x4 + 1)), some (.int x5)] [] (q_sI h x0 14 ((qI h x0 14) + 1)) Q) : q_wp n 50 154 [some (.ref x0), some (.int x1), some (.int x2), some (.int x3), some (.int x4), some (.int x5)] [] h Q := by
  refine wp_loc rfl rfl ?_
  refine wp_stk rfl rfl rfl ?_
  refine wp_getI rfl rfl rfl k0 ?_
  refine wp_iconst (v := 1) rfl (by decide) ?_
  refine wp_stk rfl rfl rfl ?_
  refine wp_putI rfl rfl (Or.inl rfl) rfl (fun h9 => by cases h9) k0 ?_
  refine wp_iinc (v := 1) rfl rfl (by decide) rfl ?_
  refine wp_goto (tgt := 34) rfl (by decide) ?_
  exact w
theorem b50_170 {n : Nat} {h : q_Hp} {Q : Option Value → q_Hp → Prop} {x0 : Nat} {x1 : Int32} {x2 : Int32} {x3 : Int32} {x4 : Int32} {l5 : Option Value} (q : Q none h) : q_wp n 50 170 [some (.ref x0), some (.int x1), some (.int x2), some (.int x3), some (.int x4), l5] [] h Q := by
  exact wp_ret rfl rfl q
theorem b51_0 {n : Nat} {h : q_Hp} {Q : Option Value → q_Hp → Prop} {x0 : Nat} {x1 : Int32} {m : Nat} {P : Int32 → q_Hp → Prop} (hc : q_mI m 25 [.ref x0] h P) (hm : m ≤ n) (w : ∀ (z : Int32) (h1 : q_Hp), P z h1 → q_wp (n + 1) 51 4 [some (.ref x0), some (.int x1), none, none] [.int z] h1 Q) : q_wp (n + 1) 51 0 [some (.ref x0), some (.int x1), none, none] [] h Q := by
  refine wp_loc rfl rfl ?_
  exact wp_callI (av := [.ref x0]) rfl rfl rfl (by decide) rfl rfl rfl hm hc w
theorem b51_4 {n : Nat} {h : q_Hp} {Q : Option Value → q_Hp → Prop} {x0 : Nat} {x1 : Int32} {s0 : Int32} (wt : ¬ s0 = 41 → q_wp n 51 42 [some (.ref x0), some (.int x1), none, none] [] h Q) (wf : s0 = 41 → q_wp n 51 9 [some (.ref x0), some (.int x1), none, none] [] h Q) : q_wp n 51 4 [some (.ref x0), some (.int x1), none, none] [.int s0] h Q := by
  refine wp_bipush (v := 41) rfl (by decide) ?_
  exact wp_icne (tgt := 42) rfl (by decide) wt wf
theorem b51_9 {n : Nat} {h : q_Hp} {Q : Option Value → q_Hp → Prop} {x0 : Nat} {x1 : Int32} {v0 : Nat} {v1 : Nat} (k0 : q_ok h x0 1) (e0 : qR h x0 12 = v0) (e1 : qR h x0 0 = v1) {m : Nat} {P : Int64 → q_Hp → Prop} (hc : q_mJ m 190 [.ref v1, .int (qI h x0 14)] h P) (hm : m ≤ n) (w : ∀ (z : Int64) (h1 : q_Hp), P z h1 → q_wp (n + 1) 51 25 [some (.ref x0), some (.int x1), none, none] [.long z, .int 0, .ref v0] h1 Q) : q_wp (n + 1) 51 9 [some (.ref x0), some (.int x1), none, none] [] h Q := by
  refine wp_loc rfl rfl ?_
  refine wp_getR rfl rfl rfl rfl k0 e0 ?_
  refine wp_iconst (v := 0) rfl (by decide) ?_
  refine wp_loc rfl rfl ?_
  refine wp_getR rfl rfl rfl rfl k0 e1 ?_
  refine wp_loc rfl rfl ?_
  refine wp_getI rfl rfl rfl k0 ?_
  exact wp_callJ (av := [.ref v1, .int (qI h x0 14)]) rfl rfl rfl (by decide) rfl rfl rfl hm hc w
theorem b51_25 {n : Nat} {h : q_Hp} {Q : Option Value → q_Hp → Prop} {x0 : Nat} {x1 : Int32} {s0 : Int64} {s1 : Int32} {s2 : Nat} {m : Nat} {P : q_Hp → Prop} (hc : q_mV m 18 [.ref s2, .int s1, .int ((s0 : Int64).toInt32)] h P) (hm : m ≤ n) (w : ∀ h1 : q_Hp, P h1 → q_wp (n + 1) 51 29 [some (.ref x0), some (.int x1), none, none] [] h1 Q) : q_wp (n + 1) 51 25 [some (.ref x0), some (.int x1), none, none] [.long s0, .int s1, .ref s2] h Q := by
  refine wp_stk rfl rfl rfl ?_
  exact wp_callV (av := [.ref s2, .int s1, .int ((s0 : Int64).toInt32)]) rfl rfl rfl (by decide) rfl rfl rfl hm hc w
theorem b51_29 {n : Nat} {h : q_Hp} {Q : Option Value → q_Hp → Prop} {x0 : Nat} {x1 : Int32} (k0 : q_ok h x0 1) (w : q_wp n 51 128 [some (.ref x0), some (.int x1), none, none] [] (q_sI h x0 14 ((qI h x0 14) + 1)) Q) : q_wp n 51 29 [some (.ref x0), some (.int x1), none, none] [] h Q := by
  refine wp_loc rfl rfl ?_
  refine wp_stk rfl rfl rfl ?_
  refine wp_getI rfl rfl rfl k0 ?_
  refine wp_iconst (v := 1) rfl (by decide) ?_
  refine wp_stk rfl rfl rfl ?_
  refine wp_putI rfl rfl (Or.inl rfl) rfl (fun h9 => by cases h9) k0 ?_
  refine wp_goto (tgt := 128) rfl (by decide) ?_
  exact w
theorem b51_42 {n : Nat} {h : q_Hp} {Q : Option Value → q_Hp → Prop} {x0 : Nat} {x1 : Int32} {m : Nat} {P : Int32 → q_Hp → Prop} (hc : q_mI m 25 [.ref x0] h P) (hm : m ≤ n) (w : ∀ (z : Int32) (h1 : q_Hp), P z h1 → q_wp (n + 1) 51 46 [some (.ref x0), some (.int x1), none, none] [.int z] h1 Q) : q_wp (n + 1) 51 42 [some (.ref x0), some (.int x1), none, none] [] h Q := by
  refine wp_loc rfl rfl ?_
  exact wp_callI (av := [.ref x0]) rfl rfl rfl (by decide) rfl rfl rfl hm hc w
theorem b51_46 {n : Nat} {h : q_Hp} {Q : Option Value → q_Hp → Prop} {x0 : Nat} {x1 : Int32} {s0 : Int32} (wt : ¬ s0 = 34 → q_wp n 51 87 [some (.ref x0), some (.int x1), none, none] [] h Q) (wf : s0 = 34 → q_wp n 51 51 [some (.ref x0), some (.int x1), none, none] [] h Q) : q_wp n 51 46 [some (.ref x0), some (.int x1), none, none] [.int s0] h Q := by
  refine wp_bipush (v := 34) rfl (by decide) ?_
  exact wp_icne (tgt := 87) rfl (by decide) wt wf
theorem b51_51 {n : Nat} {h : q_Hp} {Q : Option Value → q_Hp → Prop} {x0 : Nat} {x1 : Int32} (wt : 8 ≤ x1 → q_wp n 51 87 [some (.ref x0), some (.int x1), none, none] [] h Q) (wf : ¬ 8 ≤ x1 → q_wp n 51 57 [some (.ref x0), some (.int x1), none, none] [] h Q) : q_wp n 51 51 [some (.ref x0), some (.int x1), none, none] [] h Q := by
  refine wp_loc rfl rfl ?_
  refine wp_bipush (v := 8) rfl (by decide) ?_
  exact wp_icge (tgt := 87) rfl (by decide) wt wf
theorem b51_57 {n : Nat} {h : q_Hp} {Q : Option Value → q_Hp → Prop} {x0 : Nat} {x1 : Int32} (k0 : q_ok h x0 1) {m : Nat} {P : q_Hp → Prop} (hc : q_mV m 50 [.ref x0, .int (x1 + 1)] (q_sI h x0 14 ((qI h x0 14) + 1)) P) (hm : m ≤ n) (w : ∀ h1 : q_Hp, P h1 → q_wp (n + 1) 51 74 [some (.ref x0), some (.int x1), none, none] [] h1 Q) : q_wp (n + 1) 51 57 [some (.ref x0), some (.int x1), none, none] [] h Q := by
  refine wp_loc rfl rfl ?_
  refine wp_stk rfl rfl rfl ?_
  refine wp_getI rfl rfl rfl k0 ?_
  refine wp_iconst (v := 1) rfl (by decide) ?_
  refine wp_stk rfl rfl rfl ?_
  refine wp_putI rfl rfl (Or.inl rfl) rfl (fun h9 => by cases h9) k0 ?_
  refine wp_loc rfl rfl ?_
  refine wp_loc rfl rfl ?_
  refine wp_iconst (v := 1) rfl (by decide) ?_
  refine wp_stk rfl rfl rfl ?_
  exact wp_callV (av := [.ref x0, .int (x1 + 1)]) rfl rfl rfl (by decide) rfl rfl rfl hm hc w
theorem b51_74 {n : Nat} {h : q_Hp} {Q : Option Value → q_Hp → Prop} {x0 : Nat} {x1 : Int32} (k0 : q_ok h x0 1) (w : q_wp n 51 128 [some (.ref x0), some (.int x1), none, none] [] (q_sI h x0 14 ((qI h x0 14) + 1)) Q) : q_wp n 51 74 [some (.ref x0), some (.int x1), none, none] [] h Q := by
  refine wp_loc rfl rfl ?_
  refine wp_stk rfl rfl rfl ?_
  refine wp_getI rfl rfl rfl k0 ?_
  refine wp_iconst (v := 1) rfl (by decide) ?_
  refine wp_stk rfl rfl rfl ?_
  refine wp_putI rfl rfl (Or.inl rfl) rfl (fun h9 => by cases h9) k0 ?_
  refine wp_goto (tgt := 128) rfl (by decide) ?_
  exact w
theorem b51_87 {n : Nat} {h : q_Hp} {Q : Option Value → q_Hp → Prop} {x0 : Nat} {x1 : Int32} {v0 : Nat} (k0 : q_ok h x0 1) (e0 : qR h x0 6 = v0) {m : Nat} {P : Int32 → q_Hp → Prop} (hc : q_mI m 35 [.ref x0, .int 1] h P) (hm : m ≤ n) (w : ∀ (z : Int32) (h1 : q_Hp), P z h1 → q_wp (n + 1) 51 96 [some (.ref x0), some (.int x1), none, none] [.int z, .ref v0] h1 Q) : q_wp (n + 1) 51 87 [some (.ref x0), some (.int x1), none, none] [] h Q := by
  refine wp_loc rfl rfl ?_
  refine wp_getR rfl rfl rfl rfl k0 e0 ?_
  refine wp_loc rfl rfl ?_
  refine wp_iconst (v := 1) rfl (by decide) ?_
  exact wp_callI (av := [.ref x0, .int 1]) rfl rfl rfl (by decide) rfl rfl rfl hm hc w
theorem b51_96 {n : Nat} {h : q_Hp} {Q : Option Value → q_Hp → Prop} {x0 : Nat} {x1 : Int32} {s0 : Int32} {s1 : Nat} {m : Nat} {P : Int32 → q_Hp → Prop} (hc : q_mI m 232 [.ref s1, .int s0] h P) (hm : m ≤ n) (w : ∀ (z : Int32) (h1 : q_Hp), P z h1 → q_wp (n + 1) 51 99 [some (.ref x0), some (.int x1), none, none] [.int z] h1 Q) : q_wp (n + 1) 51 96 [some (.ref x0), some (.int x1), none, none] [.int s0, .ref s1] h Q := by
  exact wp_callI (av := [.ref s1, .int s0]) rfl rfl rfl (by decide) rfl rfl rfl hm hc w
theorem b51_99 {n : Nat} {h : q_Hp} {Q : Option Value → q_Hp → Prop} {x0 : Nat} {x1 : Int32} {s0 : Int32} (k0 : q_ok h x0 1) {m : Nat} {P : Int32 → q_Hp → Prop} (hc : q_mI m 49 [.ref x0] (q_sI h x0 14 ((qI h x0 14) + 1)) P) (hm : m ≤ n) (w : ∀ (z : Int32) (h1 : q_Hp), P z h1 → q_wp (n + 1) 51 114 [some (.ref x0), some (.int x1), some (.int s0), none] [.int z] h1 Q) : q_wp (n + 1) 51 99 [some (.ref x0), some (.int x1), none, none] [.int s0] h Q := by
  refine wp_loc rfl rfl ?_
  refine wp_loc rfl rfl ?_
  refine wp_stk rfl rfl rfl ?_
  refine wp_getI rfl rfl rfl k0 ?_
  refine wp_iconst (v := 1) rfl (by decide) ?_
  refine wp_stk rfl rfl rfl ?_
  refine wp_putI rfl rfl (Or.inl rfl) rfl (fun h9 => by cases h9) k0 ?_
  refine wp_loc rfl rfl ?_
  exact wp_callI (av := [.ref x0]) rfl rfl rfl (by decide) rfl rfl rfl hm hc w
theorem b51_114 {n : Nat} {h : q_Hp} {Q : Option Value → q_Hp → Prop} {x0 : Nat} {x1 : Int32} {x2 : Int32} {s0 : Int32} {v0 : Nat} (k0 : q_ok h x0 1) (e0 : qR h x0 12 = v0) {m : Nat} {P : q_Hp → Prop} (hc : q_mV m 18 [.ref v0, .int 1, .int ((2 * x2) + s0)] h P) (hm : m ≤ n) (w : ∀ h1 : q_Hp, P h1 → q_wp (n + 1) 51 128 [some (.ref x0), some (.int x1), some (.int x2), some (.int s0)] [] h1 Q) : q_wp (n + 1) 51 114 [some (.ref x0), some (.int x1), some (.int x2), none] [.int s0] h Q := by
  refine wp_loc rfl rfl ?_
  refine wp_loc rfl rfl ?_
  refine wp_getR rfl rfl rfl rfl k0 e0 ?_
  refine wp_iconst (v := 1) rfl (by decide) ?_
  refine wp_iconst (v := 2) rfl (by decide) ?_
  refine wp_loc rfl rfl ?_
  refine wp_stk rfl rfl rfl ?_
  refine wp_loc rfl rfl ?_
  refine wp_stk rfl rfl rfl ?_
  exact wp_callV (av := [.ref v0, .int 1, .int ((2 * x2) + s0)]) rfl rfl rfl (by decide) rfl rfl rfl hm hc w
theorem b51_128 {n : Nat} {h : q_Hp} {Q : Option Value → q_Hp → Prop} {x0 : Nat} {x1 : Int32} {l2 : Option Value} {l3 : Option Value} (q : Q none h) : q_wp n 51 128 [some (.ref x0), some (.int x1), l2, l3] [] h Q := by
  exact wp_ret rfl rfl q
theorem b52_0 {n : Nat} {h : q_Hp} {Q : Option Value → q_Hp → Prop} {x0 : Nat} (k0 : q_ok h x0 1) {m : Nat} {P : q_Hp → Prop} (hc : q_mV m 32 [.ref x0] (q_sI h x0 14 ((qI h x0 14) + 1)) P) (hm : m ≤ n) (w : ∀ h1 : q_Hp, P h1 → q_wp (n + 1) 52 14 [some (.ref x0), none] [] h1 Q) : q_wp (n + 1) 52 0 [some (.ref x0), none] [] h Q := by
  refine wp_loc rfl rfl ?_
  refine wp_stk rfl rfl rfl ?_
  refine wp_getI rfl rfl rfl k0 ?_
  refine wp_iconst (v := 1) rfl (by decide) ?_
  refine wp_stk rfl rfl rfl ?_
  refine wp_putI rfl rfl (Or.inl rfl) rfl (fun h9 => by cases h9) k0 ?_
  refine wp_loc rfl rfl ?_
  exact wp_callV (av := [.ref x0]) rfl rfl rfl (by decide) rfl rfl rfl hm hc w
theorem b52_14 {n : Nat} {h : q_Hp} {Q : Option Value → q_Hp → Prop} {x0 : Nat} {m : Nat} {P : Int32 → q_Hp → Prop} (hc : q_mI m 53 [.ref x0, .int 0] h P) (hm : m ≤ n) (w : ∀ (z : Int32) (h1 : q_Hp), P z h1 → q_wp (n + 1) 52 19 [some (.ref x0), none] [.int z] h1 Q) : q_wp (n + 1) 52 14 [some (.ref x0), none] [] h Q := by
  refine wp_loc rfl rfl ?_
  refine wp_iconst (v := 0) rfl (by decide) ?_
  exact wp_callI (av := [.ref x0, .int 0]) rfl rfl rfl (by decide) rfl rfl rfl hm hc w
theorem b52_19 {n : Nat} {h : q_Hp} {Q : Option Value → q_Hp → Prop} {x0 : Nat} {s0 : Int32} {v0 : Nat} (k0 : q_ok h x0 1) (e0 : qR h x0 12 = v0) {m : Nat} {P : q_Hp → Prop} (hc : q_mV m 14 [.ref v0, .int s0] (q_sI h x0 14 ((qI h x0 14) + 1)) P) (hm : m ≤ n) (w : ∀ h1 : q_Hp, P h1 → q_wp (n + 1) 52 38 [some (.ref x0), some (.int s0)] [] h1 Q) : q_wp (n + 1) 52 19 [some (.ref x0), none] [.int s0] h Q := by
  refine wp_loc rfl rfl ?_
  refine wp_loc rfl rfl ?_
  refine wp_stk rfl rfl rfl ?_
  refine wp_getI rfl rfl rfl k0 ?_
  refine wp_iconst (v := 1) rfl (by decide) ?_
  refine wp_stk rfl rfl rfl ?_
  refine wp_putI rfl rfl (Or.inl rfl) rfl (fun h9 => by cases h9) k0 ?_
  refine wp_loc rfl rfl ?_
  refine wp_getR rfl rfl rfl rfl k0 e0 ?_
  refine wp_loc rfl rfl ?_
  exact wp_callV (av := [.ref v0, .int s0]) rfl rfl rfl (by decide) rfl rfl rfl hm hc w
theorem b52_38 {n : Nat} {h : q_Hp} {Q : Option Value → q_Hp → Prop} {x0 : Nat} {x1 : Int32} (q : Q none h) : q_wp n 52 38 [some (.ref x0), some (.int x1)] [] h Q := by
  exact wp_ret rfl rfl q
theorem b53_0 {n : Nat} {h : q_Hp} {Q : Option Value → q_Hp → Prop} {x0 : Nat} {x1 : Int32} (w : q_wp n 53 7 [some (.ref x0), some (.int x1), some (.int (-1)), some (.int (-1)), some (.int 0), none] [] h Q) : q_wp n 53 0 [some (.ref x0), some (.int x1), none, none, none, none] [] h Q := by
  refine wp_iconst (v := (-1)) rfl (by decide) ?_
  refine wp_loc rfl rfl ?_
  refine wp_iconst (v := (-1)) rfl (by decide) ?_
  refine wp_loc rfl rfl ?_
  refine wp_iconst (v := 0) rfl (by decide) ?_
  refine wp_loc rfl rfl ?_
  exact w
theorem b53_7 {n : Nat} {h : q_Hp} {Q : Option Value → q_Hp → Prop} {x0 : Nat} {x1 : Int32} {x2 : Int32} {x3 : Int32} {x4 : Int32} {l5 : Option Value} (wt : 1200 < x4 → q_wp n 53 60 [some (.ref x0), some (.int x1), some (.int x2), some (.int x3), some (.int x4), l5] [] h Q) (wf : ¬ 1200 < x4 → q_wp n 53 15 [some (.ref x0), some (.int x1), some (.int x2), some (.int x3), some (.int x4), l5] [] h Q) : q_wp n 53 7 [some (.ref x0), some (.int x1), some (.int x2), some (.int x3), some (.int x4), l5] [] h Q := by
  refine wp_loc rfl rfl ?_
  refine wp_sipush (v := 1200) rfl (by decide) ?_
  exact wp_icgt (tgt := 60) rfl (by decide) wt wf
theorem b53_15 {n : Nat} {h : q_Hp} {Q : Option Value → q_Hp → Prop} {x0 : Nat} {x1 : Int32} {x2 : Int32} {x3 : Int32} {x4 : Int32} {l5 : Option Value} {m : Nat} {P : Int32 → q_Hp → Prop} (hc : q_mI m 54 [.ref x0] h P) (hm : m ≤ n) (w : ∀ (z : Int32) (h1 : q_Hp), P z h1 → q_wp (n + 1) 53 19 [some (.ref x0), some (.int x1), some (.int x2), some (.int x3), some (.int x4), l5] [.int z] h1 Q) : q_wp (n + 1) 53 15 [some (.ref x0), some (.int x1), some (.int x2), some (.int x3), some (.int x4), l5] [] h Q := by
  refine wp_loc rfl rfl ?_
  exact wp_callI (av := [.ref x0]) rfl rfl rfl (by decide) rfl rfl rfl hm hc w
theorem b53_19 {n : Nat} {h : q_Hp} {Q : Option Value → q_Hp → Prop} {x0 : Nat} {x1 : Int32} {x2 : Int32} {x3 : Int32} {x4 : Int32} {l5 : Option Value} {s0 : Int32} (wt : s0 = 0 → q_wp n 53 60 [some (.ref x0), some (.int x1), some (.int x2), some (.int x3), some (.int x4), l5] [] h Q) (wf : ¬ s0 = 0 → q_wp n 53 22 [some (.ref x0), some (.int x1), some (.int x2), some (.int x3), some (.int x4), l5] [] h Q) : q_wp n 53 19 [some (.ref x0), some (.int x1), some (.int x2), some (.int x3), some (.int x4), l5] [.int s0] h Q := by
  exact wp_ifeq (tgt := 60) rfl (by decide) wt wf
theorem b53_22 {n : Nat} {h : q_Hp} {Q : Option Value → q_Hp → Prop} {x0 : Nat} {x1 : Int32} {x2 : Int32} {x3 : Int32} {x4 : Int32} {l5 : Option Value} {m : Nat} {P : Int32 → q_Hp → Prop} (hc : q_mI m 55 [.ref x0, .int x1] h P) (hm : m ≤ n) (w : ∀ (z : Int32) (h1 : q_Hp), P z h1 → q_wp (n + 1) 53 27 [some (.ref x0), some (.int x1), some (.int x2), some (.int x3), some (.int x4), l5] [.int z] h1 Q) : q_wp (n + 1) 53 22 [some (.ref x0), some (.int x1), some (.int x2), some (.int x3), some (.int x4), l5] [] h Q := by
  refine wp_loc rfl rfl ?_
  refine wp_loc rfl rfl ?_
  exact wp_callI (av := [.ref x0, .int x1]) rfl rfl rfl (by decide) rfl rfl rfl hm hc w
theorem b53_27 {n : Nat} {h : q_Hp} {Q : Option Value → q_Hp → Prop} {x0 : Nat} {x1 : Int32} {x2 : Int32} {x3 : Int32} {x4 : Int32} {l5 : Option Value} {s0 : Int32} (wt : ¬ x3 = (-1) → q_wp n 53 40 [some (.ref x0), some (.int x1), some (.int x2), some (.int x3), some (.int x4), some (.int s0)] [] h Q) (wf : x3 = (-1) → q_wp n 53 34 [some (.ref x0), some (.int x1), some (.int x2), some (.int x3), some (.int x4), some (.int s0)] [] h Q) : q_wp n 53 27 [some (.ref x0), some (.int x1), some (.int x2), some (.int x3), some (.int x4), l5] [.int s0] h Q := by
  refine wp_loc rfl rfl ?_
  refine wp_loc rfl rfl ?_
  refine wp_iconst (v := (-1)) rfl (by decide) ?_
  exact wp_icne (tgt := 40) rfl (by decide) wt wf
theorem b53_34 {n : Nat} {h : q_Hp} {Q : Option Value → q_Hp → Prop} {x0 : Nat} {x1 : Int32} {x2 : Int32} {x3 : Int32} {x4 : Int32} {x5 : Int32} (w : q_wp n 53 51 [some (.ref x0), some (.int x1), some (.int x5), some (.int x3), some (.int x4), some (.int x5)] [] h Q) : q_wp n 53 34 [some (.ref x0), some (.int x1), some (.int x2), some (.int x3), some (.int x4), some (.int x5)] [] h Q := by
  refine wp_loc rfl rfl ?_
  refine wp_loc rfl rfl ?_
  refine wp_goto (tgt := 51) rfl (by decide) ?_
  exact w
theorem b53_40 {n : Nat} {h : q_Hp} {Q : Option Value → q_Hp → Prop} {x0 : Nat} {x1 : Int32} {x2 : Int32} {x3 : Int32} {x4 : Int32} {x5 : Int32} {v0 : Nat} (k0 : q_ok h x0 1) (e0 : qR h x0 12 = v0) {m : Nat} {P : q_Hp → Prop} (hc : q_mV m 21 [.ref v0, .int x3, .int 2, .int x5] h P) (hm : m ≤ n) (w : ∀ h1 : q_Hp, P h1 → q_wp (n + 1) 53 51 [some (.ref x0), some (.int x1), some (.int x2), some (.int x3), some (.int x4), some (.int x5)] [] h1 Q) : q_wp (n + 1) 53 40 [some (.ref x0), some (.int x1), some (.int x2), some (.int x3), some (.int x4), some (.int x5)] [] h Q := by
  refine wp_loc rfl rfl ?_
  refine wp_getR rfl rfl rfl rfl k0 e0 ?_
  refine wp_loc rfl rfl ?_
  refine wp_iconst (v := 2) rfl (by decide) ?_
  refine wp_loc rfl rfl ?_
  exact wp_callV (av := [.ref v0, .int x3, .int 2, .int x5]) rfl rfl rfl (by decide) rfl rfl rfl hm hc w
theorem b53_51 {n : Nat} {h : q_Hp} {Q : Option Value → q_Hp → Prop} {x0 : Nat} {x1 : Int32} {x2 : Int32} {x3 : Int32} {x4 : Int32} {x5 : Int32} (w : q_wp n 53 7 [some (.ref x0), some (.int x1), some (.int x2), some (.int x5), some (.int (x4 + 1)), some (.int x5)] [] h Q) : q_wp n 53 51 [some (.ref x0), some (.int x1), some (.int x2), some (.int x3), some (.int x4), some (.int x5)] [] h Q := by
  refine wp_loc rfl rfl ?_
  refine wp_loc rfl rfl ?_
  refine wp_iinc (v := 1) rfl rfl (by decide) rfl ?_
  refine wp_goto (tgt := 7) rfl (by decide) ?_
  exact w
theorem b53_60 {n : Nat} {h : q_Hp} {Q : Option Value → q_Hp → Prop} {x0 : Nat} {x1 : Int32} {x2 : Int32} {x3 : Int32} {x4 : Int32} {l5 : Option Value} (q : Q (some (.int x2)) h) : q_wp n 53 60 [some (.ref x0), some (.int x1), some (.int x2), some (.int x3), some (.int x4), l5] [] h Q := by
  refine wp_loc rfl rfl ?_
  exact wp_ret rfl rfl q
theorem b54_0 {n : Nat} {h : q_Hp} {Q : Option Value → q_Hp → Prop} {x0 : Nat} {m : Nat} {P : Int32 → q_Hp → Prop} (hc : q_mI m 25 [.ref x0] h P) (hm : m ≤ n) (w : ∀ (z : Int32) (h1 : q_Hp), P z h1 → q_wp (n + 1) 54 4 [some (.ref x0)] [.int z] h1 Q) : q_wp (n + 1) 54 0 [some (.ref x0)] [] h Q := by
  refine wp_loc rfl rfl ?_
  exact wp_callI (av := [.ref x0]) rfl rfl rfl (by decide) rfl rfl rfl hm hc w
theorem b54_4 {n : Nat} {h : q_Hp} {Q : Option Value → q_Hp → Prop} {x0 : Nat} {s0 : Int32} (wt : s0 < 15 → q_wp n 54 22 [some (.ref x0)] [] h Q) (wf : ¬ s0 < 15 → q_wp n 54 9 [some (.ref x0)] [] h Q) : q_wp n 54 4 [some (.ref x0)] [.int s0] h Q := by
  refine wp_bipush (v := 15) rfl (by decide) ?_
  exact wp_iclt (tgt := 22) rfl (by decide) wt wf
theorem b54_9 {n : Nat} {h : q_Hp} {Q : Option Value → q_Hp → Prop} {x0 : Nat} {m : Nat} {P : Int32 → q_Hp → Prop} (hc : q_mI m 25 [.ref x0] h P) (hm : m ≤ n) (w : ∀ (z : Int32) (h1 : q_Hp), P z h1 → q_wp (n + 1) 54 13 [some (.ref x0)] [.int z] h1 Q) : q_wp (n + 1) 54 9 [some (.ref x0)] [] h Q := by
  refine wp_loc rfl rfl ?_
  exact wp_callI (av := [.ref x0]) rfl rfl rfl (by decide) rfl rfl rfl hm hc w
theorem b54_13 {n : Nat} {h : q_Hp} {Q : Option Value → q_Hp → Prop} {x0 : Nat} {s0 : Int32} (wt : 22 < s0 → q_wp n 54 22 [some (.ref x0)] [] h Q) (wf : ¬ 22 < s0 → q_wp n 54 18 [some (.ref x0)] [] h Q) : q_wp n 54 13 [some (.ref x0)] [.int s0] h Q := by
  refine wp_bipush (v := 22) rfl (by decide) ?_
  exact wp_icgt (tgt := 22) rfl (by decide) wt wf
theorem b54_18 {n : Nat} {h : q_Hp} {Q : Option Value → q_Hp → Prop} {x0 : Nat} (q : Q (some (.int 1)) h) : q_wp n 54 18 [some (.ref x0)] [] h Q := by
  refine wp_iconst (v := 1) rfl (by decide) ?_
  refine wp_goto (tgt := 23) rfl (by decide) ?_
  exact wp_ret (r := some (.int 1)) rfl rfl q
theorem b54_22 {n : Nat} {h : q_Hp} {Q : Option Value → q_Hp → Prop} {x0 : Nat} (q : Q (some (.int 0)) h) : q_wp n 54 22 [some (.ref x0)] [] h Q := by
  refine wp_iconst (v := 0) rfl (by decide) ?_
  exact wp_ret (r := some (.int 0)) rfl rfl q
theorem b55_0 {n : Nat} {h : q_Hp} {Q : Option Value → q_Hp → Prop} {x0 : Nat} {x1 : Int32} {m : Nat} {P : Int32 → q_Hp → Prop} (hc : q_mI m 25 [.ref x0] h P) (hm : m ≤ n) (w : ∀ (z : Int32) (h1 : q_Hp), P z h1 → q_wp (n + 1) 55 4 [some (.ref x0), some (.int x1), none, none] [.int z] h1 Q) : q_wp (n + 1) 55 0 [some (.ref x0), some (.int x1), none, none] [] h Q := by
  refine wp_loc rfl rfl ?_
  exact wp_callI (av := [.ref x0]) rfl rfl rfl (by decide) rfl rfl rfl hm hc w
theorem b55_4 {n : Nat} {h : q_Hp} {Q : Option Value → q_Hp → Prop} {x0 : Nat} {x1 : Int32} {s0 : Int32} {v0 : Nat} (k0 : q_ok h x0 1) (e0 : qR h x0 12 = v0) {m : Nat} {P : Int32 → q_Hp → Prop} (hc : q_mI m 19 [.ref v0, .int s0] h P) (hm : m ≤ n) (w : ∀ (z : Int32) (h1 : q_Hp), P z h1 → q_wp (n + 1) 55 13 [some (.ref x0), some (.int x1), some (.int s0), none] [.int z] h1 Q) : q_wp (n + 1) 55 4 [some (.ref x0), some (.int x1), none, none] [.int s0] h Q := by
  refine wp_loc rfl rfl ?_
  refine wp_loc rfl rfl ?_
  refine wp_getR rfl rfl rfl rfl k0 e0 ?_
  refine wp_loc rfl rfl ?_
  exact wp_callI (av := [.ref v0, .int s0]) rfl rfl rfl (by decide) rfl rfl rfl hm hc w
theorem b55_13 {n : Nat} {h : q_Hp} {Q : Option Value → q_Hp → Prop} {x0 : Nat} {x1 : Int32} {x2 : Int32} {s0 : Int32} (k0 : q_ok h x0 1) (wt : x2 = 15 → q_wp n 55 36 [some (.ref x0), some (.int x1), some (.int x2), some (.int s0)] [] (q_sI h x0 14 ((qI h x0 14) + 1)) Q) (wf : ¬ x2 = 15 → q_wp n 55 30 [some (.ref x0), some (.int x1), some (.int x2), some (.int s0)] [] (q_sI h x0 14 ((qI h x0 14) + 1)) Q) : q_wp n 55 13 [some (.ref x0), some (.int x1), some (.int x2), none] [.int s0] h Q := by
  refine wp_loc rfl rfl ?_
  refine wp_loc rfl rfl ?_
  refine wp_stk rfl rfl rfl ?_
  refine wp_getI rfl rfl rfl k0 ?_
  refine wp_iconst (v := 1) rfl (by decide) ?_
  refine wp_stk rfl rfl rfl ?_
  refine wp_putI rfl rfl (Or.inl rfl) rfl (fun h9 => by cases h9) k0 ?_
  refine wp_loc rfl rfl ?_
  refine wp_bipush (v := 15) rfl (by decide) ?_
  exact wp_iceq (tgt := 36) rfl (by decide) wt wf
theorem b55_30 {n : Nat} {h : q_Hp} {Q : Option Value → q_Hp → Prop} {x0 : Nat} {x1 : Int32} {x2 : Int32} {x3 : Int32} (wt : ¬ x2 = 16 → q_wp n 55 52 [some (.ref x0), some (.int x1), some (.int x2), some (.int x3)] [] h Q) (wf : x2 = 16 → q_wp n 55 36 [some (.ref x0), some (.int x1), some (.int x2), some (.int x3)] [] h Q) : q_wp n 55 30 [some (.ref x0), some (.int x1), some (.int x2), some (.int x3)] [] h Q := by
  refine wp_loc rfl rfl ?_
  refine wp_bipush (v := 16) rfl (by decide) ?_
  exact wp_icne (tgt := 52) rfl (by decide) wt wf
theorem b55_36 {n : Nat} {h : q_Hp} {Q : Option Value → q_Hp → Prop} {x0 : Nat} {x1 : Int32} {x2 : Int32} {x3 : Int32} {v0 : Nat} (k0 : q_ok h x0 1) (e0 : qR h x0 12 = v0) {m : Nat} {P : Int32 → q_Hp → Prop} (hc : q_mI m 58 [.ref x0] h P) (hm : m ≤ n) (w : ∀ (z : Int32) (h1 : q_Hp), P z h1 → q_wp (n + 1) 55 46 [some (.ref x0), some (.int x1), some (.int x2), some (.int x3)] [.int z, .int 1, .int x3, .ref v0] h1 Q) : q_wp (n + 1) 55 36 [some (.ref x0), some (.int x1), some (.int x2), some (.int x3)] [] h Q := by
  refine wp_loc rfl rfl ?_
  refine wp_getR rfl rfl rfl rfl k0 e0 ?_
  refine wp_loc rfl rfl ?_
  refine wp_iconst (v := 1) rfl (by decide) ?_
  refine wp_loc rfl rfl ?_
  exact wp_callI (av := [.ref x0]) rfl rfl rfl (by decide) rfl rfl rfl hm hc w
theorem b55_46 {n : Nat} {h : q_Hp} {Q : Option Value → q_Hp → Prop} {x0 : Nat} {x1 : Int32} {x2 : Int32} {x3 : Int32} {s0 : Int32} {s1 : Int32} {s2 : Int32} {s3 : Nat} {m : Nat} {P : q_Hp → Prop} (hc : q_mV m 21 [.ref s3, .int s2, .int s1, .int s0] h P) (hm : m ≤ n) (w : ∀ h1 : q_Hp, P h1 → q_wp (n + 1) 55 49 [some (.ref x0), some (.int x1), some (.int x2), some (.int x3)] [] h1 Q) : q_wp (n + 1) 55 46 [some (.ref x0), some (.int x1), some (.int x2), some (.int x3)] [.int s0, .int s1, .int s2, .ref s3] h Q := by
  exact wp_callV (av := [.ref s3, .int s2, .int s1, .int s0]) rfl rfl rfl (by decide) rfl rfl rfl hm hc w
theorem b55_49 {n : Nat} {h : q_Hp} {Q : Option Value → q_Hp → Prop} {x0 : Nat} {x1 : Int32} {x2 : Int32} {x3 : Int32} (w : q_wp n 55 201 [some (.ref x0), some (.int x1), some (.int x2), some (.int x3)] [] h Q) : q_wp n 55 49 [some (.ref x0), some (.int x1), some (.int x2), some (.int x3)] [] h Q := by
  refine wp_goto (tgt := 201) rfl (by decide) ?_
  exact w
theorem b55_52 {n : Nat} {h : q_Hp} {Q : Option Value → q_Hp → Prop} {x0 : Nat} {x1 : Int32} {x2 : Int32} {x3 : Int32} (wt : ¬ x2 = 18 → q_wp n 55 74 [some (.ref x0), some (.int x1), some (.int x2), some (.int x3)] [] h Q) (wf : x2 = 18 → q_wp n 55 58 [some (.ref x0), some (.int x1), some (.int x2), some (.int x3)] [] h Q) : q_wp n 55 52 [some (.ref x0), some (.int x1), some (.int x2), some (.int x3)] [] h Q := by
  refine wp_loc rfl rfl ?_
  refine wp_bipush (v := 18) rfl (by decide) ?_
  exact wp_icne (tgt := 74) rfl (by decide) wt wf
theorem b55_58 {n : Nat} {h : q_Hp} {Q : Option Value → q_Hp → Prop} {x0 : Nat} {x1 : Int32} {x2 : Int32} {x3 : Int32} {v0 : Nat} (k0 : q_ok h x0 1) (e0 : qR h x0 12 = v0) {m : Nat} {P : Int32 → q_Hp → Prop} (hc : q_mI m 59 [.ref x0] h P) (hm : m ≤ n) (w : ∀ (z : Int32) (h1 : q_Hp), P z h1 → q_wp (n + 1) 55 68 [some (.ref x0), some (.int x1), some (.int x2), some (.int x3)] [.int z, .int 1, .int x3, .ref v0] h1 Q) : q_wp (n + 1) 55 58 [some (.ref x0), some (.int x1), some (.int x2), some (.int x3)] [] h Q := by
  refine wp_loc rfl rfl ?_
  refine wp_getR rfl rfl rfl rfl k0 e0 ?_
  refine wp_loc rfl rfl ?_
  refine wp_iconst (v := 1) rfl (by decide) ?_
  refine wp_loc rfl rfl ?_
  exact wp_callI (av := [.ref x0]) rfl rfl rfl (by decide) rfl rfl rfl hm hc w
theorem b55_68 {n : Nat} {h : q_Hp} {Q : Option Value → q_Hp → Prop} {x0 : Nat} {x1 : Int32} {x2 : Int32} {x3 : Int32} {s0 : Int32} {s1 : Int32} {s2 : Int32} {s3 : Nat} {m : Nat} {P : q_Hp → Prop} (hc : q_mV m 21 [.ref s3, .int s2, .int s1, .int s0] h P) (hm : m ≤ n) (w : ∀ h1 : q_Hp, P h1 → q_wp (n + 1) 55 71 [some (.ref x0), some (.int x1), some (.int x2), some (.int x3)] [] h1 Q) : q_wp (n + 1) 55 68 [some (.ref x0), some (.int x1), some (.int x2), some (.int x3)] [.int s0, .int s1, .int s2, .ref s3] h Q := by
  exact wp_callV (av := [.ref s3, .int s2, .int s1, .int s0]) rfl rfl rfl (by decide) rfl rfl rfl hm hc w
theorem b55_71 {n : Nat} {h : q_Hp} {Q : Option Value → q_Hp → Prop} {x0 : Nat} {x1 : Int32} {x2 : Int32} {x3 : Int32} (w : q_wp n 55 201 [some (.ref x0), some (.int x1), some (.int x2), some (.int x3)] [] h Q) : q_wp n 55 71 [some (.ref x0), some (.int x1), some (.int x2), some (.int x3)] [] h Q := by
  refine wp_goto (tgt := 201) rfl (by decide) ?_
  exact w
theorem b55_74 {n : Nat} {h : q_Hp} {Q : Option Value → q_Hp → Prop} {x0 : Nat} {x1 : Int32} {x2 : Int32} {x3 : Int32} (wt : ¬ x2 = 17 → q_wp n 55 96 [some (.ref x0), some (.int x1), some (.int x2), some (.int x3)] [] h Q) (wf : x2 = 17 → q_wp n 55 80 [some (.ref x0), some (.int x1), some (.int x2), some (.int x3)] [] h Q) : q_wp n 55 74 [some (.ref x0), some (.int x1), some (.int x2), some (.int x3)] [] h Q := by
  refine wp_loc rfl rfl ?_
  refine wp_bipush (v := 17) rfl (by decide) ?_
  exact wp_icne (tgt := 96) rfl (by decide) wt wf
theorem b55_80 {n : Nat} {h : q_Hp} {Q : Option Value → q_Hp → Prop} {x0 : Nat} {x1 : Int32} {x2 : Int32} {x3 : Int32} {v0 : Nat} (k0 : q_ok h x0 1) (e0 : qR h x0 12 = v0) {m : Nat} {P : Int32 → q_Hp → Prop} (hc : q_mI m 56 [.ref x0] h P) (hm : m ≤ n) (w : ∀ (z : Int32) (h1 : q_Hp), P z h1 → q_wp (n + 1) 55 90 [some (.ref x0), some (.int x1), some (.int x2), some (.int x3)] [.int z, .int 3, .int x3, .ref v0] h1 Q) : q_wp (n + 1) 55 80 [some (.ref x0), some (.int x1), some (.int x2), some (.int x3)] [] h Q := by
  refine wp_loc rfl rfl ?_
  refine wp_getR rfl rfl rfl rfl k0 e0 ?_
  refine wp_loc rfl rfl ?_
  refine wp_iconst (v := 3) rfl (by decide) ?_
  refine wp_loc rfl rfl ?_
  exact wp_callI (av := [.ref x0]) rfl rfl rfl (by decide) rfl rfl rfl hm hc w
theorem b55_90 {n : Nat} {h : q_Hp} {Q : Option Value → q_Hp → Prop} {x0 : Nat} {x1 : Int32} {x2 : Int32} {x3 : Int32} {s0 : Int32} {s1 : Int32} {s2 : Int32} {s3 : Nat} {m : Nat} {P : q_Hp → Prop} (hc : q_mV m 21 [.ref s3, .int s2, .int s1, .int s0] h P) (hm : m ≤ n) (w : ∀ h1 : q_Hp, P h1 → q_wp (n + 1) 55 93 [some (.ref x0), some (.int x1), some (.int x2), some (.int x3)] [] h1 Q) : q_wp (n + 1) 55 90 [some (.ref x0), some (.int x1), some (.int x2), some (.int x3)] [.int s0, .int s1, .int s2, .ref s3] h Q := by
  exact wp_callV (av := [.ref s3, .int s2, .int s1, .int s0]) rfl rfl rfl (by decide) rfl rfl rfl hm hc w
theorem b55_93 {n : Nat} {h : q_Hp} {Q : Option Value → q_Hp → Prop} {x0 : Nat} {x1 : Int32} {x2 : Int32} {x3 : Int32} (w : q_wp n 55 201 [some (.ref x0), some (.int x1), some (.int x2), some (.int x3)] [] h Q) : q_wp n 55 93 [some (.ref x0), some (.int x1), some (.int x2), some (.int x3)] [] h Q := by
  refine wp_goto (tgt := 201) rfl (by decide) ?_
  exact w
theorem b55_96 {n : Nat} {h : q_Hp} {Q : Option Value → q_Hp → Prop} {x0 : Nat} {x1 : Int32} {x2 : Int32} {x3 : Int32} (wt : x2 = 19 → q_wp n 55 201 [some (.ref x0), some (.int x1), some (.int x2), some (.int x3)] [] h Q) (wf : ¬ x2 = 19 → q_wp n 55 102 [some (.ref x0), some (.int x1), some (.int x2), some (.int x3)] [] h Q) : q_wp n 55 96 [some (.ref x0), some (.int x1), some (.int x2), some (.int x3)] [] h Q := by
  refine wp_loc rfl rfl ?_
  refine wp_bipush (v := 19) rfl (by decide) ?_
  exact wp_iceq (tgt := 201) rfl (by decide) wt wf
theorem b55_102 {n : Nat} {h : q_Hp} {Q : Option Value → q_Hp → Prop} {x0 : Nat} {x1 : Int32} {x2 : Int32} {x3 : Int32} (wt : 8 ≤ x1 → q_wp n 55 201 [some (.ref x0), some (.int x1), some (.int x2), some (.int x3)] [] h Q) (wf : ¬ 8 ≤ x1 → q_wp n 55 108 [some (.ref x0), some (.int x1), some (.int x2), some (.int x3)] [] h Q) : q_wp n 55 102 [some (.ref x0), some (.int x1), some (.int x2), some (.int x3)] [] h Q := by
  refine wp_loc rfl rfl ?_
  refine wp_bipush (v := 8) rfl (by decide) ?_
  exact wp_icge (tgt := 201) rfl (by decide) wt wf
theorem b55_108 {n : Nat} {h : q_Hp} {Q : Option Value → q_Hp → Prop} {x0 : Nat} {x1 : Int32} {x2 : Int32} {x3 : Int32} (wt : ¬ x2 = 21 → q_wp n 55 127 [some (.ref x0), some (.int x1), some (.int x2), some (.int x3)] [] h Q) (wf : x2 = 21 → q_wp n 55 114 [some (.ref x0), some (.int x1), some (.int x2), some (.int x3)] [] h Q) : q_wp n 55 108 [some (.ref x0), some (.int x1), some (.int x2), some (.int x3)] [] h Q := by
  refine wp_loc rfl rfl ?_
  refine wp_bipush (v := 21) rfl (by decide) ?_
  exact wp_icne (tgt := 127) rfl (by decide) wt wf
theorem b55_114 {n : Nat} {h : q_Hp} {Q : Option Value → q_Hp → Prop} {x0 : Nat} {x1 : Int32} {x2 : Int32} {x3 : Int32} {v0 : Nat} (k0 : q_ok h x0 1) (e0 : qR h x0 12 = v0) {m : Nat} {P : Int32 → q_Hp → Prop} (hc : q_mI m 57 [.ref x0] h P) (hm : m ≤ n) (w : ∀ (z : Int32) (h1 : q_Hp), P z h1 → q_wp (n + 1) 55 124 [some (.ref x0), some (.int x1), some (.int x2), some (.int x3)] [.int z, .int 1, .int x3, .ref v0] h1 Q) : q_wp (n + 1) 55 114 [some (.ref x0), some (.int x1), some (.int x2), some (.int x3)] [] h Q := by
  refine wp_loc rfl rfl ?_
  refine wp_getR rfl rfl rfl rfl k0 e0 ?_
  refine wp_loc rfl rfl ?_
  refine wp_iconst (v := 1) rfl (by decide) ?_
  refine wp_loc rfl rfl ?_
  exact wp_callI (av := [.ref x0]) rfl rfl rfl (by decide) rfl rfl rfl hm hc w
theorem b55_124 {n : Nat} {h : q_Hp} {Q : Option Value → q_Hp → Prop} {x0 : Nat} {x1 : Int32} {x2 : Int32} {x3 : Int32} {s0 : Int32} {s1 : Int32} {s2 : Int32} {s3 : Nat} {m : Nat} {P : q_Hp → Prop} (hc : q_mV m 21 [.ref s3, .int s2, .int s1, .int s0] h P) (hm : m ≤ n) (w : ∀ h1 : q_Hp, P h1 → q_wp (n + 1) 55 127 [some (.ref x0), some (.int x1), some (.int x2), some (.int x3)] [] h1 Q) : q_wp (n + 1) 55 124 [some (.ref x0), some (.int x1), some (.int x2), some (.int x3)] [.int s0, .int s1, .int s2, .ref s3] h Q := by
  exact wp_callV (av := [.ref s3, .int s2, .int s1, .int s0]) rfl rfl rfl (by decide) rfl rfl rfl hm hc w
theorem b55_127 {n : Nat} {h : q_Hp} {Q : Option Value → q_Hp → Prop} {x0 : Nat} {x1 : Int32} {x2 : Int32} {x3 : Int32} {v0 : Nat} (k0 : q_ok h x0 1) (e0 : qR h x0 12 = v0) {m : Nat} {P : Int32 → q_Hp → Prop} (hc : q_mI m 53 [.ref x0, .int (x1 + 1)] h P) (hm : m ≤ n) (w : ∀ (z : Int32) (h1 : q_Hp), P z h1 → q_wp (n + 1) 55 140 [some (.ref x0), some (.int x1), some (.int x2), some (.int x3)] [.int z, .int 3, .int x3, .ref v0] h1 Q) : q_wp (n + 1) 55 127 [some (.ref x0), some (.int x1), some (.int x2), some (.int x3)] [] h Q := by
  refine wp_loc rfl rfl ?_
  refine wp_getR rfl rfl rfl rfl k0 e0 ?_
  refine wp_loc rfl rfl ?_
  refine wp_iconst (v := 3) rfl (by decide) ?_
  refine wp_loc rfl rfl ?_
  refine wp_loc rfl rfl ?_
  refine wp_iconst (v := 1) rfl (by decide) ?_
  refine wp_stk rfl rfl rfl ?_
  exact wp_callI (av := [.ref x0, .int (x1 + 1)]) rfl rfl rfl (by decide) rfl rfl rfl hm hc w
theorem b55_140 {n : Nat} {h : q_Hp} {Q : Option Value → q_Hp → Prop} {x0 : Nat} {x1 : Int32} {x2 : Int32} {x3 : Int32} {s0 : Int32} {s1 : Int32} {s2 : Int32} {s3 : Nat} {m : Nat} {P : q_Hp → Prop} (hc : q_mV m 21 [.ref s3, .int s2, .int s1, .int s0] h P) (hm : m ≤ n) (w : ∀ h1 : q_Hp, P h1 → q_wp (n + 1) 55 143 [some (.ref x0), some (.int x1), some (.int x2), some (.int x3)] [] h1 Q) : q_wp (n + 1) 55 140 [some (.ref x0), some (.int x1), some (.int x2), some (.int x3)] [.int s0, .int s1, .int s2, .ref s3] h Q := by
  exact wp_callV (av := [.ref s3, .int s2, .int s1, .int s0]) rfl rfl rfl (by decide) rfl rfl rfl hm hc w
theorem b55_143 {n : Nat} {h : q_Hp} {Q : Option Value → q_Hp → Prop} {x0 : Nat} {x1 : Int32} {x2 : Int32} {x3 : Int32} (wt : ¬ x2 = 22 → q_wp n 55 201 [some (.ref x0), some (.int x1), some (.int x2), some (.int x3)] [] h Q) (wf : x2 = 22 → q_wp n 55 149 [some (.ref x0), some (.int x1), some (.int x2), some (.int x3)] [] h Q) : q_wp n 55 143 [some (.ref x0), some (.int x1), some (.int x2), some (.int x3)] [] h Q := by
  refine wp_loc rfl rfl ?_
  refine wp_bipush (v := 22) rfl (by decide) ?_
  exact wp_icne (tgt := 201) rfl (by decide) wt wf
theorem b55_149 {n : Nat} {h : q_Hp} {Q : Option Value → q_Hp → Prop} {x0 : Nat} {x1 : Int32} {x2 : Int32} {x3 : Int32} {v0 : Nat} (k0 : q_ok h x0 1) (e0 : qR h x0 12 = v0) {m : Nat} {P : Int32 → q_Hp → Prop} (hc : q_mI m 53 [.ref x0, .int (x1 + 1)] (q_sI h x0 14 ((qI h x0 14) + 1)) P) (hm : m ≤ n) (w : ∀ (z : Int32) (h1 : q_Hp), P z h1 → q_wp (n + 1) 55 172 [some (.ref x0), some (.int x1), some (.int x2), some (.int x3)] [.int z, .int 4, .int x3, .ref v0] h1 Q) : q_wp (n + 1) 55 149 [some (.ref x0), some (.int x1), some (.int x2), some (.int x3)] [] h Q := by
  refine wp_loc rfl rfl ?_
  refine wp_stk rfl rfl rfl ?_
  refine wp_getI rfl rfl rfl k0 ?_
  refine wp_iconst (v := 1) rfl (by decide) ?_
  refine wp_stk rfl rfl rfl ?_
  refine wp_putI rfl rfl (Or.inl rfl) rfl (fun h9 => by cases h9) k0 ?_
  refine wp_loc rfl rfl ?_
  refine wp_getR rfl rfl rfl rfl k0 e0 ?_
  refine wp_loc rfl rfl ?_
  refine wp_iconst (v := 4) rfl (by decide) ?_
  refine wp_loc rfl rfl ?_
  refine wp_loc rfl rfl ?_
  refine wp_iconst (v := 1) rfl (by decide) ?_
  refine wp_stk rfl rfl rfl ?_
  exact wp_callI (av := [.ref x0, .int (x1 + 1)]) rfl rfl rfl (by decide) rfl rfl rfl hm hc w
theorem b55_172 {n : Nat} {h : q_Hp} {Q : Option Value → q_Hp → Prop} {x0 : Nat} {x1 : Int32} {x2 : Int32} {x3 : Int32} {s0 : Int32} {s1 : Int32} {s2 : Int32} {s3 : Nat} {m : Nat} {P : q_Hp → Prop} (hc : q_mV m 21 [.ref s3, .int s2, .int s1, .int s0] h P) (hm : m ≤ n) (w : ∀ h1 : q_Hp, P h1 → q_wp (n + 1) 55 175 [some (.ref x0), some (.int x1), some (.int x2), some (.int x3)] [] h1 Q) : q_wp (n + 1) 55 172 [some (.ref x0), some (.int x1), some (.int x2), some (.int x3)] [.int s0, .int s1, .int s2, .ref s3] h Q := by
  exact wp_callV (av := [.ref s3, .int s2, .int s1, .int s0]) rfl rfl rfl (by decide) rfl rfl rfl hm hc w
theorem b55_175 {n : Nat} {h : q_Hp} {Q : Option Value → q_Hp → Prop} {x0 : Nat} {x1 : Int32} {x2 : Int32} {x3 : Int32} {v0 : Nat} (k0 : q_ok h x0 1) (e0 : qR h x0 12 = v0) {m : Nat} {P : Int32 → q_Hp → Prop} (hc : q_mI m 53 [.ref x0, .int (x1 + 1)] (q_sI h x0 14 ((qI h x0 14) + 1)) P) (hm : m ≤ n) (w : ∀ (z : Int32) (h1 : q_Hp), P z h1 → q_wp (n + 1) 55 198 [some (.ref x0), some (.int x1), some (.int x2), some (.int x3)] [.int z, .int 5, .int x3, .ref v0] h1 Q) : q_wp (n + 1) 55 175 [some (.ref x0), some (.int x1), some (.int x2), some (.int x3)] [] h Q := by
  refine wp_loc rfl rfl ?_
  refine wp_stk rfl rfl rfl ?_
  refine wp_getI rfl rfl rfl k0 ?_
  refine wp_iconst (v := 1) rfl (by decide) ?_
  refine wp_stk rfl rfl rfl ?_
  refine wp_putI rfl rfl (Or.inl rfl) rfl (fun h9 => by cases h9) k0 ?_
  refine wp_loc rfl rfl ?_
  refine wp_getR rfl rfl rfl rfl k0 e0 ?_
  refine wp_loc rfl rfl ?_
  refine wp_iconst (v := 5) rfl (by decide) ?_
  refine wp_loc rfl rfl ?_
  refine wp_loc rfl rfl ?_
  refine wp_iconst (v := 1) rfl (by decide) ?_
  refine wp_stk rfl rfl rfl ?_
  exact wp_callI (av := [.ref x0, .int (x1 + 1)]) rfl rfl rfl (by decide) rfl rfl rfl hm hc w
theorem b55_198 {n : Nat} {h : q_Hp} {Q : Option Value → q_Hp → Prop} {x0 : Nat} {x1 : Int32} {x2 : Int32} {x3 : Int32} {s0 : Int32} {s1 : Int32} {s2 : Int32} {s3 : Nat} {m : Nat} {P : q_Hp → Prop} (hc : q_mV m 21 [.ref s3, .int s2, .int s1, .int s0] h P) (hm : m ≤ n) (w : ∀ h1 : q_Hp, P h1 → q_wp (n + 1) 55 201 [some (.ref x0), some (.int x1), some (.int x2), some (.int x3)] [] h1 Q) : q_wp (n + 1) 55 198 [some (.ref x0), some (.int x1), some (.int x2), some (.int x3)] [.int s0, .int s1, .int s2, .ref s3] h Q := by
  exact wp_callV (av := [.ref s3, .int s2, .int s1, .int s0]) rfl rfl rfl (by decide) rfl rfl rfl hm hc w
theorem b55_201 {n : Nat} {h : q_Hp} {Q : Option Value → q_Hp → Prop} {x0 : Nat} {x1 : Int32} {x2 : Int32} {x3 : Int32} (k0 : q_ok h x0 1) (q : Q (some (.int x3)) (q_sI h x0 14 ((qI h x0 14) + 1))) : q_wp n 55 201 [some (.ref x0), some (.int x1), some (.int x2), some (.int x3)] [] h Q := by
  refine wp_loc rfl rfl ?_
  refine wp_stk rfl rfl rfl ?_
  refine wp_getI rfl rfl rfl k0 ?_
  refine wp_iconst (v := 1) rfl (by decide) ?_
  refine wp_stk rfl rfl rfl ?_
  refine wp_putI rfl rfl (Or.inl rfl) rfl (fun h9 => by cases h9) k0 ?_
  refine wp_loc rfl rfl ?_
  exact wp_ret rfl rfl q
theorem b56_0 {n : Nat} {h : q_Hp} {Q : Option Value → q_Hp → Prop} {x0 : Nat} {v0 : Nat} (k0 : q_ok h x0 1) (e0 : qR h x0 12 = v0) {m : Nat} {P : Int32 → q_Hp → Prop} (hc : q_mI m 19 [.ref v0, .int 15] h P) (hm : m ≤ n) (w : ∀ (z : Int32) (h1 : q_Hp), P z h1 → q_wp (n + 1) 56 9 [some (.ref x0), none, none, none, none] [.int z] h1 Q) : q_wp (n + 1) 56 0 [some (.ref x0), none, none, none, none] [] h Q := by
  refine wp_loc rfl rfl ?_
  refine wp_getR rfl rfl rfl rfl k0 e0 ?_
  refine wp_bipush (v := 15) rfl (by decide) ?_
  exact wp_callI (av := [.ref v0, .int 15]) rfl rfl rfl (by decide) rfl rfl rfl hm hc w
theorem b56_9 {n : Nat} {h : q_Hp} {Q : Option Value → q_Hp → Prop} {x0 : Nat} {s0 : Int32} {v0 : Nat} (k0 : q_ok h x0 1) (e0 : qR h x0 12 = v0) {m : Nat} {P : Int32 → q_Hp → Prop} (hc : q_mI m 58 [.ref x0] h P) (hm : m ≤ n) (w : ∀ (z : Int32) (h1 : q_Hp), P z h1 → q_wp (n + 1) 56 20 [some (.ref x0), some (.int s0), none, none, none] [.int z, .int 1, .int s0, .ref v0] h1 Q) : q_wp (n + 1) 56 9 [some (.ref x0), none, none, none, none] [.int s0] h Q := by
  refine wp_loc rfl rfl ?_
  refine wp_loc rfl rfl ?_
  refine wp_getR rfl rfl rfl rfl k0 e0 ?_
  refine wp_loc rfl rfl ?_
  refine wp_iconst (v := 1) rfl (by decide) ?_
  refine wp_loc rfl rfl ?_
  exact wp_callI (av := [.ref x0]) rfl rfl rfl (by decide) rfl rfl rfl hm hc w
theorem b56_20 {n : Nat} {h : q_Hp} {Q : Option Value → q_Hp → Prop} {x0 : Nat} {x1 : Int32} {s0 : Int32} {s1 : Int32} {s2 : Int32} {s3 : Nat} {m : Nat} {P : q_Hp → Prop} (hc : q_mV m 21 [.ref s3, .int s2, .int s1, .int s0] h P) (hm : m ≤ n) (w : ∀ h1 : q_Hp, P h1 → q_wp (n + 1) 56 23 [some (.ref x0), some (.int x1), none, none, none] [] h1 Q) : q_wp (n + 1) 56 20 [some (.ref x0), some (.int x1), none, none, none] [.int s0, .int s1, .int s2, .ref s3] h Q := by
  exact wp_callV (av := [.ref s3, .int s2, .int s1, .int s0]) rfl rfl rfl (by decide) rfl rfl rfl hm hc w
theorem b56_23 {n : Nat} {h : q_Hp} {Q : Option Value → q_Hp → Prop} {x0 : Nat} {x1 : Int32} (w : q_wp n 56 27 [some (.ref x0), some (.int x1), some (.int x1), some (.int 0), none] [] h Q) : q_wp n 56 23 [some (.ref x0), some (.int x1), none, none, none] [] h Q := by
  refine wp_loc rfl rfl ?_
  refine wp_loc rfl rfl ?_
  refine wp_iconst (v := 0) rfl (by decide) ?_
  refine wp_loc rfl rfl ?_
  exact w
theorem b56_27 {n : Nat} {h : q_Hp} {Q : Option Value → q_Hp → Prop} {x0 : Nat} {x1 : Int32} {x2 : Int32} {x3 : Int32} {l4 : Option Value} (wt : 1200 < x3 → q_wp n 56 98 [some (.ref x0), some (.int x1), some (.int x2), some (.int x3), l4] [] h Q) (wf : ¬ 1200 < x3 → q_wp n 56 34 [some (.ref x0), some (.int x1), some (.int x2), some (.int x3), l4] [] h Q) : q_wp n 56 27 [some (.ref x0), some (.int x1), some (.int x2), some (.int x3), l4] [] h Q := by
  refine wp_loc rfl rfl ?_
  refine wp_sipush (v := 1200) rfl (by decide) ?_
  exact wp_icgt (tgt := 98) rfl (by decide) wt wf
theorem b56_34 {n : Nat} {h : q_Hp} {Q : Option Value → q_Hp → Prop} {x0 : Nat} {x1 : Int32} {x2 : Int32} {x3 : Int32} {l4 : Option Value} {m : Nat} {P : Int32 → q_Hp → Prop} (hc : q_mI m 25 [.ref x0] h P) (hm : m ≤ n) (w : ∀ (z : Int32) (h1 : q_Hp), P z h1 → q_wp (n + 1) 56 38 [some (.ref x0), some (.int x1), some (.int x2), some (.int x3), l4] [.int z] h1 Q) : q_wp (n + 1) 56 34 [some (.ref x0), some (.int x1), some (.int x2), some (.int x3), l4] [] h Q := by
  refine wp_loc rfl rfl ?_
  exact wp_callI (av := [.ref x0]) rfl rfl rfl (by decide) rfl rfl rfl hm hc w
theorem b56_38 {n : Nat} {h : q_Hp} {Q : Option Value → q_Hp → Prop} {x0 : Nat} {x1 : Int32} {x2 : Int32} {x3 : Int32} {l4 : Option Value} {s0 : Int32} (wt : ¬ s0 = 28 → q_wp n 56 98 [some (.ref x0), some (.int x1), some (.int x2), some (.int x3), l4] [] h Q) (wf : s0 = 28 → q_wp n 56 43 [some (.ref x0), some (.int x1), some (.int x2), some (.int x3), l4] [] h Q) : q_wp n 56 38 [some (.ref x0), some (.int x1), some (.int x2), some (.int x3), l4] [.int s0] h Q := by
  refine wp_bipush (v := 28) rfl (by decide) ?_
  exact wp_icne (tgt := 98) rfl (by decide) wt wf
theorem b56_43 {n : Nat} {h : q_Hp} {Q : Option Value → q_Hp → Prop} {x0 : Nat} {x1 : Int32} {x2 : Int32} {x3 : Int32} {l4 : Option Value} {v0 : Nat} (k0 : q_ok h x0 1) (e0 : qR h x0 12 = v0) {m : Nat} {P : Int32 → q_Hp → Prop} (hc : q_mI m 19 [.ref v0, .int 15] (q_sI h x0 14 ((qI h x0 14) + 1)) P) (hm : m ≤ n) (w : ∀ (z : Int32) (h1 : q_Hp), P z h1 → q_wp (n + 1) 56 62 [some (.ref x0), some (.int x1), some (.int x2), some (.int x3), l4] [.int z] h1 Q) : q_wp (n + 1) 56 43 [some (.ref x0), some (.int x1), some (.int x2), some (.int x3), l4] [] h Q := by
  refine wp_loc rfl rfl ?_
  refine wp_stk rfl rfl rfl ?_
  refine wp_getI rfl rfl rfl k0 ?_
  refine wp_iconst (v := 1) rfl (by decide) ?_
  refine wp_stk rfl rfl rfl ?_
  refine wp_putI rfl rfl (Or.inl rfl) rfl (fun h9 => by cases h9) k0 ?_
  refine wp_loc rfl rfl ?_
  refine wp_getR rfl rfl rfl rfl k0 e0 ?_
  refine wp_bipush (v := 15) rfl (by decide) ?_
  exact wp_callI (av := [.ref v0, .int 15]) rfl rfl rfl (by decide) rfl rfl rfl hm hc w
theorem b56_62 {n : Nat} {h : q_Hp} {Q : Option Value → q_Hp → Prop} {x0 : Nat} {x1 : Int32} {x2 : Int32} {x3 : Int32} {l4 : Option Value} {s0 : Int32} {v0 : Nat} (k0 : q_ok h x0 1) (e0 : qR h x0 12 = v0) {m : Nat} {P : Int32 → q_Hp → Prop} (hc : q_mI m 58 [.ref x0] h P) (hm : m ≤ n) (w : ∀ (z : Int32) (h1 : q_Hp), P z h1 → q_wp (n + 1) 56 75 [some (.ref x0), some (.int x1), some (.int x2), some (.int x3), some (.int s0)] [.int z, .int 1, .int s0, .ref v0] h1 Q) : q_wp (n + 1) 56 62 [some (.ref x0), some (.int x1), some (.int x2), some (.int x3), l4] [.int s0] h Q := by
  refine wp_loc rfl rfl ?_
  refine wp_loc rfl rfl ?_
  refine wp_getR rfl rfl rfl rfl k0 e0 ?_
  refine wp_loc rfl rfl ?_
  refine wp_iconst (v := 1) rfl (by decide) ?_
  refine wp_loc rfl rfl ?_
  exact wp_callI (av := [.ref x0]) rfl rfl rfl (by decide) rfl rfl rfl hm hc w
theorem b56_75 {n : Nat} {h : q_Hp} {Q : Option Value → q_Hp → Prop} {x0 : Nat} {x1 : Int32} {x2 : Int32} {x3 : Int32} {x4 : Int32} {s0 : Int32} {s1 : Int32} {s2 : Int32} {s3 : Nat} {m : Nat} {P : q_Hp → Prop} (hc : q_mV m 21 [.ref s3, .int s2, .int s1, .int s0] h P) (hm : m ≤ n) (w : ∀ h1 : q_Hp, P h1 → q_wp (n + 1) 56 78 [some (.ref x0), some (.int x1), some (.int x2), some (.int x3), some (.int x4)] [] h1 Q) : q_wp (n + 1) 56 75 [some (.ref x0), some (.int x1), some (.int x2), some (.int x3), some (.int x4)] [.int s0, .int s1, .int s2, .ref s3] h Q := by
  exact wp_callV (av := [.ref s3, .int s2, .int s1, .int s0]) rfl rfl rfl (by decide) rfl rfl rfl hm hc w
theorem b56_78 {n : Nat} {h : q_Hp} {Q : Option Value → q_Hp → Prop} {x0 : Nat} {x1 : Int32} {x2 : Int32} {x3 : Int32} {x4 : Int32} {v0 : Nat} (k0 : q_ok h x0 1) (e0 : qR h x0 12 = v0) {m : Nat} {P : q_Hp → Prop} (hc : q_mV m 21 [.ref v0, .int x2, .int 2, .int x4] h P) (hm : m ≤ n) (w : ∀ h1 : q_Hp, P h1 → q_wp (n + 1) 56 89 [some (.ref x0), some (.int x1), some (.int x2), some (.int x3), some (.int x4)] [] h1 Q) : q_wp (n + 1) 56 78 [some (.ref x0), some (.int x1), some (.int x2), some (.int x3), some (.int x4)] [] h Q := by
  refine wp_loc rfl rfl ?_
  refine wp_getR rfl rfl rfl rfl k0 e0 ?_
  refine wp_loc rfl rfl ?_
  refine wp_iconst (v := 2) rfl (by decide) ?_
  refine wp_loc rfl rfl ?_
  exact wp_callV (av := [.ref v0, .int x2, .int 2, .int x4]) rfl rfl rfl (by decide) rfl rfl rfl hm hc w
theorem b56_89 {n : Nat} {h : q_Hp} {Q : Option Value → q_Hp → Prop} {x0 : Nat} {x1 : Int32} {x2 : Int32} {x3 : Int32} {x4 : Int32} (w : q_wp n 56 27 [some (.ref x0), some (.int x1), some (.int x4), some (.int (x3 + 1)), some (.int x4)] [] h Q) : q_wp n 56 89 [some (.ref x0), some (.int x1), some (.int x2), some (.int x3), some (.int x4)] [] h Q := by
  refine wp_loc rfl rfl ?_
  refine wp_loc rfl rfl ?_
  refine wp_iinc (v := 1) rfl rfl (by decide) rfl ?_
  refine wp_goto (tgt := 27) rfl (by decide) ?_
  exact w
theorem b56_98 {n : Nat} {h : q_Hp} {Q : Option Value → q_Hp → Prop} {x0 : Nat} {x1 : Int32} {x2 : Int32} {x3 : Int32} {l4 : Option Value} (q : Q (some (.int x1)) h) : q_wp n 56 98 [some (.ref x0), some (.int x1), some (.int x2), some (.int x3), l4] [] h Q := by
  refine wp_loc rfl rfl ?_
  exact wp_ret rfl rfl q
theorem b57_0 {n : Nat} {h : q_Hp} {Q : Option Value → q_Hp → Prop} {x0 : Nat} {v0 : Nat} (k0 : q_ok h x0 1) (e0 : qR h x0 0 = v0) {m : Nat} {P : Int64 → q_Hp → Prop} (hc : q_mJ m 190 [.ref v0, .int (qI h x0 14)] h P) (hm : m ≤ n) (w : ∀ (z : Int64) (h1 : q_Hp), P z h1 → q_wp (n + 1) 57 11 [some (.ref x0), none, none] [.long z] h1 Q) : q_wp (n + 1) 57 0 [some (.ref x0), none, none] [] h Q := by
  refine wp_loc rfl rfl ?_
  refine wp_getR rfl rfl rfl rfl k0 e0 ?_
  refine wp_loc rfl rfl ?_
  refine wp_getI rfl rfl rfl k0 ?_
  exact wp_callJ (av := [.ref v0, .int (qI h x0 14)]) rfl rfl rfl (by decide) rfl rfl rfl hm hc w
theorem b57_11 {n : Nat} {h : q_Hp} {Q : Option Value → q_Hp → Prop} {x0 : Nat} {s0 : Int64} (wt : (lg_cmp s0 100) ≤ 0 → q_wp n 57 25 [some (.ref x0), some (.long s0), none] [] h Q) (wf : ¬ (lg_cmp s0 100) ≤ 0 → q_wp n 57 20 [some (.ref x0), some (.long s0), none] [] h Q) : q_wp n 57 11 [some (.ref x0), none, none] [.long s0] h Q := by
  refine wp_loc rfl rfl ?_
  refine wp_loc rfl rfl ?_
  refine wp_stk (m := 3) (st' := .long 100 :: _) rfl rfl rfl ?_
  refine wp_stk rfl rfl rfl ?_
  exact wp_ifle (tgt := 25) rfl (by decide) wt wf
theorem b57_20 {n : Nat} {h : q_Hp} {Q : Option Value → q_Hp → Prop} {x0 : Nat} {x1 : Int64} {m : Nat} {P : q_Hp → Prop} (hc : q_mV m 26 [.ref x0, .int 5] h P) (hm : m ≤ n) (w : ∀ h1 : q_Hp, P h1 → q_wp (n + 1) 57 25 [some (.ref x0), some (.long x1), none] [] h1 Q) : q_wp (n + 1) 57 20 [some (.ref x0), some (.long x1), none] [] h Q := by
  refine wp_loc rfl rfl ?_
  refine wp_iconst (v := 5) rfl (by decide) ?_
  exact wp_callV (av := [.ref x0, .int 5]) rfl rfl rfl (by decide) rfl rfl rfl hm hc w
theorem b57_25 {n : Nat} {h : q_Hp} {Q : Option Value → q_Hp → Prop} {x0 : Nat} {x1 : Int64} (k0 : q_ok h x0 1) (q : Q (some (.int ((x1 : Int64).toInt32))) (q_sI h x0 14 ((qI h x0 14) + 1))) : q_wp n 57 25 [some (.ref x0), some (.long x1), none] [] h Q := by
  refine wp_loc rfl rfl ?_
  refine wp_stk rfl rfl rfl ?_
  refine wp_getI rfl rfl rfl k0 ?_
  refine wp_iconst (v := 1) rfl (by decide) ?_
  refine wp_stk rfl rfl rfl ?_
  refine wp_putI rfl rfl (Or.inl rfl) rfl (fun h9 => by cases h9) k0 ?_
  refine wp_loc rfl rfl ?_
  refine wp_stk rfl rfl rfl ?_
  exact wp_ret rfl rfl q
theorem b58_0 {n : Nat} {h : q_Hp} {Q : Option Value → q_Hp → Prop} {x0 : Nat} {v0 : Nat} (k0 : q_ok h x0 1) (e0 : qR h x0 0 = v0) {m : Nat} {P : Int64 → q_Hp → Prop} (hc : q_mJ m 190 [.ref v0, .int (qI h x0 14)] h P) (hm : m ≤ n) (w : ∀ (z : Int64) (h1 : q_Hp), P z h1 → q_wp (n + 1) 58 11 [some (.ref x0), none, none, none, none] [.long z] h1 Q) : q_wp (n + 1) 58 0 [some (.ref x0), none, none, none, none] [] h Q := by
  refine wp_loc rfl rfl ?_
  refine wp_getR rfl rfl rfl rfl k0 e0 ?_
  refine wp_loc rfl rfl ?_
  refine wp_getI rfl rfl rfl k0 ?_
  exact wp_callJ (av := [.ref v0, .int (qI h x0 14)]) rfl rfl rfl (by decide) rfl rfl rfl hm hc w
theorem b58_11 {n : Nat} {h : q_Hp} {Q : Option Value → q_Hp → Prop} {x0 : Nat} {s0 : Int64} (w : q_wp n 58 17 [some (.ref x0), some (.long s0), none, some (.int (-1)), some (.int 0)] [] h Q) : q_wp n 58 11 [some (.ref x0), none, none, none, none] [.long s0] h Q := by
  refine wp_loc rfl rfl ?_
  refine wp_iconst (v := (-1)) rfl (by decide) ?_
  refine wp_loc rfl rfl ?_
  refine wp_iconst (v := 0) rfl (by decide) ?_
  refine wp_loc rfl rfl ?_
  exact w
theorem b58_17 {n : Nat} {h : q_Hp} {Q : Option Value → q_Hp → Prop} {x0 : Nat} {x1 : Int64} {x3 : Int32} {x4 : Int32} {v0 : Nat} (k0 : q_ok h x0 1) (e0 : qR h x0 1 = v0) {m : Nat} {P : Int32 → q_Hp → Prop} (hc : q_mI m 163 [.ref v0] h P) (hm : m ≤ n) (w : ∀ (z : Int32) (h1 : q_Hp), P z h1 → q_wp (n + 1) 58 26 [some (.ref x0), some (.long x1), none, some (.int x3), some (.int x4)] [.int z, .int x4] h1 Q) : q_wp (n + 1) 58 17 [some (.ref x0), some (.long x1), none, some (.int x3), some (.int x4)] [] h Q := by
  refine wp_loc rfl rfl ?_
  refine wp_loc rfl rfl ?_
  refine wp_getR rfl rfl rfl rfl k0 e0 ?_
  exact wp_callI (av := [.ref v0]) rfl rfl rfl (by decide) rfl rfl rfl hm hc w
theorem b58_26 {n : Nat} {h : q_Hp} {Q : Option Value → q_Hp → Prop} {x0 : Nat} {x1 : Int64} {x3 : Int32} {x4 : Int32} {s0 : Int32} {s1 : Int32} (wt : s0 ≤ s1 → q_wp n 58 57 [some (.ref x0), some (.long x1), none, some (.int x3), some (.int x4)] [] h Q) (wf : ¬ s0 ≤ s1 → q_wp n 58 29 [some (.ref x0), some (.long x1), none, some (.int x3), some (.int x4)] [] h Q) : q_wp n 58 26 [some (.ref x0), some (.long x1), none, some (.int x3), some (.int x4)] [.int s0, .int s1] h Q := by
  exact wp_icge (tgt := 57) rfl (by decide) wt wf
theorem b58_29 {n : Nat} {h : q_Hp} {Q : Option Value → q_Hp → Prop} {x0 : Nat} {x1 : Int64} {x3 : Int32} {x4 : Int32} (wt : ¬ x3 = (-1) → q_wp n 58 57 [some (.ref x0), some (.long x1), none, some (.int x3), some (.int x4)] [] h Q) (wf : x3 = (-1) → q_wp n 58 34 [some (.ref x0), some (.long x1), none, some (.int x3), some (.int x4)] [] h Q) : q_wp n 58 29 [some (.ref x0), some (.long x1), none, some (.int x3), some (.int x4)] [] h Q := by
  refine wp_loc rfl rfl ?_
  refine wp_iconst (v := (-1)) rfl (by decide) ?_
  exact wp_icne (tgt := 57) rfl (by decide) wt wf
theorem b58_34 {n : Nat} {h : q_Hp} {Q : Option Value → q_Hp → Prop} {x0 : Nat} {x1 : Int64} {x3 : Int32} {x4 : Int32} {v0 : Nat} (k0 : q_ok h x0 1) (e0 : qR h x0 1 = v0) {m : Nat} {P : Int64 → q_Hp → Prop} (hc : q_mJ m 165 [.ref v0, .int x4] h P) (hm : m ≤ n) (w : ∀ (z : Int64) (h1 : q_Hp), P z h1 → q_wp (n + 1) 58 43 [some (.ref x0), some (.long x1), none, some (.int x3), some (.int x4)] [.long z] h1 Q) : q_wp (n + 1) 58 34 [some (.ref x0), some (.long x1), none, some (.int x3), some (.int x4)] [] h Q := by
  refine wp_loc rfl rfl ?_
  refine wp_getR rfl rfl rfl rfl k0 e0 ?_
  refine wp_loc rfl rfl ?_
  exact wp_callJ (av := [.ref v0, .int x4]) rfl rfl rfl (by decide) rfl rfl rfl hm hc w
theorem b58_43 {n : Nat} {h : q_Hp} {Q : Option Value → q_Hp → Prop} {x0 : Nat} {x1 : Int64} {x3 : Int32} {x4 : Int32} {s0 : Int64} (wt : ¬ (lg_cmp s0 x1) = 0 → q_wp n 58 51 [some (.ref x0), some (.long x1), none, some (.int x3), some (.int x4)] [] h Q) (wf : (lg_cmp s0 x1) = 0 → q_wp n 58 48 [some (.ref x0), some (.long x1), none, some (.int x3), some (.int x4)] [] h Q) : q_wp n 58 43 [some (.ref x0), some (.long x1), none, some (.int x3), some (.int x4)] [.long s0] h Q := by
  refine wp_loc rfl rfl ?_
  refine wp_stk rfl rfl rfl ?_
  exact wp_ifne (tgt := 51) rfl (by decide) wt wf
theorem b58_48 {n : Nat} {h : q_Hp} {Q : Option Value → q_Hp → Prop} {x0 : Nat} {x1 : Int64} {x3 : Int32} {x4 : Int32} (w : q_wp n 58 51 [some (.ref x0), some (.long x1), none, some (.int x4), some (.int x4)] [] h Q) : q_wp n 58 48 [some (.ref x0), some (.long x1), none, some (.int x3), some (.int x4)] [] h Q := by
  refine wp_loc rfl rfl ?_
  refine wp_loc rfl rfl ?_
  exact w
theorem b58_51 {n : Nat} {h : q_Hp} {Q : Option Value → q_Hp → Prop} {x0 : Nat} {x1 : Int64} {x3 : Int32} {x4 : Int32} (w : q_wp n 58 17 [some (.ref x0), some (.long x1), none, some (.int x3), some (.int (x4 + 1))] [] h Q) : q_wp n 58 51 [some (.ref x0), some (.long x1), none, some (.int x3), some (.int x4)] [] h Q := by
  refine wp_iinc (v := 1) rfl rfl (by decide) rfl ?_
  refine wp_goto (tgt := 17) rfl (by decide) ?_
  exact w
theorem b58_57 {n : Nat} {h : q_Hp} {Q : Option Value → q_Hp → Prop} {x0 : Nat} {x1 : Int64} {x3 : Int32} {x4 : Int32} (wt : ¬ x3 = (-1) → q_wp n 58 67 [some (.ref x0), some (.long x1), none, some (.int x3), some (.int x4)] [] h Q) (wf : x3 = (-1) → q_wp n 58 62 [some (.ref x0), some (.long x1), none, some (.int x3), some (.int x4)] [] h Q) : q_wp n 58 57 [some (.ref x0), some (.long x1), none, some (.int x3), some (.int x4)] [] h Q := by
  refine wp_loc rfl rfl ?_
  refine wp_iconst (v := (-1)) rfl (by decide) ?_
  exact wp_icne (tgt := 67) rfl (by decide) wt wf
theorem b58_62 {n : Nat} {h : q_Hp} {Q : Option Value → q_Hp → Prop} {x0 : Nat} {x1 : Int64} {x3 : Int32} {x4 : Int32} {m : Nat} {P : q_Hp → Prop} (hc : q_mV m 26 [.ref x0, .int 4] h P) (hm : m ≤ n) (w : ∀ h1 : q_Hp, P h1 → q_wp (n + 1) 58 67 [some (.ref x0), some (.long x1), none, some (.int x3), some (.int x4)] [] h1 Q) : q_wp (n + 1) 58 62 [some (.ref x0), some (.long x1), none, some (.int x3), some (.int x4)] [] h Q := by
  refine wp_loc rfl rfl ?_
  refine wp_iconst (v := 4) rfl (by decide) ?_
  exact wp_callV (av := [.ref x0, .int 4]) rfl rfl rfl (by decide) rfl rfl rfl hm hc w
theorem b58_67 {n : Nat} {h : q_Hp} {Q : Option Value → q_Hp → Prop} {x0 : Nat} {x1 : Int64} {x3 : Int32} {x4 : Int32} (k0 : q_ok h x0 1) (q : Q (some (.int x3)) (q_sI h x0 14 ((qI h x0 14) + 1))) : q_wp n 58 67 [some (.ref x0), some (.long x1), none, some (.int x3), some (.int x4)] [] h Q := by
  refine wp_loc rfl rfl ?_
  refine wp_stk rfl rfl rfl ?_
  refine wp_getI rfl rfl rfl k0 ?_
  refine wp_iconst (v := 1) rfl (by decide) ?_
  refine wp_stk rfl rfl rfl ?_
  refine wp_putI rfl rfl (Or.inl rfl) rfl (fun h9 => by cases h9) k0 ?_
  refine wp_loc rfl rfl ?_
  exact wp_ret rfl rfl q
theorem b59_0 {n : Nat} {h : q_Hp} {Q : Option Value → q_Hp → Prop} {x0 : Nat} {v0 : Nat} (k0 : q_ok h x0 1) (e0 : qR h x0 0 = v0) {m : Nat} {P : Int64 → q_Hp → Prop} (hc : q_mJ m 190 [.ref v0, .int (qI h x0 14)] h P) (hm : m ≤ n) (w : ∀ (z : Int64) (h1 : q_Hp), P z h1 → q_wp (n + 1) 59 11 [some (.ref x0), none, none, none, none] [.long z] h1 Q) : q_wp (n + 1) 59 0 [some (.ref x0), none, none, none, none] [] h Q := by
  refine wp_loc rfl rfl ?_
  refine wp_getR rfl rfl rfl rfl k0 e0 ?_
  refine wp_loc rfl rfl ?_
  refine wp_getI rfl rfl rfl k0 ?_
  exact wp_callJ (av := [.ref v0, .int (qI h x0 14)]) rfl rfl rfl (by decide) rfl rfl rfl hm hc w
theorem b59_11 {n : Nat} {h : q_Hp} {Q : Option Value → q_Hp → Prop} {x0 : Nat} {s0 : Int64} (w : q_wp n 59 17 [some (.ref x0), some (.long s0), none, some (.int (-1)), some (.int 0)] [] h Q) : q_wp n 59 11 [some (.ref x0), none, none, none, none] [.long s0] h Q := by
  refine wp_loc rfl rfl ?_
  refine wp_iconst (v := (-1)) rfl (by decide) ?_
  refine wp_loc rfl rfl ?_
  refine wp_iconst (v := 0) rfl (by decide) ?_
  refine wp_loc rfl rfl ?_
  exact w
theorem b59_17 {n : Nat} {h : q_Hp} {Q : Option Value → q_Hp → Prop} {x0 : Nat} {x1 : Int64} {x3 : Int32} {x4 : Int32} {v0 : Nat} (k0 : q_ok h x0 1) (e0 : qR h x0 1 = v0) {m : Nat} {P : Int32 → q_Hp → Prop} (hc : q_mI m 164 [.ref v0] h P) (hm : m ≤ n) (w : ∀ (z : Int32) (h1 : q_Hp), P z h1 → q_wp (n + 1) 59 26 [some (.ref x0), some (.long x1), none, some (.int x3), some (.int x4)] [.int z, .int x4] h1 Q) : q_wp (n + 1) 59 17 [some (.ref x0), some (.long x1), none, some (.int x3), some (.int x4)] [] h Q := by
  refine wp_loc rfl rfl ?_
  refine wp_loc rfl rfl ?_
  refine wp_getR rfl rfl rfl rfl k0 e0 ?_
  exact wp_callI (av := [.ref v0]) rfl rfl rfl (by decide) rfl rfl rfl hm hc w
theorem b59_26 {n : Nat} {h : q_Hp} {Q : Option Value → q_Hp → Prop} {x0 : Nat} {x1 : Int64} {x3 : Int32} {x4 : Int32} {s0 : Int32} {s1 : Int32} (wt : s0 ≤ s1 → q_wp n 59 57 [some (.ref x0), some (.long x1), none, some (.int x3), some (.int x4)] [] h Q) (wf : ¬ s0 ≤ s1 → q_wp n 59 29 [some (.ref x0), some (.long x1), none, some (.int x3), some (.int x4)] [] h Q) : q_wp n 59 26 [some (.ref x0), some (.long x1), none, some (.int x3), some (.int x4)] [.int s0, .int s1] h Q := by
  exact wp_icge (tgt := 57) rfl (by decide) wt wf
theorem b59_29 {n : Nat} {h : q_Hp} {Q : Option Value → q_Hp → Prop} {x0 : Nat} {x1 : Int64} {x3 : Int32} {x4 : Int32} (wt : ¬ x3 = (-1) → q_wp n 59 57 [some (.ref x0), some (.long x1), none, some (.int x3), some (.int x4)] [] h Q) (wf : x3 = (-1) → q_wp n 59 34 [some (.ref x0), some (.long x1), none, some (.int x3), some (.int x4)] [] h Q) : q_wp n 59 29 [some (.ref x0), some (.long x1), none, some (.int x3), some (.int x4)] [] h Q := by
  refine wp_loc rfl rfl ?_
  refine wp_iconst (v := (-1)) rfl (by decide) ?_
  exact wp_icne (tgt := 57) rfl (by decide) wt wf
theorem b59_34 {n : Nat} {h : q_Hp} {Q : Option Value → q_Hp → Prop} {x0 : Nat} {x1 : Int64} {x3 : Int32} {x4 : Int32} {v0 : Nat} (k0 : q_ok h x0 1) (e0 : qR h x0 1 = v0) {m : Nat} {P : Int64 → q_Hp → Prop} (hc : q_mJ m 166 [.ref v0, .int x4] h P) (hm : m ≤ n) (w : ∀ (z : Int64) (h1 : q_Hp), P z h1 → q_wp (n + 1) 59 43 [some (.ref x0), some (.long x1), none, some (.int x3), some (.int x4)] [.long z] h1 Q) : q_wp (n + 1) 59 34 [some (.ref x0), some (.long x1), none, some (.int x3), some (.int x4)] [] h Q := by
  refine wp_loc rfl rfl ?_
  refine wp_getR rfl rfl rfl rfl k0 e0 ?_
  refine wp_loc rfl rfl ?_
  exact wp_callJ (av := [.ref v0, .int x4]) rfl rfl rfl (by decide) rfl rfl rfl hm hc w
theorem b59_43 {n : Nat} {h : q_Hp} {Q : Option Value → q_Hp → Prop} {x0 : Nat} {x1 : Int64} {x3 : Int32} {x4 : Int32} {s0 : Int64} (wt : ¬ (lg_cmp s0 x1) = 0 → q_wp n 59 51 [some (.ref x0), some (.long x1), none, some (.int x3), some (.int x4)] [] h Q) (wf : (lg_cmp s0 x1) = 0 → q_wp n 59 48 [some (.ref x0), some (.long x1), none, some (.int x3), some (.int x4)] [] h Q) : q_wp n 59 43 [some (.ref x0), some (.long x1), none, some (.int x3), some (.int x4)] [.long s0] h Q := by
  refine wp_loc rfl rfl ?_
  refine wp_stk rfl rfl rfl ?_
  exact wp_ifne (tgt := 51) rfl (by decide) wt wf
theorem b59_48 {n : Nat} {h : q_Hp} {Q : Option Value → q_Hp → Prop} {x0 : Nat} {x1 : Int64} {x3 : Int32} {x4 : Int32} (w : q_wp n 59 51 [some (.ref x0), some (.long x1), none, some (.int x4), some (.int x4)] [] h Q) : q_wp n 59 48 [some (.ref x0), some (.long x1), none, some (.int x3), some (.int x4)] [] h Q := by
  refine wp_loc rfl rfl ?_
  refine wp_loc rfl rfl ?_
  exact w
theorem b59_51 {n : Nat} {h : q_Hp} {Q : Option Value → q_Hp → Prop} {x0 : Nat} {x1 : Int64} {x3 : Int32} {x4 : Int32} (w : q_wp n 59 17 [some (.ref x0), some (.long x1), none, some (.int x3), some (.int (x4 + 1))] [] h Q) : q_wp n 59 51 [some (.ref x0), some (.long x1), none, some (.int x3), some (.int x4)] [] h Q := by
  refine wp_iinc (v := 1) rfl rfl (by decide) rfl ?_
  refine wp_goto (tgt := 17) rfl (by decide) ?_
  exact w
theorem b59_57 {n : Nat} {h : q_Hp} {Q : Option Value → q_Hp → Prop} {x0 : Nat} {x1 : Int64} {x3 : Int32} {x4 : Int32} (wt : ¬ x3 = (-1) → q_wp n 59 67 [some (.ref x0), some (.long x1), none, some (.int x3), some (.int x4)] [] h Q) (wf : x3 = (-1) → q_wp n 59 62 [some (.ref x0), some (.long x1), none, some (.int x3), some (.int x4)] [] h Q) : q_wp n 59 57 [some (.ref x0), some (.long x1), none, some (.int x3), some (.int x4)] [] h Q := by
  refine wp_loc rfl rfl ?_
  refine wp_iconst (v := (-1)) rfl (by decide) ?_
  exact wp_icne (tgt := 67) rfl (by decide) wt wf
theorem b59_62 {n : Nat} {h : q_Hp} {Q : Option Value → q_Hp → Prop} {x0 : Nat} {x1 : Int64} {x3 : Int32} {x4 : Int32} {m : Nat} {P : q_Hp → Prop} (hc : q_mV m 26 [.ref x0, .int 4] h P) (hm : m ≤ n) (w : ∀ h1 : q_Hp, P h1 → q_wp (n + 1) 59 67 [some (.ref x0), some (.long x1), none, some (.int x3), some (.int x4)] [] h1 Q) : q_wp (n + 1) 59 62 [some (.ref x0), some (.long x1), none, some (.int x3), some (.int x4)] [] h Q := by
  refine wp_loc rfl rfl ?_
  refine wp_iconst (v := 4) rfl (by decide) ?_
  exact wp_callV (av := [.ref x0, .int 4]) rfl rfl rfl (by decide) rfl rfl rfl hm hc w
theorem b59_67 {n : Nat} {h : q_Hp} {Q : Option Value → q_Hp → Prop} {x0 : Nat} {x1 : Int64} {x3 : Int32} {x4 : Int32} (k0 : q_ok h x0 1) (q : Q (some (.int x3)) (q_sI h x0 14 ((qI h x0 14) + 1))) : q_wp n 59 67 [some (.ref x0), some (.long x1), none, some (.int x3), some (.int x4)] [] h Q := by
  refine wp_loc rfl rfl ?_
  refine wp_stk rfl rfl rfl ?_
  refine wp_getI rfl rfl rfl k0 ?_
  refine wp_iconst (v := 1) rfl (by decide) ?_
  refine wp_stk rfl rfl rfl ?_
  refine wp_putI rfl rfl (Or.inl rfl) rfl (fun h9 => by cases h9) k0 ?_
  refine wp_loc rfl rfl ?_
  exact wp_ret rfl rfl q
