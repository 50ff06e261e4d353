theorem b161_0 {n : Nat} {h : q_Hp} {Q : Option Value → q_Hp → Prop} {x0 : Nat} (k0 : q_ok h x0 8) (w : q_wp n 161 32 [some (.ref x0), some (.int 0)] [] (q_sI (q_sI (q_sI (q_sI (q_sI (q_sI h x0 3 0) x0 4 0) x0 5 0) x0 6 0) x0 7 0) x0 8 0) Q) : q_wp n 161 0 [some (.ref x0), none] [] h Q := by
  refine wp_loc rfl rfl ?_
  refine wp_iconst (v := 0) rfl (by decide) ?_
  refine wp_putI rfl rfl (Or.inl rfl) rfl (fun h9 => by cases h9) k0 ?_
  refine wp_loc rfl rfl ?_
  refine wp_iconst (v := 0) rfl (by decide) ?_
  refine wp_putI rfl rfl (Or.inl rfl) rfl (fun h9 => by cases h9) k0 ?_
  refine wp_loc rfl rfl ?_
  refine wp_iconst (v := 0) rfl (by decide) ?_
  refine wp_putI rfl rfl (Or.inl rfl) rfl (fun h9 => by cases h9) k0 ?_
  refine wp_loc rfl rfl ?_
  refine wp_iconst (v := 0) rfl (by decide) ?_
  refine wp_putI rfl rfl (Or.inl rfl) rfl (fun h9 => by cases h9) k0 ?_
  refine wp_loc rfl rfl ?_
  refine wp_iconst (v := 0) rfl (by decide) ?_
  refine wp_putI rfl rfl (Or.inl rfl) rfl (fun h9 => by cases h9) k0 ?_
  refine wp_loc rfl rfl ?_
  refine wp_iconst (v := 0) rfl (by decide) ?_
  refine wp_putI rfl rfl (Or.inl rfl) rfl (fun h9 => by cases h9) k0 ?_
  refine wp_iconst (v := 0) rfl (by decide) ?_
  refine wp_loc rfl rfl ?_
  exact w
theorem b161_32 {n : Nat} {h : q_Hp} {Q : Option Value → q_Hp → Prop} {x0 : Nat} {x1 : Int32} (wt : 1200 < x1 → q_wp n 161 126 [some (.ref x0), some (.int x1)] [] h Q) (wf : ¬ 1200 < x1 → q_wp n 161 39 [some (.ref x0), some (.int x1)] [] h Q) : q_wp n 161 32 [some (.ref x0), some (.int x1)] [] h Q := by
  refine wp_loc rfl rfl ?_
  refine wp_sipush (v := 1200) rfl (by decide) ?_
  exact wp_icgt (tgt := 126) rfl (by decide) wt wf
theorem b161_39 {n : Nat} {h : q_Hp} {Q : Option Value → q_Hp → Prop} {x0 : Nat} {x1 : Int32} (k0 : q_ok h x0 8) (wt : ¬ (qI h x0 8) = 0 → q_wp n 161 126 [some (.ref x0), some (.int x1)] [] h Q) (wf : (qI h x0 8) = 0 → q_wp n 161 46 [some (.ref x0), some (.int x1)] [] h Q) : q_wp n 161 39 [some (.ref x0), some (.int x1)] [] h Q := by
  refine wp_loc rfl rfl ?_
  refine wp_getI rfl rfl rfl k0 ?_
  exact wp_ifne (tgt := 126) rfl (by decide) wt wf
theorem b161_46 {n : Nat} {h : q_Hp} {Q : Option Value → q_Hp → Prop} {x0 : Nat} {x1 : Int32} {m : Nat} {P : Int32 → q_Hp → Prop} (hc : q_mI m 168 [.ref x0, .int 42] h P) (hm : m ≤ n) (w : ∀ (z : Int32) (h1 : q_Hp), P z h1 → q_wp (n + 1) 161 52 [some (.ref x0), some (.int x1)] [.int z] h1 Q) : q_wp (n + 1) 161 46 [some (.ref x0), some (.int x1)] [] h Q := by
  refine wp_loc rfl rfl ?_
  refine wp_bipush (v := 42) rfl (by decide) ?_
  exact wp_callI (av := [.ref x0, .int 42]) rfl rfl rfl (by decide) rfl rfl rfl hm hc w
theorem b161_52 {n : Nat} {h : q_Hp} {Q : Option Value → q_Hp → Prop} {x0 : Nat} {x1 : Int32} {s0 : Int32} (wt : ¬ s0 = 0 → q_wp n 161 126 [some (.ref x0), some (.int x1)] [] h Q) (wf : s0 = 0 → q_wp n 161 55 [some (.ref x0), some (.int x1)] [] h Q) : q_wp n 161 52 [some (.ref x0), some (.int x1)] [.int s0] h Q := by
  exact wp_ifne (tgt := 126) rfl (by decide) wt wf
theorem b161_55 {n : Nat} {h : q_Hp} {Q : Option Value → q_Hp → Prop} {x0 : Nat} {x1 : Int32} {m : Nat} {P : Int32 → q_Hp → Prop} (hc : q_mI m 168 [.ref x0, .int 0] h P) (hm : m ≤ n) (w : ∀ (z : Int32) (h1 : q_Hp), P z h1 → q_wp (n + 1) 161 60 [some (.ref x0), some (.int x1)] [.int z] h1 Q) : q_wp (n + 1) 161 55 [some (.ref x0), some (.int x1)] [] h Q := by
  refine wp_loc rfl rfl ?_
  refine wp_iconst (v := 0) rfl (by decide) ?_
  exact wp_callI (av := [.ref x0, .int 0]) rfl rfl rfl (by decide) rfl rfl rfl hm hc w
theorem b161_60 {n : Nat} {h : q_Hp} {Q : Option Value → q_Hp → Prop} {x0 : Nat} {x1 : Int32} {s0 : Int32} (wt : s0 = 0 → q_wp n 161 70 [some (.ref x0), some (.int x1)] [] h Q) (wf : ¬ s0 = 0 → q_wp n 161 63 [some (.ref x0), some (.int x1)] [] h Q) : q_wp n 161 60 [some (.ref x0), some (.int x1)] [.int s0] h Q := by
  exact wp_ifeq (tgt := 70) rfl (by decide) wt wf
theorem b161_63 {n : Nat} {h : q_Hp} {Q : Option Value → q_Hp → Prop} {x0 : Nat} {x1 : Int32} {m : Nat} {P : q_Hp → Prop} (hc : q_mV m 173 [.ref x0] h P) (hm : m ≤ n) (w : ∀ h1 : q_Hp, P h1 → q_wp (n + 1) 161 67 [some (.ref x0), some (.int x1)] [] h1 Q) : q_wp (n + 1) 161 63 [some (.ref x0), some (.int x1)] [] h Q := by
  refine wp_loc rfl rfl ?_
  exact wp_callV (av := [.ref x0]) rfl rfl rfl (by decide) rfl rfl rfl hm hc w
theorem b161_67 {n : Nat} {h : q_Hp} {Q : Option Value → q_Hp → Prop} {x0 : Nat} {x1 : Int32} (w : q_wp n 161 120 [some (.ref x0), some (.int x1)] [] h Q) : q_wp n 161 67 [some (.ref x0), some (.int x1)] [] h Q := by
  refine wp_goto (tgt := 120) rfl (by decide) ?_
  exact w
theorem b161_70 {n : Nat} {h : q_Hp} {Q : Option Value → q_Hp → Prop} {x0 : Nat} {x1 : Int32} {m : Nat} {P : Int32 → q_Hp → Prop} (hc : q_mI m 168 [.ref x0, .int 2] h P) (hm : m ≤ n) (w : ∀ (z : Int32) (h1 : q_Hp), P z h1 → q_wp (n + 1) 161 75 [some (.ref x0), some (.int x1)] [.int z] h1 Q) : q_wp (n + 1) 161 70 [some (.ref x0), some (.int x1)] [] h Q := by
  refine wp_loc rfl rfl ?_
  refine wp_iconst (v := 2) rfl (by decide) ?_
  exact wp_callI (av := [.ref x0, .int 2]) rfl rfl rfl (by decide) rfl rfl rfl hm hc w
theorem b161_75 {n : Nat} {h : q_Hp} {Q : Option Value → q_Hp → Prop} {x0 : Nat} {x1 : Int32} {s0 : Int32} (wt : s0 = 0 → q_wp n 161 85 [some (.ref x0), some (.int x1)] [] h Q) (wf : ¬ s0 = 0 → q_wp n 161 78 [some (.ref x0), some (.int x1)] [] h Q) : q_wp n 161 75 [some (.ref x0), some (.int x1)] [.int s0] h Q := by
  exact wp_ifeq (tgt := 85) rfl (by decide) wt wf
theorem b161_78 {n : Nat} {h : q_Hp} {Q : Option Value → q_Hp → Prop} {x0 : Nat} {x1 : Int32} {m : Nat} {P : q_Hp → Prop} (hc : q_mV m 174 [.ref x0] h P) (hm : m ≤ n) (w : ∀ h1 : q_Hp, P h1 → q_wp (n + 1) 161 82 [some (.ref x0), some (.int x1)] [] h1 Q) : q_wp (n + 1) 161 78 [some (.ref x0), some (.int x1)] [] h Q := by
  refine wp_loc rfl rfl ?_
  exact wp_callV (av := [.ref x0]) rfl rfl rfl (by decide) rfl rfl rfl hm hc w
theorem b161_82 {n : Nat} {h : q_Hp} {Q : Option Value → q_Hp → Prop} {x0 : Nat} {x1 : Int32} (w : q_wp n 161 120 [some (.ref x0), some (.int x1)] [] h Q) : q_wp n 161 82 [some (.ref x0), some (.int x1)] [] h Q := by
  refine wp_goto (tgt := 120) rfl (by decide) ?_
  exact w
theorem b161_85 {n : Nat} {h : q_Hp} {Q : Option Value → q_Hp → Prop} {x0 : Nat} {x1 : Int32} {m : Nat} {P : Int32 → q_Hp → Prop} (hc : q_mI m 168 [.ref x0, .int 3] h P) (hm : m ≤ n) (w : ∀ (z : Int32) (h1 : q_Hp), P z h1 → q_wp (n + 1) 161 90 [some (.ref x0), some (.int x1)] [.int z] h1 Q) : q_wp (n + 1) 161 85 [some (.ref x0), some (.int x1)] [] h Q := by
  refine wp_loc rfl rfl ?_
  refine wp_iconst (v := 3) rfl (by decide) ?_
  exact wp_callI (av := [.ref x0, .int 3]) rfl rfl rfl (by decide) rfl rfl rfl hm hc w
theorem b161_90 {n : Nat} {h : q_Hp} {Q : Option Value → q_Hp → Prop} {x0 : Nat} {x1 : Int32} {s0 : Int32} (wt : s0 = 0 → q_wp n 161 100 [some (.ref x0), some (.int x1)] [] h Q) (wf : ¬ s0 = 0 → q_wp n 161 93 [some (.ref x0), some (.int x1)] [] h Q) : q_wp n 161 90 [some (.ref x0), some (.int x1)] [.int s0] h Q := by
  exact wp_ifeq (tgt := 100) rfl (by decide) wt wf
theorem b161_93 {n : Nat} {h : q_Hp} {Q : Option Value → q_Hp → Prop} {x0 : Nat} {x1 : Int32} {m : Nat} {P : q_Hp → Prop} (hc : q_mV m 175 [.ref x0] h P) (hm : m ≤ n) (w : ∀ h1 : q_Hp, P h1 → q_wp (n + 1) 161 97 [some (.ref x0), some (.int x1)] [] h1 Q) : q_wp (n + 1) 161 93 [some (.ref x0), some (.int x1)] [] h Q := by
  refine wp_loc rfl rfl ?_
  exact wp_callV (av := [.ref x0]) rfl rfl rfl (by decide) rfl rfl rfl hm hc w
theorem b161_97 {n : Nat} {h : q_Hp} {Q : Option Value → q_Hp → Prop} {x0 : Nat} {x1 : Int32} (w : q_wp n 161 120 [some (.ref x0), some (.int x1)] [] h Q) : q_wp n 161 97 [some (.ref x0), some (.int x1)] [] h Q := by
  refine wp_goto (tgt := 120) rfl (by decide) ?_
  exact w
theorem b161_100 {n : Nat} {h : q_Hp} {Q : Option Value → q_Hp → Prop} {x0 : Nat} {x1 : Int32} {m : Nat} {P : Int32 → q_Hp → Prop} (hc : q_mI m 168 [.ref x0, .int 4] h P) (hm : m ≤ n) (w : ∀ (z : Int32) (h1 : q_Hp), P z h1 → q_wp (n + 1) 161 105 [some (.ref x0), some (.int x1)] [.int z] h1 Q) : q_wp (n + 1) 161 100 [some (.ref x0), some (.int x1)] [] h Q := by
  refine wp_loc rfl rfl ?_
  refine wp_iconst (v := 4) rfl (by decide) ?_
  exact wp_callI (av := [.ref x0, .int 4]) rfl rfl rfl (by decide) rfl rfl rfl hm hc w
theorem b161_105 {n : Nat} {h : q_Hp} {Q : Option Value → q_Hp → Prop} {x0 : Nat} {x1 : Int32} {s0 : Int32} (wt : s0 = 0 → q_wp n 161 115 [some (.ref x0), some (.int x1)] [] h Q) (wf : ¬ s0 = 0 → q_wp n 161 108 [some (.ref x0), some (.int x1)] [] h Q) : q_wp n 161 105 [some (.ref x0), some (.int x1)] [.int s0] h Q := by
  exact wp_ifeq (tgt := 115) rfl (by decide) wt wf
theorem b161_108 {n : Nat} {h : q_Hp} {Q : Option Value → q_Hp → Prop} {x0 : Nat} {x1 : Int32} {m : Nat} {P : q_Hp → Prop} (hc : q_mV m 182 [.ref x0] h P) (hm : m ≤ n) (w : ∀ h1 : q_Hp, P h1 → q_wp (n + 1) 161 112 [some (.ref x0), some (.int x1)] [] h1 Q) : q_wp (n + 1) 161 108 [some (.ref x0), some (.int x1)] [] h Q := by
  refine wp_loc rfl rfl ?_
  exact wp_callV (av := [.ref x0]) rfl rfl rfl (by decide) rfl rfl rfl hm hc w
theorem b161_112 {n : Nat} {h : q_Hp} {Q : Option Value → q_Hp → Prop} {x0 : Nat} {x1 : Int32} (w : q_wp n 161 120 [some (.ref x0), some (.int x1)] [] h Q) : q_wp n 161 112 [some (.ref x0), some (.int x1)] [] h Q := by
  refine wp_goto (tgt := 120) rfl (by decide) ?_
  exact w
theorem b161_115 {n : Nat} {h : q_Hp} {Q : Option Value → q_Hp → Prop} {x0 : Nat} {x1 : Int32} {m : Nat} {P : q_Hp → Prop} (hc : q_mV m 167 [.ref x0, .int 1] h P) (hm : m ≤ n) (w : ∀ h1 : q_Hp, P h1 → q_wp (n + 1) 161 120 [some (.ref x0), some (.int x1)] [] h1 Q) : q_wp (n + 1) 161 115 [some (.ref x0), some (.int x1)] [] h Q := by
  refine wp_loc rfl rfl ?_
  refine wp_iconst (v := 1) rfl (by decide) ?_
  exact wp_callV (av := [.ref x0, .int 1]) rfl rfl rfl (by decide) rfl rfl rfl hm hc w
theorem b161_120 {n : Nat} {h : q_Hp} {Q : Option Value → q_Hp → Prop} {x0 : Nat} {x1 : Int32} (w : q_wp n 161 32 [some (.ref x0), some (.int (x1 + 1))] [] h Q) : q_wp n 161 120 [some (.ref x0), some (.int x1)] [] h Q := by
  refine wp_iinc (v := 1) rfl rfl (by decide) rfl ?_
  refine wp_goto (tgt := 32) rfl (by decide) ?_
  exact w
theorem b161_126 {n : Nat} {h : q_Hp} {Q : Option Value → q_Hp → Prop} {x0 : Nat} {x1 : Int32} (k0 : q_ok h x0 8) (q : Q (some (.int (qI h x0 8))) h) : q_wp n 161 126 [some (.ref x0), some (.int x1)] [] h Q := by
  refine wp_loc rfl rfl ?_
  refine wp_getI rfl rfl rfl k0 ?_
  exact wp_ret rfl rfl q
theorem b162_0 {n : Nat} {h : q_Hp} {Q : Option Value → q_Hp → Prop} {x0 : Nat} (k0 : q_ok h x0 8) (wt : ¬ (qI h x0 8) = 0 → q_wp n 162 11 [some (.ref x0)] [] h Q) (wf : (qI h x0 8) = 0 → q_wp n 162 7 [some (.ref x0)] [] h Q) : q_wp n 162 0 [some (.ref x0)] [] h Q := by
  refine wp_loc rfl rfl ?_
  refine wp_getI rfl rfl rfl k0 ?_
  exact wp_ifne (tgt := 11) rfl (by decide) wt wf
theorem b162_7 {n : Nat} {h : q_Hp} {Q : Option Value → q_Hp → Prop} {x0 : Nat} (w : q_wp n 162 22 [some (.ref x0)] [.int (-1)] h Q) : q_wp n 162 7 [some (.ref x0)] [] h Q := by
  refine wp_iconst (v := (-1)) rfl (by decide) ?_
  refine wp_goto (tgt := 22) rfl (by decide) ?_
  exact w
theorem b162_11 {n : Nat} {h : q_Hp} {Q : Option Value → q_Hp → Prop} {x0 : Nat} {v0 : Nat} (k0 : q_ok h x0 8) (e0 : qR h x0 0 = v0) {m : Nat} {P : Int32 → q_Hp → Prop} (hc : q_mI m 189 [.ref v0, .int (qI h x0 7)] h P) (hm : m ≤ n) (w : ∀ (z : Int32) (h1 : q_Hp), P z h1 → q_wp (n + 1) 162 22 [some (.ref x0)] [.int z] h1 Q) : q_wp (n + 1) 162 11 [some (.ref x0)] [] h Q := by
  refine wp_loc rfl rfl ?_
  refine wp_getR rfl rfl rfl rfl k0 e0 ?_
  refine wp_loc rfl rfl ?_
  refine wp_getI rfl rfl rfl k0 ?_
  exact wp_callI (av := [.ref v0, .int (qI h x0 7)]) rfl rfl rfl (by decide) rfl rfl rfl hm hc w
theorem b162_22 {n : Nat} {h : q_Hp} {Q : Option Value → q_Hp → Prop} {x0 : Nat} {s0 : Int32} (q : Q (some (.int s0)) h) : q_wp n 162 22 [some (.ref x0)] [.int s0] h Q := by
  exact wp_ret rfl rfl q
theorem b163_0 {n : Nat} {h : q_Hp} {Q : Option Value → q_Hp → Prop} {x0 : Nat} (k0 : q_ok h x0 8) (q : Q (some (.int (qI h x0 5))) h) : q_wp n 163 0 [some (.ref x0)] [] h Q := by
  refine wp_loc rfl rfl ?_
  refine wp_getI rfl rfl rfl k0 ?_
  exact wp_ret rfl rfl q
theorem b164_0 {n : Nat} {h : q_Hp} {Q : Option Value → q_Hp → Prop} {x0 : Nat} (k0 : q_ok h x0 8) (q : Q (some (.int (qI h x0 6))) h) : q_wp n 164 0 [some (.ref x0)] [] h Q := by
  refine wp_loc rfl rfl ?_
  refine wp_getI rfl rfl rfl k0 ?_
  exact wp_ret rfl rfl q
theorem b165_0 {n : Nat} {h : q_Hp} {Q : Option Value → q_Hp → Prop} {x0 : Nat} {x1 : Int32} (wt : x1 < 0 → q_wp n 165 27 [some (.ref x0), some (.int x1)] [] h Q) (wf : ¬ x1 < 0 → q_wp n 165 4 [some (.ref x0), some (.int x1)] [] h Q) : q_wp n 165 0 [some (.ref x0), some (.int x1)] [] h Q := by
  refine wp_loc rfl rfl ?_
  exact wp_iflt (tgt := 27) rfl (by decide) wt wf
theorem b165_4 {n : Nat} {h : q_Hp} {Q : Option Value → q_Hp → Prop} {x0 : Nat} {x1 : Int32} (k0 : q_ok h x0 8) (wt : (qI h x0 5) ≤ x1 → q_wp n 165 27 [some (.ref x0), some (.int x1)] [] h Q) (wf : ¬ (qI h x0 5) ≤ x1 → q_wp n 165 12 [some (.ref x0), some (.int x1)] [] h Q) : q_wp n 165 4 [some (.ref x0), some (.int x1)] [] h Q := by
  refine wp_loc rfl rfl ?_
  refine wp_loc rfl rfl ?_
  refine wp_getI rfl rfl rfl k0 ?_
  exact wp_icge (tgt := 27) rfl (by decide) wt wf
theorem b165_12 {n : Nat} {h : q_Hp} {Q : Option Value → q_Hp → Prop} {x0 : Nat} {x1 : Int32} (wt : 20 ≤ x1 → q_wp n 165 27 [some (.ref x0), some (.int x1)] [] h Q) (wf : ¬ 20 ≤ x1 → q_wp n 165 18 [some (.ref x0), some (.int x1)] [] h Q) : q_wp n 165 12 [some (.ref x0), some (.int x1)] [] h Q := by
  refine wp_loc rfl rfl ?_
  refine wp_bipush (v := 20) rfl (by decide) ?_
  exact wp_icge (tgt := 27) rfl (by decide) wt wf
theorem b165_18 {n : Nat} {h : q_Hp} {Q : Option Value → q_Hp → Prop} {x0 : Nat} {x1 : Int32} {v0 : Nat} (k0 : q_ok h x0 8) (e0 : qR h x0 1 = v0) (k1 : q_ok h v0 21) (i0 : q_in x1 (qK h v0).2) (q : Q (some (.long (qL h v0 x1.toNatClampNeg))) h) : q_wp n 165 18 [some (.ref x0), some (.int x1)] [] h Q := by
  refine wp_loc rfl rfl ?_
  refine wp_getR rfl rfl rfl rfl k0 e0 ?_
  refine wp_loc rfl rfl ?_
  refine wp_lald rfl k1 i0 ?_
  refine wp_goto (tgt := 28) rfl (by decide) ?_
  exact wp_ret rfl rfl q
theorem b165_27 {n : Nat} {h : q_Hp} {Q : Option Value → q_Hp → Prop} {x0 : Nat} {x1 : Int32} (q : Q (some (.long 0)) h) : q_wp n 165 27 [some (.ref x0), some (.int x1)] [] h Q := by
  refine wp_lconst (v := 0) rfl (by decide) ?_
  exact wp_ret rfl rfl q
theorem b166_0 {n : Nat} {h : q_Hp} {Q : Option Value → q_Hp → Prop} {x0 : Nat} {x1 : Int32} (wt : x1 < 0 → q_wp n 166 27 [some (.ref x0), some (.int x1)] [] h Q) (wf : ¬ x1 < 0 → q_wp n 166 4 [some (.ref x0), some (.int x1)] [] h Q) : q_wp n 166 0 [some (.ref x0), some (.int x1)] [] h Q := by
  refine wp_loc rfl rfl ?_
  exact wp_iflt (tgt := 27) rfl (by decide) wt wf
theorem b166_4 {n : Nat} {h : q_Hp} {Q : Option Value → q_Hp → Prop} {x0 : Nat} {x1 : Int32} (k0 : q_ok h x0 8) (wt : (qI h x0 6) ≤ x1 → q_wp n 166 27 [some (.ref x0), some (.int x1)] [] h Q) (wf : ¬ (qI h x0 6) ≤ x1 → q_wp n 166 12 [some (.ref x0), some (.int x1)] [] h Q) : q_wp n 166 4 [some (.ref x0), some (.int x1)] [] h Q := by
  refine wp_loc rfl rfl ?_
  refine wp_loc rfl rfl ?_
  refine wp_getI rfl rfl rfl k0 ?_
  exact wp_icge (tgt := 27) rfl (by decide) wt wf
theorem b166_12 {n : Nat} {h : q_Hp} {Q : Option Value → q_Hp → Prop} {x0 : Nat} {x1 : Int32} (wt : 10 ≤ x1 → q_wp n 166 27 [some (.ref x0), some (.int x1)] [] h Q) (wf : ¬ 10 ≤ x1 → q_wp n 166 18 [some (.ref x0), some (.int x1)] [] h Q) : q_wp n 166 12 [some (.ref x0), some (.int x1)] [] h Q := by
  refine wp_loc rfl rfl ?_
  refine wp_bipush (v := 10) rfl (by decide) ?_
  exact wp_icge (tgt := 27) rfl (by decide) wt wf
theorem b166_18 {n : Nat} {h : q_Hp} {Q : Option Value → q_Hp → Prop} {x0 : Nat} {x1 : Int32} {v0 : Nat} (k0 : q_ok h x0 8) (e0 : qR h x0 2 = v0) (k1 : q_ok h v0 21) (i0 : q_in x1 (qK h v0).2) (q : Q (some (.long (qL h v0 x1.toNatClampNeg))) h) : q_wp n 166 18 [some (.ref x0), some (.int x1)] [] h Q := by
  refine wp_loc rfl rfl ?_
  refine wp_getR rfl rfl rfl rfl k0 e0 ?_
  refine wp_loc rfl rfl ?_
  refine wp_lald rfl k1 i0 ?_
  refine wp_goto (tgt := 28) rfl (by decide) ?_
  exact wp_ret rfl rfl q
theorem b166_27 {n : Nat} {h : q_Hp} {Q : Option Value → q_Hp → Prop} {x0 : Nat} {x1 : Int32} (q : Q (some (.long 0)) h) : q_wp n 166 27 [some (.ref x0), some (.int x1)] [] h Q := by
  refine wp_lconst (v := 0) rfl (by decide) ?_
  exact wp_ret rfl rfl q
theorem b167_0 {n : Nat} {h : q_Hp} {Q : Option Value → q_Hp → Prop} {x0 : Nat} {x1 : Int32} (k0 : q_ok h x0 8) (wt : ¬ (qI h x0 8) = 0 → q_wp n 167 12 [some (.ref x0), some (.int x1)] [] h Q) (wf : (qI h x0 8) = 0 → q_wp n 167 7 [some (.ref x0), some (.int x1)] [] h Q) : q_wp n 167 0 [some (.ref x0), some (.int x1)] [] h Q := by
  refine wp_loc rfl rfl ?_
  refine wp_getI rfl rfl rfl k0 ?_
  exact wp_ifne (tgt := 12) rfl (by decide) wt wf
theorem b167_7 {n : Nat} {h : q_Hp} {Q : Option Value → q_Hp → Prop} {x0 : Nat} {x1 : Int32} (k0 : q_ok h x0 8) (w : q_wp n 167 12 [some (.ref x0), some (.int x1)] [] (q_sI h x0 8 x1) Q) : q_wp n 167 7 [some (.ref x0), some (.int x1)] [] h Q := by
  refine wp_loc rfl rfl ?_
  refine wp_loc rfl rfl ?_
  refine wp_putI rfl rfl (Or.inl rfl) rfl (fun h9 => by cases h9) k0 ?_
  exact w
theorem b167_12 {n : Nat} {h : q_Hp} {Q : Option Value → q_Hp → Prop} {x0 : Nat} {x1 : Int32} (q : Q none h) : q_wp n 167 12 [some (.ref x0), some (.int x1)] [] h Q := by
  exact wp_ret rfl rfl q
theorem b168_0 {n : Nat} {h : q_Hp} {Q : Option Value → q_Hp → Prop} {x0 : Nat} {x1 : Int32} (k0 : q_ok h x0 8) (wt : ¬ (qI h x0 8) = 0 → q_wp n 168 26 [some (.ref x0), some (.int x1)] [] h Q) (wf : (qI h x0 8) = 0 → q_wp n 168 7 [some (.ref x0), some (.int x1)] [] h Q) : q_wp n 168 0 [some (.ref x0), some (.int x1)] [] h Q := by
  refine wp_loc rfl rfl ?_
  refine wp_getI rfl rfl rfl k0 ?_
  exact wp_ifne (tgt := 26) rfl (by decide) wt wf
theorem b168_7 {n : Nat} {h : q_Hp} {Q : Option Value → q_Hp → Prop} {x0 : Nat} {x1 : Int32} {v0 : Nat} (k0 : q_ok h x0 8) (e0 : qR h x0 0 = v0) {m : Nat} {P : Int32 → q_Hp → Prop} (hc : q_mI m 188 [.ref v0, .int (qI h x0 7)] h P) (hm : m ≤ n) (w : ∀ (z : Int32) (h1 : q_Hp), P z h1 → q_wp (n + 1) 168 18 [some (.ref x0), some (.int x1)] [.int z] h1 Q) : q_wp (n + 1) 168 7 [some (.ref x0), some (.int x1)] [] h Q := by
  refine wp_loc rfl rfl ?_
  refine wp_getR rfl rfl rfl rfl k0 e0 ?_
  refine wp_loc rfl rfl ?_
  refine wp_getI rfl rfl rfl k0 ?_
  exact wp_callI (av := [.ref v0, .int (qI h x0 7)]) rfl rfl rfl (by decide) rfl rfl rfl hm hc w
theorem b168_18 {n : Nat} {h : q_Hp} {Q : Option Value → q_Hp → Prop} {x0 : Nat} {x1 : Int32} {s0 : Int32} (wt : ¬ s0 = x1 → q_wp n 168 26 [some (.ref x0), some (.int x1)] [] h Q) (wf : s0 = x1 → q_wp n 168 22 [some (.ref x0), some (.int x1)] [] h Q) : q_wp n 168 18 [some (.ref x0), some (.int x1)] [.int s0] h Q := by
  refine wp_loc rfl rfl ?_
  exact wp_icne (tgt := 26) rfl (by decide) wt wf
theorem b168_22 {n : Nat} {h : q_Hp} {Q : Option Value → q_Hp → Prop} {x0 : Nat} {x1 : Int32} (q : Q (some (.int 1)) h) : q_wp n 168 22 [some (.ref x0), some (.int x1)] [] h Q := by
  refine wp_iconst (v := 1) rfl (by decide) ?_
  refine wp_goto (tgt := 27) rfl (by decide) ?_
  exact wp_ret (r := some (.int 1)) rfl rfl q
theorem b168_26 {n : Nat} {h : q_Hp} {Q : Option Value → q_Hp → Prop} {x0 : Nat} {x1 : Int32} (q : Q (some (.int 0)) h) : q_wp n 168 26 [some (.ref x0), some (.int x1)] [] h Q := by
  refine wp_iconst (v := 0) rfl (by decide) ?_
  exact wp_ret (r := some (.int 0)) rfl rfl q
theorem b169_0 {n : Nat} {h : q_Hp} {Q : Option Value → q_Hp → Prop} {x0 : Nat} (k0 : q_ok h x0 8) (wt : ¬ (qI h x0 8) = 0 → q_wp n 169 22 [some (.ref x0)] [] h Q) (wf : (qI h x0 8) = 0 → q_wp n 169 7 [some (.ref x0)] [] h Q) : q_wp n 169 0 [some (.ref x0)] [] h Q := by
  refine wp_loc rfl rfl ?_
  refine wp_getI rfl rfl rfl k0 ?_
  exact wp_ifne (tgt := 22) rfl (by decide) wt wf
theorem b169_7 {n : Nat} {h : q_Hp} {Q : Option Value → q_Hp → Prop} {x0 : Nat} (k0 : q_ok h x0 8) (wt : (qI h x0 7) < 1200 → q_wp n 169 22 [some (.ref x0)] [] h Q) (wf : ¬ (qI h x0 7) < 1200 → q_wp n 169 17 [some (.ref x0)] [] h Q) : q_wp n 169 7 [some (.ref x0)] [] h Q := by
  refine wp_loc rfl rfl ?_
  refine wp_getI rfl rfl rfl k0 ?_
  refine wp_sipush (v := 1200) rfl (by decide) ?_
  exact wp_iclt (tgt := 22) rfl (by decide) wt wf
theorem b169_17 {n : Nat} {h : q_Hp} {Q : Option Value → q_Hp → Prop} {x0 : Nat} (k0 : q_ok h x0 8) (w : q_wp n 169 22 [some (.ref x0)] [] (q_sI h x0 8 2) Q) : q_wp n 169 17 [some (.ref x0)] [] h Q := by
  refine wp_loc rfl rfl ?_
  refine wp_iconst (v := 2) rfl (by decide) ?_
  refine wp_putI rfl rfl (Or.inl rfl) rfl (fun h9 => by cases h9) k0 ?_
  exact w
theorem b169_22 {n : Nat} {h : q_Hp} {Q : Option Value → q_Hp → Prop} {x0 : Nat} (k0 : q_ok h x0 8) (wt : ¬ (qI h x0 8) = 0 → q_wp n 169 39 [some (.ref x0)] [] h Q) (wf : (qI h x0 8) = 0 → q_wp n 169 29 [some (.ref x0)] [] h Q) : q_wp n 169 22 [some (.ref x0)] [] h Q := by
  refine wp_loc rfl rfl ?_
  refine wp_getI rfl rfl rfl k0 ?_
  exact wp_ifne (tgt := 39) rfl (by decide) wt wf
theorem b169_29 {n : Nat} {h : q_Hp} {Q : Option Value → q_Hp → Prop} {x0 : Nat} (k0 : q_ok h x0 8) (w : q_wp n 169 39 [some (.ref x0)] [] (q_sI h x0 7 ((qI h x0 7) + 1)) Q) : q_wp n 169 29 [some (.ref x0)] [] h Q := by
  refine wp_loc rfl rfl ?_
  refine wp_stk rfl rfl rfl ?_
  refine wp_getI rfl rfl rfl k0 ?_
  refine wp_iconst (v := 1) rfl (by decide) ?_
  refine wp_stk rfl rfl rfl ?_
  refine wp_putI rfl rfl (Or.inl rfl) rfl (fun h9 => by cases h9) k0 ?_
  exact w
theorem b169_39 {n : Nat} {h : q_Hp} {Q : Option Value → q_Hp → Prop} {x0 : Nat} (q : Q none h) : q_wp n 169 39 [some (.ref x0)] [] h Q := by
  exact wp_ret rfl rfl q
theorem b170_0 {n : Nat} {h : q_Hp} {Q : Option Value → q_Hp → Prop} {x0 : Nat} {x1 : Int32} {m : Nat} {P : Int32 → q_Hp → Prop} (hc : q_mI m 168 [.ref x0, .int x1] h P) (hm : m ≤ n) (w : ∀ (z : Int32) (h1 : q_Hp), P z h1 → q_wp (n + 1) 170 5 [some (.ref x0), some (.int x1)] [.int z] h1 Q) : q_wp (n + 1) 170 0 [some (.ref x0), some (.int x1)] [] h Q := by
  refine wp_loc rfl rfl ?_
  refine wp_loc rfl rfl ?_
  exact wp_callI (av := [.ref x0, .int x1]) rfl rfl rfl (by decide) rfl rfl rfl hm hc w
theorem b170_5 {n : Nat} {h : q_Hp} {Q : Option Value → q_Hp → Prop} {x0 : Nat} {x1 : Int32} {s0 : Int32} (wt : s0 = 0 → q_wp n 170 15 [some (.ref x0), some (.int x1)] [] h Q) (wf : ¬ s0 = 0 → q_wp n 170 8 [some (.ref x0), some (.int x1)] [] h Q) : q_wp n 170 5 [some (.ref x0), some (.int x1)] [.int s0] h Q := by
  exact wp_ifeq (tgt := 15) rfl (by decide) wt wf
theorem b170_8 {n : Nat} {h : q_Hp} {Q : Option Value → q_Hp → Prop} {x0 : Nat} {x1 : Int32} {m : Nat} {P : q_Hp → Prop} (hc : q_mV m 169 [.ref x0] h P) (hm : m ≤ n) (w : ∀ h1 : q_Hp, P h1 → q_wp (n + 1) 170 12 [some (.ref x0), some (.int x1)] [] h1 Q) : q_wp (n + 1) 170 8 [some (.ref x0), some (.int x1)] [] h Q := by
  refine wp_loc rfl rfl ?_
  exact wp_callV (av := [.ref x0]) rfl rfl rfl (by decide) rfl rfl rfl hm hc w
theorem b170_12 {n : Nat} {h : q_Hp} {Q : Option Value → q_Hp → Prop} {x0 : Nat} {x1 : Int32} (w : q_wp n 170 20 [some (.ref x0), some (.int x1)] [] h Q) : q_wp n 170 12 [some (.ref x0), some (.int x1)] [] h Q := by
  refine wp_goto (tgt := 20) rfl (by decide) ?_
  exact w
theorem b170_15 {n : Nat} {h : q_Hp} {Q : Option Value → q_Hp → Prop} {x0 : Nat} {x1 : Int32} {m : Nat} {P : q_Hp → Prop} (hc : q_mV m 167 [.ref x0, .int 1] h P) (hm : m ≤ n) (w : ∀ h1 : q_Hp, P h1 → q_wp (n + 1) 170 20 [some (.ref x0), some (.int x1)] [] h1 Q) : q_wp (n + 1) 170 15 [some (.ref x0), some (.int x1)] [] h Q := by
  refine wp_loc rfl rfl ?_
  refine wp_iconst (v := 1) rfl (by decide) ?_
  exact wp_callV (av := [.ref x0, .int 1]) rfl rfl rfl (by decide) rfl rfl rfl hm hc w
theorem b170_20 {n : Nat} {h : q_Hp} {Q : Option Value → q_Hp → Prop} {x0 : Nat} {x1 : Int32} (q : Q none h) : q_wp n 170 20 [some (.ref x0), some (.int x1)] [] h Q := by
  exact wp_ret rfl rfl q
theorem b171_0 {n : Nat} {h : q_Hp} {Q : Option Value → q_Hp → Prop} {x0 : Nat} {x1 : Int32} (wt : ¬ x1 = 0 → q_wp n 171 9 [some (.ref x0), some (.int x1)] [] h Q) (wf : x1 = 0 → q_wp n 171 4 [some (.ref x0), some (.int x1)] [] h Q) : q_wp n 171 0 [some (.ref x0), some (.int x1)] [] h Q := by
  refine wp_loc rfl rfl ?_
  exact wp_ifne (tgt := 9) rfl (by decide) wt wf
theorem b171_4 {n : Nat} {h : q_Hp} {Q : Option Value → q_Hp → Prop} {x0 : Nat} {x1 : Int32} {m : Nat} {P : q_Hp → Prop} (hc : q_mV m 167 [.ref x0, .int 2] h P) (hm : m ≤ n) (w : ∀ h1 : q_Hp, P h1 → q_wp (n + 1) 171 9 [some (.ref x0), some (.int x1)] [] h1 Q) : q_wp (n + 1) 171 4 [some (.ref x0), some (.int x1)] [] h Q := by
  refine wp_loc rfl rfl ?_
  refine wp_iconst (v := 2) rfl (by decide) ?_
  exact wp_callV (av := [.ref x0, .int 2]) rfl rfl rfl (by decide) rfl rfl rfl hm hc w
theorem b171_9 {n : Nat} {h : q_Hp} {Q : Option Value → q_Hp → Prop} {x0 : Nat} {x1 : Int32} (q : Q none h) : q_wp n 171 9 [some (.ref x0), some (.int x1)] [] h Q := by
  exact wp_ret rfl rfl q
theorem b172_0 {n : Nat} {h : q_Hp} {Q : Option Value → q_Hp → Prop} {x0 : Nat} {x1 : Int32} {m : Nat} {P : Int32 → q_Hp → Prop} (hc : q_mI m 168 [.ref x0, .int 40] h P) (hm : m ≤ n) (w : ∀ (z : Int32) (h1 : q_Hp), P z h1 → q_wp (n + 1) 172 6 [some (.ref x0), some (.int x1)] [.int z] h1 Q) : q_wp (n + 1) 172 0 [some (.ref x0), some (.int x1)] [] h Q := by
  refine wp_loc rfl rfl ?_
  refine wp_bipush (v := 40) rfl (by decide) ?_
  exact wp_callI (av := [.ref x0, .int 40]) rfl rfl rfl (by decide) rfl rfl rfl hm hc w
theorem b172_6 {n : Nat} {h : q_Hp} {Q : Option Value → q_Hp → Prop} {x0 : Nat} {x1 : Int32} {s0 : Int32} (wt : s0 = 0 → q_wp n 172 14 [some (.ref x0), some (.int x1)] [] h Q) (wf : ¬ s0 = 0 → q_wp n 172 9 [some (.ref x0), some (.int x1)] [] h Q) : q_wp n 172 6 [some (.ref x0), some (.int x1)] [.int s0] h Q := by
  exact wp_ifeq (tgt := 14) rfl (by decide) wt wf
theorem b172_9 {n : Nat} {h : q_Hp} {Q : Option Value → q_Hp → Prop} {x0 : Nat} {x1 : Int32} {m : Nat} {P : q_Hp → Prop} (hc : q_mV m 171 [.ref x0, .int x1] h P) (hm : m ≤ n) (w : ∀ h1 : q_Hp, P h1 → q_wp (n + 1) 172 14 [some (.ref x0), some (.int x1)] [] h1 Q) : q_wp (n + 1) 172 9 [some (.ref x0), some (.int x1)] [] h Q := by
  refine wp_loc rfl rfl ?_
  refine wp_loc rfl rfl ?_
  exact wp_callV (av := [.ref x0, .int x1]) rfl rfl rfl (by decide) rfl rfl rfl hm hc w
theorem b172_14 {n : Nat} {h : q_Hp} {Q : Option Value → q_Hp → Prop} {x0 : Nat} {x1 : Int32} {m : Nat} {P : q_Hp → Prop} (hc : q_mV m 170 [.ref x0, .int 40] h P) (hm : m ≤ n) (w : ∀ h1 : q_Hp, P h1 → q_wp (n + 1) 172 20 [some (.ref x0), some (.int x1)] [] h1 Q) : q_wp (n + 1) 172 14 [some (.ref x0), some (.int x1)] [] h Q := by
  refine wp_loc rfl rfl ?_
  refine wp_bipush (v := 40) rfl (by decide) ?_
  exact wp_callV (av := [.ref x0, .int 40]) rfl rfl rfl (by decide) rfl rfl rfl hm hc w
theorem b172_20 {n : Nat} {h : q_Hp} {Q : Option Value → q_Hp → Prop} {x0 : Nat} {x1 : Int32} (q : Q none h) : q_wp n 172 20 [some (.ref x0), some (.int x1)] [] h Q := by
  exact wp_ret rfl rfl q
theorem b173_0 {n : Nat} {h : q_Hp} {Q : Option Value → q_Hp → Prop} {x0 : Nat} {m : Nat} {P : q_Hp → Prop} (hc : q_mV m 169 [.ref x0] h P) (hm : m ≤ n) (w : ∀ h1 : q_Hp, P h1 → q_wp (n + 1) 173 4 [some (.ref x0)] [] h1 Q) : q_wp (n + 1) 173 0 [some (.ref x0)] [] h Q := by
  refine wp_loc rfl rfl ?_
  exact wp_callV (av := [.ref x0]) rfl rfl rfl (by decide) rfl rfl rfl hm hc w
theorem b173_4 {n : Nat} {h : q_Hp} {Q : Option Value → q_Hp → Prop} {x0 : Nat} (k0 : q_ok h x0 8) (wt : 12 ≤ (qI h x0 3) → q_wp n 173 18 [some (.ref x0)] [.ref x0] h Q) (wf : ¬ 12 ≤ (qI h x0 3) → q_wp n 173 14 [some (.ref x0)] [.ref x0] h Q) : q_wp n 173 4 [some (.ref x0)] [] h Q := by
  refine wp_loc rfl rfl ?_
  refine wp_loc rfl rfl ?_
  refine wp_getI rfl rfl rfl k0 ?_
  refine wp_bipush (v := 12) rfl (by decide) ?_
  exact wp_icge (tgt := 18) rfl (by decide) wt wf
theorem b173_14 {n : Nat} {h : q_Hp} {Q : Option Value → q_Hp → Prop} {x0 : Nat} {s0 : Nat} (w : q_wp n 173 19 [some (.ref x0)] [.int 1, .ref s0] h Q) : q_wp n 173 14 [some (.ref x0)] [.ref s0] h Q := by
  refine wp_iconst (v := 1) rfl (by decide) ?_
  refine wp_goto (tgt := 19) rfl (by decide) ?_
  exact w
theorem b173_18 {n : Nat} {h : q_Hp} {Q : Option Value → q_Hp → Prop} {x0 : Nat} {s0 : Nat} (w : q_wp n 173 19 [some (.ref x0)] [.int 0, .ref s0] h Q) : q_wp n 173 18 [some (.ref x0)] [.ref s0] h Q := by
  refine wp_iconst (v := 0) rfl (by decide) ?_
  exact w
theorem b173_19 {n : Nat} {h : q_Hp} {Q : Option Value → q_Hp → Prop} {x0 : Nat} {s0 : Int32} {s1 : Nat} {m : Nat} {P : q_Hp → Prop} (hc : q_mV m 172 [.ref s1, .int s0] h P) (hm : m ≤ n) (w : ∀ h1 : q_Hp, P h1 → q_wp (n + 1) 173 22 [some (.ref x0)] [] h1 Q) : q_wp (n + 1) 173 19 [some (.ref x0)] [.int s0, .ref s1] h Q := by
  exact wp_callV (av := [.ref s1, .int s0]) rfl rfl rfl (by decide) rfl rfl rfl hm hc w
theorem b173_22 {n : Nat} {h : q_Hp} {Q : Option Value → q_Hp → Prop} {x0 : Nat} (k0 : q_ok h x0 8) {m : Nat} {P : Int32 → q_Hp → Prop} (hc : q_mI m 168 [.ref x0, .int 1] (q_sI h x0 3 ((qI h x0 3) + 1)) P) (hm : m ≤ n) (w : ∀ (z : Int32) (h1 : q_Hp), P z h1 → q_wp (n + 1) 173 37 [some (.ref x0)] [.int z] h1 Q) : q_wp (n + 1) 173 22 [some (.ref x0)] [] h Q := by
  refine wp_loc rfl rfl ?_
  refine wp_stk rfl rfl rfl ?_
  refine wp_getI rfl rfl rfl k0 ?_
  refine wp_iconst (v := 1) rfl (by decide) ?_
  refine wp_stk rfl rfl rfl ?_
  refine wp_putI rfl rfl (Or.inl rfl) rfl (fun h9 => by cases h9) k0 ?_
  refine wp_loc rfl rfl ?_
  refine wp_iconst (v := 1) rfl (by decide) ?_
  exact wp_callI (av := [.ref x0, .int 1]) rfl rfl rfl (by decide) rfl rfl rfl hm hc w
theorem b173_37 {n : Nat} {h : q_Hp} {Q : Option Value → q_Hp → Prop} {x0 : Nat} {s0 : Int32} (wt : s0 = 0 → q_wp n 173 50 [some (.ref x0)] [] h Q) (wf : ¬ s0 = 0 → q_wp n 173 40 [some (.ref x0)] [] h Q) : q_wp n 173 37 [some (.ref x0)] [.int s0] h Q := by
  exact wp_ifeq (tgt := 50) rfl (by decide) wt wf
theorem b173_40 {n : Nat} {h : q_Hp} {Q : Option Value → q_Hp → Prop} {x0 : Nat} {m : Nat} {P : q_Hp → Prop} (hc : q_mV m 169 [.ref x0] h P) (hm : m ≤ n) (w : ∀ h1 : q_Hp, P h1 → q_wp (n + 1) 173 44 [some (.ref x0)] [] h1 Q) : q_wp (n + 1) 173 40 [some (.ref x0)] [] h Q := by
  refine wp_loc rfl rfl ?_
  exact wp_callV (av := [.ref x0]) rfl rfl rfl (by decide) rfl rfl rfl hm hc w
theorem b173_44 {n : Nat} {h : q_Hp} {Q : Option Value → q_Hp → Prop} {x0 : Nat} {m : Nat} {P : q_Hp → Prop} (hc : q_mV m 170 [.ref x0, .int 40] h P) (hm : m ≤ n) (w : ∀ h1 : q_Hp, P h1 → q_wp (n + 1) 173 50 [some (.ref x0)] [] h1 Q) : q_wp (n + 1) 173 44 [some (.ref x0)] [] h Q := by
  refine wp_loc rfl rfl ?_
  refine wp_bipush (v := 40) rfl (by decide) ?_
  exact wp_callV (av := [.ref x0, .int 40]) rfl rfl rfl (by decide) rfl rfl rfl hm hc w
theorem b173_50 {n : Nat} {h : q_Hp} {Q : Option Value → q_Hp → Prop} {x0 : Nat} {m : Nat} {P : q_Hp → Prop} (hc : q_mV m 170 [.ref x0, .int 26] h P) (hm : m ≤ n) (w : ∀ h1 : q_Hp, P h1 → q_wp (n + 1) 173 56 [some (.ref x0)] [] h1 Q) : q_wp (n + 1) 173 50 [some (.ref x0)] [] h Q := by
  refine wp_loc rfl rfl ?_
  refine wp_bipush (v := 26) rfl (by decide) ?_
  exact wp_callV (av := [.ref x0, .int 26]) rfl rfl rfl (by decide) rfl rfl rfl hm hc w
theorem b173_56 {n : Nat} {h : q_Hp} {Q : Option Value → q_Hp → Prop} {x0 : Nat} (q : Q none h) : q_wp n 173 56 [some (.ref x0)] [] h Q := by
  exact wp_ret rfl rfl q
theorem b174_0 {n : Nat} {h : q_Hp} {Q : Option Value → q_Hp → Prop} {x0 : Nat} {m : Nat} {P : q_Hp → Prop} (hc : q_mV m 169 [.ref x0] h P) (hm : m ≤ n) (w : ∀ h1 : q_Hp, P h1 → q_wp (n + 1) 174 4 [some (.ref x0)] [] h1 Q) : q_wp (n + 1) 174 0 [some (.ref x0)] [] h Q := by
  refine wp_loc rfl rfl ?_
  exact wp_callV (av := [.ref x0]) rfl rfl rfl (by decide) rfl rfl rfl hm hc w
theorem b174_4 {n : Nat} {h : q_Hp} {Q : Option Value → q_Hp → Prop} {x0 : Nat} (k0 : q_ok h x0 8) (wt : 12 ≤ (qI h x0 4) → q_wp n 174 18 [some (.ref x0)] [.ref x0] h Q) (wf : ¬ 12 ≤ (qI h x0 4) → q_wp n 174 14 [some (.ref x0)] [.ref x0] h Q) : q_wp n 174 4 [some (.ref x0)] [] h Q := by
  refine wp_loc rfl rfl ?_
  refine wp_loc rfl rfl ?_
  refine wp_getI rfl rfl rfl k0 ?_
  refine wp_bipush (v := 12) rfl (by decide) ?_
  exact wp_icge (tgt := 18) rfl (by decide) wt wf
theorem b174_14 {n : Nat} {h : q_Hp} {Q : Option Value → q_Hp → Prop} {x0 : Nat} {s0 : Nat} (w : q_wp n 174 19 [some (.ref x0)] [.int 1, .ref s0] h Q) : q_wp n 174 14 [some (.ref x0)] [.ref s0] h Q := by
  refine wp_iconst (v := 1) rfl (by decide) ?_
  refine wp_goto (tgt := 19) rfl (by decide) ?_
  exact w
theorem b174_18 {n : Nat} {h : q_Hp} {Q : Option Value → q_Hp → Prop} {x0 : Nat} {s0 : Nat} (w : q_wp n 174 19 [some (.ref x0)] [.int 0, .ref s0] h Q) : q_wp n 174 18 [some (.ref x0)] [.ref s0] h Q := by
  refine wp_iconst (v := 0) rfl (by decide) ?_
  exact w
theorem b174_19 {n : Nat} {h : q_Hp} {Q : Option Value → q_Hp → Prop} {x0 : Nat} {s0 : Int32} {s1 : Nat} {m : Nat} {P : q_Hp → Prop} (hc : q_mV m 172 [.ref s1, .int s0] h P) (hm : m ≤ n) (w : ∀ h1 : q_Hp, P h1 → q_wp (n + 1) 174 22 [some (.ref x0)] [] h1 Q) : q_wp (n + 1) 174 19 [some (.ref x0)] [.int s0, .ref s1] h Q := by
  exact wp_callV (av := [.ref s1, .int s0]) rfl rfl rfl (by decide) rfl rfl rfl hm hc w
theorem b174_22 {n : Nat} {h : q_Hp} {Q : Option Value → q_Hp → Prop} {x0 : Nat} (k0 : q_ok h x0 8) {m : Nat} {P : q_Hp → Prop} (hc : q_mV m 170 [.ref x0, .int 25] (q_sI h x0 4 ((qI h x0 4) + 1)) P) (hm : m ≤ n) (w : ∀ h1 : q_Hp, P h1 → q_wp (n + 1) 174 38 [some (.ref x0)] [] h1 Q) : q_wp (n + 1) 174 22 [some (.ref x0)] [] h Q := by
  refine wp_loc rfl rfl ?_
  refine wp_stk rfl rfl rfl ?_
  refine wp_getI rfl rfl rfl k0 ?_
  refine wp_iconst (v := 1) rfl (by decide) ?_
  refine wp_stk rfl rfl rfl ?_
  refine wp_putI rfl rfl (Or.inl rfl) rfl (fun h9 => by cases h9) k0 ?_
  refine wp_loc rfl rfl ?_
  refine wp_bipush (v := 25) rfl (by decide) ?_
  exact wp_callV (av := [.ref x0, .int 25]) rfl rfl rfl (by decide) rfl rfl rfl hm hc w
theorem b174_38 {n : Nat} {h : q_Hp} {Q : Option Value → q_Hp → Prop} {x0 : Nat} {m : Nat} {P : q_Hp → Prop} (hc : q_mV m 170 [.ref x0, .int 40] h P) (hm : m ≤ n) (w : ∀ h1 : q_Hp, P h1 → q_wp (n + 1) 174 44 [some (.ref x0)] [] h1 Q) : q_wp (n + 1) 174 38 [some (.ref x0)] [] h Q := by
  refine wp_loc rfl rfl ?_
  refine wp_bipush (v := 40) rfl (by decide) ?_
  exact wp_callV (av := [.ref x0, .int 40]) rfl rfl rfl (by decide) rfl rfl rfl hm hc w
theorem b174_44 {n : Nat} {h : q_Hp} {Q : Option Value → q_Hp → Prop} {x0 : Nat} {m : Nat} {P : q_Hp → Prop} (hc : q_mV m 170 [.ref x0, .int 39] h P) (hm : m ≤ n) (w : ∀ h1 : q_Hp, P h1 → q_wp (n + 1) 174 50 [some (.ref x0)] [] h1 Q) : q_wp (n + 1) 174 44 [some (.ref x0)] [] h Q := by
  refine wp_loc rfl rfl ?_
  refine wp_bipush (v := 39) rfl (by decide) ?_
  exact wp_callV (av := [.ref x0, .int 39]) rfl rfl rfl (by decide) rfl rfl rfl hm hc w
theorem b174_50 {n : Nat} {h : q_Hp} {Q : Option Value → q_Hp → Prop} {x0 : Nat} {m : Nat} {P : q_Hp → Prop} (hc : q_mV m 170 [.ref x0, .int 40] h P) (hm : m ≤ n) (w : ∀ h1 : q_Hp, P h1 → q_wp (n + 1) 174 56 [some (.ref x0)] [] h1 Q) : q_wp (n + 1) 174 50 [some (.ref x0)] [] h Q := by
  refine wp_loc rfl rfl ?_
  refine wp_bipush (v := 40) rfl (by decide) ?_
  exact wp_callV (av := [.ref x0, .int 40]) rfl rfl rfl (by decide) rfl rfl rfl hm hc w
theorem b174_56 {n : Nat} {h : q_Hp} {Q : Option Value → q_Hp → Prop} {x0 : Nat} {m : Nat} {P : q_Hp → Prop} (hc : q_mV m 170 [.ref x0, .int 26] h P) (hm : m ≤ n) (w : ∀ h1 : q_Hp, P h1 → q_wp (n + 1) 174 62 [some (.ref x0)] [] h1 Q) : q_wp (n + 1) 174 56 [some (.ref x0)] [] h Q := by
  refine wp_loc rfl rfl ?_
  refine wp_bipush (v := 26) rfl (by decide) ?_
  exact wp_callV (av := [.ref x0, .int 26]) rfl rfl rfl (by decide) rfl rfl rfl hm hc w
theorem b174_62 {n : Nat} {h : q_Hp} {Q : Option Value → q_Hp → Prop} {x0 : Nat} (q : Q none h) : q_wp n 174 62 [some (.ref x0)] [] h Q := by
  exact wp_ret rfl rfl q
theorem b175_0 {n : Nat} {h : q_Hp} {Q : Option Value → q_Hp → Prop} {x0 : Nat} {m : Nat} {P : q_Hp → Prop} (hc : q_mV m 169 [.ref x0] h P) (hm : m ≤ n) (w : ∀ h1 : q_Hp, P h1 → q_wp (n + 1) 175 4 [some (.ref x0), none, none, none] [] h1 Q) : q_wp (n + 1) 175 0 [some (.ref x0), none, none, none] [] h Q := by
  refine wp_loc rfl rfl ?_
  exact wp_callV (av := [.ref x0]) rfl rfl rfl (by decide) rfl rfl rfl hm hc w
theorem b175_4 {n : Nat} {h : q_Hp} {Q : Option Value → q_Hp → Prop} {x0 : Nat} {v0 : Nat} (k0 : q_ok h x0 8) (e0 : qR h x0 0 = v0) {m : Nat} {P : Int64 → q_Hp → Prop} (hc : q_mJ m 190 [.ref v0, .int (qI h x0 7)] h P) (hm : m ≤ n) (w : ∀ (z : Int64) (h1 : q_Hp), P z h1 → q_wp (n + 1) 175 15 [some (.ref x0), none, none, none] [.long z] h1 Q) : q_wp (n + 1) 175 4 [some (.ref x0), none, none, none] [] h Q := by
  refine wp_loc rfl rfl ?_
  refine wp_getR rfl rfl rfl rfl k0 e0 ?_
  refine wp_loc rfl rfl ?_
  refine wp_getI rfl rfl rfl k0 ?_
  exact wp_callJ (av := [.ref v0, .int (qI h x0 7)]) rfl rfl rfl (by decide) rfl rfl rfl hm hc w
theorem b175_15 {n : Nat} {h : q_Hp} {Q : Option Value → q_Hp → Prop} {x0 : Nat} {s0 : Int64} (k0 : q_ok h x0 8) (wt : 20 ≤ (qI h x0 5) → q_wp n 175 30 [some (.ref x0), some (.long s0), none, none] [.ref x0] h Q) (wf : ¬ 20 ≤ (qI h x0 5) → q_wp n 175 26 [some (.ref x0), some (.long s0), none, none] [.ref x0] h Q) : q_wp n 175 15 [some (.ref x0), none, none, none] [.long s0] h Q := by
  refine wp_loc rfl rfl ?_
  refine wp_loc rfl rfl ?_
  refine wp_loc rfl rfl ?_
  refine wp_getI rfl rfl rfl k0 ?_
  refine wp_bipush (v := 20) rfl (by decide) ?_
  exact wp_icge (tgt := 30) rfl (by decide) wt wf
theorem b175_26 {n : Nat} {h : q_Hp} {Q : Option Value → q_Hp → Prop} {x0 : Nat} {x1 : Int64} {s0 : Nat} (w : q_wp n 175 31 [some (.ref x0), some (.long x1), none, none] [.int 1, .ref s0] h Q) : q_wp n 175 26 [some (.ref x0), some (.long x1), none, none] [.ref s0] h Q := by
  refine wp_iconst (v := 1) rfl (by decide) ?_
  refine wp_goto (tgt := 31) rfl (by decide) ?_
  exact w
theorem b175_30 {n : Nat} {h : q_Hp} {Q : Option Value → q_Hp → Prop} {x0 : Nat} {x1 : Int64} {s0 : Nat} (w : q_wp n 175 31 [some (.ref x0), some (.long x1), none, none] [.int 0, .ref s0] h Q) : q_wp n 175 30 [some (.ref x0), some (.long x1), none, none] [.ref s0] h Q := by
  refine wp_iconst (v := 0) rfl (by decide) ?_
  exact w
theorem b175_31 {n : Nat} {h : q_Hp} {Q : Option Value → q_Hp → Prop} {x0 : Nat} {x1 : Int64} {s0 : Int32} {s1 : Nat} {m : Nat} {P : q_Hp → Prop} (hc : q_mV m 172 [.ref s1, .int s0] h P) (hm : m ≤ n) (w : ∀ h1 : q_Hp, P h1 → q_wp (n + 1) 175 34 [some (.ref x0), some (.long x1), none, none] [] h1 Q) : q_wp (n + 1) 175 31 [some (.ref x0), some (.long x1), none, none] [.int s0, .ref s1] h Q := by
  exact wp_callV (av := [.ref s1, .int s0]) rfl rfl rfl (by decide) rfl rfl rfl hm hc w
theorem b175_34 {n : Nat} {h : q_Hp} {Q : Option Value → q_Hp → Prop} {x0 : Nat} {x1 : Int64} (k0 : q_ok h x0 8) (wt : 20 ≤ (qI h x0 5) → q_wp n 175 63 [some (.ref x0), some (.long x1), none, none] [] h Q) (wf : ¬ 20 ≤ (qI h x0 5) → q_wp n 175 43 [some (.ref x0), some (.long x1), none, none] [] h Q) : q_wp n 175 34 [some (.ref x0), some (.long x1), none, none] [] h Q := by
  refine wp_loc rfl rfl ?_
  refine wp_getI rfl rfl rfl k0 ?_
  refine wp_bipush (v := 20) rfl (by decide) ?_
  exact wp_icge (tgt := 63) rfl (by decide) wt wf
theorem b175_43 {n : Nat} {h : q_Hp} {Q : Option Value → q_Hp → Prop} {x0 : Nat} {x1 : Int64} {v0 : Nat} (k0 : q_ok h x0 8) (e0 : qR h x0 1 = v0) (k1 : q_ok h v0 21) (i0 : q_in (qI h x0 5) (qK h v0).2) (w : q_wp n 175 63 [some (.ref x0), some (.long x1), none, none] [] (q_sI (q_sL h v0 ((qI h x0 5 : Int32).toNatClampNeg) x1) x0 5 ((qI h x0 5) + 1)) Q) : q_wp n 175 43 [some (.ref x0), some (.long x1), none, none] [] h Q := by
  refine wp_loc rfl rfl ?_
  refine wp_getR rfl rfl rfl rfl k0 e0 ?_
  refine wp_loc rfl rfl ?_
  refine wp_getI rfl rfl rfl k0 ?_
  refine wp_loc rfl rfl ?_
  refine wp_last rfl k1 i0 ?_
  refine wp_loc rfl rfl ?_
  refine wp_stk rfl rfl rfl ?_
  refine wp_getI rfl rfl rfl k0 ?_
  refine wp_iconst (v := 1) rfl (by decide) ?_
  refine wp_stk rfl rfl rfl ?_
  refine wp_putI rfl rfl (Or.inl rfl) rfl (fun h9 => by cases h9) k0 ?_
  exact w
theorem b175_63 {n : Nat} {h : q_Hp} {Q : Option Value → q_Hp → Prop} {x0 : Nat} {x1 : Int64} {m : Nat} {P : q_Hp → Prop} (hc : q_mV m 176 [.ref x0, .int 4, .int 6, .int 1] h P) (hm : m ≤ n) (w : ∀ h1 : q_Hp, P h1 → q_wp (n + 1) 175 71 [some (.ref x0), some (.long x1), none, none] [] h1 Q) : q_wp (n + 1) 175 63 [some (.ref x0), some (.long x1), none, none] [] h Q := by
  refine wp_loc rfl rfl ?_
  refine wp_iconst (v := 4) rfl (by decide) ?_
  refine wp_bipush (v := 6) rfl (by decide) ?_
  refine wp_iconst (v := 1) rfl (by decide) ?_
  exact wp_callV (av := [.ref x0, .int 4, .int 6, .int 1]) rfl rfl rfl (by decide) rfl rfl rfl hm hc w
theorem b175_71 {n : Nat} {h : q_Hp} {Q : Option Value → q_Hp → Prop} {x0 : Nat} {x1 : Int64} (w : q_wp n 175 73 [some (.ref x0), some (.long x1), none, some (.int 0)] [] h Q) : q_wp n 175 71 [some (.ref x0), some (.long x1), none, none] [] h Q := by
  refine wp_iconst (v := 0) rfl (by decide) ?_
  refine wp_loc rfl rfl ?_
  exact w
theorem b175_73 {n : Nat} {h : q_Hp} {Q : Option Value → q_Hp → Prop} {x0 : Nat} {x1 : Int64} {x3 : Int32} (wt : 2 < x3 → q_wp n 175 123 [some (.ref x0), some (.long x1), none, some (.int x3)] [] h Q) (wf : ¬ 2 < x3 → q_wp n 175 78 [some (.ref x0), some (.long x1), none, some (.int x3)] [] h Q) : q_wp n 175 73 [some (.ref x0), some (.long x1), none, some (.int x3)] [] h Q := by
  refine wp_loc rfl rfl ?_
  refine wp_iconst (v := 2) rfl (by decide) ?_
  exact wp_icgt (tgt := 123) rfl (by decide) wt wf
theorem b175_78 {n : Nat} {h : q_Hp} {Q : Option Value → q_Hp → Prop} {x0 : Nat} {x1 : Int64} {x3 : Int32} {m : Nat} {P : Int32 → q_Hp → Prop} (hc : q_mI m 168 [.ref x0, .int 9] h P) (hm : m ≤ n) (w : ∀ (z : Int32) (h1 : q_Hp), P z h1 → q_wp (n + 1) 175 84 [some (.ref x0), some (.long x1), none, some (.int x3)] [.int z] h1 Q) : q_wp (n + 1) 175 78 [some (.ref x0), some (.long x1), none, some (.int x3)] [] h Q := by
  refine wp_loc rfl rfl ?_
  refine wp_bipush (v := 9) rfl (by decide) ?_
  exact wp_callI (av := [.ref x0, .int 9]) rfl rfl rfl (by decide) rfl rfl rfl hm hc w
theorem b175_84 {n : Nat} {h : q_Hp} {Q : Option Value → q_Hp → Prop} {x0 : Nat} {x1 : Int64} {x3 : Int32} {s0 : Int32} (wt : s0 = 0 → q_wp n 175 123 [some (.ref x0), some (.long x1), none, some (.int x3)] [] h Q) (wf : ¬ s0 = 0 → q_wp n 175 87 [some (.ref x0), some (.long x1), none, some (.int x3)] [] h Q) : q_wp n 175 84 [some (.ref x0), some (.long x1), none, some (.int x3)] [.int s0] h Q := by
  exact wp_ifeq (tgt := 123) rfl (by decide) wt wf
theorem b175_87 {n : Nat} {h : q_Hp} {Q : Option Value → q_Hp → Prop} {x0 : Nat} {x1 : Int64} {x3 : Int32} (wt : 2 ≤ x3 → q_wp n 175 97 [some (.ref x0), some (.long x1), none, some (.int x3)] [.ref x0] h Q) (wf : ¬ 2 ≤ x3 → q_wp n 175 93 [some (.ref x0), some (.long x1), none, some (.int x3)] [.ref x0] h Q) : q_wp n 175 87 [some (.ref x0), some (.long x1), none, some (.int x3)] [] h Q := by
  refine wp_loc rfl rfl ?_
  refine wp_loc rfl rfl ?_
  refine wp_iconst (v := 2) rfl (by decide) ?_
  exact wp_icge (tgt := 97) rfl (by decide) wt wf
theorem b175_93 {n : Nat} {h : q_Hp} {Q : Option Value → q_Hp → Prop} {x0 : Nat} {x1 : Int64} {x3 : Int32} {s0 : Nat} (w : q_wp n 175 98 [some (.ref x0), some (.long x1), none, some (.int x3)] [.int 1, .ref s0] h Q) : q_wp n 175 93 [some (.ref x0), some (.long x1), none, some (.int x3)] [.ref s0] h Q := by
  refine wp_iconst (v := 1) rfl (by decide) ?_
  refine wp_goto (tgt := 98) rfl (by decide) ?_
  exact w
theorem b175_97 {n : Nat} {h : q_Hp} {Q : Option Value → q_Hp → Prop} {x0 : Nat} {x1 : Int64} {x3 : Int32} {s0 : Nat} (w : q_wp n 175 98 [some (.ref x0), some (.long x1), none, some (.int x3)] [.int 0, .ref s0] h Q) : q_wp n 175 97 [some (.ref x0), some (.long x1), none, some (.int x3)] [.ref s0] h Q := by
  refine wp_iconst (v := 0) rfl (by decide) ?_
  exact w
theorem b175_98 {n : Nat} {h : q_Hp} {Q : Option Value → q_Hp → Prop} {x0 : Nat} {x1 : Int64} {x3 : Int32} {s0 : Int32} {s1 : Nat} {m : Nat} {P : q_Hp → Prop} (hc : q_mV m 171 [.ref s1, .int s0] h P) (hm : m ≤ n) (w : ∀ h1 : q_Hp, P h1 → q_wp (n + 1) 175 101 [some (.ref x0), some (.long x1), none, some (.int x3)] [] h1 Q) : q_wp (n + 1) 175 98 [some (.ref x0), some (.long x1), none, some (.int x3)] [.int s0, .ref s1] h Q := by
  exact wp_callV (av := [.ref s1, .int s0]) rfl rfl rfl (by decide) rfl rfl rfl hm hc w
theorem b175_101 {n : Nat} {h : q_Hp} {Q : Option Value → q_Hp → Prop} {x0 : Nat} {x1 : Int64} {x3 : Int32} {m : Nat} {P : q_Hp → Prop} (hc : q_mV m 169 [.ref x0] h P) (hm : m ≤ n) (w : ∀ h1 : q_Hp, P h1 → q_wp (n + 1) 175 105 [some (.ref x0), some (.long x1), none, some (.int x3)] [] h1 Q) : q_wp (n + 1) 175 101 [some (.ref x0), some (.long x1), none, some (.int x3)] [] h Q := by
  refine wp_loc rfl rfl ?_
  exact wp_callV (av := [.ref x0]) rfl rfl rfl (by decide) rfl rfl rfl hm hc w
theorem b175_105 {n : Nat} {h : q_Hp} {Q : Option Value → q_Hp → Prop} {x0 : Nat} {x1 : Int64} {x3 : Int32} {m : Nat} {P : q_Hp → Prop} (hc : q_mV m 176 [.ref x0, .int 1, .int 3, .int 0] h P) (hm : m ≤ n) (w : ∀ h1 : q_Hp, P h1 → q_wp (n + 1) 175 112 [some (.ref x0), some (.long x1), none, some (.int x3)] [] h1 Q) : q_wp (n + 1) 175 105 [some (.ref x0), some (.long x1), none, some (.int x3)] [] h Q := by
  refine wp_loc rfl rfl ?_
  refine wp_iconst (v := 1) rfl (by decide) ?_
  refine wp_iconst (v := 3) rfl (by decide) ?_
  refine wp_iconst (v := 0) rfl (by decide) ?_
  exact wp_callV (av := [.ref x0, .int 1, .int 3, .int 0]) rfl rfl rfl (by decide) rfl rfl rfl hm hc w
theorem b175_112 {n : Nat} {h : q_Hp} {Q : Option Value → q_Hp → Prop} {x0 : Nat} {x1 : Int64} {x3 : Int32} {m : Nat} {P : q_Hp → Prop} (hc : q_mV m 170 [.ref x0, .int 5] h P) (hm : m ≤ n) (w : ∀ h1 : q_Hp, P h1 → q_wp (n + 1) 175 117 [some (.ref x0), some (.long x1), none, some (.int x3)] [] h1 Q) : q_wp (n + 1) 175 112 [some (.ref x0), some (.long x1), none, some (.int x3)] [] h Q := by
  refine wp_loc rfl rfl ?_
  refine wp_iconst (v := 5) rfl (by decide) ?_
  exact wp_callV (av := [.ref x0, .int 5]) rfl rfl rfl (by decide) rfl rfl rfl hm hc w
theorem b175_117 {n : Nat} {h : q_Hp} {Q : Option Value → q_Hp → Prop} {x0 : Nat} {x1 : Int64} {x3 : Int32} (w : q_wp n 175 73 [some (.ref x0), some (.long x1), none, some (.int (x3 + 1))] [] h Q) : q_wp n 175 117 [some (.ref x0), some (.long x1), none, some (.int x3)] [] h Q := by
  refine wp_iinc (v := 1) rfl rfl (by decide) rfl ?_
  refine wp_goto (tgt := 73) rfl (by decide) ?_
  exact w
theorem b175_123 {n : Nat} {h : q_Hp} {Q : Option Value → q_Hp → Prop} {x0 : Nat} {x1 : Int64} {x3 : Int32} (w : q_wp n 175 125 [some (.ref x0), some (.long x1), none, some (.int 0)] [] h Q) : q_wp n 175 123 [some (.ref x0), some (.long x1), none, some (.int x3)] [] h Q := by
  refine wp_iconst (v := 0) rfl (by decide) ?_
  refine wp_loc rfl rfl ?_
  exact w
theorem b175_125 {n : Nat} {h : q_Hp} {Q : Option Value → q_Hp → Prop} {x0 : Nat} {x1 : Int64} {x3 : Int32} (wt : 4 < x3 → q_wp n 175 163 [some (.ref x0), some (.long x1), none, some (.int x3)] [] h Q) (wf : ¬ 4 < x3 → q_wp n 175 130 [some (.ref x0), some (.long x1), none, some (.int x3)] [] h Q) : q_wp n 175 125 [some (.ref x0), some (.long x1), none, some (.int x3)] [] h Q := by
  refine wp_loc rfl rfl ?_
  refine wp_iconst (v := 4) rfl (by decide) ?_
  exact wp_icgt (tgt := 163) rfl (by decide) wt wf
theorem b175_130 {n : Nat} {h : q_Hp} {Q : Option Value → q_Hp → Prop} {x0 : Nat} {x1 : Int64} {x3 : Int32} {m : Nat} {P : Int32 → q_Hp → Prop} (hc : q_mI m 168 [.ref x0, .int 10] h P) (hm : m ≤ n) (w : ∀ (z : Int32) (h1 : q_Hp), P z h1 → q_wp (n + 1) 175 136 [some (.ref x0), some (.long x1), none, some (.int x3)] [.int z] h1 Q) : q_wp (n + 1) 175 130 [some (.ref x0), some (.long x1), none, some (.int x3)] [] h Q := by
  refine wp_loc rfl rfl ?_
  refine wp_bipush (v := 10) rfl (by decide) ?_
  exact wp_callI (av := [.ref x0, .int 10]) rfl rfl rfl (by decide) rfl rfl rfl hm hc w
theorem b175_136 {n : Nat} {h : q_Hp} {Q : Option Value → q_Hp → Prop} {x0 : Nat} {x1 : Int64} {x3 : Int32} {s0 : Int32} (wt : s0 = 0 → q_wp n 175 163 [some (.ref x0), some (.long x1), none, some (.int x3)] [] h Q) (wf : ¬ s0 = 0 → q_wp n 175 139 [some (.ref x0), some (.long x1), none, some (.int x3)] [] h Q) : q_wp n 175 136 [some (.ref x0), some (.long x1), none, some (.int x3)] [.int s0] h Q := by
  exact wp_ifeq (tgt := 163) rfl (by decide) wt wf
theorem b175_139 {n : Nat} {h : q_Hp} {Q : Option Value → q_Hp → Prop} {x0 : Nat} {x1 : Int64} {x3 : Int32} (wt : 4 ≤ x3 → q_wp n 175 149 [some (.ref x0), some (.long x1), none, some (.int x3)] [.ref x0] h Q) (wf : ¬ 4 ≤ x3 → q_wp n 175 145 [some (.ref x0), some (.long x1), none, some (.int x3)] [.ref x0] h Q) : q_wp n 175 139 [some (.ref x0), some (.long x1), none, some (.int x3)] [] h Q := by
  refine wp_loc rfl rfl ?_
  refine wp_loc rfl rfl ?_
  refine wp_iconst (v := 4) rfl (by decide) ?_
  exact wp_icge (tgt := 149) rfl (by decide) wt wf
theorem b175_145 {n : Nat} {h : q_Hp} {Q : Option Value → q_Hp → Prop} {x0 : Nat} {x1 : Int64} {x3 : Int32} {s0 : Nat} (w : q_wp n 175 150 [some (.ref x0), some (.long x1), none, some (.int x3)] [.int 1, .ref s0] h Q) : q_wp n 175 145 [some (.ref x0), some (.long x1), none, some (.int x3)] [.ref s0] h Q := by
  refine wp_iconst (v := 1) rfl (by decide) ?_
  refine wp_goto (tgt := 150) rfl (by decide) ?_
  exact w
theorem b175_149 {n : Nat} {h : q_Hp} {Q : Option Value → q_Hp → Prop} {x0 : Nat} {x1 : Int64} {x3 : Int32} {s0 : Nat} (w : q_wp n 175 150 [some (.ref x0), some (.long x1), none, some (.int x3)] [.int 0, .ref s0] h Q) : q_wp n 175 149 [some (.ref x0), some (.long x1), none, some (.int x3)] [.ref s0] h Q := by
  refine wp_iconst (v := 0) rfl (by decide) ?_
  exact w
theorem b175_150 {n : Nat} {h : q_Hp} {Q : Option Value → q_Hp → Prop} {x0 : Nat} {x1 : Int64} {x3 : Int32} {s0 : Int32} {s1 : Nat} {m : Nat} {P : q_Hp → Prop} (hc : q_mV m 171 [.ref s1, .int s0] h P) (hm : m ≤ n) (w : ∀ h1 : q_Hp, P h1 → q_wp (n + 1) 175 153 [some (.ref x0), some (.long x1), none, some (.int x3)] [] h1 Q) : q_wp (n + 1) 175 150 [some (.ref x0), some (.long x1), none, some (.int x3)] [.int s0, .ref s1] h Q := by
  exact wp_callV (av := [.ref s1, .int s0]) rfl rfl rfl (by decide) rfl rfl rfl hm hc w
theorem b175_153 {n : Nat} {h : q_Hp} {Q : Option Value → q_Hp → Prop} {x0 : Nat} {x1 : Int64} {x3 : Int32} {m : Nat} {P : q_Hp → Prop} (hc : q_mV m 178 [.ref x0] h P) (hm : m ≤ n) (w : ∀ h1 : q_Hp, P h1 → q_wp (n + 1) 175 157 [some (.ref x0), some (.long x1), none, some (.int x3)] [] h1 Q) : q_wp (n + 1) 175 153 [some (.ref x0), some (.long x1), none, some (.int x3)] [] h Q := by
  refine wp_loc rfl rfl ?_
  exact wp_callV (av := [.ref x0]) rfl rfl rfl (by decide) rfl rfl rfl hm hc w
theorem b175_157 {n : Nat} {h : q_Hp} {Q : Option Value → q_Hp → Prop} {x0 : Nat} {x1 : Int64} {x3 : Int32} (w : q_wp n 175 125 [some (.ref x0), some (.long x1), none, some (.int (x3 + 1))] [] h Q) : q_wp n 175 157 [some (.ref x0), some (.long x1), none, some (.int x3)] [] h Q := by
  refine wp_iinc (v := 1) rfl rfl (by decide) rfl ?_
  refine wp_goto (tgt := 125) rfl (by decide) ?_
  exact w
theorem b175_163 {n : Nat} {h : q_Hp} {Q : Option Value → q_Hp → Prop} {x0 : Nat} {x1 : Int64} {x3 : Int32} (w : q_wp n 175 165 [some (.ref x0), some (.long x1), none, some (.int 0)] [] h Q) : q_wp n 175 163 [some (.ref x0), some (.long x1), none, some (.int x3)] [] h Q := by
  refine wp_iconst (v := 0) rfl (by decide) ?_
  refine wp_loc rfl rfl ?_
  exact w
theorem b175_165 {n : Nat} {h : q_Hp} {Q : Option Value → q_Hp → Prop} {x0 : Nat} {x1 : Int64} {x3 : Int32} (wt : 8 < x3 → q_wp n 175 203 [some (.ref x0), some (.long x1), none, some (.int x3)] [] h Q) (wf : ¬ 8 < x3 → q_wp n 175 171 [some (.ref x0), some (.long x1), none, some (.int x3)] [] h Q) : q_wp n 175 165 [some (.ref x0), some (.long x1), none, some (.int x3)] [] h Q := by
  refine wp_loc rfl rfl ?_
  refine wp_bipush (v := 8) rfl (by decide) ?_
  exact wp_icgt (tgt := 203) rfl (by decide) wt wf
theorem b175_171 {n : Nat} {h : q_Hp} {Q : Option Value → q_Hp → Prop} {x0 : Nat} {x1 : Int64} {x3 : Int32} {m : Nat} {P : Int32 → q_Hp → Prop} (hc : q_mI m 179 [.ref x0] h P) (hm : m ≤ n) (w : ∀ (z : Int32) (h1 : q_Hp), P z h1 → q_wp (n + 1) 175 175 [some (.ref x0), some (.long x1), none, some (.int x3)] [.int z] h1 Q) : q_wp (n + 1) 175 171 [some (.ref x0), some (.long x1), none, some (.int x3)] [] h Q := by
  refine wp_loc rfl rfl ?_
  exact wp_callI (av := [.ref x0]) rfl rfl rfl (by decide) rfl rfl rfl hm hc w
theorem b175_175 {n : Nat} {h : q_Hp} {Q : Option Value → q_Hp → Prop} {x0 : Nat} {x1 : Int64} {x3 : Int32} {s0 : Int32} (wt : s0 = 0 → q_wp n 175 203 [some (.ref x0), some (.long x1), none, some (.int x3)] [] h Q) (wf : ¬ s0 = 0 → q_wp n 175 178 [some (.ref x0), some (.long x1), none, some (.int x3)] [] h Q) : q_wp n 175 175 [some (.ref x0), some (.long x1), none, some (.int x3)] [.int s0] h Q := by
  exact wp_ifeq (tgt := 203) rfl (by decide) wt wf
theorem b175_178 {n : Nat} {h : q_Hp} {Q : Option Value → q_Hp → Prop} {x0 : Nat} {x1 : Int64} {x3 : Int32} (wt : 8 ≤ x3 → q_wp n 175 189 [some (.ref x0), some (.long x1), none, some (.int x3)] [.ref x0] h Q) (wf : ¬ 8 ≤ x3 → q_wp n 175 185 [some (.ref x0), some (.long x1), none, some (.int x3)] [.ref x0] h Q) : q_wp n 175 178 [some (.ref x0), some (.long x1), none, some (.int x3)] [] h Q := by
  refine wp_loc rfl rfl ?_
  refine wp_loc rfl rfl ?_
  refine wp_bipush (v := 8) rfl (by decide) ?_
  exact wp_icge (tgt := 189) rfl (by decide) wt wf
theorem b175_185 {n : Nat} {h : q_Hp} {Q : Option Value → q_Hp → Prop} {x0 : Nat} {x1 : Int64} {x3 : Int32} {s0 : Nat} (w : q_wp n 175 190 [some (.ref x0), some (.long x1), none, some (.int x3)] [.int 1, .ref s0] h Q) : q_wp n 175 185 [some (.ref x0), some (.long x1), none, some (.int x3)] [.ref s0] h Q := by
  refine wp_iconst (v := 1) rfl (by decide) ?_
  refine wp_goto (tgt := 190) rfl (by decide) ?_
  exact w
theorem b175_189 {n : Nat} {h : q_Hp} {Q : Option Value → q_Hp → Prop} {x0 : Nat} {x1 : Int64} {x3 : Int32} {s0 : Nat} (w : q_wp n 175 190 [some (.ref x0), some (.long x1), none, some (.int x3)] [.int 0, .ref s0] h Q) : q_wp n 175 189 [some (.ref x0), some (.long x1), none, some (.int x3)] [.ref s0] h Q := by
  refine wp_iconst (v := 0) rfl (by decide) ?_
  exact w
theorem b175_190 {n : Nat} {h : q_Hp} {Q : Option Value → q_Hp → Prop} {x0 : Nat} {x1 : Int64} {x3 : Int32} {s0 : Int32} {s1 : Nat} {m : Nat} {P : q_Hp → Prop} (hc : q_mV m 171 [.ref s1, .int s0] h P) (hm : m ≤ n) (w : ∀ h1 : q_Hp, P h1 → q_wp (n + 1) 175 193 [some (.ref x0), some (.long x1), none, some (.int x3)] [] h1 Q) : q_wp (n + 1) 175 190 [some (.ref x0), some (.long x1), none, some (.int x3)] [.int s0, .ref s1] h Q := by
  exact wp_callV (av := [.ref s1, .int s0]) rfl rfl rfl (by decide) rfl rfl rfl hm hc w
theorem b175_193 {n : Nat} {h : q_Hp} {Q : Option Value → q_Hp → Prop} {x0 : Nat} {x1 : Int64} {x3 : Int32} {m : Nat} {P : q_Hp → Prop} (hc : q_mV m 180 [.ref x0] h P) (hm : m ≤ n) (w : ∀ h1 : q_Hp, P h1 → q_wp (n + 1) 175 197 [some (.ref x0), some (.long x1), none, some (.int x3)] [] h1 Q) : q_wp (n + 1) 175 193 [some (.ref x0), some (.long x1), none, some (.int x3)] [] h Q := by
  refine wp_loc rfl rfl ?_
  exact wp_callV (av := [.ref x0]) rfl rfl rfl (by decide) rfl rfl rfl hm hc w
theorem b175_197 {n : Nat} {h : q_Hp} {Q : Option Value → q_Hp → Prop} {x0 : Nat} {x1 : Int64} {x3 : Int32} (w : q_wp n 175 165 [some (.ref x0), some (.long x1), none, some (.int (x3 + 1))] [] h Q) : q_wp n 175 197 [some (.ref x0), some (.long x1), none, some (.int x3)] [] h Q := by
  refine wp_iinc (v := 1) rfl rfl (by decide) rfl ?_
  refine wp_goto (tgt := 165) rfl (by decide) ?_
  exact w
theorem b175_203 {n : Nat} {h : q_Hp} {Q : Option Value → q_Hp → Prop} {x0 : Nat} {x1 : Int64} {x3 : Int32} {m : Nat} {P : q_Hp → Prop} (hc : q_mV m 170 [.ref x0, .int 5] h P) (hm : m ≤ n) (w : ∀ h1 : q_Hp, P h1 → q_wp (n + 1) 175 208 [some (.ref x0), some (.long x1), none, some (.int x3)] [] h1 Q) : q_wp (n + 1) 175 203 [some (.ref x0), some (.long x1), none, some (.int x3)] [] h Q := by
  refine wp_loc rfl rfl ?_
  refine wp_iconst (v := 5) rfl (by decide) ?_
  exact wp_callV (av := [.ref x0, .int 5]) rfl rfl rfl (by decide) rfl rfl rfl hm hc w
theorem b175_208 {n : Nat} {h : q_Hp} {Q : Option Value → q_Hp → Prop} {x0 : Nat} {x1 : Int64} {x3 : Int32} (q : Q none h) : q_wp n 175 208 [some (.ref x0), some (.long x1), none, some (.int x3)] [] h Q := by
  exact wp_ret rfl rfl q
theorem b176_0 {n : Nat} {h : q_Hp} {Q : Option Value → q_Hp → Prop} {x0 : Nat} {x1 : Int32} {x2 : Int32} {x3 : Int32} (w : q_wp n 176 9 [some (.ref x0), some (.int x1), some (.int x2), some (.int x3), some (.int 0), some (.int 0), some (.int 0)] [] h Q) : q_wp n 176 0 [some (.ref x0), some (.int x1), some (.int x2), some (.int x3), none, none, none] [] h Q := by
  refine wp_iconst (v := 0) rfl (by decide) ?_
  refine wp_loc rfl rfl ?_
  refine wp_iconst (v := 0) rfl (by decide) ?_
  refine wp_loc rfl rfl ?_
  refine wp_iconst (v := 0) rfl (by decide) ?_
  refine wp_loc rfl rfl ?_
  exact w
theorem b176_9 {n : Nat} {h : q_Hp} {Q : Option Value → q_Hp → Prop} {x0 : Nat} {x1 : Int32} {x2 : Int32} {x3 : Int32} {x4 : Int32} {x5 : Int32} {x6 : Int32} (wt : 1200 < x6 → q_wp n 176 140 [some (.ref x0), some (.int x1), some (.int x2), some (.int x3), some (.int x4), some (.int x5), some (.int x6)] [] h Q) (wf : ¬ 1200 < x6 → q_wp n 176 17 [some (.ref x0), some (.int x1), some (.int x2), some (.int x3), some (.int x4), some (.int x5), some (.int x6)] [] h Q) : q_wp n 176 9 [some (.ref x0), some (.int x1), some (.int x2), some (.int x3), some (.int x4), some (.int x5), some (.int x6)] [] h Q := by
  refine wp_loc rfl rfl ?_
  refine wp_sipush (v := 1200) rfl (by decide) ?_
  exact wp_icgt (tgt := 140) rfl (by decide) wt wf
theorem b176_17 {n : Nat} {h : q_Hp} {Q : Option Value → q_Hp → Prop} {x0 : Nat} {x1 : Int32} {x2 : Int32} {x3 : Int32} {x4 : Int32} {x5 : Int32} {x6 : Int32} {m : Nat} {P : Int32 → q_Hp → Prop} (hc : q_mI m 168 [.ref x0, .int 6] h P) (hm : m ≤ n) (w : ∀ (z : Int32) (h1 : q_Hp), P z h1 → q_wp (n + 1) 176 23 [some (.ref x0), some (.int x1), some (.int x2), some (.int x3), some (.int x4), some (.int x5), some (.int x6)] [.int z] h1 Q) : q_wp (n + 1) 176 17 [some (.ref x0), some (.int x1), some (.int x2), some (.int x3), some (.int x4), some (.int x5), some (.int x6)] [] h Q := by
  refine wp_loc rfl rfl ?_
  refine wp_bipush (v := 6) rfl (by decide) ?_
  exact wp_callI (av := [.ref x0, .int 6]) rfl rfl rfl (by decide) rfl rfl rfl hm hc w
theorem b176_23 {n : Nat} {h : q_Hp} {Q : Option Value → q_Hp → Prop} {x0 : Nat} {x1 : Int32} {x2 : Int32} {x3 : Int32} {x4 : Int32} {x5 : Int32} {x6 : Int32} {s0 : Int32} (wt : s0 = 0 → q_wp n 176 63 [some (.ref x0), some (.int x1), some (.int x2), some (.int x3), some (.int x4), some (.int x5), some (.int x6)] [] h Q) (wf : ¬ s0 = 0 → q_wp n 176 26 [some (.ref x0), some (.int x1), some (.int x2), some (.int x3), some (.int x4), some (.int x5), some (.int x6)] [] h Q) : q_wp n 176 23 [some (.ref x0), some (.int x1), some (.int x2), some (.int x3), some (.int x4), some (.int x5), some (.int x6)] [.int s0] h Q := by
  exact wp_ifeq (tgt := 63) rfl (by decide) wt wf
theorem b176_26 {n : Nat} {h : q_Hp} {Q : Option Value → q_Hp → Prop} {x0 : Nat} {x1 : Int32} {x2 : Int32} {x3 : Int32} {x4 : Int32} {x5 : Int32} {x6 : Int32} {m : Nat} {P : q_Hp → Prop} (hc : q_mV m 169 [.ref x0] h P) (hm : m ≤ n) (w : ∀ h1 : q_Hp, P h1 → q_wp (n + 1) 176 30 [some (.ref x0), some (.int x1), some (.int x2), some (.int x3), some (.int x4), some (.int x5), some (.int x6)] [] h1 Q) : q_wp (n + 1) 176 26 [some (.ref x0), some (.int x1), some (.int x2), some (.int x3), some (.int x4), some (.int x5), some (.int x6)] [] h Q := by
  refine wp_loc rfl rfl ?_
  exact wp_callV (av := [.ref x0]) rfl rfl rfl (by decide) rfl rfl rfl hm hc w
theorem b176_30 {n : Nat} {h : q_Hp} {Q : Option Value → q_Hp → Prop} {x0 : Nat} {x1 : Int32} {x2 : Int32} {x3 : Int32} {x4 : Int32} {x5 : Int32} {x6 : Int32} (wt : x1 ≤ x4 → q_wp n 176 41 [some (.ref x0), some (.int x1), some (.int x2), some (.int x3), some (.int x4), some (.int x5), some (.int x6)] [.ref x0] h Q) (wf : ¬ x1 ≤ x4 → q_wp n 176 37 [some (.ref x0), some (.int x1), some (.int x2), some (.int x3), some (.int x4), some (.int x5), some (.int x6)] [.ref x0] h Q) : q_wp n 176 30 [some (.ref x0), some (.int x1), some (.int x2), some (.int x3), some (.int x4), some (.int x5), some (.int x6)] [] h Q := by
  refine wp_loc rfl rfl ?_
  refine wp_loc rfl rfl ?_
  refine wp_loc rfl rfl ?_
  exact wp_icge (tgt := 41) rfl (by decide) wt wf
theorem b176_37 {n : Nat} {h : q_Hp} {Q : Option Value → q_Hp → Prop} {x0 : Nat} {x1 : Int32} {x2 : Int32} {x3 : Int32} {x4 : Int32} {x5 : Int32} {x6 : Int32} {s0 : Nat} (w : q_wp n 176 42 [some (.ref x0), some (.int x1), some (.int x2), some (.int x3), some (.int x4), some (.int x5), some (.int x6)] [.int 1, .ref s0] h Q) : q_wp n 176 37 [some (.ref x0), some (.int x1), some (.int x2), some (.int x3), some (.int x4), some (.int x5), some (.int x6)] [.ref s0] h Q := by
  refine wp_iconst (v := 1) rfl (by decide) ?_
  refine wp_goto (tgt := 42) rfl (by decide) ?_
  exact w
theorem b176_41 {n : Nat} {h : q_Hp} {Q : Option Value → q_Hp → Prop} {x0 : Nat} {x1 : Int32} {x2 : Int32} {x3 : Int32} {x4 : Int32} {x5 : Int32} {x6 : Int32} {s0 : Nat} (w : q_wp n 176 42 [some (.ref x0), some (.int x1), some (.int x2), some (.int x3), some (.int x4), some (.int x5), some (.int x6)] [.int 0, .ref s0] h Q) : q_wp n 176 41 [some (.ref x0), some (.int x1), some (.int x2), some (.int x3), some (.int x4), some (.int x5), some (.int x6)] [.ref s0] h Q := by
  refine wp_iconst (v := 0) rfl (by decide) ?_
  exact w
theorem b176_42 {n : Nat} {h : q_Hp} {Q : Option Value → q_Hp → Prop} {x0 : Nat} {x1 : Int32} {x2 : Int32} {x3 : Int32} {x4 : Int32} {x5 : Int32} {x6 : Int32} {s0 : Int32} {s1 : Nat} {m : Nat} {P : q_Hp → Prop} (hc : q_mV m 172 [.ref s1, .int s0] h P) (hm : m ≤ n) (w : ∀ h1 : q_Hp, P h1 → q_wp (n + 1) 176 45 [some (.ref x0), some (.int x1), some (.int x2), some (.int x3), some (.int x4), some (.int x5), some (.int x6)] [] h1 Q) : q_wp (n + 1) 176 42 [some (.ref x0), some (.int x1), some (.int x2), some (.int x3), some (.int x4), some (.int x5), some (.int x6)] [.int s0, .ref s1] h Q := by
  exact wp_callV (av := [.ref s1, .int s0]) rfl rfl rfl (by decide) rfl rfl rfl hm hc w
theorem b176_45 {n : Nat} {h : q_Hp} {Q : Option Value → q_Hp → Prop} {x0 : Nat} {x1 : Int32} {x2 : Int32} {x3 : Int32} {x4 : Int32} {x5 : Int32} {x6 : Int32} {m : Nat} {P : q_Hp → Prop} (hc : q_mV m 170 [.ref x0, .int 25] h P) (hm : m ≤ n) (w : ∀ h1 : q_Hp, P h1 → q_wp (n + 1) 176 54 [some (.ref x0), some (.int x1), some (.int x2), some (.int x3), some (.int (x4 + 1)), some (.int x5), some (.int x6)] [] h1 Q) : q_wp (n + 1) 176 45 [some (.ref x0), some (.int x1), some (.int x2), some (.int x3), some (.int x4), some (.int x5), some (.int x6)] [] h Q := by
  refine wp_iinc (v := 1) rfl rfl (by decide) rfl ?_
  refine wp_loc rfl rfl ?_
  refine wp_bipush (v := 25) rfl (by decide) ?_
  exact wp_callV (av := [.ref x0, .int 25]) rfl rfl rfl (by decide) rfl rfl rfl hm hc w
theorem b176_54 {n : Nat} {h : q_Hp} {Q : Option Value → q_Hp → Prop} {x0 : Nat} {x1 : Int32} {x2 : Int32} {x3 : Int32} {x4 : Int32} {x5 : Int32} {x6 : Int32} {m : Nat} {P : q_Hp → Prop} (hc : q_mV m 170 [.ref x0, .int 40] h P) (hm : m ≤ n) (w : ∀ h1 : q_Hp, P h1 → q_wp (n + 1) 176 60 [some (.ref x0), some (.int x1), some (.int x2), some (.int x3), some (.int x4), some (.int x5), some (.int x6)] [] h1 Q) : q_wp (n + 1) 176 54 [some (.ref x0), some (.int x1), some (.int x2), some (.int x3), some (.int x4), some (.int x5), some (.int x6)] [] h Q := by
  refine wp_loc rfl rfl ?_
  refine wp_bipush (v := 40) rfl (by decide) ?_
  exact wp_callV (av := [.ref x0, .int 40]) rfl rfl rfl (by decide) rfl rfl rfl hm hc w
theorem b176_60 {n : Nat} {h : q_Hp} {Q : Option Value → q_Hp → Prop} {x0 : Nat} {x1 : Int32} {x2 : Int32} {x3 : Int32} {x4 : Int32} {x5 : Int32} {x6 : Int32} (w : q_wp n 176 128 [some (.ref x0), some (.int x1), some (.int x2), some (.int x3), some (.int x4), some (.int x5), some (.int x6)] [] h Q) : q_wp n 176 60 [some (.ref x0), some (.int x1), some (.int x2), some (.int x3), some (.int x4), some (.int x5), some (.int x6)] [] h Q := by
  refine wp_goto (tgt := 128) rfl (by decide) ?_
  exact w
theorem b176_63 {n : Nat} {h : q_Hp} {Q : Option Value → q_Hp → Prop} {x0 : Nat} {x1 : Int32} {x2 : Int32} {x3 : Int32} {x4 : Int32} {x5 : Int32} {x6 : Int32} {m : Nat} {P : Int32 → q_Hp → Prop} (hc : q_mI m 168 [.ref x0, .int 7] h P) (hm : m ≤ n) (w : ∀ (z : Int32) (h1 : q_Hp), P z h1 → q_wp (n + 1) 176 69 [some (.ref x0), some (.int x1), some (.int x2), some (.int x3), some (.int x4), some (.int x5), some (.int x6)] [.int z] h1 Q) : q_wp (n + 1) 176 63 [some (.ref x0), some (.int x1), some (.int x2), some (.int x3), some (.int x4), some (.int x5), some (.int x6)] [] h Q := by
  refine wp_loc rfl rfl ?_
  refine wp_bipush (v := 7) rfl (by decide) ?_
  exact wp_callI (av := [.ref x0, .int 7]) rfl rfl rfl (by decide) rfl rfl rfl hm hc w
theorem b176_69 {n : Nat} {h : q_Hp} {Q : Option Value → q_Hp → Prop} {x0 : Nat} {x1 : Int32} {x2 : Int32} {x3 : Int32} {x4 : Int32} {x5 : Int32} {x6 : Int32} {s0 : Int32} (wt : s0 = 0 → q_wp n 176 107 [some (.ref x0), some (.int x1), some (.int x2), some (.int x3), some (.int x4), some (.int x5), some (.int x6)] [] h Q) (wf : ¬ s0 = 0 → q_wp n 176 72 [some (.ref x0), some (.int x1), some (.int x2), some (.int x3), some (.int x4), some (.int x5), some (.int x6)] [] h Q) : q_wp n 176 69 [some (.ref x0), some (.int x1), some (.int x2), some (.int x3), some (.int x4), some (.int x5), some (.int x6)] [.int s0] h Q := by
  exact wp_ifeq (tgt := 107) rfl (by decide) wt wf
theorem b176_72 {n : Nat} {h : q_Hp} {Q : Option Value → q_Hp → Prop} {x0 : Nat} {x1 : Int32} {x2 : Int32} {x3 : Int32} {x4 : Int32} {x5 : Int32} {x6 : Int32} {m : Nat} {P : q_Hp → Prop} (hc : q_mV m 169 [.ref x0] h P) (hm : m ≤ n) (w : ∀ h1 : q_Hp, P h1 → q_wp (n + 1) 176 76 [some (.ref x0), some (.int x1), some (.int x2), some (.int x3), some (.int x4), some (.int x5), some (.int x6)] [] h1 Q) : q_wp (n + 1) 176 72 [some (.ref x0), some (.int x1), some (.int x2), some (.int x3), some (.int x4), some (.int x5), some (.int x6)] [] h Q := by
  refine wp_loc rfl rfl ?_
  exact wp_callV (av := [.ref x0]) rfl rfl rfl (by decide) rfl rfl rfl hm hc w
theorem b176_76 {n : Nat} {h : q_Hp} {Q : Option Value → q_Hp → Prop} {x0 : Nat} {x1 : Int32} {x2 : Int32} {x3 : Int32} {x4 : Int32} {x5 : Int32} {x6 : Int32} (wt : x2 ≤ x5 → q_wp n 176 87 [some (.ref x0), some (.int x1), some (.int x2), some (.int x3), some (.int x4), some (.int x5), some (.int x6)] [.ref x0] h Q) (wf : ¬ x2 ≤ x5 → q_wp n 176 83 [some (.ref x0), some (.int x1), some (.int x2), some (.int x3), some (.int x4), some (.int x5), some (.int x6)] [.ref x0] h Q) : q_wp n 176 76 [some (.ref x0), some (.int x1), some (.int x2), some (.int x3), some (.int x4), some (.int x5), some (.int x6)] [] h Q := by
  refine wp_loc rfl rfl ?_
  refine wp_loc rfl rfl ?_
  refine wp_loc rfl rfl ?_
  exact wp_icge (tgt := 87) rfl (by decide) wt wf
theorem b176_83 {n : Nat} {h : q_Hp} {Q : Option Value → q_Hp → Prop} {x0 : Nat} {x1 : Int32} {x2 : Int32} {x3 : Int32} {x4 : Int32} {x5 : Int32} {x6 : Int32} {s0 : Nat} (w : q_wp n 176 88 [some (.ref x0), some (.int x1), some (.int x2), some (.int x3), some (.int x4), some (.int x5), some (.int x6)] [.int 1, .ref s0] h Q) : q_wp n 176 83 [some (.ref x0), some (.int x1), some (.int x2), some (.int x3), some (.int x4), some (.int x5), some (.int x6)] [.ref s0] h Q := by
  refine wp_iconst (v := 1) rfl (by decide) ?_
  refine wp_goto (tgt := 88) rfl (by decide) ?_
  exact w
theorem b176_87 {n : Nat} {h : q_Hp} {Q : Option Value → q_Hp → Prop} {x0 : Nat} {x1 : Int32} {x2 : Int32} {x3 : Int32} {x4 : Int32} {x5 : Int32} {x6 : Int32} {s0 : Nat} (w : q_wp n 176 88 [some (.ref x0), some (.int x1), some (.int x2), some (.int x3), some (.int x4), some (.int x5), some (.int x6)] [.int 0, .ref s0] h Q) : q_wp n 176 87 [some (.ref x0), some (.int x1), some (.int x2), some (.int x3), some (.int x4), some (.int x5), some (.int x6)] [.ref s0] h Q := by
  refine wp_iconst (v := 0) rfl (by decide) ?_
  exact w
theorem b176_88 {n : Nat} {h : q_Hp} {Q : Option Value → q_Hp → Prop} {x0 : Nat} {x1 : Int32} {x2 : Int32} {x3 : Int32} {x4 : Int32} {x5 : Int32} {x6 : Int32} {s0 : Int32} {s1 : Nat} {m : Nat} {P : q_Hp → Prop} (hc : q_mV m 172 [.ref s1, .int s0] h P) (hm : m ≤ n) (w : ∀ h1 : q_Hp, P h1 → q_wp (n + 1) 176 91 [some (.ref x0), some (.int x1), some (.int x2), some (.int x3), some (.int x4), some (.int x5), some (.int x6)] [] h1 Q) : q_wp (n + 1) 176 88 [some (.ref x0), some (.int x1), some (.int x2), some (.int x3), some (.int x4), some (.int x5), some (.int x6)] [.int s0, .ref s1] h Q := by
  exact wp_callV (av := [.ref s1, .int s0]) rfl rfl rfl (by decide) rfl rfl rfl hm hc w
theorem b176_91 {n : Nat} {h : q_Hp} {Q : Option Value → q_Hp → Prop} {x0 : Nat} {x1 : Int32} {x2 : Int32} {x3 : Int32} {x4 : Int32} {x5 : Int32} {x6 : Int32} {m : Nat} {P : q_Hp → Prop} (hc : q_mV m 170 [.ref x0, .int 25] h P) (hm : m ≤ n) (w : ∀ h1 : q_Hp, P h1 → q_wp (n + 1) 176 100 [some (.ref x0), some (.int x1), some (.int x2), some (.int x3), some (.int x4), some (.int (x5 + 1)), some (.int x6)] [] h1 Q) : q_wp (n + 1) 176 91 [some (.ref x0), some (.int x1), some (.int x2), some (.int x3), some (.int x4), some (.int x5), some (.int x6)] [] h Q := by
  refine wp_iinc (v := 1) rfl rfl (by decide) rfl ?_
  refine wp_loc rfl rfl ?_
  refine wp_bipush (v := 25) rfl (by decide) ?_
  exact wp_callV (av := [.ref x0, .int 25]) rfl rfl rfl (by decide) rfl rfl rfl hm hc w
theorem b176_100 {n : Nat} {h : q_Hp} {Q : Option Value → q_Hp → Prop} {x0 : Nat} {x1 : Int32} {x2 : Int32} {x3 : Int32} {x4 : Int32} {x5 : Int32} {x6 : Int32} {m : Nat} {P : q_Hp → Prop} (hc : q_mV m 177 [.ref x0] h P) (hm : m ≤ n) (w : ∀ h1 : q_Hp, P h1 → q_wp (n + 1) 176 104 [some (.ref x0), some (.int x1), some (.int x2), some (.int x3), some (.int x4), some (.int x5), some (.int x6)] [] h1 Q) : q_wp (n + 1) 176 100 [some (.ref x0), some (.int x1), some (.int x2), some (.int x3), some (.int x4), some (.int x5), some (.int x6)] [] h Q := by
  refine wp_loc rfl rfl ?_
  exact wp_callV (av := [.ref x0]) rfl rfl rfl (by decide) rfl rfl rfl hm hc w
theorem b176_104 {n : Nat} {h : q_Hp} {Q : Option Value → q_Hp → Prop} {x0 : Nat} {x1 : Int32} {x2 : Int32} {x3 : Int32} {x4 : Int32} {x5 : Int32} {x6 : Int32} (w : q_wp n 176 128 [some (.ref x0), some (.int x1), some (.int x2), some (.int x3), some (.int x4), some (.int x5), some (.int x6)] [] h Q) : q_wp n 176 104 [some (.ref x0), some (.int x1), some (.int x2), some (.int x3), some (.int x4), some (.int x5), some (.int x6)] [] h Q := by
  refine wp_goto (tgt := 128) rfl (by decide) ?_
  exact w
theorem b176_107 {n : Nat} {h : q_Hp} {Q : Option Value → q_Hp → Prop} {x0 : Nat} {x1 : Int32} {x2 : Int32} {x3 : Int32} {x4 : Int32} {x5 : Int32} {x6 : Int32} (wt : x3 = 0 → q_wp n 176 127 [some (.ref x0), some (.int x1), some (.int x2), some (.int x3), some (.int x4), some (.int x5), some (.int x6)] [] h Q) (wf : ¬ x3 = 0 → q_wp n 176 111 [some (.ref x0), some (.int x1), some (.int x2), some (.int x3), some (.int x4), some (.int x5), some (.int x6)] [] h Q) : q_wp n 176 107 [some (.ref x0), some (.int x1), some (.int x2), some (.int x3), some (.int x4), some (.int x5), some (.int x6)] [] h Q := by
  refine wp_loc rfl rfl ?_
  exact wp_ifeq (tgt := 127) rfl (by decide) wt wf
theorem b176_111 {n : Nat} {h : q_Hp} {Q : Option Value → q_Hp → Prop} {x0 : Nat} {x1 : Int32} {x2 : Int32} {x3 : Int32} {x4 : Int32} {x5 : Int32} {x6 : Int32} {m : Nat} {P : Int32 → q_Hp → Prop} (hc : q_mI m 168 [.ref x0, .int 8] h P) (hm : m ≤ n) (w : ∀ (z : Int32) (h1 : q_Hp), P z h1 → q_wp (n + 1) 176 117 [some (.ref x0), some (.int x1), some (.int x2), some (.int x3), some (.int x4), some (.int x5), some (.int x6)] [.int z] h1 Q) : q_wp (n + 1) 176 111 [some (.ref x0), some (.int x1), some (.int x2), some (.int x3), some (.int x4), some (.int x5), some (.int x6)] [] h Q := by
  refine wp_loc rfl rfl ?_
  refine wp_bipush (v := 8) rfl (by decide) ?_
  exact wp_callI (av := [.ref x0, .int 8]) rfl rfl rfl (by decide) rfl rfl rfl hm hc w
theorem b176_117 {n : Nat} {h : q_Hp} {Q : Option Value → q_Hp → Prop} {x0 : Nat} {x1 : Int32} {x2 : Int32} {x3 : Int32} {x4 : Int32} {x5 : Int32} {x6 : Int32} {s0 : Int32} (wt : s0 = 0 → q_wp n 176 127 [some (.ref x0), some (.int x1), some (.int x2), some (.int x3), some (.int x4), some (.int x5), some (.int x6)] [] h Q) (wf : ¬ s0 = 0 → q_wp n 176 120 [some (.ref x0), some (.int x1), some (.int x2), some (.int x3), some (.int x4), some (.int x5), some (.int x6)] [] h Q) : q_wp n 176 117 [some (.ref x0), some (.int x1), some (.int x2), some (.int x3), some (.int x4), some (.int x5), some (.int x6)] [.int s0] h Q := by
  exact wp_ifeq (tgt := 127) rfl (by decide) wt wf
theorem b176_120 {n : Nat} {h : q_Hp} {Q : Option Value → q_Hp → Prop} {x0 : Nat} {x1 : Int32} {x2 : Int32} {x3 : Int32} {x4 : Int32} {x5 : Int32} {x6 : Int32} {m : Nat} {P : q_Hp → Prop} (hc : q_mV m 169 [.ref x0] h P) (hm : m ≤ n) (w : ∀ h1 : q_Hp, P h1 → q_wp (n + 1) 176 124 [some (.ref x0), some (.int x1), some (.int x2), some (.int x3), some (.int x4), some (.int x5), some (.int x6)] [] h1 Q) : q_wp (n + 1) 176 120 [some (.ref x0), some (.int x1), some (.int x2), some (.int x3), some (.int x4), some (.int x5), some (.int x6)] [] h Q := by
  refine wp_loc rfl rfl ?_
  exact wp_callV (av := [.ref x0]) rfl rfl rfl (by decide) rfl rfl rfl hm hc w
theorem b176_124 {n : Nat} {h : q_Hp} {Q : Option Value → q_Hp → Prop} {x0 : Nat} {x1 : Int32} {x2 : Int32} {x3 : Int32} {x4 : Int32} {x5 : Int32} {x6 : Int32} (w : q_wp n 176 128 [some (.ref x0), some (.int x1), some (.int x2), some (.int x3), some (.int x4), some (.int x5), some (.int x6)] [] h Q) : q_wp n 176 124 [some (.ref x0), some (.int x1), some (.int x2), some (.int x3), some (.int x4), some (.int x5), some (.int x6)] [] h Q := by
  refine wp_goto (tgt := 128) rfl (by decide) ?_
  exact w
theorem b176_127 {n : Nat} {h : q_Hp} {Q : Option Value → q_Hp → Prop} {x0 : Nat} {x1 : Int32} {x2 : Int32} {x3 : Int32} {x4 : Int32} {x5 : Int32} {x6 : Int32} (q : Q none h) : q_wp n 176 127 [some (.ref x0), some (.int x1), some (.int x2), some (.int x3), some (.int x4), some (.int x5), some (.int x6)] [] h Q := by
  exact wp_ret rfl rfl q
theorem b176_128 {n : Nat} {h : q_Hp} {Q : Option Value → q_Hp → Prop} {x0 : Nat} {x1 : Int32} {x2 : Int32} {x3 : Int32} {x4 : Int32} {x5 : Int32} {x6 : Int32} {m : Nat} {P : q_Hp → Prop} (hc : q_mV m 170 [.ref x0, .int 26] h P) (hm : m ≤ n) (w : ∀ h1 : q_Hp, P h1 → q_wp (n + 1) 176 134 [some (.ref x0), some (.int x1), some (.int x2), some (.int x3), some (.int x4), some (.int x5), some (.int x6)] [] h1 Q) : q_wp (n + 1) 176 128 [some (.ref x0), some (.int x1), some (.int x2), some (.int x3), some (.int x4), some (.int x5), some (.int x6)] [] h Q := by
  refine wp_loc rfl rfl ?_
  refine wp_bipush (v := 26) rfl (by decide) ?_
  exact wp_callV (av := [.ref x0, .int 26]) rfl rfl rfl (by decide) rfl rfl rfl hm hc w
theorem b176_134 {n : Nat} {h : q_Hp} {Q : Option Value → q_Hp → Prop} {x0 : Nat} {x1 : Int32} {x2 : Int32} {x3 : Int32} {x4 : Int32} {x5 : Int32} {x6 : Int32} (w : q_wp n 176 9 [some (.ref x0), some (.int x1), some (.int x2), some (.int x3), some (.int x4), some (.int x5), some (.int (x6 + 1))] [] h Q) : q_wp n 176 134 [some (.ref x0), some (.int x1), some (.int x2), some (.int x3), some (.int x4), some (.int x5), some (.int x6)] [] h Q := by
  refine wp_iinc (v := 1) rfl rfl (by decide) rfl ?_
  refine wp_goto (tgt := 9) rfl (by decide) ?_
  exact w
theorem b176_140 {n : Nat} {h : q_Hp} {Q : Option Value → q_Hp → Prop} {x0 : Nat} {x1 : Int32} {x2 : Int32} {x3 : Int32} {x4 : Int32} {x5 : Int32} {x6 : Int32} (q : Q none h) : q_wp n 176 140 [some (.ref x0), some (.int x1), some (.int x2), some (.int x3), some (.int x4), some (.int x5), some (.int x6)] [] h Q := by
  exact wp_ret rfl rfl q
theorem b177_0 {n : Nat} {h : q_Hp} {Q : Option Value → q_Hp → Prop} {x0 : Nat} {m : Nat} {P : q_Hp → Prop} (hc : q_mV m 170 [.ref x0, .int 40] h P) (hm : m ≤ n) (w : ∀ h1 : q_Hp, P h1 → q_wp (n + 1) 177 6 [some (.ref x0)] [] h1 Q) : q_wp (n + 1) 177 0 [some (.ref x0)] [] h Q := by
  refine wp_loc rfl rfl ?_
  refine wp_bipush (v := 40) rfl (by decide) ?_
  exact wp_callV (av := [.ref x0, .int 40]) rfl rfl rfl (by decide) rfl rfl rfl hm hc w
theorem b177_6 {n : Nat} {h : q_Hp} {Q : Option Value → q_Hp → Prop} {x0 : Nat} {m : Nat} {P : q_Hp → Prop} (hc : q_mV m 170 [.ref x0, .int 32] h P) (hm : m ≤ n) (w : ∀ h1 : q_Hp, P h1 → q_wp (n + 1) 177 12 [some (.ref x0)] [] h1 Q) : q_wp (n + 1) 177 6 [some (.ref x0)] [] h Q := by
  refine wp_loc rfl rfl ?_
  refine wp_bipush (v := 32) rfl (by decide) ?_
  exact wp_callV (av := [.ref x0, .int 32]) rfl rfl rfl (by decide) rfl rfl rfl hm hc w
theorem b177_12 {n : Nat} {h : q_Hp} {Q : Option Value → q_Hp → Prop} {x0 : Nat} {m : Nat} {P : q_Hp → Prop} (hc : q_mV m 170 [.ref x0, .int 40] h P) (hm : m ≤ n) (w : ∀ h1 : q_Hp, P h1 → q_wp (n + 1) 177 18 [some (.ref x0)] [] h1 Q) : q_wp (n + 1) 177 12 [some (.ref x0)] [] h Q := by
  refine wp_loc rfl rfl ?_
  refine wp_bipush (v := 40) rfl (by decide) ?_
  exact wp_callV (av := [.ref x0, .int 40]) rfl rfl rfl (by decide) rfl rfl rfl hm hc w
theorem b177_18 {n : Nat} {h : q_Hp} {Q : Option Value → q_Hp → Prop} {x0 : Nat} {m : Nat} {P : q_Hp → Prop} (hc : q_mV m 170 [.ref x0, .int 39] h P) (hm : m ≤ n) (w : ∀ h1 : q_Hp, P h1 → q_wp (n + 1) 177 24 [some (.ref x0)] [] h1 Q) : q_wp (n + 1) 177 18 [some (.ref x0)] [] h Q := by
  refine wp_loc rfl rfl ?_
  refine wp_bipush (v := 39) rfl (by decide) ?_
  exact wp_callV (av := [.ref x0, .int 39]) rfl rfl rfl (by decide) rfl rfl rfl hm hc w
theorem b177_24 {n : Nat} {h : q_Hp} {Q : Option Value → q_Hp → Prop} {x0 : Nat} {m : Nat} {P : q_Hp → Prop} (hc : q_mV m 170 [.ref x0, .int 40] h P) (hm : m ≤ n) (w : ∀ h1 : q_Hp, P h1 → q_wp (n + 1) 177 30 [some (.ref x0)] [] h1 Q) : q_wp (n + 1) 177 24 [some (.ref x0)] [] h Q := by
  refine wp_loc rfl rfl ?_
  refine wp_bipush (v := 40) rfl (by decide) ?_
  exact wp_callV (av := [.ref x0, .int 40]) rfl rfl rfl (by decide) rfl rfl rfl hm hc w
theorem b177_30 {n : Nat} {h : q_Hp} {Q : Option Value → q_Hp → Prop} {x0 : Nat} (q : Q none h) : q_wp n 177 30 [some (.ref x0)] [] h Q := by
  exact wp_ret rfl rfl q
theorem b178_0 {n : Nat} {h : q_Hp} {Q : Option Value → q_Hp → Prop} {x0 : Nat} {m : Nat} {P : q_Hp → Prop} (hc : q_mV m 169 [.ref x0] h P) (hm : m ≤ n) (w : ∀ h1 : q_Hp, P h1 → q_wp (n + 1) 178 4 [some (.ref x0)] [] h1 Q) : q_wp (n + 1) 178 0 [some (.ref x0)] [] h Q := by
  refine wp_loc rfl rfl ?_
  exact wp_callV (av := [.ref x0]) rfl rfl rfl (by decide) rfl rfl rfl hm hc w
theorem b178_4 {n : Nat} {h : q_Hp} {Q : Option Value → q_Hp → Prop} {x0 : Nat} {m : Nat} {P : q_Hp → Prop} (hc : q_mV m 181 [.ref x0] h P) (hm : m ≤ n) (w : ∀ h1 : q_Hp, P h1 → q_wp (n + 1) 178 8 [some (.ref x0)] [] h1 Q) : q_wp (n + 1) 178 4 [some (.ref x0)] [] h Q := by
  refine wp_loc rfl rfl ?_
  exact wp_callV (av := [.ref x0]) rfl rfl rfl (by decide) rfl rfl rfl hm hc w
theorem b178_8 {n : Nat} {h : q_Hp} {Q : Option Value → q_Hp → Prop} {x0 : Nat} {m : Nat} {P : Int32 → q_Hp → Prop} (hc : q_mI m 168 [.ref x0, .int 36] h P) (hm : m ≤ n) (w : ∀ (z : Int32) (h1 : q_Hp), P z h1 → q_wp (n + 1) 178 14 [some (.ref x0)] [.int z] h1 Q) : q_wp (n + 1) 178 8 [some (.ref x0)] [] h Q := by
  refine wp_loc rfl rfl ?_
  refine wp_bipush (v := 36) rfl (by decide) ?_
  exact wp_callI (av := [.ref x0, .int 36]) rfl rfl rfl (by decide) rfl rfl rfl hm hc w
theorem b178_14 {n : Nat} {h : q_Hp} {Q : Option Value → q_Hp → Prop} {x0 : Nat} {s0 : Int32} (wt : ¬ s0 = 0 → q_wp n 178 44 [some (.ref x0)] [] h Q) (wf : s0 = 0 → q_wp n 178 17 [some (.ref x0)] [] h Q) : q_wp n 178 14 [some (.ref x0)] [.int s0] h Q := by
  exact wp_ifne (tgt := 44) rfl (by decide) wt wf
theorem b178_17 {n : Nat} {h : q_Hp} {Q : Option Value → q_Hp → Prop} {x0 : Nat} {m : Nat} {P : Int32 → q_Hp → Prop} (hc : q_mI m 168 [.ref x0, .int 37] h P) (hm : m ≤ n) (w : ∀ (z : Int32) (h1 : q_Hp), P z h1 → q_wp (n + 1) 178 23 [some (.ref x0)] [.int z] h1 Q) : q_wp (n + 1) 178 17 [some (.ref x0)] [] h Q := by
  refine wp_loc rfl rfl ?_
  refine wp_bipush (v := 37) rfl (by decide) ?_
  exact wp_callI (av := [.ref x0, .int 37]) rfl rfl rfl (by decide) rfl rfl rfl hm hc w
theorem b178_23 {n : Nat} {h : q_Hp} {Q : Option Value → q_Hp → Prop} {x0 : Nat} {s0 : Int32} (wt : ¬ s0 = 0 → q_wp n 178 44 [some (.ref x0)] [] h Q) (wf : s0 = 0 → q_wp n 178 26 [some (.ref x0)] [] h Q) : q_wp n 178 23 [some (.ref x0)] [.int s0] h Q := by
  exact wp_ifne (tgt := 44) rfl (by decide) wt wf
theorem b178_26 {n : Nat} {h : q_Hp} {Q : Option Value → q_Hp → Prop} {x0 : Nat} {m : Nat} {P : Int32 → q_Hp → Prop} (hc : q_mI m 168 [.ref x0, .int 30] h P) (hm : m ≤ n) (w : ∀ (z : Int32) (h1 : q_Hp), P z h1 → q_wp (n + 1) 178 32 [some (.ref x0)] [.int z] h1 Q) : q_wp (n + 1) 178 26 [some (.ref x0)] [] h Q := by
  refine wp_loc rfl rfl ?_
  refine wp_bipush (v := 30) rfl (by decide) ?_
  exact wp_callI (av := [.ref x0, .int 30]) rfl rfl rfl (by decide) rfl rfl rfl hm hc w
theorem b178_32 {n : Nat} {h : q_Hp} {Q : Option Value → q_Hp → Prop} {x0 : Nat} {s0 : Int32} (wt : ¬ s0 = 0 → q_wp n 178 44 [some (.ref x0)] [] h Q) (wf : s0 = 0 → q_wp n 178 35 [some (.ref x0)] [] h Q) : q_wp n 178 32 [some (.ref x0)] [.int s0] h Q := by
  exact wp_ifne (tgt := 44) rfl (by decide) wt wf
theorem b178_35 {n : Nat} {h : q_Hp} {Q : Option Value → q_Hp → Prop} {x0 : Nat} {m : Nat} {P : Int32 → q_Hp → Prop} (hc : q_mI m 168 [.ref x0, .int 38] h P) (hm : m ≤ n) (w : ∀ (z : Int32) (h1 : q_Hp), P z h1 → q_wp (n + 1) 178 41 [some (.ref x0)] [.int z] h1 Q) : q_wp (n + 1) 178 35 [some (.ref x0)] [] h Q := by
  refine wp_loc rfl rfl ?_
  refine wp_bipush (v := 38) rfl (by decide) ?_
  exact wp_callI (av := [.ref x0, .int 38]) rfl rfl rfl (by decide) rfl rfl rfl hm hc w
theorem b178_41 {n : Nat} {h : q_Hp} {Q : Option Value → q_Hp → Prop} {x0 : Nat} {s0 : Int32} (wt : s0 = 0 → q_wp n 178 51 [some (.ref x0)] [] h Q) (wf : ¬ s0 = 0 → q_wp n 178 44 [some (.ref x0)] [] h Q) : q_wp n 178 41 [some (.ref x0)] [.int s0] h Q := by
  exact wp_ifeq (tgt := 51) rfl (by decide) wt wf
theorem b178_44 {n : Nat} {h : q_Hp} {Q : Option Value → q_Hp → Prop} {x0 : Nat} {m : Nat} {P : q_Hp → Prop} (hc : q_mV m 169 [.ref x0] h P) (hm : m ≤ n) (w : ∀ h1 : q_Hp, P h1 → q_wp (n + 1) 178 48 [some (.ref x0)] [] h1 Q) : q_wp (n + 1) 178 44 [some (.ref x0)] [] h Q := by
  refine wp_loc rfl rfl ?_
  exact wp_callV (av := [.ref x0]) rfl rfl rfl (by decide) rfl rfl rfl hm hc w
theorem b178_48 {n : Nat} {h : q_Hp} {Q : Option Value → q_Hp → Prop} {x0 : Nat} (w : q_wp n 178 56 [some (.ref x0)] [] h Q) : q_wp n 178 48 [some (.ref x0)] [] h Q := by
  refine wp_goto (tgt := 56) rfl (by decide) ?_
  exact w
theorem b178_51 {n : Nat} {h : q_Hp} {Q : Option Value → q_Hp → Prop} {x0 : Nat} {m : Nat} {P : q_Hp → Prop} (hc : q_mV m 167 [.ref x0, .int 1] h P) (hm : m ≤ n) (w : ∀ h1 : q_Hp, P h1 → q_wp (n + 1) 178 56 [some (.ref x0)] [] h1 Q) : q_wp (n + 1) 178 51 [some (.ref x0)] [] h Q := by
  refine wp_loc rfl rfl ?_
  refine wp_iconst (v := 1) rfl (by decide) ?_
  exact wp_callV (av := [.ref x0, .int 1]) rfl rfl rfl (by decide) rfl rfl rfl hm hc w
theorem b178_56 {n : Nat} {h : q_Hp} {Q : Option Value → q_Hp → Prop} {x0 : Nat} {m : Nat} {P : q_Hp → Prop} (hc : q_mV m 181 [.ref x0] h P) (hm : m ≤ n) (w : ∀ h1 : q_Hp, P h1 → q_wp (n + 1) 178 60 [some (.ref x0)] [] h1 Q) : q_wp (n + 1) 178 56 [some (.ref x0)] [] h Q := by
  refine wp_loc rfl rfl ?_
  exact wp_callV (av := [.ref x0]) rfl rfl rfl (by decide) rfl rfl rfl hm hc w
theorem b178_60 {n : Nat} {h : q_Hp} {Q : Option Value → q_Hp → Prop} {x0 : Nat} {m : Nat} {P : q_Hp → Prop} (hc : q_mV m 170 [.ref x0, .int 26] h P) (hm : m ≤ n) (w : ∀ h1 : q_Hp, P h1 → q_wp (n + 1) 178 66 [some (.ref x0)] [] h1 Q) : q_wp (n + 1) 178 60 [some (.ref x0)] [] h Q := by
  refine wp_loc rfl rfl ?_
  refine wp_bipush (v := 26) rfl (by decide) ?_
  exact wp_callV (av := [.ref x0, .int 26]) rfl rfl rfl (by decide) rfl rfl rfl hm hc w
theorem b178_66 {n : Nat} {h : q_Hp} {Q : Option Value → q_Hp → Prop} {x0 : Nat} (q : Q none h) : q_wp n 178 66 [some (.ref x0)] [] h Q := by
  exact wp_ret rfl rfl q
theorem b179_0 {n : Nat} {h : q_Hp} {Q : Option Value → q_Hp → Prop} {x0 : Nat} {m : Nat} {P : Int32 → q_Hp → Prop} (hc : q_mI m 168 [.ref x0, .int 11] h P) (hm : m ≤ n) (w : ∀ (z : Int32) (h1 : q_Hp), P z h1 → q_wp (n + 1) 179 6 [some (.ref x0)] [.int z] h1 Q) : q_wp (n + 1) 179 0 [some (.ref x0)] [] h Q := by
  refine wp_loc rfl rfl ?_
  refine wp_bipush (v := 11) rfl (by decide) ?_
  exact wp_callI (av := [.ref x0, .int 11]) rfl rfl rfl (by decide) rfl rfl rfl hm hc w
theorem b179_6 {n : Nat} {h : q_Hp} {Q : Option Value → q_Hp → Prop} {x0 : Nat} {s0 : Int32} (wt : ¬ s0 = 0 → q_wp n 179 36 [some (.ref x0)] [] h Q) (wf : s0 = 0 → q_wp n 179 9 [some (.ref x0)] [] h Q) : q_wp n 179 6 [some (.ref x0)] [.int s0] h Q := by
  exact wp_ifne (tgt := 36) rfl (by decide) wt wf
theorem b179_9 {n : Nat} {h : q_Hp} {Q : Option Value → q_Hp → Prop} {x0 : Nat} {m : Nat} {P : Int32 → q_Hp → Prop} (hc : q_mI m 168 [.ref x0, .int 12] h P) (hm : m ≤ n) (w : ∀ (z : Int32) (h1 : q_Hp), P z h1 → q_wp (n + 1) 179 15 [some (.ref x0)] [.int z] h1 Q) : q_wp (n + 1) 179 9 [some (.ref x0)] [] h Q := by
  refine wp_loc rfl rfl ?_
  refine wp_bipush (v := 12) rfl (by decide) ?_
  exact wp_callI (av := [.ref x0, .int 12]) rfl rfl rfl (by decide) rfl rfl rfl hm hc w
theorem b179_15 {n : Nat} {h : q_Hp} {Q : Option Value → q_Hp → Prop} {x0 : Nat} {s0 : Int32} (wt : ¬ s0 = 0 → q_wp n 179 36 [some (.ref x0)] [] h Q) (wf : s0 = 0 → q_wp n 179 18 [some (.ref x0)] [] h Q) : q_wp n 179 15 [some (.ref x0)] [.int s0] h Q := by
  exact wp_ifne (tgt := 36) rfl (by decide) wt wf
theorem b179_18 {n : Nat} {h : q_Hp} {Q : Option Value → q_Hp → Prop} {x0 : Nat} {m : Nat} {P : Int32 → q_Hp → Prop} (hc : q_mI m 168 [.ref x0, .int 13] h P) (hm : m ≤ n) (w : ∀ (z : Int32) (h1 : q_Hp), P z h1 → q_wp (n + 1) 179 24 [some (.ref x0)] [.int z] h1 Q) : q_wp (n + 1) 179 18 [some (.ref x0)] [] h Q := by
  refine wp_loc rfl rfl ?_
  refine wp_bipush (v := 13) rfl (by decide) ?_
  exact wp_callI (av := [.ref x0, .int 13]) rfl rfl rfl (by decide) rfl rfl rfl hm hc w
theorem b179_24 {n : Nat} {h : q_Hp} {Q : Option Value → q_Hp → Prop} {x0 : Nat} {s0 : Int32} (wt : ¬ s0 = 0 → q_wp n 179 36 [some (.ref x0)] [] h Q) (wf : s0 = 0 → q_wp n 179 27 [some (.ref x0)] [] h Q) : q_wp n 179 24 [some (.ref x0)] [.int s0] h Q := by
  exact wp_ifne (tgt := 36) rfl (by decide) wt wf
theorem b179_27 {n : Nat} {h : q_Hp} {Q : Option Value → q_Hp → Prop} {x0 : Nat} {m : Nat} {P : Int32 → q_Hp → Prop} (hc : q_mI m 168 [.ref x0, .int 14] h P) (hm : m ≤ n) (w : ∀ (z : Int32) (h1 : q_Hp), P z h1 → q_wp (n + 1) 179 33 [some (.ref x0)] [.int z] h1 Q) : q_wp (n + 1) 179 27 [some (.ref x0)] [] h Q := by
  refine wp_loc rfl rfl ?_
  refine wp_bipush (v := 14) rfl (by decide) ?_
  exact wp_callI (av := [.ref x0, .int 14]) rfl rfl rfl (by decide) rfl rfl rfl hm hc w
theorem b179_33 {n : Nat} {h : q_Hp} {Q : Option Value → q_Hp → Prop} {x0 : Nat} {s0 : Int32} (wt : s0 = 0 → q_wp n 179 40 [some (.ref x0)] [] h Q) (wf : ¬ s0 = 0 → q_wp n 179 36 [some (.ref x0)] [] h Q) : q_wp n 179 33 [some (.ref x0)] [.int s0] h Q := by
  exact wp_ifeq (tgt := 40) rfl (by decide) wt wf
theorem b179_36 {n : Nat} {h : q_Hp} {Q : Option Value → q_Hp → Prop} {x0 : Nat} (q : Q (some (.int 1)) h) : q_wp n 179 36 [some (.ref x0)] [] h Q := by
  refine wp_iconst (v := 1) rfl (by decide) ?_
  refine wp_goto (tgt := 41) rfl (by decide) ?_
  exact wp_ret (r := some (.int 1)) rfl rfl q
theorem b179_40 {n : Nat} {h : q_Hp} {Q : Option Value → q_Hp → Prop} {x0 : Nat} (q : Q (some (.int 0)) h) : q_wp n 179 40 [some (.ref x0)] [] h Q := by
  refine wp_iconst (v := 0) rfl (by decide) ?_
  exact wp_ret (r := some (.int 0)) rfl rfl q
theorem b180_0 {n : Nat} {h : q_Hp} {Q : Option Value → q_Hp → Prop} {x0 : Nat} {m : Nat} {P : Int32 → q_Hp → Prop} (hc : q_mI m 168 [.ref x0, .int 11] h P) (hm : m ≤ n) (w : ∀ (z : Int32) (h1 : q_Hp), P z h1 → q_wp (n + 1) 180 6 [some (.ref x0)] [.int z] h1 Q) : q_wp (n + 1) 180 0 [some (.ref x0)] [] h Q := by
  refine wp_loc rfl rfl ?_
  refine wp_bipush (v := 11) rfl (by decide) ?_
  exact wp_callI (av := [.ref x0, .int 11]) rfl rfl rfl (by decide) rfl rfl rfl hm hc w
theorem b180_6 {n : Nat} {h : q_Hp} {Q : Option Value → q_Hp → Prop} {x0 : Nat} {s0 : Int32} (wt : s0 = 0 → q_wp n 180 22 [some (.ref x0)] [] h Q) (wf : ¬ s0 = 0 → q_wp n 180 9 [some (.ref x0)] [] h Q) : q_wp n 180 6 [some (.ref x0)] [.int s0] h Q := by
  exact wp_ifeq (tgt := 22) rfl (by decide) wt wf
theorem b180_9 {n : Nat} {h : q_Hp} {Q : Option Value → q_Hp → Prop} {x0 : Nat} {m : Nat} {P : q_Hp → Prop} (hc : q_mV m 169 [.ref x0] h P) (hm : m ≤ n) (w : ∀ h1 : q_Hp, P h1 → q_wp (n + 1) 180 13 [some (.ref x0)] [] h1 Q) : q_wp (n + 1) 180 9 [some (.ref x0)] [] h Q := by
  refine wp_loc rfl rfl ?_
  exact wp_callV (av := [.ref x0]) rfl rfl rfl (by decide) rfl rfl rfl hm hc w
theorem b180_13 {n : Nat} {h : q_Hp} {Q : Option Value → q_Hp → Prop} {x0 : Nat} {m : Nat} {P : q_Hp → Prop} (hc : q_mV m 170 [.ref x0, .int 40] h P) (hm : m ≤ n) (w : ∀ h1 : q_Hp, P h1 → q_wp (n + 1) 180 19 [some (.ref x0)] [] h1 Q) : q_wp (n + 1) 180 13 [some (.ref x0)] [] h Q := by
  refine wp_loc rfl rfl ?_
  refine wp_bipush (v := 40) rfl (by decide) ?_
  exact wp_callV (av := [.ref x0, .int 40]) rfl rfl rfl (by decide) rfl rfl rfl hm hc w
theorem b180_19 {n : Nat} {h : q_Hp} {Q : Option Value → q_Hp → Prop} {x0 : Nat} (w : q_wp n 180 108 [some (.ref x0)] [] h Q) : q_wp n 180 19 [some (.ref x0)] [] h Q := by
  refine wp_goto (tgt := 108) rfl (by decide) ?_
  exact w
theorem b180_22 {n : Nat} {h : q_Hp} {Q : Option Value → q_Hp → Prop} {x0 : Nat} {m : Nat} {P : Int32 → q_Hp → Prop} (hc : q_mI m 168 [.ref x0, .int 12] h P) (hm : m ≤ n) (w : ∀ (z : Int32) (h1 : q_Hp), P z h1 → q_wp (n + 1) 180 28 [some (.ref x0)] [.int z] h1 Q) : q_wp (n + 1) 180 22 [some (.ref x0)] [] h Q := by
  refine wp_loc rfl rfl ?_
  refine wp_bipush (v := 12) rfl (by decide) ?_
  exact wp_callI (av := [.ref x0, .int 12]) rfl rfl rfl (by decide) rfl rfl rfl hm hc w
theorem b180_28 {n : Nat} {h : q_Hp} {Q : Option Value → q_Hp → Prop} {x0 : Nat} {s0 : Int32} (wt : s0 = 0 → q_wp n 180 56 [some (.ref x0)] [] h Q) (wf : ¬ s0 = 0 → q_wp n 180 31 [some (.ref x0)] [] h Q) : q_wp n 180 28 [some (.ref x0)] [.int s0] h Q := by
  exact wp_ifeq (tgt := 56) rfl (by decide) wt wf
theorem b180_31 {n : Nat} {h : q_Hp} {Q : Option Value → q_Hp → Prop} {x0 : Nat} {m : Nat} {P : q_Hp → Prop} (hc : q_mV m 169 [.ref x0] h P) (hm : m ≤ n) (w : ∀ h1 : q_Hp, P h1 → q_wp (n + 1) 180 35 [some (.ref x0)] [] h1 Q) : q_wp (n + 1) 180 31 [some (.ref x0)] [] h Q := by
  refine wp_loc rfl rfl ?_
  exact wp_callV (av := [.ref x0]) rfl rfl rfl (by decide) rfl rfl rfl hm hc w
theorem b180_35 {n : Nat} {h : q_Hp} {Q : Option Value → q_Hp → Prop} {x0 : Nat} {m : Nat} {P : q_Hp → Prop} (hc : q_mV m 170 [.ref x0, .int 40] h P) (hm : m ≤ n) (w : ∀ h1 : q_Hp, P h1 → q_wp (n + 1) 180 41 [some (.ref x0)] [] h1 Q) : q_wp (n + 1) 180 35 [some (.ref x0)] [] h Q := by
  refine wp_loc rfl rfl ?_
  refine wp_bipush (v := 40) rfl (by decide) ?_
  exact wp_callV (av := [.ref x0, .int 40]) rfl rfl rfl (by decide) rfl rfl rfl hm hc w
theorem b180_41 {n : Nat} {h : q_Hp} {Q : Option Value → q_Hp → Prop} {x0 : Nat} {m : Nat} {P : q_Hp → Prop} (hc : q_mV m 170 [.ref x0, .int 25] h P) (hm : m ≤ n) (w : ∀ h1 : q_Hp, P h1 → q_wp (n + 1) 180 47 [some (.ref x0)] [] h1 Q) : q_wp (n + 1) 180 41 [some (.ref x0)] [] h Q := by
  refine wp_loc rfl rfl ?_
  refine wp_bipush (v := 25) rfl (by decide) ?_
  exact wp_callV (av := [.ref x0, .int 25]) rfl rfl rfl (by decide) rfl rfl rfl hm hc w
theorem b180_47 {n : Nat} {h : q_Hp} {Q : Option Value → q_Hp → Prop} {x0 : Nat} {m : Nat} {P : q_Hp → Prop} (hc : q_mV m 170 [.ref x0, .int 40] h P) (hm : m ≤ n) (w : ∀ h1 : q_Hp, P h1 → q_wp (n + 1) 180 53 [some (.ref x0)] [] h1 Q) : q_wp (n + 1) 180 47 [some (.ref x0)] [] h Q := by
  refine wp_loc rfl rfl ?_
  refine wp_bipush (v := 40) rfl (by decide) ?_
  exact wp_callV (av := [.ref x0, .int 40]) rfl rfl rfl (by decide) rfl rfl rfl hm hc w
theorem b180_53 {n : Nat} {h : q_Hp} {Q : Option Value → q_Hp → Prop} {x0 : Nat} (w : q_wp n 180 108 [some (.ref x0)] [] h Q) : q_wp n 180 53 [some (.ref x0)] [] h Q := by
  refine wp_goto (tgt := 108) rfl (by decide) ?_
  exact w
theorem b180_56 {n : Nat} {h : q_Hp} {Q : Option Value → q_Hp → Prop} {x0 : Nat} {m : Nat} {P : Int32 → q_Hp → Prop} (hc : q_mI m 168 [.ref x0, .int 13] h P) (hm : m ≤ n) (w : ∀ (z : Int32) (h1 : q_Hp), P z h1 → q_wp (n + 1) 180 62 [some (.ref x0)] [.int z] h1 Q) : q_wp (n + 1) 180 56 [some (.ref x0)] [] h Q := by
  refine wp_loc rfl rfl ?_
  refine wp_bipush (v := 13) rfl (by decide) ?_
  exact wp_callI (av := [.ref x0, .int 13]) rfl rfl rfl (by decide) rfl rfl rfl hm hc w
theorem b180_62 {n : Nat} {h : q_Hp} {Q : Option Value → q_Hp → Prop} {x0 : Nat} {s0 : Int32} (wt : s0 = 0 → q_wp n 180 76 [some (.ref x0)] [] h Q) (wf : ¬ s0 = 0 → q_wp n 180 65 [some (.ref x0)] [] h Q) : q_wp n 180 62 [some (.ref x0)] [.int s0] h Q := by
  exact wp_ifeq (tgt := 76) rfl (by decide) wt wf
theorem b180_65 {n : Nat} {h : q_Hp} {Q : Option Value → q_Hp → Prop} {x0 : Nat} {m : Nat} {P : q_Hp → Prop} (hc : q_mV m 169 [.ref x0] h P) (hm : m ≤ n) (w : ∀ h1 : q_Hp, P h1 → q_wp (n + 1) 180 69 [some (.ref x0)] [] h1 Q) : q_wp (n + 1) 180 65 [some (.ref x0)] [] h Q := by
  refine wp_loc rfl rfl ?_
  exact wp_callV (av := [.ref x0]) rfl rfl rfl (by decide) rfl rfl rfl hm hc w
theorem b180_69 {n : Nat} {h : q_Hp} {Q : Option Value → q_Hp → Prop} {x0 : Nat} {m : Nat} {P : q_Hp → Prop} (hc : q_mV m 177 [.ref x0] h P) (hm : m ≤ n) (w : ∀ h1 : q_Hp, P h1 → q_wp (n + 1) 180 73 [some (.ref x0)] [] h1 Q) : q_wp (n + 1) 180 69 [some (.ref x0)] [] h Q := by
  refine wp_loc rfl rfl ?_
  exact wp_callV (av := [.ref x0]) rfl rfl rfl (by decide) rfl rfl rfl hm hc w
theorem b180_73 {n : Nat} {h : q_Hp} {Q : Option Value → q_Hp → Prop} {x0 : Nat} (w : q_wp n 180 108 [some (.ref x0)] [] h Q) : q_wp n 180 73 [some (.ref x0)] [] h Q := by
  refine wp_goto (tgt := 108) rfl (by decide) ?_
  exact w
theorem b180_76 {n : Nat} {h : q_Hp} {Q : Option Value → q_Hp → Prop} {x0 : Nat} {m : Nat} {P : q_Hp → Prop} (hc : q_mV m 169 [.ref x0] h P) (hm : m ≤ n) (w : ∀ h1 : q_Hp, P h1 → q_wp (n + 1) 180 80 [some (.ref x0)] [] h1 Q) : q_wp (n + 1) 180 76 [some (.ref x0)] [] h Q := by
  refine wp_loc rfl rfl ?_
  exact wp_callV (av := [.ref x0]) rfl rfl rfl (by decide) rfl rfl rfl hm hc w
theorem b180_80 {n : Nat} {h : q_Hp} {Q : Option Value → q_Hp → Prop} {x0 : Nat} {m : Nat} {P : q_Hp → Prop} (hc : q_mV m 170 [.ref x0, .int 40] h P) (hm : m ≤ n) (w : ∀ h1 : q_Hp, P h1 → q_wp (n + 1) 180 86 [some (.ref x0)] [] h1 Q) : q_wp (n + 1) 180 80 [some (.ref x0)] [] h Q := by
  refine wp_loc rfl rfl ?_
  refine wp_bipush (v := 40) rfl (by decide) ?_
  exact wp_callV (av := [.ref x0, .int 40]) rfl rfl rfl (by decide) rfl rfl rfl hm hc w
theorem b180_86 {n : Nat} {h : q_Hp} {Q : Option Value → q_Hp → Prop} {x0 : Nat} {m : Nat} {P : q_Hp → Prop} (hc : q_mV m 170 [.ref x0, .int 27] h P) (hm : m ≤ n) (w : ∀ h1 : q_Hp, P h1 → q_wp (n + 1) 180 92 [some (.ref x0)] [] h1 Q) : q_wp (n + 1) 180 86 [some (.ref x0)] [] h Q := by
  refine wp_loc rfl rfl ?_
  refine wp_bipush (v := 27) rfl (by decide) ?_
  exact wp_callV (av := [.ref x0, .int 27]) rfl rfl rfl (by decide) rfl rfl rfl hm hc w
theorem b180_92 {n : Nat} {h : q_Hp} {Q : Option Value → q_Hp → Prop} {x0 : Nat} {m : Nat} {P : q_Hp → Prop} (hc : q_mV m 170 [.ref x0, .int 41] h P) (hm : m ≤ n) (w : ∀ h1 : q_Hp, P h1 → q_wp (n + 1) 180 98 [some (.ref x0)] [] h1 Q) : q_wp (n + 1) 180 92 [some (.ref x0)] [] h Q := by
  refine wp_loc rfl rfl ?_
  refine wp_bipush (v := 41) rfl (by decide) ?_
  exact wp_callV (av := [.ref x0, .int 41]) rfl rfl rfl (by decide) rfl rfl rfl hm hc w
theorem b180_98 {n : Nat} {h : q_Hp} {Q : Option Value → q_Hp → Prop} {x0 : Nat} {m : Nat} {P : q_Hp → Prop} (hc : q_mV m 170 [.ref x0, .int 29] h P) (hm : m ≤ n) (w : ∀ h1 : q_Hp, P h1 → q_wp (n + 1) 180 104 [some (.ref x0)] [] h1 Q) : q_wp (n + 1) 180 98 [some (.ref x0)] [] h Q := by
  refine wp_loc rfl rfl ?_
  refine wp_bipush (v := 29) rfl (by decide) ?_
  exact wp_callV (av := [.ref x0, .int 29]) rfl rfl rfl (by decide) rfl rfl rfl hm hc w
theorem b180_104 {n : Nat} {h : q_Hp} {Q : Option Value → q_Hp → Prop} {x0 : Nat} {m : Nat} {P : q_Hp → Prop} (hc : q_mV m 181 [.ref x0] h P) (hm : m ≤ n) (w : ∀ h1 : q_Hp, P h1 → q_wp (n + 1) 180 108 [some (.ref x0)] [] h1 Q) : q_wp (n + 1) 180 104 [some (.ref x0)] [] h Q := by
  refine wp_loc rfl rfl ?_
  exact wp_callV (av := [.ref x0]) rfl rfl rfl (by decide) rfl rfl rfl hm hc w
theorem b180_108 {n : Nat} {h : q_Hp} {Q : Option Value → q_Hp → Prop} {x0 : Nat} {m : Nat} {P : q_Hp → Prop} (hc : q_mV m 170 [.ref x0, .int 26] h P) (hm : m ≤ n) (w : ∀ h1 : q_Hp, P h1 → q_wp (n + 1) 180 114 [some (.ref x0)] [] h1 Q) : q_wp (n + 1) 180 108 [some (.ref x0)] [] h Q := by
  refine wp_loc rfl rfl ?_
  refine wp_bipush (v := 26) rfl (by decide) ?_
  exact wp_callV (av := [.ref x0, .int 26]) rfl rfl rfl (by decide) rfl rfl rfl hm hc w
theorem b180_114 {n : Nat} {h : q_Hp} {Q : Option Value → q_Hp → Prop} {x0 : Nat} (q : Q none h) : q_wp n 180 114 [some (.ref x0)] [] h Q := by
  exact wp_ret rfl rfl q
theorem b181_0 {n : Nat} {h : q_Hp} {Q : Option Value → q_Hp → Prop} {x0 : Nat} (w : q_wp n 181 6 [some (.ref x0), some (.int 0), some (.int 1), some (.int 0)] [] h Q) : q_wp n 181 0 [some (.ref x0), none, none, none] [] h Q := by
  refine wp_iconst (v := 0) rfl (by decide) ?_
  refine wp_loc rfl rfl ?_
  refine wp_iconst (v := 1) rfl (by decide) ?_
  refine wp_loc rfl rfl ?_
  refine wp_iconst (v := 0) rfl (by decide) ?_
  refine wp_loc rfl rfl ?_
  exact w
theorem b181_6 {n : Nat} {h : q_Hp} {Q : Option Value → q_Hp → Prop} {x0 : Nat} {x1 : Int32} {x2 : Int32} {x3 : Int32} (wt : 1200 < x3 → q_wp n 181 177 [some (.ref x0), some (.int x1), some (.int x2), some (.int x3)] [] h Q) (wf : ¬ 1200 < x3 → q_wp n 181 13 [some (.ref x0), some (.int x1), some (.int x2), some (.int x3)] [] h Q) : q_wp n 181 6 [some (.ref x0), some (.int x1), some (.int x2), some (.int x3)] [] h Q := by
  refine wp_loc rfl rfl ?_
  refine wp_sipush (v := 1200) rfl (by decide) ?_
  exact wp_icgt (tgt := 177) rfl (by decide) wt wf
theorem b181_13 {n : Nat} {h : q_Hp} {Q : Option Value → q_Hp → Prop} {x0 : Nat} {x1 : Int32} {x2 : Int32} {x3 : Int32} (k0 : q_ok h x0 8) (wt : ¬ (qI h x0 8) = 0 → q_wp n 181 177 [some (.ref x0), some (.int x1), some (.int x2), some (.int x3)] [] h Q) (wf : (qI h x0 8) = 0 → q_wp n 181 20 [some (.ref x0), some (.int x1), some (.int x2), some (.int x3)] [] h Q) : q_wp n 181 13 [some (.ref x0), some (.int x1), some (.int x2), some (.int x3)] [] h Q := by
  refine wp_loc rfl rfl ?_
  refine wp_getI rfl rfl rfl k0 ?_
  exact wp_ifne (tgt := 177) rfl (by decide) wt wf
theorem b181_20 {n : Nat} {h : q_Hp} {Q : Option Value → q_Hp → Prop} {x0 : Nat} {x1 : Int32} {x2 : Int32} {x3 : Int32} (wt : x2 = 0 → q_wp n 181 37 [some (.ref x0), some (.int x1), some (.int x2), some (.int x3)] [] h Q) (wf : ¬ x2 = 0 → q_wp n 181 24 [some (.ref x0), some (.int x1), some (.int x2), some (.int x3)] [] h Q) : q_wp n 181 20 [some (.ref x0), some (.int x1), some (.int x2), some (.int x3)] [] h Q := by
  refine wp_loc rfl rfl ?_
  exact wp_ifeq (tgt := 37) rfl (by decide) wt wf
theorem b181_24 {n : Nat} {h : q_Hp} {Q : Option Value → q_Hp → Prop} {x0 : Nat} {x1 : Int32} {x2 : Int32} {x3 : Int32} {m : Nat} {P : Int32 → q_Hp → Prop} (hc : q_mI m 168 [.ref x0, .int 32] h P) (hm : m ≤ n) (w : ∀ (z : Int32) (h1 : q_Hp), P z h1 → q_wp (n + 1) 181 30 [some (.ref x0), some (.int x1), some (.int x2), some (.int x3)] [.int z] h1 Q) : q_wp (n + 1) 181 24 [some (.ref x0), some (.int x1), some (.int x2), some (.int x3)] [] h Q := by
  refine wp_loc rfl rfl ?_
  refine wp_bipush (v := 32) rfl (by decide) ?_
  exact wp_callI (av := [.ref x0, .int 32]) rfl rfl rfl (by decide) rfl rfl rfl hm hc w
theorem b181_30 {n : Nat} {h : q_Hp} {Q : Option Value → q_Hp → Prop} {x0 : Nat} {x1 : Int32} {x2 : Int32} {x3 : Int32} {s0 : Int32} (wt : s0 = 0 → q_wp n 181 37 [some (.ref x0), some (.int x1), some (.int x2), some (.int x3)] [] h Q) (wf : ¬ s0 = 0 → q_wp n 181 33 [some (.ref x0), some (.int x1), some (.int x2), some (.int x3)] [] h Q) : q_wp n 181 30 [some (.ref x0), some (.int x1), some (.int x2), some (.int x3)] [.int s0] h Q := by
  exact wp_ifeq (tgt := 37) rfl (by decide) wt wf
theorem b181_33 {n : Nat} {h : q_Hp} {Q : Option Value → q_Hp → Prop} {x0 : Nat} {x1 : Int32} {x2 : Int32} {x3 : Int32} {m : Nat} {P : q_Hp → Prop} (hc : q_mV m 169 [.ref x0] h P) (hm : m ≤ n) (w : ∀ h1 : q_Hp, P h1 → q_wp (n + 1) 181 37 [some (.ref x0), some (.int x1), some (.int x2), some (.int x3)] [] h1 Q) : q_wp (n + 1) 181 33 [some (.ref x0), some (.int x1), some (.int x2), some (.int x3)] [] h Q := by
  refine wp_loc rfl rfl ?_
  exact wp_callV (av := [.ref x0]) rfl rfl rfl (by decide) rfl rfl rfl hm hc w
theorem b181_37 {n : Nat} {h : q_Hp} {Q : Option Value → q_Hp → Prop} {x0 : Nat} {x1 : Int32} {x2 : Int32} {x3 : Int32} {m : Nat} {P : Int32 → q_Hp → Prop} (hc : q_mI m 168 [.ref x0, .int 34] h P) (hm : m ≤ n) (w : ∀ (z : Int32) (h1 : q_Hp), P z h1 → q_wp (n + 1) 181 43 [some (.ref x0), some (.int x1), some (.int x2), some (.int x3)] [.int z] h1 Q) : q_wp (n + 1) 181 37 [some (.ref x0), some (.int x1), some (.int x2), some (.int x3)] [] h Q := by
  refine wp_loc rfl rfl ?_
  refine wp_bipush (v := 34) rfl (by decide) ?_
  exact wp_callI (av := [.ref x0, .int 34]) rfl rfl rfl (by decide) rfl rfl rfl hm hc w
theorem b181_43 {n : Nat} {h : q_Hp} {Q : Option Value → q_Hp → Prop} {x0 : Nat} {x1 : Int32} {x2 : Int32} {x3 : Int32} {s0 : Int32} (wt : s0 = 0 → q_wp n 181 73 [some (.ref x0), some (.int x1), some (.int s0), some (.int x3)] [] h Q) (wf : ¬ s0 = 0 → q_wp n 181 48 [some (.ref x0), some (.int x1), some (.int s0), some (.int x3)] [] h Q) : q_wp n 181 43 [some (.ref x0), some (.int x1), some (.int x2), some (.int x3)] [.int s0] h Q := by
  refine wp_loc rfl rfl ?_
  refine wp_loc rfl rfl ?_
  exact wp_ifeq (tgt := 73) rfl (by decide) wt wf
theorem b181_48 {n : Nat} {h : q_Hp} {Q : Option Value → q_Hp → Prop} {x0 : Nat} {x1 : Int32} {x2 : Int32} {x3 : Int32} (wt : 8 ≤ x1 → q_wp n 181 59 [some (.ref x0), some (.int x1), some (.int x2), some (.int x3)] [.ref x0] h Q) (wf : ¬ 8 ≤ x1 → q_wp n 181 55 [some (.ref x0), some (.int x1), some (.int x2), some (.int x3)] [.ref x0] h Q) : q_wp n 181 48 [some (.ref x0), some (.int x1), some (.int x2), some (.int x3)] [] h Q := by
  refine wp_loc rfl rfl ?_
  refine wp_loc rfl rfl ?_
  refine wp_bipush (v := 8) rfl (by decide) ?_
  exact wp_icge (tgt := 59) rfl (by decide) wt wf
theorem b181_55 {n : Nat} {h : q_Hp} {Q : Option Value → q_Hp → Prop} {x0 : Nat} {x1 : Int32} {x2 : Int32} {x3 : Int32} {s0 : Nat} (w : q_wp n 181 60 [some (.ref x0), some (.int x1), some (.int x2), some (.int x3)] [.int 1, .ref s0] h Q) : q_wp n 181 55 [some (.ref x0), some (.int x1), some (.int x2), some (.int x3)] [.ref s0] h Q := by
  refine wp_iconst (v := 1) rfl (by decide) ?_
  refine wp_goto (tgt := 60) rfl (by decide) ?_
  exact w
theorem b181_59 {n : Nat} {h : q_Hp} {Q : Option Value → q_Hp → Prop} {x0 : Nat} {x1 : Int32} {x2 : Int32} {x3 : Int32} {s0 : Nat} (w : q_wp n 181 60 [some (.ref x0), some (.int x1), some (.int x2), some (.int x3)] [.int 0, .ref s0] h Q) : q_wp n 181 59 [some (.ref x0), some (.int x1), some (.int x2), some (.int x3)] [.ref s0] h Q := by
  refine wp_iconst (v := 0) rfl (by decide) ?_
  exact w
theorem b181_60 {n : Nat} {h : q_Hp} {Q : Option Value → q_Hp → Prop} {x0 : Nat} {x1 : Int32} {x2 : Int32} {x3 : Int32} {s0 : Int32} {s1 : Nat} {m : Nat} {P : q_Hp → Prop} (hc : q_mV m 171 [.ref s1, .int s0] h P) (hm : m ≤ n) (w : ∀ h1 : q_Hp, P h1 → q_wp (n + 1) 181 63 [some (.ref x0), some (.int x1), some (.int x2), some (.int x3)] [] h1 Q) : q_wp (n + 1) 181 60 [some (.ref x0), some (.int x1), some (.int x2), some (.int x3)] [.int s0, .ref s1] h Q := by
  exact wp_callV (av := [.ref s1, .int s0]) rfl rfl rfl (by decide) rfl rfl rfl hm hc w
theorem b181_63 {n : Nat} {h : q_Hp} {Q : Option Value → q_Hp → Prop} {x0 : Nat} {x1 : Int32} {x2 : Int32} {x3 : Int32} {m : Nat} {P : q_Hp → Prop} (hc : q_mV m 169 [.ref x0] h P) (hm : m ≤ n) (w : ∀ h1 : q_Hp, P h1 → q_wp (n + 1) 181 67 [some (.ref x0), some (.int x1), some (.int x2), some (.int x3)] [] h1 Q) : q_wp (n + 1) 181 63 [some (.ref x0), some (.int x1), some (.int x2), some (.int x3)] [] h Q := by
  refine wp_loc rfl rfl ?_
  exact wp_callV (av := [.ref x0]) rfl rfl rfl (by decide) rfl rfl rfl hm hc w
theorem b181_67 {n : Nat} {h : q_Hp} {Q : Option Value → q_Hp → Prop} {x0 : Nat} {x1 : Int32} {x2 : Int32} {x3 : Int32} (w : q_wp n 181 171 [some (.ref x0), some (.int (x1 + 1)), some (.int x2), some (.int x3)] [] h Q) : q_wp n 181 67 [some (.ref x0), some (.int x1), some (.int x2), some (.int x3)] [] h Q := by
  refine wp_iinc (v := 1) rfl rfl (by decide) rfl ?_
  refine wp_goto (tgt := 171) rfl (by decide) ?_
  exact w
theorem b181_73 {n : Nat} {h : q_Hp} {Q : Option Value → q_Hp → Prop} {x0 : Nat} {x1 : Int32} {x2 : Int32} {x3 : Int32} {m : Nat} {P : Int32 → q_Hp → Prop} (hc : q_mI m 168 [.ref x0, .int 41] h P) (hm : m ≤ n) (w : ∀ (z : Int32) (h1 : q_Hp), P z h1 → q_wp (n + 1) 181 79 [some (.ref x0), some (.int x1), some (.int x2), some (.int x3)] [.int z] h1 Q) : q_wp (n + 1) 181 73 [some (.ref x0), some (.int x1), some (.int x2), some (.int x3)] [] h Q := by
  refine wp_loc rfl rfl ?_
  refine wp_bipush (v := 41) rfl (by decide) ?_
  exact wp_callI (av := [.ref x0, .int 41]) rfl rfl rfl (by decide) rfl rfl rfl hm hc w
theorem b181_79 {n : Nat} {h : q_Hp} {Q : Option Value → q_Hp → Prop} {x0 : Nat} {x1 : Int32} {x2 : Int32} {x3 : Int32} {s0 : Int32} (wt : s0 = 0 → q_wp n 181 89 [some (.ref x0), some (.int x1), some (.int x2), some (.int x3)] [] h Q) (wf : ¬ s0 = 0 → q_wp n 181 82 [some (.ref x0), some (.int x1), some (.int x2), some (.int x3)] [] h Q) : q_wp n 181 79 [some (.ref x0), some (.int x1), some (.int x2), some (.int x3)] [.int s0] h Q := by
  exact wp_ifeq (tgt := 89) rfl (by decide) wt wf
theorem b181_82 {n : Nat} {h : q_Hp} {Q : Option Value → q_Hp → Prop} {x0 : Nat} {x1 : Int32} {x2 : Int32} {x3 : Int32} {m : Nat} {P : q_Hp → Prop} (hc : q_mV m 169 [.ref x0] h P) (hm : m ≤ n) (w : ∀ h1 : q_Hp, P h1 → q_wp (n + 1) 181 86 [some (.ref x0), some (.int x1), some (.int x2), some (.int x3)] [] h1 Q) : q_wp (n + 1) 181 82 [some (.ref x0), some (.int x1), some (.int x2), some (.int x3)] [] h Q := by
  refine wp_loc rfl rfl ?_
  exact wp_callV (av := [.ref x0]) rfl rfl rfl (by decide) rfl rfl rfl hm hc w
theorem b181_86 {n : Nat} {h : q_Hp} {Q : Option Value → q_Hp → Prop} {x0 : Nat} {x1 : Int32} {x2 : Int32} {x3 : Int32} (w : q_wp n 181 107 [some (.ref x0), some (.int x1), some (.int x2), some (.int x3)] [] h Q) : q_wp n 181 86 [some (.ref x0), some (.int x1), some (.int x2), some (.int x3)] [] h Q := by
  refine wp_goto (tgt := 107) rfl (by decide) ?_
  exact w
theorem b181_89 {n : Nat} {h : q_Hp} {Q : Option Value → q_Hp → Prop} {x0 : Nat} {x1 : Int32} {x2 : Int32} {x3 : Int32} {m : Nat} {P : q_Hp → Prop} (hc : q_mV m 170 [.ref x0, .int 40] h P) (hm : m ≤ n) (w : ∀ h1 : q_Hp, P h1 → q_wp (n + 1) 181 95 [some (.ref x0), some (.int x1), some (.int x2), some (.int x3)] [] h1 Q) : q_wp (n + 1) 181 89 [some (.ref x0), some (.int x1), some (.int x2), some (.int x3)] [] h Q := by
  refine wp_loc rfl rfl ?_
  refine wp_bipush (v := 40) rfl (by decide) ?_
  exact wp_callV (av := [.ref x0, .int 40]) rfl rfl rfl (by decide) rfl rfl rfl hm hc w
theorem b181_95 {n : Nat} {h : q_Hp} {Q : Option Value → q_Hp → Prop} {x0 : Nat} {x1 : Int32} {x2 : Int32} {x3 : Int32} {m : Nat} {P : q_Hp → Prop} (hc : q_mV m 170 [.ref x0, .int 27] h P) (hm : m ≤ n) (w : ∀ h1 : q_Hp, P h1 → q_wp (n + 1) 181 101 [some (.ref x0), some (.int x1), some (.int x2), some (.int x3)] [] h1 Q) : q_wp (n + 1) 181 95 [some (.ref x0), some (.int x1), some (.int x2), some (.int x3)] [] h Q := by
  refine wp_loc rfl rfl ?_
  refine wp_bipush (v := 27) rfl (by decide) ?_
  exact wp_callV (av := [.ref x0, .int 27]) rfl rfl rfl (by decide) rfl rfl rfl hm hc w
theorem b181_101 {n : Nat} {h : q_Hp} {Q : Option Value → q_Hp → Prop} {x0 : Nat} {x1 : Int32} {x2 : Int32} {x3 : Int32} {m : Nat} {P : q_Hp → Prop} (hc : q_mV m 170 [.ref x0, .int 41] h P) (hm : m ≤ n) (w : ∀ h1 : q_Hp, P h1 → q_wp (n + 1) 181 107 [some (.ref x0), some (.int x1), some (.int x2), some (.int x3)] [] h1 Q) : q_wp (n + 1) 181 101 [some (.ref x0), some (.int x1), some (.int x2), some (.int x3)] [] h Q := by
  refine wp_loc rfl rfl ?_
  refine wp_bipush (v := 41) rfl (by decide) ?_
  exact wp_callV (av := [.ref x0, .int 41]) rfl rfl rfl (by decide) rfl rfl rfl hm hc w
theorem b181_107 {n : Nat} {h : q_Hp} {Q : Option Value → q_Hp → Prop} {x0 : Nat} {x1 : Int32} {x2 : Int32} {x3 : Int32} (wt : x1 ≤ 0 → q_wp n 181 130 [some (.ref x0), some (.int x1), some (.int x2), some (.int x3)] [] h Q) (wf : ¬ x1 ≤ 0 → q_wp n 181 111 [some (.ref x0), some (.int x1), some (.int x2), some (.int x3)] [] h Q) : q_wp n 181 107 [some (.ref x0), some (.int x1), some (.int x2), some (.int x3)] [] h Q := by
  refine wp_loc rfl rfl ?_
  exact wp_ifle (tgt := 130) rfl (by decide) wt wf
theorem b181_111 {n : Nat} {h : q_Hp} {Q : Option Value → q_Hp → Prop} {x0 : Nat} {x1 : Int32} {x2 : Int32} {x3 : Int32} {m : Nat} {P : Int32 → q_Hp → Prop} (hc : q_mI m 168 [.ref x0, .int 35] h P) (hm : m ≤ n) (w : ∀ (z : Int32) (h1 : q_Hp), P z h1 → q_wp (n + 1) 181 117 [some (.ref x0), some (.int x1), some (.int x2), some (.int x3)] [.int z] h1 Q) : q_wp (n + 1) 181 111 [some (.ref x0), some (.int x1), some (.int x2), some (.int x3)] [] h Q := by
  refine wp_loc rfl rfl ?_
  refine wp_bipush (v := 35) rfl (by decide) ?_
  exact wp_callI (av := [.ref x0, .int 35]) rfl rfl rfl (by decide) rfl rfl rfl hm hc w
theorem b181_117 {n : Nat} {h : q_Hp} {Q : Option Value → q_Hp → Prop} {x0 : Nat} {x1 : Int32} {x2 : Int32} {x3 : Int32} {s0 : Int32} (wt : s0 = 0 → q_wp n 181 130 [some (.ref x0), some (.int x1), some (.int x2), some (.int x3)] [] h Q) (wf : ¬ s0 = 0 → q_wp n 181 120 [some (.ref x0), some (.int x1), some (.int x2), some (.int x3)] [] h Q) : q_wp n 181 117 [some (.ref x0), some (.int x1), some (.int x2), some (.int x3)] [.int s0] h Q := by
  exact wp_ifeq (tgt := 130) rfl (by decide) wt wf
theorem b181_120 {n : Nat} {h : q_Hp} {Q : Option Value → q_Hp → Prop} {x0 : Nat} {x1 : Int32} {x2 : Int32} {x3 : Int32} {m : Nat} {P : q_Hp → Prop} (hc : q_mV m 169 [.ref x0] h P) (hm : m ≤ n) (w : ∀ h1 : q_Hp, P h1 → q_wp (n + 1) 181 124 [some (.ref x0), some (.int x1), some (.int x2), some (.int x3)] [] h1 Q) : q_wp (n + 1) 181 120 [some (.ref x0), some (.int x1), some (.int x2), some (.int x3)] [] h Q := by
  refine wp_loc rfl rfl ?_
  exact wp_callV (av := [.ref x0]) rfl rfl rfl (by decide) rfl rfl rfl hm hc w
theorem b181_124 {n : Nat} {h : q_Hp} {Q : Option Value → q_Hp → Prop} {x0 : Nat} {x1 : Int32} {x2 : Int32} {x3 : Int32} (w : q_wp n 181 107 [some (.ref x0), some (.int (x1 + (-1))), some (.int x2), some (.int x3)] [] h Q) : q_wp n 181 124 [some (.ref x0), some (.int x1), some (.int x2), some (.int x3)] [] h Q := by
  refine wp_iinc (v := (-1)) rfl rfl (by decide) rfl ?_
  refine wp_goto (tgt := 107) rfl (by decide) ?_
  exact w
theorem b181_130 {n : Nat} {h : q_Hp} {Q : Option Value → q_Hp → Prop} {x0 : Nat} {x1 : Int32} {x2 : Int32} {x3 : Int32} {m : Nat} {P : Int32 → q_Hp → Prop} (hc : q_mI m 168 [.ref x0, .int 31] h P) (hm : m ≤ n) (w : ∀ (z : Int32) (h1 : q_Hp), P z h1 → q_wp (n + 1) 181 136 [some (.ref x0), some (.int x1), some (.int x2), some (.int x3)] [.int z] h1 Q) : q_wp (n + 1) 181 130 [some (.ref x0), some (.int x1), some (.int x2), some (.int x3)] [] h Q := by
  refine wp_loc rfl rfl ?_
  refine wp_bipush (v := 31) rfl (by decide) ?_
  exact wp_callI (av := [.ref x0, .int 31]) rfl rfl rfl (by decide) rfl rfl rfl hm hc w
theorem b181_136 {n : Nat} {h : q_Hp} {Q : Option Value → q_Hp → Prop} {x0 : Nat} {x1 : Int32} {x2 : Int32} {x3 : Int32} {s0 : Int32} (wt : ¬ s0 = 0 → q_wp n 181 167 [some (.ref x0), some (.int x1), some (.int x2), some (.int x3)] [] h Q) (wf : s0 = 0 → q_wp n 181 139 [some (.ref x0), some (.int x1), some (.int x2), some (.int x3)] [] h Q) : q_wp n 181 136 [some (.ref x0), some (.int x1), some (.int x2), some (.int x3)] [.int s0] h Q := by
  exact wp_ifne (tgt := 167) rfl (by decide) wt wf
theorem b181_139 {n : Nat} {h : q_Hp} {Q : Option Value → q_Hp → Prop} {x0 : Nat} {x1 : Int32} {x2 : Int32} {x3 : Int32} {m : Nat} {P : Int32 → q_Hp → Prop} (hc : q_mI m 168 [.ref x0, .int 32] h P) (hm : m ≤ n) (w : ∀ (z : Int32) (h1 : q_Hp), P z h1 → q_wp (n + 1) 181 145 [some (.ref x0), some (.int x1), some (.int x2), some (.int x3)] [.int z] h1 Q) : q_wp (n + 1) 181 139 [some (.ref x0), some (.int x1), some (.int x2), some (.int x3)] [] h Q := by
  refine wp_loc rfl rfl ?_
  refine wp_bipush (v := 32) rfl (by decide) ?_
  exact wp_callI (av := [.ref x0, .int 32]) rfl rfl rfl (by decide) rfl rfl rfl hm hc w
theorem b181_145 {n : Nat} {h : q_Hp} {Q : Option Value → q_Hp → Prop} {x0 : Nat} {x1 : Int32} {x2 : Int32} {x3 : Int32} {s0 : Int32} (wt : ¬ s0 = 0 → q_wp n 181 167 [some (.ref x0), some (.int x1), some (.int x2), some (.int x3)] [] h Q) (wf : s0 = 0 → q_wp n 181 148 [some (.ref x0), some (.int x1), some (.int x2), some (.int x3)] [] h Q) : q_wp n 181 145 [some (.ref x0), some (.int x1), some (.int x2), some (.int x3)] [.int s0] h Q := by
  exact wp_ifne (tgt := 167) rfl (by decide) wt wf
theorem b181_148 {n : Nat} {h : q_Hp} {Q : Option Value → q_Hp → Prop} {x0 : Nat} {x1 : Int32} {x2 : Int32} {x3 : Int32} {m : Nat} {P : Int32 → q_Hp → Prop} (hc : q_mI m 168 [.ref x0, .int 33] h P) (hm : m ≤ n) (w : ∀ (z : Int32) (h1 : q_Hp), P z h1 → q_wp (n + 1) 181 154 [some (.ref x0), some (.int x1), some (.int x2), some (.int x3)] [.int z] h1 Q) : q_wp (n + 1) 181 148 [some (.ref x0), some (.int x1), some (.int x2), some (.int x3)] [] h Q := by
  refine wp_loc rfl rfl ?_
  refine wp_bipush (v := 33) rfl (by decide) ?_
  exact wp_callI (av := [.ref x0, .int 33]) rfl rfl rfl (by decide) rfl rfl rfl hm hc w
theorem b181_154 {n : Nat} {h : q_Hp} {Q : Option Value → q_Hp → Prop} {x0 : Nat} {x1 : Int32} {x2 : Int32} {x3 : Int32} {s0 : Int32} (wt : ¬ s0 = 0 → q_wp n 181 167 [some (.ref x0), some (.int x1), some (.int x2), some (.int x3)] [] h Q) (wf : s0 = 0 → q_wp n 181 157 [some (.ref x0), some (.int x1), some (.int x2), some (.int x3)] [] h Q) : q_wp n 181 154 [some (.ref x0), some (.int x1), some (.int x2), some (.int x3)] [.int s0] h Q := by
  exact wp_ifne (tgt := 167) rfl (by decide) wt wf
theorem b181_157 {n : Nat} {h : q_Hp} {Q : Option Value → q_Hp → Prop} {x0 : Nat} {x1 : Int32} {x2 : Int32} {x3 : Int32} (wt : x1 ≤ 0 → q_wp n 181 166 [some (.ref x0), some (.int x1), some (.int x2), some (.int x3)] [] h Q) (wf : ¬ x1 ≤ 0 → q_wp n 181 161 [some (.ref x0), some (.int x1), some (.int x2), some (.int x3)] [] h Q) : q_wp n 181 157 [some (.ref x0), some (.int x1), some (.int x2), some (.int x3)] [] h Q := by
  refine wp_loc rfl rfl ?_
  exact wp_ifle (tgt := 166) rfl (by decide) wt wf
theorem b181_161 {n : Nat} {h : q_Hp} {Q : Option Value → q_Hp → Prop} {x0 : Nat} {x1 : Int32} {x2 : Int32} {x3 : Int32} {m : Nat} {P : q_Hp → Prop} (hc : q_mV m 167 [.ref x0, .int 1] h P) (hm : m ≤ n) (w : ∀ h1 : q_Hp, P h1 → q_wp (n + 1) 181 166 [some (.ref x0), some (.int x1), some (.int x2), some (.int x3)] [] h1 Q) : q_wp (n + 1) 181 161 [some (.ref x0), some (.int x1), some (.int x2), some (.int x3)] [] h Q := by
  refine wp_loc rfl rfl ?_
  refine wp_iconst (v := 1) rfl (by decide) ?_
  exact wp_callV (av := [.ref x0, .int 1]) rfl rfl rfl (by decide) rfl rfl rfl hm hc w
theorem b181_166 {n : Nat} {h : q_Hp} {Q : Option Value → q_Hp → Prop} {x0 : Nat} {x1 : Int32} {x2 : Int32} {x3 : Int32} (q : Q none h) : q_wp n 181 166 [some (.ref x0), some (.int x1), some (.int x2), some (.int x3)] [] h Q := by
  exact wp_ret rfl rfl q
theorem b181_167 {n : Nat} {h : q_Hp} {Q : Option Value → q_Hp → Prop} {x0 : Nat} {x1 : Int32} {x2 : Int32} {x3 : Int32} {m : Nat} {P : q_Hp → Prop} (hc : q_mV m 169 [.ref x0] h P) (hm : m ≤ n) (w : ∀ h1 : q_Hp, P h1 → q_wp (n + 1) 181 171 [some (.ref x0), some (.int x1), some (.int x2), some (.int x3)] [] h1 Q) : q_wp (n + 1) 181 167 [some (.ref x0), some (.int x1), some (.int x2), some (.int x3)] [] h Q := by
  refine wp_loc rfl rfl ?_
  exact wp_callV (av := [.ref x0]) rfl rfl rfl (by decide) rfl rfl rfl hm hc w
theorem b181_171 {n : Nat} {h : q_Hp} {Q : Option Value → q_Hp → Prop} {x0 : Nat} {x1 : Int32} {x2 : Int32} {x3 : Int32} (w : q_wp n 181 6 [some (.ref x0), some (.int x1), some (.int x2), some (.int (x3 + 1))] [] h Q) : q_wp n 181 171 [some (.ref x0), some (.int x1), some (.int x2), some (.int x3)] [] h Q := by
  refine wp_iinc (v := 1) rfl rfl (by decide) rfl ?_
  refine wp_goto (tgt := 6) rfl (by decide) ?_
  exact w
theorem b181_177 {n : Nat} {h : q_Hp} {Q : Option Value → q_Hp → Prop} {x0 : Nat} {x1 : Int32} {x2 : Int32} {x3 : Int32} (q : Q none h) : q_wp n 181 177 [some (.ref x0), some (.int x1), some (.int x2), some (.int x3)] [] h Q := by
  exact wp_ret rfl rfl q
theorem b182_0 {n : Nat} {h : q_Hp} {Q : Option Value → q_Hp → Prop} {x0 : Nat} {m : Nat} {P : q_Hp → Prop} (hc : q_mV m 169 [.ref x0] h P) (hm : m ≤ n) (w : ∀ h1 : q_Hp, P h1 → q_wp (n + 1) 182 4 [some (.ref x0), none, none] [] h1 Q) : q_wp (n + 1) 182 0 [some (.ref x0), none, none] [] h Q := by
  refine wp_loc rfl rfl ?_
  exact wp_callV (av := [.ref x0]) rfl rfl rfl (by decide) rfl rfl rfl hm hc w
theorem b182_4 {n : Nat} {h : q_Hp} {Q : Option Value → q_Hp → Prop} {x0 : Nat} {v0 : Nat} (k0 : q_ok h x0 8) (e0 : qR h x0 0 = v0) {m : Nat} {P : Int64 → q_Hp → Prop} (hc : q_mJ m 190 [.ref v0, .int (qI h x0 7)] h P) (hm : m ≤ n) (w : ∀ (z : Int64) (h1 : q_Hp), P z h1 → q_wp (n + 1) 182 15 [some (.ref x0), none, none] [.long z] h1 Q) : q_wp (n + 1) 182 4 [some (.ref x0), none, none] [] h Q := by
  refine wp_loc rfl rfl ?_
  refine wp_getR rfl rfl rfl rfl k0 e0 ?_
  refine wp_loc rfl rfl ?_
  refine wp_getI rfl rfl rfl k0 ?_
  exact wp_callJ (av := [.ref v0, .int (qI h x0 7)]) rfl rfl rfl (by decide) rfl rfl rfl hm hc w
theorem b182_15 {n : Nat} {h : q_Hp} {Q : Option Value → q_Hp → Prop} {x0 : Nat} {s0 : Int64} (k0 : q_ok h x0 8) (wt : 10 ≤ (qI h x0 6) → q_wp n 182 30 [some (.ref x0), some (.long s0), none] [.ref x0] h Q) (wf : ¬ 10 ≤ (qI h x0 6) → q_wp n 182 26 [some (.ref x0), some (.long s0), none] [.ref x0] h Q) : q_wp n 182 15 [some (.ref x0), none, none] [.long s0] h Q := by
  refine wp_loc rfl rfl ?_
  refine wp_loc rfl rfl ?_
  refine wp_loc rfl rfl ?_
  refine wp_getI rfl rfl rfl k0 ?_
  refine wp_bipush (v := 10) rfl (by decide) ?_
  exact wp_icge (tgt := 30) rfl (by decide) wt wf
theorem b182_26 {n : Nat} {h : q_Hp} {Q : Option Value → q_Hp → Prop} {x0 : Nat} {x1 : Int64} {s0 : Nat} (w : q_wp n 182 31 [some (.ref x0), some (.long x1), none] [.int 1, .ref s0] h Q) : q_wp n 182 26 [some (.ref x0), some (.long x1), none] [.ref s0] h Q := by
  refine wp_iconst (v := 1) rfl (by decide) ?_
  refine wp_goto (tgt := 31) rfl (by decide) ?_
  exact w
theorem b182_30 {n : Nat} {h : q_Hp} {Q : Option Value → q_Hp → Prop} {x0 : Nat} {x1 : Int64} {s0 : Nat} (w : q_wp n 182 31 [some (.ref x0), some (.long x1), none] [.int 0, .ref s0] h Q) : q_wp n 182 30 [some (.ref x0), some (.long x1), none] [.ref s0] h Q := by
  refine wp_iconst (v := 0) rfl (by decide) ?_
  exact w
theorem b182_31 {n : Nat} {h : q_Hp} {Q : Option Value → q_Hp → Prop} {x0 : Nat} {x1 : Int64} {s0 : Int32} {s1 : Nat} {m : Nat} {P : q_Hp → Prop} (hc : q_mV m 172 [.ref s1, .int s0] h P) (hm : m ≤ n) (w : ∀ h1 : q_Hp, P h1 → q_wp (n + 1) 182 34 [some (.ref x0), some (.long x1), none] [] h1 Q) : q_wp (n + 1) 182 31 [some (.ref x0), some (.long x1), none] [.int s0, .ref s1] h Q := by
  exact wp_callV (av := [.ref s1, .int s0]) rfl rfl rfl (by decide) rfl rfl rfl hm hc w
theorem b182_34 {n : Nat} {h : q_Hp} {Q : Option Value → q_Hp → Prop} {x0 : Nat} {x1 : Int64} (k0 : q_ok h x0 8) (wt : 10 ≤ (qI h x0 6) → q_wp n 182 63 [some (.ref x0), some (.long x1), none] [] h Q) (wf : ¬ 10 ≤ (qI h x0 6) → q_wp n 182 43 [some (.ref x0), some (.long x1), none] [] h Q) : q_wp n 182 34 [some (.ref x0), some (.long x1), none] [] h Q := by
  refine wp_loc rfl rfl ?_
  refine wp_getI rfl rfl rfl k0 ?_
  refine wp_bipush (v := 10) rfl (by decide) ?_
  exact wp_icge (tgt := 63) rfl (by decide) wt wf
theorem b182_43 {n : Nat} {h : q_Hp} {Q : Option Value → q_Hp → Prop} {x0 : Nat} {x1 : Int64} {v0 : Nat} (k0 : q_ok h x0 8) (e0 : qR h x0 2 = v0) (k1 : q_ok h v0 21) (i0 : q_in (qI h x0 6) (qK h v0).2) (w : q_wp n 182 63 [some (.ref x0), some (.long x1), none] [] (q_sI (q_sL h v0 ((qI h x0 6 : Int32).toNatClampNeg) x1) x0 6 ((qI h x0 6) + 1)) Q) : q_wp n 182 43 [some (.ref x0), some (.long x1), none] [] h Q := by
  refine wp_loc rfl rfl ?_
  refine wp_getR rfl rfl rfl rfl k0 e0 ?_
  refine wp_loc rfl rfl ?_
  refine wp_getI rfl rfl rfl k0 ?_
  refine wp_loc rfl rfl ?_
  refine wp_last rfl k1 i0 ?_
  refine wp_loc rfl rfl ?_
  refine wp_stk rfl rfl rfl ?_
  refine wp_getI rfl rfl rfl k0 ?_
  refine wp_iconst (v := 1) rfl (by decide) ?_
  refine wp_stk rfl rfl rfl ?_
  refine wp_putI rfl rfl (Or.inl rfl) rfl (fun h9 => by cases h9) k0 ?_
  exact w
theorem b182_63 {n : Nat} {h : q_Hp} {Q : Option Value → q_Hp → Prop} {x0 : Nat} {x1 : Int64} {m : Nat} {P : q_Hp → Prop} (hc : q_mV m 183 [.ref x0, .int 0] h P) (hm : m ≤ n) (w : ∀ h1 : q_Hp, P h1 → q_wp (n + 1) 182 68 [some (.ref x0), some (.long x1), none] [] h1 Q) : q_wp (n + 1) 182 63 [some (.ref x0), some (.long x1), none] [] h Q := by
  refine wp_loc rfl rfl ?_
  refine wp_iconst (v := 0) rfl (by decide) ?_
  exact wp_callV (av := [.ref x0, .int 0]) rfl rfl rfl (by decide) rfl rfl rfl hm hc w
theorem b182_68 {n : Nat} {h : q_Hp} {Q : Option Value → q_Hp → Prop} {x0 : Nat} {x1 : Int64} {m : Nat} {P : q_Hp → Prop} (hc : q_mV m 170 [.ref x0, .int 5] h P) (hm : m ≤ n) (w : ∀ h1 : q_Hp, P h1 → q_wp (n + 1) 182 73 [some (.ref x0), some (.long x1), none] [] h1 Q) : q_wp (n + 1) 182 68 [some (.ref x0), some (.long x1), none] [] h Q := by
  refine wp_loc rfl rfl ?_
  refine wp_iconst (v := 5) rfl (by decide) ?_
  exact wp_callV (av := [.ref x0, .int 5]) rfl rfl rfl (by decide) rfl rfl rfl hm hc w
theorem b182_73 {n : Nat} {h : q_Hp} {Q : Option Value → q_Hp → Prop} {x0 : Nat} {x1 : Int64} (q : Q none h) : q_wp n 182 73 [some (.ref x0), some (.long x1), none] [] h Q := by
  exact wp_ret rfl rfl q
theorem b183_0 {n : Nat} {h : q_Hp} {Q : Option Value → q_Hp → Prop} {x0 : Nat} {x1 : Int32} (w : q_wp n 183 2 [some (.ref x0), some (.int x1), some (.int 0)] [] h Q) : q_wp n 183 0 [some (.ref x0), some (.int x1), none] [] h Q := by
  refine wp_iconst (v := 0) rfl (by decide) ?_
  refine wp_loc rfl rfl ?_
  exact w
theorem b183_2 {n : Nat} {h : q_Hp} {Q : Option Value → q_Hp → Prop} {x0 : Nat} {x1 : Int32} {x2 : Int32} (wt : 1200 < x2 → q_wp n 183 141 [some (.ref x0), some (.int x1), some (.int x2)] [] h Q) (wf : ¬ 1200 < x2 → q_wp n 183 9 [some (.ref x0), some (.int x1), some (.int x2)] [] h Q) : q_wp n 183 2 [some (.ref x0), some (.int x1), some (.int x2)] [] h Q := by
  refine wp_loc rfl rfl ?_
  refine wp_sipush (v := 1200) rfl (by decide) ?_
  exact wp_icgt (tgt := 141) rfl (by decide) wt wf
theorem b183_9 {n : Nat} {h : q_Hp} {Q : Option Value → q_Hp → Prop} {x0 : Nat} {x1 : Int32} {x2 : Int32} (wt : 8 < x1 → q_wp n 183 141 [some (.ref x0), some (.int x1), some (.int x2)] [] h Q) (wf : ¬ 8 < x1 → q_wp n 183 15 [some (.ref x0), some (.int x1), some (.int x2)] [] h Q) : q_wp n 183 9 [some (.ref x0), some (.int x1), some (.int x2)] [] h Q := by
  refine wp_loc rfl rfl ?_
  refine wp_bipush (v := 8) rfl (by decide) ?_
  exact wp_icgt (tgt := 141) rfl (by decide) wt wf
theorem b183_15 {n : Nat} {h : q_Hp} {Q : Option Value → q_Hp → Prop} {x0 : Nat} {x1 : Int32} {x2 : Int32} {m : Nat} {P : Int32 → q_Hp → Prop} (hc : q_mI m 168 [.ref x0, .int 20] h P) (hm : m ≤ n) (w : ∀ (z : Int32) (h1 : q_Hp), P z h1 → q_wp (n + 1) 183 21 [some (.ref x0), some (.int x1), some (.int x2)] [.int z] h1 Q) : q_wp (n + 1) 183 15 [some (.ref x0), some (.int x1), some (.int x2)] [] h Q := by
  refine wp_loc rfl rfl ?_
  refine wp_bipush (v := 20) rfl (by decide) ?_
  exact wp_callI (av := [.ref x0, .int 20]) rfl rfl rfl (by decide) rfl rfl rfl hm hc w
theorem b183_21 {n : Nat} {h : q_Hp} {Q : Option Value → q_Hp → Prop} {x0 : Nat} {x1 : Int32} {x2 : Int32} {s0 : Int32} (wt : ¬ s0 = 0 → q_wp n 183 42 [some (.ref x0), some (.int x1), some (.int x2)] [] h Q) (wf : s0 = 0 → q_wp n 183 24 [some (.ref x0), some (.int x1), some (.int x2)] [] h Q) : q_wp n 183 21 [some (.ref x0), some (.int x1), some (.int x2)] [.int s0] h Q := by
  exact wp_ifne (tgt := 42) rfl (by decide) wt wf
theorem b183_24 {n : Nat} {h : q_Hp} {Q : Option Value → q_Hp → Prop} {x0 : Nat} {x1 : Int32} {x2 : Int32} {m : Nat} {P : Int32 → q_Hp → Prop} (hc : q_mI m 168 [.ref x0, .int 21] h P) (hm : m ≤ n) (w : ∀ (z : Int32) (h1 : q_Hp), P z h1 → q_wp (n + 1) 183 30 [some (.ref x0), some (.int x1), some (.int x2)] [.int z] h1 Q) : q_wp (n + 1) 183 24 [some (.ref x0), some (.int x1), some (.int x2)] [] h Q := by
  refine wp_loc rfl rfl ?_
  refine wp_bipush (v := 21) rfl (by decide) ?_
  exact wp_callI (av := [.ref x0, .int 21]) rfl rfl rfl (by decide) rfl rfl rfl hm hc w
theorem b183_30 {n : Nat} {h : q_Hp} {Q : Option Value → q_Hp → Prop} {x0 : Nat} {x1 : Int32} {x2 : Int32} {s0 : Int32} (wt : ¬ s0 = 0 → q_wp n 183 42 [some (.ref x0), some (.int x1), some (.int x2)] [] h Q) (wf : s0 = 0 → q_wp n 183 33 [some (.ref x0), some (.int x1), some (.int x2)] [] h Q) : q_wp n 183 30 [some (.ref x0), some (.int x1), some (.int x2)] [.int s0] h Q := by
  exact wp_ifne (tgt := 42) rfl (by decide) wt wf
theorem b183_33 {n : Nat} {h : q_Hp} {Q : Option Value → q_Hp → Prop} {x0 : Nat} {x1 : Int32} {x2 : Int32} {m : Nat} {P : Int32 → q_Hp → Prop} (hc : q_mI m 168 [.ref x0, .int 22] h P) (hm : m ≤ n) (w : ∀ (z : Int32) (h1 : q_Hp), P z h1 → q_wp (n + 1) 183 39 [some (.ref x0), some (.int x1), some (.int x2)] [.int z] h1 Q) : q_wp (n + 1) 183 33 [some (.ref x0), some (.int x1), some (.int x2)] [] h Q := by
  refine wp_loc rfl rfl ?_
  refine wp_bipush (v := 22) rfl (by decide) ?_
  exact wp_callI (av := [.ref x0, .int 22]) rfl rfl rfl (by decide) rfl rfl rfl hm hc w
theorem b183_39 {n : Nat} {h : q_Hp} {Q : Option Value → q_Hp → Prop} {x0 : Nat} {x1 : Int32} {x2 : Int32} {s0 : Int32} (wt : s0 = 0 → q_wp n 183 50 [some (.ref x0), some (.int x1), some (.int x2)] [] h Q) (wf : ¬ s0 = 0 → q_wp n 183 42 [some (.ref x0), some (.int x1), some (.int x2)] [] h Q) : q_wp n 183 39 [some (.ref x0), some (.int x1), some (.int x2)] [.int s0] h Q := by
  exact wp_ifeq (tgt := 50) rfl (by decide) wt wf
theorem b183_42 {n : Nat} {h : q_Hp} {Q : Option Value → q_Hp → Prop} {x0 : Nat} {x1 : Int32} {x2 : Int32} {m : Nat} {P : q_Hp → Prop} (hc : q_mV m 185 [.ref x0, .int x1] h P) (hm : m ≤ n) (w : ∀ h1 : q_Hp, P h1 → q_wp (n + 1) 183 47 [some (.ref x0), some (.int x1), some (.int x2)] [] h1 Q) : q_wp (n + 1) 183 42 [some (.ref x0), some (.int x1), some (.int x2)] [] h Q := by
  refine wp_loc rfl rfl ?_
  refine wp_loc rfl rfl ?_
  exact wp_callV (av := [.ref x0, .int x1]) rfl rfl rfl (by decide) rfl rfl rfl hm hc w
theorem b183_47 {n : Nat} {h : q_Hp} {Q : Option Value → q_Hp → Prop} {x0 : Nat} {x1 : Int32} {x2 : Int32} (w : q_wp n 183 135 [some (.ref x0), some (.int x1), some (.int x2)] [] h Q) : q_wp n 183 47 [some (.ref x0), some (.int x1), some (.int x2)] [] h Q := by
  refine wp_goto (tgt := 135) rfl (by decide) ?_
  exact w
theorem b183_50 {n : Nat} {h : q_Hp} {Q : Option Value → q_Hp → Prop} {x0 : Nat} {x1 : Int32} {x2 : Int32} {m : Nat} {P : Int32 → q_Hp → Prop} (hc : q_mI m 168 [.ref x0, .int 15] h P) (hm : m ≤ n) (w : ∀ (z : Int32) (h1 : q_Hp), P z h1 → q_wp (n + 1) 183 56 [some (.ref x0), some (.int x1), some (.int x2)] [.int z] h1 Q) : q_wp (n + 1) 183 50 [some (.ref x0), some (.int x1), some (.int x2)] [] h Q := by
  refine wp_loc rfl rfl ?_
  refine wp_bipush (v := 15) rfl (by decide) ?_
  exact wp_callI (av := [.ref x0, .int 15]) rfl rfl rfl (by decide) rfl rfl rfl hm hc w
theorem b183_56 {n : Nat} {h : q_Hp} {Q : Option Value → q_Hp → Prop} {x0 : Nat} {x1 : Int32} {x2 : Int32} {s0 : Int32} (wt : ¬ s0 = 0 → q_wp n 183 77 [some (.ref x0), some (.int x1), some (.int x2)] [] h Q) (wf : s0 = 0 → q_wp n 183 59 [some (.ref x0), some (.int x1), some (.int x2)] [] h Q) : q_wp n 183 56 [some (.ref x0), some (.int x1), some (.int x2)] [.int s0] h Q := by
  exact wp_ifne (tgt := 77) rfl (by decide) wt wf
theorem b183_59 {n : Nat} {h : q_Hp} {Q : Option Value → q_Hp → Prop} {x0 : Nat} {x1 : Int32} {x2 : Int32} {m : Nat} {P : Int32 → q_Hp → Prop} (hc : q_mI m 168 [.ref x0, .int 16] h P) (hm : m ≤ n) (w : ∀ (z : Int32) (h1 : q_Hp), P z h1 → q_wp (n + 1) 183 65 [some (.ref x0), some (.int x1), some (.int x2)] [.int z] h1 Q) : q_wp (n + 1) 183 59 [some (.ref x0), some (.int x1), some (.int x2)] [] h Q := by
  refine wp_loc rfl rfl ?_
  refine wp_bipush (v := 16) rfl (by decide) ?_
  exact wp_callI (av := [.ref x0, .int 16]) rfl rfl rfl (by decide) rfl rfl rfl hm hc w
theorem b183_65 {n : Nat} {h : q_Hp} {Q : Option Value → q_Hp → Prop} {x0 : Nat} {x1 : Int32} {x2 : Int32} {s0 : Int32} (wt : ¬ s0 = 0 → q_wp n 183 77 [some (.ref x0), some (.int x1), some (.int x2)] [] h Q) (wf : s0 = 0 → q_wp n 183 68 [some (.ref x0), some (.int x1), some (.int x2)] [] h Q) : q_wp n 183 65 [some (.ref x0), some (.int x1), some (.int x2)] [.int s0] h Q := by
  exact wp_ifne (tgt := 77) rfl (by decide) wt wf
theorem b183_68 {n : Nat} {h : q_Hp} {Q : Option Value → q_Hp → Prop} {x0 : Nat} {x1 : Int32} {x2 : Int32} {m : Nat} {P : Int32 → q_Hp → Prop} (hc : q_mI m 168 [.ref x0, .int 18] h P) (hm : m ≤ n) (w : ∀ (z : Int32) (h1 : q_Hp), P z h1 → q_wp (n + 1) 183 74 [some (.ref x0), some (.int x1), some (.int x2)] [.int z] h1 Q) : q_wp (n + 1) 183 68 [some (.ref x0), some (.int x1), some (.int x2)] [] h Q := by
  refine wp_loc rfl rfl ?_
  refine wp_bipush (v := 18) rfl (by decide) ?_
  exact wp_callI (av := [.ref x0, .int 18]) rfl rfl rfl (by decide) rfl rfl rfl hm hc w
theorem b183_74 {n : Nat} {h : q_Hp} {Q : Option Value → q_Hp → Prop} {x0 : Nat} {x1 : Int32} {x2 : Int32} {s0 : Int32} (wt : s0 = 0 → q_wp n 183 96 [some (.ref x0), some (.int x1), some (.int x2)] [] h Q) (wf : ¬ s0 = 0 → q_wp n 183 77 [some (.ref x0), some (.int x1), some (.int x2)] [] h Q) : q_wp n 183 74 [some (.ref x0), some (.int x1), some (.int x2)] [.int s0] h Q := by
  exact wp_ifeq (tgt := 96) rfl (by decide) wt wf
theorem b183_77 {n : Nat} {h : q_Hp} {Q : Option Value → q_Hp → Prop} {x0 : Nat} {x1 : Int32} {x2 : Int32} {m : Nat} {P : q_Hp → Prop} (hc : q_mV m 169 [.ref x0] h P) (hm : m ≤ n) (w : ∀ h1 : q_Hp, P h1 → q_wp (n + 1) 183 81 [some (.ref x0), some (.int x1), some (.int x2)] [] h1 Q) : q_wp (n + 1) 183 77 [some (.ref x0), some (.int x1), some (.int x2)] [] h Q := by
  refine wp_loc rfl rfl ?_
  exact wp_callV (av := [.ref x0]) rfl rfl rfl (by decide) rfl rfl rfl hm hc w
theorem b183_81 {n : Nat} {h : q_Hp} {Q : Option Value → q_Hp → Prop} {x0 : Nat} {x1 : Int32} {x2 : Int32} {m : Nat} {P : q_Hp → Prop} (hc : q_mV m 170 [.ref x0, .int 40] h P) (hm : m ≤ n) (w : ∀ h1 : q_Hp, P h1 → q_wp (n + 1) 183 87 [some (.ref x0), some (.int x1), some (.int x2)] [] h1 Q) : q_wp (n + 1) 183 81 [some (.ref x0), some (.int x1), some (.int x2)] [] h Q := by
  refine wp_loc rfl rfl ?_
  refine wp_bipush (v := 40) rfl (by decide) ?_
  exact wp_callV (av := [.ref x0, .int 40]) rfl rfl rfl (by decide) rfl rfl rfl hm hc w
theorem b183_87 {n : Nat} {h : q_Hp} {Q : Option Value → q_Hp → Prop} {x0 : Nat} {x1 : Int32} {x2 : Int32} {m : Nat} {P : q_Hp → Prop} (hc : q_mV m 170 [.ref x0, .int 26] h P) (hm : m ≤ n) (w : ∀ h1 : q_Hp, P h1 → q_wp (n + 1) 183 93 [some (.ref x0), some (.int x1), some (.int x2)] [] h1 Q) : q_wp (n + 1) 183 87 [some (.ref x0), some (.int x1), some (.int x2)] [] h Q := by
  refine wp_loc rfl rfl ?_
  refine wp_bipush (v := 26) rfl (by decide) ?_
  exact wp_callV (av := [.ref x0, .int 26]) rfl rfl rfl (by decide) rfl rfl rfl hm hc w
theorem b183_93 {n : Nat} {h : q_Hp} {Q : Option Value → q_Hp → Prop} {x0 : Nat} {x1 : Int32} {x2 : Int32} (w : q_wp n 183 135 [some (.ref x0), some (.int x1), some (.int x2)] [] h Q) : q_wp n 183 93 [some (.ref x0), some (.int x1), some (.int x2)] [] h Q := by
  refine wp_goto (tgt := 135) rfl (by decide) ?_
  exact w
theorem b183_96 {n : Nat} {h : q_Hp} {Q : Option Value → q_Hp → Prop} {x0 : Nat} {x1 : Int32} {x2 : Int32} {m : Nat} {P : Int32 → q_Hp → Prop} (hc : q_mI m 168 [.ref x0, .int 19] h P) (hm : m ≤ n) (w : ∀ (z : Int32) (h1 : q_Hp), P z h1 → q_wp (n + 1) 183 102 [some (.ref x0), some (.int x1), some (.int x2)] [.int z] h1 Q) : q_wp (n + 1) 183 96 [some (.ref x0), some (.int x1), some (.int x2)] [] h Q := by
  refine wp_loc rfl rfl ?_
  refine wp_bipush (v := 19) rfl (by decide) ?_
  exact wp_callI (av := [.ref x0, .int 19]) rfl rfl rfl (by decide) rfl rfl rfl hm hc w
theorem b183_102 {n : Nat} {h : q_Hp} {Q : Option Value → q_Hp → Prop} {x0 : Nat} {x1 : Int32} {x2 : Int32} {s0 : Int32} (wt : s0 = 0 → q_wp n 183 118 [some (.ref x0), some (.int x1), some (.int x2)] [] h Q) (wf : ¬ s0 = 0 → q_wp n 183 105 [some (.ref x0), some (.int x1), some (.int x2)] [] h Q) : q_wp n 183 102 [some (.ref x0), some (.int x1), some (.int x2)] [.int s0] h Q := by
  exact wp_ifeq (tgt := 118) rfl (by decide) wt wf
theorem b183_105 {n : Nat} {h : q_Hp} {Q : Option Value → q_Hp → Prop} {x0 : Nat} {x1 : Int32} {x2 : Int32} {m : Nat} {P : q_Hp → Prop} (hc : q_mV m 169 [.ref x0] h P) (hm : m ≤ n) (w : ∀ h1 : q_Hp, P h1 → q_wp (n + 1) 183 109 [some (.ref x0), some (.int x1), some (.int x2)] [] h1 Q) : q_wp (n + 1) 183 105 [some (.ref x0), some (.int x1), some (.int x2)] [] h Q := by
  refine wp_loc rfl rfl ?_
  exact wp_callV (av := [.ref x0]) rfl rfl rfl (by decide) rfl rfl rfl hm hc w
theorem b183_109 {n : Nat} {h : q_Hp} {Q : Option Value → q_Hp → Prop} {x0 : Nat} {x1 : Int32} {x2 : Int32} {m : Nat} {P : q_Hp → Prop} (hc : q_mV m 170 [.ref x0, .int 26] h P) (hm : m ≤ n) (w : ∀ h1 : q_Hp, P h1 → q_wp (n + 1) 183 115 [some (.ref x0), some (.int x1), some (.int x2)] [] h1 Q) : q_wp (n + 1) 183 109 [some (.ref x0), some (.int x1), some (.int x2)] [] h Q := by
  refine wp_loc rfl rfl ?_
  refine wp_bipush (v := 26) rfl (by decide) ?_
  exact wp_callV (av := [.ref x0, .int 26]) rfl rfl rfl (by decide) rfl rfl rfl hm hc w
theorem b183_115 {n : Nat} {h : q_Hp} {Q : Option Value → q_Hp → Prop} {x0 : Nat} {x1 : Int32} {x2 : Int32} (w : q_wp n 183 135 [some (.ref x0), some (.int x1), some (.int x2)] [] h Q) : q_wp n 183 115 [some (.ref x0), some (.int x1), some (.int x2)] [] h Q := by
  refine wp_goto (tgt := 135) rfl (by decide) ?_
  exact w
theorem b183_118 {n : Nat} {h : q_Hp} {Q : Option Value → q_Hp → Prop} {x0 : Nat} {x1 : Int32} {x2 : Int32} {m : Nat} {P : Int32 → q_Hp → Prop} (hc : q_mI m 168 [.ref x0, .int 17] h P) (hm : m ≤ n) (w : ∀ (z : Int32) (h1 : q_Hp), P z h1 → q_wp (n + 1) 183 124 [some (.ref x0), some (.int x1), some (.int x2)] [.int z] h1 Q) : q_wp (n + 1) 183 118 [some (.ref x0), some (.int x1), some (.int x2)] [] h Q := by
  refine wp_loc rfl rfl ?_
  refine wp_bipush (v := 17) rfl (by decide) ?_
  exact wp_callI (av := [.ref x0, .int 17]) rfl rfl rfl (by decide) rfl rfl rfl hm hc w
theorem b183_124 {n : Nat} {h : q_Hp} {Q : Option Value → q_Hp → Prop} {x0 : Nat} {x1 : Int32} {x2 : Int32} {s0 : Int32} (wt : s0 = 0 → q_wp n 183 134 [some (.ref x0), some (.int x1), some (.int x2)] [] h Q) (wf : ¬ s0 = 0 → q_wp n 183 127 [some (.ref x0), some (.int x1), some (.int x2)] [] h Q) : q_wp n 183 124 [some (.ref x0), some (.int x1), some (.int x2)] [.int s0] h Q := by
  exact wp_ifeq (tgt := 134) rfl (by decide) wt wf
theorem b183_127 {n : Nat} {h : q_Hp} {Q : Option Value → q_Hp → Prop} {x0 : Nat} {x1 : Int32} {x2 : Int32} {m : Nat} {P : q_Hp → Prop} (hc : q_mV m 184 [.ref x0] h P) (hm : m ≤ n) (w : ∀ h1 : q_Hp, P h1 → q_wp (n + 1) 183 131 [some (.ref x0), some (.int x1), some (.int x2)] [] h1 Q) : q_wp (n + 1) 183 127 [some (.ref x0), some (.int x1), some (.int x2)] [] h Q := by
  refine wp_loc rfl rfl ?_
  exact wp_callV (av := [.ref x0]) rfl rfl rfl (by decide) rfl rfl rfl hm hc w
theorem b183_131 {n : Nat} {h : q_Hp} {Q : Option Value → q_Hp → Prop} {x0 : Nat} {x1 : Int32} {x2 : Int32} (w : q_wp n 183 135 [some (.ref x0), some (.int x1), some (.int x2)] [] h Q) : q_wp n 183 131 [some (.ref x0), some (.int x1), some (.int x2)] [] h Q := by
  refine wp_goto (tgt := 135) rfl (by decide) ?_
  exact w
theorem b183_134 {n : Nat} {h : q_Hp} {Q : Option Value → q_Hp → Prop} {x0 : Nat} {x1 : Int32} {x2 : Int32} (q : Q none h) : q_wp n 183 134 [some (.ref x0), some (.int x1), some (.int x2)] [] h Q := by
  exact wp_ret rfl rfl q
theorem b183_135 {n : Nat} {h : q_Hp} {Q : Option Value → q_Hp → Prop} {x0 : Nat} {x1 : Int32} {x2 : Int32} (w : q_wp n 183 2 [some (.ref x0), some (.int x1), some (.int (x2 + 1))] [] h Q) : q_wp n 183 135 [some (.ref x0), some (.int x1), some (.int x2)] [] h Q := by
  refine wp_iinc (v := 1) rfl rfl (by decide) rfl ?_
  refine wp_goto (tgt := 2) rfl (by decide) ?_
  exact w
theorem b183_141 {n : Nat} {h : q_Hp} {Q : Option Value → q_Hp → Prop} {x0 : Nat} {x1 : Int32} {x2 : Int32} (q : Q none h) : q_wp n 183 141 [some (.ref x0), some (.int x1), some (.int x2)] [] h Q := by
  exact wp_ret rfl rfl q
theorem b184_0 {n : Nat} {h : q_Hp} {Q : Option Value → q_Hp → Prop} {x0 : Nat} {m : Nat} {P : q_Hp → Prop} (hc : q_mV m 169 [.ref x0] h P) (hm : m ≤ n) (w : ∀ h1 : q_Hp, P h1 → q_wp (n + 1) 184 4 [some (.ref x0), none] [] h1 Q) : q_wp (n + 1) 184 0 [some (.ref x0), none] [] h Q := by
  refine wp_loc rfl rfl ?_
  exact wp_callV (av := [.ref x0]) rfl rfl rfl (by decide) rfl rfl rfl hm hc w
theorem b184_4 {n : Nat} {h : q_Hp} {Q : Option Value → q_Hp → Prop} {x0 : Nat} {m : Nat} {P : q_Hp → Prop} (hc : q_mV m 170 [.ref x0, .int 40] h P) (hm : m ≤ n) (w : ∀ h1 : q_Hp, P h1 → q_wp (n + 1) 184 10 [some (.ref x0), none] [] h1 Q) : q_wp (n + 1) 184 4 [some (.ref x0), none] [] h Q := by
  refine wp_loc rfl rfl ?_
  refine wp_bipush (v := 40) rfl (by decide) ?_
  exact wp_callV (av := [.ref x0, .int 40]) rfl rfl rfl (by decide) rfl rfl rfl hm hc w
theorem b184_10 {n : Nat} {h : q_Hp} {Q : Option Value → q_Hp → Prop} {x0 : Nat} (w : q_wp n 184 12 [some (.ref x0), some (.int 0)] [] h Q) : q_wp n 184 10 [some (.ref x0), none] [] h Q := by
  refine wp_iconst (v := 0) rfl (by decide) ?_
  refine wp_loc rfl rfl ?_
  exact w
theorem b184_12 {n : Nat} {h : q_Hp} {Q : Option Value → q_Hp → Prop} {x0 : Nat} {x1 : Int32} (wt : 1200 < x1 → q_wp n 184 44 [some (.ref x0), some (.int x1)] [] h Q) (wf : ¬ 1200 < x1 → q_wp n 184 19 [some (.ref x0), some (.int x1)] [] h Q) : q_wp n 184 12 [some (.ref x0), some (.int x1)] [] h Q := by
  refine wp_loc rfl rfl ?_
  refine wp_sipush (v := 1200) rfl (by decide) ?_
  exact wp_icgt (tgt := 44) rfl (by decide) wt wf
theorem b184_19 {n : Nat} {h : q_Hp} {Q : Option Value → q_Hp → Prop} {x0 : Nat} {x1 : Int32} {m : Nat} {P : Int32 → q_Hp → Prop} (hc : q_mI m 168 [.ref x0, .int 28] h P) (hm : m ≤ n) (w : ∀ (z : Int32) (h1 : q_Hp), P z h1 → q_wp (n + 1) 184 25 [some (.ref x0), some (.int x1)] [.int z] h1 Q) : q_wp (n + 1) 184 19 [some (.ref x0), some (.int x1)] [] h Q := by
  refine wp_loc rfl rfl ?_
  refine wp_bipush (v := 28) rfl (by decide) ?_
  exact wp_callI (av := [.ref x0, .int 28]) rfl rfl rfl (by decide) rfl rfl rfl hm hc w
theorem b184_25 {n : Nat} {h : q_Hp} {Q : Option Value → q_Hp → Prop} {x0 : Nat} {x1 : Int32} {s0 : Int32} (wt : s0 = 0 → q_wp n 184 44 [some (.ref x0), some (.int x1)] [] h Q) (wf : ¬ s0 = 0 → q_wp n 184 28 [some (.ref x0), some (.int x1)] [] h Q) : q_wp n 184 25 [some (.ref x0), some (.int x1)] [.int s0] h Q := by
  exact wp_ifeq (tgt := 44) rfl (by decide) wt wf
theorem b184_28 {n : Nat} {h : q_Hp} {Q : Option Value → q_Hp → Prop} {x0 : Nat} {x1 : Int32} {m : Nat} {P : q_Hp → Prop} (hc : q_mV m 169 [.ref x0] h P) (hm : m ≤ n) (w : ∀ h1 : q_Hp, P h1 → q_wp (n + 1) 184 32 [some (.ref x0), some (.int x1)] [] h1 Q) : q_wp (n + 1) 184 28 [some (.ref x0), some (.int x1)] [] h Q := by
  refine wp_loc rfl rfl ?_
  exact wp_callV (av := [.ref x0]) rfl rfl rfl (by decide) rfl rfl rfl hm hc w
theorem b184_32 {n : Nat} {h : q_Hp} {Q : Option Value → q_Hp → Prop} {x0 : Nat} {x1 : Int32} {m : Nat} {P : q_Hp → Prop} (hc : q_mV m 170 [.ref x0, .int 40] h P) (hm : m ≤ n) (w : ∀ h1 : q_Hp, P h1 → q_wp (n + 1) 184 38 [some (.ref x0), some (.int x1)] [] h1 Q) : q_wp (n + 1) 184 32 [some (.ref x0), some (.int x1)] [] h Q := by
  refine wp_loc rfl rfl ?_
  refine wp_bipush (v := 40) rfl (by decide) ?_
  exact wp_callV (av := [.ref x0, .int 40]) rfl rfl rfl (by decide) rfl rfl rfl hm hc w
theorem b184_38 {n : Nat} {h : q_Hp} {Q : Option Value → q_Hp → Prop} {x0 : Nat} {x1 : Int32} (w : q_wp n 184 12 [some (.ref x0), some (.int (x1 + 1))] [] h Q) : q_wp n 184 38 [some (.ref x0), some (.int x1)] [] h Q := by
  refine wp_iinc (v := 1) rfl rfl (by decide) rfl ?_
  refine wp_goto (tgt := 12) rfl (by decide) ?_
  exact w
theorem b184_44 {n : Nat} {h : q_Hp} {Q : Option Value → q_Hp → Prop} {x0 : Nat} {x1 : Int32} {m : Nat} {P : q_Hp → Prop} (hc : q_mV m 170 [.ref x0, .int 26] h P) (hm : m ≤ n) (w : ∀ h1 : q_Hp, P h1 → q_wp (n + 1) 184 50 [some (.ref x0), some (.int x1)] [] h1 Q) : q_wp (n + 1) 184 44 [some (.ref x0), some (.int x1)] [] h Q := by
  refine wp_loc rfl rfl ?_
  refine wp_bipush (v := 26) rfl (by decide) ?_
  exact wp_callV (av := [.ref x0, .int 26]) rfl rfl rfl (by decide) rfl rfl rfl hm hc w
theorem b184_50 {n : Nat} {h : q_Hp} {Q : Option Value → q_Hp → Prop} {x0 : Nat} {x1 : Int32} (q : Q none h) : q_wp n 184 50 [some (.ref x0), some (.int x1)] [] h Q := by
  exact wp_ret rfl rfl q
theorem b185_0 {n : Nat} {h : q_Hp} {Q : Option Value → q_Hp → Prop} {x0 : Nat} {x1 : Int32} (wt : 8 ≤ x1 → q_wp n 185 11 [some (.ref x0), some (.int x1)] [.ref x0] h Q) (wf : ¬ 8 ≤ x1 → q_wp n 185 7 [some (.ref x0), some (.int x1)] [.ref x0] h Q) : q_wp n 185 0 [some (.ref x0), some (.int x1)] [] h Q := by
  refine wp_loc rfl rfl ?_
  refine wp_loc rfl rfl ?_
  refine wp_bipush (v := 8) rfl (by decide) ?_
  exact wp_icge (tgt := 11) rfl (by decide) wt wf
theorem b185_7 {n : Nat} {h : q_Hp} {Q : Option Value → q_Hp → Prop} {x0 : Nat} {x1 : Int32} {s0 : Nat} (w : q_wp n 185 12 [some (.ref x0), some (.int x1)] [.int 1, .ref s0] h Q) : q_wp n 185 7 [some (.ref x0), some (.int x1)] [.ref s0] h Q := by
  refine wp_iconst (v := 1) rfl (by decide) ?_
  refine wp_goto (tgt := 12) rfl (by decide) ?_
  exact w
theorem b185_11 {n : Nat} {h : q_Hp} {Q : Option Value → q_Hp → Prop} {x0 : Nat} {x1 : Int32} {s0 : Nat} (w : q_wp n 185 12 [some (.ref x0), some (.int x1)] [.int 0, .ref s0] h Q) : q_wp n 185 11 [some (.ref x0), some (.int x1)] [.ref s0] h Q := by
  refine wp_iconst (v := 0) rfl (by decide) ?_
  exact w
theorem b185_12 {n : Nat} {h : q_Hp} {Q : Option Value → q_Hp → Prop} {x0 : Nat} {x1 : Int32} {s0 : Int32} {s1 : Nat} {m : Nat} {P : q_Hp → Prop} (hc : q_mV m 171 [.ref s1, .int s0] h P) (hm : m ≤ n) (w : ∀ h1 : q_Hp, P h1 → q_wp (n + 1) 185 15 [some (.ref x0), some (.int x1)] [] h1 Q) : q_wp (n + 1) 185 12 [some (.ref x0), some (.int x1)] [.int s0, .ref s1] h Q := by
  exact wp_callV (av := [.ref s1, .int s0]) rfl rfl rfl (by decide) rfl rfl rfl hm hc w
theorem b185_15 {n : Nat} {h : q_Hp} {Q : Option Value → q_Hp → Prop} {x0 : Nat} {x1 : Int32} {m : Nat} {P : Int32 → q_Hp → Prop} (hc : q_mI m 168 [.ref x0, .int 22] h P) (hm : m ≤ n) (w : ∀ (z : Int32) (h1 : q_Hp), P z h1 → q_wp (n + 1) 185 21 [some (.ref x0), some (.int x1)] [.int z] h1 Q) : q_wp (n + 1) 185 15 [some (.ref x0), some (.int x1)] [] h Q := by
  refine wp_loc rfl rfl ?_
  refine wp_bipush (v := 22) rfl (by decide) ?_
  exact wp_callI (av := [.ref x0, .int 22]) rfl rfl rfl (by decide) rfl rfl rfl hm hc w
theorem b185_21 {n : Nat} {h : q_Hp} {Q : Option Value → q_Hp → Prop} {x0 : Nat} {x1 : Int32} {s0 : Int32} (wt : s0 = 0 → q_wp n 185 57 [some (.ref x0), some (.int x1)] [] h Q) (wf : ¬ s0 = 0 → q_wp n 185 24 [some (.ref x0), some (.int x1)] [] h Q) : q_wp n 185 21 [some (.ref x0), some (.int x1)] [.int s0] h Q := by
  exact wp_ifeq (tgt := 57) rfl (by decide) wt wf
theorem b185_24 {n : Nat} {h : q_Hp} {Q : Option Value → q_Hp → Prop} {x0 : Nat} {x1 : Int32} {m : Nat} {P : q_Hp → Prop} (hc : q_mV m 169 [.ref x0] h P) (hm : m ≤ n) (w : ∀ h1 : q_Hp, P h1 → q_wp (n + 1) 185 28 [some (.ref x0), some (.int x1)] [] h1 Q) : q_wp (n + 1) 185 24 [some (.ref x0), some (.int x1)] [] h Q := by
  refine wp_loc rfl rfl ?_
  exact wp_callV (av := [.ref x0]) rfl rfl rfl (by decide) rfl rfl rfl hm hc w
theorem b185_28 {n : Nat} {h : q_Hp} {Q : Option Value → q_Hp → Prop} {x0 : Nat} {x1 : Int32} {m : Nat} {P : q_Hp → Prop} (hc : q_mV m 183 [.ref x0, .int (x1 + 1)] h P) (hm : m ≤ n) (w : ∀ h1 : q_Hp, P h1 → q_wp (n + 1) 185 35 [some (.ref x0), some (.int x1)] [] h1 Q) : q_wp (n + 1) 185 28 [some (.ref x0), some (.int x1)] [] h Q := by
  refine wp_loc rfl rfl ?_
  refine wp_loc rfl rfl ?_
  refine wp_iconst (v := 1) rfl (by decide) ?_
  refine wp_stk rfl rfl rfl ?_
  exact wp_callV (av := [.ref x0, .int (x1 + 1)]) rfl rfl rfl (by decide) rfl rfl rfl hm hc w
theorem b185_35 {n : Nat} {h : q_Hp} {Q : Option Value → q_Hp → Prop} {x0 : Nat} {x1 : Int32} {m : Nat} {P : q_Hp → Prop} (hc : q_mV m 170 [.ref x0, .int 23] h P) (hm : m ≤ n) (w : ∀ h1 : q_Hp, P h1 → q_wp (n + 1) 185 41 [some (.ref x0), some (.int x1)] [] h1 Q) : q_wp (n + 1) 185 35 [some (.ref x0), some (.int x1)] [] h Q := by
  refine wp_loc rfl rfl ?_
  refine wp_bipush (v := 23) rfl (by decide) ?_
  exact wp_callV (av := [.ref x0, .int 23]) rfl rfl rfl (by decide) rfl rfl rfl hm hc w
theorem b185_41 {n : Nat} {h : q_Hp} {Q : Option Value → q_Hp → Prop} {x0 : Nat} {x1 : Int32} {m : Nat} {P : q_Hp → Prop} (hc : q_mV m 183 [.ref x0, .int (x1 + 1)] h P) (hm : m ≤ n) (w : ∀ h1 : q_Hp, P h1 → q_wp (n + 1) 185 48 [some (.ref x0), some (.int x1)] [] h1 Q) : q_wp (n + 1) 185 41 [some (.ref x0), some (.int x1)] [] h Q := by
  refine wp_loc rfl rfl ?_
  refine wp_loc rfl rfl ?_
  refine wp_iconst (v := 1) rfl (by decide) ?_
  refine wp_stk rfl rfl rfl ?_
  exact wp_callV (av := [.ref x0, .int (x1 + 1)]) rfl rfl rfl (by decide) rfl rfl rfl hm hc w
theorem b185_48 {n : Nat} {h : q_Hp} {Q : Option Value → q_Hp → Prop} {x0 : Nat} {x1 : Int32} {m : Nat} {P : q_Hp → Prop} (hc : q_mV m 170 [.ref x0, .int 24] h P) (hm : m ≤ n) (w : ∀ h1 : q_Hp, P h1 → q_wp (n + 1) 185 54 [some (.ref x0), some (.int x1)] [] h1 Q) : q_wp (n + 1) 185 48 [some (.ref x0), some (.int x1)] [] h Q := by
  refine wp_loc rfl rfl ?_
  refine wp_bipush (v := 24) rfl (by decide) ?_
  exact wp_callV (av := [.ref x0, .int 24]) rfl rfl rfl (by decide) rfl rfl rfl hm hc w
theorem b185_54 {n : Nat} {h : q_Hp} {Q : Option Value → q_Hp → Prop} {x0 : Nat} {x1 : Int32} (w : q_wp n 185 83 [some (.ref x0), some (.int x1)] [] h Q) : q_wp n 185 54 [some (.ref x0), some (.int x1)] [] h Q := by
  refine wp_goto (tgt := 83) rfl (by decide) ?_
  exact w
theorem b185_57 {n : Nat} {h : q_Hp} {Q : Option Value → q_Hp → Prop} {x0 : Nat} {x1 : Int32} {m : Nat} {P : Int32 → q_Hp → Prop} (hc : q_mI m 168 [.ref x0, .int 21] h P) (hm : m ≤ n) (w : ∀ (z : Int32) (h1 : q_Hp), P z h1 → q_wp (n + 1) 185 63 [some (.ref x0), some (.int x1)] [.int z] h1 Q) : q_wp (n + 1) 185 57 [some (.ref x0), some (.int x1)] [] h Q := by
  refine wp_loc rfl rfl ?_
  refine wp_bipush (v := 21) rfl (by decide) ?_
  exact wp_callI (av := [.ref x0, .int 21]) rfl rfl rfl (by decide) rfl rfl rfl hm hc w
theorem b185_63 {n : Nat} {h : q_Hp} {Q : Option Value → q_Hp → Prop} {x0 : Nat} {x1 : Int32} {s0 : Int32} (wt : s0 = 0 → q_wp n 185 79 [some (.ref x0), some (.int x1)] [] h Q) (wf : ¬ s0 = 0 → q_wp n 185 66 [some (.ref x0), some (.int x1)] [] h Q) : q_wp n 185 63 [some (.ref x0), some (.int x1)] [.int s0] h Q := by
  exact wp_ifeq (tgt := 79) rfl (by decide) wt wf
theorem b185_66 {n : Nat} {h : q_Hp} {Q : Option Value → q_Hp → Prop} {x0 : Nat} {x1 : Int32} {m : Nat} {P : q_Hp → Prop} (hc : q_mV m 169 [.ref x0] h P) (hm : m ≤ n) (w : ∀ h1 : q_Hp, P h1 → q_wp (n + 1) 185 70 [some (.ref x0), some (.int x1)] [] h1 Q) : q_wp (n + 1) 185 66 [some (.ref x0), some (.int x1)] [] h Q := by
  refine wp_loc rfl rfl ?_
  exact wp_callV (av := [.ref x0]) rfl rfl rfl (by decide) rfl rfl rfl hm hc w
theorem b185_70 {n : Nat} {h : q_Hp} {Q : Option Value → q_Hp → Prop} {x0 : Nat} {x1 : Int32} {m : Nat} {P : q_Hp → Prop} (hc : q_mV m 170 [.ref x0, .int 41] h P) (hm : m ≤ n) (w : ∀ h1 : q_Hp, P h1 → q_wp (n + 1) 185 76 [some (.ref x0), some (.int x1)] [] h1 Q) : q_wp (n + 1) 185 70 [some (.ref x0), some (.int x1)] [] h Q := by
  refine wp_loc rfl rfl ?_
  refine wp_bipush (v := 41) rfl (by decide) ?_
  exact wp_callV (av := [.ref x0, .int 41]) rfl rfl rfl (by decide) rfl rfl rfl hm hc w
theorem b185_76 {n : Nat} {h : q_Hp} {Q : Option Value → q_Hp → Prop} {x0 : Nat} {x1 : Int32} (w : q_wp n 185 83 [some (.ref x0), some (.int x1)] [] h Q) : q_wp n 185 76 [some (.ref x0), some (.int x1)] [] h Q := by
  refine wp_goto (tgt := 83) rfl (by decide) ?_
  exact w
theorem b185_79 {n : Nat} {h : q_Hp} {Q : Option Value → q_Hp → Prop} {x0 : Nat} {x1 : Int32} {m : Nat} {P : q_Hp → Prop} (hc : q_mV m 169 [.ref x0] h P) (hm : m ≤ n) (w : ∀ h1 : q_Hp, P h1 → q_wp (n + 1) 185 83 [some (.ref x0), some (.int x1)] [] h1 Q) : q_wp (n + 1) 185 79 [some (.ref x0), some (.int x1)] [] h Q := by
  refine wp_loc rfl rfl ?_
  exact wp_callV (av := [.ref x0]) rfl rfl rfl (by decide) rfl rfl rfl hm hc w
theorem b185_83 {n : Nat} {h : q_Hp} {Q : Option Value → q_Hp → Prop} {x0 : Nat} {x1 : Int32} {m : Nat} {P : q_Hp → Prop} (hc : q_mV m 183 [.ref x0, .int (x1 + 1)] h P) (hm : m ≤ n) (w : ∀ h1 : q_Hp, P h1 → q_wp (n + 1) 185 90 [some (.ref x0), some (.int x1)] [] h1 Q) : q_wp (n + 1) 185 83 [some (.ref x0), some (.int x1)] [] h Q := by
  refine wp_loc rfl rfl ?_
  refine wp_loc rfl rfl ?_
  refine wp_iconst (v := 1) rfl (by decide) ?_
  refine wp_stk rfl rfl rfl ?_
  exact wp_callV (av := [.ref x0, .int (x1 + 1)]) rfl rfl rfl (by decide) rfl rfl rfl hm hc w
theorem b185_90 {n : Nat} {h : q_Hp} {Q : Option Value → q_Hp → Prop} {x0 : Nat} {x1 : Int32} {m : Nat} {P : q_Hp → Prop} (hc : q_mV m 170 [.ref x0, .int 5] h P) (hm : m ≤ n) (w : ∀ h1 : q_Hp, P h1 → q_wp (n + 1) 185 95 [some (.ref x0), some (.int x1)] [] h1 Q) : q_wp (n + 1) 185 90 [some (.ref x0), some (.int x1)] [] h Q := by
  refine wp_loc rfl rfl ?_
  refine wp_iconst (v := 5) rfl (by decide) ?_
  exact wp_callV (av := [.ref x0, .int 5]) rfl rfl rfl (by decide) rfl rfl rfl hm hc w
theorem b185_95 {n : Nat} {h : q_Hp} {Q : Option Value → q_Hp → Prop} {x0 : Nat} {x1 : Int32} (q : Q none h) : q_wp n 185 95 [some (.ref x0), some (.int x1)] [] h Q := by
  exact wp_ret rfl rfl q
