theorem b118_0 {n : Nat} {h : q_Hp} {Q : Option Value → q_Hp → Prop} {x0 : Nat} {x1 : Nat} {x2 : Int32} {v0 : Nat} (k0 : q_ok h x0 5) (e0 : qR h x0 1 = v0) {m : Nat} {P : q_Hp → Prop} (hc : q_mV m 91 [.ref v0, .ref x1, .int x2] h P) (hm : m ≤ n) (w : ∀ h1 : q_Hp, P h1 → q_wp (n + 1) 118 9 [some (.ref x0), some (.ref x1), some (.int x2)] [] h1 Q) : q_wp (n + 1) 118 0 [some (.ref x0), some (.ref x1), some (.int x2)] [] h Q := by
  refine wp_loc rfl rfl ?_
  refine wp_getR rfl rfl rfl rfl k0 e0 ?_
  refine wp_loc rfl rfl ?_
  refine wp_loc rfl rfl ?_
  exact wp_callV (av := [.ref v0, .ref x1, .int x2]) rfl rfl rfl (by decide) rfl rfl rfl hm hc w
theorem b118_9 {n : Nat} {h : q_Hp} {Q : Option Value → q_Hp → Prop} {x0 : Nat} {x1 : Nat} {x2 : Int32} {v0 : Nat} (k0 : q_ok h x0 5) (e0 : qR h x0 1 = v0) {m : Nat} {P : Int32 → q_Hp → Prop} (hc : q_mI m 94 [.ref v0] h P) (hm : m ≤ n) (w : ∀ (z : Int32) (h1 : q_Hp), P z h1 → q_wp (n + 1) 118 16 [some (.ref x0), some (.ref x1), some (.int x2)] [.int z] h1 Q) : q_wp (n + 1) 118 9 [some (.ref x0), some (.ref x1), some (.int x2)] [] h Q := by
  refine wp_loc rfl rfl ?_
  refine wp_getR rfl rfl rfl rfl k0 e0 ?_
  exact wp_callI (av := [.ref v0]) rfl rfl rfl (by decide) rfl rfl rfl hm hc w
theorem b118_16 {n : Nat} {h : q_Hp} {Q : Option Value → q_Hp → Prop} {x0 : Nat} {x1 : Nat} {x2 : Int32} {s0 : Int32} (wt : ¬ s0 = 0 → q_wp n 118 21 [some (.ref x0), some (.ref x1), some (.int x2)] [] h Q) (wf : s0 = 0 → q_wp n 118 19 [some (.ref x0), some (.ref x1), some (.int x2)] [] h Q) : q_wp n 118 16 [some (.ref x0), some (.ref x1), some (.int x2)] [.int s0] h Q := by
  exact wp_ifne (tgt := 21) rfl (by decide) wt wf
theorem b118_19 {n : Nat} {h : q_Hp} {Q : Option Value → q_Hp → Prop} {x0 : Nat} {x1 : Nat} {x2 : Int32} (q : Q (some (.int 0)) h) : q_wp n 118 19 [some (.ref x0), some (.ref x1), some (.int x2)] [] h Q := by
  refine wp_iconst (v := 0) rfl (by decide) ?_
  exact wp_ret rfl rfl q
theorem b118_21 {n : Nat} {h : q_Hp} {Q : Option Value → q_Hp → Prop} {x0 : Nat} {x1 : Nat} {x2 : Int32} {v0 : Nat} (k0 : q_ok h x0 5) (e0 : qR h x0 2 = v0) {m : Nat} {P : q_Hp → Prop} (hc : q_mV m 85 [.ref v0] h P) (hm : m ≤ n) (w : ∀ h1 : q_Hp, P h1 → q_wp (n + 1) 118 28 [some (.ref x0), some (.ref x1), some (.int x2)] [] h1 Q) : q_wp (n + 1) 118 21 [some (.ref x0), some (.ref x1), some (.int x2)] [] h Q := by
  refine wp_loc rfl rfl ?_
  refine wp_getR rfl rfl rfl rfl k0 e0 ?_
  exact wp_callV (av := [.ref v0]) rfl rfl rfl (by decide) rfl rfl rfl hm hc w
theorem b118_28 {n : Nat} {h : q_Hp} {Q : Option Value → q_Hp → Prop} {x0 : Nat} {x1 : Nat} {x2 : Int32} {m : Nat} {P : Int32 → q_Hp → Prop} (hc : q_mI m 121 [.ref x0] h P) (hm : m ≤ n) (w : ∀ (z : Int32) (h1 : q_Hp), P z h1 → q_wp (n + 1) 118 32 [some (.ref x0), some (.ref x1), some (.int x2)] [.int z] h1 Q) : q_wp (n + 1) 118 28 [some (.ref x0), some (.ref x1), some (.int x2)] [] h Q := by
  refine wp_loc rfl rfl ?_
  exact wp_callI (av := [.ref x0]) rfl rfl rfl (by decide) rfl rfl rfl hm hc w
theorem b118_32 {n : Nat} {h : q_Hp} {Q : Option Value → q_Hp → Prop} {x0 : Nat} {x1 : Nat} {x2 : Int32} {s0 : Int32} (wt : ¬ s0 = 0 → q_wp n 118 37 [some (.ref x0), some (.ref x1), some (.int x2)] [] h Q) (wf : s0 = 0 → q_wp n 118 35 [some (.ref x0), some (.ref x1), some (.int x2)] [] h Q) : q_wp n 118 32 [some (.ref x0), some (.ref x1), some (.int x2)] [.int s0] h Q := by
  exact wp_ifne (tgt := 37) rfl (by decide) wt wf
theorem b118_35 {n : Nat} {h : q_Hp} {Q : Option Value → q_Hp → Prop} {x0 : Nat} {x1 : Nat} {x2 : Int32} (q : Q (some (.int 2)) h) : q_wp n 118 35 [some (.ref x0), some (.ref x1), some (.int x2)] [] h Q := by
  refine wp_iconst (v := 2) rfl (by decide) ?_
  exact wp_ret rfl rfl q
theorem b118_37 {n : Nat} {h : q_Hp} {Q : Option Value → q_Hp → Prop} {x0 : Nat} {x1 : Nat} {x2 : Int32} {v0 : Nat} (k0 : q_ok h x0 5) (e0 : qR h x0 2 = v0) {m : Nat} {P : q_Hp → Prop} (hc : q_mV m 87 [.ref v0] h P) (hm : m ≤ n) (w : ∀ h1 : q_Hp, P h1 → q_wp (n + 1) 118 44 [some (.ref x0), some (.ref x1), some (.int x2)] [] h1 Q) : q_wp (n + 1) 118 37 [some (.ref x0), some (.ref x1), some (.int x2)] [] h Q := by
  refine wp_loc rfl rfl ?_
  refine wp_getR rfl rfl rfl rfl k0 e0 ?_
  exact wp_callV (av := [.ref v0]) rfl rfl rfl (by decide) rfl rfl rfl hm hc w
theorem b118_44 {n : Nat} {h : q_Hp} {Q : Option Value → q_Hp → Prop} {x0 : Nat} {x1 : Nat} {x2 : Int32} {v0 : Nat} (k0 : q_ok h x0 5) (e0 : qR h x0 1 = v0) {m : Nat} {P : q_Hp → Prop} (hc : q_mV m 113 [.ref v0] h P) (hm : m ≤ n) (w : ∀ h1 : q_Hp, P h1 → q_wp (n + 1) 118 51 [some (.ref x0), some (.ref x1), some (.int x2)] [] h1 Q) : q_wp (n + 1) 118 44 [some (.ref x0), some (.ref x1), some (.int x2)] [] h Q := by
  refine wp_loc rfl rfl ?_
  refine wp_getR rfl rfl rfl rfl k0 e0 ?_
  exact wp_callV (av := [.ref v0]) rfl rfl rfl (by decide) rfl rfl rfl hm hc w
theorem b118_51 {n : Nat} {h : q_Hp} {Q : Option Value → q_Hp → Prop} {x0 : Nat} {x1 : Nat} {x2 : Int32} (q : Q (some (.int 1)) h) : q_wp n 118 51 [some (.ref x0), some (.ref x1), some (.int x2)] [] h Q := by
  refine wp_iconst (v := 1) rfl (by decide) ?_
  exact wp_ret rfl rfl q
theorem b119_0 {n : Nat} {h : q_Hp} {Q : Option Value → q_Hp → Prop} {x0 : Nat} {x1 : Nat} {x2 : Int32} {v0 : Nat} (k0 : q_ok h x0 5) (e0 : qR h x0 1 = v0) {m : Nat} {P : q_Hp → Prop} (hc : q_mV m 91 [.ref v0, .ref x1, .int x2] (q_sI h x0 6 0) P) (hm : m ≤ n) (w : ∀ h1 : q_Hp, P h1 → q_wp (n + 1) 119 16 [some (.ref x0), some (.ref x1), some (.int x2), some (.int 0), none, none, none] [] h1 Q) : q_wp (n + 1) 119 0 [some (.ref x0), some (.ref x1), some (.int x2), none, none, none, none] [] h Q := by
  refine wp_loc rfl rfl ?_
  refine wp_iconst (v := 0) rfl (by decide) ?_
  refine wp_putI rfl rfl (Or.inl rfl) rfl (fun h9 => by cases h9) k0 ?_
  refine wp_iconst (v := 0) rfl (by decide) ?_
  refine wp_loc rfl rfl ?_
  refine wp_loc rfl rfl ?_
  refine wp_getR rfl rfl rfl rfl k0 e0 ?_
  refine wp_loc rfl rfl ?_
  refine wp_loc rfl rfl ?_
  exact wp_callV (av := [.ref v0, .ref x1, .int x2]) rfl rfl rfl (by decide) rfl rfl rfl hm hc w
theorem b119_16 {n : Nat} {h : q_Hp} {Q : Option Value → q_Hp → Prop} {x0 : Nat} {x1 : Nat} {x2 : Int32} {x3 : Int32} (w : q_wp n 119 19 [some (.ref x0), some (.ref x1), some (.int x2), some (.int x3), some (.int 0), none, none] [] h Q) : q_wp n 119 16 [some (.ref x0), some (.ref x1), some (.int x2), some (.int x3), none, none, none] [] h Q := by
  refine wp_iconst (v := 0) rfl (by decide) ?_
  refine wp_loc rfl rfl ?_
  exact w
theorem b119_19 {n : Nat} {h : q_Hp} {Q : Option Value → q_Hp → Prop} {x0 : Nat} {x1 : Nat} {x2 : Int32} {x3 : Int32} {x4 : Int32} {l5 : Option Value} {l6 : Option Value} (wt : 1000000 ≤ x4 → q_wp n 119 122 [some (.ref x0), some (.ref x1), some (.int x2), some (.int x3), some (.int x4), l5, l6] [] h Q) (wf : ¬ 1000000 ≤ x4 → q_wp n 119 26 [some (.ref x0), some (.ref x1), some (.int x2), some (.int x3), some (.int x4), l5, l6] [] h Q) : q_wp n 119 19 [some (.ref x0), some (.ref x1), some (.int x2), some (.int x3), some (.int x4), l5, l6] [] h Q := by
  refine wp_loc rfl rfl ?_
  refine wp_stk (m := 2) (st' := .int 1000000 :: _) rfl rfl rfl ?_
  exact wp_icge (tgt := 122) rfl (by decide) wt wf
theorem b119_26 {n : Nat} {h : q_Hp} {Q : Option Value → q_Hp → Prop} {x0 : Nat} {x1 : Nat} {x2 : Int32} {x3 : Int32} {x4 : Int32} {l5 : Option Value} {l6 : Option Value} (k0 : q_ok h x0 5) (wt : 12 ≤ (qI h x0 6) → q_wp n 119 122 [some (.ref x0), some (.ref x1), some (.int x2), some (.int x3), some (.int x4), l5, l6] [] h Q) (wf : ¬ 12 ≤ (qI h x0 6) → q_wp n 119 35 [some (.ref x0), some (.ref x1), some (.int x2), some (.int x3), some (.int x4), l5, l6] [] h Q) : q_wp n 119 26 [some (.ref x0), some (.ref x1), some (.int x2), some (.int x3), some (.int x4), l5, l6] [] h Q := by
  refine wp_loc rfl rfl ?_
  refine wp_getI rfl rfl rfl k0 ?_
  refine wp_bipush (v := 12) rfl (by decide) ?_
  exact wp_icge (tgt := 122) rfl (by decide) wt wf
theorem b119_35 {n : Nat} {h : q_Hp} {Q : Option Value → q_Hp → Prop} {x0 : Nat} {x1 : Nat} {x2 : Int32} {x3 : Int32} {x4 : Int32} {l5 : Option Value} {l6 : Option Value} {v0 : Nat} (k0 : q_ok h x0 5) (e0 : qR h x0 1 = v0) {m : Nat} {P : Int32 → q_Hp → Prop} (hc : q_mI m 94 [.ref v0] h P) (hm : m ≤ n) (w : ∀ (z : Int32) (h1 : q_Hp), P z h1 → q_wp (n + 1) 119 42 [some (.ref x0), some (.ref x1), some (.int x2), some (.int x3), some (.int x4), l5, l6] [.int z] h1 Q) : q_wp (n + 1) 119 35 [some (.ref x0), some (.ref x1), some (.int x2), some (.int x3), some (.int x4), l5, l6] [] h Q := by
  refine wp_loc rfl rfl ?_
  refine wp_getR rfl rfl rfl rfl k0 e0 ?_
  exact wp_callI (av := [.ref v0]) rfl rfl rfl (by decide) rfl rfl rfl hm hc w
theorem b119_42 {n : Nat} {h : q_Hp} {Q : Option Value → q_Hp → Prop} {x0 : Nat} {x1 : Nat} {x2 : Int32} {x3 : Int32} {x4 : Int32} {l5 : Option Value} {l6 : Option Value} {s0 : Int32} (wt : s0 = 0 → q_wp n 119 122 [some (.ref x0), some (.ref x1), some (.int x2), some (.int x3), some (.int x4), l5, l6] [] h Q) (wf : ¬ s0 = 0 → q_wp n 119 45 [some (.ref x0), some (.ref x1), some (.int x2), some (.int x3), some (.int x4), l5, l6] [] h Q) : q_wp n 119 42 [some (.ref x0), some (.ref x1), some (.int x2), some (.int x3), some (.int x4), l5, l6] [.int s0] h Q := by
  exact wp_ifeq (tgt := 122) rfl (by decide) wt wf
theorem b119_45 {n : Nat} {h : q_Hp} {Q : Option Value → q_Hp → Prop} {x0 : Nat} {x1 : Nat} {x2 : Int32} {x3 : Int32} {x4 : Int32} {l5 : Option Value} {l6 : Option Value} {v0 : Nat} (k0 : q_ok h x0 5) (e0 : qR h x0 1 = v0) {m : Nat} {P : Int32 → q_Hp → Prop} (hc : q_mI m 112 [.ref v0] h P) (hm : m ≤ n) (w : ∀ (z : Int32) (h1 : q_Hp), P z h1 → q_wp (n + 1) 119 52 [some (.ref x0), some (.ref x1), some (.int x2), some (.int x3), some (.int x4), l5, l6] [.int z] h1 Q) : q_wp (n + 1) 119 45 [some (.ref x0), some (.ref x1), some (.int x2), some (.int x3), some (.int x4), l5, l6] [] h Q := by
  refine wp_loc rfl rfl ?_
  refine wp_getR rfl rfl rfl rfl k0 e0 ?_
  exact wp_callI (av := [.ref v0]) rfl rfl rfl (by decide) rfl rfl rfl hm hc w
theorem b119_52 {n : Nat} {h : q_Hp} {Q : Option Value → q_Hp → Prop} {x0 : Nat} {x1 : Nat} {x2 : Int32} {x3 : Int32} {x4 : Int32} {l5 : Option Value} {l6 : Option Value} {s0 : Int32} (wt : ¬ (s0 &&& x3) = 0 → q_wp n 119 116 [some (.ref x0), some (.ref x1), some (.int x2), some (.int x3), some (.int x4), some (.int s0), l6] [] h Q) (wf : (s0 &&& x3) = 0 → q_wp n 119 61 [some (.ref x0), some (.ref x1), some (.int x2), some (.int x3), some (.int x4), some (.int s0), l6] [] h Q) : q_wp n 119 52 [some (.ref x0), some (.ref x1), some (.int x2), some (.int x3), some (.int x4), l5, l6] [.int s0] h Q := by
  refine wp_loc rfl rfl ?_
  refine wp_loc rfl rfl ?_
  refine wp_loc rfl rfl ?_
  refine wp_stk rfl rfl rfl ?_
  exact wp_ifne (tgt := 116) rfl (by decide) wt wf
theorem b119_61 {n : Nat} {h : q_Hp} {Q : Option Value → q_Hp → Prop} {x0 : Nat} {x1 : Nat} {x2 : Int32} {x3 : Int32} {x4 : Int32} {x5 : Int32} {l6 : Option Value} (w : q_wp n 119 69 [some (.ref x0), some (.ref x1), some (.int x2), some (.int (x3 ||| x5)), some (.int x4), some (.int x5), some (.int 0)] [] h Q) : q_wp n 119 61 [some (.ref x0), some (.ref x1), some (.int x2), some (.int x3), some (.int x4), some (.int x5), l6] [] h Q := by
  refine wp_loc rfl rfl ?_
  refine wp_loc rfl rfl ?_
  refine wp_stk rfl rfl rfl ?_
  refine wp_loc rfl rfl ?_
  refine wp_iconst (v := 0) rfl (by decide) ?_
  refine wp_loc rfl rfl ?_
  exact w
theorem b119_69 {n : Nat} {h : q_Hp} {Q : Option Value → q_Hp → Prop} {x0 : Nat} {x1 : Nat} {x2 : Int32} {x3 : Int32} {x4 : Int32} {x5 : Int32} {x6 : Int32} (wt : 4 ≤ x6 → q_wp n 119 106 [some (.ref x0), some (.ref x1), some (.int x2), some (.int x3), some (.int x4), some (.int x5), some (.int x6)] [] h Q) (wf : ¬ 4 ≤ x6 → q_wp n 119 75 [some (.ref x0), some (.ref x1), some (.int x2), some (.int x3), some (.int x4), some (.int x5), some (.int x6)] [] h Q) : q_wp n 119 69 [some (.ref x0), some (.ref x1), some (.int x2), some (.int x3), some (.int x4), some (.int x5), some (.int x6)] [] h Q := by
  refine wp_loc rfl rfl ?_
  refine wp_iconst (v := 4) rfl (by decide) ?_
  exact wp_icge (tgt := 106) rfl (by decide) wt wf
theorem b119_75 {n : Nat} {h : q_Hp} {Q : Option Value → q_Hp → Prop} {x0 : Nat} {x1 : Nat} {x2 : Int32} {x3 : Int32} {x4 : Int32} {x5 : Int32} {x6 : Int32} {v0 : Nat} {v1 : Nat} (k0 : q_ok h x0 5) (e0 : qR h x0 5 = v0) (e1 : qR h x0 1 = v1) {m : Nat} {P : Int32 → q_Hp → Prop} (hc : q_mI m 110 [.ref v1, .int x6] h P) (hm : m ≤ n) (w : ∀ (z : Int32) (h1 : q_Hp), P z h1 → q_wp (n + 1) 119 97 [some (.ref x0), some (.ref x1), some (.int x2), some (.int x3), some (.int x4), some (.int x5), some (.int x6)] [.int z, .int (((qI h x0 6) * 4) + x6), .ref v0] h1 Q) : q_wp (n + 1) 119 75 [some (.ref x0), some (.ref x1), some (.int x2), some (.int x3), some (.int x4), some (.int x5), some (.int x6)] [] h Q := by
  refine wp_loc rfl rfl ?_
  refine wp_getR rfl rfl rfl rfl k0 e0 ?_
  refine wp_loc rfl rfl ?_
  refine wp_getI rfl rfl rfl k0 ?_
  refine wp_iconst (v := 4) rfl (by decide) ?_
  refine wp_stk rfl rfl rfl ?_
  refine wp_loc rfl rfl ?_
  refine wp_stk rfl rfl rfl ?_
  refine wp_loc rfl rfl ?_
  refine wp_getR rfl rfl rfl rfl k0 e1 ?_
  refine wp_loc rfl rfl ?_
  exact wp_callI (av := [.ref v1, .int x6]) rfl rfl rfl (by decide) rfl rfl rfl hm hc w
theorem b119_97 {n : Nat} {h : q_Hp} {Q : Option Value → q_Hp → Prop} {x0 : Nat} {x1 : Nat} {x2 : Int32} {x3 : Int32} {x4 : Int32} {x5 : Int32} {x6 : Int32} {s0 : Int32} {s1 : Int32} {s2 : Nat} {m : Nat} {P : q_Hp → Prop} (hc : q_mV m 233 [.ref s2, .int s1, .int s0] h P) (hm : m ≤ n) (w : ∀ h1 : q_Hp, P h1 → q_wp (n + 1) 119 100 [some (.ref x0), some (.ref x1), some (.int x2), some (.int x3), some (.int x4), some (.int x5), some (.int x6)] [] h1 Q) : q_wp (n + 1) 119 97 [some (.ref x0), some (.ref x1), some (.int x2), some (.int x3), some (.int x4), some (.int x5), some (.int x6)] [.int s0, .int s1, .ref s2] h Q := by
  exact wp_callV (av := [.ref s2, .int s1, .int s0]) rfl rfl rfl (by decide) rfl rfl rfl hm hc w
theorem b119_100 {n : Nat} {h : q_Hp} {Q : Option Value → q_Hp → Prop} {x0 : Nat} {x1 : Nat} {x2 : Int32} {x3 : Int32} {x4 : Int32} {x5 : Int32} {x6 : Int32} (w : q_wp n 119 69 [some (.ref x0), some (.ref x1), some (.int x2), some (.int x3), some (.int x4), some (.int x5), some (.int (x6 + 1))] [] h Q) : q_wp n 119 100 [some (.ref x0), some (.ref x1), some (.int x2), some (.int x3), some (.int x4), some (.int x5), some (.int x6)] [] h Q := by
  refine wp_iinc (v := 1) rfl rfl (by decide) rfl ?_
  refine wp_goto (tgt := 69) rfl (by decide) ?_
  exact w
theorem b119_106 {n : Nat} {h : q_Hp} {Q : Option Value → q_Hp → Prop} {x0 : Nat} {x1 : Nat} {x2 : Int32} {x3 : Int32} {x4 : Int32} {x5 : Int32} {x6 : Int32} (k0 : q_ok h x0 5) (w : q_wp n 119 116 [some (.ref x0), some (.ref x1), some (.int x2), some (.int x3), some (.int x4), some (.int x5), some (.int x6)] [] (q_sI h x0 6 ((qI h x0 6) + 1)) Q) : q_wp n 119 106 [some (.ref x0), some (.ref x1), some (.int x2), some (.int x3), some (.int x4), some (.int x5), some (.int x6)] [] h Q := by
  refine wp_loc rfl rfl ?_
  refine wp_stk rfl rfl rfl ?_
  refine wp_getI rfl rfl rfl k0 ?_
  refine wp_iconst (v := 1) rfl (by decide) ?_
  refine wp_stk rfl rfl rfl ?_
  refine wp_putI rfl rfl (Or.inl rfl) rfl (fun h9 => by cases h9) k0 ?_
  exact w
theorem b119_116 {n : Nat} {h : q_Hp} {Q : Option Value → q_Hp → Prop} {x0 : Nat} {x1 : Nat} {x2 : Int32} {x3 : Int32} {x4 : Int32} {x5 : Int32} {l6 : Option Value} (w : q_wp n 119 19 [some (.ref x0), some (.ref x1), some (.int x2), some (.int x3), some (.int (x4 + 1)), some (.int x5), l6] [] h Q) : q_wp n 119 116 [some (.ref x0), some (.ref x1), some (.int x2), some (.int x3), some (.int x4), some (.int x5), l6] [] h Q := by
  refine wp_iinc (v := 1) rfl rfl (by decide) rfl ?_
  refine wp_goto (tgt := 19) rfl (by decide) ?_
  exact w
theorem b119_122 {n : Nat} {h : q_Hp} {Q : Option Value → q_Hp → Prop} {x0 : Nat} {x1 : Nat} {x2 : Int32} {x3 : Int32} {x4 : Int32} {l5 : Option Value} {l6 : Option Value} (q : Q none h) : q_wp n 119 122 [some (.ref x0), some (.ref x1), some (.int x2), some (.int x3), some (.int x4), l5, l6] [] h Q := by
  exact wp_ret rfl rfl q
theorem b120_0 {n : Nat} {h : q_Hp} {Q : Option Value → q_Hp → Prop} {x0 : Nat} {x1 : Nat} {x2 : Int32} {v0 : Nat} (k0 : q_ok h x0 5) (e0 : qR h x0 2 = v0) {m : Nat} {P : q_Hp → Prop} (hc : q_mV m 85 [.ref v0] h P) (hm : m ≤ n) (w : ∀ h1 : q_Hp, P h1 → q_wp (n + 1) 120 7 [some (.ref x0), some (.ref x1), some (.int x2), none, none] [] h1 Q) : q_wp (n + 1) 120 0 [some (.ref x0), some (.ref x1), some (.int x2), none, none] [] h Q := by
  refine wp_loc rfl rfl ?_
  refine wp_getR rfl rfl rfl rfl k0 e0 ?_
  exact wp_callV (av := [.ref v0]) rfl rfl rfl (by decide) rfl rfl rfl hm hc w
theorem b120_7 {n : Nat} {h : q_Hp} {Q : Option Value → q_Hp → Prop} {x0 : Nat} {x1 : Nat} {x2 : Int32} (w : q_wp n 120 12 [some (.ref x0), some (.ref x1), some (.int x2), some (.int 0), some (.int 0)] [] h Q) : q_wp n 120 7 [some (.ref x0), some (.ref x1), some (.int x2), none, none] [] h Q := by
  refine wp_iconst (v := 0) rfl (by decide) ?_
  refine wp_loc rfl rfl ?_
  refine wp_iconst (v := 0) rfl (by decide) ?_
  refine wp_loc rfl rfl ?_
  exact w
theorem b120_12 {n : Nat} {h : q_Hp} {Q : Option Value → q_Hp → Prop} {x0 : Nat} {x1 : Nat} {x2 : Int32} {x3 : Int32} {x4 : Int32} (k0 : q_ok h x0 5) (wt : (qI h x0 6) ≤ x4 → q_wp n 120 65 [some (.ref x0), some (.ref x1), some (.int x2), some (.int x3), some (.int x4)] [] h Q) (wf : ¬ (qI h x0 6) ≤ x4 → q_wp n 120 21 [some (.ref x0), some (.ref x1), some (.int x2), some (.int x3), some (.int x4)] [] h Q) : q_wp n 120 12 [some (.ref x0), some (.ref x1), some (.int x2), some (.int x3), some (.int x4)] [] h Q := by
  refine wp_loc rfl rfl ?_
  refine wp_loc rfl rfl ?_
  refine wp_getI rfl rfl rfl k0 ?_
  exact wp_icge (tgt := 65) rfl (by decide) wt wf
theorem b120_21 {n : Nat} {h : q_Hp} {Q : Option Value → q_Hp → Prop} {x0 : Nat} {x1 : Nat} {x2 : Int32} {x3 : Int32} {x4 : Int32} {v0 : Nat} {v1 : Nat} (k0 : q_ok h x0 5) (e0 : qR h x0 1 = v0) (e1 : qR h x0 5 = v1) {m : Nat} {P : Int32 → q_Hp → Prop} (hc : q_mI m 98 [.ref v0, .ref x1, .int x2, .ref v1, .int (x4 * 4)] h P) (hm : m ≤ n) (w : ∀ (z : Int32) (h1 : q_Hp), P z h1 → q_wp (n + 1) 120 38 [some (.ref x0), some (.ref x1), some (.int x2), some (.int x3), some (.int x4)] [.int z] h1 Q) : q_wp (n + 1) 120 21 [some (.ref x0), some (.ref x1), some (.int x2), some (.int x3), some (.int x4)] [] h Q := by
  refine wp_loc rfl rfl ?_
  refine wp_getR rfl rfl rfl rfl k0 e0 ?_
  refine wp_loc rfl rfl ?_
  refine wp_loc rfl rfl ?_
  refine wp_loc rfl rfl ?_
  refine wp_getR rfl rfl rfl rfl k0 e1 ?_
  refine wp_loc rfl rfl ?_
  refine wp_iconst (v := 4) rfl (by decide) ?_
  refine wp_stk rfl rfl rfl ?_
  exact wp_callI (av := [.ref v0, .ref x1, .int x2, .ref v1, .int (x4 * 4)]) rfl rfl rfl (by decide) rfl rfl rfl hm hc w
theorem b120_38 {n : Nat} {h : q_Hp} {Q : Option Value → q_Hp → Prop} {x0 : Nat} {x1 : Nat} {x2 : Int32} {x3 : Int32} {x4 : Int32} {s0 : Int32} (wt : s0 = 0 → q_wp n 120 59 [some (.ref x0), some (.ref x1), some (.int x2), some (.int x3), some (.int x4)] [] h Q) (wf : ¬ s0 = 0 → q_wp n 120 41 [some (.ref x0), some (.ref x1), some (.int x2), some (.int x3), some (.int x4)] [] h Q) : q_wp n 120 38 [some (.ref x0), some (.ref x1), some (.int x2), some (.int x3), some (.int x4)] [.int s0] h Q := by
  exact wp_ifeq (tgt := 59) rfl (by decide) wt wf
theorem b120_41 {n : Nat} {h : q_Hp} {Q : Option Value → q_Hp → Prop} {x0 : Nat} {x1 : Nat} {x2 : Int32} {x3 : Int32} {x4 : Int32} {m : Nat} {P : Int32 → q_Hp → Prop} (hc : q_mI m 121 [.ref x0] h P) (hm : m ≤ n) (w : ∀ (z : Int32) (h1 : q_Hp), P z h1 → q_wp (n + 1) 120 45 [some (.ref x0), some (.ref x1), some (.int x2), some (.int x3), some (.int x4)] [.int z] h1 Q) : q_wp (n + 1) 120 41 [some (.ref x0), some (.ref x1), some (.int x2), some (.int x3), some (.int x4)] [] h Q := by
  refine wp_loc rfl rfl ?_
  exact wp_callI (av := [.ref x0]) rfl rfl rfl (by decide) rfl rfl rfl hm hc w
theorem b120_45 {n : Nat} {h : q_Hp} {Q : Option Value → q_Hp → Prop} {x0 : Nat} {x1 : Nat} {x2 : Int32} {x3 : Int32} {x4 : Int32} {s0 : Int32} (wt : ¬ s0 = 0 → q_wp n 120 57 [some (.ref x0), some (.ref x1), some (.int x2), some (.int x3), some (.int x4)] [] h Q) (wf : s0 = 0 → q_wp n 120 48 [some (.ref x0), some (.ref x1), some (.int x2), some (.int x3), some (.int x4)] [] h Q) : q_wp n 120 45 [some (.ref x0), some (.ref x1), some (.int x2), some (.int x3), some (.int x4)] [.int s0] h Q := by
  exact wp_ifne (tgt := 57) rfl (by decide) wt wf
theorem b120_48 {n : Nat} {h : q_Hp} {Q : Option Value → q_Hp → Prop} {x0 : Nat} {x1 : Nat} {x2 : Int32} {x3 : Int32} {x4 : Int32} {v0 : Nat} (k0 : q_ok h x0 5) (e0 : qR h x0 2 = v0) {m : Nat} {P : q_Hp → Prop} (hc : q_mV m 86 [.ref v0] h P) (hm : m ≤ n) (w : ∀ h1 : q_Hp, P h1 → q_wp (n + 1) 120 55 [some (.ref x0), some (.ref x1), some (.int x2), some (.int x3), some (.int x4)] [] h1 Q) : q_wp (n + 1) 120 48 [some (.ref x0), some (.ref x1), some (.int x2), some (.int x3), some (.int x4)] [] h Q := by
  refine wp_loc rfl rfl ?_
  refine wp_getR rfl rfl rfl rfl k0 e0 ?_
  exact wp_callV (av := [.ref v0]) rfl rfl rfl (by decide) rfl rfl rfl hm hc w
theorem b120_55 {n : Nat} {h : q_Hp} {Q : Option Value → q_Hp → Prop} {x0 : Nat} {x1 : Nat} {x2 : Int32} {x3 : Int32} {x4 : Int32} (q : Q (some (.int 2)) h) : q_wp n 120 55 [some (.ref x0), some (.ref x1), some (.int x2), some (.int x3), some (.int x4)] [] h Q := by
  refine wp_iconst (v := 2) rfl (by decide) ?_
  exact wp_ret rfl rfl q
theorem b120_57 {n : Nat} {h : q_Hp} {Q : Option Value → q_Hp → Prop} {x0 : Nat} {x1 : Nat} {x2 : Int32} {x3 : Int32} {x4 : Int32} (w : q_wp n 120 59 [some (.ref x0), some (.ref x1), some (.int x2), some (.int 1), some (.int x4)] [] h Q) : q_wp n 120 57 [some (.ref x0), some (.ref x1), some (.int x2), some (.int x3), some (.int x4)] [] h Q := by
  refine wp_iconst (v := 1) rfl (by decide) ?_
  refine wp_loc rfl rfl ?_
  exact w
theorem b120_59 {n : Nat} {h : q_Hp} {Q : Option Value → q_Hp → Prop} {x0 : Nat} {x1 : Nat} {x2 : Int32} {x3 : Int32} {x4 : Int32} (w : q_wp n 120 12 [some (.ref x0), some (.ref x1), some (.int x2), some (.int x3), some (.int (x4 + 1))] [] h Q) : q_wp n 120 59 [some (.ref x0), some (.ref x1), some (.int x2), some (.int x3), some (.int x4)] [] h Q := by
  refine wp_iinc (v := 1) rfl rfl (by decide) rfl ?_
  refine wp_goto (tgt := 12) rfl (by decide) ?_
  exact w
theorem b120_65 {n : Nat} {h : q_Hp} {Q : Option Value → q_Hp → Prop} {x0 : Nat} {x1 : Nat} {x2 : Int32} {x3 : Int32} {x4 : Int32} (wt : ¬ x3 = 0 → q_wp n 120 71 [some (.ref x0), some (.ref x1), some (.int x2), some (.int x3), some (.int x4)] [] h Q) (wf : x3 = 0 → q_wp n 120 69 [some (.ref x0), some (.ref x1), some (.int x2), some (.int x3), some (.int x4)] [] h Q) : q_wp n 120 65 [some (.ref x0), some (.ref x1), some (.int x2), some (.int x3), some (.int x4)] [] h Q := by
  refine wp_loc rfl rfl ?_
  exact wp_ifne (tgt := 71) rfl (by decide) wt wf
theorem b120_69 {n : Nat} {h : q_Hp} {Q : Option Value → q_Hp → Prop} {x0 : Nat} {x1 : Nat} {x2 : Int32} {x3 : Int32} {x4 : Int32} (q : Q (some (.int 0)) h) : q_wp n 120 69 [some (.ref x0), some (.ref x1), some (.int x2), some (.int x3), some (.int x4)] [] h Q := by
  refine wp_iconst (v := 0) rfl (by decide) ?_
  exact wp_ret rfl rfl q
theorem b120_71 {n : Nat} {h : q_Hp} {Q : Option Value → q_Hp → Prop} {x0 : Nat} {x1 : Nat} {x2 : Int32} {x3 : Int32} {x4 : Int32} {v0 : Nat} (k0 : q_ok h x0 5) (e0 : qR h x0 2 = v0) {m : Nat} {P : q_Hp → Prop} (hc : q_mV m 87 [.ref v0] h P) (hm : m ≤ n) (w : ∀ h1 : q_Hp, P h1 → q_wp (n + 1) 120 78 [some (.ref x0), some (.ref x1), some (.int x2), some (.int x3), some (.int x4)] [] h1 Q) : q_wp (n + 1) 120 71 [some (.ref x0), some (.ref x1), some (.int x2), some (.int x3), some (.int x4)] [] h Q := by
  refine wp_loc rfl rfl ?_
  refine wp_getR rfl rfl rfl rfl k0 e0 ?_
  exact wp_callV (av := [.ref v0]) rfl rfl rfl (by decide) rfl rfl rfl hm hc w
theorem b120_78 {n : Nat} {h : q_Hp} {Q : Option Value → q_Hp → Prop} {x0 : Nat} {x1 : Nat} {x2 : Int32} {x3 : Int32} {x4 : Int32} (q : Q (some (.int 1)) h) : q_wp n 120 78 [some (.ref x0), some (.ref x1), some (.int x2), some (.int x3), some (.int x4)] [] h Q := by
  refine wp_iconst (v := 1) rfl (by decide) ?_
  exact wp_ret rfl rfl q
theorem b121_0 {n : Nat} {h : q_Hp} {Q : Option Value → q_Hp → Prop} {x0 : Nat} {v0 : Nat} (k0 : q_ok h x0 5) (e0 : qR h x0 1 = v0) {m : Nat} {P : Nat → q_Hp → Prop} (hc : q_mR m 109 [.ref v0] h P) (hm : m ≤ n) (w : ∀ (z : Nat) (h1 : q_Hp), P z h1 → q_wp (n + 1) 121 7 [some (.ref x0), none, none] [.ref z] h1 Q) : q_wp (n + 1) 121 0 [some (.ref x0), none, none] [] h Q := by
  refine wp_loc rfl rfl ?_
  refine wp_getR rfl rfl rfl rfl k0 e0 ?_
  exact wp_callR (av := [.ref v0]) rfl rfl rfl (by decide) rfl rfl rfl hm hc w
theorem b121_7 {n : Nat} {h : q_Hp} {Q : Option Value → q_Hp → Prop} {x0 : Nat} {s0 : Nat} {m : Nat} {P : Int32 → q_Hp → Prop} (hc : q_mI m 122 [.ref x0, .ref s0] h P) (hm : m ≤ n) (w : ∀ (z : Int32) (h1 : q_Hp), P z h1 → q_wp (n + 1) 121 13 [some (.ref x0), some (.ref s0), none] [.int z] h1 Q) : q_wp (n + 1) 121 7 [some (.ref x0), none, none] [.ref s0] h Q := by
  refine wp_loc rfl rfl ?_
  refine wp_loc rfl rfl ?_
  refine wp_loc rfl rfl ?_
  exact wp_callI (av := [.ref x0, .ref s0]) rfl rfl rfl (by decide) rfl rfl rfl hm hc w
theorem b121_13 {n : Nat} {h : q_Hp} {Q : Option Value → q_Hp → Prop} {x0 : Nat} {x1 : Nat} {s0 : Int32} (wt : s0 = 0 → q_wp n 121 24 [some (.ref x0), some (.ref x1), none] [] h Q) (wf : ¬ s0 = 0 → q_wp n 121 16 [some (.ref x0), some (.ref x1), none] [] h Q) : q_wp n 121 13 [some (.ref x0), some (.ref x1), none] [.int s0] h Q := by
  exact wp_ifeq (tgt := 24) rfl (by decide) wt wf
theorem b121_16 {n : Nat} {h : q_Hp} {Q : Option Value → q_Hp → Prop} {x0 : Nat} {x1 : Nat} {m : Nat} {P : Int32 → q_Hp → Prop} (hc : q_mI m 123 [.ref x0, .ref x1] h P) (hm : m ≤ n) (w : ∀ (z : Int32) (h1 : q_Hp), P z h1 → q_wp (n + 1) 121 21 [some (.ref x0), some (.ref x1), none] [.int z] h1 Q) : q_wp (n + 1) 121 16 [some (.ref x0), some (.ref x1), none] [] h Q := by
  refine wp_loc rfl rfl ?_
  refine wp_loc rfl rfl ?_
  exact wp_callI (av := [.ref x0, .ref x1]) rfl rfl rfl (by decide) rfl rfl rfl hm hc w
theorem b121_21 {n : Nat} {h : q_Hp} {Q : Option Value → q_Hp → Prop} {x0 : Nat} {x1 : Nat} {s0 : Int32} (wt : ¬ s0 = 0 → q_wp n 121 26 [some (.ref x0), some (.ref x1), none] [] h Q) (wf : s0 = 0 → q_wp n 121 24 [some (.ref x0), some (.ref x1), none] [] h Q) : q_wp n 121 21 [some (.ref x0), some (.ref x1), none] [.int s0] h Q := by
  exact wp_ifne (tgt := 26) rfl (by decide) wt wf
theorem b121_24 {n : Nat} {h : q_Hp} {Q : Option Value → q_Hp → Prop} {x0 : Nat} {x1 : Nat} (q : Q (some (.int 0)) h) : q_wp n 121 24 [some (.ref x0), some (.ref x1), none] [] h Q := by
  refine wp_iconst (v := 0) rfl (by decide) ?_
  exact wp_ret (r := some (.int 0)) rfl rfl q
theorem b121_26 {n : Nat} {h : q_Hp} {Q : Option Value → q_Hp → Prop} {x0 : Nat} {x1 : Nat} (w : q_wp n 121 28 [some (.ref x0), some (.ref x1), some (.int 0)] [] h Q) : q_wp n 121 26 [some (.ref x0), some (.ref x1), none] [] h Q := by
  refine wp_iconst (v := 0) rfl (by decide) ?_
  refine wp_loc rfl rfl ?_
  exact w
theorem b121_28 {n : Nat} {h : q_Hp} {Q : Option Value → q_Hp → Prop} {x0 : Nat} {x1 : Nat} {x2 : Int32} (k0 : q_ok h x1 6) (wt : (qI h x1 4) ≤ x2 → q_wp n 121 54 [some (.ref x0), some (.ref x1), some (.int x2)] [] h Q) (wf : ¬ (qI h x1 4) ≤ x2 → q_wp n 121 36 [some (.ref x0), some (.ref x1), some (.int x2)] [] h Q) : q_wp n 121 28 [some (.ref x0), some (.ref x1), some (.int x2)] [] h Q := by
  refine wp_loc rfl rfl ?_
  refine wp_loc rfl rfl ?_
  refine wp_getI rfl rfl rfl k0 ?_
  exact wp_icge (tgt := 54) rfl (by decide) wt wf
theorem b121_36 {n : Nat} {h : q_Hp} {Q : Option Value → q_Hp → Prop} {x0 : Nat} {x1 : Nat} {x2 : Int32} (wt : 8 ≤ x2 → q_wp n 121 54 [some (.ref x0), some (.ref x1), some (.int x2)] [] h Q) (wf : ¬ 8 ≤ x2 → q_wp n 121 42 [some (.ref x0), some (.ref x1), some (.int x2)] [] h Q) : q_wp n 121 36 [some (.ref x0), some (.ref x1), some (.int x2)] [] h Q := by
  refine wp_loc rfl rfl ?_
  refine wp_bipush (v := 8) rfl (by decide) ?_
  exact wp_icge (tgt := 54) rfl (by decide) wt wf
theorem b121_42 {n : Nat} {h : q_Hp} {Q : Option Value → q_Hp → Prop} {x0 : Nat} {x1 : Nat} {x2 : Int32} {m : Nat} {P : q_Hp → Prop} (hc : q_mV m 124 [.ref x0, .ref x1, .int x2] h P) (hm : m ≤ n) (w : ∀ h1 : q_Hp, P h1 → q_wp (n + 1) 121 48 [some (.ref x0), some (.ref x1), some (.int x2)] [] h1 Q) : q_wp (n + 1) 121 42 [some (.ref x0), some (.ref x1), some (.int x2)] [] h Q := by
  refine wp_loc rfl rfl ?_
  refine wp_loc rfl rfl ?_
  refine wp_loc rfl rfl ?_
  exact wp_callV (av := [.ref x0, .ref x1, .int x2]) rfl rfl rfl (by decide) rfl rfl rfl hm hc w
theorem b121_48 {n : Nat} {h : q_Hp} {Q : Option Value → q_Hp → Prop} {x0 : Nat} {x1 : Nat} {x2 : Int32} (w : q_wp n 121 28 [some (.ref x0), some (.ref x1), some (.int (x2 + 1))] [] h Q) : q_wp n 121 48 [some (.ref x0), some (.ref x1), some (.int x2)] [] h Q := by
  refine wp_iinc (v := 1) rfl rfl (by decide) rfl ?_
  refine wp_goto (tgt := 28) rfl (by decide) ?_
  exact w
theorem b121_54 {n : Nat} {h : q_Hp} {Q : Option Value → q_Hp → Prop} {x0 : Nat} {x1 : Nat} {x2 : Int32} (q : Q (some (.int 1)) h) : q_wp n 121 54 [some (.ref x0), some (.ref x1), some (.int x2)] [] h Q := by
  refine wp_iconst (v := 1) rfl (by decide) ?_
  exact wp_ret (r := some (.int 1)) rfl rfl q
theorem b122_0 {n : Nat} {h : q_Hp} {Q : Option Value → q_Hp → Prop} {x0 : Nat} {x1 : Nat} (w : q_wp n 122 2 [some (.ref x0), some (.ref x1), some (.int 0)] [] h Q) : q_wp n 122 0 [some (.ref x0), some (.ref x1), none] [] h Q := by
  refine wp_iconst (v := 0) rfl (by decide) ?_
  refine wp_loc rfl rfl ?_
  exact w
theorem b122_2 {n : Nat} {h : q_Hp} {Q : Option Value → q_Hp → Prop} {x0 : Nat} {x1 : Nat} {x2 : Int32} (k0 : q_ok h x1 6) (wt : (qI h x1 4) ≤ x2 → q_wp n 122 62 [some (.ref x0), some (.ref x1), some (.int x2)] [] h Q) (wf : ¬ (qI h x1 4) ≤ x2 → q_wp n 122 10 [some (.ref x0), some (.ref x1), some (.int x2)] [] h Q) : q_wp n 122 2 [some (.ref x0), some (.ref x1), some (.int x2)] [] h Q := by
  refine wp_loc rfl rfl ?_
  refine wp_loc rfl rfl ?_
  refine wp_getI rfl rfl rfl k0 ?_
  exact wp_icge (tgt := 62) rfl (by decide) wt wf
theorem b122_10 {n : Nat} {h : q_Hp} {Q : Option Value → q_Hp → Prop} {x0 : Nat} {x1 : Nat} {x2 : Int32} (wt : 8 ≤ x2 → q_wp n 122 62 [some (.ref x0), some (.ref x1), some (.int x2)] [] h Q) (wf : ¬ 8 ≤ x2 → q_wp n 122 16 [some (.ref x0), some (.ref x1), some (.int x2)] [] h Q) : q_wp n 122 10 [some (.ref x0), some (.ref x1), some (.int x2)] [] h Q := by
  refine wp_loc rfl rfl ?_
  refine wp_bipush (v := 8) rfl (by decide) ?_
  exact wp_icge (tgt := 62) rfl (by decide) wt wf
theorem b122_16 {n : Nat} {h : q_Hp} {Q : Option Value → q_Hp → Prop} {x0 : Nat} {x1 : Nat} {x2 : Int32} {v0 : Nat} (k0 : q_ok h x1 6) (e0 : qR h x1 14 = v0) (k1 : q_ok h v0 20) (i0 : q_in x2 (qK h v0).2) (wt : ¬ (qA h v0 x2.toNatClampNeg) = 14 → q_wp n 122 56 [some (.ref x0), some (.ref x1), some (.int x2)] [] h Q) (wf : (qA h v0 x2.toNatClampNeg) = 14 → q_wp n 122 27 [some (.ref x0), some (.ref x1), some (.int x2)] [] h Q) : q_wp n 122 16 [some (.ref x0), some (.ref x1), some (.int x2)] [] h Q := by
  refine wp_loc rfl rfl ?_
  refine wp_getR rfl rfl rfl rfl k0 e0 ?_
  refine wp_loc rfl rfl ?_
  refine wp_iald rfl k1 i0 ?_
  refine wp_bipush (v := 14) rfl (by decide) ?_
  exact wp_icne (tgt := 56) rfl (by decide) wt wf
theorem b122_27 {n : Nat} {h : q_Hp} {Q : Option Value → q_Hp → Prop} {x0 : Nat} {x1 : Nat} {x2 : Int32} {v0 : Nat} {v1 : Nat} (k0 : q_ok h x0 5) (e0 : qR h x0 3 = v0) (e1 : qR h x0 1 = v1) {m : Nat} {P : Int32 → q_Hp → Prop} (hc : q_mI m 129 [.int x2] h P) (hm : m ≤ n) (w : ∀ (z : Int32) (h1 : q_Hp), P z h1 → q_wp (n + 1) 122 40 [some (.ref x0), some (.ref x1), some (.int x2)] [.int z, .ref v1, .int x2, .ref v0] h1 Q) : q_wp (n + 1) 122 27 [some (.ref x0), some (.ref x1), some (.int x2)] [] h Q := by
  refine wp_loc rfl rfl ?_
  refine wp_getR rfl rfl rfl rfl k0 e0 ?_
  refine wp_loc rfl rfl ?_
  refine wp_loc rfl rfl ?_
  refine wp_getR rfl rfl rfl rfl k0 e1 ?_
  refine wp_loc rfl rfl ?_
  exact wp_callI (av := [.int x2]) rfl rfl rfl (by decide) rfl rfl rfl hm hc w
theorem b122_40 {n : Nat} {h : q_Hp} {Q : Option Value → q_Hp → Prop} {x0 : Nat} {x1 : Nat} {x2 : Int32} {s0 : Int32} {s1 : Nat} {s2 : Int32} {s3 : Nat} {m : Nat} {P : Int32 → q_Hp → Prop} (hc : q_mI m 106 [.ref s1, .int s0] h P) (hm : m ≤ n) (w : ∀ (z : Int32) (h1 : q_Hp), P z h1 → q_wp (n + 1) 122 43 [some (.ref x0), some (.ref x1), some (.int x2)] [.int z, .int s2, .ref s3] h1 Q) : q_wp (n + 1) 122 40 [some (.ref x0), some (.ref x1), some (.int x2)] [.int s0, .ref s1, .int s2, .ref s3] h Q := by
  exact wp_callI (av := [.ref s1, .int s0]) rfl rfl rfl (by decide) rfl rfl rfl hm hc w
theorem b122_43 {n : Nat} {h : q_Hp} {Q : Option Value → q_Hp → Prop} {x0 : Nat} {x1 : Nat} {x2 : Int32} {s0 : Int32} {s1 : Int32} {s2 : Nat} {v0 : Nat} (k0 : q_ok h s2 20) (i0 : q_in s1 (qK h s2).2) (k1 : q_ok h x0 5) (e0 : qR h x0 1 = v0) {m : Nat} {P : Int32 → q_Hp → Prop} (hc : q_mI m 108 [.ref v0] (q_sA h s2 s1.toNatClampNeg s0) P) (hm : m ≤ n) (w : ∀ (z : Int32) (h1 : q_Hp), P z h1 → q_wp (n + 1) 122 51 [some (.ref x0), some (.ref x1), some (.int x2)] [.int z] h1 Q) : q_wp (n + 1) 122 43 [some (.ref x0), some (.ref x1), some (.int x2)] [.int s0, .int s1, .ref s2] h Q := by
  refine wp_iast rfl k0 i0 ?_
  refine wp_loc rfl rfl ?_
  refine wp_getR rfl rfl rfl rfl k1 e0 ?_
  exact wp_callI (av := [.ref v0]) rfl rfl rfl (by decide) rfl rfl rfl hm hc w
theorem b122_51 {n : Nat} {h : q_Hp} {Q : Option Value → q_Hp → Prop} {x0 : Nat} {x1 : Nat} {x2 : Int32} {s0 : Int32} (wt : s0 = 0 → q_wp n 122 56 [some (.ref x0), some (.ref x1), some (.int x2)] [] h Q) (wf : ¬ s0 = 0 → q_wp n 122 54 [some (.ref x0), some (.ref x1), some (.int x2)] [] h Q) : q_wp n 122 51 [some (.ref x0), some (.ref x1), some (.int x2)] [.int s0] h Q := by
  exact wp_ifeq (tgt := 56) rfl (by decide) wt wf
theorem b122_54 {n : Nat} {h : q_Hp} {Q : Option Value → q_Hp → Prop} {x0 : Nat} {x1 : Nat} {x2 : Int32} (q : Q (some (.int 0)) h) : q_wp n 122 54 [some (.ref x0), some (.ref x1), some (.int x2)] [] h Q := by
  refine wp_iconst (v := 0) rfl (by decide) ?_
  exact wp_ret (r := some (.int 0)) rfl rfl q
theorem b122_56 {n : Nat} {h : q_Hp} {Q : Option Value → q_Hp → Prop} {x0 : Nat} {x1 : Nat} {x2 : Int32} (w : q_wp n 122 2 [some (.ref x0), some (.ref x1), some (.int (x2 + 1))] [] h Q) : q_wp n 122 56 [some (.ref x0), some (.ref x1), some (.int x2)] [] h Q := by
  refine wp_iinc (v := 1) rfl rfl (by decide) rfl ?_
  refine wp_goto (tgt := 2) rfl (by decide) ?_
  exact w
theorem b122_62 {n : Nat} {h : q_Hp} {Q : Option Value → q_Hp → Prop} {x0 : Nat} {x1 : Nat} {x2 : Int32} (q : Q (some (.int 1)) h) : q_wp n 122 62 [some (.ref x0), some (.ref x1), some (.int x2)] [] h Q := by
  refine wp_iconst (v := 1) rfl (by decide) ?_
  exact wp_ret (r := some (.int 1)) rfl rfl q
theorem b123_0 {n : Nat} {h : q_Hp} {Q : Option Value → q_Hp → Prop} {x0 : Nat} {x1 : Nat} {v0 : Nat} (k0 : q_ok h x0 5) (e0 : qR h x0 0 = v0) {m : Nat} {P : Int32 → q_Hp → Prop} (hc : q_mI m 72 [.ref v0] h P) (hm : m ≤ n) (w : ∀ (z : Int32) (h1 : q_Hp), P z h1 → q_wp (n + 1) 123 7 [some (.ref x0), some (.ref x1), none, none, none] [.int z] h1 Q) : q_wp (n + 1) 123 0 [some (.ref x0), some (.ref x1), none, none, none] [] h Q := by
  refine wp_loc rfl rfl ?_
  refine wp_getR rfl rfl rfl rfl k0 e0 ?_
  exact wp_callI (av := [.ref v0]) rfl rfl rfl (by decide) rfl rfl rfl hm hc w
theorem b123_7 {n : Nat} {h : q_Hp} {Q : Option Value → q_Hp → Prop} {x0 : Nat} {x1 : Nat} {s0 : Int32} {v0 : Nat} (k0 : q_ok h x0 5) (e0 : qR h x0 0 = v0) {m : Nat} {P : Int32 → q_Hp → Prop} (hc : q_mI m 73 [.ref v0] h P) (hm : m ≤ n) (w : ∀ (z : Int32) (h1 : q_Hp), P z h1 → q_wp (n + 1) 123 15 [some (.ref x0), some (.ref x1), some (.int s0), none, none] [.int z] h1 Q) : q_wp (n + 1) 123 7 [some (.ref x0), some (.ref x1), none, none, none] [.int s0] h Q := by
  refine wp_loc rfl rfl ?_
  refine wp_loc rfl rfl ?_
  refine wp_getR rfl rfl rfl rfl k0 e0 ?_
  exact wp_callI (av := [.ref v0]) rfl rfl rfl (by decide) rfl rfl rfl hm hc w
theorem b123_15 {n : Nat} {h : q_Hp} {Q : Option Value → q_Hp → Prop} {x0 : Nat} {x1 : Nat} {x2 : Int32} {s0 : Int32} (w : q_wp n 123 19 [some (.ref x0), some (.ref x1), some (.int x2), some (.int s0), some (.int 0)] [] h Q) : q_wp n 123 15 [some (.ref x0), some (.ref x1), some (.int x2), none, none] [.int s0] h Q := by
  refine wp_loc rfl rfl ?_
  refine wp_iconst (v := 0) rfl (by decide) ?_
  refine wp_loc rfl rfl ?_
  exact w
theorem b123_19 {n : Nat} {h : q_Hp} {Q : Option Value → q_Hp → Prop} {x0 : Nat} {x1 : Nat} {x2 : Int32} {x3 : Int32} {x4 : Int32} (k0 : q_ok h x1 6) (wt : (qI h x1 4) ≤ x4 → q_wp n 123 128 [some (.ref x0), some (.ref x1), some (.int x2), some (.int x3), some (.int x4)] [] h Q) (wf : ¬ (qI h x1 4) ≤ x4 → q_wp n 123 28 [some (.ref x0), some (.ref x1), some (.int x2), some (.int x3), some (.int x4)] [] h Q) : q_wp n 123 19 [some (.ref x0), some (.ref x1), some (.int x2), some (.int x3), some (.int x4)] [] h Q := by
  refine wp_loc rfl rfl ?_
  refine wp_loc rfl rfl ?_
  refine wp_getI rfl rfl rfl k0 ?_
  exact wp_icge (tgt := 128) rfl (by decide) wt wf
theorem b123_28 {n : Nat} {h : q_Hp} {Q : Option Value → q_Hp → Prop} {x0 : Nat} {x1 : Nat} {x2 : Int32} {x3 : Int32} {x4 : Int32} (wt : 8 ≤ x4 → q_wp n 123 128 [some (.ref x0), some (.ref x1), some (.int x2), some (.int x3), some (.int x4)] [] h Q) (wf : ¬ 8 ≤ x4 → q_wp n 123 35 [some (.ref x0), some (.ref x1), some (.int x2), some (.int x3), some (.int x4)] [] h Q) : q_wp n 123 28 [some (.ref x0), some (.ref x1), some (.int x2), some (.int x3), some (.int x4)] [] h Q := by
  refine wp_loc rfl rfl ?_
  refine wp_bipush (v := 8) rfl (by decide) ?_
  exact wp_icge (tgt := 128) rfl (by decide) wt wf
theorem b123_35 {n : Nat} {h : q_Hp} {Q : Option Value → q_Hp → Prop} {x0 : Nat} {x1 : Nat} {x2 : Int32} {x3 : Int32} {x4 : Int32} {v0 : Nat} (k0 : q_ok h x1 6) (e0 : qR h x1 14 = v0) (k1 : q_ok h v0 20) (i0 : q_in x4 (qK h v0).2) (w0 : (qA h v0 x4.toNatClampNeg) = 7 → q_wp n 123 90 [some (.ref x0), some (.ref x1), some (.int x2), some (.int x3), some (.int x4)] [] h Q) (w1 : (qA h v0 x4.toNatClampNeg) = 8 → q_wp n 123 108 [some (.ref x0), some (.ref x1), some (.int x2), some (.int x3), some (.int x4)] [] h Q) (w2 : (qA h v0 x4.toNatClampNeg) = 9 → q_wp n 123 108 [some (.ref x0), some (.ref x1), some (.int x2), some (.int x3), some (.int x4)] [] h Q) (w3 : (qA h v0 x4.toNatClampNeg) = 10 → q_wp n 123 108 [some (.ref x0), some (.ref x1), some (.int x2), some (.int x3), some (.int x4)] [] h Q) (w4 : (qA h v0 x4.toNatClampNeg) = 11 → q_wp n 123 84 [some (.ref x0), some (.ref x1), some (.int x2), some (.int x3), some (.int x4)] [] h Q) (w5 : (qA h v0 x4.toNatClampNeg) = 12 → q_wp n 123 96 [some (.ref x0), some (.ref x1), some (.int x2), some (.int x3), some (.int x4)] [] h Q) (w6 : (qA h v0 x4.toNatClampNeg) = 13 → q_wp n 123 102 [some (.ref x0), some (.ref x1), some (.int x2), some (.int x3), some (.int x4)] [] h Q) (wd : ((qA h v0 x4.toNatClampNeg).toInt < 7 ∨ 13 < (qA h v0 x4.toNatClampNeg).toInt) → q_wp n 123 108 [some (.ref x0), some (.ref x1), some (.int x2), some (.int x3), some (.int x4)] [] h Q) : q_wp n 123 35 [some (.ref x0), some (.ref x1), some (.int x2), some (.int x3), some (.int x4)] [] h Q := by
  refine wp_loc rfl rfl ?_
  refine wp_getR rfl rfl rfl rfl k0 e0 ?_
  refine wp_loc rfl rfl ?_
  refine wp_iald rfl k1 i0 ?_
  refine wp_tab (dt := 108) (tg := fun j => [90, 108, 108, 108, 84, 96, 102].getD j 0) rfl (by decide) (by decide) (by decide) (fun j hj hx => ?_) wd
  have hj : j < 7 := hj
  match j, hj, hx with
  | 0, _, hx => exact w0 (Int32.toInt_inj.mp hx)
  | 1, _, hx => exact w1 (Int32.toInt_inj.mp hx)
  | 2, _, hx => exact w2 (Int32.toInt_inj.mp hx)
  | 3, _, hx => exact w3 (Int32.toInt_inj.mp hx)
  | 4, _, hx => exact w4 (Int32.toInt_inj.mp hx)
  | 5, _, hx => exact w5 (Int32.toInt_inj.mp hx)
  | 6, _, hx => exact w6 (Int32.toInt_inj.mp hx)
theorem b123_84 {n : Nat} {h : q_Hp} {Q : Option Value → q_Hp → Prop} {x0 : Nat} {x1 : Nat} {x2 : Int32} {x3 : Int32} {x4 : Int32} (w : q_wp n 123 108 [some (.ref x0), some (.ref x1), some (.int (x2 + (-1))), some (.int x3), some (.int x4)] [] h Q) : q_wp n 123 84 [some (.ref x0), some (.ref x1), some (.int x2), some (.int x3), some (.int x4)] [] h Q := by
  refine wp_iinc (v := (-1)) rfl rfl (by decide) rfl ?_
  refine wp_goto (tgt := 108) rfl (by decide) ?_
  exact w
theorem b123_90 {n : Nat} {h : q_Hp} {Q : Option Value → q_Hp → Prop} {x0 : Nat} {x1 : Nat} {x2 : Int32} {x3 : Int32} {x4 : Int32} (w : q_wp n 123 108 [some (.ref x0), some (.ref x1), some (.int x2), some (.int (x3 + (-1))), some (.int x4)] [] h Q) : q_wp n 123 90 [some (.ref x0), some (.ref x1), some (.int x2), some (.int x3), some (.int x4)] [] h Q := by
  refine wp_iinc (v := (-1)) rfl rfl (by decide) rfl ?_
  refine wp_goto (tgt := 108) rfl (by decide) ?_
  exact w
theorem b123_96 {n : Nat} {h : q_Hp} {Q : Option Value → q_Hp → Prop} {x0 : Nat} {x1 : Nat} {x2 : Int32} {x3 : Int32} {x4 : Int32} (w : q_wp n 123 108 [some (.ref x0), some (.ref x1), some (.int (x2 + 1)), some (.int x3), some (.int x4)] [] h Q) : q_wp n 123 96 [some (.ref x0), some (.ref x1), some (.int x2), some (.int x3), some (.int x4)] [] h Q := by
  refine wp_iinc (v := 1) rfl rfl (by decide) rfl ?_
  refine wp_goto (tgt := 108) rfl (by decide) ?_
  exact w
theorem b123_102 {n : Nat} {h : q_Hp} {Q : Option Value → q_Hp → Prop} {x0 : Nat} {x1 : Nat} {x2 : Int32} {x3 : Int32} {x4 : Int32} (w : q_wp n 123 108 [some (.ref x0), some (.ref x1), some (.int x2), some (.int (x3 + 1)), some (.int x4)] [] h Q) : q_wp n 123 102 [some (.ref x0), some (.ref x1), some (.int x2), some (.int x3), some (.int x4)] [] h Q := by
  refine wp_iinc (v := 1) rfl rfl (by decide) rfl ?_
  refine wp_goto (tgt := 108) rfl (by decide) ?_
  exact w
theorem b123_108 {n : Nat} {h : q_Hp} {Q : Option Value → q_Hp → Prop} {x0 : Nat} {x1 : Nat} {x2 : Int32} {x3 : Int32} {x4 : Int32} (wt : 12 < x2 → q_wp n 123 120 [some (.ref x0), some (.ref x1), some (.int x2), some (.int x3), some (.int x4)] [] h Q) (wf : ¬ 12 < x2 → q_wp n 123 114 [some (.ref x0), some (.ref x1), some (.int x2), some (.int x3), some (.int x4)] [] h Q) : q_wp n 123 108 [some (.ref x0), some (.ref x1), some (.int x2), some (.int x3), some (.int x4)] [] h Q := by
  refine wp_loc rfl rfl ?_
  refine wp_bipush (v := 12) rfl (by decide) ?_
  exact wp_icgt (tgt := 120) rfl (by decide) wt wf
theorem b123_114 {n : Nat} {h : q_Hp} {Q : Option Value → q_Hp → Prop} {x0 : Nat} {x1 : Nat} {x2 : Int32} {x3 : Int32} {x4 : Int32} (wt : x3 ≤ 40 → q_wp n 123 122 [some (.ref x0), some (.ref x1), some (.int x2), some (.int x3), some (.int x4)] [] h Q) (wf : ¬ x3 ≤ 40 → q_wp n 123 120 [some (.ref x0), some (.ref x1), some (.int x2), some (.int x3), some (.int x4)] [] h Q) : q_wp n 123 114 [some (.ref x0), some (.ref x1), some (.int x2), some (.int x3), some (.int x4)] [] h Q := by
  refine wp_loc rfl rfl ?_
  refine wp_bipush (v := 40) rfl (by decide) ?_
  exact wp_icle (tgt := 122) rfl (by decide) wt wf
theorem b123_120 {n : Nat} {h : q_Hp} {Q : Option Value → q_Hp → Prop} {x0 : Nat} {x1 : Nat} {x2 : Int32} {x3 : Int32} {x4 : Int32} (q : Q (some (.int 0)) h) : q_wp n 123 120 [some (.ref x0), some (.ref x1), some (.int x2), some (.int x3), some (.int x4)] [] h Q := by
  refine wp_iconst (v := 0) rfl (by decide) ?_
  exact wp_ret (r := some (.int 0)) rfl rfl q
theorem b123_122 {n : Nat} {h : q_Hp} {Q : Option Value → q_Hp → Prop} {x0 : Nat} {x1 : Nat} {x2 : Int32} {x3 : Int32} {x4 : Int32} (w : q_wp n 123 19 [some (.ref x0), some (.ref x1), some (.int x2), some (.int x3), some (.int (x4 + 1))] [] h Q) : q_wp n 123 122 [some (.ref x0), some (.ref x1), some (.int x2), some (.int x3), some (.int x4)] [] h Q := by
  refine wp_iinc (v := 1) rfl rfl (by decide) rfl ?_
  refine wp_goto (tgt := 19) rfl (by decide) ?_
  exact w
theorem b123_128 {n : Nat} {h : q_Hp} {Q : Option Value → q_Hp → Prop} {x0 : Nat} {x1 : Nat} {x2 : Int32} {x3 : Int32} {x4 : Int32} (q : Q (some (.int 1)) h) : q_wp n 123 128 [some (.ref x0), some (.ref x1), some (.int x2), some (.int x3), some (.int x4)] [] h Q := by
  refine wp_iconst (v := 1) rfl (by decide) ?_
  exact wp_ret (r := some (.int 1)) rfl rfl q
theorem b124_0 {n : Nat} {h : q_Hp} {Q : Option Value → q_Hp → Prop} {x0 : Nat} {x1 : Nat} {x2 : Int32} {v0 : Nat} (k0 : q_ok h x1 6) (e0 : qR h x1 15 = v0) {m : Nat} {P : Int32 → q_Hp → Prop} (hc : q_mI m 232 [.ref v0, .int x2] h P) (hm : m ≤ n) (w : ∀ (z : Int32) (h1 : q_Hp), P z h1 → q_wp (n + 1) 124 8 [some (.ref x0), some (.ref x1), some (.int x2), none, none] [.int z] h1 Q) : q_wp (n + 1) 124 0 [some (.ref x0), some (.ref x1), some (.int x2), none, none] [] h Q := by
  refine wp_loc rfl rfl ?_
  refine wp_getR rfl rfl rfl rfl k0 e0 ?_
  refine wp_loc rfl rfl ?_
  exact wp_callI (av := [.ref v0, .int x2]) rfl rfl rfl (by decide) rfl rfl rfl hm hc w
theorem b124_8 {n : Nat} {h : q_Hp} {Q : Option Value → q_Hp → Prop} {x0 : Nat} {x1 : Nat} {x2 : Int32} {s0 : Int32} {v0 : Nat} (k0 : q_ok h x1 6) (e0 : qR h x1 16 = v0) {m : Nat} {P : Int32 → q_Hp → Prop} (hc : q_mI m 232 [.ref v0, .int x2] h P) (hm : m ≤ n) (w : ∀ (z : Int32) (h1 : q_Hp), P z h1 → q_wp (n + 1) 124 17 [some (.ref x0), some (.ref x1), some (.int x2), some (.int s0), none] [.int z] h1 Q) : q_wp (n + 1) 124 8 [some (.ref x0), some (.ref x1), some (.int x2), none, none] [.int s0] h Q := by
  refine wp_loc rfl rfl ?_
  refine wp_loc rfl rfl ?_
  refine wp_getR rfl rfl rfl rfl k0 e0 ?_
  refine wp_loc rfl rfl ?_
  exact wp_callI (av := [.ref v0, .int x2]) rfl rfl rfl (by decide) rfl rfl rfl hm hc w
theorem b124_17 {n : Nat} {h : q_Hp} {Q : Option Value → q_Hp → Prop} {x0 : Nat} {x1 : Nat} {x2 : Int32} {x3 : Int32} {s0 : Int32} {v0 : Nat} (k0 : q_ok h x1 6) (e0 : qR h x1 14 = v0) {m : Nat} {P : Int32 → q_Hp → Prop} (hc : q_mI m 232 [.ref v0, .int x2] h P) (hm : m ≤ n) (w : ∀ (z : Int32) (h1 : q_Hp), P z h1 → q_wp (n + 1) 124 27 [some (.ref x0), some (.ref x1), some (.int x2), some (.int x3), some (.int s0)] [.int z] h1 Q) : q_wp (n + 1) 124 17 [some (.ref x0), some (.ref x1), some (.int x2), some (.int x3), none] [.int s0] h Q := by
  refine wp_loc rfl rfl ?_
  refine wp_loc rfl rfl ?_
  refine wp_getR rfl rfl rfl rfl k0 e0 ?_
  refine wp_loc rfl rfl ?_
  exact wp_callI (av := [.ref v0, .int x2]) rfl rfl rfl (by decide) rfl rfl rfl hm hc w
theorem b124_27 {n : Nat} {h : q_Hp} {Q : Option Value → q_Hp → Prop} {x0 : Nat} {x1 : Nat} {x2 : Int32} {x3 : Int32} {x4 : Int32} {s0 : Int32} (w0 : s0 = 7 → q_wp n 124 86 [some (.ref x0), some (.ref x1), some (.int x2), some (.int x3), some (.int x4)] [] h Q) (w1 : s0 = 8 → q_wp n 124 156 [some (.ref x0), some (.ref x1), some (.int x2), some (.int x3), some (.int x4)] [] h Q) (w2 : s0 = 9 → q_wp n 124 156 [some (.ref x0), some (.ref x1), some (.int x2), some (.int x3), some (.int x4)] [] h Q) (w3 : s0 = 10 → q_wp n 124 156 [some (.ref x0), some (.ref x1), some (.int x2), some (.int x3), some (.int x4)] [] h Q) (w4 : s0 = 11 → q_wp n 124 68 [some (.ref x0), some (.ref x1), some (.int x2), some (.int x3), some (.int x4)] [] h Q) (w5 : s0 = 12 → q_wp n 124 104 [some (.ref x0), some (.ref x1), some (.int x2), some (.int x3), some (.int x4)] [] h Q) (w6 : s0 = 13 → q_wp n 124 126 [some (.ref x0), some (.ref x1), some (.int x2), some (.int x3), some (.int x4)] [] h Q) (wd : (s0.toInt < 7 ∨ 13 < s0.toInt) → q_wp n 124 156 [some (.ref x0), some (.ref x1), some (.int x2), some (.int x3), some (.int x4)] [] h Q) : q_wp n 124 27 [some (.ref x0), some (.ref x1), some (.int x2), some (.int x3), some (.int x4)] [.int s0] h Q := by
  refine wp_tab (dt := 156) (tg := fun j => [86, 156, 156, 156, 68, 104, 126].getD j 0) rfl (by decide) (by decide) (by decide) (fun j hj hx => ?_) wd
  have hj : j < 7 := hj
  match j, hj, hx with
  | 0, _, hx => exact w0 (Int32.toInt_inj.mp hx)
  | 1, _, hx => exact w1 (Int32.toInt_inj.mp hx)
  | 2, _, hx => exact w2 (Int32.toInt_inj.mp hx)
  | 3, _, hx => exact w3 (Int32.toInt_inj.mp hx)
  | 4, _, hx => exact w4 (Int32.toInt_inj.mp hx)
  | 5, _, hx => exact w5 (Int32.toInt_inj.mp hx)
  | 6, _, hx => exact w6 (Int32.toInt_inj.mp hx)
theorem b124_68 {n : Nat} {h : q_Hp} {Q : Option Value → q_Hp → Prop} {x0 : Nat} {x1 : Nat} {x2 : Int32} {x3 : Int32} {x4 : Int32} {v0 : Nat} {v1 : Nat} (k0 : q_ok h x0 5) (e0 : qR h x0 0 = v0) (e1 : qR h x0 1 = v1) {m : Nat} {P : Int32 → q_Hp → Prop} (hc : q_mI m 110 [.ref v1, .int x3] h P) (hm : m ≤ n) (w : ∀ (z : Int32) (h1 : q_Hp), P z h1 → q_wp (n + 1) 124 80 [some (.ref x0), some (.ref x1), some (.int x2), some (.int x3), some (.int x4)] [.int z, .ref v0] h1 Q) : q_wp (n + 1) 124 68 [some (.ref x0), some (.ref x1), some (.int x2), some (.int x3), some (.int x4)] [] h Q := by
  refine wp_loc rfl rfl ?_
  refine wp_getR rfl rfl rfl rfl k0 e0 ?_
  refine wp_loc rfl rfl ?_
  refine wp_getR rfl rfl rfl rfl k0 e1 ?_
  refine wp_loc rfl rfl ?_
  exact wp_callI (av := [.ref v1, .int x3]) rfl rfl rfl (by decide) rfl rfl rfl hm hc w
theorem b124_80 {n : Nat} {h : q_Hp} {Q : Option Value → q_Hp → Prop} {x0 : Nat} {x1 : Nat} {x2 : Int32} {x3 : Int32} {x4 : Int32} {s0 : Int32} {s1 : Nat} {m : Nat} {P : q_Hp → Prop} (hc : q_mV m 79 [.ref s1, .int s0] h P) (hm : m ≤ n) (w : ∀ h1 : q_Hp, P h1 → q_wp (n + 1) 124 83 [some (.ref x0), some (.ref x1), some (.int x2), some (.int x3), some (.int x4)] [] h1 Q) : q_wp (n + 1) 124 80 [some (.ref x0), some (.ref x1), some (.int x2), some (.int x3), some (.int x4)] [.int s0, .ref s1] h Q := by
  exact wp_callV (av := [.ref s1, .int s0]) rfl rfl rfl (by decide) rfl rfl rfl hm hc w
theorem b124_83 {n : Nat} {h : q_Hp} {Q : Option Value → q_Hp → Prop} {x0 : Nat} {x1 : Nat} {x2 : Int32} {x3 : Int32} {x4 : Int32} (w : q_wp n 124 178 [some (.ref x0), some (.ref x1), some (.int x2), some (.int x3), some (.int x4)] [] h Q) : q_wp n 124 83 [some (.ref x0), some (.ref x1), some (.int x2), some (.int x3), some (.int x4)] [] h Q := by
  refine wp_goto (tgt := 178) rfl (by decide) ?_
  exact w
theorem b124_86 {n : Nat} {h : q_Hp} {Q : Option Value → q_Hp → Prop} {x0 : Nat} {x1 : Nat} {x2 : Int32} {x3 : Int32} {x4 : Int32} {v0 : Nat} {v1 : Nat} (k0 : q_ok h x0 5) (e0 : qR h x0 0 = v0) (e1 : qR h x0 1 = v1) {m : Nat} {P : Int32 → q_Hp → Prop} (hc : q_mI m 111 [.ref v1, .int x3] h P) (hm : m ≤ n) (w : ∀ (z : Int32) (h1 : q_Hp), P z h1 → q_wp (n + 1) 124 98 [some (.ref x0), some (.ref x1), some (.int x2), some (.int x3), some (.int x4)] [.int z, .ref v0] h1 Q) : q_wp (n + 1) 124 86 [some (.ref x0), some (.ref x1), some (.int x2), some (.int x3), some (.int x4)] [] h Q := by
  refine wp_loc rfl rfl ?_
  refine wp_getR rfl rfl rfl rfl k0 e0 ?_
  refine wp_loc rfl rfl ?_
  refine wp_getR rfl rfl rfl rfl k0 e1 ?_
  refine wp_loc rfl rfl ?_
  exact wp_callI (av := [.ref v1, .int x3]) rfl rfl rfl (by decide) rfl rfl rfl hm hc w
theorem b124_98 {n : Nat} {h : q_Hp} {Q : Option Value → q_Hp → Prop} {x0 : Nat} {x1 : Nat} {x2 : Int32} {x3 : Int32} {x4 : Int32} {s0 : Int32} {s1 : Nat} {m : Nat} {P : q_Hp → Prop} (hc : q_mV m 80 [.ref s1, .int s0] h P) (hm : m ≤ n) (w : ∀ h1 : q_Hp, P h1 → q_wp (n + 1) 124 101 [some (.ref x0), some (.ref x1), some (.int x2), some (.int x3), some (.int x4)] [] h1 Q) : q_wp (n + 1) 124 98 [some (.ref x0), some (.ref x1), some (.int x2), some (.int x3), some (.int x4)] [.int s0, .ref s1] h Q := by
  exact wp_callV (av := [.ref s1, .int s0]) rfl rfl rfl (by decide) rfl rfl rfl hm hc w
theorem b124_101 {n : Nat} {h : q_Hp} {Q : Option Value → q_Hp → Prop} {x0 : Nat} {x1 : Nat} {x2 : Int32} {x3 : Int32} {x4 : Int32} (w : q_wp n 124 178 [some (.ref x0), some (.ref x1), some (.int x2), some (.int x3), some (.int x4)] [] h Q) : q_wp n 124 101 [some (.ref x0), some (.ref x1), some (.int x2), some (.int x3), some (.int x4)] [] h Q := by
  refine wp_goto (tgt := 178) rfl (by decide) ?_
  exact w
theorem b124_104 {n : Nat} {h : q_Hp} {Q : Option Value → q_Hp → Prop} {x0 : Nat} {x1 : Nat} {x2 : Int32} {x3 : Int32} {x4 : Int32} {v0 : Nat} {v1 : Nat} (k0 : q_ok h x0 5) (e0 : qR h x0 4 = v0) (e1 : qR h x0 0 = v1) {m : Nat} {P : Int32 → q_Hp → Prop} (hc : q_mI m 77 [.ref v1, .int x4] h P) (hm : m ≤ n) (w : ∀ (z : Int32) (h1 : q_Hp), P z h1 → q_wp (n + 1) 124 120 [some (.ref x0), some (.ref x1), some (.int x2), some (.int x3), some (.int x4)] [.int z, .int (x3 - 4), .ref v0] h1 Q) : q_wp (n + 1) 124 104 [some (.ref x0), some (.ref x1), some (.int x2), some (.int x3), some (.int x4)] [] h Q := by
  refine wp_loc rfl rfl ?_
  refine wp_getR rfl rfl rfl rfl k0 e0 ?_
  refine wp_loc rfl rfl ?_
  refine wp_iconst (v := 4) rfl (by decide) ?_
  refine wp_stk rfl rfl rfl ?_
  refine wp_loc rfl rfl ?_
  refine wp_getR rfl rfl rfl rfl k0 e1 ?_
  refine wp_loc rfl rfl ?_
  exact wp_callI (av := [.ref v1, .int x4]) rfl rfl rfl (by decide) rfl rfl rfl hm hc w
theorem b124_120 {n : Nat} {h : q_Hp} {Q : Option Value → q_Hp → Prop} {x0 : Nat} {x1 : Nat} {x2 : Int32} {x3 : Int32} {x4 : Int32} {s0 : Int32} {s1 : Int32} {s2 : Nat} {m : Nat} {P : q_Hp → Prop} (hc : q_mV m 233 [.ref s2, .int s1, .int s0] h P) (hm : m ≤ n) (w : ∀ h1 : q_Hp, P h1 → q_wp (n + 1) 124 123 [some (.ref x0), some (.ref x1), some (.int x2), some (.int x3), some (.int x4)] [] h1 Q) : q_wp (n + 1) 124 120 [some (.ref x0), some (.ref x1), some (.int x2), some (.int x3), some (.int x4)] [.int s0, .int s1, .ref s2] h Q := by
  exact wp_callV (av := [.ref s2, .int s1, .int s0]) rfl rfl rfl (by decide) rfl rfl rfl hm hc w
theorem b124_123 {n : Nat} {h : q_Hp} {Q : Option Value → q_Hp → Prop} {x0 : Nat} {x1 : Nat} {x2 : Int32} {x3 : Int32} {x4 : Int32} (w : q_wp n 124 178 [some (.ref x0), some (.ref x1), some (.int x2), some (.int x3), some (.int x4)] [] h Q) : q_wp n 124 123 [some (.ref x0), some (.ref x1), some (.int x2), some (.int x3), some (.int x4)] [] h Q := by
  refine wp_goto (tgt := 178) rfl (by decide) ?_
  exact w
theorem b124_126 {n : Nat} {h : q_Hp} {Q : Option Value → q_Hp → Prop} {x0 : Nat} {x1 : Nat} {x2 : Int32} {x3 : Int32} {x4 : Int32} {v0 : Nat} (k0 : q_ok h x0 5) (e0 : qR h x0 0 = v0) {m : Nat} {P : Int32 → q_Hp → Prop} (hc : q_mI m 125 [.ref x0, .int x3] h P) (hm : m ≤ n) (w : ∀ (z : Int32) (h1 : q_Hp), P z h1 → q_wp (n + 1) 124 137 [some (.ref x0), some (.ref x1), some (.int x2), some (.int x3), some (.int x4)] [.int z, .int x4, .ref v0] h1 Q) : q_wp (n + 1) 124 126 [some (.ref x0), some (.ref x1), some (.int x2), some (.int x3), some (.int x4)] [] h Q := by
  refine wp_loc rfl rfl ?_
  refine wp_getR rfl rfl rfl rfl k0 e0 ?_
  refine wp_loc rfl rfl ?_
  refine wp_loc rfl rfl ?_
  refine wp_loc rfl rfl ?_
  exact wp_callI (av := [.ref x0, .int x3]) rfl rfl rfl (by decide) rfl rfl rfl hm hc w
theorem b124_137 {n : Nat} {h : q_Hp} {Q : Option Value → q_Hp → Prop} {x0 : Nat} {x1 : Nat} {x2 : Int32} {x3 : Int32} {x4 : Int32} {s0 : Int32} {s1 : Int32} {s2 : Nat} {v0 : Nat} (k0 : q_ok h x1 6) (e0 : qR h x1 17 = v0) {m : Nat} {P : Int32 → q_Hp → Prop} (hc : q_mI m 232 [.ref v0, .int x2] h P) (hm : m ≤ n) (w : ∀ (z : Int32) (h1 : q_Hp), P z h1 → q_wp (n + 1) 124 146 [some (.ref x0), some (.ref x1), some (.int x2), some (.int x3), some (.int x4)] [.int z, .ref x0, .int s0, .int s1, .ref s2] h1 Q) : q_wp (n + 1) 124 137 [some (.ref x0), some (.ref x1), some (.int x2), some (.int x3), some (.int x4)] [.int s0, .int s1, .ref s2] h Q := by
  refine wp_loc rfl rfl ?_
  refine wp_loc rfl rfl ?_
  refine wp_getR rfl rfl rfl rfl k0 e0 ?_
  refine wp_loc rfl rfl ?_
  exact wp_callI (av := [.ref v0, .int x2]) rfl rfl rfl (by decide) rfl rfl rfl hm hc w
theorem b124_146 {n : Nat} {h : q_Hp} {Q : Option Value → q_Hp → Prop} {x0 : Nat} {x1 : Nat} {x2 : Int32} {x3 : Int32} {x4 : Int32} {s0 : Int32} {s1 : Nat} {s2 : Int32} {s3 : Int32} {s4 : Nat} {m : Nat} {P : Int32 → q_Hp → Prop} (hc : q_mI m 125 [.ref s1, .int s0] h P) (hm : m ≤ n) (w : ∀ (z : Int32) (h1 : q_Hp), P z h1 → q_wp (n + 1) 124 149 [some (.ref x0), some (.ref x1), some (.int x2), some (.int x3), some (.int x4)] [.int z, .int s2, .int s3, .ref s4] h1 Q) : q_wp (n + 1) 124 146 [some (.ref x0), some (.ref x1), some (.int x2), some (.int x3), some (.int x4)] [.int s0, .ref s1, .int s2, .int s3, .ref s4] h Q := by
  exact wp_callI (av := [.ref s1, .int s0]) rfl rfl rfl (by decide) rfl rfl rfl hm hc w
theorem b124_149 {n : Nat} {h : q_Hp} {Q : Option Value → q_Hp → Prop} {x0 : Nat} {x1 : Nat} {x2 : Int32} {x3 : Int32} {x4 : Int32} {s0 : Int32} {s1 : Int32} {s2 : Int32} {s3 : Nat} {m : Nat} {P : Int32 → q_Hp → Prop} (hc : q_mI m 78 [.ref s3, .int s2, .int s1, .int s0] h P) (hm : m ≤ n) (w : ∀ (z : Int32) (h1 : q_Hp), P z h1 → q_wp (n + 1) 124 152 [some (.ref x0), some (.ref x1), some (.int x2), some (.int x3), some (.int x4)] [.int z] h1 Q) : q_wp (n + 1) 124 149 [some (.ref x0), some (.ref x1), some (.int x2), some (.int x3), some (.int x4)] [.int s0, .int s1, .int s2, .ref s3] h Q := by
  exact wp_callI (av := [.ref s3, .int s2, .int s1, .int s0]) rfl rfl rfl (by decide) rfl rfl rfl hm hc w
theorem b124_152 {n : Nat} {h : q_Hp} {Q : Option Value → q_Hp → Prop} {x0 : Nat} {x1 : Nat} {x2 : Int32} {x3 : Int32} {x4 : Int32} {s0 : Int32} (w : q_wp n 124 178 [some (.ref x0), some (.ref x1), some (.int x2), some (.int x3), some (.int x4)] [] h Q) : q_wp n 124 152 [some (.ref x0), some (.ref x1), some (.int x2), some (.int x3), some (.int x4)] [.int s0] h Q := by
  refine wp_stk rfl rfl rfl ?_
  refine wp_goto (tgt := 178) rfl (by decide) ?_
  exact w
theorem b124_156 {n : Nat} {h : q_Hp} {Q : Option Value → q_Hp → Prop} {x0 : Nat} {x1 : Nat} {x2 : Int32} {x3 : Int32} {x4 : Int32} {v0 : Nat} (k0 : q_ok h x0 5) (e0 : qR h x0 0 = v0) {m : Nat} {P : Int32 → q_Hp → Prop} (hc : q_mI m 125 [.ref x0, .int x3] h P) (hm : m ≤ n) (w : ∀ (z : Int32) (h1 : q_Hp), P z h1 → q_wp (n + 1) 124 165 [some (.ref x0), some (.ref x1), some (.int x2), some (.int x3), some (.int x4)] [.int z, .ref v0] h1 Q) : q_wp (n + 1) 124 156 [some (.ref x0), some (.ref x1), some (.int x2), some (.int x3), some (.int x4)] [] h Q := by
  refine wp_loc rfl rfl ?_
  refine wp_getR rfl rfl rfl rfl k0 e0 ?_
  refine wp_loc rfl rfl ?_
  refine wp_loc rfl rfl ?_
  exact wp_callI (av := [.ref x0, .int x3]) rfl rfl rfl (by decide) rfl rfl rfl hm hc w
theorem b124_165 {n : Nat} {h : q_Hp} {Q : Option Value → q_Hp → Prop} {x0 : Nat} {x1 : Nat} {x2 : Int32} {x3 : Int32} {x4 : Int32} {s0 : Int32} {s1 : Nat} {v0 : Nat} (k0 : q_ok h x0 5) (e0 : qR h x0 3 = v0) {m : Nat} {P : Int32 → q_Hp → Prop} (hc : q_mI m 232 [.ref v0, .int x2] h P) (hm : m ≤ n) (w : ∀ (z : Int32) (h1 : q_Hp), P z h1 → q_wp (n + 1) 124 175 [some (.ref x0), some (.ref x1), some (.int x2), some (.int x3), some (.int x4)] [.int z, .int x4, .int s0, .ref s1] h1 Q) : q_wp (n + 1) 124 165 [some (.ref x0), some (.ref x1), some (.int x2), some (.int x3), some (.int x4)] [.int s0, .ref s1] h Q := by
  refine wp_loc rfl rfl ?_
  refine wp_loc rfl rfl ?_
  refine wp_getR rfl rfl rfl rfl k0 e0 ?_
  refine wp_loc rfl rfl ?_
  exact wp_callI (av := [.ref v0, .int x2]) rfl rfl rfl (by decide) rfl rfl rfl hm hc w
theorem b124_175 {n : Nat} {h : q_Hp} {Q : Option Value → q_Hp → Prop} {x0 : Nat} {x1 : Nat} {x2 : Int32} {x3 : Int32} {x4 : Int32} {s0 : Int32} {s1 : Int32} {s2 : Int32} {s3 : Nat} {m : Nat} {P : q_Hp → Prop} (hc : q_mV m 67 [.ref s3, .int s2, .int s1, .int s0] h P) (hm : m ≤ n) (w : ∀ h1 : q_Hp, P h1 → q_wp (n + 1) 124 178 [some (.ref x0), some (.ref x1), some (.int x2), some (.int x3), some (.int x4)] [] h1 Q) : q_wp (n + 1) 124 175 [some (.ref x0), some (.ref x1), some (.int x2), some (.int x3), some (.int x4)] [.int s0, .int s1, .int s2, .ref s3] h Q := by
  exact wp_callV (av := [.ref s3, .int s2, .int s1, .int s0]) rfl rfl rfl (by decide) rfl rfl rfl hm hc w
theorem b124_178 {n : Nat} {h : q_Hp} {Q : Option Value → q_Hp → Prop} {x0 : Nat} {x1 : Nat} {x2 : Int32} {x3 : Int32} {x4 : Int32} (q : Q none h) : q_wp n 124 178 [some (.ref x0), some (.ref x1), some (.int x2), some (.int x3), some (.int x4)] [] h Q := by
  exact wp_ret rfl rfl q
theorem b125_0 {n : Nat} {h : q_Hp} {Q : Option Value → q_Hp → Prop} {x0 : Nat} {x1 : Int32} (wt : 4 ≤ x1 → q_wp n 125 16 [some (.ref x0), some (.int x1)] [] h Q) (wf : ¬ 4 ≤ x1 → q_wp n 125 5 [some (.ref x0), some (.int x1)] [] h Q) : q_wp n 125 0 [some (.ref x0), some (.int x1)] [] h Q := by
  refine wp_loc rfl rfl ?_
  refine wp_iconst (v := 4) rfl (by decide) ?_
  exact wp_icge (tgt := 16) rfl (by decide) wt wf
theorem b125_5 {n : Nat} {h : q_Hp} {Q : Option Value → q_Hp → Prop} {x0 : Nat} {x1 : Int32} {v0 : Nat} (k0 : q_ok h x0 5) (e0 : qR h x0 1 = v0) {m : Nat} {P : Int32 → q_Hp → Prop} (hc : q_mI m 110 [.ref v0, .int x1] h P) (hm : m ≤ n) (w : ∀ (z : Int32) (h1 : q_Hp), P z h1 → q_wp (n + 1) 125 13 [some (.ref x0), some (.int x1)] [.int z] h1 Q) : q_wp (n + 1) 125 5 [some (.ref x0), some (.int x1)] [] h Q := by
  refine wp_loc rfl rfl ?_
  refine wp_getR rfl rfl rfl rfl k0 e0 ?_
  refine wp_loc rfl rfl ?_
  exact wp_callI (av := [.ref v0, .int x1]) rfl rfl rfl (by decide) rfl rfl rfl hm hc w
theorem b125_13 {n : Nat} {h : q_Hp} {Q : Option Value → q_Hp → Prop} {x0 : Nat} {x1 : Int32} {s0 : Int32} (w : q_wp n 125 26 [some (.ref x0), some (.int x1)] [.int s0] h Q) : q_wp n 125 13 [some (.ref x0), some (.int x1)] [.int s0] h Q := by
  refine wp_goto (tgt := 26) rfl (by decide) ?_
  exact w
theorem b125_16 {n : Nat} {h : q_Hp} {Q : Option Value → q_Hp → Prop} {x0 : Nat} {x1 : Int32} {v0 : Nat} (k0 : q_ok h x0 5) (e0 : qR h x0 4 = v0) {m : Nat} {P : Int32 → q_Hp → Prop} (hc : q_mI m 232 [.ref v0, .int (x1 - 4)] h P) (hm : m ≤ n) (w : ∀ (z : Int32) (h1 : q_Hp), P z h1 → q_wp (n + 1) 125 26 [some (.ref x0), some (.int x1)] [.int z] h1 Q) : q_wp (n + 1) 125 16 [some (.ref x0), some (.int x1)] [] h Q := by
  refine wp_loc rfl rfl ?_
  refine wp_getR rfl rfl rfl rfl k0 e0 ?_
  refine wp_loc rfl rfl ?_
  refine wp_iconst (v := 4) rfl (by decide) ?_
  refine wp_stk rfl rfl rfl ?_
  exact wp_callI (av := [.ref v0, .int (x1 - 4)]) rfl rfl rfl (by decide) rfl rfl rfl hm hc w
theorem b125_26 {n : Nat} {h : q_Hp} {Q : Option Value → q_Hp → Prop} {x0 : Nat} {x1 : Int32} {s0 : Int32} (q : Q (some (.int s0)) h) : q_wp n 125 26 [some (.ref x0), some (.int x1)] [.int s0] h Q := by
  exact wp_ret rfl rfl q
