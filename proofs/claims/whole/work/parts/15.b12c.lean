theorem b303_0 {n : Nat} {h : q_Hp} {Q : Option Value → q_Hp → Prop} {x0 : Nat} {x1 : Int32} {x2 : Int32} {x3 : Int32} {m : Nat} {P : Int32 → q_Hp → Prop} (hc : q_mI m 294 [.ref x0, .int x1] h P) (hm : m ≤ n) (w : ∀ (z : Int32) (h1 : q_Hp), P z h1 → q_wp (n + 1) 303 5 [some (.ref x0), some (.int x1), some (.int x2), some (.int x3)] [.int z] h1 Q) : q_wp (n + 1) 303 0 [some (.ref x0), some (.int x1), some (.int x2), some (.int x3)] [] h Q := by
  refine wp_loc rfl rfl ?_
  refine wp_loc rfl rfl ?_
  exact wp_callI (av := [.ref x0, .int x1]) rfl rfl rfl (by decide) rfl rfl rfl hm hc w
theorem b303_5 {n : Nat} {h : q_Hp} {Q : Option Value → q_Hp → Prop} {x0 : Nat} {x1 : Int32} {x2 : Int32} {x3 : Int32} {s0 : Int32} (wt : s0 = 0 → q_wp n 303 24 [some (.ref x0), some (.int x1), some (.int x2), some (.int x3)] [] h Q) (wf : ¬ s0 = 0 → q_wp n 303 8 [some (.ref x0), some (.int x1), some (.int x2), some (.int x3)] [] h Q) : q_wp n 303 5 [some (.ref x0), some (.int x1), some (.int x2), some (.int x3)] [.int s0] h Q := by
  exact wp_ifeq (tgt := 24) rfl (by decide) wt wf
theorem b303_8 {n : Nat} {h : q_Hp} {Q : Option Value → q_Hp → Prop} {x0 : Nat} {x1 : Int32} {x2 : Int32} {x3 : Int32} (wt : x2 < 0 → q_wp n 303 24 [some (.ref x0), some (.int x1), some (.int x2), some (.int x3)] [] h Q) (wf : ¬ x2 < 0 → q_wp n 303 12 [some (.ref x0), some (.int x1), some (.int x2), some (.int x3)] [] h Q) : q_wp n 303 8 [some (.ref x0), some (.int x1), some (.int x2), some (.int x3)] [] h Q := by
  refine wp_loc rfl rfl ?_
  exact wp_iflt (tgt := 24) rfl (by decide) wt wf
theorem b303_12 {n : Nat} {h : q_Hp} {Q : Option Value → q_Hp → Prop} {x0 : Nat} {x1 : Int32} {x2 : Int32} {x3 : Int32} (wt : 1 < x2 → q_wp n 303 24 [some (.ref x0), some (.int x1), some (.int x2), some (.int x3)] [] h Q) (wf : ¬ 1 < x2 → q_wp n 303 17 [some (.ref x0), some (.int x1), some (.int x2), some (.int x3)] [] h Q) : q_wp n 303 12 [some (.ref x0), some (.int x1), some (.int x2), some (.int x3)] [] h Q := by
  refine wp_loc rfl rfl ?_
  refine wp_iconst (v := 1) rfl (by decide) ?_
  exact wp_icgt (tgt := 24) rfl (by decide) wt wf
theorem b303_17 {n : Nat} {h : q_Hp} {Q : Option Value → q_Hp → Prop} {x0 : Nat} {x1 : Int32} {x2 : Int32} {x3 : Int32} {m : Nat} {P : Int32 → q_Hp → Prop} (hc : q_mI m 298 [.ref x0] h P) (hm : m ≤ n) (w : ∀ (z : Int32) (h1 : q_Hp), P z h1 → q_wp (n + 1) 303 21 [some (.ref x0), some (.int x1), some (.int x2), some (.int x3)] [.int z] h1 Q) : q_wp (n + 1) 303 17 [some (.ref x0), some (.int x1), some (.int x2), some (.int x3)] [] h Q := by
  refine wp_loc rfl rfl ?_
  exact wp_callI (av := [.ref x0]) rfl rfl rfl (by decide) rfl rfl rfl hm hc w
theorem b303_21 {n : Nat} {h : q_Hp} {Q : Option Value → q_Hp → Prop} {x0 : Nat} {x1 : Int32} {x2 : Int32} {x3 : Int32} {s0 : Int32} (wt : s0 = 0 → q_wp n 303 26 [some (.ref x0), some (.int x1), some (.int x2), some (.int x3)] [] h Q) (wf : ¬ s0 = 0 → q_wp n 303 24 [some (.ref x0), some (.int x1), some (.int x2), some (.int x3)] [] h Q) : q_wp n 303 21 [some (.ref x0), some (.int x1), some (.int x2), some (.int x3)] [.int s0] h Q := by
  exact wp_ifeq (tgt := 26) rfl (by decide) wt wf
theorem b303_24 {n : Nat} {h : q_Hp} {Q : Option Value → q_Hp → Prop} {x0 : Nat} {x1 : Int32} {x2 : Int32} {x3 : Int32} (q : Q (some (.int 0)) h) : q_wp n 303 24 [some (.ref x0), some (.int x1), some (.int x2), some (.int x3)] [] h Q := by
  refine wp_iconst (v := 0) rfl (by decide) ?_
  exact wp_ret (r := some (.int 0)) rfl rfl q
theorem b303_26 {n : Nat} {h : q_Hp} {Q : Option Value → q_Hp → Prop} {x0 : Nat} {x1 : Int32} {x2 : Int32} {x3 : Int32} {v0 : Nat} (k0 : q_ok h x0 12) (e0 : qR h x0 87 = v0) (wt : ¬ x2 = 0 → q_wp n 303 39 [some (.ref x0), some (.int x1), some (.int x2), some (.int x3)] [.ref v0] h Q) (wf : x2 = 0 → q_wp n 303 34 [some (.ref x0), some (.int x1), some (.int x2), some (.int x3)] [.ref v0] h Q) : q_wp n 303 26 [some (.ref x0), some (.int x1), some (.int x2), some (.int x3)] [] h Q := by
  refine wp_loc rfl rfl ?_
  refine wp_getR rfl rfl rfl rfl k0 e0 ?_
  refine wp_loc rfl rfl ?_
  exact wp_ifne (tgt := 39) rfl (by decide) wt wf
theorem b303_34 {n : Nat} {h : q_Hp} {Q : Option Value → q_Hp → Prop} {x0 : Nat} {x1 : Int32} {x2 : Int32} {x3 : Int32} {s0 : Nat} (w : q_wp n 303 41 [some (.ref x0), some (.int x1), some (.int x2), some (.int x3)] [.int 12, .ref s0] h Q) : q_wp n 303 34 [some (.ref x0), some (.int x1), some (.int x2), some (.int x3)] [.ref s0] h Q := by
  refine wp_bipush (v := 12) rfl (by decide) ?_
  refine wp_goto (tgt := 41) rfl (by decide) ?_
  exact w
theorem b303_39 {n : Nat} {h : q_Hp} {Q : Option Value → q_Hp → Prop} {x0 : Nat} {x1 : Int32} {x2 : Int32} {x3 : Int32} {s0 : Nat} (w : q_wp n 303 41 [some (.ref x0), some (.int x1), some (.int x2), some (.int x3)] [.int 24, .ref s0] h Q) : q_wp n 303 39 [some (.ref x0), some (.int x1), some (.int x2), some (.int x3)] [.ref s0] h Q := by
  refine wp_bipush (v := 24) rfl (by decide) ?_
  exact w
theorem b303_41 {n : Nat} {h : q_Hp} {Q : Option Value → q_Hp → Prop} {x0 : Nat} {x1 : Int32} {x2 : Int32} {x3 : Int32} {s0 : Int32} {s1 : Nat} (k0 : q_ok h s1 20) (i0 : q_in (s0 + x1) (qK h s1).2) (k1 : q_ok h x0 12) (q : Q (some (.int 1)) (q_sI (q_sA h s1 ((s0 + x1 : Int32).toNatClampNeg) x3) x0 92 (qI h x0 91))) : q_wp n 303 41 [some (.ref x0), some (.int x1), some (.int x2), some (.int x3)] [.int s0, .ref s1] h Q := by
  refine wp_loc rfl rfl ?_
  refine wp_stk rfl rfl rfl ?_
  refine wp_loc rfl rfl ?_
  refine wp_iast rfl k0 i0 ?_
  refine wp_loc rfl rfl ?_
  refine wp_loc rfl rfl ?_
  refine wp_getI rfl rfl rfl k1 ?_
  refine wp_putI rfl rfl (Or.inl rfl) rfl (fun h9 => by cases h9) k1 ?_
  refine wp_iconst (v := 1) rfl (by decide) ?_
  exact wp_ret (r := some (.int 1)) rfl rfl q
theorem b304_0 {n : Nat} {h : q_Hp} {Q : Option Value → q_Hp → Prop} {x0 : Nat} {x1 : Int32} {x2 : Int32} (w : q_wp n 304 5 [some (.ref x0), some (.int x1), some (.int x2), some (.int 0), some (.int 0)] [] h Q) : q_wp n 304 0 [some (.ref x0), some (.int x1), some (.int x2), none, none] [] h Q := by
  refine wp_iconst (v := 0) rfl (by decide) ?_
  refine wp_loc rfl rfl ?_
  refine wp_iconst (v := 0) rfl (by decide) ?_
  refine wp_loc rfl rfl ?_
  exact w
theorem b304_5 {n : Nat} {h : q_Hp} {Q : Option Value → q_Hp → Prop} {x0 : Nat} {x1 : Int32} {x2 : Int32} {x3 : Int32} {x4 : Int32} (wt : 40 ≤ x4 → q_wp n 304 48 [some (.ref x0), some (.int x1), some (.int x2), some (.int x3), some (.int x4)] [] h Q) (wf : ¬ 40 ≤ x4 → q_wp n 304 12 [some (.ref x0), some (.int x1), some (.int x2), some (.int x3), some (.int x4)] [] h Q) : q_wp n 304 5 [some (.ref x0), some (.int x1), some (.int x2), some (.int x3), some (.int x4)] [] h Q := by
  refine wp_loc rfl rfl ?_
  refine wp_bipush (v := 40) rfl (by decide) ?_
  exact wp_icge (tgt := 48) rfl (by decide) wt wf
theorem b304_12 {n : Nat} {h : q_Hp} {Q : Option Value → q_Hp → Prop} {x0 : Nat} {x1 : Int32} {x2 : Int32} {x3 : Int32} {x4 : Int32} {v0 : Nat} (k0 : q_ok h x0 12) (e0 : qR h x0 87 = v0) (k1 : q_ok h v0 20) (i0 : q_in (36 + x4) (qK h v0).2) (wt : (qA h v0 ((36 + x4 : Int32).toNatClampNeg)) = (-1) → q_wp n 304 42 [some (.ref x0), some (.int x1), some (.int x2), some (.int x3), some (.int x4)] [] h Q) (wf : ¬ (qA h v0 ((36 + x4 : Int32).toNatClampNeg)) = (-1) → q_wp n 304 26 [some (.ref x0), some (.int x1), some (.int x2), some (.int x3), some (.int x4)] [] h Q) : q_wp n 304 12 [some (.ref x0), some (.int x1), some (.int x2), some (.int x3), some (.int x4)] [] h Q := by
  refine wp_loc rfl rfl ?_
  refine wp_getR rfl rfl rfl rfl k0 e0 ?_
  refine wp_bipush (v := 36) rfl (by decide) ?_
  refine wp_loc rfl rfl ?_
  refine wp_stk rfl rfl rfl ?_
  refine wp_iald rfl k1 i0 ?_
  refine wp_iconst (v := (-1)) rfl (by decide) ?_
  exact wp_iceq (tgt := 42) rfl (by decide) wt wf
theorem b304_26 {n : Nat} {h : q_Hp} {Q : Option Value → q_Hp → Prop} {x0 : Nat} {x1 : Int32} {x2 : Int32} {x3 : Int32} {x4 : Int32} {v0 : Nat} (k0 : q_ok h x0 12) (e0 : qR h x0 87 = v0) (k1 : q_ok h v0 20) (i0 : q_in (x2 + x4) (qK h v0).2) (wt : ¬ (qA h v0 ((x2 + x4 : Int32).toNatClampNeg)) = x1 → q_wp n 304 42 [some (.ref x0), some (.int x1), some (.int x2), some (.int x3), some (.int x4)] [] h Q) (wf : (qA h v0 ((x2 + x4 : Int32).toNatClampNeg)) = x1 → q_wp n 304 39 [some (.ref x0), some (.int x1), some (.int x2), some (.int x3), some (.int x4)] [] h Q) : q_wp n 304 26 [some (.ref x0), some (.int x1), some (.int x2), some (.int x3), some (.int x4)] [] h Q := by
  refine wp_loc rfl rfl ?_
  refine wp_getR rfl rfl rfl rfl k0 e0 ?_
  refine wp_loc rfl rfl ?_
  refine wp_loc rfl rfl ?_
  refine wp_stk rfl rfl rfl ?_
  refine wp_iald rfl k1 i0 ?_
  refine wp_loc rfl rfl ?_
  exact wp_icne (tgt := 42) rfl (by decide) wt wf
theorem b304_39 {n : Nat} {h : q_Hp} {Q : Option Value → q_Hp → Prop} {x0 : Nat} {x1 : Int32} {x2 : Int32} {x3 : Int32} {x4 : Int32} (w : q_wp n 304 42 [some (.ref x0), some (.int x1), some (.int x2), some (.int (x3 + 1)), some (.int x4)] [] h Q) : q_wp n 304 39 [some (.ref x0), some (.int x1), some (.int x2), some (.int x3), some (.int x4)] [] h Q := by
  refine wp_iinc (v := 1) rfl rfl (by decide) rfl ?_
  exact w
theorem b304_42 {n : Nat} {h : q_Hp} {Q : Option Value → q_Hp → Prop} {x0 : Nat} {x1 : Int32} {x2 : Int32} {x3 : Int32} {x4 : Int32} (w : q_wp n 304 5 [some (.ref x0), some (.int x1), some (.int x2), some (.int x3), some (.int (x4 + 1))] [] h Q) : q_wp n 304 42 [some (.ref x0), some (.int x1), some (.int x2), some (.int x3), some (.int x4)] [] h Q := by
  refine wp_iinc (v := 1) rfl rfl (by decide) rfl ?_
  refine wp_goto (tgt := 5) rfl (by decide) ?_
  exact w
theorem b304_48 {n : Nat} {h : q_Hp} {Q : Option Value → q_Hp → Prop} {x0 : Nat} {x1 : Int32} {x2 : Int32} {x3 : Int32} {x4 : Int32} (q : Q (some (.int x3)) h) : q_wp n 304 48 [some (.ref x0), some (.int x1), some (.int x2), some (.int x3), some (.int x4)] [] h Q := by
  refine wp_loc rfl rfl ?_
  exact wp_ret rfl rfl q
theorem b305_0 {n : Nat} {h : q_Hp} {Q : Option Value → q_Hp → Prop} {x0 : Nat} {x1 : Int32} {m : Nat} {P : Int32 → q_Hp → Prop} (hc : q_mI m 294 [.ref x0, .int x1] h P) (hm : m ≤ n) (w : ∀ (z : Int32) (h1 : q_Hp), P z h1 → q_wp (n + 1) 305 5 [some (.ref x0), some (.int x1)] [.int z] h1 Q) : q_wp (n + 1) 305 0 [some (.ref x0), some (.int x1)] [] h Q := by
  refine wp_loc rfl rfl ?_
  refine wp_loc rfl rfl ?_
  exact wp_callI (av := [.ref x0, .int x1]) rfl rfl rfl (by decide) rfl rfl rfl hm hc w
theorem b305_5 {n : Nat} {h : q_Hp} {Q : Option Value → q_Hp → Prop} {x0 : Nat} {x1 : Int32} {s0 : Int32} (wt : s0 = 0 → q_wp n 305 35 [some (.ref x0), some (.int x1)] [] h Q) (wf : ¬ s0 = 0 → q_wp n 305 8 [some (.ref x0), some (.int x1)] [] h Q) : q_wp n 305 5 [some (.ref x0), some (.int x1)] [.int s0] h Q := by
  exact wp_ifeq (tgt := 35) rfl (by decide) wt wf
theorem b305_8 {n : Nat} {h : q_Hp} {Q : Option Value → q_Hp → Prop} {x0 : Nat} {x1 : Int32} {m : Nat} {P : Int32 → q_Hp → Prop} (hc : q_mI m 304 [.ref x0, .int x1, .int 76] h P) (hm : m ≤ n) (w : ∀ (z : Int32) (h1 : q_Hp), P z h1 → q_wp (n + 1) 305 15 [some (.ref x0), some (.int x1)] [.int z] h1 Q) : q_wp (n + 1) 305 8 [some (.ref x0), some (.int x1)] [] h Q := by
  refine wp_loc rfl rfl ?_
  refine wp_loc rfl rfl ?_
  refine wp_bipush (v := 76) rfl (by decide) ?_
  exact wp_callI (av := [.ref x0, .int x1, .int 76]) rfl rfl rfl (by decide) rfl rfl rfl hm hc w
theorem b305_15 {n : Nat} {h : q_Hp} {Q : Option Value → q_Hp → Prop} {x0 : Nat} {x1 : Int32} {s0 : Int32} (wt : 0 < s0 → q_wp n 305 35 [some (.ref x0), some (.int x1)] [] h Q) (wf : ¬ 0 < s0 → q_wp n 305 18 [some (.ref x0), some (.int x1)] [] h Q) : q_wp n 305 15 [some (.ref x0), some (.int x1)] [.int s0] h Q := by
  exact wp_ifgt (tgt := 35) rfl (by decide) wt wf
theorem b305_18 {n : Nat} {h : q_Hp} {Q : Option Value → q_Hp → Prop} {x0 : Nat} {x1 : Int32} {m : Nat} {P : Int32 → q_Hp → Prop} (hc : q_mI m 304 [.ref x0, .int x1, .int 116] h P) (hm : m ≤ n) (w : ∀ (z : Int32) (h1 : q_Hp), P z h1 → q_wp (n + 1) 305 25 [some (.ref x0), some (.int x1)] [.int z] h1 Q) : q_wp (n + 1) 305 18 [some (.ref x0), some (.int x1)] [] h Q := by
  refine wp_loc rfl rfl ?_
  refine wp_loc rfl rfl ?_
  refine wp_bipush (v := 116) rfl (by decide) ?_
  exact wp_callI (av := [.ref x0, .int x1, .int 116]) rfl rfl rfl (by decide) rfl rfl rfl hm hc w
theorem b305_25 {n : Nat} {h : q_Hp} {Q : Option Value → q_Hp → Prop} {x0 : Nat} {x1 : Int32} {s0 : Int32} (wt : 0 < s0 → q_wp n 305 35 [some (.ref x0), some (.int x1)] [] h Q) (wf : ¬ 0 < s0 → q_wp n 305 28 [some (.ref x0), some (.int x1)] [] h Q) : q_wp n 305 25 [some (.ref x0), some (.int x1)] [.int s0] h Q := by
  exact wp_ifgt (tgt := 35) rfl (by decide) wt wf
theorem b305_28 {n : Nat} {h : q_Hp} {Q : Option Value → q_Hp → Prop} {x0 : Nat} {x1 : Int32} {m : Nat} {P : Int32 → q_Hp → Prop} (hc : q_mI m 298 [.ref x0] h P) (hm : m ≤ n) (w : ∀ (z : Int32) (h1 : q_Hp), P z h1 → q_wp (n + 1) 305 32 [some (.ref x0), some (.int x1)] [.int z] h1 Q) : q_wp (n + 1) 305 28 [some (.ref x0), some (.int x1)] [] h Q := by
  refine wp_loc rfl rfl ?_
  exact wp_callI (av := [.ref x0]) rfl rfl rfl (by decide) rfl rfl rfl hm hc w
theorem b305_32 {n : Nat} {h : q_Hp} {Q : Option Value → q_Hp → Prop} {x0 : Nat} {x1 : Int32} {s0 : Int32} (wt : s0 = 0 → q_wp n 305 37 [some (.ref x0), some (.int x1)] [] h Q) (wf : ¬ s0 = 0 → q_wp n 305 35 [some (.ref x0), some (.int x1)] [] h Q) : q_wp n 305 32 [some (.ref x0), some (.int x1)] [.int s0] h Q := by
  exact wp_ifeq (tgt := 37) rfl (by decide) wt wf
theorem b305_35 {n : Nat} {h : q_Hp} {Q : Option Value → q_Hp → Prop} {x0 : Nat} {x1 : Int32} (q : Q (some (.int 0)) h) : q_wp n 305 35 [some (.ref x0), some (.int x1)] [] h Q := by
  refine wp_iconst (v := 0) rfl (by decide) ?_
  exact wp_ret (r := some (.int 0)) rfl rfl q
theorem b305_37 {n : Nat} {h : q_Hp} {Q : Option Value → q_Hp → Prop} {x0 : Nat} {x1 : Int32} {m : Nat} {P : q_Hp → Prop} (hc : q_mV m 306 [.ref x0, .int x1] h P) (hm : m ≤ n) (w : ∀ h1 : q_Hp, P h1 → q_wp (n + 1) 305 42 [some (.ref x0), some (.int x1)] [] h1 Q) : q_wp (n + 1) 305 37 [some (.ref x0), some (.int x1)] [] h Q := by
  refine wp_loc rfl rfl ?_
  refine wp_loc rfl rfl ?_
  exact wp_callV (av := [.ref x0, .int x1]) rfl rfl rfl (by decide) rfl rfl rfl hm hc w
theorem b305_42 {n : Nat} {h : q_Hp} {Q : Option Value → q_Hp → Prop} {x0 : Nat} {x1 : Int32} (k0 : q_ok h x0 12) (q : Q (some (.int 1)) (q_sI h x0 92 (qI h x0 91))) : q_wp n 305 42 [some (.ref x0), some (.int x1)] [] h Q := by
  refine wp_loc rfl rfl ?_
  refine wp_loc rfl rfl ?_
  refine wp_getI rfl rfl rfl k0 ?_
  refine wp_putI rfl rfl (Or.inl rfl) rfl (fun h9 => by cases h9) k0 ?_
  refine wp_iconst (v := 1) rfl (by decide) ?_
  exact wp_ret (r := some (.int 1)) rfl rfl q
theorem b306_0 {n : Nat} {h : q_Hp} {Q : Option Value → q_Hp → Prop} {x0 : Nat} {x1 : Int32} {v0 : Nat} (k0 : q_ok h x0 12) (e0 : qR h x0 87 = v0) (k1 : q_ok h v0 20) (i0 : q_in x1 (qK h v0).2) (i1 : q_in (12 + x1) (qK h v0).2) (i2 : q_in (24 + x1) (qK h v0).2) (q : Q none (q_sA (q_sA (q_sA h v0 x1.toNatClampNeg (-1)) v0 ((12 + x1 : Int32).toNatClampNeg) 0) v0 ((24 + x1 : Int32).toNatClampNeg) 0)) : q_wp n 306 0 [some (.ref x0), some (.int x1)] [] h Q := by
  refine wp_loc rfl rfl ?_
  refine wp_getR rfl rfl rfl rfl k0 e0 ?_
  refine wp_loc rfl rfl ?_
  refine wp_iconst (v := (-1)) rfl (by decide) ?_
  refine wp_iast rfl k1 i0 ?_
  refine wp_loc rfl rfl ?_
  refine wp_getR rfl rfl rfl rfl k0 e0 ?_
  refine wp_bipush (v := 12) rfl (by decide) ?_
  refine wp_loc rfl rfl ?_
  refine wp_stk rfl rfl rfl ?_
  refine wp_iconst (v := 0) rfl (by decide) ?_
  refine wp_iast rfl k1 i1 ?_
  refine wp_loc rfl rfl ?_
  refine wp_getR rfl rfl rfl rfl k0 e0 ?_
  refine wp_bipush (v := 24) rfl (by decide) ?_
  refine wp_loc rfl rfl ?_
  refine wp_stk rfl rfl rfl ?_
  refine wp_iconst (v := 0) rfl (by decide) ?_
  refine wp_iast rfl k1 i2 ?_
  exact wp_ret rfl rfl q
theorem b307_0 {n : Nat} {h : q_Hp} {Q : Option Value → q_Hp → Prop} {x0 : Nat} {x1 : Int32} {v0 : Nat} (k0 : q_ok h x0 12) (e0 : qR h x0 87 = v0) (k1 : q_ok h v0 20) (i0 : q_in (36 + x1) (qK h v0).2) (i1 : q_in (76 + x1) (qK h v0).2) (i2 : q_in (116 + x1) (qK h v0).2) (q : Q none (q_sA (q_sA (q_sA h v0 ((36 + x1 : Int32).toNatClampNeg) (-1)) v0 ((76 + x1 : Int32).toNatClampNeg) 0) v0 ((116 + x1 : Int32).toNatClampNeg) 0)) : q_wp n 307 0 [some (.ref x0), some (.int x1)] [] h Q := by
  refine wp_loc rfl rfl ?_
  refine wp_getR rfl rfl rfl rfl k0 e0 ?_
  refine wp_bipush (v := 36) rfl (by decide) ?_
  refine wp_loc rfl rfl ?_
  refine wp_stk rfl rfl rfl ?_
  refine wp_iconst (v := (-1)) rfl (by decide) ?_
  refine wp_iast rfl k1 i0 ?_
  refine wp_loc rfl rfl ?_
  refine wp_getR rfl rfl rfl rfl k0 e0 ?_
  refine wp_bipush (v := 76) rfl (by decide) ?_
  refine wp_loc rfl rfl ?_
  refine wp_stk rfl rfl rfl ?_
  refine wp_iconst (v := 0) rfl (by decide) ?_
  refine wp_iast rfl k1 i1 ?_
  refine wp_loc rfl rfl ?_
  refine wp_getR rfl rfl rfl rfl k0 e0 ?_
  refine wp_bipush (v := 116) rfl (by decide) ?_
  refine wp_loc rfl rfl ?_
  refine wp_stk rfl rfl rfl ?_
  refine wp_iconst (v := 0) rfl (by decide) ?_
  refine wp_iast rfl k1 i2 ?_
  exact wp_ret rfl rfl q
theorem b308_0 {n : Nat} {h : q_Hp} {Q : Option Value → q_Hp → Prop} {x0 : Nat} {x1 : Int32} {m : Nat} {P : Int32 → q_Hp → Prop} (hc : q_mI m 295 [.ref x0, .int x1] h P) (hm : m ≤ n) (w : ∀ (z : Int32) (h1 : q_Hp), P z h1 → q_wp (n + 1) 308 5 [some (.ref x0), some (.int x1)] [.int z] h1 Q) : q_wp (n + 1) 308 0 [some (.ref x0), some (.int x1)] [] h Q := by
  refine wp_loc rfl rfl ?_
  refine wp_loc rfl rfl ?_
  exact wp_callI (av := [.ref x0, .int x1]) rfl rfl rfl (by decide) rfl rfl rfl hm hc w
theorem b308_5 {n : Nat} {h : q_Hp} {Q : Option Value → q_Hp → Prop} {x0 : Nat} {x1 : Int32} {s0 : Int32} (wt : s0 = 0 → q_wp n 308 15 [some (.ref x0), some (.int x1)] [] h Q) (wf : ¬ s0 = 0 → q_wp n 308 8 [some (.ref x0), some (.int x1)] [] h Q) : q_wp n 308 5 [some (.ref x0), some (.int x1)] [.int s0] h Q := by
  exact wp_ifeq (tgt := 15) rfl (by decide) wt wf
theorem b308_8 {n : Nat} {h : q_Hp} {Q : Option Value → q_Hp → Prop} {x0 : Nat} {x1 : Int32} {m : Nat} {P : Int32 → q_Hp → Prop} (hc : q_mI m 298 [.ref x0] h P) (hm : m ≤ n) (w : ∀ (z : Int32) (h1 : q_Hp), P z h1 → q_wp (n + 1) 308 12 [some (.ref x0), some (.int x1)] [.int z] h1 Q) : q_wp (n + 1) 308 8 [some (.ref x0), some (.int x1)] [] h Q := by
  refine wp_loc rfl rfl ?_
  exact wp_callI (av := [.ref x0]) rfl rfl rfl (by decide) rfl rfl rfl hm hc w
theorem b308_12 {n : Nat} {h : q_Hp} {Q : Option Value → q_Hp → Prop} {x0 : Nat} {x1 : Int32} {s0 : Int32} (wt : s0 = 0 → q_wp n 308 17 [some (.ref x0), some (.int x1)] [] h Q) (wf : ¬ s0 = 0 → q_wp n 308 15 [some (.ref x0), some (.int x1)] [] h Q) : q_wp n 308 12 [some (.ref x0), some (.int x1)] [.int s0] h Q := by
  exact wp_ifeq (tgt := 17) rfl (by decide) wt wf
theorem b308_15 {n : Nat} {h : q_Hp} {Q : Option Value → q_Hp → Prop} {x0 : Nat} {x1 : Int32} (q : Q (some (.int 0)) h) : q_wp n 308 15 [some (.ref x0), some (.int x1)] [] h Q := by
  refine wp_iconst (v := 0) rfl (by decide) ?_
  exact wp_ret (r := some (.int 0)) rfl rfl q
theorem b308_17 {n : Nat} {h : q_Hp} {Q : Option Value → q_Hp → Prop} {x0 : Nat} {x1 : Int32} {m : Nat} {P : q_Hp → Prop} (hc : q_mV m 307 [.ref x0, .int x1] h P) (hm : m ≤ n) (w : ∀ h1 : q_Hp, P h1 → q_wp (n + 1) 308 22 [some (.ref x0), some (.int x1)] [] h1 Q) : q_wp (n + 1) 308 17 [some (.ref x0), some (.int x1)] [] h Q := by
  refine wp_loc rfl rfl ?_
  refine wp_loc rfl rfl ?_
  exact wp_callV (av := [.ref x0, .int x1]) rfl rfl rfl (by decide) rfl rfl rfl hm hc w
theorem b308_22 {n : Nat} {h : q_Hp} {Q : Option Value → q_Hp → Prop} {x0 : Nat} {x1 : Int32} (k0 : q_ok h x0 12) (q : Q (some (.int 1)) (q_sI h x0 92 (qI h x0 91))) : q_wp n 308 22 [some (.ref x0), some (.int x1)] [] h Q := by
  refine wp_loc rfl rfl ?_
  refine wp_loc rfl rfl ?_
  refine wp_getI rfl rfl rfl k0 ?_
  refine wp_putI rfl rfl (Or.inl rfl) rfl (fun h9 => by cases h9) k0 ?_
  refine wp_iconst (v := 1) rfl (by decide) ?_
  exact wp_ret (r := some (.int 1)) rfl rfl q
theorem b309_0 {n : Nat} {h : q_Hp} {Q : Option Value → q_Hp → Prop} {x0 : Nat} {x1 : Int32} {x2 : Int32} (wt : x2 = 1 → q_wp n 309 10 [some (.ref x0), some (.int x1), some (.int x2), none] [] h Q) (wf : ¬ x2 = 1 → q_wp n 309 5 [some (.ref x0), some (.int x1), some (.int x2), none] [] h Q) : q_wp n 309 0 [some (.ref x0), some (.int x1), some (.int x2), none] [] h Q := by
  refine wp_loc rfl rfl ?_
  refine wp_iconst (v := 1) rfl (by decide) ?_
  exact wp_iceq (tgt := 10) rfl (by decide) wt wf
theorem b309_5 {n : Nat} {h : q_Hp} {Q : Option Value → q_Hp → Prop} {x0 : Nat} {x1 : Int32} {x2 : Int32} (wt : ¬ x2 = 2 → q_wp n 309 14 [some (.ref x0), some (.int x1), some (.int x2), none] [] h Q) (wf : x2 = 2 → q_wp n 309 10 [some (.ref x0), some (.int x1), some (.int x2), none] [] h Q) : q_wp n 309 5 [some (.ref x0), some (.int x1), some (.int x2), none] [] h Q := by
  refine wp_loc rfl rfl ?_
  refine wp_iconst (v := 2) rfl (by decide) ?_
  exact wp_icne (tgt := 14) rfl (by decide) wt wf
theorem b309_10 {n : Nat} {h : q_Hp} {Q : Option Value → q_Hp → Prop} {x0 : Nat} {x1 : Int32} {x2 : Int32} (w : q_wp n 309 15 [some (.ref x0), some (.int x1), some (.int x2), none] [.int 1] h Q) : q_wp n 309 10 [some (.ref x0), some (.int x1), some (.int x2), none] [] h Q := by
  refine wp_iconst (v := 1) rfl (by decide) ?_
  refine wp_goto (tgt := 15) rfl (by decide) ?_
  exact w
theorem b309_14 {n : Nat} {h : q_Hp} {Q : Option Value → q_Hp → Prop} {x0 : Nat} {x1 : Int32} {x2 : Int32} (w : q_wp n 309 15 [some (.ref x0), some (.int x1), some (.int x2), none] [.int 0] h Q) : q_wp n 309 14 [some (.ref x0), some (.int x1), some (.int x2), none] [] h Q := by
  refine wp_iconst (v := 0) rfl (by decide) ?_
  exact w
theorem b309_15 {n : Nat} {h : q_Hp} {Q : Option Value → q_Hp → Prop} {x0 : Nat} {x1 : Int32} {x2 : Int32} {s0 : Int32} {m : Nat} {P : Int32 → q_Hp → Prop} (hc : q_mI m 294 [.ref x0, .int x1] h P) (hm : m ≤ n) (w : ∀ (z : Int32) (h1 : q_Hp), P z h1 → q_wp (n + 1) 309 21 [some (.ref x0), some (.int x1), some (.int x2), some (.int s0)] [.int z] h1 Q) : q_wp (n + 1) 309 15 [some (.ref x0), some (.int x1), some (.int x2), none] [.int s0] h Q := by
  refine wp_loc rfl rfl ?_
  refine wp_loc rfl rfl ?_
  refine wp_loc rfl rfl ?_
  exact wp_callI (av := [.ref x0, .int x1]) rfl rfl rfl (by decide) rfl rfl rfl hm hc w
theorem b309_21 {n : Nat} {h : q_Hp} {Q : Option Value → q_Hp → Prop} {x0 : Nat} {x1 : Int32} {x2 : Int32} {x3 : Int32} {s0 : Int32} (wt : ¬ s0 = 0 → q_wp n 309 34 [some (.ref x0), some (.int x1), some (.int x2), some (.int x3)] [] h Q) (wf : s0 = 0 → q_wp n 309 24 [some (.ref x0), some (.int x1), some (.int x2), some (.int x3)] [] h Q) : q_wp n 309 21 [some (.ref x0), some (.int x1), some (.int x2), some (.int x3)] [.int s0] h Q := by
  exact wp_ifne (tgt := 34) rfl (by decide) wt wf
theorem b309_24 {n : Nat} {h : q_Hp} {Q : Option Value → q_Hp → Prop} {x0 : Nat} {x1 : Int32} {x2 : Int32} {x3 : Int32} (wt : x3 = 0 → q_wp n 309 32 [some (.ref x0), some (.int x1), some (.int x2), some (.int x3)] [] h Q) (wf : ¬ x3 = 0 → q_wp n 309 28 [some (.ref x0), some (.int x1), some (.int x2), some (.int x3)] [] h Q) : q_wp n 309 24 [some (.ref x0), some (.int x1), some (.int x2), some (.int x3)] [] h Q := by
  refine wp_loc rfl rfl ?_
  exact wp_ifeq (tgt := 32) rfl (by decide) wt wf
theorem b309_28 {n : Nat} {h : q_Hp} {Q : Option Value → q_Hp → Prop} {x0 : Nat} {x1 : Int32} {x2 : Int32} {x3 : Int32} (q : Q (some (.int 0)) h) : q_wp n 309 28 [some (.ref x0), some (.int x1), some (.int x2), some (.int x3)] [] h Q := by
  refine wp_iconst (v := 0) rfl (by decide) ?_
  refine wp_goto (tgt := 33) rfl (by decide) ?_
  exact wp_ret rfl rfl q
theorem b309_32 {n : Nat} {h : q_Hp} {Q : Option Value → q_Hp → Prop} {x0 : Nat} {x1 : Int32} {x2 : Int32} {x3 : Int32} (q : Q (some (.int (-1))) h) : q_wp n 309 32 [some (.ref x0), some (.int x1), some (.int x2), some (.int x3)] [] h Q := by
  refine wp_iconst (v := (-1)) rfl (by decide) ?_
  exact wp_ret rfl rfl q
theorem b309_34 {n : Nat} {h : q_Hp} {Q : Option Value → q_Hp → Prop} {x0 : Nat} {x1 : Int32} {x2 : Int32} {x3 : Int32} (w0 : x2 = 0 → q_wp n 309 68 [some (.ref x0), some (.int x1), some (.int x2), some (.int x3)] [] h Q) (w1 : x2 = 1 → q_wp n 309 75 [some (.ref x0), some (.int x1), some (.int x2), some (.int x3)] [] h Q) (w2 : x2 = 2 → q_wp n 309 85 [some (.ref x0), some (.int x1), some (.int x2), some (.int x3)] [] h Q) (w3 : x2 = 3 → q_wp n 309 95 [some (.ref x0), some (.int x1), some (.int x2), some (.int x3)] [] h Q) (w4 : x2 = 4 → q_wp n 309 103 [some (.ref x0), some (.int x1), some (.int x2), some (.int x3)] [] h Q) (wd : (x2.toInt < 0 ∨ 4 < x2.toInt) → q_wp n 309 111 [some (.ref x0), some (.int x1), some (.int x2), some (.int x3)] [] h Q) : q_wp n 309 34 [some (.ref x0), some (.int x1), some (.int x2), some (.int x3)] [] h Q := by
  refine wp_loc rfl rfl ?_
  refine wp_tab (dt := 111) (tg := fun j => [68, 75, 85, 95, 103].getD j 0) rfl (by decide) (by decide) (by decide) (fun j hj hx => ?_) wd
  have hj : j < 5 := hj
  match j, hj, hx with
  | 0, _, hx => exact w0 (Int32.toInt_inj.mp hx)
  | 1, _, hx => exact w1 (Int32.toInt_inj.mp hx)
  | 2, _, hx => exact w2 (Int32.toInt_inj.mp hx)
  | 3, _, hx => exact w3 (Int32.toInt_inj.mp hx)
  | 4, _, hx => exact w4 (Int32.toInt_inj.mp hx)
theorem b309_68 {n : Nat} {h : q_Hp} {Q : Option Value → q_Hp → Prop} {x0 : Nat} {x1 : Int32} {x2 : Int32} {x3 : Int32} {v0 : Nat} (k0 : q_ok h x0 12) (e0 : qR h x0 87 = v0) (k1 : q_ok h v0 20) (i0 : q_in x1 (qK h v0).2) (q : Q (some (.int (qA h v0 x1.toNatClampNeg))) h) : q_wp n 309 68 [some (.ref x0), some (.int x1), some (.int x2), some (.int x3)] [] h Q := by
  refine wp_loc rfl rfl ?_
  refine wp_getR rfl rfl rfl rfl k0 e0 ?_
  refine wp_loc rfl rfl ?_
  refine wp_iald rfl k1 i0 ?_
  exact wp_ret rfl rfl q
theorem b309_75 {n : Nat} {h : q_Hp} {Q : Option Value → q_Hp → Prop} {x0 : Nat} {x1 : Int32} {x2 : Int32} {x3 : Int32} {v0 : Nat} (k0 : q_ok h x0 12) (e0 : qR h x0 87 = v0) (k1 : q_ok h v0 20) (i0 : q_in (12 + x1) (qK h v0).2) (q : Q (some (.int (qA h v0 ((12 + x1 : Int32).toNatClampNeg)))) h) : q_wp n 309 75 [some (.ref x0), some (.int x1), some (.int x2), some (.int x3)] [] h Q := by
  refine wp_loc rfl rfl ?_
  refine wp_getR rfl rfl rfl rfl k0 e0 ?_
  refine wp_bipush (v := 12) rfl (by decide) ?_
  refine wp_loc rfl rfl ?_
  refine wp_stk rfl rfl rfl ?_
  refine wp_iald rfl k1 i0 ?_
  exact wp_ret rfl rfl q
theorem b309_85 {n : Nat} {h : q_Hp} {Q : Option Value → q_Hp → Prop} {x0 : Nat} {x1 : Int32} {x2 : Int32} {x3 : Int32} {v0 : Nat} (k0 : q_ok h x0 12) (e0 : qR h x0 87 = v0) (k1 : q_ok h v0 20) (i0 : q_in (24 + x1) (qK h v0).2) (q : Q (some (.int (qA h v0 ((24 + x1 : Int32).toNatClampNeg)))) h) : q_wp n 309 85 [some (.ref x0), some (.int x1), some (.int x2), some (.int x3)] [] h Q := by
  refine wp_loc rfl rfl ?_
  refine wp_getR rfl rfl rfl rfl k0 e0 ?_
  refine wp_bipush (v := 24) rfl (by decide) ?_
  refine wp_loc rfl rfl ?_
  refine wp_stk rfl rfl rfl ?_
  refine wp_iald rfl k1 i0 ?_
  exact wp_ret rfl rfl q
theorem b309_95 {n : Nat} {h : q_Hp} {Q : Option Value → q_Hp → Prop} {x0 : Nat} {x1 : Int32} {x2 : Int32} {x3 : Int32} {m : Nat} {P : Int32 → q_Hp → Prop} (hc : q_mI m 304 [.ref x0, .int x1, .int 76] h P) (hm : m ≤ n) (w : ∀ (z : Int32) (h1 : q_Hp), P z h1 → q_wp (n + 1) 309 102 [some (.ref x0), some (.int x1), some (.int x2), some (.int x3)] [.int z] h1 Q) : q_wp (n + 1) 309 95 [some (.ref x0), some (.int x1), some (.int x2), some (.int x3)] [] h Q := by
  refine wp_loc rfl rfl ?_
  refine wp_loc rfl rfl ?_
  refine wp_bipush (v := 76) rfl (by decide) ?_
  exact wp_callI (av := [.ref x0, .int x1, .int 76]) rfl rfl rfl (by decide) rfl rfl rfl hm hc w
theorem b309_102 {n : Nat} {h : q_Hp} {Q : Option Value → q_Hp → Prop} {x0 : Nat} {x1 : Int32} {x2 : Int32} {x3 : Int32} {s0 : Int32} (q : Q (some (.int s0)) h) : q_wp n 309 102 [some (.ref x0), some (.int x1), some (.int x2), some (.int x3)] [.int s0] h Q := by
  exact wp_ret rfl rfl q
theorem b309_103 {n : Nat} {h : q_Hp} {Q : Option Value → q_Hp → Prop} {x0 : Nat} {x1 : Int32} {x2 : Int32} {x3 : Int32} {m : Nat} {P : Int32 → q_Hp → Prop} (hc : q_mI m 304 [.ref x0, .int x1, .int 116] h P) (hm : m ≤ n) (w : ∀ (z : Int32) (h1 : q_Hp), P z h1 → q_wp (n + 1) 309 110 [some (.ref x0), some (.int x1), some (.int x2), some (.int x3)] [.int z] h1 Q) : q_wp (n + 1) 309 103 [some (.ref x0), some (.int x1), some (.int x2), some (.int x3)] [] h Q := by
  refine wp_loc rfl rfl ?_
  refine wp_loc rfl rfl ?_
  refine wp_bipush (v := 116) rfl (by decide) ?_
  exact wp_callI (av := [.ref x0, .int x1, .int 116]) rfl rfl rfl (by decide) rfl rfl rfl hm hc w
theorem b309_110 {n : Nat} {h : q_Hp} {Q : Option Value → q_Hp → Prop} {x0 : Nat} {x1 : Int32} {x2 : Int32} {x3 : Int32} {s0 : Int32} (q : Q (some (.int s0)) h) : q_wp n 309 110 [some (.ref x0), some (.int x1), some (.int x2), some (.int x3)] [.int s0] h Q := by
  exact wp_ret rfl rfl q
theorem b309_111 {n : Nat} {h : q_Hp} {Q : Option Value → q_Hp → Prop} {x0 : Nat} {x1 : Int32} {x2 : Int32} {x3 : Int32} (q : Q (some (.int (-1))) h) : q_wp n 309 111 [some (.ref x0), some (.int x1), some (.int x2), some (.int x3)] [] h Q := by
  refine wp_iconst (v := (-1)) rfl (by decide) ?_
  exact wp_ret rfl rfl q
theorem b310_0 {n : Nat} {h : q_Hp} {Q : Option Value → q_Hp → Prop} {x0 : Nat} {x1 : Int32} {x2 : Int32} {m : Nat} {P : Int32 → q_Hp → Prop} (hc : q_mI m 295 [.ref x0, .int x1] h P) (hm : m ≤ n) (w : ∀ (z : Int32) (h1 : q_Hp), P z h1 → q_wp (n + 1) 310 5 [some (.ref x0), some (.int x1), some (.int x2)] [.int z] h1 Q) : q_wp (n + 1) 310 0 [some (.ref x0), some (.int x1), some (.int x2)] [] h Q := by
  refine wp_loc rfl rfl ?_
  refine wp_loc rfl rfl ?_
  exact wp_callI (av := [.ref x0, .int x1]) rfl rfl rfl (by decide) rfl rfl rfl hm hc w
theorem b310_5 {n : Nat} {h : q_Hp} {Q : Option Value → q_Hp → Prop} {x0 : Nat} {x1 : Int32} {x2 : Int32} {s0 : Int32} (wt : s0 = 0 → q_wp n 310 17 [some (.ref x0), some (.int x1), some (.int x2)] [] h Q) (wf : ¬ s0 = 0 → q_wp n 310 8 [some (.ref x0), some (.int x1), some (.int x2)] [] h Q) : q_wp n 310 5 [some (.ref x0), some (.int x1), some (.int x2)] [.int s0] h Q := by
  exact wp_ifeq (tgt := 17) rfl (by decide) wt wf
theorem b310_8 {n : Nat} {h : q_Hp} {Q : Option Value → q_Hp → Prop} {x0 : Nat} {x1 : Int32} {x2 : Int32} (wt : x2 < 0 → q_wp n 310 17 [some (.ref x0), some (.int x1), some (.int x2)] [] h Q) (wf : ¬ x2 < 0 → q_wp n 310 12 [some (.ref x0), some (.int x1), some (.int x2)] [] h Q) : q_wp n 310 8 [some (.ref x0), some (.int x1), some (.int x2)] [] h Q := by
  refine wp_loc rfl rfl ?_
  exact wp_iflt (tgt := 17) rfl (by decide) wt wf
theorem b310_12 {n : Nat} {h : q_Hp} {Q : Option Value → q_Hp → Prop} {x0 : Nat} {x1 : Int32} {x2 : Int32} (wt : x2 ≤ 2 → q_wp n 310 19 [some (.ref x0), some (.int x1), some (.int x2)] [] h Q) (wf : ¬ x2 ≤ 2 → q_wp n 310 17 [some (.ref x0), some (.int x1), some (.int x2)] [] h Q) : q_wp n 310 12 [some (.ref x0), some (.int x1), some (.int x2)] [] h Q := by
  refine wp_loc rfl rfl ?_
  refine wp_iconst (v := 2) rfl (by decide) ?_
  exact wp_icle (tgt := 19) rfl (by decide) wt wf
theorem b310_17 {n : Nat} {h : q_Hp} {Q : Option Value → q_Hp → Prop} {x0 : Nat} {x1 : Int32} {x2 : Int32} (q : Q (some (.int (-1))) h) : q_wp n 310 17 [some (.ref x0), some (.int x1), some (.int x2)] [] h Q := by
  refine wp_iconst (v := (-1)) rfl (by decide) ?_
  exact wp_ret rfl rfl q
theorem b310_19 {n : Nat} {h : q_Hp} {Q : Option Value → q_Hp → Prop} {x0 : Nat} {x1 : Int32} {x2 : Int32} {v0 : Nat} (k0 : q_ok h x0 12) (e0 : qR h x0 87 = v0) (wt : ¬ x2 = 0 → q_wp n 310 32 [some (.ref x0), some (.int x1), some (.int x2)] [.ref v0] h Q) (wf : x2 = 0 → q_wp n 310 27 [some (.ref x0), some (.int x1), some (.int x2)] [.ref v0] h Q) : q_wp n 310 19 [some (.ref x0), some (.int x1), some (.int x2)] [] h Q := by
  refine wp_loc rfl rfl ?_
  refine wp_getR rfl rfl rfl rfl k0 e0 ?_
  refine wp_loc rfl rfl ?_
  exact wp_ifne (tgt := 32) rfl (by decide) wt wf
theorem b310_27 {n : Nat} {h : q_Hp} {Q : Option Value → q_Hp → Prop} {x0 : Nat} {x1 : Int32} {x2 : Int32} {s0 : Nat} (w : q_wp n 310 44 [some (.ref x0), some (.int x1), some (.int x2)] [.int 36, .ref s0] h Q) : q_wp n 310 27 [some (.ref x0), some (.int x1), some (.int x2)] [.ref s0] h Q := by
  refine wp_bipush (v := 36) rfl (by decide) ?_
  refine wp_goto (tgt := 44) rfl (by decide) ?_
  exact w
theorem b310_32 {n : Nat} {h : q_Hp} {Q : Option Value → q_Hp → Prop} {x0 : Nat} {x1 : Int32} {x2 : Int32} {s0 : Nat} (wt : ¬ x2 = 1 → q_wp n 310 42 [some (.ref x0), some (.int x1), some (.int x2)] [.ref s0] h Q) (wf : x2 = 1 → q_wp n 310 37 [some (.ref x0), some (.int x1), some (.int x2)] [.ref s0] h Q) : q_wp n 310 32 [some (.ref x0), some (.int x1), some (.int x2)] [.ref s0] h Q := by
  refine wp_loc rfl rfl ?_
  refine wp_iconst (v := 1) rfl (by decide) ?_
  exact wp_icne (tgt := 42) rfl (by decide) wt wf
theorem b310_37 {n : Nat} {h : q_Hp} {Q : Option Value → q_Hp → Prop} {x0 : Nat} {x1 : Int32} {x2 : Int32} {s0 : Nat} (w : q_wp n 310 44 [some (.ref x0), some (.int x1), some (.int x2)] [.int 76, .ref s0] h Q) : q_wp n 310 37 [some (.ref x0), some (.int x1), some (.int x2)] [.ref s0] h Q := by
  refine wp_bipush (v := 76) rfl (by decide) ?_
  refine wp_goto (tgt := 44) rfl (by decide) ?_
  exact w
theorem b310_42 {n : Nat} {h : q_Hp} {Q : Option Value → q_Hp → Prop} {x0 : Nat} {x1 : Int32} {x2 : Int32} {s0 : Nat} (w : q_wp n 310 44 [some (.ref x0), some (.int x1), some (.int x2)] [.int 116, .ref s0] h Q) : q_wp n 310 42 [some (.ref x0), some (.int x1), some (.int x2)] [.ref s0] h Q := by
  refine wp_bipush (v := 116) rfl (by decide) ?_
  exact w
theorem b310_44 {n : Nat} {h : q_Hp} {Q : Option Value → q_Hp → Prop} {x0 : Nat} {x1 : Int32} {x2 : Int32} {s0 : Int32} {s1 : Nat} (k0 : q_ok h s1 20) (i0 : q_in (s0 + x1) (qK h s1).2) (q : Q (some (.int (qA h s1 ((s0 + x1 : Int32).toNatClampNeg)))) h) : q_wp n 310 44 [some (.ref x0), some (.int x1), some (.int x2)] [.int s0, .ref s1] h Q := by
  refine wp_loc rfl rfl ?_
  refine wp_stk rfl rfl rfl ?_
  refine wp_iald rfl k0 i0 ?_
  exact wp_ret rfl rfl q
theorem b311_0 {n : Nat} {h : q_Hp} {Q : Option Value → q_Hp → Prop} {x0 : Nat} {x1 : Int64} (wt : (lg_cmp x1 (((x1 : Int64).toInt32 : Int32).toInt64)) = 0 → q_wp n 311 13 [some (.ref x0), some (.long x1), none] [] h Q) (wf : ¬ (lg_cmp x1 (((x1 : Int64).toInt32 : Int32).toInt64)) = 0 → q_wp n 311 8 [some (.ref x0), some (.long x1), none] [] h Q) : q_wp n 311 0 [some (.ref x0), some (.long x1), none] [] h Q := by
  refine wp_loc rfl rfl ?_
  refine wp_loc rfl rfl ?_
  refine wp_stk rfl rfl rfl ?_
  refine wp_stk rfl rfl rfl ?_
  refine wp_stk rfl rfl rfl ?_
  exact wp_ifeq (tgt := 13) rfl (by decide) wt wf
theorem b311_8 {n : Nat} {h : q_Hp} {Q : Option Value → q_Hp → Prop} {x0 : Nat} {x1 : Int64} (k0 : q_ok h x0 12) (w : q_wp n 311 13 [some (.ref x0), some (.long x1), none] [] (q_sI h x0 99 1) Q) : q_wp n 311 8 [some (.ref x0), some (.long x1), none] [] h Q := by
  refine wp_loc rfl rfl ?_
  refine wp_iconst (v := 1) rfl (by decide) ?_
  refine wp_putI rfl rfl (Or.inl rfl) rfl (fun _ => Or.inr rfl) k0 ?_
  exact w
theorem b311_13 {n : Nat} {h : q_Hp} {Q : Option Value → q_Hp → Prop} {x0 : Nat} {x1 : Int64} (q : Q (some (.int ((x1 : Int64).toInt32))) h) : q_wp n 311 13 [some (.ref x0), some (.long x1), none] [] h Q := by
  refine wp_loc rfl rfl ?_
  refine wp_stk rfl rfl rfl ?_
  exact wp_ret rfl rfl q
set_option maxRecDepth 20000 in
theorem b312_0 {n : Nat} {h : q_Hp} {Q : Option Value → q_Hp → Prop} {x0 : Nat} {x1 : Int32} {x2 : Int32} (k0 : q_ok h x0 12) (w : q_wp n 312 10 [some (.ref x0), some (.int x1), some (.int x2), some (.int 0), some (.int x1), none, none, none, none] [] (q_sI h x0 99 0) Q) : q_wp n 312 0 [some (.ref x0), some (.int x1), some (.int x2), none, none, none, none, none, none] [] h Q := by
  refine wp_iconst (v := 0) rfl (by decide) ?_
  refine wp_loc rfl rfl ?_
  refine wp_loc rfl rfl ?_
  refine wp_iconst (v := 0) rfl (by decide) ?_
  refine wp_putI rfl rfl (Or.inl rfl) rfl (fun _ => Or.inl rfl) k0 ?_
  refine wp_loc rfl rfl ?_
  refine wp_loc rfl rfl ?_
  exact w
set_option maxRecDepth 20000 in
theorem b312_10 {n : Nat} {h : q_Hp} {Q : Option Value → q_Hp → Prop} {x0 : Nat} {x1 : Int32} {x2 : Int32} {x3 : Int32} {x4 : Int32} {l5 : Option Value} {l7 : Option Value} (wt : x2 ≤ x4 → q_wp n 312 223 [some (.ref x0), some (.int x1), some (.int x2), some (.int x3), some (.int x4), l5, none, l7, none] [] h Q) (wf : ¬ x2 ≤ x4 → q_wp n 312 16 [some (.ref x0), some (.int x1), some (.int x2), some (.int x3), some (.int x4), l5, none, l7, none] [] h Q) : q_wp n 312 10 [some (.ref x0), some (.int x1), some (.int x2), some (.int x3), some (.int x4), l5, none, l7, none] [] h Q := by
  refine wp_loc rfl rfl ?_
  refine wp_loc rfl rfl ?_
  exact wp_icge (tgt := 223) rfl (by decide) wt wf
set_option maxRecDepth 20000 in
theorem b312_16 {n : Nat} {h : q_Hp} {Q : Option Value → q_Hp → Prop} {x0 : Nat} {x1 : Int32} {x2 : Int32} {x3 : Int32} {x4 : Int32} {l5 : Option Value} {l7 : Option Value} {v0 : Nat} (k0 : q_ok h x0 12) (e0 : qR h x0 56 = v0) (k1 : q_ok h v0 20) (i0 : q_in x4 (qK h v0).2) (wt : 2 ≤ (qA h v0 x4.toNatClampNeg) → q_wp n 312 94 [some (.ref x0), some (.int x1), some (.int x2), some (.int x3), some (.int x4), l5, none, l7, none] [] h Q) (wf : ¬ 2 ≤ (qA h v0 x4.toNatClampNeg) → q_wp n 312 27 [some (.ref x0), some (.int x1), some (.int x2), some (.int x3), some (.int x4), l5, none, l7, none] [] h Q) : q_wp n 312 16 [some (.ref x0), some (.int x1), some (.int x2), some (.int x3), some (.int x4), l5, none, l7, none] [] h Q := by
  refine wp_loc rfl rfl ?_
  refine wp_getR rfl rfl rfl rfl k0 e0 ?_
  refine wp_loc rfl rfl ?_
  refine wp_iald rfl k1 i0 ?_
  refine wp_iconst (v := 2) rfl (by decide) ?_
  exact wp_icge (tgt := 94) rfl (by decide) wt wf
set_option maxRecDepth 20000 in
theorem b312_27 {n : Nat} {h : q_Hp} {Q : Option Value → q_Hp → Prop} {x0 : Nat} {x1 : Int32} {x2 : Int32} {x3 : Int32} {x4 : Int32} {l5 : Option Value} {l7 : Option Value} {v0 : Nat} {v1 : Nat} (k0 : q_ok h x0 12) (e0 : qR h x0 100 = v0) (e1 : qR h x0 56 = v1) (k1 : q_ok h v1 20) (i0 : q_in x4 (qK h v1).2) (wt : ¬ (qA h v1 x4.toNatClampNeg) = 0 → q_wp n 312 52 [some (.ref x0), some (.int x1), some (.int x2), some (.int x3), some (.int x4), l5, none, l7, none] [.int x3, .ref v0] h Q) (wf : (qA h v1 x4.toNatClampNeg) = 0 → q_wp n 312 42 [some (.ref x0), some (.int x1), some (.int x2), some (.int x3), some (.int x4), l5, none, l7, none] [.int x3, .ref v0] h Q) : q_wp n 312 27 [some (.ref x0), some (.int x1), some (.int x2), some (.int x3), some (.int x4), l5, none, l7, none] [] h Q := by
  refine wp_loc rfl rfl ?_
  refine wp_getR rfl rfl rfl rfl k0 e0 ?_
  refine wp_loc rfl rfl ?_
  refine wp_loc rfl rfl ?_
  refine wp_getR rfl rfl rfl rfl k0 e1 ?_
  refine wp_loc rfl rfl ?_
  refine wp_iald rfl k1 i0 ?_
  exact wp_ifne (tgt := 52) rfl (by decide) wt wf
set_option maxRecDepth 20000 in
theorem b312_42 {n : Nat} {h : q_Hp} {Q : Option Value → q_Hp → Prop} {x0 : Nat} {x1 : Int32} {x2 : Int32} {x3 : Int32} {x4 : Int32} {l5 : Option Value} {l7 : Option Value} {s0 : Int32} {s1 : Nat} {v0 : Nat} (k0 : q_ok h x0 12) (e0 : qR h x0 57 = v0) (k1 : q_ok h v0 20) (i0 : q_in x4 (qK h v0).2) (w : q_wp n 312 87 [some (.ref x0), some (.int x1), some (.int x2), some (.int x3), some (.int x4), l5, none, l7, none] [.int (qA h v0 x4.toNatClampNeg), .int s0, .ref s1] h Q) : q_wp n 312 42 [some (.ref x0), some (.int x1), some (.int x2), some (.int x3), some (.int x4), l5, none, l7, none] [.int s0, .ref s1] h Q := by
  refine wp_loc rfl rfl ?_
  refine wp_getR rfl rfl rfl rfl k0 e0 ?_
  refine wp_loc rfl rfl ?_
  refine wp_iald rfl k1 i0 ?_
  refine wp_goto (tgt := 87) rfl (by decide) ?_
  exact w
set_option maxRecDepth 20000 in
theorem b312_52 {n : Nat} {h : q_Hp} {Q : Option Value → q_Hp → Prop} {x0 : Nat} {x1 : Int32} {x2 : Int32} {x3 : Int32} {x4 : Int32} {l5 : Option Value} {l7 : Option Value} {s0 : Int32} {s1 : Nat} {v0 : Nat} {v1 : Nat} (k0 : q_ok h x0 12) (e0 : qR h x0 87 = v0) (e1 : qR h x0 58 = v1) (k1 : q_ok h v1 20) (i0 : q_in x4 (qK h v1).2) (wt : ¬ (qA h v1 x4.toNatClampNeg) = 0 → q_wp n 312 71 [some (.ref x0), some (.int x1), some (.int x2), some (.int x3), some (.int x4), l5, none, l7, none] [.ref v0, .int s0, .ref s1] h Q) (wf : (qA h v1 x4.toNatClampNeg) = 0 → q_wp n 312 66 [some (.ref x0), some (.int x1), some (.int x2), some (.int x3), some (.int x4), l5, none, l7, none] [.ref v0, .int s0, .ref s1] h Q) : q_wp n 312 52 [some (.ref x0), some (.int x1), some (.int x2), some (.int x3), some (.int x4), l5, none, l7, none] [.int s0, .ref s1] h Q := by
  refine wp_loc rfl rfl ?_
  refine wp_getR rfl rfl rfl rfl k0 e0 ?_
  refine wp_loc rfl rfl ?_
  refine wp_getR rfl rfl rfl rfl k0 e1 ?_
  refine wp_loc rfl rfl ?_
  refine wp_iald rfl k1 i0 ?_
  exact wp_ifne (tgt := 71) rfl (by decide) wt wf
set_option maxRecDepth 20000 in
theorem b312_66 {n : Nat} {h : q_Hp} {Q : Option Value → q_Hp → Prop} {x0 : Nat} {x1 : Int32} {x2 : Int32} {x3 : Int32} {x4 : Int32} {l5 : Option Value} {l7 : Option Value} {s0 : Nat} {s1 : Int32} {s2 : Nat} (w : q_wp n 312 73 [some (.ref x0), some (.int x1), some (.int x2), some (.int x3), some (.int x4), l5, none, l7, none] [.int 12, .ref s0, .int s1, .ref s2] h Q) : q_wp n 312 66 [some (.ref x0), some (.int x1), some (.int x2), some (.int x3), some (.int x4), l5, none, l7, none] [.ref s0, .int s1, .ref s2] h Q := by
  refine wp_bipush (v := 12) rfl (by decide) ?_
  refine wp_goto (tgt := 73) rfl (by decide) ?_
  exact w
set_option maxRecDepth 20000 in
theorem b312_71 {n : Nat} {h : q_Hp} {Q : Option Value → q_Hp → Prop} {x0 : Nat} {x1 : Int32} {x2 : Int32} {x3 : Int32} {x4 : Int32} {l5 : Option Value} {l7 : Option Value} {s0 : Nat} {s1 : Int32} {s2 : Nat} (w : q_wp n 312 73 [some (.ref x0), some (.int x1), some (.int x2), some (.int x3), some (.int x4), l5, none, l7, none] [.int 24, .ref s0, .int s1, .ref s2] h Q) : q_wp n 312 71 [some (.ref x0), some (.int x1), some (.int x2), some (.int x3), some (.int x4), l5, none, l7, none] [.ref s0, .int s1, .ref s2] h Q := by
  refine wp_bipush (v := 24) rfl (by decide) ?_
  exact w
set_option maxRecDepth 20000 in
theorem b312_73 {n : Nat} {h : q_Hp} {Q : Option Value → q_Hp → Prop} {x0 : Nat} {x1 : Int32} {x2 : Int32} {x3 : Int32} {x4 : Int32} {l5 : Option Value} {l7 : Option Value} {s0 : Int32} {s1 : Nat} {s2 : Int32} {s3 : Nat} {v0 : Nat} {v1 : Nat} (k0 : q_ok h x0 12) (e0 : qR h x0 93 = v0) (e1 : qR h x0 57 = v1) (k1 : q_ok h v1 20) (i0 : q_in x4 (qK h v1).2) (k2 : q_ok h v0 20) (i1 : q_in (qA h v1 x4.toNatClampNeg) (qK h v0).2) (k3 : q_ok h s1 20) (i2 : q_in (s0 + (qA h v0 ((qA h v1 x4.toNatClampNeg : Int32).toNatClampNeg))) (qK h s1).2) (w : q_wp n 312 87 [some (.ref x0), some (.int x1), some (.int x2), some (.int x3), some (.int x4), l5, none, l7, none] [.int (qA h s1 ((s0 + (qA h v0 ((qA h v1 x4.toNatClampNeg : Int32).toNatClampNeg)) : Int32).toNatClampNeg)), .int s2, .ref s3] h Q) : q_wp n 312 73 [some (.ref x0), some (.int x1), some (.int x2), some (.int x3), some (.int x4), l5, none, l7, none] [.int s0, .ref s1, .int s2, .ref s3] h Q := by
  refine wp_loc rfl rfl ?_
  refine wp_getR rfl rfl rfl rfl k0 e0 ?_
  refine wp_loc rfl rfl ?_
  refine wp_getR rfl rfl rfl rfl k0 e1 ?_
  refine wp_loc rfl rfl ?_
  refine wp_iald rfl k1 i0 ?_
  refine wp_iald rfl k2 i1 ?_
  refine wp_stk rfl rfl rfl ?_
  refine wp_iald rfl k3 i2 ?_
  exact w
set_option maxRecDepth 20000 in
theorem b312_87 {n : Nat} {h : q_Hp} {Q : Option Value → q_Hp → Prop} {x0 : Nat} {x1 : Int32} {x2 : Int32} {x3 : Int32} {x4 : Int32} {l5 : Option Value} {l7 : Option Value} {s0 : Int32} {s1 : Int32} {s2 : Nat} (k0 : q_ok h s2 20) (i0 : q_in s1 (qK h s2).2) (w : q_wp n 312 208 [some (.ref x0), some (.int x1), some (.int x2), some (.int (x3 + 1)), some (.int x4), l5, none, l7, none] [] (q_sA h s2 s1.toNatClampNeg s0) Q) : q_wp n 312 87 [some (.ref x0), some (.int x1), some (.int x2), some (.int x3), some (.int x4), l5, none, l7, none] [.int s0, .int s1, .ref s2] h Q := by
  refine wp_iast rfl k0 i0 ?_
  refine wp_iinc (v := 1) rfl rfl (by decide) rfl ?_
  refine wp_goto (tgt := 208) rfl (by decide) ?_
  exact w
set_option maxRecDepth 20000 in
theorem b312_94 {n : Nat} {h : q_Hp} {Q : Option Value → q_Hp → Prop} {x0 : Nat} {x1 : Int32} {x2 : Int32} {x3 : Int32} {x4 : Int32} {l5 : Option Value} {l7 : Option Value} {v0 : Nat} (k0 : q_ok h x0 12) (e0 : qR h x0 56 = v0) (k1 : q_ok h v0 20) (i0 : q_in x4 (qK h v0).2) (wt : ¬ (qA h v0 x4.toNatClampNeg) = 2 → q_wp n 312 130 [some (.ref x0), some (.int x1), some (.int x2), some (.int x3), some (.int x4), l5, none, l7, none] [] h Q) (wf : (qA h v0 x4.toNatClampNeg) = 2 → q_wp n 312 105 [some (.ref x0), some (.int x1), some (.int x2), some (.int x3), some (.int x4), l5, none, l7, none] [] h Q) : q_wp n 312 94 [some (.ref x0), some (.int x1), some (.int x2), some (.int x3), some (.int x4), l5, none, l7, none] [] h Q := by
  refine wp_loc rfl rfl ?_
  refine wp_getR rfl rfl rfl rfl k0 e0 ?_
  refine wp_loc rfl rfl ?_
  refine wp_iald rfl k1 i0 ?_
  refine wp_iconst (v := 2) rfl (by decide) ?_
  exact wp_icne (tgt := 130) rfl (by decide) wt wf
set_option maxRecDepth 20000 in
theorem b312_105 {n : Nat} {h : q_Hp} {Q : Option Value → q_Hp → Prop} {x0 : Nat} {x1 : Int32} {x2 : Int32} {x3 : Int32} {x4 : Int32} {l5 : Option Value} {l7 : Option Value} {v0 : Nat} (k0 : q_ok h x0 12) (e0 : qR h x0 100 = v0) (k1 : q_ok h v0 20) (i0 : q_in (x3 - 1) (qK h v0).2) {m : Nat} {P : Int32 → q_Hp → Prop} (hc : q_mI m 311 [.ref x0, .long (-((qA h v0 ((x3 - 1 : Int32).toNatClampNeg) : Int32).toInt64))] h P) (hm : m ≤ n) (w : ∀ (z : Int32) (h1 : q_Hp), P z h1 → q_wp (n + 1) 312 126 [some (.ref x0), some (.int x1), some (.int x2), some (.int x3), some (.int x4), l5, none, l7, none] [.int z, .int (x3 - 1), .ref v0] h1 Q) : q_wp (n + 1) 312 105 [some (.ref x0), some (.int x1), some (.int x2), some (.int x3), some (.int x4), l5, none, l7, none] [] h Q := by
  refine wp_loc rfl rfl ?_
  refine wp_getR rfl rfl rfl rfl k0 e0 ?_
  refine wp_loc rfl rfl ?_
  refine wp_iconst (v := 1) rfl (by decide) ?_
  refine wp_stk rfl rfl rfl ?_
  refine wp_loc rfl rfl ?_
  refine wp_loc rfl rfl ?_
  refine wp_getR rfl rfl rfl rfl k0 e0 ?_
  refine wp_loc rfl rfl ?_
  refine wp_iconst (v := 1) rfl (by decide) ?_
  refine wp_stk rfl rfl rfl ?_
  refine wp_iald rfl k1 i0 ?_
  refine wp_stk rfl rfl rfl ?_
  refine wp_stk rfl rfl rfl ?_
  exact wp_callI (av := [.ref x0, .long (-((qA h v0 ((x3 - 1 : Int32).toNatClampNeg) : Int32).toInt64))]) rfl rfl rfl (by decide) rfl rfl rfl hm hc w
set_option maxRecDepth 20000 in
theorem b312_126 {n : Nat} {h : q_Hp} {Q : Option Value → q_Hp → Prop} {x0 : Nat} {x1 : Int32} {x2 : Int32} {x3 : Int32} {x4 : Int32} {l5 : Option Value} {l7 : Option Value} {s0 : Int32} {s1 : Int32} {s2 : Nat} (k0 : q_ok h s2 20) (i0 : q_in s1 (qK h s2).2) (w : q_wp n 312 208 [some (.ref x0), some (.int x1), some (.int x2), some (.int x3), some (.int x4), l5, none, l7, none] [] (q_sA h s2 s1.toNatClampNeg s0) Q) : q_wp n 312 126 [some (.ref x0), some (.int x1), some (.int x2), some (.int x3), some (.int x4), l5, none, l7, none] [.int s0, .int s1, .ref s2] h Q := by
  refine wp_iast rfl k0 i0 ?_
  refine wp_goto (tgt := 208) rfl (by decide) ?_
  exact w
set_option maxRecDepth 20000 in
theorem b312_130 {n : Nat} {h : q_Hp} {Q : Option Value → q_Hp → Prop} {x0 : Nat} {x1 : Int32} {x2 : Int32} {x3 : Int32} {x4 : Int32} {l5 : Option Value} {l7 : Option Value} {v0 : Nat} {v1 : Nat} (k0 : q_ok h x0 12) (e0 : qR h x0 100 = v0) (k1 : q_ok h v0 20) (i0 : q_in ((x3 + (-1)) - 1) (qK h v0).2) (i1 : q_in (x3 + (-1)) (qK h v0).2) (e1 : qR h x0 56 = v1) (k2 : q_ok h v1 20) (i2 : q_in x4 (qK h v1).2) (wt : ¬ (qA h v1 x4.toNatClampNeg) = 3 → q_wp n 312 180 [some (.ref x0), some (.int x1), some (.int x2), some (.int (x3 + (-1))), some (.int x4), some (.long ((qA h v0 (((x3 + (-1)) - 1 : Int32).toNatClampNeg) : Int32).toInt64)), none, some (.long ((qA h v0 ((x3 + (-1) : Int32).toNatClampNeg) : Int32).toInt64)), none] [.ref x0, .int ((x3 + (-1)) - 1), .ref v0] h Q) (wf : (qA h v1 x4.toNatClampNeg) = 3 → q_wp n 312 172 [some (.ref x0), some (.int x1), some (.int x2), some (.int (x3 + (-1))), some (.int x4), some (.long ((qA h v0 (((x3 + (-1)) - 1 : Int32).toNatClampNeg) : Int32).toInt64)), none, some (.long ((qA h v0 ((x3 + (-1) : Int32).toNatClampNeg) : Int32).toInt64)), none] [.ref x0, .int ((x3 + (-1)) - 1), .ref v0] h Q) : q_wp n 312 130 [some (.ref x0), some (.int x1), some (.int x2), some (.int x3), some (.int x4), l5, none, l7, none] [] h Q := by
  refine wp_iinc (v := (-1)) rfl rfl (by decide) rfl ?_
  refine wp_loc rfl rfl ?_
  refine wp_getR rfl rfl rfl rfl k0 e0 ?_
  refine wp_loc rfl rfl ?_
  refine wp_iconst (v := 1) rfl (by decide) ?_
  refine wp_stk rfl rfl rfl ?_
  refine wp_iald rfl k1 i0 ?_
  refine wp_stk rfl rfl rfl ?_
  refine wp_loc rfl rfl ?_
  refine wp_loc rfl rfl ?_
  refine wp_getR rfl rfl rfl rfl k0 e0 ?_
  refine wp_loc rfl rfl ?_
  refine wp_iald rfl k1 i1 ?_
  refine wp_stk rfl rfl rfl ?_
  refine wp_loc rfl rfl ?_
  refine wp_loc rfl rfl ?_
  refine wp_getR rfl rfl rfl rfl k0 e0 ?_
  refine wp_loc rfl rfl ?_
  refine wp_iconst (v := 1) rfl (by decide) ?_
  refine wp_stk rfl rfl rfl ?_
  refine wp_loc rfl rfl ?_
  refine wp_loc rfl rfl ?_
  refine wp_getR rfl rfl rfl rfl k0 e1 ?_
  refine wp_loc rfl rfl ?_
  refine wp_iald rfl k2 i2 ?_
  refine wp_iconst (v := 3) rfl (by decide) ?_
  exact wp_icne (tgt := 180) rfl (by decide) wt wf
set_option maxRecDepth 20000 in
theorem b312_172 {n : Nat} {h : q_Hp} {Q : Option Value → q_Hp → Prop} {x0 : Nat} {x1 : Int32} {x2 : Int32} {x3 : Int32} {x4 : Int32} {x5 : Int64} {x7 : Int64} {s0 : Nat} {s1 : Int32} {s2 : Nat} (w : q_wp n 312 204 [some (.ref x0), some (.int x1), some (.int x2), some (.int x3), some (.int x4), some (.long x5), none, some (.long x7), none] [.long (x5 + x7), .ref s0, .int s1, .ref s2] h Q) : q_wp n 312 172 [some (.ref x0), some (.int x1), some (.int x2), some (.int x3), some (.int x4), some (.long x5), none, some (.long x7), none] [.ref s0, .int s1, .ref s2] h Q := by
  refine wp_loc rfl rfl ?_
  refine wp_loc rfl rfl ?_
  refine wp_stk rfl rfl rfl ?_
  refine wp_goto (tgt := 204) rfl (by decide) ?_
  exact w
set_option maxRecDepth 20000 in
theorem b312_180 {n : Nat} {h : q_Hp} {Q : Option Value → q_Hp → Prop} {x0 : Nat} {x1 : Int32} {x2 : Int32} {x3 : Int32} {x4 : Int32} {x5 : Int64} {x7 : Int64} {s0 : Nat} {s1 : Int32} {s2 : Nat} {v0 : Nat} (k0 : q_ok h x0 12) (e0 : qR h x0 56 = v0) (k1 : q_ok h v0 20) (i0 : q_in x4 (qK h v0).2) (wt : ¬ (qA h v0 x4.toNatClampNeg) = 4 → q_wp n 312 199 [some (.ref x0), some (.int x1), some (.int x2), some (.int x3), some (.int x4), some (.long x5), none, some (.long x7), none] [.ref s0, .int s1, .ref s2] h Q) (wf : (qA h v0 x4.toNatClampNeg) = 4 → q_wp n 312 191 [some (.ref x0), some (.int x1), some (.int x2), some (.int x3), some (.int x4), some (.long x5), none, some (.long x7), none] [.ref s0, .int s1, .ref s2] h Q) : q_wp n 312 180 [some (.ref x0), some (.int x1), some (.int x2), some (.int x3), some (.int x4), some (.long x5), none, some (.long x7), none] [.ref s0, .int s1, .ref s2] h Q := by
  refine wp_loc rfl rfl ?_
  refine wp_getR rfl rfl rfl rfl k0 e0 ?_
  refine wp_loc rfl rfl ?_
  refine wp_iald rfl k1 i0 ?_
  refine wp_iconst (v := 4) rfl (by decide) ?_
  exact wp_icne (tgt := 199) rfl (by decide) wt wf
set_option maxRecDepth 20000 in
theorem b312_191 {n : Nat} {h : q_Hp} {Q : Option Value → q_Hp → Prop} {x0 : Nat} {x1 : Int32} {x2 : Int32} {x3 : Int32} {x4 : Int32} {x5 : Int64} {x7 : Int64} {s0 : Nat} {s1 : Int32} {s2 : Nat} (w : q_wp n 312 204 [some (.ref x0), some (.int x1), some (.int x2), some (.int x3), some (.int x4), some (.long x5), none, some (.long x7), none] [.long (x5 - x7), .ref s0, .int s1, .ref s2] h Q) : q_wp n 312 191 [some (.ref x0), some (.int x1), some (.int x2), some (.int x3), some (.int x4), some (.long x5), none, some (.long x7), none] [.ref s0, .int s1, .ref s2] h Q := by
  refine wp_loc rfl rfl ?_
  refine wp_loc rfl rfl ?_
  refine wp_stk rfl rfl rfl ?_
  refine wp_goto (tgt := 204) rfl (by decide) ?_
  exact w
set_option maxRecDepth 20000 in
theorem b312_199 {n : Nat} {h : q_Hp} {Q : Option Value → q_Hp → Prop} {x0 : Nat} {x1 : Int32} {x2 : Int32} {x3 : Int32} {x4 : Int32} {x5 : Int64} {x7 : Int64} {s0 : Nat} {s1 : Int32} {s2 : Nat} (w : q_wp n 312 204 [some (.ref x0), some (.int x1), some (.int x2), some (.int x3), some (.int x4), some (.long x5), none, some (.long x7), none] [.long (x5 * x7), .ref s0, .int s1, .ref s2] h Q) : q_wp n 312 199 [some (.ref x0), some (.int x1), some (.int x2), some (.int x3), some (.int x4), some (.long x5), none, some (.long x7), none] [.ref s0, .int s1, .ref s2] h Q := by
  refine wp_loc rfl rfl ?_
  refine wp_loc rfl rfl ?_
  refine wp_stk rfl rfl rfl ?_
  exact w
set_option maxRecDepth 20000 in
theorem b312_204 {n : Nat} {h : q_Hp} {Q : Option Value → q_Hp → Prop} {x0 : Nat} {x1 : Int32} {x2 : Int32} {x3 : Int32} {x4 : Int32} {x5 : Int64} {x7 : Int64} {s0 : Int64} {s1 : Nat} {s2 : Int32} {s3 : Nat} {m : Nat} {P : Int32 → q_Hp → Prop} (hc : q_mI m 311 [.ref s1, .long s0] h P) (hm : m ≤ n) (w : ∀ (z : Int32) (h1 : q_Hp), P z h1 → q_wp (n + 1) 312 207 [some (.ref x0), some (.int x1), some (.int x2), some (.int x3), some (.int x4), some (.long x5), none, some (.long x7), none] [.int z, .int s2, .ref s3] h1 Q) : q_wp (n + 1) 312 204 [some (.ref x0), some (.int x1), some (.int x2), some (.int x3), some (.int x4), some (.long x5), none, some (.long x7), none] [.long s0, .ref s1, .int s2, .ref s3] h Q := by
  exact wp_callI (av := [.ref s1, .long s0]) rfl rfl rfl (by decide) rfl rfl rfl hm hc w
set_option maxRecDepth 20000 in
theorem b312_207 {n : Nat} {h : q_Hp} {Q : Option Value → q_Hp → Prop} {x0 : Nat} {x1 : Int32} {x2 : Int32} {x3 : Int32} {x4 : Int32} {x5 : Int64} {x7 : Int64} {s0 : Int32} {s1 : Int32} {s2 : Nat} (k0 : q_ok h s2 20) (i0 : q_in s1 (qK h s2).2) (w : q_wp n 312 208 [some (.ref x0), some (.int x1), some (.int x2), some (.int x3), some (.int x4), some (.long x5), none, some (.long x7), none] [] (q_sA h s2 s1.toNatClampNeg s0) Q) : q_wp n 312 207 [some (.ref x0), some (.int x1), some (.int x2), some (.int x3), some (.int x4), some (.long x5), none, some (.long x7), none] [.int s0, .int s1, .ref s2] h Q := by
  refine wp_iast rfl k0 i0 ?_
  exact w
set_option maxRecDepth 20000 in
theorem b312_208 {n : Nat} {h : q_Hp} {Q : Option Value → q_Hp → Prop} {x0 : Nat} {x1 : Int32} {x2 : Int32} {x3 : Int32} {x4 : Int32} {l5 : Option Value} {l7 : Option Value} (k0 : q_ok h x0 12) (wt : (qI h x0 99) = 0 → q_wp n 312 217 [some (.ref x0), some (.int x1), some (.int x2), some (.int x3), some (.int x4), l5, none, l7, none] [] h Q) (wf : ¬ (qI h x0 99) = 0 → q_wp n 312 215 [some (.ref x0), some (.int x1), some (.int x2), some (.int x3), some (.int x4), l5, none, l7, none] [] h Q) : q_wp n 312 208 [some (.ref x0), some (.int x1), some (.int x2), some (.int x3), some (.int x4), l5, none, l7, none] [] h Q := by
  refine wp_loc rfl rfl ?_
  refine wp_getI rfl rfl rfl k0 ?_
  exact wp_ifeq (tgt := 217) rfl (by decide) wt wf
set_option maxRecDepth 20000 in
theorem b312_215 {n : Nat} {h : q_Hp} {Q : Option Value → q_Hp → Prop} {x0 : Nat} {x1 : Int32} {x2 : Int32} {x3 : Int32} {x4 : Int32} {l5 : Option Value} {l7 : Option Value} (q : Q (some (.int 0)) h) : q_wp n 312 215 [some (.ref x0), some (.int x1), some (.int x2), some (.int x3), some (.int x4), l5, none, l7, none] [] h Q := by
  refine wp_iconst (v := 0) rfl (by decide) ?_
  exact wp_ret rfl rfl q
set_option maxRecDepth 20000 in
theorem b312_217 {n : Nat} {h : q_Hp} {Q : Option Value → q_Hp → Prop} {x0 : Nat} {x1 : Int32} {x2 : Int32} {x3 : Int32} {x4 : Int32} {l5 : Option Value} {l7 : Option Value} (w : q_wp n 312 10 [some (.ref x0), some (.int x1), some (.int x2), some (.int x3), some (.int (x4 + 1)), l5, none, l7, none] [] h Q) : q_wp n 312 217 [some (.ref x0), some (.int x1), some (.int x2), some (.int x3), some (.int x4), l5, none, l7, none] [] h Q := by
  refine wp_iinc (v := 1) rfl rfl (by decide) rfl ?_
  refine wp_goto (tgt := 10) rfl (by decide) ?_
  exact w
set_option maxRecDepth 20000 in
theorem b312_223 {n : Nat} {h : q_Hp} {Q : Option Value → q_Hp → Prop} {x0 : Nat} {x1 : Int32} {x2 : Int32} {x3 : Int32} {x4 : Int32} {l5 : Option Value} {l7 : Option Value} {v0 : Nat} (k0 : q_ok h x0 12) (e0 : qR h x0 100 = v0) (k1 : q_ok h v0 20) (i0 : q_in 0 (qK h v0).2) (q : Q (some (.int (qA h v0 ((0 : Int32).toNatClampNeg)))) h) : q_wp n 312 223 [some (.ref x0), some (.int x1), some (.int x2), some (.int x3), some (.int x4), l5, none, l7, none] [] h Q := by
  refine wp_loc rfl rfl ?_
  refine wp_getR rfl rfl rfl rfl k0 e0 ?_
  refine wp_iconst (v := 0) rfl (by decide) ?_
  refine wp_iald rfl k1 i0 ?_
  exact wp_ret rfl rfl q
theorem b313_0 {n : Nat} {h : q_Hp} {Q : Option Value → q_Hp → Prop} {x0 : Nat} {x1 : Int32} {x2 : Int32} {x3 : Int32} {x4 : Int32} {x5 : Int32} (w : q_wp n 313 3 [some (.ref x0), some (.int x1), some (.int x2), some (.int x3), some (.int x4), some (.int x5), some (.int 0), none, none] [] h Q) : q_wp n 313 0 [some (.ref x0), some (.int x1), some (.int x2), some (.int x3), some (.int x4), some (.int x5), none, none, none] [] h Q := by
  refine wp_iconst (v := 0) rfl (by decide) ?_
  refine wp_loc rfl rfl ?_
  exact w
theorem b313_3 {n : Nat} {h : q_Hp} {Q : Option Value → q_Hp → Prop} {x0 : Nat} {x1 : Int32} {x2 : Int32} {x3 : Int32} {x4 : Int32} {x5 : Int32} {x6 : Int32} {l7 : Option Value} {l8 : Option Value} (wt : 40 ≤ x6 → q_wp n 313 153 [some (.ref x0), some (.int x1), some (.int x2), some (.int x3), some (.int x4), some (.int x5), some (.int x6), l7, l8] [] h Q) (wf : ¬ 40 ≤ x6 → q_wp n 313 10 [some (.ref x0), some (.int x1), some (.int x2), some (.int x3), some (.int x4), some (.int x5), some (.int x6), l7, l8] [] h Q) : q_wp n 313 3 [some (.ref x0), some (.int x1), some (.int x2), some (.int x3), some (.int x4), some (.int x5), some (.int x6), l7, l8] [] h Q := by
  refine wp_loc rfl rfl ?_
  refine wp_bipush (v := 40) rfl (by decide) ?_
  exact wp_icge (tgt := 153) rfl (by decide) wt wf
theorem b313_10 {n : Nat} {h : q_Hp} {Q : Option Value → q_Hp → Prop} {x0 : Nat} {x1 : Int32} {x2 : Int32} {x3 : Int32} {x4 : Int32} {x5 : Int32} {x6 : Int32} {l7 : Option Value} {l8 : Option Value} {v0 : Nat} (k0 : q_ok h x0 12) (e0 : qR h x0 87 = v0) (k1 : q_ok h v0 20) (i0 : q_in (36 + x6) (qK h v0).2) (wt : ¬ (qA h v0 ((36 + x6 : Int32).toNatClampNeg)) = x1 → q_wp n 313 147 [some (.ref x0), some (.int x1), some (.int x2), some (.int x3), some (.int x4), some (.int x5), some (.int x6), l7, l8] [] h Q) (wf : (qA h v0 ((36 + x6 : Int32).toNatClampNeg)) = x1 → q_wp n 313 24 [some (.ref x0), some (.int x1), some (.int x2), some (.int x3), some (.int x4), some (.int x5), some (.int x6), l7, l8] [] h Q) : q_wp n 313 10 [some (.ref x0), some (.int x1), some (.int x2), some (.int x3), some (.int x4), some (.int x5), some (.int x6), l7, l8] [] h Q := by
  refine wp_loc rfl rfl ?_
  refine wp_getR rfl rfl rfl rfl k0 e0 ?_
  refine wp_bipush (v := 36) rfl (by decide) ?_
  refine wp_loc rfl rfl ?_
  refine wp_stk rfl rfl rfl ?_
  refine wp_iald rfl k1 i0 ?_
  refine wp_loc rfl rfl ?_
  exact wp_icne (tgt := 147) rfl (by decide) wt wf
theorem b313_24 {n : Nat} {h : q_Hp} {Q : Option Value → q_Hp → Prop} {x0 : Nat} {x1 : Int32} {x2 : Int32} {x3 : Int32} {x4 : Int32} {x5 : Int32} {x6 : Int32} {l7 : Option Value} {l8 : Option Value} {v0 : Nat} (k0 : q_ok h x0 12) (e0 : qR h x0 87 = v0) (k1 : q_ok h v0 20) (i0 : q_in (76 + x6) (qK h v0).2) (wt : ¬ (qA h v0 ((76 + x6 : Int32).toNatClampNeg)) = x2 → q_wp n 313 147 [some (.ref x0), some (.int x1), some (.int x2), some (.int x3), some (.int x4), some (.int x5), some (.int x6), l7, l8] [] h Q) (wf : (qA h v0 ((76 + x6 : Int32).toNatClampNeg)) = x2 → q_wp n 313 38 [some (.ref x0), some (.int x1), some (.int x2), some (.int x3), some (.int x4), some (.int x5), some (.int x6), l7, l8] [] h Q) : q_wp n 313 24 [some (.ref x0), some (.int x1), some (.int x2), some (.int x3), some (.int x4), some (.int x5), some (.int x6), l7, l8] [] h Q := by
  refine wp_loc rfl rfl ?_
  refine wp_getR rfl rfl rfl rfl k0 e0 ?_
  refine wp_bipush (v := 76) rfl (by decide) ?_
  refine wp_loc rfl rfl ?_
  refine wp_stk rfl rfl rfl ?_
  refine wp_iald rfl k1 i0 ?_
  refine wp_loc rfl rfl ?_
  exact wp_icne (tgt := 147) rfl (by decide) wt wf
theorem b313_38 {n : Nat} {h : q_Hp} {Q : Option Value → q_Hp → Prop} {x0 : Nat} {x1 : Int32} {x2 : Int32} {x3 : Int32} {x4 : Int32} {x5 : Int32} {x6 : Int32} {l7 : Option Value} {l8 : Option Value} {v0 : Nat} (k0 : q_ok h x0 12) (e0 : qR h x0 87 = v0) (k1 : q_ok h v0 20) (i0 : q_in (116 + x6) (qK h v0).2) (wt : (qA h v0 ((116 + x6 : Int32).toNatClampNeg)) = x3 → q_wp n 313 55 [some (.ref x0), some (.int x1), some (.int x2), some (.int x3), some (.int x4), some (.int x5), some (.int x6), l7, l8] [] h Q) (wf : ¬ (qA h v0 ((116 + x6 : Int32).toNatClampNeg)) = x3 → q_wp n 313 52 [some (.ref x0), some (.int x1), some (.int x2), some (.int x3), some (.int x4), some (.int x5), some (.int x6), l7, l8] [] h Q) : q_wp n 313 38 [some (.ref x0), some (.int x1), some (.int x2), some (.int x3), some (.int x4), some (.int x5), some (.int x6), l7, l8] [] h Q := by
  refine wp_loc rfl rfl ?_
  refine wp_getR rfl rfl rfl rfl k0 e0 ?_
  refine wp_bipush (v := 116) rfl (by decide) ?_
  refine wp_loc rfl rfl ?_
  refine wp_stk rfl rfl rfl ?_
  refine wp_iald rfl k1 i0 ?_
  refine wp_loc rfl rfl ?_
  exact wp_iceq (tgt := 55) rfl (by decide) wt wf
theorem b313_52 {n : Nat} {h : q_Hp} {Q : Option Value → q_Hp → Prop} {x0 : Nat} {x1 : Int32} {x2 : Int32} {x3 : Int32} {x4 : Int32} {x5 : Int32} {x6 : Int32} {l7 : Option Value} {l8 : Option Value} (w : q_wp n 313 147 [some (.ref x0), some (.int x1), some (.int x2), some (.int x3), some (.int x4), some (.int x5), some (.int x6), l7, l8] [] h Q) : q_wp n 313 52 [some (.ref x0), some (.int x1), some (.int x2), some (.int x3), some (.int x4), some (.int x5), some (.int x6), l7, l8] [] h Q := by
  refine wp_goto (tgt := 147) rfl (by decide) ?_
  exact w
theorem b313_55 {n : Nat} {h : q_Hp} {Q : Option Value → q_Hp → Prop} {x0 : Nat} {x1 : Int32} {x2 : Int32} {x3 : Int32} {x4 : Int32} {x5 : Int32} {x6 : Int32} {l7 : Option Value} {l8 : Option Value} (w : q_wp n 313 61 [some (.ref x0), some (.int x1), some (.int x2), some (.int x3), some (.int x4), some (.int x5), some (.int x6), some (.int 1), some (.int 0)] [] h Q) : q_wp n 313 55 [some (.ref x0), some (.int x1), some (.int x2), some (.int x3), some (.int x4), some (.int x5), some (.int x6), l7, l8] [] h Q := by
  refine wp_iconst (v := 1) rfl (by decide) ?_
  refine wp_loc rfl rfl ?_
  refine wp_iconst (v := 0) rfl (by decide) ?_
  refine wp_loc rfl rfl ?_
  exact w
theorem b313_61 {n : Nat} {h : q_Hp} {Q : Option Value → q_Hp → Prop} {x0 : Nat} {x1 : Int32} {x2 : Int32} {x3 : Int32} {x4 : Int32} {x5 : Int32} {x6 : Int32} {x7 : Int32} {x8 : Int32} (wt : x4 ≤ x8 → q_wp n 313 98 [some (.ref x0), some (.int x1), some (.int x2), some (.int x3), some (.int x4), some (.int x5), some (.int x6), some (.int x7), some (.int x8)] [] h Q) (wf : ¬ x4 ≤ x8 → q_wp n 313 68 [some (.ref x0), some (.int x1), some (.int x2), some (.int x3), some (.int x4), some (.int x5), some (.int x6), some (.int x7), some (.int x8)] [] h Q) : q_wp n 313 61 [some (.ref x0), some (.int x1), some (.int x2), some (.int x3), some (.int x4), some (.int x5), some (.int x6), some (.int x7), some (.int x8)] [] h Q := by
  refine wp_loc rfl rfl ?_
  refine wp_loc rfl rfl ?_
  exact wp_icge (tgt := 98) rfl (by decide) wt wf
theorem b313_68 {n : Nat} {h : q_Hp} {Q : Option Value → q_Hp → Prop} {x0 : Nat} {x1 : Int32} {x2 : Int32} {x3 : Int32} {x4 : Int32} {x5 : Int32} {x6 : Int32} {x7 : Int32} {x8 : Int32} (wt : x7 = 0 → q_wp n 313 89 [some (.ref x0), some (.int x1), some (.int x2), some (.int x3), some (.int x4), some (.int x5), some (.int x6), some (.int x7), some (.int x8)] [] h Q) (wf : ¬ x7 = 0 → q_wp n 313 73 [some (.ref x0), some (.int x1), some (.int x2), some (.int x3), some (.int x4), some (.int x5), some (.int x6), some (.int x7), some (.int x8)] [] h Q) : q_wp n 313 68 [some (.ref x0), some (.int x1), some (.int x2), some (.int x3), some (.int x4), some (.int x5), some (.int x6), some (.int x7), some (.int x8)] [] h Q := by
  refine wp_loc rfl rfl ?_
  exact wp_ifeq (tgt := 89) rfl (by decide) wt wf
theorem b313_73 {n : Nat} {h : q_Hp} {Q : Option Value → q_Hp → Prop} {x0 : Nat} {x1 : Int32} {x2 : Int32} {x3 : Int32} {x4 : Int32} {x5 : Int32} {x6 : Int32} {x7 : Int32} {x8 : Int32} {v0 : Nat} (k0 : q_ok h x0 12) (e0 : qR h x0 94 = v0) (k1 : q_ok h v0 20) (i0 : q_in x8 (qK h v0).2) (wt : (qA h v0 x8.toNatClampNeg) = x6 → q_wp n 313 89 [some (.ref x0), some (.int x1), some (.int x2), some (.int x3), some (.int x4), some (.int x5), some (.int x6), some (.int x7), some (.int x8)] [] h Q) (wf : ¬ (qA h v0 x8.toNatClampNeg) = x6 → q_wp n 313 85 [some (.ref x0), some (.int x1), some (.int x2), some (.int x3), some (.int x4), some (.int x5), some (.int x6), some (.int x7), some (.int x8)] [] h Q) : q_wp n 313 73 [some (.ref x0), some (.int x1), some (.int x2), some (.int x3), some (.int x4), some (.int x5), some (.int x6), some (.int x7), some (.int x8)] [] h Q := by
  refine wp_loc rfl rfl ?_
  refine wp_getR rfl rfl rfl rfl k0 e0 ?_
  refine wp_loc rfl rfl ?_
  refine wp_iald rfl k1 i0 ?_
  refine wp_loc rfl rfl ?_
  exact wp_iceq (tgt := 89) rfl (by decide) wt wf
theorem b313_85 {n : Nat} {h : q_Hp} {Q : Option Value → q_Hp → Prop} {x0 : Nat} {x1 : Int32} {x2 : Int32} {x3 : Int32} {x4 : Int32} {x5 : Int32} {x6 : Int32} {x7 : Int32} {x8 : Int32} (w : q_wp n 313 90 [some (.ref x0), some (.int x1), some (.int x2), some (.int x3), some (.int x4), some (.int x5), some (.int x6), some (.int x7), some (.int x8)] [.int 1] h Q) : q_wp n 313 85 [some (.ref x0), some (.int x1), some (.int x2), some (.int x3), some (.int x4), some (.int x5), some (.int x6), some (.int x7), some (.int x8)] [] h Q := by
  refine wp_iconst (v := 1) rfl (by decide) ?_
  refine wp_goto (tgt := 90) rfl (by decide) ?_
  exact w
theorem b313_89 {n : Nat} {h : q_Hp} {Q : Option Value → q_Hp → Prop} {x0 : Nat} {x1 : Int32} {x2 : Int32} {x3 : Int32} {x4 : Int32} {x5 : Int32} {x6 : Int32} {x7 : Int32} {x8 : Int32} (w : q_wp n 313 90 [some (.ref x0), some (.int x1), some (.int x2), some (.int x3), some (.int x4), some (.int x5), some (.int x6), some (.int x7), some (.int x8)] [.int 0] h Q) : q_wp n 313 89 [some (.ref x0), some (.int x1), some (.int x2), some (.int x3), some (.int x4), some (.int x5), some (.int x6), some (.int x7), some (.int x8)] [] h Q := by
  refine wp_iconst (v := 0) rfl (by decide) ?_
  exact w
theorem b313_90 {n : Nat} {h : q_Hp} {Q : Option Value → q_Hp → Prop} {x0 : Nat} {x1 : Int32} {x2 : Int32} {x3 : Int32} {x4 : Int32} {x5 : Int32} {x6 : Int32} {x7 : Int32} {x8 : Int32} {s0 : Int32} (w : q_wp n 313 61 [some (.ref x0), some (.int x1), some (.int x2), some (.int x3), some (.int x4), some (.int x5), some (.int x6), some (.int s0), some (.int (x8 + 1))] [] h Q) : q_wp n 313 90 [some (.ref x0), some (.int x1), some (.int x2), some (.int x3), some (.int x4), some (.int x5), some (.int x6), some (.int x7), some (.int x8)] [.int s0] h Q := by
  refine wp_loc rfl rfl ?_
  refine wp_iinc (v := 1) rfl rfl (by decide) rfl ?_
  refine wp_goto (tgt := 61) rfl (by decide) ?_
  exact w
theorem b313_98 {n : Nat} {h : q_Hp} {Q : Option Value → q_Hp → Prop} {x0 : Nat} {x1 : Int32} {x2 : Int32} {x3 : Int32} {x4 : Int32} {x5 : Int32} {x6 : Int32} {x7 : Int32} {x8 : Int32} (w : q_wp n 313 102 [some (.ref x0), some (.int x1), some (.int x2), some (.int x3), some (.int x4), some (.int x5), some (.int x6), some (.int x7), some (.int 6)] [] h Q) : q_wp n 313 98 [some (.ref x0), some (.int x1), some (.int x2), some (.int x3), some (.int x4), some (.int x5), some (.int x6), some (.int x7), some (.int x8)] [] h Q := by
  refine wp_bipush (v := 6) rfl (by decide) ?_
  refine wp_loc rfl rfl ?_
  exact w
theorem b313_102 {n : Nat} {h : q_Hp} {Q : Option Value → q_Hp → Prop} {x0 : Nat} {x1 : Int32} {x2 : Int32} {x3 : Int32} {x4 : Int32} {x5 : Int32} {x6 : Int32} {x7 : Int32} {x8 : Int32} (wt : x5 ≤ x8 → q_wp n 313 139 [some (.ref x0), some (.int x1), some (.int x2), some (.int x3), some (.int x4), some (.int x5), some (.int x6), some (.int x7), some (.int x8)] [] h Q) (wf : ¬ x5 ≤ x8 → q_wp n 313 109 [some (.ref x0), some (.int x1), some (.int x2), some (.int x3), some (.int x4), some (.int x5), some (.int x6), some (.int x7), some (.int x8)] [] h Q) : q_wp n 313 102 [some (.ref x0), some (.int x1), some (.int x2), some (.int x3), some (.int x4), some (.int x5), some (.int x6), some (.int x7), some (.int x8)] [] h Q := by
  refine wp_loc rfl rfl ?_
  refine wp_loc rfl rfl ?_
  exact wp_icge (tgt := 139) rfl (by decide) wt wf
theorem b313_109 {n : Nat} {h : q_Hp} {Q : Option Value → q_Hp → Prop} {x0 : Nat} {x1 : Int32} {x2 : Int32} {x3 : Int32} {x4 : Int32} {x5 : Int32} {x6 : Int32} {x7 : Int32} {x8 : Int32} (wt : x7 = 0 → q_wp n 313 130 [some (.ref x0), some (.int x1), some (.int x2), some (.int x3), some (.int x4), some (.int x5), some (.int x6), some (.int x7), some (.int x8)] [] h Q) (wf : ¬ x7 = 0 → q_wp n 313 114 [some (.ref x0), some (.int x1), some (.int x2), some (.int x3), some (.int x4), some (.int x5), some (.int x6), some (.int x7), some (.int x8)] [] h Q) : q_wp n 313 109 [some (.ref x0), some (.int x1), some (.int x2), some (.int x3), some (.int x4), some (.int x5), some (.int x6), some (.int x7), some (.int x8)] [] h Q := by
  refine wp_loc rfl rfl ?_
  exact wp_ifeq (tgt := 130) rfl (by decide) wt wf
theorem b313_114 {n : Nat} {h : q_Hp} {Q : Option Value → q_Hp → Prop} {x0 : Nat} {x1 : Int32} {x2 : Int32} {x3 : Int32} {x4 : Int32} {x5 : Int32} {x6 : Int32} {x7 : Int32} {x8 : Int32} {v0 : Nat} (k0 : q_ok h x0 12) (e0 : qR h x0 94 = v0) (k1 : q_ok h v0 20) (i0 : q_in x8 (qK h v0).2) (wt : (qA h v0 x8.toNatClampNeg) = x6 → q_wp n 313 130 [some (.ref x0), some (.int x1), some (.int x2), some (.int x3), some (.int x4), some (.int x5), some (.int x6), some (.int x7), some (.int x8)] [] h Q) (wf : ¬ (qA h v0 x8.toNatClampNeg) = x6 → q_wp n 313 126 [some (.ref x0), some (.int x1), some (.int x2), some (.int x3), some (.int x4), some (.int x5), some (.int x6), some (.int x7), some (.int x8)] [] h Q) : q_wp n 313 114 [some (.ref x0), some (.int x1), some (.int x2), some (.int x3), some (.int x4), some (.int x5), some (.int x6), some (.int x7), some (.int x8)] [] h Q := by
  refine wp_loc rfl rfl ?_
  refine wp_getR rfl rfl rfl rfl k0 e0 ?_
  refine wp_loc rfl rfl ?_
  refine wp_iald rfl k1 i0 ?_
  refine wp_loc rfl rfl ?_
  exact wp_iceq (tgt := 130) rfl (by decide) wt wf
theorem b313_126 {n : Nat} {h : q_Hp} {Q : Option Value → q_Hp → Prop} {x0 : Nat} {x1 : Int32} {x2 : Int32} {x3 : Int32} {x4 : Int32} {x5 : Int32} {x6 : Int32} {x7 : Int32} {x8 : Int32} (w : q_wp n 313 131 [some (.ref x0), some (.int x1), some (.int x2), some (.int x3), some (.int x4), some (.int x5), some (.int x6), some (.int x7), some (.int x8)] [.int 1] h Q) : q_wp n 313 126 [some (.ref x0), some (.int x1), some (.int x2), some (.int x3), some (.int x4), some (.int x5), some (.int x6), some (.int x7), some (.int x8)] [] h Q := by
  refine wp_iconst (v := 1) rfl (by decide) ?_
  refine wp_goto (tgt := 131) rfl (by decide) ?_
  exact w
theorem b313_130 {n : Nat} {h : q_Hp} {Q : Option Value → q_Hp → Prop} {x0 : Nat} {x1 : Int32} {x2 : Int32} {x3 : Int32} {x4 : Int32} {x5 : Int32} {x6 : Int32} {x7 : Int32} {x8 : Int32} (w : q_wp n 313 131 [some (.ref x0), some (.int x1), some (.int x2), some (.int x3), some (.int x4), some (.int x5), some (.int x6), some (.int x7), some (.int x8)] [.int 0] h Q) : q_wp n 313 130 [some (.ref x0), some (.int x1), some (.int x2), some (.int x3), some (.int x4), some (.int x5), some (.int x6), some (.int x7), some (.int x8)] [] h Q := by
  refine wp_iconst (v := 0) rfl (by decide) ?_
  exact w
theorem b313_131 {n : Nat} {h : q_Hp} {Q : Option Value → q_Hp → Prop} {x0 : Nat} {x1 : Int32} {x2 : Int32} {x3 : Int32} {x4 : Int32} {x5 : Int32} {x6 : Int32} {x7 : Int32} {x8 : Int32} {s0 : Int32} (w : q_wp n 313 102 [some (.ref x0), some (.int x1), some (.int x2), some (.int x3), some (.int x4), some (.int x5), some (.int x6), some (.int s0), some (.int (x8 + 1))] [] h Q) : q_wp n 313 131 [some (.ref x0), some (.int x1), some (.int x2), some (.int x3), some (.int x4), some (.int x5), some (.int x6), some (.int x7), some (.int x8)] [.int s0] h Q := by
  refine wp_loc rfl rfl ?_
  refine wp_iinc (v := 1) rfl rfl (by decide) rfl ?_
  refine wp_goto (tgt := 102) rfl (by decide) ?_
  exact w
theorem b313_139 {n : Nat} {h : q_Hp} {Q : Option Value → q_Hp → Prop} {x0 : Nat} {x1 : Int32} {x2 : Int32} {x3 : Int32} {x4 : Int32} {x5 : Int32} {x6 : Int32} {x7 : Int32} {x8 : Int32} (wt : x7 = 0 → q_wp n 313 147 [some (.ref x0), some (.int x1), some (.int x2), some (.int x3), some (.int x4), some (.int x5), some (.int x6), some (.int x7), some (.int x8)] [] h Q) (wf : ¬ x7 = 0 → q_wp n 313 144 [some (.ref x0), some (.int x1), some (.int x2), some (.int x3), some (.int x4), some (.int x5), some (.int x6), some (.int x7), some (.int x8)] [] h Q) : q_wp n 313 139 [some (.ref x0), some (.int x1), some (.int x2), some (.int x3), some (.int x4), some (.int x5), some (.int x6), some (.int x7), some (.int x8)] [] h Q := by
  refine wp_loc rfl rfl ?_
  exact wp_ifeq (tgt := 147) rfl (by decide) wt wf
theorem b313_144 {n : Nat} {h : q_Hp} {Q : Option Value → q_Hp → Prop} {x0 : Nat} {x1 : Int32} {x2 : Int32} {x3 : Int32} {x4 : Int32} {x5 : Int32} {x6 : Int32} {x7 : Int32} {x8 : Int32} (q : Q (some (.int x6)) h) : q_wp n 313 144 [some (.ref x0), some (.int x1), some (.int x2), some (.int x3), some (.int x4), some (.int x5), some (.int x6), some (.int x7), some (.int x8)] [] h Q := by
  refine wp_loc rfl rfl ?_
  exact wp_ret rfl rfl q
theorem b313_147 {n : Nat} {h : q_Hp} {Q : Option Value → q_Hp → Prop} {x0 : Nat} {x1 : Int32} {x2 : Int32} {x3 : Int32} {x4 : Int32} {x5 : Int32} {x6 : Int32} {l7 : Option Value} {l8 : Option Value} (w : q_wp n 313 3 [some (.ref x0), some (.int x1), some (.int x2), some (.int x3), some (.int x4), some (.int x5), some (.int (x6 + 1)), l7, l8] [] h Q) : q_wp n 313 147 [some (.ref x0), some (.int x1), some (.int x2), some (.int x3), some (.int x4), some (.int x5), some (.int x6), l7, l8] [] h Q := by
  refine wp_iinc (v := 1) rfl rfl (by decide) rfl ?_
  refine wp_goto (tgt := 3) rfl (by decide) ?_
  exact w
theorem b313_153 {n : Nat} {h : q_Hp} {Q : Option Value → q_Hp → Prop} {x0 : Nat} {x1 : Int32} {x2 : Int32} {x3 : Int32} {x4 : Int32} {x5 : Int32} {x6 : Int32} {l7 : Option Value} {l8 : Option Value} (q : Q (some (.int (-1))) h) : q_wp n 313 153 [some (.ref x0), some (.int x1), some (.int x2), some (.int x3), some (.int x4), some (.int x5), some (.int x6), l7, l8] [] h Q := by
  refine wp_iconst (v := (-1)) rfl (by decide) ?_
  exact wp_ret rfl rfl q
set_option maxRecDepth 20000 in
theorem b314_0 {n : Nat} {h : q_Hp} {Q : Option Value → q_Hp → Prop} {x0 : Nat} {x1 : Int32} (w : q_wp n 314 2 [some (.ref x0), some (.int x1), some (.int 0), none] [] h Q) : q_wp n 314 0 [some (.ref x0), some (.int x1), none, none] [] h Q := by
  refine wp_iconst (v := 0) rfl (by decide) ?_
  refine wp_loc rfl rfl ?_
  exact w
set_option maxRecDepth 20000 in
theorem b314_2 {n : Nat} {h : q_Hp} {Q : Option Value → q_Hp → Prop} {x0 : Nat} {x1 : Int32} {x2 : Int32} {l3 : Option Value} {v0 : Nat} (k0 : q_ok h x0 12) (e0 : qR h x0 31 = v0) (k1 : q_ok h v0 20) (i0 : q_in x1 (qK h v0).2) (wt : (qA h v0 x1.toNatClampNeg) ≤ x2 → q_wp n 314 101 [some (.ref x0), some (.int x1), some (.int x2), l3] [] h Q) (wf : ¬ (qA h v0 x1.toNatClampNeg) ≤ x2 → q_wp n 314 12 [some (.ref x0), some (.int x1), some (.int x2), l3] [] h Q) : q_wp n 314 2 [some (.ref x0), some (.int x1), some (.int x2), l3] [] h Q := by
  refine wp_loc rfl rfl ?_
  refine wp_loc rfl rfl ?_
  refine wp_getR rfl rfl rfl rfl k0 e0 ?_
  refine wp_loc rfl rfl ?_
  refine wp_iald rfl k1 i0 ?_
  exact wp_icge (tgt := 101) rfl (by decide) wt wf
set_option maxRecDepth 20000 in
theorem b314_12 {n : Nat} {h : q_Hp} {Q : Option Value → q_Hp → Prop} {x0 : Nat} {x1 : Int32} {x2 : Int32} {l3 : Option Value} {v0 : Nat} (k0 : q_ok h x0 12) (e0 : qR h x0 93 = v0) (k1 : q_ok h v0 20) (i0 : q_in x2 (qK h v0).2) {m : Nat} {P : Int32 → q_Hp → Prop} (hc : q_mI m 294 [.ref x0, .int (qA h v0 x2.toNatClampNeg)] h P) (hm : m ≤ n) (w : ∀ (z : Int32) (h1 : q_Hp), P z h1 → q_wp (n + 1) 314 22 [some (.ref x0), some (.int x1), some (.int x2), l3] [.int z] h1 Q) : q_wp (n + 1) 314 12 [some (.ref x0), some (.int x1), some (.int x2), l3] [] h Q := by
  refine wp_loc rfl rfl ?_
  refine wp_loc rfl rfl ?_
  refine wp_getR rfl rfl rfl rfl k0 e0 ?_
  refine wp_loc rfl rfl ?_
  refine wp_iald rfl k1 i0 ?_
  exact wp_callI (av := [.ref x0, .int (qA h v0 x2.toNatClampNeg)]) rfl rfl rfl (by decide) rfl rfl rfl hm hc w
set_option maxRecDepth 20000 in
theorem b314_22 {n : Nat} {h : q_Hp} {Q : Option Value → q_Hp → Prop} {x0 : Nat} {x1 : Int32} {x2 : Int32} {l3 : Option Value} {s0 : Int32} (wt : s0 = 0 → q_wp n 314 54 [some (.ref x0), some (.int x1), some (.int x2), l3] [] h Q) (wf : ¬ s0 = 0 → q_wp n 314 25 [some (.ref x0), some (.int x1), some (.int x2), l3] [] h Q) : q_wp n 314 22 [some (.ref x0), some (.int x1), some (.int x2), l3] [.int s0] h Q := by
  exact wp_ifeq (tgt := 54) rfl (by decide) wt wf
set_option maxRecDepth 20000 in
theorem b314_25 {n : Nat} {h : q_Hp} {Q : Option Value → q_Hp → Prop} {x0 : Nat} {x1 : Int32} {x2 : Int32} {l3 : Option Value} {v0 : Nat} {v1 : Nat} {v2 : Nat} (k0 : q_ok h x0 12) (e0 : qR h x0 87 = v0) (e1 : qR h x0 93 = v1) (k1 : q_ok h v1 20) (i0 : q_in x2 (qK h v1).2) (k2 : q_ok h v0 20) (i1 : q_in (qA h v1 x2.toNatClampNeg) (qK h v0).2) (e2 : qR h x0 34 = v2) (k3 : q_ok h v2 20) (i2 : q_in ((4 * x1) + x2) (qK h v2).2) {m : Nat} {P : Int32 → q_Hp → Prop} (hc : q_mI m 259 [.ref x0, .int 0, .int (qA h v0 ((qA h v1 x2.toNatClampNeg : Int32).toNatClampNeg)), .int (qA h v2 (((4 * x1) + x2 : Int32).toNatClampNeg))] h P) (hm : m ≤ n) (w : ∀ (z : Int32) (h1 : q_Hp), P z h1 → q_wp (n + 1) 314 51 [some (.ref x0), some (.int x1), some (.int x2), l3] [.int z] h1 Q) : q_wp (n + 1) 314 25 [some (.ref x0), some (.int x1), some (.int x2), l3] [] h Q := by
  refine wp_loc rfl rfl ?_
  refine wp_iconst (v := 0) rfl (by decide) ?_
  refine wp_loc rfl rfl ?_
  refine wp_getR rfl rfl rfl rfl k0 e0 ?_
  refine wp_loc rfl rfl ?_
  refine wp_getR rfl rfl rfl rfl k0 e1 ?_
  refine wp_loc rfl rfl ?_
  refine wp_iald rfl k1 i0 ?_
  refine wp_iald rfl k2 i1 ?_
  refine wp_loc rfl rfl ?_
  refine wp_getR rfl rfl rfl rfl k0 e2 ?_
  refine wp_iconst (v := 4) rfl (by decide) ?_
  refine wp_loc rfl rfl ?_
  refine wp_stk rfl rfl rfl ?_
  refine wp_loc rfl rfl ?_
  refine wp_stk rfl rfl rfl ?_
  refine wp_iald rfl k3 i2 ?_
  exact wp_callI (av := [.ref x0, .int 0, .int (qA h v0 ((qA h v1 x2.toNatClampNeg : Int32).toNatClampNeg)), .int (qA h v2 (((4 * x1) + x2 : Int32).toNatClampNeg))]) rfl rfl rfl (by decide) rfl rfl rfl hm hc w
set_option maxRecDepth 20000 in
theorem b314_51 {n : Nat} {h : q_Hp} {Q : Option Value → q_Hp → Prop} {x0 : Nat} {x1 : Int32} {x2 : Int32} {l3 : Option Value} {s0 : Int32} (wt : ¬ s0 = 0 → q_wp n 314 56 [some (.ref x0), some (.int x1), some (.int x2), l3] [] h Q) (wf : s0 = 0 → q_wp n 314 54 [some (.ref x0), some (.int x1), some (.int x2), l3] [] h Q) : q_wp n 314 51 [some (.ref x0), some (.int x1), some (.int x2), l3] [.int s0] h Q := by
  exact wp_ifne (tgt := 56) rfl (by decide) wt wf
set_option maxRecDepth 20000 in
theorem b314_54 {n : Nat} {h : q_Hp} {Q : Option Value → q_Hp → Prop} {x0 : Nat} {x1 : Int32} {x2 : Int32} {l3 : Option Value} (q : Q (some (.int 0)) h) : q_wp n 314 54 [some (.ref x0), some (.int x1), some (.int x2), l3] [] h Q := by
  refine wp_iconst (v := 0) rfl (by decide) ?_
  exact wp_ret (r := some (.int 0)) rfl rfl q
set_option maxRecDepth 20000 in
theorem b314_56 {n : Nat} {h : q_Hp} {Q : Option Value → q_Hp → Prop} {x0 : Nat} {x1 : Int32} {x2 : Int32} {l3 : Option Value} (w : q_wp n 314 58 [some (.ref x0), some (.int x1), some (.int x2), some (.int 0)] [] h Q) : q_wp n 314 56 [some (.ref x0), some (.int x1), some (.int x2), l3] [] h Q := by
  refine wp_iconst (v := 0) rfl (by decide) ?_
  refine wp_loc rfl rfl ?_
  exact w
set_option maxRecDepth 20000 in
theorem b314_58 {n : Nat} {h : q_Hp} {Q : Option Value → q_Hp → Prop} {x0 : Nat} {x1 : Int32} {x2 : Int32} {x3 : Int32} (wt : x2 ≤ x3 → q_wp n 314 95 [some (.ref x0), some (.int x1), some (.int x2), some (.int x3)] [] h Q) (wf : ¬ x2 ≤ x3 → q_wp n 314 63 [some (.ref x0), some (.int x1), some (.int x2), some (.int x3)] [] h Q) : q_wp n 314 58 [some (.ref x0), some (.int x1), some (.int x2), some (.int x3)] [] h Q := by
  refine wp_loc rfl rfl ?_
  refine wp_loc rfl rfl ?_
  exact wp_icge (tgt := 95) rfl (by decide) wt wf
set_option maxRecDepth 20000 in
theorem b314_63 {n : Nat} {h : q_Hp} {Q : Option Value → q_Hp → Prop} {x0 : Nat} {x1 : Int32} {x2 : Int32} {x3 : Int32} {v0 : Nat} (k0 : q_ok h x0 12) (e0 : qR h x0 33 = v0) (b2 : q_ok h v0 22 ∨ q_ok h v0 23) (i0 : q_in x1 (qK h v0).2) (wt : ¬ (qA h v0 x1.toNatClampNeg) = 0 → q_wp n 314 95 [some (.ref x0), some (.int x1), some (.int x2), some (.int x3)] [] h Q) (wf : (qA h v0 x1.toNatClampNeg) = 0 → q_wp n 314 72 [some (.ref x0), some (.int x1), some (.int x2), some (.int x3)] [] h Q) : q_wp n 314 63 [some (.ref x0), some (.int x1), some (.int x2), some (.int x3)] [] h Q := by
  refine wp_loc rfl rfl ?_
  refine wp_getR rfl rfl rfl rfl k0 e0 ?_
  refine wp_loc rfl rfl ?_
  refine wp_bald rfl b2 i0 ?_
  exact wp_ifne (tgt := 95) rfl (by decide) wt wf
set_option maxRecDepth 20000 in
theorem b314_72 {n : Nat} {h : q_Hp} {Q : Option Value → q_Hp → Prop} {x0 : Nat} {x1 : Int32} {x2 : Int32} {x3 : Int32} {v0 : Nat} (k0 : q_ok h x0 12) (e0 : qR h x0 93 = v0) (k1 : q_ok h v0 20) (i0 : q_in x3 (qK h v0).2) (i1 : q_in x2 (qK h v0).2) (wt : ¬ (qA h v0 x3.toNatClampNeg) = (qA h v0 x2.toNatClampNeg) → q_wp n 314 89 [some (.ref x0), some (.int x1), some (.int x2), some (.int x3)] [] h Q) (wf : (qA h v0 x3.toNatClampNeg) = (qA h v0 x2.toNatClampNeg) → q_wp n 314 87 [some (.ref x0), some (.int x1), some (.int x2), some (.int x3)] [] h Q) : q_wp n 314 72 [some (.ref x0), some (.int x1), some (.int x2), some (.int x3)] [] h Q := by
  refine wp_loc rfl rfl ?_
  refine wp_getR rfl rfl rfl rfl k0 e0 ?_
  refine wp_loc rfl rfl ?_
  refine wp_iald rfl k1 i0 ?_
  refine wp_loc rfl rfl ?_
  refine wp_getR rfl rfl rfl rfl k0 e0 ?_
  refine wp_loc rfl rfl ?_
  refine wp_iald rfl k1 i1 ?_
  exact wp_icne (tgt := 89) rfl (by decide) wt wf
set_option maxRecDepth 20000 in
theorem b314_87 {n : Nat} {h : q_Hp} {Q : Option Value → q_Hp → Prop} {x0 : Nat} {x1 : Int32} {x2 : Int32} {x3 : Int32} (q : Q (some (.int 0)) h) : q_wp n 314 87 [some (.ref x0), some (.int x1), some (.int x2), some (.int x3)] [] h Q := by
  refine wp_iconst (v := 0) rfl (by decide) ?_
  exact wp_ret (r := some (.int 0)) rfl rfl q
set_option maxRecDepth 20000 in
theorem b314_89 {n : Nat} {h : q_Hp} {Q : Option Value → q_Hp → Prop} {x0 : Nat} {x1 : Int32} {x2 : Int32} {x3 : Int32} (w : q_wp n 314 58 [some (.ref x0), some (.int x1), some (.int x2), some (.int (x3 + 1))] [] h Q) : q_wp n 314 89 [some (.ref x0), some (.int x1), some (.int x2), some (.int x3)] [] h Q := by
  refine wp_iinc (v := 1) rfl rfl (by decide) rfl ?_
  refine wp_goto (tgt := 58) rfl (by decide) ?_
  exact w
set_option maxRecDepth 20000 in
theorem b314_95 {n : Nat} {h : q_Hp} {Q : Option Value → q_Hp → Prop} {x0 : Nat} {x1 : Int32} {x2 : Int32} {x3 : Int32} (w : q_wp n 314 2 [some (.ref x0), some (.int x1), some (.int (x2 + 1)), some (.int x3)] [] h Q) : q_wp n 314 95 [some (.ref x0), some (.int x1), some (.int x2), some (.int x3)] [] h Q := by
  refine wp_iinc (v := 1) rfl rfl (by decide) rfl ?_
  refine wp_goto (tgt := 2) rfl (by decide) ?_
  exact w
set_option maxRecDepth 20000 in
theorem b314_101 {n : Nat} {h : q_Hp} {Q : Option Value → q_Hp → Prop} {x0 : Nat} {x1 : Int32} {x2 : Int32} {l3 : Option Value} (w : q_wp n 314 103 [some (.ref x0), some (.int x1), some (.int 0), l3] [] h Q) : q_wp n 314 101 [some (.ref x0), some (.int x1), some (.int x2), l3] [] h Q := by
  refine wp_iconst (v := 0) rfl (by decide) ?_
  refine wp_loc rfl rfl ?_
  exact w
set_option maxRecDepth 20000 in
theorem b314_103 {n : Nat} {h : q_Hp} {Q : Option Value → q_Hp → Prop} {x0 : Nat} {x1 : Int32} {x2 : Int32} {l3 : Option Value} {v0 : Nat} (k0 : q_ok h x0 12) (e0 : qR h x0 32 = v0) (k1 : q_ok h v0 20) (i0 : q_in x1 (qK h v0).2) (wt : (qA h v0 x1.toNatClampNeg) ≤ x2 → q_wp n 314 179 [some (.ref x0), some (.int x1), some (.int x2), l3] [] h Q) (wf : ¬ (qA h v0 x1.toNatClampNeg) ≤ x2 → q_wp n 314 113 [some (.ref x0), some (.int x1), some (.int x2), l3] [] h Q) : q_wp n 314 103 [some (.ref x0), some (.int x1), some (.int x2), l3] [] h Q := by
  refine wp_loc rfl rfl ?_
  refine wp_loc rfl rfl ?_
  refine wp_getR rfl rfl rfl rfl k0 e0 ?_
  refine wp_loc rfl rfl ?_
  refine wp_iald rfl k1 i0 ?_
  exact wp_icge (tgt := 179) rfl (by decide) wt wf
set_option maxRecDepth 20000 in
theorem b314_113 {n : Nat} {h : q_Hp} {Q : Option Value → q_Hp → Prop} {x0 : Nat} {x1 : Int32} {x2 : Int32} {l3 : Option Value} {v0 : Nat} {v1 : Nat} {v2 : Nat} {v3 : Nat} {v4 : Nat} (k0 : q_ok h x0 12) (e0 : qR h x0 94 = v0) (e1 : qR h x0 35 = v1) (k1 : q_ok h v1 20) (i0 : q_in ((6 * x1) + x2) (qK h v1).2) (e2 : qR h x0 93 = v2) (e3 : qR h x0 36 = v3) (k2 : q_ok h v3 20) (i1 : q_in ((6 * x1) + x2) (qK h v3).2) (k3 : q_ok h v2 20) (i2 : q_in (qA h v3 (((6 * x1) + x2 : Int32).toNatClampNeg)) (qK h v2).2) (e4 : qR h x0 37 = v4) (k4 : q_ok h v4 20) (i3 : q_in ((6 * x1) + x2) (qK h v4).2) (i4 : q_in (qA h v4 (((6 * x1) + x2 : Int32).toNatClampNeg)) (qK h v2).2) {m : Nat} {P : Int32 → q_Hp → Prop} (hc : q_mI m 313 [.ref x0, .int (qA h v1 (((6 * x1) + x2 : Int32).toNatClampNeg)), .int (qA h v2 ((qA h v3 (((6 * x1) + x2 : Int32).toNatClampNeg) : Int32).toNatClampNeg)), .int (qA h v2 ((qA h v4 (((6 * x1) + x2 : Int32).toNatClampNeg) : Int32).toNatClampNeg)), .int x2, .int 6] h P) (hm : m ≤ n) (w : ∀ (z : Int32) (h1 : q_Hp), P z h1 → q_wp (n + 1) 314 160 [some (.ref x0), some (.int x1), some (.int x2), some (.int ((6 * x1) + x2))] [.int z, .int x2, .ref v0] h1 Q) : q_wp (n + 1) 314 113 [some (.ref x0), some (.int x1), some (.int x2), l3] [] h Q := by
  refine wp_bipush (v := 6) rfl (by decide) ?_
  refine wp_loc rfl rfl ?_
  refine wp_stk rfl rfl rfl ?_
  refine wp_loc rfl rfl ?_
  refine wp_stk rfl rfl rfl ?_
  refine wp_loc rfl rfl ?_
  refine wp_loc rfl rfl ?_
  refine wp_getR rfl rfl rfl rfl k0 e0 ?_
  refine wp_loc rfl rfl ?_
  refine wp_loc rfl rfl ?_
  refine wp_loc rfl rfl ?_
  refine wp_getR rfl rfl rfl rfl k0 e1 ?_
  refine wp_loc rfl rfl ?_
  refine wp_iald rfl k1 i0 ?_
  refine wp_loc rfl rfl ?_
  refine wp_getR rfl rfl rfl rfl k0 e2 ?_
  refine wp_loc rfl rfl ?_
  refine wp_getR rfl rfl rfl rfl k0 e3 ?_
  refine wp_loc rfl rfl ?_
  refine wp_iald rfl k2 i1 ?_
  refine wp_iald rfl k3 i2 ?_
  refine wp_loc rfl rfl ?_
  refine wp_getR rfl rfl rfl rfl k0 e2 ?_
  refine wp_loc rfl rfl ?_
  refine wp_getR rfl rfl rfl rfl k0 e4 ?_
  refine wp_loc rfl rfl ?_
  refine wp_iald rfl k4 i3 ?_
  refine wp_iald rfl k3 i4 ?_
  refine wp_loc rfl rfl ?_
  refine wp_bipush (v := 6) rfl (by decide) ?_
  exact wp_callI (av := [.ref x0, .int (qA h v1 (((6 * x1) + x2 : Int32).toNatClampNeg)), .int (qA h v2 ((qA h v3 (((6 * x1) + x2 : Int32).toNatClampNeg) : Int32).toNatClampNeg)), .int (qA h v2 ((qA h v4 (((6 * x1) + x2 : Int32).toNatClampNeg) : Int32).toNatClampNeg)), .int x2, .int 6]) rfl rfl rfl (by decide) rfl rfl rfl hm hc w
set_option maxRecDepth 20000 in
theorem b314_160 {n : Nat} {h : q_Hp} {Q : Option Value → q_Hp → Prop} {x0 : Nat} {x1 : Int32} {x2 : Int32} {x3 : Int32} {s0 : Int32} {s1 : Int32} {s2 : Nat} {v0 : Nat} (k0 : q_ok h s2 20) (i0 : q_in s1 (qK h s2).2) (k1 : q_ok h x0 12) (e0 : qR h x0 94 = v0) (k2 : q_ok h v0 20) (i1 : q_in x2 (qK h v0).2) (wt : ¬ (qA (q_sA h s2 s1.toNatClampNeg s0) v0 x2.toNatClampNeg) = (-1) → q_wp n 314 173 [some (.ref x0), some (.int x1), some (.int x2), some (.int x3)] [] (q_sA h s2 s1.toNatClampNeg s0) Q) (wf : (qA (q_sA h s2 s1.toNatClampNeg s0) v0 x2.toNatClampNeg) = (-1) → q_wp n 314 171 [some (.ref x0), some (.int x1), some (.int x2), some (.int x3)] [] (q_sA h s2 s1.toNatClampNeg s0) Q) : q_wp n 314 160 [some (.ref x0), some (.int x1), some (.int x2), some (.int x3)] [.int s0, .int s1, .ref s2] h Q := by
  refine wp_iast rfl k0 i0 ?_
  refine wp_loc rfl rfl ?_
  refine wp_getR rfl rfl rfl rfl k1 e0 ?_
  refine wp_loc rfl rfl ?_
  refine wp_iald rfl k2 i1 ?_
  refine wp_iconst (v := (-1)) rfl (by decide) ?_
  exact wp_icne (tgt := 173) rfl (by decide) wt wf
set_option maxRecDepth 20000 in
theorem b314_171 {n : Nat} {h : q_Hp} {Q : Option Value → q_Hp → Prop} {x0 : Nat} {x1 : Int32} {x2 : Int32} {x3 : Int32} (q : Q (some (.int 0)) h) : q_wp n 314 171 [some (.ref x0), some (.int x1), some (.int x2), some (.int x3)] [] h Q := by
  refine wp_iconst (v := 0) rfl (by decide) ?_
  exact wp_ret (r := some (.int 0)) rfl rfl q
set_option maxRecDepth 20000 in
theorem b314_173 {n : Nat} {h : q_Hp} {Q : Option Value → q_Hp → Prop} {x0 : Nat} {x1 : Int32} {x2 : Int32} {x3 : Int32} (w : q_wp n 314 103 [some (.ref x0), some (.int x1), some (.int (x2 + 1)), some (.int x3)] [] h Q) : q_wp n 314 173 [some (.ref x0), some (.int x1), some (.int x2), some (.int x3)] [] h Q := by
  refine wp_iinc (v := 1) rfl rfl (by decide) rfl ?_
  refine wp_goto (tgt := 103) rfl (by decide) ?_
  exact w
set_option maxRecDepth 20000 in
theorem b314_179 {n : Nat} {h : q_Hp} {Q : Option Value → q_Hp → Prop} {x0 : Nat} {x1 : Int32} {x2 : Int32} {l3 : Option Value} (w : q_wp n 314 183 [some (.ref x0), some (.int x1), some (.int (4 * x1)), l3] [] h Q) : q_wp n 314 179 [some (.ref x0), some (.int x1), some (.int x2), l3] [] h Q := by
  refine wp_iconst (v := 4) rfl (by decide) ?_
  refine wp_loc rfl rfl ?_
  refine wp_stk rfl rfl rfl ?_
  refine wp_loc rfl rfl ?_
  exact w
set_option maxRecDepth 20000 in
theorem b314_183 {n : Nat} {h : q_Hp} {Q : Option Value → q_Hp → Prop} {x0 : Nat} {x1 : Int32} {x2 : Int32} {l3 : Option Value} {v0 : Nat} (k0 : q_ok h x0 12) (e0 : qR h x0 44 = v0) (k1 : q_ok h v0 20) (i0 : q_in x1 (qK h v0).2) (wt : ((4 * x1) + (qA h v0 x1.toNatClampNeg)) ≤ x2 → q_wp n 314 213 [some (.ref x0), some (.int x1), some (.int x2), l3] [] h Q) (wf : ¬ ((4 * x1) + (qA h v0 x1.toNatClampNeg)) ≤ x2 → q_wp n 314 197 [some (.ref x0), some (.int x1), some (.int x2), l3] [] h Q) : q_wp n 314 183 [some (.ref x0), some (.int x1), some (.int x2), l3] [] h Q := by
  refine wp_loc rfl rfl ?_
  refine wp_iconst (v := 4) rfl (by decide) ?_
  refine wp_loc rfl rfl ?_
  refine wp_stk rfl rfl rfl ?_
  refine wp_loc rfl rfl ?_
  refine wp_getR rfl rfl rfl rfl k0 e0 ?_
  refine wp_loc rfl rfl ?_
  refine wp_iald rfl k1 i0 ?_
  refine wp_stk rfl rfl rfl ?_
  exact wp_icge (tgt := 213) rfl (by decide) wt wf
set_option maxRecDepth 20000 in
theorem b314_197 {n : Nat} {h : q_Hp} {Q : Option Value → q_Hp → Prop} {x0 : Nat} {x1 : Int32} {x2 : Int32} {l3 : Option Value} {m : Nat} {P : Int32 → q_Hp → Prop} (hc : q_mI m 315 [.ref x0, .int x2] h P) (hm : m ≤ n) (w : ∀ (z : Int32) (h1 : q_Hp), P z h1 → q_wp (n + 1) 314 202 [some (.ref x0), some (.int x1), some (.int x2), l3] [.int z] h1 Q) : q_wp (n + 1) 314 197 [some (.ref x0), some (.int x1), some (.int x2), l3] [] h Q := by
  refine wp_loc rfl rfl ?_
  refine wp_loc rfl rfl ?_
  exact wp_callI (av := [.ref x0, .int x2]) rfl rfl rfl (by decide) rfl rfl rfl hm hc w
set_option maxRecDepth 20000 in
theorem b314_202 {n : Nat} {h : q_Hp} {Q : Option Value → q_Hp → Prop} {x0 : Nat} {x1 : Int32} {x2 : Int32} {l3 : Option Value} {s0 : Int32} (wt : ¬ s0 = 0 → q_wp n 314 207 [some (.ref x0), some (.int x1), some (.int x2), l3] [] h Q) (wf : s0 = 0 → q_wp n 314 205 [some (.ref x0), some (.int x1), some (.int x2), l3] [] h Q) : q_wp n 314 202 [some (.ref x0), some (.int x1), some (.int x2), l3] [.int s0] h Q := by
  exact wp_ifne (tgt := 207) rfl (by decide) wt wf
set_option maxRecDepth 20000 in
theorem b314_205 {n : Nat} {h : q_Hp} {Q : Option Value → q_Hp → Prop} {x0 : Nat} {x1 : Int32} {x2 : Int32} {l3 : Option Value} (q : Q (some (.int 0)) h) : q_wp n 314 205 [some (.ref x0), some (.int x1), some (.int x2), l3] [] h Q := by
  refine wp_iconst (v := 0) rfl (by decide) ?_
  exact wp_ret (r := some (.int 0)) rfl rfl q
set_option maxRecDepth 20000 in
theorem b314_207 {n : Nat} {h : q_Hp} {Q : Option Value → q_Hp → Prop} {x0 : Nat} {x1 : Int32} {x2 : Int32} {l3 : Option Value} (w : q_wp n 314 183 [some (.ref x0), some (.int x1), some (.int (x2 + 1)), l3] [] h Q) : q_wp n 314 207 [some (.ref x0), some (.int x1), some (.int x2), l3] [] h Q := by
  refine wp_iinc (v := 1) rfl rfl (by decide) rfl ?_
  refine wp_goto (tgt := 183) rfl (by decide) ?_
  exact w
set_option maxRecDepth 20000 in
theorem b314_213 {n : Nat} {h : q_Hp} {Q : Option Value → q_Hp → Prop} {x0 : Nat} {x1 : Int32} {x2 : Int32} {l3 : Option Value} (w : q_wp n 314 217 [some (.ref x0), some (.int x1), some (.int (2 * x1)), l3] [] h Q) : q_wp n 314 213 [some (.ref x0), some (.int x1), some (.int x2), l3] [] h Q := by
  refine wp_iconst (v := 2) rfl (by decide) ?_
  refine wp_loc rfl rfl ?_
  refine wp_stk rfl rfl rfl ?_
  refine wp_loc rfl rfl ?_
  exact w
set_option maxRecDepth 20000 in
theorem b314_217 {n : Nat} {h : q_Hp} {Q : Option Value → q_Hp → Prop} {x0 : Nat} {x1 : Int32} {x2 : Int32} {l3 : Option Value} {v0 : Nat} (k0 : q_ok h x0 12) (e0 : qR h x0 38 = v0) (k1 : q_ok h v0 20) (i0 : q_in x1 (qK h v0).2) (wt : ((2 * x1) + (qA h v0 x1.toNatClampNeg)) ≤ x2 → q_wp n 314 248 [some (.ref x0), some (.int x1), some (.int x2), l3] [] h Q) (wf : ¬ ((2 * x1) + (qA h v0 x1.toNatClampNeg)) ≤ x2 → q_wp n 314 231 [some (.ref x0), some (.int x1), some (.int x2), l3] [] h Q) : q_wp n 314 217 [some (.ref x0), some (.int x1), some (.int x2), l3] [] h Q := by
  refine wp_loc rfl rfl ?_
  refine wp_iconst (v := 2) rfl (by decide) ?_
  refine wp_loc rfl rfl ?_
  refine wp_stk rfl rfl rfl ?_
  refine wp_loc rfl rfl ?_
  refine wp_getR rfl rfl rfl rfl k0 e0 ?_
  refine wp_loc rfl rfl ?_
  refine wp_iald rfl k1 i0 ?_
  refine wp_stk rfl rfl rfl ?_
  exact wp_icge (tgt := 248) rfl (by decide) wt wf
set_option maxRecDepth 20000 in
theorem b314_231 {n : Nat} {h : q_Hp} {Q : Option Value → q_Hp → Prop} {x0 : Nat} {x1 : Int32} {x2 : Int32} {l3 : Option Value} {m : Nat} {P : Int32 → q_Hp → Prop} (hc : q_mI m 316 [.ref x0, .int x1, .int x2] h P) (hm : m ≤ n) (w : ∀ (z : Int32) (h1 : q_Hp), P z h1 → q_wp (n + 1) 314 237 [some (.ref x0), some (.int x1), some (.int x2), l3] [.int z] h1 Q) : q_wp (n + 1) 314 231 [some (.ref x0), some (.int x1), some (.int x2), l3] [] h Q := by
  refine wp_loc rfl rfl ?_
  refine wp_loc rfl rfl ?_
  refine wp_loc rfl rfl ?_
  exact wp_callI (av := [.ref x0, .int x1, .int x2]) rfl rfl rfl (by decide) rfl rfl rfl hm hc w
set_option maxRecDepth 20000 in
theorem b314_237 {n : Nat} {h : q_Hp} {Q : Option Value → q_Hp → Prop} {x0 : Nat} {x1 : Int32} {x2 : Int32} {l3 : Option Value} {s0 : Int32} (wt : s0 = 0 → q_wp n 314 242 [some (.ref x0), some (.int x1), some (.int x2), l3] [] h Q) (wf : ¬ s0 = 0 → q_wp n 314 240 [some (.ref x0), some (.int x1), some (.int x2), l3] [] h Q) : q_wp n 314 237 [some (.ref x0), some (.int x1), some (.int x2), l3] [.int s0] h Q := by
  exact wp_ifeq (tgt := 242) rfl (by decide) wt wf
set_option maxRecDepth 20000 in
theorem b314_240 {n : Nat} {h : q_Hp} {Q : Option Value → q_Hp → Prop} {x0 : Nat} {x1 : Int32} {x2 : Int32} {l3 : Option Value} (q : Q (some (.int 0)) h) : q_wp n 314 240 [some (.ref x0), some (.int x1), some (.int x2), l3] [] h Q := by
  refine wp_iconst (v := 0) rfl (by decide) ?_
  exact wp_ret (r := some (.int 0)) rfl rfl q
set_option maxRecDepth 20000 in
theorem b314_242 {n : Nat} {h : q_Hp} {Q : Option Value → q_Hp → Prop} {x0 : Nat} {x1 : Int32} {x2 : Int32} {l3 : Option Value} (w : q_wp n 314 217 [some (.ref x0), some (.int x1), some (.int (x2 + 1)), l3] [] h Q) : q_wp n 314 242 [some (.ref x0), some (.int x1), some (.int x2), l3] [] h Q := by
  refine wp_iinc (v := 1) rfl rfl (by decide) rfl ?_
  refine wp_goto (tgt := 217) rfl (by decide) ?_
  exact w
set_option maxRecDepth 20000 in
theorem b314_248 {n : Nat} {h : q_Hp} {Q : Option Value → q_Hp → Prop} {x0 : Nat} {x1 : Int32} {x2 : Int32} {l3 : Option Value} (w : q_wp n 314 253 [some (.ref x0), some (.int x1), some (.int (8 * x1)), l3] [] h Q) : q_wp n 314 248 [some (.ref x0), some (.int x1), some (.int x2), l3] [] h Q := by
  refine wp_bipush (v := 8) rfl (by decide) ?_
  refine wp_loc rfl rfl ?_
  refine wp_stk rfl rfl rfl ?_
  refine wp_loc rfl rfl ?_
  exact w
set_option maxRecDepth 20000 in
theorem b314_253 {n : Nat} {h : q_Hp} {Q : Option Value → q_Hp → Prop} {x0 : Nat} {x1 : Int32} {x2 : Int32} {l3 : Option Value} {v0 : Nat} (k0 : q_ok h x0 12) (e0 : qR h x0 49 = v0) (k1 : q_ok h v0 20) (i0 : q_in x1 (qK h v0).2) (wt : ((8 * x1) + (qA h v0 x1.toNatClampNeg)) ≤ x2 → q_wp n 314 299 [some (.ref x0), some (.int x1), some (.int x2), l3] [] h Q) (wf : ¬ ((8 * x1) + (qA h v0 x1.toNatClampNeg)) ≤ x2 → q_wp n 314 268 [some (.ref x0), some (.int x1), some (.int x2), l3] [] h Q) : q_wp n 314 253 [some (.ref x0), some (.int x1), some (.int x2), l3] [] h Q := by
  refine wp_loc rfl rfl ?_
  refine wp_bipush (v := 8) rfl (by decide) ?_
  refine wp_loc rfl rfl ?_
  refine wp_stk rfl rfl rfl ?_
  refine wp_loc rfl rfl ?_
  refine wp_getR rfl rfl rfl rfl k0 e0 ?_
  refine wp_loc rfl rfl ?_
  refine wp_iald rfl k1 i0 ?_
  refine wp_stk rfl rfl rfl ?_
  exact wp_icge (tgt := 299) rfl (by decide) wt wf
set_option maxRecDepth 20000 in
theorem b314_268 {n : Nat} {h : q_Hp} {Q : Option Value → q_Hp → Prop} {x0 : Nat} {x1 : Int32} {x2 : Int32} {l3 : Option Value} {v0 : Nat} (k0 : q_ok h x0 12) (e0 : qR h x0 50 = v0) (k1 : q_ok h v0 20) (i0 : q_in x2 (qK h v0).2) (wt : ¬ (qA h v0 x2.toNatClampNeg) = 0 → q_wp n 314 293 [some (.ref x0), some (.int x1), some (.int x2), l3] [] h Q) (wf : (qA h v0 x2.toNatClampNeg) = 0 → q_wp n 314 277 [some (.ref x0), some (.int x1), some (.int x2), l3] [] h Q) : q_wp n 314 268 [some (.ref x0), some (.int x1), some (.int x2), l3] [] h Q := by
  refine wp_loc rfl rfl ?_
  refine wp_getR rfl rfl rfl rfl k0 e0 ?_
  refine wp_loc rfl rfl ?_
  refine wp_iald rfl k1 i0 ?_
  exact wp_ifne (tgt := 293) rfl (by decide) wt wf
set_option maxRecDepth 20000 in
theorem b314_277 {n : Nat} {h : q_Hp} {Q : Option Value → q_Hp → Prop} {x0 : Nat} {x1 : Int32} {x2 : Int32} {l3 : Option Value} {v0 : Nat} (k0 : q_ok h x0 12) (e0 : qR h x0 51 = v0) (k1 : q_ok h v0 20) (i0 : q_in x2 (qK h v0).2) {m : Nat} {P : Int32 → q_Hp → Prop} (hc : q_mI m 317 [.ref x0, .int x1, .int (qA h v0 x2.toNatClampNeg)] h P) (hm : m ≤ n) (w : ∀ (z : Int32) (h1 : q_Hp), P z h1 → q_wp (n + 1) 314 288 [some (.ref x0), some (.int x1), some (.int x2), l3] [.int z] h1 Q) : q_wp (n + 1) 314 277 [some (.ref x0), some (.int x1), some (.int x2), l3] [] h Q := by
  refine wp_loc rfl rfl ?_
  refine wp_loc rfl rfl ?_
  refine wp_loc rfl rfl ?_
  refine wp_getR rfl rfl rfl rfl k0 e0 ?_
  refine wp_loc rfl rfl ?_
  refine wp_iald rfl k1 i0 ?_
  exact wp_callI (av := [.ref x0, .int x1, .int (qA h v0 x2.toNatClampNeg)]) rfl rfl rfl (by decide) rfl rfl rfl hm hc w
set_option maxRecDepth 20000 in
theorem b314_288 {n : Nat} {h : q_Hp} {Q : Option Value → q_Hp → Prop} {x0 : Nat} {x1 : Int32} {x2 : Int32} {l3 : Option Value} {s0 : Int32} (wt : ¬ s0 = 0 → q_wp n 314 293 [some (.ref x0), some (.int x1), some (.int x2), l3] [] h Q) (wf : s0 = 0 → q_wp n 314 291 [some (.ref x0), some (.int x1), some (.int x2), l3] [] h Q) : q_wp n 314 288 [some (.ref x0), some (.int x1), some (.int x2), l3] [.int s0] h Q := by
  exact wp_ifne (tgt := 293) rfl (by decide) wt wf
set_option maxRecDepth 20000 in
theorem b314_291 {n : Nat} {h : q_Hp} {Q : Option Value → q_Hp → Prop} {x0 : Nat} {x1 : Int32} {x2 : Int32} {l3 : Option Value} (q : Q (some (.int 0)) h) : q_wp n 314 291 [some (.ref x0), some (.int x1), some (.int x2), l3] [] h Q := by
  refine wp_iconst (v := 0) rfl (by decide) ?_
  exact wp_ret (r := some (.int 0)) rfl rfl q
set_option maxRecDepth 20000 in
theorem b314_293 {n : Nat} {h : q_Hp} {Q : Option Value → q_Hp → Prop} {x0 : Nat} {x1 : Int32} {x2 : Int32} {l3 : Option Value} (w : q_wp n 314 253 [some (.ref x0), some (.int x1), some (.int (x2 + 1)), l3] [] h Q) : q_wp n 314 293 [some (.ref x0), some (.int x1), some (.int x2), l3] [] h Q := by
  refine wp_iinc (v := 1) rfl rfl (by decide) rfl ?_
  refine wp_goto (tgt := 253) rfl (by decide) ?_
  exact w
set_option maxRecDepth 20000 in
theorem b314_299 {n : Nat} {h : q_Hp} {Q : Option Value → q_Hp → Prop} {x0 : Nat} {x1 : Int32} {x2 : Int32} {l3 : Option Value} (q : Q (some (.int 1)) h) : q_wp n 314 299 [some (.ref x0), some (.int x1), some (.int x2), l3] [] h Q := by
  refine wp_iconst (v := 1) rfl (by decide) ?_
  exact wp_ret (r := some (.int 1)) rfl rfl q
theorem b315_0 {n : Nat} {h : q_Hp} {Q : Option Value → q_Hp → Prop} {x0 : Nat} {x1 : Int32} {v0 : Nat} {v1 : Nat} (k0 : q_ok h x0 12) (e0 : qR h x0 46 = v0) (k1 : q_ok h v0 20) (i0 : q_in x1 (qK h v0).2) (e1 : qR h x0 47 = v1) (k2 : q_ok h v1 20) (i1 : q_in x1 (qK h v1).2) {m : Nat} {P : Int32 → q_Hp → Prop} (hc : q_mI m 312 [.ref x0, .int (qA h v0 x1.toNatClampNeg), .int (qA h v1 x1.toNatClampNeg)] h P) (hm : m ≤ n) (w : ∀ (z : Int32) (h1 : q_Hp), P z h1 → q_wp (n + 1) 315 16 [some (.ref x0), some (.int x1), none, none] [.int z] h1 Q) : q_wp (n + 1) 315 0 [some (.ref x0), some (.int x1), none, none] [] h Q := by
  refine wp_loc rfl rfl ?_
  refine wp_loc rfl rfl ?_
  refine wp_getR rfl rfl rfl rfl k0 e0 ?_
  refine wp_loc rfl rfl ?_
  refine wp_iald rfl k1 i0 ?_
  refine wp_loc rfl rfl ?_
  refine wp_getR rfl rfl rfl rfl k0 e1 ?_
  refine wp_loc rfl rfl ?_
  refine wp_iald rfl k2 i1 ?_
  exact wp_callI (av := [.ref x0, .int (qA h v0 x1.toNatClampNeg), .int (qA h v1 x1.toNatClampNeg)]) rfl rfl rfl (by decide) rfl rfl rfl hm hc w
theorem b315_16 {n : Nat} {h : q_Hp} {Q : Option Value → q_Hp → Prop} {x0 : Nat} {x1 : Int32} {s0 : Int32} (k0 : q_ok h x0 12) (wt : (qI h x0 99) = 0 → q_wp n 315 26 [some (.ref x0), some (.int x1), some (.int s0), none] [] h Q) (wf : ¬ (qI h x0 99) = 0 → q_wp n 315 24 [some (.ref x0), some (.int x1), some (.int s0), none] [] h Q) : q_wp n 315 16 [some (.ref x0), some (.int x1), none, none] [.int s0] h Q := by
  refine wp_loc rfl rfl ?_
  refine wp_loc rfl rfl ?_
  refine wp_getI rfl rfl rfl k0 ?_
  exact wp_ifeq (tgt := 26) rfl (by decide) wt wf
theorem b315_24 {n : Nat} {h : q_Hp} {Q : Option Value → q_Hp → Prop} {x0 : Nat} {x1 : Int32} {x2 : Int32} (q : Q (some (.int 0)) h) : q_wp n 315 24 [some (.ref x0), some (.int x1), some (.int x2), none] [] h Q := by
  refine wp_iconst (v := 0) rfl (by decide) ?_
  exact wp_ret (r := some (.int 0)) rfl rfl q
theorem b315_26 {n : Nat} {h : q_Hp} {Q : Option Value → q_Hp → Prop} {x0 : Nat} {x1 : Int32} {x2 : Int32} {v0 : Nat} {v1 : Nat} (k0 : q_ok h x0 12) (e0 : qR h x0 47 = v0) (k1 : q_ok h v0 20) (i0 : q_in x1 (qK h v0).2) (e1 : qR h x0 48 = v1) (k2 : q_ok h v1 20) (i1 : q_in x1 (qK h v1).2) {m : Nat} {P : Int32 → q_Hp → Prop} (hc : q_mI m 312 [.ref x0, .int (qA h v0 x1.toNatClampNeg), .int (qA h v1 x1.toNatClampNeg)] h P) (hm : m ≤ n) (w : ∀ (z : Int32) (h1 : q_Hp), P z h1 → q_wp (n + 1) 315 42 [some (.ref x0), some (.int x1), some (.int x2), none] [.int z] h1 Q) : q_wp (n + 1) 315 26 [some (.ref x0), some (.int x1), some (.int x2), none] [] h Q := by
  refine wp_loc rfl rfl ?_
  refine wp_loc rfl rfl ?_
  refine wp_getR rfl rfl rfl rfl k0 e0 ?_
  refine wp_loc rfl rfl ?_
  refine wp_iald rfl k1 i0 ?_
  refine wp_loc rfl rfl ?_
  refine wp_getR rfl rfl rfl rfl k0 e1 ?_
  refine wp_loc rfl rfl ?_
  refine wp_iald rfl k2 i1 ?_
  exact wp_callI (av := [.ref x0, .int (qA h v0 x1.toNatClampNeg), .int (qA h v1 x1.toNatClampNeg)]) rfl rfl rfl (by decide) rfl rfl rfl hm hc w
theorem b315_42 {n : Nat} {h : q_Hp} {Q : Option Value → q_Hp → Prop} {x0 : Nat} {x1 : Int32} {x2 : Int32} {s0 : Int32} (k0 : q_ok h x0 12) (wt : (qI h x0 99) = 0 → q_wp n 315 52 [some (.ref x0), some (.int x1), some (.int x2), some (.int s0)] [] h Q) (wf : ¬ (qI h x0 99) = 0 → q_wp n 315 50 [some (.ref x0), some (.int x1), some (.int x2), some (.int s0)] [] h Q) : q_wp n 315 42 [some (.ref x0), some (.int x1), some (.int x2), none] [.int s0] h Q := by
  refine wp_loc rfl rfl ?_
  refine wp_loc rfl rfl ?_
  refine wp_getI rfl rfl rfl k0 ?_
  exact wp_ifeq (tgt := 52) rfl (by decide) wt wf
theorem b315_50 {n : Nat} {h : q_Hp} {Q : Option Value → q_Hp → Prop} {x0 : Nat} {x1 : Int32} {x2 : Int32} {x3 : Int32} (q : Q (some (.int 0)) h) : q_wp n 315 50 [some (.ref x0), some (.int x1), some (.int x2), some (.int x3)] [] h Q := by
  refine wp_iconst (v := 0) rfl (by decide) ?_
  exact wp_ret (r := some (.int 0)) rfl rfl q
theorem b315_52 {n : Nat} {h : q_Hp} {Q : Option Value → q_Hp → Prop} {x0 : Nat} {x1 : Int32} {x2 : Int32} {x3 : Int32} {v0 : Nat} (k0 : q_ok h x0 12) (e0 : qR h x0 45 = v0) (k1 : q_ok h v0 20) (i0 : q_in x1 (qK h v0).2) (w0 : (qA h v0 x1.toNatClampNeg) = 9 → q_wp n 315 84 [some (.ref x0), some (.int x1), some (.int x2), some (.int x3)] [] h Q) (w1 : (qA h v0 x1.toNatClampNeg) = 10 → q_wp n 315 95 [some (.ref x0), some (.int x1), some (.int x2), some (.int x3)] [] h Q) (w2 : (qA h v0 x1.toNatClampNeg) = 11 → q_wp n 315 106 [some (.ref x0), some (.int x1), some (.int x2), some (.int x3)] [] h Q) (wd : ((qA h v0 x1.toNatClampNeg).toInt < 9 ∨ 11 < (qA h v0 x1.toNatClampNeg).toInt) → q_wp n 315 117 [some (.ref x0), some (.int x1), some (.int x2), some (.int x3)] [] h Q) : q_wp n 315 52 [some (.ref x0), some (.int x1), some (.int x2), some (.int x3)] [] h Q := by
  refine wp_loc rfl rfl ?_
  refine wp_getR rfl rfl rfl rfl k0 e0 ?_
  refine wp_loc rfl rfl ?_
  refine wp_iald rfl k1 i0 ?_
  refine wp_tab (dt := 117) (tg := fun j => [84, 95, 106].getD j 0) rfl (by decide) (by decide) (by decide) (fun j hj hx => ?_) wd
  have hj : j < 3 := hj
  match j, hj, hx with
  | 0, _, hx => exact w0 (Int32.toInt_inj.mp hx)
  | 1, _, hx => exact w1 (Int32.toInt_inj.mp hx)
  | 2, _, hx => exact w2 (Int32.toInt_inj.mp hx)
theorem b315_84 {n : Nat} {h : q_Hp} {Q : Option Value → q_Hp → Prop} {x0 : Nat} {x1 : Int32} {x2 : Int32} {x3 : Int32} (wt : ¬ x2 = x3 → q_wp n 315 93 [some (.ref x0), some (.int x1), some (.int x2), some (.int x3)] [] h Q) (wf : x2 = x3 → q_wp n 315 89 [some (.ref x0), some (.int x1), some (.int x2), some (.int x3)] [] h Q) : q_wp n 315 84 [some (.ref x0), some (.int x1), some (.int x2), some (.int x3)] [] h Q := by
  refine wp_loc rfl rfl ?_
  refine wp_loc rfl rfl ?_
  exact wp_icne (tgt := 93) rfl (by decide) wt wf
theorem b315_89 {n : Nat} {h : q_Hp} {Q : Option Value → q_Hp → Prop} {x0 : Nat} {x1 : Int32} {x2 : Int32} {x3 : Int32} (q : Q (some (.int 1)) h) : q_wp n 315 89 [some (.ref x0), some (.int x1), some (.int x2), some (.int x3)] [] h Q := by
  refine wp_iconst (v := 1) rfl (by decide) ?_
  refine wp_goto (tgt := 94) rfl (by decide) ?_
  exact wp_ret (r := some (.int 1)) rfl rfl q
theorem b315_93 {n : Nat} {h : q_Hp} {Q : Option Value → q_Hp → Prop} {x0 : Nat} {x1 : Int32} {x2 : Int32} {x3 : Int32} (q : Q (some (.int 0)) h) : q_wp n 315 93 [some (.ref x0), some (.int x1), some (.int x2), some (.int x3)] [] h Q := by
  refine wp_iconst (v := 0) rfl (by decide) ?_
  exact wp_ret (r := some (.int 0)) rfl rfl q
theorem b315_95 {n : Nat} {h : q_Hp} {Q : Option Value → q_Hp → Prop} {x0 : Nat} {x1 : Int32} {x2 : Int32} {x3 : Int32} (wt : x2 = x3 → q_wp n 315 104 [some (.ref x0), some (.int x1), some (.int x2), some (.int x3)] [] h Q) (wf : ¬ x2 = x3 → q_wp n 315 100 [some (.ref x0), some (.int x1), some (.int x2), some (.int x3)] [] h Q) : q_wp n 315 95 [some (.ref x0), some (.int x1), some (.int x2), some (.int x3)] [] h Q := by
  refine wp_loc rfl rfl ?_
  refine wp_loc rfl rfl ?_
  exact wp_iceq (tgt := 104) rfl (by decide) wt wf
theorem b315_100 {n : Nat} {h : q_Hp} {Q : Option Value → q_Hp → Prop} {x0 : Nat} {x1 : Int32} {x2 : Int32} {x3 : Int32} (q : Q (some (.int 1)) h) : q_wp n 315 100 [some (.ref x0), some (.int x1), some (.int x2), some (.int x3)] [] h Q := by
  refine wp_iconst (v := 1) rfl (by decide) ?_
  refine wp_goto (tgt := 105) rfl (by decide) ?_
  exact wp_ret (r := some (.int 1)) rfl rfl q
theorem b315_104 {n : Nat} {h : q_Hp} {Q : Option Value → q_Hp → Prop} {x0 : Nat} {x1 : Int32} {x2 : Int32} {x3 : Int32} (q : Q (some (.int 0)) h) : q_wp n 315 104 [some (.ref x0), some (.int x1), some (.int x2), some (.int x3)] [] h Q := by
  refine wp_iconst (v := 0) rfl (by decide) ?_
  exact wp_ret (r := some (.int 0)) rfl rfl q
theorem b315_106 {n : Nat} {h : q_Hp} {Q : Option Value → q_Hp → Prop} {x0 : Nat} {x1 : Int32} {x2 : Int32} {x3 : Int32} (wt : x3 ≤ x2 → q_wp n 315 115 [some (.ref x0), some (.int x1), some (.int x2), some (.int x3)] [] h Q) (wf : ¬ x3 ≤ x2 → q_wp n 315 111 [some (.ref x0), some (.int x1), some (.int x2), some (.int x3)] [] h Q) : q_wp n 315 106 [some (.ref x0), some (.int x1), some (.int x2), some (.int x3)] [] h Q := by
  refine wp_loc rfl rfl ?_
  refine wp_loc rfl rfl ?_
  exact wp_icge (tgt := 115) rfl (by decide) wt wf
theorem b315_111 {n : Nat} {h : q_Hp} {Q : Option Value → q_Hp → Prop} {x0 : Nat} {x1 : Int32} {x2 : Int32} {x3 : Int32} (q : Q (some (.int 1)) h) : q_wp n 315 111 [some (.ref x0), some (.int x1), some (.int x2), some (.int x3)] [] h Q := by
  refine wp_iconst (v := 1) rfl (by decide) ?_
  refine wp_goto (tgt := 116) rfl (by decide) ?_
  exact wp_ret (r := some (.int 1)) rfl rfl q
theorem b315_115 {n : Nat} {h : q_Hp} {Q : Option Value → q_Hp → Prop} {x0 : Nat} {x1 : Int32} {x2 : Int32} {x3 : Int32} (q : Q (some (.int 0)) h) : q_wp n 315 115 [some (.ref x0), some (.int x1), some (.int x2), some (.int x3)] [] h Q := by
  refine wp_iconst (v := 0) rfl (by decide) ?_
  exact wp_ret (r := some (.int 0)) rfl rfl q
theorem b315_117 {n : Nat} {h : q_Hp} {Q : Option Value → q_Hp → Prop} {x0 : Nat} {x1 : Int32} {x2 : Int32} {x3 : Int32} (wt : x3 < x2 → q_wp n 315 126 [some (.ref x0), some (.int x1), some (.int x2), some (.int x3)] [] h Q) (wf : ¬ x3 < x2 → q_wp n 315 122 [some (.ref x0), some (.int x1), some (.int x2), some (.int x3)] [] h Q) : q_wp n 315 117 [some (.ref x0), some (.int x1), some (.int x2), some (.int x3)] [] h Q := by
  refine wp_loc rfl rfl ?_
  refine wp_loc rfl rfl ?_
  exact wp_icgt (tgt := 126) rfl (by decide) wt wf
theorem b315_122 {n : Nat} {h : q_Hp} {Q : Option Value → q_Hp → Prop} {x0 : Nat} {x1 : Int32} {x2 : Int32} {x3 : Int32} (q : Q (some (.int 1)) h) : q_wp n 315 122 [some (.ref x0), some (.int x1), some (.int x2), some (.int x3)] [] h Q := by
  refine wp_iconst (v := 1) rfl (by decide) ?_
  refine wp_goto (tgt := 127) rfl (by decide) ?_
  exact wp_ret (r := some (.int 1)) rfl rfl q
theorem b315_126 {n : Nat} {h : q_Hp} {Q : Option Value → q_Hp → Prop} {x0 : Nat} {x1 : Int32} {x2 : Int32} {x3 : Int32} (q : Q (some (.int 0)) h) : q_wp n 315 126 [some (.ref x0), some (.int x1), some (.int x2), some (.int x3)] [] h Q := by
  refine wp_iconst (v := 0) rfl (by decide) ?_
  exact wp_ret (r := some (.int 0)) rfl rfl q
set_option maxRecDepth 20000 in
theorem b316_0 {n : Nat} {h : q_Hp} {Q : Option Value → q_Hp → Prop} {x0 : Nat} {x1 : Int32} {x2 : Int32} {v0 : Nat} (k0 : q_ok h x0 12) (e0 : qR h x0 39 = v0) (k1 : q_ok h v0 20) (i0 : q_in x2 (qK h v0).2) (wt : ¬ (qA h v0 x2.toNatClampNeg) = (-1) → q_wp n 316 14 [some (.ref x0), some (.int x1), some (.int x2), none, none, none, none, none] [] h Q) (wf : (qA h v0 x2.toNatClampNeg) = (-1) → q_wp n 316 10 [some (.ref x0), some (.int x1), some (.int x2), none, none, none, none, none] [] h Q) : q_wp n 316 0 [some (.ref x0), some (.int x1), some (.int x2), none, none, none, none, none] [] h Q := by
  refine wp_loc rfl rfl ?_
  refine wp_getR rfl rfl rfl rfl k0 e0 ?_
  refine wp_loc rfl rfl ?_
  refine wp_iald rfl k1 i0 ?_
  refine wp_iconst (v := (-1)) rfl (by decide) ?_
  exact wp_icne (tgt := 14) rfl (by decide) wt wf
set_option maxRecDepth 20000 in
theorem b316_10 {n : Nat} {h : q_Hp} {Q : Option Value → q_Hp → Prop} {x0 : Nat} {x1 : Int32} {x2 : Int32} (w : q_wp n 316 16 [some (.ref x0), some (.int x1), some (.int x2), none, none, none, none, none] [.int 1] h Q) : q_wp n 316 10 [some (.ref x0), some (.int x1), some (.int x2), none, none, none, none, none] [] h Q := by
  refine wp_iconst (v := 1) rfl (by decide) ?_
  refine wp_goto (tgt := 16) rfl (by decide) ?_
  exact w
set_option maxRecDepth 20000 in
theorem b316_14 {n : Nat} {h : q_Hp} {Q : Option Value → q_Hp → Prop} {x0 : Nat} {x1 : Int32} {x2 : Int32} (w : q_wp n 316 16 [some (.ref x0), some (.int x1), some (.int x2), none, none, none, none, none] [.int 12] h Q) : q_wp n 316 14 [some (.ref x0), some (.int x1), some (.int x2), none, none, none, none, none] [] h Q := by
  refine wp_bipush (v := 12) rfl (by decide) ?_
  exact w
set_option maxRecDepth 20000 in
theorem b316_16 {n : Nat} {h : q_Hp} {Q : Option Value → q_Hp → Prop} {x0 : Nat} {x1 : Int32} {x2 : Int32} {s0 : Int32} (w : q_wp n 316 20 [some (.ref x0), some (.int x1), some (.int x2), some (.int s0), some (.int 0), none, none, none] [] h Q) : q_wp n 316 16 [some (.ref x0), some (.int x1), some (.int x2), none, none, none, none, none] [.int s0] h Q := by
  refine wp_loc rfl rfl ?_
  refine wp_iconst (v := 0) rfl (by decide) ?_
  refine wp_loc rfl rfl ?_
  exact w
set_option maxRecDepth 20000 in
theorem b316_20 {n : Nat} {h : q_Hp} {Q : Option Value → q_Hp → Prop} {x0 : Nat} {x1 : Int32} {x2 : Int32} {x3 : Int32} {x4 : Int32} {l5 : Option Value} {l6 : Option Value} {l7 : Option Value} (wt : x3 ≤ x4 → q_wp n 316 203 [some (.ref x0), some (.int x1), some (.int x2), some (.int x3), some (.int x4), l5, l6, l7] [] h Q) (wf : ¬ x3 ≤ x4 → q_wp n 316 26 [some (.ref x0), some (.int x1), some (.int x2), some (.int x3), some (.int x4), l5, l6, l7] [] h Q) : q_wp n 316 20 [some (.ref x0), some (.int x1), some (.int x2), some (.int x3), some (.int x4), l5, l6, l7] [] h Q := by
  refine wp_loc rfl rfl ?_
  refine wp_loc rfl rfl ?_
  exact wp_icge (tgt := 203) rfl (by decide) wt wf
set_option maxRecDepth 20000 in
theorem b316_26 {n : Nat} {h : q_Hp} {Q : Option Value → q_Hp → Prop} {x0 : Nat} {x1 : Int32} {x2 : Int32} {x3 : Int32} {x4 : Int32} {l5 : Option Value} {l6 : Option Value} {l7 : Option Value} {v0 : Nat} (k0 : q_ok h x0 12) (e0 : qR h x0 39 = v0) (k1 : q_ok h v0 20) (i0 : q_in x2 (qK h v0).2) (wt : (qA h v0 x2.toNatClampNeg) = (-1) → q_wp n 316 69 [some (.ref x0), some (.int x1), some (.int x2), some (.int x3), some (.int x4), l5, l6, l7] [] h Q) (wf : ¬ (qA h v0 x2.toNatClampNeg) = (-1) → q_wp n 316 36 [some (.ref x0), some (.int x1), some (.int x2), some (.int x3), some (.int x4), l5, l6, l7] [] h Q) : q_wp n 316 26 [some (.ref x0), some (.int x1), some (.int x2), some (.int x3), some (.int x4), l5, l6, l7] [] h Q := by
  refine wp_loc rfl rfl ?_
  refine wp_getR rfl rfl rfl rfl k0 e0 ?_
  refine wp_loc rfl rfl ?_
  refine wp_iald rfl k1 i0 ?_
  refine wp_iconst (v := (-1)) rfl (by decide) ?_
  exact wp_iceq (tgt := 69) rfl (by decide) wt wf
set_option maxRecDepth 20000 in
theorem b316_36 {n : Nat} {h : q_Hp} {Q : Option Value → q_Hp → Prop} {x0 : Nat} {x1 : Int32} {x2 : Int32} {x3 : Int32} {x4 : Int32} {l5 : Option Value} {l6 : Option Value} {l7 : Option Value} {m : Nat} {P : Int32 → q_Hp → Prop} (hc : q_mI m 294 [.ref x0, .int x4] h P) (hm : m ≤ n) (w : ∀ (z : Int32) (h1 : q_Hp), P z h1 → q_wp (n + 1) 316 42 [some (.ref x0), some (.int x1), some (.int x2), some (.int x3), some (.int x4), l5, l6, l7] [.int z] h1 Q) : q_wp (n + 1) 316 36 [some (.ref x0), some (.int x1), some (.int x2), some (.int x3), some (.int x4), l5, l6, l7] [] h Q := by
  refine wp_loc rfl rfl ?_
  refine wp_loc rfl rfl ?_
  exact wp_callI (av := [.ref x0, .int x4]) rfl rfl rfl (by decide) rfl rfl rfl hm hc w
set_option maxRecDepth 20000 in
theorem b316_42 {n : Nat} {h : q_Hp} {Q : Option Value → q_Hp → Prop} {x0 : Nat} {x1 : Int32} {x2 : Int32} {x3 : Int32} {x4 : Int32} {l5 : Option Value} {l6 : Option Value} {l7 : Option Value} {s0 : Int32} (wt : s0 = 0 → q_wp n 316 197 [some (.ref x0), some (.int x1), some (.int x2), some (.int x3), some (.int x4), l5, l6, l7] [] h Q) (wf : ¬ s0 = 0 → q_wp n 316 45 [some (.ref x0), some (.int x1), some (.int x2), some (.int x3), some (.int x4), l5, l6, l7] [] h Q) : q_wp n 316 42 [some (.ref x0), some (.int x1), some (.int x2), some (.int x3), some (.int x4), l5, l6, l7] [.int s0] h Q := by
  exact wp_ifeq (tgt := 197) rfl (by decide) wt wf
set_option maxRecDepth 20000 in
theorem b316_45 {n : Nat} {h : q_Hp} {Q : Option Value → q_Hp → Prop} {x0 : Nat} {x1 : Int32} {x2 : Int32} {x3 : Int32} {x4 : Int32} {l5 : Option Value} {l6 : Option Value} {l7 : Option Value} {v0 : Nat} {v1 : Nat} (k0 : q_ok h x0 12) (e0 : qR h x0 87 = v0) (k1 : q_ok h v0 20) (i0 : q_in x4 (qK h v0).2) (e1 : qR h x0 39 = v1) (k2 : q_ok h v1 20) (i1 : q_in x2 (qK h v1).2) {m : Nat} {P : Int32 → q_Hp → Prop} (hc : q_mI m 259 [.ref x0, .int 0, .int (qA h v0 x4.toNatClampNeg), .int (qA h v1 x2.toNatClampNeg)] h P) (hm : m ≤ n) (w : ∀ (z : Int32) (h1 : q_Hp), P z h1 → q_wp (n + 1) 316 63 [some (.ref x0), some (.int x1), some (.int x2), some (.int x3), some (.int x4), l5, l6, l7] [.int z] h1 Q) : q_wp (n + 1) 316 45 [some (.ref x0), some (.int x1), some (.int x2), some (.int x3), some (.int x4), l5, l6, l7] [] h Q := by
  refine wp_loc rfl rfl ?_
  refine wp_iconst (v := 0) rfl (by decide) ?_
  refine wp_loc rfl rfl ?_
  refine wp_getR rfl rfl rfl rfl k0 e0 ?_
  refine wp_loc rfl rfl ?_
  refine wp_iald rfl k1 i0 ?_
  refine wp_loc rfl rfl ?_
  refine wp_getR rfl rfl rfl rfl k0 e1 ?_
  refine wp_loc rfl rfl ?_
  refine wp_iald rfl k2 i1 ?_
  exact wp_callI (av := [.ref x0, .int 0, .int (qA h v0 x4.toNatClampNeg), .int (qA h v1 x2.toNatClampNeg)]) rfl rfl rfl (by decide) rfl rfl rfl hm hc w
set_option maxRecDepth 20000 in
theorem b316_63 {n : Nat} {h : q_Hp} {Q : Option Value → q_Hp → Prop} {x0 : Nat} {x1 : Int32} {x2 : Int32} {x3 : Int32} {x4 : Int32} {l5 : Option Value} {l6 : Option Value} {l7 : Option Value} {s0 : Int32} (wt : ¬ s0 = 0 → q_wp n 316 69 [some (.ref x0), some (.int x1), some (.int x2), some (.int x3), some (.int x4), l5, l6, l7] [] h Q) (wf : s0 = 0 → q_wp n 316 66 [some (.ref x0), some (.int x1), some (.int x2), some (.int x3), some (.int x4), l5, l6, l7] [] h Q) : q_wp n 316 63 [some (.ref x0), some (.int x1), some (.int x2), some (.int x3), some (.int x4), l5, l6, l7] [.int s0] h Q := by
  exact wp_ifne (tgt := 69) rfl (by decide) wt wf
set_option maxRecDepth 20000 in
theorem b316_66 {n : Nat} {h : q_Hp} {Q : Option Value → q_Hp → Prop} {x0 : Nat} {x1 : Int32} {x2 : Int32} {x3 : Int32} {x4 : Int32} {l5 : Option Value} {l6 : Option Value} {l7 : Option Value} (w : q_wp n 316 197 [some (.ref x0), some (.int x1), some (.int x2), some (.int x3), some (.int x4), l5, l6, l7] [] h Q) : q_wp n 316 66 [some (.ref x0), some (.int x1), some (.int x2), some (.int x3), some (.int x4), l5, l6, l7] [] h Q := by
  refine wp_goto (tgt := 197) rfl (by decide) ?_
  exact w
set_option maxRecDepth 20000 in
theorem b316_69 {n : Nat} {h : q_Hp} {Q : Option Value → q_Hp → Prop} {x0 : Nat} {x1 : Int32} {x2 : Int32} {x3 : Int32} {x4 : Int32} {l5 : Option Value} {l6 : Option Value} {l7 : Option Value} {v0 : Nat} (k0 : q_ok h x0 12) (e0 : qR h x0 93 = v0) (k1 : q_ok h v0 20) (i0 : q_in 4 (qK h v0).2) (w : q_wp n 316 83 [some (.ref x0), some (.int x1), some (.int x2), some (.int x3), some (.int x4), some (.int 1), some (.int 0), l7] [] (q_sA h v0 ((4 : Int32).toNatClampNeg) x4) Q) : q_wp n 316 69 [some (.ref x0), some (.int x1), some (.int x2), some (.int x3), some (.int x4), l5, l6, l7] [] h Q := by
  refine wp_loc rfl rfl ?_
  refine wp_getR rfl rfl rfl rfl k0 e0 ?_
  refine wp_iconst (v := 4) rfl (by decide) ?_
  refine wp_loc rfl rfl ?_
  refine wp_iast rfl k1 i0 ?_
  refine wp_iconst (v := 1) rfl (by decide) ?_
  refine wp_loc rfl rfl ?_
  refine wp_iconst (v := 0) rfl (by decide) ?_
  refine wp_loc rfl rfl ?_
  exact w
set_option maxRecDepth 20000 in
theorem b316_83 {n : Nat} {h : q_Hp} {Q : Option Value → q_Hp → Prop} {x0 : Nat} {x1 : Int32} {x2 : Int32} {x3 : Int32} {x4 : Int32} {x5 : Int32} {x6 : Int32} {l7 : Option Value} {v0 : Nat} (k0 : q_ok h x0 12) (e0 : qR h x0 40 = v0) (k1 : q_ok h v0 20) (i0 : q_in x2 (qK h v0).2) (wt : (qA h v0 x2.toNatClampNeg) ≤ x6 → q_wp n 316 190 [some (.ref x0), some (.int x1), some (.int x2), some (.int x3), some (.int x4), some (.int x5), some (.int x6), l7] [] h Q) (wf : ¬ (qA h v0 x2.toNatClampNeg) ≤ x6 → q_wp n 316 94 [some (.ref x0), some (.int x1), some (.int x2), some (.int x3), some (.int x4), some (.int x5), some (.int x6), l7] [] h Q) : q_wp n 316 83 [some (.ref x0), some (.int x1), some (.int x2), some (.int x3), some (.int x4), some (.int x5), some (.int x6), l7] [] h Q := by
  refine wp_loc rfl rfl ?_
  refine wp_loc rfl rfl ?_
  refine wp_getR rfl rfl rfl rfl k0 e0 ?_
  refine wp_loc rfl rfl ?_
  refine wp_iald rfl k1 i0 ?_
  exact wp_icge (tgt := 190) rfl (by decide) wt wf
set_option maxRecDepth 20000 in
theorem b316_94 {n : Nat} {h : q_Hp} {Q : Option Value → q_Hp → Prop} {x0 : Nat} {x1 : Int32} {x2 : Int32} {x3 : Int32} {x4 : Int32} {x5 : Int32} {x6 : Int32} {l7 : Option Value} (wt : x5 = 0 → q_wp n 316 190 [some (.ref x0), some (.int x1), some (.int x2), some (.int x3), some (.int x4), some (.int x5), some (.int x6), l7] [] h Q) (wf : ¬ x5 = 0 → q_wp n 316 99 [some (.ref x0), some (.int x1), some (.int x2), some (.int x3), some (.int x4), some (.int x5), some (.int x6), l7] [] h Q) : q_wp n 316 94 [some (.ref x0), some (.int x1), some (.int x2), some (.int x3), some (.int x4), some (.int x5), some (.int x6), l7] [] h Q := by
  refine wp_loc rfl rfl ?_
  exact wp_ifeq (tgt := 190) rfl (by decide) wt wf
set_option maxRecDepth 20000 in
theorem b316_99 {n : Nat} {h : q_Hp} {Q : Option Value → q_Hp → Prop} {x0 : Nat} {x1 : Int32} {x2 : Int32} {x3 : Int32} {x4 : Int32} {x5 : Int32} {x6 : Int32} {l7 : Option Value} {v0 : Nat} {v1 : Nat} {v2 : Nat} {v3 : Nat} {v4 : Nat} {v5 : Nat} (k0 : q_ok h x0 12) (e0 : qR h x0 94 = v0) (e1 : qR h x0 41 = v1) (k1 : q_ok h v1 20) (i0 : q_in ((3 * x2) + x6) (qK h v1).2) (e2 : qR h x0 93 = v2) (e3 : qR h x0 42 = v3) (k2 : q_ok h v3 20) (i1 : q_in ((3 * x2) + x6) (qK h v3).2) (k3 : q_ok h v2 20) (i2 : q_in (qA h v3 (((3 * x2) + x6 : Int32).toNatClampNeg)) (qK h v2).2) (e4 : qR h x0 43 = v4) (k4 : q_ok h v4 20) (i3 : q_in ((3 * x2) + x6) (qK h v4).2) (i4 : q_in (qA h v4 (((3 * x2) + x6 : Int32).toNatClampNeg)) (qK h v2).2) (e5 : qR h x0 32 = v5) (k5 : q_ok h v5 20) (i5 : q_in x1 (qK h v5).2) {m : Nat} {P : Int32 → q_Hp → Prop} (hc : q_mI m 313 [.ref x0, .int (qA h v1 (((3 * x2) + x6 : Int32).toNatClampNeg)), .int (qA h v2 ((qA h v3 (((3 * x2) + x6 : Int32).toNatClampNeg) : Int32).toNatClampNeg)), .int (qA h v2 ((qA h v4 (((3 * x2) + x6 : Int32).toNatClampNeg) : Int32).toNatClampNeg)), .int (qA h v5 x1.toNatClampNeg), .int (6 + x6)] h P) (hm : m ≤ n) (w : ∀ (z : Int32) (h1 : q_Hp), P z h1 → q_wp (n + 1) 316 162 [some (.ref x0), some (.int x1), some (.int x2), some (.int x3), some (.int x4), some (.int x5), some (.int x6), some (.int ((3 * x2) + x6))] [.int z, .int (6 + x6), .ref v0] h1 Q) : q_wp (n + 1) 316 99 [some (.ref x0), some (.int x1), some (.int x2), some (.int x3), some (.int x4), some (.int x5), some (.int x6), l7] [] h Q := by
  refine wp_iconst (v := 3) rfl (by decide) ?_
  refine wp_loc rfl rfl ?_
  refine wp_stk rfl rfl rfl ?_
  refine wp_loc rfl rfl ?_
  refine wp_stk rfl rfl rfl ?_
  refine wp_loc rfl rfl ?_
  refine wp_loc rfl rfl ?_
  refine wp_getR rfl rfl rfl rfl k0 e0 ?_
  refine wp_bipush (v := 6) rfl (by decide) ?_
  refine wp_loc rfl rfl ?_
  refine wp_stk rfl rfl rfl ?_
  refine wp_loc rfl rfl ?_
  refine wp_loc rfl rfl ?_
  refine wp_getR rfl rfl rfl rfl k0 e1 ?_
  refine wp_loc rfl rfl ?_
  refine wp_iald rfl k1 i0 ?_
  refine wp_loc rfl rfl ?_
  refine wp_getR rfl rfl rfl rfl k0 e2 ?_
  refine wp_loc rfl rfl ?_
  refine wp_getR rfl rfl rfl rfl k0 e3 ?_
  refine wp_loc rfl rfl ?_
  refine wp_iald rfl k2 i1 ?_
  refine wp_iald rfl k3 i2 ?_
  refine wp_loc rfl rfl ?_
  refine wp_getR rfl rfl rfl rfl k0 e2 ?_
  refine wp_loc rfl rfl ?_
  refine wp_getR rfl rfl rfl rfl k0 e4 ?_
  refine wp_loc rfl rfl ?_
  refine wp_iald rfl k4 i3 ?_
  refine wp_iald rfl k3 i4 ?_
  refine wp_loc rfl rfl ?_
  refine wp_getR rfl rfl rfl rfl k0 e5 ?_
  refine wp_loc rfl rfl ?_
  refine wp_iald rfl k5 i5 ?_
  refine wp_bipush (v := 6) rfl (by decide) ?_
  refine wp_loc rfl rfl ?_
  refine wp_stk rfl rfl rfl ?_
  exact wp_callI (av := [.ref x0, .int (qA h v1 (((3 * x2) + x6 : Int32).toNatClampNeg)), .int (qA h v2 ((qA h v3 (((3 * x2) + x6 : Int32).toNatClampNeg) : Int32).toNatClampNeg)), .int (qA h v2 ((qA h v4 (((3 * x2) + x6 : Int32).toNatClampNeg) : Int32).toNatClampNeg)), .int (qA h v5 x1.toNatClampNeg), .int (6 + x6)]) rfl rfl rfl (by decide) rfl rfl rfl hm hc w
set_option maxRecDepth 20000 in
theorem b316_162 {n : Nat} {h : q_Hp} {Q : Option Value → q_Hp → Prop} {x0 : Nat} {x1 : Int32} {x2 : Int32} {x3 : Int32} {x4 : Int32} {x5 : Int32} {x6 : Int32} {x7 : Int32} {s0 : Int32} {s1 : Int32} {s2 : Nat} {v0 : Nat} (k0 : q_ok h s2 20) (i0 : q_in s1 (qK h s2).2) (k1 : q_ok h x0 12) (e0 : qR h x0 94 = v0) (k2 : q_ok h v0 20) (i1 : q_in (6 + x6) (qK h v0).2) (wt : (qA (q_sA h s2 s1.toNatClampNeg s0) v0 ((6 + x6 : Int32).toNatClampNeg)) = (-1) → q_wp n 316 181 [some (.ref x0), some (.int x1), some (.int x2), some (.int x3), some (.int x4), some (.int x5), some (.int x6), some (.int x7)] [] (q_sA h s2 s1.toNatClampNeg s0) Q) (wf : ¬ (qA (q_sA h s2 s1.toNatClampNeg s0) v0 ((6 + x6 : Int32).toNatClampNeg)) = (-1) → q_wp n 316 177 [some (.ref x0), some (.int x1), some (.int x2), some (.int x3), some (.int x4), some (.int x5), some (.int x6), some (.int x7)] [] (q_sA h s2 s1.toNatClampNeg s0) Q) : q_wp n 316 162 [some (.ref x0), some (.int x1), some (.int x2), some (.int x3), some (.int x4), some (.int x5), some (.int x6), some (.int x7)] [.int s0, .int s1, .ref s2] h Q := by
  refine wp_iast rfl k0 i0 ?_
  refine wp_loc rfl rfl ?_
  refine wp_getR rfl rfl rfl rfl k1 e0 ?_
  refine wp_bipush (v := 6) rfl (by decide) ?_
  refine wp_loc rfl rfl ?_
  refine wp_stk rfl rfl rfl ?_
  refine wp_iald rfl k2 i1 ?_
  refine wp_iconst (v := (-1)) rfl (by decide) ?_
  exact wp_iceq (tgt := 181) rfl (by decide) wt wf
set_option maxRecDepth 20000 in
theorem b316_177 {n : Nat} {h : q_Hp} {Q : Option Value → q_Hp → Prop} {x0 : Nat} {x1 : Int32} {x2 : Int32} {x3 : Int32} {x4 : Int32} {x5 : Int32} {x6 : Int32} {x7 : Int32} (w : q_wp n 316 182 [some (.ref x0), some (.int x1), some (.int x2), some (.int x3), some (.int x4), some (.int x5), some (.int x6), some (.int x7)] [.int 1] h Q) : q_wp n 316 177 [some (.ref x0), some (.int x1), some (.int x2), some (.int x3), some (.int x4), some (.int x5), some (.int x6), some (.int x7)] [] h Q := by
  refine wp_iconst (v := 1) rfl (by decide) ?_
  refine wp_goto (tgt := 182) rfl (by decide) ?_
  exact w
set_option maxRecDepth 20000 in
theorem b316_181 {n : Nat} {h : q_Hp} {Q : Option Value → q_Hp → Prop} {x0 : Nat} {x1 : Int32} {x2 : Int32} {x3 : Int32} {x4 : Int32} {x5 : Int32} {x6 : Int32} {x7 : Int32} (w : q_wp n 316 182 [some (.ref x0), some (.int x1), some (.int x2), some (.int x3), some (.int x4), some (.int x5), some (.int x6), some (.int x7)] [.int 0] h Q) : q_wp n 316 181 [some (.ref x0), some (.int x1), some (.int x2), some (.int x3), some (.int x4), some (.int x5), some (.int x6), some (.int x7)] [] h Q := by
  refine wp_iconst (v := 0) rfl (by decide) ?_
  exact w
set_option maxRecDepth 20000 in
theorem b316_182 {n : Nat} {h : q_Hp} {Q : Option Value → q_Hp → Prop} {x0 : Nat} {x1 : Int32} {x2 : Int32} {x3 : Int32} {x4 : Int32} {x5 : Int32} {x6 : Int32} {x7 : Int32} {s0 : Int32} (w : q_wp n 316 83 [some (.ref x0), some (.int x1), some (.int x2), some (.int x3), some (.int x4), some (.int s0), some (.int (x6 + 1)), some (.int x7)] [] h Q) : q_wp n 316 182 [some (.ref x0), some (.int x1), some (.int x2), some (.int x3), some (.int x4), some (.int x5), some (.int x6), some (.int x7)] [.int s0] h Q := by
  refine wp_loc rfl rfl ?_
  refine wp_iinc (v := 1) rfl rfl (by decide) rfl ?_
  refine wp_goto (tgt := 83) rfl (by decide) ?_
  exact w
set_option maxRecDepth 20000 in
theorem b316_190 {n : Nat} {h : q_Hp} {Q : Option Value → q_Hp → Prop} {x0 : Nat} {x1 : Int32} {x2 : Int32} {x3 : Int32} {x4 : Int32} {x5 : Int32} {x6 : Int32} {l7 : Option Value} (wt : x5 = 0 → q_wp n 316 197 [some (.ref x0), some (.int x1), some (.int x2), some (.int x3), some (.int x4), some (.int x5), some (.int x6), l7] [] h Q) (wf : ¬ x5 = 0 → q_wp n 316 195 [some (.ref x0), some (.int x1), some (.int x2), some (.int x3), some (.int x4), some (.int x5), some (.int x6), l7] [] h Q) : q_wp n 316 190 [some (.ref x0), some (.int x1), some (.int x2), some (.int x3), some (.int x4), some (.int x5), some (.int x6), l7] [] h Q := by
  refine wp_loc rfl rfl ?_
  exact wp_ifeq (tgt := 197) rfl (by decide) wt wf
set_option maxRecDepth 20000 in
theorem b316_195 {n : Nat} {h : q_Hp} {Q : Option Value → q_Hp → Prop} {x0 : Nat} {x1 : Int32} {x2 : Int32} {x3 : Int32} {x4 : Int32} {x5 : Int32} {x6 : Int32} {l7 : Option Value} (q : Q (some (.int 1)) h) : q_wp n 316 195 [some (.ref x0), some (.int x1), some (.int x2), some (.int x3), some (.int x4), some (.int x5), some (.int x6), l7] [] h Q := by
  refine wp_iconst (v := 1) rfl (by decide) ?_
  exact wp_ret (r := some (.int 1)) rfl rfl q
set_option maxRecDepth 20000 in
theorem b316_197 {n : Nat} {h : q_Hp} {Q : Option Value → q_Hp → Prop} {x0 : Nat} {x1 : Int32} {x2 : Int32} {x3 : Int32} {x4 : Int32} {l5 : Option Value} {l6 : Option Value} {l7 : Option Value} (w : q_wp n 316 20 [some (.ref x0), some (.int x1), some (.int x2), some (.int x3), some (.int (x4 + 1)), l5, l6, l7] [] h Q) : q_wp n 316 197 [some (.ref x0), some (.int x1), some (.int x2), some (.int x3), some (.int x4), l5, l6, l7] [] h Q := by
  refine wp_iinc (v := 1) rfl rfl (by decide) rfl ?_
  refine wp_goto (tgt := 20) rfl (by decide) ?_
  exact w
set_option maxRecDepth 20000 in
theorem b316_203 {n : Nat} {h : q_Hp} {Q : Option Value → q_Hp → Prop} {x0 : Nat} {x1 : Int32} {x2 : Int32} {x3 : Int32} {x4 : Int32} {l5 : Option Value} {l6 : Option Value} {l7 : Option Value} (q : Q (some (.int 0)) h) : q_wp n 316 203 [some (.ref x0), some (.int x1), some (.int x2), some (.int x3), some (.int x4), l5, l6, l7] [] h Q := by
  refine wp_iconst (v := 0) rfl (by decide) ?_
  exact wp_ret (r := some (.int 0)) rfl rfl q
theorem b317_0 {n : Nat} {h : q_Hp} {Q : Option Value → q_Hp → Prop} {x0 : Nat} {x1 : Int32} {x2 : Int32} (w : q_wp n 317 2 [some (.ref x0), some (.int x1), some (.int x2), some (.int 0), none, none] [] h Q) : q_wp n 317 0 [some (.ref x0), some (.int x1), some (.int x2), none, none, none] [] h Q := by
  refine wp_iconst (v := 0) rfl (by decide) ?_
  refine wp_loc rfl rfl ?_
  exact w
theorem b317_2 {n : Nat} {h : q_Hp} {Q : Option Value → q_Hp → Prop} {x0 : Nat} {x1 : Int32} {x2 : Int32} {x3 : Int32} {v0 : Nat} (k0 : q_ok h x0 12) (e0 : qR h x0 31 = v0) (k1 : q_ok h v0 20) (i0 : q_in x1 (qK h v0).2) (wt : (qA h v0 x1.toNatClampNeg) ≤ x3 → q_wp n 317 40 [some (.ref x0), some (.int x1), some (.int x2), some (.int x3), none, none] [] h Q) (wf : ¬ (qA h v0 x1.toNatClampNeg) ≤ x3 → q_wp n 317 12 [some (.ref x0), some (.int x1), some (.int x2), some (.int x3), none, none] [] h Q) : q_wp n 317 2 [some (.ref x0), some (.int x1), some (.int x2), some (.int x3), none, none] [] h Q := by
  refine wp_loc rfl rfl ?_
  refine wp_loc rfl rfl ?_
  refine wp_getR rfl rfl rfl rfl k0 e0 ?_
  refine wp_loc rfl rfl ?_
  refine wp_iald rfl k1 i0 ?_
  exact wp_icge (tgt := 40) rfl (by decide) wt wf
theorem b317_12 {n : Nat} {h : q_Hp} {Q : Option Value → q_Hp → Prop} {x0 : Nat} {x1 : Int32} {x2 : Int32} {x3 : Int32} (wt : x3 = x2 → q_wp n 317 34 [some (.ref x0), some (.int x1), some (.int x2), some (.int x3), none, none] [] h Q) (wf : ¬ x3 = x2 → q_wp n 317 17 [some (.ref x0), some (.int x1), some (.int x2), some (.int x3), none, none] [] h Q) : q_wp n 317 12 [some (.ref x0), some (.int x1), some (.int x2), some (.int x3), none, none] [] h Q := by
  refine wp_loc rfl rfl ?_
  refine wp_loc rfl rfl ?_
  exact wp_iceq (tgt := 34) rfl (by decide) wt wf
theorem b317_17 {n : Nat} {h : q_Hp} {Q : Option Value → q_Hp → Prop} {x0 : Nat} {x1 : Int32} {x2 : Int32} {x3 : Int32} {v0 : Nat} (k0 : q_ok h x0 12) (e0 : qR h x0 93 = v0) (k1 : q_ok h v0 20) (i0 : q_in x3 (qK h v0).2) (i1 : q_in x2 (qK h v0).2) (wt : ¬ (qA h v0 x3.toNatClampNeg) = (qA h v0 x2.toNatClampNeg) → q_wp n 317 34 [some (.ref x0), some (.int x1), some (.int x2), some (.int x3), none, none] [] h Q) (wf : (qA h v0 x3.toNatClampNeg) = (qA h v0 x2.toNatClampNeg) → q_wp n 317 32 [some (.ref x0), some (.int x1), some (.int x2), some (.int x3), none, none] [] h Q) : q_wp n 317 17 [some (.ref x0), some (.int x1), some (.int x2), some (.int x3), none, none] [] h Q := by
  refine wp_loc rfl rfl ?_
  refine wp_getR rfl rfl rfl rfl k0 e0 ?_
  refine wp_loc rfl rfl ?_
  refine wp_iald rfl k1 i0 ?_
  refine wp_loc rfl rfl ?_
  refine wp_getR rfl rfl rfl rfl k0 e0 ?_
  refine wp_loc rfl rfl ?_
  refine wp_iald rfl k1 i1 ?_
  exact wp_icne (tgt := 34) rfl (by decide) wt wf
theorem b317_32 {n : Nat} {h : q_Hp} {Q : Option Value → q_Hp → Prop} {x0 : Nat} {x1 : Int32} {x2 : Int32} {x3 : Int32} (q : Q (some (.int 0)) h) : q_wp n 317 32 [some (.ref x0), some (.int x1), some (.int x2), some (.int x3), none, none] [] h Q := by
  refine wp_iconst (v := 0) rfl (by decide) ?_
  exact wp_ret (r := some (.int 0)) rfl rfl q
theorem b317_34 {n : Nat} {h : q_Hp} {Q : Option Value → q_Hp → Prop} {x0 : Nat} {x1 : Int32} {x2 : Int32} {x3 : Int32} (w : q_wp n 317 2 [some (.ref x0), some (.int x1), some (.int x2), some (.int (x3 + 1)), none, none] [] h Q) : q_wp n 317 34 [some (.ref x0), some (.int x1), some (.int x2), some (.int x3), none, none] [] h Q := by
  refine wp_iinc (v := 1) rfl rfl (by decide) rfl ?_
  refine wp_goto (tgt := 2) rfl (by decide) ?_
  exact w
theorem b317_40 {n : Nat} {h : q_Hp} {Q : Option Value → q_Hp → Prop} {x0 : Nat} {x1 : Int32} {x2 : Int32} {x3 : Int32} (w : q_wp n 317 42 [some (.ref x0), some (.int x1), some (.int x2), some (.int 0), none, none] [] h Q) : q_wp n 317 40 [some (.ref x0), some (.int x1), some (.int x2), some (.int x3), none, none] [] h Q := by
  refine wp_iconst (v := 0) rfl (by decide) ?_
  refine wp_loc rfl rfl ?_
  exact w
theorem b317_42 {n : Nat} {h : q_Hp} {Q : Option Value → q_Hp → Prop} {x0 : Nat} {x1 : Int32} {x2 : Int32} {x3 : Int32} {l4 : Option Value} {l5 : Option Value} (wt : 40 ≤ x3 → q_wp n 317 159 [some (.ref x0), some (.int x1), some (.int x2), some (.int x3), l4, l5] [] h Q) (wf : ¬ 40 ≤ x3 → q_wp n 317 48 [some (.ref x0), some (.int x1), some (.int x2), some (.int x3), l4, l5] [] h Q) : q_wp n 317 42 [some (.ref x0), some (.int x1), some (.int x2), some (.int x3), l4, l5] [] h Q := by
  refine wp_loc rfl rfl ?_
  refine wp_bipush (v := 40) rfl (by decide) ?_
  exact wp_icge (tgt := 159) rfl (by decide) wt wf
theorem b317_48 {n : Nat} {h : q_Hp} {Q : Option Value → q_Hp → Prop} {x0 : Nat} {x1 : Int32} {x2 : Int32} {x3 : Int32} {l4 : Option Value} {l5 : Option Value} {v0 : Nat} (k0 : q_ok h x0 12) (e0 : qR h x0 87 = v0) (k1 : q_ok h v0 20) (i0 : q_in (36 + x3) (qK h v0).2) (wt : (qA h v0 ((36 + x3 : Int32).toNatClampNeg)) = (-1) → q_wp n 317 153 [some (.ref x0), some (.int x1), some (.int x2), some (.int x3), l4, l5] [] h Q) (wf : ¬ (qA h v0 ((36 + x3 : Int32).toNatClampNeg)) = (-1) → q_wp n 317 61 [some (.ref x0), some (.int x1), some (.int x2), some (.int x3), l4, l5] [] h Q) : q_wp n 317 48 [some (.ref x0), some (.int x1), some (.int x2), some (.int x3), l4, l5] [] h Q := by
  refine wp_loc rfl rfl ?_
  refine wp_getR rfl rfl rfl rfl k0 e0 ?_
  refine wp_bipush (v := 36) rfl (by decide) ?_
  refine wp_loc rfl rfl ?_
  refine wp_stk rfl rfl rfl ?_
  refine wp_iald rfl k1 i0 ?_
  refine wp_iconst (v := (-1)) rfl (by decide) ?_
  exact wp_iceq (tgt := 153) rfl (by decide) wt wf
theorem b317_61 {n : Nat} {h : q_Hp} {Q : Option Value → q_Hp → Prop} {x0 : Nat} {x1 : Int32} {x2 : Int32} {x3 : Int32} {l4 : Option Value} {l5 : Option Value} {v0 : Nat} {v1 : Nat} (k0 : q_ok h x0 12) (e0 : qR h x0 87 = v0) (k1 : q_ok h v0 20) (i0 : q_in (76 + x3) (qK h v0).2) (e1 : qR h x0 93 = v1) (k2 : q_ok h v1 20) (i1 : q_in x2 (qK h v1).2) (wt : (qA h v0 ((76 + x3 : Int32).toNatClampNeg)) = (qA h v1 x2.toNatClampNeg) → q_wp n 317 100 [some (.ref x0), some (.int x1), some (.int x2), some (.int x3), l4, l5] [] h Q) (wf : ¬ (qA h v0 ((76 + x3 : Int32).toNatClampNeg)) = (qA h v1 x2.toNatClampNeg) → q_wp n 317 79 [some (.ref x0), some (.int x1), some (.int x2), some (.int x3), l4, l5] [] h Q) : q_wp n 317 61 [some (.ref x0), some (.int x1), some (.int x2), some (.int x3), l4, l5] [] h Q := by
  refine wp_loc rfl rfl ?_
  refine wp_getR rfl rfl rfl rfl k0 e0 ?_
  refine wp_bipush (v := 76) rfl (by decide) ?_
  refine wp_loc rfl rfl ?_
  refine wp_stk rfl rfl rfl ?_
  refine wp_iald rfl k1 i0 ?_
  refine wp_loc rfl rfl ?_
  refine wp_getR rfl rfl rfl rfl k0 e1 ?_
  refine wp_loc rfl rfl ?_
  refine wp_iald rfl k2 i1 ?_
  exact wp_iceq (tgt := 100) rfl (by decide) wt wf
theorem b317_79 {n : Nat} {h : q_Hp} {Q : Option Value → q_Hp → Prop} {x0 : Nat} {x1 : Int32} {x2 : Int32} {x3 : Int32} {l4 : Option Value} {l5 : Option Value} {v0 : Nat} {v1 : Nat} (k0 : q_ok h x0 12) (e0 : qR h x0 87 = v0) (k1 : q_ok h v0 20) (i0 : q_in (116 + x3) (qK h v0).2) (e1 : qR h x0 93 = v1) (k2 : q_ok h v1 20) (i1 : q_in x2 (qK h v1).2) (wt : (qA h v0 ((116 + x3 : Int32).toNatClampNeg)) = (qA h v1 x2.toNatClampNeg) → q_wp n 317 100 [some (.ref x0), some (.int x1), some (.int x2), some (.int x3), l4, l5] [] h Q) (wf : ¬ (qA h v0 ((116 + x3 : Int32).toNatClampNeg)) = (qA h v1 x2.toNatClampNeg) → q_wp n 317 97 [some (.ref x0), some (.int x1), some (.int x2), some (.int x3), l4, l5] [] h Q) : q_wp n 317 79 [some (.ref x0), some (.int x1), some (.int x2), some (.int x3), l4, l5] [] h Q := by
  refine wp_loc rfl rfl ?_
  refine wp_getR rfl rfl rfl rfl k0 e0 ?_
  refine wp_bipush (v := 116) rfl (by decide) ?_
  refine wp_loc rfl rfl ?_
  refine wp_stk rfl rfl rfl ?_
  refine wp_iald rfl k1 i0 ?_
  refine wp_loc rfl rfl ?_
  refine wp_getR rfl rfl rfl rfl k0 e1 ?_
  refine wp_loc rfl rfl ?_
  refine wp_iald rfl k2 i1 ?_
  exact wp_iceq (tgt := 100) rfl (by decide) wt wf
theorem b317_97 {n : Nat} {h : q_Hp} {Q : Option Value → q_Hp → Prop} {x0 : Nat} {x1 : Int32} {x2 : Int32} {x3 : Int32} {l4 : Option Value} {l5 : Option Value} (w : q_wp n 317 153 [some (.ref x0), some (.int x1), some (.int x2), some (.int x3), l4, l5] [] h Q) : q_wp n 317 97 [some (.ref x0), some (.int x1), some (.int x2), some (.int x3), l4, l5] [] h Q := by
  refine wp_goto (tgt := 153) rfl (by decide) ?_
  exact w
theorem b317_100 {n : Nat} {h : q_Hp} {Q : Option Value → q_Hp → Prop} {x0 : Nat} {x1 : Int32} {x2 : Int32} {x3 : Int32} {l4 : Option Value} {l5 : Option Value} (w : q_wp n 317 106 [some (.ref x0), some (.int x1), some (.int x2), some (.int x3), some (.int 0), some (.int 0)] [] h Q) : q_wp n 317 100 [some (.ref x0), some (.int x1), some (.int x2), some (.int x3), l4, l5] [] h Q := by
  refine wp_iconst (v := 0) rfl (by decide) ?_
  refine wp_loc rfl rfl ?_
  refine wp_iconst (v := 0) rfl (by decide) ?_
  refine wp_loc rfl rfl ?_
  exact w
theorem b317_106 {n : Nat} {h : q_Hp} {Q : Option Value → q_Hp → Prop} {x0 : Nat} {x1 : Int32} {x2 : Int32} {x3 : Int32} {x4 : Int32} {x5 : Int32} {v0 : Nat} (k0 : q_ok h x0 12) (e0 : qR h x0 32 = v0) (k1 : q_ok h v0 20) (i0 : q_in x1 (qK h v0).2) (wt : (qA h v0 x1.toNatClampNeg) ≤ x5 → q_wp n 317 146 [some (.ref x0), some (.int x1), some (.int x2), some (.int x3), some (.int x4), some (.int x5)] [] h Q) (wf : ¬ (qA h v0 x1.toNatClampNeg) ≤ x5 → q_wp n 317 117 [some (.ref x0), some (.int x1), some (.int x2), some (.int x3), some (.int x4), some (.int x5)] [] h Q) : q_wp n 317 106 [some (.ref x0), some (.int x1), some (.int x2), some (.int x3), some (.int x4), some (.int x5)] [] h Q := by
  refine wp_loc rfl rfl ?_
  refine wp_loc rfl rfl ?_
  refine wp_getR rfl rfl rfl rfl k0 e0 ?_
  refine wp_loc rfl rfl ?_
  refine wp_iald rfl k1 i0 ?_
  exact wp_icge (tgt := 146) rfl (by decide) wt wf
theorem b317_117 {n : Nat} {h : q_Hp} {Q : Option Value → q_Hp → Prop} {x0 : Nat} {x1 : Int32} {x2 : Int32} {x3 : Int32} {x4 : Int32} {x5 : Int32} (wt : ¬ x4 = 0 → q_wp n 317 133 [some (.ref x0), some (.int x1), some (.int x2), some (.int x3), some (.int x4), some (.int x5)] [] h Q) (wf : x4 = 0 → q_wp n 317 122 [some (.ref x0), some (.int x1), some (.int x2), some (.int x3), some (.int x4), some (.int x5)] [] h Q) : q_wp n 317 117 [some (.ref x0), some (.int x1), some (.int x2), some (.int x3), some (.int x4), some (.int x5)] [] h Q := by
  refine wp_loc rfl rfl ?_
  exact wp_ifne (tgt := 133) rfl (by decide) wt wf
theorem b317_122 {n : Nat} {h : q_Hp} {Q : Option Value → q_Hp → Prop} {x0 : Nat} {x1 : Int32} {x2 : Int32} {x3 : Int32} {x4 : Int32} {x5 : Int32} {v0 : Nat} (k0 : q_ok h x0 12) (e0 : qR h x0 94 = v0) (k1 : q_ok h v0 20) (i0 : q_in x5 (qK h v0).2) (wt : ¬ (qA h v0 x5.toNatClampNeg) = x3 → q_wp n 317 137 [some (.ref x0), some (.int x1), some (.int x2), some (.int x3), some (.int x4), some (.int x5)] [] h Q) (wf : (qA h v0 x5.toNatClampNeg) = x3 → q_wp n 317 133 [some (.ref x0), some (.int x1), some (.int x2), some (.int x3), some (.int x4), some (.int x5)] [] h Q) : q_wp n 317 122 [some (.ref x0), some (.int x1), some (.int x2), some (.int x3), some (.int x4), some (.int x5)] [] h Q := by
  refine wp_loc rfl rfl ?_
  refine wp_getR rfl rfl rfl rfl k0 e0 ?_
  refine wp_loc rfl rfl ?_
  refine wp_iald rfl k1 i0 ?_
  refine wp_loc rfl rfl ?_
  exact wp_icne (tgt := 137) rfl (by decide) wt wf
theorem b317_133 {n : Nat} {h : q_Hp} {Q : Option Value → q_Hp → Prop} {x0 : Nat} {x1 : Int32} {x2 : Int32} {x3 : Int32} {x4 : Int32} {x5 : Int32} (w : q_wp n 317 138 [some (.ref x0), some (.int x1), some (.int x2), some (.int x3), some (.int x4), some (.int x5)] [.int 1] h Q) : q_wp n 317 133 [some (.ref x0), some (.int x1), some (.int x2), some (.int x3), some (.int x4), some (.int x5)] [] h Q := by
  refine wp_iconst (v := 1) rfl (by decide) ?_
  refine wp_goto (tgt := 138) rfl (by decide) ?_
  exact w
theorem b317_137 {n : Nat} {h : q_Hp} {Q : Option Value → q_Hp → Prop} {x0 : Nat} {x1 : Int32} {x2 : Int32} {x3 : Int32} {x4 : Int32} {x5 : Int32} (w : q_wp n 317 138 [some (.ref x0), some (.int x1), some (.int x2), some (.int x3), some (.int x4), some (.int x5)] [.int 0] h Q) : q_wp n 317 137 [some (.ref x0), some (.int x1), some (.int x2), some (.int x3), some (.int x4), some (.int x5)] [] h Q := by
  refine wp_iconst (v := 0) rfl (by decide) ?_
  exact w
theorem b317_138 {n : Nat} {h : q_Hp} {Q : Option Value → q_Hp → Prop} {x0 : Nat} {x1 : Int32} {x2 : Int32} {x3 : Int32} {x4 : Int32} {x5 : Int32} {s0 : Int32} (w : q_wp n 317 106 [some (.ref x0), some (.int x1), some (.int x2), some (.int x3), some (.int s0), some (.int (x5 + 1))] [] h Q) : q_wp n 317 138 [some (.ref x0), some (.int x1), some (.int x2), some (.int x3), some (.int x4), some (.int x5)] [.int s0] h Q := by
  refine wp_loc rfl rfl ?_
  refine wp_iinc (v := 1) rfl rfl (by decide) rfl ?_
  refine wp_goto (tgt := 106) rfl (by decide) ?_
  exact w
theorem b317_146 {n : Nat} {h : q_Hp} {Q : Option Value → q_Hp → Prop} {x0 : Nat} {x1 : Int32} {x2 : Int32} {x3 : Int32} {x4 : Int32} {x5 : Int32} (wt : ¬ x4 = 0 → q_wp n 317 153 [some (.ref x0), some (.int x1), some (.int x2), some (.int x3), some (.int x4), some (.int x5)] [] h Q) (wf : x4 = 0 → q_wp n 317 151 [some (.ref x0), some (.int x1), some (.int x2), some (.int x3), some (.int x4), some (.int x5)] [] h Q) : q_wp n 317 146 [some (.ref x0), some (.int x1), some (.int x2), some (.int x3), some (.int x4), some (.int x5)] [] h Q := by
  refine wp_loc rfl rfl ?_
  exact wp_ifne (tgt := 153) rfl (by decide) wt wf
theorem b317_151 {n : Nat} {h : q_Hp} {Q : Option Value → q_Hp → Prop} {x0 : Nat} {x1 : Int32} {x2 : Int32} {x3 : Int32} {x4 : Int32} {x5 : Int32} (q : Q (some (.int 0)) h) : q_wp n 317 151 [some (.ref x0), some (.int x1), some (.int x2), some (.int x3), some (.int x4), some (.int x5)] [] h Q := by
  refine wp_iconst (v := 0) rfl (by decide) ?_
  exact wp_ret (r := some (.int 0)) rfl rfl q
theorem b317_153 {n : Nat} {h : q_Hp} {Q : Option Value → q_Hp → Prop} {x0 : Nat} {x1 : Int32} {x2 : Int32} {x3 : Int32} {l4 : Option Value} {l5 : Option Value} (w : q_wp n 317 42 [some (.ref x0), some (.int x1), some (.int x2), some (.int (x3 + 1)), l4, l5] [] h Q) : q_wp n 317 153 [some (.ref x0), some (.int x1), some (.int x2), some (.int x3), l4, l5] [] h Q := by
  refine wp_iinc (v := 1) rfl rfl (by decide) rfl ?_
  refine wp_goto (tgt := 42) rfl (by decide) ?_
  exact w
theorem b317_159 {n : Nat} {h : q_Hp} {Q : Option Value → q_Hp → Prop} {x0 : Nat} {x1 : Int32} {x2 : Int32} {x3 : Int32} {l4 : Option Value} {l5 : Option Value} (q : Q (some (.int 1)) h) : q_wp n 317 159 [some (.ref x0), some (.int x1), some (.int x2), some (.int x3), l4, l5] [] h Q := by
  refine wp_iconst (v := 1) rfl (by decide) ?_
  exact wp_ret (r := some (.int 1)) rfl rfl q
theorem b318_0 {n : Nat} {h : q_Hp} {Q : Option Value → q_Hp → Prop} {x0 : Nat} (w : q_wp n 318 2 [some (.ref x0), some (.int 0)] [] h Q) : q_wp n 318 0 [some (.ref x0), none] [] h Q := by
  refine wp_iconst (v := 0) rfl (by decide) ?_
  refine wp_loc rfl rfl ?_
  exact w
theorem b318_2 {n : Nat} {h : q_Hp} {Q : Option Value → q_Hp → Prop} {x0 : Nat} {x1 : Int32} (wt : 4 ≤ x1 → q_wp n 318 20 [some (.ref x0), some (.int x1)] [] h Q) (wf : ¬ 4 ≤ x1 → q_wp n 318 7 [some (.ref x0), some (.int x1)] [] h Q) : q_wp n 318 2 [some (.ref x0), some (.int x1)] [] h Q := by
  refine wp_loc rfl rfl ?_
  refine wp_iconst (v := 4) rfl (by decide) ?_
  exact wp_icge (tgt := 20) rfl (by decide) wt wf
theorem b318_7 {n : Nat} {h : q_Hp} {Q : Option Value → q_Hp → Prop} {x0 : Nat} {x1 : Int32} {v0 : Nat} (k0 : q_ok h x0 12) (e0 : qR h x0 93 = v0) (k1 : q_ok h v0 20) (i0 : q_in x1 (qK h v0).2) (w : q_wp n 318 2 [some (.ref x0), some (.int (x1 + 1))] [] (q_sA h v0 x1.toNatClampNeg 0) Q) : q_wp n 318 7 [some (.ref x0), some (.int x1)] [] h Q := by
  refine wp_loc rfl rfl ?_
  refine wp_getR rfl rfl rfl rfl k0 e0 ?_
  refine wp_loc rfl rfl ?_
  refine wp_iconst (v := 0) rfl (by decide) ?_
  refine wp_iast rfl k1 i0 ?_
  refine wp_iinc (v := 1) rfl rfl (by decide) rfl ?_
  refine wp_goto (tgt := 2) rfl (by decide) ?_
  exact w
theorem b318_20 {n : Nat} {h : q_Hp} {Q : Option Value → q_Hp → Prop} {x0 : Nat} {x1 : Int32} (q : Q none h) : q_wp n 318 20 [some (.ref x0), some (.int x1)] [] h Q := by
  exact wp_ret rfl rfl q
theorem b319_0 {n : Nat} {h : q_Hp} {Q : Option Value → q_Hp → Prop} {x0 : Nat} {x1 : Int32} {v0 : Nat} (k0 : q_ok h x0 12) (e0 : qR h x0 31 = v0) (k1 : q_ok h v0 20) (i0 : q_in x1 (qK h v0).2) (w : q_wp n 319 9 [some (.ref x0), some (.int x1), some (.int ((qA h v0 x1.toNatClampNeg) - 1))] [] h Q) : q_wp n 319 0 [some (.ref x0), some (.int x1), none] [] h Q := by
  refine wp_loc rfl rfl ?_
  refine wp_getR rfl rfl rfl rfl k0 e0 ?_
  refine wp_loc rfl rfl ?_
  refine wp_iald rfl k1 i0 ?_
  refine wp_iconst (v := 1) rfl (by decide) ?_
  refine wp_stk rfl rfl rfl ?_
  refine wp_loc rfl rfl ?_
  exact w
theorem b319_9 {n : Nat} {h : q_Hp} {Q : Option Value → q_Hp → Prop} {x0 : Nat} {x1 : Int32} {x2 : Int32} (wt : x2 < 0 → q_wp n 319 37 [some (.ref x0), some (.int x1), some (.int x2)] [] h Q) (wf : ¬ x2 < 0 → q_wp n 319 13 [some (.ref x0), some (.int x1), some (.int x2)] [] h Q) : q_wp n 319 9 [some (.ref x0), some (.int x1), some (.int x2)] [] h Q := by
  refine wp_loc rfl rfl ?_
  exact wp_iflt (tgt := 37) rfl (by decide) wt wf
theorem b319_13 {n : Nat} {h : q_Hp} {Q : Option Value → q_Hp → Prop} {x0 : Nat} {x1 : Int32} {x2 : Int32} {v0 : Nat} (k0 : q_ok h x0 12) (e0 : qR h x0 93 = v0) (k1 : q_ok h v0 20) (i0 : q_in x2 (qK h v0).2) (wt : ¬ (qA h v0 x2.toNatClampNeg) = 11 → q_wp n 319 37 [some (.ref x0), some (.int x1), some (.int x2)] [] h Q) (wf : (qA h v0 x2.toNatClampNeg) = 11 → q_wp n 319 24 [some (.ref x0), some (.int x1), some (.int x2)] [] h Q) : q_wp n 319 13 [some (.ref x0), some (.int x1), some (.int x2)] [] h Q := by
  refine wp_loc rfl rfl ?_
  refine wp_getR rfl rfl rfl rfl k0 e0 ?_
  refine wp_loc rfl rfl ?_
  refine wp_iald rfl k1 i0 ?_
  refine wp_bipush (v := 11) rfl (by decide) ?_
  exact wp_icne (tgt := 37) rfl (by decide) wt wf
theorem b319_24 {n : Nat} {h : q_Hp} {Q : Option Value → q_Hp → Prop} {x0 : Nat} {x1 : Int32} {x2 : Int32} {v0 : Nat} (k0 : q_ok h x0 12) (e0 : qR h x0 93 = v0) (k1 : q_ok h v0 20) (i0 : q_in x2 (qK h v0).2) (w : q_wp n 319 9 [some (.ref x0), some (.int x1), some (.int (x2 + (-1)))] [] (q_sA h v0 x2.toNatClampNeg 0) Q) : q_wp n 319 24 [some (.ref x0), some (.int x1), some (.int x2)] [] h Q := by
  refine wp_loc rfl rfl ?_
  refine wp_getR rfl rfl rfl rfl k0 e0 ?_
  refine wp_loc rfl rfl ?_
  refine wp_iconst (v := 0) rfl (by decide) ?_
  refine wp_iast rfl k1 i0 ?_
  refine wp_iinc (v := (-1)) rfl rfl (by decide) rfl ?_
  refine wp_goto (tgt := 9) rfl (by decide) ?_
  exact w
theorem b319_37 {n : Nat} {h : q_Hp} {Q : Option Value → q_Hp → Prop} {x0 : Nat} {x1 : Int32} {x2 : Int32} (wt : 0 ≤ x2 → q_wp n 319 43 [some (.ref x0), some (.int x1), some (.int x2)] [] h Q) (wf : ¬ 0 ≤ x2 → q_wp n 319 41 [some (.ref x0), some (.int x1), some (.int x2)] [] h Q) : q_wp n 319 37 [some (.ref x0), some (.int x1), some (.int x2)] [] h Q := by
  refine wp_loc rfl rfl ?_
  exact wp_ifge (tgt := 43) rfl (by decide) wt wf
theorem b319_41 {n : Nat} {h : q_Hp} {Q : Option Value → q_Hp → Prop} {x0 : Nat} {x1 : Int32} {x2 : Int32} (q : Q (some (.int 0)) h) : q_wp n 319 41 [some (.ref x0), some (.int x1), some (.int x2)] [] h Q := by
  refine wp_iconst (v := 0) rfl (by decide) ?_
  exact wp_ret (r := some (.int 0)) rfl rfl q
theorem b319_43 {n : Nat} {h : q_Hp} {Q : Option Value → q_Hp → Prop} {x0 : Nat} {x1 : Int32} {x2 : Int32} {v0 : Nat} (k0 : q_ok h x0 12) (e0 : qR h x0 93 = v0) (k1 : q_ok h v0 20) (i0 : q_in x2 (qK h v0).2) (q : Q (some (.int 1)) (q_sA h v0 x2.toNatClampNeg ((qA h v0 x2.toNatClampNeg) + 1))) : q_wp n 319 43 [some (.ref x0), some (.int x1), some (.int x2)] [] h Q := by
  refine wp_loc rfl rfl ?_
  refine wp_getR rfl rfl rfl rfl k0 e0 ?_
  refine wp_loc rfl rfl ?_
  refine wp_stk rfl rfl rfl ?_
  refine wp_iald rfl k1 i0 ?_
  refine wp_iconst (v := 1) rfl (by decide) ?_
  refine wp_stk rfl rfl rfl ?_
  refine wp_iast rfl k1 i0 ?_
  refine wp_iconst (v := 1) rfl (by decide) ?_
  exact wp_ret (r := some (.int 1)) rfl rfl q
theorem b320_0 {n : Nat} {h : q_Hp} {Q : Option Value → q_Hp → Prop} {x0 : Nat} {x1 : Int32} (w : q_wp n 320 2 [some (.ref x0), some (.int x1), some (.int 1)] [] h Q) : q_wp n 320 0 [some (.ref x0), some (.int x1), none] [] h Q := by
  refine wp_iconst (v := 1) rfl (by decide) ?_
  refine wp_loc rfl rfl ?_
  exact w
theorem b320_2 {n : Nat} {h : q_Hp} {Q : Option Value → q_Hp → Prop} {x0 : Nat} {x1 : Int32} {x2 : Int32} (wt : x2 = 0 → q_wp n 320 25 [some (.ref x0), some (.int x1), some (.int x2)] [] h Q) (wf : ¬ x2 = 0 → q_wp n 320 6 [some (.ref x0), some (.int x1), some (.int x2)] [] h Q) : q_wp n 320 2 [some (.ref x0), some (.int x1), some (.int x2)] [] h Q := by
  refine wp_loc rfl rfl ?_
  exact wp_ifeq (tgt := 25) rfl (by decide) wt wf
theorem b320_6 {n : Nat} {h : q_Hp} {Q : Option Value → q_Hp → Prop} {x0 : Nat} {x1 : Int32} {x2 : Int32} {m : Nat} {P : Int32 → q_Hp → Prop} (hc : q_mI m 314 [.ref x0, .int x1] h P) (hm : m ≤ n) (w : ∀ (z : Int32) (h1 : q_Hp), P z h1 → q_wp (n + 1) 320 11 [some (.ref x0), some (.int x1), some (.int x2)] [.int z] h1 Q) : q_wp (n + 1) 320 6 [some (.ref x0), some (.int x1), some (.int x2)] [] h Q := by
  refine wp_loc rfl rfl ?_
  refine wp_loc rfl rfl ?_
  exact wp_callI (av := [.ref x0, .int x1]) rfl rfl rfl (by decide) rfl rfl rfl hm hc w
theorem b320_11 {n : Nat} {h : q_Hp} {Q : Option Value → q_Hp → Prop} {x0 : Nat} {x1 : Int32} {x2 : Int32} {s0 : Int32} (wt : s0 = 0 → q_wp n 320 16 [some (.ref x0), some (.int x1), some (.int x2)] [] h Q) (wf : ¬ s0 = 0 → q_wp n 320 14 [some (.ref x0), some (.int x1), some (.int x2)] [] h Q) : q_wp n 320 11 [some (.ref x0), some (.int x1), some (.int x2)] [.int s0] h Q := by
  exact wp_ifeq (tgt := 16) rfl (by decide) wt wf
theorem b320_14 {n : Nat} {h : q_Hp} {Q : Option Value → q_Hp → Prop} {x0 : Nat} {x1 : Int32} {x2 : Int32} (q : Q (some (.int 1)) h) : q_wp n 320 14 [some (.ref x0), some (.int x1), some (.int x2)] [] h Q := by
  refine wp_iconst (v := 1) rfl (by decide) ?_
  exact wp_ret (r := some (.int 1)) rfl rfl q
theorem b320_16 {n : Nat} {h : q_Hp} {Q : Option Value → q_Hp → Prop} {x0 : Nat} {x1 : Int32} {x2 : Int32} {m : Nat} {P : Int32 → q_Hp → Prop} (hc : q_mI m 319 [.ref x0, .int x1] h P) (hm : m ≤ n) (w : ∀ (z : Int32) (h1 : q_Hp), P z h1 → q_wp (n + 1) 320 21 [some (.ref x0), some (.int x1), some (.int x2)] [.int z] h1 Q) : q_wp (n + 1) 320 16 [some (.ref x0), some (.int x1), some (.int x2)] [] h Q := by
  refine wp_loc rfl rfl ?_
  refine wp_loc rfl rfl ?_
  exact wp_callI (av := [.ref x0, .int x1]) rfl rfl rfl (by decide) rfl rfl rfl hm hc w
theorem b320_21 {n : Nat} {h : q_Hp} {Q : Option Value → q_Hp → Prop} {x0 : Nat} {x1 : Int32} {x2 : Int32} {s0 : Int32} (w : q_wp n 320 2 [some (.ref x0), some (.int x1), some (.int s0)] [] h Q) : q_wp n 320 21 [some (.ref x0), some (.int x1), some (.int x2)] [.int s0] h Q := by
  refine wp_loc rfl rfl ?_
  refine wp_goto (tgt := 2) rfl (by decide) ?_
  exact w
theorem b320_25 {n : Nat} {h : q_Hp} {Q : Option Value → q_Hp → Prop} {x0 : Nat} {x1 : Int32} {x2 : Int32} (q : Q (some (.int 0)) h) : q_wp n 320 25 [some (.ref x0), some (.int x1), some (.int x2)] [] h Q := by
  refine wp_iconst (v := 0) rfl (by decide) ?_
  exact wp_ret (r := some (.int 0)) rfl rfl q
theorem b321_0 {n : Nat} {h : q_Hp} {Q : Option Value → q_Hp → Prop} {x0 : Nat} {x1 : Int32} (wt : x1 < 0 → q_wp n 321 16 [some (.ref x0), some (.int x1)] [] h Q) (wf : ¬ x1 < 0 → q_wp n 321 4 [some (.ref x0), some (.int x1)] [] h Q) : q_wp n 321 0 [some (.ref x0), some (.int x1)] [] h Q := by
  refine wp_loc rfl rfl ?_
  exact wp_iflt (tgt := 16) rfl (by decide) wt wf
theorem b321_4 {n : Nat} {h : q_Hp} {Q : Option Value → q_Hp → Prop} {x0 : Nat} {x1 : Int32} (k0 : q_ok h x0 12) (wt : (qI h x0 26) ≤ x1 → q_wp n 321 16 [some (.ref x0), some (.int x1)] [] h Q) (wf : ¬ (qI h x0 26) ≤ x1 → q_wp n 321 12 [some (.ref x0), some (.int x1)] [] h Q) : q_wp n 321 4 [some (.ref x0), some (.int x1)] [] h Q := by
  refine wp_loc rfl rfl ?_
  refine wp_loc rfl rfl ?_
  refine wp_getI rfl rfl rfl k0 ?_
  exact wp_icge (tgt := 16) rfl (by decide) wt wf
theorem b321_12 {n : Nat} {h : q_Hp} {Q : Option Value → q_Hp → Prop} {x0 : Nat} {x1 : Int32} (q : Q (some (.int 1)) h) : q_wp n 321 12 [some (.ref x0), some (.int x1)] [] h Q := by
  refine wp_iconst (v := 1) rfl (by decide) ?_
  refine wp_goto (tgt := 17) rfl (by decide) ?_
  exact wp_ret (r := some (.int 1)) rfl rfl q
theorem b321_16 {n : Nat} {h : q_Hp} {Q : Option Value → q_Hp → Prop} {x0 : Nat} {x1 : Int32} (q : Q (some (.int 0)) h) : q_wp n 321 16 [some (.ref x0), some (.int x1)] [] h Q := by
  refine wp_iconst (v := 0) rfl (by decide) ?_
  exact wp_ret (r := some (.int 0)) rfl rfl q
theorem b322_0 {n : Nat} {h : q_Hp} {Q : Option Value → q_Hp → Prop} {x0 : Nat} {x1 : Int32} {m : Nat} {P : Int32 → q_Hp → Prop} (hc : q_mI m 321 [.ref x0, .int x1] h P) (hm : m ≤ n) (w : ∀ (z : Int32) (h1 : q_Hp), P z h1 → q_wp (n + 1) 322 5 [some (.ref x0), some (.int x1), none, none] [.int z] h1 Q) : q_wp (n + 1) 322 0 [some (.ref x0), some (.int x1), none, none] [] h Q := by
  refine wp_loc rfl rfl ?_
  refine wp_loc rfl rfl ?_
  exact wp_callI (av := [.ref x0, .int x1]) rfl rfl rfl (by decide) rfl rfl rfl hm hc w
theorem b322_5 {n : Nat} {h : q_Hp} {Q : Option Value → q_Hp → Prop} {x0 : Nat} {x1 : Int32} {s0 : Int32} (wt : ¬ s0 = 0 → q_wp n 322 10 [some (.ref x0), some (.int x1), none, none] [] h Q) (wf : s0 = 0 → q_wp n 322 8 [some (.ref x0), some (.int x1), none, none] [] h Q) : q_wp n 322 5 [some (.ref x0), some (.int x1), none, none] [.int s0] h Q := by
  exact wp_ifne (tgt := 10) rfl (by decide) wt wf
theorem b322_8 {n : Nat} {h : q_Hp} {Q : Option Value → q_Hp → Prop} {x0 : Nat} {x1 : Int32} (q : Q (some (.int (-1))) h) : q_wp n 322 8 [some (.ref x0), some (.int x1), none, none] [] h Q := by
  refine wp_iconst (v := (-1)) rfl (by decide) ?_
  exact wp_ret rfl rfl q
theorem b322_10 {n : Nat} {h : q_Hp} {Q : Option Value → q_Hp → Prop} {x0 : Nat} {x1 : Int32} {m : Nat} {P : q_Hp → Prop} (hc : q_mV m 318 [.ref x0] h P) (hm : m ≤ n) (w : ∀ h1 : q_Hp, P h1 → q_wp (n + 1) 322 14 [some (.ref x0), some (.int x1), none, none] [] h1 Q) : q_wp (n + 1) 322 10 [some (.ref x0), some (.int x1), none, none] [] h Q := by
  refine wp_loc rfl rfl ?_
  exact wp_callV (av := [.ref x0]) rfl rfl rfl (by decide) rfl rfl rfl hm hc w
theorem b322_14 {n : Nat} {h : q_Hp} {Q : Option Value → q_Hp → Prop} {x0 : Nat} {x1 : Int32} (w : q_wp n 322 18 [some (.ref x0), some (.int x1), some (.int 0), some (.int 1)] [] h Q) : q_wp n 322 14 [some (.ref x0), some (.int x1), none, none] [] h Q := by
  refine wp_iconst (v := 0) rfl (by decide) ?_
  refine wp_loc rfl rfl ?_
  refine wp_iconst (v := 1) rfl (by decide) ?_
  refine wp_loc rfl rfl ?_
  exact w
theorem b322_18 {n : Nat} {h : q_Hp} {Q : Option Value → q_Hp → Prop} {x0 : Nat} {x1 : Int32} {x2 : Int32} {x3 : Int32} (wt : x3 = 0 → q_wp n 322 47 [some (.ref x0), some (.int x1), some (.int x2), some (.int x3)] [] h Q) (wf : ¬ x3 = 0 → q_wp n 322 22 [some (.ref x0), some (.int x1), some (.int x2), some (.int x3)] [] h Q) : q_wp n 322 18 [some (.ref x0), some (.int x1), some (.int x2), some (.int x3)] [] h Q := by
  refine wp_loc rfl rfl ?_
  exact wp_ifeq (tgt := 47) rfl (by decide) wt wf
theorem b322_22 {n : Nat} {h : q_Hp} {Q : Option Value → q_Hp → Prop} {x0 : Nat} {x1 : Int32} {x2 : Int32} {x3 : Int32} {m : Nat} {P : Int32 → q_Hp → Prop} (hc : q_mI m 320 [.ref x0, .int x1] h P) (hm : m ≤ n) (w : ∀ (z : Int32) (h1 : q_Hp), P z h1 → q_wp (n + 1) 322 27 [some (.ref x0), some (.int x1), some (.int x2), some (.int x3)] [.int z] h1 Q) : q_wp (n + 1) 322 22 [some (.ref x0), some (.int x1), some (.int x2), some (.int x3)] [] h Q := by
  refine wp_loc rfl rfl ?_
  refine wp_loc rfl rfl ?_
  exact wp_callI (av := [.ref x0, .int x1]) rfl rfl rfl (by decide) rfl rfl rfl hm hc w
theorem b322_27 {n : Nat} {h : q_Hp} {Q : Option Value → q_Hp → Prop} {x0 : Nat} {x1 : Int32} {x2 : Int32} {x3 : Int32} {s0 : Int32} (wt : ¬ s0 = 0 → q_wp n 322 35 [some (.ref x0), some (.int x1), some (.int x2), some (.int s0)] [] h Q) (wf : s0 = 0 → q_wp n 322 32 [some (.ref x0), some (.int x1), some (.int x2), some (.int s0)] [] h Q) : q_wp n 322 27 [some (.ref x0), some (.int x1), some (.int x2), some (.int x3)] [.int s0] h Q := by
  refine wp_loc rfl rfl ?_
  refine wp_loc rfl rfl ?_
  exact wp_ifne (tgt := 35) rfl (by decide) wt wf
theorem b322_32 {n : Nat} {h : q_Hp} {Q : Option Value → q_Hp → Prop} {x0 : Nat} {x1 : Int32} {x2 : Int32} {x3 : Int32} (w : q_wp n 322 47 [some (.ref x0), some (.int x1), some (.int x2), some (.int x3)] [] h Q) : q_wp n 322 32 [some (.ref x0), some (.int x1), some (.int x2), some (.int x3)] [] h Q := by
  refine wp_goto (tgt := 47) rfl (by decide) ?_
  exact w
theorem b322_35 {n : Nat} {h : q_Hp} {Q : Option Value → q_Hp → Prop} {x0 : Nat} {x1 : Int32} {x2 : Int32} {x3 : Int32} {m : Nat} {P : Int32 → q_Hp → Prop} (hc : q_mI m 319 [.ref x0, .int x1] h P) (hm : m ≤ n) (w : ∀ (z : Int32) (h1 : q_Hp), P z h1 → q_wp (n + 1) 322 43 [some (.ref x0), some (.int x1), some (.int (x2 + 1)), some (.int x3)] [.int z] h1 Q) : q_wp (n + 1) 322 35 [some (.ref x0), some (.int x1), some (.int x2), some (.int x3)] [] h Q := by
  refine wp_iinc (v := 1) rfl rfl (by decide) rfl ?_
  refine wp_loc rfl rfl ?_
  refine wp_loc rfl rfl ?_
  exact wp_callI (av := [.ref x0, .int x1]) rfl rfl rfl (by decide) rfl rfl rfl hm hc w
theorem b322_43 {n : Nat} {h : q_Hp} {Q : Option Value → q_Hp → Prop} {x0 : Nat} {x1 : Int32} {x2 : Int32} {x3 : Int32} {s0 : Int32} (w : q_wp n 322 18 [some (.ref x0), some (.int x1), some (.int x2), some (.int s0)] [] h Q) : q_wp n 322 43 [some (.ref x0), some (.int x1), some (.int x2), some (.int x3)] [.int s0] h Q := by
  refine wp_loc rfl rfl ?_
  refine wp_goto (tgt := 18) rfl (by decide) ?_
  exact w
theorem b322_47 {n : Nat} {h : q_Hp} {Q : Option Value → q_Hp → Prop} {x0 : Nat} {x1 : Int32} {x2 : Int32} {x3 : Int32} (q : Q (some (.int x2)) h) : q_wp n 322 47 [some (.ref x0), some (.int x1), some (.int x2), some (.int x3)] [] h Q := by
  refine wp_loc rfl rfl ?_
  exact wp_ret rfl rfl q
theorem b323_0 {n : Nat} {h : q_Hp} {Q : Option Value → q_Hp → Prop} {x0 : Nat} {x1 : Int32} {x2 : Int32} {m : Nat} {P : Int32 → q_Hp → Prop} (hc : q_mI m 321 [.ref x0, .int x1] h P) (hm : m ≤ n) (w : ∀ (z : Int32) (h1 : q_Hp), P z h1 → q_wp (n + 1) 323 5 [some (.ref x0), some (.int x1), some (.int x2), none, none] [.int z] h1 Q) : q_wp (n + 1) 323 0 [some (.ref x0), some (.int x1), some (.int x2), none, none] [] h Q := by
  refine wp_loc rfl rfl ?_
  refine wp_loc rfl rfl ?_
  exact wp_callI (av := [.ref x0, .int x1]) rfl rfl rfl (by decide) rfl rfl rfl hm hc w
theorem b323_5 {n : Nat} {h : q_Hp} {Q : Option Value → q_Hp → Prop} {x0 : Nat} {x1 : Int32} {x2 : Int32} {s0 : Int32} (wt : s0 = 0 → q_wp n 323 12 [some (.ref x0), some (.int x1), some (.int x2), none, none] [] h Q) (wf : ¬ s0 = 0 → q_wp n 323 8 [some (.ref x0), some (.int x1), some (.int x2), none, none] [] h Q) : q_wp n 323 5 [some (.ref x0), some (.int x1), some (.int x2), none, none] [.int s0] h Q := by
  exact wp_ifeq (tgt := 12) rfl (by decide) wt wf
theorem b323_8 {n : Nat} {h : q_Hp} {Q : Option Value → q_Hp → Prop} {x0 : Nat} {x1 : Int32} {x2 : Int32} (wt : 0 ≤ x2 → q_wp n 323 14 [some (.ref x0), some (.int x1), some (.int x2), none, none] [] h Q) (wf : ¬ 0 ≤ x2 → q_wp n 323 12 [some (.ref x0), some (.int x1), some (.int x2), none, none] [] h Q) : q_wp n 323 8 [some (.ref x0), some (.int x1), some (.int x2), none, none] [] h Q := by
  refine wp_loc rfl rfl ?_
  exact wp_ifge (tgt := 14) rfl (by decide) wt wf
theorem b323_12 {n : Nat} {h : q_Hp} {Q : Option Value → q_Hp → Prop} {x0 : Nat} {x1 : Int32} {x2 : Int32} (q : Q (some (.int 0)) h) : q_wp n 323 12 [some (.ref x0), some (.int x1), some (.int x2), none, none] [] h Q := by
  refine wp_iconst (v := 0) rfl (by decide) ?_
  exact wp_ret (r := some (.int 0)) rfl rfl q
theorem b323_14 {n : Nat} {h : q_Hp} {Q : Option Value → q_Hp → Prop} {x0 : Nat} {x1 : Int32} {x2 : Int32} {m : Nat} {P : q_Hp → Prop} (hc : q_mV m 318 [.ref x0] h P) (hm : m ≤ n) (w : ∀ h1 : q_Hp, P h1 → q_wp (n + 1) 323 18 [some (.ref x0), some (.int x1), some (.int x2), none, none] [] h1 Q) : q_wp (n + 1) 323 14 [some (.ref x0), some (.int x1), some (.int x2), none, none] [] h Q := by
  refine wp_loc rfl rfl ?_
  exact wp_callV (av := [.ref x0]) rfl rfl rfl (by decide) rfl rfl rfl hm hc w
theorem b323_18 {n : Nat} {h : q_Hp} {Q : Option Value → q_Hp → Prop} {x0 : Nat} {x1 : Int32} {x2 : Int32} {m : Nat} {P : Int32 → q_Hp → Prop} (hc : q_mI m 320 [.ref x0, .int x1] h P) (hm : m ≤ n) (w : ∀ (z : Int32) (h1 : q_Hp), P z h1 → q_wp (n + 1) 323 23 [some (.ref x0), some (.int x1), some (.int x2), none, none] [.int z] h1 Q) : q_wp (n + 1) 323 18 [some (.ref x0), some (.int x1), some (.int x2), none, none] [] h Q := by
  refine wp_loc rfl rfl ?_
  refine wp_loc rfl rfl ?_
  exact wp_callI (av := [.ref x0, .int x1]) rfl rfl rfl (by decide) rfl rfl rfl hm hc w
theorem b323_23 {n : Nat} {h : q_Hp} {Q : Option Value → q_Hp → Prop} {x0 : Nat} {x1 : Int32} {x2 : Int32} {s0 : Int32} (w : q_wp n 323 27 [some (.ref x0), some (.int x1), some (.int x2), some (.int s0), some (.int 0)] [] h Q) : q_wp n 323 23 [some (.ref x0), some (.int x1), some (.int x2), none, none] [.int s0] h Q := by
  refine wp_loc rfl rfl ?_
  refine wp_iconst (v := 0) rfl (by decide) ?_
  refine wp_loc rfl rfl ?_
  exact w
theorem b323_27 {n : Nat} {h : q_Hp} {Q : Option Value → q_Hp → Prop} {x0 : Nat} {x1 : Int32} {x2 : Int32} {x3 : Int32} {x4 : Int32} (wt : x2 ≤ x4 → q_wp n 323 65 [some (.ref x0), some (.int x1), some (.int x2), some (.int x3), some (.int x4)] [] h Q) (wf : ¬ x2 ≤ x4 → q_wp n 323 33 [some (.ref x0), some (.int x1), some (.int x2), some (.int x3), some (.int x4)] [] h Q) : q_wp n 323 27 [some (.ref x0), some (.int x1), some (.int x2), some (.int x3), some (.int x4)] [] h Q := by
  refine wp_loc rfl rfl ?_
  refine wp_loc rfl rfl ?_
  exact wp_icge (tgt := 65) rfl (by decide) wt wf
theorem b323_33 {n : Nat} {h : q_Hp} {Q : Option Value → q_Hp → Prop} {x0 : Nat} {x1 : Int32} {x2 : Int32} {x3 : Int32} {x4 : Int32} (wt : x3 = 0 → q_wp n 323 65 [some (.ref x0), some (.int x1), some (.int x2), some (.int x3), some (.int x4)] [] h Q) (wf : ¬ x3 = 0 → q_wp n 323 37 [some (.ref x0), some (.int x1), some (.int x2), some (.int x3), some (.int x4)] [] h Q) : q_wp n 323 33 [some (.ref x0), some (.int x1), some (.int x2), some (.int x3), some (.int x4)] [] h Q := by
  refine wp_loc rfl rfl ?_
  exact wp_ifeq (tgt := 65) rfl (by decide) wt wf
theorem b323_37 {n : Nat} {h : q_Hp} {Q : Option Value → q_Hp → Prop} {x0 : Nat} {x1 : Int32} {x2 : Int32} {x3 : Int32} {x4 : Int32} {m : Nat} {P : Int32 → q_Hp → Prop} (hc : q_mI m 319 [.ref x0, .int x1] h P) (hm : m ≤ n) (w : ∀ (z : Int32) (h1 : q_Hp), P z h1 → q_wp (n + 1) 323 42 [some (.ref x0), some (.int x1), some (.int x2), some (.int x3), some (.int x4)] [.int z] h1 Q) : q_wp (n + 1) 323 37 [some (.ref x0), some (.int x1), some (.int x2), some (.int x3), some (.int x4)] [] h Q := by
  refine wp_loc rfl rfl ?_
  refine wp_loc rfl rfl ?_
  exact wp_callI (av := [.ref x0, .int x1]) rfl rfl rfl (by decide) rfl rfl rfl hm hc w
theorem b323_42 {n : Nat} {h : q_Hp} {Q : Option Value → q_Hp → Prop} {x0 : Nat} {x1 : Int32} {x2 : Int32} {x3 : Int32} {x4 : Int32} {s0 : Int32} (wt : s0 = 0 → q_wp n 323 57 [some (.ref x0), some (.int x1), some (.int x2), some (.int x3), some (.int x4)] [] h Q) (wf : ¬ s0 = 0 → q_wp n 323 45 [some (.ref x0), some (.int x1), some (.int x2), some (.int x3), some (.int x4)] [] h Q) : q_wp n 323 42 [some (.ref x0), some (.int x1), some (.int x2), some (.int x3), some (.int x4)] [.int s0] h Q := by
  exact wp_ifeq (tgt := 57) rfl (by decide) wt wf
theorem b323_45 {n : Nat} {h : q_Hp} {Q : Option Value → q_Hp → Prop} {x0 : Nat} {x1 : Int32} {x2 : Int32} {x3 : Int32} {x4 : Int32} {m : Nat} {P : Int32 → q_Hp → Prop} (hc : q_mI m 320 [.ref x0, .int x1] h P) (hm : m ≤ n) (w : ∀ (z : Int32) (h1 : q_Hp), P z h1 → q_wp (n + 1) 323 50 [some (.ref x0), some (.int x1), some (.int x2), some (.int x3), some (.int x4)] [.int z] h1 Q) : q_wp (n + 1) 323 45 [some (.ref x0), some (.int x1), some (.int x2), some (.int x3), some (.int x4)] [] h Q := by
  refine wp_loc rfl rfl ?_
  refine wp_loc rfl rfl ?_
  exact wp_callI (av := [.ref x0, .int x1]) rfl rfl rfl (by decide) rfl rfl rfl hm hc w
theorem b323_50 {n : Nat} {h : q_Hp} {Q : Option Value → q_Hp → Prop} {x0 : Nat} {x1 : Int32} {x2 : Int32} {x3 : Int32} {x4 : Int32} {s0 : Int32} (wt : s0 = 0 → q_wp n 323 57 [some (.ref x0), some (.int x1), some (.int x2), some (.int x3), some (.int x4)] [] h Q) (wf : ¬ s0 = 0 → q_wp n 323 53 [some (.ref x0), some (.int x1), some (.int x2), some (.int x3), some (.int x4)] [] h Q) : q_wp n 323 50 [some (.ref x0), some (.int x1), some (.int x2), some (.int x3), some (.int x4)] [.int s0] h Q := by
  exact wp_ifeq (tgt := 57) rfl (by decide) wt wf
theorem b323_53 {n : Nat} {h : q_Hp} {Q : Option Value → q_Hp → Prop} {x0 : Nat} {x1 : Int32} {x2 : Int32} {x3 : Int32} {x4 : Int32} (w : q_wp n 323 58 [some (.ref x0), some (.int x1), some (.int x2), some (.int x3), some (.int x4)] [.int 1] h Q) : q_wp n 323 53 [some (.ref x0), some (.int x1), some (.int x2), some (.int x3), some (.int x4)] [] h Q := by
  refine wp_iconst (v := 1) rfl (by decide) ?_
  refine wp_goto (tgt := 58) rfl (by decide) ?_
  exact w
theorem b323_57 {n : Nat} {h : q_Hp} {Q : Option Value → q_Hp → Prop} {x0 : Nat} {x1 : Int32} {x2 : Int32} {x3 : Int32} {x4 : Int32} (w : q_wp n 323 58 [some (.ref x0), some (.int x1), some (.int x2), some (.int x3), some (.int x4)] [.int 0] h Q) : q_wp n 323 57 [some (.ref x0), some (.int x1), some (.int x2), some (.int x3), some (.int x4)] [] h Q := by
  refine wp_iconst (v := 0) rfl (by decide) ?_
  exact w
theorem b323_58 {n : Nat} {h : q_Hp} {Q : Option Value → q_Hp → Prop} {x0 : Nat} {x1 : Int32} {x2 : Int32} {x3 : Int32} {x4 : Int32} {s0 : Int32} (w : q_wp n 323 27 [some (.ref x0), some (.int x1), some (.int x2), some (.int s0), some (.int (x4 + 1))] [] h Q) : q_wp n 323 58 [some (.ref x0), some (.int x1), some (.int x2), some (.int x3), some (.int x4)] [.int s0] h Q := by
  refine wp_loc rfl rfl ?_
  refine wp_iinc (v := 1) rfl rfl (by decide) rfl ?_
  refine wp_goto (tgt := 27) rfl (by decide) ?_
  exact w
theorem b323_65 {n : Nat} {h : q_Hp} {Q : Option Value → q_Hp → Prop} {x0 : Nat} {x1 : Int32} {x2 : Int32} {x3 : Int32} {x4 : Int32} (wt : x3 = 0 → q_wp n 323 74 [some (.ref x0), some (.int x1), some (.int x2), some (.int x3), some (.int x4)] [] h Q) (wf : ¬ x3 = 0 → q_wp n 323 69 [some (.ref x0), some (.int x1), some (.int x2), some (.int x3), some (.int x4)] [] h Q) : q_wp n 323 65 [some (.ref x0), some (.int x1), some (.int x2), some (.int x3), some (.int x4)] [] h Q := by
  refine wp_loc rfl rfl ?_
  exact wp_ifeq (tgt := 74) rfl (by decide) wt wf
theorem b323_69 {n : Nat} {h : q_Hp} {Q : Option Value → q_Hp → Prop} {x0 : Nat} {x1 : Int32} {x2 : Int32} {x3 : Int32} {x4 : Int32} {m : Nat} {P : q_Hp → Prop} (hc : q_mV m 324 [.ref x0, .int x1] h P) (hm : m ≤ n) (w : ∀ h1 : q_Hp, P h1 → q_wp (n + 1) 323 74 [some (.ref x0), some (.int x1), some (.int x2), some (.int x3), some (.int x4)] [] h1 Q) : q_wp (n + 1) 323 69 [some (.ref x0), some (.int x1), some (.int x2), some (.int x3), some (.int x4)] [] h Q := by
  refine wp_loc rfl rfl ?_
  refine wp_loc rfl rfl ?_
  exact wp_callV (av := [.ref x0, .int x1]) rfl rfl rfl (by decide) rfl rfl rfl hm hc w
theorem b323_74 {n : Nat} {h : q_Hp} {Q : Option Value → q_Hp → Prop} {x0 : Nat} {x1 : Int32} {x2 : Int32} {x3 : Int32} {x4 : Int32} (zr : x3 = 0 ∨ x3 = 1) (q : Q (some (.int x3)) h) : q_wp n 323 74 [some (.ref x0), some (.int x1), some (.int x2), some (.int x3), some (.int x4)] [] h Q := by
  refine wp_loc rfl rfl ?_
  exact wp_ret rfl (if_pos zr) q
theorem b324_0 {n : Nat} {h : q_Hp} {Q : Option Value → q_Hp → Prop} {x0 : Nat} {x1 : Int32} {v0 : Nat} {v1 : Nat} (k0 : q_ok h x0 12) (e0 : qR h x0 31 = v0) (k1 : q_ok h v0 20) (i0 : q_in x1 (qK h v0).2) (e1 : qR h x0 32 = v1) (k2 : q_ok h v1 20) (i1 : q_in x1 (qK h v1).2) (w : q_wp n 324 22 [some (.ref x0), some (.int x1), some (.int 0)] [] (q_sI (q_sI h x0 95 (qA h v0 x1.toNatClampNeg)) x0 96 (qA h v1 x1.toNatClampNeg)) Q) : q_wp n 324 0 [some (.ref x0), some (.int x1), none] [] h Q := by
  refine wp_loc rfl rfl ?_
  refine wp_loc rfl rfl ?_
  refine wp_getR rfl rfl rfl rfl k0 e0 ?_
  refine wp_loc rfl rfl ?_
  refine wp_iald rfl k1 i0 ?_
  refine wp_putI rfl rfl (Or.inl rfl) rfl (fun h9 => by cases h9) k0 ?_
  refine wp_loc rfl rfl ?_
  refine wp_loc rfl rfl ?_
  refine wp_getR rfl rfl rfl rfl k0 e1 ?_
  refine wp_loc rfl rfl ?_
  refine wp_iald rfl k2 i1 ?_
  refine wp_putI rfl rfl (Or.inl rfl) rfl (fun h9 => by cases h9) k0 ?_
  refine wp_iconst (v := 0) rfl (by decide) ?_
  refine wp_loc rfl rfl ?_
  exact w
theorem b324_22 {n : Nat} {h : q_Hp} {Q : Option Value → q_Hp → Prop} {x0 : Nat} {x1 : Int32} {x2 : Int32} (k0 : q_ok h x0 12) (wt : (qI h x0 95) ≤ x2 → q_wp n 324 48 [some (.ref x0), some (.int x1), some (.int x2)] [] h Q) (wf : ¬ (qI h x0 95) ≤ x2 → q_wp n 324 30 [some (.ref x0), some (.int x1), some (.int x2)] [] h Q) : q_wp n 324 22 [some (.ref x0), some (.int x1), some (.int x2)] [] h Q := by
  refine wp_loc rfl rfl ?_
  refine wp_loc rfl rfl ?_
  refine wp_getI rfl rfl rfl k0 ?_
  exact wp_icge (tgt := 48) rfl (by decide) wt wf
theorem b324_30 {n : Nat} {h : q_Hp} {Q : Option Value → q_Hp → Prop} {x0 : Nat} {x1 : Int32} {x2 : Int32} {v0 : Nat} {v1 : Nat} (k0 : q_ok h x0 12) (e0 : qR h x0 97 = v0) (e1 : qR h x0 93 = v1) (k1 : q_ok h v1 20) (i0 : q_in x2 (qK h v1).2) (k2 : q_ok h v0 20) (i1 : q_in x2 (qK h v0).2) (w : q_wp n 324 22 [some (.ref x0), some (.int x1), some (.int (x2 + 1))] [] (q_sA h v0 x2.toNatClampNeg (qA h v1 x2.toNatClampNeg)) Q) : q_wp n 324 30 [some (.ref x0), some (.int x1), some (.int x2)] [] h Q := by
  refine wp_loc rfl rfl ?_
  refine wp_getR rfl rfl rfl rfl k0 e0 ?_
  refine wp_loc rfl rfl ?_
  refine wp_loc rfl rfl ?_
  refine wp_getR rfl rfl rfl rfl k0 e1 ?_
  refine wp_loc rfl rfl ?_
  refine wp_iald rfl k1 i0 ?_
  refine wp_iast rfl k2 i1 ?_
  refine wp_iinc (v := 1) rfl rfl (by decide) rfl ?_
  refine wp_goto (tgt := 22) rfl (by decide) ?_
  exact w
theorem b324_48 {n : Nat} {h : q_Hp} {Q : Option Value → q_Hp → Prop} {x0 : Nat} {x1 : Int32} {x2 : Int32} (w : q_wp n 324 50 [some (.ref x0), some (.int x1), some (.int 0)] [] h Q) : q_wp n 324 48 [some (.ref x0), some (.int x1), some (.int x2)] [] h Q := by
  refine wp_iconst (v := 0) rfl (by decide) ?_
  refine wp_loc rfl rfl ?_
  exact w
theorem b324_50 {n : Nat} {h : q_Hp} {Q : Option Value → q_Hp → Prop} {x0 : Nat} {x1 : Int32} {x2 : Int32} (k0 : q_ok h x0 12) (wt : (qI h x0 96) ≤ x2 → q_wp n 324 76 [some (.ref x0), some (.int x1), some (.int x2)] [] h Q) (wf : ¬ (qI h x0 96) ≤ x2 → q_wp n 324 58 [some (.ref x0), some (.int x1), some (.int x2)] [] h Q) : q_wp n 324 50 [some (.ref x0), some (.int x1), some (.int x2)] [] h Q := by
  refine wp_loc rfl rfl ?_
  refine wp_loc rfl rfl ?_
  refine wp_getI rfl rfl rfl k0 ?_
  exact wp_icge (tgt := 76) rfl (by decide) wt wf
theorem b324_58 {n : Nat} {h : q_Hp} {Q : Option Value → q_Hp → Prop} {x0 : Nat} {x1 : Int32} {x2 : Int32} {v0 : Nat} {v1 : Nat} (k0 : q_ok h x0 12) (e0 : qR h x0 98 = v0) (e1 : qR h x0 94 = v1) (k1 : q_ok h v1 20) (i0 : q_in x2 (qK h v1).2) (k2 : q_ok h v0 20) (i1 : q_in x2 (qK h v0).2) (w : q_wp n 324 50 [some (.ref x0), some (.int x1), some (.int (x2 + 1))] [] (q_sA h v0 x2.toNatClampNeg (qA h v1 x2.toNatClampNeg)) Q) : q_wp n 324 58 [some (.ref x0), some (.int x1), some (.int x2)] [] h Q := by
  refine wp_loc rfl rfl ?_
  refine wp_getR rfl rfl rfl rfl k0 e0 ?_
  refine wp_loc rfl rfl ?_
  refine wp_loc rfl rfl ?_
  refine wp_getR rfl rfl rfl rfl k0 e1 ?_
  refine wp_loc rfl rfl ?_
  refine wp_iald rfl k1 i0 ?_
  refine wp_iast rfl k2 i1 ?_
  refine wp_iinc (v := 1) rfl rfl (by decide) rfl ?_
  refine wp_goto (tgt := 50) rfl (by decide) ?_
  exact w
theorem b324_76 {n : Nat} {h : q_Hp} {Q : Option Value → q_Hp → Prop} {x0 : Nat} {x1 : Int32} {x2 : Int32} (q : Q none h) : q_wp n 324 76 [some (.ref x0), some (.int x1), some (.int x2)] [] h Q := by
  exact wp_ret rfl rfl q
theorem b325_0 {n : Nat} {h : q_Hp} {Q : Option Value → q_Hp → Prop} {x0 : Nat} {x1 : Int32} {x2 : Int32} (wt : x1 < 0 → q_wp n 325 23 [some (.ref x0), some (.int x1), some (.int x2)] [] h Q) (wf : ¬ x1 < 0 → q_wp n 325 4 [some (.ref x0), some (.int x1), some (.int x2)] [] h Q) : q_wp n 325 0 [some (.ref x0), some (.int x1), some (.int x2)] [] h Q := by
  refine wp_loc rfl rfl ?_
  exact wp_iflt (tgt := 23) rfl (by decide) wt wf
theorem b325_4 {n : Nat} {h : q_Hp} {Q : Option Value → q_Hp → Prop} {x0 : Nat} {x1 : Int32} {x2 : Int32} (wt : x2 = 0 → q_wp n 325 16 [some (.ref x0), some (.int x1), some (.int x2)] [.int x1] h Q) (wf : ¬ x2 = 0 → q_wp n 325 9 [some (.ref x0), some (.int x1), some (.int x2)] [.int x1] h Q) : q_wp n 325 4 [some (.ref x0), some (.int x1), some (.int x2)] [] h Q := by
  refine wp_loc rfl rfl ?_
  refine wp_loc rfl rfl ?_
  exact wp_ifeq (tgt := 16) rfl (by decide) wt wf
theorem b325_9 {n : Nat} {h : q_Hp} {Q : Option Value → q_Hp → Prop} {x0 : Nat} {x1 : Int32} {x2 : Int32} {s0 : Int32} (k0 : q_ok h x0 12) (w : q_wp n 325 20 [some (.ref x0), some (.int x1), some (.int x2)] [.int (qI h x0 96), .int s0] h Q) : q_wp n 325 9 [some (.ref x0), some (.int x1), some (.int x2)] [.int s0] h Q := by
  refine wp_loc rfl rfl ?_
  refine wp_getI rfl rfl rfl k0 ?_
  refine wp_goto (tgt := 20) rfl (by decide) ?_
  exact w
theorem b325_16 {n : Nat} {h : q_Hp} {Q : Option Value → q_Hp → Prop} {x0 : Nat} {x1 : Int32} {x2 : Int32} {s0 : Int32} (k0 : q_ok h x0 12) (w : q_wp n 325 20 [some (.ref x0), some (.int x1), some (.int x2)] [.int (qI h x0 95), .int s0] h Q) : q_wp n 325 16 [some (.ref x0), some (.int x1), some (.int x2)] [.int s0] h Q := by
  refine wp_loc rfl rfl ?_
  refine wp_getI rfl rfl rfl k0 ?_
  exact w
theorem b325_20 {n : Nat} {h : q_Hp} {Q : Option Value → q_Hp → Prop} {x0 : Nat} {x1 : Int32} {x2 : Int32} {s0 : Int32} {s1 : Int32} (wt : s1 < s0 → q_wp n 325 25 [some (.ref x0), some (.int x1), some (.int x2)] [] h Q) (wf : ¬ s1 < s0 → q_wp n 325 23 [some (.ref x0), some (.int x1), some (.int x2)] [] h Q) : q_wp n 325 20 [some (.ref x0), some (.int x1), some (.int x2)] [.int s0, .int s1] h Q := by
  exact wp_iclt (tgt := 25) rfl (by decide) wt wf
theorem b325_23 {n : Nat} {h : q_Hp} {Q : Option Value → q_Hp → Prop} {x0 : Nat} {x1 : Int32} {x2 : Int32} (q : Q (some (.int (-1))) h) : q_wp n 325 23 [some (.ref x0), some (.int x1), some (.int x2)] [] h Q := by
  refine wp_iconst (v := (-1)) rfl (by decide) ?_
  exact wp_ret rfl rfl q
theorem b325_25 {n : Nat} {h : q_Hp} {Q : Option Value → q_Hp → Prop} {x0 : Nat} {x1 : Int32} {x2 : Int32} (wt : x2 = 0 → q_wp n 325 38 [some (.ref x0), some (.int x1), some (.int x2)] [] h Q) (wf : ¬ x2 = 0 → q_wp n 325 29 [some (.ref x0), some (.int x1), some (.int x2)] [] h Q) : q_wp n 325 25 [some (.ref x0), some (.int x1), some (.int x2)] [] h Q := by
  refine wp_loc rfl rfl ?_
  exact wp_ifeq (tgt := 38) rfl (by decide) wt wf
theorem b325_29 {n : Nat} {h : q_Hp} {Q : Option Value → q_Hp → Prop} {x0 : Nat} {x1 : Int32} {x2 : Int32} {v0 : Nat} (k0 : q_ok h x0 12) (e0 : qR h x0 98 = v0) (k1 : q_ok h v0 20) (i0 : q_in x1 (qK h v0).2) (q : Q (some (.int (qA h v0 x1.toNatClampNeg))) h) : q_wp n 325 29 [some (.ref x0), some (.int x1), some (.int x2)] [] h Q := by
  refine wp_loc rfl rfl ?_
  refine wp_getR rfl rfl rfl rfl k0 e0 ?_
  refine wp_loc rfl rfl ?_
  refine wp_iald rfl k1 i0 ?_
  refine wp_goto (tgt := 44) rfl (by decide) ?_
  exact wp_ret rfl rfl q
theorem b325_38 {n : Nat} {h : q_Hp} {Q : Option Value → q_Hp → Prop} {x0 : Nat} {x1 : Int32} {x2 : Int32} {v0 : Nat} (k0 : q_ok h x0 12) (e0 : qR h x0 97 = v0) (k1 : q_ok h v0 20) (i0 : q_in x1 (qK h v0).2) (q : Q (some (.int (qA h v0 x1.toNatClampNeg))) h) : q_wp n 325 38 [some (.ref x0), some (.int x1), some (.int x2)] [] h Q := by
  refine wp_loc rfl rfl ?_
  refine wp_getR rfl rfl rfl rfl k0 e0 ?_
  refine wp_loc rfl rfl ?_
  refine wp_iald rfl k1 i0 ?_
  exact wp_ret rfl rfl q
set_option maxRecDepth 20000 in
theorem b326_0 {n : Nat} {h : q_Hp} {Q : Option Value → q_Hp → Prop} {x0 : Nat} {x1 : Int32} {m : Nat} {P : Int32 → q_Hp → Prop} (hc : q_mI m 296 [.ref x0, .int 0, .int 12] h P) (hm : m ≤ n) (w : ∀ (z : Int32) (h1 : q_Hp), P z h1 → q_wp (n + 1) 326 7 [some (.ref x0), some (.int x1), none, none, none, none, none] [.int z] h1 Q) : q_wp (n + 1) 326 0 [some (.ref x0), some (.int x1), none, none, none, none, none] [] h Q := by
  refine wp_loc rfl rfl ?_
  refine wp_iconst (v := 0) rfl (by decide) ?_
  refine wp_bipush (v := 12) rfl (by decide) ?_
  exact wp_callI (av := [.ref x0, .int 0, .int 12]) rfl rfl rfl (by decide) rfl rfl rfl hm hc w
set_option maxRecDepth 20000 in
theorem b326_7 {n : Nat} {h : q_Hp} {Q : Option Value → q_Hp → Prop} {x0 : Nat} {x1 : Int32} {s0 : Int32} {m : Nat} {P : Int32 → q_Hp → Prop} (hc : q_mI m 296 [.ref x0, .int 36, .int 40] h P) (hm : m ≤ n) (w : ∀ (z : Int32) (h1 : q_Hp), P z h1 → q_wp (n + 1) 326 16 [some (.ref x0), some (.int x1), some (.int s0), none, none, none, none] [.int z] h1 Q) : q_wp (n + 1) 326 7 [some (.ref x0), some (.int x1), none, none, none, none, none] [.int s0] h Q := by
  refine wp_loc rfl rfl ?_
  refine wp_loc rfl rfl ?_
  refine wp_bipush (v := 36) rfl (by decide) ?_
  refine wp_bipush (v := 40) rfl (by decide) ?_
  exact wp_callI (av := [.ref x0, .int 36, .int 40]) rfl rfl rfl (by decide) rfl rfl rfl hm hc w
set_option maxRecDepth 20000 in
theorem b326_16 {n : Nat} {h : q_Hp} {Q : Option Value → q_Hp → Prop} {x0 : Nat} {x1 : Int32} {x2 : Int32} {s0 : Int32} (w : q_wp n 326 20 [some (.ref x0), some (.int x1), some (.int x2), some (.int s0), some (.int 0), none, none] [] h Q) : q_wp n 326 16 [some (.ref x0), some (.int x1), some (.int x2), none, none, none, none] [.int s0] h Q := by
  refine wp_loc rfl rfl ?_
  refine wp_iconst (v := 0) rfl (by decide) ?_
  refine wp_loc rfl rfl ?_
  exact w
set_option maxRecDepth 20000 in
theorem b326_20 {n : Nat} {h : q_Hp} {Q : Option Value → q_Hp → Prop} {x0 : Nat} {x1 : Int32} {x2 : Int32} {x3 : Int32} {x4 : Int32} {l5 : Option Value} {v0 : Nat} (k0 : q_ok h x0 12) (e0 : qR h x0 49 = v0) (k1 : q_ok h v0 20) (i0 : q_in x1 (qK h v0).2) (wt : (qA h v0 x1.toNatClampNeg) ≤ x4 → q_wp n 326 94 [some (.ref x0), some (.int x1), some (.int x2), some (.int x3), some (.int x4), l5, none] [] h Q) (wf : ¬ (qA h v0 x1.toNatClampNeg) ≤ x4 → q_wp n 326 31 [some (.ref x0), some (.int x1), some (.int x2), some (.int x3), some (.int x4), l5, none] [] h Q) : q_wp n 326 20 [some (.ref x0), some (.int x1), some (.int x2), some (.int x3), some (.int x4), l5, none] [] h Q := by
  refine wp_loc rfl rfl ?_
  refine wp_loc rfl rfl ?_
  refine wp_getR rfl rfl rfl rfl k0 e0 ?_
  refine wp_loc rfl rfl ?_
  refine wp_iald rfl k1 i0 ?_
  exact wp_icge (tgt := 94) rfl (by decide) wt wf
set_option maxRecDepth 20000 in
theorem b326_31 {n : Nat} {h : q_Hp} {Q : Option Value → q_Hp → Prop} {x0 : Nat} {x1 : Int32} {x2 : Int32} {x3 : Int32} {x4 : Int32} {l5 : Option Value} {v0 : Nat} (k0 : q_ok h x0 12) (e0 : qR h x0 50 = v0) (k1 : q_ok h v0 20) (i0 : q_in ((8 * x1) + x4) (qK h v0).2) (wt : (qA h v0 (((8 * x1) + x4 : Int32).toNatClampNeg)) = 4 → q_wp n 326 54 [some (.ref x0), some (.int x1), some (.int x2), some (.int x3), some (.int x4), some (.int ((8 * x1) + x4)), none] [] h Q) (wf : ¬ (qA h v0 (((8 * x1) + x4 : Int32).toNatClampNeg)) = 4 → q_wp n 326 51 [some (.ref x0), some (.int x1), some (.int x2), some (.int x3), some (.int x4), some (.int ((8 * x1) + x4)), none] [] h Q) : q_wp n 326 31 [some (.ref x0), some (.int x1), some (.int x2), some (.int x3), some (.int x4), l5, none] [] h Q := by
  refine wp_bipush (v := 8) rfl (by decide) ?_
  refine wp_loc rfl rfl ?_
  refine wp_stk rfl rfl rfl ?_
  refine wp_loc rfl rfl ?_
  refine wp_stk rfl rfl rfl ?_
  refine wp_loc rfl rfl ?_
  refine wp_loc rfl rfl ?_
  refine wp_getR rfl rfl rfl rfl k0 e0 ?_
  refine wp_loc rfl rfl ?_
  refine wp_iald rfl k1 i0 ?_
  refine wp_iconst (v := 4) rfl (by decide) ?_
  exact wp_iceq (tgt := 54) rfl (by decide) wt wf
set_option maxRecDepth 20000 in
theorem b326_51 {n : Nat} {h : q_Hp} {Q : Option Value → q_Hp → Prop} {x0 : Nat} {x1 : Int32} {x2 : Int32} {x3 : Int32} {x4 : Int32} {x5 : Int32} (w : q_wp n 326 88 [some (.ref x0), some (.int x1), some (.int x2), some (.int x3), some (.int x4), some (.int x5), none] [] h Q) : q_wp n 326 51 [some (.ref x0), some (.int x1), some (.int x2), some (.int x3), some (.int x4), some (.int x5), none] [] h Q := by
  refine wp_goto (tgt := 88) rfl (by decide) ?_
  exact w
set_option maxRecDepth 20000 in
theorem b326_54 {n : Nat} {h : q_Hp} {Q : Option Value → q_Hp → Prop} {x0 : Nat} {x1 : Int32} {x2 : Int32} {x3 : Int32} {x4 : Int32} {x5 : Int32} {v0 : Nat} {v1 : Nat} {v2 : Nat} (k0 : q_ok h x0 12) (e0 : qR h x0 101 = v0) (e1 : qR h x0 54 = v1) (k1 : q_ok h v1 20) (i0 : q_in x5 (qK h v1).2) (e2 : qR h x0 55 = v2) (k2 : q_ok h v2 20) (i1 : q_in x5 (qK h v2).2) {m : Nat} {P : Int32 → q_Hp → Prop} (hc : q_mI m 312 [.ref x0, .int (qA h v1 x5.toNatClampNeg), .int (qA h v2 x5.toNatClampNeg)] h P) (hm : m ≤ n) (w : ∀ (z : Int32) (h1 : q_Hp), P z h1 → q_wp (n + 1) 326 78 [some (.ref x0), some (.int x1), some (.int x2), some (.int x3), some (.int x4), some (.int x5), none] [.int z, .int x4, .ref v0] h1 Q) : q_wp (n + 1) 326 54 [some (.ref x0), some (.int x1), some (.int x2), some (.int x3), some (.int x4), some (.int x5), none] [] h Q := by
  refine wp_loc rfl rfl ?_
  refine wp_getR rfl rfl rfl rfl k0 e0 ?_
  refine wp_loc rfl rfl ?_
  refine wp_loc rfl rfl ?_
  refine wp_loc rfl rfl ?_
  refine wp_getR rfl rfl rfl rfl k0 e1 ?_
  refine wp_loc rfl rfl ?_
  refine wp_iald rfl k1 i0 ?_
  refine wp_loc rfl rfl ?_
  refine wp_getR rfl rfl rfl rfl k0 e2 ?_
  refine wp_loc rfl rfl ?_
  refine wp_iald rfl k2 i1 ?_
  exact wp_callI (av := [.ref x0, .int (qA h v1 x5.toNatClampNeg), .int (qA h v2 x5.toNatClampNeg)]) rfl rfl rfl (by decide) rfl rfl rfl hm hc w
set_option maxRecDepth 20000 in
theorem b326_78 {n : Nat} {h : q_Hp} {Q : Option Value → q_Hp → Prop} {x0 : Nat} {x1 : Int32} {x2 : Int32} {x3 : Int32} {x4 : Int32} {x5 : Int32} {s0 : Int32} {s1 : Int32} {s2 : Nat} (k0 : q_ok h s2 20) (i0 : q_in s1 (qK h s2).2) (k1 : q_ok h x0 12) (wt : (qI h x0 99) = 0 → q_wp n 326 88 [some (.ref x0), some (.int x1), some (.int x2), some (.int x3), some (.int x4), some (.int x5), none] [] (q_sA h s2 s1.toNatClampNeg s0) Q) (wf : ¬ (qI h x0 99) = 0 → q_wp n 326 86 [some (.ref x0), some (.int x1), some (.int x2), some (.int x3), some (.int x4), some (.int x5), none] [] (q_sA h s2 s1.toNatClampNeg s0) Q) : q_wp n 326 78 [some (.ref x0), some (.int x1), some (.int x2), some (.int x3), some (.int x4), some (.int x5), none] [.int s0, .int s1, .ref s2] h Q := by
  refine wp_iast rfl k0 i0 ?_
  refine wp_loc rfl rfl ?_
  refine wp_getI rfl rfl rfl k1 ?_
  exact wp_ifeq (tgt := 88) rfl (by decide) wt wf
set_option maxRecDepth 20000 in
theorem b326_86 {n : Nat} {h : q_Hp} {Q : Option Value → q_Hp → Prop} {x0 : Nat} {x1 : Int32} {x2 : Int32} {x3 : Int32} {x4 : Int32} {x5 : Int32} (q : Q (some (.int 0)) h) : q_wp n 326 86 [some (.ref x0), some (.int x1), some (.int x2), some (.int x3), some (.int x4), some (.int x5), none] [] h Q := by
  refine wp_iconst (v := 0) rfl (by decide) ?_
  exact wp_ret (r := some (.int 0)) rfl rfl q
set_option maxRecDepth 20000 in
theorem b326_88 {n : Nat} {h : q_Hp} {Q : Option Value → q_Hp → Prop} {x0 : Nat} {x1 : Int32} {x2 : Int32} {x3 : Int32} {x4 : Int32} {x5 : Int32} (w : q_wp n 326 20 [some (.ref x0), some (.int x1), some (.int x2), some (.int x3), some (.int (x4 + 1)), some (.int x5), none] [] h Q) : q_wp n 326 88 [some (.ref x0), some (.int x1), some (.int x2), some (.int x3), some (.int x4), some (.int x5), none] [] h Q := by
  refine wp_iinc (v := 1) rfl rfl (by decide) rfl ?_
  refine wp_goto (tgt := 20) rfl (by decide) ?_
  exact w
set_option maxRecDepth 20000 in
theorem b326_94 {n : Nat} {h : q_Hp} {Q : Option Value → q_Hp → Prop} {x0 : Nat} {x1 : Int32} {x2 : Int32} {x3 : Int32} {x4 : Int32} {l5 : Option Value} (w : q_wp n 326 97 [some (.ref x0), some (.int x1), some (.int x2), some (.int x3), some (.int 0), l5, none] [] h Q) : q_wp n 326 94 [some (.ref x0), some (.int x1), some (.int x2), some (.int x3), some (.int x4), l5, none] [] h Q := by
  refine wp_iconst (v := 0) rfl (by decide) ?_
  refine wp_loc rfl rfl ?_
  exact w
set_option maxRecDepth 20000 in
theorem b326_97 {n : Nat} {h : q_Hp} {Q : Option Value → q_Hp → Prop} {x0 : Nat} {x1 : Int32} {x2 : Int32} {x3 : Int32} {x4 : Int32} {l5 : Option Value} {v0 : Nat} (k0 : q_ok h x0 12) (e0 : qR h x0 49 = v0) (k1 : q_ok h v0 20) (i0 : q_in x1 (qK h v0).2) (wt : (qA h v0 x1.toNatClampNeg) ≤ x4 → q_wp n 326 177 [some (.ref x0), some (.int x1), some (.int x2), some (.int x3), some (.int x4), l5, none] [] h Q) (wf : ¬ (qA h v0 x1.toNatClampNeg) ≤ x4 → q_wp n 326 108 [some (.ref x0), some (.int x1), some (.int x2), some (.int x3), some (.int x4), l5, none] [] h Q) : q_wp n 326 97 [some (.ref x0), some (.int x1), some (.int x2), some (.int x3), some (.int x4), l5, none] [] h Q := by
  refine wp_loc rfl rfl ?_
  refine wp_loc rfl rfl ?_
  refine wp_getR rfl rfl rfl rfl k0 e0 ?_
  refine wp_loc rfl rfl ?_
  refine wp_iald rfl k1 i0 ?_
  exact wp_icge (tgt := 177) rfl (by decide) wt wf
set_option maxRecDepth 20000 in
theorem b326_108 {n : Nat} {h : q_Hp} {Q : Option Value → q_Hp → Prop} {x0 : Nat} {x1 : Int32} {x2 : Int32} {x3 : Int32} {x4 : Int32} {l5 : Option Value} {v0 : Nat} (k0 : q_ok h x0 12) (e0 : qR h x0 50 = v0) (k1 : q_ok h v0 20) (i0 : q_in ((8 * x1) + x4) (qK h v0).2) (wt : ¬ (qA h v0 (((8 * x1) + x4 : Int32).toNatClampNeg)) = 0 → q_wp n 326 130 [some (.ref x0), some (.int x1), some (.int x2), some (.int x3), some (.int x4), some (.int (qA h v0 (((8 * x1) + x4 : Int32).toNatClampNeg))), none] [] h Q) (wf : (qA h v0 (((8 * x1) + x4 : Int32).toNatClampNeg)) = 0 → q_wp n 326 127 [some (.ref x0), some (.int x1), some (.int x2), some (.int x3), some (.int x4), some (.int (qA h v0 (((8 * x1) + x4 : Int32).toNatClampNeg))), none] [] h Q) : q_wp n 326 108 [some (.ref x0), some (.int x1), some (.int x2), some (.int x3), some (.int x4), l5, none] [] h Q := by
  refine wp_loc rfl rfl ?_
  refine wp_getR rfl rfl rfl rfl k0 e0 ?_
  refine wp_bipush (v := 8) rfl (by decide) ?_
  refine wp_loc rfl rfl ?_
  refine wp_stk rfl rfl rfl ?_
  refine wp_loc rfl rfl ?_
  refine wp_stk rfl rfl rfl ?_
  refine wp_iald rfl k1 i0 ?_
  refine wp_loc rfl rfl ?_
  refine wp_loc rfl rfl ?_
  exact wp_ifne (tgt := 130) rfl (by decide) wt wf
set_option maxRecDepth 20000 in
theorem b326_127 {n : Nat} {h : q_Hp} {Q : Option Value → q_Hp → Prop} {x0 : Nat} {x1 : Int32} {x2 : Int32} {x3 : Int32} {x4 : Int32} {x5 : Int32} (w : q_wp n 326 130 [some (.ref x0), some (.int x1), some (.int (x2 + (-1))), some (.int x3), some (.int x4), some (.int x5), none] [] h Q) : q_wp n 326 127 [some (.ref x0), some (.int x1), some (.int x2), some (.int x3), some (.int x4), some (.int x5), none] [] h Q := by
  refine wp_iinc (v := (-1)) rfl rfl (by decide) rfl ?_
  exact w
set_option maxRecDepth 20000 in
theorem b326_130 {n : Nat} {h : q_Hp} {Q : Option Value → q_Hp → Prop} {x0 : Nat} {x1 : Int32} {x2 : Int32} {x3 : Int32} {x4 : Int32} {x5 : Int32} (wt : ¬ x5 = 1 → q_wp n 326 139 [some (.ref x0), some (.int x1), some (.int x2), some (.int x3), some (.int x4), some (.int x5), none] [] h Q) (wf : x5 = 1 → q_wp n 326 136 [some (.ref x0), some (.int x1), some (.int x2), some (.int x3), some (.int x4), some (.int x5), none] [] h Q) : q_wp n 326 130 [some (.ref x0), some (.int x1), some (.int x2), some (.int x3), some (.int x4), some (.int x5), none] [] h Q := by
  refine wp_loc rfl rfl ?_
  refine wp_iconst (v := 1) rfl (by decide) ?_
  exact wp_icne (tgt := 139) rfl (by decide) wt wf
set_option maxRecDepth 20000 in
theorem b326_136 {n : Nat} {h : q_Hp} {Q : Option Value → q_Hp → Prop} {x0 : Nat} {x1 : Int32} {x2 : Int32} {x3 : Int32} {x4 : Int32} {x5 : Int32} (w : q_wp n 326 139 [some (.ref x0), some (.int x1), some (.int x2), some (.int (x3 + (-1))), some (.int x4), some (.int x5), none] [] h Q) : q_wp n 326 136 [some (.ref x0), some (.int x1), some (.int x2), some (.int x3), some (.int x4), some (.int x5), none] [] h Q := by
  refine wp_iinc (v := (-1)) rfl rfl (by decide) rfl ?_
  exact w
set_option maxRecDepth 20000 in
theorem b326_139 {n : Nat} {h : q_Hp} {Q : Option Value → q_Hp → Prop} {x0 : Nat} {x1 : Int32} {x2 : Int32} {x3 : Int32} {x4 : Int32} {x5 : Int32} (wt : ¬ x5 = 2 → q_wp n 326 148 [some (.ref x0), some (.int x1), some (.int x2), some (.int x3), some (.int x4), some (.int x5), none] [] h Q) (wf : x5 = 2 → q_wp n 326 145 [some (.ref x0), some (.int x1), some (.int x2), some (.int x3), some (.int x4), some (.int x5), none] [] h Q) : q_wp n 326 139 [some (.ref x0), some (.int x1), some (.int x2), some (.int x3), some (.int x4), some (.int x5), none] [] h Q := by
  refine wp_loc rfl rfl ?_
  refine wp_iconst (v := 2) rfl (by decide) ?_
  exact wp_icne (tgt := 148) rfl (by decide) wt wf
set_option maxRecDepth 20000 in
theorem b326_145 {n : Nat} {h : q_Hp} {Q : Option Value → q_Hp → Prop} {x0 : Nat} {x1 : Int32} {x2 : Int32} {x3 : Int32} {x4 : Int32} {x5 : Int32} (w : q_wp n 326 148 [some (.ref x0), some (.int x1), some (.int (x2 + 1)), some (.int x3), some (.int x4), some (.int x5), none] [] h Q) : q_wp n 326 145 [some (.ref x0), some (.int x1), some (.int x2), some (.int x3), some (.int x4), some (.int x5), none] [] h Q := by
  refine wp_iinc (v := 1) rfl rfl (by decide) rfl ?_
  exact w
set_option maxRecDepth 20000 in
theorem b326_148 {n : Nat} {h : q_Hp} {Q : Option Value → q_Hp → Prop} {x0 : Nat} {x1 : Int32} {x2 : Int32} {x3 : Int32} {x4 : Int32} {x5 : Int32} (wt : ¬ x5 = 3 → q_wp n 326 157 [some (.ref x0), some (.int x1), some (.int x2), some (.int x3), some (.int x4), some (.int x5), none] [] h Q) (wf : x5 = 3 → q_wp n 326 154 [some (.ref x0), some (.int x1), some (.int x2), some (.int x3), some (.int x4), some (.int x5), none] [] h Q) : q_wp n 326 148 [some (.ref x0), some (.int x1), some (.int x2), some (.int x3), some (.int x4), some (.int x5), none] [] h Q := by
  refine wp_loc rfl rfl ?_
  refine wp_iconst (v := 3) rfl (by decide) ?_
  exact wp_icne (tgt := 157) rfl (by decide) wt wf
set_option maxRecDepth 20000 in
theorem b326_154 {n : Nat} {h : q_Hp} {Q : Option Value → q_Hp → Prop} {x0 : Nat} {x1 : Int32} {x2 : Int32} {x3 : Int32} {x4 : Int32} {x5 : Int32} (w : q_wp n 326 157 [some (.ref x0), some (.int x1), some (.int x2), some (.int (x3 + 1)), some (.int x4), some (.int x5), none] [] h Q) : q_wp n 326 154 [some (.ref x0), some (.int x1), some (.int x2), some (.int x3), some (.int x4), some (.int x5), none] [] h Q := by
  refine wp_iinc (v := 1) rfl rfl (by decide) rfl ?_
  exact w
set_option maxRecDepth 20000 in
theorem b326_157 {n : Nat} {h : q_Hp} {Q : Option Value → q_Hp → Prop} {x0 : Nat} {x1 : Int32} {x2 : Int32} {x3 : Int32} {x4 : Int32} {x5 : Int32} (wt : 12 < x2 → q_wp n 326 169 [some (.ref x0), some (.int x1), some (.int x2), some (.int x3), some (.int x4), some (.int x5), none] [] h Q) (wf : ¬ 12 < x2 → q_wp n 326 163 [some (.ref x0), some (.int x1), some (.int x2), some (.int x3), some (.int x4), some (.int x5), none] [] h Q) : q_wp n 326 157 [some (.ref x0), some (.int x1), some (.int x2), some (.int x3), some (.int x4), some (.int x5), none] [] h Q := by
  refine wp_loc rfl rfl ?_
  refine wp_bipush (v := 12) rfl (by decide) ?_
  exact wp_icgt (tgt := 169) rfl (by decide) wt wf
set_option maxRecDepth 20000 in
theorem b326_163 {n : Nat} {h : q_Hp} {Q : Option Value → q_Hp → Prop} {x0 : Nat} {x1 : Int32} {x2 : Int32} {x3 : Int32} {x4 : Int32} {x5 : Int32} (wt : x3 ≤ 40 → q_wp n 326 171 [some (.ref x0), some (.int x1), some (.int x2), some (.int x3), some (.int x4), some (.int x5), none] [] h Q) (wf : ¬ x3 ≤ 40 → q_wp n 326 169 [some (.ref x0), some (.int x1), some (.int x2), some (.int x3), some (.int x4), some (.int x5), none] [] h Q) : q_wp n 326 163 [some (.ref x0), some (.int x1), some (.int x2), some (.int x3), some (.int x4), some (.int x5), none] [] h Q := by
  refine wp_loc rfl rfl ?_
  refine wp_bipush (v := 40) rfl (by decide) ?_
  exact wp_icle (tgt := 171) rfl (by decide) wt wf
set_option maxRecDepth 20000 in
theorem b326_169 {n : Nat} {h : q_Hp} {Q : Option Value → q_Hp → Prop} {x0 : Nat} {x1 : Int32} {x2 : Int32} {x3 : Int32} {x4 : Int32} {x5 : Int32} (q : Q (some (.int 0)) h) : q_wp n 326 169 [some (.ref x0), some (.int x1), some (.int x2), some (.int x3), some (.int x4), some (.int x5), none] [] h Q := by
  refine wp_iconst (v := 0) rfl (by decide) ?_
  exact wp_ret (r := some (.int 0)) rfl rfl q
set_option maxRecDepth 20000 in
theorem b326_171 {n : Nat} {h : q_Hp} {Q : Option Value → q_Hp → Prop} {x0 : Nat} {x1 : Int32} {x2 : Int32} {x3 : Int32} {x4 : Int32} {x5 : Int32} (w : q_wp n 326 97 [some (.ref x0), some (.int x1), some (.int x2), some (.int x3), some (.int (x4 + 1)), some (.int x5), none] [] h Q) : q_wp n 326 171 [some (.ref x0), some (.int x1), some (.int x2), some (.int x3), some (.int x4), some (.int x5), none] [] h Q := by
  refine wp_iinc (v := 1) rfl rfl (by decide) rfl ?_
  refine wp_goto (tgt := 97) rfl (by decide) ?_
  exact w
set_option maxRecDepth 20000 in
theorem b326_177 {n : Nat} {h : q_Hp} {Q : Option Value → q_Hp → Prop} {x0 : Nat} {x1 : Int32} {x2 : Int32} {x3 : Int32} {x4 : Int32} {l5 : Option Value} (w : q_wp n 326 180 [some (.ref x0), some (.int x1), some (.int x2), some (.int x3), some (.int 0), l5, none] [] h Q) : q_wp n 326 177 [some (.ref x0), some (.int x1), some (.int x2), some (.int x3), some (.int x4), l5, none] [] h Q := by
  refine wp_iconst (v := 0) rfl (by decide) ?_
  refine wp_loc rfl rfl ?_
  exact w
set_option maxRecDepth 20000 in
theorem b326_180 {n : Nat} {h : q_Hp} {Q : Option Value → q_Hp → Prop} {x0 : Nat} {x1 : Int32} {x2 : Int32} {x3 : Int32} {x4 : Int32} {l5 : Option Value} {v0 : Nat} (k0 : q_ok h x0 12) (e0 : qR h x0 31 = v0) (k1 : q_ok h v0 20) (i0 : q_in x1 (qK h v0).2) (wt : (qA h v0 x1.toNatClampNeg) ≤ x4 → q_wp n 326 211 [some (.ref x0), some (.int x1), some (.int x2), some (.int x3), some (.int x4), l5, none] [] h Q) (wf : ¬ (qA h v0 x1.toNatClampNeg) ≤ x4 → q_wp n 326 191 [some (.ref x0), some (.int x1), some (.int x2), some (.int x3), some (.int x4), l5, none] [] h Q) : q_wp n 326 180 [some (.ref x0), some (.int x1), some (.int x2), some (.int x3), some (.int x4), l5, none] [] h Q := by
  refine wp_loc rfl rfl ?_
  refine wp_loc rfl rfl ?_
  refine wp_getR rfl rfl rfl rfl k0 e0 ?_
  refine wp_loc rfl rfl ?_
  refine wp_iald rfl k1 i0 ?_
  exact wp_icge (tgt := 211) rfl (by decide) wt wf
set_option maxRecDepth 20000 in
theorem b326_191 {n : Nat} {h : q_Hp} {Q : Option Value → q_Hp → Prop} {x0 : Nat} {x1 : Int32} {x2 : Int32} {x3 : Int32} {x4 : Int32} {l5 : Option Value} {v0 : Nat} {v1 : Nat} (k0 : q_ok h x0 12) (e0 : qR h x0 102 = v0) (e1 : qR h x0 93 = v1) (k1 : q_ok h v1 20) (i0 : q_in x4 (qK h v1).2) (k2 : q_ok h v0 20) (i1 : q_in x4 (qK h v0).2) (w : q_wp n 326 180 [some (.ref x0), some (.int x1), some (.int x2), some (.int x3), some (.int (x4 + 1)), l5, none] [] (q_sA h v0 x4.toNatClampNeg (qA h v1 x4.toNatClampNeg)) Q) : q_wp n 326 191 [some (.ref x0), some (.int x1), some (.int x2), some (.int x3), some (.int x4), l5, none] [] h Q := by
  refine wp_loc rfl rfl ?_
  refine wp_getR rfl rfl rfl rfl k0 e0 ?_
  refine wp_loc rfl rfl ?_
  refine wp_loc rfl rfl ?_
  refine wp_getR rfl rfl rfl rfl k0 e1 ?_
  refine wp_loc rfl rfl ?_
  refine wp_iald rfl k1 i0 ?_
  refine wp_iast rfl k2 i1 ?_
  refine wp_iinc (v := 1) rfl rfl (by decide) rfl ?_
  refine wp_goto (tgt := 180) rfl (by decide) ?_
  exact w
set_option maxRecDepth 20000 in
theorem b326_211 {n : Nat} {h : q_Hp} {Q : Option Value → q_Hp → Prop} {x0 : Nat} {x1 : Int32} {x2 : Int32} {x3 : Int32} {x4 : Int32} {l5 : Option Value} (w : q_wp n 326 214 [some (.ref x0), some (.int x1), some (.int x2), some (.int x3), some (.int 0), l5, none] [] h Q) : q_wp n 326 211 [some (.ref x0), some (.int x1), some (.int x2), some (.int x3), some (.int x4), l5, none] [] h Q := by
  refine wp_iconst (v := 0) rfl (by decide) ?_
  refine wp_loc rfl rfl ?_
  exact w
set_option maxRecDepth 20000 in
theorem b326_214 {n : Nat} {h : q_Hp} {Q : Option Value → q_Hp → Prop} {x0 : Nat} {x1 : Int32} {x2 : Int32} {x3 : Int32} {x4 : Int32} {l5 : Option Value} {l6 : Option Value} {v0 : Nat} (k0 : q_ok h x0 12) (e0 : qR h x0 49 = v0) (k1 : q_ok h v0 20) (i0 : q_in x1 (qK h v0).2) (wt : (qA h v0 x1.toNatClampNeg) ≤ x4 → q_wp n 326 424 [some (.ref x0), some (.int x1), some (.int x2), some (.int x3), some (.int x4), l5, l6] [] h Q) (wf : ¬ (qA h v0 x1.toNatClampNeg) ≤ x4 → q_wp n 326 225 [some (.ref x0), some (.int x1), some (.int x2), some (.int x3), some (.int x4), l5, l6] [] h Q) : q_wp n 326 214 [some (.ref x0), some (.int x1), some (.int x2), some (.int x3), some (.int x4), l5, l6] [] h Q := by
  refine wp_loc rfl rfl ?_
  refine wp_loc rfl rfl ?_
  refine wp_getR rfl rfl rfl rfl k0 e0 ?_
  refine wp_loc rfl rfl ?_
  refine wp_iald rfl k1 i0 ?_
  exact wp_icge (tgt := 424) rfl (by decide) wt wf
set_option maxRecDepth 20000 in
theorem b326_225 {n : Nat} {h : q_Hp} {Q : Option Value → q_Hp → Prop} {x0 : Nat} {x1 : Int32} {x2 : Int32} {x3 : Int32} {x4 : Int32} {l5 : Option Value} {l6 : Option Value} {v0 : Nat} (k0 : q_ok h x0 12) (e0 : qR h x0 50 = v0) (k1 : q_ok h v0 20) (i0 : q_in ((8 * x1) + x4) (qK h v0).2) (w0 : (qA h v0 (((8 * x1) + x4 : Int32).toNatClampNeg)) = 0 → q_wp n 326 272 [some (.ref x0), some (.int x1), some (.int x2), some (.int x3), some (.int x4), some (.int ((8 * x1) + x4)), l6] [] h Q) (w1 : (qA h v0 (((8 * x1) + x4 : Int32).toNatClampNeg)) = 1 → q_wp n 326 291 [some (.ref x0), some (.int x1), some (.int x2), some (.int x3), some (.int x4), some (.int ((8 * x1) + x4)), l6] [] h Q) (w2 : (qA h v0 (((8 * x1) + x4 : Int32).toNatClampNeg)) = 2 → q_wp n 326 310 [some (.ref x0), some (.int x1), some (.int x2), some (.int x3), some (.int x4), some (.int ((8 * x1) + x4)), l6] [] h Q) (w3 : (qA h v0 (((8 * x1) + x4 : Int32).toNatClampNeg)) = 3 → q_wp n 326 336 [some (.ref x0), some (.int x1), some (.int x2), some (.int x3), some (.int x4), some (.int ((8 * x1) + x4)), l6] [] h Q) (wd : ((qA h v0 (((8 * x1) + x4 : Int32).toNatClampNeg)).toInt < 0 ∨ 3 < (qA h v0 (((8 * x1) + x4 : Int32).toNatClampNeg)).toInt) → q_wp n 326 376 [some (.ref x0), some (.int x1), some (.int x2), some (.int x3), some (.int x4), some (.int ((8 * x1) + x4)), l6] [] h Q) : q_wp n 326 225 [some (.ref x0), some (.int x1), some (.int x2), some (.int x3), some (.int x4), l5, l6] [] h Q := by
  refine wp_bipush (v := 8) rfl (by decide) ?_
  refine wp_loc rfl rfl ?_
  refine wp_stk rfl rfl rfl ?_
  refine wp_loc rfl rfl ?_
  refine wp_stk rfl rfl rfl ?_
  refine wp_loc rfl rfl ?_
  refine wp_loc rfl rfl ?_
  refine wp_getR rfl rfl rfl rfl k0 e0 ?_
  refine wp_loc rfl rfl ?_
  refine wp_iald rfl k1 i0 ?_
  refine wp_tab (dt := 376) (tg := fun j => [272, 291, 310, 336].getD j 0) rfl (by decide) (by decide) (by decide) (fun j hj hx => ?_) wd
  have hj : j < 4 := hj
  match j, hj, hx with
  | 0, _, hx => exact w0 (Int32.toInt_inj.mp hx)
  | 1, _, hx => exact w1 (Int32.toInt_inj.mp hx)
  | 2, _, hx => exact w2 (Int32.toInt_inj.mp hx)
  | 3, _, hx => exact w3 (Int32.toInt_inj.mp hx)
set_option maxRecDepth 20000 in
theorem b326_272 {n : Nat} {h : q_Hp} {Q : Option Value → q_Hp → Prop} {x0 : Nat} {x1 : Int32} {x2 : Int32} {x3 : Int32} {x4 : Int32} {x5 : Int32} {l6 : Option Value} {v0 : Nat} {v1 : Nat} (k0 : q_ok h x0 12) (e0 : qR h x0 93 = v0) (e1 : qR h x0 51 = v1) (k1 : q_ok h v1 20) (i0 : q_in x5 (qK h v1).2) (k2 : q_ok h v0 20) (i1 : q_in (qA h v1 x5.toNatClampNeg) (qK h v0).2) {m : Nat} {P : q_Hp → Prop} (hc : q_mV m 306 [.ref x0, .int (qA h v0 ((qA h v1 x5.toNatClampNeg : Int32).toNatClampNeg))] h P) (hm : m ≤ n) (w : ∀ h1 : q_Hp, P h1 → q_wp (n + 1) 326 288 [some (.ref x0), some (.int x1), some (.int x2), some (.int x3), some (.int x4), some (.int x5), l6] [] h1 Q) : q_wp (n + 1) 326 272 [some (.ref x0), some (.int x1), some (.int x2), some (.int x3), some (.int x4), some (.int x5), l6] [] h Q := by
  refine wp_loc rfl rfl ?_
  refine wp_loc rfl rfl ?_
  refine wp_getR rfl rfl rfl rfl k0 e0 ?_
  refine wp_loc rfl rfl ?_
  refine wp_getR rfl rfl rfl rfl k0 e1 ?_
  refine wp_loc rfl rfl ?_
  refine wp_iald rfl k1 i0 ?_
  refine wp_iald rfl k2 i1 ?_
  exact wp_callV (av := [.ref x0, .int (qA h v0 ((qA h v1 x5.toNatClampNeg : Int32).toNatClampNeg))]) rfl rfl rfl (by decide) rfl rfl rfl hm hc w
set_option maxRecDepth 20000 in
theorem b326_288 {n : Nat} {h : q_Hp} {Q : Option Value → q_Hp → Prop} {x0 : Nat} {x1 : Int32} {x2 : Int32} {x3 : Int32} {x4 : Int32} {x5 : Int32} {l6 : Option Value} (w : q_wp n 326 418 [some (.ref x0), some (.int x1), some (.int x2), some (.int x3), some (.int x4), some (.int x5), l6] [] h Q) : q_wp n 326 288 [some (.ref x0), some (.int x1), some (.int x2), some (.int x3), some (.int x4), some (.int x5), l6] [] h Q := by
  refine wp_goto (tgt := 418) rfl (by decide) ?_
  exact w
set_option maxRecDepth 20000 in
theorem b326_291 {n : Nat} {h : q_Hp} {Q : Option Value → q_Hp → Prop} {x0 : Nat} {x1 : Int32} {x2 : Int32} {x3 : Int32} {x4 : Int32} {x5 : Int32} {l6 : Option Value} {v0 : Nat} {v1 : Nat} (k0 : q_ok h x0 12) (e0 : qR h x0 94 = v0) (e1 : qR h x0 51 = v1) (k1 : q_ok h v1 20) (i0 : q_in x5 (qK h v1).2) (k2 : q_ok h v0 20) (i1 : q_in (qA h v1 x5.toNatClampNeg) (qK h v0).2) {m : Nat} {P : q_Hp → Prop} (hc : q_mV m 307 [.ref x0, .int (qA h v0 ((qA h v1 x5.toNatClampNeg : Int32).toNatClampNeg))] h P) (hm : m ≤ n) (w : ∀ h1 : q_Hp, P h1 → q_wp (n + 1) 326 307 [some (.ref x0), some (.int x1), some (.int x2), some (.int x3), some (.int x4), some (.int x5), l6] [] h1 Q) : q_wp (n + 1) 326 291 [some (.ref x0), some (.int x1), some (.int x2), some (.int x3), some (.int x4), some (.int x5), l6] [] h Q := by
  refine wp_loc rfl rfl ?_
  refine wp_loc rfl rfl ?_
  refine wp_getR rfl rfl rfl rfl k0 e0 ?_
  refine wp_loc rfl rfl ?_
  refine wp_getR rfl rfl rfl rfl k0 e1 ?_
  refine wp_loc rfl rfl ?_
  refine wp_iald rfl k1 i0 ?_
  refine wp_iald rfl k2 i1 ?_
  exact wp_callV (av := [.ref x0, .int (qA h v0 ((qA h v1 x5.toNatClampNeg : Int32).toNatClampNeg))]) rfl rfl rfl (by decide) rfl rfl rfl hm hc w
set_option maxRecDepth 20000 in
theorem b326_307 {n : Nat} {h : q_Hp} {Q : Option Value → q_Hp → Prop} {x0 : Nat} {x1 : Int32} {x2 : Int32} {x3 : Int32} {x4 : Int32} {x5 : Int32} {l6 : Option Value} (w : q_wp n 326 418 [some (.ref x0), some (.int x1), some (.int x2), some (.int x3), some (.int x4), some (.int x5), l6] [] h Q) : q_wp n 326 307 [some (.ref x0), some (.int x1), some (.int x2), some (.int x3), some (.int x4), some (.int x5), l6] [] h Q := by
  refine wp_goto (tgt := 418) rfl (by decide) ?_
  exact w
set_option maxRecDepth 20000 in
theorem b326_310 {n : Nat} {h : q_Hp} {Q : Option Value → q_Hp → Prop} {x0 : Nat} {x1 : Int32} {x2 : Int32} {x3 : Int32} {x4 : Int32} {x5 : Int32} {l6 : Option Value} {v0 : Nat} {v1 : Nat} {v2 : Nat} (k0 : q_ok h x0 12) (e0 : qR h x0 102 = v0) (e1 : qR h x0 51 = v1) (k1 : q_ok h v1 20) (i0 : q_in x5 (qK h v1).2) (e2 : qR h x0 52 = v2) (k2 : q_ok h v2 20) (i1 : q_in x5 (qK h v2).2) {m : Nat} {P : Int32 → q_Hp → Prop} (hc : q_mI m 299 [.ref x0, .int (qA h v2 x5.toNatClampNeg)] h P) (hm : m ≤ n) (w : ∀ (z : Int32) (h1 : q_Hp), P z h1 → q_wp (n + 1) 326 332 [some (.ref x0), some (.int x1), some (.int x2), some (.int x3), some (.int x4), some (.int x5), l6] [.int z, .int (qA h v1 x5.toNatClampNeg), .ref v0] h1 Q) : q_wp (n + 1) 326 310 [some (.ref x0), some (.int x1), some (.int x2), some (.int x3), some (.int x4), some (.int x5), l6] [] h Q := by
  refine wp_loc rfl rfl ?_
  refine wp_getR rfl rfl rfl rfl k0 e0 ?_
  refine wp_loc rfl rfl ?_
  refine wp_getR rfl rfl rfl rfl k0 e1 ?_
  refine wp_loc rfl rfl ?_
  refine wp_iald rfl k1 i0 ?_
  refine wp_loc rfl rfl ?_
  refine wp_loc rfl rfl ?_
  refine wp_getR rfl rfl rfl rfl k0 e2 ?_
  refine wp_loc rfl rfl ?_
  refine wp_iald rfl k2 i1 ?_
  exact wp_callI (av := [.ref x0, .int (qA h v2 x5.toNatClampNeg)]) rfl rfl rfl (by decide) rfl rfl rfl hm hc w
set_option maxRecDepth 20000 in
theorem b326_332 {n : Nat} {h : q_Hp} {Q : Option Value → q_Hp → Prop} {x0 : Nat} {x1 : Int32} {x2 : Int32} {x3 : Int32} {x4 : Int32} {x5 : Int32} {l6 : Option Value} {s0 : Int32} {s1 : Int32} {s2 : Nat} (k0 : q_ok h s2 20) (i0 : q_in s1 (qK h s2).2) (w : q_wp n 326 418 [some (.ref x0), some (.int x1), some (.int x2), some (.int x3), some (.int x4), some (.int x5), l6] [] (q_sA h s2 s1.toNatClampNeg s0) Q) : q_wp n 326 332 [some (.ref x0), some (.int x1), some (.int x2), some (.int x3), some (.int x4), some (.int x5), l6] [.int s0, .int s1, .ref s2] h Q := by
  refine wp_iast rfl k0 i0 ?_
  refine wp_goto (tgt := 418) rfl (by decide) ?_
  exact w
set_option maxRecDepth 20000 in
theorem b326_336 {n : Nat} {h : q_Hp} {Q : Option Value → q_Hp → Prop} {x0 : Nat} {x1 : Int32} {x2 : Int32} {x3 : Int32} {x4 : Int32} {x5 : Int32} {l6 : Option Value} {v0 : Nat} {v1 : Nat} {v2 : Nat} {v3 : Nat} (k0 : q_ok h x0 12) (e0 : qR h x0 52 = v0) (k1 : q_ok h v0 20) (i0 : q_in x5 (qK h v0).2) (e1 : qR h x0 102 = v1) (e2 : qR h x0 51 = v2) (k2 : q_ok h v2 20) (i1 : q_in x5 (qK h v2).2) (k3 : q_ok h v1 20) (i2 : q_in (qA h v2 x5.toNatClampNeg) (qK h v1).2) (e3 : qR h x0 53 = v3) (k4 : q_ok h v3 20) (i3 : q_in x5 (qK h v3).2) (i4 : q_in (qA h v3 x5.toNatClampNeg) (qK h v1).2) {m : Nat} {P : Int32 → q_Hp → Prop} (hc : q_mI m 300 [.ref x0, .int (qA h v0 x5.toNatClampNeg), .int (qA h v1 ((qA h v2 x5.toNatClampNeg : Int32).toNatClampNeg)), .int (qA h v1 ((qA h v3 x5.toNatClampNeg : Int32).toNatClampNeg))] h P) (hm : m ≤ n) (w : ∀ (z : Int32) (h1 : q_Hp), P z h1 → q_wp (n + 1) 326 371 [some (.ref x0), some (.int x1), some (.int x2), some (.int x3), some (.int x4), some (.int x5), l6] [.int z] h1 Q) : q_wp (n + 1) 326 336 [some (.ref x0), some (.int x1), some (.int x2), some (.int x3), some (.int x4), some (.int x5), l6] [] h Q := by
  refine wp_loc rfl rfl ?_
  refine wp_loc rfl rfl ?_
  refine wp_getR rfl rfl rfl rfl k0 e0 ?_
  refine wp_loc rfl rfl ?_
  refine wp_iald rfl k1 i0 ?_
  refine wp_loc rfl rfl ?_
  refine wp_getR rfl rfl rfl rfl k0 e1 ?_
  refine wp_loc rfl rfl ?_
  refine wp_getR rfl rfl rfl rfl k0 e2 ?_
  refine wp_loc rfl rfl ?_
  refine wp_iald rfl k2 i1 ?_
  refine wp_iald rfl k3 i2 ?_
  refine wp_loc rfl rfl ?_
  refine wp_getR rfl rfl rfl rfl k0 e1 ?_
  refine wp_loc rfl rfl ?_
  refine wp_getR rfl rfl rfl rfl k0 e3 ?_
  refine wp_loc rfl rfl ?_
  refine wp_iald rfl k4 i3 ?_
  refine wp_iald rfl k3 i4 ?_
  exact wp_callI (av := [.ref x0, .int (qA h v0 x5.toNatClampNeg), .int (qA h v1 ((qA h v2 x5.toNatClampNeg : Int32).toNatClampNeg)), .int (qA h v1 ((qA h v3 x5.toNatClampNeg : Int32).toNatClampNeg))]) rfl rfl rfl (by decide) rfl rfl rfl hm hc w
set_option maxRecDepth 20000 in
theorem b326_371 {n : Nat} {h : q_Hp} {Q : Option Value → q_Hp → Prop} {x0 : Nat} {x1 : Int32} {x2 : Int32} {x3 : Int32} {x4 : Int32} {x5 : Int32} {l6 : Option Value} {s0 : Int32} (w : q_wp n 326 418 [some (.ref x0), some (.int x1), some (.int x2), some (.int x3), some (.int x4), some (.int x5), some (.int s0)] [] h Q) : q_wp n 326 371 [some (.ref x0), some (.int x1), some (.int x2), some (.int x3), some (.int x4), some (.int x5), l6] [.int s0] h Q := by
  refine wp_loc rfl rfl ?_
  refine wp_goto (tgt := 418) rfl (by decide) ?_
  exact w
set_option maxRecDepth 20000 in
theorem b326_376 {n : Nat} {h : q_Hp} {Q : Option Value → q_Hp → Prop} {x0 : Nat} {x1 : Int32} {x2 : Int32} {x3 : Int32} {x4 : Int32} {x5 : Int32} {l6 : Option Value} {v0 : Nat} {v1 : Nat} (k0 : q_ok h x0 12) (e0 : qR h x0 87 = v0) (e1 : qR h x0 52 = v1) (k1 : q_ok h v1 20) (i0 : q_in x5 (qK h v1).2) (wt : ¬ (qA h v1 x5.toNatClampNeg) = 0 → q_wp n 326 395 [some (.ref x0), some (.int x1), some (.int x2), some (.int x3), some (.int x4), some (.int x5), l6] [.ref v0] h Q) (wf : (qA h v1 x5.toNatClampNeg) = 0 → q_wp n 326 390 [some (.ref x0), some (.int x1), some (.int x2), some (.int x3), some (.int x4), some (.int x5), l6] [.ref v0] h Q) : q_wp n 326 376 [some (.ref x0), some (.int x1), some (.int x2), some (.int x3), some (.int x4), some (.int x5), l6] [] h Q := by
  refine wp_loc rfl rfl ?_
  refine wp_getR rfl rfl rfl rfl k0 e0 ?_
  refine wp_loc rfl rfl ?_
  refine wp_getR rfl rfl rfl rfl k0 e1 ?_
  refine wp_loc rfl rfl ?_
  refine wp_iald rfl k1 i0 ?_
  exact wp_ifne (tgt := 395) rfl (by decide) wt wf
set_option maxRecDepth 20000 in
theorem b326_390 {n : Nat} {h : q_Hp} {Q : Option Value → q_Hp → Prop} {x0 : Nat} {x1 : Int32} {x2 : Int32} {x3 : Int32} {x4 : Int32} {x5 : Int32} {l6 : Option Value} {s0 : Nat} (w : q_wp n 326 397 [some (.ref x0), some (.int x1), some (.int x2), some (.int x3), some (.int x4), some (.int x5), l6] [.int 12, .ref s0] h Q) : q_wp n 326 390 [some (.ref x0), some (.int x1), some (.int x2), some (.int x3), some (.int x4), some (.int x5), l6] [.ref s0] h Q := by
  refine wp_bipush (v := 12) rfl (by decide) ?_
  refine wp_goto (tgt := 397) rfl (by decide) ?_
  exact w
set_option maxRecDepth 20000 in
theorem b326_395 {n : Nat} {h : q_Hp} {Q : Option Value → q_Hp → Prop} {x0 : Nat} {x1 : Int32} {x2 : Int32} {x3 : Int32} {x4 : Int32} {x5 : Int32} {l6 : Option Value} {s0 : Nat} (w : q_wp n 326 397 [some (.ref x0), some (.int x1), some (.int x2), some (.int x3), some (.int x4), some (.int x5), l6] [.int 24, .ref s0] h Q) : q_wp n 326 395 [some (.ref x0), some (.int x1), some (.int x2), some (.int x3), some (.int x4), some (.int x5), l6] [.ref s0] h Q := by
  refine wp_bipush (v := 24) rfl (by decide) ?_
  exact w
set_option maxRecDepth 20000 in
theorem b326_397 {n : Nat} {h : q_Hp} {Q : Option Value → q_Hp → Prop} {x0 : Nat} {x1 : Int32} {x2 : Int32} {x3 : Int32} {x4 : Int32} {x5 : Int32} {l6 : Option Value} {s0 : Int32} {s1 : Nat} {v0 : Nat} {v1 : Nat} {v2 : Nat} (k0 : q_ok h x0 12) (e0 : qR h x0 102 = v0) (e1 : qR h x0 51 = v1) (k1 : q_ok h v1 20) (i0 : q_in x5 (qK h v1).2) (k2 : q_ok h v0 20) (i1 : q_in (qA h v1 x5.toNatClampNeg) (qK h v0).2) (e2 : qR h x0 101 = v2) (k3 : q_ok h v2 20) (i2 : q_in x4 (qK h v2).2) (k4 : q_ok h s1 20) (i3 : q_in (s0 + (qA h v0 ((qA h v1 x5.toNatClampNeg : Int32).toNatClampNeg))) (qK h s1).2) (w : q_wp n 326 418 [some (.ref x0), some (.int x1), some (.int x2), some (.int x3), some (.int x4), some (.int x5), l6] [] (q_sA h s1 ((s0 + (qA h v0 ((qA h v1 x5.toNatClampNeg : Int32).toNatClampNeg)) : Int32).toNatClampNeg) (qA h v2 x4.toNatClampNeg)) Q) : q_wp n 326 397 [some (.ref x0), some (.int x1), some (.int x2), some (.int x3), some (.int x4), some (.int x5), l6] [.int s0, .ref s1] h Q := by
  refine wp_loc rfl rfl ?_
  refine wp_getR rfl rfl rfl rfl k0 e0 ?_
  refine wp_loc rfl rfl ?_
  refine wp_getR rfl rfl rfl rfl k0 e1 ?_
  refine wp_loc rfl rfl ?_
  refine wp_iald rfl k1 i0 ?_
  refine wp_iald rfl k2 i1 ?_
  refine wp_stk rfl rfl rfl ?_
  refine wp_loc rfl rfl ?_
  refine wp_getR rfl rfl rfl rfl k0 e2 ?_
  refine wp_loc rfl rfl ?_
  refine wp_iald rfl k3 i2 ?_
  refine wp_iast rfl k4 i3 ?_
  exact w
set_option maxRecDepth 20000 in
theorem b326_418 {n : Nat} {h : q_Hp} {Q : Option Value → q_Hp → Prop} {x0 : Nat} {x1 : Int32} {x2 : Int32} {x3 : Int32} {x4 : Int32} {x5 : Int32} {l6 : Option Value} (w : q_wp n 326 214 [some (.ref x0), some (.int x1), some (.int x2), some (.int x3), some (.int (x4 + 1)), some (.int x5), l6] [] h Q) : q_wp n 326 418 [some (.ref x0), some (.int x1), some (.int x2), some (.int x3), some (.int x4), some (.int x5), l6] [] h Q := by
  refine wp_iinc (v := 1) rfl rfl (by decide) rfl ?_
  refine wp_goto (tgt := 214) rfl (by decide) ?_
  exact w
set_option maxRecDepth 20000 in
theorem b326_424 {n : Nat} {h : q_Hp} {Q : Option Value → q_Hp → Prop} {x0 : Nat} {x1 : Int32} {x2 : Int32} {x3 : Int32} {x4 : Int32} {l5 : Option Value} {l6 : Option Value} (q : Q (some (.int 1)) h) : q_wp n 326 424 [some (.ref x0), some (.int x1), some (.int x2), some (.int x3), some (.int x4), l5, l6] [] h Q := by
  refine wp_iconst (v := 1) rfl (by decide) ?_
  exact wp_ret (r := some (.int 1)) rfl rfl q
theorem b327_0 {n : Nat} {h : q_Hp} {Q : Option Value → q_Hp → Prop} {x0 : Nat} (k0 : q_ok h x0 12) (wt : ¬ ((qI h x0 91) - (qI h x0 92)) = 100 → q_wp n 327 24 [some (.ref x0)] [] h Q) (wf : ((qI h x0 91) - (qI h x0 92)) = 100 → q_wp n 327 14 [some (.ref x0)] [] h Q) : q_wp n 327 0 [some (.ref x0)] [] h Q := by
  refine wp_loc rfl rfl ?_
  refine wp_getI rfl rfl rfl k0 ?_
  refine wp_loc rfl rfl ?_
  refine wp_getI rfl rfl rfl k0 ?_
  refine wp_stk rfl rfl rfl ?_
  refine wp_bipush (v := 100) rfl (by decide) ?_
  exact wp_icne (tgt := 24) rfl (by decide) wt wf
theorem b327_14 {n : Nat} {h : q_Hp} {Q : Option Value → q_Hp → Prop} {x0 : Nat} (k0 : q_ok h x0 12) (w : q_wp n 327 24 [some (.ref x0)] [] (q_sI h x0 92 ((qI h x0 92) + 1)) Q) : q_wp n 327 14 [some (.ref x0)] [] h Q := by
  refine wp_loc rfl rfl ?_
  refine wp_stk rfl rfl rfl ?_
  refine wp_getI rfl rfl rfl k0 ?_
  refine wp_iconst (v := 1) rfl (by decide) ?_
  refine wp_stk rfl rfl rfl ?_
  refine wp_putI rfl rfl (Or.inl rfl) rfl (fun h9 => by cases h9) k0 ?_
  exact w
theorem b327_24 {n : Nat} {h : q_Hp} {Q : Option Value → q_Hp → Prop} {x0 : Nat} (k0 : q_ok h x0 12) (q : Q none (q_sI h x0 91 ((qI h x0 91) + 1))) : q_wp n 327 24 [some (.ref x0)] [] h Q := by
  refine wp_loc rfl rfl ?_
  refine wp_stk rfl rfl rfl ?_
  refine wp_getI rfl rfl rfl k0 ?_
  refine wp_iconst (v := 1) rfl (by decide) ?_
  refine wp_stk rfl rfl rfl ?_
  refine wp_putI rfl rfl (Or.inl rfl) rfl (fun h9 => by cases h9) k0 ?_
  exact wp_ret rfl rfl q
theorem b328_0 {n : Nat} {h : q_Hp} {Q : Option Value → q_Hp → Prop} {x0 : Nat} {x1 : Int32} {m : Nat} {P : q_Hp → Prop} (hc : q_mV m 318 [.ref x0] h P) (hm : m ≤ n) (w : ∀ h1 : q_Hp, P h1 → q_wp (n + 1) 328 4 [some (.ref x0), some (.int x1)] [] h1 Q) : q_wp (n + 1) 328 0 [some (.ref x0), some (.int x1)] [] h Q := by
  refine wp_loc rfl rfl ?_
  exact wp_callV (av := [.ref x0]) rfl rfl rfl (by decide) rfl rfl rfl hm hc w
theorem b328_4 {n : Nat} {h : q_Hp} {Q : Option Value → q_Hp → Prop} {x0 : Nat} {x1 : Int32} {m : Nat} {P : Int32 → q_Hp → Prop} (hc : q_mI m 320 [.ref x0, .int x1] h P) (hm : m ≤ n) (w : ∀ (z : Int32) (h1 : q_Hp), P z h1 → q_wp (n + 1) 328 9 [some (.ref x0), some (.int x1)] [.int z] h1 Q) : q_wp (n + 1) 328 4 [some (.ref x0), some (.int x1)] [] h Q := by
  refine wp_loc rfl rfl ?_
  refine wp_loc rfl rfl ?_
  exact wp_callI (av := [.ref x0, .int x1]) rfl rfl rfl (by decide) rfl rfl rfl hm hc w
theorem b328_9 {n : Nat} {h : q_Hp} {Q : Option Value → q_Hp → Prop} {x0 : Nat} {x1 : Int32} {s0 : Int32} (wt : ¬ s0 = 0 → q_wp n 328 14 [some (.ref x0), some (.int x1)] [] h Q) (wf : s0 = 0 → q_wp n 328 12 [some (.ref x0), some (.int x1)] [] h Q) : q_wp n 328 9 [some (.ref x0), some (.int x1)] [.int s0] h Q := by
  exact wp_ifne (tgt := 14) rfl (by decide) wt wf
theorem b328_12 {n : Nat} {h : q_Hp} {Q : Option Value → q_Hp → Prop} {x0 : Nat} {x1 : Int32} (q : Q (some (.int 0)) h) : q_wp n 328 12 [some (.ref x0), some (.int x1)] [] h Q := by
  refine wp_iconst (v := 0) rfl (by decide) ?_
  exact wp_ret rfl rfl q
theorem b328_14 {n : Nat} {h : q_Hp} {Q : Option Value → q_Hp → Prop} {x0 : Nat} {x1 : Int32} {v0 : Nat} (k0 : q_ok h x0 12) (e0 : qR h x0 88 = v0) (nz2 : ¬ (101 : Int32) = 0) {m : Nat} {P : q_Hp → Prop} (hc : q_mV m 292 [.ref x0, .ref v0, .int (156 * ((qI h x0 91) - (qI h x0 91) / 101 * 101))] h P) (hm : m ≤ n) (w : ∀ h1 : q_Hp, P h1 → q_wp (n + 1) 328 33 [some (.ref x0), some (.int x1)] [] h1 Q) : q_wp (n + 1) 328 14 [some (.ref x0), some (.int x1)] [] h Q := by
  refine wp_loc rfl rfl ?_
  refine wp_loc rfl rfl ?_
  refine wp_getR rfl rfl rfl rfl k0 e0 ?_
  refine wp_sipush (v := 156) rfl (by decide) ?_
  refine wp_loc rfl rfl ?_
  refine wp_getI rfl rfl rfl k0 ?_
  refine wp_bipush (v := 101) rfl (by decide) ?_
  refine wp_irem rfl nz2 ?_
  refine wp_stk rfl rfl rfl ?_
  exact wp_callV (av := [.ref x0, .ref v0, .int (156 * ((qI h x0 91) - (qI h x0 91) / 101 * 101))]) rfl rfl rfl (by decide) rfl rfl rfl hm hc w
theorem b328_33 {n : Nat} {h : q_Hp} {Q : Option Value → q_Hp → Prop} {x0 : Nat} {x1 : Int32} {m : Nat} {P : Int32 → q_Hp → Prop} (hc : q_mI m 326 [.ref x0, .int x1] h P) (hm : m ≤ n) (w : ∀ (z : Int32) (h1 : q_Hp), P z h1 → q_wp (n + 1) 328 38 [some (.ref x0), some (.int x1)] [.int z] h1 Q) : q_wp (n + 1) 328 33 [some (.ref x0), some (.int x1)] [] h Q := by
  refine wp_loc rfl rfl ?_
  refine wp_loc rfl rfl ?_
  exact wp_callI (av := [.ref x0, .int x1]) rfl rfl rfl (by decide) rfl rfl rfl hm hc w
theorem b328_38 {n : Nat} {h : q_Hp} {Q : Option Value → q_Hp → Prop} {x0 : Nat} {x1 : Int32} {s0 : Int32} (wt : ¬ s0 = 0 → q_wp n 328 44 [some (.ref x0), some (.int x1)] [] h Q) (wf : s0 = 0 → q_wp n 328 41 [some (.ref x0), some (.int x1)] [] h Q) : q_wp n 328 38 [some (.ref x0), some (.int x1)] [.int s0] h Q := by
  exact wp_ifne (tgt := 44) rfl (by decide) wt wf
theorem b328_41 {n : Nat} {h : q_Hp} {Q : Option Value → q_Hp → Prop} {x0 : Nat} {x1 : Int32} (q : Q (some (.int (-3))) h) : q_wp n 328 41 [some (.ref x0), some (.int x1)] [] h Q := by
  refine wp_bipush (v := (-3)) rfl (by decide) ?_
  exact wp_ret rfl rfl q
theorem b328_44 {n : Nat} {h : q_Hp} {Q : Option Value → q_Hp → Prop} {x0 : Nat} {x1 : Int32} {m : Nat} {P : q_Hp → Prop} (hc : q_mV m 324 [.ref x0, .int x1] h P) (hm : m ≤ n) (w : ∀ h1 : q_Hp, P h1 → q_wp (n + 1) 328 49 [some (.ref x0), some (.int x1)] [] h1 Q) : q_wp (n + 1) 328 44 [some (.ref x0), some (.int x1)] [] h Q := by
  refine wp_loc rfl rfl ?_
  refine wp_loc rfl rfl ?_
  exact wp_callV (av := [.ref x0, .int x1]) rfl rfl rfl (by decide) rfl rfl rfl hm hc w
theorem b328_49 {n : Nat} {h : q_Hp} {Q : Option Value → q_Hp → Prop} {x0 : Nat} {x1 : Int32} {m : Nat} {P : q_Hp → Prop} (hc : q_mV m 327 [.ref x0] h P) (hm : m ≤ n) (w : ∀ h1 : q_Hp, P h1 → q_wp (n + 1) 328 53 [some (.ref x0), some (.int x1)] [] h1 Q) : q_wp (n + 1) 328 49 [some (.ref x0), some (.int x1)] [] h Q := by
  refine wp_loc rfl rfl ?_
  exact wp_callV (av := [.ref x0]) rfl rfl rfl (by decide) rfl rfl rfl hm hc w
theorem b328_53 {n : Nat} {h : q_Hp} {Q : Option Value → q_Hp → Prop} {x0 : Nat} {x1 : Int32} (q : Q (some (.int 1)) h) : q_wp n 328 53 [some (.ref x0), some (.int x1)] [] h Q := by
  refine wp_iconst (v := 1) rfl (by decide) ?_
  exact wp_ret rfl rfl q
set_option maxRecDepth 20000 in
theorem b329_0 {n : Nat} {h : q_Hp} {Q : Option Value → q_Hp → Prop} {x0 : Nat} {x1 : Int32} {m : Nat} {P : q_Hp → Prop} (hc : q_mV m 318 [.ref x0] h P) (hm : m ≤ n) (w : ∀ h1 : q_Hp, P h1 → q_wp (n + 1) 329 6 [some (.ref x0), some (.int x1), some (.int 0), none, none, none, none, none] [] h1 Q) : q_wp (n + 1) 329 0 [some (.ref x0), some (.int x1), none, none, none, none, none, none] [] h Q := by
  refine wp_iconst (v := 0) rfl (by decide) ?_
  refine wp_loc rfl rfl ?_
  refine wp_loc rfl rfl ?_
  exact wp_callV (av := [.ref x0]) rfl rfl rfl (by decide) rfl rfl rfl hm hc w
set_option maxRecDepth 20000 in
theorem b329_6 {n : Nat} {h : q_Hp} {Q : Option Value → q_Hp → Prop} {x0 : Nat} {x1 : Int32} {x2 : Int32} {m : Nat} {P : Int32 → q_Hp → Prop} (hc : q_mI m 320 [.ref x0, .int x1] h P) (hm : m ≤ n) (w : ∀ (z : Int32) (h1 : q_Hp), P z h1 → q_wp (n + 1) 329 11 [some (.ref x0), some (.int x1), some (.int x2), none, none, none, none, none] [.int z] h1 Q) : q_wp (n + 1) 329 6 [some (.ref x0), some (.int x1), some (.int x2), none, none, none, none, none] [] h Q := by
  refine wp_loc rfl rfl ?_
  refine wp_loc rfl rfl ?_
  exact wp_callI (av := [.ref x0, .int x1]) rfl rfl rfl (by decide) rfl rfl rfl hm hc w
set_option maxRecDepth 20000 in
theorem b329_11 {n : Nat} {h : q_Hp} {Q : Option Value → q_Hp → Prop} {x0 : Nat} {x1 : Int32} {x2 : Int32} {s0 : Int32} (w : q_wp n 329 12 [some (.ref x0), some (.int x1), some (.int x2), some (.int s0), none, none, none, none] [] h Q) : q_wp n 329 11 [some (.ref x0), some (.int x1), some (.int x2), none, none, none, none, none] [.int s0] h Q := by
  refine wp_loc rfl rfl ?_
  exact w
set_option maxRecDepth 20000 in
theorem b329_12 {n : Nat} {h : q_Hp} {Q : Option Value → q_Hp → Prop} {x0 : Nat} {x1 : Int32} {x2 : Int32} {x3 : Int32} {l4 : Option Value} {l5 : Option Value} {l6 : Option Value} {l7 : Option Value} (wt : x3 = 0 → q_wp n 329 174 [some (.ref x0), some (.int x1), some (.int x2), some (.int x3), l4, l5, l6, l7] [] h Q) (wf : ¬ x3 = 0 → q_wp n 329 16 [some (.ref x0), some (.int x1), some (.int x2), some (.int x3), l4, l5, l6, l7] [] h Q) : q_wp n 329 12 [some (.ref x0), some (.int x1), some (.int x2), some (.int x3), l4, l5, l6, l7] [] h Q := by
  refine wp_loc rfl rfl ?_
  exact wp_ifeq (tgt := 174) rfl (by decide) wt wf
set_option maxRecDepth 20000 in
theorem b329_16 {n : Nat} {h : q_Hp} {Q : Option Value → q_Hp → Prop} {x0 : Nat} {x1 : Int32} {x2 : Int32} {x3 : Int32} {l4 : Option Value} {l5 : Option Value} {l6 : Option Value} {l7 : Option Value} (w : q_wp n 329 22 [some (.ref x0), some (.int x1), some (.int x2), some (.int x3), some (.int 1), some (.int 0), l6, l7] [] h Q) : q_wp n 329 16 [some (.ref x0), some (.int x1), some (.int x2), some (.int x3), l4, l5, l6, l7] [] h Q := by
  refine wp_iconst (v := 1) rfl (by decide) ?_
  refine wp_loc rfl rfl ?_
  refine wp_iconst (v := 0) rfl (by decide) ?_
  refine wp_loc rfl rfl ?_
  exact w
set_option maxRecDepth 20000 in
theorem b329_22 {n : Nat} {h : q_Hp} {Q : Option Value → q_Hp → Prop} {x0 : Nat} {x1 : Int32} {x2 : Int32} {x3 : Int32} {x4 : Int32} {x5 : Int32} {l6 : Option Value} {l7 : Option Value} (wt : x2 ≤ x5 → q_wp n 329 108 [some (.ref x0), some (.int x1), some (.int x2), some (.int x3), some (.int x4), some (.int x5), l6, l7] [] h Q) (wf : ¬ x2 ≤ x5 → q_wp n 329 28 [some (.ref x0), some (.int x1), some (.int x2), some (.int x3), some (.int x4), some (.int x5), l6, l7] [] h Q) : q_wp n 329 22 [some (.ref x0), some (.int x1), some (.int x2), some (.int x3), some (.int x4), some (.int x5), l6, l7] [] h Q := by
  refine wp_loc rfl rfl ?_
  refine wp_loc rfl rfl ?_
  exact wp_icge (tgt := 108) rfl (by decide) wt wf
set_option maxRecDepth 20000 in
theorem b329_28 {n : Nat} {h : q_Hp} {Q : Option Value → q_Hp → Prop} {x0 : Nat} {x1 : Int32} {x2 : Int32} {x3 : Int32} {x4 : Int32} {x5 : Int32} {l6 : Option Value} {l7 : Option Value} (w : q_wp n 329 31 [some (.ref x0), some (.int x1), some (.int x2), some (.int x3), some (.int x4), some (.int x5), some (.int 0), l7] [] h Q) : q_wp n 329 28 [some (.ref x0), some (.int x1), some (.int x2), some (.int x3), some (.int x4), some (.int x5), l6, l7] [] h Q := by
  refine wp_iconst (v := 0) rfl (by decide) ?_
  refine wp_loc rfl rfl ?_
  exact w
set_option maxRecDepth 20000 in
theorem b329_31 {n : Nat} {h : q_Hp} {Q : Option Value → q_Hp → Prop} {x0 : Nat} {x1 : Int32} {x2 : Int32} {x3 : Int32} {x4 : Int32} {x5 : Int32} {x6 : Int32} {l7 : Option Value} {v0 : Nat} (k0 : q_ok h x0 12) (e0 : qR h x0 31 = v0) (k1 : q_ok h v0 20) (i0 : q_in x1 (qK h v0).2) (wt : (qA h v0 x1.toNatClampNeg) ≤ x6 → q_wp n 329 102 [some (.ref x0), some (.int x1), some (.int x2), some (.int x3), some (.int x4), some (.int x5), some (.int x6), l7] [] h Q) (wf : ¬ (qA h v0 x1.toNatClampNeg) ≤ x6 → q_wp n 329 42 [some (.ref x0), some (.int x1), some (.int x2), some (.int x3), some (.int x4), some (.int x5), some (.int x6), l7] [] h Q) : q_wp n 329 31 [some (.ref x0), some (.int x1), some (.int x2), some (.int x3), some (.int x4), some (.int x5), some (.int x6), l7] [] h Q := by
  refine wp_loc rfl rfl ?_
  refine wp_loc rfl rfl ?_
  refine wp_getR rfl rfl rfl rfl k0 e0 ?_
  refine wp_loc rfl rfl ?_
  refine wp_iald rfl k1 i0 ?_
  exact wp_icge (tgt := 102) rfl (by decide) wt wf
set_option maxRecDepth 20000 in
theorem b329_42 {n : Nat} {h : q_Hp} {Q : Option Value → q_Hp → Prop} {x0 : Nat} {x1 : Int32} {x2 : Int32} {x3 : Int32} {x4 : Int32} {x5 : Int32} {x6 : Int32} {l7 : Option Value} (w : q_wp n 329 45 [some (.ref x0), some (.int x1), some (.int x2), some (.int x3), some (.int x4), some (.int x5), some (.int x6), some (.int 0)] [] h Q) : q_wp n 329 42 [some (.ref x0), some (.int x1), some (.int x2), some (.int x3), some (.int x4), some (.int x5), some (.int x6), l7] [] h Q := by
  refine wp_iconst (v := 0) rfl (by decide) ?_
  refine wp_loc rfl rfl ?_
  exact w
set_option maxRecDepth 20000 in
theorem b329_45 {n : Nat} {h : q_Hp} {Q : Option Value → q_Hp → Prop} {x0 : Nat} {x1 : Int32} {x2 : Int32} {x3 : Int32} {x4 : Int32} {x5 : Int32} {x6 : Int32} {x7 : Int32} {v0 : Nat} (k0 : q_ok h x0 12) (e0 : qR h x0 31 = v0) (k1 : q_ok h v0 20) (i0 : q_in x1 (qK h v0).2) (wt : (qA h v0 x1.toNatClampNeg) ≤ x7 → q_wp n 329 96 [some (.ref x0), some (.int x1), some (.int x2), some (.int x3), some (.int x4), some (.int x5), some (.int x6), some (.int x7)] [] h Q) (wf : ¬ (qA h v0 x1.toNatClampNeg) ≤ x7 → q_wp n 329 56 [some (.ref x0), some (.int x1), some (.int x2), some (.int x3), some (.int x4), some (.int x5), some (.int x6), some (.int x7)] [] h Q) : q_wp n 329 45 [some (.ref x0), some (.int x1), some (.int x2), some (.int x3), some (.int x4), some (.int x5), some (.int x6), some (.int x7)] [] h Q := by
  refine wp_loc rfl rfl ?_
  refine wp_loc rfl rfl ?_
  refine wp_getR rfl rfl rfl rfl k0 e0 ?_
  refine wp_loc rfl rfl ?_
  refine wp_iald rfl k1 i0 ?_
  exact wp_icge (tgt := 96) rfl (by decide) wt wf
set_option maxRecDepth 20000 in
theorem b329_56 {n : Nat} {h : q_Hp} {Q : Option Value → q_Hp → Prop} {x0 : Nat} {x1 : Int32} {x2 : Int32} {x3 : Int32} {x4 : Int32} {x5 : Int32} {x6 : Int32} {x7 : Int32} (wt : x4 = 0 → q_wp n 329 87 [some (.ref x0), some (.int x1), some (.int x2), some (.int x3), some (.int x4), some (.int x5), some (.int x6), some (.int x7)] [] h Q) (wf : ¬ x4 = 0 → q_wp n 329 61 [some (.ref x0), some (.int x1), some (.int x2), some (.int x3), some (.int x4), some (.int x5), some (.int x6), some (.int x7)] [] h Q) : q_wp n 329 56 [some (.ref x0), some (.int x1), some (.int x2), some (.int x3), some (.int x4), some (.int x5), some (.int x6), some (.int x7)] [] h Q := by
  refine wp_loc rfl rfl ?_
  exact wp_ifeq (tgt := 87) rfl (by decide) wt wf
set_option maxRecDepth 20000 in
theorem b329_61 {n : Nat} {h : q_Hp} {Q : Option Value → q_Hp → Prop} {x0 : Nat} {x1 : Int32} {x2 : Int32} {x3 : Int32} {x4 : Int32} {x5 : Int32} {x6 : Int32} {x7 : Int32} {v0 : Nat} {v1 : Nat} (k0 : q_ok h x0 12) (e0 : qR h x0 103 = v0) (k1 : q_ok h v0 20) (i0 : q_in ((4 * x5) + x6) (qK h v0).2) (e1 : qR h x0 93 = v1) (k2 : q_ok h v1 20) (i1 : q_in x7 (qK h v1).2) (wt : (qA h v0 (((4 * x5) + x6 : Int32).toNatClampNeg)) = (qA h v1 x7.toNatClampNeg) → q_wp n 329 87 [some (.ref x0), some (.int x1), some (.int x2), some (.int x3), some (.int x4), some (.int x5), some (.int x6), some (.int x7)] [] h Q) (wf : ¬ (qA h v0 (((4 * x5) + x6 : Int32).toNatClampNeg)) = (qA h v1 x7.toNatClampNeg) → q_wp n 329 83 [some (.ref x0), some (.int x1), some (.int x2), some (.int x3), some (.int x4), some (.int x5), some (.int x6), some (.int x7)] [] h Q) : q_wp n 329 61 [some (.ref x0), some (.int x1), some (.int x2), some (.int x3), some (.int x4), some (.int x5), some (.int x6), some (.int x7)] [] h Q := by
  refine wp_loc rfl rfl ?_
  refine wp_getR rfl rfl rfl rfl k0 e0 ?_
  refine wp_iconst (v := 4) rfl (by decide) ?_
  refine wp_loc rfl rfl ?_
  refine wp_stk rfl rfl rfl ?_
  refine wp_loc rfl rfl ?_
  refine wp_stk rfl rfl rfl ?_
  refine wp_iald rfl k1 i0 ?_
  refine wp_loc rfl rfl ?_
  refine wp_getR rfl rfl rfl rfl k0 e1 ?_
  refine wp_loc rfl rfl ?_
  refine wp_iald rfl k2 i1 ?_
  exact wp_iceq (tgt := 87) rfl (by decide) wt wf
set_option maxRecDepth 20000 in
theorem b329_83 {n : Nat} {h : q_Hp} {Q : Option Value → q_Hp → Prop} {x0 : Nat} {x1 : Int32} {x2 : Int32} {x3 : Int32} {x4 : Int32} {x5 : Int32} {x6 : Int32} {x7 : Int32} (w : q_wp n 329 88 [some (.ref x0), some (.int x1), some (.int x2), some (.int x3), some (.int x4), some (.int x5), some (.int x6), some (.int x7)] [.int 1] h Q) : q_wp n 329 83 [some (.ref x0), some (.int x1), some (.int x2), some (.int x3), some (.int x4), some (.int x5), some (.int x6), some (.int x7)] [] h Q := by
  refine wp_iconst (v := 1) rfl (by decide) ?_
  refine wp_goto (tgt := 88) rfl (by decide) ?_
  exact w
set_option maxRecDepth 20000 in
theorem b329_87 {n : Nat} {h : q_Hp} {Q : Option Value → q_Hp → Prop} {x0 : Nat} {x1 : Int32} {x2 : Int32} {x3 : Int32} {x4 : Int32} {x5 : Int32} {x6 : Int32} {x7 : Int32} (w : q_wp n 329 88 [some (.ref x0), some (.int x1), some (.int x2), some (.int x3), some (.int x4), some (.int x5), some (.int x6), some (.int x7)] [.int 0] h Q) : q_wp n 329 87 [some (.ref x0), some (.int x1), some (.int x2), some (.int x3), some (.int x4), some (.int x5), some (.int x6), some (.int x7)] [] h Q := by
  refine wp_iconst (v := 0) rfl (by decide) ?_
  exact w
set_option maxRecDepth 20000 in
theorem b329_88 {n : Nat} {h : q_Hp} {Q : Option Value → q_Hp → Prop} {x0 : Nat} {x1 : Int32} {x2 : Int32} {x3 : Int32} {x4 : Int32} {x5 : Int32} {x6 : Int32} {x7 : Int32} {s0 : Int32} (w : q_wp n 329 45 [some (.ref x0), some (.int x1), some (.int x2), some (.int x3), some (.int s0), some (.int x5), some (.int x6), some (.int (x7 + 1))] [] h Q) : q_wp n 329 88 [some (.ref x0), some (.int x1), some (.int x2), some (.int x3), some (.int x4), some (.int x5), some (.int x6), some (.int x7)] [.int s0] h Q := by
  refine wp_loc rfl rfl ?_
  refine wp_iinc (v := 1) rfl rfl (by decide) rfl ?_
  refine wp_goto (tgt := 45) rfl (by decide) ?_
  exact w
set_option maxRecDepth 20000 in
theorem b329_96 {n : Nat} {h : q_Hp} {Q : Option Value → q_Hp → Prop} {x0 : Nat} {x1 : Int32} {x2 : Int32} {x3 : Int32} {x4 : Int32} {x5 : Int32} {x6 : Int32} {x7 : Int32} (w : q_wp n 329 31 [some (.ref x0), some (.int x1), some (.int x2), some (.int x3), some (.int x4), some (.int x5), some (.int (x6 + 1)), some (.int x7)] [] h Q) : q_wp n 329 96 [some (.ref x0), some (.int x1), some (.int x2), some (.int x3), some (.int x4), some (.int x5), some (.int x6), some (.int x7)] [] h Q := by
  refine wp_iinc (v := 1) rfl rfl (by decide) rfl ?_
  refine wp_goto (tgt := 31) rfl (by decide) ?_
  exact w
set_option maxRecDepth 20000 in
theorem b329_102 {n : Nat} {h : q_Hp} {Q : Option Value → q_Hp → Prop} {x0 : Nat} {x1 : Int32} {x2 : Int32} {x3 : Int32} {x4 : Int32} {x5 : Int32} {x6 : Int32} {l7 : Option Value} (w : q_wp n 329 22 [some (.ref x0), some (.int x1), some (.int x2), some (.int x3), some (.int x4), some (.int (x5 + 1)), some (.int x6), l7] [] h Q) : q_wp n 329 102 [some (.ref x0), some (.int x1), some (.int x2), some (.int x3), some (.int x4), some (.int x5), some (.int x6), l7] [] h Q := by
  refine wp_iinc (v := 1) rfl rfl (by decide) rfl ?_
  refine wp_goto (tgt := 22) rfl (by decide) ?_
  exact w
set_option maxRecDepth 20000 in
theorem b329_108 {n : Nat} {h : q_Hp} {Q : Option Value → q_Hp → Prop} {x0 : Nat} {x1 : Int32} {x2 : Int32} {x3 : Int32} {x4 : Int32} {x5 : Int32} {l6 : Option Value} {l7 : Option Value} (wt : x4 = 0 → q_wp n 329 149 [some (.ref x0), some (.int x1), some (.int x2), some (.int x3), some (.int x4), some (.int x5), l6, l7] [] h Q) (wf : ¬ x4 = 0 → q_wp n 329 113 [some (.ref x0), some (.int x1), some (.int x2), some (.int x3), some (.int x4), some (.int x5), l6, l7] [] h Q) : q_wp n 329 108 [some (.ref x0), some (.int x1), some (.int x2), some (.int x3), some (.int x4), some (.int x5), l6, l7] [] h Q := by
  refine wp_loc rfl rfl ?_
  exact wp_ifeq (tgt := 149) rfl (by decide) wt wf
set_option maxRecDepth 20000 in
theorem b329_113 {n : Nat} {h : q_Hp} {Q : Option Value → q_Hp → Prop} {x0 : Nat} {x1 : Int32} {x2 : Int32} {x3 : Int32} {x4 : Int32} {x5 : Int32} {l6 : Option Value} {l7 : Option Value} (w : q_wp n 329 116 [some (.ref x0), some (.int x1), some (.int x2), some (.int x3), some (.int x4), some (.int 0), l6, l7] [] h Q) : q_wp n 329 113 [some (.ref x0), some (.int x1), some (.int x2), some (.int x3), some (.int x4), some (.int x5), l6, l7] [] h Q := by
  refine wp_iconst (v := 0) rfl (by decide) ?_
  refine wp_loc rfl rfl ?_
  exact w
set_option maxRecDepth 20000 in
theorem b329_116 {n : Nat} {h : q_Hp} {Q : Option Value → q_Hp → Prop} {x0 : Nat} {x1 : Int32} {x2 : Int32} {x3 : Int32} {x4 : Int32} {x5 : Int32} {l6 : Option Value} {l7 : Option Value} (wt : 4 ≤ x5 → q_wp n 329 146 [some (.ref x0), some (.int x1), some (.int x2), some (.int x3), some (.int x4), some (.int x5), l6, l7] [] h Q) (wf : ¬ 4 ≤ x5 → q_wp n 329 122 [some (.ref x0), some (.int x1), some (.int x2), some (.int x3), some (.int x4), some (.int x5), l6, l7] [] h Q) : q_wp n 329 116 [some (.ref x0), some (.int x1), some (.int x2), some (.int x3), some (.int x4), some (.int x5), l6, l7] [] h Q := by
  refine wp_loc rfl rfl ?_
  refine wp_iconst (v := 4) rfl (by decide) ?_
  exact wp_icge (tgt := 146) rfl (by decide) wt wf
set_option maxRecDepth 20000 in
theorem b329_122 {n : Nat} {h : q_Hp} {Q : Option Value → q_Hp → Prop} {x0 : Nat} {x1 : Int32} {x2 : Int32} {x3 : Int32} {x4 : Int32} {x5 : Int32} {l6 : Option Value} {l7 : Option Value} {v0 : Nat} {v1 : Nat} (k0 : q_ok h x0 12) (e0 : qR h x0 103 = v0) (e1 : qR h x0 93 = v1) (k1 : q_ok h v1 20) (i0 : q_in x5 (qK h v1).2) (k2 : q_ok h v0 20) (i1 : q_in ((4 * x2) + x5) (qK h v0).2) (w : q_wp n 329 116 [some (.ref x0), some (.int x1), some (.int x2), some (.int x3), some (.int x4), some (.int (x5 + 1)), l6, l7] [] (q_sA h v0 (((4 * x2) + x5 : Int32).toNatClampNeg) (qA h v1 x5.toNatClampNeg)) Q) : q_wp n 329 122 [some (.ref x0), some (.int x1), some (.int x2), some (.int x3), some (.int x4), some (.int x5), l6, l7] [] h Q := by
  refine wp_loc rfl rfl ?_
  refine wp_getR rfl rfl rfl rfl k0 e0 ?_
  refine wp_iconst (v := 4) rfl (by decide) ?_
  refine wp_loc rfl rfl ?_
  refine wp_stk rfl rfl rfl ?_
  refine wp_loc rfl rfl ?_
  refine wp_stk rfl rfl rfl ?_
  refine wp_loc rfl rfl ?_
  refine wp_getR rfl rfl rfl rfl k0 e1 ?_
  refine wp_loc rfl rfl ?_
  refine wp_iald rfl k1 i0 ?_
  refine wp_iast rfl k2 i1 ?_
  refine wp_iinc (v := 1) rfl rfl (by decide) rfl ?_
  refine wp_goto (tgt := 116) rfl (by decide) ?_
  exact w
set_option maxRecDepth 20000 in
theorem b329_146 {n : Nat} {h : q_Hp} {Q : Option Value → q_Hp → Prop} {x0 : Nat} {x1 : Int32} {x2 : Int32} {x3 : Int32} {x4 : Int32} {x5 : Int32} {l6 : Option Value} {l7 : Option Value} (w : q_wp n 329 149 [some (.ref x0), some (.int x1), some (.int (x2 + 1)), some (.int x3), some (.int x4), some (.int x5), l6, l7] [] h Q) : q_wp n 329 146 [some (.ref x0), some (.int x1), some (.int x2), some (.int x3), some (.int x4), some (.int x5), l6, l7] [] h Q := by
  refine wp_iinc (v := 1) rfl rfl (by decide) rfl ?_
  exact w
set_option maxRecDepth 20000 in
theorem b329_149 {n : Nat} {h : q_Hp} {Q : Option Value → q_Hp → Prop} {x0 : Nat} {x1 : Int32} {x2 : Int32} {x3 : Int32} {x4 : Int32} {x5 : Int32} {l6 : Option Value} {l7 : Option Value} {m : Nat} {P : Int32 → q_Hp → Prop} (hc : q_mI m 319 [.ref x0, .int x1] h P) (hm : m ≤ n) (w : ∀ (z : Int32) (h1 : q_Hp), P z h1 → q_wp (n + 1) 329 154 [some (.ref x0), some (.int x1), some (.int x2), some (.int x3), some (.int x4), some (.int x5), l6, l7] [.int z] h1 Q) : q_wp (n + 1) 329 149 [some (.ref x0), some (.int x1), some (.int x2), some (.int x3), some (.int x4), some (.int x5), l6, l7] [] h Q := by
  refine wp_loc rfl rfl ?_
  refine wp_loc rfl rfl ?_
  exact wp_callI (av := [.ref x0, .int x1]) rfl rfl rfl (by decide) rfl rfl rfl hm hc w
set_option maxRecDepth 20000 in
theorem b329_154 {n : Nat} {h : q_Hp} {Q : Option Value → q_Hp → Prop} {x0 : Nat} {x1 : Int32} {x2 : Int32} {x3 : Int32} {x4 : Int32} {x5 : Int32} {l6 : Option Value} {l7 : Option Value} {s0 : Int32} (wt : s0 = 0 → q_wp n 329 169 [some (.ref x0), some (.int x1), some (.int x2), some (.int x3), some (.int x4), some (.int x5), l6, l7] [] h Q) (wf : ¬ s0 = 0 → q_wp n 329 157 [some (.ref x0), some (.int x1), some (.int x2), some (.int x3), some (.int x4), some (.int x5), l6, l7] [] h Q) : q_wp n 329 154 [some (.ref x0), some (.int x1), some (.int x2), some (.int x3), some (.int x4), some (.int x5), l6, l7] [.int s0] h Q := by
  exact wp_ifeq (tgt := 169) rfl (by decide) wt wf
set_option maxRecDepth 20000 in
theorem b329_157 {n : Nat} {h : q_Hp} {Q : Option Value → q_Hp → Prop} {x0 : Nat} {x1 : Int32} {x2 : Int32} {x3 : Int32} {x4 : Int32} {x5 : Int32} {l6 : Option Value} {l7 : Option Value} {m : Nat} {P : Int32 → q_Hp → Prop} (hc : q_mI m 320 [.ref x0, .int x1] h P) (hm : m ≤ n) (w : ∀ (z : Int32) (h1 : q_Hp), P z h1 → q_wp (n + 1) 329 162 [some (.ref x0), some (.int x1), some (.int x2), some (.int x3), some (.int x4), some (.int x5), l6, l7] [.int z] h1 Q) : q_wp (n + 1) 329 157 [some (.ref x0), some (.int x1), some (.int x2), some (.int x3), some (.int x4), some (.int x5), l6, l7] [] h Q := by
  refine wp_loc rfl rfl ?_
  refine wp_loc rfl rfl ?_
  exact wp_callI (av := [.ref x0, .int x1]) rfl rfl rfl (by decide) rfl rfl rfl hm hc w
set_option maxRecDepth 20000 in
theorem b329_162 {n : Nat} {h : q_Hp} {Q : Option Value → q_Hp → Prop} {x0 : Nat} {x1 : Int32} {x2 : Int32} {x3 : Int32} {x4 : Int32} {x5 : Int32} {l6 : Option Value} {l7 : Option Value} {s0 : Int32} (wt : s0 = 0 → q_wp n 329 169 [some (.ref x0), some (.int x1), some (.int x2), some (.int x3), some (.int x4), some (.int x5), l6, l7] [] h Q) (wf : ¬ s0 = 0 → q_wp n 329 165 [some (.ref x0), some (.int x1), some (.int x2), some (.int x3), some (.int x4), some (.int x5), l6, l7] [] h Q) : q_wp n 329 162 [some (.ref x0), some (.int x1), some (.int x2), some (.int x3), some (.int x4), some (.int x5), l6, l7] [.int s0] h Q := by
  exact wp_ifeq (tgt := 169) rfl (by decide) wt wf
set_option maxRecDepth 20000 in
theorem b329_165 {n : Nat} {h : q_Hp} {Q : Option Value → q_Hp → Prop} {x0 : Nat} {x1 : Int32} {x2 : Int32} {x3 : Int32} {x4 : Int32} {x5 : Int32} {l6 : Option Value} {l7 : Option Value} (w : q_wp n 329 170 [some (.ref x0), some (.int x1), some (.int x2), some (.int x3), some (.int x4), some (.int x5), l6, l7] [.int 1] h Q) : q_wp n 329 165 [some (.ref x0), some (.int x1), some (.int x2), some (.int x3), some (.int x4), some (.int x5), l6, l7] [] h Q := by
  refine wp_iconst (v := 1) rfl (by decide) ?_
  refine wp_goto (tgt := 170) rfl (by decide) ?_
  exact w
set_option maxRecDepth 20000 in
theorem b329_169 {n : Nat} {h : q_Hp} {Q : Option Value → q_Hp → Prop} {x0 : Nat} {x1 : Int32} {x2 : Int32} {x3 : Int32} {x4 : Int32} {x5 : Int32} {l6 : Option Value} {l7 : Option Value} (w : q_wp n 329 170 [some (.ref x0), some (.int x1), some (.int x2), some (.int x3), some (.int x4), some (.int x5), l6, l7] [.int 0] h Q) : q_wp n 329 169 [some (.ref x0), some (.int x1), some (.int x2), some (.int x3), some (.int x4), some (.int x5), l6, l7] [] h Q := by
  refine wp_iconst (v := 0) rfl (by decide) ?_
  exact w
set_option maxRecDepth 20000 in
theorem b329_170 {n : Nat} {h : q_Hp} {Q : Option Value → q_Hp → Prop} {x0 : Nat} {x1 : Int32} {x2 : Int32} {x3 : Int32} {x4 : Int32} {x5 : Int32} {l6 : Option Value} {l7 : Option Value} {s0 : Int32} (w : q_wp n 329 12 [some (.ref x0), some (.int x1), some (.int x2), some (.int s0), some (.int x4), some (.int x5), l6, l7] [] h Q) : q_wp n 329 170 [some (.ref x0), some (.int x1), some (.int x2), some (.int x3), some (.int x4), some (.int x5), l6, l7] [.int s0] h Q := by
  refine wp_loc rfl rfl ?_
  refine wp_goto (tgt := 12) rfl (by decide) ?_
  exact w
set_option maxRecDepth 20000 in
theorem b329_174 {n : Nat} {h : q_Hp} {Q : Option Value → q_Hp → Prop} {x0 : Nat} {x1 : Int32} {x2 : Int32} {x3 : Int32} {l4 : Option Value} {l5 : Option Value} {l6 : Option Value} {l7 : Option Value} {v0 : Nat} (k0 : q_ok h x0 12) (e0 : qR h x0 88 = v0) (nz2 : ¬ (101 : Int32) = 0) {m : Nat} {P : q_Hp → Prop} (hc : q_mV m 292 [.ref x0, .ref v0, .int (156 * ((qI h x0 91) - (qI h x0 91) / 101 * 101))] h P) (hm : m ≤ n) (w : ∀ h1 : q_Hp, P h1 → q_wp (n + 1) 329 193 [some (.ref x0), some (.int x1), some (.int x2), some (.int x3), l4, l5, l6, l7] [] h1 Q) : q_wp (n + 1) 329 174 [some (.ref x0), some (.int x1), some (.int x2), some (.int x3), l4, l5, l6, l7] [] h Q := by
  refine wp_loc rfl rfl ?_
  refine wp_loc rfl rfl ?_
  refine wp_getR rfl rfl rfl rfl k0 e0 ?_
  refine wp_sipush (v := 156) rfl (by decide) ?_
  refine wp_loc rfl rfl ?_
  refine wp_getI rfl rfl rfl k0 ?_
  refine wp_bipush (v := 101) rfl (by decide) ?_
  refine wp_irem rfl nz2 ?_
  refine wp_stk rfl rfl rfl ?_
  exact wp_callV (av := [.ref x0, .ref v0, .int (156 * ((qI h x0 91) - (qI h x0 91) / 101 * 101))]) rfl rfl rfl (by decide) rfl rfl rfl hm hc w
set_option maxRecDepth 20000 in
theorem b329_193 {n : Nat} {h : q_Hp} {Q : Option Value → q_Hp → Prop} {x0 : Nat} {x1 : Int32} {x2 : Int32} {x3 : Int32} {l4 : Option Value} {l5 : Option Value} {l6 : Option Value} {l7 : Option Value} (w : q_wp n 329 199 [some (.ref x0), some (.int x1), some (.int x2), some (.int x3), some (.int 0), some (.int 0), l6, l7] [] h Q) : q_wp n 329 193 [some (.ref x0), some (.int x1), some (.int x2), some (.int x3), l4, l5, l6, l7] [] h Q := by
  refine wp_iconst (v := 0) rfl (by decide) ?_
  refine wp_loc rfl rfl ?_
  refine wp_iconst (v := 0) rfl (by decide) ?_
  refine wp_loc rfl rfl ?_
  exact w
set_option maxRecDepth 20000 in
theorem b329_199 {n : Nat} {h : q_Hp} {Q : Option Value → q_Hp → Prop} {x0 : Nat} {x1 : Int32} {x2 : Int32} {x3 : Int32} {x4 : Int32} {x5 : Int32} {l6 : Option Value} {l7 : Option Value} (wt : x2 ≤ x5 → q_wp n 329 289 [some (.ref x0), some (.int x1), some (.int x2), some (.int x3), some (.int x4), some (.int x5), l6, l7] [] h Q) (wf : ¬ x2 ≤ x5 → q_wp n 329 205 [some (.ref x0), some (.int x1), some (.int x2), some (.int x3), some (.int x4), some (.int x5), l6, l7] [] h Q) : q_wp n 329 199 [some (.ref x0), some (.int x1), some (.int x2), some (.int x3), some (.int x4), some (.int x5), l6, l7] [] h Q := by
  refine wp_loc rfl rfl ?_
  refine wp_loc rfl rfl ?_
  exact wp_icge (tgt := 289) rfl (by decide) wt wf
set_option maxRecDepth 20000 in
theorem b329_205 {n : Nat} {h : q_Hp} {Q : Option Value → q_Hp → Prop} {x0 : Nat} {x1 : Int32} {x2 : Int32} {x3 : Int32} {x4 : Int32} {x5 : Int32} {l6 : Option Value} {l7 : Option Value} (w : q_wp n 329 208 [some (.ref x0), some (.int x1), some (.int x2), some (.int x3), some (.int x4), some (.int x5), some (.int 0), l7] [] h Q) : q_wp n 329 205 [some (.ref x0), some (.int x1), some (.int x2), some (.int x3), some (.int x4), some (.int x5), l6, l7] [] h Q := by
  refine wp_iconst (v := 0) rfl (by decide) ?_
  refine wp_loc rfl rfl ?_
  exact w
set_option maxRecDepth 20000 in
theorem b329_208 {n : Nat} {h : q_Hp} {Q : Option Value → q_Hp → Prop} {x0 : Nat} {x1 : Int32} {x2 : Int32} {x3 : Int32} {x4 : Int32} {x5 : Int32} {x6 : Int32} {l7 : Option Value} (wt : 4 ≤ x6 → q_wp n 329 239 [some (.ref x0), some (.int x1), some (.int x2), some (.int x3), some (.int x4), some (.int x5), some (.int x6), l7] [] h Q) (wf : ¬ 4 ≤ x6 → q_wp n 329 214 [some (.ref x0), some (.int x1), some (.int x2), some (.int x3), some (.int x4), some (.int x5), some (.int x6), l7] [] h Q) : q_wp n 329 208 [some (.ref x0), some (.int x1), some (.int x2), some (.int x3), some (.int x4), some (.int x5), some (.int x6), l7] [] h Q := by
  refine wp_loc rfl rfl ?_
  refine wp_iconst (v := 4) rfl (by decide) ?_
  exact wp_icge (tgt := 239) rfl (by decide) wt wf
set_option maxRecDepth 20000 in
theorem b329_214 {n : Nat} {h : q_Hp} {Q : Option Value → q_Hp → Prop} {x0 : Nat} {x1 : Int32} {x2 : Int32} {x3 : Int32} {x4 : Int32} {x5 : Int32} {x6 : Int32} {l7 : Option Value} {v0 : Nat} {v1 : Nat} (k0 : q_ok h x0 12) (e0 : qR h x0 93 = v0) (e1 : qR h x0 103 = v1) (k1 : q_ok h v1 20) (i0 : q_in ((4 * x5) + x6) (qK h v1).2) (k2 : q_ok h v0 20) (i1 : q_in x6 (qK h v0).2) (w : q_wp n 329 208 [some (.ref x0), some (.int x1), some (.int x2), some (.int x3), some (.int x4), some (.int x5), some (.int (x6 + 1)), l7] [] (q_sA h v0 x6.toNatClampNeg (qA h v1 (((4 * x5) + x6 : Int32).toNatClampNeg))) Q) : q_wp n 329 214 [some (.ref x0), some (.int x1), some (.int x2), some (.int x3), some (.int x4), some (.int x5), some (.int x6), l7] [] h Q := by
  refine wp_loc rfl rfl ?_
  refine wp_getR rfl rfl rfl rfl k0 e0 ?_
  refine wp_loc rfl rfl ?_
  refine wp_loc rfl rfl ?_
  refine wp_getR rfl rfl rfl rfl k0 e1 ?_
  refine wp_iconst (v := 4) rfl (by decide) ?_
  refine wp_loc rfl rfl ?_
  refine wp_stk rfl rfl rfl ?_
  refine wp_loc rfl rfl ?_
  refine wp_stk rfl rfl rfl ?_
  refine wp_iald rfl k1 i0 ?_
  refine wp_iast rfl k2 i1 ?_
  refine wp_iinc (v := 1) rfl rfl (by decide) rfl ?_
  refine wp_goto (tgt := 208) rfl (by decide) ?_
  exact w
set_option maxRecDepth 20000 in
theorem b329_239 {n : Nat} {h : q_Hp} {Q : Option Value → q_Hp → Prop} {x0 : Nat} {x1 : Int32} {x2 : Int32} {x3 : Int32} {x4 : Int32} {x5 : Int32} {x6 : Int32} {l7 : Option Value} {m : Nat} {P : Int32 → q_Hp → Prop} (hc : q_mI m 314 [.ref x0, .int x1] h P) (hm : m ≤ n) (w : ∀ (z : Int32) (h1 : q_Hp), P z h1 → q_wp (n + 1) 329 244 [some (.ref x0), some (.int x1), some (.int x2), some (.int x3), some (.int x4), some (.int x5), some (.int x6), l7] [.int z] h1 Q) : q_wp (n + 1) 329 239 [some (.ref x0), some (.int x1), some (.int x2), some (.int x3), some (.int x4), some (.int x5), some (.int x6), l7] [] h Q := by
  refine wp_loc rfl rfl ?_
  refine wp_loc rfl rfl ?_
  exact wp_callI (av := [.ref x0, .int x1]) rfl rfl rfl (by decide) rfl rfl rfl hm hc w
set_option maxRecDepth 20000 in
theorem b329_244 {n : Nat} {h : q_Hp} {Q : Option Value → q_Hp → Prop} {x0 : Nat} {x1 : Int32} {x2 : Int32} {x3 : Int32} {x4 : Int32} {x5 : Int32} {x6 : Int32} {l7 : Option Value} {s0 : Int32} (wt : ¬ s0 = 0 → q_wp n 329 250 [some (.ref x0), some (.int x1), some (.int x2), some (.int x3), some (.int x4), some (.int x5), some (.int x6), l7] [] h Q) (wf : s0 = 0 → q_wp n 329 247 [some (.ref x0), some (.int x1), some (.int x2), some (.int x3), some (.int x4), some (.int x5), some (.int x6), l7] [] h Q) : q_wp n 329 244 [some (.ref x0), some (.int x1), some (.int x2), some (.int x3), some (.int x4), some (.int x5), some (.int x6), l7] [.int s0] h Q := by
  exact wp_ifne (tgt := 250) rfl (by decide) wt wf
set_option maxRecDepth 20000 in
theorem b329_247 {n : Nat} {h : q_Hp} {Q : Option Value → q_Hp → Prop} {x0 : Nat} {x1 : Int32} {x2 : Int32} {x3 : Int32} {x4 : Int32} {x5 : Int32} {x6 : Int32} {l7 : Option Value} (w : q_wp n 329 283 [some (.ref x0), some (.int x1), some (.int x2), some (.int x3), some (.int x4), some (.int x5), some (.int x6), l7] [] h Q) : q_wp n 329 247 [some (.ref x0), some (.int x1), some (.int x2), some (.int x3), some (.int x4), some (.int x5), some (.int x6), l7] [] h Q := by
  refine wp_goto (tgt := 283) rfl (by decide) ?_
  exact w
set_option maxRecDepth 20000 in
theorem b329_250 {n : Nat} {h : q_Hp} {Q : Option Value → q_Hp → Prop} {x0 : Nat} {x1 : Int32} {x2 : Int32} {x3 : Int32} {x4 : Int32} {x5 : Int32} {x6 : Int32} {l7 : Option Value} {m : Nat} {P : Int32 → q_Hp → Prop} (hc : q_mI m 326 [.ref x0, .int x1] h P) (hm : m ≤ n) (w : ∀ (z : Int32) (h1 : q_Hp), P z h1 → q_wp (n + 1) 329 255 [some (.ref x0), some (.int x1), some (.int x2), some (.int x3), some (.int x4), some (.int x5), some (.int x6), l7] [.int z] h1 Q) : q_wp (n + 1) 329 250 [some (.ref x0), some (.int x1), some (.int x2), some (.int x3), some (.int x4), some (.int x5), some (.int x6), l7] [] h Q := by
  refine wp_loc rfl rfl ?_
  refine wp_loc rfl rfl ?_
  exact wp_callI (av := [.ref x0, .int x1]) rfl rfl rfl (by decide) rfl rfl rfl hm hc w
set_option maxRecDepth 20000 in
theorem b329_255 {n : Nat} {h : q_Hp} {Q : Option Value → q_Hp → Prop} {x0 : Nat} {x1 : Int32} {x2 : Int32} {x3 : Int32} {x4 : Int32} {x5 : Int32} {x6 : Int32} {l7 : Option Value} {s0 : Int32} (wt : ¬ s0 = 0 → q_wp n 329 280 [some (.ref x0), some (.int x1), some (.int x2), some (.int x3), some (.int x4), some (.int x5), some (.int x6), l7] [] h Q) (wf : s0 = 0 → q_wp n 329 258 [some (.ref x0), some (.int x1), some (.int x2), some (.int x3), some (.int x4), some (.int x5), some (.int x6), l7] [] h Q) : q_wp n 329 255 [some (.ref x0), some (.int x1), some (.int x2), some (.int x3), some (.int x4), some (.int x5), some (.int x6), l7] [.int s0] h Q := by
  exact wp_ifne (tgt := 280) rfl (by decide) wt wf
set_option maxRecDepth 20000 in
theorem b329_258 {n : Nat} {h : q_Hp} {Q : Option Value → q_Hp → Prop} {x0 : Nat} {x1 : Int32} {x2 : Int32} {x3 : Int32} {x4 : Int32} {x5 : Int32} {x6 : Int32} {l7 : Option Value} {v0 : Nat} (k0 : q_ok h x0 12) (e0 : qR h x0 88 = v0) (nz2 : ¬ (101 : Int32) = 0) {m : Nat} {P : q_Hp → Prop} (hc : q_mV m 293 [.ref x0, .ref v0, .int (156 * ((qI h x0 91) - (qI h x0 91) / 101 * 101))] h P) (hm : m ≤ n) (w : ∀ h1 : q_Hp, P h1 → q_wp (n + 1) 329 277 [some (.ref x0), some (.int x1), some (.int x2), some (.int x3), some (.int x4), some (.int x5), some (.int x6), l7] [] h1 Q) : q_wp (n + 1) 329 258 [some (.ref x0), some (.int x1), some (.int x2), some (.int x3), some (.int x4), some (.int x5), some (.int x6), l7] [] h Q := by
  refine wp_loc rfl rfl ?_
  refine wp_loc rfl rfl ?_
  refine wp_getR rfl rfl rfl rfl k0 e0 ?_
  refine wp_sipush (v := 156) rfl (by decide) ?_
  refine wp_loc rfl rfl ?_
  refine wp_getI rfl rfl rfl k0 ?_
  refine wp_bipush (v := 101) rfl (by decide) ?_
  refine wp_irem rfl nz2 ?_
  refine wp_stk rfl rfl rfl ?_
  exact wp_callV (av := [.ref x0, .ref v0, .int (156 * ((qI h x0 91) - (qI h x0 91) / 101 * 101))]) rfl rfl rfl (by decide) rfl rfl rfl hm hc w
set_option maxRecDepth 20000 in
theorem b329_277 {n : Nat} {h : q_Hp} {Q : Option Value → q_Hp → Prop} {x0 : Nat} {x1 : Int32} {x2 : Int32} {x3 : Int32} {x4 : Int32} {x5 : Int32} {x6 : Int32} {l7 : Option Value} (q : Q (some (.int (-3))) h) : q_wp n 329 277 [some (.ref x0), some (.int x1), some (.int x2), some (.int x3), some (.int x4), some (.int x5), some (.int x6), l7] [] h Q := by
  refine wp_bipush (v := (-3)) rfl (by decide) ?_
  exact wp_ret rfl rfl q
set_option maxRecDepth 20000 in
theorem b329_280 {n : Nat} {h : q_Hp} {Q : Option Value → q_Hp → Prop} {x0 : Nat} {x1 : Int32} {x2 : Int32} {x3 : Int32} {x4 : Int32} {x5 : Int32} {x6 : Int32} {l7 : Option Value} (w : q_wp n 329 283 [some (.ref x0), some (.int x1), some (.int x2), some (.int x3), some (.int (x4 + 1)), some (.int x5), some (.int x6), l7] [] h Q) : q_wp n 329 280 [some (.ref x0), some (.int x1), some (.int x2), some (.int x3), some (.int x4), some (.int x5), some (.int x6), l7] [] h Q := by
  refine wp_iinc (v := 1) rfl rfl (by decide) rfl ?_
  exact w
set_option maxRecDepth 20000 in
theorem b329_283 {n : Nat} {h : q_Hp} {Q : Option Value → q_Hp → Prop} {x0 : Nat} {x1 : Int32} {x2 : Int32} {x3 : Int32} {x4 : Int32} {x5 : Int32} {x6 : Int32} {l7 : Option Value} (w : q_wp n 329 199 [some (.ref x0), some (.int x1), some (.int x2), some (.int x3), some (.int x4), some (.int (x5 + 1)), some (.int x6), l7] [] h Q) : q_wp n 329 283 [some (.ref x0), some (.int x1), some (.int x2), some (.int x3), some (.int x4), some (.int x5), some (.int x6), l7] [] h Q := by
  refine wp_iinc (v := 1) rfl rfl (by decide) rfl ?_
  refine wp_goto (tgt := 199) rfl (by decide) ?_
  exact w
set_option maxRecDepth 20000 in
theorem b329_289 {n : Nat} {h : q_Hp} {Q : Option Value → q_Hp → Prop} {x0 : Nat} {x1 : Int32} {x2 : Int32} {x3 : Int32} {x4 : Int32} {x5 : Int32} {l6 : Option Value} {l7 : Option Value} (wt : ¬ x4 = 0 → q_wp n 329 296 [some (.ref x0), some (.int x1), some (.int x2), some (.int x3), some (.int x4), some (.int x5), l6, l7] [] h Q) (wf : x4 = 0 → q_wp n 329 294 [some (.ref x0), some (.int x1), some (.int x2), some (.int x3), some (.int x4), some (.int x5), l6, l7] [] h Q) : q_wp n 329 289 [some (.ref x0), some (.int x1), some (.int x2), some (.int x3), some (.int x4), some (.int x5), l6, l7] [] h Q := by
  refine wp_loc rfl rfl ?_
  exact wp_ifne (tgt := 296) rfl (by decide) wt wf
set_option maxRecDepth 20000 in
theorem b329_294 {n : Nat} {h : q_Hp} {Q : Option Value → q_Hp → Prop} {x0 : Nat} {x1 : Int32} {x2 : Int32} {x3 : Int32} {x4 : Int32} {x5 : Int32} {l6 : Option Value} {l7 : Option Value} (q : Q (some (.int 0)) h) : q_wp n 329 294 [some (.ref x0), some (.int x1), some (.int x2), some (.int x3), some (.int x4), some (.int x5), l6, l7] [] h Q := by
  refine wp_iconst (v := 0) rfl (by decide) ?_
  exact wp_ret rfl rfl q
set_option maxRecDepth 20000 in
theorem b329_296 {n : Nat} {h : q_Hp} {Q : Option Value → q_Hp → Prop} {x0 : Nat} {x1 : Int32} {x2 : Int32} {x3 : Int32} {x4 : Int32} {x5 : Int32} {l6 : Option Value} {l7 : Option Value} {m : Nat} {P : q_Hp → Prop} (hc : q_mV m 327 [.ref x0] h P) (hm : m ≤ n) (w : ∀ h1 : q_Hp, P h1 → q_wp (n + 1) 329 300 [some (.ref x0), some (.int x1), some (.int x2), some (.int x3), some (.int x4), some (.int x5), l6, l7] [] h1 Q) : q_wp (n + 1) 329 296 [some (.ref x0), some (.int x1), some (.int x2), some (.int x3), some (.int x4), some (.int x5), l6, l7] [] h Q := by
  refine wp_loc rfl rfl ?_
  exact wp_callV (av := [.ref x0]) rfl rfl rfl (by decide) rfl rfl rfl hm hc w
set_option maxRecDepth 20000 in
theorem b329_300 {n : Nat} {h : q_Hp} {Q : Option Value → q_Hp → Prop} {x0 : Nat} {x1 : Int32} {x2 : Int32} {x3 : Int32} {x4 : Int32} {x5 : Int32} {l6 : Option Value} {l7 : Option Value} (q : Q (some (.int 1)) h) : q_wp n 329 300 [some (.ref x0), some (.int x1), some (.int x2), some (.int x3), some (.int x4), some (.int x5), l6, l7] [] h Q := by
  refine wp_iconst (v := 1) rfl (by decide) ?_
  exact wp_ret rfl rfl q
theorem b330_0 {n : Nat} {h : q_Hp} {Q : Option Value → q_Hp → Prop} {x0 : Nat} {x1 : Int32} {m : Nat} {P : Int32 → q_Hp → Prop} (hc : q_mI m 321 [.ref x0, .int x1] h P) (hm : m ≤ n) (w : ∀ (z : Int32) (h1 : q_Hp), P z h1 → q_wp (n + 1) 330 5 [some (.ref x0), some (.int x1)] [.int z] h1 Q) : q_wp (n + 1) 330 0 [some (.ref x0), some (.int x1)] [] h Q := by
  refine wp_loc rfl rfl ?_
  refine wp_loc rfl rfl ?_
  exact wp_callI (av := [.ref x0, .int x1]) rfl rfl rfl (by decide) rfl rfl rfl hm hc w
theorem b330_5 {n : Nat} {h : q_Hp} {Q : Option Value → q_Hp → Prop} {x0 : Nat} {x1 : Int32} {s0 : Int32} (wt : s0 = 0 → q_wp n 330 15 [some (.ref x0), some (.int x1)] [] h Q) (wf : ¬ s0 = 0 → q_wp n 330 8 [some (.ref x0), some (.int x1)] [] h Q) : q_wp n 330 5 [some (.ref x0), some (.int x1)] [.int s0] h Q := by
  exact wp_ifeq (tgt := 15) rfl (by decide) wt wf
theorem b330_8 {n : Nat} {h : q_Hp} {Q : Option Value → q_Hp → Prop} {x0 : Nat} {x1 : Int32} {m : Nat} {P : Int32 → q_Hp → Prop} (hc : q_mI m 298 [.ref x0] h P) (hm : m ≤ n) (w : ∀ (z : Int32) (h1 : q_Hp), P z h1 → q_wp (n + 1) 330 12 [some (.ref x0), some (.int x1)] [.int z] h1 Q) : q_wp (n + 1) 330 8 [some (.ref x0), some (.int x1)] [] h Q := by
  refine wp_loc rfl rfl ?_
  exact wp_callI (av := [.ref x0]) rfl rfl rfl (by decide) rfl rfl rfl hm hc w
theorem b330_12 {n : Nat} {h : q_Hp} {Q : Option Value → q_Hp → Prop} {x0 : Nat} {x1 : Int32} {s0 : Int32} (wt : s0 = 0 → q_wp n 330 19 [some (.ref x0), some (.int x1)] [] h Q) (wf : ¬ s0 = 0 → q_wp n 330 15 [some (.ref x0), some (.int x1)] [] h Q) : q_wp n 330 12 [some (.ref x0), some (.int x1)] [.int s0] h Q := by
  exact wp_ifeq (tgt := 19) rfl (by decide) wt wf
theorem b330_15 {n : Nat} {h : q_Hp} {Q : Option Value → q_Hp → Prop} {x0 : Nat} {x1 : Int32} (w : q_wp n 330 24 [some (.ref x0), some (.int x1)] [.int (-1)] h Q) : q_wp n 330 15 [some (.ref x0), some (.int x1)] [] h Q := by
  refine wp_iconst (v := (-1)) rfl (by decide) ?_
  refine wp_goto (tgt := 24) rfl (by decide) ?_
  exact w
theorem b330_19 {n : Nat} {h : q_Hp} {Q : Option Value → q_Hp → Prop} {x0 : Nat} {x1 : Int32} {m : Nat} {P : Int32 → q_Hp → Prop} (hc : q_mI m 328 [.ref x0, .int x1] h P) (hm : m ≤ n) (w : ∀ (z : Int32) (h1 : q_Hp), P z h1 → q_wp (n + 1) 330 24 [some (.ref x0), some (.int x1)] [.int z] h1 Q) : q_wp (n + 1) 330 19 [some (.ref x0), some (.int x1)] [] h Q := by
  refine wp_loc rfl rfl ?_
  refine wp_loc rfl rfl ?_
  exact wp_callI (av := [.ref x0, .int x1]) rfl rfl rfl (by decide) rfl rfl rfl hm hc w
theorem b330_24 {n : Nat} {h : q_Hp} {Q : Option Value → q_Hp → Prop} {x0 : Nat} {x1 : Int32} {s0 : Int32} (q : Q (some (.int s0)) h) : q_wp n 330 24 [some (.ref x0), some (.int x1)] [.int s0] h Q := by
  exact wp_ret rfl rfl q
theorem b331_0 {n : Nat} {h : q_Hp} {Q : Option Value → q_Hp → Prop} {x0 : Nat} {x1 : Int32} (wt : x1 < 1 → q_wp n 331 25 [some (.ref x0), some (.int x1)] [] h Q) (wf : ¬ x1 < 1 → q_wp n 331 5 [some (.ref x0), some (.int x1)] [] h Q) : q_wp n 331 0 [some (.ref x0), some (.int x1)] [] h Q := by
  refine wp_loc rfl rfl ?_
  refine wp_iconst (v := 1) rfl (by decide) ?_
  exact wp_iclt (tgt := 25) rfl (by decide) wt wf
theorem b331_5 {n : Nat} {h : q_Hp} {Q : Option Value → q_Hp → Prop} {x0 : Nat} {x1 : Int32} {m : Nat} {P : Int32 → q_Hp → Prop} (hc : q_mI m 298 [.ref x0] h P) (hm : m ≤ n) (w : ∀ (z : Int32) (h1 : q_Hp), P z h1 → q_wp (n + 1) 331 9 [some (.ref x0), some (.int x1)] [.int z] h1 Q) : q_wp (n + 1) 331 5 [some (.ref x0), some (.int x1)] [] h Q := by
  refine wp_loc rfl rfl ?_
  exact wp_callI (av := [.ref x0]) rfl rfl rfl (by decide) rfl rfl rfl hm hc w
theorem b331_9 {n : Nat} {h : q_Hp} {Q : Option Value → q_Hp → Prop} {x0 : Nat} {x1 : Int32} {s0 : Int32} (wt : ¬ s0 = 0 → q_wp n 331 25 [some (.ref x0), some (.int x1)] [] h Q) (wf : s0 = 0 → q_wp n 331 12 [some (.ref x0), some (.int x1)] [] h Q) : q_wp n 331 9 [some (.ref x0), some (.int x1)] [.int s0] h Q := by
  exact wp_ifne (tgt := 25) rfl (by decide) wt wf
theorem b331_12 {n : Nat} {h : q_Hp} {Q : Option Value → q_Hp → Prop} {x0 : Nat} {x1 : Int32} (k0 : q_ok h x0 12) (wt : x1 ≤ ((qI h x0 91) - (qI h x0 92)) → q_wp n 331 27 [some (.ref x0), some (.int x1)] [] h Q) (wf : ¬ x1 ≤ ((qI h x0 91) - (qI h x0 92)) → q_wp n 331 25 [some (.ref x0), some (.int x1)] [] h Q) : q_wp n 331 12 [some (.ref x0), some (.int x1)] [] h Q := by
  refine wp_loc rfl rfl ?_
  refine wp_loc rfl rfl ?_
  refine wp_getI rfl rfl rfl k0 ?_
  refine wp_loc rfl rfl ?_
  refine wp_getI rfl rfl rfl k0 ?_
  refine wp_stk rfl rfl rfl ?_
  exact wp_icle (tgt := 27) rfl (by decide) wt wf
theorem b331_25 {n : Nat} {h : q_Hp} {Q : Option Value → q_Hp → Prop} {x0 : Nat} {x1 : Int32} (q : Q (some (.int 0)) h) : q_wp n 331 25 [some (.ref x0), some (.int x1)] [] h Q := by
  refine wp_iconst (v := 0) rfl (by decide) ?_
  exact wp_ret (r := some (.int 0)) rfl rfl q
theorem b331_27 {n : Nat} {h : q_Hp} {Q : Option Value → q_Hp → Prop} {x0 : Nat} {x1 : Int32} {v0 : Nat} (k0 : q_ok h x0 12) (e0 : qR h x0 88 = v0) (nz2 : ¬ (101 : Int32) = 0) {m : Nat} {P : q_Hp → Prop} (hc : q_mV m 293 [.ref x0, .ref v0, .int (156 * ((qI (q_sI h x0 91 ((qI h x0 91) - x1)) x0 91) - (qI (q_sI h x0 91 ((qI h x0 91) - x1)) x0 91) / 101 * 101))] (q_sI h x0 91 ((qI h x0 91) - x1)) P) (hm : m ≤ n) (w : ∀ h1 : q_Hp, P h1 → q_wp (n + 1) 331 56 [some (.ref x0), some (.int x1)] [] h1 Q) : q_wp (n + 1) 331 27 [some (.ref x0), some (.int x1)] [] h Q := by
  refine wp_loc rfl rfl ?_
  refine wp_stk rfl rfl rfl ?_
  refine wp_getI rfl rfl rfl k0 ?_
  refine wp_loc rfl rfl ?_
  refine wp_stk rfl rfl rfl ?_
  refine wp_putI rfl rfl (Or.inl rfl) rfl (fun h9 => by cases h9) k0 ?_
  refine wp_loc rfl rfl ?_
  refine wp_loc rfl rfl ?_
  refine wp_getR rfl rfl rfl rfl k0 e0 ?_
  refine wp_sipush (v := 156) rfl (by decide) ?_
  refine wp_loc rfl rfl ?_
  refine wp_getI rfl rfl rfl k0 ?_
  refine wp_bipush (v := 101) rfl (by decide) ?_
  refine wp_irem rfl nz2 ?_
  refine wp_stk rfl rfl rfl ?_
  exact wp_callV (av := [.ref x0, .ref v0, .int (156 * ((qI (q_sI h x0 91 ((qI h x0 91) - x1)) x0 91) - (qI (q_sI h x0 91 ((qI h x0 91) - x1)) x0 91) / 101 * 101))]) rfl rfl rfl (by decide) rfl rfl rfl hm hc w
theorem b331_56 {n : Nat} {h : q_Hp} {Q : Option Value → q_Hp → Prop} {x0 : Nat} {x1 : Int32} (q : Q (some (.int 1)) h) : q_wp n 331 56 [some (.ref x0), some (.int x1)] [] h Q := by
  refine wp_iconst (v := 1) rfl (by decide) ?_
  exact wp_ret (r := some (.int 1)) rfl rfl q
theorem b332_0 {n : Nat} {h : q_Hp} {Q : Option Value → q_Hp → Prop} {x0 : Nat} {x1 : Int32} {x2 : Int32} {x3 : Int32} {v0 : Nat} {v1 : Nat} {v2 : Nat} (k0 : q_ok h x0 12) (e0 : qR h x0 107 = v0) (k1 : q_ok h v0 20) (i0 : q_in (qI h x0 106) (qK h v0).2) (e1 : qR h x0 108 = v1) (k2 : q_ok h v1 20) (i1 : q_in (qI h x0 106) (qK h v1).2) (e2 : qR h x0 110 = v2) (k3 : q_ok h v2 20) (i2 : q_in (qI h x0 106) (qK h v2).2) {m : Nat} {P : q_Hp → Prop} (hc : q_mV m 333 [.ref x0, .int x3] (q_sI (q_sA (q_sA (q_sA h v0 ((qI h x0 106 : Int32).toNatClampNeg) x1) v1 ((qI h x0 106 : Int32).toNatClampNeg) x2) v2 ((qI h x0 106 : Int32).toNatClampNeg) 0) x0 106 ((qI h x0 106) + 1)) P) (hm : m ≤ n) (w : ∀ h1 : q_Hp, P h1 → q_wp (n + 1) 332 45 [some (.ref x0), some (.int x1), some (.int x2), some (.int x3)] [] h1 Q) : q_wp (n + 1) 332 0 [some (.ref x0), some (.int x1), some (.int x2), some (.int x3)] [] h Q := by
  refine wp_loc rfl rfl ?_
  refine wp_getR rfl rfl rfl rfl k0 e0 ?_
  refine wp_loc rfl rfl ?_
  refine wp_getI rfl rfl rfl k0 ?_
  refine wp_loc rfl rfl ?_
  refine wp_iast rfl k1 i0 ?_
  refine wp_loc rfl rfl ?_
  refine wp_getR rfl rfl rfl rfl k0 e1 ?_
  refine wp_loc rfl rfl ?_
  refine wp_getI rfl rfl rfl k0 ?_
  refine wp_loc rfl rfl ?_
  refine wp_iast rfl k2 i1 ?_
  refine wp_loc rfl rfl ?_
  refine wp_getR rfl rfl rfl rfl k0 e2 ?_
  refine wp_loc rfl rfl ?_
  refine wp_getI rfl rfl rfl k0 ?_
  refine wp_iconst (v := 0) rfl (by decide) ?_
  refine wp_iast rfl k3 i2 ?_
  refine wp_loc rfl rfl ?_
  refine wp_stk rfl rfl rfl ?_
  refine wp_getI rfl rfl rfl k0 ?_
  refine wp_iconst (v := 1) rfl (by decide) ?_
  refine wp_stk rfl rfl rfl ?_
  refine wp_putI rfl rfl (Or.inl rfl) rfl (fun h9 => by cases h9) k0 ?_
  refine wp_loc rfl rfl ?_
  refine wp_loc rfl rfl ?_
  exact wp_callV (av := [.ref x0, .int x3]) rfl rfl rfl (by decide) rfl rfl rfl hm hc w
theorem b332_45 {n : Nat} {h : q_Hp} {Q : Option Value → q_Hp → Prop} {x0 : Nat} {x1 : Int32} {x2 : Int32} {x3 : Int32} (q : Q none h) : q_wp n 332 45 [some (.ref x0), some (.int x1), some (.int x2), some (.int x3)] [] h Q := by
  exact wp_ret rfl rfl q
theorem b333_0 {n : Nat} {h : q_Hp} {Q : Option Value → q_Hp → Prop} {x0 : Nat} {x1 : Int32} {v0 : Nat} {v1 : Nat} {v2 : Nat} {v3 : Nat} (k0 : q_ok h x0 12) (e0 : qR h x0 109 = v0) (k1 : q_ok h v0 20) (i0 : q_in ((qI h x0 106) - 1) (qK h v0).2) (e1 : qR h x0 111 = v1) (k2 : q_ok h v1 23) (i1 : q_in ((qI h x0 106) - 1) (qK h v1).2) (e2 : qR h x0 112 = v2) (k3 : q_ok h v2 20) (i2 : q_in ((qI h x0 106) - 1) (qK h v2).2) (e3 : qR h x0 113 = v3) {m : Nat} {P : q_Hp → Prop} (hc : q_mV m 292 [.ref x0, .ref v3, .int (156 * ((qI h x0 106) - 1))] (q_sA (q_sA (q_sA h v0 (((qI h x0 106) - 1 : Int32).toNatClampNeg) x1) v1 (((qI h x0 106) - 1 : Int32).toNatClampNeg) (vp_nar .boolean 1)) v2 (((qI h x0 106) - 1 : Int32).toNatClampNeg) (qI h x0 91)) P) (hm : m ≤ n) (w : ∀ h1 : q_Hp, P h1 → q_wp (n + 1) 333 57 [some (.ref x0), some (.int x1)] [] h1 Q) : q_wp (n + 1) 333 0 [some (.ref x0), some (.int x1)] [] h Q := by
  refine wp_loc rfl rfl ?_
  refine wp_getR rfl rfl rfl rfl k0 e0 ?_
  refine wp_loc rfl rfl ?_
  refine wp_getI rfl rfl rfl k0 ?_
  refine wp_iconst (v := 1) rfl (by decide) ?_
  refine wp_stk rfl rfl rfl ?_
  refine wp_loc rfl rfl ?_
  refine wp_iast rfl k1 i0 ?_
  refine wp_loc rfl rfl ?_
  refine wp_getR rfl rfl rfl rfl k0 e1 ?_
  refine wp_loc rfl rfl ?_
  refine wp_getI rfl rfl rfl k0 ?_
  refine wp_iconst (v := 1) rfl (by decide) ?_
  refine wp_stk rfl rfl rfl ?_
  refine wp_iconst (v := 1) rfl (by decide) ?_
  refine wp_zast rfl k2 i1 ?_
  refine wp_loc rfl rfl ?_
  refine wp_getR rfl rfl rfl rfl k0 e2 ?_
  refine wp_loc rfl rfl ?_
  refine wp_getI rfl rfl rfl k0 ?_
  refine wp_iconst (v := 1) rfl (by decide) ?_
  refine wp_stk rfl rfl rfl ?_
  refine wp_loc rfl rfl ?_
  refine wp_getI rfl rfl rfl k0 ?_
  refine wp_iast rfl k3 i2 ?_
  refine wp_loc rfl rfl ?_
  refine wp_loc rfl rfl ?_
  refine wp_getR rfl rfl rfl rfl k0 e3 ?_
  refine wp_sipush (v := 156) rfl (by decide) ?_
  refine wp_loc rfl rfl ?_
  refine wp_getI rfl rfl rfl k0 ?_
  refine wp_iconst (v := 1) rfl (by decide) ?_
  refine wp_stk rfl rfl rfl ?_
  refine wp_stk rfl rfl rfl ?_
  exact wp_callV (av := [.ref x0, .ref v3, .int (156 * ((qI h x0 106) - 1))]) rfl rfl rfl (by decide) rfl rfl rfl hm hc w
theorem b333_57 {n : Nat} {h : q_Hp} {Q : Option Value → q_Hp → Prop} {x0 : Nat} {x1 : Int32} (q : Q none h) : q_wp n 333 57 [some (.ref x0), some (.int x1)] [] h Q := by
  exact wp_ret rfl rfl q
theorem b334_0 {n : Nat} {h : q_Hp} {Q : Option Value → q_Hp → Prop} {x0 : Nat} {x1 : Int32} {v0 : Nat} (k0 : q_ok h x0 12) (e0 : qR h x0 113 = v0) {m : Nat} {P : q_Hp → Prop} (hc : q_mV m 293 [.ref x0, .ref v0, .int (156 * x1)] h P) (hm : m ≤ n) (w : ∀ h1 : q_Hp, P h1 → q_wp (n + 1) 334 13 [some (.ref x0), some (.int x1)] [] h1 Q) : q_wp (n + 1) 334 0 [some (.ref x0), some (.int x1)] [] h Q := by
  refine wp_loc rfl rfl ?_
  refine wp_loc rfl rfl ?_
  refine wp_getR rfl rfl rfl rfl k0 e0 ?_
  refine wp_sipush (v := 156) rfl (by decide) ?_
  refine wp_loc rfl rfl ?_
  refine wp_stk rfl rfl rfl ?_
  exact wp_callV (av := [.ref x0, .ref v0, .int (156 * x1)]) rfl rfl rfl (by decide) rfl rfl rfl hm hc w
theorem b334_13 {n : Nat} {h : q_Hp} {Q : Option Value → q_Hp → Prop} {x0 : Nat} {x1 : Int32} {v0 : Nat} (k0 : q_ok h x0 12) (e0 : qR h x0 112 = v0) (k1 : q_ok h v0 20) (i0 : q_in x1 (qK h v0).2) (wt : (qI (q_sI h x0 91 (qA h v0 x1.toNatClampNeg)) x0 92) ≤ (qI (q_sI h x0 91 (qA h v0 x1.toNatClampNeg)) x0 91) → q_wp n 334 42 [some (.ref x0), some (.int x1)] [] (q_sI h x0 91 (qA h v0 x1.toNatClampNeg)) Q) (wf : ¬ (qI (q_sI h x0 91 (qA h v0 x1.toNatClampNeg)) x0 92) ≤ (qI (q_sI h x0 91 (qA h v0 x1.toNatClampNeg)) x0 91) → q_wp n 334 34 [some (.ref x0), some (.int x1)] [] (q_sI h x0 91 (qA h v0 x1.toNatClampNeg)) Q) : q_wp n 334 13 [some (.ref x0), some (.int x1)] [] h Q := by
  refine wp_loc rfl rfl ?_
  refine wp_loc rfl rfl ?_
  refine wp_getR rfl rfl rfl rfl k0 e0 ?_
  refine wp_loc rfl rfl ?_
  refine wp_iald rfl k1 i0 ?_
  refine wp_putI rfl rfl (Or.inl rfl) rfl (fun h9 => by cases h9) k0 ?_
  refine wp_loc rfl rfl ?_
  refine wp_getI rfl rfl rfl k0 ?_
  refine wp_loc rfl rfl ?_
  refine wp_getI rfl rfl rfl k0 ?_
  exact wp_icle (tgt := 42) rfl (by decide) wt wf
theorem b334_34 {n : Nat} {h : q_Hp} {Q : Option Value → q_Hp → Prop} {x0 : Nat} {x1 : Int32} (k0 : q_ok h x0 12) (w : q_wp n 334 42 [some (.ref x0), some (.int x1)] [] (q_sI h x0 92 (qI h x0 91)) Q) : q_wp n 334 34 [some (.ref x0), some (.int x1)] [] h Q := by
  refine wp_loc rfl rfl ?_
  refine wp_loc rfl rfl ?_
  refine wp_getI rfl rfl rfl k0 ?_
  refine wp_putI rfl rfl (Or.inl rfl) rfl (fun h9 => by cases h9) k0 ?_
  exact w
theorem b334_42 {n : Nat} {h : q_Hp} {Q : Option Value → q_Hp → Prop} {x0 : Nat} {x1 : Int32} (q : Q none h) : q_wp n 334 42 [some (.ref x0), some (.int x1)] [] h Q := by
  exact wp_ret rfl rfl q
theorem b335_0 {n : Nat} {h : q_Hp} {Q : Option Value → q_Hp → Prop} {x0 : Nat} {x1 : Int32} (wt : x1 < 0 → q_wp n 335 12 [some (.ref x0), some (.int x1)] [] h Q) (wf : ¬ x1 < 0 → q_wp n 335 4 [some (.ref x0), some (.int x1)] [] h Q) : q_wp n 335 0 [some (.ref x0), some (.int x1)] [] h Q := by
  refine wp_loc rfl rfl ?_
  exact wp_iflt (tgt := 12) rfl (by decide) wt wf
theorem b335_4 {n : Nat} {h : q_Hp} {Q : Option Value → q_Hp → Prop} {x0 : Nat} {x1 : Int32} (k0 : q_ok h x0 12) (wt : x1 < (qI h x0 27) → q_wp n 335 14 [some (.ref x0), some (.int x1)] [] h Q) (wf : ¬ x1 < (qI h x0 27) → q_wp n 335 12 [some (.ref x0), some (.int x1)] [] h Q) : q_wp n 335 4 [some (.ref x0), some (.int x1)] [] h Q := by
  refine wp_loc rfl rfl ?_
  refine wp_loc rfl rfl ?_
  refine wp_getI rfl rfl rfl k0 ?_
  exact wp_iclt (tgt := 14) rfl (by decide) wt wf
theorem b335_12 {n : Nat} {h : q_Hp} {Q : Option Value → q_Hp → Prop} {x0 : Nat} {x1 : Int32} (q : Q (some (.int 0)) h) : q_wp n 335 12 [some (.ref x0), some (.int x1)] [] h Q := by
  refine wp_iconst (v := 0) rfl (by decide) ?_
  exact wp_ret (r := some (.int 0)) rfl rfl q
theorem b335_14 {n : Nat} {h : q_Hp} {Q : Option Value → q_Hp → Prop} {x0 : Nat} {x1 : Int32} {m : Nat} {P : Int32 → q_Hp → Prop} (hc : q_mI m 298 [.ref x0] h P) (hm : m ≤ n) (w : ∀ (z : Int32) (h1 : q_Hp), P z h1 → q_wp (n + 1) 335 18 [some (.ref x0), some (.int x1)] [.int z] h1 Q) : q_wp (n + 1) 335 14 [some (.ref x0), some (.int x1)] [] h Q := by
  refine wp_loc rfl rfl ?_
  exact wp_callI (av := [.ref x0]) rfl rfl rfl (by decide) rfl rfl rfl hm hc w
theorem b335_18 {n : Nat} {h : q_Hp} {Q : Option Value → q_Hp → Prop} {x0 : Nat} {x1 : Int32} {s0 : Int32} (wt : s0 = 0 → q_wp n 335 26 [some (.ref x0), some (.int x1)] [] h Q) (wf : ¬ s0 = 0 → q_wp n 335 21 [some (.ref x0), some (.int x1)] [] h Q) : q_wp n 335 18 [some (.ref x0), some (.int x1)] [.int s0] h Q := by
  exact wp_ifeq (tgt := 26) rfl (by decide) wt wf
theorem b335_21 {n : Nat} {h : q_Hp} {Q : Option Value → q_Hp → Prop} {x0 : Nat} {x1 : Int32} {m : Nat} {P : q_Hp → Prop} (hc : q_mV m 334 [.ref x0, .int 0] h P) (hm : m ≤ n) (w : ∀ h1 : q_Hp, P h1 → q_wp (n + 1) 335 26 [some (.ref x0), some (.int x1)] [] h1 Q) : q_wp (n + 1) 335 21 [some (.ref x0), some (.int x1)] [] h Q := by
  refine wp_loc rfl rfl ?_
  refine wp_iconst (v := 0) rfl (by decide) ?_
  exact wp_callV (av := [.ref x0, .int 0]) rfl rfl rfl (by decide) rfl rfl rfl hm hc w
theorem b335_26 {n : Nat} {h : q_Hp} {Q : Option Value → q_Hp → Prop} {x0 : Nat} {x1 : Int32} {v0 : Nat} (k0 : q_ok h x0 12) (e0 : qR h x0 63 = v0) (k1 : q_ok h v0 20) (i0 : q_in x1 (qK h v0).2) {m : Nat} {P : q_Hp → Prop} (hc : q_mV m 332 [.ref x0, .int 0, .int (-1), .int (qA h v0 x1.toNatClampNeg)] (q_sI (q_sI (q_sI h x0 106 0) x0 105 0) x0 104 4) P) (hm : m ≤ n) (w : ∀ h1 : q_Hp, P h1 → q_wp (n + 1) 335 53 [some (.ref x0), some (.int x1)] [] h1 Q) : q_wp (n + 1) 335 26 [some (.ref x0), some (.int x1)] [] h Q := by
  refine wp_loc rfl rfl ?_
  refine wp_iconst (v := 0) rfl (by decide) ?_
  refine wp_putI rfl rfl (Or.inl rfl) rfl (fun h9 => by cases h9) k0 ?_
  refine wp_loc rfl rfl ?_
  refine wp_iconst (v := 0) rfl (by decide) ?_
  refine wp_putI rfl rfl (Or.inl rfl) rfl (fun h9 => by cases h9) k0 ?_
  refine wp_loc rfl rfl ?_
  refine wp_iconst (v := 4) rfl (by decide) ?_
  refine wp_putI rfl rfl (Or.inl rfl) rfl (fun h9 => by cases h9) k0 ?_
  refine wp_loc rfl rfl ?_
  refine wp_iconst (v := 0) rfl (by decide) ?_
  refine wp_iconst (v := (-1)) rfl (by decide) ?_
  refine wp_loc rfl rfl ?_
  refine wp_getR rfl rfl rfl rfl k0 e0 ?_
  refine wp_loc rfl rfl ?_
  refine wp_iald rfl k1 i0 ?_
  exact wp_callV (av := [.ref x0, .int 0, .int (-1), .int (qA h v0 x1.toNatClampNeg)]) rfl rfl rfl (by decide) rfl rfl rfl hm hc w
theorem b335_53 {n : Nat} {h : q_Hp} {Q : Option Value → q_Hp → Prop} {x0 : Nat} {x1 : Int32} (q : Q (some (.int 1)) h) : q_wp n 335 53 [some (.ref x0), some (.int x1)] [] h Q := by
  refine wp_iconst (v := 1) rfl (by decide) ?_
  exact wp_ret (r := some (.int 1)) rfl rfl q
theorem b336_0 {n : Nat} {h : q_Hp} {Q : Option Value → q_Hp → Prop} {x0 : Nat} {x1 : Int32} (k0 : q_ok h x0 12) (q : Q none (q_sI (q_sI h x0 104 x1) x0 106 0)) : q_wp n 336 0 [some (.ref x0), some (.int x1)] [] h Q := by
  refine wp_loc rfl rfl ?_
  refine wp_loc rfl rfl ?_
  refine wp_putI rfl rfl (Or.inl rfl) rfl (fun h9 => by cases h9) k0 ?_
  refine wp_loc rfl rfl ?_
  refine wp_iconst (v := 0) rfl (by decide) ?_
  refine wp_putI rfl rfl (Or.inl rfl) rfl (fun h9 => by cases h9) k0 ?_
  exact wp_ret rfl rfl q
theorem b337_0 {n : Nat} {h : q_Hp} {Q : Option Value → q_Hp → Prop} {x0 : Nat} (w : q_wp n 337 2 [some (.ref x0), some (.int 1), none] [] h Q) : q_wp n 337 0 [some (.ref x0), none, none] [] h Q := by
  refine wp_iconst (v := 1) rfl (by decide) ?_
  refine wp_loc rfl rfl ?_
  exact w
theorem b337_2 {n : Nat} {h : q_Hp} {Q : Option Value → q_Hp → Prop} {x0 : Nat} {x1 : Int32} {l2 : Option Value} (wt : x1 = 0 → q_wp n 337 118 [some (.ref x0), some (.int x1), l2] [] h Q) (wf : ¬ x1 = 0 → q_wp n 337 6 [some (.ref x0), some (.int x1), l2] [] h Q) : q_wp n 337 2 [some (.ref x0), some (.int x1), l2] [] h Q := by
  refine wp_loc rfl rfl ?_
  exact wp_ifeq (tgt := 118) rfl (by decide) wt wf
theorem b337_6 {n : Nat} {h : q_Hp} {Q : Option Value → q_Hp → Prop} {x0 : Nat} {x1 : Int32} {l2 : Option Value} (k0 : q_ok h x0 12) {m : Nat} {P : q_Hp → Prop} (hc : q_mV m 334 [.ref x0, .int ((qI h x0 106) - 1)] h P) (hm : m ≤ n) (w : ∀ h1 : q_Hp, P h1 → q_wp (n + 1) 337 18 [some (.ref x0), some (.int x1), some (.int ((qI h x0 106) - 1))] [] h1 Q) : q_wp (n + 1) 337 6 [some (.ref x0), some (.int x1), l2] [] h Q := by
  refine wp_loc rfl rfl ?_
  refine wp_getI rfl rfl rfl k0 ?_
  refine wp_iconst (v := 1) rfl (by decide) ?_
  refine wp_stk rfl rfl rfl ?_
  refine wp_loc rfl rfl ?_
  refine wp_loc rfl rfl ?_
  refine wp_loc rfl rfl ?_
  exact wp_callV (av := [.ref x0, .int ((qI h x0 106) - 1)]) rfl rfl rfl (by decide) rfl rfl rfl hm hc w
theorem b337_18 {n : Nat} {h : q_Hp} {Q : Option Value → q_Hp → Prop} {x0 : Nat} {x1 : Int32} {x2 : Int32} {v0 : Nat} (k0 : q_ok h x0 12) (e0 : qR h x0 107 = v0) (k1 : q_ok h v0 20) (i0 : q_in x2 (qK h v0).2) (wt : ¬ (qA h v0 x2.toNatClampNeg) = 1 → q_wp n 337 43 [some (.ref x0), some (.int 0), some (.int x2)] [] h Q) (wf : (qA h v0 x2.toNatClampNeg) = 1 → q_wp n 337 30 [some (.ref x0), some (.int 0), some (.int x2)] [] h Q) : q_wp n 337 18 [some (.ref x0), some (.int x1), some (.int x2)] [] h Q := by
  refine wp_iconst (v := 0) rfl (by decide) ?_
  refine wp_loc rfl rfl ?_
  refine wp_loc rfl rfl ?_
  refine wp_getR rfl rfl rfl rfl k0 e0 ?_
  refine wp_loc rfl rfl ?_
  refine wp_iald rfl k1 i0 ?_
  refine wp_iconst (v := 1) rfl (by decide) ?_
  exact wp_icne (tgt := 43) rfl (by decide) wt wf
theorem b337_30 {n : Nat} {h : q_Hp} {Q : Option Value → q_Hp → Prop} {x0 : Nat} {x1 : Int32} {x2 : Int32} (k0 : q_ok h x0 12) (w : q_wp n 337 115 [some (.ref x0), some (.int x1), some (.int x2)] [] (q_sI h x0 106 ((qI h x0 106) - 1)) Q) : q_wp n 337 30 [some (.ref x0), some (.int x1), some (.int x2)] [] h Q := by
  refine wp_loc rfl rfl ?_
  refine wp_stk rfl rfl rfl ?_
  refine wp_getI rfl rfl rfl k0 ?_
  refine wp_iconst (v := 1) rfl (by decide) ?_
  refine wp_stk rfl rfl rfl ?_
  refine wp_putI rfl rfl (Or.inl rfl) rfl (fun h9 => by cases h9) k0 ?_
  refine wp_goto (tgt := 115) rfl (by decide) ?_
  exact w
theorem b337_43 {n : Nat} {h : q_Hp} {Q : Option Value → q_Hp → Prop} {x0 : Nat} {x1 : Int32} {x2 : Int32} {v0 : Nat} (k0 : q_ok h x0 12) (e0 : qR h x0 107 = v0) (k1 : q_ok h v0 20) (i0 : q_in x2 (qK h v0).2) (wt : ¬ (qA h v0 x2.toNatClampNeg) = 3 → q_wp n 337 91 [some (.ref x0), some (.int x1), some (.int x2)] [] h Q) (wf : (qA h v0 x2.toNatClampNeg) = 3 → q_wp n 337 53 [some (.ref x0), some (.int x1), some (.int x2)] [] h Q) : q_wp n 337 43 [some (.ref x0), some (.int x1), some (.int x2)] [] h Q := by
  refine wp_loc rfl rfl ?_
  refine wp_getR rfl rfl rfl rfl k0 e0 ?_
  refine wp_loc rfl rfl ?_
  refine wp_iald rfl k1 i0 ?_
  refine wp_iconst (v := 3) rfl (by decide) ?_
  exact wp_icne (tgt := 91) rfl (by decide) wt wf
theorem b337_53 {n : Nat} {h : q_Hp} {Q : Option Value → q_Hp → Prop} {x0 : Nat} {x1 : Int32} {x2 : Int32} {v0 : Nat} (k0 : q_ok h x0 12) (e0 : qR h x0 110 = v0) (k1 : q_ok h v0 20) (i0 : q_in x2 (qK h v0).2) (wt : ¬ (qA h v0 x2.toNatClampNeg) = 0 → q_wp n 337 91 [some (.ref x0), some (.int x1), some (.int x2)] [] h Q) (wf : (qA h v0 x2.toNatClampNeg) = 0 → q_wp n 337 62 [some (.ref x0), some (.int x1), some (.int x2)] [] h Q) : q_wp n 337 53 [some (.ref x0), some (.int x1), some (.int x2)] [] h Q := by
  refine wp_loc rfl rfl ?_
  refine wp_getR rfl rfl rfl rfl k0 e0 ?_
  refine wp_loc rfl rfl ?_
  refine wp_iald rfl k1 i0 ?_
  exact wp_ifne (tgt := 91) rfl (by decide) wt wf
theorem b337_62 {n : Nat} {h : q_Hp} {Q : Option Value → q_Hp → Prop} {x0 : Nat} {x1 : Int32} {x2 : Int32} {v0 : Nat} {v1 : Nat} {v2 : Nat} (k0 : q_ok h x0 12) (e0 : qR h x0 110 = v0) (k1 : q_ok h v0 20) (i0 : q_in x2 (qK h v0).2) (e1 : qR h x0 61 = v1) (e2 : qR h x0 108 = v2) (k2 : q_ok h v2 20) (i1 : q_in x2 (qK h v2).2) (k3 : q_ok h v1 20) (i2 : q_in ((3 * (qA (q_sA h v0 x2.toNatClampNeg 2) v2 x2.toNatClampNeg)) + 2) (qK h v1).2) {m : Nat} {P : q_Hp → Prop} (hc : q_mV m 333 [.ref x0, .int (qA (q_sA h v0 x2.toNatClampNeg 2) v1 (((3 * (qA (q_sA h v0 x2.toNatClampNeg 2) v2 x2.toNatClampNeg)) + 2 : Int32).toNatClampNeg))] (q_sA h v0 x2.toNatClampNeg 2) P) (hm : m ≤ n) (w : ∀ h1 : q_Hp, P h1 → q_wp (n + 1) 337 88 [some (.ref x0), some (.int x1), some (.int x2)] [] h1 Q) : q_wp (n + 1) 337 62 [some (.ref x0), some (.int x1), some (.int x2)] [] h Q := by
  refine wp_loc rfl rfl ?_
  refine wp_getR rfl rfl rfl rfl k0 e0 ?_
  refine wp_loc rfl rfl ?_
  refine wp_iconst (v := 2) rfl (by decide) ?_
  refine wp_iast rfl k1 i0 ?_
  refine wp_loc rfl rfl ?_
  refine wp_loc rfl rfl ?_
  refine wp_getR rfl rfl rfl rfl k0 e1 ?_
  refine wp_iconst (v := 3) rfl (by decide) ?_
  refine wp_loc rfl rfl ?_
  refine wp_getR rfl rfl rfl rfl k0 e2 ?_
  refine wp_loc rfl rfl ?_
  refine wp_iald rfl k2 i1 ?_
  refine wp_stk rfl rfl rfl ?_
  refine wp_iconst (v := 2) rfl (by decide) ?_
  refine wp_stk rfl rfl rfl ?_
  refine wp_iald rfl k3 i2 ?_
  exact wp_callV (av := [.ref x0, .int (qA (q_sA h v0 x2.toNatClampNeg 2) v1 (((3 * (qA (q_sA h v0 x2.toNatClampNeg 2) v2 x2.toNatClampNeg)) + 2 : Int32).toNatClampNeg))]) rfl rfl rfl (by decide) rfl rfl rfl hm hc w
theorem b337_88 {n : Nat} {h : q_Hp} {Q : Option Value → q_Hp → Prop} {x0 : Nat} {x1 : Int32} {x2 : Int32} (w : q_wp n 337 115 [some (.ref x0), some (.int x1), some (.int x2)] [] h Q) : q_wp n 337 88 [some (.ref x0), some (.int x1), some (.int x2)] [] h Q := by
  refine wp_goto (tgt := 115) rfl (by decide) ?_
  exact w
theorem b337_91 {n : Nat} {h : q_Hp} {Q : Option Value → q_Hp → Prop} {x0 : Nat} {x1 : Int32} {x2 : Int32} (wt : ¬ x2 = 0 → q_wp n 337 103 [some (.ref x0), some (.int x1), some (.int x2)] [] h Q) (wf : x2 = 0 → q_wp n 337 95 [some (.ref x0), some (.int x1), some (.int x2)] [] h Q) : q_wp n 337 91 [some (.ref x0), some (.int x1), some (.int x2)] [] h Q := by
  refine wp_loc rfl rfl ?_
  exact wp_ifne (tgt := 103) rfl (by decide) wt wf
theorem b337_95 {n : Nat} {h : q_Hp} {Q : Option Value → q_Hp → Prop} {x0 : Nat} {x1 : Int32} {x2 : Int32} {m : Nat} {P : q_Hp → Prop} (hc : q_mV m 336 [.ref x0, .int 2] h P) (hm : m ≤ n) (w : ∀ h1 : q_Hp, P h1 → q_wp (n + 1) 337 100 [some (.ref x0), some (.int x1), some (.int x2)] [] h1 Q) : q_wp (n + 1) 337 95 [some (.ref x0), some (.int x1), some (.int x2)] [] h Q := by
  refine wp_loc rfl rfl ?_
  refine wp_iconst (v := 2) rfl (by decide) ?_
  exact wp_callV (av := [.ref x0, .int 2]) rfl rfl rfl (by decide) rfl rfl rfl hm hc w
theorem b337_100 {n : Nat} {h : q_Hp} {Q : Option Value → q_Hp → Prop} {x0 : Nat} {x1 : Int32} {x2 : Int32} (w : q_wp n 337 115 [some (.ref x0), some (.int x1), some (.int x2)] [] h Q) : q_wp n 337 100 [some (.ref x0), some (.int x1), some (.int x2)] [] h Q := by
  refine wp_goto (tgt := 115) rfl (by decide) ?_
  exact w
theorem b337_103 {n : Nat} {h : q_Hp} {Q : Option Value → q_Hp → Prop} {x0 : Nat} {x1 : Int32} {x2 : Int32} (k0 : q_ok h x0 12) (w : q_wp n 337 115 [some (.ref x0), some (.int 1), some (.int x2)] [] (q_sI h x0 106 ((qI h x0 106) - 1)) Q) : q_wp n 337 103 [some (.ref x0), some (.int x1), some (.int x2)] [] h Q := by
  refine wp_loc rfl rfl ?_
  refine wp_stk rfl rfl rfl ?_
  refine wp_getI rfl rfl rfl k0 ?_
  refine wp_iconst (v := 1) rfl (by decide) ?_
  refine wp_stk rfl rfl rfl ?_
  refine wp_putI rfl rfl (Or.inl rfl) rfl (fun h9 => by cases h9) k0 ?_
  refine wp_iconst (v := 1) rfl (by decide) ?_
  refine wp_loc rfl rfl ?_
  exact w
theorem b337_115 {n : Nat} {h : q_Hp} {Q : Option Value → q_Hp → Prop} {x0 : Nat} {x1 : Int32} {x2 : Int32} (w : q_wp n 337 2 [some (.ref x0), some (.int x1), some (.int x2)] [] h Q) : q_wp n 337 115 [some (.ref x0), some (.int x1), some (.int x2)] [] h Q := by
  refine wp_goto (tgt := 2) rfl (by decide) ?_
  exact w
theorem b337_118 {n : Nat} {h : q_Hp} {Q : Option Value → q_Hp → Prop} {x0 : Nat} {x1 : Int32} {l2 : Option Value} (q : Q none h) : q_wp n 337 118 [some (.ref x0), some (.int x1), l2] [] h Q := by
  exact wp_ret rfl rfl q
theorem b338_0 {n : Nat} {h : q_Hp} {Q : Option Value → q_Hp → Prop} {x0 : Nat} {v0 : Nat} (k0 : q_ok h x0 12) (e0 : qR h x0 107 = v0) (k1 : q_ok h v0 20) (i0 : q_in ((qI h x0 106) - 1) (qK h v0).2) (w0 : (qA h v0 (((qI h x0 106) - 1 : Int32).toNatClampNeg)) = 0 → q_wp n 338 40 [some (.ref x0), some (.int ((qI h x0 106) - 1))] [] h Q) (w1 : (qA h v0 (((qI h x0 106) - 1 : Int32).toNatClampNeg)) = 1 → q_wp n 338 65 [some (.ref x0), some (.int ((qI h x0 106) - 1))] [] h Q) (w2 : (qA h v0 (((qI h x0 106) - 1 : Int32).toNatClampNeg)) = 2 → q_wp n 338 101 [some (.ref x0), some (.int ((qI h x0 106) - 1))] [] h Q) (wd : ((qA h v0 (((qI h x0 106) - 1 : Int32).toNatClampNeg)).toInt < 0 ∨ 2 < (qA h v0 (((qI h x0 106) - 1 : Int32).toNatClampNeg)).toInt) → q_wp n 338 154 [some (.ref x0), some (.int ((qI h x0 106) - 1))] [] h Q) : q_wp n 338 0 [some (.ref x0), none] [] h Q := by
  refine wp_loc rfl rfl ?_
  refine wp_getI rfl rfl rfl k0 ?_
  refine wp_iconst (v := 1) rfl (by decide) ?_
  refine wp_stk rfl rfl rfl ?_
  refine wp_loc rfl rfl ?_
  refine wp_loc rfl rfl ?_
  refine wp_getR rfl rfl rfl rfl k0 e0 ?_
  refine wp_loc rfl rfl ?_
  refine wp_iald rfl k1 i0 ?_
  refine wp_tab (dt := 154) (tg := fun j => [40, 65, 101].getD j 0) rfl (by decide) (by decide) (by decide) (fun j hj hx => ?_) wd
  have hj : j < 3 := hj
  match j, hj, hx with
  | 0, _, hx => exact w0 (Int32.toInt_inj.mp hx)
  | 1, _, hx => exact w1 (Int32.toInt_inj.mp hx)
  | 2, _, hx => exact w2 (Int32.toInt_inj.mp hx)
theorem b338_40 {n : Nat} {h : q_Hp} {Q : Option Value → q_Hp → Prop} {x0 : Nat} {x1 : Int32} (wt : ¬ x1 = 0 → q_wp n 338 52 [some (.ref x0), some (.int x1)] [] h Q) (wf : x1 = 0 → q_wp n 338 44 [some (.ref x0), some (.int x1)] [] h Q) : q_wp n 338 40 [some (.ref x0), some (.int x1)] [] h Q := by
  refine wp_loc rfl rfl ?_
  exact wp_ifne (tgt := 52) rfl (by decide) wt wf
theorem b338_44 {n : Nat} {h : q_Hp} {Q : Option Value → q_Hp → Prop} {x0 : Nat} {x1 : Int32} {m : Nat} {P : q_Hp → Prop} (hc : q_mV m 336 [.ref x0, .int 1] h P) (hm : m ≤ n) (w : ∀ h1 : q_Hp, P h1 → q_wp (n + 1) 338 49 [some (.ref x0), some (.int x1)] [] h1 Q) : q_wp (n + 1) 338 44 [some (.ref x0), some (.int x1)] [] h Q := by
  refine wp_loc rfl rfl ?_
  refine wp_iconst (v := 1) rfl (by decide) ?_
  exact wp_callV (av := [.ref x0, .int 1]) rfl rfl rfl (by decide) rfl rfl rfl hm hc w
theorem b338_49 {n : Nat} {h : q_Hp} {Q : Option Value → q_Hp → Prop} {x0 : Nat} {x1 : Int32} (w : q_wp n 338 202 [some (.ref x0), some (.int x1)] [] h Q) : q_wp n 338 49 [some (.ref x0), some (.int x1)] [] h Q := by
  refine wp_goto (tgt := 202) rfl (by decide) ?_
  exact w
theorem b338_52 {n : Nat} {h : q_Hp} {Q : Option Value → q_Hp → Prop} {x0 : Nat} {x1 : Int32} (k0 : q_ok h x0 12) (w : q_wp n 338 202 [some (.ref x0), some (.int x1)] [] (q_sI h x0 106 ((qI h x0 106) - 1)) Q) : q_wp n 338 52 [some (.ref x0), some (.int x1)] [] h Q := by
  refine wp_loc rfl rfl ?_
  refine wp_stk rfl rfl rfl ?_
  refine wp_getI rfl rfl rfl k0 ?_
  refine wp_iconst (v := 1) rfl (by decide) ?_
  refine wp_stk rfl rfl rfl ?_
  refine wp_putI rfl rfl (Or.inl rfl) rfl (fun h9 => by cases h9) k0 ?_
  refine wp_goto (tgt := 202) rfl (by decide) ?_
  exact w
theorem b338_65 {n : Nat} {h : q_Hp} {Q : Option Value → q_Hp → Prop} {x0 : Nat} {x1 : Int32} {v0 : Nat} (k0 : q_ok h x0 12) (e0 : qR h x0 112 = v0) (k1 : q_ok h v0 20) (i0 : q_in x1 (qK h v0).2) (wt : (qA h v0 x1.toNatClampNeg) < (qI h x0 91) → q_wp n 338 91 [some (.ref x0), some (.int x1)] [] h Q) (wf : ¬ (qA h v0 x1.toNatClampNeg) < (qI h x0 91) → q_wp n 338 78 [some (.ref x0), some (.int x1)] [] h Q) : q_wp n 338 65 [some (.ref x0), some (.int x1)] [] h Q := by
  refine wp_loc rfl rfl ?_
  refine wp_getI rfl rfl rfl k0 ?_
  refine wp_loc rfl rfl ?_
  refine wp_getR rfl rfl rfl rfl k0 e0 ?_
  refine wp_loc rfl rfl ?_
  refine wp_iald rfl k1 i0 ?_
  exact wp_icgt (tgt := 91) rfl (by decide) wt wf
theorem b338_78 {n : Nat} {h : q_Hp} {Q : Option Value → q_Hp → Prop} {x0 : Nat} {x1 : Int32} (k0 : q_ok h x0 12) (w : q_wp n 338 202 [some (.ref x0), some (.int x1)] [] (q_sI h x0 106 ((qI h x0 106) - 1)) Q) : q_wp n 338 78 [some (.ref x0), some (.int x1)] [] h Q := by
  refine wp_loc rfl rfl ?_
  refine wp_stk rfl rfl rfl ?_
  refine wp_getI rfl rfl rfl k0 ?_
  refine wp_iconst (v := 1) rfl (by decide) ?_
  refine wp_stk rfl rfl rfl ?_
  refine wp_putI rfl rfl (Or.inl rfl) rfl (fun h9 => by cases h9) k0 ?_
  refine wp_goto (tgt := 202) rfl (by decide) ?_
  exact w
theorem b338_91 {n : Nat} {h : q_Hp} {Q : Option Value → q_Hp → Prop} {x0 : Nat} {x1 : Int32} {v0 : Nat} (k0 : q_ok h x0 12) (e0 : qR h x0 111 = v0) (k1 : q_ok h v0 23) (i0 : q_in x1 (qK h v0).2) (w : q_wp n 338 202 [some (.ref x0), some (.int x1)] [] (q_sA h v0 x1.toNatClampNeg (vp_nar .boolean 0)) Q) : q_wp n 338 91 [some (.ref x0), some (.int x1)] [] h Q := by
  refine wp_loc rfl rfl ?_
  refine wp_getR rfl rfl rfl rfl k0 e0 ?_
  refine wp_loc rfl rfl ?_
  refine wp_iconst (v := 0) rfl (by decide) ?_
  refine wp_zast rfl k1 i0 ?_
  refine wp_goto (tgt := 202) rfl (by decide) ?_
  exact w
theorem b338_101 {n : Nat} {h : q_Hp} {Q : Option Value → q_Hp → Prop} {x0 : Nat} {x1 : Int32} {v0 : Nat} {v1 : Nat} {v2 : Nat} (k0 : q_ok h x0 12) (e0 : qR h x0 110 = v0) (k1 : q_ok h v0 20) (i0 : q_in x1 (qK h v0).2) (e1 : qR h x0 60 = v1) (e2 : qR h x0 108 = v2) (k2 : q_ok h v2 20) (i1 : q_in x1 (qK h v2).2) (k3 : q_ok h v1 20) (i2 : q_in (qA (q_sA h v0 x1.toNatClampNeg ((qA h v0 x1.toNatClampNeg) + 1)) v2 x1.toNatClampNeg) (qK h v1).2) (wt : ¬ (qA (q_sA h v0 x1.toNatClampNeg ((qA h v0 x1.toNatClampNeg) + 1)) v0 x1.toNatClampNeg) = (qA (q_sA h v0 x1.toNatClampNeg ((qA h v0 x1.toNatClampNeg) + 1)) v1 ((qA (q_sA h v0 x1.toNatClampNeg ((qA h v0 x1.toNatClampNeg) + 1)) v2 x1.toNatClampNeg : Int32).toNatClampNeg)) → q_wp n 338 144 [some (.ref x0), some (.int x1)] [] (q_sA h v0 x1.toNatClampNeg ((qA h v0 x1.toNatClampNeg) + 1)) Q) (wf : (qA (q_sA h v0 x1.toNatClampNeg ((qA h v0 x1.toNatClampNeg) + 1)) v0 x1.toNatClampNeg) = (qA (q_sA h v0 x1.toNatClampNeg ((qA h v0 x1.toNatClampNeg) + 1)) v1 ((qA (q_sA h v0 x1.toNatClampNeg ((qA h v0 x1.toNatClampNeg) + 1)) v2 x1.toNatClampNeg : Int32).toNatClampNeg)) → q_wp n 338 131 [some (.ref x0), some (.int x1)] [] (q_sA h v0 x1.toNatClampNeg ((qA h v0 x1.toNatClampNeg) + 1)) Q) : q_wp n 338 101 [some (.ref x0), some (.int x1)] [] h Q := by
  refine wp_loc rfl rfl ?_
  refine wp_getR rfl rfl rfl rfl k0 e0 ?_
  refine wp_loc rfl rfl ?_
  refine wp_stk rfl rfl rfl ?_
  refine wp_iald rfl k1 i0 ?_
  refine wp_iconst (v := 1) rfl (by decide) ?_
  refine wp_stk rfl rfl rfl ?_
  refine wp_iast rfl k1 i0 ?_
  refine wp_loc rfl rfl ?_
  refine wp_getR rfl rfl rfl rfl k0 e0 ?_
  refine wp_loc rfl rfl ?_
  refine wp_iald rfl k1 i0 ?_
  refine wp_loc rfl rfl ?_
  refine wp_getR rfl rfl rfl rfl k0 e1 ?_
  refine wp_loc rfl rfl ?_
  refine wp_getR rfl rfl rfl rfl k0 e2 ?_
  refine wp_loc rfl rfl ?_
  refine wp_iald rfl k2 i1 ?_
  refine wp_iald rfl k3 i2 ?_
  exact wp_icne (tgt := 144) rfl (by decide) wt wf
theorem b338_131 {n : Nat} {h : q_Hp} {Q : Option Value → q_Hp → Prop} {x0 : Nat} {x1 : Int32} (k0 : q_ok h x0 12) (w : q_wp n 338 202 [some (.ref x0), some (.int x1)] [] (q_sI h x0 106 ((qI h x0 106) - 1)) Q) : q_wp n 338 131 [some (.ref x0), some (.int x1)] [] h Q := by
  refine wp_loc rfl rfl ?_
  refine wp_stk rfl rfl rfl ?_
  refine wp_getI rfl rfl rfl k0 ?_
  refine wp_iconst (v := 1) rfl (by decide) ?_
  refine wp_stk rfl rfl rfl ?_
  refine wp_putI rfl rfl (Or.inl rfl) rfl (fun h9 => by cases h9) k0 ?_
  refine wp_goto (tgt := 202) rfl (by decide) ?_
  exact w
theorem b338_144 {n : Nat} {h : q_Hp} {Q : Option Value → q_Hp → Prop} {x0 : Nat} {x1 : Int32} {v0 : Nat} (k0 : q_ok h x0 12) (e0 : qR h x0 111 = v0) (k1 : q_ok h v0 23) (i0 : q_in x1 (qK h v0).2) (w : q_wp n 338 202 [some (.ref x0), some (.int x1)] [] (q_sA h v0 x1.toNatClampNeg (vp_nar .boolean 0)) Q) : q_wp n 338 144 [some (.ref x0), some (.int x1)] [] h Q := by
  refine wp_loc rfl rfl ?_
  refine wp_getR rfl rfl rfl rfl k0 e0 ?_
  refine wp_loc rfl rfl ?_
  refine wp_iconst (v := 0) rfl (by decide) ?_
  refine wp_zast rfl k1 i0 ?_
  refine wp_goto (tgt := 202) rfl (by decide) ?_
  exact w
theorem b338_154 {n : Nat} {h : q_Hp} {Q : Option Value → q_Hp → Prop} {x0 : Nat} {x1 : Int32} {v0 : Nat} (k0 : q_ok h x0 12) (e0 : qR h x0 110 = v0) (k1 : q_ok h v0 20) (i0 : q_in x1 (qK h v0).2) (wt : (qA h v0 x1.toNatClampNeg) ≤ 0 → q_wp n 338 176 [some (.ref x0), some (.int x1)] [] h Q) (wf : ¬ (qA h v0 x1.toNatClampNeg) ≤ 0 → q_wp n 338 163 [some (.ref x0), some (.int x1)] [] h Q) : q_wp n 338 154 [some (.ref x0), some (.int x1)] [] h Q := by
  refine wp_loc rfl rfl ?_
  refine wp_getR rfl rfl rfl rfl k0 e0 ?_
  refine wp_loc rfl rfl ?_
  refine wp_iald rfl k1 i0 ?_
  exact wp_ifle (tgt := 176) rfl (by decide) wt wf
theorem b338_163 {n : Nat} {h : q_Hp} {Q : Option Value → q_Hp → Prop} {x0 : Nat} {x1 : Int32} (k0 : q_ok h x0 12) (w : q_wp n 338 202 [some (.ref x0), some (.int x1)] [] (q_sI h x0 106 ((qI h x0 106) - 1)) Q) : q_wp n 338 163 [some (.ref x0), some (.int x1)] [] h Q := by
  refine wp_loc rfl rfl ?_
  refine wp_stk rfl rfl rfl ?_
  refine wp_getI rfl rfl rfl k0 ?_
  refine wp_iconst (v := 1) rfl (by decide) ?_
  refine wp_stk rfl rfl rfl ?_
  refine wp_putI rfl rfl (Or.inl rfl) rfl (fun h9 => by cases h9) k0 ?_
  refine wp_goto (tgt := 202) rfl (by decide) ?_
  exact w
theorem b338_176 {n : Nat} {h : q_Hp} {Q : Option Value → q_Hp → Prop} {x0 : Nat} {x1 : Int32} {v0 : Nat} {v1 : Nat} {v2 : Nat} (k0 : q_ok h x0 12) (e0 : qR h x0 110 = v0) (k1 : q_ok h v0 20) (i0 : q_in x1 (qK h v0).2) (e1 : qR h x0 61 = v1) (e2 : qR h x0 108 = v2) (k2 : q_ok h v2 20) (i1 : q_in x1 (qK h v2).2) (k3 : q_ok h v1 20) (i2 : q_in ((3 * (qA (q_sA h v0 x1.toNatClampNeg 1) v2 x1.toNatClampNeg)) + 1) (qK h v1).2) {m : Nat} {P : q_Hp → Prop} (hc : q_mV m 333 [.ref x0, .int (qA (q_sA h v0 x1.toNatClampNeg 1) v1 (((3 * (qA (q_sA h v0 x1.toNatClampNeg 1) v2 x1.toNatClampNeg)) + 1 : Int32).toNatClampNeg))] (q_sA h v0 x1.toNatClampNeg 1) P) (hm : m ≤ n) (w : ∀ h1 : q_Hp, P h1 → q_wp (n + 1) 338 202 [some (.ref x0), some (.int x1)] [] h1 Q) : q_wp (n + 1) 338 176 [some (.ref x0), some (.int x1)] [] h Q := by
  refine wp_loc rfl rfl ?_
  refine wp_getR rfl rfl rfl rfl k0 e0 ?_
  refine wp_loc rfl rfl ?_
  refine wp_iconst (v := 1) rfl (by decide) ?_
  refine wp_iast rfl k1 i0 ?_
  refine wp_loc rfl rfl ?_
  refine wp_loc rfl rfl ?_
  refine wp_getR rfl rfl rfl rfl k0 e1 ?_
  refine wp_iconst (v := 3) rfl (by decide) ?_
  refine wp_loc rfl rfl ?_
  refine wp_getR rfl rfl rfl rfl k0 e2 ?_
  refine wp_loc rfl rfl ?_
  refine wp_iald rfl k2 i1 ?_
  refine wp_stk rfl rfl rfl ?_
  refine wp_iconst (v := 1) rfl (by decide) ?_
  refine wp_stk rfl rfl rfl ?_
  refine wp_iald rfl k3 i2 ?_
  exact wp_callV (av := [.ref x0, .int (qA (q_sA h v0 x1.toNatClampNeg 1) v1 (((3 * (qA (q_sA h v0 x1.toNatClampNeg 1) v2 x1.toNatClampNeg)) + 1 : Int32).toNatClampNeg))]) rfl rfl rfl (by decide) rfl rfl rfl hm hc w
theorem b338_202 {n : Nat} {h : q_Hp} {Q : Option Value → q_Hp → Prop} {x0 : Nat} {x1 : Int32} (q : Q none h) : q_wp n 338 202 [some (.ref x0), some (.int x1)] [] h Q := by
  exact wp_ret rfl rfl q
