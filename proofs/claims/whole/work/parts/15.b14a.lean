theorem b351_0 {n : Nat} {h : q_Hp} {Q : Option Value → q_Hp → Prop} {x0 : Nat} {x1 : Int64} {cd0 : Nat} (a0 : q_ok h x0 cd0) (a0c : 20 ≤ cd0 ∧ cd0 ≤ 24) (w : q_wp n 351 6 [some (.ref x0), some (.long x1), none, some (.int 0), some (.int (Int32.ofNat (qK h x0).2))] [] h Q) : q_wp n 351 0 [some (.ref x0), some (.long x1), none, none, none] [] h Q := by
  refine wp_iconst (v := 0) rfl (by decide) ?_
  refine wp_loc rfl rfl ?_
  refine wp_loc rfl rfl ?_
  refine wp_alen rfl a0 a0c ?_
  refine wp_loc rfl rfl ?_
  exact w
theorem b351_6 {n : Nat} {h : q_Hp} {Q : Option Value → q_Hp → Prop} {x0 : Nat} {x1 : Int64} {x3 : Int32} {x4 : Int32} (wt : x4 ≤ x3 → q_wp n 351 22 [some (.ref x0), some (.long x1), none, some (.int x3), some (.int x4)] [] h Q) (wf : ¬ x4 ≤ x3 → q_wp n 351 12 [some (.ref x0), some (.long x1), none, some (.int x3), some (.int x4)] [] h Q) : q_wp n 351 6 [some (.ref x0), some (.long x1), none, some (.int x3), some (.int x4)] [] h Q := by
  refine wp_loc rfl rfl ?_
  refine wp_loc rfl rfl ?_
  exact wp_icge (tgt := 22) rfl (by decide) wt wf
theorem b351_12 {n : Nat} {h : q_Hp} {Q : Option Value → q_Hp → Prop} {x0 : Nat} {x1 : Int64} {x3 : Int32} {x4 : Int32} (k0 : q_ok h x0 21) (i0 : q_in x3 (qK h x0).2) (w : q_wp n 351 6 [some (.ref x0), some (.long x1), none, some (.int (x3 + 1)), some (.int x4)] [] (q_sL h x0 x3.toNatClampNeg x1) Q) : q_wp n 351 12 [some (.ref x0), some (.long x1), none, some (.int x3), some (.int x4)] [] h Q := by
  refine wp_loc rfl rfl ?_
  refine wp_loc rfl rfl ?_
  refine wp_loc rfl rfl ?_
  refine wp_last rfl k0 i0 ?_
  refine wp_iinc (v := 1) rfl rfl (by decide) rfl ?_
  refine wp_goto (tgt := 6) rfl (by decide) ?_
  exact w
theorem b351_22 {n : Nat} {h : q_Hp} {Q : Option Value → q_Hp → Prop} {x0 : Nat} {x1 : Int64} {x3 : Int32} {x4 : Int32} (q : Q none h) : q_wp n 351 22 [some (.ref x0), some (.long x1), none, some (.int x3), some (.int x4)] [] h Q := by
  exact wp_ret rfl rfl q
theorem b352_0 {n : Nat} {h : q_Hp} {Q : Option Value → q_Hp → Prop} {x0 : Nat} {x1 : Int32} {cd0 : Nat} (a0 : q_ok h x0 cd0) (a0c : 20 ≤ cd0 ∧ cd0 ≤ 24) (w : q_wp n 352 5 [some (.ref x0), some (.int x1), some (.int 0), some (.int (Int32.ofNat (qK h x0).2))] [] h Q) : q_wp n 352 0 [some (.ref x0), some (.int x1), none, none] [] h Q := by
  refine wp_iconst (v := 0) rfl (by decide) ?_
  refine wp_loc rfl rfl ?_
  refine wp_loc rfl rfl ?_
  refine wp_alen rfl a0 a0c ?_
  refine wp_loc rfl rfl ?_
  exact w
theorem b352_5 {n : Nat} {h : q_Hp} {Q : Option Value → q_Hp → Prop} {x0 : Nat} {x1 : Int32} {x2 : Int32} {x3 : Int32} (wt : x3 ≤ x2 → q_wp n 352 20 [some (.ref x0), some (.int x1), some (.int x2), some (.int x3)] [] h Q) (wf : ¬ x3 ≤ x2 → q_wp n 352 10 [some (.ref x0), some (.int x1), some (.int x2), some (.int x3)] [] h Q) : q_wp n 352 5 [some (.ref x0), some (.int x1), some (.int x2), some (.int x3)] [] h Q := by
  refine wp_loc rfl rfl ?_
  refine wp_loc rfl rfl ?_
  exact wp_icge (tgt := 20) rfl (by decide) wt wf
theorem b352_10 {n : Nat} {h : q_Hp} {Q : Option Value → q_Hp → Prop} {x0 : Nat} {x1 : Int32} {x2 : Int32} {x3 : Int32} (k0 : q_ok h x0 20) (i0 : q_in x2 (qK h x0).2) (w : q_wp n 352 5 [some (.ref x0), some (.int x1), some (.int (x2 + 1)), some (.int x3)] [] (q_sA h x0 x2.toNatClampNeg x1) Q) : q_wp n 352 10 [some (.ref x0), some (.int x1), some (.int x2), some (.int x3)] [] h Q := by
  refine wp_loc rfl rfl ?_
  refine wp_loc rfl rfl ?_
  refine wp_loc rfl rfl ?_
  refine wp_iast rfl k0 i0 ?_
  refine wp_iinc (v := 1) rfl rfl (by decide) rfl ?_
  refine wp_goto (tgt := 5) rfl (by decide) ?_
  exact w
theorem b352_20 {n : Nat} {h : q_Hp} {Q : Option Value → q_Hp → Prop} {x0 : Nat} {x1 : Int32} {x2 : Int32} {x3 : Int32} (q : Q none h) : q_wp n 352 20 [some (.ref x0), some (.int x1), some (.int x2), some (.int x3)] [] h Q := by
  exact wp_ret rfl rfl q
