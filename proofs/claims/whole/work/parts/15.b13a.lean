theorem b348_0 {n : Nat} {h : q_Hp} {Q : Option Value → q_Hp → Prop} {x0 : Int32} {x1 : Int32} (nz0 : ¬ x1 = 0) (wt : 0 ≤ (x0 ^^^ x1) → q_wp n 348 18 [some (.int x0), some (.int x1), some (.int (x0 - x0 / x1 * x1))] [] h Q) (wf : ¬ 0 ≤ (x0 ^^^ x1) → q_wp n 348 10 [some (.int x0), some (.int x1), some (.int (x0 - x0 / x1 * x1))] [] h Q) : q_wp n 348 0 [some (.int x0), some (.int x1), none] [] h Q := by
  refine wp_loc rfl rfl ?_
  refine wp_loc rfl rfl ?_
  refine wp_irem rfl nz0 ?_
  refine wp_loc rfl rfl ?_
  refine wp_loc rfl rfl ?_
  refine wp_loc rfl rfl ?_
  refine wp_stk rfl rfl rfl ?_
  exact wp_ifge (tgt := 18) rfl (by decide) wt wf
theorem b348_10 {n : Nat} {h : q_Hp} {Q : Option Value → q_Hp → Prop} {x0 : Int32} {x1 : Int32} {x2 : Int32} (wt : x2 = 0 → q_wp n 348 18 [some (.int x0), some (.int x1), some (.int x2)] [] h Q) (wf : ¬ x2 = 0 → q_wp n 348 14 [some (.int x0), some (.int x1), some (.int x2)] [] h Q) : q_wp n 348 10 [some (.int x0), some (.int x1), some (.int x2)] [] h Q := by
  refine wp_loc rfl rfl ?_
  exact wp_ifeq (tgt := 18) rfl (by decide) wt wf
theorem b348_14 {n : Nat} {h : q_Hp} {Q : Option Value → q_Hp → Prop} {x0 : Int32} {x1 : Int32} {x2 : Int32} (q : Q (some (.int (x2 + x1))) h) : q_wp n 348 14 [some (.int x0), some (.int x1), some (.int x2)] [] h Q := by
  refine wp_loc rfl rfl ?_
  refine wp_loc rfl rfl ?_
  refine wp_stk rfl rfl rfl ?_
  exact wp_ret rfl rfl q
theorem b348_18 {n : Nat} {h : q_Hp} {Q : Option Value → q_Hp → Prop} {x0 : Int32} {x1 : Int32} {x2 : Int32} (q : Q (some (.int x2)) h) : q_wp n 348 18 [some (.int x0), some (.int x1), some (.int x2)] [] h Q := by
  refine wp_loc rfl rfl ?_
  exact wp_ret rfl rfl q
theorem b349_0 {n : Nat} {h : q_Hp} {Q : Option Value → q_Hp → Prop} {x0 : Int32} {x1 : Int32} (wt : x0 < x1 → q_wp n 349 9 [some (.int x0), some (.int x1)] [] h Q) (wf : ¬ x0 < x1 → q_wp n 349 5 [some (.int x0), some (.int x1)] [] h Q) : q_wp n 349 0 [some (.int x0), some (.int x1)] [] h Q := by
  refine wp_loc rfl rfl ?_
  refine wp_loc rfl rfl ?_
  exact wp_iclt (tgt := 9) rfl (by decide) wt wf
theorem b349_5 {n : Nat} {h : q_Hp} {Q : Option Value → q_Hp → Prop} {x0 : Int32} {x1 : Int32} (q : Q (some (.int x0)) h) : q_wp n 349 5 [some (.int x0), some (.int x1)] [] h Q := by
  refine wp_loc rfl rfl ?_
  refine wp_goto (tgt := 10) rfl (by decide) ?_
  exact wp_ret rfl rfl q
theorem b349_9 {n : Nat} {h : q_Hp} {Q : Option Value → q_Hp → Prop} {x0 : Int32} {x1 : Int32} (q : Q (some (.int x1)) h) : q_wp n 349 9 [some (.int x0), some (.int x1)] [] h Q := by
  refine wp_loc rfl rfl ?_
  exact wp_ret rfl rfl q
theorem b350_0 {n : Nat} {h : q_Hp} {Q : Option Value → q_Hp → Prop} {x0 : Int32} {x1 : Int32} (wt : x1 < x0 → q_wp n 350 9 [some (.int x0), some (.int x1)] [] h Q) (wf : ¬ x1 < x0 → q_wp n 350 5 [some (.int x0), some (.int x1)] [] h Q) : q_wp n 350 0 [some (.int x0), some (.int x1)] [] h Q := by
  refine wp_loc rfl rfl ?_
  refine wp_loc rfl rfl ?_
  exact wp_icgt (tgt := 9) rfl (by decide) wt wf
theorem b350_5 {n : Nat} {h : q_Hp} {Q : Option Value → q_Hp → Prop} {x0 : Int32} {x1 : Int32} (q : Q (some (.int x0)) h) : q_wp n 350 5 [some (.int x0), some (.int x1)] [] h Q := by
  refine wp_loc rfl rfl ?_
  refine wp_goto (tgt := 10) rfl (by decide) ?_
  exact wp_ret rfl rfl q
theorem b350_9 {n : Nat} {h : q_Hp} {Q : Option Value → q_Hp → Prop} {x0 : Int32} {x1 : Int32} (q : Q (some (.int x1)) h) : q_wp n 350 9 [some (.int x0), some (.int x1)] [] h Q := by
  refine wp_loc rfl rfl ?_
  exact wp_ret rfl rfl q
