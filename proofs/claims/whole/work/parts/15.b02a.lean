theorem b60_17 {n : Nat} {h : q_Hp} {Q : Option Value → q_Hp → Prop} {x0 : Nat} (q : Q none h) : q_wp n 60 17 [some (.ref x0)] [] h Q := by
  exact wp_ret rfl rfl q
theorem b61_0 {n : Nat} {h : q_Hp} {Q : Option Value → q_Hp → Prop} {x0 : Nat} (w : q_wp n 61 2 [some (.ref x0), some (.int 0)] [] h Q) : q_wp n 61 0 [some (.ref x0), none] [] h Q := by
  refine wp_iconst (v := 0) rfl (by decide) ?_
  refine wp_loc rfl rfl ?_
  exact w
theorem b61_2 {n : Nat} {h : q_Hp} {Q : Option Value → q_Hp → Prop} {x0 : Nat} {x1 : Int32} (wt : 156 ≤ x1 → q_wp n 61 38 [some (.ref x0), some (.int x1)] [] h Q) (wf : ¬ 156 ≤ x1 → q_wp n 61 9 [some (.ref x0), some (.int x1)] [] h Q) : q_wp n 61 2 [some (.ref x0), some (.int x1)] [] h Q := by
  refine wp_loc rfl rfl ?_
  refine wp_sipush (v := 156) rfl (by decide) ?_
  exact wp_icge (tgt := 38) rfl (by decide) wt wf
theorem b61_9 {n : Nat} {h : q_Hp} {Q : Option Value → q_Hp → Prop} {x0 : Nat} {x1 : Int32} {v0 : Nat} (k0 : q_ok h x0 2) (e0 : qR h x0 0 = v0) (wt : x1 < 12 → q_wp n 61 26 [some (.ref x0), some (.int x1)] [.int x1, .ref v0] h Q) (wf : ¬ x1 < 12 → q_wp n 61 20 [some (.ref x0), some (.int x1)] [.int x1, .ref v0] h Q) : q_wp n 61 9 [some (.ref x0), some (.int x1)] [] h Q := by
  refine wp_loc rfl rfl ?_
  refine wp_getR rfl rfl rfl rfl k0 e0 ?_
  refine wp_loc rfl rfl ?_
  refine wp_loc rfl rfl ?_
  refine wp_bipush (v := 12) rfl (by decide) ?_
  exact wp_iclt (tgt := 26) rfl (by decide) wt wf
theorem b61_20 {n : Nat} {h : q_Hp} {Q : Option Value → q_Hp → Prop} {x0 : Nat} {x1 : Int32} {s0 : Int32} {s1 : Nat} (wt : x1 < 36 → q_wp n 61 30 [some (.ref x0), some (.int x1)] [.int s0, .ref s1] h Q) (wf : ¬ x1 < 36 → q_wp n 61 26 [some (.ref x0), some (.int x1)] [.int s0, .ref s1] h Q) : q_wp n 61 20 [some (.ref x0), some (.int x1)] [.int s0, .ref s1] h Q := by
  refine wp_loc rfl rfl ?_
  refine wp_bipush (v := 36) rfl (by decide) ?_
  exact wp_iclt (tgt := 30) rfl (by decide) wt wf
theorem b61_26 {n : Nat} {h : q_Hp} {Q : Option Value → q_Hp → Prop} {x0 : Nat} {x1 : Int32} {s0 : Int32} {s1 : Nat} (w : q_wp n 61 31 [some (.ref x0), some (.int x1)] [.int (-1), .int s0, .ref s1] h Q) : q_wp n 61 26 [some (.ref x0), some (.int x1)] [.int s0, .ref s1] h Q := by
  refine wp_iconst (v := (-1)) rfl (by decide) ?_
  refine wp_goto (tgt := 31) rfl (by decide) ?_
  exact w
theorem b61_30 {n : Nat} {h : q_Hp} {Q : Option Value → q_Hp → Prop} {x0 : Nat} {x1 : Int32} {s0 : Int32} {s1 : Nat} (w : q_wp n 61 31 [some (.ref x0), some (.int x1)] [.int 0, .int s0, .ref s1] h Q) : q_wp n 61 30 [some (.ref x0), some (.int x1)] [.int s0, .ref s1] h Q := by
  refine wp_iconst (v := 0) rfl (by decide) ?_
  exact w
theorem b61_31 {n : Nat} {h : q_Hp} {Q : Option Value → q_Hp → Prop} {x0 : Nat} {x1 : Int32} {s0 : Int32} {s1 : Int32} {s2 : Nat} (k0 : q_ok h s2 20) (i0 : q_in s1 (qK h s2).2) (w : q_wp n 61 2 [some (.ref x0), some (.int (x1 + 1))] [] (q_sA h s2 s1.toNatClampNeg s0) Q) : q_wp n 61 31 [some (.ref x0), some (.int x1)] [.int s0, .int s1, .ref s2] h Q := by
  refine wp_iast rfl k0 i0 ?_
  refine wp_iinc (v := 1) rfl rfl (by decide) rfl ?_
  refine wp_goto (tgt := 2) rfl (by decide) ?_
  exact w
theorem b61_38 {n : Nat} {h : q_Hp} {Q : Option Value → q_Hp → Prop} {x0 : Nat} {x1 : Int32} (q : Q none h) : q_wp n 61 38 [some (.ref x0), some (.int x1)] [] h Q := by
  exact wp_ret rfl rfl q
theorem b62_0 {n : Nat} {h : q_Hp} {Q : Option Value → q_Hp → Prop} {x0 : Nat} {x1 : Nat} {x2 : Int32} (wt : x2 < 0 → q_wp n 62 37 [some (.ref x0), some (.ref x1), some (.int x2), some (.int (x2 * 156))] [] h Q) (wf : ¬ x2 < 0 → q_wp n 62 10 [some (.ref x0), some (.ref x1), some (.int x2), some (.int (x2 * 156))] [] h Q) : q_wp n 62 0 [some (.ref x0), some (.ref x1), some (.int x2), none] [] h Q := by
  refine wp_loc rfl rfl ?_
  refine wp_sipush (v := 156) rfl (by decide) ?_
  refine wp_stk rfl rfl rfl ?_
  refine wp_loc rfl rfl ?_
  refine wp_loc rfl rfl ?_
  exact wp_iflt (tgt := 37) rfl (by decide) wt wf
theorem b62_10 {n : Nat} {h : q_Hp} {Q : Option Value → q_Hp → Prop} {x0 : Nat} {x1 : Nat} {x2 : Int32} {x3 : Int32} (wt : x3 < 0 → q_wp n 62 37 [some (.ref x0), some (.ref x1), some (.int x2), some (.int x3)] [] h Q) (wf : ¬ x3 < 0 → q_wp n 62 14 [some (.ref x0), some (.ref x1), some (.int x2), some (.int x3)] [] h Q) : q_wp n 62 10 [some (.ref x0), some (.ref x1), some (.int x2), some (.int x3)] [] h Q := by
  refine wp_loc rfl rfl ?_
  exact wp_iflt (tgt := 37) rfl (by decide) wt wf
theorem b62_14 {n : Nat} {h : q_Hp} {Q : Option Value → q_Hp → Prop} {x0 : Nat} {x1 : Nat} {x2 : Int32} {x3 : Int32} {cd0 : Nat} (a0 : q_ok h x1 cd0) (a0c : 20 ≤ cd0 ∧ cd0 ≤ 24) (wt : ((Int32.ofNat (qK h x1).2) - 156) < x3 → q_wp n 62 37 [some (.ref x0), some (.ref x1), some (.int x2), some (.int x3)] [] h Q) (wf : ¬ ((Int32.ofNat (qK h x1).2) - 156) < x3 → q_wp n 62 24 [some (.ref x0), some (.ref x1), some (.int x2), some (.int x3)] [] h Q) : q_wp n 62 14 [some (.ref x0), some (.ref x1), some (.int x2), some (.int x3)] [] h Q := by
  refine wp_loc rfl rfl ?_
  refine wp_loc rfl rfl ?_
  refine wp_alen rfl a0 a0c ?_
  refine wp_sipush (v := 156) rfl (by decide) ?_
  refine wp_stk rfl rfl rfl ?_
  exact wp_icgt (tgt := 37) rfl (by decide) wt wf
theorem b62_24 {n : Nat} {h : q_Hp} {Q : Option Value → q_Hp → Prop} {x0 : Nat} {x1 : Nat} {x2 : Int32} {x3 : Int32} {v0 : Nat} (k0 : q_ok h x0 2) (e0 : qR h x0 0 = v0) (k1 : q_ok h v0 20) (k2 : q_ok h x1 20) (c1 : ¬ (0 : Int32) < 0) (c2 : ¬ (x3 : Int32) < 0) (c3 : ¬ (156 : Int32) < 0) (c4 : (0 : Int32).toNatClampNeg + (156 : Int32).toNatClampNeg ≤ (qK h v0).2) (c5 : (x3 : Int32).toNatClampNeg + (156 : Int32).toNatClampNeg ≤ (qK h x1).2) (hn : 0 < n) (w : q_wp n 62 37 [some (.ref x0), some (.ref x1), some (.int x2), some (.int x3)] [] (q_cpyA h v0 ((0 : Int32).toNatClampNeg) x1 ((x3 : Int32).toNatClampNeg) ((156 : Int32).toNatClampNeg)) Q) : q_wp n 62 24 [some (.ref x0), some (.ref x1), some (.int x2), some (.int x3)] [] h Q := by
  refine wp_loc rfl rfl ?_
  refine wp_getR rfl rfl rfl rfl k0 e0 ?_
  refine wp_iconst (v := 0) rfl (by decide) ?_
  refine wp_loc rfl rfl ?_
  refine wp_loc rfl rfl ?_
  refine wp_sipush (v := 156) rfl (by decide) ?_
  refine wp_acpy rfl rfl hn rfl k1 k2 c1 c2 c3 c4 c5 ?_
  exact w
theorem b62_37 {n : Nat} {h : q_Hp} {Q : Option Value → q_Hp → Prop} {x0 : Nat} {x1 : Nat} {x2 : Int32} {x3 : Int32} (q : Q none h) : q_wp n 62 37 [some (.ref x0), some (.ref x1), some (.int x2), some (.int x3)] [] h Q := by
  exact wp_ret rfl rfl q
theorem b63_0 {n : Nat} {h : q_Hp} {Q : Option Value → q_Hp → Prop} {x0 : Nat} {x1 : Nat} {x2 : Int32} (wt : x2 < 0 → q_wp n 63 37 [some (.ref x0), some (.ref x1), some (.int x2), some (.int (x2 * 156))] [] h Q) (wf : ¬ x2 < 0 → q_wp n 63 10 [some (.ref x0), some (.ref x1), some (.int x2), some (.int (x2 * 156))] [] h Q) : q_wp n 63 0 [some (.ref x0), some (.ref x1), some (.int x2), none] [] h Q := by
  refine wp_loc rfl rfl ?_
  refine wp_sipush (v := 156) rfl (by decide) ?_
  refine wp_stk rfl rfl rfl ?_
  refine wp_loc rfl rfl ?_
  refine wp_loc rfl rfl ?_
  exact wp_iflt (tgt := 37) rfl (by decide) wt wf
theorem b63_10 {n : Nat} {h : q_Hp} {Q : Option Value → q_Hp → Prop} {x0 : Nat} {x1 : Nat} {x2 : Int32} {x3 : Int32} (wt : x3 < 0 → q_wp n 63 37 [some (.ref x0), some (.ref x1), some (.int x2), some (.int x3)] [] h Q) (wf : ¬ x3 < 0 → q_wp n 63 14 [some (.ref x0), some (.ref x1), some (.int x2), some (.int x3)] [] h Q) : q_wp n 63 10 [some (.ref x0), some (.ref x1), some (.int x2), some (.int x3)] [] h Q := by
  refine wp_loc rfl rfl ?_
  exact wp_iflt (tgt := 37) rfl (by decide) wt wf
theorem b63_14 {n : Nat} {h : q_Hp} {Q : Option Value → q_Hp → Prop} {x0 : Nat} {x1 : Nat} {x2 : Int32} {x3 : Int32} {cd0 : Nat} (a0 : q_ok h x1 cd0) (a0c : 20 ≤ cd0 ∧ cd0 ≤ 24) (wt : ((Int32.ofNat (qK h x1).2) - 156) < x3 → q_wp n 63 37 [some (.ref x0), some (.ref x1), some (.int x2), some (.int x3)] [] h Q) (wf : ¬ ((Int32.ofNat (qK h x1).2) - 156) < x3 → q_wp n 63 24 [some (.ref x0), some (.ref x1), some (.int x2), some (.int x3)] [] h Q) : q_wp n 63 14 [some (.ref x0), some (.ref x1), some (.int x2), some (.int x3)] [] h Q := by
  refine wp_loc rfl rfl ?_
  refine wp_loc rfl rfl ?_
  refine wp_alen rfl a0 a0c ?_
  refine wp_sipush (v := 156) rfl (by decide) ?_
  refine wp_stk rfl rfl rfl ?_
  exact wp_icgt (tgt := 37) rfl (by decide) wt wf
theorem b63_24 {n : Nat} {h : q_Hp} {Q : Option Value → q_Hp → Prop} {x0 : Nat} {x1 : Nat} {x2 : Int32} {x3 : Int32} {v0 : Nat} (k0 : q_ok h x0 2) (e0 : qR h x0 0 = v0) (k1 : q_ok h x1 20) (k2 : q_ok h v0 20) (c1 : ¬ (x3 : Int32) < 0) (c2 : ¬ (0 : Int32) < 0) (c3 : ¬ (156 : Int32) < 0) (c4 : (x3 : Int32).toNatClampNeg + (156 : Int32).toNatClampNeg ≤ (qK h x1).2) (c5 : (0 : Int32).toNatClampNeg + (156 : Int32).toNatClampNeg ≤ (qK h v0).2) (hn : 0 < n) (w : q_wp n 63 37 [some (.ref x0), some (.ref x1), some (.int x2), some (.int x3)] [] (q_cpyA h x1 ((x3 : Int32).toNatClampNeg) v0 ((0 : Int32).toNatClampNeg) ((156 : Int32).toNatClampNeg)) Q) : q_wp n 63 24 [some (.ref x0), some (.ref x1), some (.int x2), some (.int x3)] [] h Q := by
  refine wp_loc rfl rfl ?_
  refine wp_loc rfl rfl ?_
  refine wp_loc rfl rfl ?_
  refine wp_getR rfl rfl rfl rfl k0 e0 ?_
  refine wp_iconst (v := 0) rfl (by decide) ?_
  refine wp_sipush (v := 156) rfl (by decide) ?_
  refine wp_acpy rfl rfl hn rfl k1 k2 c1 c2 c3 c4 c5 ?_
  exact w
theorem b63_37 {n : Nat} {h : q_Hp} {Q : Option Value → q_Hp → Prop} {x0 : Nat} {x1 : Nat} {x2 : Int32} {x3 : Int32} (q : Q none h) : q_wp n 63 37 [some (.ref x0), some (.ref x1), some (.int x2), some (.int x3)] [] h Q := by
  exact wp_ret rfl rfl q
theorem b64_0 {n : Nat} {h : q_Hp} {Q : Option Value → q_Hp → Prop} {x0 : Nat} {x1 : Int32} (wt : x1 < 0 → q_wp n 64 19 [some (.ref x0), some (.int x1)] [] h Q) (wf : ¬ x1 < 0 → q_wp n 64 4 [some (.ref x0), some (.int x1)] [] h Q) : q_wp n 64 0 [some (.ref x0), some (.int x1)] [] h Q := by
  refine wp_loc rfl rfl ?_
  exact wp_iflt (tgt := 19) rfl (by decide) wt wf
theorem b64_4 {n : Nat} {h : q_Hp} {Q : Option Value → q_Hp → Prop} {x0 : Nat} {x1 : Int32} (wt : 12 ≤ x1 → q_wp n 64 19 [some (.ref x0), some (.int x1)] [] h Q) (wf : ¬ 12 ≤ x1 → q_wp n 64 10 [some (.ref x0), some (.int x1)] [] h Q) : q_wp n 64 4 [some (.ref x0), some (.int x1)] [] h Q := by
  refine wp_loc rfl rfl ?_
  refine wp_bipush (v := 12) rfl (by decide) ?_
  exact wp_icge (tgt := 19) rfl (by decide) wt wf
theorem b64_10 {n : Nat} {h : q_Hp} {Q : Option Value → q_Hp → Prop} {x0 : Nat} {x1 : Int32} {v0 : Nat} (k0 : q_ok h x0 2) (e0 : qR h x0 0 = v0) (k1 : q_ok h v0 20) (i0 : q_in x1 (qK h v0).2) (q : Q (some (.int (qA h v0 x1.toNatClampNeg))) h) : q_wp n 64 10 [some (.ref x0), some (.int x1)] [] h Q := by
  refine wp_loc rfl rfl ?_
  refine wp_getR rfl rfl rfl rfl k0 e0 ?_
  refine wp_loc rfl rfl ?_
  refine wp_iald rfl k1 i0 ?_
  refine wp_goto (tgt := 20) rfl (by decide) ?_
  exact wp_ret rfl rfl q
theorem b64_19 {n : Nat} {h : q_Hp} {Q : Option Value → q_Hp → Prop} {x0 : Nat} {x1 : Int32} (q : Q (some (.int (-1))) h) : q_wp n 64 19 [some (.ref x0), some (.int x1)] [] h Q := by
  refine wp_iconst (v := (-1)) rfl (by decide) ?_
  exact wp_ret rfl rfl q
theorem b65_0 {n : Nat} {h : q_Hp} {Q : Option Value → q_Hp → Prop} {x0 : Nat} {x1 : Int32} (wt : x1 < 0 → q_wp n 65 24 [some (.ref x0), some (.int x1)] [] h Q) (wf : ¬ x1 < 0 → q_wp n 65 4 [some (.ref x0), some (.int x1)] [] h Q) : q_wp n 65 0 [some (.ref x0), some (.int x1)] [] h Q := by
  refine wp_loc rfl rfl ?_
  exact wp_iflt (tgt := 24) rfl (by decide) wt wf
theorem b65_4 {n : Nat} {h : q_Hp} {Q : Option Value → q_Hp → Prop} {x0 : Nat} {x1 : Int32} (wt : 12 ≤ x1 → q_wp n 65 24 [some (.ref x0), some (.int x1)] [] h Q) (wf : ¬ 12 ≤ x1 → q_wp n 65 10 [some (.ref x0), some (.int x1)] [] h Q) : q_wp n 65 4 [some (.ref x0), some (.int x1)] [] h Q := by
  refine wp_loc rfl rfl ?_
  refine wp_bipush (v := 12) rfl (by decide) ?_
  exact wp_icge (tgt := 24) rfl (by decide) wt wf
theorem b65_10 {n : Nat} {h : q_Hp} {Q : Option Value → q_Hp → Prop} {x0 : Nat} {x1 : Int32} {v0 : Nat} (k0 : q_ok h x0 2) (e0 : qR h x0 0 = v0) (k1 : q_ok h v0 20) (i0 : q_in x1 (qK h v0).2) (wt : (qA h v0 x1.toNatClampNeg) = (-1) → q_wp n 65 24 [some (.ref x0), some (.int x1)] [] h Q) (wf : ¬ (qA h v0 x1.toNatClampNeg) = (-1) → q_wp n 65 20 [some (.ref x0), some (.int x1)] [] h Q) : q_wp n 65 10 [some (.ref x0), some (.int x1)] [] h Q := by
  refine wp_loc rfl rfl ?_
  refine wp_getR rfl rfl rfl rfl k0 e0 ?_
  refine wp_loc rfl rfl ?_
  refine wp_iald rfl k1 i0 ?_
  refine wp_iconst (v := (-1)) rfl (by decide) ?_
  exact wp_iceq (tgt := 24) rfl (by decide) wt wf
theorem b65_20 {n : Nat} {h : q_Hp} {Q : Option Value → q_Hp → Prop} {x0 : Nat} {x1 : Int32} (q : Q (some (.int 1)) h) : q_wp n 65 20 [some (.ref x0), some (.int x1)] [] h Q := by
  refine wp_iconst (v := 1) rfl (by decide) ?_
  refine wp_goto (tgt := 25) rfl (by decide) ?_
  exact wp_ret (r := some (.int 1)) rfl rfl q
theorem b65_24 {n : Nat} {h : q_Hp} {Q : Option Value → q_Hp → Prop} {x0 : Nat} {x1 : Int32} (q : Q (some (.int 0)) h) : q_wp n 65 24 [some (.ref x0), some (.int x1)] [] h Q := by
  refine wp_iconst (v := 0) rfl (by decide) ?_
  exact wp_ret (r := some (.int 0)) rfl rfl q
theorem b66_0 {n : Nat} {h : q_Hp} {Q : Option Value → q_Hp → Prop} {x0 : Nat} {x1 : Int32} {x2 : Int32} (wt : x1 < 0 → q_wp n 66 23 [some (.ref x0), some (.int x1), some (.int x2), none] [] h Q) (wf : ¬ x1 < 0 → q_wp n 66 4 [some (.ref x0), some (.int x1), some (.int x2), none] [] h Q) : q_wp n 66 0 [some (.ref x0), some (.int x1), some (.int x2), none] [] h Q := by
  refine wp_loc rfl rfl ?_
  exact wp_iflt (tgt := 23) rfl (by decide) wt wf
theorem b66_4 {n : Nat} {h : q_Hp} {Q : Option Value → q_Hp → Prop} {x0 : Nat} {x1 : Int32} {x2 : Int32} (wt : 12 ≤ x1 → q_wp n 66 23 [some (.ref x0), some (.int x1), some (.int x2), none] [] h Q) (wf : ¬ 12 ≤ x1 → q_wp n 66 10 [some (.ref x0), some (.int x1), some (.int x2), none] [] h Q) : q_wp n 66 4 [some (.ref x0), some (.int x1), some (.int x2), none] [] h Q := by
  refine wp_loc rfl rfl ?_
  refine wp_bipush (v := 12) rfl (by decide) ?_
  exact wp_icge (tgt := 23) rfl (by decide) wt wf
theorem b66_10 {n : Nat} {h : q_Hp} {Q : Option Value → q_Hp → Prop} {x0 : Nat} {x1 : Int32} {x2 : Int32} (wt : x2 = 0 → q_wp n 66 19 [some (.ref x0), some (.int x1), some (.int x2), none] [] h Q) (wf : ¬ x2 = 0 → q_wp n 66 14 [some (.ref x0), some (.int x1), some (.int x2), none] [] h Q) : q_wp n 66 10 [some (.ref x0), some (.int x1), some (.int x2), none] [] h Q := by
  refine wp_loc rfl rfl ?_
  exact wp_ifeq (tgt := 19) rfl (by decide) wt wf
theorem b66_14 {n : Nat} {h : q_Hp} {Q : Option Value → q_Hp → Prop} {x0 : Nat} {x1 : Int32} {x2 : Int32} (wt : ¬ x2 = 1 → q_wp n 66 23 [some (.ref x0), some (.int x1), some (.int x2), none] [] h Q) (wf : x2 = 1 → q_wp n 66 19 [some (.ref x0), some (.int x1), some (.int x2), none] [] h Q) : q_wp n 66 14 [some (.ref x0), some (.int x1), some (.int x2), none] [] h Q := by
  refine wp_loc rfl rfl ?_
  refine wp_iconst (v := 1) rfl (by decide) ?_
  exact wp_icne (tgt := 23) rfl (by decide) wt wf
theorem b66_19 {n : Nat} {h : q_Hp} {Q : Option Value → q_Hp → Prop} {x0 : Nat} {x1 : Int32} {x2 : Int32} (w : q_wp n 66 24 [some (.ref x0), some (.int x1), some (.int x2), none] [.int 1] h Q) : q_wp n 66 19 [some (.ref x0), some (.int x1), some (.int x2), none] [] h Q := by
  refine wp_iconst (v := 1) rfl (by decide) ?_
  refine wp_goto (tgt := 24) rfl (by decide) ?_
  exact w
theorem b66_23 {n : Nat} {h : q_Hp} {Q : Option Value → q_Hp → Prop} {x0 : Nat} {x1 : Int32} {x2 : Int32} (w : q_wp n 66 24 [some (.ref x0), some (.int x1), some (.int x2), none] [.int 0] h Q) : q_wp n 66 23 [some (.ref x0), some (.int x1), some (.int x2), none] [] h Q := by
  refine wp_iconst (v := 0) rfl (by decide) ?_
  exact w
theorem b66_24 {n : Nat} {h : q_Hp} {Q : Option Value → q_Hp → Prop} {x0 : Nat} {x1 : Int32} {x2 : Int32} {s0 : Int32} (wt : s0 = 0 → q_wp n 66 46 [some (.ref x0), some (.int x1), some (.int x2), some (.int s0)] [] h Q) (wf : ¬ s0 = 0 → q_wp n 66 29 [some (.ref x0), some (.int x1), some (.int x2), some (.int s0)] [] h Q) : q_wp n 66 24 [some (.ref x0), some (.int x1), some (.int x2), none] [.int s0] h Q := by
  refine wp_loc rfl rfl ?_
  refine wp_loc rfl rfl ?_
  exact wp_ifeq (tgt := 46) rfl (by decide) wt wf
theorem b66_29 {n : Nat} {h : q_Hp} {Q : Option Value → q_Hp → Prop} {x0 : Nat} {x1 : Int32} {x2 : Int32} {x3 : Int32} {v0 : Nat} (k0 : q_ok h x0 2) (e0 : qR h x0 0 = v0) (k1 : q_ok h v0 20) (i0 : q_in ((12 + (x2 * 12)) + x1) (qK h v0).2) (q : Q (some (.int (qA h v0 (((12 + (x2 * 12)) + x1 : Int32).toNatClampNeg)))) h) : q_wp n 66 29 [some (.ref x0), some (.int x1), some (.int x2), some (.int x3)] [] h Q := by
  refine wp_loc rfl rfl ?_
  refine wp_getR rfl rfl rfl rfl k0 e0 ?_
  refine wp_bipush (v := 12) rfl (by decide) ?_
  refine wp_loc rfl rfl ?_
  refine wp_bipush (v := 12) rfl (by decide) ?_
  refine wp_stk rfl rfl rfl ?_
  refine wp_stk rfl rfl rfl ?_
  refine wp_loc rfl rfl ?_
  refine wp_stk rfl rfl rfl ?_
  refine wp_iald rfl k1 i0 ?_
  refine wp_goto (tgt := 47) rfl (by decide) ?_
  exact wp_ret rfl rfl q
theorem b66_46 {n : Nat} {h : q_Hp} {Q : Option Value → q_Hp → Prop} {x0 : Nat} {x1 : Int32} {x2 : Int32} {x3 : Int32} (q : Q (some (.int 0)) h) : q_wp n 66 46 [some (.ref x0), some (.int x1), some (.int x2), some (.int x3)] [] h Q := by
  refine wp_iconst (v := 0) rfl (by decide) ?_
  exact wp_ret rfl rfl q
theorem b67_0 {n : Nat} {h : q_Hp} {Q : Option Value → q_Hp → Prop} {x0 : Nat} {x1 : Int32} {x2 : Int32} {x3 : Int32} {m : Nat} {P : Int32 → q_Hp → Prop} (hc : q_mI m 65 [.ref x0, .int x1] h P) (hm : m ≤ n) (w : ∀ (z : Int32) (h1 : q_Hp), P z h1 → q_wp (n + 1) 67 5 [some (.ref x0), some (.int x1), some (.int x2), some (.int x3)] [.int z] h1 Q) : q_wp (n + 1) 67 0 [some (.ref x0), some (.int x1), some (.int x2), some (.int x3)] [] h Q := by
  refine wp_loc rfl rfl ?_
  refine wp_loc rfl rfl ?_
  exact wp_callI (av := [.ref x0, .int x1]) rfl rfl rfl (by decide) rfl rfl rfl hm hc w
theorem b67_5 {n : Nat} {h : q_Hp} {Q : Option Value → q_Hp → Prop} {x0 : Nat} {x1 : Int32} {x2 : Int32} {x3 : Int32} {s0 : Int32} (wt : s0 = 0 → q_wp n 67 32 [some (.ref x0), some (.int x1), some (.int x2), some (.int x3)] [] h Q) (wf : ¬ s0 = 0 → q_wp n 67 8 [some (.ref x0), some (.int x1), some (.int x2), some (.int x3)] [] h Q) : q_wp n 67 5 [some (.ref x0), some (.int x1), some (.int x2), some (.int x3)] [.int s0] h Q := by
  exact wp_ifeq (tgt := 32) rfl (by decide) wt wf
theorem b67_8 {n : Nat} {h : q_Hp} {Q : Option Value → q_Hp → Prop} {x0 : Nat} {x1 : Int32} {x2 : Int32} {x3 : Int32} (wt : x2 = 0 → q_wp n 67 17 [some (.ref x0), some (.int x1), some (.int x2), some (.int x3)] [] h Q) (wf : ¬ x2 = 0 → q_wp n 67 12 [some (.ref x0), some (.int x1), some (.int x2), some (.int x3)] [] h Q) : q_wp n 67 8 [some (.ref x0), some (.int x1), some (.int x2), some (.int x3)] [] h Q := by
  refine wp_loc rfl rfl ?_
  exact wp_ifeq (tgt := 17) rfl (by decide) wt wf
theorem b67_12 {n : Nat} {h : q_Hp} {Q : Option Value → q_Hp → Prop} {x0 : Nat} {x1 : Int32} {x2 : Int32} {x3 : Int32} (wt : ¬ x2 = 1 → q_wp n 67 32 [some (.ref x0), some (.int x1), some (.int x2), some (.int x3)] [] h Q) (wf : x2 = 1 → q_wp n 67 17 [some (.ref x0), some (.int x1), some (.int x2), some (.int x3)] [] h Q) : q_wp n 67 12 [some (.ref x0), some (.int x1), some (.int x2), some (.int x3)] [] h Q := by
  refine wp_loc rfl rfl ?_
  refine wp_iconst (v := 1) rfl (by decide) ?_
  exact wp_icne (tgt := 32) rfl (by decide) wt wf
theorem b67_17 {n : Nat} {h : q_Hp} {Q : Option Value → q_Hp → Prop} {x0 : Nat} {x1 : Int32} {x2 : Int32} {x3 : Int32} {v0 : Nat} (k0 : q_ok h x0 2) (e0 : qR h x0 0 = v0) (k1 : q_ok h v0 20) (i0 : q_in ((12 + (x2 * 12)) + x1) (qK h v0).2) (w : q_wp n 67 32 [some (.ref x0), some (.int x1), some (.int x2), some (.int x3)] [] (q_sA h v0 (((12 + (x2 * 12)) + x1 : Int32).toNatClampNeg) x3) Q) : q_wp n 67 17 [some (.ref x0), some (.int x1), some (.int x2), some (.int x3)] [] h Q := by
  refine wp_loc rfl rfl ?_
  refine wp_getR rfl rfl rfl rfl k0 e0 ?_
  refine wp_bipush (v := 12) rfl (by decide) ?_
  refine wp_loc rfl rfl ?_
  refine wp_bipush (v := 12) rfl (by decide) ?_
  refine wp_stk rfl rfl rfl ?_
  refine wp_stk rfl rfl rfl ?_
  refine wp_loc rfl rfl ?_
  refine wp_stk rfl rfl rfl ?_
  refine wp_loc rfl rfl ?_
  refine wp_iast rfl k1 i0 ?_
  exact w
theorem b67_32 {n : Nat} {h : q_Hp} {Q : Option Value → q_Hp → Prop} {x0 : Nat} {x1 : Int32} {x2 : Int32} {x3 : Int32} (q : Q none h) : q_wp n 67 32 [some (.ref x0), some (.int x1), some (.int x2), some (.int x3)] [] h Q := by
  exact wp_ret rfl rfl q
theorem b68_0 {n : Nat} {h : q_Hp} {Q : Option Value → q_Hp → Prop} {x0 : Nat} {x1 : Int32} (wt : x1 < 0 → q_wp n 68 22 [some (.ref x0), some (.int x1)] [] h Q) (wf : ¬ x1 < 0 → q_wp n 68 4 [some (.ref x0), some (.int x1)] [] h Q) : q_wp n 68 0 [some (.ref x0), some (.int x1)] [] h Q := by
  refine wp_loc rfl rfl ?_
  exact wp_iflt (tgt := 22) rfl (by decide) wt wf
theorem b68_4 {n : Nat} {h : q_Hp} {Q : Option Value → q_Hp → Prop} {x0 : Nat} {x1 : Int32} (wt : 40 ≤ x1 → q_wp n 68 22 [some (.ref x0), some (.int x1)] [] h Q) (wf : ¬ 40 ≤ x1 → q_wp n 68 10 [some (.ref x0), some (.int x1)] [] h Q) : q_wp n 68 4 [some (.ref x0), some (.int x1)] [] h Q := by
  refine wp_loc rfl rfl ?_
  refine wp_bipush (v := 40) rfl (by decide) ?_
  exact wp_icge (tgt := 22) rfl (by decide) wt wf
theorem b68_10 {n : Nat} {h : q_Hp} {Q : Option Value → q_Hp → Prop} {x0 : Nat} {x1 : Int32} {v0 : Nat} (k0 : q_ok h x0 2) (e0 : qR h x0 0 = v0) (k1 : q_ok h v0 20) (i0 : q_in (36 + x1) (qK h v0).2) (q : Q (some (.int (qA h v0 ((36 + x1 : Int32).toNatClampNeg)))) h) : q_wp n 68 10 [some (.ref x0), some (.int x1)] [] h Q := by
  refine wp_loc rfl rfl ?_
  refine wp_getR rfl rfl rfl rfl k0 e0 ?_
  refine wp_bipush (v := 36) rfl (by decide) ?_
  refine wp_loc rfl rfl ?_
  refine wp_stk rfl rfl rfl ?_
  refine wp_iald rfl k1 i0 ?_
  refine wp_goto (tgt := 23) rfl (by decide) ?_
  exact wp_ret rfl rfl q
theorem b68_22 {n : Nat} {h : q_Hp} {Q : Option Value → q_Hp → Prop} {x0 : Nat} {x1 : Int32} (q : Q (some (.int (-1))) h) : q_wp n 68 22 [some (.ref x0), some (.int x1)] [] h Q := by
  refine wp_iconst (v := (-1)) rfl (by decide) ?_
  exact wp_ret rfl rfl q
theorem b69_0 {n : Nat} {h : q_Hp} {Q : Option Value → q_Hp → Prop} {x0 : Nat} {x1 : Int32} (wt : x1 < 0 → q_wp n 69 22 [some (.ref x0), some (.int x1)] [] h Q) (wf : ¬ x1 < 0 → q_wp n 69 4 [some (.ref x0), some (.int x1)] [] h Q) : q_wp n 69 0 [some (.ref x0), some (.int x1)] [] h Q := by
  refine wp_loc rfl rfl ?_
  exact wp_iflt (tgt := 22) rfl (by decide) wt wf
theorem b69_4 {n : Nat} {h : q_Hp} {Q : Option Value → q_Hp → Prop} {x0 : Nat} {x1 : Int32} (wt : 40 ≤ x1 → q_wp n 69 22 [some (.ref x0), some (.int x1)] [] h Q) (wf : ¬ 40 ≤ x1 → q_wp n 69 10 [some (.ref x0), some (.int x1)] [] h Q) : q_wp n 69 4 [some (.ref x0), some (.int x1)] [] h Q := by
  refine wp_loc rfl rfl ?_
  refine wp_bipush (v := 40) rfl (by decide) ?_
  exact wp_icge (tgt := 22) rfl (by decide) wt wf
theorem b69_10 {n : Nat} {h : q_Hp} {Q : Option Value → q_Hp → Prop} {x0 : Nat} {x1 : Int32} {v0 : Nat} (k0 : q_ok h x0 2) (e0 : qR h x0 0 = v0) (k1 : q_ok h v0 20) (i0 : q_in (76 + x1) (qK h v0).2) (q : Q (some (.int (qA h v0 ((76 + x1 : Int32).toNatClampNeg)))) h) : q_wp n 69 10 [some (.ref x0), some (.int x1)] [] h Q := by
  refine wp_loc rfl rfl ?_
  refine wp_getR rfl rfl rfl rfl k0 e0 ?_
  refine wp_bipush (v := 76) rfl (by decide) ?_
  refine wp_loc rfl rfl ?_
  refine wp_stk rfl rfl rfl ?_
  refine wp_iald rfl k1 i0 ?_
  refine wp_goto (tgt := 23) rfl (by decide) ?_
  exact wp_ret rfl rfl q
theorem b69_22 {n : Nat} {h : q_Hp} {Q : Option Value → q_Hp → Prop} {x0 : Nat} {x1 : Int32} (q : Q (some (.int (-1))) h) : q_wp n 69 22 [some (.ref x0), some (.int x1)] [] h Q := by
  refine wp_iconst (v := (-1)) rfl (by decide) ?_
  exact wp_ret rfl rfl q
theorem b70_0 {n : Nat} {h : q_Hp} {Q : Option Value → q_Hp → Prop} {x0 : Nat} {x1 : Int32} (wt : x1 < 0 → q_wp n 70 22 [some (.ref x0), some (.int x1)] [] h Q) (wf : ¬ x1 < 0 → q_wp n 70 4 [some (.ref x0), some (.int x1)] [] h Q) : q_wp n 70 0 [some (.ref x0), some (.int x1)] [] h Q := by
  refine wp_loc rfl rfl ?_
  exact wp_iflt (tgt := 22) rfl (by decide) wt wf
theorem b70_4 {n : Nat} {h : q_Hp} {Q : Option Value → q_Hp → Prop} {x0 : Nat} {x1 : Int32} (wt : 40 ≤ x1 → q_wp n 70 22 [some (.ref x0), some (.int x1)] [] h Q) (wf : ¬ 40 ≤ x1 → q_wp n 70 10 [some (.ref x0), some (.int x1)] [] h Q) : q_wp n 70 4 [some (.ref x0), some (.int x1)] [] h Q := by
  refine wp_loc rfl rfl ?_
  refine wp_bipush (v := 40) rfl (by decide) ?_
  exact wp_icge (tgt := 22) rfl (by decide) wt wf
theorem b70_10 {n : Nat} {h : q_Hp} {Q : Option Value → q_Hp → Prop} {x0 : Nat} {x1 : Int32} {v0 : Nat} (k0 : q_ok h x0 2) (e0 : qR h x0 0 = v0) (k1 : q_ok h v0 20) (i0 : q_in (116 + x1) (qK h v0).2) (q : Q (some (.int (qA h v0 ((116 + x1 : Int32).toNatClampNeg)))) h) : q_wp n 70 10 [some (.ref x0), some (.int x1)] [] h Q := by
  refine wp_loc rfl rfl ?_
  refine wp_getR rfl rfl rfl rfl k0 e0 ?_
  refine wp_bipush (v := 116) rfl (by decide) ?_
  refine wp_loc rfl rfl ?_
  refine wp_stk rfl rfl rfl ?_
  refine wp_iald rfl k1 i0 ?_
  refine wp_goto (tgt := 23) rfl (by decide) ?_
  exact wp_ret rfl rfl q
theorem b70_22 {n : Nat} {h : q_Hp} {Q : Option Value → q_Hp → Prop} {x0 : Nat} {x1 : Int32} (q : Q (some (.int (-1))) h) : q_wp n 70 22 [some (.ref x0), some (.int x1)] [] h Q := by
  refine wp_iconst (v := (-1)) rfl (by decide) ?_
  exact wp_ret rfl rfl q
theorem b71_0 {n : Nat} {h : q_Hp} {Q : Option Value → q_Hp → Prop} {x0 : Nat} {x1 : Int32} (wt : x1 < 0 → q_wp n 71 27 [some (.ref x0), some (.int x1)] [] h Q) (wf : ¬ x1 < 0 → q_wp n 71 4 [some (.ref x0), some (.int x1)] [] h Q) : q_wp n 71 0 [some (.ref x0), some (.int x1)] [] h Q := by
  refine wp_loc rfl rfl ?_
  exact wp_iflt (tgt := 27) rfl (by decide) wt wf
theorem b71_4 {n : Nat} {h : q_Hp} {Q : Option Value → q_Hp → Prop} {x0 : Nat} {x1 : Int32} (wt : 40 ≤ x1 → q_wp n 71 27 [some (.ref x0), some (.int x1)] [] h Q) (wf : ¬ 40 ≤ x1 → q_wp n 71 10 [some (.ref x0), some (.int x1)] [] h Q) : q_wp n 71 4 [some (.ref x0), some (.int x1)] [] h Q := by
  refine wp_loc rfl rfl ?_
  refine wp_bipush (v := 40) rfl (by decide) ?_
  exact wp_icge (tgt := 27) rfl (by decide) wt wf
theorem b71_10 {n : Nat} {h : q_Hp} {Q : Option Value → q_Hp → Prop} {x0 : Nat} {x1 : Int32} {v0 : Nat} (k0 : q_ok h x0 2) (e0 : qR h x0 0 = v0) (k1 : q_ok h v0 20) (i0 : q_in (36 + x1) (qK h v0).2) (wt : (qA h v0 ((36 + x1 : Int32).toNatClampNeg)) = (-1) → q_wp n 71 27 [some (.ref x0), some (.int x1)] [] h Q) (wf : ¬ (qA h v0 ((36 + x1 : Int32).toNatClampNeg)) = (-1) → q_wp n 71 23 [some (.ref x0), some (.int x1)] [] h Q) : q_wp n 71 10 [some (.ref x0), some (.int x1)] [] h Q := by
  refine wp_loc rfl rfl ?_
  refine wp_getR rfl rfl rfl rfl k0 e0 ?_
  refine wp_bipush (v := 36) rfl (by decide) ?_
  refine wp_loc rfl rfl ?_
  refine wp_stk rfl rfl rfl ?_
  refine wp_iald rfl k1 i0 ?_
  refine wp_iconst (v := (-1)) rfl (by decide) ?_
  exact wp_iceq (tgt := 27) rfl (by decide) wt wf
theorem b71_23 {n : Nat} {h : q_Hp} {Q : Option Value → q_Hp → Prop} {x0 : Nat} {x1 : Int32} (q : Q (some (.int 1)) h) : q_wp n 71 23 [some (.ref x0), some (.int x1)] [] h Q := by
  refine wp_iconst (v := 1) rfl (by decide) ?_
  refine wp_goto (tgt := 28) rfl (by decide) ?_
  exact wp_ret (r := some (.int 1)) rfl rfl q
theorem b71_27 {n : Nat} {h : q_Hp} {Q : Option Value → q_Hp → Prop} {x0 : Nat} {x1 : Int32} (q : Q (some (.int 0)) h) : q_wp n 71 27 [some (.ref x0), some (.int x1)] [] h Q := by
  refine wp_iconst (v := 0) rfl (by decide) ?_
  exact wp_ret (r := some (.int 0)) rfl rfl q
theorem b72_0 {n : Nat} {h : q_Hp} {Q : Option Value → q_Hp → Prop} {x0 : Nat} (w : q_wp n 72 4 [some (.ref x0), some (.int 0), some (.int 0)] [] h Q) : q_wp n 72 0 [some (.ref x0), none, none] [] h Q := by
  refine wp_iconst (v := 0) rfl (by decide) ?_
  refine wp_loc rfl rfl ?_
  refine wp_iconst (v := 0) rfl (by decide) ?_
  refine wp_loc rfl rfl ?_
  exact w
theorem b72_4 {n : Nat} {h : q_Hp} {Q : Option Value → q_Hp → Prop} {x0 : Nat} {x1 : Int32} {x2 : Int32} (wt : 12 ≤ x2 → q_wp n 72 29 [some (.ref x0), some (.int x1), some (.int x2)] [] h Q) (wf : ¬ 12 ≤ x2 → q_wp n 72 10 [some (.ref x0), some (.int x1), some (.int x2)] [] h Q) : q_wp n 72 4 [some (.ref x0), some (.int x1), some (.int x2)] [] h Q := by
  refine wp_loc rfl rfl ?_
  refine wp_bipush (v := 12) rfl (by decide) ?_
  exact wp_icge (tgt := 29) rfl (by decide) wt wf
theorem b72_10 {n : Nat} {h : q_Hp} {Q : Option Value → q_Hp → Prop} {x0 : Nat} {x1 : Int32} {x2 : Int32} {v0 : Nat} (k0 : q_ok h x0 2) (e0 : qR h x0 0 = v0) (k1 : q_ok h v0 20) (i0 : q_in x2 (qK h v0).2) (wt : (qA h v0 x2.toNatClampNeg) = (-1) → q_wp n 72 23 [some (.ref x0), some (.int x1), some (.int x2)] [] h Q) (wf : ¬ (qA h v0 x2.toNatClampNeg) = (-1) → q_wp n 72 20 [some (.ref x0), some (.int x1), some (.int x2)] [] h Q) : q_wp n 72 10 [some (.ref x0), some (.int x1), some (.int x2)] [] h Q := by
  refine wp_loc rfl rfl ?_
  refine wp_getR rfl rfl rfl rfl k0 e0 ?_
  refine wp_loc rfl rfl ?_
  refine wp_iald rfl k1 i0 ?_
  refine wp_iconst (v := (-1)) rfl (by decide) ?_
  exact wp_iceq (tgt := 23) rfl (by decide) wt wf
theorem b72_20 {n : Nat} {h : q_Hp} {Q : Option Value → q_Hp → Prop} {x0 : Nat} {x1 : Int32} {x2 : Int32} (w : q_wp n 72 23 [some (.ref x0), some (.int (x1 + 1)), some (.int x2)] [] h Q) : q_wp n 72 20 [some (.ref x0), some (.int x1), some (.int x2)] [] h Q := by
  refine wp_iinc (v := 1) rfl rfl (by decide) rfl ?_
  exact w
theorem b72_23 {n : Nat} {h : q_Hp} {Q : Option Value → q_Hp → Prop} {x0 : Nat} {x1 : Int32} {x2 : Int32} (w : q_wp n 72 4 [some (.ref x0), some (.int x1), some (.int (x2 + 1))] [] h Q) : q_wp n 72 23 [some (.ref x0), some (.int x1), some (.int x2)] [] h Q := by
  refine wp_iinc (v := 1) rfl rfl (by decide) rfl ?_
  refine wp_goto (tgt := 4) rfl (by decide) ?_
  exact w
theorem b72_29 {n : Nat} {h : q_Hp} {Q : Option Value → q_Hp → Prop} {x0 : Nat} {x1 : Int32} {x2 : Int32} (q : Q (some (.int x1)) h) : q_wp n 72 29 [some (.ref x0), some (.int x1), some (.int x2)] [] h Q := by
  refine wp_loc rfl rfl ?_
  exact wp_ret rfl rfl q
theorem b73_0 {n : Nat} {h : q_Hp} {Q : Option Value → q_Hp → Prop} {x0 : Nat} (w : q_wp n 73 4 [some (.ref x0), some (.int 0), some (.int 0)] [] h Q) : q_wp n 73 0 [some (.ref x0), none, none] [] h Q := by
  refine wp_iconst (v := 0) rfl (by decide) ?_
  refine wp_loc rfl rfl ?_
  refine wp_iconst (v := 0) rfl (by decide) ?_
  refine wp_loc rfl rfl ?_
  exact w
theorem b73_4 {n : Nat} {h : q_Hp} {Q : Option Value → q_Hp → Prop} {x0 : Nat} {x1 : Int32} {x2 : Int32} (wt : 40 ≤ x2 → q_wp n 73 32 [some (.ref x0), some (.int x1), some (.int x2)] [] h Q) (wf : ¬ 40 ≤ x2 → q_wp n 73 10 [some (.ref x0), some (.int x1), some (.int x2)] [] h Q) : q_wp n 73 4 [some (.ref x0), some (.int x1), some (.int x2)] [] h Q := by
  refine wp_loc rfl rfl ?_
  refine wp_bipush (v := 40) rfl (by decide) ?_
  exact wp_icge (tgt := 32) rfl (by decide) wt wf
theorem b73_10 {n : Nat} {h : q_Hp} {Q : Option Value → q_Hp → Prop} {x0 : Nat} {x1 : Int32} {x2 : Int32} {v0 : Nat} (k0 : q_ok h x0 2) (e0 : qR h x0 0 = v0) (k1 : q_ok h v0 20) (i0 : q_in (36 + x2) (qK h v0).2) (wt : (qA h v0 ((36 + x2 : Int32).toNatClampNeg)) = (-1) → q_wp n 73 26 [some (.ref x0), some (.int x1), some (.int x2)] [] h Q) (wf : ¬ (qA h v0 ((36 + x2 : Int32).toNatClampNeg)) = (-1) → q_wp n 73 23 [some (.ref x0), some (.int x1), some (.int x2)] [] h Q) : q_wp n 73 10 [some (.ref x0), some (.int x1), some (.int x2)] [] h Q := by
  refine wp_loc rfl rfl ?_
  refine wp_getR rfl rfl rfl rfl k0 e0 ?_
  refine wp_bipush (v := 36) rfl (by decide) ?_
  refine wp_loc rfl rfl ?_
  refine wp_stk rfl rfl rfl ?_
  refine wp_iald rfl k1 i0 ?_
  refine wp_iconst (v := (-1)) rfl (by decide) ?_
  exact wp_iceq (tgt := 26) rfl (by decide) wt wf
theorem b73_23 {n : Nat} {h : q_Hp} {Q : Option Value → q_Hp → Prop} {x0 : Nat} {x1 : Int32} {x2 : Int32} (w : q_wp n 73 26 [some (.ref x0), some (.int (x1 + 1)), some (.int x2)] [] h Q) : q_wp n 73 23 [some (.ref x0), some (.int x1), some (.int x2)] [] h Q := by
  refine wp_iinc (v := 1) rfl rfl (by decide) rfl ?_
  exact w
theorem b73_26 {n : Nat} {h : q_Hp} {Q : Option Value → q_Hp → Prop} {x0 : Nat} {x1 : Int32} {x2 : Int32} (w : q_wp n 73 4 [some (.ref x0), some (.int x1), some (.int (x2 + 1))] [] h Q) : q_wp n 73 26 [some (.ref x0), some (.int x1), some (.int x2)] [] h Q := by
  refine wp_iinc (v := 1) rfl rfl (by decide) rfl ?_
  refine wp_goto (tgt := 4) rfl (by decide) ?_
  exact w
theorem b73_32 {n : Nat} {h : q_Hp} {Q : Option Value → q_Hp → Prop} {x0 : Nat} {x1 : Int32} {x2 : Int32} (q : Q (some (.int x1)) h) : q_wp n 73 32 [some (.ref x0), some (.int x1), some (.int x2)] [] h Q := by
  refine wp_loc rfl rfl ?_
  exact wp_ret rfl rfl q
theorem b74_0 {n : Nat} {h : q_Hp} {Q : Option Value → q_Hp → Prop} {x0 : Nat} {x1 : Int32} (w : q_wp n 74 4 [some (.ref x0), some (.int x1), some (.int 0), some (.int 0)] [] h Q) : q_wp n 74 0 [some (.ref x0), some (.int x1), none, none] [] h Q := by
  refine wp_iconst (v := 0) rfl (by decide) ?_
  refine wp_loc rfl rfl ?_
  refine wp_iconst (v := 0) rfl (by decide) ?_
  refine wp_loc rfl rfl ?_
  exact w
theorem b74_4 {n : Nat} {h : q_Hp} {Q : Option Value → q_Hp → Prop} {x0 : Nat} {x1 : Int32} {x2 : Int32} {x3 : Int32} (wt : 40 ≤ x3 → q_wp n 74 45 [some (.ref x0), some (.int x1), some (.int x2), some (.int x3)] [] h Q) (wf : ¬ 40 ≤ x3 → q_wp n 74 10 [some (.ref x0), some (.int x1), some (.int x2), some (.int x3)] [] h Q) : q_wp n 74 4 [some (.ref x0), some (.int x1), some (.int x2), some (.int x3)] [] h Q := by
  refine wp_loc rfl rfl ?_
  refine wp_bipush (v := 40) rfl (by decide) ?_
  exact wp_icge (tgt := 45) rfl (by decide) wt wf
theorem b74_10 {n : Nat} {h : q_Hp} {Q : Option Value → q_Hp → Prop} {x0 : Nat} {x1 : Int32} {x2 : Int32} {x3 : Int32} {v0 : Nat} (k0 : q_ok h x0 2) (e0 : qR h x0 0 = v0) (k1 : q_ok h v0 20) (i0 : q_in (36 + x3) (qK h v0).2) (wt : (qA h v0 ((36 + x3 : Int32).toNatClampNeg)) = (-1) → q_wp n 74 39 [some (.ref x0), some (.int x1), some (.int x2), some (.int x3)] [] h Q) (wf : ¬ (qA h v0 ((36 + x3 : Int32).toNatClampNeg)) = (-1) → q_wp n 74 23 [some (.ref x0), some (.int x1), some (.int x2), some (.int x3)] [] h Q) : q_wp n 74 10 [some (.ref x0), some (.int x1), some (.int x2), some (.int x3)] [] h Q := by
  refine wp_loc rfl rfl ?_
  refine wp_getR rfl rfl rfl rfl k0 e0 ?_
  refine wp_bipush (v := 36) rfl (by decide) ?_
  refine wp_loc rfl rfl ?_
  refine wp_stk rfl rfl rfl ?_
  refine wp_iald rfl k1 i0 ?_
  refine wp_iconst (v := (-1)) rfl (by decide) ?_
  exact wp_iceq (tgt := 39) rfl (by decide) wt wf
theorem b74_23 {n : Nat} {h : q_Hp} {Q : Option Value → q_Hp → Prop} {x0 : Nat} {x1 : Int32} {x2 : Int32} {x3 : Int32} {v0 : Nat} (k0 : q_ok h x0 2) (e0 : qR h x0 0 = v0) (k1 : q_ok h v0 20) (i0 : q_in (76 + x3) (qK h v0).2) (wt : ¬ (qA h v0 ((76 + x3 : Int32).toNatClampNeg)) = x1 → q_wp n 74 39 [some (.ref x0), some (.int x1), some (.int x2), some (.int x3)] [] h Q) (wf : (qA h v0 ((76 + x3 : Int32).toNatClampNeg)) = x1 → q_wp n 74 36 [some (.ref x0), some (.int x1), some (.int x2), some (.int x3)] [] h Q) : q_wp n 74 23 [some (.ref x0), some (.int x1), some (.int x2), some (.int x3)] [] h Q := by
  refine wp_loc rfl rfl ?_
  refine wp_getR rfl rfl rfl rfl k0 e0 ?_
  refine wp_bipush (v := 76) rfl (by decide) ?_
  refine wp_loc rfl rfl ?_
  refine wp_stk rfl rfl rfl ?_
  refine wp_iald rfl k1 i0 ?_
  refine wp_loc rfl rfl ?_
  exact wp_icne (tgt := 39) rfl (by decide) wt wf
theorem b74_36 {n : Nat} {h : q_Hp} {Q : Option Value → q_Hp → Prop} {x0 : Nat} {x1 : Int32} {x2 : Int32} {x3 : Int32} (w : q_wp n 74 39 [some (.ref x0), some (.int x1), some (.int (x2 + 1)), some (.int x3)] [] h Q) : q_wp n 74 36 [some (.ref x0), some (.int x1), some (.int x2), some (.int x3)] [] h Q := by
  refine wp_iinc (v := 1) rfl rfl (by decide) rfl ?_
  exact w
theorem b74_39 {n : Nat} {h : q_Hp} {Q : Option Value → q_Hp → Prop} {x0 : Nat} {x1 : Int32} {x2 : Int32} {x3 : Int32} (w : q_wp n 74 4 [some (.ref x0), some (.int x1), some (.int x2), some (.int (x3 + 1))] [] h Q) : q_wp n 74 39 [some (.ref x0), some (.int x1), some (.int x2), some (.int x3)] [] h Q := by
  refine wp_iinc (v := 1) rfl rfl (by decide) rfl ?_
  refine wp_goto (tgt := 4) rfl (by decide) ?_
  exact w
theorem b74_45 {n : Nat} {h : q_Hp} {Q : Option Value → q_Hp → Prop} {x0 : Nat} {x1 : Int32} {x2 : Int32} {x3 : Int32} (q : Q (some (.int x2)) h) : q_wp n 74 45 [some (.ref x0), some (.int x1), some (.int x2), some (.int x3)] [] h Q := by
  refine wp_loc rfl rfl ?_
  exact wp_ret rfl rfl q
theorem b75_0 {n : Nat} {h : q_Hp} {Q : Option Value → q_Hp → Prop} {x0 : Nat} {x1 : Int32} (w : q_wp n 75 4 [some (.ref x0), some (.int x1), some (.int 0), some (.int 0)] [] h Q) : q_wp n 75 0 [some (.ref x0), some (.int x1), none, none] [] h Q := by
  refine wp_iconst (v := 0) rfl (by decide) ?_
  refine wp_loc rfl rfl ?_
  refine wp_iconst (v := 0) rfl (by decide) ?_
  refine wp_loc rfl rfl ?_
  exact w
theorem b75_4 {n : Nat} {h : q_Hp} {Q : Option Value → q_Hp → Prop} {x0 : Nat} {x1 : Int32} {x2 : Int32} {x3 : Int32} (wt : 40 ≤ x3 → q_wp n 75 45 [some (.ref x0), some (.int x1), some (.int x2), some (.int x3)] [] h Q) (wf : ¬ 40 ≤ x3 → q_wp n 75 10 [some (.ref x0), some (.int x1), some (.int x2), some (.int x3)] [] h Q) : q_wp n 75 4 [some (.ref x0), some (.int x1), some (.int x2), some (.int x3)] [] h Q := by
  refine wp_loc rfl rfl ?_
  refine wp_bipush (v := 40) rfl (by decide) ?_
  exact wp_icge (tgt := 45) rfl (by decide) wt wf
theorem b75_10 {n : Nat} {h : q_Hp} {Q : Option Value → q_Hp → Prop} {x0 : Nat} {x1 : Int32} {x2 : Int32} {x3 : Int32} {v0 : Nat} (k0 : q_ok h x0 2) (e0 : qR h x0 0 = v0) (k1 : q_ok h v0 20) (i0 : q_in (36 + x3) (qK h v0).2) (wt : (qA h v0 ((36 + x3 : Int32).toNatClampNeg)) = (-1) → q_wp n 75 39 [some (.ref x0), some (.int x1), some (.int x2), some (.int x3)] [] h Q) (wf : ¬ (qA h v0 ((36 + x3 : Int32).toNatClampNeg)) = (-1) → q_wp n 75 23 [some (.ref x0), some (.int x1), some (.int x2), some (.int x3)] [] h Q) : q_wp n 75 10 [some (.ref x0), some (.int x1), some (.int x2), some (.int x3)] [] h Q := by
  refine wp_loc rfl rfl ?_
  refine wp_getR rfl rfl rfl rfl k0 e0 ?_
  refine wp_bipush (v := 36) rfl (by decide) ?_
  refine wp_loc rfl rfl ?_
  refine wp_stk rfl rfl rfl ?_
  refine wp_iald rfl k1 i0 ?_
  refine wp_iconst (v := (-1)) rfl (by decide) ?_
  exact wp_iceq (tgt := 39) rfl (by decide) wt wf
theorem b75_23 {n : Nat} {h : q_Hp} {Q : Option Value → q_Hp → Prop} {x0 : Nat} {x1 : Int32} {x2 : Int32} {x3 : Int32} {v0 : Nat} (k0 : q_ok h x0 2) (e0 : qR h x0 0 = v0) (k1 : q_ok h v0 20) (i0 : q_in (116 + x3) (qK h v0).2) (wt : ¬ (qA h v0 ((116 + x3 : Int32).toNatClampNeg)) = x1 → q_wp n 75 39 [some (.ref x0), some (.int x1), some (.int x2), some (.int x3)] [] h Q) (wf : (qA h v0 ((116 + x3 : Int32).toNatClampNeg)) = x1 → q_wp n 75 36 [some (.ref x0), some (.int x1), some (.int x2), some (.int x3)] [] h Q) : q_wp n 75 23 [some (.ref x0), some (.int x1), some (.int x2), some (.int x3)] [] h Q := by
  refine wp_loc rfl rfl ?_
  refine wp_getR rfl rfl rfl rfl k0 e0 ?_
  refine wp_bipush (v := 116) rfl (by decide) ?_
  refine wp_loc rfl rfl ?_
  refine wp_stk rfl rfl rfl ?_
  refine wp_iald rfl k1 i0 ?_
  refine wp_loc rfl rfl ?_
  exact wp_icne (tgt := 39) rfl (by decide) wt wf
theorem b75_36 {n : Nat} {h : q_Hp} {Q : Option Value → q_Hp → Prop} {x0 : Nat} {x1 : Int32} {x2 : Int32} {x3 : Int32} (w : q_wp n 75 39 [some (.ref x0), some (.int x1), some (.int (x2 + 1)), some (.int x3)] [] h Q) : q_wp n 75 36 [some (.ref x0), some (.int x1), some (.int x2), some (.int x3)] [] h Q := by
  refine wp_iinc (v := 1) rfl rfl (by decide) rfl ?_
  exact w
theorem b75_39 {n : Nat} {h : q_Hp} {Q : Option Value → q_Hp → Prop} {x0 : Nat} {x1 : Int32} {x2 : Int32} {x3 : Int32} (w : q_wp n 75 4 [some (.ref x0), some (.int x1), some (.int x2), some (.int (x3 + 1))] [] h Q) : q_wp n 75 39 [some (.ref x0), some (.int x1), some (.int x2), some (.int x3)] [] h Q := by
  refine wp_iinc (v := 1) rfl rfl (by decide) rfl ?_
  refine wp_goto (tgt := 4) rfl (by decide) ?_
  exact w
theorem b75_45 {n : Nat} {h : q_Hp} {Q : Option Value → q_Hp → Prop} {x0 : Nat} {x1 : Int32} {x2 : Int32} {x3 : Int32} (q : Q (some (.int x2)) h) : q_wp n 75 45 [some (.ref x0), some (.int x1), some (.int x2), some (.int x3)] [] h Q := by
  refine wp_loc rfl rfl ?_
  exact wp_ret rfl rfl q
theorem b76_0 {n : Nat} {h : q_Hp} {Q : Option Value → q_Hp → Prop} {x0 : Nat} {x1 : Int32} {x2 : Int32} {x3 : Int32} {x4 : Int64} (w : q_wp n 76 3 [some (.ref x0), some (.int x1), some (.int x2), some (.int x3), some (.long x4), none, some (.int 0), none] [] h Q) : q_wp n 76 0 [some (.ref x0), some (.int x1), some (.int x2), some (.int x3), some (.long x4), none, none, none] [] h Q := by
  refine wp_iconst (v := 0) rfl (by decide) ?_
  refine wp_loc rfl rfl ?_
  exact w
theorem b76_3 {n : Nat} {h : q_Hp} {Q : Option Value → q_Hp → Prop} {x0 : Nat} {x1 : Int32} {x2 : Int32} {x3 : Int32} {x4 : Int64} {x6 : Int32} {l7 : Option Value} (wt : 40 ≤ x6 → q_wp n 76 90 [some (.ref x0), some (.int x1), some (.int x2), some (.int x3), some (.long x4), none, some (.int x6), l7] [] h Q) (wf : ¬ 40 ≤ x6 → q_wp n 76 10 [some (.ref x0), some (.int x1), some (.int x2), some (.int x3), some (.long x4), none, some (.int x6), l7] [] h Q) : q_wp n 76 3 [some (.ref x0), some (.int x1), some (.int x2), some (.int x3), some (.long x4), none, some (.int x6), l7] [] h Q := by
  refine wp_loc rfl rfl ?_
  refine wp_bipush (v := 40) rfl (by decide) ?_
  exact wp_icge (tgt := 90) rfl (by decide) wt wf
theorem b76_10 {n : Nat} {h : q_Hp} {Q : Option Value → q_Hp → Prop} {x0 : Nat} {x1 : Int32} {x2 : Int32} {x3 : Int32} {x4 : Int64} {x6 : Int32} {l7 : Option Value} {v0 : Nat} (k0 : q_ok h x0 2) (e0 : qR h x0 0 = v0) (k1 : q_ok h v0 20) (i0 : q_in (36 + x6) (qK h v0).2) (wt : ¬ (qA h v0 ((36 + x6 : Int32).toNatClampNeg)) = x1 → q_wp n 76 56 [some (.ref x0), some (.int x1), some (.int x2), some (.int x3), some (.long x4), none, some (.int x6), l7] [] h Q) (wf : (qA h v0 ((36 + x6 : Int32).toNatClampNeg)) = x1 → q_wp n 76 24 [some (.ref x0), some (.int x1), some (.int x2), some (.int x3), some (.long x4), none, some (.int x6), l7] [] h Q) : q_wp n 76 10 [some (.ref x0), some (.int x1), some (.int x2), some (.int x3), some (.long x4), none, some (.int x6), l7] [] h Q := by
  refine wp_loc rfl rfl ?_
  refine wp_getR rfl rfl rfl rfl k0 e0 ?_
  refine wp_bipush (v := 36) rfl (by decide) ?_
  refine wp_loc rfl rfl ?_
  refine wp_stk rfl rfl rfl ?_
  refine wp_iald rfl k1 i0 ?_
  refine wp_loc rfl rfl ?_
  exact wp_icne (tgt := 56) rfl (by decide) wt wf
theorem b76_24 {n : Nat} {h : q_Hp} {Q : Option Value → q_Hp → Prop} {x0 : Nat} {x1 : Int32} {x2 : Int32} {x3 : Int32} {x4 : Int64} {x6 : Int32} {l7 : Option Value} {v0 : Nat} (k0 : q_ok h x0 2) (e0 : qR h x0 0 = v0) (k1 : q_ok h v0 20) (i0 : q_in (76 + x6) (qK h v0).2) (wt : ¬ (qA h v0 ((76 + x6 : Int32).toNatClampNeg)) = x2 → q_wp n 76 56 [some (.ref x0), some (.int x1), some (.int x2), some (.int x3), some (.long x4), none, some (.int x6), l7] [] h Q) (wf : (qA h v0 ((76 + x6 : Int32).toNatClampNeg)) = x2 → q_wp n 76 38 [some (.ref x0), some (.int x1), some (.int x2), some (.int x3), some (.long x4), none, some (.int x6), l7] [] h Q) : q_wp n 76 24 [some (.ref x0), some (.int x1), some (.int x2), some (.int x3), some (.long x4), none, some (.int x6), l7] [] h Q := by
  refine wp_loc rfl rfl ?_
  refine wp_getR rfl rfl rfl rfl k0 e0 ?_
  refine wp_bipush (v := 76) rfl (by decide) ?_
  refine wp_loc rfl rfl ?_
  refine wp_stk rfl rfl rfl ?_
  refine wp_iald rfl k1 i0 ?_
  refine wp_loc rfl rfl ?_
  exact wp_icne (tgt := 56) rfl (by decide) wt wf
theorem b76_38 {n : Nat} {h : q_Hp} {Q : Option Value → q_Hp → Prop} {x0 : Nat} {x1 : Int32} {x2 : Int32} {x3 : Int32} {x4 : Int64} {x6 : Int32} {l7 : Option Value} {v0 : Nat} (k0 : q_ok h x0 2) (e0 : qR h x0 0 = v0) (k1 : q_ok h v0 20) (i0 : q_in (116 + x6) (qK h v0).2) (wt : ¬ (qA h v0 ((116 + x6 : Int32).toNatClampNeg)) = x3 → q_wp n 76 56 [some (.ref x0), some (.int x1), some (.int x2), some (.int x3), some (.long x4), none, some (.int x6), l7] [] h Q) (wf : (qA h v0 ((116 + x6 : Int32).toNatClampNeg)) = x3 → q_wp n 76 52 [some (.ref x0), some (.int x1), some (.int x2), some (.int x3), some (.long x4), none, some (.int x6), l7] [] h Q) : q_wp n 76 38 [some (.ref x0), some (.int x1), some (.int x2), some (.int x3), some (.long x4), none, some (.int x6), l7] [] h Q := by
  refine wp_loc rfl rfl ?_
  refine wp_getR rfl rfl rfl rfl k0 e0 ?_
  refine wp_bipush (v := 116) rfl (by decide) ?_
  refine wp_loc rfl rfl ?_
  refine wp_stk rfl rfl rfl ?_
  refine wp_iald rfl k1 i0 ?_
  refine wp_loc rfl rfl ?_
  exact wp_icne (tgt := 56) rfl (by decide) wt wf
theorem b76_52 {n : Nat} {h : q_Hp} {Q : Option Value → q_Hp → Prop} {x0 : Nat} {x1 : Int32} {x2 : Int32} {x3 : Int32} {x4 : Int64} {x6 : Int32} {l7 : Option Value} (w : q_wp n 76 57 [some (.ref x0), some (.int x1), some (.int x2), some (.int x3), some (.long x4), none, some (.int x6), l7] [.int 1] h Q) : q_wp n 76 52 [some (.ref x0), some (.int x1), some (.int x2), some (.int x3), some (.long x4), none, some (.int x6), l7] [] h Q := by
  refine wp_iconst (v := 1) rfl (by decide) ?_
  refine wp_goto (tgt := 57) rfl (by decide) ?_
  exact w
theorem b76_56 {n : Nat} {h : q_Hp} {Q : Option Value → q_Hp → Prop} {x0 : Nat} {x1 : Int32} {x2 : Int32} {x3 : Int32} {x4 : Int64} {x6 : Int32} {l7 : Option Value} (w : q_wp n 76 57 [some (.ref x0), some (.int x1), some (.int x2), some (.int x3), some (.long x4), none, some (.int x6), l7] [.int 0] h Q) : q_wp n 76 56 [some (.ref x0), some (.int x1), some (.int x2), some (.int x3), some (.long x4), none, some (.int x6), l7] [] h Q := by
  refine wp_iconst (v := 0) rfl (by decide) ?_
  exact w
theorem b76_57 {n : Nat} {h : q_Hp} {Q : Option Value → q_Hp → Prop} {x0 : Nat} {x1 : Int32} {x2 : Int32} {x3 : Int32} {x4 : Int64} {x6 : Int32} {l7 : Option Value} {s0 : Int32} (wt : s0 = 0 → q_wp n 76 84 [some (.ref x0), some (.int x1), some (.int x2), some (.int x3), some (.long x4), none, some (.int x6), some (.int s0)] [] h Q) (wf : ¬ s0 = 0 → q_wp n 76 64 [some (.ref x0), some (.int x1), some (.int x2), some (.int x3), some (.long x4), none, some (.int x6), some (.int s0)] [] h Q) : q_wp n 76 57 [some (.ref x0), some (.int x1), some (.int x2), some (.int x3), some (.long x4), none, some (.int x6), l7] [.int s0] h Q := by
  refine wp_loc rfl rfl ?_
  refine wp_loc rfl rfl ?_
  exact wp_ifeq (tgt := 84) rfl (by decide) wt wf
theorem b76_64 {n : Nat} {h : q_Hp} {Q : Option Value → q_Hp → Prop} {x0 : Nat} {x1 : Int32} {x2 : Int32} {x3 : Int32} {x4 : Int64} {x6 : Int32} {x7 : Int32} (wt : x1 = (-1) → q_wp n 76 84 [some (.ref x0), some (.int x1), some (.int x2), some (.int x3), some (.long x4), none, some (.int x6), some (.int x7)] [] h Q) (wf : ¬ x1 = (-1) → q_wp n 76 69 [some (.ref x0), some (.int x1), some (.int x2), some (.int x3), some (.long x4), none, some (.int x6), some (.int x7)] [] h Q) : q_wp n 76 64 [some (.ref x0), some (.int x1), some (.int x2), some (.int x3), some (.long x4), none, some (.int x6), some (.int x7)] [] h Q := by
  refine wp_loc rfl rfl ?_
  refine wp_iconst (v := (-1)) rfl (by decide) ?_
  exact wp_iceq (tgt := 84) rfl (by decide) wt wf
theorem b76_69 {n : Nat} {h : q_Hp} {Q : Option Value → q_Hp → Prop} {x0 : Nat} {x1 : Int32} {x2 : Int32} {x3 : Int32} {x4 : Int64} {x6 : Int32} {x7 : Int32} (wt : ¬ (lg_cmp ((x4 >>> ((x6 : Int32).toInt64 &&& 63)) &&& 1) 0) = 0 → q_wp n 76 84 [some (.ref x0), some (.int x1), some (.int x2), some (.int x3), some (.long x4), none, some (.int x6), some (.int x7)] [] h Q) (wf : (lg_cmp ((x4 >>> ((x6 : Int32).toInt64 &&& 63)) &&& 1) 0) = 0 → q_wp n 76 81 [some (.ref x0), some (.int x1), some (.int x2), some (.int x3), some (.long x4), none, some (.int x6), some (.int x7)] [] h Q) : q_wp n 76 69 [some (.ref x0), some (.int x1), some (.int x2), some (.int x3), some (.long x4), none, some (.int x6), some (.int x7)] [] h Q := by
  refine wp_loc rfl rfl ?_
  refine wp_loc rfl rfl ?_
  refine wp_stk rfl rfl rfl ?_
  refine wp_lconst (v := 1) rfl (by decide) ?_
  refine wp_stk rfl rfl rfl ?_
  refine wp_lconst (v := 0) rfl (by decide) ?_
  refine wp_stk rfl rfl rfl ?_
  exact wp_ifne (tgt := 84) rfl (by decide) wt wf
theorem b76_81 {n : Nat} {h : q_Hp} {Q : Option Value → q_Hp → Prop} {x0 : Nat} {x1 : Int32} {x2 : Int32} {x3 : Int32} {x4 : Int64} {x6 : Int32} {x7 : Int32} (q : Q (some (.int x6)) h) : q_wp n 76 81 [some (.ref x0), some (.int x1), some (.int x2), some (.int x3), some (.long x4), none, some (.int x6), some (.int x7)] [] h Q := by
  refine wp_loc rfl rfl ?_
  exact wp_ret rfl rfl q
theorem b76_84 {n : Nat} {h : q_Hp} {Q : Option Value → q_Hp → Prop} {x0 : Nat} {x1 : Int32} {x2 : Int32} {x3 : Int32} {x4 : Int64} {x6 : Int32} {x7 : Int32} (w : q_wp n 76 3 [some (.ref x0), some (.int x1), some (.int x2), some (.int x3), some (.long x4), none, some (.int (x6 + 1)), some (.int x7)] [] h Q) : q_wp n 76 84 [some (.ref x0), some (.int x1), some (.int x2), some (.int x3), some (.long x4), none, some (.int x6), some (.int x7)] [] h Q := by
  refine wp_iinc (v := 1) rfl rfl (by decide) rfl ?_
  refine wp_goto (tgt := 3) rfl (by decide) ?_
  exact w
theorem b76_90 {n : Nat} {h : q_Hp} {Q : Option Value → q_Hp → Prop} {x0 : Nat} {x1 : Int32} {x2 : Int32} {x3 : Int32} {x4 : Int64} {x6 : Int32} {l7 : Option Value} (q : Q (some (.int (-1))) h) : q_wp n 76 90 [some (.ref x0), some (.int x1), some (.int x2), some (.int x3), some (.long x4), none, some (.int x6), l7] [] h Q := by
  refine wp_iconst (v := (-1)) rfl (by decide) ?_
  exact wp_ret rfl rfl q
theorem b77_0 {n : Nat} {h : q_Hp} {Q : Option Value → q_Hp → Prop} {x0 : Nat} {x1 : Int32} (w : q_wp n 77 2 [some (.ref x0), some (.int x1), some (.int 0)] [] h Q) : q_wp n 77 0 [some (.ref x0), some (.int x1), none] [] h Q := by
  refine wp_iconst (v := 0) rfl (by decide) ?_
  refine wp_loc rfl rfl ?_
  exact w
theorem b77_2 {n : Nat} {h : q_Hp} {Q : Option Value → q_Hp → Prop} {x0 : Nat} {x1 : Int32} {x2 : Int32} (wt : 12 ≤ x2 → q_wp n 77 33 [some (.ref x0), some (.int x1), some (.int x2)] [] h Q) (wf : ¬ 12 ≤ x2 → q_wp n 77 8 [some (.ref x0), some (.int x1), some (.int x2)] [] h Q) : q_wp n 77 2 [some (.ref x0), some (.int x1), some (.int x2)] [] h Q := by
  refine wp_loc rfl rfl ?_
  refine wp_bipush (v := 12) rfl (by decide) ?_
  exact wp_icge (tgt := 33) rfl (by decide) wt wf
theorem b77_8 {n : Nat} {h : q_Hp} {Q : Option Value → q_Hp → Prop} {x0 : Nat} {x1 : Int32} {x2 : Int32} {v0 : Nat} (k0 : q_ok h x0 2) (e0 : qR h x0 0 = v0) (k1 : q_ok h v0 20) (i0 : q_in x2 (qK h v0).2) (wt : ¬ (qA h v0 x2.toNatClampNeg) = (-1) → q_wp n 77 27 [some (.ref x0), some (.int x1), some (.int x2)] [] h Q) (wf : (qA h v0 x2.toNatClampNeg) = (-1) → q_wp n 77 18 [some (.ref x0), some (.int x1), some (.int x2)] [] h Q) : q_wp n 77 8 [some (.ref x0), some (.int x1), some (.int x2)] [] h Q := by
  refine wp_loc rfl rfl ?_
  refine wp_getR rfl rfl rfl rfl k0 e0 ?_
  refine wp_loc rfl rfl ?_
  refine wp_iald rfl k1 i0 ?_
  refine wp_iconst (v := (-1)) rfl (by decide) ?_
  exact wp_icne (tgt := 27) rfl (by decide) wt wf
theorem b77_18 {n : Nat} {h : q_Hp} {Q : Option Value → q_Hp → Prop} {x0 : Nat} {x1 : Int32} {x2 : Int32} {v0 : Nat} (k0 : q_ok h x0 2) (e0 : qR h x0 0 = v0) (k1 : q_ok h v0 20) (i0 : q_in x2 (qK h v0).2) (q : Q (some (.int x2)) (q_sA h v0 x2.toNatClampNeg x1)) : q_wp n 77 18 [some (.ref x0), some (.int x1), some (.int x2)] [] h Q := by
  refine wp_loc rfl rfl ?_
  refine wp_getR rfl rfl rfl rfl k0 e0 ?_
  refine wp_loc rfl rfl ?_
  refine wp_loc rfl rfl ?_
  refine wp_iast rfl k1 i0 ?_
  refine wp_loc rfl rfl ?_
  exact wp_ret rfl rfl q
theorem b77_27 {n : Nat} {h : q_Hp} {Q : Option Value → q_Hp → Prop} {x0 : Nat} {x1 : Int32} {x2 : Int32} (w : q_wp n 77 2 [some (.ref x0), some (.int x1), some (.int (x2 + 1))] [] h Q) : q_wp n 77 27 [some (.ref x0), some (.int x1), some (.int x2)] [] h Q := by
  refine wp_iinc (v := 1) rfl rfl (by decide) rfl ?_
  refine wp_goto (tgt := 2) rfl (by decide) ?_
  exact w
theorem b77_33 {n : Nat} {h : q_Hp} {Q : Option Value → q_Hp → Prop} {x0 : Nat} {x1 : Int32} {x2 : Int32} (q : Q (some (.int (-1))) h) : q_wp n 77 33 [some (.ref x0), some (.int x1), some (.int x2)] [] h Q := by
  refine wp_iconst (v := (-1)) rfl (by decide) ?_
  exact wp_ret rfl rfl q
theorem b78_0 {n : Nat} {h : q_Hp} {Q : Option Value → q_Hp → Prop} {x0 : Nat} {x1 : Int32} {x2 : Int32} {x3 : Int32} (w : q_wp n 78 3 [some (.ref x0), some (.int x1), some (.int x2), some (.int x3), some (.int 0)] [] h Q) : q_wp n 78 0 [some (.ref x0), some (.int x1), some (.int x2), some (.int x3), none] [] h Q := by
  refine wp_iconst (v := 0) rfl (by decide) ?_
  refine wp_loc rfl rfl ?_
  exact w
theorem b78_3 {n : Nat} {h : q_Hp} {Q : Option Value → q_Hp → Prop} {x0 : Nat} {x1 : Int32} {x2 : Int32} {x3 : Int32} {x4 : Int32} (wt : 40 ≤ x4 → q_wp n 78 66 [some (.ref x0), some (.int x1), some (.int x2), some (.int x3), some (.int x4)] [] h Q) (wf : ¬ 40 ≤ x4 → q_wp n 78 10 [some (.ref x0), some (.int x1), some (.int x2), some (.int x3), some (.int x4)] [] h Q) : q_wp n 78 3 [some (.ref x0), some (.int x1), some (.int x2), some (.int x3), some (.int x4)] [] h Q := by
  refine wp_loc rfl rfl ?_
  refine wp_bipush (v := 40) rfl (by decide) ?_
  exact wp_icge (tgt := 66) rfl (by decide) wt wf
theorem b78_10 {n : Nat} {h : q_Hp} {Q : Option Value → q_Hp → Prop} {x0 : Nat} {x1 : Int32} {x2 : Int32} {x3 : Int32} {x4 : Int32} {v0 : Nat} (k0 : q_ok h x0 2) (e0 : qR h x0 0 = v0) (k1 : q_ok h v0 20) (i0 : q_in (36 + x4) (qK h v0).2) (wt : ¬ (qA h v0 ((36 + x4 : Int32).toNatClampNeg)) = (-1) → q_wp n 78 60 [some (.ref x0), some (.int x1), some (.int x2), some (.int x3), some (.int x4)] [] h Q) (wf : (qA h v0 ((36 + x4 : Int32).toNatClampNeg)) = (-1) → q_wp n 78 24 [some (.ref x0), some (.int x1), some (.int x2), some (.int x3), some (.int x4)] [] h Q) : q_wp n 78 10 [some (.ref x0), some (.int x1), some (.int x2), some (.int x3), some (.int x4)] [] h Q := by
  refine wp_loc rfl rfl ?_
  refine wp_getR rfl rfl rfl rfl k0 e0 ?_
  refine wp_bipush (v := 36) rfl (by decide) ?_
  refine wp_loc rfl rfl ?_
  refine wp_stk rfl rfl rfl ?_
  refine wp_iald rfl k1 i0 ?_
  refine wp_iconst (v := (-1)) rfl (by decide) ?_
  exact wp_icne (tgt := 60) rfl (by decide) wt wf
theorem b78_24 {n : Nat} {h : q_Hp} {Q : Option Value → q_Hp → Prop} {x0 : Nat} {x1 : Int32} {x2 : Int32} {x3 : Int32} {x4 : Int32} {v0 : Nat} (k0 : q_ok h x0 2) (e0 : qR h x0 0 = v0) (k1 : q_ok h v0 20) (i0 : q_in (36 + x4) (qK h v0).2) (i1 : q_in (76 + x4) (qK h v0).2) (i2 : q_in (116 + x4) (qK h v0).2) (q : Q (some (.int x4)) (q_sA (q_sA (q_sA h v0 ((36 + x4 : Int32).toNatClampNeg) x1) v0 ((76 + x4 : Int32).toNatClampNeg) x2) v0 ((116 + x4 : Int32).toNatClampNeg) x3)) : q_wp n 78 24 [some (.ref x0), some (.int x1), some (.int x2), some (.int x3), some (.int x4)] [] h Q := by
  refine wp_loc rfl rfl ?_
  refine wp_getR rfl rfl rfl rfl k0 e0 ?_
  refine wp_bipush (v := 36) rfl (by decide) ?_
  refine wp_loc rfl rfl ?_
  refine wp_stk rfl rfl rfl ?_
  refine wp_loc rfl rfl ?_
  refine wp_iast rfl k1 i0 ?_
  refine wp_loc rfl rfl ?_
  refine wp_getR rfl rfl rfl rfl k0 e0 ?_
  refine wp_bipush (v := 76) rfl (by decide) ?_
  refine wp_loc rfl rfl ?_
  refine wp_stk rfl rfl rfl ?_
  refine wp_loc rfl rfl ?_
  refine wp_iast rfl k1 i1 ?_
  refine wp_loc rfl rfl ?_
  refine wp_getR rfl rfl rfl rfl k0 e0 ?_
  refine wp_bipush (v := 116) rfl (by decide) ?_
  refine wp_loc rfl rfl ?_
  refine wp_stk rfl rfl rfl ?_
  refine wp_loc rfl rfl ?_
  refine wp_iast rfl k1 i2 ?_
  refine wp_loc rfl rfl ?_
  exact wp_ret rfl rfl q
theorem b78_60 {n : Nat} {h : q_Hp} {Q : Option Value → q_Hp → Prop} {x0 : Nat} {x1 : Int32} {x2 : Int32} {x3 : Int32} {x4 : Int32} (w : q_wp n 78 3 [some (.ref x0), some (.int x1), some (.int x2), some (.int x3), some (.int (x4 + 1))] [] h Q) : q_wp n 78 60 [some (.ref x0), some (.int x1), some (.int x2), some (.int x3), some (.int x4)] [] h Q := by
  refine wp_iinc (v := 1) rfl rfl (by decide) rfl ?_
  refine wp_goto (tgt := 3) rfl (by decide) ?_
  exact w
theorem b78_66 {n : Nat} {h : q_Hp} {Q : Option Value → q_Hp → Prop} {x0 : Nat} {x1 : Int32} {x2 : Int32} {x3 : Int32} {x4 : Int32} (q : Q (some (.int (-1))) h) : q_wp n 78 66 [some (.ref x0), some (.int x1), some (.int x2), some (.int x3), some (.int x4)] [] h Q := by
  refine wp_iconst (v := (-1)) rfl (by decide) ?_
  exact wp_ret rfl rfl q
theorem b79_0 {n : Nat} {h : q_Hp} {Q : Option Value → q_Hp → Prop} {x0 : Nat} {x1 : Int32} {m : Nat} {P : Int32 → q_Hp → Prop} (hc : q_mI m 65 [.ref x0, .int x1] h P) (hm : m ≤ n) (w : ∀ (z : Int32) (h1 : q_Hp), P z h1 → q_wp (n + 1) 79 5 [some (.ref x0), some (.int x1)] [.int z] h1 Q) : q_wp (n + 1) 79 0 [some (.ref x0), some (.int x1)] [] h Q := by
  refine wp_loc rfl rfl ?_
  refine wp_loc rfl rfl ?_
  exact wp_callI (av := [.ref x0, .int x1]) rfl rfl rfl (by decide) rfl rfl rfl hm hc w
theorem b79_5 {n : Nat} {h : q_Hp} {Q : Option Value → q_Hp → Prop} {x0 : Nat} {x1 : Int32} {s0 : Int32} (wt : s0 = 0 → q_wp n 79 29 [some (.ref x0), some (.int x1)] [] h Q) (wf : ¬ s0 = 0 → q_wp n 79 8 [some (.ref x0), some (.int x1)] [] h Q) : q_wp n 79 5 [some (.ref x0), some (.int x1)] [.int s0] h Q := by
  exact wp_ifeq (tgt := 29) rfl (by decide) wt wf
theorem b79_8 {n : Nat} {h : q_Hp} {Q : Option Value → q_Hp → Prop} {x0 : Nat} {x1 : Int32} {m : Nat} {P : q_Hp → Prop} (hc : q_mV m 67 [.ref x0, .int x1, .int 0, .int 0] h P) (hm : m ≤ n) (w : ∀ h1 : q_Hp, P h1 → q_wp (n + 1) 79 15 [some (.ref x0), some (.int x1)] [] h1 Q) : q_wp (n + 1) 79 8 [some (.ref x0), some (.int x1)] [] h Q := by
  refine wp_loc rfl rfl ?_
  refine wp_loc rfl rfl ?_
  refine wp_iconst (v := 0) rfl (by decide) ?_
  refine wp_iconst (v := 0) rfl (by decide) ?_
  exact wp_callV (av := [.ref x0, .int x1, .int 0, .int 0]) rfl rfl rfl (by decide) rfl rfl rfl hm hc w
theorem b79_15 {n : Nat} {h : q_Hp} {Q : Option Value → q_Hp → Prop} {x0 : Nat} {x1 : Int32} {m : Nat} {P : q_Hp → Prop} (hc : q_mV m 67 [.ref x0, .int x1, .int 1, .int 0] h P) (hm : m ≤ n) (w : ∀ h1 : q_Hp, P h1 → q_wp (n + 1) 79 22 [some (.ref x0), some (.int x1)] [] h1 Q) : q_wp (n + 1) 79 15 [some (.ref x0), some (.int x1)] [] h Q := by
  refine wp_loc rfl rfl ?_
  refine wp_loc rfl rfl ?_
  refine wp_iconst (v := 1) rfl (by decide) ?_
  refine wp_iconst (v := 0) rfl (by decide) ?_
  exact wp_callV (av := [.ref x0, .int x1, .int 1, .int 0]) rfl rfl rfl (by decide) rfl rfl rfl hm hc w
theorem b79_22 {n : Nat} {h : q_Hp} {Q : Option Value → q_Hp → Prop} {x0 : Nat} {x1 : Int32} {v0 : Nat} (k0 : q_ok h x0 2) (e0 : qR h x0 0 = v0) (k1 : q_ok h v0 20) (i0 : q_in x1 (qK h v0).2) (w : q_wp n 79 29 [some (.ref x0), some (.int x1)] [] (q_sA h v0 x1.toNatClampNeg (-1)) Q) : q_wp n 79 22 [some (.ref x0), some (.int x1)] [] h Q := by
  refine wp_loc rfl rfl ?_
  refine wp_getR rfl rfl rfl rfl k0 e0 ?_
  refine wp_loc rfl rfl ?_
  refine wp_iconst (v := (-1)) rfl (by decide) ?_
  refine wp_iast rfl k1 i0 ?_
  exact w
theorem b79_29 {n : Nat} {h : q_Hp} {Q : Option Value → q_Hp → Prop} {x0 : Nat} {x1 : Int32} (q : Q none h) : q_wp n 79 29 [some (.ref x0), some (.int x1)] [] h Q := by
  exact wp_ret rfl rfl q
theorem b80_0 {n : Nat} {h : q_Hp} {Q : Option Value → q_Hp → Prop} {x0 : Nat} {x1 : Int32} {m : Nat} {P : Int32 → q_Hp → Prop} (hc : q_mI m 71 [.ref x0, .int x1] h P) (hm : m ≤ n) (w : ∀ (z : Int32) (h1 : q_Hp), P z h1 → q_wp (n + 1) 80 5 [some (.ref x0), some (.int x1)] [.int z] h1 Q) : q_wp (n + 1) 80 0 [some (.ref x0), some (.int x1)] [] h Q := by
  refine wp_loc rfl rfl ?_
  refine wp_loc rfl rfl ?_
  exact wp_callI (av := [.ref x0, .int x1]) rfl rfl rfl (by decide) rfl rfl rfl hm hc w
theorem b80_5 {n : Nat} {h : q_Hp} {Q : Option Value → q_Hp → Prop} {x0 : Nat} {x1 : Int32} {s0 : Int32} (wt : s0 = 0 → q_wp n 80 38 [some (.ref x0), some (.int x1)] [] h Q) (wf : ¬ s0 = 0 → q_wp n 80 8 [some (.ref x0), some (.int x1)] [] h Q) : q_wp n 80 5 [some (.ref x0), some (.int x1)] [.int s0] h Q := by
  exact wp_ifeq (tgt := 38) rfl (by decide) wt wf
theorem b80_8 {n : Nat} {h : q_Hp} {Q : Option Value → q_Hp → Prop} {x0 : Nat} {x1 : Int32} {v0 : Nat} (k0 : q_ok h x0 2) (e0 : qR h x0 0 = v0) (k1 : q_ok h v0 20) (i0 : q_in (36 + x1) (qK h v0).2) (i1 : q_in (76 + x1) (qK h v0).2) (i2 : q_in (116 + x1) (qK h v0).2) (w : q_wp n 80 38 [some (.ref x0), some (.int x1)] [] (q_sA (q_sA (q_sA h v0 ((36 + x1 : Int32).toNatClampNeg) (-1)) v0 ((76 + x1 : Int32).toNatClampNeg) (-1)) v0 ((116 + x1 : Int32).toNatClampNeg) (-1)) Q) : q_wp n 80 8 [some (.ref x0), some (.int x1)] [] h Q := by
  refine wp_loc rfl rfl ?_
  refine wp_getR rfl rfl rfl rfl k0 e0 ?_
  refine wp_bipush (v := 36) rfl (by decide) ?_
  refine wp_loc rfl rfl ?_
  refine wp_stk rfl rfl rfl ?_
  refine wp_iconst (v := (-1)) rfl (by decide) ?_
  refine wp_iast rfl k1 i0 ?_
  refine wp_loc rfl rfl ?_
  refine wp_getR rfl rfl rfl rfl k0 e0 ?_
  refine wp_bipush (v := 76) rfl (by decide) ?_
  refine wp_loc rfl rfl ?_
  refine wp_stk rfl rfl rfl ?_
  refine wp_iconst (v := (-1)) rfl (by decide) ?_
  refine wp_iast rfl k1 i1 ?_
  refine wp_loc rfl rfl ?_
  refine wp_getR rfl rfl rfl rfl k0 e0 ?_
  refine wp_bipush (v := 116) rfl (by decide) ?_
  refine wp_loc rfl rfl ?_
  refine wp_stk rfl rfl rfl ?_
  refine wp_iconst (v := (-1)) rfl (by decide) ?_
  refine wp_iast rfl k1 i2 ?_
  exact w
theorem b80_38 {n : Nat} {h : q_Hp} {Q : Option Value → q_Hp → Prop} {x0 : Nat} {x1 : Int32} (q : Q none h) : q_wp n 80 38 [some (.ref x0), some (.int x1)] [] h Q := by
  exact wp_ret rfl rfl q
