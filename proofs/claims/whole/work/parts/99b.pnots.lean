/-! THE PARSE OF THE REFERENCE: what must not be, all of it -/
theorem y_le_f {K : Nat → Nat} {nr lr : Nat} {cm : Bool} {m n l : Nat} {s : y_S} (h : ¬ s.2 = 0) : y_le K nr lr cm m n l s = s := (y_to.le m n l s s y_to.rf).2.2 h
theorem y_no_1 {K : Nat → Nat} {b : Bool} {s : y_S} (h : (y_no K b s).2 = 0) : s.1 + 1 ≤ (y_no K b s).1 := y_to.p1 y_to.rf y_to.rf.nn.nd.nd.nd h
theorem y_li_1 {K : Nat → Nat} {b : Bool} {s : y_S} (h : (y_li K b s).2 = 0) : s.1 + 1 ≤ (y_li K b s).1 := y_to.p1 y_to.rf y_to.rf.nn.nd.wy.nd h
section PX
variable {K P X : Nat → Nat} {U : Nat → Int64} {e : Nat} {k0 k : q_Hp} {s : y_S}
theorem p_nn_A {nt q L x : Nat} (h : ¬ x = 649 ∧ ¬ x = 679 ∧ ¬ x = 680 ∧ ¬ x = 681 ∧ ¬ x = 682) : qA (p_nn P U nt q L s k0) x = qA k0 x := (p_tl_A h.2).trans ((qA_sAn h.1).trans (congrFun p_fw_A x))
theorem p_nn_I {nt q L j : Nat} (h : ¬ j = 15 ∧ ¬ j = 16 ∧ ¬ j = 68) : qI (p_nn P U nt q L s k0) 630 j = qI k0 630 j := (p_tl_I h).trans (p_fw_I ⟨h.1, h.2.1⟩)
theorem p_tl_68 {i n : Nat} {kd b ty : Int32} : qI (p_tl P U i n kd b ty k0) 630 68 = nI (n + 1) := by
  unfold p_tl
  exact q_sI_e
theorem p_nk_A {ns q l L x : Nat} (h : ¬ x = 650 ∧ ¬ x = 651 ∧ ¬ x = 652 ∧ ¬ x = 653 ∧ ¬ x = 679 ∧ ¬ x = 680 ∧ ¬ x = 681 ∧ ¬ x = 682) : qA (p_nk P U ns q l L s k0) x = qA k0 x := by
  unfold p_nk
  rw [qA_sAn h.1, p_tl_A h.2.2.2.2, p_l3_A ⟨h.2.1, h.2.2.1, h.2.2.2.1⟩]
theorem p_nk_650 {ns q l L : Nat} : qA (p_nk P U ns q l L s k0) 650 q = nI (l + 1) := by
  unfold p_nk
  rw [qA_sA, if_pos ⟨rfl, rfl⟩]
theorem p_nk_I {ns q l L j : Nat} (h : ¬ j = 15 ∧ ¬ j = 16 ∧ ¬ j = 68) : qI (p_nk P U ns q l L s k0) 630 j = qI k0 630 j := by
  unfold p_nk
  rw [qI_sA, p_tl_I h, p_l3_I ⟨h.1, h.2.1⟩]
theorem p_nk_68 {ns q l L : Nat} : qI (p_nk P U ns q l L s k0) 630 68 = nI (L + 1) := by
  unfold p_nk
  rw [qI_sA, p_tl_68]
theorem s269_70 {kb : q_Hp} {Q : Option Value → q_Hp → Prop} {q nt ns a : Nat} {x1 x2 : Int32} (hq : 40 ≤ q) (hq2 : q < 80) (ht12 : nt ≤ 12) (hs12 : ns ≤ 12) (ha : a ≤ 35) : ∀ m n l s k0 k (l5 l6 l7 l8 l9 l10 : Option Value), s.2 = 0 → 1201 ≤ m + s.1 → n ≤ 1 → l ≤ 3 → qA k0 650 q = nI l → qI k0 630 18 = nI nt → qI k0 630 19 = nI ns → qI k0 630 68 = nI (a + n + l) → p_y K P X U e k0 k s → p_fr kb k0 → (∀ k0 k, p_y K P X U e k0 k (y_le K 1 3 false m n l s) → ¬ (y_le K 1 3 false m n l s).2 = 0 → p_fr kb k0 → Q none k) → (∀ n1 k (l5 l6 l7 l8 l9 l10 : Option Value), p_y K P X U e (p_nl K P U nt ns q a m n l s k0) k (y_le K 1 3 false m n l s) → (y_le K 1 3 false m n l s).2 = 0 → q_wp 3 269 345 [some (.ref 630), some (.int x1), some (.int x2), some (.int (nI q)), some (.int (nI n1)), l5, l6, l7, l8, l9, l10] [] k Q) → q_wp 3 269 70 [some (.ref 630), some (.int x1), some (.int x2), some (.int (nI q)), some (.int (nI n)), l5, l6, l7, l8, l9, l10] [] k Q := by
  intro m
  induction m with
  | zero =>
    intro n l s k0 k l5 l6 l7 l8 l9 l10 hs hm h1 h3 hl ht hns hL Y F bad good
    have := Y.le
    have := Y.e12
    omega
  | succ m ih =>
    intro n l s k0 k l5 l6 l7 l8 l9 l10 hs hm h1 h3 hl ht hns hL Y F bad good
    have le := Y.le
    have e12 := Y.e12
    unfold y_le at bad good
    unfold p_nl at good
    have node : y_is K 6 s = true → q_wp 3 269 88 [some (.ref 630), some (.int x1), some (.int x2), some (.int (nI q)), some (.int (nI n)), l5, l6, l7, l8, l9, l10] [] k Q := by
      intro c
      rw [if_pos c] at bad
      rw [if_pos c, if_pos c] at good
      refine s269_n (nt := nt) (L := a + n + l) Y hs c h1 h3 hl (by omega) ht ht12 hL (by omega) (fun k Y h => bad k0 k ?_ ?_ F) ?_
      · rw [y_le_f h]
        exact Y
      · rw [y_le_f h]
        exact h
      · intro k l5 l6 l7 l8 l9 l10 c0 Y
        have n0 : n = 0 := by
          have a1 := y_nd_z (y_nd_z (y_nd_z c0))
          have := of_decide_eq_true (y_hd a1).2.2.1
          omega
        have p1 := y_no_1 c0
        refine ih (n + 1) l _ _ k l5 l6 l7 l8 l9 l10 c0 (by omega) (by omega) h3 ((congrFun (p_nn_A (by decide)) q).trans hl) ((p_nn_I (by decide)).trans ht) ((p_nn_I (by decide)).trans hns) (p_tl_68.trans (congrArg nI (by omega))) Y (p_nn_fr F hq) bad good
    have link : y_is K 6 s = false → y_is K 7 s = true → q_wp 3 269 88 [some (.ref 630), some (.int x1), some (.int x2), some (.int (nI q)), some (.int (nI n)), l5, l6, l7, l8, l9, l10] [] k Q := by
      intro c c1
      rw [c, if_neg (by decide), if_pos c1] at bad
      rw [c, if_neg (by decide), if_pos c1, if_neg (by decide), if_pos c1] at good
      refine s269_l (ns := ns) (L := a + n + l) Y hs c c1 h1 h3 hl hq2 hns hs12 hL (by omega) (fun k Y h => bad k0 k ?_ ?_ F) ?_
      · rw [y_le_f h]
        exact Y
      · rw [y_le_f h]
        exact h
      · intro k l5 l6 l7 l8 l9 l10 c0 Y
        have l3 : l < 3 := by
          have aw : (y_wy K (y_nd K 25 (y_nn K (decide (l < 3)) (y_ps s)))).2 = 0 := y_nd_z c0
          have a2 : (y_nd K 25 (y_nn K (decide (l < 3)) (y_ps s))).2 = 0 := (y_to.wy (K := K) (y_to.rf (s := y_nd K 25 (y_nn K (decide (l < 3)) (y_ps s))))).2.1 aw
          exact of_decide_eq_true (y_hd (y_nd_z a2)).2.2.1
        have p1 := y_li_1 c0
        refine ih n (l + 1) _ _ k l5 l6 l7 l8 l9 l10 c0 (by omega) h1 (by omega) ?_ ((p_nk_I (by decide)).trans ht) ((p_nk_I (by decide)).trans hns) (p_nk_68.trans (congrArg nI (by omega))) Y (p_nk_fr F hq) bad good
        exact p_nk_650
    refine b269_70 (s249 (c := 6) Y (by decide) rfl) (by decide) ?_
    rintro z h2 ⟨e0, rfl⟩
    subst h2
    refine b269_76 (fun c => node (b2i_ne.mp c)) (fun c => b269_79 (s249 (c := 7) Y (by decide) rfl) (by decide) ?_)
    rintro z h2 ⟨e0, rfl⟩
    subst h2
    refine b269_85 (fun c1 => ?_) (fun c1 => link (b2i_eq.mp c) (b2i_ne.mp c1))
    rw [b2i_eq.mp c, b2i_eq.mp c1, if_neg (by decide), if_neg (by decide), if_neg (by decide), if_neg (by decide), if_neg (fun h9 => by cases h9.1)] at good
    exact good n k l5 l6 l7 l8 l9 l10 Y hs
end PX
