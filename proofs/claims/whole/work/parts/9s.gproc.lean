/-! THE BUILDER OF THE CLASS: rows, all of them, and a proc -/
theorem y_c2_p {K : Nat → Nat} {s : y_S} (hz : (y_nd K 26 (y_nd K 40 (y_ps s))).2 = 0) : y_nd K 26 (y_nd K 40 (y_ps s)) = (s.1 + 3, 0) ∧ K (s.1 + 1) = 40 := by
  obtain ⟨p1, p2⟩ := y_pn_2 (y_nd_z hz)
  exact ⟨(y_nd_p p1 hz).2, p2⟩
theorem q_mI.ex {n k : Nat} {args : List Value} {h : q_Hp} {P : Int32 → q_Hp → Prop} {X : Prop} (w : q_mI n k args h P) (hp : ∀ z h', P z h' → X) : X := by
  obtain ⟨_, f, r, h', e, z, e2, q⟩ := w
  exact hp z h' q
section GB
variable {K Pl : Nat → Nat} {V : Nat → Int64} {e c a : Nat} {h0 h : q_Hp}
theorem s53_all {rF pF : Nat} : ∀ m, g_RL K Pl V e c rF pF m := by
  intro m
  induction m with
  | zero =>
    intro d s p h0 h t D l5 Q hd hs hm ht S hD hDs hp Y hz he fin
    have := Y.le
    have := Y.e12
    omega
  | succ m ih =>
    intro d s p h0 h t D l5 Q hd hs hm ht S hD hDs hp Y hz he fin
    have hc := Y.c2
    have e12 := Y.e12
    have le := Y.le
    have k43 := (Y.C.2.2 s.1 Y.le).2.1
    have eD : g_Dn c h0 = D := by unfold g_Dn; rw [hD, nI_clamp (by omega)]
    unfold y_ro at hz he fin
    unfold g_rw at fin
    rw [eD] at fin
    have is : ∀ c, y_is K c s = decide (K s.1 = c) := by
      intro c
      by_cases h9 : K s.1 = c
      · rw [decide_eq_true h9]
        exact y_is_c.mpr ⟨hs, h9⟩
      · rw [decide_eq_false h9]
        exact Bool.eq_false_iff.mpr (fun h8 => h9 (y_is_c.mp h8).2)
    -- behind a do
    have again : ∀ s' hX, s'.2 = 0 → s.1 + 1 ≤ s'.1 → g_SN rF pF hX → (y_ro K m d s').2 = 0 → (y_ro K m d s').1 ≤ e → (∀ h', g_y K Pl V e c (g_rw K V c rF pF m d s' (g_pp D p) (g_ln c D p hX)).2 h' (y_ro K m d s').1 → (∃ D', qI (g_rw K V c rF pF m d s' (g_pp D p) (g_ln c D p hX)).2 c 5 = nI D' ∧ D ≤ D' ∧ D' ≤ (y_ro K m d s').1) → Q (some (.int (g_rw K V c rF pF m d s' (g_pp D p) (g_ln c D p hX)).1)) h') → (∃ D', qI hX c 5 = nI D' ∧ D < D' ∧ D' ≤ s'.1) → q_mI (2 * (8 - d) + 3) 55 [.ref 589, .int (nI d)] h (fun z h' => z = nI D ∧ g_y K Pl V e c hX h' s'.1) → q_wp (2 * (8 - d) + 4) 53 22 [some (.ref 589), some (.int (nI d)), some (.int p.1), some (.int p.2), some (.int (nI t)), l5] [] h Q := by
      intro s' hX hs' hlt S' hz he fin ⟨D', q1, q2, q3⟩ hc5
      refine b53_22 (n := 2 * (8 - d) + 3) hc5 (Nat.le_refl _) ?_
      rintro z h2 ⟨rfl, Y2⟩
      have rest : ∀ h3, g_y K Pl V e c (g_ln c D p hX) h3 s'.1 → q_wp (2 * (8 - d) + 4) 53 51 [some (.ref 589), some (.int (nI d)), some (.int (g_pp D p).1), some (.int p.2), some (.int (nI t)), some (.int (nI D))] [] h3 Q := by
        intro h3 Y3
        refine b53_51 ?_
        rw [nI_1]
        refine ih d s' (g_pp D p) _ h3 (t + 1) D' _ Q hd hs' (by omega) (by omega) (g_Kd.rf.ln.SN hc S') ?_ q3 (Or.inr ⟨D, q2, rfl⟩) Y3 hz he (fun h' Y' ⟨D2, r1, r2, r3⟩ => fin h' Y' ⟨D2, r1, by omega, r3⟩)
        unfold g_ln
        split
        · exact q1
        · exact q1
      have l2 := Y2.le
      rcases hp with hp | ⟨j, hj, hp⟩
      · refine b53_27 (fun c1 => absurd hp c1) (fun _ => b53_34 ?_)
        have e1 : (g_pp D p).1 = nI D := if_pos hp
        have e2 : g_ln c D p hX = hX := if_pos hp
        rw [e1, e2] at rest
        exact rest _ Y2
      · have n1 : ¬ p.2 = -1 := by rw [hp]; exact q_on_ne (by omega)
        have e1 : (g_pp D p).1 = p.1 := if_neg n1
        have e2 : g_ln c D p hX = g_pt c j 2 (nI D) hX := by
          unfold g_ln
          rw [if_neg n1, hp, nI_clamp (by omega)]
        rw [e1, e2] at rest
        exact b53_27 (fun _ => b53_40 (n := 2 * (8 - d) + 3) (v0 := c) Y2.ok Y2.bk (s21 (D := D') (j := j) (k := 2) Y2 q1 (by omega) (by omega) (by decide) hp rfl) (by omega) (fun h3 Y3 => rest _ Y3)) (fun c1 => absurd c1 n1)
    refine b53_7 (fun c1 => by have := (nI_ltI (a := 1200) (by decide) (by omega)).mp c1; omega) (fun _ => b53_15 (n := 2 * (8 - d) + 3) (s54 Y) (by omega) ?_)
    rintro z h2 ⟨e0, rfl⟩
    subst h2
    by_cases c1 : y_wl K s = true
    · have hK := (y_wl_c c1).2
      refine b53_19 (fun c9 => absurd c9 (by rw [decide_eq_true (by omega)]; decide)) (fun _ => ?_)
      rw [if_pos c1] at hz he fin
      rw [if_pos c1] at fin
      have t1 := y_to.ro (K := K) m d _ _ (y_to.rf (s := y_rs K (y_ro K m (d + 1)) (y_rm (decide (d < 8)) s)))
      have z1 := t1.2.1 hz
      have tor : ∀ s0 s, y_to s0 s → y_to s0 (y_ro K m (d + 1) s) := fun s0 s h => y_to.ro m (d + 1) s0 s h
      have z2 := (y_to.rs (K := K) tor (y_to.rf (s := y_rm (decide (d < 8)) s))).2.1 z1
      obtain ⟨es, hd8⟩ := y_rm_0 z2
      have hd8 := of_decide_eq_true hd8
      rw [es] at hz he fin z1 t1
      have l1 := Nat.le_trans t1.1 he
      have g1 := y_rs_1 tor z1
      obtain ⟨D', q1, q2, q3⟩ : ∃ D', qI (g_ws K V c D (fun s h => g_rw K V c rF pF m (d + 1) s (-1, -1) h) (y_ro K m (d + 1)) s h0) c 5 = nI D' ∧ D < D' ∧ D' ≤ (y_rs K (y_ro K m (d + 1)) s).1 := by
        have sp := s55_w (D := D) ih hd8 hs (by omega) S hD hDs Y hK z1 l1
        exact q_mI.ex sp (fun z h' H => H.2.2)
      exact again _ _ z1 g1 ((g_Kd.ws (fun s h2 H2 => g_Kd.rw _ _ _ _ _ H2) g_Kd.rf).SN hc S) hz he fin ⟨D', q1, q2, q3⟩ ((s55_w (D := D) ih hd8 hs (by omega) S hD hDs Y hK z1 l1).mono (Nat.le_refl _) (fun z h' H => ⟨H.1, H.2.1⟩))
    rw [if_neg c1] at hz he fin
    rw [if_neg c1] at fin
    by_cases c2 : y_dc K s = true
    · have hK := (y_dc_c c2).2
      refine b53_19 (fun c9 => absurd c9 (by rw [decide_eq_true (by omega)]; decide)) (fun _ => ?_)
      rw [if_pos c2] at hz he fin
      rw [if_pos c2] at fin
      have t1 := y_to.ro (K := K) m d _ _ (y_to.rf (s := y_nd K 26 (y_nd K 40 (y_ps s))))
      obtain ⟨p1, p2⟩ := y_c2_p (t1.2.1 hz)
      rw [p1] at hz he fin t1
      have l1 : s.1 + 3 ≤ e := Nat.le_trans t1.1 he
      have d5 : qI (g_dc K V c rF pF D s.1 h0) c 5 = nI (D + 1) := by
        unfold g_dc
        rw [g_pt_I, g_fw_I (by omega)]
        exact g_do_5
      exact again (s.1 + 3, 0) _ rfl (by show s.1 + 1 ≤ s.1 + 3; omega) (g_Kd.rf.dc.SN hc S) hz he fin ⟨D + 1, d5, by omega, by show D + 1 ≤ s.1 + 3; omega⟩ (s55_c (n := 2 * (8 - d)) Y S hD hDs hK l1)
    rw [if_neg c2] at hz he fin
    rw [if_neg c2] at fin
    by_cases c3 : K s.1 = 19
    · refine b53_19 (fun c9 => absurd c9 (by rw [decide_eq_true (by omega)]; decide)) (fun _ => ?_)
      rw [is, if_pos (decide_eq_true c3)] at hz he fin
      rw [if_pos (decide_eq_true c3)] at fin
      have t1 := y_to.ro (K := K) m d _ _ (y_to.rf (s := y_nd K 26 (y_ps s)))
      obtain ⟨p1, p2⟩ := y_pn_2 (t1.2.1 hz)
      rw [p1] at hz he fin t1
      have l1 : s.1 + 2 ≤ e := Nat.le_trans t1.1 he
      exact again (s.1 + 2, 0) _ rfl (by show s.1 + 1 ≤ s.1 + 2; omega) (g_Kd.rf.dd.SN hc S) hz he fin ⟨D + 1, g_do_5, by omega, by show D + 1 ≤ s.1 + 2; omega⟩ (s55_f (n := 2 * (8 - d)) Y hD hDs c3 l1)
    rw [is, if_neg (fun h9 => c3 (of_decide_eq_true h9))] at hz he fin
    rw [if_neg (fun h9 => c3 (of_decide_eq_true h9))] at fin
    by_cases c4 : K s.1 = 17
    · refine b53_19 (fun c9 => absurd c9 (by rw [decide_eq_true (by omega)]; decide)) (fun _ => ?_)
      rw [is, if_pos (decide_eq_true c4)] at hz he fin
      rw [if_pos (decide_eq_true c4)] at fin
      have t1 := y_to.ro (K := K) m d _ _ (y_to.rf (s := y_an K s))
      obtain ⟨p1, p2⟩ := y_an_p (t1.2.1 hz)
      rw [p2] at hz he fin t1
      have l1 : (y_co K 1201 (s.1 + 2, 0)).1 + 1 ≤ e := Nat.le_trans t1.1 he
      have g2 : s.1 + 2 ≤ (y_co K 1201 (s.1 + 2, 0)).1 := (y_to.co (K := K) 1201 _ _ (y_to.rf (s := (s.1 + 2, 0)))).1
      have sp := s55_a (n := 2 * (8 - d)) (x1 := nI d) Y S hD hDs c4 p1 l1
      obtain ⟨D', q1, q2, q3⟩ : ∃ D', qI (g_an K V c rF D s.1 h0) c 5 = nI D' ∧ D < D' ∧ D' ≤ (y_co K 1201 (s.1 + 2, 0)).1 := q_mI.ex sp (fun z h' H => H.2.2)
      exact again ((y_co K 1201 (s.1 + 2, 0)).1 + 1, 0) _ rfl (by show s.1 + 1 ≤ _ + 1; omega) (g_Kd.rf.an.SN hc S) hz he fin ⟨D', q1, q2, by show D' ≤ _ + 1; omega⟩ (sp.mono (Nat.le_refl _) (fun z h' H => ⟨H.1, H.2.1⟩))
    rw [is, if_neg (fun h9 => c4 (of_decide_eq_true h9))] at hz he fin
    rw [if_neg (fun h9 => c4 (of_decide_eq_true h9))] at fin
    have no : ¬ (15 ≤ K s.1 ∧ K s.1 ≤ 22) := by
      rintro ⟨q1, q2⟩
      unfold y_wl at c1
      unfold y_dc at c2
      rw [is, is, is] at c1 c2
      simp only [Bool.or_eq_true, decide_eq_true_eq] at c1 c2
      omega
    refine b53_19 (fun _ => b53_60 (fin _ Y ⟨D, hD, Nat.le_refl _, hDs⟩)) (fun c9 => absurd (by rw [decide_eq_false no]; rfl) c9)
end GB
