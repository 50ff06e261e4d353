/-! THE MATCHER: which nodes links lead to -/
def m_rc (f : Nat → Int32) (n s a j : Nat) : Prop := ∃ i, i < n ∧ f (36 + i) = nI s ∧ f (76 + i) = nI a ∧ f (116 + i) = nI j
theorem d_at_n {f : Nat → Int32} {b i : Nat} (hi : i < 40) : d_at f b (nI i) = f (b + i) := by rw [d_at_in (q_rgN hi (by decide)), nI_clamp (by omega)]
theorem s93 {h : q_Hp} {T Z : Nat} {k : Nat → Int32} (S : q_Sh h) (D : q_dr T Z (qA h 598) k) (hZ : Z ≤ 12) : q_mV 1 93 [.ref 601] h (fun h' => ∃ g : Nat → Int32, h' = q_wA h 606 g ∧ ∀ s a j, s < 12 → a < 12 → j < 32 → (bt (g (12 * s + a)) j = true ↔ m_rc (qA h 598) 40 s a j)) := by
  refine ⟨q_recV rfl (S.ok rfl), ?_⟩
  have loop : ∀ m i (g : Nat → Int32) (l2 : Option Value), i + m = 40 → (∀ s a j, s < 12 → a < 12 → j < 32 → (bt (g (12 * s + a)) j = true ↔ m_rc (qA h 598) i s a j)) → q_wp 1 93 10 [some (.ref 601), some (.int (nI i)), l2] [] (q_wA h 606 g) (fun r h' => r = none ∧ ∃ g : Nat → Int32, h' = q_wA h 606 g ∧ ∀ s a j, s < 12 → a < 12 → j < 32 → (bt (g (12 * s + a)) j = true ↔ m_rc (qA h 598) 40 s a j)) := by
    intro m
    induction m with
    | zero =>
      intro i g l2 hi hg
      obtain rfl : i = 40 := by omega
      exact b93_10 (fun _ => b93_86 ⟨rfl, g, rfl, hg⟩) (fun h1 => absurd (Int32.le_refl _) h1)
    | succ m ih =>
      intro i g l2 hi hg
      have Sg : q_Sh (q_wA h 606 g) := S
      have v1 : d_at (qA (q_wA h 606 g) 598) 36 (nI i) = qA h 598 (36 + i) := d_at_n (by omega)
      have v2 : d_at (qA (q_wA h 606 g) 598) 76 (nI i) = qA h 598 (76 + i) := d_at_n (by omega)
      have v3 : d_at (qA (q_wA h 606 g) 598) 116 (nI i) = qA h 598 (116 + i) := d_at_n (by omega)
      have v4 : d_hasL (qA (q_wA h 606 g) 598) (nI i) = !(qA h 598 (36 + i) == -1) := d_hasL_n (by omega)
      refine b93_10 (fun h1 => absurd ((nI_gec (k := 40) (by omega) (by decide) rfl).mp h1) (by omega)) (fun _ => b93_16 (Sg.ok rfl) (Sg.ref (v := 597) rfl) (s68 Sg.dg) (by decide) ?_)
      rintro z h1 ⟨e0, rfl⟩
      subst h1
      refine b93_24 (Sg.ok rfl) (Sg.ref (v := 597) rfl) (s69 Sg.dg) (by decide) ?_
      rintro z h1 ⟨e0, rfl⟩
      subst h1
      refine b93_35 (Sg.ok rfl) (Sg.ref (v := 597) rfl) (s71 Sg.dg) (by decide) ?_
      rintro z h1 ⟨e0, rfl⟩
      subst h1
      rw [v1, v2, v4]
      by_cases c0 : qA h 598 (36 + i) = -1
      · refine b93_45 (fun _ => b93_80 ?_) (fun c1 => absurd (by rw [c0]; rfl) c1)
        rw [nI_1]
        refine ih (i + 1) g _ (by omega) (fun s a j hs ha hj => ?_)
        rw [hg s a j hs ha hj]
        constructor
        · rintro ⟨x, h1, h2⟩
          exact ⟨x, by omega, h2⟩
        · rintro ⟨x, h1, h2⟩
          refine ⟨x, ?_, h2⟩
          rcases Nat.lt_or_ge x i with h3 | h3
          · exact h3
          · obtain rfl : x = i := by omega
            rw [c0] at h2
            exact absurd h2.1.symm (q_on_ne (by omega))
      · rcases D.2.1 i (by omega) with h1 | ⟨⟨s0, hs0, e1⟩, ⟨a0, ha0, e2⟩, b0, hb0, e3⟩
        · exact absurd h1 c0
        · have e4 : qA h 598 (36 + i) * 12 + qA h 598 (76 + i) = nI (12 * s0 + a0) := by
            rw [e1, e2, show nI s0 * 12 = nI (s0 * 12) from pk_mul s0 12, nI_add, Nat.mul_comm]
          rw [e4]
          refine b93_45 (fun c1 => absurd (b2i_eq.mp c1) (by simpa using c0)) (fun _ => b93_48 (fun c2 => absurd c2 (nI_pos (by omega))) (fun _ => b93_52 (Sg.ok rfl) (Sg.ref (v := 606) rfl) (Sg.ok (cd := 20) rfl) (by decide) (fun c3 => ?_) (fun _ => b93_61 (Sg.ok rfl) (Sg.ref (v := 606) rfl) (Sg.ok rfl) (Sg.inN (n := 144) rfl (by omega) (by decide)) (Sg.ref (v := 597) rfl) (s70 Sg.dg) (by decide) ?_)))
          · rw [Sg.len (n := 144) rfl] at c3
            exact absurd ((nI_leI (a := 144) (by decide) (by omega)).mp c3) (by omega)
          · rintro z h1 ⟨e0, rfl⟩
            subst h1
            rw [v3, e3]
            refine b93_77 (Sg.ok rfl) (Sg.inN (n := 144) rfl (by omega) (by decide)) (b93_80 ?_)
            rw [nI_1, nI_clamp (by omega), q_sA_wA', qA_wAs]
            refine ih (i + 1) _ _ (by omega) (fun s a j hs ha hj => ?_)
            unfold upd
            by_cases h3 : 12 * s + a = 12 * s0 + a0
            · have hs1 : s = s0 := by omega
              have ha1 : a = a0 := by omega
              subst hs1
              subst ha1
              rw [if_pos rfl, bi_add (by omega) hj, Bool.or_eq_true, decide_eq_true_eq, hg s a j hs ha hj]
              constructor
              · rintro (⟨x, h4, h5⟩ | rfl)
                · exact ⟨x, by omega, h5⟩
                · exact ⟨i, by omega, e1, e2, e3⟩
              · rintro ⟨x, h4, h5⟩
                rcases Nat.lt_or_ge x i with h6 | h6
                · exact Or.inl ⟨x, h6, h5⟩
                · obtain rfl : x = i := by omega
                  rw [e3] at h5
                  exact Or.inr ((nI_eq (by omega) (by omega)).mp h5.2.2).symm
            · rw [if_neg h3, hg s a j hs ha hj]
              constructor
              · rintro ⟨x, h4, h5⟩
                exact ⟨x, by omega, h5⟩
              · rintro ⟨x, h4, h5⟩
                refine ⟨x, ?_, h5⟩
                rcases Nat.lt_or_ge x i with h6 | h6
                · exact h6
                · obtain rfl : x = i := by omega
                  rw [e1, e2] at h5
                  have g1 := (nI_eq (by omega) (by omega)).mp h5.1
                  have g2 := (nI_eq (by omega) (by omega)).mp h5.2.1
                  exact absurd (by rw [g1, g2]) h3
  refine b93_0 (S.ok rfl) (S.ref (v := 606) rfl) (s352 (S.ok rfl) (S.len (n := 144) rfl) (by decide)) (by decide) ?_
  rintro h1 ⟨g, rfl, hg⟩
  refine b93_8 (loop 40 0 g none rfl (fun s a j hs ha hj => ?_))
  rw [hg _ (by omega), b_0]
  exact ⟨fun h => absurd h (by decide), fun ⟨x, h1, _⟩ => absurd h1 (Nat.not_lt_zero _)⟩
