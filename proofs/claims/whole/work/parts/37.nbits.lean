/-! THE MATCHER: the given nodes as bits -/
theorem s112 {h : q_Hp} {b o N : Nat} {im : Nat → Nat} (M : q_Mt h b o) (e : qI h o 0 = nI N) (hN : N ≤ 4) (hn : ∀ i, i < N → qA h 602 i = nI (im i) ∧ im i < 12) : q_mI 0 112 [.ref 601] h (fun z h' => h' = h ∧ ∀ j, j < 32 → (bt z j = true ↔ ∃ i, i < N ∧ im i = j)) := by
  obtain ⟨S, hb, ho, f1, f2⟩ := M
  refine ⟨q_recV rfl (S.ok rfl), ?_⟩
  have loop : ∀ m i (z : Int32), i + m = N → (∀ j, j < 32 → (bt z j = true ↔ ∃ k, k < i ∧ im k = j)) → q_wp 0 112 4 [some (.ref 601), some (.int z), some (.int (nI i))] [] h (fun r h' => ∃ z : Int32, r = some (.int z) ∧ h' = h ∧ ∀ j, j < 32 → (bt z j = true ↔ ∃ i, i < N ∧ im i = j)) := by
    intro m
    induction m with
    | zero =>
      intro i z hi hz
      obtain rfl : i = N := by omega
      exact b112_4 (S.ok rfl) f2 (S.oo ho) (fun _ => b112_37 ⟨_, rfl, rfl, hz⟩) (fun h1 => absurd (by rw [e]; exact Int32.le_refl _) h1)
    | succ m ih =>
      intro i z hi hz
      obtain ⟨i1, i2⟩ := hn i (by omega)
      refine b112_4 (S.ok rfl) f2 (S.oo ho) (fun h1 => absurd ((nI_leI (by omega) (by omega)).mp (e ▸ h1)) (by omega)) (fun _ => b112_15 (fun h1 => absurd ((nI_gec (k := 4) (by omega) (by decide) rfl).mp h1) (by omega)) (fun _ => b112_20 (S.ok rfl) (S.ref (v := 602) rfl) (S.ok rfl) (S.inN (n := 4) rfl (by omega) (by decide)) ?_))
      rw [nI_1, nI_clamp (by omega), i1]
      refine ih (i + 1) _ (by omega) (fun j hj => ?_)
      rw [bi_add (by omega) hj, Bool.or_eq_true, decide_eq_true_eq, hz j hj]
      constructor
      · rintro (⟨k, h3, h4⟩ | rfl)
        · exact ⟨k, by omega, h4⟩
        · exact ⟨i, by omega, rfl⟩
      · rintro ⟨k, h3, h4⟩
        rcases Nat.lt_or_ge k i with h5 | h5
        · exact Or.inl ⟨k, h5, h4⟩
        · obtain rfl : k = i := by omega
          exact Or.inr h4.symm
  exact b112_0 (loop N 0 0 (by omega) (fun j _ => by rw [b_0]; exact ⟨fun h => absurd h (by decide), fun ⟨k, h1, _⟩ => absurd h1 (Nat.not_lt_zero _)⟩))
