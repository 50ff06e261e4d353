/-! THE MATCHER: the match is taken in hand -/
def m_hd (h : q_Hp) (n l : Nat) : q_Hp := q_sI (q_sI h 601 14 (nI n)) 601 15 (nI l)
theorem s113 {h : q_Hp} {b o n l : Nat} (M : q_Mt h b o) (en : qI h o 0 = nI n) (el : qI h o 1 = nI l) : q_mV 0 113 [.ref 601] h (fun h' => q_Ef [608, 609] (m_hd h n l) h' ∧ (∀ i, i < 4 → qA h' 608 i = qA h 602 i) ∧ ∀ i, i < 6 → qA h' 609 i = qA h 603 i) := by
  obtain ⟨S, hb, ho, f1, f2⟩ := M
  have hol := ho.le
  have S0 : q_Sh (m_hd h n l) := S
  refine ⟨q_recV rfl (S.ok rfl), ?_⟩
  have loop2 : ∀ m i h1, i + m = 6 → q_Ef [608, 609] (m_hd h n l) h1 → (∀ j, j < 4 → qA h1 608 j = qA h 602 j) → (∀ j, j < i → qA h1 609 j = qA h 603 j) → q_wp 0 113 49 [some (.ref 601), some (.int (nI i))] [] h1 (fun r h' => r = none ∧ q_Ef [608, 609] (m_hd h n l) h' ∧ (∀ i, i < 4 → qA h' 608 i = qA h 602 i) ∧ ∀ i, i < 6 → qA h' 609 i = qA h 603 i) := by
    intro m
    induction m with
    | zero =>
      intro i h1 hi e g1 g2
      obtain rfl : i = 6 := by omega
      exact b113_49 (fun _ => b113_73 ⟨rfl, e, g1, g2⟩) (fun h1 => absurd (Int32.le_refl _) h1)
    | succ m ih =>
      intro i h1 hi e g1 g2
      have S1 := e.sh S0
      have e3 : qA h1 603 = qA h 603 := e.A (by decide)
      refine b113_49 (fun h1 => absurd ((nI_gec (k := 6) (by omega) (by decide) rfl).mp h1) (by omega)) (fun _ => b113_55 (S1.ok rfl) (S1.ref (v := 609) rfl) (S1.ref (v := 603) rfl) (S1.ok rfl) (S1.inN (n := 6) rfl (by omega) (by decide)) (S1.ok rfl) (S1.inN (n := 6) rfl (by omega) (by decide)) ?_)
      rw [nI_1, nI_clamp (by omega)]
      refine ih (i + 1) _ (by omega) (e.trans (q_Ef.sA (by decide))) g1 (fun j hj => ?_)
      rw [qA_sAu]
      by_cases h3 : j = i
      · rw [h3, upd_eq, e3]
      · rw [upd_ne h3]
        exact g2 j (by omega)
  have loop1 : ∀ m i h1, i + m = 4 → q_Ef [608, 609] (m_hd h n l) h1 → (∀ j, j < i → qA h1 608 j = qA h 602 j) → q_wp 0 113 24 [some (.ref 601), some (.int (nI i))] [] h1 (fun r h' => r = none ∧ q_Ef [608, 609] (m_hd h n l) h' ∧ (∀ i, i < 4 → qA h' 608 i = qA h 602 i) ∧ ∀ i, i < 6 → qA h' 609 i = qA h 603 i) := by
    intro m
    induction m with
    | zero =>
      intro i h1 hi e g1
      obtain rfl : i = 4 := by omega
      exact b113_24 (fun _ => b113_47 (loop2 6 0 h1 rfl e g1 (fun j hj => absurd hj (Nat.not_lt_zero _)))) (fun h1 => absurd (Int32.le_refl _) h1)
    | succ m ih =>
      intro i h1 hi e g1
      have S1 := e.sh S0
      have e3 : qA h1 602 = qA h 602 := e.A (by decide)
      refine b113_24 (fun h1 => absurd ((nI_gec (k := 4) (by omega) (by decide) rfl).mp h1) (by omega)) (fun _ => b113_29 (S1.ok rfl) (S1.ref (v := 608) rfl) (S1.ref (v := 602) rfl) (S1.ok rfl) (S1.inN (n := 4) rfl (by omega) (by decide)) (S1.ok rfl) (S1.inN (n := 4) rfl (by omega) (by decide)) ?_)
      rw [nI_1, nI_clamp (by omega)]
      refine ih (i + 1) _ (by omega) (e.trans (q_Ef.sA (by decide))) (fun j hj => ?_)
      rw [qA_sAu]
      by_cases h3 : j = i
      · rw [h3, upd_eq, e3]
      · rw [upd_ne h3]
        exact g1 j (by omega)
  refine b113_0 (S.ok rfl) f2 (S.oo ho) ?_
  have e1 : qI (q_sI h 601 14 (qI h o 0)) o 1 = nI l := by rw [qI_sI_ne (by omega)]; exact el
  rw [e1, en]
  exact loop1 4 0 (m_hd h n l) rfl q_Ef.rf (fun j hj => absurd hj (Nat.not_lt_zero _))
