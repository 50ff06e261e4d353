/-! ALL OF A RULE: both sides -/
theorem z_all {h k0 : q_Hp} {b r : Nat} {B : q_Bk} {a l t s u : Nat} (hr : r < bN B 2) (hu : u < 2 ^ 20) (Z0 : z_A h k0 b B a l t s u) : q_mV 5 119 [.ref 610, .ref b, .int (nI r)] h (fun h1 => z_f h h1 ∧ q_mI 5 120 [.ref 610, .ref b, .int (nI r)] h1 (fun z h' => z_f h h' ∧ ∃ a' l' t' s', ((z = 1 ∧ a' = a + 1 ∧ s' = s + 1) ∨ ((z = 0 ∨ z = 2) ∧ a' = a ∧ l' = l ∧ t' = t ∧ s' = s)) ∧ ∀ k, z_A h k b B a l t s u → q_mI 5 329 [.ref 630, .int (nI r)] k (fun z' k' => z_g k k' ∧ z' = (if z = 2 then -3 else z) ∧ z_A h' k' b B a' l' t' s' (u + 1)))) := by
  obtain ⟨X0, N0, H0, M0⟩ := Z0
  obtain ⟨p1, p2, p3, p4, p5, p6, p7, p8, p9, p10, p11⟩ := H0
  have w := X0.2.2.1
  have wr : q_wR B (bR B r) := w.2.2.2.2.2.2.2.2.2.2 r hr
  refine (s119 X0 hr).mono (Nat.le_refl _) ?_
  rintro h1 ⟨e1, c14, c15, c6, ct⟩
  refine ⟨e1.wide (by decide), ?_⟩
  have X1 : c_X h1 b B (qA k0 691) := X0.fr e1 rfl
  have f1 : qA h1 598 = qA h 598 := e1.A (by decide)
  have i599 : qI h1 599 = qI h 599 := e1.I (by decide)
  have a600 : qA h1 600 = qA h 600 := e1.A (by decide)
  refine (s120 X1 hr (m_tk_le (Nat.le_refl _)) c6 ct (by rw [i599]; exact p5) p6 (by rw [i599]; exact p7) (by omega) (by rw [i599]; exact p8)).mono (Nat.le_refl _) ?_
  rintro z h' ⟨e2, d14, d15, d600, hz⟩
  rw [f1, a600] at d600
  rw [f1] at hz
  have e3 : z_f h h' := (e1.wide (by decide)).trans (e2.wide (by decide))
  have d608 : qA h' 608 = qA h 608 := (e2.A (by decide)).trans (e1.A (by decide))
  have d609 : qA h' 609 = qA h 609 := (e2.A (by decide)).trans (e1.A (by decide))
  have g14 := d14.trans c14
  have g15 := d15.trans c15
  have zz := fun k (Z : z_A h k b B a l t s u) => s329 (f := qA h 598) Z.2.1 hr Z.2.2.1.1 Z.2.2.1.2.1 Z.2.2.1.2.2.1 (by have := Z.2.2.1.2.2.2.2.2.2.2.2.1; have := Z.2.2.1.2.2.2.2.2.2.2.2.2.1; omega)
  have fin : ∀ (k k' : q_Hp) (a' l' t' s' : Nat), z_A h k b B a l t s u → q_Ef [630, 691, 692, 695, 696, 699, 700, 701, 702] k k' → (∀ j, ¬ (j = 91 ∨ j = 92 ∨ j = 99) → qI k' 630 j = qI k 630 j) → q_dg (bN B 0) (bN B 1) (qA h' 598) (qA k' 691) → z_H h' k' (bN B 0) (bN B 1) a' l' t' s' (u + 1) → z_A h' k' b B a' l' t' s' (u + 1) := by
    intro k k' a' l' t' s' Z ek ei D H
    refine ⟨Z.1.row e3 rfl D, Z.2.1.row ek rfl (fun i hi => ei _ (by omega)) D, H, Z.2.2.2.same g14 g15 (ei 95 (by decide)) (ei 96 (by decide)) d608 d609 (ek.A (by decide)) (ek.A (by decide))⟩
  rcases hz with ⟨rfl, ⟨n, hn, al⟩, i2, i3, i4⟩ | ⟨rfl, al, i9⟩ | ⟨rfl, al, f9, i9⟩
  · refine ⟨e3, a + 1, if a - l = 100 then l + 1 else l, (t + 1) % 101, s + 1, Or.inl ⟨rfl, rfl, rfl⟩, fun k Z => (zz k Z).mono (Nat.le_refl _) ?_⟩
    rintro z' k' ⟨⟨ek, ei⟩, k692, hz'⟩
    rcases hz' with ⟨rfl, ⟨n', f', hn', al', D⟩, j91, j92⟩ | ⟨_, ⟨f', al', _⟩, _⟩ | ⟨_, al', _⟩
    · rw [al] at al'
      cases al'
      exact ⟨⟨ek.wide (by decide), fun j hj => ei j (by omega)⟩, rfl, fin k k' _ _ _ _ Z ek ei D (Z.2.2.1.done Z.1.2.2.2.2 i2 i3 i4 d600 j91 j92 k692)⟩
    · rw [al] at al'
      cases al'
      omega
    · rw [al] at al'
      cases al'
  · refine ⟨e3, a, l, t, s, Or.inr ⟨Or.inl rfl, rfl, rfl, rfl, rfl⟩, fun k Z => (zz k Z).mono (Nat.le_refl _) ?_⟩
    rintro z' k' ⟨⟨ek, ei⟩, k692, hz'⟩
    rcases hz' with ⟨rfl, ⟨n', f', hn', al', D⟩, j91, j92⟩ | ⟨rfl, ⟨f', al', D⟩, j91, j92⟩ | ⟨_, al', _⟩
    · rw [al] at al'
      cases al'
      omega
    · rw [al] at al'
      cases al'
      exact ⟨⟨ek.wide (by decide), fun j hj => ei j (by omega)⟩, rfl, fin k k' _ _ _ _ Z ek ei D (Z.2.2.1.not (by omega) (i9.trans i599) d600 (j91.trans Z.2.2.1.1.symm) (j92.trans Z.2.2.1.2.1.symm) k692)⟩
    · rw [al] at al'
      cases al'
  · refine ⟨e3, a, l, t, s, Or.inr ⟨Or.inr rfl, rfl, rfl, rfl, rfl⟩, fun k Z => (zz k Z).mono (Nat.le_refl _) ?_⟩
    rintro z' k' ⟨⟨ek, ei⟩, k692, hz'⟩
    rcases hz' with ⟨rfl, ⟨n', f', hn', al', D⟩, j91, j92⟩ | ⟨rfl, ⟨f', al', D⟩, j91, j92⟩ | ⟨rfl, al', g9, j91, j92⟩
    · rw [al] at al'
      cases al'
    · rw [al] at al'
      cases al'
    · exact ⟨⟨ek.wide (by decide), fun j hj => ei j (by omega)⟩, rfl, fin k k' _ _ _ _ Z ek ei (Z.1.2.2.2.2.ext f9 g9) (Z.2.2.1.not (by omega) (i9.trans i599) d600 (j91.trans Z.2.2.1.1.symm) (j92.trans Z.2.2.1.2.1.symm) k692)⟩
