/-! RUN AND BEGIN keep the relation -/
/-- the relation out of its pieces, behind a run -/
theorem r_Q.putX {W K : Nat → Int64} {h h' : q_Hp} {u u' b : Nat} {B : q_Bk} {a l t s a' l' t' s' : Nat} (Q : r_Q W K h u b B a l t s) (e1 : q_Ef [598, 599, 600, 601, 602, 603, 604, 605, 606, 607, 608, 609, 610, 611, 612, 613, 614, 615, 616, 617, 618, 619, 630, 691, 692, 695, 696, 697, 698, 699, 700, 701, 702, 703, 704, 705, 706, 707, 708, 709] h h') (e6 : ∀ j, ¬ (j = 91 ∨ j = 92 ∨ j = 95 ∨ j = 96 ∨ j = 99 ∨ j = 104 ∨ j = 105 ∨ j = 106) → qI h' 630 j = qI h 630 j) (Z : z_A h' h' b B a' l' t' s' u') (X : r_X h' b B a' s' u') : r_Q W K h' u' b B a' l' t' s' := by
  obtain ⟨S, q1, q2, q3, q4, hb, q5, w, q6, q7, q8, q9, q10, q11⟩ := Q
  have n1 : ∀ x, x ≤ 597 ∨ (620 ≤ x ∧ x ≤ 629) ∨ (631 ≤ x ∧ x ≤ 690) ∨ x = 693 ∨ x = 694 → x ∉ [598, 599, 600, 601, 602, 603, 604, 605, 606, 607, 608, 609, 610, 611, 612, 613, 614, 615, 616, 617, 618, 619, 630, 691, 692, 695, 696, 697, 698, 699, 700, 701, 702, 703, 704, 705, 706, 707, 708, 709] := by
    intro x h1
    simp only [List.mem_cons, List.not_mem_nil, or_false]
    omega
  refine ⟨e1.sh S, ?_, ?_, ?_, Z.2.2.2, hb, ?_, w, Z.1.2.2.2.1, Z.2.1.2.2.1, Z.1.2.2.2.2, Z.2.2.1, ?_, X⟩
  · unfold r_C
    rw [e1.L (n1 4 (by decide)), e1.L (n1 637 (by decide))]
    exact q1
  · unfold r_T
    rw [e1.I (n1 1 (by decide)), e6 2 (by decide), e1.A (n1 2 (by decide)), e1.A (n1 631 (by decide))]
    exact q2
  · unfold r_P
    rw [e1.I (n1 1 (by decide)), e6 17 (by decide)]
    exact q3
  · rw [e1.R (n1 1 (by decide))]
    exact q5
  · unfold r_K
    rw [e1.A (n1 621 (by decide)), e1.A (n1 694 (by decide)), e1.A (n1 620 (by decide)), e1.A (n1 693 (by decide))]
    exact q10
/-- a run that goes on between two calls -/
theorem r_Q.zZ {W K : Nat → Int64} {h : q_Hp} {u b : Nat} {B : q_Bk} {a l t s : Nat} (Q : r_Q W K h u b B a l t s) (h4 : qI h 614 4 = 4) : ∃ lev φ, z_Z h h b B lev u ((a, l, t, s), φ) := by
  have ZA := Q.zA
  obtain ⟨S, q1, q2, q3, q4, hb, q5, w, q6, q7, q8, q9, q10, q11⟩ := Q
  obtain ⟨rb, d, kd, op, tu, nx, ap, bg, lv, F⟩ := q11.2.2 h4
  obtain ⟨lev, L, A, X, N, D⟩ := r_F_y F
  exact ⟨lev, (d, kd, op, tu, nx, ap, lv, bg), Or.inl ⟨⟨⟨S, hb, w, q6, rb⟩, ZA, L, A, X.1, N, D⟩, ⟨h4, q11.1.symm.trans h4, q11.2.1⟩, X.2⟩⟩
theorem z_Z.rX {h : q_Hp} {b : Nat} {B : q_Bk} {lev : Nat → Nat} {u a l t s : Nat} {φ : _} (Z : z_Z h h b B lev u ((a, l, t, s), φ)) : z_A h h b B a l t s u ∧ r_X h b B a s u := by
  obtain ⟨d, kd, op, tu, nx, ap, lv, bg⟩ := φ
  rcases Z with ⟨⟨X, Z, L, A, G, N, D⟩, sk, n⟩ | ⟨X, Z, e, he, sk⟩
  · exact ⟨Z, sk.1.trans sk.2.1.symm, sk.2.2, fun _ => ⟨X.2.2.2.2, d, kd, op, tu, nx, ap, bg, lv, y_r_F L A ⟨G, n⟩ N D⟩⟩
  · refine ⟨Z, sk.1.trans sk.2.1.symm, sk.2.2, fun h4 => ?_⟩
    exfalso
    rw [sk.1] at h4
    rcases he with rfl | rfl | rfl <;> exact absurd h4 (by decide)
theorem r_run {W K : Nat → Int64} {u : Nat} (hu : u + 40 < 2 ^ 20) {x : Int32} : r_I W K 227 339 [.int x] u (u + 40) := by
  rintro h R
  obtain ⟨b, B, a, l, t, s, Q⟩ := R
  have S := Q.1
  have hgo := Q.go
  have ra := Q.up (u' := u + 40) (by omega)
  have no : (r_go h = false ∨ x < 1 ∨ ¬ x ≤ 40) → q_mI 40 339 [.ref 630, .int x] h (fun z' h2 => z' = -1 ∧ r_R W K h2 (u + 40)) := by
    intro hc
    refine (q_mI.of (n := 8) (q_recV rfl (S.ok rfl)) (fun Q' fin => ?_)).mono (by decide) (fun _ _ p => p)
    have last : q_wp 8 339 18 [some (.ref 630), some (.int x), none, none, none] [] h Q' := b339_18 (fin _ _ ⟨rfl, b, B, a, l, t, s, ra⟩)
    refine b339_0 (s298 S) (by decide) ?_
    rintro z1 h1 ⟨e0, rfl⟩
    subst h1
    refine b339_4 (fun _ => last) (fun c => b339_7 (fun _ => last) (fun c2 => b339_12 (fun c3 => ?_) (fun _ => last)))
    exfalso
    rcases hc with h9 | h9 | h9
    · have h8 : m_go h = false := hgo.trans h9
      exact c (by rw [show (qI h 630 104 == 4) = false from h8]; rfl)
    · exact c2 h9
    · exact h9 c3
  refine (q_mI.of (n := 9) (q_recV rfl (S.ok rfl)) (fun Q' fin => ?_)).mono (by decide) (fun _ _ p => p)
  have last : (r_go h = false ∨ x < 1 ∨ ¬ x ≤ 40) → q_wp 9 227 21 [some (.ref 1), some (.int x), none] [] h Q' := fun hc => b227_21 (fin _ _ (no hc))
  refine b227_0 (S.ok rfl) (S.ref (v := 614) rfl) (s139 S) (by decide) ?_
  rintro z1 h1 ⟨e0, rfl⟩
  subst h1
  refine b227_7 (fun c => last (Or.inl (b2i_eq.mp c))) (fun c => b227_10 (fun c2 => last (Or.inr (Or.inl c2))) (fun c2 => b227_15 (fun c3 => ?_) (fun c3 => last (Or.inr (Or.inr c3)))))
  have go : r_go h = true := b2i_ne.mp c
  have h4 : qI h 614 4 = 4 := by
    unfold r_go at go
    exact eq_of_beq go
  have hx0 : ¬ x < 0 := fun h9 => c2 (Int32.lt_trans h9 (by decide))
  obtain ⟨n, hn, rfl⟩ := nI_of hx0
  have n40 : n ≤ 40 := (nI_leI (b := 40) hn (by decide)).mp c3
  obtain ⟨lev, φ, Z0⟩ := Q.zZ h4
  refine b227_23 (S.ok rfl) (S.ref (v := 614) rfl) (z_146A (by omega) Z0) (by decide) ?_
  rintro h1 ⟨e1, σ1, hk1⟩
  obtain ⟨k1, _, _, D1⟩ := hk1 h Z0 0 0
  refine b227_30 (z_loop n40 n 0 u h1 k1 σ1 Q' (by omega) (by omega) D1 ?_)
  rintro z h2 e2 ⟨σ2, hk2⟩
  refine fin z h2 ?_
  have e3 := e1.trans e2
  have S2 := e3.1.sh S
  -- the reference behind it
  have Z2 : z_Z h h2 b B lev u ((a, l, t, s), φ) := Z0.r0 e3.1 rfl
  obtain ⟨k3, o3, g3, D3⟩ := hk1 h2 Z2 (nI n) n
  obtain ⟨k4, g4, D4, w4⟩ := hk2 k3 D3 (nI n)
  have g5 := g3.trans g4
  have Z4 : z_Z k4 k4 b B lev (u + n) σ2 := D4.z.l0 g5.1 rfl (g5.1.R (by decide)) (g5.1.I (by decide))
  obtain ⟨⟨a', l', t', s'⟩, φ'⟩ := σ2
  obtain ⟨ZA, RX⟩ := Z4.rX
  have ea : q_Ef [598, 599, 600, 601, 602, 603, 604, 605, 606, 607, 608, 609, 610, 611, 612, 613, 614, 615, 616, 617, 618, 619, 630, 691, 692, 695, 696, 697, 698, 699, 700, 701, 702, 703, 704, 705, 706, 707, 708, 709] h k4 := (e3.1.wide (by decide)).trans (g5.1.wide (by decide))
  have e630 : qI h2 630 = qI h 630 := e3.1.I (by decide)
  have Q4 : r_Q W K k4 (u + n) b B a' l' t' s' := Q.putX ea (fun j hj => by rw [g5.2 j hj, e630]) ZA RX
  have R4 : r_R W K k4 (u + 40) := ⟨b, B, a', l', t', s', Q4.up (by omega)⟩
  refine (q_mI.of (n := 8) (q_recV rfl (S2.ok rfl)) (fun Q9 fin9 => ?_)).mono (by decide) (fun _ _ p => p)
  have g0 : (qI h2 630 104 == 4) = true := by
    rw [e630]
    exact hgo.trans go
  refine b339_0 (s298 S2) (by decide) ?_
  rintro z1 h3 ⟨e0, rfl⟩
  subst h3
  rw [g0]
  refine b339_4 (fun c9 => absurd c9 (by decide)) (fun _ => b339_7 (fun c9 => absurd c9 c2) (fun _ => b339_12 (fun _ => b339_20 ?_) (fun c9 => absurd c3 c9)))
  exact o3 Q9 (fun y3 y4 => w4 y3 y4 Q9 (fin9 _ _ ⟨rfl, R4⟩)) _ _
