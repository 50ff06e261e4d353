/-! KEEP AND UNDO -/
theorem q_dr.ext {T S : Nat} {f g f' g' : Nat → Int32} (D : q_dr T S f g) (ef : ∀ i, i < 156 → f' i = f i) (eg : ∀ i, i < 156 → g' i = g i) : q_dr T S f' g' := by
  refine ⟨fun i hi => ?_, fun i hi => ?_, fun i hi => ?_, fun i hi => ?_⟩
  · rw [ef i (by omega), ef (12 + i) (by omega), ef (24 + i) (by omega)]
    exact D.1 i hi
  · rw [ef (36 + i) (by omega), ef (76 + i) (by omega), ef (116 + i) (by omega)]
    exact D.2.1 i hi
  · rw [ef i (by omega), eg i (by omega)]
    exact D.2.2.1 i hi
  · rw [ef (36 + i) (by omega), ef (76 + i) (by omega), ef (116 + i) (by omega), eg (76 + i) (by omega), eg (116 + i) (by omega)]
    exact D.2.2.2 i hi
theorem q_dg.ext {T S : Nat} {f g f' g' : Nat → Int32} (D : q_dg T S f g) (ef : ∀ i, i < 156 → f' i = f i) (eg : ∀ i, i < 156 → g' i = g i) : q_dg T S f' g' := by
  refine ⟨D.1.ext ef eg, fun i hi h1 => ?_⟩
  rw [ef (36 + i) (by omega)] at h1
  obtain ⟨⟨x, hx, ex⟩, y, hy, ey⟩ := D.1.ends i hi h1
  have := D.2 i hi h1
  rw [ef (76 + i) (by omega), ef (116 + i) (by omega), ex, ey, nI_clamp (by omega), nI_clamp (by omega)]
  rw [ex, ey, nI_clamp (by omega), nI_clamp (by omega)] at this
  rw [ef x (by omega), ef y (by omega)]
  exact this
theorem va_cpy_in {f g : Nat → Int32} {sp dp n i : Nat} (hi : i < n) : va_cpy f g sp dp n (dp + i) = f (sp + i) := by
  unfold va_cpy
  rw [if_pos ⟨by omega, by omega⟩, Nat.add_sub_cancel_left]
theorem va_cpy_out {f g : Nat → Int32} {sp dp n i : Nat} (hi : i < dp ∨ dp + n ≤ i) : va_cpy f g sp dp n i = g i := by
  unfold va_cpy
  rw [if_neg (by omega)]
theorem r_keep {W K : Nat → Int64} {u : Nat} {x : Int32} : r_I W K 229 343 [.int x] u u := by
  rintro h R
  obtain ⟨b, B, a, l, t, s, Q⟩ := R
  have hgo := Q.go
  have Q' := Q
  obtain ⟨S, q1, q2, q3, q4, hb, q5, w, q6, q7, q8, q9, q10, q11⟩ := Q'
  have D := q8.1
  refine (s229 S).mono (by decide) ?_
  intro z h1 e1
  unfold D229 at e1
  by_cases hc : q_rg x 4 = true
  · rw [if_pos hc] at e1
    obtain ⟨rfl, rfl⟩ := Prod.mk.inj e1
    obtain ⟨j, hj, rfl⟩ := (q_rg_ex (by decide)).mp hc
    rw [nI_clamp (by omega)]
    have Sg : q_Sh (q_sA (q_wA h 620 (va_cpy (qA h 598) (qA h 620) 0 (j * 156) 156)) 621 j 1) := S
    refine (s343 Sg).mono (by decide) ?_
    intro z h2 e2
    unfold D343 at e2
    rw [if_pos hc, nI_clamp (by omega)] at e2
    obtain ⟨rfl, rfl⟩ := Prod.mk.inj e2
    have hb' : b = 11 ∨ b = 300 := hb
    refine ⟨rfl, b, B, a, l, t, s, S, q1, q2, q3, q4, hb, q5, w, ?_, ?_, q8, q9, ?_, q11⟩
    · refine r_cB.fr (h := h) hb w (fun y h1 h2 => ?_) (fun _ _ _ => rfl) q6
      rw [q_sA_wA, qA_wA_ne (by omega), qA_wA_ne (by omega), q_sA_wA, qA_wA_ne (by omega), qA_wA_ne (by omega)]
    · refine r_mB.fr (h := h) (fun y h1 h2 => ?_) (fun _ _ => rfl) q7
      rw [q_sA_wA, qA_wA_ne (by omega), qA_wA_ne (by omega), q_sA_wA, qA_wA_ne (by omega), qA_wA_ne (by omega)]
    · intro k hk
      have e6 : qA (q_sA (q_wA (q_sA (q_wA h 620 (va_cpy (qA h 598) (qA h 620) 0 (j * 156) 156)) 621 j 1) 693 (va_cpy (qA h 691) (qA h 693) 0 (156 * j) 156)) 694 j 1) 621 = upd (qA h 621) j 1 := qA_sAu (q_wA h 620 (va_cpy (qA h 598) (qA h 620) 0 (j * 156) 156)) 621 j 1
      have e7 : qA (q_sA (q_wA (q_sA (q_wA h 620 (va_cpy (qA h 598) (qA h 620) 0 (j * 156) 156)) 621 j 1) 693 (va_cpy (qA h 691) (qA h 693) 0 (156 * j) 156)) 694 j 1) 694 = upd (qA h 694) j 1 := qA_sAu _ 694 j 1
      show qA (q_sA (q_wA (q_sA (q_wA h 620 (va_cpy (qA h 598) (qA h 620) 0 (j * 156) 156)) 621 j 1) 693 (va_cpy (qA h 691) (qA h 693) 0 (156 * j) 156)) 694 j 1) 621 k = qA (q_sA (q_wA (q_sA (q_wA h 620 (va_cpy (qA h 598) (qA h 620) 0 (j * 156) 156)) 621 j 1) 693 (va_cpy (qA h 691) (qA h 693) 0 (156 * j) 156)) 694 j 1) 694 k ∧ (qA (q_sA (q_wA (q_sA (q_wA h 620 (va_cpy (qA h 598) (qA h 620) 0 (j * 156) 156)) 621 j 1) 693 (va_cpy (qA h 691) (qA h 693) 0 (156 * j) 156)) 694 j 1) 621 k = 0 ∨ qA (q_sA (q_wA (q_sA (q_wA h 620 (va_cpy (qA h 598) (qA h 620) 0 (j * 156) 156)) 621 j 1) 693 (va_cpy (qA h 691) (qA h 693) 0 (156 * j) 156)) 694 j 1) 621 k = 1) ∧ (qA (q_sA (q_wA (q_sA (q_wA h 620 (va_cpy (qA h 598) (qA h 620) 0 (j * 156) 156)) 621 j 1) 693 (va_cpy (qA h 691) (qA h 693) 0 (156 * j) 156)) 694 j 1) 621 k = 1 → q_dg (bN B 0) (bN B 1) (fun i => va_cpy (qA h 598) (qA h 620) 0 (j * 156) 156 (k * 156 + i)) (fun i => va_cpy (qA h 691) (qA h 693) 0 (156 * j) 156 (156 * k + i)))
      rw [e6, e7]
      by_cases h3 : k = j
      · subst h3
        rw [upd_eq, upd_eq]
        refine ⟨rfl, Or.inr rfl, fun _ => q8.ext (fun i hi => ?_) (fun i hi => ?_)⟩
        · show va_cpy (qA h 598) (qA h 620) 0 (k * 156) 156 (k * 156 + i) = _
          rw [va_cpy_in hi, Nat.zero_add]
        · show va_cpy (qA h 691) (qA h 693) 0 (156 * k) 156 (156 * k + i) = _
          rw [va_cpy_in hi, Nat.zero_add]
      · rw [upd_ne h3, upd_ne h3]
        refine ⟨(q10 k hk).1, (q10 k hk).2.1, fun h4 => ((q10 k hk).2.2 h4).ext (fun i hi => ?_) (fun i hi => ?_)⟩
        · show va_cpy (qA h 598) (qA h 620) 0 (j * 156) 156 (k * 156 + i) = _
          rw [va_cpy_out (by omega)]
        · show va_cpy (qA h 691) (qA h 693) 0 (156 * j) 156 (156 * k + i) = _
          rw [va_cpy_out (by omega)]
  · rw [if_neg hc] at e1
    obtain ⟨rfl, rfl⟩ := Prod.mk.inj e1
    refine (s343 S).mono (by decide) ?_
    intro z h2 e2
    unfold D343 at e2
    rw [if_neg hc] at e2
    obtain ⟨rfl, rfl⟩ := Prod.mk.inj e2
    exact ⟨rfl, b, B, a, l, t, s, Q⟩
theorem q_back_back (t n j : Nat) : q_back (q_back t n) j = q_back t (n + j) := by
  unfold q_back
  omega
theorem r_undo {W K : Nat → Int64} {u : Nat} (hu : u < 2 ^ 20) {x : Int32} : r_I W K 228 331 [.int x] u u := by
  rintro h R
  obtain ⟨b, B, a, l, t, s, Q⟩ := R
  have hgo := Q.go
  have Q' := Q
  obtain ⟨S, q1, q2, q3, q4, hb, q5, w, q6, q7, q8, q9, q10, q11⟩ := Q'
  have D := q8.1
  obtain ⟨g1, g2, g3, g4, g5, g6, g7, g8, g9, g10, g11⟩ := q9
  refine (s228 S g5 g7 g8 g6 (by omega) (by omega) (by omega)).mono (by decide) ?_
  rintro z h1 (⟨c1, n, rfl, c2, c3, rfl, rfl⟩ | ⟨c1, rfl, e1⟩)
  · have Sg : q_Sh (q_wA (q_his h (q_back t n) (a - l - n) (s - n)) 598 (va_cpy (qA h 600) (qA h 598) (q_back t n * 156) 0 156)) := S
    refine (s331 (a := a) (l := l) Sg g1 g2 g3 (by omega)).mono (by decide) ?_
    have c1' : m_go h = false := hgo.trans c1
    rintro z h2 (⟨d1, m, em, d2, d3, rfl, rfl⟩ | ⟨d1, rfl, e2⟩)
    · obtain rfl : n = m := (nI_eq (by omega) (by omega)).mp em
      have hb' : b = 11 ∨ b = 300 := hb
      refine ⟨rfl, b, B, a - n, l, q_back t n, s - n, S, q1, q2, q3, q4, hb, q5, w, ?_, ?_, ?_, ?_, q10, q11.1, q11.2.1, fun h9 => ?_⟩
      · refine r_cB.fr (h := h) hb w (fun y h1 h2 => ?_) (fun y h1 h2 => ?_) q6
        · rw [qA_wA_ne (by omega)]
          show qA (q_wA (q_his h (q_back t n) (a - l - n) (s - n)) 598 _) y = _
          rw [qA_wA_ne (by omega)]
          rfl
        · show qI (q_sI (q_his h (q_back t n) (a - l - n) (s - n)) 630 91 _) y = _
          unfold q_his
          rw [qI_sI_ne (by omega), qI_sI_ne (by omega), qI_sI_ne (by omega), qI_sI_ne (by omega)]
      · refine r_mB.fr (h := h) (fun y h1 h2 => ?_) (fun i hi => ?_) q7
        · rw [qA_wA_ne (by omega)]
          show qA (q_wA (q_his h (q_back t n) (a - l - n) (s - n)) 598 _) y = _
          rw [qA_wA_ne (by omega)]
          rfl
        · show qI (q_sI (q_his h (q_back t n) (a - l - n) (s - n)) 630 91 _) 630 (24 + i) = _
          unfold q_his
          rw [qI_sI_nj (by omega), qI_sI_nj (by omega), qI_sI_nj (by omega), qI_sI_nj (by omega)]
      · refine (g11 n c2 c3).ext (fun i hi => ?_) (fun i hi => ?_)
        · show va_cpy (qA h 600) (qA h 598) (q_back t n * 156) 0 156 i = _
          have := va_cpy_in (f := qA h 600) (g := qA h 598) (sp := q_back t n * 156) (dp := 0) hi
          rw [Nat.zero_add] at this
          exact this
        · show va_cpy (qA h 692) (qA h 691) (156 * ((a - n) % 101)) 0 156 i = _
          have := va_cpy_in (f := qA h 692) (g := qA h 691) (sp := 156 * ((a - n) % 101)) (dp := 0) hi
          rw [Nat.zero_add] at this
          exact this
      · refine ⟨rfl, g2, by omega, by omega, rfl, Nat.mod_lt _ (by decide), ?_, rfl, by omega, by omega, fun j hj1 hj2 => ?_⟩
        · show nI (a - l - n) = nI (a - n - l)
          congr 1
          omega
        · have := g11 (n + j) (by omega) (by omega)
          rw [q_back_back, show a - n - j = a - (n + j) by omega]
          exact this
      · exfalso
        have h10 : qI h 614 4 = 4 := h9
        unfold r_go at c1
        rw [h10] at c1
        exact absurd c1 (by decide)
    · exact absurd ⟨c1', n, rfl, c2, c3⟩ d1
  · subst e1
    refine (s331 (a := a) (l := l) S g1 g2 g3 (by omega)).mono (by decide) ?_
    rintro z h2 (⟨d1, m, em, d2, d3, rfl, rfl⟩ | ⟨d1, rfl, e2⟩)
    · exact absurd ⟨hgo.symm.trans d1, m, em, d2, d3⟩ c1
    · subst e2
      exact ⟨rfl, b, B, a, l, t, s, Q⟩
