/-! THE LAW: the same call of the desk and of the reference -/
theorem q_rec_at {k o : Nat} {as : List Value} {h : q_Hp} (hr : q_rec k (.ref o :: as) h = true) (hs : q_stc k = false) (hk : q_ow k < 13) : q_ok h o (q_ow k) := by
  unfold q_rec at hr
  rw [hs, Bool.false_or] at hr
  simp only [Bool.and_eq_true, Bool.or_eq_true, decide_eq_true_eq] at hr
  rcases hr.1.1.1 with h1 | h1
  · exact h1.2
  · exact absurd h1.1.1 (by omega)
section LT
variable {l : Launch} {D : va_G} {B : Nat} {aS aV : Nat → Nat} {tc : Nat → ClassId}
theorem r_R.n712 {W K : Nat → Int64} {h : q_Hp} {u : Nat} (R : r_R W K h u) : qN h = 712 := by
  obtain ⟨b, B, a, l, t, s, Q⟩ := R
  exact Q.1.1
theorem lj_two {k k' u u' : Nat} {as : List Value} {h : q_Hp} (R : r_R t_W t_K h u) (I : r_I t_W t_K k k' as u u') (s1 : q_stc k = false) (s2 : q_stc k' = false) (o1 : q_ow k = 11) (o2 : q_ow k' = 12) : ∃ z h1 h2, q_Ct2 l D B aS aV tc 40 k (.ref 1 :: as) h (some (.int z)) h1 ∧ q_Ct2 l D B aS aV tc 40 k' (.ref 630 :: as) h1 (some (.int z)) h2 ∧ r_R t_W t_K h2 u' ∧ q_ok h 1 11 ∧ q_ok h1 630 12 ∧ qN h1 = qN h ∧ qZ h1 = qZ h ∧ qN h2 = qN h1 ∧ qZ h2 = qZ h1 := by
  have w := I h R
  have n0 := R.n712
  obtain ⟨z, h1, w2, c1, z1, m1, _⟩ := q_metI (l := l) (D := D) (B := B) (aS := aS) (aV := aV) (tc := tc) w
  obtain ⟨z', h2, ⟨e, R2⟩, c2, z2, m2, _⟩ := q_metI (l := l) (D := D) (B := B) (aS := aS) (aV := aV) (tc := tc) w2
  have n2 := R2.n712
  subst e
  have a1 : qN h1 = qN h := by omega
  have a2 : qN h2 = qN h1 := by omega
  refine ⟨z', h1, h2, c1, c2, R2, ?_, ?_, a1, ?_, a2, ?_⟩
  · rw [← o1]
    exact q_rec_at w.1 s1 (by omega)
  · rw [← o2]
    exact q_rec_at w2.1 s2 (by omega)
  · rcases z1 with h9 | h9
    · omega
    · exact h9.2
  · rcases z2 with h9 | h9
    · omega
    · exact h9.2
end LT
