/-! APPLY: the two sides answer alike -/
/-- the desk's cells in h, the reference's in k: the same book, diagram, history, hand -/
def z_A (h k : q_Hp) (b : Nat) (B : q_Bk) (a l t s u : Nat) : Prop := c_X h b B (qA k 691) ∧ n_X k B (qA h 598) ∧ z_H h k (bN B 0) (bN B 1) a l t s u ∧ z_M h k
theorem z_A.l {S : List Nat} {h h2 k : q_Hp} {b : Nat} {B : q_Bk} {a l t s u : Nat} (Z : z_A h k b B a l t s u) (e : q_Ef S h h2) (hS : S.all (fun x => decide (609 < x)) = true) : z_A h2 k b B a l t s u := by
  obtain ⟨X, N, H, M⟩ := Z
  have n1 : ∀ x, x ≤ 609 → x ∉ S := fun x hx => q_nin hS hx
  refine ⟨X.fr e ?_, ?_, H.same (Nat.le_refl _) (e.I (n1 599 (by decide))) (e.A (n1 600 (by decide))) rfl rfl rfl, ?_⟩
  · refine List.all_eq_true.mpr (fun x hx => ?_)
    have := List.all_eq_true.mp hS x hx
    simp only [decide_eq_true_eq] at this ⊢
    omega
  · rw [e.A (n1 598 (by decide))]
    exact N
  · unfold z_M
    rw [e.I (n1 601 (by decide)), e.A (n1 608 (by decide)), e.A (n1 609 (by decide))]
    exact M
theorem z_A.r {S : List Nat} {h k k2 : q_Hp} {b : Nat} {B : q_Bk} {a l t s u : Nat} (Z : z_A h k b B a l t s u) (e : q_Ef S k k2) (hS : S.all (fun x => decide (x < 630)) = true) : z_A h k2 b B a l t s u := by
  obtain ⟨X, N, H, M⟩ := Z
  have n1 : ∀ x, 630 ≤ x → x ∉ S := by
    intro x hx h3
    have := List.all_eq_true.mp hS x h3
    simp only [decide_eq_true_eq] at this
    omega
  have i0 : qI k2 630 = qI k 630 := e.I (n1 630 (by decide))
  refine ⟨?_, N.fr e ?_ (fun i _ => congrFun i0 _), H.same (Nat.le_refl _) rfl rfl (congrFun i0 _) (congrFun i0 _) (e.A (n1 692 (by decide))), ?_⟩
  · rw [e.A (n1 691 (by decide))]
    exact X
  · refine List.all_eq_true.mpr (fun x hx => ?_)
    have := List.all_eq_true.mp hS x hx
    simp only [decide_eq_true_eq] at this
    simp only [Bool.or_eq_true, decide_eq_true_eq]
    exact Or.inl (Or.inr this)
  · unfold z_M
    rw [i0, e.A (n1 697 (by decide)), e.A (n1 698 (by decide))]
    exact M
def z_f (h h' : q_Hp) : Prop := q_Ef [598, 599, 600, 601, 602, 603, 604, 605, 606, 607, 608, 609, 610, 611, 612, 613] h h'
def z_g (k k' : q_Hp) : Prop := q_Ef [630, 691, 692, 695, 696, 697, 698, 699, 700, 701, 702] k k' ∧ ∀ j, ¬ (j = 91 ∨ j = 92 ∨ j = 95 ∨ j = 96 ∨ j = 99) → qI k' 630 j = qI k 630 j
theorem z_M.same {h k h' k' : q_Hp} (M : z_M h k) (e1 : qI h' 601 14 = qI h 601 14) (e2 : qI h' 601 15 = qI h 601 15) (e3 : qI k' 630 95 = qI k 630 95) (e4 : qI k' 630 96 = qI k 630 96) (e5 : qA h' 608 = qA h 608) (e6 : qA h' 609 = qA h 609) (e7 : qA k' 697 = qA k 697) (e8 : qA k' 698 = qA k 698) : z_M h' k' := by
  unfold z_M
  rw [e1, e2, e3, e4, e5, e6, e7, e8]
  exact M
/-- book and diagram behind a change of the row -/
theorem c_X.row {S : List Nat} {h h' : q_Hp} {b : Nat} {B : q_Bk} {g g' : Nat → Int32} (a : c_X h b B g) (e : q_Ef S h h') (hS : S.all (fun x => decide (597 < x)) = true) (D : q_dg (bN B 0) (bN B 1) (qA h' 598) g') : c_X h' b B g' := by
  obtain ⟨S0, hb, w, cB, _⟩ := a
  have hbb : b = 11 ∨ b = 300 := hb
  have n1 : ∀ x, x ≤ 597 → x ∉ S := fun x hx => q_nin hS hx
  exact ⟨e.sh S0, hb, w, cB.fr hb w (fun a h1 h2 => e.A (n1 _ (by omega))) (fun a h1 h2 => e.I (n1 _ (by omega))), D⟩
theorem n_X.row {S : List Nat} {h h' : q_Hp} {B : q_Bk} {f f' : Nat → Int32} (a : n_X h B f) (e : q_Ef S h h') (hS : S.all (fun x => decide (x ≤ 630) || decide (673 < x)) = true) (hi : ∀ i, i < 4 → qI h' 630 (24 + i) = qI h 630 (24 + i)) (D : q_dg (bN B 0) (bN B 1) f' (qA h' 691)) : n_X h' B f' := by
  obtain ⟨S0, w, mB, _⟩ := a
  have n1 : ∀ x, 638 ≤ x → x ≤ 673 → x ∉ S := by
    intro x h1 h2 h3
    have := List.all_eq_true.mp hS x h3
    simp only [Bool.or_eq_true, decide_eq_true_eq] at this
    omega
  exact ⟨e.sh S0, w, mB.fr (fun x h1 h2 => e.A (n1 x h1 (by omega))) hi, D⟩
theorem z_once {h k0 : q_Hp} {b r : Nat} {B : q_Bk} {a l t s u : Nat} (hr : r < bN B 2) (hu : u < 2 ^ 20) (Z0 : z_A h k0 b B a l t s u) : q_mI 5 118 [.ref 610, .ref b, .int (nI r)] h (fun z h' => z_f h h' ∧ ∃ a' l' t' s', ((z = 1 ∧ a' = a + 1 ∧ s' = s + 1) ∨ ((z = 0 ∨ z = 2) ∧ a' = a ∧ l' = l ∧ t' = t ∧ s' = s ∧ qA h' 598 = qA h 598)) ∧ ∀ k, z_A h k b B a l t s u → q_mI 5 328 [.ref 630, .int (nI r)] k (fun z' k' => z_g k k' ∧ z' = (if z = 2 then -3 else z) ∧ z_A h' k' b B a' l' t' s' (u + 1))) := by
  obtain ⟨X0, N0, H0, M0⟩ := Z0
  obtain ⟨p1, p2, p3, p4, p5, p6, p7, p8, p9, p10, p11⟩ := H0
  have w := X0.2.2.1
  have wr : q_wR B (bR B r) := w.2.2.2.2.2.2.2.2.2.2 r hr
  refine (s118 X0 hr p5 p6 p7 (by omega) p8).mono (Nat.le_refl _) ?_
  rintro z h' ⟨e, hz⟩
  have e' : z_f h h' := e.wide (by decide)
  have zz : ∀ k, z_A h k b B a l t s u → q_mI 5 328 [.ref 630, .int (nI r)] k (fun z' k' => (q_Ef [630, 691, 692, 695, 696, 697, 698, 699, 700, 701] k k' ∧ ∀ j, ¬ (j = 91 ∨ j = 92 ∨ j = 95 ∨ j = 96 ∨ j = 99) → qI k' 630 j = qI k 630 j) ∧ _) := fun k Z => s328 (f := qA h 598) Z.2.1 hr Z.2.2.1.1 Z.2.2.1.2.1 Z.2.2.1.2.2.1 (by have := Z.2.2.1.2.2.2.2.2.2.2.2.1; have := Z.2.2.1.2.2.2.2.2.2.2.2.2.1; omega)
  rcases hz with ⟨rfl, c1, ea⟩ | ⟨v, L, c1, ma, c600, ⟨rfl, nok, c598, c599, c14, c15, c608, c609⟩ | ⟨rfl, ok, c598, i2, i3, i4, L', mh, a14, a15, a608, a609⟩⟩
  · refine ⟨e', a, l, t, s, Or.inr ⟨Or.inl rfl, rfl, rfl, rfl, rfl, ea.A (by decide)⟩, fun k Z => (zz k Z).mono (Nat.le_refl _) ?_⟩
    rintro z' k' ⟨e2, hz'⟩
    rcases hz' with ⟨rfl, _, eb⟩ | ⟨v, L, d1, _⟩
    · refine ⟨⟨e2.1.wide (by decide), e2.2⟩, rfl, ?_, ?_, ?_, ?_⟩
      · rw [eb.A (show 691 ∉ [630, 695, 696, 699] by decide)]
        exact Z.1.fr ea.1 (by decide)
      · rw [ea.A (show 598 ∉ [601, 602, 603, 604, 605, 606, 607] by decide)]
        exact Z.2.1.of eb
      · exact Z.2.2.1.same (by omega) (ea.I (by decide)) (ea.A (by decide)) (eb.2 91 (by decide)) (eb.2 92 (by decide)) (eb.A (by decide))
      · exact Z.2.2.2.same ea.2.1 ea.2.2 (eb.2 95 (by decide)) (eb.2 96 (by decide)) (ea.A (by decide)) (ea.A (by decide)) (eb.A (by decide)) (eb.A (by decide))
    · rw [c1] at d1
      cases d1
  · refine ⟨e', a, l, t, s, Or.inr ⟨Or.inr rfl, rfl, rfl, rfl, rfl, c598⟩, fun k Z => (zz k Z).mono (Nat.le_refl _) ?_⟩
    rintro z' k' ⟨e2, hz'⟩
    rcases hz' with ⟨_, d1, _⟩ | ⟨v', L'', d1, ma', d692, hz'⟩
    · rw [c1] at d1
      cases d1
    · rw [c1] at d1
      cases d1
      rcases hz' with ⟨rfl, _, d691, di, d697, d698⟩ | ⟨_, ok, _⟩
      · refine ⟨⟨e2.1.wide (by decide), e2.2⟩, rfl, ?_, ?_, ?_, ?_⟩
        · refine Z.1.row e rfl ?_
          rw [c598, d691]
          exact Z.1.2.2.2.2
        · refine Z.2.1.row e2.1 rfl (fun i hi => di _ (by omega)) ?_
          rw [c598, d691]
          exact Z.1.2.2.2.2
        · exact Z.2.2.1.not (by omega) c599 c600 (di 91 (by decide)) (di 92 (by decide)) d692
        · exact Z.2.2.2.same c14 c15 (di 95 (by decide)) (di 96 (by decide)) c608 c609 d697 d698
      · exact absurd ok nok
  · refine ⟨e', a + 1, if a - l = 100 then l + 1 else l, (t + 1) % 101, s + 1, Or.inl ⟨rfl, rfl, rfl⟩, fun k Z => (zz k Z).mono (Nat.le_refl _) ?_⟩
    rintro z' k' ⟨e2, hz'⟩
    rcases hz' with ⟨_, d1, _⟩ | ⟨v', L'', d1, ma', d692, hz'⟩
    · rw [c1] at d1
      cases d1
    · rw [c1] at d1
      cases d1
      obtain rfl := m_rl_one ma mh
      obtain rfl := m_rl_one ma' mh
      rcases hz' with ⟨_, nok, _⟩ | ⟨rfl, _, d691, j91, j92, j95, j96, d697, d698⟩
      · exact absurd ok nok
      · have D2 := ((m_iv_all (val := m_vl B (qA h 598) (m_im (bR B r 0 0) v) (bR B r)) Z.1.2.2.2.2 w wr (fun i _ => m_im_lt) ma ok.2 (bR B r 0 4) (Nat.le_refl _)).1).1
        refine ⟨⟨e2.1.wide (by decide), e2.2⟩, rfl, ?_, ?_, ?_, ?_⟩
        · refine Z.1.row e rfl ?_
          rw [c598, d691]
          exact D2
        · refine Z.2.1.row e2.1 rfl (fun i hi => e2.2 _ (by omega)) ?_
          rw [c598, d691]
          exact D2
        · exact Z.2.2.1.done Z.1.2.2.2.2 i2 i3 i4 c600 j91 j92 d692
        · refine ⟨bR B r 0 0, bR B r 0 1, wr.1, wr.2.1, a14, j95, a15, j96, fun i hi => ?_, fun i hi => ?_⟩
          · rw [a608 i hi, d697 i hi]
          · rw [a609 i hi, d698 i hi]
/-- the relation out of its pieces -/
theorem r_Q.put {W K : Nat → Int64} {h h' : q_Hp} {u u' b : Nat} {B : q_Bk} {a l t s a' l' t' s' : Nat} (Q : r_Q W K h u b B a l t s) (e : q_Ef [598, 599, 600, 601, 602, 603, 604, 605, 606, 607, 608, 609, 610, 611, 612, 613, 630, 691, 692, 695, 696, 697, 698, 699, 700, 701, 702] h h') (e6 : ∀ j, ¬ (j = 91 ∨ j = 92 ∨ j = 95 ∨ j = 96 ∨ j = 99) → qI h' 630 j = qI h 630 j) (Z : z_A h' h' b B a' l' t' s' u') (X : r_X h' b B a' s' u') : r_Q W K h' u' b B a' l' t' s' := by
  obtain ⟨S, q1, q2, q3, q4, hb, q5, w, q6, q7, q8, q9, q10, q11⟩ := Q
  have n1 : ∀ x, x ≤ 597 → x ∉ [598, 599, 600, 601, 602, 603, 604, 605, 606, 607, 608, 609, 610, 611, 612, 613, 630, 691, 692, 695, 696, 697, 698, 699, 700, 701, 702] := fun x hx => q_nin (k := 597) rfl hx
  have n2 : ∀ x, (631 ≤ x ∧ x ≤ 690) ∨ x = 693 ∨ x = 694 ∨ (614 ≤ x ∧ x ≤ 629) → x ∉ [598, 599, 600, 601, 602, 603, 604, 605, 606, 607, 608, 609, 610, 611, 612, 613, 630, 691, 692, 695, 696, 697, 698, 699, 700, 701, 702] := by
    intro x h1
    simp only [List.mem_cons, List.not_mem_nil, or_false]
    omega
  refine ⟨e.sh S, ?_, ?_, ?_, Z.2.2.2, hb, ?_, w, Z.1.2.2.2.1, Z.2.1.2.2.1, Z.1.2.2.2.2, Z.2.2.1, ?_, X⟩
  · unfold r_C
    rw [e.L (n1 4 (by decide)), e.L (n2 637 (by decide))]
    exact q1
  · unfold r_T
    rw [e.I (n1 1 (by decide)), e6 2 (by decide), e.A (n1 2 (by decide)), e.A (n2 631 (by decide))]
    exact q2
  · unfold r_P
    rw [e.I (n1 1 (by decide)), e6 17 (by decide)]
    exact q3
  · rw [e.R (n1 1 (by decide))]
    exact q5
  · unfold r_K
    rw [e.A (n2 621 (by decide)), e.A (n2 694 (by decide)), e.A (n2 620 (by decide)), e.A (n2 693 (by decide))]
    exact q10
theorem r_Q.zA {W K : Nat → Int64} {h : q_Hp} {u b : Nat} {B : q_Bk} {a l t s : Nat} (Q : r_Q W K h u b B a l t s) : z_A h h b B a l t s u := by
  have c := Q.cX
  have n := Q.nX
  obtain ⟨S, q1, q2, q3, q4, hb, q5, w, q6, q7, q8, q9, q10, q11⟩ := Q
  exact ⟨c, n, q9, q4⟩
/-- more may have been applied -/
theorem r_X.up {h : q_Hp} {b : Nat} {B : q_Bk} {a s u u' : Nat} (X : r_X h b B a s u) (hu : u ≤ u') : r_X h b B a s u' := by
  refine ⟨X.1, X.2.1, fun h4 => ?_⟩
  obtain ⟨r, d, kd, op, tu, nx, ap, bg, lv, F⟩ := X.2.2 h4
  refine ⟨r, d, kd, op, tu, nx, ap, bg, lv, ?_⟩
  obtain ⟨f1, f2, f3, f4, f5, f6, f7, f8, f9, f10⟩ := F
  refine ⟨f1, f2, f3, f4, f5, f6, f7, f8, fun f hf => ?_, f10⟩
  obtain ⟨g1, g2, g3, g4, g5, g6, g7, g8, g9, g10⟩ := f9 f hf
  exact ⟨g1, g2, g3, g4, g5, g6, g7, g8, by omega, g10⟩
theorem r_Q.up {W K : Nat → Int64} {h : q_Hp} {u u' b : Nat} {B : q_Bk} {a l t s : Nat} (Q : r_Q W K h u b B a l t s) (hu : u ≤ u') : r_Q W K h u' b B a l t s := by
  obtain ⟨S, q1, q2, q3, q4, hb, q5, w, q6, q7, q8, q9, q10, q11⟩ := Q
  obtain ⟨h1, h2, h3, h4, h5, h6, h7, h8, h9, h10, h11⟩ := q9
  exact ⟨S, q1, q2, q3, q4, hb, q5, w, q6, q7, q8, ⟨h1, h2, h3, h4, h5, h6, h7, h8, h9, by omega, h11⟩, q10, q11.up hu⟩
theorem r_apply {W K : Nat → Int64} {u : Nat} (hu : u < 2 ^ 20) {x : Int32} : r_I W K 225 330 [.int x] u (u + 1) := by
  rintro h R
  obtain ⟨b, B, a, l, t, s, Q⟩ := R
  have S := Q.1
  have X := Q.cX
  have w := X.2.2.1
  have h20 : bN B 2 ≤ 20 := w.2.2.1
  have hb := X.2.1
  have hgo := Q.go
  have same : ∀ z : Int32, z = -1 → (r_go h = true ∨ q_rg x (bN B 2) = false) → q_mI 40 330 [.ref 630, .int x] h (fun z' h2 => z' = z ∧ r_R W K h2 (u + 1)) := by
    intro z hz hc
    refine (q_mI.of (n := 6) (q_recV rfl (S.ok rfl)) (fun Q' fin => ?_)).mono (by decide) (fun _ _ p => p)
    refine b330_0 (s321 S (Q.nX.2.2.1.1 2 (by decide))) (by decide) ?_
    rintro z1 h1 ⟨e0, rfl⟩
    subst h1
    refine b330_5 (fun _ => b330_15 (b330_24 (fin _ _ ⟨hz.symm, b, B, a, l, t, s, Q.up (by omega)⟩))) (fun c1 => b330_8 (s298 S) (by decide) ?_)
    rintro z1 h1 ⟨e0, rfl⟩
    subst h1
    refine b330_12 (fun c2 => ?_) (fun _ => b330_15 (b330_24 (fin _ _ ⟨hz.symm, b, B, a, l, t, s, Q.up (by omega)⟩)))
    rcases hc with hc | hc
    · rw [← hgo] at hc
      rw [show (qI h 630 104 == 4) = true from hc] at c2
      exact absurd c2 (by decide)
    · rw [b2i_ne.mp c1] at hc
      cases hc
  refine (q_mI.of (n := 6) (q_recV rfl (S.ok rfl)) (fun Q' fin => ?_)).mono (by decide) (fun _ _ p => p)
  refine b225_0 (S.ok rfl) (S.ref (v := 614) rfl) (s139 S) (by decide) ?_
  rintro z h1 ⟨e0, rfl⟩
  subst h1
  refine b225_7 (fun c1 => b225_21 (fin _ _ (same _ rfl (Or.inl (b2i_ne.mp c1))))) (fun c1 => b225_10 (S.ok rfl) Q.b5 (s4 (S.bo hb) (X.2.2.2.1.1 2 (by decide)) h20) (by decide) ?_)
  rintro z h1 ⟨e0, rfl⟩
  subst h1
  refine b225_18 (fun c2 => ?_) (fun c2 => b225_21 (fin _ _ (same _ rfl (Or.inr (b2i_eq.mp c2)))))
  obtain ⟨r, hr, rfl⟩ := (q_rg_ex (by omega)).mp (b2i_ne.mp c2)
  refine b225_23 (S.ok rfl) (S.ref (v := 610) rfl) Q.b5 (z_once hr hu Q.zA) (by decide) ?_
  rintro z h1 ⟨e1, a', l', t', s', ho, hk⟩
  have Zk : z_A h h1 b B a l t s u := Q.zA.r e1 rfl
  have i630 : qI h1 630 = qI h 630 := e1.I (by decide)
  have S1 := e1.sh S
  -- the reference behind it
  have ref : ∀ z9 : Int32, z9 = (if z = 2 then -3 else z) → q_mI 40 330 [.ref 630, .int (nI r)] h1 (fun z' h2 => z' = z9 ∧ r_R W K h2 (u + 1)) := by
    intro z9 hz9
    refine (q_mI.of (n := 6) (q_recV rfl (S1.ok rfl)) (fun Q' fin => ?_)).mono (by decide) (fun _ _ p => p)
    have m26 : qI h1 630 26 = nI (bN B 2) := by rw [i630]; exact Q.nX.2.2.1.1 2 (by decide)
    refine b330_0 (s321 S1 m26) (by decide) ?_
    rintro z1 h2 ⟨e0, rfl⟩
    subst h2
    refine b330_5 (fun c3 => ?_) (fun _ => b330_8 (s298 S1) (by decide) ?_)
    · rw [q_rgN hr (by omega)] at c3
      exact absurd c3 (by decide)
    rintro z1 h2 ⟨e0, rfl⟩
    subst h2
    have g0 : (qI h1 630 104 == 4) = false := by
      rw [i630, show (qI h 630 104 == 4) = r_go h from hgo]
      exact b2i_eq.mp c1
    refine b330_12 (fun _ => b330_19 (hk h1 Zk) (by decide) ?_) (fun c4 => absurd (by rw [g0]; rfl) c4)
    rintro z2 h2 ⟨e2, hz2, Z2⟩
    have ea : q_Ef [598, 599, 600, 601, 602, 603, 604, 605, 606, 607, 608, 609, 610, 611, 612, 613, 630, 691, 692, 695, 696, 697, 698, 699, 700, 701, 702] h h2 := (e1.wide (by decide)).trans (e2.1.wide (by decide))
    have e6 : ∀ j, ¬ (j = 91 ∨ j = 92 ∨ j = 95 ∨ j = 96 ∨ j = 99) → qI h2 630 j = qI h 630 j := fun j hj => (e2.2 j hj).trans (congrFun i630 j)
    refine b330_24 (fin _ _ ⟨hz2.trans hz9.symm, b, B, a', l', t', s', Q.put ea e6 (Z2.l e2.1 rfl) ⟨?_, ?_, fun h4 => ?_⟩⟩)
    · have x1 := Q.2.2.2.2.2.2.2.2.2.2.2.2.2.1
      rw [ea.I (show 614 ∉ [598, 599, 600, 601, 602, 603, 604, 605, 606, 607, 608, 609, 610, 611, 612, 613, 630, 691, 692, 695, 696, 697, 698, 699, 700, 701, 702] by decide), e6 104 (by decide)]
      exact x1
    · have x1 := Q.2.2.2.2.2.2.2.2.2.2.2.2.2.2.1
      rw [ea.I (show 614 ∉ [598, 599, 600, 601, 602, 603, 604, 605, 606, 607, 608, 609, 610, 611, 612, 613, 630, 691, 692, 695, 696, 697, 698, 699, 700, 701, 702] by decide), e6 105 (by decide)]
      exact x1
    · exfalso
      have x1 := Q.2.2.2.2.2.2.2.2.2.2.2.2.2.1
      rw [ea.I (show 614 ∉ [598, 599, 600, 601, 602, 603, 604, 605, 606, 607, 608, 609, 610, 611, 612, 613, 630, 691, 692, 695, 696, 697, 698, 699, 700, 701, 702] by decide)] at h4
      have : r_go h = true := by
        unfold r_go
        rw [h4]
        rfl
      have c5 := b2i_eq.mp c1
      rw [this] at c5
      cases c5
  refine b225_35 (fun c3 => b225_44 (fun c4 => b225_53 (fin _ _ (ref _ ?_))) (fun c4 => b225_49 (fin _ _ (ref _ ?_)))) (fun c3 => b225_41 (fin _ _ (ref _ ?_)))
  · rcases ho with ⟨h9, _⟩ | ⟨h9 | h9, _⟩
    · exact absurd h9 c4
    · rw [h9]; rfl
    · exact absurd h9 c3
  · rw [c4]; rfl
  · rw [c3]; rfl
