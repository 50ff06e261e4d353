/-! BEGIN keeps the relation -/
theorem s144 {h : q_Hp} {b p t kk s w : Nat} {B : q_Bk} (S : q_Sh h) (hb : q_isB b) (wB : q_wB B) (cB : r_cB h b B) (hp : p < bN B 3) (ht : qI h 599 2 = nI t) (hk : qI h 599 3 = nI kk) (hs : qI h 599 4 = nI s) (t1 : t < 101) (k1 : kk ≤ 100) (s1 : s < 2 ^ 20) (g : r_go h = true → qA h 618 0 = nI w ∧ w ≤ s) : q_mV 4 144 [.ref 614, .ref b, .int (nI p)] h (fun h6 => ∃ h1 h5, ((r_go h = false ∧ h1 = h) ∨ (r_go h = true ∧ q_Ef [598, 599] h h1 ∧ qI h1 599 2 = nI (q_back t (s - w)) ∧ qI h1 599 3 = nI (kk - (s - w)) ∧ qI h1 599 4 = nI w ∧ qA h1 598 = va_cpy (qA h 619) (qA h 598) (0 * 156) 0 156)) ∧ h5 = q_sI (q_sI (q_sI (q_sI (q_sR h1 614 3 b) 614 4 4) 614 5 0) 614 7 0) 614 8 0 ∧ x_op h5 h6 0 0 (-1) (oN (bP B p))) := by
  have h10 : bN B 3 ≤ 10 := wB.2.2.2.1
  have hbb : b = 11 ∨ b = 300 := hb
  refine q_mV.of (q_recV rfl (S.ok rfl)) (fun Q fin => ?_)
  have go12 : ∀ h1, q_Ef [598, 599] h h1 → ((r_go h = false ∧ h1 = h) ∨ (r_go h = true ∧ q_Ef [598, 599] h h1 ∧ qI h1 599 2 = nI (q_back t (s - w)) ∧ qI h1 599 3 = nI (kk - (s - w)) ∧ qI h1 599 4 = nI w ∧ qA h1 598 = va_cpy (qA h 619) (qA h 598) (0 * 156) 0 156)) → q_wp 4 144 12 [some (.ref 614), some (.ref b), some (.int (nI p))] [] h1 Q := by
    intro h1 e1 hc
    have S1 := e1.sh S
    have e5 : q_Ef [614] h1 (q_sI (q_sI (q_sI (q_sI (q_sR h1 614 3 b) 614 4 4) 614 5 0) 614 7 0) 614 8 0) := ((((q_Ef.sR (by decide) rfl).trans (q_Ef.sI (by decide))).trans (q_Ef.sI (by decide))).trans (q_Ef.sI (by decide))).trans (q_Ef.sI (by decide))
    have i7 : qI (q_sI (q_sI (q_sI (q_sI (q_sR h1 614 3 b) 614 4 4) 614 5 0) 614 7 0) 614 8 0) 614 7 = nI 0 := rfl
    have S5 := e5.sh S1
    have n5 : ∀ x, x ≤ 597 → x ∉ [614] := fun x hx => by
      simp only [List.mem_cons, List.not_mem_nil, or_false]
      omega
    have n1 : ∀ x, x ≤ 597 → x ∉ [598, 599] := fun x hx => by
      simp only [List.mem_cons, List.not_mem_nil, or_false]
      omega
    refine b144_12 (v0 := b) (S1.ok rfl) rfl (s10 S5 hb (by rw [e5.I (n5 b (by omega)), e1.I (n1 b (by omega))]; exact cB.1 3 (by decide)) h10) (by decide) ?_
    rintro z h2 ⟨e0, rfl⟩
    subst h2
    rw [c_at_n hp (by omega), e5.A (n5 (b + 5) (by omega)), e1.A (n1 (b + 5) (by omega)), cB.2.2.2.1 p hp]
    refine b144_48 (s147 (K := 0) S5 i7 (by decide) (by decide)) (by decide) ?_
    rintro h6 o
    exact b144_51 (fin _ ⟨h1, _, hc, rfl, o⟩)
  refine b144_0 (s139 S) (by decide) ?_
  rintro z h2 ⟨e0, rfl⟩
  subst h2
  cases hg : r_go h with
  | false => exact b144_4 (fun _ => go12 h q_Ef.rf (Or.inl ⟨hg, rfl⟩)) (fun c => absurd rfl c)
  | true =>
    obtain ⟨g1, g2⟩ := g hg
    refine b144_4 (fun c => absurd c (by decide)) (fun _ => b144_7 (s149 (f := 0) S (by decide) g1 ht hk hs t1 k1 g2 s1) (by decide) ?_)
    rintro h1 ⟨e1, i2, i3, i4, a5⟩
    exact go12 h1 e1 (Or.inr ⟨hg, e1, i2, i3, i4, a5⟩)
/-- the reference's first frame -/
def n_p0 (k ks : q_Hp) (z : Int32) : Prop := q_Ef [630, 703, 704, 705, 706, 707, 708, 709] k ks ∧ (∀ j, qI ks 630 j = upd (qI k 630) 106 (nI (0 + 1)) j) ∧ qA ks 703 = upd (qA k 703) 0 0 ∧ qA ks 704 = upd (qA k 704) 0 (-1) ∧ qA ks 705 = upd (qA k 705) 0 z ∧ qA ks 706 = upd (qA k 706) 0 0 ∧ qA ks 707 = upd (qA k 707) 0 1 ∧ qA ks 708 = upd (qA k 708) 0 (qI k 630 91) ∧ qA ks 709 = va_cpy (qA k 691) (qA k 709) 0 (156 * 0) 156
theorem s335 {k : q_Hp} {p w l : Nat} {B : q_Bk} (S : q_Sh k) (wB : q_wB B) (mB : r_mB k B) (hp : p < bN B 3) (g : m_go k = true → qA k 708 0 = nI w ∧ qI k 630 92 = nI l ∧ w < 2 ^ 30 ∧ l < 2 ^ 30) : q_mI 4 335 [.ref 630, .int (nI p)] k (fun z k6 => z = 1 ∧ ∃ k1, ((m_go k = false ∧ k1 = k) ∨ (m_go k = true ∧ q_Ef [630, 691] k k1 ∧ (∀ j, qI k1 630 j = upd (upd (qI k 630) 91 (nI w)) 92 (nI (min l w)) j) ∧ qA k1 691 = va_cpy (qA k 709) (qA k 691) (156 * 0) 0 156)) ∧ n_p0 (q_sI (q_sI (q_sI k1 630 106 0) 630 105 0) 630 104 4) k6 (oN (bP B p))) := by
  have h10 : bN B 3 ≤ 10 := wB.2.2.2.1
  refine q_mI.of (q_recV rfl (S.ok rfl)) (fun Q fin => ?_)
  have ce : (nI p : Int32).toNatClampNeg = p := nI_clamp (by omega)
  have go26 : ∀ k1, q_Ef [630, 691] k k1 → ((m_go k = false ∧ k1 = k) ∨ (m_go k = true ∧ q_Ef [630, 691] k k1 ∧ (∀ j, qI k1 630 j = upd (upd (qI k 630) 91 (nI w)) 92 (nI (min l w)) j) ∧ qA k1 691 = va_cpy (qA k 709) (qA k 691) (156 * 0) 0 156)) → q_wp 4 335 26 [some (.ref 630), some (.int (nI p))] [] k1 Q := by
    intro k1 e1 hc
    have S1 := e1.sh S
    have S5 : q_Sh (q_sI (q_sI (q_sI k1 630 106 0) 630 105 0) 630 104 4) := S1
    have i6 : qI (q_sI (q_sI (q_sI k1 630 106 0) 630 105 0) 630 104 4) 630 106 = nI 0 := rfl
    refine b335_26 (v0 := 673) (S1.ok rfl) (S1.ref rfl) (S1.ok rfl) (S1.inN (n := 20) rfl (by omega) (by decide)) (s332 (x := 0) (y := -1) S5 i6 (by decide)) (by decide) ?_
    rintro k6 ⟨e6, ei, b3, b4, b5, b6, b7, b8, b9⟩
    rw [ce, e1.A (show 673 ∉ [630, 691] by decide), mB.2.2.2.1 p hp] at b5
    exact b335_53 (fin _ _ ⟨rfl, k1, hc, e6, ei, b3, b4, b5, b6, b7, b8, b9⟩)
  refine b335_0 (fun c => absurd c (nI_pos (by omega))) (fun _ => b335_4 (S.ok rfl) (fun _ => b335_14 (s298 S) (by decide) ?_) (fun c => absurd (by rw [show qI k 630 27 = nI (bN B 3) from mB.1 3 (by decide)]; exact (nI_ltI (by omega) (by omega)).mpr hp) c))
  rintro z h2 ⟨e0, rfl⟩
  subst h2
  cases hg : m_go k with
  | false =>
    have hg' : (qI k 630 104 == 4) = false := hg
    rw [hg']
    exact b335_18 (fun _ => go26 k q_Ef.rf (Or.inl ⟨hg, rfl⟩)) (fun c => absurd rfl c)
  | true =>
    have hg' : (qI k 630 104 == 4) = true := hg
    rw [hg']
    obtain ⟨g1, g2, g3, g4⟩ := g hg
    refine b335_18 (fun c => absurd c (by decide)) (fun _ => b335_21 (s334 (f := 0) S (by decide) g1 g2 g3 g4) (by decide) ?_)
    rintro k1 ⟨e1, ei, a1⟩
    exact go26 k1 e1 (Or.inr ⟨hg, e1, ei, a1⟩)
theorem r_begin {W K : Nat → Int64} {u : Nat} (hu : u < 2 ^ 20) {x : Int32} : r_I W K 226 335 [.int x] u u := by
  rintro h R
  obtain ⟨b, B, a, l, t, s, Q⟩ := R
  have Q0 := Q
  have S := Q.1
  have hgo := Q.go
  have Z0 := Q.zA
  have nX := Z0.2.1
  have mB := nX.2.2.1
  have wB := nX.2.1
  have h10 : bN B 3 ≤ 10 := wB.2.2.2.1
  have hb := Z0.1.2.1
  have cB := Z0.1.2.2.2.1
  obtain ⟨p1, p2, p3, p4, p5, p6, p7, p8, p9, p10, p11⟩ := Z0.2.2.1
  refine (q_mI.of (n := 6) (q_recV rfl (S.ok rfl)) (fun Q' fin => ?_)).mono (by decide) (fun _ _ p => p)
  refine b226_0 (S.ok rfl) Q.b5 (s5 (S.bo hb) (cB.1 3 (by decide)) h10) (by decide) ?_
  rintro z1 h1 ⟨e0, rfl⟩
  subst h1
  refine b226_8 (fun c => ?_) (fun c => b226_11 (fin _ _ ?_))
  rotate_left 1
  · have hx := b2i_eq.mp c
    refine (q_mI.of (n := 4) (q_recV rfl (S.ok rfl)) (fun Q9 fin9 => ?_)).mono (by decide) (fun _ _ p => p)
    have last : q_wp 4 335 12 [some (.ref 630), some (.int x)] [] h Q9 := b335_12 (fin9 _ _ ⟨rfl, b, B, a, l, t, s, Q⟩)
    refine b335_0 (fun _ => last) (fun c1 => b335_4 (S.ok rfl) (fun c2 => ?_) (fun _ => last))
    exfalso
    rw [show qI h 630 27 = nI (bN B 3) from mB.1 3 (by decide)] at c2
    rw [q_rg_in' rfl c1 c2] at hx
    cases hx
  obtain ⟨p, hp, rfl⟩ := (q_rg_ex (by omega)).mp (b2i_ne.mp c)
  -- what a run that went on has noted at first
  obtain ⟨w, hw⟩ : ∃ w, r_go h = true → w ≤ a ∧ qA h 618 0 = nI (w + (s - a)) ∧ qA h 708 0 = nI w ∧ q_dg (bN B 0) (bN B 1) (fun i => qA h 619 (0 * 156 + i)) (fun i => qA h 709 (156 * 0 + i)) := by
    by_cases hg : r_go h = true
    · have h4 : qI h 614 4 = 4 := by
        unfold r_go at hg
        exact eq_of_beq hg
      obtain ⟨lev, ⟨d, kd, op, tu, nx, ap, lv, bg⟩, ZZ⟩ := Q.zZ h4
      obtain ⟨⟨X, ZA, L, A, G, N, D⟩, _, _⟩ := ZZ.run h4
      have d1 := A.1
      have m5 := (N.2 0 (by omega)).2.2.2.2.1
      exact ⟨ap 0, fun _ => ⟨(A.2.2.2.2.1 0 (by omega)).2.2.2.2.2.1, (G.2.2 0 (by omega)).2.2.2 (Or.inl rfl), m5, D 0 (by omega) (Or.inl rfl)⟩⟩
    · exact ⟨0, fun h9 => absurd h9 hg⟩
  refine b226_13 (S.ok rfl) (S.ref (v := 614) rfl) Q.b5 (s144 (w := w + (s - a)) S hb wB cB hp p5 p7 p8 p6 (by omega) (by omega) (fun hg => ⟨(hw hg).2.1, by have := (hw hg).1; omega⟩)) (by decide) ?_
  rintro h6 ⟨h1, h5, hc, e5, o⟩
  obtain ⟨o1, o2, o3, o4, o5, o6, o7, o8⟩ := o
  refine b226_25 (fin _ _ ?_)
  have e1 : q_Ef [598, 599] h h1 := by
    rcases hc with ⟨_, rfl⟩ | ⟨_, e, _⟩
    · exact q_Ef.rf
    · exact e
  have f5 : q_Ef [614] h1 h5 := by
    rw [e5]
    exact ((((q_Ef.sR (by decide) rfl).trans (q_Ef.sI (by decide))).trans (q_Ef.sI (by decide))).trans (q_Ef.sI (by decide))).trans (q_Ef.sI (by decide))
  have r5 : qR h5 614 3 = b := by rw [e5]; rfl
  have i8 : qI h5 614 8 = 0 := by rw [e5]; rfl
  have i4 : qI h5 614 4 = 4 := by rw [e5]; rfl
  have i5 : qI h5 614 5 = 0 := by rw [e5]; rfl
  clear e5
  have eh : q_Ef [598, 599, 614, 615, 616, 617, 618, 619] h h6 := ((e1.wide (by decide)).trans (f5.wide (by decide))).trans (o1.wide (by decide))
  have S6 := eh.sh S
  have i630 : qI h6 630 = qI h 630 := eh.I (by decide)
  have nn : ∀ x, 620 ≤ x → x ∉ [598, 599, 614, 615, 616, 617, 618, 619] := by
    intro x hx
    simp only [List.mem_cons, List.not_mem_nil, or_false]
    omega
  have mB6 : r_mB h6 B := mB.fr (fun x h1 h2 => eh.A (nn x (by omega))) (fun i hi => by rw [i630])
  have go6 : m_go h6 = r_go h := by
    unfold m_go
    rw [i630]
    exact hgo
  refine (s335 (w := w) (l := l) S6 wB mB6 hp (fun hg => ?_)).mono (by decide) ?_
  · rw [go6] at hg
    rw [eh.A (nn 708 (by decide)), i630]
    exact ⟨(hw hg).2.2.1, p2, by have := (hw hg).1; omega, by omega⟩
  rintro z k6 ⟨rfl, k1, hd, n0⟩
  obtain ⟨ek6, ei, b3, b4, b5, b6, b7, b8, b9⟩ := n0
  have ek1 : q_Ef [630, 691] h6 k1 := by
    rcases hd with ⟨_, rfl⟩ | ⟨_, e, _⟩
    · exact q_Ef.rf
    · exact e
  have ek5 : q_Ef [630] k1 (q_sI (q_sI (q_sI k1 630 106 0) 630 105 0) 630 104 4) := ((q_Ef.sI (by decide)).trans (q_Ef.sI (by decide))).trans (q_Ef.sI (by decide))
  have j5 : ∀ j, qI (q_sI (q_sI (q_sI k1 630 106 0) 630 105 0) 630 104 4) 630 j = upd (upd (upd (qI k1 630) 106 0) 105 0) 104 4 j := fun j => by rw [qI_sIu, qI_sIu, qI_sIu]
  generalize q_sI (q_sI (q_sI k1 630 106 0) 630 105 0) 630 104 4 = k5 at ek5 j5 ek6 ei b3 b4 b5 b6 b7 b8 b9
  have ekk : q_Ef [630, 691, 703, 704, 705, 706, 707, 708, 709] h6 k6 := ((ek1.wide (by decide)).trans (ek5.wide (by decide))).trans (ek6.wide (by decide))
  have ea : q_Ef [598, 599, 600, 601, 602, 603, 604, 605, 606, 607, 608, 609, 610, 611, 612, 613, 614, 615, 616, 617, 618, 619, 630, 691, 692, 695, 696, 697, 698, 699, 700, 701, 702, 703, 704, 705, 706, 707, 708, 709] h k6 := (eh.wide (by decide)).trans (ekk.wide (by decide))
  have kk : ∀ x, x < 630 → x ∉ [630, 691, 703, 704, 705, 706, 707, 708, 709] := by
    intro x hx
    simp only [List.mem_cons, List.not_mem_nil, or_false]
    omega
  have j6 : ∀ j, ¬ (j = 91 ∨ j = 92 ∨ j = 104 ∨ j = 105 ∨ j = 106) → qI k6 630 j = qI h 630 j := by
    intro j hj
    rw [ei, upd_ne (by omega), j5, upd_ne (by omega), upd_ne (by omega), upd_ne (by omega), ← i630]
    rcases hd with ⟨_, rfl⟩ | ⟨_, _, q2, _⟩
    · rfl
    · rw [q2, upd_ne (by omega), upd_ne (by omega)]
  -- both are taken back, or none
  have c598 : qA k6 598 = qA h1 598 := by
    rw [ekk.A (kk 598 (by decide)), o1.A (show 598 ∉ [614, 615, 616, 617, 618, 619] by decide), f5.A (show 598 ∉ [614] by decide)]
  have c599 : qI k6 599 = qI h1 599 := by
    rw [ekk.I (kk 599 (by decide)), o1.I (show 599 ∉ [614, 615, 616, 617, 618, 619] by decide), f5.I (show 599 ∉ [614] by decide)]
  have c691 : qA k6 691 = qA k1 691 := by
    rw [ek6.A (show 691 ∉ [630, 703, 704, 705, 706, 707, 708, 709] by decide), ek5.A (show 691 ∉ [630] by decide)]
  have j91 : qI k6 630 91 = qI k1 630 91 := by rw [ei, upd_ne (by decide), j5, upd_ne (by decide), upd_ne (by decide), upd_ne (by decide)]
  have j92 : qI k6 630 92 = qI k1 630 92 := by rw [ei, upd_ne (by decide), j5, upd_ne (by decide), upd_ne (by decide), upd_ne (by decide)]
  have e600 : qA k6 600 = qA h 600 := by rw [ekk.A (kk 600 (by decide)), eh.A (show 600 ∉ [598, 599, 614, 615, 616, 617, 618, 619] by decide)]
  have e692 : qA k6 692 = qA h 692 := by rw [ekk.A (show 692 ∉ [630, 691, 703, 704, 705, 706, 707, 708, 709] by decide), eh.A (nn 692 (by decide))]
  obtain ⟨a', l', t', s', D', H', q91⟩ : ∃ a' l' t' s', q_dg (bN B 0) (bN B 1) (qA k6 598) (qA k6 691) ∧ z_H k6 k6 (bN B 0) (bN B 1) a' l' t' s' u ∧ qI k1 630 91 = nI a' := by
    rcases hc with ⟨hg, rfl⟩ | ⟨hg, _, i2, i3, i4', a598⟩
    · rcases hd with ⟨_, rfl⟩ | ⟨hg2, _⟩
      · refine ⟨a, l, t, s, ?_, Z0.2.2.1.same (Nat.le_refl _) c599 e600 (by rw [j91, i630]) (by rw [j92, i630]) e692, by rw [i630]; exact p1⟩
        rw [c598, c691, eh.A (nn 691 (by decide))]
        exact Z0.1.2.2.2.2
      · rw [go6, hg] at hg2
        cases hg2
    · rcases hd with ⟨hg2, _⟩ | ⟨_, _, q2, q3⟩
      · rw [go6, hg] at hg2
        cases hg2
      · obtain ⟨w1, w2, w3, w4⟩ := hw hg
        have sw : s - (w + (s - a)) = a - w := by omega
        rw [sw] at i2 i3
        refine ⟨w, min l w, q_back t (a - w), s - (a - w), ?_, Z0.2.2.1.back w1 (by rw [c599]; exact i2) (by rw [c599]; exact i3) ?_ e600 (by rw [j91, q2, upd_ne (by decide), upd_eq]) (by rw [j92, q2, upd_eq]) e692, by rw [q2, upd_ne (by decide), upd_eq]⟩
        · rw [c598, c691]
          refine w4.ext (fun i hi => ?_) (fun i hi => ?_)
          · rw [a598]
            have := va_cpy_in (f := qA h 619) (g := qA h 598) (sp := 0 * 156) (dp := 0) hi
            rw [show 0 + i = i by omega] at this
            show _ = qA h 619 (0 * 156 + i)
            rw [show 0 * 156 + i = i by omega]
            exact this
          · rw [q3, eh.A (nn 709 (by decide))]
            have := va_cpy_in (f := qA h 709) (g := qA h6 691) (sp := 156 * 0) (dp := 0) hi
            rw [show 0 + i = i by omega] at this
            show _ = qA h 709 (156 * 0 + i)
            rw [show 156 * 0 + i = i by omega]
            exact this
        · rw [c599, i4']
          congr 1
          omega
  have M' : z_M k6 k6 := Z0.2.2.2.same (by rw [ekk.I (kk 601 (by decide)), eh.I (show 601 ∉ [598, 599, 614, 615, 616, 617, 618, 619] by decide)]) (by rw [ekk.I (kk 601 (by decide)), eh.I (show 601 ∉ [598, 599, 614, 615, 616, 617, 618, 619] by decide)]) (j6 95 (by decide)) (j6 96 (by decide)) (by rw [ekk.A (kk 608 (by decide)), eh.A (show 608 ∉ [598, 599, 614, 615, 616, 617, 618, 619] by decide)]) (by rw [ekk.A (kk 609 (by decide)), eh.A (show 609 ∉ [598, 599, 614, 615, 616, 617, 618, 619] by decide)]) (by rw [ekk.A (show 697 ∉ [630, 691, 703, 704, 705, 706, 707, 708, 709] by decide), eh.A (nn 697 (by decide))]) (by rw [ekk.A (show 698 ∉ [630, 691, 703, 704, 705, 706, 707, 708, 709] by decide), eh.A (nn 698 (by decide))])
  have ZA : z_A k6 k6 b B a' l' t' s' u := ⟨Z0.1.row ea rfl D', Z0.2.1.row ea rfl (fun i hi => j6 _ (by omega)) D', H', M'⟩
  have q8 := H'.2.2.2.2.2.2.2.1
  have q9 := H'.2.2.2.2.2.2.2.2.1
  refine ⟨rfl, b, B, a', l', t', s', Q0.putX ea (fun j hj => j6 j (by omega)) ZA ⟨?_, ?_, fun _ => ⟨?_, ?_⟩⟩⟩
  · rw [ekk.I (kk 614 (by decide)), o3, if_neg (by decide), if_neg (by decide), if_neg (by omega), i4, ei, upd_ne (by decide), j5, upd_eq]
  · rw [ekk.I (kk 614 (by decide)), o3, if_neg (by decide), if_neg (by decide), if_neg (by omega), i5, ei, upd_ne (by decide), j5, upd_ne (by decide), upd_eq]
  · rw [ekk.R (kk 614 (by decide)), o2, r5]
  · obtain ⟨lev, lp, lg⟩ := wB.2.2.2.2.2.2.2.2.2.1
    have L : y_L B lev := by
      refine ⟨fun p hp => (lp p hp).2, fun e he => ?_⟩
      obtain ⟨g1, g2, g3, g4, g5, g6, g7, g8, g9⟩ := lg e he
      refine ⟨g2, g3, ?_, fun h5 k hk1 hk2 => ?_⟩
      · rcases g7 with h9 | h9
        · exact Or.inl h9
        · exact Or.inr h9.2.2
      · rcases g8 k hk1 hk2 with h9 | h9
        · exact Or.inl h9
        · exact Or.inr (h9.2.2 h5)
    have A : y_A B lev a' u 1 (fun _ => 0) (fun _ => 0) (fun _ => 0) (fun _ => bP B p) (fun _ => a') (fun _ => 0) (fun _ => true) := by
      refine ⟨Nat.le_refl _, by decide, rfl, rfl, fun f hf => ?_, fun f hf => by omega, fun h9 => by cases h9⟩
      obtain rfl : f = 0 := by omega
      exact ⟨by decide, Nat.zero_le _, fun h9 => absurd h9 (by decide), Nat.zero_le _, fun _ => (lp p hp).1, Nat.le_refl _, (fun h9 => by cases h9), fun _ h9 => absurd h9 (by decide), (fun h9 => by cases h9), (fun h9 => by cases h9), (fun h9 => by rcases h9 with h9 | h9 <;> cases h9), by decide, fun _ => rfl, fun _ h9 => (lp p hp).2 h9, fun h9 => absurd h9 (by decide)⟩
    have c7 := o7 (Or.inl rfl)
    have g599 : qI h5 599 4 = nI s' := by rw [f5.I (show 599 ∉ [614] by decide), ← c599]; exact q8
    refine ⟨1, fun _ => 0, fun _ => 0, fun _ => 0, fun _ => bP B p, fun _ => a', fun _ => true, fun _ => 0, y_r_F L A ⟨⟨?_, ?_, fun f hf => ?_⟩, ?_⟩ ⟨?_, fun f hf => ?_⟩ (fun f hf hy => ?_)⟩
    · rw [ekk.I (kk 614 (by decide)), o3, if_neg (by decide), if_pos rfl]
    · rw [ekk.I (kk 614 (by decide)), o3, if_neg (by decide), if_neg (by decide), if_pos ⟨rfl, rfl⟩, i8]
      rfl
    · obtain rfl : f = 0 := by omega
      rw [ekk.A (kk 615 (by decide)), ekk.A (kk 616 (by decide)), ekk.A (kk 617 (by decide)), ekk.A (kk 618 (by decide)), o4, o5, o6, c7.1, upd_eq, upd_eq, upd_eq, upd_eq]
      refine ⟨rfl, rfl, rfl, fun _ => ?_⟩
      rw [g599]
      congr 1
      show s' = a' + (s' - a')
      omega
    · rw [ekk.I (kk 614 (by decide)), o3, if_pos rfl, if_pos rfl]
    · rw [ei, upd_eq]
    · obtain rfl : f = 0 := by omega
      rw [b3, b4, b5, b7, b8, upd_eq, upd_eq, upd_eq, upd_eq, upd_eq]
      refine ⟨rfl, rfl, rfl, fun _ => rfl, ?_, (fun h9 => by cases h9), (fun h9 => by cases h9), (fun h9 => by cases h9)⟩
      rw [j5, upd_ne (by decide), upd_ne (by decide), upd_ne (by decide)]
      exact q91
    · obtain rfl : f = 0 := by omega
      refine D'.ext (fun i hi => ?_) (fun i hi => ?_)
      · show qA k6 619 (0 * 156 + i) = _
        rw [ekk.A (kk 619 (by decide)), c7.2, va_cpy_in hi, f5.A (show 598 ∉ [614] by decide), c598, Nat.zero_add]
      · show qA k6 709 (156 * 0 + i) = _
        rw [b9, va_cpy_in hi, ek5.A (show 691 ∉ [630] by decide), c691, Nat.zero_add]
