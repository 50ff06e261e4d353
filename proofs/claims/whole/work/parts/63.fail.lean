/-! A ROW FAILS: the class -/
def w_fl (h h1 : q_Hp) (B : q_Bk) (t kk s w f : Nat) (kd op : Nat → Nat) : Prop := q_Ef [598, 599, 614, 615] h h1 ∧ qR h1 614 = qR h 614 ∧ qI h1 599 2 = nI (q_back t (s - w)) ∧ qI h1 599 3 = nI (kk - (s - w)) ∧ qI h1 599 4 = nI w ∧ qA h1 598 = va_cpy (qA h 619) (qA h 598) (f * 156) 0 156 ∧ qI h1 614 5 = qI h 614 5 ∧
  ((f = 0 ∧ qI h1 614 4 = 2) ∨ (0 < f ∧ kd f = 3 ∧ qI h1 614 4 = 4 ∧ qI h1 614 7 = nI (f + 1) ∧ qI h1 614 8 = nI (q_pr kd (f + 1)) ∧ qI h1 614 6 = x_P B (op f) 5 ∧ qA h1 615 = upd (qA h 615) f 4) ∨ (0 < f ∧ kd f = 1 ∧ qI h1 614 4 = 4 ∧ qI h1 614 7 = nI f ∧ qI h1 614 8 = nI (q_pr kd f) ∧ qI h1 614 6 = x_P B (op f) 2 ∧ qA h1 615 = qA h 615))
theorem w_fail_c {h : q_Hp} {b : Nat} {B : q_Bk} {a s t kk d : Nat} {kd op tu ap : Nat → Nat} (X : x_B h b B) (G : x_G h a s d kd op tu ap) (h4 : qI h 614 4 = 4) (ht : qI h 599 2 = nI t) (hk : qI h 599 3 = nI kk) (hs : qI h 599 4 = nI s) (t1 : t < 101) (k1 : kk ≤ 100) (s1 : s < 2 ^ 20) (d1 : 1 ≤ d) (d2 : d ≤ 180) (c0 : kd 0 = 0) (c1 : ∀ f, f < d → kd f < 5 ∧ op f ≤ bN B 5 ∧ (kd f = 1 → 0 < tu f) ∧ ap f ≤ a) (has : a ≤ s) : q_mV 3 159 [.ref 614] h (fun h1 => ∃ f, f < d ∧ y_c kd tu f ∧ (∀ g, f < g → g < d → ¬ y_c kd tu g) ∧ w_fl h h1 B t kk s (ap f + (s - a)) f kd op) := by
  refine q_mV.of (q_recV rfl (X.1.ok rfl)) (fun Q fin => ?_)
  obtain ⟨G1, G2, G3⟩ := G
  have loop : ∀ m i hi, i + (m + 1) ≤ 180 → m + 1 ≤ d → q_Ef [614] h hi → qR hi 614 = qR h 614 → qI hi 614 4 = 4 → qI hi 614 5 = qI h 614 5 → qI hi 614 7 = nI (m + 1) → qI hi 614 8 = nI (q_pr kd (m + 1)) → (∀ g, m < g → g < d → ¬ y_c kd tu g) → q_wp 3 159 2 [some (.ref 614), some (.int (nI i))] [] hi Q := by
    intro m
    induction m with
    | zero =>
      intro i hi hi1 hd e r i4 i5 i7 i8 hg
      have X' : x_B hi b B := X.fr e rfl r
      have S' := X'.1
      have t5 : qA hi 615 (0 + 1 - 1) = nI (kd 0) := by rw [e.A (show 615 ∉ [614] by decide)]; exact (G3 0 (by omega)).1
      have go : r_go hi = true := by unfold r_go; rw [i4]; rfl
      refine b159_2 (fun c => absurd ((nI_gec (k := 180) (by omega) (by decide) rfl).mp c) (by omega)) (fun _ => b159_9 (s139 S') (by decide) ?_)
      rintro z h2 ⟨e0, rfl⟩
      subst h2
      rw [go]
      refine b159_13 (fun c => absurd c (by decide)) (fun _ => b159_16 (s150 S' i7 (by omega) (by omega)) (by decide) ?_)
      rintro z h2 ⟨e0, rfl⟩
      subst h2
      rw [t5, c0]
      refine b159_20 (fun _ => b159_40 (s150 S' i7 (by omega) (by omega)) (by decide) ?_) (fun c => absurd c (by decide))
      rintro z h2 ⟨e0, rfl⟩
      subst h2
      rw [t5, c0]
      refine b159_44 (fun _ => b159_63 (S'.ok rfl) (fun c => absurd c (by rw [i7]; decide)) (fun _ => ?_)) (fun c => absurd c (by decide))
      have hc := s149 (f := 0) (w := ap 0 + (s - a)) (t := t) (kk := kk) (s := s) S' (by decide) (by rw [e.A (show 618 ∉ [614] by decide)]; exact (G3 0 (by omega)).2.2.2 (Or.inl rfl)) (by rw [e.I (show 599 ∉ [614] by decide)]; exact ht) (by rw [e.I (show 599 ∉ [614] by decide)]; exact hk) (by rw [e.I (show 599 ∉ [614] by decide)]; exact hs) t1 k1 (by have := (c1 0 (by omega)).2.2.2; omega) s1
      refine b159_71 hc (by decide) ?_
      rintro h3 ⟨e3, j2, j3, j4, j598⟩
      have S3 := e3.sh S'
      refine b159_76 (S3.ok rfl) ?_
      have e4 : q_Ef [614] h3 (q_sI h3 614 4 2) := q_Ef.sI (by decide)
      have i4' : qI (q_sI h3 614 4 2) 614 4 = 2 := rfl
      have i5' : qI (q_sI h3 614 4 2) 614 5 = qI h 614 5 := by
        show qI h3 614 5 = _
        rw [e3.I (show 614 ∉ [598, 599] by decide)]; exact i5
      have r' : qR (q_sI h3 614 4 2) 614 = qR h 614 := (e3.R (by decide)).trans r
      generalize q_sI h3 614 4 2 = h5 at e4 i4' i5' r'
      have S5 := e4.sh S3
      have done : Q none h5 := by
        refine fin _ ⟨0, by omega, Or.inl rfl, hg, ((e.wide (by decide)).trans (e3.wide (by decide))).trans (e4.wide (by decide)), r', ?_, ?_, ?_, ?_, i5', Or.inl ⟨rfl, i4'⟩⟩
        · rw [e4.I (show 599 ∉ [614] by decide)]; exact j2
        · rw [e4.I (show 599 ∉ [614] by decide)]; exact j3
        · rw [e4.I (show 599 ∉ [614] by decide)]; exact j4
        · rw [e4.A (show 598 ∉ [614] by decide), j598, e.A (show 619 ∉ [614] by decide), e.A (show 598 ∉ [614] by decide)]
      refine b159_88 (b159_2 (fun _ => b159_94 done) (fun _ => b159_9 (s139 S5) (by decide) ?_))
      rintro z h6 ⟨e0, rfl⟩
      subst h6
      have ng : r_go h5 = false := by unfold r_go; rw [i4']; rfl
      rw [ng]
      exact b159_13 (fun _ => b159_94 done) (fun c => absurd rfl c)
    | succ m ih =>
      intro i hi hi1 hd e r i4 i5 i7 i8 hg
      have X' : x_B hi b B := X.fr e rfl r
      have S' := X'.1
      obtain ⟨cK, cO, cU, cA⟩ := c1 (m + 1) (by omega)
      have T : x_T hi (m + 1 + 1) (kd (m + 1)) (op (m + 1)) := ⟨i7, by omega, by omega, cK, by rw [e.A (show 615 ∉ [614] by decide)]; exact (G3 (m + 1) (by omega)).1, by rw [e.A (show 616 ∉ [614] by decide)]; exact (G3 (m + 1) (by omega)).2.1⟩
      have t5 := T.2.2.2.2.1
      have go : r_go hi = true := by unfold r_go; rw [i4]; rfl
      have h149 : ∀ hw : y_c kd tu (m + 1), _ := fun hw => s149 (f := m + 1) (w := ap (m + 1) + (s - a)) (t := t) (kk := kk) (s := s) S' (by omega) (by rw [e.A (show 618 ∉ [614] by decide)]; exact (G3 (m + 1) (by omega)).2.2.2 hw) (by rw [e.I (show 599 ∉ [614] by decide)]; exact ht) (by rw [e.I (show 599 ∉ [614] by decide)]; exact hk) (by rw [e.I (show 599 ∉ [614] by decide)]; exact hs) t1 k1 (by omega) s1
      rw [show (nI (m + 1) : Int32) = qI hi 614 7 - 1 by rw [i7, x_d1 (by omega)]; rfl] at h149
      refine b159_2 (fun c => absurd ((nI_gec (k := 180) (by omega) (by decide) rfl).mp c) (by omega)) (fun _ => b159_9 (s139 S') (by decide) ?_)
      rintro z h2 ⟨e0, rfl⟩
      subst h2
      rw [go]
      refine b159_13 (fun c => absurd c (by decide)) (fun _ => b159_16 (s150 S' i7 (by omega) (by omega)) (by decide) ?_)
      rintro z h2 ⟨e0, rfl⟩
      subst h2
      rw [t5]
      refine b159_20 (fun c2 => b159_40 (s150 S' i7 (by omega) (by omega)) (by decide) ?_) (fun c2 => ?_)
      · have k3 : ¬ kd (m + 1) = 3 := fun h9 => c2 (by rw [h9]; rfl)
        rintro z h2 ⟨e0, rfl⟩
        subst h2
        rw [t5]
        refine b159_44 (fun c3 => b159_63 (S'.ok rfl) (fun _ => ?_) (fun c4 => ?_)) (fun c3 => ?_)
        · have k1' : ¬ kd (m + 1) = 1 := fun h9 => c3 (by rw [h9]; rfl)
          refine b159_84 (s156 X' T cO i8 (fun h9 => by rw [q_pr_s, if_pos h9]; omega)) (by decide) ?_
          rintro h3 ⟨e3, r3, j3⟩
          refine b159_88 ?_
          rw [nI_1]
          refine ih (i + 1) h3 (by omega) (by omega) (e.trans e3) (r3.trans r) ?_ ?_ ?_ ?_ (fun g g1 g2 => ?_)
          · rw [j3, upd_ne (by decide), upd_ne (by decide), upd_ne (by decide)]; exact i4
          · rw [j3, upd_ne (by decide), upd_ne (by decide), upd_ne (by decide)]; exact i5
          · rw [j3, upd_ne (by decide), upd_eq]; rfl
          · rw [j3, upd_ne (by decide), upd_ne (by decide), upd_eq, q_pr_s kd (m + 1)]
            congr 1
            split <;> omega
          · by_cases hgm : g = m + 1
            · rw [hgm]
              rintro (h9 | h9 | h9)
              · omega
              · exact k3 h9
              · exact k1' h9.1
            · exact hg g (by omega) g2
        · exact absurd (show (1 : Int32) < qI hi 614 7 by rw [i7]; exact (nI_ltI (a := 1) (by decide) (by omega)).mpr (by omega)) c4
        · have k1' : kd (m + 1) = 1 := (nI_eq (b := 1) (by omega) (by decide)).mp c3
          have yc : y_c kd tu (m + 1) := Or.inr (Or.inr ⟨k1', cU k1'⟩)
          refine b159_48 (S'.ok rfl) (h149 yc) (by decide) ?_
          rintro h3 ⟨e3, j2, j3, j4, j598⟩
          have n614 : 614 ∉ [598, 599] := by decide
          have X3 : x_B h3 b B := X'.fr e3 rfl (e3.R n614)
          have T3 : x_T h3 (m + 1 + 1) (kd (m + 1)) (op (m + 1)) := ⟨by rw [e3.I n614]; exact T.1, T.2.1, T.2.2.1, cK, by rw [e3.A (show 615 ∉ [598, 599] by decide)]; exact t5, by rw [e3.A (show 616 ∉ [598, 599] by decide)]; exact T.2.2.2.2.2⟩
          refine b159_58 (s156 X3 T3 cO (by rw [e3.I n614]; exact i8) (fun h9 => by rw [q_pr_s, if_pos h9]; omega)) (by decide) ?_
          rintro h5 ⟨e5, r5, j5⟩
          have p5 : q_pr kd (m + 1 + 1) = q_pr kd (m + 1) := by rw [q_pr_s, if_neg (by omega)]; rfl
          refine b159_62 (fin _ ⟨m + 1, by omega, yc, hg, ((e.wide (by decide)).trans (e3.wide (by decide))).trans (e5.wide (by decide)), (r5.trans (e3.R n614)).trans r, ?_, ?_, ?_, ?_, ?_, Or.inr (Or.inr ⟨by omega, k1', ?_, ?_, ?_, ?_, ?_⟩)⟩)
          · rw [e5.I (show 599 ∉ [614] by decide)]; exact j2
          · rw [e5.I (show 599 ∉ [614] by decide)]; exact j3
          · rw [e5.I (show 599 ∉ [614] by decide)]; exact j4
          · rw [e5.A (show 598 ∉ [614] by decide), j598, e.A (show 619 ∉ [614] by decide), e.A (show 598 ∉ [614] by decide)]
          · rw [j5, upd_ne (by decide), upd_ne (by decide), upd_ne (by decide), e3.I n614]; exact i5
          · rw [j5, upd_ne (by decide), upd_ne (by decide), upd_ne (by decide), e3.I n614]; exact i4
          · rw [j5, upd_ne (by decide), upd_eq]; rfl
          · rw [j5, upd_ne (by decide), upd_ne (by decide), upd_eq, if_neg (by omega), p5]
          · rw [j5, upd_eq]
          · rw [e5.A (show 615 ∉ [614] by decide), e3.A (show 615 ∉ [598, 599] by decide), e.A (show 615 ∉ [614] by decide)]
      · have k3 : kd (m + 1) = 3 := (nI_eq (b := 3) (by omega) (by decide)).mp c2
        have yc : y_c kd tu (m + 1) := Or.inr (Or.inl k3)
        refine b159_24 (S'.ok rfl) (h149 yc) (by decide) ?_
        rintro h3 ⟨e3, j2, j3, j4, j598⟩
        have n614 : 614 ∉ [598, 599] := by decide
        have X3 : x_B h3 b B := X'.fr e3 rfl (e3.R n614)
        have T3 : x_T h3 (m + 1 + 1) (kd (m + 1)) (op (m + 1)) := ⟨by rw [e3.I n614]; exact T.1, T.2.1, T.2.2.1, cK, by rw [e3.A (show 615 ∉ [598, 599] by decide)]; exact t5, by rw [e3.A (show 616 ∉ [598, 599] by decide)]; exact T.2.2.2.2.2⟩
        refine b159_34 (s157 (p := 5) X3 T3 cO (by decide) (by decide)) (by decide) ?_
        rintro h5 ⟨e5, r5, j5, a5⟩
        refine b159_39 (fin _ ⟨m + 1, by omega, yc, hg, ((e.wide (by decide)).trans (e3.wide (by decide))).trans (e5.wide (by decide)), (r5.trans (e3.R n614)).trans r, ?_, ?_, ?_, ?_, ?_, Or.inr (Or.inl ⟨by omega, k3, ?_, ?_, ?_, ?_, ?_⟩)⟩)
        · rw [e5.I (show 599 ∉ [614, 615] by decide)]; exact j2
        · rw [e5.I (show 599 ∉ [614, 615] by decide)]; exact j3
        · rw [e5.I (show 599 ∉ [614, 615] by decide)]; exact j4
        · rw [e5.A (show 598 ∉ [614, 615] by decide), j598, e.A (show 619 ∉ [614] by decide), e.A (show 598 ∉ [614] by decide)]
        · rw [j5, upd_ne (by decide), e3.I n614]; exact i5
        · rw [j5, upd_ne (by decide), e3.I n614]; exact i4
        · rw [j5, upd_ne (by decide), e3.I n614]; exact i7
        · rw [j5, upd_ne (by decide), e3.I n614]; exact i8
        · rw [j5, upd_eq]
        · rw [a5, e3.A (show 615 ∉ [598, 599] by decide), e.A (show 615 ∉ [614] by decide)]; rfl
  obtain ⟨d, rfl⟩ : ∃ y, d = y + 1 := ⟨d - 1, by omega⟩
  exact b159_0 (loop d 0 h (by omega) (Nat.le_refl _) q_Ef.rf rfl h4 rfl G1 G2 (fun g g1 g2 => by omega))
