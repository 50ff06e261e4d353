/-! A ROW SUCCEEDS -/
def n_cl (k k1 : q_Hp) (B : q_Bk) (a d K O U A : Nat) : Prop :=
  (K = 0 ∧ d = 1 ∧ k1 = q_sI (q_sI k 630 104 1) 630 106 0) ∨
  (((K = 0 ∧ 1 < d) ∨ (K = 1 ∧ a ≤ A) ∨ (K = 2 ∧ U = bD B (O - 1) 1) ∨ K = 4) ∧ q_Ef [630, 706] k k1 ∧ (∀ j, qI k1 630 j = upd (qI k 630) 106 (nI (d - 1)) j) ∧ ∀ g, ¬ g = d - 1 → qA k1 706 g = qA k 706 g) ∨
  (((K = 1 ∧ A < a) ∨ (K = 2 ∧ U < bD B (O - 1) 1)) ∧ q_Ef [706, 707] k k1 ∧ qA k1 707 = upd (qA k 707) (d - 1) 0 ∧ (∀ g, ¬ g = d - 1 → qA k1 706 g = qA k 706 g) ∧ (K = 2 → qA k1 706 (d - 1) = nI U)) ∨
  (K = 3 ∧ q_Ef [705, 706, 707, 708, 709] k k1 ∧ qA k1 705 = upd (qA k 705) (d - 1) (oN (bD B (O - 1) 4)) ∧ qA k1 706 = upd (qA k 706) (d - 1) 1 ∧ qA k1 707 = upd (qA k 707) (d - 1) 1 ∧ qA k1 708 = upd (qA k 708) (d - 1) (qI k 630 91) ∧ qA k1 709 = va_cpy (qA k 691) (qA k 709) 0 (156 * (d - 1)) 156)
theorem n_close {k : q_Hp} {B : q_Bk} {d a K O U A : Nat} {f : Nat → Int32} (X : n_X k B f) (d1 : 0 < d) (d2 : d ≤ 180) (h106 : qI k 630 106 = nI d) (h91 : qI k 630 91 = nI a) (a1 : a < 2 ^ 30) (hK : K < 5) (hO : 1 < d → 0 < O ∧ O ≤ bN B 5) (h703 : qA k 703 (d - 1) = nI (if K = 4 then 3 else K)) (h704 : qA k 704 (d - 1) = oN O) (h708 : qA k 708 (d - 1) = nI A) (a2 : A < 2 ^ 30) (k0 : d = 1 → K = 0) (k2 : K = 2 → bD B (O - 1) 0 = 6 ∧ 0 < U ∧ U ≤ bD B (O - 1) 1 ∧ qA k 706 (d - 1) = nI (U - 1)) (k3 : K = 3 → qA k 706 (d - 1) = 0) (k4 : K = 4 → qA k 706 (d - 1) = 1 ∨ qA k 706 (d - 1) = 2) : q_mV 3 338 [.ref 630] k (fun k1 => n_cl k k1 B a d K O U A) := by
  have S := X.1
  have w := X.2.1
  have mB := X.2.2.1
  have h1200 : bN B 5 ≤ 1200 := w.2.2.2.2.2.1
  refine q_mV.of (q_recV rfl (S.ok rfl)) (fun Q fin => ?_)
  obtain ⟨n3, n4, n5, n6, n7, n8⟩ := n_l S (show d - 1 < 200 by omega)
  have e6 : qI k 630 106 - 1 = nI (d - 1) := by rw [h106, x_d1 d1]
  have ce : (nI (d - 1) : Int32).toNatClampNeg = d - 1 := nI_clamp (by omega)
  have pop : ∀ k' : q_Hp, q_Ef [706] k k' → (∀ g, ¬ g = d - 1 → qA k' 706 g = qA k 706 g) → ((K = 0 ∧ 1 < d) ∨ (K = 1 ∧ a ≤ A) ∨ (K = 2 ∧ U = bD B (O - 1) 1) ∨ K = 4) → q_wp 3 338 202 [some (.ref 630), some (.int (nI (d - 1)))] [] (q_sI k' 630 106 ((qI k' 630 106) - 1)) Q := by
    intro k' e hg hc
    refine b338_202 (fin _ (Or.inr (Or.inl ⟨hc, (e.wide (by decide)).trans (q_Ef.sI (by decide)), fun j => ?_, hg⟩)))
    rw [qI_sIu, e.I (show 630 ∉ [706] by decide), e6]
  have z706 : ∀ v : Int32, q_Ef [706] k (q_sA k 706 (d - 1) v) ∧ (∀ g, ¬ g = d - 1 → qA (q_sA k 706 (d - 1) v) 706 g = qA k 706 g) ∧ qA (q_sA k 706 (d - 1) v) 706 (d - 1) = v := fun v => ⟨q_Ef.sA (by decide), fun g hg => by rw [qA_sAu, upd_ne hg], by rw [qA_sAu, upd_eq]⟩
  refine b338_0 (v0 := 703) (S.ok rfl) (S.ref rfl) (S.ok rfl) (by rw [e6]; exact n3) (fun c => ?_) (fun c => ?_) (fun c => ?_) (fun c => ?_)
  · rw [e6, ce, h703] at c
    have hk : K = 0 := by
      have := (nI_eq (b := 0) (by split <;> omega) (by decide)).mp c
      split at this <;> omega
    rw [e6]
    refine b338_40 (fun c2 => b338_52 (S.ok rfl) (pop k q_Ef.rf (fun _ _ => rfl) (Or.inl ⟨hk, ?_⟩))) (fun c2 => b338_44 (s336 S) (by decide) ?_)
    · by_cases h9 : d = 1
      · exact absurd (by rw [h9]; rfl) c2
      · omega
    · rintro k1 rfl
      refine b338_49 (b338_202 (fin _ (Or.inl ⟨hk, ?_, rfl⟩)))
      have := (nI_eq (a := d - 1) (b := 0) (by omega) (by decide)).mp c2
      omega
  · rw [e6, ce, h703] at c
    have hk : K = 1 := by
      have := (nI_eq (b := 1) (by split <;> omega) (by decide)).mp c
      split at this <;> omega
    rw [e6]
    refine b338_65 (v0 := 708) (S.ok rfl) (S.ref rfl) (S.ok rfl) n8 (fun c2 => ?_) (fun c2 => b338_78 (S.ok rfl) (pop k q_Ef.rf (fun _ _ => rfl) (Or.inr (Or.inl ⟨hk, ?_⟩))))
    · rw [ce, h708, h91] at c2
      have := (nI_ltI (by omega) (by omega)).mp c2
      refine b338_91 (v0 := 707) (S.ok rfl) (S.ref rfl) (S.ok rfl) n7 (b338_202 (fin _ (Or.inr (Or.inr (Or.inl ⟨Or.inl ⟨hk, this⟩, q_Ef.sA (by decide), ?_, fun _ _ => rfl, fun h9 => by omega⟩)))))
      rw [qA_sAu, ce]
      rfl
    · rw [ce, h708, h91] at c2
      have := mt (nI_ltI (by omega) (by omega)).mpr c2
      omega
  · rw [e6, ce, h703] at c
    have hk : K = 2 := by
      have := (nI_eq (b := 2) (by split <;> omega) (by decide)).mp c
      split at this <;> omega
    rw [e6]
    obtain ⟨q1, q2, q3, q4⟩ := k2 hk
    have d1' : 1 < d := by
      by_cases h9 : d = 1
      · have := k0 h9; omega
      · omega
    obtain ⟨O0, O1⟩ := hO d1'
    obtain ⟨o, rfl⟩ : ∃ o, O = o + 1 := ⟨O - 1, by omega⟩
    rw [Nat.add_sub_cancel] at q1 q3
    have u100 : bD B o 1 ≤ 100 := by
      obtain ⟨lev', _, g⟩ := w.2.2.2.2.2.2.2.2.2.1
      exact (g o (by omega)).2.2.2.2.2.1 q1
    have e7 : qA k 706 (d - 1) + 1 = nI U := by rw [q4, nI_1, show U - 1 + 1 = U by omega]
    obtain ⟨y1, y2, y3⟩ := z706 (nI U)
    have hh : q_sA k 706 (nI (d - 1) : Int32).toNatClampNeg ((qA k 706 (nI (d - 1) : Int32).toNatClampNeg) + 1) = q_sA k 706 (d - 1) (nI U) := by rw [ce, e7]
    have y4 : qA (q_sA k 706 (d - 1) (nI U)) 704 (d - 1) = nI o := by rw [y1.A (show 704 ∉ [706] by decide), h704, oN_s]
    have y5 : qA (q_sA k 706 (d - 1) (nI U)) 670 o = nI (bD B o 1) := by
      rw [y1.A (show 670 ∉ [706] by decide)]
      exact (mB.2.2.2.2.2.1 o (by omega)).2.1 (Or.inr (Or.inr (Or.inr q1)))
    generalize q_sA k 706 (d - 1) (nI U) = k' at y1 y2 y3 y4 y5 hh
    have S' := y1.sh S
    refine b338_101 (v0 := 706) (v1 := 670) (v2 := 704) (S.ok rfl) (S.ref rfl) (S.ok rfl) n6 (S.ref rfl) (S.ref rfl) (S.ok rfl) n4 (S.ok rfl) ?_ (fun c2 => ?_) (fun c2 => ?_)
    · rw [hh, ce, y4]
      exact S.inN (n := 2600) rfl (by omega) (by decide)
    · rw [hh, ce, y4, nI_clamp (by omega), y3, y5] at c2
      rw [hh]
      have lt : U < bD B o 1 := by
        have := mt (nI_eq (a := U) (b := bD B o 1) (by omega) (by omega)).mpr c2
        omega
      refine b338_144 (v0 := 707) (S'.ok rfl) (S'.ref rfl) (S'.ok rfl) (n_l S' (show d - 1 < 200 by omega)).2.2.2.2.1 (b338_202 (fin _ (Or.inr (Or.inr (Or.inl ⟨Or.inr ⟨hk, lt⟩, (y1.wide (by decide)).trans (q_Ef.sA (by decide)), ?_, fun g hg => y2 g hg, fun _ => y3⟩)))))
      rw [qA_sAu, ce, y1.A (show 707 ∉ [706] by decide)]
      rfl
    · rw [hh, ce, y4, nI_clamp (by omega), y3, y5] at c2
      rw [hh]
      have eq := (nI_eq (a := U) (b := bD B o 1) (by omega) (by omega)).mp c2
      exact b338_131 (S'.ok rfl) (pop k' y1 y2 (Or.inr (Or.inr (Or.inl ⟨hk, eq⟩))))
  · rw [e6, ce, h703] at c
    have hk : K = 3 ∨ K = 4 := by
      rw [nI_toInt (by split <;> omega)] at c
      split at c <;> omega
    rw [e6]
    refine b338_154 (v0 := 706) (S.ok rfl) (S.ref rfl) (S.ok rfl) n6 (fun c2 => ?_) (fun c2 => ?_)
    · rw [ce] at c2
      have hk3 : K = 3 := by
        rcases hk with h9 | h9
        · exact h9
        · exfalso
          rcases k4 h9 with h8 | h8 <;> rw [h8] at c2 <;> exact absurd c2 (by decide)
      have d1' : 1 < d := by
        by_cases h9 : d = 1
        · have := k0 h9; omega
        · omega
      obtain ⟨O0, O1⟩ := hO d1'
      obtain ⟨o, rfl⟩ : ∃ o, O = o + 1 := ⟨O - 1, by omega⟩
      obtain ⟨y1, y2, y3⟩ := z706 1
      have hh : q_sA k 706 (nI (d - 1) : Int32).toNatClampNeg 1 = q_sA k 706 (d - 1) 1 := by rw [ce]
      have y6 : qA (q_sA k 706 (d - 1) 1) 706 = upd (qA k 706) (d - 1) 1 := qA_sAu _ _ _ _
      have y4 : qA (q_sA k 706 (d - 1) 1) 704 (d - 1) = nI o := by rw [y1.A (show 704 ∉ [706] by decide), h704, oN_s]
      have y5 : qA (q_sA k 706 (d - 1) 1) 671 (3 * o + 1) = oN (bD B o 4) := by
        rw [y1.A (show 671 ∉ [706] by decide)]
        exact (mB.2.2.2.2.2.1 o (by omega)).2.2.2 1 (by decide)
      generalize q_sA k 706 (d - 1) 1 = k' at y1 y2 y3 y4 y5 y6 hh
      have S' := y1.sh S
      have e671 : (3 * nI o + 1 : Int32) = nI (3 * o + 1) := by
        rw [show (3 : Int32) * nI o = nI (3 * o) from pk_mul 3 o]
        exact nI_add _ 1
      have hc3 := s333 (k := k') (d := d) (x := oN (bD B o 4)) S' (by rw [y1.I (show 630 ∉ [706] by decide)]; exact h106) d1 (by omega)
      refine b338_176 (v0 := 706) (v1 := 671) (v2 := 704) (S.ok rfl) (S.ref rfl) (S.ok rfl) n6 (S.ref rfl) (S.ref rfl) (S.ok rfl) n4 (S.ok rfl) ?_ (m := 1) (P := fun k2 => q_Ef [705, 707, 708, 709] k' k2 ∧ qA k2 705 = upd (qA k' 705) (d - 1) (oN (bD B o 4)) ∧ qA k2 707 = upd (qA k' 707) (d - 1) 1 ∧ qA k2 708 = upd (qA k' 708) (d - 1) (qI k' 630 91) ∧ qA k2 709 = va_cpy (qA k' 691) (qA k' 709) 0 (156 * (d - 1)) 156) ?_ (by decide) ?_
      · rw [hh, ce, y4, e671]
        exact S.inN (n := 7800) rfl (by omega) (by decide)
      · rw [hh, ce, y4, e671, nI_clamp (by omega), y5]
        exact hc3
      rintro k2 ⟨e2, b5, b7, b8, b9⟩
      refine b338_202 (fin _ (Or.inr (Or.inr (Or.inr ⟨hk3, (y1.wide (by decide)).trans (e2.wide (by decide)), ?_, ?_, ?_, ?_, ?_⟩))))
      · rw [b5, y1.A (show 705 ∉ [706] by decide)]; rfl
      · rw [e2.A (show 706 ∉ [705, 707, 708, 709] by decide), y6]
      · rw [b7, y1.A (show 707 ∉ [706] by decide)]
      · rw [b8, y1.A (show 708 ∉ [706] by decide), y1.I (show 630 ∉ [706] by decide)]
      · rw [b9, y1.A (show 709 ∉ [706] by decide), y1.A (show 691 ∉ [706] by decide)]
    · rw [ce] at c2
      have hk4 : K = 4 := by
        rcases hk with h9 | h9
        · exact absurd (by rw [k3 h9]; decide) c2
        · exact h9
      exact b338_163 (S.ok rfl) (pop k q_Ef.rf (fun _ _ => rfl) (Or.inr (Or.inr (Or.inr hk4))))
theorem s158 {h : q_Hp} {b d K O pr : Nat} {B : q_Bk} (X : x_B h b B) (t : x_T h d K O) (hO : O ≤ bN B 5) (h8 : qI h 614 8 = nI pr) (hp : K = 0 → 0 < pr) : q_mV 3 158 [.ref 614] h (fun h' => (K = 3 ∧ q_Ef [614, 615] h h' ∧ qR h' 614 = qR h 614 ∧ qI h' 614 = upd (qI h 614) 6 (x_P B O 4) ∧ qA h' 615 = upd (qA h 615) (d - 1) 4) ∨ (¬ K = 3 ∧ d = 1 ∧ h' = q_sI h 614 4 1) ∨ (¬ K = 3 ∧ 1 < d ∧ q_Ef [614] h h' ∧ qR h' 614 = qR h 614 ∧ qI h' 614 = upd (upd (upd (qI h 614) 8 (nI (if K = 0 then pr - 1 else pr))) 7 (nI (d - 1))) 6 (x_P B O 2))) := by
  have S := X.1
  obtain ⟨t1, t2, t3, t4, t5, t6⟩ := t
  refine q_mV.of (q_recV rfl (S.ok rfl)) (fun Q fin => ?_)
  refine b158_0 (s150 S t1 t2 t3) (by decide) ?_
  rintro z h2 ⟨e0, rfl⟩
  subst h2
  rw [t5]
  refine b158_4 (fun c => b158_16 (S.ok rfl) (fun c2 => b158_32 (s156 X ⟨t1, t2, t3, t4, t5, t6⟩ hO h8 hp) (by decide) ?_) (fun c2 => b158_24 (S.ok rfl) (b158_36 (fin _ (Or.inr (Or.inl ⟨fun h9 => c (by rw [h9]; rfl), ?_, rfl⟩)))))) (fun c => b158_8 (s157 (p := 4) X ⟨t1, t2, t3, t4, t5, t6⟩ hO (by decide) (by decide)) (by decide) ?_)
  · rintro h3 ⟨e3, r3, i3⟩
    refine b158_36 (fin _ (Or.inr (Or.inr ⟨fun h9 => c (by rw [h9]; rfl), ?_, e3, r3, i3⟩)))
    by_cases h9 : d = 1
    · exact absurd (by rw [t1, h9]; rfl) c2
    · omega
  · rw [t1] at c2
    exact (nI_eq (b := 1) (by omega) (by decide)).mp c2
  · rintro h3 ⟨e3, r3, i3, a3⟩
    exact b158_13 (b158_36 (fin _ (Or.inl ⟨(nI_eq (b := 3) (by omega) (by decide)).mp c, e3, r3, i3, a3⟩)))
