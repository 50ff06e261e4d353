/-! READ keeps the relation: with a fault -/
theorem r_Q.frd {W K : Nat → Int64} {h h' : q_Hp} {u b : Nat} {B : q_Bk} {a l t s : Nat} (Q : r_Q W K h u b B a l t s) (S' : q_Sh h') (F : ∀ x, (x = 4 ∨ (b ≤ x ∧ x < b + 289) ∨ (597 ≤ x ∧ x ≤ 622) ∨ x = 637 ∨ (691 ≤ x ∧ x ≤ 709)) → qI h' x = qI h x ∧ qR h' x = qR h x ∧ qA h' x = qA h x ∧ qL h' x = qL h x) (I : ∀ j, (24 ≤ j ∧ j ≤ 27) ∨ (91 ≤ j ∧ j ≤ 106) → qI h' 630 j = qI h 630 j) (lo : ∀ a i, 638 ≤ a → a ≤ 673 → i < p_hf a → qA h' a i = qA h a i) (T : r_T h') (P : r_P h') (D : qR h' 1 5 = qR h 1 5 ∧ qR h' 1 6 = qR h 1 6) : r_Q W K h' u b B a l t s := by
  obtain ⟨S, q1, q2, q3, q4, hb, q5, w, q6, q7, q8, q9, q10, q11⟩ := Q
  have fI := fun x hx => (F x hx).1
  have fR := fun x hx => (F x hx).2.1
  have fA := fun x hx => (F x hx).2.2.1
  have fL := fun x hx => (F x hx).2.2.2
  refine ⟨S', ?_, T, P, ?_, hb, ?_, w, q6.fr hb w (fun x h1 h2 => fA x (by omega)) (fun x h1 h2 => fI x (by omega)), q7.lo w lo (fun i hi => I (24 + i) (by omega)), ?_, ?_, ?_, ?_⟩
  · unfold r_C
    rw [fL 4 (by omega), fL 637 (by omega)]; exact q1
  · unfold r_M
    rw [fI 601 (by omega), I 95 (by omega), I 96 (by omega), fA 608 (by omega), fA 697 (by omega), fA 609 (by omega), fA 698 (by omega)]; exact q4
  · rw [D.1, D.2]; exact q5
  · rw [fA 598 (by omega), fA 691 (by omega)]; exact q8
  · unfold r_H
    rw [I 91 (by omega), I 92 (by omega), fI 599 (by omega), fA 600 (by omega), fA 692 (by omega)]; exact q9
  · unfold r_K
    rw [fA 621 (by omega), fA 694 (by omega), fA 620 (by omega), fA 693 (by omega)]; exact q10
  · unfold r_X r_F
    rw [fI 614 (by omega), I 104 (by omega), I 105 (by omega), I 106 (by omega), fR 614 (by omega), fA 615 (by omega), fA 616 (by omega), fA 617 (by omega), fA 618 (by omega), fA 619 (by omega), fA 703 (by omega), fA 704 (by omega), fA 705 (by omega), fA 706 (by omega), fA 707 (by omega), fA 708 (by omega), fA 709 (by omega)]
    exact q11
theorem p_L_n {x : Nat} (h : ¬ x = 630) (h2 : ¬ (638 ≤ x ∧ x ≤ 690)) : x ∉ p_L := by
  unfold p_L
  simp only [List.mem_cons, List.mem_map, List.mem_range, not_or, not_exists, not_and]
  exact ⟨h, fun i hi h9 => by omega⟩
/-- both reads with a fault -/
theorem r_rdF {W K : Nat → Int64} {h h1 k3 k' : q_Hp} {u b c : Nat} {B : q_Bk} {a l t s : Nat} {x : Int32} (Q : r_Q W K h u b B a l t s) (hc : c = 311 - b) (A : g_X c h h1) (D : c_dk h h1 x) (S' : q_Sh k') (F1 : n_f1 h1 k3) (F2 : n_fz k3 k') (h17 : qI k' 630 17 = x) : r_Q W K k' u b B a l t s := by
  have hb := Q.2.2.2.2.2.1
  have hb' : b = 11 ∨ b = 300 := hb
  have n1 : ∀ y, ¬ y = 630 → ¬ (632 ≤ y ∧ y ≤ 636) → y ∉ [630, 632, 633, 634, 635, 636] := fun y q1 q2 => by
    simp only [List.mem_cons, List.not_mem_nil, or_false]
    omega
  have K : ∀ y, ¬ y = 630 → ¬ (632 ≤ y ∧ y ≤ 636) → ¬ (638 ≤ y ∧ y ≤ 690) → qI k' y = qI h1 y ∧ qR k' y = qR h1 y ∧ qA k' y = qA h1 y ∧ qL k' y = qL h1 y := fun y q1 q2 q3 => ⟨(F2.1.I (p_L_n q1 q3)).trans (F1.1.I (n1 y q1 q2)), (F2.1.R (p_L_n q1 q3)).trans (F1.1.R (n1 y q1 q2)), (F2.1.A (p_L_n q1 q3)).trans (F1.1.A (n1 y q1 q2)), (F2.1.L (p_L_n q1 q3)).trans (F1.1.L (n1 y q1 q2))⟩
  have A630 := A 630 (by omega) (by omega) (by omega) (by omega) (by omega)
  have k1 := K 1 (by omega) (by omega) (by omega)
  refine Q.frd S' (fun y hy => ?_) (fun j hj => ?_) (fun y i h1 h2 h3 => ?_) ⟨0, by decide, ?_, ?_, fun i hi => absurd hi (Nat.not_lt_zero i)⟩ ?_ ⟨?_, ?_⟩
  · obtain ⟨a1, a2, a3, a4⟩ := A y (by omega) (by omega) (by omega) (by omega) (by omega)
    obtain ⟨b1, b2, b3, b4⟩ := K y (by omega) (by omega) (by omega)
    exact ⟨b1.trans a1, b2.trans a2, b3.trans a3, b4.trans a4⟩
  · have : p_ch j = false := by
      unfold p_ch
      simp only [Bool.or_eq_false_iff, Bool.and_eq_false_iff, decide_eq_false_iff_not]
      omega
    rw [F2.2.1 j this (by omega), F1.2.2 j (by omega), A630.1]
  · rw [F2.2.2 y i (by omega) h3, F1.1.A (n1 y (by omega) (by omega)), (A y (by omega) (by omega) (by omega) (by omega) (by omega)).2.2.1]
  · rw [k1.1]; exact D.1.1
  · rw [F2.2.1 2 rfl (by decide)]
    exact F1.2.1
  · unfold r_P
    rw [k1.1, h17]
    exact D.1.2
  · rw [k1.2.1]; exact D.2.1
  · rw [k1.2.1]; exact D.2.2
/-- both reads without a fault -/
theorem r_rdS {W K : Nat → Int64} {h h1 h4 k3 k5 k6 k' : q_Hp} {u b c : Nat} {B B' : q_Bk} {a l t s : Nat} {G : q_Hp} (Q : r_Q W K h u b B a l t s) (hc : c = 311 - b) (A : g_X c h h4) (D : c_dk h h4 (-1)) (cB : ∀ x, c ≤ x → x < c + 289 → qI h4 x = qI G x ∧ qA h4 x = qA G x) (I : c_in h4 h1) (F1 : n_f1 h1 k3) (F2 : n_fz k3 k5) (h17 : qI k5 630 17 = -1) (tk : p_tk k5 k6) (rB : r_cB G c B') (mB : r_mB k6 B') (wB : q_wB B') (mt : p_mt k6 k') : r_Q W K k' u c B' 0 0 t s := by
  obtain ⟨S, q1, q2, q3, q4, hb, q5, w, q6, q7, q8, q9, q10, q11⟩ := Q
  have hb' : b = 11 ∨ b = 300 := hb
  have n1 : ∀ y, ¬ y = 630 → ¬ (632 ≤ y ∧ y ≤ 636) → y ∉ [630, 632, 633, 634, 635, 636] := fun y q1 q2 => by
    simp only [List.mem_cons, List.not_mem_nil, or_false]
    omega
  have n2 : ∀ y, ¬ y = 630 → ¬ y = 691 → ¬ y = 694 → y ∉ [630, 691, 694] := fun y q1 q2 q3 => by
    simp only [List.mem_cons, List.not_mem_nil, or_false]
    omega
  have K1 : ∀ y, ¬ y = 630 → ¬ (632 ≤ y ∧ y ≤ 636) → ¬ (638 ≤ y ∧ y ≤ 691) → ¬ y = 694 → qI k' y = qI h1 y ∧ qR k' y = qR h1 y ∧ qA k' y = qA h1 y ∧ qL k' y = qL h1 y := fun y q1 q2 q3 q4 => by
    have m1 : y ∉ p_L := p_L_n q1 (by omega)
    have m2 := n2 y q1 (by omega) q4
    exact ⟨(mt.2.1.I m2).trans ((tk.2.1.I m1).trans ((F2.1.I m1).trans (F1.1.I (n1 y q1 q2)))), (mt.2.1.R m2).trans ((tk.2.1.R m1).trans ((F2.1.R m1).trans (F1.1.R (n1 y q1 q2)))), (mt.2.1.A m2).trans ((tk.2.1.A m1).trans ((F2.1.A m1).trans (F1.1.A (n1 y q1 q2)))), (mt.2.1.L m2).trans ((tk.2.1.L m1).trans ((F2.1.L m1).trans (F1.1.L (n1 y q1 q2))))⟩
  have n3 : ∀ y, ¬ y = 1 → ¬ (598 ≤ y ∧ y ≤ 601) → ¬ y = 614 → ¬ y = 621 → y ∉ [1, 598, 599, 601, 614, 621] := fun y q1 q2 q3 q4 => by
    simp only [List.mem_cons, List.not_mem_nil, or_false]
    omega
  have kI : ∀ y, y < 630 → qI k' y = qI h1 y := fun y hy => (K1 y (by omega) (by omega) (by omega) (by omega)).1
  have kA : ∀ y, y < 630 → qA k' y = qA h1 y := fun y hy => (K1 y (by omega) (by omega) (by omega) (by omega)).2.2.1
  have k1R : qR k' 1 = qR h1 1 := (K1 1 (by omega) (by omega) (by omega) (by omega)).2.1
  obtain ⟨i1, i2, ⟨i3, i4, i5⟩, i6, ⟨i7, i8⟩, ⟨i9, i10⟩, ⟨i11, i12⟩, i13⟩ := I
  obtain ⟨m1, m2, m3, m4, m5, m6⟩ := mt
  have low : ∀ y, c ≤ y → y < c + 289 → qI k' y = qI G y ∧ qA k' y = qA G y := fun y h1 h2 => by
    rw [kI y (by omega), kA y (by omega), i2.I (n3 y (by omega) (by omega) (by omega) (by omega)), i2.A (n3 y (by omega) (by omega) (by omega) (by omega))]
    exact cB y h1 h2
  have hcB : q_isB c := by
    show c = 11 ∨ c = 300
    omega
  have a4 := A 4 (by omega) (by omega) (by omega) (by omega) (by omega)
  have a637 := A 637 (by omega) (by omega) (by omega) (by omega) (by omega)
  have a599 := A 599 (by omega) (by omega) (by omega) (by omega) (by omega)
  refine ⟨m1, ?_, ⟨0, by decide, ?_, ?_, fun i hi => absurd hi (Nat.not_lt_zero i)⟩, ?_, ⟨0, 0, by decide, by decide, ?_, ?_, ?_, ?_, fun i hi => absurd hi (Nat.not_lt_zero i), fun i hi => absurd hi (Nat.not_lt_zero i)⟩, hcB, ?_, wB, rB.fr hcB wB (fun y h1 h2 => (low y h1 h2).2) (fun y h1 h2 => (low y h1 h2).1), mB.fr (fun y h1 h2 => m2.A (n2 y (by omega) (by omega) (by omega))) (fun i hi => m6 (24 + i) (by omega)), ⟨⟨fun i hi => Or.inl ?_, fun i hi => Or.inl ?_, fun i hi => ?_, fun i hi h9 => ?_⟩, fun i hi h9 => ?_⟩, ?_, ?_, ?_, ?_, ?_⟩
  · unfold r_C
    rw [(K1 4 (by omega) (by omega) (by omega) (by omega)).2.2.2, (K1 637 (by omega) (by omega) (by omega) (by omega)).2.2.2, i2.L (n3 4 (by omega) (by omega) (by omega) (by omega)), i2.L (n3 637 (by omega) (by omega) (by omega) (by omega)), a4.2.2.2, a637.2.2.2]
    exact q1
  · rw [kI 1 (by omega), i3]; exact D.1.1
  · rw [m6 2 (by omega), tk.2.2.2.2.1 2 (by omega), F2.2.1 2 rfl (by decide)]
    exact F1.2.1
  · unfold r_P
    rw [kI 1 (by omega), i3, m6 17 (by omega), tk.2.2.2.2.1 17 (by omega), h17]
    exact D.1.2
  · rw [kI 601 (by omega)]; exact i11
  · exact m5 95 (by omega)
  · rw [kI 601 (by omega)]; exact i12
  · exact m5 96 (by omega)
  · rw [k1R, i4, i5, D.2.1, D.2.2, q5.1, q5.2]
    omega
  · rw [kA 598 (by omega), i6 i (by omega), i6 (12 + i) (by omega), i6 (24 + i) (by omega)]
    unfold d_mt
    rw [if_pos (by omega), if_neg (by omega), if_neg (by omega)]
    exact ⟨rfl, rfl, rfl⟩
  · rw [kA 598 (by omega), i6 (36 + i) (by omega)]
    unfold d_mt
    rw [if_pos (by omega)]
  · rw [kA 598 (by omega), i6 i (by omega), m3 i (by omega)]
    unfold d_mt
    by_cases h9 : i < 12 ∨ 36 ≤ i
    · rw [if_pos h9, if_pos (by omega)]
    · rw [if_neg h9, if_neg (by omega)]
  · rw [kA 598 (by omega), i6 (36 + i) (by omega)] at h9
    unfold d_mt at h9
    rw [if_pos (by omega)] at h9
    exact absurd rfl h9
  · rw [kA 598 (by omega), i6 (36 + i) (by omega)] at h9
    unfold d_mt at h9
    rw [if_pos (by omega)] at h9
    exact absurd rfl h9
  · obtain ⟨g1, g2, g3, g4, g5, g6, g7, g8, g9, g10, g11⟩ := q9
    refine ⟨m5 91 (by omega), m5 92 (by omega), Nat.le_refl _, by decide, ?_, g6, ?_, ?_, Nat.zero_le _, g10, fun j h1 h2 => by omega⟩
    · rw [kI 599 (by omega), i8 2 (by decide), a599.1]; exact g5
    · rw [kI 599 (by omega)]; exact i7
    · rw [kI 599 (by omega), i8 4 (by decide), a599.1]; exact g8
  · intro k hk
    rw [kA 621 (by omega), i13 k hk, m4 k hk]
    exact ⟨rfl, Or.inl rfl, fun h9 => absurd h9 (by decide)⟩
  · rw [kI 614 (by omega), i9]; exact (m5 104 (by omega)).symm
  · rw [kI 614 (by omega), i10]; exact (m5 105 (by omega)).symm
  · intro h9
    rw [kI 614 (by omega), i9] at h9
    exact absurd h9 (by decide)
