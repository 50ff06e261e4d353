/-! THE CLASS'S READ: a book is put in place -/
/-- books changed, diagram emptied, no history, no run, no hand, nothing kept -/
def c_in (h h' : q_Hp) : Prop := q_Sh h' ∧ q_Ef [1, 598, 599, 601, 614, 621] h h' ∧ (qI h' 1 = qI h 1 ∧ qR h' 1 5 = qR h 1 6 ∧ qR h' 1 6 = qR h 1 5) ∧ (∀ i, i < 156 → qA h' 598 i = d_mt i) ∧ (qI h' 599 3 = 0 ∧ ∀ j, ¬ j = 3 → qI h' 599 j = qI h 599 j) ∧ (qI h' 614 4 = 0 ∧ qI h' 614 5 = 0) ∧ (qI h' 601 14 = 0 ∧ qI h' 601 15 = 0) ∧ ∀ i, i < 4 → qA h' 621 i = 0
theorem s61w {h : q_Hp} (S : q_Sh h) : q_mV 0 61 [.ref 597] h (fun h' => q_Ef [598] h h' ∧ ∀ i, i < 156 → qA h' 598 i = d_mt i) := by
  refine (s61 S.dg).mono (by decide) ?_
  rintro h1 ⟨g, rfl, hg⟩
  refine ⟨q_Ef.wA (by decide), fun i hi => ?_⟩
  rw [qA_wAs]
  exact hg i hi
theorem s84w {h : q_Hp} (S : q_Sh h) : q_mV 0 84 [.ref 599] h (fun h' => q_Ef [599] h h' ∧ qI h' 599 3 = 0 ∧ ∀ j, ¬ j = 3 → qI h' 599 j = qI h 599 j) := by
  refine (s84 S).mono (by decide) ?_
  rintro h1 rfl
  exact ⟨q_Ef.sI (by decide), q_sI_e, fun j hj => q_sI_n (fun h9 => hj h9.2)⟩
theorem s143w {h : q_Hp} (S : q_Sh h) : q_mV 0 143 [.ref 614] h (fun h' => q_Ef [614] h h' ∧ qI h' 614 4 = 0 ∧ qI h' 614 5 = 0) := by
  refine (s143 S).mono (by decide) ?_
  rintro h1 rfl
  refine ⟨((q_Ef.sI (by decide)).trans (q_Ef.sI (by decide))).trans (q_Ef.sI (by decide)), ?_, ?_⟩
  · rw [q_sI_n (by decide), q_sI_n (by decide), q_sI_e]
  · rw [q_sI_n (by decide), q_sI_e]
theorem s114w {h : q_Hp} (S : q_Sh h) : q_mV 0 114 [.ref 601] h (fun h' => q_Ef [601] h h' ∧ qI h' 601 14 = 0 ∧ qI h' 601 15 = 0) := by
  refine (s114 S).mono (by decide) ?_
  rintro h1 rfl
  refine ⟨(q_Ef.sI (by decide)).trans (q_Ef.sI (by decide)), ?_, ?_⟩
  · rw [q_sI_n (by decide), q_sI_e]
  · rw [q_sI_e]
theorem s235_48 {h : q_Hp} {Q : Option Value → q_Hp → Prop} {x1 : Nat} (fin : ∀ h', q_Ef [621] h h' → (∀ i, i < 4 → qA h' 621 i = 0) → Q none h') (S : q_Sh h) : ∀ m j h1, j + m = 4 → q_Ef [621] h h1 → (∀ i, i < j → qA h1 621 i = 0) → q_wp 2 235 48 [some (.ref 1), some (.ref x1), some (.int (nI j))] [] h1 Q := by
  intro m
  induction m with
  | zero =>
    intro j h1 hj E5 H5
    obtain rfl : j = 4 := by omega
    exact b235_48 (fun _ => b235_66 (fin _ E5 H5)) (fun c => absurd (show (4 : Int32) ≤ nI 4 by decide) c)
  | succ m ih =>
    intro j h1 hj E5 H5
    have S5 := E5.sh S
    refine b235_48 (fun c => ?_) (fun _ => b235_53 (v0 := 621) (S5.ok rfl) (S5.ref rfl) (S5.ok rfl) (S5.inN (n := 4) rfl (by omega) (by decide)) ?_)
    · have := (nI_leI (a := 4) (by decide) (by omega)).mp c
      omega
    rw [nI_clamp (by omega), nI_1, show vp_nar .boolean (0 : Int32) = 0 by decide]
    refine ih (j + 1) _ (by omega) (E5.trans (q_Ef.sA (by decide))) (fun i hi => ?_)
    rw [qA_sA]
    by_cases h9 : i = j
    · rw [if_pos ⟨rfl, h9⟩]
    · rw [if_neg (fun h8 => h9 h8.2)]
      exact H5 i (by omega)
theorem s235 {h : q_Hp} (S : q_Sh h) : q_mV 2 235 [.ref 1] h (fun h' => c_in h h') := by
  refine q_mV.of (q_recV rfl (S.ok rfl)) (fun Q fin => ?_)
  have e8 : ∀ x y, qR (q_sR (q_sR h 1 6 x) 1 5 y) 1 8 = 597 := fun x y => by
    rw [qR_sR, if_neg (by decide), qR_sR, if_neg (by decide)]
    exact S.ref rfl
  refine b235_0 (n := 1) (v0 := qR h 1 6) (v1 := qR h 1 5) (v2 := 597) (P := fun h' => q_Ef [1, 598] h h' ∧ (qI h' 1 = qI h 1 ∧ qR h' 1 5 = qR h 1 6 ∧ qR h' 1 6 = qR h 1 5) ∧ ∀ i, i < 156 → qA h' 598 i = d_mt i) (S.ok rfl) rfl rfl (e8 _ _) ?_ (Nat.zero_le _) ?_
  · have S1 : q_Sh (q_sR (q_sR h 1 6 (qR h 1 5)) 1 5 (qR h 1 6)) := (S.sR rfl).sR rfl
    have E1 : q_Ef [1, 598] h (q_sR (q_sR h 1 6 (qR h 1 5)) 1 5 (qR h 1 6)) := (q_Ef.sR (by decide) rfl).trans (q_Ef.sR (by decide) rfl)
    have f1 : qI (q_sR (q_sR h 1 6 (qR h 1 5)) 1 5 (qR h 1 6)) 1 = qI h 1 := by rw [qI_sR, qI_sR]
    have f2 : qR (q_sR (q_sR h 1 6 (qR h 1 5)) 1 5 (qR h 1 6)) 1 5 = qR h 1 6 := by rw [qR_sR, if_pos ⟨rfl, rfl⟩]
    have f3 : qR (q_sR (q_sR h 1 6 (qR h 1 5)) 1 5 (qR h 1 6)) 1 6 = qR h 1 5 := by rw [qR_sR, if_neg (by decide), qR_sR, if_pos ⟨rfl, rfl⟩]
    generalize q_sR (q_sR h 1 6 (qR h 1 5)) 1 5 (qR h 1 6) = h1 at *
    refine (s61w S1).mono (Nat.le_refl _) ?_
    rintro h2 ⟨E2, H2⟩
    refine ⟨E1.trans (E2.wide (by decide)), ?_, H2⟩
    rw [E2.I (show 1 ∉ [598] by decide), E2.R (show 1 ∉ [598] by decide)]
    exact ⟨f1, f2, f3⟩
  generalize hx6 : qR h 1 6 = x6
  rintro h1 ⟨E1, F1, G1⟩
  have S1 := E1.sh S
  refine b235_25 (v0 := 599) (S1.ok rfl) (S1.ref rfl) (s84w S1) (by decide) ?_
  rintro h2 ⟨E2, F2⟩
  have S2 := E2.sh S1
  refine b235_32 (v0 := 614) (S2.ok rfl) (S2.ref rfl) (s143w S2) (by decide) ?_
  rintro h3 ⟨E3, F3⟩
  have S3 := E3.sh S2
  refine b235_39 (v0 := 601) (S3.ok rfl) (S3.ref rfl) (s114w S3) (by decide) ?_
  rintro h4 ⟨E4, F4⟩
  have S4 := E4.sh S3
  refine b235_46 (q_wp.le (Nat.le_refl _) (s235_48 (fun h5 E5 H5 => fin _ ⟨E5.sh S4, ?_, ?_, ?_, ?_, ?_, ?_, H5⟩) S4 4 0 _ rfl q_Ef.rf (fun i hi => absurd hi (Nat.not_lt_zero i))))
  · exact ((((E1.wide (by decide)).trans (E2.wide (by decide))).trans (E3.wide (by decide))).trans (E4.wide (by decide))).trans (E5.wide (by decide))
  · rw [E5.I (show 1 ∉ [621] by decide), E5.R (show 1 ∉ [621] by decide), E4.I (show 1 ∉ [601] by decide), E4.R (show 1 ∉ [601] by decide), E3.I (show 1 ∉ [614] by decide), E3.R (show 1 ∉ [614] by decide), E2.I (show 1 ∉ [599] by decide), E2.R (show 1 ∉ [599] by decide)]
    rw [hx6]
    exact F1
  · rw [E5.A (show 598 ∉ [621] by decide), E4.A (show 598 ∉ [601] by decide), E3.A (show 598 ∉ [614] by decide), E2.A (show 598 ∉ [599] by decide)]
    exact G1
  · rw [E5.I (show 599 ∉ [621] by decide), E4.I (show 599 ∉ [601] by decide), E3.I (show 599 ∉ [614] by decide)]
    refine ⟨F2.1, fun j hj => ?_⟩
    rw [F2.2 j hj, E1.I (show 599 ∉ [1, 598] by decide)]
  · rw [E5.I (show 614 ∉ [621] by decide), E4.I (show 614 ∉ [601] by decide)]
    exact F3
  · rw [E5.I (show 601 ∉ [621] by decide)]
    exact F4
