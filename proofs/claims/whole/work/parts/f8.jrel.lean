/-! THE CONSTRUCTORS: the relation behind both -/
def q_H0 : q_Hp := (0, fun _ => q_kd0 0, fun _ _ => 0, fun _ _ => 0, fun _ _ => 0, fun _ _ => 0, 0)
def j_f0 : j_F := (fun _ _ => 0, fun _ _ => 0, fun _ _ => 0)
theorem j_J0 : j_J 0 [] j_f0 q_H0 := by
  refine ⟨⟨rfl, rfl, by decide⟩, fun a ha => ?_, fun o s ho h0 _ => ?_, ⟨rfl, rfl, rfl⟩, fun _ _ _ => ⟨rfl, rfl, rfl⟩⟩
  · obtain rfl : a = 0 := by omega
    rfl
  · obtain rfl : o = 0 := by omega
    exact absurd h0 (j_fr0 rfl s)
def q_B0 : q_Bk := (fun _ => 0, fun _ _ => 0, fun _ => 0, fun _ _ => 0, fun _ _ => 0, fun _ _ _ => 0)
theorem q_wB0 : q_wB q_B0 := by
  have no : ∀ (p : Nat → Prop), ∀ j, j < 0 → p j := fun p j hj => absurd hj (Nat.not_lt_zero j)
  exact ⟨Nat.zero_le _, Nat.zero_le _, Nat.zero_le _, Nat.zero_le _, Nat.zero_le _, Nat.zero_le _, no _, no _, no _, ⟨fun _ => 0, no _, no _⟩, no _⟩
section JR
variable {w w2 : Nat → Int64} {g g2 : Nat → Int32} {k h : q_Hp}
theorem j_f1_I : (j_f1 j_f0 w g g2).1 = q_up (q_up (fun _ _ => 0) 1 2 (-1)) 614 6 (-1) := rfl
theorem j_k_I (J : j_J 712 [] (jL (q_up (j_f1 j_f0 w g g2).1 630 17 (-1), (j_f1 j_f0 w g g2).2) 637 w2) k) {x j : Nat} (h1 : ¬ (x = 1 ∧ j = 2)) (h2 : ¬ (x = 614 ∧ j = 6)) (h3 : ¬ (x = 630 ∧ j = 17)) : qI k x j = 0 := by
  rw [J.2.2.2.1.1]
  show (if x = 630 ∧ j = 17 then (-1 : Int32) else if x = 614 ∧ j = 6 then -1 else if x = 1 ∧ j = 2 then -1 else 0) = 0
  rw [if_neg h3, if_neg h2, if_neg h1]
theorem j_k_A (J : j_J 712 [] (jL (q_up (j_f1 j_f0 w g g2).1 630 17 (-1), (j_f1 j_f0 w g g2).2) 637 w2) k) {x : Nat} (h1 : ¬ x = 598) (h2 : ¬ x = 623) (j : Nat) : qA k x j = 0 := by
  rw [J.2.2.2.1.2.1]
  show (if x = 623 then g2 else if x = 598 then g else fun _ => (0 : Int32)) j = 0
  rw [if_neg h2, if_neg h1]
theorem r_start (hw : ∀ j, j < 25 → w j = t_W j) (hw2 : ∀ j, j < 25 → w2 j = t_K j) (hg : ∀ i, i < 156 → g i = d_mt i) (J : j_J 712 [] (jL (q_up (j_f1 j_f0 w g g2).1 630 17 (-1), (j_f1 j_f0 w g g2).2) 637 w2) k) (M : p_mt k h) : r_R t_W t_K h 0 := by
  have kI := fun {x j : Nat} h1 h2 h3 => j_k_I J (x := x) (j := j) h1 h2 h3
  have kA := fun {x : Nat} h1 h2 j => j_k_A J (x := x) h1 h2 j
  have k12 : qI k 1 2 = -1 := by
    rw [J.2.2.2.1.1]
    show (if 1 = 630 ∧ 2 = 17 then (-1 : Int32) else if 1 = 614 ∧ 2 = 6 then -1 else if 1 = 1 ∧ 2 = 2 then -1 else 0) = -1
    rw [if_neg (by decide), if_neg (by decide), if_pos ⟨rfl, rfl⟩]
  have k17 : qI k 630 17 = -1 := by
    rw [J.2.2.2.1.1]
    show q_up (j_f1 j_f0 w g g2).1 630 17 (-1) 630 17 = -1
    unfold q_up
    rw [if_pos ⟨rfl, rfl⟩]
  have k598 : qA k 598 = g := by
    rw [J.2.2.2.1.2.1]
    show (if 598 = 623 then g2 else if 598 = 598 then g else fun _ => (0 : Int32)) = g
    rw [if_neg (by decide), if_pos rfl]
  have k4 : qL k 4 = w := by
    rw [J.2.2.2.1.2.2]
    show (if 4 = 637 then w2 else if 4 = 4 then w else fun _ => (0 : Int64)) = w
    rw [if_neg (by decide), if_pos rfl]
  have k637 : qL k 637 = w2 := by
    rw [J.2.2.2.1.2.2]
    show (if 637 = 637 then w2 else (j_f1 j_f0 w g g2).2.2 637) = w2
    rw [if_pos rfl]
  have r5 : qR k 1 5 = 11 := J.R (by decide) rfl (by decide) (fun e he => absurd he List.not_mem_nil)
  have r6 : qR k 1 6 = 300 := J.R (by decide) rfl (by decide) (fun e he => absurd he List.not_mem_nil)
  obtain ⟨m1, m2, m3, m4, m5, m6⟩ := M
  have n2 : ∀ y, ¬ y = 630 → ¬ y = 691 → ¬ y = 694 → y ∉ [630, 691, 694] := fun y q1 q2 q3 => by
    simp only [List.mem_cons, List.not_mem_nil, or_false]
    omega
  have hI : ∀ y, y < 630 → qI h y = qI k y := fun y hy => m2.I (n2 y (by omega) (by omega) (by omega))
  have hA : ∀ y, y < 630 → qA h y = qA k y := fun y hy => m2.A (n2 y (by omega) (by omega) (by omega))
  have no : ∀ (p : Nat → Prop), ∀ j, j < 0 → p j := fun p j hj => absurd hj (Nat.not_lt_zero j)
  have d598 : ∀ i, i < 156 → qA h 598 i = d_mt i := fun i hi => by
    rw [hA 598 (by decide), k598]
    exact hg i hi
  refine ⟨11, q_B0, 0, 0, 0, 0, m1, ⟨fun i hi => ?_, fun i hi => ?_⟩, ⟨0, by decide, ?_, ?_, no _⟩, ?_, ⟨0, 0, by decide, by decide, ?_, ?_, ?_, ?_, no _, no _⟩, Or.inl rfl, ⟨?_, ?_⟩, q_wB0, ⟨fun i hi => ?_, no _, no _, no _, no _, no _, no _⟩, ⟨fun i hi => ?_, no _, no _, no _, no _, no _, no _⟩, ⟨⟨fun i hi => Or.inl ?_, fun i hi => Or.inl ?_, fun i hi => ?_, fun i hi h9 => ?_⟩, fun i hi h9 => ?_⟩, ?_, ?_, ?_, ?_, ?_⟩
  · rw [m2.L (n2 4 (by omega) (by omega) (by omega)), k4]
    exact hw i hi
  · rw [m2.L (n2 637 (by omega) (by omega) (by omega)), k637]
    exact hw2 i hi
  · rw [hI 1 (by decide)]
    exact kI (by decide) (by decide) (by decide)
  · rw [m6 2 (by omega)]
    exact kI (by decide) (by decide) (by decide)
  · unfold r_P
    rw [hI 1 (by decide), k12, m6 17 (by omega), k17]
  · rw [hI 601 (by decide)]
    exact kI (by decide) (by decide) (by decide)
  · exact m5 95 (by omega)
  · rw [hI 601 (by decide)]
    exact kI (by decide) (by decide) (by decide)
  · exact m5 96 (by omega)
  · rw [m2.R (n2 1 (by omega) (by omega) (by omega))]
    exact r5
  · rw [m2.R (n2 1 (by omega) (by omega) (by omega))]
    exact r6
  · rw [hI 11 (by decide)]
    exact kI (by omega) (by omega) (by omega)
  · rw [m6 (24 + i) (by omega)]
    exact kI (by omega) (by omega) (by omega)
  · rw [d598 i (by omega), d598 (12 + i) (by omega), d598 (24 + i) (by omega)]
    unfold d_mt
    rw [if_pos (by omega), if_neg (by omega), if_neg (by omega)]
    exact ⟨rfl, rfl, rfl⟩
  · rw [d598 (36 + i) (by omega)]
    unfold d_mt
    rw [if_pos (by omega)]
  · rw [d598 i (by omega), m3 i (by omega)]
    unfold d_mt
    by_cases h9 : i < 12 ∨ 36 ≤ i
    · rw [if_pos h9, if_pos (by omega)]
    · rw [if_neg h9, if_neg (by omega)]
  · rw [d598 (36 + i) (by omega)] at h9
    unfold d_mt at h9
    rw [if_pos (by omega)] at h9
    exact absurd rfl h9
  · rw [d598 (36 + i) (by omega)] at h9
    unfold d_mt at h9
    rw [if_pos (by omega)] at h9
    exact absurd rfl h9
  · refine ⟨m5 91 (by omega), m5 92 (by omega), Nat.le_refl _, by decide, ?_, by decide, ?_, ?_, Nat.le_refl _, Nat.le_refl _, fun j h1 h2 => by omega⟩
    · rw [hI 599 (by decide)]; exact kI (by decide) (by decide) (by decide)
    · rw [hI 599 (by decide)]; exact kI (by decide) (by decide) (by decide)
    · rw [hI 599 (by decide)]; exact kI (by decide) (by decide) (by decide)
  · intro k' hk
    have e1 : qA h 621 k' = 0 := by
      rw [hA 621 (by decide)]
      exact kA (by decide) (by decide) k'
    rw [e1, m4 k' hk]
    exact ⟨rfl, Or.inl rfl, fun h9 => absurd h9 (by decide)⟩
  · rw [hI 614 (by decide), kI (by decide) (by decide) (by decide)]; exact (m5 104 (by omega)).symm
  · rw [hI 614 (by decide), kI (by decide) (by decide) (by decide)]; exact (m5 105 (by omega)).symm
  · intro h9
    rw [hI 614 (by decide), kI (by decide) (by decide) (by decide)] at h9
    exact absurd h9 (by decide)
theorem j_start : q_mV 10 210 [.ref 1] (q_al q_H0 11 (q_nf 11)) (fun h1 => (qN h1 = 629 ∧ qZ h1 = j_z 629) ∧ q_mV 10 236 [.ref 630] (q_al h1 12 (q_nf 12)) (fun h2 => r_R t_W t_K h2 0 ∧ qN h2 = 712 ∧ qZ h2 = j_z 712)) := by
  have J1 := j_J0.al (kd := 11) (n := q_nf 11) rfl (by decide)
  refine (j210 J1).mono (Nat.le_refl _) ?_
  rintro h1 ⟨w, g, g2, hw, hg, hg2, J⟩
  refine ⟨⟨J.1.1, J.1.2.1⟩, ?_⟩
  have J2 := J.al (kd := 12) (n := q_nf 12) rfl (by decide)
  refine (j236 J2).mono (by decide) ?_
  rintro h2 ⟨w2, k, hw2, J3, M⟩
  refine ⟨r_start hw hw2 hg J3 M, ?_, ?_⟩
  · rw [M.2.1.1]
    exact J3.1.1
  · rw [M.2.1.2.1]
    exact J3.1.2.1
theorem j_z712 : j_z 712 = 172876 := by decide +kernel
end JR
