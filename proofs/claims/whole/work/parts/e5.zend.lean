/-! THE TWO READS: the end of both -/
section ZE
variable {K P X : Nat → Nat} {V U : Nat → Int64} {e c a C : Nat} {G k hg : q_Hp} {L9 L10 : Nat → Int64} {rF pF : Nat} {t : y_T}
theorem z_cls (Z : zKB K P V U e c L9 L10 rF pF t a G k) (ha : a ≤ e) (he12 : e ≤ 1200) : ∃ C, C ≤ a ∧ qI k 630 84 = nI C ∧ p_Cl K e C k := by
  rcases Z with ⟨Q, D, C, v, Z, q1, q2, q3⟩ | ⟨C, D, B⟩
  · refine ⟨C, q3, Z.2.2.2.2.2.2.2.1, fun x hx => ?_⟩
    obtain ⟨i, j, u1, u2, u3, u4, _⟩ := Z.2.2.2.2.2.2.2.2.2.1 x hx
    exact ⟨⟨i, u1.1, u1.2, u3⟩, 1300 + j, by omega, by omega, u4⟩
  · obtain ⟨⟨b1, b2, b3, b4⟩, n, i, _, W, _⟩ := B
    refine ⟨C, b3, b1, fun x hx => ?_⟩
    obtain ⟨i', j, u1, u2, u3, u4, _⟩ := W x hx
    exact ⟨⟨i', u1.1, u1.2, u3⟩, 1300 + j, by omega, by omega, u4⟩
theorem zRu.k5 {nt ns Q r : Nat} {k5 : q_Hp} (Z : zRu c nt ns Q G k r) (A : ∀ y, ¬ y = 630 → ¬ y = 670 → qA k5 y = qA k y) (hQ : Q ≤ Q) : zRu c nt ns Q G k5 r := Z.fr (q := 21 + r) (fun _ => rfl) (fun _ _ _ => rfl) zA.rf hQ (Nat.le_refl _) (Nat.le_refl _) (fun x i h1 h2 _ => by rw [A x (by omega) (by omega)]) (by omega)
theorem z_fin (T : zTk K P X V U e) (he12 : e ≤ 1200) (Z : zKB K P V U e c (qL hg 9) (qL hg 10) (y_al K).1.2.2.1 (y_al K).1.2.2.2.1 (y_al K).1 a G k) (N : zNm K U e (y_al K).1 k) (nm : c_nm K V hg) (ha : a ≤ e) (h84 : qI k 630 84 = nI C) (hC : C ≤ 1200) : (∃ n i, (¬ n = 0 ∧ n < 10 ∧ i ≤ e) ∧ qI G 589 15 = nI n ∧ qI G 589 16 = nI i ∧ zf P (p_jns U P (y_al K).1.2.2.1 (y_al K).1.2.2.2.1 C 0 (q_sI k 630 17 (-1))) n i) ∨ (qI G 589 15 = 0 ∧ qI (p_jns U P (y_al K).1.2.2.1 (y_al K).1.2.2.2.1 C 0 (q_sI k 630 17 (-1))) 630 15 = 0 ∧ ∀ k5, (∀ y, ¬ y = 630 → qA k5 y = qA (p_jns U P (y_al K).1.2.2.1 (y_al K).1.2.2.2.1 C 0 (q_sI k 630 17 (-1))) y) → (∀ j, ¬ (11 ≤ j ∧ j ≤ 17) → qI k5 630 j = qI (p_jns U P (y_al K).1.2.2.1 (y_al K).1.2.2.2.1 C 0 (q_sI k 630 17 (-1))) 630 j) → (∀ y, ¬ y = 630 → qL k5 y = qL (p_jns U P (y_al K).1.2.2.1 (y_al K).1.2.2.2.1 C 0 (q_sI k 630 17 (-1))) y) → ∀ k6, p_tk k5 k6 → ∃ B, r_cB G c B ∧ r_mB k6 B ∧ q_wB B) := by
  have Z9 : zna K V U e (qL hg 9) (qL k 676) (y_al K).1.2.2.1 := fun i hi => ⟨_, (N.1 i hi).1, nm.1 i hi, (N.1 i hi).2⟩
  have Z10 : zna K V U e (qL hg 10) (qL k 677) (y_al K).1.2.2.2.1 := fun i hi => ⟨_, (N.2 i hi).1, nm.2.1 i hi, (N.2 i hi).2⟩
  have kA : ∀ y, qA (q_sI k 630 17 (-1)) y = qA k y := fun y => by rw [qA_sI]
  have kL : ∀ y, qL (q_sI k 630 17 (-1)) y = qL k y := fun y => by rw [qL_sI]
  have kI : ∀ j, ¬ j = 17 → qI (q_sI k 630 17 (-1)) 630 j = qI k 630 j := fun j hj => q_sI_n (fun h9 => hj h9.2)
  generalize q_sI k 630 17 (-1) = k1 at *
  rcases Z with ⟨Q, D, C', v, Z, q1, q2, q3⟩ | ⟨C', D, B⟩
  · right
    obtain ⟨⟨O, _, _⟩, zt, zc, ⟨hr20, i2, k20, _, ru⟩, ⟨np10, i3, k21, _, pp⟩, i5, k23, k84, dos, Rc⟩ := Z
    obtain rfl : C = C' := (nI_eq (by omega) (by omega)).mp (h84.symm.trans k84)
    have Rc1 : zRc K V (qL hg 9) (qL hg 10) (y_al K).1.2.2.1 (y_al K).1.2.2.2.1 e C D v k1 := by
      unfold zRc
      rw [kA 689, kA 690, kA 669]
      exact Rc
    obtain ⟨j1, j2, j3, j4, j5, j6⟩ := z_jnA (X := X) (P := P) T (D := D) (v := v) (by omega) C 0 k1 (by rw [kL]; exact Z9) (by rw [kL]; exact Z10) (Nat.zero_add C) ((kI 15 (by decide)).trans O.2) Rc1 (fun x hx => absurd hx (Nat.not_lt_zero x))
    refine ⟨O.1, j1, fun k5 A5 I5 L5 k6 tk => ?_⟩
    generalize p_jns U P (y_al K).1.2.2.1 (y_al K).1.2.2.2.1 C 0 k1 = J at *
    have a5 : ∀ y, ¬ y = 630 → ¬ y = 670 → qA k5 y = qA k y := fun y h1 h2 => by rw [A5 y h1, j2 y h2, kA]
    have i5' : ∀ j, ¬ (11 ≤ j ∧ j ≤ 17) → qI k5 630 j = qI k 630 j := fun j hj => by rw [I5 j hj, j3 j (by omega), kI j (by omega)]
    have l5 : ∀ y, ¬ y = 630 → qL k5 y = qL k y := fun y hy => by rw [L5 y hy, j4, kL]
    refine z_book (c := c) (v := v) (D := D) (np := (y_al K).1.2.2.2.1) (nr := (y_al K).1.2.2.1) (zt.fr rfl rfl (i5' 18 (by decide)) (i5' 19 (by decide)) rfl rfl (l5 674 (by decide)) (l5 675 (by decide)) rfl rfl rfl (a5 638 (by decide) (by decide)) (a5 639 (by decide) (by decide)) (a5 640 (by decide) (by decide))) (zc.fr rfl (i5' 22 (by decide)) zA.rf (fun x hx => a5 x (by omega) (by omega))) (by omega) ⟨hr20, i2, (i5' 20 (by decide)).trans k20⟩ (fun r hr => (ru r hr).k5 a5 (Nat.le_refl _)) ⟨np10, i3, (i5' 21 (by decide)).trans k21⟩ (fun p hp => ?_) (by omega) i5 (fun j hj => ⟨?_, (dos j hj).2⟩) (fun j hj hk => ?_) tk
    · rw [a5 673 (by decide) (by decide)]
      exact pp p hp
    · obtain ⟨z1, z4, z5, z6, z7⟩ := (dos j hj).1
      refine ⟨z1, ?_, fun q => ?_, ?_, fun i hi => ?_⟩
      · rw [a5 669 (by decide) (by decide)]; exact z4
      · rw [A5 670 (by decide), j5 (1300 + j) (fun x hx h9 => ?_) (by omega), kA]
        · exact z5 q
        · obtain ⟨i', y, u1, u2, u3, u4, u5, u6, _⟩ := Rc.1 x hx
          rw [kA, u4] at h9
          have := (nI_eq (by omega) (by omega)).mp h9
          have : y = j := by omega
          subst this
          omega
      · rw [a5 672 (by decide) (by decide)]; exact z6
      · rw [a5 671 (by decide) (by decide)]; exact z7 i hi
    · rw [A5 670 (by decide)]
      exact j6 j hj hk
  · left
    obtain ⟨⟨b1, b2, b3, b4⟩, n, i, ⟨n1, n2, n3, n4, n5, n6⟩, W, F⟩ := B
    obtain rfl : C = C' := (nI_eq (by omega) (by omega)).mp (h84.symm.trans b1)
    refine ⟨n, i, ⟨n1, n2, n4⟩, n5, n6, ?_⟩
    refine z_jnB (X := X) (D := D) T he12 n1 n2 n4 C 0 k1 (by rw [kL]; exact Z9) (by rw [kL]; exact Z10) (Nat.zero_add C) (fun x _ hx => ?_) ?_
    · obtain ⟨i', j, u1, u2, u3, u4, u5⟩ := W x hx
      rw [kA, kA, kA]
      exact ⟨i', j, u1, u2, by omega, u3, u4, u5⟩
    · unfold zf at F ⊢
      rw [kI 15 (by decide), kI 16 (by decide)]
      rcases F with F | ⟨f1, f2, x, j, f3, f4, f5, f6, f7⟩
      · exact Or.inl F
      · refine Or.inr ⟨f1, f2, x, j, Nat.zero_le _, f3, f4, ?_⟩
        rw [kA, kA, kA]
        exact ⟨f5, f6, f7⟩
end ZE
