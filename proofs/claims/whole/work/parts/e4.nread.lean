/-! THE REFERENCE'S READ: up to the tells -/
theorem t_nar8 (x : Int32) : (vp_nar .byte x).toBitVec.toNat % 256 = x.toBitVec.toNat % 256 := by
  have e1 : (vp_nar .byte x).toBitVec = (x.toBitVec.signExtend 8).signExtend 32 := by
    show (x.toInt8.toInt32).toBitVec = _
    rw [Int8.toBitVec_toInt32, Int32.toBitVec_toInt8]
  rw [e1, BitVec.toNat_signExtend, BitVec.toNat_setWidth, BitVec.toNat_signExtend, BitVec.toNat_setWidth]
  split
  · split <;> omega
  · split <;> omega
section NR
variable {K P X : Nat → Nat} {V U : Nat → Int64} {e c : Nat} {k : q_Hp}
def n_f1 (k k3 : q_Hp) : Prop := q_Ef [630, 632, 633, 634, 635, 636] k k3 ∧ qI k3 630 2 = 0 ∧ ∀ j, ¬ (j = 2 ∨ j = 4 ∨ (10 ≤ j ∧ j ≤ 13) ∨ j = 15 ∨ (18 ≤ j ∧ j ≤ 23) ∨ j = 84) → qI k3 630 j = qI k 630 j
def n_s0 (k3 : q_Hp) : Prop := (∀ j, j = 11 ∨ j = 12 ∨ j = 13 ∨ j = 15 ∨ j = 18 ∨ j = 19 ∨ j = 20 ∨ j = 21 ∨ j = 84 → qI k3 630 j = 0) ∧ qI k3 630 22 = nI 1300 ∧ qI k3 630 23 = nI 1300
theorem s260_45 {Q : Option Value → q_Hp → Prop} {x : Int32} (S : q_Sh k) (cont : ∀ k3, q_Sh k3 → q_Ef [630] k k3 → n_s0 k3 → (∀ j, ¬ ((11 ≤ j ∧ j ≤ 13) ∨ j = 15 ∨ (18 ≤ j ∧ j ≤ 23) ∨ j = 84) → qI k3 630 j = qI k 630 j) → q_wp 7 260 104 [some (.ref 630), some (.int x)] [] k3 Q) : q_wp 7 260 45 [some (.ref 630), some (.int x)] [] k Q := by
  refine b260_45 (S.ok rfl) ?_
  refine cont _ S ?_ ⟨?_, ?_, ?_⟩ ?_
  · exact ((((((((((q_Ef.sI (by decide)).trans (q_Ef.sI (by decide))).trans (q_Ef.sI (by decide))).trans (q_Ef.sI (by decide))).trans (q_Ef.sI (by decide))).trans (q_Ef.sI (by decide))).trans (q_Ef.sI (by decide))).trans (q_Ef.sI (by decide))).trans (q_Ef.sI (by decide))).trans (q_Ef.sI (by decide))).trans (q_Ef.sI (by decide))
  · intro j hj
    by_cases h1 : j = 84
    · rw [h1, q_sI_e]
    rw [q_sI_n (by omega), q_sI_n (by omega), q_sI_n (by omega)]
    by_cases h2 : j = 21
    · rw [h2, q_sI_e]
    rw [q_sI_n (by omega)]
    by_cases h3 : j = 20
    · rw [h3, q_sI_e]
    rw [q_sI_n (by omega)]
    by_cases h4 : j = 19
    · rw [h4, q_sI_e]
    rw [q_sI_n (by omega)]
    by_cases h5 : j = 18
    · rw [h5, q_sI_e]
    rw [q_sI_n (by omega)]
    by_cases h6 : j = 15
    · rw [h6, q_sI_e]
    rw [q_sI_n (by omega)]
    by_cases h7 : j = 13
    · rw [h7, q_sI_e]
    rw [q_sI_n (by omega)]
    by_cases h8 : j = 12
    · rw [h8, q_sI_e]
    rw [q_sI_n (by omega), show j = 11 by omega, q_sI_e]
  · rw [q_sI_n (by omega), q_sI_n (by omega), q_sI_e]
    rfl
  · rw [q_sI_n (by omega), q_sI_e]
    rfl
  · intro j hj
    rw [q_sI_n (by omega), q_sI_n (by omega), q_sI_n (by omega), q_sI_n (by omega), q_sI_n (by omega), q_sI_n (by omega), q_sI_n (by omega), q_sI_n (by omega), q_sI_n (by omega), q_sI_n (by omega), q_sI_n (by omega)]
theorem s260_10 {Q : Option Value → q_Hp → Prop} {n : Nat} (S : q_Sh k) (hz : qI k 630 4 = nI n) (hn : n ≤ 4000) (cont : ∀ k1 x, q_Ef [632] k k1 → (∀ i, i < n → t_by (qA k1 632) i = t_by (qA k 631) i) → q_wp 7 260 36 [some (.ref 630), some (.int x)] [] k1 Q) : ∀ m j k1, j + m = n → q_Ef [632] k k1 → (∀ i, i < j → t_by (qA k1 632) i = t_by (qA k 631) i) → q_wp 7 260 10 [some (.ref 630), some (.int (nI j))] [] k1 Q := by
  intro m
  induction m with
  | zero =>
    intro j k1 hj E H
    obtain rfl : j = n := by omega
    have S1 := E.sh S
    refine b260_10 (S1.ok rfl) (fun _ => cont _ _ E H) (fun c => ?_)
    rw [E.I (show 630 ∉ [632] by decide), hz] at c
    exact absurd (Int32.le_refl _) c
  | succ m ih =>
    intro j k1 hj E H
    have S1 := E.sh S
    refine b260_10 (S1.ok rfl) (fun c => ?_) (fun _ => b260_18 (v0 := 632) (v1 := 631) (S1.ok rfl) (S1.ref rfl) (S1.ref rfl) (Or.inl (S1.ok rfl)) (S1.inN (n := 4000) rfl (by omega) (by decide)) (S1.ok rfl) (S1.inN (n := 4000) rfl (by omega) (by decide)) ?_)
    · rw [E.I (show 630 ∉ [632] by decide), hz] at c
      have := (nI_leI (by omega) (by omega)).mp c
      omega
    rw [nI_clamp (by omega), nI_1]
    refine ih (j + 1) _ (by omega) (E.trans (q_Ef.sA (by decide))) (fun i hi => ?_)
    by_cases h9 : i = j
    · subst h9
      show (qA (q_sA k1 632 i _) 632 i).toBitVec.toNat % 256 = _
      rw [qA_sAe, t_nar8, E.A (show 631 ∉ [632] by decide)]
      rfl
    · show (qA (q_sA k1 632 j _) 632 i).toBitVec.toNat % 256 = _
      rw [qA_sAp (by omega)]
      exact H i (by omega)
theorem s260_pre {Q : Option Value → q_Hp → Prop} {n : Nat} {b : Nat → Nat} (S : q_Sh k) (hK : ∀ i, i < 25 → qL k 637 i = t_K i) (h2 : qI k 630 2 = nI n) (hn : n ≤ 4000) (hb : ∀ i, i < n → b i = t_by (qA k 631) i) (cont : ∀ k3 x, q_Sh k3 → p_C k3 (t_tk b n) (zP b n) (zXn b n) (zU b n) (t_e b n) → n_s0 k3 → n_f1 k k3 → q_wp 7 260 104 [some (.ref 630), some (.int x)] [] k3 Q) : q_wp 7 260 0 [some (.ref 630), none] [] k Q := by
  refine b260_0 (S.ok rfl) ?_
  have E0 : q_Ef [630] k (q_sI k 630 4 (qI k 630 2)) := q_Ef.sI (by decide)
  have z4 : qI (q_sI k 630 4 (qI k 630 2)) 630 4 = nI n := by rw [q_sI_e]; exact h2
  have I4 : ∀ j, ¬ j = 4 → qI (q_sI k 630 4 (qI k 630 2)) 630 j = qI k 630 j := fun j hj => q_sI_n (fun h9 => hj h9.2)
  generalize q_sI k 630 4 (qI k 630 2) = k0 at *
  refine s260_10 (k := k0) (n := n) (E0.sh S) z4 hn (fun k1 x E1 H1 => ?_) n 0 k0 (Nat.zero_add n) q_Ef.rf (fun i hi => absurd hi (Nat.not_lt_zero i))
  have S1 : q_Sh k1 := E1.sh (E0.sh S)
  have E2 : q_Ef [630] k1 (q_sI k1 630 2 0) := q_Ef.sI (by decide)
  have z2 : qI (q_sI k1 630 2 0) 630 2 = 0 := q_sI_e
  have I2 : ∀ j, ¬ j = 2 → qI (q_sI k1 630 2 0) 630 j = qI k0 630 j := fun j hj => by
    rw [q_sI_n (fun h9 => hj h9.2), E1.I (show 630 ∉ [632] by decide)]
  have A2 : qA (q_sI k1 630 2 0) 632 = qA k1 632 := by rw [qA_sI]
  have L2 : qL (q_sI k1 630 2 0) 637 = qL k 637 := by rw [qL_sI, E1.L (show 637 ∉ [632] by decide), E0.L (show 637 ∉ [630] by decide)]
  have ok1 : q_ok k1 630 12 := S1.ok rfl
  have S2 : q_Sh (q_sI k1 630 2 0) := S1
  refine b260_36 (n := 6) ok1 (P := fun k' => n_fq (q_sI k1 630 2 0) k' ∧ ∀ i, i ≤ t_e (t_by (qA k1 632)) n → n_rw k' (t_by (qA k1 632)) n i) (m := 3) ?_ (by decide) ?_
  · rw [← A2]
    exact s246 S2 ((I2 4 (by decide)).trans z4) hn (by rw [L2]; exact hK)
  rintro k2 ⟨⟨E3, I3⟩, R⟩
  have bb : ∀ j, j < n → b j = t_by (qA k1 632) j := fun j hj => by
    rw [hb j hj, H1 j hj, E0.A (show 631 ∉ [630] by decide)]
  have C : p_C k2 (t_tk b n) (zP b n) (zXn b n) (zU b n) (t_e b n) := n_C hn (fun i hi => (R i (by rw [← t_e_cg bb]; exact hi)).cg bb hi)
  generalize q_sI k1 630 2 0 = ka at *
  refine s260_45 (E3.sh S2) (fun k3 S3 E4 N I5 => ?_)
  refine cont k3 x S3 (C.ef E4 (by decide) (by decide) (by decide) (by decide)) N ⟨?_, ?_, fun j hj => ?_⟩
  · exact ((((E0.wide (by decide)).trans (E1.wide (by decide))).trans (E2.wide (by decide))).trans (E3.wide (by decide))).trans (E4.wide (by decide))
  · rw [I5 2 (by decide), I3 2 (by decide)]; exact z2
  · rw [I5 j (by omega), I3 j (by omega), I2 j (by omega), I4 j (by omega)]
end NR
