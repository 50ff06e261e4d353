/-! THE TWO READS: what is deleted -/
theorem qA_sAp {h : q_Hp} {a j b i : Nat} {v : Int32} (hn : ¬ (b = a ∧ i = j)) : qA (q_sA h a j v) b i = qA h b i := if_neg hn
theorem qA_sAe {h : q_Hp} {a j : Nat} {v : Int32} : qA (q_sA h a j v) a j = v := if_pos ⟨rfl, rfl⟩
theorem p_any_e {p : Nat → Bool} : ∀ n, p_any p n = true ↔ ∃ i, i < n ∧ p i = true := by
  intro n
  induction n with
  | zero => exact ⟨fun h => absurd h Bool.false_ne_true, fun ⟨i, hi, _⟩ => absurd hi (Nat.not_lt_zero i)⟩
  | succ n ih =>
    unfold p_any
    rw [Bool.or_eq_true, ih]
    constructor
    · rintro (⟨i, h1, h2⟩ | h)
      · exact ⟨i, by omega, h2⟩
      · exact ⟨n, by omega, h⟩
    · rintro ⟨i, h1, h2⟩
      by_cases h9 : i = n
      · exact Or.inr (h9 ▸ h2)
      · exact Or.inl ⟨i, by omega, h2⟩
/-- a node is held -/
def z_hl (o l d : Nat) (v : Nat → Nat → Nat) (h : q_Hp) (x : Nat) : Prop := (∃ y, y < l ∧ (∀ f, f < d → v 13 f = 1 → ¬ v 14 f = y) ∧ (qA h (o + 5) y = nI x ∨ qA h (o + 6) y = nI x)) ∨ ∃ f, f < d ∧ v 13 f = 3 ∧ (v 14 f = x ∨ v 16 f = x)
theorem z_bits : ∀ m, m < 16 → ∀ x, x < 4 → (nI m ||| ((1 : Int32) <<< (nI x &&& 31)) = nI (m ||| 2 ^ x) ∧ m ||| 2 ^ x < 16 ∧ ∀ i, i < 4 → ((m ||| 2 ^ x).testBit i = true ↔ m.testBit i = true ∨ i = x)) := by decide +kernel
section ZD
variable {K P X : Nat → Nat} {V U : Nat → Int64} {e c o q r nt ns n l x t Q Q' d w w' jn jn' m f j : Nat} {v v' : Nat → Nat → Nat} {h h' k k' : q_Hp} {s : y_S} {NX : Nat → Prop}
theorem zM.gn (Z : zM K V U e NX true l w m h k) : zM K V U e NX true l w m (q_sA h 596 j 1) (q_sA k 682 j 1) := by
  obtain ⟨z1, z2, z3, z4⟩ := Z
  refine ⟨by rw [qI_sA]; exact z1, by rw [qI_sA]; exact z2, fun i hi => ?_, fun i i' h1 h2 => by rw [qL_sA]; exact z4 i i' h1 h2⟩
  obtain ⟨y1, y2, y3, y4⟩ := z3 i hi
  unfold zMe
  rw [qL_sA, qL_sA, qA_sAn (show ¬ 593 = 596 by decide), qA_sAn (show ¬ 594 = 596 by decide), qA_sAn (show ¬ 595 = 596 by decide), qA_sAn (show ¬ 679 = 682 by decide), qA_sAn (show ¬ 680 = 682 by decide), qA_sAn (show ¬ 681 = 682 by decide)]
  refine ⟨y1, y2, ?_, y4⟩
  by_cases h9 : i = j
  · rw [h9, qA_sAe, qA_sAe]
    exact Or.inr ⟨rfl, rfl⟩
  · rw [qA_sAp (by omega), qA_sAp (by omega)]
    exact y3
theorem z_hdg (ZL : zL h k o q nt ns n l) (ZM : zM K V U e NX true l w m h k) (Lk : zLk l m h) (G : zDg o n l w m d jn v h k) (hx : x < n) (hj : qA h 593 j = 1) (hO : o ≤ 575) : g_hd o m (nI x) (q_sA h 596 j 1) = true ↔ z_hl o l d v h x := by
  have n4 := ZL.1
  have l6 := ZL.2.1
  unfold g_hd z_hl
  rw [Bool.or_eq_true, p_any_e]
  have ib : (qI (q_sA h 596 j 1) 589 11 >>> (nI x &&& 31) &&& 1 == 1) = true ↔ ∃ f, f < d ∧ v 13 f = 3 ∧ (v 14 f = x ∨ v 16 f = x) := by
    rw [qI_sA, beq_iff_eq, bi_o (by omega)]
    exact G.2.2.2.2.2.1 x (by omega)
  rw [ib]
  have ia : (∃ i, i < m ∧ g_hp o (nI x) (q_sA h 596 j 1) i = true) ↔ ∃ y, y < l ∧ (∀ f, f < d → v 13 f = 1 → ¬ v 14 f = y) ∧ (qA h (o + 5) y = nI x ∨ qA h (o + 6) y = nI x) := by
    have hp : ∀ i, g_hp o (nI x) (q_sA h 596 j 1) i = true ↔ qA h 593 i = 2 ∧ qA h 596 i = 0 ∧ (c_at (qA h (o + 5)) 12 (qA h 594 i) = nI x ∨ c_at (qA h (o + 6)) 12 (qA h 594 i) = nI x) := by
      intro i
      unfold g_hp
      rw [qA_sAn (show ¬ 593 = 596 by decide), qA_sAn (show ¬ 594 = 596 by decide), qA_sAn (show ¬ o + 5 = 596 by omega), qA_sAn (show ¬ o + 6 = 596 by omega)]
      simp only [Bool.and_eq_true, Bool.or_eq_true, beq_iff_eq]
      by_cases h9 : i = j
      · rw [h9, hj]
        exact ⟨fun q => absurd q.1 (by decide), fun q => absurd q.1 (by decide)⟩
      · rw [qA_sAp (by omega)]
    constructor
    · rintro ⟨i, hi, h2⟩
      obtain ⟨q1, q2, q3⟩ := (hp i).mp h2
      obtain ⟨_, _, _, z | z | z⟩ := ZM.2.2.1 i hi
      · rw [z.1] at q1
        exact absurd q1 (by decide)
      · obtain ⟨y, y1, y2, _⟩ := z.2.2 rfl
        refine ⟨y, y1, (G.2.1 i y hi q1 y1 y2).mp q2, ?_⟩
        rw [y2, c_at_in (n := 12) (by omega) (by decide), c_at_in (n := 12) (by omega) (by decide)] at q3
        exact q3
      · rw [z.1] at q1
        exact absurd q1 (by decide)
    · rintro ⟨y, y1, y2, y3⟩
      obtain ⟨i, hi, i1, i2⟩ := Lk.1 y y1
      refine ⟨i, hi, (hp i).mpr ⟨i1, (G.2.1 i y hi i1 y1 i2).mpr y2, ?_⟩⟩
      rw [i2, c_at_in (n := 12) (by omega) (by decide), c_at_in (n := 12) (by omega) (by decide)]
      exact y3
  rw [ia]
theorem z_hdp (ZL : zL h k o (20 + r) nt ns n l) (G : zDg o n l w m d jn v h k) (hx : x < n) : p_hl r l jn (nI x) k = true ↔ z_hl o l d v h x := by
  have n4 := ZL.1
  have l6 := ZL.2.1
  unfold p_hl z_hl
  rw [Bool.or_eq_true, p_any_e, p_any_e]
  have ib : (∃ i, i < jn ∧ (qA k 684 i == nI x) = true) ↔ ∃ f, f < d ∧ v 13 f = 3 ∧ (v 14 f = x ∨ v 16 f = x) := by
    rw [← G.2.2.2.2.2.2.1 x (by omega)]
    exact exists_congr (fun i => and_congr Iff.rfl beq_iff_eq)
  rw [ib]
  have ia : (∃ i, i < l ∧ (qA k 683 i == 0 && (qA k 646 (6 * (20 + r) + i) == nI x || qA k 647 (6 * (20 + r) + i) == nI x)) = true) ↔ ∃ y, y < l ∧ (∀ f, f < d → v 13 f = 1 → ¬ v 14 f = y) ∧ (qA h (o + 5) y = nI x ∨ qA h (o + 6) y = nI x) := by
    refine exists_congr (fun y => and_congr_right (fun hy => ?_))
    obtain ⟨_, f0, t0, _, _, _, _, e5, e6, _, e7, e8⟩ := ZL.2.2.2.2.2.2.2.2 y hy
    simp only [Bool.and_eq_true, Bool.or_eq_true, beq_iff_eq]
    rw [G.2.2.2.2.1 y hy, e5, e6, e7, e8]
  rw [ia]
end ZD
