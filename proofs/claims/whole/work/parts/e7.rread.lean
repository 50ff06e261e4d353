/-! READ keeps the relation -/
theorem r_mR.lo {h h' : q_Hp} {r : Nat} {B : q_Bk} {V : Nat → Nat → Nat} (hr : r < 20) (w : q_wR B V) (e : ∀ a i, 638 ≤ a → a ≤ 673 → i < p_hf a → qA h' a i = qA h a i) (c : r_mR h r V) : r_mR h' r V := by
  obtain ⟨b0, b1, b2, b3, b4, b5, _, _, b6, _⟩ := w
  obtain ⟨z1, z2, z3, z4, z5, z6, z7, z8, z9, z10, z11⟩ := c
  have t1 : ∀ x, (641 ≤ x ∧ x ≤ 643) ∨ x = 648 ∨ x = 654 ∨ x = 659 → qA h' x r = qA h x r := fun x hx => e x r (by omega) (by omega) (by unfold p_hf; rcases (show x = 641 ∨ x = 642 ∨ x = 643 ∨ x = 648 ∨ x = 654 ∨ x = 659 by omega) with rfl | rfl | rfl | rfl | rfl | rfl <;> exact hr)
  have t4 : ∀ x i, x = 644 ∨ (655 ≤ x ∧ x ≤ 658) → i < 4 → qA h' x (4 * r + i) = qA h x (4 * r + i) := fun x i hx hi => e x _ (by omega) (by omega) (by unfold p_hf; rcases (show x = 644 ∨ x = 655 ∨ x = 656 ∨ x = 657 ∨ x = 658 by omega) with rfl | rfl | rfl | rfl | rfl <;> (show 4 * r + i < 80; omega))
  have t6 : ∀ x i, (645 ≤ x ∧ x ≤ 647) ∨ (651 ≤ x ∧ x ≤ 653) → i < 6 → qA h' x (6 * r + i) = qA h x (6 * r + i) := fun x i hx hi => e x _ (by omega) (by omega) (by unfold p_hf; rcases (show x = 645 ∨ x = 646 ∨ x = 647 ∨ x = 651 ∨ x = 652 ∨ x = 653 by omega) with rfl | rfl | rfl | rfl | rfl | rfl <;> (show 6 * r + i < 120; omega))
  have t2 : ∀ x i, x = 649 ∨ x = 650 → i < 2 → qA h' x (2 * r + i) = qA h x (2 * r + i) := fun x i hx hi => e x _ (by omega) (by omega) (by unfold p_hf; rcases hx with rfl | rfl <;> (show 2 * r + i < 40; omega))
  have t8 : ∀ x i, 660 ≤ x ∧ x ≤ 665 → i < 8 → qA h' x (8 * r + i) = qA h x (8 * r + i) := fun x i hx hi => e x _ (by omega) (by omega) (by unfold p_hf; rcases (show x = 660 ∨ x = 661 ∨ x = 662 ∨ x = 663 ∨ x = 664 ∨ x = 665 by omega) with rfl | rfl | rfl | rfl | rfl | rfl <;> (show 8 * r + i < 160; omega))
  refine ⟨(t1 _ (by omega)).trans z1, (t1 _ (by omega)).trans z2, (t1 _ (by omega)).trans z3, (t1 _ (by omega)).trans z4, (t1 _ (by omega)).trans z5, (t1 _ (by omega)).trans z6, fun i hi => ?_, fun i hi => ?_, fun i hi => ?_, fun i hi => ?_, fun i hi => ?_⟩
  · rw [t4 _ i (by omega) (by omega)]
    exact z7 i hi
  · rw [t6 _ i (by omega) (by omega), t6 _ i (by omega) (by omega), t6 _ i (by omega) (by omega)]
    exact z8 i hi
  · obtain ⟨y1, y2, y3⟩ := z9 i hi
    rw [t2 _ i (by omega) (by omega), t2 _ i (by omega) (by omega)]
    refine ⟨y1, y2, fun l hl => ?_⟩
    have := (b6 i hi).2.1
    have e1 : 3 * (2 * r + i) + l = 6 * r + (3 * i + l) := by omega
    have := y3 l hl
    rw [e1] at this
    rw [e1, t6 _ _ (by omega) (by omega), t6 _ _ (by omega) (by omega), t6 _ _ (by omega) (by omega)]
    exact this
  · rw [t4 _ i (by omega) (by omega), t4 _ i (by omega) (by omega), t4 _ i (by omega) (by omega), t4 _ i (by omega) (by omega)]
    exact z10 i hi
  · rw [t8 _ i (by omega) (by omega), t8 _ i (by omega) (by omega), t8 _ i (by omega) (by omega), t8 _ i (by omega) (by omega), t8 _ i (by omega) (by omega), t8 _ i (by omega) (by omega)]
    exact z11 i hi
theorem r_mB.lo {h h' : q_Hp} {B : q_Bk} (w : q_wB B) (e : ∀ a i, 638 ≤ a → a ≤ 673 → i < p_hf a → qA h' a i = qA h a i) (eI : ∀ i, i < 4 → qI h' 630 (24 + i) = qI h 630 (24 + i)) (c : r_mB h B) : r_mB h' B := by
  obtain ⟨w0, w1, w2, w3, w4, w5, _, _, _, _, wr⟩ := w
  obtain ⟨c1, c2, c3, c4, c5, c6, c7⟩ := c
  refine ⟨fun i hi => (eI i hi).trans (c1 i hi), fun j hj => ?_, fun j hj => ?_, fun j hj => ?_, fun j hj => ?_, fun j hj => ?_, fun r hr => (c7 r hr).lo (by omega) (wr r hr) e⟩
  · rw [e 638 j (by decide) (by decide) (show j < 12 by omega)]; exact c2 j hj
  · rw [e 639 j (by decide) (by decide) (show j < 12 by omega), e 640 j (by decide) (by decide) (show j < 12 by omega)]; exact c3 j hj
  · rw [e 673 j (by decide) (by decide) (show j < 10 by omega)]; exact c4 j hj
  · rw [e 666 j (by decide) (by decide) (show j < 1300 by omega), e 667 j (by decide) (by decide) (show j < 1300 by omega), e 668 j (by decide) (by decide) (show j < 1300 by omega)]; exact c5 j hj
  · obtain ⟨d1, d2, d3, d4⟩ := c6 j hj
    refine ⟨?_, fun q => ?_, ?_, fun k hk => ?_⟩
    · rw [e 669 j (by decide) (by decide) (show j < 1300 by omega)]; exact d1
    · rw [e 670 j (by decide) (by decide) (show j < 1300 by omega)]; exact d2 q
    · rw [e 672 j (by decide) (by decide) (show j < 1300 by omega)]; exact d3
    · rw [e 671 _ (by decide) (by decide) (show 3 * j + k < 3900 by omega)]; exact d4 k hk
