/-! THE TWO READS: the book that both have read -/
section ZB
variable {K P X : Nat → Nat} {V U : Nat → Int64} {L9 L10 : Nat → Int64} {rF pF : Nat} {e c np nr nt ns C D Q b a i d r : Nat} {v : Nat → Nat → Nat} {h k k2 : q_Hp} {s : y_S}
theorem p_bk_i {x : Int32} (h1 : ¬ a = 643) (h2 : ¬ (a = 656 ∨ a = 657 ∨ a = 658 ∨ a = 664 ∨ a = 665)) (h3 : ¬ (a = 671 ∨ a = 672 ∨ a = 673)) : p_bk a x = x := by
  unfold p_bk
  rw [if_neg h1, if_neg h2, if_neg h3]
theorem p_bk_c {y : Nat} (h2 : a = 656 ∨ a = 657 ∨ a = 658 ∨ a = 664 ∨ a = 665) : p_bk a (nI (1300 + y)) = nI y := by
  unfold p_bk
  rw [if_neg (by omega), if_pos h2, show (1300 : Int32) = nI 1300 from rfl, nI_subN (Nat.le_add_right _ _), Nat.add_sub_cancel_left]
theorem p_bk_u {y : Nat} (h3 : a = 671 ∨ a = 672 ∨ a = 673) (hy : y < 2 ^ 28) : p_bk a (oU y) = oN y := by
  unfold p_bk
  rw [if_neg (by omega), if_neg (by omega), if_pos h3]
  by_cases h0 : y = 0
  · subst h0
    rfl
  · rw [show oU y = nI (1299 + y) from if_neg h0, if_neg (q_on_ne (j := 1299 + y) (by omega)), show oN y = nI (y - 1) from if_neg h0, show (1300 : Int32) = nI 1300 from rfl, nI_subN (by omega), show 1299 + y - 1300 = y - 1 by omega]
theorem p_bk_b : ∀ y, y ≤ 1 → p_bk 643 (nI y) = nI y := by
  intro y hy
  obtain rfl | rfl : y = 0 ∨ y = 1 := by omega
  · rfl
  · rfl
theorem z_mR {W : Nat → Nat → Nat} {B : q_Bk} (Z : zmR k (20 + r) W) (hw : q_wR B W) (hr : r < 20) (tk : ∀ a, 638 ≤ a → a ≤ 673 → ∀ i, i < p_of a → qA k2 a i = p_bk a (qA k a (p_of a + i))) : r_mR k2 r W := by
  obtain ⟨⟨z1, z2, z3, z4, z5, z6⟩, z7, z8, z9, z10, z11⟩ := Z
  obtain ⟨b0, b1, b2, b3, b4, b5, _, _, b6, _⟩ := hw
  have t1 : ∀ x, x = 641 ∨ x = 642 ∨ x = 648 ∨ x = 654 ∨ x = 659 → qA k2 x r = qA k x (20 + r) := fun x hx => by
    have e1 : p_of x = 20 := by rcases hx with rfl | rfl | rfl | rfl | rfl <;> rfl
    have := tk x (by omega) (by omega) r (by omega)
    rw [e1] at this
    rw [this, p_bk_i (by omega) (by omega) (by omega)]
  have t43 : qA k2 643 r = p_bk 643 (qA k 643 (20 + r)) := tk 643 (by decide) (by decide) r hr
  have t4 : ∀ x i, x = 644 ∨ x = 655 → i < 4 → qA k2 x (4 * r + i) = qA k x (4 * (20 + r) + i) := fun x i hx hi => by
    have e1 : p_of x = 80 := by rcases hx with rfl | rfl <;> rfl
    have := tk x (by omega) (by omega) (4 * r + i) (by omega)
    rw [e1, show 80 + (4 * r + i) = 4 * (20 + r) + i by omega] at this
    rw [this, p_bk_i (by omega) (by omega) (by omega)]
  have t4c : ∀ x i y, x = 656 ∨ x = 657 ∨ x = 658 → i < 4 → qA k x (4 * (20 + r) + i) = nI (1300 + y) → qA k2 x (4 * r + i) = nI y := fun x i y hx hi hq => by
    have e1 : p_of x = 80 := by rcases hx with rfl | rfl | rfl <;> rfl
    have := tk x (by omega) (by omega) (4 * r + i) (by omega)
    rw [e1, show 80 + (4 * r + i) = 4 * (20 + r) + i by omega, hq] at this
    rw [this, p_bk_c (by omega)]
  have t6 : ∀ x i, x = 645 ∨ x = 646 ∨ x = 647 ∨ x = 651 ∨ x = 652 ∨ x = 653 → i < 6 → qA k2 x (6 * r + i) = qA k x (6 * (20 + r) + i) := fun x i hx hi => by
    have e1 : p_of x = 120 := by rcases hx with rfl | rfl | rfl | rfl | rfl | rfl <;> rfl
    have := tk x (by omega) (by omega) (6 * r + i) (by omega)
    rw [e1, show 120 + (6 * r + i) = 6 * (20 + r) + i by omega] at this
    rw [this, p_bk_i (by omega) (by omega) (by omega)]
  have t2 : ∀ x i, x = 649 ∨ x = 650 → i < 2 → qA k2 x (2 * r + i) = qA k x (2 * (20 + r) + i) := fun x i hx hi => by
    have e1 : p_of x = 40 := by rcases hx with rfl | rfl <;> rfl
    have := tk x (by omega) (by omega) (2 * r + i) (by omega)
    rw [e1, show 40 + (2 * r + i) = 2 * (20 + r) + i by omega] at this
    rw [this, p_bk_i (by omega) (by omega) (by omega)]
  have t8 : ∀ x i, x = 660 ∨ x = 661 ∨ x = 662 ∨ x = 663 → i < 8 → qA k2 x (8 * r + i) = qA k x (8 * (20 + r) + i) := fun x i hx hi => by
    have e1 : p_of x = 160 := by rcases hx with rfl | rfl | rfl | rfl <;> rfl
    have := tk x (by omega) (by omega) (8 * r + i) (by omega)
    rw [e1, show 160 + (8 * r + i) = 8 * (20 + r) + i by omega] at this
    rw [this, p_bk_i (by omega) (by omega) (by omega)]
  have t8c : ∀ x i y, x = 664 ∨ x = 665 → i < 8 → qA k x (8 * (20 + r) + i) = nI (1300 + y) → qA k2 x (8 * r + i) = nI y := fun x i y hx hi hq => by
    have e1 : p_of x = 160 := by rcases hx with rfl | rfl <;> rfl
    have := tk x (by omega) (by omega) (8 * r + i) (by omega)
    rw [e1, show 160 + (8 * r + i) = 8 * (20 + r) + i by omega, hq] at this
    rw [this, p_bk_c (by omega)]
  refine ⟨(t1 _ (by omega)).trans z1, (t1 _ (by omega)).trans z2, (t1 _ (by omega)).trans z3, (t1 _ (by omega)).trans z4, (t1 _ (by omega)).trans z5, ?_, fun i hi => ?_, fun i hi => ?_, fun i hi => ?_, fun i hi => ?_, fun i hi => ?_⟩
  · rw [t43, z6, p_bk_b _ b5]
  · rw [t4 _ i (by omega) (by omega)]
    exact z7 i hi
  · rw [t6 _ i (by omega) (by omega), t6 _ i (by omega) (by omega), t6 _ i (by omega) (by omega)]
    exact z8 i hi
  · obtain ⟨y1, y2, y3⟩ := z9 i hi
    rw [t2 _ i (by omega) (by omega), t2 _ i (by omega) (by omega)]
    refine ⟨y1, y2, fun l hl => ?_⟩
    have := (b6 i hi).2.1
    have e1 : 3 * (2 * r + i) + l = 6 * r + (3 * i + l) := by omega
    have e2 : 3 * (2 * (20 + r) + i) + l = 6 * (20 + r) + (3 * i + l) := by omega
    have := y3 l hl
    rw [e2] at this
    rw [e1, t6 _ _ (by omega) (by omega), t6 _ _ (by omega) (by omega), t6 _ _ (by omega) (by omega)]
    exact this
  · obtain ⟨y1, y2, y3, y4, y5⟩ := z10 i hi
    rw [t4 _ i (by omega) (by omega)]
    exact ⟨y1, t4c _ i _ (by omega) (by omega) y2, t4c _ i _ (by omega) (by omega) y3, t4c _ i _ (by omega) (by omega) y4, t4c _ i _ (by omega) (by omega) y5⟩
  · obtain ⟨y1, y2, y3, y4, y5⟩ := z11 i hi
    rw [t8 _ i (by omega) (by omega), t8 _ i (by omega) (by omega), t8 _ i (by omega) (by omega), t8 _ i (by omega) (by omega)]
    exact ⟨y1, y2, y3, y4, fun q => ⟨t8c _ i _ (by omega) (by omega) (y5 q).1, t8c _ i _ (by omega) (by omega) (y5 q).2⟩⟩
theorem z_book (hT : zT K V U e c nt ns h k) (hC : zC c Q h k) (hQ : Q ≤ 1200) (hr : nr ≤ 20 ∧ qI h c 2 = nI nr ∧ qI k 630 20 = nI nr) (hru : ∀ r, r < nr → zRu c nt ns Q h k r) (hp : np ≤ 10 ∧ qI h c 3 = nI np ∧ qI k 630 21 = nI np) (hpp : ∀ p, p < np → ∃ f, f ≤ D ∧ (¬ f = 0 → v (f - 1) 6 = 0) ∧ qA h (c + 5) p = oN f ∧ qA k 673 (10 + p) = oU f) (hD : D ≤ 1200) (h5 : qI h c 5 = nI D) (dos : ∀ j, j < D → zdo c h k v j ∧ zdw nr np D v j) (calls : ∀ j, j < D → (v j 0 = 0 ∨ v j 0 = 1 ∨ v j 0 = 3) → qA k 670 (1300 + j) = nI (v j 1)) (tk : p_tk k k2) : ∃ B, r_cB h c B ∧ r_mB k2 B ∧ q_wB B := by
  obtain ⟨_, _, tA, _, _, tI⟩ := tk
  obtain ⟨T1, T2, T3, T4, T5, T6, _, _, T9, T10⟩ := hT
  obtain ⟨C1, C2, C3⟩ := hC
  obtain ⟨R, hR⟩ : ∃ R : Nat → Nat → Nat → Nat, ∀ r, r < nr → r_cR h (g_ro c r) (R r) ∧ zmR k (20 + r) (R r) ∧ q_wR (zB0 nt ns Q c h) (R r) := by
    refine ⟨fun r => if hh : r < nr then Classical.choose (hru r hh) else fun _ _ => 0, fun r hh => ?_⟩
    simp only [dif_pos hh]
    exact Classical.choose_spec (hru r hh)
  obtain ⟨B, hB⟩ : ∃ B : q_Bk, B = (fun i => if i = 0 then nt else if i = 1 then ns else if i = 2 then nr else if i = 3 then np else if i = 4 then Q else D, fun j i => if i = 0 then (qA h (c + 1) j + 1 : Int32).toNatClampNeg else if i = 1 then (qA h (c + 2) j : Int32).toNatClampNeg else (qA h (c + 3) j : Int32).toNatClampNeg, fun p => (qA h (c + 5) p + 1 : Int32).toNatClampNeg, zBC c h, v, R) := ⟨_, rfl⟩
  have n0 : bN B 0 = nt := by rw [hB]; rfl
  have n1 : bN B 1 = ns := by rw [hB]; rfl
  have n2 : bN B 2 = nr := by rw [hB]; rfl
  have n3 : bN B 3 = np := by rw [hB]; rfl
  have n4 : bN B 4 = Q := by rw [hB]; rfl
  have n5 : bN B 5 = D := by rw [hB]; rfl
  have eT0 : ∀ j, bT B j 0 = (qA h (c + 1) j + 1 : Int32).toNatClampNeg := fun j => by rw [hB]; rfl
  have eT1 : ∀ j, bT B j 1 = (qA h (c + 2) j : Int32).toNatClampNeg := fun j => by rw [hB]; rfl
  have eT2 : ∀ j, bT B j 2 = (qA h (c + 3) j : Int32).toNatClampNeg := fun j => by rw [hB]; rfl
  have eP : ∀ p, bP B p = (qA h (c + 5) p + 1 : Int32).toNatClampNeg := fun p => by rw [hB]; rfl
  have eC : bC B = zBC c h := by rw [hB]; rfl
  have eD : bD B = v := by rw [hB]; rfl
  have eR : bR B = R := by rw [hB]; rfl
  clear hB
  -- types and sorts
  have ty : ∀ j, j < nt → ∃ x, x ≤ j ∧ bT B j 0 = x ∧ qA h (c + 1) j = oN x ∧ qA k2 638 j = oN x := fun j hj => by
    obtain ⟨x, q1, q2, q3⟩ := T9 j hj
    refine ⟨x, q1, by rw [eT0, q2, z_oN (by omega)], q2, ?_⟩
    have := tA 638 (by decide) (by decide) j (show j < 12 by omega)
    rw [this, p_bk_i (by decide) (by decide) (by decide)]
    exact q3
  have so : ∀ j, j < ns → ∃ x y, x < nt ∧ y < nt ∧ bT B j 1 = x ∧ bT B j 2 = y ∧ (qA h (c + 2) j = nI x ∧ qA h (c + 3) j = nI y) ∧ qA k2 639 j = nI x ∧ qA k2 640 j = nI y := fun j hj => by
    obtain ⟨x, y, q1, q2, q3, q4, q5, q6⟩ := T10 j hj
    refine ⟨x, y, q1, q2, by rw [eT1]; exact z_cl q3 (by omega), by rw [eT2]; exact z_cl q4 (by omega), ⟨q3, q4⟩, ?_, ?_⟩
    · have := tA 639 (by decide) (by decide) j (show j < 12 by omega)
      rw [this, p_bk_i (by decide) (by decide) (by decide)]
      exact q5
    · have := tA 640 (by decide) (by decide) j (show j < 12 by omega)
      rw [this, p_bk_i (by decide) (by decide) (by decide)]
      exact q6
  have pr : ∀ p, p < np → ∃ f, f ≤ D ∧ (¬ f = 0 → v (f - 1) 6 = 0) ∧ bP B p = f ∧ qA h (c + 5) p = oN f ∧ qA k2 673 p = oN f := fun p hq => by
    obtain ⟨f, q1, q2, q3, q4⟩ := hpp p hq
    refine ⟨f, q1, q2, by rw [eP, q3, z_oN (by omega)], q3, ?_⟩
    have := tA 673 (by decide) (by decide) p (show p < 10 by omega)
    rw [this, show p_of 673 = 10 from rfl, q4, p_bk_u (by decide) (by omega)]
  have co : ∀ i, i < Q → ∃ kd x, kd < 6 ∧ x < 2 ^ 31 ∧ bC B i 0 = kd ∧ bC B i 1 = x ∧ (qA h (c + 6) i = nI kd ∧ qA h (c + 7) i = nI x) ∧ qA k2 666 i = nI kd ∧ (kd = 0 → qA k2 667 i = nI x) ∧ (kd = 1 → qA k2 667 i = nI (x / 2) ∧ qA k2 668 i = nI (x % 2)) := fun i hi => by
    obtain ⟨kd, x, q1, q2, q3, q4, q5, q6, q7⟩ := C3 i hi
    have t6 : ∀ a, a = 666 ∨ a = 667 ∨ a = 668 → qA k2 a i = qA k a (1300 + i) := fun a ha => by
      have e1 : p_of a = 1300 := by rcases ha with rfl | rfl | rfl <;> rfl
      have := tA a (by omega) (by omega) i (by omega)
      rw [e1] at this
      rw [this, p_bk_i (by omega) (by omega) (by omega)]
    refine ⟨kd, x, q1, q2, ?_, ?_, ⟨q3, q4⟩, (t6 _ (by omega)).trans q5, fun q => (t6 _ (by omega)).trans (q6 q), fun q => ⟨(t6 _ (by omega)).trans (q7 q).1, (t6 _ (by omega)).trans (q7 q).2⟩⟩
    · rw [eC]
      show (if (0 : Nat) = 0 then qA h (c + 6) i else qA h (c + 7) i).toNatClampNeg = kd
      rw [if_pos rfl]
      exact z_cl q3 (by omega)
    · rw [eC]
      show (if (1 : Nat) = 0 then qA h (c + 6) i else qA h (c + 7) i).toNatClampNeg = x
      rw [if_neg (by decide)]
      exact z_cl q4 q2
  have vb : ∀ j, j < D → ∀ i, 2 ≤ i → i < 6 → v j i < 2 ^ 28 := fun j hj i h1 h2 => by
    obtain ⟨_, _, _, _, y4, y5, _⟩ := (dos j hj).2
    by_cases h9 : i = 2
    · rw [h9]
      rcases y4 with q | ⟨_, q, _⟩ <;> omega
    · rcases y5 i (by omega) h2 with q | ⟨_, q, _⟩ <;> omega
  refine ⟨B, ⟨fun i hi => ?_, fun j hj => ?_, fun j hj => ?_, fun p hq => ?_, fun i hi => ?_, fun j hj => ?_, fun r hq => ?_⟩, ⟨fun i hi => ?_, fun j hj => ?_, fun j hj => ?_, fun p hq => ?_, fun i hi => ?_, fun j hj => ?_, fun r hq => ?_⟩, ?_⟩
  · obtain rfl | rfl | rfl | rfl | rfl | rfl : i = 0 ∨ i = 1 ∨ i = 2 ∨ i = 3 ∨ i = 4 ∨ i = 5 := by omega
    · rw [n0]; exact T3
    · rw [n1]; exact T5
    · rw [n2]; exact hr.2.1
    · rw [n3]; exact hp.2.1
    · rw [n4]; exact C1
    · rw [n5]; exact h5
  · rw [n0] at hj
    obtain ⟨x, _, q1, q2, _⟩ := ty j hj
    rw [q1]; exact q2
  · rw [n1] at hj
    obtain ⟨x, y, _, _, q1, q2, q3, _⟩ := so j hj
    rw [q1, q2]; exact q3
  · rw [n3] at hq
    obtain ⟨f, _, _, q1, q2, _⟩ := pr p hq
    rw [q1]; exact q2
  · rw [n4] at hi
    obtain ⟨kd, x, _, _, q1, q2, q3, _⟩ := co i hi
    rw [q1, q2]; exact q3
  · rw [n5] at hj
    rw [eD]
    exact (dos j hj).1.1
  · rw [n2] at hq
    rw [eR]
    exact (hR r hq).1
  · have := tI i hi
    rw [this]
    obtain rfl | rfl | rfl | rfl : i = 0 ∨ i = 1 ∨ i = 2 ∨ i = 3 := by omega
    · rw [n0]; exact T4
    · rw [n1]; exact T6
    · rw [n2]; exact hr.2.2
    · rw [n3]; exact hp.2.2
  · rw [n0] at hj
    obtain ⟨x, _, q1, _, q2⟩ := ty j hj
    rw [q1]; exact q2
  · rw [n1] at hj
    obtain ⟨x, y, _, _, q1, q2, _, q3⟩ := so j hj
    rw [q1, q2]; exact q3
  · rw [n3] at hq
    obtain ⟨f, _, _, q1, _, q2⟩ := pr p hq
    rw [q1]; exact q2
  · rw [n4] at hi
    obtain ⟨kd, x, _, _, q1, q2, _, q3⟩ := co i hi
    rw [q1, q2]; exact q3
  · rw [n5] at hj
    rw [eD]
    obtain ⟨_, z4, z5, z6, z7⟩ := (dos j hj).1
    have t9 : ∀ a, a = 669 ∨ a = 670 → qA k2 a j = qA k a (1300 + j) := fun a ha => by
      have e1 : p_of a = 1300 := by rcases ha with rfl | rfl <;> rfl
      have := tA a (by omega) (by omega) j (by omega)
      rw [e1] at this
      rw [this, p_bk_i (by omega) (by omega) (by omega)]
    refine ⟨(t9 _ (by omega)).trans z4, fun q => (t9 _ (by omega)).trans ?_, ?_, fun i hi => ?_⟩
    · unfold q_val at q
      rcases q with q | q | q | q
      · exact calls j hj (by omega)
      · exact calls j hj (by omega)
      · exact calls j hj (by omega)
      · exact z5 q
    · have := tA 672 (by decide) (by decide) j (show j < 1300 by omega)
      rw [this, show p_of 672 = 1300 from rfl, z6, p_bk_u (by decide) (vb j hj 2 (by decide) (by decide))]
    · have := tA 671 (by decide) (by decide) (3 * j + i) (show 3 * j + i < 3900 by omega)
      rw [this, show p_of 671 = 3900 from rfl, show 3900 + (3 * j + i) = 3 * (1300 + j) + i by omega, z7 i hi, p_bk_u (by decide) (vb j hj (3 + i) (by omega) (by omega))]
  · rw [n2] at hq
    rw [eR]
    exact z_mR (hR r hq).2.1 (hR r hq).2.2 (by omega) tA
  · unfold q_wB
    rw [n0, n1, n2, n3, n4, n5, eD, eR]
    refine ⟨T1, T2, hr.1, hp.1, hQ, hD, fun j hj => ?_, fun j hj => ?_, fun i hi => ?_, ⟨fun j => v j 6, fun p hq => ?_, fun j hj => ?_⟩, fun r hq => ?_⟩
    · obtain ⟨x, q1, q2, _⟩ := ty j hj
      rw [q2]; exact q1
    · obtain ⟨x, y, q1, q2, q3, q4, _⟩ := so j hj
      rw [q3, q4]; exact ⟨q1, q2⟩
    · obtain ⟨kd, x, q1, q2, q3, q4, _⟩ := co i hi
      rw [q3, q4]; exact ⟨q1, q2⟩
    · obtain ⟨f, q1, q2, q3, _⟩ := pr p hq
      rw [q3]
      exact ⟨q1, fun q => q2 (by omega)⟩
    · obtain ⟨⟨y0, y0b, y0c⟩, y1, y2, y3, y4, y5, y6⟩ := (dos j hj).2
      refine ⟨y0, y0b, y0c, y1, y2, y3, y4, y5, fun q => ?_⟩
      obtain ⟨w1, w2, w3, w4⟩ := y6 q
      refine ⟨by omega, fun f => j < f ∧ f ≤ j + v j 7, ⟨by omega, by omega⟩, fun f hf => ?_⟩
      obtain ⟨w5, w6⟩ := w4 f hf.1 hf.2
      exact ⟨by omega, w5, w6⟩
    · refine (hR r hq).2.2.mono (B' := B) ?_ ?_ ?_ (fun j _ => by rw [eC]; rfl)
      · rw [n0]; exact Nat.le_refl _
      · rw [n1]; exact Nat.le_refl _
      · rw [n4]; exact Nat.le_refl _
end ZB
