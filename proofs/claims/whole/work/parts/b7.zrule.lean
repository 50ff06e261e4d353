/-! THE TWO READS: a rule as a whole -/
/-- a rule in the upper rows of the reference -/
def zmR (k : q_Hp) (q : Nat) (V : Nat → Nat → Nat) : Prop :=
  (qA k 641 q = nI (V 0 0) ∧ qA k 642 q = nI (V 0 1) ∧ qA k 648 q = nI (V 0 2) ∧ qA k 654 q = nI (V 0 3) ∧ qA k 659 q = nI (V 0 4) ∧ qA k 643 q = nI (V 0 5)) ∧
  (∀ i, i < V 0 0 → qA k 644 (4 * q + i) = nI (V 1 i)) ∧
  (∀ i, i < V 0 1 → qA k 645 (6 * q + i) = nI (V 2 i) ∧ qA k 646 (6 * q + i) = nI (V 3 i) ∧ qA k 647 (6 * q + i) = nI (V 4 i)) ∧
  (∀ n, n < V 0 2 → qA k 649 (2 * q + n) = oN (V 5 n) ∧ qA k 650 (2 * q + n) = nI (V 6 n) ∧ ∀ l, l < V 6 n → qA k 651 (3 * (2 * q + n) + l) = nI (V 7 (3 * n + l)) ∧ qA k 652 (3 * (2 * q + n) + l) = nI (V 8 (3 * n + l)) ∧ qA k 653 (3 * (2 * q + n) + l) = nI (V 9 (3 * n + l))) ∧
  (∀ t, t < V 0 3 → qA k 655 (4 * q + t) = nI (if V 10 t = 0 then 9 else if V 10 t = 1 then 10 else if V 10 t = 2 then 11 else 12) ∧ qA k 656 (4 * q + t) = nI (1300 + V 11 (2 * t)) ∧ qA k 657 (4 * q + t) = nI (1300 + V 11 (2 * t + 1)) ∧ qA k 657 (4 * q + t) = nI (1300 + V 12 (2 * t)) ∧ qA k 658 (4 * q + t) = nI (1300 + V 12 (2 * t + 1))) ∧
  ∀ d, d < V 0 4 → qA k 660 (8 * q + d) = nI (V 13 d) ∧ qA k 661 (8 * q + d) = nI (V 14 d) ∧ (2 ≤ V 13 d → qA k 662 (8 * q + d) = nI (V 15 d)) ∧ (V 13 d = 3 → qA k 663 (8 * q + d) = nI (V 16 d)) ∧ (V 13 d = 4 → qA k 664 (8 * q + d) = nI (1300 + V 11 (8 + d)) ∧ qA k 665 (8 * q + d) = nI (1300 + V 12 (8 + d)))
/-- a book of so many types, sorts and codes -/
def zB0 (nt ns Q c : Nat) (h : q_Hp) : q_Bk := (fun i => if i = 0 then nt else if i = 1 then ns else Q, fun _ _ => 0, fun _ => 0, zBC c h, fun _ _ => 0, fun _ _ _ => 0)
/-- what a rule is, read from the class -/
def zV (h : q_Hp) (o n l x t d b : Nat) (v : Nat → Nat → Nat) : Nat → Nat → Nat := fun i j =>
  if i = 0 then (if j = 0 then n else if j = 1 then l else if j = 2 then x else if j = 3 then t else if j = 4 then d else b)
  else if i = 1 then (qA h (o + 1) j).toNatClampNeg
  else if i = 2 then (qA h (o + 4) j).toNatClampNeg
  else if i = 3 then (qA h (o + 5) j).toNatClampNeg
  else if i = 4 then (qA h (o + 6) j).toNatClampNeg
  else if i = 5 then (qA h (o + 2) j + 1).toNatClampNeg
  else if i = 6 then (qA h (o + 3) j).toNatClampNeg
  else if i = 7 then (qA h (o + 4) (6 + j)).toNatClampNeg
  else if i = 8 then (qA h (o + 5) (6 + j)).toNatClampNeg
  else if i = 9 then (qA h (o + 6) (6 + j)).toNatClampNeg
  else if i = 10 then (if qA h (o + 7) j = 36 then 0 else if qA h (o + 7) j = 37 then 1 else if qA h (o + 7) j = 30 then 2 else 3)
  else if i = 11 then (if j < 8 then (qA h (o + 12) j).toNatClampNeg else v 11 (j - 8))
  else if i = 12 then (if j < 8 then (qA h (o + 13) j).toNatClampNeg else v 12 (j - 8))
  else v i j
theorem z_oN {y : Nat} (hy : y < 2 ^ 30) : (oN y + 1 : Int32).toNatClampNeg = y := by
  unfold oN
  by_cases h9 : y = 0
  · rw [if_pos h9, h9]
    decide
  · rw [if_neg h9, nI_1, show y - 1 + 1 = y by omega, nI_clamp (by omega)]
section ZR
variable {c o q nt ns n l x t Q d : Nat} {v : Nat → Nat → Nat} {h k h' k' : q_Hp}
theorem z_sm {W : Nat → Nat → Nat} {s s1 s2 : Nat} (hn : W 0 0 = n) (e1 : W 11 s = s1) (e2 : W 12 s = s2) (D : zD c n h s1 0 s2 1) (hQ : s2 ≤ Q) : q_sm (zB0 nt ns Q c h) W s := by
  unfold q_sm
  rw [e1, e2, zcd_q, hn]
  exact ⟨D.1, hQ, D.2⟩
theorem z_cl {A : Int32} {y : Nat} (h : A = nI y) (hy : y < 2 ^ 31) : A.toNatClampNeg = y := by rw [h, nI_clamp hy]
theorem zRu.mk (ZL : zL h k o q nt ns n l) (ZX : zX h k o q nt ns n x) (Zt : zTs c n o q h k t Q) (hnt : nt ≤ 12) (hns : ns ≤ 12) (hQ : Q ≤ 1200) (nd : d ≤ 8) (i4 : qI h o 4 = nI d) (k59 : qA k 659 q = nI d) (z5 : ∀ f, f < d → zDe o q v h k f ∧ zDw c o n l nt ns Q v h f) (bits : ∃ b, b < 16 ∧ qI h o 5 = nI b ∧ ∀ i, i < 4 → (b.testBit i = true ↔ ∃ f, f < d ∧ v 13 f = 0 ∧ v 14 f = i)) : ∃ W, r_cR h o W ∧ zmR k q W ∧ q_wR (zB0 nt ns Q c h) W := by
  obtain ⟨n4, l6, a1, a2, a3, a4, ⟨b, b1, b2, b3⟩, a5, a6⟩ := ZL
  obtain ⟨x2, x3, x4, x5⟩ := ZX
  obtain ⟨t4, t5, t6, t7⟩ := Zt
  -- the fields
  have f1 : ∀ i, i < n → ∃ y, y < nt ∧ zV h o n l x t d b v 1 i = y ∧ qA h (o + 1) i = nI y ∧ qA k 644 (4 * q + i) = nI y := fun i hi => by
    obtain ⟨y, y1, y2, y3⟩ := a5 i hi
    exact ⟨y, y1, z_cl y2 (by omega), y2, y3⟩
  have f2 : ∀ i, i < l → ∃ y1 y2 y3, (y1 < ns ∧ y2 < n ∧ y3 < n) ∧ (zV h o n l x t d b v 2 i = y1 ∧ zV h o n l x t d b v 3 i = y2 ∧ zV h o n l x t d b v 4 i = y3) ∧ (qA h (o + 4) i = nI y1 ∧ qA h (o + 5) i = nI y2 ∧ qA h (o + 6) i = nI y3) ∧ qA k 645 (6 * q + i) = nI y1 ∧ qA k 646 (6 * q + i) = nI y2 ∧ qA k 647 (6 * q + i) = nI y3 := fun i hi => by
    obtain ⟨y1, y2, y3, u1, u2, u3, u4, u5, u6, u7⟩ := a6 i hi
    exact ⟨y1, y2, y3, ⟨u1, u2, u3⟩, ⟨z_cl u4 (by omega), z_cl u5 (by omega), z_cl u6 (by omega)⟩, ⟨u4, u5, u6⟩, u7⟩
  have f5 : ∀ i, i < x → ∃ y w, y ≤ nt ∧ w ≤ 3 ∧ zV h o n l x t d b v 5 i = y ∧ zV h o n l x t d b v 6 i = w ∧ qA h (o + 2) i = oN y ∧ qA k 649 (2 * q + i) = oN y ∧ qA h (o + 3) i = nI w ∧ qA k 650 (2 * q + i) = nI w ∧ ∀ j, j < w → ∃ s f t', s < ns ∧ (f < n ∨ (f = 4 ∧ 0 < y)) ∧ (t' < n ∨ (t' = 4 ∧ 0 < y)) ∧ (zV h o n l x t d b v 7 (3 * i + j) = s ∧ zV h o n l x t d b v 8 (3 * i + j) = f ∧ zV h o n l x t d b v 9 (3 * i + j) = t') ∧ (qA h (o + 4) (6 + 3 * i + j) = nI s ∧ qA h (o + 5) (6 + 3 * i + j) = nI f ∧ qA h (o + 6) (6 + 3 * i + j) = nI t') ∧ qA k 651 (3 * (2 * q + i) + j) = nI s ∧ qA k 652 (3 * (2 * q + i) + j) = nI f ∧ qA k 653 (3 * (2 * q + i) + j) = nI t' := fun i hi => by
    obtain ⟨y, w, u1, u2, u3, u4, u5, u6, u7⟩ := x5 i hi
    have e5 : zV h o n l x t d b v 5 i = y := by
      show (qA h (o + 2) i + 1).toNatClampNeg = y
      rw [u3, z_oN (by omega)]
    refine ⟨y, w, u1, u2, e5, z_cl u5 (by omega), u3, u4, u5, u6, fun j hj => ?_⟩
    obtain ⟨s, f, t', w1, w2, w3, w4, w5, w6, w7⟩ := u7 j hj
    have g4 := w4
    have g5 := w5
    have g6 := w6
    rw [Nat.add_assoc] at g4 g5 g6
    exact ⟨s, f, t', w1, w2, w3, ⟨z_cl g4 (by omega), z_cl g5 (by omega), z_cl g6 (by omega)⟩, ⟨w4, w5, w6⟩, w7⟩
  have f10 : ∀ i, i < t → ∃ kd s1 s2 s3, (kd = 36 ∨ kd = 37 ∨ kd = 30 ∨ kd = 38) ∧ zV h o n l x t d b v 10 i = (if (nI kd : Int32) = 36 then 0 else if (nI kd : Int32) = 37 then 1 else if (nI kd : Int32) = 30 then 2 else 3) ∧ qA h (o + 7) i = nI kd ∧ qA k 655 (4 * q + i) = nI (t_ph kd) ∧ (zV h o n l x t d b v 11 (2 * i) = s1 ∧ zV h o n l x t d b v 12 (2 * i) = s2 ∧ zV h o n l x t d b v 11 (2 * i + 1) = s2 ∧ zV h o n l x t d b v 12 (2 * i + 1) = s3) ∧ (qA h (o + 12) (2 * i) = nI s1 ∧ qA h (o + 13) (2 * i) = nI s2 ∧ qA h (o + 12) (2 * i + 1) = nI s2 ∧ qA h (o + 13) (2 * i + 1) = nI s3) ∧ (qA k 656 (4 * q + i) = nI (1300 + s1) ∧ qA k 657 (4 * q + i) = nI (1300 + s2) ∧ qA k 658 (4 * q + i) = nI (1300 + s3)) ∧ zD c n h s1 0 s2 1 ∧ zD c n h s2 0 s3 1 ∧ s3 ≤ Q := fun i hi => by
    obtain ⟨kd, s1, s2, s3, u1, u2, u3, u4, u5, d1, d2, u8⟩ := t7 i hi
    have q1 := d1.1
    have q2 := d2.1
    have e10 : zV h o n l x t d b v 10 i = (if qA h (o + 7) i = 36 then 0 else if qA h (o + 7) i = 37 then 1 else if qA h (o + 7) i = 30 then 2 else 3) := rfl
    have e11 : ∀ j, j < 8 → zV h o n l x t d b v 11 j = (qA h (o + 12) j).toNatClampNeg := fun j hj => if_pos hj
    have e12 : ∀ j, j < 8 → zV h o n l x t d b v 12 j = (qA h (o + 13) j).toNatClampNeg := fun j hj => if_pos hj
    rw [u2] at e10
    exact ⟨kd, s1, s2, s3, u1, e10, u2, u3, ⟨(e11 _ (by omega)).trans (z_cl u4.1 (by omega)), (e12 _ (by omega)).trans (z_cl u4.2.1 (by omega)), (e11 _ (by omega)).trans (z_cl u4.2.2.1 (by omega)), (e12 _ (by omega)).trans (z_cl u4.2.2.2 (by omega))⟩, u4, u5, d1, d2, u8⟩
  have e11 : ∀ f, zV h o n l x t d b v 11 (8 + f) = v 11 f := fun f => by
    show (if 8 + f < 8 then _ else v 11 (8 + f - 8)) = _
    rw [if_neg (by omega), Nat.add_sub_cancel_left]
  have e12 : ∀ f, zV h o n l x t d b v 12 (8 + f) = v 12 f := fun f => by
    show (if 8 + f < 8 then _ else v 12 (8 + f - 8)) = _
    rw [if_neg (by omega), Nat.add_sub_cancel_left]
  have v3 : ∀ f, zV h o n l x t d b v 13 f = v 13 f := fun f => rfl
  have v4 : ∀ f, zV h o n l x t d b v 14 f = v 14 f := fun f => rfl
  have v5 : ∀ f, zV h o n l x t d b v 15 f = v 15 f := fun f => rfl
  have v6 : ∀ f, zV h o n l x t d b v 16 f = v 16 f := fun f => rfl
  have v00 : zV h o n l x t d b v 0 0 = n := rfl
  have v01 : zV h o n l x t d b v 0 1 = l := rfl
  have v02 : zV h o n l x t d b v 0 2 = x := rfl
  have v03 : zV h o n l x t d b v 0 3 = t := rfl
  have v04 : zV h o n l x t d b v 0 4 = d := rfl
  have v05 : zV h o n l x t d b v 0 5 = b := rfl
  generalize zV h o n l x t d b v = W at *
  refine ⟨W, ?_, ?_, ?_⟩
  · unfold r_cR
    rw [v00, v01, v02, v03, v04, v05]
    refine ⟨fun i hi => ?_, b2, fun i hi => ?_, fun i hi => ?_, fun i hi => ?_, fun i hi => ?_, fun f hf => ?_, ?_⟩
    · obtain hi | hi | hi | hi | hi : i = 0 ∨ i = 1 ∨ i = 2 ∨ i = 3 ∨ i = 4 := by omega
      · rw [hi, v00]; exact a1
      · rw [hi, v01]; exact a3
      · rw [hi, v02]; exact x3
      · rw [hi, v03]; exact t5
      · rw [hi, v04]; exact i4
    · obtain ⟨y, _, y2, y3, _⟩ := f1 i hi
      rw [y2]; exact y3
    · obtain ⟨y1, y2, y3, _, ⟨u1, u2, u3⟩, u4, _⟩ := f2 i hi
      rw [u1, u2, u3]; exact u4
    · obtain ⟨y, w, _, _, u1, u2, u3, _, u4, _, u5⟩ := f5 i hi
      rw [u1, u2]
      refine ⟨u3, u4, fun j hj => ?_⟩
      obtain ⟨s, f, t', _, _, _, ⟨w1, w2, w3⟩, w4, _⟩ := u5 j hj
      rw [w1, w2, w3]; exact w4
    · obtain ⟨kd, s1, s2, s3, u1, u2, u3, _, ⟨w1, w2, w3, w4⟩, ⟨w5, w6, w7, w8⟩, _⟩ := f10 i hi
      refine ⟨?_, fun s hs => ?_⟩
      · rw [u2, u3]
        rcases u1 with rfl | rfl | rfl | rfl <;> rfl
      · obtain hs | hs : s = 0 ∨ s = 1 := by omega
        · rw [hs, Nat.add_zero (2 * i), w1, w2]
          exact ⟨w5, w6⟩
        · rw [hs, w3, w4]
          exact ⟨w7, w8⟩
    · obtain ⟨⟨u1, u2, u3, u4, u5, _⟩, _⟩ := z5 f hf
      rw [e11, e12, v3, v4, v5, v6]
      exact ⟨u1, u2, u3, u4, u5⟩
    · obtain ⟨bb, c1, c2, c3⟩ := bits
      refine ⟨bb, c1, c2, fun i hi => (c3 i hi).trans ?_⟩
      exact exists_congr (fun f => by rw [v3, v4])
  · unfold zmR
    rw [v00, v01, v02, v03, v04, v05]
    refine ⟨⟨a2, a4, x4, t6, k59, b3⟩, fun i hi => ?_, fun i hi => ?_, fun i hi => ?_, fun i hi => ?_, fun f hf => ?_⟩
    · obtain ⟨y, _, y2, _, y3⟩ := f1 i hi
      rw [y2]; exact y3
    · obtain ⟨y1, y2, y3, _, ⟨u1, u2, u3⟩, _, u4⟩ := f2 i hi
      rw [u1, u2, u3]; exact u4
    · obtain ⟨y, w, _, _, u1, u2, _, u3, _, u4, u5⟩ := f5 i hi
      rw [u1, u2]
      refine ⟨u3, u4, fun j hj => ?_⟩
      obtain ⟨s, f, t', _, _, _, ⟨w1, w2, w3⟩, _, w4⟩ := u5 j hj
      rw [w1, w2, w3]; exact w4
    · obtain ⟨kd, s1, s2, s3, u1, u2, _, u3, ⟨w1, w2, w3, w4⟩, _, ⟨w5, w6, w7⟩, _⟩ := f10 i hi
      rw [w1, w2, w3, w4]
      refine ⟨?_, w5, w6, w6, w7⟩
      rw [u2, u3]
      rcases u1 with rfl | rfl | rfl | rfl <;> rfl
    · obtain ⟨⟨_, _, _, _, _, u1, u2, u3, u4, u5⟩, _⟩ := z5 f hf
      rw [e11, e12, v3, v4, v5, v6]
      exact ⟨u1, u2, u3, u4, u5⟩
  · have n0 : bN (zB0 nt ns Q c h) 0 = nt := rfl
    have n1 : bN (zB0 nt ns Q c h) 1 = ns := rfl
    unfold q_wR
    rw [v00, v01, v02, v03, v04, v05, n0, n1]
    refine ⟨n4, l6, x2, t4, nd, b1, fun i hi => ?_, fun i hi => ?_, fun i hi => ?_, fun i hi => ?_, fun f hf => ?_⟩
    · obtain ⟨y, y1, y2, _⟩ := f1 i hi
      rw [y2]; exact y1
    · obtain ⟨y1, y2, y3, u0, ⟨u1, u2, u3⟩, _⟩ := f2 i hi
      rw [u1, u2, u3]; exact u0
    · obtain ⟨y, w, w1, w2, u1, u2, _, u3, _, u4, u5⟩ := f5 i hi
      rw [u1, u2]
      refine ⟨w1, w2, fun j hj => ?_⟩
      obtain ⟨s, f, t', g1, g2, g3, ⟨w1, w2, w3⟩, _⟩ := u5 j hj
      rw [w1, w2, w3]
      exact ⟨g1, g2, g3⟩
    · obtain ⟨kd, s1, s2, s3, u1, u2, _, _, ⟨w1, w2, w3, w4⟩, _, _, d1, d2, u8⟩ := f10 i hi
      have q2 := d2.1
      refine ⟨?_, z_sm v00 w1 w2 d1 (by omega), z_sm v00 w3 w4 d2 u8, by rw [w3, w2]⟩
      rw [u2]
      split
      · decide
      · split
        · decide
        · split <;> decide
    · have nd : ∀ y, z_nd n v f y → q_nd W f y := fun y hy => by
        unfold q_nd
        rw [v00]
        rcases hy with ⟨y1, y2⟩ | ⟨g, y1, y2, y3⟩
        · exact Or.inl ⟨y1, fun g hg => by rw [v3, v4]; exact y2 g hg⟩
        · exact Or.inr ⟨g, y1, by rw [v3]; exact y2, by rw [v4]; exact y3⟩
      obtain ⟨_, ⟨u0, u1, u2, u3, u4, u5⟩⟩ := z5 f hf
      rw [v3, v4, v5, v6]
      refine ⟨u0, fun q => ?_, fun q => ?_, fun q => ?_, fun q => ?_, fun q => ?_⟩
      · obtain ⟨y1, y2, y3, y4⟩ := u1 q
        refine ⟨y1, fun g hg => by rw [v3, v4]; exact y2 g hg, fun y hy hh => ?_, fun g hg => by rw [v3, v4, v6]; exact y4 g hg⟩
        obtain ⟨_, w2, w3, ⟨_, l2, l3⟩, ⟨_, m2, m3⟩, ⟨_, p2, p3⟩, _⟩ := f2 y hy
        rw [m2, m3] at hh
        obtain ⟨g, g1, g2, g3⟩ := y3 y hy (hh.imp (fun z => by rw [p2, z]) (fun z => by rw [p3, z]))
        exact ⟨g, g1, by rw [v3]; exact g2, by rw [v4]; exact g3⟩
      · obtain ⟨y1, y2⟩ := u2 q
        exact ⟨y1, fun g hg => by rw [v3, v4]; exact y2 g hg⟩
      · obtain ⟨y1, y2, y3, y4⟩ := u3 q
        exact ⟨y1, y2, y3, fun g hg => by rw [v3, v4]; exact y4 g hg⟩
      · obtain ⟨y1, y2, y3⟩ := u4 q
        exact ⟨nd _ y1, y2, nd _ y3⟩
      · obtain ⟨y1, y2, y3, y4⟩ := u5 q
        exact ⟨nd _ y1, y2, z_sm v00 (e11 f) (e12 f) y3 y4⟩
end ZR
