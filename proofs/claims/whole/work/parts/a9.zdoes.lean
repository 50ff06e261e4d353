/-! THE TWO READS: what a rule does -/
/-- one thing that is done, on both sides -/
def zDe (o q : Nat) (v : Nat → Nat → Nat) (h k : q_Hp) (d : Nat) : Prop := qA h (o + 8) d = nI (if v 13 d = 0 then 11 else if v 13 d = 1 then 7 else if v 13 d = 2 then 12 else if v 13 d = 3 then 13 else 14) ∧ qA h (o + 9) d = nI (v 14 d) ∧ (2 ≤ v 13 d → qA h (o + 10) d = nI (v 15 d)) ∧ (v 13 d = 3 → qA h (o + 11) d = nI (v 16 d)) ∧ (v 13 d = 4 → qA h (o + 12) (8 + d) = nI (v 11 d) ∧ qA h (o + 13) (8 + d) = nI (v 12 d)) ∧ qA k 660 (8 * q + d) = nI (v 13 d) ∧ qA k 661 (8 * q + d) = nI (v 14 d) ∧ (2 ≤ v 13 d → qA k 662 (8 * q + d) = nI (v 15 d)) ∧ (v 13 d = 3 → qA k 663 (8 * q + d) = nI (v 16 d)) ∧ (v 13 d = 4 → qA k 664 (8 * q + d) = nI (1300 + v 11 d) ∧ qA k 665 (8 * q + d) = nI (1300 + v 12 d))
def z_nd (n : Nat) (v : Nat → Nat → Nat) (d x : Nat) : Prop := (x < n ∧ ∀ f, f < d → v 13 f = 0 → ¬ v 14 f = x) ∨ ∃ f, f < d ∧ v 13 f = 2 ∧ v 14 f = x
def zDw (c o n l nt ns Q : Nat) (v : Nat → Nat → Nat) (h : q_Hp) (d : Nat) : Prop := v 13 d < 5 ∧ (v 13 d = 0 → v 14 d < n ∧ (∀ f, f < d → v 13 f = 0 → ¬ v 14 f = v 14 d) ∧ (∀ y, y < l → qA h (o + 5) y = nI (v 14 d) ∨ qA h (o + 6) y = nI (v 14 d) → ∃ f, f < d ∧ v 13 f = 1 ∧ v 14 f = y) ∧ ∀ f, f < d → v 13 f = 3 → ¬ v 14 f = v 14 d ∧ ¬ v 16 f = v 14 d) ∧ (v 13 d = 1 → v 14 d < l ∧ ∀ f, f < d → v 13 f = 1 → ¬ v 14 f = v 14 d) ∧ (v 13 d = 2 → 4 ≤ v 14 d ∧ v 14 d < 12 ∧ v 15 d < nt ∧ ∀ f, f < d → v 13 f = 2 → v 14 f < v 14 d) ∧ (v 13 d = 3 → z_nd n v d (v 14 d) ∧ v 15 d < ns ∧ z_nd n v d (v 16 d)) ∧ (v 13 d = 4 → z_nd n v d (v 14 d) ∧ v 15 d < 2 ∧ zD c n h (v 11 d) 0 (v 12 d) 1 ∧ v 12 d ≤ Q)
/-- what is told, deleted, new and joined, and what was done -/
def zDg (o n l w m d jn : Nat) (v : Nat → Nat → Nat) (h k : q_Hp) : Prop := (∀ j x, j < m → qA h 593 j = 1 → x < n → qA h 594 j = nI x → (qA h 596 j = 0 ↔ ∀ f, f < d → v 13 f = 0 → ¬ v 14 f = x)) ∧ (∀ j x, j < m → qA h 593 j = 2 → x < l → qA h 594 j = nI x → (qA h 596 j = 0 ↔ ∀ f, f < d → v 13 f = 1 → ¬ v 14 f = x)) ∧ (∀ x, x < w → ∃ f, f < d ∧ v 13 f = 2 ∧ v 14 f = 4 + x) ∧ (∀ f, f < d → v 13 f = 2 → v 14 f < 4 + w) ∧ (∀ x, x < l → (qA k 683 x = 0 ↔ ∀ f, f < d → v 13 f = 1 → ¬ v 14 f = x)) ∧ (∀ x, x < 12 → (bt (qI h 589 11) x = true ↔ ∃ f, f < d ∧ v 13 f = 3 ∧ (v 14 f = x ∨ v 16 f = x))) ∧ (∀ x, x < 12 → ((∃ i, i < jn ∧ qA k 684 i = nI x) ↔ ∃ f, f < d ∧ v 13 f = 3 ∧ (v 14 f = x ∨ v 16 f = x))) ∧ ∃ b, b < 16 ∧ qI h o 5 = nI b ∧ ∀ i, i < 4 → (b.testBit i = true ↔ ∃ f, f < d ∧ v 13 f = 0 ∧ v 14 f = i)
/-- what holds among the things that are done -/
def zS4 (Bs : Nat × q_Hp) (K : Nat → Nat) (V U : Nat → Int64) (e c o q nt ns n l x t Q d w jn : Nat) (v : Nat → Nat → Nat) (h k : q_Hp) : Prop := zO h k ∧ (zT K V U e c nt ns h k ∧ zL h k o q nt ns n l ∧ zX h k o q nt ns n x ∧ zTb Bs c n o q h k t Q) ∧ zC c Q h k ∧ (zM K V U e (fun x => x < n) true l w (n + l + w) h k ∧ zLk l (n + l + w) h ∧ zTj nt (n + l + w) h) ∧ (d ≤ 8 ∧ w ≤ d ∧ jn ≤ 2 * d ∧ qI h o 4 = nI d ∧ qA k 659 q = nI d ∧ qI h 589 10 = nI w ∧ qI k 630 77 = nI w ∧ qI k 630 75 = nI jn) ∧ (∀ f, f < d → zDe o q v h k f ∧ zDw c o n l nt ns Q v h f) ∧ zDg o n l w (n + l + w) d jn v h k
section ZD
variable {Bs : Nat × q_Hp} {K P X : Nat → Nat} {V U : Nat → Int64} {e c o q r nt ns n l x t Q Q' d w w' jn jn' m f : Nat} {v v' : Nat → Nat → Nat} {h h' k k' : q_Hp}
theorem zDe.fr (Z : zDe o q v h k f) (hv : ∀ i, v' i f = v i f) (g8 : ∀ y, 8 ≤ y → y ≤ 11 → qA h' (o + y) f = qA h (o + y) f) (g12 : ∀ y, y = 12 ∨ y = 13 → qA h' (o + y) (8 + f) = qA h (o + y) (8 + f)) (p6 : ∀ y, 660 ≤ y → y ≤ 665 → qA k' y (8 * q + f) = qA k y (8 * q + f)) : zDe o q v' h' k' f := by
  unfold zDe
  rw [hv, hv, hv, hv, hv, hv, g8 8 (by decide) (by decide), g8 9 (by decide) (by decide), g8 10 (by decide) (by decide), g8 11 (by decide) (by decide), g12 12 (by decide), g12 13 (by decide), p6 660 (by decide) (by decide), p6 661 (by decide) (by decide), p6 662 (by decide) (by decide), p6 663 (by decide) (by decide), p6 664 (by decide) (by decide), p6 665 (by decide) (by decide)]
  exact Z
theorem z_nd.cg (Z : z_nd n v d x) (hv : ∀ i f, f < d → v' i f = v i f) : z_nd n v' d x := by
  rcases Z with ⟨z1, z2⟩ | ⟨f, z1, z2, z3⟩
  · refine Or.inl ⟨z1, fun f hf q => ?_⟩
    rw [hv _ f hf] at q ⊢
    exact z2 f hf q
  · refine Or.inr ⟨f, z1, ?_, ?_⟩
    · rw [hv _ f z1]; exact z2
    · rw [hv _ f z1]; exact z3
theorem zDw.fr (Z : zDw c o n l nt ns Q v h d) (hv : ∀ i f, f ≤ d → v' i f = v i f) (hl : l ≤ 6) (A : zA c Q h h') (hQ : Q ≤ Q') (g5 : ∀ i, i < 6 → qA h' (o + 5) i = qA h (o + 5) i ∧ qA h' (o + 6) i = qA h (o + 6) i) : zDw c o n l nt ns Q' v' h' d := by
  obtain ⟨z0, z1, z2, z3, z4, z5⟩ := Z
  unfold zDw
  rw [hv 13 d (Nat.le_refl _), hv 14 d (Nat.le_refl _), hv 15 d (Nat.le_refl _), hv 16 d (Nat.le_refl _), hv 11 d (Nat.le_refl _), hv 12 d (Nat.le_refl _)]
  have hv2 : ∀ i f, f < d → v' i f = v i f := fun i f hf => hv i f (by omega)
  refine ⟨z0, fun q => ?_, fun q => ?_, fun q => ?_, fun q => ?_, fun q => ?_⟩
  · obtain ⟨y1, y2, y3, y4⟩ := z1 q
    refine ⟨y1, fun f hf q2 => ?_, fun y hy q2 => ?_, fun f hf q2 => ?_⟩
    · rw [hv2 _ f hf] at q2 ⊢
      exact y2 f hf q2
    · rw [(g5 y (by omega)).1, (g5 y (by omega)).2] at q2
      obtain ⟨f, q3, q4, q5⟩ := y3 y hy q2
      exact ⟨f, q3, by rw [hv2 _ f q3]; exact q4, by rw [hv2 _ f q3]; exact q5⟩
    · rw [hv2 _ f hf] at q2
      rw [hv2 _ f hf, hv2 _ f hf]
      exact y4 f hf q2
  · obtain ⟨y1, y2⟩ := z2 q
    refine ⟨y1, fun f hf q2 => ?_⟩
    rw [hv2 _ f hf] at q2 ⊢
    exact y2 f hf q2
  · obtain ⟨y1, y2, y3, y4⟩ := z3 q
    refine ⟨y1, y2, y3, fun f hf q2 => ?_⟩
    rw [hv2 _ f hf] at q2 ⊢
    exact y4 f hf q2
  · obtain ⟨y1, y2, y3⟩ := z4 q
    exact ⟨y1.cg hv2, y2, y3.cg hv2⟩
  · obtain ⟨y1, y2, y3, y4⟩ := z5 q
    exact ⟨y1.cg hv2, y2, y3.fr (A.mono y4), by omega⟩
theorem zL.fr2 (Z : zL h k o q nt ns n l) (i : ∀ j, j < 4 ∨ j = 6 → qI h' o j = qI h o j) (a : ∀ y, 1 ≤ y → y ≤ 7 → qA h' (o + y) = qA h (o + y)) (ak : ∀ y, 638 ≤ y → y ≤ 658 → qA k' y = qA k y) : zL h' k' o q nt ns n l := Z.fr (i _ (by omega)) (i _ (by omega)) (i _ (by omega)) (a 1 (by decide) (by decide)) (fun j _ => by rw [a 4 (by decide) (by decide), a 5 (by decide) (by decide), a 6 (by decide) (by decide)]; exact ⟨rfl, rfl, rfl⟩) (fun y h1 h2 => ak y (by omega) (by omega))
/-- one more is done -/
theorem zS4.nx (Z : zS4 Bs K V U e c o (20 + r) nt ns n l x t Q d w jn v h k) (hd : d < 8) (O : zO h' k') (gI : ∀ y j, (y = c ∧ j < 2) ∨ (y = o ∧ (j < 4 ∨ j = 6)) → qI h' y j = qI h y j) (gL : ∀ y, y = 590 ∨ y = 591 → qL h' y = qL h y) (gA : ∀ y, (c + 1 ≤ y ∧ y ≤ c + 3) ∨ (o + 1 ≤ y ∧ y ≤ o + 7) → qA h' y = qA h y) (g8 : ∀ y f, 8 ≤ y → y ≤ 11 → f < d → qA h' (o + y) f = qA h (o + y) f) (g12 : ∀ y f, y = 12 ∨ y = 13 → f < 8 + d → qA h' (o + y) f = qA h (o + y) f) (pI : ∀ j, j = 18 ∨ j = 19 → qI k' 630 j = qI k 630 j) (pL : ∀ y, y = 674 ∨ y = 675 → qL k' y = qL k y) (pA : ∀ y, 638 ≤ y → y ≤ 658 → qA k' y = qA k y) (p6 : ∀ y f, 660 ≤ y → y ≤ 665 → f < d → qA k' y (8 * (20 + r) + f) = qA k y (8 * (20 + r) + f)) (A : zA c Q h h') (hQ : Q ≤ Q') (C : zC c Q' h' k') (M : zM K V U e (fun x => x < n) true l w' (n + l + w') h' k') (Lk : zLk l (n + l + w') h') (Tj : zTj nt (n + l + w') h') (N : w' ≤ d + 1 ∧ jn' ≤ 2 * (d + 1) ∧ qI h' o 4 = nI (d + 1) ∧ qA k' 659 (20 + r) = nI (d + 1) ∧ qI h' 589 10 = nI w' ∧ qI k' 630 77 = nI w' ∧ qI k' 630 75 = nI jn') (hv : ∀ i f, f < d → v' i f = v i f) (E : zDe o (20 + r) v' h' k' d) (W : zDw c o n l nt ns Q' v' h' d) (G : zDg o n l w' (n + l + w') (d + 1) jn' v' h' k') : zS4 Bs K V U e c o (20 + r) nt ns n l x t Q' (d + 1) w' jn' v' h' k' := by
  obtain ⟨_, ⟨z1, z2, z3, z4⟩, _, _, _, z5, _⟩ := Z
  refine ⟨O, ⟨z1.fr (gI _ _ (by omega)) (gI _ _ (by omega)) (pI _ (by omega)) (pI _ (by omega)) (gL _ (by omega)) (gL _ (by omega)) (pL _ (by omega)) (pL _ (by omega)) (gA _ (by omega)) (gA _ (by omega)) (gA _ (by omega)) (pA _ (by omega) (by omega)) (pA _ (by omega) (by omega)) (pA _ (by omega) (by omega)), z2.fr2 (fun j hj => gI _ _ (by omega)) (fun y h1 h2 => gA _ (by omega)) pA, z3.fr (gI _ _ (by omega)) (fun y hy => gA _ (by omega)) (fun y hy => pA _ (by omega) (by omega)), z4.fr A hQ (gI _ _ (by omega)) (gA _ (by omega)) (fun y hy j hj => g12 y j hy (by omega)) (fun y hy => pA _ (by omega) (by omega))⟩, C, ⟨M, Lk, Tj⟩, ⟨by omega, N⟩, fun f hf => ?_, G⟩
  by_cases h9 : f = d
  · rw [h9]
    exact ⟨E, W⟩
  · have hf2 : f < d := by omega
    obtain ⟨e1, e2⟩ := z5 f hf2
    refine ⟨e1.fr (fun i => hv i f hf2) (fun y h1 h2 => g8 y f h1 h2 hf2) (fun y hy => g12 y _ hy (by omega)) (fun y h1 h2 => p6 y f h1 h2 hf2), e2.fr (fun i g hg => hv i g (by omega)) z2.2.1 A hQ (fun i _ => ?_)⟩
    rw [gA (o + 5) (by omega), gA (o + 6) (by omega)]
    exact ⟨rfl, rfl⟩
/-- a number that is put beside those that are there -/
def z_up (v : Nat → Nat → Nat) (d : Nat) (g : Nat → Nat) : Nat → Nat → Nat := fun i f => if f = d then g i else v i f
theorem z_up_o {g : Nat → Nat} {i : Nat} (hf : f < d) : z_up v d g i f = v i f := if_neg (by omega)
theorem z_up_n {g : Nat → Nat} {i : Nat} : z_up v d g i d = g i := if_pos rfl
theorem z_aup {g : Nat → Nat} {a b i y : Nat} : (∀ f, f < d + 1 → z_up v d g a f = b → ¬ z_up v d g i f = y) ↔ (∀ f, f < d → v a f = b → ¬ v i f = y) ∧ (g a = b → ¬ g i = y) := by
  refine ⟨fun H => ⟨fun f hf => ?_, ?_⟩, fun H f hf => ?_⟩
  · have := H f (by omega)
    rw [z_up_o hf, z_up_o hf] at this
    exact this
  · have := H d (by omega)
    rw [z_up_n, z_up_n] at this
    exact this
  · by_cases h9 : f = d
    · rw [h9, z_up_n, z_up_n]
      exact H.2
    · rw [z_up_o (by omega), z_up_o (by omega)]
      exact H.1 f (by omega)
theorem z_jup {g : Nat → Nat} {y : Nat} : (∃ f, f < d + 1 ∧ z_up v d g 13 f = 3 ∧ (z_up v d g 14 f = y ∨ z_up v d g 16 f = y)) ↔ (∃ f, f < d ∧ v 13 f = 3 ∧ (v 14 f = y ∨ v 16 f = y)) ∨ (g 13 = 3 ∧ (g 14 = y ∨ g 16 = y)) := by
  constructor
  · rintro ⟨f, h1, h2, h3⟩
    by_cases h9 : f = d
    · rw [h9, z_up_n] at h2
      rw [h9, z_up_n, z_up_n] at h3
      exact Or.inr ⟨h2, h3⟩
    · rw [z_up_o (by omega)] at h2
      rw [z_up_o (by omega), z_up_o (by omega)] at h3
      exact Or.inl ⟨f, by omega, h2, h3⟩
  · rintro (⟨f, h1, h2, h3⟩ | ⟨h2, h3⟩)
    · exact ⟨f, by omega, by rw [z_up_o h1]; exact h2, by rw [z_up_o h1, z_up_o h1]; exact h3⟩
    · exact ⟨d, by omega, by rw [z_up_n]; exact h2, by rw [z_up_n, z_up_n]; exact h3⟩
theorem z_dup {g : Nat → Nat} {a y : Nat} : (∃ f, f < d + 1 ∧ z_up v d g 13 f = a ∧ z_up v d g 14 f = y) ↔ (∃ f, f < d ∧ v 13 f = a ∧ v 14 f = y) ∨ (g 13 = a ∧ g 14 = y) := by
  constructor
  · rintro ⟨f, h1, h2, h3⟩
    by_cases h9 : f = d
    · rw [h9, z_up_n] at h2
      rw [h9, z_up_n] at h3
      exact Or.inr ⟨h2, h3⟩
    · rw [z_up_o (by omega)] at h2
      rw [z_up_o (by omega)] at h3
      exact Or.inl ⟨f, by omega, h2, h3⟩
  · rintro (⟨f, h1, h2, h3⟩ | ⟨h2, h3⟩)
    · exact ⟨f, by omega, by rw [z_up_o h1]; exact h2, by rw [z_up_o h1]; exact h3⟩
    · exact ⟨d, by omega, by rw [z_up_n]; exact h2, by rw [z_up_n]; exact h3⟩
theorem zDg.st {g : Nat → Nat} {m' : Nat} (G : zDg o n l w m d jn v h k) (hw : w ≤ w') (a1 : ∀ j x, j < m' → qA h' 593 j = 1 → x < n → qA h' 594 j = nI x → (qA h' 596 j = 0 ↔ (∀ f, f < d → v 13 f = 0 → ¬ v 14 f = x) ∧ (g 13 = 0 → ¬ g 14 = x))) (a2 : ∀ j x, j < m' → qA h' 593 j = 2 → x < l → qA h' 594 j = nI x → (qA h' 596 j = 0 ↔ (∀ f, f < d → v 13 f = 1 → ¬ v 14 f = x) ∧ (g 13 = 1 → ¬ g 14 = x))) (a3 : ∀ x, x < w' → (∃ f, f < d ∧ v 13 f = 2 ∧ v 14 f = 4 + x) ∨ (g 13 = 2 ∧ g 14 = 4 + x)) (a4 : g 13 = 2 → g 14 < 4 + w') (a5 : ∀ x, x < l → (qA k' 683 x = 0 ↔ (∀ f, f < d → v 13 f = 1 → ¬ v 14 f = x) ∧ (g 13 = 1 → ¬ g 14 = x))) (a6 : ∀ x, x < 12 → (bt (qI h' 589 11) x = true ↔ bt (qI h 589 11) x = true ∨ (g 13 = 3 ∧ (g 14 = x ∨ g 16 = x)))) (a7 : ∀ x, x < 12 → ((∃ i, i < jn' ∧ qA k' 684 i = nI x) ↔ (∃ i, i < jn ∧ qA k 684 i = nI x) ∨ (g 13 = 3 ∧ (g 14 = x ∨ g 16 = x)))) (a8 : ∃ b, b < 16 ∧ qI h' o 5 = nI b ∧ ∀ i, i < 4 → (b.testBit i = true ↔ (∃ f, f < d ∧ v 13 f = 0 ∧ v 14 f = i) ∨ (g 13 = 0 ∧ g 14 = i))) : zDg o n l w' m' (d + 1) jn' (z_up v d g) h' k' := by
  obtain ⟨_, _, g3, g4, _, g6, g7, _⟩ := G
  refine ⟨fun j x h1 h2 h3 h4 => ?_, fun j x h1 h2 h3 h4 => ?_, fun x hx => ?_, fun f hf h2 => ?_, fun x hx => ?_, fun x hx => ?_, fun x hx => ?_, ?_⟩
  · rw [z_aup]
    exact a1 j x h1 h2 h3 h4
  · rw [z_aup]
    exact a2 j x h1 h2 h3 h4
  · rw [z_dup]
    exact a3 x hx
  · by_cases h9 : f = d
    · rw [h9, z_up_n] at h2 ⊢
      exact a4 h2
    · rw [z_up_o (by omega)] at h2 ⊢
      have := g4 f (by omega) h2
      omega
  · rw [z_aup]
    exact a5 x hx
  · rw [z_jup, a6 x hx, g6 x hx]
  · rw [z_jup, a7 x hx, g7 x hx]
  · obtain ⟨b, b1, b2, b3⟩ := a8
    refine ⟨b, b1, b2, fun i hi => ?_⟩
    rw [z_dup]
    exact b3 i hi
end ZD
