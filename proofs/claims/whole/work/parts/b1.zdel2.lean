/-! THE TWO READS: what is deleted, in both -/
section ZD
variable {Bs : Nat × q_Hp} {K P X : Nat → Nat} {V U : Nat → Int64} {e c o q r nt ns n l x t Q Q' d w w' jn jn' m f j : Nat} {v v' : Nat → Nat → Nat} {h h' k k' : q_Hp} {s : y_S} {NX : Nat → Prop}
theorem g_dd_A2 {a1 a2 a3 a4 : Int32} {y : Nat} (hy : ¬ (o + 8 ≤ y ∧ y ≤ o + 11)) : qA (g_dd o d a1 a2 a3 a4 h) y = qA h y := by
  unfold g_dd
  rw [qA_sI, qA_sAn (by omega), qA_sAn (by omega), qA_sAn (by omega), qA_sAn (by omega)]
theorem g_dd_p {a1 a2 a3 a4 : Int32} {y : Nat} (hf : ¬ f = d) : qA (g_dd o d a1 a2 a3 a4 h) y f = qA h y f := by
  unfold g_dd
  rw [qA_sI, qA_sAp (by omega), qA_sAp (by omega), qA_sAp (by omega), qA_sAp (by omega)]
theorem g_dd_n {a1 a2 a3 a4 : Int32} : qA (g_dd o d a1 a2 a3 a4 h) (o + 8) d = a1 ∧ qA (g_dd o d a1 a2 a3 a4 h) (o + 9) d = a2 ∧ qA (g_dd o d a1 a2 a3 a4 h) (o + 10) d = a3 ∧ qA (g_dd o d a1 a2 a3 a4 h) (o + 11) d = a4 := by
  unfold g_dd
  refine ⟨?_, ?_, ?_, ?_⟩
  · rw [qA_sI, qA_sAp (by omega), qA_sAp (by omega), qA_sAp (by omega), qA_sAe]
  · rw [qA_sI, qA_sAp (by omega), qA_sAp (by omega), qA_sAe]
  · rw [qA_sI, qA_sAp (by omega), qA_sAe]
  · rw [qA_sI, qA_sAe]
theorem g_dd_L {a1 a2 a3 a4 : Int32} : qL (g_dd o d a1 a2 a3 a4 h) = qL h := rfl
theorem zS4.d1 (Z : zS4 Bs K V U e c o (20 + r) nt ns n l x t Q d w jn v h k) : zS4 Bs K V U e c o (20 + r) nt ns n l x t Q d w jn v h (p_d1 (8 * (20 + r) + d) k) ∧ qA (p_d1 (8 * (20 + r) + d) k) 664 (8 * (20 + r) + d) = nI (1300 + Q) := by
  obtain ⟨O, ⟨z1, z2, z3, z4⟩, C, ⟨M, Lk, Tj⟩, ⟨n1, n2, n3, n4, n5, n6, n7, n8⟩, z5, G⟩ := Z
  have e22 := C.2.1
  unfold p_d1
  rw [e22]
  have rA : ∀ y, ¬ (661 ≤ y ∧ y ≤ 664) → qA (q_sA (q_sA (q_sA (q_sA k 661 (8 * (20 + r) + d) (-1)) 662 (8 * (20 + r) + d) (-1)) 663 (8 * (20 + r) + d) (-1)) 664 (8 * (20 + r) + d) (nI (1300 + Q))) y = qA k y := fun y hy => by
    rw [qA_sAn (by omega), qA_sAn (by omega), qA_sAn (by omega), qA_sAn (by omega)]
  have rP : ∀ y f, ¬ f = 8 * (20 + r) + d → qA (q_sA (q_sA (q_sA (q_sA k 661 (8 * (20 + r) + d) (-1)) 662 (8 * (20 + r) + d) (-1)) 663 (8 * (20 + r) + d) (-1)) 664 (8 * (20 + r) + d) (nI (1300 + Q))) y f = qA k y f := fun y f hy => by
    rw [qA_sAp (by omega), qA_sAp (by omega), qA_sAp (by omega), qA_sAp (by omega)]
  have rI : qI (q_sA (q_sA (q_sA (q_sA k 661 (8 * (20 + r) + d) (-1)) 662 (8 * (20 + r) + d) (-1)) 663 (8 * (20 + r) + d) (-1)) 664 (8 * (20 + r) + d) (nI (1300 + Q))) = qI k := by
    rw [qI_sA, qI_sA, qI_sA, qI_sA]
  have rL : qL (q_sA (q_sA (q_sA (q_sA k 661 (8 * (20 + r) + d) (-1)) 662 (8 * (20 + r) + d) (-1)) 663 (8 * (20 + r) + d) (-1)) 664 (8 * (20 + r) + d) (nI (1300 + Q))) = qL k := by
    rw [qL_sA, qL_sA, qL_sA, qL_sA]
  have r4 : qA (q_sA (q_sA (q_sA (q_sA k 661 (8 * (20 + r) + d) (-1)) 662 (8 * (20 + r) + d) (-1)) 663 (8 * (20 + r) + d) (-1)) 664 (8 * (20 + r) + d) (nI (1300 + Q))) 664 (8 * (20 + r) + d) = nI (1300 + Q) := qA_sAe
  generalize q_sA (q_sA (q_sA (q_sA k 661 (8 * (20 + r) + d) (-1)) 662 (8 * (20 + r) + d) (-1)) 663 (8 * (20 + r) + d) (-1)) 664 (8 * (20 + r) + d) (nI (1300 + Q)) = k1 at *
  refine ⟨⟨⟨O.1, by rw [rI]; exact O.2⟩, ⟨z1.fr rfl rfl (by rw [rI]) (by rw [rI]) rfl rfl (by rw [rL]) (by rw [rL]) rfl rfl rfl (rA _ (by omega)) (rA _ (by omega)) (rA _ (by omega)), z2.fr2 (fun _ _ => rfl) (fun _ _ _ => rfl) (fun y h1 h2 => rA y (by omega)), z3.fr rfl (fun _ _ => rfl) (fun y hy => rA y (by omega)), z4.fr zA.rf (Nat.le_refl _) rfl rfl (fun _ _ _ _ => rfl) (fun y hy => rA y (by omega))⟩, C.fr rfl (by rw [rI]) zA.rf (fun y hy => rA y (by omega)), ⟨M.fr rfl (by rw [rI]) rfl (by rw [rL]) (fun _ _ => rfl) (fun y hy => rA y (by omega)), Lk, Tj⟩, ⟨n1, n2, n3, n4, by rw [rA 659 (by omega)]; exact n5, n6, by rw [rI]; exact n7, by rw [rI]; exact n8⟩, fun f hf => ⟨(z5 f hf).1.fr (fun _ => rfl) (fun _ _ _ => rfl) (fun _ _ => rfl) (fun y _ _ => rP y _ (by omega)), (z5 f hf).2⟩, ?_⟩, r4⟩
  unfold zDg
  rw [rA 683 (by omega), rA 684 (by omega)]
  exact G
/-- a link is deleted -/
theorem zS4.dl (hc : c = 11 ∨ c = 300) (hO : q_isO o) (Z : zS4 Bs K V U e c o (20 + r) nt ns n l x t Q d w jn v h k) (hd : d < 8) {y : Nat} (hj : j < n + l + w) (h3 : qA h 593 j = 2) (h4 : qA h 594 j = nI y) (hy : y < l) (h6 : qA h 596 j = 0) (k79 : qA k 679 j = 1) (k80 : qA k 680 j = nI y) : zS4 Bs K V U e c o (20 + r) nt ns n l x t Q (d + 1) w jn (z_up v d (fun i => if i = 13 then 1 else if i = 14 then y else 0)) (g_dd o d 7 (nI y) (-1) (-1) (q_sA h 596 j 1)) (q_sA (q_sA (q_sA (q_sA (q_sA (q_sA k 682 j 1) 661 (8 * (20 + r) + d) (nI y)) 660 (8 * (20 + r) + d) 1) 683 y 1) 665 (8 * (20 + r) + d) (nI (1300 + Q))) 659 (20 + r) (nI (d + 1))) := by
  generalize hg : (fun i : Nat => if i = 13 then (1 : Nat) else if i = 14 then y else 0) = g
  have g13 : g 13 = 1 := by
    rw [← hg]
    rfl
  have g14 : g 14 = y := by
    rw [← hg]
    rfl
  obtain ⟨O, ⟨z1, z2, z3, z4⟩, C, ⟨M, Lk, Tj⟩, ⟨n1, n2, n3, n4, n5, n6, n7, n8⟩, z5, G⟩ := id Z
  have l6 := z2.2.1
  have n4' := z2.1
  have hl := hO.n
  have hne := hO.ne
  have na : ∀ i x, 1 ≤ i → i < 14 → 1 ≤ x → x < 9 → ¬ o + i = c + x := hO.na hc
  have gD := G.2.1 j y hj h3 hy h4
  have old : ∀ f, f < d → v 13 f = 1 → ¬ v 14 f = y := gD.mp h6
  -- the class
  have gA : ∀ i, ¬ (o + 8 ≤ i ∧ i ≤ o + 11) → ¬ i = 596 → qA (g_dd o d 7 (nI y) (-1) (-1) (q_sA h 596 j 1)) i = qA h i := fun i h1 h2 => by
    rw [g_dd_A2 h1, qA_sAn h2]
  have gp : ∀ i f, ¬ i = 596 → ¬ f = d → qA (g_dd o d 7 (nI y) (-1) (-1) (q_sA h 596 j 1)) i f = qA h i f := fun i f h1 h2 => by
    rw [g_dd_p h2, qA_sAn h1]
  have g6 : ∀ i, qA (g_dd o d 7 (nI y) (-1) (-1) (q_sA h 596 j 1)) 596 i = if i = j then 1 else qA h 596 i := fun i => by
    rw [g_dd_A2 (by omega)]
    by_cases h9 : i = j
    · rw [h9, qA_sAe, if_pos rfl]
    · rw [qA_sAp (by omega), if_neg h9]
  have gI : ∀ i i', ¬ (i = o ∧ i' = 4) → qI (g_dd o d 7 (nI y) (-1) (-1) (q_sA h 596 j 1)) i i' = qI h i i' := fun i i' h1 => by
    rw [g_dd_I h1, qI_sA]
  have g4 : qI (g_dd o d 7 (nI y) (-1) (-1) (q_sA h 596 j 1)) o 4 = nI (d + 1) := g_dd_4
  obtain ⟨d8, d9, d10, d11⟩ := g_dd_n (o := o) (d := d) (a1 := 7) (a2 := nI y) (a3 := -1) (a4 := -1) (h := q_sA h 596 j 1)
  have gL : qL (g_dd o d 7 (nI y) (-1) (-1) (q_sA h 596 j 1)) = qL h := by rw [g_dd_L, qL_sA]
  have M' := M.gn (j := j)
  have M2 : ∀ k2, qI k2 630 68 = qI k 630 68 → qL k2 = qL k → (∀ i, i = 679 ∨ i = 680 ∨ i = 681 → qA k2 i = qA k i) → qA k2 682 = qA (q_sA k 682 j 1) 682 → zM K V U e (fun x => x < n) true l w (n + l + w) (g_dd o d 7 (nI y) (-1) (-1) (q_sA h 596 j 1)) k2 := by
    intro k2 e1 e2 e3 e4
    refine M'.fr (by rw [g_dd_I (by omega)]) (by rw [e1, qI_sA]) (by rw [g_dd_L]) (by rw [e2, qL_sA]) (fun i hi => g_dd_A2 (by omega)) (fun i hi => ?_)
    by_cases h9 : i = 682
    · rw [h9, e4]
    · rw [e3 i (by omega), qA_sAn h9]
  generalize g_dd o d 7 (nI y) (-1) (-1) (q_sA h 596 j 1) = h2 at *
  -- the reference
  have pA : ∀ i, ¬ (659 ≤ i ∧ i ≤ 683) → qA (q_sA (q_sA (q_sA (q_sA (q_sA (q_sA k 682 j 1) 661 (8 * (20 + r) + d) (nI y)) 660 (8 * (20 + r) + d) 1) 683 y 1) 665 (8 * (20 + r) + d) (nI (1300 + Q))) 659 (20 + r) (nI (d + 1))) i = qA k i := fun i h1 => by
    rw [qA_sAn (by omega), qA_sAn (by omega), qA_sAn (by omega), qA_sAn (by omega), qA_sAn (by omega), qA_sAn (by omega)]
  have pB : ∀ i, (i = 662 ∨ i = 663 ∨ i = 664 ∨ i = 666 ∨ i = 667 ∨ i = 668 ∨ i = 679 ∨ i = 680 ∨ i = 681) → qA (q_sA (q_sA (q_sA (q_sA (q_sA (q_sA k 682 j 1) 661 (8 * (20 + r) + d) (nI y)) 660 (8 * (20 + r) + d) 1) 683 y 1) 665 (8 * (20 + r) + d) (nI (1300 + Q))) 659 (20 + r) (nI (d + 1))) i = qA k i := fun i h1 => by
    rw [qA_sAn (by omega), qA_sAn (by omega), qA_sAn (by omega), qA_sAn (by omega), qA_sAn (by omega), qA_sAn (by omega)]
  have pC : ∀ i f, 660 ≤ i → i ≤ 665 → ¬ f = 8 * (20 + r) + d → qA (q_sA (q_sA (q_sA (q_sA (q_sA (q_sA k 682 j 1) 661 (8 * (20 + r) + d) (nI y)) 660 (8 * (20 + r) + d) 1) 683 y 1) 665 (8 * (20 + r) + d) (nI (1300 + Q))) 659 (20 + r) (nI (d + 1))) i f = qA k i f := fun i f h1 h2 h3 => by
    rw [qA_sAp (by omega), qA_sAp (by omega), qA_sAp (by omega), qA_sAp (by omega), qA_sAp (by omega), qA_sAp (by omega)]
  have p60 : qA (q_sA (q_sA (q_sA (q_sA (q_sA (q_sA k 682 j 1) 661 (8 * (20 + r) + d) (nI y)) 660 (8 * (20 + r) + d) 1) 683 y 1) 665 (8 * (20 + r) + d) (nI (1300 + Q))) 659 (20 + r) (nI (d + 1))) 660 (8 * (20 + r) + d) = 1 := by
    rw [qA_sAp (by omega), qA_sAp (by omega), qA_sAp (by omega), qA_sAe]
  have p61 : qA (q_sA (q_sA (q_sA (q_sA (q_sA (q_sA k 682 j 1) 661 (8 * (20 + r) + d) (nI y)) 660 (8 * (20 + r) + d) 1) 683 y 1) 665 (8 * (20 + r) + d) (nI (1300 + Q))) 659 (20 + r) (nI (d + 1))) 661 (8 * (20 + r) + d) = nI y := by
    rw [qA_sAp (by omega), qA_sAp (by omega), qA_sAp (by omega), qA_sAp (by omega), qA_sAe]
  have p83 : ∀ i, qA (q_sA (q_sA (q_sA (q_sA (q_sA (q_sA k 682 j 1) 661 (8 * (20 + r) + d) (nI y)) 660 (8 * (20 + r) + d) 1) 683 y 1) 665 (8 * (20 + r) + d) (nI (1300 + Q))) 659 (20 + r) (nI (d + 1))) 683 i = if i = y then 1 else qA k 683 i := fun i => by
    rw [qA_sAp (by omega), qA_sAp (by omega)]
    by_cases h9 : i = y
    · rw [h9, qA_sAe, if_pos rfl]
    · rw [qA_sAp (by omega), qA_sAp (by omega), qA_sAp (by omega), qA_sAp (by omega), if_neg h9]
  have p82 : qA (q_sA (q_sA (q_sA (q_sA (q_sA (q_sA k 682 j 1) 661 (8 * (20 + r) + d) (nI y)) 660 (8 * (20 + r) + d) 1) 683 y 1) 665 (8 * (20 + r) + d) (nI (1300 + Q))) 659 (20 + r) (nI (d + 1))) 682 = qA (q_sA k 682 j 1) 682 := by
    rw [qA_sAn (by omega), qA_sAn (by omega), qA_sAn (by omega), qA_sAn (by omega), qA_sAn (by omega)]
  have p59 : qA (q_sA (q_sA (q_sA (q_sA (q_sA (q_sA k 682 j 1) 661 (8 * (20 + r) + d) (nI y)) 660 (8 * (20 + r) + d) 1) 683 y 1) 665 (8 * (20 + r) + d) (nI (1300 + Q))) 659 (20 + r) (nI (d + 1))) 659 (20 + r) = nI (d + 1) := qA_sAe
  have pI : qI (q_sA (q_sA (q_sA (q_sA (q_sA (q_sA k 682 j 1) 661 (8 * (20 + r) + d) (nI y)) 660 (8 * (20 + r) + d) 1) 683 y 1) 665 (8 * (20 + r) + d) (nI (1300 + Q))) 659 (20 + r) (nI (d + 1))) = qI k := by
    rw [qI_sA, qI_sA, qI_sA, qI_sA, qI_sA, qI_sA]
  have pL : qL (q_sA (q_sA (q_sA (q_sA (q_sA (q_sA k 682 j 1) 661 (8 * (20 + r) + d) (nI y)) 660 (8 * (20 + r) + d) 1) 683 y 1) 665 (8 * (20 + r) + d) (nI (1300 + Q))) 659 (20 + r) (nI (d + 1))) = qL k := by
    rw [qL_sA, qL_sA, qL_sA, qL_sA, qL_sA, qL_sA]
  generalize q_sA (q_sA (q_sA (q_sA (q_sA (q_sA k 682 j 1) 661 (8 * (20 + r) + d) (nI y)) 660 (8 * (20 + r) + d) 1) 683 y 1) 665 (8 * (20 + r) + d) (nI (1300 + Q))) 659 (20 + r) (nI (d + 1)) = k2 at *
  have A : zA c Q h h2 := fun i hi => by
    have a1 := fun i (h1 : 8 ≤ i) (h2 : i ≤ 11) => na i 6 (by omega) (by omega) (by decide) (by decide)
    have a2 := fun i (h1 : 8 ≤ i) (h2 : i ≤ 11) => na i 7 (by omega) (by omega) (by decide) (by decide)
    have b6 : ¬ (o + 8 ≤ c + 6 ∧ c + 6 ≤ o + 11) := fun q => a1 (c + 6 - o) (by omega) (by omega) (by omega)
    have b7 : ¬ (o + 8 ≤ c + 7 ∧ c + 7 ≤ o + 11) := fun q => a2 (c + 7 - o) (by omega) (by omega) (by omega)
    rw [gA _ b6 (by omega), gA _ b7 (by omega)]
    exact ⟨rfl, rfl⟩
  refine zS4.nx Z hd ⟨(gI _ _ (by omega)).trans O.1, by rw [pI]; exact O.2⟩ (fun i i' hi => gI _ _ (by omega)) (fun i _ => by rw [gL]) (fun i hi => gA i ?_ (by omega)) (fun i f h1 h2 hf => gp _ f (by omega) (by omega)) (fun i f hi hf => by rw [gA (o + i) (by omega) (by omega)]) (fun _ _ => by rw [pI]) (fun _ _ => by rw [pL]) (fun i h1 h2 => pA i (by omega)) (fun i f h1 h2 hf => pC i _ h1 h2 (by omega)) A (Nat.le_refl _) (C.fr (gI _ _ (by omega)) (by rw [pI]) A (fun i hi => pB i (by omega))) (M2 k2 (by rw [pI]) pL (fun i hi => pB i (by omega)) p82) (Lk.fr (gA _ (by omega) (by omega)) (gA _ (by omega) (by omega))) (Tj.fr (fun i i' hi _ => by rw [gA i (by omega) (by omega)])) ⟨by omega, by omega, g4, p59, (gI _ _ (by omega)).trans n6, by rw [pI]; exact n7, by rw [pI]; exact n8⟩ (fun i f hf => z_up_o hf) ?_ ?_ ?_
  · rcases hi with hi | hi
    · have a1 := fun i (h1 : 8 ≤ i) (h2 : i ≤ 11) (x : Nat) (h3 : 1 ≤ x) (h4 : x ≤ 3) => na i x (by omega) (by omega) (by omega) (by omega)
      exact fun q => a1 (i - o) (by omega) (by omega) (i - c) (by omega) (by omega) (by omega)
    · omega
  · unfold zDe
    rw [z_up_n, z_up_n, z_up_n, z_up_n, z_up_n, z_up_n, g13, g14]
    exact ⟨d8, d9, fun q => absurd q (by decide), fun q => absurd q (by decide), fun q => absurd q (by decide), p60, p61, fun q => absurd q (by decide), fun q => absurd q (by decide), fun q => absurd q (by decide)⟩
  · unfold zDw
    rw [z_up_n, z_up_n, z_up_n, z_up_n, z_up_n, z_up_n, g13, g14]
    refine ⟨by decide, fun q => absurd q (by decide), fun _ => ⟨hy, fun f hf q => ?_⟩, fun q => absurd q (by decide), fun q => absurd q (by decide), fun q => absurd q (by decide)⟩
    rw [z_up_o hf] at q ⊢
    exact old f hf q
  · refine G.st (Nat.le_refl _) (fun i x h5 h7 h8 h9 => ?_) (fun i x h5 h7 h8 h9 => ?_) (fun x hx => Or.inl (G.2.2.1 x hx)) (fun q => by omega) (fun x hx => ?_) (fun x hx => ?_) (fun x hx => ?_) ?_
    · rw [gA 593 (by omega) (by omega)] at h7
      rw [gA 594 (by omega) (by omega)] at h9
      have hne2 : ¬ i = j := fun q => by rw [q, h3] at h7; exact absurd h7 (by decide)
      rw [g6, if_neg hne2]
      exact (G.1 i x h5 h7 h8 h9).trans ⟨fun q => ⟨q, fun q2 => by omega⟩, fun q => q.1⟩
    · rw [gA 593 (by omega) (by omega)] at h7
      rw [gA 594 (by omega) (by omega)] at h9
      rw [g6]
      by_cases hij : i = j
      · rw [if_pos hij]
        rw [hij, h4] at h9
        have := (nI_eq (by omega) (by omega)).mp h9
        exact ⟨fun q => absurd q (by decide), fun q => absurd (g14.trans this) (q.2 g13)⟩
      · rw [if_neg hij]
        have hxy : ¬ y = x := fun q => by
          rw [← q, ← h4] at h9
          exact hij (Lk.2 i j h5 hj h7 h3 h9)
        exact (G.2.1 i x h5 h7 h8 h9).trans ⟨fun q => ⟨q, fun _ => by rw [g14]; exact hxy⟩, fun q => q.1⟩
    · rw [p83]
      by_cases hxy : x = y
      · rw [if_pos hxy]
        exact ⟨fun q => absurd q (by decide), fun q => absurd (g14.trans hxy.symm) (q.2 g13)⟩
      · rw [if_neg hxy]
        exact (G.2.2.2.2.1 x hx).trans ⟨fun q => ⟨q, fun _ q2 => hxy (q2.symm.trans g14)⟩, fun q => q.1⟩
    · rw [gI _ _ (by omega)]
      exact ⟨fun q => Or.inl q, fun q => q.elim id (fun q => by have := q.1; omega)⟩
    · rw [pA 684 (by omega)]
      exact ⟨fun q => Or.inl q, fun q => q.elim id (fun q => by have := q.1; omega)⟩
    · obtain ⟨b, b1, b2, b3⟩ := G.2.2.2.2.2.2.2
      refine ⟨b, b1, (gI _ _ (by omega)).trans b2, fun i hi => (b3 i hi).trans ⟨fun q => Or.inl q, fun q => q.elim id (fun q => by have := q.1; omega)⟩⟩
end ZD
