/-! THE TWO READS: what is deleted, in both -/
section ZD
variable {Bs : Nat × q_Hp} {K P X : Nat → Nat} {V U : Nat → Int64} {e c o q r nt ns n l x t Q Q' d w w' jn jn' m f j : Nat} {v v' : Nat → Nat → Nat} {h h' k k' : q_Hp} {s : y_S} {NX : Nat → Prop}
/-- a node is deleted -/
theorem zS4.dn (hc : c = 11 ∨ c = 300) (hO : q_isO o) (Z : zS4 Bs K V U e c o (20 + r) nt ns n l x t Q d w jn v h k) (hd : d < 8) {y : Nat} (hj : j < n + l + w) (h3 : qA h 593 j = 1) (h4 : qA h 594 j = nI y) (hy : y < n) (h6 : qA h 596 j = 0) (hh : ¬ z_hl o l d v h y) : zS4 Bs K V U e c o (20 + r) nt ns n l x t Q (d + 1) w jn (z_up v d (fun i => if i = 13 then 0 else if i = 14 then y else 0)) (q_sI (g_dd o d 11 (nI y) (-1) (-1) (q_sA h 596 j 1)) o 5 (qI (g_dd o d 11 (nI y) (-1) (-1) (q_sA h 596 j 1)) o 5 ||| (1 <<< (nI y &&& 31)))) (q_sA (q_sA (q_sA (q_sA (q_sA k 682 j 1) 661 (8 * (20 + r) + d) (nI y)) 660 (8 * (20 + r) + d) 0) 665 (8 * (20 + r) + d) (nI (1300 + Q))) 659 (20 + r) (nI (d + 1))) := by
  generalize hg : (fun i : Nat => if i = 13 then (0 : Nat) else if i = 14 then y else 0) = g
  have g13 : g 13 = 0 := by
    rw [← hg]
    rfl
  have g14 : g 14 = y := by
    rw [← hg]
    rfl
  obtain ⟨O, ⟨z1, z2, z3, z4⟩, C, ⟨M, Lk, Tj⟩, ⟨n1, n2, n3, n4, n5, n6, n7, n8⟩, z5, G⟩ := id Z
  have l6 := z2.2.1
  have n4' := z2.1
  have hl := hO.n
  have hne := hO.ne
  have na : ∀ i x, 1 ≤ i → i < 14 → 1 ≤ x → x < 9 → ¬ o + i = c + x := hO.na hc
  have gD := G.1 j y hj h3 hy h4
  have old : ∀ f, f < d → v 13 f = 0 → ¬ v 14 f = y := gD.mp h6
  -- the class
  have gA : ∀ i, ¬ (o + 8 ≤ i ∧ i ≤ o + 11) → ¬ i = 596 → qA (q_sI (g_dd o d 11 (nI y) (-1) (-1) (q_sA h 596 j 1)) o 5 (qI (g_dd o d 11 (nI y) (-1) (-1) (q_sA h 596 j 1)) o 5 ||| (1 <<< (nI y &&& 31)))) i = qA h i := fun i h1 h2 => by
    rw [qA_sI, g_dd_A2 h1, qA_sAn h2]
  have gp : ∀ i f, ¬ i = 596 → ¬ f = d → qA (q_sI (g_dd o d 11 (nI y) (-1) (-1) (q_sA h 596 j 1)) o 5 (qI (g_dd o d 11 (nI y) (-1) (-1) (q_sA h 596 j 1)) o 5 ||| (1 <<< (nI y &&& 31)))) i f = qA h i f := fun i f h1 h2 => by
    rw [qA_sI, g_dd_p h2, qA_sAn h1]
  have g6 : ∀ i, qA (q_sI (g_dd o d 11 (nI y) (-1) (-1) (q_sA h 596 j 1)) o 5 (qI (g_dd o d 11 (nI y) (-1) (-1) (q_sA h 596 j 1)) o 5 ||| (1 <<< (nI y &&& 31)))) 596 i = if i = j then 1 else qA h 596 i := fun i => by
    rw [qA_sI, g_dd_A2 (by omega)]
    by_cases h9 : i = j
    · rw [h9, qA_sAe, if_pos rfl]
    · rw [qA_sAp (by omega), if_neg h9]
  have gI : ∀ i i', ¬ (i = o ∧ i' = 4) → ¬ (i = o ∧ i' = 5) → qI (q_sI (g_dd o d 11 (nI y) (-1) (-1) (q_sA h 596 j 1)) o 5 (qI (g_dd o d 11 (nI y) (-1) (-1) (q_sA h 596 j 1)) o 5 ||| (1 <<< (nI y &&& 31)))) i i' = qI h i i' := fun i i' h1 h2 => by
    rw [q_sI_n h2, g_dd_I h1, qI_sA]
  have g4 : qI (q_sI (g_dd o d 11 (nI y) (-1) (-1) (q_sA h 596 j 1)) o 5 (qI (g_dd o d 11 (nI y) (-1) (-1) (q_sA h 596 j 1)) o 5 ||| (1 <<< (nI y &&& 31)))) o 4 = nI (d + 1) := by
    rw [q_sI_n (by omega)]
    exact g_dd_4
  have g5 : qI (q_sI (g_dd o d 11 (nI y) (-1) (-1) (q_sA h 596 j 1)) o 5 (qI (g_dd o d 11 (nI y) (-1) (-1) (q_sA h 596 j 1)) o 5 ||| (1 <<< (nI y &&& 31)))) o 5 = qI h o 5 ||| (1 <<< (nI y &&& 31)) := by
    rw [q_sI_e, g_dd_I (by omega), qI_sA]
  obtain ⟨d8, d9, d10, d11⟩ := g_dd_n (o := o) (d := d) (a1 := 11) (a2 := nI y) (a3 := -1) (a4 := -1) (h := q_sA h 596 j 1)
  have d8 : qA (q_sI (g_dd o d 11 (nI y) (-1) (-1) (q_sA h 596 j 1)) o 5 (qI (g_dd o d 11 (nI y) (-1) (-1) (q_sA h 596 j 1)) o 5 ||| (1 <<< (nI y &&& 31)))) (o + 8) d = 11 := by rw [qA_sI]; exact d8
  have d9 : qA (q_sI (g_dd o d 11 (nI y) (-1) (-1) (q_sA h 596 j 1)) o 5 (qI (g_dd o d 11 (nI y) (-1) (-1) (q_sA h 596 j 1)) o 5 ||| (1 <<< (nI y &&& 31)))) (o + 9) d = nI y := by rw [qA_sI]; exact d9
  have gL : qL (q_sI (g_dd o d 11 (nI y) (-1) (-1) (q_sA h 596 j 1)) o 5 (qI (g_dd o d 11 (nI y) (-1) (-1) (q_sA h 596 j 1)) o 5 ||| (1 <<< (nI y &&& 31)))) = qL h := by rw [qL_sI, g_dd_L, qL_sA]
  have M' := M.gn (j := j)
  have M2 : ∀ k2, qI k2 630 68 = qI k 630 68 → qL k2 = qL k → (∀ i, i = 679 ∨ i = 680 ∨ i = 681 → qA k2 i = qA k i) → qA k2 682 = qA (q_sA k 682 j 1) 682 → zM K V U e (fun x => x < n) true l w (n + l + w) (q_sI (g_dd o d 11 (nI y) (-1) (-1) (q_sA h 596 j 1)) o 5 (qI (g_dd o d 11 (nI y) (-1) (-1) (q_sA h 596 j 1)) o 5 ||| (1 <<< (nI y &&& 31)))) k2 := by
    intro k2 e1 e2 e3 e4
    refine M'.fr (by rw [q_sI_n (by omega), g_dd_I (by omega)]) (by rw [e1, qI_sA]) (by rw [qL_sI, g_dd_L]) (by rw [e2, qL_sA]) (fun i hi => by rw [qA_sI]; exact g_dd_A2 (by omega)) (fun i hi => ?_)
    by_cases h9 : i = 682
    · rw [h9, e4]
    · rw [e3 i (by omega), qA_sAn h9]
  generalize q_sI (g_dd o d 11 (nI y) (-1) (-1) (q_sA h 596 j 1)) o 5 (qI (g_dd o d 11 (nI y) (-1) (-1) (q_sA h 596 j 1)) o 5 ||| (1 <<< (nI y &&& 31))) = h2 at *
  -- the reference
  have pA : ∀ i, ¬ (659 ≤ i ∧ i ≤ 661) → ¬ i = 665 → ¬ i = 682 → qA (q_sA (q_sA (q_sA (q_sA (q_sA k 682 j 1) 661 (8 * (20 + r) + d) (nI y)) 660 (8 * (20 + r) + d) 0) 665 (8 * (20 + r) + d) (nI (1300 + Q))) 659 (20 + r) (nI (d + 1))) i = qA k i := fun i h1 h2 h3 => by
    rw [qA_sAn (by omega), qA_sAn (by omega), qA_sAn (by omega), qA_sAn (by omega), qA_sAn (by omega)]
  have pC : ∀ i f, 660 ≤ i → i ≤ 665 → ¬ f = 8 * (20 + r) + d → qA (q_sA (q_sA (q_sA (q_sA (q_sA k 682 j 1) 661 (8 * (20 + r) + d) (nI y)) 660 (8 * (20 + r) + d) 0) 665 (8 * (20 + r) + d) (nI (1300 + Q))) 659 (20 + r) (nI (d + 1))) i f = qA k i f := fun i f h1 h2 h3 => by
    rw [qA_sAp (by omega), qA_sAp (by omega), qA_sAp (by omega), qA_sAp (by omega), qA_sAp (by omega)]
  have p60 : qA (q_sA (q_sA (q_sA (q_sA (q_sA k 682 j 1) 661 (8 * (20 + r) + d) (nI y)) 660 (8 * (20 + r) + d) 0) 665 (8 * (20 + r) + d) (nI (1300 + Q))) 659 (20 + r) (nI (d + 1))) 660 (8 * (20 + r) + d) = 0 := by
    rw [qA_sAp (by omega), qA_sAp (by omega), qA_sAe]
  have p61 : qA (q_sA (q_sA (q_sA (q_sA (q_sA k 682 j 1) 661 (8 * (20 + r) + d) (nI y)) 660 (8 * (20 + r) + d) 0) 665 (8 * (20 + r) + d) (nI (1300 + Q))) 659 (20 + r) (nI (d + 1))) 661 (8 * (20 + r) + d) = nI y := by
    rw [qA_sAp (by omega), qA_sAp (by omega), qA_sAp (by omega), qA_sAe]
  have p82 : qA (q_sA (q_sA (q_sA (q_sA (q_sA k 682 j 1) 661 (8 * (20 + r) + d) (nI y)) 660 (8 * (20 + r) + d) 0) 665 (8 * (20 + r) + d) (nI (1300 + Q))) 659 (20 + r) (nI (d + 1))) 682 = qA (q_sA k 682 j 1) 682 := by
    rw [qA_sAn (by omega), qA_sAn (by omega), qA_sAn (by omega), qA_sAn (by omega)]
  have p59 : qA (q_sA (q_sA (q_sA (q_sA (q_sA k 682 j 1) 661 (8 * (20 + r) + d) (nI y)) 660 (8 * (20 + r) + d) 0) 665 (8 * (20 + r) + d) (nI (1300 + Q))) 659 (20 + r) (nI (d + 1))) 659 (20 + r) = nI (d + 1) := qA_sAe
  have pI : qI (q_sA (q_sA (q_sA (q_sA (q_sA k 682 j 1) 661 (8 * (20 + r) + d) (nI y)) 660 (8 * (20 + r) + d) 0) 665 (8 * (20 + r) + d) (nI (1300 + Q))) 659 (20 + r) (nI (d + 1))) = qI k := by
    rw [qI_sA, qI_sA, qI_sA, qI_sA, qI_sA]
  have pL : qL (q_sA (q_sA (q_sA (q_sA (q_sA k 682 j 1) 661 (8 * (20 + r) + d) (nI y)) 660 (8 * (20 + r) + d) 0) 665 (8 * (20 + r) + d) (nI (1300 + Q))) 659 (20 + r) (nI (d + 1))) = qL k := by
    rw [qL_sA, qL_sA, qL_sA, qL_sA, qL_sA]
  generalize q_sA (q_sA (q_sA (q_sA (q_sA k 682 j 1) 661 (8 * (20 + r) + d) (nI y)) 660 (8 * (20 + r) + d) 0) 665 (8 * (20 + r) + d) (nI (1300 + Q))) 659 (20 + r) (nI (d + 1)) = k2 at *
  have A : zA c Q h h2 := fun i hi => by
    have a1 := fun i (h1 : 8 ≤ i) (h2 : i ≤ 11) => na i 6 (by omega) (by omega) (by decide) (by decide)
    have a2 := fun i (h1 : 8 ≤ i) (h2 : i ≤ 11) => na i 7 (by omega) (by omega) (by decide) (by decide)
    have b6 : ¬ (o + 8 ≤ c + 6 ∧ c + 6 ≤ o + 11) := fun q => a1 (c + 6 - o) (by omega) (by omega) (by omega)
    have b7 : ¬ (o + 8 ≤ c + 7 ∧ c + 7 ≤ o + 11) := fun q => a2 (c + 7 - o) (by omega) (by omega) (by omega)
    rw [gA _ b6 (by omega), gA _ b7 (by omega)]
    exact ⟨rfl, rfl⟩
  refine zS4.nx Z hd ⟨(gI _ _ (by omega) (by omega)).trans O.1, by rw [pI]; exact O.2⟩ (fun i i' hi => gI _ _ (by omega) (by omega)) (fun i _ => by rw [gL]) (fun i hi => gA i ?_ (by omega)) (fun i f h1 h2 hf => gp _ f (by omega) (by omega)) (fun i f hi hf => by rw [gA (o + i) (by omega) (by omega)]) (fun _ _ => by rw [pI]) (fun _ _ => by rw [pL]) (fun i h1 h2 => pA i (by omega) (by omega) (by omega)) (fun i f h1 h2 hf => pC i _ h1 h2 (by omega)) A (Nat.le_refl _) (C.fr (gI _ _ (by omega) (by omega)) (by rw [pI]) A (fun i hi => pA i (by omega) (by omega) (by omega))) (M2 k2 (by rw [pI]) pL (fun i hi => pA i (by omega) (by omega) (by omega)) p82) (Lk.fr (gA _ (by omega) (by omega)) (gA _ (by omega) (by omega))) (Tj.fr (fun i i' hi _ => by rw [gA i (by omega) (by omega)])) ⟨by omega, by omega, g4, p59, (gI _ _ (by omega) (by omega)).trans n6, by rw [pI]; exact n7, by rw [pI]; exact n8⟩ (fun i f hf => z_up_o hf) ?_ ?_ ?_
  · rcases hi with hi | hi
    · have a1 := fun i (h1 : 8 ≤ i) (h2 : i ≤ 11) (x : Nat) (h3 : 1 ≤ x) (h4 : x ≤ 3) => na i x (by omega) (by omega) (by omega) (by omega)
      exact fun q => a1 (i - o) (by omega) (by omega) (i - c) (by omega) (by omega) (by omega)
    · omega
  · unfold zDe
    rw [z_up_n, z_up_n, z_up_n, z_up_n, z_up_n, z_up_n, g13, g14]
    exact ⟨d8, d9, fun q => absurd q (by decide), fun q => absurd q (by decide), fun q => absurd q (by decide), p60, p61, fun q => absurd q (by decide), fun q => absurd q (by decide), fun q => absurd q (by decide)⟩
  · unfold zDw
    rw [z_up_n, z_up_n, z_up_n, z_up_n, z_up_n, z_up_n, g13, g14]
    refine ⟨by decide, fun _ => ⟨hy, fun f hf q => ?_, fun i hi q => ?_, fun f hf q => ?_⟩, fun q => absurd q (by decide), fun q => absurd q (by decide), fun q => absurd q (by decide), fun q => absurd q (by decide)⟩
    · rw [z_up_o hf] at q ⊢
      exact old f hf q
    · rw [gA (o + 5) (by omega) (by omega), gA (o + 6) (by omega) (by omega)] at q
      by_cases h9 : ∃ f, f < d ∧ v 13 f = 1 ∧ v 14 f = i
      · obtain ⟨f, f1, f2, f3⟩ := h9
        exact ⟨f, f1, by rw [z_up_o f1]; exact f2, by rw [z_up_o f1]; exact f3⟩
      · exact absurd (Or.inl ⟨i, hi, fun f f1 f2 f3 => h9 ⟨f, f1, f2, f3⟩, q⟩) hh
    · rw [z_up_o hf] at q
      rw [z_up_o hf, z_up_o hf]
      exact ⟨fun q2 => hh (Or.inr ⟨f, hf, q, Or.inl q2⟩), fun q2 => hh (Or.inr ⟨f, hf, q, Or.inr q2⟩)⟩
  · refine G.st (Nat.le_refl _) (fun i x h5 h7 h8 h9 => ?_) (fun i x h5 h7 h8 h9 => ?_) (fun x hx => Or.inl (G.2.2.1 x hx)) (fun q => by omega) (fun x hx => ?_) (fun x hx => ?_) (fun x hx => ?_) ?_
    · rw [gA 593 (by omega) (by omega)] at h7
      rw [gA 594 (by omega) (by omega)] at h9
      rw [g6]
      by_cases hij : i = j
      · rw [if_pos hij]
        rw [hij, h4] at h9
        have := (nI_eq (by omega) (by omega)).mp h9
        exact ⟨fun q => absurd q (by decide), fun q => absurd (g14.trans this) (q.2 g13)⟩
      · rw [if_neg hij]
        have hxy : ¬ y = x := fun q => by
          rw [← q, ← h4] at h9
          exact hij (Tj.2 i j h5 hj h7 h3 h9)
        exact (G.1 i x h5 h7 h8 h9).trans ⟨fun q => ⟨q, fun _ => by rw [g14]; exact hxy⟩, fun q => q.1⟩
    · rw [gA 593 (by omega) (by omega)] at h7
      rw [gA 594 (by omega) (by omega)] at h9
      have hne2 : ¬ i = j := fun q => by rw [q, h3] at h7; exact absurd h7 (by decide)
      rw [g6, if_neg hne2]
      exact (G.2.1 i x h5 h7 h8 h9).trans ⟨fun q => ⟨q, fun q2 => by omega⟩, fun q => q.1⟩
    · rw [pA 683 (by omega) (by omega) (by omega)]
      exact (G.2.2.2.2.1 x hx).trans ⟨fun q => ⟨q, fun q2 => by omega⟩, fun q => q.1⟩
    · rw [gI _ _ (by omega) (by omega)]
      exact ⟨fun q => Or.inl q, fun q => q.elim id (fun q => by have := q.1; omega)⟩
    · rw [pA 684 (by omega) (by omega) (by omega)]
      exact ⟨fun q => Or.inl q, fun q => q.elim id (fun q => by have := q.1; omega)⟩
    · obtain ⟨b, b1, b2, b3⟩ := G.2.2.2.2.2.2.2
      obtain ⟨t1, t2, t3⟩ := z_bits b b1 y (by omega)
      refine ⟨b ||| 2 ^ y, t2, by rw [g5, b2, t1], fun i hi => (t3 i hi).trans ?_⟩
      rw [b3 i hi]
      exact or_congr Iff.rfl ⟨fun q => ⟨g13, g14.trans q.symm⟩, fun q => q.2.symm.trans g14⟩
/-- what is deleted -/
theorem z_de (T : zTk K P X V U e) (hc : c = 11 ∨ c = 300) (hO : q_isO o) (Z : zS4 Bs K V U e c o (20 + r) nt ns n l x t Q d w jn v h k) (hd : d < 8) (he : s.1 + 3 ≤ e) (k1 : K (s.1 + 1) = 40) : (∃ v', zS4 Bs K V U e c o (20 + r) nt ns n l x t Q (d + 1) w jn v' (g_de V o d (n + l + w) s.1 h) (p_dE r d (8 * (20 + r) + d) (p_de P U r (8 * (20 + r) + d) l jn (n + l + w) (s.1 + 1) (p_d1 (8 * (20 + r) + d) k)))) ∨ zB P e (s.1 + 3) (g_de V o d (n + l + w) s.1 h) (p_dE r d (8 * (20 + r) + d) (p_de P U r (8 * (20 + r) + d) l jn (n + l + w) (s.1 + 1) (p_d1 (8 * (20 + r) + d) k))) := by
  obtain ⟨Z1, _⟩ := Z.d1
  generalize p_d1 (8 * (20 + r) + d) k = k0 at *
  obtain ⟨O, ⟨z1, z2, z3, z4⟩, C, ⟨M, Lk, Tj⟩, _, z5, G⟩ := id Z1
  have hl := hO.n
  have hne := hO.ne
  have N1 : zN K e (s.1 + 1) := ⟨by omega, k1⟩
  have f1 := M.dd T N1
  have n4 := z2.1
  have l6 := z2.2.1
  unfold g_de p_de
  cases hf : g_ft 3 (n + l + w) (V (s.1 + 1)) h with
  | none =>
    right
    rw [← f1, hf]
    unfold p_dE
    exact zB.mk (h1 := h) (k1 := k0) (n := 4) (i := s.1 + 1) T.M O (by decide) (by decide) (by omega) (by omega) g_S.rf O.1 p_LW.rf (((p_LW.rf.sA).sA).sA)
  | some j =>
    rw [← f1, hf]
    have hj := g_ft_lt hf
    have hcf := ((q_fst_some _ _ _).mp hf).2.2.1
    simp only [Bool.and_eq_true, Bool.not_eq_true', beq_eq_false_iff_ne, beq_iff_eq] at hcf
    have h6 : qA h 596 j = 0 := hcf.2
    show (∃ v', zS4 Bs K V U e c o (20 + r) nt ns n l x t Q (d + 1) w jn v' (g_de3 o d (n + l + w) s.1 j h) (p_dE r d (8 * (20 + r) + d) (p_de2 P r (8 * (20 + r) + d) l jn (s.1 + 1) j k0))) ∨ zB P e (s.1 + 3) (g_de3 o d (n + l + w) s.1 j h) (p_dE r d (8 * (20 + r) + d) (p_de2 P r (8 * (20 + r) + d) l jn (s.1 + 1) j k0))
    unfold g_de3 p_de2 p_dE
    obtain ⟨_, _, _, q | q | q⟩ := M.2.2.1 j hj
    · obtain ⟨q1, q2, y, q3, q4, q5⟩ := q
      rw [if_neg (show ¬ qA h 593 j = 2 by rw [q1]; decide), if_neg (show ¬ qA k0 679 j = 1 by rw [q2]; decide), q4, q5]
      have d1 := z_hdg z2 M Lk G q3 q1 (by omega)
      have d2 := z_hdp (o := o) (d := d) (v := v) (h := h) z2 G q3
      unfold g_de1
      by_cases hh : z_hl o l d v h y
      · right
        rw [if_pos (d1.mpr hh), if_pos (d2.mpr hh)]
        unfold g_de2
        refine zB.mk (h1 := q_sA h 596 j 1) (k1 := p_de1 (8 * (20 + r) + d) j k0) (n := 5) (i := s.1 + 1) T.M O (by decide) (by decide) (by omega) (by omega) ((g_S.rf.dd (by omega)).sI (by omega)) (by rw [qI_sA]; exact O.1) ((p_LW.rf.sA).sA.sA) ((p_LW.rf.sA).sA)
      · left
        rw [if_neg (fun q9 => hh (d1.mp q9)), if_neg (fun q9 => hh (d2.mp q9))]
        have e22 : qI (p_de1 (8 * (20 + r) + d) j k0) 630 22 = nI (1300 + Q) := by
          unfold p_de1
          rw [qI_sA, qI_sA, qI_sA]
          exact C.2.1
        rw [e22]
        unfold p_de1
        rw [q2, q5]
        exact ⟨_, Z1.dn hc hO hd hj q1 q4 q3 h6 hh⟩
    · obtain ⟨q1, q2, q3⟩ := q
      obtain ⟨y, q3, q4, q5⟩ := q3 rfl
      left
      rw [if_pos q1, if_pos q2, q4, q5]
      have e22 : qI (q_sA (p_de1 (8 * (20 + r) + d) j k0) 683 (nI y : Int32).toNatClampNeg 1) 630 22 = nI (1300 + Q) := by
        unfold p_de1
        rw [qI_sA, qI_sA, qI_sA, qI_sA]
        exact C.2.1
      rw [e22, nI_clamp (show y < 2 ^ 31 by omega)]
      unfold p_de1
      rw [q2, q5]
      exact ⟨_, Z1.dl hc hO hd hj q1 q4 q3 h6 q2 q5⟩
    · exfalso
      rw [q.1] at hcf
      exact hcf.1.2 (by decide)
end ZD
