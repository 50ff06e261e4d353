/-! THE TWO READS: what is new -/
section ZD
variable {Bs : Nat × q_Hp} {K P X : Nat → Nat} {V U : Nat → Int64} {e c o q r nt ns n l x t Q Q' d w w' jn jn' m f j a : Nat} {v v' : Nat → Nat → Nat} {h h' k k' : q_Hp} {s : y_S} {NX : Nat → Prop}
theorem zA.o8 (hc : c = 11 ∨ c = 300) (hO : q_isO o) (gA : ∀ i, ¬ (o + 8 ≤ i ∧ i ≤ o + 11) → i < 590 → qA h' i = qA h i) : zA c Q h h' := fun i hi => by
  have na : ∀ i x, 1 ≤ i → i < 14 → 1 ≤ x → x < 9 → ¬ o + i = c + x := hO.na hc
  have a1 := fun i (h1 : 8 ≤ i) (h2 : i ≤ 11) => na i 6 (by omega) (by omega) (by decide) (by decide)
  have a2 := fun i (h1 : 8 ≤ i) (h2 : i ≤ 11) => na i 7 (by omega) (by omega) (by decide) (by decide)
  have b6 : ¬ (o + 8 ≤ c + 6 ∧ c + 6 ≤ o + 11) := fun q => a1 (c + 6 - o) (by omega) (by omega) (by omega)
  have b7 : ¬ (o + 8 ≤ c + 7 ∧ c + 7 ≤ o + 11) := fun q => a2 (c + 7 - o) (by omega) (by omega) (by omega)
  rw [gA _ b6 (by omega), gA _ b7 (by omega)]
  exact ⟨rfl, rfl⟩
theorem q_isO.n8 (hc : c = 11 ∨ c = 300) (hO : q_isO o) {i : Nat} (hi : (c + 1 ≤ i ∧ i ≤ c + 3) ∨ (o + 1 ≤ i ∧ i ≤ o + 7)) : ¬ (o + 8 ≤ i ∧ i ≤ o + 13) ∧ i < 590 := by
  have na : ∀ i x, 1 ≤ i → i < 14 → 1 ≤ x → x < 9 → ¬ o + i = c + x := hO.na hc
  have hl := hO.n
  rcases hi with hi | hi
  · have a1 := fun i (h1 : 8 ≤ i) (h2 : i ≤ 13) (x : Nat) (h3 : 1 ≤ x) (h4 : x ≤ 3) => na i x (by omega) (by omega) (by omega) (by omega)
    exact ⟨fun q => a1 (i - o) (by omega) (by omega) (i - c) (by omega) (by omega) (by omega), by omega⟩
  · omega
/-- a node is new -/
theorem zS4.nw (T : zTk K P X V U e) (hc : c = 11 ∨ c = 300) (hO : q_isO o) (Z : zS4 Bs K V U e c o (20 + r) nt ns n l x t Q d w jn v h k) (hd : d < 8) {y : Nat} (hy : y < nt) (N1 : zN K e a) (hf : p_fi (qL h 592) (n + l + w) (V a) = none) : zS4 Bs K V U e c o (20 + r) nt ns n l x t Q (d + 1) (w + 1) jn (z_up v d (fun i => if i = 13 then 2 else if i = 14 then 4 + w else if i = 15 then y else 0)) (g_tl (n + l + w) (V a) 4 (nI (4 + w)) (nI y) (g_dd o d 12 (nI (4 + w)) (nI y) (-1) (q_sI h 589 10 (nI (w + 1))))) (q_sA (q_sA (q_sI (q_sA (q_sA (q_sA (p_tl P U a (n + l + w) 2 (nI w) (nI y) k) 660 (8 * (20 + r) + d) 2) 661 (8 * (20 + r) + d) (nI (4 + w))) 662 (8 * (20 + r) + d) (nI y)) 630 77 (nI (w + 1))) 665 (8 * (20 + r) + d) (nI (1300 + Q))) 659 (20 + r) (nI (d + 1))) := by
  generalize hg : (fun i : Nat => if i = 13 then (2 : Nat) else if i = 14 then 4 + w else if i = 15 then y else 0) = g
  have g13 : g 13 = 2 := by
    rw [← hg]
    rfl
  have g14 : g 14 = 4 + w := by
    rw [← hg]
    rfl
  have g15 : g 15 = y := by
    rw [← hg]
    rfl
  obtain ⟨O, ⟨z1, z2, z3, z4⟩, C, ⟨M, Lk, Tj⟩, ⟨n1, n2, n3, n4, n5, n6, n7, n8⟩, z5, G⟩ := id Z
  have l6 := z2.2.1
  have n4' := z2.1
  have hl := hO.n
  have hne := hO.ne
  have f1 := (M.fi T N1).trans hf
  -- the class, ahead of the name
  have gA : ∀ i, ¬ (o + 8 ≤ i ∧ i ≤ o + 11) → qA (g_dd o d 12 (nI (4 + w)) (nI y) (-1) (q_sI h 589 10 (nI (w + 1)))) i = qA h i := fun i h1 => by
    rw [g_dd_A2 h1, qA_sI]
  have gI : ∀ i i', ¬ (i = o ∧ i' = 4) → ¬ (i = 589 ∧ i' = 10) → qI (g_dd o d 12 (nI (4 + w)) (nI y) (-1) (q_sI h 589 10 (nI (w + 1)))) i i' = qI h i i' := fun i i' h1 h2 => by
    rw [g_dd_I h1, q_sI_n h2]
  have g10 : qI (g_dd o d 12 (nI (4 + w)) (nI y) (-1) (q_sI h 589 10 (nI (w + 1)))) 589 10 = nI (w + 1) := by
    rw [g_dd_I (by omega), q_sI_e]
  have g4 : qI (g_dd o d 12 (nI (4 + w)) (nI y) (-1) (q_sI h 589 10 (nI (w + 1)))) o 4 = nI (d + 1) := g_dd_4
  have gp : ∀ i f, ¬ f = d → qA (g_dd o d 12 (nI (4 + w)) (nI y) (-1) (q_sI h 589 10 (nI (w + 1)))) i f = qA h i f := fun i f h2 => by
    rw [g_dd_p h2, qA_sI]
  obtain ⟨d8, d9, d10, d11⟩ := g_dd_n (o := o) (d := d) (a1 := 12) (a2 := nI (4 + w)) (a3 := nI y) (a4 := -1) (h := q_sI h 589 10 (nI (w + 1)))
  have gL : qL (g_dd o d 12 (nI (4 + w)) (nI y) (-1) (q_sI h 589 10 (nI (w + 1)))) = qL h := by rw [g_dd_L, qL_sI]
  generalize g_dd o d 12 (nI (4 + w)) (nI y) (-1) (q_sI h 589 10 (nI (w + 1))) = h1 at *
  -- the reference, ahead of its rows
  have kI : ∀ i, ¬ i = 68 → qI (p_tl P U a (n + l + w) 2 (nI w) (nI y) k) 630 i = qI k 630 i := fun i hi => by
    unfold p_tl
    rw [f1, p_dw_0, q_sI_n (by omega), qI_sA, qI_sA, qI_sA, qI_sA, qI_sL]
  have kA : ∀ i, ¬ (679 ≤ i ∧ i ≤ 682) → qA (p_tl P U a (n + l + w) 2 (nI w) (nI y) k) i = qA k i := fun i hi => p_tl_A (by omega)
  have kL : ∀ i, ¬ i = 678 → qL (p_tl P U a (n + l + w) 2 (nI w) (nI y) k) i = qL k i := fun i hi => p_tl_L hi
  have M1 : zM K V U e (fun x => x < n) true l (w + 1) (n + l + w) h1 k := (M.wk (fun _ q => q) (Nat.le_refl _) (Nat.le_succ _)).fr (gI _ _ (by omega) (by omega)) rfl (by rw [gL]) rfl (fun i hi => gA i (by omega)) (fun _ _ => rfl)
  have M2 := M1.tl (P := P) (kd := 4) (nu := nI (4 + w)) (ty := nI y) (kd' := 2) (nu' := nI w) T N1 (by rw [gL]; exact hf) (Or.inr (Or.inr ⟨rfl, rfl, w, Nat.lt_succ_self w, rfl, rfl⟩))
  generalize p_tl P U a (n + l + w) 2 (nI w) (nI y) k = k1 at *
  -- both, all
  have r3 := fun i => (g_tl_r (m := n + l + w) (v := V a) (kd := 4) (nu := nI (4 + w)) (ty := nI y) (h := h1) (j := i)).2.1
  have r4 := fun i => (g_tl_r (m := n + l + w) (v := V a) (kd := 4) (nu := nI (4 + w)) (ty := nI y) (h := h1) (j := i)).2.2.1
  have r6 := fun i => (g_tl_r (m := n + l + w) (v := V a) (kd := 4) (nu := nI (4 + w)) (ty := nI y) (h := h1) (j := i)).2.2.2.2
  have g2A : ∀ i, i < 590 → qA (g_tl (n + l + w) (V a) 4 (nI (4 + w)) (nI y) h1) i = qA h1 i := fun i hi => g_tl_A (by omega)
  have g2I : ∀ i i', ¬ (i = 589 ∧ i' = 9) → qI (g_tl (n + l + w) (V a) 4 (nI (4 + w)) (nI y) h1) i i' = qI h1 i i' := fun i i' hi => g_tl_I hi
  have g2L : ∀ i, ¬ i = 592 → qL (g_tl (n + l + w) (V a) 4 (nI (4 + w)) (nI y) h1) i = qL h1 i := fun i hi => g_tl_L hi
  have Lk2 := (Lk.fr (h' := h1) (gA _ (by omega)) (gA _ (by omega))).tn (v := V a) (kd := 4) (nu := nI (4 + w)) (ty := nI y) (by decide)
  have Tj2 := (Tj.fr (h' := h1) (fun i i' hi _ => by rw [gA i (by omega)])).tl (v := V a) (kd := 4) (nu := nI (4 + w)) (ty := nI y) (Or.inr ⟨y, hy, rfl⟩) (fun q => absurd q (by decide))
  generalize g_tl (n + l + w) (V a) 4 (nI (4 + w)) (nI y) h1 = h2 at *
  have pA : ∀ i, ¬ (659 ≤ i ∧ i ≤ 662) → ¬ i = 665 → qA (q_sA (q_sA (q_sI (q_sA (q_sA (q_sA (k1) 660 (8 * (20 + r) + d) 2) 661 (8 * (20 + r) + d) (nI (4 + w))) 662 (8 * (20 + r) + d) (nI y)) 630 77 (nI (w + 1))) 665 (8 * (20 + r) + d) (nI (1300 + Q))) 659 (20 + r) (nI (d + 1))) i = qA k1 i := fun i h1 h2 => by
    rw [qA_sAn (by omega), qA_sAn (by omega), qA_sI, qA_sAn (by omega), qA_sAn (by omega), qA_sAn (by omega)]
  have pC : ∀ i f, 660 ≤ i → i ≤ 665 → ¬ f = 8 * (20 + r) + d → qA (q_sA (q_sA (q_sI (q_sA (q_sA (q_sA (k1) 660 (8 * (20 + r) + d) 2) 661 (8 * (20 + r) + d) (nI (4 + w))) 662 (8 * (20 + r) + d) (nI y)) 630 77 (nI (w + 1))) 665 (8 * (20 + r) + d) (nI (1300 + Q))) 659 (20 + r) (nI (d + 1))) i f = qA k1 i f := fun i f h1 h2 h3 => by
    rw [qA_sAp (by omega), qA_sAp (by omega), qA_sI, qA_sAp (by omega), qA_sAp (by omega), qA_sAp (by omega)]
  have p60 : qA (q_sA (q_sA (q_sI (q_sA (q_sA (q_sA (k1) 660 (8 * (20 + r) + d) 2) 661 (8 * (20 + r) + d) (nI (4 + w))) 662 (8 * (20 + r) + d) (nI y)) 630 77 (nI (w + 1))) 665 (8 * (20 + r) + d) (nI (1300 + Q))) 659 (20 + r) (nI (d + 1))) 660 (8 * (20 + r) + d) = 2 := by
    rw [qA_sAp (by omega), qA_sAp (by omega), qA_sI, qA_sAp (by omega), qA_sAp (by omega), qA_sAe]
  have p61 : qA (q_sA (q_sA (q_sI (q_sA (q_sA (q_sA (k1) 660 (8 * (20 + r) + d) 2) 661 (8 * (20 + r) + d) (nI (4 + w))) 662 (8 * (20 + r) + d) (nI y)) 630 77 (nI (w + 1))) 665 (8 * (20 + r) + d) (nI (1300 + Q))) 659 (20 + r) (nI (d + 1))) 661 (8 * (20 + r) + d) = nI (4 + w) := by
    rw [qA_sAp (by omega), qA_sAp (by omega), qA_sI, qA_sAp (by omega), qA_sAe]
  have p62 : qA (q_sA (q_sA (q_sI (q_sA (q_sA (q_sA (k1) 660 (8 * (20 + r) + d) 2) 661 (8 * (20 + r) + d) (nI (4 + w))) 662 (8 * (20 + r) + d) (nI y)) 630 77 (nI (w + 1))) 665 (8 * (20 + r) + d) (nI (1300 + Q))) 659 (20 + r) (nI (d + 1))) 662 (8 * (20 + r) + d) = nI y := by
    rw [qA_sAp (by omega), qA_sAp (by omega), qA_sI, qA_sAe]
  have p59 : qA (q_sA (q_sA (q_sI (q_sA (q_sA (q_sA (k1) 660 (8 * (20 + r) + d) 2) 661 (8 * (20 + r) + d) (nI (4 + w))) 662 (8 * (20 + r) + d) (nI y)) 630 77 (nI (w + 1))) 665 (8 * (20 + r) + d) (nI (1300 + Q))) 659 (20 + r) (nI (d + 1))) 659 (20 + r) = nI (d + 1) := qA_sAe
  have pI : ∀ i, ¬ i = 77 → qI (q_sA (q_sA (q_sI (q_sA (q_sA (q_sA (k1) 660 (8 * (20 + r) + d) 2) 661 (8 * (20 + r) + d) (nI (4 + w))) 662 (8 * (20 + r) + d) (nI y)) 630 77 (nI (w + 1))) 665 (8 * (20 + r) + d) (nI (1300 + Q))) 659 (20 + r) (nI (d + 1))) 630 i = qI k1 630 i := fun i hi => by
    rw [qI_sA, qI_sA, q_sI_n (by omega), qI_sA, qI_sA, qI_sA]
  have p77 : qI (q_sA (q_sA (q_sI (q_sA (q_sA (q_sA (k1) 660 (8 * (20 + r) + d) 2) 661 (8 * (20 + r) + d) (nI (4 + w))) 662 (8 * (20 + r) + d) (nI y)) 630 77 (nI (w + 1))) 665 (8 * (20 + r) + d) (nI (1300 + Q))) 659 (20 + r) (nI (d + 1))) 630 77 = nI (w + 1) := by
    rw [qI_sA, qI_sA, q_sI_e]
  have pL : qL (q_sA (q_sA (q_sI (q_sA (q_sA (q_sA (k1) 660 (8 * (20 + r) + d) 2) 661 (8 * (20 + r) + d) (nI (4 + w))) 662 (8 * (20 + r) + d) (nI y)) 630 77 (nI (w + 1))) 665 (8 * (20 + r) + d) (nI (1300 + Q))) 659 (20 + r) (nI (d + 1))) = qL k1 := by
    rw [qL_sA, qL_sA, qL_sI, qL_sA, qL_sA, qL_sA]
  generalize q_sA (q_sA (q_sI (q_sA (q_sA (q_sA (k1) 660 (8 * (20 + r) + d) 2) 661 (8 * (20 + r) + d) (nI (4 + w))) 662 (8 * (20 + r) + d) (nI y)) 630 77 (nI (w + 1))) 665 (8 * (20 + r) + d) (nI (1300 + Q))) 659 (20 + r) (nI (d + 1)) = k2 at *
  have A : zA c Q h h2 := zA.o8 hc hO (fun i h1 h2 => (g2A i h2).trans (gA i h1))
  have em : n + l + (w + 1) = n + l + w + 1 := by omega
  refine zS4.nx Z hd ⟨(g2I _ _ (by omega)).trans ((gI _ _ (by omega) (by omega)).trans O.1), ((pI _ (by omega)).trans (kI _ (by omega))).trans O.2⟩ (fun i i' hi => (g2I _ _ (by omega)).trans (gI _ _ (by omega) (by omega))) (fun i hi => (g2L i (by omega)).trans (by rw [gL])) (fun i hi => ?_) (fun i f h1 h2 hf => by rw [g2A _ (by omega)]; exact gp _ f (by omega)) (fun i f hi hf => by rw [g2A _ (by omega), gA (o + i) (by omega)]) (fun i hi => (pI _ (by omega)).trans (kI _ (by omega))) (fun i hi => by rw [pL]; exact kL _ (by omega)) (fun i h1 h2 => (pA i (by omega) (by omega)).trans (kA i (by omega))) (fun i f h1 h2 hf => (pC i _ h1 h2 (by omega)).trans (by rw [kA i (by omega)])) A (Nat.le_refl _) (C.fr ((g2I _ _ (by omega)).trans (gI _ _ (by omega) (by omega))) ((pI _ (by omega)).trans (kI _ (by omega))) A (fun i hi => (pA i (by omega) (by omega)).trans (kA i (by omega)))) (by rw [em]; exact M2.fr rfl (pI _ (by omega)) rfl (by rw [pL]) (fun _ _ => rfl) (fun i hi => pA i (by omega) (by omega))) (by rw [em]; exact Lk2) (by rw [em]; exact Tj2) ⟨by omega, by omega, (g2I _ _ (by omega)).trans g4, p59, (g2I _ _ (by omega)).trans g10, p77, ((pI _ (by omega)).trans (kI _ (by omega))).trans n8⟩ (fun i f hf => z_up_o hf) ?_ ?_ ?_
  · obtain ⟨b1, b2⟩ := q_isO.n8 hc hO hi
    exact (g2A i b2).trans (gA i (by omega))
  · unfold zDe
    rw [z_up_n, z_up_n, z_up_n, z_up_n, z_up_n, z_up_n, g13, g14, g15, g2A _ (by omega), g2A _ (by omega), g2A _ (by omega), g2A _ (by omega), d8, d9, d10, p60, p61, p62]
    exact ⟨rfl, rfl, fun _ => rfl, fun q => absurd q (by decide), fun q => absurd q (by decide), rfl, rfl, fun _ => rfl, fun q => absurd q (by decide), fun q => absurd q (by decide)⟩
  · unfold zDw
    rw [z_up_n, z_up_n, z_up_n, z_up_n, z_up_n, z_up_n, g13, g14, g15]
    refine ⟨(show (2 : Nat) < 5 by decide), fun q => absurd q (by decide), fun q => absurd q (by decide), fun _ => ⟨?_, ?_, hy, fun f hf q => ?_⟩, fun q => absurd q (by decide), fun q => absurd q (by decide)⟩
    · show 4 ≤ 4 + w
      omega
    · show 4 + w < 12
      omega
    · rw [z_up_o hf] at q ⊢
      exact G.2.2.2.1 f hf q
  · refine G.st (Nat.le_succ _) (fun i x h5 h7 h8 h9 => ?_) (fun i x h5 h7 h8 h9 => ?_) (fun x hx => ?_) (fun _ => ?_) (fun x hx => ?_) (fun x hx => ?_) (fun x hx => ?_) ?_
    · rw [r3] at h7
      rw [r4] at h9
      have hi : ¬ i = n + l + w := fun q => by rw [if_pos q] at h7; exact absurd h7 (by decide)
      rw [if_neg hi, gA _ (by omega)] at h7 h9
      rw [r6, if_neg hi, gA _ (by omega)]
      exact (G.1 i x (by omega) h7 h8 h9).trans ⟨fun q => ⟨q, fun q2 => by omega⟩, fun q => q.1⟩
    · rw [r3] at h7
      rw [r4] at h9
      have hi : ¬ i = n + l + w := fun q => by rw [if_pos q] at h7; exact absurd h7 (by decide)
      rw [if_neg hi, gA _ (by omega)] at h7 h9
      rw [r6, if_neg hi, gA _ (by omega)]
      exact (G.2.1 i x (by omega) h7 h8 h9).trans ⟨fun q => ⟨q, fun q2 => by omega⟩, fun q => q.1⟩
    · by_cases h9 : x = w
      · right
        rw [h9]
        exact ⟨g13, g14⟩
      · exact Or.inl (G.2.2.1 x (by omega))
    · rw [g14]
      omega
    · rw [pA 683 (by omega) (by omega), kA 683 (by omega)]
      exact (G.2.2.2.2.1 x hx).trans ⟨fun q => ⟨q, fun q2 => by omega⟩, fun q => q.1⟩
    · rw [g2I _ _ (by omega), gI _ _ (by omega) (by omega)]
      exact ⟨fun q => Or.inl q, fun q => q.elim id (fun q => by have := q.1; omega)⟩
    · rw [pA 684 (by omega) (by omega), kA 684 (by omega)]
      exact ⟨fun q => Or.inl q, fun q => q.elim id (fun q => by have := q.1; omega)⟩
    · obtain ⟨b, b1, b2, b3⟩ := G.2.2.2.2.2.2.2
      refine ⟨b, b1, ((g2I _ _ (by omega)).trans (gI _ _ (by omega) (by omega))).trans b2, fun i hi => (b3 i hi).trans ⟨fun q => Or.inl q, fun q => q.elim id (fun q => by have := q.1; omega)⟩⟩
theorem z_nw (T : zTk K P X V U e) (hc : c = 11 ∨ c = 300) (hO : q_isO o) (Z : zS4 Bs K V U e c o (20 + r) nt ns n l x t Q d w jn v h k) (hd : d < 8) (he : s.1 + 5 ≤ e) (k1 : K (s.1 + 1) = 40) (k3 : K (s.1 + 3) = 40) : (∃ v', zS4 Bs K V U e c o (20 + r) nt ns n l x t Q (d + 1) (w + 1) jn v' (g_nw V nt o d w (n + l + w) s.1 h) (p_dE r d (8 * (20 + r) + d) (p_nw P U nt (8 * (20 + r) + d) w (n + l + w) s (p_d1 (8 * (20 + r) + d) k)))) ∨ zB P e (s.1 + 5) (g_nw V nt o d w (n + l + w) s.1 h) (p_dE r d (8 * (20 + r) + d) (p_nw P U nt (8 * (20 + r) + d) w (n + l + w) s (p_d1 (8 * (20 + r) + d) k))) := by
  obtain ⟨Z1, _⟩ := Z.d1
  generalize p_d1 (8 * (20 + r) + d) k = k0 at *
  obtain ⟨O, ⟨ZT, z2, z3, z4⟩, C, ⟨M, Lk, Tj⟩, _, z5, G⟩ := id Z1
  have hn := hO.n
  have N1 : zN K e (s.1 + 1) := ⟨by omega, k1⟩
  have N3 : zN K e (s.1 + 3) := ⟨by omega, k3⟩
  have f1 := M.fi T N1
  have f3 := ZT.2.2.2.2.2.2.1.fi T N3
  cases hf1 : p_fi (qL h 592) (n + l + w) (V (s.1 + 1)) with
  | some j =>
    right
    unfold g_nw p_dE p_nw g_n1 p_tl
    rw [hf1, g_dw_s, p_fw_L, f1, hf1, p_dw_s]
    refine zB.mk (h1 := h) (k1 := p_fw P (s.1 + 3) (p_fi (qL k0 674) nt (U (s.1 + 3))) k0) (n := 3) (i := s.1 + 1) T.M O (by decide) (by decide) (by omega) (by omega) ?_ O.1 (p_LW.rf.fw (by omega)) ?_
    · exact ((g_S.rf.fw.sI (by omega)).dd (by omega)).tl
    · exact (((((((p_LW.rf.sL.sA.sA.sA.sA.sI (by decide) (by decide)).sA).sA).sA).sI (by decide) (by decide)).sA).sA)
  | none =>
    cases hf3 : p_fi (qL h 590) nt (V (s.1 + 3)) with
    | none =>
      right
      unfold g_nw p_dE p_nw g_n1 p_tl
      rw [hf1, g_dw_0, f3, hf3, g_fw_0, p_fw_L, f1, hf1, p_dw_0, p_fw_0]
      exact zB.mk (h1 := h) (k1 := k0) (n := 4) (i := s.1 + 3) T.M O (by decide) (by decide) (by omega) (by omega) (((g_S.rf.sI (by omega)).dd (by omega)).tl) O.1 p_LW.rf (((((((p_LW.rf.sL.sA.sA.sA.sA.sI (by decide) (by decide)).sA).sA).sA).sI (by decide) (by decide)).sA).sA)
    | some ty =>
      left
      have hty := (p_fi_lt hf3).1
      have := zS4.nw (P := P) T hc hO Z1 hd hty N1 hf1
      unfold g_nw p_dE p_nw g_n1
      rw [hf1, g_dw_0, f3, hf3, g_fw_s, p_fw_s]
      have e22 : qI (q_sI (q_sA (q_sA (q_sA (p_tl P U (s.1 + 1) (n + l + w) 2 (nI w) (q_on (some ty)) k0) 660 (8 * (20 + r) + d) 2) 661 (8 * (20 + r) + d) (nI (4 + w))) 662 (8 * (20 + r) + d) (q_on (some ty))) 630 77 (nI (w + 1))) 630 22 = nI (1300 + Q) := by
        rw [q_sI_n (by omega), qI_sA, qI_sA, qI_sA]
        unfold p_tl
        rw [f1, hf1, p_dw_0, q_sI_n (by omega), qI_sA, qI_sA, qI_sA, qI_sA, qI_sL]
        exact C.2.1
      rw [e22]
      exact ⟨_, this⟩
end ZD
