/-! THE TWO READS: what is set -/
section ZD
variable {Bs : Nat × q_Hp} {K P X : Nat → Nat} {V U : Nat → Int64} {e c o q r nt ns n l x t Q Q1 d w w' jn jn' m f j a : Nat} {v v' : Nat → Nat → Nat} {h h' h5 k k' k5 : q_Hp} {s : y_S} {NX : Nat → Prop}
theorem zS4.se (hc : c = 11 ∨ c = 300) (hO : q_isO o) (Z : zS4 Bs K V U e c o (20 + r) nt ns n l x t Q d w jn v h k) (hd : d < 8) (k64 : qA k 664 (8 * (20 + r) + d) = nI (1300 + Q)) {xa z : Nat} (ha : z_nd n v d xa) (hz : z < 2) (G5 : g_kx c (q_sA h (o + 12) (8 + d) (nI Q)) h5) (P5 : p_kx (q_sA (q_sA (q_sA k 660 (8 * (20 + r) + d) 4) 661 (8 * (20 + r) + d) (nI xa)) 662 (8 * (20 + r) + d) (nI z)) k5) (R5 : zQ K V U e (fun x => x < n) true l w (n + l + w) true c Q1 h5 k5) (A5 : zA c Q (q_sA h (o + 12) (8 + d) (nI Q)) h5) (D5 : zD c n h5 Q 0 Q1 1) : zS4 Bs K V U e c o (20 + r) nt ns n l x t Q1 (d + 1) w jn (z_up v d (fun i => if i = 13 then 4 else if i = 14 then xa else if i = 15 then z else if i = 11 then Q else if i = 12 then Q1 else 0)) (g_dd o d 14 (nI xa) (nI z) (-1) (q_sA h5 (o + 13) (8 + d) (nI Q1))) (q_sA (q_sA k5 665 (8 * (20 + r) + d) (nI (1300 + Q1))) 659 (20 + r) (nI (d + 1))) := by
  generalize hg : (fun i : Nat => if i = 13 then (4 : Nat) else if i = 14 then xa else if i = 15 then z else if i = 11 then Q else if i = 12 then Q1 else 0) = g
  have g13 : g 13 = 4 := by
    rw [← hg]
    rfl
  have g14 : g 14 = xa := by
    rw [← hg]
    rfl
  have g15 : g 15 = z := by
    rw [← hg]
    rfl
  have g11 : g 11 = Q := by
    rw [← hg]
    rfl
  have g12 : g 12 = Q1 := by
    rw [← hg]
    rfl
  obtain ⟨O, ⟨z1, z2, z3, z4⟩, C, ⟨M, Lk, Tj⟩, ⟨n1, n2, n3, n4, n5, n6, n7, n8⟩, z5, G⟩ := id Z
  have l6 := z2.2.1
  have n4' := z2.1
  have hl := hO.n
  have hne := hO.ne
  have na : ∀ i x, 1 ≤ i → i < 14 → 1 ≤ x → x < 9 → ¬ o + i = c + x := hO.na hc
  have c6 : ∀ i, 1 ≤ i → i < 14 → ¬ o + i = c + 6 ∧ ¬ o + i = c + 7 := fun i h1 h2 => ⟨na i 6 h1 h2 (by decide) (by decide), na i 7 h1 h2 (by decide) (by decide)⟩
  -- the class
  have gA : ∀ i, ¬ (o + 8 ≤ i ∧ i ≤ o + 13) → ¬ i = c + 6 → ¬ i = c + 7 → qA (g_dd o d 14 (nI xa) (nI z) (-1) (q_sA h5 (o + 13) (8 + d) (nI Q1))) i = qA h i := fun i h1 h6 h7 => by
    rw [g_dd_A2 (by omega), qA_sAn (by omega), G5.1 i ⟨h6, h7⟩, qA_sAn (by omega)]
  have gI : ∀ i i', ¬ (i = o ∧ i' = 4) → ¬ (i = c ∧ i' = 4) → ¬ (i = 589 ∧ (i' = 15 ∨ i' = 16)) → qI (g_dd o d 14 (nI xa) (nI z) (-1) (q_sA h5 (o + 13) (8 + d) (nI Q1))) i i' = qI h i i' := fun i i' h1 h2 h3 => by
    rw [g_dd_I h1, qI_sA, G5.2.2.2 i i' h2 h3, qI_sA]
  have gI5 : ∀ i i', ¬ (i = o ∧ i' = 4) → qI (g_dd o d 14 (nI xa) (nI z) (-1) (q_sA h5 (o + 13) (8 + d) (nI Q1))) i i' = qI h5 i i' := fun i i' h1 => by
    rw [g_dd_I h1, qI_sA]
  have g4 : qI (g_dd o d 14 (nI xa) (nI z) (-1) (q_sA h5 (o + 13) (8 + d) (nI Q1))) o 4 = nI (d + 1) := g_dd_4
  have gp : ∀ y f, 8 ≤ y → y ≤ 11 → ¬ f = d → qA (g_dd o d 14 (nI xa) (nI z) (-1) (q_sA h5 (o + 13) (8 + d) (nI Q1))) (o + y) f = qA h (o + y) f := fun y f h1 h2 h3 => by
    rw [g_dd_p h3, qA_sAn (by omega), G5.1 _ (c6 y (by omega) (by omega)), qA_sAn (by omega)]
  have r12 : ∀ f, qA (g_dd o d 14 (nI xa) (nI z) (-1) (q_sA h5 (o + 13) (8 + d) (nI Q1))) (o + 12) f = if f = 8 + d then nI Q else qA h (o + 12) f := fun f => by
    rw [g_dd_A2 (by omega), qA_sAn (by omega), G5.1 _ (c6 12 (by decide) (by decide))]
    by_cases h9 : f = 8 + d
    · rw [h9, qA_sAe, if_pos rfl]
    · rw [qA_sAp (by omega), if_neg h9]
  have r13 : ∀ f, qA (g_dd o d 14 (nI xa) (nI z) (-1) (q_sA h5 (o + 13) (8 + d) (nI Q1))) (o + 13) f = if f = 8 + d then nI Q1 else qA h (o + 13) f := fun f => by
    rw [g_dd_A2 (by omega)]
    by_cases h9 : f = 8 + d
    · rw [h9, qA_sAe, if_pos rfl]
    · rw [qA_sAp (by omega), if_neg h9, G5.1 _ (c6 13 (by decide) (by decide)), qA_sAn (by omega)]
  obtain ⟨d8, d9, d10, d11⟩ := g_dd_n (o := o) (d := d) (a1 := 14) (a2 := nI xa) (a3 := nI z) (a4 := -1) (h := q_sA h5 (o + 13) (8 + d) (nI Q1))
  have gL : qL (g_dd o d 14 (nI xa) (nI z) (-1) (q_sA h5 (o + 13) (8 + d) (nI Q1))) = qL h := by rw [g_dd_L, qL_sA, G5.2.1, qL_sA]
  have a6 : zA c Q1 h5 (g_dd o d 14 (nI xa) (nI z) (-1) (q_sA h5 (o + 13) (8 + d) (nI Q1))) := fun i hi => by
    rw [g_dd_A2 (fun q => (c6 (c + 6 - o) (by omega) (by omega)).1 (by omega)), g_dd_A2 (fun q => (c6 (c + 7 - o) (by omega) (by omega)).2 (by omega)), qA_sAn (fun q => (c6 13 (by decide) (by decide)).1 q.symm), qA_sAn (fun q => (c6 13 (by decide) (by decide)).2 q.symm)]
    exact ⟨rfl, rfl⟩
  have a5 : zA c Q h (g_dd o d 14 (nI xa) (nI z) (-1) (q_sA h5 (o + 13) (8 + d) (nI Q1))) := by
    refine zA.trans (h1 := h5) (zA.trans (h1 := q_sA h (o + 12) (8 + d) (nI Q)) (fun i hi => ?_) A5 (Nat.le_refl _)) a6 D5.1
    rw [qA_sAn (fun q => (c6 12 (by decide) (by decide)).1 q.symm), qA_sAn (fun q => (c6 12 (by decide) (by decide)).2 q.symm)]
    exact ⟨rfl, rfl⟩
  have gM : ∀ i, 593 ≤ i → qA (g_dd o d 14 (nI xa) (nI z) (-1) (q_sA h5 (o + 13) (8 + d) (nI Q1))) i = qA h5 i := fun i hi => by
    rw [g_dd_A2 (by omega), qA_sAn (by omega)]
  have gL5 : qL (g_dd o d 14 (nI xa) (nI z) (-1) (q_sA h5 (o + 13) (8 + d) (nI Q1))) = qL h5 := by rw [g_dd_L, qL_sA]
  generalize g_dd o d 14 (nI xa) (nI z) (-1) (q_sA h5 (o + 13) (8 + d) (nI Q1)) = h2 at *
  -- the reference
  have pA : ∀ i, ¬ (659 ≤ i ∧ i ≤ 662) → ¬ i = 665 → ¬ (i = 666 ∨ i = 667 ∨ i = 668 ∨ i = 685) → qA (q_sA (q_sA k5 665 (8 * (20 + r) + d) (nI (1300 + Q1))) 659 (20 + r) (nI (d + 1))) i = qA k i := fun i h1 h2 h3 => by
    rw [qA_sAn (by omega), qA_sAn (by omega), P5.1 i (by omega), qA_sAn (by omega), qA_sAn (by omega), qA_sAn (by omega)]
  have pC : ∀ i f, 660 ≤ i → i ≤ 665 → ¬ f = 8 * (20 + r) + d → qA (q_sA (q_sA k5 665 (8 * (20 + r) + d) (nI (1300 + Q1))) 659 (20 + r) (nI (d + 1))) i f = qA k i f := fun i f h1 h2 h3 => by
    rw [qA_sAp (by omega), qA_sAp (by omega), P5.1 i (by omega), qA_sAp (by omega), qA_sAp (by omega), qA_sAp (by omega)]
  have p60 : qA (q_sA (q_sA k5 665 (8 * (20 + r) + d) (nI (1300 + Q1))) 659 (20 + r) (nI (d + 1))) 660 (8 * (20 + r) + d) = 4 := by
    rw [qA_sAp (by omega), qA_sAp (by omega), P5.1 660 (by omega), qA_sAp (by omega), qA_sAp (by omega), qA_sAe]
  have p61 : qA (q_sA (q_sA k5 665 (8 * (20 + r) + d) (nI (1300 + Q1))) 659 (20 + r) (nI (d + 1))) 661 (8 * (20 + r) + d) = nI xa := by
    rw [qA_sAp (by omega), qA_sAp (by omega), P5.1 661 (by omega), qA_sAp (by omega), qA_sAe]
  have p62 : qA (q_sA (q_sA k5 665 (8 * (20 + r) + d) (nI (1300 + Q1))) 659 (20 + r) (nI (d + 1))) 662 (8 * (20 + r) + d) = nI z := by
    rw [qA_sAp (by omega), qA_sAp (by omega), P5.1 662 (by omega), qA_sAe]
  have p64 : qA (q_sA (q_sA k5 665 (8 * (20 + r) + d) (nI (1300 + Q1))) 659 (20 + r) (nI (d + 1))) 664 (8 * (20 + r) + d) = nI (1300 + Q) := by
    rw [pA 664 (by omega) (by omega) (by omega)]
    exact k64
  have p65 : qA (q_sA (q_sA k5 665 (8 * (20 + r) + d) (nI (1300 + Q1))) 659 (20 + r) (nI (d + 1))) 665 (8 * (20 + r) + d) = nI (1300 + Q1) := by
    rw [qA_sAp (by omega), qA_sAe]
  have p59 : qA (q_sA (q_sA k5 665 (8 * (20 + r) + d) (nI (1300 + Q1))) 659 (20 + r) (nI (d + 1))) 659 (20 + r) = nI (d + 1) := qA_sAe
  have pI : ∀ i, ¬ i = 12 ∧ ¬ i = 15 ∧ ¬ i = 16 ∧ ¬ i = 22 ∧ ¬ i = 78 → qI (q_sA (q_sA k5 665 (8 * (20 + r) + d) (nI (1300 + Q1))) 659 (20 + r) (nI (d + 1))) 630 i = qI k 630 i := fun i hi => by
    rw [qI_sA, qI_sA, P5.2.2 i hi, qI_sA, qI_sA, qI_sA]
  have pI5 : qI (q_sA (q_sA k5 665 (8 * (20 + r) + d) (nI (1300 + Q1))) 659 (20 + r) (nI (d + 1))) = qI k5 := by rw [qI_sA, qI_sA]
  have pL : qL (q_sA (q_sA k5 665 (8 * (20 + r) + d) (nI (1300 + Q1))) 659 (20 + r) (nI (d + 1))) = qL k := by
    rw [qL_sA, qL_sA, P5.2.1, qL_sA, qL_sA, qL_sA]
  have pL5 : qL (q_sA (q_sA k5 665 (8 * (20 + r) + d) (nI (1300 + Q1))) 659 (20 + r) (nI (d + 1))) = qL k5 := by rw [qL_sA, qL_sA]
  have pA5 : ∀ i, ¬ i = 659 → ¬ i = 665 → qA (q_sA (q_sA k5 665 (8 * (20 + r) + d) (nI (1300 + Q1))) 659 (20 + r) (nI (d + 1))) i = qA k5 i := fun i h1 h2 => by
    rw [qA_sAn (by omega), qA_sAn (by omega)]
  generalize q_sA (q_sA k5 665 (8 * (20 + r) + d) (nI (1300 + Q1))) 659 (20 + r) (nI (d + 1)) = k2 at *
  obtain ⟨O5, M5, _, C5⟩ := R5
  refine zS4.nx Z hd ⟨(gI5 _ _ (by omega)).trans O5.1, by rw [pI5]; exact O5.2⟩ (fun i i' hi => gI _ _ (by omega) (by omega) (by omega)) (fun i _ => by rw [gL]) (fun i hi => gA i (q_isO.n8 hc hO hi).1 ?_ ?_) (fun y f h1 h2 hf => gp y f h1 h2 (by omega)) (fun i f hi hf => ?_) (fun i hi => pI _ (by omega)) (fun i _ => by rw [pL]) (fun i h1 h2 => pA i (by omega) (by omega) (by omega)) (fun i f h1 h2 hf => pC i _ h1 h2 (by omega)) a5 D5.1 (C5.fr (gI5 _ _ (by omega)) (by rw [pI5]) a6 (fun i hi => pA5 i (by omega) (by omega))) (M5.fr (gI5 _ _ (by omega)) (by rw [pI5]) (by rw [gL5]) (by rw [pL5]) (fun i hi => gM i (by omega)) (fun i hi => pA5 i (by omega) (by omega))) (Lk.fr (gA _ (by omega) (by omega) (by omega)) (gA _ (by omega) (by omega) (by omega))) (Tj.fr (fun i i' hi _ => by rw [gA i (by omega) (by omega) (by omega)])) ⟨by omega, by omega, g4, p59, (gI _ _ (by omega) (by omega) (by omega)).trans n6, (pI _ (by omega)).trans n7, (pI _ (by omega)).trans n8⟩ (fun i f hf => z_up_o hf) ?_ ?_ ?_
  · rcases hi with hi | hi
    · omega
    · obtain ⟨i', hi', rfl⟩ : ∃ i', (1 ≤ i' ∧ i' ≤ 7) ∧ i = o + i' := ⟨i - o, by omega, by omega⟩
      exact (c6 i' (by omega) (by omega)).1
  · rcases hi with hi | hi
    · omega
    · obtain ⟨i', hi', rfl⟩ : ∃ i', (1 ≤ i' ∧ i' ≤ 7) ∧ i = o + i' := ⟨i - o, by omega, by omega⟩
      exact (c6 i' (by omega) (by omega)).2
  · rcases hi with rfl | rfl
    · rw [r12, if_neg (by omega)]
    · rw [r13, if_neg (by omega)]
  · unfold zDe
    rw [z_up_n, z_up_n, z_up_n, z_up_n, z_up_n, z_up_n, g13, g14, g15, g11, g12, d8, d9, d10, r12, r13, p60, p61, p62, p64, p65]
    exact ⟨rfl, rfl, fun _ => rfl, fun q => absurd q (by decide), fun _ => ⟨if_pos rfl, if_pos rfl⟩, rfl, rfl, fun _ => rfl, fun q => absurd q (by decide), fun _ => ⟨rfl, rfl⟩⟩
  · unfold zDw
    rw [z_up_n, z_up_n, z_up_n, z_up_n, z_up_n, z_up_n, g13, g14, g15, g11, g12]
    exact ⟨(show (4 : Nat) < 5 by decide), fun q => absurd q (by decide), fun q => absurd q (by decide), fun q => absurd q (by decide), fun q => absurd q (by decide), fun _ => ⟨ha.cg (fun i f hf => z_up_o hf), hz, D5.fr a6, Nat.le_refl _⟩⟩
  · refine G.st (Nat.le_refl _) (fun i x h5 h7 h8 h9 => ?_) (fun i x h5 h7 h8 h9 => ?_) (fun x hx => Or.inl (G.2.2.1 x hx)) (fun q => by omega) (fun x hx => ?_) (fun x hx => ?_) (fun x hx => ?_) ?_
    · rw [gA 593 (by omega) (by omega) (by omega)] at h7
      rw [gA 594 (by omega) (by omega) (by omega)] at h9
      rw [gA 596 (by omega) (by omega) (by omega)]
      exact (G.1 i x h5 h7 h8 h9).trans ⟨fun q => ⟨q, fun q2 => by omega⟩, fun q => q.1⟩
    · rw [gA 593 (by omega) (by omega) (by omega)] at h7
      rw [gA 594 (by omega) (by omega) (by omega)] at h9
      rw [gA 596 (by omega) (by omega) (by omega)]
      exact (G.2.1 i x h5 h7 h8 h9).trans ⟨fun q => ⟨q, fun q2 => by omega⟩, fun q => q.1⟩
    · rw [pA 683 (by omega) (by omega) (by omega)]
      exact (G.2.2.2.2.1 x hx).trans ⟨fun q => ⟨q, fun q2 => by omega⟩, fun q => q.1⟩
    · rw [gI _ _ (by omega) (by omega) (by omega)]
      exact ⟨fun q => Or.inl q, fun q => q.elim id (fun q => by have := q.1; omega)⟩
    · rw [pA 684 (by omega) (by omega) (by omega)]
      exact ⟨fun q => Or.inl q, fun q => q.elim id (fun q => by have := q.1; omega)⟩
    · obtain ⟨b, b1, b2, b3⟩ := G.2.2.2.2.2.2.2
      refine ⟨b, b1, (gI _ _ (by omega) (by omega) (by omega)).trans b2, fun i hi => (b3 i hi).trans ⟨fun q => Or.inl q, fun q => q.elim id (fun q => by have := q.1; omega)⟩⟩
theorem z_se (T : zTk K P X V U e) (hc : c = 11 ∨ c = 300) (hO : q_isO o) (he12 : e ≤ 1200) (Z : zS4 Bs K V U e c o (20 + r) nt ns n l x t Q d w jn v h k) (hd : d < 8) (hQ : Q ≤ s.1) (he : e_E K 1202 (s.1 + 5) + 1 ≤ e) (k1 : K (s.1 + 1) = 40) (k3 : K (s.1 + 3) = 41) (hy : (y_E K (s.1 + 5, 0)).2 = 0) (h5 : s.1 + 5 ≤ 1200) : (∃ v' Q', Q' ≤ e_E K 1202 (s.1 + 5) + 1 ∧ zS4 Bs K V U e c o (20 + r) nt ns n l x t Q' (d + 1) w jn v' (g_se K V c o d (n + l + w) s.1 h) (p_dE r d (8 * (20 + r) + d) (p_se2 K P X U (8 * (20 + r) + d) (n + l + w) s (p_d1 (8 * (20 + r) + d) k)))) ∨ zB P e (e_E K 1202 (s.1 + 5) + 1) (g_se K V c o d (n + l + w) s.1 h) (p_dE r d (8 * (20 + r) + d) (p_se2 K P X U (8 * (20 + r) + d) (n + l + w) s (p_d1 (8 * (20 + r) + d) k))) := by
  obtain ⟨Z1, k64⟩ := Z.d1
  generalize p_d1 (8 * (20 + r) + d) k = k0 at *
  obtain ⟨O, ⟨ZT, z2, z3, z4⟩, C, ⟨M, Lk, Tj⟩, _, z5, G⟩ := id Z1
  have hn := hO.n
  have hcn : ¬ c = 589 := by omega
  have hle : s.1 + 5 ≤ e_E K 1202 (s.1 + 5) := e_E_le 1202 (s.1 + 5)
  have N1 : zN K e (s.1 + 1) := ⟨by omega, k1⟩
  have f1 := M.sd T N1
  obtain ⟨v1, v2, v3, _⟩ := T.2.2 (s.1 + 3) (by omega) k3
  unfold g_se p_dE p_se2 p_se1 g_s1 g_t1
  rw [← f1]
  have Sg : ∀ h1 h2, g_S h1 h2 → ∀ i j v y1 y2 y3 y4, g_S h1 (g_dd o d y1 y2 y3 y4 (q_sA (g_E K V c (n + l + w) 1202 (s.1 + 5) (q_sA h2 (o + 12) (8 + d) v)) i j (qI (g_E K V c (n + l + w) 1202 (s.1 + 5) (q_sA h2 (o + 12) (8 + d) v)) c 4))) := fun h1 h2 S i j v y1 y2 y3 y4 => ((g_S.E hcn _ _ _ S.sA).sA).dd (by omega)
  cases ha : g_ft 5 (n + l + w) (V (s.1 + 1)) h with
  | none =>
    right
    rw [g_fw_0, p_fw_0]
    exact zB.mk (h1 := h) (k1 := k0) (n := 4) (i := s.1 + 1) T.M O (by decide) (by decide) (by omega) (by omega) (Sg _ _ g_S.rf.xw _ _ _ _ _ _ _) O.1 p_LW.rf ((((((p_LW.rf.xw (by omega)).sA).sA).sA).ex (show s.1 + 1 + 1 ≤ s.1 + 5 by omega)).sA.sA)
  | some ja =>
    rw [g_fw_s, p_fw_s]
    obtain ⟨⟨xa, a1, a2, a3⟩, _⟩ := z_sd T Z1 N1 ha
    have en1 : g_nu (some ja) h = nI xa := a2
    have en2 : p_ta (some ja) k0 = nI xa := a3
    by_cases hX : X (s.1 + 3) ≤ 1
    rotate_left 1
    · right
      have eg2 : g_xw (s.1 + 3) (V (s.1 + 3)) h = g_fa (nI 5) (s.1 + 3) h := by
        unfold g_xw
        exact if_neg (fun q0 => hX (v3.mp q0))
      have ep2 : p_xw P X (s.1 + 3) k0 = p_wr P 5 (s.1 + 3) k0 := by
        unfold p_xw
        exact if_neg hX
      rw [eg2, ep2]
      exact zB.mk (h1 := h) (k1 := k0) (n := 5) (i := s.1 + 3) T.M O (by decide) (by decide) (by omega) (by omega) (Sg _ _ g_S.rf _ _ _ _ _ _ _) O.1 p_LW.rf (((((p_LW.rf.sA).sA).sA).ex (show s.1 + 3 + 1 ≤ s.1 + 5 by omega)).sA.sA)
    have eg2 : g_xw (s.1 + 3) (V (s.1 + 3)) h = h := by
      unfold g_xw
      exact if_pos (v3.mpr hX)
    have ep2 : p_xw P X (s.1 + 3) k0 = k0 := by
      unfold p_xw
      exact if_pos hX
    rw [eg2, ep2, en1, en2, v1, C.1]
    have Q0 : zQ K V U e (fun x => x < n) true l w (n + l + w) true c Q h k0 := ⟨O, M, fun q => (by cases q), C⟩
    have Q2 : zQ K V U e (fun x => x < n) true l w (n + l + w) true c Q (q_sA h (o + 12) (8 + d) (nI Q)) (q_sA (q_sA (q_sA k0 660 (8 * (20 + r) + d) 4) 661 (8 * (20 + r) + d) (nI xa)) 662 (8 * (20 + r) + d) (nI (X (s.1 + 3)))) := (((Q0.sO hc hO (by decide)).sk (by decide)).sk (by decide)).sk (by decide)
    have G5 := (g_kx.E (K := K) (V := V) (m := n + l + w) 1202 (s.1 + 5) _ (g_kx.rf (c := c) (h := q_sA h (o + 12) (8 + d) (nI Q))))
    have P5 := (p_kx.rf (k := (q_sA (q_sA (q_sA k0 660 (8 * (20 + r) + d) 4) 661 (8 * (20 + r) + d) (nI xa)) 662 (8 * (20 + r) + d) (nI (X (s.1 + 3)))))).ex (K := K) (P := P) (X := X) (U := U) (set := true) (L := n + l + w) (s := (s.1 + 5, 0))
    rcases z_ex (nn := n) T hc (fun x hx => hx) z2.1 he12 h5 hy (by omega) (by omega) Q2 with ⟨Q1, R1, A1, D1, L1⟩ | B
    · left
      generalize g_E K V c (n + l + w) 1202 (s.1 + 5) (q_sA h (o + 12) (8 + d) (nI Q)) = h5 at *
      generalize p_ex K P X U true (n + l + w) (s.1 + 5, 0) (q_sA (q_sA (q_sA k0 660 (8 * (20 + r) + d) 4) 661 (8 * (20 + r) + d) (nI xa)) 662 (8 * (20 + r) + d) (nI (X (s.1 + 3)))) = k5 at *
      rw [R1.2.2.2.1, R1.2.2.2.2.1]
      exact ⟨_, Q1, by omega, Z1.se hc hO hd k64 a1 (by omega) G5 P5 R1 A1 D1⟩
    · right
      exact B.fr T.M ((g_S.rf.sA).dd (by omega)) (p_LW.rf.sA.sA) (Nat.le_succ _)
end ZD
