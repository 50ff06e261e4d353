/-! THE TWO READS: what is joined -/
section ZD
variable {Bs : Nat × q_Hp} {K P X : Nat → Nat} {V U : Nat → Int64} {e c o q r nt ns n l x t Q Q' d w w' jn jn' m f j a : Nat} {v v' : Nat → Nat → Nat} {h h' k k' : q_Hp} {s : y_S} {NX : Nat → Prop}
theorem z_nd.lt (Z : z_nd n v d x) (hn : n ≤ 4) (hw : w ≤ 8) (G : zDg o n l w m d jn v h k) : x < 12 := by
  rcases Z with ⟨z1, _⟩ | ⟨f, z1, z2, z3⟩
  · omega
  · have := G.2.2.2.1 f z1 z2
    omega
theorem g_bit_n {x : Nat} (hx : x < 12) : ∀ i, i < 12 → (bt (g_bit (nI x)) i = true ↔ i = x) := by
  intro i hi
  unfold g_bit
  rw [if_neg (fun q => by have : ¬ (nI x < 0) := Int32.not_lt.mpr ((nI_leI (a := 0) (by decide) (by omega)).mpr (Nat.zero_le x)); exact this q), bi_sh (by omega) (by omega)]
  exact decide_eq_true_iff
/-- an end that stands: its number on both sides -/
theorem z_sd (T : zTk K P X V U e) (Z : zS4 Bs K V U e c o (20 + r) nt ns n l x t Q d w jn v h k) (N1 : zN K e a) {j : Nat} (hf : g_ft 5 (n + l + w) (V a) h = some j) : (∃ y, z_nd n v d y ∧ qA h 594 j = nI y ∧ p_tg (qA k 679 j) (qA k 680 j) = nI y) ∧ ∃ ty, ty < nt ∧ qA h 595 j = nI ty ∧ qA k 681 j = nI ty := by
  obtain ⟨O, ⟨z1, z2, z3, z4⟩, C, ⟨M, Lk, Tj⟩, _, z5, G⟩ := Z
  have hj := g_ft_lt hf
  have hcf := ((q_fst_some _ _ _).mp hf).2.2.1
  simp only [Bool.and_eq_true, Bool.not_eq_true', beq_eq_false_iff_ne, beq_iff_eq] at hcf
  have h6 : qA h 596 j = 0 := hcf.2
  obtain ⟨_, y2, _, y4⟩ := M.2.2.1 j hj
  have k2 : ¬ qA h 593 j = 2 := fun q => by
    rw [q] at hcf
    exact hcf.1.2 (by decide)
  constructor
  · rcases y4 with ⟨q1, q2, y, q3, q4, q5⟩ | ⟨q1, _⟩ | ⟨q1, q2, y, q3, q4, q5⟩
    · refine ⟨y, Or.inl ⟨q3, (G.1 j y hj q1 q3 q4).mp h6⟩, q4, ?_⟩
      rw [q2, q5]
      rfl
    · exact absurd q1 k2
    · obtain ⟨f, f1, f2, f3⟩ := G.2.2.1 y q3
      refine ⟨4 + y, Or.inr ⟨f, f1, f2, f3⟩, q4, ?_⟩
      rw [q2, q5]
      show (4 : Int32) + nI y = nI (4 + y)
      rw [show (4 : Int32) = nI 4 from rfl, nI_add]
  · rcases Tj.1 j hj with q | ⟨ty, q1, q2⟩
    · exact absurd q k2
    · exact ⟨ty, q1, q2, y2.symm.trans q2⟩
/-- an end of another type, on both sides -/
theorem z_wf {row ty u : Nat} {f g : Nat → Int32} (ZT : zT K V U e c nt ns h k) (hs : u < ns) (hty : ty < nt) (r1 : ∃ y, y < nt ∧ f u = nI y ∧ g (12 + u) = nI y) (e1 : qA h row = f) : p_ot (qA k 638) nt (nI ty) (g (12 + u)) = true ↔ g_js c nt ns row (some u) (nI ty) h = false := by
  obtain ⟨y, y1, y2, y3⟩ := r1
  have n12 := ZT.1
  have s12 := ZT.2.1
  unfold p_ot g_js
  have eo : (q_on (some u) : Int32) = nI u := rfl
  rw [e1, eo, nI_clamp (show u < 2 ^ 31 by omega), y2, y3]
  have a1 : (nI ty == (-1 : Int32)) = false := beq_false_of_ne (q_on_ne (j := ty) (by omega))
  have a2 : (nI y == (-1 : Int32)) = false := beq_false_of_ne (q_on_ne (j := y) (by omega))
  have a3 : q_rg (nI u) ns = true := q_rg_in rfl (Int32.not_lt.mpr ((nI_leI (a := 0) (by decide) (by omega)).mpr (Nat.zero_le u))) (fun q => by
    have := (nI_leI (by omega) (by omega)).mp q
    omega)
  rw [a1, a2, a3]
  have a4 : ∀ i z, t_is (fun i => qA k 638 (12 + i)) nt (nI y) i z = t_is (qA h (c + 1)) nt (nI y) i z := t_is_ext (fun i hi => by
    obtain ⟨z, _, q2, q3⟩ := ZT.2.2.2.2.2.2.2.2.1 i hi
    show qA k 638 (12 + i) = qA h (c + 1) i
    rw [q2, q3]) (by omega)
  rw [a4]
  cases t_is (qA h (c + 1)) nt (nI y) 12 (nI ty) <;> decide
theorem zS4.jo (hc : c = 11 ∨ c = 300) (hO : q_isO o) (Z : zS4 Bs K V U e c o (20 + r) nt ns n l x t Q d w jn v h k) (hd : d < 8) {xa z xb : Nat} (ha : z_nd n v d xa) (hb : z_nd n v d xb) (hz : z < ns) : zS4 Bs K V U e c o (20 + r) nt ns n l x t Q (d + 1) w (jn + 2) (z_up v d (fun i => if i = 13 then 3 else if i = 14 then xa else if i = 15 then z else if i = 16 then xb else 0)) (q_sI (g_dd o d 13 (nI xa) (nI z) (nI xb) h) 589 11 (qI (g_dd o d 13 (nI xa) (nI z) (nI xb) h) 589 11 ||| (g_bit (nI xa) ||| g_bit (nI xb)))) (q_sA (q_sA (q_sI (q_sA (q_sA (q_sA (q_sA (q_sA (q_sA k 660 (8 * (20 + r) + d) 3) 661 (8 * (20 + r) + d) (nI xa)) 662 (8 * (20 + r) + d) (nI z)) 663 (8 * (20 + r) + d) (nI xb)) 684 jn (nI xa)) 684 (jn + 1) (nI xb)) 630 75 (nI (jn + 2))) 665 (8 * (20 + r) + d) (nI (1300 + Q))) 659 (20 + r) (nI (d + 1))) := by
  generalize hg : (fun i : Nat => if i = 13 then (3 : Nat) else if i = 14 then xa else if i = 15 then z else if i = 16 then xb else 0) = g
  have g13 : g 13 = 3 := by
    rw [← hg]
    rfl
  have g14 : g 14 = xa := by
    rw [← hg]
    rfl
  have g15 : g 15 = z := by
    rw [← hg]
    rfl
  have g16 : g 16 = xb := by
    rw [← hg]
    rfl
  obtain ⟨O, ⟨z1, z2, z3, z4⟩, C, ⟨M, Lk, Tj⟩, ⟨n1, n2, n3, n4, n5, n6, n7, n8⟩, z5, G⟩ := id Z
  have l6 := z2.2.1
  have n4' := z2.1
  have hl := hO.n
  have hne := hO.ne
  have xa12 := ha.lt n4' (by omega) G
  have xb12 := hb.lt n4' (by omega) G
  -- the class
  have gA : ∀ i, ¬ (o + 8 ≤ i ∧ i ≤ o + 11) → qA (q_sI (g_dd o d 13 (nI xa) (nI z) (nI xb) h) 589 11 (qI (g_dd o d 13 (nI xa) (nI z) (nI xb) h) 589 11 ||| (g_bit (nI xa) ||| g_bit (nI xb)))) i = qA h i := fun i h1 => by
    rw [qA_sI, g_dd_A2 h1]
  have gI : ∀ i i', ¬ (i = o ∧ i' = 4) → ¬ (i = 589 ∧ i' = 11) → qI (q_sI (g_dd o d 13 (nI xa) (nI z) (nI xb) h) 589 11 (qI (g_dd o d 13 (nI xa) (nI z) (nI xb) h) 589 11 ||| (g_bit (nI xa) ||| g_bit (nI xb)))) i i' = qI h i i' := fun i i' h1 h2 => by
    rw [q_sI_n h2, g_dd_I h1]
  have g11 : qI (q_sI (g_dd o d 13 (nI xa) (nI z) (nI xb) h) 589 11 (qI (g_dd o d 13 (nI xa) (nI z) (nI xb) h) 589 11 ||| (g_bit (nI xa) ||| g_bit (nI xb)))) 589 11 = qI h 589 11 ||| (g_bit (nI xa) ||| g_bit (nI xb)) := by
    rw [q_sI_e, g_dd_I (by omega)]
  have g4 : qI (q_sI (g_dd o d 13 (nI xa) (nI z) (nI xb) h) 589 11 (qI (g_dd o d 13 (nI xa) (nI z) (nI xb) h) 589 11 ||| (g_bit (nI xa) ||| g_bit (nI xb)))) o 4 = nI (d + 1) := by
    rw [q_sI_n (by omega)]
    exact g_dd_4
  have gp : ∀ i f, ¬ f = d → qA (q_sI (g_dd o d 13 (nI xa) (nI z) (nI xb) h) 589 11 (qI (g_dd o d 13 (nI xa) (nI z) (nI xb) h) 589 11 ||| (g_bit (nI xa) ||| g_bit (nI xb)))) i f = qA h i f := fun i f h2 => by
    rw [qA_sI, g_dd_p h2]
  obtain ⟨d8, d9, d10, d11⟩ := g_dd_n (o := o) (d := d) (a1 := 13) (a2 := nI xa) (a3 := nI z) (a4 := nI xb) (h := h)
  have d8 : qA (q_sI (g_dd o d 13 (nI xa) (nI z) (nI xb) h) 589 11 (qI (g_dd o d 13 (nI xa) (nI z) (nI xb) h) 589 11 ||| (g_bit (nI xa) ||| g_bit (nI xb)))) (o + 8) d = 13 := by rw [qA_sI]; exact d8
  have d9 : qA (q_sI (g_dd o d 13 (nI xa) (nI z) (nI xb) h) 589 11 (qI (g_dd o d 13 (nI xa) (nI z) (nI xb) h) 589 11 ||| (g_bit (nI xa) ||| g_bit (nI xb)))) (o + 9) d = nI xa := by rw [qA_sI]; exact d9
  have d10 : qA (q_sI (g_dd o d 13 (nI xa) (nI z) (nI xb) h) 589 11 (qI (g_dd o d 13 (nI xa) (nI z) (nI xb) h) 589 11 ||| (g_bit (nI xa) ||| g_bit (nI xb)))) (o + 10) d = nI z := by rw [qA_sI]; exact d10
  have d11 : qA (q_sI (g_dd o d 13 (nI xa) (nI z) (nI xb) h) 589 11 (qI (g_dd o d 13 (nI xa) (nI z) (nI xb) h) 589 11 ||| (g_bit (nI xa) ||| g_bit (nI xb)))) (o + 11) d = nI xb := by rw [qA_sI]; exact d11
  have gL : qL (q_sI (g_dd o d 13 (nI xa) (nI z) (nI xb) h) 589 11 (qI (g_dd o d 13 (nI xa) (nI z) (nI xb) h) 589 11 ||| (g_bit (nI xa) ||| g_bit (nI xb)))) = qL h := by rw [qL_sI, g_dd_L]
  generalize q_sI (g_dd o d 13 (nI xa) (nI z) (nI xb) h) 589 11 (qI (g_dd o d 13 (nI xa) (nI z) (nI xb) h) 589 11 ||| (g_bit (nI xa) ||| g_bit (nI xb))) = h2 at *
  -- the reference
  have pA : ∀ i, ¬ (659 ≤ i ∧ i ≤ 663) → ¬ i = 665 → ¬ i = 684 → qA (q_sA (q_sA (q_sI (q_sA (q_sA (q_sA (q_sA (q_sA (q_sA k 660 (8 * (20 + r) + d) 3) 661 (8 * (20 + r) + d) (nI xa)) 662 (8 * (20 + r) + d) (nI z)) 663 (8 * (20 + r) + d) (nI xb)) 684 jn (nI xa)) 684 (jn + 1) (nI xb)) 630 75 (nI (jn + 2))) 665 (8 * (20 + r) + d) (nI (1300 + Q))) 659 (20 + r) (nI (d + 1))) i = qA k i := fun i h1 h2 h3 => by
    rw [qA_sAn (by omega), qA_sAn (by omega), qA_sI, qA_sAn (by omega), qA_sAn (by omega), qA_sAn (by omega), qA_sAn (by omega), qA_sAn (by omega), qA_sAn (by omega)]
  have pC : ∀ i f, 660 ≤ i → i ≤ 665 → ¬ f = 8 * (20 + r) + d → qA (q_sA (q_sA (q_sI (q_sA (q_sA (q_sA (q_sA (q_sA (q_sA k 660 (8 * (20 + r) + d) 3) 661 (8 * (20 + r) + d) (nI xa)) 662 (8 * (20 + r) + d) (nI z)) 663 (8 * (20 + r) + d) (nI xb)) 684 jn (nI xa)) 684 (jn + 1) (nI xb)) 630 75 (nI (jn + 2))) 665 (8 * (20 + r) + d) (nI (1300 + Q))) 659 (20 + r) (nI (d + 1))) i f = qA k i f := fun i f h1 h2 h3 => by
    rw [qA_sAp (by omega), qA_sAp (by omega), qA_sI, qA_sAp (by omega), qA_sAp (by omega), qA_sAp (by omega), qA_sAp (by omega), qA_sAp (by omega), qA_sAp (by omega)]
  have p60 : qA (q_sA (q_sA (q_sI (q_sA (q_sA (q_sA (q_sA (q_sA (q_sA k 660 (8 * (20 + r) + d) 3) 661 (8 * (20 + r) + d) (nI xa)) 662 (8 * (20 + r) + d) (nI z)) 663 (8 * (20 + r) + d) (nI xb)) 684 jn (nI xa)) 684 (jn + 1) (nI xb)) 630 75 (nI (jn + 2))) 665 (8 * (20 + r) + d) (nI (1300 + Q))) 659 (20 + r) (nI (d + 1))) 660 (8 * (20 + r) + d) = 3 := by
    rw [qA_sAp (by omega), qA_sAp (by omega), qA_sI, qA_sAp (by omega), qA_sAp (by omega), qA_sAp (by omega), qA_sAp (by omega), qA_sAp (by omega), qA_sAe]
  have p61 : qA (q_sA (q_sA (q_sI (q_sA (q_sA (q_sA (q_sA (q_sA (q_sA k 660 (8 * (20 + r) + d) 3) 661 (8 * (20 + r) + d) (nI xa)) 662 (8 * (20 + r) + d) (nI z)) 663 (8 * (20 + r) + d) (nI xb)) 684 jn (nI xa)) 684 (jn + 1) (nI xb)) 630 75 (nI (jn + 2))) 665 (8 * (20 + r) + d) (nI (1300 + Q))) 659 (20 + r) (nI (d + 1))) 661 (8 * (20 + r) + d) = nI xa := by
    rw [qA_sAp (by omega), qA_sAp (by omega), qA_sI, qA_sAp (by omega), qA_sAp (by omega), qA_sAp (by omega), qA_sAp (by omega), qA_sAe]
  have p62 : qA (q_sA (q_sA (q_sI (q_sA (q_sA (q_sA (q_sA (q_sA (q_sA k 660 (8 * (20 + r) + d) 3) 661 (8 * (20 + r) + d) (nI xa)) 662 (8 * (20 + r) + d) (nI z)) 663 (8 * (20 + r) + d) (nI xb)) 684 jn (nI xa)) 684 (jn + 1) (nI xb)) 630 75 (nI (jn + 2))) 665 (8 * (20 + r) + d) (nI (1300 + Q))) 659 (20 + r) (nI (d + 1))) 662 (8 * (20 + r) + d) = nI z := by
    rw [qA_sAp (by omega), qA_sAp (by omega), qA_sI, qA_sAp (by omega), qA_sAp (by omega), qA_sAp (by omega), qA_sAe]
  have p63 : qA (q_sA (q_sA (q_sI (q_sA (q_sA (q_sA (q_sA (q_sA (q_sA k 660 (8 * (20 + r) + d) 3) 661 (8 * (20 + r) + d) (nI xa)) 662 (8 * (20 + r) + d) (nI z)) 663 (8 * (20 + r) + d) (nI xb)) 684 jn (nI xa)) 684 (jn + 1) (nI xb)) 630 75 (nI (jn + 2))) 665 (8 * (20 + r) + d) (nI (1300 + Q))) 659 (20 + r) (nI (d + 1))) 663 (8 * (20 + r) + d) = nI xb := by
    rw [qA_sAp (by omega), qA_sAp (by omega), qA_sI, qA_sAp (by omega), qA_sAp (by omega), qA_sAe]
  have p84 : ∀ i, qA (q_sA (q_sA (q_sI (q_sA (q_sA (q_sA (q_sA (q_sA (q_sA k 660 (8 * (20 + r) + d) 3) 661 (8 * (20 + r) + d) (nI xa)) 662 (8 * (20 + r) + d) (nI z)) 663 (8 * (20 + r) + d) (nI xb)) 684 jn (nI xa)) 684 (jn + 1) (nI xb)) 630 75 (nI (jn + 2))) 665 (8 * (20 + r) + d) (nI (1300 + Q))) 659 (20 + r) (nI (d + 1))) 684 i = if i = jn + 1 then nI xb else if i = jn then nI xa else qA k 684 i := fun i => by
    rw [qA_sAp (by omega), qA_sAp (by omega), qA_sI]
    by_cases h9 : i = jn + 1
    · rw [h9, qA_sAe, if_pos rfl]
    · rw [qA_sAp (by omega), if_neg h9]
      by_cases h8 : i = jn
      · rw [h8, qA_sAe, if_pos rfl]
      · rw [qA_sAp (by omega), if_neg h8, qA_sAp (by omega), qA_sAp (by omega), qA_sAp (by omega), qA_sAp (by omega)]
  have p59 : qA (q_sA (q_sA (q_sI (q_sA (q_sA (q_sA (q_sA (q_sA (q_sA k 660 (8 * (20 + r) + d) 3) 661 (8 * (20 + r) + d) (nI xa)) 662 (8 * (20 + r) + d) (nI z)) 663 (8 * (20 + r) + d) (nI xb)) 684 jn (nI xa)) 684 (jn + 1) (nI xb)) 630 75 (nI (jn + 2))) 665 (8 * (20 + r) + d) (nI (1300 + Q))) 659 (20 + r) (nI (d + 1))) 659 (20 + r) = nI (d + 1) := qA_sAe
  have pI : ∀ i, ¬ i = 75 → qI (q_sA (q_sA (q_sI (q_sA (q_sA (q_sA (q_sA (q_sA (q_sA k 660 (8 * (20 + r) + d) 3) 661 (8 * (20 + r) + d) (nI xa)) 662 (8 * (20 + r) + d) (nI z)) 663 (8 * (20 + r) + d) (nI xb)) 684 jn (nI xa)) 684 (jn + 1) (nI xb)) 630 75 (nI (jn + 2))) 665 (8 * (20 + r) + d) (nI (1300 + Q))) 659 (20 + r) (nI (d + 1))) 630 i = qI k 630 i := fun i hi => by
    rw [qI_sA, qI_sA, q_sI_n (by omega), qI_sA, qI_sA, qI_sA, qI_sA, qI_sA, qI_sA]
  have p75 : qI (q_sA (q_sA (q_sI (q_sA (q_sA (q_sA (q_sA (q_sA (q_sA k 660 (8 * (20 + r) + d) 3) 661 (8 * (20 + r) + d) (nI xa)) 662 (8 * (20 + r) + d) (nI z)) 663 (8 * (20 + r) + d) (nI xb)) 684 jn (nI xa)) 684 (jn + 1) (nI xb)) 630 75 (nI (jn + 2))) 665 (8 * (20 + r) + d) (nI (1300 + Q))) 659 (20 + r) (nI (d + 1))) 630 75 = nI (jn + 2) := by
    rw [qI_sA, qI_sA, q_sI_e]
  have pL : qL (q_sA (q_sA (q_sI (q_sA (q_sA (q_sA (q_sA (q_sA (q_sA k 660 (8 * (20 + r) + d) 3) 661 (8 * (20 + r) + d) (nI xa)) 662 (8 * (20 + r) + d) (nI z)) 663 (8 * (20 + r) + d) (nI xb)) 684 jn (nI xa)) 684 (jn + 1) (nI xb)) 630 75 (nI (jn + 2))) 665 (8 * (20 + r) + d) (nI (1300 + Q))) 659 (20 + r) (nI (d + 1))) = qL k := by
    rw [qL_sA, qL_sA, qL_sI, qL_sA, qL_sA, qL_sA, qL_sA, qL_sA, qL_sA]
  generalize q_sA (q_sA (q_sI (q_sA (q_sA (q_sA (q_sA (q_sA (q_sA k 660 (8 * (20 + r) + d) 3) 661 (8 * (20 + r) + d) (nI xa)) 662 (8 * (20 + r) + d) (nI z)) 663 (8 * (20 + r) + d) (nI xb)) 684 jn (nI xa)) 684 (jn + 1) (nI xb)) 630 75 (nI (jn + 2))) 665 (8 * (20 + r) + d) (nI (1300 + Q))) 659 (20 + r) (nI (d + 1)) = k2 at *
  have A : zA c Q h h2 := zA.o8 hc hO (fun i h1 h2 => gA i h1)
  refine zS4.nx Z hd ⟨(gI _ _ (by omega) (by omega)).trans O.1, (pI _ (by omega)).trans O.2⟩ (fun i i' hi => gI _ _ (by omega) (by omega)) (fun i _ => by rw [gL]) (fun i hi => gA i (by have := q_isO.n8 hc hO hi; omega)) (fun i f h1 h2 hf => gp _ f (by omega)) (fun i f hi hf => by rw [gA (o + i) (by omega)]) (fun i hi => pI _ (by omega)) (fun i _ => by rw [pL]) (fun i h1 h2 => pA i (by omega) (by omega) (by omega)) (fun i f h1 h2 hf => pC i _ h1 h2 (by omega)) A (Nat.le_refl _) (C.fr (gI _ _ (by omega) (by omega)) (pI _ (by omega)) A (fun i hi => pA i (by omega) (by omega) (by omega))) (M.fr (gI _ _ (by omega) (by omega)) (pI _ (by omega)) (by rw [gL]) (by rw [pL]) (fun i hi => gA i (by omega)) (fun i hi => pA i (by omega) (by omega) (by omega))) (Lk.fr (gA _ (by omega)) (gA _ (by omega))) (Tj.fr (fun i i' hi _ => by rw [gA i (by omega)])) ⟨by omega, by omega, g4, p59, (gI _ _ (by omega) (by omega)).trans n6, (pI _ (by omega)).trans n7, p75⟩ (fun i f hf => z_up_o hf) ?_ ?_ ?_
  · unfold zDe
    rw [z_up_n, z_up_n, z_up_n, z_up_n, z_up_n, z_up_n, g13, g14, g15, g16, d8, d9, d10, d11, p60, p61, p62, p63]
    exact ⟨rfl, rfl, fun _ => rfl, fun _ => rfl, fun q => absurd q (by decide), rfl, rfl, fun _ => rfl, fun _ => rfl, fun q => absurd q (by decide)⟩
  · unfold zDw
    rw [z_up_n, z_up_n, z_up_n, z_up_n, z_up_n, z_up_n, g13, g14, g15, g16]
    exact ⟨(show (3 : Nat) < 5 by decide), fun q => absurd q (by decide), fun q => absurd q (by decide), fun q => absurd q (by decide), fun _ => ⟨ha.cg (fun i f hf => z_up_o hf), hz, hb.cg (fun i f hf => z_up_o hf)⟩, fun q => absurd q (by decide)⟩
  · refine G.st (Nat.le_refl _) (fun i x h5 h7 h8 h9 => ?_) (fun i x h5 h7 h8 h9 => ?_) (fun x hx => Or.inl (G.2.2.1 x hx)) (fun q => by omega) (fun x hx => ?_) (fun x hx => ?_) (fun x hx => ?_) ?_
    · rw [gA 593 (by omega)] at h7
      rw [gA 594 (by omega)] at h9
      rw [gA 596 (by omega)]
      exact (G.1 i x h5 h7 h8 h9).trans ⟨fun q => ⟨q, fun q2 => by omega⟩, fun q => q.1⟩
    · rw [gA 593 (by omega)] at h7
      rw [gA 594 (by omega)] at h9
      rw [gA 596 (by omega)]
      exact (G.2.1 i x h5 h7 h8 h9).trans ⟨fun q => ⟨q, fun q2 => by omega⟩, fun q => q.1⟩
    · rw [pA 683 (by omega) (by omega) (by omega)]
      exact (G.2.2.2.2.1 x hx).trans ⟨fun q => ⟨q, fun q2 => by omega⟩, fun q => q.1⟩
    · rw [g11, b_or, b_or, Bool.or_eq_true, Bool.or_eq_true, g_bit_n xa12 x hx, g_bit_n xb12 x hx]
      exact or_congr Iff.rfl ⟨fun q => ⟨g13, q.imp (fun z => g14.trans z.symm) (fun z => g16.trans z.symm)⟩, fun q => q.2.imp (fun z => z.symm.trans g14) (fun z => z.symm.trans g16)⟩
    · have inj : ∀ i i', i < 12 → i' < 12 → nI i = nI i' → i = i' := fun i i' h1 h2 h3 => (nI_eq (by omega) (by omega)).mp h3
      constructor
      · rintro ⟨i, hi, h2⟩
        rw [p84] at h2
        by_cases h9 : i = jn + 1
        · rw [if_pos h9] at h2
          exact Or.inr ⟨g13, Or.inr (g16.trans (inj _ _ xb12 hx h2))⟩
        · rw [if_neg h9] at h2
          by_cases h8 : i = jn
          · rw [if_pos h8] at h2
            exact Or.inr ⟨g13, Or.inl (g14.trans (inj _ _ xa12 hx h2))⟩
          · rw [if_neg h8] at h2
            exact Or.inl ⟨i, by omega, h2⟩
      · rintro (⟨i, hi, h2⟩ | ⟨_, h2⟩)
        · exact ⟨i, by omega, by rw [p84, if_neg (by omega), if_neg (by omega)]; exact h2⟩
        · rcases h2 with h2 | h2
          · have h2 : xa = x := g14.symm.trans h2
            exact ⟨jn, by omega, by rw [p84, if_neg (by omega), if_pos rfl, h2]⟩
          · have h2 : xb = x := g16.symm.trans h2
            exact ⟨jn + 1, by omega, by rw [p84, if_pos rfl, h2]⟩
    · obtain ⟨b, b1, b2, b3⟩ := G.2.2.2.2.2.2.2
      refine ⟨b, b1, (gI _ _ (by omega) (by omega)).trans b2, fun i hi => (b3 i hi).trans ⟨fun q => Or.inl q, fun q => q.elim id (fun q => by have := q.1; omega)⟩⟩
theorem z_jo (T : zTk K P X V U e) (hc : c = 11 ∨ c = 300) (hO : q_isO o) (Z : zS4 Bs K V U e c o (20 + r) nt ns n l x t Q d w jn v h k) (hd : d < 8) (he : s.1 + 7 ≤ e) (k1 : K (s.1 + 1) = 40) (k3 : K (s.1 + 3) = 40) (k5 : K (s.1 + 5) = 40) : (∃ v', zS4 Bs K V U e c o (20 + r) nt ns n l x t Q (d + 1) w (jn + 2) v' (g_jo V c nt ns o d (n + l + w) s.1 h) (p_dE r d (8 * (20 + r) + d) (p_jo P U nt ns (8 * (20 + r) + d) jn (n + l + w) (s.1 + 1) (s.1 + 3) (s.1 + 5) (p_d1 (8 * (20 + r) + d) k)))) ∨ zB P e (s.1 + 7) (g_jo V c nt ns o d (n + l + w) s.1 h) (p_dE r d (8 * (20 + r) + d) (p_jo P U nt ns (8 * (20 + r) + d) jn (n + l + w) (s.1 + 1) (s.1 + 3) (s.1 + 5) (p_d1 (8 * (20 + r) + d) k))) := by
  obtain ⟨Z1, _⟩ := Z.d1
  generalize p_d1 (8 * (20 + r) + d) k = k0 at *
  obtain ⟨O, ⟨ZT, z2, z3, z4⟩, C, ⟨M, Lk, Tj⟩, _, z5, G⟩ := id Z1
  have hn := hO.n
  have N1 : zN K e (s.1 + 1) := ⟨by omega, k1⟩
  have N3 : zN K e (s.1 + 3) := ⟨by omega, k3⟩
  have N5 : zN K e (s.1 + 5) := ⟨by omega, k5⟩
  have f1 := M.sd T N1
  have f3 := ZT.2.2.2.2.2.2.2.1.fi T N3
  have f5 := M.sd T N5
  have gS : ∀ x y z h1 h2, g_S h1 h2 → g_S h1 (g_j3 o d x y z h2) := fun x y z h1 h2 S => (S.dd (by omega)).sI (by omega)
  unfold g_jo p_jo p_dE
  rw [← f1, f3, ← f5]
  -- the reference behind what is found
  have L2 : ∀ b oa os ob k1 k2, p_LW P b k1 k2 → b ≤ s.1 + 1 → p_LW P b k1 (p_jo1 P nt (8 * (20 + r) + d) (s.1 + 1) (s.1 + 3) (s.1 + 5) oa os ob k2) := by
    intro b oa os ob k1 k2 L hb
    unfold p_jo1
    have : p_LW P b k1 (q_sA (p_fw P (s.1 + 5) ob (p_fw P (s.1 + 3) os (p_fw P (s.1 + 1) oa k2))) 660 (8 * (20 + r) + d) 3) := ((((L.fw hb).fw (by omega)).fw (by omega)).sA)
    split
    · exact this.wr (by decide) (by decide) (by omega)
    · exact this
  have L3 : ∀ b oa os ob k1 k2, p_LW P b k1 (p_jo1 P nt (8 * (20 + r) + d) (s.1 + 1) (s.1 + 3) (s.1 + 5) oa os ob k2) → p_LW P b k1 (q_sA (q_sA (p_jo3 P nt (8 * (20 + r) + d) jn (s.1 + 1) (s.1 + 3) (s.1 + 5) oa os ob k2) 665 (8 * (20 + r) + d) (qI (p_jo3 P nt (8 * (20 + r) + d) jn (s.1 + 1) (s.1 + 3) (s.1 + 5) oa os ob k2) 630 22)) 659 (20 + r) (nI (d + 1))) := by
    intro b oa os ob k1 k2 L
    unfold p_jo3
    split
    · unfold p_jo2
      exact ((((((L.sA).sA).sA).sA).sA).sI (by decide) (by decide)).sA.sA
    · exact L.sA.sA
  cases ha : g_ft 5 (n + l + w) (V (s.1 + 1)) h with
  | none =>
    right
    rw [g_fw_0]
    refine zB.mk (h1 := h) (k1 := k0) (n := 4) (i := s.1 + 1) T.M O (by decide) (by decide) (by omega) (by omega) (gS _ _ _ _ _ (g_S.fw ?_)) O.1 p_LW.rf (L3 _ _ _ _ _ _ ?_)
    · unfold g_j2
      exact g_S.ite g_S.rf.fa (g_S.ite g_S.rf.fa g_S.rf)
    · unfold p_jo1
      rw [p_fw_0]
      have : p_LW P (s.1 + 1 + 1) (p_wr P 4 (s.1 + 1) k0) (q_sA (p_fw P (s.1 + 5) (g_ft 5 (n + l + w) (V (s.1 + 5)) h) (p_fw P (s.1 + 3) (p_fi (qL h 591) ns (V (s.1 + 3))) (p_wr P 4 (s.1 + 1) k0))) 660 (8 * (20 + r) + d) 3) := ((p_LW.rf.fw (by omega)).fw (by omega)).sA
      split
      · exact this.wr (by decide) (by decide) (by omega)
      · exact this
  | some ja =>
    rw [g_fw_s]
    obtain ⟨⟨xa, a1, a2, a3⟩, ta, a4, a5, a6⟩ := z_sd T Z1 N1 ha
    cases hs : p_fi (qL h 591) ns (V (s.1 + 3)) with
    | none =>
      right
      have e1 : ∀ ob h2, g_j2 c nt ns s.1 (some ja) none ob h2 = g_fa 4 (s.1 + 3) h2 := fun ob h2 => if_pos rfl
      rw [e1]
      refine zB.mk (h1 := h) (k1 := k0) (n := 4) (i := s.1 + 3) T.M O (by decide) (by decide) (by omega) (by omega) (gS _ _ _ _ _ (g_S.fw g_S.rf)) O.1 p_LW.rf (L3 _ _ _ _ _ _ ?_)
      unfold p_jo1
      rw [p_fw_s, p_fw_0]
      have wf0 : ∀ row oa, p_wf nt row oa none k0 = false := fun row oa => rfl
      rw [wf0, wf0, if_neg (by decide)]
      exact (p_LW.rf.fw (by omega)).sA
    | some u =>
      have hu := (p_fi_lt hs).1
      obtain ⟨x1, x2, u1, u2, u3, u4, u5, u6⟩ := ZT.2.2.2.2.2.2.2.2.2 u hu
      have w1 : p_wf nt 639 (some ja) (some u) k0 = true ↔ g_js c nt ns (c + 2) (some u) (g_vo (qA h 595) (some ja)) h = false := by
        have := z_wf (row := c + 2) (f := qA h (c + 2)) (g := qA k0 639) ZT hu a4 ⟨x1, u1, u3, u5⟩ rfl
        have e1 : g_vo (qA h 595) (some ja) = nI ta := a5
        have e2 : p_wf nt 639 (some ja) (some u) k0 = p_ot (qA k0 638) nt (qA k0 681 ja) (qA k0 639 (12 + u)) := rfl
        rw [e1, e2, a6]
        exact this
      have w2 : ∀ jb, g_ft 5 (n + l + w) (V (s.1 + 5)) h = some jb → (p_wf nt 640 (some jb) (some u) k0 = true ↔ g_js c nt ns (c + 3) (some u) (g_vo (qA h 595) (some jb)) h = false) := by
        intro jb hb
        obtain ⟨_, tb, b4, b5, b6⟩ := z_sd T Z1 N5 hb
        have := z_wf (row := c + 3) (f := qA h (c + 3)) (g := qA k0 640) ZT hu b4 ⟨x2, u2, u4, u6⟩ rfl
        have e1 : g_vo (qA h 595) (some jb) = nI tb := b5
        have e2 : p_wf nt 640 (some jb) (some u) k0 = p_ot (qA k0 638) nt (qA k0 681 jb) (qA k0 640 (12 + u)) := rfl
        rw [e1, e2, b6]
        exact this
      have bad : ∀ ob, (p_wf nt 639 (some ja) (some u) k0 || p_wf nt 640 ob (some u) k0) = true → ((¬ (some ja : Option Nat) = none ∧ g_js c nt ns (c + 2) (some u) (g_vo (qA h 595) (some ja)) h = false) ∨ (¬ ob = none ∧ g_js c nt ns (c + 3) (some u) (g_vo (qA h 595) ob) h = false)) → zB P e (s.1 + 7) (g_j3 o d (g_nu (some ja) h) (q_on (some u)) (g_nu ob h) (g_fw (s.1 + 5) ob (g_j2 c nt ns s.1 (some ja) (some u) ob h))) (q_sA (q_sA (p_jo3 P nt (8 * (20 + r) + d) jn (s.1 + 1) (s.1 + 3) (s.1 + 5) (some ja) (some u) ob k0) 665 (8 * (20 + r) + d) (qI (p_jo3 P nt (8 * (20 + r) + d) jn (s.1 + 1) (s.1 + 3) (s.1 + 5) (some ja) (some u) ob k0) 630 22)) 659 (20 + r) (nI (d + 1))) := by
        intro ob hp hg
        have e1 : g_j2 c nt ns s.1 (some ja) (some u) ob h = g_fa 5 (s.1 + 3) h := by
          unfold g_j2
          rw [if_neg (by simp), if_pos hg]
        rw [e1]
        refine zB.mk (h1 := h) (k1 := q_sA (p_fw P (s.1 + 5) ob k0) 660 (8 * (20 + r) + d) 3) (n := 5) (i := s.1 + 3) T.M O (by decide) (by decide) (by omega) (by omega) (gS _ _ _ _ _ (g_S.fw g_S.rf)) O.1 ((p_LW.rf.fw (by omega)).sA) (L3 _ _ _ _ _ _ ?_)
        unfold p_jo1
        rw [if_pos hp, p_fw_s, p_fw_s]
        exact p_LW.rf
      cases hb : g_ft 5 (n + l + w) (V (s.1 + 5)) h with
      | none =>
        right
        have wf0 : p_wf nt 640 none (some u) k0 = false := rfl
        by_cases h9 : p_wf nt 639 (some ja) (some u) k0 = true
        · exact bad none (by rw [h9]; rfl) (Or.inl ⟨by simp, w1.mp h9⟩)
        · have e1 : g_j2 c nt ns s.1 (some ja) (some u) none h = h := by
            unfold g_j2
            rw [if_neg (by simp), if_neg (fun q => by rcases q with q | q; exact h9 (w1.mpr q.2); exact q.1 rfl)]
          rw [e1, g_fw_0]
          refine zB.mk (h1 := h) (k1 := k0) (n := 4) (i := s.1 + 5) T.M O (by decide) (by decide) (by omega) (by omega) (gS _ _ _ _ _ g_S.rf) O.1 p_LW.rf (L3 _ _ _ _ _ _ ?_)
          unfold p_jo1
          rw [wf0, Bool.or_false, if_neg h9, p_fw_s, p_fw_s, p_fw_0]
          exact p_LW.rf.sA
      | some jb =>
        obtain ⟨⟨xb, b1, b2, b3⟩, _⟩ := z_sd T Z1 N5 hb
        by_cases h9 : (p_wf nt 639 (some ja) (some u) k0 || p_wf nt 640 (some jb) (some u) k0) = true
        · right
          refine bad (some jb) h9 ?_
          rw [Bool.or_eq_true] at h9
          rcases h9 with h9 | h9
          · exact Or.inl ⟨by simp, w1.mp h9⟩
          · exact Or.inr ⟨by simp, (w2 jb hb).mp h9⟩
        · left
          have e1 : g_j2 c nt ns s.1 (some ja) (some u) (some jb) h = h := by
            unfold g_j2
            rw [if_neg (by simp), if_neg (fun q => ?_)]
            rcases q with q | q
            · exact h9 (by rw [w1.mpr q.2]; rfl)
            · exact h9 (by rw [(w2 jb hb).mpr q.2, Bool.or_true])
          have en1 : g_nu (some ja) h = nI xa := a2
          have en2 : g_nu (some jb) h = nI xb := b2
          have e3 : p_jo3 P nt (8 * (20 + r) + d) jn (s.1 + 1) (s.1 + 3) (s.1 + 5) (some ja) (some u) (some jb) k0 = p_jo2 (8 * (20 + r) + d) jn (nI xa) (nI u) (nI xb) (q_sA k0 660 (8 * (20 + r) + d) 3) := by
            show p_jo2 (8 * (20 + r) + d) jn (p_tg (qA k0 679 ja) (qA k0 680 ja)) (q_on (some u)) (p_tg (qA k0 679 jb) (qA k0 680 jb)) (p_jo1 P nt (8 * (20 + r) + d) (s.1 + 1) (s.1 + 3) (s.1 + 5) (some ja) (some u) (some jb) k0) = _
            unfold p_jo1
            rw [if_neg h9, p_fw_s, p_fw_s, p_fw_s, a3, b3]
            rfl
          have e22 : qI (p_jo2 (8 * (20 + r) + d) jn (nI xa) (nI u) (nI xb) (q_sA k0 660 (8 * (20 + r) + d) 3)) 630 22 = nI (1300 + Q) := by
            unfold p_jo2
            rw [q_sI_n (by omega), qI_sA, qI_sA, qI_sA, qI_sA, qI_sA, qI_sA]
            exact C.2.1
          rw [e1, g_fw_s, en1, en2, e3, e22]
          refine ⟨_, Z1.jo hc hO hd a1 b1 hu⟩
end ZD
