/-! THE TWO READS: a do with rows begins -/
section ZX
variable {K P X : Nat → Nat} {V U : Nat → Int64} {L9 L10 : Nat → Int64} {rF pF : Nat} {e c np D0 d HR HI f g C D Dn C' D' a b : Nat} {v0 v v1 v' : Nat → Nat → Nat} {h0 k0 h k h' k' h1 k1 k2 : q_Hp} {s : y_S}
theorem zRx.mk {kd y : Nat} (Z : zRW K V L9 L10 rF pF e c np D0 d HR HI f g C D v h k) (hD : D < 2 ^ 27) (hd : d < 8) (hnp : np < 10) (hkd : kd = 5 ∨ kd = 6 ∨ kd = 7) (hy : kd = 6 → y ≤ 100)
    (hO : zO h1 k2) (hL : qL h1 9 = L9 ∧ qL h1 10 = L10) (h5 : qI h1 c 5 = nI (D + 1)) (gc : ∀ i, qA h1 (c + 8) i = if i = 6 * D then nI (15 + kd) else if i = 6 * D + 1 ∧ kd = 6 then nI y else if 6 * D + 1 ≤ i ∧ i < 6 * D + 6 then -1 else qA h (c + 8) i)
    (k23 : qI k2 630 23 = nI (1300 + (D + 1))) (k84 : qI k2 630 84 = nI C) (k80 : qI k2 630 80 = nI d) (k21 : qI k2 630 21 = nI np) (c9 : ∀ i, qA k2 669 i = if i = 1300 + D then nI kd else qA k 669 i) (c0 : ∀ i, ¬ i = 1300 + D → qA k2 670 i = qA k 670 i) (c00 : kd = 6 → qA k2 670 (1300 + D) = nI y) (c2 : ∀ i, qA k2 672 i = if i = 1300 + D then -1 else qA k 672 i) (c1 : ∀ i, qA k2 671 i = if 3 * (1300 + D) ≤ i ∧ i < 3 * (1300 + D) + 3 then -1 else qA k 671 i) (cs : ∀ y, (y = 673 ∨ y = 686 ∨ y = 687 ∨ y = 688 ∨ y = 689 ∨ y = 690) → qA k2 y = qA k y) : zRx K V L9 L10 rF pF e c np d g HR HI D (D + 1) C 0 v (zv1 v D kd y d) h k h1 (q_sA (q_sA (q_sA (q_sI (p_co (nI (1300 + D)) k2) 630 80 (nI (d + 1))) 686 (d + 1) (nI (1300 + D))) 687 (d + 1) 0) 688 (d + 1) (-1)) ∧ zRy d 0 (q_sA (q_sA (q_sA (q_sI (p_co (nI (1300 + D)) k2) 630 80 (nI (d + 1))) 686 (d + 1) (nI (1300 + D))) 687 (d + 1) 0) 688 (d + 1) (-1)) ∧ qA (q_sA (q_sA (q_sA (q_sI (p_co (nI (1300 + D)) k2) 630 80 (nI (d + 1))) 686 (d + 1) (nI (1300 + D))) 687 (d + 1) 0) 688 (d + 1) (-1)) 688 (d + 1) = -1 := by
  obtain ⟨gD, hD0⟩ := Z.bd
  obtain ⟨⟨O, l9, l10⟩, ⟨n1, n2, n3, n4⟩, ⟨s1, s2, s3, s4⟩, Hd, ⟨gf, gg, ff⟩, dos, Rc⟩ := id Z
  have Hd2 : zHd d np D0 HR HI k2 := by
    rcases Hd with q | ⟨q1, q2, A, b, q3, q4, q5, q6, q7⟩
    · exact Or.inl q
    · exact Or.inr ⟨q1, q2, A, b, q3, q4, q5, by rw [cs 686 (by omega)]; exact q6, by rw [cs 687 (by omega)]; exact q7⟩
  have hHI : HR = 671 → HI < 3 * (1300 + D0) := by
    intro h7
    rcases Hd with ⟨_, q, _⟩ | ⟨_, _, A, b, q1, q2, q3, _⟩
    · omega
    · omega
  obtain ⟨eI, eL, eA, e2, e1, e3, e8⟩ := p_co_r (x := nI (1300 + D)) k80 k21 (by rw [cs 688 (by omega)]; exact s3) (by omega) (by omega) (by omega) Hd2 (by omega)
  generalize p_co (nI (1300 + D)) k2 = k3 at *
  have tA : ∀ y, ¬ y = 686 ∧ ¬ y = 687 ∧ ¬ y = 688 → qA (q_sA (q_sA (q_sA (q_sI k3 630 80 (nI (d + 1))) 686 (d + 1) (nI (1300 + D))) 687 (d + 1) 0) 688 (d + 1) (-1)) y = qA k3 y := fun y hy => by
    rw [qA_sAn hy.2.2, qA_sAn hy.2.1, qA_sAn hy.1, qA_sI]
  have tP : ∀ y i, ¬ i = d + 1 → qA (q_sA (q_sA (q_sA (q_sI k3 630 80 (nI (d + 1))) 686 (d + 1) (nI (1300 + D))) 687 (d + 1) 0) 688 (d + 1) (-1)) y i = qA k3 y i := fun y i hi => by
    rw [qA_sAp (by omega), qA_sAp (by omega), qA_sAp (by omega), qA_sI]
  have t86 : qA (q_sA (q_sA (q_sA (q_sI k3 630 80 (nI (d + 1))) 686 (d + 1) (nI (1300 + D))) 687 (d + 1) 0) 688 (d + 1) (-1)) 686 (d + 1) = nI (1300 + D) := by
    rw [qA_sAp (by omega), qA_sAp (by omega), qA_sAe]
  have t87 : qA (q_sA (q_sA (q_sA (q_sI k3 630 80 (nI (d + 1))) 686 (d + 1) (nI (1300 + D))) 687 (d + 1) 0) 688 (d + 1) (-1)) 687 (d + 1) = 0 := by
    rw [qA_sAp (by omega), qA_sAe]
  have t88 : qA (q_sA (q_sA (q_sA (q_sI k3 630 80 (nI (d + 1))) 686 (d + 1) (nI (1300 + D))) 687 (d + 1) 0) 688 (d + 1) (-1)) 688 (d + 1) = -1 := qA_sAe
  have tI : ∀ j, ¬ j = 80 → qI (q_sA (q_sA (q_sA (q_sI k3 630 80 (nI (d + 1))) 686 (d + 1) (nI (1300 + D))) 687 (d + 1) 0) 688 (d + 1) (-1)) 630 j = qI k2 630 j := fun j hj => by
    rw [qI_sA, qI_sA, qI_sA, q_sI_n (by omega), eI]
  have t80 : qI (q_sA (q_sA (q_sA (q_sI k3 630 80 (nI (d + 1))) 686 (d + 1) (nI (1300 + D))) 687 (d + 1) 0) 688 (d + 1) (-1)) 630 80 = nI (d + 1) := by
    rw [qI_sA, qI_sA, qI_sA, q_sI_e]
  generalize q_sA (q_sA (q_sA (q_sI k3 630 80 (nI (d + 1))) 686 (d + 1) (nI (1300 + D))) 687 (d + 1) 0) 688 (d + 1) (-1) = k4 at *
  have v0 : zv1 v D kd y d D 0 = kd := by rw [zv1_n]; rfl
  have vv1 : zv1 v D kd y d D 1 = y := by rw [zv1_n]; rfl
  have v6 : zv1 v D kd y d D 6 = d := by rw [zv1_n]; rfl
  have v2 : ∀ i, 2 ≤ i → i < 6 → zv1 v D kd y d D i = 0 := fun i h1 h2 => by rw [zv1_n, if_neg (by omega), if_neg (by omega), if_neg (by omega)]
  refine ⟨⟨⟨⟨hO.1, (tI _ (by decide)).trans hO.2⟩, hL⟩, ⟨h5, (tI _ (by decide)).trans k23, (tI _ (by decide)).trans k84, Nat.lt_succ_self D⟩, ⟨(tI _ (by decide)).trans k21, t86⟩, ⟨fun i hi => ?_, fun z j hz hj => ?_, fun j hj => ?_, fun i hi => ?_, fun i => ?_, fun i hi => ?_, fun i hi => ?_, ?_⟩, ⟨fun j hj i => zv1_o (Nat.ne_of_lt hj), v2 2 (by decide) (by decide), v6, by rw [v0]; omega, fun i _ hi => v2 _ (by omega) (by omega)⟩, fun j hj1 hj2 => ?_, ?_⟩, ⟨t80, t87⟩, t88⟩
  · rw [gc, if_neg (by omega), if_neg (by omega), if_neg (by omega)]
  · rcases hz with rfl | rfl
    · rw [tA 669 (by decide), eA 669 (by decide), c9, if_neg (by omega)]
    · rw [tA 670 (by decide), eA 670 (by decide), c0 _ (by omega)]
  · rw [tA 672 (by decide), e2]
    by_cases h9 : g = j + 1
    · rw [if_pos h9, if_pos ⟨by omega, by omega⟩]
    · rw [if_neg h9, if_neg (by omega), c2, if_neg (by omega)]
  · rw [tA 671 (by decide), e1, c1, if_neg (show ¬ (3 * (1300 + D) ≤ i ∧ i < 3 * (1300 + D) + 3) by omega)]
  · rw [tA 673 (by decide), e3, cs 673 (by omega)]
  · rw [tP _ _ (by omega), tP _ _ (by omega), eA 686 (by decide), eA 687 (by decide), cs 686 (by omega), cs 687 (by omega)]
    exact ⟨rfl, rfl⟩
  · rw [tP _ _ (by omega), e8, if_neg (by omega), cs 688 (by omega)]
  · rw [tP _ _ (by omega), e8, if_pos rfl]
  · have ej : j = D := by omega
    subst ej
    constructor
    · unfold zdo
      rw [v0, vv1, v2 2 (by decide) (by decide)]
      refine ⟨⟨?_, fun q => ?_, fun i h1 h2 => ?_⟩, ?_, fun q => ?_, ?_, fun i hi => ?_⟩
      · rw [gc, if_pos rfl]
      · have n4 : kd = 6 := by
          unfold q_val at q
          omega
        rw [gc, if_neg (by omega), if_pos ⟨rfl, n4⟩]
      · rw [gc, if_neg (by omega), if_neg (by omega), if_pos (by omega), v2 i h1 h2]
        rfl
      · rw [tA 669 (by decide), eA 669 (by decide), c9, if_pos rfl]
      · rw [tA 670 (by decide), eA 670 (by decide)]
        exact c00 q
      · rw [tA 672 (by decide), e2, if_neg (by omega), c2, if_pos rfl]
        rfl
      · rw [tA 671 (by decide), e1, if_neg (fun q => by have := hHI q.2.1; omega), c1, if_pos (by omega), v2 (3 + i) (by omega) (by omega)]
        rfl
    · unfold zdw
      rw [v0, vv1, v2 2 (by decide) (by decide), v6]
      exact ⟨⟨by omega, by omega, fun q => by omega⟩, fun q => by omega, fun q => by omega, hy, Or.inl rfl, fun i h1 h2 => Or.inl (v2 i (by omega) h2), fun q => by omega⟩
  · have R9 : zRc K V L9 L10 rF pF e C (D + 1) (zv1 v D kd y d) k2 := Rc.no (by omega) (fun j hj => by rw [c9, if_neg (by omega)]) (cs 689 (by omega)) (cs 690 (by omega))
    unfold zRc at R9 ⊢
    rw [tA 669 (by decide), tA 689 (by decide), tA 690 (by decide), eA 669 (by decide), eA 689 (by decide), eA 690 (by decide)]
    exact R9
theorem z_w1 (T : zTk K P X V U e) (hc : c = 11 ∨ c = 300) (he12 : e ≤ 1200) (Z : zRW K V L9 L10 rF pF e c np D0 d HR HI f g C D v h k) (hs : s.2 = 0) (hD : D ≤ s.1) (hC : C ≤ s.1) (hd : d < 8) (hnp : np < 10) (hk : K s.1 = 20 ∨ K s.1 = 21 ∨ K s.1 = 22) (h21 : K s.1 = 21 → K (s.1 + 1) = 41 ∧ s.1 + 2 ≤ a) (ha : s.1 + 1 ≤ a) (hae : a ≤ e) : (∃ v', zRx K V L9 L10 rF pF e c np d g HR HI D (D + 1) C 0 v v' h k (g_w0 K V c D s.1 h) (p_w1 K P X d s k) ∧ zRy d 0 (p_w1 K P X d s k) ∧ qA (p_w1 K P X d s k) 688 (d + 1) = -1) ∨ zBr K P V L9 L10 rF pF e a C (D + 1) (g_w0 K V c D s.1 h) (p_w1 K P X d s k) := by
  obtain ⟨gD, hD0⟩ := Z.bd
  obtain ⟨⟨O, l9, l10⟩, ⟨n1, n2, n3, n4⟩, ⟨s1, s2, s3, s4⟩, Hd, _, _, Rc⟩ := id Z
  obtain ⟨kd, hkd, ekd, ehk⟩ : ∃ kd, (kd = 5 ∨ kd = 6 ∨ kd = 7) ∧ p_wk K s = nI kd ∧ K s.1 = 15 + kd := by
    unfold p_wk
    rcases hk with q | q | q
    · exact ⟨5, by omega, by rw [if_pos q]; rfl, q⟩
    · exact ⟨6, by omega, by rw [if_neg (by omega), if_pos q]; rfl, q⟩
    · exact ⟨7, by omega, by rw [if_neg (by omega), if_neg (by omega)]; rfl, q⟩
  have eop : p_op k d s = q_sI k 630 12 (nI (d + 1)) := if_pos ⟨hs, hd⟩
  have o23 : qI (q_sI k 630 12 (nI (d + 1))) 630 23 = nI (1300 + D) := (q_sI_n (by omega)).trans n2
  obtain ⟨r9, r0, r2, r1⟩ := p_nD_r (w := nI kd) o23 (by omega)
  have rI : ∀ j, ¬ j = 23 → ¬ j = 12 → qI (p_nD (nI kd) (q_sI k 630 12 (nI (d + 1)))) 630 j = qI k 630 j := fun j h1 h2 => by
    rw [p_nD_I h1, q_sI_n (by omega)]
  have r23 : qI (p_nD (nI kd) (q_sI k 630 12 (nI (d + 1)))) 630 23 = nI (1300 + (D + 1)) := by
    rw [p_nD_23, o23, nI_1]
    rfl
  have rA : ∀ z, ¬ z = 669 ∧ ¬ z = 670 ∧ ¬ z = 671 ∧ ¬ z = 672 → qA (p_nD (nI kd) (q_sI k 630 12 (nI (d + 1)))) z = qA k z := fun z hz => by
    rw [p_nD_A hz, qA_sI]
  rw [qA_sI] at r9 r0 r2 r1
  have gI : ∀ i j, ¬ (i = c ∧ j = 5) → qI (g_do c D (nI (K s.1)) h) i j = qI h i j := fun i j hh => g_do_I hh
  have gL : qL (g_do c D (nI (K s.1)) h) = qL h := by
    unfold g_do
    rw [qL_sA, qL_sA, qL_sA, qL_sA, qL_sA, qL_sA, qL_sI]
  have g5 : qI (g_do c D (nI (K s.1)) h) c 5 = nI (D + 1) := g_do_5
  have gr := fun i => g_do_r (c := c) (D := D) (h := h) (x := nI (K s.1)) i
  unfold g_w0 p_w1 p_w0
  rw [n2, ekd, eop]
  by_cases c21 : K s.1 = 21
  · rw [if_pos c21, if_pos c21]
    obtain ⟨k41, a2⟩ := h21 c21
    obtain ⟨v1, v2, _, v4⟩ := T.2.2 (s.1 + 1) (by omega) k41
    have k6 : kd = 6 := by omega
    unfold p_yw
    rw [nI_clamp (show 1300 + D < 2 ^ 31 by omega)]
    by_cases hX : X (s.1 + 1) ≤ 100
    · left
      have eg : g_yw (s.1 + 1) (V (s.1 + 1)) (g_do c D (nI (K s.1)) h) = g_do c D (nI (K s.1)) h := by
        unfold g_yw
        exact if_pos (v4.mpr hX)
      rw [eg, if_pos hX, v1]
      have hI : qI (g_pt c D 1 (nI (X (s.1 + 1))) (g_do c D (nI (K s.1)) h)) = qI (g_do c D (nI (K s.1)) h) := by
        unfold g_pt
        rw [qI_sA]
      have hL : qL (g_pt c D 1 (nI (X (s.1 + 1))) (g_do c D (nI (K s.1)) h)) = qL h := by
        unfold g_pt
        rw [qL_sA, gL]
      have hr : ∀ i, qA (g_pt c D 1 (nI (X (s.1 + 1))) (g_do c D (nI (K s.1)) h)) (c + 8) i = if i = 6 * D then nI (15 + kd) else if i = 6 * D + 1 ∧ kd = 6 then nI (X (s.1 + 1)) else if 6 * D + 1 ≤ i ∧ i < 6 * D + 6 then -1 else qA h (c + 8) i := fun i => by
        unfold g_pt
        by_cases h9 : i = 6 * D + 1
        · rw [h9, qA_sAe, if_neg (by omega), if_pos ⟨rfl, k6⟩]
        · rw [qA_sAp (by omega), gr, ehk]
          by_cases h8 : i = 6 * D
          · rw [if_pos h8, if_pos h8]
          · rw [if_neg h8, if_neg h8, if_neg (show ¬ (i = 6 * D + 1 ∧ kd = 6) from fun q => h9 q.1)]
      generalize g_pt c D 1 (nI (X (s.1 + 1))) (g_do c D (nI (K s.1)) h) = h2 at *
      generalize g_do c D (nI (K s.1)) h = h3 at *
      generalize p_nD (nI kd) (q_sI k 630 12 (nI (d + 1))) = k3 at *
      exact ⟨_, zRx.mk Z (kd := kd) (y := X (s.1 + 1)) (h1 := h2) (k2 := q_sA k3 670 (1300 + D) (nI (X (s.1 + 1)))) (by omega) hd hnp hkd (fun _ => hX) ⟨by rw [hI, gI _ _ (by omega)]; exact O.1, by rw [qI_sA, rI _ (by decide) (by decide)]; exact O.2⟩ ⟨by rw [hL]; exact l9, by rw [hL]; exact l10⟩ (by rw [hI]; exact g5) hr (by rw [qI_sA]; exact r23) (by rw [qI_sA, rI _ (by decide) (by decide)]; exact n3) (by rw [qI_sA, rI _ (by decide) (by decide)]; exact s1) (by rw [qI_sA, rI _ (by decide) (by decide)]; exact s2) (fun i => by rw [qA_sAn (by decide), r9]) (fun i hi => by rw [qA_sAp (by omega), r0, if_neg hi]) (fun _ => qA_sAe) (fun i => by rw [qA_sAn (by decide), r2]) (fun i => by rw [qA_sAn (by decide), r1]) (fun z hz => by rw [qA_sAn (by omega), rA z (by omega)])⟩
    · right
      have eg : g_yw (s.1 + 1) (V (s.1 + 1)) (g_do c D (nI (K s.1)) h) = g_fa (nI 5) (s.1 + 1) (g_do c D (nI (K s.1)) h) := by
        unfold g_yw
        exact if_neg (fun q => hX (v4.mp q))
      rw [eg, if_neg hX]
      have g15 : qI (g_do c D (nI (K s.1)) h) 589 15 = 0 := (gI _ _ (by omega)).trans O.1
      generalize g_do c D (nI (K s.1)) h = h3 at *
      generalize p_nD (nI kd) (q_sI k 630 12 (nI (d + 1))) = k3 at *
      have e4I : qI (q_sA k3 670 (1300 + D) (nI (X (s.1 + 1)))) = qI k3 := qI_sA _ _ _ _
      have e4A : ∀ z, ¬ z = 670 → qA (q_sA k3 670 (1300 + D) (nI (X (s.1 + 1)))) z = qA k3 z := fun z hz => qA_sAn hz
      generalize q_sA k3 670 (1300 + D) (nI (X (s.1 + 1))) = k4 at *
      have w84 : qI (p_wr P 5 (s.1 + 1) k4) 630 84 = nI C := by
        rw [p_wr_I (by decide), e4I, rI _ (by decide) (by decide)]
        exact n3
      have w23 : qI (p_wr P 5 (s.1 + 1) k4) 630 23 = nI (1300 + (D + 1)) := by
        rw [p_wr_I (by decide), e4I]
        exact r23
      have wA : ∀ z, ¬ z = 670 → qA (p_wr P 5 (s.1 + 1) k4) z = qA k3 z := fun z hz => by
        rw [p_wr_A, e4A z hz]
      have R5 : zRf K P e (s.1 + 1 + 1) C (D + 1) (p_wr P 5 (s.1 + 1) k4) C (D + 1) (p_wr P 5 (s.1 + 1) k4) := zRf.rf w84 w23
      have R6 := ((((R5.co (x := nI (1300 + D))).sI (j := 80) (v := nI (d + 1)) (by decide)).sA (y := 686) (j := d + 1) (v := nI (1300 + D)) (by decide)).sA (y := 687) (j := d + 1) (v := 0) (by decide)).sA (y := 688) (j := d + 1) (v := -1) (by decide)
      have L4 : p_LW P (s.1 + 1 + 1) k k4 := by
        refine p_LW.c p_LW.rf ?_ ?_
        · rw [e4I, rI _ (by decide) (by decide)]
        · rw [e4I, rI _ (by decide) (by decide)]
      generalize q_sA (q_sA (q_sA (q_sI (p_co (nI (1300 + D)) (p_wr P 5 (s.1 + 1) k4)) 630 80 (nI (d + 1))) 686 (d + 1) (nI (1300 + D))) 687 (d + 1) 0) 688 (d + 1) (-1) = k6 at *
      have B : zB P e a (g_pt c D 1 (V (s.1 + 1)).toInt32 (g_fa (nI 5) (s.1 + 1) h3)) k6 := zB.mk (h := h) (k := k) (h1 := h3) (k1 := k4) (n := 5) (i := s.1 + 1) T.M O (by decide) (by decide) (by omega) (by omega) g_S.rf.pt g15 L4 R6.2.2.2.2.2
      obtain ⟨_, w1, w2, w3, _⟩ := R6
      refine B.br w1.1 w1.2 (by omega) (by omega) (fun x hx => ?_)
      obtain ⟨i', j, u1, u2, u3, u4, y, u5⟩ := Rc.ok x hx
      refine ⟨i', j, u1, by omega, ?_, ?_, y, ?_⟩
      · rw [(w2 x hx).1, wA 689 (by decide), rA 689 (by decide)]
        exact u3
      · rw [(w2 x hx).2, wA 690 (by decide), rA 690 (by decide)]
        exact u4
      · rw [w3 j (by omega), wA 669 (by decide), r9, if_neg (by omega)]
        exact u5
  · rw [if_neg c21, if_neg c21]
    left
    have k6 : ¬ kd = 6 := by omega
    have hr : ∀ i, qA (g_do c D (nI (K s.1)) h) (c + 8) i = if i = 6 * D then nI (15 + kd) else if i = 6 * D + 1 ∧ kd = 6 then nI 0 else if 6 * D + 1 ≤ i ∧ i < 6 * D + 6 then -1 else qA h (c + 8) i := fun i => by
      rw [gr, ehk]
      by_cases h8 : i = 6 * D
      · rw [if_pos h8, if_pos h8]
      · rw [if_neg h8, if_neg h8, if_neg (show ¬ (i = 6 * D + 1 ∧ kd = 6) from fun q => k6 q.2)]
    generalize g_do c D (nI (K s.1)) h = h3 at *
    generalize p_nD (nI kd) (q_sI k 630 12 (nI (d + 1))) = k3 at *
    exact ⟨_, zRx.mk Z (kd := kd) (y := 0) (h1 := h3) (k2 := k3) (by omega) hd hnp hkd (fun q => absurd q k6) ⟨by rw [gI _ _ (by omega)]; exact O.1, by rw [rI _ (by decide) (by decide)]; exact O.2⟩ ⟨by rw [gL]; exact l9, by rw [gL]; exact l10⟩ g5 hr r23 ((rI _ (by decide) (by decide)).trans n3) ((rI _ (by decide) (by decide)).trans s1) ((rI _ (by decide) (by decide)).trans s2) r9 (fun i hi => by rw [r0, if_neg hi]) (fun q => absurd q k6) r2 r1 (fun z hz => rA z (by omega))⟩
end ZX
