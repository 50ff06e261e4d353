/-! THE TWO READS: a link of a rule, and all of the first part -/
section ZL
variable {K P X : Nat → Nat} {V U : Nat → Int64} {e t c o q nt ns n l m a r : Nat} {NX : Nat → Prop} {lx : Bool} {w : Nat} {h k h' k' : q_Hp} {F D J E : List Nat} {s : y_S}
theorem zS1.li (T : zTk K P X V U e) (hc : c = 11 ∨ c = 300) (hO : q_isO o) (Z : zS1 K V U e c o (20 + r) nt ns n l h k) (h6 : l < 6) {so x1 x2 : Nat} (hso : so < ns) (hx1 : x1 < n) (hx2 : x2 < n) (N1 : zN K e t) (hf1 : p_fi (qL h 592) (n + l) (V t) = none) : zS1 K V U e c o (20 + r) nt ns n (l + 1) (g_tl (n + l) (V t) 2 (nI l) (-1) (q_sI (g_lk o l (nI so) (nI x1) (nI x2) h) o 1 (nI (l + 1)))) (q_sA (p_tl P U t (n + l) 1 (nI l) (-1) (q_sA (q_sA (q_sA k 646 (6 * (20 + r) + l) (nI x1)) 645 (6 * (20 + r) + l) (nI so)) 647 (6 * (20 + r) + l) (nI x2))) 642 (20 + r) (nI (l + 1))) := by
  obtain ⟨O, ZT, ZL, ZM, G, Lk⟩ := Z
  have hn := hO.n
  have hne := hO.ne
  have f1 := ZM.fi T N1
  have e1 : n + (l + 1) = n + l + 1 := by omega
  have K3 : p_K P 0 [68] [642, 645, 646, 647, 679, 680, 681, 682] k (q_sA (q_sA (q_sA k 646 (6 * (20 + r) + l) (nI x1)) 645 (6 * (20 + r) + l) (nI so)) 647 (6 * (20 + r) + l) (nI x2)) := ((p_K.rf.sA (by decide)).sA (by decide)).sA (by decide)
  generalize hk3 : q_sA (q_sA (q_sA k 646 (6 * (20 + r) + l) (nI x1)) 645 (6 * (20 + r) + l) (nI so)) 647 (6 * (20 + r) + l) (nI x2) = k3 at *
  have Ik3 : ∀ j, qI k3 630 j = qI k 630 j := fun j => by rw [← hk3, qI_sA, qI_sA, qI_sA]
  have L3 : qL k3 = qL k := by rw [← hk3, qL_sA, qL_sA, qL_sA]
  have A3 : ∀ {x}, (¬ x = 645 ∧ ¬ x = 646 ∧ ¬ x = 647) → qA k3 x = qA k x := fun q => by rw [← hk3, qA_sAn q.2.2, qA_sAn q.1, qA_sAn q.2.1]
  have c5 : ∀ i, qA k3 645 i = if i = 6 * (20 + r) + l then nI so else qA k 645 i := fun i => by
    rw [← hk3, qA_sAn (by decide), qA_sA, qA_sAn (by decide)]
    by_cases h9 : i = 6 * (20 + r) + l
    · rw [if_pos ⟨rfl, h9⟩, if_pos h9]
    · rw [if_neg (fun q => h9 q.2), if_neg h9]
  have c6 : ∀ i, qA k3 646 i = if i = 6 * (20 + r) + l then nI x1 else qA k 646 i := fun i => by
    rw [← hk3, qA_sAn (by decide), qA_sAn (by decide), qA_sA]
    by_cases h9 : i = 6 * (20 + r) + l
    · rw [if_pos ⟨rfl, h9⟩, if_pos h9]
    · rw [if_neg (fun q => h9 q.2), if_neg h9]
  have c7 : ∀ i, qA k3 647 i = if i = 6 * (20 + r) + l then nI x2 else qA k 647 i := fun i => by
    rw [← hk3, qA_sA, qA_sAn (by decide), qA_sAn (by decide)]
    by_cases h9 : i = 6 * (20 + r) + l
    · rw [if_pos ⟨rfl, h9⟩, if_pos h9]
    · rw [if_neg (fun q => h9 q.2), if_neg h9]
  have G3 : g_K c o [1] [4, 5, 6] h (q_sI (g_lk o l (nI so) (nI x1) (nI x2) h) o 1 (nI (l + 1))) := (g_K.rf.lk (by decide) (by decide) (by decide)).sI (Or.inr (Or.inl ⟨rfl, by decide⟩))
  unfold g_lk at *
  generalize hh3 : q_sI (q_sA (q_sA (q_sA h (o + 4) l (nI so)) (o + 5) l (nI x1)) (o + 6) l (nI x2)) o 1 (nI (l + 1)) = h3 at *
  have Ih3 : ∀ x j, ¬ (x = o ∧ j = 1) → qI h3 x j = qI h x j := fun x j q => by rw [← hh3, q_sI_n q, qI_sA, qI_sA, qI_sA]
  have Ah3 : ∀ x, ¬ x = o + 4 → ¬ x = o + 5 → ¬ x = o + 6 → qA h3 x = qA h x := fun x q1 q2 q3 => by rw [← hh3, qA_sI, qA_sAn q3, qA_sAn q2, qA_sAn q1]
  have g4 : ∀ i, qA h3 (o + 4) i = if i = l then nI so else qA h (o + 4) i := fun i => by
    rw [← hh3, qA_sI, qA_sAn (by omega), qA_sAn (by omega), qA_sA]
    by_cases h9 : i = l
    · rw [if_pos ⟨rfl, h9⟩, if_pos h9]
    · rw [if_neg (fun q => h9 q.2), if_neg h9]
  have g5 : ∀ i, qA h3 (o + 5) i = if i = l then nI x1 else qA h (o + 5) i := fun i => by
    rw [← hh3, qA_sI, qA_sAn (by omega), qA_sA, qA_sAn (by omega)]
    by_cases h9 : i = l
    · rw [if_pos ⟨rfl, h9⟩, if_pos h9]
    · rw [if_neg (fun q => h9 q.2), if_neg h9]
  have g6 : ∀ i, qA h3 (o + 6) i = if i = l then nI x2 else qA h (o + 6) i := fun i => by
    rw [← hh3, qA_sI, qA_sA, qA_sAn (by omega), qA_sAn (by omega)]
    by_cases h9 : i = l
    · rw [if_pos ⟨rfl, h9⟩, if_pos h9]
    · rw [if_neg (fun q => h9 q.2), if_neg h9]
  have g1 : qI h3 o 1 = nI (l + 1) := by rw [← hh3]; exact q_sI_e
  have hL3 : qL h3 = qL h := by rw [← hh3, qL_sI, qL_sA, qL_sA, qL_sA]
  have ZM0 : zM K V U e (fun x => x < n) true l 0 (n + l) h3 k3 := ZM.fr (Ih3 _ _ (by omega)) (Ik3 _) (by rw [hL3]) (by rw [L3]) (fun x hx => Ah3 x (by omega) (by omega) (by omega)) (fun x hx => A3 (by omega))
  have ZM1 : zM K V U e (fun x => x < n) true (l + 1) 0 (n + l) h3 k3 := ZM0.wk (fun x q => q) (Nat.le_succ l) (Nat.le_refl _)
  have ZM2 := ZM1.tl (P := P) (kd := 2) (nu := nI l) (ty := -1) (kd' := 1) (nu' := nI l) T N1 (by rw [hL3]; exact hf1) (Or.inr (Or.inl ⟨rfl, rfl, fun _ => ⟨l, Nat.lt_succ_self l, rfl, rfl⟩⟩))
  have K4 : p_K P 0 [68] [642, 645, 646, 647, 679, 680, 681, 682] k (p_tl P U t (n + l) 1 (nI l) (-1) k3) := K3.tl (Nat.zero_le _) (by decide) (by decide) (by decide) (by decide) (by decide)
  have I3 : qI (p_tl P U t (n + l) 1 (nI l) (-1) k3) 630 15 = 0 := by
    unfold p_tl
    rw [L3, f1, hf1, p_dw_0, q_sI_n (by omega), qI_sA, qI_sA, qI_sA, qI_sA, qI_sL]
    exact (Ik3 15).trans O.2
  have i68 : ∀ {i : Nat}, (¬ i = 679 ∧ ¬ i = 680 ∧ ¬ i = 681 ∧ ¬ i = 682) → qA (p_tl P U t (n + l) 1 (nI l) (-1) k3) i = qA k3 i := fun q => p_tl_A q
  generalize hk4 : p_tl P U t (n + l) 1 (nI l) (-1) k3 = k4 at *
  have ZT' := ZT.kp (b := 0) (P := P) (F := [1]) (D := [4, 5, 6]) (J := [68]) (E := [642, 645, 646, 647, 679, 680, 681, 682]) hO hc (G3.tl (m := n + l) (v := V t) (kd := 2) (nu := nI l) (ty := -1)) (K4.sA (y := 642) (i := 20 + r) (v := nI (l + 1)) (by decide)) (by decide) (by decide) (by decide)
  obtain ⟨z1, z2, z3, z4, z5, z6, z7, z8, z9⟩ := ZL
  refine ⟨⟨?_, by rw [qI_sA]; exact I3⟩, ZT', ⟨z1, by omega, ?_, ?_, ?_, ?_, ?_, fun i hi => ?_, fun i hi => ?_⟩, ?_, (zG.tl (G.fr (Ah3 _ (by omega) (by omega) (by omega)))).me e1, ?_⟩
  · rw [g_tl_I (by omega), Ih3 _ _ (by omega)]
    exact O.1
  · rw [g_tl_I (by omega), Ih3 _ _ (by omega)]
    exact z3
  · rw [qA_sAn (by decide), i68 (by decide), A3 (by decide)]
    exact z4
  · rw [g_tl_I (by omega)]
    exact g1
  · rw [qA_sA, if_pos ⟨rfl, rfl⟩]
  · obtain ⟨b, q1, q2, q3⟩ := z7
    refine ⟨b, q1, ?_, ?_⟩
    · rw [g_tl_I (by omega), Ih3 _ _ (by omega)]
      exact q2
    · rw [qA_sAn (by decide), i68 (by decide), A3 (by decide)]
      exact q3
  · rw [g_tl_A (by omega), Ah3 _ (by omega) (by omega) (by omega), qA_sAn (by decide), i68 (by decide), A3 (by decide)]
    exact z8 i hi
  · rw [g_tl_A (by omega), g_tl_A (by omega), g_tl_A (by omega), g4, g5, g6, qA_sAn (by decide), qA_sAn (by decide), qA_sAn (by decide), i68 (by decide), i68 (by decide), i68 (by decide), c5, c6, c7]
    by_cases h9 : i = l
    · rw [if_pos h9, if_pos h9, if_pos h9, if_pos (by omega), if_pos (by omega), if_pos (by omega)]
      exact ⟨so, x1, x2, hso, hx1, hx2, rfl, rfl, rfl, rfl, rfl, rfl⟩
    · rw [if_neg h9, if_neg h9, if_neg h9, if_neg (by omega), if_neg (by omega), if_neg (by omega)]
      exact z9 i (by omega)
  · rw [e1]
    exact ZM2.sAk (by decide)
  · rw [e1]
    exact zLk.tl (Lk.fr (Ah3 _ (by omega) (by omega) (by omega)) (Ah3 _ (by omega) (by omega) (by omega))) ZM0 (by omega)
theorem z_li (T : zTk K P X V U e) (hc : c = 11 ∨ c = 300) (hO : q_isO o) (Z : zS1 K V U e c o (20 + r) nt ns n l h k) (h6 : l < 6) (he : s.1 + 9 ≤ e) (k1 : K (s.1 + 1) = 40) (k3 : K (s.1 + 3) = 40) (k5 : K (s.1 + 5) = 40) (k7 : K (s.1 + 7) = 40) : zS1 K V U e c o (20 + r) nt ns n (l + 1) (g_li V ns o l (n + l) s.1 h) (p_li P U ns r l (n + l) s k) ∨ zB P e (s.1 + 9) (g_li V ns o l (n + l) s.1 h) (p_li P U ns r l (n + l) s k) := by
  obtain ⟨O, ZT, ZL, ZM, G, Lk⟩ := id Z
  have hn := hO.n
  have N1 : zN K e (s.1 + 1) := ⟨by omega, k1⟩
  rcases z_l3 (qq := 6 * (20 + r) + l) (rs := 645) (rf := 646) (rt := 647) T ZT ZM G O he k1 k3 k5 k7 (by decide) with ⟨hf1, j1, so, j2, hf3, hf5, hf7, eg, ep⟩ | Z3
  · left
    have hso := (p_fi_lt hf5).1
    obtain ⟨_, _, _, x1, d1, d2, d3⟩ := ZM.nd hf3
    obtain ⟨_, _, _, x2, d4, d5, d6⟩ := ZM.nd hf7
    have u1 : g_nu (some j1) h = nI x1 := d2
    have u2 : g_nu (some j2) h = nI x2 := d5
    have := zS1.li (P := P) T hc hO Z h6 hso d1 d4 N1 hf1
    unfold g_li p_li
    rw [hf3, hf5, hf7, eg, ep, u1, u2, d3, d6]
    exact this
  · right
    unfold g_li p_li
    refine Z3 _ _ (((g_S.rf.lk).sI (by omega)).tl) ?_
    unfold p_tl
    exact (p_LW.rf.sL.sA.sA.sA.sA.sI (by decide) (by decide)).sA
/-- the first part of a rule -/
theorem z_lf (T : zTk K P X V U e) (hc : c = 11 ∨ c = 300) (hO : q_isO o) : ∀ m n l (s : y_S) h k, zS1 K V U e c o (20 + r) nt ns n l h k → (y_le K 4 6 true m n l s).2 = 0 → (y_le K 4 6 true m n l s).1 ≤ e → (∃ n' l', zS1 K V U e c o (20 + r) nt ns n' l' (g_lf K V nt ns o m n l s h) (p_lf K P U nt ns r m n l s k)) ∨ zB P e (y_le K 4 6 true m n l s).1 (g_lf K V nt ns o m n l s h) (p_lf K P U nt ns r m n l s k) := by
  have ho := hO.n
  intro m
  induction m with
  | zero => intro n l s h k Z _ _; exact Or.inl ⟨n, l, Z⟩
  | succ m ih =>
    intro n l s h k Z hz he
    unfold y_le at hz he ⊢
    unfold g_lf p_lf
    by_cases c6 : y_is K 6 s = true
    · rw [if_pos c6] at hz he
      rw [if_pos c6, if_pos c6, if_pos c6]
      have t1 := y_to.le (K := K) (nr := 4) (lr := 6) (cm := true) m (n + 1) l _ _ (y_to.rf (s := y_no K (decide (n < 4)) s))
      obtain ⟨p1, p2, p3, p4⟩ := y_no_5 (t1.2.1 hz)
      have l1 : s.1 + 5 ≤ (y_le K 4 6 true m (n + 1) l (y_no K (decide (n < 4)) s)).1 := by
        have := t1.1
        rw [p1] at this ⊢
        exact this
      rcases z_no T hc hO Z (of_decide_eq_true p2) (Nat.le_trans l1 he) p3 p4 with Z2 | B
      · exact ih (n + 1) l _ _ _ Z2 hz he
      · refine Or.inr (B.fr T.M (g_S.lf (by omega) _ _ _ _ _ g_S.rf) ?_ l1)
        exact (p_K.lf (J := [68]) (D := [641, 642, 643, 644, 645, 646, 647, 679, 680, 681, 682]) (by decide) (by decide) (by decide) (by decide) (by decide) (by decide) (by decide) (by decide) (by decide) (by decide) (by decide) (by decide) _ _ _ _ _ (by rw [p1]; exact Nat.le_refl _) p_K.rf).2.2.2
    rw [if_neg c6] at hz he
    rw [if_neg c6, if_neg c6, if_neg c6]
    by_cases c7 : y_is K 7 s = true
    · rw [if_pos c7] at hz he
      rw [if_pos c7, if_pos c7, if_pos c7]
      have t1 := y_to.le (K := K) (nr := 4) (lr := 6) (cm := true) m n (l + 1) _ _ (y_to.rf (s := y_li K (decide (l < 6)) s))
      obtain ⟨p1, p2, p3, p4, p5, p6⟩ := y_li_9 (t1.2.1 hz)
      have l1 : s.1 + 9 ≤ (y_le K 4 6 true m n (l + 1) (y_li K (decide (l < 6)) s)).1 := by
        have := t1.1
        rw [p1] at this ⊢
        exact this
      rcases z_li T hc hO Z (of_decide_eq_true p2) (Nat.le_trans l1 he) p3 p4 p5 p6 with Z2 | B
      · exact ih n (l + 1) _ _ _ Z2 hz he
      · refine Or.inr (B.fr T.M (g_S.lf (by omega) _ _ _ _ _ g_S.rf) ?_ l1)
        exact (p_K.lf (J := [68]) (D := [641, 642, 643, 644, 645, 646, 647, 679, 680, 681, 682]) (by decide) (by decide) (by decide) (by decide) (by decide) (by decide) (by decide) (by decide) (by decide) (by decide) (by decide) (by decide) _ _ _ _ _ (by rw [p1]; exact Nat.le_refl _) p_K.rf).2.2.2
    rw [if_neg c7] at hz he
    rw [if_neg c7, if_neg c7, if_neg c7]
    by_cases c8 : y_is K 8 s = true
    · rw [if_pos ⟨rfl, c8⟩] at hz he
      rw [if_pos c8, if_pos c8, if_pos ⟨rfl, c8⟩]
      refine ih n l _ _ _ ?_ hz he
      obtain ⟨O, ZT, ZL, ZM, G, Lk⟩ := Z
      have hne := hO.ne
      obtain ⟨z1, z2, z3, z4, z5, z6, z7, z8, z9⟩ := ZL
      refine ⟨⟨(q_sI_n (by omega)).trans O.1, by rw [qI_sA]; exact O.2⟩, ZT.fr (q_sI_n (by omega)) (q_sI_n (by omega)) (by rw [qI_sA]) (by rw [qI_sA]) (by rw [qL_sI]) (by rw [qL_sI]) (by rw [qL_sA]) (by rw [qL_sA]) (by rw [qA_sI]) (by rw [qA_sI]) (by rw [qA_sI]) (qA_sAn (by decide)) (qA_sAn (by decide)) (qA_sAn (by decide)), ⟨z1, z2, (q_sI_n (by omega)).trans z3, ?_, (q_sI_n (by omega)).trans z5, ?_, ⟨1, by decide, q_sI_e, ?_⟩, fun i hi => ?_, fun i hi => ?_⟩, zM.sAk (ZM.fr (q_sI_n (by omega)) rfl (by rw [qL_sI]) rfl (fun _ _ => by rw [qA_sI]) (fun _ _ => rfl)) (by decide), G.fr (by rw [qA_sI]), Lk.fr (by rw [qA_sI]) (by rw [qA_sI])⟩
      · rw [qA_sAn (by decide)]; exact z4
      · rw [qA_sAn (by decide)]; exact z6
      · rw [qA_sA, if_pos ⟨rfl, rfl⟩]; rfl
      · rw [qA_sAn (by decide)]; exact z8 i hi
      · rw [qA_sAn (by decide), qA_sAn (by decide), qA_sAn (by decide)]; exact z9 i hi
    rw [if_neg (fun h9 => c8 h9.2)] at hz he
    rw [if_neg c8, if_neg c8, if_neg (fun h9 => c8 h9.2)]
    exact Or.inl ⟨n, l, Z⟩
end ZL
