/-! THE TWO READS: any of some rules -/
/-- what is known of it: y tells the rules -/
def zva (v : Nat → Nat → Nat) (D E : Nat) (y : Nat → Nat) (d : Nat) : Nat → Nat → Nat := fun j i => if j = D then (if i = 0 then 2 else if i = 3 then D + 2 else if i = 6 then d else if i = 7 then E - D else 0) else if D < j ∧ j ≤ E then (if i = 1 then y j else if i = 2 then (if j < E then j + 2 else 0) else 0) else v j i
/-- in the midst of it: E is the last rule so far -/
def zAl (K : Nat → Nat) (V : Nat → Int64) (L9 L10 : Nat → Int64) (rF pF e c D E C d : Nat) (v : Nat → Nat → Nat) (y : Nat → Nat) (h0 k0 h k : q_Hp) : Prop := (zO h k ∧ qL h 9 = L9 ∧ qL h 10 = L10) ∧ (qI h c 5 = nI (E + 1) ∧ qI k 630 23 = nI (1300 + (E + 1)) ∧ qI k 630 84 = nI C ∧ D < E) ∧ ((∀ i, i < 6 * D → qA h (c + 8) i = qA h0 (c + 8) i) ∧ qA h (c + 8) (6 * D) = 17 ∧ ∀ i, 1 ≤ i → i < 6 → qA h (c + 8) (6 * D + i) = -1) ∧ ((∀ z j, (z = 669 ∨ z = 670 ∨ z = 672) → j < D → qA k z (1300 + j) = qA k0 z (1300 + j)) ∧ (∀ i, i < 3 * (1300 + D) → qA k 671 i = qA k0 671 i) ∧ (∀ z, z = 673 ∨ z = 686 ∨ z = 687 ∨ z = 688 → qA k z = qA k0 z) ∧ ∀ j, j = 80 ∨ j = 21 → qI k 630 j = qI k0 630 j) ∧ (qA k 669 (1300 + D) = 2 ∧ qA k 672 (1300 + D) = -1 ∧ qA k 671 (3 * (1300 + D)) = nI (1300 + (D + 1)) ∧ qA k 671 (3 * (1300 + D) + 1) = -1 ∧ qA k 671 (3 * (1300 + D) + 2) = -1) ∧ (∀ j, D < j → j ≤ E → y j < rF ∧ zdo c h k (zva v D E y d) j) ∧ zRc K V L9 L10 rF pF e C (E + 1) (zva v D E y d) k
section ZY
variable {K P X : Nat → Nat} {V U : Nat → Int64} {L9 L10 : Nat → Int64} {rF pF : Nat} {e c np D0 d HR HI f g C D E C' D' a : Nat} {v v1 v' : Nat → Nat → Nat} {y : Nat → Nat} {h0 k0 h k h' k' h1 k1 : q_Hp} {s : y_S}
theorem zva_D {i : Nat} : zva v D E y d D i = if i = 0 then 2 else if i = 3 then D + 2 else if i = 6 then d else if i = 7 then E - D else 0 := if_pos rfl
theorem zva_a {i j : Nat} (h1 : D < j) (h2 : j ≤ E) : zva v D E y d j i = if i = 1 then y j else if i = 2 then (if j < E then j + 2 else 0) else 0 := by
  unfold zva
  rw [if_neg (by omega), if_pos ⟨h1, h2⟩]
theorem zva_o {i j : Nat} (h1 : j < D) : zva v D E y d j i = v j i := by
  unfold zva
  rw [if_neg (by omega), if_neg (by omega)]
/-- a rule's name that is found or not, as one of those that may be chosen -/
theorem g_ad_r {o : Option Nat} (i : Nat) : qA (g_pt c D 1 (q_on o) (g_do c D 15 h)) (c + 8) i = if i = 6 * D then 15 else if i = 6 * D + 1 then q_on o else if 6 * D + 1 ≤ i ∧ i < 6 * D + 6 then -1 else qA h (c + 8) i := by
  unfold g_pt
  by_cases h9 : i = 6 * D + 1
  · rw [h9, qA_sAe, if_neg (by omega), if_pos rfl]
  · rw [qA_sAp (by omega), g_do_r]
    by_cases h8 : i = 6 * D
    · rw [if_pos h8, if_pos h8]
    · rw [if_neg h8, if_neg h8, if_neg (show ¬ i = 6 * D + 1 from h9)]
/-- the unknown name -/
theorem zBr.nm {i : Nat} {k2 : q_Hp} (R : ∀ x, x < C → ∃ i' j, zN K e i' ∧ j < D ∧ qA k 689 x = nI i' ∧ qA k 690 x = nI (1300 + j) ∧ ∃ y, zlk V L9 L10 rF pF (qA k 669 (1300 + j)) i' = some y) (hC : C < 2 ^ 28) (hD : D < 2 ^ 28) (h84 : qI k 630 84 = nI C) (h23 : qI k 630 23 = nI (1300 + D)) (N : zN K e i) {kd : Nat} (hl : zlk V L9 L10 rF pF (nI kd) i = none) (O : qI k 630 15 = 0) (h15 : qI h 589 15 = nI 4) (h16 : qI h 589 16 = nI i) (hb : i < a) (hCa : C + 1 ≤ a) (hDa : D + 1 ≤ a) (e1 : qI k2 = qI (p_nm i (nI (1300 + D)) (p_nD (nI kd) k))) (e2 : ∀ z, z = 669 ∨ z = 689 ∨ z = 690 → qA k2 z = qA (p_nm i (nI (1300 + D)) (p_nD (nI kd) k)) z) : zBr K P V L9 L10 rF pF e a (C + 1) (D + 1) h k2 := by
  obtain ⟨r9, _⟩ := p_nD_r (w := nI kd) h23 hD
  have h84' : qI (p_nD (nI kd) k) 630 84 = nI C := (p_nD_I (by decide)).trans h84
  have cl : (qI (p_nD (nI kd) k) 630 84 : Int32).toNatClampNeg = C := by rw [h84', nI_clamp (by omega)]
  have q9 : ∀ z, qA k2 689 z = if z = C then nI i else qA k 689 z := fun z => by
    rw [e2 689 (by omega), ← p_nD_A (k0 := k) (w := nI kd) (show ¬ 689 = 669 ∧ ¬ 689 = 670 ∧ ¬ 689 = 671 ∧ ¬ 689 = 672 by decide)]
    unfold p_nm
    rw [cl, qA_sI, qA_sAn (by decide)]
    by_cases h9 : z = C
    · rw [h9, qA_sAe, if_pos rfl]
    · rw [qA_sAp (by omega), if_neg h9]
  have q0 : ∀ z, qA k2 690 z = if z = C then nI (1300 + D) else qA k 690 z := fun z => by
    rw [e2 690 (by omega), ← p_nD_A (k0 := k) (w := nI kd) (show ¬ 690 = 669 ∧ ¬ 690 = 670 ∧ ¬ 690 = 671 ∧ ¬ 690 = 672 by decide)]
    unfold p_nm
    rw [cl, qA_sI]
    by_cases h9 : z = C
    · rw [h9, qA_sAe, if_pos rfl]
    · rw [qA_sAp (by omega), if_neg h9, qA_sAn (by decide)]
  have q6 : ∀ z, qA k2 669 z = if z = 1300 + D then nI kd else qA k 669 z := fun z => by
    rw [e2 669 (by omega), p_nm_A (by decide), r9]
  refine ⟨⟨by rw [e1]; exact p_nm_84 h84', ?_, hCa, hDa⟩, 4, i, ⟨by decide, by decide, hb, N.1, h15, h16⟩, fun z hz => ?_, Or.inr ⟨rfl, Or.inl ?_, C, D, Nat.lt_succ_self C, Nat.lt_succ_self D, by rw [q9, if_pos rfl], by rw [q0, if_pos rfl], by rw [q6, if_pos rfl]; exact hl⟩⟩
  · rw [e1, p_nm_I (by decide), p_nD_23, h23, nI_1]
    rfl
  · by_cases h9 : z = C
    · exact ⟨i, D, N, Nat.lt_succ_self D, by rw [q9, if_pos h9], by rw [q0, if_pos h9], fun _ => Or.inr ⟨rfl, rfl⟩⟩
    · obtain ⟨i', j, u1, u2, u3, u4, y, u5⟩ := R z (by omega)
      exact ⟨i', j, u1, by omega, by rw [q9, if_neg h9]; exact u3, by rw [q0, if_neg h9]; exact u4, fun q => by rw [q6, if_neg (by omega), u5] at q; cases q⟩
  · rw [e1, p_nm_I (by decide), p_nD_I (by decide)]
    exact O
/-- one rule more -/
theorem zAl.ad {yy : Nat} (hc : c = 11 ∨ c = 300) (Z : zAl K V L9 L10 rF pF e c D E C d v y h0 k0 h k) (hE : E < 2 ^ 27) (hC : C < 2 ^ 27) (N : zN K e a) (hl : zlk V L9 L10 rF pF 0 a = some yy) : zAl K V L9 L10 rF pF e c D (E + 1) (C + 1) d v (fun j => if j = E + 1 then yy else y j) h0 k0 (g_pt c E 2 (nI (E + 1)) (g_pt c (E + 1) 1 (q_on (some yy)) (g_do c (E + 1) 15 h))) (q_sA (p_nm a (nI (1300 + (E + 1))) (p_nD 0 k)) 672 (1300 + E) (nI (1300 + (E + 1)))) := by
  obtain ⟨⟨O, l9, l10⟩, ⟨n1, n2, n3, n4⟩, ⟨a1, a2, a3⟩, ⟨b1, b2, b3, b4⟩, ⟨d1, d2, d3, d4, d5⟩, dos, Rc⟩ := Z
  have hy : yy < rF := by
    unfold zlk at hl
    rw [if_neg (by decide)] at hl
    exact (p_fi_lt hl).1
  -- the class
  have cr : ∀ i, qA (g_pt c E 2 (nI (E + 1)) (g_pt c (E + 1) 1 (q_on (some yy)) (g_do c (E + 1) 15 h))) (c + 8) i = if i = 6 * E + 2 then nI (E + 1) else if i = 6 * (E + 1) then 15 else if i = 6 * (E + 1) + 1 then nI yy else if 6 * (E + 1) + 1 ≤ i ∧ i < 6 * (E + 1) + 6 then -1 else qA h (c + 8) i := fun i => by
    have eg := fun i => g_ad_r (c := c) (D := E + 1) (h := h) (o := some yy) i
    generalize g_pt c (E + 1) 1 (q_on (some yy)) (g_do c (E + 1) 15 h) = h2 at eg ⊢
    unfold g_pt
    by_cases h9 : i = 6 * E + 2
    · rw [h9, qA_sAe, if_pos rfl]
    · rw [qA_sAp (by omega), if_neg h9, eg]
      rfl
  have cI : qI (g_pt c E 2 (nI (E + 1)) (g_pt c (E + 1) 1 (q_on (some yy)) (g_do c (E + 1) 15 h))) = qI (g_do c (E + 1) 15 h) := by
    unfold g_pt
    rw [qI_sA, qI_sA]
  have cL : qL (g_pt c E 2 (nI (E + 1)) (g_pt c (E + 1) 1 (q_on (some yy)) (g_do c (E + 1) 15 h))) = qL h := by
    unfold g_pt g_do
    rw [qL_sA, qL_sA, qL_sA, qL_sA, qL_sA, qL_sA, qL_sA, qL_sA, qL_sI]
  have c5 : qI (g_do c (E + 1) 15 h) c 5 = nI (E + 1 + 1) := g_do_5
  have c15 : qI (g_do c (E + 1) 15 h) 589 15 = qI h 589 15 := g_do_I (by omega)
  generalize g_pt c E 2 (nI (E + 1)) (g_pt c (E + 1) 1 (q_on (some yy)) (g_do c (E + 1) 15 h)) = h2 at *
  -- the reference
  obtain ⟨r9, r0, r2, r1⟩ := p_nD_r (w := 0) n2 (by omega)
  have rI : ∀ j, ¬ j = 23 → qI (p_nD 0 k) 630 j = qI k 630 j := fun j hj => p_nD_I hj
  have r23 : qI (p_nD 0 k) 630 23 = nI (1300 + (E + 1 + 1)) := by
    rw [p_nD_23, n2, nI_1]
    rfl
  have rA : ∀ z, ¬ z = 669 ∧ ¬ z = 670 ∧ ¬ z = 671 ∧ ¬ z = 672 → qA (p_nD 0 k) z = qA k z := fun z hz => p_nD_A hz
  generalize p_nD 0 k = k2 at *
  have s9 : ∀ i, qA (q_sA (p_nm a (nI (1300 + (E + 1))) k2) 672 (1300 + E) (nI (1300 + (E + 1)))) 669 i = if i = 1300 + (E + 1) then 0 else qA k 669 i := fun i => by
    rw [qA_sAn (by decide), p_nm_A (by decide), r9]
  have s0 : ∀ i, qA (q_sA (p_nm a (nI (1300 + (E + 1))) k2) 672 (1300 + E) (nI (1300 + (E + 1)))) 670 i = if i = 1300 + (E + 1) then 0 else qA k 670 i := fun i => by
    rw [qA_sAn (by decide), p_nm_A (by decide), r0]
  have s2 : ∀ i, qA (q_sA (p_nm a (nI (1300 + (E + 1))) k2) 672 (1300 + E) (nI (1300 + (E + 1)))) 672 i = if i = 1300 + E then nI (1300 + (E + 1)) else if i = 1300 + (E + 1) then -1 else qA k 672 i := fun i => by
    by_cases h9 : i = 1300 + E
    · rw [h9, qA_sAe, if_pos rfl]
    · rw [qA_sAp (by omega), if_neg h9, p_nm_A (by decide), r2]
  have s1 : ∀ i, qA (q_sA (p_nm a (nI (1300 + (E + 1))) k2) 672 (1300 + E) (nI (1300 + (E + 1)))) 671 i = if 3 * (1300 + (E + 1)) ≤ i ∧ i < 3 * (1300 + (E + 1)) + 3 then -1 else qA k 671 i := fun i => by
    rw [qA_sAn (by decide), p_nm_A (by decide), r1]
  have sA : ∀ z, z = 673 ∨ z = 686 ∨ z = 687 ∨ z = 688 → qA (q_sA (p_nm a (nI (1300 + (E + 1))) k2) 672 (1300 + E) (nI (1300 + (E + 1)))) z = qA k z := fun z hz => by
    rw [qA_sAn (by omega), p_nm_A (by omega), rA z (by omega)]
  have s89 : qA (q_sA (p_nm a (nI (1300 + (E + 1))) k2) 672 (1300 + E) (nI (1300 + (E + 1)))) 689 = qA (p_nm a (nI (1300 + (E + 1))) k2) 689 := qA_sAn (by decide)
  have s90 : qA (q_sA (p_nm a (nI (1300 + (E + 1))) k2) 672 (1300 + E) (nI (1300 + (E + 1)))) 690 = qA (p_nm a (nI (1300 + (E + 1))) k2) 690 := qA_sAn (by decide)
  have sI : qI (q_sA (p_nm a (nI (1300 + (E + 1))) k2) 672 (1300 + E) (nI (1300 + (E + 1)))) = qI (p_nm a (nI (1300 + (E + 1))) k2) := qI_sA _ _ _ _
  generalize q_sA (p_nm a (nI (1300 + (E + 1))) k2) 672 (1300 + E) (nI (1300 + (E + 1))) = k3 at *
  have iI : ∀ j, ¬ j = 23 → ¬ j = 84 → qI k3 630 j = qI k 630 j := fun j h1 h2 => by
    rw [sI, p_nm_I h2, rI j h1]
  have na : ∀ j i, D < j → j ≤ E → ¬ (j = E ∧ i = 2) → zva v D (E + 1) (fun j => if j = E + 1 then yy else y j) d j i = zva v D E y d j i := fun j i h1 h2 h3 => by
    rw [zva_a h1 (by omega), zva_a h1 h2]
    show (if i = 1 then (if j = E + 1 then yy else y j) else _) = _
    rw [if_neg (show ¬ j = E + 1 by omega)]
    by_cases h8 : i = 1
    · rw [if_pos h8, if_pos h8]
    · rw [if_neg h8, if_neg h8]
      by_cases h7 : i = 2
      · rw [if_pos h7, if_pos h7, if_pos (by omega), if_pos (by omega)]
      · rw [if_neg h7, if_neg h7]
  have n0 : ∀ j i, j < E + 1 → (i = 0 ∨ i = 1) → zva v D (E + 1) (fun j => if j = E + 1 then yy else y j) d j i = zva v D E y d j i := fun j i h1 h2 => by
    by_cases h9 : D < j
    · exact na j i h9 (by omega) (by omega)
    · by_cases h8 : j = D
      · subst h8
        rw [zva_D, zva_D]
        rcases h2 with rfl | rfl <;> rfl
      · rw [zva_o (by omega), zva_o (by omega)]
  refine ⟨⟨⟨by rw [cI, c15]; exact O.1, (iI _ (by decide) (by decide)).trans O.2⟩, by rw [cL]; exact l9, by rw [cL]; exact l10⟩, ⟨by rw [cI]; exact c5, by rw [sI, p_nm_I (by decide)]; exact r23, by rw [sI]; exact p_nm_84 ((rI _ (by decide)).trans n3), by omega⟩, ⟨fun i hi => ?_, ?_, fun i h1 h2 => ?_⟩, ⟨fun z j hz hj => ?_, fun i hi => ?_, fun z hz => (sA z hz).trans (b3 z hz), fun j hj => (iI j (by omega) (by omega)).trans (b4 j hj)⟩, ⟨?_, ?_, ?_, ?_, ?_⟩, fun j h1 h2 => ?_, ?_⟩
  · rw [cr, if_neg (by omega), if_neg (by omega), if_neg (by omega), if_neg (by omega)]
    exact a1 i hi
  · rw [cr, if_neg (by omega), if_neg (by omega), if_neg (by omega), if_neg (by omega)]
    exact a2
  · rw [cr, if_neg (by omega), if_neg (by omega), if_neg (by omega), if_neg (by omega)]
    exact a3 i h1 h2
  · rcases hz with rfl | rfl | rfl
    · rw [s9, if_neg (by omega)]; exact b1 _ j (by omega) hj
    · rw [s0, if_neg (by omega)]; exact b1 _ j (by omega) hj
    · rw [s2, if_neg (by omega), if_neg (by omega)]; exact b1 _ j (by omega) hj
  · rw [s1, if_neg (by omega)]; exact b2 i hi
  · rw [s9, if_neg (by omega)]; exact d1
  · rw [s2, if_neg (by omega), if_neg (by omega)]; exact d2
  · rw [s1, if_neg (by omega)]; exact d3
  · rw [s1, if_neg (by omega)]; exact d4
  · rw [s1, if_neg (by omega)]; exact d5
  · by_cases h9 : j = E + 1
    · subst h9
      have v0 : ∀ i, zva v D (E + 1) (fun j => if j = E + 1 then yy else y j) d (E + 1) i = if i = 1 then yy else 0 := fun i => by
        rw [zva_a h1 h2]
        show (if i = 1 then (if E + 1 = E + 1 then yy else y (E + 1)) else _) = _
        rw [if_pos rfl]
        by_cases h8 : i = 1
        · rw [if_pos h8, if_pos h8]
        · rw [if_neg h8, if_neg h8, if_neg (show ¬ E + 1 < E + 1 from Nat.lt_irrefl _), ite_self]
      refine ⟨?_, ⟨?_, fun _ => ?_, fun i h3 h4 => ?_⟩, ?_, fun q => ?_, ?_, fun i hi => ?_⟩
      · show (if E + 1 = E + 1 then yy else _) < rF
        rw [if_pos rfl]
        exact hy
      · rw [v0, cr, if_neg (by omega), if_pos rfl]
        rfl
      · rw [v0, cr, if_neg (by omega), if_neg (by omega), if_pos rfl]
        rfl
      · rw [v0, cr, if_neg (by omega), if_neg (by omega), if_neg (by omega), if_pos (by omega), if_neg (by omega)]
        rfl
      · rw [v0, s9, if_pos rfl]
        rfl
      · rw [v0, if_neg (show ¬ (0 : Nat) = 1 by decide)] at q
        exact absurd q (by decide)
      · rw [v0, s2, if_neg (by omega), if_pos rfl]
        rfl
      · rw [v0, s1, if_pos (by omega), if_neg (by omega)]
        rfl
    · obtain ⟨z0, ⟨z1, z2, z3⟩, z4, z5, z6, z7⟩ := dos j h1 (by omega)
      have hj : j ≤ E := by omega
      refine ⟨?_, ⟨?_, fun q => ?_, fun i h3 h4 => ?_⟩, ?_, fun q => ?_, ?_, fun i hi => ?_⟩
      · show (if j = E + 1 then yy else y j) < rF
        rw [if_neg h9]
        exact z0
      · rw [cr, if_neg (by omega), if_neg (by omega), if_neg (by omega), if_neg (by omega), na j 0 h1 hj (by omega)]
        exact z1
      · rw [na j 0 h1 hj (by omega)] at q
        rw [cr, if_neg (by omega), if_neg (by omega), if_neg (by omega), if_neg (by omega), na j 1 h1 hj (by omega)]
        exact z2 q
      · by_cases h8 : j = E ∧ i = 2
        · obtain ⟨rfl, rfl⟩ := h8
          rw [cr, if_pos rfl, zva_a h1 (by omega), if_neg (by decide), if_pos rfl, if_pos (by omega)]
          exact (oN_s _).symm
        · rw [cr, if_neg (by omega), if_neg (by omega), if_neg (by omega), if_neg (by omega), na j i h1 hj h8]
          exact z3 i h3 h4
      · rw [s9, if_neg (by omega), na j 0 h1 hj (by omega)]
        exact z4
      · rw [na j 0 h1 hj (by omega)] at q
        rw [s0, if_neg (by omega), na j 1 h1 hj (by omega)]
        exact z5 q
      · by_cases h8 : j = E
        · subst h8
          rw [s2, if_pos rfl, zva_a h1 (by omega), if_neg (by decide), if_pos rfl, if_pos (by omega)]
          exact (oU_s).symm
        · rw [s2, if_neg (by omega), if_neg (by omega), na j 2 h1 hj (by omega)]
          exact z6
      · rw [s1, if_neg (by omega), na j (3 + i) h1 hj (by omega)]
        exact z7 i hi
  · have cl : (qI k2 630 84 : Int32).toNatClampNeg = C := by rw [rI _ (by decide), n3, nI_clamp (by omega)]
    have q9 : ∀ z, qA k3 689 z = if z = C then nI a else qA k 689 z := fun z => by
      rw [s89, ← rA 689 (by decide)]
      unfold p_nm
      rw [cl, qA_sI, qA_sAn (by decide)]
      by_cases h9 : z = C
      · rw [h9, qA_sAe, if_pos rfl]
      · rw [qA_sAp (by omega), if_neg h9]
    have q0 : ∀ z, qA k3 690 z = if z = C then nI (1300 + (E + 1)) else qA k 690 z := fun z => by
      rw [s90, ← rA 690 (by decide)]
      unfold p_nm
      rw [cl, qA_sI]
      by_cases h9 : z = C
      · rw [h9, qA_sAe, if_pos rfl]
      · rw [qA_sAp (by omega), if_neg h9, qA_sAn (by decide)]
    have vE : ∀ i, i = 0 ∨ i = 1 → zva v D (E + 1) (fun j => if j = E + 1 then yy else y j) d (E + 1) i = if i = 1 then yy else 0 := fun i hi => by
      rw [zva_a (by omega) (Nat.le_refl _)]
      show (if i = 1 then (if E + 1 = E + 1 then yy else y (E + 1)) else _) = _
      rw [if_pos rfl]
      rcases hi with rfl | rfl <;> rfl
    obtain ⟨r1', r2'⟩ := Rc
    refine ⟨fun x hx => ?_, fun j hj q => ?_⟩
    · by_cases h9 : x = C
      · refine ⟨a, E + 1, N, Nat.lt_succ_self _, by rw [q9, if_pos h9], by rw [q0, if_pos h9], ?_, ?_, ?_⟩
        · rw [s9, if_pos rfl, vE 0 (by omega)]
          rfl
        · rw [vE 0 (by omega)]
          exact Or.inl rfl
        · rw [vE 0 (by omega), vE 1 (by omega)]
          exact hl
      · obtain ⟨i', j, u1, u2, u3, u4, u5, u6⟩ := r1' x (by omega)
        refine ⟨i', j, u1, by omega, by rw [q9, if_neg h9]; exact u3, by rw [q0, if_neg h9]; exact u4, ?_, ?_⟩
        · rw [s9, if_neg (by omega), n0 j 0 u2 (by omega)]
          exact u5
        · rw [n0 j 0 u2 (by omega), n0 j 1 u2 (by omega)]
          exact u6
    · by_cases h9 : j = E + 1
      · exact ⟨C, Nat.lt_succ_self C, by rw [q0, if_pos rfl, h9]⟩
      · rw [n0 j 0 (by omega) (by omega)] at q
        obtain ⟨x, u1, u2⟩ := r2' j (by omega) q
        exact ⟨x, by omega, by rw [q0, if_neg (by omega)]; exact u2⟩
end ZY
