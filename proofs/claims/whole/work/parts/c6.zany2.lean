/-! THE TWO READS: any of some rules, in a row -/
section ZY
variable {K P X : Nat → Nat} {V U : Nat → Int64} {L9 L10 : Nat → Int64} {rF pF : Nat} {e c np D0 d HR HI f g C D E C' D' a : Nat} {v v1 v' : Nat → Nat → Nat} {y : Nat → Nat} {h0 k0 h k h' k' h1 k1 : q_Hp} {s : y_S}
theorem zlk_0 {i : Nat} : zlk V L9 L10 rF pF 0 i = p_fi L9 rF (V i) := if_neg (by decide)
/-- the first of them -/
theorem zAl.b {yy : Nat} (hc : c = 11 ∨ c = 300) (Z : zRW K V L9 L10 rF pF e c np D0 d HR HI f g C D v h k) (hD : D < 2 ^ 27) (hC : C < 2 ^ 27) (N : zN K e a) (hl : zlk V L9 L10 rF pF 0 a = some yy) : zAl K V L9 L10 rF pF e c D (D + 1) (C + 1) d v (fun _ => yy) h k (g_pt c (D + 1) 1 (q_on (some yy)) (g_do c (D + 1) 15 (g_do c D 17 h))) (q_sA (p_nm a (nI (1300 + (D + 1))) (p_nD 0 (p_nD 2 k))) 671 (3 * (1300 + D)) (nI (1300 + (D + 1)))) := by
  obtain ⟨⟨O, l9, l10⟩, ⟨n1, n2, n3, n4⟩, _, _, _, _, Rc⟩ := Z
  have hy : yy < rF := by
    rw [zlk_0] at hl
    exact (p_fi_lt hl).1
  have cr : ∀ i, qA (g_pt c (D + 1) 1 (q_on (some yy)) (g_do c (D + 1) 15 (g_do c D 17 h))) (c + 8) i = if i = 6 * (D + 1) then 15 else if i = 6 * (D + 1) + 1 then nI yy else if 6 * (D + 1) + 1 ≤ i ∧ i < 6 * (D + 1) + 6 then -1 else if i = 6 * D then 17 else if 6 * D + 1 ≤ i ∧ i < 6 * D + 6 then -1 else qA h (c + 8) i := fun i => by
    rw [g_ad_r, g_do_r]
    rfl
  have cI : qI (g_pt c (D + 1) 1 (q_on (some yy)) (g_do c (D + 1) 15 (g_do c D 17 h))) = qI (g_do c (D + 1) 15 (g_do c D 17 h)) := by
    unfold g_pt
    rw [qI_sA]
  have cL : qL (g_pt c (D + 1) 1 (q_on (some yy)) (g_do c (D + 1) 15 (g_do c D 17 h))) = qL h := by
    unfold g_pt g_do
    rw [qL_sA, qL_sA, qL_sA, qL_sA, qL_sA, qL_sA, qL_sA, qL_sI, qL_sA, qL_sA, qL_sA, qL_sA, qL_sA, qL_sA, qL_sI]
  have c5 : qI (g_do c (D + 1) 15 (g_do c D 17 h)) c 5 = nI (D + 1 + 1) := g_do_5
  have c15 : qI (g_do c (D + 1) 15 (g_do c D 17 h)) 589 15 = qI h 589 15 := (g_do_I (by omega)).trans (g_do_I (by omega))
  generalize g_pt c (D + 1) 1 (q_on (some yy)) (g_do c (D + 1) 15 (g_do c D 17 h)) = h2 at *
  obtain ⟨t9, t0, t2, t1⟩ := p_nD_r (w := 2) n2 (by omega)
  have t23 : qI (p_nD 2 k) 630 23 = nI (1300 + (D + 1)) := by
    rw [p_nD_23, n2, nI_1]
    rfl
  have tI : ∀ j, ¬ j = 23 → qI (p_nD 2 k) 630 j = qI k 630 j := fun j hj => p_nD_I hj
  have tA : ∀ z, ¬ z = 669 ∧ ¬ z = 670 ∧ ¬ z = 671 ∧ ¬ z = 672 → qA (p_nD 2 k) z = qA k z := fun z hz => p_nD_A hz
  generalize p_nD 2 k = k4 at *
  obtain ⟨r9, r0, r2, r1⟩ := p_nD_r (w := 0) t23 (by omega)
  have rI : ∀ j, ¬ j = 23 → qI (p_nD 0 k4) 630 j = qI k 630 j := fun j hj => (p_nD_I hj).trans (tI j hj)
  have r23 : qI (p_nD 0 k4) 630 23 = nI (1300 + (D + 1 + 1)) := by
    rw [p_nD_23, t23, nI_1]
    rfl
  have rA : ∀ z, ¬ z = 669 ∧ ¬ z = 670 ∧ ¬ z = 671 ∧ ¬ z = 672 → qA (p_nD 0 k4) z = qA k z := fun z hz => (p_nD_A hz).trans (tA z hz)
  generalize p_nD 0 k4 = k2 at *
  have s9 : ∀ i, qA (q_sA (p_nm a (nI (1300 + (D + 1))) k2) 671 (3 * (1300 + D)) (nI (1300 + (D + 1)))) 669 i = if i = 1300 + (D + 1) then 0 else if i = 1300 + D then 2 else qA k 669 i := fun i => by
    rw [qA_sAn (by decide), p_nm_A (by decide), r9, t9]
  have s0 : ∀ i, qA (q_sA (p_nm a (nI (1300 + (D + 1))) k2) 671 (3 * (1300 + D)) (nI (1300 + (D + 1)))) 670 i = if i = 1300 + (D + 1) then 0 else if i = 1300 + D then 0 else qA k 670 i := fun i => by
    rw [qA_sAn (by decide), p_nm_A (by decide), r0, t0]
  have s2 : ∀ i, qA (q_sA (p_nm a (nI (1300 + (D + 1))) k2) 671 (3 * (1300 + D)) (nI (1300 + (D + 1)))) 672 i = if i = 1300 + (D + 1) then -1 else if i = 1300 + D then -1 else qA k 672 i := fun i => by
    rw [qA_sAn (by decide), p_nm_A (by decide), r2, t2]
  have s1 : ∀ i, qA (q_sA (p_nm a (nI (1300 + (D + 1))) k2) 671 (3 * (1300 + D)) (nI (1300 + (D + 1)))) 671 i = if i = 3 * (1300 + D) then nI (1300 + (D + 1)) else if 3 * (1300 + (D + 1)) ≤ i ∧ i < 3 * (1300 + (D + 1)) + 3 then -1 else if 3 * (1300 + D) ≤ i ∧ i < 3 * (1300 + D) + 3 then -1 else qA k 671 i := fun i => by
    by_cases h9 : i = 3 * (1300 + D)
    · rw [h9, qA_sAe, if_pos rfl]
    · rw [qA_sAp (by omega), if_neg h9, p_nm_A (by decide), r1, t1]
  have sA : ∀ z, z = 673 ∨ z = 686 ∨ z = 687 ∨ z = 688 → qA (q_sA (p_nm a (nI (1300 + (D + 1))) k2) 671 (3 * (1300 + D)) (nI (1300 + (D + 1)))) z = qA k z := fun z hz => by
    rw [qA_sAn (by omega), p_nm_A (by omega), rA z (by omega)]
  have s89 : qA (q_sA (p_nm a (nI (1300 + (D + 1))) k2) 671 (3 * (1300 + D)) (nI (1300 + (D + 1)))) 689 = qA (p_nm a (nI (1300 + (D + 1))) k2) 689 := qA_sAn (by decide)
  have s90 : qA (q_sA (p_nm a (nI (1300 + (D + 1))) k2) 671 (3 * (1300 + D)) (nI (1300 + (D + 1)))) 690 = qA (p_nm a (nI (1300 + (D + 1))) k2) 690 := qA_sAn (by decide)
  have sI : qI (q_sA (p_nm a (nI (1300 + (D + 1))) k2) 671 (3 * (1300 + D)) (nI (1300 + (D + 1)))) = qI (p_nm a (nI (1300 + (D + 1))) k2) := qI_sA _ _ _ _
  generalize q_sA (p_nm a (nI (1300 + (D + 1))) k2) 671 (3 * (1300 + D)) (nI (1300 + (D + 1))) = k3 at *
  have iI : ∀ j, ¬ j = 23 → ¬ j = 84 → qI k3 630 j = qI k 630 j := fun j h1 h2 => by
    rw [sI, p_nm_I h2, rI j h1]
  have vE : ∀ i, zva v D (D + 1) (fun _ => yy) d (D + 1) i = if i = 1 then yy else 0 := fun i => by
    rw [zva_a (by omega) (Nat.le_refl _)]
    by_cases h8 : i = 1
    · rw [if_pos h8, if_pos h8]
    · rw [if_neg h8, if_neg h8, if_neg (show ¬ D + 1 < D + 1 from Nat.lt_irrefl _), ite_self]
  have vD0 : zva v D (D + 1) (fun _ => yy) d D 0 = 2 := by
    rw [zva_D]
    rfl
  refine ⟨⟨⟨by rw [cI, c15]; exact O.1, (iI _ (by decide) (by decide)).trans O.2⟩, by rw [cL]; exact l9, by rw [cL]; exact l10⟩, ⟨by rw [cI]; exact c5, by rw [sI, p_nm_I (by decide)]; exact r23, by rw [sI]; exact p_nm_84 ((rI _ (by decide)).trans n3), by omega⟩, ⟨fun i hi => ?_, ?_, fun i h1 h2 => ?_⟩, ⟨fun z j hz hj => ?_, fun i hi => ?_, fun z hz => sA z hz, fun j hj => iI j (by omega) (by omega)⟩, ⟨?_, ?_, ?_, ?_, ?_⟩, fun j h1 h2 => ?_, ?_⟩
  · rw [cr, if_neg (by omega), if_neg (by omega), if_neg (by omega), if_neg (by omega), if_neg (by omega)]
  · rw [cr, if_neg (by omega), if_neg (by omega), if_neg (by omega), if_pos rfl]
  · rw [cr, if_neg (by omega), if_neg (by omega), if_neg (by omega), if_neg (by omega), if_pos (by omega)]
  · rcases hz with rfl | rfl | rfl
    · rw [s9, if_neg (by omega), if_neg (by omega)]
    · rw [s0, if_neg (by omega), if_neg (by omega)]
    · rw [s2, if_neg (by omega), if_neg (by omega)]
  · rw [s1, if_neg (by omega), if_neg (by omega), if_neg (by omega)]
  · rw [s9, if_neg (by omega), if_pos rfl]
  · rw [s2, if_neg (by omega), if_pos rfl]
  · rw [s1, if_pos rfl]
  · rw [s1, if_neg (by omega), if_neg (by omega), if_pos (by omega)]
  · rw [s1, if_neg (by omega), if_neg (by omega), if_pos (by omega)]
  · have ej : j = D + 1 := by omega
    subst ej
    refine ⟨hy, ⟨?_, fun _ => ?_, fun i h3 h4 => ?_⟩, ?_, fun q => ?_, ?_, fun i hi => ?_⟩
    · rw [vE, cr, if_pos rfl]
      rfl
    · rw [vE, cr, if_neg (by omega), if_pos rfl]
      rfl
    · rw [vE, cr, if_neg (by omega), if_neg (by omega), if_pos (by omega), if_neg (by omega)]
      rfl
    · rw [vE, s9, if_pos rfl]
      rfl
    · rw [vE, if_neg (show ¬ (0 : Nat) = 1 by decide)] at q
      exact absurd q (by decide)
    · rw [vE, s2, if_pos rfl]
      rfl
    · rw [vE, s1, if_neg (by omega), if_pos (by omega), if_neg (by omega)]
      rfl
  · have cl : (qI k2 630 84 : Int32).toNatClampNeg = C := by rw [rI _ (by decide), n3, nI_clamp (by omega)]
    have q9 : ∀ z, qA k3 689 z = if z = C then nI a else qA k 689 z := fun z => by
      rw [s89, ← rA 689 (by decide)]
      unfold p_nm
      rw [cl, qA_sI, qA_sAn (by decide)]
      by_cases h9 : z = C
      · rw [h9, qA_sAe, if_pos rfl]
      · rw [qA_sAp (by omega), if_neg h9]
    have q0 : ∀ z, qA k3 690 z = if z = C then nI (1300 + (D + 1)) else qA k 690 z := fun z => by
      rw [s90, ← rA 690 (by decide)]
      unfold p_nm
      rw [cl, qA_sI]
      by_cases h9 : z = C
      · rw [h9, qA_sAe, if_pos rfl]
      · rw [qA_sAp (by omega), if_neg h9, qA_sAn (by decide)]
    obtain ⟨r1', r2'⟩ := Rc
    refine ⟨fun x hx => ?_, fun j hj q => ?_⟩
    · by_cases h9 : x = C
      · refine ⟨a, D + 1, N, Nat.lt_succ_self _, by rw [q9, if_pos h9], by rw [q0, if_pos h9], ?_, ?_, ?_⟩
        · rw [s9, if_pos rfl, vE]
          rfl
        · rw [vE]
          exact Or.inl rfl
        · rw [vE, vE]
          exact hl
      · obtain ⟨i', j, u1, u2, u3, u4, u5, u6⟩ := r1' x (by omega)
        refine ⟨i', j, u1, by omega, by rw [q9, if_neg h9]; exact u3, by rw [q0, if_neg h9]; exact u4, ?_, ?_⟩
        · rw [s9, if_neg (by omega), if_neg (by omega), zva_o u2]
          exact u5
        · rw [zva_o u2, zva_o u2]
          exact u6
    · by_cases h9 : j = D + 1
      · exact ⟨C, Nat.lt_succ_self C, by rw [q0, if_pos rfl, h9]⟩
      · by_cases h8 : j = D
        · rw [h8, vD0] at q
          omega
        · rw [zva_o (by omega)] at q
          obtain ⟨x, u1, u2⟩ := r2' j (by omega) q
          exact ⟨x, by omega, by rw [q0, if_neg (by omega)]; exact u2⟩
/-- the reference, behind a rule that may be chosen -/
def zpL (K : Nat → Nat) (D m E : Nat) (s : y_S) (k : q_Hp) : q_Hp := if y_is K 28 s = true then p_av K m (nI (1300 + E)) (1300 + D) (y_ps s) k else k
theorem z_av (hc : c = 11 ∨ c = 300) (M : zPm P e) (he12 : e ≤ 1200) : ∀ m E (s : y_S) h k C y, 1200 ≤ m + s.1 → zAl K V L9 L10 rF pF e c D E C d v y h0 k0 h k → E ≤ s.1 → C ≤ s.1 → (y_co K (m + 1) s).2 = 0 → (y_co K (m + 1) s).1 ≤ e → (∃ E' C' y', zAl K V L9 L10 rF pF e c D E' C' d v y' h0 k0 (g_av K V c rF (m + 1) E s h) (zpL K D m E s k) ∧ E' ≤ (y_co K (m + 1) s).1 ∧ C' ≤ (y_co K (m + 1) s).1) ∨ ∃ C' D', zBr K P V L9 L10 rF pF e (y_co K (m + 1) s).1 C' D' (g_av K V c rF (m + 1) E s h) (zpL K D m E s k) := by
  intro m
  induction m using Nat.strongRecOn with
  | ind m ih =>
  intro E s h k C y hm Z hE hC hz he
  have hcn : ¬ c = 589 := by omega
  have un : y_co K (m + 1) s = if y_is K 28 s = true then y_co K m (y_nd K 40 (y_ps s)) else s := rfl
  have ug : g_av K V c rF (m + 1) E s h = if y_is K 28 s = true then g_av K V c rF m (E + 1) (y_nd K 40 (y_ps s)) (g_pt c E 2 (nI (E + 1)) (g_ad V c rF (E + 1) (s.1 + 1) h)) else h := rfl
  unfold zpL
  rw [un] at hz he ⊢
  rw [ug]
  by_cases c28 : y_is K 28 s = true
  rotate_left 1
  · rw [if_neg c28, if_neg c28, if_neg c28]
    exact Or.inl ⟨E, C, y, Z, hE, hC⟩
  rw [if_pos c28] at hz he
  rw [if_pos c28, if_pos c28, if_pos c28]
  have tc := y_to.co (K := K) m _ _ (y_to.rf (s := y_nd K 40 (y_ps s)))
  have z1 := tc.2.1 hz
  have z2 := y_nd_z z1
  have es : s = (s.1, 0) := Prod.ext rfl (y_is_c.mp c28).1
  obtain ⟨_, p1⟩ := y_ps_0 z2
  obtain ⟨k40, p2⟩ := y_nd_p p1 z1
  rw [p2] at hz he tc ⊢
  rw [p1] at p2 ⊢
  have l2 : s.1 + 1 + 1 ≤ (y_co K m (s.1 + 1 + 1, 0)).1 := tc.1
  obtain ⟨m', rfl⟩ : ∃ m', m = m' + 1 := ⟨m - 1, by omega⟩
  have N1 : zN K e (s.1 + 1) := ⟨by omega, k40⟩
  obtain ⟨⟨O, l9, l10⟩, ⟨n1, n2, n3, n4⟩, _, _, _, _, Rc⟩ := id Z
  have up : p_av K (m' + 1) (nI (1300 + E)) (1300 + D) (s.1 + 1, 0) k = zpL K D m' (E + 1) (s.1 + 1 + 1, 0) (p_a1 (nI (1300 + E)) (1300 + D) (s.1 + 1) k) := by
    unfold p_av zpL
    rw [p2, n2]
  have ua : p_a1 (nI (1300 + E)) (1300 + D) (s.1 + 1) k = q_sA (p_nm (s.1 + 1) (nI (1300 + (E + 1))) (p_nD 0 k)) 672 (1300 + E) (nI (1300 + (E + 1))) := by
    unfold p_a1
    rw [if_neg (q_on_ne (j := 1300 + E) (by omega)), n2, nI_clamp (by omega)]
  have el : g_tr V rF (s.1 + 1) h = zlk V L9 L10 rF pF 0 (s.1 + 1) := by
    rw [zlk_0]
    unfold g_tr
    rw [l9]
  rw [up, ua]
  unfold g_ad
  rw [el]
  cases hl : zlk V L9 L10 rF pF 0 (s.1 + 1) with
  | some yy =>
    rw [g_fw_s]
    exact ih m' (Nat.lt_succ_self m') (E + 1) (s.1 + 1 + 1, 0) _ _ (C + 1) _ (by show 1200 ≤ m' + (s.1 + 1 + 1); omega) (Z.ad hc (by omega) (by omega) N1 hl) (by show E + 1 ≤ s.1 + 1 + 1; omega) (by show C + 1 ≤ s.1 + 1 + 1; omega) hz he
  | none =>
    right
    rw [g_fw_0]
    obtain ⟨f1, f2⟩ := g_fa_0 (n := 4) (i := s.1 + 1) (h := g_do c (E + 1) 15 h) ((g_do_I (by omega)).trans O.1)
    have hI : qI (g_pt c E 2 (nI (E + 1)) (g_pt c (E + 1) 1 (q_on none) (g_fa 4 (s.1 + 1) (g_do c (E + 1) 15 h)))) = qI (g_fa 4 (s.1 + 1) (g_do c (E + 1) 15 h)) := by
      unfold g_pt
      rw [qI_sA, qI_sA]
    have B : zBr K P V L9 L10 rF pF e (s.1 + 1 + 1) (C + 1) (E + 1 + 1) (g_pt c E 2 (nI (E + 1)) (g_pt c (E + 1) 1 (q_on none) (g_fa 4 (s.1 + 1) (g_do c (E + 1) 15 h)))) (q_sA (p_nm (s.1 + 1) (nI (1300 + (E + 1))) (p_nD 0 k)) 672 (1300 + E) (nI (1300 + (E + 1)))) := zBr.nm (k := k) (kd := 0) Rc.ok (by omega) (by omega) n3 n2 N1 hl O.2 (by rw [hI]; exact f1) (by rw [hI]; exact f2) (Nat.lt_succ_self _) (by omega) (by omega) (qI_sA _ _ _ _) (fun z hz => qA_sAn (by omega))
    generalize g_pt c E 2 (nI (E + 1)) (g_pt c (E + 1) 1 (q_on none) (g_fa 4 (s.1 + 1) (g_do c (E + 1) 15 h))) = h2 at *
    generalize q_sA (p_nm (s.1 + 1) (nI (1300 + (E + 1))) (p_nD 0 k)) 672 (1300 + E) (nI (1300 + (E + 1))) = k2 at *
    have S2 : g_S h2 (g_av K V c rF (m' + 1) (E + 1) (s.1 + 1 + 1, 0) h2) := g_S.av hcn _ _ _ _ g_S.rf
    unfold zpL
    have R0 : zRf K P e (s.1 + 1 + 1) (C + 1) (E + 1 + 1) k2 (C + 1) (E + 1 + 1) k2 := zRf.rf B.1.1 B.1.2.1
    by_cases d28 : y_is K 28 (s.1 + 1 + 1, 0) = true
    · rw [if_pos d28]
      have un2 : y_co K (m' + 1) (s.1 + 1 + 1, 0) = y_co K m' (y_nd K 40 (y_ps (s.1 + 1 + 1, 0))) := if_pos d28
      rw [un2] at hz he ⊢
      have tc2 := y_to.co (K := K) m' _ _ (y_to.rf (s := y_nd K 40 (y_ps (s.1 + 1 + 1, 0))))
      obtain ⟨_, p3⟩ := y_ps_0 (y_nd_z (tc2.2.1 hz))
      rw [p3] at hz he tc2 ⊢
      have t3 := (y_to.rf (s := (s.1 + 1 + 1 + 1, 0))).nd (K := K) (k := 40)
      have t4 : s.1 + 1 + 1 + 1 ≤ _ := Nat.le_trans t3.1 tc2.1
      obtain ⟨C2, D2, R2, d2, c2⟩ := zRf.av he12 m' (nI (1300 + (E + 1))) (1300 + D) (s.1 + 1 + 1 + 1, 0) _ _ _ R0 (by show s.1 + 1 + 1 ≤ s.1 + 1 + 1 + 1; omega) (by show E + 1 + 1 ≤ s.1 + 1 + 1 + 1; omega) (by show C + 1 ≤ s.1 + 1 + 1 + 1; omega) hz he
      exact ⟨C2, D2, B.fr M S2 R2 (by show s.1 + 1 + 1 ≤ _; omega) c2 d2⟩
    · rw [if_neg d28]
      exact ⟨C + 1, E + 1 + 1, B.fr M S2 R0 l2 (Nat.le_trans (by omega) l2) (Nat.le_trans (by omega) l2)⟩
end ZY
