/-! THE TWO READS: any of some rules, done -/
section ZY
variable {K P X : Nat → Nat} {V U : Nat → Int64} {L9 L10 : Nat → Int64} {rF pF : Nat} {e c np D0 d HR HI f g C D E C' D' a : Nat} {v v1 v' : Nat → Nat → Nat} {y : Nat → Nat} {h0 k0 h k h' k' h1 k1 : q_Hp} {s : y_S}
theorem zRW.an {x : Int32} (Z : zRW K V L9 L10 rF pF e c np D0 d HR HI f g C D v h0 k0) (A : zAl K V L9 L10 rF pF e c D E C' d v y h0 k0 h k) (hE : E < 2 ^ 27) (hd : d ≤ 8) (hnp : np < 10) : ∃ v', zRW K V L9 L10 rF pF e c np D0 d HR HI (if g = 0 then D + 1 else f) (D + 1) C' (E + 1) v' (g_ln c D (x, oN g) (g_pt c D 3 (nI (D + 1)) h)) (p_co (nI (1300 + D)) k) ∧ zFr c D0 d HR HI h0 k0 (g_ln c D (x, oN g) (g_pt c D 3 (nI (D + 1)) h)) (p_co (nI (1300 + D)) k) ∧ ∀ j, j < D0 → ∀ i, v' j i = v j i := by
  obtain ⟨gD, hD0⟩ := Z.bd
  obtain ⟨_, ⟨m1, m2, m3, m4⟩, ⟨s1, s2, s3, s4⟩, Hd, _, _, _⟩ := id Z
  obtain ⟨⟨O, l9, l10⟩, ⟨n1, n2, n3, n4⟩, ⟨a1, a2, a3⟩, ⟨b1, b2, b3, b4⟩, ⟨d1, d2, d3, d4, d5⟩, dos, Rc⟩ := A
  have Hd2 : zHd d np D0 HR HI k := by
    rcases Hd with q | ⟨q1, q2, A, b, q3, q4, q5, q6, q7⟩
    · exact Or.inl q
    · exact Or.inr ⟨q1, q2, A, b, q3, q4, q5, by rw [b3 686 (by omega)]; exact q6, by rw [b3 687 (by omega)]; exact q7⟩
  have hHI : HR = 671 → HI < 3 * (1300 + D0) := by
    intro h7
    rcases Hd with ⟨_, q, _⟩ | ⟨_, _, A, b, q1, q2, q3, _⟩
    · omega
    · omega
  have hHR : HR = 671 ∨ HR = 673 := by
    rcases Hd with ⟨_, q, _⟩ | ⟨_, q, _⟩
    · exact Or.inr q
    · exact Or.inl q
  obtain ⟨eI, eL, eA, e2, e1, e3, e8⟩ := p_co_r (x := nI (1300 + D)) ((b4 80 (by omega)).trans s1) ((b4 21 (by omega)).trans s2) (by rw [b3 688 (by omega)]; exact s3) (by omega) (by omega) (by omega) Hd2 (by omega)
  have gI : qI (g_pt c D 3 (nI (D + 1)) h) = qI h := by
    unfold g_pt
    rw [qI_sA]
  have gL : qL (g_pt c D 3 (nI (D + 1)) h) = qL h := by
    unfold g_pt
    rw [qL_sA]
  have gr : ∀ i, qA (g_pt c D 3 (nI (D + 1)) h) (c + 8) i = if i = 6 * D + 3 then nI (D + 1) else qA h (c + 8) i := fun i => by
    unfold g_pt
    by_cases h9 : i = 6 * D + 3
    · rw [h9, qA_sAe, if_pos rfl]
    · rw [qA_sAp (by omega), if_neg h9]
  generalize g_pt c D 3 (nI (D + 1)) h = h2 at *
  have vD : ∀ i, zva v D E y d D i = if i = 0 then 2 else if i = 3 then D + 2 else if i = 6 then d else if i = 7 then E - D else 0 := fun i => zva_D
  have vD0 : zva v D E y d D 0 = 2 := by rw [vD]; rfl
  have vD1 : zva v D E y d D 1 = 0 := by rw [vD]; rfl
  have vD2 : zva v D E y d D 2 = 0 := by rw [vD]; rfl
  have vD3 : zva v D E y d D 3 = D + 2 := by rw [vD]; rfl
  have vD6 : zva v D E y d D 6 = d := by rw [vD]; rfl
  have vD7 : zva v D E y d D 7 = E - D := by rw [vD]; rfl
  have vDr : ∀ i, i = 4 ∨ i = 5 → zva v D E y d D i = 0 := fun i hi => by
    rw [vD]
    rcases hi with rfl | rfl <;> rfl
  refine Z.it (v1 := zva v D E y d) (by omega) ⟨by rw [gI]; exact O.1, by rw [eI]; exact O.2⟩ ⟨by rw [gL]; exact l9, by rw [gL]; exact l10⟩ ⟨by rw [gI]; exact n1, by rw [eI]; exact n2, by rw [eI]; exact n3, by omega⟩ ⟨by rw [eI]; exact (b4 80 (by omega)).trans s1, by rw [eI]; exact (b4 21 (by omega)).trans s2, by rw [e8, if_pos rfl]⟩ (fun i hi => ?_) (fun z j hz hj => ?_) (fun j hj => ?_) (fun i hi => ?_) (fun i => ?_) (fun i hi => ?_) (fun i hi => ?_) (fun j hj i => zva_o hj) ⟨vD2, vD6⟩ (fun j hj1 hj2 => ?_) ?_
  · rw [gr, if_neg (by omega)]
    exact a1 i hi
  · rcases hz with rfl | rfl
    · rw [eA 669 (by decide)]; exact b1 _ j (by omega) hj
    · rw [eA 670 (by decide)]; exact b1 _ j (by omega) hj
  · rw [e2]
    by_cases h9 : g = j + 1
    · rw [if_pos h9, if_pos ⟨by omega, by omega⟩]
    · rw [if_neg h9, if_neg (by omega)]
      exact b1 _ j (by omega) hj
  · rw [e1, b2 i (by omega)]
  · rw [e3, b3 673 (by omega)]
  · rw [eA 686 (by decide), eA 687 (by decide), b3 686 (by omega), b3 687 (by omega)]
    exact ⟨rfl, rfl⟩
  · rw [e8, if_neg (by omega), b3 688 (by omega)]
  · by_cases h9 : j = D
    · subst h9
      constructor
      · unfold zdo
        rw [vD0, vD1, vD2]
        refine ⟨⟨?_, fun q => ?_, fun i h1 h2 => ?_⟩, ?_, fun q => absurd q (by decide), ?_, fun i hi => ?_⟩
        · rw [gr, if_neg (by omega)]
          exact a2
        · unfold q_val at q
          omega
        · rw [gr]
          by_cases h8 : i = 3
          · rw [if_pos (by omega), h8, vD3]
            exact (oN_s _).symm
          · rw [if_neg (by omega), a3 i (by omega) h2]
            by_cases h7 : i = 2
            · rw [h7, vD2]
              rfl
            · rw [vDr i (by omega)]
              rfl
        · rw [eA 669 (by decide), d1]
          rfl
        · rw [e2, if_neg (by omega), d2]
          rfl
        · rw [e1, if_neg (fun q => by have := hHI q.2.1; omega)]
          obtain h8 | h8 | h8 : i = 0 ∨ i = 1 ∨ i = 2 := by omega
          · rw [h8, Nat.add_zero (3 * (1300 + j)), d3, vD3, oU_s]
          · rw [h8, d4, vDr 4 (by omega)]
            rfl
          · rw [h8, d5, vDr 5 (by omega)]
            rfl
      · unfold zdw
        rw [vD0, vD1, vD2, vD3, vD6, vD7]
        refine ⟨⟨by decide, hd, fun q => absurd q (by decide)⟩, fun q => absurd q (by decide), fun q => absurd q (by decide), fun q => absurd q (by decide), Or.inl rfl, fun i h1 h2 => ?_, fun _ => ⟨by omega, rfl, by omega, fun z h1 h2 => ?_⟩⟩
        · by_cases h8 : i = 3
          · rw [h8, vD3]
            exact Or.inr ⟨by omega, by omega, fun q => absurd q (by decide)⟩
          · exact Or.inl (vDr i (by omega))
        · rw [zva_a h1 (by omega), zva_a h1 (by omega)]
          refine ⟨rfl, ?_⟩
          show (if z < E then z + 2 else 0) = 0 ∨ (j < (if z < E then z + 2 else 0) - 1 ∧ (if z < E then z + 2 else 0) - 1 ≤ j + (E - j))
          by_cases h8 : z < E
          · rw [if_pos h8]
            right
            omega
          · rw [if_neg h8]
            exact Or.inl rfl
    · obtain ⟨z0, ⟨z1, z2, z3⟩, z4, z5, z6, z7⟩ := dos j (by omega) (by omega)
      have va : ∀ i, zva v D E y d j i = if i = 1 then y j else if i = 2 then (if j < E then j + 2 else 0) else 0 := fun i => zva_a (by omega) (by omega)
      have va0 : zva v D E y d j 0 = 0 := by rw [va]; rfl
      constructor
      · refine ⟨⟨?_, fun q => ?_, fun i h1 h2 => ?_⟩, ?_, fun q => ?_, ?_, fun i hi => ?_⟩
        · rw [gr, if_neg (by omega)]; exact z1
        · rw [gr, if_neg (by omega)]; exact z2 q
        · rw [gr, if_neg (by omega)]; exact z3 i h1 h2
        · rw [eA 669 (by decide)]; exact z4
        · rw [eA 670 (by decide)]; exact z5 q
        · rw [e2, if_neg (by omega)]; exact z6
        · rw [e1, if_neg (fun q => by have := hHI q.2.1; omega)]; exact z7 i hi
      · unfold zdw
        rw [va0]
        have va1 : zva v D E y d j 1 = y j := by rw [va]; rfl
        have va2 : zva v D E y d j 2 = if j < E then j + 2 else 0 := by rw [va]; rfl
        have va6 : zva v D E y d j 6 = 0 := by rw [va]; rfl
        rw [va1, va2, va6]
        refine ⟨⟨by decide, by decide, fun q => absurd q (by decide)⟩, fun _ => z0, fun q => absurd q (by decide), fun q => absurd q (by decide), ?_, fun i h1 h2 => ?_, fun q => absurd q (by decide)⟩
        · by_cases h8 : j < E
          · rw [if_pos h8]
            refine Or.inr ⟨by omega, by omega, ?_⟩
            rw [show j + 2 - 1 = j + 1 by omega, zva_a (by omega) (by omega)]
            rfl
          · rw [if_neg h8]
            exact Or.inl rfl
        · left
          rw [va, if_neg (by omega), if_neg (by omega)]
  · obtain ⟨r1, r2⟩ := Rc
    refine ⟨fun z hz => ?_, fun j hj q => ?_⟩
    · obtain ⟨i, j, q1, q2, q3, q4, q5, q6⟩ := r1 z hz
      exact ⟨i, j, q1, q2, by rw [eA 689 (by decide)]; exact q3, by rw [eA 690 (by decide)]; exact q4, by rw [eA 669 (by decide)]; exact q5, q6⟩
    · obtain ⟨z, q1, q2⟩ := r2 j hj q
      exact ⟨z, q1, by rw [eA 690 (by decide)]; exact q2⟩
theorem z_an {x : Int32} (hc : c = 11 ∨ c = 300) (M : zPm P e) (he12 : e ≤ 1200) (Z : zRW K V L9 L10 rF pF e c np D0 d HR HI f g C D v h k) (hs : s.2 = 0) (hD : D ≤ s.1) (hC : C ≤ s.1) (hd : d ≤ 8) (hnp : np < 10) (hz : (y_an K s).2 = 0) (he : (y_an K s).1 ≤ e) : zRs K P V L9 L10 rF pF e c np D0 d HR HI f g D (y_an K s).1 v h k (g_ln c D (x, oN g) (g_an K V c rF D s.1 h)) (p_an K s k) := by
  have hcn : ¬ c = 589 := by omega
  obtain ⟨gD, hD0⟩ := Z.bd
  obtain ⟨⟨O, l9, l10⟩, ⟨n1, n2, n3, n4⟩, ⟨s1, s2, s3, s4⟩, Hd, _, _, Rc⟩ := id Z
  obtain ⟨y1, y2⟩ := y_an_p hz
  have z3 : (y_nd K 40 (y_ps s)).2 = 0 := (y_to.co (K := K) 1201 _ _ (y_to.rf (s := y_nd K 40 (y_ps s)))).2.1 (y_nd_z hz)
  obtain ⟨_, p1⟩ := y_ps_0 (y_nd_z z3)
  obtain ⟨k40, p2⟩ := y_nd_p p1 z3
  have tc := y_to.co (K := K) 1201 _ _ (y_to.rf (s := ((s.1 + 2, 0) : y_S)))
  have t2 : s.1 + 2 ≤ (y_co K 1201 (s.1 + 2, 0)).1 := tc.1
  rw [y2] at he ⊢
  have he : (y_co K 1201 (s.1 + 2, 0)).1 + 1 ≤ e := he
  have N1 : zN K e (s.1 + 1) := ⟨by omega, k40⟩
  -- the reference
  have t23 : qI (p_nD 2 k) 630 23 = nI (1300 + (D + 1)) := by
    rw [p_nD_23, n2, nI_1]
    rfl
  have up : p_an K s k = p_co (nI (1300 + D)) (zpL K D 1200 (D + 1) (s.1 + 2, 0) (q_sA (p_nm (s.1 + 1) (nI (1300 + (D + 1))) (p_nD 0 (p_nD 2 k))) 671 (3 * (1300 + D)) (nI (1300 + (D + 1))))) := by
    unfold p_an
    rw [n2, nI_clamp (by omega), p1]
    have u1 : ∀ k2, p_av K 1201 (-1) (1300 + D) (s.1 + 1, 0) k2 = if y_is K 28 (y_nd K 40 (s.1 + 1, 0)) = true then p_av K 1200 (qI k2 630 23) (1300 + D) (y_ps (y_nd K 40 (s.1 + 1, 0))) (p_a1 (-1) (1300 + D) (s.1 + 1) k2) else p_a1 (-1) (1300 + D) (s.1 + 1) k2 := fun _ => rfl
    rw [p1] at p2
    rw [u1, p2, t23]
    unfold zpL p_a1
    rw [if_pos rfl, t23]
  have el : g_tr V rF (s.1 + 1) (g_do c D 17 h) = zlk V L9 L10 rF pF 0 (s.1 + 1) := by
    rw [zlk_0]
    unfold g_tr g_do
    rw [qL_sA, qL_sA, qL_sA, qL_sA, qL_sA, qL_sA, qL_sI, l9]
  rw [up]
  unfold g_an g_ad
  rw [el]
  show zRs K P V L9 L10 rF pF e c np D0 d HR HI f g D ((y_co K 1201 (s.1 + 2, 0)).1 + 1) v h k _ _
  cases hl : zlk V L9 L10 rF pF 0 (s.1 + 1) with
  | some yy =>
    rw [g_fw_s]
    have A := zAl.b (a := s.1 + 1) hc Z (by omega) (by omega) N1 hl
    rcases z_av hc M he12 1200 (D + 1) (s.1 + 2, 0) _ _ _ _ (by show 1200 ≤ 1200 + (s.1 + 2); omega) A (by show D + 1 ≤ s.1 + 2; omega) (by show C + 1 ≤ s.1 + 2; omega) y1 (show (y_co K 1201 (s.1 + 2, 0)).1 ≤ e by omega) with ⟨E', C', y', A2, b1, b2⟩ | ⟨C', D', B⟩
    · left
      have b1 : E' ≤ (y_co K 1201 (s.1 + 2, 0)).1 := b1
      have b2 : C' ≤ (y_co K 1201 (s.1 + 2, 0)).1 := b2
      obtain ⟨v', Z2, F2, v2⟩ := Z.an (x := x) A2 (by omega) hd hnp
      exact ⟨C', E' + 1, v', Z2, F2, v2, by omega, by omega⟩
    · right
      refine ⟨C', D', B.fr M ?_ (zRf.rf B.1.1 B.1.2.1).co (Nat.le_succ _) (Nat.le_trans B.1.2.2.1 (Nat.le_succ _)) (Nat.le_trans B.1.2.2.2 (Nat.le_succ _))⟩
      exact (g_S.rf.pt).ln
  | none =>
    right
    rw [g_fw_0]
    obtain ⟨f1, f2⟩ := g_fa_0 (n := 4) (i := s.1 + 1) (h := g_do c (D + 1) 15 (g_do c D 17 h)) (((g_do_I (by omega)).trans (g_do_I (by omega))).trans O.1)
    have hI : qI (g_pt c (D + 1) 1 (q_on none) (g_fa 4 (s.1 + 1) (g_do c (D + 1) 15 (g_do c D 17 h)))) = qI (g_fa 4 (s.1 + 1) (g_do c (D + 1) 15 (g_do c D 17 h))) := by
      unfold g_pt
      rw [qI_sA]
    have tI : ∀ j, ¬ j = 23 → qI (p_nD 2 k) 630 j = qI k 630 j := fun j hj => p_nD_I hj
    have tA : ∀ z, ¬ z = 669 ∧ ¬ z = 670 ∧ ¬ z = 671 ∧ ¬ z = 672 → qA (p_nD 2 k) z = qA k z := fun z hz => p_nD_A hz
    obtain ⟨t9, _⟩ := p_nD_r (w := 2) n2 (by omega)
    have Rk : ∀ x, x < C → ∃ i' j, zN K e i' ∧ j < D + 1 ∧ qA (p_nD 2 k) 689 x = nI i' ∧ qA (p_nD 2 k) 690 x = nI (1300 + j) ∧ ∃ y, zlk V L9 L10 rF pF (qA (p_nD 2 k) 669 (1300 + j)) i' = some y := fun x hx => by
      obtain ⟨i', j, u1, u2, u3, u4, u5⟩ := Rc.ok x hx
      exact ⟨i', j, u1, by omega, by rw [tA 689 (by decide)]; exact u3, by rw [tA 690 (by decide)]; exact u4, by rw [t9, if_neg (by omega)]; exact u5⟩
    have B : zBr K P V L9 L10 rF pF e (s.1 + 2) (C + 1) (D + 1 + 1) (g_pt c (D + 1) 1 (q_on none) (g_fa 4 (s.1 + 1) (g_do c (D + 1) 15 (g_do c D 17 h)))) (q_sA (p_nm (s.1 + 1) (nI (1300 + (D + 1))) (p_nD 0 (p_nD 2 k))) 671 (3 * (1300 + D)) (nI (1300 + (D + 1)))) := zBr.nm (k := p_nD 2 k) (kd := 0) Rk (by omega) (by omega) ((tI _ (by decide)).trans n3) t23 N1 hl ((tI _ (by decide)).trans O.2) (by rw [hI]; exact f1) (by rw [hI]; exact f2) (Nat.lt_succ_self _) (by omega) (by omega) (qI_sA _ _ _ _) (fun z hz => qA_sAn (by omega))
    generalize g_pt c (D + 1) 1 (q_on none) (g_fa 4 (s.1 + 1) (g_do c (D + 1) 15 (g_do c D 17 h))) = h2 at *
    generalize q_sA (p_nm (s.1 + 1) (nI (1300 + (D + 1))) (p_nD 0 (p_nD 2 k))) 671 (3 * (1300 + D)) (nI (1300 + (D + 1))) = k2 at *
    have S2 : g_S h2 (g_ln c D (x, oN g) (g_pt c D 3 (nI (D + 1)) (g_av K V c rF 1201 (D + 1) (s.1 + 2, 0) h2))) := ((g_S.av hcn _ _ _ _ g_S.rf).pt).ln
    have R0 : zRf K P e (s.1 + 2) (C + 1) (D + 1 + 1) k2 (C + 1) (D + 1 + 1) k2 := zRf.rf B.1.1 B.1.2.1
    unfold zpL
    by_cases d28 : y_is K 28 (s.1 + 2, 0) = true
    · rw [if_pos d28]
      have un2 : y_co K 1201 (s.1 + 2, 0) = y_co K 1200 (y_nd K 40 (y_ps (s.1 + 2, 0))) := if_pos d28
      rw [un2] at y1 he ⊢
      have tc2 := y_to.co (K := K) 1200 _ _ (y_to.rf (s := y_nd K 40 (y_ps (s.1 + 2, 0))))
      obtain ⟨_, p3⟩ := y_ps_0 (y_nd_z (tc2.2.1 y1))
      rw [p3] at y1 he tc2 ⊢
      have t3 := (y_to.rf (s := (s.1 + 2 + 1, 0))).nd (K := K) (k := 40)
      have t4 : s.1 + 2 + 1 ≤ _ := Nat.le_trans t3.1 tc2.1
      obtain ⟨C2, D2, R2, d2, c2⟩ := zRf.av he12 1200 (nI (1300 + (D + 1))) (1300 + D) (s.1 + 2 + 1, 0) _ _ _ R0 (by show s.1 + 2 ≤ s.1 + 2 + 1; omega) (by show D + 1 + 1 ≤ s.1 + 2 + 1; omega) (by show C + 1 ≤ s.1 + 2 + 1; omega) y1 (Nat.le_trans (Nat.le_succ _) he)
      exact ⟨C2, D2, B.fr M S2 R2.co (Nat.le_trans (show s.1 + 2 ≤ s.1 + 2 + 1 by omega) (Nat.le_trans t4 (Nat.le_succ _))) (Nat.le_trans c2 (Nat.le_succ _)) (Nat.le_trans d2 (Nat.le_succ _))⟩
    · rw [if_neg d28]
      exact ⟨C + 1, D + 1 + 1, B.fr M S2 R0.co (by omega) (by omega) (by omega)⟩
end ZY
