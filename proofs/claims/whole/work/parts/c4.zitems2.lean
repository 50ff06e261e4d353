/-! THE TWO READS: calls, and what fails, in a row -/
/-- what is behind something in a row: all is as it was, or a fault -/
def zRs (K P : Nat → Nat) (V : Nat → Int64) (L9 L10 : Nat → Int64) (rF pF e c np D0 d HR HI f g D b : Nat) (v : Nat → Nat → Nat) (h k h' k' : q_Hp) : Prop := (∃ C' D' v', zRW K V L9 L10 rF pF e c np D0 d HR HI (if g = 0 then D + 1 else f) (D + 1) C' D' v' h' k' ∧ zFr c D0 d HR HI h k h' k' ∧ (∀ j, j < D0 → ∀ i, v' j i = v j i) ∧ D' ≤ b ∧ C' ≤ b) ∨ ∃ C' D', zBr K P V L9 L10 rF pF e b C' D' h' k'
section ZI
variable {K P X : Nat → Nat} {V U : Nat → Int64} {L9 L10 : Nat → Int64} {rF pF : Nat} {e c np D0 d HR HI f g C D C' D' a : Nat} {v v1 v' : Nat → Nat → Nat} {h k h' k' h1 k1 : q_Hp} {s : y_S}
theorem g_ln_S {x y : Int32} (S : g_S h h1) : g_S h (g_ln c D (x, y) h1) := S.ln
/-- the names so far, where one more waits -/
theorem zRc.nm {kd y i : Nat} {k2 : q_Hp} (R : zRc K V L9 L10 rF pF e C D v k) (hC : C < 2 ^ 30) (h84 : qI k 630 84 = nI C) (N : zN K e i) (hkd : kd = 0 ∨ kd = 1 ∨ kd = 3) (hl : zlk V L9 L10 rF pF (nI kd) i = some y) (c9 : ∀ j, j < D → qA k2 669 (1300 + j) = qA k 669 (1300 + j)) (e9 : qA k2 669 (1300 + D) = nI kd) (r9 : qA k2 689 = qA (p_nm i (nI (1300 + D)) k) 689) (r0 : qA k2 690 = qA (p_nm i (nI (1300 + D)) k) 690) : zRc K V L9 L10 rF pF e (C + 1) (D + 1) (zv1 v D kd y d) k2 := by
  have cl : (qI k 630 84 : Int32).toNatClampNeg = C := by rw [h84, nI_clamp (by omega)]
  have q9 : ∀ x, qA k2 689 x = if x = C then nI i else qA k 689 x := fun x => by
    rw [r9]
    unfold p_nm
    rw [cl, qA_sI, qA_sAn (by decide)]
    by_cases h9 : x = C
    · rw [h9, qA_sAe, if_pos rfl]
    · rw [qA_sAp (by omega), if_neg h9]
  have q0 : ∀ x, qA k2 690 x = if x = C then nI (1300 + D) else qA k 690 x := fun x => by
    rw [r0]
    unfold p_nm
    rw [cl, qA_sI]
    by_cases h9 : x = C
    · rw [h9, qA_sAe, if_pos rfl]
    · rw [qA_sAp (by omega), if_neg h9, qA_sAn (by decide)]
  obtain ⟨r1, r2⟩ := R
  refine ⟨fun x hx => ?_, fun j hj q => ?_⟩
  · by_cases h9 : x = C
    · refine ⟨i, D, N, Nat.lt_succ_self D, by rw [q9, if_pos h9], by rw [q0, if_pos h9], ?_, ?_, ?_⟩
      · rw [e9, zv1_n]
        rfl
      · rw [zv1_n]
        exact hkd
      · rw [zv1_n, zv1_n]
        exact hl
    · obtain ⟨i', j, u1, u2, u3, u4, u5, u6⟩ := r1 x (by omega)
      refine ⟨i', j, u1, by omega, by rw [q9, if_neg h9]; exact u3, by rw [q0, if_neg h9]; exact u4, ?_, ?_⟩
      · rw [c9 j u2, zv1_o (by omega)]
        exact u5
      · rw [zv1_o (by omega), zv1_o (by omega)]
        exact u6
  · by_cases h9 : j = D
    · exact ⟨C, Nat.lt_succ_self C, by rw [q0, if_pos rfl, h9]⟩
    · rw [zv1_o h9] at q
      obtain ⟨x, u1, u2⟩ := r2 j (by omega) q
      exact ⟨x, by omega, by rw [q0, if_neg (by omega)]; exact u2⟩
theorem zRc.no {kd y : Nat} {k2 : q_Hp} (R : zRc K V L9 L10 rF pF e C D v k) (hkd : ¬ (kd = 0 ∨ kd = 1 ∨ kd = 3)) (c9 : ∀ j, j < D → qA k2 669 (1300 + j) = qA k 669 (1300 + j)) (r9 : qA k2 689 = qA k 689) (r0 : qA k2 690 = qA k 690) : zRc K V L9 L10 rF pF e C (D + 1) (zv1 v D kd y d) k2 := by
  obtain ⟨r1, r2⟩ := R
  refine ⟨fun x hx => ?_, fun j hj q => ?_⟩
  · obtain ⟨i', j, u1, u2, u3, u4, u5, u6⟩ := r1 x hx
    refine ⟨i', j, u1, by omega, by rw [r9]; exact u3, by rw [r0]; exact u4, ?_, ?_⟩
    · rw [c9 j u2, zv1_o (by omega)]
      exact u5
    · rw [zv1_o (by omega), zv1_o (by omega)]
      exact u6
  · by_cases h9 : j = D
    · rw [h9, zv1_n] at q
      exact absurd q hkd
    · rw [zv1_o h9] at q
      obtain ⟨x, u1, u2⟩ := r2 j (by omega) q
      exact ⟨x, u1, by rw [r0]; exact u2⟩
theorem p_nm_A {i : Nat} {x : Int32} {y : Nat} (hy : ¬ y = 689 ∧ ¬ y = 690) : qA (p_nm i x k) y = qA k y := by
  unfold p_nm
  rw [qA_sI, qA_sAn hy.2, qA_sAn hy.1]
theorem p_nm_I {i j : Nat} {x : Int32} (hj : ¬ j = 84) : qI (p_nm i x k) 630 j = qI k 630 j := by
  unfold p_nm
  rw [q_sI_n (by omega), qI_sA, qI_sA]
theorem p_nm_84 {i : Nat} {x : Int32} (h84 : qI k 630 84 = nI C) : qI (p_nm i x k) 630 84 = nI (C + 1) := by
  unfold p_nm
  rw [q_sI_e, h84, nI_1]
/-- all names so far are found -/
theorem zRc.ok (R : zRc K V L9 L10 rF pF e C D v k) : ∀ x, x < C → ∃ i' j, zN K e i' ∧ j < D ∧ qA k 689 x = nI i' ∧ qA k 690 x = nI (1300 + j) ∧ ∃ y, zlk V L9 L10 rF pF (qA k 669 (1300 + j)) i' = some y := fun x hx => by
  obtain ⟨i', j, u1, u2, u3, u4, u5, u6, u7⟩ := R.1 x hx
  exact ⟨i', j, u1, u2, u3, u4, _, by rw [u5]; exact u7⟩
theorem z_dc {x : Int32} (hc : c = 11 ∨ c = 300) (he12 : e ≤ 1200) (Z : zRW K V L9 L10 rF pF e c np D0 d HR HI f g C D v h k) (hD : D ≤ s.1) (hC : C ≤ s.1) (hd : d ≤ 8) (hnp : np < 10) (cd : y_dc K s = true) (k1 : K (s.1 + 1) = 40) (he : s.1 + 3 ≤ e) : zRs K P V L9 L10 rF pF e c np D0 d HR HI f g D (s.1 + 3) v h k (g_ln c D (x, oN g) (g_dc K V c rF pF D s.1 h)) (p_dc K s k) := by
  obtain ⟨gD, hD0⟩ := Z.bd
  obtain ⟨⟨O, l9, l10⟩, ⟨n1, n2, n3, n4⟩, ⟨s1, s2, s3, s4⟩, Hd, _, _, Rc⟩ := id Z
  have N1 : zN K e (s.1 + 1) := ⟨by omega, k1⟩
  obtain ⟨_, hk⟩ := y_dc_c cd
  obtain ⟨kd, hkd, ekd, ehk⟩ : ∃ kd, (kd = 0 ∨ kd = 1 ∨ kd = 3) ∧ (if K s.1 = 15 then (0 : Int32) else if K s.1 = 16 then 1 else 3) = nI kd ∧ K s.1 = 15 + kd := by
    rcases hk with q | q | q
    · exact ⟨0, by omega, by rw [if_pos q]; rfl, q⟩
    · exact ⟨1, by omega, by rw [if_neg (by omega), if_pos q]; rfl, q⟩
    · exact ⟨3, by omega, by rw [if_neg (by omega), if_neg (by omega)]; rfl, q⟩
  have elk : (if K s.1 = 18 then g_tp V pF (s.1 + 1) h else g_tr V rF (s.1 + 1) h) = zlk V L9 L10 rF pF (nI kd) (s.1 + 1) := by
    unfold zlk g_tp g_tr
    rw [l9, l10]
    rcases hkd with q | q | q
    · rw [if_neg (by omega), if_neg (by rw [q]; decide)]
    · rw [if_neg (by omega), if_neg (by rw [q]; decide)]
    · rw [if_pos (by omega), if_pos (by rw [q]; rfl)]
  unfold g_dc p_dc
  rw [elk, ekd, n2]
  obtain ⟨r9, r0, r2, r1⟩ := p_nD_r (w := nI kd) n2 (by omega)
  have rI : ∀ j, ¬ j = 23 → qI (p_nD (nI kd) k) 630 j = qI k 630 j := fun j hj => p_nD_I hj
  have r23 : qI (p_nD (nI kd) k) 630 23 = nI (1300 + (D + 1)) := by
    rw [p_nD_23, n2, nI_1]
    rfl
  have rA : ∀ y, ¬ y = 669 ∧ ¬ y = 670 ∧ ¬ y = 671 ∧ ¬ y = 672 → qA (p_nD (nI kd) k) y = qA k y := fun y hy => p_nD_A hy
  generalize p_nD (nI kd) k = k2 at *
  have g15 : qI (g_do c D (nI (K s.1)) h) 589 15 = 0 := (g_do_I (by omega)).trans O.1
  have Hd3 : zHd d np D0 HR HI (p_nm (s.1 + 1) (nI (1300 + D)) k2) := by
    rcases Hd with q | ⟨q1, q2, A, b, q3, q4, q5, q6, q7⟩
    · exact Or.inl q
    · exact Or.inr ⟨q1, q2, A, b, q3, q4, q5, by rw [p_nm_A (by decide), rA 686 (by decide)]; exact q6, by rw [p_nm_A (by decide), rA 687 (by decide)]; exact q7⟩
  cases hl : zlk V L9 L10 rF pF (nI kd) (s.1 + 1) with
  | none =>
    right
    obtain ⟨f1, f2⟩ := g_fa_0 (n := 4) (i := s.1 + 1) g15
    rw [g_fw_0]
    have e15 : ∀ j, qI (g_ln c D (x, oN g) (g_pt c D 1 (q_on none) (g_fa 4 (s.1 + 1) (g_do c D (nI (K s.1)) h)))) 589 j = qI (g_fa 4 (s.1 + 1) (g_do c D (nI (K s.1)) h)) 589 j := fun j => by
      unfold g_ln
      split
      · rfl
      · rfl
    obtain ⟨eI, eL, eA, e2, e1, e3, e8⟩ := p_co_r (x := nI (1300 + D)) (k := p_nm (s.1 + 1) (nI (1300 + D)) k2) ((p_nm_I (by decide)).trans ((rI _ (by decide)).trans s1)) ((p_nm_I (by decide)).trans ((rI _ (by decide)).trans s2)) (by rw [p_nm_A (by decide), rA 688 (by decide)]; exact s3) (by omega) (by omega) (by omega) Hd3 (by omega)
    have h84 : qI k2 630 84 = nI C := (rI _ (by decide)).trans n3
    have cl : (qI k2 630 84 : Int32).toNatClampNeg = C := by rw [h84, nI_clamp (by omega)]
    have q9 : ∀ z, qA (p_co (nI (1300 + D)) (p_nm (s.1 + 1) (nI (1300 + D)) k2)) 689 z = if z = C then nI (s.1 + 1) else qA k 689 z := fun z => by
      rw [eA 689 (by decide), ← rA 689 (by decide)]
      unfold p_nm
      rw [cl, qA_sI, qA_sAn (by decide)]
      by_cases h9 : z = C
      · rw [h9, qA_sAe, if_pos rfl]
      · rw [qA_sAp (by omega), if_neg h9]
    have q0 : ∀ z, qA (p_co (nI (1300 + D)) (p_nm (s.1 + 1) (nI (1300 + D)) k2)) 690 z = if z = C then nI (1300 + D) else qA k 690 z := fun z => by
      rw [eA 690 (by decide), ← rA 690 (by decide)]
      unfold p_nm
      rw [cl, qA_sI]
      by_cases h9 : z = C
      · rw [h9, qA_sAe, if_pos rfl]
      · rw [qA_sAp (by omega), if_neg h9, qA_sAn (by decide)]
    have q6 : ∀ z, qA (p_co (nI (1300 + D)) (p_nm (s.1 + 1) (nI (1300 + D)) k2)) 669 z = if z = 1300 + D then nI kd else qA k 669 z := fun z => by
      rw [eA 669 (by decide), p_nm_A (by decide), r9]
    refine ⟨C + 1, D + 1, ⟨by rw [eI]; exact p_nm_84 h84, by rw [eI]; exact (p_nm_I (by decide)).trans r23, by omega, by omega⟩, 4, s.1 + 1, ⟨by decide, by decide, by omega, by omega, (e15 15).trans f1, (e15 16).trans f2⟩, fun z hz => ?_, Or.inr ⟨rfl, Or.inl ?_, C, D, Nat.lt_succ_self C, Nat.lt_succ_self D, by rw [q9, if_pos rfl], by rw [q0, if_pos rfl], by rw [q6, if_pos rfl]; exact hl⟩⟩
    · by_cases h9 : z = C
      · exact ⟨s.1 + 1, D, N1, Nat.lt_succ_self D, by rw [q9, if_pos h9], by rw [q0, if_pos h9], fun _ => Or.inr ⟨rfl, rfl⟩⟩
      · obtain ⟨i', j, u1, u2, u3, u4, y, u5⟩ := Rc.ok z (by omega)
        exact ⟨i', j, u1, by omega, by rw [q9, if_neg h9]; exact u3, by rw [q0, if_neg h9]; exact u4, fun q => by rw [q6, if_neg (by omega), u5] at q; cases q⟩
    · rw [eI, p_nm_I (by decide), rI _ (by decide)]
      exact O.2
  | some y =>
    left
    rw [g_fw_s]
    have hy : (kd = 0 ∨ kd = 1 → y < rF) ∧ (kd = 3 → y < pF) := by
      unfold zlk at hl
      refine ⟨fun q => ?_, fun q => ?_⟩
      · rw [if_neg (by rcases q with q | q <;> rw [q] <;> decide)] at hl
        exact (p_fi_lt hl).1
      · rw [if_pos (by rw [q]; rfl)] at hl
        exact (p_fi_lt hl).1
    have gr : ∀ i, qA (g_pt c D 1 (q_on (some y)) (g_do c D (nI (K s.1)) h)) (c + 8) i = if i = 6 * D then nI (15 + kd) else if i = 6 * D + 1 ∧ ¬ kd = 4 then nI y else if 6 * D + 1 ≤ i ∧ i < 6 * D + 6 then -1 else qA h (c + 8) i := fun i => by
      unfold g_pt
      by_cases h9 : i = 6 * D + 1
      · rw [h9, qA_sAe, if_neg (by omega), if_pos ⟨rfl, by omega⟩]
        rfl
      · rw [qA_sAp (by omega), g_do_r, ehk]
        by_cases h8 : i = 6 * D
        · rw [if_pos h8, if_pos h8]
        · rw [if_neg h8, if_neg h8, if_neg (show ¬ (i = 6 * D + 1 ∧ ¬ kd = 4) from fun q => h9 q.1)]
    have hI1 : qI (g_pt c D 1 (q_on (some y)) (g_do c D (nI (K s.1)) h)) = qI (g_do c D (nI (K s.1)) h) := by
      unfold g_pt
      rw [qI_sA]
    have hL1 : qL (g_pt c D 1 (q_on (some y)) (g_do c D (nI (K s.1)) h)) = qL h := by
      unfold g_pt g_do
      rw [qL_sA, qL_sA, qL_sA, qL_sA, qL_sA, qL_sA, qL_sA, qL_sI]
    have h51 : qI (g_pt c D 1 (q_on (some y)) (g_do c D (nI (K s.1)) h)) c 5 = nI (D + 1) := by
      rw [hI1]
      exact g_do_5
    generalize g_pt c D 1 (q_on (some y)) (g_do c D (nI (K s.1)) h) = h1 at *
    have Rc2 : zRc K V L9 L10 rF pF e C D v k2 := by
      refine ⟨fun z hz => ?_, fun j hj q => ?_⟩
      · obtain ⟨i', j, u1, u2, u3, u4, u5, u6⟩ := Rc.1 z hz
        exact ⟨i', j, u1, u2, by rw [rA 689 (by decide)]; exact u3, by rw [rA 690 (by decide)]; exact u4, by rw [r9, if_neg (by omega)]; exact u5, u6⟩
      · obtain ⟨z, q1, q2⟩ := Rc.2 j hj q
        exact ⟨z, q1, by rw [rA 690 (by decide)]; exact q2⟩
    obtain ⟨v', Z2, F2, A2⟩ := Z.co (kd := kd) (y := y) (x := x) (h1 := h1) (k2 := p_nm (s.1 + 1) (nI (1300 + D)) k2) (C' := C + 1) (by omega) hd hnp (by omega) ⟨by rw [hI1]; exact g15, (p_nm_I (by decide)).trans ((rI _ (by decide)).trans O.2)⟩ ⟨by rw [hL1]; exact l9, by rw [hL1]; exact l10⟩ h51 gr ((p_nm_I (by decide)).trans r23) (p_nm_84 ((rI _ (by decide)).trans n3)) ((p_nm_I (by decide)).trans ((rI _ (by decide)).trans s1)) ((p_nm_I (by decide)).trans ((rI _ (by decide)).trans s2)) (fun i => by rw [p_nm_A (by decide), r9]) (fun i => by rw [p_nm_A (by decide), r0]) (fun i => by rw [p_nm_A (by decide), r2]) (fun i => by rw [p_nm_A (by decide), r1]) (fun z hz => by rw [p_nm_A (by omega), rA z (by omega)]) hy (zRc.nm (C := C) (D := D) (i := s.1 + 1) (k := k2) (kd := kd) (y := y) Rc2 (by omega) ((rI _ (by decide)).trans n3) N1 hkd hl (fun j hj => by rw [p_nm_A (by decide)]) (by rw [p_nm_A (by decide), r9, if_pos rfl]) rfl rfl)
    exact ⟨C + 1, D + 1, v', Z2, F2, A2, by omega, by omega⟩
theorem z_fa {x : Int32} (hc : c = 11 ∨ c = 300) (he12 : e ≤ 1200) (Z : zRW K V L9 L10 rF pF e c np D0 d HR HI f g C D v h k) (hD : D ≤ s.1) (hC : C ≤ s.1) (hd : d ≤ 8) (hnp : np < 10) (he : s.1 + 2 ≤ e) : zRs K P V L9 L10 rF pF e c np D0 d HR HI f g D (s.1 + 2) v h k (g_ln c D (x, oN g) (g_do c D 19 h)) (p_fa k) := by
  obtain ⟨gD, hD0⟩ := Z.bd
  obtain ⟨⟨O, l9, l10⟩, ⟨n1, n2, n3, n4⟩, ⟨s1, s2, s3, s4⟩, Hd, _, _, Rc⟩ := id Z
  unfold p_fa
  rw [n2]
  obtain ⟨r9, r0, r2, r1⟩ := p_nD_r (w := 4) n2 (by omega)
  have rI : ∀ j, ¬ j = 23 → qI (p_nD 4 k) 630 j = qI k 630 j := fun j hj => p_nD_I hj
  have r23 : qI (p_nD 4 k) 630 23 = nI (1300 + (D + 1)) := by
    rw [p_nD_23, n2, nI_1]
    rfl
  have rA : ∀ y, ¬ y = 669 ∧ ¬ y = 670 ∧ ¬ y = 671 ∧ ¬ y = 672 → qA (p_nD 4 k) y = qA k y := fun y hy => p_nD_A hy
  generalize p_nD 4 k = k2 at *
  have g15 : qI (g_do c D 19 h) 589 15 = 0 := (g_do_I (by omega)).trans O.1
  have gr : ∀ i, qA (g_do c D 19 h) (c + 8) i = if i = 6 * D then nI (15 + 4) else if i = 6 * D + 1 ∧ ¬ 4 = 4 then nI 0 else if 6 * D + 1 ≤ i ∧ i < 6 * D + 6 then -1 else qA h (c + 8) i := fun i => by
    rw [g_do_r]
    by_cases h8 : i = 6 * D
    · rw [if_pos h8, if_pos h8]
      rfl
    · rw [if_neg h8, if_neg h8, if_neg (show ¬ (i = 6 * D + 1 ∧ ¬ 4 = 4) from fun q => q.2 rfl)]
  left
  have hL1 : qL (g_do c D 19 h) = qL h := by
    unfold g_do
    rw [qL_sA, qL_sA, qL_sA, qL_sA, qL_sA, qL_sA, qL_sI]
  have h51 : qI (g_do c D 19 h) c 5 = nI (D + 1) := g_do_5
  generalize g_do c D 19 h = h1 at *
  obtain ⟨v', Z2, F2, A2⟩ := Z.co (kd := 4) (y := 0) (x := x) (h1 := h1) (k2 := k2) (C' := C) (by omega) hd hnp (by omega) ⟨g15, (rI _ (by decide)).trans O.2⟩ ⟨by rw [hL1]; exact l9, by rw [hL1]; exact l10⟩ h51 gr r23 ((rI _ (by decide)).trans n3) ((rI _ (by decide)).trans s1) ((rI _ (by decide)).trans s2) (fun i => r9 i) (fun i => r0 i) (fun i => r2 i) (fun i => r1 i) (fun z hz => rA z (by omega)) ⟨fun q => by omega, fun q => by omega⟩ (Rc.no (by decide) (fun j hj => by rw [r9, if_neg (by omega)]) (rA 689 (by decide)) (rA 690 (by decide)))
  exact ⟨C, D + 1, v', Z2, F2, A2, by omega, by omega⟩
end ZI
