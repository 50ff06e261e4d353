/-! THE TWO READS: a rule that is told, on both sides -/
def zJJ : List Nat := [12, 22, 68, 75, 77, 78]
def zDD : List Nat := [641, 642, 643, 644, 645, 646, 647, 648, 649, 650, 651, 652, 653, 654, 655, 656, 657, 658, 659, 660, 661, 662, 663, 664, 665, 666, 667, 668, 679, 680, 681, 682, 683, 684, 685]
theorem zDD_m (i : Nat) (h : (641 ≤ i ∧ i ≤ 668) ∨ (679 ≤ i ∧ i ≤ 685)) : i ∈ zDD := by
  unfold zDD
  simp only [List.mem_cons, List.not_mem_nil, or_false]
  omega
section ZN
variable {K P X : Nat → Nat} {V U : Nat → Int64} {e c o q nt ns n l x t Q d w jn m f a nr np r : Nat} {h h' k k' k1 : q_Hp} {s : y_S} {F D : List Nat}
theorem p_K.lf2 {m n l : Nat} (ha : a ≤ s.1) (x : p_K P a zJJ zDD k k1) : p_K P a zJJ zDD k (p_lf K P U nt ns r m n l s k1) := p_K.lf (by decide) (zDD_m _ (by omega)) (zDD_m _ (by omega)) (zDD_m _ (by omega)) (zDD_m _ (by omega)) (zDD_m _ (by omega)) (zDD_m _ (by omega)) (zDD_m _ (by omega)) (zDD_m _ (by omega)) (zDD_m _ (by omega)) (zDD_m _ (by omega)) (zDD_m _ (by omega)) _ _ _ _ _ ha x
theorem p_K.nts2 {m n aa : Nat} (ha : a ≤ s.1) (x : p_K P a zJJ zDD k k1) : p_K P a zJJ zDD k (p_nts K P U nt ns r aa m n s k1) := p_K.nts (by decide) (zDD_m _ (by omega)) (zDD_m _ (by omega)) (zDD_m _ (by omega)) (zDD_m _ (by omega)) (zDD_m _ (by omega)) (zDD_m _ (by omega)) (zDD_m _ (by omega)) (zDD_m _ (by omega)) (zDD_m _ (by omega)) (zDD_m _ (by omega)) _ _ _ _ ha x
theorem p_K.tss2 {m n aa : Nat} (ha : a ≤ s.1) (x : p_K P a zJJ zDD k k1) : p_K P a zJJ zDD k (p_tss K P X U r aa m n s k1) := p_K.tss (by decide) (by decide) (by decide) (zDD_m _ (by omega)) (zDD_m _ (by omega)) (zDD_m _ (by omega)) (zDD_m _ (by omega)) (zDD_m _ (by omega)) (zDD_m _ (by omega)) (zDD_m _ (by omega)) (zDD_m _ (by omega)) (zDD_m _ (by omega)) _ _ _ _ ha x
theorem p_K.dss2 {m n aa : Nat} (ha : a ≤ s.1) (x : p_K P a zJJ zDD k k1) : p_K P a zJJ zDD k (p_dss K P X U nt ns r aa m n s k1) := p_K.dss (by decide) (by decide) (by decide) (by decide) (by decide) (by decide) (fun i hi => zDD_m i (by omega)) _ _ _ _ ha x
/-- behind the head of a rule -/
theorem z_ru1 (T : zTk K P X V U e) (hc : c = 11 ∨ c = 300) (he12 : e ≤ 1200) (hr : nr < 20) {h0 k0 : q_Hp} (Z0 : zS1 K V U e c (g_ro c nr) (20 + nr) nt ns 0 0 h0 k0) (zr : ∀ j, j < 7 → qI h0 (g_ro c nr) j = 0) (i10 : qI h0 589 10 = 0) (i11 : qI h0 589 11 = 0) (kz : ∀ x, x = 648 ∨ x = 654 ∨ x = 659 → qA k0 x (20 + nr) = 0) (C : zC c Q h0 k0) (hQ : Q ≤ s.1) (hz : (y_ds K 9 0 (y_ts K 5 0 (y_nt K 3 0 (y_r1 K s)))).2 = 0) (he : (y_ds K 9 0 (y_ts K 5 0 (y_nt K 3 0 (y_r1 K s)))).1 ≤ e) : (∃ Q', Q' ≤ (y_ds K 9 0 (y_ts K 5 0 (y_nt K 3 0 (y_r1 K s)))).1 ∧ (Q ≤ Q' ∧ zA c Q h0 (g_ru4 K V c nt ns nr s.1 (g_ru3 K V c nr s.1 (g_ru2 K V c nt ns nr s.1 (g_lf K V nt ns (g_ro c nr) 1201 0 0 (s.1 + 2, 0) h0))))) ∧ zO (g_ru4 K V c nt ns nr s.1 (g_ru3 K V c nr s.1 (g_ru2 K V c nt ns nr s.1 (g_lf K V nt ns (g_ro c nr) 1201 0 0 (s.1 + 2, 0) h0)))) (p_ru4 K P X U nt ns nr (y_ts K 5 0 (y_nt K 3 0 (y_r1 K s))) (p_ru3 K P X U nr (y_nt K 3 0 (y_r1 K s)) (p_ru2 K P U nt ns nr (y_r1 K s) (p_lf K P U nt ns nr 1201 0 0 (s.1 + 2, 0) k0)))) ∧ zT K V U e c nt ns (g_ru4 K V c nt ns nr s.1 (g_ru3 K V c nr s.1 (g_ru2 K V c nt ns nr s.1 (g_lf K V nt ns (g_ro c nr) 1201 0 0 (s.1 + 2, 0) h0)))) (p_ru4 K P X U nt ns nr (y_ts K 5 0 (y_nt K 3 0 (y_r1 K s))) (p_ru3 K P X U nr (y_nt K 3 0 (y_r1 K s)) (p_ru2 K P U nt ns nr (y_r1 K s) (p_lf K P U nt ns nr 1201 0 0 (s.1 + 2, 0) k0)))) ∧ zC c Q' (g_ru4 K V c nt ns nr s.1 (g_ru3 K V c nr s.1 (g_ru2 K V c nt ns nr s.1 (g_lf K V nt ns (g_ro c nr) 1201 0 0 (s.1 + 2, 0) h0)))) (p_ru4 K P X U nt ns nr (y_ts K 5 0 (y_nt K 3 0 (y_r1 K s))) (p_ru3 K P X U nr (y_nt K 3 0 (y_r1 K s)) (p_ru2 K P U nt ns nr (y_r1 K s) (p_lf K P U nt ns nr 1201 0 0 (s.1 + 2, 0) k0)))) ∧ zRu c nt ns Q' (g_ru4 K V c nt ns nr s.1 (g_ru3 K V c nr s.1 (g_ru2 K V c nt ns nr s.1 (g_lf K V nt ns (g_ro c nr) 1201 0 0 (s.1 + 2, 0) h0)))) (p_ru4 K P X U nt ns nr (y_ts K 5 0 (y_nt K 3 0 (y_r1 K s))) (p_ru3 K P X U nr (y_nt K 3 0 (y_r1 K s)) (p_ru2 K P U nt ns nr (y_r1 K s) (p_lf K P U nt ns nr 1201 0 0 (s.1 + 2, 0) k0)))) nr) ∨ zB P e (y_ds K 9 0 (y_ts K 5 0 (y_nt K 3 0 (y_r1 K s)))).1 (g_ru4 K V c nt ns nr s.1 (g_ru3 K V c nr s.1 (g_ru2 K V c nt ns nr s.1 (g_lf K V nt ns (g_ro c nr) 1201 0 0 (s.1 + 2, 0) h0)))) (p_ru4 K P X U nt ns nr (y_ts K 5 0 (y_nt K 3 0 (y_r1 K s))) (p_ru3 K P X U nr (y_nt K 3 0 (y_r1 K s)) (p_ru2 K P U nt ns nr (y_r1 K s) (p_lf K P U nt ns nr 1201 0 0 (s.1 + 2, 0) k0)))) := by
  have hO : q_isO (g_ro c nr) := ⟨c, nr, hc, hr, rfl⟩
  have hn := hO.n
  have hne := hO.ne
  have hcn : ¬ c = 589 := by omega
  have er : y_r1 K s = y_r1 K (s.1, 0) := rfl
  have td := y_to.ds (K := K) 9 0 _ _ (y_to.rf (s := y_ts K 5 0 (y_nt K 3 0 (y_r1 K s))))
  have ts := y_to.ts (K := K) 5 0 _ _ (y_to.rf (s := y_nt K 3 0 (y_r1 K s)))
  have tn := y_to.nt (K := K) 3 0 _ _ (y_to.rf (s := y_r1 K s))
  have z3 := td.2.1 hz
  have z2 := ts.2.1 z3
  have z1 := tn.2.1 z2
  have r2 := y_r1_le (K := K) (s := s)
  rw [← er] at *
  -- the first part
  have L4 : ∀ b k1 k2, b ≤ (y_ts K 5 0 (y_nt K 3 0 (y_r1 K s))).1 → p_K P b zJJ zDD k1 k2 → p_K P b zJJ zDD k1 (p_ru4 K P X U nt ns nr (y_ts K 5 0 (y_nt K 3 0 (y_r1 K s))) k2) := fun b k1 k2 hb x => p_K.dss2 hb x
  have L3 : ∀ b k1 k2, b ≤ (y_nt K 3 0 (y_r1 K s)).1 → p_K P b zJJ zDD k1 k2 → p_K P b zJJ zDD k1 (p_ru3 K P X U nr (y_nt K 3 0 (y_r1 K s)) k2) := fun b k1 k2 hb x => p_K.tss2 hb x
  have L2 : ∀ b k1 k2, b ≤ (y_r1 K s).1 → p_K P b zJJ zDD k1 k2 → p_K P b zJJ zDD k1 (p_ru2 K P U nt ns nr (y_r1 K s) k2) := fun b k1 k2 hb x => p_K.nts2 hb x
  have S4 : ∀ h1 h2, g_S h1 h2 → g_S h1 (g_ru4 K V c nt ns nr s.1 h2) := fun h1 h2 S => g_S.dss hcn (by omega) _ _ _ _ S
  have S3 : ∀ h1 h2, g_S h1 h2 → g_S h1 (g_ru3 K V c nr s.1 h2) := fun h1 h2 S => g_S.tss hcn (by omega) _ _ _ _ S
  have S2 : ∀ h1 h2, g_S h1 h2 → g_S h1 (g_ru2 K V c nt ns nr s.1 h2) := fun h1 h2 S => g_S.nts (by omega) _ _ _ _ S
  have GK1 : g_K c (g_ro c nr) [0, 1, 6] [1, 4, 5, 6] h0 (g_lf K V nt ns (g_ro c nr) 1201 0 0 (s.1 + 2, 0) h0) := g_K.lf (by decide) (by decide) (by decide) (by decide) (by decide) (by decide) (by decide) _ _ _ _ _ g_K.rf
  have GC1 : g_Kc c h0 (g_lf K V nt ns (g_ro c nr) 1201 0 0 (s.1 + 2, 0) h0) := g_Kc.lf hc hO _ _ _ _ _ g_Kc.rf
  have PK1 : p_K P (s.1 + 2) [68] [641, 642, 643, 644, 645, 646, 647, 679, 680, 681, 682] k0 (p_lf K P U nt ns nr 1201 0 0 (s.1 + 2, 0) k0) := p_K.lf (by decide) (by decide) (by decide) (by decide) (by decide) (by decide) (by decide) (by decide) (by decide) (by decide) (by decide) (by decide) _ _ _ _ _ (Nat.le_refl _) p_K.rf
  have TY : qI (g_lf K V nt ns (g_ro c nr) 1201 0 0 (s.1 + 2, 0) h0) 589 15 = 0 → ∃ n' l', n' ≤ 4 ∧ l' ≤ 6 ∧ zTy nt n' l' (g_lf K V nt ns (g_ro c nr) 1201 0 0 (s.1 + 2, 0) h0) := fun h15 => zTy_lf (by omega) (by omega) 1201 0 0 (s.1 + 2, 0) h0 (by decide) (by decide) ⟨Z0.2.2.2.1.1, ⟨fun j hj => absurd hj (Nat.not_lt_zero j), fun i j hi => absurd hi (Nat.not_lt_zero i)⟩, fun j hj => absurd hj (Nat.not_lt_zero j)⟩ z1 h15
  rcases z_lf T hc hO 1201 0 0 (s.1 + 2, 0) h0 k0 Z0 z1 (Nat.le_trans (Nat.le_trans (Nat.le_trans tn.1 ts.1) td.1) he) with ⟨n, l, Z1⟩ | B
  rotate_left 1
  · right
    refine B.fr T.M (S4 _ _ (S3 _ _ (S2 _ _ g_S.rf))) ?_ (Nat.le_trans (Nat.le_trans tn.1 ts.1) td.1)
    exact (L4 _ _ _ (Nat.le_trans tn.1 ts.1) (L3 _ _ _ tn.1 (L2 _ _ _ (Nat.le_refl _) p_K.rf))).2.2.2
  obtain ⟨n', l', n4', l6', TYq⟩ := TY Z1.1.1
  generalize g_lf K V nt ns (g_ro c nr) 1201 0 0 (s.1 + 2, 0) h0 = h1 at *
  generalize p_lf K P U nt ns nr 1201 0 0 (s.1 + 2, 0) k0 = k1 at *
  have ZL1 := Z1.2.2.1
  have n4 := ZL1.1
  have l6 := ZL1.2.1
  have enl : n' + l' = n + l := by
    have q1 := TYq.1
    rw [Z1.2.2.2.1.1] at q1
    exact ((nI_eq (by omega) (by omega)).mp q1).symm
  have Tj1 := TYq.2.1
  rw [enl] at Tj1
  have C1 : zC c Q h1 k1 := C.fr GC1.1 (PK1.1 22 (by decide) (by decide) (by decide)) GC1.zA (fun x hx => PK1.2.1 x (by rcases hx with rfl | rfl | rfl <;> decide))
  have X1 : zX h1 k1 (g_ro c nr) (20 + nr) nt ns n 0 := ⟨by decide, (GK1.1 _ 2 (fun q => by have := q.1; omega) (fun q => absurd q.2 (by decide)) (fun q => by have := q.1; omega)).trans (zr 2 (by decide)), by rw [PK1.2.1 648 (by decide)]; exact kz 648 (by omega), fun i hi => absurd hi (Nat.not_lt_zero i)⟩
  -- the NOTs
  have en1 : p_nA 641 nr k1 + p_nA 642 nr k1 = n + l := by
    unfold p_nA
    rw [ZL1.2.2.2.1, ZL1.2.2.2.2.2.1, nI_clamp (by omega), nI_clamp (by omega)]
  have eh2 : g_ru2 K V c nt ns nr s.1 h1 = g_nts K V nt ns (g_ro c nr) (n + l) 3 0 (y_r1 K s) h1 := by
    unfold g_ru2 g_tn
    rw [Z1.2.2.2.1.1, nI_clamp (by omega)]
    rfl
  have ek2 : p_ru2 K P U nt ns nr (y_r1 K s) k1 = p_nts K P U nt ns nr (n + l) 3 0 (y_r1 K s) k1 := by
    unfold p_ru2
    rw [en1]
  rw [eh2, ek2]
  have GK2 : g_K c (g_ro c nr) [2] [2, 3, 4, 5, 6] h1 (g_nts K V nt ns (g_ro c nr) (n + l) 3 0 (y_r1 K s) h1) := g_K.nts (by decide) (by decide) (by decide) (by decide) (by decide) (by decide) _ _ _ _ g_K.rf
  have GC2 : g_Kc c h1 (g_nts K V nt ns (g_ro c nr) (n + l) 3 0 (y_r1 K s) h1) := g_Kc.nts hc hO _ _ _ _ g_Kc.rf
  have PK2 : p_K P 0 [68] [648, 649, 650, 651, 652, 653, 679, 680, 681, 682] k1 (p_nts K P U nt ns nr (n + l) 3 0 (y_r1 K s) k1) := p_K.nts (by decide) (by decide) (by decide) (by decide) (by decide) (by decide) (by decide) (by decide) (by decide) (by decide) (by decide) _ _ _ _ (Nat.zero_le _) p_K.rf
  have Tj2 : zTj nt (n + l) (g_nts K V nt ns (g_ro c nr) (n + l) 3 0 (y_r1 K s) h1) := Tj1.fr (fun x j hx hj => g_nts_r (by omega) (by omega) _ _ _ _ _ hj)
  rcases z_nts T hc hO 3 0 (y_r1 K s) h1 k1 Z1 X1 z2 (Nat.le_trans (Nat.le_trans ts.1 td.1) he) with ⟨x, Z2, X2⟩ | B
  rotate_left 1
  · right
    refine B.fr T.M (S4 _ _ (S3 _ _ g_S.rf)) ?_ (Nat.le_trans ts.1 td.1)
    exact (L4 _ _ _ ts.1 (L3 _ _ _ (Nat.le_refl _) p_K.rf)).2.2.2
  generalize g_nts K V nt ns (g_ro c nr) (n + l) 3 0 (y_r1 K s) h1 = h2 at *
  generalize p_nts K P U nt ns nr (n + l) 3 0 (y_r1 K s) k1 = k2 at *
  have C2 : zC c Q h2 k2 := C1.fr GC2.1 (PK2.1 22 (by decide) (by decide) (by decide)) GC2.zA (fun x hx => PK2.2.1 x (by rcases hx with rfl | rfl | rfl <;> decide))
  have g2 : ∀ j, j = 3 ∨ j = 4 ∨ j = 5 → qI h2 (g_ro c nr) j = 0 := fun j hj => by
    rw [GK2.1 _ j (fun q => by have := q.1; omega) (fun q => by have := q.2; rcases hj with rfl | rfl | rfl <;> exact absurd this (by decide)) (fun q => by have := q.1; omega), GK1.1 _ j (fun q => by have := q.1; omega) (fun q => by have := q.2; rcases hj with rfl | rfl | rfl <;> exact absurd this (by decide)) (fun q => by have := q.1; omega)]
    exact zr j (by omega)
  have b2 : ∀ j, j = 10 ∨ j = 11 → qI h2 589 j = qI h0 589 j := fun j hj => by
    rw [GK2.1 _ j (fun q => by rcases q.2 with q | q | q | q; omega; omega; omega; exact absurd q.2 (by decide)) (fun q => by have := q.1; omega) (fun q => by have := q.1; omega), GK1.1 _ j (fun q => by rcases q.2 with q | q | q | q; omega; omega; omega; exact absurd q.2 (by decide)) (fun q => by have := q.1; omega) (fun q => by have := q.1; omega)]
  have k2z : ∀ x, x = 654 ∨ x = 659 → qA k2 x (20 + nr) = 0 := fun x hx => by
    rw [PK2.2.1 x (by rcases hx with rfl | rfl <;> decide), PK1.2.1 x (by rcases hx with rfl | rfl <;> decide)]
    exact kz x (by omega)
  have W3 : zS3 (Q, h0) K V U e c (g_ro c nr) (20 + nr) nt ns n l x 0 Q h2 k2 := ⟨Z2, X2, ⟨⟨by decide, g2 3 (by omega), k2z 654 (by omega), fun i hi => absurd hi (Nat.not_lt_zero i)⟩, Nat.le_refl _, GC1.zA.trans GC2.zA (Nat.le_refl _)⟩, C2⟩
  -- the tests
  have eh3 : g_ru3 K V c nr s.1 h2 = g_tss K V c (g_ro c nr) (n + l) 5 0 (y_nt K 3 0 (y_r1 K s)) h2 := by
    unfold g_ru3 g_tn
    rw [Z2.2.2.2.1.1, nI_clamp (by omega)]
    rfl
  have ek3 : p_ru3 K P X U nr (y_nt K 3 0 (y_r1 K s)) k2 = p_tss K P X U nr (n + l) 5 0 (y_nt K 3 0 (y_r1 K s)) k2 := by
    unfold p_ru3
    rw [p_n_e (fun _ => Z2.2.2.2.1.2.1) (fun q => absurd q (by decide)) (by omega)]
  rw [eh3, ek3]
  have GK3 : g_K c (g_ro c nr) [3] [7, 12, 13] h2 (g_tss K V c (g_ro c nr) (n + l) 5 0 (y_nt K 3 0 (y_r1 K s)) h2) := g_K.tss (by decide) (by decide) (by decide) (by decide) _ _ _ _ g_K.rf
  have PK3 : p_K P 0 [12, 22, 78] [654, 655, 656, 657, 658, 666, 667, 668, 685] k2 (p_tss K P X U nr (n + l) 5 0 (y_nt K 3 0 (y_r1 K s)) k2) := p_K.tss (by decide) (by decide) (by decide) (by decide) (by decide) (by decide) (by decide) (by decide) (by decide) (by decide) (by decide) (by decide) _ _ _ _ (Nat.zero_le _) p_K.rf
  have Tj3 : zTj nt (n + l) (g_tss K V c (g_ro c nr) (n + l) 5 0 (y_nt K 3 0 (y_r1 K s)) h2) := Tj2.fr (fun x j hx hj => by rw [g_tss_r (by omega) (by omega) hc])
  have hq2 : Q ≤ (y_nt K 3 0 (y_r1 K s)).1 := by have := tn.1; omega
  rcases z_tss T hc hO he12 5 0 (y_nt K 3 0 (y_r1 K s)) Q h2 k2 W3 hq2 z3 (Nat.le_trans td.1 he) with ⟨t, Q3, q3, Z3⟩ | B
  rotate_left 1
  · right
    refine B.fr T.M (S4 _ _ g_S.rf) ?_ td.1
    exact (L4 _ _ _ (Nat.le_refl _) p_K.rf).2.2.2
  generalize g_tss K V c (g_ro c nr) (n + l) 5 0 (y_nt K 3 0 (y_r1 K s)) h2 = h3 at *
  generalize p_tss K P X U nr (n + l) 5 0 (y_nt K 3 0 (y_r1 K s)) k2 = k3 at *
  have g3 : ∀ j, j = 4 ∨ j = 5 → qI h3 (g_ro c nr) j = 0 := fun j hj => by
    rw [GK3.1 _ j (fun q => by have := q.1; omega) (fun q => by have := q.2; rcases hj with rfl | rfl <;> exact absurd this (by decide)) (fun q => by have := q.1; omega)]
    exact g2 j (by omega)
  have b3 : ∀ j, j = 10 ∨ j = 11 → qI h3 589 j = qI h0 589 j := fun j hj => by
    rw [GK3.1 _ j (fun q => by rcases q.2 with q | q | q | q; omega; omega; omega; exact absurd q.2 (by decide)) (fun q => by have := q.1; omega) (fun q => by have := q.1; omega)]
    exact b2 j hj
  have k3z : qA k3 659 (20 + nr) = 0 := by
    rw [PK3.2.1 659 (by decide)]
    exact k2z 659 (by omega)
  have Z4 := Z3.d0 hc hO Tj3 (g3 4 (by omega)) (g3 5 (by omega)) ((b3 10 (by omega)).trans i10) ((b3 11 (by omega)).trans i11) k3z
  -- what is done
  have ek4 : p_ru4 K P X U nt ns nr (y_ts K 5 0 (y_nt K 3 0 (y_r1 K s))) k3 = p_dss K P X U nt ns nr l 9 0 (y_ts K 5 0 (y_nt K 3 0 (y_r1 K s))) k3 := by
    unfold p_ru4 p_nA
    rw [Z3.1.2.2.1.2.2.2.2.2.1, nI_clamp (by omega)]
  have eh4 : g_ru4 K V c nt ns nr s.1 h3 = g_dss K V c nt ns (g_ro c nr) 9 0 (y_ts K 5 0 (y_nt K 3 0 (y_r1 K s))) h3 := rfl
  rw [eh4, ek4]
  rcases z_dss T hc hO he12 9 0 (y_ts K 5 0 (y_nt K 3 0 (y_r1 K s))) Q3 0 0 (fun _ _ => 0) h3 k3 Z4 q3 hz he with ⟨d', Q4, w', jn', v', q4, Z5⟩ | B
  rotate_left 1
  · exact Or.inr B
  left
  generalize g_dss K V c nt ns (g_ro c nr) 9 0 (y_ts K 5 0 (y_nt K 3 0 (y_r1 K s))) h3 = h4 at *
  generalize p_dss K P X U nt ns nr l 9 0 (y_ts K 5 0 (y_nt K 3 0 (y_r1 K s))) k3 = k4 at *
  obtain ⟨O, ⟨y1, y2, y3, y4⟩, C5, _, ⟨m1, m2, m3, m4, m5, _⟩, y5, G⟩ := Z5
  have rA : ∀ i, ¬ i = 683 → qA (p_d0 d' k4) i = qA k4 i := fun i hi => p_d0_A hi
  have rI : ∀ i, ¬ i = 75 ∧ ¬ i = 77 → qI (p_d0 d' k4) 630 i = qI k4 630 i := fun i hi => p_d0_I hi
  have rL : qL (p_d0 d' k4) = qL k4 := p_d0_L
  refine ⟨Q4, q4, y4.2, ⟨O.1, (rI _ (by decide)).symm.trans O.2⟩, y1.fr rfl rfl (rI _ (by decide)).symm (rI _ (by decide)).symm rfl rfl (by rw [rL]) (by rw [rL]) rfl rfl rfl (rA _ (by decide)).symm (rA _ (by decide)).symm (rA _ (by decide)).symm, C5.fr rfl (rI _ (by decide)).symm zA.rf (fun x hx => (rA x (by omega)).symm), ?_⟩
  · obtain ⟨W, w1, w2, w3⟩ := zRu.mk y2 y3 y4.1 y1.1 y1.2.1 (by omega) m1 m4 m5 y5 G.2.2.2.2.2.2.2
    refine ⟨W, w1, ?_, w3⟩
    unfold zmR at w2 ⊢
    rw [rA 641 (by decide), rA 642 (by decide), rA 643 (by decide), rA 644 (by decide), rA 645 (by decide), rA 646 (by decide), rA 647 (by decide), rA 648 (by decide), rA 649 (by decide), rA 650 (by decide), rA 651 (by decide), rA 652 (by decide), rA 653 (by decide), rA 654 (by decide), rA 655 (by decide), rA 656 (by decide), rA 657 (by decide), rA 658 (by decide), rA 659 (by decide), rA 660 (by decide), rA 661 (by decide), rA 662 (by decide), rA 663 (by decide), rA 664 (by decide), rA 665 (by decide)] at w2
    exact w2
end ZN
section ZN
variable {K P X : Nat → Nat} {V U : Nat → Int64} {e c o q nt ns n l x t Q d w jn m f a nr np r : Nat} {h h' k k' k1 : q_Hp} {s : y_S} {F D : List Nat}
theorem z_ru (T : zTk K P X V U e) (hc : c = 11 ∨ c = 300) (he12 : e ≤ 1200) (R1 : zna K V U e (qL h 9) (qL k 676) nr) (R2 : zna K V U e (qL h 10) (qL k 677) np) (O : zO h k) (ZT : zT K V U e c nt ns h k) (C : zC c Q h k) (hQ : Q ≤ s.1) (hz : (y_ru K nr (s.1, 0)).2 = 0) (he : (y_ru K nr (s.1, 0)).1 ≤ e) : (∃ Q', Q' ≤ (y_ru K nr (s.1, 0)).1 ∧ Q ≤ Q' ∧ zA c Q h (g_ru K V c nt ns nr np s.1 h) ∧ zO (g_ru K V c nt ns nr np s.1 h) (p_ru K P X U nt ns nr np s k) ∧ zT K V U e c nt ns (g_ru K V c nt ns nr np s.1 h) (p_ru K P X U nt ns nr np s k) ∧ zC c Q' (g_ru K V c nt ns nr np s.1 h) (p_ru K P X U nt ns nr np s k) ∧ zRu c nt ns Q' (g_ru K V c nt ns nr np s.1 h) (p_ru K P X U nt ns nr np s k) nr) ∨ zB P e (y_ru K nr (s.1, 0)).1 (g_ru K V c nt ns nr np s.1 h) (p_ru K P X U nt ns nr np s k) := by
  obtain ⟨p1, p2, p3, p4, p5⟩ := y_ru_p hz
  have er : y_r1 K (s.1, 0) = y_r1 K s := rfl
  rw [er] at p3 p4 p5
  rw [p3] at he ⊢
  have he : (y_ds K 9 0 (y_ts K 5 0 (y_nt K 3 0 (y_r1 K s)))).1 + 1 ≤ e := he
  have hO : q_isO (g_ro c nr) := ⟨c, nr, hc, p1, rfl⟩
  have hne := hO.ne
  have hl := hO.n
  have hcn : ¬ c = 589 := by omega
  have td := y_to.ds (K := K) 9 0 _ _ (y_to.rf (s := y_ts K 5 0 (y_nt K 3 0 (y_r1 K s))))
  have ts := y_to.ts (K := K) 5 0 _ _ (y_to.rf (s := y_nt K 3 0 (y_r1 K s)))
  have tn := y_to.nt (K := K) 3 0 _ _ (y_to.rf (s := y_r1 K s))
  have r2 := y_r1_le (K := K) (s := s)
  have t2 : s.1 + 2 ≤ (y_ds K 9 0 (y_ts K 5 0 (y_nt K 3 0 (y_r1 K s)))).1 := Nat.le_trans r2 (Nat.le_trans (Nat.le_trans tn.1 ts.1) td.1)
  have N1 : zN K e (s.1 + 1) := ⟨by omega, p2⟩
  show (∃ Q', Q' ≤ (y_ds K 9 0 (y_ts K 5 0 (y_nt K 3 0 (y_r1 K s)))).1 + 1 ∧ _) ∨ zB P e ((y_ds K 9 0 (y_ts K 5 0 (y_nt K 3 0 (y_r1 K s)))).1 + 1) _ _
  unfold g_ru p_ru g_ru1 p_ru1
  have cI : qI (g_ru0 V c nr np s.1 h) c 4 = qI h c 4 := g_ru0_I (by omega) (by unfold g_ro; omega)
  rcases z_ru0 (s := s) T hc p1 N1 R1 R2 O ZT with ⟨Z0, eh, i10, i11⟩ | B
  · have C0 : zC c Q (g_ru0 V c nr np s.1 h) (p_ru0 P U nr np s k) := C.fr cI (p_ru0_I (by decide)) (fun i _ => by rw [g_ru0_A]; exact ⟨rfl, rfl⟩) (fun x hx => p_ru0_A (by omega))
    rcases z_ru1 T hc he12 p1 Z0 (fun j hj => g_ru0_0 (by omega) hj) i10 i11 (fun x hx => p_ru0_z (by omega)) C0 hQ p4 (by omega) with ⟨Q', q1, ⟨q2, q3⟩, q4, q5, q6, q7⟩ | B
    · left
      generalize g_ru4 K V c nt ns nr s.1 (g_ru3 K V c nr s.1 (g_ru2 K V c nt ns nr s.1 (g_lf K V nt ns (g_ro c nr) 1201 0 0 (s.1 + 2, 0) (g_ru0 V c nr np s.1 h)))) = h4 at *
      generalize p_ru4 K P X U nt ns nr (y_ts K 5 0 (y_nt K 3 0 (y_r1 K s))) (p_ru3 K P X U nr (y_nt K 3 0 (y_r1 K s)) (p_ru2 K P U nt ns nr (y_r1 K s) (p_lf K P U nt ns nr 1201 0 0 (s.1 + 2, 0) (p_ru0 P U nr np s k)))) = k4 at *
      have a1 : zA c Q h h4 := (show zA c Q h (g_ru0 V c nr np s.1 h) from fun i _ => by rw [g_ru0_A]; exact ⟨rfl, rfl⟩).trans q3 (Nat.le_refl _)
      have a2 : ∀ b, zA c b h4 (q_sI h4 c 2 (nI (nr + 1))) := fun b i _ => by rw [qA_sI]; exact ⟨rfl, rfl⟩
      refine ⟨Q', by omega, q2, a1.trans (a2 Q) (Nat.le_refl _), ⟨(q_sI_n (by omega)).trans q4.1, q4.2⟩, q5.fr (q_sI_n (by omega)) (q_sI_n (by omega)) rfl rfl (by rw [qL_sI]) (by rw [qL_sI]) rfl rfl (by rw [qA_sI]) (by rw [qA_sI]) (by rw [qA_sI]) rfl rfl rfl, q6.fr (q_sI_n (by omega)) rfl (a2 Q') (fun _ _ => rfl), ?_⟩
      obtain ⟨W, w1, w2, w3⟩ := q7
      refine ⟨W, ?_, w2, ?_⟩
      · unfold r_cR at w1 ⊢
        rw [qA_sI]
        have : ∀ j, qI (q_sI h4 c 2 (nI (nr + 1))) (g_ro c nr) j = qI h4 (g_ro c nr) j := fun j => q_sI_n (by unfold g_ro; omega)
        simp only [this]
        exact w1
      · exact w3
    · right
      refine B.fr T.M (g_S.rf.sI (by omega)) p_LW.rf (Nat.le_succ _)
  · right
    have Sx : g_S (g_ru0 V c nr np s.1 h) (g_ru4 K V c nt ns nr s.1 (g_ru3 K V c nr s.1 (g_ru2 K V c nt ns nr s.1 (g_lf K V nt ns (g_ro c nr) 1201 0 0 (s.1 + 2, 0) (g_ru0 V c nr np s.1 h))))) := g_S.dss hcn (by omega) _ _ _ _ (g_S.tss hcn (by omega) _ _ _ _ (g_S.nts (by omega) _ _ _ _ (g_S.lf (by omega) _ _ _ _ _ g_S.rf)))
    have Lx : p_K P (s.1 + 2) zJJ zDD (p_ru0 P U nr np s k) (p_ru4 K P X U nt ns nr (y_ts K 5 0 (y_nt K 3 0 (y_r1 K s))) (p_ru3 K P X U nr (y_nt K 3 0 (y_r1 K s)) (p_ru2 K P U nt ns nr (y_r1 K s) (p_lf K P U nt ns nr 1201 0 0 (s.1 + 2, 0) (p_ru0 P U nr np s k))))) := p_K.dss2 (Nat.le_trans (Nat.le_trans r2 tn.1) ts.1) (p_K.tss2 (Nat.le_trans r2 tn.1) (p_K.nts2 r2 (p_K.lf2 (Nat.le_refl _) p_K.rf)))
    exact (B _ _ Sx Lx.2.2.2).fr T.M (g_S.rf.sI (by omega)) p_LW.rf (by omega)
end ZN
