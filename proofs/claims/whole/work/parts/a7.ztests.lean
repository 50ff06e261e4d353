/-! THE TWO READS: tests -/
theorem y_te_p {K : Nat → Nat} {a : Nat} (hz : (y_te K (a, 0)).2 = 0) : a + 1 ≤ 1200 ∧ (y_E K (a + 1, 0)).2 = 0 ∧ y_E K (a + 1, 0) = (e_E K 1202 (a + 1), 0) ∧ a + 2 ≤ e_E K 1202 (a + 1) ∧ (K (e_E K 1202 (a + 1)) = 36 ∨ K (e_E K 1202 (a + 1)) = 37 ∨ K (e_E K 1202 (a + 1)) = 30 ∨ K (e_E K 1202 (a + 1)) = 38) ∧ e_E K 1202 (a + 1) + 1 ≤ 1200 ∧ (y_E K (e_E K 1202 (a + 1) + 1, 0)).2 = 0 ∧ e_E K 1202 (a + 1) + 2 ≤ e_E K 1202 (e_E K 1202 (a + 1) + 1) ∧ y_te K (a, 0) = (e_E K 1202 (e_E K 1202 (a + 1) + 1) + 1, 0) ∧ y_ps (e_E K 1202 (a + 1), 0) = (e_E K 1202 (a + 1) + 1, 0) := by
  have z1 : (y_E K (y_op K (y_E K (y_ps (a, 0))))).2 = 0 := y_nd_z hz
  have z2 := (y_to.E (K := K) (y_to.rf (s := y_op K (y_E K (y_ps (a, 0)))))).2.1 z1
  have z3 := (y_to.op (K := K) (y_to.rf (s := y_E K (y_ps (a, 0))))).2.1 z2
  have z4 := (y_to.E (K := K) (y_to.rf (s := y_ps (a, 0)))).2.1 z3
  obtain ⟨p1, p1b⟩ := y_ps_b rfl z4
  rw [p1] at z3 z2 z1
  obtain ⟨v1, b1, b2, b3, b4, _⟩ := e_all (K := K) (P := K) (X := K) (U := fun _ => 0) (set := false) (L := 0) p1b z3
  rw [b4] at z2 z1
  have p2 : y_op K (e_E K 1202 (a + 1), 0) = y_ps (e_E K 1202 (a + 1), 0) ∧ y_ps (e_E K 1202 (a + 1), 0) = (e_E K 1202 (a + 1) + 1, 0) ∧ e_E K 1202 (a + 1) + 1 ≤ 1200 ∧ y_cm K (e_E K 1202 (a + 1), 0) = true := by
    unfold y_op at z2 ⊢
    split at z2
    · next h9 =>
      rw [if_pos h9]
      exact ⟨rfl, (y_ps_b rfl z2).1, (y_ps_b rfl z2).2, h9⟩
    · exfalso
      exact absurd z2 (show ¬ (1 : Nat) = 0 by decide)
  obtain ⟨p2, p2c, p2b, hcm⟩ := p2
  rw [p2, p2c] at z1
  obtain ⟨v2, d1, d2, d3, d4, _⟩ := e_all (K := K) (P := K) (X := K) (U := fun _ => 0) (set := false) (L := 0) p2b z1
  have ea : y_te K (a, 0) = (e_E K 1202 (e_E K 1202 (a + 1) + 1) + 1, 0) := by
    have : y_te K (a, 0) = y_nd K 26 (e_E K 1202 (e_E K 1202 (a + 1) + 1), 0) := by
      show y_nd K 26 (y_E K (y_op K (y_E K (y_ps (a, 0))))) = _
      rw [p1, b4, p2, p2c, d4]
    rw [this] at hz ⊢
    exact (y_nd_p rfl hz).2
  have cm : K (e_E K 1202 (a + 1)) = 36 ∨ K (e_E K 1202 (a + 1)) = 37 ∨ K (e_E K 1202 (a + 1)) = 30 ∨ K (e_E K 1202 (a + 1)) = 38 := by
    unfold y_cm at hcm
    simp only [Bool.or_eq_true, y_is_0] at hcm
    omega
  exact ⟨p1b, z3, b4, b1, cm, p2b, z1, d1, ea, p2c⟩
section ZF
variable {K P X : Nat → Nat} {V U : Nat → Int64} {e t c o q nt ns n l m r x : Nat} {h k h' k' : q_Hp} {Bs : Nat × q_Hp}
theorem zS1.fr (Z : zS1 K V U e c o q nt ns n l h k) (O : zO h' k') (i : ∀ y j, (y = c ∧ j < 2) ∨ (y = o ∧ (j < 2 ∨ j = 6)) ∨ (y = 589 ∧ j = 9) → qI h' y j = qI h y j) (hl : qL h' = qL h) (a : ∀ y, (593 ≤ y ∧ y ≤ 596) ∨ (c + 1 ≤ y ∧ y ≤ c + 3) ∨ y = o + 1 ∨ (o + 4 ≤ y ∧ y ≤ o + 6) → qA h' y = qA h y) (ik : ∀ j, j = 18 ∨ j = 19 ∨ j = 68 → qI k' 630 j = qI k 630 j) (lk : qL k' = qL k) (ak : ∀ y, (638 ≤ y ∧ y ≤ 647) ∨ (679 ≤ y ∧ y ≤ 682) → qA k' y = qA k y) : zS1 K V U e c o q nt ns n l h' k' := by
  obtain ⟨_, ZT, ZL, ZM, G, Lk⟩ := Z
  exact ⟨O, ZT.fr (i _ _ (by omega)) (i _ _ (by omega)) (ik _ (by omega)) (ik _ (by omega)) (by rw [hl]) (by rw [hl]) (by rw [lk]) (by rw [lk]) (a _ (by omega)) (a _ (by omega)) (a _ (by omega)) (ak _ (by omega)) (ak _ (by omega)) (ak _ (by omega)), ZL.fr (i _ _ (by omega)) (i _ _ (by omega)) (i _ _ (by omega)) (a _ (by omega)) (fun j _ => by rw [a (o + 4) (by omega), a (o + 5) (by omega), a (o + 6) (by omega)]; exact ⟨rfl, rfl, rfl⟩) (fun y h1 h2 => ak y (by omega)), ZM.fr (i _ _ (by omega)) (ik _ (by omega)) (by rw [hl]) (by rw [lk]) (fun y hy => a y (by omega)) (fun y hy => ak y (by omega)), G.fr (a _ (by omega)), Lk.fr (a _ (by omega)) (a _ (by omega))⟩
theorem zX.fr (Z : zX h k o q nt ns n x) (i : qI h' o 2 = qI h o 2) (a : ∀ y, o + 2 ≤ y ∧ y ≤ o + 6 → qA h' y = qA h y) (ak : ∀ y, 648 ≤ y ∧ y ≤ 653 → qA k' y = qA k y) : zX h' k' o q nt ns n x := by
  obtain ⟨z1, z2, z3, z4⟩ := Z
  refine ⟨z1, i.trans z2, by rw [ak 648 (by omega)]; exact z3, fun j hj => ?_⟩
  obtain ⟨y, v, q⟩ := z4 j hj
  exact ⟨y, v, q.fr (by rw [a (o + 2) (by omega)]) (by rw [a (o + 3) (by omega)]) (by rw [ak 649 (by omega)]) (by rw [ak 650 (by omega)]) (fun z hz j _ => by rw [a (o + z) (by omega)]) (fun z hz j _ => by rw [ak z (by omega)])⟩
/-- a test on both sides -/
def zTe (c nn o q : Nat) (h k : q_Hp) (Q i : Nat) : Prop := ∃ kd s1 s2 s3, (kd = 36 ∨ kd = 37 ∨ kd = 30 ∨ kd = 38) ∧ qA h (o + 7) i = nI kd ∧ qA k 655 (4 * q + i) = nI (t_ph kd) ∧ (qA h (o + 12) (2 * i) = nI s1 ∧ qA h (o + 13) (2 * i) = nI s2 ∧ qA h (o + 12) (2 * i + 1) = nI s2 ∧ qA h (o + 13) (2 * i + 1) = nI s3) ∧ (qA k 656 (4 * q + i) = nI (1300 + s1) ∧ qA k 657 (4 * q + i) = nI (1300 + s2) ∧ qA k 658 (4 * q + i) = nI (1300 + s3)) ∧ zD c nn h s1 0 s2 1 ∧ zD c nn h s2 0 s3 1 ∧ s3 ≤ Q
def zTs (c nn o q : Nat) (h k : q_Hp) (t Q : Nat) : Prop := t ≤ 4 ∧ qI h o 3 = nI t ∧ qA k 654 q = nI t ∧ ∀ i, i < t → zTe c nn o q h k Q i
theorem zTe.fr {nn Q Q' i : Nat} (Z : zTe c nn o q h k Q i) (A : zA c Q h h') (hQ : Q ≤ Q') (a7 : qA h' (o + 7) i = qA h (o + 7) i) (a1 : ∀ y, y = 12 ∨ y = 13 → ∀ j, j = 2 * i ∨ j = 2 * i + 1 → qA h' (o + y) j = qA h (o + y) j) (ak : ∀ y, 655 ≤ y ∧ y ≤ 658 → qA k' y (4 * q + i) = qA k y (4 * q + i)) : zTe c nn o q h' k' Q' i := by
  obtain ⟨kd, s1, s2, s3, z1, z2, z3, ⟨z4, z5, z6, z7⟩, ⟨z8, z9, z0⟩, d1, d2, z11⟩ := Z
  refine ⟨kd, s1, s2, s3, z1, a7.trans z2, (ak _ (by omega)).trans z3, ⟨(a1 _ (by omega) _ (by omega)).trans z4, (a1 _ (by omega) _ (by omega)).trans z5, (a1 _ (by omega) _ (by omega)).trans z6, (a1 _ (by omega) _ (by omega)).trans z7⟩, ⟨(ak _ (by omega)).trans z8, (ak _ (by omega)).trans z9, (ak _ (by omega)).trans z0⟩, d1.fr (A.mono (by have := d2.1; omega)), d2.fr (A.mono z11), by omega⟩
theorem zTs.fr {nn Q Q' : Nat} (Z : zTs c nn o q h k t Q) (A : zA c Q h h') (hQ : Q ≤ Q') (i3 : qI h' o 3 = qI h o 3) (a7 : qA h' (o + 7) = qA h (o + 7)) (a1 : ∀ y, y = 12 ∨ y = 13 → ∀ j, j < 8 → qA h' (o + y) j = qA h (o + y) j) (ak : ∀ y, 654 ≤ y ∧ y ≤ 658 → qA k' y = qA k y) : zTs c nn o q h' k' t Q' := by
  obtain ⟨z1, z2, z3, z4⟩ := Z
  refine ⟨z1, i3.trans z2, by rw [ak 654 (by omega)]; exact z3, fun i hi => (z4 i hi).fr A hQ (by rw [a7]) (fun y hy j hj => a1 y hy j (by omega)) (fun y hy => by rw [ak y (by omega)])⟩
/-- and the codes of old stay -/
def zTb (Bs : Nat × q_Hp) (c nn o q : Nat) (h k : q_Hp) (t Q : Nat) : Prop := zTs c nn o q h k t Q ∧ Bs.1 ≤ Q ∧ zA c Bs.1 Bs.2 h
theorem zTb.fr {nn Q Q' : Nat} (Z : zTb Bs c nn o q h k t Q) (A : zA c Q h h') (hQ : Q ≤ Q') (i3 : qI h' o 3 = qI h o 3) (a7 : qA h' (o + 7) = qA h (o + 7)) (a1 : ∀ y, y = 12 ∨ y = 13 → ∀ j, j < 8 → qA h' (o + y) j = qA h (o + y) j) (ak : ∀ y, 654 ≤ y ∧ y ≤ 658 → qA k' y = qA k y) : zTb Bs c nn o q h' k' t Q' := ⟨Z.1.fr A hQ i3 a7 a1 ak, Nat.le_trans Z.2.1 hQ, Z.2.2.trans A Z.2.1⟩
/-- what holds among a rule's tests -/
def zS3 (Bs : Nat × q_Hp) (K : Nat → Nat) (V U : Nat → Int64) (e c o q nt ns n l x t Q : Nat) (h k : q_Hp) : Prop := zS1 K V U e c o q nt ns n l h k ∧ zX h k o q nt ns n x ∧ zTb Bs c n o q h k t Q ∧ zC c Q h k
section ZQ2
variable {NX : Nat → Prop} {lx set : Bool} {nw Q : Nat}
theorem zQ.sO {i j : Nat} {v : Int32} (Z : zQ K V U e NX lx l nw m set c Q h k) (hc : c = 11 ∨ c = 300) (hO : q_isO o) (hi : 1 ≤ i ∧ i < 14) : zQ K V U e NX lx l nw m set c Q (q_sA h (o + i) j v) k := by
  obtain ⟨z1, z2, z3, z4⟩ := Z
  have hl := hO.n
  have na : ∀ x, 1 ≤ x → x < 9 → ¬ c + x = o + i := fun x h1 h2 => fun q => hO.na hc i x hi.1 hi.2 h1 h2 q.symm
  exact ⟨z1, z2.fr rfl rfl rfl rfl (fun x hx => qA_sAn (by omega)) (fun _ _ => rfl), fun hs => (z3 hs).fr (qA_sAn (by omega)), z4.fr rfl rfl (fun j _ => by rw [qA_sAn (na 6 (by decide) (by decide)), qA_sAn (na 7 (by decide) (by decide))]; exact ⟨rfl, rfl⟩) (fun _ _ => rfl)⟩
theorem zQ.sOI {j : Nat} {v : Int32} (Z : zQ K V U e NX lx l nw m set c Q h k) (hc : c = 11 ∨ c = 300) (hO : q_isO o) : zQ K V U e NX lx l nw m set c Q (q_sI h o j v) k := by
  obtain ⟨z1, z2, z3, z4⟩ := Z
  have hl := hO.ne
  exact ⟨⟨(q_sI_n (by omega)).trans z1.1, z1.2⟩, z2.fr (q_sI_n (by omega)) rfl (by rw [qL_sI]) rfl (fun x hx => by rw [qA_sI]) (fun _ _ => rfl), fun hs => (z3 hs).fr (by rw [qA_sI]), z4.fr (q_sI_n (by omega)) rfl (fun j _ => by rw [qA_sI]; exact ⟨rfl, rfl⟩) (fun _ _ => rfl)⟩
theorem zQ.sk {y j : Nat} {v : Int32} (Z : zQ K V U e NX lx l nw m set c Q h k) (hy : ¬ (y = 666 ∨ y = 667 ∨ y = 668 ∨ (679 ≤ y ∧ y ≤ 682))) : zQ K V U e NX lx l nw m set c Q h (q_sA k y j v) := by
  obtain ⟨z1, z2, z3, z4⟩ := Z
  refine ⟨⟨z1.1, ?_⟩, z2.fr rfl (by rw [qI_sA]) rfl (by rw [qL_sA]) (fun _ _ => rfl) (fun x hx => qA_sAn (by omega)), z3, z4.fr rfl (by rw [qI_sA]) zA.rf (fun x hx => qA_sAn (by omega))⟩
  rw [qI_sA]
  exact z1.2
end ZQ2
theorem z_te2 {kd Q Q1 Q2 : Nat} {h2 h5 k2 k5 : q_Hp} {NX : Nat → Prop} {lx : Bool} {nw : Nat} (hc : c = 11 ∨ c = 300) (hO : q_isO o) (Z : zS3 Bs K V U e c o (20 + r) nt ns n l x t Q h k) (ht : t < 4) (hkd : kd = 36 ∨ kd = 37 ∨ kd = 30 ∨ kd = 38)
    (G2 : g_kx c (q_sA h (o + 12) (2 * t) (nI Q)) h2) (P2 : p_kx (q_sA (q_sA k 654 (20 + r) (nI (t + 1))) 656 (4 * (20 + r) + t) (nI (1300 + Q))) k2) (R1 : zC c Q1 h2 k2) (A1 : zA c Q (q_sA h (o + 12) (2 * t) (nI Q)) h2) (D1 : zD c n h2 Q 0 Q1 1)
    (G5 : g_kx c (q_sA (q_sI (q_sA (q_sA h2 (o + 13) (2 * t) (nI Q1)) (o + 7) t (nI kd)) o 3 (nI (t + 1))) (o + 12) (2 * t + 1) (nI Q1)) h5) (P5 : p_kx (q_sA (q_sA k2 657 (4 * (20 + r) + t) (nI (1300 + Q1))) 655 (4 * (20 + r) + t) (nI (t_ph kd))) k5) (R5 : zQ K V U e NX lx l nw m false c Q2 h5 k5) (A5 : zA c Q1 (q_sA (q_sI (q_sA (q_sA h2 (o + 13) (2 * t) (nI Q1)) (o + 7) t (nI kd)) o 3 (nI (t + 1))) (o + 12) (2 * t + 1) (nI Q1)) h5) (D5 : zD c n h5 Q1 0 Q2 1) :
    zS3 Bs K V U e c o (20 + r) nt ns n l x (t + 1) Q2 (q_sA h5 (o + 13) (2 * t + 1) (nI Q2)) (q_sA k5 658 (4 * (20 + r) + t) (nI (1300 + Q2))) := by
  have hl := hO.n
  have hne := hO.ne
  have na : ∀ i x, 1 ≤ i → i < 14 → 1 ≤ x → x < 9 → ¬ o + i = c + x := hO.na hc
  have c6 : ∀ i, 1 ≤ i → i < 14 → ¬ o + i = c + 6 ∧ ¬ o + i = c + 7 := fun i h1 h2 => ⟨na i 6 h1 h2 (by decide) (by decide), na i 7 h1 h2 (by decide) (by decide)⟩
  -- rows of the class
  have ra : ∀ y, ¬ y = c + 6 → ¬ y = c + 7 → ¬ y = o + 7 → ¬ y = o + 12 → ¬ y = o + 13 → qA (q_sA h5 (o + 13) (2 * t + 1) (nI Q2)) y = qA h y := fun y h6 h7 h9 h12 h13 => by
    rw [qA_sAn h13, G5.1 y ⟨h6, h7⟩, qA_sAn h12, qA_sI, qA_sAn h9, qA_sAn h13, G2.1 y ⟨h6, h7⟩, qA_sAn h12]
  have r7 : ∀ j, qA (q_sA h5 (o + 13) (2 * t + 1) (nI Q2)) (o + 7) j = if j = t then nI kd else qA h (o + 7) j := fun j => by
    rw [qA_sAn (by omega), G5.1 _ (c6 7 (by decide) (by decide)), qA_sAn (by omega), qA_sI, qA_sA]
    by_cases h9 : j = t
    · rw [if_pos ⟨rfl, h9⟩, if_pos h9]
    · rw [if_neg (fun q => h9 q.2), if_neg h9, qA_sAn (by omega), G2.1 _ (c6 7 (by decide) (by decide)), qA_sAn (by omega)]
  have r12 : ∀ j, qA (q_sA h5 (o + 13) (2 * t + 1) (nI Q2)) (o + 12) j = if j = 2 * t + 1 then nI Q1 else if j = 2 * t then nI Q else qA h (o + 12) j := fun j => by
    rw [qA_sAn (by omega), G5.1 _ (c6 12 (by decide) (by decide)), qA_sA]
    by_cases h9 : j = 2 * t + 1
    · rw [if_pos ⟨rfl, h9⟩, if_pos h9]
    · rw [if_neg (fun q => h9 q.2), if_neg h9, qA_sI, qA_sAn (by omega), qA_sAn (by omega), G2.1 _ (c6 12 (by decide) (by decide)), qA_sA]
      by_cases h8 : j = 2 * t
      · rw [if_pos ⟨rfl, h8⟩, if_pos h8]
      · rw [if_neg (fun q => h8 q.2), if_neg h8]
  have r13 : ∀ j, qA (q_sA h5 (o + 13) (2 * t + 1) (nI Q2)) (o + 13) j = if j = 2 * t + 1 then nI Q2 else if j = 2 * t then nI Q1 else qA h (o + 13) j := fun j => by
    rw [qA_sA]
    by_cases h9 : j = 2 * t + 1
    · rw [if_pos ⟨rfl, h9⟩, if_pos h9]
    · rw [if_neg (fun q => h9 q.2), if_neg h9, G5.1 _ (c6 13 (by decide) (by decide)), qA_sAn (by omega), qA_sI, qA_sAn (by omega), qA_sA]
      by_cases h8 : j = 2 * t
      · rw [if_pos ⟨rfl, h8⟩, if_pos h8]
      · rw [if_neg (fun q => h8 q.2), if_neg h8, G2.1 _ (c6 13 (by decide) (by decide)), qA_sAn (by omega)]
  have ri : ∀ y j, ¬ (y = c ∧ j = 4) → ¬ (y = 589 ∧ (j = 15 ∨ j = 16)) → ¬ (y = o ∧ j = 3) → qI (q_sA h5 (o + 13) (2 * t + 1) (nI Q2)) y j = qI h y j := fun y j h1 h2 h3 => by
    rw [qI_sA, G5.2.2.2 y j h1 h2, qI_sA, q_sI_n h3, qI_sA, qI_sA, G2.2.2.2 y j h1 h2, qI_sA]
  have r3 : qI (q_sA h5 (o + 13) (2 * t + 1) (nI Q2)) o 3 = nI (t + 1) := by
    rw [qI_sA, G5.2.2.2 o 3 (by omega) (by omega), qI_sA, q_sI_e]
  have rl : qL (q_sA h5 (o + 13) (2 * t + 1) (nI Q2)) = qL h := by
    rw [qL_sA, G5.2.1, qL_sA, qL_sI, qL_sA, qL_sA, G2.2.1, qL_sA]
  -- rows of the reference
  have sa : ∀ y, ¬ (654 ≤ y ∧ y ≤ 658) → ¬ (y = 666 ∨ y = 667 ∨ y = 668 ∨ y = 685) → qA (q_sA k5 658 (4 * (20 + r) + t) (nI (1300 + Q2))) y = qA k y := fun y h1 h2 => by
    rw [qA_sAn (by omega), P5.1 y (by omega), qA_sAn (by omega), qA_sAn (by omega), P2.1 y (by omega), qA_sAn (by omega), qA_sAn (by omega)]
  have s54 : qA (q_sA k5 658 (4 * (20 + r) + t) (nI (1300 + Q2))) 654 (20 + r) = nI (t + 1) := by
    rw [qA_sAn (by omega), P5.1 654 (by omega), qA_sAn (by omega), qA_sAn (by omega), P2.1 654 (by omega), qA_sAn (by omega), qA_sA, if_pos ⟨rfl, rfl⟩]
  have s5 : ∀ j, qA (q_sA k5 658 (4 * (20 + r) + t) (nI (1300 + Q2))) 655 j = if j = 4 * (20 + r) + t then nI (t_ph kd) else qA k 655 j := fun j => by
    rw [qA_sAn (by omega), P5.1 655 (by omega), qA_sA]
    by_cases h9 : j = 4 * (20 + r) + t
    · rw [if_pos ⟨rfl, h9⟩, if_pos h9]
    · rw [if_neg (fun q => h9 q.2), if_neg h9, qA_sAn (by omega), P2.1 655 (by omega), qA_sAn (by omega), qA_sAn (by omega)]
  have s6 : ∀ j, qA (q_sA k5 658 (4 * (20 + r) + t) (nI (1300 + Q2))) 656 j = if j = 4 * (20 + r) + t then nI (1300 + Q) else qA k 656 j := fun j => by
    rw [qA_sAn (by omega), P5.1 656 (by omega), qA_sAn (by omega), qA_sAn (by omega), P2.1 656 (by omega), qA_sA]
    by_cases h9 : j = 4 * (20 + r) + t
    · rw [if_pos ⟨rfl, h9⟩, if_pos h9]
    · rw [if_neg (fun q => h9 q.2), if_neg h9, qA_sAn (by omega)]
  have s7 : ∀ j, qA (q_sA k5 658 (4 * (20 + r) + t) (nI (1300 + Q2))) 657 j = if j = 4 * (20 + r) + t then nI (1300 + Q1) else qA k 657 j := fun j => by
    rw [qA_sAn (by omega), P5.1 657 (by omega), qA_sAn (by omega), qA_sA]
    by_cases h9 : j = 4 * (20 + r) + t
    · rw [if_pos ⟨rfl, h9⟩, if_pos h9]
    · rw [if_neg (fun q => h9 q.2), if_neg h9, P2.1 657 (by omega), qA_sAn (by omega), qA_sAn (by omega)]
  have s8 : ∀ j, qA (q_sA k5 658 (4 * (20 + r) + t) (nI (1300 + Q2))) 658 j = if j = 4 * (20 + r) + t then nI (1300 + Q2) else qA k 658 j := fun j => by
    rw [qA_sA]
    by_cases h9 : j = 4 * (20 + r) + t
    · rw [if_pos ⟨rfl, h9⟩, if_pos h9]
    · rw [if_neg (fun q => h9 q.2), if_neg h9, P5.1 658 (by omega), qA_sAn (by omega), qA_sAn (by omega), P2.1 658 (by omega), qA_sAn (by omega), qA_sAn (by omega)]
  have si : ∀ j, ¬ j = 12 ∧ ¬ j = 15 ∧ ¬ j = 16 ∧ ¬ j = 22 ∧ ¬ j = 78 → qI (q_sA k5 658 (4 * (20 + r) + t) (nI (1300 + Q2))) 630 j = qI k 630 j := fun j h1 => by
    rw [qI_sA, P5.2.2 j h1, qI_sA, qI_sA, P2.2.2 j h1, qI_sA, qI_sA]
  have sl : qL (q_sA k5 658 (4 * (20 + r) + t) (nI (1300 + Q2))) = qL k := by
    rw [qL_sA, P5.2.1, qL_sA, qL_sA, P2.2.1, qL_sA, qL_sA]
  -- codes
  have l1 : Q ≤ Q1 := D1.1
  have l2 : Q1 ≤ Q2 := D5.1
  have ca : ∀ i v j b, 1 ≤ i → i < 14 → ∀ h8 : q_Hp, zA c b h8 (q_sA h8 (o + i) j v) := fun i v j b h1 h2 h8 i8 _ => by
    rw [qA_sAn (fun q => (c6 i h1 h2).1 q.symm), qA_sAn (fun q => (c6 i h1 h2).2 q.symm)]
    exact ⟨rfl, rfl⟩
  have ci : ∀ v j b, ∀ h8 : q_Hp, zA c b h8 (q_sI h8 o j v) := fun v j b h8 i8 _ => by
    rw [qA_sI]
    exact ⟨rfl, rfl⟩
  have A6 : zA c Q1 h2 (q_sA h5 (o + 13) (2 * t + 1) (nI Q2)) := (((((ca 13 _ _ _ (by decide) (by decide) _).trans (ca 7 _ _ _ (by decide) (by decide) _) (Nat.le_refl _)).trans (ci _ _ _ _) (Nat.le_refl _)).trans (ca 12 _ _ _ (by decide) (by decide) _) (Nat.le_refl _)).trans A5 (Nat.le_refl _)).trans (ca 13 _ _ Q1 (by decide) (by decide) _) (Nat.le_refl _)
  have A0 : zA c Q h (q_sA h5 (o + 13) (2 * t + 1) (nI Q2)) := ((ca 12 _ _ _ (by decide) (by decide) _).trans A1 (Nat.le_refl _)).trans A6 l1
  have A9 : zA c Q2 h5 (q_sA h5 (o + 13) (2 * t + 1) (nI Q2)) := ca 13 _ _ _ (by decide) (by decide) _
  obtain ⟨Z1, ZX, ZT, ZC⟩ := Z
  have O6 : zO (q_sA h5 (o + 13) (2 * t + 1) (nI Q2)) (q_sA k5 658 (4 * (20 + r) + t) (nI (1300 + Q2))) := by
    refine ⟨?_, ?_⟩
    · rw [qI_sA]; exact R5.1.1
    · rw [qI_sA]; exact R5.1.2
  have C6 : zC c Q2 (q_sA h5 (o + 13) (2 * t + 1) (nI Q2)) (q_sA k5 658 (4 * (20 + r) + t) (nI (1300 + Q2))) := R5.2.2.2.fr (by rw [qI_sA]) (by rw [qI_sA]) A9 (fun x hx => qA_sAn (by omega))
  have D5' := D5.fr A9
  have D1' := D1.fr A6
  generalize q_sA h5 (o + 13) (2 * t + 1) (nI Q2) = h6 at *
  generalize q_sA k5 658 (4 * (20 + r) + t) (nI (1300 + Q2)) = k6 at *
  have nc : ∀ i x, 1 ≤ i → i < 4 → (x = 7 ∨ x = 12 ∨ x = 13) → ¬ c + i = o + x := fun i x h1 h2 h3 => fun q => na x i (by omega) (by omega) h1 (by omega) q.symm
  have e1 := na 1 6 (by decide) (by decide) (by decide) (by decide)
  have e2 := na 1 7 (by decide) (by decide) (by decide) (by decide)
  have e3 : ∀ i, i < 7 → 1 ≤ i → ¬ o + i = c + 6 ∧ ¬ o + i = c + 7 := fun i h1 h2 => c6 i h2 (by omega)
  have frA : ∀ y, (593 ≤ y ∧ y ≤ 596) ∨ (c + 1 ≤ y ∧ y ≤ c + 3) ∨ y = o + 1 ∨ (o + 2 ≤ y ∧ y ≤ o + 6) → qA h6 y = qA h y := by
    intro y hy
    rcases hy with hy | hy | hy | hy
    · exact ra y (by omega) (by omega) (by omega) (by omega) (by omega)
    · obtain ⟨i, hi, rfl⟩ : ∃ i, (1 ≤ i ∧ i < 4) ∧ y = c + i := ⟨y - c, by omega, by omega⟩
      exact ra _ (by omega) (by omega) (nc i 7 hi.1 hi.2 (by omega)) (nc i 12 hi.1 hi.2 (by omega)) (nc i 13 hi.1 hi.2 (by omega))
    · subst hy
      exact ra _ (e3 1 (by decide) (by decide)).1 (e3 1 (by decide) (by decide)).2 (by omega) (by omega) (by omega)
    · obtain ⟨i, hi, rfl⟩ : ∃ i, (2 ≤ i ∧ i < 7) ∧ y = o + i := ⟨y - o, by omega, by omega⟩
      exact ra _ (e3 i (by omega) (by omega)).1 (e3 i (by omega) (by omega)).2 (by omega) (by omega) (by omega)
  refine ⟨Z1.fr O6 (fun y j hy => ri y j (by omega) (by omega) (by omega)) rl (fun y hy => frA y (by omega)) (fun j hj => si j (by omega)) sl (fun y hy => sa y (by omega) (by omega)), ZX.fr (ri o 2 (by omega) (by omega) (by omega)) (fun y hy => frA y (by omega)) (fun y hy => sa y (by omega) (by omega)), ⟨⟨by omega, r3, s54, fun i hi => ?_⟩, by have := ZT.2.1; omega, ZT.2.2.trans A0 ZT.2.1⟩, C6⟩
  by_cases h9 : i = t
  · subst h9
    refine ⟨kd, Q, Q1, Q2, hkd, by rw [r7, if_pos rfl], by rw [s5, if_pos rfl], ⟨by rw [r12, if_neg (by omega), if_pos rfl], by rw [r13, if_neg (by omega), if_pos rfl], by rw [r12, if_pos rfl], by rw [r13, if_pos rfl]⟩, ⟨by rw [s6, if_pos rfl], by rw [s7, if_pos rfl], by rw [s8, if_pos rfl]⟩, D1', D5', Nat.le_refl _⟩
  · refine (ZT.1.2.2.2 i (by omega)).fr A0 (by omega) (by rw [r7, if_neg h9]) (fun y hy j hj => ?_) (fun y hy => ?_)
    · rcases hy with rfl | rfl
      · rw [r12, if_neg (by omega), if_neg (by omega)]
      · rw [r13, if_neg (by omega), if_neg (by omega)]
    · obtain hy | hy | hy | hy : y = 655 ∨ y = 656 ∨ y = 657 ∨ y = 658 := by omega
      · rw [hy, s5, if_neg (by omega)]
      · rw [hy, s6, if_neg (by omega)]
      · rw [hy, s7, if_neg (by omega)]
      · rw [hy, s8, if_neg (by omega)]
theorem z_te {Q : Nat} {s : y_S} (T : zTk K P X V U e) (hc : c = 11 ∨ c = 300) (hO : q_isO o) (he12 : e ≤ 1200) (Z : zS3 Bs K V U e c o (20 + r) nt ns n l x t Q h k) (ht : t < 4) (hQ : Q ≤ s.1) (hz : (y_te K (s.1, 0)).2 = 0) (he : (y_te K (s.1, 0)).1 ≤ e) : (∃ Q', Q' ≤ (y_te K (s.1, 0)).1 ∧ zS3 Bs K V U e c o (20 + r) nt ns n l x (t + 1) Q' (g_te K V c (n + l) o t s.1 h) (p_te K P X U r t (n + l) s k)) ∨ zB P e (y_te K (s.1, 0)).1 (g_te K V c (n + l) o t s.1 h) (p_te K P X U r t (n + l) s k) := by
  have hcn : ¬ c = 589 := by omega
  obtain ⟨y1, y2, y3, y4, y5, y6, y7, y8, y9, y10⟩ := y_te_p hz
  rw [y9] at he ⊢
  have he : e_E K 1202 (e_E K 1202 (s.1 + 1) + 1) + 1 ≤ e := he
  obtain ⟨⟨O, ZT, ZL, ZM, G, Lk⟩, ZX, Zt, ZC⟩ := id Z
  have n4 : n ≤ 4 := ZL.1
  have Z0 : zQ K V U e (fun x => x < n) true l 0 (n + l) false c Q h k := ⟨O, ZM, fun _ => G, ZC⟩
  have Z1 : zQ K V U e (fun x => x < n) true l 0 (n + l) false c Q (q_sA h (o + 12) (2 * t) (nI Q)) (q_sA (q_sA k 654 (20 + r) (nI (t + 1))) 656 (4 * (20 + r) + t) (nI (1300 + Q))) := ((Z0.sO hc hO (by decide)).sk (by decide)).sk (by decide)
  have eg : g_te K V c (n + l) o t s.1 h = q_sA (g_E K V c (n + l) 1202 (e_E K 1202 (s.1 + 1) + 1) (q_sA (q_sI (q_sA (q_sA (g_E K V c (n + l) 1202 (s.1 + 1) (q_sA h (o + 12) (2 * t) (nI Q))) (o + 13) (2 * t) (qI (g_E K V c (n + l) 1202 (s.1 + 1) (q_sA h (o + 12) (2 * t) (nI Q))) c 4)) (o + 7) t (nI (K (e_E K 1202 (s.1 + 1))))) o 3 (nI (t + 1))) (o + 12) (2 * t + 1) (qI (g_E K V c (n + l) 1202 (s.1 + 1) (q_sA h (o + 12) (2 * t) (nI Q))) c 4))) (o + 13) (2 * t + 1) (qI (g_E K V c (n + l) 1202 (e_E K 1202 (s.1 + 1) + 1) (q_sA (q_sI (q_sA (q_sA (g_E K V c (n + l) 1202 (s.1 + 1) (q_sA h (o + 12) (2 * t) (nI Q))) (o + 13) (2 * t) (qI (g_E K V c (n + l) 1202 (s.1 + 1) (q_sA h (o + 12) (2 * t) (nI Q))) c 4)) (o + 7) t (nI (K (e_E K 1202 (s.1 + 1))))) o 3 (nI (t + 1))) (o + 12) (2 * t + 1) (qI (g_E K V c (n + l) 1202 (s.1 + 1) (q_sA h (o + 12) (2 * t) (nI Q))) c 4))) c 4) := by
    unfold g_te g_t1
    have hne := hO.ne
    rw [ZC.1, q_sI_n (show ¬ (c = o ∧ 4 = 3) by omega), qI_sA, qI_sA]
  have ep : p_te K P X U r t (n + l) s k = q_sA (p_ex K P X U false (n + l) (e_E K 1202 (s.1 + 1) + 1, 0) (q_sA (q_sA (p_ex K P X U false (n + l) (s.1 + 1, 0) (q_sA (q_sA k 654 (20 + r) (nI (t + 1))) 656 (4 * (20 + r) + t) (nI (1300 + Q)))) 657 (4 * (20 + r) + t) (qI (p_ex K P X U false (n + l) (s.1 + 1, 0) (q_sA (q_sA k 654 (20 + r) (nI (t + 1))) 656 (4 * (20 + r) + t) (nI (1300 + Q)))) 630 22)) 655 (4 * (20 + r) + t) (nI (t_ph (K (e_E K 1202 (s.1 + 1))))))) 658 (4 * (20 + r) + t) (qI (p_ex K P X U false (n + l) (e_E K 1202 (s.1 + 1) + 1, 0) (q_sA (q_sA (p_ex K P X U false (n + l) (s.1 + 1, 0) (q_sA (q_sA k 654 (20 + r) (nI (t + 1))) 656 (4 * (20 + r) + t) (nI (1300 + Q)))) 657 (4 * (20 + r) + t) (qI (p_ex K P X U false (n + l) (s.1 + 1, 0) (q_sA (q_sA k 654 (20 + r) (nI (t + 1))) 656 (4 * (20 + r) + t) (nI (1300 + Q)))) 630 22)) 655 (4 * (20 + r) + t) (nI (t_ph (K (e_E K 1202 (s.1 + 1))))))) 630 22) := by
    unfold p_te p_te3 p_te2 p_te1
    rw [y3, y10, ZC.2.1]
  rw [eg, ep]
  clear eg ep
  have G2 := (g_kx.E (K := K) (V := V) (m := n + l) 1202 (s.1 + 1) _ (g_kx.rf (c := c) (h := q_sA h (o + 12) (2 * t) (nI Q))))
  have P2 := (p_kx.rf (k := q_sA (q_sA k 654 (20 + r) (nI (t + 1))) 656 (4 * (20 + r) + t) (nI (1300 + Q)))).ex (K := K) (P := P) (X := X) (U := U) (set := false) (L := n + l) (s := (s.1 + 1, 0))
  rcases z_ex (nn := n) T hc (fun x hx => hx) n4 he12 y1 y2 (by omega) (by omega) Z1 with ⟨Q1, R1, A1, D1, L1⟩ | B
  rotate_left 1
  · right
    refine B.fr T.M ((g_S.E hcn _ _ _ (((g_S.rf.sA).sA.sI (by have := hO.n; omega)).sA)).sA) ?_ (by show e_E K 1202 (s.1 + 1) ≤ _; omega)
    exact (((p_LW.rf.sA).sA).ex (show e_E K 1202 (s.1 + 1) ≤ e_E K 1202 (s.1 + 1) + 1 by omega)).sA
  generalize g_E K V c (n + l) 1202 (s.1 + 1) (q_sA h (o + 12) (2 * t) (nI Q)) = h2 at *
  generalize p_ex K P X U false (n + l) (s.1 + 1, 0) (q_sA (q_sA k 654 (20 + r) (nI (t + 1))) 656 (4 * (20 + r) + t) (nI (1300 + Q))) = k2 at *
  generalize hb : e_E K 1202 (s.1 + 1) = b at *
  rw [R1.2.2.2.1, R1.2.2.2.2.1]
  have Z3 : zQ K V U e (fun x => x < n) true l 0 (n + l) false c Q1 (q_sA (q_sI (q_sA (q_sA h2 (o + 13) (2 * t) (nI Q1)) (o + 7) t (nI (K b))) o 3 (nI (t + 1))) (o + 12) (2 * t + 1) (nI Q1)) (q_sA (q_sA k2 657 (4 * (20 + r) + t) (nI (1300 + Q1))) 655 (4 * (20 + r) + t) (nI (t_ph (K b)))) := ((((((R1.sO hc hO (by decide)).sO hc hO (by decide)).sOI hc hO).sO hc hO (by decide)).sk (by decide)).sk (by decide))
  have G5 := (g_kx.E (K := K) (V := V) (m := n + l) 1202 (b + 1) _ (g_kx.rf (c := c) (h := q_sA (q_sI (q_sA (q_sA h2 (o + 13) (2 * t) (nI Q1)) (o + 7) t (nI (K b))) o 3 (nI (t + 1))) (o + 12) (2 * t + 1) (nI Q1))))
  have P5 := (p_kx.rf (k := q_sA (q_sA k2 657 (4 * (20 + r) + t) (nI (1300 + Q1))) 655 (4 * (20 + r) + t) (nI (t_ph (K b))))).ex (K := K) (P := P) (X := X) (U := U) (set := false) (L := n + l) (s := (b + 1, 0))
  rcases z_ex (nn := n) T hc (fun x hx => hx) n4 he12 y6 y7 (by omega) (by omega) Z3 with ⟨Q2, R5, A5, D5, L5⟩ | B
  rotate_left 1
  · right
    refine B.fr T.M (g_S.rf.sA) (p_LW.rf.sA) (Nat.le_succ _)
  generalize g_E K V c (n + l) 1202 (b + 1) (q_sA (q_sI (q_sA (q_sA h2 (o + 13) (2 * t) (nI Q1)) (o + 7) t (nI (K b))) o 3 (nI (t + 1))) (o + 12) (2 * t + 1) (nI Q1)) = h5 at *
  generalize p_ex K P X U false (n + l) (b + 1, 0) (q_sA (q_sA k2 657 (4 * (20 + r) + t) (nI (1300 + Q1))) 655 (4 * (20 + r) + t) (nI (t_ph (K b)))) = k5 at *
  rw [R5.2.2.2.1, R5.2.2.2.2.1]
  left
  refine ⟨Q2, ?_, z_te2 hc hO Z ht y5 G2 P2 R1.2.2.2 A1 D1 G5 P5 R5 A5 D5⟩
  show Q2 ≤ e_E K 1202 (b + 1) + 1
  omega
theorem z_tss (T : zTk K P X V U e) (hc : c = 11 ∨ c = 300) (hO : q_isO o) (he12 : e ≤ 1200) : ∀ f t (s : y_S) Q h k, zS3 Bs K V U e c o (20 + r) nt ns n l x t Q h k → Q ≤ s.1 → (y_ts K f t s).2 = 0 → (y_ts K f t s).1 ≤ e → (∃ t' Q', Q' ≤ (y_ts K f t s).1 ∧ zS3 Bs K V U e c o (20 + r) nt ns n l x t' Q' (g_tss K V c o (n + l) f t s h) (p_tss K P X U r (n + l) f t s k)) ∨ zB P e (y_ts K f t s).1 (g_tss K V c o (n + l) f t s h) (p_tss K P X U r (n + l) f t s k) := by
  have ho := hO.n
  intro f
  induction f with
  | zero => intro t s Q h k Z hQ _ _; exact Or.inl ⟨t, Q, hQ, Z⟩
  | succ f ih =>
    intro t s Q h k Z hQ hz he
    unfold y_ts at hz he ⊢
    unfold g_tss p_tss
    by_cases c9 : y_is K 10 s = true
    · rw [if_pos c9] at hz he
      rw [if_pos c9, if_pos c9, if_pos c9]
      have t1 := y_to.ts (K := K) f (t + 1) _ _ (y_to.rf (s := y_te K (y_rm (decide (t < 4)) s)))
      have z1 := t1.2.1 hz
      have t4 := of_decide_eq_true (y_te_1 z1)
      have es : y_rm (decide (t < 4)) s = (s.1, 0) := by
        unfold y_rm
        rw [if_pos (decide_eq_true t4)]
        exact Prod.ext rfl (y_is_c.mp c9).1
      rw [es] at hz he z1 t1 ⊢
      rcases z_te T hc hO he12 Z t4 hQ z1 (Nat.le_trans t1.1 he) with ⟨Q', q1, Z2⟩ | B
      · exact ih (t + 1) _ Q' _ _ Z2 q1 hz he
      · refine Or.inr (B.fr T.M (g_S.tss (by omega) (by omega) _ _ _ _ g_S.rf) ?_ t1.1)
        exact (p_K.tss (J := [12, 22, 78]) (D := [654, 655, 656, 657, 658, 666, 667, 668, 685]) (by decide) (by decide) (by decide) (by decide) (by decide) (by decide) (by decide) (by decide) (by decide) (by decide) (by decide) (by decide) _ _ _ _ (Nat.le_refl _) p_K.rf).2.2.2
    · rw [if_neg c9, if_neg c9, if_neg c9]
      exact Or.inl ⟨t, Q, hQ, Z⟩
end ZF
