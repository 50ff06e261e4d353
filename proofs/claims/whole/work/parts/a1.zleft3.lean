/-! THE TWO READS: a node of a rule -/
section ZL
variable {K P X : Nat → Nat} {V U : Nat → Int64} {e t c o q nt ns n l m a r : Nat} {NX : Nat → Prop} {lx : Bool} {w : Nat} {h k h' k' : q_Hp} {F D J E : List Nat} {s : y_S}
theorem zM.sAk {x i : Nat} {v : Int32} (Z : zM K V U e NX lx l w m h k) (hx : ¬ x = 679 ∧ ¬ x = 680 ∧ ¬ x = 681 ∧ ¬ x = 682) : zM K V U e NX lx l w m h (q_sA k x i v) := Z.fr rfl (by rw [qI_sA]) rfl (by rw [qL_sA]) (fun _ _ => rfl) (fun y hy => qA_sAn (by omega))
theorem zG.me (G : zG m h) {m' : Nat} (e : m' = m) : zG m' h := by rw [e]; exact G
theorem zS1.no (T : zTk K P X V U e) (hc : c = 11 ∨ c = 300) (hO : q_isO o) (Z : zS1 K V U e c o (20 + r) nt ns n l h k) (h4 : n < 4) {ty : Nat} (hty : ty < nt) (N1 : zN K e t) (hf1 : p_fi (qL h 592) (n + l) (V t) = none) : zS1 K V U e c o (20 + r) nt ns (n + 1) l (g_tl (n + l) (V t) 1 (nI n) (nI ty) (q_sI (q_sA h (o + 1) n (nI ty)) o 0 (nI (n + 1)))) (q_sA (q_sA (p_tl P U t (n + l) 0 (nI n) (nI ty) k) 644 (4 * (20 + r) + n) (nI ty)) 641 (20 + r) (nI (n + 1))) := by
  obtain ⟨O, ZT, ZL, ZM, G, Lk⟩ := Z
  have hn := hO.n
  have hne := hO.ne
  have f1 := ZM.fi T N1
  have e1 : n + 1 + l = n + l + 1 := by omega
  generalize hh3 : q_sI (q_sA h (o + 1) n (nI ty)) o 0 (nI (n + 1)) = h3
  have Ih3 : ∀ x j, ¬ (x = o ∧ j = 0) → qI h3 x j = qI h x j := fun x j q => by rw [← hh3, q_sI_n q]; rfl
  have g0 : qI h3 o 0 = nI (n + 1) := by rw [← hh3]; exact q_sI_e
  have Ah3 : ∀ x, ¬ x = o + 1 → qA h3 x = qA h x := fun x q => by rw [← hh3, qA_sI, qA_sAn q]
  have g1 : ∀ i, qA h3 (o + 1) i = if i = n then nI ty else qA h (o + 1) i := fun i => by
    rw [← hh3, qA_sI, qA_sA]
    by_cases h9 : i = n
    · rw [if_pos ⟨rfl, h9⟩, if_pos h9]
    · rw [if_neg (fun q => h9 q.2), if_neg h9]
  have hL3 : qL h3 = qL h := by rw [← hh3]; rfl
  have G3 : g_K c o [0] [1] h h3 := by rw [← hh3]; exact (g_K.rf.sO (by decide)).sI (Or.inr (Or.inl ⟨rfl, by decide⟩))
  have ZM1 : zM K V U e (fun x => x < n + 1) true l 0 (n + l) h3 k := (ZM.wk (fun x q => Nat.lt_succ_of_lt q) (Nat.le_refl _) (Nat.le_refl _)).fr (Ih3 _ _ (by omega)) rfl (by rw [hL3]) rfl (fun x hx => Ah3 x (by omega)) (fun _ _ => rfl)
  have ZM2 := ZM1.tl (P := P) (kd := 1) (nu := nI n) (ty := nI ty) (kd' := 0) (nu' := nI n) T N1 (by rw [hL3]; exact hf1) (Or.inl ⟨rfl, rfl, n, Nat.lt_succ_self n, rfl, rfl⟩)
  have K3 : p_K P 0 [68] [641, 644, 679, 680, 681, 682] k (p_tl P U t (n + l) 0 (nI n) (nI ty) k) := p_K.rf.tl (Nat.zero_le _) (by decide) (by decide) (by decide) (by decide) (by decide)
  have I3 : qI (p_tl P U t (n + l) 0 (nI n) (nI ty) k) 630 15 = 0 := by
    unfold p_tl
    rw [f1, hf1, p_dw_0, q_sI_n (by omega)]
    exact O.2
  have i68 : ∀ {i : Nat}, (¬ i = 679 ∧ ¬ i = 680 ∧ ¬ i = 681 ∧ ¬ i = 682) → qA (p_tl P U t (n + l) 0 (nI n) (nI ty) k) i = qA k i := fun q => p_tl_A q
  generalize hk3 : p_tl P U t (n + l) 0 (nI n) (nI ty) k = k3 at *
  have ZT' := ZT.kp (b := 0) (P := P) (F := [0]) (D := [1]) (J := [68]) (E := [641, 644, 679, 680, 681, 682]) hO hc (G3.tl (m := n + l) (v := V t) (kd := 1) (nu := nI n) (ty := nI ty)) ((K3.sA (y := 644) (i := 4 * (20 + r) + n) (v := nI ty) (by decide)).sA (y := 641) (i := 20 + r) (v := nI (n + 1)) (by decide)) (by decide) (by decide) (by decide)
  obtain ⟨z1, z2, z3, z4, z5, z6, z7, z8, z9⟩ := ZL
  refine ⟨⟨?_, by rw [qI_sA, qI_sA]; exact I3⟩, ZT', ⟨by omega, z2, ?_, ?_, ?_, ?_, ?_, fun i hi => ?_, fun i hi => ?_⟩, ?_, (zG.tl (G.fr (Ah3 _ (by omega)))).me e1, ?_⟩
  · rw [g_tl_I (by omega), Ih3 _ _ (by omega)]
    exact O.1
  · rw [g_tl_I (by omega)]
    exact g0
  · rw [qA_sA, if_pos ⟨rfl, rfl⟩]
  · rw [g_tl_I (by omega), Ih3 _ _ (by omega)]
    exact z5
  · rw [qA_sAn (by decide), qA_sAn (by decide), i68 (by decide)]
    exact z6
  · obtain ⟨b, q1, q2, q3⟩ := z7
    refine ⟨b, q1, ?_, ?_⟩
    · rw [g_tl_I (by omega), Ih3 _ _ (by omega)]
      exact q2
    · rw [qA_sAn (by decide), qA_sAn (by decide), i68 (by decide)]
      exact q3
  · rw [g_tl_A (by omega), g1, qA_sAn (by decide), qA_sA, i68 (by decide)]
    by_cases h9 : i = n
    · rw [if_pos h9, if_pos ⟨rfl, by omega⟩]
      exact ⟨ty, hty, rfl, rfl⟩
    · rw [if_neg h9, if_neg (fun q => h9 (by omega))]
      exact z8 i (by omega)
  · obtain ⟨u, f, v, q1, q2, q3, q4⟩ := z9 i hi
    refine ⟨u, f, v, q1, by omega, by omega, ?_⟩
    rw [g_tl_A (by omega), g_tl_A (by omega), g_tl_A (by omega), Ah3 _ (by omega), Ah3 _ (by omega), Ah3 _ (by omega), qA_sAn (by decide), qA_sAn (by decide), qA_sAn (by decide), qA_sAn (by decide), qA_sAn (by decide), qA_sAn (by decide), i68 (by decide), i68 (by decide), i68 (by decide)]
    exact q4
  · rw [e1]
    exact (ZM2.sAk (by decide)).sAk (by decide)
  · rw [e1]
    exact (Lk.fr (Ah3 _ (by omega)) (Ah3 _ (by omega))).tn (by decide)
theorem z_no (T : zTk K P X V U e) (hc : c = 11 ∨ c = 300) (hO : q_isO o) (Z : zS1 K V U e c o (20 + r) nt ns n l h k) (h4 : n < 4) (he : s.1 + 5 ≤ e) (k1 : K (s.1 + 1) = 40) (k3 : K (s.1 + 3) = 40) : zS1 K V U e c o (20 + r) nt ns (n + 1) l (g_no V nt o n (n + l) s.1 h) (p_no P U nt r n (n + l) s k) ∨ zB P e (s.1 + 5) (g_no V nt o n (n + l) s.1 h) (p_no P U nt r n (n + l) s k) := by
  obtain ⟨O, ZT, ZL, ZM, G, Lk⟩ := id Z
  have hn := hO.n
  have N1 : zN K e (s.1 + 1) := ⟨by omega, k1⟩
  have N3 : zN K e (s.1 + 3) := ⟨by omega, k3⟩
  have f1 := ZM.fi T N1
  have f3 := ZT.2.2.2.2.2.2.1.fi T N3
  have e2 : ∀ o1 k0, qL (p_fw P (s.1 + 3) o1 k0) = qL k0 := fun _ k0 => p_fw_L
  cases hf1 : p_fi (qL h 592) (n + l) (V (s.1 + 1)) with
  | some j =>
    right
    unfold g_no p_no g_n1 p_tl
    rw [hf1, g_dw_s, e2, f1, hf1, p_dw_s]
    refine zB.mk (h1 := h) (k1 := p_fw P (s.1 + 3) (p_fi (qL k 674) nt (U (s.1 + 3))) k) (n := 3) (i := s.1 + 1) T.M O (by decide) (by decide) (by omega) (by omega) ?_ O.1 (p_LW.rf.fw (by omega)) ?_
    · exact ((g_S.rf.fw.sA).sI (by omega)).tl
    · exact ((p_LW.rf.sL.sA.sA.sA.sA.sI (by decide) (by decide)).sA).sA
  | none =>
    cases hf3 : p_fi (qL h 590) nt (V (s.1 + 3)) with
    | none =>
      right
      unfold g_no p_no g_n1 p_tl
      rw [hf1, g_dw_0, f3, hf3, g_fw_0, p_fw_L, f1, hf1, p_dw_0, p_fw_0]
      exact zB.mk (h1 := h) (k1 := k) (n := 4) (i := s.1 + 3) T.M O (by decide) (by decide) (by omega) (by omega) ((g_S.rf.sA.sI (by omega)).tl) O.1 p_LW.rf ((p_LW.rf.sL.sA.sA.sA.sA.sI (by decide) (by decide)).sA.sA)
    | some ty =>
      left
      have hty := (p_fi_lt hf3).1
      have := zS1.no (P := P) T hc hO Z h4 hty N1 hf1
      unfold g_no p_no g_n1
      rw [hf1, g_dw_0, f3, hf3, g_fw_s, p_fw_s]
      exact this
end ZL
