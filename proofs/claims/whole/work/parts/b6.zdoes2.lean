/-! THE TWO READS: all that a rule does -/
section ZD
variable {Bs : Nat × q_Hp} {K P X : Nat → Nat} {V U : Nat → Int64} {e c o q r nt ns n l x t Q d w jn m f a : Nat} {v : Nat → Nat → Nat} {h h' k k' k1 : q_Hp} {s : y_S} {J D : List Nat}
theorem p_K.dss {ll : Nat} (j1 : 12 ∈ J) (j2 : 22 ∈ J) (j3 : 68 ∈ J) (j4 : 75 ∈ J) (j5 : 77 ∈ J) (j6 : 78 ∈ J) (d1 : ∀ i, (659 ≤ i ∧ i ≤ 668) ∨ (679 ≤ i ∧ i ≤ 685) → i ∈ D) : ∀ m c s k1, a ≤ s.1 → p_K P a J D k k1 → p_K P a J D k (p_dss K P X U nt ns r ll m c s k1) := by
  intro m
  induction m with
  | zero => intro c s k1 _ x; exact x
  | succ m ih =>
    intro c s k1 ha x
    unfold p_dss
    refine p_K.ite (ih _ _ _ (Nat.le_trans ha (y_to.rf.rm.d1).1) ?_) x
    have x1 : p_K P a J D k (p_d1 (8 * (20 + r) + c) (p_d0 c k1)) := (x.d0 (d1 _ (by omega)) j4 j5).d1 (d1 _ (by omega)) (d1 _ (by omega)) (d1 _ (by omega)) (d1 _ (by omega))
    refine p_K.dE ?_ (d1 _ (by omega)) (d1 _ (by omega))
    exact p_K.ite (x1.de (by omega) (d1 _ (by omega)) (d1 _ (by omega)) (d1 _ (by omega)) (d1 _ (by omega))) (p_K.ite (x1.nw ha j3 j5 (d1 _ (by omega)) (d1 _ (by omega)) (d1 _ (by omega)) (d1 _ (by omega)) (d1 _ (by omega)) (d1 _ (by omega)) (d1 _ (by omega))) (p_K.ite (x1.jo (by omega) (by omega) (by omega) j4 (d1 _ (by omega)) (d1 _ (by omega)) (d1 _ (by omega)) (d1 _ (by omega)) (d1 _ (by omega))) (x1.se2 ha j1 j2 j6 (d1 _ (by omega)) (d1 _ (by omega)) (d1 _ (by omega)) (d1 _ (by omega)) (d1 _ (by omega)) (d1 _ (by omega)) (d1 _ (by omega)))))
theorem p_d0_s {k : q_Hp} : p_d0 (d + 1) k = k := if_neg (Nat.succ_ne_zero d)
/-- one thing -/
theorem z_d1 (T : zTk K P X V U e) (hc : c = 11 ∨ c = 300) (hO : q_isO o) (he12 : e ≤ 1200) (Z : zS4 Bs K V U e c o (20 + r) nt ns n l x t Q d w jn v h k) (hd : d < 8) (hQ : Q ≤ s.1) (hw : y_dw K s = true) (hz : (y_d1 K s).2 = 0) (he : (y_d1 K s).1 ≤ e) : (∃ v' Q' w' jn', Q' ≤ (y_d1 K s).1 ∧ zS4 Bs K V U e c o (20 + r) nt ns n l x t Q' (d + 1) w' jn' v' (g_d1 K V c nt ns o d (n + l + w) w s.1 h) (p_dE r d (8 * (20 + r) + d) (p_dd1 K P X U nt ns r (8 * (20 + r) + d) l w jn (n + l + w) s (p_d1 (8 * (20 + r) + d) k)))) ∨ zB P e (y_d1 K s).1 (g_d1 K V c nt ns o d (n + l + w) w s.1 h) (p_dE r d (8 * (20 + r) + d) (p_dd1 K P X U nt ns r (8 * (20 + r) + d) l w jn (n + l + w) s (p_d1 (8 * (20 + r) + d) k))) := by
  obtain ⟨p0, p1, cs⟩ := y_d1_p hz
  unfold g_d1 p_dd1
  rcases cs with ⟨k1, p2⟩ | ⟨k1, p2, k3⟩ | ⟨k1, p2, k3, k5⟩ | ⟨⟨k1, k2, k3⟩, k4, b5, zE, p2⟩
  · rw [p2] at he ⊢
    rw [if_pos k1, if_pos k1]
    rcases z_de T hc hO Z hd he p1 with ⟨v', Z2⟩ | B
    · exact Or.inl ⟨v', Q, w, jn, by show Q ≤ s.1 + 3; omega, Z2⟩
    · exact Or.inr B
  · rw [p2] at he ⊢
    rw [if_neg (show ¬ K s.1 = 11 by omega), if_neg (show ¬ K s.1 = 11 by omega), if_pos k1, if_pos k1]
    rcases z_nw T hc hO Z hd he p1 k3 with ⟨v', Z2⟩ | B
    · exact Or.inl ⟨v', Q, w + 1, jn, by show Q ≤ s.1 + 5; omega, Z2⟩
    · exact Or.inr B
  · rw [p2] at he ⊢
    rw [if_neg (show ¬ K s.1 = 11 by omega), if_neg (show ¬ K s.1 = 11 by omega), if_neg (show ¬ K s.1 = 12 by omega), if_neg (show ¬ K s.1 = 12 by omega), if_pos k1, if_pos k1]
    rcases z_jo T hc hO Z hd he p1 k3 k5 with ⟨v', Z2⟩ | B
    · exact Or.inl ⟨v', Q, w, jn + 2, by show Q ≤ s.1 + 7; omega, Z2⟩
    · exact Or.inr B
  · rw [p2] at he ⊢
    rw [if_neg k1, if_neg k1, if_neg k2, if_neg k2, if_neg k3, if_neg k3]
    rcases z_se T hc hO he12 Z hd hQ he p1 k4 zE b5 with ⟨v', Q', q1, Z2⟩ | B
    · exact Or.inl ⟨v', Q', w, jn, q1, Z2⟩
    · exact Or.inr B
theorem z_dss (T : zTk K P X V U e) (hc : c = 11 ∨ c = 300) (hO : q_isO o) (he12 : e ≤ 1200) : ∀ m d (s : y_S) Q w jn v h k, zS4 Bs K V U e c o (20 + r) nt ns n l x t Q d w jn v h (p_d0 d k) → Q ≤ s.1 → (y_ds K m d s).2 = 0 → (y_ds K m d s).1 ≤ e → (∃ d' Q' w' jn' v', Q' ≤ (y_ds K m d s).1 ∧ zS4 Bs K V U e c o (20 + r) nt ns n l x t Q' d' w' jn' v' (g_dss K V c nt ns o m d s h) (p_d0 d' (p_dss K P X U nt ns r l m d s k))) ∨ zB P e (y_ds K m d s).1 (g_dss K V c nt ns o m d s h) (p_dss K P X U nt ns r l m d s k) := by
  have ho := hO.n
  intro m
  induction m with
  | zero => intro d s Q w jn v h k Z hQ _ _; exact Or.inl ⟨d, Q, w, jn, v, hQ, Z⟩
  | succ m ih =>
    intro d s Q w jn v h k Z hQ hz he
    unfold y_ds at hz he ⊢
    unfold g_dss p_dss
    by_cases yd : y_dw K s = true
    rotate_left 1
    · rw [if_neg yd, if_neg yd, if_neg yd]
      exact Or.inl ⟨d, Q, w, jn, v, hQ, Z⟩
    rw [if_pos yd] at hz he
    rw [if_pos yd, if_pos yd, if_pos yd]
    have t1 := y_to.ds (K := K) m (d + 1) _ _ (y_to.rf (s := y_d1 K (y_rm (decide (d < 8)) s)))
    have z1 := t1.2.1 hz
    have d8 := of_decide_eq_true (y_d1_b z1)
    have es : y_rm (decide (d < 8)) s = s := by
      unfold y_rm
      rw [if_pos (decide_eq_true d8)]
    rw [es] at hz he z1 t1 ⊢
    obtain ⟨_, ⟨_, z2, _⟩, _, ⟨M, _, _⟩, ⟨n1, n2, n3, n4, n5, n6, n7, n8⟩, _, _⟩ := id Z
    have n4' := z2.1
    have l6 := z2.2.1
    have em : g_tn h = n + l + w := by unfold g_tn; rw [M.1, nI_clamp (by omega)]
    have ew : g_wn h = w := by unfold g_wn; rw [n6, nI_clamp (by omega)]
    have ed : g_dn o h = d := by unfold g_dn; rw [n4, nI_clamp (by omega)]
    have e68 : p_n 1 68 k = n + l + w := by
      have := M.2.1
      rw [p_d0_I (by decide)] at this
      exact p_n_e (fun _ => this) (fun q => absurd q (by decide)) (by omega)
    have e77 : p_n d 77 k = w := p_n_e (fun q => by
      have := n7
      unfold p_d0 at this
      rw [if_neg q] at this
      exact this) (fun q => by omega) (by omega)
    have e75 : p_n d 75 k = jn := p_n_e (fun q => by
      have := n8
      unfold p_d0 at this
      rw [if_neg q] at this
      exact this) (fun q => by omega) (by omega)
    rw [em, ew, ed, e68, e77, e75]
    unfold p_ds
    rcases z_d1 T hc hO he12 Z d8 hQ yd z1 (Nat.le_trans t1.1 he) with ⟨v', Q', w', jn', q1, Z2⟩ | B
    · exact ih (d + 1) (y_d1 K s) Q' w' jn' v' _ _ (by rw [p_d0_s]; exact Z2) q1 hz he
    · refine Or.inr (B.fr T.M (g_S.dss (by omega) (by omega) _ _ _ _ g_S.rf) ?_ t1.1)
      exact (p_K.dss (J := [12, 22, 68, 75, 77, 78]) (D := [659, 660, 661, 662, 663, 664, 665, 666, 667, 668, 679, 680, 681, 682, 683, 684, 685]) (by decide) (by decide) (by decide) (by decide) (by decide) (by decide) (fun i hi => by
        simp only [List.mem_cons, List.not_mem_nil, or_false]
        omega) _ _ _ _ (Nat.le_refl _) p_K.rf).2.2.2
/-- from the tests to what is done -/
theorem zS3.d0 (hc : c = 11 ∨ c = 300) (hO : q_isO o) (Z : zS3 Bs K V U e c o (20 + r) nt ns n l x t Q h k) (Tj : zTj nt (n + l) h) (i4 : qI h o 4 = 0) (i5 : qI h o 5 = 0) (i10 : qI h 589 10 = 0) (i11 : qI h 589 11 = 0) (e9 : qA k 659 (20 + r) = 0) : zS4 Bs K V U e c o (20 + r) nt ns n l x t Q 0 0 0 (fun _ _ => 0) h (p_d0 0 k) := by
  obtain ⟨⟨O, ZT, ZL, ZM, G, Lk⟩, ZX, Zt, ZC⟩ := Z
  have rA : ∀ i, ¬ i = 683 → qA (p_d0 0 k) i = qA k i := fun i hi => p_d0_A hi
  have rI : ∀ i, ¬ i = 75 ∧ ¬ i = 77 → qI (p_d0 0 k) 630 i = qI k 630 i := fun i hi => p_d0_I hi
  have rL : qL (p_d0 0 k) = qL k := p_d0_L
  have l6 := ZL.2.1
  have r83 : ∀ i, i < 6 → qA (p_d0 0 k) 683 i = 0 := by
    intro i hi
    have z6 : ∀ a k, i < a → qA (p_z6 a k) 683 i = 0 := by
      intro a
      induction a with
      | zero => intro k h9; omega
      | succ a ih =>
        intro k h9
        unfold p_z6
        by_cases h8 : i = a
        · rw [h8, qA_sAe]
        · rw [qA_sAp (by omega)]
          exact ih k (by omega)
    exact z6 6 _ hi
  have r77 : qI (p_d0 0 k) 630 77 = nI 0 := p_d0_77 (fun q => absurd rfl q) (fun _ => rfl)
  have r75 : qI (p_d0 0 k) 630 75 = nI 0 := p_d0_75 (fun q => absurd rfl q) (fun _ => rfl)
  generalize p_d0 0 k = k1 at *
  refine ⟨⟨O.1, (rI _ (by decide)).trans O.2⟩, ⟨ZT.fr rfl rfl (rI _ (by decide)) (rI _ (by decide)) rfl rfl (by rw [rL]) (by rw [rL]) rfl rfl rfl (rA _ (by decide)) (rA _ (by decide)) (rA _ (by decide)), ZL.fr2 (fun _ _ => rfl) (fun _ _ _ => rfl) (fun y h1 h2 => rA y (by omega)), ZX.fr rfl (fun _ _ => rfl) (fun y hy => rA y (by omega)), Zt.fr zA.rf (Nat.le_refl _) rfl rfl (fun _ _ _ _ => rfl) (fun y hy => rA y (by omega))⟩, ZC.fr rfl (rI _ (by decide)) zA.rf (fun y hy => rA y (by omega)), ⟨ZM.fr rfl (rI _ (by decide)) rfl (by rw [rL]) (fun _ _ => rfl) (fun y hy => rA y (by omega)), Lk, Tj⟩, ⟨by decide, by decide, by decide, i4, by rw [rA 659 (by decide)]; exact e9, i10, r77, r75⟩, fun f hf => absurd hf (Nat.not_lt_zero f), ?_⟩
  have no : ∀ (p : Nat → Prop), (∀ f, f < 0 → p f) := fun p f hf => absurd hf (Nat.not_lt_zero f)
  refine ⟨fun j x hj _ _ _ => ⟨fun _ => no _, fun _ => G j hj⟩, fun j x hj _ _ _ => ⟨fun _ => no _, fun _ => G j hj⟩, fun x hx => absurd hx (Nat.not_lt_zero x), no _, fun x hx => ⟨fun _ => no _, fun _ => r83 x (by omega)⟩, fun x hx => ?_, fun x hx => ?_, 0, by decide, i5, fun i hi => ?_⟩
  · rw [i11, b_0]
    exact ⟨fun q => absurd q (by decide), fun ⟨f, hf, _⟩ => absurd hf (Nat.not_lt_zero f)⟩
  · exact ⟨fun ⟨f, hf, _⟩ => absurd hf (Nat.not_lt_zero f), fun ⟨f, hf, _⟩ => absurd hf (Nat.not_lt_zero f)⟩
  · rw [Nat.zero_testBit]
    exact ⟨fun q => absurd q (by decide), fun ⟨f, hf, _⟩ => absurd hf (Nat.not_lt_zero f)⟩
end ZD
