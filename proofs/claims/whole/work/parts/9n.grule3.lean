/-! THE BUILDER OF THE CLASS: all that a rule does, and a rule -/
section GB
variable {K Pl : Nat → Nat} {V : Nat → Int64} {e c a : Nat} {h0 h : q_Hp}
theorem g_dd_I {o d x j : Nat} {x1 x2 x3 x4 : Int32} (h9 : ¬ (x = o ∧ j = 4)) : qI (g_dd o d x1 x2 x3 x4 h0) x j = qI h0 x j := by
  unfold g_dd
  rw [q_sI_n h9]
  rfl
theorem g_dd_4 {o d : Nat} {x1 x2 x3 x4 : Int32} : qI (g_dd o d x1 x2 x3 x4 h0) o 4 = nI (d + 1) := q_sI_e
theorem g_de_I {o d m x j : Nat} (h1 : ¬ (x = 589 ∧ (j = 15 ∨ j = 16))) (h2 : ¬ (x = o ∧ (j = 4 ∨ j = 5))) : qI (g_de V o d m a h0) x j = qI h0 x j := by
  unfold g_de
  cases g_ft 3 m (V (a + 1)) h0 with
  | none => exact g_fa_I h1
  | some i =>
    show qI (g_de3 o d m a i h0) x j = _
    unfold g_de3
    split
    · rw [g_dd_I (by omega)]; rfl
    · unfold g_de2
      rw [q_sI_n (by omega), g_dd_I (by omega)]
      unfold g_de1
      split
      · rw [g_fa_I h1]; rfl
      · rfl
theorem g_de_4 {o d m : Nat} (hO : q_isO o) (hd : qI h0 o 4 = nI d) : ∃ d', d' ≤ d + 1 ∧ qI (g_de V o d m a h0) o 4 = nI d' := by
  have hn := hO.n
  unfold g_de
  cases g_ft 3 m (V (a + 1)) h0 with
  | none => exact ⟨d, by omega, (g_fa_I (by omega)).trans hd⟩
  | some i =>
    refine ⟨d + 1, by omega, ?_⟩
    show qI (g_de3 o d m a i h0) o 4 = _
    unfold g_de3
    split
    · exact g_dd_4
    · unfold g_de2
      rw [q_sI_n (by omega)]
      exact g_dd_4
def g_Df (c nt ns o d m w q : Nat) (h : q_Hp) : Prop := g_P c nt ns o h ∧ qI h 589 9 = nI m ∧ qI h 589 10 = nI w ∧ m ≤ 10 + w ∧ (∃ d', d' ≤ d ∧ qI h o 4 = nI d') ∧ d ≤ 8 ∧ w ≤ d ∧ qI h c 4 = nI q
theorem g_jo_I {nt ns o d m x j : Nat} (h1 : ¬ (x = 589 ∧ (j = 11 ∨ j = 15 ∨ j = 16))) (h2 : ¬ (x = o ∧ j = 4)) : qI (g_jo V c nt ns o d m a h0) x j = qI h0 x j := by
  unfold g_jo g_j3
  rw [q_sI_n (by omega), g_dd_I h2, g_fw_I (by omega), g_j2_I (by omega), g_fw_I (by omega)]
theorem g_se_I {o d m x j : Nat} (h1 : ¬ (x = 589 ∧ (j = 15 ∨ j = 16))) (h2 : ¬ (x = o ∧ j = 4)) (h3 : ¬ (x = c ∧ j = 4)) : qI (g_se K V c o d m a h0) x j = qI h0 x j := by
  unfold g_se g_s1
  rw [g_dd_I h2, g_t1_I h3 h1, g_xw_I h1, g_fw_I h1]
theorem s33_163 {nt ns o : Nat} {Q : Option Value → q_Hp → Prop} : ∀ f d s h0 h x m w q l2, s.2 = 0 → 9 ≤ f + d → x ≤ s.1 → q ≤ s.1 → g_Df c nt ns o d m w q h0 → g_y K Pl V e c h0 h s.1 → (y_ds K f d s).2 = 0 → K (y_ds K f d s).1 = 5 → (y_ds K f d s).1 ≤ e → (∀ x1 l2 h', g_y K Pl V e c (g_dss K V c nt ns o f d s h0) h' (y_ds K f d s).1 → (∃ d' m' w' q', q' ≤ (y_ds K f d s).1 ∧ g_Df c nt ns o d' m' w' q' (g_dss K V c nt ns o f d s h0)) → q_wp 21 33 261 [some (.ref 589), some (.int x1), l2] [] h' Q) → q_wp 21 33 163 [some (.ref 589), some (.int (nI x)), l2] [] h Q := by
  intro f
  induction f with
  | zero =>
    intro d s h0 h x m w q l2 hs hf ht hq H
    have := H.2.2.2.2.2.1
    omega
  | succ f ih =>
    intro d s h0 h x m w q l2 hs hf ht hq H Y hz h5 he fin
    have e12 := Y.e12
    have le := Y.le
    have hc := Y.c2
    have k43 := (Y.C.2.2 s.1 Y.le).2.1
    obtain ⟨P, q1, q2, q3, ⟨d', q4, q5⟩, q6, q7, q8⟩ := id H
    have hn := P.2.1.n
    have hne := P.2.1.ne
    unfold y_ds at hz he fin h5
    unfold g_dss at fin
    refine b33_163 (fun c1 => by have := (nI_ltI (a := 1200) (by decide) (by omega)).mp c1; omega) (fun _ => b33_170 (s25 Y) (by decide) ?_)
    rintro z h2 ⟨e0, rfl⟩
    subst h2
    by_cases yd : y_dw K s = true
    rotate_left 1
    · rw [if_neg yd] at hz he fin h5
      rw [if_neg yd] at fin
      exact b33_174 (fun _ => fin _ _ _ Y ⟨d, m, w, q, hq, H⟩) (fun c1 => absurd (by rw [h5]; rfl) c1)
    rw [if_pos yd] at hz he fin h5
    rw [if_pos yd] at fin
    have hK := (y_dw_c yd).2
    have t1 := y_to.ds (K := K) f (d + 1) _ _ (y_to.rf (s := y_d1 K (y_rm (decide (d < 8)) s)))
    have z1 := t1.2.1 hz
    have d8 := of_decide_eq_true (y_d1_b z1)
    have es : y_rm (decide (d < 8)) s = s := by
      unfold y_rm
      rw [if_pos (decide_eq_true d8)]
    rw [es] at hz he fin z1 t1 h5
    have l1 : (y_d1 K s).1 ≤ e := Nat.le_trans t1.1 he
    have em : g_tn h0 = m := by unfold g_tn; rw [q1, nI_clamp (by omega)]
    have ew : g_wn h0 = w := by unfold g_wn; rw [q2, nI_clamp (by omega)]
    have ed : g_dn o h0 = d' := by unfold g_dn; rw [q5, nI_clamp (by omega)]
    rw [em, ew, ed] at fin
    obtain ⟨_, kn, cs⟩ := y_d1_p z1
    -- behind one of them
    have nx : ∀ x2 h' m' w' q' b, b + 1 = (y_d1 K s).1 → s.1 + 1 ≤ b → q' ≤ b + 1 → g_y K Pl V e c (g_d1 K V c nt ns o d' m w s.1 h0) h' b → qI (g_d1 K V c nt ns o d' m w s.1 h0) 589 9 = nI m' → qI (g_d1 K V c nt ns o d' m w s.1 h0) 589 10 = nI w' → m' ≤ 10 + w' → w' ≤ w + 1 → (∃ d2, d2 ≤ d' + 1 ∧ qI (g_d1 K V c nt ns o d' m w s.1 h0) o 4 = nI d2) → qI (g_d1 K V c nt ns o d' m w s.1 h0) c 4 = nI q' → q_wp 21 33 245 [some (.ref 589), some (.int (nI x)), some (.int x2)] [] h' Q := by
      intro x2 h' m' w' q' b hb hb2 hq' Y' r1 r2 r3 r4 r5 r6
      obtain ⟨d2, r5, r7⟩ := r5
      refine b33_245 Y'.ok ?_
      rw [nI_1]
      have Y2 := Y'.n1 (show b + 1 ≤ e by omega)
      rw [hb] at Y2
      refine ih (d + 1) (y_d1 K s) _ _ (x + 1) m' w' q' _ z1 (by omega) (by omega) (by omega) ⟨?_, r1, r2, r3, ⟨d2, by omega, r7⟩, by omega, by omega, r6⟩ Y2 hz h5 he fin
      exact (g_K.rf.d1 (F := [4, 5]) (D := [8, 9, 10, 11, 12, 13]) (by decide) (by decide) (by decide) (by decide) (by decide) (by decide) (by decide) (by decide)).P P hc
    have n5 : ¬ (nI (K s.1) = 5) := fun h9 => by
      have := (nI_eq (b := 5) (by omega) (by decide)).mp h9
      omega
    refine b33_174 (fun c1 => absurd c1 n5) (fun _ => b33_178 (s25 Y) (by decide) ?_)
    rintro z h2 ⟨e0, rfl⟩
    subst h2
    have ti : (nI (K s.1)).toInt = K s.1 := nI_toInt (by omega)
    rcases cs with ⟨k1, p1⟩ | ⟨k1, p1, k2⟩ | ⟨k1, p1, k2, k3⟩ | ⟨⟨k1, k2, k3⟩, _, b5, zE, p1⟩
    · rw [p1] at l1 nx
      have l1 : s.1 + 3 ≤ e := l1
      have eg : g_d1 K V c nt ns o d' m w s.1 h0 = g_de V o d' m s.1 h0 := if_pos k1
      rw [eg] at nx
      refine b33_182 Y.ok (fun _ => ?_) (fun c1 => ?_) (fun c1 => ?_) (fun c1 => ?_)
      · refine b33_220 (s43 (m := m) (d := d') (Y.n1 (by omega)) (by omega) P.1 P.2.1 q1 (by omega) q5 (by omega)) (by decide) (fun h3 Y3 => b33_224 ?_)
        exact nx _ _ m w q (s.1 + 2) rfl (by omega) (by omega) Y3 ((g_de_I (by omega) (by omega)).trans q1) ((g_de_I (by omega) (by omega)).trans q2) (by omega) (by omega) (g_de_4 P.2.1 q5) ((g_de_I (by omega) (by omega)).trans q8)
      · have := (nI_eq (b := 12) (by omega) (by decide)).mp c1
        omega
      · have := (nI_eq (b := 13) (by omega) (by decide)).mp c1
        omega
      · rw [ti] at c1
        omega
    · rw [p1] at l1 nx
      have l1 : s.1 + 5 ≤ e := l1
      have eg : g_d1 K V c nt ns o d' m w s.1 h0 = g_nw V nt o d' w m s.1 h0 := by
        unfold g_d1
        rw [if_neg (by omega), if_pos k1]
      rw [eg] at nx
      have g9 : qI (g_nw V nt o d' w m s.1 h0) 589 9 = nI (m + 1) := g_tl_9
      have gI : ∀ {x j}, ¬ (x = 589 ∧ (j = 9 ∨ j = 10 ∨ j = 15 ∨ j = 16)) → ¬ (x = o ∧ j = 4) → qI (g_nw V nt o d' w m s.1 h0) x j = qI h0 x j := fun h1 h2 => by
        unfold g_nw
        rw [g_tl_I (by omega), g_dd_I h2, q_sI_n (by omega), g_n1_I (by omega)]
      have g10 : qI (g_nw V nt o d' w m s.1 h0) 589 10 = nI (w + 1) := by
        unfold g_nw
        rw [g_tl_I (by omega), g_dd_I (by omega), q_sI_e]
      have g4 : qI (g_nw V nt o d' w m s.1 h0) o 4 = nI (d' + 1) := by
        unfold g_nw
        rw [g_tl_I (by omega)]
        exact g_dd_4
      refine b33_182 Y.ok (fun c1 => ?_) (fun c1 => ?_) (fun c1 => ?_) (fun c1 => ?_)
      · have := (nI_eq (b := 11) (by omega) (by decide)).mp c1
        omega
      · refine b33_227 (s45 (m := m) (d := d') (w := w) (Y.n1 (by omega)) (by omega) P.1 P.2.1 P.2.2.1 P.2.2.2.1 q1 (by omega) q2 q5 (by omega)) (by decide) (fun h3 Y3 => b33_231 ?_)
        exact nx _ _ (m + 1) (w + 1) q (s.1 + 4) rfl (by omega) (by omega) Y3 g9 g10 (by omega) (by omega) ⟨_, Nat.le_refl _, g4⟩ ((gI (by omega) (by omega)).trans q8)
      · have := (nI_eq (b := 13) (by omega) (by decide)).mp c1
        omega
      · rw [ti] at c1
        omega
    · rw [p1] at l1 nx
      have l1 : s.1 + 7 ≤ e := l1
      have eg : g_d1 K V c nt ns o d' m w s.1 h0 = g_jo V c nt ns o d' m s.1 h0 := by
        unfold g_d1
        rw [if_neg (by omega), if_neg (by omega), if_pos k1]
      rw [eg] at nx
      have g4 : qI (g_jo V c nt ns o d' m s.1 h0) o 4 = nI (d' + 1) := by
        unfold g_jo g_j3
        rw [q_sI_n (by omega)]
        exact g_dd_4
      refine b33_182 Y.ok (fun c1 => ?_) (fun c1 => ?_) (fun c1 => ?_) (fun c1 => ?_)
      · have := (nI_eq (b := 11) (by omega) (by decide)).mp c1
        omega
      · have := (nI_eq (b := 12) (by omega) (by decide)).mp c1
        omega
      · refine b33_234 (s46 (m := m) (d := d') (Y.n1 (by omega)) (by omega) P q1 (by omega) q5 (by omega)) (by decide) (fun h3 Y3 => b33_238 ?_)
        exact nx _ _ m w q (s.1 + 6) rfl (by omega) (by omega) Y3 ((g_jo_I (by omega) (by omega)).trans q1) ((g_jo_I (by omega) (by omega)).trans q2) (by omega) (by omega) ⟨_, Nat.le_refl _, g4⟩ ((g_jo_I (by omega) (by omega)).trans q8)
      · rw [ti] at c1
        omega
    · have k4 : K s.1 = 14 := by omega
      obtain ⟨v1, b1, b2, _, d4, _⟩ := e_all (K := K) (P := K) (X := K) (U := fun _ => 0) (set := false) (L := 0) b5 zE
      rw [p1] at l1 nx
      have l1 : e_E K 1202 (s.1 + 5) + 1 ≤ e := l1
      have eg : g_d1 K V c nt ns o d' m w s.1 h0 = g_se K V c o d' m s.1 h0 := by
        unfold g_d1
        rw [if_neg k1, if_neg k2, if_neg k3]
      rw [eg] at nx
      have g4 : qI (g_se K V c o d' m s.1 h0) o 4 = nI (d' + 1) := g_dd_4
      refine b33_182 Y.ok (fun c1 => ?_) (fun c1 => ?_) (fun c1 => ?_) (fun c1 => ?_)
      · have := (nI_eq (b := 11) (by omega) (by decide)).mp c1
        omega
      · have := (nI_eq (b := 12) (by omega) (by decide)).mp c1
        omega
      · have := (nI_eq (b := 13) (by omega) (by decide)).mp c1
        omega
      · refine b33_241 (s48 (m := m) (d := d') (q := q) (Y.n1 (by omega)) P q1 (by omega) q5 (by omega) q8 hq v1 (by omega) (by omega)) (by decide) ?_
        rintro h3 ⟨Y3, q', r1, r2⟩
        exact nx _ _ m w q' (e_E K 1202 (s.1 + 5)) rfl (by omega) (by omega) Y3 ((g_se_I (by omega) (by omega) (by omega)).trans q1) ((g_se_I (by omega) (by omega) (by omega)).trans q2) (by omega) (by omega) ⟨_, Nat.le_refl _, g4⟩ r1
end GB
