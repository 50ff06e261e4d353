/-! THE BUILDER OF THE CLASS: a rule, its NOTs, tests and dos one after another -/
theorem y_n1_p {K : Nat → Nat} {q : Nat} {s : y_S} (hz : (y_n1 K q s).2 = 0) : q < 2 ∧ s.2 = 0 ∧ (y_le K 1 3 false 1201 0 0 (s.1 + 1, 0)).2 = 0 ∧ K (y_le K 1 3 false 1201 0 0 (s.1 + 1, 0)).1 = 5 ∧ y_n1 K q s = ((y_le K 1 3 false 1201 0 0 (s.1 + 1, 0)).1 + 1, 0) ∧ s.1 + 1 ≤ (y_le K 1 3 false 1201 0 0 (s.1 + 1, 0)).1 := by
  have h1 := y_nd_z hz
  have h2 := (y_to.le (K := K) (nr := 1) (lr := 3) (cm := false) 1201 0 0 _ _ (y_to.rf (s := y_ps (y_rm (decide (q < 2)) s)))).2.1 h1
  obtain ⟨h3, h4⟩ := y_ps_0 h2
  obtain ⟨h5, h6⟩ := y_rm_0 h3
  rw [h5] at h4 h3
  unfold y_n1 at hz ⊢
  rw [h5, h4] at h1 hz ⊢
  obtain ⟨h7, h8⟩ := y_nd_0 hz
  exact ⟨of_decide_eq_true h6, h3, h1, (y_is_c.mp h7).2, h8, (y_to.le (K := K) (nr := 1) (lr := 3) (cm := false) 1201 0 0 _ _ (y_to.rf (s := (s.1 + 1, 0)))).1⟩
section GB
variable {K Pl : Nat → Nat} {V : Nat → Int64} {e c a : Nat} {h0 h : q_Hp}
def g_NN (c nt ns o q m : Nat) (h : q_Hp) : Prop := g_P c nt ns o h ∧ qI h 589 9 = nI m ∧ qI h o 2 = nI q ∧ q ≤ 2 ∧ m ≤ 10
theorem s33_61 {nt ns o m : Nat} {Q : Option Value → q_Hp → Prop} : ∀ f q s h0 h t l2, s.2 = 0 → 3 ≤ f + q → t ≤ s.1 → g_NN c nt ns o q m h0 → g_y K Pl V e c h0 h s.1 → (y_nt K f q s).2 = 0 → (y_nt K f q s).1 ≤ e → (∀ x1 l2 h', g_y K Pl V e c (g_nts K V nt ns o m f q s h0) h' (y_nt K f q s).1 → (∃ q', g_NN c nt ns o q' m (g_nts K V nt ns o m f q s h0)) → q_wp 21 33 133 [some (.ref 589), some (.int x1), l2] [] h' Q) → q_wp 21 33 61 [some (.ref 589), some (.int (nI t)), l2] [] h Q := by
  intro f
  induction f with
  | zero =>
    intro q s h0 h t l2 hs hf ht H
    have := H.2.2.2.1
    omega
  | succ f ih =>
    intro q s h0 h t l2 hs hf ht H Y hz he fin
    have e12 := Y.e12
    have le := Y.le
    have hc := Y.c2
    have k43 := (Y.C.2.2 s.1 Y.le).2.1
    obtain ⟨P, q1, q2, q4, q5⟩ := id H
    have hn := P.2.1.n
    have hne := P.2.1.ne
    unfold y_nt at hz he fin
    unfold g_nts at fin
    refine b33_61 (fun c1 => by have := (nI_ltI (a := 1200) (by decide) (by omega)).mp c1; omega) (fun _ => b33_68 (s25 Y) (by decide) ?_)
    rintro z h2 ⟨e0, rfl⟩
    subst h2
    refine b33_72 (fun c1 => ?_) (fun c1 => ?_)
    · have n9 : ¬ y_is K 9 s = true := fun h9 => c1 (by rw [(y_is_c.mp h9).2]; rfl)
      rw [if_neg n9] at hz he fin
      rw [if_neg n9] at fin
      exact fin _ _ _ Y ⟨q, H⟩
    · have k9 : K s.1 = 9 := (nI_eq (b := 9) (by omega) (by decide)).mp c1
      have y9 : y_is K 9 s = true := y_is_c.mpr ⟨hs, k9⟩
      rw [if_pos y9] at hz he fin
      rw [if_pos y9] at fin
      have t1 := y_to.nt (K := K) f (q + 1) _ _ (y_to.rf (s := y_n1 K q s))
      obtain ⟨p1, p2, p3, p4, p5, p6⟩ := y_n1_p (t1.2.1 hz)
      have l1 : (y_le K 1 3 false 1201 0 0 (s.1 + 1, 0)).1 + 1 ≤ e := by
        have := t1.1
        rw [p5] at this
        have : (y_le K 1 3 false 1201 0 0 (s.1 + 1, 0)).1 + 1 ≤ _ := this
        rw [p5] at he
        omega
      have N0 : g_Nf c nt ns o q m 0 0 (g_n0 o q h0) := by
        refine ⟨(g_K.rf.n0 (F := [2]) (D := [2, 3]) (by decide) (by decide) (by decide)).P P hc, ?_, ?_, by omega, by omega⟩
        · unfold g_n0
          rw [q_sI_n (by omega)]
          exact q1
        · unfold g_n0
          rw [qA_sI, qA_sA, if_pos ⟨rfl, rfl⟩]
          rfl
      refine b33_77 (v0 := o) Y.ok (Y.rl P.1) (s132 (n := q) (Y.n1 (by omega)) P.2.1 q2 p1) (by decide) (fun h3 Y3 => ?_)
      have Y3 : g_y K Pl V e c (g_n0 o q h0) h3 (s.1 + 1) := Y3
      have e9 : qI h 589 9 = nI m := (Y.I (by decide)).trans q1
      have e2 : qI h3 o 2 - 1 = nI q := by
        rw [Y3.O (by omega)]
        unfold g_n0
        rw [q_sI_e]
        exact nI_pred _
      rw [e9]
      refine b33_99 (m := 5) (v0 := o) (P := fun h' => g_y K Pl V e c (g_nl K V nt ns o q m 1201 0 0 (s.1 + 1, 0) (g_n0 o q h0)) h' (y_le K 1 3 false 1201 0 0 (s.1 + 1, 0)).1 ∧ ∃ n' l', g_Nf c nt ns o q m n' l' (g_nl K V nt ns o q m 1201 0 0 (s.1 + 1, 0) (g_n0 o q h0))) Y3.ok (Y3.rl N0.1.1) (Y3.sh.oo P.2.1) ?_ (by decide) ?_
      · rw [e2]
        refine q_mV.of (q_recV rfl Y3.ok) (fun Q2 fin2 => b39_0 ?_)
        exact s39n_2 p1 (by omega) 1201 0 0 (s.1 + 1, 0) (g_n0 o q h0) h3 0 rfl (by show 1201 ≤ 1201 + (s.1 + 1); omega) (by omega) N0 Y3 p3 (by omega) (by omega) (fun h' Y' H' => fin2 _ ⟨Y', H'⟩)
      rintro h4 ⟨Y4, n', l', H4⟩
      refine b33_112 Y4.ok ?_
      rw [nI_1]
      have Y5 : g_y K Pl V e c (g_nO K V nt ns o q m s h0) _ ((y_le K 1 3 false 1201 0 0 (s.1 + 1, 0)).1 + 1) := (Y4.n1 l1).sI (o := 589) (j := 9) (v := nI m) (by decide) (by decide)
      rw [p5] at hz he fin
      refine ih (q + 1) ((y_le K 1 3 false 1201 0 0 (s.1 + 1, 0)).1 + 1, 0) _ _ (t + 1) _ rfl (by omega) (by show t + 1 ≤ _ + 1; omega) ?_ Y5 hz he fin
      refine ⟨(g_K.rf.nO (F := [2]) (D := [2, 3, 4, 5, 6]) (by decide) (by decide) (by decide) (by decide) (by decide) (by decide)).P P hc, q_sI_e, ?_, by omega, q5⟩
      unfold g_nO
      rw [q_sI_n (by omega), (g_K.nl (c := c) (F := []) (D := [2, 3, 4, 5, 6]) (by decide) (by decide) (by decide) (by decide) (by decide) _ _ _ _ _ g_K.rf).1 o 2 (fun q => by have := q.1; omega) (by simp) (by omega)]
      exact q_sI_e
/-- so many tests, and how far the codes go -/
def g_TT (c nt ns o t m q : Nat) (h : q_Hp) : Prop := g_P c nt ns o h ∧ qI h 589 9 = nI m ∧ qI h o 3 = nI t ∧ t ≤ 4 ∧ m ≤ 10 ∧ qI h c 4 = nI q
theorem s33_135 {nt ns o m : Nat} {Q : Option Value → q_Hp → Prop} {l2 : Option Value} : ∀ f t s h0 h x q, s.2 = 0 → 5 ≤ f + t → x ≤ s.1 → q ≤ s.1 → g_TT c nt ns o t m q h0 → g_y K Pl V e c h0 h s.1 → (y_ts K f t s).2 = 0 → (y_ts K f t s).1 ≤ e → (∀ x1 h', g_y K Pl V e c (g_tss K V c o m f t s h0) h' (y_ts K f t s).1 → (∃ t' q', q' ≤ (y_ts K f t s).1 ∧ g_TT c nt ns o t' m q' (g_tss K V c o m f t s h0)) → q_wp 21 33 161 [some (.ref 589), some (.int x1), l2] [] h' Q) → q_wp 21 33 135 [some (.ref 589), some (.int (nI x)), l2] [] h Q := by
  intro f
  induction f with
  | zero =>
    intro t s h0 h x q hs hf ht hq H
    have := H.2.2.2.1
    omega
  | succ f ih =>
    intro t s h0 h x q hs hf ht hq H Y hz he fin
    have e12 := Y.e12
    have le := Y.le
    have hc := Y.c2
    have k43 := (Y.C.2.2 s.1 Y.le).2.1
    obtain ⟨P, q1, q2, q4, q5, q6⟩ := id H
    have hn := P.2.1.n
    have hne := P.2.1.ne
    unfold y_ts at hz he fin
    unfold g_tss at fin
    refine b33_135 (fun c1 => by have := (nI_ltI (a := 1200) (by decide) (by omega)).mp c1; omega) (fun _ => b33_142 (s25 Y) (by decide) ?_)
    rintro z h2 ⟨e0, rfl⟩
    subst h2
    refine b33_146 (fun c1 => ?_) (fun c1 => ?_)
    · have n9 : ¬ y_is K 10 s = true := fun h9 => c1 (by rw [(y_is_c.mp h9).2]; rfl)
      rw [if_neg n9] at hz he fin
      rw [if_neg n9] at fin
      exact fin _ _ Y ⟨t, q, hq, H⟩
    · have k9 : K s.1 = 10 := (nI_eq (b := 10) (by omega) (by decide)).mp c1
      have y9 : y_is K 10 s = true := y_is_c.mpr ⟨hs, k9⟩
      rw [if_pos y9] at hz he fin
      rw [if_pos y9] at fin
      have t1 := y_to.ts (K := K) f (t + 1) _ _ (y_to.rf (s := y_te K (y_rm (decide (t < 4)) s)))
      have z1 := t1.2.1 hz
      have t4 := of_decide_eq_true (y_te_1 z1)
      have es : y_rm (decide (t < 4)) s = (s.1, 0) := by
        unfold y_rm
        rw [if_pos (decide_eq_true t4)]
        exact Prod.ext rfl hs
      rw [es] at hz he fin z1 t1
      have l1 : (y_te K (s.1, 0)).1 ≤ e := Nat.le_trans t1.1 he
      have g1 : s.1 + 1 ≤ (y_te K (s.1, 0)).1 := y_to.p1 (s0 := (s.1, 0)) (s := (s.1, 0)) y_to.rf (((y_to.rf (s := y_ps (s.1, 0))).E (K := K)).op.E.nd) z1
      refine b33_151 (s42 (q := q) (m := m) (t := t) Y P q1 (by omega) q2 t4 q6 hq z1 l1) (by decide) ?_
      rintro h3 ⟨Y3, q', q7, q8⟩
      refine b33_155 ?_
      rw [nI_1]
      have Kt := g_K.rf (h := h0) |>.te (K := K) (V := V) (c := c) (m := m) (o := o) (t := t) (a := s.1) (F := [3]) (D := [7, 12, 13]) (by decide) (by decide) (by decide) (by decide)
      refine ih (t + 1) (y_te K (s.1, 0)) _ _ (x + 1) q' z1 (by omega) (by omega) q8 ?_ Y3 hz he fin
      refine ⟨Kt.P P hc, ?_, ?_, by omega, q5, q7⟩
      · unfold g_te
        rw [g_t1_I (by omega) (by omega), q_sI_n (by omega), qI_sA, g_t1_I (by omega) (by omega)]
        exact q1
      · unfold g_te
        rw [g_t1_I (by omega) (by omega), q_sI_e]
end GB
