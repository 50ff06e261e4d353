/-! THE TWO READS: a rule that is told -/
def zRu (c nt ns Q : Nat) (h k : q_Hp) (r : Nat) : Prop := ∃ W, r_cR h (g_ro c r) W ∧ zmR k (20 + r) W ∧ q_wR (zB0 nt ns Q c h) W
section ZN
variable {K P X : Nat → Nat} {V U : Nat → Int64} {e c o q nt ns n l x t Q d w jn m f a nr np : Nat} {h h' k k' : q_Hp} {s : y_S} {F D : List Nat}
theorem z_tw (T : zTk K P X V U e) (N1 : zN K e a) (R1 : zna K V U e (qL h 9) (qL k 676) nr) (R2 : zna K V U e (qL h 10) (qL k 677) np) (O : zO h k) : (g_tw (V a) nr np a h = h ∧ p_tw P U a nr np k = k ∧ p_fi (qL h 9) nr (V a) = none) ∨ ∀ h' k', g_S (g_tw (V a) nr np a h) h' → p_LW P (a + 1) (p_tw P U a nr np k) k' → zB P e (a + 1) h' k' := by
  have f1 := R1.fi T N1
  have f2 := R2.fi T N1
  unfold g_tw p_tw
  rw [f1, f2]
  cases h1 : p_fi (qL h 9) nr (V a) with
  | some j =>
    right
    rw [g_dw_s, p_dw_s]
    intro h' k' S L
    refine zB.mk (h1 := h) (k1 := k) (n := 3) (i := a) T.M O (by decide) (by decide) N1.1 (Nat.lt_succ_self a) ?_ O.1 p_LW.rf ?_
    · exact g_S.trans (g_S.rf.dw) S
    · have fx : ∀ o, p_dw P a o (p_wr P 3 a k) = p_wr P 3 a k := by
        intro o
        cases o with
        | none => exact p_dw_0
        | some j2 =>
          rw [p_dw_s]
          have z := zf.wr (k := k) (k1 := k) (n := 3) (i := a) T.M N1.1 O.2 p_LW.rf
          show (if _ then _ else _) = _
          rw [if_neg]
          rw [z.1, z.2]
          intro q
          rcases q with q | q | q
          · exact absurd q (by decide)
          · exact Int32.lt_irrefl q
          · exact Int32.lt_irrefl q.2
      rw [fx] at L
      exact L
  | none =>
    rw [g_dw_0, p_dw_0]
    cases h2 : p_fi (qL h 10) np (V a) with
    | some j =>
      right
      rw [g_dw_s, p_dw_s]
      intro h' k' S L
      exact zB.mk (h1 := h) (k1 := k) (n := 3) (i := a) T.M O (by decide) (by decide) N1.1 (Nat.lt_succ_self a) S O.1 p_LW.rf L
    | none =>
      left
      rw [g_dw_0, p_dw_0]
      exact ⟨rfl, rfl, rfl⟩
theorem g_Kc.lf (hc : c = 11 ∨ c = 300) (hO : q_isO o) : ∀ m n l s h1, g_Kc c h h1 → g_Kc c h (g_lf K V nt ns o m n l s h1) := by
  intro m
  induction m with
  | zero => intro n l s h1 H; exact H
  | succ m ih =>
    intro n l s h1 H
    unfold g_lf
    exact g_Kc.ite (ih _ _ _ _ (H.no hc hO)) (g_Kc.ite (ih _ _ _ _ (H.li hc hO)) (g_Kc.ite (ih _ _ _ _ (H.sIo hc hO)) H))
theorem g_Kc.nl {k aa : Nat} (hc : c = 11 ∨ c = 300) (hO : q_isO o) : ∀ m n l s h1, g_Kc c h h1 → g_Kc c h (g_nl K V nt ns o k aa m n l s h1) := by
  intro m
  induction m with
  | zero => intro n l s h1 H; exact H
  | succ m ih =>
    intro n l s h1 H
    unfold g_nl
    exact g_Kc.ite (ih _ _ _ _ (H.nn hc hO)) (g_Kc.ite (ih _ _ _ _ (H.nk hc hO)) H)
theorem g_Kc.nts (hc : c = 11 ∨ c = 300) (hO : q_isO o) : ∀ f q s h1, g_Kc c h h1 → g_Kc c h (g_nts K V nt ns o m f q s h1) := by
  intro f
  induction f with
  | zero => intro q s h1 H; exact H
  | succ f ih =>
    intro q s h1 H
    unfold g_nts
    exact g_Kc.ite (ih _ _ _ ((g_Kc.nl hc hO _ _ _ _ _ (((H.sO hc hO (by decide)).sO hc hO (by decide)).sIo hc hO)).sI (by omega))) H
theorem g_Kc.zA (H : g_Kc c h h') : zA c q h h' := fun i _ => ⟨by rw [H.2.1], by rw [H.2.2]⟩
/-- the head of a rule -/
theorem z_ru0 (T : zTk K P X V U e) (hc : c = 11 ∨ c = 300) (hr : nr < 20) (N1 : zN K e (s.1 + 1)) (R1 : zna K V U e (qL h 9) (qL k 676) nr) (R2 : zna K V U e (qL h 10) (qL k 677) np) (O : zO h k) (ZT : zT K V U e c nt ns h k) : (zS1 K V U e c (g_ro c nr) (20 + nr) nt ns 0 0 (g_ru0 V c nr np s.1 h) (p_ru0 P U nr np s k) ∧ (g_ru0 V c nr np s.1 h) = q_sI (q_sI (q_sI (g_rc (g_ro c nr) (q_sR h 589 13 (g_ro c nr))) 589 9 0) 589 10 0) 589 11 0 ∧ qI (g_ru0 V c nr np s.1 h) 589 10 = 0 ∧ qI (g_ru0 V c nr np s.1 h) 589 11 = 0) ∨ ∀ h' k', g_S (g_ru0 V c nr np s.1 h) h' → p_LW P (s.1 + 2) (p_ru0 P U nr np s k) k' → zB P e (s.1 + 2) h' k' := by
  have hO : q_isO (g_ro c nr) := ⟨c, nr, hc, hr, rfl⟩
  have hne := hO.ne
  rcases z_tw T N1 R1 R2 O with ⟨e1, e2, _⟩ | B
  · left
    have r0 : ∀ j, j < 7 → qI (g_ru0 V c nr np s.1 h) (g_ro c nr) j = 0 := fun j hj => g_ru0_0 (by omega) hj
    have rA : qA (g_ru0 V c nr np s.1 h) = qA h := g_ru0_A
    have rL : qL (g_ru0 V c nr np s.1 h) = qL h := g_ru0_L
    have eh : g_ru0 V c nr np s.1 h = q_sI (q_sI (q_sI (g_rc (g_ro c nr) (q_sR h 589 13 (g_ro c nr))) 589 9 0) 589 10 0) 589 11 0 := by
      unfold g_ru0
      rw [e1]
    have rI : ∀ x j, ¬ (x = 589 ∧ (j = 9 ∨ j = 10 ∨ j = 11)) → ¬ x = g_ro c nr → qI (g_ru0 V c nr np s.1 h) x j = qI h x j := fun x j h1 h2 => by
      rw [eh, q_sI_n (by omega), q_sI_n (by omega), q_sI_n (by omega), g_rc_I h2]
      rfl
    have r9 : qI (g_ru0 V c nr np s.1 h) 589 9 = 0 := by
      rw [eh, q_sI_n (by omega), q_sI_n (by omega), q_sI_e]
    have r10 : qI (g_ru0 V c nr np s.1 h) 589 10 = 0 := by
      rw [eh, q_sI_n (by omega), q_sI_e]
    have r11 : qI (g_ru0 V c nr np s.1 h) 589 11 = 0 := by
      rw [eh, q_sI_e]
    have k15 : qI (p_ru0 P U nr np s k) 630 15 = 0 := by
      unfold p_ru0
      rw [q_sI_n (by omega), qI_sA, qI_sA, qI_sA, qI_sA, qI_sA, qI_sA, q_sI_n (by omega), qI_sL, e2]
      exact O.2
    have k68 : qI (p_ru0 P U nr np s k) 630 68 = 0 := by
      unfold p_ru0
      rw [q_sI_e]
    have kI : ∀ j, ¬ j = 15 ∧ ¬ j = 16 ∧ ¬ j = 20 ∧ ¬ j = 68 → qI (p_ru0 P U nr np s k) 630 j = qI k 630 j := fun j hj => p_ru0_I hj
    have kz : ∀ x, (x = 641 ∨ x = 642 ∨ x = 643 ∨ x = 648 ∨ x = 654 ∨ x = 659) → qA (p_ru0 P U nr np s k) x (20 + nr) = 0 := fun x hx => p_ru0_z hx
    have kA : ∀ x, ¬ (x = 641 ∨ x = 642 ∨ x = 643 ∨ x = 648 ∨ x = 654 ∨ x = 659) → qA (p_ru0 P U nr np s k) x = qA k x := fun x hx => p_ru0_A (by omega)
    have kL : ∀ x, ¬ x = 676 → qL (p_ru0 P U nr np s k) x = qL k x := fun x hx => p_ru0_L hx
    refine ⟨⟨⟨(rI _ _ (by omega) (by omega)).trans O.1, k15⟩, ZT.fr (rI _ _ (by omega) (by omega)) (rI _ _ (by omega) (by omega)) (kI _ (by decide)) (kI _ (by decide)) (by rw [rL]) (by rw [rL]) (kL _ (by decide)) (kL _ (by decide)) (by rw [rA]) (by rw [rA]) (by rw [rA]) (kA _ (by decide)) (kA _ (by decide)) (kA _ (by decide)), ⟨by decide, by decide, r0 0 (by decide), kz _ (by decide), r0 1 (by decide), kz _ (by decide), ⟨0, by decide, r0 6 (by decide), kz _ (by decide)⟩, fun i hi => absurd hi (Nat.not_lt_zero i), fun i hi => absurd hi (Nat.not_lt_zero i)⟩, ⟨r9, k68, fun j hj => absurd hj (Nat.not_lt_zero j), fun i j _ hj => absurd hj (Nat.not_lt_zero j)⟩, fun j hj => absurd hj (Nat.not_lt_zero j), ⟨fun y hy => absurd hy (Nat.not_lt_zero y), fun i j hi => absurd hi (Nat.not_lt_zero i)⟩⟩, eh, r10, r11⟩
  · right
    intro h' k' S L
    refine B h' k' ?_ ?_
    · refine g_S.trans ?_ S
      have hx : ¬ g_ro c nr = 589 := by omega
      have S0 : g_S (g_tw (V (s.1 + 1)) nr np (s.1 + 1) h) (q_sR (g_tw (V (s.1 + 1)) nr np (s.1 + 1) h) 589 13 (g_ro c nr)) := g_S.rf.sR
      exact ((((((((((S0.sI (by omega)).sI (by omega)).sI (by omega)).sI (by omega)).sI (by omega)).sI (by omega)).sI (by omega)).sI (by omega)).sI (by omega)).sI (by omega))
    · refine p_LW.trans ?_ L
      exact ((((((((p_LW.rf.sL.sI (by decide) (by decide)).sA).sA).sA).sA).sA).sA).sI (by decide) (by decide))
theorem y_r1_le {K : Nat → Nat} {s : y_S} : s.1 + 2 ≤ (y_r1 K s).1 := (y_to.le (K := K) (nr := 4) (lr := 6) (cm := true) 1201 0 0 _ _ (y_to.rf (s := (s.1 + 2, 0)))).1
end ZN
