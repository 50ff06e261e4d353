/-! THE BUILDER OF THE CLASS: a proc, and all of a text -/
def g_pc (K : Nat → Nat) (V : Nat → Int64) (c rF pF nr np a : Nat) (h : q_Hp) : q_Hp := q_sI (q_sA (g_rw K V c rF pF 1202 0 (a + 2, 0) (-1, -1) (g_tw (V (a + 1)) nr np (a + 1) h)).2 (c + 5) np (g_rw K V c rF pF 1202 0 (a + 2, 0) (-1, -1) (g_tw (V (a + 1)) nr np (a + 1) h)).1) c 3 (nI (np + 1))
def g_tt (K : Nat → Nat) (V : Nat → Int64) (c rF pF : Nat) : Nat → Nat → Nat → Nat → Nat → y_S → q_Hp → q_Hp
  | 0, _, _, _, _, _, h => h
  | m + 1, nt, ns, nr, np, s, h => if y_is K 0 s = true then g_tt K V c rF pF m (nt + 1) ns nr np (y_ty K nt s) (g_ty K V c nt s.1 h) else if y_is K 2 s = true then g_tt K V c rF pF m nt (ns + 1) nr np (y_so K ns s) (g_so V c nt ns s.1 h) else if y_is K 3 s = true then g_tt K V c rF pF m nt ns (nr + 1) np (y_ru K nr s) (g_ru K V c nt ns nr np s.1 h) else if y_is K 4 s = true then g_tt K V c rF pF m nt ns nr (np + 1) (y_pr K np s) (g_pc K V c rF pF nr np s.1 h) else h
theorem y_pr_p {K : Nat → Nat} {np : Nat} {s : y_S} (hz : (y_pr K np s).2 = 0) : np < 10 ∧ K (s.1 + 1) = 40 ∧ (y_ro K 1202 0 (s.1 + 2, 0)).2 = 0 ∧ y_pr K np s = ((y_ro K 1202 0 (s.1 + 2, 0)).1 + 1, 0) ∧ K (y_ro K 1202 0 (s.1 + 2, 0)).1 = 5 := by
  have h1 := y_nd_z hz
  have h2 := (y_to.ro (K := K) 1202 0 _ _ (y_to.rf (s := y_nn K (decide (np < 10)) (y_ps s)))).2.1 h1
  obtain ⟨q1, q2, q3, q4, q5⟩ := y_hd h2
  unfold y_pr at hz ⊢
  rw [q4] at h1 hz ⊢
  obtain ⟨q6, q7⟩ := y_nd_0 hz
  exact ⟨of_decide_eq_true q3, q2, h1, q7, (y_is_c.mp q6).2⟩
/-- what a whole rule leaves as it is -/
theorem g_ru_K {K : Nat → Nat} {V : Nat → Int64} {c nt ns nr np a : Nat} {h : q_Hp} : g_K c (g_ro c nr) [0, 1, 2, 3, 4, 5, 6] [1, 2, 3, 4, 5, 6, 7, 8, 9, 10, 11, 12, 13] (g_ru0 V c nr np a h) (g_ru4 K V c nt ns nr a (g_ru3 K V c nr a (g_ru2 K V c nt ns nr a (g_ru1 K V c nt ns nr np a h)))) := by
  have K1 : g_K c (g_ro c nr) [0, 1, 6] [1, 4, 5, 6] (g_ru0 V c nr np a h) (g_ru1 K V c nt ns nr np a h) := g_K.lf (by decide) (by decide) (by decide) (by decide) (by decide) (by decide) (by decide) _ _ _ _ _ g_K.rf
  have K2 : ∀ h, g_K c (g_ro c nr) [2] [2, 3, 4, 5, 6] h (g_ru2 K V c nt ns nr a h) := fun h => g_K.nts (by decide) (by decide) (by decide) (by decide) (by decide) (by decide) _ _ _ _ g_K.rf
  have K3 : ∀ h, g_K c (g_ro c nr) [3] [7, 12, 13] h (g_ru3 K V c nr a h) := fun h => g_K.tss (by decide) (by decide) (by decide) (by decide) _ _ _ _ g_K.rf
  have K4 : ∀ h, g_K c (g_ro c nr) [4, 5] [8, 9, 10, 11, 12, 13] h (g_ru4 K V c nt ns nr a h) := fun h => g_K.dss (by decide) (by decide) (by decide) (by decide) (by decide) (by decide) (by decide) (by decide) _ _ _ _ g_K.rf
  exact (((K1.mono (by decide) (by decide)).trans ((K2 _).mono (by decide) (by decide))).trans ((K3 _).mono (by decide) (by decide))).trans ((K4 _).mono (by decide) (by decide))
section GB
variable {K Pl : Nat → Nat} {V : Nat → Int64} {e c a : Nat} {h0 h : q_Hp}
theorem g_ru_I {nt ns nr np x j : Nat} (h1 : ¬ (x = 589 ∧ (j = 9 ∨ j = 10 ∨ j = 11 ∨ j = 15 ∨ j = 16))) (h2 : ¬ x = g_ro c nr) (h3 : ¬ (x = c ∧ (j = 2 ∨ j = 4))) : qI (g_ru K V c nt ns nr np a h0) x j = qI h0 x j := by
  unfold g_ru
  rw [q_sI_n (by omega), g_ru_K.1 x j (fun q => h1 ⟨q.1, by rcases q.2 with q | q | q | q <;> omega⟩) (fun q => h2 q.1) (by omega)]
  exact g_ru0_I h1 h2
theorem g_ru_A {nt ns nr np x : Nat} (h1 : ¬ (x = 593 ∨ x = 594 ∨ x = 595 ∨ x = 596 ∨ x = c + 6 ∨ x = c + 7)) (h2 : x < g_ro c nr + 1 ∨ g_ro c nr + 13 < x) : qA (g_ru K V c nt ns nr np a h0) x = qA h0 x := by
  show qA (g_ru4 K V c nt ns nr a (g_ru3 K V c nr a (g_ru2 K V c nt ns nr a (g_ru1 K V c nt ns nr np a h0)))) x = _
  rw [g_ru_K.2.1 x h1 (fun i hi => by simp at hi; omega), g_ru0_A]
theorem g_ru_L {nt ns nr np x : Nat} (h1 : ¬ x = 592) : qL (g_ru K V c nt ns nr np a h0) x = qL h0 x := by
  show qL (g_ru4 K V c nt ns nr a (g_ru3 K V c nr a (g_ru2 K V c nt ns nr a (g_ru1 K V c nt ns nr np a h0)))) x = _
  rw [g_ru_K.2.2.1 x h1, g_ru0_L]
theorem s52 {rF pF nr np D : Nat} {s : y_S} (hs : s.2 = 0) (Y : g_y K Pl V e c h0 h s.1) (hr : qI h0 c 2 = nI nr) (h20 : nr ≤ 20) (hp : qI h0 c 3 = nI np) (S : g_SN rF pF h0) (hr1 : nr ≤ rF) (hp1 : np ≤ pF) (hD : qI h0 c 5 = nI D) (hDa : D ≤ s.1) (hz : (y_pr K np s).2 = 0) (he : (y_pr K np s).1 ≤ e) : q_mV 21 52 [.ref 589] h (fun h' => g_y K Pl V e c (g_pc K V c rF pF nr np s.1 h0) h' (y_pr K np s).1 ∧ ∃ D', qI (g_pc K V c rF pF nr np s.1 h0) c 5 = nI D' ∧ D' ≤ (y_pr K np s).1) := by
  refine q_mV.of (q_recV rfl Y.ok) (fun Q fin => ?_)
  have hc := Y.c2
  obtain ⟨p10, k40, z1, p1, k5⟩ := y_pr_p hz
  have t1 : s.1 + 2 ≤ (y_ro K 1202 0 (s.1 + 2, 0)).1 := (y_to.ro (K := K) 1202 0 _ _ (y_to.rf (s := (s.1 + 2, 0)))).1
  rw [p1] at he fin
  have he : (y_ro K 1202 0 (s.1 + 2, 0)).1 + 1 ≤ e := he
  unfold g_pc at fin
  refine b52_0 Y.ok (s32 (Y.n1 (by omega)) (by omega) hr h20 hp (by omega) S.1 S.2.1 hr1 S.2.2.1 S.2.2.2 hp1) (by decide) (fun h1 Y1 => ?_)
  have Y1 : g_y K Pl V e c (g_tw (V (s.1 + 1)) nr np (s.1 + 1) h0) h1 (s.1 + 2) := Y1
  generalize hh1 : g_tw (V (s.1 + 1)) nr np (s.1 + 1) h0 = h1g at *
  have I1 : ∀ {x j}, ¬ (x = 589 ∧ (j = 15 ∨ j = 16)) → qI h1g x j = qI h0 x j := fun h9 => by rw [← hh1]; exact g_tw_I h9
  have S1 : g_SN rF pF h1g := by
    unfold g_SN
    rw [I1 (by omega), I1 (by omega)]
    exact S
  refine b52_14 (n := 20) (s53 (d := 0) (m := 1202) (s := (s.1 + 2, 0)) (D := D) (s53_all 1202) (by decide) rfl (by omega) S1 ((I1 (by omega)).trans hD) (by show D ≤ s.1 + 2; omega) Y1 z1 (by omega)) (by decide) ?_
  rintro z h2 ⟨rfl, Y2, D', q1, q2, q3⟩
  have n3 : qI (g_rw K V c rF pF 1202 0 (s.1 + 2, 0) (-1, -1) h1g).2 c 3 = nI np := by
    rw [(g_Kd.rw (K := K) (V := V) (c := c) (rF := rF) (pF := pF) 1202 0 (s.1 + 2, 0) (-1, -1) h1g g_Kd.rf).1 c 3 (by omega) (by omega), I1 (by omega)]
    exact hp
  refine b52_19 (v0 := c) Y2.ok Y2.bk (s14 (np := np) (Y2.n1 he) n3 p10) (by decide) (fun h3 Y3 => b52_38 (fin _ ⟨Y3, D', ?_, ?_⟩))
  · rw [q_sI_n (by omega)]
    exact q1
  · show D' ≤ _ + 1
    omega
/-- what stands between two tells -/
def g_FF (c nt ns nr np q D rF pF a : Nat) (h : q_Hp) : Prop := qI h c 0 = nI nt ∧ nt ≤ 12 ∧ qI h c 1 = nI ns ∧ ns ≤ 12 ∧ qI h c 2 = nI nr ∧ nr ≤ 20 ∧ qI h c 3 = nI np ∧ np ≤ 10 ∧ qI h c 4 = nI q ∧ q ≤ a ∧ qI h c 5 = nI D ∧ D ≤ a ∧ g_SN rF pF h ∧ nr ≤ rF ∧ np ≤ pF
theorem y_tp_f {K : Nat → Nat} {m : Nat} {c : y_T} {s : y_S} (h : ¬ s.2 = 0) : y_tp K m c s = (c, s) := by
  cases m with
  | zero => rfl
  | succ m =>
    unfold y_tp
    rw [if_neg (fun h9 => h h9.1)]
theorem y_tp_z {K : Nat → Nat} {m : Nat} {c : y_T} {s : y_S} (h : (y_tp K m c s).2.2 = 0) : s.2 = 0 := by
  rcases Nat.eq_zero_or_pos s.2 with h2 | h2
  · exact h2
  · have h3 : ¬ s.2 = 0 := by omega
    rw [y_tp_f h3] at h
    exact absurd h h3
theorem y_tp_m {K : Nat → Nat} : ∀ m (c : y_T) (s : y_S), c.2.2.1 ≤ (y_tp K m c s).1.2.2.1 ∧ c.2.2.2.1 ≤ (y_tp K m c s).1.2.2.2.1 ∧ s.1 ≤ (y_tp K m c s).2.1 := by
  intro m
  induction m with
  | zero => intro c s; exact ⟨Nat.le_refl _, Nat.le_refl _, Nat.le_refl _⟩
  | succ m ih =>
    intro c s
    unfold y_tp
    split
    · split
      · obtain ⟨i1, i2, i3⟩ := ih (c.1 + 1, c.2) (y_ty K c.1 s)
        have := (y_to.ty (K := K) (n := c.1) (y_to.rf (s := s))).1
        exact ⟨i1, i2, by omega⟩
      · split
        · obtain ⟨i1, i2, i3⟩ := ih (c.1, c.2.1 + 1, c.2.2) (y_so K c.2.1 s)
          have := (y_to.so (K := K) (n := c.2.1) (y_to.rf (s := s))).1
          exact ⟨i1, i2, by omega⟩
        · split
          · obtain ⟨i1, i2, i3⟩ := ih (c.1, c.2.1, c.2.2.1 + 1, c.2.2.2.1, un c.2.2.2.2.1 c.2.2.1 (s.1 + 1), c.2.2.2.2.2) (y_ru K c.2.2.1 s)
            have := (y_to.ru (K := K) (n := c.2.2.1) (y_to.rf (s := s))).1
            exact ⟨by have : c.2.2.1 + 1 ≤ _ := i1; omega, i2, by omega⟩
          · split
            · obtain ⟨i1, i2, i3⟩ := ih (c.1, c.2.1, c.2.2.1, c.2.2.2.1 + 1, c.2.2.2.2.1, un c.2.2.2.2.2 c.2.2.2.1 (s.1 + 1)) (y_pr K c.2.2.2.1 s)
              have := (y_to.pr (K := K) (n := c.2.2.2.1) (y_to.rf (s := s))).1
              exact ⟨i1, by have : c.2.2.2.1 + 1 ≤ _ := i2; omega, by omega⟩
            · obtain ⟨i1, i2, i3⟩ := ih c (y_fl 1 s)
              have := (y_to.fl (f := 1) (y_to.rf (s := s)) (by decide)).1
              exact ⟨i1, i2, by omega⟩
    · exact ⟨Nat.le_refl _, Nat.le_refl _, Nat.le_refl _⟩
theorem g_ty_I {nt x j : Nat} (h1 : ¬ (x = 589 ∧ (j = 15 ∨ j = 16))) (h2 : ¬ (x = c ∧ j = 0)) : qI (g_ty K V c nt a h0) x j = qI h0 x j := by
  unfold g_ty
  rw [q_sI_n h2, qI_sA, qI_sL]
  split
  · rw [g_fw_I h1, g_dw_I h1]
  · rw [g_dw_I h1]
theorem g_so_I {nt ns x j : Nat} (h1 : ¬ (x = 589 ∧ (j = 15 ∨ j = 16))) (h2 : ¬ (x = c ∧ j = 1)) : qI (g_so V c nt ns a h0) x j = qI h0 x j := by
  unfold g_so
  rw [q_sI_n h2, qI_sA, qI_sA, qI_sL, g_fw_I h1, g_fw_I h1, g_dw_I h1]
theorem g_pc_I {rF pF nr np x j : Nat} (h1 : ¬ (x = 589 ∧ (j = 15 ∨ j = 16))) (h2 : ¬ (x = c ∧ (j = 3 ∨ j = 5))) : qI (g_pc K V c rF pF nr np a h0) x j = qI h0 x j := by
  unfold g_pc
  rw [q_sI_n (by omega), qI_sA, (g_Kd.rw (K := K) (V := V) (c := c) (rF := rF) (pF := pF) 1202 0 (a + 2, 0) (-1, -1) _ g_Kd.rf).1 x j h1 (by omega), g_tw_I h1]
theorem s23_24 {rF pF : Nat} {Q : Option Value → q_Hp → Prop} : ∀ m (T : y_T) (s : y_S) h0 h t q D, s.2 = 0 → 1201 ≤ m + s.1 → t ≤ s.1 → g_FF c T.1 T.2.1 T.2.2.1 T.2.2.2.1 q D rF pF s.1 h0 → (y_tp K m T s).1.2.2.1 ≤ rF → (y_tp K m T s).1.2.2.2.1 ≤ pF → g_y K Pl V e c h0 h s.1 → (y_tp K m T s).2.2 = 0 → (y_tp K m T s).2.1 ≤ e → (∀ h', g_y K Pl V e c (g_tt K V c rF pF m T.1 T.2.1 T.2.2.1 T.2.2.2.1 s h0) h' (y_tp K m T s).2.1 → (∃ q' D', g_FF c (y_tp K m T s).1.1 (y_tp K m T s).1.2.1 (y_tp K m T s).1.2.2.1 (y_tp K m T s).1.2.2.2.1 q' D' rF pF (y_tp K m T s).2.1 (g_tt K V c rF pF m T.1 T.2.1 T.2.2.1 T.2.2.2.1 s h0)) → Q (some (.int (qI (g_tt K V c rF pF m T.1 T.2.1 T.2.2.1 T.2.2.2.1 s h0) 589 15))) h') → q_wp 22 23 24 [some (.ref 589), some (.ref c), some (.int (nI t))] [] h Q := by
  intro m
  induction m with
  | zero =>
    intro T s h0 h t q D hs hm ht H hrF hpF Y
    have := Y.le
    have := Y.e12
    omega
  | succ m ih =>
    intro T s h0 h t q D hs hm ht H hrF hpF Y hz he fin
    obtain ⟨nt, ns, nr, np, f1, f2⟩ := T
    have hc := Y.c2
    have e12 := Y.e12
    have le := Y.le
    have k43 := (Y.C.2.2 s.1 Y.le).2.1
    have H : g_FF c nt ns nr np q D rF pF s.1 h0 := H
    obtain ⟨i0, n12, i1, s12, i2, n20, i3, n10, i4, hq, i5, hD, S, hr1, hp1⟩ := id H
    unfold y_tp at hrF hpF hz he fin
    unfold g_tt at fin
    have is : ∀ c, y_is K c s = decide (K s.1 = c) := by
      intro c
      by_cases h9 : K s.1 = c
      · rw [decide_eq_true h9]
        exact y_is_c.mpr ⟨hs, h9⟩
      · rw [decide_eq_false h9]
        exact Bool.eq_false_iff.mpr (fun h8 => h9 (y_is_c.mp h8).2)
    have kd : ∀ {n pc} {w : ∀ z h', (h' = h ∧ z = nI (K s.1)) → q_wp 22 23 pc [some (.ref 589), some (.ref c), some (.int (nI n))] [.int z] h' Q}, q_wp 22 23 pc [some (.ref 589), some (.ref c), some (.int (nI n))] [.int (nI (K s.1))] h Q := fun {n pc w} => w _ _ ⟨rfl, rfl⟩
    refine b23_24 (fun c1 => by have := (nI_ltI (a := 1200) (by decide) (by omega)).mp c1; omega) (fun _ => b23_31 (s25 Y) (by decide) ?_)
    rintro z h2 ⟨e0, rfl⟩
    subst h2
    by_cases c42 : K s.1 = 42
    · have nc : ¬ (s.2 = 0 ∧ ¬ K s.1 = 42) := fun h9 => h9.2 c42
      have n : ∀ c, ¬ c = 42 → ¬ y_is K c s = true := fun c hc h => by
        have := (y_is_c.mp h).2
        omega
      rw [if_neg nc] at hz he fin
      rw [if_neg (n 0 (by decide)), if_neg (n 2 (by decide)), if_neg (n 3 (by decide)), if_neg (n 4 (by decide))] at fin
      refine b23_35 (fun _ => b23_94 Y.ok ?_) (fun c1 => absurd (by rw [c42]; rfl) c1)
      rw [Y.I (by decide)]
      exact fin _ Y ⟨q, D, H⟩
    have cc : s.2 = 0 ∧ ¬ K s.1 = 42 := ⟨hs, c42⟩
    rw [if_pos cc] at hrF hpF hz he fin
    refine b23_35 (fun c1 => absurd ((nI_eq (b := 42) (by omega) (by decide)).mp c1) c42) (fun _ => b23_40 (s25 Y) (by decide) ?_)
    rintro z h2 ⟨e0, rfl⟩
    subst h2
    by_cases c0 : K s.1 = 0
    · have y0 : y_is K 0 s = true := y_is_c.mpr ⟨hs, c0⟩
      rw [if_pos y0] at hrF hpF hz he fin
      rw [if_pos y0] at fin
      have z1 := y_tp_z hz
      have l1 := Nat.le_trans (y_tp_m (K := K) m (nt + 1, ns, nr, np, f1, f2) (y_ty K nt s)).2.2 he
      have g1 : s.1 + 1 ≤ (y_ty K nt s).1 := y_to.p1 y_to.rf (y_to.trans y_to.rf.nn (y_to.nd (y_to.ite y_to.rf.ps.nd y_to.rf))) z1
      have n1 : nt < 12 := of_decide_eq_true (y_hd ((y_to.nd (y_to.ite (c := y_is K 1 (y_nn K (decide (nt < 12)) (y_ps s)) = true) (y_to.rf (s := y_nn K (decide (nt < 12)) (y_ps s))).ps.nd y_to.rf)).2.1 z1)).2.2.1
      have es : s = (s.1, 0) := Prod.ext rfl hs
      refine b23_44 (fun c9 => absurd (by rw [c0]; rfl) c9) (fun _ => b23_47 (s30 (nt := nt) Y i0 n1 (by rw [← es]; exact z1) (by rw [← es]; exact l1)) (by decide) (fun h3 Y3 => b23_51 (b23_88 ?_)))
      rw [← es] at Y3
      rw [nI_1]
      refine ih (nt + 1, ns, nr, np, f1, f2) (y_ty K nt s) (g_ty K V c nt s.1 h0) h3 (t + 1) q D z1 (by omega) (by omega) ⟨q_sI_e, by show nt + 1 ≤ 12; omega, (g_ty_I (by omega) (by omega)).trans i1, s12, (g_ty_I (by omega) (by omega)).trans i2, n20, (g_ty_I (by omega) (by omega)).trans i3, n10, (g_ty_I (by omega) (by omega)).trans i4, by omega, (g_ty_I (by omega) (by omega)).trans i5, by omega, ?_, hr1, hp1⟩ hrF hpF Y3 hz he fin
      unfold g_SN
      rw [g_ty_I (by omega) (by omega), g_ty_I (by omega) (by omega)]
      exact S
    have n0 : ¬ y_is K 0 s = true := fun h9 => c0 (y_is_c.mp h9).2
    rw [if_neg n0] at hrF hpF hz he fin
    rw [if_neg n0] at fin
    refine b23_44 (fun _ => b23_54 (s25 Y) (by decide) ?_) (fun c9 => absurd ((nI_eq (b := 0) (by omega) (by decide)).mp c9) c0)
    rintro z h2 ⟨e0, rfl⟩
    subst h2
    by_cases c2 : K s.1 = 2
    · have y0 : y_is K 2 s = true := y_is_c.mpr ⟨hs, c2⟩
      rw [if_pos y0] at hrF hpF hz he fin
      rw [if_pos y0] at fin
      have z1 := y_tp_z hz
      have l1 := Nat.le_trans (y_tp_m (K := K) m (nt, ns + 1, nr, np, f1, f2) (y_so K ns s)).2.2 he
      have g1 : s.1 + 1 ≤ (y_so K ns s).1 := y_to.p1 y_to.rf y_to.rf.nn.nd.nd.nd.nd.nd z1
      have n1 : ns < 12 := of_decide_eq_true (y_hd ((y_to.rf.nd.nd.nd.nd.nd).2.1 z1)).2.2.1
      have es : s = (s.1, 0) := Prod.ext rfl hs
      refine b23_58 (fun c9 => absurd (by rw [c2]; rfl) c9) (fun _ => b23_62 (s31 (nt := nt) (ns := ns) Y i0 n12 i1 n1 (by rw [← es]; exact z1) (by rw [← es]; exact l1)) (by decide) (fun h3 Y3 => b23_66 (b23_88 ?_)))
      rw [← es] at Y3
      rw [nI_1]
      refine ih (nt, ns + 1, nr, np, f1, f2) (y_so K ns s) (g_so V c nt ns s.1 h0) h3 (t + 1) q D z1 (by omega) (by omega) ⟨(g_so_I (by omega) (by omega)).trans i0, n12, q_sI_e, by show ns + 1 ≤ 12; omega, (g_so_I (by omega) (by omega)).trans i2, n20, (g_so_I (by omega) (by omega)).trans i3, n10, (g_so_I (by omega) (by omega)).trans i4, by omega, (g_so_I (by omega) (by omega)).trans i5, by omega, ?_, hr1, hp1⟩ hrF hpF Y3 hz he fin
      unfold g_SN
      rw [g_so_I (by omega) (by omega), g_so_I (by omega) (by omega)]
      exact S
    have n2 : ¬ y_is K 2 s = true := fun h9 => c2 (y_is_c.mp h9).2
    rw [if_neg n2] at hrF hpF hz he fin
    rw [if_neg n2] at fin
    refine b23_58 (fun _ => b23_69 (s25 Y) (by decide) ?_) (fun c9 => absurd ((nI_eq (b := 2) (by omega) (by decide)).mp c9) c2)
    rintro z h2 ⟨e0, rfl⟩
    subst h2
    by_cases c3 : K s.1 = 3
    · have y0 : y_is K 3 s = true := y_is_c.mpr ⟨hs, c3⟩
      rw [if_pos y0] at hrF hpF hz he fin
      rw [if_pos y0] at fin
      have z1 := y_tp_z hz
      have mm := y_tp_m (K := K) m (nt, ns, nr + 1, np, un f1 nr (s.1 + 1), f2) (y_ru K nr s)
      have l1 := Nat.le_trans mm.2.2 he
      have r1 : nr + 1 ≤ rF := Nat.le_trans mm.1 hrF
      have es : s = (s.1, 0) := Prod.ext rfl hs
      have z1' := z1
      have l1' := l1
      rw [es] at z1' l1'
      obtain ⟨n1, _, pp, _⟩ := y_ru_p z1'
      have n1 : nr < 20 := n1
      have tR : y_to (y_nn K (decide (nr < 20)) (y_ps s)) (y_ru K nr s) := (y_to.ds _ _ _ _ (y_to.ts _ _ _ _ (y_to.nt _ _ _ _ (y_to.le _ _ _ _ _ y_to.rf)))).nd
      have g1 : s.1 + 1 ≤ (y_ru K nr s).1 := y_to.p1 y_to.rf (y_to.rf.nn.trans tR) z1
      refine b23_73 (fun c9 => absurd (by rw [c3]; rfl) c9) (fun _ => b23_77 (s33 (nt := nt) (ns := ns) (nr := nr) (np := np) (rF := rF) (pF := pF) (q := q) Y i2 i3 n10 S.1 S.2.1 hr1 S.2.2.1 S.2.2.2 hp1 i0 n12 i1 s12 i4 hq z1' l1') (by decide) ?_)
      rintro h3 ⟨Y3, q', q1, q2⟩
      refine b23_81 (b23_88 ?_)
      rw [nI_1]
      rw [← es] at Y3 q2
      have hne : ∀ x, x = c ∨ x = 8 → ¬ x = g_ro c nr := by
        intro x hx
        unfold g_ro
        omega
      refine ih (nt, ns, nr + 1, np, un f1 nr (s.1 + 1), f2) (y_ru K nr s) (g_ru K V c nt ns nr np s.1 h0) h3 (t + 1) q' D z1 (by omega) (by omega) ⟨(g_ru_I (by omega) (hne _ (Or.inl rfl)) (by omega)).trans i0, n12, (g_ru_I (by omega) (hne _ (Or.inl rfl)) (by omega)).trans i1, s12, q_sI_e, by show nr + 1 ≤ 20; omega, (g_ru_I (by omega) (hne _ (Or.inl rfl)) (by omega)).trans i3, n10, q1, q2, (g_ru_I (by omega) (hne _ (Or.inl rfl)) (by omega)).trans i5, by omega, ?_, r1, hp1⟩ hrF hpF Y3 hz he fin
      unfold g_SN
      rw [g_ru_I (by omega) (hne _ (Or.inr rfl)) (by omega), g_ru_I (by omega) (hne _ (Or.inr rfl)) (by omega)]
      exact S
    have n3 : ¬ y_is K 3 s = true := fun h9 => c3 (y_is_c.mp h9).2
    rw [if_neg n3] at hrF hpF hz he fin
    rw [if_neg n3] at fin
    refine b23_73 (fun _ => ?_) (fun c9 => absurd ((nI_eq (b := 3) (by omega) (by decide)).mp c9) c3)
    by_cases c4 : K s.1 = 4
    · have y0 : y_is K 4 s = true := y_is_c.mpr ⟨hs, c4⟩
      rw [if_pos y0] at hrF hpF hz he fin
      rw [if_pos y0] at fin
      have z1 := y_tp_z hz
      have mm := y_tp_m (K := K) m (nt, ns, nr, np + 1, f1, un f2 np (s.1 + 1)) (y_pr K np s)
      have l1 := Nat.le_trans mm.2.2 he
      have r1 : np + 1 ≤ pF := Nat.le_trans mm.2.1 hpF
      obtain ⟨n1, _⟩ := y_pr_p z1
      have n1 : np < 10 := n1
      have tR : y_to (y_nn K (decide (np < 10)) (y_ps s)) (y_pr K np s) := (y_to.ro _ _ _ _ y_to.rf).nd
      have g1 : s.1 + 1 ≤ (y_pr K np s).1 := y_to.p1 y_to.rf (y_to.rf.nn.trans tR) z1
      refine b23_84 (s52 (rF := rF) (pF := pF) hs Y i2 n20 i3 S hr1 hp1 i5 hD z1 l1) (by decide) ?_
      rintro h3 ⟨Y3, D', q1, q2⟩
      refine b23_88 ?_
      rw [nI_1]
      refine ih (nt, ns, nr, np + 1, f1, un f2 np (s.1 + 1)) (y_pr K np s) (g_pc K V c rF pF nr np s.1 h0) h3 (t + 1) q D' z1 (by omega) (by omega) ⟨(g_pc_I (by omega) (by omega)).trans i0, n12, (g_pc_I (by omega) (by omega)).trans i1, s12, (g_pc_I (by omega) (by omega)).trans i2, n20, q_sI_e, by show np + 1 ≤ 10; omega, (g_pc_I (by omega) (by omega)).trans i4, by omega, q1, q2, ?_, hr1, r1⟩ hrF hpF Y3 hz he fin
      unfold g_SN
      rw [g_pc_I (by omega) (by omega), g_pc_I (by omega) (by omega)]
      exact S
    have n4 : ¬ y_is K 4 s = true := fun h9 => c4 (y_is_c.mp h9).2
    rw [if_neg n4] at hz
    exfalso
    have := y_tp_z hz
    unfold y_fl at this
    rw [if_pos hs] at this
    exact absurd this (show ¬ (1 : Nat) = 0 by decide)
end GB
