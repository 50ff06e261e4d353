/-! THE BUILDER OF THE CLASS: a rule -/
def g_ro (c nr : Nat) : Nat := c + 9 + 14 * nr
def g_ru0 (V : Nat → Int64) (c nr np a : Nat) (h : q_Hp) : q_Hp := q_sI (q_sI (q_sI (g_rc (g_ro c nr) (q_sR (g_tw (V (a + 1)) nr np (a + 1) h) 589 13 (g_ro c nr))) 589 9 0) 589 10 0) 589 11 0
def g_ru1 (K : Nat → Nat) (V : Nat → Int64) (c nt ns nr np a : Nat) (h : q_Hp) : q_Hp := g_lf K V nt ns (g_ro c nr) 1201 0 0 (a + 2, 0) (g_ru0 V c nr np a h)
def g_ru2 (K : Nat → Nat) (V : Nat → Int64) (c nt ns nr a : Nat) (h : q_Hp) : q_Hp := g_nts K V nt ns (g_ro c nr) (g_tn h) 3 0 (y_r1 K (a, 0)) h
def g_ru3 (K : Nat → Nat) (V : Nat → Int64) (c nr a : Nat) (h : q_Hp) : q_Hp := g_tss K V c (g_ro c nr) (g_tn h) 5 0 (y_nt K 3 0 (y_r1 K (a, 0))) h
def g_ru4 (K : Nat → Nat) (V : Nat → Int64) (c nt ns nr a : Nat) (h : q_Hp) : q_Hp := g_dss K V c nt ns (g_ro c nr) 9 0 (y_ts K 5 0 (y_nt K 3 0 (y_r1 K (a, 0)))) h
def g_ru (K : Nat → Nat) (V : Nat → Int64) (c nt ns nr np a : Nat) (h : q_Hp) : q_Hp := q_sI (g_ru4 K V c nt ns nr a (g_ru3 K V c nr a (g_ru2 K V c nt ns nr a (g_ru1 K V c nt ns nr np a h)))) c 2 (nI (nr + 1))
theorem y_ru_p {K : Nat → Nat} {nr a : Nat} (hz : (y_ru K nr (a, 0)).2 = 0) : nr < 20 ∧ K (a + 1) = 40 ∧ y_ru K nr (a, 0) = ((y_ds K 9 0 (y_ts K 5 0 (y_nt K 3 0 (y_r1 K (a, 0))))).1 + 1, 0) ∧ (y_ds K 9 0 (y_ts K 5 0 (y_nt K 3 0 (y_r1 K (a, 0))))).2 = 0 ∧ K (y_ds K 9 0 (y_ts K 5 0 (y_nt K 3 0 (y_r1 K (a, 0))))).1 = 5 := by
  have h1 := y_nd_z hz
  have h2 := (y_to.ds (K := K) 9 0 _ _ (y_to.rf (s := y_ts K 5 0 (y_nt K 3 0 (y_le K 4 6 true 1201 0 0 (y_nn K (decide (nr < 20)) (y_ps (a, 0)))))))).2.1 h1
  have h3 := (y_to.ts (K := K) 5 0 _ _ (y_to.rf (s := y_nt K 3 0 (y_le K 4 6 true 1201 0 0 (y_nn K (decide (nr < 20)) (y_ps (a, 0))))))).2.1 h2
  have h4 := (y_to.nt (K := K) 3 0 _ _ (y_to.rf (s := y_le K 4 6 true 1201 0 0 (y_nn K (decide (nr < 20)) (y_ps (a, 0)))))).2.1 h3
  have h5 := (y_to.le (K := K) (nr := 4) (lr := 6) (cm := true) 1201 0 0 _ _ (y_to.rf (s := y_nn K (decide (nr < 20)) (y_ps (a, 0))))).2.1 h4
  obtain ⟨q1, q2, q3, q4, q5⟩ := y_hd h5
  have e1 : y_ru K nr (a, 0) = y_nd K 5 (y_ds K 9 0 (y_ts K 5 0 (y_nt K 3 0 (y_r1 K (a, 0))))) := by
    unfold y_ru
    rw [q4]
    rfl
  rw [e1] at hz ⊢
  obtain ⟨q6, q7⟩ := y_nd_0 hz
  exact ⟨of_decide_eq_true q3, q2, q7, y_nd_z hz, (y_is_c.mp q6).2⟩
section GB
variable {K Pl : Nat → Nat} {V : Nat → Int64} {e c a : Nat} {h0 h : q_Hp}
theorem g_rc_I {o x j : Nat} (h9 : ¬ x = o) : qI (g_rc o h0) x j = qI h0 x j := by
  unfold g_rc
  rw [q_sI_n (by omega), q_sI_n (by omega), q_sI_n (by omega), q_sI_n (by omega), q_sI_n (by omega), q_sI_n (by omega), q_sI_n (by omega)]
theorem g_rc_0 {o j : Nat} (hj : j < 7) : qI (g_rc o h0) o j = 0 := by
  unfold g_rc
  show (if o = o ∧ j = 6 then 0 else if o = o ∧ j = 5 then 0 else if o = o ∧ j = 4 then 0 else if o = o ∧ j = 3 then 0 else if o = o ∧ j = 2 then 0 else if o = o ∧ j = 1 then 0 else if o = o ∧ j = 0 then 0 else qI h0 o j) = 0
  split
  · rfl
  split
  · rfl
  split
  · rfl
  split
  · rfl
  split
  · rfl
  split
  · rfl
  split
  · rfl
  omega
theorem g_tw_I {v : Int64} {nr np x i j : Nat} (h9 : ¬ (i = 589 ∧ (j = 15 ∨ j = 16))) : qI (g_tw v nr np x h0) i j = qI h0 i j := by
  unfold g_tw
  rw [g_dw_I h9, g_dw_I h9]
theorem g_tw_A {v : Int64} {nr np x : Nat} : qA (g_tw v nr np x h0) = qA h0 := by
  unfold g_tw
  rw [g_dw_A, g_dw_A]
theorem g_tw_L {v : Int64} {nr np x : Nat} : qL (g_tw v nr np x h0) = qL h0 := by
  unfold g_tw
  rw [g_dw_L, g_dw_L]
theorem g_tw_R {v : Int64} {nr np x : Nat} : qR (g_tw v nr np x h0) = qR h0 := by
  unfold g_tw
  rw [g_dw_R, g_dw_R]
theorem g_ru0_I {nr np x j : Nat} (h1 : ¬ (x = 589 ∧ (j = 9 ∨ j = 10 ∨ j = 11 ∨ j = 15 ∨ j = 16))) (h2 : ¬ x = g_ro c nr) : qI (g_ru0 V c nr np a h0) x j = qI h0 x j := by
  unfold g_ru0
  rw [q_sI_n (by omega), q_sI_n (by omega), q_sI_n (by omega), g_rc_I h2]
  exact g_tw_I (by omega)
theorem g_ru0_A {nr np : Nat} : qA (g_ru0 V c nr np a h0) = qA h0 := by
  show qA (g_tw (V (a + 1)) nr np (a + 1) h0) = _
  exact g_tw_A
theorem g_ru0_L {nr np : Nat} : qL (g_ru0 V c nr np a h0) = qL h0 := by
  show qL (g_tw (V (a + 1)) nr np (a + 1) h0) = _
  exact g_tw_L
theorem g_ru0_0 {nr np j : Nat} (hn : ¬ g_ro c nr = 589) (hj : j < 7) : qI (g_ru0 V c nr np a h0) (g_ro c nr) j = 0 := by
  unfold g_ru0
  rw [q_sI_n (by omega), q_sI_n (by omega), q_sI_n (by omega)]
  exact g_rc_0 hj
theorem g_ru0_R {nr np x j : Nat} : qR (g_ru0 V c nr np a h0) x j = if x = 589 ∧ j = 13 then g_ro c nr else qR h0 x j := by
  show qR (q_sR (g_tw (V (a + 1)) nr np (a + 1) h0) 589 13 (g_ro c nr)) x j = _
  rw [qR_sR, g_tw_R]
theorem s33 {nt ns nr np rF pF q : Nat} (Y : g_y K Pl V e c h0 h a) (hr : qI h0 c 2 = nI nr) (hp : qI h0 c 3 = nI np) (h10 : np ≤ 10) (hrF : qI h0 8 5 = nI rF) (hrF2 : rF ≤ 20) (hr1 : nr ≤ rF) (hpF : qI h0 8 6 = nI pF) (hpF2 : pF ≤ 10) (hp1 : np ≤ pF) (ht : qI h0 c 0 = nI nt) (ht12 : nt ≤ 12) (hns : qI h0 c 1 = nI ns) (hs12 : ns ≤ 12) (hq : qI h0 c 4 = nI q) (hqa : q ≤ a) (hz : (y_ru K nr (a, 0)).2 = 0) (he : (y_ru K nr (a, 0)).1 ≤ e) : q_mV 21 33 [.ref 589] h (fun h' => g_y K Pl V e c (g_ru K V c nt ns nr np a h0) h' (y_ru K nr (a, 0)).1 ∧ ∃ q', qI (g_ru K V c nt ns nr np a h0) c 4 = nI q' ∧ q' ≤ (y_ru K nr (a, 0)).1) := by
  refine q_mV.of (q_recV rfl Y.ok) (fun Q fin => ?_)
  have hc := Y.c2
  obtain ⟨r20, k40, p1, p2, p3⟩ := y_ru_p hz
  rw [p1] at he fin
  have he : (y_ds K 9 0 (y_ts K 5 0 (y_nt K 3 0 (y_r1 K (a, 0))))).1 + 1 ≤ e := he
  have hO : q_isO (g_ro c nr) := ⟨c, nr, Y.B, r20, rfl⟩
  have hn := hO.n
  have hne := hO.ne
  have t2 : y_to (y_r1 K (a, 0)) (y_nt K 3 0 (y_r1 K (a, 0))) := y_to.nt _ _ _ _ y_to.rf
  have t3 : y_to (y_nt K 3 0 (y_r1 K (a, 0))) (y_ts K 5 0 (y_nt K 3 0 (y_r1 K (a, 0)))) := y_to.ts _ _ _ _ y_to.rf
  have t4 : y_to (y_ts K 5 0 (y_nt K 3 0 (y_r1 K (a, 0)))) (y_ds K 9 0 (y_ts K 5 0 (y_nt K 3 0 (y_r1 K (a, 0))))) := y_to.ds _ _ _ _ y_to.rf
  have t1 : y_to (a + 2, 0) (y_r1 K (a, 0)) := y_to.le _ _ _ _ _ y_to.rf
  have z3 := t4.2.1 p2
  have z2 := t3.2.1 z3
  have z1 := t2.2.1 z2
  have l1 : a + 2 ≤ (y_r1 K (a, 0)).1 := t1.1
  have l2 := t2.1
  have l3 := t3.1
  have l4 := t4.1
  unfold g_ru at fin
  refine b33_0 Y.ok (s32 (Y.n1 (by omega)) (by omega) hr (by omega) hp h10 hrF hrF2 hr1 hpF hpF2 hp1) (by decide) (fun h1 Y1 => ?_)
  have e2 : qI h1 c 2 = nI nr := by rw [Y1.O (by omega), g_tw_I (by omega)]; exact hr
  refine b33_14 (v0 := c) Y1.ok Y1.bk Y1.okB (s9 Y1.sh Y1.B) (by decide) ?_
  rintro z h2 ⟨e0, rfl⟩
  subst h2
  have eru : q_ru c (qI h1 c 2) = g_ro c nr := by
    rw [e2]
    unfold q_ru
    rw [if_pos ((q_rg_ex (by decide)).mpr ⟨nr, r20, rfl⟩), nI_clamp (by omega)]
    rfl
  rw [eru]
  have Y2 := Y1.sR (v := g_ro c nr)
  refine b33_29 (v0 := g_ro c nr) Y1.ok Y1.ok (by rw [qR_sR, if_pos ⟨rfl, rfl⟩]) (s127 Y2 hO) (by decide) (fun h3 Y3 => ?_)
  have Y4 : g_y K Pl V e c (g_ru0 V c nr np a h0) _ (a + 2) := ((Y3.sI (o := 589) (j := 9) (v := 0) (by decide) (by decide)).sI (o := 589) (j := 10) (v := 0) (by decide) (by decide)).sI (o := 589) (j := 11) (v := 0) (by decide) (by decide)
  have P0 : g_P c nt ns (g_ro c nr) (g_ru0 V c nr np a h0) := ⟨by rw [g_ru0_R, if_pos ⟨rfl, rfl⟩], hO, (g_ru0_I (by omega) (by omega)).trans ht, ht12, (g_ru0_I (by omega) (by omega)).trans hns, hs12⟩
  have L0 : g_Lf c nt ns (g_ro c nr) 0 0 (g_ru0 V c nr np a h0) := by
    refine ⟨P0, ?_, g_ru0_0 (by omega) (by omega), g_ru0_0 (by omega) (by omega), by omega, by omega⟩
    unfold g_ru0
    rw [q_sI_n (by omega), q_sI_n (by omega), q_sI_e]
    rfl
  have K1 : g_K c (g_ro c nr) [0, 1, 6] [1, 4, 5, 6] (g_ru0 V c nr np a h0) (g_ru1 K V c nt ns nr np a h0) := g_K.lf (by decide) (by decide) (by decide) (by decide) (by decide) (by decide) (by decide) _ _ _ _ _ g_K.rf
  refine b33_39 (m := 5) (P := fun h' => g_y K Pl V e c (g_ru1 K V c nt ns nr np a h0) h' (y_r1 K (a, 0)).1 ∧ ∃ n' l', g_Lf c nt ns (g_ro c nr) n' l' (g_ru1 K V c nt ns nr np a h0)) Y3.ok ?_ (by decide) ?_
  · refine q_mV.of (q_recV rfl Y4.ok) (fun Q2 fin2 => b39_0 ?_)
    exact s39_2 1201 0 0 (a + 2, 0) (g_ru0 V c nr np a h0) _ 0 rfl (by show 1201 ≤ 1201 + (a + 2); omega) (by omega) L0 Y4 z1 (by show (y_r1 K (a, 0)).1 ≤ e; omega) (fun h' Y' H' => fin2 _ ⟨Y', H'⟩)
  rintro h5 ⟨Y5, n', l', P5, q1, q2, q3, q4, q5⟩
  have em : g_tn (g_ru1 K V c nt ns nr np a h0) = n' + l' := by unfold g_tn; rw [q1, nI_clamp (by omega)]
  have I1 : ∀ j, 2 ≤ j → j < 6 → qI (g_ru1 K V c nt ns nr np a h0) (g_ro c nr) j = 0 := fun j h1 h2 => (K1.1 _ j (fun q => by have := q.1; omega) (fun q => by have := q.2; simp at this; omega) (by omega)).trans (g_ru0_0 (by omega) (by omega))
  have i10 : qI (g_ru1 K V c nt ns nr np a h0) 589 10 = 0 := by
    refine (K1.1 589 10 (fun q => by have := q.2; simp at this) (by simp) (by omega)).trans ?_
    unfold g_ru0
    rw [q_sI_n (by omega), q_sI_e]
  have i4 : qI (g_ru1 K V c nt ns nr np a h0) c 4 = nI q := by
    have : ∀ m n l s h1, qI (g_lf K V nt ns (g_ro c nr) m n l s h1) c 4 = qI h1 c 4 := by
      intro m
      induction m with
      | zero => intro n l s h1; rfl
      | succ m ih =>
        intro n l s h1
        unfold g_lf
        split
        · rw [ih]
          unfold g_no
          rw [g_tl_I (by omega), q_sI_n (by omega), qI_sA, g_n1_I (by omega)]
        · split
          · rw [ih]
            unfold g_li g_lk
            rw [g_tl_I (by omega), q_sI_n (by omega), qI_sA, qI_sA, qI_sA, g_l1_I (by omega)]
          · split
            · rw [ih, q_sI_n (by omega)]
            · rfl
    unfold g_ru1
    rw [this, g_ru0_I (by omega) (by omega)]
    exact hq
  refine b33_59 ?_
  rw [show (0 : Int32) = nI 0 from rfl]
  have K2 : g_K c (g_ro c nr) [2] [2, 3, 4, 5, 6] (g_ru1 K V c nt ns nr np a h0) (g_ru2 K V c nt ns nr a (g_ru1 K V c nt ns nr np a h0)) := g_K.nts (by decide) (by decide) (by decide) (by decide) (by decide) (by decide) _ _ _ _ g_K.rf
  have j4 : qI (g_ru2 K V c nt ns nr a (g_ru1 K V c nt ns nr np a h0)) c 4 = nI q := by
    have nl : ∀ k aa m n l s h1, qI (g_nl K V nt ns (g_ro c nr) k aa m n l s h1) c 4 = qI h1 c 4 := by
      intro k aa m
      induction m with
      | zero => intro n l s h1; rfl
      | succ m ih =>
        intro n l s h1
        unfold g_nl
        split
        · rw [ih]
          unfold g_nn
          rw [g_tl_I (by omega), qI_sA, g_n1_I (by omega)]
        · split
          · rw [ih]
            unfold g_nk g_lk
            rw [g_tl_I (by omega), qI_sA, qI_sA, qI_sA, qI_sA, g_l1_I (by omega)]
          · rfl
    have : ∀ f q s m h1, qI (g_nts K V nt ns (g_ro c nr) m f q s h1) c 4 = qI h1 c 4 := by
      intro f
      induction f with
      | zero => intro q s m h1; rfl
      | succ f ih =>
        intro q s m h1
        unfold g_nts
        split
        · rw [ih]
          unfold g_nO
          rw [q_sI_n (by omega), nl]
          unfold g_n0
          rw [q_sI_n (by omega)]
          rfl
        · rfl
    unfold g_ru2
    rw [this]
    exact i4
  refine s33_61 (m := n' + l') 3 0 (y_r1 K (a, 0)) _ _ 0 _ z1 (by omega) (by omega) ⟨P5, q1, I1 2 (by omega) (by omega), by omega, by omega⟩ Y5 z2 (by omega) ?_
  rintro x1 l2' h6 Y6 ⟨q6, P6, r1, r2, r3, r4⟩
  have e6 : g_nts K V nt ns (g_ro c nr) (n' + l') 3 0 (y_r1 K (a, 0)) (g_ru1 K V c nt ns nr np a h0) = g_ru2 K V c nt ns nr a (g_ru1 K V c nt ns nr np a h0) := by
    unfold g_ru2
    rw [em]
  rw [e6] at Y6 P6 r1 r2
  generalize hh2 : g_ru2 K V c nt ns nr a (g_ru1 K V c nt ns nr np a h0) = h2 at *
  have I2 : ∀ j, 3 ≤ j → j < 6 → qI h2 (g_ro c nr) j = 0 := fun j h1 h2 => (K2.1 _ j (fun q => by have := q.1; omega) (fun q => by have := q.2; simp at this; omega) (by omega)).trans (I1 j (by omega) h2)
  have i10' : qI h2 589 10 = 0 := (K2.1 589 10 (fun q => by have := q.2; simp at this) (by simp) (by omega)).trans i10
  have em2 : g_tn h2 = n' + l' := by unfold g_tn; rw [r1, nI_clamp (by omega)]
  refine b33_133 ?_
  rw [show (0 : Int32) = nI 0 from rfl]
  have K3 : g_K c (g_ro c nr) [3] [7, 12, 13] h2 (g_ru3 K V c nr a h2) := g_K.tss (by decide) (by decide) (by decide) (by decide) _ _ _ _ g_K.rf
  refine s33_135 (m := n' + l') 5 0 (y_nt K 3 0 (y_r1 K (a, 0))) _ _ 0 q z2 (by omega) (by omega) (by omega) ⟨P6, r1, I2 3 (by omega) (by omega), by omega, by omega, j4⟩ Y6 z3 (by omega) ?_
  rintro x1 h7 Y7 ⟨t', q', hq', P7, u1, u2, u3, u4, u5⟩
  have e7 : g_tss K V c (g_ro c nr) (n' + l') 5 0 (y_nt K 3 0 (y_r1 K (a, 0))) h2 = g_ru3 K V c nr a h2 := by
    unfold g_ru3
    rw [em2]
  rw [e7] at Y7 P7 u1 u2 u5
  generalize hh3 : g_ru3 K V c nr a h2 = h3' at *
  refine b33_161 ?_
  rw [show (0 : Int32) = nI 0 from rfl]
  have D0 : g_Df c nt ns (g_ro c nr) 0 (n' + l') 0 q' h3' := ⟨P7, u1, (K3.1 589 10 (fun q => by have := q.2; simp at this) (by simp) (by omega)).trans i10', by omega, ⟨0, by omega, (K3.1 _ 4 (fun q => by have := q.1; omega) (by simp) (by omega)).trans (I2 4 (by omega) (by omega))⟩, by omega, by omega, u5⟩
  refine s33_163 9 0 (y_ts K 5 0 (y_nt K 3 0 (y_r1 K (a, 0)))) h3' _ 0 _ _ q' _ z3 (by omega) (by omega) hq' D0 Y7 p2 p3 (by omega) ?_
  rintro x1 l2' h8 Y8 ⟨d8, m8, w8, q8, hq8, P8, v1, v2, v3, v4, v5, v6, v7⟩
  have K4 : g_K c (g_ro c nr) [4, 5] [8, 9, 10, 11, 12, 13] h3' (g_ru4 K V c nt ns nr a h3') := g_K.dss (by decide) (by decide) (by decide) (by decide) (by decide) (by decide) (by decide) (by decide) _ _ _ _ g_K.rf
  have Y8 : g_y K Pl V e c (g_ru4 K V c nt ns nr a h3') h8 _ := Y8
  have n2 : qI (g_ru4 K V c nt ns nr a h3') c 2 = nI nr := by
    rw [K4.1 c 2 (fun q => by have := q.1; omega) (fun q => by have := q.1; omega) (by omega), K3.1 c 2 (fun q => by have := q.1; omega) (fun q => by have := q.1; omega) (by omega), K2.1 c 2 (fun q => by have := q.1; omega) (fun q => by have := q.1; omega) (by omega), K1.1 c 2 (fun q => by have := q.1; omega) (fun q => by have := q.1; omega) (by omega), g_ru0_I (by omega) (by omega)]
    exact hr
  refine b33_261 (v0 := c) Y8.ok Y8.bk (s13 (nr := nr) (Y8.n1 (by omega)) n2 r20) (by decide) (fun h9 Y9 => b33_278 (fin _ ⟨Y9, q8, ?_, ?_⟩))
  · rw [q_sI_n (by omega)]
    exact v7
  · show q8 ≤ _ + 1
    omega
end GB
