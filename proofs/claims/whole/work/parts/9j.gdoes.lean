/-! THE BUILDER OF THE CLASS: NOTs, tests, what is done -/
section GB
variable {K Pl : Nat → Nat} {V : Nat → Int64} {e c a : Nat} {h0 h : q_Hp}
def g_nl (K : Nat → Nat) (V : Nat → Int64) (nt ns o k aa : Nat) : Nat → Nat → Nat → y_S → q_Hp → q_Hp
  | 0, _, _, _, h => h
  | m + 1, n, l, s, h => if y_is K 6 s = true then g_nl K V nt ns o k aa m (n + 1) l (y_no K (decide (n < 1)) s) (g_nn V nt o k (aa + n + l) s.1 h) else if y_is K 7 s = true then g_nl K V nt ns o k aa m n (l + 1) (y_li K (decide (l < 3)) s) (g_nk V ns o k l (aa + n + l) s.1 h) else h
def g_Nf (c nt ns o k aa n l : Nat) (h : q_Hp) : Prop := g_P c nt ns o h ∧ qI h 589 9 = nI (aa + n + l) ∧ qA h (o + 3) k = nI l ∧ n ≤ 1 ∧ l ≤ 3
theorem g_Nf.nn {nt ns o k aa n l x : Nat} (H : g_Nf c nt ns o k aa n l h0) (hc : c = 11 ∨ c = 300) (h1 : n < 1) : g_Nf c nt ns o k aa (n + 1) l (g_nn V nt o k (aa + n + l) x h0) := by
  obtain ⟨P, q1, q2, q4, q5⟩ := H
  have hn := P.2.1.n
  have I1 : ∀ {y j}, ¬ (y = 589 ∧ (j = 9 ∨ j = 15 ∨ j = 16)) → qI (g_nn V nt o k (aa + n + l) x h0) y j = qI h0 y j := by
    intro y j h1
    unfold g_nn
    rw [g_tl_I (by omega), qI_sA, g_n1_I (by omega)]
  refine ⟨P.cc ?_ (I1 (by omega)) (I1 (by omega)), ?_, ?_, by omega, q5⟩
  · unfold g_nn
    rw [g_tl_R, qR_sA, g_n1_R]
  · unfold g_nn
    rw [g_tl_9]
    congr 1
    omega
  · unfold g_nn
    rw [g_tl_A (by omega), qA_sAn (by omega), g_n1_A]
    exact q2
theorem g_Nf.nk {nt ns o k aa n l x : Nat} (H : g_Nf c nt ns o k aa n l h0) (hc : c = 11 ∨ c = 300) (h3 : l < 3) : g_Nf c nt ns o k aa n (l + 1) (g_nk V ns o k l (aa + n + l) x h0) := by
  obtain ⟨P, q1, q2, q4, q5⟩ := H
  have hn := P.2.1.n
  have I1 : ∀ {y j}, ¬ (y = 589 ∧ (j = 9 ∨ j = 15 ∨ j = 16)) → qI (g_nk V ns o k l (aa + n + l) x h0) y j = qI h0 y j := by
    intro y j h1
    unfold g_nk g_lk
    rw [g_tl_I (by omega), qI_sA, qI_sA, qI_sA, qI_sA, g_l1_I (by omega)]
  refine ⟨P.cc ?_ (I1 (by omega)) (I1 (by omega)), ?_, ?_, q4, by omega⟩
  · unfold g_nk g_lk
    rw [g_tl_R, qR_sA, qR_sA, qR_sA, qR_sA, g_l1_R]
  · unfold g_nk
    rw [g_tl_9]
    rfl
  · unfold g_nk
    rw [g_tl_A (by omega), qA_sA, if_pos ⟨rfl, rfl⟩]
theorem s39n_2 {nt ns o k aa : Nat} {Q : Option Value → q_Hp → Prop} (hk : k < 2) (ha : aa ≤ 18) : ∀ m n l s h0 h t, s.2 = 0 → 1201 ≤ m + s.1 → t ≤ s.1 → g_Nf c nt ns o k aa n l h0 → g_y K Pl V e c h0 h s.1 → (y_le K 1 3 false m n l s).2 = 0 → ¬ K (y_le K 1 3 false m n l s).1 = 8 → (y_le K 1 3 false m n l s).1 ≤ e → (∀ h', g_y K Pl V e c (g_nl K V nt ns o k aa m n l s h0) h' (y_le K 1 3 false m n l s).1 → (∃ n' l', g_Nf c nt ns o k aa n' l' (g_nl K V nt ns o k aa m n l s h0)) → Q none h') → q_wp 5 39 2 [some (.ref 589), some (.int (nI k)), some (.int (nI t))] [] h Q := by
  intro m
  induction m with
  | zero =>
    intro n l s h0 h t hs hm ht H Y hz h8 he fin
    have := Y.le
    have := Y.e12
    omega
  | succ m ih =>
    intro n l s h0 h t hs hm ht H Y hz h8 he fin
    have e12 := Y.e12
    have le := Y.le
    have hc := Y.c2
    have k43 := (Y.C.2.2 s.1 Y.le).2.1
    obtain ⟨P, q1, q2, q4, q5⟩ := id H
    have hn := P.2.1.ne
    unfold y_le at hz h8 he fin
    unfold g_nl at fin
    have tur : ∀ {w : q_wp 5 39 9 [some (.ref 589), some (.int (nI k)), some (.int (nI t))] [] h Q}, q_wp 5 39 2 [some (.ref 589), some (.int (nI k)), some (.int (nI t))] [] h Q := fun {w} => b39_2 (fun c1 => by have := (nI_ltI (a := 1200) (by decide) (by omega)).mp c1; omega) (fun _ => w)
    refine tur (w := b39_9 (s25 Y) (by decide) ?_)
    rintro z h2 ⟨e0, rfl⟩
    subst h2
    refine b39_13 (fun c1 => ?_) (fun c1 => ?_)
    rotate_left 1
    · have k6 : K s.1 = 6 := (nI_eq (b := 6) (by omega) (by decide)).mp c1
      have y6 : y_is K 6 s = true := y_is_c.mpr ⟨hs, k6⟩
      rw [if_pos y6] at hz h8 he fin
      rw [if_pos y6] at fin
      have t1 := y_to.le (K := K) (nr := 1) (lr := 3) (cm := false) m (n + 1) l _ _ (y_to.rf (s := y_no K (decide (n < 1)) s))
      have z1 := t1.2.1 hz
      obtain ⟨p1, p2, p3, p4⟩ := y_no_5 z1
      have n1 := of_decide_eq_true p2
      have l1 : s.1 + 5 ≤ e := by
        have := t1.1
        rw [p1] at this
        have : s.1 + 5 ≤ _ := this
        rw [p1] at he
        omega
      refine b39_18 Y.ok (s40_n (k := k) (m := aa + n + l) (Y.n1 (by omega)) (by omega) P.1 P.2.1 P.2.2.1 P.2.2.2.1 q1 (by omega) hk) (by decide) (fun h3 Y3 => b39_33 (b39_94 Y3.ok ?_))
      rw [nI_1]
      have Y4 := Y3.n1 (by omega)
      rw [p1] at hz h8 he fin
      exact ih (n + 1) l (s.1 + 5, 0) _ _ (t + 1) rfl (by show 1201 ≤ m + (s.1 + 5); omega) (by show t + 1 ≤ s.1 + 5; omega) (H.nn hc n1) Y4 hz h8 he fin
    have n6 : ¬ y_is K 6 s = true := fun h9 => c1 (by rw [(y_is_c.mp h9).2]; rfl)
    rw [if_neg n6] at hz h8 he fin
    rw [if_neg n6] at fin
    refine b39_36 (s25 Y) (by decide) ?_
    rintro z h2 ⟨e0, rfl⟩
    subst h2
    refine b39_40 (fun c2 => ?_) (fun c2 => ?_)
    rotate_left 1
    · have k7 : K s.1 = 7 := (nI_eq (b := 7) (by omega) (by decide)).mp c2
      have y7 : y_is K 7 s = true := y_is_c.mpr ⟨hs, k7⟩
      rw [if_pos y7] at hz h8 he fin
      rw [if_pos y7] at fin
      have t1 := y_to.le (K := K) (nr := 1) (lr := 3) (cm := false) m n (l + 1) _ _ (y_to.rf (s := y_li K (decide (l < 3)) s))
      have z1 := t1.2.1 hz
      obtain ⟨p1, p2, _⟩ := y_li_9 z1
      have l3 := of_decide_eq_true p2
      have l1 : s.1 + 9 ≤ e := by
        have := t1.1
        rw [p1] at this
        have : s.1 + 9 ≤ _ := this
        rw [p1] at he
        omega
      refine b39_45 Y.ok (s41_n (k := k) (w := l) (m := aa + n + l) (Y.n1 (by omega)) (by omega) P.1 P.2.1 P.2.2.2.2.1 P.2.2.2.2.2 q1 (by omega) hk q2 l3) (by decide) (fun h3 Y3 => b39_60 (b39_94 Y3.ok ?_))
      rw [nI_1]
      have Y4 := Y3.n1 (by omega)
      rw [p1] at hz h8 he fin
      exact ih n (l + 1) (s.1 + 9, 0) _ _ (t + 1) rfl (by show 1201 ≤ m + (s.1 + 9); omega) (by show t + 1 ≤ s.1 + 9; omega) (H.nk hc l3) Y4 hz h8 he fin
    have n7 : ¬ y_is K 7 s = true := fun h9 => c2 (by rw [(y_is_c.mp h9).2]; rfl)
    rw [if_neg n7] at hz h8 he fin
    rw [if_neg n7] at fin
    rw [if_neg (show ¬ (false = true ∧ y_is K 8 s = true) from fun h9 => by cases h9.1)] at hz h8 he fin
    refine b39_63 (s25 Y) (by decide) ?_
    rintro z h2 ⟨e0, rfl⟩
    subst h2
    exact b39_67 (fun _ => b39_93 (fin _ Y ⟨n, l, H⟩)) (fun c3 => absurd ((nI_eq (b := 8) (by omega) (by decide)).mp c3) h8)
/-- a test -/
def g_t1 (K : Nat → Nat) (V : Nat → Int64) (c m o i a : Nat) (h : q_Hp) : q_Hp := q_sA (g_E K V c m 1202 a (q_sA h (o + 12) i (qI h c 4))) (o + 13) i (qI (g_E K V c m 1202 a (q_sA h (o + 12) i (qI h c 4))) c 4)
def g_te (K : Nat → Nat) (V : Nat → Int64) (c m o t a : Nat) (h : q_Hp) : q_Hp := g_t1 K V c m o (2 * t + 1) (e_E K 1202 (a + 1) + 1) (q_sI (q_sA (g_t1 K V c m o (2 * t) (a + 1) h) (o + 7) t (nI (K (e_E K 1202 (a + 1))))) o 3 (nI (t + 1)))
theorem g_t1_I {m o i x y j : Nat} (h1 : ¬ (y = c ∧ j = 4)) (h2 : ¬ (y = 589 ∧ (j = 15 ∨ j = 16))) : qI (g_t1 K V c m o i x h0) y j = qI h0 y j := by
  unfold g_t1
  rw [qI_sA, g_E_I h1 h2]
  rfl
theorem g_t1_4 {m o i x : Nat} : qI (g_t1 K V c m o i x h0) c 4 = qI (g_E K V c m 1202 x (q_sA h0 (o + 12) i (qI h0 c 4))) c 4 := rfl
theorem g_t1_A {m o i x y : Nat} (h1 : ¬ y = c + 6 ∧ ¬ y = c + 7) (h2 : ¬ y = o + 12 ∧ ¬ y = o + 13) : qA (g_t1 K V c m o i x h0) y = qA h0 y := by
  unfold g_t1
  rw [qA_sAn h2.2, g_E_A h1, qA_sAn h2.1]
theorem g_t1_L {m o i x : Nat} : qL (g_t1 K V c m o i x h0) = qL h0 := by
  unfold g_t1
  rw [qL_sA, g_E_L]
  rfl
theorem g_t1_R {m o i x : Nat} : qR (g_t1 K V c m o i x h0) = qR h0 := by
  unfold g_t1
  rw [qR_sA, g_E_R]
  rfl
/-- a sum's start, the sum, its end -/
theorem s42 {nt ns o t m q : Nat} (Y : g_y K Pl V e c h0 h a) (P : g_P c nt ns o h0) (hm : qI h0 589 9 = nI m) (h22 : m ≤ 22) (hn : qI h0 o 3 = nI t) (h4 : t < 4) (hq : qI h0 c 4 = nI q) (hqa : q ≤ a) (hz : (y_te K (a, 0)).2 = 0) (he : (y_te K (a, 0)).1 ≤ e) : q_mV 20 42 [.ref 589] h (fun h' => g_y K Pl V e c (g_te K V c m o t a h0) h' (y_te K (a, 0)).1 ∧ ∃ q', qI (g_te K V c m o t a h0) c 4 = nI q' ∧ q' ≤ (y_te K (a, 0)).1) := by
  refine q_mV.of (q_recV rfl Y.ok) (fun Q fin => ?_)
  have hc := Y.c2
  have e12 := Y.e12
  have hO := P.2.1
  have hl := hO.n
  have hne := hO.ne
  have z1 : (y_E K (y_op K (y_E K (y_ps (a, 0))))).2 = 0 := y_nd_z hz
  have z2 := (y_to.E (K := K) (y_to.rf (s := y_op K (y_E K (y_ps (a, 0)))))).2.1 z1
  have z3 := (y_to.op (K := K) (y_to.rf (s := y_E K (y_ps (a, 0))))).2.1 z2
  have z4 := (y_to.E (K := K) (y_to.rf (s := y_ps (a, 0)))).2.1 z3
  obtain ⟨p1, p1b⟩ := y_ps_b rfl z4
  rw [p1] at z3 z2 z1
  obtain ⟨v1, b1, b2, b3, b4, _⟩ := e_all (K := K) (P := Pl) (X := K) (U := V) (set := false) (L := 0) p1b z3
  rw [b4] at z2 z1
  have p2 : y_op K (e_E K 1202 (a + 1), 0) = (e_E K 1202 (a + 1) + 1, 0) ∧ e_E K 1202 (a + 1) + 1 ≤ 1200 := by
    unfold y_op at z2 ⊢
    split at z2
    · next h9 =>
      rw [if_pos h9]
      exact y_ps_b rfl z2
    · exfalso
      exact absurd z2 (show ¬ (1 : Nat) = 0 by decide)
  obtain ⟨p2, p2b⟩ := p2
  rw [p2] at z1
  obtain ⟨v2, d1, d2, d3, d4, _⟩ := e_all (K := K) (P := Pl) (X := K) (U := V) (set := false) (L := 0) p2b z1
  have ea : y_te K (a, 0) = (e_E K 1202 (e_E K 1202 (a + 1) + 1) + 1, 0) := by
    have : y_te K (a, 0) = y_nd K 26 (e_E K 1202 (e_E K 1202 (a + 1) + 1), 0) := by
      show y_nd K 26 (y_E K (y_op K (y_E K (y_ps (a, 0))))) = _
      rw [p1, b4, p2, d4]
    rw [this] at hz ⊢
    exact (y_nd_p rfl hz).2
  rw [ea] at he fin
  have he : e_E K 1202 (e_E K 1202 (a + 1) + 1) + 1 ≤ e := he
  have fin : ∀ h', g_y K Pl V e c (g_te K V c m o t a h0) h' (e_E K 1202 (e_E K 1202 (a + 1) + 1) + 1) ∧ (∃ q', qI (g_te K V c m o t a h0) c 4 = nI q' ∧ q' ≤ e_E K 1202 (e_E K 1202 (a + 1) + 1) + 1) → Q none h' := fin
  unfold g_te at fin
  generalize hb : e_E K 1202 (a + 1) = b at *
  generalize hd : e_E K 1202 (b + 1) = d at *
  have r13 : ∀ {h h1 x}, g_y K Pl V e c h1 h x → qR h1 = qR h0 → qR h 589 13 = o := fun Y h9 => Y.rl (by rw [h9]; exact P.1)
  have o11 : ∀ {h}, q_Sh h → q_ok h (o + 12) 20 ∧ (qK h (o + 12)).2 = 16 := fun S => S.oa hO 11 (by decide)
  have o12 : ∀ {h}, q_Sh h → q_ok h (o + 13) 20 ∧ (qK h (o + 13)).2 = 16 := fun S => S.oa hO 12 (by decide)
  have na := hO.na hc
  have Y1 := Y.n1 (show a + 1 ≤ e by omega)
  have e3 : qI h o 3 = nI t := by rw [Y.O (by omega)]; exact hn
  refine b42_0 (v0 := o) (v1 := o + 12) Y.ok (Y.rl P.1) (Y.sh.oo hO) (Y.sh.orr hO 11 (by decide)) (by rw [e3]; exact s128 (k := 0)) (by decide) ?_
  rintro z h2 ⟨e0, rfl⟩
  subst h2
  rw [e3]
  refine b42_30 (v0 := c) Y1.ok Y1.bk (s15 Y1.okB) (by decide) ?_
  rintro z h2 ⟨e0, rfl⟩
  subst h2
  refine b42_37 (s233 (n := 16) (o11 Y1.sh).1 (o11 Y1.sh).2 (by decide)) (by decide) ?_
  rintro h2 rfl
  rw [c_set_in (by omega) (by decide), Y1.O (show ¬ c = 589 by omega)]
  have Y2 := Y1.sA (x := o + 12) (i := 2 * t) (v := qI h0 c 4) (by omega)
  refine b42_40 (g_WEn (m := m) h22 1202 0 (a + 1) _ _ q (by decide) v1 (by rw [hb]; omega) Y2 hq (by omega) hm) (by decide) ?_
  rintro h3 ⟨Y3, t3, q3, q4, q5⟩
  rw [hb] at Y3 q5
  refine b42_45 (v0 := o) (v1 := o + 13) Y3.ok (r13 Y3 (by rw [g_E_R]; rfl)) (Y3.sh.oo hO) (Y3.sh.orr hO 12 (by decide)) (s128 (k := 0)) (by decide) ?_
  rintro z h2 ⟨e0, rfl⟩
  subst h2
  refine b42_57 (v0 := c) Y3.ok Y3.bk (s15 Y3.okB) (by decide) ?_
  rintro z h2 ⟨e0, rfl⟩
  subst h2
  refine b42_64 (s233 (n := 16) (o12 Y3.sh).1 (o12 Y3.sh).2 (by decide)) (by decide) ?_
  rintro h3' rfl
  rw [c_set_in (by omega) (by decide), Y3.O (show ¬ c = 589 by omega)]
  have Y4 : g_y K Pl V e c (g_t1 K V c m o (2 * t) (a + 1) h0) _ b := Y3.sA (x := o + 13) (i := 2 * t) (v := qI (g_E K V c m 1202 (a + 1) (q_sA h0 (o + 12) (2 * t) (qI h0 c 4))) c 4) (by omega)
  refine b42_67 (v0 := o) Y4.ok (r13 Y4 g_t1_R) (s25 Y4) (by decide) ?_
  rintro z h2 ⟨e0, rfl⟩
  subst h2
  refine b42_75 (s136 (t := t) Y4 hO (by rw [g_t1_I (by omega) (by omega)]; exact hn) h4) (by decide) ?_
  intro h5 Y5
  have Y6 := Y5.n1 (show b + 1 ≤ e by omega)
  refine b42_78 (v0 := o) (v1 := o + 12) Y5.ok (r13 Y5 (by rw [qR_sI, qR_sA, g_t1_R])) (Y5.sh.oo hO) (Y5.sh.orr hO 11 (by decide)) (s128 (k := 1)) (by decide) ?_
  rintro z h2 ⟨e0, rfl⟩
  subst h2
  refine b42_100 (v0 := c) Y6.ok Y6.bk (s15 Y6.okB) (by decide) ?_
  rintro z h2 ⟨e0, rfl⟩
  subst h2
  refine b42_107 (s233 (n := 16) (o11 Y6.sh).1 (o11 Y6.sh).2 (by decide)) (by decide) ?_
  rintro h6 rfl
  rw [c_set_in (by omega) (by decide), Y6.O (show ¬ c = 589 by omega)]
  generalize hh4 : q_sI (q_sA (g_t1 K V c m o (2 * t) (a + 1) h0) (o + 7) t (nI (K b))) o 3 (nI (t + 1)) = h4 at *
  have m4 : qI h4 589 9 = nI m := by rw [← hh4, q_sI_n (by omega), qI_sA, g_t1_I (by omega) (by omega)]; exact hm
  have q4' : qI h4 c 4 = nI q3 := by rw [← hh4, q_sI_n (by omega), qI_sA]; exact q4
  have R4 : qR h4 = qR h0 := by rw [← hh4, qR_sI, qR_sA, g_t1_R]
  have Y7 := Y6.sA (x := o + 12) (i := 2 * t + 1) (v := qI h4 c 4) (by omega)
  refine b42_110 (g_WEn (m := m) h22 1202 0 (b + 1) _ _ q3 (by decide) v2 (by rw [hd]; omega) Y7 q4' (by omega) m4) (by decide) ?_
  rintro h8 ⟨Y8, t8, q6, q7, q8⟩
  rw [hd] at Y8 q8
  refine b42_115 (v0 := o) (v1 := o + 13) Y8.ok (r13 Y8 (by rw [g_E_R, qR_sA, R4])) (Y8.sh.oo hO) (Y8.sh.orr hO 12 (by decide)) (s128 (k := 1)) (by decide) ?_
  rintro z h2 ⟨e0, rfl⟩
  subst h2
  refine b42_127 (v0 := c) Y8.ok Y8.bk (s15 Y8.okB) (by decide) ?_
  rintro z h2 ⟨e0, rfl⟩
  subst h2
  refine b42_134 (s233 (n := 16) (o12 Y8.sh).1 (o12 Y8.sh).2 (by decide)) (by decide) ?_
  rintro h9 rfl
  rw [c_set_in (by omega) (by decide), Y8.O (show ¬ c = 589 by omega)]
  have Y9 : g_y K Pl V e c (g_t1 K V c m o (2 * t + 1) (b + 1) h4) _ d := Y8.sA (x := o + 13) (i := 2 * t + 1) (v := qI (g_E K V c m 1202 (b + 1) (q_sA h4 (o + 12) (2 * t + 1) (qI h4 c 4))) c 4) (by omega)
  exact b42_137 Y9.ok (fin _ ⟨Y9.n1 (by omega), q6, q7, by omega⟩)
end GB
