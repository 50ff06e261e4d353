/-! THE BUILDER OF THE CLASS: rows of nodes and links, tests -/
/-- what a sum leaves as it is -/
def g_kx (c : Nat) (h h' : q_Hp) : Prop := (∀ x, ¬ x = c + 6 ∧ ¬ x = c + 7 → qA h' x = qA h x) ∧ qL h' = qL h ∧ qR h' = qR h ∧ ∀ o j, ¬ (o = c ∧ j = 4) → ¬ (o = 589 ∧ (j = 15 ∨ j = 16)) → qI h' o j = qI h o j
theorem g_kx.rf {c : Nat} {h : q_Hp} : g_kx c h h := ⟨fun _ _ => rfl, rfl, rfl, fun _ _ _ _ => rfl⟩
theorem g_kx.cx {c : Nat} {h h1 : q_Hp} {x y : Int32} (H : g_kx c h h1) : g_kx c h (g_cx c x y h1) := ⟨fun z hz => (g_cd_A hz).trans (H.1 z hz), H.2.1, H.2.2.1, fun o j h1 h2 => (g_cd_I h1).trans (H.2.2.2 o j h1 h2)⟩
theorem g_kx.fa {c a : Nat} {h h1 : q_Hp} {n : Int32} (H : g_kx c h h1) : g_kx c h (g_fa n a h1) := ⟨fun z hz => by rw [g_fa_A]; exact H.1 z hz, by rw [g_fa_L]; exact H.2.1, by rw [g_fa_R]; exact H.2.2.1, fun o j h1 h2 => by rw [g_fa_I h2]; exact H.2.2.2 o j h1 h2⟩
theorem g_kx.fw {c a : Nat} {h h1 : q_Hp} {o : Option Nat} (H : g_kx c h h1) : g_kx c h (g_fw a o h1) := by
  unfold g_fw
  split
  · exact H.fa
  · exact H
theorem g_kx.xw {c a : Nat} {h h1 : q_Hp} {v : Int64} (H : g_kx c h h1) : g_kx c h (g_xw a v h1) := by
  unfold g_xw
  split
  · exact H
  · exact H.fa
theorem g_kx.U {K : Nat → Nat} {V : Nat → Int64} {c m a : Nat} {rg : Nat → q_Hp → q_Hp} {h h1 : q_Hp} (hr : ∀ a h1, g_kx c h h1 → g_kx c h (rg a h1)) (H : g_kx c h h1) : g_kx c h (g_U K V c m rg a h1) := by
  unfold g_U
  split
  · exact H.cx
  · split
    · exact hr _ _ H
    · exact H.fw.xw.cx
theorem g_kx.sn {c sg : Nat} {neg : Bool} {h h1 : q_Hp} (H : g_kx c h h1) : g_kx c h (g_sn c neg sg h1) := by
  have H2 : g_kx c h (g_ng c neg h1) := by
    unfold g_ng
    split
    · exact H.cx
    · exact H
  unfold g_sn
  split
  · exact H2
  · exact H2.cx
theorem g_kx.R {K : Nat → Nat} {V : Nat → Int64} {c m : Nat} {r : Nat → Nat} {rg : Nat → q_Hp → q_Hp} {h : q_Hp} (hr : ∀ a h1, g_kx c h h1 → g_kx c h (rg a h1)) : ∀ n neg sg a h1, g_kx c h h1 → g_kx c h (g_R K V c m r rg n neg sg a h1) := by
  intro n
  induction n with
  | zero => intro neg sg a h1 H; exact H.sn
  | succ n ih =>
    intro neg sg a h1 H
    unfold g_R
    split
    · exact ih _ _ _ _ (H.U hr).cx
    · split
      · exact ih _ _ _ _ (H.sn.U hr)
      · exact H.sn
theorem g_kx.E {K : Nat → Nat} {V : Nat → Int64} {c m : Nat} {h : q_Hp} : ∀ n a h1, g_kx c h h1 → g_kx c h (g_E K V c m n a h1) := by
  intro n
  induction n with
  | zero => intro a h1 H; exact H
  | succ n ih =>
    intro a h1 H
    unfold g_E
    exact g_kx.R ih _ _ _ _ _ (H.U ih)
theorem g_E_A {K : Nat → Nat} {V : Nat → Int64} {c m n a x : Nat} {h : q_Hp} (hx : ¬ x = c + 6 ∧ ¬ x = c + 7) : qA (g_E K V c m n a h) x = qA h x := (g_kx.E n a h g_kx.rf).1 x hx
theorem g_E_L {K : Nat → Nat} {V : Nat → Int64} {c m n a : Nat} {h : q_Hp} : qL (g_E K V c m n a h) = qL h := (g_kx.E n a h g_kx.rf).2.1
theorem g_E_R {K : Nat → Nat} {V : Nat → Int64} {c m n a : Nat} {h : q_Hp} : qR (g_E K V c m n a h) = qR h := (g_kx.E n a h g_kx.rf).2.2.1
theorem g_E_I {K : Nat → Nat} {V : Nat → Int64} {c m n a o j : Nat} {h : q_Hp} (h1 : ¬ (o = c ∧ j = 4)) (h2 : ¬ (o = 589 ∧ (j = 15 ∨ j = 16))) : qI (g_E K V c m n a h) o j = qI h o j := (g_kx.E n a h g_kx.rf).2.2.2 o j h1 h2
theorem q_isO.ne {o : Nat} (ho : q_isO o) : ¬ o = 11 ∧ ¬ o = 300 ∧ ¬ o = 3 ∧ ¬ o = 589 := by
  have hl := ho.le
  obtain ⟨b, r, hb, hr, rfl⟩ := ho
  have : b = 11 ∨ b = 300 := hb
  omega
/-- a rule's rows are none of a book's own -/
theorem q_isO.na {o c : Nat} (ho : q_isO o) (hc : c = 11 ∨ c = 300) : ∀ i j, 1 ≤ i → i < 14 → 1 ≤ j → j < 9 → ¬ o + i = c + j := by
  intro i j h1 h2 h3 h4
  obtain ⟨b, r, hb, hr, rfl⟩ := ho
  have : b = 11 ∨ b = 300 := hb
  omega
section GB
variable {K Pl : Nat → Nat} {V : Nat → Int64} {e c a : Nat} {h0 h : q_Hp}
/-- the rule that is filled, types and sorts -/
def g_P (c nt ns o : Nat) (h : q_Hp) : Prop := qR h 589 13 = o ∧ q_isO o ∧ qI h c 0 = nI nt ∧ nt ≤ 12 ∧ qI h c 1 = nI ns ∧ ns ≤ 12
theorem g_P.cc {nt ns o : Nat} {h1 : q_Hp} (H : g_P c nt ns o h0) (e1 : qR h1 589 13 = qR h0 589 13) (e2 : qI h1 c 0 = qI h0 c 0) (e3 : qI h1 c 1 = qI h0 c 1) : g_P c nt ns o h1 := by
  unfold g_P
  rw [e1, e2, e3]
  exact H
theorem g_tl_I {m x j : Nat} {v : Int64} {kd nu ty : Int32} (h9 : ¬ (x = 589 ∧ j = 9)) : qI (g_tl m v kd nu ty h0) x j = qI h0 x j := by
  unfold g_tl
  rw [q_sI_n h9]
  rfl
theorem g_tl_9 {m : Nat} {v : Int64} {kd nu ty : Int32} : qI (g_tl m v kd nu ty h0) 589 9 = nI (m + 1) := q_sI_e
theorem g_tl_A {m x : Nat} {v : Int64} {kd nu ty : Int32} (h9 : ¬ x = 593 ∧ ¬ x = 594 ∧ ¬ x = 595 ∧ ¬ x = 596) : qA (g_tl m v kd nu ty h0) x = qA h0 x := by
  unfold g_tl
  rw [qA_sI, qA_sAn h9.2.2.2, qA_sAn h9.2.2.1, qA_sAn h9.2.1, qA_sAn h9.1, qA_sL]
theorem g_tl_L {m x : Nat} {v : Int64} {kd nu ty : Int32} (h9 : ¬ x = 592) : qL (g_tl m v kd nu ty h0) x = qL h0 x := by
  unfold g_tl
  rw [qL_sI, qL_sA, qL_sA, qL_sA, qL_sA, qL_sLn h9]
theorem g_tl_R {m : Nat} {v : Int64} {kd nu ty : Int32} : qR (g_tl m v kd nu ty h0) = qR h0 := rfl
/-- the first part of a rule -/
def g_lf (K : Nat → Nat) (V : Nat → Int64) (nt ns o : Nat) : Nat → Nat → Nat → y_S → q_Hp → q_Hp
  | 0, _, _, _, h => h
  | m + 1, n, l, s, h => if y_is K 6 s = true then g_lf K V nt ns o m (n + 1) l (y_no K (decide (n < 4)) s) (g_no V nt o n (n + l) s.1 h) else if y_is K 7 s = true then g_lf K V nt ns o m n (l + 1) (y_li K (decide (l < 6)) s) (g_li V ns o l (n + l) s.1 h) else if y_is K 8 s = true then g_lf K V nt ns o m n l (y_nd K 26 (y_ps s)) (q_sI h o 6 1) else h
/-- a rule with so many nodes and links told -/
def g_Lf (c nt ns o n l : Nat) (h : q_Hp) : Prop := g_P c nt ns o h ∧ qI h 589 9 = nI (n + l) ∧ qI h o 0 = nI n ∧ qI h o 1 = nI l ∧ n ≤ 4 ∧ l ≤ 6
theorem y_no_5 {K : Nat → Nat} {b : Bool} {s : y_S} (h : (y_no K b s).2 = 0) : y_no K b s = (s.1 + 5, 0) ∧ b = true ∧ K (s.1 + 1) = 40 ∧ K (s.1 + 3) = 40 := by
  have a3 : (y_nd K 40 (y_nd K 25 (y_nn K b (y_ps s)))).2 = 0 := y_nd_z h
  have a2 := y_nd_z a3
  have a1 := y_nd_z a2
  obtain ⟨h1, h2, h3, h4, h5⟩ := y_hd a1
  obtain ⟨b2, p2⟩ := y_nd_p h4 a2
  obtain ⟨b3, p3⟩ := y_nd_p p2 a3
  obtain ⟨b4, p4⟩ := y_nd_p p3 h
  exact ⟨p4, h3, h2, b3⟩
theorem y_li_9 {K : Nat → Nat} {b : Bool} {s : y_S} (h : (y_li K b s).2 = 0) : y_li K b s = (s.1 + 9, 0) ∧ b = true ∧ K (s.1 + 1) = 40 ∧ K (s.1 + 3) = 40 ∧ K (s.1 + 5) = 40 ∧ K (s.1 + 7) = 40 := by
  have aw : (y_wy K (y_nd K 25 (y_nn K b (y_ps s)))).2 = 0 := y_nd_z h
  have a2 : (y_nd K 25 (y_nn K b (y_ps s))).2 = 0 := (y_to.wy (K := K) (y_to.rf (s := y_nd K 25 (y_nn K b (y_ps s))))).2.1 aw
  have a1 := y_nd_z a2
  obtain ⟨h1, h2, h3, g4, h5⟩ := y_hd a1
  obtain ⟨b2, p2⟩ := y_nd_p g4 a2
  obtain ⟨b3, b4, b5, b6, b7, p3, p4, p5, p6, p7⟩ := y_wy_0 p2 aw
  obtain ⟨b8, p8⟩ := y_nd_p p7 h
  exact ⟨p8, h3, h2, b3, b5, b7⟩
theorem y_pn_2 {K : Nat → Nat} {c : Nat} {s : y_S} (h : (y_nd K c (y_ps s)).2 = 0) : y_nd K c (y_ps s) = (s.1 + 2, 0) ∧ K (s.1 + 1) = c := by
  obtain ⟨h1, h2⟩ := y_ps_0 (y_nd_z h)
  obtain ⟨h3, h4⟩ := y_nd_p h2 h
  exact ⟨h4, h3⟩
theorem g_Lf.no {nt ns o n l x : Nat} (H : g_Lf c nt ns o n l h0) (hc : c = 11 ∨ c = 300) (h4 : n < 4) : g_Lf c nt ns o (n + 1) l (g_no V nt o n (n + l) x h0) := by
  obtain ⟨P, q1, q2, q3, q4, q5⟩ := H
  have hn := P.2.1.ne
  have I1 : ∀ {y j}, ¬ (y = 589 ∧ (j = 9 ∨ j = 15 ∨ j = 16)) → ¬ (y = o ∧ j = 0) → qI (g_no V nt o n (n + l) x h0) y j = qI h0 y j := by
    intro y j h1 h2
    unfold g_no
    rw [g_tl_I (by omega), q_sI_n h2, qI_sA, g_n1_I (by omega)]
  refine ⟨P.cc ?_ (I1 (by omega) (by omega)) (I1 (by omega) (by omega)), ?_, ?_, (I1 (by omega) (by omega)).trans q3, by omega, q5⟩
  · unfold g_no
    rw [g_tl_R, qR_sI, qR_sA, g_n1_R]
  · unfold g_no
    rw [g_tl_9]
    congr 1
    omega
  · unfold g_no
    rw [g_tl_I (by omega), q_sI_e]
theorem g_Lf.li {nt ns o n l x : Nat} (H : g_Lf c nt ns o n l h0) (hc : c = 11 ∨ c = 300) (h6 : l < 6) : g_Lf c nt ns o n (l + 1) (g_li V ns o l (n + l) x h0) := by
  obtain ⟨P, q1, q2, q3, q4, q5⟩ := H
  have hn := P.2.1.ne
  have I1 : ∀ {y j}, ¬ (y = 589 ∧ (j = 9 ∨ j = 15 ∨ j = 16)) → ¬ (y = o ∧ j = 1) → qI (g_li V ns o l (n + l) x h0) y j = qI h0 y j := by
    intro y j h1 h2
    unfold g_li g_lk
    rw [g_tl_I (by omega), q_sI_n h2, qI_sA, qI_sA, qI_sA, g_l1_I (by omega)]
  refine ⟨P.cc ?_ (I1 (by omega) (by omega)) (I1 (by omega) (by omega)), ?_, (I1 (by omega) (by omega)).trans q2, ?_, q4, by omega⟩
  · unfold g_li g_lk
    rw [g_tl_R, qR_sI, qR_sA, qR_sA, qR_sA, g_l1_R]
  · unfold g_li
    rw [g_tl_9]
    rfl
  · unfold g_li
    rw [g_tl_I (by omega), q_sI_e]
theorem s39_2 {nt ns o : Nat} {Q : Option Value → q_Hp → Prop} : ∀ m n l s h0 h t, s.2 = 0 → 1201 ≤ m + s.1 → t ≤ s.1 → g_Lf c nt ns o n l h0 → g_y K Pl V e c h0 h s.1 → (y_le K 4 6 true m n l s).2 = 0 → (y_le K 4 6 true m n l s).1 ≤ e → (∀ h', g_y K Pl V e c (g_lf K V nt ns o m n l s h0) h' (y_le K 4 6 true m n l s).1 → (∃ n' l', g_Lf c nt ns o n' l' (g_lf K V nt ns o m n l s h0)) → Q none h') → q_wp 5 39 2 [some (.ref 589), some (.int (-1)), some (.int (nI t))] [] h Q := by
  intro m
  induction m with
  | zero =>
    intro n l s h0 h t hs hm ht H Y hz he fin
    have := Y.le
    have := Y.e12
    omega
  | succ m ih =>
    intro n l s h0 h t hs hm ht H Y hz he fin
    have e12 := Y.e12
    have le := Y.le
    have hc := Y.c2
    have k43 := (Y.C.2.2 s.1 Y.le).2.1
    obtain ⟨P, q1, q2, q3, q4, q5⟩ := id H
    have hn := P.2.1.ne
    have r1 : ∀ {h h1}, g_y K Pl V e c h1 h s.1 → qR h1 589 13 = o → qR h 589 13 = o := fun Y h1 => Y.rl h1
    unfold y_le at hz he fin
    unfold g_lf at fin
    have tur : ∀ {w : q_wp 5 39 9 [some (.ref 589), some (.int (-1)), some (.int (nI t))] [] h Q}, q_wp 5 39 2 [some (.ref 589), some (.int (-1)), some (.int (nI t))] [] h Q := fun {w} => b39_2 (fun c1 => by have := (nI_ltI (a := 1200) (by decide) (by omega)).mp c1; omega) (fun _ => w)
    refine tur (w := b39_9 (s25 Y) (by decide) ?_)
    rintro z h2 ⟨e0, rfl⟩
    subst h2
    refine b39_13 (fun c1 => ?_) (fun c1 => ?_)
    rotate_left 1
    · have k6 : K s.1 = 6 := (nI_eq (b := 6) (by omega) (by decide)).mp c1
      have y6 : y_is K 6 s = true := y_is_c.mpr ⟨hs, k6⟩
      rw [if_pos y6] at hz he fin
      rw [if_pos y6] at fin
      have t1 := y_to.le (K := K) (nr := 4) (lr := 6) (cm := true) m (n + 1) l _ _ (y_to.rf (s := y_no K (decide (n < 4)) s))
      have z1 := t1.2.1 hz
      obtain ⟨p1, p2, p3, p4⟩ := y_no_5 z1
      have n4 := of_decide_eq_true p2
      have l1 : s.1 + 5 ≤ e := by
        have := t1.1
        rw [p1] at this
        have : s.1 + 5 ≤ _ := this
        rw [p1] at he
        omega
      refine b39_18 Y.ok (s40_r (n := n) (m := n + l) (Y.n1 (by omega)) (by omega) P.1 P.2.1 P.2.2.1 P.2.2.2.1 q1 (by omega) q2 n4) (by decide) (fun h3 Y3 => b39_33 (b39_94 Y3.ok ?_))
      rw [nI_1]
      have Y4 := Y3.n1 (by omega)
      rw [p1] at hz he fin
      exact ih (n + 1) l (s.1 + 5, 0) _ _ (t + 1) rfl (by show 1201 ≤ m + (s.1 + 5); omega) (by show t + 1 ≤ s.1 + 5; omega) (H.no hc n4) Y4 hz he fin
    have n6 : ¬ y_is K 6 s = true := fun h9 => c1 (by rw [(y_is_c.mp h9).2]; rfl)
    rw [if_neg n6] at hz he fin
    rw [if_neg n6] at fin
    refine b39_36 (s25 Y) (by decide) ?_
    rintro z h2 ⟨e0, rfl⟩
    subst h2
    refine b39_40 (fun c2 => ?_) (fun c2 => ?_)
    rotate_left 1
    · have k7 : K s.1 = 7 := (nI_eq (b := 7) (by omega) (by decide)).mp c2
      have y7 : y_is K 7 s = true := y_is_c.mpr ⟨hs, k7⟩
      rw [if_pos y7] at hz he fin
      rw [if_pos y7] at fin
      have t1 := y_to.le (K := K) (nr := 4) (lr := 6) (cm := true) m n (l + 1) _ _ (y_to.rf (s := y_li K (decide (l < 6)) s))
      have z1 := t1.2.1 hz
      obtain ⟨p1, p2, _⟩ := y_li_9 z1
      have l6 := of_decide_eq_true p2
      have l1 : s.1 + 9 ≤ e := by
        have := t1.1
        rw [p1] at this
        have : s.1 + 9 ≤ _ := this
        rw [p1] at he
        omega
      refine b39_45 Y.ok (s41_r (l := l) (m := n + l) (Y.n1 (by omega)) (by omega) P.1 P.2.1 P.2.2.2.2.1 P.2.2.2.2.2 q1 (by omega) q3 l6) (by decide) (fun h3 Y3 => b39_60 (b39_94 Y3.ok ?_))
      rw [nI_1]
      have Y4 := Y3.n1 (by omega)
      rw [p1] at hz he fin
      exact ih n (l + 1) (s.1 + 9, 0) _ _ (t + 1) rfl (by show 1201 ≤ m + (s.1 + 9); omega) (by show t + 1 ≤ s.1 + 9; omega) (H.li hc l6) Y4 hz he fin
    have n7 : ¬ y_is K 7 s = true := fun h9 => c2 (by rw [(y_is_c.mp h9).2]; rfl)
    rw [if_neg n7] at hz he fin
    rw [if_neg n7] at fin
    refine b39_63 (s25 Y) (by decide) ?_
    rintro z h2 ⟨e0, rfl⟩
    subst h2
    refine b39_67 (fun c3 => ?_) (fun c3 => ?_)
    · have n8 : ¬ y_is K 8 s = true := fun h9 => c3 (by rw [(y_is_c.mp h9).2]; rfl)
      rw [if_neg (show ¬ (true = true ∧ y_is K 8 s = true) from fun h9 => n8 h9.2)] at hz he fin
      rw [if_neg n8] at fin
      exact b39_93 (fin _ Y ⟨n, l, H⟩)
    · have k8 : K s.1 = 8 := (nI_eq (b := 8) (by omega) (by decide)).mp c3
      have y8 : y_is K 8 s = true := y_is_c.mpr ⟨hs, k8⟩
      rw [if_pos (show true = true ∧ y_is K 8 s = true from ⟨rfl, y8⟩)] at hz he fin
      rw [if_pos y8] at fin
      have t1 := y_to.le (K := K) (nr := 4) (lr := 6) (cm := true) m n l _ _ (y_to.rf (s := y_nd K 26 (y_ps s)))
      have z1 := t1.2.1 hz
      obtain ⟨p1, p2⟩ := y_pn_2 z1
      have l1 : s.1 + 2 ≤ e := by
        have := t1.1
        rw [p1] at this
        have : s.1 + 2 ≤ _ := this
        rw [p1] at he
        omega
      have Y1 := Y.n1 (show s.1 + 1 ≤ e by omega)
      have Y2 := Y1.sI (o := o) (j := 6) (v := 1) (by omega) (by omega)
      refine b39_72 (v0 := o) Y.ok (Y1.rl P.1) (Y1.sh.oo P.2.1) (b39_94 Y2.ok ?_)
      rw [nI_1]
      rw [p1] at hz he fin
      refine ih n l (s.1 + 2, 0) _ _ (t + 1) rfl (by show 1201 ≤ m + (s.1 + 2); omega) (by show t + 1 ≤ s.1 + 2; omega) ?_ (Y2.n1 (by omega)) hz he fin
      exact ⟨P.cc rfl (q_sI_n (by omega)) (q_sI_n (by omega)), (q_sI_n (by omega)).trans q1, (q_sI_n (by omega)).trans q2, (q_sI_n (by omega)).trans q3, q4, q5⟩
end GB
