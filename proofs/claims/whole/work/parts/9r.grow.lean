/-! THE BUILDER OF THE CLASS: rows of dos -/
def g_pr (c D p : Nat) (r : Int32 × q_Hp) : q_Hp := g_pt c D p r.1 r.2
def g_w0 (K : Nat → Nat) (V : Nat → Int64) (c D a : Nat) (h : q_Hp) : q_Hp := if K a = 21 then g_pt c D 1 (V (a + 1)).toInt32 (g_yw (a + 1) (V (a + 1)) (g_do c D (nI (K a)) h)) else g_do c D (nI (K a)) h
def g_ws (K : Nat → Nat) (V : Nat → Int64) (c D : Nat) (rec : y_S → q_Hp → Int32 × q_Hp) (yr : y_S → y_S) (s : y_S) (h : q_Hp) : q_Hp := if K s.1 = 22 then g_pr c D 5 (rec (y_nd K 24 (yr (y_nd K 23 (yr (y_ps s))))) (g_pr c D 4 (rec (y_nd K 23 (yr (y_ps s))) (g_pr c D 3 (rec (y_ps s) (g_w0 K V c D s.1 h)))))) else g_pr c D 3 (rec (y_w1 K s) (g_w0 K V c D s.1 h))
/-- a do is put behind the last one of its row -/
def g_ln (c D : Nat) (p : Int32 × Int32) (h : q_Hp) : q_Hp := if p.2 = -1 then h else g_pt c p.2.toNatClampNeg 2 (nI D) h
def g_pp (D : Nat) (p : Int32 × Int32) : Int32 × Int32 := (if p.2 = -1 then nI D else p.1, nI D)
/-- a row: its first do, and the heap -/
def g_rw (K : Nat → Nat) (V : Nat → Int64) (c rF pF : Nat) : Nat → Nat → y_S → Int32 × Int32 → q_Hp → Int32 × q_Hp
  | 0, _, _, p, h => (p.1, h)
  | m + 1, d, s, p, h => if y_wl K s = true then g_rw K V c rF pF m d (y_rs K (y_ro K m (d + 1)) (y_rm (decide (d < 8)) s)) (g_pp (g_Dn c h) p) (g_ln c (g_Dn c h) p (g_ws K V c (g_Dn c h) (fun s h => g_rw K V c rF pF m (d + 1) s (-1, -1) h) (y_ro K m (d + 1)) s h)) else if y_dc K s = true then g_rw K V c rF pF m d (y_nd K 26 (y_nd K 40 (y_ps s))) (g_pp (g_Dn c h) p) (g_ln c (g_Dn c h) p (g_dc K V c rF pF (g_Dn c h) s.1 h)) else if y_is K 19 s = true then g_rw K V c rF pF m d (y_nd K 26 (y_ps s)) (g_pp (g_Dn c h) p) (g_ln c (g_Dn c h) p (g_do c (g_Dn c h) 19 h)) else if y_is K 17 s = true then g_rw K V c rF pF m d (y_an K s) (g_pp (g_Dn c h) p) (g_ln c (g_Dn c h) p (g_an K V c rF (g_Dn c h) s.1 h)) else (p.1, h)
section GD
variable {K : Nat → Nat} {V : Nat → Int64} {c rF pF : Nat} {h h1 h2 : q_Hp}
theorem g_Kd.w0 {D a : Nat} (H : g_Kd c h h1) : g_Kd c h (g_w0 K V c D a h1) := by
  unfold g_w0
  split
  · exact H.dd.yw.pt
  · exact H.dd
theorem g_Kd.ln {D : Nat} {p : Int32 × Int32} (H : g_Kd c h h1) : g_Kd c h (g_ln c D p h1) := by
  unfold g_ln
  split
  · exact H
  · exact H.pt
theorem g_Kd.pr {D i : Nat} {r : Int32 × q_Hp} (H : g_Kd c h r.2) : g_Kd c h (g_pr c D i r) := H.pt
theorem g_Kd.ws {D : Nat} {rec : y_S → q_Hp → Int32 × q_Hp} {yr : y_S → y_S} {s : y_S} (hr : ∀ s h1, g_Kd c h h1 → g_Kd c h (rec s h1).2) (H : g_Kd c h h1) : g_Kd c h (g_ws K V c D rec yr s h1) := by
  unfold g_ws
  split
  · exact (hr _ _ (hr _ _ (hr _ _ H.w0).pr).pr).pr
  · exact (hr _ _ H.w0).pr
theorem g_Kd.rw : ∀ m d s p h1, g_Kd c h h1 → g_Kd c h (g_rw K V c rF pF m d s p h1).2 := by
  intro m
  induction m with
  | zero => intro d s p h1 H; exact H
  | succ m ih =>
    intro d s p h1 H
    unfold g_rw
    split
    · exact ih _ _ _ _ (g_Kd.ln (g_Kd.ws (fun s h2 H2 => ih _ _ _ _ H2) H))
    · split
      · exact ih _ _ _ _ (g_Kd.ln H.dc)
      · split
        · exact ih _ _ _ _ (g_Kd.ln H.dd)
        · split
          · exact ih _ _ _ _ (g_Kd.ln H.an)
          · exact H
end GD
def g_RL (K Pl : Nat → Nat) (V : Nat → Int64) (e c rF pF m : Nat) : Prop := ∀ (d : Nat) (s : y_S) (p : Int32 × Int32) (h0 h : q_Hp) (t D : Nat) (l5 : Option Value) (Q : Option Value → q_Hp → Prop), d ≤ 8 → s.2 = 0 → 1202 ≤ m + s.1 → t ≤ s.1 → g_SN rF pF h0 → qI h0 c 5 = nI D → D ≤ s.1 → (p.2 = -1 ∨ ∃ j, j < D ∧ p.2 = nI j) → g_y K Pl V e c h0 h s.1 → (y_ro K m d s).2 = 0 → (y_ro K m d s).1 ≤ e → (∀ h', g_y K Pl V e c (g_rw K V c rF pF m d s p h0).2 h' (y_ro K m d s).1 → (∃ D', qI (g_rw K V c rF pF m d s p h0).2 c 5 = nI D' ∧ D ≤ D' ∧ D' ≤ (y_ro K m d s).1) → Q (some (.int (g_rw K V c rF pF m d s p h0).1)) h') → q_wp (2 * (8 - d) + 4) 53 7 [some (.ref 589), some (.int (nI d)), some (.int p.1), some (.int p.2), some (.int (nI t)), l5] [] h Q
section GB
variable {K Pl : Nat → Nat} {V : Nat → Int64} {e c a : Nat} {h0 h : q_Hp}
theorem s53 {rF pF m d D : Nat} {s : y_S} (L : g_RL K Pl V e c rF pF m) (hd : d ≤ 8) (hs : s.2 = 0) (hm : 1202 ≤ m + s.1) (S : g_SN rF pF h0) (hD : qI h0 c 5 = nI D) (hDs : D ≤ s.1) (Y : g_y K Pl V e c h0 h s.1) (hz : (y_ro K m d s).2 = 0) (he : (y_ro K m d s).1 ≤ e) : q_mI (2 * (8 - d) + 4) 53 [.ref 589, .int (nI d)] h (fun z h' => z = (g_rw K V c rF pF m d s (-1, -1) h0).1 ∧ g_y K Pl V e c (g_rw K V c rF pF m d s (-1, -1) h0).2 h' (y_ro K m d s).1 ∧ ∃ D', qI (g_rw K V c rF pF m d s (-1, -1) h0).2 c 5 = nI D' ∧ D ≤ D' ∧ D' ≤ (y_ro K m d s).1) := by
  refine q_mI.of (q_recV rfl Y.ok) (fun Q fin => ?_)
  refine b53_0 ?_
  rw [show (0 : Int32) = nI 0 from rfl]
  exact L d s (-1, -1) h0 h 0 D _ Q hd hs hm (by omega) S hD hDs (Or.inl rfl) Y hz he (fun h' Y' H' => fin _ _ ⟨rfl, Y', H'⟩)
theorem s54 (Y : g_y K Pl V e c h0 h a) : q_mI 2 54 [.ref 589] h (fun z h' => h' = h ∧ z = b2i (decide (15 ≤ K a ∧ K a ≤ 22))) := by
  refine q_mI.of (q_recV rfl Y.ok) (fun Q fin => ?_)
  have k43 := (Y.C.2.2 a Y.le).2.1
  refine b54_0 (s25 Y) (by decide) ?_
  rintro z h2 ⟨e0, rfl⟩
  subst h2
  refine b54_4 (fun c1 => b54_22 (fin _ _ ⟨rfl, ?_⟩)) (fun c1 => b54_9 (s25 Y) (by decide) ?_)
  · have := (nI_ltI (b := 15) (by omega) (by decide)).mp c1
    rw [decide_eq_false (by omega)]
    rfl
  rintro z h2 ⟨e0, rfl⟩
  subst h2
  have c1 : 15 ≤ K a := by
    rcases Nat.lt_or_ge (K a) 15 with h9 | h9
    · exact absurd ((nI_ltI (b := 15) (by omega) (by decide)).mpr h9) c1
    · exact h9
  refine b54_13 (fun c2 => b54_22 (fin _ _ ⟨rfl, ?_⟩)) (fun c2 => b54_18 (fin _ _ ⟨rfl, ?_⟩))
  · have := (nI_ltI (a := 22) (by decide) (by omega)).mp c2
    rw [decide_eq_false (by omega)]
    rfl
  · have c2 : K a ≤ 22 := by
      rcases Nat.lt_or_ge 22 (K a) with h9 | h9
      · exact absurd ((nI_ltI (a := 22) (by decide) (by omega)).mpr h9) c2
      · exact h9
    rw [decide_eq_true ⟨c1, c2⟩]
    rfl
theorem y_eq {s : y_S} {b : Nat} (h1 : s.1 = b) (h2 : s.2 = 0) : s = (b, 0) := Prod.ext h1 h2
/-- a row's part of a do -/
theorem s55_140 {rF pF D n p : Nat} {h1 h2 : q_Hp} {d D' b : Nat} {s s' : y_S} {m : Nat} {x1 x2 x3 : Int32} {Q : Option Value → q_Hp → Prop} (Y : g_y K Pl V e c (g_rw K V c rF pF m d s (-1, -1) h1).2 h2 b) (hD' : qI (g_rw K V c rF pF m d s (-1, -1) h1).2 c 5 = nI D') (hb : D' ≤ b) (hD : D < D') (hp : p < 6) : q_mV 1 21 [.ref c, .int (nI D), .int (nI p), .int (g_rw K V c rF pF m d s (-1, -1) h1).1] h2 (fun h' => g_y K Pl V e c (g_pr c D p (g_rw K V c rF pF m d s (-1, -1) h1)) h' b) := by
  have := Y.le
  have := Y.e12
  exact s21 (D := D') (j := D) (k := p) Y hD' (by omega) hD hp rfl rfl
theorem s55_w {rF pF m d D : Nat} {s : y_S} (L : g_RL K Pl V e c rF pF m) (hd : d < 8) (hs : s.2 = 0) (hm : 1202 ≤ m + (s.1 + 1)) (S : g_SN rF pF h0) (hD : qI h0 c 5 = nI D) (hDs : D ≤ s.1) (Y : g_y K Pl V e c h0 h s.1) (hK : K s.1 = 20 ∨ K s.1 = 21 ∨ K s.1 = 22) (hz : (y_rs K (y_ro K m (d + 1)) s).2 = 0) (he : (y_rs K (y_ro K m (d + 1)) s).1 ≤ e) : q_mI (2 * (8 - d) + 3) 55 [.ref 589, .int (nI d)] h (fun z h' => z = nI D ∧ g_y K Pl V e c (g_ws K V c D (fun s h => g_rw K V c rF pF m (d + 1) s (-1, -1) h) (y_ro K m (d + 1)) s h0) h' (y_rs K (y_ro K m (d + 1)) s).1 ∧ ∃ D', qI (g_ws K V c D (fun s h => g_rw K V c rF pF m (d + 1) s (-1, -1) h) (y_ro K m (d + 1)) s h0) c 5 = nI D' ∧ D < D' ∧ D' ≤ (y_rs K (y_ro K m (d + 1)) s).1) := by
  refine q_mI.of (q_recV rfl Y.ok) (fun Q fin => ?_)
  have hc := Y.c2
  have e12 := Y.e12
  have tor : ∀ s0 s, y_to s0 s → y_to s0 (y_ro K m (d + 1) s) := fun s0 s h => y_to.ro m (d + 1) s0 s h
  have hlt : s.1 + 1 ≤ e := by
    have := y_rs_1 tor hz
    omega
  have is : ∀ c, y_is K c s = decide (K s.1 = c) := by
    intro c
    by_cases h9 : K s.1 = c
    · rw [decide_eq_true h9]
      exact y_is_c.mpr ⟨hs, h9⟩
    · rw [decide_eq_false h9]
      exact Bool.eq_false_iff.mpr (fun h8 => h9 (y_is_c.mp h8).2)
  have d8 : ¬ (8 : Int32) ≤ nI d := fun h9 => by
    have := (nI_leI (a := 8) (by decide) (by omega)).mp h9
    omega
  have x1e : nI d + 1 = nI (d + 1) := nI_1 d
  have lv : 2 * (8 - (d + 1)) + 4 ≤ 2 * (8 - d) + 2 := by omega
  refine s55_13 (n := 2 * (8 - d)) Y hD hDs hlt (fun h3 Y3 => ⟨fun hk => by omega, fun hk => ?_⟩)
  have k3 : g_Kd c h0 (g_do c D (nI (K s.1)) h0) := g_Kd.rf.dd
  have d3 : qI (g_do c D (nI (K s.1)) h0) c 5 = nI (D + 1) := g_do_5
  unfold g_ws at fin
  unfold y_rs at hz he fin
  rw [is, is] at hz he fin
  refine b55_52 (fun _ => b55_74 (fun _ => b55_96 (fun c1 => ?_) (fun _ => b55_102 (fun c1 => absurd c1 d8) (fun _ => ?_))) (fun c1 => ?_)) (fun c1 => ?_)
  rotate_left 2
  · have := (nI_eq (b := 17) (by omega) (by decide)).mp c1
    omega
  · have := (nI_eq (b := 18) (by omega) (by decide)).mp c1
    omega
  · have := (nI_eq (b := 19) (by omega) (by decide)).mp c1
    omega
  by_cases h22 : K s.1 = 22
  rotate_left 1
  · -- while and loop
    rw [if_neg (fun h9 => h22 (of_decide_eq_true h9))] at hz he fin
    rw [if_neg h22] at fin
    have ew : (if decide (K s.1 = 21) = true then y_nd K 41 (y_ps s) else y_ps s) = y_w1 K s := by
      unfold y_w1
      rw [is]
    rw [ew] at hz he fin
    have z1 := y_nd_z hz
    have z2 := (tor _ _ (y_to.rf (s := y_w1 K s))).2.1 z1
    have p5 := (y_nd_0 hz).2
    have t5 := (tor _ _ (y_to.rf (s := y_w1 K s))).1
    rw [p5] at he fin
    have he : (y_ro K m (d + 1) (y_w1 K s)).1 + 1 ≤ e := he
    have g127 : ∀ h4, (y_w1 K s).1 ≥ s.1 + 1 → g_y K Pl V e c (g_w0 K V c D s.1 h0) h4 (y_w1 K s).1 → q_wp (2 * (8 - d) + 3) 55 127 [some (.ref 589), some (.int (nI d)), some (.int (nI (K s.1))), some (.int (nI D))] [] h4 Q := by
      intro h4 hw Y4
      have D4 : qI (g_w0 K V c D s.1 h0) c 5 = nI (D + 1) := by
        unfold g_w0
        split
        · rw [g_pt_I]
          unfold g_yw
          split
          · exact d3
          · rw [g_fa_I (by omega)]; exact d3
        · exact d3
      refine b55_127 (n := 2 * (8 - d) + 2) (v0 := c) Y4.ok Y4.bk (by rw [x1e]; exact s53 L (by omega) z2 (by omega) ((g_Kd.rf.w0).SN hc S) D4 (by omega) Y4 z1 (by omega)) lv ?_
      rintro z h5 ⟨rfl, Y5, D', q1, q2, q3⟩
      refine b55_140 (n := 2 * (8 - d) + 2) (s55_140 (x1 := 0) (x2 := 0) (x3 := 0) (n := 0) (s' := s) (Q := Q) (p := 3) Y5 q1 q3 (by omega) (by decide)) (by omega) (fun h6 Y6 => b55_143 (fun _ => b55_201 Y6.ok (fin _ _ ⟨rfl, Y6.n1 he, D', q1, by omega, by show D' ≤ _ + 1; omega⟩)) (fun c1 => ?_))
      have := (nI_eq (b := 22) (by omega) (by decide)).mp c1
      omega
    by_cases h21 : K s.1 = 21
    · have ew1 : y_w1 K s = y_nd K 41 (y_ps s) := by
        unfold y_w1
        rw [is, if_pos (decide_eq_true h21)]
      have p2 : y_w1 K s = (s.1 + 2, 0) := by
        rw [ew1] at z2 ⊢
        exact (y_pn_2 z2).1
      rw [p2] at g127 t5
      have t5 : s.1 + 2 ≤ _ := t5
      refine b55_108 (fun c1 => absurd (by rw [h21]; rfl) c1) (fun _ => b55_114 (n := 2 * (8 - d) + 2) (v0 := c) Y3.ok Y3.bk (s57 Y3 (by rw [p2] at he; omega)) (by omega) ?_)
      rintro z h4 ⟨rfl, Y4⟩
      have d4 : qI (g_yw (s.1 + 1) (V (s.1 + 1)) (g_do c D (nI (K s.1)) h0)) c 5 = nI (D + 1) := by
        unfold g_yw
        split
        · exact d3
        · rw [g_fa_I (by omega)]; exact d3
      refine b55_124 (n := 2 * (8 - d) + 2) (s21 (D := D + 1) (j := D) (k := 1) Y4 d4 (by omega) (by omega) (by decide) rfl rfl) (by omega) (fun h5 Y5 => g127 _ (by show s.1 + 1 ≤ s.1 + 2; omega) ?_)
      unfold g_w0
      rw [if_pos h21]
      exact Y5
    · have ew1 : y_w1 K s = y_ps s := by
        unfold y_w1
        rw [is, if_neg (fun h9 => h21 (of_decide_eq_true h9))]
      have p2 : y_w1 K s = (s.1 + 1, 0) := by
        rw [ew1] at z2 ⊢
        exact (y_ps_0 z2).2
      rw [p2] at g127
      refine b55_108 (fun _ => g127 _ (Nat.le_refl _) ?_) (fun c1 => absurd ((nI_eq (b := 21) (by omega) (by decide)).mp c1) h21)
      unfold g_w0
      rw [if_neg h21]
      exact Y3
  -- try
  have n21 : ¬ K s.1 = 21 := by omega
  rw [if_pos (decide_eq_true h22)] at hz he fin
  rw [if_pos h22] at fin
  have z5 := y_nd_z hz
  have p5 := (y_nd_0 hz).2
  have z4 := (tor _ _ (y_to.rf (s := y_nd K 24 (y_ro K m (d + 1) (y_nd K 23 (y_ro K m (d + 1) (y_ps s))))))).2.1 z5
  have t4 := (tor _ _ (y_to.rf (s := y_nd K 24 (y_ro K m (d + 1) (y_nd K 23 (y_ro K m (d + 1) (y_ps s))))))).1
  have z3 := y_nd_z z4
  have p4 := (y_nd_0 z4).2
  have z2 := (tor _ _ (y_to.rf (s := y_nd K 23 (y_ro K m (d + 1) (y_ps s))))).2.1 z3
  have t2 := (tor _ _ (y_to.rf (s := y_nd K 23 (y_ro K m (d + 1) (y_ps s))))).1
  have z1 := y_nd_z z2
  have p2 := (y_nd_0 z2).2
  have z0 := (tor _ _ (y_to.rf (s := y_ps s))).2.1 z1
  have t0 := (tor _ _ (y_to.rf (s := y_ps s))).1
  have p0 := (y_ps_0 z0).2
  rw [p5] at he fin
  have ew0 : g_w0 K V c D s.1 h0 = g_do c D (nI (K s.1)) h0 := by
    unfold g_w0
    rw [if_neg n21]
  rw [ew0] at fin
  generalize hs2 : y_nd K 24 (y_ro K m (d + 1) (y_nd K 23 (y_ro K m (d + 1) (y_ps s)))) = s2 at *
  generalize hs1 : y_nd K 23 (y_ro K m (d + 1) (y_ps s)) = s1 at *
  generalize hs0 : y_ps s = s0 at *
  have t4' : (y_ro K m (d + 1) s1).1 + 1 ≤ (y_ro K m (d + 1) s2).1 := by rw [p4] at t4; rw [p4]; exact t4
  have t2' : (y_ro K m (d + 1) s0).1 + 1 ≤ (y_ro K m (d + 1) s1).1 := by rw [p2] at t2; rw [p2]; exact t2
  have t0' : s.1 + 1 ≤ (y_ro K m (d + 1) s0).1 := by rw [p0] at t0; rw [p0]; exact t0
  have he : (y_ro K m (d + 1) s2).1 + 1 ≤ e := he
  have e0 : s0.1 = s.1 + 1 := by rw [p0]
  have e1 : s1.1 = (y_ro K m (d + 1) s0).1 + 1 := by rw [p2]
  have e2 : s2.1 = (y_ro K m (d + 1) s1).1 + 1 := by rw [p4]
  have Y3 : g_y K Pl V e c (g_do c D (nI (K s.1)) h0) h3 s0.1 := by rw [e0]; exact Y3
  refine b55_108 (fun _ => ?_) (fun c1 => absurd ((nI_eq (b := 21) (by omega) (by decide)).mp c1) n21)
  refine b55_127 (n := 2 * (8 - d) + 2) (v0 := c) Y3.ok Y3.bk (by rw [x1e]; exact s53 L (by omega) z0 (by omega) (k3.SN hc S) d3 (by omega) Y3 z1 (by omega)) lv ?_
  rintro z h5 ⟨rfl, Y5, D1, q1, q2, q3⟩
  refine b55_140 (n := 2 * (8 - d) + 2) (s55_140 (x1 := 0) (x2 := 0) (x3 := 0) (n := 0) (s' := s) (Q := Q) (p := 3) Y5 q1 q3 (by omega) (by decide)) (by omega) (fun h6 Y6 => b55_143 (fun c1 => absurd (by rw [h22]; rfl) c1) (fun _ => ?_))
  have K6 : g_Kd c h0 (g_pr c D 3 (g_rw K V c rF pF m (d + 1) s0 (-1, -1) (g_do c D (nI (K s.1)) h0))) := (g_Kd.rw _ _ _ _ _ k3).pr
  have Y7 := Y6.n1 (show (y_ro K m (d + 1) s0).1 + 1 ≤ e by omega)
  rw [← e1] at Y7
  refine b55_149 (n := 2 * (8 - d) + 2) (v0 := c) Y6.ok Y6.bk (by rw [x1e]; exact s53 L (by omega) z2 (by omega) (K6.SN hc S) q1 (by omega) Y7 z3 (by omega)) lv ?_
  rintro z h8 ⟨rfl, Y8, D2, q4, q5, q6⟩
  refine b55_172 (n := 2 * (8 - d) + 2) (s55_140 (x1 := 0) (x2 := 0) (x3 := 0) (n := 0) (s' := s) (Q := Q) (p := 4) Y8 q4 q6 (by omega) (by decide)) (by omega) (fun h9 Y9 => ?_)
  have K9 := ((g_Kd.rw (K := K) (V := V) (rF := rF) (pF := pF) m (d + 1) s1 (-1, -1) _ K6).pr (D := D) (i := 4))
  have Y10 := Y9.n1 (show (y_ro K m (d + 1) s1).1 + 1 ≤ e by omega)
  rw [← e2] at Y10
  refine b55_175 (n := 2 * (8 - d) + 2) (v0 := c) Y9.ok Y9.bk (by rw [x1e]; exact s53 L (by omega) z4 (by omega) (K9.SN hc S) q4 (by omega) Y10 z5 (by omega)) lv ?_
  rintro z h11 ⟨rfl, Y11, D3, q7, q8, q9⟩
  refine b55_198 (n := 2 * (8 - d) + 2) (s55_140 (x1 := 0) (x2 := 0) (x3 := 0) (n := 0) (s' := s) (Q := Q) (p := 5) Y11 q7 q9 (by omega) (by decide)) (by omega) (fun h12 Y12 => b55_201 Y12.ok (fin _ _ ⟨rfl, Y12.n1 he, D3, q7, by omega, by show D3 ≤ _ + 1; omega⟩))
end GB
