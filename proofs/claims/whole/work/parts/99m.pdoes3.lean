/-! THE PARSE OF THE REFERENCE: a join and a set of a rule -/
/-- what a sum leaves as it is -/
def p_kx (k k' : q_Hp) : Prop := (∀ x, ¬ x = 666 ∧ ¬ x = 667 ∧ ¬ x = 668 ∧ ¬ x = 685 → qA k' x = qA k x) ∧ qL k' = qL k ∧ ∀ j, ¬ j = 12 ∧ ¬ j = 15 ∧ ¬ j = 16 ∧ ¬ j = 22 ∧ ¬ j = 78 → qI k' 630 j = qI k 630 j
theorem p_kx.rf {k : q_Hp} : p_kx k k := ⟨fun _ _ => rfl, rfl, fun _ _ => rfl⟩
theorem p_kx.trans {k k1 k2 : q_Hp} (a : p_kx k k1) (b : p_kx k1 k2) : p_kx k k2 := ⟨fun x h => (b.1 x h).trans (a.1 x h), b.2.1.trans a.2.1, fun j h => (b.2.2 j h).trans (a.2.2 j h)⟩
theorem p_kx.sI {k k1 : q_Hp} {j : Nat} {v : Int32} (a : p_kx k k1) (h : j = 12 ∨ j = 15 ∨ j = 16 ∨ j = 22 ∨ j = 78) : p_kx k (q_sI k1 630 j v) := ⟨a.1, a.2.1, fun i hi => by rw [q_sI_n (by omega)]; exact a.2.2 i hi⟩
theorem p_kx.sA {k k1 : q_Hp} {x i : Nat} {v : Int32} (a : p_kx k k1) (h : x = 666 ∨ x = 667 ∨ x = 668 ∨ x = 685) : p_kx k (q_sA k1 x i v) := ⟨fun y hy => by rw [qA_sAn (by omega)]; exact a.1 y hy, a.2.1, a.2.2⟩
theorem p_kx.em {k k1 : q_Hp} {op x y : Int32} (a : p_kx k k1) : p_kx k (p_em op x y k1) := (((a.sA (by omega)).sA (by omega)).sA (by omega)).sI (by omega)
theorem p_kx.pu {k k1 : q_Hp} {op : Int32} (a : p_kx k k1) : p_kx k (p_pu op k1) := (a.sA (by omega)).sI (by omega)
theorem p_kx.po {k k1 : q_Hp} (a : p_kx k k1) : p_kx k (p_po k1) := (a.sI (by omega)).sI (by omega)
theorem p_kx.wr {k k1 : q_Hp} {P : Nat → Nat} {n i : Nat} (a : p_kx k k1) : p_kx k (p_wr P n i k1) := by
  unfold p_wr
  split
  · exact (a.sI (by omega)).sI (by omega)
  · exact a
theorem p_kx.fw {k k1 : q_Hp} {P : Nat → Nat} {i : Nat} {o : Option Nat} (a : p_kx k k1) : p_kx k (p_fw P i o k1) := by
  unfold p_fw
  split
  · exact a.wr
  · exact a
theorem p_kx.xw {k k1 : q_Hp} {P X : Nat → Nat} {i : Nat} (a : p_kx k k1) : p_kx k (p_xw P X i k1) := by
  unfold p_xw
  split
  · exact a
  · exact a.wr
theorem p_kx.op {k k1 : q_Hp} {o : Nat} {s : y_S} (a : p_kx k k1) : p_kx k (p_op k1 o s) := by
  unfold p_op
  split
  · exact a.sI (by omega)
  · exact a
theorem p_kx.se {k : q_Hp} {l : Int32} : ∀ n k1, p_kx k k1 → p_kx k (p_se l n k1) := by
  intro n
  induction n with
  | zero => intro k1 a; exact a
  | succ n ih =>
    intro k1 a
    unfold p_se
    split
    · exact a
    · exact ih _ (p_kx.em (a.sI (by omega)))
theorem p_kx.sw {k k1 : q_Hp} {l : Int32} (a : p_kx k k1) : p_kx k (p_sw l k1) := p_kx.se _ _ a
theorem p_kx.cl {k : q_Hp} {K : Nat → Nat} : ∀ o s k1, p_kx k k1 → p_kx k (p_cl K o s k1) := by
  intro o
  induction o with
  | zero => intro s k1 a; exact a
  | succ o ih =>
    intro s k1 a
    unfold p_cl
    split
    · exact ih _ _ a.sw.po
    · exact a
theorem p_kx.mk {k k1 : q_Hp} {K : Nat → Nat} {f : Bool} {s : y_S} (a : p_kx k k1) : p_kx k (p_mk K f s k1) := by
  unfold p_mk
  split
  · exact a.pu
  · exact a
theorem p_kx.un {k k1 : q_Hp} {K P X : Nat → Nat} {U : Nat → Int64} {set : Bool} {L : Nat} {s : y_S} (a : p_kx k k1) : p_kx k (p_un K P X U set L s k1) := by
  unfold p_un
  split
  · exact a.em
  · exact a.fw.xw.em
theorem p_kx.su {k : q_Hp} {K P X : Nat → Nat} {U : Nat → Int64} {set : Bool} {L : Nat} : ∀ m f o s k1, p_kx k k1 → p_kx k (p_su K P X U set L m f o s k1) := by
  intro m
  induction m with
  | zero => intro f o s k1 a; exact a
  | succ m ih =>
    intro f o s k1 a
    unfold p_su
    split
    · exact ih _ _ _ _ a.mk.op.pu
    · split
      · exact ih _ _ _ _ (p_kx.cl _ _ _ a.mk.un).sw.pu
      · exact (p_kx.cl _ _ _ a.mk.un).sw
theorem p_kx.ex {k k1 : q_Hp} {K P X : Nat → Nat} {U : Nat → Int64} {set : Bool} {L : Nat} {s : y_S} (a : p_kx k k1) : p_kx k (p_ex K P X U set L s k1) := p_kx.su _ _ _ _ _ (a.sI (by omega))
theorem p_ex_A {k : q_Hp} {K P X : Nat → Nat} {U : Nat → Int64} {set : Bool} {L x : Nat} {s : y_S} (h : ¬ x = 666 ∧ ¬ x = 667 ∧ ¬ x = 668 ∧ ¬ x = 685) : qA (p_ex K P X U set L s k) x = qA k x := p_kx.rf.ex.1 x h
theorem p_ex_L {k : q_Hp} {K P X : Nat → Nat} {U : Nat → Int64} {set : Bool} {L : Nat} {s : y_S} : qL (p_ex K P X U set L s k) = qL k := p_kx.rf.ex.2.1
theorem p_ex_I {k : q_Hp} {K P X : Nat → Nat} {U : Nat → Int64} {set : Bool} {L j : Nat} {s : y_S} (h : ¬ j = 12 ∧ ¬ j = 15 ∧ ¬ j = 16 ∧ ¬ j = 22 ∧ ¬ j = 78) : qI (p_ex K P X U set L s k) 630 j = qI k 630 j := p_kx.rf.ex.2.2 j h
section PD
variable {K P X : Nat → Nat} {U : Nat → Int64} {e : Nat} {k0 k : q_Hp} {s : y_S}
theorem p_jo_L {nt ns q jn L i1 i2 i3 : Nat} : qL (p_jo P U nt ns q jn L i1 i2 i3 k0) = qL k0 := by
  unfold p_jo
  cases p_sd L (U i1) k0 with
  | none => exact p_jo1_L
  | some a =>
    cases p_sd L (U i3) k0 with
    | none => exact p_jo1_L
    | some b =>
      show qL (p_jo2 q jn _ _ _ _) = _
      unfold p_jo2
      rw [qL_sI, qL_sA, qL_sA, qL_sA, qL_sA, qL_sA]
      exact p_jo1_L
theorem p_J.jo {nt ns q jn L i1 i2 i3 d : Nat} (J : p_J L d k0) : p_J L d (p_jo P U nt ns q jn L i1 i2 i3 k0) := ⟨(p_jo_I (by decide)).trans J.1, (p_jo_I (by decide)).trans J.2.1, (p_jo_I (by decide)).trans J.2.2⟩
theorem s273_join {Q : Option Value → q_Hp → Prop} {nt ns r c q jn L d : Nat} {x2 : Int32} (Y : p_y K P X U e k0 k (s.1 + 2, 0)) (hr : r < 20) (hq : q < 320) (h160 : 160 ≤ q) (hK1 : K (s.1 + 1) = 40) (h59 : qA k0 659 (20 + r) = nI c) (hns : qI k0 630 19 = nI ns) (hs12 : ns ≤ 12) (ht12 : nt ≤ 12) (hE : t_ok (fun i => qA k0 638 (12 + i)) nt) (hT : ∀ j, j < L → qA k0 681 j = -1 ∨ q_rg (qA k0 681 j) nt = true) (hJ : qI k0 630 75 = nI jn) (h16 : jn + 1 < 16) (J : p_J L d k0) (hd : d ≤ s.1) (hL : L ≤ 40) (fin : ∀ k1 k', p_y K P X U e k1 k' (y_nd K 26 (y_wy K (s.1 + 1, 0))) → p_fr k0 k1 → ((y_nd K 26 (y_wy K (s.1 + 1, 0))).2 = 0 → k1 = p_dE r c q (p_jo P U nt ns q jn L (s.1 + 1) (s.1 + 3) (s.1 + 5) k0) ∧ ∃ c', p_J L c' k1 ∧ c' ≤ (y_nd K 26 (y_wy K (s.1 + 1, 0))).1) → Q none k') : q_wp 5 273 262 [some (.ref 630), some (.int (nI (20 + r))), some (.int x2), some (.int (nI (s.1 + 1))), some (.int (nI q)), none, none] [] k Q := by
  have e12 := Y.e12
  have le0 := Y.le
  have le0 : s.1 + 2 ≤ e := le0
  have ew : y_nd K 40 (s.1 + 1, 0) = (s.1 + 2, 0) := by
    unfold y_nd y_ps
    rw [y_is_c.mpr ⟨rfl, hK1⟩, if_pos rfl, if_pos rfl, if_neg (show ¬ 1200 ≤ s.1 + 1 by omega)]
  rw [← ew] at Y
  refine b273_262 (s253 (c := 32) Y (by decide) rfl) (by decide) ?_
  intro k Y
  have hx := Y.t0
  refine b273_268 (Y.sh.ok rfl) (s253 (c := 40) Y (by decide) rfl) (by decide) ?_
  generalize qI k 630 11 = x5 at hx ⊢
  intro k Y
  refine b273_279 (s253 (c := 39) Y (by decide) rfl) (by decide) ?_
  intro k Y
  have hx6 := Y.t0
  refine b273_285 (Y.sh.ok rfl) (s253 (c := 40) Y (by decide) rfl) (by decide) ?_
  generalize qI k 630 11 = x6 at hx6 ⊢
  intro k Y
  have Y : p_y K P X U e k0 k (y_wy K (s.1 + 1, 0)) := Y
  refine b273_296 (Y.sh.ok rfl) (fun z => ?_) (fun z => b273_303 (fin k0 k ?_ p_fr.rf (fun h9 => ?_)))
  rotate_left 1
  · rw [y_nd_f (fun h9 => z (Y.z1.mpr h9))]
    exact Y
  · rw [y_nd_f (fun h9 => z (Y.z1.mpr h9))] at h9
    exact absurd (Y.z1.mpr h9) z
  have c0 := Y.z1.mp z
  obtain ⟨w1, w2, w3, w4, w5, p1, p2, p3, p4, p5⟩ := y_wy_0 rfl c0
  have x5e : x5 = nI (s.1 + 3) := (hx (by rw [p2])).trans (by rw [p2])
  have x6e : x6 = nI (s.1 + 5) := (hx6 (by rw [p4])).trans (by rw [p4])
  have le := Y.le
  rw [p5] at le
  have le : s.1 + 1 + 5 ≤ e := le
  subst x5e
  subst x6e
  rw [p5] at Y fin
  refine b273_304 (s275 (ns := ns) (nt := nt) (jn := jn) (L := L) (q := q) (i1 := s.1 + 1) (i2 := s.1 + 3) (i3 := s.1 + 5) Y rfl (by omega) hK1 (by omega) w3 (by omega) w5 J.2.2 hL hq hns hs12 ht12 hE hT hJ h16 rfl rfl rfl rfl) (by decide) ?_
  intro k Y
  have h59' : qA (p_jo P U nt ns q jn L (s.1 + 1) (s.1 + 3) (s.1 + 5) k0) 659 (20 + r) = nI c := (congrFun (p_jo_A (by decide)) _).trans h59
  refine b273_315 (s273_435 (c := c) Y hr hq h59' (fun k' Y' => fin _ k' Y' ((p_fr.rf.jo h160).dE h160) (fun h9 => ⟨rfl, d, J.jo.dE, ?_⟩)))
  have := (y_to.rf.nd (K := K) (k := 26) (s0 := (s.1 + 1 + 5, 0))).1
  have h10 : s.1 + 1 + 5 ≤ (y_nd K 26 (s.1 + 1 + 5, 0)).1 := this
  omega
theorem s273_set {Q : Option Value → q_Hp → Prop} {r c q L d : Nat} (Y : p_y K P X U e k0 k (s.1 + 2, 0)) (hr : r < 20) (hq : q < 320) (h160 : 160 ≤ q) (hK1 : K (s.1 + 1) = 40) (h59 : qA k0 659 (20 + r) = nI c) (J : p_J L d k0) (hd : d ≤ s.1) (hL : L ≤ 40) {x2 : Int32} (fin : ∀ k1 k', p_y K P X U e k1 k' (y_nd K 26 (y_E K (y_nd K 29 (y_nd K 41 (y_nd K 27 (s.1 + 2, 0)))))) → p_fr k0 k1 → ((y_nd K 26 (y_E K (y_nd K 29 (y_nd K 41 (y_nd K 27 (s.1 + 2, 0)))))).2 = 0 → k1 = p_dE r c q (p_se2 K P X U q L s k0) ∧ ∃ c', p_J L c' k1 ∧ c' ≤ (y_nd K 26 (y_E K (y_nd K 29 (y_nd K 41 (y_nd K 27 (s.1 + 2, 0)))))).1) → Q none k') : q_wp 5 273 318 [some (.ref 630), some (.int (nI (20 + r))), some (.int x2), some (.int (nI (s.1 + 1))), some (.int (nI q)), none, none] [] k Q := by
  have e12 := Y.e12
  have le0 := Y.le
  have le0 : s.1 + 2 ≤ e := le0
  have cq : (nI q : Int32).toNatClampNeg = q := nI_clamp (by omega)
  have iq : ∀ {k x}, q_Sh k → (decide (x ≤ 712) && (q_kd0 x).2 == 320) = true → q_in (nI q) (qK k x).2 := fun S h => S.inN (n := 320) h hq (by decide)
  refine b273_318 (s253 (c := 27) Y (by decide) rfl) (by decide) ?_
  intro k Y
  have hx := Y.t0
  refine b273_324 (Y.sh.ok rfl) (s253 (c := 41) Y (by decide) rfl) (by decide) ?_
  generalize qI k 630 11 = x5 at hx ⊢
  intro k Y
  refine b273_335 (Y.sh.ok rfl) (fun z => ?_) (fun z => b273_342 (fin k0 k ?_ p_fr.rf (fun h9 => ?_)))
  rotate_left 1
  · have zz : ¬ (y_nd K 41 (y_nd K 27 (s.1 + 2, 0))).2 = 0 := fun h9 => z (Y.z1.mpr h9)
    rw [(y_to.rf.nd.E.nd (s0 := y_nd K 41 (y_nd K 27 (s.1 + 2, 0)))).2.2 zz]
    exact Y
  · have zz : ¬ (y_nd K 41 (y_nd K 27 (s.1 + 2, 0))).2 = 0 := fun h9 => z (Y.z1.mpr h9)
    rw [(y_to.rf.nd.E.nd (s0 := y_nd K 41 (y_nd K 27 (s.1 + 2, 0)))).2.2 zz] at h9
    exact absurd h9 zz
  have c0 := Y.z1.mp z
  have a1 := y_nd_z c0
  obtain ⟨b1, p1⟩ := y_nd_p rfl a1
  obtain ⟨b2, p2⟩ := y_nd_p p1 c0
  have x5e : x5 = nI (s.1 + 3) := (hx a1).trans (by rw [p1])
  have le := Y.le
  rw [p2] at le
  have le : s.1 + 4 ≤ e := le
  subst x5e
  rw [p2] at Y fin
  obtain ⟨_, xv⟩ := (Y.tk (show s.1 + 3 ≤ e by omega)).2.2.2.2.1 b2
  have ev : ∀ {k k1 s'}, p_y K P X U e k1 k s' → qA k 635 ((nI (s.1 + 3) : Int32).toNatClampNeg) = nI (X (s.1 + 3)) := fun Y => by rw [nI_clamp (by omega)]; exact ((Y.tk (show s.1 + 3 ≤ e by omega)).2.2.2.2.1 b2).1
  refine b273_343 (s271 (L := L) (i := s.1 + 1) Y rfl (by omega) hK1 J.2.2 hL rfl) (by decide) ?_
  rintro z k2 ⟨rfl, Y⟩
  have jd : ∀ j, p_sd L (U (s.1 + 1)) k0 = some j → j < L := fun j h => (p_sd_lt h).1
  have g368 : ∀ k, p_y K P X U e (p_xw P X (s.1 + 3) (p_fw P (s.1 + 1) (p_sd L (U (s.1 + 1)) k0) k0)) k (s.1 + 4, 0) → q_wp 5 273 368 [some (.ref 630), some (.int (nI (20 + r))), some (.int x2), some (.int (nI (s.1 + 1))), some (.int (nI q)), some (.int (nI (s.1 + 3))), some (.int (q_on (p_sd L (U (s.1 + 1)) k0)))] [] k Q := by
    intro k Y
    refine b273_368 (s253 (c := 29) Y (by decide) rfl) (by decide) ?_
    intro k Y
    have tE : y_to (y_nd K 29 (s.1 + 4, 0)) (y_E K (y_nd K 29 (s.1 + 4, 0))) := y_to.rf.E
    have t29 : (y_nd K 29 (s.1 + 4, 0)).2 = 0 → y_nd K 29 (s.1 + 4, 0) = (s.1 + 5, 0) := fun h => (y_nd_p rfl h).2
    have Y4 := Y.sA (a := 660) (i := q) (v := 4) rfl
    have g415 : ∀ v, v = p_ta (p_sd L (U (s.1 + 1)) k0) k0 → q_wp 5 273 415 [some (.ref 630), some (.int (nI (20 + r))), some (.int x2), some (.int (nI (s.1 + 1))), some (.int (nI q)), some (.int (nI (s.1 + 3))), some (.int (q_on (p_sd L (U (s.1 + 1)) k0)))] [.int v, .int (nI q), .ref 661] (q_sA k 660 q 4) Q := by
      rintro v rfl
      have Y5 : p_y K P X U e (p_se1 P X U q L s k0) (q_sA (q_sA (q_sA k 660 q 4) 661 q (p_ta (p_sd L (U (s.1 + 1)) k0) k0)) 662 q (nI (X (s.1 + 3)))) (y_nd K 29 (s.1 + 4, 0)) := (Y4.sA rfl).sA rfl
      have I5 : ∀ {j}, ¬ j = 15 ∧ ¬ j = 16 → qI (p_se1 P X U q L s k0) 630 j = qI k0 630 j := fun h => (p_xw_I h).trans (p_fw_I h)
      have sp := s280 (L := L) (c := d) (set := true) Y5 (fun _ => (I5 (by decide)).trans J.1) (fun _ => (I5 (by decide)).trans J.2.1) (fun _ => (I5 (by decide)).trans J.2.2) hL (fun h => by rw [t29 h]; show d ≤ s.1 + 5; omega)
      have e5 : qA (q_sA (q_sA k 660 q 4) 661 q (p_ta (p_sd L (U (s.1 + 1)) k0) k0)) 635 ((nI (s.1 + 3) : Int32).toNatClampNeg) = nI (X (s.1 + 3)) := ev ((Y4.sA (a := 661) (i := q) (v := p_ta (p_sd L (U (s.1 + 1)) k0) k0) rfl))
      refine b273_415 (v0 := 662) (v1 := 635) (Y.sh.ok rfl) (iq Y.sh rfl) (Y.sh.ok rfl) (Y.sh.ref rfl) (Y.sh.ref rfl) (Y.sh.ok rfl) (Y.sh.inN (n := 1203) rfl (by omega) (by decide)) (Y.sh.ok rfl) (iq Y.sh rfl) (m := 4) (by rw [cq, e5]; exact sp) (by decide) ?_
      rintro k ⟨k1, Y, F, h1⟩
      have F0 : p_fr k0 (p_se1 P X U q L s k0) := p_fr.rf.se1 h160
      have h59' : qA k1 659 (20 + r) = qA k1 659 (20 + r) := rfl
      have A5 : qA (p_se1 P X U q L s k0) 659 (20 + r) = nI c := by
        unfold p_se1
        rw [qA_sAn (by decide), qA_sAn (by decide), qA_sAn (by decide), p_xw_A, p_fw_A]
        exact h59
      by_cases hz : (y_E K (y_nd K 29 (s.1 + 4, 0))).2 = 0
      · obtain ⟨e1, c', G, hc'⟩ := h1 hz
        have e2 : k1 = p_se2 K P X U q L s k0 := by
          rw [e1, t29 (tE.2.1 hz)]
          rfl
        have h59k : qA k1 659 (20 + r) = nI c := by
          rw [e1, p_ex_A (by decide)]
          exact A5
        refine s273_435 (c := c) Y hr hq h59k (fun k' Y' => fin _ k' Y' ((F0.trans F).dE h160) (fun h9 => ⟨by rw [e2], c', G.j.dE, ?_⟩))
        exact Nat.le_trans hc' (y_to.rf.nd (K := K) (k := 26) (s0 := y_E K (y_nd K 29 (s.1 + 4, 0)))).1
      · have e22 : qI k 630 22 = qI k1 630 22 := Y.I rfl
        refine b273_435 (v0 := 665) (v1 := 659) (Y.sh.ok rfl) (Y.sh.ref rfl) (Y.sh.ok rfl) (iq Y.sh rfl) (Y.sh.ref rfl) (Y.sh.ok rfl) (Y.sh.inN (n := 40) rfl (by omega) (by decide)) (m := 2) (P := fun k' => p_y K P X U e (q_sA (q_sA k1 665 q (qI k1 630 22)) 659 (20 + r) (qA k1 659 (20 + r) + 1)) k' (y_nd K 26 (y_E K (y_nd K 29 (s.1 + 4, 0))))) ?_ (by decide) (fun k' Y' => b273_461 (fin _ k' Y' (((F0.trans F).sA rfl h160).sA rfl (Nat.le_add_right 20 r)) (fun h9 => absurd (y_nd_z h9) hz)))
        rw [cq, nI_clamp (show 20 + r < 2 ^ 31 by omega), e22, qA_sAn (by decide), Y.A (by decide)]
        exact s253 (c := 26) ((Y.sA rfl).sA rfl) (by decide) rfl
    have qn := q_on_none (o := p_sd L (U (s.1 + 1)) k0) (n := 40) (fun j h => by have := jd j h; omega) (by decide)
    refine b273_374 (v0 := 660) (v1 := 661) (Y.sh.ok rfl) (Y.sh.ref rfl) (Y.sh.ok rfl) (iq Y.sh rfl) (Y.sh.ref rfl) (fun c2 => ?_) (fun c2 => ?_)
    · rw [cq]
      cases hg : p_sd L (U (s.1 + 1)) k0 with
      | none => exact absurd (qn.mpr hg) c2
      | some j =>
        have hj := jd j hg
        rw [hg] at g415
        have ej : (q_on (some j) : Int32).toNatClampNeg = j := nI_clamp (n := j) (by omega)
        have i4 : ∀ {a}, (decide (a ≤ 712) && (q_kd0 a).2 == 40) = true → q_in (q_on (some j)) (qK (q_sA k 660 q 4) a).2 := fun h => Y4.sh.inN (n := 40) (j := j) h (by omega) (by decide)
        refine b273_398 (v0 := 679) (v1 := 680) (Y4.sh.ok rfl) (Y4.sh.ref rfl) (Y4.sh.ok rfl) (i4 rfl) (Y4.sh.ref rfl) (Y4.sh.ok rfl) (i4 rfl) s272 (by decide) ?_
        rintro z h2 ⟨e0, rfl⟩
        subst h2
        refine g415 _ ?_
        rw [ej, Y4.A (by decide), Y4.A (by decide), qA_sAn (by decide), qA_sAn (by decide), p_xw_A, p_fw_A]
        rfl
    · rw [cq]
      refine b273_394 (g415 _ ?_)
      rw [qn.mp c2]
      rfl
  refine b273_348 (v0 := 635) (Y.sh.ok rfl) (Y.sh.ref rfl) (Y.sh.ok rfl) (Y.sh.inN (n := 1203) rfl (by omega) (by decide)) (fun c2 => g368 _ ?_) (fun c2 => b273_361 (s251 (n := 5) Y (show s.1 + 3 ≤ e by omega) rfl rfl rfl) (by decide) (fun k Y => g368 _ ?_))
  · rw [ev Y] at c2
    unfold p_xw
    rw [if_pos ((nI_leI (b := 1) xv (by decide)).mp c2)]
    exact Y
  · rw [ev ‹_›] at c2
    unfold p_xw
    rw [if_neg (fun h9 => c2 ((nI_leI (b := 1) xv (by decide)).mpr h9))]
    exact Y
end PD
