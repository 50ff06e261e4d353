/-! THE PARSE OF THE REFERENCE: links of a rule -/
/-- a link's ends and sort are looked up -/
def p_l1 (P : Nat → Nat) (U : Nat → Int64) (L q ra : Nat) (a : Nat) (k : q_Hp) : q_Hp := q_sA (p_fw P a (p_el k L (U a)) k) ra q (p_eo k (p_el k L (U a)))
def p_l2 (P : Nat → Nat) (U : Nat → Int64) (ns q ra : Nat) (a : Nat) (k : q_Hp) : q_Hp := q_sA (p_fw P a (p_fi (qL k 675) ns (U a)) k) ra q (q_on (p_fi (qL k 675) ns (U a)))
def p_l3 (P : Nat → Nat) (U : Nat → Int64) (ns L q rs rf rt : Nat) (s : y_S) (k : q_Hp) : q_Hp := p_l1 P U L q rt (s.1 + 7) (p_l2 P U ns q rs (s.1 + 5) (p_l1 P U L q rf (s.1 + 3) k))
def p_li (P : Nat → Nat) (U : Nat → Int64) (ns r l L : Nat) (s : y_S) (k : q_Hp) : q_Hp := q_sA (p_tl P U (s.1 + 1) L 1 (nI l) (-1) (p_l3 P U ns L (6 * (20 + r) + l) 645 646 647 s k)) 642 (20 + r) (nI (l + 1))
theorem y_wy_0 {K : Nat → Nat} {a : Nat} {s : y_S} (hs : s = (a, 0)) (h : (y_wy K s).2 = 0) : K a = 40 ∧ K (a + 1) = 32 ∧ K (a + 2) = 40 ∧ K (a + 3) = 39 ∧ K (a + 4) = 40 ∧ y_nd K 40 s = (a + 1, 0) ∧ y_nd K 32 (y_nd K 40 s) = (a + 2, 0) ∧ y_nd K 40 (y_nd K 32 (y_nd K 40 s)) = (a + 3, 0) ∧ y_nd K 39 (y_nd K 40 (y_nd K 32 (y_nd K 40 s))) = (a + 4, 0) ∧ y_wy K s = (a + 5, 0) := by
  have a5 := y_nd_z h
  have a4 := y_nd_z a5
  have a3 := y_nd_z a4
  have a2 := y_nd_z a3
  obtain ⟨b1, p1⟩ := y_nd_p hs a2
  obtain ⟨b2, p2⟩ := y_nd_p p1 a3
  obtain ⟨b3, p3⟩ := y_nd_p p2 a4
  obtain ⟨b4, p4⟩ := y_nd_p p3 a5
  obtain ⟨b5, p5⟩ := y_nd_p p4 h
  exact ⟨b1, b2, b3, b4, b5, p1, p2, p3, p4, p5⟩
section PL
variable {K P X : Nat → Nat} {U : Nat → Int64} {e : Nat} {k0 k : q_Hp} {s : y_S}
theorem p_l1_fr {k1 : q_Hp} {L q ra a : Nat} (F : p_fr k0 k1) (h : (decide (638 ≤ ra) && decide (ra ≤ 690)) = true) (h2 : p_hf ra ≤ q) : p_fr k0 (p_l1 P U L q ra a k1) := F.fw.sA h h2
theorem p_l2_fr {k1 : q_Hp} {ns q ra a : Nat} (F : p_fr k0 k1) (h : (decide (638 ≤ ra) && decide (ra ≤ 690)) = true) (h2 : p_hf ra ≤ q) : p_fr k0 (p_l2 P U ns q ra a k1) := F.fw.sA h h2
theorem p_l1_I {L q ra a j : Nat} (h : ¬ j = 15 ∧ ¬ j = 16) : qI (p_l1 P U L q ra a k0) 630 j = qI k0 630 j := p_fw_I h
theorem p_l2_I {ns q ra a j : Nat} (h : ¬ j = 15 ∧ ¬ j = 16) : qI (p_l2 P U ns q ra a k0) 630 j = qI k0 630 j := p_fw_I h
theorem p_l1_A {L q ra a x : Nat} (h : ¬ x = ra) : qA (p_l1 P U L q ra a k0) x = qA k0 x := (qA_sAn h).trans (congrFun p_fw_A x)
theorem p_l2_A {ns q ra a x : Nat} (h : ¬ x = ra) : qA (p_l2 P U ns q ra a k0) x = qA k0 x := (qA_sAn h).trans (congrFun p_fw_A x)
theorem p_l1_L {L q ra a x : Nat} : qL (p_l1 P U L q ra a k0) x = qL k0 x := congrFun p_fw_L x
theorem p_l2_L {ns q ra a x : Nat} : qL (p_l2 P U ns q ra a k0) x = qL k0 x := congrFun p_fw_L x
theorem p_l3_I {ns L q rs rf rt j : Nat} (h : ¬ j = 15 ∧ ¬ j = 16) : qI (p_l3 P U ns L q rs rf rt s k0) 630 j = qI k0 630 j := (p_l1_I h).trans ((p_l2_I h).trans (p_l1_I h))
theorem p_l3_A {ns L q rs rf rt x : Nat} (h : ¬ x = rs ∧ ¬ x = rf ∧ ¬ x = rt) : qA (p_l3 P U ns L q rs rf rt s k0) x = qA k0 x := (p_l1_A h.2.2).trans ((p_l2_A h.1).trans (p_l1_A h.2.1))
theorem p_l3_L {ns L q rs rf rt x : Nat} : qL (p_l3 P U ns L q rs rf rt s k0) x = qL k0 x := p_l1_L.trans (p_l2_L.trans p_l1_L)
theorem p_li_fr {ns r l L : Nat} : p_fr k0 (p_li P U ns r l L s k0) := (p_l1_fr (p_l2_fr (p_l1_fr p_fr.rf rfl (show 120 ≤ 6 * (20 + r) + l by omega)) rfl (show 120 ≤ 6 * (20 + r) + l by omega)) rfl (show 120 ≤ 6 * (20 + r) + l by omega)).tl.sA rfl (Nat.le_add_right 20 r)
theorem s268 {ns r l L : Nat} {v : Int32} (Y : p_y K P X U e k0 k s) (hk : s.2 = 0 → K s.1 < 42) (hr : r < 20) (hn : qA k0 642 (20 + r) = nI l) (h6 : l ≤ 6) (ht : qI k0 630 19 = nI ns) (ht12 : ns ≤ 12) (hL : qI k0 630 68 = nI L) (h40 : L < 40) (hv : v = nI (20 + r)) : q_mV 3 268 [.ref 630, .int v] k (fun k' => p_out K P X U e k0 k' (y_li K (decide (l < 6)) s) (p_li P U ns r l L s k0)) := by
  subst hv
  have hr2 : nI (20 + r) = nI (20 + r) := rfl
  refine q_mV.of (q_recV rfl (Y.sh.ok rfl)) (fun Q fin => ?_)
  refine b268_0 (s252 Y hk) (by decide) ?_
  intro k Y
  have hx := Y.t0
  refine b268_4 (Y.sh.ok rfl) (s249 (c := 40) Y (by decide) rfl) (by decide) ?_
  rintro z h2 ⟨e0, rfl⟩
  subst h2
  generalize qI k 630 11 = x2 at hx ⊢
  have e18 : qA k 642 ((nI (20 + r) : Int32).toNatClampNeg) = nI l := by rw [nI_clamp (by omega), Y.A (by decide)]; exact hn
  have g36 : ∀ k, p_y K P X U e k0 k (y_nn K (decide (l < 6)) (y_ps s)) → q_wp 3 268 38 [some (.ref 630), some (.int (nI (20 + r))), some (.int x2), none, none, none, none] [] k Q := by
    intro k Y
    refine b268_38 (s253 (c := 25) Y (by decide) rfl) (by decide) ?_
    intro k Y
    have hx3 := Y.t0
    refine b268_43 (Y.sh.ok rfl) (s253 (c := 40) Y (by decide) rfl) (by decide) ?_
    generalize qI k 630 11 = x3 at hx3 ⊢
    intro k Y
    refine b268_53 (s253 (c := 32) Y (by decide) rfl) (by decide) ?_
    intro k Y
    have hx4 := Y.t0
    refine b268_59 (Y.sh.ok rfl) (s253 (c := 40) Y (by decide) rfl) (by decide) ?_
    generalize qI k 630 11 = x4 at hx4 ⊢
    intro k Y
    refine b268_70 (s253 (c := 39) Y (by decide) rfl) (by decide) ?_
    intro k Y
    have hx5 := Y.t0
    refine b268_76 (Y.sh.ok rfl) (s253 (c := 40) Y (by decide) rfl) (by decide) ?_
    generalize qI k 630 11 = x5 at hx5 ⊢
    intro k Y
    refine b268_87 (s253 (c := 26) Y (by decide) rfl) (by decide) ?_
    intro k Y
    
    refine b268_92 (Y.sh.ok rfl) (fun c => ?_) (fun c => b268_99 (fin _ ⟨k0, Y, p_fr.rf, fun h9 => absurd (Y.z1.mpr h9) c⟩))
    have c0 := Y.z1.mp c
    have aw : (y_wy K (y_nd K 25 (y_nn K (decide (l < 6)) (y_ps s)))).2 = 0 := y_nd_z c0
    have a2 : (y_nd K 25 (y_nn K (decide (l < 6)) (y_ps s))).2 = 0 := (y_to.wy (K := K) (y_to.rf (s := y_nd K 25 (y_nn K (decide (l < 6)) (y_ps s))))).2.1 aw
    have a1 := y_nd_z a2
    obtain ⟨h1, h2, h3, g4, h5⟩ := y_hd a1
    obtain ⟨b2, p2⟩ := y_nd_p g4 a2
    obtain ⟨b3, b4, b5, b6, b7, p3, p4, p5, p6, p7⟩ := y_wy_0 p2 aw
    obtain ⟨b8, p8⟩ := y_nd_p p7 c0
    have x2e : x2 = nI (s.1 + 1) := (hx (by rw [h1])).trans (by rw [h1])
    have x3e : x3 = nI (s.1 + 3) := (hx3 a2).trans (by rw [p2])
    have x4e : x4 = nI (s.1 + 5) := (hx4 (by rw [p4])).trans (by rw [p4])
    have x5e : x5 = nI (s.1 + 7) := (hx5 (by rw [p6])).trans (by rw [p6])
    have le : (y_nd K 26 (y_wy K (y_nd K 25 (y_nn K (decide (l < 6)) (y_ps s))))).1 ≤ e := Y.le
    rw [p8] at le
    have le : s.1 + 9 ≤ e := le
    have e12 := Y.e12
    have lt := of_decide_eq_true h3
    subst x2e
    subst x3e
    subst x4e
    subst x5e
    have Y : p_y K P X U e k0 k (y_li K (decide (l < 6)) s) := Y
    have c0 : (y_li K (decide (l < 6)) s).2 = 0 := c0
    have e42 : qA k 642 ((nI (20 + r) : Int32).toNatClampNeg) = nI l := by rw [nI_clamp (by omega), Y.A (by decide)]; exact hn
    have i1 : (6 : Int32) * nI (20 + r) + nI l = nI (6 * (20 + r) + l) := p_ix4 (m := 6)
    have i6 : ∀ {k : q_Hp} {a : Nat}, q_Sh k → (decide (a ≤ 712) && (q_kd0 a).2 == 240) = true → q_in (nI (6 * (20 + r) + l)) (qK k a).2 := fun S h => S.inN (n := 240) h (by omega) (by decide)
    have cl : (nI (6 * (20 + r) + l) : Int32).toNatClampNeg = 6 * (20 + r) + l := nI_clamp (by omega)
    refine b268_100 (v0 := 642) (v1 := 646) (Y.sh.ok rfl) (Y.sh.ref rfl) (Y.sh.ok rfl) (Y.sh.inN (n := 40) rfl (by omega) (by decide)) (Y.sh.ref rfl) (s267 (L := L) (i := s.1 + 3) Y c0 (by omega) b3 hL (by omega) rfl) (by decide) ?_
    rintro z k2 ⟨rfl, Y⟩
    rw [e42, i1]
    have Y := Y.sA (a := 646) (i := 6 * (20 + r) + l) (v := p_eo k0 (p_el k0 L (U (s.1 + 3)))) rfl
    have Y : p_y K P X U e (p_l1 P U L (6 * (20 + r) + l) 646 (s.1 + 3) k0) _ _ := Y
    refine b268_124 (v0 := 645) (Y.sh.ok rfl) (i6 Y.sh rfl) (Y.sh.ok rfl) (Y.sh.ref rfl) ?_ (m := 1) (by decide) ?_ (P := fun z k' => z = q_on (p_fi (qL (p_l1 P U L (6 * (20 + r) + l) 646 (s.1 + 3) k0) 675) ns (U (s.1 + 5))) ∧ p_y K P X U e (p_fw P (s.1 + 5) (p_fi (qL (p_l1 P U L (6 * (20 + r) + l) 646 (s.1 + 3) k0) 675) ns (U (s.1 + 5))) (p_l1 P U L (6 * (20 + r) + l) 646 (s.1 + 3) k0)) k' (y_li K (decide (l < 6)) s))
    · rw [cl]
      exact s256 (n := ns) (i := s.1 + 5) Y c0 (by omega) b5 ((p_l1_I (by decide)).trans ht) ht12 rfl
    rintro z k3 ⟨rfl, Y⟩
    have Y := Y.sA (a := 645) (i := 6 * (20 + r) + l) (v := q_on (p_fi (qL (p_l1 P U L (6 * (20 + r) + l) 646 (s.1 + 3) k0) 675) ns (U (s.1 + 5)))) rfl
    have Y : p_y K P X U e (p_l2 P U ns (6 * (20 + r) + l) 645 (s.1 + 5) (p_l1 P U L (6 * (20 + r) + l) 646 (s.1 + 3) k0)) _ _ := Y
    generalize q_on (p_fi (qL (p_l1 P U L (6 * (20 + r) + l) 646 (s.1 + 3) k0) 675) ns (U (s.1 + 5))) = z5 at Y ⊢
    have I2 : ∀ {j}, ¬ j = 15 ∧ ¬ j = 16 → qI (p_l2 P U ns (6 * (20 + r) + l) 645 (s.1 + 5) (p_l1 P U L (6 * (20 + r) + l) 646 (s.1 + 3) k0)) 630 j = qI k0 630 j := fun h => (p_l2_I h).trans (p_l1_I h)
    refine b268_137 (v0 := 647) (Y.sh.ok rfl) (i6 Y.sh rfl) (Y.sh.ok rfl) (Y.sh.ref rfl) ?_ (m := 2) (by decide) ?_ (P := fun z k' => z = p_eo (p_l2 P U ns (6 * (20 + r) + l) 645 (s.1 + 5) (p_l1 P U L (6 * (20 + r) + l) 646 (s.1 + 3) k0)) (p_el (p_l2 P U ns (6 * (20 + r) + l) 645 (s.1 + 5) (p_l1 P U L (6 * (20 + r) + l) 646 (s.1 + 3) k0)) L (U (s.1 + 7))) ∧ p_y K P X U e (p_fw P (s.1 + 7) (p_el (p_l2 P U ns (6 * (20 + r) + l) 645 (s.1 + 5) (p_l1 P U L (6 * (20 + r) + l) 646 (s.1 + 3) k0)) L (U (s.1 + 7))) (p_l2 P U ns (6 * (20 + r) + l) 645 (s.1 + 5) (p_l1 P U L (6 * (20 + r) + l) 646 (s.1 + 3) k0))) k' (y_li K (decide (l < 6)) s))
    · rw [cl]
      exact s267 (L := L) (i := s.1 + 7) Y c0 (by omega) b7 ((I2 (by decide)).trans hL) (by omega) rfl
    rintro z k4 ⟨rfl, Y⟩
    have Y := Y.sA (a := 647) (i := 6 * (20 + r) + l) (v := p_eo (p_l2 P U ns (6 * (20 + r) + l) 645 (s.1 + 5) (p_l1 P U L (6 * (20 + r) + l) 646 (s.1 + 3) k0)) (p_el (p_l2 P U ns (6 * (20 + r) + l) 645 (s.1 + 5) (p_l1 P U L (6 * (20 + r) + l) 646 (s.1 + 3) k0)) L (U (s.1 + 7)))) rfl
    have Y : p_y K P X U e (p_l3 P U ns L (6 * (20 + r) + l) 645 646 647 s k0) _ _ := Y
    generalize p_eo (p_l2 P U ns (6 * (20 + r) + l) 645 (s.1 + 5) (p_l1 P U L (6 * (20 + r) + l) 646 (s.1 + 3) k0)) (p_el (p_l2 P U ns (6 * (20 + r) + l) 645 (s.1 + 5) (p_l1 P U L (6 * (20 + r) + l) 646 (s.1 + 3) k0)) L (U (s.1 + 7))) = z7 at Y ⊢
    have a42 : ∀ {k x s'}, p_y K P X U e (p_l3 P U ns L (6 * (20 + r) + l) 645 646 647 s k0) k s' → x = 642 → qA k x (20 + r) = nI l := by
      rintro k x s' Y rfl
      rw [Y.A (by decide), p_l3_A (by decide)]
      exact hn
    refine b268_150 (v0 := 642) (Y.sh.ok rfl) (i6 Y.sh rfl) (Y.sh.ok rfl) (Y.sh.ref rfl) (Y.sh.ok rfl) (Y.sh.inN (n := 40) rfl (by omega) (by decide)) ?_ (m := 2) (by decide) ?_ (P := fun k' => p_y K P X U e (p_tl P U (s.1 + 1) L 1 (nI l) (-1) (p_l3 P U ns L (6 * (20 + r) + l) 645 646 647 s k0)) k' (y_li K (decide (l < 6)) s))
    · rw [cl, nI_clamp (show 20 + r < 2 ^ 31 by omega), a42 Y rfl]
      exact s258 (n := L) (i := s.1 + 1) Y c0 (by omega) h2 ((p_l3_I (by decide)).trans hL) h40 rfl
    intro k5 Y
    have e42 : qA k5 642 ((nI (20 + r) : Int32).toNatClampNeg) = nI l := by rw [nI_clamp (by omega), Y.A (by decide), p_tl_A (by decide), p_l3_A (by decide)]; exact hn
    refine b268_164 (v0 := 642) (Y.sh.ok rfl) (Y.sh.ref rfl) (Y.sh.ok rfl) (Y.sh.inN (n := 40) rfl (by omega) (by decide)) (fin _ ⟨p_li P U ns r l L s k0, ?_, p_li_fr, fun _ => rfl⟩)
    rw [e42, nI_clamp (show 20 + r < 2 ^ 31 by omega), nI_1]
    exact Y.sA rfl
  have g31 : ∀ k, p_y K P X U e k0 k (if y_is K 40 (y_ps s) = true then y_rm (decide (l < 6)) (y_ps s) else y_ps s) → q_wp 3 268 33 [some (.ref 630), some (.int (nI (20 + r))), some (.int x2), none, none, none, none] [] k Q := by
    intro k Y
    exact b268_33 (s253 (c := 40) Y (by decide) rfl) (by decide) (fun k Y => g36 k Y)
  refine b268_14 (fun c => g31 _ ?_) (fun c => b268_17 (v0 := 642) (Y.sh.ok rfl) (Y.sh.ref rfl) (Y.sh.ok rfl) (by rw [hr2]; exact Y.sh.inN (n := 40) rfl (by omega) (by decide)) (fun c1 => g31 _ ?_) (fun c1 => b268_28 (s250 (f := 2) Y (by decide) (by decide) rfl) (by decide) (fun k Y => g31 _ ?_)))
  · rw [b2i_eq.mp c, if_neg (by decide)]
    exact Y
  · rw [e18] at c1
    rw [if_pos (b2i_ne.mp c), decide_eq_true (show l < 6 by have : ¬ l = 6 := fun h9 => c1 (by rw [h9]; rfl); omega)]
    exact Y
  · rw [e18] at c1
    rw [if_pos (b2i_ne.mp c), decide_eq_false (show ¬ l < 6 by have := (nI_eq (b := 6) (by omega) (by decide)).mp c1; omega)]
    exact Y
end PL
