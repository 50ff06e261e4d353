/-! THE PARSE OF THE REFERENCE: one of what a rule does, from its first word to its last -/
section PD
variable {K P X : Nat → Nat} {U : Nat → Int64} {e : Nat} {k0 k : q_Hp} {s : y_S}
theorem s273_42 {Q : Option Value → q_Hp → Prop} {x1 x2 : Int32} (fin : ∀ k', p_y K P X U e (p_z6 6 k0) k' s → ∀ x, q_wp 5 273 61 [some (.ref 630), some (.int x1), some (.int x2), some (.int x), none, none, none] [] k' Q) : ∀ m i k, i + m = 6 → p_y K P X U e (p_z6 i k0) k s → q_wp 5 273 42 [some (.ref 630), some (.int x1), some (.int x2), some (.int (nI i)), none, none, none] [] k Q := by
  intro m
  induction m with
  | zero =>
    intro i k hi Y
    obtain rfl : i = 6 := by omega
    exact b273_42 (fun _ => fin k Y _) (fun c => absurd (show (6 : Int32) ≤ nI 6 by decide) c)
  | succ m ih =>
    intro i k hi Y
    refine b273_42 (fun c => ?_) (fun _ => ?_)
    · have := (nI_leI (a := 6) (by decide) (by omega)).mp c
      omega
    refine b273_48 (v0 := 683) (Y.sh.ok rfl) (Y.sh.ref rfl) (Y.sh.ok rfl) (Y.sh.inN (n := 6) rfl (by omega) (by decide)) ?_
    rw [nI_clamp (by omega), nI_1, show vp_nar .boolean (0 : Int32) = 0 by decide]
    exact ih (i + 1) _ (by omega) (Y.sA rfl)
theorem y_dw_c {K : Nat → Nat} {s : y_S} (h : y_dw K s = true) : s.2 = 0 ∧ (K s.1 = 11 ∨ K s.1 = 12 ∨ K s.1 = 13 ∨ K s.1 = 14) := by
  unfold y_dw at h
  simp only [Bool.or_eq_true, y_is_c] at h
  rcases h with h | h | h | h
  · exact ⟨h.1, Or.inl h.2⟩
  · exact ⟨h.1, Or.inr (Or.inl h.2)⟩
  · exact ⟨h.1, Or.inr (Or.inr (Or.inl h.2))⟩
  · exact ⟨h.1, Or.inr (Or.inr (Or.inr h.2))⟩
/-- what the names of a rule tell: types, and links' numbers -/
def p_V (nt L : Nat) (k : q_Hp) : Prop := (∀ j, j < L → qA k 681 j = -1 ∨ q_rg (qA k 681 j) nt = true) ∧ ∀ j, j < L → qA k 679 j = 1 → ∃ a, a < 6 ∧ qA k 680 j = nI a
theorem p_V.c {nt L : Nat} {k k' : q_Hp} (V : p_V nt L k) (h1 : qA k' 679 = qA k 679) (h2 : qA k' 680 = qA k 680) (h3 : qA k' 681 = qA k 681) : p_V nt L k' := by
  unfold p_V
  rw [h1, h2, h3]
  exact V
theorem s273 {nt ns r c l nw jn L d : Nat} {v : Int32} (Y : p_y K P X U e k0 k s) (hd : y_dw K s = true) (hr : r < 20) (h59 : qA k0 659 (20 + r) = nI c) (h8 : c ≤ 8) (hl : qA k0 642 (20 + r) = nI l) (h6 : l ≤ 6) (ht : qI k0 630 18 = nI nt) (ht12 : nt ≤ 12) (hns : qI k0 630 19 = nI ns) (hs12 : ns ≤ 12) (hE : t_ok (fun i => qA k0 638 (12 + i)) nt) (V : p_V nt L k0) (hN : ¬ c = 0 → qI k0 630 77 = nI nw) (hN0 : c = 0 → nw = 0) (hnw : nw ≤ c) (hJ : ¬ c = 0 → qI k0 630 75 = nI jn) (hJ0 : c = 0 → jn = 0) (hjn : jn ≤ 2 * c) (J : p_J L d k0) (hds : d ≤ s.1) (hL : L < 40) (hv : v = nI (20 + r)) : q_mV 5 273 [.ref 630, .int v] k (fun k' => ∃ k1, p_y K P X U e k1 k' (y_d1 K (y_rm (decide (c < 8)) s)) ∧ p_fr k0 k1 ∧ ((y_d1 K (y_rm (decide (c < 8)) s)).2 = 0 → k1 = p_ds K P X U nt ns r c l nw jn L s k0 ∧ ∃ L' c', p_J L' c' k1 ∧ L' ≤ L + 1 ∧ c' ≤ (y_d1 K (y_rm (decide (c < 8)) s)).1)) := by
  subst hv
  refine q_mV.of (q_recV rfl (Y.sh.ok rfl)) (fun Q fin => ?_)
  have cl : (nI (20 + r) : Int32).toNatClampNeg = 20 + r := nI_clamp (by omega)
  have hk : s.2 = 0 → K s.1 < 42 := y_dw_lt hd
  obtain ⟨hs0, hK⟩ := y_dw_c hd
  have e59 : qA k 659 ((nI (20 + r) : Int32).toNatClampNeg) = nI c := by rw [cl, Y.A (by decide)]; exact h59
  have g16 : ∀ k, p_y K P X U e k0 k (y_rm (decide (c < 8)) s) → q_wp 5 273 16 [some (.ref 630), some (.int (nI (20 + r))), none, none, none, none, none] [] k Q := by
    intro k Y
    have e59 : qA k 659 ((nI (20 + r) : Int32).toNatClampNeg) = nI c := by rw [cl, Y.A (by decide)]; exact h59
    have hx := Y.t0
    generalize ex2 : qI k 630 11 = x2 at hx
    have g61 : ∀ k l3, p_y K P X U e (p_d0 c k0) k (y_rm (decide (c < 8)) s) → q_wp 5 273 61 [some (.ref 630), some (.int (nI (20 + r))), some (.int x2), l3, none, none, none] [] k Q := by
      intro k l3 Y
      refine b273_61 (s252 Y (y_rm_lt hk)) (by decide) ?_
      intro k Y
      have hx3 := Y.t0
      refine b273_65 (Y.sh.ok rfl) (s253 (c := 40) Y (by decide) rfl) (by decide) ?_
      generalize qI k 630 11 = x3 at hx3 ⊢
      intro k Y
      refine b273_75 (Y.sh.ok rfl) (fun z => ?_) (fun z => b273_82 (fin _ ⟨p_d0 c k0, ?_, p_fr.rf.d0, fun h9 => ?_⟩))
      rotate_left 1
      · rw [(y_d1_2 (K := K)).2.2 (fun h9 => z (Y.z1.mpr h9))]
        exact Y
      · rw [(y_d1_2 (K := K)).2.2 (fun h9 => z (Y.z1.mpr h9))] at h9
        exact absurd (Y.z1.mpr h9) z
      have c0 := Y.z1.mp z
      have a1 := y_nd_z c0
      obtain ⟨r0, r1⟩ := y_ps_0 a1
      obtain ⟨r2, r3⟩ := y_rm_0 r0
      have c8 := of_decide_eq_true r3
      rw [r2] at r1
      rw [r2, r1] at Y c0
      obtain ⟨b1, p1⟩ := y_nd_p rfl c0
      have x2e : x2 = nI s.1 := (hx r0).trans (by rw [r2])
      have x3e : x3 = nI (s.1 + 1) := (hx3 a1).trans (by rw [r2, r1])
      rw [r2] at fin
      rw [p1] at Y
      have le := Y.le
      have le : s.1 + 1 + 1 ≤ e := le
      have e12 := Y.e12
      subst x2e
      subst x3e
      have i1 : (8 : Int32) * nI (20 + r) + nI c = nI (8 * (20 + r) + c) := p_ix4 (m := 8)
      have e59 : qA k 659 ((nI (20 + r) : Int32).toNatClampNeg) = nI c := by rw [cl, Y.A (by decide), p_d0_A (by decide)]; exact h59
      have hq : 8 * (20 + r) + c < 320 := by omega
      have h160 : 160 ≤ 8 * (20 + r) + c := by omega
      generalize hqe : 8 * (20 + r) + c = q at *
      have cq : (nI q : Int32).toNatClampNeg = q := nI_clamp (by omega)
      have iq : ∀ {x}, (decide (x ≤ 712) && (q_kd0 x).2 == 320) = true → q_in ((8 : Int32) * nI (20 + r) + qA k 659 ((nI (20 + r) : Int32).toNatClampNeg)) (qK k x).2 := fun h => by rw [e59, i1]; exact Y.sh.inN (n := 320) h hq (by decide)
      have Yd : p_y K P X U e (p_d1 q (p_d0 c k0)) (q_sA (q_sA (q_sA (q_sA k 661 q (-1)) 662 q (-1)) 663 q (-1)) 664 q (qI k 630 22)) (s.1 + 2, 0) := by
        rw [Y.I (j := 22) rfl]
        exact (((Y.sA rfl).sA rfl).sA rfl).sA rfl
      have Fd : p_fr k0 (p_d1 q (p_d0 c k0)) := p_fr.rf.d0.d1 h160
      have Ad : ∀ {x}, ¬ x = 683 → ¬ x = 661 ∧ ¬ x = 662 ∧ ¬ x = 663 ∧ ¬ x = 664 → qA (p_d1 q (p_d0 c k0)) x = qA k0 x := fun h h2 => (p_d1_A h2).trans (p_d0_A h)
      have Id : ∀ {j}, ¬ j = 75 ∧ ¬ j = 77 → qI (p_d1 q (p_d0 c k0)) 630 j = qI k0 630 j := fun h => p_d0_I h
      have Jd : p_J L d (p_d1 q (p_d0 c k0)) := ⟨(Id (by decide)).trans J.1, (Id (by decide)).trans J.2.1, (Id (by decide)).trans J.2.2⟩
      have d59 : qA (p_d1 q (p_d0 c k0)) 659 (20 + r) = nI c := (congrFun (Ad (by decide) (by decide)) _).trans h59
      have d42 : qA (p_d1 q (p_d0 c k0)) 642 (20 + r) = nI l := (congrFun (Ad (by decide) (by decide)) _).trans hl
      have d75 : qI (p_d1 q (p_d0 c k0)) 630 75 = nI jn := p_d0_75 hJ hJ0
      have d77 : qI (p_d1 q (p_d0 c k0)) 630 77 = nI nw := p_d0_77 hN hN0
      have Vd : p_V nt L (p_d1 q (p_d0 c k0)) := V.c (Ad (by decide) (by decide)) (Ad (by decide) (by decide)) (Ad (by decide) (by decide))
      have hEd : t_ok (fun i => qA (p_d1 q (p_d0 c k0)) 638 (12 + i)) nt := by rw [Ad (by decide) (by decide)]; exact hE
      have ek : qA (q_sA (q_sA (q_sA (q_sA k 661 q (-1)) 662 q (-1)) 663 q (-1)) 664 q (qI k 630 22)) 633 ((nI s.1 : Int32).toNatClampNeg) = nI (t_ph (K s.1)) := by rw [nI_clamp (by omega)]; exact (Yd.tk (show s.1 ≤ e by omega)).2.2.1
      have es : p_ds K P X U nt ns r c l nw jn L s k0 = p_dE r c q (p_dd1 K P X U nt ns r q l nw jn L s (p_d1 q (p_d0 c k0))) := by
        unfold p_ds
        rw [hqe]
      rw [es] at fin
      unfold p_dd1 at fin
      refine b273_83 (v0 := 659) (v1 := 661) (v2 := 662) (v3 := 663) (v4 := 664) (v5 := 633) (Y.sh.ok rfl) (Y.sh.ref rfl) (Y.sh.ok rfl) (Y.sh.inN (n := 40) rfl (by omega) (by decide)) (Y.sh.ref rfl) (Y.sh.ok rfl) (iq rfl) (Y.sh.ref rfl) (Y.sh.ok rfl) (iq rfl) (Y.sh.ref rfl) (Y.sh.ok rfl) (iq rfl) (Y.sh.ref rfl) (Y.sh.ok rfl) (iq rfl) (Y.sh.ref rfl) (Y.sh.ok rfl) (Y.sh.inN (n := 1203) rfl (by omega) (by decide)) (fun w => ?_) (fun w => ?_) (fun w => ?_) (fun w => ?_)
      · rw [e59, i1, cq] at w ⊢
        rw [ek] at w
        have hK1 : K s.1 = 11 := by
          rcases hK with h | h | h | h
          · exact h
          · rw [h] at w; exact absurd w (by decide)
          · rw [h] at w; exact absurd w (by decide)
          · rw [h] at w; exact absurd w (by decide)
        rw [if_pos hK1] at fin
        have ed : y_d1 K s = y_nd K 26 (s.1 + 2, 0) := by
          unfold y_d1
          rw [if_pos (y_is_c.mpr ⟨hs0, hK1⟩), r1, p1]
        rw [ed] at fin
        refine b273_164 (s274 (r := r) (q := q) (l := l) (jn := jn) (L := L) (i := s.1 + 1) Yd rfl (by omega) b1 Jd.2.2 (by omega) hr hq d42 h6 d75 (by omega) Vd.2 rfl rfl rfl) (by decide) ?_
        intro k Y
        refine b273_172 (s273_435 (c := c) Y hr hq ((congrFun (p_de_A (by decide)) _).trans d59) (fun k' Y' => fin _ ⟨_, Y', (Fd.de h160).dE h160, fun h9 => ⟨rfl, L, d, ?_, by omega, ?_⟩⟩))
        · exact p_J.dE ⟨(p_de_I (by decide)).trans Jd.1, (p_de_I (by decide)).trans Jd.2.1, (p_de_I (by decide)).trans Jd.2.2⟩
        · have := (y_to.rf.nd (K := K) (k := 26) (s0 := (s.1 + 2, 0))).1
          have h10 : s.1 + 2 ≤ (y_nd K 26 (s.1 + 2, 0)).1 := this
          omega
      · rw [e59, i1, cq] at w ⊢
        rw [ek] at w
        have hK1 : K s.1 = 12 := by
          rcases hK with h | h | h | h
          · rw [h] at w; exact absurd w (by decide)
          · exact h
          · rw [h] at w; exact absurd w (by decide)
          · rw [h] at w; exact absurd w (by decide)
        rw [if_neg (by omega), if_pos hK1] at fin
        have ed : y_d1 K s = y_nd K 26 (y_nd K 40 (y_nd K 25 (s.1 + 2, 0))) := by
          unfold y_d1
          rw [if_neg (fun h9 => by have := (y_is_c.mp h9).2; omega), if_pos (y_is_c.mpr ⟨hs0, hK1⟩), r1, p1]
        rw [ed] at fin
        exact s273_new (c := c) (nw := nw) (d := d) Yd hr hq h160 b1 d59 ((Id (by decide)).trans ht) ht12 d77 (by omega) Jd hds hL (fun k1 k' Y F h => fin _ ⟨k1, Y, Fd.trans F, fun h9 => ⟨(h h9).1, L + 1, (h h9).2.choose, (h h9).2.choose_spec.1, by omega, (h h9).2.choose_spec.2⟩⟩)
      · rw [e59, i1, cq] at w ⊢
        rw [ek] at w
        have hK1 : K s.1 = 13 := by
          rcases hK with h | h | h | h
          · rw [h] at w; exact absurd w (by decide)
          · rw [h] at w; exact absurd w (by decide)
          · exact h
          · rw [h] at w; exact absurd w (by decide)
        rw [if_neg (by omega), if_neg (by omega), if_pos hK1] at fin
        have ed : y_d1 K s = y_nd K 26 (y_wy K (s.1 + 1, 0)) := by
          unfold y_d1
          rw [if_neg (fun h9 => by have := (y_is_c.mp h9).2; omega), if_neg (fun h9 => by have := (y_is_c.mp h9).2; omega), if_pos (y_is_c.mpr ⟨hs0, hK1⟩), r1]
        rw [ed] at fin
        exact s273_join (c := c) (nt := nt) (ns := ns) (jn := jn) (d := d) Yd hr hq h160 b1 d59 ((Id (by decide)).trans hns) hs12 ht12 hEd Vd.1 d75 (by omega) Jd hds (by omega) (fun k1 k' Y F h => fin _ ⟨k1, Y, Fd.trans F, fun h9 => ⟨(h h9).1, L, (h h9).2.choose, (h h9).2.choose_spec.1, by omega, (h h9).2.choose_spec.2⟩⟩)
      · rw [e59, i1, cq] at w ⊢
        rw [ek] at w
        have hK1 : K s.1 = 14 := by
          rcases hK with h | h | h | h
          · rw [h] at w; exact absurd w (by decide)
          · rw [h] at w; exact absurd w (by decide)
          · rw [h] at w; exact absurd w (by decide)
          · exact h
        rw [if_neg (by omega), if_neg (by omega), if_neg (by omega)] at fin
        have ed : y_d1 K s = y_nd K 26 (y_E K (y_nd K 29 (y_nd K 41 (y_nd K 27 (s.1 + 2, 0))))) := by
          unfold y_d1
          rw [if_neg (fun h9 => by have := (y_is_c.mp h9).2; omega), if_neg (fun h9 => by have := (y_is_c.mp h9).2; omega), if_neg (fun h9 => by have := (y_is_c.mp h9).2; omega), r1, p1]
        rw [ed] at fin
        exact s273_set (c := c) (d := d) Yd hr hq h160 b1 d59 Jd hds (by omega) (fun k1 k' Y F h => fin _ ⟨k1, Y, Fd.trans F, fun h9 => ⟨(h h9).1, L, (h h9).2.choose, (h h9).2.choose_spec.1, by omega, (h h9).2.choose_spec.2⟩⟩)
    refine b273_16 (v0 := 659) (Y.sh.ok rfl) (Y.sh.ref rfl) (Y.sh.ok rfl) (Y.sh.inN (n := 40) rfl (by omega) (by decide)) (fun c1 => ?_) (fun c1 => ?_)
    · rw [ex2]
      rw [e59] at c1
      have c0 : ¬ c = 0 := fun h9 => c1 (by rw [h9]; rfl)
      refine g61 k none ?_
      unfold p_d0
      rw [if_neg c0]
      exact Y
    · rw [ex2]
      rw [e59] at c1
      have c0 : c = 0 := (nI_eq (b := 0) (by omega) (by decide)).mp c1
      have Y1 : p_y K P X U e (p_z6 0 (q_sI (q_sI k0 630 75 0) 630 77 0)) (q_sI (q_sI k 630 75 0) 630 77 0) (y_rm (decide (c < 8)) s) := (Y.sI rfl).sI rfl
      refine b273_30 (Y.sh.ok rfl) (s273_42 (fun k' Y' x => g61 k' _ ?_) 6 0 _ rfl Y1)
      unfold p_d0
      rw [if_pos c0]
      exact Y'
  refine b273_0 (v0 := 659) (Y.sh.ok rfl) (Y.sh.ref rfl) (Y.sh.ok rfl) (Y.sh.inN (n := 40) rfl (by omega) (by decide)) (fun c1 => g16 _ ?_) (fun c1 => b273_11 (s250 (f := 2) Y (by decide) (by decide) rfl) (by decide) (fun k Y => g16 _ ?_))
  · rw [e59] at c1
    rw [decide_eq_true (show c < 8 by have : ¬ c = 8 := fun h9 => c1 (by rw [h9]; rfl); omega)]
    exact Y
  · rw [e59] at c1
    rw [decide_eq_false (show ¬ c < 8 by have := (nI_eq (b := 8) (by omega) (by decide)).mp c1; omega)]
    exact Y
end PD
