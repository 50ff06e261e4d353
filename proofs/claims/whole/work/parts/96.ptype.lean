/-! THE PARSE OF THE REFERENCE: types and sorts -/
theorem y_hd {K : Nat → Nat} {b : Bool} {s : y_S} (h : (y_nn K b (y_ps s)).2 = 0) : y_ps s = (s.1 + 1, 0) ∧ K (s.1 + 1) = 40 ∧ b = true ∧ y_nn K b (y_ps s) = (s.1 + 2, 0) ∧ s.2 = 0 := by
  have hb := y_nn_b h
  have h1 := (y_to.nn (K := K) (b := b) (y_to.rf (s := y_ps s))).2.1 h
  obtain ⟨h2, h3⟩ := y_ps_0 h1
  rw [h3] at h ⊢
  subst hb
  have h4 : y_nn K true (s.1 + 1, 0) = y_nd K 40 (s.1 + 1, 0) := by
    unfold y_nn y_rm
    rw [if_pos rfl, ite_self]
  rw [h4] at h ⊢
  obtain ⟨h5, h6⟩ := y_nd_0 h
  exact ⟨rfl, (y_is_c.mp h5).2, rfl, h6, h2⟩
/-- what is left behind: where there is no fault it is this heap -/
def p_out (K P X : Nat → Nat) (U : Nat → Int64) (e : Nat) (k0 k' : q_Hp) (s' : y_S) (r : q_Hp) : Prop := ∃ k1, p_y K P X U e k1 k' s' ∧ p_fr k0 k1 ∧ (s'.2 = 0 → k1 = r)
/-- a type is told -/
def p_ty1 (P : Nat → Nat) (U : Nat → Int64) (nt : Nat) (s : y_S) (k : q_Hp) : q_Hp := q_sA (p_dw P (s.1 + 1) (p_fi (qL k 674) nt (U (s.1 + 1))) k) 638 (12 + nt) (-1)
def p_ty2 (K P : Nat → Nat) (U : Nat → Int64) (nt : Nat) (s : y_S) (k : q_Hp) : q_Hp := if K (s.1 + 2) = 1 then q_sA (p_fw P (s.1 + 3) (p_fi (qL k 674) nt (U (s.1 + 3))) (p_ty1 P U nt s k)) 638 (12 + nt) (q_on (p_fi (qL k 674) nt (U (s.1 + 3)))) else p_ty1 P U nt s k
def p_ty (K P : Nat → Nat) (U : Nat → Int64) (nt : Nat) (s : y_S) (k : q_Hp) : q_Hp := q_sI (q_sL (p_ty2 K P U nt s k) 674 nt (U (s.1 + 1))) 630 18 (nI (nt + 1))
section PT
variable {K P X : Nat → Nat} {U : Nat → Int64} {e : Nat} {k0 k : q_Hp} {s : y_S}
theorem p_ty1_fr {nt : Nat} : p_fr k0 (p_ty1 P U nt s k0) := p_fr.rf.dw.sA rfl (Nat.le_add_right 12 nt)
theorem p_ty2_fr {nt : Nat} : p_fr k0 (p_ty2 K P U nt s k0) := by
  unfold p_ty2
  exact (p_ty1_fr.fw.sA rfl (Nat.le_add_right 12 nt)).ite p_ty1_fr
theorem p_ty1_I {nt j : Nat} (h : ¬ j = 15 ∧ ¬ j = 16) : qI (p_ty1 P U nt s k0) 630 j = qI k0 630 j := p_dw.I h
theorem p_ty2_I {nt j : Nat} (h : ¬ j = 15 ∧ ¬ j = 16) : qI (p_ty2 K P U nt s k0) 630 j = qI k0 630 j := by
  unfold p_ty2
  split
  · exact (p_fw_I h).trans (p_ty1_I h)
  · exact p_ty1_I h
theorem s262 {nt : Nat} (Y : p_y K P X U e k0 k s) (hk : s.2 = 0 → K s.1 < 42) (hn : qI k0 630 18 = nI nt) (h12 : nt ≤ 12) : q_mV 3 262 [.ref 630] k (fun k' => p_out K P X U e k0 k' (y_ty K nt s) (p_ty K P U nt s k0)) := by
  refine q_mV.of (q_recV rfl (Y.sh.ok rfl)) (fun Q fin => ?_)
  refine b262_0 (s252 Y hk) (by decide) ?_
  intro k Y
  have hx := Y.t0
  refine b262_4 (Y.sh.ok rfl) (s249 (c := 40) Y (by decide) rfl) (by decide) ?_
  rintro z h2 ⟨e0, rfl⟩
  subst h2
  generalize qI k 630 11 = x1 at hx ⊢
  have e18 : qI k 630 18 = nI nt := (Y.I rfl).trans hn
  have g140 : ∀ k2 k l3, p_y K P X U e k2 k (if y_is K 1 (y_nn K (decide (nt < 12)) (y_ps s)) = true then y_nd K 40 (y_ps (y_nn K (decide (nt < 12)) (y_ps s))) else y_nn K (decide (nt < 12)) (y_ps s)) → p_fr k0 k2 → ((if y_is K 1 (y_nn K (decide (nt < 12)) (y_ps s)) = true then y_nd K 40 (y_ps (y_nn K (decide (nt < 12)) (y_ps s))) else y_nn K (decide (nt < 12)) (y_ps s)).2 = 0 → k2 = p_ty2 K P U nt s k0) → q_wp 3 262 140 [some (.ref 630), some (.int x1), some (.int (nI nt)), l3] [] k Q := by
    intro k2 k l3 Y F hs
    have t4 : y_to (y_nn K (decide (nt < 12)) (y_ps s)) (if y_is K 1 (y_nn K (decide (nt < 12)) (y_ps s)) = true then y_nd K 40 (y_ps (y_nn K (decide (nt < 12)) (y_ps s))) else y_nn K (decide (nt < 12)) (y_ps s)) := y_to.rf.ps.nd.ite y_to.rf
    have g169 : ∀ k3 k, p_y K P X U e k3 k (if y_is K 1 (y_nn K (decide (nt < 12)) (y_ps s)) = true then y_nd K 40 (y_ps (y_nn K (decide (nt < 12)) (y_ps s))) else y_nn K (decide (nt < 12)) (y_ps s)) → p_fr k0 k3 → ((if y_is K 1 (y_nn K (decide (nt < 12)) (y_ps s)) = true then y_nd K 40 (y_ps (y_nn K (decide (nt < 12)) (y_ps s))) else y_nn K (decide (nt < 12)) (y_ps s)).2 = 0 → k3 = p_ty K P U nt s k0) → q_wp 3 262 169 [some (.ref 630), some (.int x1), some (.int (nI nt)), l3] [] k Q := by
      intro k3 k Y F hs
      refine b262_169 (s253 (c := 26) Y (by decide) rfl) (by decide) ?_
      intro k Y
      exact b262_174 (fin _ ⟨k3, Y, F, fun h9 => hs ((y_to.nd y_to.rf).2.1 h9)⟩)
    refine b262_140 (Y.sh.ok rfl) (fun c => g169 k2 k Y F (fun h9 => absurd (Y.z.mpr h9) c)) (fun c => ?_)
    have c0 := Y.z.mp c
    have ek := hs c0
    obtain ⟨h1, h2, h3, h4, h5⟩ := y_hd (t4.2.1 c0)
    have e12 := Y.e12
    have le2 := Y.le
    have to4 := t4.1
    have hq : (y_nn K (decide (nt < 12)) (y_ps s)).1 = s.1 + 2 := by rw [h4]
    have x1e : x1 = nI (s.1 + 1) := by
      have := hx (by rw [h1])
      rw [h1] at this
      exact this
    have lt := of_decide_eq_true h3
    have eb : qL k 636 ((nI (s.1 + 1) : Int32).toNatClampNeg) = U (s.1 + 1) := by rw [nI_clamp (by omega)]; exact (Y.tk (by omega)).2.2.2.2.2 h2
    have e2 : qI k 630 18 = nI nt := (Y.I rfl).trans (by rw [ek]; exact (p_ty2_I (by decide)).trans hn)
    refine b262_147 (v0 := 674) (v1 := 636) (Y.sh.ok rfl) (Y.sh.ref rfl) (Y.sh.ref rfl) (Y.sh.ok rfl) (by rw [x1e]; exact Y.sh.inN (n := 1203) rfl (by omega) (by decide)) (Y.sh.ok rfl) (Y.sh.inN (n := 12) rfl (by omega) (by decide)) (g169 (q_sI (q_sL k2 674 nt (U (s.1 + 1))) 630 18 (nI (nt + 1))) _ ?_ ((F.sL rfl).sI rfl) (fun _ => by rw [ek]; rfl))
    rw [x1e, eb, e2, nI_clamp (by omega), nI_1]
    exact (Y.sL rfl).sI rfl
  have g96 : ∀ k1 k l3, p_y K P X U e k1 k (y_nn K (decide (nt < 12)) (y_ps s)) → p_fr k0 k1 → ((y_nn K (decide (nt < 12)) (y_ps s)).2 = 0 → k1 = p_ty1 P U nt s k0) → q_wp 3 262 96 [some (.ref 630), some (.int x1), some (.int (nI nt)), l3] [] k Q := by
    intro k1 k l3 Y F hs
    refine b262_96 (s249 (c := 1) Y (by decide) rfl) (by decide) ?_
    rintro z h2 ⟨e0, rfl⟩
    subst h2
    refine b262_102 (fun c => g140 k1 k l3 ?_ F ?_) (fun c => ?_)
    · rw [b2i_eq.mp c, if_neg (by decide)]
      exact Y
    · intro h9
      rw [b2i_eq.mp c, if_neg (by decide)] at h9
      obtain ⟨h1, h2, h3, h4, h5⟩ := y_hd h9
      rw [hs h9]
      unfold p_ty2
      rw [if_neg]
      intro h8
      have c := b2i_eq.mp c
      rw [h4, y_is_c.mpr ⟨rfl, h8⟩] at c
      cases c
    · have c1 := b2i_ne.mp c
      rw [if_pos c1] at g140
      obtain ⟨h1, h2, h3, h4, h5⟩ := y_hd (y_is_c.mp c1).1
      have ek := hs (y_is_c.mp c1).1
      have k1c : K (s.1 + 2) = 1 := by
        have := (y_is_c.mp c1).2
        rw [h4] at this
        exact this
      refine b262_105 (s252 Y (y_is_lt (by decide) c1)) (by decide) ?_
      intro k Y
      have hx3 := Y.t0
      refine b262_109 (Y.sh.ok rfl) (s253 (c := 40) Y (by decide) rfl) (by decide) ?_
      intro k' Y
      generalize qI k 630 11 = x3 at hx3 ⊢
      refine b262_119 (Y.sh.ok rfl) (fun c => g140 k1 k' _ Y F (fun h9 => absurd (Y.z.mpr h9) c)) (fun c => ?_)
      have c0 := Y.z.mp c
      obtain ⟨h6, h7⟩ := y_nd_0 c0
      have h8 := (y_is_c.mp h6).1
      have h10 := (y_is_c.mp h6).2
      obtain ⟨_, h11⟩ := y_ps_0 h8
      rw [h4] at h11
      have h11 : y_ps (s.1 + 2, 0) = (s.1 + 3, 0) := h11
      rw [h4, h11] at h10
      have h10 : K (s.1 + 3) = 40 := h10
      have x3e : x3 = nI (s.1 + 3) := by
        have := hx3 h8
        rw [h4, h11] at this
        exact this
      have le3 := Y.le
      rw [h7, h4, h11] at le3
      have le3 : s.1 + 4 ≤ e := le3
      have e12 := Y.e12
      have lt := of_decide_eq_true h3
      refine b262_126 (v0 := 638) (Y.sh.ok rfl) (Y.sh.ref rfl) (s255 (n := nt) (i := s.1 + 3) Y c0 (by omega) h10 (by rw [ek]; exact (p_ty1_I (by decide)).trans hn) h12 x3e) (by decide) ?_
      rintro z k2 ⟨rfl, Y⟩
      have i1 : (12 : Int32) + nI nt = nI (12 + nt) := nI_add 12 nt
      have el : qL k1 674 = qL k0 674 := by rw [ek]; exact congrFun p_dw_L 674
      refine b262_139 (Y.sh.ok rfl) (by rw [i1]; exact Y.sh.inN (n := 24) rfl (by omega) (by decide)) (g140 (q_sA (p_fw P (s.1 + 3) (p_fi (qL k1 674) nt (U (s.1 + 3))) k1) 638 (12 + nt) (q_on (p_fi (qL k1 674) nt (U (s.1 + 3))))) _ _ ?_ (F.fw.sA rfl (Nat.le_add_right 12 nt)) (fun _ => ?_))
      rotate_left 1
      · rw [el, ek]
        unfold p_ty2
        rw [if_pos k1c]
      · rw [i1, nI_clamp (by omega)]
        exact Y.sA rfl
  have g31 : ∀ k, p_y K P X U e k0 k (if y_is K 40 (y_ps s) = true then y_rm (decide (nt < 12)) (y_ps s) else y_ps s) → q_wp 3 262 31 [some (.ref 630), some (.int x1), none, none] [] k Q := by
    intro k Y
    refine b262_31 (s253 (c := 40) Y (by decide) rfl) (by decide) ?_
    intro k Y
    have Y : p_y K P X U e k0 k (y_nn K (decide (nt < 12)) (y_ps s)) := Y
    have e18 : qI k 630 18 = nI nt := (Y.I rfl).trans hn
    refine b262_36 (Y.sh.ok rfl) (fun c => ?_) (fun c => ?_)
    · rw [e18]
      exact g96 k0 k none Y p_fr.rf (fun h9 => absurd (Y.z.mpr h9) c)
    · rw [e18]
      have c0 := Y.z.mp c
      obtain ⟨h1, h2, h3, h4, h5⟩ := y_hd c0
      have x1e : x1 = nI (s.1 + 1) := by
        have := hx (by rw [h1])
        rw [h1] at this
        exact this
      have le2 := Y.le
      rw [h4] at le2
      have le2 : s.1 + 2 ≤ e := le2
      have e12 := Y.e12
      rw [x1e] at g96 ⊢
      refine b262_48 (s262_50 (l2 := nI nt) c0 (i := s.1 + 1) (by omega) h2 h12 k0 hn (fun x k' Y' => ?_) nt 0 k (by omega) Y)
      have i1 : (12 : Int32) + nI nt = nI (12 + nt) := nI_add 12 nt
      have lt := of_decide_eq_true h3
      refine b262_86 (v0 := 638) (Y'.sh.ok rfl) (Y'.sh.ref rfl) (Y'.sh.ok rfl) (by rw [i1]; exact Y'.sh.inN (n := 24) rfl (by omega) (by decide)) (g96 (p_ty1 P U nt s k0) _ _ ?_ p_ty1_fr (fun _ => rfl))
      rw [i1, nI_clamp (by omega)]
      exact Y'.sA rfl
  refine b262_14 (fun c => g31 _ ?_) (fun c => b262_17 (Y.sh.ok rfl) (fun c1 => g31 _ ?_) (fun c1 => b262_26 (s250 (f := 2) Y (by decide) (by decide) rfl) (by decide) (fun k Y => g31 _ ?_)))
  · rw [b2i_eq.mp c, if_neg (by decide)]
    exact Y
  · rw [e18] at c1
    rw [if_pos (b2i_ne.mp c), decide_eq_true (show nt < 12 by have : ¬ nt = 12 := fun h9 => c1 (by rw [h9]; rfl); omega)]
    exact Y
  · rw [e18] at c1
    rw [if_pos (b2i_ne.mp c), decide_eq_false (show ¬ nt < 12 by have := (nI_eq (b := 12) (by omega) (by decide)).mp c1; omega)]
    exact Y
end PT
