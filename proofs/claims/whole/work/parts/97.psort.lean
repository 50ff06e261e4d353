/-! THE PARSE OF THE REFERENCE: sorts, nodes, links -/
theorem y_nd_p {K : Nat → Nat} {c a : Nat} {s : y_S} (hs : s = (a, 0)) (h : (y_nd K c s).2 = 0) : K a = c ∧ y_nd K c s = (a + 1, 0) := by
  subst hs
  obtain ⟨h1, h2⟩ := y_nd_0 h
  exact ⟨(y_is_c.mp h1).2, h2⟩
theorem y_nd_z {K : Nat → Nat} {c : Nat} {s : y_S} (h : (y_nd K c s).2 = 0) : s.2 = 0 := (y_to.nd (y_to.rf (s := s))).2.1 h
/-- a sort is told -/
def p_so1 (P : Nat → Nat) (U : Nat → Int64) (nt ns : Nat) (s : y_S) (k : q_Hp) : q_Hp := q_sA (p_fw P (s.1 + 3) (p_fi (qL k 674) nt (U (s.1 + 3))) (p_dw P (s.1 + 1) (p_fi (qL k 675) ns (U (s.1 + 1))) k)) 639 (12 + ns) (q_on (p_fi (qL k 674) nt (U (s.1 + 3))))
def p_so (P : Nat → Nat) (U : Nat → Int64) (nt ns : Nat) (s : y_S) (k : q_Hp) : q_Hp := q_sI (q_sL (q_sA (p_fw P (s.1 + 5) (p_fi (qL k 674) nt (U (s.1 + 5))) (p_so1 P U nt ns s k)) 640 (12 + ns) (q_on (p_fi (qL k 674) nt (U (s.1 + 5))))) 675 ns (U (s.1 + 1))) 630 19 (nI (ns + 1))
section PS
variable {K P X : Nat → Nat} {U : Nat → Int64} {e : Nat} {k0 k : q_Hp} {s : y_S}
theorem p_so1_fr {nt ns : Nat} : p_fr k0 (p_so1 P U nt ns s k0) := p_fr.rf.dw.fw.sA rfl (Nat.le_add_right 12 ns)
theorem p_so_fr {nt ns : Nat} : p_fr k0 (p_so P U nt ns s k0) := ((p_so1_fr.fw.sA rfl (Nat.le_add_right 12 ns)).sL rfl).sI rfl
theorem s263 {nt ns : Nat} (Y : p_y K P X U e k0 k s) (hk : s.2 = 0 → K s.1 < 42) (hn : qI k0 630 19 = nI ns) (h12 : ns ≤ 12) (ht : qI k0 630 18 = nI nt) (ht12 : nt ≤ 12) : q_mV 3 263 [.ref 630] k (fun k' => p_out K P X U e k0 k' (y_so K ns s) (p_so P U nt ns s k0)) := by
  refine q_mV.of (q_recV rfl (Y.sh.ok rfl)) (fun Q fin => ?_)
  refine b263_0 (s252 Y hk) (by decide) ?_
  intro k Y
  have hx := Y.t0
  refine b263_4 (Y.sh.ok rfl) (s249 (c := 40) Y (by decide) rfl) (by decide) ?_
  rintro z h2 ⟨e0, rfl⟩
  subst h2
  generalize qI k 630 11 = x1 at hx ⊢
  have e18 : qI k 630 19 = nI ns := (Y.I rfl).trans hn
  have g36 : ∀ k, p_y K P X U e k0 k (y_nn K (decide (ns < 12)) (y_ps s)) → q_wp 3 263 36 [some (.ref 630), some (.int x1), none, none, none] [] k Q := by
    intro k Y
    refine b263_36 (s253 (c := 25) Y (by decide) rfl) (by decide) ?_
    intro k Y
    have hx2 := Y.t0
    refine b263_41 (Y.sh.ok rfl) (s253 (c := 40) Y (by decide) rfl) (by decide) ?_
    generalize qI k 630 11 = x2 at hx2 ⊢
    intro k Y
    refine b263_51 (s253 (c := 39) Y (by decide) rfl) (by decide) ?_
    intro k Y
    have hx3 := Y.t0
    refine b263_57 (Y.sh.ok rfl) (s253 (c := 40) Y (by decide) rfl) (by decide) ?_
    generalize qI k 630 11 = x3 at hx3 ⊢
    intro k Y
    refine b263_67 (s253 (c := 26) Y (by decide) rfl) (by decide) ?_
    intro k Y
    
    refine b263_72 (Y.sh.ok rfl) (fun c => b263_80 ?_) (fun c => b263_79 (fin _ ⟨k0, Y, p_fr.rf, fun h9 => absurd (Y.z1.mpr h9) c⟩))
    have c0 := Y.z1.mp c
    have a5 := y_nd_z c0
    have a4 := y_nd_z a5
    have a3 := y_nd_z a4
    have a2 := y_nd_z a3
    have a1 := y_nd_z a2
    obtain ⟨h1, h2, h3, h4, h5⟩ := y_hd a1
    obtain ⟨b2, p2⟩ := y_nd_p h4 a2
    obtain ⟨b3, p3⟩ := y_nd_p p2 a3
    obtain ⟨b4, p4⟩ := y_nd_p p3 a4
    obtain ⟨b5, p5⟩ := y_nd_p p4 a5
    obtain ⟨b6, p6⟩ := y_nd_p p5 c0
    have x1e : x1 = nI (s.1 + 1) := (hx (by rw [h1])).trans (by rw [h1])
    have x2e : x2 = nI (s.1 + 3) := (hx2 a2).trans (by rw [p2])
    have x3e : x3 = nI (s.1 + 5) := (hx3 a4).trans (by rw [p4])
    have le := Y.le
    rw [p6] at le
    have le : s.1 + 7 ≤ e := le
    have e12 := Y.e12
    have lt := of_decide_eq_true h3
    subst x1e
    subst x2e
    subst x3e
    have i1 : (12 : Int32) + nI ns = nI (12 + ns) := nI_add 12 ns
    refine s263_83 c0 (i := s.1 + 1) (by omega) h2 h12 k0 hn (fun x k' Y => ?_) ns 0 k (by omega) Y
    have e19 : qI k' 630 19 = nI ns := (Y.I rfl).trans ((p_dw.I (by decide)).trans hn)
    refine b263_121 (v0 := 639) (Y.sh.ok rfl) (Y.sh.ref rfl) (s255 (n := nt) (i := s.1 + 3) Y c0 (by omega) b3 ((p_dw.I (by decide)).trans ht) ht12 rfl) (by decide) ?_
    rintro z k2 ⟨rfl, Y⟩
    rw [congrFun p_dw_L 674] at Y ⊢
    rw [e19, i1]
    have Y1 := Y.sA (a := 639) (i := 12 + ns) (v := q_on (p_fi (qL k0 674) nt (U (s.1 + 3)))) rfl
    have Y1 : p_y K P X U e (p_so1 P U nt ns s k0) _ _ := Y1
    have ht1 : qI (p_so1 P U nt ns s k0) 630 18 = nI nt := (p_fw_I (by decide)).trans ((p_dw.I (by decide)).trans ht)
    have hn1 : qI (p_so1 P U nt ns s k0) 630 19 = nI ns := (p_fw_I (by decide)).trans ((p_dw.I (by decide)).trans hn)
    have hl1 : qL (p_so1 P U nt ns s k0) 674 = qL k0 674 := (congrFun p_fw_L 674).trans (congrFun p_dw_L 674)
    have e19 : qI (q_sA k2 639 (12 + ns) (q_on (p_fi (qL k0 674) nt (U (s.1 + 3))))) 630 19 = nI ns := (Y1.I rfl).trans hn1
    refine b263_137 (v0 := 640) (Y.sh.ok rfl) (Y.sh.inN (n := 24) rfl (by omega) (by decide)) (Y.sh.ok rfl) (Y.sh.ref rfl) ?_ (m := 1) (by decide) ?_ (P := fun z k' => z = q_on (p_fi (qL k0 674) nt (U (s.1 + 5))) ∧ p_y K P X U e (p_fw P (s.1 + 5) (p_fi (qL k0 674) nt (U (s.1 + 5))) (p_so1 P U nt ns s k0)) k' (y_so K ns s))
    · have := s255 (n := nt) (i := s.1 + 5) Y1 c0 (by omega) b5 ht1 ht12 rfl
      rw [hl1] at this
      rw [nI_clamp (by omega)]
      exact this
    rintro z k3 ⟨rfl, Y2⟩
    have e19' : qI k2 630 19 = nI ns := e19
    rw [e19', i1]
    have Y3 := Y2.sA (a := 640) (i := 12 + ns) (v := q_on (p_fi (qL k0 674) nt (U (s.1 + 5)))) rfl
    have hn3 : qI k3 630 19 = nI ns := (Y2.I rfl).trans ((p_fw_I (by decide)).trans hn1)
    have eb : qL k3 636 ((nI (s.1 + 1) : Int32).toNatClampNeg) = U (s.1 + 1) := by rw [nI_clamp (by omega)]; exact (Y2.tk (by omega)).2.2.2.2.2 h2
    refine b263_154 (v0 := 675) (v1 := 636) (Y2.sh.ok rfl) (Y2.sh.inN (n := 24) rfl (by omega) (by decide)) (Y2.sh.ok rfl) (Y2.sh.ref rfl) (Y2.sh.ref rfl) (Y2.sh.ok rfl) (Y2.sh.inN (n := 1203) rfl (by omega) (by decide)) (Y2.sh.ok rfl) (by rw [hn3]; exact Y2.sh.inN (n := 12) rfl (by omega) (by decide)) (fin _ ⟨p_so P U nt ns s k0, ?_, p_so_fr, fun _ => rfl⟩)
    rw [nI_clamp (show 12 + ns < 2 ^ 31 by omega), hn3, eb, nI_clamp (show ns < 2 ^ 31 by omega), nI_1]
    exact (Y3.sL rfl).sI rfl
  have g31 : ∀ k, p_y K P X U e k0 k (if y_is K 40 (y_ps s) = true then y_rm (decide (ns < 12)) (y_ps s) else y_ps s) → q_wp 3 263 31 [some (.ref 630), some (.int x1), none, none, none] [] k Q := by
    intro k Y
    exact b263_31 (s253 (c := 40) Y (by decide) rfl) (by decide) (fun k Y => g36 k Y)
  refine b263_14 (fun c => g31 _ ?_) (fun c => b263_17 (Y.sh.ok rfl) (fun c1 => g31 _ ?_) (fun c1 => b263_26 (s250 (f := 2) Y (by decide) (by decide) rfl) (by decide) (fun k Y => g31 _ ?_)))
  · rw [b2i_eq.mp c, if_neg (by decide)]
    exact Y
  · rw [e18] at c1
    rw [if_pos (b2i_ne.mp c), decide_eq_true (show ns < 12 by have : ¬ ns = 12 := fun h9 => c1 (by rw [h9]; rfl); omega)]
    exact Y
  · rw [e18] at c1
    rw [if_pos (b2i_ne.mp c), decide_eq_false (show ¬ ns < 12 by have := (nI_eq (b := 12) (by omega) (by decide)).mp c1; omega)]
    exact Y
end PS
