/-! THE PARSE OF THE REFERENCE: a proc -/
def p_pr0 (P : Nat → Nat) (U : Nat → Int64) (nr np : Nat) (s : y_S) (k : q_Hp) : q_Hp := q_sA (q_sI (q_sA (p_tw P U (s.1 + 1) nr np k) 673 (10 + np) (-1)) 630 80 0) 688 0 (-1)
def p_pr1 (K P X : Nat → Nat) (U : Nat → Int64) (nr np : Nat) (s : y_S) (k : q_Hp) : q_Hp := p_ro K P X 1202 0 (s.1 + 2, 0) (p_pr0 P U nr np s k)
def p_pr (K P X : Nat → Nat) (U : Nat → Int64) (nr np : Nat) (s : y_S) (k : q_Hp) : q_Hp := q_sI (q_sL (p_pr1 K P X U nr np s k) 677 np (U (s.1 + 1))) 630 21 (nI (np + 1))
/-- the state of the parse between two tells, with dos and names that wait -/
def p_BB (nt ns nr np d D C : Nat) (s : y_S) (k : q_Hp) : Prop := p_B nt ns d k ∧ nt ≤ 12 ∧ ns ≤ 12 ∧ qI k 630 20 = nI nr ∧ nr ≤ 20 ∧ qI k 630 21 = nI np ∧ np ≤ 10 ∧ p_DC D C k ∧ 1300 ≤ D ∧ D ≤ 1300 + s.1 ∧ C ≤ s.1 ∧ d ≤ s.1
section PO
variable {K P X : Nat → Nat} {U : Nat → Int64} {e : Nat} {k0 k : q_Hp} {s : y_S}
theorem s286 {nt ns nr np d D C : Nat} (Y : p_y K P X U e k0 k s) (hk : s.2 = 0 → K s.1 < 42) (hs : s.2 = 0) (B : p_BB nt ns nr np d D C s k0) : q_mV 5 286 [.ref 630] k (fun k' => ∃ k1, p_y K P X U e k1 k' (y_pr K np s) ∧ p_fr k0 k1 ∧ ((y_pr K np s).2 = 0 → k1 = p_pr K P X U nr np s k0 ∧ ∃ D' C', p_BB nt ns nr (np + 1) d D' C' (y_pr K np s) k1)) := by
  refine q_mV.of (q_recV rfl (Y.sh.ok rfl)) (fun Q fin => ?_)
  obtain ⟨⟨b1, b2, b3, b4, b5⟩, hnt, hns, hr, h20, hp, h10, hDC, hD13, hD, hC, hd⟩ := B
  refine b286_0 (s252 Y hk) (by decide) ?_
  intro k Y
  have hx := Y.t0
  refine b286_4 (Y.sh.ok rfl) (s249 (c := 40) Y (by decide) rfl) (by decide) ?_
  rintro z h2 ⟨e0, rfl⟩
  subst h2
  generalize qI k 630 11 = x2 at hx ⊢
  have e21 : qI k 630 21 = nI np := (Y.I rfl).trans hp
  have g31 : ∀ k, p_y K P X U e k0 k (if y_is K 40 (y_ps s) = true then y_rm (decide (np < 10)) (y_ps s) else y_ps s) → q_wp 5 286 31 [some (.ref 630), some (.int x2), none] [] k Q := by
    intro k Y
    refine b286_31 (s253 (c := 40) Y (by decide) rfl) (by decide) ?_
    intro k Y
    have Y : p_y K P X U e k0 k (y_nn K (decide (np < 10)) (y_ps s)) := Y
    have tR : y_to (y_nn K (decide (np < 10)) (y_ps s)) (y_pr K np s) := (y_to.ro _ _ _ _ y_to.rf).nd
    refine b286_36 (Y.sh.ok rfl) (fun z => ?_) (fun z => b286_43 (fin _ ⟨k0, ?_, p_fr.rf, fun h9 => ?_⟩))
    rotate_left 1
    · rw [tR.2.2 (fun h9 => z (Y.z1.mpr h9))]
      exact Y
    · exact absurd (Y.z1.mpr (tR.2.1 h9)) z
    have c0 := Y.z1.mp z
    obtain ⟨h1, h2, h3, h4, h5⟩ := y_hd c0
    have p10 := of_decide_eq_true h3
    have x2e : x2 = nI (s.1 + 1) := (hx (by rw [h1])).trans (by rw [h1])
    have le := Y.le
    rw [h4] at le
    have le : s.1 + 2 ≤ e := le
    have e12 := Y.e12
    subst x2e
    have es : y_pr K np s = y_nd K 5 (y_ro K 1202 0 (s.1 + 2, 0)) := by
      unfold y_pr
      rw [h4]
    rw [es] at fin
    rw [h4] at Y
    refine b286_44 (s264 (nr := nr) (np := np) (i := s.1 + 1) Y rfl (by omega) h2 hr h20 hp h10 rfl) (by decide) ?_
    intro k Y
    have e21 : qI k 630 21 = nI np := (Y.I rfl).trans ((p_tw_I (by decide)).trans hp)
    have i1 : (10 : Int32) + nI np = nI (10 + np) := nI_add 10 np
    have cn : (nI np : Int32).toNatClampNeg = np := nI_clamp (by omega)
    have c2 : (nI (10 + np) : Int32).toNatClampNeg = 10 + np := nI_clamp (by omega)
    have Y0 : p_y K P X U e (p_pr0 P U nr np s k0) (q_sA (q_sI (q_sA k 673 (10 + np) (-1)) 630 80 0) 688 0 (-1)) (s.1 + 2, 0) := ((Y.sA rfl).sI rfl).sA rfl
    have F0 : p_fr k0 (p_pr0 P U nr np s k0) := by
      have F1 : p_fr k0 (p_tw P U (s.1 + 1) nr np k0) := p_fr.rf.dw.dw
      exact ((F1.sA rfl (Nat.le_add_right 10 np)).sI rfl).sA rfl (Nat.zero_le _)
    have I0 : ∀ {j}, ¬ j = 15 ∧ ¬ j = 16 ∧ ¬ j = 80 → qI (p_pr0 P U nr np s k0) 630 j = qI k0 630 j := by
      intro j h
      unfold p_pr0
      rw [qI_sA, q_sI_n (by omega), qI_sA, p_tw_I ⟨h.1, h.2.1⟩]
    have PS0 : p_PS np D C 0 (p_pr0 P U nr np s k0) := by
      refine ⟨⟨?_, by decide, (I0 (by decide)).trans hp, p10, Or.inl ?_, fun h => absurd h (by decide)⟩, ⟨(I0 (by decide)).trans hDC.1, (I0 (by decide)).trans hDC.2⟩, (I0 (by decide)).trans b5, hD13⟩
      · unfold p_pr0
        rw [qI_sA, q_sI_e]
        rfl
      · unfold p_pr0
        rw [qA_sA, if_pos ⟨rfl, rfl⟩]
    refine b286_49 (v0 := 673) (v1 := 688) (Y.sh.ok rfl) (Y.sh.ref rfl) (Y.sh.ok rfl) (by rw [e21, i1]; exact Y.sh.inN (n := 20) rfl (by omega) (by decide)) (Y.sh.ref rfl) (Y.sh.ok rfl) (Y.sh.inN (n := 10) (j := 0) rfl (by decide) (by decide)) ?_
    rw [e21, i1, c2]
    refine s286_row (kb := k0) (np := np) (x1 := nI (s.1 + 1)) 1202 0 (s.1 + 2, 0) (p_pr0 P U nr np s k0) _ D C 1 (fun _ => by show 1201 ≤ 1202 + (s.1 + 2); omega) (fun _ => ⟨rfl, PS0, by show D ≤ 1300 + (s.1 + 2); omega, by show C ≤ s.1 + 2; omega, by decide⟩) Y0 F0 ?_
    intro k1 k x4 Y F h1
    -- the end of the loop
    have bad : ∀ k2 k x4, p_y K P X U e k2 k (y_nd K 5 (y_ro K 1202 0 (s.1 + 2, 0))) → p_fr k0 k2 → ¬ (y_nd K 5 (y_ro K 1202 0 (s.1 + 2, 0))).2 = 0 → q_wp 5 286 76 [some (.ref 630), some (.int (nI (s.1 + 1))), some (.int x4)] [] k Q := by
      intro k2 k x4 Y F hz
      have g95 : q_wp 5 286 95 [some (.ref 630), some (.int (nI (s.1 + 1))), some (.int x4)] [] k Q := b286_95 (Y.sh.ok rfl) (fun c => absurd (Y.z1.mp c) hz) (fun _ => b286_102 (fin _ ⟨k2, Y, F, fun h9 => absurd h9 hz⟩))
      exact b286_76 (fun _ => g95) (fun _ => b286_80 (Y.sh.ok rfl) (fun _ => g95) (fun c => absurd (Y.z.mp c) hz))
    by_cases hz : (y_ro K 1202 0 (s.1 + 2, 0)).2 = 0
    rotate_left 1
    · refine bad k1 k x4 ?_ F (fun h9 => hz (y_nd_z h9))
      rw [y_nd_f hz]
      exact Y
    obtain ⟨f1, f2, D', C', f3, f4, f5, f6, f7, f8, f9⟩ := h1 hz
    generalize hs1 : y_ro K 1202 0 (s.1 + 2, 0) = s1 at *
    have no : ¬ K s1.1 = 5 → y_nd K 5 s1 = y_fl 1 s1 ∧ ¬ (y_nd K 5 s1).2 = 0 := by
      intro h
      have e1 : y_nd K 5 s1 = y_fl 1 s1 := by
        unfold y_nd
        rw [if_neg (fun h9 => h (y_is_c.mp h9).2)]
      refine ⟨e1, ?_⟩
      rw [e1]
      unfold y_fl
      rw [if_pos hz]
      exact (show ¬ (1 : Nat) = 0 by decide)
    by_cases h5 : K s1.1 = 5
    · refine s286_st Y hz f1 (s287_en (b := 0) (w := 0) Y hz h5 f3.1 f3.2.2.1 (fun h => absurd h (by decide))) ?_
      rintro z k ⟨a1, _, _⟩
      obtain ⟨rfl, Y⟩ := a1 rfl
      have en : y_nd K 5 s1 = y_ps s1 := by
        unfold y_nd
        rw [if_pos (y_is_c.mpr ⟨hz, h5⟩)]
      rw [← en] at Y
      by_cases hz2 : (y_nd K 5 s1).2 = 0
      rotate_left 1
      · exact bad k1 k 0 Y F hz2
      refine b286_76 (fun _ => b286_95 (Y.sh.ok rfl) (fun _ => ?_) (fun c => absurd (Y.z1.mpr hz2) c)) (fun c => absurd rfl c)
      have e21 : qI k 630 21 = nI np := (Y.I rfl).trans f3.1.2.2.1
      have eb : qL k 636 ((nI (s.1 + 1) : Int32).toNatClampNeg) = U (s.1 + 1) := by rw [nI_clamp (by omega)]; exact (Y.tk (by omega)).2.2.2.2.2 h2
      refine b286_103 (v0 := 677) (v1 := 636) (Y.sh.ok rfl) (Y.sh.ref rfl) (Y.sh.ref rfl) (Y.sh.ok rfl) (Y.sh.inN (n := 1203) rfl (by omega) (by decide)) (Y.sh.ok rfl) (by rw [e21]; exact Y.sh.inN (n := 10) rfl p10 (by decide)) (fin _ ⟨q_sI (q_sL k1 677 np (U (s.1 + 1))) 630 21 (nI (np + 1)), ?_, (F.sL rfl).sI rfl, fun _ => ⟨?_, D', C', ?_⟩⟩)
      · rw [e21, cn, eb, nI_1]
        exact (Y.sL rfl).sI rfl
      · unfold p_pr p_pr1
        rw [f2]
      · have KO := f7.2.2.2
        have I1 : ∀ {j}, (¬ j = 12 ∧ ¬ j = 15 ∧ ¬ j = 16 ∧ ¬ j = 23 ∧ ¬ j = 80 ∧ ¬ j = 84) → ¬ j = 21 → qI (q_sI (q_sL k1 677 np (U (s.1 + 1))) 630 21 (nI (np + 1))) 630 j = qI k0 630 j := by
          intro j h h2
          rw [q_sI_n (fun h9 => h2 h9.2), qI_sL, KO.1 j h, I0 ⟨h.2.1, h.2.2.1, h.2.2.2.2.1⟩]
        obtain ⟨_, en2⟩ := y_nd_0 hz2
        refine ⟨⟨(I1 (by decide) (by decide)).trans b1, (I1 (by decide) (by decide)).trans b2, ?_, (I1 (by decide) (by decide)).trans b4, ?_⟩, hnt, hns, (I1 (by decide) (by decide)).trans hr, h20, q_sI_e, by omega, ⟨?_, ?_⟩, by omega, ?_, ?_, ?_⟩
        · rw [qA_sI, qA_sL, KO.2.1 638 rfl]
          unfold p_pr0
          rw [qA_sAn (by decide), qA_sI, qA_sAn (by decide), p_tw_A]
          exact b3
        · rw [q_sI_n (by omega), qI_sL]; exact f3.2.2.1
        · rw [q_sI_n (by omega), qI_sL]; exact f3.2.1.1
        · rw [q_sI_n (by omega), qI_sL]; exact f3.2.1.2
        · rw [en2]; show D' ≤ 1300 + (s1.1 + 1); omega
        · rw [en2]; show C' ≤ s1.1 + 1; omega
        · rw [en2]
          have t1 : y_to (s.1 + 2, 0) s1 := by
            rw [← hs1]
            exact y_to.ro _ _ _ _ y_to.rf
          have : s.1 + 2 ≤ s1.1 := t1.1
          show d ≤ s1.1 + 1
          omega
    · obtain ⟨n1, n2⟩ := no h5
      by_cases h23 : K s1.1 = 23 ∨ K s1.1 = 24
      · refine s286_st Y hz f1 (s287_te (b := 0) (w := 0) (c := K s1.1) Y hz h23 rfl f3.1 (fun h => absurd h (by decide))) ?_
        rintro z k ⟨_, a2⟩
        obtain ⟨rfl, Y⟩ := a2 (fun h => absurd h.1 (by decide))
        exact bad k1 k 0 (by rw [n1]; exact Y) F n2
      · refine s286_st Y hz f1 (s287_no Y hz ⟨h5, fun h9 => f9 ⟨h9.1, by omega⟩⟩) ?_
        rintro z k ⟨rfl, Y⟩
        exact bad k1 k 0 (by rw [n1]; exact Y) F n2
  refine b286_14 (fun c => g31 _ ?_) (fun c => b286_17 (Y.sh.ok rfl) (fun c1 => g31 _ ?_) (fun c1 => b286_26 (s250 (f := 2) Y (by decide) (by decide) rfl) (by decide) (fun k Y => g31 _ ?_)))
  · rw [b2i_eq.mp c, if_neg (by decide)]
    exact Y
  · rw [e21] at c1
    rw [if_pos (b2i_ne.mp c), decide_eq_true (show np < 10 by have : ¬ np = 10 := fun h9 => c1 (by rw [h9]; rfl); omega)]
    exact Y
  · rw [e21] at c1
    rw [if_pos (b2i_ne.mp c), decide_eq_false (show ¬ np < 10 by have := (nI_eq (b := 10) (by omega) (by decide)).mp c1; omega)]
    exact Y
end PO
