/-! THE PARSE OF THE REFERENCE: rows of dos, by recursion -/
def p_Row (K P X : Nat → Nat) (U : Nat → Int64) (e : Nat) (kb : q_Hp) (np : Nat) (x1 : Int32) (Q : Option Value → q_Hp → Prop) (m : Nat) : Prop := ∀ (d : Nat) (s : y_S) (k0 k : q_Hp) (D C : Nat) (x2 : Int32), (s.2 = 0 → 1201 ≤ m + s.1) → (s.2 = 0 → x2 = 1 ∧ p_PS np D C d k0 ∧ D ≤ 1300 + s.1 ∧ C ≤ s.1 ∧ d ≤ 8) → p_y K P X U e k0 k s → p_fr kb k0 → (∀ k1 k x2, p_y K P X U e k1 k (y_ro K m d s) → p_fr kb k1 → ((y_ro K m d s).2 = 0 → x2 = 1 ∧ p_RO K P X np d D k0 (y_ro K m d s) (p_ro K P X m d s k0) k1) → q_wp 5 286 76 [some (.ref 630), some (.int x1), some (.int x2)] [] k Q) → q_wp 5 286 76 [some (.ref 630), some (.int x1), some (.int x2)] [] k Q
section PO
variable {K P X : Nat → Nat} {U : Nat → Int64} {e : Nat} {k0 k : q_Hp} {s : y_S}
theorem s286_rn {kb : q_Hp} {np m : Nat} {x1 : Int32} {Q : Option Value → q_Hp → Prop} (ih : p_Row K P X U e kb np x1 Q m) {d D C b c : Nat} {w x2 : Int32} (hm : s.2 = 0 → 1201 ≤ m + s.1) (H : s.2 = 0 → x2 = 1 ∧ p_PS np D C (d + 1) k0 ∧ D ≤ 1300 + s.1 ∧ C ≤ s.1 ∧ d + 1 ≤ 8 ∧ p_tp k0 (d + 1) w b ∧ ∀ a, qA k0 686 (d + 1) = nI a → a < 2600 → a < D) (hc : (¬ w = 7 ∧ c = 5) ∨ (w = 7 ∧ b = 0 ∧ c = 23) ∨ (w = 7 ∧ b = 1 ∧ c = 24) ∨ (w = 7 ∧ b = 2 ∧ c = 5)) (Y : p_y K P X U e k0 k s) (F : p_fr kb k0) (cont : ∀ k1 k x2, p_y K P X U e k1 k (y_nd K c (y_ro K m (d + 1) s)) → p_fr kb k1 → ((y_nd K c (y_ro K m (d + 1) s)).2 = 0 → x2 = 1 ∧ k1 = (if c = 5 then p_w3 d (p_ro K P X m (d + 1) s k0) else p_w2 (d + 1) (p_ro K P X m (d + 1) s k0)) ∧ ∃ D' C', p_PS np D' C' (d + 1) (p_ro K P X m (d + 1) s k0) ∧ D ≤ D' ∧ D' ≤ 1300 + (y_nd K c (y_ro K m (d + 1) s)).1 ∧ C' ≤ (y_nd K c (y_ro K m (d + 1) s)).1 ∧ p_Kp (d + 1) D k0 (p_ro K P X m (d + 1) s k0) ∧ p_tp (p_ro K P X m (d + 1) s k0) (d + 1) w b) → q_wp 5 286 76 [some (.ref 630), some (.int x1), some (.int x2)] [] k Q) : q_wp 5 286 76 [some (.ref 630), some (.int x1), some (.int x2)] [] k Q := by
  refine ih (d + 1) s k0 k D C x2 hm (fun h => ⟨(H h).1, (H h).2.1, (H h).2.2.1, (H h).2.2.2.1, (H h).2.2.2.2.1⟩) Y F ?_
  intro k1 k x2 Y F1 h1
  by_cases hz : (y_ro K m (d + 1) s).2 = 0
  · obtain ⟨e2, e1, D', C', q1, q2, q3, q4, q5, q6, q7⟩ := h1 hz
    have hs := (y_to.ro (K := K) m (d + 1) s s y_to.rf).2.1 hz
    obtain ⟨_, _, _, _, _, T, hT⟩ := H hs
    have T1 : p_tp k1 (d + 1) w b := T.c q5 hT q6
    refine s286_st Y hz e2 (s287_need Y hz q7 q1 T1 hc) ?_
    rintro z k ⟨k2, Y, F2, h2⟩
    refine cont k2 k z Y (F1.trans F2) (fun h9 => ?_)
    obtain ⟨e3, e4⟩ := h2 h9
    obtain ⟨_, e5⟩ := y_nd_0 h9
    subst e1
    refine ⟨e3, e4, D', C', q1, q2, ?_, ?_, q5, T1⟩
    · rw [e5]; show D' ≤ 1300 + ((y_ro K m (d + 1) s).1 + 1); omega
    · rw [e5]; show C' ≤ (y_ro K m (d + 1) s).1 + 1; omega
  · refine cont k1 k x2 ?_ F1 (fun h9 => absurd (y_nd_z h9) hz)
    rw [y_nd_f hz]
    exact Y
theorem y_rs_w {rec : y_S → y_S} (hr : ∀ s0 s, y_to s0 s → y_to s0 (rec s)) : y_to (y_w1 K s) (y_rs K rec s) := by
  unfold y_rs
  refine y_to.nd (hr _ _ ?_)
  unfold y_w1
  by_cases h : y_is K 22 s = true
  · rw [if_pos h, if_neg (fun h9 => by have h1 := (y_is_c.mp h).2; have h2 := (y_is_c.mp h9).2; omega)]
    exact (hr _ _ (hr _ _ y_to.rf).nd).nd
  · rw [if_neg h]
    exact y_to.rf
theorem s286_row {kb : q_Hp} {np : Nat} {x1 : Int32} {Q : Option Value → q_Hp → Prop} : ∀ m, p_Row K P X U e kb np x1 Q m := by
  intro m
  induction m with
  | zero =>
    intro d s k0 k D C x2 hm H Y F cont
    have hs : ¬ s.2 = 0 := fun h => by
      have := hm h
      have := Y.le
      have := Y.e12
      omega
    exact cont k0 k x2 Y F (fun h9 => absurd h9 hs)
  | succ m ih =>
    intro d s k0 k D C x2 hm H Y F cont
    by_cases hs : s.2 = 0
    rotate_left 1
    · refine cont k0 k x2 ?_ F (fun h9 => absurd ((y_to.ro (K := K) (m + 1) d s s y_to.rf).2.1 h9) hs)
      rw [y_ro_f hs]
      exact Y
    have hm := hm hs
    obtain ⟨e2, PS, hD, hC, h8⟩ := H hs
    have le := Y.le
    have e12 := Y.e12
    have D13 := PS.2.2.2
    have hD1 := PS.2.1.1
    unfold y_ro p_ro at cont
    by_cases c1 : y_wl K s = true
    · rw [if_pos c1, if_pos c1] at cont
      have tF : ∀ s0, y_to s0 (y_rs K (y_ro K m (d + 1)) (y_rm (decide (d < 8)) s)) → y_to s0 (y_ro K m d (y_rs K (y_ro K m (d + 1)) (y_rm (decide (d < 8)) s))) := fun s0 h => y_to.ro _ _ _ _ h
      have tr : ∀ s0 s, y_to s0 s → y_to s0 (y_ro K m (d + 1) s) := fun s0 s h => y_to.ro _ _ _ _ h
      refine s286_st Y hs e2 (s287_wl (np := np) (D := D) Y c1 PS.1 h8 PS.2.2.1 hD1 D13 (by omega)) ?_
      rintro z k ⟨k1, Y, F1, h1⟩
      by_cases hz : (y_w1 K (y_rm (decide (d < 8)) s)).2 = 0
      rotate_left 1
      · have t1 := tF _ (y_rs_w (s := y_rm (decide (d < 8)) s) tr)
        refine cont k1 k z ?_ (F.trans F1) (fun h9 => absurd (t1.2.1 h9) hz)
        rw [t1.2.2 hz]
        exact Y
      obtain ⟨e3, e1⟩ := h1 hz
      subst e1
      have tw : y_to (y_rm (decide (d < 8)) s) (y_w1 K (y_rm (decide (d < 8)) s)) := y_to.rf.ps.nd.ite y_to.rf.ps
      obtain ⟨r2, r3⟩ := y_rm_0 (tw.2.1 hz)
      have d8 := of_decide_eq_true r3
      rw [r2] at cont tF hz Y
      obtain ⟨PS1, Kp1, e7, e88, T1⟩ := PS.w1 (K := K) (P := P) (X := X) (s := s) (by omega) hs d8
      have F1 := F.trans F1
      -- the end of all: closed, and on at this depth
      have fin : ∀ k3 k x2 D3 C3 k2, p_y K P X U e k3 k (y_rs K (y_ro K m (d + 1)) s) → p_fr kb k3 → ((y_rs K (y_ro K m (d + 1)) s).2 = 0 → x2 = 1 ∧ k3 = p_w3 d k2 ∧ k2 = k2 ∧ p_w3 d k2 = p_rs K (p_ro K P X m (d + 1)) (y_ro K m (d + 1)) d s (p_w1 K P X d s k0) ∧ p_PS np D3 C3 (d + 1) k2 ∧ D + 1 ≤ D3 ∧ D3 ≤ 1300 + (y_rs K (y_ro K m (d + 1)) s).1 ∧ C3 ≤ (y_rs K (y_ro K m (d + 1)) s).1 ∧ p_Kp (d + 1) (D + 1) (p_w1 K P X d s k0) k2 ∧ s.1 + 1 ≤ (y_rs K (y_ro K m (d + 1)) s).1) → q_wp 5 286 76 [some (.ref 630), some (.int x1), some (.int x2)] [] k Q := by
        intro k3 k x2 D3 C3 k2 Y F3 h3
        by_cases hz : (y_rs K (y_ro K m (d + 1)) s).2 = 0
        rotate_left 1
        · refine cont k3 k x2 ?_ F3 (fun h9 => absurd ((tF _ y_to.rf).2.1 h9) hz)
          rw [(tF _ y_to.rf).2.2 hz]
          exact Y
        obtain ⟨f1, f2, _, f3, f4, f5, f6, f7, f8, f9⟩ := h3 hz
        subst f2
        have KK : p_Kp d D k0 k2 := Kp1.trans ⟨fun i hi => f8.1 i (by omega), fun i hi => f8.2.1 i (by omega), fun j hj => f8.2.2.1 j (by omega), f8.2.2.2⟩ (Nat.le_refl D)
        obtain ⟨g1, g2, g3⟩ := PS.w3 f4 (by omega) (((f8.2.1 d (by omega)).2).trans e88) D13 (by omega) KK (Nat.le_refl D) (((f8.2.1 d (by omega)).1).trans e7)
        refine ih d _ _ k D3 C3 x2 (fun _ => by omega) (fun _ => ⟨f1, g1, f6, f7, h8⟩) Y F3 (fun k4 k x4 Y F4 h4 => cont k4 k x4 Y F4 (fun h9 => ?_))
        obtain ⟨i1, i2, D4, C4, i3, i4, i5, i6, i7, i8, i9⟩ := h4 h9
        rw [f3] at i2
        exact ⟨i1, i2, D4, C4, i3, by omega, i5, i6, g2.trans i7 (by omega), i8.trans g3, i9⟩
      by_cases ht : K s.1 = 22
      · have y22 : y_is K 22 s = true := y_is_c.mpr ⟨hs, ht⟩
        have es : y_w1 K s = y_ps s := by
          unfold y_w1
          rw [if_neg (fun h9 => by have := (y_is_c.mp h9).2; omega)]
        have er : y_rs K (y_ro K m (d + 1)) s = y_nd K 5 (y_ro K m (d + 1) (y_nd K 24 (y_ro K m (d + 1) (y_nd K 23 (y_ro K m (d + 1) (y_ps s)))))) := by
          unfold y_rs
          rw [if_pos y22]
        rw [es] at hz Y
        rw [er] at fin
        have w7 : p_wk K s = 7 := by
          unfold p_wk
          rw [if_neg (by omega), if_neg (by omega)]
        rw [w7] at T1
        obtain ⟨_, ep⟩ := y_ps_0 hz
        have hp1 : (y_ps s).1 = s.1 + 1 := by rw [ep]
        have hT0 : ∀ a, qA (p_w1 K P X d s k0) 686 (d + 1) = nI a → a < 2600 → a < D + 1 := by
          intro a ha ha2
          have e86 : qA (p_w1 K P X d s k0) 686 (d + 1) = nI D := by
            unfold p_w1
            rw [qA_sAn (by decide), qA_sAn (by decide), qA_sA, if_pos ⟨rfl, rfl⟩, hD1]
          have := (nI_eq (a := a) (b := D) (by omega) (by omega)).mp (ha.symm.trans e86)
          omega
        refine s286_rn ih (d := d) (D := D + 1) (C := C) (b := 0) (c := 23) (w := 7) (fun _ => by omega) (fun _ => ⟨e3, PS1, by omega, by omega, by omega, T1, hT0⟩) (Or.inr (Or.inl ⟨rfl, rfl, rfl⟩)) Y F1 ?_
        intro k2 k x4 Y F2 h2
        have t2 : y_to (y_ps s) (y_nd K 23 (y_ro K m (d + 1) (y_ps s))) := (tr _ _ y_to.rf).nd
        generalize hs2 : y_nd K 23 (y_ro K m (d + 1) (y_ps s)) = s2 at *
        have ex2 : ∃ D2 C2, s2.2 = 0 → x4 = 1 ∧ p_PS np D2 C2 (d + 1) k2 ∧ D2 ≤ 1300 + s2.1 ∧ C2 ≤ s2.1 ∧ d + 1 ≤ 8 ∧ p_tp k2 (d + 1) 7 1 ∧ (∀ a, qA k2 686 (d + 1) = nI a → a < 2600 → a < D2) ∧ D + 1 ≤ D2 ∧ p_Kp (d + 1) (D + 1) (p_w1 K P X d s k0) k2 ∧ k2 = p_w2 (d + 1) (p_ro K P X m (d + 1) (y_ps s) (p_w1 K P X d s k0)) := by
          by_cases hz2 : s2.2 = 0
          · obtain ⟨a1, a2, D2, C2, a3, a4, a5, a6, a7, a8⟩ := h2 hz2
            rw [if_neg (by decide)] at a2
            obtain ⟨b1, b2, b3⟩ := a3.w2 a8 (by decide)
            rw [← a2] at b1 b2 b3
            refine ⟨D2, C2, fun _ => ⟨a1, b1, a5, a6, by omega, b3, fun a ha ha2 => ?_, a4, a7.trans b2 (by omega), a2⟩⟩
            have := hT0 a (((a7.trans b2 a4).1 (d + 1) (Nat.le_refl _)).symm.trans ha) ha2
            omega
          · exact ⟨0, 0, fun h9 => absurd h9 hz2⟩
        obtain ⟨D2, C2, ex2⟩ := ex2
        refine s286_rn ih (d := d) (D := D2) (C := C2) (b := 1) (c := 24) (w := 7) (fun h9 => by have := t2.1; omega) (fun h9 => ?_) (Or.inr (Or.inr (Or.inl ⟨rfl, rfl, rfl⟩))) Y F2 ?_
        · obtain ⟨a1, a2, a3, a4, a5, a6, a7, _⟩ := ex2 h9
          exact ⟨a1, a2, a3, a4, a5, a6, a7⟩
        intro k3 k x5 Y F3 h3
        have t3 : y_to s2 (y_nd K 24 (y_ro K m (d + 1) s2)) := (tr _ _ y_to.rf).nd
        generalize hs3 : y_nd K 24 (y_ro K m (d + 1) s2) = s3 at *
        have ex3 : ∃ D3 C3, s3.2 = 0 → x5 = 1 ∧ p_PS np D3 C3 (d + 1) k3 ∧ D3 ≤ 1300 + s3.1 ∧ C3 ≤ s3.1 ∧ d + 1 ≤ 8 ∧ p_tp k3 (d + 1) 7 2 ∧ (∀ a, qA k3 686 (d + 1) = nI a → a < 2600 → a < D3) ∧ D + 1 ≤ D3 ∧ p_Kp (d + 1) (D + 1) (p_w1 K P X d s k0) k3 ∧ k3 = p_w2 (d + 1) (p_ro K P X m (d + 1) s2 k2) ∧ s2.2 = 0 := by
          by_cases hz3 : s3.2 = 0
          · obtain ⟨a1, a2, D3, C3, a3, a4, a5, a6, a7, a8⟩ := h3 hz3
            have hz2 := t3.2.1 hz3
            obtain ⟨_, _, _, _, _, _, c7, c8, c9, _⟩ := ex2 hz2
            rw [if_neg (by decide)] at a2
            obtain ⟨b1, b2, b3⟩ := a3.w2 a8 (by decide)
            rw [← a2] at b1 b2 b3
            have KK := c9.trans (a7.trans b2 a4) (by omega)
            refine ⟨D3, C3, fun _ => ⟨a1, b1, a5, a6, by omega, b3, fun a ha ha2 => ?_, by omega, KK, a2, hz2⟩⟩
            have := hT0 a ((KK.1 (d + 1) (Nat.le_refl _)).symm.trans ha) ha2
            omega
          · exact ⟨0, 0, fun h9 => absurd h9 hz3⟩
        obtain ⟨D3, C3, ex3⟩ := ex3
        refine s286_rn ih (d := d) (D := D3) (C := C3) (b := 2) (c := 5) (w := 7) (fun h9 => by have := t2.1; have := t3.1; omega) (fun h9 => ?_) (Or.inr (Or.inr (Or.inr ⟨rfl, rfl, rfl⟩))) Y F3 ?_
        · obtain ⟨a1, a2, a3, a4, a5, a6, a7, _⟩ := ex3 h9
          exact ⟨a1, a2, a3, a4, a5, a6, a7⟩
        intro k4 k x6 Y F4 h4
        have t4 : y_to s3 (y_nd K 5 (y_ro K m (d + 1) s3)) := (tr _ _ y_to.rf).nd
        have ex4 : ∃ D4 C4, (y_nd K 5 (y_ro K m (d + 1) s3)).2 = 0 → x6 = 1 ∧ k4 = p_w3 d (p_ro K P X m (d + 1) s3 k3) ∧ p_PS np D4 C4 (d + 1) (p_ro K P X m (d + 1) s3 k3) ∧ D3 ≤ D4 ∧ D4 ≤ 1300 + (y_nd K 5 (y_ro K m (d + 1) s3)).1 ∧ C4 ≤ (y_nd K 5 (y_ro K m (d + 1) s3)).1 ∧ p_Kp (d + 1) D3 k3 (p_ro K P X m (d + 1) s3 k3) := by
          by_cases hz4 : (y_nd K 5 (y_ro K m (d + 1) s3)).2 = 0
          · obtain ⟨a1, a2, D4, C4, a3, a4, a5, a6, a7, a8⟩ := h4 hz4
            rw [if_pos rfl] at a2
            exact ⟨D4, C4, fun _ => ⟨a1, a2, a3, a4, a5, a6, a7⟩⟩
          · exact ⟨0, 0, fun h9 => absurd h9 hz4⟩
        obtain ⟨D4, C4, ex4⟩ := ex4
        refine fin k4 k x6 D4 C4 (p_ro K P X m (d + 1) s3 k3) Y F4 (fun h9 => ?_)
        obtain ⟨a1, a2, a3, a4, a5, a6, a7⟩ := ex4 h9
        obtain ⟨_, _, _, _, _, _, _, c8, c9, c10, hz2⟩ := ex3 (t4.2.1 h9)
        obtain ⟨_, _, _, _, _, _, _, _, _, b10⟩ := ex2 hz2
        refine ⟨a1, a2, rfl, ?_, a3, by omega, a5, a6, c9.trans a7 (by omega), by have := t2.1; have := t3.1; have := t4.1; omega⟩
        unfold p_rs
        rw [if_pos ht, hs2, hs3, ← b10, ← c10]
      · have y22 : ¬ y_is K 22 s = true := fun h9 => ht (y_is_c.mp h9).2
        have er : y_rs K (y_ro K m (d + 1)) s = y_nd K 5 (y_ro K m (d + 1) (y_w1 K s)) := by
          unfold y_rs y_w1
          rw [if_neg y22]
        rw [er] at fin
        have w7 : ¬ p_wk K s = 7 := by
          unfold p_wk
          rcases (y_wl_c c1).2 with h | h | h
          · rw [if_pos h]; decide
          · rw [if_neg (by omega), if_pos h]; decide
          · exact absurd h ht
        have hp1 : s.1 + 1 ≤ (y_w1 K s).1 := by
          have t1 : y_to (y_ps s) (y_w1 K s) := y_to.rf.nd.ite y_to.rf
          exact y_to.p1 y_to.rf t1 hz
        have hT0 : ∀ a, qA (p_w1 K P X d s k0) 686 (d + 1) = nI a → a < 2600 → a < D + 1 := by
          intro a ha ha2
          have e86 : qA (p_w1 K P X d s k0) 686 (d + 1) = nI D := by
            unfold p_w1
            rw [qA_sAn (by decide), qA_sAn (by decide), qA_sA, if_pos ⟨rfl, rfl⟩, hD1]
          have := (nI_eq (a := a) (b := D) (by omega) (by omega)).mp (ha.symm.trans e86)
          omega
        refine s286_rn ih (d := d) (D := D + 1) (C := C) (b := 0) (c := 5) (w := p_wk K s) (fun _ => by omega) (fun _ => ⟨e3, PS1, by omega, by omega, by omega, T1, hT0⟩) (Or.inl ⟨w7, rfl⟩) Y F1 ?_
        intro k4 k x6 Y F4 h4
        have t4 : y_to (y_w1 K s) (y_nd K 5 (y_ro K m (d + 1) (y_w1 K s))) := (tr _ _ y_to.rf).nd
        have ex4 : ∃ D4 C4, (y_nd K 5 (y_ro K m (d + 1) (y_w1 K s))).2 = 0 → x6 = 1 ∧ k4 = p_w3 d (p_ro K P X m (d + 1) (y_w1 K s) (p_w1 K P X d s k0)) ∧ p_PS np D4 C4 (d + 1) (p_ro K P X m (d + 1) (y_w1 K s) (p_w1 K P X d s k0)) ∧ D + 1 ≤ D4 ∧ D4 ≤ 1300 + (y_nd K 5 (y_ro K m (d + 1) (y_w1 K s))).1 ∧ C4 ≤ (y_nd K 5 (y_ro K m (d + 1) (y_w1 K s))).1 ∧ p_Kp (d + 1) (D + 1) (p_w1 K P X d s k0) (p_ro K P X m (d + 1) (y_w1 K s) (p_w1 K P X d s k0)) := by
          by_cases hz4 : (y_nd K 5 (y_ro K m (d + 1) (y_w1 K s))).2 = 0
          · obtain ⟨a1, a2, D4, C4, a3, a4, a5, a6, a7, a8⟩ := h4 hz4
            rw [if_pos rfl] at a2
            exact ⟨D4, C4, fun _ => ⟨a1, a2, a3, a4, a5, a6, a7⟩⟩
          · exact ⟨0, 0, fun h9 => absurd h9 hz4⟩
        obtain ⟨D4, C4, ex4⟩ := ex4
        refine fin k4 k x6 D4 C4 (p_ro K P X m (d + 1) (y_w1 K s) (p_w1 K P X d s k0)) Y F4 (fun h9 => ?_)
        obtain ⟨a1, a2, a3, a4, a5, a6, a7⟩ := ex4 h9
        refine ⟨a1, a2, rfl, ?_, a3, a4, a5, a6, a7, by have := t4.1; omega⟩
        unfold p_rs
        rw [if_neg ht]
    rw [if_neg c1, if_neg c1] at cont
    by_cases c2 : y_dc K s = true
    · rw [if_pos c2, if_pos c2] at cont
      refine s286_st Y hs e2 (s287_dc (np := np) (d := d) (D := D) (C := C) Y c2 PS.1 hD1 D13 (by omega) PS.2.1.2 (by omega)) ?_
      rintro z k ⟨e3, k1, Y, F1, h1⟩
      obtain ⟨g1, g2, g3⟩ := PS.dc (K := K) (s := s) (by omega)
      have to : y_to (y_ps s) (y_nd K 26 (y_nd K 40 (y_ps s))) := y_to.rf.nd.nd
      have tp : (y_nd K 26 (y_nd K 40 (y_ps s))).2 = 0 → s.1 + 1 ≤ (y_nd K 26 (y_nd K 40 (y_ps s))).1 := fun h9 => y_to.p1 y_to.rf to h9
      refine ih d _ k1 k (D + 1) (C + 1) z (fun h9 => by have := tp h9; omega) (fun h9 => ?_) Y (F.trans F1) (fun k4 k x4 Y F4 h4 => cont k4 k x4 Y F4 (fun h9 => ?_))
      · have := tp h9
        rw [h1 h9]
        exact ⟨e3, g1, by omega, by omega, h8⟩
      · obtain ⟨i1, i2, D4, C4, i3, i4, i5, i6, i7, i8, i9⟩ := h4 h9
        have h10 := (y_to.ro (K := K) m d _ _ (y_to.rf (s := y_nd K 26 (y_nd K 40 (y_ps s))))).2.1 h9
        rw [h1 h10] at i2 i7 i8
        exact ⟨i1, i2, D4, C4, i3, by omega, i5, i6, g2.trans i7 (by omega), i8.trans g3, i9⟩
    rw [if_neg c2, if_neg c2] at cont
    by_cases c3 : y_is K 19 s = true
    · rw [if_pos c3, if_pos c3] at cont
      refine s286_st Y hs e2 (s287_fa (np := np) (d := d) (D := D) Y c3 PS.1 hD1 D13 (by omega)) ?_
      rintro z k ⟨e3, k1, Y, F1, h1⟩
      obtain ⟨g1, g2, g3⟩ := PS.fa (by omega)
      have tp : (y_nd K 26 (y_ps s)).2 = 0 → s.1 + 1 ≤ (y_nd K 26 (y_ps s)).1 := fun h9 => y_to.p1 y_to.rf y_to.rf.nd h9
      refine ih d _ k1 k (D + 1) C z (fun h9 => by have := tp h9; omega) (fun h9 => ?_) Y (F.trans F1) (fun k4 k x4 Y F4 h4 => cont k4 k x4 Y F4 (fun h9 => ?_))
      · have := tp h9
        rw [h1 h9]
        exact ⟨e3, g1, by omega, by omega, h8⟩
      · obtain ⟨i1, i2, D4, C4, i3, i4, i5, i6, i7, i8, i9⟩ := h4 h9
        have h10 := (y_to.ro (K := K) m d _ _ (y_to.rf (s := y_nd K 26 (y_ps s)))).2.1 h9
        rw [h1 h10] at i2 i7 i8
        exact ⟨i1, i2, D4, C4, i3, by omega, i5, i6, g2.trans i7 (by omega), i8.trans g3, i9⟩
    rw [if_neg c3, if_neg c3] at cont
    by_cases c4 : y_is K 17 s = true
    · rw [if_pos c4, if_pos c4] at cont
      refine s286_st Y hs e2 (s287_an (np := np) (d := d) (D := D) (C := C) Y c4 PS.1 PS.2.1 D13 hD hC) ?_
      rintro z k ⟨e3, k1, Y, F1, h1⟩
      have tp : (y_an K s).2 = 0 → s.1 + 1 ≤ (y_an K s).1 := fun h9 => y_to.p1 y_to.rf (y_to.co _ _ _ y_to.rf.nd).nd h9
      by_cases hz : (y_an K s).2 = 0
      · obtain ⟨a1, D2, C2, a2, a3, a4, a5, a6⟩ := h1 hz
        subst a1
        obtain ⟨g1, g2, g3⟩ := PS.an (by omega) a2 a3 a6
        refine ih d _ _ k D2 C2 z (fun h9 => by have := tp h9; omega) (fun h9 => ⟨e3, g1, a4, a5, h8⟩) Y (F.trans F1) (fun k4 k x4 Y F4 h4 => cont k4 k x4 Y F4 (fun h9 => ?_))
        obtain ⟨i1, i2, D4, C4, i3, i4, i5, i6, i7, i8, i9⟩ := h4 h9
        exact ⟨i1, i2, D4, C4, i3, by omega, i5, i6, g2.trans i7 (by omega), i8.trans g3, i9⟩
      · have t1 := y_to.ro (K := K) m d _ _ (y_to.rf (s := y_an K s))
        refine cont k1 k z ?_ (F.trans F1) (fun h9 => absurd (t1.2.1 h9) hz)
        rw [t1.2.2 hz]
        exact Y
    rw [if_neg c4, if_neg c4] at cont
    refine cont k0 k x2 Y F (fun _ => ⟨e2, rfl, D, C, PS, Nat.le_refl D, hD, hC, p_Kp.rf, rfl, ?_⟩)
    intro h
    unfold y_wl at c1
    unfold y_dc at c2
    simp only [Bool.or_eq_true, y_is_c] at c1 c2 c3 c4
    rcases (show K s.1 = 15 ∨ K s.1 = 16 ∨ K s.1 = 17 ∨ K s.1 = 18 ∨ K s.1 = 19 ∨ K s.1 = 20 ∨ K s.1 = 21 ∨ K s.1 = 22 by omega) with h | h | h | h | h | h | h | h
    · exact c2 (Or.inl ⟨hs, h⟩)
    · exact c2 (Or.inr (Or.inl ⟨hs, h⟩))
    · exact c4 ⟨hs, h⟩
    · exact c2 (Or.inr (Or.inr ⟨hs, h⟩))
    · exact c3 ⟨hs, h⟩
    · exact c1 (Or.inl ⟨hs, h⟩)
    · exact c1 (Or.inr (Or.inl ⟨hs, h⟩))
    · exact c1 (Or.inr (Or.inr ⟨hs, h⟩))
end PO
