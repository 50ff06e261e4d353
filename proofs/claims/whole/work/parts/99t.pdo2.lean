/-! THE PARSE OF THE REFERENCE: rows that are opened, gone on with and closed -/
def p_yw (P X : Nat → Nat) (i : Nat) (x : Int32) (k : q_Hp) : q_Hp := if X i ≤ 100 then q_sA k 670 x.toNatClampNeg (nI (X i)) else p_wr P 5 i (q_sA k 670 x.toNatClampNeg (nI (X i)))
def p_wk (K : Nat → Nat) (s : y_S) : Int32 := if K s.1 = 20 then 5 else if K s.1 = 21 then 6 else 7
def p_w0 (K P X : Nat → Nat) (d : Nat) (s : y_S) (k : q_Hp) : q_Hp := if K s.1 = 21 then p_yw P X (s.1 + 1) (qI k 630 23) (p_nD (p_wk K s) (p_op k d s)) else p_nD (p_wk K s) (p_op k d s)
def p_w1 (K P X : Nat → Nat) (d : Nat) (s : y_S) (k : q_Hp) : q_Hp := q_sA (q_sA (q_sA (q_sI (p_co (qI k 630 23) (p_w0 K P X d s k)) 630 80 (nI (d + 1))) 686 (d + 1) (qI k 630 23)) 687 (d + 1) 0) 688 (d + 1) (-1)
/-- the other row of a try -/
def p_w2 (d : Nat) (k : q_Hp) : q_Hp := q_sA (q_sA k 687 d (qA k 687 d + 1)) 688 d (-1)
/-- a row is closed -/
def p_w3 (d : Nat) (k : q_Hp) : q_Hp := q_sI (q_sI k 630 80 (nI d)) 630 12 (nI d)
/-- what an opened row's head reads -/
def y_w1 (K : Nat → Nat) (s : y_S) : y_S := if y_is K 21 s = true then y_nd K 41 (y_ps s) else y_ps s
section PO
variable {K P X : Nat → Nat} {U : Nat → Int64} {e : Nat} {k0 k : q_Hp} {s : y_S}
theorem p_yw_I {i j : Nat} {x : Int32} (h : ¬ j = 15 ∧ ¬ j = 16) : qI (p_yw P X i x k0) 630 j = qI k0 630 j := by
  unfold p_yw
  split
  · rfl
  · rw [p_wr_I h]; rfl
theorem p_yw_A {i a : Nat} {x : Int32} (h : ¬ a = 670) : qA (p_yw P X i x k0) a = qA k0 a := by
  unfold p_yw
  split
  · exact qA_sAn h
  · rw [p_wr_A]; exact qA_sAn h
theorem p_yw_L {i : Nat} {x : Int32} : qL (p_yw P X i x k0) = qL k0 := by
  unfold p_yw
  split
  · rfl
  · rw [p_wr_L]; rfl
theorem p_op_I {o j : Nat} (h : ¬ j = 12) : qI (p_op k0 o s) 630 j = qI k0 630 j := by
  unfold p_op
  split
  · exact q_sI_n (fun h9 => h h9.2)
  · rfl
theorem p_op_A {o : Nat} : qA (p_op k0 o s) = qA k0 := by
  unfold p_op
  split <;> rfl
theorem p_op_L {o : Nat} : qL (p_op k0 o s) = qL k0 := by
  unfold p_op
  split <;> rfl
theorem p_sk.op {np d o : Nat} (H : p_sk k0 np d) : p_sk (p_op k0 o s) np d := H.c (fun j h => p_op_I (by omega)) (fun a h => congrFun p_op_A a)
theorem p_sk.yw {np d i : Nat} {x : Int32} (H : p_sk k0 np d) : p_sk (p_yw P X i x k0) np d := H.c (fun j h => p_yw_I (by omega)) (fun a h => p_yw_A (by omega))
theorem y_wl_c (h : y_wl K s = true) : s.2 = 0 ∧ (K s.1 = 20 ∨ K s.1 = 21 ∨ K s.1 = 22) := by
  unfold y_wl at h
  simp only [Bool.or_eq_true, y_is_c] at h
  rcases h with h | h | h
  · exact ⟨h.1, Or.inl h.2⟩
  · exact ⟨h.1, Or.inr (Or.inl h.2)⟩
  · exact ⟨h.1, Or.inr (Or.inr h.2)⟩
theorem s287_wl {np d D : Nat} (Y : p_y K P X U e k0 k s) (hc : y_wl K s = true) (H : p_sk k0 np d) (h8 : d ≤ 8) (h12 : qI k0 630 12 = nI d) (hD : qI k0 630 23 = nI D) (h13 : 1300 ≤ D) (h26 : D < 2600) : q_mI 4 287 [.ref 630] k (fun z k' => ∃ k1, p_y K P X U e k1 k' (y_w1 K (y_rm (decide (d < 8)) s)) ∧ p_fr k0 k1 ∧ ((y_w1 K (y_rm (decide (d < 8)) s)).2 = 0 → z = 1 ∧ k1 = p_w1 K P X d s k0)) := by
  refine q_mI.of (q_recV rfl (Y.sh.ok rfl)) (fun Q fin => ?_)
  obtain ⟨hs, hK⟩ := y_wl_c hc
  refine s287_in Y hs ?_
  have cD : (nI D : Int32).toNatClampNeg = D := nI_clamp (by omega)
  have g270 : q_wp 4 287 270 [some (.ref 630), none, none, none, none] [] k Q := by
    refine b287_270 (s254 (o := d) Y (fun _ => h12) h8) (by decide) ?_
    intro k Y
    have hz : (y_rm (decide (d < 8)) s).2 = 0 → y_rm (decide (d < 8)) s = s ∧ d < 8 := fun h => ⟨(y_rm_0 h).1, of_decide_eq_true (y_rm_0 h).2⟩
    have hk : (y_rm (decide (d < 8)) s).2 = 0 → K (y_rm (decide (d < 8)) s).1 < 42 := fun h => by rw [(hz h).1]; omega
    generalize hs1 : y_rm (decide (d < 8)) s = s1 at *
    have H0 : p_sk (p_op k0 d s) np d := H.op
    have F0 : p_fr k0 (p_op k0 d s) := p_fr.rf.op
    have D0 : qI (p_op k0 d s) 630 23 = nI D := (p_op_I (by decide)).trans hD
    have ew : ∀ c, s1.2 = 0 → (y_is K c s1 = true ↔ K s.1 = c) := fun c h => by
      rw [y_is_c, (hz h).1]
      exact ⟨fun h9 => h9.2, fun h9 => ⟨hs, h9⟩⟩
    have g304 : ∀ w, (s1.2 = 0 → w = p_wk K s) → q_wp 4 287 304 [some (.ref 630), none, none, none, none] [.int w, .ref 630] k Q := by
      intro w hw
      refine b287_304 (s283 (D := D) Y D0 h26) (by decide) ?_
      rintro z k ⟨rfl, Y⟩
      have H1 := H0.nD (w := w)
      have F1 : p_fr k0 (p_nD w (p_op k0 d s)) := F0.nD D0 h26 h13
      generalize hk1 : p_nD w (p_op k0 d s) = k1 at *
      have g380 : ∀ k2 k l3, p_y K P X U e k2 k (y_w1 K s1) → p_fr k0 k2 → p_sk k2 np d → ((y_w1 K s1).2 = 0 → k2 = p_w0 K P X d s k0) → ∀ x2, q_wp 4 287 371 [some (.ref 630), some (.int (nI D)), some (.int x2), l3, none] [] k Q := by
        intro k2 k l3 Y F2 H2 h2 x2
        refine b287_371 (Y.sh.ok rfl) (fun z => ?_) (fun z => b287_378 (fin _ _ ⟨k2, Y, F2, fun h9 => absurd (Y.z1.mpr h9) z⟩))
        have c0 := Y.z1.mp z
        have ts : y_to s1 (y_w1 K s1) := y_to.rf.ps.nd.ite y_to.rf.ps
        obtain ⟨e1, d8⟩ := hz (ts.2.1 c0)
        refine b287_380 (s284 (x := nI D) Y H2) (by decide) ?_
        intro k Y
        have e80 : qI k 630 80 = nI d := by
          rw [Y.I rfl]
          unfold p_co p_co1
          rw [qI_sA, ← H2.1]
          split
          · split <;> rfl
          · rfl
        have ee : qI (q_sI k 630 80 (qI k 630 80 + 1)) 630 80 = nI (d + 1) := by rw [q_sI_e, e80, nI_1]
        have i10 : ∀ {x}, (decide (x ≤ 712) && (q_kd0 x).2 == 10) = true → q_in (nI (d + 1)) (qK k x).2 := fun h => Y.sh.inN (n := 10) h (by omega) (by decide)
        refine b287_385 (v0 := 686) (v1 := 687) (v2 := 688) (Y.sh.ok rfl) (Y.sh.ref rfl) (Y.sh.ok rfl) (by rw [ee]; exact i10 rfl) (Y.sh.ref rfl) (Y.sh.ok rfl) (by rw [ee]; exact i10 rfl) (Y.sh.ref rfl) (Y.sh.ok rfl) (by rw [ee]; exact i10 rfl) (fin _ _ ⟨p_w1 K P X d s k0, ?_, ?_, fun _ => ⟨rfl, rfl⟩⟩)
        · rw [ee, nI_clamp (by omega), e80, nI_1]
          unfold p_w1
          rw [← h2 c0, hD]
          exact (((Y.sI rfl).sA rfl).sA rfl).sA rfl
        · unfold p_w1
          rw [← h2 c0, hD]
          exact ((((F2.co H2).sI rfl).sA rfl (Nat.zero_le _)).sA rfl (Nat.zero_le _)).sA rfl (Nat.zero_le _)
      have e0w : s1.2 = 0 → k1 = p_nD (p_wk K s) (p_op k0 d s) := fun h => by rw [← hk1, hw h]
      refine b287_307 (s249 (c := 21) Y (by decide) rfl) (by decide) ?_
      rintro z h2 ⟨e0, rfl⟩
      subst h2
      refine b287_314 (s252 Y hk) (by decide) ?_
      intro k Y
      have hx := Y.t0
      refine b287_319 (fun c => g380 k1 k none ?_ F1 H1 ?_ _) (fun c => b287_323 (Y.sh.ok rfl) (s253 (c := 41) Y (by decide) rfl) (by decide) ?_)
      · unfold y_w1
        rw [b2i_eq.mp c, if_neg (by decide)]
        exact Y
      · unfold y_w1
        rw [b2i_eq.mp c, if_neg (by decide)]
        intro h9
        have z1 := (y_ps_0 h9).1
        unfold p_w0
        rw [if_neg (fun h8 => by have := b2i_eq.mp c; rw [(ew 21 z1).mpr h8] at this; cases this)]
        exact e0w z1
      generalize qI k 630 11 = x3 at hx ⊢
      intro k Y
      have yc := b2i_ne.mp c
      have es : y_w1 K s1 = y_nd K 41 (y_ps s1) := by
        unfold y_w1
        rw [if_pos yc]
      obtain ⟨z1, _⟩ := y_is_c.mp yc
      have k21 := (ew 21 z1).mp yc
      rw [← es] at Y
      refine b287_333 (Y.sh.ok rfl) (fun z => ?_) (fun z => b287_340 (fin _ _ ⟨k1, Y, F1, fun h9 => absurd (Y.z1.mpr h9) z⟩))
      have c0 := Y.z1.mp z
      rw [es] at c0
      obtain ⟨b1, b2⟩ := y_nd_0 c0
      obtain ⟨b3, b4⟩ := y_is_c.mp b1
      obtain ⟨_, p1⟩ := y_ps_0 b3
      rw [(hz z1).1] at p1
      have x3e : x3 = nI (s.1 + 1) := (hx b3).trans (by rw [(hz z1).1, p1])
      have b4 : K (s.1 + 1) = 41 := by rw [(hz z1).1, p1] at b4; exact b4
      have le := Y.le
      rw [es, b2, (hz z1).1, p1] at le
      have le : s.1 + 1 + 1 ≤ e := le
      have e12 := Y.e12
      subst x3e
      obtain ⟨_, xv⟩ := (Y.tk (show s.1 + 1 ≤ e by omega)).2.2.2.2.1 b4
      have ev : ∀ {k k1 s'}, p_y K P X U e k1 k s' → qA k 635 ((nI (s.1 + 1) : Int32).toNatClampNeg) = nI (X (s.1 + 1)) := fun Y => by rw [nI_clamp (by omega)]; exact ((Y.tk (show s.1 + 1 ≤ e by omega)).2.2.2.2.1 b4).1
      have Y1 := Y.sA (a := 670) (i := D) (v := nI (X (s.1 + 1))) rfl
      have F2 : p_fr k0 (q_sA k1 670 D (nI (X (s.1 + 1)))) := F1.sA rfl h13
      have e2 : p_w0 K P X d s k0 = p_yw P X (s.1 + 1) (nI D) k1 := by
        unfold p_w0
        rw [if_pos k21, hD, e0w z1]
      have H2 : p_sk (p_yw P X (s.1 + 1) (nI D) k1) np d := H1.yw
      unfold p_yw at e2 H2
      rw [cD] at e2 H2
      refine b287_342 (v0 := 670) (v1 := 635) (Y.sh.ok rfl) (Y.sh.ref rfl) (Y.sh.ref rfl) (Y.sh.ok rfl) (Y.sh.inN (n := 1203) rfl (by omega) (by decide)) (Y.sh.ok rfl) (Y.sh.inN (n := 2600) rfl h26 (by decide)) (fun c2 => ?_) (fun c2 => ?_)
      · rw [cD, ev Y] at c2 ⊢
        rw [ev Y1] at c2
        have c3 := (nI_leI (b := 100) xv (by decide)).mp c2
        rw [if_pos c3] at e2 H2
        exact g380 _ _ _ Y1 F2 H2 (fun _ => e2.symm) _
      · rw [cD, ev Y] at c2 ⊢
        rw [ev Y1] at c2
        have c3 : ¬ X (s.1 + 1) ≤ 100 := fun h9 => c2 ((nI_leI (b := 100) xv (by decide)).mpr h9)
        rw [if_neg c3] at e2 H2
        refine b287_365 (s251 (n := 5) Y1 (show s.1 + 1 ≤ e by omega) (by rw [es]; exact c0) rfl rfl) (by decide) (fun k Y => g380 _ _ _ Y F2.wr H2 (fun _ => e2.symm) _)
    refine b287_274 (s249 (c := 20) Y (by decide) rfl) (by decide) ?_
    rintro z h2 ⟨e0, rfl⟩
    subst h2
    refine b287_281 (fun c => b287_288 (s249 (c := 21) Y (by decide) rfl) (by decide) ?_) (fun c => b287_284 (g304 _ (fun h => ?_)))
    · rintro z h2 ⟨e0, rfl⟩
      subst h2
      refine b287_294 (fun c2 => b287_302 (g304 _ (fun h => ?_))) (fun c2 => b287_297 (g304 _ (fun h => ?_)))
      · unfold p_wk
        rw [if_neg (fun h8 => by have := b2i_eq.mp c; rw [(ew 20 h).mpr h8] at this; cases this), if_neg (fun h8 => by have := b2i_eq.mp c2; rw [(ew 21 h).mpr h8] at this; cases this)]
      · unfold p_wk
        rw [if_neg (fun h8 => by have := b2i_eq.mp c; rw [(ew 20 h).mpr h8] at this; cases this), if_pos ((ew 21 h).mp (b2i_ne.mp c2))]
    · unfold p_wk
      rw [if_pos ((ew 20 h).mp (b2i_ne.mp c))]
  rcases hK with h | h | h
  · rw [h]
    exact s287_20 (a := 40) (by simp) g270
  · rw [h]
    exact s287_20 (a := 41) (by simp) g270
  · rw [h]
    exact s287_20 (a := 42) (by simp) g270
/-- the frame at hand: a do of this kind, this row of it -/
def p_tp (k : q_Hp) (d : Nat) (w : Int32) (b : Nat) : Prop := ∃ a, 1300 ≤ a ∧ a < 2600 ∧ qA k 686 d = nI a ∧ qA k 669 a = w ∧ qA k 687 d = nI b ∧ b < 3
/-- then, else -/
theorem s287_te {np d b c : Nat} {w : Int32} (Y : p_y K P X U e k0 k s) (hs : s.2 = 0) (hc : c = 23 ∨ c = 24) (hK : K s.1 = c) (H : p_sk k0 np d) (T : 0 < d → p_tp k0 d w b) : q_mI 4 287 [.ref 630] k (fun z k' => (0 < d ∧ w = 7 ∧ b + 23 = c → z = 1 ∧ p_y K P X U e (p_w2 d k0) k' (y_ps s)) ∧ (¬ (0 < d ∧ w = 7 ∧ b + 23 = c) → z = 0 ∧ p_y K P X U e k0 k' (y_fl 1 s))) := by
  refine q_mI.of (q_recV rfl (Y.sh.ok rfl)) (fun Q fin => ?_)
  refine s287_in Y hs ?_
  have e80 : qI k 630 80 = nI d := (Y.I rfl).trans H.1
  have d9 := H.2.1
  have cd : (nI d : Int32).toNatClampNeg = d := nI_clamp (by omega)
  have i10 : ∀ {x}, (decide (x ≤ 712) && (q_kd0 x).2 == 10) = true → q_in (qI k 630 80) (qK k x).2 := fun h => by rw [e80]; exact Y.sh.inN (n := 10) h (by omega) (by decide)
  have bad : ¬ (0 < d ∧ w = 7 ∧ b + 23 = c) → ∀ x, q_wp 4 287 481 [some (.ref 630), some (.int x), none, none, none] [] k Q := by
    intro h x
    refine b287_481 (s250 (f := 1) Y (by decide) (by decide) rfl) (by decide) (fun k Y => b287_486 (fin _ _ ⟨fun h9 => absurd h9 h, fun _ => ⟨rfl, Y⟩⟩))
  have g441 : ∀ x, x = nI (c - 23) → q_wp 4 287 441 [some (.ref 630), none, none, none, none] [.int x] k Q := by
    rintro x rfl
    refine b287_441 (Y.sh.ok rfl) (fun c2 => bad (fun h9 => ?_) _) (fun c2 => ?_)
    · rw [e80] at c2
      have := (nI_eq (b := 0) (by omega) (by decide)).mp c2
      omega
    have d0 : 0 < d := by
      rcases Nat.eq_zero_or_pos d with h | h
      · exact absurd (by rw [e80, h]; rfl) c2
      · exact h
    obtain ⟨a, ha, ha2, t1, t2, t3, t4⟩ := T d0
    have q1 : qA k 686 ((qI k 630 80 : Int32).toNatClampNeg) = nI a := by rw [e80, cd, Y.A (by decide)]; exact t1
    have q2 : qA k 669 ((nI a : Int32).toNatClampNeg) = w := by rw [nI_clamp (by omega), Y.A (by decide)]; exact t2
    have q3 : qA k 687 ((qI k 630 80 : Int32).toNatClampNeg) = nI b := by rw [e80, cd, Y.A (by decide)]; exact t3
    refine b287_449 (v0 := 669) (v1 := 686) (Y.sh.ok rfl) (Y.sh.ref rfl) (Y.sh.ref rfl) (Y.sh.ok rfl) (i10 rfl) (Y.sh.ok rfl) (by rw [q1]; exact Y.sh.inN (n := 2600) rfl ha2 (by decide)) (fun c3 => bad (fun h9 => ?_) _) (fun c3 => b287_468 (v0 := 687) (Y.sh.ok rfl) (Y.sh.ref rfl) (Y.sh.ok rfl) (i10 rfl) (fun c4 => ?_) (fun c4 => bad (fun h9 => ?_) _))
    · rw [q1, q2] at c3
      exact c3 h9.2.1
    · rw [q1, q2] at c3
      rw [q3] at c4
      have c5 := (nI_eq (by omega) (by omega)).mp c4
      have yes : 0 < d ∧ w = 7 ∧ b + 23 = c := ⟨d0, c3, by omega⟩
      refine b287_488 (s252 Y (fun _ => by omega)) (by decide) ?_
      intro k Y
      have e80 : qI k 630 80 = nI d := (Y.I rfl).trans H.1
      have i10 : ∀ {x}, (decide (x ≤ 712) && (q_kd0 x).2 == 10) = true → q_in (qI k 630 80) (qK k x).2 := fun h => by rw [e80]; exact Y.sh.inN (n := 10) h (by omega) (by decide)
      refine b287_492 (v0 := 687) (v1 := 688) (Y.sh.ok rfl) (Y.sh.ref rfl) (Y.sh.ok rfl) (i10 rfl) (Y.sh.ref rfl) (Y.sh.ok rfl) (i10 rfl) (fin _ _ ⟨fun _ => ⟨rfl, ?_⟩, fun h9 => absurd yes h9⟩)
      rw [e80, cd, Y.A (a := 687) (by decide)]
      exact (Y.sA rfl).sA rfl
    · rw [q3] at c4
      exact c4 (by rw [show c - 23 = b by omega])
  have g427 : q_wp 4 287 427 [some (.ref 630), none, none, none, none] [] k Q := by
    refine b287_427 (s249 (c := 23) Y (by decide) rfl) (by decide) ?_
    rintro z h2 ⟨e0, rfl⟩
    subst h2
    refine b287_433 (fun c2 => b287_440 (g441 1 ?_)) (fun c2 => b287_436 (g441 0 ?_))
    · have : ¬ c = 23 := fun h9 => by
        have := b2i_eq.mp c2
        rw [y_is_c.mpr ⟨hs, hK.trans h9⟩] at this
        cases this
      rw [show c = 24 by omega]
      rfl
    · have := (y_is_c.mp (b2i_ne.mp c2)).2
      rw [show c = 23 by omega]
      rfl
  rcases hc with h | h
  · rw [hK, h]
    exact s287_20 (a := 43) (by simp) g427
  · rw [hK, h]
    exact s287_20 (a := 44) (by simp) g427
/-- end -/
theorem s287_en {np d b : Nat} {w : Int32} (Y : p_y K P X U e k0 k s) (hs : s.2 = 0) (hK : K s.1 = 5) (H : p_sk k0 np d) (h12 : qI k0 630 12 = nI d) (T : 0 < d → p_tp k0 d w b) : q_mI 4 287 [.ref 630] k (fun z k' => (d = 0 → z = 0 ∧ p_y K P X U e k0 k' (y_ps s)) ∧ (0 < d → (w = 7 → 2 ≤ b) → z = 1 ∧ p_y K P X U e (p_w3 (d - 1) k0) k' (y_ps s)) ∧ (0 < d → w = 7 → b < 2 → z = 0 ∧ p_y K P X U e k0 k' (y_fl 1 s))) := by
  refine q_mI.of (q_recV rfl (Y.sh.ok rfl)) (fun Q fin => ?_)
  refine s287_in Y hs ?_
  rw [hK]
  refine s287_20 (a := 29) (b := 517) (by simp) ?_
  have e80 : qI k 630 80 = nI d := (Y.I rfl).trans H.1
  have d9 := H.2.1
  have cd : (nI d : Int32).toNatClampNeg = d := nI_clamp (by omega)
  have i10 : ∀ {x}, (decide (x ≤ 712) && (q_kd0 x).2 == 10) = true → q_in (qI k 630 80) (qK k x).2 := fun h => by rw [e80]; exact Y.sh.inN (n := 10) h (by omega) (by decide)
  have good : (0 < d → w = 7 → 2 ≤ b) → q_wp 4 287 563 [some (.ref 630), none, none, none, none] [] k Q := by
    intro h
    refine b287_563 (s252 Y (fun _ => by omega)) (by decide) ?_
    intro k Y
    have e80 : qI k 630 80 = nI d := (Y.I rfl).trans H.1
    have e12 : qI k 630 12 = nI d := (Y.I rfl).trans h12
    refine b287_567 (Y.sh.ok rfl) (fun c => ?_) (fun c => b287_574 (fin _ _ ⟨fun _ => ⟨rfl, Y⟩, fun h9 => ?_, fun h9 => ?_⟩))
    · rw [e80] at c
      have d0 : ¬ d = 0 := fun h9 => c (by rw [h9]; rfl)
      obtain ⟨d1, rfl⟩ : ∃ j, d = j + 1 := ⟨d - 1, by omega⟩
      refine b287_576 (Y.sh.ok rfl) (fin _ _ ⟨fun h9 => absurd h9 d0, fun _ _ => ⟨rfl, ?_⟩, fun h9 h8 h7 => by have := h h9 h8; omega⟩)
      have e1 : qI (q_sI k 630 80 (nI d1)) 630 12 = nI (d1 + 1) := by rw [q_sI_n (by omega)]; exact e12
      rw [e80, nI_pred, e1, nI_pred]
      exact (Y.sI rfl).sI rfl
    · rw [e80] at c
      have := (nI_eq (b := 0) (by omega) (by decide)).mp c
      omega
    · rw [e80] at c
      have := (nI_eq (b := 0) (by omega) (by decide)).mp c
      omega
  refine b287_517 (Y.sh.ok rfl) (fun c => good ?_) (fun c => ?_)
  · rw [e80] at c
    have := (nI_leI (b := 0) (by omega) (by decide)).mp c
    intro h9
    omega
  have d0 : 0 < d := by
    rcases Nat.eq_zero_or_pos d with h | h
    · exact absurd (by rw [e80, h]; exact Int32.le_refl _) c
    · exact h
  obtain ⟨a, ha, ha2, t1, t2, t3, t4⟩ := T d0
  have q1 : qA k 686 ((qI k 630 80 : Int32).toNatClampNeg) = nI a := by rw [e80, cd, Y.A (by decide)]; exact t1
  have q2 : qA k 669 ((nI a : Int32).toNatClampNeg) = w := by rw [nI_clamp (by omega), Y.A (by decide)]; exact t2
  have q3 : qA k 687 ((qI k 630 80 : Int32).toNatClampNeg) = nI b := by rw [e80, cd, Y.A (by decide)]; exact t3
  refine b287_524 (v0 := 669) (v1 := 686) (Y.sh.ok rfl) (Y.sh.ref rfl) (Y.sh.ref rfl) (Y.sh.ok rfl) (i10 rfl) (Y.sh.ok rfl) (by rw [q1]; exact Y.sh.inN (n := 2600) rfl ha2 (by decide)) (fun c3 => good (fun _ h9 => ?_)) (fun c3 => b287_543 (v0 := 687) (Y.sh.ok rfl) (Y.sh.ref rfl) (Y.sh.ok rfl) (i10 rfl) (fun c4 => good (fun _ _ => ?_)) (fun c4 => b287_556 (s250 (f := 1) Y (by decide) (by decide) rfl) (by decide) (fun k Y => b287_561 (fin _ _ ⟨fun h9 => ?_, fun h9 h8 => ?_, fun _ _ _ => ⟨rfl, Y⟩⟩))))
  · rw [q1, q2] at c3
    exact absurd h9 c3
  · rw [q3] at c4
    exact (nI_leI (a := 2) (by decide) (by omega)).mp c4
  · omega
  · rw [q1, q2] at c3
    rw [q3] at c4
    exact absurd ((nI_leI (a := 2) (by decide) (by omega)).mpr (h8 c3)) c4
/-- anything else -/
theorem s287_no (Y : p_y K P X U e k0 k s) (hs : s.2 = 0) (hK : ¬ K s.1 = 5 ∧ ¬ (15 ≤ K s.1 ∧ K s.1 ≤ 24)) : q_mI 4 287 [.ref 630] k (fun z k' => z = 0 ∧ p_y K P X U e k0 k' (y_fl 1 s)) := by
  refine q_mI.of (q_recV rfl (Y.sh.ok rfl)) (fun Q fin => ?_)
  refine s287_in Y hs ?_
  have g598 : q_wp 4 287 598 [some (.ref 630), none, none, none, none] [] k Q := b287_598 (s250 (f := 1) Y (by decide) (by decide) rfl) (by decide) (fun k Y => b287_603 (fin _ _ ⟨rfl, Y⟩))
  have k43 := (Y.tk Y.le).1
  have hp : ∀ j, j ≤ 43 → t_ph j ∈ [29, 35, 36, 37, 38, 39, 40, 41, 42, 43, 44] → j = 5 ∨ (15 ≤ j ∧ j ≤ 24) := by decide +kernel
  have h : ∀ b, b ∈ [29, 35, 36, 37, 38, 39, 40, 41, 42, 43, 44] → ¬ t_ph (K s.1) = b := by
    intro b hb h9
    have := hp _ k43 (by rw [h9]; exact hb)
    omega
  have p44 := t_ph_44 _ k43
  have no : ∀ {x : Int32} (b : Nat), x = nI b → b < 100 → nI (t_ph (K s.1)) = x → ¬ t_ph (K s.1) = b → False := fun b hx hb h1 h2 => h2 ((nI_eq (by omega) (by omega)).mp (h1.trans hx))
  refine b287_20 (fun c => (no 29 rfl (by decide) c (h _ (by simp))).elim) (fun _ => g598) (fun _ => g598) (fun _ => g598) (fun _ => g598) (fun _ => g598) (fun c => (no 35 rfl (by decide) c (h _ (by simp))).elim) (fun c => (no 36 rfl (by decide) c (h _ (by simp))).elim) (fun c => (no 37 rfl (by decide) c (h _ (by simp))).elim) (fun c => (no 38 rfl (by decide) c (h _ (by simp))).elim) (fun c => (no 39 rfl (by decide) c (h _ (by simp))).elim) (fun c => (no 40 rfl (by decide) c (h _ (by simp))).elim) (fun c => (no 41 rfl (by decide) c (h _ (by simp))).elim) (fun c => (no 42 rfl (by decide) c (h _ (by simp))).elim) (fun c => (no 43 rfl (by decide) c (h _ (by simp))).elim) (fun c => (no 44 rfl (by decide) c (h _ (by simp))).elim) (fun _ => g598)
end PO
