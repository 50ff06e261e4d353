/-! THE PARSE OF THE REFERENCE: all that a rule does, and a rule -/
def p_n (c j : Nat) (k : q_Hp) : Nat := if c = 0 then 0 else (qI k 630 j : Int32).toNatClampNeg
def p_dss (K P X : Nat → Nat) (U : Nat → Int64) (nt ns r l : Nat) : Nat → Nat → y_S → q_Hp → q_Hp
  | 0, _, _, k => k
  | m + 1, c, s, k => if y_dw K s = true then p_dss K P X U nt ns r l m (c + 1) (y_d1 K (y_rm (decide (c < 8)) s)) (p_ds K P X U nt ns r c l (p_n c 77 k) (p_n c 75 k) (p_n 1 68 k) s k) else k
def p_Ld (nt ns r l c nw jn L d : Nat) (s : y_S) (k : q_Hp) : Prop := p_W nt ns L d k ∧ qA k 642 (20 + r) = nI l ∧ qA k 659 (20 + r) = nI c ∧ c ≤ 8 ∧ l ≤ 6 ∧ (¬ c = 0 → qI k 630 77 = nI nw) ∧ (c = 0 → nw = 0) ∧ nw ≤ c ∧ (¬ c = 0 → qI k 630 75 = nI jn) ∧ (c = 0 → jn = 0) ∧ jn ≤ 2 * c ∧ L ≤ 10 + nw ∧ d ≤ s.1
section PR
variable {K P X : Nat → Nat} {U : Nat → Int64} {e : Nat} {k0 k : q_Hp} {s : y_S}
theorem p_n_e {c j n : Nat} (h : ¬ c = 0 → qI k0 630 j = nI n) (h0 : c = 0 → n = 0) (hn : n < 2 ^ 31) : p_n c j k0 = n := by
  unfold p_n
  by_cases hc : c = 0
  · rw [if_pos hc, h0 hc]
  · rw [if_neg hc, h hc, nI_clamp hn]
/-- what a rule does keeps what is needed, with other numbers -/
theorem p_dd1_W {nt ns r q l nw jn L d : Nat} (W : p_W nt ns L d k0) (ht12 : nt ≤ 12) (h77 : qI k0 630 77 = nI nw) (h75 : qI k0 630 75 = nI jn) (hK : K s.1 = 11 ∨ K s.1 = 12 ∨ K s.1 = 13 ∨ K s.1 = 14) {L' d' : Nat} (J : p_J L' d' (p_dd1 K P X U nt ns r q l nw jn L s k0)) (hL : L' < 1000 ∧ L < 1000) : ∃ nw' jn', nw' ≤ nw + 1 ∧ jn' ≤ jn + 2 ∧ L' + nw = L + nw' ∧ p_W nt ns L' d' (p_dd1 K P X U nt ns r q l nw jn L s k0) ∧ qI (p_dd1 K P X U nt ns r q l nw jn L s k0) 630 77 = nI nw' ∧ qI (p_dd1 K P X U nt ns r q l nw jn L s k0) 630 75 = nI jn' ∧ qA (p_dd1 K P X U nt ns r q l nw jn L s k0) 642 = qA k0 642 ∧ qA (p_dd1 K P X U nt ns r q l nw jn L s k0) 659 = qA k0 659 := by
  have uq : ∀ {a b : Nat}, a < 2000 → b < 2000 → nI a = nI b → a = b := fun ha hb h => (nI_eq (by omega) (by omega)).mp h
  obtain ⟨w1, w2, w3, w4, w5⟩ := W
  unfold p_dd1 at J ⊢
  rcases hK with hK | hK | hK | hK
  · rw [if_pos hK] at J ⊢
    have e1 : L' = L := uq (by omega) (by omega) (J.2.2.symm.trans ((p_de_I (by decide)).trans w5.2.2))
    subst e1
    refine ⟨nw, jn, by omega, by omega, rfl, ⟨(p_de_I (by decide)).trans w1, (p_de_I (by decide)).trans w2, ?_, w4.c (p_de_A (by decide)) (p_de_A (by decide)) (p_de_A (by decide)), J⟩, (p_de_I (by decide)).trans h77, (p_de_I (by decide)).trans h75, p_de_A (by decide), p_de_A (by decide)⟩
    rw [p_de_A (by decide)]
    exact w3
  · rw [if_neg (by omega), if_pos hK] at J ⊢
    have I2 : ∀ {j}, ¬ j = 15 ∧ ¬ j = 16 ∧ ¬ j = 68 → ¬ j = 77 → qI (p_nw P U nt q nw L s k0) 630 j = qI k0 630 j := by
      intro j h h2
      unfold p_nw
      rw [q_sI_n (fun h9 => h2 h9.2), qI_sA, qI_sA, qI_sA, p_tl_I h, p_fw_I ⟨h.1, h.2.1⟩]
    have A2 : ∀ {x}, ¬ x = 660 ∧ ¬ x = 661 ∧ ¬ x = 662 → qA (p_nw P U nt q nw L s k0) x = qA (p_tl P U (s.1 + 1) L 2 (nI nw) (q_on (p_fi (qL k0 674) nt (U (s.1 + 3)))) (p_fw P (s.1 + 3) (p_fi (qL k0 674) nt (U (s.1 + 3))) k0)) x := by
      intro x h
      unfold p_nw
      rw [qA_sI, qA_sAn h.2.2, qA_sAn h.2.1, qA_sAn h.1]
    have e1 : L' = L + 1 := by
      refine uq (by omega) (by omega) (J.2.2.symm.trans ?_)
      unfold p_nw
      rw [q_sI_n (by omega), qI_sA, qI_sA, qI_sA, p_tl_68]
    subst e1
    refine ⟨nw + 1, jn, by omega, by omega, by omega, ⟨(I2 (by decide) (by decide)).trans w1, (I2 (by decide) (by decide)).trans w2, ?_, ?_, J⟩, q_sI_e, (I2 (by decide) (by decide)).trans h75, (A2 (by decide)).trans ((p_tl_A (by decide)).trans (congrFun p_fw_A _)), (A2 (by decide)).trans ((p_tl_A (by decide)).trans (congrFun p_fw_A _))⟩
    · rw [A2 (by decide), p_tl_A (by decide), p_fw_A]
      exact w3
    · have : p_V nt L (p_fw P (s.1 + 3) (p_fi (qL k0 674) nt (U (s.1 + 3))) k0) := w4.c (by rw [p_fw_A]) (by rw [p_fw_A]) (by rw [p_fw_A])
      exact (p_V.tl (P := P) (U := U) (i := s.1 + 1) (kd := 2) (b := nI nw) this (q_on_rg (by omega)) (fun h => absurd h (by decide))).c (A2 (by decide)) (A2 (by decide)) (A2 (by decide))
  · rw [if_neg (by omega), if_neg (by omega), if_pos hK] at J ⊢
    have e1 : L' = L := uq (by omega) (by omega) (J.2.2.symm.trans ((p_jo_I (by decide)).trans w5.2.2))
    subst e1
    obtain ⟨jn', hj, ej⟩ := p_jo_75 (P := P) (U := U) (nt := nt) (ns := ns) (q := q) (L := L') (i1 := s.1 + 1) (i2 := s.1 + 3) (i3 := s.1 + 5) h75
    refine ⟨nw, jn', by omega, hj, rfl, ⟨(p_jo_I (by decide)).trans w1, (p_jo_I (by decide)).trans w2, ?_, w4.c (p_jo_A (by decide)) (p_jo_A (by decide)) (p_jo_A (by decide)), J⟩, (p_jo_I (by decide)).trans h77, ej, p_jo_A (by decide), p_jo_A (by decide)⟩
    rw [p_jo_A (by decide)]
    exact w3
  · rw [if_neg (by omega), if_neg (by omega), if_neg (by omega)] at J ⊢
    have I2 : ∀ {j}, ¬ j = 12 ∧ ¬ j = 15 ∧ ¬ j = 16 ∧ ¬ j = 22 ∧ ¬ j = 78 → qI (p_se2 K P X U q L s k0) 630 j = qI k0 630 j := fun h => (p_ex_I h).trans ((p_xw_I ⟨h.2.1, h.2.2.1⟩).trans (p_fw_I ⟨h.2.1, h.2.2.1⟩))
    have A2 : ∀ {x}, (¬ x = 666 ∧ ¬ x = 667 ∧ ¬ x = 668 ∧ ¬ x = 685) → ¬ x = 660 ∧ ¬ x = 661 ∧ ¬ x = 662 → qA (p_se2 K P X U q L s k0) x = qA k0 x := by
      intro x h h2
      unfold p_se2 p_se1
      rw [p_ex_A h, qA_sAn h2.2.2, qA_sAn h2.2.1, qA_sAn h2.1, p_xw_A, p_fw_A]
    have e1 : L' = L := uq (by omega) (by omega) (J.2.2.symm.trans ((I2 (by decide)).trans w5.2.2))
    subst e1
    refine ⟨nw, jn, by omega, by omega, rfl, ⟨(I2 (by decide)).trans w1, (I2 (by decide)).trans w2, ?_, w4.c (A2 (by decide) (by decide)) (A2 (by decide) (by decide)) (A2 (by decide) (by decide)), J⟩, (I2 (by decide)).trans h77, (I2 (by decide)).trans h75, A2 (by decide) (by decide), A2 (by decide) (by decide)⟩
    rw [A2 (by decide) (by decide)]
    exact w3
theorem p_Ld.ds {nt ns r l c nw jn L d L' d' : Nat} {s' : y_S} (H : p_Ld nt ns r l c nw jn L d s k0) (ht12 : nt ≤ 12) (h : c < 8) (hK : K s.1 = 11 ∨ K s.1 = 12 ∨ K s.1 = 13 ∨ K s.1 = 14) (J : p_J L' d' (p_ds K P X U nt ns r c l nw jn L s k0)) (hs : d' ≤ s'.1) (hL' : L' < 1000) : ∃ nw' jn', p_Ld nt ns r l (c + 1) nw' jn' L' d' s' (p_ds K P X U nt ns r c l nw jn L s k0) := by
  obtain ⟨⟨w1, w2, w3, w4, w5⟩, h1, h2, h3, h4, h5, h6, h7, h8, h9, h10, h11, h12⟩ := H
  have Ad : ∀ {x}, ¬ x = 683 → ¬ x = 661 ∧ ¬ x = 662 ∧ ¬ x = 663 ∧ ¬ x = 664 → qA (p_d1 (8 * (20 + r) + c) (p_d0 c k0)) x = qA k0 x := fun h h2 => (p_d1_A h2).trans (p_d0_A h)
  have Id : ∀ {j}, ¬ j = 75 ∧ ¬ j = 77 → qI (p_d1 (8 * (20 + r) + c) (p_d0 c k0)) 630 j = qI k0 630 j := fun h => p_d0_I h
  have W1 : p_W nt ns L d (p_d1 (8 * (20 + r) + c) (p_d0 c k0)) := by
    refine ⟨(Id (by decide)).trans w1, (Id (by decide)).trans w2, ?_, w4.c (Ad (by decide) (by decide)) (Ad (by decide) (by decide)) (Ad (by decide) (by decide)), (Id (by decide)).trans w5.1, (Id (by decide)).trans w5.2.1, (Id (by decide)).trans w5.2.2⟩
    rw [Ad (by decide) (by decide)]
    exact w3
  have J1 : p_J L' d' (p_dd1 K P X U nt ns r (8 * (20 + r) + c) l nw jn L s (p_d1 (8 * (20 + r) + c) (p_d0 c k0))) := J
  obtain ⟨nw', jn', q1, q2, q3, q4, q5, q6, q7, q8⟩ := p_dd1_W (r := r) (l := l) W1 ht12 (p_d0_77 h5 h6) (p_d0_75 h8 h9) hK J1 ⟨hL', by omega⟩
  refine ⟨nw', jn', ?_, ?_, ?_, by omega, h4, fun _ => q5, fun h => absurd h (Nat.succ_ne_zero c), by omega, fun _ => q6, fun h => absurd h (Nat.succ_ne_zero c), by omega, by omega, hs⟩
  · exact q4.c (fun _ _ => rfl) (fun x hx => by unfold p_ds p_dE; rw [qA_sAn (by omega), qA_sAn (by omega)])
  · unfold p_ds p_dE
    rw [qA_sAn (by decide), qA_sAn (by decide), q7, Ad (by decide) (by decide)]
    exact h1
  · unfold p_ds p_dE
    rw [qA_sA, if_pos ⟨rfl, rfl⟩]
theorem y_d1_b {b : Bool} (h : (y_d1 K (y_rm b s)).2 = 0) : b = true := by
  have h1 := (y_d1_2 (K := K) (s := y_rm b s)).2.1 h
  exact (y_rm_0 (y_ps_0 (y_nd_z h1)).1).2
theorem s265_243x {Q : Option Value → q_Hp → Prop} {x1 x2 : Int32} (Y : p_y K P X U e k0 k s) (h : y_dw K s = false) (w : q_wp 6 265 287 [some (.ref 630), some (.int x1), some (.int x2)] [] k Q) : q_wp 6 265 243 [some (.ref 630), some (.int x1), some (.int x2)] [] k Q := by
  unfold y_dw at h
  simp only [Bool.or_eq_false_iff] at h
  obtain ⟨a1, a2, a3, a4⟩ := h
  refine b265_243 (s249 (c := 11) Y (by decide) rfl) (by decide) ?_
  rintro z h2 ⟨e0, rfl⟩
  subst h2
  refine b265_249 (fun c => absurd (b2i_ne.mp c) (by rw [a1]; decide)) (fun _ => b265_252 (s249 (c := 12) Y (by decide) rfl) (by decide) ?_)
  rintro z h2 ⟨e0, rfl⟩
  subst h2
  refine b265_258 (fun c => absurd (b2i_ne.mp c) (by rw [a2]; decide)) (fun _ => b265_261 (s249 (c := 13) Y (by decide) rfl) (by decide) ?_)
  rintro z h2 ⟨e0, rfl⟩
  subst h2
  refine b265_267 (fun c => absurd (b2i_ne.mp c) (by rw [a3]; decide)) (fun _ => b265_270 (s249 (c := 14) Y (by decide) rfl) (by decide) ?_)
  rintro z h2 ⟨e0, rfl⟩
  subst h2
  exact b265_276 (fun _ => w) (fun c => absurd (b2i_ne.mp c) (by rw [a4]; decide))
theorem s265_243y {Q : Option Value → q_Hp → Prop} {x1 x2 : Int32} (Y : p_y K P X U e k0 k s) (h : y_dw K s = true) (w : q_wp 6 265 279 [some (.ref 630), some (.int x1), some (.int x2)] [] k Q) : q_wp 6 265 243 [some (.ref 630), some (.int x1), some (.int x2)] [] k Q := by
  unfold y_dw at h
  refine b265_243 (s249 (c := 11) Y (by decide) rfl) (by decide) ?_
  rintro z h2 ⟨e0, rfl⟩
  subst h2
  refine b265_249 (fun _ => w) (fun c1 => b265_252 (s249 (c := 12) Y (by decide) rfl) (by decide) ?_)
  rintro z h2 ⟨e0, rfl⟩
  subst h2
  refine b265_258 (fun _ => w) (fun c2 => b265_261 (s249 (c := 13) Y (by decide) rfl) (by decide) ?_)
  rintro z h2 ⟨e0, rfl⟩
  subst h2
  refine b265_267 (fun _ => w) (fun c3 => b265_270 (s249 (c := 14) Y (by decide) rfl) (by decide) ?_)
  rintro z h2 ⟨e0, rfl⟩
  subst h2
  refine b265_276 (fun c4 => ?_) (fun _ => w)
  rw [b2i_eq.mp c1, b2i_eq.mp c2, b2i_eq.mp c3, b2i_eq.mp c4] at h
  cases h
theorem s265_243 {kb : q_Hp} {Q : Option Value → q_Hp → Prop} {r nt ns l : Nat} {x1 : Int32} (hr : r < 20) (ht12 : nt ≤ 12) (hs12 : ns ≤ 12) : ∀ m c nw jn L d s k0 k, (s.2 = 0 → 9 ≤ m + c) → (s.2 = 0 → p_Ld nt ns r l c nw jn L d s k0) → p_y K P X U e k0 k s → p_fr kb k0 → (∀ k1 k, p_y K P X U e k1 k (y_ds K m c s) → p_fr kb k1 → ((y_ds K m c s).2 = 0 → k1 = p_dss K P X U nt ns r l m c s k0 ∧ ∃ c' nw' jn' L' d', p_Ld nt ns r l c' nw' jn' L' d' (y_ds K m c s) k1) → q_wp 6 265 287 [some (.ref 630), some (.int x1), some (.int (nI (20 + r)))] [] k Q) → q_wp 6 265 243 [some (.ref 630), some (.int x1), some (.int (nI (20 + r)))] [] k Q := by
  intro m
  induction m with
  | zero =>
    intro c nw jn L d s k0 k hm H Y F cont
    have hs : ¬ s.2 = 0 := fun hs => by
      have := hm hs
      have := (H hs).2.2.2.1
      omega
    refine s265_243x Y ?_ (cont k0 k Y F (fun h9 => absurd h9 hs))
    unfold y_dw
    rw [y_is_f hs, y_is_f hs, y_is_f hs, y_is_f hs]
    rfl
  | succ m ih =>
    intro c nw jn L d s k0 k hm H Y F cont
    unfold y_ds p_dss at cont
    by_cases c9 : y_dw K s = true
    · rw [if_pos c9, if_pos c9] at cont
      obtain ⟨hs, hK⟩ := y_dw_c c9
      have hm := hm hs
      have H := H hs
      obtain ⟨W, h1, h2, h3, h4, h5, h6, h7, h8, h9, h10, h11, h12⟩ := id H
      have n1 : p_n c 77 k0 = nw := p_n_e h5 h6 (by omega)
      have n2 : p_n c 75 k0 = jn := p_n_e h8 h9 (by omega)
      have n3 : p_n 1 68 k0 = L := p_n_e (fun _ => W.2.2.2.2.2.2) (fun h => absurd h (by decide)) (by omega)
      rw [n1, n2, n3] at cont
      refine s265_243y Y c9 (b265_279 (s273 (nt := nt) (ns := ns) (r := r) (c := c) (l := l) (nw := nw) (jn := jn) (L := L) (d := d) Y c9 hr h2 h3 h1 h4 W.1 ht12 W.2.1 hs12 W.2.2.1 W.2.2.2.1 h5 h6 h7 h8 h9 h10 W.2.2.2.2 h12 (by omega) rfl) (by decide) ?_)
      rintro k ⟨k1, Y, F1, g1⟩
      by_cases hz : (y_d1 K (y_rm (decide (c < 8)) s)).2 = 0
      · obtain ⟨e1, L', d', J', hLL, hd'⟩ := g1 hz
        subst e1
        have c8 := of_decide_eq_true (y_d1_b hz)
        have lL : L' < 1000 := by omega
        obtain ⟨nw', jn', H'⟩ := H.ds ht12 c8 hK J' hd' lL
        refine b265_284 (ih (c + 1) nw' jn' L' d' _ _ k (fun h9 => by omega) (fun _ => H') Y (F.trans F1) cont)
      · refine b265_284 (ih (c + 1) nw jn L d _ k1 k (fun h9 => absurd h9 hz) (fun h9 => absurd h9 hz) Y (F.trans F1) (fun k2 k Y F2 h2 => cont k2 k Y F2 (fun h9 => absurd ((y_to.ds (K := K) m (c + 1) _ _ (y_to.rf (s := y_d1 K (y_rm (decide (c < 8)) s)))).2.1 h9) hz)))
    · rw [if_neg c9, if_neg c9] at cont
      exact s265_243x Y (Bool.eq_false_iff.mpr c9) (cont k0 k Y F (fun h9 => ⟨rfl, c, nw, jn, L, d, H h9⟩))
end PR
/-- the head of a rule, and a rule -/
def p_ru0 (P : Nat → Nat) (U : Nat → Int64) (nr np : Nat) (s : y_S) (k : q_Hp) : q_Hp := q_sI (q_sA (q_sA (q_sA (q_sA (q_sA (q_sA (q_sI (q_sL (p_tw P U (s.1 + 1) nr np k) 676 nr (U (s.1 + 1))) 630 20 (nI (nr + 1))) 641 (20 + nr) 0) 642 (20 + nr) 0) 643 (20 + nr) 0) 648 (20 + nr) 0) 654 (20 + nr) 0) 659 (20 + nr) 0) 630 68 0
/-- so many nodes and links are told -/
def p_nA (x r : Nat) (k : q_Hp) : Nat := (qA k x (20 + r) : Int32).toNatClampNeg
def p_ru1 (K P : Nat → Nat) (U : Nat → Int64) (nt ns nr np : Nat) (s : y_S) (k : q_Hp) : q_Hp := p_lf K P U nt ns nr 1201 0 0 (s.1 + 2, 0) (p_ru0 P U nr np s k)
def y_r1 (K : Nat → Nat) (s : y_S) : y_S := y_le K 4 6 true 1201 0 0 (s.1 + 2, 0)
def p_ru2 (K P : Nat → Nat) (U : Nat → Int64) (nt ns nr : Nat) (s : y_S) (k : q_Hp) : q_Hp := p_nts K P U nt ns nr (p_nA 641 nr k + p_nA 642 nr k) 3 0 s k
def p_ru3 (K P X : Nat → Nat) (U : Nat → Int64) (nr : Nat) (s : y_S) (k : q_Hp) : q_Hp := p_tss K P X U nr (p_n 1 68 k) 5 0 s k
def p_ru4 (K P X : Nat → Nat) (U : Nat → Int64) (nt ns nr : Nat) (s : y_S) (k : q_Hp) : q_Hp := p_dss K P X U nt ns nr (p_nA 642 nr k) 9 0 s k
def p_ru (K P X : Nat → Nat) (U : Nat → Int64) (nt ns nr np : Nat) (s : y_S) (k : q_Hp) : q_Hp := p_ru4 K P X U nt ns nr (y_ts K 5 0 (y_nt K 3 0 (y_r1 K s))) (p_ru3 K P X U nr (y_nt K 3 0 (y_r1 K s)) (p_ru2 K P U nt ns nr (y_r1 K s) (p_ru1 K P U nt ns nr np s k)))
section PR
variable {K P X : Nat → Nat} {U : Nat → Int64} {e : Nat} {k0 k : q_Hp} {s : y_S}
theorem p_tw_I {i nr np j : Nat} (h : ¬ j = 15 ∧ ¬ j = 16) : qI (p_tw P U i nr np k0) 630 j = qI k0 630 j := (p_dw.I h).trans (p_dw.I h)
theorem p_tw_A {i nr np : Nat} : qA (p_tw P U i nr np k0) = qA k0 := by
  unfold p_tw
  rw [p_dw_A, p_dw_A]
theorem p_tw_L {i nr np : Nat} : qL (p_tw P U i nr np k0) = qL k0 := by
  unfold p_tw
  rw [p_dw_L, p_dw_L]
theorem p_ru0_I {nr np j : Nat} (h : ¬ j = 15 ∧ ¬ j = 16 ∧ ¬ j = 20 ∧ ¬ j = 68) : qI (p_ru0 P U nr np s k0) 630 j = qI k0 630 j := by
  unfold p_ru0
  rw [q_sI_n (by omega), qI_sA, qI_sA, qI_sA, qI_sA, qI_sA, qI_sA, q_sI_n (by omega), qI_sL, p_tw_I ⟨h.1, h.2.1⟩]
theorem p_ru0_20 {nr np : Nat} : qI (p_ru0 P U nr np s k0) 630 20 = nI (nr + 1) := by
  unfold p_ru0
  rw [q_sI_n (by omega), qI_sA, qI_sA, qI_sA, qI_sA, qI_sA, qI_sA, q_sI_e]
theorem p_ru0_A {nr np x : Nat} (h : ¬ x = 641 ∧ ¬ x = 642 ∧ ¬ x = 643 ∧ ¬ x = 648 ∧ ¬ x = 654 ∧ ¬ x = 659) : qA (p_ru0 P U nr np s k0) x = qA k0 x := by
  unfold p_ru0
  rw [qA_sI, qA_sAn (by omega), qA_sAn (by omega), qA_sAn (by omega), qA_sAn (by omega), qA_sAn (by omega), qA_sAn (by omega), qA_sI, qA_sL, p_tw_A]
theorem p_ru0_z {nr np x : Nat} (h : x = 641 ∨ x = 642 ∨ x = 643 ∨ x = 648 ∨ x = 654 ∨ x = 659) : qA (p_ru0 P U nr np s k0) x (20 + nr) = 0 := by
  unfold p_ru0
  rw [qA_sI]
  rcases h with rfl | rfl | rfl | rfl | rfl | rfl
  · rw [qA_sAn (by decide), qA_sAn (by decide), qA_sAn (by decide), qA_sAn (by decide), qA_sAn (by decide), qA_sA, if_pos ⟨rfl, rfl⟩]
  · rw [qA_sAn (by decide), qA_sAn (by decide), qA_sAn (by decide), qA_sAn (by decide), qA_sA, if_pos ⟨rfl, rfl⟩]
  · rw [qA_sAn (by decide), qA_sAn (by decide), qA_sAn (by decide), qA_sA, if_pos ⟨rfl, rfl⟩]
  · rw [qA_sAn (by decide), qA_sAn (by decide), qA_sA, if_pos ⟨rfl, rfl⟩]
  · rw [qA_sAn (by decide), qA_sA, if_pos ⟨rfl, rfl⟩]
  · rw [qA_sA, if_pos ⟨rfl, rfl⟩]
theorem p_ru0_L {nr np x : Nat} (h : ¬ x = 676) : qL (p_ru0 P U nr np s k0) x = qL k0 x := by
  unfold p_ru0
  rw [qL_sI, qL_sA, qL_sA, qL_sA, qL_sA, qL_sA, qL_sA, qL_sI, qL_sLn h, p_tw_L]
theorem p_fr.ru0 {kb : q_Hp} {nr np : Nat} (F : p_fr kb k0) : p_fr kb (p_ru0 P U nr np s k0) := by
  have F1 : p_fr kb (p_tw P U (s.1 + 1) nr np k0) := F.dw.dw
  exact ((((((((F1.sL rfl).sI rfl).sA rfl (Nat.le_add_right 20 nr)).sA rfl (Nat.le_add_right 20 nr)).sA rfl (Nat.le_add_right 20 nr)).sA rfl (Nat.le_add_right 20 nr)).sA rfl (Nat.le_add_right 20 nr)).sA rfl (Nat.le_add_right 20 nr)).sI rfl
/-- the state of the parse between two tells -/
def p_B (nt ns d : Nat) (k : q_Hp) : Prop := qI k 630 18 = nI nt ∧ qI k 630 19 = nI ns ∧ t_ok (fun i => qA k 638 (12 + i)) nt ∧ qI k 630 22 = nI (1300 + d) ∧ qI k 630 12 = nI 0
theorem s265 {nt ns nr np d : Nat} (Y : p_y K P X U e k0 k s) (hk : s.2 = 0 → K s.1 < 42) (B : s.2 = 0 → p_B nt ns d k0 ∧ d ≤ s.1) (ht12 : nt ≤ 12) (hs12 : ns ≤ 12) (hr : qI k0 630 20 = nI nr) (h20 : nr ≤ 20) (hp : qI k0 630 21 = nI np) (h10 : np ≤ 10) : q_mV 6 265 [.ref 630] k (fun k' => ∃ k1, p_y K P X U e k1 k' (y_ru K nr s) ∧ p_fr k0 k1 ∧ ((y_ru K nr s).2 = 0 → k1 = p_ru K P X U nt ns nr np s k0 ∧ ∃ d', p_B nt ns d' k1 ∧ d' ≤ (y_ru K nr s).1)) := by
  refine q_mV.of (q_recV rfl (Y.sh.ok rfl)) (fun Q fin => ?_)
  refine b265_0 (s252 Y hk) (by decide) ?_
  intro k Y
  have hx := Y.t0
  refine b265_4 (Y.sh.ok rfl) (s249 (c := 40) Y (by decide) rfl) (by decide) ?_
  rintro z h2 ⟨e0, rfl⟩
  subst h2
  generalize qI k 630 11 = x2 at hx ⊢
  have e20 : qI k 630 20 = nI nr := (Y.I rfl).trans hr
  have g31 : ∀ k, p_y K P X U e k0 k (if y_is K 40 (y_ps s) = true then y_rm (decide (nr < 20)) (y_ps s) else y_ps s) → q_wp 6 265 31 [some (.ref 630), some (.int x2), none] [] k Q := by
    intro k Y
    refine b265_31 (s253 (c := 40) Y (by decide) rfl) (by decide) ?_
    intro k Y
    have Y : p_y K P X U e k0 k (y_nn K (decide (nr < 20)) (y_ps s)) := Y
    have tR : y_to (y_nn K (decide (nr < 20)) (y_ps s)) (y_ru K nr s) := (y_to.ds _ _ _ _ (y_to.ts _ _ _ _ (y_to.nt _ _ _ _ (y_to.le _ _ _ _ _ y_to.rf)))).nd
    refine b265_36 (Y.sh.ok rfl) (fun z => ?_) (fun z => b265_43 (fin _ ⟨k0, ?_, p_fr.rf, fun h9 => ?_⟩))
    rotate_left 1
    · rw [tR.2.2 (fun h9 => z (Y.z1.mpr h9))]
      exact Y
    · exact absurd (Y.z1.mpr (tR.2.1 h9)) z
    have c0 := Y.z1.mp z
    obtain ⟨h1, h2, h3, h4, h5⟩ := y_hd c0
    have r20 := of_decide_eq_true h3
    have x2e : x2 = nI (s.1 + 1) := (hx (by rw [h1])).trans (by rw [h1])
    have le := Y.le
    rw [h4] at le
    have le : s.1 + 2 ≤ e := le
    have e12 := Y.e12
    subst x2e
    have es : y_ru K nr s = y_nd K 5 (y_ds K 9 0 (y_ts K 5 0 (y_nt K 3 0 (y_r1 K s)))) := by
      unfold y_ru y_r1
      rw [h4]
    rw [es] at fin
    obtain ⟨⟨b1, b2, b3, b4, b5⟩, hd⟩ := B h5
    rw [h4] at Y
    refine b265_44 (s264 (nr := nr) (np := np) (i := s.1 + 1) Y rfl (by omega) h2 hr h20 hp h10 rfl) (by decide) ?_
    intro k Y
    have e20 : qI k 630 20 = nI nr := (Y.I rfl).trans ((p_tw_I (by decide)).trans hr)
    have eb : qL k 636 ((nI (s.1 + 1) : Int32).toNatClampNeg) = U (s.1 + 1) := by rw [nI_clamp (by omega)]; exact (Y.tk (by omega)).2.2.2.2.2 h2
    have i1 : (20 : Int32) + nI nr = nI (20 + nr) := nI_add 20 nr
    have cn : (nI nr : Int32).toNatClampNeg = nr := nI_clamp (by omega)
    have c2 : (nI (20 + nr) : Int32).toNatClampNeg = 20 + nr := nI_clamp (by omega)
    have iq : ∀ {x}, (decide (x ≤ 712) && (q_kd0 x).2 == 40) = true → q_in (nI (20 + nr)) (qK k x).2 := fun h => Y.sh.inN (n := 40) h (by omega) (by decide)
    have Y0 : p_y K P X U e (p_ru0 P U nr np s k0) (q_sI (q_sA (q_sA (q_sA (q_sA (q_sA (q_sA (q_sI (q_sL k 676 nr (U (s.1 + 1))) 630 20 (nI (nr + 1))) 641 (20 + nr) 0) 642 (20 + nr) 0) 643 (20 + nr) 0) 648 (20 + nr) 0) 654 (20 + nr) 0) 659 (20 + nr) 0) 630 68 0) (s.1 + 2, 0) := ((((((((Y.sL rfl).sI rfl).sA rfl).sA rfl).sA rfl).sA rfl).sA rfl).sA rfl).sI rfl
    have F0 : p_fr k0 (p_ru0 P U nr np s k0) := p_fr.rf.ru0
    have L0 : p_Lf nt ns nr 0 0 d (s.1 + 2, 0) (p_ru0 P U nr np s k0) := by
      refine ⟨⟨(p_ru0_I (by decide)).trans b1, (p_ru0_I (by decide)).trans b2, ?_, ⟨fun j hj => absurd hj (by omega), fun j hj => absurd hj (by omega)⟩, (p_ru0_I (by decide)).trans b4, (p_ru0_I (by decide)).trans b5, q_sI_e⟩, p_ru0_z (by omega), p_ru0_z (by omega), by omega, by omega, by show d ≤ s.1 + 2; omega, p_ru0_z (by omega), p_ru0_z (by omega), p_ru0_z (by omega)⟩
      rw [p_ru0_A (by decide)]
      exact b3
    refine b265_49 (v0 := 676) (v1 := 636) (v2 := 641) (v3 := 642) (v4 := 643) (v5 := 648) (v6 := 654) (v7 := 659) (Y.sh.ok rfl) (Y.sh.ref rfl) (Y.sh.ref rfl) (Y.sh.ok rfl) (Y.sh.inN (n := 1203) rfl (by omega) (by decide)) (Y.sh.ok rfl) (by rw [e20]; exact Y.sh.inN (n := 20) rfl r20 (by decide)) (Y.sh.ref rfl) (Y.sh.ok rfl) (by rw [e20, i1]; exact iq rfl) (Y.sh.ref rfl) (Y.sh.ok rfl) (by rw [e20, i1]; exact iq rfl) (Y.sh.ref rfl) (Y.sh.ok rfl) (by rw [e20, i1]; exact iq rfl) (Y.sh.ref rfl) (Y.sh.ok rfl) (by rw [e20, i1]; exact iq rfl) (Y.sh.ref rfl) (Y.sh.ok rfl) (by rw [e20, i1]; exact iq rfl) (Y.sh.ref rfl) (Y.sh.ok rfl) (by rw [e20, i1]; exact iq rfl) ?_
    rw [e20, i1, cn, c2, eb, nI_1, show vp_nar .boolean (0 : Int32) = 0 by decide]
    refine s265_129 (kb := k0) (nt := nt) (ns := ns) (d := d) r20 ht12 hs12 1201 0 0 (s.1 + 2, 0) _ _ (fun _ => Nat.le_add_right _ _) (fun _ => L0) Y0 F0 ?_
    intro k1 k Y F H1
    have Y : p_y K P X U e k1 k (y_r1 K s) := Y
    have H1 : (y_r1 K s).2 = 0 → k1 = p_ru1 K P U nt ns nr np s k0 ∧ ∃ n' l', p_Lf nt ns nr n' l' d (y_r1 K s) k1 := H1
    have t2 : y_to (y_r1 K s) (y_nt K 3 0 (y_r1 K s)) := y_to.nt _ _ _ _ y_to.rf
    have t3 : y_to (y_nt K 3 0 (y_r1 K s)) (y_ts K 5 0 (y_nt K 3 0 (y_r1 K s))) := y_to.ts _ _ _ _ y_to.rf
    have t4 : y_to (y_ts K 5 0 (y_nt K 3 0 (y_r1 K s))) (y_ds K 9 0 (y_ts K 5 0 (y_nt K 3 0 (y_r1 K s)))) := y_to.ds _ _ _ _ y_to.rf
    have t5 : y_to (y_ds K 9 0 (y_ts K 5 0 (y_nt K 3 0 (y_r1 K s)))) (y_nd K 5 (y_ds K 9 0 (y_ts K 5 0 (y_nt K 3 0 (y_r1 K s))))) := y_to.rf.nd
    have ex : ∃ l a, (y_r1 K s).2 = 0 → p_Ln nt ns nr l a 0 d (y_r1 K s) k1 ∧ p_nA 641 nr k1 + p_nA 642 nr k1 = a := by
      by_cases hz : (y_r1 K s).2 = 0
      · obtain ⟨_, n', l', H⟩ := H1 hz
        obtain ⟨q1, q2, q3, q4, q5, q6, q7, q8, q9⟩ := H
        refine ⟨l', n' + l', fun _ => ⟨⟨q1, q3, q7, by omega, q5, by omega, q6, q8, q9⟩, ?_⟩⟩
        unfold p_nA
        rw [q2, q3, nI_clamp (by omega), nI_clamp (by omega)]
      · exact ⟨0, 0, fun h => absurd h hz⟩
    obtain ⟨l, a, ex⟩ := ex
    refine s265_209 (kb := k0) (nt := nt) (ns := ns) (l := l) (a := a) (d := d) r20 ht12 hs12 3 0 (y_r1 K s) k1 k (fun _ => Nat.le_refl _) (fun h => (ex h).1) Y F ?_
    intro k2 k Y F H2
    have e2 : (y_nt K 3 0 (y_r1 K s)).2 = 0 → k2 = p_ru2 K P U nt ns nr (y_r1 K s) (p_ru1 K P U nt ns nr np s k0) := by
      intro h
      rw [(H2 h).1, ← (H1 (t2.2.1 h)).1]
      unfold p_ru2
      rw [(ex (t2.2.1 h)).2]
    have L2 : (y_nt K 3 0 (y_r1 K s)).2 = 0 → p_Lt nt ns nr l a 0 d (y_nt K 3 0 (y_r1 K s)) k2 := by
      intro h
      obtain ⟨_, c', q1, q2, q3, q4, q5, q6, q7, q8, q9⟩ := H2 h
      exact ⟨q1, q2, q8, by omega, q5, q6, q7, q9⟩
    refine s265_226 (kb := k0) (nt := nt) (ns := ns) (l := l) (a := a) r20 5 0 d (y_nt K 3 0 (y_r1 K s)) k2 k (fun _ => Nat.le_refl _) L2 Y F ?_
    intro k3 k Y F H3
    have e3 : (y_ts K 5 0 (y_nt K 3 0 (y_r1 K s))).2 = 0 → k3 = p_ru3 K P X U nr (y_nt K 3 0 (y_r1 K s)) (p_ru2 K P U nt ns nr (y_r1 K s) (p_ru1 K P U nt ns nr np s k0)) := by
      intro h
      rw [(H3 h).1, ← e2 (t3.2.1 h)]
      unfold p_ru3
      have L2 := L2 (t3.2.1 h)
      rw [p_n_e (c := 1) (j := 68) (n := a) (fun _ => L2.1.2.2.2.2.2.2) (fun h => absurd h (by decide)) (by have := L2.2.2.2.2.2.1; omega)]
    have ex3 : ∃ d3, (y_ts K 5 0 (y_nt K 3 0 (y_r1 K s))).2 = 0 → p_Ld nt ns nr l 0 0 0 a d3 (y_ts K 5 0 (y_nt K 3 0 (y_r1 K s))) k3 := by
      by_cases hz : (y_ts K 5 0 (y_nt K 3 0 (y_r1 K s))).2 = 0
      · obtain ⟨_, c', d3, q1, q2, q3, q4, q5, q6, q7, q8⟩ := H3 hz
        exact ⟨d3, fun _ => ⟨q1, q2, q8, by omega, q5, fun h => absurd rfl h, fun _ => rfl, by omega, fun h => absurd rfl h, fun _ => rfl, by omega, by omega, q7⟩⟩
      · exact ⟨0, fun h => absurd h hz⟩
    obtain ⟨d3, L3⟩ := ex3
    refine s265_243 (kb := k0) (nt := nt) (ns := ns) (l := l) r20 ht12 hs12 9 0 0 0 a d3 _ k3 k (fun _ => Nat.le_refl _) L3 Y F ?_
    intro k4 k Y F H4
    refine b265_287 (s253 (c := 5) Y (by decide) rfl) (by decide) (fun k Y => b265_293 (fin _ ⟨k4, Y, F, fun h9 => ?_⟩))
    have h8 := y_nd_z h9
    obtain ⟨e4, c', nw', jn', L', d', q⟩ := H4 h8
    refine ⟨?_, d', ⟨q.1.1, q.1.2.1, q.1.2.2.1, q.1.2.2.2.2.1, q.1.2.2.2.2.2.1⟩, Nat.le_trans q.2.2.2.2.2.2.2.2.2.2.2.2 t5.1⟩
    rw [e4]
    unfold p_ru p_ru4
    rw [← e3 (t4.2.1 h8)]
    have : p_nA 642 nr k3 = l := by
      unfold p_nA
      rw [(L3 (t4.2.1 h8)).2.1, nI_clamp (by have := (L3 (t4.2.1 h8)).2.2.2.2.1; omega)]
    rw [this]
  refine b265_14 (fun c => g31 _ ?_) (fun c => b265_17 (Y.sh.ok rfl) (fun c1 => g31 _ ?_) (fun c1 => b265_26 (s250 (f := 2) Y (by decide) (by decide) rfl) (by decide) (fun k Y => g31 _ ?_)))
  · rw [b2i_eq.mp c, if_neg (by decide)]
    exact Y
  · rw [e20] at c1
    rw [if_pos (b2i_ne.mp c), decide_eq_true (show nr < 20 by have : ¬ nr = 20 := fun h9 => c1 (by rw [h9]; rfl); omega)]
    exact Y
  · rw [e20] at c1
    rw [if_pos (b2i_ne.mp c), decide_eq_false (show ¬ nr < 20 by have := (nI_eq (b := 20) (by omega) (by decide)).mp c1; omega)]
    exact Y
end PR
