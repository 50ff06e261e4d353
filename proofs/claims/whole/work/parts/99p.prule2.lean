/-! THE PARSE OF THE REFERENCE: what must not be, tests and what is done, all of a rule -/
section PR
variable {K P X : Nat → Nat} {U : Nat → Int64} {e : Nat} {k0 k : q_Hp} {s : y_S}
theorem p_nl_k {nt ns q a : Nat} : ∀ m n l s k0, (∀ x, ¬ x = 649 ∧ ¬ x = 650 ∧ ¬ x = 651 ∧ ¬ x = 652 ∧ ¬ x = 653 ∧ ¬ x = 679 ∧ ¬ x = 680 ∧ ¬ x = 681 ∧ ¬ x = 682 → qA (p_nl K P U nt ns q a m n l s k0) x = qA k0 x) ∧ (∀ x, x = 679 ∨ x = 680 ∨ x = 681 ∨ x = 682 → ∀ j, j < a → qA (p_nl K P U nt ns q a m n l s k0) x j = qA k0 x j) ∧ (∀ j, ¬ j = 15 ∧ ¬ j = 16 ∧ ¬ j = 68 → qI (p_nl K P U nt ns q a m n l s k0) 630 j = qI k0 630 j) ∧ (∀ x, ¬ x = 678 → qL (p_nl K P U nt ns q a m n l s k0) x = qL k0 x) ∧ ∀ j, j < a → qL (p_nl K P U nt ns q a m n l s k0) 678 j = qL k0 678 j := by
  intro m
  induction m with
  | zero => intro n l s k0; exact ⟨fun _ _ => rfl, fun _ _ _ _ => rfl, fun _ _ => rfl, fun _ _ => rfl, fun _ _ => rfl⟩
  | succ m ih =>
    intro n l s k0
    unfold p_nl
    split
    · obtain ⟨i1, i2, i3, i4, i5⟩ := ih (n + 1) l (y_no K (decide (n < 1)) s) (p_nn P U nt q (a + n + l) s k0)
      refine ⟨fun x h => (i1 x h).trans (p_nn_A (by omega)), fun x h j hj => (i2 x h j hj).trans ?_, fun j h => (i3 j h).trans (p_nn_I h), fun x h => (i4 x h).trans ?_, fun j hj => (i5 j hj).trans ?_⟩
      · unfold p_nn
        have ea : qA (q_sA (p_fw P (s.1 + 3) (p_fi (qL k0 674) nt (U (s.1 + 3))) k0) 649 q (q_on (p_fi (qL k0 674) nt (U (s.1 + 3))))) x = qA k0 x := by
          rw [qA_sAn (by omega), p_fw_A]
        rcases h with rfl | rfl | rfl | rfl
        · rw [p_tl_679, if_neg (by omega), ea]
        · rw [p_tl_680, if_neg (by omega), ea]
        · rw [p_tl_681, if_neg (by omega), ea]
        · rw [p_tl_682, if_neg (by omega), ea]
      · unfold p_nn
        rw [p_tl_L h, qL_sA, p_fw_L]
      · unfold p_nn
        rw [p_tl_678, if_neg (by omega), qL_sA, p_fw_L]
    · split
      · obtain ⟨i1, i2, i3, i4, i5⟩ := ih n (l + 1) (y_li K (decide (l < 3)) s) (p_nk P U ns q l (a + n + l) s k0)
        refine ⟨fun x h => (i1 x h).trans (p_nk_A (by omega)), fun x h j hj => (i2 x h j hj).trans ?_, fun j h => (i3 j h).trans (p_nk_I h), fun x h => (i4 x h).trans ?_, fun j hj => (i5 j hj).trans ?_⟩
        · unfold p_nk
          have ea : qA (p_l3 P U ns (a + n + l) (3 * q + l) 651 652 653 s k0) x = qA k0 x := p_l3_A (by omega)
          rw [qA_sAn (by omega)]
          rcases h with rfl | rfl | rfl | rfl
          · rw [p_tl_679, if_neg (by omega), ea]
          · rw [p_tl_680, if_neg (by omega), ea]
          · rw [p_tl_681, if_neg (by omega), ea]
          · rw [p_tl_682, if_neg (by omega), ea]
        · unfold p_nk
          rw [qL_sA, p_tl_L h, p_l3_L]
        · unfold p_nk
          rw [qL_sA, p_tl_678, if_neg (by omega), p_l3_L]
      · exact ⟨fun _ _ => rfl, fun _ _ _ _ => rfl, fun _ _ => rfl, fun _ _ => rfl, fun _ _ => rfl⟩
theorem p_n1_A {nt ns r c a x : Nat} (h : ¬ x = 648 ∧ ¬ x = 649 ∧ ¬ x = 650 ∧ ¬ x = 651 ∧ ¬ x = 652 ∧ ¬ x = 653 ∧ ¬ x = 679 ∧ ¬ x = 680 ∧ ¬ x = 681 ∧ ¬ x = 682) : qA (p_n1 K P U nt ns r c a s k0) x = qA k0 x := by
  unfold p_n1 p_n0
  rw [qA_sI, (p_nl_k 1201 0 0 _ _).1 x (by omega), qA_sAn (by omega), qA_sAn (by omega), qA_sAn (by omega)]
theorem p_n1_648 {nt ns r c a : Nat} : qA (p_n1 K P U nt ns r c a s k0) 648 (20 + r) = nI (c + 1) := by
  unfold p_n1 p_n0
  rw [qA_sI, (p_nl_k 1201 0 0 _ _).1 648 (by decide), qA_sAn (by decide), qA_sAn (by decide), qA_sA, if_pos ⟨rfl, rfl⟩]
theorem p_n1_o {nt ns r c a x j : Nat} (h : x = 679 ∨ x = 680 ∨ x = 681 ∨ x = 682) (hj : j < a) : qA (p_n1 K P U nt ns r c a s k0) x j = qA k0 x j := by
  unfold p_n1 p_n0
  rw [qA_sI, (p_nl_k 1201 0 0 _ _).2.1 x h j hj, qA_sAn (by omega), qA_sAn (by omega), qA_sAn (by omega)]
theorem p_n1_I {nt ns r c a j : Nat} (h : ¬ j = 15 ∧ ¬ j = 16 ∧ ¬ j = 68) : qI (p_n1 K P U nt ns r c a s k0) 630 j = qI k0 630 j := by
  unfold p_n1 p_n0
  rw [q_sI_n (by omega), (p_nl_k 1201 0 0 _ _).2.2.1 j h]
  rfl
theorem p_n1_L {nt ns r c a x : Nat} (h : ¬ x = 678) : qL (p_n1 K P U nt ns r c a s k0) x = qL k0 x := by
  unfold p_n1 p_n0
  rw [qL_sI, (p_nl_k 1201 0 0 _ _).2.2.2.1 x h]
  rfl
theorem p_n1_678 {nt ns r c a j : Nat} (h : j < a) : qL (p_n1 K P U nt ns r c a s k0) 678 j = qL k0 678 j := by
  unfold p_n1 p_n0
  rw [qL_sI, (p_nl_k 1201 0 0 _ _).2.2.2.2 j h]
  rfl
/-- the NOTs of a rule -/
def p_nts (K P : Nat → Nat) (U : Nat → Int64) (nt ns r a : Nat) : Nat → Nat → y_S → q_Hp → q_Hp
  | 0, _, _, k => k
  | m + 1, c, s, k => if y_is K 9 s = true then p_nts K P U nt ns r a m (c + 1) (y_n1 K c s) (p_n1 K P U nt ns r c a s k) else k
def p_Ln (nt ns r l a c d : Nat) (s : y_S) (k : q_Hp) : Prop := p_W nt ns a d k ∧ qA k 642 (20 + r) = nI l ∧ qA k 648 (20 + r) = nI c ∧ c ≤ 2 ∧ l ≤ 6 ∧ a ≤ 10 ∧ d ≤ s.1 ∧ qA k 654 (20 + r) = 0 ∧ qA k 659 (20 + r) = 0
theorem p_Ln.n1 {nt ns r l a c d : Nat} {s' : y_S} (H : p_Ln nt ns r l a c d s k0) (h : c < 2) (hs : s.1 ≤ s'.1) : p_Ln nt ns r l a (c + 1) d s' (p_n1 K P U nt ns r c a s k0) := by
  obtain ⟨⟨w1, w2, w3, w4, w5⟩, h1, h2, h3, h5, h6, h7, h8, h9⟩ := H
  refine ⟨⟨(p_n1_I (by decide)).trans w1, (p_n1_I (by decide)).trans w2, ?_, ⟨fun j hj => ?_, fun j hj => ?_⟩, (p_n1_I (by decide)).trans w5.1, (p_n1_I (by decide)).trans w5.2.1, q_sI_e⟩, ?_, p_n1_648, by omega, h5, h6, by omega, ?_, ?_⟩
  · rw [p_n1_A (by decide)]; exact w3
  · rw [p_n1_o (by omega) hj]; exact w4.1 j hj
  · rw [p_n1_o (by omega) hj, p_n1_o (by omega) hj]; exact w4.2 j hj
  · rw [p_n1_A (by decide)]; exact h1
  · rw [p_n1_A (by decide)]; exact h8
  · rw [p_n1_A (by decide)]; exact h9
theorem y_n1_1 {c : Nat} (h : (y_n1 K c s).2 = 0) : s.1 + 1 ≤ (y_n1 K c s).1 ∧ c < 2 := by
  have h1 := y_nd_z h
  have h2 := (y_to.le (K := K) (nr := 1) (lr := 3) (cm := false) 1201 0 0 _ _ (y_to.rf (s := y_ps (y_rm (decide (c < 2)) s)))).2.1 h1
  obtain ⟨h3, h4⟩ := y_ps_0 h2
  obtain ⟨h5, h6⟩ := y_rm_0 h3
  rw [h5] at h4
  refine ⟨?_, of_decide_eq_true h6⟩
  have t1 := (y_to.le (K := K) (nr := 1) (lr := 3) (cm := false) 1201 0 0 _ _ (y_to.rf (s := y_ps (y_rm (decide (c < 2)) s)))).1
  have t2 := (y_to.rf.nd (K := K) (k := 5) (s0 := y_le K 1 3 false 1201 0 0 (y_ps (y_rm (decide (c < 2)) s)))).1
  rw [h5, h4] at t1 t2
  have t3 : s.1 + 1 ≤ (y_le K 1 3 false 1201 0 0 (s.1 + 1, 0)).1 := t1
  unfold y_n1
  rw [h5, h4]
  omega
theorem s265_209 {kb : q_Hp} {Q : Option Value → q_Hp → Prop} {r nt ns l a d : Nat} {x1 : Int32} (hr : r < 20) (ht12 : nt ≤ 12) (hs12 : ns ≤ 12) : ∀ m c s k0 k, (s.2 = 0 → 3 ≤ m + c) → (s.2 = 0 → p_Ln nt ns r l a c d s k0) → p_y K P X U e k0 k s → p_fr kb k0 → (∀ k1 k, p_y K P X U e k1 k (y_nt K m c s) → p_fr kb k1 → ((y_nt K m c s).2 = 0 → k1 = p_nts K P U nt ns r a m c s k0 ∧ ∃ c', p_Ln nt ns r l a c' d (y_nt K m c s) k1) → q_wp 6 265 226 [some (.ref 630), some (.int x1), some (.int (nI (20 + r)))] [] k Q) → q_wp 6 265 209 [some (.ref 630), some (.int x1), some (.int (nI (20 + r)))] [] k Q := by
  intro m
  induction m with
  | zero =>
    intro c s k0 k hm H Y F cont
    have hs : ¬ s.2 = 0 := fun hs => by
      have := hm hs
      have := (H hs).2.2.2.1
      omega
    refine b265_209 (s249 (c := 9) Y (by decide) rfl) (by decide) ?_
    rintro z h2 ⟨e0, rfl⟩
    subst h2
    exact b265_215 (fun _ => cont k0 k Y F (fun h9 => absurd h9 hs)) (fun c => absurd (b2i_ne.mp c) (by rw [y_is_f hs]; decide))
  | succ m ih =>
    intro c s k0 k hm H Y F cont
    unfold y_nt p_nts at cont
    refine b265_209 (s249 (c := 9) Y (by decide) rfl) (by decide) ?_
    rintro z h2 ⟨e0, rfl⟩
    subst h2
    refine b265_215 (fun c9 => ?_) (fun c9 => ?_)
    · rw [b2i_eq.mp c9, if_neg (by decide), if_neg (by decide)] at cont
      exact cont k0 k Y F (fun h9 => ⟨rfl, c, H h9⟩)
    · have c9 := b2i_ne.mp c9
      rw [if_pos c9, if_pos c9] at cont
      obtain ⟨hs, _⟩ := y_is_c.mp c9
      have hm := hm hs
      have H := H hs
      have W := H.1
      refine b265_218 (s269 (nt := nt) (ns := ns) (r := r) (c := c) (a := a) Y (y_is_lt (by decide) c9) hr H.2.2.1 H.2.2.2.1 W.1 ht12 W.2.1 hs12 W.2.2.2.2.2.2 (by have := H.2.2.2.2.2.1; omega) rfl) (by decide) ?_
      rintro k ⟨k1, Y, F1, h1⟩
      refine b265_223 (ih (c + 1) _ k1 k (fun h9 => by omega) (fun h9 => ?_) Y (F.trans F1) (fun k2 k Y F2 h2 => cont k2 k Y F2 (fun h9 => ?_)))
      · rw [h1 h9]
        obtain ⟨q1, q2⟩ := y_n1_1 h9
        exact H.n1 q2 (by omega)
      · have h10 := (y_to.nt (K := K) m (c + 1) _ _ (y_to.rf (s := y_n1 K c s))).2.1 h9
        rw [← h1 h10]
        exact h2 h9
/-- the tests of a rule -/
def p_tss (K P X : Nat → Nat) (U : Nat → Int64) (r a : Nat) : Nat → Nat → y_S → q_Hp → q_Hp
  | 0, _, _, k => k
  | m + 1, c, s, k => if y_is K 10 s = true then p_tss K P X U r a m (c + 1) (y_te K (y_rm (decide (c < 4)) s)) (p_te K P X U r c a s k) else k
def p_Lt (nt ns r l a c d : Nat) (s : y_S) (k : q_Hp) : Prop := p_W nt ns a d k ∧ qA k 642 (20 + r) = nI l ∧ qA k 654 (20 + r) = nI c ∧ c ≤ 4 ∧ l ≤ 6 ∧ a ≤ 10 ∧ d ≤ s.1 ∧ qA k 659 (20 + r) = 0
theorem p_te_A {r c L x : Nat} (h : ¬ x = 666 ∧ ¬ x = 667 ∧ ¬ x = 668 ∧ ¬ x = 685) (h2 : ¬ x = 654 ∧ ¬ x = 655 ∧ ¬ x = 656 ∧ ¬ x = 657 ∧ ¬ x = 658) : qA (p_te K P X U r c L s k0) x = qA k0 x := by
  unfold p_te p_te3
  rw [qA_sAn (by omega), p_ex_A h]
  unfold p_te2 p_te1
  rw [qA_sAn (by omega), qA_sAn (by omega), p_ex_A h, qA_sAn (by omega), qA_sAn (by omega)]
theorem p_te_654 {r c L : Nat} : qA (p_te K P X U r c L s k0) 654 (20 + r) = nI (c + 1) := by
  unfold p_te p_te3
  rw [qA_sAn (by decide), p_ex_A (by decide)]
  unfold p_te2 p_te1
  rw [qA_sAn (by decide), qA_sAn (by decide), p_ex_A (by decide), qA_sAn (by decide), qA_sA, if_pos ⟨rfl, rfl⟩]
theorem p_te_I {r c L j : Nat} (h : ¬ j = 12 ∧ ¬ j = 15 ∧ ¬ j = 16 ∧ ¬ j = 22 ∧ ¬ j = 78) : qI (p_te K P X U r c L s k0) 630 j = qI k0 630 j := by
  unfold p_te p_te3
  rw [qI_sA, p_ex_I h]
  unfold p_te2 p_te1
  rw [qI_sA, qI_sA, p_ex_I h]
  rfl
theorem p_te_L {r c L : Nat} : qL (p_te K P X U r c L s k0) = qL k0 := by
  unfold p_te p_te3
  rw [qL_sA, p_ex_L]
  unfold p_te2 p_te1
  rw [qL_sA, qL_sA, p_ex_L]
  rfl
theorem p_Lt.te {nt ns r l a c d d' : Nat} {s' : y_S} (H : p_Lt nt ns r l a c d s k0) (h : c < 4) (J : p_J a d' (p_te K P X U r c a s k0)) (hs : d' ≤ s'.1) : p_Lt nt ns r l a (c + 1) d' s' (p_te K P X U r c a s k0) := by
  obtain ⟨⟨w1, w2, w3, w4, w5⟩, h1, h2, h3, h5, h6, h7, h8⟩ := H
  refine ⟨⟨(p_te_I (by decide)).trans w1, (p_te_I (by decide)).trans w2, ?_, w4.c (p_te_A (by decide) (by decide)) (p_te_A (by decide) (by decide)) (p_te_A (by decide) (by decide)), J⟩, ?_, p_te_654, by omega, h5, h6, hs, ?_⟩
  · rw [p_te_A (by decide) (by decide)]; exact w3
  · rw [p_te_A (by decide) (by decide)]; exact h1
  · rw [p_te_A (by decide) (by decide)]; exact h8
theorem y_te_1 {b : Bool} (h : (y_te K (y_rm b s)).2 = 0) : b = true := by
  have h1 := (y_to.E (K := K) (y_to.op (y_to.E (K := K) (y_to.rf (s := y_ps (y_rm b s)))))).nd.2.1 h
  exact (y_rm_0 (y_ps_0 h1).1).2
theorem s265_226 {kb : q_Hp} {Q : Option Value → q_Hp → Prop} {r nt ns l a : Nat} {x1 : Int32} (hr : r < 20) : ∀ m c d s k0 k, (s.2 = 0 → 5 ≤ m + c) → (s.2 = 0 → p_Lt nt ns r l a c d s k0) → p_y K P X U e k0 k s → p_fr kb k0 → (∀ k1 k, p_y K P X U e k1 k (y_ts K m c s) → p_fr kb k1 → ((y_ts K m c s).2 = 0 → k1 = p_tss K P X U r a m c s k0 ∧ ∃ c' d', p_Lt nt ns r l a c' d' (y_ts K m c s) k1) → q_wp 6 265 243 [some (.ref 630), some (.int x1), some (.int (nI (20 + r)))] [] k Q) → q_wp 6 265 226 [some (.ref 630), some (.int x1), some (.int (nI (20 + r)))] [] k Q := by
  intro m
  induction m with
  | zero =>
    intro c d s k0 k hm H Y F cont
    have hs : ¬ s.2 = 0 := fun hs => by
      have := hm hs
      have := (H hs).2.2.2.1
      omega
    refine b265_226 (s249 (c := 10) Y (by decide) rfl) (by decide) ?_
    rintro z h2 ⟨e0, rfl⟩
    subst h2
    exact b265_232 (fun _ => cont k0 k Y F (fun h9 => absurd h9 hs)) (fun c => absurd (b2i_ne.mp c) (by rw [y_is_f hs]; decide))
  | succ m ih =>
    intro c d s k0 k hm H Y F cont
    unfold y_ts p_tss at cont
    refine b265_226 (s249 (c := 10) Y (by decide) rfl) (by decide) ?_
    rintro z h2 ⟨e0, rfl⟩
    subst h2
    refine b265_232 (fun c9 => ?_) (fun c9 => ?_)
    · rw [b2i_eq.mp c9, if_neg (by decide), if_neg (by decide)] at cont
      exact cont k0 k Y F (fun h9 => ⟨rfl, c, d, H h9⟩)
    · have c9 := b2i_ne.mp c9
      rw [if_pos c9, if_pos c9] at cont
      obtain ⟨hs, _⟩ := y_is_c.mp c9
      have hm := hm hs
      have H := H hs
      have W := H.1
      refine b265_235 (s270 (r := r) (c := c) (L := a) (d := d) Y (y_is_lt (by decide) c9) hr H.2.2.1 H.2.2.2.1 W.2.2.2.2 H.2.2.2.2.2.2.1 (by have := H.2.2.2.2.2.1; omega) rfl) (by decide) ?_
      rintro k ⟨k1, Y, F1, h1⟩
      by_cases hz : (y_te K (y_rm (decide (c < 4)) s)).2 = 0
      · obtain ⟨e1, d', J', hd'⟩ := h1 hz
        subst e1
        refine b265_240 (ih (c + 1) d' _ _ k (fun h9 => by omega) (fun h9 => H.te (of_decide_eq_true (y_te_1 hz)) J' hd') Y (F.trans F1) cont)
      · refine b265_240 (ih (c + 1) d _ k1 k (fun h9 => absurd h9 hz) (fun h9 => absurd h9 hz) Y (F.trans F1) (fun k2 k Y F2 h2 => cont k2 k Y F2 (fun h9 => absurd ((y_to.ts (K := K) m (c + 1) _ _ (y_to.rf (s := y_te K (y_rm (decide (c < 4)) s)))).2.1 h9) hz)))
end PR
