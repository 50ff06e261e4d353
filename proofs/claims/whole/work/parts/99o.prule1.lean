/-! THE PARSE OF THE REFERENCE: what holds between the parts of a rule -/
/-- types, sorts, elders, names, codes -/
def p_W (nt ns L d : Nat) (k : q_Hp) : Prop := qI k 630 18 = nI nt ∧ qI k 630 19 = nI ns ∧ t_ok (fun i => qA k 638 (12 + i)) nt ∧ p_V nt L k ∧ p_J L d k
theorem q_on_rg {f : Nat → Int64} {n : Nat} {x : Int64} (hn : n < 2 ^ 31) : q_on (p_fi f n x) = -1 ∨ q_rg (q_on (p_fi f n x)) n = true := by
  cases h : p_fi f n x with
  | none => exact Or.inl rfl
  | some j => exact Or.inr ((q_rg_ex hn).mpr ⟨j, (p_fi_lt h).1, rfl⟩)
section PR
variable {K P X : Nat → Nat} {U : Nat → Int64} {e : Nat} {k0 k : q_Hp} {s : y_S}
theorem p_tl_679 {i n j : Nat} {kd b ty : Int32} : qA (p_tl P U i n kd b ty k0) 679 j = if j = n then kd else qA k0 679 j := by
  unfold p_tl
  rw [qA_sI, qA_sAn (by decide), qA_sAn (by decide), qA_sAn (by decide), qA_sA, qA_sL, p_dw_A]
  by_cases h : j = n
  · rw [if_pos ⟨rfl, h⟩, if_pos h]
  · rw [if_neg (fun h9 => h h9.2), if_neg h]
theorem p_tl_680 {i n j : Nat} {kd b ty : Int32} : qA (p_tl P U i n kd b ty k0) 680 j = if j = n then b else qA k0 680 j := by
  unfold p_tl
  rw [qA_sI, qA_sAn (by decide), qA_sAn (by decide), qA_sA, qA_sAn (by decide), qA_sL, p_dw_A]
  by_cases h : j = n
  · rw [if_pos ⟨rfl, h⟩, if_pos h]
  · rw [if_neg (fun h9 => h h9.2), if_neg h]
theorem p_tl_681 {i n j : Nat} {kd b ty : Int32} : qA (p_tl P U i n kd b ty k0) 681 j = if j = n then ty else qA k0 681 j := by
  unfold p_tl
  rw [qA_sI, qA_sAn (by decide), qA_sA, qA_sAn (by decide), qA_sAn (by decide), qA_sL, p_dw_A]
  by_cases h : j = n
  · rw [if_pos ⟨rfl, h⟩, if_pos h]
  · rw [if_neg (fun h9 => h h9.2), if_neg h]
theorem p_tl_682 {i n j : Nat} {kd b ty : Int32} : qA (p_tl P U i n kd b ty k0) 682 j = if j = n then 0 else qA k0 682 j := by
  unfold p_tl
  rw [qA_sI, qA_sA, qA_sAn (by decide), qA_sAn (by decide), qA_sAn (by decide), qA_sL, p_dw_A]
  by_cases h : j = n
  · rw [if_pos ⟨rfl, h⟩, if_pos h]
  · rw [if_neg (fun h9 => h h9.2), if_neg h]
theorem p_tl_678 {i n j : Nat} {kd b ty : Int32} : qL (p_tl P U i n kd b ty k0) 678 j = if j = n then U i else qL k0 678 j := by
  unfold p_tl
  show qL (q_sL (p_dw P i (p_fi (qL k0 678) n (U i)) k0) 678 n (U i)) 678 j = _
  rw [qL_sL, p_dw_L]
  by_cases h : j = n
  · rw [if_pos ⟨rfl, h⟩, if_pos h]
  · rw [if_neg (fun h9 => h h9.2), if_neg h]
theorem p_V.tl {nt L i : Nat} {kd b ty : Int32} (V : p_V nt L k0) (h1 : ty = -1 ∨ q_rg ty nt = true) (h2 : kd = 1 → ∃ a, a < 6 ∧ b = nI a) : p_V nt (L + 1) (p_tl P U i L kd b ty k0) := by
  refine ⟨fun j hj => ?_, fun j hj => ?_⟩
  · rw [p_tl_681]
    by_cases h : j = L
    · rw [if_pos h]; exact h1
    · rw [if_neg h]; exact V.1 j (by omega)
  · rw [p_tl_679, p_tl_680]
    by_cases h : j = L
    · rw [if_pos h, if_pos h]; exact h2
    · rw [if_neg h, if_neg h]; exact V.2 j (by omega)
theorem p_V.le {nt L L' : Nat} (V : p_V nt L k0) (h : L' ≤ L) : p_V nt L' k0 := ⟨fun j hj => V.1 j (by omega), fun j hj => V.2 j (by omega)⟩
theorem p_W.no {nt ns L d r n : Nat} (W : p_W nt ns L d k0) (hn : nt ≤ 12) : p_W nt ns (L + 1) d (p_no P U nt r n L s k0) := by
  obtain ⟨w1, w2, w3, w4, w5⟩ := W
  have I1 : ∀ {j}, ¬ j = 15 ∧ ¬ j = 16 ∧ ¬ j = 68 → qI (p_no P U nt r n L s k0) 630 j = qI k0 630 j := by
    intro j h
    unfold p_no
    rw [qI_sA, qI_sA, p_tl_I h, p_fw_I ⟨h.1, h.2.1⟩]
  refine ⟨(I1 (by decide)).trans w1, (I1 (by decide)).trans w2, ?_, ?_, (I1 (by decide)).trans w5.1, (I1 (by decide)).trans w5.2.1, by unfold p_no; rw [qI_sA, qI_sA, p_tl_68]⟩
  · unfold p_no
    rw [qA_sAn (by decide), qA_sAn (by decide), p_tl_A (by decide), p_fw_A]
    exact w3
  · have : p_V nt L (p_fw P (s.1 + 3) (p_fi (qL k0 674) nt (U (s.1 + 3))) k0) := w4.c (by rw [p_fw_A]) (by rw [p_fw_A]) (by rw [p_fw_A])
    exact (p_V.tl (P := P) (U := U) (i := s.1 + 1) (kd := 0) (b := nI n) this (q_on_rg (by omega)) (fun h => absurd h (by decide))).c (by unfold p_no; rw [qA_sAn (by decide), qA_sAn (by decide)]) (by unfold p_no; rw [qA_sAn (by decide), qA_sAn (by decide)]) (by unfold p_no; rw [qA_sAn (by decide), qA_sAn (by decide)])
theorem p_W.li {nt ns L d r l : Nat} (W : p_W nt ns L d k0) (hl : l < 6) : p_W nt ns (L + 1) d (p_li P U ns r l L s k0) := by
  obtain ⟨w1, w2, w3, w4, w5⟩ := W
  have I1 : ∀ {j}, ¬ j = 15 ∧ ¬ j = 16 ∧ ¬ j = 68 → qI (p_li P U ns r l L s k0) 630 j = qI k0 630 j := by
    intro j h
    unfold p_li
    rw [qI_sA, p_tl_I h, p_l3_I ⟨h.1, h.2.1⟩]
  refine ⟨(I1 (by decide)).trans w1, (I1 (by decide)).trans w2, ?_, ?_, (I1 (by decide)).trans w5.1, (I1 (by decide)).trans w5.2.1, by unfold p_li; rw [qI_sA, p_tl_68]⟩
  · unfold p_li
    rw [qA_sAn (by decide), p_tl_A (by decide), p_l3_A (by decide)]
    exact w3
  · have : p_V nt L (p_l3 P U ns L (6 * (20 + r) + l) 645 646 647 s k0) := w4.c (p_l3_A (by decide)) (p_l3_A (by decide)) (p_l3_A (by decide))
    exact (p_V.tl (P := P) (U := U) (i := s.1 + 1) (kd := 1) (b := nI l) this (Or.inl rfl) (fun _ => ⟨l, hl, rfl⟩)).c (by unfold p_li; rw [qA_sAn (by decide)]) (by unfold p_li; rw [qA_sAn (by decide)]) (by unfold p_li; rw [qA_sAn (by decide)])
theorem p_W.c {nt ns L d : Nat} {k' : q_Hp} (W : p_W nt ns L d k0) (h1 : ∀ j, j = 12 ∨ j = 18 ∨ j = 19 ∨ j = 22 ∨ j = 68 → qI k' 630 j = qI k0 630 j) (h2 : ∀ x, x = 638 ∨ x = 679 ∨ x = 680 ∨ x = 681 → qA k' x = qA k0 x) : p_W nt ns L d k' := by
  obtain ⟨w1, w2, w3, w4, w5⟩ := W
  refine ⟨(h1 18 (by omega)).trans w1, (h1 19 (by omega)).trans w2, ?_, w4.c (h2 _ (by omega)) (h2 _ (by omega)) (h2 _ (by omega)), (h1 22 (by omega)).trans w5.1, (h1 12 (by omega)).trans w5.2.1, (h1 68 (by omega)).trans w5.2.2⟩
  rw [h2 638 (by omega)]
  exact w3
/-- the first part of a rule: nodes, links, merges -/
def p_lf (K P : Nat → Nat) (U : Nat → Int64) (nt ns r : Nat) : Nat → Nat → Nat → y_S → q_Hp → q_Hp
  | 0, _, _, _, k => k
  | m + 1, n, l, s, k => if y_is K 6 s = true then p_lf K P U nt ns r m (n + 1) l (y_no K (decide (n < 4)) s) (p_no P U nt r n (n + l) s k) else if y_is K 7 s = true then p_lf K P U nt ns r m n (l + 1) (y_li K (decide (l < 6)) s) (p_li P U ns r l (n + l) s k) else if y_is K 8 s = true then p_lf K P U nt ns r m n l (y_nd K 26 (y_ps s)) (q_sA k 643 (20 + r) 1) else k
/-- a rule, behind its head, with so many nodes and links told -/
def p_Lf (nt ns r n l d : Nat) (s : y_S) (k : q_Hp) : Prop := p_W nt ns (n + l) d k ∧ qA k 641 (20 + r) = nI n ∧ qA k 642 (20 + r) = nI l ∧ n ≤ 4 ∧ l ≤ 6 ∧ d ≤ s.1 ∧ qA k 648 (20 + r) = 0 ∧ qA k 654 (20 + r) = 0 ∧ qA k 659 (20 + r) = 0
theorem p_Lf.no {nt ns r n l d : Nat} {s' : y_S} (H : p_Lf nt ns r n l d s k0) (hn : nt ≤ 12) (h4 : n < 4) (hs : s.1 ≤ s'.1) : p_Lf nt ns r (n + 1) l d s' (p_no P U nt r n (n + l) s k0) := by
  obtain ⟨W, h1, h2, h3, h5, h6, h7, h8, h9⟩ := H
  have A1 : ∀ {x}, ¬ x = 641 → ¬ x = 644 → (¬ x = 679 ∧ ¬ x = 680 ∧ ¬ x = 681 ∧ ¬ x = 682) → qA (p_no P U nt r n (n + l) s k0) x = qA k0 x := by
    intro x a b c
    unfold p_no
    rw [qA_sAn a, qA_sAn b, p_tl_A c, p_fw_A]
  have W' := p_W.no W (P := P) (U := U) (r := r) (n := n) (s := s) hn
  rw [show n + l + 1 = n + 1 + l by omega] at W'
  refine ⟨W', ?_, ?_, by omega, h5, by omega, ?_, ?_, ?_⟩
  · unfold p_no
    rw [qA_sA, if_pos ⟨rfl, rfl⟩]
  · rw [A1 (by decide) (by decide) (by decide)]; exact h2
  · rw [A1 (by decide) (by decide) (by decide)]; exact h7
  · rw [A1 (by decide) (by decide) (by decide)]; exact h8
  · rw [A1 (by decide) (by decide) (by decide)]; exact h9
theorem p_Lf.li {nt ns r n l d : Nat} {s' : y_S} (H : p_Lf nt ns r n l d s k0) (h6 : l < 6) (hs : s.1 ≤ s'.1) : p_Lf nt ns r n (l + 1) d s' (p_li P U ns r l (n + l) s k0) := by
  obtain ⟨W, h1, h2, h3, h5, h6, h7, h8, h9⟩ := H
  have A1 : ∀ {x}, ¬ x = 642 → (¬ x = 679 ∧ ¬ x = 680 ∧ ¬ x = 681 ∧ ¬ x = 682) → (¬ x = 645 ∧ ¬ x = 646 ∧ ¬ x = 647) → qA (p_li P U ns r l (n + l) s k0) x = qA k0 x := by
    intro x a b c
    unfold p_li
    rw [qA_sAn a, p_tl_A b, p_l3_A c]
  refine ⟨p_W.li W (P := P) (U := U) (r := r) (s := s) (by omega), ?_, ?_, h3, by omega, by omega, ?_, ?_, ?_⟩
  · rw [A1 (by decide) (by decide) (by decide)]; exact h1
  · unfold p_li
    rw [qA_sA, if_pos ⟨rfl, rfl⟩]
  · rw [A1 (by decide) (by decide) (by decide)]; exact h7
  · rw [A1 (by decide) (by decide) (by decide)]; exact h8
  · rw [A1 (by decide) (by decide) (by decide)]; exact h9
theorem p_Lf.me {nt ns r n l d : Nat} {s' : y_S} (H : p_Lf nt ns r n l d s k0) (hs : s.1 ≤ s'.1) : p_Lf nt ns r n l d s' (q_sA k0 643 (20 + r) 1) := by
  obtain ⟨W, h1, h2, h3, h5, h6, h7, h8, h9⟩ := H
  refine ⟨p_W.c W (fun _ _ => rfl) (fun x hx => qA_sAn (by omega)), ?_, ?_, h3, h5, by omega, ?_, ?_, ?_⟩
  all_goals rw [qA_sAn (by decide)]; assumption
theorem s265_129x {Q : Option Value → q_Hp → Prop} {x1 x2 : Int32} (Y : p_y K P X U e k0 k s) (h6 : y_is K 6 s = false) (h7 : y_is K 7 s = false) (h8 : y_is K 8 s = false) (w : q_wp 6 265 209 [some (.ref 630), some (.int x1), some (.int x2)] [] k Q) : q_wp 6 265 129 [some (.ref 630), some (.int x1), some (.int x2)] [] k Q := by
  refine b265_129 (s249 (c := 6) Y (by decide) rfl) (by decide) ?_
  rintro z h2 ⟨e0, rfl⟩
  subst h2
  refine b265_135 (fun c => absurd (b2i_ne.mp c) (by rw [h6]; decide)) (fun _ => b265_138 (s249 (c := 7) Y (by decide) rfl) (by decide) ?_)
  rintro z h2 ⟨e0, rfl⟩
  subst h2
  refine b265_144 (fun c => absurd (b2i_ne.mp c) (by rw [h7]; decide)) (fun _ => b265_147 (s249 (c := 8) Y (by decide) rfl) (by decide) ?_)
  rintro z h2 ⟨e0, rfl⟩
  subst h2
  exact b265_153 (fun _ => w) (fun c => absurd (b2i_ne.mp c) (by rw [h8]; decide))
theorem s265_129y {Q : Option Value → q_Hp → Prop} {x1 x2 : Int32} (Y : p_y K P X U e k0 k s) (h : y_is K 6 s = true ∨ y_is K 7 s = true ∨ y_is K 8 s = true) (w : q_wp 6 265 156 [some (.ref 630), some (.int x1), some (.int x2)] [] k Q) : q_wp 6 265 129 [some (.ref 630), some (.int x1), some (.int x2)] [] k Q := by
  refine b265_129 (s249 (c := 6) Y (by decide) rfl) (by decide) ?_
  rintro z h2 ⟨e0, rfl⟩
  subst h2
  refine b265_135 (fun _ => w) (fun c1 => b265_138 (s249 (c := 7) Y (by decide) rfl) (by decide) ?_)
  rintro z h2 ⟨e0, rfl⟩
  subst h2
  refine b265_144 (fun _ => w) (fun c2 => b265_147 (s249 (c := 8) Y (by decide) rfl) (by decide) ?_)
  rintro z h2 ⟨e0, rfl⟩
  subst h2
  refine b265_153 (fun c3 => ?_) (fun _ => w)
  rw [b2i_eq.mp c1, b2i_eq.mp c2, b2i_eq.mp c3] at h
  simp at h
theorem s265_129 {kb : q_Hp} {Q : Option Value → q_Hp → Prop} {r nt ns d : Nat} {x1 : Int32} (hr : r < 20) (ht12 : nt ≤ 12) (hs12 : ns ≤ 12) : ∀ m n l s k0 k, (s.2 = 0 → 1201 ≤ m + s.1) → (s.2 = 0 → p_Lf nt ns r n l d s k0) → p_y K P X U e k0 k s → p_fr kb k0 → (∀ k1 k, p_y K P X U e k1 k (y_le K 4 6 true m n l s) → p_fr kb k1 → ((y_le K 4 6 true m n l s).2 = 0 → k1 = p_lf K P U nt ns r m n l s k0 ∧ ∃ n' l', p_Lf nt ns r n' l' d (y_le K 4 6 true m n l s) k1) → q_wp 6 265 209 [some (.ref 630), some (.int x1), some (.int (nI (20 + r)))] [] k Q) → q_wp 6 265 129 [some (.ref 630), some (.int x1), some (.int (nI (20 + r)))] [] k Q := by
  intro m
  induction m with
  | zero =>
    intro n l s k0 k hm H Y F cont
    by_cases hs : s.2 = 0
    · have := hm hs
      have := Y.le
      have := Y.e12
      omega
    · exact s265_129x Y (y_is_f hs) (y_is_f hs) (y_is_f hs) (cont k0 k Y F (fun h9 => absurd h9 hs))
  | succ m ih =>
    intro n l s k0 k hm H Y F cont
    have e12 := Y.e12
    have le := Y.le
    have cl : (nI (20 + r) : Int32).toNatClampNeg = 20 + r := nI_clamp (by omega)
    unfold y_le p_lf at cont
    by_cases c6 : y_is K 6 s = true
    · rw [if_pos c6, if_pos c6] at cont
      obtain ⟨hs, _⟩ := y_is_c.mp c6
      have hm := hm hs
      have H := H hs
      refine s265_129y Y (Or.inl c6) (b265_156 (s249 (c := 6) Y (by decide) rfl) (by decide) ?_)
      rintro z h2 ⟨e0, rfl⟩
      subst h2
      refine b265_162 (fun c => absurd c6 (by rw [b2i_eq.mp c]; decide)) (fun _ => ?_)
      have W := H.1
      refine b265_165 (s266 (nt := nt) (r := r) (n := n) (L := n + l) Y (y_is_lt (by decide) c6) hr H.2.1 H.2.2.2.1 W.1 ht12 W.2.2.2.2.2.2 (by have := H.2.2.2.1; have := H.2.2.2.2.1; omega) rfl) (by decide) ?_
      rintro k ⟨k1, Y, F1, h1⟩
      have to : y_to s (y_no K (decide (n < 4)) s) := y_to.rf.no
      refine b265_170 (ih (n + 1) l _ k1 k (fun h9 => ?_) (fun h9 => ?_) Y (F.trans F1) (fun k2 k Y F2 h2 => cont k2 k Y F2 (fun h9 => ?_)))
      · have := y_no_1 h9
        omega
      · rw [h1 h9]
        have a1 := y_nd_z (y_nd_z (y_nd_z h9))
        exact H.no ht12 (of_decide_eq_true (y_hd a1).2.2.1) to.1
      · have h10 := (y_to.le m (n + 1) l _ _ (y_to.rf (s := y_no K (decide (n < 4)) s))).2.1 h9
        rw [← h1 h10]
        exact h2 h9
    rw [if_neg c6, if_neg c6] at cont
    by_cases c7 : y_is K 7 s = true
    · rw [if_pos c7, if_pos c7] at cont
      obtain ⟨hs, _⟩ := y_is_c.mp c7
      have hm := hm hs
      have H := H hs
      refine s265_129y Y (Or.inr (Or.inl c7)) (b265_156 (s249 (c := 6) Y (by decide) rfl) (by decide) ?_)
      rintro z h2 ⟨e0, rfl⟩
      subst h2
      refine b265_162 (fun _ => b265_173 (s249 (c := 7) Y (by decide) rfl) (by decide) ?_) (fun c => absurd (b2i_ne.mp c) c6)
      rintro z h2 ⟨e0, rfl⟩
      subst h2
      refine b265_179 (fun c => absurd c7 (by rw [b2i_eq.mp c]; decide)) (fun _ => ?_)
      have W := H.1
      refine b265_182 (s268 (ns := ns) (r := r) (l := l) (L := n + l) Y (y_is_lt (by decide) c7) hr H.2.2.1 H.2.2.2.2.1 W.2.1 hs12 W.2.2.2.2.2.2 (by have := H.2.2.2.1; have := H.2.2.2.2.1; omega) rfl) (by decide) ?_
      rintro k ⟨k1, Y, F1, h1⟩
      have to : y_to s (y_li K (decide (l < 6)) s) := y_to.rf.li
      refine b265_187 (ih n (l + 1) _ k1 k (fun h9 => ?_) (fun h9 => ?_) Y (F.trans F1) (fun k2 k Y F2 h2 => cont k2 k Y F2 (fun h9 => ?_)))
      · have := y_li_1 h9
        omega
      · rw [h1 h9]
        have aw : (y_wy K (y_nd K 25 (y_nn K (decide (l < 6)) (y_ps s)))).2 = 0 := y_nd_z h9
        have a2 : (y_nd K 25 (y_nn K (decide (l < 6)) (y_ps s))).2 = 0 := (y_to.wy (K := K) (y_to.rf (s := y_nd K 25 (y_nn K (decide (l < 6)) (y_ps s))))).2.1 aw
        exact H.li (of_decide_eq_true (y_hd (y_nd_z a2)).2.2.1) to.1
      · have h10 := (y_to.le m n (l + 1) _ _ (y_to.rf (s := y_li K (decide (l < 6)) s))).2.1 h9
        rw [← h1 h10]
        exact h2 h9
    rw [if_neg c7, if_neg c7] at cont
    by_cases c8 : y_is K 8 s = true
    · rw [if_pos ⟨rfl, c8⟩, if_pos c8] at cont
      obtain ⟨hs, _⟩ := y_is_c.mp c8
      have hm := hm hs
      have H := H hs
      refine s265_129y Y (Or.inr (Or.inr c8)) (b265_156 (s249 (c := 6) Y (by decide) rfl) (by decide) ?_)
      rintro z h2 ⟨e0, rfl⟩
      subst h2
      refine b265_162 (fun _ => b265_173 (s249 (c := 7) Y (by decide) rfl) (by decide) ?_) (fun c => absurd (b2i_ne.mp c) c6)
      rintro z h2 ⟨e0, rfl⟩
      subst h2
      refine b265_179 (fun _ => b265_190 (s252 Y (y_is_lt (by decide) c8)) (by decide) ?_) (fun c => absurd (b2i_ne.mp c) c7)
      intro k Y
      refine b265_194 (s253 (c := 26) Y (by decide) rfl) (by decide) ?_
      intro k Y
      have to : y_to s (y_nd K 26 (y_ps s)) := y_to.rf.ps.nd
      have Y1 := Y.sA (a := 643) (i := 20 + r) (v := 1) rfl
      refine b265_199 (v0 := 643) (Y.sh.ok rfl) (Y.sh.ref rfl) (Y.sh.ok rfl) (Y.sh.inN (n := 40) rfl (by omega) (by decide)) ?_
      rw [cl, show vp_nar .boolean (1 : Int32) = 1 by decide]
      refine ih n l _ _ _ (fun h9 => ?_) (fun h9 => H.me to.1) Y1 (F.sA rfl (Nat.le_add_right 20 r)) cont
      have := y_to.p1 y_to.rf y_to.rf.nd h9
      omega
    rw [if_neg (fun h9 => c8 h9.2), if_neg c8] at cont
    refine s265_129x Y (Bool.eq_false_iff.mpr c6) (Bool.eq_false_iff.mpr c7) (Bool.eq_false_iff.mpr c8) (cont k0 k Y F (fun h9 => ⟨rfl, n, l, H h9⟩))
end PR
