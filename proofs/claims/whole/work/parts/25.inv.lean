/-! THE RELATION of the two sides between two calls -/
/-- so many frames of kind 0 among the first -/
def q_pr (kd : Nat → Nat) (d : Nat) : Nat := q_cnt (fun f => kd f == 0) d
/-- the frames of a run: kinds, openers, turns, what comes next, begun, how many were applied, level -/
def r_F (h : q_Hp) (B : q_Bk) (a s u d : Nat) (kd op tu nx ap : Nat → Nat) (bg : Nat → Bool) (lv : Nat → Nat) : Prop :=
  1 ≤ d ∧ d ≤ 9 * q_pr kd d ∧ q_pr kd d ≤ 20 ∧ qI h 614 7 = nI d ∧ qI h 630 106 = nI d ∧ qI h 614 8 = nI (q_pr kd d) ∧ kd 0 = 0 ∧ op 0 = 0 ∧
  (∀ f, f < d → kd f < 5 ∧ qA h 615 f = nI (kd f) ∧ qA h 703 f = nI (if kd f = 4 then 3 else kd f) ∧ op f ≤ bN B 5 ∧ qA h 616 f = oN (op f) ∧ qA h 704 f = oN (op f) ∧ (0 < f → 0 < op f) ∧
    qA h 617 f = nI (tu f) ∧ tu f ≤ u ∧ qA h 707 f = (if bg f = true then 1 else 0) ∧ (bg f = true → nx f ≤ bN B 5 ∧ qA h 705 f = oN (nx f)) ∧
    qA h 708 f = nI (ap f) ∧ ap f ≤ a ∧ (0 < f → ap (f - 1) ≤ ap f) ∧
    (f = 0 ∨ kd f = 3 ∨ (kd f = 1 ∧ 0 < tu f) → qA h 618 f = nI (ap f + (s - a)) ∧ q_dg (bN B 0) (bN B 1) (fun i => qA h 619 (f * 156 + i)) (fun i => qA h 709 (156 * f + i))) ∧
    (f + 1 < d → bg f = true ∧ nx f = bD B (op (f + 1) - 1) 2) ∧ (bg f = false → kd f = 1 ∨ kd f = 2) ∧
    (kd f = 0 → 0 < f → bD B (op f - 1) 0 = 3) ∧ (kd f = 1 → bD B (op f - 1) 0 = 5 ∧ (bg f = true → 0 < tu f)) ∧
    (kd f = 2 → bD B (op f - 1) 0 = 6 ∧ (bg f = true → 0 < tu f ∧ tu f ≤ bD B (op f - 1) 1 ∧ qA h 706 f = nI (tu f - 1)) ∧ (bg f = false → tu f < bD B (op f - 1) 1 ∧ qA h 706 f = nI (tu f))) ∧
    (kd f = 3 → bD B (op f - 1) 0 = 7 ∧ qA h 706 f = 0) ∧ (kd f = 4 → bD B (op f - 1) 0 = 7 ∧ (qA h 706 f = 1 ∨ qA h 706 f = 2)) ∧
    lv f ≤ 8 ∧ (kd f = 0 → lv f = 0) ∧ (0 < f → ¬ kd f = 0 → lv f = lv (f - 1) + 1)) ∧
  (bg (d - 1) = true → qI h 614 6 = oN (nx (d - 1))) ∧
  (bg (d - 1) = false → qI h 614 6 = -1 ∧ (kd (d - 1) = 1 → tu (d - 1) = 0 ∨ ap (d - 1) < a)) ∧
  (∃ lev : Nat → Nat, (∀ f, f < d → (bg f = true → 0 < nx f → lev (nx f - 1) = lv f) ∧ (0 < f → ¬ kd f = 0 → lev (op f - 1) + 1 = lv f) ∧ (0 < f → lev (op f - 1) = lv (f - 1))) ∧
    (∀ p, p < bN B 3 → 0 < bP B p → lev (bP B p - 1) = 0) ∧
    ∀ e, e < bN B 5 → lev e ≤ 8 ∧ (5 ≤ bD B e 0 → lev e < 8) ∧ (bD B e 2 = 0 ∨ lev (bD B e 2 - 1) = lev e) ∧ (5 ≤ bD B e 0 → ∀ k, 3 ≤ k → k < 6 → bD B e k = 0 ∨ lev (bD B e k - 1) = lev e + 1))
/-- the run of a proc -/
def r_X (h : q_Hp) (b : Nat) (B : q_Bk) (a s u : Nat) : Prop :=
  qI h 614 4 = qI h 630 104 ∧ qI h 614 5 = qI h 630 105 ∧
  (qI h 614 4 = 4 → qR h 614 3 = b ∧ ∃ (d : Nat) (kd op tu nx ap : Nat → Nat) (bg : Nat → Bool) (lv : Nat → Nat), r_F h B a s u d kd op tu nx ap bg lv)
def r_T (h : q_Hp) : Prop := ∃ n, n ≤ 4000 ∧ qI h 1 1 = nI n ∧ qI h 630 2 = nI n ∧ ∀ i, i < n → qA h 2 i = qA h 631 i
def r_P (h : q_Hp) : Prop := qI h 1 2 = qI h 630 17
def r_H (h : q_Hp) (T S a l t s u : Nat) : Prop :=
  qI h 630 91 = nI a ∧ qI h 630 92 = nI l ∧ l ≤ a ∧ a ≤ l + 100 ∧ qI h 599 2 = nI t ∧ t < 101 ∧ qI h 599 3 = nI (a - l) ∧ qI h 599 4 = nI s ∧ a ≤ s ∧ s ≤ u ∧
  ∀ j, 1 ≤ j → j ≤ a - l → q_dg T S (fun i => qA h 600 (q_back t j * 156 + i)) (fun i => qA h 692 (156 * ((a - j) % 101) + i))
def r_K (h : q_Hp) (T S : Nat) : Prop := ∀ k, k < 4 → qA h 621 k = qA h 694 k ∧ (qA h 621 k = 0 ∨ qA h 621 k = 1) ∧ (qA h 621 k = 1 → q_dg T S (fun i => qA h 620 (k * 156 + i)) (fun i => qA h 693 (156 * k + i)))
def r_M (h : q_Hp) : Prop := ∃ n l, n ≤ 4 ∧ l ≤ 6 ∧ qI h 601 14 = nI n ∧ qI h 630 95 = nI n ∧ qI h 601 15 = nI l ∧ qI h 630 96 = nI l ∧ (∀ i, i < n → qA h 608 i = qA h 697 i) ∧ ∀ i, i < l → qA h 609 i = qA h 698 i
/-- the rows of the words, which nothing changes -/
def r_C (h : q_Hp) (W K : Nat → Int64) : Prop := (∀ i, i < 25 → qL h 4 i = W i) ∧ ∀ i, i < 25 → qL h 637 i = K i
def r_Q (W K : Nat → Int64) (h : q_Hp) (u b : Nat) (B : q_Bk) (a l t s : Nat) : Prop :=
  q_Sh h ∧ r_C h W K ∧ r_T h ∧ r_P h ∧ r_M h ∧ q_isB b ∧ (qR h 1 5 = b ∧ qR h 1 6 = 311 - b) ∧ q_wB B ∧ r_cB h b B ∧ r_mB h B ∧
    q_dg (bN B 0) (bN B 1) (qA h 598) (qA h 691) ∧ r_H h (bN B 0) (bN B 1) a l t s u ∧ r_K h (bN B 0) (bN B 1) ∧ r_X h b B a s u
def r_R (W K : Nat → Int64) (h : q_Hp) (u : Nat) : Prop := ∃ (b : Nat) (B : q_Bk) (a l t s : Nat), r_Q W K h u b B a l t s
/-! what is done to a diagram keeps the two rows the same -/
theorem upd_ne {f : Nat → Int32} {i j : Nat} {v : Int32} (h : ¬ j = i) : upd f i v j = f j := by unfold upd; rw [if_neg h]
theorem upd_eq {f : Nat → Int32} {i : Nat} {v : Int32} : upd f i v i = v := by unfold upd; rw [if_pos rfl]
theorem qA_sAu (h : q_Hp) (c i : Nat) (v : Int32) : qA (q_sA h c i v) c = upd (qA h c) i v := by rw [q_sA_wA, qA_wAs]
theorem d_absent {T S i : Nat} {f g : Nat → Int32} (D : q_dr T S f g) (hT : T ≤ 12) (hi : i < 12) (h1 : f i = -1) : f (12 + i) = 0 ∧ f (24 + i) = 0 := by
  rcases D.1 i hi with h2 | ⟨t, ht, h2⟩
  · exact h2.2
  · rw [h1] at h2
    exact absurd h2.symm (q_on_ne (by omega))
theorem q_dr.newN {T S i t : Nat} {f g : Nat → Int32} (D : q_dr T S f g) (hT : T ≤ 12) (hi : i < 12) (h1 : f i = -1) (ht : t < T) : q_dr T S (upd f i (nI t)) (upd (upd (upd g i (nI t)) (12 + i) 0) (24 + i) 0) := by
  obtain ⟨z1, z2⟩ := d_absent D hT hi h1
  refine ⟨fun j hj => ?_, fun j hj => ?_, fun j hj => ?_, fun j hj => ?_⟩
  · by_cases h2 : j = i
    · subst h2
      exact Or.inr ⟨t, ht, upd_eq⟩
    · rw [upd_ne h2, upd_ne (show ¬ 12 + j = i by omega), upd_ne (show ¬ 24 + j = i by omega)]
      exact D.1 j hj
  · rw [upd_ne (show ¬ 36 + j = i by omega), upd_ne (show ¬ 76 + j = i by omega), upd_ne (show ¬ 116 + j = i by omega)]
    exact D.2.1 j hj
  · by_cases h4 : j = 24 + i
    · subst h4
      rw [upd_eq, upd_ne (show ¬ 24 + i = i by omega), z2]
    · rw [upd_ne h4]
      by_cases h3 : j = 12 + i
      · subst h3
        rw [upd_eq, upd_ne (show ¬ 12 + i = i by omega), z1]
      · rw [upd_ne h3]
        by_cases h2 : j = i
        · subst h2
          rw [upd_eq, upd_eq]
        · rw [upd_ne h2, upd_ne h2]
          exact D.2.2.1 j hj
  · rw [upd_ne (show ¬ 36 + j = i by omega), upd_ne (show ¬ 76 + j = i by omega), upd_ne (show ¬ 116 + j = i by omega)]
    rw [upd_ne (show ¬ 76 + j = 24 + i by omega), upd_ne (show ¬ 76 + j = 12 + i by omega), upd_ne (show ¬ 76 + j = i by omega), upd_ne (show ¬ 116 + j = 24 + i by omega), upd_ne (show ¬ 116 + j = 12 + i by omega), upd_ne (show ¬ 116 + j = i by omega)]
    exact D.2.2.2 j hj
theorem q_de.newN {T S i t : Nat} {f g : Nat → Int32} (E : q_de f) (D : q_dr T S f g) (hT : T ≤ 12) (hi : i < 12) (ht : t < T) : q_de (upd f i (nI t)) := by
  intro j hj h1
  rw [upd_ne (show ¬ 36 + j = i by omega)] at h1
  rw [upd_ne (show ¬ 76 + j = i by omega), upd_ne (show ¬ 116 + j = i by omega)]
  have key : ∀ x, ¬ f x = -1 → ¬ upd f i (nI t) x = -1 := by
    intro x hx
    unfold upd
    split
    · exact q_on_ne (by omega)
    · exact hx
  exact ⟨key _ (E j hj h1).1, key _ (E j hj h1).2⟩
/-- a link's three cells -/
def u_lnk (f : Nat → Int32) (i : Nat) (s a b : Int32) : Nat → Int32 := upd (upd (upd f (36 + i) s) (76 + i) a) (116 + i) b
theorem u_lnk_lo {f : Nat → Int32} {i j : Nat} {s a b : Int32} (hj : j < 36) : u_lnk f i s a b j = f j := by
  unfold u_lnk
  rw [upd_ne (by omega), upd_ne (by omega), upd_ne (by omega)]
theorem u_lnk_s {f : Nat → Int32} {i j : Nat} {s a b : Int32} (hi : i < 40) (hj : j < 40) : u_lnk f i s a b (36 + j) = if j = i then s else f (36 + j) := by
  unfold u_lnk
  rw [upd_ne (by omega), upd_ne (by omega)]
  unfold upd
  by_cases h : j = i
  · rw [if_pos h, if_pos (by omega)]
  · rw [if_neg h, if_neg (by omega)]
theorem u_lnk_f {f : Nat → Int32} {i j : Nat} {s a b : Int32} (hi : i < 40) (hj : j < 40) : u_lnk f i s a b (76 + j) = if j = i then a else f (76 + j) := by
  unfold u_lnk
  rw [upd_ne (by omega)]
  by_cases h : j = i
  · rw [if_pos h, h, upd_eq]
  · rw [if_neg h, upd_ne (by omega), upd_ne (by omega)]
theorem u_lnk_t {f : Nat → Int32} {i j : Nat} {s a b : Int32} (hi : i < 40) (hj : j < 40) : u_lnk f i s a b (116 + j) = if j = i then b else f (116 + j) := by
  unfold u_lnk
  by_cases h : j = i
  · rw [if_pos h, h, upd_eq]
  · rw [if_neg h, upd_ne (by omega), upd_ne (by omega), upd_ne (by omega)]
theorem qA_lnk3 (h : q_Hp) (c i : Nat) (s a b : Int32) : qA (d_lnk3 h c i s a b) c = u_lnk (qA h c) i s a b := by
  unfold d_lnk3 u_lnk
  rw [qA_sAu, qA_sAu, qA_sAu]
theorem q_dr.newL {T S i s a b : Nat} {f g : Nat → Int32} (D : q_dr T S f g) (hi : i < 40) (hs : s < S) (ha : a < 12) (hb : b < 12) : q_dr T S (u_lnk f i (nI s) (nI a) (nI b)) (u_lnk g i (nI s) (nI a) (nI b)) := by
  refine ⟨fun j hj => ?_, fun j hj => ?_, fun j hj => ?_, fun j hj => ?_⟩
  · rw [u_lnk_lo (by omega), u_lnk_lo (by omega), u_lnk_lo (by omega)]
    exact D.1 j hj
  · rw [u_lnk_s hi hj, u_lnk_f hi hj, u_lnk_t hi hj]
    by_cases h : j = i
    · rw [if_pos h, if_pos h, if_pos h]
      exact Or.inr ⟨⟨s, hs, rfl⟩, ⟨a, ha, rfl⟩, b, hb, rfl⟩
    · rw [if_neg h, if_neg h, if_neg h]
      exact D.2.1 j hj
  · by_cases h : j < 36
    · rw [u_lnk_lo h, u_lnk_lo h]
      exact D.2.2.1 j hj
    · obtain ⟨k, rfl⟩ : ∃ k, j = 36 + k := ⟨j - 36, by omega⟩
      rw [u_lnk_s hi (by omega), u_lnk_s hi (by omega), D.2.2.1 (36 + k) hj]
  · rw [u_lnk_s hi hj, u_lnk_f hi hj, u_lnk_t hi hj, u_lnk_f hi hj, u_lnk_t hi hj]
    by_cases h : j = i
    · rw [if_pos h, if_pos h, if_pos h, if_pos h, if_pos h]
      exact fun _ => ⟨rfl, rfl⟩
    · rw [if_neg h, if_neg h, if_neg h, if_neg h, if_neg h]
      exact D.2.2.2 j hj
theorem q_dr.dropL {T S i : Nat} {f g : Nat → Int32} (D : q_dr T S f g) (hi : i < 40) : q_dr T S (u_lnk f i (-1) (-1) (-1)) (u_lnk g i (-1) 0 0) := by
  refine ⟨fun j hj => ?_, fun j hj => ?_, fun j hj => ?_, fun j hj => ?_⟩
  · rw [u_lnk_lo (by omega), u_lnk_lo (by omega), u_lnk_lo (by omega)]
    exact D.1 j hj
  · rw [u_lnk_s hi hj, u_lnk_f hi hj, u_lnk_t hi hj]
    by_cases h : j = i
    · rw [if_pos h]
      exact Or.inl rfl
    · rw [if_neg h, if_neg h, if_neg h]
      exact D.2.1 j hj
  · by_cases h : j < 36
    · rw [u_lnk_lo h, u_lnk_lo h]
      exact D.2.2.1 j hj
    · obtain ⟨k, rfl⟩ : ∃ k, j = 36 + k := ⟨j - 36, by omega⟩
      rw [u_lnk_s hi (by omega), u_lnk_s hi (by omega), D.2.2.1 (36 + k) hj]
  · rw [u_lnk_s hi hj, u_lnk_f hi hj, u_lnk_t hi hj, u_lnk_f hi hj, u_lnk_t hi hj]
    by_cases h : j = i
    · rw [if_pos h]
      exact fun h2 => absurd rfl h2
    · rw [if_neg h, if_neg h, if_neg h, if_neg h, if_neg h]
      exact D.2.2.2 j hj
theorem q_de.newL {i a b : Nat} {s : Int32} {f : Nat → Int32} (E : q_de f) (R : ∀ j, j < 40 → ¬ f (36 + j) = -1 → (∃ a, a < 12 ∧ f (76 + j) = nI a) ∧ ∃ a, a < 12 ∧ f (116 + j) = nI a) (hi : i < 40) (ha : a < 12) (hb : b < 12) (h1 : ¬ f a = -1) (h2 : ¬ f b = -1) : q_de (u_lnk f i s (nI a) (nI b)) := by
  intro j hj h3
  rw [u_lnk_s hi hj] at h3
  rw [u_lnk_f hi hj, u_lnk_t hi hj]
  by_cases h : j = i
  · rw [if_pos h, if_pos h, nI_clamp (by omega), nI_clamp (by omega), u_lnk_lo (by omega), u_lnk_lo (by omega)]
    exact ⟨h1, h2⟩
  · rw [if_neg h] at h3 ⊢
    rw [if_neg h]
    obtain ⟨⟨x, hx, ex⟩, y, hy, ey⟩ := R j hj h3
    have := E j hj h3
    rw [ex, ey, nI_clamp (by omega), nI_clamp (by omega)] at this ⊢
    rw [u_lnk_lo (by omega), u_lnk_lo (by omega)]
    exact this
theorem q_de.dropL {i : Nat} {a b : Int32} {f : Nat → Int32} (E : q_de f) (R : ∀ j, j < 40 → ¬ f (36 + j) = -1 → (∃ a, a < 12 ∧ f (76 + j) = nI a) ∧ ∃ a, a < 12 ∧ f (116 + j) = nI a) (hi : i < 40) : q_de (u_lnk f i (-1) a b) := by
  intro j hj h3
  rw [u_lnk_s hi hj] at h3
  rw [u_lnk_f hi hj, u_lnk_t hi hj]
  by_cases h : j = i
  · rw [if_pos h] at h3
    exact absurd rfl h3
  · rw [if_neg h] at h3 ⊢
    rw [if_neg h]
    obtain ⟨⟨x, hx, ex⟩, y, hy, ey⟩ := R j hj h3
    have := E j hj h3
    rw [ex, ey, nI_clamp (by omega), nI_clamp (by omega)] at this ⊢
    rw [u_lnk_lo (by omega), u_lnk_lo (by omega)]
    exact this
theorem q_dr.ends {T S : Nat} {f g : Nat → Int32} (D : q_dr T S f g) : ∀ j, j < 40 → ¬ f (36 + j) = -1 → (∃ a, a < 12 ∧ f (76 + j) = nI a) ∧ ∃ a, a < 12 ∧ f (116 + j) = nI a := by
  intro j hj h
  rcases D.2.1 j hj with h1 | h1
  · exact absurd h1 h
  · exact h1.2
theorem q_dr.num {T S k i : Nat} {v : Int32} {f g : Nat → Int32} (D : q_dr T S f g) (hi : i < 12) (h1 : ¬ f i = -1) (hk : k = 12 + i ∨ k = 24 + i) : q_dr T S (upd f k v) (upd g k v) := by
  refine ⟨fun j hj => ?_, fun j hj => ?_, fun j hj => ?_, fun j hj => ?_⟩
  · rw [upd_ne (show ¬ j = k by omega)]
    by_cases h2 : j = i
    · subst h2
      rcases D.1 j hj with h3 | h3
      · exact absurd h3.1 h1
      · exact Or.inr h3
    · rw [upd_ne (show ¬ 12 + j = k by omega), upd_ne (show ¬ 24 + j = k by omega)]
      exact D.1 j hj
  · rw [upd_ne (show ¬ 36 + j = k by omega), upd_ne (show ¬ 76 + j = k by omega), upd_ne (show ¬ 116 + j = k by omega)]
    exact D.2.1 j hj
  · unfold upd
    split
    · rfl
    · exact D.2.2.1 j hj
  · rw [upd_ne (show ¬ 36 + j = k by omega), upd_ne (show ¬ 76 + j = k by omega), upd_ne (show ¬ 116 + j = k by omega), upd_ne (show ¬ 76 + j = k by omega), upd_ne (show ¬ 116 + j = k by omega)]
    exact D.2.2.2 j hj
theorem q_de.num {T S k i : Nat} {v : Int32} {f g : Nat → Int32} (E : q_de f) (D : q_dr T S f g) (hi : i < 12) (hk : k = 12 + i ∨ k = 24 + i) : q_de (upd f k v) := by
  intro j hj h1
  rw [upd_ne (show ¬ 36 + j = k by omega)] at h1
  rw [upd_ne (show ¬ 76 + j = k by omega), upd_ne (show ¬ 116 + j = k by omega)]
  obtain ⟨⟨x, hx, ex⟩, y, hy, ey⟩ := D.ends j hj h1
  have := E j hj h1
  rw [ex, ey, nI_clamp (by omega), nI_clamp (by omega)] at this ⊢
  rw [upd_ne (show ¬ x = k by omega), upd_ne (show ¬ y = k by omega)]
  exact this
/-- a node that goes, on the class's side and on the reference's -/
def u_drN (f : Nat → Int32) (i : Nat) : Nat → Int32 := upd (upd (upd f (12 + i) 0) (24 + i) 0) i (-1)
def u_drM (f : Nat → Int32) (i : Nat) : Nat → Int32 := upd (upd (upd f i (-1)) (12 + i) 0) (24 + i) 0
theorem u_dr_eq (f : Nat → Int32) (i : Nat) : u_drM f i = u_drN f i := by
  funext x
  unfold u_drM u_drN upd
  by_cases h1 : x = i
  · rw [if_neg (show ¬ x = 24 + i by omega), if_neg (show ¬ x = 12 + i by omega), if_pos h1, if_pos h1]
  · by_cases h2 : x = 24 + i
    · rw [if_pos h2, if_neg h1, if_pos h2]
    · by_cases h3 : x = 12 + i
      · simp [h1, h2, h3]
      · simp [h1, h2, h3]
theorem u_drN_hi {f : Nat → Int32} {i j : Nat} (hi : i < 12) (hj : 36 ≤ j) : u_drN f i j = f j := by
  unfold u_drN
  rw [upd_ne (by omega), upd_ne (by omega), upd_ne (by omega)]
theorem u_drN_ne {f : Nat → Int32} {i j : Nat} (hj : j < 12) (h : ¬ j = i) : u_drN f i j = f j ∧ u_drN f i (12 + j) = f (12 + j) ∧ u_drN f i (24 + j) = f (24 + j) ∨ 12 ≤ i := by
  by_cases hi : 12 ≤ i
  · exact Or.inr hi
  · refine Or.inl ?_
    unfold u_drN
    rw [upd_ne (by omega), upd_ne (by omega), upd_ne (by omega), upd_ne (show ¬ 12 + j = i by omega), upd_ne (by omega), upd_ne (by omega), upd_ne (show ¬ 24 + j = i by omega), upd_ne (by omega), upd_ne (by omega)]
    exact ⟨rfl, rfl, rfl⟩
theorem q_dr.dropN {T S i : Nat} {f g : Nat → Int32} (D : q_dr T S f g) (hi : i < 12) : q_dr T S (u_drN f i) (u_drN g i) := by
  refine ⟨fun j hj => ?_, fun j hj => ?_, fun j hj => ?_, fun j hj => ?_⟩
  · by_cases h2 : j = i
    · subst h2
      refine Or.inl ?_
      unfold u_drN
      rw [upd_eq, upd_ne (show ¬ 12 + j = j by omega), upd_ne (show ¬ 12 + j = 24 + j by omega), upd_eq, upd_ne (show ¬ 24 + j = j by omega), upd_eq]
      exact ⟨rfl, rfl, rfl⟩
    · rcases u_drN_ne (f := f) hj h2 with h3 | h3
      · rw [h3.1, h3.2.1, h3.2.2]
        exact D.1 j hj
      · omega
  · rw [u_drN_hi hi (by omega), u_drN_hi hi (by omega), u_drN_hi hi (by omega)]
    exact D.2.1 j hj
  · unfold u_drN upd
    by_cases h1 : j = i
    · rw [if_pos h1, if_pos h1]
    · rw [if_neg h1, if_neg h1]
      by_cases h2 : j = 24 + i
      · rw [if_pos h2, if_pos h2]
      · rw [if_neg h2, if_neg h2]
        by_cases h3 : j = 12 + i
        · rw [if_pos h3, if_pos h3]
        · rw [if_neg h3, if_neg h3]
          exact D.2.2.1 j hj
  · rw [u_drN_hi hi (by omega), u_drN_hi hi (by omega), u_drN_hi hi (by omega), u_drN_hi hi (by omega), u_drN_hi hi (by omega)]
    exact D.2.2.2 j hj
theorem q_cnt_0 {p : Nat → Bool} {n : Nat} (h : q_cnt p n = 0) : ∀ i, i < n → p i = false := by
  induction n with
  | zero => intro i hi; omega
  | succ n ih =>
    rw [q_cnt_s] at h
    intro i hi
    by_cases h2 : p n = true
    · rw [if_pos h2] at h
      omega
    · rw [if_neg h2] at h
      rcases Nat.lt_or_ge i n with h3 | h3
      · exact ih (by omega) i h3
      · obtain rfl : i = n := by omega
        exact Bool.eq_false_iff.mpr h2
theorem q_de.dropN {T S i : Nat} {f g : Nat → Int32} (E : q_de f) (D : q_dr T S f g) (hi : i < 12) (h1 : d_ends f 76 (nI i) = 0) (h2 : d_ends f 116 (nI i) = 0) : q_de (u_drN f i) := by
  intro j hj h3
  rw [u_drN_hi hi (by omega)] at h3
  rw [u_drN_hi (j := 76 + j) hi (by omega), u_drN_hi (j := 116 + j) hi (by omega)]
  obtain ⟨⟨x, hx, ex⟩, y, hy, ey⟩ := D.ends j hj h3
  have h4 := q_cnt_0 h1 j hj
  have h5 := q_cnt_0 h2 j hj
  simp only [Bool.and_eq_false_iff, Bool.not_eq_false', beq_iff_eq, beq_eq_false_iff_ne, h3, false_or] at h4 h5
  have hxi : ¬ x = i := fun e => h4 (by rw [ex, e])
  have hyi : ¬ y = i := fun e => h5 (by rw [ey, e])
  have := E j hj h3
  rw [ex, ey, nI_clamp (by omega), nI_clamp (by omega)] at this ⊢
  rcases u_drN_ne (f := f) hx hxi with h6 | h6
  · rcases u_drN_ne (f := f) hy hyi with h7 | h7
    · rw [h6.1, h7.1]
      exact this
    · omega
  · omega
