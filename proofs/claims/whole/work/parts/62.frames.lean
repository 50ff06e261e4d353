/-! THE FRAMES OF A RUN, without their cells -/
def un (f : Nat → Nat) (i v : Nat) : Nat → Nat := fun x => if x = i then v else f x
def ub (f : Nat → Bool) (i : Nat) (v : Bool) : Nat → Bool := fun x => if x = i then v else f x
theorem un_e {f : Nat → Nat} {i v : Nat} : un f i v i = v := if_pos rfl
theorem un_n {f : Nat → Nat} {i v x : Nat} (h : ¬ x = i) : un f i v x = f x := if_neg h
theorem ub_e {f : Nat → Bool} {i : Nat} {v : Bool} : ub f i v i = v := if_pos rfl
theorem ub_n {f : Nat → Bool} {i x : Nat} {v : Bool} (h : ¬ x = i) : ub f i v x = f x := if_neg h
/-- what the levels of dos keep -/
def y_L (B : q_Bk) (lev : Nat → Nat) : Prop := (∀ p, p < bN B 3 → 0 < bP B p → lev (bP B p - 1) = 0) ∧ ∀ e, e < bN B 5 → lev e ≤ 8 ∧ (5 ≤ bD B e 0 → lev e < 8) ∧ (bD B e 2 = 0 ∨ lev (bD B e 2 - 1) = lev e) ∧ (5 ≤ bD B e 0 → ∀ k, 3 ≤ k → k < 6 → bD B e k = 0 ∨ lev (bD B e k - 1) = lev e + 1)
/-- one frame -/
def y_f (B : q_Bk) (lev : Nat → Nat) (a u f K O U X A L : Nat) (G : Bool) : Prop :=
  K < 5 ∧ O ≤ bN B 5 ∧ (0 < f → 0 < O) ∧ U ≤ u ∧ (G = true → X ≤ bN B 5) ∧ A ≤ a ∧ (G = false → K = 1 ∨ K = 2) ∧ (K = 0 → 0 < f → bD B (O - 1) 0 = 3) ∧ (K = 1 → bD B (O - 1) 0 = 5 ∧ (G = true → 0 < U)) ∧ (K = 2 → bD B (O - 1) 0 = 6 ∧ (G = true → 0 < U ∧ U ≤ bD B (O - 1) 1) ∧ (G = false → U < bD B (O - 1) 1)) ∧ (K = 3 ∨ K = 4 → bD B (O - 1) 0 = 7) ∧ L ≤ 8 ∧ (K = 0 → L = 0) ∧
  (G = true → 0 < X → lev (X - 1) = L) ∧ (0 < f → ¬ K = 0 → lev (O - 1) + 1 = L)
def y_A (B : q_Bk) (lev : Nat → Nat) (a u d : Nat) (kd op tu nx ap lv : Nat → Nat) (bg : Nat → Bool) : Prop :=
  1 ≤ d ∧ q_pr kd d ≤ 20 ∧ kd 0 = 0 ∧ op 0 = 0 ∧ (∀ f, f < d → y_f B lev a u f (kd f) (op f) (tu f) (nx f) (ap f) (lv f) (bg f)) ∧
  (∀ f, f + 1 < d → ap f ≤ ap (f + 1) ∧ bg f = true ∧ nx f = bD B (op (f + 1) - 1) 2 ∧ (¬ kd (f + 1) = 0 → lv (f + 1) = lv f + 1) ∧ lev (op (f + 1) - 1) = lv f) ∧
  (bg (d - 1) = false → kd (d - 1) = 1 → tu (d - 1) = 0 ∨ ap (d - 1) < a)
theorem q_pr_s (kd : Nat → Nat) (d : Nat) : q_pr kd (d + 1) = q_pr kd d + (if kd d = 0 then 1 else 0) := by
  unfold q_pr
  rw [q_cnt_s]
  by_cases h : kd d = 0
  · rw [if_pos (beq_iff_eq.mpr h), if_pos h]
  · rw [if_neg (fun h2 => h (beq_iff_eq.mp h2)), if_neg h]
theorem q_pr_ext {kd kd' : Nat → Nat} {d : Nat} (h : ∀ f, f < d → (kd f = 0 ↔ kd' f = 0)) : q_pr kd d = q_pr kd' d := by
  unfold q_pr
  refine q_cnt_ext (fun i hi => ?_)
  have := h i hi
  rw [Bool.eq_iff_iff, beq_iff_eq, beq_iff_eq]
  exact this
/-- how deep a run may be -/
theorem y_A.deep {B : q_Bk} {lev : Nat → Nat} {a u d : Nat} {kd op tu nx ap lv : Nat → Nat} {bg : Nat → Bool} (A : y_A B lev a u d kd op tu nx ap lv bg) : ∀ f, f < d → f + 1 ≤ 9 * (q_pr kd (f + 1) - 1) + lv f + 1 ∧ 1 ≤ q_pr kd (f + 1) := by
  obtain ⟨h1, h2, h3, h4, h5, h6, h7⟩ := A
  intro f
  induction f with
  | zero =>
    intro _
    rw [q_pr_s, h3, if_pos rfl]
    exact ⟨by omega, by omega⟩
  | succ f ih =>
    intro hf
    obtain ⟨i1, i2⟩ := ih (by omega)
    have l0 := (h5 f (by omega)).2.2.2.2.2.2.2.2.2.2.2.1
    rw [q_pr_s]
    by_cases hk : kd (f + 1) = 0
    · rw [if_pos hk]
      exact ⟨by omega, by omega⟩
    · rw [if_neg hk]
      have := (h6 f hf).2.2.2.1 hk
      exact ⟨by omega, by omega⟩
theorem y_A.le {B : q_Bk} {lev : Nat → Nat} {a u d : Nat} {kd op tu nx ap lv : Nat → Nat} {bg : Nat → Bool} (A : y_A B lev a u d kd op tu nx ap lv bg) : d ≤ 9 * (q_pr kd d - 1) + lv (d - 1) + 1 ∧ 1 ≤ q_pr kd d ∧ d ≤ 180 := by
  have h := A.deep (d - 1) (by have := A.1; omega)
  have h1 := A.1
  rw [show d - 1 + 1 = d by omega] at h
  have l0 := (A.2.2.2.2.1 (d - 1) (by omega)).2.2.2.2.2.2.2.2.2.2.2.1
  have := A.2.1
  exact ⟨h.1, h.2, by omega⟩
theorem y_A.mono {B : q_Bk} {lev : Nat → Nat} {a u d : Nat} {kd op tu nx ap lv : Nat → Nat} {bg : Nat → Bool} (A : y_A B lev a u d kd op tu nx ap lv bg) : ∀ m f, f + m < d → ap f ≤ ap (f + m) := by
  intro m
  induction m with
  | zero => intro f _; exact Nat.le_refl _
  | succ m ih =>
    intro f hf
    have h1 := ih f (by omega)
    have h2 := (A.2.2.2.2.2.1 (f + m) (by omega)).1
    rw [show f + (m + 1) = f + m + 1 by omega]
    omega
theorem y_f.up {B : q_Bk} {lev : Nat → Nat} {a a' u u' f K O U X A L : Nat} {G : Bool} (h : y_f B lev a u f K O U X A L G) (ha : A ≤ a') (hu : u ≤ u') : y_f B lev a' u' f K O U X A L G := by
  obtain ⟨h1, h2, h3, h4, h5, h6, h7⟩ := h
  exact ⟨h1, h2, h3, by omega, h5, ha, h7⟩
/-- frames go -/
theorem y_A.cut {B : q_Bk} {lev : Nat → Nat} {a u d : Nat} {kd op tu nx ap lv : Nat → Nat} {bg : Nat → Bool} {d' a' u' : Nat} (A : y_A B lev a u d kd op tu nx ap lv bg) (h0 : 1 ≤ d') (hd : d' < d) (ha : ap (d' - 1) ≤ a') (hu : u ≤ u') : y_A B lev a' u' d' kd op tu nx ap lv bg := by
  have mo := A.mono
  obtain ⟨h1, h2, h3, h4, h5, h6, h7⟩ := A
  have qm : q_pr kd d' ≤ q_pr kd d := q_cnt_mono (by omega)
  refine ⟨h0, by omega, h3, h4, fun f hf => (h5 f (by omega)).up ?_ hu, fun f hf => h6 f (by omega), fun h9 => ?_⟩
  · have := mo (d' - 1 - f) f (by omega)
    rw [show f + (d' - 1 - f) = d' - 1 by omega] at this
    omega
  · have := (h6 (d' - 1) (by omega)).2.1
    rw [this] at h9
    cases h9
/-- on in a row -/
theorem y_A.next {B : q_Bk} {lev : Nat → Nat} {a u d : Nat} {kd op tu nx ap lv : Nat → Nat} {bg : Nat → Bool} {a' u' : Nat} (w : q_wB B) (L : y_L B lev) (A : y_A B lev a u d kd op tu nx ap lv bg) (hb : bg (d - 1) = true) (hn : 0 < nx (d - 1)) (ha : a ≤ a') (hu : u ≤ u') : y_A B lev a' u' d kd op tu (un nx (d - 1) (bD B (nx (d - 1) - 1) 2)) ap lv bg := by
  obtain ⟨h1, h2, h3, h4, h5, h6, h7⟩ := A
  have ht := h5 (d - 1) (by omega)
  have hX := ht.2.2.2.2.1 hb
  have lX := ht.2.2.2.2.2.2.2.2.2.2.2.2.2.1 hb hn
  have le := (L.2 (nx (d - 1) - 1) (by omega)).2.2.1
  have wd : bD B (nx (d - 1) - 1) 2 ≤ bN B 5 := by
    obtain ⟨lev', _, g⟩ := w.2.2.2.2.2.2.2.2.2.1
    rcases (g (nx (d - 1) - 1) (by omega)).2.2.2.2.2.2.1 with h9 | h9
    · omega
    · exact h9.2.1
  refine ⟨h1, h2, h3, h4, fun f hf => ?_, fun f hf => ?_, fun h9 => ?_⟩
  · by_cases hfd : f = d - 1
    · subst hfd
      rw [un_e]
      obtain ⟨g1, g2, g3, g4, g5, g6, g7, g8, g9, g10, g11, g12, g13, g14, g15⟩ := ht
      refine ⟨g1, g2, g3, by omega, fun _ => wd, by omega, g7, g8, g9, g10, g11, g12, g13, fun _ hx => ?_, g15⟩
      rcases le with h9 | h9
      · omega
      · rw [h9, lX]
    · rw [un_n hfd]
      exact (h5 f hf).up (by have := (h5 f hf).2.2.2.2.2.1; omega) hu
  · rw [un_n (by omega)]
    exact h6 f hf
  · rw [hb] at h9
    cases h9
/-- a new frame -/
theorem y_A.push {B : q_Bk} {lev : Nat → Nat} {a u d : Nat} {kd op tu nx ap lv : Nat → Nat} {bg : Nat → Bool} {K X U L' u' : Nat} {G : Bool} (A : y_A B lev a u d kd op tu nx ap lv bg) (hb : bg (d - 1) = true) (hn : 0 < nx (d - 1)) (hu : u ≤ u') (w : q_wB B) (hy : y_L B lev) (hq : K = 0 → q_pr kd d < 20) (hl : ¬ K = 0 → L' = lv (d - 1) + 1) (hf : y_f B lev a u' d K (nx (d - 1)) U X a L' G) (ht : G = false → K = 1 → U = 0) : y_A B lev a u' (d + 1) (un kd d K) (un op d (nx (d - 1))) (un tu d U) (un (un nx (d - 1) (bD B (nx (d - 1) - 1) 2)) d X) (un ap d a) (un lv d L') (ub bg d G) := by
  have A2 := A.next (a' := a) (u' := u') w hy hb hn (Nat.le_refl _) hu
  obtain ⟨h1, h2, h3, h4, h5, h6, h7⟩ := A
  obtain ⟨_, _, _, _, k5, k6, _⟩ := A2
  have lX := (h5 (d - 1) (by omega)).2.2.2.2.2.2.2.2.2.2.2.2.2.1 hb hn
  have ed : d + 1 - 1 = d := by omega
  refine ⟨by omega, ?_, ?_, ?_, fun f hf' => ?_, fun f hf' => ?_, ?_⟩
  · rw [q_pr_s, un_e, q_pr_ext (kd' := kd) (fun f hf => by rw [un_n (by omega)])]
    split
    · next h9 => have := hq h9; omega
    · omega
  · rw [un_n (by omega)]; exact h3
  · rw [un_n (by omega)]; exact h4
  · by_cases hfd : f = d
    · subst hfd
      rw [un_e, un_e, un_e, un_e, un_e, un_e, ub_e]
      exact hf
    · rw [un_n hfd, un_n hfd, un_n hfd, un_n hfd, un_n hfd, un_n hfd, ub_n hfd]
      exact k5 f (by omega)
  · by_cases hfd : f + 1 = d
    · have hf1 : f = d - 1 := by omega
      rw [hfd, un_e, un_e, un_e, un_e, un_n (show ¬ f = d by omega), un_n (show ¬ f = d by omega), un_n (show ¬ f = d by omega), ub_n (show ¬ f = d by omega), hf1, un_e]
      exact ⟨(h5 (d - 1) (by omega)).2.2.2.2.2.1, hb, rfl, fun h9 => by rw [hl h9], lX⟩
    · rw [un_n (show ¬ f + 1 = d from hfd), un_n (show ¬ f + 1 = d from hfd), un_n (show ¬ f + 1 = d from hfd), un_n (show ¬ f + 1 = d from hfd), un_n (show ¬ f = d by omega), un_n (show ¬ f = d by omega), un_n (show ¬ f = d by omega), ub_n (show ¬ f = d by omega)]
      exact k6 f (by omega)
  · rw [ed, ub_e, un_e, un_e, un_e]
    exact fun h9 h8 => Or.inl (ht h9 h8)
/-- the top frame alone changes -/
theorem y_A.top {B : q_Bk} {lev : Nat → Nat} {a u d : Nat} {kd op tu nx ap lv : Nat → Nat} {bg : Nat → Bool} {K U X L' u' : Nat} {G : Bool} (A : y_A B lev a u d kd op tu nx ap lv bg) (hu : u ≤ u') (hK : (K = 0 ↔ kd (d - 1) = 0)) (hL : L' = lv (d - 1)) (hf : ∀ A', A' = ap (d - 1) ∨ A' = a → y_f B lev a u' (d - 1) K (op (d - 1)) U X A' L' G) (A' : Nat) (hA : A' = ap (d - 1) ∨ A' = a) (ht : G = false → K = 1 → U = 0 ∨ A' < a) : y_A B lev a u' d (un kd (d - 1) K) op (un tu (d - 1) U) (un nx (d - 1) X) (un ap (d - 1) A') (un lv (d - 1) L') (ub bg (d - 1) G) := by
  obtain ⟨h1, h2, h3, h4, h5, h6, h7⟩ := A
  have aa := (h5 (d - 1) (by omega)).2.2.2.2.2.1
  refine ⟨h1, ?_, ?_, h4, fun f hf' => ?_, fun f hf' => ?_, ?_⟩
  · rw [q_pr_ext (kd' := kd)]
    · exact h2
    · intro f _
      by_cases hfd : f = d - 1
      · rw [hfd, un_e]; exact hK
      · rw [un_n hfd]
  · by_cases hfd : 0 = d - 1
    · rw [← hfd, un_e]; exact hK.mpr (by rw [← hfd]; exact h3)
    · rw [un_n hfd]; exact h3
  · by_cases hfd : f = d - 1
    · subst hfd
      rw [un_e, un_e, un_e, un_e, un_e, ub_e]
      exact hf A' hA
    · rw [un_n hfd, un_n hfd, un_n hfd, un_n hfd, un_n hfd, ub_n hfd]
      exact (h5 f hf').up (h5 f hf').2.2.2.2.2.1 hu
  · have g := h6 f hf'
    rw [un_n (show ¬ f = d - 1 by omega), un_n (show ¬ f = d - 1 by omega), un_n (show ¬ f = d - 1 by omega), ub_n (show ¬ f = d - 1 by omega)]
    refine ⟨?_, g.2.1, g.2.2.1, ?_, g.2.2.2.2⟩
    · by_cases hfd : f + 1 = d - 1
      · rw [hfd, un_e]
        have := g.1
        rw [hfd] at this
        rcases hA with h9 | h9 <;> omega
      · rw [un_n hfd]; exact g.1
    · by_cases hfd : f + 1 = d - 1
      · rw [hfd, un_e, un_e, hL]
        have := g.2.2.2.1
        rw [hfd] at this
        exact fun h9 => this (fun h8 => h9 (hK.mpr h8))
      · rw [un_n hfd, un_n hfd]; exact g.2.2.2.1
  · rw [ub_e, un_e, un_e, un_e]
    exact ht
/-- a frame whose diagram is noted -/
def y_c (kd tu : Nat → Nat) (f : Nat) : Prop := f = 0 ∨ kd f = 3 ∨ (kd f = 1 ∧ 0 < tu f)
/-- the frames in the class's cells -/
def x_G (h : q_Hp) (a s d : Nat) (kd op tu ap : Nat → Nat) : Prop := qI h 614 7 = nI d ∧ qI h 614 8 = nI (q_pr kd d) ∧ ∀ f, f < d → qA h 615 f = nI (kd f) ∧ qA h 616 f = oN (op f) ∧ qA h 617 f = nI (tu f) ∧ (y_c kd tu f → qA h 618 f = nI (ap f + (s - a)))
def x_F (h : q_Hp) (a s d : Nat) (kd op tu nx ap : Nat → Nat) (bg : Nat → Bool) : Prop := x_G h a s d kd op tu ap ∧ qI h 614 6 = (if bg (d - 1) = true then oN (nx (d - 1)) else -1)
/-- .. in the reference's -/
def n_F (k : q_Hp) (d : Nat) (kd op tu nx ap : Nat → Nat) (bg : Nat → Bool) : Prop := qI k 630 106 = nI d ∧ ∀ f, f < d → qA k 703 f = nI (if kd f = 4 then 3 else kd f) ∧ qA k 704 f = oN (op f) ∧ qA k 707 f = (if bg f = true then 1 else 0) ∧ (bg f = true → qA k 705 f = oN (nx f)) ∧ qA k 708 f = nI (ap f) ∧ (kd f = 2 → qA k 706 f = nI (if bg f = true then tu f - 1 else tu f)) ∧ (kd f = 3 → qA k 706 f = 0) ∧ (kd f = 4 → qA k 706 f = 1 ∨ qA k 706 f = 2)
/-- .. and the noted diagrams of both -/
def x_N (h k : q_Hp) (B : q_Bk) (d : Nat) (kd tu : Nat → Nat) : Prop := ∀ f, f < d → y_c kd tu f → q_dg (bN B 0) (bN B 1) (fun i => qA h 619 (f * 156 + i)) (fun i => qA k 709 (156 * f + i))
theorem r_F_y {h : q_Hp} {B : q_Bk} {a s u d : Nat} {kd op tu nx ap lv : Nat → Nat} {bg : Nat → Bool} (F : r_F h B a s u d kd op tu nx ap bg lv) : ∃ lev, y_L B lev ∧ y_A B lev a u d kd op tu nx ap lv bg ∧ x_F h a s d kd op tu nx ap bg ∧ n_F h d kd op tu nx ap bg ∧ x_N h h B d kd tu := by
  obtain ⟨f1, f2, f3, f4, f5, f6, f7, f8, f9, f10, f11, lev, l1, l2, l3⟩ := F
  refine ⟨lev, ⟨l2, l3⟩, ⟨f1, f3, f7, f8, fun f hf => ?_, fun f hf => ?_, fun h9 h8 => (f11 h9).2 h8⟩, ⟨⟨f4, f6, fun f hf => ?_⟩, ?_⟩, ⟨f5, fun f hf => ?_⟩, fun f hf hc => ?_⟩
  · obtain ⟨g1, g2, g3, g4, g5, g6, g7, g8, g9, g10, g11, g12, g13, g14, g15, g16, g17, g18, g19, g20, g21, g22, g23, g24, g25⟩ := f9 f hf
    refine ⟨g1, g4, g7, g9, fun h => (g11 h).1, g13, g17, g18, g19, fun h => ?_, fun h => ?_, g23, g24, (l1 f hf).1, (l1 f hf).2.1⟩
    · exact ⟨(g20 h).1, fun h2 => ⟨((g20 h).2.1 h2).1, ((g20 h).2.1 h2).2.1⟩, fun h2 => ((g20 h).2.2 h2).1⟩
    · rcases h with h | h
      · exact (g21 h).1
      · exact (g22 h).1
  · obtain ⟨g1, g2, g3, g4, g5, g6, g7, g8, g9, g10, g11, g12, g13, g14, g15, g16, g17, g18, g19, g20, g21, g22, g23, g24, g25⟩ := f9 f (by omega)
    obtain ⟨k1, k2, k3, k4, k5, k6, k7, k8, k9, k10, k11, k12, k13, k14, k15, k16, k17, k18, k19, k20, k21, k22, k23, k24, k25⟩ := f9 (f + 1) hf
    exact ⟨k14 (by omega), (g16 hf).1, (g16 hf).2, fun h => k25 (by omega) h, (l1 (f + 1) hf).2.2 (by omega)⟩
  · obtain ⟨g1, g2, g3, g4, g5, g6, g7, g8, g9, g10, g11, g12, g13, g14, g15, g16, g17, g18, g19, g20, g21, g22, g23, g24, g25⟩ := f9 f hf
    exact ⟨g2, g5, g8, fun h => (g15 h).1⟩
  · by_cases h : bg (d - 1) = true
    · rw [if_pos h]; exact f10 h
    · rw [if_neg h]; exact (f11 (Bool.eq_false_iff.mpr h)).1
  · obtain ⟨g1, g2, g3, g4, g5, g6, g7, g8, g9, g10, g11, g12, g13, g14, g15, g16, g17, g18, g19, g20, g21, g22, g23, g24, g25⟩ := f9 f hf
    refine ⟨g3, g6, g10, fun h => (g11 h).2, g12, fun h => ?_, fun h => (g21 h).2, fun h => (g22 h).2⟩
    by_cases h2 : bg f = true
    · rw [if_pos h2]; exact ((g20 h).2.1 h2).2.2
    · rw [if_neg h2]; exact ((g20 h).2.2 (Bool.eq_false_iff.mpr h2)).2
  · obtain ⟨g1, g2, g3, g4, g5, g6, g7, g8, g9, g10, g11, g12, g13, g14, g15, g16, g17, g18, g19, g20, g21, g22, g23, g24, g25⟩ := f9 f hf
    exact (g15 hc).2
theorem y_r_F {h : q_Hp} {B : q_Bk} {lev : Nat → Nat} {a s u d : Nat} {kd op tu nx ap lv : Nat → Nat} {bg : Nat → Bool} (L : y_L B lev) (A : y_A B lev a u d kd op tu nx ap lv bg) (X : x_F h a s d kd op tu nx ap bg) (N : n_F h d kd op tu nx ap bg) (D : x_N h h B d kd tu) : r_F h B a s u d kd op tu nx ap bg lv := by
  have le := A.le
  obtain ⟨h1, h2, h3, h4, h5, h6, h7⟩ := A
  have l8 := (h5 (d - 1) (by omega)).2.2.2.2.2.2.2.2.2.2.2.1
  refine ⟨h1, by omega, h2, X.1.1, N.1, X.1.2.1, h3, h4, fun f hf => ?_, fun h9 => ?_, fun h9 => ?_, lev, fun f hf => ?_, L.1, L.2⟩
  · obtain ⟨g1, g2, g3, g4, g5, g6, g7, g8, g9, g10, g11, g12, g13, g14, g15⟩ := h5 f hf
    obtain ⟨x1, x2, x3, x4⟩ := X.1.2.2 f hf
    obtain ⟨n1, n2, n3, n4, n5, n6, n7, n8⟩ := N.2 f hf
    refine ⟨g1, x1, n1, g2, x2, n2, g3, x3, g4, n3, fun h => ⟨g5 h, n4 h⟩, n5, g6, fun h => ?_, fun h => ⟨x4 h, D f hf h⟩, fun h => ⟨(h6 f h).2.1, (h6 f h).2.2.1⟩, g7, g8, g9, fun h => ⟨(g10 h).1, fun h9 => ?_, fun h9 => ?_⟩, fun h => ⟨g11 (Or.inl h), n7 h⟩, fun h => ⟨g11 (Or.inr h), n8 h⟩, g12, g13, fun h h9 => ?_⟩
    · have := (h6 (f - 1) (by omega)).1
      rw [show f - 1 + 1 = f by omega] at this
      exact this
    · have := n6 h
      rw [if_pos h9] at this
      exact ⟨((g10 h).2.1 h9).1, ((g10 h).2.1 h9).2, this⟩
    · have := n6 h
      rw [if_neg (by rw [h9]; decide)] at this
      exact ⟨(g10 h).2.2 h9, this⟩
    · have := (h6 (f - 1) (by omega)).2.2.2.1
      rw [show f - 1 + 1 = f by omega] at this
      exact this h9
  · have := X.2
    rw [if_pos h9] at this
    exact this
  · have := X.2
    rw [if_neg (by rw [h9]; decide)] at this
    exact ⟨this, h7 h9⟩
  · obtain ⟨g1, g2, g3, g4, g5, g6, g7, g8, g9, g10, g11, g12, g13, g14, g15⟩ := h5 f hf
    refine ⟨g14, g15, fun h => ?_⟩
    have := (h6 (f - 1) (by omega)).2.2.2.2
    rw [show f - 1 + 1 = f by omega] at this
    exact this
