/-! THE TWO RUNS SIDE BY SIDE -/
def w_f (h h' : q_Hp) : Prop := q_Ef [598, 599, 600, 601, 602, 603, 604, 605, 606, 607, 608, 609, 610, 611, 612, 613, 614, 615, 616, 617, 618, 619] h h' ∧ qR h' 614 = qR h 614
def w_g (k k' : q_Hp) : Prop := q_Ef [630, 691, 692, 695, 696, 697, 698, 699, 700, 701, 702, 703, 704, 705, 706, 707, 708, 709] k k' ∧ ∀ j, ¬ (j = 91 ∨ j = 92 ∨ j = 95 ∨ j = 96 ∨ j = 99 ∨ j = 104 ∨ j = 105 ∨ j = 106) → qI k' 630 j = qI k 630 j
theorem w_f.rf {h : q_Hp} : w_f h h := ⟨q_Ef.rf, rfl⟩
theorem w_f.trans {h h1 h2 : q_Hp} (a : w_f h h1) (b : w_f h1 h2) : w_f h h2 := ⟨a.1.trans b.1, b.2.trans a.2⟩
theorem w_g.rf {k : q_Hp} : w_g k k := ⟨q_Ef.rf, fun _ _ => rfl⟩
theorem w_g.trans {k k1 k2 : q_Hp} (a : w_g k k1) (b : w_g k1 k2) : w_g k k2 := ⟨a.1.trans b.1, fun j hj => (b.2 j hj).trans (a.2 j hj)⟩
theorem z_f.w {h h' : q_Hp} (a : z_f h h') : w_f h h' := ⟨a.wide (by decide), q_Ef.R a (by decide)⟩
theorem z_g.w {k k' : q_Hp} (a : z_g k k') : w_g k k' := ⟨a.1.wide (by decide), fun j hj => a.2 j (by omega)⟩
theorem x_B.row {h h' : q_Hp} {b : Nat} {B : q_Bk} (a : x_B h b B) (e : w_f h h') : x_B h' b B := a.fr e.1 rfl e.2
theorem z_H.back {h k h' k' : q_Hp} {T S a l t s u w : Nat} (H : z_H h k T S a l t s u) (hw : w ≤ a) (e1 : qI h' 599 2 = nI (q_back t (a - w))) (e2 : qI h' 599 3 = nI (a - l - (a - w))) (e3 : qI h' 599 4 = nI (s - (a - w))) (e4 : qA h' 600 = qA h 600) (k1 : qI k' 630 91 = nI w) (k2 : qI k' 630 92 = nI (min l w)) (k3 : qA k' 692 = qA k 692) : z_H h' k' T S w (min l w) (q_back t (a - w)) (s - (a - w)) u := by
  obtain ⟨h1, h2, h3, h4, h5, h6, h7, h8, h9, h10, h11⟩ := H
  refine ⟨k1, k2, Nat.min_le_right _ _, by omega, e1, Nat.mod_lt _ (by decide), ?_, e3, by omega, by omega, fun j j1 j2 => ?_⟩
  · rw [e2]
    congr 1
    omega
  · rw [e4, k3, q_back_back]
    have := h11 (a - w + j) (by omega) (by omega)
    rw [show a - (a - w + j) = w - j by omega] at this
    exact this
/-- what is to be told of a run: (applied, least, top, standing), frames -/
abbrev w_S : Type := (Nat × Nat × Nat × Nat) × Nat × (Nat → Nat) × (Nat → Nat) × (Nat → Nat) × (Nat → Nat) × (Nat → Nat) × (Nat → Nat) × (Nat → Bool)
def z_G (h k : q_Hp) (b : Nat) (B : q_Bk) (lev : Nat → Nat) (u : Nat) (σ : w_S) : Prop := match σ with
  | ((a, l, t, s), d, kd, op, tu, nx, ap, lv, bg) => x_B h b B ∧ z_A h k b B a l t s u ∧ y_L B lev ∧ y_A B lev a u d kd op tu nx ap lv bg ∧ x_G h a s d kd op tu ap ∧ n_F k d kd op tu nx ap bg ∧ x_N h k B d kd tu
def z_s (h k : q_Hp) (e : Int32) : Prop := qI h 614 4 = e ∧ qI k 630 104 = e ∧ qI h 614 5 = qI k 630 105
def z_n (h : q_Hp) (σ : w_S) : Prop := match σ with
  | (_, d, _, _, _, nx, _, _, bg) => qI h 614 6 = (if bg (d - 1) = true then oN (nx (d - 1)) else -1)
def z_e (h k : q_Hp) (b : Nat) (B : q_Bk) (u : Nat) (σ : w_S) : Prop := match σ with
  | ((a, l, t, s), _) => x_B h b B ∧ z_A h k b B a l t s u ∧ ∃ e : Int32, (e = 1 ∨ e = 2 ∨ e = 3) ∧ z_s h k e
/-- a run that goes on, or has ended -/
def z_Z (h k : q_Hp) (b : Nat) (B : q_Bk) (lev : Nat → Nat) (u : Nat) (σ : w_S) : Prop := (z_G h k b B lev u σ ∧ z_s h k 4 ∧ z_n h σ) ∨ z_e h k b B u σ
theorem y_A.cut2 {B : q_Bk} {lev : Nat → Nat} {a u d : Nat} {kd op tu nx ap lv : Nat → Nat} {bg : Nat → Bool} {d' a' u' : Nat} (A : y_A B lev a u d kd op tu nx ap lv bg) (h0 : 1 ≤ d') (hd : d' ≤ d) (hb : bg (d' - 1) = true) (ha : ap (d' - 1) ≤ a') (hu : u ≤ u') : y_A B lev a' u' d' kd op tu nx ap lv bg := by
  have mo := A.mono
  obtain ⟨h1, h2, h3, h4, h5, h6, h7⟩ := A
  have qm : q_pr kd d' ≤ q_pr kd d := q_cnt_mono (by omega)
  refine ⟨h0, by omega, h3, h4, fun f hf => (h5 f (by omega)).up ?_ hu, fun f hf => h6 f (by omega), fun h9 => ?_⟩
  · have := mo (d' - 1 - f) f (by omega)
    rw [show f + (d' - 1 - f) = d' - 1 by omega] at this
    omega
  · rw [hb] at h9
    cases h9
theorem y_A.bgs {B : q_Bk} {lev : Nat → Nat} {a u d : Nat} {kd op tu nx ap lv : Nat → Nat} {bg : Nat → Bool} (A : y_A B lev a u d kd op tu nx ap lv bg) (hb : bg (d - 1) = true) : ∀ f, f < d → bg f = true := by
  intro f hf
  by_cases h : f = d - 1
  · rw [h]; exact hb
  · exact (A.2.2.2.2.2.1 f (by omega)).2.1
theorem w_un {α : Type} {f : Nat → α} {g : Nat → α} (h : ∀ i, f i = g i) : f = g := funext h
theorem un_id {f : Nat → Nat} {i : Nat} : un f i (f i) = f := by
  funext x
  unfold un
  split
  · next h => rw [h]
  · rfl
theorem ub_id {f : Nat → Bool} {i : Nat} : ub f i (f i) = f := by
  funext x
  unfold ub
  split
  · next h => rw [h]
  · rfl
theorem q_mV.det {n k : Nat} {args : List Value} {h : q_Hp} {P : q_Hp → Prop} (w : q_mV n k args h P) : ∃ h1, P h1 ∧ q_mV n k args h (fun h' => h' = h1) := by
  obtain ⟨hr, f, r, h1, e, er, p⟩ := w
  exact ⟨h1, p, hr, f, r, h1, e, er, rfl⟩
theorem q_mI.det {n k : Nat} {args : List Value} {h : q_Hp} {P : Int32 → q_Hp → Prop} (w : q_mI n k args h P) : ∃ z h1, P z h1 ∧ q_mI n k args h (fun z' h' => z' = z ∧ h' = h1) := by
  obtain ⟨hr, f, r, h1, e, z, er, p⟩ := w
  exact ⟨z, h1, p, hr, f, r, h1, e, z, er, rfl, rfl⟩
/-- the book and the diagram of both sides behind a change of their rows -/
theorem z_A.new {h k h' k' : q_Hp} {b : Nat} {B : q_Bk} {a l t s u a' l' t' s' u' : Nat} (Z : z_A h k b B a l t s u) (e : w_f h h') (g : w_g k k') (D : q_dg (bN B 0) (bN B 1) (qA h' 598) (qA k' 691)) (H : z_H h' k' (bN B 0) (bN B 1) a' l' t' s' u') (M : z_M h' k') : z_A h' k' b B a' l' t' s' u' :=
  ⟨Z.1.row e.1 rfl D, Z.2.1.row g.1 rfl (fun i hi => g.2 _ (by omega)) D, H, M⟩
theorem n_F.pt {k k' : q_Hp} {d d' : Nat} {kd op tu nx ap : Nat → Nat} {bg : Nat → Bool} (N : n_F k d kd op tu nx ap bg) (hd : d' ≤ d) (h6 : qI k' 630 106 = nI d') (e : ∀ f, f < d' → qA k' 703 f = qA k 703 f ∧ qA k' 704 f = qA k 704 f ∧ qA k' 705 f = qA k 705 f ∧ qA k' 706 f = qA k 706 f ∧ qA k' 707 f = qA k 707 f ∧ qA k' 708 f = qA k 708 f) : n_F k' d' kd op tu nx ap bg := by
  refine ⟨h6, fun f hf => ?_⟩
  obtain ⟨e1, e2, e3, e4, e5, e6⟩ := e f hf
  rw [e1, e2, e3, e4, e5, e6]
  exact N.2 f (by omega)
theorem x_P_s {B : q_Bk} {O k : Nat} (h : 0 < O) : x_P B O k = oN (bD B (O - 1) k) := if_neg (by omega)
theorem y_c.fun_eq {kd tu : Nat → Nat} {d f g : Nat} (hf : f < d) (hg : g < d) (cf : y_c kd tu f) (cg : y_c kd tu g) (nf : ∀ x, f < x → x < d → ¬ y_c kd tu x) (ng : ∀ x, g < x → x < d → ¬ y_c kd tu x) : f = g := by
  rcases Nat.lt_trichotomy f g with h | h | h
  · exact absurd cg (nf g h hg)
  · exact h
  · exact absurd cf (ng f h hf)
theorem z_fail {h k0 : q_Hp} {b : Nat} {B : q_Bk} {lev : Nat → Nat} {u a l t s d : Nat} {kd op tu nx ap lv : Nat → Nat} {bg : Nat → Bool} (hu : u < 2 ^ 20) (G0 : z_G h k0 b B lev u ((a, l, t, s), d, kd, op, tu, nx, ap, lv, bg)) (h4 : qI h 614 4 = 4) (hb : bg (d - 1) = true) : q_mV 3 159 [.ref 614] h (fun h1 => w_f h h1 ∧ ∃ σ, ∀ k, z_G h k b B lev u ((a, l, t, s), d, kd, op, tu, nx, ap, lv, bg) → z_s h k 4 → ∃ k1, q_mV 3 337 [.ref 630] k (fun k' => k' = k1) ∧ w_g k k1 ∧ z_Z h1 k1 b B lev u σ) := by
  obtain ⟨X0, Z0, L, A, G, N0, D0⟩ := G0
  have bgs := A.bgs hb
  have le := A.le
  obtain ⟨p1, p2, p3, p4, p5, p6, p7, p8, p9, p10, p11⟩ := Z0.2.2.1
  have A5 := A.2.2.2.2.1
  refine (w_fail_c X0 G h4 p5 p7 p8 p6 (by omega) (by omega) A.1 le.2.2 A.2.2.1 (fun f hf => ?_) p9).mono (Nat.le_refl _) ?_
  · obtain ⟨g1, g2, g3, g4, g5, g6, g7, g8, g9, g10⟩ := A5 f hf
    exact ⟨g1, g2, fun h9 => (g9 h9).2 (bgs f hf), g6⟩
  rintro h1 ⟨f, hf, yf, nf, e, r, i2, i3, i4, a598, i5, hc⟩
  have ap_a : ap f ≤ a := (A5 f hf).2.2.2.2.2.1
  have sw : s - (ap f + (s - a)) = a - ap f := by omega
  rw [sw] at i2 i3
  have e' : w_f h h1 := ⟨e.wide (by decide), r⟩
  refine ⟨e', ?_⟩
  have X1 := X0.row e'
  have ref : ∀ k, z_G h k b B lev u ((a, l, t, s), d, kd, op, tu, nx, ap, lv, bg) → ∃ k1, q_mV 3 337 [.ref 630] k (fun k' => k' = k1) ∧ n_fl k k1 B l (ap f) f kd op := by
    rintro k ⟨X, Z, L', A', G', N, D⟩
    obtain ⟨k1, ⟨f', hf', yf', nf', hn⟩, c⟩ := q_mV.det (n_fail_c Z.2.1 N Z.2.2.1.2.1 (by have := Z.2.2.1.2.2.1; omega) A.1 le.2.2 A.2.2.1 (fun f hf => by
      obtain ⟨g1, g2, g3, g4, g5, g6, g7, g8, g9, g10⟩ := A5 f hf
      refine ⟨g1, g2, g3, fun h9 => (g9 h9).2 (bgs f hf), g6, fun h9 => ?_⟩
      have := (A.2.2.2.2.2.1 (f - 1) (by omega)).1
      rw [show f - 1 + 1 = f by omega] at this
      exact this) (by omega))
    obtain rfl := y_c.fun_eq hf hf' yf yf' nf nf'
    exact ⟨k1, c, hn⟩
  have common : ∀ k k1, z_G h k b B lev u ((a, l, t, s), d, kd, op, tu, nx, ap, lv, bg) → n_fl k k1 B l (ap f) f kd op → w_g k k1 ∧ z_A h1 k1 b B (ap f) (min l (ap f)) (q_back t (a - ap f)) (s - (a - ap f)) u ∧ qI k1 630 105 = qI k 630 105 := by
    rintro k k1 ⟨X, Z, L', A', G', N, D⟩ ⟨ek, ej, j91, j92, a691, hk⟩
    have g' : w_g k k1 := ⟨ek.wide (by decide), fun j hj => ej j (by omega)⟩
    refine ⟨g', Z.new e' g' ?_ (Z.2.2.1.back ap_a i2 i3 ?_ (e.A (by decide)) j91 j92 (ek.A (by decide))) ?_, ej 105 (by decide)⟩
    · refine (D f hf yf).ext (fun i hi => ?_) (fun i hi => a691 i hi)
      rw [a598]
      have := va_cpy_in (f := qA h 619) (g := qA h 598) (sp := f * 156) (dp := 0) hi
      rw [Nat.zero_add] at this
      exact this
    · rw [i4]
      congr 1
      omega
    · exact Z.2.2.2.same (congrFun (e.I (by decide)) _) (congrFun (e.I (by decide)) _) (ej 95 (by decide)) (ej 96 (by decide)) (e.A (by decide)) (e.A (by decide)) (ek.A (by decide)) (ek.A (by decide))
  have off : s - (a - ap f) - ap f = s - a := by omega
  obtain ⟨G1, G2, G3⟩ := G
  rcases hc with ⟨f0, st⟩ | ⟨f0, k3, st, i7, i8, i6, a615⟩ | ⟨f0, k1, st, i7, i8, i6, a615⟩
  · refine ⟨((ap f, min l (ap f), q_back t (a - ap f), s - (a - ap f)), d, kd, op, tu, nx, ap, lv, bg), fun k Gk sk => ?_⟩
    obtain ⟨k1, c, hn⟩ := ref k Gk
    obtain ⟨g', ZA, st5⟩ := common k k1 Gk hn
    refine ⟨k1, c, g', Or.inr ⟨X1, ZA, 2, Or.inr (Or.inl rfl), st, ?_, i5.trans (sk.2.2.trans st5.symm)⟩⟩
    obtain ⟨ek, ej, j91, j92, a691, hk⟩ := hn
    rcases hk with hk | hk | hk
    · exact hk.2
    · omega
    · omega
  · have Oc := A5 f hf
    have O0 := Oc.2.2.1 f0
    have O1 := Oc.2.1
    have o7 := Oc.2.2.2.2.2.2.2.2.2.2.1 (Or.inl k3)
    have Ac := A.cut2 (d' := f + 1) (a' := ap f) (u' := u) (by omega) (by omega) (bgs _ (by omega)) (Nat.le_refl _) (Nat.le_refl _)
    have bb : bD B (op f - 1) 5 ≤ bN B 5 := by
      obtain ⟨lev', _, g⟩ := X0.2.2.1.2.2.2.2.2.2.2.2.2.1
      rcases (g (op f - 1) (by omega)).2.2.2.2.2.2.2.1 5 (by decide) (by decide) with h9 | h9
      · omega
      · exact h9.2.1
    have At := Ac.top (K := 4) (U := tu f) (X := bD B (op f - 1) 5) (L' := lv f) (G := true) (u' := u) (Nat.le_refl _) (by rw [Nat.add_sub_cancel, k3]; decide) rfl (fun A' hA' => by
      rw [Nat.add_sub_cancel] at hA' ⊢
      have hA2 : A' = ap f := by omega
      obtain ⟨g1, g2, g3, g4, g5, g6, g7, g8, g9, g10, g11, g12, g13, g14, g15⟩ := Oc
      refine ⟨by decide, g2, g3, g4, fun _ => bb, by omega, (fun h9 => by cases h9), (fun h9 => by cases h9), (fun h9 => by cases h9), (fun h9 => by cases h9), fun _ => o7, g12, (fun h9 => by cases h9), fun _ h9 => ?_, fun h9 _ => g15 h9 (by omega)⟩
      rcases (L.2 (op f - 1) (by omega)).2.2.2 (by omega) 5 (by decide) (by decide) with h8 | h8
      · omega
      · rw [h8]
        exact g15 f0 (by omega)) (ap f) (Or.inl rfl) (fun h9 => by cases h9)
    rw [Nat.add_sub_cancel] at At
    refine ⟨((ap f, min l (ap f), q_back t (a - ap f), s - (a - ap f)), f + 1, un kd f 4, op, un tu f (tu f), un nx f (bD B (op f - 1) 5), un ap f (ap f), un lv f (lv f), ub bg f true), fun k Gk sk => ?_⟩
    obtain ⟨k1, c, hn⟩ := ref k Gk
    obtain ⟨g', ZA, st5⟩ := common k k1 Gk hn
    obtain ⟨ek, ej, j91, j92, a691, hk⟩ := hn
    obtain ⟨X, Z, _, _, _, N, D⟩ := Gk
    rcases hk with hk | ⟨_, _, s4, j6, b5, b6, b7, b8, gg, b9⟩ | hk
    · omega
    · refine ⟨k1, c, g', Or.inl ⟨⟨X1, ZA, L, At, ⟨i7, ?_, fun g hg => ?_⟩, ⟨j6, fun g hg => ?_⟩, fun g hg hy => ?_⟩, ⟨st, s4.trans sk.2.1, i5.trans (sk.2.2.trans st5.symm)⟩, ?_⟩⟩
      · rw [i8, q_pr_ext]
        intro x hx
        by_cases h9 : x = f
        · rw [h9, un_e, k3]; decide
        · rw [un_n h9]
      · obtain ⟨y1, y2, y3, y4⟩ := G3 g (by omega)
        rw [a615, e.A (show 616 ∉ [598, 599, 614, 615] by decide), e.A (show 617 ∉ [598, 599, 614, 615] by decide), e.A (show 618 ∉ [598, 599, 614, 615] by decide), un_id, un_id, off]
        by_cases h9 : g = f
        · subst h9
          rw [upd_eq, un_e]
          refine ⟨rfl, y2, y3, ?_⟩
          rintro (h8 | h8 | h8)
          · omega
          · rw [un_e] at h8; omega
          · rw [un_e] at h8; omega
        · rw [upd_ne h9, un_n h9]
          refine ⟨y1, y2, y3, fun h8 => y4 ?_⟩
          unfold y_c at h8
          rw [un_n h9] at h8
          exact h8
      · have Ng := N.2 g (by omega)
        rw [ek.A (show 703 ∉ [630, 691, 705, 706, 707, 708, 709] by decide), ek.A (show 704 ∉ [630, 691, 705, 706, 707, 708, 709] by decide), b5, b6, b7, b8, un_id, un_id]
        by_cases h9 : g = f
        · subst h9
          rw [upd_eq, upd_eq, upd_eq, upd_eq, un_e, un_e, ub_e]
          obtain ⟨m1, m2, m3, m4, m5, m6, m7, m8⟩ := Ng
          refine ⟨?_, m2, rfl, fun _ => rfl, rfl, (fun h8 => by cases h8), (fun h8 => by cases h8), fun _ => Or.inr rfl⟩
          rw [m1, k3]
          rfl
        · rw [upd_ne h9, upd_ne h9, upd_ne h9, upd_ne h9, un_n h9, un_n h9, ub_n h9]
          exact Ng
      · have hgf : ¬ g = f := by
          rintro rfl
          rcases hy with h8 | h8 | h8
          · omega
          · rw [un_e] at h8; omega
          · rw [un_e] at h8; omega
        have hy' : y_c kd tu g := by
          unfold y_c at hy
          rw [un_n hgf, un_id] at hy
          exact hy
        refine (D g (by omega) hy').ext (fun i hi => ?_) (fun i hi => ?_)
        · show qA h1 619 (g * 156 + i) = _
          rw [e.A (show 619 ∉ [598, 599, 614, 615] by decide)]
        · show qA k1 709 (156 * g + i) = _
          rw [b9, va_cpy_out (by omega)]
      · show qI h1 614 6 = _
        rw [Nat.add_sub_cancel, ub_e, if_pos rfl, un_e, i6, x_P_s O0]
    · omega
  · have Oc := A5 f hf
    have O0 := Oc.2.2.1 f0
    have Ac := A.cut2 (d' := f) (a' := ap f) (u' := u) (by omega) (by omega) (bgs _ (by omega)) (by
      have := (A.2.2.2.2.2.1 (f - 1) (by omega)).1
      rw [show f - 1 + 1 = f by omega] at this
      exact this) (Nat.le_refl _)
    refine ⟨((ap f, min l (ap f), q_back t (a - ap f), s - (a - ap f)), f, kd, op, tu, nx, ap, lv, bg), fun k Gk sk => ?_⟩
    obtain ⟨k1', c, hn⟩ := ref k Gk
    obtain ⟨g', ZA, st5⟩ := common k k1' Gk hn
    obtain ⟨ek, ej, j91, j92, a691, hk⟩ := hn
    obtain ⟨X, Z, _, _, _, N, D⟩ := Gk
    rcases hk with hk | hk | ⟨_, _, s4, j6, b5, b6, b7, b8, b9⟩
    · omega
    · omega
    · refine ⟨k1', c, g', Or.inl ⟨⟨X1, ZA, L, Ac, ⟨i7, i8, fun g hg => ?_⟩, N.pt (by omega) j6 (fun g hg => ?_), fun g hg hy => ?_⟩, ⟨st, s4.trans sk.2.1, i5.trans (sk.2.2.trans st5.symm)⟩, ?_⟩⟩
      · rw [a615, e.A (show 616 ∉ [598, 599, 614, 615] by decide), e.A (show 617 ∉ [598, 599, 614, 615] by decide), e.A (show 618 ∉ [598, 599, 614, 615] by decide), off]
        exact G3 g (by omega)
      · rw [ek.A (show 703 ∉ [630, 691, 705, 706, 707, 708, 709] by decide), ek.A (show 704 ∉ [630, 691, 705, 706, 707, 708, 709] by decide), b5, b6, b7, b8]
        exact ⟨rfl, rfl, rfl, rfl, rfl, rfl⟩
      · refine (D g (by omega) hy).ext (fun i hi => ?_) (fun i hi => ?_)
        · show qA h1 619 (g * 156 + i) = _
          rw [e.A (show 619 ∉ [598, 599, 614, 615] by decide)]
        · show qA k1' 709 (156 * g + i) = _
          rw [b9]
      · show qI h1 614 6 = _
        have := (A.2.2.2.2.2.1 (f - 1) (by omega)).2.2.1
        rw [show f - 1 + 1 = f by omega] at this
        rw [bgs _ (by omega), if_pos rfl, i6, x_P_s O0, this]
