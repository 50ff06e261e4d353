/-! CLOSING FRAMES, side by side -/
theorem z_A.k {S : List Nat} {h k k2 : q_Hp} {b : Nat} {B : q_Bk} {a l t s u : Nat} (Z : z_A h k b B a l t s u) (e : q_Ef S k k2) (hS : S.all (fun x => decide (x = 630) || decide (702 < x)) = true) (ei : ∀ j, ¬ (j = 104 ∨ j = 105 ∨ j = 106) → qI k2 630 j = qI k 630 j) : z_A h k2 b B a l t s u := by
  obtain ⟨X, N, H, M⟩ := Z
  have n1 : ∀ x, 631 ≤ x → x ≤ 702 → x ∉ S := by
    intro x hx hx2 h3
    have := List.all_eq_true.mp hS x h3
    simp only [Bool.or_eq_true, decide_eq_true_eq] at this
    omega
  refine ⟨?_, N.fr e ?_ (fun i hi => ei _ (by omega)), H.same (Nat.le_refl _) rfl rfl (ei 91 (by decide)) (ei 92 (by decide)) (e.A (n1 692 (by decide) (by decide))), M.same rfl rfl (ei 95 (by decide)) (ei 96 (by decide)) rfl rfl (e.A (n1 697 (by decide) (by decide))) (e.A (n1 698 (by decide) (by decide)))⟩
  · rw [e.A (n1 691 (by decide) (by decide))]
    exact X
  · refine List.all_eq_true.mpr (fun x hx => ?_)
    have := List.all_eq_true.mp hS x hx
    simp only [Bool.or_eq_true, decide_eq_true_eq] at this ⊢
    omega
def z_rk (d K : Nat) : Nat := 2 * d - (if K = 4 then 1 else 0)
/-- the rank of a state -/
def z_sk (σ : w_S) : Nat := match σ with
  | (_, d, kd, _) => z_rk d (kd (d - 1))
theorem n_cl_of {h k : q_Hp} {b : Nat} {B : q_Bk} {lev : Nat → Nat} {u a l t s d : Nat} {kd op tu nx ap lv : Nat → Nat} {bg : Nat → Bool} (hu : u < 2 ^ 20) (G : z_G h k b B lev u ((a, l, t, s), d, kd, op, tu, nx, ap, lv, bg)) (hb : bg (d - 1) = true) : ∃ k1, q_mV 3 338 [.ref 630] k (fun k' => k' = k1) ∧ n_cl k k1 B a d (kd (d - 1)) (op (d - 1)) (tu (d - 1)) (ap (d - 1)) := by
  obtain ⟨X, Z, L, A, G, N, D⟩ := G
  have le := A.le
  obtain ⟨g1, g2, g3, g4, g5, g6, g7, g8, g9, g10, g11, g12⟩ := A.2.2.2.2.1 (d - 1) (by have := A.1; omega)
  obtain ⟨m1, m2, m3, m4, m5, m6, m7, m8⟩ := N.2 (d - 1) (by have := A.1; omega)
  have p8 := Z.2.2.1.2.2.2.2.2.2.2.2.1
  have p9 := Z.2.2.1.2.2.2.2.2.2.2.2.2.1
  obtain ⟨k1, hc, c⟩ := q_mV.det (n_close (f := qA h 598) (d := d) (a := a) (K := kd (d - 1)) (O := op (d - 1)) (U := tu (d - 1)) (A := ap (d - 1)) Z.2.1 (by have := A.1; omega) le.2.2 N.1 Z.2.2.1.1 (by omega) g1 (fun h9 => ⟨g3 (by omega), g2⟩) m1 m2 m5 (by omega) (fun h9 => by rw [h9]; exact A.2.2.1) (fun h9 => ⟨(g10 h9).1, ((g10 h9).2.1 hb).1, ((g10 h9).2.1 hb).2, by have := m6 h9; rw [if_pos hb] at this; exact this⟩) m7 m8)
  exact ⟨k1, c, hc⟩
theorem z_turn {h k : q_Hp} {b : Nat} {B : q_Bk} {lev : Nat → Nat} {u a l t s d : Nat} {kd op tu nx ap lv : Nat → Nat} {bg : Nat → Bool} (hu : u < 2 ^ 20) (G : z_G h k b B lev u ((a, l, t, s), d, kd, op, tu, nx, ap, lv, bg)) (sk : z_s h k 4) (hb : bg (d - 1) = true) (hw : x_W B (kd (d - 1)) (op (d - 1)) (tu (d - 1)) (ap (d - 1) + (s - a)) s) : ∃ k1, q_mV 3 338 [.ref 630] k (fun k' => k' = k1) ∧ w_g k k1 ∧ z_G h k1 b B lev u ((a, l, t, s), d, un kd (d - 1) (kd (d - 1)), op, un tu (d - 1) (tu (d - 1)), un nx (d - 1) (nx (d - 1)), un ap (d - 1) (ap (d - 1)), un lv (d - 1) (lv (d - 1)), ub bg (d - 1) false) ∧ z_s h k1 4 := by
  obtain ⟨k1, c, hn⟩ := n_cl_of hu G hb
  obtain ⟨X, Z, L, A, G, N, D⟩ := G
  have d1 := A.1
  have le := A.le
  have yf := A.2.2.2.2.1 (d - 1) (by omega)
  have p8 := Z.2.2.1.2.2.2.2.2.2.2.2.1
  have pu : 0 < tu (d - 1) ∨ kd (d - 1) = 2 := by
    rcases hw with ⟨h9, _⟩ | ⟨h9, _⟩
    · exact Or.inl ((yf.2.2.2.2.2.2.2.2.1 h9).2 hb)
    · exact Or.inr h9
  have hw2 : (kd (d - 1) = 1 ∧ ap (d - 1) < a) ∨ (kd (d - 1) = 2 ∧ tu (d - 1) < bD B (op (d - 1) - 1) 1) := by
    rcases hw with ⟨h9, h8⟩ | h9
    · exact Or.inl ⟨h9, by omega⟩
    · exact Or.inr h9
  refine ⟨k1, c, ?_⟩
  rcases hn with hn | hn | ⟨_, e, b7, b6, b6'⟩ | hn
  · omega
  · obtain ⟨hn, _⟩ := hn
    omega
  · have i630 : qI k1 630 = qI k 630 := e.I (by decide)
    refine ⟨⟨e.wide (by decide), fun j _ => congrFun i630 j⟩, ⟨X, Z.k e rfl (fun j _ => congrFun i630 j), L, A.top (u' := u) (Nat.le_refl _) Iff.rfl rfl (fun A' hA' => ?_) (ap (d - 1)) (Or.inl rfl) (fun _ h9 => ?_), ?_, ⟨?_, fun g hg => ?_⟩, ?_⟩, sk.1, by rw [i630]; exact sk.2.1, by rw [i630]; exact sk.2.2⟩
    · obtain ⟨g1, g2, g3, g4, g5, g6, g7, g8, g9, g10, g11, g12, g13, g14, g15⟩ := yf
      exact ⟨g1, g2, g3, g4, (fun h9 => by cases h9), by omega, fun _ => by omega, g8, fun h9 => ⟨(g9 h9).1, (fun h9 => by cases h9)⟩, fun h9 => ⟨(g10 h9).1, (fun h9 => by cases h9), fun _ => by omega⟩, g11, g12, g13, (fun h9 => by cases h9), g15⟩
    · omega
    · rw [un_id, un_id, un_id]
      exact G
    · rw [i630]
      exact N.1
    · have Ng := N.2 g hg
      have nn : ∀ x, ¬ (x = 706 ∨ x = 707) → x ∉ [706, 707] := by
        intro x hx
        simp only [List.mem_cons, List.not_mem_nil, or_false]
        omega
      rw [un_id, un_id, un_id, un_id, e.A (nn 703 (by decide)), e.A (nn 704 (by decide)), e.A (nn 705 (by decide)), e.A (nn 708 (by decide)), b7]
      by_cases h9 : g = d - 1
      · subst h9
        rw [upd_eq, ub_e]
        obtain ⟨m1, m2, m3, m4, m5, m6, m7, m8⟩ := Ng
        refine ⟨m1, m2, rfl, (fun h9 => by cases h9), m5, fun h9 => ?_, fun h9 => by omega, fun h9 => by omega⟩
        rw [if_neg (by decide)]
        exact b6' h9
      · rw [upd_ne h9, ub_n h9, b6 g h9]
        exact Ng
    · rw [un_id, un_id]
      intro g hg hy
      show q_dg _ _ _ (fun i => qA k1 709 (156 * g + i))
      rw [e.A (show 709 ∉ [706, 707] by decide)]
      exact D g hg hy
  · omega
theorem z_close {h k0 : q_Hp} {b : Nat} {B : q_Bk} {lev : Nat → Nat} {u a l t s d : Nat} {kd op tu nx ap lv : Nat → Nat} {bg : Nat → Bool} (hu : u < 2 ^ 20) (G0 : z_G h k0 b B lev u ((a, l, t, s), d, kd, op, tu, nx, ap, lv, bg)) (h4 : qI h 614 4 = 4) (hb : bg (d - 1) = true) (nw : ¬ x_W B (kd (d - 1)) (op (d - 1)) (tu (d - 1)) (ap (d - 1) + (s - a)) s) : q_mV 3 158 [.ref 614] h (fun h1 => w_f h h1 ∧ ∃ σ, z_sk σ < z_rk d (kd (d - 1)) ∧ ∀ k, z_G h k b B lev u ((a, l, t, s), d, kd, op, tu, nx, ap, lv, bg) → z_s h k 4 → ∃ k1, q_mV 3 338 [.ref 630] k (fun k' => k' = k1) ∧ w_g k k1 ∧ z_Z h1 k1 b B lev u σ) := by
  obtain ⟨X0, Z0, L, A, G, N0, D0⟩ := G0
  have bgs := A.bgs hb
  have le := A.le
  have d1 := A.1
  have yf := A.2.2.2.2.1 (d - 1) (by omega)
  obtain ⟨G1, G2, G3⟩ := G
  have Gd := G3 (d - 1) (by omega)
  have p8 := Z0.2.2.1.2.2.2.2.2.2.2.2.1
  have T : x_T h d (kd (d - 1)) (op (d - 1)) := ⟨G1, by omega, le.2.2, yf.1, Gd.1, Gd.2.1⟩
  have hw2 : ¬ ((kd (d - 1) = 1 ∧ ap (d - 1) < a) ∨ (kd (d - 1) = 2 ∧ tu (d - 1) < bD B (op (d - 1) - 1) 1)) := by
    rintro (⟨h9, h8⟩ | h9)
    · exact nw (Or.inl ⟨h9, Or.inr (by omega)⟩)
    · exact nw (Or.inr h9)
  refine (s158 X0 T yf.2.1 G2 (fun _ => by omega)).mono (Nat.le_refl _) ?_
  rintro h1 (⟨k3, e, r, i, a615⟩ | ⟨k3, d1', rfl⟩ | ⟨k3, d1', e, r, i⟩)
  · -- a try's first row is through
    have dg1 : 1 < d := by
      by_cases h9 : d = 1
      · rw [h9] at k3; exact absurd (A.2.2.1.symm.trans k3) (by decide)
      · omega
    have O0 := yf.2.2.1 (by omega)
    have o7 := yf.2.2.2.2.2.2.2.2.2.2.1 (Or.inl k3)
    have bb : bD B (op (d - 1) - 1) 4 ≤ bN B 5 := by
      obtain ⟨lev', _, g⟩ := X0.2.2.1.2.2.2.2.2.2.2.2.2.1
      have := yf.2.1
      rcases (g (op (d - 1) - 1) (by omega)).2.2.2.2.2.2.2.1 4 (by decide) (by decide) with h9 | h9
      · omega
      · exact h9.2.1
    have At := A.top (K := 4) (U := tu (d - 1)) (X := bD B (op (d - 1) - 1) 4) (L' := lv (d - 1)) (G := true) (u' := u) (Nat.le_refl _) (by rw [k3]; decide) rfl (fun A' hA' => by
      obtain ⟨g1, g2, g3, g4, g5, g6, g7, g8, g9, g10, g11, g12, g13, g14, g15⟩ := yf
      refine ⟨by decide, g2, g3, g4, fun _ => bb, by omega, (fun h9 => by cases h9), (fun h9 => by cases h9), (fun h9 => by cases h9), (fun h9 => by cases h9), fun _ => o7, g12, (fun h9 => by cases h9), fun _ h9 => ?_, fun h9 _ => g15 h9 (by omega)⟩
      rcases (L.2 (op (d - 1) - 1) (by omega)).2.2.2 (by omega) 4 (by decide) (by decide) with h8 | h8
      · omega
      · rw [h8]
        exact g15 (by omega) (by omega)) a (Or.inr rfl) (fun h9 => by cases h9)
    have e' : w_f h h1 := ⟨e.wide (by decide), r⟩
    refine ⟨e', ((a, l, t, s), d, un kd (d - 1) 4, op, un tu (d - 1) (tu (d - 1)), un nx (d - 1) (bD B (op (d - 1) - 1) 4), un ap (d - 1) a, un lv (d - 1) (lv (d - 1)), ub bg (d - 1) true), ?_, fun k Gk sk => ?_⟩
    · show z_rk d (un kd (d - 1) 4 (d - 1)) < z_rk d (kd (d - 1))
      rw [un_e, k3]
      unfold z_rk
      rw [if_pos rfl, if_neg (by decide)]
      omega
    obtain ⟨k1, c, hn⟩ := n_cl_of hu Gk hb
    obtain ⟨X, Z, _, _, _, N, D⟩ := Gk
    rcases hn with hn | hn | hn | ⟨_, ek, b5, b6, b7, b8, b9⟩
    · omega
    · obtain ⟨hn, _⟩ := hn
      omega
    · obtain ⟨hn, _⟩ := hn
      omega
    have i630 : qI k1 630 = qI k 630 := ek.I (by decide)
    refine ⟨k1, c, ⟨ek.wide (by decide), fun j _ => congrFun i630 j⟩, Or.inl ⟨⟨X.row e', (Z.l e rfl).k ek rfl (fun j _ => congrFun i630 j), L, At, ⟨?_, ?_, fun g hg => ?_⟩, ⟨?_, fun g hg => ?_⟩, fun g hg hy => ?_⟩, ⟨?_, by rw [i630]; exact sk.2.1, ?_⟩, ?_⟩⟩
    · rw [i, upd_ne (by decide)]; exact G1
    · rw [i, upd_ne (by decide), G2, q_pr_ext]
      intro x hx
      by_cases h9 : x = d - 1
      · rw [h9, un_e, k3]; decide
      · rw [un_n h9]
    · obtain ⟨y1, y2, y3, y4⟩ := G3 g hg
      rw [a615, e.A (show 616 ∉ [614, 615] by decide), e.A (show 617 ∉ [614, 615] by decide), e.A (show 618 ∉ [614, 615] by decide), un_id]
      by_cases h9 : g = d - 1
      · subst h9
        rw [upd_eq, un_e]
        refine ⟨rfl, y2, y3, ?_⟩
        rintro (h8 | h8 | h8)
        · omega
        · rw [un_e] at h8; omega
        · rw [un_e] at h8; omega
      · rw [upd_ne h9, un_n h9, un_n h9]
        refine ⟨y1, y2, y3, fun h8 => y4 ?_⟩
        unfold y_c at h8
        rw [un_n h9] at h8
        exact h8
    · rw [i630]; exact N.1
    · have Ng := N.2 g hg
      rw [ek.A (show 703 ∉ [705, 706, 707, 708, 709] by decide), ek.A (show 704 ∉ [705, 706, 707, 708, 709] by decide), b5, b6, b7, b8, un_id]
      by_cases h9 : g = d - 1
      · subst h9
        rw [upd_eq, upd_eq, upd_eq, upd_eq, un_e, un_e, un_e, ub_e]
        obtain ⟨m1, m2, m3, m4, m5, m6, m7, m8⟩ := Ng
        refine ⟨?_, m2, rfl, fun _ => rfl, Z.2.2.1.1, (fun h8 => by cases h8), (fun h8 => by cases h8), fun _ => Or.inl rfl⟩
        rw [m1, k3]
        rfl
      · rw [upd_ne h9, upd_ne h9, upd_ne h9, upd_ne h9, un_n h9, un_n h9, un_n h9, ub_n h9]
        exact Ng
    · have hgf : ¬ g = d - 1 := by
        rintro rfl
        rcases hy with h8 | h8 | h8
        · omega
        · rw [un_e] at h8; omega
        · rw [un_e] at h8; omega
      have hy' : y_c kd tu g := by
        unfold y_c at hy
        rw [un_n hgf, un_id] at hy
        exact hy
      refine (D g (by omega) hy').ext (fun i hi => ?_) (fun i hi => ?_)
      · show qA h1 619 (g * 156 + i) = _
        rw [e.A (show 619 ∉ [614, 615] by decide)]
      · show qA k1 709 (156 * g + i) = _
        rw [b9, va_cpy_out (by omega)]
    · rw [i, upd_ne (by decide)]; exact h4
    · rw [i, upd_ne (by decide), i630]; exact sk.2.2
    · show qI h1 614 6 = _
      rw [ub_e, if_pos rfl, un_e, i, upd_eq, x_P_s O0]
  · -- the run is through
    have e : q_Ef [614] h (q_sI h 614 4 1) := q_Ef.sI (by decide)
    have e' : w_f h (q_sI h 614 4 1) := ⟨e.wide (by decide), rfl⟩
    refine ⟨e', ((a, l, t, s), 0, kd, op, tu, nx, ap, lv, bg), ?_, fun k Gk sk => ?_⟩
    · show z_rk 0 _ < _
      unfold z_rk
      split <;> split <;> omega
    obtain ⟨k1, c, hn⟩ := n_cl_of hu Gk hb
    obtain ⟨X, Z, _, _, _, N, D⟩ := Gk
    have kk : kd (d - 1) = 0 := by rw [d1']; exact A.2.2.1
    rcases hn with ⟨_, _, rfl⟩ | hn | hn | hn
    · have ek : q_Ef [630] k (q_sI (q_sI k 630 104 1) 630 106 0) := (q_Ef.sI (by decide)).trans (q_Ef.sI (by decide))
      have ej : ∀ j, ¬ (j = 104 ∨ j = 105 ∨ j = 106) → qI (q_sI (q_sI k 630 104 1) 630 106 0) 630 j = qI k 630 j := fun j hj => by
        rw [qI_sIu, qI_sIu, upd_ne (by omega), upd_ne (by omega)]
      exact ⟨_, c, ⟨ek.wide (by decide), fun j hj => ej j (by omega)⟩, Or.inr ⟨X.row e', (Z.l e rfl).k ek rfl ej, 1, Or.inl rfl, rfl, rfl, sk.2.2⟩⟩
    · obtain ⟨hn, _⟩ := hn
      omega
    · obtain ⟨hn, _⟩ := hn
      omega
    · obtain ⟨hn, _⟩ := hn
      omega
  · -- a frame goes
    have O0 := yf.2.2.1 (by omega)
    have pre := A.2.2.2.2.2.1 (d - 1 - 1) (by omega)
    rw [show d - 1 - 1 + 1 = d - 1 by omega] at pre
    have Ac := A.cut2 (d' := d - 1) (a' := a) (u' := u) (by omega) (by omega) (bgs _ (by omega)) (by have := yf.2.2.2.2.2.1; omega) (Nat.le_refl _)
    have e' : w_f h h1 := ⟨e.wide (by decide), r⟩
    refine ⟨e', ((a, l, t, s), d - 1, kd, op, tu, nx, ap, lv, bg), ?_, fun k Gk sk => ?_⟩
    · show z_rk (d - 1) _ < z_rk d _
      unfold z_rk
      split <;> split <;> omega
    obtain ⟨k1, c, hn⟩ := n_cl_of hu Gk hb
    obtain ⟨X, Z, _, _, _, N, D⟩ := Gk
    rcases hn with hn | ⟨_, ek, ej, b6⟩ | hn | hn
    · omega
    · have ej' : ∀ j, ¬ (j = 104 ∨ j = 105 ∨ j = 106) → qI k1 630 j = qI k 630 j := fun j hj => by rw [ej, upd_ne (by omega)]
      refine ⟨k1, c, ⟨ek.wide (by decide), fun j hj => ej' j (by omega)⟩, Or.inl ⟨⟨X.row e', (Z.l e rfl).k ek rfl ej', L, Ac, ⟨?_, ?_, fun g hg => ?_⟩, N.pt (by omega) (by rw [ej, upd_eq]) (fun g hg => ?_), fun g hg hy => ?_⟩, ⟨?_, ?_, ?_⟩, ?_⟩⟩
      · rw [i, upd_ne (by decide), upd_eq]
      · rw [i, upd_ne (by decide), upd_ne (by decide), upd_eq]
        congr 1
        have := q_pr_s kd (d - 1)
        rw [show d - 1 + 1 = d by omega] at this
        by_cases h9 : kd (d - 1) = 0
        · rw [if_pos h9] at this ⊢; omega
        · rw [if_neg h9] at this ⊢; omega
      · rw [e.A (show 615 ∉ [614] by decide), e.A (show 616 ∉ [614] by decide), e.A (show 617 ∉ [614] by decide), e.A (show 618 ∉ [614] by decide)]
        exact G3 g (by omega)
      · have nn : ∀ x, ¬ (x = 630 ∨ x = 706) → x ∉ [630, 706] := by
          intro x hx
          simp only [List.mem_cons, List.not_mem_nil, or_false]
          omega
        exact ⟨congrFun (ek.A (nn 703 (by decide))) g, congrFun (ek.A (nn 704 (by decide))) g, congrFun (ek.A (nn 705 (by decide))) g, b6 g (by omega), congrFun (ek.A (nn 707 (by decide))) g, congrFun (ek.A (nn 708 (by decide))) g⟩
      · refine (D g (by omega) hy).ext (fun i hi => ?_) (fun i hi => ?_)
        · show qA h1 619 (g * 156 + i) = _
          rw [e.A (show 619 ∉ [614] by decide)]
        · show qA k1 709 (156 * g + i) = _
          rw [ek.A (show 709 ∉ [630, 706] by decide)]
      · rw [i, upd_ne (by decide), upd_ne (by decide), upd_ne (by decide)]; exact h4
      · rw [ej, upd_ne (by decide)]; exact sk.2.1
      · rw [i, upd_ne (by decide), upd_ne (by decide), upd_ne (by decide), ej, upd_ne (by decide)]; exact sk.2.2
      · show qI h1 614 6 = _
        rw [bgs _ (by omega), if_pos rfl, i, upd_eq, x_P_s O0, pre.2.2.1]
    · obtain ⟨hn, _⟩ := hn
      exact absurd hn hw2
    · omega
