/-! A STEP, side by side -/
theorem x_61 {n K : Nat} {h : q_Hp} {Q : Option Value → q_Hp → Prop} {x1 x2 : Int32} (hK : K < 8) (w : q_wp n 145 (if K = 0 then 108 else if K = 1 then 127 else if K = 2 then 158 else if K = 3 then 225 else if K = 4 then 272 else if K = 5 then 233 else if K = 6 then 246 else 259) [some (.ref 614), some (.int x1), some (.int x2), none, none] [] h Q) : q_wp n 145 61 [some (.ref 614), some (.int x1), some (.int x2), none, none] [.int (nI (15 + K))] h Q := by
  have key : ∀ j, j < 8 → nI (15 + K) = nI (15 + j) → K = j := fun j hj c => by
    have := (nI_eq (by omega) (by omega)).mp c
    omega
  refine b145_61 (fun c => ?_) (fun c => ?_) (fun c => ?_) (fun c => ?_) (fun c => ?_) (fun c => ?_) (fun c => ?_) (fun c => ?_) (fun c => ?_)
  · rw [key 0 (by decide) c] at w; exact w
  · rw [key 1 (by decide) c] at w; exact w
  · rw [key 2 (by decide) c] at w; exact w
  · rw [key 3 (by decide) c] at w; exact w
  · rw [key 4 (by decide) c] at w; exact w
  · rw [key 5 (by decide) c] at w; exact w
  · rw [key 6 (by decide) c] at w; exact w
  · rw [key 7 (by decide) c] at w; exact w
  · rw [nI_toInt (by omega)] at c
    omega
/-- what a step leaves -/
def z_sp (h h1 : q_Hp) (b : Nat) (B : q_Bk) (lev : Nat → Nat) (u : Nat) (σ : w_S) : Prop := w_f h h1 ∧ ∃ hq σ', (hq = h1 ∨ z_ph h1 hq b B) ∧ ∀ k, z_G h k b B lev u σ → z_s h k 4 → ∀ x1 m, m < 1000 → ∃ k1, n_go x1 k (m + 1) k1 m ∧ w_g k k1 ∧ z_Z hq k1 b B lev (u + 1) σ'
theorem z_145t {h k0 : q_Hp} {b : Nat} {B : q_Bk} {lev : Nat → Nat} {u a l t s d : Nat} {kd op tu nx ap lv : Nat → Nat} {bg : Nat → Bool} (hu : u + 1 < 2 ^ 20) (G0 : z_G h k0 b B lev u ((a, l, t, s), d, kd, op, tu, nx, ap, lv, bg)) (h4 : qI h 614 4 = 4) (n0 : z_n h ((a, l, t, s), d, kd, op, tu, nx, ap, lv, bg)) (hb : bg (d - 1) = false) : q_mV 7 145 [.ref 614] h (fun h1 => z_sp h h1 b B lev u ((a, l, t, s), d, kd, op, tu, nx, ap, lv, bg)) := by
  obtain ⟨X, Z0, L, A, G, N0, D0⟩ := G0
  have S : q_Sh h := X.1
  have d1 := A.1
  have le := A.le
  have yf := A.2.2.2.2.1 (d - 1) (by omega)
  have k12 := yf.2.2.2.2.2.2.1 hb
  have dg1 : 1 < d := by
    by_cases h9 : d = 1
    · exfalso
      rw [h9] at k12
      have k0' : kd (1 - 1) = 0 := A.2.2.1
      omega
    · omega
  have O0 := yf.2.2.1 (by omega)
  have O1 := yf.2.1
  have n0 : qI h 614 6 = (if bg (d - 1) = true then oN (nx (d - 1)) else -1) := n0
  rw [hb, if_neg (by decide)] at n0
  obtain ⟨o, ho⟩ : ∃ o, op (d - 1) = o + 1 := ⟨op (d - 1) - 1, by omega⟩
  have h12 : bN B 5 ≤ 1200 := X.2.2.1.2.2.2.2.2.1
  have bb : bD B o 3 ≤ bN B 5 := by
    obtain ⟨lev', _, g⟩ := X.2.2.1.2.2.2.2.2.2.2.2.2.1
    rcases (g o (by omega)).2.2.2.2.2.2.2.1 3 (by decide) (by decide) with h9 | h9
    · omega
    · exact h9.2.1
  have At := A.top (K := kd (d - 1)) (U := tu (d - 1) + 1) (X := bD B o 3) (L' := lv (d - 1)) (G := true) (u' := u + 1) (by omega) Iff.rfl rfl (fun A' hA' => by
    obtain ⟨g1, g2, g3, g4, g5, g6, g7, g8, g9, g10, g11, g12, g13, g14, g15⟩ := yf
    have k56 : 5 ≤ bD B o 0 := by
      rw [ho] at g9 g10
      rcases k12 with h9 | h9
      · have := (g9 h9).1
        rw [Nat.add_sub_cancel] at this
        omega
      · have := (g10 h9).1
        rw [Nat.add_sub_cancel] at this
        omega
    refine ⟨g1, g2, g3, by omega, fun _ => bb, by omega, (fun h9 => by cases h9), fun h9 => by omega, fun h9 => ⟨(g9 h9).1, fun _ => by omega⟩, fun h9 => ⟨(g10 h9).1, fun _ => ⟨by omega, (g10 h9).2.2 hb⟩, (fun h9 => by cases h9)⟩, g11, g12, g13, fun _ h9 => ?_, g15⟩
    have gl := g15 (by omega) (by omega)
    rw [ho, Nat.add_sub_cancel] at gl
    rcases (L.2 o (by omega)).2.2.2 k56 3 (by decide) (by decide) with h8 | h8
    · omega
    · rw [h8, gl]) a (Or.inr rfl) (fun h9 => by cases h9)
  have e0 : q_Ef [614] h (q_sI h 614 5 ((qI h 614 5) + 1)) := q_Ef.sI (by decide)
  have i0 : qI (q_sI h 614 5 ((qI h 614 5) + 1)) 614 = upd (qI h 614) 5 ((qI h 614 5) + 1) := qI_sIu _ _ _ _
  have r0 : qR (q_sI h 614 5 ((qI h 614 5) + 1)) 614 = qR h 614 := rfl
  refine q_mV.of (q_recV rfl (S.ok rfl)) (fun Q fin => ?_)
  refine b145_0 (S.ok rfl) (fun c => absurd (show qI h 614 6 = -1 from n0) c) (fun _ => ?_)
  generalize q_sI h 614 5 ((qI h 614 5) + 1) = hs at e0 i0 r0
  have Xs : x_B hs b B := X.fr e0 rfl r0
  obtain ⟨G1, G2, G3⟩ := G
  have Gd := G3 (d - 1) (by omega)
  have T : x_T hs d (kd (d - 1)) (op (d - 1)) := ⟨by rw [i0, upd_ne (by decide)]; exact G1, by omega, le.2.2, yf.1, by rw [e0.A (show 615 ∉ [614] by decide)]; exact Gd.1, by rw [e0.A (show 616 ∉ [614] by decide)]; exact Gd.2.1⟩
  refine b145_18 (s153 Xs T O1 (by rw [e0.A (show 617 ∉ [614] by decide)]; exact Gd.2.2.1)) (by decide) ?_
  rintro h1 ⟨e1, r1, i1, a7, c1, c2⟩
  have p8 := Z0.2.2.1.2.2.2.2.2.2.2.1
  have p9 := Z0.2.2.1.2.2.2.2.2.2.2.2.1
  have e2 : q_Ef [614, 617, 618, 619] h h1 := (e0.wide (by decide)).trans e1
  have e2w : w_f h h1 := ⟨e2.wide (by decide), r1.trans r0⟩
  rw [e0.A (show 618 ∉ [614] by decide), e0.A (show 619 ∉ [614] by decide)] at c2
  rw [e0.A (show 618 ∉ [614] by decide), e0.A (show 619 ∉ [614] by decide), e0.I (show 599 ∉ [614] by decide), e0.A (show 598 ∉ [614] by decide), p8] at c1
  rw [e0.A (show 617 ∉ [614] by decide)] at a7
  refine b145_22 (fin h1 ⟨e2w, h1, ((a, l, t, s), d, un kd (d - 1) (kd (d - 1)), op, un tu (d - 1) (tu (d - 1) + 1), un nx (d - 1) (bD B o 3), un ap (d - 1) a, un lv (d - 1) (lv (d - 1)), ub bg (d - 1) true), Or.inl rfl, fun k Gk sk x1 m hm => ?_⟩)
  obtain ⟨Xk, Z, _, _, _, N, D⟩ := Gk
  have Sk : q_Sh k := Z.2.1.1
  have nX : n_X k B (qA h 598) := Z.2.1
  obtain ⟨m1, m2, m3, m4, m5, m6, m7, m8⟩ := N.2 (d - 1) (by omega)
  rw [hb, if_neg (by decide)] at m3
  rw [ho, oN_s] at m2
  have f0 : q_Ef [630] k (q_sI k 630 105 ((qI k 630 105) + 1)) := q_Ef.sI (by decide)
  have j0 : qI (q_sI k 630 105 ((qI k 630 105) + 1)) 630 = upd (qI k 630) 105 ((qI k 630 105) + 1) := qI_sIu _ _ _ _
  obtain ⟨k1, ⟨f1, b5, b7, b8, b9⟩, cc⟩ := q_mV.det (s333 (k := q_sI k 630 105 ((qI k 630 105) + 1)) (d := d) (x := oN (bD B o 3)) Sk (by rw [j0, upd_ne (by decide)]; exact N.1) (by omega) (by omega))
  refine ⟨k1, n_go_turn Sk (by omega) le.2.2 sk.2.1 N.1 m3 m2 (by omega) ((z_val nX (show o < bN B 5 by omega)).2.2.2 0 (by decide)) hm cc, ?_, ?_⟩
  · exact ⟨(f0.wide (by decide)).trans (f1.wide (by decide)), fun j hj => by rw [f1.I (show 630 ∉ [705, 707, 708, 709] by decide), j0, upd_ne (by omega)]⟩
  have i2 : ∀ j, ¬ (j = 5 ∨ j = 6) → qI h1 614 j = qI h 614 j := fun j hj => by rw [i1, upd_ne (by omega), i0, upd_ne (by omega)]
  have f2 : q_Ef [630, 705, 707, 708, 709] k k1 := (f0.wide (by decide)).trans (f1.wide (by decide))
  have j2 : ∀ j, ¬ j = 105 → qI k1 630 j = qI k 630 j := fun j hj => by rw [f1.I (show 630 ∉ [705, 707, 708, 709] by decide), j0, upd_ne hj]
  rw [f0.A (show 705 ∉ [630] by decide)] at b5
  rw [f0.A (show 707 ∉ [630] by decide)] at b7
  rw [f0.A (show 708 ∉ [630] by decide), j0, upd_ne (by decide), Z.2.2.1.1] at b8
  rw [f0.A (show 709 ∉ [630] by decide), f0.A (show 691 ∉ [630] by decide)] at b9
  have D9 : q_dg (bN B 0) (bN B 1) (qA h 598) (qA k 691) := Z.1.2.2.2.2
  have n618 : ∀ g, ¬ g = d - 1 → qA h1 618 g = qA h 618 g := by
    intro g hg
    by_cases h9 : kd (d - 1) = 1
    · rw [(c1 h9).1, upd_ne hg]
    · rw [(c2 h9).1]
  have n619 : ∀ g i, ¬ g = d - 1 → i < 156 → qA h1 619 (g * 156 + i) = qA h 619 (g * 156 + i) := by
    intro g i hg hi
    by_cases h9 : kd (d - 1) = 1
    · rw [(c1 h9).2, va_cpy_out (by omega)]
    · rw [(c2 h9).2]
  have yc : ∀ g, ¬ g = d - 1 → (y_c (un kd (d - 1) (kd (d - 1))) (un tu (d - 1) (tu (d - 1) + 1)) g ↔ y_c kd tu g) := by
    intro g hg
    unfold y_c
    rw [un_n hg, un_n hg]
  have ycd : y_c (un kd (d - 1) (kd (d - 1))) (un tu (d - 1) (tu (d - 1) + 1)) (d - 1) → kd (d - 1) = 1 := by
    rintro (h9 | h9 | h9)
    · omega
    · rw [un_e] at h9; omega
    · rw [un_e] at h9; exact h9.1
  refine Or.inl ⟨⟨X.row e2w, ((Z.l e2 rfl).k f2 rfl (fun j hj => j2 j (by omega))).up (by have := Z.2.2.1.2.2.2.2.2.2.2.2.2.1; omega), L, At, ⟨?_, ?_, fun g hg => ?_⟩, ⟨?_, fun g hg => ?_⟩, fun g hg hy => ?_⟩, ⟨?_, ?_, ?_⟩, ?_⟩
  · rw [i2 7 (by decide)]; exact G1
  · rw [i2 8 (by decide), un_id]; exact G2
  · obtain ⟨y1, y2, y3, y4⟩ := G3 g hg
    rw [e2.A (show 615 ∉ [614, 617, 618, 619] by decide), e2.A (show 616 ∉ [614, 617, 618, 619] by decide), a7]
    by_cases h9 : g = d - 1
    · subst h9
      rw [upd_eq, un_e, un_e, un_e]
      refine ⟨y1, y2, rfl, fun h8 => ?_⟩
      rw [(c1 (ycd h8)).1, upd_eq]
      congr 1
      omega
    · rw [upd_ne h9, un_n h9, un_n h9, un_n h9, n618 g h9]
      exact ⟨y1, y2, y3, fun h8 => y4 ((yc g h9).mp h8)⟩
  · rw [j2 106 (by decide)]; exact N.1
  · have Ng := N.2 g hg
    rw [f2.A (show 703 ∉ [630, 705, 707, 708, 709] by decide), f2.A (show 704 ∉ [630, 705, 707, 708, 709] by decide), f2.A (show 706 ∉ [630, 705, 707, 708, 709] by decide), b5, b7, b8]
    by_cases h9 : g = d - 1
    · subst h9
      rw [upd_eq, upd_eq, upd_eq, un_e, un_e, un_e, un_e, ub_e]
      obtain ⟨q1, q2, q3, q4, q5, q6, q7, q8⟩ := Ng
      refine ⟨q1, q2, rfl, fun _ => rfl, rfl, fun h8 => ?_, q7, q8⟩
      have := q6 h8
      rw [hb, if_neg (by decide)] at this
      rw [if_pos rfl, Nat.add_sub_cancel]
      exact this
    · rw [upd_ne h9, upd_ne h9, upd_ne h9, un_n h9, un_n h9, un_n h9, un_n h9, ub_n h9]
      exact Ng
  · by_cases h9 : g = d - 1
    · subst h9
      have k1' := ycd hy
      refine D9.ext (fun i hi => ?_) (fun i hi => ?_)
      · show qA h1 619 ((d - 1) * 156 + i) = _
        rw [(c1 k1').2, va_cpy_in hi, Nat.zero_add]
      · show qA k1 709 (156 * (d - 1) + i) = _
        rw [b9, va_cpy_in hi, Nat.zero_add]
    · refine (D g hg ((yc g h9).mp hy)).ext (fun i hi => ?_) (fun i hi => ?_)
      · show qA h1 619 (g * 156 + i) = _
        exact n619 g i h9 hi
      · show qA k1 709 (156 * g + i) = _
        rw [b9, va_cpy_out (by omega)]
  · rw [i2 4 (by decide)]; exact h4
  · rw [j2 104 (by decide)]; exact sk.2.1
  · rw [i1, upd_ne (by decide), i0, upd_eq, f1.I (show 630 ∉ [705, 707, 708, 709] by decide), j0, upd_eq, sk.2.2]
  · show qI h1 614 6 = _
    rw [ub_e, if_pos rfl, un_e, i1, upd_eq, ho, x_P_s (by omega), Nat.add_sub_cancel]
theorem z_145 {h k0 : q_Hp} {b : Nat} {B : q_Bk} {lev : Nat → Nat} {u a l t s d : Nat} {kd op tu nx ap lv : Nat → Nat} {bg : Nat → Bool} (hu : u + 1 < 2 ^ 20) (G0 : z_G h k0 b B lev u ((a, l, t, s), d, kd, op, tu, nx, ap, lv, bg)) (s0 : z_s h k0 4) (n0 : z_n h ((a, l, t, s), d, kd, op, tu, nx, ap, lv, bg)) (t0 : z_t ((a, l, t, s), d, kd, op, tu, nx, ap, lv, bg)) : q_mV 7 145 [.ref 614] h (fun h1 => z_sp h h1 b B lev u ((a, l, t, s), d, kd, op, tu, nx, ap, lv, bg)) := by
  by_cases hbf : bg (d - 1) = false
  · exact z_145t hu G0 s0.1 n0 hbf
  have hb : bg (d - 1) = true := by
    cases h9 : bg (d - 1) with
    | true => rfl
    | false => exact absurd h9 hbf
  have nx0 : 0 < nx (d - 1) := by
    rcases t0 with h9 | h9
    · rw [hb] at h9; cases h9
    · exact h9
  have X := G0.1
  have S : q_Sh h := X.1
  have A := G0.2.2.2.1
  have d1 := A.1
  have le := A.le
  have yf := A.2.2.2.2.1 (d - 1) (by omega)
  have h12 : bN B 5 ≤ 1200 := X.2.2.1.2.2.2.2.2.1
  have nle := yf.2.2.2.2.1 hb
  obtain ⟨e, hx⟩ : ∃ e, nx (d - 1) = e + 1 := ⟨nx (d - 1) - 1, by omega⟩
  have he : e < bN B 5 := by omega
  have n0 : qI h 614 6 = (if bg (d - 1) = true then oN (nx (d - 1)) else -1) := n0
  rw [hb, if_pos rfl, hx, oN_s] at n0
  have e0 : q_Ef [614] h (q_sI h 614 5 ((qI h 614 5) + 1)) := q_Ef.sI (by decide)
  have r0 : qR (q_sI h 614 5 ((qI h 614 5) + 1)) 614 = qR h 614 := rfl
  have h6 : qI (q_sI h 614 5 ((qI h 614 5) + 1)) 614 6 = nI e := n0
  have pre : ∀ k, z_G h k b B lev u ((a, l, t, s), d, kd, op, tu, nx, ap, lv, bg) → z_s h k 4 → ∃ kA, z_G (q_sI h 614 5 ((qI h 614 5) + 1)) kA b B lev u ((a, l, t, s), d, kd, op, tu, un nx (d - 1) (bD B e 2), ap, lv, bg) ∧ z_s (q_sI h 614 5 ((qI h 614 5) + 1)) kA 4 ∧ w_g k kA ∧ ∀ k1, q_mV 7 341 [.ref 630, .int (nI e)] kA (fun k' => k' = k1) → ∀ x1 m, m < 1000 → n_go x1 k (m + 1) k1 m := by
    intro k Gk sk
    have GA := ((Gk.sI (j := 5) (v := (qI h 614 5) + 1) (by decide)).kI (j := 105) (v := (qI k 630 105) + 1) (Or.inr rfl)).next hb nx0
    rw [hx, Nat.add_sub_cancel] at GA
    have ek : q_Ef [630, 705] k (q_sA (q_sI k 630 105 ((qI k 630 105) + 1)) 705 (d - 1) (oN (bD B e 2))) := (q_Ef.sI (by decide)).trans (q_Ef.sA (by decide))
    have ej : ∀ j, ¬ j = 105 → qI (q_sA (q_sI k 630 105 ((qI k 630 105) + 1)) 705 (d - 1) (oN (bD B e 2))) 630 j = qI k 630 j := fun j hj => by
      show qI (q_sI k 630 105 ((qI k 630 105) + 1)) 630 j = _
      rw [qI_sIu, upd_ne hj]
    obtain ⟨Xk, Z, L, A', G, N, D⟩ := Gk
    obtain ⟨m1, m2, m3, m4, m5, m6, m7, m8⟩ := N.2 (d - 1) (by omega)
    refine ⟨_, GA, ⟨sk.1, by rw [ej 104 (by decide)]; exact sk.2.1, ?_⟩, ⟨ek.wide (by decide), fun j hj => ej j (by omega)⟩, fun k1 c x1 m hm => ?_⟩
    · show (qI h 614 5) + 1 = (qI k 630 105) + 1
      rw [sk.2.2]
    · exact n_go_do Z.2.1.1 (by omega) le.2.2 sk.2.1 N.1 (by rw [m3, if_pos hb]) (by rw [m4 hb, hx, oN_s]) (by omega) (z_val Z.2.1 he).2.2.1 hm c
  refine q_mV.of (q_recV rfl (S.ok rfl)) (fun Q fin => ?_)
  refine b145_0 (S.ok rfl) (fun _ => ?_) (fun c => absurd c (by rw [h6]; exact q_on_ne (by omega)))
  generalize q_sI h 614 5 ((qI h 614 5) + 1) = hs at e0 r0 h6 pre
  have Xs : x_B hs b B := X.fr e0 rfl r0
  have Ss := Xs.1
  have done : ∀ h1, z_dp hs h1 b B lev u ((a, l, t, s), d, kd, op, tu, un nx (d - 1) (bD B e 2), ap, lv, bg) e → Q none h1 := by
    rintro h1 ⟨f1, hq, σ', ho, hk⟩
    refine fin h1 ⟨w_f.trans ⟨e0.wide (by decide), r0⟩ f1, hq, σ', ho, fun k Gk sk x1 m hm => ?_⟩
    obtain ⟨kA, GA, sA, gA, go⟩ := pre k Gk sk
    obtain ⟨k1, c, g1, Z1⟩ := hk kA GA sA
    exact ⟨k1, go k1 c x1 m hm, gA.trans g1, Z1⟩
  obtain ⟨kA, GA, sA, gA, _⟩ := pre k0 G0 s0
  have hn : un nx (d - 1) (bD B e 2) (d - 1) = bD B e 2 := un_e
  refine b145_23 (Ss.ok rfl) Xs.2.2.2.2 (by rw [h6]; exact x_p1 Xs he) (by decide) ?_
  rintro z h2 ⟨q0, ez⟩
  subst h2
  refine b145_35 (Ss.ok rfl) Xs.2.2.2.2 (by rw [h6, ← oN_s]; exact x_pt (k := 3) Xs (show e + 1 ≤ bN B 5 by omega) (by decide) (by decide)) (by decide) ?_
  rintro z3 h2 ⟨q0, rfl⟩
  subst h2
  rw [x_P_s (by omega), Nat.add_sub_cancel]
  refine b145_48 (Ss.ok rfl) Xs.2.2.2.2 (by rw [h6]; exact x_p0 Xs he) (by decide) ?_
  rintro z0 h2 ⟨q0, rfl⟩
  subst h2
  have k8 : bD B e 0 < 8 := by
    obtain ⟨lev', _, g⟩ := X.2.2.1.2.2.2.2.2.2.2.2.2.1
    exact (g e he).1
  refine x_61 k8 ?_
  rcases (show bD B e 0 = 0 ∨ bD B e 0 = 1 ∨ bD B e 0 = 2 ∨ bD B e 0 = 3 ∨ bD B e 0 = 4 ∨ bD B e 0 = 5 ∨ bD B e 0 = 6 ∨ bD B e 0 = 7 by omega) with hk | hk | hk | hk | hk | hk | hk | hk
  · rw [ez (Or.inl hk), hk]
    exact z_do1 hu GA sA hb h6 he hn hk done
  · rw [ez (Or.inr (Or.inl hk)), hk]
    exact z_do2 hu GA sA hb h6 he hn hk done
  · rw [hk]
    exact z_do3 hu GA sA hb h6 he hn hk done
  · rw [ez (Or.inr (Or.inr (Or.inl hk))), hk]
    exact z_do4 hu GA A hx sA hb h6 he hk done
  · rw [hk]
    exact z_do5 hu GA sA hb he hk done
  · rw [hk]
    exact z_do6 hu GA A hx sA hb h6 he hk done
  · rw [hk]
    exact z_do7 hu GA A hx sA hb h6 he hk done
  · rw [hk]
    exact z_do8 hu GA A hx sA hb h6 he hk done
