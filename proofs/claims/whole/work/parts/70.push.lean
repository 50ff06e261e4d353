/-! A NEW FRAME, side by side -/
theorem z_A.up {h k : q_Hp} {b : Nat} {B : q_Bk} {a l t s u u' : Nat} (Z : z_A h k b B a l t s u) (hu : s ≤ u') : z_A h k b B a l t s u' := by
  obtain ⟨X, N, ⟨h1, h2, h3, h4, h5, h6, h7, h8, h9, h10, h11⟩, M⟩ := Z
  exact ⟨X, N, ⟨h1, h2, h3, h4, h5, h6, h7, h8, h9, hu, h11⟩, M⟩
theorem z_push {h k hs ks : q_Hp} {b : Nat} {B : q_Bk} {lev : Nat → Nat} {u u' a l t s d e adv K X L' : Nat} {kd op tu nx ap lv : Nat → Nat} {bg : Nat → Bool} {G : Bool} {r z : Int32}
    (GA : z_G h k b B lev u ((a, l, t, s), d, kd, op, tu, un nx (d - 1) adv, ap, lv, bg)) (AP : y_A B lev a u' (d + 1) (un kd d K) (un op d (e + 1)) (un tu d 0) (un (un nx (d - 1) adv) d X) (un ap d a) (un lv d L') (ub bg d G)) (hu : u ≤ u') (hK : K < 4) (o : x_op h hs d K (oN (e + 1)) r)
    (ek : q_Ef [630, 703, 704, 705, 706, 707, 708, 709] k ks) (ei : ∀ j, qI ks 630 j = upd (qI k 630) 106 (nI (d + 1)) j) (b3 : qA ks 703 = upd (qA k 703) d (nI K)) (b4 : qA ks 704 = upd (qA k 704) d (nI e)) (b5 : qA ks 705 = upd (qA k 705) d z) (b6 : qA ks 706 = upd (qA k 706) d 0) (b7 : qA ks 707 = upd (qA k 707) d (if G = true then 1 else 0)) (b8 : qA ks 708 = upd (qA k 708) d (nI a)) (b9 : qA ks 709 = va_cpy (qA k 691) (qA k 709) 0 (156 * d) 156)
    (hz : G = true → z = oN X) (hr : r = if G = true then oN X else -1) (h2 : K = 2 → G = false) : z_G hs ks b B lev u' ((a, l, t, s), d + 1, un kd d K, un op d (e + 1), un tu d 0, un (un nx (d - 1) adv) d X, un ap d a, un lv d L', ub bg d G) ∧ z_n hs ((a, l, t, s), d + 1, un kd d K, un op d (e + 1), un tu d 0, un (un nx (d - 1) adv) d X, un ap d a, un lv d L', ub bg d G) := by
  obtain ⟨Xb, Z, L, A, G0, N, D⟩ := GA
  obtain ⟨o1, o2, o3, o4, o5, o6, o7, o8⟩ := o
  obtain ⟨G1, G2, G3⟩ := G0
  have d1 := A.1
  have e' : w_f h hs := ⟨o1.wide (by decide), o2⟩
  have p8 := Z.2.2.1.2.2.2.2.2.2.2.1
  have p9 := Z.2.2.1.2.2.2.2.2.2.2.2.1
  have p10 := Z.2.2.1.2.2.2.2.2.2.2.2.2.1
  have D0 : q_dg (bN B 0) (bN B 1) (qA h 598) (qA k 691) := Z.1.2.2.2.2
  have cur : (d = 0 ∨ K = 3) → qA hs 618 = upd (qA h 618) d (nI s) ∧ qA hs 619 = va_cpy (qA h 598) (qA h 619) 0 (d * 156) 156 := fun h9 => by
    have := o7 h9
    rw [p8] at this
    exact this
  have n618 : ∀ g, ¬ g = d → qA hs 618 g = qA h 618 g := by
    intro g hg
    by_cases h9 : d = 0 ∨ K = 3
    · rw [(cur h9).1, upd_ne hg]
    · rw [(o8 h9).1]
  have n619 : ∀ g i, ¬ g = d → i < 156 → qA hs 619 (g * 156 + i) = qA h 619 (g * 156 + i) := by
    intro g i hg hi
    by_cases h9 : d = 0 ∨ K = 3
    · rw [(cur h9).2, va_cpy_out (by omega)]
    · rw [(o8 h9).2]
  have yc : ∀ g, ¬ g = d → (y_c (un kd d K) (un tu d 0) g ↔ y_c kd tu g) := by
    intro g hg
    unfold y_c
    rw [un_n hg, un_n hg]
  have ycd : y_c (un kd d K) (un tu d 0) d → K = 3 := by
    rintro (h9 | h9 | h9)
    · omega
    · rw [un_e] at h9; exact h9
    · rw [un_e, un_e] at h9; omega
  refine ⟨⟨Xb.row e', ((Z.l o1 rfl).k ek rfl (fun j hj => by rw [ei, upd_ne (by omega)])).up (by omega), L, AP, ⟨?_, ?_, fun g hg => ?_⟩, ⟨?_, fun g hg => ?_⟩, fun g hg hy => ?_⟩, ?_⟩
  · rw [o3, if_neg (by decide), if_pos rfl]
  · rw [o3, if_neg (by decide), if_neg (by decide), q_pr_s, un_e, q_pr_ext (kd' := kd) (fun f hf => by rw [un_n (by omega)])]
    by_cases h9 : K = 0
    · rw [if_pos ⟨rfl, h9⟩, if_pos h9, G2, nI_1]
    · rw [if_neg (fun h8 => h9 h8.2), if_neg h9, G2]
      rfl
  · rw [o4, o5, o6]
    by_cases h9 : g = d
    · subst h9
      rw [upd_eq, upd_eq, upd_eq, un_e, un_e, un_e, un_e]
      refine ⟨rfl, rfl, rfl, fun h8 => ?_⟩
      rw [(cur (Or.inr (ycd h8))).1, upd_eq]
      congr 1
      omega
    · rw [upd_ne h9, upd_ne h9, upd_ne h9, un_n h9, un_n h9, un_n h9, un_n h9, n618 g h9]
      obtain ⟨y1, y2, y3, y4⟩ := G3 g (by omega)
      exact ⟨y1, y2, y3, fun h8 => y4 ((yc g h9).mp h8)⟩
  · rw [ei, upd_eq]
  · rw [b3, b4, b5, b6, b7, b8]
    by_cases h9 : g = d
    · subst h9
      rw [upd_eq, upd_eq, upd_eq, upd_eq, upd_eq, upd_eq, un_e, un_e, un_e, un_e, un_e, ub_e]
      refine ⟨?_, (oN_s e).symm, rfl, fun h8 => hz h8, rfl, fun h8 => ?_, fun _ => rfl, fun h8 => by omega⟩
      · rw [if_neg (by omega)]
      · rw [h2 h8, if_neg (by decide)]
        rfl
    · rw [upd_ne h9, upd_ne h9, upd_ne h9, upd_ne h9, upd_ne h9, upd_ne h9, un_n h9, un_n h9, un_n h9, un_n h9, un_n h9, ub_n h9]
      exact N.2 g (by omega)
  · by_cases h9 : g = d
    · subst h9
      have k3 := ycd hy
      refine D0.ext (fun i hi => ?_) (fun i hi => ?_)
      · show qA hs 619 (g * 156 + i) = _
        rw [(cur (Or.inr k3)).2, va_cpy_in hi, Nat.zero_add]
      · show qA ks 709 (156 * g + i) = _
        rw [b9, va_cpy_in hi, Nat.zero_add]
    · refine (D g (by omega) ((yc g h9).mp hy)).ext (fun i hi => ?_) (fun i hi => ?_)
      · show qA hs 619 (g * 156 + i) = _
        exact n619 g i h9 hi
      · show qA ks 709 (156 * g + i) = _
        rw [b9, va_cpy_out (by omega)]
  · show qI hs 614 6 = _
    rw [o3, if_pos rfl, Nat.add_sub_cancel, ub_e, un_e, hr]
/-- behind an application -/
theorem z_G.app {h k h2 k2 : q_Hp} {b : Nat} {B : q_Bk} {lev : Nat → Nat} {u u' a l t s a' l' t' s' d : Nat} {kd op tu nx ap lv : Nat → Nat} {bg : Nat → Bool} (G : z_G h k b B lev u ((a, l, t, s), d, kd, op, tu, nx, ap, lv, bg)) (e : z_f h h2) (g : z_g k k2) (Z2 : z_A h2 k2 b B a' l' t' s' u') (ha : (a' = a + 1 ∧ s' = s + 1) ∨ (a' = a ∧ s' = s)) (hb : bg (d - 1) = true) (hu : u ≤ u') : z_G h2 k2 b B lev u' ((a', l', t', s'), d, kd, op, tu, nx, ap, lv, bg) := by
  obtain ⟨X, Z, L, A, ⟨G1, G2, G3⟩, N, D⟩ := G
  have p9 := Z.2.2.1.2.2.2.2.2.2.2.2.1
  have e614 : qI h2 614 = qI h 614 := q_Ef.I e (by decide)
  refine ⟨X.row (z_f.w e), Z2, L, ?_, ⟨by rw [e614]; exact G1, by rw [e614]; exact G2, fun f hf => ?_⟩, N.pt (Nat.le_refl _) (by rw [g.2 106 (by decide)]; exact N.1) (fun f hf => ?_), fun f hf hy => ?_⟩
  · obtain ⟨h1, h2, h3, h4, h5, h6, h7⟩ := A
    refine ⟨h1, h2, h3, h4, fun f hf => (h5 f hf).up (by have := (h5 f hf).2.2.2.2.2.1; omega) hu, h6, fun h9 => ?_⟩
    rw [hb] at h9
    cases h9
  · rw [q_Ef.A e (show 615 ∉ [598, 599, 600, 601, 602, 603, 604, 605, 606, 607, 608, 609, 610, 611, 612, 613] by decide), q_Ef.A e (show 616 ∉ [598, 599, 600, 601, 602, 603, 604, 605, 606, 607, 608, 609, 610, 611, 612, 613] by decide), q_Ef.A e (show 617 ∉ [598, 599, 600, 601, 602, 603, 604, 605, 606, 607, 608, 609, 610, 611, 612, 613] by decide), q_Ef.A e (show 618 ∉ [598, 599, 600, 601, 602, 603, 604, 605, 606, 607, 608, 609, 610, 611, 612, 613] by decide), show s' - a' = s - a by omega]
    exact G3 f hf
  · exact ⟨congrFun (g.1.A (by decide)) f, congrFun (g.1.A (by decide)) f, congrFun (g.1.A (by decide)) f, congrFun (g.1.A (by decide)) f, congrFun (g.1.A (by decide)) f, congrFun (g.1.A (by decide)) f⟩
  · refine (D f hf hy).ext (fun i hi => ?_) (fun i hi => ?_)
    · show qA h2 619 (f * 156 + i) = _
      rw [q_Ef.A e (show 619 ∉ [598, 599, 600, 601, 602, 603, 604, 605, 606, 607, 608, 609, 610, 611, 612, 613] by decide)]
    · show qA k2 709 (156 * f + i) = _
      rw [g.1.A (show 709 ∉ [630, 691, 692, 695, 696, 697, 698, 699, 700, 701, 702] by decide)]
