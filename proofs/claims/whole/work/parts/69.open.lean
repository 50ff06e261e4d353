/-! OPENING FRAMES, AND WHAT FOLLOWS A DO -/
def x_op (h h' : q_Hp) (d K : Nat) (o r : Int32) : Prop := q_Ef [614, 615, 616, 617, 618, 619] h h' ∧ qR h' 614 = qR h 614 ∧ (∀ j, qI h' 614 j = if j = 6 then r else if j = 7 then nI (d + 1) else if j = 8 ∧ K = 0 then qI h 614 8 + 1 else qI h 614 j) ∧ qA h' 615 = upd (qA h 615) d (nI K) ∧ qA h' 616 = upd (qA h 616) d o ∧ qA h' 617 = upd (qA h 617) d 0 ∧ ((d = 0 ∨ K = 3) → qA h' 618 = upd (qA h 618) d (qI h 599 4) ∧ qA h' 619 = va_cpy (qA h 598) (qA h 619) 0 (d * 156) 156) ∧ (¬ (d = 0 ∨ K = 3) → qA h' 618 = qA h 618 ∧ qA h' 619 = qA h 619)
theorem s147 {h : q_Hp} {d K : Nat} {o r : Int32} (S : q_Sh h) (hd : qI h 614 7 = nI d) (h1 : d < 180) (hK : K < 5) : q_mV 3 147 [.ref 614, .int (nI K), .int o, .int r] h (fun h' => x_op h h' d K o r) := by
  refine q_mV.of (q_recV rfl (S.ok rfl)) (fun Q fin => ?_)
  have i0 : q_in (nI d) (qK h 615).2 := S.inN (n := 180) rfl h1 (by decide)
  have i1 : q_in (nI d) (qK h 616).2 := S.inN (n := 180) rfl h1 (by decide)
  have i2 : q_in (nI d) (qK h 617).2 := S.inN (n := 180) rfl h1 (by decide)
  have e1 : q_Ef [614, 615, 616, 617] h (q_sI (q_sA (q_sA (q_sA h 615 d (nI K)) 616 d o) 617 d 0) 614 7 (nI (d + 1))) := (((q_Ef.sA (by decide)).trans (q_Ef.sA (by decide))).trans (q_Ef.sA (by decide))).trans (q_Ef.sI (by decide))
  have a5 : qA (q_sI (q_sA (q_sA (q_sA h 615 d (nI K)) 616 d o) 617 d 0) 614 7 (nI (d + 1))) 615 = upd (qA h 615) d (nI K) := by
    rw [(q_Ef.sI (S := [614]) (by decide)).A (show 615 ∉ [614] by decide), (q_Ef.sA (S := [617]) (by decide)).A (show 615 ∉ [617] by decide), (q_Ef.sA (S := [616]) (by decide)).A (show 615 ∉ [616] by decide), qA_sAu]
  have a6 : qA (q_sI (q_sA (q_sA (q_sA h 615 d (nI K)) 616 d o) 617 d 0) 614 7 (nI (d + 1))) 616 = upd (qA h 616) d o := by
    rw [(q_Ef.sI (S := [614]) (by decide)).A (show 616 ∉ [614] by decide), (q_Ef.sA (S := [617]) (by decide)).A (show 616 ∉ [617] by decide), qA_sAu, (q_Ef.sA (S := [615]) (by decide)).A (show 616 ∉ [615] by decide)]
  have a7 : qA (q_sI (q_sA (q_sA (q_sA h 615 d (nI K)) 616 d o) 617 d 0) 614 7 (nI (d + 1))) 617 = upd (qA h 617) d 0 := by
    rw [(q_Ef.sI (S := [614]) (by decide)).A (show 617 ∉ [614] by decide), qA_sAu, (q_Ef.sA (S := [616]) (by decide)).A (show 617 ∉ [616] by decide), (q_Ef.sA (S := [615]) (by decide)).A (show 617 ∉ [615] by decide)]
  have ai : qI (q_sI (q_sA (q_sA (q_sA h 615 d (nI K)) 616 d o) 617 d 0) 614 7 (nI (d + 1))) 614 = upd (qI h 614) 7 (nI (d + 1)) := by
    rw [qI_sIu]
    rfl
  have r1 : qR (q_sI (q_sA (q_sA (q_sA h 615 d (nI K)) 616 d o) 617 d 0) 614 7 (nI (d + 1))) 614 = qR h 614 := rfl
  have hh : q_sI (q_sA (q_sA (q_sA h 615 (qI h 614 7 : Int32).toNatClampNeg (nI K)) 616 (qI h 614 7 : Int32).toNatClampNeg o) 617 (qI h 614 7 : Int32).toNatClampNeg 0) 614 7 ((qI h 614 7) + 1) = q_sI (q_sA (q_sA (q_sA h 615 d (nI K)) 616 d o) 617 d 0) 614 7 (nI (d + 1)) := by
    rw [hd, nI_clamp (by omega), nI_1]
  generalize q_sI (q_sA (q_sA (q_sA h 615 d (nI K)) 616 d o) 617 d 0) 614 7 (nI (d + 1)) = h1' at e1 a5 a6 a7 ai r1 hh
  -- behind the count of procs
  have j77 : ∀ h2, q_Ef [614, 615, 616, 617] h h2 → qR h2 614 = qR h 614 → (∀ j, qI h2 614 j = if j = 7 then nI (d + 1) else if j = 8 ∧ K = 0 then qI h 614 8 + 1 else qI h 614 j) → qA h2 615 = upd (qA h 615) d (nI K) → qA h2 616 = upd (qA h 616) d o → qA h2 617 = upd (qA h 617) d 0 → q_wp 3 147 77 [some (.ref 614), some (.int (nI K)), some (.int o), some (.int r)] [] h2 Q := by
    intro h2 e r2 i b5 b6 b7
    have S2 := e.sh S
    have i7 : qI h2 614 7 = nI (d + 1) := by rw [i, if_pos rfl]
    have last : ∀ h3, q_Ef [618, 619] h2 h3 → ((d = 0 ∨ K = 3) → qA h3 618 = upd (qA h 618) d (qI h 599 4) ∧ qA h3 619 = va_cpy (qA h 598) (qA h 619) 0 (d * 156) 156) → (¬ (d = 0 ∨ K = 3) → qA h3 618 = qA h 618 ∧ qA h3 619 = qA h 619) → q_wp 3 147 94 [some (.ref 614), some (.int (nI K)), some (.int o), some (.int r)] [] h3 Q := by
      intro h3 e3 y n
      have S3 := e3.sh S2
      refine b147_94 (S3.ok rfl) (fin _ ⟨((e.wide (by decide)).trans (e3.wide (by decide))).trans (q_Ef.sI (by decide)), (e3.R (by decide)).trans r2, fun j => ?_, (e3.A (by decide)).trans b5, (e3.A (by decide)).trans b6, (e3.A (by decide)).trans b7, y, n⟩)
      rw [qI_sIu]
      by_cases h9 : j = 6
      · rw [if_pos h9, h9, upd_eq]
      · rw [if_neg h9, upd_ne h9, e3.I (show 614 ∉ [618, 619] by decide)]
        exact i j
    have note : (d = 0 ∨ K = 3) → q_wp 3 147 90 [some (.ref 614), some (.int (nI K)), some (.int o), some (.int r)] [] h2 Q := by
      intro hy
      refine b147_90 (s148 S2 i7 (by omega) (by omega)) (by decide) ?_
      rintro h3 ⟨e3, c8, c9⟩
      rw [Nat.add_sub_cancel] at c8 c9
      have nn : ∀ x, ¬ (x = 614 ∨ x = 615 ∨ x = 616 ∨ x = 617) → x ∉ [614, 615, 616, 617] := by
        intro x hx
        simp only [List.mem_cons, List.not_mem_nil, or_false]
        omega
      refine last h3 e3 (fun _ => ⟨?_, ?_⟩) (fun hn => absurd hy hn)
      · rw [c8, e.A (nn 618 (by decide)), e.I (nn 599 (by decide))]
      · rw [c9, e.A (nn 619 (by decide)), e.A (nn 598 (by decide))]
    refine b147_77 (S2.ok rfl) (fun c => note (Or.inl ?_)) (fun c => b147_85 (fun c2 => last h2 q_Ef.rf (fun hy => ?_) (fun _ => ⟨e.A (by decide), e.A (by decide)⟩)) (fun c2 => note (Or.inr ?_)))
    · rw [i7] at c
      have := (nI_eq (b := 1) (by omega) (by decide)).mp c
      omega
    · exfalso
      rcases hy with h9 | h9
      · exact c (by rw [i7, h9]; rfl)
      · exact c2 (by rw [h9]; rfl)
    · exact (nI_eq (b := 3) (by omega) (by decide)).mp c2
  have S1 := e1.sh S
  refine b147_0 (S.ok rfl) (fun c => absurd c (by rw [hd]; exact nI_pos (by omega))) (fun _ => b147_7 (S.ok rfl) (fun _ => ?_) (fun c => absurd (by rw [hd]; exact (nI_ltI (b := 180) (by omega) (by decide)).mpr h1) c))
  refine b147_23 (S.ok rfl) (S.ref (v := 615) rfl) (S.ok rfl) (by rw [hd]; exact i0) (S.ref (v := 616) rfl) (S.ok rfl) (by rw [hd]; exact i1) (S.ref (v := 617) rfl) (S.ok rfl) (by rw [hd]; exact i2) (fun c => ?_) (fun c => ?_)
  · rw [hh]
    have k0 : ¬ K = 0 := fun h9 => c (by rw [h9]; rfl)
    refine j77 h1' e1 r1 (fun j => ?_) a5 a6 a7
    rw [ai]
    by_cases h9 : j = 7
    · rw [h9, upd_eq, if_pos rfl]
    · rw [upd_ne h9, if_neg h9, if_neg (fun h8 => k0 h8.2)]
  · rw [hh]
    have k0 : K = 0 := (nI_eq (b := 0) (by omega) (by decide)).mp c
    refine b147_67 (S1.ok rfl) (j77 _ (e1.trans (q_Ef.sI (by decide))) r1 (fun j => ?_) a5 a6 a7)
    rw [qI_sIu, ai]
    by_cases h9 : j = 7
    · rw [h9, upd_ne (by decide), upd_eq, if_pos rfl]
    · by_cases h8 : j = 8
      · rw [h8, upd_eq, upd_ne (by decide), if_neg (by decide), if_pos ⟨rfl, k0⟩]
      · rw [upd_ne h8, upd_ne h9, if_neg h9, if_neg (fun h7 => h8 h7.1)]
theorem s153 {h : q_Hp} {b d K O U : Nat} {B : q_Bk} (X : x_B h b B) (t : x_T h d K O) (hO : O ≤ bN B 5) (hU : qA h 617 (d - 1) = nI U) : q_mV 3 153 [.ref 614] h (fun h' => q_Ef [614, 617, 618, 619] h h' ∧ qR h' 614 = qR h 614 ∧ qI h' 614 = upd (qI h 614) 6 (x_P B O 3) ∧ qA h' 617 = upd (qA h 617) (d - 1) (nI (U + 1)) ∧ (K = 1 → qA h' 618 = upd (qA h 618) (d - 1) (qI h 599 4) ∧ qA h' 619 = va_cpy (qA h 598) (qA h 619) 0 ((d - 1) * 156) 156) ∧ (¬ K = 1 → qA h' 618 = qA h 618 ∧ qA h' 619 = qA h 619)) := by
  have S := X.1
  obtain ⟨t1, t2, t3, t4, t5, t6⟩ := t
  refine q_mV.of (q_recV rfl (S.ok rfl)) (fun Q fin => ?_)
  have ca : q_mI 0 232 [.ref 617, .int ((qI h 614 7) - 1)] h (fun z h' => h' = h ∧ z = nI U) := by
    have := s232 (h := h) (a := 617) (n := 180) (x := nI (d - 1)) (S.ok rfl) (S.len rfl) (by omega)
    rw [c_at_n (by omega) (by omega), hU] at this
    rw [t1, x_d1 t2]
    exact this
  refine b153_0 (S.ok rfl) (S.ref (v := 617) rfl) ca (by decide) ?_
  rintro z h2 ⟨e0, rfl⟩
  subst h2
  have cs : q_mV 0 233 [.ref 617, .int ((qI h 614 7) - 1), .int (nI U + 1)] h (fun h' => h' = q_sA h 617 (d - 1) (nI (U + 1))) := by
    have := s233 (h := h) (a := 617) (n := 180) (x := nI (d - 1)) (v := nI (U + 1)) (S.ok rfl) (S.len rfl) (by decide)
    rw [c_set_in (show d - 1 < 180 by omega) (by decide)] at this
    rw [t1, x_d1 t2, nI_1]
    exact this
  refine b153_23 cs (by decide) ?_
  rintro h3 rfl
  have e3 : q_Ef [617] h (q_sA h 617 (d - 1) (nI (U + 1))) := q_Ef.sA (by decide)
  have a3 : qA (q_sA h 617 (d - 1) (nI (U + 1))) 617 = upd (qA h 617) (d - 1) (nI (U + 1)) := qA_sAu _ _ _ _
  generalize q_sA h 617 (d - 1) (nI (U + 1)) = h3 at e3 a3
  have X3 : x_B h3 b B := X.fr e3 rfl (e3.R (by decide))
  have S3 := X3.1
  have i3 : qI h3 614 = qI h 614 := e3.I (by decide)
  have t7 : qI h3 614 7 = nI d := by rw [i3]; exact t1
  have last : ∀ h4, q_Ef [618, 619] h3 h4 → (K = 1 → qA h4 618 = upd (qA h 618) (d - 1) (qI h 599 4) ∧ qA h4 619 = va_cpy (qA h 598) (qA h 619) 0 ((d - 1) * 156) 156) → (¬ K = 1 → qA h4 618 = qA h 618 ∧ qA h4 619 = qA h 619) → q_wp 3 153 40 [some (.ref 614)] [] h4 Q := by
    intro h4 e4 y n
    have X4 : x_B h4 b B := X3.fr e4 rfl (e4.R (by decide))
    have S4 := X4.1
    have i4 : qI h4 614 = qI h 614 := (e4.I (by decide)).trans i3
    refine b153_40 (S4.ok rfl) X4.2.2.2.2 (s151 (d := d) S4 (by rw [i4]; exact t1) t2 t3) (by decide) ?_
    rintro z h5 ⟨e5, rfl⟩
    subst h5
    rw [e4.A (show 616 ∉ [618, 619] by decide), e3.A (show 616 ∉ [617] by decide), t6]
    refine b153_49 (x_pt (k := 3) X4 hO (by decide) (by decide)) (by decide) ?_
    rintro z h5 ⟨e5, rfl⟩
    subst h5
    refine b153_53 (S4.ok rfl) (fin _ ⟨((e3.wide (by decide)).trans (e4.wide (by decide))).trans (q_Ef.sI (by decide)), (e4.R (by decide)).trans (e3.R (by decide)), ?_, (e4.A (by decide)).trans a3, y, n⟩)
    rw [qI_sIu, i4]
  refine b153_28 (s150 (d := d) S3 t7 t2 t3) (by decide) ?_
  rintro z h5 ⟨e5, rfl⟩
  subst h5
  rw [e3.A (show 615 ∉ [617] by decide), t5]
  refine b153_32 (fun c => last h3 q_Ef.rf (fun h9 => absurd (by rw [h9]; rfl) c) (fun _ => ⟨e3.A (by decide), e3.A (by decide)⟩)) (fun c => b153_36 (s148 S3 t7 t2 t3) (by decide) ?_)
  rintro h4 ⟨e4, c8, c9⟩
  refine last h4 e4 (fun _ => ⟨?_, ?_⟩) (fun h9 => absurd ((nI_eq (b := 1) (by omega) (by decide)).mp c) h9)
  · rw [c8, e3.A (show 618 ∉ [617] by decide), e3.I (show 599 ∉ [617] by decide)]
  · rw [c9, e3.A (show 619 ∉ [617] by decide), e3.A (show 598 ∉ [617] by decide)]
theorem z_G.sI {h k : q_Hp} {b : Nat} {B : q_Bk} {lev : Nat → Nat} {u : Nat} {σ : w_S} {j : Nat} {v : Int32} (G : z_G h k b B lev u σ) (hj : j < 7) : z_G (q_sI h 614 j v) k b B lev u σ := by
  obtain ⟨⟨a, l, t, s⟩, d, kd, op, tu, nx, ap, lv, bg⟩ := σ
  obtain ⟨X, Z, L, A, G, N, D⟩ := G
  have e : q_Ef [614] h (q_sI h 614 j v) := q_Ef.sI (by decide)
  refine ⟨X.fr e rfl rfl, Z.l e rfl, L, A, ⟨?_, ?_, G.2.2⟩, N, D⟩
  · rw [qI_sIu, upd_ne (by omega)]; exact G.1
  · rw [qI_sIu, upd_ne (by omega)]; exact G.2.1
theorem z_G.kI {h k : q_Hp} {b : Nat} {B : q_Bk} {lev : Nat → Nat} {u : Nat} {σ : w_S} {j : Nat} {v : Int32} (G : z_G h k b B lev u σ) (hj : j = 104 ∨ j = 105) : z_G h (q_sI k 630 j v) b B lev u σ := by
  obtain ⟨⟨a, l, t, s⟩, d, kd, op, tu, nx, ap, lv, bg⟩ := σ
  obtain ⟨X, Z, L, A, G, N, D⟩ := G
  have e : q_Ef [630] k (q_sI k 630 j v) := q_Ef.sI (by decide)
  refine ⟨X, Z.k e rfl (fun i hi => ?_), L, A, G, ⟨?_, N.2⟩, D⟩
  · rw [qI_sIu, upd_ne (by omega)]
  · rw [qI_sIu, upd_ne (by omega)]; exact N.1
/-- what comes next moves on -/
theorem z_G.next {h k : q_Hp} {b : Nat} {B : q_Bk} {lev : Nat → Nat} {u a l t s d : Nat} {kd op tu nx ap lv : Nat → Nat} {bg : Nat → Bool} (G : z_G h k b B lev u ((a, l, t, s), d, kd, op, tu, nx, ap, lv, bg)) (hb : bg (d - 1) = true) (h0 : 0 < nx (d - 1)) : z_G h (q_sA k 705 (d - 1) (oN (bD B (nx (d - 1) - 1) 2))) b B lev u ((a, l, t, s), d, kd, op, tu, un nx (d - 1) (bD B (nx (d - 1) - 1) 2), ap, lv, bg) := by
  obtain ⟨X, Z, L, A, G, N, D⟩ := G
  have e : q_Ef [705] k (q_sA k 705 (d - 1) (oN (bD B (nx (d - 1) - 1) 2))) := q_Ef.sA (by decide)
  refine ⟨X, Z.k e rfl (fun i hi => rfl), L, A.next X.2.2.1 L hb h0 (Nat.le_refl _) (Nat.le_refl _), G, ⟨N.1, fun f hf => ?_⟩, D⟩
  obtain ⟨m1, m2, m3, m4, m5, m6, m7, m8⟩ := N.2 f hf
  refine ⟨m1, m2, m3, fun h9 => ?_, m5, m6, m7, m8⟩
  rw [qA_sAu]
  by_cases h8 : f = d - 1
  · rw [h8, upd_eq, un_e]
  · rw [upd_ne h8, un_n h8]
    exact m4 h9
theorem z_done {h k0 : q_Hp} {b : Nat} {B : q_Bk} {lev : Nat → Nat} {u a l t s d O : Nat} {kd op tu nx ap lv : Nat → Nat} {bg : Nat → Bool} {z : Int32} (hu : u < 2 ^ 20) (G0 : z_G h k0 b B lev u ((a, l, t, s), d, kd, op, tu, nx, ap, lv, bg)) (h4 : qI h 614 4 = 4) (hb : bg (d - 1) = true) (h6 : qI h 614 6 = oN O) (o0 : 0 < O) (o1 : O ≤ bN B 5) (hn : nx (d - 1) = bD B (O - 1) 2) (hz : z = 0 ∨ z = 1 ∨ z = 2) : q_mV 4 154 [.ref 614, .int z] h (fun h1 => w_f h h1 ∧ ∃ σ, ∀ k, z_G h k b B lev u ((a, l, t, s), d, kd, op, tu, nx, ap, lv, bg) → z_s h k 4 → ∃ k1, q_mV 4 342 [.ref 630, .int (if z = 2 then -3 else z)] k (fun k' => k' = k1) ∧ w_g k k1 ∧ z_Z h1 k1 b B lev u σ) := by
  have X := G0.1
  have S : q_Sh h := X.1
  refine q_mV.of (q_recV rfl (S.ok rfl)) (fun Q fin => ?_)
  rcases hz with rfl | rfl | rfl
  · refine b154_0 (fun _ => b154_13 (fun c => absurd rfl c) (fun _ => b154_17 (z_fail hu G0 h4 hb) (by decide) ?_)) (fun c => absurd c (by decide))
    rintro h1 ⟨e1, σ, hk⟩
    refine b154_21 (fin _ ⟨e1, σ, fun k Gk sk => ?_⟩)
    obtain ⟨k1, c, g, Z1⟩ := hk k Gk sk
    have Sk : q_Sh k := Gk.2.1.2.1.1
    refine ⟨k1, ?_, g, Z1⟩
    rw [if_neg (by decide)]
    refine q_mV.of (q_recV rfl (Sk.ok rfl)) (fun Q' fin' => ?_)
    refine b342_0 (fun c2 => absurd rfl c2) (fun _ => b342_4 c (by decide) ?_)
    rintro k2 rfl
    exact b342_8 (fun _ => b342_17 (fin' _ rfl)) (fun c2 => absurd (by decide) c2)
  · refine b154_0 (fun _ => b154_13 (fun _ => b154_24 (S.ok rfl) (show qR h 614 3 = b from X.2.2.2.2) ?_ (m := 1) (P := fun z h' => h' = h ∧ z = x_P B O 2) (by decide) ?_) (fun c => absurd c (by decide))) (fun c => absurd c (by decide))
    · rw [h6]
      exact x_pt (k := 2) X o1 (by decide) (by decide)
    rintro z h2 ⟨e0, rfl⟩
    subst h2
    have e1 : q_Ef [614] h (q_sI h 614 6 (x_P B O 2)) := q_Ef.sI (by decide)
    refine b154_37 (S.ok rfl) (fin _ ⟨⟨e1.wide (by decide), rfl⟩, ((a, l, t, s), d, kd, op, tu, nx, ap, lv, bg), fun k Gk sk => ?_⟩)
    have Sk : q_Sh k := Gk.2.1.2.1.1
    refine ⟨k, ?_, w_g.rf, Or.inl ⟨Gk.sI (by decide), ⟨sk.1, sk.2.1, sk.2.2⟩, ?_⟩⟩
    · rw [if_neg (by decide)]
      refine q_mV.of (q_recV rfl (Sk.ok rfl)) (fun Q' fin' => ?_)
      exact b342_0 (fun _ => b342_8 (fun _ => b342_17 (fin' _ rfl)) (fun c2 => absurd (by decide) c2)) (fun c2 => absurd c2 (by decide))
    · show qI (q_sI h 614 6 (x_P B O 2)) 614 6 = _
      rw [qI_sIu, upd_eq, hb, if_pos rfl, x_P_s o0, hn]
  · have e1 : q_Ef [614] h (q_sI h 614 4 3) := q_Ef.sI (by decide)
    refine b154_0 (fun c => absurd rfl c) (fun _ => b154_5 (S.ok rfl) (fin _ ⟨⟨e1.wide (by decide), rfl⟩, ((a, l, t, s), d, kd, op, tu, nx, ap, lv, bg), fun k Gk sk => ?_⟩))
    have Sk : q_Sh k := Gk.2.1.2.1.1
    have ek : q_Ef [630] k (q_sI (q_sI k 630 104 3) 630 106 0) := (q_Ef.sI (by decide)).trans (q_Ef.sI (by decide))
    have ej : ∀ j, ¬ (j = 104 ∨ j = 105 ∨ j = 106) → qI (q_sI (q_sI k 630 104 3) 630 106 0) 630 j = qI k 630 j := fun j hj => by
      rw [qI_sIu, qI_sIu, upd_ne (by omega), upd_ne (by omega)]
    refine ⟨q_sI (q_sI k 630 104 3) 630 106 0, ?_, ⟨ek.wide (by decide), fun j hj => ej j (by omega)⟩, Or.inr ⟨Gk.1.fr e1 rfl rfl, (Gk.2.1.l e1 rfl).k ek rfl ej, 3, Or.inr (Or.inr rfl), rfl, rfl, sk.2.2⟩⟩
    rw [if_pos rfl]
    refine q_mV.of (q_recV rfl (Sk.ok rfl)) (fun Q' fin' => ?_)
    refine b342_0 (fun _ => b342_8 (fun c2 => absurd c2 (by decide)) (fun _ => b342_12 (s336 Sk) (by decide) ?_)) (fun c2 => absurd c2 (by decide))
    rintro k2 rfl
    exact b342_17 (fin' _ rfl)
