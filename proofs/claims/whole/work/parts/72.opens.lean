/-! DOS THAT OPEN A FRAME, side by side -/
def n_ps (k ks : q_Hp) (d K e : Nat) (z g : Int32) : Prop := q_Ef [630, 703, 704, 705, 706, 707, 708, 709] k ks ∧ (∀ j, qI ks 630 j = upd (qI k 630) 106 (nI (d + 1)) j) ∧ qA ks 703 = upd (qA k 703) d (nI K) ∧ qA ks 704 = upd (qA k 704) d (nI e) ∧ qA ks 705 = upd (qA k 705) d z ∧ qA ks 706 = upd (qA k 706) d 0 ∧ qA ks 707 = upd (qA k 707) d g ∧ qA ks 708 = upd (qA k 708) d (qI k 630 91) ∧ qA ks 709 = va_cpy (qA k 691) (qA k 709) 0 (156 * d) 156
theorem n_214 {k : q_Hp} {d K e : Nat} {Q : Option Value → q_Hp → Prop} (S : q_Sh k) (hd : qI k 630 106 = nI d) (h1 : d < 180) (fin : ∀ ks, n_ps k ks d K e (-1) 0 → Q none ks) : q_wp 7 341 214 [some (.ref 630), some (.int (nI e)), none, none] [.int (nI K), .ref 630] k Q := by
  refine b341_214 (s332 S hd (by omega)) (by decide) ?_
  rintro k1 ⟨e1, ei, b3, b4, b5, b6, b7, b8, b9⟩
  have S1 := e1.sh S
  have e6 : qI k1 630 106 - 1 = nI d := by rw [ei, upd_eq, x_d1 (by omega)]; rfl
  refine b341_219 (v0 := 707) (S1.ok rfl) (S1.ref rfl) (S1.ok rfl) (by rw [e6]; exact (n_l S1 (show d < 200 by omega)).2.2.2.2.1) ?_
  rw [e6, nI_clamp (by omega)]
  have e2 : q_Ef [707] k1 (q_sA k1 707 d (vp_nar .boolean 0)) := q_Ef.sA (by decide)
  refine b341_248 (fin _ ⟨e1.trans (e2.wide (by decide)), ei, (e2.A (by decide)).trans b3, (e2.A (by decide)).trans b4, (e2.A (by decide)).trans b5, (e2.A (by decide)).trans b6, ?_, (e2.A (by decide)).trans b8, (e2.A (by decide)).trans b9⟩)
  rw [qA_sAu, b7]
  funext x
  by_cases hx : x = d
  · rw [hx, upd_eq, upd_eq]
    rfl
  · rw [upd_ne hx, upd_ne hx, upd_ne hx]
theorem n_while {k : q_Hp} {d e : Nat} {B : q_Bk} {f : Nat → Int32} (N : n_X k B f) (hd : qI k 630 106 = nI d) (h1 : d < 180) (he : e < bN B 5) (hk : bD B e 0 = 5) : q_mV 7 341 [.ref 630, .int (nI e)] k (fun ks => n_ps k ks d 1 e (-1) 0) := by
  have S := N.1
  have h12 : bN B 5 ≤ 1200 := N.2.1.2.2.2.2.2.1
  obtain ⟨v1, v2, v3, v4⟩ := z_val N he
  refine q_mV.of (q_recV rfl (S.ok rfl)) (fun Q fin => ?_)
  refine n_341 S (by omega) v1 (by omega) ?_
  rw [hk]
  have ce : (nI e : Int32).toNatClampNeg = e := nI_clamp (by omega)
  have i9 : q_in (nI e) (qK k 669).2 := S.inN (n := 2600) rfl (by omega) (by decide)
  refine b341_175 (v0 := 669) (S.ok rfl) (S.ref rfl) (S.ok rfl) i9 (fun _ => b341_198 (v0 := 669) (S.ok rfl) (S.ref rfl) (S.ok rfl) i9 (fun c => absurd (by rw [ce, v1, hk]; rfl) c) (fun _ => b341_209 (n_214 (K := 1) S hd h1 fin))) (fun c => ?_)
  rw [ce, v1, hk] at c
  exact absurd c (by decide)
theorem n_loop {k : q_Hp} {d e : Nat} {B : q_Bk} {f : Nat → Int32} (N : n_X k B f) (hd : qI k 630 106 = nI d) (h1 : d < 180) (he : e < bN B 5) (hk : bD B e 0 = 6) : q_mV 7 341 [.ref 630, .int (nI e)] k (fun ks => (bD B e 1 = 0 ∧ ks = k) ∨ (0 < bD B e 1 ∧ n_ps k ks d 2 e (-1) 0)) := by
  have S := N.1
  have h12 : bN B 5 ≤ 1200 := N.2.1.2.2.2.2.2.1
  have hv : bD B e 1 ≤ 100 := by
    obtain ⟨lev', _, g⟩ := N.2.1.2.2.2.2.2.2.2.2.2.1
    exact (g e he).2.2.2.2.2.1 hk
  obtain ⟨v1, v2, v3, v4⟩ := z_val N he
  have v2 := v2 (Or.inr (Or.inr (Or.inr hk)))
  refine q_mV.of (q_recV rfl (S.ok rfl)) (fun Q fin => ?_)
  refine n_341 S (by omega) v1 (by omega) ?_
  rw [hk]
  have ce : (nI e : Int32).toNatClampNeg = e := nI_clamp (by omega)
  have i9 : q_in (nI e) (qK k 669).2 := S.inN (n := 2600) rfl (by omega) (by decide)
  have i0 : q_in (nI e) (qK k 670).2 := S.inN (n := 2600) rfl (by omega) (by decide)
  refine b341_175 (v0 := 669) (S.ok rfl) (S.ref rfl) (S.ok rfl) i9 (fun c => absurd (by rw [ce, v1, hk]; rfl) c) (fun _ => b341_186 (v0 := 670) (S.ok rfl) (S.ref rfl) (S.ok rfl) i0 (fun c => ?_) (fun c => ?_))
  · rw [ce, v2] at c
    refine b341_198 (v0 := 669) (S.ok rfl) (S.ref rfl) (S.ok rfl) i9 (fun _ => b341_213 (n_214 (K := 2) S hd h1 (fun ks p => fin ks (Or.inr ⟨?_, p⟩)))) (fun c => ?_)
    · have : ¬ bD B e 1 = 0 := fun h9 => c (by rw [h9]; rfl)
      omega
    · rw [ce, v1, hk] at c
      exact absurd c (by decide)
  · rw [ce, v2] at c
    exact b341_195 (b341_248 (fin _ (Or.inl ⟨(nI_eq (b := 0) (by omega) (by decide)).mp c, rfl⟩)))
theorem n_try {k : q_Hp} {d e : Nat} {B : q_Bk} {f : Nat → Int32} (N : n_X k B f) (hd : qI k 630 106 = nI d) (h1 : d < 180) (he : e < bN B 5) (hk : bD B e 0 = 7) : q_mV 7 341 [.ref 630, .int (nI e)] k (fun ks => n_ps k ks d 3 e (oN (bD B e 3)) 1) := by
  have S := N.1
  have h12 : bN B 5 ≤ 1200 := N.2.1.2.2.2.2.2.1
  obtain ⟨v1, v2, v3, v4⟩ := z_val N he
  refine q_mV.of (q_recV rfl (S.ok rfl)) (fun Q fin => ?_)
  refine n_341 S (by omega) v1 (by omega) ?_
  rw [hk]
  have e3 : (3 : Int32) * nI e = nI (3 * e) := pk_mul 3 e
  refine b341_234 (v0 := 671) (S.ok rfl) (S.ref rfl) (S.ok rfl) (by rw [e3]; exact S.inN (n := 7800) rfl (by omega) (by decide)) (s332 (x := 3) S hd (by omega)) (by decide) ?_
  rintro k1 ⟨e1, ei, b3, b4, b5, b6, b7, b8, b9⟩
  rw [e3, nI_clamp (by omega), show qA k 671 (3 * e) = oN (bD B e 3) from v4 0 (by decide)] at b5
  exact b341_248 (fin _ ⟨e1, ei, b3, b4, b5, b6, b7, b8, b9⟩)
theorem n_call {k : q_Hp} {d e : Nat} {B : q_Bk} {f : Nat → Int32} {kd op tu nx ap : Nat → Nat} {bg : Nat → Bool} (N : n_X k B f) (F : n_F k d kd op tu nx ap bg) (hf : ∀ f, f < d → kd f < 5) (h1 : d ≤ 180) (he : e < bN B 5) (hk : bD B e 0 = 3) : q_mV 7 341 [.ref 630, .int (nI e)] k (fun ks => (q_pr kd d = 20 ∧ ks = q_sI (q_sI k 630 104 3) 630 106 0) ∨ (¬ q_pr kd d = 20 ∧ n_ps k ks d 0 e (oN (bP B (bD B e 1))) 1)) := by
  have S := N.1
  have hd := F.1
  have w := N.2.1
  have h12 : bN B 5 ≤ 1200 := w.2.2.2.2.2.1
  have h10 : bN B 3 ≤ 10 := w.2.2.2.1
  have hv : bD B e 1 < bN B 3 := by
    obtain ⟨lev', _, g⟩ := w.2.2.2.2.2.2.2.2.2.1
    exact (g e he).2.2.2.2.1 hk
  obtain ⟨v1, v2, v3, v4⟩ := z_val N he
  have v2 := v2 (Or.inr (Or.inr (Or.inl hk)))
  refine q_mV.of (q_recV rfl (S.ok rfl)) (fun Q fin => ?_)
  refine n_341 S (by omega) v1 (by omega) ?_
  rw [hk]
  have ce : (nI e : Int32).toNatClampNeg = e := nI_clamp (by omega)
  refine b341_131 (s340 (kd := kd) S hd (by omega) (fun f h9 => ?_)) (by decide) ?_
  · rw [(F.2 f h9).1]
    have := hf f h9
    constructor
    · intro c
      have := (nI_eq (b := 0) (by split <;> omega) (by decide)).mp c
      split at this <;> omega
    · intro c
      rw [c]
      rfl
  rintro z k1 ⟨e0, rfl⟩
  subst k1
  have le : q_pr kd d ≤ d := q_cnt_le _ _
  refine b341_135 (fun c => ?_) (fun c => b341_140 (s336 S) (by decide) ?_)
  · refine b341_148 (v0 := 673) (v1 := 670) (S.ok rfl) (S.ref rfl) (S.ref rfl) (S.ok rfl) (S.inN (n := 2600) rfl (by omega) (by decide)) (S.ok rfl) (by rw [ce, v2]; exact S.inN (n := 20) rfl (by omega) (by decide)) (s332 (x := 0) S hd (by omega)) (by decide) ?_
    rintro k1 ⟨e1, ei, b3, b4, b5, b6, b7, b8, b9⟩
    rw [ce, v2, nI_clamp (by omega), N.2.2.1.2.2.2.1 _ hv] at b5
    refine b341_165 (b341_248 (fin _ (Or.inr ⟨fun h9 => c (by rw [h9]; rfl), e1, ei, b3, b4, b5, b6, b7, b8, b9⟩)))
  · rintro k1 rfl
    exact b341_145 (b341_248 (fin _ (Or.inl ⟨(nI_eq (b := 20) (by omega) (by decide)).mp c, rfl⟩)))
section ZO
variable {h k0 : q_Hp} {b : Nat} {B : q_Bk} {lev : Nat → Nat} {u a l t s d e : Nat} {kd op tu nx ap lv : Nat → Nat} {bg : Nat → Bool} {Q : Option Value → q_Hp → Prop}
/-- a frame is opened on both sides -/
theorem z_opened {hs k ks : q_Hp} {K X L' : Nat} {G : Bool} {r z g : Int32} (Gk : z_G h k b B lev u ((a, l, t, s), d, kd, op, tu, un nx (d - 1) (bD B e 2), ap, lv, bg)) (sk : z_s h k 4) (AP : y_A B lev a (u + 1) (d + 1) (un kd d K) (un op d (e + 1)) (un tu d 0) (un (un nx (d - 1) (bD B e 2)) d X) (un ap d a) (un lv d L') (ub bg d G)) (hK : K < 4) (o : x_op h hs d K (oN (e + 1)) r) (p : n_ps k ks d K e z g) (hg : g = if G = true then 1 else 0) (hz : G = true → z = oN X) (hr : r = if G = true then oN X else -1) (h2 : K = 2 → G = false) : w_g k ks ∧ z_Z hs ks b B lev (u + 1) ((a, l, t, s), d + 1, un kd d K, un op d (e + 1), un tu d 0, un (un nx (d - 1) (bD B e 2)) d X, un ap d a, un lv d L', ub bg d G) := by
  obtain ⟨ek, ei, b3, b4, b5, b6, b7, b8, b9⟩ := p
  have i91 : qI k 630 91 = nI a := Gk.2.1.2.2.1.1
  rw [i91] at b8
  rw [hg] at b7
  obtain ⟨Gn, nn⟩ := z_push Gk AP (by omega) hK o ek ei b3 b4 b5 b6 b7 b8 b9 hz hr h2
  have o3 := o.2.2.1
  refine ⟨⟨ek.wide (by decide), fun j hj => by rw [ei, upd_ne (by omega)]⟩, Or.inl ⟨Gn, ⟨?_, ?_, ?_⟩, nn⟩⟩
  · rw [o3, if_neg (by decide), if_neg (by decide), if_neg (by omega)]; exact sk.1
  · rw [ei, upd_ne (by decide)]; exact sk.2.1
  · rw [o3, if_neg (by decide), if_neg (by decide), if_neg (by omega), ei, upd_ne (by decide)]; exact sk.2.2
theorem z_do6 {x1 x2 : Int32} (hu : u + 1 < 2 ^ 20) (G0 : z_G h k0 b B lev u ((a, l, t, s), d, kd, op, tu, un nx (d - 1) (bD B e 2), ap, lv, bg)) (AO : y_A B lev a u d kd op tu nx ap lv bg) (hx : nx (d - 1) = e + 1) (s0 : z_s h k0 4) (hb : bg (d - 1) = true) (h6 : qI h 614 6 = nI e) (he : e < bN B 5) (hk : bD B e 0 = 5) (fin : ∀ h1, z_dp h h1 b B lev u ((a, l, t, s), d, kd, op, tu, un nx (d - 1) (bD B e 2), ap, lv, bg) e → Q none h1) : q_wp 7 145 233 [some (.ref 614), some (.int x1), some (.int x2), none, none] [] h Q := by
  have X := G0.1
  have S : q_Sh h := X.1
  have L := G0.2.2.1
  have Le := L.2 e he
  have lX : lev e = lv (d - 1) := by
    have := (AO.2.2.2.2.1 (d - 1) (by have := AO.1; omega)).2.2.2.2.2.2.2.2.2.2.2.2.2.1 hb (by omega)
    rw [hx] at this
    exact this
  have AP := AO.push (K := 1) (X := 0) (U := 0) (L' := lv (d - 1) + 1) (u' := u + 1) (G := false) hb (by omega) (by omega) X.2.2.1 L (fun h9 => by omega) (fun _ => rfl) (by
    rw [hx]
    have := Le.2.1 (by omega)
    exact ⟨by decide, he, fun _ => by omega, by omega, (fun h9 => by cases h9), Nat.le_refl _, fun _ => Or.inl rfl, (fun h9 => by cases h9), fun _ => ⟨hk, fun h9 => by cases h9⟩, (fun h9 => by cases h9), (fun h9 => by omega), by omega, (fun h9 => by cases h9), (fun h9 => by cases h9), fun _ _ => by rw [← lX]; rfl⟩) (fun _ _ => rfl)
  rw [hx] at AP
  have dle := AP.le.2.2
  have hc : q_mV 3 147 [.ref 614, .int 1, .int (qI h 614 6), .int (-1)] h (fun h' => x_op h h' d 1 (oN (e + 1)) (-1)) := by
    rw [h6, oN_s]
    exact s147 (K := 1) S G0.2.2.2.2.1.1 (by omega) (by decide)
  refine b145_233 (S.ok rfl) hc (by decide) ?_
  rintro h1 o
  refine b145_243 (b145_276 (fin h1 ⟨⟨o.1.wide (by decide), o.2.1⟩, h1, ((a, l, t, s), d + 1, un kd d 1, un op d (e + 1), un tu d 0, un (un nx (d - 1) (bD B e 2)) d 0, un ap d a, un lv d (lv (d - 1) + 1), ub bg d false), Or.inl rfl, fun k Gk sk => ?_⟩))
  obtain ⟨k1, p, c⟩ := q_mV.det (n_while Gk.2.1.2.1 Gk.2.2.2.2.2.1.1 (by omega) he hk)
  exact ⟨k1, c, z_opened Gk sk AP (by decide) o p rfl (fun h9 => by cases h9) rfl (fun _ => rfl)⟩
theorem z_do8 {x1 : Int32} (hu : u + 1 < 2 ^ 20) (G0 : z_G h k0 b B lev u ((a, l, t, s), d, kd, op, tu, un nx (d - 1) (bD B e 2), ap, lv, bg)) (AO : y_A B lev a u d kd op tu nx ap lv bg) (hx : nx (d - 1) = e + 1) (s0 : z_s h k0 4) (hb : bg (d - 1) = true) (h6 : qI h 614 6 = nI e) (he : e < bN B 5) (hk : bD B e 0 = 7) (fin : ∀ h1, z_dp h h1 b B lev u ((a, l, t, s), d, kd, op, tu, un nx (d - 1) (bD B e 2), ap, lv, bg) e → Q none h1) : q_wp 7 145 259 [some (.ref 614), some (.int x1), some (.int (oN (bD B e 3))), none, none] [] h Q := by
  have X := G0.1
  have S : q_Sh h := X.1
  have L := G0.2.2.1
  have Le := L.2 e he
  have lX : lev e = lv (d - 1) := by
    have := (AO.2.2.2.2.1 (d - 1) (by have := AO.1; omega)).2.2.2.2.2.2.2.2.2.2.2.2.2.1 hb (by omega)
    rw [hx] at this
    exact this
  have bb : bD B e 3 ≤ bN B 5 := by
    obtain ⟨lev', _, g⟩ := X.2.2.1.2.2.2.2.2.2.2.2.2.1
    rcases (g e he).2.2.2.2.2.2.2.1 3 (by decide) (by decide) with h9 | h9
    · omega
    · exact h9.2.1
  have AP := AO.push (K := 3) (X := bD B e 3) (U := 0) (L' := lv (d - 1) + 1) (u' := u + 1) (G := true) hb (by omega) (by omega) X.2.2.1 L (fun h9 => by omega) (fun _ => rfl) (by
    rw [hx]
    have := Le.2.1 (by omega)
    refine ⟨by decide, he, fun _ => by omega, by omega, fun _ => bb, Nat.le_refl _, (fun h9 => by cases h9), (fun h9 => by cases h9), (fun h9 => by cases h9), (fun h9 => by cases h9), fun _ => hk, by omega, (fun h9 => by cases h9), fun _ h9 => ?_, fun _ _ => by rw [← lX]; rfl⟩
    rcases Le.2.2.2 (by omega) 3 (by decide) (by decide) with h8 | h8
    · omega
    · rw [h8, lX]) (fun h9 => by cases h9)
  rw [hx] at AP
  have dle := AP.le.2.2
  have hc : q_mV 3 147 [.ref 614, .int 3, .int (qI h 614 6), .int (oN (bD B e 3))] h (fun h' => x_op h h' d 3 (oN (e + 1)) (oN (bD B e 3))) := by
    rw [h6, oN_s]
    exact s147 (K := 3) S G0.2.2.2.2.1.1 (by omega) (by decide)
  refine b145_259 (S.ok rfl) hc (by decide) ?_
  rintro h1 o
  refine b145_269 (b145_276 (fin h1 ⟨⟨o.1.wide (by decide), o.2.1⟩, h1, ((a, l, t, s), d + 1, un kd d 3, un op d (e + 1), un tu d 0, un (un nx (d - 1) (bD B e 2)) d (bD B e 3), un ap d a, un lv d (lv (d - 1) + 1), ub bg d true), Or.inl rfl, fun k Gk sk => ?_⟩))
  obtain ⟨k1, p, c⟩ := q_mV.det (n_try Gk.2.1.2.1 Gk.2.2.2.2.2.1.1 (by omega) he hk)
  exact ⟨k1, c, z_opened Gk sk AP (by decide) o p rfl (fun _ => rfl) rfl (fun h9 => by cases h9)⟩
theorem z_do7 {x1 x2 : Int32} (hu : u + 1 < 2 ^ 20) (G0 : z_G h k0 b B lev u ((a, l, t, s), d, kd, op, tu, un nx (d - 1) (bD B e 2), ap, lv, bg)) (AO : y_A B lev a u d kd op tu nx ap lv bg) (hx : nx (d - 1) = e + 1) (s0 : z_s h k0 4) (hb : bg (d - 1) = true) (h6 : qI h 614 6 = nI e) (he : e < bN B 5) (hk : bD B e 0 = 6) (fin : ∀ h1, z_dp h h1 b B lev u ((a, l, t, s), d, kd, op, tu, un nx (d - 1) (bD B e 2), ap, lv, bg) e → Q none h1) : q_wp 7 145 246 [some (.ref 614), some (.int x1), some (.int x2), none, none] [] h Q := by
  have X := G0.1
  have S : q_Sh h := X.1
  have L := G0.2.2.1
  have Le := L.2 e he
  have d1 := AO.1
  have lX : lev e = lv (d - 1) := by
    have := (AO.2.2.2.2.1 (d - 1) (by omega)).2.2.2.2.2.2.2.2.2.2.2.2.2.1 hb (by omega)
    rw [hx] at this
    exact this
  have l8 := Le.2.1 (by omega)
  have dd : d < 180 := by
    have := AO.le
    have := AO.2.1
    omega
  obtain ⟨G1, G2, G3⟩ := G0.2.2.2.2.1
  have hc : q_mV 3 147 [.ref 614, .int 2, .int (qI h 614 6), .int (-1)] h (fun h' => x_op h h' d 2 (oN (e + 1)) (-1)) := by
    rw [h6, oN_s]
    exact s147 (K := 2) S G1 dd (by decide)
  refine b145_246 (S.ok rfl) hc (by decide) ?_
  rintro h1 o
  by_cases v0 : bD B e 1 = 0
  · -- no turn at all
    obtain ⟨o1, o2, o3, o4, o5, o6, o7, o8⟩ := o
    have o8 := o8 (by omega)
    have e1 : w_f h h1 := ⟨o1.wide (by decide), o2⟩
    have X1 : x_B h1 b B := X.row e1
    have p8 := G0.2.1.2.2.1.2.2.2.2.2.2.2.1
    have p9 := G0.2.1.2.2.1.2.2.2.2.2.2.2.2.1
    have p10 := G0.2.1.2.2.1.2.2.2.2.2.2.2.2.2.1
    have eq : q_Ef [614] h1 (q_sI (q_sI (q_sI h1 614 8 (nI (q_pr kd d))) 614 7 (nI d)) 614 6 (x_P B (e + 1) 2)) := ((q_Ef.sI (by decide)).trans (q_Ef.sI (by decide))).trans (q_Ef.sI (by decide))
    have iq : qI (q_sI (q_sI (q_sI h1 614 8 (nI (q_pr kd d))) 614 7 (nI d)) 614 6 (x_P B (e + 1) 2)) 614 = upd (upd (upd (qI h1 614) 8 (nI (q_pr kd d))) 7 (nI d)) 6 (x_P B (e + 1) 2) := by rw [qI_sIu, qI_sIu, qI_sIu]
    have rq : qR (q_sI (q_sI (q_sI h1 614 8 (nI (q_pr kd d))) 614 7 (nI d)) 614 6 (x_P B (e + 1) 2)) 614 = qR h1 614 := rfl
    generalize q_sI (q_sI (q_sI h1 614 8 (nI (q_pr kd d))) 614 7 (nI d)) 614 6 (x_P B (e + 1) 2) = hq at eq iq rq
    have i4 : qI h1 614 4 = 4 := by rw [o3, if_neg (by decide), if_neg (by decide), if_neg (by omega)]; exact s0.1
    refine b145_256 (b145_276 (fin h1 ⟨e1, hq, ((a, l, t, s), d, kd, op, tu, un nx (d - 1) (bD B e 2), ap, lv, bg), Or.inr ⟨d, e + 1, q_pr kd d, s, X1, ⟨?_, by omega, by omega, by decide, ?_, ?_⟩, by omega, by omega, hk, v0, ?_, ?_, i4, ?_, ?_, by omega, by omega, eq, rq, iq⟩, fun k Gk sk => ?_⟩))
    · rw [o3, if_neg (by decide), if_pos rfl]
    · rw [o4, Nat.add_sub_cancel, upd_eq]
    · rw [o5, Nat.add_sub_cancel, upd_eq]
    · rw [o6, upd_eq]
    · rw [o3, if_neg (by decide), if_neg (by decide), if_neg (by omega)]; exact G2
    · rw [o3, if_pos rfl]
    · rw [o1.I (show 599 ∉ [614, 615, 616, 617, 618, 619] by decide)]; exact p8
    · obtain ⟨k1, p, c⟩ := q_mV.det (n_loop Gk.2.1.2.1 Gk.2.2.2.2.2.1.1 dd he hk)
      rcases p with ⟨_, rfl⟩ | ⟨h9, _⟩
      · refine ⟨k1, c, w_g.rf, ?_⟩
        obtain ⟨Xk, Z, L', A, _, N, D⟩ := Gk
        have e2 : q_Ef [614, 615, 616, 617, 618, 619] h hq := o1.trans (eq.wide (by decide))
        have e2w : w_f h hq := ⟨e2.wide (by decide), rq.trans o2⟩
        refine z_Z.up (Or.inl ⟨⟨Xk.row e2w, Z.l e2 rfl, L', A, ⟨?_, ?_, fun f hf => ?_⟩, N, fun f hf hy => ?_⟩, ⟨?_, sk.2.1, ?_⟩, ?_⟩)
        · rw [iq, upd_ne (by decide), upd_eq]
        · rw [iq, upd_ne (by decide), upd_ne (by decide), upd_eq]
        · rw [eq.A (show 615 ∉ [614] by decide), eq.A (show 616 ∉ [614] by decide), eq.A (show 617 ∉ [614] by decide), eq.A (show 618 ∉ [614] by decide), o4, o5, o6, o8.1, upd_ne (by omega), upd_ne (by omega), upd_ne (by omega)]
          exact G3 f hf
        · refine (D f hf hy).ext (fun i hi => ?_) (fun i hi => rfl)
          show qA hq 619 (f * 156 + i) = _
          rw [eq.A (show 619 ∉ [614] by decide), o8.2]
        · rw [iq, upd_ne (by decide), upd_ne (by decide), upd_ne (by decide)]; exact i4
        · rw [iq, upd_ne (by decide), upd_ne (by decide), upd_ne (by decide), o3, if_neg (by decide), if_neg (by decide), if_neg (by omega)]; exact sk.2.2
        · show qI hq 614 6 = _
          rw [hb, if_pos rfl, un_e, iq, upd_eq, x_P_s (by omega)]
          rfl
      · omega
  · have AP := AO.push (K := 2) (X := 0) (U := 0) (L' := lv (d - 1) + 1) (u' := u + 1) (G := false) hb (by omega) (by omega) X.2.2.1 L (fun h9 => by omega) (fun _ => rfl) (by
      rw [hx]
      exact ⟨by decide, he, fun _ => by omega, by omega, (fun h9 => by cases h9), Nat.le_refl _, fun _ => Or.inr rfl, (fun h9 => by cases h9), (fun h9 => by cases h9), fun _ => ⟨hk, (fun h9 => by cases h9), fun _ => Nat.pos_of_ne_zero v0⟩, (fun h9 => by omega), by omega, (fun h9 => by cases h9), (fun h9 => by cases h9), fun _ _ => by rw [← lX]; rfl⟩) (fun _ h9 => by cases h9)
    rw [hx] at AP
    refine b145_256 (b145_276 (fin h1 ⟨⟨o.1.wide (by decide), o.2.1⟩, h1, ((a, l, t, s), d + 1, un kd d 2, un op d (e + 1), un tu d 0, un (un nx (d - 1) (bD B e 2)) d 0, un ap d a, un lv d (lv (d - 1) + 1), ub bg d false), Or.inl rfl, fun k Gk sk => ?_⟩))
    obtain ⟨k1, p, c⟩ := q_mV.det (n_loop Gk.2.1.2.1 Gk.2.2.2.2.2.1.1 dd he hk)
    rcases p with ⟨h9, _⟩ | ⟨_, p⟩
    · exact absurd h9 v0
    · exact ⟨k1, c, z_opened Gk sk AP (by decide) o p rfl (fun h9 => by cases h9) rfl (fun _ => rfl)⟩
theorem s155 {pr P : Nat} (X : x_B h b B) (hd : qI h 614 7 = nI d) (dd : pr < 20 → d < 180) (h8 : qI h 614 8 = nI pr) (p1 : pr ≤ 20) (hp : P < bN B 3) (h6 : qI h 614 6 = oN (e + 1)) : q_mV 4 155 [.ref 614, .int (nI P)] h (fun h' => (pr = 20 ∧ h' = q_sI h 614 4 3) ∨ (pr < 20 ∧ x_op h h' d 0 (oN (e + 1)) (oN (bP B P)))) := by
  have S := X.1
  have h10 : bN B 3 ≤ 10 := X.2.2.1.2.2.2.1
  refine q_mV.of (q_recV rfl (S.ok rfl)) (fun Q fin => ?_)
  refine b155_0 (S.ok rfl) (fun c => ?_) (fun c => b155_9 (S.ok rfl) (b155_34 (fin _ (Or.inl ⟨?_, rfl⟩))))
  · rw [h8] at c
    have := (nI_ltI (b := 20) (by omega) (by decide)).mp c
    refine b155_17 (S.ok rfl) X.2.2.2.2 (s10 S X.2.1 (X.2.2.2.1.1 3 (by decide)) h10) (by decide) ?_
    rintro z h2 ⟨e0, rfl⟩
    subst h2
    rw [c_at_n hp (by omega), X.2.2.2.1.2.2.2.1 P hp, h6]
    refine b155_31 (s147 (K := 0) S hd (dd this) (by decide)) (by decide) ?_
    rintro h3 o
    exact b155_34 (fin _ (Or.inr ⟨this, o⟩))
  · rw [h8] at c
    have := mt (nI_ltI (a := pr) (b := 20) (by omega) (by decide)).mpr c
    omega
theorem z_do4 {x2 : Int32} (hu : u + 1 < 2 ^ 20) (G0 : z_G h k0 b B lev u ((a, l, t, s), d, kd, op, tu, un nx (d - 1) (bD B e 2), ap, lv, bg)) (AO : y_A B lev a u d kd op tu nx ap lv bg) (hx : nx (d - 1) = e + 1) (s0 : z_s h k0 4) (hb : bg (d - 1) = true) (h6 : qI h 614 6 = nI e) (he : e < bN B 5) (hk : bD B e 0 = 3) (fin : ∀ h1, z_dp h h1 b B lev u ((a, l, t, s), d, kd, op, tu, un nx (d - 1) (bD B e 2), ap, lv, bg) e → Q none h1) : q_wp 7 145 225 [some (.ref 614), some (.int (nI (bD B e 1))), some (.int x2), none, none] [] h Q := by
  have X := G0.1
  have S : q_Sh h := X.1
  have L := G0.2.2.1
  have w := X.2.2.1
  have hv : bD B e 1 < bN B 3 := by
    obtain ⟨lev', _, g⟩ := w.2.2.2.2.2.2.2.2.2.1
    exact (g e he).2.2.2.2.1 hk
  have hP : bP B (bD B e 1) ≤ bN B 5 := by
    obtain ⟨lev', g, _⟩ := w.2.2.2.2.2.2.2.2.2.1
    exact (g _ hv).1
  have d1 := AO.1
  have pr20 := AO.2.1
  have dle := AO.le
  have l8 := (AO.2.2.2.2.1 (d - 1) (by omega)).2.2.2.2.2.2.2.2.2.2.2.1
  obtain ⟨G1, G2, G3⟩ := G0.2.2.2.2.1
  have fr : ∀ f, f < d → kd f < 5 := fun f hf => (AO.2.2.2.2.1 f hf).1
  have d180 : d < 180 ∨ q_pr kd d = 20 := by omega
  refine b145_225 (s155 (pr := q_pr kd d) X G1 (fun _ => by omega) G2 pr20 hv (by rw [oN_s]; exact h6)) (by decide) ?_
  rintro h1 (⟨p20, rfl⟩ | ⟨p20, o⟩)
  · have e1 : q_Ef [614] h (q_sI h 614 4 3) := q_Ef.sI (by decide)
    refine b145_230 (b145_276 (fin _ ⟨⟨e1.wide (by decide), rfl⟩, q_sI h 614 4 3, ((a, l, t, s), d, kd, op, tu, un nx (d - 1) (bD B e 2), ap, lv, bg), Or.inl rfl, fun k Gk sk => ?_⟩))
    obtain ⟨k1, p, c⟩ := q_mV.det (n_call Gk.2.1.2.1 Gk.2.2.2.2.2.1 fr (by omega) he hk)
    rcases p with ⟨_, rfl⟩ | ⟨h9, _⟩
    · have ek : q_Ef [630] k (q_sI (q_sI k 630 104 3) 630 106 0) := (q_Ef.sI (by decide)).trans (q_Ef.sI (by decide))
      have ej : ∀ j, ¬ (j = 104 ∨ j = 105 ∨ j = 106) → qI (q_sI (q_sI k 630 104 3) 630 106 0) 630 j = qI k 630 j := fun j hj => by
        rw [qI_sIu, qI_sIu, upd_ne (by omega), upd_ne (by omega)]
      exact ⟨_, c, ⟨ek.wide (by decide), fun j hj => ej j (by omega)⟩, z_Z.up (Or.inr ⟨Gk.1.fr e1 rfl rfl, (Gk.2.1.l e1 rfl).k ek rfl ej, 3, Or.inr (Or.inr rfl), rfl, rfl, sk.2.2⟩)⟩
    · exact absurd p20 h9
  · have AP := AO.push (K := 0) (X := bP B (bD B e 1)) (U := 0) (L' := 0) (u' := u + 1) (G := true) hb (by omega) (by omega) w L (fun _ => by omega) (fun h9 => absurd rfl h9) (by
      rw [hx]
      refine ⟨by decide, he, fun _ => by omega, by omega, fun _ => hP, Nat.le_refl _, (fun h9 => by cases h9), fun _ _ => hk, (fun h9 => by cases h9), (fun h9 => by cases h9), (fun h9 => by omega), by omega, fun _ => rfl, fun _ h9 => L.1 _ hv h9, fun _ h9 => absurd rfl h9⟩) (fun h9 => by cases h9)
    rw [hx] at AP
    refine b145_230 (b145_276 (fin h1 ⟨⟨o.1.wide (by decide), o.2.1⟩, h1, ((a, l, t, s), d + 1, un kd d 0, un op d (e + 1), un tu d 0, un (un nx (d - 1) (bD B e 2)) d (bP B (bD B e 1)), un ap d a, un lv d 0, ub bg d true), Or.inl rfl, fun k Gk sk => ?_⟩))
    obtain ⟨k1, p, c⟩ := q_mV.det (n_call Gk.2.1.2.1 Gk.2.2.2.2.2.1 fr (by omega) he hk)
    rcases p with ⟨h9, _⟩ | ⟨_, p⟩
    · omega
    · exact ⟨k1, c, z_opened Gk sk AP (by decide) o p rfl (fun _ => rfl) rfl (fun h9 => by cases h9)⟩
end ZO
