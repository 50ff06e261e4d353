/-! THE RUNNER of the desk: its small methods -/
theorem qI_sIu (h : q_Hp) (c i : Nat) (v : Int32) : qI (q_sI h c i v) c = upd (qI h c) i v := by
  funext x
  rw [qI_sI]
  unfold upd
  by_cases hx : x = i
  · rw [if_pos ⟨rfl, hx⟩, if_pos hx]
  · rw [if_neg (fun h2 => hx h2.2), if_neg hx]
/-- the runner's book -/
def x_B (h : q_Hp) (b : Nat) (B : q_Bk) : Prop := q_Sh h ∧ q_isB b ∧ q_wB B ∧ r_cB h b B ∧ qR h 614 3 = b
theorem x_B.fr {S : List Nat} {h h' : q_Hp} {b : Nat} {B : q_Bk} (a : x_B h b B) (e : q_Ef S h h') (hS : S.all (fun x => decide (597 < x)) = true) (r : qR h' 614 = qR h 614) : x_B h' b B := by
  obtain ⟨S0, hb, w, cB, f⟩ := a
  have hbb : b = 11 ∨ b = 300 := hb
  have n1 : ∀ x, x ≤ 597 → x ∉ S := fun x hx => q_nin hS hx
  exact ⟨e.sh S0, hb, w, cB.fr hb w (fun a h1 h2 => e.A (n1 _ (by omega))) (fun a h1 h2 => e.I (n1 _ (by omega))), by rw [r]; exact f⟩
/-- a part of a do, by its number and one more -/
def x_P (B : q_Bk) (O k : Nat) : Int32 := if O = 0 then -1 else oN (bD B (O - 1) k)
theorem x_pt {h : q_Hp} {b : Nat} {B : q_Bk} (X : x_B h b B) {O k : Nat} (hO : O ≤ bN B 5) (h2 : 2 ≤ k) (hk : k < 6) : q_mI 1 20 [.ref b, .int (oN O), .int (nI k)] h (fun z h' => h' = h ∧ z = x_P B O k) := by
  obtain ⟨S, hb, w, cB, f⟩ := X
  have h12 : bN B 5 ≤ 1200 := w.2.2.2.2.2.1
  refine (s20 S hb (cB.1 5 (by decide)) h12 hk).mono (Nat.le_refl _) ?_
  rintro z h' ⟨a, c⟩
  refine ⟨a, c.trans ?_⟩
  unfold d_pt x_P
  by_cases h0 : O = 0
  · rw [h0, if_pos rfl, if_neg (show ¬ q_rg (oN 0) (bN B 5) = true by rw [oN_0, q_rg_lo (by decide)]; decide)]
  · obtain ⟨y, rfl⟩ : ∃ y, O = y + 1 := ⟨O - 1, by omega⟩
    rw [if_neg h0, oN_s, if_pos (q_rgN (by omega) (by omega)), nI_clamp (by omega)]
    exact (cB.2.2.2.2.2.1 y (by omega)).2.2 k h2 hk
theorem x_p0 {h : q_Hp} {b : Nat} {B : q_Bk} (X : x_B h b B) {e : Nat} (he : e < bN B 5) : q_mI 1 20 [.ref b, .int (nI e), .int 0] h (fun z h' => h' = h ∧ z = nI (15 + bD B e 0)) := by
  obtain ⟨S, hb, w, cB, f⟩ := X
  have h12 : bN B 5 ≤ 1200 := w.2.2.2.2.2.1
  refine (s20 (k := 0) S hb (cB.1 5 (by decide)) h12 (by decide)).mono (Nat.le_refl _) ?_
  rintro z h' ⟨a, c⟩
  refine ⟨a, c.trans ?_⟩
  unfold d_pt
  rw [if_pos (q_rgN he (by omega)), nI_clamp (by omega)]
  exact (cB.2.2.2.2.2.1 e he).1
theorem x_p1 {h : q_Hp} {b : Nat} {B : q_Bk} (X : x_B h b B) {e : Nat} (he : e < bN B 5) : q_mI 1 20 [.ref b, .int (nI e), .int 1] h (fun z h' => h' = h ∧ (q_val (bD B e 0) → z = nI (bD B e 1))) := by
  obtain ⟨S, hb, w, cB, f⟩ := X
  have h12 : bN B 5 ≤ 1200 := w.2.2.2.2.2.1
  refine (s20 (k := 1) S hb (cB.1 5 (by decide)) h12 (by decide)).mono (Nat.le_refl _) ?_
  rintro z h' ⟨a, c⟩
  refine ⟨a, fun hv => c.trans ?_⟩
  unfold d_pt
  rw [if_pos (q_rgN he (by omega)), nI_clamp (by omega)]
  exact (cB.2.2.2.2.2.1 e he).2.1 hv
theorem x_d1 {d : Nat} (h : 0 < d) : nI d - 1 = nI (d - 1) := pk_sub (b := 1) h
theorem s150 {h : q_Hp} {d : Nat} (S : q_Sh h) (h7 : qI h 614 7 = nI d) (h0 : 0 < d) (h1 : d ≤ 180) : q_mI 1 150 [.ref 614] h (fun z h' => h' = h ∧ z = qA h 615 (d - 1)) := by
  refine q_mI.of (q_recV rfl (S.ok rfl)) (fun Q fin => ?_)
  refine b150_0 (S.ok rfl) (S.ref (v := 615) rfl) (s232 (S.ok rfl) (S.len (n := 180) rfl) (by decide)) (by decide) ?_
  rintro z h2 ⟨e0, ez⟩
  subst h2
  rw [h7, x_d1 h0, c_at_n (by omega) (by decide)] at ez
  exact b150_13 (fin _ _ ⟨rfl, ez⟩)
theorem s151 {h : q_Hp} {d : Nat} (S : q_Sh h) (h7 : qI h 614 7 = nI d) (h0 : 0 < d) (h1 : d ≤ 180) : q_mI 1 151 [.ref 614] h (fun z h' => h' = h ∧ z = qA h 616 (d - 1)) := by
  refine q_mI.of (q_recV rfl (S.ok rfl)) (fun Q fin => ?_)
  refine b151_0 (S.ok rfl) (S.ref (v := 616) rfl) (s232 (S.ok rfl) (S.len (n := 180) rfl) (by decide)) (by decide) ?_
  rintro z h2 ⟨e0, ez⟩
  subst h2
  rw [h7, x_d1 h0, c_at_n (by omega) (by decide)] at ez
  exact b151_13 (fin _ _ ⟨rfl, ez⟩)
theorem s148 {h : q_Hp} {d : Nat} (S : q_Sh h) (h7 : qI h 614 7 = nI d) (h0 : 0 < d) (h1 : d ≤ 180) : q_mV 2 148 [.ref 614] h (fun h' => q_Ef [618, 619] h h' ∧ qA h' 618 = upd (qA h 618) (d - 1) (qI h 599 4) ∧ qA h' 619 = va_cpy (qA h 598) (qA h 619) 0 ((d - 1) * 156) 156) := by
  refine q_mV.of (q_recV rfl (S.ok rfl)) (fun Q fin => ?_)
  refine b148_0 (S.ok rfl) (S.ref (v := 618) rfl) (S.ref (v := 599) rfl) (s83 S) (by decide) ?_
  rintro z h2 ⟨e0, rfl⟩
  subst h2
  rw [h7, x_d1 h0]
  refine b148_17 (s233 (S.ok rfl) (S.len (n := 180) rfl) (by decide)) (by decide) ?_
  rintro h2 rfl
  rw [c_set_in (show d - 1 < 180 by omega) (by decide)]
  have e1 : q_Ef [618] h (q_sA h 618 (d - 1) (qI h 599 4)) := q_Ef.sA (by decide)
  have a1 : qA (q_sA h 618 (d - 1) (qI h 599 4)) 618 = upd (qA h 618) (d - 1) (qI h 599 4) := qA_sAu _ _ _ _
  generalize q_sA h 618 (d - 1) (qI h 599 4) = h2 at e1 a1
  have S2 := e1.sh S
  have i7 : qI h2 614 7 = nI d := by rw [e1.I (show 614 ∉ [618] by decide)]; exact h7
  have hc := s62 (s := 619) (len := 28080) (j := d - 1) S2.dg (S2.ok rfl) (S2.len rfl) (by omega) (by decide)
  rw [← x_d1 h0, ← i7] at hc
  refine b148_20 (S2.ok rfl) (S2.ref (v := 597) rfl) (S2.ref (v := 619) rfl) hc (by decide) ?_
  rintro h3 rfl
  have e2 : q_Ef [619] h2 (q_wA h2 619 (va_cpy (qA h2 598) (qA h2 619) 0 ((d - 1) * 156) 156)) := q_Ef.wA (by decide)
  have a2 : qA (q_wA h2 619 (va_cpy (qA h2 598) (qA h2 619) 0 ((d - 1) * 156) 156)) 619 = va_cpy (qA h 598) (qA h 619) 0 ((d - 1) * 156) 156 := by
    rw [qA_wAs, e1.A (show 598 ∉ [618] by decide), e1.A (show 619 ∉ [618] by decide)]
  generalize q_wA h2 619 (va_cpy (qA h2 598) (qA h2 619) 0 ((d - 1) * 156) 156) = h3 at e2 a2
  exact b148_37 (fin _ ⟨(e1.wide (by decide)).trans (e2.wide (by decide)), (e2.A (by decide)).trans a1, a2⟩)
theorem s149 {h : q_Hp} {f w t kk s : Nat} (S : q_Sh h) (hf : f < 180) (h18 : qA h 618 f = nI w) (ht : qI h 599 2 = nI t) (hk : qI h 599 3 = nI kk) (hs : qI h 599 4 = nI s) (h1 : t < 101) (h2 : kk ≤ 100) (h3 : w ≤ s) (h4 : s < 2 ^ 20) : q_mV 2 149 [.ref 614, .int (nI f)] h (fun h' => q_Ef [598, 599] h h' ∧ qI h' 599 2 = nI (q_back t (s - w)) ∧ qI h' 599 3 = nI (kk - (s - w)) ∧ qI h' 599 4 = nI w ∧ qA h' 598 = va_cpy (qA h 619) (qA h 598) (f * 156) 0 156) := by
  refine q_mV.of (q_recV rfl (S.ok rfl)) (fun Q fin => ?_)
  refine b149_0 (S.ok rfl) (S.ref (v := 599) rfl) (S.ref (v := 618) rfl) (s232 (S.ok rfl) (S.len (n := 180) rfl) (by decide)) (by decide) ?_
  rintro z h5 ⟨e0, ez⟩
  subst h5
  rw [c_at_n hf (by decide), h18] at ez
  subst ez
  refine b149_12 (s88 S ht hk hs h1 h2 h3 h4) (by decide) ?_
  rintro h5 rfl
  have e1 : q_Ef [599] h (q_his h (q_back t (s - w)) (kk - (s - w)) w) := ((q_Ef.sI (by decide)).trans (q_Ef.sI (by decide))).trans (q_Ef.sI (by decide))
  have i2 : qI (q_his h (q_back t (s - w)) (kk - (s - w)) w) 599 2 = nI (q_back t (s - w)) := rfl
  have i3 : qI (q_his h (q_back t (s - w)) (kk - (s - w)) w) 599 3 = nI (kk - (s - w)) := rfl
  have i4 : qI (q_his h (q_back t (s - w)) (kk - (s - w)) w) 599 4 = nI w := rfl
  generalize q_his h (q_back t (s - w)) (kk - (s - w)) w = h5 at e1 i2 i3 i4
  have S5 := e1.sh S
  refine b149_15 (S5.ok rfl) (S5.ref (v := 597) rfl) (S5.ref (v := 619) rfl) (s63 S5.dg (S5.ok rfl) (S5.len (n := 28080) rfl) (by omega) (by decide)) (by decide) ?_
  rintro h6 rfl
  have e2 : q_Ef [598] h5 (q_wA h5 598 (va_cpy (qA h5 619) (qA h5 598) (f * 156) 0 156)) := q_Ef.wA (by decide)
  have a2 : qA (q_wA h5 598 (va_cpy (qA h5 619) (qA h5 598) (f * 156) 0 156)) 598 = va_cpy (qA h 619) (qA h 598) (f * 156) 0 156 := by
    rw [qA_wAs, e1.A (show 598 ∉ [599] by decide), e1.A (show 619 ∉ [599] by decide)]
  generalize q_wA h5 598 (va_cpy (qA h5 619) (qA h5 598) (f * 156) 0 156) = h6 at e2 a2
  refine b149_27 (fin _ ⟨(e1.wide (by decide)).trans (e2.wide (by decide)), ?_, ?_, ?_, a2⟩)
  · rw [e2.I (show 599 ∉ [598] by decide)]; exact i2
  · rw [e2.I (show 599 ∉ [598] by decide)]; exact i3
  · rw [e2.I (show 599 ∉ [598] by decide)]; exact i4
/-- the top frame -/
def x_T (h : q_Hp) (d K O : Nat) : Prop := qI h 614 7 = nI d ∧ 0 < d ∧ d ≤ 180 ∧ K < 5 ∧ qA h 615 (d - 1) = nI K ∧ qA h 616 (d - 1) = oN O
theorem s156 {h : q_Hp} {b d K O pr : Nat} {B : q_Bk} (X : x_B h b B) (t : x_T h d K O) (hO : O ≤ bN B 5) (h8 : qI h 614 8 = nI pr) (hp : K = 0 → 0 < pr) : q_mV 2 156 [.ref 614] h (fun h' => q_Ef [614] h h' ∧ qR h' 614 = qR h 614 ∧ qI h' 614 = upd (upd (upd (qI h 614) 8 (nI (if K = 0 then pr - 1 else pr))) 7 (nI (d - 1))) 6 (x_P B O 2)) := by
  have S := X.1
  obtain ⟨t1, t2, t3, t4, t5, t6⟩ := t
  refine q_mV.of (q_recV rfl (S.ok rfl)) (fun Q fin => ?_)
  refine b156_0 (s151 S t1 t2 t3) (by decide) ?_
  rintro z h2 ⟨e0, rfl⟩
  subst h2
  rw [t6]
  refine b156_4 (s150 S t1 t2 t3) (by decide) ?_
  rintro z h2 ⟨e0, rfl⟩
  subst h2
  rw [t5]
  have j22 : ∀ h2, q_Ef [614] h h2 → qR h2 614 = qR h 614 → qI h2 614 = upd (qI h 614) 8 (nI (if K = 0 then pr - 1 else pr)) → q_wp 2 156 22 [some (.ref 614), some (.int (oN O))] [] h2 Q := by
    intro h2 e r i
    have S2 := e.sh S
    have i7 : qI h2 614 7 = nI d := by rw [i, upd_ne (by decide)]; exact t1
    have e3 : q_Ef [614] h2 (q_sI h2 614 7 ((qI h2 614 7) - 1)) := q_Ef.sI (by decide)
    have r3 : qR (q_sI h2 614 7 ((qI h2 614 7) - 1)) 614 = qR h2 614 := rfl
    have i3 : qI (q_sI h2 614 7 ((qI h2 614 7) - 1)) 614 = upd (qI h2 614) 7 (nI (d - 1)) := by rw [qI_sIu, i7, x_d1 t2]
    have X3 : x_B (q_sI h2 614 7 ((qI h2 614 7) - 1)) b B := (X.fr e rfl r).fr e3 rfl r3
    refine b156_22 (S2.ok rfl) (show qR h2 614 3 = b by rw [r]; exact X.2.2.2.2) (x_pt (k := 2) X3 hO (by decide) (by decide)) (by decide) ?_
    rintro z h4 ⟨e4, rfl⟩
    subst h4
    have S3 := X3.1
    refine b156_42 (S3.ok rfl) (fin _ ⟨(e.trans e3).trans (q_Ef.sI (by decide)), r, ?_⟩)
    rw [qI_sIu, i3, i]
  refine b156_9 (fun c => j22 h q_Ef.rf rfl ?_) (fun c => b156_12 (S.ok rfl) (j22 _ (q_Ef.sI (by decide)) rfl ?_))
  · have k0 : ¬ K = 0 := fun h9 => c (by rw [h9]; rfl)
    rw [if_neg k0, ← h8]
    funext x
    unfold upd
    split
    · next h9 => rw [h9]
    · rfl
  · have k0 : K = 0 := (nI_eq (b := 0) (by omega) (by decide)).mp c
    rw [qI_sIu, if_pos k0, h8, show nI pr - 1 = nI (pr - 1) from pk_sub (b := 1) (hp k0)]
theorem s157 {h : q_Hp} {b d K O p : Nat} {B : q_Bk} (X : x_B h b B) (t : x_T h d K O) (hO : O ≤ bN B 5) (h2 : 2 ≤ p) (hp : p < 6) : q_mV 2 157 [.ref 614, .int (nI p)] h (fun h' => q_Ef [614, 615] h h' ∧ qR h' 614 = qR h 614 ∧ qI h' 614 = upd (qI h 614) 6 (x_P B O p) ∧ qA h' 615 = upd (qA h 615) (d - 1) 4) := by
  have S := X.1
  obtain ⟨t1, t2, t3, t4, t5, t6⟩ := t
  refine q_mV.of (q_recV rfl (S.ok rfl)) (fun Q fin => ?_)
  have hc : q_mV 0 233 [.ref 615, .int ((qI h 614 7) - 1), .int 4] h (fun h' => h' = q_sA h 615 (d - 1) 4) := by
    have := s233 (h := h) (a := 615) (n := 180) (x := nI (d - 1)) (v := 4) (S.ok rfl) (S.len rfl) (by decide)
    rw [c_set_in (show d - 1 < 180 by omega) (by decide)] at this
    rw [t1, x_d1 t2]
    exact this
  refine b157_0 (S.ok rfl) (S.ref (v := 615) rfl) hc (by decide) ?_
  rintro h3 rfl
  have e3 : q_Ef [615] h (q_sA h 615 (d - 1) 4) := q_Ef.sA (by decide)
  have a3 : qA (q_sA h 615 (d - 1) 4) 615 = upd (qA h 615) (d - 1) 4 := qA_sAu _ _ _ _
  generalize q_sA h 615 (d - 1) 4 = h3 at e3 a3
  have X3 : x_B h3 b B := X.fr e3 rfl (e3.R (by decide))
  have S3 := X3.1
  have i3 : qI h3 614 = qI h 614 := e3.I (by decide)
  have h151 := s151 (d := d) S3 (by rw [i3]; exact t1) t2 t3
  refine b157_14 (S3.ok rfl) X3.2.2.2.2 h151 (by decide) ?_
  rintro z h4 ⟨e4, rfl⟩
  subst h4
  rw [e3.A (show 616 ∉ [615] by decide), t6]
  refine b157_23 (x_pt X3 hO h2 hp) (by decide) ?_
  rintro z h4 ⟨e4, rfl⟩
  subst h4
  refine b157_27 (S3.ok rfl) (fin _ ⟨(e3.wide (by decide)).trans (q_Ef.sI (by decide)), e3.R (by decide), ?_, a3⟩)
  rw [qI_sIu, i3]
/-- is a turn wanted -/
def x_W (B : q_Bk) (K O U w s : Nat) : Prop := (K = 1 ∧ (U = 0 ∨ w < s)) ∨ (K = 2 ∧ U < bD B (O - 1) 1)
theorem s152 {h : q_Hp} {b d K O U w s : Nat} {B : q_Bk} (X : x_B h b B) (t : x_T h d K O) (hU : qA h 617 (d - 1) = nI U) (u1 : U < 2 ^ 30) (hs : qI h 599 4 = nI s) (s1 : s < 2 ^ 30) (h18 : K = 1 → 0 < U → qA h 618 (d - 1) = nI w ∧ w < 2 ^ 30) (h6 : K = 2 → 0 < O ∧ O ≤ bN B 5 ∧ bD B (O - 1) 0 = 6) : q_mI 2 152 [.ref 614] h (fun z h' => h' = h ∧ z = b2i (m_dc (x_W B K O U w s))) := by
  have S := X.1
  obtain ⟨t1, t2, t3, t4, t5, t6⟩ := t
  refine q_mI.of (q_recV rfl (S.ok rfl)) (fun Q fin => ?_)
  have yes : x_W B K O U w s → Q (some (.int 1)) h := fun h9 => fin _ _ ⟨rfl, by rw [m_dc_t.mpr h9]; rfl⟩
  have no : ¬ x_W B K O U w s → Q (some (.int 0)) h := fun h9 => fin _ _ ⟨rfl, by rw [m_dc_f.mpr h9]; rfl⟩
  have ca : ∀ c n, n = 180 → q_ok h c 20 → (qK h c).2 = n → q_mI 0 232 [.ref c, .int ((qI h 614 7) - 1)] h (fun z h' => h' = h ∧ z = qA h c (d - 1)) := by
    intro c n hn hk hl
    have := s232 (x := nI (d - 1)) hk hl (by omega)
    rw [c_at_n (by omega) (by omega)] at this
    rw [t1, x_d1 t2]
    exact this
  refine b152_0 (S.ok rfl) (S.ref (v := 617) rfl) (ca 617 180 rfl (S.ok rfl) (S.len rfl)) (by decide) ?_
  rintro z h2 ⟨e0, rfl⟩
  subst h2
  rw [hU]
  refine b152_13 (s150 S t1 t2 t3) (by decide) ?_
  rintro z h2 ⟨e0, rfl⟩
  subst h2
  rw [t5]
  refine b152_18 (fun c1 => b152_55 (s150 S t1 t2 t3) (by decide) ?_) (fun c1 => ?_)
  · have k1 : ¬ K = 1 := fun h9 => c1 (by rw [h9]; rfl)
    rintro z h2 ⟨e0, rfl⟩
    subst h2
    rw [t5]
    refine b152_59 (fun c2 => b152_83 (no ?_)) (fun c2 => ?_)
    · have k2 : ¬ K = 2 := fun h9 => c2 (by rw [h9]; rfl)
      rintro (h9 | h9)
      · exact k1 h9.1
      · exact k2 h9.1
    · have k2 : K = 2 := (nI_eq (b := 2) (by omega) (by decide)).mp c2
      obtain ⟨o1, o2, o3⟩ := h6 k2
      refine b152_63 (S.ok rfl) X.2.2.2.2 (s151 S t1 t2 t3) (by decide) ?_
      rintro z h2 ⟨e0, rfl⟩
      subst h2
      obtain ⟨y, rfl⟩ : ∃ y, O = y + 1 := ⟨O - 1, by omega⟩
      rw [t6, oN_s]
      have w1 : ∀ e, e < bN B 5 → bD B e 0 = 6 → bD B e 1 ≤ 100 := by
        obtain ⟨lev, _, g⟩ := X.2.2.1.2.2.2.2.2.2.2.2.2.1
        exact fun e he => (g e he).2.2.2.2.2.1
      refine b152_72 (x_p1 X (show y < bN B 5 by omega)) (by decide) ?_
      rintro z h2 ⟨e0, ez⟩
      subst h2
      have ez := ez (Or.inr (Or.inr (Or.inr o3)))
      subst ez
      have := w1 y (by omega) o3
      refine b152_76 (fun c3 => b152_83 (no ?_)) (fun c3 => b152_79 (yes (Or.inr ⟨k2, ?_⟩)))
      · have := (nI_leI (by omega) (by omega)).mp c3
        rintro (h9 | h9)
        · exact k1 h9.1
        · have h8 : U < bD B y 1 := h9.2
          omega
      · have := mt (nI_leI (a := bD B y 1) (b := U) (by omega) (by omega)).mpr c3
        show U < bD B y 1
        omega
  · have k1 : K = 1 := (nI_eq (b := 1) (by omega) (by decide)).mp c1
    refine b152_22 (fun c2 => b152_49 (yes (Or.inl ⟨k1, Or.inl ((nI_eq (b := 0) (by omega) (by decide)).mp c2)⟩))) (fun c2 => ?_)
    have u0 : ¬ U = 0 := fun h9 => c2 (by rw [h9]; rfl)
    obtain ⟨w1, w2⟩ := h18 k1 (by omega)
    refine b152_26 (S.ok rfl) (S.ref (v := 599) rfl) (s83 S) (by decide) ?_
    rintro z h2 ⟨e0, rfl⟩
    subst h2
    refine b152_33 (S.ok rfl) (S.ref (v := 618) rfl) (ca 618 180 rfl (S.ok rfl) (S.len rfl)) (by decide) ?_
    rintro z h2 ⟨e0, rfl⟩
    subst h2
    rw [w1, hs]
    refine b152_46 (fun c3 => b152_53 (no ?_)) (fun c3 => b152_49 (yes (Or.inl ⟨k1, Or.inr ?_⟩)))
    · have := (nI_leI (by omega) (by omega)).mp c3
      rintro (h9 | h9)
      · rcases h9.2 with h8 | h8
        · exact u0 h8
        · omega
      · omega
    · have := mt (nI_leI (a := s) (b := w) (by omega) (by omega)).mpr c3
      omega
