/-! A RULE AT ITS FIRST MATCH: both sides -/
/-- what the two histories share; h: the class's cells, k: the reference's -/
def z_H (h k : q_Hp) (T S a l t s u : Nat) : Prop :=
  qI k 630 91 = nI a ∧ qI k 630 92 = nI l ∧ l ≤ a ∧ a ≤ l + 100 ∧ qI h 599 2 = nI t ∧ t < 101 ∧ qI h 599 3 = nI (a - l) ∧ qI h 599 4 = nI s ∧ a ≤ s ∧ s ≤ u ∧
  ∀ j, 1 ≤ j → j ≤ a - l → q_dg T S (fun i => qA h 600 (q_back t j * 156 + i)) (fun i => qA k 692 (156 * ((a - j) % 101) + i))
/-- the hands -/
def z_M (h k : q_Hp) : Prop := ∃ n l, n ≤ 4 ∧ l ≤ 6 ∧ qI h 601 14 = nI n ∧ qI k 630 95 = nI n ∧ qI h 601 15 = nI l ∧ qI k 630 96 = nI l ∧ (∀ i, i < n → qA h 608 i = qA k 697 i) ∧ ∀ i, i < l → qA h 609 i = qA k 698 i
theorem z_H.done {h k h' k' : q_Hp} {T S a l t s u : Nat} {f g : Nat → Int32} (H : z_H h k T S a l t s u) (D : q_dg T S f g) (e1 : qI h' 599 2 = nI ((t + 1) % 101)) (e2 : qI h' 599 3 = nI (min (a - l + 1) 100)) (e3 : qI h' 599 4 = nI (s + 1)) (e4 : qA h' 600 = va_cpy f (qA h 600) 0 (t * 156) 156) (k1 : qI k' 630 91 = nI (a + 1)) (k2 : qI k' 630 92 = nI (if a - l = 100 then l + 1 else l)) (k3 : qA k' 692 = va_cpy g (qA k 692) 0 (156 * (a % 101)) 156) : z_H h' k' T S (a + 1) (if a - l = 100 then l + 1 else l) ((t + 1) % 101) (s + 1) (u + 1) := by
  obtain ⟨h1, h2, h3, h4, h5, h6, h7, h8, h9, h10, h11⟩ := H
  refine ⟨k1, k2, by split <;> omega, by split <;> omega, e1, Nat.mod_lt _ (by decide), ?_, e3, by omega, by omega, fun j j1 j2 => ?_⟩
  · rw [e2]
    congr 1
    split <;> omega
  · rw [e4, k3]
    by_cases hj : j = 1
    · subst hj
      refine D.ext (fun i hi => ?_) (fun i hi => ?_)
      · have : q_back ((t + 1) % 101) 1 = t := by unfold q_back; omega
        show va_cpy f (qA h 600) 0 (t * 156) 156 (q_back ((t + 1) % 101) 1 * 156 + i) = f i
        rw [this, va_cpy_in hi, Nat.zero_add]
      · show va_cpy g (qA k 692) 0 (156 * (a % 101)) 156 (156 * ((a + 1 - 1) % 101) + i) = g i
        rw [Nat.add_sub_cancel, va_cpy_in hi, Nat.zero_add]
    · have jm : j ≤ 100 := by split at j2 <;> omega
      have q1 : q_back ((t + 1) % 101) j = q_back t (j - 1) := by unfold q_back; omega
      have q2 : ¬ q_back t (j - 1) = t := by unfold q_back; omega
      have q3 : a + 1 - j = a - (j - 1) := by omega
      have q4 : ¬ (a - (j - 1)) % 101 = a % 101 := by omega
      have := h11 (j - 1) (by omega) (by split at j2 <;> omega)
      refine this.ext (fun i hi => ?_) (fun i hi => ?_)
      · show va_cpy f (qA h 600) 0 (t * 156) 156 (q_back ((t + 1) % 101) j * 156 + i) = qA h 600 (q_back t (j - 1) * 156 + i)
        rw [q1, va_cpy_out (by omega)]
      · show va_cpy g (qA k 692) 0 (156 * (a % 101)) 156 (156 * ((a + 1 - j) % 101) + i) = qA k 692 (156 * ((a - (j - 1)) % 101) + i)
        rw [q3, va_cpy_out (by omega)]
theorem z_H.not {h k h' k' : q_Hp} {T S a l t s u u' : Nat} {f g : Nat → Int32} (H : z_H h k T S a l t s u) (hu : u ≤ u') (e1 : qI h' 599 = qI h 599) (e4 : qA h' 600 = va_cpy f (qA h 600) 0 (t * 156) 156) (k1 : qI k' 630 91 = qI k 630 91) (k2 : qI k' 630 92 = qI k 630 92) (k3 : qA k' 692 = va_cpy g (qA k 692) 0 (156 * (a % 101)) 156) : z_H h' k' T S a l t s u' := by
  obtain ⟨h1, h2, h3, h4, h5, h6, h7, h8, h9, h10, h11⟩ := H
  refine ⟨k1.trans h1, k2.trans h2, h3, h4, by rw [e1]; exact h5, h6, by rw [e1]; exact h7, by rw [e1]; exact h8, h9, by omega, fun j j1 j2 => ?_⟩
  rw [e4, k3]
  have q2 : ¬ q_back t j = t := by unfold q_back; omega
  have q4 : ¬ (a - j) % 101 = a % 101 := by omega
  refine (h11 j j1 j2).ext (fun i hi => ?_) (fun i hi => ?_)
  · show va_cpy f (qA h 600) 0 (t * 156) 156 (q_back t j * 156 + i) = _
    rw [va_cpy_out (by omega)]
  · show va_cpy g (qA k 692) 0 (156 * (a % 101)) 156 (156 * ((a - j) % 101) + i) = _
    rw [va_cpy_out (by omega)]
theorem z_H.same {h k h' k' : q_Hp} {T S a l t s u u' : Nat} (H : z_H h k T S a l t s u) (hu : u ≤ u') (e1 : qI h' 599 = qI h 599) (e4 : qA h' 600 = qA h 600) (k1 : qI k' 630 91 = qI k 630 91) (k2 : qI k' 630 92 = qI k 630 92) (k3 : qA k' 692 = qA k 692) : z_H h' k' T S a l t s u' := by
  obtain ⟨h1, h2, h3, h4, h5, h6, h7, h8, h9, h10, h11⟩ := H
  refine ⟨k1.trans h1, k2.trans h2, h3, h4, by rw [e1]; exact h5, h6, by rw [e1]; exact h7, by rw [e1]; exact h8, h9, by omega, ?_⟩
  rw [e4, k3]
  exact h11
/-- the tuple and the links of a match are one -/
theorem m_rl_one {B : q_Bk} {f : Nat → Int32} {im : Nat → Nat} {V : Nat → Nat → Nat} {L L' : List Nat} (a : m_ma B f im V L) (b : m_ma B f im V L') : L' = L := by
  have h := b.2.2.1
  rw [a.2.2.1] at h
  cases h
  rfl
/-- the first match -/
noncomputable def m_1st (B : q_Bk) (f : Nat → Int32) (V : Nat → Nat → Nat) : Option Nat := q_fst (m_M B f V) 0 (12 ^ V 0 0 - 0)
theorem s118 {h : q_Hp} {b r t kk s : Nat} {B : q_Bk} {g : Nat → Int32} (X : c_X h b B g) (hr : r < bN B 2) (ht : qI h 599 2 = nI t) (h1 : t < 101) (hk : qI h 599 3 = nI kk) (h2 : kk ≤ 100) (hs : qI h 599 4 = nI s) : q_mI 5 118 [.ref 610, .ref b, .int (nI r)] h (fun z h' => q_Ef [598, 599, 600, 601, 602, 603, 604, 605, 606, 607, 608, 609, 611, 612] h h' ∧
    ((z = 0 ∧ m_1st B (qA h 598) (bR B r) = none ∧ m_fa h h') ∨
     (∃ v L, m_1st B (qA h 598) (bR B r) = some v ∧ m_ma B (qA h 598) (m_im (bR B r 0 0) v) (bR B r) L ∧ qA h' 600 = va_cpy (qA h 598) (qA h 600) 0 (t * 156) 156 ∧
      ((z = 2 ∧ ¬ m_okd B (qA h 598) (m_im (bR B r 0 0) v) (bR B r) ∧ qA h' 598 = qA h 598 ∧ qI h' 599 = qI h 599 ∧ qI h' 601 14 = qI h 601 14 ∧ qI h' 601 15 = qI h 601 15 ∧ qA h' 608 = qA h 608 ∧ qA h' 609 = qA h 609) ∨
       (z = 1 ∧ m_okd B (qA h 598) (m_im (bR B r 0 0) v) (bR B r) ∧ qA h' 598 = (m_fd (bR B r) L (m_vl B (qA h 598) (m_im (bR B r 0 0) v) (bR B r)) (qA h 598) (m_im (bR B r 0 0) v) (bR B r 0 4)).1 ∧ qI h' 599 2 = nI ((t + 1) % 101) ∧ qI h' 599 3 = nI (min (kk + 1) 100) ∧ qI h' 599 4 = nI (s + 1) ∧ m_hand h' B (qA h 598) (bR B r) v))))) := by
  have S := X.1
  have w := X.2.2.1
  have wr : q_wR B (bR B r) := w.2.2.2.2.2.2.2.2.2.2 r hr
  refine q_mI.of (q_recV rfl (S.ok rfl)) (fun Q fin => ?_)
  refine b118_0 (S.ok rfl) (S.ref (v := 601) rfl) (s91' X hr) (by decide) ?_
  rintro ha ⟨e1, A, at0⟩
  have fa : qA ha 598 = qA h 598 := e1.A (by decide)
  have Sa := A.1.1
  rw [← fa] at at0
  refine b118_9 (Sa.ok rfl) (Sa.ref (v := 601) rfl) (s94 A at0) (by decide) ?_
  rintro z hb ⟨e2, rfl, g2⟩
  rw [fa] at g2 ⊢
  have e3 := e1.trans e2.fa
  have Ab := A.fw e2
  have Sb := Ab.1.1
  have fb : qA hb 598 = qA h 598 := e3.A (by decide)
  cases hv : q_fst (m_M B (qA h 598) (bR B r)) 0 (12 ^ bR B r 0 0 - 0) with
  | none => exact b118_16 (fun h9 => absurd rfl h9) (fun _ => b118_19 (fin _ _ ⟨e3.1.wide (by decide), Or.inl ⟨rfl, hv, e3⟩⟩))
  | some v =>
    obtain ⟨at1, n1, L1⟩ := g2 v hv
    have hv2 := (q_fst_some _ _ _).mp hv
    obtain ⟨L, ma⟩ := m_dc_t.mp hv2.2.2.1
    refine b118_16 (fun _ => ?_) (fun h9 => absurd (show (1 : Int32) = 0 from h9) (by decide))
    have t2 : qI hb 599 2 = nI t := by rw [e3.I (show 599 ∉ [601, 602, 603, 604, 605, 606, 607] by decide)]; exact ht
    refine b118_21 (Sb.ok rfl) (Sb.ref (v := 599) rfl) (s85 Sb t2 h1) (by decide) ?_
    rintro hc rfl
    have ec : q_Ef [600] hb (q_wA hb 600 (va_cpy (qA hb 598) (qA hb 600) 0 (t * 156) 156)) := q_Ef.wA (by decide)
    have Ac := Ab.of ec rfl rfl
    have c600 : qA (q_wA hb 600 (va_cpy (qA hb 598) (qA hb 600) 0 (t * 156) 156)) 600 = va_cpy (qA h 598) (qA h 600) 0 (t * 156) 156 := by
      rw [qA_wAs, fb, e3.A (show 600 ∉ [601, 602, 603, 604, 605, 606, 607] by decide)]
    generalize hcc : q_wA hb 600 (va_cpy (qA hb 598) (qA hb 600) 0 (t * 156) 156) = hc at ec Ac c600
    have fc : qA hc 598 = qA h 598 := (ec.A (by decide)).trans fb
    have nc : m_nd hc (bR B r 0 0) (m_im (bR B r 0 0) v) := n1.fs (ec.A (by decide))
    have lc : ∀ i, i < bR B r 0 1 → qA hc 603 i = nI (L.getD i 0) := by rw [ec.A (show 603 ∉ [600] by decide)]; exact L1 L ma
    refine b118_28 (s121 Ac nc (by rw [fc]; exact ma) lc) (by decide) ?_
    rintro z hd ⟨e4, hz⟩
    rw [fc] at hz
    have e5 : q_Ef [598, 599, 600, 601, 602, 603, 604, 605, 606, 607, 608, 609, 611, 612] h hd := ((e3.1.wide (by decide)).trans (ec.wide (by decide))).trans (e4.1.wide (by decide))
    have d600 : qA hd 600 = va_cpy (qA h 598) (qA h 600) 0 (t * 156) 156 := (e4.1.A (by decide)).trans c600
    have d599 : qI hd 599 = qI h 599 := (e4.1.I (by decide)).trans ((ec.I (by decide)).trans (e3.I (by decide)))
    have d14 : ∀ j, j = 14 ∨ j = 15 → qI hd 601 j = qI h 601 j := by
      intro j hj
      rw [e4.2.2 j (by omega), congrFun (ec.I (show 601 ∉ [600] by decide)) j]
      rcases hj with rfl | rfl
      · exact e3.2.1
      · exact e3.2.2
    have Sd := e5.sh S
    rcases hz with ⟨rfl, ok, fd⟩ | ⟨rfl, ok, fd⟩
    · refine b118_32 (fun _ => ?_) (fun h9 => absurd h9 (by decide))
      refine b118_37 (Sd.ok rfl) (Sd.ref (v := 599) rfl) (s87 Sd (by rw [d599]; exact ht) (by rw [d599]; exact hk) (by rw [d599]; exact hs) h1 h2) (by decide) ?_
      rintro he rfl
      have ee : q_Ef [599] hd (q_his hd ((t + 1) % 101) (min (kk + 1) 100) (s + 1)) := ((q_Ef.sI (by decide)).trans (q_Ef.sI (by decide))).trans (q_Ef.sI (by decide))
      have i2 : qI (q_his hd ((t + 1) % 101) (min (kk + 1) 100) (s + 1)) 599 2 = nI ((t + 1) % 101) := rfl
      have i3 : qI (q_his hd ((t + 1) % 101) (min (kk + 1) 100) (s + 1)) 599 3 = nI (min (kk + 1) 100) := rfl
      have i4 : qI (q_his hd ((t + 1) % 101) (min (kk + 1) 100) (s + 1)) 599 4 = nI (s + 1) := rfl
      generalize hee : q_his hd ((t + 1) % 101) (min (kk + 1) 100) (s + 1) = he at ee i2 i3 i4
      have e6 := e5.trans (ee.wide (by decide))
      have Se := e6.sh S
      -- the hand
      have hol := Ac.1.2.2.1.le
      have C5 : r_cR he (b + 9 + 14 * r) (bR B r) := Ac.2.2.2.2.1.fr (fun a h1 h2 => (ee.A (by simp only [List.mem_cons, List.not_mem_nil, or_false]; omega)).trans (e4.1.A (by simp only [List.mem_cons, List.not_mem_nil, or_false]; omega))) ((ee.I (by simp only [List.mem_cons, List.not_mem_nil, or_false]; omega)).trans (e4.1.I (by simp only [List.mem_cons, List.not_mem_nil, or_false]; omega)))
      have r6 : qR he 601 = qR hc 601 := (ee.R (by decide)).trans e4.2.1
      have M5 : q_Mt he b (b + 9 + 14 * r) := ⟨Se, Ac.1.2.1, Ac.1.2.2.1, by rw [r6]; exact Ac.1.2.2.2.1, by rw [r6]; exact Ac.1.2.2.2.2⟩
      refine b118_44 (Se.ok rfl) (Se.ref (v := 601) rfl) (s113 M5 (C5.1 0 (by decide)) (C5.1 1 (by decide))) (by decide) ?_
      rintro hf ⟨e7, p1, p2⟩
      have ew : q_Ef [601, 608, 609] he (m_hd he (bR B r 0 0) (bR B r 0 1)) := (q_Ef.sI (by decide)).trans (q_Ef.sI (by decide))
      have e8 : q_Ef [601, 608, 609] he hf := ew.trans (e7.wide (by decide))
      have i6 : qI hf 601 = qI (m_hd he (bR B r 0 0) (bR B r 0 1)) 601 := e7.I (by decide)
      have q602 : qA he 602 = qA hc 602 := (ee.A (by decide)).trans (e4.1.A (by decide))
      have q603 : qA he 603 = qA hc 603 := (ee.A (by decide)).trans (e4.1.A (by decide))
      have g599 : qI hf 599 = qI he 599 := e8.I (by decide)
      have g600 : qA hf 600 = qA hd 600 := (e8.A (by decide)).trans (ee.A (by decide))
      have g598 : qA hf 598 = qA hd 598 := (e8.A (by decide)).trans (ee.A (by decide))
      refine b118_51 (fin _ _ ⟨e6.trans (e8.wide (by decide)), Or.inr ⟨v, L, hv, ma, g600.trans d600, Or.inr ⟨rfl, ok, g598.trans fd, by rw [g599]; exact i2, by rw [g599]; exact i3, by rw [g599]; exact i4, L, ma, ?_, ?_, fun i hi => ?_, fun i hi => ?_⟩⟩⟩)
      · rw [i6]; rfl
      · rw [i6]; rfl
      · rw [p1 i (by have := wr.1; omega), q602]
        exact (nc i hi).1
      · rw [p2 i (by have := wr.2.1; omega), q603]
        exact lc i hi
    · refine b118_32 (fun h9 => absurd rfl h9) (fun _ => b118_35 (fin _ _ ⟨e5, Or.inr ⟨v, L, hv, ma, d600, Or.inl ⟨rfl, ok, fd, d599, d14 14 (Or.inl rfl), d14 15 (Or.inr rfl), ?_, ?_⟩⟩⟩))
      · exact (e4.1.A (by decide)).trans ((ec.A (by decide)).trans (e3.A (by decide)))
      · exact (e4.1.A (by decide)).trans ((ec.A (by decide)).trans (e3.A (by decide)))
/-! the reference -/
theorem s327 {h : q_Hp} {a l : Nat} (S : q_Sh h) (ha : qI h 630 91 = nI a) (hl : qI h 630 92 = nI l) (h1 : l ≤ a) (h2 : a < 2 ^ 30) : q_mV 0 327 [.ref 630] h (fun h' => q_Ef [630] h h' ∧ (∀ j, ¬ (j = 91 ∨ j = 92) → qI h' 630 j = qI h 630 j) ∧ qI h' 630 91 = nI (a + 1) ∧ qI h' 630 92 = nI (if a - l = 100 then l + 1 else l)) := by
  refine q_mV.of (q_recV rfl (S.ok rfl)) (fun Q fin => ?_)
  have ed : qI h 630 91 - qI h 630 92 = nI (a - l) := by rw [ha, hl]; exact pk_sub h1
  refine b327_0 (S.ok rfl) (fun c => b327_24 (S.ok rfl) (fin _ ⟨q_Ef.sI (by decide), fun j hj => qI_sI_nj (by omega), ?_, ?_⟩)) (fun c => b327_14 (S.ok rfl) (b327_24 (S.ok rfl) (fin _ ⟨(q_Ef.sI (by decide)).trans (q_Ef.sI (by decide)), fun j hj => ?_, ?_, ?_⟩)))
  · rw [qI_sI, if_pos ⟨rfl, rfl⟩, ha, nI_1]
  · rw [ed] at c
    rw [qI_sI_nj (by omega), hl, if_neg (fun h9 => c (by rw [h9]; rfl))]
  · rw [qI_sI_nj (by omega), qI_sI_nj (by omega)]
  · rw [qI_sI, if_pos ⟨rfl, rfl⟩, qI_sI_nj (by omega), ha, nI_1]
  · rw [ed] at c
    rw [qI_sI_nj (by omega), qI_sI, if_pos ⟨rfl, rfl⟩, hl, nI_1, if_pos ((nI_eq (b := 100) (by omega) (by decide)).mp c)]
theorem m_101 {a : Nat} (h : a < 2 ^ 30) : (156 : Int32) * (nI a - nI a / 101 * 101) = nI (156 * (a % 101)) := by
  rw [show nI a - nI a / 101 * 101 = nI (a % 101) from pk_rem (d := 101) (by omega) (by decide) (by decide)]
  exact pk_mul 156 _
theorem s292s {h : q_Hp} {a : Nat} (S : q_Sh h) (ha : qI h 630 91 = nI a) (h2 : a < 2 ^ 30) : q_mV 0 292 [.ref 630, .ref 692, .int (156 * ((qI h 630 91) - (qI h 630 91) / 101 * 101))] h (fun h' => h' = q_wA h 692 (va_cpy (qA h 691) (qA h 692) 0 (156 * (a % 101)) 156)) := by
  rw [ha, m_101 h2]
  have := Nat.mod_lt a (show 101 > 0 by decide)
  exact s292 S (S.ok rfl) (S.len (n := 15756) rfl) (by omega) (by decide) (by decide)
theorem s324r {h : q_Hp} {r : Nat} {V : Nat → Nat → Nat} {B : q_Bk} {im : Nat → Nat} {L : List Nat} (S : q_Sh h) (h20 : r < 20) (wr : q_wR B V) (mR : r_mR h r V) (hn : n_nd h (V 0 0) im) (lk : n_lk h (V 0 1) L) : q_mV 0 324 [.ref 630, .int (nI r)] h (fun h' => q_Ef [630, 697, 698] h h' ∧ (∀ j, ¬ (j = 95 ∨ j = 96) → qI h' 630 j = qI h 630 j) ∧ qI h' 630 95 = nI (V 0 0) ∧ qI h' 630 96 = nI (V 0 1) ∧ (∀ i, i < V 0 0 → qA h' 697 i = nI (im i)) ∧ ∀ i, i < V 0 1 → qA h' 698 i = nI (L.getD i 0)) := by
  have h4 : V 0 0 ≤ 4 := wr.1
  have h6 : V 0 1 ≤ 6 := wr.2.1
  have rk : (nI r).toNatClampNeg = r := nI_clamp (by omega)
  have e41 : qA h 641 (nI r).toNatClampNeg = nI (V 0 0) := by rw [rk]; exact mR.1
  have e42 : qA h 642 (nI r).toNatClampNeg = nI (V 0 1) := by rw [rk]; exact mR.2.1
  have ir : ∀ c, ((decide (c ≤ 712) && (q_kd0 c).2 == 40) = true) → q_in (nI r) (qK h c).2 := fun c h9 => S.inN (n := 40) h9 (by omega) (by decide)
  refine q_mV.of (q_recV rfl (S.ok rfl)) (fun Q fin => ?_)
  have loop2 : ∀ m i h1, i + m = V 0 1 → q_Ef [630, 697, 698] h h1 → (∀ j, ¬ (j = 95 ∨ j = 96) → qI h1 630 j = qI h 630 j) → qI h1 630 95 = nI (V 0 0) → qI h1 630 96 = nI (V 0 1) → (∀ j, j < V 0 0 → qA h1 697 j = nI (im j)) → (∀ j, j < i → qA h1 698 j = nI (L.getD j 0)) → q_wp 0 324 50 [some (.ref 630), some (.int (nI r)), some (.int (nI i))] [] h1 Q := by
    intro m
    induction m with
    | zero =>
      intro i h1 hi e ei e95 e96 g1 g2
      obtain rfl : i = V 0 1 := by omega
      have S1 := e.sh S
      exact b324_50 (S1.ok rfl) (fun _ => b324_76 (fin _ ⟨e, ei, e95, e96, g1, g2⟩)) (fun h9 => absurd (by rw [e96]; exact Int32.le_refl _) h9)
    | succ m ih =>
      intro i h1 hi e ei e95 e96 g1 g2
      have S1 := e.sh S
      have f6 : qA h1 696 = qA h 696 := e.A (by decide)
      refine b324_50 (S1.ok rfl) (fun h9 => absurd ((nI_leI (by omega) (by omega)).mp (e96 ▸ h9)) (by omega)) (fun _ => b324_58 (S1.ok rfl) (S1.ref (v := 698) rfl) (S1.ref (v := 696) rfl) (S1.ok rfl) (S1.inN (n := 9) rfl (by omega) (by decide)) (S1.ok rfl) (S1.inN (n := 6) rfl (by omega) (by decide)) ?_)
      rw [nI_1, nI_clamp (by omega), f6, lk.2.1 i (by omega)]
      refine ih (i + 1) _ (by omega) (e.trans (q_Ef.sA (by decide))) ei e95 e96 g1 (fun j hj => ?_)
      rw [qA_sAu]
      by_cases h3 : j = i
      · rw [h3, upd_eq]
      · rw [upd_ne h3]
        exact g2 j (by omega)
  have loop1 : ∀ m i h1, i + m = V 0 0 → q_Ef [630, 697, 698] h h1 → (∀ j, ¬ (j = 95 ∨ j = 96) → qI h1 630 j = qI h 630 j) → qI h1 630 95 = nI (V 0 0) → qI h1 630 96 = nI (V 0 1) → (∀ j, j < i → qA h1 697 j = nI (im j)) → q_wp 0 324 22 [some (.ref 630), some (.int (nI r)), some (.int (nI i))] [] h1 Q := by
    intro m
    induction m with
    | zero =>
      intro i h1 hi e ei e95 e96 g1
      obtain rfl : i = V 0 0 := by omega
      have S1 := e.sh S
      exact b324_22 (S1.ok rfl) (fun _ => b324_48 (loop2 (V 0 1) 0 h1 (by omega) e ei e95 e96 g1 (fun j hj => absurd hj (Nat.not_lt_zero _)))) (fun h9 => absurd (by rw [e95]; exact Int32.le_refl _) h9)
    | succ m ih =>
      intro i h1 hi e ei e95 e96 g1
      have S1 := e.sh S
      have f5 : qA h1 695 = qA h 695 := e.A (by decide)
      refine b324_22 (S1.ok rfl) (fun h9 => absurd ((nI_leI (by omega) (by omega)).mp (e95 ▸ h9)) (by omega)) (fun _ => b324_30 (S1.ok rfl) (S1.ref (v := 697) rfl) (S1.ref (v := 695) rfl) (S1.ok rfl) (S1.inN (n := 5) rfl (by omega) (by decide)) (S1.ok rfl) (S1.inN (n := 4) rfl (by omega) (by decide)) ?_)
      rw [nI_1, nI_clamp (by omega), f5, (hn i (by omega)).1]
      refine ih (i + 1) _ (by omega) (e.trans (q_Ef.sA (by decide))) ei e95 e96 (fun j hj => ?_)
      rw [qA_sAu]
      by_cases h3 : j = i
      · rw [h3, upd_eq]
      · rw [upd_ne h3]
        exact g1 j (by omega)
  refine b324_0 (S.ok rfl) (S.ref (v := 641) rfl) (S.ok rfl) (ir _ rfl) (S.ref (v := 642) rfl) (S.ok rfl) (ir _ rfl) ?_
  rw [e41, e42]
  refine loop1 (V 0 0) 0 _ (by omega) ((q_Ef.sI (by decide)).trans (q_Ef.sI (by decide))) (fun j hj => ?_) rfl rfl (fun j hj => absurd hj (Nat.not_lt_zero _))
  rw [qI_sI_nj (by omega), qI_sI_nj (by omega)]
theorem s328 {h : q_Hp} {r a l : Nat} {B : q_Bk} {f : Nat → Int32} (X : n_X h B f) (hr : r < bN B 2) (ha : qI h 630 91 = nI a) (hl : qI h 630 92 = nI l) (h1 : l ≤ a) (h2 : a < 2 ^ 30) : q_mI 5 328 [.ref 630, .int (nI r)] h (fun z h' => (q_Ef [630, 691, 692, 695, 696, 697, 698, 699, 700, 701] h h' ∧ ∀ j, ¬ (j = 91 ∨ j = 92 ∨ j = 95 ∨ j = 96 ∨ j = 99) → qI h' 630 j = qI h 630 j) ∧
    ((z = 0 ∧ m_1st B f (bR B r) = none ∧ n_fr h h') ∨
     (∃ v L, m_1st B f (bR B r) = some v ∧ m_ma B f (m_im (bR B r 0 0) v) (bR B r) L ∧ qA h' 692 = va_cpy (qA h 691) (qA h 692) 0 (156 * (a % 101)) 156 ∧
      ((z = -3 ∧ ¬ m_okd B f (m_im (bR B r 0 0) v) (bR B r) ∧ qA h' 691 = qA h 691 ∧ (∀ j, ¬ j = 99 → qI h' 630 j = qI h 630 j) ∧ qA h' 697 = qA h 697 ∧ qA h' 698 = qA h 698) ∨
       (z = 1 ∧ m_okd B f (m_im (bR B r 0 0) v) (bR B r) ∧ qA h' 691 = (n_fd (bR B r) L (m_vl B f (m_im (bR B r 0 0) v) (bR B r)) (qA h 691) (m_im (bR B r 0 0) v) (bR B r 0 4)).1 ∧ qI h' 630 91 = nI (a + 1) ∧ qI h' 630 92 = nI (if a - l = 100 then l + 1 else l) ∧ qI h' 630 95 = nI (bR B r 0 0) ∧ qI h' 630 96 = nI (bR B r 0 1) ∧ (∀ i, i < bR B r 0 0 → qA h' 697 i = nI (m_im (bR B r 0 0) v i)) ∧ ∀ i, i < bR B r 0 1 → qA h' 698 i = nI (L.getD i 0)))))) := by
  have S := X.1
  have w := X.2.1
  have D := X.2.2.2
  have wr : q_wR B (bR B r) := w.2.2.2.2.2.2.2.2.2.2 r hr
  have mx := m_M_ext D.1 w wr
  refine q_mI.of (q_recV rfl (S.ok rfl)) (fun Q fin => ?_)
  refine b328_0 (s318 S) (by decide) ?_
  rintro ha' ⟨e1, g1⟩
  have Xa := X.of e1
  have fa : qA ha' 691 = qA h 691 := e1.A (by decide)
  refine b328_4 (s320 Xa hr (n_at_0 wr.1 g1)) (by decide) ?_
  rintro z hb ⟨e2, rfl, g2⟩
  rw [fa, mx] at g2 ⊢
  have e3 := e1.trans e2
  have Xb := X.of e3
  have Sb := Xb.1
  have fb : qA hb 691 = qA h 691 := e3.A (by decide)
  cases hv : q_fst (m_M B f (bR B r)) 0 (12 ^ bR B r 0 0 - 0) with
  | none => exact b328_9 (fun h9 => absurd rfl h9) (fun _ => b328_12 (fin _ _ ⟨⟨e3.1.wide (by decide), fun j hj => e3.2 j (by omega)⟩, Or.inl ⟨rfl, hv, e3⟩⟩))
  | some v =>
    obtain ⟨at1, L1⟩ := g2 v hv
    have hv2 := (q_fst_some _ _ _).mp hv
    obtain ⟨L, ma⟩ := m_dc_t.mp hv2.2.2.1
    have ma' : m_ma B (qA h 691) (m_im (bR B r 0 0) v) (bR B r) L := (m_ma_ext D.1 w wr (fun i _ => m_im_lt)).mpr ma
    refine b328_9 (fun _ => ?_) (fun h9 => absurd (show (1 : Int32) = 0 from h9) (by decide))
    have b91 : qI hb 630 91 = nI a := (e3.2 91 (by decide)).trans ha
    refine b328_14 (Sb.ok rfl) (Sb.ref (v := 692) rfl) (by decide) (s292s Sb b91 h2) (by decide) ?_
    rintro hc rfl
    have ec : q_Ef [692] hb (q_wA hb 692 (va_cpy (qA hb 691) (qA hb 692) 0 (156 * (a % 101)) 156)) := q_Ef.wA (by decide)
    have c692 : qA (q_wA hb 692 (va_cpy (qA hb 691) (qA hb 692) 0 (156 * (a % 101)) 156)) 692 = va_cpy (qA h 691) (qA h 692) 0 (156 * (a % 101)) 156 := by
      rw [qA_wAs, fb, e3.A (show 692 ∉ [630, 695, 696, 699] by decide)]
    generalize hcc : q_wA hb 692 (va_cpy (qA hb 691) (qA hb 692) 0 (156 * (a % 101)) 156) = hc at ec c692
    have ci : ∀ j, ¬ j = 99 → qI hc 630 j = qI h 630 j := fun j hj => (congrFun (ec.I (show 630 ∉ [692] by decide)) j).trans (e3.2 j hj)
    have Xc := Xb.fr ec rfl (fun i _ => congrFun (ec.I (show 630 ∉ [692] by decide)) _)
    have nc : n_nd hc (bR B r 0 0) (m_im (bR B r 0 0) v) := at1.1.fs (ec.A (by decide))
    have lc : n_lk hc (bR B r 0 1) L := (L1 L ma').fs wr.2.1 (fun k _ => by rw [ec.A (show 696 ∉ [692] by decide)])
    refine b328_33 (s326 Xc hr nc ma lc) (by decide) ?_
    rintro z hd ⟨e4, hz⟩
    have c691 : qA hc 691 = qA h 691 := (ec.A (by decide)).trans fb
    rw [c691] at hz
    have e5 : q_Ef [630, 691, 692, 695, 696, 697, 698, 699, 700, 701] h hd := ((e3.1.wide (by decide)).trans (ec.wide (by decide))).trans (e4.1.wide (by decide))
    have d692 : qA hd 692 = va_cpy (qA h 691) (qA h 692) 0 (156 * (a % 101)) 156 := (e4.1.A (by decide)).trans c692
    have di : ∀ j, ¬ j = 99 → qI hd 630 j = qI h 630 j := fun j hj => (e4.2 j hj).trans (ci j hj)
    have Sd := e5.sh S
    rcases hz with ⟨rfl, ok, fd⟩ | ⟨rfl, ok, fd⟩
    · refine b328_38 (fun _ => ?_) (fun h9 => absurd h9 (by decide))
      -- the hand, on the rows as they are now
      have h20 : r < 20 := by have := w.2.2.1; omega
      have mRd : r_mR hd r (bR B r) := (Xc.2.2.1.2.2.2.2.2.2 r hr).fr (fun x h1 h2 => e4.1.A (by simp only [List.mem_cons, List.not_mem_nil, or_false]; omega))
      have nd : n_nd hd (bR B r 0 0) (m_im (bR B r 0 0) v) := nc.fs (e4.1.A (by decide))
      have ld : n_lk hd (bR B r 0 1) L := lc.fs wr.2.1 (fun k _ => by rw [e4.1.A (show 696 ∉ [630, 691, 699, 700, 701] by decide)])
      refine b328_44 (s324r Sd h20 wr mRd nd ld) (by decide) ?_
      rintro he ⟨e6, ei, p1, p2, p3, p4⟩
      have Se := e6.sh Sd
      refine b328_49 (s327 (a := a) (l := l) Se ((ei 91 (by decide)).trans ((di 91 (by decide)).trans ha)) ((ei 92 (by decide)).trans ((di 92 (by decide)).trans hl)) h1 h2) (by decide) ?_
      rintro hf ⟨e7, ei2, p5, p6⟩
      refine b328_53 (fin _ _ ⟨⟨(e5.trans (e6.wide (by decide))).trans (e7.wide (by decide)), fun j hj => (ei2 j (by omega)).trans ((ei j (by omega)).trans (di j (by omega)))⟩, Or.inr ⟨v, L, hv, ma, ?_, Or.inr ⟨rfl, ok, ?_, p5, p6, (ei2 95 (by decide)).trans p1, (ei2 96 (by decide)).trans p2, fun i hi => ?_, fun i hi => ?_⟩⟩⟩)
      · exact (e7.A (by decide)).trans ((e6.A (by decide)).trans d692)
      · exact (e7.A (by decide)).trans ((e6.A (by decide)).trans fd)
      · rw [e7.A (show 697 ∉ [630] by decide)]; exact p3 i hi
      · rw [e7.A (show 698 ∉ [630] by decide)]; exact p4 i hi
    · exact b328_38 (fun h9 => absurd rfl h9) (fun _ => b328_41 (fin _ _ ⟨⟨e5, fun j hj => di j (by omega)⟩, Or.inr ⟨v, L, hv, ma, d692, Or.inl ⟨rfl, ok, fd, di, (e4.1.A (by decide)).trans ((ec.A (by decide)).trans (e3.A (by decide))), (e4.1.A (by decide)).trans ((ec.A (by decide)).trans (e3.A (by decide)))⟩⟩⟩))
