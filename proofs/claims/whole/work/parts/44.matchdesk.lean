/-! THE DESK: matches and match -/
/-- the desk's side between two calls: the book and the diagram -/
def c_X (h : q_Hp) (b : Nat) (B : q_Bk) (k : Nat → Int32) : Prop := q_Sh h ∧ q_isB b ∧ q_wB B ∧ r_cB h b B ∧ q_dg (bN B 0) (bN B 1) (qA h 598) k
/-- what a search leaves -/
def m_fa (h h' : q_Hp) : Prop := q_Ef [601, 602, 603, 604, 605, 606, 607] h h' ∧ qI h' 601 14 = qI h 601 14 ∧ qI h' 601 15 = qI h 601 15
theorem m_fa.rf {h : q_Hp} : m_fa h h := ⟨q_Ef.rf, rfl, rfl⟩
theorem m_fa.trans {h h1 h2 : q_Hp} (a : m_fa h h1) (b : m_fa h1 h2) : m_fa h h2 := ⟨a.1.trans b.1, b.2.1.trans a.2.1, b.2.2.trans a.2.2⟩
theorem m_fw.fa {h h' : q_Hp} (a : m_fw h h') : m_fa h h' := ⟨a.1.wide (by decide), a.2.2 14 (by decide), a.2.2 15 (by decide)⟩
theorem m_fa.A {h h' : q_Hp} (e : m_fa h h') {a : Nat} (ha : a ∉ [601, 602, 603, 604, 605, 606, 607]) : qA h' a = qA h a := e.1.A ha
theorem m_fa.I {h h' : q_Hp} (e : m_fa h h') {a : Nat} (ha : a ∉ [601, 602, 603, 604, 605, 606, 607]) : qI h' a = qI h a := e.1.I ha
theorem c_X.fr {S : List Nat} {h h' : q_Hp} {b : Nat} {B : q_Bk} {k : Nat → Int32} (a : c_X h b B k) (e : q_Ef S h h') (hS : S.all (fun x => decide (598 < x)) = true) : c_X h' b B k := by
  obtain ⟨S0, hb, w, cB, D⟩ := a
  have hbb : b = 11 ∨ b = 300 := hb
  have n1 : ∀ x, x ≤ 598 → x ∉ S := fun x hx => q_nin hS hx
  refine ⟨e.sh S0, hb, w, cB.fr hb w (fun a h1 h2 => e.A (n1 _ (by omega))) (fun a h1 h2 => e.I (n1 _ (by omega))), ?_⟩
  rw [e.A (n1 598 (by decide))]
  exact D
theorem s91' {h : q_Hp} {b r : Nat} {B : q_Bk} {k : Nat → Int32} (X : c_X h b B k) (hr : r < bN B 2) : q_mV 2 91 [.ref 601, .ref b, .int (nI r)] h (fun h' => m_fa h h' ∧ m_A h' b (b + 9 + 14 * r) B (bR B r) k ∧ m_at h' B (qA h 598) (bR B r) 0) := by
  obtain ⟨S, hb, w, cB, D⟩ := X
  have hbb : b = 11 ∨ b = 300 := hb
  have h20 : r < 20 := by have := w.2.2.1; omega
  have wr : q_wR B (bR B r) := w.2.2.2.2.2.2.2.2.2.2 r hr
  have cR : r_cR h (b + 9 + 14 * r) (bR B r) := cB.2.2.2.2.2.2 r hr
  have hT : bN B 0 ≤ 12 := w.1
  have ho : q_isO (b + 9 + 14 * r) := ⟨b, r, hb, h20, rfl⟩
  have hol := ho.le
  refine (s91 S hb h20 (cB.1 0 (by decide)) hT D.1 w.2.1 cR wr.1 wr.2.2.1).mono (Nat.le_refl _) ?_
  rintro h' ⟨h1, e1, t1, t2, g, rfl, t3⟩
  have n1 : ∀ x, x ≤ 600 → x ∉ [602, 604, 605] := fun x hx => q_nin (k := 600) rfl hx
  have S0 : q_Sh (m_h0 h b (b + 9 + 14 * r)) := m_h0_Sh S
  have e0 : q_Ef [601, 602, 603, 604, 605, 606, 607] h (m_h0 h b (b + 9 + 14 * r)) := ((q_Ef.sR (by decide) rfl).trans (q_Ef.sR (by decide) rfl)).trans (q_Ef.sI (by decide))
  have e2 : q_Ef [601, 602, 603, 604, 605, 606, 607] h h1 := e0.trans (e1.wide (by decide))
  have e3 : q_Ef [601, 602, 603, 604, 605, 606, 607] h (q_wA h1 606 g) := e2.trans (q_Ef.wA (by decide))
  have n2 : ∀ x, x ≤ 600 → x ∉ [601, 602, 603, 604, 605, 606, 607] := fun x hx => q_nin (k := 600) rfl hx
  have f598 : qA (q_wA h1 606 g) 598 = qA h 598 := e3.A (n2 _ (by decide))
  have r6 : qR (q_wA h1 606 g) 601 = qR (m_h0 h b (b + 9 + 14 * r)) 601 := e1.R (show 601 ∉ [602, 604, 605] by decide)
  have i6 : ∀ j, qI (q_wA h1 606 g) 601 j = qI (m_h0 h b (b + 9 + 14 * r)) 601 j := fun j => congrFun (e1.I (show 601 ∉ [602, 604, 605] by decide)) j
  have nn : ∀ (wv z : Int32), m_fit h b (bN B 0) wv z → ∀ j, j < 32 → (bt z j = true ↔ j < 12 ∧ m_tt B (qA h 598) wv j) := by
    intro wv z hz j hj
    rw [hz j hj]
    exact and_congr Iff.rfl (m_tt_in cB rfl hT)
  refine ⟨⟨e3, i6 14, i6 15⟩, ⟨⟨e3.sh S, hb, ho, ?_, ?_⟩, w, wr, cB.fr hb w (fun a h1 h2 => e3.A (n2 _ (by omega))) (fun a h1 h2 => e3.I (n2 _ (by omega))), cR.fr (fun a h1 h2 => e3.A (n2 _ (by omega))) (e3.I (n2 _ (by omega))), ?_, ?_, ?_, ?_⟩, Or.inl ⟨rfl, ?_, fun i hi => (t1 i hi).1⟩⟩
  · rw [r6]; rfl
  · rw [r6]; rfl
  · rw [f598]; exact D
  · rw [f598]
    intro i hi
    exact nn _ _ ((t1 i (by have := wr.1; omega)).2 hi)
  · rw [f598]
    intro i hi
    exact nn _ _ (t2 i hi)
  · rw [f598]
    intro s a j hs ha hj
    rw [show qA (q_wA h1 606 g) 606 = g from qA_wAs _ _ _]
    exact t3 s a j hs ha hj
  · rw [i6]; rfl
/-- the next match counts one more -/
theorem q_cnt_fst {p : Nat → Bool} {s n v : Nat} (h : q_fst p s n = some v) : q_cnt p v = q_cnt p s ∧ q_cnt p (v + 1) = q_cnt p s + 1 := by
  obtain ⟨h1, h2, h3, h4⟩ := (q_fst_some _ _ _).mp h
  have key : ∀ m, s + m ≤ v → q_cnt p (s + m) = q_cnt p s := by
    intro m
    induction m with
    | zero => intro _; rfl
    | succ m ih =>
      intro hm
      rw [← Nat.add_assoc, q_cnt_s, ih (by omega), h4 (s + m) (by omega) (by omega)]
      rfl
  have e : q_cnt p v = q_cnt p s := by
    have := key (v - s) (by omega)
    rw [show s + (v - s) = v by omega] at this
    exact this
  refine ⟨e, ?_⟩
  rw [q_cnt_s, e, h3]
  rfl
theorem q_cnt_none {p : Nat → Bool} {s n : Nat} (h : q_fst p s n = none) : q_cnt p (s + n) = q_cnt p s := by
  have h4 := (q_fst_none _ _).mp h
  have key : ∀ m, m ≤ n → q_cnt p (s + m) = q_cnt p s := by
    intro m
    induction m with
    | zero => intro _; rfl
    | succ m ih =>
      intro hm
      rw [← Nat.add_assoc, q_cnt_s, ih (by omega), h4 (s + m) (by omega) (by omega)]
      rfl
  exact key n (Nat.le_refl _)
theorem q_cnt_mono {p : Nat → Bool} {a b : Nat} (h : a ≤ b) : q_cnt p a ≤ q_cnt p b := by
  obtain ⟨m, rfl⟩ : ∃ m, b = a + m := ⟨b - a, by omega⟩
  induction m with
  | zero => exact Nat.le_refl _
  | succ m ih =>
    rw [← Nat.add_assoc, q_cnt_s]
    have := ih (by omega)
    omega
theorem m_top {N : Nat} (h : N ≤ 4) : 12 ^ N ≤ 20736 := Nat.le_trans (Nat.pow_le_pow_right (by decide) h) (by decide)
theorem s222 {h : q_Hp} {b : Nat} {B : q_Bk} {k : Nat → Int32} {x : Int32} (X : c_X h b B k) (hb5 : qR h 1 5 = b) : q_mI 5 222 [.ref 1, .int x] h (fun z h' => m_fa h h' ∧ ((q_rg x (bN B 2) = false ∧ z = -1) ∨ ∃ r, r < bN B 2 ∧ x = nI r ∧ z = nI (q_cnt (m_M B (qA h 598) (bR B r)) (12 ^ bR B r 0 0)))) := by
  have X0 := X
  obtain ⟨S, hb, w, cB, D⟩ := X
  have h20 : bN B 2 ≤ 20 := w.2.2.1
  refine q_mI.of (q_recV rfl (S.ok rfl)) (fun Q fin => ?_)
  refine b222_0 (S.ok rfl) hb5 (s4 (S.bo hb) (cB.1 2 (by decide)) h20) (by decide) ?_
  rintro z h1 ⟨e0, rfl⟩
  subst h1
  refine b222_8 (fun c1 => ?_) (fun c1 => b222_11 (fin _ _ ⟨m_fa.rf, Or.inl ⟨b2i_eq.mp c1, rfl⟩⟩))
  obtain ⟨r, hr, rfl⟩ := (q_rg_ex (by omega)).mp (b2i_ne.mp c1)
  refine b222_13 (S.ok rfl) (S.ref (v := 601) rfl) hb5 (s91' X0 hr) (by decide) ?_
  rintro h1 ⟨e1, A, at0⟩
  refine b222_25 ?_
  have wr : q_wR B (bR B r) := w.2.2.2.2.2.2.2.2.2.2 r hr
  have tp := m_top wr.1
  have loop : ∀ m s0 t h2, t + m = 1000000 → m_fa h h2 → m_A h2 b (b + 9 + 14 * r) B (bR B r) k → m_at h2 B (qA h 598) (bR B r) s0 → s0 ≤ 12 ^ bR B r 0 0 → t = q_cnt (m_M B (qA h 598) (bR B r)) s0 → q_wp 5 222 29 [some (.ref 1), some (.int (nI r)), some (.int (nI t)), some (.int (nI t))] [] h2 Q := by
    intro m
    induction m with
    | zero =>
      intro s0 t h2 ht e2 A2 at2 hs hc
      have := q_cnt_le (m_M B (qA h 598) (bR B r)) s0
      omega
    | succ m ih =>
      intro s0 t h2 ht e2 A2 at2 hs hc
      have f598 : qA h2 598 = qA h 598 := e2.A (by decide)
      have S2 := A2.1.1
      rw [← f598] at at2
      refine b222_29 (fun h3 => absurd ((nI_gec (k := 1000000) (by omega) (by decide) rfl).mp h3) (by omega)) (fun _ => b222_35 (S2.ok rfl) (S2.ref (v := 601) rfl) (s94 A2 at2) (by decide) ?_)
      rintro z h3 ⟨e3, rfl, g3⟩
      rw [f598] at g3
      have e4 := e2.trans e3.fa
      rw [f598]
      cases hv : q_fst (m_M B (qA h 598) (bR B r)) s0 (12 ^ bR B r 0 0 - s0) with
      | none =>
        refine b222_42 (fun _ => b222_54 (fin _ _ ⟨e4, Or.inr ⟨r, hr, rfl, ?_⟩⟩)) (fun h5 => absurd rfl h5)
        have := q_cnt_none hv
        rw [show s0 + (12 ^ bR B r 0 0 - s0) = 12 ^ bR B r 0 0 by omega] at this
        rw [this, hc]
      | some v =>
        refine b222_42 (fun h5 => absurd (show (1 : Int32) = 0 from h5) (by decide)) (fun _ => b222_45 ?_)
        have hv2 := (q_fst_some _ _ _).mp hv
        have hc2 := q_cnt_fst hv
        rw [nI_1]
        exact ih (v + 1) (t + 1) h3 (by omega) e4 (A2.fw e3) (g3 v hv).1 (by omega) (by rw [hc2.2, hc])
  exact loop 1000000 0 0 h1 rfl e1 A at0 (Nat.zero_le _) rfl
/-- the match in hand -/
def m_hand (h : q_Hp) (B : q_Bk) (f : Nat → Int32) (V : Nat → Nat → Nat) (v : Nat) : Prop := ∃ L, m_ma B f (m_im (V 0 0) v) V L ∧ qI h 601 14 = nI (V 0 0) ∧ qI h 601 15 = nI (V 0 1) ∧ (∀ i, i < V 0 0 → qA h 608 i = nI (m_im (V 0 0) v i)) ∧ ∀ i, i < V 0 1 → qA h 609 i = nI (L.getD i 0)
theorem s113' {h : q_Hp} {b o v : Nat} {B : q_Bk} {V : Nat → Nat → Nat} {k : Nat → Int32} (A : m_A h b o B V k) (hv : m_M B (qA h 598) V v = true) (hn : m_nd h (V 0 0) (m_im (V 0 0) v)) (hL : ∀ L, m_ma B (qA h 598) (m_im (V 0 0) v) V L → ∀ i, i < V 0 1 → qA h 603 i = nI (L.getD i 0)) : q_mV 0 113 [.ref 601] h (fun h' => q_Ef [601, 608, 609] h h' ∧ m_hand h' B (qA h 598) V v) := by
  have C := A.2.2.2.2.1
  have wr := A.2.2.1
  refine (s113 A.1 (C.1 0 (by decide)) (C.1 1 (by decide))).mono (Nat.le_refl _) ?_
  rintro h' ⟨e, g1, g2⟩
  have ew : q_Ef [601, 608, 609] h (m_hd h (V 0 0) (V 0 1)) := (q_Ef.sI (by decide)).trans (q_Ef.sI (by decide))
  obtain ⟨L, hm⟩ := m_dc_t.mp hv
  have i6 : qI h' 601 = qI (m_hd h (V 0 0) (V 0 1)) 601 := e.I (by decide)
  refine ⟨ew.trans (e.wide (by decide)), L, hm, ?_, ?_, fun i hi => ?_, fun i hi => ?_⟩
  · rw [i6]; rfl
  · rw [i6]; rfl
  · rw [g1 i (by have := wr.1; omega)]
    exact (hn i hi).1
  · rw [g2 i (by have := wr.2.1; omega)]
    exact hL L hm i hi
theorem s223 {h : q_Hp} {b : Nat} {B : q_Bk} {k : Nat → Int32} {x y : Int32} (X : c_X h b B k) (hb5 : qR h 1 5 = b) : q_mI 5 223 [.ref 1, .int x, .int y] h (fun z h' => (z = 0 ∧ m_fa h h' ∧ ((q_rg x (bN B 2) && !decide (y < 0)) = false ∨ ∃ r i, r < bN B 2 ∧ x = nI r ∧ i < 2 ^ 31 ∧ y = nI i ∧ q_cnt (m_M B (qA h 598) (bR B r)) (12 ^ bR B r 0 0) ≤ i)) ∨ (z = 1 ∧ q_Ef [601, 602, 603, 604, 605, 606, 607, 608, 609] h h' ∧ ∃ r v, r < bN B 2 ∧ x = nI r ∧ v < 12 ^ bR B r 0 0 ∧ m_M B (qA h 598) (bR B r) v = true ∧ y = nI (q_cnt (m_M B (qA h 598) (bR B r)) v) ∧ m_hand h' B (qA h 598) (bR B r) v)) := by
  have X0 := X
  obtain ⟨S, hb, w, cB, D⟩ := X
  have h20 : bN B 2 ≤ 20 := w.2.2.1
  refine q_mI.of (q_recV rfl (S.ok rfl)) (fun Q fin => ?_)
  refine b223_0 (S.ok rfl) hb5 (s4 (S.bo hb) (cB.1 2 (by decide)) h20) (by decide) ?_
  rintro z h1 ⟨e0, rfl⟩
  subst h1
  refine b223_8 (fun c1 => b223_15 (fin _ _ (Or.inl ⟨rfl, m_fa.rf, Or.inl (by rw [b2i_eq.mp c1]; rfl)⟩))) (fun c1 => b223_11 (fun c2 => ?_) (fun c2 => b223_15 (fin _ _ (Or.inl ⟨rfl, m_fa.rf, Or.inl ?_⟩))))
  · have c3 : ¬ y < 0 := Int32.not_lt.mpr c2
    obtain ⟨i, hi, rfl⟩ := nI_of c3
    obtain ⟨r, hr, rfl⟩ := (q_rg_ex (by omega)).mp (b2i_ne.mp c1)
    refine b223_17 (S.ok rfl) (S.ref (v := 601) rfl) hb5 (s91' X0 hr) (by decide) ?_
    rintro h1 ⟨e1, A, at0⟩
    refine b223_29 ?_
    have wr : q_wR B (bR B r) := w.2.2.2.2.2.2.2.2.2.2 r hr
    have tp := m_top wr.1
    have loop : ∀ m s0 t h2, t + m = 1000000 → m_fa h h2 → m_A h2 b (b + 9 + 14 * r) B (bR B r) k → m_at h2 B (qA h 598) (bR B r) s0 → s0 ≤ 12 ^ bR B r 0 0 → t = q_cnt (m_M B (qA h 598) (bR B r)) s0 → t ≤ i → q_wp 5 223 31 [some (.ref 1), some (.int (nI r)), some (.int (nI i)), some (.int (nI t))] [] h2 Q := by
      intro m
      induction m with
      | zero =>
        intro s0 t h2 ht e2 A2 at2 hs hc hti
        have := q_cnt_le (m_M B (qA h 598) (bR B r)) s0
        omega
      | succ m ih =>
        intro s0 t h2 ht e2 A2 at2 hs hc hti
        have f598 : qA h2 598 = qA h 598 := e2.A (by decide)
        have S2 := A2.1.1
        rw [← f598] at at2
        refine b223_31 (fun h3 => absurd ((nI_gec (k := 1000000) (by omega) (by decide) rfl).mp h3) (by omega)) (fun _ => b223_37 (S2.ok rfl) (S2.ref (v := 601) rfl) (s94 A2 at2) (by decide) ?_)
        rintro z h3 ⟨e3, rfl, g3⟩
        rw [f598] at g3
        have e4 := e2.trans e3.fa
        rw [f598]
        cases hv : q_fst (m_M B (qA h 598) (bR B r)) s0 (12 ^ bR B r 0 0 - s0) with
        | none =>
          refine b223_44 (fun _ => b223_67 (fin _ _ (Or.inl ⟨rfl, e4, Or.inr ⟨r, i, hr, rfl, hi, rfl, ?_⟩⟩))) (fun h5 => absurd rfl h5)
          have := q_cnt_none hv
          rw [show s0 + (12 ^ bR B r 0 0 - s0) = 12 ^ bR B r 0 0 by omega] at this
          rw [this, ← hc]
          exact hti
        | some v =>
          have hv2 := (q_fst_some _ _ _).mp hv
          have hc2 := q_cnt_fst hv
          have A3 := A2.fw e3
          have f3 : qA h3 598 = qA h 598 := e4.A (by decide)
          have S3 := A3.1.1
          refine b223_44 (fun h5 => absurd (show (1 : Int32) = 0 from h5) (by decide)) (fun _ => b223_47 (fun c3 => b223_61 ?_) (fun c3 => ?_))
          · rw [nI_1]
            have c4 : ¬ t = i := fun h9 => c3 (by rw [h9])
            exact ih (v + 1) (t + 1) h3 (by omega) e4 A3 (g3 v hv).1 (by omega) (by rw [hc2.2, hc]) (by omega)
          · have c4 : t = i := (nI_eq (by omega) (by omega)).mp c3
            refine b223_52 (S3.ok rfl) (S3.ref (v := 601) rfl) (s113' A3 (by rw [f3]; exact hv2.2.2.1) (g3 v hv).2.1 (by rw [f3]; exact (g3 v hv).2.2)) (by decide) ?_
            rintro h5 ⟨e5, g5⟩
            rw [f3] at g5
            refine b223_59 (fin _ _ (Or.inr ⟨rfl, (e4.1.wide (by decide)).trans (e5.wide (by decide)), r, v, hr, rfl, by omega, hv2.2.2.1, ?_, g5⟩))
            rw [hc2.1, ← hc, c4]
    exact loop 1000000 0 0 h1 rfl e1 A at0 (Nat.zero_le _) rfl (Nat.zero_le _)
  · have c3 : y < 0 := Int32.not_le.mp c2
    rw [decide_eq_true c3]
    simp
