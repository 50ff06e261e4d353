/-! ALL OF A RULE: at each of what is taken -/
noncomputable def m_al (B : q_Bk) (V : Nat → Nat → Nat) : List Nat → (Nat → Int32) → Nat → Option ((Nat → Int32) × Nat)
  | [], f, n => some (f, n)
  | v :: T, f, n => if m_dc (∃ L, m_ma B f (m_im (V 0 0) v) V L) = true then (if m_dc (m_okd B f (m_im (V 0 0) v) V) = true then m_al B V T (m_fd V ((m_rl f (m_im (V 0 0) v) V).getD []) (m_vl B f (m_im (V 0 0) v) V) f (m_im (V 0 0) v) (V 0 4)).1 (n + 1) else none) else m_al B V T f n
theorem m_al_n {B : q_Bk} {V : Nat → Nat → Nat} {v n : Nat} {T : List Nat} {f : Nat → Int32} (h : ¬ ∃ L, m_ma B f (m_im (V 0 0) v) V L) : m_al B V (v :: T) f n = m_al B V T f n := if_neg (fun h2 => h (m_dc_t.mp h2))
theorem m_al_y {B : q_Bk} {V : Nat → Nat → Nat} {v n : Nat} {T L : List Nat} {f : Nat → Int32} (h : m_ma B f (m_im (V 0 0) v) V L) (h2 : m_okd B f (m_im (V 0 0) v) V) : m_al B V (v :: T) f n = m_al B V T (m_fd V L (m_vl B f (m_im (V 0 0) v) V) f (m_im (V 0 0) v) (V 0 4)).1 (n + 1) := by
  have e : m_rl f (m_im (V 0 0) v) V = some L := h.2.2.1
  show (if m_dc (∃ L, m_ma B f (m_im (V 0 0) v) V L) = true then (if m_dc (m_okd B f (m_im (V 0 0) v) V) = true then m_al B V T (m_fd V ((m_rl f (m_im (V 0 0) v) V).getD []) (m_vl B f (m_im (V 0 0) v) V) f (m_im (V 0 0) v) (V 0 4)).1 (n + 1) else none) else m_al B V T f n) = _
  rw [if_pos (m_dc_t.mpr ⟨L, h⟩), if_pos (m_dc_t.mpr h2), e]
  rfl
theorem m_al_b {B : q_Bk} {V : Nat → Nat → Nat} {v n : Nat} {T L : List Nat} {f : Nat → Int32} (h : m_ma B f (m_im (V 0 0) v) V L) (h2 : ¬ m_okd B f (m_im (V 0 0) v) V) : m_al B V (v :: T) f n = none := by
  show (if m_dc (∃ L, m_ma B f (m_im (V 0 0) v) V L) = true then (if m_dc (m_okd B f (m_im (V 0 0) v) V) = true then _ else none) else _) = _
  rw [if_pos (m_dc_t.mpr ⟨L, h⟩), if_neg (fun h3 => h2 (m_dc_t.mp h3))]
theorem l_drop {T : List Nat} {i : Nat} (h : i < T.length) : T.drop i = T.getD i 0 :: T.drop (i + 1) := by
  rw [List.drop_eq_getElem_cons h, List.getD_eq_getElem?_getD, List.getElem?_eq_getElem h]
  rfl
theorem l_drop_e {T : List Nat} : T.drop T.length = [] := List.drop_of_length_le (Nat.le_refl _)
theorem s120 {h : q_Hp} {b r t kk s : Nat} {B : q_Bk} {g0 : Nat → Int32} {T : List Nat} (X : c_X h b B g0) (hr : r < bN B 2) (hT : T.length ≤ 12) (c6 : qI h 610 6 = nI T.length) (ct : ∀ m i, m < T.length → i < bR B r 0 0 → qA h 613 (4 * m + i) = nI (m_im (bR B r 0 0) (T.getD m 0) i)) (ht : qI h 599 2 = nI t) (h1 : t < 101) (hk : qI h 599 3 = nI kk) (h2 : kk ≤ 100) (hs : qI h 599 4 = nI s) : q_mI 5 120 [.ref 610, .ref b, .int (nI r)] h (fun z h' => q_Ef [598, 599, 600, 601, 602, 603, 604, 605, 606, 607, 611, 612] h h' ∧ qI h' 601 14 = qI h 601 14 ∧ qI h' 601 15 = qI h 601 15 ∧ qA h' 600 = va_cpy (qA h 598) (qA h 600) 0 (t * 156) 156 ∧
    ((z = 1 ∧ (∃ n, 0 < n ∧ m_al B (bR B r) T (qA h 598) 0 = some (qA h' 598, n)) ∧ qI h' 599 2 = nI ((t + 1) % 101) ∧ qI h' 599 3 = nI (min (kk + 1) 100) ∧ qI h' 599 4 = nI (s + 1)) ∨
     (z = 0 ∧ m_al B (bR B r) T (qA h 598) 0 = some (qA h' 598, 0) ∧ qI h' 599 = qI h 599) ∨
     (z = 2 ∧ m_al B (bR B r) T (qA h 598) 0 = none ∧ (∀ i, i < 156 → qA h' 598 i = qA h 598 i) ∧ qI h' 599 = qI h 599))) := by
  have S := X.1
  have w := X.2.2.1
  have wr : q_wR B (bR B r) := w.2.2.2.2.2.2.2.2.2.2 r hr
  have h4 : bR B r 0 0 ≤ 4 := wr.1
  refine q_mI.of (q_recV rfl (S.ok rfl)) (fun Q fin => ?_)
  refine b120_0 (S.ok rfl) (S.ref (v := 599) rfl) (s85 S ht h1) (by decide) ?_
  rintro h1' rfl
  have ea : q_Ef [600] h (q_wA h 600 (va_cpy (qA h 598) (qA h 600) 0 (t * 156) 156)) := q_Ef.wA (by decide)
  have a600 : qA (q_wA h 600 (va_cpy (qA h 598) (qA h 600) 0 (t * 156) 156)) 600 = va_cpy (qA h 598) (qA h 600) 0 (t * 156) 156 := qA_wAs _ _ _
  generalize q_wA h 600 (va_cpy (qA h 598) (qA h 600) 0 (t * 156) 156) = ha at ea a600
  refine b120_7 ?_
  have fa : qA ha 598 = qA h 598 := ea.A (by decide)
  have Xa : c_X ha b B g0 := X.fr ea rfl
  have loop : ∀ m i n (x3 : Int32) h2 g, i + m = T.length → q_Ef [598, 601, 602, 603, 604, 605, 606, 607, 611, 612] ha h2 → qI h2 601 14 = qI ha 601 14 → qI h2 601 15 = qI ha 601 15 → c_X h2 b B g → m_al B (bR B r) T (qA h 598) 0 = m_al B (bR B r) (T.drop i) (qA h2 598) n → (x3 = 0 ↔ n = 0) → q_wp 5 120 12 [some (.ref 610), some (.ref b), some (.int (nI r)), some (.int x3), some (.int (nI i))] [] h2 Q := by
    intro m
    induction m with
    | zero =>
      intro i n x3 h2 g hi e c14 c15 X2 al hx
      obtain rfl : i = T.length := by omega
      have S2 := X2.1
      rw [l_drop_e] at al
      have al : m_al B (bR B r) T (qA h 598) 0 = some (qA h2 598, n) := al
      have i6 : qI h2 610 6 = nI T.length := by rw [e.I (show 610 ∉ [598, 601, 602, 603, 604, 605, 606, 607, 611, 612] by decide), ea.I (show 610 ∉ [600] by decide)]; exact c6
      have e9 : q_Ef [598, 599, 600, 601, 602, 603, 604, 605, 606, 607, 611, 612] h h2 := (ea.wide (by decide)).trans (e.wide (by decide))
      have i599 : qI h2 599 = qI h 599 := (e.I (by decide)).trans (ea.I (by decide))
      have d14 : qI h2 601 14 = qI h 601 14 := c14.trans (congrFun (ea.I (by decide)) 14)
      have d15 : qI h2 601 15 = qI h 601 15 := c15.trans (congrFun (ea.I (by decide)) 15)
      have d600 : qA h2 600 = va_cpy (qA h 598) (qA h 600) 0 (t * 156) 156 := (e.A (by decide)).trans a600
      refine b120_12 (S2.ok rfl) (fun _ => b120_65 (fun c1 => ?_) (fun c1 => b120_69 (fin _ _ ⟨e9, d14, d15, d600, Or.inr (Or.inl ⟨rfl, by rw [al, hx.mp c1], i599⟩)⟩))) (fun h9 => absurd (by rw [i6]; exact Int32.le_refl _) h9)
      refine b120_71 (S2.ok rfl) (S2.ref (v := 599) rfl) (s87 S2 (by rw [i599]; exact ht) (by rw [i599]; exact hk) (by rw [i599]; exact hs) h1 (by assumption)) (by decide) ?_
      rintro h3 rfl
      have ee : q_Ef [599] h2 (q_his h2 ((t + 1) % 101) (min (kk + 1) 100) (s + 1)) := ((q_Ef.sI (by decide)).trans (q_Ef.sI (by decide))).trans (q_Ef.sI (by decide))
      have i2 : qI (q_his h2 ((t + 1) % 101) (min (kk + 1) 100) (s + 1)) 599 2 = nI ((t + 1) % 101) := rfl
      have i3 : qI (q_his h2 ((t + 1) % 101) (min (kk + 1) 100) (s + 1)) 599 3 = nI (min (kk + 1) 100) := rfl
      have i4 : qI (q_his h2 ((t + 1) % 101) (min (kk + 1) 100) (s + 1)) 599 4 = nI (s + 1) := rfl
      generalize q_his h2 ((t + 1) % 101) (min (kk + 1) 100) (s + 1) = h3 at ee i2 i3 i4
      refine b120_78 (fin _ _ ⟨e9.trans (ee.wide (by decide)), (congrFun (ee.I (by decide)) 14).trans d14, (congrFun (ee.I (by decide)) 15).trans d15, (ee.A (by decide)).trans d600, Or.inl ⟨rfl, ⟨n, by have := mt hx.mpr c1; omega, ?_⟩, i2, i3, i4⟩⟩)
      rw [ee.A (show 598 ∉ [599] by decide)]
      exact al
    | succ m ih =>
      intro i n x3 h2 g hi e c14 c15 X2 al hx
      have S2 := X2.1
      have D2 := X2.2.2.2.2
      rw [l_drop (show i < T.length by omega)] at al
      have i6 : qI h2 610 6 = nI T.length := by rw [e.I (show 610 ∉ [598, 601, 602, 603, 604, 605, 606, 607, 611, 612] by decide), ea.I (show 610 ∉ [600] by decide)]; exact c6
      have st : ∀ j, j < bR B r 0 0 → qA h2 613 (4 * i + j) = nI (m_im (bR B r 0 0) (T.getD i 0) j) ∧ m_im (bR B r 0 0) (T.getD i 0) j < 12 := by
        intro j hj
        rw [e.A (show 613 ∉ [598, 601, 602, 603, 604, 605, 606, 607, 611, 612] by decide), ea.A (show 613 ∉ [600] by decide)]
        exact ⟨ct i j (by omega) hj, m_im_lt⟩
      have hc98 := s98 X2 hr (show i < 12 by omega) st
      rw [show nI (4 * i) = nI i * 4 by rw [Nat.mul_comm]; exact (pk_mul i 4).symm] at hc98
      refine b120_12 (S2.ok rfl) (fun h9 => absurd ((nI_leI (by omega) (by omega)).mp (i6 ▸ h9)) (by omega)) (fun _ => b120_21 (S2.ok rfl) (S2.ref (v := 601) rfl) (S2.ref (v := 613) rfl) hc98 (by decide) ?_)
      rintro z h3 ⟨e3, rfl, g3⟩
      have e4 : q_Ef [598, 601, 602, 603, 604, 605, 606, 607, 611, 612] ha h3 := e.trans (e3.1.wide (by decide))
      have f3 : qA h3 598 = qA h2 598 := e3.A (by decide)
      have X3 : c_X h3 b B g := X2.fr e3.1 rfl
      refine b120_38 (fun c1 => b120_59 ?_) (fun c1 => ?_)
      · rw [m_al_n (m_dc_f.mp (b2i_eq.mp c1))] at al
        rw [nI_1]
        exact ih (i + 1) n x3 h3 g (by omega) e4 (e3.2.1.trans c14) (e3.2.2.trans c15) X3 (by rw [f3]; exact al) hx
      · obtain ⟨L, ma⟩ := m_dc_t.mp (b2i_ne.mp c1)
        obtain ⟨A3, n3, l3⟩ := g3 L ma
        refine b120_41 (s121 A3 n3 (by rw [f3]; exact ma) l3) (by decide) ?_
        rintro z h5 ⟨e5, hz⟩
        rw [f3] at hz
        have e6 : q_Ef [598, 601, 602, 603, 604, 605, 606, 607, 611, 612] ha h5 := e4.trans (e5.1.wide (by decide))
        have d14 : qI h5 601 14 = qI ha 601 14 := (e5.2.2 14 (by decide)).trans (e3.2.1.trans c14)
        have d15 : qI h5 601 15 = qI ha 601 15 := (e5.2.2 15 (by decide)).trans (e3.2.2.trans c15)
        rcases hz with ⟨rfl, ok, f5⟩ | ⟨rfl, nok, f5⟩
        · have D5 := ((m_iv_all (val := m_vl B (qA h2 598) (m_im (bR B r 0 0) (T.getD i 0)) (bR B r)) D2 w wr (fun i _ => m_im_lt) ma ok.2 (bR B r 0 4) (Nat.le_refl _)).1).1
          rw [m_al_y ma ok, ← f5] at al
          refine b120_45 (fun _ => b120_57 (b120_59 ?_)) (fun h9 => absurd h9 (by decide))
          rw [nI_1]
          refine ih (i + 1) (n + 1) 1 h5 _ (by omega) e6 d14 d15 (X3.row e5.1 rfl (g' := (n_fd (bR B r) L (m_vl B (qA h2 598) (m_im (bR B r 0 0) (T.getD i 0)) (bR B r)) g (m_im (bR B r 0 0) (T.getD i 0)) (bR B r 0 4)).1) ?_) al ⟨fun h9 => absurd h9 (by decide), fun h9 => absurd h9 (Nat.succ_ne_zero _)⟩
          rw [f5]
          exact D5
        · rw [m_al_b ma nok] at al
          have S5 := e6.sh (ea.sh S)
          have i599 : qI h5 599 = qI h 599 := (e6.I (by decide)).trans (ea.I (by decide))
          have d600 : qA h5 600 = va_cpy (qA h 598) (qA h 600) 0 (t * 156) 156 := (e6.A (by decide)).trans a600
          refine b120_45 (fun h9 => absurd rfl h9) (fun _ => b120_48 (S5.ok rfl) (S5.ref (v := 599) rfl) (s86 S5 (by rw [i599]; exact ht) h1) (by decide) ?_)
          rintro h6 rfl
          have e7 : q_Ef [598] h5 (q_wA h5 598 (va_cpy (qA h5 600) (qA h5 598) (t * 156) 0 156)) := q_Ef.wA (by decide)
          have a7 : qA (q_wA h5 598 (va_cpy (qA h5 600) (qA h5 598) (t * 156) 0 156)) 598 = va_cpy (qA h5 600) (qA h5 598) (t * 156) 0 156 := qA_wAs _ _ _
          generalize q_wA h5 598 (va_cpy (qA h5 600) (qA h5 598) (t * 156) 0 156) = h6 at e7 a7
          refine b120_55 (fin _ _ ⟨((ea.wide (by decide)).trans (e6.wide (by decide))).trans (e7.wide (by decide)), (congrFun (e7.I (by decide)) 14).trans (d14.trans (congrFun (ea.I (by decide)) 14)), (congrFun (e7.I (by decide)) 15).trans (d15.trans (congrFun (ea.I (by decide)) 15)), (e7.A (by decide)).trans d600, Or.inr (Or.inr ⟨rfl, al, fun j hj => ?_, (e7.I (by decide)).trans i599⟩)⟩)
          rw [a7, d600]
          have v1 := va_cpy_in (f := va_cpy (qA h 598) (qA h 600) 0 (t * 156) 156) (g := qA h5 598) (sp := t * 156) (dp := 0) hj
          rw [Nat.zero_add] at v1
          rw [v1, va_cpy_in hj, Nat.zero_add]
  exact loop T.length 0 0 0 ha g0 (by omega) q_Ef.rf rfl rfl Xa (by rw [fa]; rfl) ⟨fun _ => rfl, fun _ => rfl⟩
