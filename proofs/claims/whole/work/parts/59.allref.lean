/-! ALL OF A RULE: the reference, and both sides -/
theorem m_get_mem {L : List Nat} {l : Nat} (h : l < L.length) : L.getD l 0 ∈ L := by
  rw [List.getD_eq_getElem?_getD, List.getElem?_eq_getElem h]
  exact List.getElem_mem _
theorem q_dg.sym156 {T S : Nat} {f g g' : Nat → Int32} (D : q_dg T S f g) (e : ∀ i, i < 156 → g' i = g i) : q_dg T S f g' := D.ext (fun _ _ => rfl) e
theorem s329 {h : q_Hp} {r a l : Nat} {B : q_Bk} {f : Nat → Int32} (X : n_X h B f) (hr : r < bN B 2) (ha : qI h 630 91 = nI a) (hl : qI h 630 92 = nI l) (h1 : l ≤ a) (h2' : a < 2 ^ 30) : q_mI 5 329 [.ref 630, .int (nI r)] h (fun z h' => (q_Ef [630, 691, 692, 695, 696, 699, 700, 701, 702] h h' ∧ ∀ j, ¬ (j = 91 ∨ j = 92 ∨ j = 99) → qI h' 630 j = qI h 630 j) ∧ qA h' 692 = va_cpy (qA h 691) (qA h 692) 0 (156 * (a % 101)) 156 ∧
    ((z = 1 ∧ (∃ n f', 0 < n ∧ m_al B (bR B r) (m_tk (m_M B f (bR B r)) (bR B r 0 0) (12 ^ bR B r 0 0)) f 0 = some (f', n) ∧ q_dg (bN B 0) (bN B 1) f' (qA h' 691)) ∧ qI h' 630 91 = nI (a + 1) ∧ qI h' 630 92 = nI (if a - l = 100 then l + 1 else l)) ∨
     (z = 0 ∧ (∃ f', m_al B (bR B r) (m_tk (m_M B f (bR B r)) (bR B r 0 0) (12 ^ bR B r 0 0)) f 0 = some (f', 0) ∧ q_dg (bN B 0) (bN B 1) f' (qA h' 691)) ∧ qI h' 630 91 = nI a ∧ qI h' 630 92 = nI l) ∨
     (z = -3 ∧ m_al B (bR B r) (m_tk (m_M B f (bR B r)) (bR B r 0 0) (12 ^ bR B r 0 0)) f 0 = none ∧ (∀ i, i < 156 → qA h' 691 i = qA h 691 i) ∧ qI h' 630 91 = nI a ∧ qI h' 630 92 = nI l))) := by
  have S := X.1
  have w := X.2.1
  have D := X.2.2.2
  have h20 : r < 20 := by have := w.2.2.1; omega
  have wr : q_wR B (bR B r) := w.2.2.2.2.2.2.2.2.2.2 r hr
  have h4 : bR B r 0 0 ≤ 4 := wr.1
  have mx := m_M_ext D.1 w wr
  have rk : (nI r).toNatClampNeg = r := nI_clamp (by omega)
  have am : a % 101 < 101 := Nat.mod_lt _ (by decide)
  generalize hN : bR B r 0 0 = N at *
  generalize hM : m_M B f (bR B r) = M at *
  refine q_mI.of (q_recV rfl (S.ok rfl)) (fun Q fin => ?_)
  -- at each of what is taken
  have P3 : ∀ T ha1, T = m_tk M N (12 ^ N) → T.length ≤ 12 → (q_Ef [630, 692, 695, 696, 699, 702] h ha1 ∧ ∀ j, ¬ j = 99 → qI ha1 630 j = qI h 630 j) → qA ha1 692 = va_cpy (qA h 691) (qA h 692) 0 (156 * (a % 101)) 156 → (∀ m i, m < T.length → i < N → qA ha1 702 (4 * m + i) = nI (m_im N (T.getD m 0) i)) → ∀ m i n (x3 : Int32) h2 f2 l6 l7, i + m = T.length → (q_Ef [630, 691, 695, 696, 699, 700, 701] ha1 h2 ∧ ∀ j, ¬ j = 99 → qI h2 630 j = qI ha1 630 j) → n_X h2 B f2 → m_al B (bR B r) T f 0 = m_al B (bR B r) (T.drop i) f2 n → n ≤ i → q_wp 5 329 199 [some (.ref 630), some (.int (nI r)), some (.int (nI T.length)), some (.int x3), some (.int (nI n)), some (.int (nI i)), l6, l7] [] h2 Q := by
    intro T ha1 hT hTl ea a692 at0 m
    induction m with
    | zero =>
      intro i n x3 h2 f2 l6 l7 hi e X2 al hni
      obtain rfl : i = T.length := by omega
      have S2 := X2.1
      rw [l_drop_e] at al
      have al : m_al B (bR B r) T f 0 = some (f2, n) := al
      rw [hT] at al
      have e9 : q_Ef [630, 691, 692, 695, 696, 699, 700, 701, 702] h h2 := (ea.1.wide (by decide)).trans (e.1.wide (by decide))
      have j9 : ∀ j, ¬ j = 99 → qI h2 630 j = qI h 630 j := fun j hj => (e.2 j hj).trans (ea.2 j hj)
      have d692 : qA h2 692 = va_cpy (qA h 691) (qA h 692) 0 (156 * (a % 101)) 156 := (e.1.A (by decide)).trans a692
      refine b329_199 (fun _ => b329_289 (fun c1 => ?_) (fun c1 => b329_294 (fin _ _ ⟨⟨e9, fun j hj => j9 j (by omega)⟩, d692, Or.inr (Or.inl ⟨rfl, ⟨f2, ?_, X2.2.2.2⟩, (j9 91 (by decide)).trans ha, (j9 92 (by decide)).trans hl⟩)⟩))) (fun h9 => absurd (Int32.le_refl _) h9)
      · refine b329_296 (s327 (a := a) (l := l) S2 ((j9 91 (by decide)).trans ha) ((j9 92 (by decide)).trans hl) h1 h2') (by decide) ?_
        rintro h3 ⟨e3, i3, p5, p6⟩
        refine b329_300 (fin _ _ ⟨⟨e9.trans (e3.wide (by decide)), fun j hj => (i3 j (by omega)).trans (j9 j (by omega))⟩, (e3.A (by decide)).trans d692, Or.inl ⟨rfl, ⟨n, f2, ?_, al, ?_⟩, p5, p6⟩⟩)
        · rcases Nat.eq_zero_or_pos n with h9 | h9
          · rw [h9] at c1; exact absurd rfl c1
          · exact h9
        · rw [e3.A (show 691 ∉ [630] by decide)]
          exact X2.2.2.2
      · rw [(nI_eq (b := 0) (by omega) (by decide)).mp c1] at al
        exact al
    | succ m ih =>
      intro i n x3 h2 f2 l6 l7 hi e X2 al hni
      have S2 := X2.1
      rw [l_drop (show i < T.length by omega)] at al
      -- the nodes come back
      have inner : ∀ m2 k h3 l7, k + m2 = 4 → q_Ef [695] h2 h3 → (∀ j, j < k → j < N → qA h3 695 j = nI (m_im N (T.getD i 0) j)) → q_wp 5 329 208 [some (.ref 630), some (.int (nI r)), some (.int (nI T.length)), some (.int x3), some (.int (nI n)), some (.int (nI i)), some (.int (nI k)), l7] [] h3 Q := by
        intro m2
        induction m2 with
        | zero =>
          intro k h3 l7 hk e3 g3
          obtain rfl : k = 4 := by omega
          have X3 : n_X h3 B f2 := X2.fr e3 rfl (fun i _ => congrFun (e3.I (by decide)) _)
          have n3 : n_nd h3 N (m_im N (T.getD i 0)) := fun j hj => ⟨g3 j (by omega) hj, m_im_lt⟩
          have s314' := s314 X3 hr (by rw [hN]; exact n3)
          refine b329_208 (fun _ => b329_239 s314' (by decide) ?_) (fun h9 => absurd (Int32.le_refl _) h9)
          rintro z h5 ⟨e5, c5, rfl, g5⟩
          have mex : (∃ L, m_ma B (qA h3 691) (m_im N (T.getD i 0)) (bR B r) L) ↔ ∃ L, m_ma B f2 (m_im N (T.getD i 0)) (bR B r) L := exists_congr (fun L => m_ma_ext X3.2.2.2.1 w wr (fun i _ => m_im_lt))
          have X5 := X3.of e5
          have e6 : q_Ef [630, 691, 695, 696, 699, 700, 701] ha1 h5 ∧ ∀ j, ¬ j = 99 → qI h5 630 j = qI ha1 630 j := ⟨(e.1.trans (e3.wide (by decide))).trans (e5.1.wide (by decide)), fun j hj => (e5.2 j hj).trans ((congrFun (e3.I (by decide)) j).trans (e.2 j hj))⟩
          refine b329_244 (fun c1 => ?_) (fun c1 => b329_247 (b329_283 ?_))
          · obtain ⟨L, ma'⟩ := m_dc_t.mp (b2i_ne.mp c1)
            have ma : m_ma B f2 (m_im N (T.getD i 0)) (bR B r) L := (m_ma_ext X3.2.2.2.1 w wr (fun i _ => m_im_lt)).mp ma'
            have lk := g5 L ma'
            have n5 : n_nd h5 (bR B r 0 0) (m_im N (T.getD i 0)) := by
              rw [hN]
              exact n3.f4 h4 c5
            refine b329_250 (s326 X5 hr n5 ma lk) (by decide) ?_
            rintro z h6 ⟨e7, hz⟩
            have e8 : q_Ef [630, 691, 695, 696, 699, 700, 701] ha1 h6 ∧ ∀ j, ¬ j = 99 → qI h6 630 j = qI ha1 630 j := ⟨e6.1.trans (e7.1.wide (by decide)), fun j hj => (e7.2 j hj).trans (e6.2 j hj)⟩
            rcases hz with ⟨rfl, ok, g6⟩ | ⟨rfl, nok, g6⟩
            · have D6 := ((m_iv_all (val := m_vl B f2 (m_im N (T.getD i 0)) (bR B r)) X5.2.2.2 w wr (fun i _ => m_im_lt) ma ok.2 (bR B r 0 4) (Nat.le_refl _)).1).1
              rw [← hN] at ma ok
              rw [m_al_y ma ok] at al
              rw [hN] at al
              refine b329_255 (fun _ => b329_280 (b329_283 ?_)) (fun h9 => absurd h9 (by decide))
              rw [nI_1, nI_1]
              refine ih (i + 1) (n + 1) _ h6 _ _ _ (by omega) e8 ?_ al (by omega)
              refine X5.row e7.1 rfl (fun i hi => e7.2 _ (by omega)) ?_
              rw [g6]
              exact D6
            · rw [← hN] at ma nok
              rw [m_al_b ma nok, hT] at al
              have S6 := e8.1.sh (ea.1.sh S)
              have j91 : qI h6 630 91 = nI a := (e8.2 91 (by decide)).trans ((ea.2 91 (by decide)).trans ha)
              have d692 : qA h6 692 = va_cpy (qA h 691) (qA h 692) 0 (156 * (a % 101)) 156 := (e8.1.A (by decide)).trans a692
              have hc93 : q_mV 0 293 [.ref 630, .ref 692, .int (156 * ((qI h6 630 91) - (qI h6 630 91) / 101 * 101))] h6 (fun h' => h' = q_wA h6 691 (va_cpy (qA h6 692) (qA h6 691) (156 * (a % 101)) 0 156)) := by
                rw [j91, m_101 h2']
                exact s293 S6 (S6.ok rfl) (S6.len (n := 15756) rfl) (by omega) (by decide) (by decide)
              refine b329_255 (fun h9 => absurd rfl h9) (fun _ => b329_258 (S6.ok rfl) (S6.ref (v := 692) rfl) (by decide) hc93 (by decide) ?_)
              rintro h7 rfl
              have e9 : q_Ef [691] h6 (q_wA h6 691 (va_cpy (qA h6 692) (qA h6 691) (156 * (a % 101)) 0 156)) := q_Ef.wA (by decide)
              have a9 : qA (q_wA h6 691 (va_cpy (qA h6 692) (qA h6 691) (156 * (a % 101)) 0 156)) 691 = va_cpy (qA h6 692) (qA h6 691) (156 * (a % 101)) 0 156 := qA_wAs _ _ _
              generalize q_wA h6 691 (va_cpy (qA h6 692) (qA h6 691) (156 * (a % 101)) 0 156) = h7 at e9 a9
              have j9 : ∀ j, ¬ j = 99 → qI h7 630 j = qI h 630 j := fun j hj => (congrFun (e9.I (by decide)) j).trans ((e8.2 j hj).trans (ea.2 j hj))
              refine b329_277 (fin _ _ ⟨⟨((ea.1.wide (by decide)).trans (e8.1.wide (by decide))).trans (e9.wide (by decide)), fun j hj => j9 j (by omega)⟩, (e9.A (by decide)).trans d692, Or.inr (Or.inr ⟨rfl, al, fun j hj => ?_, (j9 91 (by decide)).trans ha, (j9 92 (by decide)).trans hl⟩)⟩)
              rw [a9, d692]
              have v1 := va_cpy_in (f := va_cpy (qA h 691) (qA h 692) 0 (156 * (a % 101)) 156) (g := qA h6 691) (sp := 156 * (a % 101)) (dp := 0) hj
              rw [Nat.zero_add] at v1
              rw [v1, va_cpy_in hj, Nat.zero_add]
          · have hno := mt mex.mpr (m_dc_f.mp (b2i_eq.mp c1))
            rw [← hN] at hno
            rw [m_al_n hno] at al
            rw [nI_1]
            exact ih (i + 1) n _ h5 f2 _ _ (by omega) e6 X5 al (by omega)
        | succ m2 ih2 =>
          intro k h3 l7 hk e3 g3
          have S3 := e3.sh S2
          have ek : (4 : Int32) * nI i + nI k = nI (4 * i + k) := by rw [m_lt4, nI_add]
          have e702 : qA h3 702 = qA ha1 702 := (e3.A (by decide)).trans (e.1.A (by decide))
          refine b329_208 (fun h9 => absurd ((nI_gec (k := 4) (by omega) (by decide) rfl).mp h9) (by omega)) (fun _ => b329_214 (S3.ok rfl) (S3.ref (v := 695) rfl) (S3.ref (v := 702) rfl) (S3.ok rfl) (by rw [ek]; exact S3.inN (n := 60) rfl (by omega) (by decide)) (S3.ok rfl) (S3.inN (n := 5) rfl (by omega) (by decide)) ?_)
          rw [ek, nI_1, nI_clamp (show k < 2 ^ 31 by omega), nI_clamp (show 4 * i + k < 2 ^ 31 by omega)]
          refine ih2 (k + 1) _ _ (by omega) (e3.trans (q_Ef.sA (by decide))) (fun j hj hjN => ?_)
          rw [qA_sAu]
          by_cases h9 : j = k
          · rw [h9, upd_eq, e702]
            exact at0 i k (by omega) (by omega)
          · rw [upd_ne h9]
            exact g3 j (by omega) hjN
      exact b329_199 (fun h9 => absurd ((nI_leI (by omega) (by omega)).mp h9) (by omega)) (fun _ => b329_205 (inner 4 0 h2 _ rfl q_Ef.rf (fun j hj => absurd hj (Nat.not_lt_zero _))))
  -- the shot
  have P2 : ∀ T h2 l4 l5 l6 l7, T = m_tk M N (12 ^ N) → T.length ≤ 12 → (q_Ef [630, 695, 696, 699, 702] h h2 ∧ ∀ j, ¬ j = 99 → qI h2 630 j = qI h 630 j) → (∀ m i, m < T.length → i < N → qA h2 702 (4 * m + i) = nI (m_im N (T.getD m 0) i)) → q_wp 5 329 12 [some (.ref 630), some (.int (nI r)), some (.int (nI T.length)), some (.int 0), l4, l5, l6, l7] [] h2 Q := by
    intro T h2 l4 l5 l6 l7 hT hTl e ct
    have S2 := e.1.sh S
    have j91 : qI h2 630 91 = nI a := (e.2 91 (by decide)).trans ha
    refine b329_12 (fun _ => b329_174 (S2.ok rfl) (S2.ref (v := 692) rfl) (by decide) (s292s S2 j91 h2') (by decide) ?_) (fun h9 => absurd rfl h9)
    rintro h3 rfl
    have e3 : q_Ef [692] h2 (q_wA h2 692 (va_cpy (qA h2 691) (qA h2 692) 0 (156 * (a % 101)) 156)) := q_Ef.wA (by decide)
    have a3 : qA (q_wA h2 692 (va_cpy (qA h2 691) (qA h2 692) 0 (156 * (a % 101)) 156)) 692 = va_cpy (qA h 691) (qA h 692) 0 (156 * (a % 101)) 156 := by
      rw [qA_wAs, e.1.A (show 691 ∉ [630, 695, 696, 699, 702] by decide), e.1.A (show 692 ∉ [630, 695, 696, 699, 702] by decide)]
    generalize q_wA h2 692 (va_cpy (qA h2 691) (qA h2 692) 0 (156 * (a % 101)) 156) = h3 at e3 a3
    have e4 : q_Ef [630, 692, 695, 696, 699, 702] h h3 := (e.1.wide (by decide)).trans (e3.wide (by decide))
    have j4 : ∀ j, ¬ j = 99 → qI h3 630 j = qI h 630 j := fun j hj => (congrFun (e3.I (by decide)) j).trans (e.2 j hj)
    refine b329_193 (P3 T h3 hT hTl ⟨e4, j4⟩ a3 (by rw [e3.A (show 702 ∉ [692] by decide)]; exact ct) T.length 0 0 0 h3 f _ _ (by omega) ⟨q_Ef.rf, fun _ _ => rfl⟩ (X.fr e4 ?_ (fun i hi => j4 _ (by omega))) rfl (Nat.le_refl _))
    rfl
  -- what is taken
  have P1 : ∀ m v h2 l4 l5 l6 l7, v + m = 12 ^ N → (q_Ef [630, 695, 696, 699, 702] h h2 ∧ ∀ j, ¬ j = 99 → qI h2 630 j = qI h 630 j) → n_at h2 N v → M v = true → (∀ m i, m < (m_tk M N v).length → i < N → qA h2 702 (4 * m + i) = nI (m_im N ((m_tk M N v).getD m 0) i)) → q_wp 5 329 12 [some (.ref 630), some (.int (nI r)), some (.int (nI (m_tk M N v).length)), some (.int 1), l4, l5, l6, l7] [] h2 Q := by
    intro m
    induction m using Nat.strongRecOn with
    | _ m ih =>
      intro v h2 l4 l5 l6 l7 hv e n2 hMv ct
      have S2 := e.1.sh S
      have hv2 := n2.2
      have tl := m_tk_le (M := M) (N := N) (v := v) (by omega)
      have tl1 := m_tk_le (M := M) (N := N) (v := v + 1) (by omega)
      generalize hT : m_tk M N v = T at *
      have X2 : n_X h2 B f := X.fr e.1 rfl (fun i hi => e.2 _ (by omega))
      have e41 : qA h2 641 (nI r).toNatClampNeg = nI N := by rw [rk, ← hN]; exact (X2.2.2.1.2.2.2.2.2.2 r hr).1
      have ir : ∀ h', q_Sh h' → ∀ c, ((decide (c ≤ 712) && (q_kd0 c).2 == 40) = true) → q_in (nI r) (qK h' c).2 := fun h' S' c h9 => S'.inN (n := 40) h9 (by omega) (by decide)
      -- on to the next match
      have next : ∀ h3 x4 x5 l6 l7, (q_Ef [630, 695, 696, 699, 702] h h3 ∧ ∀ j, ¬ j = 99 → qI h3 630 j = qI h 630 j) → qA h3 695 = qA h2 695 → (∀ m i, m < (m_tk M N (v + 1)).length → i < N → qA h3 702 (4 * m + i) = nI (m_im N ((m_tk M N (v + 1)).getD m 0) i)) → q_wp 5 329 149 [some (.ref 630), some (.int (nI r)), some (.int (nI (m_tk M N (v + 1)).length)), some (.int 1), some (.int x4), some (.int x5), l6, l7] [] h3 Q := by
        intro h3 x4 x5 l6 l7 e3 e95 ct3
        have X3 : n_X h3 B f := X.fr e3.1 rfl (fun i hi => e3.2 _ (by omega))
        have n3 : n_nd h3 (bR B r 0 0) (m_im (bR B r 0 0) v) := by
          rw [hN]
          exact n2.1.fs e95
        have fin3 : ∀ h5 l4 l5 l6 l7, (q_Ef [630, 695, 696, 699] h3 h5 ∧ ∀ j, ¬ j = 99 → qI h5 630 j = qI h3 630 j) → m_tk M N (12 ^ N) = m_tk M N (v + 1) → q_wp 5 329 12 [some (.ref 630), some (.int (nI r)), some (.int (nI (m_tk M N (v + 1)).length)), some (.int 0), l4, l5, l6, l7] [] h5 Q := by
          intro h5 l4 l5 l6 l7 e5 et
          refine P2 _ h5 _ _ _ _ et.symm tl1 ⟨e3.1.trans (e5.1.wide (by decide)), fun j hj => (e5.2 j hj).trans (e3.2 j hj)⟩ ?_
          rw [e5.1.A (show 702 ∉ [630, 695, 696, 699] by decide)]
          exact ct3
        refine b329_149 (s319 X3 hr n3 (by rw [hN]; exact hv2)) (by decide) ?_
        rintro z h5 ⟨e5, hz⟩
        rw [hN] at hz
        rcases hz with ⟨rfl, h9, n5⟩ | ⟨rfl, h9⟩
        · have X5 := X3.of e5
          refine b329_154 (fun h9 => absurd h9 (by decide)) (fun _ => b329_157 (s320 X5 hr (by rw [hN]; exact ⟨n5, h9⟩)) (by decide) ?_)
          rintro z h6 ⟨e6, rfl, g6⟩
          have f5 : qA h5 691 = qA h 691 := (e5.A (by decide)).trans (e3.1.A (by decide))
          rw [f5, mx, hN] at g6 ⊢
          have e7 := e5.trans e6
          cases hq : q_fst M (v + 1) (12 ^ N - (v + 1)) with
          | none =>
            refine b329_162 (fun _ => b329_169 (b329_170 (fin3 h6 _ _ _ _ e7 ?_))) (fun h9 => absurd rfl h9)
            have := m_tk_skip (M := M) (N := N) (s := v + 1) (12 ^ N - (v + 1)) ((q_fst_none _ _).mp hq)
            rw [show v + 1 + (12 ^ N - (v + 1)) = 12 ^ N by omega] at this
            exact this
          | some u =>
            have hu := (q_fst_some _ _ _).mp hq
            obtain ⟨n6, _⟩ := g6 u hq
            have tu : m_tk M N u = m_tk M N (v + 1) := by
              have := m_tk_skip (M := M) (N := N) (s := v + 1) (u - (v + 1)) (fun y h1 h2 => hu.2.2.2 y h1 (by omega))
              rw [show v + 1 + (u - (v + 1)) = u by omega] at this
              exact this
            refine b329_162 (fun h9 => absurd (show (1 : Int32) = 0 from h9) (by decide)) (fun _ => b329_165 (b329_170 ?_))
            rw [← tu]
            refine ih (12 ^ N - u) (by omega) u h6 _ _ _ _ (by omega) ⟨e3.1.trans (e7.1.wide (by decide)), fun j hj => (e7.2 j hj).trans (e3.2 j hj)⟩ n6 hu.2.2.1 ?_
            rw [tu, e7.1.A (show 702 ∉ [630, 695, 696, 699] by decide)]
            exact ct3
        · refine b329_154 (fun _ => b329_169 (b329_170 (fin3 h5 _ _ _ _ e5 ?_))) (fun h9 => absurd rfl h9)
          rw [h9]
      -- is it apart
      have ev : ∀ m k j, m < T.length → k < N → j < N → qA h2 702 (4 * m + k) = nI (m_im N (T.getD m 0) k) ∧ qA h2 695 j = nI (m_im N v j) := fun m k j hm hk hj => ⟨ct m k hm hk, (n2.1 j hj).1⟩
      have done : ∀ x4 x5 l6 l7, x4 = b2i (m_dc (∀ m, m < T.length → ∀ k, k < N → ∀ j, j < N → ¬ m_im N (T.getD m 0) k = m_im N v j)) → q_wp 5 329 108 [some (.ref 630), some (.int (nI r)), some (.int (nI T.length)), some (.int 1), some (.int x4), some (.int x5), l6, l7] [] h2 Q := by
        intro x4 x5 l6 l7 hx4
        have eqv : (∀ m, m < T.length → ∀ k, k < N → ∀ j, j < N → ¬ m_im N (T.getD m 0) k = m_im N v j) ↔ ∀ y, y ∈ T → m_dj N v y := by
          constructor
          · intro h9 y hy i j hi hj
            obtain ⟨m, hm, em⟩ := m_mem_get hy
            rw [← em]
            exact h9 m hm i hi j hj
          · intro h9 m hm k hk j hj
            exact h9 _ (m_get_mem hm) k j hk hj
        refine b329_108 (fun c1 => ?_) (fun c1 => b329_113 ?_)
        · rw [hx4] at c1
          have tn : m_tk M N (v + 1) = T := by
            rw [m_tk_n, hT]
            rintro ⟨_, h9⟩
            rw [hT] at h9
            exact m_dc_f.mp (b2i_eq.mp c1) (eqv.mpr h9)
          have := next h2 x4 x5 l6 l7 e rfl (by rw [tn]; exact ct)
          rw [tn] at this
          exact this
        · rw [hx4] at c1
          have ap := eqv.mp (m_dc_t.mp (b2i_ne.mp c1))
          have ty : m_tk M N (v + 1) = T ++ [v] := by
            rw [m_tk_y, hT]
            exact ⟨hMv, by rw [hT]; exact ap⟩
          have tll : T.length + 1 ≤ 12 := by
            rw [ty, List.length_append] at tl1
            exact tl1
          have inner : ∀ m2 k h3, k + m2 = 4 → q_Ef [702] h2 h3 → (∀ j, j < k → j < N → qA h3 702 (4 * T.length + j) = nI (m_im N v j)) → (∀ x, x < 4 * T.length → qA h3 702 x = qA h2 702 x) → q_wp 5 329 116 [some (.ref 630), some (.int (nI r)), some (.int (nI T.length)), some (.int 1), some (.int x4), some (.int (nI k)), l6, l7] [] h3 Q := by
            intro m2
            induction m2 with
            | zero =>
              intro k h3 hk e3 p1 p2
              obtain rfl : k = 4 := by omega
              refine b329_116 (fun _ => b329_146 ?_) (fun h9 => absurd (Int32.le_refl _) h9)
              rw [nI_1]
              have := next h3 x4 (nI 4) l6 l7 ⟨e.1.trans (e3.wide (by decide)), fun j hj => (congrFun (e3.I (by decide)) j).trans (e.2 j hj)⟩ (e3.A (by decide)) (fun m3 i3 hm3 hi3 => by
                rw [ty] at hm3 ⊢
                rw [List.length_append] at hm3
                have hm3 : m3 < T.length + 1 := hm3
                by_cases h9 : m3 = T.length
                · rw [h9, m_ge]
                  exact p1 i3 (by omega) hi3
                · rw [m_gd (by omega), p2 _ (by omega)]
                  exact ct m3 i3 (by omega) hi3)
              rw [ty, List.length_append] at this
              exact this
            | succ m2 ih2 =>
              intro k h3 hk e3 p1 p2
              have S3 := e3.sh S2
              have ek : (4 : Int32) * nI T.length + nI k = nI (4 * T.length + k) := by rw [m_lt4, nI_add]
              refine b329_116 (fun h9 => absurd ((nI_gec (k := 4) (by omega) (by decide) rfl).mp h9) (by omega)) (fun _ => b329_122 (S3.ok rfl) (S3.ref (v := 702) rfl) (S3.ref (v := 695) rfl) (S3.ok rfl) (S3.inN (n := 5) rfl (by omega) (by decide)) (S3.ok rfl) (by rw [ek]; exact S3.inN (n := 60) rfl (by omega) (by decide)) ?_)
              rw [ek, nI_1, nI_clamp (show k < 2 ^ 31 by omega), nI_clamp (show 4 * T.length + k < 2 ^ 31 by omega), e3.A (show 695 ∉ [702] by decide)]
              have q3 : qA (q_sA h3 702 (4 * T.length + k) (qA h2 695 k)) 702 = upd (qA h3 702) (4 * T.length + k) (qA h2 695 k) := qA_sAu _ _ _ _
              refine ih2 (k + 1) _ (by omega) (e3.trans (q_Ef.sA (by decide))) (fun j hj hjN => ?_) (fun x hx => ?_)
              · rw [q3]
                by_cases h9 : j = k
                · rw [h9, upd_eq]
                  exact (n2.1 k (by omega)).1
                · rw [upd_ne (by omega)]
                  exact p1 j (by omega) hjN
              · rw [q3, upd_ne (by omega)]
                exact p2 x hx
          exact inner 4 0 h2 rfl q_Ef.rf (fun j hj => absurd hj (Nat.not_lt_zero _)) (fun _ _ => rfl)
      have L45 : ∀ m2 j x4 (R : Prop) x5 x6, j + m2 = N → x5 < T.length → x6 < N → x4 = b2i (m_dc (R ∧ ∀ y, y < j → ¬ m_im N (T.getD x5 0) x6 = m_im N v y)) → (∀ x4' x7, x4' = b2i (m_dc (R ∧ ∀ y, y < N → ¬ m_im N (T.getD x5 0) x6 = m_im N v y)) → q_wp 5 329 96 [some (.ref 630), some (.int (nI r)), some (.int (nI T.length)), some (.int 1), some (.int x4'), some (.int (nI x5)), some (.int (nI x6)), some (.int x7)] [] h2 Q) → q_wp 5 329 45 [some (.ref 630), some (.int (nI r)), some (.int (nI T.length)), some (.int 1), some (.int x4), some (.int (nI x5)), some (.int (nI x6)), some (.int (nI j))] [] h2 Q := by
        intro m2
        induction m2 with
        | zero =>
          intro j x4 R x5 x6 hj h5 h6 hx cont
          obtain rfl : j = N := by omega
          exact b329_45 (S2.ok rfl) (S2.ref (v := 641) rfl) (S2.ok rfl) (ir _ S2 _ rfl) (fun _ => cont x4 _ hx) (fun h9 => absurd (by rw [e41]; exact Int32.le_refl _) h9)
        | succ m2 ih2 =>
          intro j x4 R x5 x6 hj h5 h6 hx cont
          have ek : (4 : Int32) * nI x5 + nI x6 = nI (4 * x5 + x6) := by rw [m_lt4, nI_add]
          obtain ⟨v1, v2⟩ := ev x5 x6 j h5 h6 (by omega)
          have e702 : qA h2 702 (((4 * nI x5) + nI x6 : Int32).toNatClampNeg) = nI (m_im N (T.getD x5 0) x6) := by rw [ek, nI_clamp (by omega)]; exact v1
          have e695 : qA h2 695 (nI j).toNatClampNeg = nI (m_im N v j) := by rw [nI_clamp (by omega)]; exact v2
          have st : ∀ x4', x4' = b2i (m_dc (R ∧ ∀ y, y < j + 1 → ¬ m_im N (T.getD x5 0) x6 = m_im N v y)) → q_wp 5 329 88 [some (.ref 630), some (.int (nI r)), some (.int (nI T.length)), some (.int 1), some (.int x4), some (.int (nI x5)), some (.int (nI x6)), some (.int (nI j))] [.int x4'] h2 Q := by
            intro x4' hx'
            refine b329_88 ?_
            rw [nI_1]
            exact ih2 (j + 1) x4' R x5 x6 (by omega) h5 h6 hx' cont
          refine b329_45 (S2.ok rfl) (S2.ref (v := 641) rfl) (S2.ok rfl) (ir _ S2 _ rfl) (fun h9 => absurd ((nI_leI (by omega) (by omega)).mp (e41 ▸ h9)) (by omega)) (fun _ => b329_56 (fun c1 => b329_87 (st 0 ?_)) (fun c1 => b329_61 (S2.ok rfl) (S2.ref (v := 702) rfl) (S2.ok rfl) (by rw [ek]; exact S2.inN (n := 60) rfl (by omega) (by decide)) (S2.ref (v := 695) rfl) (S2.ok rfl) (S2.inN (n := 5) rfl (by omega) (by decide)) (fun c2 => b329_87 (st 0 ?_)) (fun c2 => b329_83 (st 1 ?_))))
          · rw [hx] at c1
            rw [m_dc_f.mpr]
            · rfl
            · rintro ⟨h9, h8⟩
              exact m_dc_f.mp (b2i_eq.mp c1) ⟨h9, fun y hy => h8 y (by omega)⟩
          · rw [e702, e695] at c2
            have hlt : m_im N (T.getD x5 0) x6 < 12 := m_im_lt
            have hlt2 : m_im N v j < 12 := m_im_lt
            have c3 := (nI_eq (by omega) (by omega)).mp c2
            rw [m_dc_f.mpr]
            · rfl
            · rintro ⟨_, h8⟩
              exact h8 j (by omega) c3
          · rw [e702, e695] at c2
            rw [hx] at c1
            have h9 := m_dc_t.mp (b2i_ne.mp c1)
            rw [m_dc_t.mpr]
            · rfl
            · refine ⟨h9.1, fun y hy => ?_⟩
              by_cases h8 : y = j
              · rw [h8]
                exact fun h7 => c2 (by rw [h7])
              · exact h9.2 y (by omega)
      have L31 : ∀ m2 k x4 (R : Prop) x5 l7, k + m2 = N → x5 < T.length → x4 = b2i (m_dc (R ∧ ∀ y, y < k → ∀ j, j < N → ¬ m_im N (T.getD x5 0) y = m_im N v j)) → (∀ x4' x6 l7, x4' = b2i (m_dc (R ∧ ∀ y, y < N → ∀ j, j < N → ¬ m_im N (T.getD x5 0) y = m_im N v j)) → q_wp 5 329 102 [some (.ref 630), some (.int (nI r)), some (.int (nI T.length)), some (.int 1), some (.int x4'), some (.int (nI x5)), some (.int x6), l7] [] h2 Q) → q_wp 5 329 31 [some (.ref 630), some (.int (nI r)), some (.int (nI T.length)), some (.int 1), some (.int x4), some (.int (nI x5)), some (.int (nI k)), l7] [] h2 Q := by
        intro m2
        induction m2 with
        | zero =>
          intro k x4 R x5 l7 hk h5 hx cont
          obtain rfl : k = N := by omega
          exact b329_31 (S2.ok rfl) (S2.ref (v := 641) rfl) (S2.ok rfl) (ir _ S2 _ rfl) (fun _ => cont x4 _ _ hx) (fun h9 => absurd (by rw [e41]; exact Int32.le_refl _) h9)
        | succ m2 ih2 =>
          intro k x4 R x5 l7 hk h5 hx cont
          refine b329_31 (S2.ok rfl) (S2.ref (v := 641) rfl) (S2.ok rfl) (ir _ S2 _ rfl) (fun h9 => absurd ((nI_leI (by omega) (by omega)).mp (e41 ▸ h9)) (by omega)) (fun _ => b329_42 (L45 N 0 x4 (R ∧ ∀ y, y < k → ∀ j, j < N → ¬ m_im N (T.getD x5 0) y = m_im N v j) x5 k (by omega) h5 (by omega) ?_ (fun x4' x7 hx' => b329_96 ?_)))
          · rw [hx]
            congr 1
            rw [Bool.eq_iff_iff, m_dc_t, m_dc_t]
            exact ⟨fun h9 => ⟨h9, fun y hy => absurd hy (Nat.not_lt_zero _)⟩, fun h9 => h9.1⟩
          · rw [nI_1]
            refine ih2 (k + 1) x4' R x5 _ (by omega) h5 ?_ cont
            rw [hx']
            congr 1
            rw [Bool.eq_iff_iff, m_dc_t, m_dc_t]
            constructor
            · rintro ⟨⟨h9, h8⟩, h7⟩
              refine ⟨h9, fun y hy => ?_⟩
              by_cases h6 : y = k
              · rw [h6]; exact h7
              · exact h8 y (by omega)
            · rintro ⟨h9, h8⟩
              exact ⟨⟨h9, fun y hy => h8 y (by omega)⟩, h8 k (by omega)⟩
      have L22 : ∀ m2 i x4 l6 l7, i + m2 = T.length → x4 = b2i (m_dc (∀ m, m < i → ∀ k, k < N → ∀ j, j < N → ¬ m_im N (T.getD m 0) k = m_im N v j)) → q_wp 5 329 22 [some (.ref 630), some (.int (nI r)), some (.int (nI T.length)), some (.int 1), some (.int x4), some (.int (nI i)), l6, l7] [] h2 Q := by
        intro m2
        induction m2 with
        | zero =>
          intro i x4 l6 l7 hi hx
          obtain rfl : i = T.length := by omega
          exact b329_22 (fun _ => done x4 _ _ _ hx) (fun h9 => absurd (Int32.le_refl _) h9)
        | succ m2 ih2 =>
          intro i x4 l6 l7 hi hx
          refine b329_22 (fun h9 => absurd ((nI_leI (by omega) (by omega)).mp h9) (by omega)) (fun _ => b329_28 (L31 N 0 x4 (∀ m, m < i → ∀ k, k < N → ∀ j, j < N → ¬ m_im N (T.getD m 0) k = m_im N v j) i _ (by omega) (by omega) ?_ (fun x4' x6 l7 hx' => b329_102 ?_)))
          · rw [hx]
            congr 1
            rw [Bool.eq_iff_iff, m_dc_t, m_dc_t]
            exact ⟨fun h9 => ⟨h9, fun y hy => absurd hy (Nat.not_lt_zero _)⟩, fun h9 => h9.1⟩
          · rw [nI_1]
            refine ih2 (i + 1) x4' _ _ (by omega) ?_
            rw [hx']
            congr 1
            rw [Bool.eq_iff_iff, m_dc_t, m_dc_t]
            constructor
            · rintro ⟨h9, h8⟩ m hm
              by_cases h6 : m = i
              · rw [h6]; exact h8
              · exact h9 m (by omega)
            · exact fun h9 => ⟨fun m hm => h9 m (by omega), h9 i (by omega)⟩
      refine b329_12 (fun h9 => absurd h9 (by decide)) (fun _ => b329_16 (L22 T.length 0 1 _ _ (by omega) ?_))
      rw [m_dc_t.mpr (fun m hm => absurd hm (Nat.not_lt_zero _))]
      rfl
  refine b329_0 (s318 S) (by decide) ?_
  rintro hb ⟨e1, g1⟩
  have Xb := X.of e1
  have fb : qA hb 691 = qA h 691 := e1.A (by decide)
  refine b329_6 (s320 Xb hr (by rw [hN]; exact n_at_0 h4 g1)) (by decide) ?_
  rintro z hc ⟨e2, rfl, g2⟩
  rw [fb, mx, hN] at g2 ⊢
  have e3 := e1.trans e2
  cases hv : q_fst M 0 (12 ^ N - 0) with
  | none =>
    refine b329_11 (P2 [] hc _ _ _ _ ?_ (Nat.zero_le _) ⟨e3.1.wide (by decide), e3.2⟩ (fun m i hm => absurd hm (Nat.not_lt_zero _)))
    have := m_tk_skip (M := M) (N := N) (s := 0) (12 ^ N) (fun y h1 h2 => (q_fst_none _ _).mp hv y h1 (by rw [Nat.sub_zero]; exact h2))
    rw [Nat.zero_add] at this
    rw [this]
    rfl
  | some v =>
    obtain ⟨n1, _⟩ := g2 v hv
    have hv2 := (q_fst_some _ _ _).mp hv
    have tv : m_tk M N v = [] := by
      have := m_tk_skip (M := M) (N := N) (s := 0) v (fun y h1 h2 => hv2.2.2.2 y h1 (by omega))
      rw [Nat.zero_add] at this
      rw [this]
      rfl
    refine b329_11 ?_
    have := P1 (12 ^ N - v) v hc none none none none (by have := n1.2; omega) ⟨e3.1.wide (by decide), e3.2⟩ n1 hv2.2.2.1 (by rw [tv]; exact fun m i hm => absurd hm (Nat.not_lt_zero _))
    rw [tv] at this
    exact this
