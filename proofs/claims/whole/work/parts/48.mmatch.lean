/-! THE REFERENCE'S MATCHER: the whole of a match -/
theorem m_lt4 (r : Nat) : (4 : Int32) * nI r = nI (4 * r) := pk_mul 4 r
theorem m_lt6 (r : Nat) : (6 : Int32) * nI r = nI (6 * r) := pk_mul 6 r
theorem m_lt2 (r : Nat) : (2 : Int32) * nI r = nI (2 * r) := pk_mul 2 r
theorem m_lt8 (r : Nat) : (8 : Int32) * nI r = nI (8 * r) := pk_mul 8 r
theorem m_cg_ma {B : q_Bk} {f : Nat → Int32} {im : Nat → Nat} {V : Nat → Nat → Nat} {L : List Nat} (wr : q_wR B V) (a1 : ∀ i, i < V 0 0 → m_tt B f (nI (V 1 i)) (im i)) (a2 : ∀ i j, i < j → j < V 0 0 → V 0 5 = 0 → ¬ im i = im j) (a3 : m_rl f im V = some L) (a4 : ∀ t, t < V 0 3 → m_ts B f im V t) (a5 : ∀ n, n < V 0 2 → ¬ m_no B f im V L n) (a6 : ∀ d, d < V 0 4 → V 13 d = 0 → m_cg f im V L (V 14 d)) : m_ma B f im V L := by
  refine ⟨a1, fun i j h1 h2 h3 => ⟨fun h4 => a2 i j h1 h2 h4 h3, ?_, ?_⟩, a3, a4, ?_, a5⟩
  · rintro ⟨d, d1, d2, d3⟩
    have := (a6 d d1 d2).1 j h2
    rw [d3] at this
    exact this (by omega) h3.symm
  · rintro ⟨d, d1, d2, d3⟩
    have := (a6 d d1 d2).1 i (by omega)
    rw [d3] at this
    exact this (by omega) h3
  · rintro ⟨l, l1, l2, l3, i, i1, ⟨d, d1, d2, d3⟩, i3⟩
    have := (a6 d d1 d2).2 l l1 l2
    rw [d3] at this
    exact l3 (this i3)
theorem m_ma_cg {B : q_Bk} {f : Nat → Int32} {im : Nat → Nat} {V : Nat → Nat → Nat} {L : List Nat} (wr : q_wR B V) (a : m_ma B f im V L) : ∀ d, d < V 0 4 → V 13 d = 0 → m_cg f im V L (V 14 d) := by
  intro d d1 d2
  have hd : m_dl V (V 14 d) := ⟨d, d1, d2, rfl⟩
  have hN := ((wr.2.2.2.2.2.2.2.2.2.2 d d1).2.1 d2).1
  constructor
  · intro k hk hne he
    rcases Nat.lt_or_ge k (V 14 d) with h1 | h1
    · exact (a.2.1 k (V 14 d) h1 hN he).2.2 hd
    · exact (a.2.1 (V 14 d) k (by omega) hk he.symm).2.1 hd
  · intro l l1 l2 l3
    refine Classical.byContradiction (fun h1 => a.2.2.2.2.1 ⟨l, l1, l2, h1, V 14 d, hN, hd, l3⟩)
theorem s314 {h : q_Hp} {im : Nat → Nat} {B : q_Bk} {r : Nat} {f : Nat → Int32} (X : n_X h B f) (hr : r < bN B 2) (hn : n_nd h (bR B r 0 0) im) : q_mI 3 314 [.ref 630, .int (nI r)] h (fun z h' => n_fr h h' ∧ (∀ i, i < 4 → qA h' 695 i = qA h 695 i) ∧ z = b2i (m_dc (∃ L, m_ma B (qA h 691) im (bR B r) L)) ∧ ∀ L, m_ma B (qA h 691) im (bR B r) L → n_lk h' (bR B r 0 1) L) := by
  have S := X.1
  have w := X.2.1
  have h20 : r < 20 := by have := w.2.2.1; omega
  have hT : bN B 0 ≤ 12 := w.1
  have wr : q_wR B (bR B r) := w.2.2.2.2.2.2.2.2.2.2 r hr
  have h4 : bR B r 0 0 ≤ 4 := wr.1
  have h6 : bR B r 0 1 ≤ 6 := wr.2.1
  have h02 : bR B r 0 2 ≤ 2 := wr.2.2.1
  have h03 : bR B r 0 3 ≤ 4 := wr.2.2.2.1
  have h08 : bR B r 0 4 ≤ 8 := wr.2.2.2.2.1
  have h05 : bR B r 0 5 ≤ 1 := wr.2.2.2.2.2.1
  have rk : (nI r).toNatClampNeg = r := nI_clamp (by omega)
  refine q_mI.of (q_recV rfl (S.ok rfl)) (fun Q fin => ?_)
  have bad : ∀ h', n_fr h h' → (∀ i, i < 4 → qA h' 695 i = qA h 695 i) → (∀ L, ¬ m_ma B (qA h 691) im (bR B r) L) → Q (some (.int 0)) h' := by
    intro h' e1 e2 h1
    refine fin _ _ ⟨e1, e2, ?_, fun L h2 => absurd h2 (h1 L)⟩
    rw [m_dc_f.mpr (fun ⟨L, h2⟩ => h1 L h2)]
    rfl
  have ir : ∀ h', q_Sh h' → ∀ c, ((decide (c ≤ 712) && (q_kd0 c).2 == 40) = true) → q_in (nI r) (qK h' c).2 := fun h' S' c h9 => S'.inN (n := 40) h9 (by omega) (by decide)
  -- what a rule deletes
  have pE : ∀ m d h1 l3 L, d + m = bR B r 0 4 → n_fr h h1 → (∀ i, i < 4 → qA h1 695 i = qA h 695 i) → n_lk h1 (bR B r 0 1) L → (∀ i, i < bR B r 0 0 → m_tt B (qA h 691) (nI (bR B r 1 i)) (im i)) → (∀ i j, i < j → j < bR B r 0 0 → bR B r 0 5 = 0 → ¬ im i = im j) → m_rl (qA h 691) im (bR B r) = some L → (∀ t, t < bR B r 0 3 → m_ts B (qA h 691) im (bR B r) t) → (∀ n, n < bR B r 0 2 → ¬ m_no B (qA h 691) im (bR B r) L n) → (∀ e, e < d → bR B r 13 e = 0 → m_cg (qA h 691) im (bR B r) L (bR B r 14 e)) → q_wp 3 314 253 [some (.ref 630), some (.int (nI r)), some (.int (nI (8 * r + d))), l3] [] h1 Q := by
    intro m
    induction m with
    | zero =>
      intro d h1 l3 L hd e e5 eL a1 a2 a3 a4 a5 a6
      obtain rfl : d = bR B r 0 4 := by omega
      have X1 := X.of e
      have S1 := X1.1
      have mR := X1.2.2.1.2.2.2.2.2.2 r hr
      have e59 : 8 * nI r + qA h1 659 (nI r).toNatClampNeg = nI (8 * r + bR B r 0 4) := by rw [rk, mR.2.2.2.2.1, m_lt8, nI_add]
      have good := m_cg_ma wr a1 a2 a3 a4 a5 a6
      refine b314_253 (S1.ok rfl) (S1.ref (v := 659) rfl) (S1.ok rfl) (ir _ S1 _ rfl) (fun _ => b314_299 (fin _ _ ⟨e, e5, ?_, fun L' hL' => ?_⟩)) (fun h9 => absurd (by rw [e59]; exact Int32.le_refl _) h9)
      · rw [m_dc_t.mpr ⟨L, good⟩]
        rfl
      · have h9 := hL'.2.2.1
        rw [a3] at h9
        cases h9
        exact eL
    | succ m ih =>
      intro d h1 l3 L hd e e5 eL a1 a2 a3 a4 a5 a6
      have X1 := X.of e
      have S1 := X1.1
      have f1 : qA h1 691 = qA h 691 := e.A (by decide)
      have mR := X1.2.2.1.2.2.2.2.2.2 r hr
      have wd := wr.2.2.2.2.2.2.2.2.2.2 d (by omega)
      have md := mR.2.2.2.2.2.2.2.2.2.2 d (by omega)
      have e59 : 8 * nI r + qA h1 659 (nI r).toNatClampNeg = nI (8 * r + bR B r 0 4) := by rw [rk, mR.2.2.2.2.1, m_lt8, nI_add]
      have e60 : qA h1 660 (nI (8 * r + d)).toNatClampNeg = nI (bR B r 13 d) := by rw [nI_clamp (by omega)]; exact md.1
      have e61 : qA h1 661 (nI (8 * r + d)).toNatClampNeg = nI (bR B r 14 d) := by rw [nI_clamp (by omega)]; exact md.2.1
      have i3 : ∀ c, ((decide (c ≤ 712) && (q_kd0 c).2 == 320) = true) → q_in (nI (8 * r + d)) (qK h1 c).2 := fun c h9 => S1.inN (n := 320) h9 (by omega) (by decide)
      have nx : (bR B r 13 d = 0 → m_cg (qA h 691) im (bR B r) L (bR B r 14 d)) → q_wp 3 314 293 [some (.ref 630), some (.int (nI r)), some (.int (nI (8 * r + d))), l3] [] h1 Q := by
        intro h9
        refine b314_293 ?_
        rw [nI_1, Nat.add_assoc]
        refine ih (d + 1) h1 _ L (by omega) e e5 eL a1 a2 a3 a4 a5 (fun y hy => ?_)
        by_cases h8 : y = d
        · rw [h8]; exact h9
        · exact a6 y (by omega)
      refine b314_253 (S1.ok rfl) (S1.ref (v := 659) rfl) (S1.ok rfl) (ir _ S1 _ rfl) (fun h9 => absurd ((nI_leI (by omega) (by omega)).mp (e59 ▸ h9)) (by omega)) (fun _ => b314_268 (S1.ok rfl) (S1.ref (v := 660) rfl) (S1.ok rfl) (i3 _ rfl) (fun c1 => nx (fun h9 => ?_)) (fun c1 => ?_))
      · rw [e60, h9] at c1
        exact absurd rfl c1
      · rw [e60] at c1
        have c2 : bR B r 13 d = 0 := (nI_eq (b := 0) (by omega) (by decide)).mp c1
        have hx := (wd.2.1 c2).1
        have hc17 : q_mI 0 317 [.ref 630, .int (nI r), .int (qA h1 661 (nI (8 * r + d)).toNatClampNeg)] h1 (fun z h' => h' = h1 ∧ z = b2i (m_dc (m_cg (qA h1 691) im (bR B r) L (bR B r 14 d)))) := by
          rw [e61]
          exact s317 X1 hr hx (hn.f4 h4 e5) eL
        refine b314_277 (S1.ok rfl) (S1.ref (v := 661) rfl) (S1.ok rfl) (i3 _ rfl) hc17 (by decide) ?_
        rintro z h3 ⟨e0, rfl⟩
        subst h3
        rw [f1]
        refine b314_288 (fun c3 => nx (fun _ => m_dc_t.mp (b2i_ne.mp c3))) (fun c3 => b314_291 (bad _ e e5 (fun L' hL' => ?_)))
        have h9 := hL'.2.2.1
        rw [a3] at h9
        cases h9
        exact m_dc_f.mp (b2i_eq.mp c3) (m_ma_cg wr hL' d (by omega) c2)
  -- what must not be
  have pD : ∀ m n h1 l3 L, n + m = bR B r 0 2 → n_fr h h1 → (∀ i, i < 4 → qA h1 695 i = qA h 695 i) → n_lk h1 (bR B r 0 1) L → (∀ i, i < bR B r 0 0 → m_tt B (qA h 691) (nI (bR B r 1 i)) (im i)) → (∀ i j, i < j → j < bR B r 0 0 → bR B r 0 5 = 0 → ¬ im i = im j) → m_rl (qA h 691) im (bR B r) = some L → (∀ t, t < bR B r 0 3 → m_ts B (qA h 691) im (bR B r) t) → (∀ y, y < n → ¬ m_no B (qA h 691) im (bR B r) L y) → q_wp 3 314 217 [some (.ref 630), some (.int (nI r)), some (.int (nI (2 * r + n))), l3] [] h1 Q := by
    intro m
    induction m with
    | zero =>
      intro n h1 l3 L hd e e5 eL a1 a2 a3 a4 a5
      obtain rfl : n = bR B r 0 2 := by omega
      have X1 := X.of e
      have S1 := X1.1
      have mR := X1.2.2.1.2.2.2.2.2.2 r hr
      have e48 : 2 * nI r + qA h1 648 (nI r).toNatClampNeg = nI (2 * r + bR B r 0 2) := by rw [rk, mR.2.2.1, m_lt2, nI_add]
      refine b314_217 (S1.ok rfl) (S1.ref (v := 648) rfl) (S1.ok rfl) (ir _ S1 _ rfl) (fun _ => b314_248 ?_) (fun h9 => absurd (by rw [e48]; exact Int32.le_refl _) h9)
      rw [m_lt8]
      exact pE (bR B r 0 4) 0 h1 _ L (by omega) e e5 eL a1 a2 a3 a4 a5 (fun y hy => absurd hy (Nat.not_lt_zero _))
    | succ m ih =>
      intro n h1 l3 L hd e e5 eL a1 a2 a3 a4 a5
      have X1 := X.of e
      have S1 := X1.1
      have f1 : qA h1 691 = qA h 691 := e.A (by decide)
      have mR := X1.2.2.1.2.2.2.2.2.2 r hr
      have e48 : 2 * nI r + qA h1 648 (nI r).toNatClampNeg = nI (2 * r + bR B r 0 2) := by rw [rk, mR.2.2.1, m_lt2, nI_add]
      refine b314_217 (S1.ok rfl) (S1.ref (v := 648) rfl) (S1.ok rfl) (ir _ S1 _ rfl) (fun h9 => absurd ((nI_leI (by omega) (by omega)).mp (e48 ▸ h9)) (by omega)) (fun _ => b314_231 (s316 X1 hr (by omega) (hn.f4 h4 e5) eL) (by decide) ?_)
      rintro z h2 ⟨e2, e3, e4, rfl⟩
      rw [f1]
      have e6 := e.trans e2
      have e7 : ∀ i, i < 4 → qA h2 695 i = qA h 695 i := fun i hi => (e3 i hi).trans (e5 i hi)
      refine b314_237 (fun c1 => b314_242 ?_) (fun c1 => b314_240 (bad _ e6 e7 (fun L' hL' => ?_)))
      · rw [nI_1, Nat.add_assoc]
        refine ih (n + 1) h2 _ L (by omega) e6 e7 (eL.fs h6 e4) a1 a2 a3 a4 (fun y hy => ?_)
        by_cases h8 : y = n
        · rw [h8]; exact m_dc_f.mp (b2i_eq.mp c1)
        · exact a5 y (by omega)
      · have h9 := hL'.2.2.1
        rw [a3] at h9
        cases h9
        exact hL'.2.2.2.2.2 n (by omega) (m_dc_t.mp (b2i_ne.mp c1))
  -- the tests
  have pC : ∀ m t h1 l3 L, t + m = bR B r 0 3 → n_fr h h1 → (∀ i, i < 4 → qA h1 695 i = qA h 695 i) → n_lk h1 (bR B r 0 1) L → (∀ i, i < bR B r 0 0 → m_tt B (qA h 691) (nI (bR B r 1 i)) (im i)) → (∀ i j, i < j → j < bR B r 0 0 → bR B r 0 5 = 0 → ¬ im i = im j) → m_rl (qA h 691) im (bR B r) = some L → (∀ y, y < t → m_ts B (qA h 691) im (bR B r) y) → q_wp 3 314 183 [some (.ref 630), some (.int (nI r)), some (.int (nI (4 * r + t))), l3] [] h1 Q := by
    intro m
    induction m with
    | zero =>
      intro t h1 l3 L hd e e5 eL a1 a2 a3 a4
      obtain rfl : t = bR B r 0 3 := by omega
      have X1 := X.of e
      have S1 := X1.1
      have mR := X1.2.2.1.2.2.2.2.2.2 r hr
      have e54 : 4 * nI r + qA h1 654 (nI r).toNatClampNeg = nI (4 * r + bR B r 0 3) := by rw [rk, mR.2.2.2.1, m_lt4, nI_add]
      refine b314_183 (S1.ok rfl) (S1.ref (v := 654) rfl) (S1.ok rfl) (ir _ S1 _ rfl) (fun _ => b314_213 ?_) (fun h9 => absurd (by rw [e54]; exact Int32.le_refl _) h9)
      rw [m_lt2]
      exact pD (bR B r 0 2) 0 h1 _ L (by omega) e e5 eL a1 a2 a3 a4 (fun y hy => absurd hy (Nat.not_lt_zero _))
    | succ m ih =>
      intro t h1 l3 L hd e e5 eL a1 a2 a3 a4
      have X1 := X.of e
      have S1 := X1.1
      have f1 : qA h1 691 = qA h 691 := e.A (by decide)
      have mR := X1.2.2.1.2.2.2.2.2.2 r hr
      have e54 : 4 * nI r + qA h1 654 (nI r).toNatClampNeg = nI (4 * r + bR B r 0 3) := by rw [rk, mR.2.2.2.1, m_lt4, nI_add]
      refine b314_183 (S1.ok rfl) (S1.ref (v := 654) rfl) (S1.ok rfl) (ir _ S1 _ rfl) (fun h9 => absurd ((nI_leI (by omega) (by omega)).mp (e54 ▸ h9)) (by omega)) (fun _ => b314_197 (s315 X1 hr (by omega) (hn.f4 h4 e5)) (by decide) ?_)
      rintro z h2 ⟨e2, e3, e4, rfl⟩
      rw [f1]
      have e6 := e.trans e2
      have e7 : ∀ i, i < 4 → qA h2 695 i = qA h 695 i := fun i hi => by rw [e3]; exact e5 i hi
      refine b314_202 (fun c1 => b314_207 ?_) (fun c1 => b314_205 (bad _ e6 e7 (fun L' hL' => m_dc_f.mp (b2i_eq.mp c1) (hL'.2.2.2.1 t (by omega)))))
      rw [nI_1, Nat.add_assoc]
      refine ih (t + 1) h2 _ L (by omega) e6 e7 (eL.fs h6 (fun k _ => by rw [e4])) a1 a2 a3 (fun y hy => ?_)
      by_cases h8 : y = t
      · rw [h8]; exact m_dc_t.mp (b2i_ne.mp c1)
      · exact a4 y (by omega)
  -- the links
  have pB : ∀ m l h1 l3 L, l + m = bR B r 0 1 → n_fr h h1 → qA h1 695 = qA h 695 → n_lk h1 l L → (∀ i, i < bR B r 0 0 → m_tt B (qA h 691) (nI (bR B r 1 i)) (im i)) → (∀ i j, i < j → j < bR B r 0 0 → bR B r 0 5 = 0 → ¬ im i = im j) → m_gl (qA h 691) im (bR B r 2) (bR B r 3) (bR B r 4) [] l = some L → q_wp 3 314 103 [some (.ref 630), some (.int (nI r)), some (.int (nI l)), l3] [] h1 Q := by
    intro m
    induction m with
    | zero =>
      intro l h1 l3 L hd e e5 eL a1 a2 a3
      obtain rfl : l = bR B r 0 1 := by omega
      have X1 := X.of e
      have S1 := X1.1
      have mR := X1.2.2.1.2.2.2.2.2.2 r hr
      have e42 : qA h1 642 (nI r).toNatClampNeg = nI (bR B r 0 1) := by rw [rk]; exact mR.2.1
      refine b314_103 (S1.ok rfl) (S1.ref (v := 642) rfl) (S1.ok rfl) (ir _ S1 _ rfl) (fun _ => b314_179 ?_) (fun h9 => absurd (by rw [e42]; exact Int32.le_refl _) h9)
      rw [m_lt4]
      exact pC (bR B r 0 3) 0 h1 _ L (by omega) e (fun i _ => by rw [e5]) eL a1 a2 a3 (fun y hy => absurd hy (Nat.not_lt_zero _))
    | succ m ih =>
      intro l h1 l3 L hd e e5 eL a1 a2 a3
      have X1 := X.of e
      have S1 := X1.1
      have f1 : qA h1 691 = qA h 691 := e.A (by decide)
      have mR := X1.2.2.1.2.2.2.2.2.2 r hr
      have hs12 : bN B 1 ≤ 12 := w.2.1
      have wl := wr.2.2.2.2.2.2.2.1 l (by omega)
      have ml := mR.2.2.2.2.2.2.2.1 l (by omega)
      have e42 : qA h1 642 (nI r).toNatClampNeg = nI (bR B r 0 1) := by rw [rk]; exact mR.2.1
      have ek : (6 : Int32) * nI r + nI l = nI (6 * r + l) := by rw [m_lt6, nI_add]
      have kk : (nI (6 * r + l)).toNatClampNeg = 6 * r + l := nI_clamp (by omega)
      have i240 : ∀ c9, ((decide (c9 ≤ 712) && (q_kd0 c9).2 == 240) = true) → q_in ((6 : Int32) * nI r + nI l) (qK h1 c9).2 := fun c9 h9 => by rw [ek]; exact S1.inN (n := 240) h9 (by omega) (by decide)
      have t1 : qA h1 645 (((6 * nI r) + nI l : Int32).toNatClampNeg) = nI (bR B r 2 l) := by rw [ek, kk]; exact ml.1
      have t2 : qA h1 646 (((6 * nI r) + nI l : Int32).toNatClampNeg) = nI (bR B r 3 l) := by rw [ek, kk]; exact ml.2.1
      have t3 : qA h1 647 (((6 * nI r) + nI l : Int32).toNatClampNeg) = nI (bR B r 4 l) := by rw [ek, kk]; exact ml.2.2
      have n3 := hn _ wl.2.1
      have n4 := hn _ wl.2.2
      have hc13 : q_mI 0 313 [.ref 630, .int (qA h1 645 (((6 * nI r) + nI l : Int32).toNatClampNeg)), .int (qA h1 695 ((qA h1 646 (((6 * nI r) + nI l : Int32).toNatClampNeg) : Int32).toNatClampNeg)), .int (qA h1 695 ((qA h1 647 (((6 * nI r) + nI l : Int32).toNatClampNeg) : Int32).toNatClampNeg)), .int (nI l), .int 6] h1 (fun z h' => h' = h1 ∧ z = q_on (m_ln (qA h1 691) (bR B r 2 l) (im (bR B r 3 l)) (im (bR B r 4 l)) L)) := by
        rw [t1, t2, t3, nI_clamp (show bR B r 3 l < 2 ^ 31 by omega), nI_clamp (show bR B r 4 l < 2 ^ 31 by omega), e5, n3.1, n4.1, show (6 : Int32) = nI 6 from rfl]
        refine s313 S1 (by omega) (Nat.le_refl _) (by omega) (fun l' hl' => ?_)
        rw [eL.mem hl']
        exact ⟨fun h9 => Or.inl h9, fun h9 => h9.elim id (fun ⟨k, k1, k2, _⟩ => by omega)⟩
      refine b314_103 (S1.ok rfl) (S1.ref (v := 642) rfl) (S1.ok rfl) (ir _ S1 _ rfl) (fun h9 => absurd ((nI_leI (by omega) (by omega)).mp (e42 ▸ h9)) (by omega)) (fun _ => b314_113 (S1.ok rfl) (S1.ref (v := 696) rfl) (S1.ref (v := 645) rfl) (S1.ok rfl) (i240 _ rfl) (S1.ref (v := 695) rfl) (S1.ref (v := 646) rfl) (S1.ok rfl) (i240 _ rfl) (S1.ok rfl) (by rw [t2]; exact S1.inN (n := 5) rfl (by omega) (by decide)) (S1.ref (v := 647) rfl) (S1.ok rfl) (i240 _ rfl) (by rw [t3]; exact S1.inN (n := 5) rfl (by omega) (by decide)) hc13 (by decide) ?_)
      rintro z h3 ⟨e0, ez⟩
      subst h3
      rw [f1] at ez
      have g4 := m_gl_s a3
      have in6 : q_in (nI l) (qK h1 696).2 := S1.inN (n := 9) rfl (by omega) (by decide)
      have kl : (nI l).toNatClampNeg = l := nI_clamp (by omega)
      have ev : ∀ v, qA (q_sA h1 696 (nI l).toNatClampNeg v) 696 (nI l).toNatClampNeg = v := fun v => by rw [qA_sAu, upd_eq]
      cases hl : m_ln (qA h 691) (bR B r 2 l) (im (bR B r 3 l)) (im (bR B r 4 l)) L with
      | none =>
        rw [hl] at ez g4
        have ez : z = -1 := ez
        subst ez
        refine b314_160 (S1.ok rfl) in6 (S1.ok rfl) (S1.ref (v := 696) rfl) (S1.ok rfl) in6 (fun h9 => absurd (ev _) h9) (fun _ => b314_171 (bad _ (e.trans (n_fr.sA (by decide))) (fun i _ => congrFun e5 i) (fun L' hL' => ?_)))
        have h8 := m_gl_none g4 m
        rw [show l + 1 + m = bR B r 0 1 by omega] at h8
        have h9 := hL'.2.2.1
        rw [show m_rl (qA h 691) im (bR B r) = none from h8] at h9
        cases h9
      | some x =>
        rw [hl] at ez g4
        have ez : z = nI x := ez
        subst ez
        have hx4 := (m_ln_lt hl).1
        refine b314_160 (S1.ok rfl) in6 (S1.ok rfl) (S1.ref (v := 696) rfl) (S1.ok rfl) in6 (fun _ => b314_173 ?_) (fun h9 => absurd ((ev _).symm.trans h9) (q_on_ne (by omega)))
        rw [kl, nI_1]
        have q3 : qA (q_sA h1 696 l (nI x)) 696 = upd (qA h1 696) l (nI x) := qA_sAu _ _ _ _
        refine ih (l + 1) _ _ (L ++ [x]) (by omega) (e.trans (n_fr.sA (by decide))) e5 ⟨by rw [List.length_append, eL.1]; rfl, fun k hk => ?_, fun y hy => ?_⟩ a1 a2 g4
        · rw [q3]
          by_cases h9 : k = l
          · have := m_ge (L := L) (x := x)
            rw [eL.1] at this
            rw [h9, upd_eq, this]
          · rw [upd_ne h9, m_gd (by rw [eL.1]; omega)]
            exact eL.2.1 k (by omega)
        · rcases List.mem_append.mp hy with h9 | h9
          · exact eL.2.2 y h9
          · rw [List.mem_singleton.mp h9]
            exact hx4
  -- the nodes
  have mR := X.2.2.1.2.2.2.2.2.2 r hr
  have e41 : qA h 641 (nI r).toNatClampNeg = nI (bR B r 0 0) := by rw [rk]; exact mR.1
  have e43 : qA h 643 (nI r).toNatClampNeg = nI (bR B r 0 5) := by rw [rk]; exact mR.2.2.2.2.2.1
  have i5 : ∀ i, i < bR B r 0 0 → q_in (nI i) (qK h 695).2 := fun i hi => S.inN (n := 5) rfl (by omega) (by decide)
  have en : ∀ i, i < bR B r 0 0 → qA h 695 (nI i).toNatClampNeg = nI (im i) := fun i hi => by rw [nI_clamp (by omega)]; exact (hn i hi).1
  have pA : ∀ m k l3, k + m = bR B r 0 0 → (∀ i, i < k → m_tt B (qA h 691) (nI (bR B r 1 i)) (im i)) → (∀ i j, i < j → j < k → bR B r 0 5 = 0 → ¬ im i = im j) → q_wp 3 314 2 [some (.ref 630), some (.int (nI r)), some (.int (nI k)), l3] [] h Q := by
    intro m
    induction m with
    | zero =>
      intro k l3 hk a1 a2
      obtain rfl : k = bR B r 0 0 := by omega
      refine b314_2 (S.ok rfl) (S.ref (v := 641) rfl) (S.ok rfl) (ir _ S _ rfl) (fun _ => b314_101 ?_) (fun h9 => absurd (by rw [e41]; exact Int32.le_refl _) h9)
      exact pB (bR B r 0 1) 0 h _ [] (by omega) n_fr.rf rfl ⟨rfl, fun k hk => absurd hk (Nat.not_lt_zero _), fun l hl => by cases hl⟩ a1 a2 rfl
    | succ m ih =>
      intro k l3 hk a1 a2
      have hk2 : k < bR B r 0 0 := by omega
      have hi12 := (hn k hk2).2
      have hc94 : q_mI 0 294 [.ref 630, .int (qA h 695 (nI k).toNatClampNeg)] h (fun z h' => h' = h ∧ z = b2i (!(qA h 691 (im k) == -1))) := by
        rw [en k hk2]
        have := s294 (x := nI (im k)) S
        rw [d_has_n hi12] at this
        exact this
      refine b314_2 (S.ok rfl) (S.ref (v := 641) rfl) (S.ok rfl) (ir _ S _ rfl) (fun h9 => absurd ((nI_leI (by omega) (by omega)).mp (e41 ▸ h9)) (by omega)) (fun _ => b314_12 (S.ok rfl) (S.ref (v := 695) rfl) (S.ok rfl) (i5 k hk2) hc94 (by decide) ?_)
      rintro z h3 ⟨e0, rfl⟩
      subst h3
      refine b314_22 (fun c1 => b314_54 (bad _ n_fr.rf (fun _ _ => rfl) (fun L' hL' => ?_))) (fun c1 => ?_)
      · have c3 := b2i_eq.mp c1
        simp only [Bool.not_eq_false', beq_iff_eq] at c3
        exact n_tt_no c3 (hL'.1 k hk2)
      · have ek : (4 : Int32) * nI r + nI k = nI (4 * r + k) := by rw [m_lt4, nI_add]
        have e44 : qA h 644 (((4 * nI r) + nI k : Int32).toNatClampNeg) = nI (bR B r 1 k) := by rw [ek, nI_clamp (by omega)]; exact mR.2.2.2.2.2.2.1 k hk2
        have hc59 : q_mI 0 259 [.ref 630, .int 0, .int (qA h 691 ((qA h 695 (nI k).toNatClampNeg : Int32).toNatClampNeg)), .int (qA h 644 (((4 * nI r) + nI k : Int32).toNatClampNeg))] h (fun z h' => h' = h ∧ z = b2i (t_is (fun i => qA h 638 (0 + i)) (bN B 0) (nI (bR B r 1 k)) 12 (qA h 691 (im k)))) := by
          rw [en k hk2, e44, nI_clamp (show im k < 2 ^ 31 by omega)]
          exact s259 (half := 0) S hT (by decide) (n_elders X) (n_type X hi12)
        refine b314_25 (S.ok rfl) S.mr (S.ref (v := 695) rfl) (S.ok rfl) (i5 k hk2) S.md (by rw [en k hk2]; exact S.mi (by omega)) (S.ref (v := 644) rfl) (S.ok rfl) (by rw [ek]; exact S.inN (n := 160) rfl (by omega) (by decide)) hc59 (by decide) ?_
        rintro z h3 ⟨e0, rfl⟩
        subst h3
        refine b314_51 (fun c2 => b314_56 ?_) (fun c2 => b314_54 (bad _ n_fr.rf (fun _ _ => rfl) (fun L' hL' => ?_)))
        · have g1 := (n_tt X).mp (b2i_ne.mp c2)
          have done : (∀ i, i < k → bR B r 0 5 = 0 → ¬ im i = im k) → ∀ x3, q_wp 3 314 95 [some (.ref 630), some (.int (nI r)), some (.int (nI k)), some (.int x3)] [] h Q := by
            intro h9 x3
            refine b314_95 ?_
            rw [nI_1]
            refine ih (k + 1) _ (by omega) (fun i hi => ?_) (fun i j h1 h2 h3 => ?_)
            · by_cases h8 : i = k
              · rw [h8]; exact g1
              · exact a1 i (by omega)
            · by_cases h8 : j = k
              · rw [h8]; exact h9 i (by omega) h3
              · exact a2 i j h1 (by omega) h3
          have inner : ∀ m2 j, j + m2 = k → (∀ i, i < j → bR B r 0 5 = 0 → ¬ im i = im k) → q_wp 3 314 58 [some (.ref 630), some (.int (nI r)), some (.int (nI k)), some (.int (nI j))] [] h Q := by
            intro m2
            induction m2 with
            | zero =>
              intro j hj g
              obtain rfl : j = k := by omega
              exact b314_58 (fun _ => done g _) (fun h9 => absurd (Int32.le_refl _) h9)
            | succ m2 ih2 =>
              intro j hj g
              refine b314_58 (fun h9 => absurd ((nI_leI (by omega) (by omega)).mp h9) (by omega)) (fun _ => b314_63 (S.ok rfl) (S.ref (v := 643) rfl) (Or.inr (S.ok rfl)) (ir _ S _ rfl) (fun c3 => done (fun i _ h8 => ?_) _) (fun c3 => b314_72 (S.ok rfl) (S.ref (v := 695) rfl) (S.ok rfl) (i5 j (by omega)) (i5 k hk2) (fun c4 => b314_89 ?_) (fun c4 => b314_87 (bad _ n_fr.rf (fun _ _ => rfl) (fun L' hL' => ?_)))))
              · rw [e43, h8] at c3
                exact absurd rfl c3
              · rw [nI_1]
                refine ih2 (j + 1) (by omega) (fun i hi h8 => ?_)
                by_cases h7 : i = j
                · rw [h7]
                  intro h6
                  rw [en j (by omega), en k hk2, h6] at c4
                  exact c4 rfl
                · exact g i (by omega) h8
              · rw [en j (by omega), en k hk2] at c4
                have h7 := (nI_eq (by have := (hn j (by omega)).2; omega) (by omega)).mp c4
                rw [e43] at c3
                exact (hL'.2.1 j k (by omega) hk2 h7).1 ((nI_eq (b := 0) (by omega) (by decide)).mp c3)
          exact inner k 0 (by omega) (fun i hi => absurd hi (Nat.not_lt_zero _))
        · have := (n_tt X).mpr (hL'.1 k hk2)
          rw [b2i_eq.mp c2] at this
          cases this
  exact b314_0 (pA (bR B r 0 0) 0 _ (by omega) (fun i hi => absurd hi (Nat.not_lt_zero _)) (fun i j h1 h2 => absurd h2 (Nat.not_lt_zero _)))
