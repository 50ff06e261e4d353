/-! THE MATCHER: tuples as numbers, and the search from one match to the next -/
def m_pf (b : Nat) (im : Nat → Nat) : Nat → Nat
  | 0 => 0
  | n + 1 => m_pf b im n * b + im n
def m_im (N v i : Nat) : Nat := v / 12 ^ (N - 1 - i) % 12
theorem m_pf_lt {b : Nat} {im : Nat → Nat} (hb : 0 < b) : ∀ n, (∀ i, i < n → im i < b) → m_pf b im n < b ^ n := by
  intro n
  induction n with
  | zero => intro _; exact Nat.one_pos
  | succ n ih =>
    intro h
    have h1 := ih (fun i hi => h i (by omega))
    have h2 := h n (by omega)
    have h3 : (m_pf b im n + 1) * b ≤ b ^ n * b := Nat.mul_le_mul_right b h1
    rw [Nat.add_mul] at h3
    show m_pf b im n * b + im n < b ^ (n + 1)
    rw [Nat.pow_succ]
    omega
theorem m_pf_ext {b : Nat} {im im' : Nat → Nat} : ∀ n, (∀ i, i < n → im i = im' i) → m_pf b im n = m_pf b im' n := by
  intro n
  induction n with
  | zero => intro _; rfl
  | succ n ih =>
    intro h
    show m_pf b im n * b + im n = m_pf b im' n * b + im' n
    rw [ih (fun i hi => h i (by omega)), h n (by omega)]
theorem m_pf_p {b : Nat} {im : Nat → Nat} {N : Nat} (h : 0 < N) : m_pf b im N = m_pf b im (N - 1) * b + im (N - 1) := by
  obtain ⟨n, rfl⟩ : ∃ n, N = n + 1 := ⟨N - 1, by omega⟩
  rfl
theorem m_im_l {n P x : Nat} (hx : x < 12) : m_im (n + 1) (P * 12 + x) n = x := by
  unfold m_im
  rw [show n + 1 - 1 - n = 0 by omega, Nat.pow_zero, Nat.div_one]
  omega
theorem m_im_s {n P x i : Nat} (hi : i < n) (hx : x < 12) : m_im (n + 1) (P * 12 + x) i = m_im n P i := by
  unfold m_im
  rw [show n + 1 - 1 - i = (n - 1 - i) + 1 by omega, Nat.pow_succ, Nat.mul_comm (12 ^ (n - 1 - i)) 12, ← Nat.div_div_eq_div_mul, show (P * 12 + x) / 12 = P by omega]
theorem m_im_pf {im : Nat → Nat} : ∀ n, (∀ i, i < n → im i < 12) → ∀ i, i < n → m_im n (m_pf 12 im n) i = im i := by
  intro n
  induction n with
  | zero => intro _ i hi; omega
  | succ n ih =>
    intro h i hi
    show m_im (n + 1) (m_pf 12 im n * 12 + im n) i = im i
    by_cases h1 : i = n
    · rw [h1]
      exact m_im_l (h n (by omega))
    · rw [m_im_s (by omega) (h n (by omega))]
      exact ih (fun i hi => h i (by omega)) i (by omega)
theorem m_im_lt {N v i : Nat} : m_im N v i < 12 := Nat.mod_lt _ (by decide)
theorem m_im_hi {N u i lv : Nat} (h1 : i ≤ lv) (h2 : lv < N) : m_im N u i = m_im (lv + 1) (u / 12 ^ (N - 1 - lv)) i := by
  unfold m_im
  rw [Nat.div_div_eq_div_mul, ← Nat.pow_add, show N - 1 - lv + (lv + 1 - 1 - i) = N - 1 - i by omega]
theorem m_pf_im {N : Nat} : ∀ v, v < 12 ^ N → m_pf 12 (m_im N v) N = v := by
  have : ∀ n, n ≤ N → ∀ v, v < 12 ^ N → m_pf 12 (m_im N v) n = v / 12 ^ (N - n) := by
    intro n
    induction n with
    | zero =>
      intro _ v hv
      rw [Nat.sub_zero, Nat.div_eq_of_lt hv]
      rfl
    | succ n ih =>
      intro hn v hv
      show m_pf 12 (m_im N v) n * 12 + m_im N v n = _
      rw [ih (by omega) v hv]
      unfold m_im
      rw [show N - n = (N - (n + 1)) + 1 by omega, show N - 1 - n = N - (n + 1) by omega, Nat.pow_succ, ← Nat.div_div_eq_div_mul]
      omega
  intro v hv
  rw [this N (Nat.le_refl _) v hv, Nat.sub_self, Nat.pow_zero, Nat.div_one]
noncomputable def m_M (B : q_Bk) (f : Nat → Int32) (V : Nat → Nat → Nat) (v : Nat) : Bool := m_dc (∃ L, m_ma B f (m_im (V 0 0) v) V L)
theorem m_prune {B : q_Bk} {f : Nat → Int32} {im : Nat → Nat} {V : Nat → Nat → Nat} {lv c x u : Nat} (hlv : lv < V 0 0) (hi : ∀ i, i < lv → im i < 12) (hx : x ≤ 12) (h1 : (m_pf 12 im lv * 12 + c) * 12 ^ (V 0 0 - 1 - lv) ≤ u) (h2 : u < (m_pf 12 im lv * 12 + x) * 12 ^ (V 0 0 - 1 - lv)) (hs : ∀ y, c ≤ y → y < x → ¬ m_su B f im V lv y) : m_M B f V u = false := by
  have hp : 0 < 12 ^ (V 0 0 - 1 - lv) := Nat.pow_pos (by decide)
  have q1 := (Nat.le_div_iff_mul_le hp).mpr h1
  have q2 := (Nat.div_lt_iff_lt_mul hp).mpr h2
  generalize hq : u / 12 ^ (V 0 0 - 1 - lv) = q at q1 q2
  obtain ⟨y, rfl⟩ : ∃ y, q = m_pf 12 im lv * 12 + y := ⟨q - m_pf 12 im lv * 12, by omega⟩
  unfold m_M
  rw [m_dc_f]
  rintro ⟨L, h3⟩
  have h4 := m_ma_su h3 lv hlv
  have e1 : m_im (V 0 0) u lv = y := by rw [m_im_hi (Nat.le_refl _) hlv, hq, m_im_l (by omega)]
  rw [e1] at h4
  refine hs y (by omega) (by omega) (m_su_ext (fun i hi2 => ?_) h4)
  rw [m_im_hi (by omega) hlv, hq, m_im_s hi2 (by omega), m_im_pf lv hi i hi2]
theorem m_down {b P k : Nat} : (P * b + 0) * b ^ k = P * b ^ (k + 1) := by rw [Nat.add_zero, Nat.pow_succ, Nat.mul_comm (b ^ k) b, Nat.mul_assoc]
theorem m_up {b P k : Nat} : (P + 1) * b ^ (k + 1) = (P * b + b) * b ^ k := by rw [Nat.pow_succ, Nat.mul_comm (b ^ k) b, ← Nat.mul_assoc, Nat.add_mul, Nat.one_mul]
theorem nI_m1 {n : Nat} (h : 0 < n) : nI n + (-1) = nI (n - 1) := by
  obtain ⟨m, rfl⟩ : ∃ m, n = m + 1 := ⟨n - 1, by omega⟩
  rw [← nI_add m 1, Int32.add_assoc, show nI 1 + (-1) = 0 by decide, Int32.add_zero]
  rfl
/-- where a search stands: ahead of all, or at a match -/
def m_at (h : q_Hp) (B : q_Bk) (f : Nat → Int32) (V : Nat → Nat → Nat) (s0 : Nat) : Prop := (s0 = 0 ∧ qI h 601 6 = 1 ∧ ∀ i, i < 4 → qA h 602 i = -1) ∨ ∃ v, s0 = v + 1 ∧ v < 12 ^ V 0 0 ∧ qI h 601 6 = 0 ∧ m_nd h (V 0 0) (m_im (V 0 0) v) ∧ m_M B f V v = true
theorem s94 {h : q_Hp} {b o : Nat} {B : q_Bk} {V : Nat → Nat → Nat} {k : Nat → Int32} {s0 : Nat} (A : m_A h b o B V k) (at0 : m_at h B (qA h 598) V s0) : q_mI 4 94 [.ref 601] h (fun z h' => m_fw h h' ∧ z = b2i (q_fst (m_M B (qA h 598) V) s0 (12 ^ V 0 0 - s0)).isSome ∧ ∀ v, q_fst (m_M B (qA h 598) V) s0 (12 ^ V 0 0 - s0) = some v → m_at h' B (qA h 598) V (v + 1) ∧ m_nd h' (V 0 0) (m_im (V 0 0) v) ∧ ∀ L, m_ma B (qA h 598) (m_im (V 0 0) v) V L → ∀ i, i < V 0 1 → qA h' 603 i = nI (L.getD i 0)) := by
  have S := A.1.1
  have ho := A.1.2.2.1
  have f2 := A.1.2.2.2.2
  have wr := A.2.2.1
  have C := A.2.2.2.2.1
  have hN : V 0 0 ≤ 4 := wr.1
  have eI : qI h o 0 = nI (V 0 0) := C.1 0 (by decide)
  refine q_mI.of (q_recV rfl (S.ok rfl)) (fun Q fin => ?_)
  have fno : ∀ h', m_fw h h' → (∀ u, s0 ≤ u → u < 12 ^ V 0 0 → m_M B (qA h 598) V u = false) → Q (some (.int 0)) h' := by
    intro h' e g
    have e2 : q_fst (m_M B (qA h 598) V) s0 (12 ^ V 0 0 - s0) = none := (q_fst_none _ _).mpr (fun j h1 h2 => g j h1 (by omega))
    refine fin _ _ ⟨e, by rw [e2]; rfl, fun v hv => ?_⟩
    rw [e2] at hv
    cases hv
  have fyes : ∀ h' v, m_fw h h' → s0 ≤ v → v < 12 ^ V 0 0 → m_M B (qA h 598) V v = true → (∀ u, s0 ≤ u → u < v → m_M B (qA h 598) V u = false) → qI h' 601 6 = 0 → m_nd h' (V 0 0) (m_im (V 0 0) v) → (∀ L, m_ft B (qA h 598) (m_im (V 0 0) v) V L → ∀ i, i < V 0 1 → qA h' 603 i = nI (L.getD i 0)) → Q (some (.int 1)) h' := by
    intro h' v e h1 h2 h3 h4 h5 h6 h7
    have e2 : q_fst (m_M B (qA h 598) V) s0 (12 ^ V 0 0 - s0) = some v := (q_fst_some _ _ _).mpr ⟨h1, by omega, h3, h4⟩
    refine fin _ _ ⟨e, by rw [e2]; rfl, fun w hw => ?_⟩
    rw [e2] at hw
    cases hw
    exact ⟨Or.inr ⟨v, rfl, h2, h5, h6, h3⟩, h6, fun L hL => h7 L hL.2.2⟩
  have h13 : ∀ lv im c, lv < V 0 0 → (∀ i, i < lv → im i < 12) → c ≤ 12 → (m_pf 13 im lv * 13 + c) * 13 ^ (V 0 0 - 1 - lv) ≤ 28561 := by
    intro lv im c h1 h2 h3
    have h4 := m_pf_lt (b := 13) (im := im) (by decide) lv (fun i hi => by have := h2 i hi; omega)
    have h5 : m_pf 13 im lv * 13 + c ≤ 13 ^ (lv + 1) := by
      rw [Nat.pow_succ]
      omega
    calc (m_pf 13 im lv * 13 + c) * 13 ^ (V 0 0 - 1 - lv) ≤ 13 ^ (lv + 1) * 13 ^ (V 0 0 - 1 - lv) := Nat.mul_le_mul_right _ h5
      _ = 13 ^ V 0 0 := by rw [← Nat.pow_add, show lv + 1 + (V 0 0 - 1 - lv) = V 0 0 by omega]
      _ ≤ 13 ^ 4 := Nat.pow_le_pow_right (by decide) hN
      _ = 28561 := by decide
  have loop : ∀ m t lv im c h1 (x1 : Int32), t + m = 1000000 → lv < V 0 0 → m_fw h h1 → qI h1 601 6 = 0 → m_nd h1 lv im → c ≤ 12 → qA h1 602 lv + 1 = nI c → (∀ j, lv < j → j < V 0 0 → qA h1 602 j = -1) → (∀ i, i < lv → m_su B (qA h 598) im V i (im i)) → s0 ≤ (m_pf 12 im lv * 12 + c) * 12 ^ (V 0 0 - 1 - lv) → (∀ u, s0 ≤ u → u < (m_pf 12 im lv * 12 + c) * 12 ^ (V 0 0 - 1 - lv) → m_M B (qA h 598) V u = false) → t ≤ 2 * ((m_pf 13 im lv * 13 + c) * 13 ^ (V 0 0 - 1 - lv)) + lv → q_wp 4 94 54 [some (.ref 601), some (.int x1), some (.int (nI (V 0 0 - 1))), some (.int (nI lv)), some (.int (nI t))] [] h1 Q := by
    intro m
    induction m with
    | zero =>
      intro t lv im c h1 x1 ht hlv e e6 hn hc ec hj hs g1 g2 g3
      have := h13 lv im c hlv (fun i hi => (hn i hi).2) hc
      omega
    | succ m ih =>
      intro t lv im c h1 x1 ht hlv e e6 hn hc ec hj hs g1 g2 g3
      have b13 := h13 lv im c hlv (fun i hi => (hn i hi).2) hc
      have A1 := A.fw e
      have S1 := A1.1.1
      have f1 : qA h1 598 = qA h 598 := e.A (by decide)
      refine b94_54 (fun h2 => absurd ((nI_gec (k := 1000000) (by omega) (by decide) rfl).mp h2) (by omega)) (fun _ => b94_61 (fun h2 => absurd h2 (nI_pos (by omega))) (fun _ => b94_65 (fun h2 => absurd ((nI_gec (k := 4) (by omega) (by decide) rfl).mp h2) (by omega)) (fun _ => b94_70 (S1.ok rfl) (S1.ref (v := 602) rfl) (s95 A1 hn hlv hc ec) (by decide) ?_)))
      rintro z h3 ⟨e0, ez⟩
      subst h3
      rw [f1] at ez
      cases hx : q_fst (fun x => m_dc (m_su B (qA h 598) im V lv x)) c (12 - c) with
      | none =>
        rw [hx] at ez
        have ez : z = -1 := ez
        subst ez
        have hno := (q_fst_none _ _).mp hx
        have ev : qA (q_sA h1 602 (nI lv).toNatClampNeg (-1)) 602 (nI lv).toNatClampNeg = -1 := by rw [qA_sAu, upd_eq]
        have g9 : ∀ u, s0 ≤ u → u < (m_pf 12 im lv * 12 + 12) * 12 ^ (V 0 0 - 1 - lv) → m_M B (qA h 598) V u = false := by
          intro u h4 h5
          rcases Nat.lt_or_ge u ((m_pf 12 im lv * 12 + c) * 12 ^ (V 0 0 - 1 - lv)) with h6 | h6
          · exact g2 u h4 h6
          · exact m_prune hlv (fun i hi => (hn i hi).2) (Nat.le_refl _) h6 h5 (fun y h7 h8 => m_dc_f.mp (hno y h7 (by omega)))
        refine b94_80 (S1.ok rfl) (S1.inN (n := 4) rfl (by omega) (by decide)) (S1.ok rfl) (S1.ref (v := 602) rfl) (S1.ok rfl) (S1.inN (n := 4) rfl (by omega) (by decide)) (fun h4 => absurd ev h4) (fun _ => b94_91 (b94_117 ?_))
        have ew : m_fw h (q_sA h1 602 (nI lv).toNatClampNeg (-1)) := e.trans (m_fr.sA (by decide)).fw
        by_cases hz : lv = 0
        · subst hz
          have hm : (nI t + 1) = nI (t + 1) := nI_add t 1
          rw [hm]
          refine b94_54 (fun h2 => absurd ((nI_gec (k := 1000000) (by omega) (by decide) rfl).mp h2) (by omega)) (fun _ => b94_61 (fun h2 => b94_123 (fno _ ew (fun u h4 h5 => g9 u h4 ?_))) (fun h2 => absurd (show nI 0 + (-1) < 0 by decide) h2))
          have : (m_pf 12 im 0 * 12 + 12) * 12 ^ (V 0 0 - 1 - 0) = 12 ^ V 0 0 := by
            rw [show V 0 0 = (V 0 0 - 1 - 0) + 1 by omega, ← m_up]
            show (0 + 1) * 12 ^ _ = _
            rw [Nat.zero_add, Nat.one_mul, show V 0 0 - 1 - 0 + 1 - 1 - 0 + 1 = V 0 0 - 1 - 0 + 1 by omega]
          rw [this]
          exact h5
        · obtain ⟨l2, rfl⟩ : ∃ l2, lv = l2 + 1 := ⟨lv - 1, by omega⟩
          rw [nI_m1 (by omega), nI_1, show l2 + 1 - 1 = l2 from rfl]
          rw [nI_clamp (show l2 + 1 < 2 ^ 31 by omega)] at ew ⊢
          have hk : V 0 0 - 1 - l2 = (V 0 0 - 1 - (l2 + 1)) + 1 := by omega
          have il := hn l2 (by omega)
          have p12 : (m_pf 12 im l2 * 12 + (im l2 + 1)) * 12 ^ (V 0 0 - 1 - l2) = (m_pf 12 im (l2 + 1) * 12 + 12) * 12 ^ (V 0 0 - 1 - (l2 + 1)) := by
            rw [hk, ← m_up]
            rfl
          have p13 : (m_pf 13 im l2 * 13 + (im l2 + 1)) * 13 ^ (V 0 0 - 1 - l2) = (m_pf 13 im (l2 + 1) * 13 + 13) * 13 ^ (V 0 0 - 1 - (l2 + 1)) := by
            rw [hk, ← m_up]
            rfl
          have q12 : (m_pf 12 im (l2 + 1) * 12 + c) * 12 ^ (V 0 0 - 1 - (l2 + 1)) ≤ (m_pf 12 im (l2 + 1) * 12 + 12) * 12 ^ (V 0 0 - 1 - (l2 + 1)) := Nat.mul_le_mul_right _ (by omega)
          have q13 : (m_pf 13 im (l2 + 1) * 13 + c) * 13 ^ (V 0 0 - 1 - (l2 + 1)) < (m_pf 13 im (l2 + 1) * 13 + 13) * 13 ^ (V 0 0 - 1 - (l2 + 1)) := Nat.mul_lt_mul_of_pos_right (by omega) (Nat.pow_pos (by decide))
          have w : qA (q_sA h1 602 (l2 + 1) (-1)) 602 = upd (qA h1 602) (l2 + 1) (-1) := qA_sAu _ _ _ _
          refine ih (t + 1) l2 im (im l2 + 1) _ _ (by omega) (by omega) ew e6 (fun i hi => ?_) (by omega) ?_ (fun j h4 h5 => ?_) (fun i hi => hs i (by omega)) (by rw [p12]; omega) (by rw [p12]; exact g9) (by rw [p13]; omega)
          · rw [w, upd_ne (by omega)]
            exact hn i (by omega)
          · rw [w, upd_ne (by omega), il.1, nI_1]
          · rw [w]
            by_cases h6 : j = l2 + 1
            · rw [h6, upd_eq]
            · rw [upd_ne h6]
              exact hj j (by omega) h5
      | some x =>
        rw [hx] at ez
        have ez : z = nI x := ez
        subst ez
        obtain ⟨x1', x2', x3', x4'⟩ := (q_fst_some _ _ _).mp hx
        have hx12 : x < 12 := by omega
        have ev : qA (q_sA h1 602 (nI lv).toNatClampNeg (nI x)) 602 (nI lv).toNatClampNeg = nI x := by rw [qA_sAu, upd_eq]
        have g9 : ∀ u, s0 ≤ u → u < (m_pf 12 im lv * 12 + x) * 12 ^ (V 0 0 - 1 - lv) → m_M B (qA h 598) V u = false := by
          intro u h4 h5
          rcases Nat.lt_or_ge u ((m_pf 12 im lv * 12 + c) * 12 ^ (V 0 0 - 1 - lv)) with h6 | h6
          · exact g2 u h4 h6
          · exact m_prune hlv (fun i hi => (hn i hi).2) (by omega) h6 h5 (fun y h7 h8 => m_dc_f.mp (x4' y h7 h8))
        refine b94_80 (S1.ok rfl) (S1.inN (n := 4) rfl (by omega) (by decide)) (S1.ok rfl) (S1.ref (v := 602) rfl) (S1.ok rfl) (S1.inN (n := 4) rfl (by omega) (by decide)) (fun _ => ?_) (fun h4 => absurd (ev.symm.trans h4) (q_on_ne (by omega)))
        rw [nI_clamp (show lv < 2 ^ 31 by omega)]
        have ew : m_fw h (q_sA h1 602 lv (nI x)) := e.trans (m_fr.sA (by decide)).fw
        have w : qA (q_sA h1 602 lv (nI x)) 602 = upd (qA h1 602) lv (nI x) := qA_sAu _ _ _ _
        obtain ⟨im', him⟩ : ∃ im' : Nat → Nat, im' = fun i => if i = lv then x else im i := ⟨_, rfl⟩
        have i1 : im' lv = x := by rw [him]; exact if_pos rfl
        have i2 : ∀ i, i < lv → im' i = im i := fun i hi => by rw [him]; exact if_neg (by omega)
        have hs' : ∀ i, i < lv + 1 → m_su B (qA h 598) im' V i (im' i) := by
          intro i hi
          by_cases h4 : i = lv
          · rw [h4, i1]
            exact m_su_ext (fun y hy => (i2 y hy).symm) (m_dc_t.mp x3')
          · rw [i2 i (by omega)]
            exact m_su_ext (fun y hy => (i2 y (by omega)).symm) (hs i (by omega))
        have hn' : m_nd (q_sA h1 602 lv (nI x)) (lv + 1) im' := by
          intro i hi
          rw [w]
          by_cases h4 : i = lv
          · rw [h4, upd_eq, i1]
            exact ⟨rfl, hx12⟩
          · rw [upd_ne h4, i2 i (by omega)]
            exact hn i (by omega)
        have pe : ∀ b, m_pf b im' (lv + 1) = m_pf b im lv * b + x := by
          intro b
          show m_pf b im' lv * b + im' lv = _
          rw [m_pf_ext lv i2, i1]
        have q12 : (m_pf 12 im lv * 12 + c) * 12 ^ (V 0 0 - 1 - lv) ≤ (m_pf 12 im lv * 12 + x) * 12 ^ (V 0 0 - 1 - lv) := Nat.mul_le_mul_right _ (by omega)
        have q13 : (m_pf 13 im lv * 13 + c) * 13 ^ (V 0 0 - 1 - lv) ≤ (m_pf 13 im lv * 13 + x) * 13 ^ (V 0 0 - 1 - lv) := Nat.mul_le_mul_right _ (by omega)
        by_cases hl : lv + 1 < V 0 0
        · refine b94_97 (fun h4 => absurd ((nI_leI (by omega) (by omega)).mp h4) (by omega)) (fun _ => b94_102 (b94_117 ?_))
          rw [nI_1, nI_1]
          have hk : V 0 0 - 1 - lv = (V 0 0 - 1 - (lv + 1)) + 1 := by omega
          have p12 : (m_pf 12 im' (lv + 1) * 12 + 0) * 12 ^ (V 0 0 - 1 - (lv + 1)) = (m_pf 12 im lv * 12 + x) * 12 ^ (V 0 0 - 1 - lv) := by rw [hk, m_down, pe]
          have p13 : (m_pf 13 im' (lv + 1) * 13 + 0) * 13 ^ (V 0 0 - 1 - (lv + 1)) = (m_pf 13 im lv * 13 + x) * 13 ^ (V 0 0 - 1 - lv) := by rw [hk, m_down, pe]
          refine ih (t + 1) (lv + 1) im' 0 _ _ (by omega) hl ew e6 hn' (by omega) ?_ (fun j h4 h5 => ?_) hs' (by rw [p12]; omega) (by rw [p12]; exact g9) (by rw [p13]; omega)
          · rw [w, upd_ne (by omega), hj _ (by omega) hl]
            rfl
          · rw [w, upd_ne (by omega)]
            exact hj j (by omega) h5
        · have hl1 : V 0 0 = lv + 1 := by omega
          have hk0 : V 0 0 - 1 - lv = 0 := by omega
          have hv : m_pf 12 im lv * 12 + x < 12 ^ V 0 0 := by
            have := m_pf_lt (b := 12) (im := im') (by decide) (lv + 1) (fun i hi => (hn' i hi).2)
            rw [pe] at this
            rw [hl1]
            exact this
          rw [hk0, Nat.pow_zero, Nat.mul_one] at q12 q13 g9 g3 g1
          have dg : ∀ i, i < V 0 0 → m_im (V 0 0) (m_pf 12 im lv * 12 + x) i = im' i := by
            intro i hi
            have := m_im_pf (lv + 1) (fun i hi => (hn' i hi).2) i (by omega)
            rw [pe] at this
            rw [hl1]
            exact this
          have hn9 : m_nd (q_sA h1 602 lv (nI x)) (V 0 0) (m_im (V 0 0) (m_pf 12 im lv * 12 + x)) := by
            intro i hi
            rw [dg i hi]
            exact hn' i (by omega)
          have su9 : ∀ i, i < V 0 0 → m_su B (qA h 598) (m_im (V 0 0) (m_pf 12 im lv * 12 + x)) V i (m_im (V 0 0) (m_pf 12 im lv * 12 + x) i) := by
            intro i hi
            rw [dg i hi]
            exact m_su_ext (fun y hy => (dg y (by omega)).symm) (hs' i (by omega))
          have A2 := A.fw ew
          have f2' : qA (q_sA h1 602 lv (nI x)) 598 = qA h 598 := ew.A (by decide)
          refine b94_97 (fun _ => b94_108 (s99 A2 hn9) (by decide) ?_) (fun h4 => absurd ((nI_leI (by omega) (by omega)).mpr (by omega)) h4)
          rintro z h4 ⟨a1, a2, a3, a4⟩
          rw [f2'] at a3 a4
          subst a3
          have ew4 := ew.trans a1.fw
          have e64 : qI h4 601 6 = 0 := (a1.2.2 6 (by decide)).trans e6
          refine b94_112 (fun c1 => b94_117 ?_) (fun c1 => b94_115 ?_)
          · have hf : m_M B (qA h 598) V (m_pf 12 im lv * 12 + x) = false := by
              unfold m_M
              rw [m_dc_f]
              rintro ⟨L, hL⟩
              exact m_dc_f.mp (b2i_eq.mp c1) ⟨L, hL.2.2⟩
            rw [nI_1]
            refine ih (t + 1) lv im (x + 1) _ _ (by omega) hlv ew4 e64 (fun i hi => ?_) (by omega) ?_ (fun j h5 h6 => by omega) hs (by rw [hk0, Nat.pow_zero, Nat.mul_one]; omega) ?_ (by rw [hk0, Nat.pow_zero, Nat.mul_one]; omega)
            · rw [a2, w, upd_ne (by omega)]
              exact hn i hi
            · rw [a2, w, upd_eq, nI_1]
            · rw [hk0, Nat.pow_zero, Nat.mul_one]
              intro u h5 h6
              by_cases h7 : u = m_pf 12 im lv * 12 + x
              · rw [h7]; exact hf
              · exact g9 u h5 (by omega)
          · obtain ⟨L, hL⟩ := m_dc_t.mp (b2i_ne.mp c1)
            refine fyes h4 _ ew4 (by omega) hv ?_ g9 e64 (hn9.fs a2) a4
            unfold m_M
            rw [m_dc_t]
            exact ⟨L, m_su_ma su9 hL⟩
  rcases Nat.eq_zero_or_pos (V 0 0) with h0 | h0
  · have hx2 : qI h o 0 - 1 = -1 := by rw [eI, h0]; rfl
    have p1 : 12 ^ V 0 0 = 1 := by rw [h0]
    rcases at0 with ⟨rfl, h1, h2⟩ | ⟨v, rfl, h1, h2, h3, h4⟩
    · refine b94_0 (S.ok rfl) f2 (S.oo ho) (fun h5 => absurd (h1.symm.trans h5) (by decide)) (fun _ => b94_19 (b94_24 (S.ok rfl) (fun h5 => absurd h5 (by rw [hx2]; decide)) (fun _ => b94_34 (fun h5 => absurd (h1.symm.trans h5) (by decide)) (fun _ => ?_))))
      have ew : m_fw h (q_sI h 601 6 0) := m_fw.sI
      have hn9 : m_nd (q_sI h 601 6 0) (V 0 0) (m_im (V 0 0) 0) := fun i hi => by omega
      refine b94_38 (s99 (A.fw ew) hn9) (by decide) ?_
      rintro z h4 ⟨a1, a2, a3, a4⟩
      subst a3
      refine b94_42 (fun c1 => b94_49 (fno _ (ew.trans a1.fw) (fun u h5 h6 => ?_))) (fun c1 => b94_45 ?_)
      · obtain rfl : u = 0 := by omega
        unfold m_M
        rw [m_dc_f]
        rintro ⟨L, hL⟩
        exact m_dc_f.mp (b2i_eq.mp c1) ⟨L, hL.2.2⟩
      · obtain ⟨L, hL⟩ := m_dc_t.mp (b2i_ne.mp c1)
        refine fyes h4 0 (ew.trans a1.fw) (Nat.le_refl _) (by omega) ?_ (fun u h5 h6 => absurd h6 (Nat.not_lt_zero _)) ((a1.2.2 6 (by decide)).trans ?_) (hn9.fs a2) a4
        · unfold m_M
          rw [m_dc_t]
          exact ⟨L, m_su_ma (fun i hi => by omega) hL⟩
        · rw [qI_sI, if_pos ⟨rfl, rfl⟩]
    · refine b94_0 (S.ok rfl) f2 (S.oo ho) (fun _ => b94_23 (b94_24 (S.ok rfl) (fun h5 => absurd h5 (by rw [hx2]; decide)) (fun _ => b94_34 (fun _ => b94_49 (fno _ m_fw.sI (fun u h5 h6 => by omega))) (fun h5 => absurd h2 h5)))) (fun h5 => absurd h2 h5)
  · have hx2 : qI h o 0 - 1 = nI (V 0 0 - 1) := by rw [eI]; exact pk_sub h0
    rcases at0 with ⟨rfl, h1, h2⟩ | ⟨v, rfl, h1, h2, h3, h4⟩
    · refine b94_0 (S.ok rfl) f2 (S.oo ho) (fun h5 => absurd (h1.symm.trans h5) (by decide)) (fun _ => b94_19 ?_)
      rw [hx2]
      refine b94_24 (S.ok rfl) (fun _ => b94_51 ?_) (fun h5 => absurd ((nI_leI (a := 0) (by decide) (by omega)).mpr (Nat.zero_le _)) h5)
      refine loop 1000000 0 0 (fun _ => 0) 0 _ _ rfl h0 m_fw.sI (by rw [qI_sI, if_pos ⟨rfl, rfl⟩]) (fun i hi => absurd hi (Nat.not_lt_zero _)) (by omega) ?_ (fun j h5 h6 => ?_) (fun i hi => absurd hi (Nat.not_lt_zero _)) (Nat.zero_le _) (fun u h5 h6 => ?_) (Nat.zero_le _)
      · show qA h 602 0 + 1 = nI 0
        rw [h2 0 (by decide)]
        rfl
      · exact h2 j (by omega)
      · have : (m_pf 12 (fun _ => 0) 0 * 12 + 0) * 12 ^ (V 0 0 - 1 - 0) = 0 := by
          show (0 * 12 + 0) * _ = 0
          simp
        omega
    · obtain ⟨n, hn0⟩ : ∃ n, V 0 0 = n + 1 := ⟨V 0 0 - 1, by omega⟩
      refine b94_0 (S.ok rfl) f2 (S.oo ho) (fun _ => b94_23 ?_) (fun h5 => absurd h2 h5)
      rw [hx2]
      refine b94_24 (S.ok rfl) (fun _ => b94_51 ?_) (fun h5 => absurd ((nI_leI (a := 0) (by decide) (by omega)).mpr (Nat.zero_le _)) h5)
      have e9 : (m_pf 12 (m_im (V 0 0) v) (V 0 0 - 1) * 12 + (m_im (V 0 0) v (V 0 0 - 1) + 1)) * 12 ^ (V 0 0 - 1 - (V 0 0 - 1)) = v + 1 := by
        rw [Nat.sub_self, Nat.pow_zero, Nat.mul_one]
        have := m_pf_im (N := V 0 0) v h1
        rw [m_pf_p h0] at this
        omega
      obtain ⟨L, hL⟩ := m_dc_t.mp h4
      refine loop 1000000 0 (V 0 0 - 1) (m_im (V 0 0) v) (m_im (V 0 0) v (V 0 0 - 1) + 1) _ _ rfl (by omega) m_fw.sI (by rw [qI_sI, if_pos ⟨rfl, rfl⟩]) (fun i hi => h3 i (by omega)) (by have := m_im_lt (N := V 0 0) (v := v) (i := V 0 0 - 1); omega) ?_ (fun j h5 h6 => by omega) (fun i hi => m_ma_su hL i (by omega)) (by rw [e9]; exact Nat.le_refl _) (by rw [e9]; intro u h5 h6; omega) (Nat.zero_le _)
      show qA h 602 (V 0 0 - 1) + 1 = _
      rw [(h3 (V 0 0 - 1) (by omega)).1, nI_1]
