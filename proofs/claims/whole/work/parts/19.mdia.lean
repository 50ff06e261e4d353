/-! THE REFERENCE's diagram: the same words of the row 691 -/
theorem q_on_s (i : Nat) : q_on (some i) = nI i := rfl
theorem q_cnt_s (p : Nat → Bool) (n : Nat) : q_cnt p (n + 1) = q_cnt p n + (if p n then 1 else 0) := rfl
theorem q_Sh.mo {h : q_Hp} (S : q_Sh h) : q_ok h 630 12 := S.ok rfl
theorem q_Sh.md {h : q_Hp} (S : q_Sh h) : q_ok h 691 20 := S.ok rfl
theorem q_Sh.mr {h : q_Hp} (S : q_Sh h) : qR h 630 87 = 691 := S.ref rfl
theorem q_Sh.ml {h : q_Hp} (S : q_Sh h) : (qK h 691).2 = 156 := S.len rfl
theorem q_Sh.mi {h : q_Hp} (S : q_Sh h) {j : Nat} (hj : j < 156) : q_in (nI j) (qK h 691).2 := q_inN (by rw [S.ml]; exact hj) (by rw [S.ml]; decide)
theorem s294 {h : q_Hp} {x : Int32} (S : q_Sh h) : q_mI 0 294 [.ref 630, .int x] h (fun z h' => h' = h ∧ z = b2i (d_has (qA h 691) x)) := by
  refine ⟨q_recV rfl S.mo, ?_⟩
  refine b294_0 (fun h1 => b294_24 ⟨_, rfl, rfl, ?_⟩) (fun h1 => b294_4 (fun h2 => b294_24 ⟨_, rfl, rfl, ?_⟩) (fun h2 => ?_))
  · simp [d_has, q_rg_lo h1, b2i]
  · simp [d_has, q_rg_hi (n := 12) rfl h2, b2i]
  · have h3 := q_rg_in (n := 12) rfl h1 h2
    refine b294_10 S.mo S.mr S.md (q_rg_q h3 (by decide) (by rw [S.ml]; decide)) (fun h4 => b294_24 ⟨_, rfl, rfl, ?_⟩) (fun h4 => b294_20 ⟨_, rfl, rfl, ?_⟩)
    · simp [d_has, h3, h4, b2i]
    · simp [d_has, h3, h4, b2i]
theorem s295 {h : q_Hp} {x : Int32} (S : q_Sh h) : q_mI 0 295 [.ref 630, .int x] h (fun z h' => h' = h ∧ z = b2i (d_hasL (qA h 691) x)) := by
  refine ⟨q_recV rfl S.mo, ?_⟩
  refine b295_0 (fun h1 => b295_27 ⟨_, rfl, rfl, ?_⟩) (fun h1 => b295_4 (fun h2 => b295_27 ⟨_, rfl, rfl, ?_⟩) (fun h2 => ?_))
  · simp [d_hasL, q_rg_lo h1, b2i]
  · simp [d_hasL, q_rg_hi (n := 40) rfl h2, b2i]
  · have h3 := q_rg_in (n := 40) rfl h1 h2
    obtain ⟨j, hj, rfl⟩ := (q_rg_ex (by decide)).mp h3
    refine b295_10 S.mo S.mr S.md (by rw [a36]; exact S.mi (by omega)) (fun h4 => b295_27 ⟨_, rfl, rfl, ?_⟩) (fun h4 => b295_23 ⟨_, rfl, rfl, ?_⟩)
    · rw [a36, nI_clamp (by omega)] at h4
      simp [d_hasL, h3, nI_clamp (show j < 2 ^ 31 by omega), h4, b2i]
    · rw [a36, nI_clamp (by omega)] at h4
      simp [d_hasL, h3, nI_clamp (show j < 2 ^ 31 by omega), h4, b2i]
theorem s296 {h : q_Hp} {b k : Nat} (S : q_Sh h) (hb : b + k ≤ 156) : q_mI 0 296 [.ref 630, .int (nI b), .int (nI k)] h (fun z h' => h' = h ∧ z = nI (q_cnt (fun i => !(qA h 691 (b + i) == -1)) k)) := by
  refine ⟨q_recV rfl S.mo, ?_⟩
  have loop : ∀ m i, i + m = k → q_wp 0 296 5 [some (.ref 630), some (.int (nI b)), some (.int (nI k)), some (.int (nI (q_cnt (fun i => !(qA h 691 (b + i) == -1)) i))), some (.int (nI i))] [] h (fun r h' => ∃ z : Int32, r = some (.int z) ∧ h' = h ∧ z = nI (q_cnt (fun i => !(qA h 691 (b + i) == -1)) k)) := by
    intro m
    induction m with
    | zero =>
      intro i hi
      obtain rfl : i = k := by omega
      exact b296_5 (fun _ => b296_33 ⟨_, rfl, rfl, rfl⟩) (fun h1 => absurd (Int32.le_refl _) h1)
    | succ m ih =>
      intro i hi
      have h9 := ih (i + 1) (by omega)
      rw [q_cnt_s _ i] at h9
      refine b296_5 (fun h1 => absurd ((nI_leI (by omega) (by omega)).mp h1) (by omega)) (fun _ => b296_11 S.mo S.mr S.md (by rw [nI_add]; exact S.mi (by omega)) (fun h2 => b296_27 ?_) (fun h2 => b296_24 (b296_27 ?_)))
      · rw [nI_add, nI_clamp (by omega)] at h2
        rw [nI_1]
        simpa [h2] using h9
      · rw [nI_add, nI_clamp (by omega)] at h2
        rw [nI_1, nI_1]
        simpa [h2] using h9
  exact b296_0 (loop k 0 (by omega))
theorem s297 {h : q_Hp} {b k : Nat} (S : q_Sh h) (hb : b + k ≤ 156) : q_mI 0 297 [.ref 630, .int (nI b), .int (nI k)] h (fun z h' => h' = h ∧ z = q_on (d_free (qA h 691) b k)) := by
  refine ⟨q_recV rfl S.mo, ?_⟩
  have loop : ∀ m i, i + m = k → q_wp 0 297 2 [some (.ref 630), some (.int (nI b)), some (.int (nI k)), some (.int (nI i))] [] h (fun r h' => ∃ z : Int32, r = some (.int z) ∧ h' = h ∧ z = q_on (q_fst (fun i => qA h 691 (b + i) == -1) i m)) := by
    intro m
    induction m with
    | zero =>
      intro i hi
      obtain rfl : i = k := by omega
      exact b297_2 (fun _ => b297_27 ⟨_, rfl, rfl, rfl⟩) (fun h1 => absurd (Int32.le_refl _) h1)
    | succ m ih =>
      intro i hi
      refine b297_2 (fun h1 => absurd ((nI_leI (by omega) (by omega)).mp h1) (by omega)) (fun _ => b297_7 S.mo S.mr S.md (by rw [nI_add]; exact S.mi (by omega)) (fun h2 => b297_21 ?_) (fun h2 => b297_19 ⟨_, rfl, rfl, ?_⟩))
      · rw [nI_add, nI_clamp (by omega)] at h2
        rw [nI_1]
        unfold q_fst
        rw [if_neg (by simpa using h2)]
        exact ih (i + 1) (by omega)
      · rw [nI_add, nI_clamp (by omega)] at h2
        unfold q_fst
        rw [if_pos (by simpa using h2)]
        rfl
  exact b297_0 (loop k 0 (by omega))
theorem s298 {h : q_Hp} (S : q_Sh h) : q_mI 0 298 [.ref 630] h (fun z h' => h' = h ∧ z = b2i (qI h 630 104 == 4)) := by
  refine ⟨q_recV rfl S.mo, b298_0 S.mo (fun h1 => b298_12 ⟨_, rfl, rfl, ?_⟩) (fun h1 => b298_8 ⟨_, rfl, rfl, ?_⟩)⟩
  · simp [h1, b2i]
  · simp [h1, b2i]
/-- a row of places is free: the first one's number is below the row's length -/
theorem q_fst_lt {p : Nat → Bool} : ∀ (n i j : Nat), q_fst p i n = some j → i ≤ j ∧ j < i + n ∧ p j = true := by
  intro n
  induction n with
  | zero => intro i j h; cases h
  | succ n ih =>
    intro i j h
    unfold q_fst at h
    split at h
    next h1 => cases h; exact ⟨Nat.le_refl _, by omega, h1⟩
    next =>
      obtain ⟨h2, h3, h4⟩ := ih _ _ h
      exact ⟨by omega, by omega, h4⟩
theorem q_on_ne {j : Nat} (h : j < 2 ^ 31) : ¬ nI j = -1 := by
  intro e
  have h1 := congrArg Int32.toInt e
  rw [nI_toInt h] at h1
  have : (-1 : Int32).toInt = -1 := by decide
  omega
def d_newN (h : q_Hp) (i : Nat) (x : Int32) : q_Hp := q_sA (q_sA (q_sA h 691 i x) 691 (12 + i) 0) 691 (24 + i) 0
theorem s299 {h : q_Hp} {x : Int32} (S : q_Sh h) : q_mI 1 299 [.ref 630, .int x] h (fun z h' => z = q_on (d_free (qA h 691) 0 12) ∧ h' = match d_free (qA h 691) 0 12 with | some i => d_newN h i x | none => h) := by
  refine ⟨q_recV rfl S.mo, b299_0 (s297 (b := 0) (k := 12) S (by decide)) (by decide) ?_⟩
  rintro z h1 ⟨e0, rfl⟩
  subst h1
  cases hf : d_free (qA h 691) 0 12 with
  | none => exact b299_7 (fun h2 => absurd rfl h2) (fun _ => b299_13 ⟨_, rfl, rfl, rfl⟩)
  | some i =>
    have hi := q_fst_lt _ _ _ hf
    rw [q_on_s]
    refine b299_7 (fun _ => b299_15 S.mo S.mr S.md (S.mi (by omega)) (by rw [a12]; exact S.mi (by omega)) (by rw [a24]; exact S.mi (by omega)) ⟨_, rfl, rfl, ?_⟩) (fun h2 => absurd h2 (q_on_ne (by omega)))
    rw [a12, a24, nI_clamp (by omega), nI_clamp (by omega), nI_clamp (by omega)]
    rfl
theorem s300 {h : q_Hp} {s f t : Int32} (S : q_Sh h) : q_mI 1 300 [.ref 630, .int s, .int f, .int t] h (fun z h' => z = q_on (d_free (qA h 691) 36 40) ∧ h' = match d_free (qA h 691) 36 40 with | some i => d_lnk3 h 691 i s f t | none => h) := by
  refine ⟨q_recV rfl S.mo, b300_0 (s297 (b := 36) (k := 40) S (by decide)) (by decide) ?_⟩
  rintro z h1 ⟨e0, rfl⟩
  subst h1
  cases hf : d_free (qA h 691) 36 40 with
  | none => exact b300_8 (fun h2 => absurd rfl h2) (fun _ => b300_16 ⟨_, rfl, rfl, rfl⟩)
  | some i =>
    have hi := q_fst_lt _ _ _ hf
    rw [q_on_s]
    refine b300_8 (fun _ => b300_18 S.mo S.mr S.md (by rw [a36]; exact S.mi (by omega)) (by rw [a76]; exact S.mi (by omega)) (by rw [a116]; exact S.mi (by omega)) ⟨_, rfl, rfl, ?_⟩) (fun h2 => absurd h2 (q_on_ne (by omega)))
    rw [a36, a76, a116, nI_clamp (by omega), nI_clamp (by omega), nI_clamp (by omega)]
    rfl
theorem s304 {h : q_Hp} {x : Int32} {b : Nat} (S : q_Sh h) (hb : b + 40 ≤ 156) : q_mI 0 304 [.ref 630, .int x, .int (nI b)] h (fun z h' => h' = h ∧ z = nI (d_ends (qA h 691) b x)) := by
  refine ⟨q_recV rfl S.mo, ?_⟩
  have loop : ∀ m i, i + m = 40 → q_wp 0 304 5 [some (.ref 630), some (.int x), some (.int (nI b)), some (.int (nI (q_cnt (fun i => !(qA h 691 (36 + i) == -1) && qA h 691 (b + i) == x) i))), some (.int (nI i))] [] h (fun r h' => ∃ z : Int32, r = some (.int z) ∧ h' = h ∧ z = nI (d_ends (qA h 691) b x)) := by
    intro m
    induction m with
    | zero =>
      intro i hi
      obtain rfl : i = 40 := by omega
      exact b304_5 (fun _ => b304_48 ⟨_, rfl, rfl, rfl⟩) (fun h1 => absurd (Int32.le_refl _) h1)
    | succ m ih =>
      intro i hi
      have h9 := ih (i + 1) (by omega)
      rw [q_cnt_s _ i] at h9
      refine b304_5 (fun h1 => absurd ((nI_gec (k := 40) (by omega) (by decide) rfl).mp h1) (by omega)) (fun _ => b304_12 S.mo S.mr S.md (by rw [a36]; exact S.mi (by omega)) (fun h2 => b304_42 ?_) (fun h2 => b304_26 S.mo S.mr S.md (by rw [nI_add]; exact S.mi (by omega)) (fun h3 => b304_42 ?_) (fun h3 => b304_39 (b304_42 ?_))))
      · rw [a36, nI_clamp (by omega)] at h2
        rw [nI_1]
        simpa [h2] using h9
      · rw [a36, nI_clamp (by omega)] at h2
        rw [nI_add, nI_clamp (by omega)] at h3
        rw [nI_1]
        simpa [h2, h3] using h9
      · rw [a36, nI_clamp (by omega)] at h2
        rw [nI_add, nI_clamp (by omega)] at h3
        rw [nI_1, nI_1]
        simpa [h2, h3] using h9
  exact b304_0 (loop 40 0 rfl)
theorem s306 {h : q_Hp} {j : Nat} (S : q_Sh h) (hj : j < 12) : q_mV 0 306 [.ref 630, .int (nI j)] h (fun h' => h' = q_sA (q_sA (q_sA h 691 j (-1)) 691 (12 + j) 0) 691 (24 + j) 0) := by
  refine ⟨q_recV rfl S.mo, b306_0 S.mo S.mr S.md (S.mi (by omega)) (by rw [a12]; exact S.mi (by omega)) (by rw [a24]; exact S.mi (by omega)) ⟨rfl, ?_⟩⟩
  rw [a12, a24, nI_clamp (by omega), nI_clamp (by omega), nI_clamp (by omega)]
theorem s307 {h : q_Hp} {j : Nat} (S : q_Sh h) (hj : j < 40) : q_mV 0 307 [.ref 630, .int (nI j)] h (fun h' => h' = d_lnk3 h 691 j (-1) 0 0) := by
  refine ⟨q_recV rfl S.mo, b307_0 S.mo S.mr S.md (by rw [a36]; exact S.mi (by omega)) (by rw [a76]; exact S.mi (by omega)) (by rw [a116]; exact S.mi (by omega)) ⟨rfl, ?_⟩⟩
  rw [a36, a76, a116, nI_clamp (by omega), nI_clamp (by omega), nI_clamp (by omega)]
  rfl
/-- the diagram's row is copied: to a place of a row, and back -/
theorem s292 {h : q_Hp} {s len b : Nat} (S : q_Sh h) (hs : q_ok h s 20) (hl : (qK h s).2 = len) (hb : b + 156 ≤ len) (hl2 : len < 2 ^ 31) (hne : s ≠ 691) : q_mV 0 292 [.ref 630, .ref s, .int (nI b)] h (fun h' => h' = q_wA h s (va_cpy (qA h 691) (qA h s) 0 b 156)) := by
  refine ⟨q_recV rfl S.mo, ?_⟩
  have loop : ∀ m i, i + m = 156 → q_wp 0 292 2 [some (.ref 630), some (.ref s), some (.int (nI b)), some (.int (nI i))] [] (q_wA h s (va_cpy (qA h 691) (qA h s) 0 b i)) (fun r h' => r = none ∧ h' = q_wA h s (va_cpy (qA h 691) (qA h s) 0 b 156)) := by
    intro m
    induction m with
    | zero =>
      intro i hi
      obtain rfl : i = 156 := by omega
      exact b292_2 (fun _ => b292_26 ⟨rfl, rfl⟩) (fun h1 => absurd (Int32.le_refl _) h1)
    | succ m ih =>
      intro i hi
      refine b292_2 (fun h1 => absurd ((nI_gec (k := 156) (by omega) (by decide) rfl).mp h1) (by omega)) (fun _ => b292_9 S.mo S.mr S.md (S.mi (by omega)) hs (by rw [nI_add]; exact q_inN (by show _ < (qK h s).2; rw [hl]; omega) (by show (qK h s).2 < _; rw [hl]; exact hl2)) ?_)
      rw [nI_1, nI_add, nI_clamp (by omega), nI_clamp (by omega), q_sA_wA', qA_wA, if_neg (Ne.symm hne)]
      have e : upd (va_cpy (qA h 691) (qA h s) 0 b i) (b + i) (qA h 691 i) = va_cpy (qA h 691) (qA h s) 0 b (i + 1) := by
        funext x
        unfold upd va_cpy
        by_cases h1 : x = b + i
        · rw [if_pos h1, if_pos (by omega)]
          congr 1
          omega
        · rw [if_neg h1]
          by_cases h2 : b ≤ x ∧ x < b + i
          · rw [if_pos h2, if_pos (by omega)]
          · rw [if_neg h2, if_neg (by omega)]
      rw [e]
      exact ih (i + 1) (by omega)
  have h0 := loop 156 0 rfl
  have e0 : va_cpy (qA h 691) (qA h s) 0 b 0 = qA h s := by
    funext x
    unfold va_cpy
    rw [if_neg (by omega)]
  rw [e0, q_wA_self] at h0
  exact b292_0 h0
theorem s293 {h : q_Hp} {s len b : Nat} (S : q_Sh h) (hs : q_ok h s 20) (hl : (qK h s).2 = len) (hb : b + 156 ≤ len) (hl2 : len < 2 ^ 31) (hne : s ≠ 691) : q_mV 0 293 [.ref 630, .ref s, .int (nI b)] h (fun h' => h' = q_wA h 691 (va_cpy (qA h s) (qA h 691) b 0 156)) := by
  refine ⟨q_recV rfl S.mo, ?_⟩
  have loop : ∀ m i, i + m = 156 → q_wp 0 293 2 [some (.ref 630), some (.ref s), some (.int (nI b)), some (.int (nI i))] [] (q_wA h 691 (va_cpy (qA h s) (qA h 691) b 0 i)) (fun r h' => r = none ∧ h' = q_wA h 691 (va_cpy (qA h s) (qA h 691) b 0 156)) := by
    intro m
    induction m with
    | zero =>
      intro i hi
      obtain rfl : i = 156 := by omega
      exact b293_2 (fun _ => b293_26 ⟨rfl, rfl⟩) (fun h1 => absurd (Int32.le_refl _) h1)
    | succ m ih =>
      intro i hi
      refine b293_2 (fun h1 => absurd ((nI_gec (k := 156) (by omega) (by decide) rfl).mp h1) (by omega)) (fun _ => b293_9 S.mo S.mr hs (by rw [nI_add]; exact q_inN (by show _ < (qK h s).2; rw [hl]; omega) (by show (qK h s).2 < _; rw [hl]; exact hl2)) S.md (S.mi (by omega)) ?_)
      rw [nI_1, nI_add, nI_clamp (by omega), nI_clamp (by omega), q_sA_wA', qA_wA, if_neg hne]
      have e : upd (va_cpy (qA h s) (qA h 691) b 0 i) i (qA h s (b + i)) = va_cpy (qA h s) (qA h 691) b 0 (i + 1) := by
        funext x
        unfold upd va_cpy
        by_cases h1 : x = i
        · rw [if_pos h1, if_pos (by omega)]
          congr 1
          omega
        · rw [if_neg h1]
          by_cases h2 : 0 ≤ x ∧ x < 0 + i
          · rw [if_pos h2, if_pos (by omega)]
          · rw [if_neg h2, if_neg (by omega)]
      rw [e]
      exact ih (i + 1) (by omega)
  have h0 := loop 156 0 rfl
  have e0 : va_cpy (qA h s) (qA h 691) b 0 0 = qA h 691 := by
    funext x
    unfold va_cpy
    rw [if_neg (by omega)]
  rw [e0, q_wA_self] at h0
  exact b293_0 h0
