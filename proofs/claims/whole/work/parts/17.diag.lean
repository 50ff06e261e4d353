/-! DIAGRAM: what its methods do -/
def q_Dg (h : q_Hp) (o c : Nat) : Prop := q_ok h o 2 ∧ qR h o 0 = c ∧ q_ok h c 20 ∧ (qK h c).2 = 156
theorem q_recV {k o : Nat} {tl : List Value} {h : q_Hp} (hs : (!q_stc k && decide (q_ow k < 13) && decide ((q_slots (.ref o :: tl)).length ≤ q_ml k) && decide ((Value.ref o :: tl).length = q_na k) && tl.all q_okv) = true) (hok : q_ok h o (q_ow k)) : q_rec k (.ref o :: tl) h = true := by
  simp only [Bool.and_eq_true, decide_eq_true_eq] at hs
  obtain ⟨⟨⟨⟨h1, h2⟩, h3⟩, h4⟩, h5⟩ := hs
  unfold q_rec
  simp only [Bool.and_eq_true, Bool.or_eq_true, decide_eq_true_eq]
  exact ⟨⟨⟨Or.inr (Or.inl ⟨h2, hok⟩), h3⟩, h4⟩, h5⟩
theorem q_recS {k : Nat} {av : List Value} {h : q_Hp} (hs : (q_stc k && decide ((q_slots av).length ≤ q_ml k) && decide (av.length = q_na k) && av.all q_okv) = true) : q_rec k av h = true := by
  simp only [Bool.and_eq_true, decide_eq_true_eq] at hs
  obtain ⟨⟨⟨h1, h3⟩, h4⟩, h5⟩ := hs
  unfold q_rec
  simp only [Bool.and_eq_true, Bool.or_eq_true, decide_eq_true_eq]
  exact ⟨⟨⟨Or.inl h1, h3⟩, h4⟩, h5⟩
def b2i (b : Bool) : Int32 := if b then 1 else 0
theorem b2i_eq {b : Bool} : b2i b = 0 ↔ b = false := by cases b <;> decide
theorem b2i_ne {b : Bool} : ¬ b2i b = 0 ↔ b = true := by cases b <;> decide
theorem b2i_01 (b : Bool) : b2i b = 0 ∨ b2i b = 1 := by cases b <;> decide
/-- in a range that begins at 0 -/
def q_rg (x : Int32) (n : Nat) : Bool := decide (¬ x < 0) && decide (x < nI n)
theorem q_rg_lo {x : Int32} {n : Nat} (h : x < 0) : q_rg x n = false := by simp [q_rg, h]
theorem q_rg_hi {x c : Int32} {n : Nat} (hc : c = nI n) (h : c ≤ x) : q_rg x n = false := by
  subst hc
  simp [q_rg, Int32.not_lt.mpr h]
theorem q_rg_in {x c : Int32} {n : Nat} (hc : c = nI n) (h0 : ¬ x < 0) (h : ¬ c ≤ x) : q_rg x n = true := by
  subst hc
  simp [q_rg, h0, Int32.not_le.mp h]
theorem q_rg_in' {x c : Int32} {n : Nat} (hc : c = nI n) (h0 : ¬ x < 0) (h : x < c) : q_rg x n = true := by
  subst hc
  simp [q_rg, h0, h]
theorem q_rg_hi' {x c : Int32} {n : Nat} (hc : c = nI n) (h : ¬ x < c) : q_rg x n = false := by
  subst hc
  simp [q_rg, h]
theorem q_rg_ex {x : Int32} {n : Nat} (hn : n < 2 ^ 31) : q_rg x n = true ↔ ∃ j, j < n ∧ x = nI j := by
  unfold q_rg
  rw [Bool.and_eq_true, decide_eq_true_eq, decide_eq_true_eq]
  exact q_cases hn
theorem q_rgN {j n : Nat} (h : j < n) (hn : n < 2 ^ 31) : q_rg (nI j) n = true := (q_rg_ex hn).mpr ⟨j, h, rfl⟩
theorem q_rg_q {x : Int32} {n m : Nat} (h : q_rg x n = true) (hn : n < 2 ^ 31) (hm : n ≤ m) : q_in x m := by
  obtain ⟨j, hj, rfl⟩ := (q_rg_ex hn).mp h
  exact ⟨nI_pos (by omega), by rw [nI_clamp (by omega)]; omega⟩
def d_ty (f : Nat → Int32) (x : Int32) : Int32 := if q_rg x 12 then f x.toNatClampNeg else -1
def d_has (f : Nat → Int32) (x : Int32) : Bool := q_rg x 12 && !(f x.toNatClampNeg == -1)
def d_at (f : Nat → Int32) (b : Nat) (x : Int32) : Int32 := if q_rg x 40 then f (b + x.toNatClampNeg) else -1
def d_hasL (f : Nat → Int32) (x : Int32) : Bool := q_rg x 40 && !(f (36 + x.toNatClampNeg) == -1)
theorem s64 {h : q_Hp} {o c : Nat} {x : Int32} (hd : q_Dg h o c) : q_mI 0 64 [.ref o, .int x] h (fun z h' => h' = h ∧ z = d_ty (qA h c) x) := by
  refine ⟨q_recV rfl hd.1, ?_⟩
  refine b64_0 (fun h1 => b64_19 ⟨_, rfl, rfl, ?_⟩) (fun h1 => b64_4 (fun h2 => b64_19 ⟨_, rfl, rfl, ?_⟩) (fun h2 => ?_))
  · simp [d_ty, q_rg_lo h1]
  · simp [d_ty, q_rg_hi (n := 12) rfl h2]
  · have h3 := q_rg_in (n := 12) rfl h1 h2
    refine b64_10 hd.1 hd.2.1 hd.2.2.1 (q_rg_q h3 (by decide) (by rw [hd.2.2.2]; decide)) ⟨_, rfl, rfl, ?_⟩
    simp [d_ty, h3]
theorem s65 {h : q_Hp} {o c : Nat} {x : Int32} (hd : q_Dg h o c) : q_mI 0 65 [.ref o, .int x] h (fun z h' => h' = h ∧ z = b2i (d_has (qA h c) x)) := by
  refine ⟨q_recV rfl hd.1, ?_⟩
  refine b65_0 (fun h1 => b65_24 ⟨_, rfl, rfl, ?_⟩) (fun h1 => b65_4 (fun h2 => b65_24 ⟨_, rfl, rfl, ?_⟩) (fun h2 => ?_))
  · simp [d_has, q_rg_lo h1, b2i]
  · simp [d_has, q_rg_hi (n := 12) rfl h2, b2i]
  · have h3 := q_rg_in (n := 12) rfl h1 h2
    refine b65_10 hd.1 hd.2.1 hd.2.2.1 (q_rg_q h3 (by decide) (by rw [hd.2.2.2]; decide)) (fun h4 => b65_24 ⟨_, rfl, rfl, ?_⟩) (fun h4 => b65_20 ⟨_, rfl, rfl, ?_⟩)
    · simp [d_has, h3, h4, b2i]
    · simp [d_has, h3, h4, b2i]
def q_cnt (p : Nat → Bool) : Nat → Nat
  | 0 => 0
  | n + 1 => q_cnt p n + (if p n then 1 else 0)
theorem q_cnt_le (p : Nat → Bool) (n : Nat) : q_cnt p n ≤ n := by
  induction n with
  | zero => exact Nat.le_refl _
  | succ n ih =>
    unfold q_cnt
    split <;> omega
def d_nodes (f : Nat → Int32) : Nat := q_cnt (fun i => !(f i == -1)) 12
def d_links (f : Nat → Int32) : Nat := q_cnt (fun i => !(f (36 + i) == -1)) 40
theorem s72 {h : q_Hp} {o c : Nat} (hd : q_Dg h o c) : q_mI 0 72 [.ref o] h (fun z h' => h' = h ∧ z = nI (d_nodes (qA h c))) := by
  refine ⟨q_recV rfl hd.1, ?_⟩
  have loop : ∀ m i, i + m = 12 → q_wp 0 72 4 [some (.ref o), some (.int (nI (q_cnt (fun i => !(qA h c i == -1)) i))), some (.int (nI i))] [] h (fun r h' => ∃ z : Int32, r = some (.int z) ∧ h' = h ∧ z = nI (d_nodes (qA h c))) := by
    intro m
    induction m with
    | zero =>
      intro i hi
      obtain rfl : i = 12 := by omega
      exact b72_4 (fun _ => b72_29 ⟨_, rfl, rfl, rfl⟩) (fun h1 => absurd (Int32.le_refl _) h1)
    | succ m ih =>
      intro i hi
      refine b72_4 (fun h1 => absurd ((nI_gec (k := 12) (by omega) (by decide) rfl).mp h1) (by omega)) (fun _ => b72_10 hd.1 hd.2.1 hd.2.2.1 (q_inN (by rw [hd.2.2.2]; omega) (by rw [hd.2.2.2]; decide)) (fun h2 => b72_23 ?_) (fun h2 => b72_20 (b72_23 ?_)))
      · have := ih (i + 1) (by omega)
        rw [nI_clamp (by omega)] at h2
        rw [nI_1]
        unfold q_cnt at this
        simpa [h2] using this
      · have := ih (i + 1) (by omega)
        rw [nI_clamp (by omega)] at h2
        rw [nI_1, nI_1]
        unfold q_cnt at this
        simpa [h2] using this
  exact b72_0 (loop 12 0 rfl)
theorem a12 (i : Nat) : (12 : Int32) + nI i = nI (12 + i) := nI_add 12 i
theorem a24 (i : Nat) : (24 : Int32) + nI i = nI (24 + i) := nI_add 24 i
theorem a36 (i : Nat) : (36 : Int32) + nI i = nI (36 + i) := nI_add 36 i
theorem a76 (i : Nat) : (76 : Int32) + nI i = nI (76 + i) := nI_add 76 i
theorem a116 (i : Nat) : (116 : Int32) + nI i = nI (116 + i) := nI_add 116 i
theorem s73 {h : q_Hp} {o c : Nat} (hd : q_Dg h o c) : q_mI 0 73 [.ref o] h (fun z h' => h' = h ∧ z = nI (d_links (qA h c))) := by
  refine ⟨q_recV rfl hd.1, ?_⟩
  have loop : ∀ m i, i + m = 40 → q_wp 0 73 4 [some (.ref o), some (.int (nI (q_cnt (fun i => !(qA h c (36 + i) == -1)) i))), some (.int (nI i))] [] h (fun r h' => ∃ z : Int32, r = some (.int z) ∧ h' = h ∧ z = nI (d_links (qA h c))) := by
    intro m
    induction m with
    | zero =>
      intro i hi
      obtain rfl : i = 40 := by omega
      exact b73_4 (fun _ => b73_32 ⟨_, rfl, rfl, rfl⟩) (fun h1 => absurd (Int32.le_refl _) h1)
    | succ m ih =>
      intro i hi
      refine b73_4 (fun h1 => absurd ((nI_gec (k := 40) (by omega) (by decide) rfl).mp h1) (by omega)) (fun _ => b73_10 hd.1 hd.2.1 hd.2.2.1 (by rw [a36]; exact q_inN (by rw [hd.2.2.2]; omega) (by rw [hd.2.2.2]; decide)) (fun h2 => b73_26 ?_) (fun h2 => b73_23 (b73_26 ?_)))
      · have := ih (i + 1) (by omega)
        rw [a36, nI_clamp (by omega)] at h2
        rw [nI_1]
        unfold q_cnt at this
        simpa [h2] using this
      · have := ih (i + 1) (by omega)
        rw [a36, nI_clamp (by omega)] at h2
        rw [nI_1, nI_1]
        unfold q_cnt at this
        simpa [h2] using this
  exact b73_0 (loop 40 0 rfl)
/-- how many links have their end at b at a node -/
def d_ends (f : Nat → Int32) (b : Nat) (x : Int32) : Nat := q_cnt (fun i => !(f (36 + i) == -1) && f (b + i) == x) 40
theorem s74 {h : q_Hp} {o c : Nat} {x : Int32} (hd : q_Dg h o c) : q_mI 0 74 [.ref o, .int x] h (fun z h' => h' = h ∧ z = nI (d_ends (qA h c) 76 x)) := by
  refine ⟨q_recV rfl hd.1, ?_⟩
  have loop : ∀ m i, i + m = 40 → q_wp 0 74 4 [some (.ref o), some (.int x), some (.int (nI (q_cnt (fun i => !(qA h c (36 + i) == -1) && qA h c (76 + i) == x) i))), some (.int (nI i))] [] h (fun r h' => ∃ z : Int32, r = some (.int z) ∧ h' = h ∧ z = nI (d_ends (qA h c) 76 x)) := by
    intro m
    induction m with
    | zero =>
      intro i hi
      obtain rfl : i = 40 := by omega
      exact b74_4 (fun _ => b74_45 ⟨_, rfl, rfl, rfl⟩) (fun h1 => absurd (Int32.le_refl _) h1)
    | succ m ih =>
      intro i hi
      have h9 := ih (i + 1) (by omega)
      unfold q_cnt at h9
      refine b74_4 (fun h1 => absurd ((nI_gec (k := 40) (by omega) (by decide) rfl).mp h1) (by omega)) (fun _ => b74_10 hd.1 hd.2.1 hd.2.2.1 (by rw [a36]; exact q_inN (by rw [hd.2.2.2]; omega) (by rw [hd.2.2.2]; decide)) (fun h2 => b74_39 ?_) (fun h2 => b74_23 hd.1 hd.2.1 hd.2.2.1 (by rw [a76]; exact q_inN (by rw [hd.2.2.2]; omega) (by rw [hd.2.2.2]; decide)) (fun h3 => b74_39 ?_) (fun h3 => b74_36 (b74_39 ?_))))
      · rw [a36, nI_clamp (by omega)] at h2
        rw [nI_1]
        simpa [h2] using h9
      · rw [a36, nI_clamp (by omega)] at h2
        rw [a76, nI_clamp (by omega)] at h3
        rw [nI_1]
        simpa [h2, h3] using h9
      · rw [a36, nI_clamp (by omega)] at h2
        rw [a76, nI_clamp (by omega)] at h3
        rw [nI_1, nI_1]
        simpa [h2, h3] using h9
  exact b74_0 (loop 40 0 rfl)
theorem s75 {h : q_Hp} {o c : Nat} {x : Int32} (hd : q_Dg h o c) : q_mI 0 75 [.ref o, .int x] h (fun z h' => h' = h ∧ z = nI (d_ends (qA h c) 116 x)) := by
  refine ⟨q_recV rfl hd.1, ?_⟩
  have loop : ∀ m i, i + m = 40 → q_wp 0 75 4 [some (.ref o), some (.int x), some (.int (nI (q_cnt (fun i => !(qA h c (36 + i) == -1) && qA h c (116 + i) == x) i))), some (.int (nI i))] [] h (fun r h' => ∃ z : Int32, r = some (.int z) ∧ h' = h ∧ z = nI (d_ends (qA h c) 116 x)) := by
    intro m
    induction m with
    | zero =>
      intro i hi
      obtain rfl : i = 40 := by omega
      exact b75_4 (fun _ => b75_45 ⟨_, rfl, rfl, rfl⟩) (fun h1 => absurd (Int32.le_refl _) h1)
    | succ m ih =>
      intro i hi
      have h9 := ih (i + 1) (by omega)
      unfold q_cnt at h9
      refine b75_4 (fun h1 => absurd ((nI_gec (k := 40) (by omega) (by decide) rfl).mp h1) (by omega)) (fun _ => b75_10 hd.1 hd.2.1 hd.2.2.1 (by rw [a36]; exact q_inN (by rw [hd.2.2.2]; omega) (by rw [hd.2.2.2]; decide)) (fun h2 => b75_39 ?_) (fun h2 => b75_23 hd.1 hd.2.1 hd.2.2.1 (by rw [a116]; exact q_inN (by rw [hd.2.2.2]; omega) (by rw [hd.2.2.2]; decide)) (fun h3 => b75_39 ?_) (fun h3 => b75_36 (b75_39 ?_))))
      · rw [a36, nI_clamp (by omega)] at h2
        rw [nI_1]
        simpa [h2] using h9
      · rw [a36, nI_clamp (by omega)] at h2
        rw [a116, nI_clamp (by omega)] at h3
        rw [nI_1]
        simpa [h2, h3] using h9
      · rw [a36, nI_clamp (by omega)] at h2
        rw [a116, nI_clamp (by omega)] at h3
        rw [nI_1, nI_1]
        simpa [h2, h3] using h9
  exact b75_0 (loop 40 0 rfl)
/-- the first place from i on, among n, where p is true -/
def q_fst (p : Nat → Bool) (i : Nat) : Nat → Option Nat
  | 0 => none
  | n + 1 => if p i then some i else q_fst p (i + 1) n
def q_on (x : Option Nat) : Int32 := match x with
  | some i => nI i
  | none => -1
def d_free (f : Nat → Int32) (b n : Nat) : Option Nat := q_fst (fun i => f (b + i) == -1) 0 n
theorem s77 {h : q_Hp} {o c : Nat} {x : Int32} (hd : q_Dg h o c) : q_mI 0 77 [.ref o, .int x] h (fun z h' => z = q_on (d_free (qA h c) 0 12) ∧ h' = match d_free (qA h c) 0 12 with | some i => q_sA h c i x | none => h) := by
  refine ⟨q_recV rfl hd.1, ?_⟩
  have loop : ∀ m i, i + m = 12 → q_wp 0 77 2 [some (.ref o), some (.int x), some (.int (nI i))] [] h (fun r h' => ∃ z : Int32, r = some (.int z) ∧ z = q_on (q_fst (fun i => qA h c (0 + i) == -1) i m) ∧ h' = match q_fst (fun i => qA h c (0 + i) == -1) i m with | some i => q_sA h c i x | none => h) := by
    intro m
    induction m with
    | zero =>
      intro i hi
      obtain rfl : i = 12 := by omega
      exact b77_2 (fun _ => b77_33 ⟨_, rfl, rfl, rfl⟩) (fun h1 => absurd (Int32.le_refl _) h1)
    | succ m ih =>
      intro i hi
      have hi2 : q_in (nI i) (qK h c).2 := q_inN (by rw [hd.2.2.2]; omega) (by rw [hd.2.2.2]; decide)
      refine b77_2 (fun h1 => absurd ((nI_gec (k := 12) (by omega) (by decide) rfl).mp h1) (by omega)) (fun _ => b77_8 hd.1 hd.2.1 hd.2.2.1 hi2 (fun h2 => b77_27 ?_) (fun h2 => b77_18 hd.1 hd.2.1 hd.2.2.1 hi2 ⟨_, rfl, ?_, ?_⟩))
      · rw [nI_clamp (by omega)] at h2
        rw [nI_1]
        unfold q_fst
        rw [if_neg (by simpa using h2)]
        exact ih (i + 1) (by omega)
      · rw [nI_clamp (by omega)] at h2
        unfold q_fst
        rw [if_pos (by simpa using h2)]
        rfl
      · rw [nI_clamp (by omega)] at h2 ⊢
        unfold q_fst
        rw [if_pos (by simpa using h2)]
  exact b77_0 (loop 12 0 rfl)
def d_num (f : Nat → Int32) (x k : Int32) : Int32 := if q_rg x 12 then (if k = 0 then f (12 + x.toNatClampNeg) else if k = 1 then f (24 + x.toNatClampNeg) else 0) else 0
theorem s66 {h : q_Hp} {o c : Nat} {x k : Int32} (hd : q_Dg h o c) : q_mI 0 66 [.ref o, .int x, .int k] h (fun z h' => h' = h ∧ z = d_num (qA h c) x k) := by
  refine ⟨q_recV rfl hd.1, ?_⟩
  have bad : d_num (qA h c) x k = 0 → q_wp 0 66 23 [some (.ref o), some (.int x), some (.int k), none] [] h (fun r h' => ∃ z : Int32, r = some (.int z) ∧ h' = h ∧ z = d_num (qA h c) x k) := fun e =>
    b66_23 (b66_24 (fun _ => b66_46 ⟨_, rfl, rfl, e.symm⟩) (fun h9 => absurd rfl h9))
  refine b66_0 (fun h1 => bad ?_) (fun h1 => b66_4 (fun h2 => bad ?_) (fun h2 => ?_))
  · simp [d_num, q_rg_lo h1]
  · simp [d_num, q_rg_hi (n := 12) rfl h2]
  · have h3 := q_rg_in (n := 12) rfl h1 h2
    obtain ⟨j, hj, rfl⟩ := (q_rg_ex (by decide)).mp h3
    refine b66_10 (fun h4 => b66_19 ?_) (fun h4 => b66_14 (fun h5 => bad ?_) (fun h5 => b66_19 ?_))
    · subst h4
      refine b66_24 (fun h9 => absurd h9 (by decide)) (fun _ => b66_29 hd.1 hd.2.1 hd.2.2.1 ?_ ⟨_, rfl, rfl, ?_⟩)
      · rw [show ((12 : Int32) + 0 * 12) = nI 12 by decide, nI_add]
        exact q_inN (by rw [hd.2.2.2]; omega) (by rw [hd.2.2.2]; decide)
      · rw [show ((12 : Int32) + 0 * 12) = nI 12 by decide, nI_add, nI_clamp (by omega)]
        simp [d_num, h3, nI_clamp (show j < 2 ^ 31 by omega)]
    · simp [d_num, h4, h5]
    · subst h5
      refine b66_24 (fun h9 => absurd h9 (by decide)) (fun _ => b66_29 hd.1 hd.2.1 hd.2.2.1 ?_ ⟨_, rfl, rfl, ?_⟩)
      · rw [show ((12 : Int32) + 1 * 12) = nI 24 by decide, nI_add]
        exact q_inN (by rw [hd.2.2.2]; omega) (by rw [hd.2.2.2]; decide)
      · rw [show ((12 : Int32) + 1 * 12) = nI 24 by decide, nI_add, nI_clamp (by omega)]
        simp [d_num, h3, nI_clamp (show j < 2 ^ 31 by omega)]
/-- what a number's place is -/
def d_put (h : q_Hp) (c : Nat) (x k v : Int32) : q_Hp := if d_has (qA h c) x then (if k = 0 then q_sA h c (12 + x.toNatClampNeg) v else if k = 1 then q_sA h c (24 + x.toNatClampNeg) v else h) else h
theorem d_has_rg {f : Nat → Int32} {x : Int32} (h : d_has f x = true) : q_rg x 12 = true := by
  unfold d_has at h
  rw [Bool.and_eq_true] at h
  exact h.1
theorem s67 {h : q_Hp} {o c : Nat} {x k v : Int32} (hd : q_Dg h o c) : q_mV 1 67 [.ref o, .int x, .int k, .int v] h (fun h' => h' = d_put h c x k v) := by
  refine ⟨q_recV rfl hd.1, ?_⟩
  refine b67_0 (s65 hd) (Nat.le_refl _) ?_
  rintro z h1 ⟨e0, rfl⟩
  subst h1
  refine b67_5 (fun h2 => b67_32 ⟨rfl, ?_⟩) (fun h2 => ?_)
  · unfold d_put
    rw [if_neg (by rw [b2i_eq.mp h2]; decide)]
  · have h3 := b2i_ne.mp h2
    have h4 := d_has_rg h3
    obtain ⟨j, hj, rfl⟩ := (q_rg_ex (by decide)).mp h4
    refine b67_8 (fun h5 => ?_) (fun h5 => b67_12 (fun h6 => b67_32 ⟨rfl, ?_⟩) (fun h6 => ?_))
    · subst h5
      refine b67_17 hd.1 hd.2.1 hd.2.2.1 ?_ (b67_32 ⟨rfl, ?_⟩)
      · rw [show ((12 : Int32) + 0 * 12) = nI 12 by decide, nI_add]
        exact q_inN (by rw [hd.2.2.2]; omega) (by rw [hd.2.2.2]; decide)
      · rw [show ((12 : Int32) + 0 * 12) = nI 12 by decide, nI_add, nI_clamp (by omega)]
        unfold d_put
        rw [if_pos h3, if_pos rfl, nI_clamp (by omega)]
    · unfold d_put
      rw [if_pos h3, if_neg h5, if_neg h6]
    · subst h6
      refine b67_17 hd.1 hd.2.1 hd.2.2.1 ?_ (b67_32 ⟨rfl, ?_⟩)
      · rw [show ((12 : Int32) + 1 * 12) = nI 24 by decide, nI_add]
        exact q_inN (by rw [hd.2.2.2]; omega) (by rw [hd.2.2.2]; decide)
      · rw [show ((12 : Int32) + 1 * 12) = nI 24 by decide, nI_add, nI_clamp (by omega)]
        unfold d_put
        rw [if_pos h3, if_neg h5, if_pos rfl, nI_clamp (by omega)]
theorem d_at_in {f : Nat → Int32} {b : Nat} {x : Int32} (h : q_rg x 40 = true) : d_at f b x = f (b + x.toNatClampNeg) := by simp [d_at, h]
theorem d_at_out {f : Nat → Int32} {b : Nat} {x : Int32} (h : q_rg x 40 = false) : d_at f b x = -1 := by simp [d_at, h]
theorem s68 {h : q_Hp} {o c : Nat} {x : Int32} (hd : q_Dg h o c) : q_mI 0 68 [.ref o, .int x] h (fun z h' => h' = h ∧ z = d_at (qA h c) 36 x) := by
  refine ⟨q_recV rfl hd.1, ?_⟩
  refine b68_0 (fun h1 => b68_22 ⟨_, rfl, rfl, (d_at_out (q_rg_lo h1)).symm⟩) (fun h1 => b68_4 (fun h2 => b68_22 ⟨_, rfl, rfl, (d_at_out (q_rg_hi rfl h2)).symm⟩) (fun h2 => ?_))
  have h3 := q_rg_in (n := 40) rfl h1 h2
  obtain ⟨j, hj, rfl⟩ := (q_rg_ex (by decide)).mp h3
  refine b68_10 hd.1 hd.2.1 hd.2.2.1 (by rw [a36]; exact q_inN (by rw [hd.2.2.2]; omega) (by rw [hd.2.2.2]; decide)) ⟨_, rfl, rfl, ?_⟩
  rw [d_at_in h3, a36, nI_clamp (by omega), nI_clamp (by omega)]
theorem s69 {h : q_Hp} {o c : Nat} {x : Int32} (hd : q_Dg h o c) : q_mI 0 69 [.ref o, .int x] h (fun z h' => h' = h ∧ z = d_at (qA h c) 76 x) := by
  refine ⟨q_recV rfl hd.1, ?_⟩
  refine b69_0 (fun h1 => b69_22 ⟨_, rfl, rfl, (d_at_out (q_rg_lo h1)).symm⟩) (fun h1 => b69_4 (fun h2 => b69_22 ⟨_, rfl, rfl, (d_at_out (q_rg_hi rfl h2)).symm⟩) (fun h2 => ?_))
  have h3 := q_rg_in (n := 40) rfl h1 h2
  obtain ⟨j, hj, rfl⟩ := (q_rg_ex (by decide)).mp h3
  refine b69_10 hd.1 hd.2.1 hd.2.2.1 (by rw [a76]; exact q_inN (by rw [hd.2.2.2]; omega) (by rw [hd.2.2.2]; decide)) ⟨_, rfl, rfl, ?_⟩
  rw [d_at_in h3, a76, nI_clamp (by omega), nI_clamp (by omega)]
theorem s70 {h : q_Hp} {o c : Nat} {x : Int32} (hd : q_Dg h o c) : q_mI 0 70 [.ref o, .int x] h (fun z h' => h' = h ∧ z = d_at (qA h c) 116 x) := by
  refine ⟨q_recV rfl hd.1, ?_⟩
  refine b70_0 (fun h1 => b70_22 ⟨_, rfl, rfl, (d_at_out (q_rg_lo h1)).symm⟩) (fun h1 => b70_4 (fun h2 => b70_22 ⟨_, rfl, rfl, (d_at_out (q_rg_hi rfl h2)).symm⟩) (fun h2 => ?_))
  have h3 := q_rg_in (n := 40) rfl h1 h2
  obtain ⟨j, hj, rfl⟩ := (q_rg_ex (by decide)).mp h3
  refine b70_10 hd.1 hd.2.1 hd.2.2.1 (by rw [a116]; exact q_inN (by rw [hd.2.2.2]; omega) (by rw [hd.2.2.2]; decide)) ⟨_, rfl, rfl, ?_⟩
  rw [d_at_in h3, a116, nI_clamp (by omega), nI_clamp (by omega)]
theorem s71 {h : q_Hp} {o c : Nat} {x : Int32} (hd : q_Dg h o c) : q_mI 0 71 [.ref o, .int x] h (fun z h' => h' = h ∧ z = b2i (d_hasL (qA h c) x)) := by
  refine ⟨q_recV rfl hd.1, ?_⟩
  refine b71_0 (fun h1 => b71_27 ⟨_, rfl, rfl, ?_⟩) (fun h1 => b71_4 (fun h2 => b71_27 ⟨_, rfl, rfl, ?_⟩) (fun h2 => ?_))
  · simp [d_hasL, q_rg_lo h1, b2i]
  · simp [d_hasL, q_rg_hi (n := 40) rfl h2, b2i]
  · have h3 := q_rg_in (n := 40) rfl h1 h2
    obtain ⟨j, hj, rfl⟩ := (q_rg_ex (by decide)).mp h3
    refine b71_10 hd.1 hd.2.1 hd.2.2.1 (by rw [a36]; exact q_inN (by rw [hd.2.2.2]; omega) (by rw [hd.2.2.2]; decide)) (fun h4 => b71_27 ⟨_, rfl, rfl, ?_⟩) (fun h4 => b71_23 ⟨_, rfl, rfl, ?_⟩)
    · rw [a36, nI_clamp (by omega)] at h4
      simp [d_hasL, h3, nI_clamp (show j < 2 ^ 31 by omega), h4, b2i]
    · rw [a36, nI_clamp (by omega)] at h4
      simp [d_hasL, h3, nI_clamp (show j < 2 ^ 31 by omega), h4, b2i]
theorem d_hasL_rg {f : Nat → Int32} {x : Int32} (h : d_hasL f x = true) : q_rg x 40 = true := by
  unfold d_hasL at h
  rw [Bool.and_eq_true] at h
  exact h.1
def d_lnk3 (h : q_Hp) (c j : Nat) (s f t : Int32) : q_Hp := q_sA (q_sA (q_sA h c (36 + j) s) c (76 + j) f) c (116 + j) t
theorem s78 {h : q_Hp} {o c : Nat} {s f t : Int32} (hd : q_Dg h o c) : q_mI 0 78 [.ref o, .int s, .int f, .int t] h (fun z h' => z = q_on (d_free (qA h c) 36 40) ∧ h' = match d_free (qA h c) 36 40 with | some i => d_lnk3 h c i s f t | none => h) := by
  refine ⟨q_recV rfl hd.1, ?_⟩
  have loop : ∀ m i, i + m = 40 → q_wp 0 78 3 [some (.ref o), some (.int s), some (.int f), some (.int t), some (.int (nI i))] [] h (fun r h' => ∃ z : Int32, r = some (.int z) ∧ z = q_on (q_fst (fun i => qA h c (36 + i) == -1) i m) ∧ h' = match q_fst (fun i => qA h c (36 + i) == -1) i m with | some i => d_lnk3 h c i s f t | none => h) := by
    intro m
    induction m with
    | zero =>
      intro i hi
      obtain rfl : i = 40 := by omega
      exact b78_3 (fun _ => b78_66 ⟨_, rfl, rfl, rfl⟩) (fun h1 => absurd (Int32.le_refl _) h1)
    | succ m ih =>
      intro i hi
      have q1 : q_in (36 + nI i) (qK h c).2 := by rw [a36]; exact q_inN (by rw [hd.2.2.2]; omega) (by rw [hd.2.2.2]; decide)
      have q2 : q_in (76 + nI i) (qK h c).2 := by rw [a76]; exact q_inN (by rw [hd.2.2.2]; omega) (by rw [hd.2.2.2]; decide)
      have q3 : q_in (116 + nI i) (qK h c).2 := by rw [a116]; exact q_inN (by rw [hd.2.2.2]; omega) (by rw [hd.2.2.2]; decide)
      refine b78_3 (fun h1 => absurd ((nI_gec (k := 40) (by omega) (by decide) rfl).mp h1) (by omega)) (fun _ => b78_10 hd.1 hd.2.1 hd.2.2.1 q1 (fun h2 => b78_60 ?_) (fun h2 => b78_24 hd.1 hd.2.1 hd.2.2.1 q1 q2 q3 ⟨_, rfl, ?_, ?_⟩))
      · rw [a36, nI_clamp (by omega)] at h2
        rw [nI_1]
        unfold q_fst
        rw [if_neg (by simpa using h2)]
        exact ih (i + 1) (by omega)
      · rw [a36, nI_clamp (by omega)] at h2
        unfold q_fst
        rw [if_pos (by simpa using h2)]
        rfl
      · rw [a36, nI_clamp (by omega)] at h2 ⊢
        rw [a76, a116, nI_clamp (by omega), nI_clamp (by omega)]
        unfold q_fst
        rw [if_pos (by simpa using h2)]
        rfl
  exact b78_0 (loop 40 0 rfl)
/-- a node that goes -/
def d_dropN (h : q_Hp) (c : Nat) (x : Int32) : q_Hp := if d_has (qA h c) x then q_sA (q_sA (q_sA h c (12 + x.toNatClampNeg) 0) c (24 + x.toNatClampNeg) 0) c x.toNatClampNeg (-1) else h
theorem s79 {h : q_Hp} {o c : Nat} {x : Int32} (hd : q_Dg h o c) : q_mV 2 79 [.ref o, .int x] h (fun h' => h' = d_dropN h c x) := by
  refine ⟨q_recV rfl hd.1, ?_⟩
  refine b79_0 (s65 hd) (by decide) ?_
  rintro z h1 ⟨e0, rfl⟩
  subst h1
  refine b79_5 (fun h2 => b79_29 ⟨rfl, ?_⟩) (fun h2 => ?_)
  · unfold d_dropN
    rw [if_neg (by rw [b2i_eq.mp h2]; decide)]
  · have h3 := b2i_ne.mp h2
    have h4 := d_has_rg h3
    obtain ⟨j, hj, rfl⟩ := (q_rg_ex (by decide)).mp h4
    have e1 : d_put h c (nI j) 0 0 = q_sA h c (12 + j) 0 := by
      unfold d_put
      rw [if_pos h3, if_pos rfl, nI_clamp (by omega)]
    have hd1 : q_Dg (q_sA h c (12 + j) 0) o c := hd
    have e2 : d_put (q_sA h c (12 + j) 0) c (nI j) 1 0 = q_sA (q_sA h c (12 + j) 0) c (24 + j) 0 := by
      unfold d_put
      have h5 : d_has (qA (q_sA h c (12 + j) 0) c) (nI j) = true := by
        unfold d_has at h3 ⊢
        rw [qA_sA, nI_clamp (by omega), if_neg (by omega)]
        rw [nI_clamp (by omega)] at h3
        exact h3
      rw [if_pos h5, if_neg (by decide), if_pos rfl, nI_clamp (by omega)]
    have w1 := s67 (x := nI j) (k := 0) (v := 0) hd
    rw [e1] at w1
    refine b79_8 w1 (by decide) ?_
    rintro h1 rfl
    have w2 := s67 (x := nI j) (k := 1) (v := 0) hd1
    rw [e2] at w2
    refine b79_15 w2 (by decide) ?_
    rintro h1 rfl
    refine b79_22 hd.1 hd.2.1 hd.2.2.1 (q_inN (by show _ < (qK h c).2; rw [hd.2.2.2]; omega) (by show (qK h c).2 < _; rw [hd.2.2.2]; decide)) (b79_29 ⟨rfl, ?_⟩)
    unfold d_dropN
    rw [if_pos h3, nI_clamp (by omega)]
def d_dropL (h : q_Hp) (c : Nat) (x : Int32) : q_Hp := if d_hasL (qA h c) x then d_lnk3 h c x.toNatClampNeg (-1) (-1) (-1) else h
theorem s80 {h : q_Hp} {o c : Nat} {x : Int32} (hd : q_Dg h o c) : q_mV 1 80 [.ref o, .int x] h (fun h' => h' = d_dropL h c x) := by
  refine ⟨q_recV rfl hd.1, ?_⟩
  refine b80_0 (s71 hd) (by decide) ?_
  rintro z h1 ⟨e0, rfl⟩
  subst h1
  refine b80_5 (fun h2 => b80_38 ⟨rfl, ?_⟩) (fun h2 => ?_)
  · unfold d_dropL
    rw [if_neg (by rw [b2i_eq.mp h2]; decide)]
  · have h3 := b2i_ne.mp h2
    have h4 := d_hasL_rg h3
    obtain ⟨i, hj, rfl⟩ := (q_rg_ex (by decide)).mp h4
    have q1 : q_in (36 + nI i) (qK h c).2 := by rw [a36]; exact q_inN (by rw [hd.2.2.2]; omega) (by rw [hd.2.2.2]; decide)
    have q2 : q_in (76 + nI i) (qK h c).2 := by rw [a76]; exact q_inN (by rw [hd.2.2.2]; omega) (by rw [hd.2.2.2]; decide)
    have q3 : q_in (116 + nI i) (qK h c).2 := by rw [a116]; exact q_inN (by rw [hd.2.2.2]; omega) (by rw [hd.2.2.2]; decide)
    refine b80_8 hd.1 hd.2.1 hd.2.2.1 q1 q2 q3 (b80_38 ⟨rfl, ?_⟩)
    rw [a36, a76, a116, nI_clamp (by omega), nI_clamp (by omega), nI_clamp (by omega)]
    unfold d_dropL
    rw [if_pos h3, nI_clamp (by omega)]
    rfl
/-- a whole row of ints written anew -/
def q_wA (h : q_Hp) (c : Nat) (g : Nat → Int32) : q_Hp := (qN h, qK h, qI h, qR h, (fun x => if x = c then g else qA h x), qL h, qZ h)
theorem qA_wA (h : q_Hp) (c x : Nat) (g : Nat → Int32) : qA (q_wA h c g) x = if x = c then g else qA h x := rfl
theorem qA_wAs (h : q_Hp) (c : Nat) (g : Nat → Int32) : qA (q_wA h c g) c = g := if_pos rfl
theorem q_wA_ext {h : q_Hp} {u v : Nat → Nat → Int32} (e : u = v) : (qN h, qK h, qI h, qR h, u, qL h, qZ h) = ((qN h, qK h, qI h, qR h, v, qL h, qZ h) : q_Hp) := by rw [e]
theorem q_sA_wA (h : q_Hp) (c j : Nat) (v : Int32) : q_sA h c j v = q_wA h c (upd (qA h c) j v) := by
  refine q_wA_ext ?_
  funext x y
  unfold q_up
  by_cases hx : x = c
  · subst hx
    simp [upd]
  · simp [hx]
theorem q_wA_wA (h : q_Hp) (c : Nat) (g g' : Nat → Int32) : q_wA (q_wA h c g) c g' = q_wA h c g' := by
  refine q_wA_ext (h := q_wA h c g) (u := fun x => if x = c then g' else qA (q_wA h c g) x) (v := fun x => if x = c then g' else qA h x) ?_
  funext x
  rw [qA_wA]
  by_cases hx : x = c
  · simp [hx]
  · simp [hx]
theorem q_sA_wA' (h : q_Hp) (c j : Nat) (g : Nat → Int32) (v : Int32) : q_sA (q_wA h c g) c j v = q_wA h c (upd g j v) := by
  rw [q_sA_wA, q_wA_wA, qA_wAs]
theorem q_wA_self (h : q_Hp) (c : Nat) : q_wA h c (qA h c) = h := by
  refine (q_wA_ext (h := h) (u := fun x => if x = c then qA h c else qA h x) (v := qA h) ?_)
  funext x
  by_cases hx : x = c
  · simp [hx]
  · simp [hx]
theorem q_cpyA_wA (h : q_Hp) (a sp b dp n : Nat) : q_cpyA h a sp b dp n = q_wA h b (va_cpy (qA h a) (qA h b) sp dp n) := by
  refine q_wA_ext ?_
  funext x y
  by_cases hx : x = b
  · simp [hx]
  · simp [hx]
theorem q_Sh.wA {h : q_Hp} (S : q_Sh h) {c : Nat} {g : Nat → Int32} : q_Sh (q_wA h c g) := S
theorem q_Ef.wA {S : List Nat} {h : q_Hp} {c : Nat} {g : Nat → Int32} (e : c ∈ S) : q_Ef S h (q_wA h c g) := ⟨rfl, rfl, rfl, fun _ _ _ => rfl, fun x hx => ⟨rfl, rfl, by rw [qA_wA, if_neg (show ¬ x = c from fun h2 => hx (h2 ▸ e))], rfl⟩⟩
def d_mt (i : Nat) : Int32 := if i < 12 ∨ 36 ≤ i then -1 else 0
theorem s61 {h : q_Hp} {o c : Nat} (hd : q_Dg h o c) : q_mV 0 61 [.ref o] h (fun h' => ∃ g : Nat → Int32, h' = q_wA h c g ∧ ∀ i, i < 156 → g i = d_mt i) := by
  refine ⟨q_recV rfl hd.1, ?_⟩
  have loop : ∀ m i (g : Nat → Int32), i + m = 156 → (∀ j, j < i → g j = d_mt j) → q_wp 0 61 2 [some (.ref o), some (.int (nI i))] [] (q_wA h c g) (fun r h' => r = none ∧ ∃ g : Nat → Int32, h' = q_wA h c g ∧ ∀ i, i < 156 → g i = d_mt i) := by
    intro m
    induction m with
    | zero =>
      intro i g hi hg
      obtain rfl : i = 156 := by omega
      exact b61_2 (fun _ => b61_38 ⟨rfl, g, rfl, hg⟩) (fun h1 => absurd (Int32.le_refl _) h1)
    | succ m ih =>
      intro i g hi hg
      have hin : q_in (nI i) (qK (q_wA h c g) c).2 := q_inN (by show i < (qK h c).2; rw [hd.2.2.2]; omega) (by show (qK h c).2 < _; rw [hd.2.2.2]; decide)
      have nx : ∀ v : Int32, v = d_mt i → q_wp 0 61 31 [some (.ref o), some (.int (nI i))] [.int v, .int (nI i), .ref c] (q_wA h c g) (fun r h' => r = none ∧ ∃ g : Nat → Int32, h' = q_wA h c g ∧ ∀ i, i < 156 → g i = d_mt i) := by
        intro v hv
        refine b61_31 hd.2.2.1 hin ?_
        rw [nI_1, nI_clamp (by omega), q_sA_wA']
        refine ih (i + 1) _ (by omega) (fun j hj => ?_)
        unfold upd
        by_cases h2 : j = i
        · rw [if_pos h2, hv, h2]
        · rw [if_neg h2]
          exact hg j (by omega)
      refine b61_2 (fun h1 => absurd ((nI_gec (k := 156) (by omega) (by decide) rfl).mp h1) (by omega)) (fun _ => b61_9 hd.1 hd.2.1 (fun h2 => b61_26 (nx _ ?_)) (fun h2 => b61_20 (fun h3 => b61_30 (nx _ ?_)) (fun h3 => b61_26 (nx _ ?_))))
      · have h2 := (nI_ltc (k := 12) (by omega) (by decide) rfl).mp h2
        unfold d_mt
        rw [if_pos (Or.inl h2)]
      · have h2 : ¬ i < 12 := fun h4 => h2 ((nI_ltc (k := 12) (by omega) (by decide) rfl).mpr h4)
        have h3 := (nI_ltc (k := 36) (by omega) (by decide) rfl).mp h3
        unfold d_mt
        rw [if_neg (by omega)]
      · have h3 : ¬ i < 36 := fun h4 => h3 ((nI_ltc (k := 36) (by omega) (by decide) rfl).mpr h4)
        unfold d_mt
        rw [if_pos (Or.inr (by omega))]
  have := loop 156 0 (qA h c) rfl (fun j hj => by omega)
  rw [q_wA_self] at this
  exact b61_0 this
theorem s62 {h : q_Hp} {o c s len j : Nat} (hd : q_Dg h o c) (hs : q_ok h s 20) (hl : (qK h s).2 = len) (hj : (j + 1) * 156 ≤ len) (hl2 : len < 2 ^ 31) : q_mV 1 62 [.ref o, .ref s, .int (nI j)] h (fun h' => h' = q_wA h s (va_cpy (qA h c) (qA h s) 0 (j * 156) 156)) := by
  refine ⟨q_recV rfl hd.1, ?_⟩
  have e1 : nI j * 156 = nI (j * 156) := pk_mul j 156
  have e2 : Int32.ofNat (qK h s).2 - 156 = nI (len - 156) := by rw [hl]; exact pk_sub (a := len) (b := 156) (by omega)
  refine b62_0 (fun h1 => absurd h1 (nI_pos (by omega))) (fun _ => ?_)
  rw [e1]
  refine b62_10 (fun h1 => absurd h1 (nI_pos (by omega))) (fun _ => b62_14 hs (by decide) (fun h1 => ?_) (fun _ => b62_24 hd.1 hd.2.1 hd.2.2.1 hs (by decide) (nI_pos (by omega)) (by decide) (by rw [hd.2.2.2]; decide) ?_ (by decide) (b62_37 ⟨rfl, ?_⟩)))
  · rw [e2] at h1
    exact absurd ((nI_ltI (by omega) (by omega)).mp h1) (by omega)
  · rw [nI_clamp (by omega), hl]
    show j * 156 + 156 ≤ len
    omega
  · rw [q_cpyA_wA, nI_clamp (by omega)]
    rfl
theorem s63 {h : q_Hp} {o c s len j : Nat} (hd : q_Dg h o c) (hs : q_ok h s 20) (hl : (qK h s).2 = len) (hj : (j + 1) * 156 ≤ len) (hl2 : len < 2 ^ 31) : q_mV 1 63 [.ref o, .ref s, .int (nI j)] h (fun h' => h' = q_wA h c (va_cpy (qA h s) (qA h c) (j * 156) 0 156)) := by
  refine ⟨q_recV rfl hd.1, ?_⟩
  have e1 : nI j * 156 = nI (j * 156) := pk_mul j 156
  have e2 : Int32.ofNat (qK h s).2 - 156 = nI (len - 156) := by rw [hl]; exact pk_sub (a := len) (b := 156) (by omega)
  refine b63_0 (fun h1 => absurd h1 (nI_pos (by omega))) (fun _ => ?_)
  rw [e1]
  refine b63_10 (fun h1 => absurd h1 (nI_pos (by omega))) (fun _ => b63_14 hs (by decide) (fun h1 => ?_) (fun _ => b63_24 hd.1 hd.2.1 hs hd.2.2.1 (nI_pos (by omega)) (by decide) (by decide) ?_ (by rw [hd.2.2.2]; decide) (by decide) (b63_37 ⟨rfl, ?_⟩)))
  · rw [e2] at h1
    exact absurd ((nI_ltI (by omega) (by omega)).mp h1) (by omega)
  · rw [nI_clamp (by omega), hl]
    show j * 156 + 156 ≤ len
    omega
  · rw [q_cpyA_wA, nI_clamp (by omega)]
    rfl
/-- a bit of a set of links is not there -/
def q_bit0 (t : Int64) (i : Nat) : Bool := lg_cmp ((t >>> ((nI i).toInt64 &&& 63)) &&& 1) 0 == 0
def d_isL (f : Nat → Int32) (s a b : Int32) (t : Int64) (i : Nat) : Bool := (f (36 + i) == s && f (76 + i) == a && f (116 + i) == b) && q_bit0 t i
def d_least (f : Nat → Int32) (s a b : Int32) (t : Int64) : Option Nat := if s = -1 then none else q_fst (d_isL f s a b t) 0 40
theorem s76 {h : q_Hp} {o c : Nat} {s a b : Int32} {t : Int64} (hd : q_Dg h o c) : q_mI 0 76 [.ref o, .int s, .int a, .int b, .long t] h (fun z h' => h' = h ∧ z = q_on (d_least (qA h c) s a b t)) := by
  refine ⟨q_recV rfl hd.1, ?_⟩
  have loop : ∀ m i (l7 : Option Value), i + m = 40 → q_wp 0 76 3 [some (.ref o), some (.int s), some (.int a), some (.int b), some (.long t), none, some (.int (nI i)), l7] [] h (fun r h' => ∃ z : Int32, r = some (.int z) ∧ h' = h ∧ z = q_on (if s = -1 then none else q_fst (d_isL (qA h c) s a b t) i m)) := by
    intro m
    induction m with
    | zero =>
      intro i l7 hi
      obtain rfl : i = 40 := by omega
      exact b76_3 (fun _ => b76_90 ⟨_, rfl, rfl, by unfold q_fst; split <;> rfl⟩) (fun h1 => absurd (Int32.le_refl _) h1)
    | succ m ih =>
      intro i l7 hi
      have q1 : q_in (36 + nI i) (qK h c).2 := by rw [a36]; exact q_inN (by rw [hd.2.2.2]; omega) (by rw [hd.2.2.2]; decide)
      have q2 : q_in (76 + nI i) (qK h c).2 := by rw [a76]; exact q_inN (by rw [hd.2.2.2]; omega) (by rw [hd.2.2.2]; decide)
      have q3 : q_in (116 + nI i) (qK h c).2 := by rw [a116]; exact q_inN (by rw [hd.2.2.2]; omega) (by rw [hd.2.2.2]; decide)
      have nx : ∀ x7 : Int32, (s = -1 ∨ d_isL (qA h c) s a b t i = false) → q_wp 0 76 84 [some (.ref o), some (.int s), some (.int a), some (.int b), some (.long t), none, some (.int (nI i)), some (.int x7)] [] h (fun r h' => ∃ z : Int32, r = some (.int z) ∧ h' = h ∧ z = q_on (if s = -1 then none else q_fst (d_isL (qA h c) s a b t) i (m + 1))) := by
        intro x7 h9
        refine b76_84 ?_
        rw [nI_1]
        have h8 := ih (i + 1) (some (.int x7)) (by omega)
        by_cases hs : s = -1
        · simp only [hs, if_true] at h8 ⊢
          exact h8
        · rcases h9 with h9 | h9
          · exact absurd h9 hs
          · rw [if_neg hs] at h8 ⊢
            unfold q_fst
            rw [h9]
            exact h8
      have bad : d_isL (qA h c) s a b t i = false → q_wp 0 76 56 [some (.ref o), some (.int s), some (.int a), some (.int b), some (.long t), none, some (.int (nI i)), l7] [] h (fun r h' => ∃ z : Int32, r = some (.int z) ∧ h' = h ∧ z = q_on (if s = -1 then none else q_fst (d_isL (qA h c) s a b t) i (m + 1))) := fun e =>
        b76_56 (b76_57 (fun _ => nx _ (Or.inr e)) (fun h9 => absurd rfl h9))
      refine b76_3 (fun h1 => absurd ((nI_gec (k := 40) (by omega) (by decide) rfl).mp h1) (by omega)) (fun _ => b76_10 hd.1 hd.2.1 hd.2.2.1 q1 (fun h2 => bad ?_) (fun h2 => b76_24 hd.1 hd.2.1 hd.2.2.1 q2 (fun h3 => bad ?_) (fun h3 => b76_38 hd.1 hd.2.1 hd.2.2.1 q3 (fun h4 => bad ?_) (fun h4 => b76_52 (b76_57 (fun h9 => absurd h9 (by decide)) (fun _ => b76_64 (fun h5 => nx _ (Or.inl h5)) (fun h5 => b76_69 (fun h6 => nx _ (Or.inr ?_)) (fun h6 => b76_81 ⟨_, rfl, rfl, ?_⟩))))))))
      · rw [a36, nI_clamp (by omega)] at h2
        simp [d_isL, h2]
      · rw [a76, nI_clamp (by omega)] at h3
        simp [d_isL, h3]
      · rw [a116, nI_clamp (by omega)] at h4
        simp [d_isL, h4]
      · unfold d_isL q_bit0
        simp [h6]
      · rw [a36, nI_clamp (by omega)] at h2
        rw [a76, nI_clamp (by omega)] at h3
        rw [a116, nI_clamp (by omega)] at h4
        rw [if_neg h5]
        unfold q_fst
        rw [if_pos (by unfold d_isL q_bit0; simp [h2, h3, h4, h6])]
        rfl
  exact b76_0 (loop 40 0 none rfl)
