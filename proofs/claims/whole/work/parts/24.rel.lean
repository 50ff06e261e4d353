/-! WHAT THE TWO SIDES SHARE: a book without its cells, a diagram, and the rest -/
/-- counts (types, sorts, rules, procs, codes, dos); of a type or sort (elder, from, to); rows of procs; codes; dos; rules -/
def q_Bk : Type := (Nat → Nat) × (Nat → Nat → Nat) × (Nat → Nat) × (Nat → Nat → Nat) × (Nat → Nat → Nat) × (Nat → Nat → Nat → Nat)
def bN (B : q_Bk) : Nat → Nat := B.1
def bT (B : q_Bk) : Nat → Nat → Nat := B.2.1
def bP (B : q_Bk) : Nat → Nat := B.2.2.1
def bC (B : q_Bk) : Nat → Nat → Nat := B.2.2.2.1
def bD (B : q_Bk) : Nat → Nat → Nat := B.2.2.2.2.1
def bR (B : q_Bk) : Nat → Nat → Nat → Nat := B.2.2.2.2.2
/-- none is 0, and n is n + 1 -/
def oN (x : Nat) : Int32 := if x = 0 then -1 else nI (x - 1)
/-- a rule in the cells of the class -/
def r_cR (h : q_Hp) (o : Nat) (V : Nat → Nat → Nat) : Prop :=
  (∀ i, i < 5 → qI h o i = nI (V 0 i)) ∧ qI h o 6 = nI (V 0 5) ∧
  (∀ i, i < V 0 0 → qA h (o + 1) i = nI (V 1 i)) ∧
  (∀ i, i < V 0 1 → qA h (o + 4) i = nI (V 2 i) ∧ qA h (o + 5) i = nI (V 3 i) ∧ qA h (o + 6) i = nI (V 4 i)) ∧
  (∀ n, n < V 0 2 → qA h (o + 2) n = oN (V 5 n) ∧ qA h (o + 3) n = nI (V 6 n) ∧ ∀ l, l < V 6 n → qA h (o + 4) (6 + 3 * n + l) = nI (V 7 (3 * n + l)) ∧ qA h (o + 5) (6 + 3 * n + l) = nI (V 8 (3 * n + l)) ∧ qA h (o + 6) (6 + 3 * n + l) = nI (V 9 (3 * n + l))) ∧
  (∀ t, t < V 0 3 → qA h (o + 7) t = nI (if V 10 t = 0 then 36 else if V 10 t = 1 then 37 else if V 10 t = 2 then 30 else 38) ∧ ∀ s, s < 2 → qA h (o + 12) (2 * t + s) = nI (V 11 (2 * t + s)) ∧ qA h (o + 13) (2 * t + s) = nI (V 12 (2 * t + s))) ∧
  (∀ d, d < V 0 4 → qA h (o + 8) d = nI (if V 13 d = 0 then 11 else if V 13 d = 1 then 7 else if V 13 d = 2 then 12 else if V 13 d = 3 then 13 else 14) ∧ qA h (o + 9) d = nI (V 14 d) ∧ (2 ≤ V 13 d → qA h (o + 10) d = nI (V 15 d)) ∧ (V 13 d = 3 → qA h (o + 11) d = nI (V 16 d)) ∧ (V 13 d = 4 → qA h (o + 12) (8 + d) = nI (V 11 (8 + d)) ∧ qA h (o + 13) (8 + d) = nI (V 12 (8 + d)))) ∧
  (∃ m : Nat, m < 16 ∧ qI h o 5 = nI m ∧ ∀ i, i < 4 → (m.testBit i = true ↔ ∃ d, d < V 0 4 ∧ V 13 d = 0 ∧ V 14 d = i))
/-- a rule in the rows of the reference -/
def r_mR (h : q_Hp) (r : Nat) (V : Nat → Nat → Nat) : Prop :=
  qA h 641 r = nI (V 0 0) ∧ qA h 642 r = nI (V 0 1) ∧ qA h 648 r = nI (V 0 2) ∧ qA h 654 r = nI (V 0 3) ∧ qA h 659 r = nI (V 0 4) ∧ qA h 643 r = nI (V 0 5) ∧
  (∀ i, i < V 0 0 → qA h 644 (4 * r + i) = nI (V 1 i)) ∧
  (∀ i, i < V 0 1 → qA h 645 (6 * r + i) = nI (V 2 i) ∧ qA h 646 (6 * r + i) = nI (V 3 i) ∧ qA h 647 (6 * r + i) = nI (V 4 i)) ∧
  (∀ n, n < V 0 2 → qA h 649 (2 * r + n) = oN (V 5 n) ∧ qA h 650 (2 * r + n) = nI (V 6 n) ∧ ∀ l, l < V 6 n → qA h 651 (3 * (2 * r + n) + l) = nI (V 7 (3 * n + l)) ∧ qA h 652 (3 * (2 * r + n) + l) = nI (V 8 (3 * n + l)) ∧ qA h 653 (3 * (2 * r + n) + l) = nI (V 9 (3 * n + l))) ∧
  (∀ t, t < V 0 3 → qA h 655 (4 * r + t) = nI (if V 10 t = 0 then 9 else if V 10 t = 1 then 10 else if V 10 t = 2 then 11 else 12) ∧ qA h 656 (4 * r + t) = nI (V 11 (2 * t)) ∧ qA h 657 (4 * r + t) = nI (V 11 (2 * t + 1)) ∧ qA h 657 (4 * r + t) = nI (V 12 (2 * t)) ∧ qA h 658 (4 * r + t) = nI (V 12 (2 * t + 1))) ∧
  (∀ d, d < V 0 4 → qA h 660 (8 * r + d) = nI (V 13 d) ∧ qA h 661 (8 * r + d) = nI (V 14 d) ∧ (2 ≤ V 13 d → qA h 662 (8 * r + d) = nI (V 15 d)) ∧ (V 13 d = 3 → qA h 663 (8 * r + d) = nI (V 16 d)) ∧ (V 13 d = 4 → qA h 664 (8 * r + d) = nI (V 11 (8 + d)) ∧ qA h 665 (8 * r + d) = nI (V 12 (8 + d))))
/-- a do's value is told for these kinds -/
def q_val (k : Nat) : Prop := k = 0 ∨ k = 1 ∨ k = 3 ∨ k = 6
def r_cB (h : q_Hp) (b : Nat) (B : q_Bk) : Prop :=
  (∀ i, i < 6 → qI h b i = nI (bN B i)) ∧ (∀ j, j < bN B 0 → qA h (b + 1) j = oN (bT B j 0)) ∧
  (∀ j, j < bN B 1 → qA h (b + 2) j = nI (bT B j 1) ∧ qA h (b + 3) j = nI (bT B j 2)) ∧
  (∀ p, p < bN B 3 → qA h (b + 5) p = oN (bP B p)) ∧
  (∀ i, i < bN B 4 → qA h (b + 6) i = nI (bC B i 0) ∧ qA h (b + 7) i = nI (bC B i 1)) ∧
  (∀ d, d < bN B 5 → qA h (b + 8) (6 * d) = nI (15 + bD B d 0) ∧ (q_val (bD B d 0) → qA h (b + 8) (6 * d + 1) = nI (bD B d 1)) ∧ ∀ k, 2 ≤ k → k < 6 → qA h (b + 8) (6 * d + k) = oN (bD B d k)) ∧
  ∀ r, r < bN B 2 → r_cR h (b + 9 + 14 * r) (bR B r)
def r_mB (h : q_Hp) (B : q_Bk) : Prop :=
  (∀ i, i < 4 → qI h 630 (24 + i) = nI (bN B i)) ∧ (∀ j, j < bN B 0 → qA h 638 j = oN (bT B j 0)) ∧
  (∀ j, j < bN B 1 → qA h 639 j = nI (bT B j 1) ∧ qA h 640 j = nI (bT B j 2)) ∧
  (∀ p, p < bN B 3 → qA h 673 p = oN (bP B p)) ∧
  (∀ i, i < bN B 4 → qA h 666 i = nI (bC B i 0) ∧ (bC B i 0 = 0 → qA h 667 i = nI (bC B i 1)) ∧ (bC B i 0 = 1 → qA h 667 i = nI (bC B i 1 / 2) ∧ qA h 668 i = nI (bC B i 1 % 2))) ∧
  (∀ d, d < bN B 5 → qA h 669 d = nI (bD B d 0) ∧ (q_val (bD B d 0) → qA h 670 d = nI (bD B d 1)) ∧ qA h 672 d = oN (bD B d 2) ∧ ∀ k, k < 3 → qA h 671 (3 * d + k) = oN (bD B d (3 + k))) ∧
  ∀ r, r < bN B 2 → r_mR h r (bR B r)
/-- what a code leaves on a stack of so many, or none where it is no code of a sum -/
def q_cd (B : q_Bk) (V : Nat → Nat → Nat) : Nat → Nat → Nat → Option Nat
  | _, 0, n => some n
  | i, m + 1, n =>
    if bC B i 0 < 2 then (if (bC B i 0 = 1 → bC B i 1 / 2 < V 0 0) ∧ n < 40 then q_cd B V (i + 1) m (n + 1) else none)
    else if bC B i 0 = 2 then (if 1 ≤ n then q_cd B V (i + 1) m n else none)
    else if bC B i 0 < 6 ∧ 2 ≤ n then q_cd B V (i + 1) m (n - 1) else none
/-- a sum is well made -/
def q_sm (B : q_Bk) (V : Nat → Nat → Nat) (s : Nat) : Prop := V 11 s ≤ V 12 s ∧ V 12 s ≤ bN B 4 ∧ q_cd B V (V 11 s) (V 12 s - V 11 s) 0 = some 1
/-- a number of a node in what a rule does: one of its own, not yet deleted, or a new one -/
def q_nd (V : Nat → Nat → Nat) (d x : Nat) : Prop := (x < V 0 0 ∧ ∀ e, e < d → V 13 e = 0 → ¬ V 14 e = x) ∨ ∃ e, e < d ∧ V 13 e = 2 ∧ V 14 e = x
def q_wR (B : q_Bk) (V : Nat → Nat → Nat) : Prop :=
  V 0 0 ≤ 4 ∧ V 0 1 ≤ 6 ∧ V 0 2 ≤ 2 ∧ V 0 3 ≤ 4 ∧ V 0 4 ≤ 8 ∧ V 0 5 ≤ 1 ∧
  (∀ i, i < V 0 0 → V 1 i < bN B 0) ∧ (∀ i, i < V 0 1 → V 2 i < bN B 1 ∧ V 3 i < V 0 0 ∧ V 4 i < V 0 0) ∧
  (∀ n, n < V 0 2 → V 5 n ≤ bN B 0 ∧ V 6 n ≤ 3 ∧ ∀ l, l < V 6 n → V 7 (3 * n + l) < bN B 1 ∧ (V 8 (3 * n + l) < V 0 0 ∨ (V 8 (3 * n + l) = 4 ∧ 0 < V 5 n)) ∧ (V 9 (3 * n + l) < V 0 0 ∨ (V 9 (3 * n + l) = 4 ∧ 0 < V 5 n))) ∧
  (∀ t, t < V 0 3 → V 10 t < 4 ∧ q_sm B V (2 * t) ∧ q_sm B V (2 * t + 1) ∧ V 11 (2 * t + 1) = V 12 (2 * t)) ∧
  (∀ d, d < V 0 4 → V 13 d < 5 ∧
    (V 13 d = 0 → V 14 d < V 0 0 ∧ (∀ e, e < d → V 13 e = 0 → ¬ V 14 e = V 14 d) ∧ (∀ l, l < V 0 1 → V 3 l = V 14 d ∨ V 4 l = V 14 d → ∃ e, e < d ∧ V 13 e = 1 ∧ V 14 e = l) ∧ ∀ e, e < d → V 13 e = 3 → ¬ V 14 e = V 14 d ∧ ¬ V 16 e = V 14 d) ∧
    (V 13 d = 1 → V 14 d < V 0 1 ∧ ∀ e, e < d → V 13 e = 1 → ¬ V 14 e = V 14 d) ∧
    (V 13 d = 2 → 4 ≤ V 14 d ∧ V 14 d < 12 ∧ V 15 d < bN B 0 ∧ ∀ e, e < d → V 13 e = 2 → V 14 e < V 14 d) ∧
    (V 13 d = 3 → q_nd V d (V 14 d) ∧ V 15 d < bN B 1 ∧ q_nd V d (V 16 d)) ∧
    (V 13 d = 4 → q_nd V d (V 14 d) ∧ V 15 d < 2 ∧ q_sm B V (8 + d)))
/-- a do's row is told for these kinds, at these parts -/
def q_row (k p : Nat) : Prop := (p = 3 ∧ 2 ≤ k ∧ ¬ k = 3 ∧ ¬ k = 4) ∨ (k = 7 ∧ (p = 4 ∨ p = 5))
def q_wB (B : q_Bk) : Prop :=
  bN B 0 ≤ 12 ∧ bN B 1 ≤ 12 ∧ bN B 2 ≤ 20 ∧ bN B 3 ≤ 10 ∧ bN B 4 ≤ 1200 ∧ bN B 5 ≤ 1200 ∧
  (∀ j, j < bN B 0 → bT B j 0 ≤ j) ∧ (∀ j, j < bN B 1 → bT B j 1 < bN B 0 ∧ bT B j 2 < bN B 0) ∧
  (∀ i, i < bN B 4 → bC B i 0 < 6 ∧ bC B i 1 < 2 ^ 31) ∧
  (∃ lev : Nat → Nat, (∀ p, p < bN B 3 → bP B p ≤ bN B 5 ∧ (0 < bP B p → lev (bP B p - 1) = 0)) ∧
    ∀ d, d < bN B 5 → bD B d 0 < 8 ∧ lev d ≤ 8 ∧ (5 ≤ bD B d 0 → lev d < 8) ∧
      ((bD B d 0 = 0 ∨ bD B d 0 = 1) → bD B d 1 < bN B 2) ∧ (bD B d 0 = 3 → bD B d 1 < bN B 3) ∧ (bD B d 0 = 6 → bD B d 1 ≤ 100) ∧
      (bD B d 2 = 0 ∨ (d < bD B d 2 - 1 ∧ bD B d 2 ≤ bN B 5 ∧ lev (bD B d 2 - 1) = lev d)) ∧
      (∀ k, 3 ≤ k → k < 6 → bD B d k = 0 ∨ (d < bD B d k - 1 ∧ bD B d k ≤ bN B 5 ∧ (5 ≤ bD B d 0 → lev (bD B d k - 1) = lev d + 1))) ∧
      (bD B d 0 = 2 → 0 < bD B d 3 ∧ ∃ al : Nat → Prop, al (bD B d 3 - 1) ∧ ∀ e, al e → e < bN B 5 ∧ bD B e 0 = 0 ∧ (bD B e 2 = 0 ∨ al (bD B e 2 - 1)))) ∧
  ∀ r, r < bN B 2 → q_wR B (bR B r)
/-- two rows that hold the same diagram, of so many types and sorts -/
def q_dr (T S : Nat) (f g : Nat → Int32) : Prop :=
  (∀ i, i < 12 → (f i = -1 ∧ f (12 + i) = 0 ∧ f (24 + i) = 0) ∨ ∃ t, t < T ∧ f i = nI t) ∧
  (∀ i, i < 40 → f (36 + i) = -1 ∨ ((∃ s, s < S ∧ f (36 + i) = nI s) ∧ (∃ a, a < 12 ∧ f (76 + i) = nI a) ∧ ∃ a, a < 12 ∧ f (116 + i) = nI a)) ∧
  (∀ i, i < 76 → g i = f i) ∧ (∀ i, i < 40 → ¬ f (36 + i) = -1 → g (76 + i) = f (76 + i) ∧ g (116 + i) = f (116 + i))
/-- each link leads from a node that is there to one -/
def q_de (f : Nat → Int32) : Prop := ∀ i, i < 40 → ¬ f (36 + i) = -1 → ¬ f (f (76 + i)).toNatClampNeg = -1 ∧ ¬ f (f (116 + i)).toNatClampNeg = -1
def q_dg (T S : Nat) (f g : Nat → Int32) : Prop := q_dr T S f g ∧ q_de f
theorem oN_s (x : Nat) : oN (x + 1) = nI x := by
  unfold oN
  rw [if_neg (Nat.succ_ne_zero x)]
  rfl
theorem oN_0 : oN 0 = -1 := rfl
theorem d_free_eq {T S : Nat} {f g : Nat → Int32} (D : q_dr T S f g) : d_free g 0 12 = d_free f 0 12 ∧ d_free g 36 40 = d_free f 36 40 := by
  have key : ∀ (b n : Nat) (hb : b + n ≤ 76) (m i : Nat), i + m = n → q_fst (fun i => g (b + i) == -1) i m = q_fst (fun i => f (b + i) == -1) i m := by
    intro b n hb m
    induction m with
    | zero => intro i _; rfl
    | succ m ih =>
      intro i hi
      unfold q_fst
      rw [D.2.2.1 (b + i) (by omega), ih (i + 1) (by omega)]
  exact ⟨key 0 12 (by omega) 12 0 rfl, key 36 40 (by omega) 40 0 rfl⟩
theorem q_cnt_ext {p q : Nat → Bool} {n : Nat} (h : ∀ i, i < n → p i = q i) : q_cnt p n = q_cnt q n := by
  induction n with
  | zero => rfl
  | succ n ih => rw [q_cnt_s, q_cnt_s, ih (fun i hi => h i (by omega)), h n (by omega)]
theorem d_has_eq {T S : Nat} {f g : Nat → Int32} (D : q_dr T S f g) (x : Int32) : d_has g x = d_has f x := by
  unfold d_has
  by_cases hx : q_rg x 12 = true
  · obtain ⟨j, hj, rfl⟩ := (q_rg_ex (by decide)).mp hx
    rw [nI_clamp (by omega), D.2.2.1 j (by omega)]
  · rw [Bool.eq_false_iff.mpr hx]
    rfl
theorem d_hasL_eq {T S : Nat} {f g : Nat → Int32} (D : q_dr T S f g) (x : Int32) : d_hasL g x = d_hasL f x := by
  unfold d_hasL
  by_cases hx : q_rg x 40 = true
  · obtain ⟨j, hj, rfl⟩ := (q_rg_ex (by decide)).mp hx
    rw [nI_clamp (by omega), D.2.2.1 (36 + j) (by omega)]
  · rw [Bool.eq_false_iff.mpr hx]
    rfl
theorem d_ends_eq {T S : Nat} {f g : Nat → Int32} (D : q_dr T S f g) (x : Int32) : d_ends g 76 x = d_ends f 76 x ∧ d_ends g 116 x = d_ends f 116 x := by
  unfold d_ends
  constructor
  · apply q_cnt_ext
    intro i hi
    rw [D.2.2.1 (36 + i) (by omega)]
    by_cases h1 : f (36 + i) = -1
    · simp [h1]
    · rw [(D.2.2.2 i hi h1).1]
  · apply q_cnt_ext
    intro i hi
    rw [D.2.2.1 (36 + i) (by omega)]
    by_cases h1 : f (36 + i) = -1
    · simp [h1]
    · rw [(D.2.2.2 i hi h1).2]
theorem d_node {T S : Nat} {f g : Nat → Int32} (D : q_dr T S f g) {x : Int32} (h : d_has f x = true) : ∃ j t, j < 12 ∧ t < T ∧ x = nI j ∧ f j = nI t ∧ ¬ f j = -1 := by
  obtain ⟨j, hj, rfl⟩ := (q_rg_ex (by decide)).mp (d_has_rg h)
  unfold d_has at h
  rw [nI_clamp (by omega)] at h
  simp only [Bool.and_eq_true, Bool.not_eq_true', beq_eq_false_iff_ne] at h
  rcases D.1 j hj with h1 | ⟨t, ht, h1⟩
  · exact absurd h1.1 h.2
  · exact ⟨j, t, hj, ht, rfl, h1, h.2⟩
theorem d_link {T S : Nat} {f g : Nat → Int32} (D : q_dr T S f g) {x : Int32} (h : d_hasL f x = true) : ∃ j, j < 40 ∧ x = nI j ∧ ¬ f (36 + j) = -1 := by
  obtain ⟨j, hj, rfl⟩ := (q_rg_ex (by decide)).mp (d_hasL_rg h)
  unfold d_hasL at h
  rw [nI_clamp (by omega)] at h
  simp only [Bool.and_eq_true, Bool.not_eq_true', beq_eq_false_iff_ne] at h
  exact ⟨j, hj, rfl, h.2⟩
