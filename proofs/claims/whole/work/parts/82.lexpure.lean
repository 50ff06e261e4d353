/-! TOKENS, without cells -/
/-- from here on the first that is none of these -/
def t_sc (p : Nat → Bool) : Nat → Nat → Nat
  | 0, i => i
  | m + 1, i => if p i = true then t_sc p m (i + 1) else i
theorem t_sc_le {p : Nat → Bool} : ∀ m i, i ≤ t_sc p m i ∧ t_sc p m i ≤ i + m := by
  intro m
  induction m with
  | zero => intro i; exact ⟨Nat.le_refl _, Nat.le_refl _⟩
  | succ m ih =>
    intro i
    unfold t_sc
    split
    · have := ih (i + 1); omega
    · omega
theorem t_sc_all {p : Nat → Bool} : ∀ m i j, i ≤ j → j < t_sc p m i → p j = true := by
  intro m
  induction m with
  | zero => intro i j h1 h2; have h2 : j < i := h2; omega
  | succ m ih =>
    intro i j h1 h2
    unfold t_sc at h2
    split at h2
    · next h =>
      by_cases e : j = i
      · rw [e]; exact h
      · exact ih (i + 1) j (by omega) h2
    · omega
theorem t_sc_end {p : Nat → Bool} : ∀ m i, t_sc p m i < i + m → p (t_sc p m i) = false := by
  intro m
  induction m with
  | zero => intro i h; have h : i < i + 0 := h; omega
  | succ m ih =>
    intro i h
    unfold t_sc at h ⊢
    split
    · next hp =>
      rw [if_pos hp] at h
      exact ih (i + 1) (by omega)
    · next hp => exact Bool.eq_false_iff.mpr hp
theorem t_sc_y {p : Nat → Bool} {m i : Nat} (h : p i = true) : t_sc p (m + 1) i = t_sc p m (i + 1) := if_pos h
theorem t_sc_n {p : Nat → Bool} {m i : Nat} (h : ¬ p i = true) : t_sc p (m + 1) i = i := if_neg h
-- classes of characters
def t_wh (c : Nat) : Bool := c == 9 || c == 10 || c == 13 || c == 32
def t_le (c : Nat) : Bool := decide (97 ≤ c) && decide (c ≤ 122)
def t_di (c : Nat) : Bool := decide (48 ≤ c) && decide (c ≤ 57)
def t_al (c : Nat) : Bool := t_le c || t_di c
/-- a row of characters, the last first, as one number, and as the reference has it -/
def t_V : List Nat → Nat
  | [] => 0
  | c :: r => t_V r * 256 + c
def t_dg (c : Nat) : Nat := if t_di c = true then c - 48 + 27 else c - 97 + 1
def t_U : List Nat → Nat
  | [] => 0
  | c :: r => 37 * t_U r + t_dg c
theorem t_al_c {c : Nat} (h : t_al c = true) : (97 ≤ c ∧ c ≤ 122) ∨ (48 ≤ c ∧ c ≤ 57) := by
  unfold t_al t_le t_di at h
  simp only [Bool.or_eq_true, Bool.and_eq_true, decide_eq_true_eq] at h
  exact h
theorem t_dg_c {c : Nat} (h : t_al c = true) : 1 ≤ t_dg c ∧ t_dg c ≤ 36 := by
  have := t_al_c h
  unfold t_dg
  split
  · next h2 =>
    unfold t_di at h2
    simp only [Bool.and_eq_true, decide_eq_true_eq] at h2
    omega
  · next h2 =>
    unfold t_di at h2
    simp only [Bool.and_eq_true, decide_eq_true_eq] at h2
    omega
theorem t_dg_inj {c d : Nat} (hc : t_al c = true) (hd : t_al d = true) (e : t_dg c = t_dg d) : c = d := by
  have h1 := t_al_c hc
  have h2 := t_al_c hd
  unfold t_dg t_di at e
  by_cases a : (decide (48 ≤ c) && decide (c ≤ 57)) = true
  · by_cases b : (decide (48 ≤ d) && decide (d ≤ 57)) = true
    · rw [if_pos a, if_pos b] at e
      simp only [Bool.and_eq_true, decide_eq_true_eq] at a b
      omega
    · rw [if_pos a, if_neg b] at e
      simp only [Bool.and_eq_true, decide_eq_true_eq] at a b
      omega
  · by_cases b : (decide (48 ≤ d) && decide (d ≤ 57)) = true
    · rw [if_neg a, if_pos b] at e
      simp only [Bool.and_eq_true, decide_eq_true_eq] at a b
      omega
    · rw [if_neg a, if_neg b] at e
      simp only [Bool.and_eq_true, decide_eq_true_eq] at a b
      omega
theorem t_V_inj : ∀ r q : List Nat, (∀ c, c ∈ r → t_al c = true) → (∀ c, c ∈ q → t_al c = true) → t_V r = t_V q → r = q := by
  intro r
  induction r with
  | nil =>
    intro q _ hq e
    cases q with
    | nil => rfl
    | cons d q =>
      have := t_al_c (hq d (List.mem_cons_self ..))
      have e : 0 = t_V q * 256 + d := e
      omega
  | cons c r ih =>
    intro q hr hq e
    have h1 := t_al_c (hr c (List.mem_cons_self ..))
    cases q with
    | nil =>
      have e : t_V r * 256 + c = 0 := e
      omega
    | cons d q =>
      have h2 := t_al_c (hq d (List.mem_cons_self ..))
      have e : t_V r * 256 + c = t_V q * 256 + d := e
      have e1 : c = d := by omega
      have e2 : t_V r = t_V q := by omega
      rw [e1, ih q (fun c hc => hr c (List.mem_cons_of_mem _ hc)) (fun c hc => hq c (List.mem_cons_of_mem _ hc)) e2]
theorem t_U_inj : ∀ r q : List Nat, (∀ c, c ∈ r → t_al c = true) → (∀ c, c ∈ q → t_al c = true) → t_U r = t_U q → r = q := by
  intro r
  induction r with
  | nil =>
    intro q _ hq e
    cases q with
    | nil => rfl
    | cons d q =>
      have := t_dg_c (hq d (List.mem_cons_self ..))
      have e : 0 = 37 * t_U q + t_dg d := e
      omega
  | cons c r ih =>
    intro q hr hq e
    have h1 := t_dg_c (hr c (List.mem_cons_self ..))
    cases q with
    | nil =>
      have e : 37 * t_U r + t_dg c = 0 := e
      omega
    | cons d q =>
      have h2 := t_dg_c (hq d (List.mem_cons_self ..))
      have e : 37 * t_U r + t_dg c = 37 * t_U q + t_dg d := e
      have e1 : t_dg c = t_dg d := by omega
      have e2 : t_U r = t_U q := by omega
      rw [t_dg_inj (hr c (List.mem_cons_self ..)) (hq d (List.mem_cons_self ..)) e1, ih q (fun c hc => hr c (List.mem_cons_of_mem _ hc)) (fun c hc => hq c (List.mem_cons_of_mem _ hc)) e2]
theorem t_V_lt : ∀ r : List Nat, (∀ c, c ∈ r → t_al c = true) → t_V r < 123 * 256 ^ (r.length - 1) + (if r.length = 0 then 1 else 256 ^ (r.length - 1)) := by
  intro r
  induction r with
  | nil => intro _; decide
  | cons c r ih =>
    intro h
    have hc := t_al_c (h c (List.mem_cons_self ..))
    have i := ih (fun c hc => h c (List.mem_cons_of_mem _ hc))
    show t_V r * 256 + c < 123 * 256 ^ (r.length + 1 - 1) + (if r.length + 1 = 0 then 1 else 256 ^ (r.length + 1 - 1))
    rw [if_neg (by omega), Nat.add_sub_cancel]
    cases r with
    | nil =>
      have e : t_V [] = 0 := rfl
      have e2 : (256 : Nat) ^ (List.length ([] : List Nat)) = 1 := rfl
      rw [e, e2]
      omega
    | cons d r =>
      rw [if_neg (by show ¬ r.length + 1 = 0; omega)] at i
      have e1 : (d :: r).length - 1 = r.length := rfl
      have e2 : (d :: r).length = r.length + 1 := rfl
      rw [e1] at i
      rw [e2, Nat.pow_succ]
      omega
theorem t_V_63 {r : List Nat} (h : ∀ c, c ∈ r → t_al c = true) (h8 : r.length ≤ 8) : t_V r < 2 ^ 63 := by
  have := t_V_lt r h
  rcases (show r.length = 0 ∨ r.length = 1 ∨ r.length = 2 ∨ r.length = 3 ∨ r.length = 4 ∨ r.length = 5 ∨ r.length = 6 ∨ r.length = 7 ∨ r.length = 8 by omega) with e | e | e | e | e | e | e | e | e <;> rw [e] at this <;> simp at this <;> omega
theorem t_U_lt : ∀ r : List Nat, (∀ c, c ∈ r → t_al c = true) → t_U r < 37 ^ r.length := by
  intro r
  induction r with
  | nil => intro _; decide
  | cons c r ih =>
    intro h
    have hc := t_dg_c (h c (List.mem_cons_self ..))
    have i := ih (fun c hc => h c (List.mem_cons_of_mem _ hc))
    show 37 * t_U r + t_dg c < 37 ^ (r.length + 1)
    rw [Nat.pow_succ]
    omega
theorem t_U_63 {r : List Nat} (h : ∀ c, c ∈ r → t_al c = true) (h8 : r.length ≤ 8) : t_U r < 2 ^ 63 := by
  have := t_U_lt r h
  have h2 : 37 ^ r.length ≤ 37 ^ 8 := Nat.pow_le_pow_right (by decide) h8
  have h3 : (37 : Nat) ^ 8 < 2 ^ 63 := by decide
  omega
theorem i64_inj {x y : Nat} (hx : x < 2 ^ 63) (hy : y < 2 ^ 63) : Int64.ofNat x = Int64.ofNat y ↔ x = y := by
  constructor
  · intro e
    have := congrArg Int64.toInt e
    rw [Int64.toInt_ofNat_of_lt (by omega), Int64.toInt_ofNat_of_lt (by omega)] at this
    omega
  · rintro rfl; rfl
/-- the words, the last letter first -/
def t_wz : List (List Nat) := [[101, 112, 121, 116], [102, 111], [116, 114, 111, 115], [101, 108, 117, 114], [99, 111, 114, 112], [100, 110, 101], [101, 100, 111, 110], [107, 110, 105, 108], [101, 103, 114, 101, 109], [116, 111, 110], [102, 105], [108, 101, 100], [119, 101, 110], [110, 105, 111, 106], [116, 101, 115], [111, 100], [108, 108, 97], [121, 110, 97], [108, 108, 97, 99], [108, 105, 97, 102], [101, 108, 105, 104, 119], [112, 111, 111, 108], [121, 114, 116], [110, 101, 104, 116], [101, 115, 108, 101]]
def t_wd (k : Nat) : List Nat := t_wz.getD k []
/-- the reference's order of the words: its number of the class's -/
def t_kw (k : Nat) : Nat := if k = 5 then 9 else if 6 ≤ k ∧ k ≤ 9 then k - 1 else k
theorem t_wd_al : ∀ k, k < 25 → ∀ c, c ∈ t_wd k → t_al c = true := by decide +kernel
theorem t_wd_5 : ∀ k, k < 25 → (t_wd k).length ≤ 5 := by decide +kernel
theorem t_wd_inj : ∀ j, j < 25 → ∀ k, k < 25 → t_wd j = t_wd k → j = k := by decide +kernel
/-- what the rows of the words hold -/
def t_W (k : Nat) : Int64 := Int64.ofNat (t_V (t_wd k))
def t_K (k : Nat) : Int64 := Int64.ofNat (t_U (t_wd (if k = 9 then 5 else if 5 ≤ k ∧ k ≤ 8 then k + 1 else k)))
/-- the number of a word, or 40 -/
def t_kn (r : List Nat) : Nat := match t_wz.findIdx? (fun w => w == r) with
  | some k => k
  | none => 40
theorem t_kn_c (r : List Nat) : (t_kn r < 25 ∧ t_wd (t_kn r) = r) ∨ (t_kn r = 40 ∧ ∀ k, k < 25 → ¬ t_wd k = r) := by
  have l25 : t_wz.length = 25 := rfl
  unfold t_kn
  cases h : t_wz.findIdx? (fun w => w == r) with
  | some k =>
    left
    obtain ⟨h1, h2, _⟩ := List.findIdx?_eq_some_iff_getElem.mp h
    refine ⟨by rw [← l25]; exact h1, ?_⟩
    show t_wz.getD k [] = r
    rw [List.getD_eq_getElem?_getD, List.getElem?_eq_getElem h1]
    exact eq_of_beq h2
  | none =>
    right
    refine ⟨rfl, fun k hk e => ?_⟩
    have := List.findIdx?_eq_none_iff.mp h (t_wz[k]'(by rw [l25]; exact hk)) (List.getElem_mem _)
    rw [show t_wz[k]'(by rw [l25]; exact hk) = r by
      rw [← e]
      show _ = t_wz.getD k []
      rw [List.getD_eq_getElem?_getD, List.getElem?_eq_getElem (by rw [l25]; exact hk)]
      rfl] at this
    rw [beq_self_eq_true] at this
    cases this
/-- signs -/
def t_s1 (c : Nat) : Nat := if c = 58 then 25 else if c = 59 then 26 else if c = 46 then 27 else if c = 44 then 28 else if c = 61 then 29 else if c = 60 then 30 else if c = 43 then 31 else if c = 45 then 32 else if c = 42 then 33 else if c = 40 then 34 else if c = 41 then 35 else 43
def t_sg (c d : Nat) : Nat := if c = 33 then (if d = 61 then 37 else 43) else if c = 61 ∧ d = 61 then 36 else if c = 60 ∧ d = 61 then 38 else if c = 45 ∧ d = 62 then 39 else t_s1 c
-- the bytes: so many, b
section TX
variable (b : Nat → Nat) (n : Nat)
def t_at (i : Nat) : Nat := if i < n then b i else 0
def t_sk (i : Nat) : Nat := t_sc (fun j => t_wh (b j)) (n - i) i
def t_we (i : Nat) : Nat := t_sc (fun j => t_al (b j)) (n - i) i
def t_ie (i : Nat) : Nat := t_sc (fun j => t_di (b j)) (n - i) i
/-- so many characters from here on, the last first -/
def t_ch (i : Nat) : Nat → List Nat
  | 0 => []
  | m + 1 => b (i + m) :: t_ch i m
def t_iv (i : Nat) : Nat → Nat
  | 0 => 0
  | m + 1 => t_iv i m * 10 + (b (i + m) - 48)
/-- the kind of the token here, and where it ends -/
def t_kd (p : Nat) : Nat := if n ≤ p then 42 else if t_le (b p) = true then (if 8 < t_we b n p - p then 43 else t_kn (t_ch b p (t_we b n p - p))) else if t_di (b p) = true then (if 9 < t_ie b n p - p then 43 else 41) else t_sg (b p) (t_at b n (p + 1))
def t_en (p : Nat) : Nat := if t_le (b p) = true then t_we b n p else if t_di (b p) = true then t_ie b n p else if 36 ≤ t_sg (b p) (t_at b n (p + 1)) ∧ t_sg (b p) (t_at b n (p + 1)) ≤ 39 then p + 2 else p + 1
/-- where each token stands -/
def t_ps : Nat → Nat
  | 0 => t_sk b n 0
  | i + 1 => t_sk b n (t_en b n (t_ps i))
end TX
theorem t_sk_n {b : Nat → Nat} {n i : Nat} (hi : i ≤ n) : i ≤ t_sk b n i ∧ t_sk b n i ≤ n := by
  have := t_sc_le (p := fun j => t_wh (b j)) (n - i) i
  unfold t_sk
  omega
theorem t_we_n {b : Nat → Nat} {n i : Nat} (hi : i ≤ n) : i ≤ t_we b n i ∧ t_we b n i ≤ n := by
  have := t_sc_le (p := fun j => t_al (b j)) (n - i) i
  unfold t_we
  omega
theorem t_ie_n {b : Nat → Nat} {n i : Nat} (hi : i ≤ n) : i ≤ t_ie b n i ∧ t_ie b n i ≤ n := by
  have := t_sc_le (p := fun j => t_di (b j)) (n - i) i
  unfold t_ie
  omega
theorem t_ch_len {b : Nat → Nat} {i : Nat} : ∀ m, (t_ch b i m).length = m := by
  intro m
  induction m with
  | zero => rfl
  | succ m ih => show (t_ch b i m).length + 1 = m + 1; rw [ih]
theorem t_ch_al {b : Nat → Nat} {i : Nat} : ∀ m, (∀ j, i ≤ j → j < i + m → t_al (b j) = true) → ∀ c, c ∈ t_ch b i m → t_al c = true := by
  intro m
  induction m with
  | zero => intro _ c hc; exact absurd hc (List.not_mem_nil)
  | succ m ih =>
    intro h c hc
    rcases List.mem_cons.mp hc with rfl | hc
    · exact h (i + m) (by omega) (by omega)
    · exact ih (fun j h1 h2 => h j h1 (by omega)) c hc
theorem t_we_al {b : Nat → Nat} {n p : Nat} : ∀ c, c ∈ t_ch b p (t_we b n p - p) → t_al c = true := by
  refine t_ch_al _ (fun j h1 h2 => ?_)
  have := t_sc_le (p := fun j => t_al (b j)) (n - p) p
  exact t_sc_all (p := fun j => t_al (b j)) (n - p) p j h1 (by unfold t_we at h2; omega)
theorem t_le_al {c : Nat} (h : t_le c = true) : t_al c = true := by unfold t_al; rw [h]; rfl
theorem t_di_al {c : Nat} (h : t_di c = true) : t_al c = true := by unfold t_al; rw [h, Bool.or_true]
theorem t_le_di {c : Nat} (h : t_le c = true) : t_di c = false := by
  unfold t_le at h
  unfold t_di
  simp only [Bool.and_eq_true, decide_eq_true_eq] at h
  simp only [Bool.and_eq_false_iff, decide_eq_false_iff_not]
  omega
theorem t_s1_c (c : Nat) : (25 ≤ t_s1 c ∧ t_s1 c ≤ 35) ∨ t_s1 c = 43 := by
  unfold t_s1
  repeat (split; omega)
  omega
theorem t_en_n {b : Nat → Nat} {n p : Nat} (hp : p < n) : p < t_en b n p ∧ t_en b n p ≤ n := by
  unfold t_en
  split
  · next h =>
    have h2 := t_we_n (b := b) (n := n) (i := p) (by omega)
    refine ⟨?_, h2.2⟩
    have e : n - p = (n - p - 1) + 1 := by omega
    have : t_we b n p = t_sc (fun j => t_al (b j)) (n - p - 1) (p + 1) := by
      unfold t_we
      rw [show n - p = (n - p - 1) + 1 from e, t_sc_y (p := fun j => t_al (b j)) (t_le_al h), Nat.add_sub_cancel]
    have := t_sc_le (p := fun j => t_al (b j)) (n - p - 1) (p + 1)
    omega
  · split
    · next h =>
      have h2 := t_ie_n (b := b) (n := n) (i := p) (by omega)
      refine ⟨?_, h2.2⟩
      have e : n - p = (n - p - 1) + 1 := by omega
      have : t_ie b n p = t_sc (fun j => t_di (b j)) (n - p - 1) (p + 1) := by
        unfold t_ie
        rw [show n - p = (n - p - 1) + 1 from e, t_sc_y (p := fun j => t_di (b j)) h, Nat.add_sub_cancel]
      have := t_sc_le (p := fun j => t_di (b j)) (n - p - 1) (p + 1)
      omega
    · split
      · next h =>
        refine ⟨by omega, ?_⟩
        by_cases h9 : p + 1 < n
        · omega
        · exfalso
          have e : t_at b n (p + 1) = 0 := if_neg h9
          rw [e] at h
          unfold t_sg at h
          have := t_s1_c (b p)
          split at h
          · rw [if_neg (by decide)] at h; omega
          · rw [if_neg (by omega), if_neg (by omega), if_neg (by omega)] at h
            omega
      · omega
theorem t_ps_n {b : Nat → Nat} {n : Nat} : ∀ i, (∀ j, j < i → t_ps b n j < n) → t_ps b n i ≤ n := by
  intro i
  induction i with
  | zero => intro _; exact (t_sk_n (Nat.zero_le _)).2
  | succ i ih =>
    intro h
    exact (t_sk_n (t_en_n (h i (by omega))).2).2
/-- the name of a token -/
def t_nm (b : Nat → Nat) (n p : Nat) : List Nat := t_ch b p (t_we b n p - p)
