/-! THE TWO READS: the tokens on both sides -/
section TZ
variable {b b' : Nat → Nat} {n : Nat}
theorem t_sc_cg {p q : Nat → Bool} : ∀ m i, (∀ j, i ≤ j → j < i + m → p j = q j) → t_sc p m i = t_sc q m i := by
  intro m
  induction m with
  | zero => intro i _; rfl
  | succ m ih =>
    intro i h
    unfold t_sc
    rw [h i (by omega) (by omega), ih (i + 1) (fun j h1 h2 => h j (by omega) (by omega))]
theorem t_sk_cg (h : ∀ j, j < n → b j = b' j) (i : Nat) : t_sk b n i = t_sk b' n i := t_sc_cg _ _ (fun j _ h2 => by rw [h j (by omega)])
theorem t_we_cg (h : ∀ j, j < n → b j = b' j) (i : Nat) : t_we b n i = t_we b' n i := t_sc_cg _ _ (fun j _ h2 => by rw [h j (by omega)])
theorem t_ie_cg (h : ∀ j, j < n → b j = b' j) (i : Nat) : t_ie b n i = t_ie b' n i := t_sc_cg _ _ (fun j _ h2 => by rw [h j (by omega)])
theorem t_at_cg (h : ∀ j, j < n → b j = b' j) (i : Nat) : t_at b n i = t_at b' n i := by
  unfold t_at
  by_cases h9 : i < n
  · rw [if_pos h9, if_pos h9, h i h9]
  · rw [if_neg h9, if_neg h9]
theorem t_ch_cg (h : ∀ j, j < n → b j = b' j) {i : Nat} : ∀ m, i + m ≤ n → t_ch b i m = t_ch b' i m := by
  intro m
  induction m with
  | zero => intro _; rfl
  | succ m ih =>
    intro hm
    show b (i + m) :: t_ch b i m = b' (i + m) :: t_ch b' i m
    rw [h (i + m) (by omega), ih (by omega)]
theorem t_iv_cg (h : ∀ j, j < n → b j = b' j) {i : Nat} : ∀ m, i + m ≤ n → t_iv b i m = t_iv b' i m := by
  intro m
  induction m with
  | zero => intro _; rfl
  | succ m ih =>
    intro hm
    show t_iv b i m * 10 + (b (i + m) - 48) = t_iv b' i m * 10 + (b' (i + m) - 48)
    rw [h (i + m) (by omega), ih (by omega)]
theorem t_nm_cg (h : ∀ j, j < n → b j = b' j) {p : Nat} (hp : p ≤ n) : t_nm b n p = t_nm b' n p := by
  have h1 := t_we_n (b := b) hp
  unfold t_nm
  rw [← t_we_cg h p]
  exact t_ch_cg h _ (by omega)
theorem t_kd_cg (h : ∀ j, j < n → b j = b' j) (p : Nat) : t_kd b n p = t_kd b' n p := by
  unfold t_kd
  by_cases h9 : n ≤ p
  · rw [if_pos h9, if_pos h9]
  · have h8 := t_nm_cg (p := p) h (by omega)
    unfold t_nm at h8
    rw [if_neg h9, if_neg h9, h p (by omega), t_at_cg h, t_ie_cg h, h8, t_we_cg h]
theorem t_en_cg (h : ∀ j, j < n → b j = b' j) {p : Nat} (hp : p < n) : t_en b n p = t_en b' n p := by
  unfold t_en
  rw [h p hp, t_at_cg h, t_ie_cg h, t_we_cg h]
theorem t_ps_cg (h : ∀ j, j < n → b j = b' j) : ∀ i, (∀ j, j < i → t_tk b n j < 42) → t_ps b n i = t_ps b' n i := by
  intro i
  induction i with
  | zero => intro _; exact t_sk_cg h 0
  | succ i ih =>
    intro h1
    have h2 := t_kd_42 (h1 i (by omega))
    show t_sk b n (t_en b n (t_ps b n i)) = t_sk b' n (t_en b' n (t_ps b' n i))
    rw [← ih (fun j hj => h1 j (by omega)), t_en_cg h h2, t_sk_cg h]
theorem t_tk_cg (h : ∀ j, j < n → b j = b' j) {i : Nat} (h1 : ∀ j, j < i → t_tk b n j < 42) : t_tk b n i = t_tk b' n i := by
  unfold t_tk
  rw [← t_ps_cg h i h1, t_kd_cg h]
theorem t_lst_cg (h : ∀ j, j < n → b j = b' j) : ∀ m i, (∀ j, j < i → t_tk b n j < 42) → t_lst b n m i = t_lst b' n m i := by
  intro m
  induction m with
  | zero => intro i _; rfl
  | succ m ih =>
    intro i h1
    unfold t_lst
    rw [← t_tk_cg h h1]
    by_cases h9 : t_tk b n i < 42
    · rw [if_pos h9, if_pos h9]
      refine ih (i + 1) (fun j hj => ?_)
      by_cases h8 : j = i
      · rw [h8]; exact h9
      · exact h1 j (by omega)
    · rw [if_neg h9, if_neg h9]
theorem t_e_cg (h : ∀ j, j < n → b j = b' j) : t_e b n = t_e b' n := t_lst_cg h 1200 0 (fun j hj => by omega)
/-- the tokens' places, growing for ever; the ints; the names of the reference -/
def zP (b : Nat → Nat) (n i : Nat) : Nat := if i ≤ t_e b n then t_ps b n i else 5000
def zXn (b : Nat → Nat) (n i : Nat) : Nat := t_iv b (t_ps b n i) (t_ie b n (t_ps b n i) - t_ps b n i)
def zU (b : Nat → Nat) (n i : Nat) : Int64 := lN (t_U (t_nm b n (t_ps b n i)))
theorem zP_e {i : Nat} (hi : i ≤ t_e b n) : zP b n i = t_ps b n i := if_pos hi
theorem z_PM (hn : n ≤ 4000) : zPm (zP b n) (t_e b n) := by
  refine ⟨fun i t hi ht => ?_, fun t => ?_⟩
  · have h1 := t_ps_le hi
    rw [zP_e hi]
    by_cases h9 : t ≤ t_e b n
    · rw [zP_e h9]
      exact t_ps_mono t i ht h9
    · unfold zP
      rw [if_neg h9]
      omega
  · by_cases h9 : t ≤ t_e b n
    · rw [zP_e h9]
      have := t_ps_le h9
      omega
    · unfold zP
      rw [if_neg h9]
      omega
theorem t_kd_40 {p : Nat} (h : t_kd b n p = 40) : p < n ∧ t_le (b p) = true ∧ t_we b n p - p ≤ 8 := by
  have h1 := t_kd_42 (b := b) (n := n) (p := p) (by omega)
  unfold t_kd at h
  rw [if_neg (by omega)] at h
  by_cases h2 : t_le (b p) = true
  · rw [if_pos h2] at h
    refine ⟨h1, h2, ?_⟩
    split at h
    · omega
    · omega
  · rw [if_neg h2] at h
    split at h
    · split at h <;> omega
    · rcases t_sg_c (b p) (t_at b n (p + 1)) with h3 | h3 <;> omega
theorem t_kd_41 {p : Nat} (h : t_kd b n p = 41) : p < n ∧ ¬ t_le (b p) = true ∧ t_di (b p) = true ∧ t_ie b n p - p ≤ 9 := by
  have h1 := t_kd_42 (b := b) (n := n) (p := p) (by omega)
  unfold t_kd at h
  rw [if_neg (by omega)] at h
  by_cases h2 : t_le (b p) = true
  · rw [if_pos h2] at h
    exfalso
    split at h
    · omega
    · rcases t_kn_c (t_ch b p (t_we b n p - p)) with ⟨h3, _⟩ | ⟨h3, _⟩ <;> omega
  · rw [if_neg h2] at h
    by_cases h4 : t_di (b p) = true
    · rw [if_pos h4] at h
      refine ⟨h1, h2, h4, ?_⟩
      split at h <;> omega
    · rw [if_neg h4] at h
      rcases t_sg_c (b p) (t_at b n (p + 1)) with h3 | h3 <;> omega
theorem t_ie_di {p j : Nat} (h1 : p ≤ j) (h2 : j < t_ie b n p) : t_di (b j) = true := t_sc_all (p := fun j => t_di (b j)) _ _ j h1 h2
theorem t_iv_lt {p : Nat} : ∀ m, (∀ j, p ≤ j → j < p + m → t_di (b j) = true) → t_iv b p m < 10 ^ m := by
  intro m
  induction m with
  | zero => intro _; exact Nat.zero_lt_one
  | succ m ih =>
    intro h
    have h1 := ih (fun j h1 h2 => h j h1 (by omega))
    have h2 := h (p + m) (by omega) (by omega)
    unfold t_di at h2
    simp only [Bool.and_eq_true, decide_eq_true_eq] at h2
    show t_iv b p m * 10 + (b (p + m) - 48) < 10 ^ (m + 1)
    rw [Nat.pow_succ]
    omega
theorem t_iv_9 {p : Nat} (h : t_kd b n p = 41) : t_iv b p (t_ie b n p - p) < 10 ^ 9 := by
  obtain ⟨h1, _, _, h9⟩ := t_kd_41 h
  have h2 := t_ie_n (b := b) (n := n) (i := p) (by omega)
  have h3 := t_iv_lt (b := b) (p := p) (t_ie b n p - p) (fun j h4 h5 => t_ie_di (n := n) h4 (by omega))
  have h4 : (10 : Nat) ^ (t_ie b n p - p) ≤ 10 ^ 9 := Nat.pow_le_pow_right (by decide) h9
  omega
theorem lN_lez {x y : Nat} (hx : x < 2 ^ 63) (hy : y < 2 ^ 63) : lN x ≤ lN y ↔ x ≤ y := by
  rw [Int64.le_iff_toInt_le, show (lN x).toInt = (x : Int) from Int64.toInt_ofNat_of_lt hx, show (lN y).toInt = (y : Int) from Int64.toInt_ofNat_of_lt hy]
  omega
theorem lN_32 {x : Nat} (hx : x < 2 ^ 31) : (lN x).toInt32 = nI x := by
  rw [← nI_l (by omega : x < 2 ^ 31)]
  exact Int32.toInt32_toInt64 (nI x)
theorem z_tk (hn : n ≤ 4000) : zTk (t_tk b n) (zP b n) (zXn b n) (t_va b n) (zU b n) (t_e b n) := by
  have key : ∀ i, zN (t_tk b n) (t_e b n) i → t_va b n i = lN (t_V (t_nm b n (t_ps b n i))) ∧ (t_nm b n (t_ps b n i)).length ≤ 8 := by
    rintro i ⟨hi, h40⟩
    obtain ⟨h1, h2, h3⟩ := t_kd_40 h40
    refine ⟨?_, ?_⟩
    · unfold t_va
      rw [if_neg (by omega)]
      unfold t_vl
      rw [if_pos h2, if_neg (by omega)]
    · unfold t_nm
      rw [t_ch_len]
      exact h3
  refine ⟨z_PM hn, fun i j hi hj => ?_, fun i hi h41 => ?_⟩
  · obtain ⟨a1, a2⟩ := key i hi
    obtain ⟨c1, c2⟩ := key j hj
    rw [a1, c1]
    unfold zU
    have f1 := @t_we_al b n (t_ps b n i)
    have f2 := @t_we_al b n (t_ps b n j)
    constructor
    · intro h9
      have h8 := (i64_inj (t_V_63 f1 a2) (t_V_63 f2 c2)).mp h9
      have h7 : t_nm b n (t_ps b n i) = t_nm b n (t_ps b n j) := t_V_inj _ _ f1 f2 h8
      rw [h7]
    · intro h9
      have h8 := (i64_inj (t_U_63 f1 a2) (t_U_63 f2 c2)).mp h9
      have h7 : t_nm b n (t_ps b n i) = t_nm b n (t_ps b n j) := t_U_inj _ _ f1 f2 h8
      rw [h7]
  · have h9 := t_iv_9 h41
    obtain ⟨h1, h2, h3, h4⟩ := t_kd_41 h41
    have e1 : t_va b n i = lN (zXn b n i) := by
      unfold t_va
      rw [if_neg (by omega)]
      unfold t_vl
      rw [if_neg h2, if_pos h3]
      rfl
    have h9' : zXn b n i < 10 ^ 9 := h9
    generalize zXn b n i = x at *
    rw [e1]
    refine ⟨lN_32 (by omega), by omega, ?_, ?_⟩
    · rw [lg_cmp_le]
      exact lN_lez (x := x) (y := 1) (by omega) (by decide)
    · rw [lg_cmp_le]
      exact lN_lez (x := x) (y := 100) (by omega) (by decide)
theorem t_OK : y_OK (t_tk b n) (t_e b n) := ⟨fun _ hi => t_e_lo hi, t_e_at, t_e_le⟩
theorem y_C.zP {h : q_Hp} (C : y_C h (t_tk b n) (t_ps b n) (t_va b n) (t_e b n)) : y_C h (t_tk b n) (zP b n) (t_va b n) (t_e b n) := by
  refine ⟨C.1, C.2.1, fun i hi => ?_⟩
  rw [zP_e hi]
  exact C.2.2 i hi
theorem n_rw.cg {k : q_Hp} (h : ∀ j, j < n → b j = b' j) {i : Nat} (hi : i ≤ t_e b n) (R : n_rw k b' n i) : n_rw k b n i := by
  have h1 := t_ps_cg h i (fun j hj => t_e_lo (by omega))
  have h2 := t_tk_cg h (i := i) (fun j hj => t_e_lo (by omega))
  unfold n_rw at R ⊢
  rw [← h1, ← h2] at R
  refine ⟨R.1, R.2.1, fun h3 => ?_, fun h3 => ?_⟩
  · have h4 := (t_kd_41 h3).1
    have h5 := t_ie_n (b := b) (n := n) (i := t_ps b n i) (by omega)
    rw [t_iv_cg h _ (by omega), t_ie_cg h]
    exact R.2.2.1 h3
  · have h4 := (t_kd_40 h3).1
    rw [t_nm_cg h (by omega)]
    exact R.2.2.2 h3
theorem n_C {k : q_Hp} (hn : n ≤ 4000) (R : ∀ i, i ≤ t_e b n → n_rw k b n i) : p_C k (t_tk b n) (zP b n) (zXn b n) (zU b n) (t_e b n) := by
  intro i hi
  obtain ⟨r1, r2, r3, r4⟩ := R i hi
  have h1 := t_ps_le hi
  rw [zP_e hi]
  refine ⟨t_kd_43, by omega, r1, r2, fun h41 => ⟨r3 h41, ?_⟩, r4⟩
  have h9 : zXn b n i < 10 ^ 9 := t_iv_9 h41
  omega
end TZ
