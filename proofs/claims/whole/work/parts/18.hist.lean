/-! MATH and HISTORY -/
theorem s349 {h : q_Hp} {x y : Int32} : q_mI 0 349 [.int x, .int y] h (fun z h' => h' = h ∧ z = if x < y then y else x) := by
  refine ⟨q_recS rfl, b349_0 (fun h1 => b349_9 ⟨_, rfl, rfl, ?_⟩) (fun h1 => b349_5 ⟨_, rfl, rfl, ?_⟩)⟩
  · rw [if_pos h1]
  · rw [if_neg h1]
theorem s350 {h : q_Hp} {x y : Int32} : q_mI 0 350 [.int x, .int y] h (fun z h' => h' = h ∧ z = if y < x then y else x) := by
  refine ⟨q_recS rfl, b350_0 (fun h1 => b350_9 ⟨_, rfl, rfl, ?_⟩) (fun h1 => b350_5 ⟨_, rfl, rfl, ?_⟩)⟩
  · rw [if_pos h1]
  · rw [if_neg h1]
theorem q_lt0_msb (x : Int32) : x < 0 ↔ x.toBitVec.msb = true := by
  rw [Int32.lt_iff_toInt_lt, BitVec.msb_eq_toInt, decide_eq_true_eq]
  exact Iff.rfl
theorem q_xor_sign (x y : Int32) : 0 ≤ (x ^^^ y) ↔ (x < 0 ↔ y < 0) := by
  rw [← Int32.not_lt, q_lt0_msb, q_lt0_msb, q_lt0_msb, Int32.toBitVec_xor, BitVec.msb_xor]
  cases x.toBitVec.msb <;> cases y.toBitVec.msb <;> decide
theorem q_rem101 {x : Int32} : (x - x / 101 * 101).toInt = x.toInt.tmod 101 := by
  have h1 : (x / 101).toInt = x.toInt.tdiv 101 := by
    rw [Int32.toInt_div]
    have h2 := Int32.le_toInt x
    have h3 := Int32.toInt_lt x
    have e : (101 : Int32).toInt = 101 := by decide
    rw [e]
    apply Int.bmod_eq_of_le
    · rcases Int.le_total 0 x.toInt with h | h
      · have := Int.tdiv_nonneg h (show (0 : Int) ≤ 101 by decide); omega
      · have h4 : x.toInt.tdiv 101 = -((-x.toInt).tdiv 101) := by rw [Int.neg_tdiv, Int.neg_neg]
        have h5 := Int.tdiv_le_self (b := 101) (show (0 : Int) ≤ -x.toInt by omega)
        omega
    · rcases Int.le_total 0 x.toInt with h | h
      · have h5 := Int.tdiv_le_self (b := 101) h
        omega
      · have h4 : x.toInt.tdiv 101 = -((-x.toInt).tdiv 101) := by rw [Int.neg_tdiv, Int.neg_neg]
        have h5 := Int.tdiv_nonneg (show (0 : Int) ≤ -x.toInt by omega) (show (0 : Int) ≤ 101 by decide)
        omega
  have h6 := Int.tmod_add_mul_tdiv x.toInt 101
  have h7 := tmod_bounds (a := x.toInt) (M := 101) (by decide)
  have h7a : 0 ≤ x.toInt → 0 ≤ x.toInt.tmod 101 := fun h => Int.tmod_nonneg 101 h
  have h7b : x.toInt ≤ 0 → x.toInt.tmod 101 ≤ 0 := fun h => by
    have h3 : x.toInt.tmod 101 = -((-x.toInt).tmod 101) := by rw [Int.neg_tmod, Int.neg_neg]
    have h4 := Int.tmod_nonneg (a := -x.toInt) 101 (by omega)
    omega
  have h2 := Int32.le_toInt x
  have h3 := Int32.toInt_lt x
  have e : (101 : Int32).toInt = 101 := by decide
  rw [Int32.toInt_sub, Int32.toInt_mul, h1, e]
  have h8 : (x.toInt.tdiv 101 * 101).bmod (2 ^ 32) = x.toInt.tdiv 101 * 101 := by
    apply Int.bmod_eq_of_le
    · omega
    · omega
  rw [h8]
  have h9 : x.toInt - x.toInt.tdiv 101 * 101 = x.toInt.tmod 101 := by omega
  rw [h9]
  apply Int.bmod_eq_of_le
  · omega
  · omega
/-- the place of a ring of 101, so many places back -/
def q_back (t g : Nat) : Nat := (t + 100 * g) % 101
theorem s348 {h : q_Hp} {t g : Nat} (ht : t < 2 ^ 20) (hg : g < 2 ^ 20) : q_mI 0 348 [.int (nI t - nI g), .int 101] h (fun z h' => h' = h ∧ z = nI (q_back t g)) := by
  have hx : (nI t - nI g).toInt = (t : Int) - g := pk_sub_toInt (by omega) (by omega)
  have hr := q_rem101 (x := nI t - nI g)
  rw [hx] at hr
  have hb : q_back t g < 101 := Nat.mod_lt _ (by decide)
  have e101 : (101 : Int32) < 0 ↔ False := by decide
  have hneg : nI t - nI g < 0 ↔ (t : Int) - g < 0 := by
    rw [Int32.lt_iff_toInt_lt, hx]
    exact Iff.rfl
  refine ⟨q_recS rfl, b348_0 (by decide) (fun h1 => b348_18 ⟨_, rfl, rfl, ?_⟩) (fun h1 => b348_10 (fun h2 => b348_18 ⟨_, rfl, rfl, ?_⟩) (fun h2 => b348_14 ⟨_, rfl, rfl, ?_⟩))⟩
  · rw [q_xor_sign, e101, hneg] at h1
    apply Int32.toInt_inj.mp
    rw [hr, nI_toInt (by omega)]
    have h3 : (0 : Int) ≤ (t : Int) - g := by
      exact Int.not_lt.mp (fun h => h1.mp h)
    rw [Int.tmod_eq_emod_of_nonneg h3]
    unfold q_back
    omega
  · rw [q_xor_sign, e101, hneg] at h1
    apply Int32.toInt_inj.mp
    have h4 := congrArg Int32.toInt h2
    rw [hr] at h4
    rw [hr, nI_toInt (by omega), h4]
    have h3 : (t : Int) - g < 0 := by
      apply Classical.byContradiction
      intro h5
      exact h1 ⟨fun h => h5 h, fun h => h.elim⟩
    have h6 : ((t : Int) - g).tmod 101 = -((-((t : Int) - g)).tmod 101) := by rw [Int.neg_tmod, Int.neg_neg]
    rw [h6, Int.tmod_eq_emod_of_nonneg (by omega)] at h4
    have h7 : (0 : Int32).toInt = 0 := by decide
    rw [h7] at h4 ⊢
    unfold q_back
    omega
  · rw [q_xor_sign, e101, hneg] at h1
    have h3 : (t : Int) - g < 0 := by
      apply Classical.byContradiction
      intro h5
      exact h1 ⟨fun h => h5 h, fun h => h.elim⟩
    have h6 : ((t : Int) - g).tmod 101 = -((-((t : Int) - g)).tmod 101) := by rw [Int.neg_tmod, Int.neg_neg]
    rw [h6, Int.tmod_eq_emod_of_nonneg (by omega)] at hr
    have h8 : ¬ (nI t - nI g - (nI t - nI g) / 101 * 101).toInt = 0 := fun h9 => h2 (Int32.toInt_inj.mp h9)
    rw [hr] at h8
    apply Int32.toInt_inj.mp
    have e : (101 : Int32).toInt = 101 := by decide
    rw [Int32.toInt_add, hr, e, nI_toInt (by omega)]
    have h10 : (-(-((t : Int) - g) % 101) + 101).bmod (2 ^ 32) = -(-((t : Int) - g) % 101) + 101 := by
      apply Int.bmod_eq_of_le
      · omega
      · omega
    rw [h10]
    unfold q_back
    omega
theorem q_Sh.dg {h : q_Hp} (S : q_Sh h) : q_Dg h 597 598 := ⟨S.ok rfl, S.ref rfl, S.ok rfl, S.len rfl⟩
theorem q_Sh.dg2 {h : q_Hp} (S : q_Sh h) : q_Dg h 622 623 := ⟨S.ok rfl, S.ref rfl, S.ok rfl, S.len rfl⟩
theorem s82 {h : q_Hp} (S : q_Sh h) : q_mI 0 82 [.ref 599] h (fun z h' => h' = h ∧ z = qI h 599 3) := ⟨q_recV rfl (S.ok rfl), b82_0 (S.ok rfl) ⟨_, rfl, rfl, rfl⟩⟩
theorem s83 {h : q_Hp} (S : q_Sh h) : q_mI 0 83 [.ref 599] h (fun z h' => h' = h ∧ z = qI h 599 4) := ⟨q_recV rfl (S.ok rfl), b83_0 (S.ok rfl) ⟨_, rfl, rfl, rfl⟩⟩
theorem s84 {h : q_Hp} (S : q_Sh h) : q_mV 0 84 [.ref 599] h (fun h' => h' = q_sI h 599 3 0) := ⟨q_recV rfl (S.ok rfl), b84_0 (S.ok rfl) ⟨rfl, rfl⟩⟩
theorem s85 {h : q_Hp} (S : q_Sh h) {t : Nat} (ht : qI h 599 2 = nI t) (h1 : t < 101) : q_mV 2 85 [.ref 599] h (fun h' => h' = q_wA h 600 (va_cpy (qA h 598) (qA h 600) 0 (t * 156) 156)) := by
  refine ⟨q_recV rfl (S.ok rfl), b85_0 (S.ok rfl) (S.ref (v := 597) rfl) (S.ref (v := 600) rfl) (m := 1) (P := fun h' => h' = q_wA h 600 (va_cpy (qA h 598) (qA h 600) 0 (t * 156) 156)) ?_ (by decide) (fun h' e => b85_15 ⟨rfl, e⟩)⟩
  rw [ht]
  exact s62 S.dg (S.ok rfl) (S.len (n := 15756) rfl) (by omega) (by decide)
theorem s86 {h : q_Hp} (S : q_Sh h) {t : Nat} (ht : qI h 599 2 = nI t) (h1 : t < 101) : q_mV 2 86 [.ref 599] h (fun h' => h' = q_wA h 598 (va_cpy (qA h 600) (qA h 598) (t * 156) 0 156)) := by
  refine ⟨q_recV rfl (S.ok rfl), b86_0 (S.ok rfl) (S.ref (v := 597) rfl) (S.ref (v := 600) rfl) (m := 1) (P := fun h' => h' = q_wA h 598 (va_cpy (qA h 600) (qA h 598) (t * 156) 0 156)) ?_ (by decide) (fun h' e => b86_15 ⟨rfl, e⟩)⟩
  rw [ht]
  exact s63 S.dg (S.ok rfl) (S.len (n := 15756) rfl) (by omega) (by decide)
/-- the three numbers of a history -/
def q_his (h : q_Hp) (t k s : Nat) : q_Hp := q_sI (q_sI (q_sI h 599 2 (nI t)) 599 3 (nI k)) 599 4 (nI s)
theorem s87 {h : q_Hp} (S : q_Sh h) {t k s : Nat} (ht : qI h 599 2 = nI t) (hk : qI h 599 3 = nI k) (hs : qI h 599 4 = nI s) (h1 : t < 101) (h2 : k ≤ 100) : q_mV 1 87 [.ref 599] h (fun h' => h' = q_his h ((t + 1) % 101) (min (k + 1) 100) (s + 1)) := by
  refine ⟨q_recV rfl (S.ok rfl), ?_⟩
  have e1 : (qI h 599 2 + 1) - (qI h 599 2 + 1) / 101 * 101 = nI ((t + 1) % 101) := by
    rw [ht, nI_1]
    exact pk_rem (by omega) (by decide) (by decide)
  refine b87_0 (S.ok rfl) (by decide) (m := 0) (P := fun z h' => h' = q_sI h 599 2 (nI ((t + 1) % 101)) ∧ z = nI (min (k + 1) 100)) ?_ (by decide) ?_
  · rw [e1, qI_sI, if_neg (by decide), hk, nI_1]
    refine s350.mono (Nat.le_refl _) ?_
    rintro z h' ⟨rfl, rfl⟩
    refine ⟨rfl, ?_⟩
    have h3 : (100 : Int32) = nI 100 := rfl
    rw [h3]
    by_cases h4 : 100 < k + 1
    · rw [if_pos ((nI_ltI (by decide) (by omega)).mpr h4)]
      congr 1
      omega
    · rw [if_neg (fun h5 => h4 ((nI_ltI (by decide) (by omega)).mp h5))]
      congr 1
      omega
  · rintro z h' ⟨rfl, rfl⟩
    refine b87_25 (S.ok rfl) (S.ok rfl) ⟨rfl, ?_⟩
    unfold q_his
    rw [qI_sI, if_neg (by decide), qI_sI, if_neg (by decide), hs, nI_1]
theorem s88 {h : q_Hp} (S : q_Sh h) {t k s w : Nat} (ht : qI h 599 2 = nI t) (hk : qI h 599 3 = nI k) (hs : qI h 599 4 = nI s) (h1 : t < 101) (h2 : k ≤ 100) (h3 : w ≤ s) (h4 : s < 2 ^ 20) : q_mV 1 88 [.ref 599, .int (nI w)] h (fun h' => h' = q_his h (q_back t (s - w)) (k - (s - w)) w) := by
  refine ⟨q_recV rfl (S.ok rfl), ?_⟩
  have e1 : qI h 599 4 - nI w = nI (s - w) := by rw [hs]; exact pk_sub h3
  refine b88_0 (S.ok rfl) (m := 0) (P := fun z h' => h' = h ∧ z = nI (q_back t (s - w))) ?_ (by decide) ?_
  · rw [e1, ht]
    exact s348 (by omega) (by omega)
  · rintro z h' ⟨e0, rfl⟩
    subst h'
    rw [e1]
    refine b88_19 (S.ok rfl) (S.ok rfl) (m := 0) (P := fun z h' => h' = q_sI h 599 2 (nI (q_back t (s - w))) ∧ z = nI (k - (s - w))) ?_ (by decide) ?_
    · rw [qI_sI, if_neg (by decide), hk]
      refine s349.mono (Nat.le_refl _) ?_
      rintro z h' ⟨rfl, rfl⟩
      refine ⟨rfl, ?_⟩
      have hx : (nI k - nI (s - w)).toInt = (k : Int) - ((s - w : Nat) : Int) := pk_sub_toInt (by omega) (by omega)
      have h0 : (0 : Int32).toInt = 0 := by decide
      by_cases h5 : s - w < k
      · rw [pk_sub (by omega), if_pos]
        exact (nI_ltI (a := 0) (by decide) (by omega)).mpr (by omega)
      · rw [if_neg]
        · rw [show k - (s - w) = 0 by omega]
          rfl
        · intro h6
          rw [Int32.lt_iff_toInt_lt, hx, h0] at h6
          omega
    · rintro z h' ⟨rfl, rfl⟩
      exact b88_33 (S.ok rfl) (S.ok rfl) ⟨rfl, rfl⟩
theorem q_his_Sh {h : q_Hp} (S : q_Sh h) {t k s : Nat} : q_Sh (q_his h t k s) := S
theorem s89 {h : q_Hp} (S : q_Sh h) {t k s : Nat} {x : Int32} (ht : qI h 599 2 = nI t) (hk : qI h 599 3 = nI k) (hs : qI h 599 4 = nI s) (h1 : t < 101) (h2 : k ≤ 100) (h3 : k ≤ s) (h4 : s < 2 ^ 20) : q_mI 3 89 [.ref 599, .int x] h (fun z h' => (∃ n : Nat, x = nI n ∧ 1 ≤ n ∧ n ≤ k ∧ z = 1 ∧ h' = q_wA (q_his h (q_back t n) (k - n) (s - n)) 598 (va_cpy (qA h 600) (qA h 598) (q_back t n * 156) 0 156)) ∨ ((¬ ∃ n : Nat, x = nI n ∧ 1 ≤ n ∧ n ≤ k) ∧ z = 0 ∧ h' = h)) := by
  refine ⟨q_recV rfl (S.ok rfl), ?_⟩
  refine b89_0 (fun h5 => b89_13 ⟨_, rfl, Or.inr ⟨?_, rfl, rfl⟩⟩) (fun h5 => b89_5 (S.ok rfl) (fun h6 => ?_) (fun h6 => b89_13 ⟨_, rfl, Or.inr ⟨?_, rfl, rfl⟩⟩))
  · rintro ⟨n, rfl, g1, g2⟩
    have := (nI_ltc (k := 1) (by omega) (by decide) rfl).mp h5
    omega
  · rw [hk] at h6
    obtain ⟨n, hn, rfl⟩ := nI_of (x := x) (fun h7 => h5 (Int32.lt_trans h7 (by decide)))
    have g1 : 1 ≤ n := by
      refine Nat.one_le_iff_ne_zero.mpr (fun h => h5 ?_)
      subst h
      decide
    have g2 : n ≤ k := (nI_leI (by omega) (by omega)).mp h6
    refine b89_15 (S.ok rfl) (m := 1) (P := fun h' => h' = q_his h (q_back t n) (k - n) (s - n)) ?_ (by decide) ?_
    · rw [hs, pk_sub (by omega)]
      have := s88 S (w := s - n) ht hk hs h1 h2 (by omega) h4
      rw [show s - (s - n) = n by omega] at this
      exact this
    · rintro h' rfl
      have hb : q_back t n < 101 := Nat.mod_lt _ (by decide)
      refine b89_25 (S.ok rfl) (S.ref (v := 597) rfl) (S.ref (v := 600) rfl) (m := 1) (P := fun h' => h' = q_wA (q_his h (q_back t n) (k - n) (s - n)) 598 (va_cpy (qA h 600) (qA h 598) (q_back t n * 156) 0 156)) ?_ (by decide) ?_
      · have e : qI (q_his h (q_back t n) (k - n) (s - n)) 599 2 = nI (q_back t n) := by
          unfold q_his
          rw [qI_sI, if_neg (by decide), qI_sI, if_neg (by decide), qI_sI, if_pos (by decide)]
        rw [e]
        exact s63 (q_his_Sh S).dg (S.ok rfl) (S.len (n := 15756) rfl) (by omega) (by decide)
      · rintro h' rfl
        exact b89_40 ⟨_, rfl, Or.inl ⟨n, rfl, g1, g2, rfl, rfl⟩⟩
  · rintro ⟨n, rfl, g1, g2⟩
    rw [hk] at h6
    exact h6 ((nI_leI (by omega) (by omega)).mpr g2)
