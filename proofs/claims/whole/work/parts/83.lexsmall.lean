/-! TOKENS of the class: its small methods -/
/-- the bytes that a row of cells holds -/
def t_by (f : Nat → Int32) (i : Nat) : Nat := (f i).toBitVec.toNat % 256
theorem t_by_e (f : Nat → Int32) (i : Nat) : f i &&& 255 = nI (t_by f i) := pk_and (f i) 8 (by decide)
theorem t_by_lt (f : Nat → Int32) (i : Nat) : t_by f i < 256 := Nat.mod_lt _ (by decide)
theorem t_at_lt {f : Nat → Int32} {n i : Nat} : t_at (t_by f) n i < 256 := by
  unfold t_at
  split
  · exact t_by_lt f i
  · omega
theorem t_at_in {b : Nat → Nat} {n i : Nat} (h : i < n) : t_at b n i = b i := if_pos h
theorem s192 {h : q_Hp} {n i : Nat} (S : q_Sh h) (hn : n ≤ 4000) (hi : i < 2 ^ 31) : q_mI 0 192 [.ref 2, .int (nI n), .int (nI i)] h (fun z h' => h' = h ∧ z = nI (t_at (t_by (qA h 2)) n i)) := by
  refine q_mI.of (q_recS rfl) (fun Q fin => ?_)
  refine b192_0 (fun c => absurd c (nI_pos hi)) (fun _ => b192_4 (fun c => b192_25 (fin _ _ ⟨rfl, ?_⟩)) (fun c => ?_))
  · have := (nI_leI (by omega) hi).mp c
    unfold t_at
    rw [if_neg (by omega)]
    rfl
  · have h1 : i < n := by
      rcases Nat.lt_or_ge i n with h1 | h1
      · exact h1
      · exact absurd ((nI_leI (by omega) hi).mpr h1) c
    refine b192_9 (cd0 := 22) (S.ok rfl) (by decide) (fun c2 => ?_) (fun _ => b192_15 (Or.inl (S.ok rfl)) (S.inN (n := 4000) rfl (by omega) (by decide)) (fin _ _ ⟨rfl, ?_⟩))
    · rw [S.len (n := 4000) rfl] at c2
      have := (nI_leI (a := 4000) (by decide) hi).mp c2
      omega
    · rw [nI_clamp hi, t_by_e, t_at_in h1]
theorem s193 {h : q_Hp} {c : Nat} (hc : c < 256) : q_mI 0 193 [.int (nI c)] h (fun z h' => h' = h ∧ z = b2i (t_di c)) := by
  refine q_mI.of (q_recS rfl) (fun Q fin => ?_)
  refine b193_0 (fun c1 => b193_16 (fin _ _ ⟨rfl, ?_⟩)) (fun c1 => b193_6 (fun c2 => b193_16 (fin _ _ ⟨rfl, ?_⟩)) (fun c2 => b193_12 (fin _ _ ⟨rfl, ?_⟩)))
  · have := (nI_ltI (b := 48) (by omega) (by decide)).mp c1
    unfold t_di
    rw [decide_eq_false (show ¬ 48 ≤ c by omega)]
    rfl
  · have := (nI_ltI (a := 57) (by decide) (by omega)).mp c2
    unfold t_di
    rw [decide_eq_false (show ¬ c ≤ 57 by omega), Bool.and_false]
    rfl
  · have h1 := mt (nI_ltI (b := 48) (a := c) (by omega) (by decide)).mpr c1
    have h2 := mt (nI_ltI (a := 57) (b := c) (by decide) (by omega)).mpr c2
    unfold t_di
    rw [decide_eq_true (show 48 ≤ c by omega), decide_eq_true (show c ≤ 57 by omega)]
    rfl
theorem s194 {h : q_Hp} {c : Nat} (hc : c < 256) : q_mI 0 194 [.int (nI c)] h (fun z h' => h' = h ∧ z = b2i (t_le c)) := by
  refine q_mI.of (q_recS rfl) (fun Q fin => ?_)
  refine b194_0 (fun c1 => b194_16 (fin _ _ ⟨rfl, ?_⟩)) (fun c1 => b194_6 (fun c2 => b194_16 (fin _ _ ⟨rfl, ?_⟩)) (fun c2 => b194_12 (fin _ _ ⟨rfl, ?_⟩)))
  · have := (nI_ltI (b := 97) (by omega) (by decide)).mp c1
    unfold t_le
    rw [decide_eq_false (show ¬ 97 ≤ c by omega)]
    rfl
  · have := (nI_ltI (a := 122) (by decide) (by omega)).mp c2
    unfold t_le
    rw [decide_eq_false (show ¬ c ≤ 122 by omega), Bool.and_false]
    rfl
  · have h1 := mt (nI_ltI (b := 97) (a := c) (by omega) (by decide)).mpr c1
    have h2 := mt (nI_ltI (a := 122) (b := c) (by decide) (by omega)).mpr c2
    unfold t_le
    rw [decide_eq_true (show 97 ≤ c by omega), decide_eq_true (show c ≤ 122 by omega)]
    rfl
theorem t_eqc {c k : Nat} (hc : c < 256) (hk : k < 256) : nI c = nI k ↔ c = k := nI_eq (by omega) (by omega)
theorem s195_2 {h : q_Hp} {n a : Nat} {Q : Option Value → q_Hp → Prop} (S : q_Sh h) (hn : n ≤ 4000) : ∀ m i l4, i + m = n → (∀ z, z = nI (t_sc (fun j => t_wh (t_by (qA h 2) j)) m i) → Q (some (.int z)) h) → q_wp 1 195 2 [some (.ref 2), some (.int (nI n)), some (.int (nI a)), some (.int (nI i)), l4] [] h Q := by
  intro m
  induction m with
  | zero =>
    intro i l4 hi fin
    refine b195_2 (fun _ => b195_51 (fin _ ?_)) (fun c => absurd ((nI_leI (by omega) (by omega)).mpr (by omega)) c)
    show nI n = nI i
    rw [show n = i by omega]
  | succ m ih =>
    intro i l4 hi fin
    have in1 : i < n := by omega
    refine b195_2 (fun c => ?_) (fun _ => b195_7 (s192 S hn (by omega)) (by decide) ?_)
    · have := (nI_leI (by omega) (by omega)).mp c
      omega
    rintro z h2 ⟨e0, rfl⟩
    subst h2
    rw [t_at_in in1]
    have hb := t_by_lt (qA h 2) i
    generalize hbi : t_by (qA h 2) i = c at *
    have ws : t_wh c = true → q_wp 1 195 45 [some (.ref 2), some (.int (nI n)), some (.int (nI a)), some (.int (nI i)), some (.int (nI c))] [] h Q := by
      intro hw
      refine b195_45 ?_
      rw [show nI i + 1 = nI (i + 1) from nI_1 i]
      refine ih (i + 1) _ (by omega) (fun z hz => fin z ?_)
      rw [hz, t_sc_y (p := fun j => t_wh (t_by (qA h 2) j)) (show t_wh (t_by (qA h 2) i) = true by rw [hbi]; exact hw)]
    refine b195_13 (fun c1 => ws ?_) (fun c1 => b195_22 (fun c2 => ws ?_) (fun c2 => b195_29 (fun c3 => ws ?_) (fun c3 => b195_36 (fun c4 => ws ?_) (fun c4 => b195_43 (fin _ ?_)))))
    · have := (t_eqc (k := 9) hb (by decide)).mp c1
      rw [this]; rfl
    · have := (t_eqc (k := 10) hb (by decide)).mp c2
      rw [this]; rfl
    · have := (t_eqc (k := 13) hb (by decide)).mp c3
      rw [this]; rfl
    · have := (t_eqc (k := 32) hb (by decide)).mp c4
      rw [this]; rfl
    · have h1 := mt (t_eqc (k := 9) hb (by decide)).mpr c1
      have h2 := mt (t_eqc (k := 10) hb (by decide)).mpr c2
      have h3 := mt (t_eqc (k := 13) hb (by decide)).mpr c3
      have h4 := mt (t_eqc (k := 32) hb (by decide)).mpr c4
      rw [t_sc_n (p := fun j => t_wh (t_by (qA h 2) j))]
      show ¬ t_wh (t_by (qA h 2) i) = true
      rw [hbi]
      unfold t_wh
      rw [beq_false_of_ne h1, beq_false_of_ne h2, beq_false_of_ne h3, beq_false_of_ne h4]
      decide
theorem s195 {h : q_Hp} {n i : Nat} (S : q_Sh h) (hn : n ≤ 4000) (hi : i ≤ n) : q_mI 1 195 [.ref 2, .int (nI n), .int (nI i)] h (fun z h' => h' = h ∧ z = nI (t_sk (t_by (qA h 2)) n i)) := by
  refine q_mI.of (q_recS rfl) (fun Q fin => ?_)
  exact b195_0 (s195_2 S hn (n - i) i none (by omega) (fun z hz => fin _ _ ⟨rfl, hz⟩))
/-- a token put behind the others -/
def t_pt (h h' : q_Hp) (m : Nat) (k p : Nat) (v : Int64) : Prop := q_Ef [3, 5, 6, 7] h h' ∧ qI h' 3 4 = nI (m + 1) ∧ qA h' 5 = upd (qA h 5) m (nI k) ∧ qA h' 6 = upd (qA h 6) m (nI p) ∧ qL h' 7 = vp_updL (qL h 7) m v
theorem s191 {h : q_Hp} {m k p : Nat} {v : Int64} (S : q_Sh h) (hm : qI h 3 4 = nI m) (h1 : m ≤ 1200) : q_mV 0 191 [.ref 3, .int (nI k), .int (nI p), .long v] h (fun h' => t_pt h h' m k p v) := by
  refine q_mV.of (q_recV rfl (S.ok rfl)) (fun Q fin => ?_)
  refine b191_0 (S.ok rfl) (fun c => ?_) (fun _ => ?_)
  · rw [hm] at c
    have := (nI_ltI (a := 1200) (by decide) (by omega)).mp c
    omega
  have i5 : q_in (qI h 3 4) (qK h 5).2 := by rw [hm]; exact S.inN (n := 1201) rfl (by omega) (by decide)
  have i6 : q_in (qI h 3 4) (qK h 6).2 := by rw [hm]; exact S.inN (n := 1201) rfl (by omega) (by decide)
  have i7 : q_in (qI h 3 4) (qK h 7).2 := by rw [hm]; exact S.inN (n := 1201) rfl (by omega) (by decide)
  refine b191_10 (v0 := 5) (v1 := 6) (v2 := 7) (S.ok rfl) (S.ref rfl) (S.ok rfl) i5 (S.ref rfl) (S.ok rfl) i6 (S.ref rfl) (S.ok rfl) i7 (b191_50 (fin _ ⟨?_, ?_, ?_, ?_, ?_⟩))
  · exact (((q_Ef.sA (by decide)).trans (q_Ef.sA (by decide))).trans (q_Ef.sL (by decide))).trans (q_Ef.sI (by decide))
  · show qI h 3 4 + 1 = _
    rw [hm]
    exact nI_1 m
  · rw [hm, nI_clamp (by omega)]
    exact qA_sAu h 5 m (nI k)
  · rw [hm, nI_clamp (by omega)]
    exact qA_sAu h 6 m (nI p)
  · rw [hm, nI_clamp (by omega)]
    funext x
    show (if 7 = 7 ∧ x = m then v else qL h 7 x) = if x = m then v else qL h 7 x
    by_cases hx : x = m
    · rw [if_pos ⟨rfl, hx⟩, if_pos hx]
    · rw [if_neg (fun h9 => hx h9.2), if_neg hx]
theorem t_kn_w {r : List Nat} {i : Nat} (hi : i < 25) (e : t_wd i = r) : t_kn r = i := by
  rcases t_kn_c r with ⟨h1, h2⟩ | ⟨h1, h2⟩
  · exact t_wd_inj _ h1 i hi (h2.trans e.symm)
  · exact absurd e (h2 i hi)
theorem t_W_eq {r : List Nat} {i : Nat} (hi : i < 25) (ha : ∀ c, c ∈ r → t_al c = true) (h8 : r.length ≤ 8) : t_W i = lN (t_V r) ↔ t_wd i = r := by
  have h5 := t_wd_5 i hi
  constructor
  · intro e
    have := (i64_inj (t_V_63 (t_wd_al i hi) (by omega)) (t_V_63 ha h8)).mp e
    exact t_V_inj _ _ (t_wd_al i hi) ha this
  · intro e
    show Int64.ofNat (t_V (t_wd i)) = Int64.ofNat (t_V r)
    rw [e]
theorem s198_2 {h : q_Hp} {r : List Nat} {Q : Option Value → q_Hp → Prop} (S : q_Sh h) (hW : ∀ i, i < 25 → qL h 4 i = t_W i) (ha : ∀ c, c ∈ r → t_al c = true) (h8 : r.length ≤ 8) (fin : ∀ z, z = nI (t_kn r) → Q (some (.int z)) h) : ∀ m i, i + m = 25 → (∀ j, j < i → ¬ t_wd j = r) → q_wp 0 198 2 [some (.ref 3), some (.long (lN (t_V r))), none, some (.int (nI i))] [] h Q := by
  intro m
  induction m with
  | zero =>
    intro i hi no
    refine b198_2 (fun _ => b198_27 (fin _ ?_)) (fun c => absurd ((nI_leI (a := 25) (by decide) (by omega)).mpr (by omega)) c)
    rcases t_kn_c r with ⟨h1, h2⟩ | ⟨h1, h2⟩
    · exact absurd h2 (no _ (by omega))
    · rw [h1]; rfl
  | succ m ih =>
    intro i hi no
    refine b198_2 (fun c => ?_) (fun _ => b198_8 (v0 := 4) (S.ok rfl) (S.ref rfl) (S.ok rfl) (S.inN (n := 25) rfl (by omega) (by decide)) (fun c => b198_21 ?_) (fun c => b198_19 (fin _ ?_)))
    · have := (nI_leI (a := 25) (by decide) (by omega)).mp c
      omega
    · rw [show nI i + 1 = nI (i + 1) from nI_1 i]
      refine ih (i + 1) (by omega) (fun j hj => ?_)
      by_cases e : j = i
      · subst e
        rw [nI_clamp (by omega), hW j (by omega), lg_0] at c
        exact fun h9 => c ((t_W_eq (by omega) ha h8).mpr h9)
      · exact no j (by omega)
    · rw [nI_clamp (by omega), hW i (by omega), lg_0] at c
      rw [t_kn_w (by omega) ((t_W_eq (by omega) ha h8).mp c)]
theorem s198 {h : q_Hp} {r : List Nat} (S : q_Sh h) (hW : ∀ i, i < 25 → qL h 4 i = t_W i) (ha : ∀ c, c ∈ r → t_al c = true) (h8 : r.length ≤ 8) : q_mI 0 198 [.ref 3, .long (lN (t_V r))] h (fun z h' => h' = h ∧ z = nI (t_kn r)) := by
  refine q_mI.of (q_recV rfl (S.ok rfl)) (fun Q fin => ?_)
  exact b198_0 (s198_2 S hW ha h8 (fun z hz => fin _ _ ⟨rfl, hz⟩) 25 0 rfl (fun j hj => by omega))
theorem t_or8 (V c : Nat) (hc : c < 256) : (lN V <<< ((8 : Int32).toInt64 &&& 63)) ||| (nI c).toInt64 = lN (V * 256 + c) := by
  rw [nI_l (by omega), show ((8 : Int32).toInt64 &&& 63) = 8 by decide]
  apply Int64.toBitVec_inj.mp
  apply BitVec.eq_of_toNat_eq
  have h1 : ((lN V <<< (8 : Int64)) ||| lN c).toBitVec = (BitVec.ofNat 64 V <<< 8) ||| BitVec.ofNat 64 c := rfl
  have h2 : (lN (V * 256 + c)).toBitVec = BitVec.ofNat 64 (V * 256 + c) := rfl
  rw [h1, h2, BitVec.toNat_or, BitVec.toNat_shiftLeft, BitVec.toNat_ofNat, BitVec.toNat_ofNat, BitVec.toNat_ofNat]
  have h3 : (V % 2 ^ 64) <<< 8 % 2 ^ 64 = (V % 2 ^ 56) <<< 8 := by
    rw [Nat.shiftLeft_eq, Nat.shiftLeft_eq]
    omega
  have h4 : c % 2 ^ 64 = c := by omega
  rw [h3, h4, ← Nat.shiftLeft_add_eq_or_of_lt (show c < 2 ^ 8 from hc), Nat.shiftLeft_eq]
  omega
theorem t_dgc (V c : Nat) (h : 48 ≤ c) (h2 : c < 256) : (lN V * 10) + ((nI c - 48 : Int32).toInt64) = lN (V * 10 + (c - 48)) := by
  rw [show nI c - 48 = nI (c - 48) from pk_sub (b := 48) h, nI_l (by omega), show lN V * 10 = lN (V * 10) from lN_mul V 10, lN_add]
