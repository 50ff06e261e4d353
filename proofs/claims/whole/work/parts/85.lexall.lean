/-! TOKENS of the class: all of them -/
def t_tk (b : Nat → Nat) (n i : Nat) : Nat := t_kd b n (t_ps b n i)
def t_va (b : Nat → Nat) (n i : Nat) : Int64 := if n ≤ t_ps b n i then 0 else t_vl b n (t_ps b n i)
/-- the last token that counts: the end, one that is none, or that with number 1200 -/
def t_lst (b : Nat → Nat) (n : Nat) : Nat → Nat → Nat
  | 0, i => i
  | m + 1, i => if t_tk b n i < 42 then t_lst b n m (i + 1) else i
def t_e (b : Nat → Nat) (n : Nat) : Nat := t_lst b n 1200 0
theorem t_lst_le {b : Nat → Nat} {n : Nat} : ∀ m i, i ≤ t_lst b n m i ∧ t_lst b n m i ≤ i + m := by
  intro m
  induction m with
  | zero => intro i; exact ⟨Nat.le_refl _, Nat.le_refl _⟩
  | succ m ih =>
    intro i
    unfold t_lst
    split
    · have := ih (i + 1); omega
    · omega
theorem t_lst_lo {b : Nat → Nat} {n : Nat} : ∀ m i j, i ≤ j → j < t_lst b n m i → t_tk b n j < 42 := by
  intro m
  induction m with
  | zero => intro i j h1 h2; have h2 : j < i := h2; omega
  | succ m ih =>
    intro i j h1 h2
    unfold t_lst at h2
    split at h2
    · next h =>
      by_cases e : j = i
      · rw [e]; exact h
      · exact ih (i + 1) j (by omega) h2
    · omega
theorem t_lst_at {b : Nat → Nat} {n : Nat} : ∀ m i, t_lst b n m i < i + m → 42 ≤ t_tk b n (t_lst b n m i) := by
  intro m
  induction m with
  | zero => intro i h; have h : i < i + 0 := h; omega
  | succ m ih =>
    intro i h
    unfold t_lst at h ⊢
    split
    · next hp =>
      rw [if_pos hp] at h
      exact ih (i + 1) (by omega)
    · omega
theorem t_e_le {b : Nat → Nat} {n : Nat} : t_e b n ≤ 1200 := by
  have := t_lst_le (b := b) (n := n) 1200 0
  unfold t_e
  omega
theorem t_e_lo {b : Nat → Nat} {n j : Nat} (h : j < t_e b n) : t_tk b n j < 42 := t_lst_lo 1200 0 j (Nat.zero_le _) h
theorem t_e_at {b : Nat → Nat} {n : Nat} : 42 ≤ t_tk b n (t_e b n) ∨ t_e b n = 1200 := by
  by_cases h : t_e b n = 1200
  · exact Or.inr h
  · have := t_e_le (b := b) (n := n)
    exact Or.inl (t_lst_at 1200 0 (show t_e b n < 0 + 1200 by omega))
theorem t_kd_43 {b : Nat → Nat} {n p : Nat} : t_kd b n p ≤ 43 := by
  unfold t_kd
  split
  · omega
  · split
    · split
      · omega
      · rcases t_kn_c (t_ch b p (t_we b n p - p)) with ⟨h1, _⟩ | ⟨h1, _⟩ <;> omega
    · split
      · split <;> omega
      · rcases t_sg_c (b p) (t_at b n (p + 1)) with h1 | h1 <;> omega
theorem t_kd_42 {b : Nat → Nat} {n p : Nat} (h : t_kd b n p < 42) : p < n := by
  rcases Nat.lt_or_ge p n with h1 | h1
  · exact h1
  · unfold t_kd at h
    rw [if_pos h1] at h
    omega
/-- the places go up as long as tokens are tokens -/
theorem t_ps_lt {b : Nat → Nat} {n i : Nat} (h : t_tk b n i < 42) : t_ps b n i < t_ps b n (i + 1) := by
  have h1 := t_kd_42 h
  have h2 := t_en_n (b := b) h1
  have h3 := t_sk_n (b := b) h2.2
  show t_ps b n i < t_sk b n (t_en b n (t_ps b n i))
  omega
theorem t_ps_le {b : Nat → Nat} {n i : Nat} (h : i ≤ t_e b n) : t_ps b n i ≤ n := by
  refine t_ps_n i (fun j hj => ?_)
  exact t_kd_42 (t_e_lo (by omega))
theorem t_ps_mono {b : Nat → Nat} {n : Nat} : ∀ j i, i < j → j ≤ t_e b n → t_ps b n i < t_ps b n j := by
  intro j
  induction j with
  | zero => intro i h; omega
  | succ j ih =>
    intro i h1 h2
    have h3 := t_ps_lt (t_e_lo (show j < t_e b n by omega))
    by_cases e : i = j
    · rw [e]; exact h3
    · have := ih i (by omega) (by omega)
      omega
/-- the rows of tokens of the class: kinds, places, what they tell -/
def y_C (h : q_Hp) (T P : Nat → Nat) (V : Nat → Int64) (e : Nat) : Prop := qI h 3 4 = nI (e + 1) ∧ e ≤ 1200 ∧ ∀ i, i ≤ e → qA h 5 i = nI (T i) ∧ T i ≤ 43 ∧ qA h 6 i = nI (P i) ∧ P i ≤ 4000 ∧ qL h 7 i = V i
theorem q_mJ.of {n k : Nat} {args : List Value} {h : q_Hp} {P : Int64 → q_Hp → Prop} (hr : q_rec k args h = true) (w : ∀ Q : Option Value → q_Hp → Prop, (∀ z h', P z h' → Q (some (.long z)) h') → q_wp n k 0 (q_ent k args) [] h Q) : q_mJ n k args h P := ⟨hr, w _ (fun z h' p => ⟨z, rfl, p⟩)⟩
theorem s188 {h : q_Hp} {T P : Nat → Nat} {V : Nat → Int64} {e i : Nat} (S : q_Sh h) (C : y_C h T P V e) (hi : i ≤ e) : q_mI 0 188 [.ref 3, .int (nI i)] h (fun z h' => h' = h ∧ z = nI (T i)) := by
  refine q_mI.of (q_recV rfl (S.ok rfl)) (fun Q fin => ?_)
  have h12 := C.2.1
  refine b188_0 (fun c => absurd c (nI_pos (by omega))) (fun _ => b188_4 (S.ok rfl) (fun c => ?_) (fun _ => b188_12 (v0 := 5) (S.ok rfl) (S.ref rfl) (S.ok rfl) (S.inN (n := 1201) rfl (by omega) (by decide)) (fin _ _ ⟨rfl, ?_⟩)))
  · rw [C.1] at c
    have := (nI_leI (by omega) (by omega)).mp c
    omega
  · rw [nI_clamp (by omega)]
    exact (C.2.2 i hi).1
theorem s189 {h : q_Hp} {T P : Nat → Nat} {V : Nat → Int64} {e i : Nat} (S : q_Sh h) (C : y_C h T P V e) (hi : i ≤ e) : q_mI 0 189 [.ref 3, .int (nI i)] h (fun z h' => h' = h ∧ z = nI (P i)) := by
  refine q_mI.of (q_recV rfl (S.ok rfl)) (fun Q fin => ?_)
  have h12 := C.2.1
  refine b189_0 (fun c => absurd c (nI_pos (by omega))) (fun _ => b189_4 (S.ok rfl) (fun c => ?_) (fun _ => b189_12 (v0 := 6) (S.ok rfl) (S.ref rfl) (S.ok rfl) (S.inN (n := 1201) rfl (by omega) (by decide)) (fin _ _ ⟨rfl, ?_⟩)))
  · rw [C.1] at c
    have := (nI_leI (by omega) (by omega)).mp c
    omega
  · rw [nI_clamp (by omega)]
    exact (C.2.2 i hi).2.2.1
theorem s190 {h : q_Hp} {T P : Nat → Nat} {V : Nat → Int64} {e i : Nat} (S : q_Sh h) (C : y_C h T P V e) (hi : i ≤ e) : q_mJ 0 190 [.ref 3, .int (nI i)] h (fun z h' => h' = h ∧ z = V i) := by
  refine q_mJ.of (q_recV rfl (S.ok rfl)) (fun Q fin => ?_)
  have h12 := C.2.1
  refine b190_0 (fun c => absurd c (nI_pos (by omega))) (fun _ => b190_4 (S.ok rfl) (fun c => ?_) (fun _ => b190_12 (v0 := 7) (S.ok rfl) (S.ref rfl) (S.ok rfl) (S.inN (n := 1201) rfl (by omega) (by decide)) (fin _ _ ⟨rfl, ?_⟩)))
  · rw [C.1] at c
    have := (nI_leI (by omega) (by omega)).mp c
    omega
  · rw [nI_clamp (by omega)]
    exact (C.2.2 i hi).2.2.2.2
def t_ro (h : q_Hp) (b : Nat → Nat) (n m : Nat) : Prop := qI h 3 4 = nI m ∧ ∀ i, i < m → qA h 5 i = nI (t_tk b n i) ∧ qA h 6 i = nI (t_ps b n i) ∧ qL h 7 i = t_va b n i
theorem t_ro.put {h h' : q_Hp} {b : Nat → Nat} {n m k p : Nat} {v : Int64} (R : t_ro h b n m) (t : t_pt h h' m k p v) (hk : k = t_tk b n m) (hp : p = t_ps b n m) (hv : v = t_va b n m) : t_ro h' b n (m + 1) := by
  obtain ⟨e1, e2, e3, e4, e5⟩ := t
  refine ⟨e2, fun i hi => ?_⟩
  rw [e3, e4, e5]
  by_cases h9 : i = m
  · subst h9
    rw [upd_eq, upd_eq, hk, hp, hv]
    exact ⟨rfl, rfl, if_pos rfl⟩
  · rw [upd_ne h9, upd_ne h9, pk_uLn h9]
    exact R.2 i (by omega)
theorem t_ro.C {h : q_Hp} {b : Nat → Nat} {n e : Nat} (R : t_ro h b n (e + 1)) (he : t_e b n = e) (hn : n ≤ 4000) : y_C h (t_tk b n) (t_ps b n) (t_va b n) e := by
  have h1 := t_e_le (b := b) (n := n)
  refine ⟨R.1, by omega, fun i hi => ⟨(R.2 i (by omega)).1, t_kd_43, (R.2 i (by omega)).2.1, ?_, (R.2 i (by omega)).2.2⟩⟩
  have := t_ps_le (b := b) (n := n) (i := i) (by omega)
  omega
theorem s187_18 {n : Nat} {b : Nat → Nat} {Q : Option Value → q_Hp → Prop} {h0 : q_Hp} {x2 : Int32} (hn : n ≤ 4000) (fin : ∀ h', q_Ef [3, 5, 6, 7] h0 h' → y_C h' (t_tk b n) (t_ps b n) (t_va b n) (t_e b n) → Q none h') (hW : ∀ i, i < 25 → qL h0 4 i = t_W i) (hb : t_by (qA h0 2) = b) (S0 : q_Sh h0) : ∀ m i at' h, i + m = 1201 → at' ≤ n → t_sk b n at' = t_ps b n i → (∀ j, j < i → t_tk b n j < 42) → t_ro h b n i → q_Ef [3, 5, 6, 7] h0 h → (m = 0 → t_e b n = 1200) → (∀ m', m = m' + 1 → t_lst b n m' i = t_e b n) → q_wp 11 187 18 [some (.ref 3), some (.ref 2), some (.int x2), some (.int (nI n)), some (.int (nI at')), some (.int (nI i))] [] h Q := by
  intro m
  induction m with
  | zero =>
    intro i at' h hi _ _ _ R ef h0e _
    refine b187_18 (fun _ => b187_82 (fin _ ef ?_)) (fun c => absurd ((nI_ltI (a := 1200) (by decide) (by omega)).mpr (by omega)) c)
    have e1 := h0e rfl
    rw [e1]
    rw [show i = 1200 + 1 by omega] at R
    exact R.C e1 hn
  | succ m ih =>
    intro i at' h hi ha hs hlo R ef _ he
    have he := he m rfl
    have S := ef.sh S0
    have hb1 : t_by (qA h 2) = b := by rw [ef.A (show 2 ∉ [3, 5, 6, 7] by decide)]; exact hb
    have hW1 : ∀ i, i < 25 → qL h 4 i = t_W i := fun i hi => by rw [ef.L (show 4 ∉ [3, 5, 6, 7] by decide)]; exact hW i hi
    refine b187_18 (fun c => ?_) (fun _ => b187_26 (s195 S hn ha) (by decide) ?_)
    · have := (nI_ltI (a := 1200) (by decide) (by omega)).mp c
      omega
    rintro z h2 ⟨e0, rfl⟩
    subst h2
    rw [hb1, hs]
    have hpn : t_ps b n i ≤ n := by rw [← hs]; exact (t_sk_n ha).2
    refine b187_33 (fun c => ?_) (fun c => ?_)
    · have hp : t_ps b n i < n := (nI_ltI (by omega) (by omega)).mp c
      refine b187_50 (s196 S hW1 hn hp R.1 (by omega)) (by decide) ?_
      rintro z h3 ⟨rfl, t⟩
      rw [hb1] at t ⊢
      have va : t_vl b n (t_ps b n i) = t_va b n i := by unfold t_va; rw [if_neg (by omega)]
      have R3 := R.put t rfl rfl va
      have ef3 := ef.trans t.1
      have S3 := ef3.sh S0
      have i3 : qI h3 3 4 - 1 = nI i := by rw [R3.1]; exact nI_pred i
      have ki : qA h3 5 i = nI (t_tk b n i) := (R3.2 i (by omega)).1
      have k43 : t_tk b n i ≤ 43 := t_kd_43
      have c88 : q_mI 0 188 [.ref 3, .int (qI h3 3 4 - 1)] h3 (fun z h' => h' = h3 ∧ z = nI (t_tk b n i)) := by
        rw [i3]
        refine q_mI.of (q_recV rfl (S3.ok rfl)) (fun Q fin => ?_)
        refine b188_0 (fun c => absurd c (nI_pos (by omega))) (fun _ => b188_4 (S3.ok rfl) (fun c => ?_) (fun _ => b188_12 (v0 := 5) (S3.ok rfl) (S3.ref rfl) (S3.ok rfl) (S3.inN (n := 1201) rfl (by omega) (by decide)) (fin _ _ ⟨rfl, ?_⟩)))
        · rw [R3.1] at c
          have := (nI_leI (by omega) (by omega)).mp c
          omega
        · rw [nI_clamp (by omega)]
          exact ki
      refine b187_58 (S3.ok rfl) c88 (by decide) ?_
      rintro z h2 ⟨e0, rfl⟩
      subst h2
      have tk := t_kd_42 (b := b) (n := n) (p := t_ps b n i)
      refine b187_70 (fun c2 => b187_76 ?_) (fun c2 => b187_75 (fin _ ef3 ?_))
      · have n43 : ¬ t_tk b n i = 43 := fun h9 => c2 (by rw [h9]; rfl)
        have n42 : ¬ t_tk b n i = 42 := by
          intro h9
          unfold t_tk t_kd at h9
          rw [if_neg (show ¬ n ≤ t_ps b n i by omega)] at h9
          split at h9
          · split at h9
            · omega
            · rcases t_kn_c (t_ch b (t_ps b n i) (t_we b n (t_ps b n i) - t_ps b n i)) with ⟨h1, _⟩ | ⟨h1, _⟩ <;> omega
          · split at h9
            · split at h9 <;> omega
            · rcases t_sg_c (b (t_ps b n i)) (t_at b n (t_ps b n i + 1)) with h1 | h1 <;> omega
        have lo : t_tk b n i < 42 := by omega
        rw [show nI i + 1 = nI (i + 1) from nI_1 i]
        refine ih (i + 1) (t_en b n (t_ps b n i)) _ (by omega) (t_en_n hp).2 rfl (fun j hj => ?_) R3 ef3 (fun h9 => ?_) (fun m' h9 => ?_)
        · by_cases h9 : j = i
          · rw [h9]; exact lo
          · exact hlo j (by omega)
        · rw [← he, h9]
          show i = 1200
          omega
        · rw [← he, h9]
          show _ = if t_tk b n i < 42 then t_lst b n m' (i + 1) else i
          rw [if_pos lo]
      · have e43 : t_tk b n i = 43 := (nI_eq (b := 43) (by omega) (by decide)).mp c2
        have ei : t_e b n = i := by
          rw [← he]
          cases m with
          | zero => rfl
          | succ m => show (if t_tk b n i < 42 then _ else i) = i; rw [if_neg (by omega)]
        rw [ei]
        exact R3.C ei hn
    · have hp : t_ps b n i = n := by
        rcases Nat.lt_or_ge (t_ps b n i) n with h1 | h1
        · exact absurd ((nI_ltI (by omega) (by omega)).mpr h1) c
        · omega
      have k42 : t_tk b n i = 42 := by
        unfold t_tk t_kd
        rw [if_pos (by omega)]
      refine b187_41 (s191 (k := 42) S R.1 (by omega)) (by decide) (fun h3 t => b187_49 (fin _ (ef.trans t.1) ?_))
      have R3 := R.put t k42.symm hp.symm (by unfold t_va; rw [if_pos (by omega)])
      have ei : t_e b n = i := by
        rw [← he]
        cases m with
        | zero => rfl
        | succ m => show (if t_tk b n i < 42 then _ else i) = i; rw [if_neg (by omega)]
      rw [ei]
      exact R3.C ei hn
theorem s187 {h : q_Hp} {n : Nat} (S : q_Sh h) (hW : ∀ i, i < 25 → qL h 4 i = t_W i) (hn : n ≤ 4000) : q_mV 12 187 [.ref 3, .ref 2, .int (nI n)] h (fun h' => q_Ef [3, 5, 6, 7] h h' ∧ y_C h' (t_tk (t_by (qA h 2)) n) (t_ps (t_by (qA h 2)) n) (t_va (t_by (qA h 2)) n) (t_e (t_by (qA h 2)) n)) := by
  refine q_mV.of (q_recV rfl (S.ok rfl)) (fun Q fin => ?_)
  have S1 : q_Sh (q_sI h 3 4 0) := S
  refine b187_0 (S.ok rfl) (S.ok (cd := 22) rfl) (by decide) s350 (by decide) ?_
  rintro z h2 ⟨e0, rfl⟩
  subst h2
  rw [S.len (n := 4000) rfl, if_neg (show ¬ Int32.ofNat 4000 < nI n from fun c => by have := (nI_ltI (a := 4000) (by decide) (by omega)).mp c; omega)]
  refine b187_11 (q_wp.le ?_ (s187_18 (h0 := h) hn (fun h' e c => fin _ ⟨e, c⟩) hW rfl S 1201 0 0 _ rfl (Nat.zero_le _) rfl (fun j hj => by omega) ⟨rfl, fun i hi => by omega⟩ (q_Ef.sI (by decide)) (fun h9 => by omega) (fun m' h9 => ?_)))
  · decide
  · rw [show m' = 1200 by omega]
    rfl
