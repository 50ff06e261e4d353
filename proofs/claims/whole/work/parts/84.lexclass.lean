/-! TOKENS of the class: a token, and all -/
/-- what a token tells: a name's characters in one number, or an int -/
def t_vl (b : Nat → Nat) (n p : Nat) : Int64 := if t_le (b p) = true then (if 8 < t_we b n p - p then 0 else lN (t_V (t_nm b n p))) else if t_di (b p) = true then lN (t_iv b p (t_ie b n p - p)) else 0
theorem t_ch_s {b : Nat → Nat} {p m : Nat} : t_ch b p (m + 1) = b (p + m) :: t_ch b p m := rfl
theorem s197_6 {h : q_Hp} {n p : Nat} {Q : Option Value → q_Hp → Prop} (S : q_Sh h) (hn : n ≤ 4000) (w : ∀ l7, q_wp 2 197 57 [some (.ref 3), some (.ref 2), some (.int (nI n)), some (.int (nI p)), some (.long (lN (t_V (t_nm (t_by (qA h 2)) n p)))), none, some (.int (nI (t_we (t_by (qA h 2)) n p))), l7] [] h Q) : ∀ m j l7, p + j + m = n → t_sc (fun i => t_al (t_by (qA h 2) i)) m (p + j) = t_we (t_by (qA h 2)) n p → q_wp 2 197 6 [some (.ref 3), some (.ref 2), some (.int (nI n)), some (.int (nI p)), some (.long (lN (t_V (t_ch (t_by (qA h 2)) p j)))), none, some (.int (nI (p + j))), l7] [] h Q := by
  intro m
  induction m with
  | zero =>
    intro j l7 hj he
    have he' : p + j = t_we (t_by (qA h 2)) n p := he
    refine b197_6 (fun _ => ?_) (fun c => absurd ((nI_leI (by omega) (by omega)).mpr (by omega)) c)
    have := w l7
    unfold t_nm at this
    rw [← he', Nat.add_sub_cancel_left] at this
    exact this
  | succ m ih =>
    intro j l7 hj he
    have in1 : p + j < n := by omega
    refine b197_6 (fun c => ?_) (fun _ => b197_12 (s192 S hn (by omega)) (by decide) ?_)
    · have := (nI_leI (by omega) (by omega)).mp c
      omega
    rintro z h2 ⟨e0, rfl⟩
    subst h2
    rw [t_at_in in1]
    have hb := t_by_lt (qA h 2) (p + j)
    have yes : t_al (t_by (qA h 2) (p + j)) = true → q_wp 2 197 40 [some (.ref 3), some (.ref 2), some (.int (nI n)), some (.int (nI p)), some (.long (lN (t_V (t_ch (t_by (qA h 2)) p j)))), none, some (.int (nI (p + j))), some (.int (nI (t_by (qA h 2) (p + j))))] [] h Q := by
      intro ha
      refine b197_40 ?_
      rw [t_or8 _ _ hb, show nI (p + j) + 1 = nI (p + (j + 1)) from nI_1 (p + j)]
      refine ih (j + 1) _ (by omega) ?_
      rw [← he, t_sc_y (p := fun i => t_al (t_by (qA h 2) i)) ha]
      rfl
    refine b197_19 (s194 hb) (by decide) ?_
    rintro z h2 ⟨e0, rfl⟩
    subst h2
    refine b197_26 (fun c => yes (t_le_al (b2i_ne.mp c))) (fun c => b197_29 (s193 hb) (by decide) ?_)
    rintro z h2 ⟨e0, rfl⟩
    subst h2
    refine b197_34 (fun c2 => yes (t_di_al (b2i_ne.mp c2))) (fun c2 => b197_37 ?_)
    have ha : ¬ t_al (t_by (qA h 2) (p + j)) = true := by
      unfold t_al
      rw [b2i_eq.mp c, b2i_eq.mp c2]
      decide
    rw [t_sc_n (p := fun i => t_al (t_by (qA h 2) i)) ha] at he
    have := w (some (.int (nI (t_by (qA h 2) (p + j)))))
    unfold t_nm at this
    rw [← he, Nat.add_sub_cancel_left] at this
    exact this
theorem nI_subN {a b : Nat} (h : b ≤ a) : nI a - nI b = nI (a - b) := pk_sub h
theorem s197 {h : q_Hp} {n p m : Nat} (S : q_Sh h) (hW : ∀ i, i < 25 → qL h 4 i = t_W i) (hn : n ≤ 4000) (hp : p < n) (hm : qI h 3 4 = nI m) (h1 : m ≤ 1200) (hl : t_le (t_by (qA h 2) p) = true) : q_mI 2 197 [.ref 3, .ref 2, .int (nI n), .int (nI p)] h (fun z h' => z = nI (t_en (t_by (qA h 2)) n p) ∧ t_pt h h' m (t_kd (t_by (qA h 2)) n p) p (t_vl (t_by (qA h 2)) n p)) := by
  refine q_mI.of (q_recV rfl (S.ok rfl)) (fun Q fin => ?_)
  have fin' : ∀ z h', z = nI (t_we (t_by (qA h 2)) n p) → t_pt h h' m (if 8 < t_we (t_by (qA h 2)) n p - p then 43 else t_kn (t_nm (t_by (qA h 2)) n p)) p (if 8 < t_we (t_by (qA h 2)) n p - p then 0 else lN (t_V (t_nm (t_by (qA h 2)) n p))) → Q (some (.int z)) h' := by
    intro z h' h2 h3
    refine fin z h' ⟨?_, ?_⟩
    · rw [h2]
      unfold t_en
      rw [if_pos hl]
    · unfold t_kd t_vl
      rw [if_neg (show ¬ n ≤ p by omega), if_pos hl, if_pos hl]
      exact h3
  have hwe := t_we_n (b := t_by (qA h 2)) (n := n) (i := p) (by omega)
  refine b197_0 (s197_6 S hn (fun l7 => ?_) (n - p) 0 none (by omega) rfl)
  have ha : ∀ c, c ∈ t_nm (t_by (qA h 2)) n p → t_al c = true := t_we_al
  have hlen : (t_nm (t_by (qA h 2)) n p).length = t_we (t_by (qA h 2)) n p - p := t_ch_len _
  generalize t_nm (t_by (qA h 2)) n p = r at *
  generalize t_we (t_by (qA h 2)) n p = e at *
  refine b197_57 (fun c => ?_) (fun c => ?_)
  · rw [nI_subN hwe.1] at c
    have h8 := (nI_leI (b := 8) (by omega) (by decide)).mp c
    rw [if_neg (show ¬ 8 < e - p by omega), if_neg (show ¬ 8 < e - p by omega)] at fin'
    refine b197_77 (s198 S hW ha (by omega)) (by decide) ?_
    rintro z h2 ⟨e0, rfl⟩
    subst h2
    refine b197_84 (s191 S hm h1) (by decide) (fun h2 h3 => b197_90 (fin' _ _ rfl h3))
  · rw [nI_subN hwe.1] at c
    have h8 := mt (nI_leI (a := e - p) (b := 8) (by omega) (by decide)).mpr c
    rw [if_pos (show 8 < e - p by omega), if_pos (show 8 < e - p by omega)] at fin'
    refine b197_66 (s191 (k := 43) S hm h1) (by decide) (fun h2 h3 => b197_74 (b197_90 (fin' _ _ rfl h3)))
theorem s199_6 {h : q_Hp} {n p : Nat} {Q : Option Value → q_Hp → Prop} (S : q_Sh h) (hn : n ≤ 4000) (w : ∀ l7, q_wp 1 199 53 [some (.ref 3), some (.ref 2), some (.int (nI n)), some (.int (nI p)), some (.long (lN (t_iv (t_by (qA h 2)) p (t_ie (t_by (qA h 2)) n p - p)))), none, some (.int (nI (t_ie (t_by (qA h 2)) n p))), l7] [] h Q) : ∀ m j l7, p + j + m = n → t_sc (fun i => t_di (t_by (qA h 2) i)) m (p + j) = t_ie (t_by (qA h 2)) n p → q_wp 1 199 6 [some (.ref 3), some (.ref 2), some (.int (nI n)), some (.int (nI p)), some (.long (lN (t_iv (t_by (qA h 2)) p j))), none, some (.int (nI (p + j))), l7] [] h Q := by
  intro m
  induction m with
  | zero =>
    intro j l7 hj he
    have he' : p + j = t_ie (t_by (qA h 2)) n p := he
    refine b199_6 (fun _ => ?_) (fun c => absurd ((nI_leI (by omega) (by omega)).mpr (by omega)) c)
    have := w l7
    rw [← he', Nat.add_sub_cancel_left] at this
    exact this
  | succ m ih =>
    intro j l7 hj he
    have in1 : p + j < n := by omega
    refine b199_6 (fun c => ?_) (fun _ => b199_12 (s192 S hn (by omega)) (by decide) ?_)
    · have := (nI_leI (by omega) (by omega)).mp c
      omega
    rintro z h2 ⟨e0, rfl⟩
    subst h2
    rw [t_at_in in1]
    have hb := t_by_lt (qA h 2) (p + j)
    refine b199_19 (s193 hb) (by decide) ?_
    rintro z h2 ⟨e0, rfl⟩
    subst h2
    refine b199_26 (fun c => b199_32 ?_) (fun c => b199_29 ?_)
    · have hd := b2i_ne.mp c
      have h48 : 48 ≤ t_by (qA h 2) (p + j) := by
        unfold t_di at hd
        simp only [Bool.and_eq_true, decide_eq_true_eq] at hd
        exact hd.1
      rw [t_dgc _ _ h48 hb, show nI (p + j) + 1 = nI (p + (j + 1)) from nI_1 (p + j)]
      refine ih (j + 1) _ (by omega) ?_
      rw [← he, t_sc_y (p := fun i => t_di (t_by (qA h 2) i)) hd]
      rfl
    · rw [t_sc_n (p := fun i => t_di (t_by (qA h 2) i)) (show ¬ t_di (t_by (qA h 2) (p + j)) = true by rw [b2i_eq.mp c]; decide)] at he
      have := w (some (.int (nI (t_by (qA h 2) (p + j)))))
      rw [← he, Nat.add_sub_cancel_left] at this
      exact this
theorem s199 {h : q_Hp} {n p m : Nat} (S : q_Sh h) (hn : n ≤ 4000) (hp : p < n) (hm : qI h 3 4 = nI m) (h1 : m ≤ 1200) (hl : ¬ t_le (t_by (qA h 2) p) = true) (hd : t_di (t_by (qA h 2) p) = true) : q_mI 1 199 [.ref 3, .ref 2, .int (nI n), .int (nI p)] h (fun z h' => z = nI (t_en (t_by (qA h 2)) n p) ∧ t_pt h h' m (t_kd (t_by (qA h 2)) n p) p (t_vl (t_by (qA h 2)) n p)) := by
  refine q_mI.of (q_recV rfl (S.ok rfl)) (fun Q fin => ?_)
  have fin' : ∀ z h', z = nI (t_ie (t_by (qA h 2)) n p) → t_pt h h' m (if 9 < t_ie (t_by (qA h 2)) n p - p then 43 else 41) p (lN (t_iv (t_by (qA h 2)) p (t_ie (t_by (qA h 2)) n p - p))) → Q (some (.int z)) h' := by
    intro z h' h2 h3
    refine fin z h' ⟨?_, ?_⟩
    · rw [h2]
      unfold t_en
      rw [if_neg hl, if_pos hd]
    · unfold t_kd t_vl
      rw [if_neg (show ¬ n ≤ p by omega), if_neg hl, if_neg hl, if_pos hd, if_pos hd]
      exact h3
  have hwe := t_ie_n (b := t_by (qA h 2)) (n := n) (i := p) (by omega)
  refine b199_0 (s199_6 S hn (fun l7 => ?_) (n - p) 0 none (by omega) rfl)
  generalize t_ie (t_by (qA h 2)) n p = e at *
  refine b199_53 (fun c => b199_68 ?_) (fun c => b199_63 ?_)
  · rw [nI_subN hwe.1] at c
    have h8 := (nI_leI (b := 9) (by omega) (by decide)).mp c
    rw [if_neg (show ¬ 9 < e - p by omega)] at fin'
    exact b199_70 (s191 (k := 41) S hm h1) (by decide) (fun h2 h3 => b199_76 (fin' _ _ rfl h3))
  · rw [nI_subN hwe.1] at c
    have h8 := mt (nI_leI (a := e - p) (b := 9) (by omega) (by decide)).mpr c
    rw [if_pos (show 9 < e - p by omega)] at fin'
    exact b199_70 (s191 (k := 43) S hm h1) (by decide) (fun h2 h3 => b199_76 (fin' _ _ rfl h3))
theorem t_ix1 : ∀ c, c < 256 → q_ix q_tx1 (nI c) 0 = if t_s1 c = 43 then -1 else nI (t_s1 c - 25) := by decide +kernel
theorem s200_65 {h : q_Hp} {c d : Nat} {Q : Option Value → q_Hp → Prop} (hc : c < 256) (fin : ∀ z, z = nI (t_s1 c) → Q (some (.int z)) h) : q_wp 9 200 65 [some (.int (nI c)), some (.int (nI d)), none] [] h Q := by
  have e1 : ((nI c).toUInt32 % 65536).toInt32 = nI c := by rw [pk_char, pk_tn (by omega), Nat.mod_eq_of_lt (by omega)]
  refine wp_stk (m := 2) (st' := [.ref (2 ^ 30 + 1)]) rfl rfl rfl ?_
  refine wp_loc (m := 1) (L' := [some (.int (nI c)), some (.int (nI d)), none]) (st' := [.int (nI c), .ref (2 ^ 30 + 1)]) rfl rfl ?_
  refine wp_stk (m := 1) (st' := [.int (((nI c).toUInt32 % 65536).toInt32), .ref (2 ^ 30 + 1)]) rfl rfl rfl ?_
  rw [e1]
  refine wp_bi (k' := 355) (av := [.ref (2 ^ 30 + 1), .int (nI c)]) (rest := []) (r1 := some (.int (q_ix q_tx1 (nI c) 0))) (h1 := h) rfl rfl rfl (by decide) rfl rfl rfl (by decide) ?_ ?_ ?_
  · rfl
  · have l1 : ¬ nI c < 0 ∧ nI c < 256 := ⟨nI_pos (by omega), (nI_ltI (b := 256) (by omega) (by decide)).mpr hc⟩
    show (if ¬ nI c < 0 ∧ nI c < 256 then some (some (Value.int (q_ix (q_tx (2 ^ 30 + 1)) (nI c) 0)), h) else none) = _
    rw [if_pos l1]
    rfl
  · show q_wp 9 200 72 _ [.int (q_ix q_tx1 (nI c) 0)] h Q
    rw [t_ix1 c hc]
    have h25 := t_s1_c c
    by_cases h43 : t_s1 c = 43
    · rw [if_pos h43]
      exact b200_72 (fun c2 => absurd c2 (by decide)) (fun _ => b200_77 (fin _ (by rw [h43]; rfl)))
    · rw [if_neg h43]
      refine b200_72 (fun _ => b200_82 (fin _ ?_)) (fun c2 => absurd (nI_pos' (by omega)) c2)
      rw [show (25 : Int32) + nI (t_s1 c - 25) = nI (25 + (t_s1 c - 25)) from nI_add 25 _, show 25 + (t_s1 c - 25) = t_s1 c by omega]
theorem s200 {h : q_Hp} {c d : Nat} (hc : c < 256) (hd : d < 256) : q_mI 9 200 [.int (nI c), .int (nI d)] h (fun z h' => h' = h ∧ z = nI (t_sg c d)) := by
  refine q_mI.of (q_recS rfl) (fun Q fin => ?_)
  have E := fun (k : Nat) (hk : k < 256) => t_eqc (k := k) hc hk
  have D := fun (k : Nat) (hk : k < 256) => t_eqc (k := k) hd hk
  have one : (¬ c = 33) → (¬ (c = 61 ∧ d = 61)) → (¬ (c = 60 ∧ d = 61)) → (¬ (c = 45 ∧ d = 62)) → q_wp 9 200 65 [some (.int (nI c)), some (.int (nI d)), none] [] h Q := by
    intro h1 h2 h3 h4
    refine s200_65 hc (fun z hz => fin _ _ ⟨rfl, ?_⟩)
    unfold t_sg
    rw [hz, if_neg h1, if_neg h2, if_neg h3, if_neg h4]
  refine b200_0 (fun c1 => ?_) (fun c1 => b200_6 (fun c2 => b200_17 (fin _ _ ⟨rfl, ?_⟩)) (fun c2 => b200_12 (fin _ _ ⟨rfl, ?_⟩)))
  · have n1 := mt (E 33 (by decide)).mpr c1
    have p50 : (¬ (c = 61 ∧ d = 61)) → (¬ (c = 60 ∧ d = 61)) → q_wp 9 200 50 [some (.int (nI c)), some (.int (nI d)), none] [] h Q := by
      intro n2 n3
      refine b200_50 (fun c4 => one n1 n2 n3 (fun h9 => c4 ((E 45 (by decide)).mpr h9.1))) (fun c4 => b200_56 (fun c5 => one n1 n2 n3 (fun h9 => c5 ((D 62 (by decide)).mpr h9.2))) (fun c5 => b200_62 (fin _ _ ⟨rfl, ?_⟩)))
      have e1 := (E 45 (by decide)).mp c4
      have e2 := (D 62 (by decide)).mp c5
      subst e1 e2
      rfl
    have p35 : (¬ (c = 61 ∧ d = 61)) → q_wp 9 200 35 [some (.int (nI c)), some (.int (nI d)), none] [] h Q := by
      intro n2
      refine b200_35 (fun c4 => p50 n2 (fun h9 => c4 ((E 60 (by decide)).mpr h9.1))) (fun c4 => b200_41 (fun c5 => p50 n2 (fun h9 => c5 ((D 61 (by decide)).mpr h9.2))) (fun c5 => b200_47 (fin _ _ ⟨rfl, ?_⟩)))
      have e1 := (E 60 (by decide)).mp c4
      have e2 := (D 61 (by decide)).mp c5
      subst e1 e2
      rfl
    refine b200_20 (fun c4 => p35 (fun h9 => c4 ((E 61 (by decide)).mpr h9.1))) (fun c4 => b200_26 (fun c5 => p35 (fun h9 => c5 ((D 61 (by decide)).mpr h9.2))) (fun c5 => b200_32 (fin _ _ ⟨rfl, ?_⟩)))
    have e1 := (E 61 (by decide)).mp c4
    have e2 := (D 61 (by decide)).mp c5
    subst e1 e2
    rfl
  · have e1 := (E 33 (by decide)).mp c1
    have n2 := mt (D 61 (by decide)).mpr c2
    unfold t_sg
    rw [if_pos e1, if_neg n2]
    rfl
  · have e1 := (E 33 (by decide)).mp c1
    have e2 := (D 61 (by decide)).mp c2
    subst e1 e2
    rfl
theorem t_sg_c (c d : Nat) : (25 ≤ t_sg c d ∧ t_sg c d ≤ 39) ∨ t_sg c d = 43 := by
  have := t_s1_c c
  unfold t_sg
  repeat' split
  all_goals omega
theorem s196 {h : q_Hp} {n p m : Nat} (S : q_Sh h) (hW : ∀ i, i < 25 → qL h 4 i = t_W i) (hn : n ≤ 4000) (hp : p < n) (hm : qI h 3 4 = nI m) (h1 : m ≤ 1200) : q_mI 10 196 [.ref 3, .ref 2, .int (nI n), .int (nI p)] h (fun z h' => z = nI (t_en (t_by (qA h 2)) n p) ∧ t_pt h h' m (t_kd (t_by (qA h 2)) n p) p (t_vl (t_by (qA h 2)) n p)) := by
  refine q_mI.of (q_recV rfl (S.ok rfl)) (fun Q fin => ?_)
  refine b196_0 (s192 S hn (by omega)) (by decide) ?_
  rintro z h2 ⟨e0, rfl⟩
  subst h2
  rw [t_at_in hp]
  have hb := t_by_lt (qA h 2) p
  refine b196_6 (s194 hb) (by decide) ?_
  rintro z h2 ⟨e0, rfl⟩
  subst h2
  refine b196_13 (fun c => b196_24 (s193 hb) (by decide) ?_) (fun c => b196_16 (s197 S hW hn hp hm h1 (b2i_ne.mp c)) (by decide) (fun z h2 h3 => b196_23 (fin _ _ h3)))
  rintro z h2 ⟨e0, rfl⟩
  subst h2
  have hl : ¬ t_le (t_by (qA h 2) p) = true := by rw [b2i_eq.mp c]; decide
  refine b196_29 (fun c2 => b196_40 ?_ (m := 0) (P := fun z h' => h' = h ∧ z = nI (t_at (t_by (qA h 2)) n (p + 1))) (by decide) ?_) (fun c2 => b196_32 (s199 S hn hp hm h1 hl (b2i_ne.mp c2)) (by decide) (fun z h2 h3 => b196_39 (fin _ _ h3)))
  · rw [show nI p + 1 = nI (p + 1) from nI_1 p]
    exact s192 S hn (by omega)
  rintro z h2 ⟨e0, rfl⟩
  subst h2
  have hd : ¬ t_di (t_by (qA h 2) p) = true := by rw [b2i_eq.mp c2]; decide
  refine b196_50 (s200 hb t_at_lt) (by decide) ?_
  rintro z h2 ⟨e0, rfl⟩
  subst h2
  have hsg := t_sg_c (t_by (qA h 2) p) (t_at (t_by (qA h 2)) n (p + 1))
  have e1 : t_kd (t_by (qA h 2)) n p = t_sg (t_by (qA h 2) p) (t_at (t_by (qA h 2)) n (p + 1)) := by
    unfold t_kd
    rw [if_neg (show ¬ n ≤ p by omega), if_neg hl, if_neg hd]
  have e2 : t_vl (t_by (qA h 2)) n p = 0 := by
    unfold t_vl
    rw [if_neg hl, if_neg hd]
  have e3 : t_en (t_by (qA h 2)) n p = if 36 ≤ t_sg (t_by (qA h 2) p) (t_at (t_by (qA h 2)) n (p + 1)) ∧ t_sg (t_by (qA h 2) p) (t_at (t_by (qA h 2)) n (p + 1)) ≤ 39 then p + 2 else p + 1 := by
    unfold t_en
    rw [if_neg hl, if_neg hd]
  rw [e1, e2, e3] at fin
  generalize t_sg (t_by (qA h 2) p) (t_at (t_by (qA h 2)) n (p + 1)) = g at *
  refine b196_53 (s191 S hm h1) (by decide) (fun h2 h3 => b196_63 (fun c3 => b196_83 (fin _ _ ⟨?_, h3⟩)) (fun c3 => b196_70 (fun c4 => b196_83 (fin _ _ ⟨?_, h3⟩)) (fun c4 => b196_77 (fin _ _ ⟨?_, h3⟩))))
  · have := (nI_ltI (b := 36) (by omega) (by decide)).mp c3
    rw [if_neg (by omega)]
    exact nI_1 p
  · have := (nI_ltI (a := 39) (by decide) (by omega)).mp c4
    rw [if_neg (by omega)]
    exact nI_1 p
  · have h3 := mt (nI_ltI (a := g) (b := 36) (by omega) (by decide)).mpr c3
    have h4 := mt (nI_ltI (a := 39) (b := g) (by decide) (by omega)).mpr c4
    rw [if_pos (by omega)]
    exact nI_add p 2
