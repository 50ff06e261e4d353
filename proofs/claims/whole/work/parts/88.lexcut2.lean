/-! TOKENS of the reference: the loop over the text -/
theorem t_sk_ws {b : Nat → Nat} {n i : Nat} (hi : i < n) (h : t_wh (b i) = true) : t_sk b n i = t_sk b n (i + 1) := by
  unfold t_sk
  rw [show n - i = (n - (i + 1)) + 1 by omega, t_sc_y (p := fun j => t_wh (b j)) h]
theorem t_sk_no {b : Nat → Nat} {n i : Nat} (hi : i < n) (h : ¬ t_wh (b i) = true) : t_sk b n i = i := by
  unfold t_sk
  rw [show n - i = (n - (i + 1)) + 1 by omega, t_sc_n (p := fun j => t_wh (b j)) h]
theorem t_sk_end {b : Nat → Nat} {n : Nat} : t_sk b n n = n := by
  have := t_sk_n (b := b) (n := n) (i := n) (Nat.le_refl _)
  omega
theorem s246_7 {k0 : q_Hp} {n : Nat} {b : Nat → Nat} {Q : Option Value → q_Hp → Prop} (S0 : q_Sh k0) (hz0 : qI k0 630 4 = nI n) (hn : n ≤ 4000) (hb0 : t_by (qA k0 632) = b) (hK : ∀ i, i < 25 → qL k0 637 i = t_K i) (fin : ∀ k', n_fq k0 k' → (∀ i, i ≤ t_e b n → n_rw k' b n i) → Q none k') : ∀ d i m k l2 l3 l4, n - i ≤ d → i ≤ n → m ≤ 1201 → n_ro k b n m → n_fq k0 k → (m ≤ t_e b n → t_sk b n i = t_ps b n m) → q_wp 2 246 7 [some (.ref 630), some (.int (nI i)), l2, l3, l4, none] [] k Q := by
  intro d
  induction d with
  | zero =>
    intro i m k l2 l3 l4 hd hi hm R F hs
    have he := t_e_le (b := b) (n := n)
    have S := F.1.sh S0
    have hz : qI k 630 4 = nI n := (F.2 4 (by decide)).trans hz0
    refine b246_7 (S.ok rfl) (fun c => b246_252 (fin _ F (fun i hi => R.2 i ?_ hi))) (fun c => ?_)
    · rw [R.1] at c
      have := (nI_ltI (a := 1200) (by decide) (by omega)).mp c
      omega
    rw [R.1] at c
    have m1 := mt (nI_ltI (a := 1200) (b := m) (by decide) (by omega)).mpr c
    refine b246_17 (s240 S hz hn (by omega)) (by decide) ?_
    rintro z h2 ⟨e0, rfl⟩
    subst h2
    refine b246_22 (S.ok rfl) (fun c2 => ?_) (fun _ => ?_)
    · rw [hz] at c2
      have := (nI_ltI (by omega) (by omega)).mp c2
      omega
    obtain rfl : i = n := by omega
    refine b246_31 (S.ok rfl) ?_ (m := 0) (P := fun k' => t_pr k k' m 0 i 0 0) (by decide) ?_
    · rw [hz]
      exact s245 (kd := 0) S R.1 (by omega)
    · rintro k' t
      have key : m ≤ t_e b i → t_ps b i m = i ∧ t_tk b i m = 42 := by
        intro h9
        have h8 := hs h9
        rw [t_sk_end] at h8
        refine ⟨h8.symm, ?_⟩
        unfold t_tk t_kd
        rw [if_pos (by omega)]
      have pt := R.put t (fun h9 => ?_)
      · obtain ⟨R', F'⟩ := pt
        refine b246_42 (fin _ (F.trans F') (fun j hj => R'.2 j ?_ hj))
        by_cases h9 : m < t_e b i
        · have h8 := (key (by omega)).2
          have := t_e_lo h9
          omega
        · omega
      · obtain ⟨h1, h2⟩ := key h9
        rw [h1, h2]
        exact ⟨rfl, rfl, fun h => by omega, fun h => by omega⟩
  | succ d ih =>
    intro i m k l2 l3 l4 hd hi hm R F hs
    by_cases hin : i = n
    · exact ih i m k l2 l3 l4 (by omega) hi hm R F hs
    have he := t_e_le (b := b) (n := n)
    have S := F.1.sh S0
    have hz : qI k 630 4 = nI n := (F.2 4 (by decide)).trans hz0
    have hbk : t_by (qA k 632) = b := by rw [F.1.A (show 632 ∉ [630, 633, 634, 635, 636] by decide)]; exact hb0
    have hKk : ∀ i, i < 25 → qL k 637 i = t_K i := fun i hi => by rw [F.1.L (show 637 ∉ [630, 633, 634, 635, 636] by decide)]; exact hK i hi
    have in1 : i < n := by omega
    refine b246_7 (S.ok rfl) (fun c => b246_252 (fin _ F (fun i hi => R.2 i ?_ hi))) (fun c => ?_)
    · rw [R.1] at c
      have := (nI_ltI (a := 1200) (by decide) (by omega)).mp c
      omega
    rw [R.1] at c
    have m1 := mt (nI_ltI (a := 1200) (b := m) (by decide) (by omega)).mpr c
    refine b246_17 (s240 S hz hn (by omega)) (by decide) ?_
    rintro z h2 ⟨e0, rfl⟩
    subst h2
    rw [hbk, t_at_in in1]
    have hb : b i < 256 := by rw [← hbk]; exact t_by_lt _ _
    refine b246_22 (S.ok rfl) (fun _ => ?_) (fun c2 => ?_)
    rotate_left 1
    · rw [hz] at c2
      exact absurd ((nI_ltI (by omega) (by omega)).mpr in1) c2
    have ws : t_wh (b i) = true → q_wp 2 246 67 [some (.ref 630), some (.int (nI i)), some (.int (nI (b i))), l3, l4, none] [] k Q := by
      intro hw
      refine b246_67 (b246_249 ?_)
      rw [show nI i + 1 = nI (i + 1) from nI_1 i]
      exact ih (i + 1) m k _ l3 l4 (by omega) (by omega) hm R F (fun h9 => by rw [← t_sk_ws in1 hw]; exact hs h9)
    refine b246_43 (fun c1 => ws ?_) (fun c1 => b246_49 (fun c2 => ws ?_) (fun c2 => b246_55 (fun c3 => ws ?_) (fun c3 => b246_61 (fun c4 => ?_) (fun c4 => ws ?_))))
    · rw [(t_eqc (k := 9) hb (by decide)).mp c1]; rfl
    · rw [(t_eqc (k := 10) hb (by decide)).mp c2]; rfl
    · rw [(t_eqc (k := 13) hb (by decide)).mp c3]; rfl
    rotate_left 1
    · rw [(t_eqc (k := 32) hb (by decide)).mp c4]; rfl
    have nw : ¬ t_wh (b i) = true := by
      have h1 := mt (t_eqc (k := 9) hb (by decide)).mpr c1
      have h2 := mt (t_eqc (k := 10) hb (by decide)).mpr c2
      have h3 := mt (t_eqc (k := 13) hb (by decide)).mpr c3
      have h4 := mt (t_eqc (k := 32) hb (by decide)).mpr c4
      unfold t_wh
      rw [beq_false_of_ne h1, beq_false_of_ne h2, beq_false_of_ne h3, beq_false_of_ne h4]
      decide
    have psi : m ≤ t_e b n → t_ps b n m = i := fun h9 => by rw [← hs h9]; exact t_sk_no in1 nw
    have tki : m ≤ t_e b n → t_tk b n m = t_kd b n i := fun h9 => by unfold t_tk; rw [psi h9]
    have nx : ∀ j, t_en b n i = j → m + 1 ≤ t_e b n → t_sk b n j = t_ps b n (m + 1) := by
      intro j hj h9
      show _ = t_sk b n (t_en b n (t_ps b n m))
      rw [psi (by omega), hj]
    have en := t_en_n (b := b) in1
    refine b246_73 (s242 hb) (by decide) ?_
    rintro z h2 ⟨e0, rfl⟩
    subst h2
    refine b246_77 (fun c5 => b246_152 (s241 hb) (by decide) ?_) (fun c5 => b246_80 ?_)
    rotate_left 1
    · -- a word
      have hl := b2i_ne.mp c5
      have ee : t_en b n i = t_we b n i := by unfold t_en; rw [if_pos hl]
      have kk : t_kd b n i = if 8 < t_we b n i - i then 43 else t_kn (t_nm b n i) := by
        unfold t_kd
        rw [if_neg (show ¬ n ≤ i by omega), if_pos hl]
        rfl
      rw [ee] at en
      refine s246_85 S hz hn (fun u hu => ?_) (n - i) 0 0 (by omega) rfl (fun _ => rfl)
      rw [hbk] at hu ⊢
      refine b246_137 (s247 (r := t_nm b n i) S hKk t_we_al (t_ch_len _) hu (by omega) R.1 (by omega)) (by decide) ?_
      intro k' t
      have pt := R.put t (fun h9 => ?_)
      · obtain ⟨R', F'⟩ := pt
        refine b246_145 (b246_249 ?_)
        rw [nI_add, show i + (t_we b n i - i) = t_we b n i by omega]
        exact ih (t_we b n i) (m + 1) k' _ _ _ (by omega) (by omega) (by omega) R' (F.trans F') (nx _ ee)
      · rw [tki h9, psi h9, kk]
        refine ⟨rfl, rfl, fun h8 => ?_, fun h8 => ?_⟩
        · exfalso
          split at h8
          · omega
          · rcases t_kn_c (t_nm b n i) with ⟨h1, _⟩ | ⟨h1, _⟩ <;> omega
        · split at h8
          · omega
          · exact hu (by omega)
    rintro z h2 ⟨e0, rfl⟩
    subst h2
    have hl : ¬ t_le (b i) = true := by rw [b2i_eq.mp c5]; decide
    refine b246_156 (fun c6 => ?_) (fun c6 => b246_159 ?_)
    rotate_left 1
    · -- an int
      have hd := b2i_ne.mp c6
      have ee : t_en b n i = t_ie b n i := by unfold t_en; rw [if_neg hl, if_pos hd]
      have kk : t_kd b n i = if 9 < t_ie b n i - i then 43 else 41 := by
        unfold t_kd
        rw [if_neg (show ¬ n ≤ i by omega), if_neg hl, if_pos hd]
      rw [ee] at en
      refine s246_164 S hz hn (fun u hu => ?_) (n - i) 0 0 (by omega) rfl (fun _ => rfl)
      rw [hbk] at hu ⊢
      have go : ∀ kd, kd = t_ph (if 9 < t_ie b n i - i then 43 else 41) → q_wp 2 246 219 [some (.ref 630), some (.int (nI i)), some (.int (nI (b i))), some (.int (nI (t_ie b n i - i))), some (.int u), none] [.int (nI kd), .ref 630] k Q := by
        intro kd hkd
        refine b246_219 (s245 S R.1 (by omega)) (by decide) ?_
        intro k' t
        have pt := R.put t (fun h9 => ?_)
        · obtain ⟨R', F'⟩ := pt
          refine b246_226 (b246_249 ?_)
          rw [nI_add, show i + (t_ie b n i - i) = t_ie b n i by omega]
          exact ih (t_ie b n i) (m + 1) k' _ _ _ (by omega) (by omega) (by omega) R' (F.trans F') (nx _ ee)
        · rw [tki h9, psi h9, kk]
          refine ⟨hkd, rfl, fun h8 => ?_, fun h8 => ?_⟩
          · split at h8
            · omega
            · exact hu (by omega)
          · exfalso
            split at h8 <;> omega
      refine b246_207 (fun c7 => b246_218 (go 2 ?_)) (fun c7 => b246_214 (go 3 ?_))
      · have := (nI_leI (b := 9) (by omega) (by decide)).mp c7
        rw [if_neg (by omega)]
        rfl
      · have := mt (nI_leI (a := t_ie b n i - i) (b := 9) (by omega) (by decide)).mpr c7
        rw [if_pos (by omega)]
        rfl
    -- a sign
    have hd : ¬ t_di (b i) = true := by rw [b2i_eq.mp c6]; decide
    have c40 := s240 (i := i + 1) S hz hn (by omega)
    rw [← nI_1, hbk] at c40
    refine b246_233 c40 (by decide) ?_
    rintro z h2 ⟨e0, rfl⟩
    subst h2
    have kk : t_kd b n i = t_sg (b i) (t_at b n (i + 1)) := by
      unfold t_kd
      rw [if_neg (show ¬ n ≤ i by omega), if_neg hl, if_neg hd]
    have ee : t_en b n i = if 36 ≤ t_sg (b i) (t_at b n (i + 1)) ∧ t_sg (b i) (t_at b n (i + 1)) ≤ 39 then i + 2 else i + 1 := by
      unfold t_en
      rw [if_neg hl, if_neg hd]
    have h256 : t_at b n (i + 1) < 256 := by rw [← hbk]; exact t_at_lt
    refine b246_244 (s248 S hb h256 R.1 (by omega)) (by decide) ?_
    rintro z k' ⟨rfl, t⟩
    have sgc := t_sg_c (b i) (t_at b n (i + 1))
    have pt := R.put t (fun h9 => ?_)
    · obtain ⟨R', F'⟩ := pt
      refine b246_247 (b246_249 ?_)
      have ei : nI i + (if 36 ≤ t_sg (b i) (t_at b n (i + 1)) ∧ t_sg (b i) (t_at b n (i + 1)) ≤ 39 then 2 else 1) = nI (t_en b n i) := by
        rw [ee]
        split
        · exact nI_add i 2
        · exact nI_1 i
      rw [ei]
      exact ih (t_en b n i) (m + 1) k' _ _ _ (by omega) (by omega) (by omega) R' (F.trans F') (nx _ rfl)
    · rw [tki h9, psi h9, kk]
      exact ⟨rfl, rfl, fun h8 => by omega, fun h8 => by omega⟩
theorem s246 {k : q_Hp} {n : Nat} (S : q_Sh k) (hz : qI k 630 4 = nI n) (hn : n ≤ 4000) (hK : ∀ i, i < 25 → qL k 637 i = t_K i) : q_mV 3 246 [.ref 630] k (fun k' => n_fq k k' ∧ ∀ i, i ≤ t_e (t_by (qA k 632)) n → n_rw k' (t_by (qA k 632)) n i) := by
  refine q_mV.of (q_recV rfl (S.ok rfl)) (fun Q fin => ?_)
  refine b246_0 (S.ok rfl) (q_wp.le (by decide) (s246_7 (k0 := k) (n := n) S hz hn rfl hK (fun k' a b => fin _ ⟨a, b⟩) n 0 0 _ none none none (Nat.sub_le _ _) (Nat.zero_le _) (by decide) ⟨rfl, fun i hi => by omega⟩ ⟨q_Ef.sI (by decide), fun j hj => ?_⟩ (fun _ => rfl)))
  show (if 630 = 630 ∧ j = 10 then 0 else qI k 630 j) = _
  rw [if_neg (fun h9 => hj h9.2)]
