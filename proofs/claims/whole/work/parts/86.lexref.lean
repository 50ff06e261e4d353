/-! TOKENS of the reference: its small methods -/
/-- the reference's kind of a token of the class's kind -/
def t_ph (k : Nat) : Nat := if k < 5 then k + 20 else if k = 5 then 29 else if k < 10 then k + 19 else if k < 25 then k + 20 else [5, 4, 6, 7, 8, 11, 13, 14, 15, 16, 17, 9, 10, 12, 18, 1, 2, 0, 3].getD (k - 25) 3
theorem t_ph_inj : ∀ j, j ≤ 43 → ∀ k, k ≤ 43 → t_ph j = t_ph k → j = k := by decide +kernel
theorem t_ph_44 : ∀ j, j ≤ 43 → t_ph j ≤ 44 := by decide +kernel
/-- a word's number in the class of its number in the reference -/
def t_ka (k : Nat) : Nat := if k = 9 then 5 else if 5 ≤ k ∧ k ≤ 8 then k + 1 else k
theorem t_ka_25 : ∀ k, k < 25 → t_ka k < 25 ∧ t_ph (t_ka k) = 20 + k := by decide +kernel
theorem t_ka_on : ∀ j, j < 25 → ∃ k, k < 25 ∧ t_ka k = j := by decide +kernel
theorem s240 {k : q_Hp} {n i : Nat} (S : q_Sh k) (hz : qI k 630 4 = nI n) (hn : n ≤ 4000) (hi : i < 2 ^ 31) : q_mI 0 240 [.ref 630, .int (nI i)] k (fun z k' => k' = k ∧ z = nI (t_at (t_by (qA k 632)) n i)) := by
  refine q_mI.of (q_recV rfl (S.ok rfl)) (fun Q fin => ?_)
  refine b240_0 (S.ok rfl) (fun c => b240_21 (fin _ _ ⟨rfl, ?_⟩)) (fun c => ?_)
  · rw [hz] at c
    have := (nI_leI (by omega) hi).mp c
    unfold t_at
    rw [if_neg (by omega)]
    rfl
  · rw [hz] at c
    have h1 : i < n := by
      rcases Nat.lt_or_ge i n with h1 | h1
      · exact h1
      · exact absurd ((nI_leI (by omega) hi).mpr h1) c
    refine b240_8 (v0 := 632) (S.ok rfl) (S.ref rfl) (Or.inl (S.ok rfl)) (S.inN (n := 4000) rfl (by omega) (by decide)) (fin _ _ ⟨rfl, ?_⟩)
    rw [nI_clamp hi, t_by_e, t_at_in h1]
theorem s241 {h : q_Hp} {c : Nat} (hc : c < 256) : q_mI 0 241 [.int (nI c)] h (fun z h' => h' = h ∧ z = b2i (t_di c)) := by
  refine q_mI.of (q_recS rfl) (fun Q fin => ?_)
  refine b241_0 (fun c1 => b241_16 (fin _ _ ⟨rfl, ?_⟩)) (fun c1 => b241_6 (fun c2 => b241_16 (fin _ _ ⟨rfl, ?_⟩)) (fun c2 => b241_12 (fin _ _ ⟨rfl, ?_⟩)))
  · have := (nI_ltI (b := 48) (by omega) (by decide)).mp c1
    unfold t_di
    rw [decide_eq_false (show ¬ 48 ≤ c by omega)]
    rfl
  · have := (nI_ltI (a := 57) (by decide) (by omega)).mp c2
    unfold t_di
    rw [decide_eq_false (show ¬ c ≤ 57 by omega), Bool.and_false]
    rfl
  · have h1 := mt (nI_ltI (b := 48) (a := c) (by omega) (by decide)).mpr c1
    have h2 := mt (nI_ltI (a := 57) (b := c) (by decide) (by omega)).mpr c2
    unfold t_di
    rw [decide_eq_true (show 48 ≤ c by omega), decide_eq_true (show c ≤ 57 by omega)]
    rfl
theorem s242 {h : q_Hp} {c : Nat} (hc : c < 256) : q_mI 0 242 [.int (nI c)] h (fun z h' => h' = h ∧ z = b2i (t_le c)) := by
  refine q_mI.of (q_recS rfl) (fun Q fin => ?_)
  refine b242_0 (fun c1 => b242_16 (fin _ _ ⟨rfl, ?_⟩)) (fun c1 => b242_6 (fun c2 => b242_16 (fin _ _ ⟨rfl, ?_⟩)) (fun c2 => b242_12 (fin _ _ ⟨rfl, ?_⟩)))
  · have := (nI_ltI (b := 97) (by omega) (by decide)).mp c1
    unfold t_le
    rw [decide_eq_false (show ¬ 97 ≤ c by omega)]
    rfl
  · have := (nI_ltI (a := 122) (by decide) (by omega)).mp c2
    unfold t_le
    rw [decide_eq_false (show ¬ c ≤ 122 by omega), Bool.and_false]
    rfl
  · have h1 := mt (nI_ltI (b := 97) (a := c) (by omega) (by decide)).mpr c1
    have h2 := mt (nI_ltI (a := 122) (b := c) (by decide) (by omega)).mpr c2
    unfold t_le
    rw [decide_eq_true (show 97 ≤ c by omega), decide_eq_true (show c ≤ 122 by omega)]
    rfl
theorem s243 {h : q_Hp} {U c : Nat} (hc : t_al c = true) : q_mJ 1 243 [.long (lN U), .int (nI c)] h (fun z h' => h' = h ∧ z = lN (37 * U + t_dg c)) := by
  refine q_mJ.of (q_recS rfl) (fun Q fin => ?_)
  have h1 := t_al_c hc
  refine b243_0 (fun _ => b243_8 (s241 (by omega)) (by decide) ?_) (fun c1 => absurd c1 (nI_ne0 (by omega) (by omega)))
  rintro z h2 ⟨e0, rfl⟩
  subst h2
  rw [show 37 * lN U = lN (37 * U) from lN_mul 37 U]
  refine b243_17 (fun c2 => b243_30 (b243_36 (fin _ _ ⟨rfl, ?_⟩))) (fun c2 => b243_20 (b243_36 (fin _ _ ⟨rfl, ?_⟩)))
  · have hd := b2i_eq.mp c2
    have h97 : 97 ≤ c := by
      unfold t_di at hd
      simp only [Bool.and_eq_false_iff, decide_eq_false_iff_not] at hd
      omega
    rw [show nI c - 97 = nI (c - 97) from pk_sub (b := 97) h97, nI_1, nI_l (by omega), lN_add]
    unfold t_dg
    rw [hd, if_neg (by decide)]
  · have hd := b2i_ne.mp c2
    have h97 : 48 ≤ c := by
      unfold t_di at hd
      simp only [Bool.and_eq_true, decide_eq_true_eq] at hd
      omega
    rw [show nI c - 48 = nI (c - 48) from pk_sub (b := 48) h97, show nI (c - 48) + 27 = nI (c - 48 + 27) from nI_add _ 27, nI_l (by omega), lN_add]
    unfold t_dg
    rw [if_pos hd]
/-- a token put behind the others -/
def t_pr (k k' : q_Hp) (m kd p : Nat) (v : Int32) (u : Int64) : Prop := q_Ef [630, 633, 634, 635, 636] k k' ∧ (∀ j, qI k' 630 j = upd (qI k 630) 10 (nI (m + 1)) j) ∧ qA k' 633 = upd (qA k 633) m (nI kd) ∧ qA k' 634 = upd (qA k 634) m (nI p) ∧ qA k' 635 = upd (qA k 635) m v ∧ qL k' 636 = vp_updL (qL k 636) m u
theorem s245 {k : q_Hp} {m kd p : Nat} {v : Int32} {u : Int64} (S : q_Sh k) (hm : qI k 630 10 = nI m) (h1 : m ≤ 1200) : q_mV 0 245 [.ref 630, .int (nI kd), .int (nI p), .int v, .long u] k (fun k' => t_pr k k' m kd p v u) := by
  refine q_mV.of (q_recV rfl (S.ok rfl)) (fun Q fin => ?_)
  have i5 : ∀ c, (qK k c).2 = 1203 → q_in (qI k 630 10) (qK k c).2 := by intro c hc; rw [hm, hc]; exact q_inN (by omega) (by decide)
  refine b245_0 (v0 := 633) (v1 := 634) (v2 := 635) (v3 := 636) (S.ok rfl) (S.ref rfl) (S.ok rfl) (i5 633 (S.len rfl)) (S.ref rfl) (S.ok rfl) (i5 634 (S.len rfl)) (S.ref rfl) (S.ok rfl) (i5 635 (S.len rfl)) (S.ref rfl) (S.ok rfl) (i5 636 (S.len rfl)) (fin _ ⟨?_, ?_, ?_, ?_, ?_, ?_⟩)
  · exact ((((q_Ef.sA (by decide)).trans (q_Ef.sA (by decide))).trans (q_Ef.sA (by decide))).trans (q_Ef.sL (by decide))).trans (q_Ef.sI (by decide))
  · intro j
    show (if 630 = 630 ∧ j = 10 then qI k 630 10 + 1 else qI k 630 j) = _
    rw [hm, nI_1]
    unfold upd
    by_cases hj : j = 10
    · rw [if_pos ⟨rfl, hj⟩, if_pos hj]
    · rw [if_neg (fun h9 => hj h9.2), if_neg hj]
  · rw [hm, nI_clamp (by omega)]
    exact qA_sAu k 633 m (nI kd)
  · rw [hm, nI_clamp (by omega)]
    exact qA_sAu k 634 m (nI p)
  · rw [hm, nI_clamp (by omega)]
    exact qA_sAu k 635 m v
  · rw [hm, nI_clamp (by omega)]
    funext x
    show (if 636 = 636 ∧ x = m then u else qL k 636 x) = if x = m then u else qL k 636 x
    by_cases hx : x = m
    · rw [if_pos ⟨rfl, hx⟩, if_pos hx]
    · rw [if_neg (fun h9 => hx h9.2), if_neg hx]
theorem t_K_eq {r : List Nat} {i : Nat} (hi : i < 25) (ha : ∀ c, c ∈ r → t_al c = true) (h8 : r.length ≤ 8) : t_K i = lN (t_U r) ↔ t_wd (t_ka i) = r := by
  have hk := (t_ka_25 i hi).1
  have h5 := t_wd_5 _ hk
  constructor
  · intro e
    have := (i64_inj (t_U_63 (t_wd_al _ hk) (by omega)) (t_U_63 ha h8)).mp e
    exact t_U_inj _ _ (t_wd_al _ hk) ha this
  · intro e
    show Int64.ofNat (t_U (t_wd (t_ka i))) = Int64.ofNat (t_U r)
    rw [e]
/-- the kind of a word so far gone through the keys -/
theorem s247_21 {k : q_Hp} {r : List Nat} {p len : Nat} {Q : Option Value → q_Hp → Prop} (S : q_Sh k) (hK : ∀ i, i < 25 → qL k 637 i = t_K i) (ha : ∀ c, c ∈ r → t_al c = true) (h8 : r.length ≤ 8) (w : ∀ l6, q_wp 1 247 53 [some (.ref 630), some (.int (nI p)), some (.int (nI len)), some (.long (lN (t_U r))), none, some (.int (nI (t_ph (t_kn r)))), l6] [] k Q) : ∀ m i x, i + m = 25 → ((∃ j, j < i ∧ t_wd (t_ka j) = r) ∧ x = nI (t_ph (t_kn r)) ∨ (∀ j, j < i → ¬ t_wd (t_ka j) = r) ∧ x = 1) → q_wp 1 247 21 [some (.ref 630), some (.int (nI p)), some (.int (nI len)), some (.long (lN (t_U r))), none, some (.int x), some (.int (nI i))] [] k Q := by
  intro m
  induction m with
  | zero =>
    intro i x hi hx
    refine b247_21 (fun _ => ?_) (fun c => absurd ((nI_leI (a := 25) (by decide) (by omega)).mpr (by omega)) c)
    rcases hx with ⟨_, hx⟩ | ⟨no, hx⟩
    · rw [hx]; exact w _
    · have h40 : t_kn r = 40 := by
        rcases t_kn_c r with ⟨h1, h2⟩ | ⟨h1, _⟩
        · obtain ⟨j, hj, hj2⟩ := t_ka_on _ h1
          exact absurd (by rw [hj2]; exact h2) (no j (by omega))
        · exact h1
      rw [hx]
      have := w (some (.int (nI i)))
      rw [h40] at this
      exact this
  | succ m ih =>
    intro i x hi hx
    refine b247_21 (fun c => ?_) (fun _ => b247_28 (v0 := 637) (S.ok rfl) (S.ref rfl) (S.ok rfl) (S.inN (n := 25) rfl (by omega) (by decide)) (fun c => b247_47 ?_) (fun c => b247_40 (b247_47 ?_)))
    · have := (nI_leI (a := 25) (by decide) (by omega)).mp c
      omega
    · rw [show nI i + 1 = nI (i + 1) from nI_1 i]
      rw [nI_clamp (by omega), hK i (by omega), lg_0] at c
      have c' := fun h9 => c ((t_K_eq (by omega) ha h8).mpr h9)
      refine ih (i + 1) x (by omega) ?_
      rcases hx with ⟨⟨j, hj, e⟩, hx⟩ | ⟨no, hx⟩
      · exact Or.inl ⟨⟨j, by omega, e⟩, hx⟩
      · refine Or.inr ⟨fun j hj => ?_, hx⟩
        by_cases h9 : j = i
        · rw [h9]; exact c'
        · exact no j (by omega)
    · rw [show nI i + 1 = nI (i + 1) from nI_1 i]
      rw [nI_clamp (by omega), hK i (by omega), lg_0] at c
      have c' := (t_K_eq (by omega) ha h8).mp c
      refine ih (i + 1) _ (by omega) (Or.inl ⟨⟨i, by omega, c'⟩, ?_⟩)
      rw [t_kn_w (t_ka_25 i (by omega)).1 c', (t_ka_25 i (by omega)).2]
      exact nI_add 20 i
theorem s247 {k : q_Hp} {r : List Nat} {p len m : Nat} {u : Int64} (S : q_Sh k) (hK : ∀ i, i < 25 → qL k 637 i = t_K i) (ha : ∀ c, c ∈ r → t_al c = true) (hl : r.length = len) (hu : len ≤ 8 → u = lN (t_U r)) (hlen : len ≤ 4000) (hm : qI k 630 10 = nI m) (h1 : m ≤ 1200) : q_mV 1 247 [.ref 630, .int (nI p), .int (nI len), .long u] k (fun k' => t_pr k k' m (t_ph (if 8 < len then 43 else t_kn r)) p 0 u) := by
  refine q_mV.of (q_recV rfl (S.ok rfl)) (fun Q fin => ?_)
  have w53 : ∀ l6, q_wp 1 247 53 [some (.ref 630), some (.int (nI p)), some (.int (nI len)), some (.long u), none, some (.int (nI (t_ph (if 8 < len then 43 else t_kn r)))), l6] [] k Q := fun l6 => b247_53 (s245 S hm h1) (by decide) (fun k' t => b247_62 (fin _ t))
  refine b247_0 (fun c => ?_) (fun c => ?_)
  · have c8 := (nI_leI (b := 8) (by omega) (by decide)).mp c
    rw [hu c8] at w53 ⊢
    rw [if_neg (show ¬ 8 < len by omega)] at w53
    refine b247_10 (b247_11 (fun c5 => ?_) (fun c5 => b247_18 (s247_21 S hK ha (by omega) w53 25 0 1 rfl (Or.inr ⟨fun j hj => by omega, rfl⟩))))
    have c5 := (nI_ltI (a := 5) (by decide) (by omega)).mp c5
    have h40 : t_kn r = 40 := by
      rcases t_kn_c r with ⟨h1, h2⟩ | ⟨h1, _⟩
      · have := t_wd_5 _ h1
        rw [h2] at this
        omega
      · exact h1
    rw [h40] at w53
    exact w53 none
  · have c8 := mt (nI_leI (a := len) (b := 8) (by omega) (by decide)).mpr c
    rw [if_pos (show 8 < len by omega)] at w53
    refine b247_6 (b247_11 (fun _ => w53 none) (fun c5 => ?_))
    have c5 := mt (nI_ltI (a := 5) (b := len) (by decide) (by omega)).mpr c5
    omega
theorem s248 {k : q_Hp} {p c d m : Nat} (S : q_Sh k) (hc : c < 256) (hd : d < 256) (hm : qI k 630 10 = nI m) (h1 : m ≤ 1200) : q_mI 1 248 [.ref 630, .int (nI p), .int (nI c), .int (nI d)] k (fun z k' => z = (if 36 ≤ t_sg c d ∧ t_sg c d ≤ 39 then 2 else 1) ∧ t_pr k k' m (t_ph (t_sg c d)) p 0 0) := by
  refine q_mI.of (q_recV rfl (S.ok rfl)) (fun Q fin => ?_)
  have E := fun (k : Nat) (hk : k < 256) => t_eqc (k := k) hc hk
  have D := fun (k : Nat) (hk : k < 256) => t_eqc (k := k) hd hk
  have w2 : (36 ≤ t_sg c d ∧ t_sg c d ≤ 39) → q_wp 1 248 229 [some (.ref 630), some (.int (nI p)), some (.int (nI c)), some (.int (nI d)), some (.int 1), some (.int (nI (t_ph (t_sg c d))))] [] k Q := fun h9 => b248_229 (s245 S hm h1) (by decide) (fun k' t => b248_238 (fun c9 => absurd c9 (by decide)) (fun _ => b248_243 (fin _ _ ⟨by rw [if_pos h9], t⟩)))
  have w1 : ¬ (36 ≤ t_sg c d ∧ t_sg c d ≤ 39) → q_wp 1 248 229 [some (.ref 630), some (.int (nI p)), some (.int (nI c)), some (.int (nI d)), some (.int 0), some (.int (nI (t_ph (t_sg c d))))] [] k Q := fun h9 => b248_229 (s245 S hm h1) (by decide) (fun k' t => b248_238 (fun _ => b248_247 (fin _ _ ⟨by rw [if_neg h9], t⟩)) (fun c9 => absurd rfl c9))
  have two : (d = 61 ∧ (c = 61 ∨ c = 33 ∨ c = 60)) ∨ (c = 45 ∧ d = 62) → q_wp 1 248 36 [some (.ref 630), some (.int (nI p)), some (.int (nI c)), some (.int (nI d)), none, none] [] k Q := by
    intro h2
    refine b248_36 (b248_41 (fun c9 => absurd c9 (by decide)) (fun _ => ?_))
    rcases h2 with ⟨rfl, rfl | rfl | rfl⟩ | ⟨rfl, rfl⟩
    · exact b248_51 (fun c9 => absurd rfl c9) (fun _ => b248_57 (b248_86 (w2 (by decide))))
    · exact b248_51 (fun _ => b248_62 (fun c9 => absurd rfl c9) (fun _ => b248_68 (b248_86 (w2 (by decide))))) (fun c9 => absurd c9 (by decide))
    · exact b248_51 (fun _ => b248_62 (fun _ => b248_73 (fun c9 => absurd rfl c9) (fun _ => b248_79 (b248_86 (w2 (by decide))))) (fun c9 => absurd c9 (by decide))) (fun c9 => absurd c9 (by decide))
    · exact b248_51 (fun _ => b248_62 (fun _ => b248_73 (fun _ => b248_84 (b248_86 (w2 (by decide)))) (fun c9 => absurd c9 (by decide))) (fun c9 => absurd c9 (by decide))) (fun c9 => absurd c9 (by decide))
  have one : ¬ (d = 61 ∧ (c = 61 ∨ c = 33 ∨ c = 60)) → ¬ (c = 45 ∧ d = 62) → q_wp 1 248 40 [some (.ref 630), some (.int (nI p)), some (.int (nI c)), some (.int (nI d)), none, none] [] k Q := by
    intro n1 n2
    have sg : t_sg c d = t_s1 c := by
      unfold t_sg
      by_cases e33 : c = 33
      · rw [if_pos e33, if_neg (fun h9 => n1 ⟨h9, Or.inr (Or.inl e33)⟩), e33]
        rfl
      · rw [if_neg e33, if_neg (fun h9 => n1 ⟨h9.2, Or.inl h9.1⟩), if_neg (fun h9 => n1 ⟨h9.2, Or.inr (Or.inr h9.1)⟩), if_neg n2]
    have w1 := w1 (by rw [sg]; rcases t_s1_c c with h9 | h9 <;> omega)
    rw [sg] at w1
    refine b248_40 (b248_41 (fun _ => ?_) (fun c9 => absurd rfl c9))
    refine b248_91 (fun a1 => ?_) (fun a1 => by have := (E 59 (by decide)).mp a1; subst this; exact b248_97 w1)
    refine b248_103 (fun a2 => ?_) (fun a1 => by have := (E 58 (by decide)).mp a1; subst this; exact b248_109 w1)
    refine b248_115 (fun a3 => ?_) (fun a1 => by have := (E 46 (by decide)).mp a1; subst this; exact b248_121 w1)
    refine b248_128 (fun a4 => ?_) (fun a1 => by have := (E 44 (by decide)).mp a1; subst this; exact b248_134 w1)
    refine b248_141 (fun a5 => ?_) (fun a1 => by have := (E 61 (by decide)).mp a1; subst this; exact b248_147 w1)
    refine b248_154 (fun a6 => ?_) (fun a1 => by have := (E 60 (by decide)).mp a1; subst this; exact b248_160 w1)
    refine b248_167 (fun a7 => ?_) (fun a1 => by have := (E 43 (by decide)).mp a1; subst this; exact b248_173 w1)
    refine b248_180 (fun a8 => ?_) (fun a1 => by have := (E 45 (by decide)).mp a1; subst this; exact b248_186 w1)
    refine b248_193 (fun a9 => ?_) (fun a1 => by have := (E 42 (by decide)).mp a1; subst this; exact b248_199 w1)
    refine b248_206 (fun a10 => ?_) (fun a1 => by have := (E 40 (by decide)).mp a1; subst this; exact b248_212 w1)
    refine b248_219 (fun a11 => ?_) (fun a1 => by have := (E 41 (by decide)).mp a1; subst this; exact b248_225 w1)
    have e43 : t_s1 c = 43 := by
      unfold t_s1
      rw [if_neg (mt (E 58 (by decide)).mpr a2), if_neg (mt (E 59 (by decide)).mpr a1), if_neg (mt (E 46 (by decide)).mpr a3), if_neg (mt (E 44 (by decide)).mpr a4), if_neg (mt (E 61 (by decide)).mpr a5), if_neg (mt (E 60 (by decide)).mpr a6), if_neg (mt (E 43 (by decide)).mpr a7), if_neg (mt (E 45 (by decide)).mpr a8), if_neg (mt (E 42 (by decide)).mpr a9), if_neg (mt (E 40 (by decide)).mpr a10), if_neg (mt (E 41 (by decide)).mpr a11)]
    rw [e43] at w1
    exact w1
  have p24 : ¬ (d = 61 ∧ (c = 61 ∨ c = 33 ∨ c = 60)) → q_wp 1 248 24 [some (.ref 630), some (.int (nI p)), some (.int (nI c)), some (.int (nI d)), none, none] [] k Q := by
    intro n1
    refine b248_24 (fun a1 => one n1 (fun h9 => a1 ((E 45 (by decide)).mpr h9.1))) (fun a1 => b248_30 (fun a2 => one n1 (fun h9 => a2 ((D 62 (by decide)).mpr h9.2))) (fun a2 => two (Or.inr ⟨(E 45 (by decide)).mp a1, (D 62 (by decide)).mp a2⟩)))
  refine b248_0 (fun a1 => p24 (fun h9 => a1 ((D 61 (by decide)).mpr h9.1))) (fun a1 => ?_)
  have e1 := (D 61 (by decide)).mp a1
  refine b248_6 (fun a2 => two (Or.inl ⟨e1, Or.inl ((E 61 (by decide)).mp a2)⟩)) (fun a2 => b248_12 (fun a3 => two (Or.inl ⟨e1, Or.inr (Or.inl ((E 33 (by decide)).mp a3))⟩)) (fun a3 => b248_18 (fun a4 => two (Or.inl ⟨e1, Or.inr (Or.inr ((E 60 (by decide)).mp a4))⟩)) (fun a4 => p24 ?_)))
  rintro ⟨_, h9 | h9 | h9⟩
  · exact a2 ((E 61 (by decide)).mpr h9)
  · exact a3 ((E 33 (by decide)).mpr h9)
  · exact a4 ((E 60 (by decide)).mpr h9)
