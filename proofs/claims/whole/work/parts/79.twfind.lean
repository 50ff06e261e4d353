/-! THE TWINS of the desk: the search -/
/-- what the search is in: the nodes that are there, how many links, the diagrams -/
def x_Tw (h : q_Hp) (S n : Nat) (m m' : Nat → Nat) (f g : Nat → Int32) : Prop := q_Sh h ∧ qA h 598 = f ∧ qA h 623 = g ∧ S ≤ 12 ∧ n ≤ 7 ∧ qI h 624 6 = nI n ∧ (∀ i, i < n → qA h 625 i = nI (m i) ∧ m i < 12 ∧ qA h 626 i = nI (m' i) ∧ m' i < 12) ∧ (∀ i j hi, i < n → j < n → hi < 2 → qL h 627 (7 * i + j + 49 * hi) = Int64.ofNat (t_pk f hi (m i) (m j) 40) ∧ qL h 628 (7 * i + j + 49 * hi) = Int64.ofNat (t_pk g hi (m' i) (m' j) 40)) ∧ (∀ l, l < 40 → (f (36 + l) = -1 ∨ ∃ s, s < S ∧ f (36 + l) = nI s) ∧ (g (36 + l) = -1 ∨ ∃ s, s < S ∧ g (36 + l) = nI s))
theorem x_Tw.fr {Z : List Nat} {h h' : q_Hp} {S n : Nat} {m m' : Nat → Nat} {f g : Nat → Int32} (X : x_Tw h S n m m' f g) (e : q_Ef Z h h') (hZ : Z.all (fun x => decide (x = 624) || decide (x = 629)) = true) (i : qI h' 624 6 = qI h 624 6) : x_Tw h' S n m m' f g := by
  have nn : ∀ x, ¬ (x = 624 ∨ x = 629) → x ∉ Z := by
    intro x h1 h3
    have := List.all_eq_true.mp hZ x h3
    simp only [Bool.or_eq_true, decide_eq_true_eq] at this
    exact h1 this
  obtain ⟨S0, x1, x2, x3, x4, x5, x6, x7, x8⟩ := X
  refine ⟨e.sh S0, ?_, ?_, x3, x4, i.trans x5, ?_, ?_, x8⟩
  · rw [e.A (nn 598 (by decide))]; exact x1
  · rw [e.A (nn 623 (by decide))]; exact x2
  · rw [e.A (nn 625 (by decide)), e.A (nn 626 (by decide))]; exact x6
  · rw [e.L (nn 627 (by decide)), e.L (nn 628 (by decide))]; exact x7
theorem t_b0 {f : Nat → Int32} {S s a b : Nat} (hS : S ≤ s) (hs : s < 12) (H : ∀ l, l < 40 → (f (36 + l) = -1 ∨ ∃ s, s < S ∧ f (36 + l) = nI s)) (h12 : S ≤ 12) : t_b f s a b = 0 := by
  have : t_b f s a b = q_cnt (fun _ => false) 40 := by
    unfold t_b t_bL
    refine q_cnt_ext (fun l hl => ?_)
    rcases H l hl with h9 | ⟨s', h1, h2⟩
    · rw [h9, beq_eq_false_iff_ne.mpr (fun h8 => q_on_ne (j := s) (by omega) h8.symm)]
      rfl
    · rw [h2, beq_eq_false_iff_ne.mpr (fun h8 => by
        have := (nI_eq (by omega) (by omega)).mp h8
        omega)]
      rfl
  rw [this]
  decide
/-- the links of two pairs are as many -/
theorem t_lk {h : q_Hp} {S n : Nat} {m m' : Nat → Nat} {f g : Nat → Int32} (X : x_Tw h S n m m' f g) {i j i' j' : Nat} (hi : i < n) (hj : j < n) (hi' : i' < n) (hj' : j' < n) : (qL h 627 (7 * i + j) = qL h 628 (7 * i' + j') ∧ qL h 627 (7 * i + j + 49) = qL h 628 (7 * i' + j' + 49)) ↔ ∀ s, s < S → t_b f s (m i) (m j) = t_b g s (m' i') (m' j') := by
  obtain ⟨S0, x1, x2, x3, x4, x5, x6, x7, x8⟩ := X
  have a0 := (x7 i j 0 hi hj (by decide)).1
  have a1 := (x7 i j 1 hi hj (by decide)).1
  have b0 := (x7 i' j' 0 hi' hj' (by decide)).2
  have b1 := (x7 i' j' 1 hi' hj' (by decide)).2
  rw [show 7 * i + j + 49 * 0 = 7 * i + j by omega] at a0
  rw [show 7 * i' + j' + 49 * 0 = 7 * i' + j' by omega] at b0
  rw [show 7 * i + j + 49 * 1 = 7 * i + j + 49 by omega] at a1
  rw [show 7 * i' + j' + 49 * 1 = 7 * i' + j' + 49 by omega] at b1
  rw [a0, a1, b0, b1]
  have inj : ∀ {x y : Nat}, x < 2 ^ 40 → y < 2 ^ 40 → (Int64.ofNat x = Int64.ofNat y ↔ x = y) := by
    intro x y hx hy
    constructor
    · intro e
      have := congrArg Int64.toInt e
      rw [Int64.toInt_ofNat_of_lt (by omega), Int64.toInt_ofNat_of_lt (by omega)] at this
      omega
    · rintro rfl; rfl
  rw [inj (t_pk_lt (by decide)) (t_pk_lt (by decide)), inj (t_pk_lt (by decide)) (t_pk_lt (by decide)), t_pk_eq, t_pk_eq]
  constructor
  · rintro ⟨p, q⟩ s hs
    by_cases h6 : s < 6
    · have := p s h6
      rw [show 6 * 0 + s = s by omega] at this
      exact this
    · have := q (s - 6) (by omega)
      rw [show 6 * 1 + (s - 6) = s by omega] at this
      exact this
  · intro p
    have all : ∀ s, s < 12 → t_b f s (m i) (m j) = t_b g s (m' i') (m' j') := by
      intro s hs
      by_cases h9 : s < S
      · exact p s h9
      · rw [t_b0 (by omega) hs (fun l hl => (x8 l hl).1) x3, t_b0 (by omega) hs (fun l hl => (x8 l hl).2) x3]
    exact ⟨fun k hk => by rw [show 6 * 0 + k = k by omega]; exact all k (by omega), fun k hk => all (6 * 1 + k) (by omega)⟩
theorem s209 {h : q_Hp} {p q : Nat} (S : q_Sh h) (hp : p < 49) (hq : q < 49) : q_mI 0 209 [.ref 624, .int (nI p), .int (nI q)] h (fun z h' => h' = h ∧ z = b2i (m_dc (qL h 627 p = qL h 628 q ∧ qL h 627 (p + 49) = qL h 628 (q + 49)))) := by
  refine q_mI.of (q_recV rfl (S.ok rfl)) (fun Q fin => ?_)
  have no : ¬ (qL h 627 p = qL h 628 q ∧ qL h 627 (p + 49) = qL h 628 (q + 49)) → Q (some (.int 0)) h := fun h9 => fin _ _ ⟨rfl, by rw [m_dc_f.mpr h9]; rfl⟩
  refine b209_0 (fun c => absurd c (nI_pos (by omega))) (fun _ => b209_4 (fun c => ?_) (fun _ => b209_10 (fun c => absurd c (nI_pos (by omega))) (fun _ => b209_14 (fun _ => ?_) (fun c => absurd ((nI_ltI (b := 49) (by omega) (by decide)).mpr hq) c))))
  · have := (nI_leI (a := 49) (by decide) (by omega)).mp c
    omega
  refine b209_22 (S.ok rfl) (S.ref (v := 627) rfl) (S.ok rfl) (S.inN (n := 98) rfl (by omega) (by decide)) (S.ref (v := 628) rfl) (S.ok rfl) (S.inN (n := 98) rfl (by omega) (by decide)) (fun c => b209_64 (no ?_)) (fun c => ?_)
  · rw [nI_clamp (by omega), nI_clamp (by omega), lg_0] at c
    exact fun h9 => c h9.1
  rw [nI_clamp (by omega), nI_clamp (by omega), lg_0] at c
  have e1 : nI p + 49 = nI (p + 49) := nI_add p 49
  have e2 : nI q + 49 = nI (q + 49) := nI_add q 49
  refine b209_38 (S.ok rfl) (S.ref (v := 627) rfl) (S.ok rfl) (by rw [e1]; exact S.inN (n := 98) rfl (by omega) (by decide)) (S.ref (v := 628) rfl) (S.ok rfl) (by rw [e2]; exact S.inN (n := 98) rfl (by omega) (by decide)) (fun c2 => b209_64 (no ?_)) (fun c2 => b209_60 (fin _ _ ⟨rfl, ?_⟩))
  · rw [e1, e2, nI_clamp (by omega), nI_clamp (by omega), lg_0] at c2
    exact fun h9 => c2 h9.2
  · rw [e1, e2, nI_clamp (by omega), nI_clamp (by omega), lg_0] at c2
    rw [m_dc_t.mpr ⟨c, c2⟩]
    rfl
theorem s206 {h : q_Hp} {p q : Nat} : q_mI 0 206 [.int (nI p), .int (nI q)] h (fun z h' => h' = h ∧ z = nI (7 * p + q)) := q_mI.of (q_recS rfl) (fun Q2 fin2 => b206_0 (fin2 _ _ ⟨rfl, by rw [show nI p * 7 = nI (p * 7) from pk_mul p 7, nI_add, Nat.mul_comm]⟩))
/-- what a mate must be like, but for its being taken -/
def t_su (f g : Nat → Int32) (S : Nat) (m m' c : Nat → Nat) (i : Nat) : Prop := f (m i) = g (m' (c i)) ∧ f (12 + m i) = g (12 + m' (c i)) ∧ f (24 + m i) = g (24 + m' (c i)) ∧ ∀ j, j ≤ i → ∀ s, s < S → t_b f s (m i) (m j) = t_b g s (m' (c i)) (m' (c j)) ∧ t_b f s (m j) (m i) = t_b g s (m' (c j)) (m' (c i))
theorem s208 {h : q_Hp} {S n i x : Nat} {m m' c : Nat → Nat} {f g : Nat → Int32} (X : x_Tw h S n m m' f g) (hi : i < n) (hx : x < n) (hc : ∀ j, j < i → qA h 629 j = nI (c j) ∧ c j < n) : q_mI 1 208 [.ref 624, .int (nI i), .int (nI x)] h (fun z h' => h' = h ∧ z = b2i (m_dc (t_su f g S m m' (un c i x) i))) := by
  have X' := X
  obtain ⟨S0, x1, x2, x3, x4, x5, x6, x7, x8⟩ := X
  obtain ⟨r1, r2, _, _⟩ := x6 i hi
  obtain ⟨_, _, r3, r4⟩ := x6 x hx
  refine q_mI.of (q_recV rfl (S0.ok rfl)) (fun Q fin => ?_)
  have no : ¬ t_su f g S m m' (un c i x) i → Q (some (.int 0)) h := fun h9 => fin _ _ ⟨rfl, by rw [m_dc_f.mpr h9]; rfl⟩
  have rd : ∀ w j, (w = 625 ∨ w = 626) → j < 7 → q_mI 0 232 [.ref w, .int (nI j)] h (fun z h' => h' = h ∧ z = qA h w j) := by
    intro w j hw hj
    have := s232 (h := h) (a := w) (n := 7) (x := nI j) (by rcases hw with rfl | rfl <;> exact S0.ok rfl) (by rcases hw with rfl | rfl <;> exact S0.len rfl) (by decide)
    rw [c_at_n hj (by decide)] at this
    exact this
  refine b208_0 (S0.ok rfl) (S0.ref (v := 625) rfl) (rd 625 i (Or.inl rfl) (by omega)) (by decide) ?_
  rintro z h2 ⟨e0, rfl⟩
  subst h2
  rw [r1]
  refine b208_8 (S0.ok rfl) (S0.ref (v := 626) rfl) (rd 626 x (Or.inr rfl) (by omega)) (by decide) ?_
  rintro z h2 ⟨e0, rfl⟩
  subst h2
  rw [r3]
  refine b208_17 (S0.ok rfl) (S0.ref (v := 597) rfl) (s64 S0.dg) (by decide) ?_
  rintro z h2 ⟨e0, rfl⟩
  subst h2
  refine b208_27 (S0.ok rfl) (S0.ref (v := 622) rfl) (s64 S0.dg2) (by decide) ?_
  rintro z h2 ⟨e0, rfl⟩
  subst h2
  rw [x1, x2, d_ty_in r2, d_ty_in r4]
  refine b208_36 (fun c1 => b208_41 ?_) (fun c1 => b208_39 (no (fun h9 => c1 (by have := h9.1; rw [un_e] at this; exact this))))
  have num : ∀ k, k < 2 → (∀ Q2 : Option Value → q_Hp → Prop, (f (12 * (k + 1) + m i) = g (12 * (k + 1) + m' x) → q_wp 1 208 44 [some (.ref 624), some (.int (nI i)), some (.int (nI x)), some (.int (nI (m i))), some (.int (nI (m' x))), some (.int (nI (k + 1))), none] [] h Q2) → (¬ f (12 * (k + 1) + m i) = g (12 * (k + 1) + m' x) → Q2 (some (.int 0)) h) → q_wp 1 208 44 [some (.ref 624), some (.int (nI i)), some (.int (nI x)), some (.int (nI (m i))), some (.int (nI (m' x))), some (.int (nI k)), none] [] h Q2) := by
    intro k hk Q2 y n'
    refine b208_44 (fun c2 => ?_) (fun _ => b208_50 (S0.ok rfl) (S0.ref (v := 597) rfl) (s66 S0.dg) (by decide) ?_)
    · have := (nI_leI (a := 2) (by decide) (by omega)).mp c2
      omega
    rintro z h2 ⟨e0, rfl⟩
    subst h2
    refine b208_60 (S0.ok rfl) (S0.ref (v := 622) rfl) (s66 S0.dg2) (by decide) ?_
    rintro z h2 ⟨e0, rfl⟩
    subst h2
    rw [x1, x2, m_num r2 hk, m_num r4 hk]
    refine b208_71 (fun c3 => b208_76 ?_) (fun c3 => b208_74 (n' c3))
    rw [nI_1]
    exact y c3
  refine num 0 (by decide) Q (fun n1 => num 1 (by decide) Q (fun n2 => ?_) (fun h9 => no (fun h8 => h9 (by have := h8.2.2.1; rw [un_e] at this; exact this)))) (fun h9 => no (fun h8 => h9 (by have := h8.2.1; rw [un_e] at this; exact this)))
  refine b208_44 (fun _ => b208_82 ?_) (fun c2 => absurd (Int32.le_refl _) c2)
  have cu : ∀ j, j ≤ i → un c i x j < n := by
    intro j hj
    by_cases h9 : j = i
    · rw [h9, un_e]; exact hx
    · rw [un_n h9]; exact (hc j (by omega)).2
  have loop : ∀ r j l6, j + r = i + 1 → (∀ y, y < j → ∀ s, s < S → t_b f s (m i) (m y) = t_b g s (m' x) (m' (un c i x y)) ∧ t_b f s (m y) (m i) = t_b g s (m' (un c i x y)) (m' x)) → q_wp 1 208 85 [some (.ref 624), some (.int (nI i)), some (.int (nI x)), some (.int (nI (m i))), some (.int (nI (m' x))), some (.int (nI j)), l6] [] h Q := by
    intro r
    induction r with
    | zero =>
      intro j l6 hj hy
      obtain rfl : j = i + 1 := by omega
      refine b208_85 (fun _ => b208_163 (fin _ _ ⟨rfl, ?_⟩)) (fun c2 => absurd ((nI_ltI (by omega) (by omega)).mpr (by omega)) c2)
      rw [m_dc_t.mpr]
      · rfl
      · refine ⟨by rw [un_e]; exact c1, by rw [un_e]; exact n1, by rw [un_e]; exact n2, fun y hy' => ?_⟩
        rw [un_e]
        exact hy y (by omega)
    | succ r ih =>
      intro j l6 hj hy
      have ji : j ≤ i := by omega
      refine b208_85 (fun c2 => ?_) (fun _ => b208_91 (fun c2 => ?_) (fun _ => ?_))
      · have := (nI_ltI (by omega) (by omega)).mp c2
        omega
      · have := (nI_leI (a := 7) (by decide) (by omega)).mp c2
        omega
      have cj := cu j ji
      have go : q_wp 1 208 115 [some (.ref 624), some (.int (nI i)), some (.int (nI x)), some (.int (nI (m i))), some (.int (nI (m' x))), some (.int (nI j)), l6] [.int (nI (un c i x j))] h Q := by
        refine b208_115 s206 (by decide) ?_
        rintro z h2 ⟨e0, rfl⟩
        subst h2
        refine b208_124 s206 (by decide) ?_
        rintro z h2 ⟨e0, rfl⟩
        subst h2
        refine b208_130 (s209 S0 (by omega) (by omega)) (by decide) ?_
        rintro z h2 ⟨e0, rfl⟩
        subst h2
        have l1 := t_lk X' (show j < n by omega) hi cj hx
        have l2 := t_lk X' hi (show j < n by omega) hx cj
        refine b208_133 (fun c2 => b208_155 (no (fun h9 => ?_))) (fun c2 => b208_136 s206 (by decide) ?_)
        · refine m_dc_f.mp (b2i_eq.mp c2) (l1.mpr (fun s hs => ?_))
          have := (h9.2.2.2 j ji s hs).2
          rw [un_e] at this
          exact this
        rintro z h2 ⟨e0, rfl⟩
        subst h2
        refine b208_143 s206 (by decide) ?_
        rintro z h2 ⟨e0, rfl⟩
        subst h2
        refine b208_149 (s209 S0 (by omega) (by omega)) (by decide) ?_
        rintro z h2 ⟨e0, rfl⟩
        subst h2
        refine b208_152 (fun c3 => b208_157 ?_) (fun c3 => b208_155 (no (fun h9 => ?_)))
        · rw [nI_1]
          refine ih (j + 1) _ (by omega) (fun y hy' => ?_)
          by_cases h9 : y = j
          · subst h9
            exact fun s hs => ⟨l2.mp (m_dc_t.mp (b2i_ne.mp c3)) s hs, l1.mp (m_dc_t.mp (b2i_ne.mp c2)) s hs⟩
          · exact hy y (by omega)
        · refine m_dc_f.mp (b2i_eq.mp c3) (l2.mpr (fun s hs => ?_))
          have := (h9.2.2.2 j ji s hs).1
          rw [un_e] at this
          exact this
      refine b208_98 (fun c2 => b208_108 (S0.ok rfl) (S0.ref (v := 629) rfl) (S0.ok rfl) (S0.inN (n := 7) rfl (by omega) (by decide)) ?_) (fun c2 => b208_104 ?_)
      · have h9 : ¬ j = i := fun h8 => c2 (by rw [h8])
        rw [nI_clamp (by omega), (hc j (by omega)).1]
        rw [un_n h9] at go
        exact go
      · have h9 := (nI_eq (by omega) (by omega)).mp c2
        rw [h9, un_e] at go
        rw [h9]
        exact go
  exact loop (i + 1) 0 none (by omega) (fun y hy => by omega)
theorem t_fit_su {f g : Nat → Int32} {S i : Nat} {m m' c : Nat → Nat} : t_fit f g S m m' c i ↔ t_su f g S m m' c i ∧ ∀ j, j < i → ¬ c j = c i := ⟨fun h => ⟨⟨h.1, h.2.1, h.2.2.1, h.2.2.2.2⟩, h.2.2.2.1⟩, fun h => ⟨h.1.1, h.1.2.1, h.1.2.2.1, h.2, h.1.2.2.2⟩⟩
/-- the bits of the mates that are taken -/
def t_us (x : Int32) (c : Nat → Nat) (i : Nat) : Prop := ∀ b, b < 32 → (bt x b = true ↔ ∃ j, j < i ∧ c j = b)
theorem s207 {S n : Nat} {m m' : Nat → Nat} {f g : Nat → Int32} : ∀ (r i : Nat) (h : q_Hp) (c : Nat → Nat), i + r = 7 → i ≤ n → x_Tw h S n m m' f g → (∀ j, j < i → qA h 629 j = nI (c j) ∧ c j < n) → t_us (qI h 624 8) c i → q_mI (r + 3) 207 [.ref 624, .int (nI i)] h (fun z h' => q_Ef [624, 629] h h' ∧ z = b2i (m_dc (t_sol f g S m m' n i c)) ∧ (z = 0 → qI h' 624 6 = qI h 624 6 ∧ qI h' 624 8 = qI h 624 8 ∧ ∀ j, j < i → qA h' 629 j = qA h 629 j)) := by
  intro r
  induction r with
  | zero =>
    intro i h c hr hin X hc hu
    have n7 := X.2.2.2.2.1
    have S0 := X.1
    obtain rfl : i = n := by omega
    refine q_mI.of (q_recV rfl (S0.ok rfl)) (fun Q fin => ?_)
    refine b207_0 (S0.ok rfl) (fun _ => b207_14 (fin _ _ ⟨q_Ef.rf, by rw [m_dc_t.mpr t_sol_n]; rfl, fun h9 => absurd h9 (by decide)⟩)) (fun c1 => absurd (by rw [X.2.2.2.2.2.1]; exact Int32.le_refl _) c1)
  | succ r ih =>
    intro i h c hr hin X hc hu
    have S0 := X.1
    have n7 := X.2.2.2.2.1
    have i6 := X.2.2.2.2.2.1
    refine q_mI.of (q_recV rfl (S0.ok rfl)) (fun Q fin => ?_)
    by_cases hlt : i < n
    · refine b207_0 (S0.ok rfl) (fun c1 => ?_) (fun _ => b207_8 (fun _ => b207_16 ?_) (fun c1 => absurd ((nI_ltI (b := 7) (by omega) (by decide)).mpr (by omega)) c1))
      · rw [i6] at c1
        have := (nI_leI (by omega) (by omega)).mp c1
        omega
      have loop : ∀ q x hi, x + q = n → q_Ef [624, 629] h hi → qI hi 624 6 = qI h 624 6 → qI hi 624 8 = qI h 624 8 → (∀ j, j < i → qA hi 629 j = qA h 629 j) → (∀ y, y < x → ¬ (t_fit f g S m m' (un c i y) i ∧ t_sol f g S m m' n (i + 1) (un c i y))) → q_wp (r + 1 + 3) 207 18 [some (.ref 624), some (.int (nI i)), some (.int (nI x))] [] hi Q := by
        intro q
        induction q with
        | zero =>
          intro x hi hq e e6 e8 e9 hy
          obtain rfl : x = n := by omega
          have Xi := X.fr e rfl e6
          have Si := Xi.1
          refine b207_18 (Si.ok rfl) (fun _ => b207_97 (fin _ _ ⟨e, ?_, fun _ => ⟨e6, e8, e9⟩⟩)) (fun c1 => absurd (by rw [e6, i6]; exact Int32.le_refl _) c1)
          rw [m_dc_f.mpr]
          · rfl
          · rw [t_sol_s hlt]
            rintro ⟨y, hy1, hy2⟩
            exact hy y hy1 hy2
        | succ q ihq =>
          intro x hi hq e e6 e8 e9 hy
          have Xi := X.fr e rfl e6
          have Si := Xi.1
          have more : ∀ h2, q_Ef [624, 629] h h2 → qI h2 624 6 = qI h 624 6 → qI h2 624 8 = qI h 624 8 → (∀ j, j < i → qA h2 629 j = qA h 629 j) → ¬ (t_fit f g S m m' (un c i x) i ∧ t_sol f g S m m' n (i + 1) (un c i x)) → q_wp (r + 1 + 3) 207 91 [some (.ref 624), some (.int (nI i)), some (.int (nI x))] [] h2 Q := by
            intro h2 f1 f6 f8 f9 hno
            refine b207_91 ?_
            rw [nI_1]
            refine ihq (x + 1) h2 (by omega) f1 f6 f8 f9 (fun y hy1 => ?_)
            by_cases h9 : y = x
            · rw [h9]; exact hno
            · exact hy y (by omega)
          refine b207_18 (Si.ok rfl) (fun c1 => ?_) (fun _ => b207_26 (Si.ok rfl) (fun c1 => more hi e e6 e8 e9 ?_) (fun c1 => ?_))
          · rw [e6, i6] at c1
            have := (nI_leI (by omega) (by omega)).mp c1
            omega
          · rw [e8] at c1
            have hb : bt (qI h 624 8) x = true := by
              cases h9 : bt (qI h 624 8) x with
              | true => rfl
              | false => exact absurd ((bi_z (by omega)).mpr h9) c1
            obtain ⟨j, hj, ej⟩ := (hu x (by omega)).mp hb
            rintro ⟨h9, _⟩
            refine h9.2.2.2.1 j hj ?_
            rw [un_e, un_n (by omega)]
            exact ej
          rw [e8] at c1
          have hb := (bi_z (show x < 32 by omega)).mp c1
          have hcx : ∀ j, j < i → ¬ c j = x := fun j hj ej => by
            have := (hu x (by omega)).mpr ⟨j, hj, ej⟩
            rw [hb] at this
            cases this
          refine b207_37 (s208 (c := c) Xi hlt (by omega) (fun j hj => by rw [e9 j hj]; exact hc j hj)) (by omega) ?_
          rintro z h2 ⟨e0, rfl⟩
          subst h2
          refine b207_43 (fun c2 => more hi e e6 e8 e9 (fun h9 => m_dc_f.mp (b2i_eq.mp c2) (t_fit_su.mp h9.1).1)) (fun c2 => ?_)
          have su := m_dc_t.mp (b2i_ne.mp c2)
          have fit : t_fit f g S m m' (un c i x) i := t_fit_su.mpr ⟨su, fun j hj => by rw [un_e, un_n (by omega)]; exact hcx j hj⟩
          -- this one is taken
          have f1 : q_Ef [624, 629] hi (q_sI (q_sA hi 629 i (nI x)) 624 8 ((qI hi 624 8) ||| (1 <<< (nI x &&& 31)))) := (q_Ef.sA (by decide)).trans (q_Ef.sI (by decide))
          have f6 : qI (q_sI (q_sA hi 629 i (nI x)) 624 8 ((qI hi 624 8) ||| (1 <<< (nI x &&& 31)))) 624 6 = qI hi 624 6 := rfl
          have f8 : qI (q_sI (q_sA hi 629 i (nI x)) 624 8 ((qI hi 624 8) ||| (1 <<< (nI x &&& 31)))) 624 8 = (qI hi 624 8) ||| (1 <<< (nI x &&& 31)) := rfl
          have f9 : qA (q_sI (q_sA hi 629 i (nI x)) 624 8 ((qI hi 624 8) ||| (1 <<< (nI x &&& 31)))) 629 = upd (qA hi 629) i (nI x) := by
            show qA (q_sA hi 629 i (nI x)) 629 = _
            rw [qA_sAu]
          have hh : q_sI (q_sA hi 629 (nI i : Int32).toNatClampNeg (nI x)) 624 8 ((qI hi 624 8) ||| (1 <<< (nI x &&& 31))) = q_sI (q_sA hi 629 i (nI x)) 624 8 ((qI hi 624 8) ||| (1 <<< (nI x &&& 31))) := by rw [nI_clamp (by omega)]
          generalize q_sI (q_sA hi 629 i (nI x)) 624 8 ((qI hi 624 8) ||| (1 <<< (nI x &&& 31))) = h3 at f1 f6 f8 f9 hh
          have X3 : x_Tw h3 S n m m' f g := Xi.fr f1 rfl f6
          have hc3 := ih (i + 1) h3 (un c i x) (by omega) (by omega) X3 (fun j hj => by
            rw [f9]
            by_cases h9 : j = i
            · rw [h9, upd_eq, un_e]
              exact ⟨rfl, by omega⟩
            · rw [upd_ne h9, un_n h9, e9 j (by omega)]
              exact hc j (by omega)) (fun b hb' => by
            rw [f8, e8, bi_add (by omega) hb', Bool.or_eq_true, hu b hb', decide_eq_true_eq]
            constructor
            · rintro (⟨j, hj, ej⟩ | h9)
              · exact ⟨j, by omega, by rw [un_n (by omega)]; exact ej⟩
              · exact ⟨i, by omega, by rw [un_e]; exact h9.symm⟩
            · rintro ⟨j, hj, ej⟩
              by_cases h9 : j = i
              · rw [h9, un_e] at ej
                exact Or.inr ej.symm
              · rw [un_n h9] at ej
                exact Or.inl ⟨j, by omega, ej⟩)
          rw [← hh, ← nI_1] at hc3
          refine b207_46 (v0 := 629) (Si.ok rfl) (Si.ref rfl) (Si.ok rfl) (Si.inN (n := 7) rfl (by omega) (by decide)) hc3 (by omega) ?_
          rw [hh]
          rintro z h4 ⟨g1, rfl, g2⟩
          have e4 : q_Ef [624, 629] h h4 := (e.trans f1).trans g1
          refine b207_72 (fun c3 => ?_) (fun c3 => b207_75 (fin _ _ ⟨e4, ?_, fun h9 => absurd h9 (by decide)⟩))
          · obtain ⟨k6, k8, k9⟩ := g2 c3
            have S4 := e4.sh S0
            refine b207_77 (S4.ok rfl) (more _ (e4.trans (q_Ef.sI (by decide))) ?_ ?_ (fun j hj => ?_) (fun h9 => m_dc_f.mp (b2i_eq.mp c3) h9.2))
            · show qI h4 624 6 = _
              rw [k6, f6, e6]
            · show (qI h4 624 8) &&& ((1 <<< (nI x &&& 31)) ^^^ (-1)) = qI h 624 8
              rw [k8, f8, e8]
              refine b_ext (fun b hb' => ?_)
              rw [b_and, b_or, b_xor, bi_sh (by omega) hb', b_m1 b hb']
              by_cases h9 : b = x
              · rw [h9, hb]; simp
              · simp [h9]
            · show qA h4 629 j = _
              rw [k9 j (by omega), f9, upd_ne (by omega), e9 j hj]
          · rw [m_dc_t.mpr]
            · rfl
            · rw [t_sol_s hlt]
              exact ⟨x, by omega, fit, m_dc_t.mp (b2i_ne.mp c3)⟩
      exact loop n 0 h (by omega) q_Ef.rf rfl rfl (fun _ _ => rfl) (fun y hy => by omega)
    · obtain rfl : i = n := by omega
      refine b207_0 (S0.ok rfl) (fun _ => b207_14 (fin _ _ ⟨q_Ef.rf, by rw [m_dc_t.mpr t_sol_n]; rfl, fun h9 => absurd h9 (by decide)⟩)) (fun c1 => absurd (by rw [i6]; exact Int32.le_refl _) c1)
