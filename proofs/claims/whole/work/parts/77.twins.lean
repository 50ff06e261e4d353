/-! WHETHER TWO DIAGRAMS ARE ALIKE, without cells -/
def t_ls (f : Nat → Int32) : Nat → List Nat
  | 0 => []
  | m + 1 => if f m = -1 then t_ls f m else t_ls f m ++ [m]
theorem l_gl {L M : List Nat} {i : Nat} (h : i < L.length) : (L ++ M).getD i 0 = L.getD i 0 := by
  rw [List.getD_eq_getElem?_getD, List.getD_eq_getElem?_getD, List.getElem?_append_left h]
theorem l_gr {L : List Nat} {x : Nat} : (L ++ [x]).getD L.length 0 = x := by
  rw [List.getD_eq_getElem?_getD, List.getElem?_append_right (Nat.le_refl _), Nat.sub_self]
  rfl
theorem t_ls_len {f : Nat → Int32} : ∀ m, (t_ls f m).length = q_cnt (fun i => !(f i == -1)) m := by
  intro m
  induction m with
  | zero => rfl
  | succ m ih =>
    rw [q_cnt_s]
    unfold t_ls
    by_cases h : f m = -1
    · rw [if_pos h, ih, h]
      rfl
    · rw [if_neg h, List.length_append, ih, if_pos (by rw [beq_eq_false_iff_ne.mpr h]; rfl)]
      rfl
theorem t_ls_get {f : Nat → Int32} : ∀ m i, i < (t_ls f m).length → (t_ls f m).getD i 0 < m ∧ ¬ f ((t_ls f m).getD i 0) = -1 := by
  intro m
  induction m with
  | zero => intro i hi; exact absurd hi (Nat.not_lt_zero _)
  | succ m ih =>
    intro i hi
    unfold t_ls at hi ⊢
    by_cases h : f m = -1
    · rw [if_pos h] at hi ⊢
      exact ⟨by have := (ih i hi).1; omega, (ih i hi).2⟩
    · rw [if_neg h] at hi ⊢
      rw [List.length_append] at hi
      by_cases h2 : i < (t_ls f m).length
      · rw [l_gl h2]
        exact ⟨by have := (ih i h2).1; omega, (ih i h2).2⟩
      · have e : i = (t_ls f m).length := by
          have : [m].length = 1 := rfl
          omega
        rw [e, l_gr]
        exact ⟨Nat.lt_succ_self _, h⟩
theorem t_ls_lt {f : Nat → Int32} : ∀ m i j, i < j → j < (t_ls f m).length → (t_ls f m).getD i 0 < (t_ls f m).getD j 0 := by
  intro m
  induction m with
  | zero => intro i j _ hj; exact absurd hj (Nat.not_lt_zero _)
  | succ m ih =>
    intro i j hij hj
    unfold t_ls at hj ⊢
    by_cases h : f m = -1
    · rw [if_pos h] at hj ⊢
      exact ih i j hij hj
    · rw [if_neg h] at hj ⊢
      rw [List.length_append] at hj
      have l1 : [m].length = 1 := rfl
      by_cases h2 : j < (t_ls f m).length
      · rw [l_gl (show i < (t_ls f m).length by omega), l_gl h2]
        exact ih i j hij h2
      · have e : j = (t_ls f m).length := by omega
        rw [e, l_gr, l_gl (show i < (t_ls f m).length by omega)]
        exact (t_ls_get m i (by omega)).1
theorem t_ls_inj {f : Nat → Int32} {m i j : Nat} (hi : i < (t_ls f m).length) (hj : j < (t_ls f m).length) (e : (t_ls f m).getD i 0 = (t_ls f m).getD j 0) : i = j := by
  rcases Nat.lt_trichotomy i j with h | h | h
  · have := t_ls_lt m i j h hj; omega
  · exact h
  · have := t_ls_lt m j i h hi; omega
theorem t_ls_ix {f : Nat → Int32} : ∀ m x, x < m → ¬ f x = -1 → ∃ i, i < (t_ls f m).length ∧ (t_ls f m).getD i 0 = x := by
  intro m
  induction m with
  | zero => intro x hx; exact absurd hx (Nat.not_lt_zero _)
  | succ m ih =>
    intro x hx hf
    unfold t_ls
    by_cases h : f m = -1
    · rw [if_pos h]
      by_cases hxm : x = m
      · rw [hxm] at hf; exact absurd h hf
      · exact ih x (by omega) hf
    · rw [if_neg h]
      by_cases hxm : x = m
      · refine ⟨(t_ls f m).length, by rw [List.length_append]; exact Nat.lt_succ_self _, ?_⟩
        rw [l_gr, hxm]
      · obtain ⟨i, hi, e⟩ := ih x (by omega) hf
        exact ⟨i, by rw [List.length_append]; omega, by rw [l_gl hi]; exact e⟩
/-- how many links of a sort, from and to -/
def t_bL (f : Nat → Int32) (s a b L : Nat) : Nat := q_cnt (fun l => f (36 + l) == nI s && f (76 + l) == nI a && f (116 + l) == nI b) L
abbrev t_b (f : Nat → Int32) (s a b : Nat) : Nat := t_bL f s a b 40
def t_fit (f g : Nat → Int32) (S : Nat) (m m' : Nat → Nat) (c : Nat → Nat) (i : Nat) : Prop := f (m i) = g (m' (c i)) ∧ f (12 + m i) = g (12 + m' (c i)) ∧ f (24 + m i) = g (24 + m' (c i)) ∧ (∀ j, j < i → ¬ c j = c i) ∧ ∀ j, j ≤ i → ∀ s, s < S → t_b f s (m i) (m j) = t_b g s (m' (c i)) (m' (c j)) ∧ t_b f s (m j) (m i) = t_b g s (m' (c j)) (m' (c i))
/-- the first i of a choice can be gone on with -/
def t_sol (f g : Nat → Int32) (S : Nat) (m m' : Nat → Nat) (n i : Nat) (c : Nat → Nat) : Prop := ∃ c' : Nat → Nat, (∀ j, j < i → c' j = c j) ∧ ∀ j, i ≤ j → j < n → c' j < n ∧ t_fit f g S m m' c' j
theorem t_fit_ext {f g : Nat → Int32} {S i : Nat} {m m' c c' : Nat → Nat} (e : ∀ j, j ≤ i → c' j = c j) (h : t_fit f g S m m' c i) : t_fit f g S m m' c' i := by
  obtain ⟨h1, h2, h3, h4, h5⟩ := h
  have ei := e i (Nat.le_refl _)
  refine ⟨by rw [ei]; exact h1, by rw [ei]; exact h2, by rw [ei]; exact h3, fun j hj => ?_, fun j hj s hs => ?_⟩
  · rw [ei, e j (by omega)]
    exact h4 j hj
  · rw [ei, e j hj]
    exact h5 j hj s hs
theorem t_sol_n {f g : Nat → Int32} {S n : Nat} {m m' c : Nat → Nat} : t_sol f g S m m' n n c := ⟨c, fun _ _ => rfl, fun j h1 h2 => by omega⟩
/-- one more is chosen -/
theorem t_sol_s {f g : Nat → Int32} {S n i : Nat} {m m' c : Nat → Nat} (hi : i < n) : t_sol f g S m m' n i c ↔ ∃ x, x < n ∧ t_fit f g S m m' (un c i x) i ∧ t_sol f g S m m' n (i + 1) (un c i x) := by
  constructor
  · rintro ⟨c', h1, h2⟩
    have e : ∀ j, j ≤ i → un c i (c' i) j = c' j := by
      intro j hj
      by_cases h : j = i
      · rw [h, un_e]
      · rw [un_n h]
        exact (h1 j (by omega)).symm
    refine ⟨c' i, (h2 i (Nat.le_refl _) hi).1, t_fit_ext e (h2 i (Nat.le_refl _) hi).2, c', fun j hj => (e j (by omega)).symm, fun j hj => h2 j (by omega)⟩
  · rintro ⟨x, hx, hf, c', h1, h2⟩
    refine ⟨c', fun j hj => by rw [h1 j (by omega), un_n (by omega)], fun j hj hn => ?_⟩
    by_cases h : j = i
    · subst h
      rw [h1 j (by omega), un_e]
      exact ⟨hx, t_fit_ext (fun k hk => h1 k (by omega)) hf⟩
    · exact h2 j (by omega) hn
theorem t_sol_ext {f g : Nat → Int32} {S n i : Nat} {m m' c d : Nat → Nat} (e : ∀ j, j < i → d j = c j) (h : t_sol f g S m m' n i c) : t_sol f g S m m' n i d := by
  obtain ⟨c', h1, h2⟩ := h
  exact ⟨c', fun j hj => by rw [e j hj]; exact h1 j hj, h2⟩
def t_sum (F : Nat → Nat) : Nat → Nat
  | 0 => 0
  | n + 1 => t_sum F n + F n
theorem t_sum_ext {F G : Nat → Nat} : ∀ n, (∀ i, i < n → F i = G i) → t_sum F n = t_sum G n := by
  intro n
  induction n with
  | zero => intro _; rfl
  | succ n ih =>
    intro h
    unfold t_sum
    rw [ih (fun i hi => h i (by omega)), h n (by omega)]
theorem t_sum_add {F G : Nat → Nat} : ∀ n, t_sum (fun i => F i + G i) n = t_sum F n + t_sum G n := by
  intro n
  induction n with
  | zero => rfl
  | succ n ih =>
    show t_sum (fun i => F i + G i) n + (F n + G n) = t_sum F n + F n + (t_sum G n + G n)
    rw [ih]
    omega
theorem t_sum_0 {F : Nat → Nat} : ∀ n, (∀ i, i < n → F i = 0) → t_sum F n = 0 := by
  intro n
  induction n with
  | zero => intro _; rfl
  | succ n ih =>
    intro h
    unfold t_sum
    rw [ih (fun i hi => h i (by omega)), h n (by omega)]
theorem t_sum_one {F : Nat → Nat} {k : Nat} : ∀ n, k < n → (∀ i, i < n → ¬ i = k → F i = 0) → t_sum F n = F k := by
  intro n
  induction n with
  | zero => intro h _; omega
  | succ n ih =>
    intro hk h
    unfold t_sum
    by_cases e : k = n
    · rw [e, t_sum_0 n (fun i hi => h i (by omega) (by omega)), Nat.zero_add]
    · rw [ih (by omega) (fun i hi => h i (by omega)), h n (by omega) (by omega)]
      rfl
/-- counting by keys -/
theorem t_part {p : Nat → Bool} {key : Nat → Nat} {K : Nat} : ∀ N, (∀ l, l < N → p l = true → key l < K) → q_cnt p N = t_sum (fun k => q_cnt (fun l => p l && key l == k) N) K := by
  intro N
  induction N with
  | zero =>
    intro _
    exact (t_sum_0 (F := fun k => q_cnt (fun l => p l && key l == k) 0) K (fun i _ => rfl)).symm
  | succ N ih =>
    intro h
    have e : t_sum (fun k => q_cnt (fun l => p l && key l == k) (N + 1)) K = t_sum (fun k => q_cnt (fun l => p l && key l == k) N) K + t_sum (fun k => if (p N && key N == k) = true then 1 else 0) K := by
      rw [← t_sum_add]
      rfl
    rw [q_cnt_s, ih (fun l hl => h l (by omega)), e]
    congr 1
    by_cases hp : p N = true
    · rw [if_pos hp, t_sum_one (k := key N) K (h N (by omega) hp) (fun i _ hi => if_neg (fun h9 => by
        rw [hp, Bool.true_and] at h9
        exact hi (eq_of_beq h9).symm)), if_pos (by rw [hp, Bool.true_and]; exact beq_self_eq_true _)]
    · rw [if_neg hp, t_sum_0 K (fun i _ => if_neg (fun h9 => by
        rw [Bool.eq_false_iff.mpr hp] at h9
        cases h9))]
/-- all links, by their sorts and ends -/
theorem t_links {f : Nat → Int32} {S n : Nat} {M : Nat → Nat} (hS : S ≤ 12) (lt : ∀ i, i < n → M i < 12) (inj : ∀ i j, i < n → j < n → M i = M j → i = j) (H : ∀ l, l < 40 → ¬ f (36 + l) = -1 → (∃ s, s < S ∧ f (36 + l) = nI s) ∧ (∃ i, i < n ∧ f (76 + l) = nI (M i)) ∧ ∃ j, j < n ∧ f (116 + l) = nI (M j)) : d_links f = t_sum (fun s => t_sum (fun i => t_sum (fun j => t_b f s (M i) (M j)) n) n) S := by
  have C : ∀ l, ∃ s i j, l < 40 → ¬ f (36 + l) = -1 → s < S ∧ f (36 + l) = nI s ∧ i < n ∧ f (76 + l) = nI (M i) ∧ j < n ∧ f (116 + l) = nI (M j) := by
    intro l
    by_cases h : l < 40 ∧ ¬ f (36 + l) = -1
    · obtain ⟨⟨s, hs, es⟩, ⟨i, hi, ei⟩, j, hj, ej⟩ := H l h.1 h.2
      exact ⟨s, i, j, fun _ _ => ⟨hs, es, hi, ei, hj, ej⟩⟩
    · exact ⟨0, 0, 0, fun h1 h2 => absurd ⟨h1, h2⟩ h⟩
  obtain ⟨ks, hks⟩ := Classical.axiomOfChoice C
  obtain ⟨ki, hki⟩ := Classical.axiomOfChoice hks
  obtain ⟨kj, hkj⟩ := Classical.axiomOfChoice hki
  have P : ∀ l, l < 40 → (!(f (36 + l) == -1)) = true → ks l < S ∧ f (36 + l) = nI (ks l) ∧ ki l < n ∧ f (76 + l) = nI (M (ki l)) ∧ kj l < n ∧ f (116 + l) = nI (M (kj l)) := fun l hl hp => hkj l hl (fun h9 => by
    rw [h9] at hp
    cases hp)
  have e1 : d_links f = t_sum (fun s => q_cnt (fun l => !(f (36 + l) == -1) && ks l == s) 40) S := t_part 40 (fun l hl hp => (P l hl hp).1)
  rw [e1]
  refine t_sum_ext S (fun s hs => ?_)
  have e2 : q_cnt (fun l => !(f (36 + l) == -1) && ks l == s) 40 = t_sum (fun i => q_cnt (fun l => (!(f (36 + l) == -1) && ks l == s) && ki l == i) 40) n := t_part 40 (fun l hl hp => by
    rw [Bool.and_eq_true] at hp
    exact (P l hl hp.1).2.2.1)
  rw [e2]
  refine t_sum_ext n (fun i hi => ?_)
  have e3 : q_cnt (fun l => (!(f (36 + l) == -1) && ks l == s) && ki l == i) 40 = t_sum (fun j => q_cnt (fun l => ((!(f (36 + l) == -1) && ks l == s) && ki l == i) && kj l == j) 40) n := t_part 40 (fun l hl hp => by
    rw [Bool.and_eq_true, Bool.and_eq_true] at hp
    exact (P l hl hp.1.1).2.2.2.2.1)
  rw [e3]
  refine t_sum_ext n (fun j hj => ?_)
  unfold t_b t_bL
  refine q_cnt_ext (fun l hl => ?_)
  have li := lt i hi
  have lj := lt j hj
  rw [Bool.eq_iff_iff]
  simp only [Bool.and_eq_true, beq_iff_eq]
  constructor
  · rintro ⟨⟨⟨h1, rfl⟩, rfl⟩, rfl⟩
    obtain ⟨q1, q2, q3, q4, q5, q6⟩ := P l hl h1
    exact ⟨⟨q2, q4⟩, q6⟩
  · rintro ⟨⟨h1, h2⟩, h3⟩
    have hp : (!(f (36 + l) == -1)) = true := by
      rw [h1, beq_eq_false_iff_ne.mpr (q_on_ne (by omega))]
      rfl
    obtain ⟨q1, q2, q3, q4, q5, q6⟩ := P l hl hp
    refine ⟨⟨⟨hp, ?_⟩, ?_⟩, ?_⟩
    · exact (nI_eq (by omega) (by omega)).mp (q2.symm.trans h1)
    · have := lt _ q3
      exact inj _ _ q3 hi ((nI_eq (by omega) (by omega)).mp (q4.symm.trans h2))
    · have := lt _ q5
      exact inj _ _ q5 hj ((nI_eq (by omega) (by omega)).mp (q6.symm.trans h3))
/-- a choice in which no two are one takes all -/
theorem t_onto {n : Nat} {c : Nat → Nat} (lt : ∀ i, i < n → c i < n) (ne : ∀ i j, j < i → i < n → ¬ c j = c i) : ∀ a, a < n → ∃ i, i < n ∧ c i = a := by
  have key : ∀ i, i ≤ n → i ≤ q_cnt (fun a => m_dc (∃ j, j < i ∧ c j = a)) n := by
    intro i
    induction i with
    | zero => intro _; omega
    | succ i ih =>
      intro hi
      have := ih (by omega)
      have := q_cnt_lt (p := fun a => m_dc (∃ j, j < i ∧ c j = a)) (q := fun a => m_dc (∃ j, j < i + 1 ∧ c j = a)) (i := c i) n (lt i (by omega)) (fun a ha => by
        obtain ⟨j, hj, e⟩ := m_dc_t.mp ha
        exact m_dc_t.mpr ⟨j, by omega, e⟩) (m_dc_f.mpr (fun ⟨j, hj, e⟩ => ne i j hj (by omega) e)) (m_dc_t.mpr ⟨i, by omega, rfl⟩)
      omega
  have := key n (Nat.le_refl _)
  have le := q_cnt_le (fun a => m_dc (∃ j, j < n ∧ c j = a)) n
  intro a ha
  exact m_dc_t.mp (q_cnt_all (p := fun a => m_dc (∃ j, j < n ∧ c j = a)) n (by omega) a ha)
/-- what two alike diagrams share -/
theorem t_same_links {T S : Nat} {f g f' g' : Nat → Int32} (hS : S ≤ 12) (D : q_dg T S f f') (E : q_dg T S g g') (n1 : (t_ls f 12).length = (t_ls g 12).length) (h : t_sol f g S (fun i => (t_ls f 12).getD i 0) (fun i => (t_ls g 12).getD i 0) (t_ls f 12).length 0 (fun _ => 0)) : d_links f = d_links g := by
  obtain ⟨c, _, hc⟩ := h
  have lt : ∀ i, i < (t_ls f 12).length → c i < (t_ls f 12).length := fun i hi => (hc i (Nat.zero_le _) hi).1
  have ne : ∀ i j, j < i → i < (t_ls f 12).length → ¬ c j = c i := fun i j hj hi => (hc i (Nat.zero_le _) hi).2.2.2.2.1 j hj
  have onto := t_onto lt ne
  have ends : ∀ {f f' : Nat → Int32} (D : q_dg T S f f') l, l < 40 → ¬ f (36 + l) = -1 → (∃ s, s < S ∧ f (36 + l) = nI s) ∧ (∃ i, i < (t_ls f 12).length ∧ f (76 + l) = nI ((t_ls f 12).getD i 0)) ∧ ∃ j, j < (t_ls f 12).length ∧ f (116 + l) = nI ((t_ls f 12).getD j 0) := by
    intro f f' D l hl hp
    rcases D.1.2.1 l hl with h9 | ⟨h1, ⟨a, ha, ea⟩, b, hb, eb⟩
    · exact absurd h9 hp
    · have he := D.2 l hl hp
      rw [ea, eb, nI_clamp (by omega), nI_clamp (by omega)] at he
      obtain ⟨i, hi, ei⟩ := t_ls_ix 12 a ha he.1
      obtain ⟨j, hj, ej⟩ := t_ls_ix 12 b hb he.2
      exact ⟨h1, ⟨i, hi, by rw [ei]; exact ea⟩, j, hj, by rw [ej]; exact eb⟩
  have l1 := t_links (f := f) (n := (t_ls f 12).length) (M := fun i => (t_ls f 12).getD i 0) hS (fun i hi => (t_ls_get 12 i hi).1) (fun i j hi hj e => t_ls_inj hi hj e) (ends D)
  have l2 := t_links (f := g) (n := (t_ls f 12).length) (M := fun i => (t_ls g 12).getD (c i) 0) hS (fun i hi => (t_ls_get 12 _ (by rw [← n1]; exact lt i hi)).1) (fun i j hi hj e => by
    have e := t_ls_inj (by rw [← n1]; exact lt i hi) (by rw [← n1]; exact lt j hj) e
    rcases Nat.lt_trichotomy i j with h9 | h9 | h9
    · exact absurd e (ne j i h9 hj)
    · exact h9
    · exact absurd e.symm (ne i j h9 hi)) (fun l hl hp => by
    obtain ⟨h1, ⟨i, hi, ei⟩, j, hj, ej⟩ := ends E l hl hp
    rw [← n1] at hi hj
    obtain ⟨i', hi', e1⟩ := onto i hi
    obtain ⟨j', hj', e2⟩ := onto j hj
    exact ⟨h1, ⟨i', hi', by rw [e1]; exact ei⟩, j', hj', by rw [e2]; exact ej⟩)
  rw [l1, l2]
  refine t_sum_ext S (fun s hs => t_sum_ext _ (fun i hi => t_sum_ext _ (fun j hj => ?_)))
  rcases Nat.le_total j i with h9 | h9
  · exact ((hc i (Nat.zero_le _) hi).2.2.2.2.2 j h9 s hs).1
  · exact ((hc j (Nat.zero_le _) hj).2.2.2.2.2 i h9 s hs).2
/-- six counts in one number -/
def t_pk (f : Nat → Int32) (hi a b L : Nat) : Nat := t_sum (fun k => t_bL f (6 * hi + k) a b L * 64 ^ k) 6
theorem t_pk_eq {f g : Nat → Int32} {hi a b a' b' : Nat} : t_pk f hi a b 40 = t_pk g hi a' b' 40 ↔ ∀ k, k < 6 → t_b f (6 * hi + k) a b = t_b g (6 * hi + k) a' b' := by
  constructor
  · intro e
    have l1 : ∀ k, t_bL f (6 * hi + k) a b 40 ≤ 40 := fun k => q_cnt_le _ _
    have l2 : ∀ k, t_bL g (6 * hi + k) a' b' 40 ≤ 40 := fun k => q_cnt_le _ _
    have u : ∀ (F : Nat → Nat), t_sum (fun k => F k * 64 ^ k) 6 = F 0 + 64 * (F 1 + 64 * (F 2 + 64 * (F 3 + 64 * (F 4 + 64 * F 5)))) := by
      intro F
      show 0 + F 0 * 64 ^ 0 + F 1 * 64 ^ 1 + F 2 * 64 ^ 2 + F 3 * 64 ^ 3 + F 4 * 64 ^ 4 + F 5 * 64 ^ 5 = _
      omega
    unfold t_pk at e
    rw [u (fun k => t_bL f (6 * hi + k) a b 40), u (fun k => t_bL g (6 * hi + k) a' b' 40)] at e
    have f0 := l1 0; have f1 := l1 1; have f2 := l1 2; have f3 := l1 3; have f4 := l1 4; have f5 := l1 5
    have g0 := l2 0; have g1 := l2 1; have g2 := l2 2; have g3 := l2 3; have g4 := l2 4; have g5 := l2 5
    have e0 : t_bL f (6 * hi + 0) a b 40 = t_bL g (6 * hi + 0) a' b' 40 := by omega
    have e1 : t_bL f (6 * hi + 1) a b 40 = t_bL g (6 * hi + 1) a' b' 40 := by omega
    have e2 : t_bL f (6 * hi + 2) a b 40 = t_bL g (6 * hi + 2) a' b' 40 := by omega
    have e3 : t_bL f (6 * hi + 3) a b 40 = t_bL g (6 * hi + 3) a' b' 40 := by omega
    have e4 : t_bL f (6 * hi + 4) a b 40 = t_bL g (6 * hi + 4) a' b' 40 := by omega
    have e5 : t_bL f (6 * hi + 5) a b 40 = t_bL g (6 * hi + 5) a' b' 40 := by omega
    intro k hk
    rcases (show k = 0 ∨ k = 1 ∨ k = 2 ∨ k = 3 ∨ k = 4 ∨ k = 5 by omega) with rfl | rfl | rfl | rfl | rfl | rfl
    · exact e0
    · exact e1
    · exact e2
    · exact e3
    · exact e4
    · exact e5
  · intro h
    unfold t_pk
    refine t_sum_ext 6 (fun k hk => ?_)
    have := h k hk
    unfold t_b at this
    rw [this]
theorem t_pk_lt {f : Nat → Int32} {hi a b L : Nat} (hL : L ≤ 40) : t_pk f hi a b L < 2 ^ 40 := by
  have l1 : ∀ k, t_bL f (6 * hi + k) a b L ≤ 40 := fun k => Nat.le_trans (q_cnt_le _ _) hL
  have f0 := l1 0; have f1 := l1 1; have f2 := l1 2; have f3 := l1 3; have f4 := l1 4; have f5 := l1 5
  show 0 + t_bL f (6 * hi + 0) a b L * 64 ^ 0 + t_bL f (6 * hi + 1) a b L * 64 ^ 1 + t_bL f (6 * hi + 2) a b L * 64 ^ 2 + t_bL f (6 * hi + 3) a b L * 64 ^ 3 + t_bL f (6 * hi + 4) a b L * 64 ^ 4 + t_bL f (6 * hi + 5) a b L * 64 ^ 5 < 2 ^ 40
  omega
theorem t_bL_s {f : Nat → Int32} {s a b L : Nat} : t_bL f s a b (L + 1) = t_bL f s a b L + (if f (36 + L) = nI s ∧ f (76 + L) = nI a ∧ f (116 + L) = nI b then 1 else 0) := by
  unfold t_bL
  rw [q_cnt_s]
  congr 1
  by_cases h : f (36 + L) = nI s ∧ f (76 + L) = nI a ∧ f (116 + L) = nI b
  · rw [if_pos h, h.1, h.2.1, h.2.2, if_pos (by simp)]
  · rw [if_neg h, if_neg]
    simp only [Bool.and_eq_true, beq_iff_eq]
    rintro ⟨⟨h1, h2⟩, h3⟩
    exact h ⟨h1, h2, h3⟩
/-- a link that is none of these -/
theorem t_pk_no {f : Nat → Int32} {hi a b L : Nat} (h : ∀ k, k < 6 → ¬ (f (36 + L) = nI (6 * hi + k) ∧ f (76 + L) = nI a ∧ f (116 + L) = nI b)) : t_pk f hi a b (L + 1) = t_pk f hi a b L := by
  unfold t_pk
  refine t_sum_ext 6 (fun k hk => ?_)
  rw [t_bL_s, if_neg (h k hk)]
  rfl
theorem t_pk_yes {f : Nat → Int32} {hi k a b L : Nat} (hk : k < 6) (hh : hi < 2) (h : f (36 + L) = nI (6 * hi + k) ∧ f (76 + L) = nI a ∧ f (116 + L) = nI b) : t_pk f hi a b (L + 1) = t_pk f hi a b L + 64 ^ k := by
  have e : t_pk f hi a b (L + 1) = t_sum (fun j => t_bL f (6 * hi + j) a b L * 64 ^ j + (if j = k then 64 ^ k else 0)) 6 := by
    unfold t_pk
    refine t_sum_ext 6 (fun j hj => ?_)
    rw [t_bL_s, Nat.add_mul]
    congr 1
    by_cases hjk : j = k
    · rw [hjk, if_pos h, if_pos rfl, Nat.one_mul]
    · rw [if_neg hjk, if_neg, Nat.zero_mul]
      rintro ⟨h1, _⟩
      have := (nI_eq (by omega) (by omega)).mp (h.1.symm.trans h1)
      omega
  rw [e, t_sum_add, t_sum_one (F := fun j => if j = k then 64 ^ k else 0) 6 hk (fun i _ hi => if_neg hi), if_pos rfl]
  rfl
