/-! THE MATCHER: rules as cells, and its small methods -/
def q_isO (o : Nat) : Prop := ∃ b r, q_isB b ∧ r < 20 ∧ o = b + 9 + 14 * r
/-- the lengths of a rule's rows -/
def o_len (j : Nat) : Nat := [4, 2, 2, 12, 12, 12, 4, 8, 8, 8, 8, 16, 16].getD j 0
theorem o_key : ∀ r, r < 20 → ∀ b, b = 11 ∨ b = 300 → q_kd0 (b + 9 + 14 * r) = (6, 20) ∧ ∀ j, j < 13 → q_kd0 (b + 9 + 14 * r + 1 + j) = (20, o_len j) ∧ q_fr0 (b + 9 + 14 * r) (7 + j) = b + 9 + 14 * r + 1 + j ∧ q_mut (b + 9 + 14 * r) (7 + j) = false := by
  have h1 : ∀ r, r < 20 → q_kd0 (11 + 9 + 14 * r) = (6, 20) ∧ ∀ j, j < 13 → q_kd0 (11 + 9 + 14 * r + 1 + j) = (20, o_len j) ∧ q_fr0 (11 + 9 + 14 * r) (7 + j) = 11 + 9 + 14 * r + 1 + j ∧ q_mut (11 + 9 + 14 * r) (7 + j) = false := by decide +kernel
  have h2 : ∀ r, r < 20 → q_kd0 (300 + 9 + 14 * r) = (6, 20) ∧ ∀ j, j < 13 → q_kd0 (300 + 9 + 14 * r + 1 + j) = (20, o_len j) ∧ q_fr0 (300 + 9 + 14 * r) (7 + j) = 300 + 9 + 14 * r + 1 + j ∧ q_mut (300 + 9 + 14 * r) (7 + j) = false := by decide +kernel
  rintro r hr b (rfl | rfl)
  · exact h1 r hr
  · exact h2 r hr
theorem q_isO.le {o : Nat} (ho : q_isO o) : 20 ≤ o ∧ o ≤ 575 := by
  obtain ⟨b, r, hb, hr, rfl⟩ := ho
  have : b = 11 ∨ b = 300 := hb
  omega
theorem q_Sh.oo {h : q_Hp} (S : q_Sh h) {o : Nat} (ho : q_isO o) : q_ok h o 6 := by
  have hl := ho.le
  obtain ⟨b, r, hb, hr, rfl⟩ := ho
  have k := (o_key r hr b hb).1
  exact S.ok (by rw [k]; simp only [Bool.and_eq_true, decide_eq_true_eq]; exact ⟨⟨by omega, by omega⟩, rfl⟩)
theorem q_Sh.orr {h : q_Hp} (S : q_Sh h) {o : Nat} (ho : q_isO o) (j : Nat) (hj : j < 13) : qR h o (7 + j) = o + 1 + j := by
  have hl := ho.le
  obtain ⟨b, r, hb, hr, rfl⟩ := ho
  have k := (o_key r hr b hb).2 j hj
  exact S.ref (by rw [k.2.1, k.2.2]; simp only [Bool.and_eq_true, decide_eq_true_eq]; exact ⟨⟨⟨by omega, rfl⟩, by simp⟩, by omega⟩)
theorem q_Sh.oa {h : q_Hp} (S : q_Sh h) {o : Nat} (ho : q_isO o) (j : Nat) (hj : j < 13) : q_ok h (o + 1 + j) 20 ∧ (qK h (o + 1 + j)).2 = o_len j := by
  have hl := ho.le
  obtain ⟨b, r, hb, hr, rfl⟩ := ho
  have k := ((o_key r hr b hb).2 j hj).1
  exact ⟨S.ok (by rw [k]; simp only [Bool.and_eq_true, decide_eq_true_eq]; exact ⟨⟨by omega, by omega⟩, rfl⟩), S.len (by rw [k]; simp only [Bool.and_eq_true, decide_eq_true_eq]; exact ⟨by omega, by simp⟩)⟩
theorem q_Sh.oi {h : q_Hp} (S : q_Sh h) {o : Nat} (ho : q_isO o) (j : Nat) (hj : j < 13) {i : Nat} (hi : i < o_len j) : q_in (nI i) (qK h (o + 1 + j)).2 := by
  have h1 : o_len j ≤ 16 := by
    have : ∀ j, j < 13 → o_len j ≤ 16 := by decide
    exact this j hj
  exact q_inN (by rw [(S.oa ho j hj).2]; exact hi) (by rw [(S.oa ho j hj).2]; omega)
theorem q_ru_in {b r : Nat} (hr : r < 20) : q_ru b (nI r) = b + 9 + 14 * r := by
  unfold q_ru
  rw [if_pos (q_rgN hr (by decide)), nI_clamp (by omega)]
theorem s107 {h : q_Hp} {k : Int32} {x y : Int64} : q_mJ 0 107 [.int k, .long x, .long y] h (fun z h' => h' = h ∧ z = if k = 3 then x + y else if k = 4 then x - y else x * y) := by
  refine ⟨q_recS rfl, ?_⟩
  refine b107_0 (fun c1 => b107_9 (fun c2 => b107_20 ⟨_, rfl, rfl, ?_⟩) (fun c2 => b107_14 ⟨_, rfl, rfl, ?_⟩)) (fun c1 => b107_5 ⟨_, rfl, rfl, ?_⟩)
  · rw [if_neg c1, if_neg c2]
  · rw [if_neg c1, if_pos c2]
  · rw [if_pos c1]
/-- a row of ints that is filled -/
theorem s352 {h : q_Hp} {a n : Nat} {x : Int32} (ha : q_ok h a 20) (hl : (qK h a).2 = n) (hn : n < 2 ^ 31) : q_mV 0 352 [.ref a, .int x] h (fun h' => ∃ g : Nat → Int32, h' = q_wA h a g ∧ ∀ i, i < n → g i = x) := by
  refine ⟨q_recS rfl, ?_⟩
  have e0 : Int32.ofNat (qK h a).2 = nI n := by rw [hl]; rfl
  have loop : ∀ m i (g : Nat → Int32), i + m = n → (∀ j, j < i → g j = x) → q_wp 0 352 5 [some (.ref a), some (.int x), some (.int (nI i)), some (.int (nI n))] [] (q_wA h a g) (fun r h' => r = none ∧ ∃ g : Nat → Int32, h' = q_wA h a g ∧ ∀ i, i < n → g i = x) := by
    intro m
    induction m with
    | zero =>
      intro i g hi hg
      obtain rfl : i = n := by omega
      exact b352_5 (fun _ => b352_20 ⟨rfl, g, rfl, hg⟩) (fun h1 => absurd (Int32.le_refl _) h1)
    | succ m ih =>
      intro i g hi hg
      refine b352_5 (fun h1 => absurd ((nI_leI (by omega) (by omega)).mp h1) (by omega)) (fun _ => b352_10 ha (q_inN (by show i < (qK h a).2; omega) (by show (qK h a).2 < _; omega)) ?_)
      rw [nI_1, nI_clamp (by omega), q_sA_wA']
      refine ih (i + 1) _ (by omega) (fun j hj => ?_)
      unfold upd
      by_cases h2 : j = i
      · rw [if_pos h2]
      · rw [if_neg h2]
        exact hg j (by omega)
  have := loop n 0 (qA h a) (by omega) (fun j hj => by omega)
  rw [q_wA_self] at this
  refine b352_0 ha (by decide) ?_
  rw [e0]
  exact this
/-- what the matcher has at hand: its book and its rule -/
def q_Mt (h : q_Hp) (b o : Nat) : Prop := q_Sh h ∧ q_isB b ∧ q_isO o ∧ qR h 601 1 = b ∧ qR h 601 2 = o
theorem s97 {h : q_Hp} {b o i j : Nat} (M : q_Mt h b o) (hi : i < 32) (hj : j < 32) : q_mI 0 97 [.ref 601, .int (nI i), .int (nI j)] h (fun z h' => h' = h ∧ z = b2i (!(qI h o 6 == 0) && !(bt (qI h o 5) i) && !(bt (qI h o 5) j))) := by
  obtain ⟨S, hb, ho, e1, e2⟩ := M
  refine ⟨q_recV rfl (S.ok rfl), ?_⟩
  have key : qI h o 5 &&& ((1 : Int32) <<< (nI i &&& 31) ||| (1 : Int32) <<< (nI j &&& 31)) = 0 ↔ bt (qI h o 5) i = false ∧ bt (qI h o 5) j = false := by
    rw [bi_dis]
    constructor
    · intro h1
      have h2 := h1 i hi
      have h3 := h1 j hj
      rw [b_or, bi_sh hi hi, bi_sh hj hi] at h2
      rw [b_or, bi_sh hi hj, bi_sh hj hj] at h3
      simp at h2 h3
      exact ⟨h2, h3⟩
    · intro h1 k hk h2
      rw [b_or, bi_sh hi hk, bi_sh hj hk] at h2
      simp only [Bool.or_eq_true, decide_eq_true_eq] at h2
      rcases h2.2 with rfl | rfl
      · rw [h1.1] at h2; exact absurd h2.1 (by decide)
      · rw [h1.2] at h2; exact absurd h2.1 (by decide)
  refine b97_0 (S.ok rfl) e2 (S.oo ho) (fun c1 => b97_32 ⟨_, rfl, rfl, ?_⟩) (fun c1 => b97_10 (S.ok rfl) e2 (S.oo ho) (fun c2 => b97_32 ⟨_, rfl, rfl, ?_⟩) (fun c2 => b97_28 ⟨_, rfl, rfl, ?_⟩))
  · rw [c1]; rfl
  · have h1 := mt key.mpr c2
    have h2 : (!(bt (qI h o 5) i) && !(bt (qI h o 5) j)) = false := by
      cases h3 : bt (qI h o 5) i <;> cases h4 : bt (qI h o 5) j <;> simp_all
    rw [Bool.and_assoc, h2, Bool.and_false]
    rfl
  · have h1 := key.mp c2
    rw [h1.1, h1.2, show (qI h o 6 == 0) = false from beq_eq_false_iff_ne.mpr c1]
    rfl
/-- the nodes of a type, as bits -/
theorem s92 {h : q_Hp} {b o t : Nat} {w : Int32} (M : q_Mt h b o) (hT : qI h b 0 = nI t) (hm : t ≤ 12) : q_mI 1 92 [.ref 601, .int w] h (fun z h' => h' = h ∧ ∀ j, j < 32 → (bt z j = true ↔ j < 12 ∧ t_is (qA h (b + 1)) t w 12 (qA h 598 j) = true)) := by
  obtain ⟨S, hb, ho, e1, e2⟩ := M
  refine ⟨q_recV rfl (S.ok rfl), ?_⟩
  have loop : ∀ m i (z : Int32), i + m = 12 → (∀ j, j < 32 → (bt z j = true ↔ j < i ∧ t_is (qA h (b + 1)) t w 12 (qA h 598 j) = true)) → q_wp 1 92 4 [some (.ref 601), some (.int w), some (.int z), some (.int (nI i))] [] h (fun r h' => ∃ z : Int32, r = some (.int z) ∧ h' = h ∧ ∀ j, j < 32 → (bt z j = true ↔ j < 12 ∧ t_is (qA h (b + 1)) t w 12 (qA h 598 j) = true)) := by
    intro m
    induction m with
    | zero =>
      intro i z hi hz
      obtain rfl : i = 12 := by omega
      exact b92_4 (fun _ => b92_41 ⟨_, rfl, rfl, hz⟩) (fun h1 => absurd (Int32.le_refl _) h1)
    | succ m ih =>
      intro i z hi hz
      refine b92_4 (fun h1 => absurd ((nI_gec (k := 12) (by omega) (by decide) rfl).mp h1) (by omega)) (fun _ => b92_10 (S.ok rfl) e1 (S.ref (v := 597) rfl) (s64 S.dg) (by decide) ?_)
      rintro y h1 ⟨e0, rfl⟩
      subst h1
      rw [d_ty_in (by omega)]
      refine b92_22 (s6 S hb hT hm) (by decide) ?_
      rintro y h1 ⟨e0, rfl⟩
      subst h1
      refine b92_26 (fun c1 => b92_35 ?_) (fun c1 => b92_29 (b92_35 ?_))
      · have c2 := b2i_eq.mp c1
        rw [nI_1]
        refine ih (i + 1) z (by omega) (fun j hj => ?_)
        rw [hz j hj]
        constructor
        · exact fun h3 => ⟨by omega, h3.2⟩
        · intro h3
          refine ⟨?_, h3.2⟩
          rcases Nat.lt_or_ge j i with h4 | h4
          · exact h4
          · obtain rfl : j = i := by omega
            rw [c2] at h3
            exact absurd h3.2 (by decide)
      · have c2 := b2i_ne.mp c1
        rw [nI_1]
        refine ih (i + 1) _ (by omega) (fun j hj => ?_)
        rw [bi_add (by omega) hj, Bool.or_eq_true, decide_eq_true_eq, hz j hj]
        constructor
        · rintro (h3 | rfl)
          · exact ⟨by omega, h3.2⟩
          · exact ⟨by omega, c2⟩
        · intro h3
          rcases Nat.lt_or_ge j i with h4 | h4
          · exact Or.inl ⟨h4, h3.2⟩
          · exact Or.inr (by omega)
  exact b92_0 (loop 12 0 0 rfl (fun j _ => by rw [b_0]; exact ⟨fun h => absurd h (by decide), fun h => absurd h.1 (by omega)⟩))
