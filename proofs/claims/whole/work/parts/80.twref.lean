/-! THE TWINS of the reference -/
theorem s344a {h : q_Hp} {s a b : Nat} (S : q_Sh h) : q_mI 0 344 [.ref 630, .int (nI s), .int (nI a), .int (nI b), .int (-1)] h (fun z h' => h' = h ∧ z = nI (t_b (qA h 691) s a b)) := by
  refine q_mI.of (q_recV rfl (S.ok rfl)) (fun Q fin => ?_)
  have loop : ∀ m L, L + m = 40 → q_wp 0 344 6 [some (.ref 630), some (.int (nI s)), some (.int (nI a)), some (.int (nI b)), some (.int (-1)), some (.int (nI (t_bL (qA h 691) s a b L))), some (.int (nI L))] [] h Q := by
    intro m
    induction m with
    | zero =>
      intro L hL
      obtain rfl : L = 40 := by omega
      exact b344_6 (fun _ => b344_127 (fin _ _ ⟨rfl, rfl⟩)) (fun c => absurd (Int32.le_refl _) c)
    | succ m ih =>
      intro L hL
      have j := ih (L + 1) (by omega)
      have no : ¬ (qA h 691 (36 + L) = nI s ∧ qA h 691 (76 + L) = nI a ∧ qA h 691 (116 + L) = nI b) → q_wp 0 344 121 [some (.ref 630), some (.int (nI s)), some (.int (nI a)), some (.int (nI b)), some (.int (-1)), some (.int (nI (t_bL (qA h 691) s a b L))), some (.int (nI L))] [] h Q := by
        intro hn
        refine b344_121 ?_
        rw [nI_1]
        rw [t_bL_s, if_neg hn] at j
        exact j
      refine b344_6 (fun c => absurd ((nI_gec (k := 40) (by omega) (by decide) rfl).mp c) (by omega)) (fun _ => b344_13 (fun c => absurd rfl c) (fun _ => ?_))
      refine b344_19 (S.ok rfl) S.mr S.md (by rw [a36]; exact S.mi (by omega)) (fun c => no (fun h9 => c (by rw [a36, nI_clamp (by omega)]; exact h9.1))) (fun c1 => ?_)
      rw [a36, nI_clamp (by omega)] at c1
      refine b344_33 (S.ok rfl) S.mr S.md (by rw [a76]; exact S.mi (by omega)) (fun c => no (fun h9 => c (by rw [a76, nI_clamp (by omega)]; exact h9.2.1))) (fun c2 => ?_)
      rw [a76, nI_clamp (by omega)] at c2
      refine b344_47 (S.ok rfl) S.mr S.md (by rw [a116]; exact S.mi (by omega)) (fun c => no (fun h9 => c (by rw [a116, nI_clamp (by omega)]; exact h9.2.2))) (fun c3 => ?_)
      rw [a116, nI_clamp (by omega)] at c3
      refine b344_61 (b344_121 ?_)
      rw [nI_1, nI_1]
      rw [t_bL_s, if_pos ⟨c1, c2, c3⟩] at j
      exact j
  exact b344_0 (loop 40 0 rfl)
theorem s344b {h : q_Hp} {k s a b : Nat} (S : q_Sh h) (hk : k < 4) : q_mI 0 344 [.ref 630, .int (nI s), .int (nI a), .int (nI b), .int (nI (156 * k))] h (fun z h' => h' = h ∧ z = nI (t_b (fun i => qA h 693 (156 * k + i)) s a b)) := by
  refine q_mI.of (q_recV rfl (S.ok rfl)) (fun Q fin => ?_)
  have ad : ∀ j L, ((nI (156 * k) + nI j) + nI L : Int32) = nI (156 * k + (j + L)) := fun j L => by rw [nI_add, nI_add, Nat.add_assoc]
  have inn : ∀ j, j < 156 → q_in (nI (156 * k + j)) (qK h 693).2 := fun j hj => S.inN (n := 624) rfl (by omega) (by decide)
  have loop : ∀ m L, L + m = 40 → q_wp 0 344 6 [some (.ref 630), some (.int (nI s)), some (.int (nI a)), some (.int (nI b)), some (.int (nI (156 * k))), some (.int (nI (t_bL (fun i => qA h 693 (156 * k + i)) s a b L))), some (.int (nI L))] [] h Q := by
    intro m
    induction m with
    | zero =>
      intro L hL
      obtain rfl : L = 40 := by omega
      exact b344_6 (fun _ => b344_127 (fin _ _ ⟨rfl, rfl⟩)) (fun c => absurd (Int32.le_refl _) c)
    | succ m ih =>
      intro L hL
      have j := ih (L + 1) (by omega)
      have no : ¬ (qA h 693 (156 * k + (36 + L)) = nI s ∧ qA h 693 (156 * k + (76 + L)) = nI a ∧ qA h 693 (156 * k + (116 + L)) = nI b) → q_wp 0 344 121 [some (.ref 630), some (.int (nI s)), some (.int (nI a)), some (.int (nI b)), some (.int (nI (156 * k))), some (.int (nI (t_bL (fun i => qA h 693 (156 * k + i)) s a b L))), some (.int (nI L))] [] h Q := by
        intro hn
        refine b344_121 ?_
        rw [nI_1]
        rw [t_bL_s, if_neg hn] at j
        exact j
      refine b344_6 (fun c => absurd ((nI_gec (k := 40) (by omega) (by decide) rfl).mp c) (by omega)) (fun _ => b344_13 (fun _ => ?_) (fun c => absurd c (q_on_ne (by omega))))
      refine b344_67 (S.ok rfl) (S.ref (v := 693) rfl) (S.ok rfl) (by rw [show (nI (156 * k) + 36 + nI L : Int32) = nI (156 * k + (36 + L)) from ad 36 L]; exact inn _ (by omega)) (fun c => no (fun h9 => c (by rw [show (nI (156 * k) + 36 + nI L : Int32) = nI (156 * k + (36 + L)) from ad 36 L, nI_clamp (by omega)]; exact h9.1))) (fun c1 => ?_)
      rw [show (nI (156 * k) + 36 + nI L : Int32) = nI (156 * k + (36 + L)) from ad 36 L, nI_clamp (by omega)] at c1
      refine b344_84 (S.ok rfl) (S.ref (v := 693) rfl) (S.ok rfl) (by rw [show (nI (156 * k) + 76 + nI L : Int32) = nI (156 * k + (76 + L)) from ad 76 L]; exact inn _ (by omega)) (fun c => no (fun h9 => c (by rw [show (nI (156 * k) + 76 + nI L : Int32) = nI (156 * k + (76 + L)) from ad 76 L, nI_clamp (by omega)]; exact h9.2.1))) (fun c2 => ?_)
      rw [show (nI (156 * k) + 76 + nI L : Int32) = nI (156 * k + (76 + L)) from ad 76 L, nI_clamp (by omega)] at c2
      refine b344_101 (S.ok rfl) (S.ref (v := 693) rfl) (S.ok rfl) (by rw [show (nI (156 * k) + 116 + nI L : Int32) = nI (156 * k + (116 + L)) from ad 116 L]; exact inn _ (by omega)) (fun c => no (fun h9 => c (by rw [show (nI (156 * k) + 116 + nI L : Int32) = nI (156 * k + (116 + L)) from ad 116 L, nI_clamp (by omega)]; exact h9.2.2))) (fun c3 => ?_)
      rw [show (nI (156 * k) + 116 + nI L : Int32) = nI (156 * k + (116 + L)) from ad 116 L, nI_clamp (by omega)] at c3
      refine b344_118 (b344_121 ?_)
      rw [nI_1, nI_1]
      rw [t_bL_s, if_pos ⟨c1, c2, c3⟩] at j
      exact j
  exact b344_0 (loop 40 0 rfl)
/-- what the reference's search is in -/
def n_Tw (h : q_Hp) (k S n : Nat) (m m' : Nat → Nat) (f g : Nat → Int32) : Prop := q_Sh h ∧ k < 4 ∧ n ≤ 7 ∧ S ≤ 12 ∧ qI h 630 25 = nI S ∧ qA h 691 = f ∧ (fun i => qA h 693 (156 * k + i)) = g ∧ ∀ i, i < n → qA h 710 i = nI (m i) ∧ m i < 12 ∧ qA h 711 i = nI (m' i) ∧ m' i < 12
theorem n_Tw.fr {h h' : q_Hp} {k S n : Nat} {m m' : Nat → Nat} {f g : Nat → Int32} (X : n_Tw h k S n m m' f g) (e : q_Ef [712] h h') : n_Tw h' k S n m m' f g := by
  obtain ⟨S0, x1, x2, x3, x4, x5, x6, x7⟩ := X
  refine ⟨e.sh S0, x1, x2, x3, ?_, ?_, ?_, ?_⟩
  · rw [e.I (show 630 ∉ [712] by decide)]; exact x4
  · rw [e.A (show 691 ∉ [712] by decide)]; exact x5
  · rw [e.A (show 693 ∉ [712] by decide)]; exact x6
  · rw [e.A (show 710 ∉ [712] by decide), e.A (show 711 ∉ [712] by decide)]; exact x7
theorem s345 {h : q_Hp} {k S n i : Nat} {m m' c : Nat → Nat} {f g : Nat → Int32} (X : n_Tw h k S n m m' f g) (hi : i < n) (hc : ∀ j, j ≤ i → qA h 712 j = nI (c j) ∧ c j < n) : q_mI 1 345 [.ref 630, .int (nI i), .int (nI (156 * k))] h (fun z h' => h' = h ∧ z = b2i (m_dc (t_fit f g S m m' c i))) := by
  obtain ⟨S0, hk, n7, s12, hS, rfl, rfl, hM⟩ := X
  obtain ⟨r1, r2, _, _⟩ := hM i hi
  obtain ⟨c1, c2⟩ := hc i (Nat.le_refl _)
  obtain ⟨_, _, r3, r4⟩ := hM (c i) c2
  refine q_mI.of (q_recV rfl (S0.ok rfl)) (fun Q fin => ?_)
  have no : ¬ t_fit (qA h 691) (fun i => qA h 693 (156 * k + i)) S m m' c i → Q (some (.int 0)) h := fun h9 => fin _ _ ⟨rfl, by rw [m_dc_f.mpr h9]; rfl⟩
  have ci : (nI i : Int32).toNatClampNeg = i := nI_clamp (by omega)
  have i10 : ∀ j, j < 12 → q_in (nI j) (qK h 710).2 := fun j hj => S0.inN (n := 12) rfl hj (by decide)
  have i11 : ∀ j, j < 12 → q_in (nI j) (qK h 711).2 := fun j hj => S0.inN (n := 12) rfl hj (by decide)
  have i12 : ∀ j, j < 12 → q_in (nI j) (qK h 712).2 := fun j hj => S0.inN (n := 12) rfl hj (by decide)
  have inn : ∀ j, j < 156 → q_in (nI (156 * k + j)) (qK h 693).2 := fun j hj => S0.inN (n := 624) rfl (by omega) (by decide)
  have ea : qA h 710 (nI i : Int32).toNatClampNeg = nI (m i) := by rw [ci]; exact r1
  have ec : qA h 712 (nI i : Int32).toNatClampNeg = nI (c i) := by rw [ci]; exact c1
  have eb : qA h 711 (nI (c i) : Int32).toNatClampNeg = nI (m' (c i)) := by rw [nI_clamp (by omega)]; exact r3
  have ad : ∀ j, (nI (156 * k) + nI j : Int32) = nI (156 * k + j) := fun j => nI_add _ _
  have ad2 : ∀ j L, ((nI (156 * k) + nI j) + nI L : Int32) = nI (156 * k + (j + L)) := fun j L => by rw [nI_add, nI_add, Nat.add_assoc]
  refine b345_0 (v0 := 710) (v1 := 711) (v2 := 712) (v3 := 691) (v4 := 693) (S0.ok rfl) (S0.ref rfl) (S0.ok rfl) (i10 i (by omega)) (S0.ref rfl) (S0.ref rfl) (S0.ok rfl) (i12 i (by omega)) (S0.ok rfl) (by rw [ec]; exact i11 _ (by omega)) S0.mr S0.md (by rw [ea]; exact S0.mi (by omega)) (S0.ref rfl) (S0.ok rfl) (by rw [ec, eb, ad]; exact inn _ (by omega)) (fun d1 => b345_86 (no (fun h9 => d1 ?_))) (fun d1 => ?_)
  · rw [ea, ec, eb, ad, nI_clamp (by omega), nI_clamp (by omega)]
    exact h9.1
  rw [ea, ec, eb, ad, nI_clamp (by omega), nI_clamp (by omega)] at d1
  rw [ea, ec, eb]
  have e12 : (nI (156 * k) + 12 + nI (m' (c i)) : Int32) = nI (156 * k + (12 + m' (c i))) := ad2 12 _
  have e24 : (nI (156 * k) + 24 + nI (m' (c i)) : Int32) = nI (156 * k + (24 + m' (c i))) := ad2 24 _
  refine b345_38 (v0 := 691) (v1 := 693) (S0.ok rfl) S0.mr S0.md (by rw [a12]; exact S0.mi (by omega)) (S0.ref rfl) (S0.ok rfl) (by rw [e12]; exact inn _ (by omega)) (fun d2 => b345_86 (no (fun h9 => d2 ?_))) (fun d2 => ?_)
  · rw [a12, e12, nI_clamp (by omega), nI_clamp (by omega)]
    exact h9.2.1
  rw [a12, e12, nI_clamp (by omega), nI_clamp (by omega)] at d2
  refine b345_62 (v0 := 691) (v1 := 693) (S0.ok rfl) S0.mr S0.md (by rw [a24]; exact S0.mi (by omega)) (S0.ref rfl) (S0.ok rfl) (by rw [e24]; exact inn _ (by omega)) (fun d3 => b345_88 ?_) (fun d3 => b345_86 (no (fun h9 => d3 ?_)))
  rotate_left 1
  · rw [a24, e24, nI_clamp (by omega), nI_clamp (by omega)]
    exact h9.2.2.1
  rw [a24, e24, nI_clamp (by omega), nI_clamp (by omega)] at d3
  have lp : ∀ r j l6 l7 l8, j + r = i + 1 → (∀ y, y < i → ¬ c y = c i) → (∀ y, y < j → ∀ s, s < S → t_b (qA h 691) s (m i) (m y) = t_b (fun i => qA h 693 (156 * k + i)) s (m' (c i)) (m' (c y)) ∧ t_b (qA h 691) s (m y) (m i) = t_b (fun i => qA h 693 (156 * k + i)) s (m' (c y)) (m' (c i))) → q_wp 1 345 124 [some (.ref 630), some (.int (nI i)), some (.int (nI (156 * k))), some (.int (nI (m i))), some (.int (nI (m' (c i)))), some (.int (nI j)), l6, l7, l8] [] h Q := by
    intro r
    induction r with
    | zero =>
      intro j l6 l7 l8 hj hne hy
      obtain rfl : j = i + 1 := by omega
      refine b345_124 (fun _ => b345_227 (fin _ _ ⟨rfl, ?_⟩)) (fun c2 => absurd ((nI_ltI (by omega) (by omega)).mpr (by omega)) c2)
      rw [m_dc_t.mpr ⟨d1, d2, d3, hne, fun y hy' => hy y (by omega)⟩]
      rfl
    | succ r ih =>
      intro j l6 l7 l8 hj hne hy
      have ji : j ≤ i := by omega
      obtain ⟨q1, q2, _, _⟩ := hM j (by omega)
      obtain ⟨p1, p2⟩ := hc j ji
      obtain ⟨_, _, q3, q4⟩ := hM (c j) p2
      have cj : (nI j : Int32).toNatClampNeg = j := nI_clamp (by omega)
      have ga : qA h 710 (nI j : Int32).toNatClampNeg = nI (m j) := by rw [cj]; exact q1
      have gc : qA h 712 (nI j : Int32).toNatClampNeg = nI (c j) := by rw [cj]; exact p1
      have gb : qA h 711 (nI (c j) : Int32).toNatClampNeg = nI (m' (c j)) := by rw [nI_clamp (by omega)]; exact q3
      refine b345_124 (fun c2 => ?_) (fun _ => b345_130 (v0 := 710) (v1 := 711) (v2 := 712) (S0.ok rfl) (S0.ref rfl) (S0.ok rfl) (i10 j (by omega)) (S0.ref rfl) (S0.ref rfl) (S0.ok rfl) (i12 j (by omega)) (S0.ok rfl) (by rw [gc]; exact i11 _ (by omega)) ?_)
      · have := (nI_ltI (by omega) (by omega)).mp c2
        omega
      rw [ga, gc, gb]
      have inner : ∀ q s, s + q = S → (∀ y, y < s → t_b (qA h 691) y (m i) (m j) = t_b (fun i => qA h 693 (156 * k + i)) y (m' (c i)) (m' (c j)) ∧ t_b (qA h 691) y (m j) (m i) = t_b (fun i => qA h 693 (156 * k + i)) y (m' (c j)) (m' (c i))) → q_wp 1 345 156 [some (.ref 630), some (.int (nI i)), some (.int (nI (156 * k))), some (.int (nI (m i))), some (.int (nI (m' (c i)))), some (.int (nI j)), some (.int (nI (m j))), some (.int (nI (m' (c j)))), some (.int (nI s))] [] h Q := by
        intro q
        induction q with
        | zero =>
          intro s hs hz
          obtain rfl : s = S := by omega
          refine b345_156 (S0.ok rfl) (fun _ => b345_221 ?_) (fun c2 => absurd (by rw [hS]; exact Int32.le_refl _) c2)
          rw [nI_1]
          refine ih (j + 1) _ _ _ (by omega) hne (fun y hy' => ?_)
          by_cases h9 : y = j
          · rw [h9]; exact hz
          · exact hy y (by omega)
        | succ q ihq =>
          intro s hs hz
          have le40 : ∀ (f : Nat → Int32) s a b, t_b f s a b ≤ 40 := fun f s a b => q_cnt_le _ _
          refine b345_156 (S0.ok rfl) (fun c2 => ?_) (fun _ => b345_165 (s344a S0) (by decide) ?_)
          · rw [hS] at c2
            have := (nI_leI (by omega) (by omega)).mp c2
            omega
          rintro z h2 ⟨e0, rfl⟩
          subst h2
          refine b345_175 (s344b S0 hk) (by decide) ?_
          rintro z h2 ⟨e0, rfl⟩
          subst h2
          have l1 := le40 (qA h 691) s (m i) (m j)
          have l2 := le40 (fun i => qA h 693 (156 * k + i)) s (m' (c i)) (m' (c j))
          have l3 := le40 (qA h 691) s (m j) (m i)
          have l4 := le40 (fun i => qA h 693 (156 * k + i)) s (m' (c j)) (m' (c i))
          refine b345_186 (fun c2 => b345_213 (no (fun h9 => c2 (by rw [(h9.2.2.2.2 j ji s (by omega)).1])))) (fun c2 => b345_189 (s344a S0) (by decide) ?_)
          rintro z h2 ⟨e0, rfl⟩
          subst h2
          refine b345_199 (s344b S0 hk) (by decide) ?_
          rintro z h2 ⟨e0, rfl⟩
          subst h2
          refine b345_210 (fun c3 => b345_215 ?_) (fun c3 => b345_213 (no (fun h9 => c3 (by rw [(h9.2.2.2.2 j ji s (by omega)).2]))))
          rw [nI_1]
          refine ihq (s + 1) (by omega) (fun y hy' => ?_)
          by_cases h9 : y = s
          · rw [h9]
            exact ⟨(nI_eq (by omega) (by omega)).mp c2, (nI_eq (by omega) (by omega)).mp c3⟩
          · exact hz y (by omega)
      exact inner S 0 (by omega) (fun y hy' => by omega)
  have lp1 : ∀ r j, j + r = i → (∀ y, y < j → ¬ c y = c i) → q_wp 1 345 91 [some (.ref 630), some (.int (nI i)), some (.int (nI (156 * k))), some (.int (nI (m i))), some (.int (nI (m' (c i)))), some (.int (nI j)), none, none, none] [] h Q := by
    intro r
    induction r with
    | zero =>
      intro j hj hne
      obtain rfl : j = i := by omega
      exact b345_91 (fun _ => b345_121 (lp (j + 1) 0 none none none (by omega) hne (fun y hy => by omega))) (fun c2 => absurd (Int32.le_refl _) c2)
    | succ r ih =>
      intro j hj hne
      obtain ⟨p1, p2⟩ := hc j (by omega)
      have cj : (nI j : Int32).toNatClampNeg = j := nI_clamp (by omega)
      have gc : qA h 712 (nI j : Int32).toNatClampNeg = nI (c j) := by rw [cj]; exact p1
      refine b345_91 (fun c2 => ?_) (fun _ => b345_97 (v0 := 712) (S0.ok rfl) (S0.ref rfl) (S0.ok rfl) (i12 j (by omega)) (i12 i (by omega)) (fun c2 => b345_115 ?_) (fun c2 => b345_113 (no (fun h9 => ?_))))
      · have := (nI_leI (by omega) (by omega)).mp c2
        omega
      · rw [gc, ec] at c2
        rw [nI_1]
        refine ih (j + 1) (by omega) (fun y hy => ?_)
        by_cases h9 : y = j
        · rw [h9]
          exact fun h8 => c2 (by rw [h8])
        · exact hne y (by omega)
      · rw [gc, ec] at c2
        exact h9.2.2.2.1 j (by omega) ((nI_eq (by omega) (by omega)).mp c2)
  exact lp1 i 0 (by omega) (fun y hy => by omega)
/-- the reference's search, from a level on -/
theorem n_find {k S n : Nat} {m m' : Nat → Nat} {f g : Nat → Int32} {x1 : Int32} : ∀ (r i : Nat) (h : q_Hp) (c : Nat → Nat) (Q : Option Value → q_Hp → Prop), i + r = n → n_Tw h k S n m m' f g → (∀ j, j < i → qA h 712 j = nI (c j) ∧ c j < n) → qA h 712 i = -1 → (t_sol f g S m m' n i c → ∀ h', q_Ef [712] h h' → Q (some (.int 1)) h') → (¬ t_sol f g S m m' n i c → ∀ h', q_Ef [712] h h' → (∀ j, j < i → qA h' 712 j = qA h 712 j) → q_wp 3 346 128 [some (.ref 630), some (.int x1), some (.int (nI (156 * k))), some (.int (nI n)), some (.int (nI n)), some (.int (nI i + (-1)))] [] h' Q) → q_wp 3 346 128 [some (.ref 630), some (.int x1), some (.int (nI (156 * k))), some (.int (nI n)), some (.int (nI n)), some (.int (nI i))] [] h Q := by
  intro r
  induction r with
  | zero =>
    intro i h c Q hr X hc hm yes no
    obtain rfl : i = n := by omega
    have n7 := X.2.2.1
    exact b346_128 (fun c1 => absurd c1 (nI_pos (by omega))) (fun _ => b346_133 (fun c1 => absurd rfl c1) (fun _ => b346_139 (yes t_sol_n h q_Ef.rf)))
  | succ r ih =>
    intro i h c Q hr X hc hm yes no
    have n7 := X.2.2.1
    have hi : i < n := by omega
    rw [t_sol_s hi] at yes no
    have loop : ∀ q v h1, v + q = n → q_Ef [712] h h1 → (∀ j, j < i → qA h1 712 j = qA h 712 j) → qA h1 712 i = oN v → (∀ y, y < v → ¬ (t_fit f g S m m' (un c i y) i ∧ t_sol f g S m m' n (i + 1) (un c i y))) → q_wp 3 346 128 [some (.ref 630), some (.int x1), some (.int (nI (156 * k))), some (.int (nI n)), some (.int (nI n)), some (.int (nI i))] [] h1 Q := by
      intro q
      have start : ∀ v h1, v ≤ n → q_Ef [712] h h1 → qA h1 712 i = oN v → q_sA h1 712 (nI i : Int32).toNatClampNeg ((qA h1 712 (nI i : Int32).toNatClampNeg) + 1) = q_sA h1 712 i (nI v) := by
        intro v h1 hv e e9
        rw [nI_clamp (by omega), e9]
        congr 1
        unfold oN
        by_cases h9 : v = 0
        · rw [if_pos h9, h9]; decide
        · rw [if_neg h9, nI_1]
          congr 1
          omega
      induction q with
      | zero =>
        intro v h1 hv e e9 ev hy
        obtain rfl : v = n := by omega
        have X1 := X.fr e
        have S1 := X1.1
        have st := start v h1 (by omega) e ev
        refine b346_128 (fun c1 => absurd c1 (nI_pos (by omega))) (fun _ => b346_133 (fun _ => b346_141 (v0 := 712) (S1.ok rfl) (S1.ref rfl) (S1.ok rfl) (S1.inN (n := 12) rfl (by omega) (by decide)) (fun c1 => ?_) (fun _ => b346_163 ?_)) (fun c1 => ?_))
        · rw [st, nI_clamp (by omega), qA_sAu, upd_eq] at c1
          exact absurd rfl c1
        · rw [st]
          refine no (fun ⟨y, hy1, hy2⟩ => hy y hy1 hy2) _ (e.trans (q_Ef.sA (by decide))) (fun j hj => ?_)
          rw [qA_sAu, upd_ne (by omega)]
          exact e9 j hj
        · have := (nI_eq (by omega) (by omega)).mp c1
          omega
      | succ q ihq =>
        intro v h1 hv e e9 ev hy
        have X1 := X.fr e
        have S1 := X1.1
        have st := start v h1 (by omega) e ev
        have e2 : q_Ef [712] h (q_sA h1 712 i (nI v)) := e.trans (q_Ef.sA (by decide))
        have a2 : qA (q_sA h1 712 i (nI v)) 712 = upd (qA h1 712) i (nI v) := qA_sAu _ _ _ _
        refine b346_128 (fun c1 => absurd c1 (nI_pos (by omega))) (fun _ => b346_133 (fun _ => b346_141 (v0 := 712) (S1.ok rfl) (S1.ref rfl) (S1.ok rfl) (S1.inN (n := 12) rfl (by omega) (by decide)) (fun _ => ?_) (fun c1 => ?_)) (fun c1 => ?_))
        rotate_left 1
        · rw [st, nI_clamp (by omega), a2, upd_eq] at c1
          have := (nI_eq (by omega) (by omega)).mp c1
          omega
        · have := (nI_eq (by omega) (by omega)).mp c1
          omega
        rw [st]
        generalize q_sA h1 712 i (nI v) = h2 at e2 a2
        have X2 := X.fr e2
        have S2 := X2.1
        have row : ∀ j, j ≤ i → qA h2 712 j = nI (un c i v j) ∧ un c i v j < n := by
          intro j hj
          rw [a2]
          by_cases h9 : j = i
          · rw [h9, upd_eq, un_e]
            exact ⟨rfl, by omega⟩
          · rw [upd_ne h9, un_n h9, e9 j (by omega)]
            exact hc j (by omega)
        have more : ∀ h3, q_Ef [712] h h3 → (∀ j, j ≤ i → qA h3 712 j = qA h2 712 j) → ¬ (t_fit f g S m m' (un c i v) i ∧ t_sol f g S m m' n (i + 1) (un c i v)) → q_wp 3 346 128 [some (.ref 630), some (.int x1), some (.int (nI (156 * k))), some (.int (nI n)), some (.int (nI n)), some (.int (nI i))] [] h3 Q := by
          intro h3 e3 f9 hno
          refine ihq (v + 1) h3 (by omega) e3 (fun j hj => ?_) ?_ (fun y hy1 => ?_)
          · rw [f9 j (by omega), a2, upd_ne (by omega)]
            exact e9 j hj
          · rw [f9 i (Nat.le_refl _), a2, upd_eq, oN_s]
          · by_cases h9 : y = v
            · rw [h9]; exact hno
            · exact hy y (by omega)
        refine b346_169 (s345 X2 hi row) (by decide) ?_
        rintro z h3 ⟨e0, rfl⟩
        subst h3
        refine b346_176 (fun c1 => more h2 e2 (fun _ _ => rfl) (fun h9 => m_dc_f.mp (b2i_eq.mp c1) h9.1)) (fun c1 => ?_)
        have fit := m_dc_t.mp (b2i_ne.mp c1)
        have e1' : nI i + 1 = nI (i + 1) := nI_1 i
        refine b346_179 (v0 := 712) (S2.ok rfl) (S2.ref rfl) (S2.ok rfl) (by rw [e1']; exact S2.inN (n := 12) rfl (by omega) (by decide)) ?_
        rw [e1', nI_clamp (by omega)]
        have e3 : q_Ef [712] h2 (q_sA h2 712 (i + 1) (-1)) := q_Ef.sA (by decide)
        have a3 : qA (q_sA h2 712 (i + 1) (-1)) 712 = upd (qA h2 712) (i + 1) (-1) := qA_sAu _ _ _ _
        generalize q_sA h2 712 (i + 1) (-1) = h3 at e3 a3
        refine ih (i + 1) h3 (un c i v) Q (by omega) (X2.fr e3) (fun j hj => ?_) ?_ (fun hs h4 e4 => ?_) (fun hs h4 e4 f9 => ?_)
        · rw [a3, upd_ne (by omega)]
          exact row j (by omega)
        · rw [a3, upd_eq]
        · exact yes ⟨v, by omega, fit, hs⟩ h4 ((e2.trans e3).trans e4)
        · rw [nI_m1 (by omega), Nat.add_sub_cancel]
          refine more h4 ((e2.trans e3).trans e4) (fun j hj => ?_) (fun h9 => hs h9.2)
          rw [f9 j (by omega), a3, upd_ne (by omega)]
    exact loop n 0 h (by omega) q_Ef.rf (fun _ _ => rfl) (by rw [hm]; rfl) (fun y hy => by omega)
theorem t_ls_ext {f g : Nat → Int32} : ∀ m, (∀ i, i < m → g i = f i) → t_ls g m = t_ls f m := by
  intro m
  induction m with
  | zero => intro _; rfl
  | succ m ih =>
    intro h
    unfold t_ls
    rw [ih (fun i hi => h i (by omega)), h m (by omega)]
/-- what same() answers where something is kept -/
noncomputable def t_an (S : Nat) (f g : Nat → Int32) : Int32 := if 7 < (t_ls f 12).length ∨ 7 < (t_ls g 12).length then -2 else if (t_ls f 12).length = (t_ls g 12).length then b2i (m_dc (t_sol f g S (fun i => (t_ls f 12).getD i 0) (fun i => (t_ls g 12).getD i 0) (t_ls f 12).length 0 (fun _ => 0))) else 0
theorem s346 {h : q_Hp} {S0 : Nat} {x : Int32} (S : q_Sh h) (hS : qI h 630 25 = nI S0) (s12 : S0 ≤ 12) (hk : ∀ k, k < 4 → qA h 694 k = 0 ∨ qA h 694 k = 1) : q_mI 4 346 [.ref 630, .int x] h (fun z h' => q_Ef [710, 711, 712] h h' ∧ z = if q_rg x 4 = true ∧ qA h 694 x.toNatClampNeg = 1 then t_an S0 (qA h 691) (fun i => qA h 693 (156 * x.toNatClampNeg + i)) else -1) := by
  refine q_mI.of (q_recV rfl (S.ok rfl)) (fun Q fin => ?_)
  have out : ¬ (q_rg x 4 = true ∧ qA h 694 x.toNatClampNeg = 1) → q_wp 4 346 18 [some (.ref 630), some (.int x), none, none, none, none] [] h Q := fun h9 => b346_18 (fin _ _ ⟨q_Ef.rf, by rw [if_neg h9]⟩)
  refine b346_0 (fun c => out (fun h9 => by rw [q_rg_lo c] at h9; cases h9.1)) (fun c1 => b346_4 (fun c => out (fun h9 => ?_)) (fun c2 => ?_))
  · obtain ⟨k, hk4, rfl⟩ := (q_rg_ex (by decide)).mp h9.1
    have := (nI_ltI (a := 3) (by decide) (by omega)).mp c
    omega
  obtain ⟨k, hkk, rfl⟩ := nI_of c1
  have k4 : k < 4 := by
    have := mt (nI_ltI (a := 3) (b := k) (by decide) hkk).mpr c2
    omega
  have ck : (nI k : Int32).toNatClampNeg = k := nI_clamp (by omega)
  refine b346_9 (v0 := 694) (S.ok rfl) (S.ref rfl) (Or.inr (S.ok rfl)) (S.inN (n := 4) rfl k4 (by decide)) (fun c3 => b346_20 ?_) (fun c3 => out (fun h9 => ?_))
  rotate_left 1
  · rw [c3] at h9
    exact absurd h9.2 (by decide)
  have kept : qA h 694 k = 1 := by
    rw [ck] at c3
    rcases hk k k4 with h9 | h9
    · exact absurd h9 c3
    · exact h9
  rw [show (156 : Int32) * nI k = nI (156 * k) from pk_mul 156 k]
  have fin' : ∀ z h', q_Ef [710, 711, 712] h h' → z = t_an S0 (qA h 691) (fun i => qA h 693 (156 * k + i)) → Q (some (.int z)) h' := fun z h' e ez => fin z h' ⟨e, by
    rw [ck, if_pos ⟨q_rgN k4 (by decide), kept⟩]
    exact ez⟩
  have inn : ∀ j, j < 156 → q_in (nI (156 * k + j)) (qK h 693).2 := fun j hj => S.inN (n := 624) rfl (by omega) (by decide)
  generalize hf : qA h 691 = f at fin'
  generalize hg : (fun i => qA h 693 (156 * k + i)) = g at fin'
  have gj : ∀ j, qA h 693 (156 * k + j) = g j := fun j => congrFun hg j
  -- the nodes that are there
  have loop : ∀ q j h1, j + q = 12 → q_Ef [710, 711] h h1 → (∀ i, i < (t_ls f j).length → qA h1 710 i = nI ((t_ls f j).getD i 0)) → (∀ i, i < (t_ls g j).length → qA h1 711 i = nI ((t_ls g j).getD i 0)) → (∀ h2, q_Ef [710, 711] h h2 → (∀ i, i < (t_ls f 12).length → qA h2 710 i = nI ((t_ls f 12).getD i 0)) → (∀ i, i < (t_ls g 12).length → qA h2 711 i = nI ((t_ls g 12).getD i 0)) → q_wp 4 346 94 [some (.ref 630), some (.int (nI k)), some (.int (nI (156 * k))), some (.int (nI (t_ls f 12).length)), some (.int (nI (t_ls g 12).length)), some (.int (nI 12))] [] h2 Q) → q_wp 4 346 34 [some (.ref 630), some (.int (nI k)), some (.int (nI (156 * k))), some (.int (nI (t_ls f j).length)), some (.int (nI (t_ls g j).length)), some (.int (nI j))] [] h1 Q := by
    intro q
    induction q with
    | zero =>
      intro j h1 hj e r1 r2 w
      obtain rfl : j = 12 := by omega
      exact b346_34 (fun _ => w h1 e r1 r2) (fun c => absurd (Int32.le_refl _) c)
    | succ q ih =>
      intro j h1 hj e r1 r2 w
      have S1 := e.sh S
      have lf : (t_ls f j).length ≤ j := by rw [t_ls_len]; exact q_cnt_le _ _
      have lg : (t_ls g j).length ≤ j := by rw [t_ls_len]; exact q_cnt_le _ _
      have stf : t_ls f (j + 1) = if f j = -1 then t_ls f j else t_ls f j ++ [j] := rfl
      have stg : t_ls g (j + 1) = if g j = -1 then t_ls g j else t_ls g j ++ [j] := rfl
      have e691 : qA h1 691 = f := (e.A (by decide)).trans hf
      have e693 : qA h1 693 = qA h 693 := e.A (by decide)
      have second : ∀ h2, q_Ef [710, 711] h h2 → (∀ i, i < (t_ls f (j + 1)).length → qA h2 710 i = nI ((t_ls f (j + 1)).getD i 0)) → (∀ i, i < (t_ls g j).length → qA h2 711 i = nI ((t_ls g j).getD i 0)) → q_wp 4 346 63 [some (.ref 630), some (.int (nI k)), some (.int (nI (156 * k))), some (.int (nI (t_ls f (j + 1)).length)), some (.int (nI (t_ls g j).length)), some (.int (nI j))] [] h2 Q := by
        intro h2 f1 q1 q2
        have S2 := f1.sh S
        have adj : (nI (156 * k) + nI j : Int32) = nI (156 * k + j) := nI_add _ _
        refine b346_63 (v0 := 693) (S2.ok rfl) (S2.ref rfl) (S2.ok rfl) (by rw [adj]; exact S2.inN (n := 624) rfl (by omega) (by decide)) (fun c => b346_88 ?_) (fun c => b346_76 (v0 := 711) (S2.ok rfl) (S2.ref rfl) (S2.ok rfl) (S2.inN (n := 12) rfl (by omega) (by decide)) (b346_88 ?_))
        · rw [adj, nI_clamp (by omega), f1.A (show 693 ∉ [710, 711] by decide), gj] at c
          rw [nI_1]
          have := ih (j + 1) h2 (by omega) f1 q1
          rw [stg, if_pos c] at this
          exact this q2 w
        · rw [adj, nI_clamp (by omega), f1.A (show 693 ∉ [710, 711] by decide), gj] at c
          rw [nI_1, nI_1, nI_clamp (by omega)]
          have := ih (j + 1) (q_sA h2 711 (t_ls g j).length (nI j)) (by omega) (f1.trans (q_Ef.sA (by decide))) (fun i hi => q1 i hi)
          rw [stg, if_neg c, List.length_append] at this
          refine this (fun i hi => ?_) w
          have l1 : [j].length = 1 := rfl
          rw [qA_sAu]
          by_cases h9 : i = (t_ls g j).length
          · rw [h9, upd_eq, l_gr]
          · rw [upd_ne h9, l_gl (by omega)]
            exact q2 i (by omega)
      refine b346_34 (fun c => absurd ((nI_gec (k := 12) (by omega) (by decide) rfl).mp c) (by omega)) (fun _ => b346_41 (v0 := 691) (S1.ok rfl) S1.mr S1.md (S1.mi (by omega)) (fun c => ?_) (fun c => b346_52 (v0 := 710) (S1.ok rfl) (S1.ref rfl) (S1.ok rfl) (S1.inN (n := 12) rfl (by omega) (by decide)) ?_))
      · rw [nI_clamp (by omega), e691] at c
        have := second h1 e
        rw [stf, if_pos c] at this
        exact this r1 r2
      · rw [nI_clamp (by omega), e691] at c
        rw [nI_1, nI_clamp (by omega)]
        have := second (q_sA h1 710 (t_ls f j).length (nI j)) (e.trans (q_Ef.sA (by decide)))
        rw [stf, if_neg c, List.length_append] at this
        refine this (fun i hi => ?_) (fun i hi => r2 i hi)
        have l1 : [j].length = 1 := rfl
        rw [qA_sAu]
        by_cases h9 : i = (t_ls f j).length
        · rw [h9, upd_eq, l_gr]
        · rw [upd_ne h9, l_gl (by omega)]
          exact r1 i (by omega)
  have lf : (t_ls f 12).length ≤ 12 := by rw [t_ls_len]; exact q_cnt_le _ _
  have lg : (t_ls g 12).length ≤ 12 := by rw [t_ls_len]; exact q_cnt_le _ _
  refine loop 12 0 h rfl q_Ef.rf (fun i hi => absurd hi (Nat.not_lt_zero _)) (fun i hi => absurd hi (Nat.not_lt_zero _)) (fun h2 e r1 r2 => ?_)
  have S2 := e.sh S
  have e2 : q_Ef [710, 711, 712] h h2 := e.wide (by decide)
  refine b346_94 (fun c => b346_107 (fin' _ _ e2 ?_)) (fun c => b346_100 (fun c4 => b346_110 (fun c5 => ?_) (fun c5 => b346_116 (fin' _ _ e2 ?_))) (fun c4 => b346_107 (fin' _ _ e2 ?_)))
  · have := (nI_ltI (a := 7) (by decide) (by omega)).mp c
    unfold t_an
    rw [if_pos (Or.inl this)]
  · have h7 := mt (nI_ltI (a := 7) (b := (t_ls f 12).length) (by decide) (by omega)).mpr c
    have g7 := (nI_leI (b := 7) (by omega) (by decide)).mp c4
    have en := (nI_eq (by omega) (by omega)).mp c5
    have X2 : n_Tw h2 k S0 (t_ls f 12).length (fun i => (t_ls f 12).getD i 0) (fun i => (t_ls g 12).getD i 0) f g := by
      refine ⟨S2, k4, by omega, s12, ?_, (e.A (by decide)).trans hf, ?_, fun i hi => ⟨r1 i hi, (t_ls_get 12 i hi).1, r2 i (by omega), (t_ls_get 12 i (by omega)).1⟩⟩
      · rw [e.I (show 630 ∉ [710, 711] by decide)]; exact hS
      · rw [e.A (show 693 ∉ [710, 711] by decide)]; exact hg
    have an : t_an S0 f g = b2i (m_dc (t_sol f g S0 (fun i => (t_ls f 12).getD i 0) (fun i => (t_ls g 12).getD i 0) (t_ls f 12).length 0 (fun _ => 0))) := by
      unfold t_an
      rw [if_neg (by omega), if_pos en]
    refine b346_118 (v0 := 712) (S2.ok rfl) (S2.ref rfl) (S2.ok rfl) (S2.inN (j := 0) (n := 12) rfl (by decide) (by decide)) ?_
    have e3 : q_Ef [712] h2 (q_sA h2 712 0 (-1)) := q_Ef.sA (by decide)
    rw [← en]
    have X3 := X2.fr e3
    have a3 : qA (q_sA h2 712 0 (-1)) 712 0 = -1 := by rw [qA_sAu, upd_eq]
    have e4 : q_Ef [710, 711, 712] h (q_sA h2 712 0 (-1)) := e2.trans (e3.wide (by decide))
    refine q_wp.le (n := 3) (by decide) (n_find (t_ls f 12).length 0 (q_sA h2 712 0 (-1)) (fun _ => 0) Q (by omega) X3 (fun j hj => by omega) a3 (fun hs h5 e5 => fin' _ _ (e4.trans (e5.wide (by decide))) ?_) (fun hs h5 e5 _ => b346_128 (fun _ => b346_193 (fin' _ _ (e4.trans (e5.wide (by decide))) ?_)) (fun c9 => absurd (by decide) c9)))
    · rw [an, m_dc_t.mpr hs]
      rfl
    · rw [an, m_dc_f.mpr hs]
      rfl
  · have h7 := mt (nI_ltI (a := 7) (b := (t_ls f 12).length) (by decide) (by omega)).mpr c
    have g7 := (nI_leI (b := 7) (by omega) (by decide)).mp c4
    unfold t_an
    rw [if_neg (by omega), if_neg (fun h9 => c5 (by rw [h9]))]
  · have g7 := mt (nI_leI (a := (t_ls g 12).length) (b := 7) (by omega) (by decide)).mpr c4
    unfold t_an
    rw [if_pos (Or.inr (by omega))]
