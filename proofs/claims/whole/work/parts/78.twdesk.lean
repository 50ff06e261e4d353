/-! THE TWINS of the desk -/
theorem lg_0 {x y : Int64} : lg_cmp x y = 0 ↔ x = y := by
  constructor
  · intro h
    unfold lg_cmp at h
    split at h
    · exact absurd h (by decide)
    · split at h
      · assumption
      · exact absurd h (by decide)
  · rintro rfl
    exact lg_self x
theorem qL_sLs (h : q_Hp) (a j : Nat) (v : Int64) (i : Nat) : qL (q_sL h a j v) a i = if i = j then v else qL h a i := by
  rw [qL_sL]
  by_cases h1 : i = j
  · rw [if_pos ⟨rfl, h1⟩, if_pos h1]
  · rw [if_neg (fun h2 => h1 h2.2), if_neg h1]
theorem s351 {h : q_Hp} {a n : Nat} {x : Int64} (ha : q_ok h a 21) (hl : (qK h a).2 = n) (hn : n < 2 ^ 31) : q_mV 0 351 [.ref a, .long x] h (fun h' => q_Ef [a] h h' ∧ ∀ i, i < n → qL h' a i = x) := by
  refine q_mV.of (q_recS rfl) (fun Q fin => ?_)
  have e0 : Int32.ofNat (qK h a).2 = nI n := by rw [hl]; rfl
  have loop : ∀ m i hi, i + m = n → q_Ef [a] h hi → (∀ j, j < i → qL hi a j = x) → q_wp 0 351 6 [some (.ref a), some (.long x), none, some (.int (nI i)), some (.int (nI n))] [] hi Q := by
    intro m
    induction m with
    | zero =>
      intro i hi hin e hg
      obtain rfl : i = n := by omega
      exact b351_6 (fun _ => b351_22 (fin _ ⟨e, hg⟩)) (fun h1 => absurd (Int32.le_refl _) h1)
    | succ m ih =>
      intro i hi hin e hg
      have hk : qK hi a = qK h a := congrFun e.2.2.1 a
      have ok : q_ok hi a 21 := ⟨ha.1, by rw [e.1]; exact ha.2.1, by rw [hk]; exact ha.2.2⟩
      refine b351_6 (fun h1 => absurd ((nI_leI (by omega) (by omega)).mp h1) (by omega)) (fun _ => b351_12 ok (q_inN (by rw [hk, hl]; omega) (by rw [hk, hl]; omega)) ?_)
      rw [nI_1, nI_clamp (by omega)]
      refine ih (i + 1) _ (by omega) (e.trans (q_Ef.sL (by simp))) (fun j hj => ?_)
      rw [qL_sLs]
      by_cases h2 : j = i
      · rw [if_pos h2]
      · rw [if_neg h2]
        exact hg j (by omega)
  refine b351_0 ha (by decide) ?_
  rw [e0]
  exact loop n 0 h (by omega) q_Ef.rf (fun j hj => by omega)
theorem s203 {h : q_Hp} {o c w : Nat} (S : q_Sh h) (hD : ∀ h, q_Sh h → q_Dg h o c) (hw : ∀ h, q_Sh h → q_ok h w 20 ∧ (qK h w).2 = 7) (hne : ¬ c = w) (hrec : q_rec 203 [.ref o, .ref w] h = true) (h7 : (t_ls (qA h c) 12).length ≤ 7) : q_mV 1 203 [.ref o, .ref w] h (fun h' => q_Ef [w] h h' ∧ ∀ i, i < (t_ls (qA h c) 12).length → qA h' w i = nI ((t_ls (qA h c) 12).getD i 0)) := by
  refine q_mV.of hrec (fun Q fin => ?_)
  have mono : ∀ i, (t_ls (qA h c) i).length ≤ (t_ls (qA h c) (i + 1)).length ∧ ∀ j, j < (t_ls (qA h c) i).length → (t_ls (qA h c) (i + 1)).getD j 0 = (t_ls (qA h c) i).getD j 0 := by
    intro i
    have e : t_ls (qA h c) (i + 1) = if qA h c i = -1 then t_ls (qA h c) i else t_ls (qA h c) i ++ [i] := rfl
    rw [e]
    split
    · exact ⟨Nat.le_refl _, fun j _ => rfl⟩
    · exact ⟨by rw [List.length_append]; omega, fun j hj => l_gl hj⟩
  have ml : ∀ m i, (t_ls (qA h c) i).length ≤ (t_ls (qA h c) (i + m)).length := by
    intro m
    induction m with
    | zero => intro i; exact Nat.le_refl _
    | succ m ih => intro i; exact Nat.le_trans (ih i) (mono (i + m)).1
  have loop : ∀ m i hi, i + m = 12 → q_Ef [w] h hi → (∀ j, j < (t_ls (qA h c) i).length → qA hi w j = nI ((t_ls (qA h c) i).getD j 0)) → q_wp 1 203 4 [some (.ref o), some (.ref w), some (.int (nI (t_ls (qA h c) i).length)), some (.int (nI i))] [] hi Q := by
    intro m
    induction m with
    | zero =>
      intro i hi him e hg
      obtain rfl : i = 12 := by omega
      exact b203_4 (fun _ => b203_33 (fin _ ⟨e, hg⟩)) (fun h1 => absurd (Int32.le_refl _) h1)
    | succ m ih =>
      intro i hi him e hg
      have Si := e.sh S
      have ec : qA hi c = qA h c := e.A (by
        simp only [List.mem_cons, List.not_mem_nil, or_false]
        exact hne)
      have li := ml (12 - i) i
      rw [show i + (12 - i) = 12 by omega] at li
      refine b203_4 (fun h1 => absurd ((nI_gec (k := 12) (by omega) (by decide) rfl).mp h1) (by omega)) (fun _ => b203_10 (s65 (hD hi Si)) (by decide) ?_)
      rintro z h2 ⟨e0, rfl⟩
      subst h2
      rw [ec, d_has_n (show i < 12 by omega)]
      have lst : t_ls (qA h c) (i + 1) = if qA h c i = -1 then t_ls (qA h c) i else t_ls (qA h c) i ++ [i] := rfl
      refine b203_15 (fun c1 => b203_27 ?_) (fun c1 => b203_18 (s233 (hw hi Si).1 (hw hi Si).2 (by decide)) (by decide) ?_)
      · have h9 := b2i_eq.mp c1
        have f1 : qA h c i = -1 := by
          cases h8 : (qA h c i == -1) with
          | true => exact eq_of_beq h8
          | false => rw [h8] at h9; cases h9
        rw [nI_1]
        have := ih (i + 1) hi (by omega) e
        rw [lst, if_pos f1] at this
        exact this hg
      · have h9 := b2i_ne.mp c1
        have f1 : ¬ qA h c i = -1 := fun h8 => by
          rw [h8] at h9
          cases h9
        rintro h3 rfl
        have l8 := ml (12 - (i + 1)) (i + 1)
        rw [show i + 1 + (12 - (i + 1)) = 12 by omega, lst, if_neg f1, List.length_append] at l8
        have l1 : [i].length = 1 := rfl
        rw [c_set_in (show (t_ls (qA h c) i).length < 7 by omega) (by decide)]
        refine b203_24 (b203_27 ?_)
        rw [nI_1, nI_1]
        have := ih (i + 1) (q_sA hi w (t_ls (qA h c) i).length (nI i)) (by omega) (e.trans (q_Ef.sA (by simp)))
        rw [lst, if_neg f1, List.length_append] at this
        refine this (fun j hj => ?_)
        rw [qA_sAu]
        by_cases h8 : j = (t_ls (qA h c) i).length
        · rw [h8, upd_eq, l_gr]
        · rw [upd_ne h8, l_gl (by omega)]
          exact hg j (by omega)
  exact b203_0 (loop 12 0 h rfl q_Ef.rf (fun j hj => absurd hj (Nat.not_lt_zero _)))
theorem s205 {h : q_Hp} {w n : Nat} {M : Nat → Nat} {x : Int32} (S : q_Sh h) (hw : q_ok h w 20 ∧ (qK h w).2 = 7) (hn : qI h 624 6 = nI n) (n7 : n ≤ 7) (hM : ∀ i, i < n → qA h w i = nI (M i) ∧ M i < 12) (inj : ∀ i j, i < n → j < n → M i = M j → i = j) : q_mI 0 205 [.ref 624, .ref w, .int x] h (fun z h' => h' = h ∧ ∃ p, z = nI p ∧ p < 7 ∧ ∀ j, j < n → x = nI (M j) → p = j) := by
  refine q_mI.of (q_recV rfl (S.ok rfl)) (fun Q fin => ?_)
  have e0 : Int32.ofNat (qK h w).2 = nI 7 := by rw [hw.2]; rfl
  have loop : ∀ m i, i + m = n → (∀ j, j < i → ¬ nI (M j) = x) → q_wp 0 205 2 [some (.ref 624), some (.ref w), some (.int x), some (.int (nI i))] [] h Q := by
    intro m
    induction m with
    | zero =>
      intro i hi hj
      obtain rfl : i = n := by omega
      exact b205_2 (S.ok rfl) (fun _ => b205_31 (fin _ _ ⟨rfl, 0, rfl, by decide, fun j h1 h2 => absurd h2.symm (hj j h1)⟩)) (fun h1 => absurd (by rw [hn]; exact Int32.le_refl _) h1)
    | succ m ih =>
      intro i hi hj
      obtain ⟨q1, q2⟩ := hM i (by omega)
      refine b205_2 (S.ok rfl) (fun h1 => ?_) (fun _ => b205_10 hw.1 (by decide) (fun h1 => ?_) (fun _ => b205_16 hw.1 (q_inN (by rw [hw.2]; omega) (by rw [hw.2]; decide)) (fun h1 => b205_25 ?_) (fun h1 => b205_23 (fin _ _ ⟨rfl, i, rfl, by omega, fun j h2 h3 => ?_⟩))))
      · rw [hn] at h1
        have := (nI_leI (by omega) (by omega)).mp h1
        omega
      · rw [e0] at h1
        have := (nI_leI (by omega) (by omega)).mp h1
        omega
      · rw [nI_clamp (by omega), q1] at h1
        rw [nI_1]
        refine ih (i + 1) (by omega) (fun j h2 => ?_)
        by_cases h3 : j = i
        · rw [h3]; exact h1
        · exact hj j (by omega)
      · rw [nI_clamp (by omega), q1] at h1
        obtain ⟨_, q4⟩ := hM j h2
        exact inj i j (by omega) h2 ((nI_eq (by omega) (by omega)).mp (h1.trans h3))
  exact b205_0 (loop n 0 (by omega) (fun j hj => by omega))
theorem t_sort6 : ∀ s, s < 12 → (6 : Int32) * (nI s - nI s / 6 * 6) = nI (6 * (s % 6)) := by decide +kernel
theorem t_one : ∀ k, k < 6 → (1 : Int64) <<< ((nI (6 * k)).toInt64 &&& 63) = Int64.ofNat (64 ^ k) := by decide +kernel
theorem s204 {h : q_Hp} {o c w v T S0 n : Nat} {M : Nat → Nat} {g : Nat → Int32} (S : q_Sh h) (hD : ∀ h, q_Sh h → q_Dg h o c) (hw : ∀ h, q_Sh h → q_ok h w 20 ∧ (qK h w).2 = 7) (hv : ∀ h, q_Sh h → q_ok h v 21 ∧ (qK h v).2 = 98) (nv : ¬ c = v ∧ ¬ w = v ∧ ¬ 624 = v) (hn : qI h 624 6 = nI n) (n7 : n ≤ 7) (hM : ∀ i, i < n → qA h w i = nI (M i) ∧ M i < 12) (inj : ∀ i j, i < n → j < n → M i = M j → i = j) (s12 : S0 ≤ 12) (D : q_dg T S0 (qA h c) g) (onto : ∀ x, x < 12 → ¬ qA h c x = -1 → ∃ i, i < n ∧ M i = x) : q_mV 2 204 [.ref 624, .ref o, .ref w, .ref v] h (fun h' => q_Ef [v] h h' ∧ ∀ i j hi, i < n → j < n → hi < 2 → qL h' v (7 * i + j + 49 * hi) = Int64.ofNat (t_pk (qA h c) hi (M i) (M j) 40)) := by
  refine q_mV.of (q_recV rfl (S.ok rfl)) (fun Q fin => ?_)
  have loop : ∀ m L hi l5 l6 l7, L + m = 40 → q_Ef [v] h hi → (∀ i j u, i < n → j < n → u < 2 → qL hi v (7 * i + j + 49 * u) = Int64.ofNat (t_pk (qA h c) u (M i) (M j) L)) → q_wp 2 204 8 [some (.ref 624), some (.ref o), some (.ref w), some (.ref v), some (.int (nI L)), l5, l6, l7] [] hi Q := by
    intro m
    induction m with
    | zero =>
      intro L hi l5 l6 l7 hL e hg
      obtain rfl : L = 40 := by omega
      exact b204_8 (fun _ => b204_110 (fin _ ⟨e, hg⟩)) (fun h1 => absurd (Int32.le_refl _) h1)
    | succ m ih =>
      intro L hi l5 l6 l7 hL e hg
      have Si := e.sh S
      have nn : ∀ x, ¬ x = v → x ∉ [v] := by
        intro x hx
        simp only [List.mem_cons, List.not_mem_nil, or_false]
        exact hx
      have ec : qA hi c = qA h c := e.A (nn c nv.1)
      have ew : qA hi w = qA h w := e.A (nn w nv.2.1)
      have e6 : qI hi 624 = qI h 624 := e.I (nn 624 nv.2.2)
      have rg : q_rg (nI L) 40 = true := q_rgN (by omega) (by decide)
      have cl : (nI L : Int32).toNatClampNeg = L := nI_clamp (by omega)
      have pl : ∀ x : Int32, q_mI 0 205 [.ref 624, .ref w, .int x] hi (fun z h' => h' = hi ∧ ∃ p, z = nI p ∧ p < 7 ∧ ∀ j, j < n → x = nI (M j) → p = j) := fun x => s205 Si (hw hi Si) (by rw [e6]; exact hn) n7 (fun i h1 => by rw [ew]; exact hM i h1) inj
      refine b204_8 (fun h1 => absurd ((nI_gec (k := 40) (by omega) (by decide) rfl).mp h1) (by omega)) (fun _ => b204_15 (s68 (hD hi Si)) (by decide) ?_)
      rintro z1 h2 ⟨e0, rfl⟩
      subst h2
      refine b204_21 (s69 (hD hi Si)) (by decide) ?_
      rintro z2 h2 ⟨e0, rfl⟩
      subst h2
      rw [d_at_in rg, d_at_in rg, cl, ec]
      refine b204_31 (pl _) (by decide) ?_
      rintro z3 h2 ⟨e0, p1, rfl, hp1, fp1⟩
      subst h2
      refine b204_34 (s70 (hD hi Si)) (by decide) ?_
      rintro z4 h2 ⟨e0, rfl⟩
      subst h2
      rw [d_at_in rg, cl, ec]
      refine b204_42 (pl _) (by decide) ?_
      rintro z5 h2 ⟨e0, p2, rfl, hp2, fp2⟩
      subst h2
      refine b204_45 (show q_mI 0 206 [.int (nI p1), .int (nI p2)] hi (fun z h' => h' = hi ∧ z = nI (7 * p1 + p2)) from q_mI.of (q_recS rfl) (fun Q2 fin2 => b206_0 (fin2 _ _ ⟨rfl, by rw [show nI p1 * 7 = nI (p1 * 7) from pk_mul p1 7, nI_add, Nat.mul_comm]⟩))) (by decide) ?_
      rintro z6 h2 ⟨e0, rfl⟩
      subst h2
      have next : ∀ h3 l5 l6 l7, q_Ef [v] h h3 → (∀ i j u, i < n → j < n → u < 2 → qL h3 v (7 * i + j + 49 * u) = Int64.ofNat (t_pk (qA h c) u (M i) (M j) (L + 1))) → q_wp 2 204 104 [some (.ref 624), some (.ref o), some (.ref w), some (.ref v), some (.int (nI L)), some (.int l5), some (.int l6), some (.int l7)] [] h3 Q := by
        intro h3 l5 l6 l7 e3 hg3
        refine b204_104 ?_
        rw [nI_1]
        exact ih (L + 1) h3 _ _ _ (by omega) e3 hg3
      rcases D.1.2.1 L (by omega) with h9 | ⟨⟨s0, hs0, es0⟩, ⟨a, ha, ea⟩, b, hb, eb⟩
      · rw [h9]
        refine b204_48 (fun h1 => absurd h1 (by decide)) (fun _ => b204_57 (b204_67 (fun _ => next hi _ _ _ e (fun i j u h1 h2 h3 => ?_)) (fun h1 => absurd rfl h1)))
        rw [hg i j u h1 h2 h3, t_pk_no]
        rintro k hk ⟨h4, _⟩
        rw [h9] at h4
        exact absurd h4.symm (q_on_ne (by omega))
      · have he := D.2 L (by omega) (by rw [es0]; exact q_on_ne (by omega))
        rw [ea, eb, nI_clamp (by omega), nI_clamp (by omega)] at he
        obtain ⟨i0, hi0, ei0⟩ := onto a ha he.1
        obtain ⟨j0, hj0, ej0⟩ := onto b hb he.2
        obtain rfl := fp1 i0 hi0 (by rw [ei0]; exact ea)
        obtain rfl := fp2 j0 hj0 (by rw [ej0]; exact eb)
        rw [es0]
        have pos : ∀ (x7 : Int32), x7 = nI (7 * p1 + p2 + 49 * (s0 / 6)) → q_wp 2 204 67 [some (.ref 624), some (.ref o), some (.ref w), some (.ref v), some (.int (nI L)), some (.int (nI s0)), some (.int (nI (7 * p1 + p2))), l7] [.int x7] hi Q := by
          rintro x7 rfl
          have c98 : 7 * p1 + p2 + 49 * (s0 / 6) < 98 := by omega
          have lv := hv hi Si
          refine b204_67 (fun h1 => absurd h1 (q_on_ne (by omega))) (fun _ => b204_75 (fun h1 => absurd h1 (nI_pos (by omega))) (fun _ => b204_80 lv.1 (by decide) (fun h1 => ?_) (fun _ => b204_87 lv.1 (q_inN (by rw [lv.2]; exact c98) (by rw [lv.2]; decide)) (by decide) (next _ _ _ _ (e.trans (q_Ef.sL (by simp))) (fun i j u h1 h2 h3 => ?_)))))
          · have h1 : nI 98 ≤ nI (7 * p1 + p2 + 49 * (s0 / 6)) := by
              rw [lv.2] at h1
              exact h1
            have := (nI_leI (by omega) (by omega)).mp h1
            omega
          · rw [nI_clamp (by omega), qL_sLs, t_sort6 s0 (by omega), t_one (s0 % 6) (by omega)]
            have sp : s0 = 6 * (s0 / 6) + s0 % 6 := by omega
            by_cases hc : 7 * i + j + 49 * u = 7 * p1 + p2 + 49 * (s0 / 6)
            · have u1 : u = s0 / 6 := by omega
              have i1 : i = p1 := by omega
              have j1 : j = p2 := by omega
              rw [if_pos hc, hg p1 p2 (s0 / 6) hi0 hj0 (by omega), u1, i1, j1, t_pk_yes (k := s0 % 6) (by omega) (by omega) ⟨by rw [← sp]; exact es0, by rw [ei0]; exact ea, by rw [ej0]; exact eb⟩, Int64.ofNat_add]
            · rw [if_neg hc, hg i j u h1 h2 h3, t_pk_no]
              rintro k hk ⟨h4, h5, h6⟩
              have q4 := (nI_eq (by omega) (by omega)).mp (es0.symm.trans h4)
              have mi := (hM i h1).2
              have mj := (hM j h2).2
              have q5 := (nI_eq (by omega) (by omega)).mp (ea.symm.trans h5)
              have q6 := (nI_eq (by omega) (by omega)).mp (eb.symm.trans h6)
              have q7 := inj p1 i hi0 h1 (ei0.trans q5)
              have q8 := inj p2 j hj0 h2 (ej0.trans q6)
              omega
        refine b204_48 (fun h1 => b204_62 (pos _ ?_)) (fun h1 => b204_57 (pos _ ?_))
        · have := (nI_leI (a := 6) (by decide) (by omega)).mp h1
          rw [show s0 / 6 = 1 by omega]
          exact nI_add _ 49
        · have := mt (nI_leI (a := 6) (b := s0) (by decide) (by omega)).mpr h1
          rw [show s0 / 6 = 0 by omega]
          rfl
  refine b204_0 (s351 (hv h S).1 (hv h S).2 (by decide)) (by decide) ?_
  rintro h1 ⟨e1, z1⟩
  refine b204_5 (loop 40 0 h1 none none none rfl e1 (fun i j u h2 h3 h4 => ?_))
  rw [z1 _ (by omega)]
  have : t_pk (qA h c) u (M i) (M j) 0 = 0 := t_sum_0 6 (fun k _ => Nat.zero_mul _)
  rw [this]
  rfl
