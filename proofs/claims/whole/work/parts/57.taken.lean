/-! ALL OF A RULE: what is taken, and the desk's side -/
def m_dj (N v y : Nat) : Prop := ∀ i j, i < N → j < N → ¬ m_im N y i = m_im N v j
noncomputable def m_tk (M : Nat → Bool) (N : Nat) : Nat → List Nat
  | 0 => []
  | v + 1 => if m_dc (M v = true ∧ ∀ y, y ∈ m_tk M N v → m_dj N v y) = true then m_tk M N v ++ [v] else m_tk M N v
theorem m_tk_y {M : Nat → Bool} {N v : Nat} (h : M v = true ∧ ∀ y, y ∈ m_tk M N v → m_dj N v y) : m_tk M N (v + 1) = m_tk M N v ++ [v] := if_pos (m_dc_t.mpr h)
theorem m_tk_n {M : Nat → Bool} {N v : Nat} (h : ¬ (M v = true ∧ ∀ y, y ∈ m_tk M N v → m_dj N v y)) : m_tk M N (v + 1) = m_tk M N v := if_neg (fun h2 => h (m_dc_t.mp h2))
theorem m_tk_skip {M : Nat → Bool} {N s : Nat} : ∀ m, (∀ y, s ≤ y → y < s + m → M y = false) → m_tk M N (s + m) = m_tk M N s := by
  intro m
  induction m with
  | zero => intro _; rfl
  | succ m ih =>
    intro h
    rw [← Nat.add_assoc, m_tk_n, ih (fun y h1 h2 => h y h1 (by omega))]
    rintro ⟨h1, _⟩
    rw [h (s + m) (by omega) (by omega)] at h1
    cases h1
/-- the nodes that are used -/
noncomputable def m_us (N : Nat) (T : List Nat) (j : Nat) : Bool := m_dc (∃ y, y ∈ T ∧ ∃ i, i < N ∧ m_im N y i = j)
theorem q_cnt_lt {p q : Nat → Bool} {i : Nat} : ∀ n, i < n → (∀ j, p j = true → q j = true) → p i = false → q i = true → q_cnt p n + 1 ≤ q_cnt q n := by
  have le : ∀ n, (∀ j, p j = true → q j = true) → q_cnt p n ≤ q_cnt q n := by
    intro n h
    induction n with
    | zero => exact Nat.le_refl _
    | succ n ih =>
      rw [q_cnt_s, q_cnt_s]
      by_cases h1 : p n = true
      · rw [if_pos h1, if_pos (h n h1)]
        omega
      · rw [if_neg h1]
        omega
  intro n
  induction n with
  | zero => intro h; omega
  | succ n ih =>
    intro h e h1 h2
    rw [q_cnt_s, q_cnt_s]
    by_cases hi : i = n
    · subst hi
      have := le i e
      rw [h1, h2, if_pos rfl, if_neg (by decide)]
      omega
    · have := ih (by omega) e h1 h2
      by_cases h3 : p n = true
      · rw [if_pos h3, if_pos (e n h3)]
        omega
      · rw [if_neg h3]
        omega
theorem q_cnt_all {p : Nat → Bool} : ∀ n, q_cnt p n = n → ∀ i, i < n → p i = true := by
  intro n
  induction n with
  | zero => intro _ i hi; omega
  | succ n ih =>
    intro h i hi
    rw [q_cnt_s] at h
    have h1 := q_cnt_le p n
    by_cases h2 : p n = true
    · rw [if_pos h2] at h
      by_cases h3 : i = n
      · rw [h3]; exact h2
      · exact ih (by omega) i (by omega)
    · rw [if_neg h2] at h
      omega
theorem m_tk_us {M : Nat → Bool} {N : Nat} (hN : 0 < N) : ∀ v, (m_tk M N v).length ≤ q_cnt (m_us N (m_tk M N v)) 12 := by
  intro v
  induction v with
  | zero => exact Nat.zero_le _
  | succ v ih =>
    by_cases h : M v = true ∧ ∀ y, y ∈ m_tk M N v → m_dj N v y
    · rw [m_tk_y h, List.length_append]
      have h1 : q_cnt (m_us N (m_tk M N v)) 12 + 1 ≤ q_cnt (m_us N (m_tk M N v ++ [v])) 12 := by
        refine q_cnt_lt (i := m_im N v 0) 12 m_im_lt (fun j hj => ?_) ?_ ?_
        · obtain ⟨y, y1, y2⟩ := m_dc_t.mp hj
          exact m_dc_t.mpr ⟨y, List.mem_append.mpr (Or.inl y1), y2⟩
        · refine m_dc_f.mpr ?_
          rintro ⟨y, y1, i, i1, i2⟩
          exact h.2 y y1 i 0 i1 hN i2
        · exact m_dc_t.mpr ⟨v, List.mem_append.mpr (Or.inr (List.mem_singleton.mpr rfl)), 0, hN, rfl⟩
      show (m_tk M N v).length + 1 ≤ _
      omega
    · rw [m_tk_n h]
      exact ih
theorem m_tk_full {M : Nat → Bool} {N s : Nat} (hN : 0 < N) (h : (m_tk M N s).length = 12) : ∀ m, m_tk M N (s + m) = m_tk M N s := by
  have h1 := m_tk_us (M := M) hN s
  have h2 := q_cnt_le (m_us N (m_tk M N s)) 12
  have h3 := q_cnt_all 12 (show q_cnt (m_us N (m_tk M N s)) 12 = 12 by omega)
  intro m
  induction m with
  | zero => rfl
  | succ m ih =>
    rw [← Nat.add_assoc, m_tk_n, ih]
    rintro ⟨_, h4⟩
    rw [ih] at h4
    obtain ⟨y, y1, i, i1, i2⟩ := m_dc_t.mp (h3 (m_im N (s + m) 0) m_im_lt)
    exact h4 y y1 i 0 i1 hN i2
theorem m_tk_le {M : Nat → Bool} {N v : Nat} (hv : v ≤ 12 ^ N) : (m_tk M N v).length ≤ 12 := by
  rcases Nat.eq_zero_or_pos N with h | h
  · subst h
    have key : ∀ v, (m_tk M 0 v).length ≤ v := by
      intro v
      induction v with
      | zero => exact Nat.le_refl _
      | succ v ih =>
        by_cases h : M v = true ∧ ∀ y, y ∈ m_tk M 0 v → m_dj 0 v y
        · rw [m_tk_y h, List.length_append]
          show _ + 1 ≤ _
          omega
        · rw [m_tk_n h]
          omega
    have := key v
    omega
  · have := m_tk_us (M := M) h v
    have := q_cnt_le (m_us N (m_tk M N v)) 12
    omega
/-- frame of the search alone, with what is taken -/
theorem s119 {h : q_Hp} {b r : Nat} {B : q_Bk} {g : Nat → Int32} (X : c_X h b B g) (hr : r < bN B 2) : q_mV 5 119 [.ref 610, .ref b, .int (nI r)] h (fun h' => q_Ef [601, 602, 603, 604, 605, 606, 607, 610, 613] h h' ∧ qI h' 601 14 = qI h 601 14 ∧ qI h' 601 15 = qI h 601 15 ∧ qI h' 610 6 = nI (m_tk (m_M B (qA h 598) (bR B r)) (bR B r 0 0) (12 ^ bR B r 0 0)).length ∧ ∀ m i, m < (m_tk (m_M B (qA h 598) (bR B r)) (bR B r 0 0) (12 ^ bR B r 0 0)).length → i < bR B r 0 0 → qA h' 613 (4 * m + i) = nI (m_im (bR B r 0 0) ((m_tk (m_M B (qA h 598) (bR B r)) (bR B r 0 0) (12 ^ bR B r 0 0)).getD m 0) i)) := by
  have S := X.1
  have w := X.2.2.1
  have wr : q_wR B (bR B r) := w.2.2.2.2.2.2.2.2.2.2 r hr
  have h4 : bR B r 0 0 ≤ 4 := wr.1
  have tp := m_top h4
  refine q_mV.of (q_recV rfl (S.ok rfl)) (fun Q fin => ?_)
  have e0 : q_Ef [610] h (q_sI h 610 6 0) := q_Ef.sI (by decide)
  have i0 : qI (q_sI h 610 6 0) 610 6 = 0 := rfl
  have j0 : qI (q_sI h 610 6 0) 601 = qI h 601 := e0.I (by decide)
  have f0 : qA (q_sI h 610 6 0) 598 = qA h 598 := e0.A (by decide)
  have Xa : c_X (q_sI h 610 6 0) b B g := X.fr e0 rfl
  refine b119_0 (S.ok rfl) (S.ref (v := 601) rfl) (s91' Xa hr) (by decide) ?_
  generalize q_sI h 610 6 0 = h0 at e0 i0 j0 f0 Xa
  rintro h1 ⟨e1, A, at0⟩
  rw [f0] at at0
  refine b119_16 ?_
  have out : ∀ h2 s0, s0 ≤ 12 ^ bR B r 0 0 → q_Ef [601, 602, 603, 604, 605, 606, 607, 610, 613] h h2 → qI h2 601 14 = qI h 601 14 → qI h2 601 15 = qI h 601 15 → qI h2 610 6 = nI (m_tk (m_M B (qA h 598) (bR B r)) (bR B r 0 0) s0).length → (∀ m i, m < (m_tk (m_M B (qA h 598) (bR B r)) (bR B r 0 0) s0).length → i < bR B r 0 0 → qA h2 613 (4 * m + i) = nI (m_im (bR B r 0 0) ((m_tk (m_M B (qA h 598) (bR B r)) (bR B r 0 0) s0).getD m 0) i)) → (m_tk (m_M B (qA h 598) (bR B r)) (bR B r 0 0) (12 ^ bR B r 0 0) = m_tk (m_M B (qA h 598) (bR B r)) (bR B r 0 0) s0) → Q none h2 := by
    intro h2 s0 hs e c14 c15 cn ct et
    refine fin _ ⟨e, c14, c15, ?_, ?_⟩
    · rw [et]; exact cn
    · rw [et]; exact ct
  have loop : ∀ m t s0 (x3 : Int32) h2 l5 l6, t + m = 1000000 → t ≤ s0 → s0 ≤ 12 ^ bR B r 0 0 → q_Ef [601, 602, 603, 604, 605, 606, 607, 610, 613] h h2 → qI h2 601 14 = qI h 601 14 → qI h2 601 15 = qI h 601 15 → m_A h2 b (b + 9 + 14 * r) B (bR B r) g → m_at h2 B (qA h 598) (bR B r) s0 → qI h2 610 6 = nI (m_tk (m_M B (qA h 598) (bR B r)) (bR B r 0 0) s0).length → (∀ m i, m < (m_tk (m_M B (qA h 598) (bR B r)) (bR B r 0 0) s0).length → i < bR B r 0 0 → qA h2 613 (4 * m + i) = nI (m_im (bR B r 0 0) ((m_tk (m_M B (qA h 598) (bR B r)) (bR B r 0 0) s0).getD m 0) i)) → (∀ j, j < 32 → (bt x3 j = true ↔ ∃ y, y ∈ m_tk (m_M B (qA h 598) (bR B r)) (bR B r 0 0) s0 ∧ ∃ i, i < bR B r 0 0 ∧ m_im (bR B r 0 0) y i = j)) → q_wp 5 119 19 [some (.ref 610), some (.ref b), some (.int (nI r)), some (.int x3), some (.int (nI t)), l5, l6] [] h2 Q := by
    intro m
    induction m with
    | zero => intro t s0 x3 h2 l5 l6 ht hts hs; omega
    | succ m ih =>
      intro t s0 x3 h2 l5 l6 ht hts hs e c14 c15 A2 at2 cn ct cb
      have S2 := A2.1.1
      have f2 : qA h2 598 = qA h 598 := e.A (by decide)
      have tl := m_tk_le (M := m_M B (qA h 598) (bR B r)) (N := bR B r 0 0) (v := s0) hs
      rw [← f2] at at2
      refine b119_19 (fun h9 => absurd ((nI_gec (k := 1000000) (by omega) (by decide) rfl).mp h9) (by omega)) (fun _ => b119_26 (S2.ok rfl) (fun c1 => b119_122 ?_) (fun c1 => b119_35 (S2.ok rfl) (S2.ref (v := 601) rfl) (s94 A2 at2) (by decide) ?_))
      · rw [cn] at c1
        have c2 : (m_tk (m_M B (qA h 598) (bR B r)) (bR B r 0 0) s0).length = 12 := by
          have := (nI_gec (k := 12) (by omega) (by decide) rfl).mp c1
          omega
        have hN : 0 < bR B r 0 0 := by
          rcases Nat.eq_zero_or_pos (bR B r 0 0) with h9 | h9
          · rw [h9] at hs
            have key : ∀ v, (m_tk (m_M B (qA h 598) (bR B r)) (bR B r 0 0) v).length ≤ v := by
              intro v
              induction v with
              | zero => exact Nat.le_refl _
              | succ v ih =>
                by_cases h : m_M B (qA h 598) (bR B r) v = true ∧ ∀ y, y ∈ m_tk (m_M B (qA h 598) (bR B r)) (bR B r 0 0) v → m_dj (bR B r 0 0) v y
                · rw [m_tk_y h, List.length_append]
                  show _ + 1 ≤ _
                  omega
                · rw [m_tk_n h]
                  omega
            have := key s0
            omega
          · exact h9
        refine out h2 s0 hs e c14 c15 cn ct ?_
        have := m_tk_full hN c2 (12 ^ bR B r 0 0 - s0)
        rw [show s0 + (12 ^ bR B r 0 0 - s0) = 12 ^ bR B r 0 0 by omega] at this
        exact this
      · have c2 : (m_tk (m_M B (qA h 598) (bR B r)) (bR B r 0 0) s0).length < 12 := by
          rcases Nat.lt_or_ge (m_tk (m_M B (qA h 598) (bR B r)) (bR B r 0 0) s0).length 12 with h9 | h9
          · exact h9
          · rw [cn] at c1
            exact absurd ((nI_gec (k := 12) (by omega) (by decide) rfl).mpr h9) c1
        rintro z h3 ⟨e3, rfl, g3⟩
        rw [f2] at g3 ⊢
        have e4 : q_Ef [601, 602, 603, 604, 605, 606, 607, 610, 613] h h3 := e.trans (e3.1.wide (by decide))
        have A3 := A2.fw e3
        have S3 := A3.1.1
        have f3 : qA h3 598 = qA h 598 := e4.A (by decide)
        have cn3 : qI h3 610 6 = nI (m_tk (m_M B (qA h 598) (bR B r)) (bR B r 0 0) s0).length := by rw [e3.I (show 610 ∉ [601, 602, 603, 607] by decide)]; exact cn
        have ct3 : qA h3 613 = qA h2 613 := e3.A (by decide)
        have d14 : qI h3 601 14 = qI h 601 14 := (e3.2.2 14 (by decide)).trans c14
        have d15 : qI h3 601 15 = qI h 601 15 := (e3.2.2 15 (by decide)).trans c15
        cases hv : q_fst (m_M B (qA h 598) (bR B r)) s0 (12 ^ bR B r 0 0 - s0) with
        | none =>
          refine b119_42 (fun _ => b119_122 (out h3 s0 hs e4 d14 d15 cn3 (by rw [ct3]; exact ct) ?_)) (fun h9 => absurd rfl h9)
          have := m_tk_skip (M := m_M B (qA h 598) (bR B r)) (N := bR B r 0 0) (s := s0) (12 ^ bR B r 0 0 - s0) ((q_fst_none _ _).mp hv)
          rw [show s0 + (12 ^ bR B r 0 0 - s0) = 12 ^ bR B r 0 0 by omega] at this
          exact this
        | some v =>
          obtain ⟨at3, n3, _⟩ := g3 v hv
          have hv2 := (q_fst_some _ _ _).mp hv
          have tv : m_tk (m_M B (qA h 598) (bR B r)) (bR B r 0 0) v = m_tk (m_M B (qA h 598) (bR B r)) (bR B r 0 0) s0 := by
            have := m_tk_skip (M := m_M B (qA h 598) (bR B r)) (N := bR B r 0 0) (s := s0) (v - s0) (fun y h1 h2 => hv2.2.2.2 y h1 (by omega))
            rw [show s0 + (v - s0) = v by omega] at this
            exact this
          refine b119_42 (fun h9 => absurd (show (1 : Int32) = 0 from h9) (by decide)) (fun _ => b119_45 (S3.ok rfl) (S3.ref (v := 601) rfl) (s112 (im := m_im (bR B r 0 0) v) A3.1 (A3.2.2.2.2.1.1 0 (by decide)) h4 n3) (by decide) ?_)
          rintro z h5 ⟨e0', hz⟩
          subst h5
          have dis : z &&& x3 = 0 ↔ ∀ y, y ∈ m_tk (m_M B (qA h 598) (bR B r)) (bR B r 0 0) s0 → m_dj (bR B r 0 0) v y := by
            rw [bi_dis]
            constructor
            · intro h9 y hy i j hi hj hij
              have hlt : m_im (bR B r 0 0) v j < 12 := m_im_lt
              exact h9 (m_im (bR B r 0 0) v j) (by omega) ⟨(hz _ (by omega)).mpr ⟨j, hj, rfl⟩, (cb _ (by omega)).mpr ⟨y, hy, i, hi, hij⟩⟩
            · rintro h9 x hx ⟨a1, a2⟩
              obtain ⟨j, j1, j2⟩ := (hz x hx).mp a1
              obtain ⟨y, y1, i, i1, i2⟩ := (cb x hx).mp a2
              exact h9 y y1 i j i1 j1 (i2.trans j2.symm)
          refine b119_52 (fun c3 => b119_116 ?_) (fun c3 => b119_61 ?_)
          · have tn : m_tk (m_M B (qA h 598) (bR B r)) (bR B r 0 0) (v + 1) = m_tk (m_M B (qA h 598) (bR B r)) (bR B r 0 0) s0 := by
              rw [m_tk_n, tv]
              rintro ⟨_, h9⟩
              rw [tv] at h9
              exact c3 (dis.mpr h9)
            rw [nI_1]
            refine ih (t + 1) (v + 1) x3 h3 _ _ (by omega) (by omega) (by omega) e4 d14 d15 A3 at3 ?_ ?_ ?_
            · rw [tn]; exact cn3
            · rw [tn, ct3]; exact ct
            · rw [tn]; exact cb
          · have ty : m_tk (m_M B (qA h 598) (bR B r)) (bR B r 0 0) (v + 1) = m_tk (m_M B (qA h 598) (bR B r)) (bR B r 0 0) s0 ++ [v] := by
              rw [m_tk_y, tv]
              refine ⟨hv2.2.2.1, ?_⟩
              rw [tv]
              exact dis.mp c3
            generalize hT : m_tk (m_M B (qA h 598) (bR B r)) (bR B r 0 0) s0 = T at *
            -- the four nodes
            have inner : ∀ m2 i h5, i + m2 = 4 → q_Ef [613] h3 h5 → (∀ j, j < i → j < bR B r 0 0 → qA h5 613 (4 * T.length + j) = nI (m_im (bR B r 0 0) v j)) → (∀ x, x < 4 * T.length → qA h5 613 x = qA h3 613 x) → q_wp 5 119 69 [some (.ref 610), some (.ref b), some (.int (nI r)), some (.int (x3 ||| z)), some (.int (nI t)), some (.int z), some (.int (nI i))] [] h5 Q := by
              intro m2
              induction m2 with
              | zero =>
                intro i h5 hi2 e5 p1 p2
                obtain rfl : i = 4 := by omega
                have S5 := e5.sh S3
                have i610 : qI h5 610 6 = nI T.length := by rw [e5.I (show 610 ∉ [613] by decide)]; exact cn3
                refine b119_69 (fun _ => b119_106 (S5.ok rfl) (b119_116 ?_)) (fun h9 => absurd (Int32.le_refl _) h9)
                rw [i610, nI_1, nI_1]
                have e6 : q_Ef [610, 613] h3 (q_sI h5 610 6 (nI (T.length + 1))) := (e5.wide (by decide)).trans (q_Ef.sI (by decide))
                have j6 : qI (q_sI h5 610 6 (nI (T.length + 1))) 610 6 = nI (T.length + 1) := rfl
                have a6 : qA (q_sI h5 610 6 (nI (T.length + 1))) 613 = qA h5 613 := rfl
                generalize q_sI h5 610 6 (nI (T.length + 1)) = h6 at e6 j6 a6
                have k6 : ∀ j, qI h6 601 j = qI h3 601 j := fun j => congrFun (e6.I (by decide)) j
                have A6 := A3.of e6 rfl (e6.R (by decide))
                have at6 : m_at h6 B (qA h 598) (bR B r) (v + 1) := by
                  unfold m_at m_nd
                  rw [k6, e6.A (show 602 ∉ [610, 613] by decide)]
                  exact at3
                refine ih (t + 1) (v + 1) _ h6 _ _ (by omega) (by omega) (by omega) (e4.trans (e6.wide (by decide))) ((k6 14).trans d14) ((k6 15).trans d15) A6 at6 ?_ ?_ ?_
                · rw [ty, List.length_append]
                  exact j6
                · rw [ty, List.length_append]
                  intro m3 i3 hm3 hi3
                  have hm3 : m3 < T.length + 1 := hm3
                  rw [a6]
                  by_cases h9 : m3 = T.length
                  · rw [h9, m_ge]
                    exact p1 i3 (by omega) hi3
                  · rw [m_gd (by omega), p2 _ (by omega), ct3]
                    exact ct m3 i3 (by omega) hi3
                · intro j hj
                  rw [ty, b_or, Bool.or_eq_true, cb j hj, hz j hj]
                  constructor
                  · rintro (⟨y, y1, y2⟩ | h9)
                    · exact ⟨y, List.mem_append.mpr (Or.inl y1), y2⟩
                    · exact ⟨v, List.mem_append.mpr (Or.inr (List.mem_singleton.mpr rfl)), h9⟩
                  · rintro ⟨y, y1, y2⟩
                    rcases List.mem_append.mp y1 with h9 | h9
                    · exact Or.inl ⟨y, h9, y2⟩
                    · rw [List.mem_singleton.mp h9] at y2
                      exact Or.inr y2
              | succ m2 ih2 =>
                intro i h5 hi2 e5 p1 p2
                have S5 := e5.sh S3
                have i610 : qI h5 610 6 = nI T.length := by rw [e5.I (show 610 ∉ [613] by decide)]; exact cn3
                refine b119_69 (fun h9 => absurd ((nI_gec (k := 4) (by omega) (by decide) rfl).mp h9) (by omega)) (fun _ => b119_75 (S5.ok rfl) (S5.ref (v := 613) rfl) (S5.ref (v := 601) rfl) (s110 S5) (by decide) ?_)
                rintro y h6 ⟨e9, rfl⟩
                subst h6
                rw [i610, show nI T.length * 4 = nI (T.length * 4) from pk_mul _ 4, nI_add, c_at_n (show i < 4 by omega) (by decide), e5.A (show 602 ∉ [613] by decide)]
                refine b119_97 (s233 (S5.ok rfl) (S5.len (n := 48) rfl) (by decide)) (by decide) ?_
                rintro h6 rfl
                rw [c_set_in (by omega) (by decide)]
                refine b119_100 ?_
                rw [nI_1]
                have q3 : qA (q_sA h5 613 (T.length * 4 + i) (qA h3 602 i)) 613 = upd (qA h5 613) (T.length * 4 + i) (qA h3 602 i) := qA_sAu _ _ _ _
                refine ih2 (i + 1) _ (by omega) (e5.trans (q_Ef.sA (by decide))) (fun j hj hjN => ?_) (fun x hx => ?_)
                · rw [q3]
                  by_cases h9 : j = i
                  · rw [h9, show 4 * T.length + i = T.length * 4 + i by omega, upd_eq]
                    exact (n3 i (by omega)).1
                  · rw [upd_ne (by omega)]
                    exact p1 j (by omega) hjN
                · rw [q3, upd_ne (by omega)]
                  exact p2 x hx
            exact inner 4 0 h3 rfl q_Ef.rf (fun j hj => absurd hj (Nat.not_lt_zero _)) (fun _ _ => rfl)
  exact loop 1000000 0 0 0 h1 _ _ rfl (Nat.le_refl _) (Nat.zero_le _) ((e0.wide (by decide)).trans (e1.1.wide (by decide))) (e1.2.1.trans (congrFun j0 14)) (e1.2.2.trans (congrFun j0 15)) A at0 ((congrFun (e1.I (show 610 ∉ [601, 602, 603, 604, 605, 606, 607] by decide)) 6).trans i0) (fun m i hm => absurd hm (Nat.not_lt_zero _)) (fun j _ => by rw [b_0]; exact ⟨fun h => absurd h (by decide), fun ⟨y, h1, _⟩ => by cases h1⟩)
/-- is it a match still -/
theorem s98 {h : q_Hp} {b r m : Nat} {B : q_Bk} {g : Nat → Int32} {im : Nat → Nat} (X : c_X h b B g) (hr : r < bN B 2) (hm : m < 12) (hs : ∀ i, i < bR B r 0 0 → qA h 613 (4 * m + i) = nI (im i) ∧ im i < 12) : q_mI 4 98 [.ref 601, .ref b, .int (nI r), .ref 613, .int (nI (4 * m))] h (fun z h' => m_fa h h' ∧ z = b2i (m_dc (∃ L, m_ma B (qA h 598) im (bR B r) L)) ∧ ∀ L, m_ma B (qA h 598) im (bR B r) L → m_A h' b (b + 9 + 14 * r) B (bR B r) g ∧ m_nd h' (bR B r 0 0) im ∧ ∀ i, i < bR B r 0 1 → qA h' 603 i = nI (L.getD i 0)) := by
  have S := X.1
  have w := X.2.2.1
  have wr : q_wR B (bR B r) := w.2.2.2.2.2.2.2.2.2.2 r hr
  have h4 : bR B r 0 0 ≤ 4 := wr.1
  refine q_mI.of (q_recV rfl (S.ok rfl)) (fun Q fin => ?_)
  have bad : ∀ h', m_fa h h' → (∀ L, ¬ m_ma B (qA h 598) im (bR B r) L) → Q (some (.int 0)) h' := by
    intro h' e1 h1
    refine fin _ _ ⟨e1, ?_, fun L h2 => absurd h2 (h1 L)⟩
    rw [m_dc_f.mpr (fun ⟨L, h2⟩ => h1 L h2)]
    rfl
  refine b98_0 (s91' X hr) (by decide) ?_
  rintro h1 ⟨e1, A, _⟩
  refine b98_6 ?_
  have ho := A.1.2.2.1
  have loop : ∀ m2 i h2 l6, i + m2 = bR B r 0 0 → m_fw h1 h2 → m_nd h2 i im → (∀ j, j < i → m_su B (qA h 598) im (bR B r) j (im j)) → q_wp 4 98 9 [some (.ref 601), some (.ref b), some (.int (nI r)), some (.ref 613), some (.int (nI (4 * m))), some (.int (nI i)), l6] [] h2 Q := by
    intro m2
    induction m2 with
    | zero =>
      intro i h2 l6 hi e2 n2 su
      obtain rfl : i = bR B r 0 0 := by omega
      have A2 := A.fw e2
      have S2 := A2.1.1
      have e3 := e1.trans e2.fa
      have f2 : qA h2 598 = qA h 598 := e3.A (by decide)
      refine b98_9 (S2.ok rfl) A2.1.2.2.2.2 (S2.oo ho) (fun _ => b98_71 (s99 A2 n2) (by decide) ?_) (fun h9 => absurd (by rw [A2.2.2.2.2.1.1 0 (by decide)]; exact Int32.le_refl _) h9)
      rintro z h3 ⟨a1, a2, rfl, a4⟩
      rw [f2] at a4 ⊢
      have e4 := e3.trans a1.fw.fa
      refine b98_75 (b2i_01 _) (fin _ _ ⟨e4, ?_, fun L hL => ⟨A2.fr a1, n2.fs a2, a4 L hL.2.2⟩⟩)
      congr 1
      rw [Bool.eq_iff_iff, m_dc_t, m_dc_t]
      exact ⟨fun ⟨L, hL⟩ => ⟨L, m_su_ma su hL⟩, fun ⟨L, hL⟩ => ⟨L, hL.2.2⟩⟩
    | succ m2 ih =>
      intro i h2 l6 hi e2 n2 su
      have A2 := A.fw e2
      have S2 := A2.1.1
      have e3 := e1.trans e2.fa
      have f2 : qA h2 598 = qA h 598 := e3.A (by decide)
      obtain ⟨s1, s2⟩ := hs i (by omega)
      have eI : qI h2 (b + 9 + 14 * r) 0 = nI (bR B r 0 0) := A2.2.2.2.2.1.1 0 (by decide)
      refine b98_9 (S2.ok rfl) A2.1.2.2.2.2 (S2.oo ho) (fun h9 => absurd ((nI_leI (by omega) (by omega)).mp (eI ▸ h9)) (by omega)) (fun _ => b98_21 (fun h9 => absurd ((nI_gec (k := 4) (by omega) (by decide) rfl).mp h9) (by omega)) (fun _ => b98_27 (s232 (S2.ok rfl) (S2.len (n := 48) rfl) (by decide)) (by decide) ?_))
      rintro z h3 ⟨e0, ez⟩
      subst h3
      rw [nI_add, c_at_n (by omega) (by decide), e3.A (show 613 ∉ [601, 602, 603, 604, 605, 606, 607] by decide), s1] at ez
      subst ez
      refine b98_36 (fun h9 => absurd h9 (nI_pos (by omega))) (fun _ => b98_43 (s96 A2 n2 (by omega) s2) (by decide) ?_)
      rintro z h3 ⟨e0, rfl⟩
      subst h3
      rw [f2]
      refine b98_51 (fun c1 => b98_56 (S2.ok rfl) (S2.ref (v := 602) rfl) (S2.ok rfl) (S2.inN (n := 4) rfl (by omega) (by decide)) ?_) (fun c1 => b98_54 (bad _ e3 (fun L hL => ?_)))
      · rw [nI_1, nI_clamp (by omega)]
        refine ih (i + 1) _ _ (by omega) (e2.trans (m_fr.sA (by decide)).fw) (fun j hj => ?_) (fun j hj => ?_)
        · rw [qA_sAu]
          by_cases h9 : j = i
          · rw [h9, upd_eq]
            exact ⟨rfl, s2⟩
          · rw [upd_ne h9]
            exact n2 j (by omega)
        · by_cases h9 : j = i
          · rw [h9]
            exact m_dc_t.mp (b2i_ne.mp c1)
          · exact su j (by omega)
      · exact m_dc_f.mp (b2i_eq.mp c1) (m_ma_su hL i (by omega))
  exact loop (bR B r 0 0) 0 h1 _ (by omega) ⟨q_Ef.rf, rfl, fun _ _ => rfl⟩ (fun j hj => absurd hj (Nat.not_lt_zero _)) (fun j hj => absurd hj (Nat.not_lt_zero _))
