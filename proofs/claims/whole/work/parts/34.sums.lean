/-! SUMS: what a code is worth -/
def m_ok (v : Int64) : Bool := lg_cmp v ((v.toInt32 : Int32).toInt64) == 0
def m_cb (k : Nat) (x y : Int32) : Int64 := if k = 3 then x.toInt64 + y.toInt64 else if k = 4 then x.toInt64 - y.toInt64 else x.toInt64 * y.toInt64
def m_ev (K A : Nat → Nat) (num : Nat → Nat → Int32) : Nat → Nat → List Int32 → Option (List Int32)
  | _, 0, st => some st
  | i, m + 1, st =>
    if K i = 0 then m_ev K A num (i + 1) m (nI (A i) :: st)
    else if K i = 1 then m_ev K A num (i + 1) m (num (A i / 2) (A i % 2) :: st)
    else if K i = 2 then match st with
      | y :: st' => if m_ok (-(y.toInt64)) = true then m_ev K A num (i + 1) m ((-(y.toInt64)).toInt32 :: st') else none
      | [] => none
    else match st with
      | y :: x :: st' => if m_ok (m_cb (K i) x y) = true then m_ev K A num (i + 1) m ((m_cb (K i) x y).toInt32 :: st') else none
      | _ => none
/-- a stack in a row -/
def m_st (g : Nat → Int32) : List Int32 → Prop
  | [] => True
  | x :: st => g st.length = x ∧ m_st g st
theorem m_st_upd {g : Nat → Int32} {n : Nat} {v : Int32} : ∀ st : List Int32, st.length ≤ n → m_st g st → m_st (upd g n v) st := by
  intro st
  induction st with
  | nil => exact fun _ _ => trivial
  | cons x st ih =>
    intro hn h
    have h1 : st.length + 1 ≤ n := hn
    exact ⟨(upd_ne (by omega)).trans h.1, ih (by omega) h.2⟩
/-- the numbers that a code may look at -/
def m_nu (f : Nat → Int32) (im : Nat → Nat) (i k : Nat) : Int32 := f (12 * (k + 1) + im i)
def m_hv (h : q_Hp) (g : Nat → Int32) (v : Int32) : q_Hp := q_sI (q_wA h 607 g) 601 11 v
theorem q_sI_sI (h : q_Hp) (a j : Nat) (u v : Int32) : q_sI (q_sI h a j u) a j v = q_sI h a j v := by
  have e1 : q_up (q_up (qI h) a j u) a j v = q_up (qI h) a j v := by
    funext x y
    by_cases hx : x = a
    · subst hx
      rw [q_up_same, q_up_same, q_up_same]
      split <;> rfl
    · rw [q_up_ne hx, q_up_ne hx, q_up_ne hx]
  show (qN h, qK h, q_up (q_up (qI h) a j u) a j v, qR h, qA h, qL h, qZ h) = (qN h, qK h, q_up (qI h) a j v, qR h, qA h, qL h, qZ h)
  rw [e1]
theorem m_hv_I (h : q_Hp) (g : Nat → Int32) (u v : Int32) : q_sI (m_hv h g u) 601 11 v = m_hv h g v := q_sI_sI _ _ _ _ _
theorem m_hv_A (h : q_Hp) (g : Nat → Int32) (j : Nat) (u v : Int32) : q_sA (m_hv h g u) 607 j v = m_hv h (upd g j v) u := by
  show q_sI (q_sA (q_wA h 607 g) 607 j v) 601 11 u = m_hv h (upd g j v) u
  rw [q_sA_wA']
  rfl
theorem m_sh1 {a : Nat} (ha : a < 2 ^ 31) : nI a >>> ((1 : Int32) &&& 31) = nI (a / 2) := pk_shrN ha _ 1 (by decide)
theorem m_an1 {a : Nat} (ha : a < 2 ^ 31) : nI a &&& 1 = nI (a % 2) := pk_andN (by omega) 1 (by decide)
theorem m_hv_Sh {h : q_Hp} {g : Nat → Int32} {v : Int32} (S : q_Sh h) : q_Sh (m_hv h g v) := S
theorem m_okz {v : Int64} : lg_cmp v ((v.toInt32 : Int32).toInt64) = 0 ↔ m_ok v = true := by
  unfold m_ok
  exact (beq_iff_eq).symm
theorem c_at_n {f : Nat → Int32} {n j : Nat} (hj : j < n) (hn : n < 2 ^ 31) : c_at f n (nI j) = f j := c_at_in hj hn
theorem m_dec (n k : Nat) (h : k ≤ n) (hn : n < 2 ^ 31) : nI n - nI k = nI (n - k) := pk_sub h
theorem m_num {f : Nat → Int32} {x k : Nat} (hx : x < 12) (hk : k < 2) : d_num f (nI x) (nI k) = f (12 * (k + 1) + x) := by
  unfold d_num
  rw [if_pos (q_rgN hx (by decide)), nI_clamp (by omega)]
  rcases (show k = 0 ∨ k = 1 by omega) with rfl | rfl
  · rw [if_pos (show nI 0 = 0 by decide)]
  · rw [if_neg (show ¬ nI 1 = 0 by decide), if_pos (show nI 1 = 1 by decide)]
theorem lg_self (x : Int64) : lg_cmp x x = 0 := by
  unfold lg_cmp
  rw [if_neg (show ¬ x > x from Int64.lt_irrefl), if_pos rfl]
theorem s106 {h : q_Hp} {b o c s st0 en N : Nat} {K A : Nat → Nat} {im : Nat → Nat} {B : q_Bk} {V : Nat → Nat → Nat} (M : q_Mt h b o) (hC : qI h b 4 = nI c) (hc : c ≤ 1200) (hK : ∀ i, i < c → qA h (b + 6) i = nI (K i) ∧ qA h (b + 7) i = nI (A i) ∧ K i < 6 ∧ A i < 2 ^ 31) (hs : s < 16) (e1 : qA h (o + 12) s = nI st0) (e2 : qA h (o + 13) s = nI en) (h1 : st0 ≤ en) (h2 : en ≤ c) (hN : N ≤ 4) (hn : ∀ i, i < N → qA h 602 i = nI (im i) ∧ im i < 12) (eK : ∀ i, K i = bC B i 0) (eA : ∀ i, A i = bC B i 1) (eV : V 0 0 = N) (w : q_cd B V st0 (en - st0) 0 = some 1) : q_mI 1 106 [.ref 601, .int (nI s)] h (fun z h' => ∃ g v, h' = m_hv h g v ∧ ((v = 0 ∧ m_ev K A (m_nu (qA h 598) im) st0 (en - st0) [] = some [z]) ∨ (v = 1 ∧ m_ev K A (m_nu (qA h 598) im) st0 (en - st0) [] = none ∧ z = 0))) := by
  obtain ⟨S, hb, ho, f1, f2⟩ := M
  have hbb : b = 11 ∨ b = 300 := hb
  have hol := ho.le
  refine ⟨q_recV rfl (S.ok rfl), ?_⟩
  generalize hX : m_ev K A (m_nu (qA h 598) im) st0 (en - st0) [] = X
  have bad : ∀ g (x3 x4 x2 : Int32) (l5 l6 l7 : Option Value), X = none → q_wp 1 106 208 [some (.ref 601), some (.int (nI s)), some (.int x2), some (.int x3), some (.int x4), l5, l6, l7, none] [] (m_hv h g 1) (fun r h' => ∃ z : Int32, r = some (.int z) ∧ ∃ g v, h' = m_hv h g v ∧ ((v = 0 ∧ X = some [z]) ∨ (v = 1 ∧ X = none ∧ z = 0))) := by
    intro g x3 x4 x2 l5 l6 l7 hx
    exact b106_208 (S.ok rfl) (fun c1 => absurd (show (1 : Int32) = 0 from c1) (by decide)) (fun _ => b106_215 ⟨_, rfl, g, 1, rfl, Or.inr ⟨rfl, hx, rfl⟩⟩)
  have loop : ∀ m i g (st : List Int32) (l5 l6 l7 : Option Value), i + m = en → st.length ≤ 40 → m_st g st → q_cd B V i m st.length = some 1 → X = m_ev K A (m_nu (qA h 598) im) i m st → q_wp 1 106 36 [some (.ref 601), some (.int (nI s)), some (.int (nI st.length)), some (.int (nI en)), some (.int (nI i)), l5, l6, l7, none] [] (m_hv h g 0) (fun r h' => ∃ z : Int32, r = some (.int z) ∧ ∃ g v, h' = m_hv h g v ∧ ((v = 0 ∧ X = some [z]) ∨ (v = 1 ∧ X = none ∧ z = 0))) := by
    intro m
    induction m with
    | zero =>
      intro i g st l5 l6 l7 hi h40 hg hw hx
      obtain rfl : i = en := by omega
      have hl : st.length = 1 := Option.some.inj hw
      obtain ⟨z, rfl⟩ := List.length_eq_one_iff.mp hl
      exact b106_36 (fun _ => b106_208 (S.ok rfl) (fun _ => b106_219 (S.ok rfl) (S.ref (v := 607) rfl) (S.ok rfl) (S.inN (n := 64) (j := 0) rfl (by decide) (by decide)) ⟨_, rfl, g, 0, rfl, Or.inl ⟨rfl, by rw [hx]; exact congrArg (fun y => some [y]) hg.1.symm⟩⟩) (fun c1 => absurd (show (0 : Int32) = 0 from rfl) c1)) (fun h1 => absurd (Int32.le_refl _) h1)
    | succ m ih =>
      intro i g st l5 l6 l7 hi h40 hg hw hx
      have Sg : q_Sh (m_hv h g 0) := S
      have hC' : qI (m_hv h g 0) b 4 = nI c := (congrFun (qI_sI_ne (show ¬ b = 601 by omega)) 4).trans hC
      have hA : ∀ x, ¬ x = 607 → qA (m_hv h g 0) x = qA h x := fun x hx => qA_wA_ne hx
      obtain ⟨k1, k2, k3, k4⟩ := hK i (by omega)
      have fin : ∀ (x5 x6 : Int32) (v : Int64) (st' : List Int32), st'.length < 40 → m_st g st' → (m_ok v = true → X = m_ev K A (m_nu (qA h 598) im) (i + 1) m (v.toInt32 :: st') ∧ q_cd B V (i + 1) m (st'.length + 1) = some 1) → (m_ok v = false → X = none) → q_wp 1 106 169 [some (.ref 601), some (.int (nI s)), some (.int (nI st'.length)), some (.int (nI en)), some (.int (nI i)), some (.int x5), some (.int x6), some (.long v), none] [] (m_hv h g 0) (fun r h' => ∃ z : Int32, r = some (.int z) ∧ ∃ g v, h' = m_hv h g v ∧ ((v = 0 ∧ X = some [z]) ∨ (v = 1 ∧ X = none ∧ z = 0))) := by
        intro x5 x6 v st' hl hg' hy hn'
        have cs : ∀ u : Int32, c_set (q_sI (m_hv h g 0) 601 11 u) 607 64 (nI st'.length) v.toInt32 = m_hv h (upd g st'.length v.toInt32) u := by
          intro u
          rw [c_set_in (by omega) (by decide), m_hv_I, m_hv_A]
        refine b106_169 (fun c1 => b106_184 (b106_185 (S.ok rfl) (Or.inl rfl) (S.ok rfl) (S.ref (v := 607) rfl) (s233 (S.ok rfl) (S.len (n := 64) rfl) (by decide)) (by decide) ?_)) (fun c1 => b106_180 (b106_185 (S.ok rfl) (Or.inr rfl) (S.ok rfl) (S.ref (v := 607) rfl) (s233 (S.ok rfl) (S.len (n := 64) rfl) (by decide)) (by decide) ?_))
        · rintro h4 rfl
          rw [cs]
          refine b106_199 ?_
          rw [nI_1, nI_1]
          have h5 := hy (m_okz.mp c1)
          exact ih (i + 1) _ (v.toInt32 :: st') _ _ _ (by omega) (show st'.length + 1 ≤ 40 by omega) ⟨upd_eq, m_st_upd st' (Nat.le_refl _) hg'⟩ h5.2 h5.1
        · rintro h4 rfl
          rw [cs]
          refine b106_199 ?_
          have h5 : X = none := hn' (Bool.eq_false_iff.mpr (fun h6 => c1 (m_okz.mpr h6)))
          by_cases c9 : nI en ≤ nI i + 1
          · exact b106_36 (fun _ => bad _ _ _ _ _ _ _ h5) (fun h6 => absurd c9 h6)
          · exact b106_36 (fun h6 => absurd h6 c9) (fun _ => b106_42 (S.ok rfl) (fun _ => bad _ _ _ _ _ _ _ h5) (fun h6 => absurd (show (1 : Int32) = 0 from h6) (by decide)))
      refine b106_36 (fun c1 => absurd ((nI_leI (by omega) (by omega)).mp c1) (by omega)) (fun _ => b106_42 (S.ok rfl) (fun c1 => absurd (show (0 : Int32) = 0 from rfl) c1) (fun _ => b106_49 (S.ok rfl) f1 (s16 Sg hb hC' hc) (by decide) ?_))
      rintro z h3 ⟨e0, rfl⟩
      subst h3
      refine b106_58 (S.ok rfl) f1 (s17 Sg hb hC' hc) (by decide) ?_
      rintro z h3 ⟨e0, rfl⟩
      subst h3
      rw [if_pos (q_rgN (show i < c by omega) (by omega)), if_pos (q_rgN (show i < c by omega) (by omega)), nI_clamp (by omega), hA (b + 6) (by omega), hA (b + 7) (by omega), k1, k2]
      have hw0 := hw
      unfold m_ev at hx
      unfold q_cd at hw
      rw [← eK i, ← eA i] at hw
      refine b106_69 (fun c1 => ?_) (fun c1 => ?_)
      · have n1 : ¬ K i = 1 := fun h9 => c1 (by rw [h9]; rfl)
        refine b106_110 (fun c2 => ?_) (fun c2 => ?_)
        · have n2 : ¬ K i = 2 := fun h9 => c2 (by rw [h9]; rfl)
          refine b106_134 (fun c3 => ?_) (fun c3 => ?_)
          · have n0 : K i = 0 := (nI_eq (b := 0) (by omega) (by decide)).mp c3
            rw [if_pos n0] at hx
            rw [if_pos (by omega)] at hw
            split at hw
            next hq =>
              have t1 : ((nI (A i)).toInt64).toInt32 = nI (A i) := Int32.toInt32_toInt64 _
              refine fin _ _ _ st hq.2 hg (fun _ => ⟨by rw [t1]; exact hx, hw⟩) (fun h9 => ?_)
              unfold m_ok at h9
              rw [t1] at h9
              rw [lg_self] at h9
              exact absurd h9 (by decide)
            next => exact absurd hw (by decide)
          · have n0 : ¬ K i = 0 := fun h9 => c3 (by rw [h9]; rfl)
            rw [if_neg n0, if_neg n1, if_neg n2] at hx
            rw [if_neg (by omega), if_neg n2] at hw
            split at hw
            next hq =>
              match st, hq.2 with
              | y :: x :: st', _ =>
                have hx : X = if m_ok (m_cb (K i) x y) = true then m_ev K A (m_nu (qA h 598) im) (i + 1) m ((m_cb (K i) x y).toInt32 :: st') else none := hx
                have hg0 : g (st'.length + 1) = y := hg.1
                have hg1 : g st'.length = x := hg.2.1
                have hl : st'.length + 2 ≤ 40 := h40
                have ed : nI (y :: x :: st').length + (-2) = nI st'.length := by
                  show nI (st'.length + 2) + (-2) = _
                  rw [← nI_add st'.length 2, Int32.add_assoc, show nI 2 + (-2) = 0 by decide, Int32.add_zero]
                refine b106_139 (S.ok rfl) (S.ref (v := 607) rfl) (s232 (S.ok rfl) (S.len (n := 64) rfl) (by decide)) (by decide) ?_
                rintro z h3 ⟨e0, ez⟩
                subst h3
                rw [ed] at ez ⊢
                subst ez
                refine b106_152 (S.ok rfl) (S.ref (v := 607) rfl) (s232 (S.ok rfl) (S.len (n := 64) rfl) (by decide)) (by decide) ?_
                rintro z h3 ⟨e0, rfl⟩
                subst h3
                have g607 : qA (m_hv h g 0) 607 = g := qA_wAs h 607 g
                rw [g607, nI_1, c_at_in (show st'.length < 64 by omega) (by decide), c_at_in (show st'.length + 1 < 64 by omega) (by decide), hg0, hg1]
                refine b106_163 s107 (by decide) ?_
                rintro z h3 ⟨e0, rfl⟩
                subst h3
                have ecb : (if nI (K i) = 3 then x.toInt64 + y.toInt64 else if nI (K i) = 4 then x.toInt64 - y.toInt64 else x.toInt64 * y.toInt64) = m_cb (K i) x y := by
                  unfold m_cb
                  have q3 : nI (K i) = 3 ↔ K i = 3 := nI_eq (b := 3) (by omega) (by decide)
                  have q4 : nI (K i) = 4 ↔ K i = 4 := nI_eq (b := 4) (by omega) (by decide)
                  simp only [q3, q4]
                rw [ecb]
                refine b106_167 (fin _ _ _ st' (by omega) hg.2.2 (fun h9 => ?_) (fun h9 => ?_))
                · rw [if_pos h9] at hx
                  exact ⟨hx, hw⟩
                · rw [if_neg (by rw [h9]; decide)] at hx
                  exact hx
            next => exact absurd hw (by decide)
        · have n2 : K i = 2 := (nI_eq (b := 2) (by omega) (by decide)).mp c2
          rw [if_neg (by omega), if_neg n1, if_pos n2] at hx
          rw [if_neg (by omega), if_pos n2] at hw
          split at hw
          next hq =>
            match st, hq with
            | y :: st', _ =>
              have hx : X = if m_ok (-(y.toInt64)) = true then m_ev K A (m_nu (qA h 598) im) (i + 1) m ((-(y.toInt64)).toInt32 :: st') else none := hx
              have hg0 : g st'.length = y := hg.1
              have hl : st'.length + 1 ≤ 40 := h40
              have ed : nI (y :: st').length + (-1) = nI st'.length := by
                show nI (st'.length + 1) + (-1) = _
                rw [← nI_add st'.length 1, Int32.add_assoc, show nI 1 + (-1) = 0 by decide, Int32.add_zero]
              refine b106_116 (S.ok rfl) (S.ref (v := 607) rfl) (s232 (S.ok rfl) (S.len (n := 64) rfl) (by decide)) (by decide) ?_
              rintro z h3 ⟨e0, ez⟩
              subst h3
              have g607 : qA (m_hv h g 0) 607 = g := qA_wAs h 607 g
              rw [ed] at ez ⊢
              subst ez
              rw [g607, c_at_in (show st'.length < 64 by omega) (by decide), hg0]
              refine b106_127 (fin _ _ _ st' (by omega) hg.2 (fun h9 => ?_) (fun h9 => ?_))
              · rw [if_pos h9] at hx
                exact ⟨hx, hw⟩
              · rw [if_neg (by rw [h9]; decide)] at hx
                exact hx
          next => exact absurd hw (by decide)
      · have n1 : K i = 1 := (nI_eq (b := 1) (by omega) (by decide)).mp c1
        rw [if_neg (by omega), if_pos n1] at hx
        rw [if_pos (by omega)] at hw
        split at hw
        next hq =>
          have hAi : A i / 2 < N := by
            have := hq.1 n1
            omega
          obtain ⟨i1, i2⟩ := hn _ hAi
          refine b106_82 (S.ok rfl) (S.ref (v := 597) rfl) (S.ref (v := 602) rfl) (s232 (S.ok rfl) (S.len (n := 4) rfl) (by decide)) (by decide) ?_
          rintro z h3 ⟨e0, rfl⟩
          subst h3
          rw [hA 602 (by decide), m_sh1 k4, c_at_in (show A i / 2 < 4 by omega) (by decide), i1]
          refine b106_97 (s66 Sg.dg) (by decide) ?_
          rintro z h3 ⟨e0, rfl⟩
          subst h3
          rw [hA 598 (by decide), m_an1 k4, m_num i2 (Nat.mod_lt _ (by decide))]
          have t1 : ((qA h 598 (12 * (A i % 2 + 1) + im (A i / 2))).toInt64).toInt32 = qA h 598 (12 * (A i % 2 + 1) + im (A i / 2)) := Int32.toInt32_toInt64 _
          refine b106_104 (fin _ _ _ st hq.2 hg (fun _ => ⟨by rw [t1]; exact hx, hw⟩) (fun h9 => ?_))
          unfold m_ok at h9
          rw [t1] at h9
          rw [lg_self] at h9
          exact absurd h9 (by decide)
        next => exact absurd hw (by decide)
  have e3 : q_sI h 601 11 0 = m_hv h (qA h 607) 0 := by
    unfold m_hv
    rw [q_wA_self]
  have r19 : qR h o 19 = o + 13 := S.orr ho 12 (by decide)
  have r18 : qR h o 18 = o + 12 := S.orr ho 11 (by decide)
  have a13 : q_ok h (o + 13) 20 ∧ (qK h (o + 13)).2 = 16 := S.oa ho 12 (by decide)
  have a12 : q_ok h (o + 12) 20 ∧ (qK h (o + 12)).2 = 16 := S.oa ho 11 (by decide)
  refine b106_0 (S.ok rfl) f2 (S.oo ho) r19 (s232 a13.1 a13.2 (by decide)) (by decide) ?_
  rintro z h3 ⟨e0, rfl⟩
  subst h3
  refine b106_18 (S.ok rfl) f2 (S.oo ho) r18 (s232 a12.1 a12.2 (by decide)) (by decide) ?_
  rintro z h3 ⟨e0, rfl⟩
  subst h3
  have e4 : c_at (qA (q_sI h 601 11 0) (o + 13)) 16 (nI s) = nI en := (c_at_in hs (by decide)).trans e2
  have e5 : c_at (qA (q_sI h 601 11 0) (o + 12)) 16 (nI s) = nI st0 := (c_at_in hs (by decide)).trans e1
  rw [e4, e5]
  refine b106_31 s349 (by decide) ?_
  rintro z h3 ⟨e0, rfl⟩
  subst h3
  have e6 : (if (0 : Int32) < nI st0 then nI st0 else 0) = nI st0 := by
    by_cases h9 : (0 : Int32) < nI st0
    · rw [if_pos h9]
    · rw [if_neg h9]
      have := mt (nI_ltI (a := 0) (b := st0) (by decide) (by omega)).mpr h9
      rw [show st0 = 0 by omega]
      rfl
  rw [e6, e3]
  exact b106_34 (loop (en - st0) st0 (qA h 607) [] _ _ _ (by omega) (Nat.zero_le _) trivial w hX.symm)
