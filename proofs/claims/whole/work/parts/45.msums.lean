/-! THE REFERENCE'S MATCHER: sums, links, tests -/
def n_nd (h : q_Hp) (N : Nat) (im : Nat → Nat) : Prop := ∀ i, i < N → qA h 695 i = nI (im i) ∧ im i < 12
def n_hv (h : q_Hp) (g : Nat → Int32) (v : Int32) : q_Hp := q_sI (q_wA h 699 g) 630 99 v
theorem n_hv_I (h : q_Hp) (g : Nat → Int32) (u v : Int32) : q_sI (n_hv h g u) 630 99 v = n_hv h g v := q_sI_sI _ _ _ _ _
theorem n_hv_A (h : q_Hp) (g : Nat → Int32) (j : Nat) (u v : Int32) : q_sA (n_hv h g u) 699 j v = n_hv h (upd g j v) u := by
  show q_sI (q_sA (q_wA h 699 g) 699 j v) 630 99 u = n_hv h (upd g j v) u
  rw [q_sA_wA']
  rfl
theorem s311 {h : q_Hp} {v : Int64} (S : q_Sh h) : q_mI 0 311 [.ref 630, .long v] h (fun z h' => z = v.toInt32 ∧ h' = if m_ok v = true then h else q_sI h 630 99 1) := by
  refine q_mI.of (q_recV rfl (S.ok rfl)) (fun Q fin => ?_)
  refine b311_0 (fun c1 => b311_13 (fin _ _ ⟨rfl, ?_⟩)) (fun c1 => b311_8 (S.ok rfl) (b311_13 (fin _ _ ⟨rfl, ?_⟩)))
  · rw [if_pos (m_okz.mp c1)]
  · rw [if_neg (fun h2 => c1 (m_okz.mpr h2))]
theorem s312 {h : q_Hp} {st0 en : Nat} {im : Nat → Nat} {B : q_Bk} {V : Nat → Nat → Nat} (S : q_Sh h) (w : q_wB B) (mB : r_mB h B) (h1 : st0 ≤ en) (h2 : en ≤ bN B 4) (hN : V 0 0 ≤ 4) (hn : n_nd h (V 0 0) im) (wc : q_cd B V st0 (en - st0) 0 = some 1) : q_mI 1 312 [.ref 630, .int (nI st0), .int (nI en)] h (fun z h' => ∃ g v, h' = n_hv h g v ∧ ((v = 0 ∧ m_ev (fun i => bC B i 0) (fun i => bC B i 1) (m_nu (qA h 691) im) st0 (en - st0) [] = some [z]) ∨ (v = 1 ∧ m_ev (fun i => bC B i 0) (fun i => bC B i 1) (m_nu (qA h 691) im) st0 (en - st0) [] = none ∧ z = 0))) := by
  have hc : bN B 4 ≤ 1200 := w.2.2.2.2.1
  refine q_mI.of (q_recV rfl (S.ok rfl)) (fun Q fin => ?_)
  generalize hX : m_ev (fun i => bC B i 0) (fun i => bC B i 1) (m_nu (qA h 691) im) st0 (en - st0) [] = X at fin
  have bad : ∀ g (x3 x4 : Int32) (l5 l7 : Option Value), X = none → q_wp 1 312 208 [some (.ref 630), some (.int (nI st0)), some (.int (nI en)), some (.int x3), some (.int x4), l5, none, l7, none] [] (n_hv h g 1) Q := by
    intro g x3 x4 l5 l7 hx
    have Sg : q_Sh (n_hv h g 1) := S
    exact b312_208 (Sg.ok rfl) (fun c1 => absurd (show (1 : Int32) = 0 from c1) (by decide)) (fun _ => b312_215 (fin _ _ ⟨g, 1, rfl, Or.inr ⟨rfl, hx, rfl⟩⟩))
  have loop : ∀ m i g (st : List Int32) (l5 l7 : Option Value), i + m = en → st.length ≤ 40 → m_st g st → q_cd B V i m st.length = some 1 → X = m_ev (fun i => bC B i 0) (fun i => bC B i 1) (m_nu (qA h 691) im) i m st → q_wp 1 312 10 [some (.ref 630), some (.int (nI st0)), some (.int (nI en)), some (.int (nI st.length)), some (.int (nI i)), l5, none, l7, none] [] (n_hv h g 0) Q := by
    intro m
    induction m with
    | zero =>
      intro i g st l5 l7 hi h40 hg hw hx
      obtain rfl : i = en := by omega
      have hl : st.length = 1 := Option.some.inj hw
      obtain ⟨z, rfl⟩ := List.length_eq_one_iff.mp hl
      have Sg : q_Sh (n_hv h g 0) := S
      refine b312_10 (fun _ => b312_223 (Sg.ok rfl) (Sg.ref (v := 699) rfl) (Sg.ok rfl) (Sg.inN (n := 1300) (j := 0) rfl (by decide) (by decide)) (fin _ _ ⟨g, 0, rfl, Or.inl ⟨rfl, ?_⟩⟩)) (fun h1 => absurd (Int32.le_refl _) h1)
      rw [hx]
      exact congrArg (fun y => some [y]) hg.1.symm
    | succ m ih =>
      intro i g st l5 l7 hi h40 hg hw hx
      have Sg : q_Sh (n_hv h g 0) := S
      have hA : ∀ x, ¬ x = 699 → qA (n_hv h g 0) x = qA h x := fun x hx => qA_wA_ne hx
      obtain ⟨k1, k2, k3⟩ := mB.2.2.2.2.1 i (by omega)
      obtain ⟨k4, k5⟩ := w.2.2.2.2.2.2.2.2.1 i (by omega)
      have in66 : q_in (nI i) (qK (n_hv h g 0) 666).2 := Sg.inN (n := 2600) rfl (by omega) (by decide)
      have in67 : q_in (nI i) (qK (n_hv h g 0) 667).2 := Sg.inN (n := 2600) rfl (by omega) (by decide)
      have in68 : q_in (nI i) (qK (n_hv h g 0) 668).2 := Sg.inN (n := 2600) rfl (by omega) (by decide)
      have e66 : qA (n_hv h g 0) 666 (nI i).toNatClampNeg = nI (bC B i 0) := by rw [nI_clamp (by omega)]; exact k1
      -- a number comes on the stack
      have push : ∀ (st' : List Int32) (v : Int32) (l5 l7 : Option Value), st'.length < 40 → m_st g st' → X = m_ev (fun i => bC B i 0) (fun i => bC B i 1) (m_nu (qA h 691) im) (i + 1) m (v :: st') → q_cd B V (i + 1) m (st'.length + 1) = some 1 → q_wp 1 312 208 [some (.ref 630), some (.int (nI st0)), some (.int (nI en)), some (.int (nI (st'.length + 1))), some (.int (nI i)), l5, none, l7, none] [] (q_sA (n_hv h g 0) 699 (nI st'.length).toNatClampNeg v) Q := by
        intro st' v l5 l7 hl hg' hy hw'
        rw [nI_clamp (by omega), n_hv_A]
        have Sg2 : q_Sh (n_hv h (upd g st'.length v) 0) := S
        refine b312_208 (Sg2.ok rfl) (fun _ => b312_217 ?_) (fun c1 => absurd (show (0 : Int32) = 0 from rfl) c1)
        rw [nI_1]
        exact ih (i + 1) _ (v :: st') _ _ (by omega) (show st'.length + 1 ≤ 40 by omega) ⟨upd_eq, m_st_upd st' (Nat.le_refl _) hg'⟩ hw' hy
      -- .. out of a long
      have kept : ∀ (st' : List Int32) (v : Int64) (l5 l7 : Option Value) (h3 : q_Hp), st'.length < 40 → m_st g st' → h3 = (if m_ok v = true then n_hv h g 0 else q_sI (n_hv h g 0) 630 99 1) → (m_ok v = true → X = m_ev (fun i => bC B i 0) (fun i => bC B i 1) (m_nu (qA h 691) im) (i + 1) m (v.toInt32 :: st') ∧ q_cd B V (i + 1) m (st'.length + 1) = some 1) → (m_ok v = false → X = none) → q_wp 1 312 208 [some (.ref 630), some (.int (nI st0)), some (.int (nI en)), some (.int (nI (st'.length + 1))), some (.int (nI i)), l5, none, l7, none] [] (q_sA h3 699 (nI st'.length).toNatClampNeg v.toInt32) Q := by
        intro st' v l5 l7 h3 hl hg' h4 hy hno
        by_cases hv : m_ok v = true
        · rw [if_pos hv] at h4
          rw [h4]
          exact push st' _ _ _ hl hg' (hy hv).1 (hy hv).2
        · rw [if_neg hv, n_hv_I] at h4
          rw [h4, n_hv_A]
          exact bad _ _ _ _ _ (hno (Bool.eq_false_iff.mpr hv))
      unfold m_ev at hx
      unfold q_cd at hw
      refine b312_10 (fun c1 => absurd ((nI_leI (by omega) (by omega)).mp c1) (by omega)) (fun _ => b312_16 (Sg.ok rfl) (Sg.ref (v := 666) rfl) (Sg.ok rfl) in66 (fun c1 => ?_) (fun c1 => ?_))
      · rw [e66] at c1
        have n2 : 2 ≤ bC B i 0 := (nI_gec (k := 2) (by omega) (by decide) rfl).mp c1
        rw [if_neg (by omega), if_neg (by omega)] at hx
        rw [if_neg (by omega)] at hw
        refine b312_94 (Sg.ok rfl) (Sg.ref (v := 666) rfl) (Sg.ok rfl) in66 (fun c2 => ?_) (fun c2 => ?_)
        · rw [e66] at c2
          have n3 : ¬ bC B i 0 = 2 := fun h9 => c2 (by rw [h9]; rfl)
          rw [if_neg n3] at hx hw
          split at hw
          next hq =>
            match st, hq.2 with
            | y :: x :: st', _ =>
              have hx : X = if m_ok (m_cb (bC B i 0) x y) = true then m_ev (fun i => bC B i 0) (fun i => bC B i 1) (m_nu (qA h 691) im) (i + 1) m ((m_cb (bC B i 0) x y).toInt32 :: st') else none := hx
              have hg0 : g (st'.length + 1) = y := hg.1
              have hg1 : g st'.length = x := hg.2.1
              have hl : st'.length + 2 ≤ 40 := h40
              have ea : nI (y :: x :: st').length + (-1) = nI (st'.length + 1) := nI_m1 (n := st'.length + 2) (by omega)
              have eb : nI (st'.length + 1) - 1 = nI st'.length := pk_sub (a := st'.length + 1) (b := 1) (by omega)
              have g0 : qA (n_hv h g 0) 699 = g := qA_wAs _ _ _
              have fin2 : ∀ l5 l7, q_wp 1 312 204 [some (.ref 630), some (.int (nI st0)), some (.int (nI en)), some (.int (nI (st'.length + 1))), some (.int (nI i)), some (.long l5), none, some (.long l7), none] [.long (m_cb (bC B i 0) x y), .ref 630, .int (nI st'.length), .ref 699] (n_hv h g 0) Q := by
                intro l5 l7
                refine b312_204 (s311 Sg) (by decide) ?_
                rintro z h3 ⟨rfl, h4⟩
                have S3 : q_Sh h3 := by
                  rw [h4]
                  split
                  · exact Sg
                  · exact Sg.sI
                refine b312_207 (S3.ok rfl) (S3.inN (n := 1300) rfl (by omega) (by decide)) (kept st' _ _ _ _ (by omega) hg.2.2 h4 (fun h5 => ?_) (fun h5 => ?_))
                · rw [if_pos h5] at hx
                  exact ⟨hx, hw⟩
                · rw [if_neg (by rw [h5]; decide)] at hx
                  exact hx
              refine b312_130 (Sg.ok rfl) (Sg.ref (v := 699) rfl) (Sg.ok rfl) ?_ ?_ (Sg.ref (v := 666) rfl) (Sg.ok rfl) in66 (fun c3 => ?_) (fun c3 => ?_)
              · rw [ea, eb]
                exact Sg.inN (n := 1300) rfl (by omega) (by decide)
              · rw [ea]
                exact Sg.inN (n := 1300) rfl (by omega) (by decide)
              · rw [e66] at c3
                rw [ea, eb, nI_clamp (show st'.length < 2 ^ 31 by omega), nI_clamp (show st'.length + 1 < 2 ^ 31 by omega), g0, hg0, hg1]
                have m3 : ¬ bC B i 0 = 3 := fun h9 => c3 (by rw [h9]; rfl)
                refine b312_180 (Sg.ok rfl) (Sg.ref (v := 666) rfl) (Sg.ok rfl) in66 (fun c4 => ?_) (fun c4 => ?_)
                · rw [e66] at c4
                  have m4 : ¬ bC B i 0 = 4 := fun h9 => c4 (by rw [h9]; rfl)
                  have := fin2 x.toInt64 y.toInt64
                  unfold m_cb at this
                  rw [if_neg m3, if_neg m4] at this
                  exact b312_199 this
                · rw [e66] at c4
                  have m4 : bC B i 0 = 4 := (nI_eq (b := 4) (by omega) (by decide)).mp c4
                  have := fin2 x.toInt64 y.toInt64
                  unfold m_cb at this
                  rw [if_neg m3, if_pos m4] at this
                  exact b312_191 this
              · rw [e66] at c3
                rw [ea, eb, nI_clamp (show st'.length < 2 ^ 31 by omega), nI_clamp (show st'.length + 1 < 2 ^ 31 by omega), g0, hg0, hg1]
                have m3 : bC B i 0 = 3 := (nI_eq (b := 3) (by omega) (by decide)).mp c3
                have := fin2 x.toInt64 y.toInt64
                unfold m_cb at this
                rw [if_pos m3] at this
                exact b312_172 this
          next => exact absurd hw (by decide)
        · rw [e66] at c2
          have n3 : bC B i 0 = 2 := (nI_eq (b := 2) (by omega) (by decide)).mp c2
          rw [if_pos n3] at hx hw
          split at hw
          next hq =>
            match st, hq with
            | y :: st', _ =>
              have hx : X = if m_ok (-(y.toInt64)) = true then m_ev (fun i => bC B i 0) (fun i => bC B i 1) (m_nu (qA h 691) im) (i + 1) m ((-(y.toInt64)).toInt32 :: st') else none := hx
              have hg0 : g st'.length = y := hg.1
              have hl : st'.length + 1 ≤ 40 := h40
              have eb : nI (y :: st').length - 1 = nI st'.length := pk_sub (a := st'.length + 1) (b := 1) (by omega)
              have g0 : qA (n_hv h g 0) 699 = g := qA_wAs _ _ _
              have hc11 : q_mI 0 311 [.ref 630, .long (-((qA (n_hv h g 0) 699 ((nI (y :: st').length - 1 : Int32).toNatClampNeg) : Int32).toInt64))] (n_hv h g 0) (fun z h' => z = (-(y.toInt64)).toInt32 ∧ h' = if m_ok (-(y.toInt64)) = true then n_hv h g 0 else q_sI (n_hv h g 0) 630 99 1) := by
                rw [eb, nI_clamp (show st'.length < 2 ^ 31 by omega), g0, hg0]
                exact s311 Sg
              refine b312_105 (Sg.ok rfl) (Sg.ref (v := 699) rfl) (Sg.ok rfl) ?_ hc11 (by decide) ?_
              · rw [eb]
                exact Sg.inN (n := 1300) rfl (by omega) (by decide)
              · rintro z h3 ⟨rfl, h4⟩
                have S3 : q_Sh h3 := by
                  rw [h4]
                  split
                  · exact Sg
                  · exact Sg.sI
                rw [eb]
                refine b312_126 (S3.ok rfl) (S3.inN (n := 1300) rfl (by omega) (by decide)) (kept st' _ _ _ _ (by omega) hg.2 h4 (fun h5 => ?_) (fun h5 => ?_))
                · rw [if_pos h5] at hx
                  exact ⟨hx, hw⟩
                · rw [if_neg (by rw [h5]; decide)] at hx
                  exact hx
          next => exact absurd hw (by decide)
      · rw [e66] at c1
        have n2 : bC B i 0 < 2 := by
          rcases Nat.lt_or_ge (bC B i 0) 2 with h9 | h9
          · exact h9
          · exact absurd ((nI_gec (k := 2) (by omega) (by decide) rfl).mpr h9) c1
        rw [if_pos n2] at hw
        split at hw
        next hq =>
          refine b312_27 (Sg.ok rfl) (Sg.ref (v := 699) rfl) (Sg.ref (v := 666) rfl) (Sg.ok rfl) in66 (fun c2 => ?_) (fun c2 => ?_)
          · rw [e66] at c2
            have n1 : bC B i 0 = 1 := by
              rcases (show bC B i 0 = 0 ∨ bC B i 0 = 1 by omega) with h9 | h9
              · exact absurd (by rw [h9]; rfl) c2
              · exact h9
            rw [if_neg (by omega), if_pos n1] at hx
            have hAi := hq.1 n1
            obtain ⟨i1, i2⟩ := hn _ hAi
            have k3' := k3 n1
            have e67 : qA (n_hv h g 0) 667 (nI i).toNatClampNeg = nI (bC B i 1 / 2) := by rw [nI_clamp (by omega)]; exact k3'.1
            have e68 : qA (n_hv h g 0) 668 (nI i).toNatClampNeg = nI (bC B i 1 % 2) := by rw [nI_clamp (by omega)]; exact k3'.2
            have e95 : qA (n_hv h g 0) 695 (nI (bC B i 1 / 2)).toNatClampNeg = nI (im (bC B i 1 / 2)) := by rw [nI_clamp (by omega)]; exact i1
            have m2 : bC B i 1 % 2 < 2 := Nat.mod_lt _ (by decide)
            have j73 : q_wp 1 312 73 [some (.ref 630), some (.int (nI st0)), some (.int (nI en)), some (.int (nI st.length)), some (.int (nI i)), l5, none, l7, none] [.int (nI (12 * (bC B i 1 % 2 + 1))), .ref 691, .int (nI st.length), .ref 699] (n_hv h g 0) Q := by
              refine b312_73 (Sg.ok rfl) (Sg.ref (v := 695) rfl) (Sg.ref (v := 667) rfl) (Sg.ok rfl) in67 (Sg.ok rfl) ?_ (Sg.ok rfl) ?_ ?_
              · rw [e67]
                exact Sg.inN (n := 5) rfl (by omega) (by decide)
              · rw [e67, e95, nI_add]
                exact Sg.inN (n := 156) rfl (by omega) (by decide)
              · rw [e67, e95, nI_add, nI_clamp (by omega)]
                refine b312_87 (Sg.ok rfl) (Sg.inN (n := 1300) rfl (by omega) (by decide)) ?_
                rw [nI_1]
                exact push st _ _ _ hq.2 hg hx hw
            refine b312_52 (Sg.ok rfl) (Sg.ref (v := 691) rfl) (Sg.ref (v := 668) rfl) (Sg.ok rfl) in68 (fun c3 => ?_) (fun c3 => ?_)
            · rw [e68] at c3
              have m1 : bC B i 1 % 2 = 1 := by
                rcases (show bC B i 1 % 2 = 0 ∨ bC B i 1 % 2 = 1 by omega) with h9 | h9
                · exact absurd (by rw [h9]; rfl) c3
                · exact h9
              rw [m1] at j73
              exact b312_71 j73
            · rw [e68] at c3
              have m1 : bC B i 1 % 2 = 0 := (nI_eq (b := 0) (by omega) (by decide)).mp c3
              rw [m1] at j73
              exact b312_66 j73
          · rw [e66] at c2
            have n0 : bC B i 0 = 0 := (nI_eq (b := 0) (by omega) (by decide)).mp c2
            rw [if_pos n0] at hx
            have e67 : qA (n_hv h g 0) 667 (nI i).toNatClampNeg = nI (bC B i 1) := by rw [nI_clamp (by omega)]; exact k2 n0
            refine b312_42 (Sg.ok rfl) (Sg.ref (v := 667) rfl) (Sg.ok rfl) in67 ?_
            rw [e67]
            refine b312_87 (Sg.ok rfl) (Sg.inN (n := 1300) rfl (by omega) (by decide)) ?_
            rw [nI_1]
            exact push st _ _ _ hq.2 hg hx hw
        next => exact absurd hw (by decide)
  have e3 : q_sI h 630 99 0 = n_hv h (qA h 699) 0 := by
    unfold n_hv
    rw [q_wA_self]
  refine b312_0 (S.ok rfl) ?_
  rw [e3]
  exact loop (en - st0) st0 (qA h 699) [] _ _ (by omega) (Nat.zero_le _) trivial wc hX.symm
