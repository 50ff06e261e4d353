/-! TOKENS of the reference: all of them -/
/-- a row that holds what the token tells -/
def n_rw (k : q_Hp) (b : Nat → Nat) (n i : Nat) : Prop := qA k 633 i = nI (t_ph (t_tk b n i)) ∧ qA k 634 i = nI (t_ps b n i) ∧ (t_tk b n i = 41 → qA k 635 i = nI (t_iv b (t_ps b n i) (t_ie b n (t_ps b n i) - t_ps b n i))) ∧ (t_tk b n i = 40 → qL k 636 i = lN (t_U (t_nm b n (t_ps b n i))))
def n_ro (k : q_Hp) (b : Nat → Nat) (n m : Nat) : Prop := qI k 630 10 = nI m ∧ ∀ i, i < m → i ≤ t_e b n → n_rw k b n i
/-- what the reference's lexer changes -/
def n_fq (k k' : q_Hp) : Prop := q_Ef [630, 633, 634, 635, 636] k k' ∧ ∀ j, ¬ j = 10 → qI k' 630 j = qI k 630 j
theorem n_fq.trans {k k1 k2 : q_Hp} (a : n_fq k k1) (b : n_fq k1 k2) : n_fq k k2 := ⟨a.1.trans b.1, fun j hj => (b.2 j hj).trans (a.2 j hj)⟩
theorem n_ro.put {k k' : q_Hp} {b : Nat → Nat} {n m kd p : Nat} {v : Int32} {u : Int64} (R : n_ro k b n m) (t : t_pr k k' m kd p v u) (hr : m ≤ t_e b n → kd = t_ph (t_tk b n m) ∧ p = t_ps b n m ∧ (t_tk b n m = 41 → v = nI (t_iv b (t_ps b n m) (t_ie b n (t_ps b n m) - t_ps b n m))) ∧ (t_tk b n m = 40 → u = lN (t_U (t_nm b n (t_ps b n m))))) : n_ro k' b n (m + 1) ∧ n_fq k k' := by
  obtain ⟨e1, e2, e3, e4, e5, e6⟩ := t
  refine ⟨⟨?_, fun i hi he => ?_⟩, e1, fun j hj => ?_⟩
  · rw [e2, upd_eq]
  · unfold n_rw
    rw [e3, e4, e5, e6]
    by_cases h9 : i = m
    · subst h9
      obtain ⟨h1, h2, h3, h4⟩ := hr he
      rw [upd_eq, upd_eq, upd_eq, pk_uLs, h1, h2]
      exact ⟨rfl, rfl, h3, h4⟩
    · rw [upd_ne h9, upd_ne h9, upd_ne h9, pk_uLn h9]
      exact R.2 i (by omega) he
  · rw [e2, upd_ne hj]
theorem s246_85 {k : q_Hp} {n p : Nat} {x2 : Int32} {Q : Option Value → q_Hp → Prop} (S : q_Sh k) (hz : qI k 630 4 = nI n) (hn : n ≤ 4000) (w : ∀ u, (t_we (t_by (qA k 632)) n p - p ≤ 8 → u = lN (t_U (t_nm (t_by (qA k 632)) n p))) → q_wp 2 246 137 [some (.ref 630), some (.int (nI p)), some (.int x2), some (.int (nI (t_we (t_by (qA k 632)) n p - p))), some (.long u), none] [] k Q) : ∀ m j u, p + j + m = n → t_sc (fun i => t_al (t_by (qA k 632) i)) m (p + j) = t_we (t_by (qA k 632)) n p → (j ≤ 8 → u = lN (t_U (t_ch (t_by (qA k 632)) p j))) → q_wp 2 246 85 [some (.ref 630), some (.int (nI p)), some (.int x2), some (.int (nI j)), some (.long u), none] [] k Q := by
  intro m
  induction m with
  | zero =>
    intro j u hj he hu
    have he' : p + j = t_we (t_by (qA k 632)) n p := he
    have z0 : t_at (t_by (qA k 632)) n (p + j) = 0 := if_neg (by omega)
    have c40 := s240 (i := p + j) S hz hn (by omega)
    rw [← nI_add, z0] at c40
    refine b246_85 c40 (by decide) ?_
    rintro z h2 ⟨e0, rfl⟩
    subst h2
    refine b246_92 (s242 (by decide)) (by decide) ?_
    rintro z h2 ⟨e0, rfl⟩
    subst h2
    refine b246_95 (fun c => absurd (show b2i (t_le 0) = 0 by decide) c) (fun _ => b246_98 c40 (by decide) ?_)
    rintro z h2 ⟨e0, rfl⟩
    subst h2
    refine b246_105 (s241 (by decide)) (by decide) ?_
    rintro z h2 ⟨e0, rfl⟩
    subst h2
    refine b246_108 (fun _ => ?_) (fun c => absurd (show b2i (t_di 0) = 0 by decide) c)
    have := w u
    unfold t_nm at this
    rw [← he', Nat.add_sub_cancel_left] at this
    exact this hu
  | succ m ih =>
    intro j u hj he hu
    have in1 : p + j < n := by omega
    have hb := t_by_lt (qA k 632) (p + j)
    have c40 := s240 (i := p + j) S hz hn (by omega)
    rw [← nI_add, t_at_in in1] at c40
    have yes : t_al (t_by (qA k 632) (p + j)) = true → q_wp 2 246 111 [some (.ref 630), some (.int (nI p)), some (.int x2), some (.int (nI j)), some (.long u), none] [] k Q := by
      intro ha
      have next : ∀ u', (j + 1 ≤ 8 → u' = lN (t_U (t_ch (t_by (qA k 632)) p (j + 1)))) → q_wp 2 246 131 [some (.ref 630), some (.int (nI p)), some (.int x2), some (.int (nI j)), some (.long u'), none] [] k Q := by
        intro u' hu'
        refine b246_131 ?_
        rw [show nI j + 1 = nI (j + 1) from nI_1 j]
        refine ih (j + 1) u' (by omega) ?_ hu'
        rw [← he, t_sc_y (p := fun i => t_al (t_by (qA k 632) i)) ha]
        rfl
      refine b246_111 (fun c => next u (fun h9 => ?_)) (fun c => b246_117 c40 (by decide) ?_)
      · have := (nI_leI (a := 8) (by decide) (by omega)).mp c
        omega
      · rintro z h2 ⟨e0, rfl⟩
        subst h2
        have c8 := mt (nI_leI (a := 8) (b := j) (by decide) (by omega)).mpr c
        rw [hu (by omega)]
        refine b246_126 (s243 ha) (by decide) ?_
        rintro z h2 ⟨e0, rfl⟩
        subst h2
        exact b246_129 (next _ (fun _ => rfl))
    refine b246_85 c40 (by decide) ?_
    rintro z h2 ⟨e0, rfl⟩
    subst h2
    refine b246_92 (s242 hb) (by decide) ?_
    rintro z h2 ⟨e0, rfl⟩
    subst h2
    refine b246_95 (fun c => yes (t_le_al (b2i_ne.mp c))) (fun c => b246_98 c40 (by decide) ?_)
    rintro z h2 ⟨e0, rfl⟩
    subst h2
    refine b246_105 (s241 hb) (by decide) ?_
    rintro z h2 ⟨e0, rfl⟩
    subst h2
    refine b246_108 (fun c2 => ?_) (fun c2 => yes (t_di_al (b2i_ne.mp c2)))
    have ha : ¬ t_al (t_by (qA k 632) (p + j)) = true := by
      unfold t_al
      rw [b2i_eq.mp c, b2i_eq.mp c2]
      decide
    rw [t_sc_n (p := fun i => t_al (t_by (qA k 632) i)) ha] at he
    have := w u
    unfold t_nm at this
    rw [← he, Nat.add_sub_cancel_left] at this
    exact this hu
theorem t_dgi (v c : Nat) (h : 48 ≤ c) : (10 * nI v + nI c) - 48 = nI (v * 10 + (c - 48)) := by
  rw [show 10 * nI v = nI (10 * v) from pk_mul 10 v, nI_add, show nI (10 * v + c) - 48 = nI (10 * v + c - 48) from pk_sub (b := 48) (by omega)]
  congr 1
  omega
theorem s246_164 {k : q_Hp} {n p : Nat} {x2 : Int32} {Q : Option Value → q_Hp → Prop} (S : q_Sh k) (hz : qI k 630 4 = nI n) (hn : n ≤ 4000) (w : ∀ u, (t_ie (t_by (qA k 632)) n p - p ≤ 9 → u = nI (t_iv (t_by (qA k 632)) p (t_ie (t_by (qA k 632)) n p - p))) → q_wp 2 246 207 [some (.ref 630), some (.int (nI p)), some (.int x2), some (.int (nI (t_ie (t_by (qA k 632)) n p - p))), some (.int u), none] [] k Q) : ∀ m j u, p + j + m = n → t_sc (fun i => t_di (t_by (qA k 632) i)) m (p + j) = t_ie (t_by (qA k 632)) n p → (j ≤ 9 → u = nI (t_iv (t_by (qA k 632)) p j)) → q_wp 2 246 164 [some (.ref 630), some (.int (nI p)), some (.int x2), some (.int (nI j)), some (.int u), none] [] k Q := by
  intro m
  induction m with
  | zero =>
    intro j u hj he hu
    have he' : p + j = t_ie (t_by (qA k 632)) n p := he
    have z0 : t_at (t_by (qA k 632)) n (p + j) = 0 := if_neg (by omega)
    have c40 := s240 (i := p + j) S hz hn (by omega)
    rw [← nI_add, z0] at c40
    refine b246_164 c40 (by decide) ?_
    rintro z h2 ⟨e0, rfl⟩
    subst h2
    refine b246_171 (s241 (by decide)) (by decide) ?_
    rintro z h2 ⟨e0, rfl⟩
    subst h2
    refine b246_174 (fun _ => ?_) (fun c => absurd (show b2i (t_di 0) = 0 by decide) c)
    have := w u
    rw [← he', Nat.add_sub_cancel_left] at this
    exact this hu
  | succ m ih =>
    intro j u hj he hu
    have in1 : p + j < n := by omega
    have hb := t_by_lt (qA k 632) (p + j)
    have c40 := s240 (i := p + j) S hz hn (by omega)
    rw [← nI_add, t_at_in in1] at c40
    refine b246_164 c40 (by decide) ?_
    rintro z h2 ⟨e0, rfl⟩
    subst h2
    refine b246_171 (s241 hb) (by decide) ?_
    rintro z h2 ⟨e0, rfl⟩
    subst h2
    refine b246_174 (fun c2 => ?_) (fun c2 => ?_)
    · rw [t_sc_n (p := fun i => t_di (t_by (qA k 632) i)) (show ¬ t_di (t_by (qA k 632) (p + j)) = true by rw [b2i_eq.mp c2]; decide)] at he
      have := w u
      rw [← he, Nat.add_sub_cancel_left] at this
      exact this hu
    have ha := b2i_ne.mp c2
    have h48 : 48 ≤ t_by (qA k 632) (p + j) := by
      have h9 := ha
      unfold t_di at h9
      simp only [Bool.and_eq_true, decide_eq_true_eq] at h9
      exact h9.1
    have next : ∀ u', (j + 1 ≤ 9 → u' = nI (t_iv (t_by (qA k 632)) p (j + 1))) → q_wp 2 246 201 [some (.ref 630), some (.int (nI p)), some (.int x2), some (.int (nI j)), some (.int u'), none] [] k Q := by
      intro u' hu'
      refine b246_201 ?_
      rw [show nI j + 1 = nI (j + 1) from nI_1 j]
      refine ih (j + 1) u' (by omega) ?_ hu'
      rw [← he, t_sc_y (p := fun i => t_di (t_by (qA k 632) i)) ha]
      rfl
    refine b246_177 (fun c => next u (fun h9 => ?_)) (fun c => b246_183 c40 (by decide) ?_)
    · have := (nI_leI (a := 9) (by decide) (by omega)).mp c
      omega
    · rintro z h2 ⟨e0, rfl⟩
      subst h2
      have c8 := mt (nI_leI (a := 9) (b := j) (by decide) (by omega)).mpr c
      rw [hu (by omega)]
      refine b246_195 (next _ (fun _ => ?_))
      exact t_dgi _ _ h48
