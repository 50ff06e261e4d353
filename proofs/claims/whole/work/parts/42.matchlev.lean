/-! THE MATCHER: what suits a level, all matches in their order -/
def m_su (B : q_Bk) (f : Nat → Int32) (im : Nat → Nat) (V : Nat → Nat → Nat) (lv x : Nat) : Prop :=
  m_tt B f (nI (V 1 lv)) x ∧ (∀ i, i < lv → im i = x → ¬ V 0 5 = 0 ∧ ¬ m_dl V i ∧ ¬ m_dl V lv) ∧
  ∀ l, l < V 0 1 → max (V 3 l) (V 4 l) = lv → m_rc f 40 (V 2 l) (if V 3 l = lv then x else im (V 3 l)) (if V 4 l = lv then x else im (V 4 l))
/-- a match -/
def m_ma (B : q_Bk) (f : Nat → Int32) (im : Nat → Nat) (V : Nat → Nat → Nat) (L : List Nat) : Prop :=
  (∀ i, i < V 0 0 → m_tt B f (nI (V 1 i)) (im i)) ∧ (∀ i j, i < j → j < V 0 0 → im i = im j → ¬ V 0 5 = 0 ∧ ¬ m_dl V i ∧ ¬ m_dl V j) ∧ m_ft B f im V L
theorem m_su_ext {B : q_Bk} {f : Nat → Int32} {im im' : Nat → Nat} {V : Nat → Nat → Nat} {lv x : Nat} (e : ∀ i, i < lv → im i = im' i) (a : m_su B f im V lv x) : m_su B f im' V lv x := by
  refine ⟨a.1, fun i hi h => a.2.1 i hi (by rw [e i hi]; exact h), fun l hl hm => ?_⟩
  have := a.2.2 l hl hm
  have e3 : (if V 3 l = lv then x else im (V 3 l)) = (if V 3 l = lv then x else im' (V 3 l)) := by
    split
    · rfl
    · exact e _ (by omega)
  have e4 : (if V 4 l = lv then x else im (V 4 l)) = (if V 4 l = lv then x else im' (V 4 l)) := by
    split
    · rfl
    · exact e _ (by omega)
  rw [e3, e4] at this
  exact this
theorem m_gl_rc {f : Nat → Int32} {im S F G : Nat → Nat} {us : List Nat} : ∀ (n : Nat) (L : List Nat), m_gl f im S F G us n = some L → ∀ l, l < n → m_rc f 40 (S l) (im (F l)) (im (G l)) := by
  intro n
  induction n with
  | zero => intro L _ l hl; omega
  | succ n ih =>
    intro L e l hl
    cases h : m_gl f im S F G us n with
    | none => rw [m_gl_none h 1] at e; cases e
    | some L0 =>
      rw [m_gl_s h] at e
      cases h2 : m_ln f (S n) (im (F n)) (im (G n)) L0 with
      | none => rw [h2] at e; cases e
      | some i =>
        by_cases h3 : l = n
        · have := m_ln_lt h2
          rw [h3]
          exact ⟨i, this.1, this.2.1, this.2.2.1, this.2.2.2.1⟩
        · exact ih L0 h l (by omega)
theorem m_ma_su {B : q_Bk} {f : Nat → Int32} {im : Nat → Nat} {V : Nat → Nat → Nat} {L : List Nat} (a : m_ma B f im V L) : ∀ lv, lv < V 0 0 → m_su B f im V lv (im lv) := by
  intro lv hlv
  refine ⟨a.1 lv hlv, fun i hi h => a.2.1 i lv hi hlv h, fun l hl hm => ?_⟩
  have h1 := m_gl_rc _ _ a.2.2.1 l hl
  have e3 : (if V 3 l = lv then im lv else im (V 3 l)) = im (V 3 l) := by
    split
    · next h => rw [h]
    · rfl
  have e4 : (if V 4 l = lv then im lv else im (V 4 l)) = im (V 4 l) := by
    split
    · next h => rw [h]
    · rfl
  rw [e3, e4]
  exact h1
theorem m_su_ma {B : q_Bk} {f : Nat → Int32} {im : Nat → Nat} {V : Nat → Nat → Nat} {L : List Nat} (a : ∀ lv, lv < V 0 0 → m_su B f im V lv (im lv)) (e : m_ft B f im V L) : m_ma B f im V L :=
  ⟨fun i hi => (a i hi).1, fun i j h1 h2 h3 => (a j h2).2.1 i h1 h3, e⟩
theorem m_maxI {a b : Nat} (ha : a < 2 ^ 31) (hb : b < 2 ^ 31) : (if nI a < nI b then nI b else nI a) = nI (max a b) := by
  by_cases h : a < b
  · rw [if_pos ((nI_ltI ha hb).mpr h), Nat.max_eq_right (by omega)]
  · rw [if_neg (mt (nI_ltI ha hb).mp h), Nat.max_eq_left (by omega)]
theorem s96 {h : q_Hp} {b o : Nat} {B : q_Bk} {V : Nat → Nat → Nat} {k : Nat → Int32} {im : Nat → Nat} {lv x : Nat} (A : m_A h b o B V k) (hn : m_nd h lv im) (hlv : lv < V 0 0) (hx : x < 12) : q_mI 1 96 [.ref 601, .int (nI lv), .int (nI x)] h (fun z h' => h' = h ∧ z = b2i (m_dc (m_su B (qA h 598) im V lv x))) := by
  have S := A.1.1
  have ho := A.1.2.2.1
  have f2 := A.1.2.2.2.2
  have wr := A.2.2.1
  have C := A.2.2.2.2.1
  have t1 := A.2.2.2.2.2.2.1
  have t3 := A.2.2.2.2.2.2.2.2
  have hN : V 0 0 ≤ 4 := wr.1
  have hL : V 0 1 ≤ 6 := wr.2.1
  have hs12 : bN B 1 ≤ 12 := A.2.1.2.1
  have e6 : qI h o 6 = nI (V 0 5) := C.2.1
  have h05 : V 0 5 ≤ 1 := wr.2.2.2.2.2.1
  refine q_mI.of (q_recV rfl (S.ok rfl)) (fun Q fin => ?_)
  have bad : ¬ m_su B (qA h 598) im V lv x → Q (some (.int 0)) h := fun h1 => fin _ _ ⟨rfl, by rw [m_dc_f.mpr h1]; rfl⟩
  refine b96_0 (S.ok rfl) (S.ref (v := 604) rfl) (s232 (S.ok rfl) (S.len (n := 4) rfl) (by decide)) (by decide) ?_
  rintro z h1 ⟨e0, rfl⟩
  subst h1
  rw [c_at_n (show lv < 4 by omega) (by decide)]
  have tt := t1 lv hlv x (by omega)
  refine b96_8 (fun c1 => b96_17 ?_) (fun c1 => b96_15 (bad (fun h1 => ?_)))
  · have g1 : m_tt B (qA h 598) (nI (V 1 lv)) x := by
      refine (tt.mp ?_).2
      refine Classical.byContradiction (fun h2 => c1 ?_)
      exact (bi_z (by omega)).mpr (Bool.eq_false_iff.mpr h2)
    have loop2 : ∀ m l (l4 l5 l6 l7 l8 : Option Value), l + m = V 0 1 → (∀ i, i < lv → im i = x → ¬ V 0 5 = 0 ∧ ¬ m_dl V i ∧ ¬ m_dl V lv) → (∀ y, y < l → max (V 3 y) (V 4 y) = lv → m_rc (qA h 598) 40 (V 2 y) (if V 3 y = lv then x else im (V 3 y)) (if V 4 y = lv then x else im (V 4 y))) → q_wp 1 96 58 [some (.ref 601), some (.int (nI lv)), some (.int (nI x)), some (.int (nI l)), l4, l5, l6, l7, l8] [] h Q := by
      intro m
      induction m with
      | zero =>
        intro l l4 l5 l6 l7 l8 hl g2 g3
        obtain rfl : l = V 0 1 := by omega
        refine b96_58 (S.ok rfl) f2 (S.oo ho) (fun _ => b96_192 (fin _ _ ⟨rfl, ?_⟩)) (fun h1 => absurd ?_ h1)
        · rw [m_dc_t.mpr ⟨g1, g2, g3⟩]
          rfl
        · rw [C.1 1 (by decide)]
          exact Int32.le_refl _
      | succ m ih =>
        intro l l4 l5 l6 l7 l8 hl g2 g3
        have c1 := C.2.2.2.1 l (by omega)
        have wl := wr.2.2.2.2.2.2.2.1 l (by omega)
        have eI : qI h o 1 = nI (V 0 1) := C.1 1 (by decide)
        have r3 : qA h (o + 1 + 4) (nI l).toNatClampNeg = nI (V 3 l) := by rw [nI_clamp (by omega)]; exact c1.2.1
        have r4 : qA h (o + 1 + 5) (nI l).toNatClampNeg = nI (V 4 l) := by rw [nI_clamp (by omega)]; exact c1.2.2
        have r2 : qA h (o + 1 + 3) (nI l).toNatClampNeg = nI (V 2 l) := by rw [nI_clamp (by omega)]; exact c1.1
        have nx : ∀ (l4 l5 : Int32) l6 l7 l8, (max (V 3 l) (V 4 l) = lv → m_rc (qA h 598) 40 (V 2 l) (if V 3 l = lv then x else im (V 3 l)) (if V 4 l = lv then x else im (V 4 l))) → q_wp 1 96 186 [some (.ref 601), some (.int (nI lv)), some (.int (nI x)), some (.int (nI l)), some (.int l4), some (.int l5), l6, l7, l8] [] h Q := by
          intro l4 l5 l6 l7 l8 h1
          refine b96_186 ?_
          rw [nI_1]
          refine ih (l + 1) _ _ _ _ _ (by omega) g2 (fun y hy => ?_)
          by_cases h2 : y = l
          · rw [h2]; exact h1
          · exact g3 y (by omega)
        refine b96_58 (S.ok rfl) f2 (S.oo ho) (fun h2 => absurd ((nI_leI (by omega) (by omega)).mp (eI ▸ h2)) (by omega)) (fun _ => b96_69 (fun h2 => absurd ((nI_gec (k := 6) (by omega) (by decide) rfl).mp h2) (by omega)) (fun _ => b96_75 (S.ok rfl) f2 (S.oo ho) (S.orr ho 4 (by decide)) (S.oa ho 4 (by decide)).1 (S.oi ho 4 (by decide) (show l < 12 by omega)) (S.orr ho 5 (by decide)) (S.oa ho 5 (by decide)).1 (S.oi ho 5 (by decide) (show l < 12 by omega)) s349 (by decide) ?_))
        rintro z h3 ⟨e0, ez⟩
        subst h3
        rw [r3, r4] at ez ⊢
        rw [m_maxI (by omega) (by omega)] at ez
        subst ez
        refine b96_104 (fun c2 => nx _ _ _ _ _ (fun h9 => absurd (by rw [h9]) c2)) (fun c2 => ?_)
        have hm : max (V 3 l) (V 4 l) = lv := (nI_eq (by omega) (by omega)).mp c2
        have q3 : (if V 3 l = lv then x else im (V 3 l)) < 12 := by
          split
          · exact hx
          · exact (hn _ (by omega)).2
        have q4 : (if V 4 l = lv then x else im (V 4 l)) < 12 := by
          split
          · exact hx
          · exact (hn _ (by omega)).2
        have j148 : ∀ l7 l8, q_wp 1 96 148 [some (.ref 601), some (.int (nI lv)), some (.int (nI x)), some (.int (nI l)), some (.int (nI (V 3 l))), some (.int (nI (V 4 l))), some (.int (nI (if V 3 l = lv then x else im (V 3 l)))), l7, l8] [.int (nI (if V 4 l = lv then x else im (V 4 l)))] h Q := by
          intro l7 l8
          refine b96_148 (S.ok rfl) (S.ref (v := 606) rfl) f2 (S.oo ho) (S.orr ho 3 (by decide)) (S.oa ho 3 (by decide)).1 (S.oi ho 3 (by decide) (show l < 12 by omega)) (s232 (S.ok rfl) (S.len (n := 144) rfl) (by decide)) (by decide) ?_
          rintro z h3 ⟨e0, ez⟩
          subst h3
          rw [r2, show nI (V 2 l) * 12 = nI (V 2 l * 12) from pk_mul _ 12, nI_add, c_at_n (by omega) (by decide)] at ez
          subst ez
          have t9 := t3 (V 2 l) (if V 3 l = lv then x else im (V 3 l)) (if V 4 l = lv then x else im (V 4 l)) (by omega) q3 (by omega)
          rw [Nat.mul_comm] at t9
          refine b96_172 (fun c3 => nx _ _ _ _ _ (fun _ => ?_)) (fun c3 => b96_184 (bad (fun h9 => ?_)))
          · refine t9.mp (Classical.byContradiction (fun h9 => c3 ?_))
            exact (bi_z (by omega)).mpr (Bool.eq_false_iff.mpr h9)
          · have := t9.mpr (h9.2.2 l (by omega) hm)
            rw [(bi_z (by omega)).mp c3] at this
            cases this
        have j127 : ∀ l6 l7 l8, q_wp 1 96 127 [some (.ref 601), some (.int (nI lv)), some (.int (nI x)), some (.int (nI l)), some (.int (nI (V 3 l))), some (.int (nI (V 4 l))), l6, l7, l8] [.int (nI (if V 3 l = lv then x else im (V 3 l)))] h Q := by
          intro l6 l7 l8
          refine b96_127 (fun c3 => b96_139 (S.ok rfl) (S.ref (v := 602) rfl) (s232 (S.ok rfl) (S.len (n := 4) rfl) (by decide)) (by decide) ?_) (fun c3 => b96_135 ?_)
          · rintro z h3 ⟨e0, ez⟩
            subst h3
            have c4 : ¬ V 4 l = lv := fun h9 => c3 (by rw [h9])
            have j := j148 l7 l8
            rw [if_neg c4] at j
            rw [c_at_n (by omega) (by decide), (hn _ (by omega)).1] at ez
            subst ez
            exact j
          · have c4 : V 4 l = lv := (nI_eq (by omega) (by omega)).mp c3
            have j := j148 l7 l8
            rw [if_pos c4] at j
            exact j
        refine b96_108 (fun c3 => b96_118 (S.ok rfl) (S.ref (v := 602) rfl) (s232 (S.ok rfl) (S.len (n := 4) rfl) (by decide)) (by decide) ?_) (fun c3 => b96_114 ?_)
        · rintro z h3 ⟨e0, ez⟩
          subst h3
          have c4 : ¬ V 3 l = lv := fun h9 => c3 (by rw [h9])
          have j := j127 l6 l7 l8
          rw [if_neg c4] at j
          rw [c_at_n (by omega) (by decide), (hn _ (by omega)).1] at ez
          subst ez
          exact j
        · have c4 : V 3 l = lv := (nI_eq (by omega) (by omega)).mp c3
          have j := j127 l6 l7 l8
          rw [if_pos c4] at j
          exact j
    have loop1 : ∀ m i, i + m = lv → (∀ y, y < i → im y = x → ¬ V 0 5 = 0 ∧ ¬ m_dl V y ∧ ¬ m_dl V lv) → q_wp 1 96 19 [some (.ref 601), some (.int (nI lv)), some (.int (nI x)), some (.int (nI i)), none, none, none, none, none] [] h Q := by
      intro m
      induction m with
      | zero =>
        intro i hi g2
        obtain rfl : i = lv := by omega
        exact b96_19 (fun _ => b96_56 (loop2 (V 0 1) 0 _ _ _ _ _ (by omega) g2 (fun y hy => absurd hy (Nat.not_lt_zero _)))) (fun h1 => absurd (Int32.le_refl _) h1)
      | succ m ih =>
        intro i hi g2
        obtain ⟨i1, i2⟩ := hn i (by omega)
        have nx : (im i = x → ¬ V 0 5 = 0 ∧ ¬ m_dl V i ∧ ¬ m_dl V lv) → q_wp 1 96 50 [some (.ref 601), some (.int (nI lv)), some (.int (nI x)), some (.int (nI i)), none, none, none, none, none] [] h Q := by
          intro h1
          refine b96_50 ?_
          rw [nI_1]
          refine ih (i + 1) (by omega) (fun y hy => ?_)
          by_cases h2 : y = i
          · rw [h2]; exact h1
          · exact g2 y (by omega)
        refine b96_19 (fun h1 => absurd ((nI_leI (by omega) (by omega)).mp h1) (by omega)) (fun _ => b96_24 (fun h2 => absurd ((nI_gec (k := 4) (by omega) (by decide) rfl).mp h2) (by omega)) (fun _ => b96_29 (S.ok rfl) (S.ref (v := 602) rfl) (S.ok rfl) (S.inN (n := 4) rfl (by omega) (by decide)) (fun c2 => nx (fun h9 => ?_)) (fun c2 => b96_39 (s97 A.1 (by omega) (by omega)) (by decide) ?_)))
        · rw [nI_clamp (by omega), i1, h9] at c2
          exact absurd rfl c2
        · rw [nI_clamp (by omega), i1] at c2
          have c3 := (nI_eq (by omega) (by omega)).mp c2
          have b1 := m_dlb C (show i < 4 by omega)
          have b2 := m_dlb C (show lv < 4 by omega)
          rintro z h3 ⟨e0, rfl⟩
          subst h3
          refine b96_45 (fun c4 => nx (fun _ => ?_)) (fun c4 => b96_48 (bad (fun h9 => ?_)))
          · have c5 := b2i_ne.mp c4
            simp only [Bool.and_eq_true, Bool.not_eq_true', beq_eq_false_iff_ne] at c5
            refine ⟨fun h8 => c5.1.1 (by rw [e6, h8]; rfl), fun h8 => ?_, fun h8 => ?_⟩
            · rw [b1.mpr h8] at c5; exact absurd c5.1.2 (by decide)
            · rw [b2.mpr h8] at c5; exact absurd c5.2 (by decide)
          · have c5 := b2i_eq.mp c4
            have h8 := h9.2.1 i (by omega) c3
            have d1 : (qI h o 6 == 0) = false := by
              rw [beq_eq_false_iff_ne, e6]
              exact fun h7 => h8.1 ((nI_eq (b := 0) (by omega) (by decide)).mp h7)
            rw [d1, Bool.eq_false_iff.mpr (mt b1.mp h8.2.1), Bool.eq_false_iff.mpr (mt b2.mp h8.2.2)] at c5
            cases c5
    exact loop1 lv 0 (by omega) (fun y hy => absurd hy (Nat.not_lt_zero _))
  · have := tt.mpr ⟨hx, h1.1⟩
    rw [(bi_z (by omega)).mp c1] at this
    cases this
theorem q_fst_s {p : Nat → Bool} {i n : Nat} : q_fst p i (n + 1) = if p i = true then some i else q_fst p (i + 1) n := rfl
theorem s95 {h : q_Hp} {b o : Nat} {B : q_Bk} {V : Nat → Nat → Nat} {k : Nat → Int32} {im : Nat → Nat} {lv c : Nat} (A : m_A h b o B V k) (hn : m_nd h lv im) (hlv : lv < V 0 0) (hc : c ≤ 12) (ec : qA h 602 lv + 1 = nI c) : q_mI 2 95 [.ref 601, .int (nI lv)] h (fun z h' => h' = h ∧ z = q_on (q_fst (fun x => m_dc (m_su B (qA h 598) im V lv x)) c (12 - c))) := by
  have S := A.1.1
  have hN : V 0 0 ≤ 4 := A.2.2.1.1
  refine q_mI.of (q_recV rfl (S.ok rfl)) (fun Q fin => ?_)
  refine b95_0 (S.ok rfl) (S.ref (v := 602) rfl) (s232 (S.ok rfl) (S.len (n := 4) rfl) (by decide)) (by decide) ?_
  rintro z h3 ⟨e0, rfl⟩
  subst h3
  refine b95_8 ?_
  rw [c_at_n (show lv < 4 by omega) (by decide), ec]
  have loop : ∀ m x, x + m = 12 → c ≤ x → (q_fst (fun x => m_dc (m_su B (qA h 598) im V lv x)) c (12 - c) = q_fst (fun x => m_dc (m_su B (qA h 598) im V lv x)) x m) → q_wp 2 95 11 [some (.ref 601), some (.int (nI lv)), some (.int (nI x))] [] h Q := by
    intro m
    induction m with
    | zero =>
      intro x hx _ g
      obtain rfl : x = 12 := by omega
      exact b95_11 (fun _ => b95_34 (fin _ _ ⟨rfl, by rw [g]; rfl⟩)) (fun h1 => absurd (Int32.le_refl _) h1)
    | succ m ih =>
      intro x hx h2 g
      rw [q_fst_s (i := x) (n := m)] at g
      refine b95_11 (fun h1 => absurd ((nI_gec (k := 12) (by omega) (by decide) rfl).mp h1) (by omega)) (fun _ => b95_17 (s96 A hn hlv (by omega)) (by decide) ?_)
      rintro z h3 ⟨e0, rfl⟩
      subst h3
      refine b95_23 (fun c1 => b95_28 ?_) (fun c1 => b95_26 (fin _ _ ⟨rfl, ?_⟩))
      · rw [if_neg (by rw [b2i_eq.mp c1]; decide)] at g
        rw [nI_1]
        exact ih (x + 1) (by omega) (by omega) g
      · rw [if_pos (b2i_ne.mp c1)] at g
        rw [g]
        rfl
  exact loop (12 - c) c (by omega) (Nat.le_refl _) rfl
