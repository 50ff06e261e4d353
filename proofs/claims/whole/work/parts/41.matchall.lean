/-! THE MATCHER: loose ends, what must not be, the whole of it -/
theorem bt_nI {m i : Nat} (hi : i < 32) : bt (nI m) i = m.testBit i := by
  unfold bt
  show (BitVec.ofNat 32 m).getLsbD i = _
  rw [BitVec.getLsbD_ofNat, decide_eq_true hi, Bool.true_and]
theorem m_dlb {h : q_Hp} {o : Nat} {V : Nat → Nat → Nat} (C : r_cR h o V) {i : Nat} (hi : i < 4) : bt (qI h o 5) i = true ↔ m_dl V i := by
  obtain ⟨m, hm, e, g⟩ := C.2.2.2.2.2.2.2
  rw [e, bt_nI (by omega), g i hi]
  exact Iff.rfl
theorem s103 {h : q_Hp} {b o : Nat} {B : q_Bk} {V : Nat → Nat → Nat} {k : Nat → Int32} {im : Nat → Nat} {L : List Nat} (A : m_A h b o B V k) (hn : m_nd h (V 0 0) im) (hL : ∀ j, j < 40 → (bl (qL h 601 5) j = true ↔ j ∈ L)) : q_mI 1 103 [.ref 601] h (fun z h' => h' = h ∧ z = b2i (m_dc (m_lo (qA h 598) im V L))) := by
  have S := A.1.1
  have ho := A.1.2.2.1
  have f2 := A.1.2.2.2.2
  have wr := A.2.2.1
  have C := A.2.2.2.2.1
  have D := A.2.2.2.2.2.1
  have hN : V 0 0 ≤ 4 := wr.1
  have eI : qI h o 0 = nI (V 0 0) := C.1 0 (by decide)
  refine q_mI.of (q_recV rfl (S.ok rfl)) (fun Q fin => ?_)
  have loop2 : ∀ m l (dl : Int32) (l3 : Option Value), l + m = 40 → (∀ j, j < 32 → (bt dl j = true ↔ ∃ i, i < V 0 0 ∧ m_dl V i ∧ im i = j)) → (∀ x, x < l → ¬ (¬ qA h 598 (36 + x) = -1 ∧ x ∉ L ∧ ∃ i, i < V 0 0 ∧ m_dl V i ∧ (qA h 598 (76 + x) = nI (im i) ∨ qA h 598 (116 + x) = nI (im i)))) → q_wp 1 103 54 [some (.ref 601), some (.int dl), some (.int (nI l)), l3] [] h Q := by
    intro m
    induction m with
    | zero =>
      intro l dl l3 hl hd g
      obtain rfl : l = 40 := by omega
      refine b103_54 (fun _ => b103_124 (fin _ _ ⟨rfl, ?_⟩)) (fun h1 => absurd (Int32.le_refl _) h1)
      rw [m_dc_f.mpr]
      · rfl
      · rintro ⟨x, hx, h1⟩
        exact g x hx h1
    | succ m ih =>
      intro l dl l3 hl hd g
      have nx : ∀ l3, ¬ (¬ qA h 598 (36 + l) = -1 ∧ l ∉ L ∧ ∃ i, i < V 0 0 ∧ m_dl V i ∧ (qA h 598 (76 + l) = nI (im i) ∨ qA h 598 (116 + l) = nI (im i))) → q_wp 1 103 118 [some (.ref 601), some (.int dl), some (.int (nI l)), l3] [] h Q := by
        intro l3 h1
        refine b103_118 ?_
        rw [nI_1]
        refine ih (l + 1) dl l3 (by omega) hd (fun x hx => ?_)
        by_cases h2 : x = l
        · rw [h2]; exact h1
        · exact g x (by omega)
      refine b103_54 (fun h1 => absurd ((nI_gec (k := 40) (by omega) (by decide) rfl).mp h1) (by omega)) (fun _ => b103_60 (fun c1 => b103_124 (fin _ _ ⟨rfl, ?_⟩)) (fun c1 => b103_64 (S.ok rfl) (S.ref (v := 597) rfl) (s71 S.dg) (by decide) ?_))
      · rw [m_dc_f.mpr]
        · rfl
        · rintro ⟨x, hx, _, _, i, hi, h2, _⟩
          have := (hd (im i) (by have := (hn i hi).2; omega)).mpr ⟨i, hi, h2, rfl⟩
          rw [c1, b_0] at this
          cases this
      · rintro z h1 ⟨e0, rfl⟩
        subst h1
        rw [d_hasL_n (by omega)]
        refine b103_72 (fun c2 => nx _ (fun h2 => ?_)) (fun c2 => b103_75 (S.ok rfl) (fun c3 => nx _ (fun h2 => ?_)) (fun c3 => b103_88 (S.ok rfl) (S.ref (v := 597) rfl) (s69 S.dg) (by decide) ?_))
        · have c4 := b2i_eq.mp c2
          simp only [Bool.not_eq_false', beq_iff_eq] at c4
          exact h2.1 c4
        · rw [bl_1 (by omega)] at c3
          by_cases c4 : bl (qL h 601 5) l = true
          · exact h2.2.1 ((hL l (by omega)).mp c4)
          · rw [if_neg c4] at c3
            exact c3 (by decide)
        · have c5 := b2i_ne.mp c2
          simp only [Bool.not_eq_true', beq_eq_false_iff_ne] at c5
          have c6 : l ∉ L := by
            intro h4
            rw [bl_1 (by omega), if_pos ((hL l (by omega)).mpr h4)] at c3
            exact absurd c3 (by decide)
          obtain ⟨⟨a, ha, ea⟩, a2, ha2, ea2⟩ := D.1.ends l (by omega) c5
          rintro z h1 ⟨e0, rfl⟩
          subst h1
          refine b103_97 (S.ok rfl) (S.ref (v := 597) rfl) (s70 S.dg) (by decide) ?_
          rintro z h1 ⟨e0, rfl⟩
          subst h1
          rw [d_at_n (by omega), d_at_n (by omega), ea, ea2]
          refine b103_107 (fun c7 => nx _ (fun h2 => ?_)) (fun c7 => b103_116 (fin _ _ ⟨rfl, ?_⟩))
          · obtain ⟨i, hi, hdl, h8⟩ := h2.2.2
            have him := (hn i hi).2
            have hb := (hd (im i) (by omega)).mpr ⟨i, hi, hdl, rfl⟩
            refine (bi_dis.mp c7) (im i) (by omega) ⟨?_, hb⟩
            rw [b_or, bi_sh (by omega) (by omega), bi_sh (by omega) (by omega)]
            rcases h8 with h8 | h8
            · rw [ea] at h8
              rw [(nI_eq (by omega) (by omega)).mp h8, decide_eq_true rfl, Bool.true_or]
            · rw [ea2] at h8
              rw [(nI_eq (by omega) (by omega)).mp h8, decide_eq_true rfl, Bool.or_true]
          · rw [m_dc_t.mpr]
            · rfl
            · have c8 := mt bi_dis.mpr c7
              refine Classical.byContradiction (fun h9 => c8 (fun j hj hx => h9 ?_))
              rw [b_or, bi_sh (by omega) hj, bi_sh (by omega) hj, Bool.or_eq_true, decide_eq_true_eq, decide_eq_true_eq] at hx
              obtain ⟨i, hi, hdl, him⟩ := (hd j hj).mp hx.2
              refine ⟨l, by omega, c5, c6, i, hi, hdl, ?_⟩
              rw [ea, ea2, him]
              rcases hx.1 with h7 | h7
              · exact Or.inl (by rw [h7])
              · exact Or.inr (by rw [h7])
  have loop1 : ∀ m i (dl : Int32), i + m = V 0 0 → (∀ j, j < 32 → (bt dl j = true ↔ ∃ x, x < i ∧ m_dl V x ∧ im x = j)) → q_wp 1 103 4 [some (.ref 601), some (.int dl), some (.int (nI i)), none] [] h Q := by
    intro m
    induction m with
    | zero =>
      intro i dl hi hd
      obtain rfl : i = V 0 0 := by omega
      exact b103_4 (S.ok rfl) f2 (S.oo ho) (fun _ => b103_52 (loop2 40 0 dl _ rfl hd (fun x hx => absurd hx (Nat.not_lt_zero _)))) (fun h1 => absurd (by rw [eI]; exact Int32.le_refl _) h1)
    | succ m ih =>
      intro i dl hi hd
      have hb := m_dlb C (show i < 4 by omega)
      obtain ⟨i1, i2⟩ := hn i (by omega)
      refine b103_4 (S.ok rfl) f2 (S.oo ho) (fun h2 => absurd ((nI_leI (by omega) (by omega)).mp (eI ▸ h2)) (by omega)) (fun _ => b103_15 (fun h2 => absurd ((nI_gec (k := 4) (by omega) (by decide) rfl).mp h2) (by omega)) (fun _ => b103_20 (S.ok rfl) f2 (S.oo ho) (fun c1 => b103_46 ?_) (fun c1 => b103_35 (S.ok rfl) (S.ref (v := 602) rfl) (S.ok rfl) (S.inN (n := 4) rfl (by omega) (by decide)) (b103_46 ?_))))
      · rw [nI_1]
        refine ih (i + 1) dl (by omega) (fun j hj => ?_)
        rw [hd j hj]
        constructor
        · rintro ⟨x, h1, h2⟩
          exact ⟨x, by omega, h2⟩
        · rintro ⟨x, h1, h2, h3⟩
          refine ⟨x, ?_, h2, h3⟩
          rcases Nat.lt_or_ge x i with h4 | h4
          · exact h4
          · obtain rfl : x = i := by omega
            exact absurd ((bi_o (by omega)).mpr (hb.mpr h2)) c1
      · rw [nI_1, nI_clamp (by omega), i1]
        refine ih (i + 1) _ (by omega) (fun j hj => ?_)
        rw [bi_add (by omega) hj, Bool.or_eq_true, decide_eq_true_eq, hd j hj]
        have hdl := hb.mp ((bi_o (by omega)).mp c1)
        constructor
        · rintro (⟨x, h1, h2⟩ | rfl)
          · exact ⟨x, by omega, h2⟩
          · exact ⟨i, by omega, hdl, rfl⟩
        · rintro ⟨x, h1, h2, h3⟩
          rcases Nat.lt_or_ge x i with h4 | h4
          · exact Or.inl ⟨x, h4, h2, h3⟩
          · obtain rfl : x = i := by omega
            exact Or.inr h3.symm
  exact b103_0 (loop1 (V 0 0) 0 0 (by omega) (fun j _ => by rw [b_0]; exact ⟨fun h => absurd h (by decide), fun ⟨x, h1, _⟩ => absurd h1 (Nat.not_lt_zero _)⟩))
theorem s105 {h : q_Hp} {b o : Nat} {B : q_Bk} {V : Nat → Nat → Nat} {k : Nat → Int32} {im : Nat → Nat} {L : List Nat} {n c : Nat} (A : m_A h b o B V k) (hn : m_nd h (V 0 0) im) (hL : ∀ j, j < 40 → (bl (qL h 601 5) j = true ↔ j ∈ L)) (hn2 : n < V 0 2) (hc : c < 12) : q_mI 1 105 [.ref 601, .int (nI n), .int (nI c)] h (fun z h' => h' = h ∧ z = b2i (m_ng (qA h 598) im V L n c).isSome) := by
  have S := A.1.1
  have ho := A.1.2.2.1
  have f2 := A.1.2.2.2.2
  have wr := A.2.2.1
  have C := A.2.2.2.2.1
  have t3 := A.2.2.2.2.2.2.2.2
  have hN : V 0 0 ≤ 4 := wr.1
  have h02 : V 0 2 ≤ 2 := wr.2.2.1
  have wn := wr.2.2.2.2.2.2.2.2.1 n hn2
  have cn := C.2.2.2.2.1 n hn2
  have hs12 : bN B 1 ≤ 12 := A.2.1.2.1
  refine q_mI.of (q_recV rfl (S.ok rfl)) (fun Q fin => ?_)
  have loop : ∀ m i (us : Int64) (L1 : List Nat) (l6 l7 l8 l9 l10 l11 l12 : Option Value), i + m = V 6 n → m_gl (qA h 598) (m_i4 im c) (fun l => V 7 (3 * n + l)) (fun l => V 8 (3 * n + l)) (fun l => V 9 (3 * n + l)) L i = some L1 → (∀ j, j < 40 → (bl us j = true ↔ j ∈ L1)) → q_wp 1 105 8 [some (.ref 601), some (.int (nI n)), some (.int (nI c)), some (.long us), none, some (.int (nI i)), l6, l7, l8, l9, l10, l11, l12] [] h Q := by
    intro m
    induction m with
    | zero =>
      intro i us L1 l6 l7 l8 l9 l10 l11 l12 hi g g2
      obtain rfl : i = V 6 n := by omega
      refine b105_8 (S.ok rfl) f2 (S.oo ho) (S.orr ho 2 (by decide)) (s232 (n := 2) (S.oa ho 2 (by decide)).1 (S.oa ho 2 (by decide)).2 (by decide)) (by decide) ?_
      rintro z h1 ⟨e0, ez⟩
      subst h1
      rw [c_at_n (show n < 2 by omega) (by decide), show qA h (o + 1 + 2) n = _ from cn.2.1] at ez
      subst ez
      refine b105_21 (fun _ => b105_179 (fin _ _ ⟨rfl, ?_⟩)) (fun h1 => absurd (Int32.le_refl _) h1)
      rw [show m_ng (qA h 598) im V L n c = some L1 from g]
      rfl
    | succ m ih =>
      intro i us L1 l6 l7 l8 l9 l10 l11 l12 hi g g2
      have c1 := cn.2.2 i (by omega)
      have w1 := wn.2.2 i (by omega)
      have g4 := m_gl_s g
      have bad : m_ln (qA h 598) (V 7 (3 * n + i)) (m_i4 im c (V 8 (3 * n + i))) (m_i4 im c (V 9 (3 * n + i))) L1 = none → Q (some (.int 0)) h := by
        intro h1
        rw [h1] at g4
        have h2 := m_gl_none g4 m
        rw [show i + 1 + m = V 6 n by omega] at h2
        refine fin _ _ ⟨rfl, ?_⟩
        rw [show m_ng (qA h 598) im V L n c = none from h2]
        rfl
      have h4 : ∀ x, x < V 0 0 ∨ x = 4 ∧ 0 < V 5 n → m_i4 im c x < 12 := by
        intro x hx
        unfold m_i4
        split
        · exact hc
        · rcases hx with h1 | h1
          · exact (hn x h1).2
          · omega
      have q8 := h4 _ w1.2.1
      have q9 := h4 _ w1.2.2
      refine b105_8 (S.ok rfl) f2 (S.oo ho) (S.orr ho 2 (by decide)) (s232 (n := 2) (S.oa ho 2 (by decide)).1 (S.oa ho 2 (by decide)).2 (by decide)) (by decide) ?_
      rintro z h1 ⟨e0, ez⟩
      subst h1
      rw [c_at_n (show n < 2 by omega) (by decide), show qA h (o + 1 + 2) n = _ from cn.2.1] at ez
      subst ez
      refine b105_21 (fun h1 => absurd ((nI_leI (by omega) (by omega)).mp h1) (by omega)) (fun _ => b105_24 s130 (by decide) ?_)
      rintro z h1 ⟨e0, rfl⟩
      subst h1
      refine b105_28 (S.ok rfl) f2 (S.oo ho) (S.orr ho 4 (by decide)) (s232 (n := 12) (S.oa ho 4 (by decide)).1 (S.oa ho 4 (by decide)).2 (by decide)) (by decide) ?_
      rintro z h1 ⟨e0, ez⟩
      subst h1
      rw [nI_add, c_at_n (show 6 + 3 * n + i < 12 by omega) (by decide), show qA h (o + 1 + 4) _ = _ from c1.2.1] at ez
      subst ez
      rw [nI_add]
      refine b105_45 (S.ok rfl) f2 (S.oo ho) (S.orr ho 5 (by decide)) (s232 (n := 12) (S.oa ho 5 (by decide)).1 (S.oa ho 5 (by decide)).2 (by decide)) (by decide) ?_
      rintro z h1 ⟨e0, ez⟩
      subst h1
      rw [c_at_n (show 6 + 3 * n + i < 12 by omega) (by decide), show qA h (o + 1 + 5) _ = _ from c1.2.2] at ez
      subst ez
      have j101 : ∀ (x7 x8 : Int32) l10 l11 l12, q_wp 1 105 101 [some (.ref 601), some (.int (nI n)), some (.int (nI c)), some (.long us), none, some (.int (nI i)), some (.int (nI (6 + 3 * n + i))), some (.int x7), some (.int x8), some (.int (nI (m_i4 im c (V 8 (3 * n + i))))), l10, l11, l12] [.int (nI (m_i4 im c (V 9 (3 * n + i))))] h Q := by
        intro x7 x8 l10 l11 l12
        refine b105_101 (S.ok rfl) f2 (S.oo ho) (S.orr ho 3 (by decide)) (s232 (n := 12) (S.oa ho 3 (by decide)).1 (S.oa ho 3 (by decide)).2 (by decide)) (by decide) ?_
        rintro z h1 ⟨e0, ez⟩
        subst h1
        rw [c_at_n (show 6 + 3 * n + i < 12 by omega) (by decide), show qA h (o + 1 + 3) _ = _ from c1.1] at ez
        subst ez
        refine b105_115 (S.ok rfl) (S.ref (v := 606) rfl) (s232 (S.ok rfl) (S.len (n := 144) rfl) (by decide)) (by decide) ?_
        rintro z h1 ⟨e0, ez⟩
        subst h1
        rw [show nI (V 7 (3 * n + i)) * 12 = nI (V 7 (3 * n + i) * 12) from pk_mul _ 12, nI_add, c_at_n (by omega) (by decide)] at ez
        subst ez
        have tt := t3 (V 7 (3 * n + i)) (m_i4 im c (V 8 (3 * n + i))) (m_i4 im c (V 9 (3 * n + i))) (by omega) q8 (by omega)
        rw [Nat.mul_comm] at tt
        refine b105_132 (fun c2 => b105_142 (S.ok rfl) (S.ref (v := 597) rfl) (s76 S.dg) (by decide) ?_) (fun c2 => b105_140 (bad ?_))
        · rintro z h1 ⟨e0, ez⟩
          subst h1
          rw [m_least (by omega) g2] at ez
          cases hl : m_ln (qA h 598) (V 7 (3 * n + i)) (m_i4 im c (V 8 (3 * n + i))) (m_i4 im c (V 9 (3 * n + i))) L1 with
          | none =>
            rw [hl] at ez
            have ez : z = -1 := ez
            subst ez
            exact b105_156 (fun h2 => absurd rfl h2) (fun _ => b105_164 (bad hl))
          | some l =>
            rw [hl] at ez g4
            have ez : z = nI l := ez
            subst ez
            have hl4 := (m_ln_lt hl).1
            refine b105_156 (fun _ => b105_166 ?_) (fun h2 => absurd h2 (q_on_ne (by omega)))
            rw [nI_1]
            refine ih (i + 1) _ (L1 ++ [l]) _ _ _ _ _ _ _ (by omega) g4 (fun j hj => ?_)
            rw [bl_add (by omega) (by omega), Bool.or_eq_true, decide_eq_true_eq, g2 j hj, List.mem_append, List.mem_singleton]
        · cases hl : m_ln (qA h 598) (V 7 (3 * n + i)) (m_i4 im c (V 8 (3 * n + i))) (m_i4 im c (V 9 (3 * n + i))) L1 with
          | none => rfl
          | some l =>
            have h5 := m_ln_lt hl
            have h6 := tt.mpr ⟨l, h5.1, h5.2.1, h5.2.2.1, h5.2.2.2.1⟩
            rw [(bi_z (by omega)).mp c2] at h6
            cases h6
      have j80 : ∀ (x7 : Int32) l9 l10 l11 l12, q_wp 1 105 80 [some (.ref 601), some (.int (nI n)), some (.int (nI c)), some (.long us), none, some (.int (nI i)), some (.int (nI (6 + 3 * n + i))), some (.int x7), some (.int (nI (V 9 (3 * n + i)))), l9, l10, l11, l12] [.int (nI (m_i4 im c (V 8 (3 * n + i))))] h Q := by
        intro x7 l9 l10 l11 l12
        refine b105_80 (fun c2 => b105_92 (S.ok rfl) (S.ref (v := 602) rfl) (s232 (S.ok rfl) (S.len (n := 4) rfl) (by decide)) (by decide) ?_) (fun c2 => b105_88 ?_)
        · rintro z h1 ⟨e0, ez⟩
          subst h1
          have c3 : ¬ V 9 (3 * n + i) = 4 := fun h5 => c2 (by rw [h5]; rfl)
          have c4 : V 9 (3 * n + i) < V 0 0 := by
            rcases w1.2.2 with h5 | h5
            · exact h5
            · exact absurd h5.1 c3
          rw [c_at_n (by omega) (by decide), (hn _ c4).1, show im (V 9 (3 * n + i)) = m_i4 im c (V 9 (3 * n + i)) from (if_neg c3).symm] at ez
          subst ez
          exact j101 _ _ _ _ _
        · have c3 : V 9 (3 * n + i) = 4 := (nI_eq (b := 4) (by rcases w1.2.2 with h5 | h5 <;> omega) (by decide)).mp c2
          have j := j101 x7 (nI (V 9 (3 * n + i))) l10 l11 l12
          rw [show m_i4 im c (V 9 (3 * n + i)) = c from if_pos c3] at j
          exact j
      refine b105_59 (fun c2 => b105_71 (S.ok rfl) (S.ref (v := 602) rfl) (s232 (S.ok rfl) (S.len (n := 4) rfl) (by decide)) (by decide) ?_) (fun c2 => b105_67 ?_)
      · rintro z h1 ⟨e0, ez⟩
        subst h1
        have c3 : ¬ V 8 (3 * n + i) = 4 := fun h5 => c2 (by rw [h5]; rfl)
        have c4 : V 8 (3 * n + i) < V 0 0 := by
          rcases w1.2.1 with h5 | h5
          · exact h5
          · exact absurd h5.1 c3
        rw [c_at_n (by omega) (by decide), (hn _ c4).1, show im (V 8 (3 * n + i)) = m_i4 im c (V 8 (3 * n + i)) from (if_neg c3).symm] at ez
        subst ez
        exact j80 _ _ _ _ _
      · have c3 : V 8 (3 * n + i) = 4 := (nI_eq (b := 4) (by rcases w1.2.1 with h5 | h5 <;> omega) (by decide)).mp c2
        have j := j80 (nI (V 8 (3 * n + i))) l9 l10 l11 l12
        rw [show m_i4 im c (V 8 (3 * n + i)) = c from if_pos c3] at j
        exact j
  exact b105_0 (S.ok rfl) (loop (V 6 n) 0 _ L _ _ _ _ _ _ _ (by omega) rfl hL)
theorem s104 {h : q_Hp} {b o : Nat} {B : q_Bk} {V : Nat → Nat → Nat} {k : Nat → Int32} {im : Nat → Nat} {L : List Nat} {n : Nat} (A : m_A h b o B V k) (hn : m_nd h (V 0 0) im) (hL : ∀ j, j < 40 → (bl (qL h 601 5) j = true ↔ j ∈ L)) (hn2 : n < V 0 2) : q_mI 2 104 [.ref 601, .int (nI n)] h (fun z h' => h' = h ∧ z = b2i (m_dc (m_no B (qA h 598) im V L n))) := by
  have S := A.1.1
  have ho := A.1.2.2.1
  have f2 := A.1.2.2.2.2
  have wr := A.2.2.1
  have C := A.2.2.2.2.1
  have t2 := A.2.2.2.2.2.2.2.1
  have h02 : V 0 2 ≤ 2 := wr.2.2.1
  have wn := wr.2.2.2.2.2.2.2.2.1 n hn2
  have cn := C.2.2.2.2.1 n hn2
  have hT : bN B 0 ≤ 12 := A.2.1.1
  refine q_mI.of (q_recV rfl (S.ok rfl)) (fun Q fin => ?_)
  have loop : ∀ m c (x2 : Int32), c + m = (if V 5 n = 0 then 1 else 12) → (x2 = 0 ↔ V 5 n = 0) → (∀ x, x < c → ¬ ((¬ V 5 n = 0 → m_tt B (qA h 598) (oN (V 5 n)) x) ∧ ∃ L', m_ng (qA h 598) im V L n x = some L')) → q_wp 2 104 35 [some (.ref 601), some (.int (nI n)), some (.int x2), some (.int (nI (if V 5 n = 0 then 1 else 12))), some (.int (nI c))] [] h Q := by
    intro m
    induction m with
    | zero =>
      intro c x2 hc hx g
      refine b104_35 (fun _ => b104_80 (fin _ _ ⟨rfl, ?_⟩)) (fun h1 => absurd (by rw [← hc]; exact Int32.le_refl _) h1)
      rw [m_dc_f.mpr]
      · rfl
      · rintro ⟨x, h1, h2⟩
        exact g x (by omega) h2
    | succ m ih =>
      intro c x2 hc hx g
      have h12 : c < 12 := by
        split at hc <;> omega
      have le : (if V 5 n = 0 then 1 else 12) ≤ 12 := by split <;> omega
      have nx : ¬ ((¬ V 5 n = 0 → m_tt B (qA h 598) (oN (V 5 n)) c) ∧ ∃ L', m_ng (qA h 598) im V L n c = some L') → q_wp 2 104 74 [some (.ref 601), some (.int (nI n)), some (.int x2), some (.int (nI (if V 5 n = 0 then 1 else 12))), some (.int (nI c))] [] h Q := by
        intro h1
        refine b104_74 ?_
        rw [nI_1]
        refine ih (c + 1) x2 (by omega) hx (fun x h2 => ?_)
        by_cases h3 : x = c
        · rw [h3]; exact h1
        · exact g x (by omega)
      have try1 : (¬ V 5 n = 0 → m_tt B (qA h 598) (oN (V 5 n)) c) → q_wp 2 104 62 [some (.ref 601), some (.int (nI n)), some (.int x2), some (.int (nI (if V 5 n = 0 then 1 else 12))), some (.int (nI c))] [] h Q := by
        intro h1
        refine b104_62 (s105 A hn hL hn2 h12) (by decide) ?_
        rintro z h3 ⟨e0, rfl⟩
        subst h3
        refine b104_69 (fun c1 => nx (fun h2 => ?_)) (fun c1 => b104_72 (fin _ _ ⟨rfl, ?_⟩))
        · obtain ⟨L', h3⟩ := h2.2
          rw [h3] at c1
          exact absurd (b2i_eq.mp c1) (by simp)
        · have c2 := b2i_ne.mp c1
          rw [m_dc_t.mpr]
          · rfl
          · exact ⟨c, by omega, h1, Option.isSome_iff_exists.mp c2⟩
      refine b104_35 (fun h1 => absurd ((nI_leI (by omega) (by omega)).mp h1) (by omega)) (fun _ => b104_41 (fun c1 => try1 (fun h2 => absurd (hx.mp c1) h2)) (fun c1 => b104_45 (S.ok rfl) (S.ref (v := 605) rfl) (s232 (S.ok rfl) (S.len (n := 2) rfl) (by decide)) (by decide) ?_))
      rintro z h3 ⟨e0, rfl⟩
      subst h3
      rw [c_at_n (show n < 2 by omega) (by decide)]
      have tt := t2 n hn2 c (by omega)
      refine b104_53 (fun c2 => nx (fun h2 => c2 ((bi_o (by omega)).mpr (tt.mpr ⟨h12, h2.1 (mt hx.mpr c1)⟩)))) (fun c2 => try1 (fun _ => (tt.mp ((bi_o (by omega)).mp c2)).2))
  refine b104_0 (S.ok rfl) f2 (S.oo ho) (S.orr ho 1 (by decide)) (s232 (n := 2) (S.oa ho 1 (by decide)).1 (S.oa ho 1 (by decide)).2 (by decide)) (by decide) ?_
  rintro z h1 ⟨e0, ez⟩
  subst h1
  rw [c_at_n (show n < 2 by omega) (by decide), show qA h (o + 1 + 1) _ = _ from cn.1] at ez
  subst ez
  by_cases hz : V 5 n = 0
  · rw [hz]
    have l0 := loop (if V 5 n = 0 then 1 else 12) 0 0 (by omega) (iff_of_true rfl hz) (fun x hx => by omega)
    rw [if_pos hz] at l0
    exact b104_11 (fun _ => b104_19 (b104_20 (fun _ => b104_30 (b104_31 l0)) (fun h1 => absurd rfl h1))) (fun h1 => absurd rfl h1)
  · have hne : ¬ oN (V 5 n) = -1 := by
      obtain ⟨y, hy⟩ : ∃ y, V 5 n = y + 1 := ⟨V 5 n - 1, by omega⟩
      rw [hy, oN_s]
      exact q_on_ne (by omega)
    have l0 := loop (if V 5 n = 0 then 1 else 12) 0 1 (by omega) (iff_of_false (by decide) hz) (fun x hx => by omega)
    rw [if_neg hz] at l0
    exact b104_11 (fun h1 => absurd h1 hne) (fun _ => b104_15 (b104_20 (fun h1 => absurd h1 (by decide)) (fun _ => b104_25 (b104_31 l0))))
theorem s99 {h : q_Hp} {b o : Nat} {B : q_Bk} {V : Nat → Nat → Nat} {k : Nat → Int32} {im : Nat → Nat} (A : m_A h b o B V k) (hn : m_nd h (V 0 0) im) : q_mI 3 99 [.ref 601] h (fun z h' => m_fr h h' ∧ qA h' 602 = qA h 602 ∧ z = b2i (m_dc (∃ L, m_ft B (qA h 598) im V L)) ∧ ∀ L, m_ft B (qA h 598) im V L → ∀ i, i < V 0 1 → qA h' 603 i = nI (L.getD i 0)) := by
  have S := A.1.1
  have ho := A.1.2.2.1
  have wr := A.2.2.1
  have h02 : V 0 2 ≤ 2 := wr.2.2.1
  refine q_mI.of (q_recV rfl (S.ok rfl)) (fun Q fin => ?_)
  have bad : ∀ h', m_fr h h' → qA h' 602 = qA h 602 → (∀ L, ¬ m_ft B (qA h 598) im V L) → Q (some (.int 0)) h' := by
    intro h' e1 e2 h1
    refine fin _ _ ⟨e1, e2, ?_, fun L h2 => absurd h2 (h1 L)⟩
    rw [m_dc_f.mpr (fun ⟨L, h2⟩ => h1 L h2)]
    rfl
  refine b99_0 (s100 A hn) (by decide) ?_
  rintro z h1 ⟨e1, e2, hz⟩
  rcases hz with ⟨rfl, L, g1, g2, g3⟩ | ⟨rfl, g1⟩
  · refine b99_4 (fun h9 => absurd h9 (by decide)) (fun _ => ?_)
    have A1 := A.fr e1
    have only : ∀ L', m_ft B (qA h 598) im V L' → L' = L := by
      intro L' h2
      have := h2.1
      rw [g1] at this
      cases this
      rfl
    refine b99_7 (s101 A1 (hn.fs e2)) (by decide) ?_
    rintro z h2 ⟨e3, rfl⟩
    rw [A.f e1]
    have e4 := e1.trans e3.1
    have e5 : qA h2 602 = qA h 602 := e3.2.1.trans e2
    refine b99_11 (fun c1 => b99_21 (bad _ e4 e5 (fun L' h3 => m_dc_f.mp (b2i_eq.mp c1) h3.2.1))) (fun c1 => ?_)
    have g4 := m_dc_t.mp (b2i_ne.mp c1)
    have A2 := A.fr e4
    have S2 := A2.1.1
    have g3' : ∀ j, j < 40 → (bl (qL h2 601 5) j = true ↔ j ∈ L) := by rw [e3.2.2.2]; exact g3
    refine b99_14 (s103 A2 (hn.fs e5) g3') (by decide) ?_
    rintro z h3 ⟨e0, rfl⟩
    subst h3
    rw [A.f e4]
    refine b99_18 (fun c2 => b99_23 ?_) (fun c2 => b99_21 (bad _ e4 e5 (fun L' h3 => ?_)))
    · have g5 := m_dc_f.mp (b2i_eq.mp c2)
      have eI : qI h2 o 2 = nI (V 0 2) := A2.2.2.2.2.1.1 2 (by decide)
      have loop : ∀ m i, i + m = V 0 2 → (∀ n, n < i → ¬ m_no B (qA h 598) im V L n) → q_wp 3 99 25 [some (.ref 601), some (.int (nI i))] [] h2 Q := by
        intro m
        induction m with
        | zero =>
          intro i hi g
          obtain rfl : i = V 0 2 := by omega
          have good : m_ft B (qA h 598) im V L := ⟨g1, g4, g5, g⟩
          refine b99_25 (S2.ok rfl) A2.1.2.2.2.2 (S2.oo ho) (fun _ => b99_52 (fin _ _ ⟨e4, e5, ?_, fun L' h3 => ?_⟩)) (fun h9 => absurd (by rw [eI]; exact Int32.le_refl _) h9)
          · rw [m_dc_t.mpr ⟨L, good⟩]
            rfl
          · rw [only L' h3, e3.2.2.1]
            exact g2
        | succ m ih =>
          intro i hi g
          refine b99_25 (S2.ok rfl) A2.1.2.2.2.2 (S2.oo ho) (fun h9 => absurd ((nI_leI (by omega) (by omega)).mp (eI ▸ h9)) (by omega)) (fun _ => b99_36 (s104 A2 (hn.fs e5) g3' (by omega)) (by decide) ?_)
          rintro z h3 ⟨e0, rfl⟩
          subst h3
          rw [A.f e4]
          refine b99_41 (fun c3 => b99_46 ?_) (fun c3 => b99_44 (bad _ e4 e5 (fun L' h3 => ?_)))
          · rw [nI_1]
            refine ih (i + 1) (by omega) (fun n hn => ?_)
            by_cases h9 : n = i
            · rw [h9]; exact m_dc_f.mp (b2i_eq.mp c3)
            · exact g n (by omega)
          · have := only L' h3
            subst this
            exact h3.2.2.2 i (by omega) (m_dc_t.mp (b2i_ne.mp c3))
      exact loop (V 0 2) 0 (by omega) (fun n hn => absurd hn (Nat.not_lt_zero _))
    · have := only L' h3
      subst this
      exact h3.2.2.1 (m_dc_t.mp (b2i_ne.mp c2))
  · refine b99_4 (fun _ => b99_21 (bad _ e1 e2 (fun L' h3 => ?_))) (fun h9 => absurd rfl h9)
    have := h3.1
    rw [g1] at this
    cases this
