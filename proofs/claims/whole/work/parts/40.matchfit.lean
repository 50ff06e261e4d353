/-! THE MATCHER: links, tests, loose ends, what must not be -/
theorem m_gd {L : List Nat} {x j : Nat} (h : j < L.length) : (L ++ [x]).getD j 0 = L.getD j 0 := by
  rw [List.getD_eq_getElem?_getD, List.getD_eq_getElem?_getD, List.getElem?_append_left h]
theorem m_ge {L : List Nat} {x : Nat} : (L ++ [x]).getD L.length 0 = x := by
  rw [List.getD_eq_getElem?_getD, List.getElem?_append_right (Nat.le_refl _), Nat.sub_self]
  rfl
theorem s100 {h : q_Hp} {b o : Nat} {B : q_Bk} {V : Nat → Nat → Nat} {k : Nat → Int32} {im : Nat → Nat} (A : m_A h b o B V k) (hn : m_nd h (V 0 0) im) : q_mI 1 100 [.ref 601] h (fun z h' => m_fr h h' ∧ qA h' 602 = qA h 602 ∧ ((z = 1 ∧ ∃ L, m_rl (qA h 598) im V = some L ∧ (∀ i, i < V 0 1 → qA h' 603 i = nI (L.getD i 0)) ∧ ∀ j, j < 40 → (bl (qL h' 601 5) j = true ↔ j ∈ L)) ∨ (z = 0 ∧ m_rl (qA h 598) im V = none))) := by
  have S := A.1.1
  have ho := A.1.2.2.1
  have wr := A.2.2.1
  have hN : V 0 0 ≤ 4 := wr.1
  have hL : V 0 1 ≤ 6 := wr.2.1
  refine q_mI.of (q_recV rfl (S.ok rfl)) (fun Q fin => ?_)
  have loop : ∀ m i h1 L (l2 l3 : Option Value), i + m = V 0 1 → m_fr h h1 → qA h1 602 = qA h 602 → m_gl (qA h 598) im (V 2) (V 3) (V 4) [] i = some L → (∀ j, j < i → qA h1 603 j = nI (L.getD j 0)) → (∀ j, j < 40 → (bl (qL h1 601 5) j = true ↔ j ∈ L)) → q_wp 1 100 7 [some (.ref 601), some (.int (nI i)), l2, l3] [] h1 Q := by
    intro m
    induction m with
    | zero =>
      intro i h1 L l2 l3 hi e e2 g1 g2 g3
      obtain rfl : i = V 0 1 := by omega
      have A1 := A.fr e
      have S1 := A1.1.1
      refine b100_7 (S1.ok rfl) A1.1.2.2.2.2 (S1.oo ho) (fun _ => b100_121 (fin _ _ ⟨e, e2, Or.inl ⟨rfl, L, g1, g2, g3⟩⟩)) (fun h1 => absurd ?_ h1)
      rw [A1.2.2.2.2.1.1 1 (by decide)]
      exact Int32.le_refl _
    | succ m ih =>
      intro i h1 L l2 l3 hi e e2 g1 g2 g3
      have A1 := A.fr e
      have S1 := A1.1.1
      have C1 := A1.2.2.2.2.1
      have f2 := A1.1.2.2.2.2
      have eI : qI h1 o 1 = nI (V 0 1) := C1.1 1 (by decide)
      have c1 := C1.2.2.2.1 i (by omega)
      have wl := wr.2.2.2.2.2.2.2.1 i (by omega)
      have hs12 : bN B 1 ≤ 12 := A.2.1.2.1
      have hk : i = L.length := by
        have := m_gl_len _ _ g1
        simpa using this.symm
      refine b100_7 (S1.ok rfl) f2 (S1.oo ho) (fun h2 => absurd ((nI_leI (by omega) (by omega)).mp (eI ▸ h2)) (by omega)) (fun _ => b100_18 (fun h2 => absurd ((nI_gec (k := 6) (by omega) (by decide) rfl).mp h2) (by omega)) (fun _ => b100_24 (S1.ok rfl) (S1.ref (v := 602) rfl) f2 (S1.oo ho) (S1.orr ho 4 (by decide)) (S1.oa ho 4 (by decide)).1 (S1.oi ho 4 (by decide) (show i < 12 by omega)) (s232 (S1.ok rfl) (S1.len (n := 4) rfl) (by decide)) (by decide) ?_))
      rintro z h3 ⟨e0, ez⟩
      subst h3
      have r3 : qA h1 (o + 1 + 4) (nI i).toNatClampNeg = nI (V 3 i) := by rw [nI_clamp (by omega)]; exact c1.2.1
      have r4 : qA h1 (o + 1 + 5) (nI i).toNatClampNeg = nI (V 4 i) := by rw [nI_clamp (by omega)]; exact c1.2.2
      have r2 : qA h1 (o + 1 + 3) (nI i).toNatClampNeg = nI (V 2 i) := by rw [nI_clamp (by omega)]; exact c1.1
      rw [r3, c_at_n (by omega) (by decide), e2, (hn _ wl.2.1).1] at ez
      subst ez
      refine b100_40 (S1.ok rfl) (S1.ref (v := 602) rfl) f2 (S1.oo ho) (S1.orr ho 5 (by decide)) (S1.oa ho 5 (by decide)).1 (S1.oi ho 5 (by decide) (show i < 12 by omega)) (s232 (S1.ok rfl) (S1.len (n := 4) rfl) (by decide)) (by decide) ?_
      rintro z h3 ⟨e0, ez⟩
      subst h3
      rw [r4, c_at_n (by omega) (by decide), e2, (hn _ wl.2.2).1] at ez
      subst ez
      refine b100_57 (S1.ok rfl) (S1.ref (v := 603) rfl) (S1.ref (v := 597) rfl) f2 (S1.oo ho) (S1.orr ho 3 (by decide)) (S1.oa ho 3 (by decide)).1 (S1.oi ho 3 (by decide) (show i < 12 by omega)) (s76 S1.dg) (by decide) ?_
      rintro z h3 ⟨e0, ez⟩
      subst h3
      rw [r2, m_least (by omega) g3, A.f e] at ez
      have g4 := m_gl_s g1
      cases hl : m_ln (qA h 598) (V 2 i) (im (V 3 i)) (im (V 4 i)) L with
      | none =>
        rw [hl] at ez g4
        have ez : z = -1 := ez
        subst ez
        have ev : qA (q_sA h1 603 (nI i).toNatClampNeg (-1)) 603 (nI i).toNatClampNeg = -1 := by rw [qA_sAu, upd_eq]
        refine b100_85 (S1.ok rfl) (S1.inN (n := 6) rfl (by omega) (by decide)) (S1.ok rfl) (S1.ref (v := 603) rfl) (S1.ok rfl) (S1.inN (n := 6) rfl (by omega) (by decide)) (fun h2 => absurd ev h2) (fun _ => b100_96 (fin _ _ ⟨e.trans (m_fr.sA (by decide)), e2, Or.inr ⟨rfl, ?_⟩⟩))
        have := m_gl_none g4 m
        rw [show i + 1 + m = V 0 1 by omega] at this
        exact this
      | some l =>
        rw [hl] at ez g4
        have ez : z = nI l := ez
        subst ez
        have hl4 := (m_ln_lt hl).1
        have ev : qA (q_sA h1 603 (nI i).toNatClampNeg (nI l)) 603 (nI i).toNatClampNeg = nI l := by rw [qA_sAu, upd_eq]
        refine b100_85 (S1.ok rfl) (S1.inN (n := 6) rfl (by omega) (by decide)) (S1.ok rfl) (S1.ref (v := 603) rfl) (S1.ok rfl) (S1.inN (n := 6) rfl (by omega) (by decide)) (fun _ => ?_) (fun h2 => absurd (ev.symm.trans h2) (q_on_ne (by omega)))
        refine b100_98 (S1.ok rfl) (S1.ref (v := 603) rfl) (S1.ok rfl) (S1.inN (n := 6) rfl (by omega) (by decide)) ?_
        rw [ev, nI_1, nI_clamp (by omega)]
        refine ih (i + 1) _ (L ++ [l]) _ _ (by omega) ((e.trans (m_fr.sA (by decide))).trans m_fr.sL) e2 g4 (fun j hj => ?_) (fun j hj => ?_)
        · show qA (q_sA h1 603 i (nI l)) 603 j = _
          rw [qA_sAu]
          by_cases h3 : j = i
          · rw [h3, upd_eq, hk, m_ge]
          · rw [upd_ne h3, g2 j (by omega), m_gd (by omega)]
        · show bl (qL (q_sL (q_sA h1 603 i (nI l)) 601 5 (qL h1 601 5 ||| (1 <<< ((nI l).toInt64 &&& 63)))) 601 5) j = true ↔ _
          rw [qL_sL, if_pos ⟨rfl, rfl⟩, bl_add (by omega) (by omega), Bool.or_eq_true, decide_eq_true_eq, g3 j hj, List.mem_append, List.mem_singleton]
  refine b100_0 (S.ok rfl) (loop (V 0 1) 0 _ [] _ _ (by omega) m_fr.sL rfl rfl (fun j hj => by omega) (fun j hj => ?_))
  rw [qL_sL, if_pos ⟨rfl, rfl⟩, bl_0]
  exact ⟨(fun h => by cases h), (fun h => by cases h)⟩
/-- what keeps the nodes, the links and what is taken -/
def m_fs (h h' : q_Hp) : Prop := m_fr h h' ∧ qA h' 602 = qA h 602 ∧ qA h' 603 = qA h 603 ∧ qL h' 601 = qL h 601
theorem m_fs.rf {h : q_Hp} : m_fs h h := ⟨m_fr.rf, rfl, rfl, rfl⟩
theorem m_fs.trans {h h1 h2 : q_Hp} (a : m_fs h h1) (b : m_fs h1 h2) : m_fs h h2 := ⟨a.1.trans b.1, b.2.1.trans a.2.1, b.2.2.1.trans a.2.2.1, b.2.2.2.trans a.2.2.2⟩
theorem m_fs.hv {h : q_Hp} {g : Nat → Int32} {v : Int32} : m_fs h (m_hv h g v) := ⟨(m_fr.wA (by decide)).trans (m_fr.sI (Or.inr rfl)), rfl, rfl, rfl⟩
theorem m_nd.fs {h h' : q_Hp} {N : Nat} {im : Nat → Nat} (a : m_nd h N im) (e : qA h' 602 = qA h 602) : m_nd h' N im := fun i hi => by rw [e]; exact a i hi
theorem s106' {h : q_Hp} {b o : Nat} {B : q_Bk} {V : Nat → Nat → Nat} {k : Nat → Int32} {im : Nat → Nat} {s : Nat} (A : m_A h b o B V k) (hn : m_nd h (V 0 0) im) (hs : s < 16) (e1 : qA h (o + 12) s = nI (V 11 s)) (e2 : qA h (o + 13) s = nI (V 12 s)) (sm : q_sm B V s) : q_mI 1 106 [.ref 601, .int (nI s)] h (fun z h' => m_fs h h' ∧ ((qI h' 601 11 = 0 ∧ m_sv B (qA h 598) im V s = some [z]) ∨ (qI h' 601 11 = 1 ∧ m_sv B (qA h 598) im V s = none ∧ z = 0))) := by
  have cB := A.2.2.2.1
  have w := A.2.1
  refine (s106 (B := B) (V := V) (K := fun i => bC B i 0) (A := fun i => bC B i 1) (im := im) A.1 (cB.1 4 (by decide)) w.2.2.2.2.1 (fun i hi => ?_) hs e1 e2 sm.1 sm.2.1 A.2.2.1.1 hn (fun _ => rfl) (fun _ => rfl) rfl sm.2.2).mono (Nat.le_refl _) ?_
  · have c1 := cB.2.2.2.2.1 i hi
    have c2 := w.2.2.2.2.2.2.2.2.1 i hi
    exact ⟨c1.1, c1.2, c2.1, c2.2⟩
  · rintro z h' ⟨g, v, rfl, h1⟩
    refine ⟨m_fs.hv, ?_⟩
    rcases h1 with ⟨h2, h3⟩ | ⟨h2, h3, h4⟩
    · exact Or.inl ⟨h2, h3⟩
    · exact Or.inr ⟨h2, h3, h4⟩
theorem s101 {h : q_Hp} {b o : Nat} {B : q_Bk} {V : Nat → Nat → Nat} {k : Nat → Int32} {im : Nat → Nat} (A : m_A h b o B V k) (hn : m_nd h (V 0 0) im) : q_mI 2 101 [.ref 601] h (fun z h' => m_fs h h' ∧ z = b2i (m_dc (∀ t, t < V 0 3 → m_ts B (qA h 598) im V t))) := by
  have S := A.1.1
  have ho := A.1.2.2.1
  have wr := A.2.2.1
  have hT : V 0 3 ≤ 4 := wr.2.2.2.1
  refine q_mI.of (q_recV rfl (S.ok rfl)) (fun Q fin => ?_)
  have no : ∀ t h1, t < V 0 3 → ¬ m_ts B (qA h 598) im V t → m_fs h h1 → Q (some (.int 0)) h1 := by
    intro t h1 ht hx e
    refine fin _ _ ⟨e, ?_⟩
    rw [m_dc_f.mpr (fun h2 => hx (h2 t ht))]
    rfl
  have loop : ∀ m i h1 (l2 l3 l4 : Option Value), i + m = V 0 3 → m_fs h h1 → (∀ t, t < i → m_ts B (qA h 598) im V t) → q_wp 2 101 2 [some (.ref 601), some (.int (nI i)), l2, l3, l4] [] h1 Q := by
    intro m
    induction m with
    | zero =>
      intro i h1 l2 l3 l4 hi e g
      obtain rfl : i = V 0 3 := by omega
      have A1 := A.fr e.1
      have S1 := A1.1.1
      refine b101_2 (S1.ok rfl) A1.1.2.2.2.2 (S1.oo ho) (fun _ => b101_81 (fin _ _ ⟨e, ?_⟩)) (fun h1 => absurd ?_ h1)
      · rw [m_dc_t.mpr g]; rfl
      · rw [A1.2.2.2.2.1.1 3 (by decide)]
        exact Int32.le_refl _
    | succ m ih =>
      intro i h1 l2 l3 l4 hi e g
      have A1 := A.fr e.1
      have S1 := A1.1.1
      have C1 := A1.2.2.2.2.1
      have f2 := A1.1.2.2.2.2
      have eI : qI h1 o 3 = nI (V 0 3) := C1.1 3 (by decide)
      have c1 := C1.2.2.2.2.2.1 i (by omega)
      have wt := wr.2.2.2.2.2.2.2.2.2.1 i (by omega)
      refine b101_2 (S1.ok rfl) f2 (S1.oo ho) (fun h2 => absurd ((nI_leI (by omega) (by omega)).mp (eI ▸ h2)) (by omega)) (fun _ => b101_13 (fun h2 => absurd ((nI_gec (k := 4) (by omega) (by decide) rfl).mp h2) (by omega)) (fun _ => b101_18 (s128 (k := 0)) (by decide) ?_))
      rintro z h3 ⟨e0, rfl⟩
      subst h3
      refine b101_24 (s106' A1 (hn.fs e.2.1) (by omega) (c1.2 0 (by decide)).1 (c1.2 0 (by decide)).2 wt.2.1) (by decide) ?_
      rintro z h3 ⟨ea, xa⟩
      have e3 := e.trans ea
      have A3 := A.fr e3.1
      have S3 := A3.1.1
      have C3 := A3.2.2.2.2.1
      have c3 := C3.2.2.2.2.2.1 i (by omega)
      have f3 := A3.1.2.2.2.2
      rw [A.f e.1, Nat.add_zero] at xa
      refine b101_27 (S3.ok rfl) (s128 (k := 1)) (by decide) ?_
      rintro z2 h4 ⟨e0, rfl⟩
      subst h4
      refine b101_39 (s106' A3 (hn.fs e3.2.1) (by omega) (c3.2 1 (by decide)).1 (c3.2 1 (by decide)).2 wt.2.2.1) (by decide) ?_
      rintro z2 h4 ⟨eb, xb⟩
      have e4 := e3.trans eb
      have A4 := A.fr e4.1
      have S4 := A4.1.1
      have C4 := A4.2.2.2.2.1
      have c4 := C4.2.2.2.2.2.1 i (by omega)
      have f4 := A4.1.2.2.2.2
      rw [A.f e3.1] at xb
      have hc : q_mI 0 102 [.int (qA h4 (o + 1 + 6) (nI i).toNatClampNeg), .int z, .int z2] h4 (fun z' h' => h' = h4 ∧ z' = b2i (m_te (V 10 i) z z2)) := by
        rw [nI_clamp (by omega), show qA h4 (o + 1 + 6) i = _ from c4.1]
        exact s102 wt.1
      refine b101_42 (fun h9 => b101_73 (no i _ (by omega) ?_ e4)) (fun h9 => b101_48 (S4.ok rfl) (fun h8 => b101_73 (no i _ (by omega) ?_ e4)) (fun h8 => b101_55 (S4.ok rfl) f4 (S4.oo ho) (S4.orr ho 6 (by decide)) (S4.oa ho 6 (by decide)).1 (S4.oi ho 6 (by decide) (show i < 4 by omega)) hc (by decide) ?_))
      · rcases xa with h2 | h2
        · exact absurd h2.1 h9
        · rintro ⟨x, y, h5, _⟩
          rw [h2.2.1] at h5
          cases h5
      · rcases xb with h2 | h2
        · exact absurd h2.1 h8
        · rintro ⟨x, y, _, h5, _⟩
          rw [h2.2.1] at h5
          cases h5
      · rintro z3 h5 ⟨e0, rfl⟩
        subst h5
        have ga : m_sv B (qA h 598) im V (2 * i) = some [z] := by
          rcases xa with h2 | h2
          · exact h2.2
          · rw [h2.1] at h9; exact absurd h9 (by decide)
        have gb : m_sv B (qA h 598) im V (2 * i + 1) = some [z2] := by
          rcases xb with h2 | h2
          · exact h2.2
          · rw [h2.1] at h8; exact absurd h8 (by decide)
        refine b101_70 (fun h7 => b101_75 ?_) (fun h7 => b101_73 (no i _ (by omega) ?_ e4))
        · rw [nI_1]
          refine ih (i + 1) _ _ _ _ (by omega) e4 (fun t ht => ?_)
          by_cases h6 : t = i
          · rw [h6]
            exact ⟨z, z2, ga, gb, b2i_ne.mp h7⟩
          · exact g t (by omega)
        · rintro ⟨x, y, hx, hy, h6⟩
          rw [ga] at hx
          rw [gb] at hy
          cases hx
          cases hy
          rw [b2i_eq.mp h7] at h6
          cases h6
  exact b101_0 (loop (V 0 3) 0 h _ _ _ (by omega) m_fs.rf (fun t ht => by omega))
