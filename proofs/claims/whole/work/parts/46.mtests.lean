/-! THE REFERENCE'S MATCHER: is it a match -/
theorem s313 {h : q_Hp} {s a c mn ow : Nat} {us : List Nat} (S : q_Sh h) (h1 : mn ≤ 6) (h2 : 6 ≤ ow) (h3 : ow ≤ 9) (hu : ∀ l, l < 40 → (l ∈ us ↔ (∃ k, k < mn ∧ qA h 696 k = nI l) ∨ ∃ k, 6 ≤ k ∧ k < ow ∧ qA h 696 k = nI l)) : q_mI 0 313 [.ref 630, .int (nI s), .int (nI a), .int (nI c), .int (nI mn), .int (nI ow)] h (fun z h' => h' = h ∧ z = q_on (m_ln (qA h 691) s a c us)) := by
  refine q_mI.of (q_recV rfl (S.ok rfl)) (fun Q fin => ?_)
  have loop : ∀ m l (l7 l8 : Option Value), l + m = 40 → (m_ln (qA h 691) s a c us = q_fst (fun i => (qA h 691 (36 + i) == nI s && qA h 691 (76 + i) == nI a && qA h 691 (116 + i) == nI c) && !us.contains i) l m) → q_wp 0 313 3 [some (.ref 630), some (.int (nI s)), some (.int (nI a)), some (.int (nI c)), some (.int (nI mn)), some (.int (nI ow)), some (.int (nI l)), l7, l8] [] h Q := by
    intro m
    induction m with
    | zero =>
      intro l l7 l8 hl g
      obtain rfl : l = 40 := by omega
      exact b313_3 (fun _ => b313_153 (fin _ _ ⟨rfl, by rw [g]; rfl⟩)) (fun h1 => absurd (Int32.le_refl _) h1)
    | succ m ih =>
      intro l l7 l8 hl g
      rw [q_fst_s (i := l) (n := m)] at g
      have e36 : qA h 691 ((36 + nI l : Int32).toNatClampNeg) = qA h 691 (36 + l) := by rw [a36, nI_clamp (by omega)]
      have e76 : qA h 691 ((76 + nI l : Int32).toNatClampNeg) = qA h 691 (76 + l) := by rw [a76, nI_clamp (by omega)]
      have e116 : qA h 691 ((116 + nI l : Int32).toNatClampNeg) = qA h 691 (116 + l) := by rw [a116, nI_clamp (by omega)]
      have nx : ∀ l7 l8, ((qA h 691 (36 + l) == nI s && qA h 691 (76 + l) == nI a && qA h 691 (116 + l) == nI c) && !us.contains l) = false → q_wp 0 313 147 [some (.ref 630), some (.int (nI s)), some (.int (nI a)), some (.int (nI c)), some (.int (nI mn)), some (.int (nI ow)), some (.int (nI l)), l7, l8] [] h Q := by
        intro l7 l8 h4
        refine b313_147 ?_
        rw [nI_1]
        rw [if_neg (by rw [h4]; decide)] at g
        exact ih (l + 1) _ _ (by omega) g
      refine b313_3 (fun h1 => absurd ((nI_gec (k := 40) (by omega) (by decide) rfl).mp h1) (by omega)) (fun _ => b313_10 (S.ok rfl) S.mr S.md (by rw [a36]; exact S.mi (by omega)) (fun c1 => nx _ _ ?_) (fun c1 => b313_24 (S.ok rfl) S.mr S.md (by rw [a76]; exact S.mi (by omega)) (fun c2 => nx _ _ ?_) (fun c2 => b313_38 (S.ok rfl) S.mr S.md (by rw [a116]; exact S.mi (by omega)) (fun c3 => b313_55 ?_) (fun c3 => b313_52 (nx _ _ ?_)))))
      · rw [e36] at c1
        rw [beq_eq_false_iff_ne.mpr c1]
        rfl
      · rw [e76] at c2
        rw [beq_eq_false_iff_ne.mpr c2, Bool.and_false]
        rfl
      · rw [e36] at c1
        rw [e76] at c2
        rw [e116] at c3
        have hall : (qA h 691 (36 + l) == nI s && qA h 691 (76 + l) == nI a && qA h 691 (116 + l) == nI c) = true := by
          rw [beq_iff_eq.mpr c1, beq_iff_eq.mpr c2, beq_iff_eq.mpr c3]
          rfl
        rw [hall, Bool.true_and] at g nx
        have loop2 : ∀ m2 k (x7 : Int32), k + m2 = ow → 6 ≤ k → ((x7 = 1 ∧ ¬ ((∃ y, y < mn ∧ qA h 696 y = nI l) ∨ ∃ y, 6 ≤ y ∧ y < k ∧ qA h 696 y = nI l)) ∨ (x7 = 0 ∧ ((∃ y, y < mn ∧ qA h 696 y = nI l) ∨ ∃ y, 6 ≤ y ∧ y < k ∧ qA h 696 y = nI l))) → q_wp 0 313 102 [some (.ref 630), some (.int (nI s)), some (.int (nI a)), some (.int (nI c)), some (.int (nI mn)), some (.int (nI ow)), some (.int (nI l)), some (.int x7), some (.int (nI k))] [] h Q := by
          intro m2
          induction m2 with
          | zero =>
            intro k x7 hk h6 hx
            obtain rfl : k = ow := by omega
            refine b313_102 (fun _ => b313_139 (fun c4 => nx _ _ ?_) (fun c4 => b313_144 (fin _ _ ⟨rfl, ?_⟩))) (fun h1 => absurd (Int32.le_refl _) h1)
            · rcases hx with ⟨h5, _⟩ | ⟨_, h5⟩
              · rw [h5] at c4
                exact absurd c4 (by decide)
              · rw [List.contains_eq_mem, decide_eq_true ((hu l (by omega)).mpr h5)]
                rfl
            · rcases hx with ⟨_, h5⟩ | ⟨h5, _⟩
              · have hc : us.contains l = false := by
                  rw [List.contains_eq_mem]
                  exact decide_eq_false (mt (hu l (by omega)).mp h5)
                rw [hc, if_pos (show (!false) = true from rfl)] at g
                rw [g]
                rfl
              · exact absurd h5 c4
          | succ m2 ih2 =>
            intro k x7 hk h6 hx
            have st : ∀ x7' : Int32, ((x7' = 1 ∧ ¬ ((∃ y, y < mn ∧ qA h 696 y = nI l) ∨ ∃ y, 6 ≤ y ∧ y < k + 1 ∧ qA h 696 y = nI l)) ∨ (x7' = 0 ∧ ((∃ y, y < mn ∧ qA h 696 y = nI l) ∨ ∃ y, 6 ≤ y ∧ y < k + 1 ∧ qA h 696 y = nI l))) → q_wp 0 313 131 [some (.ref 630), some (.int (nI s)), some (.int (nI a)), some (.int (nI c)), some (.int (nI mn)), some (.int (nI ow)), some (.int (nI l)), some (.int x7), some (.int (nI k))] [.int x7'] h Q := by
              intro x7' hx'
              refine b313_131 ?_
              rw [nI_1]
              exact ih2 (k + 1) x7' (by omega) (by omega) hx'
            refine b313_102 (fun h1 => absurd ((nI_leI (by omega) (by omega)).mp h1) (by omega)) (fun _ => b313_109 (fun c4 => b313_130 (st 0 (Or.inr ⟨rfl, ?_⟩))) (fun c4 => b313_114 (S.ok rfl) (S.ref (v := 696) rfl) (S.ok rfl) (S.inN (n := 9) rfl (by omega) (by decide)) (fun c5 => b313_130 (st 0 (Or.inr ⟨rfl, ?_⟩))) (fun c5 => b313_126 (st 1 (Or.inl ⟨rfl, ?_⟩)))))
            · rcases hx with ⟨h5, _⟩ | ⟨_, h5⟩
              · rw [h5] at c4
                exact absurd c4 (by decide)
              · rcases h5 with h5 | ⟨y, y1, y2, y3⟩
                · exact Or.inl h5
                · exact Or.inr ⟨y, y1, by omega, y3⟩
            · rw [nI_clamp (by omega)] at c5
              exact Or.inr ⟨k, h6, by omega, c5⟩
            · rw [nI_clamp (by omega)] at c5
              rcases hx with ⟨_, h5⟩ | ⟨h5, _⟩
              · rintro (h7 | ⟨y, y1, y2, y3⟩)
                · exact h5 (Or.inl h7)
                · rcases Nat.lt_or_ge y k with h8 | h8
                  · exact h5 (Or.inr ⟨y, y1, h8, y3⟩)
                  · obtain rfl : y = k := by omega
                    exact c5 y3
              · exact absurd h5 c4
        have loop1 : ∀ m2 k (x7 : Int32), k + m2 = mn → ((x7 = 1 ∧ ¬ (∃ y, y < k ∧ qA h 696 y = nI l)) ∨ (x7 = 0 ∧ ∃ y, y < k ∧ qA h 696 y = nI l)) → q_wp 0 313 61 [some (.ref 630), some (.int (nI s)), some (.int (nI a)), some (.int (nI c)), some (.int (nI mn)), some (.int (nI ow)), some (.int (nI l)), some (.int x7), some (.int (nI k))] [] h Q := by
          intro m2
          induction m2 with
          | zero =>
            intro k x7 hk hx
            obtain rfl : k = mn := by omega
            refine b313_61 (fun _ => b313_98 (loop2 (ow - 6) 6 x7 (by omega) (Nat.le_refl _) ?_)) (fun h1 => absurd (Int32.le_refl _) h1)
            rcases hx with ⟨h5, h6⟩ | ⟨h5, h6⟩
            · exact Or.inl ⟨h5, fun h7 => h7.elim h6 (fun ⟨y, y1, y2, _⟩ => by omega)⟩
            · exact Or.inr ⟨h5, Or.inl h6⟩
          | succ m2 ih2 =>
            intro k x7 hk hx
            have st : ∀ x7' : Int32, ((x7' = 1 ∧ ¬ (∃ y, y < k + 1 ∧ qA h 696 y = nI l)) ∨ (x7' = 0 ∧ ∃ y, y < k + 1 ∧ qA h 696 y = nI l)) → q_wp 0 313 90 [some (.ref 630), some (.int (nI s)), some (.int (nI a)), some (.int (nI c)), some (.int (nI mn)), some (.int (nI ow)), some (.int (nI l)), some (.int x7), some (.int (nI k))] [.int x7'] h Q := by
              intro x7' hx'
              refine b313_90 ?_
              rw [nI_1]
              exact ih2 (k + 1) x7' (by omega) hx'
            refine b313_61 (fun h1 => absurd ((nI_leI (by omega) (by omega)).mp h1) (by omega)) (fun _ => b313_68 (fun c4 => b313_89 (st 0 (Or.inr ⟨rfl, ?_⟩))) (fun c4 => b313_73 (S.ok rfl) (S.ref (v := 696) rfl) (S.ok rfl) (S.inN (n := 9) rfl (by omega) (by decide)) (fun c5 => b313_89 (st 0 (Or.inr ⟨rfl, ?_⟩))) (fun c5 => b313_85 (st 1 (Or.inl ⟨rfl, ?_⟩)))))
            · rcases hx with ⟨h5, _⟩ | ⟨_, y, y1, y2⟩
              · rw [h5] at c4
                exact absurd c4 (by decide)
              · exact ⟨y, by omega, y2⟩
            · rw [nI_clamp (by omega)] at c5
              exact ⟨k, by omega, c5⟩
            · rw [nI_clamp (by omega)] at c5
              rcases hx with ⟨_, h5⟩ | ⟨h5, _⟩
              · rintro ⟨y, y2, y3⟩
                rcases Nat.lt_or_ge y k with h8 | h8
                · exact h5 ⟨y, h8, y3⟩
                · obtain rfl : y = k := by omega
                  exact c5 y3
              · exact absurd h5 c4
        exact loop1 mn 0 1 (by omega) (Or.inl ⟨rfl, fun ⟨y, y1, _⟩ => absurd y1 (Nat.not_lt_zero _)⟩)
      · rw [e116] at c3
        rw [beq_eq_false_iff_ne.mpr c3, Bool.and_false]
        rfl
  exact b313_0 (loop 40 0 _ _ rfl rfl)
/-- what the reference's matcher leaves -/
def n_fr (h h' : q_Hp) : Prop := q_Ef [630, 695, 696, 699] h h' ∧ ∀ j, ¬ j = 99 → qI h' 630 j = qI h 630 j
theorem n_fr.rf {h : q_Hp} : n_fr h h := ⟨q_Ef.rf, fun _ _ => rfl⟩
theorem n_fr.trans {h h1 h2 : q_Hp} (a : n_fr h h1) (b : n_fr h1 h2) : n_fr h h2 := ⟨a.1.trans b.1, fun j hj => (b.2 j hj).trans (a.2 j hj)⟩
theorem n_fr.sA {h : q_Hp} {c j : Nat} {v : Int32} (e : c ∈ [630, 695, 696, 699]) : n_fr h (q_sA h c j v) := ⟨q_Ef.sA e, fun _ _ => rfl⟩
theorem n_fr.hv {h : q_Hp} {g : Nat → Int32} {v : Int32} : n_fr h (n_hv h g v) := ⟨(q_Ef.wA (by decide)).trans (q_Ef.sI (by decide)), fun j hj => qI_sI_nj (fun h2 => hj h2.2)⟩
theorem n_fr.A {h h' : q_Hp} (e : n_fr h h') {a : Nat} (ha : a ∉ [630, 695, 696, 699]) : qA h' a = qA h a := e.1.A ha
theorem n_fr.I {h h' : q_Hp} (e : n_fr h h') {a : Nat} (ha : a ∉ [630, 695, 696, 699]) : qI h' a = qI h a := e.1.I ha
/-- the reference's side: the book and the diagram -/
def n_X (h : q_Hp) (B : q_Bk) (f : Nat → Int32) : Prop := q_Sh h ∧ q_wB B ∧ r_mB h B ∧ q_dg (bN B 0) (bN B 1) f (qA h 691)
theorem n_X.fr {S : List Nat} {h h' : q_Hp} {B : q_Bk} {f : Nat → Int32} (a : n_X h B f) (e : q_Ef S h h') (hS : S.all (fun x => decide (x = 630) || decide (x < 630) || decide (691 < x)) = true) (hi : ∀ i, i < 4 → qI h' 630 (24 + i) = qI h 630 (24 + i)) : n_X h' B f := by
  obtain ⟨S0, w, mB, D⟩ := a
  have n1 : ∀ x, 638 ≤ x → x ≤ 691 → x ∉ S := by
    intro x h1 h2 h3
    have := List.all_eq_true.mp hS x h3
    simp only [Bool.or_eq_true, decide_eq_true_eq] at this
    omega
  refine ⟨e.sh S0, w, mB.fr (fun x h1 h2 => e.A (n1 x h1 (by omega))) hi, ?_⟩
  rw [e.A (n1 691 (by decide) (by decide))]
  exact D
theorem n_X.of {h h' : q_Hp} {B : q_Bk} {f : Nat → Int32} (a : n_X h B f) (e : n_fr h h') : n_X h' B f := a.fr e.1 rfl (fun i hi => e.2 _ (by omega))
theorem n_elders {h : q_Hp} {B : q_Bk} {f : Nat → Int32} (X : n_X h B f) : t_ok (fun i => qA h 638 (0 + i)) (bN B 0) := by
  intro j hj
  have h1 := X.2.2.1.2.1 j hj
  have h2 := X.2.1.2.2.2.2.2.2.1 j hj
  show qA h 638 (0 + j) = -1 ∨ ∃ i, i < j ∧ qA h 638 (0 + j) = nI i
  rw [Nat.zero_add, h1]
  rcases Nat.eq_zero_or_pos (bT B j 0) with h3 | h3
  · rw [h3]
    exact Or.inl rfl
  · obtain ⟨y, hy⟩ : ∃ y, bT B j 0 = y + 1 := ⟨bT B j 0 - 1, by omega⟩
    rw [hy, oN_s]
    exact Or.inr ⟨y, by omega, rfl⟩
theorem n_tt {h : q_Hp} {B : q_Bk} {f : Nat → Int32} (X : n_X h B f) {w : Int32} {x : Nat} : t_is (fun i => qA h 638 (0 + i)) (bN B 0) w 12 (qA h 691 x) = true ↔ m_tt B (qA h 691) w x := by
  unfold m_tt
  have h1 : bN B 0 ≤ 12 := X.2.1.1
  have h2 : ∀ i, i < bN B 0 → (fun i => qA h 638 (0 + i)) i = (fun j => oN (bT B j 0)) i := by
    intro i hi
    show qA h 638 (0 + i) = _
    rw [Nat.zero_add]
    exact X.2.2.1.2.1 i hi
  rw [t_is_ext h2 (by omega)]
theorem n_type {h : q_Hp} {B : q_Bk} {f : Nat → Int32} (X : n_X h B f) {x : Nat} (hx : x < 12) : qA h 691 x = -1 ∨ q_rg (qA h 691 x) (bN B 0) = true := by
  rcases X.2.2.2.1.1 x hx with h1 | ⟨t, ht, h1⟩
  · exact Or.inl (by rw [X.2.2.2.1.2.2.1 x (by omega)]; exact h1.1)
  · refine Or.inr ?_
    rw [X.2.2.2.1.2.2.1 x (by omega), h1]
    exact q_rgN ht (by have := X.2.1.1; omega)
theorem n_tt_no {B : q_Bk} {f : Nat → Int32} {w : Int32} {x : Nat} (h : f x = -1) : ¬ m_tt B f w x := by
  unfold m_tt
  rw [h]
  intro h2
  cases h2
theorem n_312 {h : q_Hp} {im : Nat → Nat} {B : q_Bk} {V : Nat → Nat → Nat} {f : Nat → Int32} {s : Nat} (X : n_X h B f) (hN : V 0 0 ≤ 4) (hn : n_nd h (V 0 0) im) (sm : q_sm B V s) : q_mI 1 312 [.ref 630, .int (nI (V 11 s)), .int (nI (V 12 s))] h (fun z h' => n_fr h h' ∧ qA h' 695 = qA h 695 ∧ qA h' 696 = qA h 696 ∧ ((qI h' 630 99 = 0 ∧ m_sv B (qA h 691) im V s = some [z]) ∨ (qI h' 630 99 = 1 ∧ m_sv B (qA h 691) im V s = none ∧ z = 0))) := by
  refine (s312 X.1 X.2.1 X.2.2.1 sm.1 sm.2.1 hN hn sm.2.2).mono (Nat.le_refl _) ?_
  rintro z h' ⟨g, v, rfl, h1⟩
  refine ⟨n_fr.hv, rfl, rfl, ?_⟩
  rcases h1 with ⟨h2, h3⟩ | ⟨h2, h3, h4⟩
  · exact Or.inl ⟨h2, h3⟩
  · exact Or.inr ⟨h2, h3, h4⟩
theorem n_nd.fs {h h' : q_Hp} {N : Nat} {im : Nat → Nat} (a : n_nd h N im) (e : qA h' 695 = qA h 695) : n_nd h' N im := fun i hi => by rw [e]; exact a i hi
theorem s315 {h : q_Hp} {im : Nat → Nat} {B : q_Bk} {r t : Nat} {f : Nat → Int32} (X : n_X h B f) (hr : r < bN B 2) (ht : t < bR B r 0 3) (hn : n_nd h (bR B r 0 0) im) : q_mI 2 315 [.ref 630, .int (nI (4 * r + t))] h (fun z h' => n_fr h h' ∧ qA h' 695 = qA h 695 ∧ qA h' 696 = qA h 696 ∧ z = b2i (m_dc (m_ts B (qA h 691) im (bR B r) t))) := by
  have S := X.1
  have w := X.2.1
  have h20 : r < 20 := by have := w.2.2.1; omega
  have wr : q_wR B (bR B r) := w.2.2.2.2.2.2.2.2.2.2 r hr
  have wt := wr.2.2.2.2.2.2.2.2.2.1 t ht
  have mR := X.2.2.1.2.2.2.2.2.2 r hr
  have h4 : bR B r 0 3 ≤ 4 := wr.2.2.2.1
  obtain ⟨c1, c2, c3, c4, c5⟩ := mR.2.2.2.2.2.2.2.2.2.1 t ht
  refine q_mI.of (q_recV rfl (S.ok rfl)) (fun Q fin => ?_)
  have no : ∀ h', n_fr h h' → qA h' 695 = qA h 695 → qA h' 696 = qA h 696 → ¬ m_ts B (qA h 691) im (bR B r) t → Q (some (.int 0)) h' := fun h' e1 e2 e3 h1 => fin _ _ ⟨e1, e2, e3, by rw [m_dc_f.mpr h1]; rfl⟩
  have ii : ∀ h', q_Sh h' → ∀ c, ((decide (c ≤ 712) && (q_kd0 c).2 == 160) = true) → q_in (nI (4 * r + t)) (qK h' c).2 := fun h' S' c hc => S'.inN (n := 160) hc (by omega) (by decide)
  have ha : q_mI 1 312 [.ref 630, .int (qA h 656 (nI (4 * r + t)).toNatClampNeg), .int (qA h 657 (nI (4 * r + t)).toNatClampNeg)] h (fun z h' => n_fr h h' ∧ qA h' 695 = qA h 695 ∧ qA h' 696 = qA h 696 ∧ ((qI h' 630 99 = 0 ∧ m_sv B (qA h 691) im (bR B r) (2 * t) = some [z]) ∨ (qI h' 630 99 = 1 ∧ m_sv B (qA h 691) im (bR B r) (2 * t) = none ∧ z = 0))) := by
    rw [nI_clamp (by omega), c2, c4]
    exact n_312 X wr.1 hn wt.2.1
  refine b315_0 (S.ok rfl) (S.ref (v := 656) rfl) (S.ok rfl) (ii h S _ rfl) (S.ref (v := 657) rfl) (S.ok rfl) (ii h S _ rfl) ha (by decide) ?_
  rintro z h1 ⟨e1, e2, e3, hz⟩
  have X1 := X.of e1
  have S1 := X1.1
  have f1 : qA h1 691 = qA h 691 := e1.A (by decide)
  refine b315_16 (S1.ok rfl) (fun k1 => ?_) (fun k1 => b315_24 (no _ e1 e2 e3 ?_))
  · have ga : m_sv B (qA h 691) im (bR B r) (2 * t) = some [z] := by
      rcases hz with h2 | h2
      · exact h2.2
      · rw [h2.1] at k1; exact absurd k1 (by decide)
    have mR1 := X1.2.2.1.2.2.2.2.2.2 r hr
    obtain ⟨d1, d2, d3, d4, d5⟩ := mR1.2.2.2.2.2.2.2.2.2.1 t ht
    have hb : q_mI 1 312 [.ref 630, .int (qA h1 657 (nI (4 * r + t)).toNatClampNeg), .int (qA h1 658 (nI (4 * r + t)).toNatClampNeg)] h1 (fun z h' => n_fr h1 h' ∧ qA h' 695 = qA h1 695 ∧ qA h' 696 = qA h1 696 ∧ ((qI h' 630 99 = 0 ∧ m_sv B (qA h1 691) im (bR B r) (2 * t + 1) = some [z]) ∨ (qI h' 630 99 = 1 ∧ m_sv B (qA h1 691) im (bR B r) (2 * t + 1) = none ∧ z = 0))) := by
      rw [nI_clamp (by omega), d3, d5]
      exact n_312 X1 wr.1 (hn.fs e2) wt.2.2.1
    refine b315_26 (S1.ok rfl) (S1.ref (v := 657) rfl) (S1.ok rfl) (ii h1 S1 _ rfl) (S1.ref (v := 658) rfl) (S1.ok rfl) (ii h1 S1 _ rfl) hb (by decide) ?_
    rintro y h2 ⟨e4, e5, e6, hy⟩
    rw [f1] at hy
    have e7 := e1.trans e4
    have X2 := X.of e7
    have S2 := X2.1
    have e8 : qA h2 695 = qA h 695 := e5.trans e2
    have e9 : qA h2 696 = qA h 696 := e6.trans e3
    refine b315_42 (S2.ok rfl) (fun k2 => ?_) (fun k2 => b315_50 (no _ e7 e8 e9 ?_))
    · have gb : m_sv B (qA h 691) im (bR B r) (2 * t + 1) = some [y] := by
        rcases hy with h2 | h2
        · exact h2.2
        · rw [h2.1] at k2; exact absurd k2 (by decide)
      have mR2 := X2.2.2.1.2.2.2.2.2.2 r hr
      have d9 := (mR2.2.2.2.2.2.2.2.2.2.1 t ht).1
      have eo : qA h2 655 (nI (4 * r + t)).toNatClampNeg = nI (if bR B r 10 t = 0 then 9 else if bR B r 10 t = 1 then 10 else if bR B r 10 t = 2 then 11 else 12) := by rw [nI_clamp (by omega)]; exact d9
      have yes : ∀ b : Bool, m_te (bR B r 10 t) z y = b → Q (some (.int (b2i b))) h2 := by
        intro b h3
        refine fin _ _ ⟨e7, e8, e9, ?_⟩
        cases b with
        | true => rw [m_dc_t.mpr ⟨z, y, ga, gb, h3⟩]
        | false =>
          rw [m_dc_f.mpr]
          rintro ⟨z', y', h5, h6, h7⟩
          rw [ga] at h5
          rw [gb] at h6
          cases h5
          cases h6
          rw [h3] at h7
          cases h7
      have hk := wt.1
      refine b315_52 (S2.ok rfl) (S2.ref (v := 655) rfl) (S2.ok rfl) (ii h2 S2 _ rfl) (fun k3 => ?_) (fun k3 => ?_) (fun k3 => ?_) (fun k3 => ?_)
      · rw [eo] at k3
        have k0 : bR B r 10 t = 0 := by
          have := (nI_eq (b := 9) (by split <;> (try split) <;> (try split) <;> omega) (by decide)).mp k3
          split at this
          · assumption
          · split at this
            · omega
            · split at this <;> omega
        rw [k0] at yes
        exact b315_84 (fun c => b315_93 (yes false (by simp [m_te, c]))) (fun c => b315_89 (yes true (by simp [m_te, c])))
      · rw [eo] at k3
        have k0 : bR B r 10 t = 1 := by
          have := (nI_eq (b := 10) (by split <;> (try split) <;> (try split) <;> omega) (by decide)).mp k3
          split at this
          · omega
          · split at this
            · assumption
            · split at this <;> omega
        rw [k0] at yes
        exact b315_95 (fun c => b315_104 (yes false (by simp [m_te, c]))) (fun c => b315_100 (yes true (by simp [m_te, c])))
      · rw [eo] at k3
        have k0 : bR B r 10 t = 2 := by
          have := (nI_eq (b := 11) (by split <;> (try split) <;> (try split) <;> omega) (by decide)).mp k3
          split at this
          · omega
          · split at this
            · omega
            · split at this
              · assumption
              · omega
        rw [k0] at yes
        exact b315_106 (fun c => b315_115 (yes false (by simp [m_te, Int32.not_lt.mpr c]))) (fun c => b315_111 (yes true (by simp [m_te, Int32.not_le.mp c])))
      · have k0 : bR B r 10 t = 3 := by
          rw [eo] at k3
          rcases (show bR B r 10 t = 0 ∨ bR B r 10 t = 1 ∨ bR B r 10 t = 2 ∨ bR B r 10 t = 3 by omega) with h9 | h9 | h9 | h9
          · rw [h9] at k3; exact absurd k3 (by decide)
          · rw [h9] at k3; exact absurd k3 (by decide)
          · rw [h9] at k3; exact absurd k3 (by decide)
          · exact h9
        rw [k0] at yes
        exact b315_117 (fun c => b315_126 (yes false (by simp [m_te, Int32.not_le.mpr c]))) (fun c => b315_122 (yes true (by simp [m_te, Int32.not_lt.mp c])))
    · rcases hy with h2 | h2
      · exact absurd h2.1 k2
      · rintro ⟨z', y', h5, h6, h7⟩
        rw [h2.2.1] at h6
        cases h6
  · rcases hz with h2 | h2
    · exact absurd h2.1 k1
    · rintro ⟨z', y', h5, h6, h7⟩
      rw [h2.2.1] at h5
      cases h5
