/-! THE REFERENCE'S MATCHER: what must not be, what can go -/
/-- the links of the rule that are given -/
def n_lk (h : q_Hp) (n : Nat) (L : List Nat) : Prop := L.length = n ∧ (∀ k, k < n → qA h 696 k = nI (L.getD k 0)) ∧ ∀ l, l ∈ L → l < 40
theorem n_lk.mem {h : q_Hp} {n l : Nat} {L : List Nat} (a : n_lk h n L) (hl : l < 40) : l ∈ L ↔ ∃ k, k < n ∧ qA h 696 k = nI l := by
  obtain ⟨a1, a2, a3⟩ := a
  constructor
  · intro h1
    obtain ⟨k, hk, e⟩ := List.mem_iff_getElem.mp h1
    refine ⟨k, by omega, ?_⟩
    rw [a2 k (by omega), List.getD_eq_getElem?_getD, List.getElem?_eq_getElem hk]
    exact congrArg nI e
  · rintro ⟨k, hk, e⟩
    have hk2 : k < L.length := by omega
    rw [a2 k hk, List.getD_eq_getElem?_getD, List.getElem?_eq_getElem hk2] at e
    have e2 : nI L[k] = nI l := e
    have h3 := a3 _ (List.getElem_mem hk2)
    rw [← (nI_eq (by omega) (by omega)).mp e2]
    exact List.getElem_mem hk2
theorem n_lk.fs {h h' : q_Hp} {n : Nat} {L : List Nat} (a : n_lk h n L) (hn : n ≤ 6) (e : ∀ k, k < 6 → qA h' 696 k = qA h 696 k) : n_lk h' n L := ⟨a.1, fun k hk => by rw [e k (by omega)]; exact a.2.1 k hk, a.2.2⟩
theorem n_nd.f4 {h h' : q_Hp} {N : Nat} {im : Nat → Nat} (a : n_nd h N im) (hN : N ≤ 4) (e : ∀ i, i < 4 → qA h' 695 i = qA h 695 i) : n_nd h' N im := fun i hi => by rw [e i (by omega)]; exact a i hi
theorem s316 {h : q_Hp} {im : Nat → Nat} {B : q_Bk} {r n : Nat} {f : Nat → Int32} {L : List Nat} (X : n_X h B f) (hr : r < bN B 2) (hn2 : n < bR B r 0 2) (hn : n_nd h (bR B r 0 0) im) (hL : n_lk h (bR B r 0 1) L) : q_mI 1 316 [.ref 630, .int (nI r), .int (nI (2 * r + n))] h (fun z h' => n_fr h h' ∧ (∀ i, i < 4 → qA h' 695 i = qA h 695 i) ∧ (∀ k, k < 6 → qA h' 696 k = qA h 696 k) ∧ z = b2i (m_dc (m_no B (qA h 691) im (bR B r) L n))) := by
  have S := X.1
  have w := X.2.1
  have h20 : r < 20 := by have := w.2.2.1; omega
  have hT : bN B 0 ≤ 12 := w.1
  have hs12 : bN B 1 ≤ 12 := w.2.1
  have wr : q_wR B (bR B r) := w.2.2.2.2.2.2.2.2.2.2 r hr
  have wn := wr.2.2.2.2.2.2.2.2.1 n hn2
  have h4 : bR B r 0 0 ≤ 4 := wr.1
  have h6 : bR B r 0 1 ≤ 6 := wr.2.1
  have h02 : bR B r 0 2 ≤ 2 := wr.2.2.1
  have row : ∀ h', n_X h' B f → qA h' 649 (2 * r + n) = oN (bR B r 5 n) ∧ qA h' 650 (2 * r + n) = nI (bR B r 6 n) ∧ ∀ l, l < bR B r 6 n → qA h' 651 (3 * (2 * r + n) + l) = nI (bR B r 7 (3 * n + l)) ∧ qA h' 652 (3 * (2 * r + n) + l) = nI (bR B r 8 (3 * n + l)) ∧ qA h' 653 (3 * (2 * r + n) + l) = nI (bR B r 9 (3 * n + l)) := fun h' X' => (X'.2.2.1.2.2.2.2.2.2 r hr).2.2.2.2.2.2.2.2.1 n hn2
  have ls : ∀ h', n_X h' B f → qA h' 642 r = nI (bR B r 0 1) := fun h' X' => (X'.2.2.1.2.2.2.2.2.2 r hr).2.1
  have hne : ¬ bR B r 5 n = 0 → ¬ oN (bR B r 5 n) = -1 := by
    intro h1
    obtain ⟨y, hy⟩ : ∃ y, bR B r 5 n = y + 1 := ⟨bR B r 5 n - 1, by omega⟩
    have := wn.1
    rw [hy, oN_s]
    exact q_on_ne (by omega)
  refine q_mI.of (q_recV rfl (S.ok rfl)) (fun Q fin => ?_)
  have lim : (if bR B r 5 n = 0 then 1 else 12) ≤ 12 := by split <;> omega
  have loop : ∀ m c h1 (l5 l6 l7 : Option Value), c + m = (if bR B r 5 n = 0 then 1 else 12) → n_fr h h1 → (∀ i, i < 4 → qA h1 695 i = qA h 695 i) → (∀ k, k < 6 → qA h1 696 k = qA h 696 k) → (∀ x, x < c → ¬ ((¬ bR B r 5 n = 0 → m_tt B (qA h 691) (oN (bR B r 5 n)) x) ∧ ∃ L', m_ng (qA h 691) im (bR B r) L n x = some L')) → q_wp 1 316 20 [some (.ref 630), some (.int (nI r)), some (.int (nI (2 * r + n))), some (.int (nI (if bR B r 5 n = 0 then 1 else 12))), some (.int (nI c)), l5, l6, l7] [] h1 Q := by
    intro m
    induction m with
    | zero =>
      intro c h1 l5 l6 l7 hc e e5 e6 g
      refine b316_20 (fun _ => b316_203 (fin _ _ ⟨e, e5, e6, ?_⟩)) (fun h1 => absurd (by rw [← hc]; exact Int32.le_refl _) h1)
      rw [m_dc_f.mpr]
      · rfl
      · rintro ⟨x, x1, x2⟩
        exact g x (by omega) x2
    | succ m ih =>
      intro c h1 l5 l6 l7 hc e e5 e6 g
      have hc12 : c < 12 := by omega
      have X1 := X.of e
      have S1 := X1.1
      have f1 : qA h1 691 = qA h 691 := e.A (by decide)
      obtain ⟨r1, r2, r3⟩ := row h1 X1
      have nx : ∀ h2 l5 l6 l7, n_fr h h2 → (∀ i, i < 4 → qA h2 695 i = qA h 695 i) → (∀ k, k < 6 → qA h2 696 k = qA h 696 k) → ¬ ((¬ bR B r 5 n = 0 → m_tt B (qA h 691) (oN (bR B r 5 n)) c) ∧ ∃ L', m_ng (qA h 691) im (bR B r) L n c = some L') → q_wp 1 316 197 [some (.ref 630), some (.int (nI r)), some (.int (nI (2 * r + n))), some (.int (nI (if bR B r 5 n = 0 then 1 else 12))), some (.int (nI c)), l5, l6, l7] [] h2 Q := by
        intro h2 l5 l6 l7 a1 a2 a3 a4
        refine b316_197 ?_
        rw [nI_1]
        refine ih (c + 1) h2 _ _ _ (by omega) a1 a2 a3 (fun x hx => ?_)
        by_cases h9 : x = c
        · rw [h9]; exact a4
        · exact g x (by omega)
      have i49 : q_in (nI (2 * r + n)) (qK h1 649).2 := S1.inN (n := 80) rfl (by omega) (by decide)
      have e49 : qA h1 649 (nI (2 * r + n)).toNatClampNeg = oN (bR B r 5 n) := by rw [nI_clamp (by omega)]; exact r1
      have go : (¬ bR B r 5 n = 0 → m_tt B (qA h 691) (oN (bR B r 5 n)) c) → q_wp 1 316 69 [some (.ref 630), some (.int (nI r)), some (.int (nI (2 * r + n))), some (.int (nI (if bR B r 5 n = 0 then 1 else 12))), some (.int (nI c)), l5, l6, l7] [] h1 Q := by
        intro ht
        have inner : ∀ m2 i h2 (l7 : Option Value) (L1 : List Nat), i + m2 = bR B r 6 n → n_fr h h2 → (∀ i, i < 4 → qA h2 695 i = qA h 695 i) → qA h2 695 4 = nI c → (∀ k, k < 6 → qA h2 696 k = qA h 696 k) → m_gl (qA h 691) (m_i4 im c) (fun l => bR B r 7 (3 * n + l)) (fun l => bR B r 8 (3 * n + l)) (fun l => bR B r 9 (3 * n + l)) L i = some L1 → (∀ l, l < 40 → (l ∈ L1 ↔ (∃ k, k < bR B r 0 1 ∧ qA h2 696 k = nI l) ∨ ∃ k, 6 ≤ k ∧ k < 6 + i ∧ qA h2 696 k = nI l)) → q_wp 1 316 83 [some (.ref 630), some (.int (nI r)), some (.int (nI (2 * r + n))), some (.int (nI (if bR B r 5 n = 0 then 1 else 12))), some (.int (nI c)), some (.int 1), some (.int (nI i)), l7] [] h2 Q := by
          intro m2
          induction m2 with
          | zero =>
            intro i h2 l7 L1 hi a1 a2 a4 a3 g1 g2
            obtain rfl : i = bR B r 6 n := by omega
            have X2 := X.of a1
            have S2 := X2.1
            have e50 : qA h2 650 (nI (2 * r + n)).toNatClampNeg = nI (bR B r 6 n) := by rw [nI_clamp (by omega)]; exact (row h2 X2).2.1
            refine b316_83 (S2.ok rfl) (S2.ref (v := 650) rfl) (S2.ok rfl) (S2.inN (n := 80) rfl (by omega) (by decide)) (fun _ => b316_190 (fun h9 => absurd h9 (by decide)) (fun _ => b316_195 (fin _ _ ⟨a1, a2, a3, ?_⟩))) (fun h9 => absurd (by rw [e50]; exact Int32.le_refl _) h9)
            rw [m_dc_t.mpr ⟨c, by omega, ht, L1, g1⟩]
            rfl
          | succ m2 ih2 =>
            intro i h2 l7 L1 hi a1 a2 a4 a3 g1 g2
            have X2 := X.of a1
            have S2 := X2.1
            have f2 : qA h2 691 = qA h 691 := a1.A (by decide)
            obtain ⟨s1, s2, s3⟩ := row h2 X2
            have s3i := s3 i (by omega)
            have w6 := wn.2.1
            have w1 := wn.2.2 i (by omega)
            have e50 : qA h2 650 (nI (2 * r + n)).toNatClampNeg = nI (bR B r 6 n) := by rw [nI_clamp (by omega)]; exact s2
            have ek : (3 : Int32) * nI (2 * r + n) + nI i = nI (3 * (2 * r + n) + i) := by rw [show (3 : Int32) * nI (2 * r + n) = nI (3 * (2 * r + n)) from pk_mul 3 _, nI_add]
            have kk : (nI (3 * (2 * r + n) + i)).toNatClampNeg = 3 * (2 * r + n) + i := nI_clamp (by omega)
            have im4 : ∀ x, x < bR B r 0 0 ∨ x = 4 ∧ 0 < bR B r 5 n → qA h2 695 x = nI (m_i4 im c x) ∧ m_i4 im c x < 12 ∧ x < 5 := by
              intro x hx
              unfold m_i4
              rcases hx with hx | hx
              · rw [if_neg (by omega), a2 x (by omega)]
                exact ⟨(hn x hx).1, (hn x hx).2, by omega⟩
              · rw [hx.1, if_pos rfl]
                exact ⟨a4, hc12, by omega⟩
            obtain ⟨u1, u2, u3⟩ := im4 _ w1.2.1
            obtain ⟨v1, v2, v3⟩ := im4 _ w1.2.2
            have i240 : ∀ c9, ((decide (c9 ≤ 712) && (q_kd0 c9).2 == 240) = true) → q_in ((3 : Int32) * nI (2 * r + n) + nI i) (qK h2 c9).2 := fun c9 h9 => by rw [ek]; exact S2.inN (n := 240) h9 (by omega) (by decide)
            have t1 : qA h2 651 (((3 * nI (2 * r + n)) + nI i : Int32).toNatClampNeg) = nI (bR B r 7 (3 * n + i)) := by rw [ek, kk]; exact s3i.1
            have t2 : qA h2 652 (((3 * nI (2 * r + n)) + nI i : Int32).toNatClampNeg) = nI (bR B r 8 (3 * n + i)) := by rw [ek, kk]; exact s3i.2.1
            have t3 : qA h2 653 (((3 * nI (2 * r + n)) + nI i : Int32).toNatClampNeg) = nI (bR B r 9 (3 * n + i)) := by rw [ek, kk]; exact s3i.2.2
            have hc13 : q_mI 0 313 [.ref 630, .int (qA h2 651 (((3 * nI (2 * r + n)) + nI i : Int32).toNatClampNeg)), .int (qA h2 695 ((qA h2 652 (((3 * nI (2 * r + n)) + nI i : Int32).toNatClampNeg) : Int32).toNatClampNeg)), .int (qA h2 695 ((qA h2 653 (((3 * nI (2 * r + n)) + nI i : Int32).toNatClampNeg) : Int32).toNatClampNeg)), .int (qA h2 642 (nI r).toNatClampNeg), .int (6 + nI i)] h2 (fun z h' => h' = h2 ∧ z = q_on (m_ln (qA h2 691) (bR B r 7 (3 * n + i)) (m_i4 im c (bR B r 8 (3 * n + i))) (m_i4 im c (bR B r 9 (3 * n + i))) L1)) := by
              rw [t1, t2, t3, nI_clamp (show bR B r 8 (3 * n + i) < 2 ^ 31 by omega), nI_clamp (show bR B r 9 (3 * n + i) < 2 ^ 31 by omega), u1, v1, nI_clamp (show r < 2 ^ 31 by omega), ls h2 X2, show (6 : Int32) + nI i = nI (6 + i) from nI_add 6 i]
              exact s313 S2 h6 (by omega) (by omega) g2
            refine b316_83 (S2.ok rfl) (S2.ref (v := 650) rfl) (S2.ok rfl) (S2.inN (n := 80) rfl (by omega) (by decide)) (fun h9 => absurd ((nI_leI (by omega) (by omega)).mp (e50 ▸ h9)) (by omega)) (fun _ => b316_94 (fun h9 => absurd h9 (by decide)) (fun _ => b316_99 (S2.ok rfl) (S2.ref (v := 696) rfl) (S2.ref (v := 651) rfl) (S2.ok rfl) (i240 _ rfl) (S2.ref (v := 695) rfl) (S2.ref (v := 652) rfl) (S2.ok rfl) (i240 _ rfl) (S2.ok rfl) (by rw [t2]; exact S2.inN (n := 5) rfl (by omega) (by decide)) (S2.ref (v := 653) rfl) (S2.ok rfl) (i240 _ rfl) (by rw [t3]; exact S2.inN (n := 5) rfl (by omega) (by decide)) (S2.ref (v := 642) rfl) (S2.ok rfl) (S2.inN (n := 40) rfl (by omega) (by decide)) hc13 (by decide) ?_))
            rintro z h3 ⟨e0, ez⟩
            subst h3
            rw [f2] at ez
            rw [show (6 : Int32) + nI i = nI (6 + i) from nI_add 6 i]
            have g4 := m_gl_s g1
            have in6 : q_in (nI (6 + i)) (qK h2 696).2 := S2.inN (n := 9) rfl (by omega) (by decide)
            have a1' : ∀ v, n_fr h (q_sA h2 696 (6 + i) v) := fun v => a1.trans (n_fr.sA (by decide))
            have q3 : ∀ v, qA (q_sA h2 696 (6 + i) v) 696 = upd (qA h2 696) (6 + i) v := fun v => qA_sAu _ _ _ _
            have a3' : ∀ v k, k < 6 → qA (q_sA h2 696 (6 + i) v) 696 k = qA h 696 k := fun v k hk => by rw [q3, upd_ne (by omega)]; exact a3 k hk
            have k6 : (nI (6 + i)).toNatClampNeg = 6 + i := nI_clamp (by omega)
            have e6i : (6 : Int32) + nI i = nI (6 + i) := nI_add 6 i
            have ev : ∀ v, qA (q_sA h2 696 (nI (6 + i)).toNatClampNeg v) 696 ((6 + nI i : Int32).toNatClampNeg) = v := fun v => by rw [e6i, qA_sAu, upd_eq]
            cases hl : m_ln (qA h 691) (bR B r 7 (3 * n + i)) (m_i4 im c (bR B r 8 (3 * n + i))) (m_i4 im c (bR B r 9 (3 * n + i))) L1 with
            | none =>
              rw [hl] at ez g4
              have ez : z = -1 := ez
              subst ez
              have hno : ¬ ((¬ bR B r 5 n = 0 → m_tt B (qA h 691) (oN (bR B r 5 n)) c) ∧ ∃ L', m_ng (qA h 691) im (bR B r) L n c = some L') := by
                rintro ⟨_, L', h9⟩
                have h8 := m_gl_none g4 m2
                rw [show i + 1 + m2 = bR B r 6 n by omega] at h8
                have h7 : m_ng (qA h 691) im (bR B r) L n c = none := h8
                rw [h7] at h9
                cases h9
              refine b316_162 (S2.ok rfl) in6 (S2.ok rfl) (S2.ref (v := 696) rfl) (S2.ok rfl) (by rw [e6i]; exact in6) (fun _ => b316_181 (b316_182 ?_)) (fun h9 => absurd (ev _) h9)
              rw [k6, nI_1]
              have X4 := X.of (a1' (-1))
              have S4 := X4.1
              have dn : ∀ l7, q_wp 1 316 190 [some (.ref 630), some (.int (nI r)), some (.int (nI (2 * r + n))), some (.int (nI (if bR B r 5 n = 0 then 1 else 12))), some (.int (nI c)), some (.int 0), some (.int (nI (i + 1))), l7] [] (q_sA h2 696 (6 + i) (-1)) Q := fun l7 => b316_190 (fun _ => nx _ _ _ _ (a1' _) a2 (a3' _) hno) (fun h9 => absurd rfl h9)
              exact b316_83 (S4.ok rfl) (S4.ref (v := 650) rfl) (S4.ok rfl) (S4.inN (n := 80) rfl (by omega) (by decide)) (fun _ => dn _) (fun _ => b316_94 (fun _ => dn _) (fun h9 => absurd rfl h9))
            | some l =>
              rw [hl] at ez g4
              have ez : z = nI l := ez
              subst ez
              have hl4 := (m_ln_lt hl).1
              refine b316_162 (S2.ok rfl) in6 (S2.ok rfl) (S2.ref (v := 696) rfl) (S2.ok rfl) (by rw [e6i]; exact in6) (fun h9 => absurd ((ev _).symm.trans h9) (q_on_ne (by omega))) (fun _ => b316_177 (b316_182 ?_))
              rw [k6, nI_1]
              refine ih2 (i + 1) _ _ (L1 ++ [l]) (by omega) (a1' _) a2 a4 (a3' _) g4 (fun l' hl' => ?_)
              rw [List.mem_append, List.mem_singleton, g2 l' hl', q3]
              constructor
              · rintro ((⟨k, k1, k2⟩ | ⟨k, k1, k2, k3⟩) | h9)
                · exact Or.inl ⟨k, k1, by rw [upd_ne (by omega)]; exact k2⟩
                · exact Or.inr ⟨k, k1, by omega, by rw [upd_ne (by omega)]; exact k3⟩
                · exact Or.inr ⟨6 + i, by omega, by omega, by rw [upd_eq, h9]⟩
              · rintro (⟨k, k1, k2⟩ | ⟨k, k1, k2, k3⟩)
                · rw [upd_ne (by omega)] at k2
                  exact Or.inl (Or.inl ⟨k, k1, k2⟩)
                · by_cases h9 : k = 6 + i
                  · rw [h9, upd_eq] at k3
                    exact Or.inr ((nI_eq (by omega) (by omega)).mp k3).symm
                  · rw [upd_ne h9] at k3
                    exact Or.inl (Or.inr ⟨k, k1, by omega, k3⟩)
        refine b316_69 (S1.ok rfl) (S1.ref (v := 695) rfl) (S1.ok rfl) (S1.inN (n := 5) (j := 4) rfl (by decide) (by decide)) ?_
        have k4 : (4 : Int32).toNatClampNeg = 4 := rfl
        rw [k4]
        have q3 : qA (q_sA h1 695 4 (nI c)) 695 = upd (qA h1 695) 4 (nI c) := qA_sAu _ _ _ _
        refine inner (bR B r 6 n) 0 _ _ L (by omega) (e.trans (n_fr.sA (by decide))) (fun i hi => ?_) ?_ e6 rfl (fun l hl => ?_)
        · rw [q3, upd_ne (by omega)]
          exact e5 i hi
        · rw [q3, upd_eq]
        · have hL1 := hL.fs h6 e6
          rw [hL1.mem hl]
          exact ⟨fun h9 => Or.inl h9, fun h9 => h9.elim id (fun ⟨k, k1, k2, _⟩ => by omega)⟩
      refine b316_20 (fun h9 => absurd ((nI_leI (by omega) (by omega)).mp h9) (by omega)) (fun _ => b316_26 (S1.ok rfl) (S1.ref (v := 649) rfl) (S1.ok rfl) i49 (fun c1 => go (fun h9 => ?_)) (fun c1 => b316_36 (s294 S1) (by decide) ?_))
      · rw [e49] at c1
        exact absurd c1 (hne h9)
      · rw [e49] at c1
        rintro z h3 ⟨e0, rfl⟩
        subst h3
        rw [d_has_n hc12, f1]
        refine b316_42 (fun c2 => nx _ _ _ _ e e5 e6 (fun h9 => ?_)) (fun c2 => ?_)
        · have c3 := b2i_eq.mp c2
          simp only [Bool.not_eq_false', beq_iff_eq] at c3
          refine n_tt_no c3 (h9.1 (fun h8 => c1 ?_))
          rw [h8]
          rfl
        · have i691 : q_in (nI c) (qK h1 691).2 := S1.mi (by omega)
          refine b316_45 (S1.ok rfl) S1.mr S1.md i691 (S1.ref (v := 649) rfl) (S1.ok rfl) i49 (s259 (half := 0) S1 hT (by decide) (n_elders X1) (by rw [nI_clamp (by omega)]; exact n_type X1 hc12)) (by decide) ?_
          rintro z h3 ⟨e0, ez⟩
          subst h3
          rw [e49, nI_clamp (show c < 2 ^ 31 by omega)] at ez
          subst ez
          refine b316_63 (fun c3 => go (fun _ => ?_)) (fun c3 => b316_66 (nx _ _ _ _ e e5 e6 (fun h9 => ?_)))
          · have := (n_tt X1).mp (b2i_ne.mp c3)
            rw [f1] at this
            exact this
          · have h8 := h9.1 (fun h7 => c1 (by rw [h7]; rfl))
            rw [← f1] at h8
            have h7 := (n_tt X1).mpr h8
            rw [b2i_eq.mp c3] at h7
            cases h7
  obtain ⟨r1, r2, r3⟩ := row h X
  have e49 : qA h 649 (nI (2 * r + n)).toNatClampNeg = oN (bR B r 5 n) := by rw [nI_clamp (by omega)]; exact r1
  refine b316_0 (S.ok rfl) (S.ref (v := 649) rfl) (S.ok rfl) (S.inN (n := 80) rfl (by omega) (by decide)) (fun c1 => b316_14 (b316_16 ?_)) (fun c1 => b316_10 (b316_16 ?_))
  · rw [e49] at c1
    have hz : ¬ bR B r 5 n = 0 := fun h9 => c1 (by rw [h9]; rfl)
    have l0 := loop (if bR B r 5 n = 0 then 1 else 12) 0 h none none none (by omega) n_fr.rf (fun _ _ => rfl) (fun _ _ => rfl) (fun x hx => by omega)
    rw [if_neg hz] at l0
    exact l0
  · rw [e49] at c1
    have hz : bR B r 5 n = 0 := Classical.byContradiction (fun h9 => hne h9 c1)
    have l0 := loop (if bR B r 5 n = 0 then 1 else 12) 0 h none none none (by omega) n_fr.rf (fun _ _ => rfl) (fun _ _ => rfl) (fun x hx => by omega)
    rw [if_pos hz] at l0
    exact l0
/-- a node that may go -/
def m_cg (f : Nat → Int32) (im : Nat → Nat) (V : Nat → Nat → Nat) (L : List Nat) (x : Nat) : Prop := (∀ k, k < V 0 0 → ¬ k = x → ¬ im k = im x) ∧ ∀ l, l < 40 → ¬ f (36 + l) = -1 → f (76 + l) = nI (im x) ∨ f (116 + l) = nI (im x) → l ∈ L
theorem s317 {h : q_Hp} {im : Nat → Nat} {B : q_Bk} {r x : Nat} {f : Nat → Int32} {L : List Nat} (X : n_X h B f) (hr : r < bN B 2) (hx : x < bR B r 0 0) (hn : n_nd h (bR B r 0 0) im) (hL : n_lk h (bR B r 0 1) L) : q_mI 0 317 [.ref 630, .int (nI r), .int (nI x)] h (fun z h' => h' = h ∧ z = b2i (m_dc (m_cg (qA h 691) im (bR B r) L x))) := by
  have S := X.1
  have w := X.2.1
  have h20 : r < 20 := by have := w.2.2.1; omega
  have wr : q_wR B (bR B r) := w.2.2.2.2.2.2.2.2.2.2 r hr
  have h4 : bR B r 0 0 ≤ 4 := wr.1
  have h6 : bR B r 0 1 ≤ 6 := wr.2.1
  have mR := X.2.2.1.2.2.2.2.2.2 r hr
  have e41 : qA h 641 (nI r).toNatClampNeg = nI (bR B r 0 0) := by rw [nI_clamp (by omega)]; exact mR.1
  have e42 : qA h 642 (nI r).toNatClampNeg = nI (bR B r 0 1) := by rw [nI_clamp (by omega)]; exact mR.2.1
  have ir : ∀ c, ((decide (c ≤ 712) && (q_kd0 c).2 == 40) = true) → q_in (nI r) (qK h c).2 := fun c h9 => S.inN (n := 40) h9 (by omega) (by decide)
  have i5 : ∀ i, i < bR B r 0 0 → q_in (nI i) (qK h 695).2 := fun i hi => S.inN (n := 5) rfl (by omega) (by decide)
  have ex : qA h 695 (nI x).toNatClampNeg = nI (im x) := by rw [nI_clamp (by omega)]; exact (hn x hx).1
  have hx12 := (hn x hx).2
  refine q_mI.of (q_recV rfl (S.ok rfl)) (fun Q fin => ?_)
  have bad : ¬ m_cg (qA h 691) im (bR B r) L x → Q (some (.int 0)) h := fun h9 => fin _ _ ⟨rfl, by rw [m_dc_f.mpr h9]; rfl⟩
  have loop2 : ∀ m l (l4 l5 : Option Value), l + m = 40 → (∀ k, k < bR B r 0 0 → ¬ k = x → ¬ im k = im x) → (∀ y, y < l → ¬ qA h 691 (36 + y) = -1 → qA h 691 (76 + y) = nI (im x) ∨ qA h 691 (116 + y) = nI (im x) → y ∈ L) → q_wp 0 317 42 [some (.ref 630), some (.int (nI r)), some (.int (nI x)), some (.int (nI l)), l4, l5] [] h Q := by
    intro m
    induction m with
    | zero =>
      intro l l4 l5 hl g1 g2
      obtain rfl : l = 40 := by omega
      exact b317_42 (fun _ => b317_159 (fin _ _ ⟨rfl, by rw [m_dc_t.mpr ⟨g1, g2⟩]; rfl⟩)) (fun h1 => absurd (Int32.le_refl _) h1)
    | succ m ih =>
      intro l l4 l5 hl g1 g2
      have e36 : qA h 691 ((36 + nI l : Int32).toNatClampNeg) = qA h 691 (36 + l) := by rw [a36, nI_clamp (by omega)]
      have e76 : qA h 691 ((76 + nI l : Int32).toNatClampNeg) = qA h 691 (76 + l) := by rw [a76, nI_clamp (by omega)]
      have e116 : qA h 691 ((116 + nI l : Int32).toNatClampNeg) = qA h 691 (116 + l) := by rw [a116, nI_clamp (by omega)]
      have nx : ∀ l4 l5, (¬ qA h 691 (36 + l) = -1 → qA h 691 (76 + l) = nI (im x) ∨ qA h 691 (116 + l) = nI (im x) → l ∈ L) → q_wp 0 317 153 [some (.ref 630), some (.int (nI r)), some (.int (nI x)), some (.int (nI l)), l4, l5] [] h Q := by
        intro l4 l5 h9
        refine b317_153 ?_
        rw [nI_1]
        refine ih (l + 1) _ _ (by omega) g1 (fun y hy => ?_)
        by_cases h8 : y = l
        · rw [h8]; exact h9
        · exact g2 y (by omega)
      have j100 : ¬ qA h 691 (36 + l) = -1 → (qA h 691 (76 + l) = nI (im x) ∨ qA h 691 (116 + l) = nI (im x)) → q_wp 0 317 100 [some (.ref 630), some (.int (nI r)), some (.int (nI x)), some (.int (nI l)), l4, l5] [] h Q := by
        intro p1 p2
        have inner : ∀ m2 k (x4 : Int32), k + m2 = bR B r 0 1 → ((x4 = 0 ∧ ¬ ∃ y, y < k ∧ qA h 696 y = nI l) ∨ (x4 = 1 ∧ ∃ y, y < k ∧ qA h 696 y = nI l)) → q_wp 0 317 106 [some (.ref 630), some (.int (nI r)), some (.int (nI x)), some (.int (nI l)), some (.int x4), some (.int (nI k))] [] h Q := by
          intro m2
          induction m2 with
          | zero =>
            intro k x4 hk hx4
            obtain rfl : k = bR B r 0 1 := by omega
            refine b317_106 (S.ok rfl) (S.ref (v := 642) rfl) (S.ok rfl) (ir _ rfl) (fun _ => b317_146 (fun c1 => nx _ _ (fun _ _ => ?_)) (fun c1 => b317_151 (bad (fun h9 => ?_)))) (fun h1 => absurd (by rw [e42]; exact Int32.le_refl _) h1)
            · rcases hx4 with ⟨h5, _⟩ | ⟨_, h5⟩
              · exact absurd h5 c1
              · exact (hL.mem (by omega)).mpr h5
            · rcases hx4 with ⟨_, h5⟩ | ⟨h5, _⟩
              · exact h5 ((hL.mem (by omega)).mp (h9.2 l (by omega) p1 p2))
              · rw [h5] at c1
                exact absurd c1 (by decide)
          | succ m2 ih2 =>
            intro k x4 hk hx4
            have st : ∀ x7' : Int32, ((x7' = 0 ∧ ¬ ∃ y, y < k + 1 ∧ qA h 696 y = nI l) ∨ (x7' = 1 ∧ ∃ y, y < k + 1 ∧ qA h 696 y = nI l)) → q_wp 0 317 138 [some (.ref 630), some (.int (nI r)), some (.int (nI x)), some (.int (nI l)), some (.int x4), some (.int (nI k))] [.int x7'] h Q := by
              intro x7' hx'
              refine b317_138 ?_
              rw [nI_1]
              exact ih2 (k + 1) x7' (by omega) hx'
            refine b317_106 (S.ok rfl) (S.ref (v := 642) rfl) (S.ok rfl) (ir _ rfl) (fun h1 => absurd ((nI_leI (by omega) (by omega)).mp (e42 ▸ h1)) (by omega)) (fun _ => b317_117 (fun c4 => b317_133 (st 1 (Or.inr ⟨rfl, ?_⟩))) (fun c4 => b317_122 (S.ok rfl) (S.ref (v := 696) rfl) (S.ok rfl) (S.inN (n := 9) rfl (by omega) (by decide)) (fun c5 => b317_137 (st 0 (Or.inl ⟨rfl, ?_⟩))) (fun c5 => b317_133 (st 1 (Or.inr ⟨rfl, ?_⟩)))))
            · rcases hx4 with ⟨h5, _⟩ | ⟨_, y, y1, y2⟩
              · exact absurd h5 c4
              · exact ⟨y, by omega, y2⟩
            · rw [nI_clamp (by omega)] at c5
              rcases hx4 with ⟨_, h5⟩ | ⟨h5, _⟩
              · rintro ⟨y, y2, y3⟩
                rcases Nat.lt_or_ge y k with h8 | h8
                · exact h5 ⟨y, h8, y3⟩
                · obtain rfl : y = k := by omega
                  exact c5 y3
              · rw [h5] at c4
                exact absurd c4 (by decide)
            · rw [nI_clamp (by omega)] at c5
              exact ⟨k, by omega, c5⟩
        exact b317_100 (inner (bR B r 0 1) 0 0 (by omega) (Or.inl ⟨rfl, fun ⟨y, y1, _⟩ => absurd y1 (Nat.not_lt_zero _)⟩))
      refine b317_42 (fun h1 => absurd ((nI_gec (k := 40) (by omega) (by decide) rfl).mp h1) (by omega)) (fun _ => b317_48 (S.ok rfl) S.mr S.md (by rw [a36]; exact S.mi (by omega)) (fun c1 => nx _ _ (fun h9 => ?_)) (fun c1 => b317_61 (S.ok rfl) S.mr S.md (by rw [a76]; exact S.mi (by omega)) (S.ref (v := 695) rfl) (S.ok rfl) (i5 x hx) (fun c2 => ?_) (fun c2 => b317_79 (S.ok rfl) S.mr S.md (by rw [a116]; exact S.mi (by omega)) (S.ref (v := 695) rfl) (S.ok rfl) (i5 x hx) (fun c3 => ?_) (fun c3 => b317_97 (nx _ _ (fun _ h9 => ?_))))))
      · rw [e36] at c1
        exact absurd c1 h9
      · rw [e36] at c1
        rw [e76, ex] at c2
        exact j100 c1 (Or.inl c2)
      · rw [e36] at c1
        rw [e116, ex] at c3
        exact j100 c1 (Or.inr c3)
      · rw [e76, ex] at c2
        rw [e116, ex] at c3
        exact h9.elim (fun h8 => absurd h8 c2) (fun h8 => absurd h8 c3)
  have loop1 : ∀ m k, k + m = bR B r 0 0 → (∀ y, y < k → ¬ y = x → ¬ im y = im x) → q_wp 0 317 2 [some (.ref 630), some (.int (nI r)), some (.int (nI x)), some (.int (nI k)), none, none] [] h Q := by
    intro m
    induction m with
    | zero =>
      intro k hk g
      obtain rfl : k = bR B r 0 0 := by omega
      exact b317_2 (S.ok rfl) (S.ref (v := 641) rfl) (S.ok rfl) (ir _ rfl) (fun _ => b317_40 (loop2 40 0 _ _ rfl g (fun y hy => absurd hy (Nat.not_lt_zero _)))) (fun h1 => absurd (by rw [e41]; exact Int32.le_refl _) h1)
    | succ m ih =>
      intro k hk g
      have nx : (¬ k = x → ¬ im k = im x) → q_wp 0 317 34 [some (.ref 630), some (.int (nI r)), some (.int (nI x)), some (.int (nI k)), none, none] [] h Q := by
        intro h9
        refine b317_34 ?_
        rw [nI_1]
        refine ih (k + 1) (by omega) (fun y hy => ?_)
        by_cases h8 : y = k
        · rw [h8]; exact h9
        · exact g y (by omega)
      obtain ⟨i1, i2⟩ := hn k (by omega)
      have ekk : qA h 695 (nI k).toNatClampNeg = nI (im k) := by rw [nI_clamp (by omega)]; exact i1
      refine b317_2 (S.ok rfl) (S.ref (v := 641) rfl) (S.ok rfl) (ir _ rfl) (fun h1 => absurd ((nI_leI (by omega) (by omega)).mp (e41 ▸ h1)) (by omega)) (fun _ => b317_12 (fun c1 => nx (fun h9 => absurd ((nI_eq (by omega) (by omega)).mp c1) h9)) (fun c1 => b317_17 (S.ok rfl) (S.ref (v := 695) rfl) (S.ok rfl) (i5 k (by omega)) (i5 x hx) (fun c2 => nx (fun _ h9 => ?_)) (fun c2 => b317_32 (bad (fun h9 => ?_)))))
      · rw [ekk, ex, h9] at c2
        exact c2 rfl
      · rw [ekk, ex] at c2
        exact h9.1 k (by omega) (fun h8 => c1 (by rw [h8])) ((nI_eq (by omega) (by omega)).mp c2)
  exact b317_0 (loop1 (bR B r 0 0) 0 (by omega) (fun y hy => absurd hy (Nat.not_lt_zero _)))
