/-! THE MATCHER: aim -/
theorem q_nin {S : List Nat} {o k : Nat} (hS : S.all (fun x => decide (k < x)) = true) (ho : o ≤ k) : o ∉ S := by
  intro h
  have := List.all_eq_true.mp hS o h
  simp only [decide_eq_true_eq] at this
  omega
theorem q_Ef.I {S : List Nat} {h h' : q_Hp} (e : q_Ef S h h') {a : Nat} (ha : a ∉ S) : qI h' a = qI h a := (e.2.2.2.2 a ha).1
theorem q_Ef.R {S : List Nat} {h h' : q_Hp} (e : q_Ef S h h') {a : Nat} (ha : a ∉ S) : qR h' a = qR h a := (e.2.2.2.2 a ha).2.1
theorem q_Ef.A {S : List Nat} {h h' : q_Hp} (e : q_Ef S h h') {a : Nat} (ha : a ∉ S) : qA h' a = qA h a := (e.2.2.2.2 a ha).2.2.1
theorem q_Ef.L {S : List Nat} {h h' : q_Hp} (e : q_Ef S h h') {a : Nat} (ha : a ∉ S) : qL h' a = qL h a := (e.2.2.2.2 a ha).2.2.2
/-- the heap with the matcher turned to a rule -/
def m_h0 (h : q_Hp) (b o : Nat) : q_Hp := q_sI (q_sR (q_sR h 601 1 b) 601 2 o) 601 6 1
theorem m_h0_Sh {h : q_Hp} {b o : Nat} (S : q_Sh h) : q_Sh (m_h0 h b o) := by
  unfold m_h0
  exact ((S.sR rfl).sR rfl).sI
/-- the nodes of a type in a book -/
def m_fit (h : q_Hp) (b T : Nat) (w : Int32) (z : Int32) : Prop := ∀ j, j < 32 → (bt z j = true ↔ j < 12 ∧ t_is (qA h (b + 1)) T w 12 (qA h 598 j) = true)
theorem s91 {h : q_Hp} {b r T Z : Nat} {k : Nat → Int32} {V : Nat → Nat → Nat} (S : q_Sh h) (hb : q_isB b) (hr : r < 20) (hT : qI h b 0 = nI T) (hm : T ≤ 12) (D : q_dr T Z (qA h 598) k) (hZ : Z ≤ 12) (C : r_cR h (b + 9 + 14 * r) V) (w0 : V 0 0 ≤ 4) (w2 : V 0 2 ≤ 2) : q_mV 2 91 [.ref 601, .ref b, .int (nI r)] h (fun h' => ∃ h1, q_Ef [602, 604, 605] (m_h0 h b (b + 9 + 14 * r)) h1 ∧ (∀ i, i < 4 → qA h1 602 i = -1 ∧ (i < V 0 0 → m_fit h b T (nI (V 1 i)) (qA h1 604 i))) ∧ (∀ i, i < V 0 2 → m_fit h b T (oN (V 5 i)) (qA h1 605 i)) ∧ ∃ g : Nat → Int32, h' = q_wA h1 606 g ∧ ∀ s a j, s < 12 → a < 12 → j < 32 → (bt (g (12 * s + a)) j = true ↔ m_rc (qA h 598) 40 s a j)) := by
  have hbb : b = 11 ∨ b = 300 := hb
  have ho : q_isO (b + 9 + 14 * r) := ⟨b, r, hb, hr, rfl⟩
  generalize hoe : b + 9 + 14 * r = o at *
  have hol := ho.le
  have S0 : q_Sh (m_h0 h b o) := m_h0_Sh S
  refine ⟨q_recV rfl (S.ok rfl), ?_⟩
  refine b91_0 (S.ok rfl) (v0 := b) rfl (s9 (h := q_sR h 601 1 b) (S.sR rfl) hb) (by decide) ?_
  rintro z h1 ⟨e0, rfl⟩
  subst h1
  rw [q_ru_in hr, hoe]
  have Sa : q_Sh (q_sR h 601 1 b) := S.sR rfl
  have Sb : q_Sh (q_sR (q_sR h 601 1 b) 601 2 o) := Sa.sR rfl
  refine b91_14 (Sa.ok rfl) (Sb.ok rfl) ?_
  -- what stays
  have stay : ∀ h1, q_Ef [602, 604, 605] (m_h0 h b o) h1 → q_Mt h1 b o ∧ qI h1 b 0 = nI T ∧ qI h1 o 0 = nI (V 0 0) ∧ qI h1 o 2 = nI (V 0 2) ∧ qA h1 (o + 1) = qA h (o + 1) ∧ qA h1 (o + 2) = qA h (o + 2) ∧ qA h1 598 = qA h 598 ∧ qA h1 (b + 1) = qA h (b + 1) := by
    intro h1 e
    have n1 : ∀ x, x ≤ 601 → x ∉ [602, 604, 605] := fun x hx => q_nin (k := 601) rfl hx
    have i0 : ∀ x, x < 601 → qI h1 x = qI h x := fun x hx => (e.I (n1 x (by omega))).trans (qI_sI_ne (by omega))
    have r0 := e.R (n1 601 (by decide))
    refine ⟨⟨e.sh S0, hb, ho, ?_, ?_⟩, ?_, ?_, ?_, ?_, ?_, ?_, ?_⟩
    · rw [r0]; rfl
    · rw [r0]; rfl
    · rw [i0 b (by omega)]; exact hT
    · rw [i0 o (by omega)]; exact C.1 0 (by decide)
    · rw [i0 o (by omega)]; exact C.1 2 (by decide)
    · exact e.A (n1 _ (by omega))
    · exact e.A (n1 _ (by omega))
    · exact e.A (n1 _ (by omega))
    · exact e.A (n1 _ (by omega))
  have fin : ∀ h1 (i : Nat), q_Ef [602, 604, 605] (m_h0 h b o) h1 → (∀ i, i < 4 → qA h1 602 i = -1 ∧ (i < V 0 0 → m_fit h b T (nI (V 1 i)) (qA h1 604 i))) → (∀ i, i < V 0 2 → m_fit h b T (oN (V 5 i)) (qA h1 605 i)) → q_wp 2 91 123 [some (.ref 601), some (.ref b), some (.int (nI r)), some (.int (nI i))] [] h1 (fun x h' => x = none ∧ ∃ h1, q_Ef [602, 604, 605] (m_h0 h b o) h1 ∧ (∀ i, i < 4 → qA h1 602 i = -1 ∧ (i < V 0 0 → m_fit h b T (nI (V 1 i)) (qA h1 604 i))) ∧ (∀ i, i < V 0 2 → m_fit h b T (oN (V 5 i)) (qA h1 605 i)) ∧ ∃ g : Nat → Int32, h' = q_wA h1 606 g ∧ ∀ s a j, s < 12 → a < 12 → j < 32 → (bt (g (12 * s + a)) j = true ↔ m_rc (qA h 598) 40 s a j)) := by
    intro h1 i e f1 f2
    have st := stay h1 e
    have d5 : qA h1 598 = qA h 598 := st.2.2.2.2.2.2.1
    refine b91_123 (s93 (T := T) (Z := Z) (k := k) st.1.1 (by rw [d5]; exact D) hZ) (by decide) ?_
    rintro h2 ⟨g, rfl, hg⟩
    rw [d5] at hg
    exact b91_127 ⟨rfl, h1, e, f1, f2, g, rfl, hg⟩
  have loop2 : ∀ m i h1, i + m = 2 → q_Ef [602, 604, 605] (m_h0 h b o) h1 → (∀ i, i < 4 → qA h1 602 i = -1 ∧ (i < V 0 0 → m_fit h b T (nI (V 1 i)) (qA h1 604 i))) → (∀ j, j < i → j < V 0 2 → m_fit h b T (oN (V 5 j)) (qA h1 605 j)) → q_wp 2 91 78 [some (.ref 601), some (.ref b), some (.int (nI r)), some (.int (nI i))] [] h1 (fun x h' => x = none ∧ ∃ h1, q_Ef [602, 604, 605] (m_h0 h b o) h1 ∧ (∀ i, i < 4 → qA h1 602 i = -1 ∧ (i < V 0 0 → m_fit h b T (nI (V 1 i)) (qA h1 604 i))) ∧ (∀ i, i < V 0 2 → m_fit h b T (oN (V 5 i)) (qA h1 605 i)) ∧ ∃ g : Nat → Int32, h' = q_wA h1 606 g ∧ ∀ s a j, s < 12 → a < 12 → j < 32 → (bt (g (12 * s + a)) j = true ↔ m_rc (qA h 598) 40 s a j)) := by
    intro m
    induction m with
    | zero =>
      intro i h1 hi e f1 f2
      obtain rfl : i = 2 := by omega
      exact b91_78 (fun _ => fin h1 2 e f1 (fun j hj => f2 j (by omega) hj)) (fun h1 => absurd (Int32.le_refl _) h1)
    | succ m ih =>
      intro i h1 hi e f1 f2
      obtain ⟨M, t1, t2, t3, t4, t5, t6, t7⟩ := stay h1 e
      have S1 := M.1
      have nx : ∀ z : Int32, (i < V 0 2 → m_fit h b T (oN (V 5 i)) z) → q_wp 2 91 116 [some (.ref 601), some (.ref b), some (.int (nI r)), some (.int (nI i))] [.int z, .int (nI i), .ref 605] h1 (fun x h' => x = none ∧ ∃ h1, q_Ef [602, 604, 605] (m_h0 h b o) h1 ∧ (∀ i, i < 4 → qA h1 602 i = -1 ∧ (i < V 0 0 → m_fit h b T (nI (V 1 i)) (qA h1 604 i))) ∧ (∀ i, i < V 0 2 → m_fit h b T (oN (V 5 i)) (qA h1 605 i)) ∧ ∃ g : Nat → Int32, h' = q_wA h1 606 g ∧ ∀ s a j, s < 12 → a < 12 → j < 32 → (bt (g (12 * s + a)) j = true ↔ m_rc (qA h 598) 40 s a j)) := by
        intro z hz
        refine b91_116 (S1.ok rfl) (S1.inN (n := 2) rfl (by omega) (by decide)) ?_
        rw [nI_1, nI_clamp (by omega)]
        refine ih (i + 1) _ (by omega) (e.trans (q_Ef.sA (by decide))) f1 (fun j hj1 hj2 => ?_)
        rw [qA_sAu]
        by_cases h3 : j = i
        · subst h3
          rw [upd_eq]
          exact hz hj2
        · rw [upd_ne h3]
          exact f2 j (by omega) hj2
      refine b91_78 (fun h1 => absurd ((nI_gec (k := 2) (by omega) (by decide) rfl).mp h1) (by omega)) (fun _ => b91_83 (S1.ok rfl) (S1.ref (v := 605) rfl) M.2.2.2.2 (S1.oo ho) (fun c1 => b91_115 (nx 0 (fun h3 => ?_))) (fun c1 => b91_99 (S1.ok rfl) M.2.2.2.2 (S1.oo ho) (S1.orr ho 1 (by decide)) (S1.oa ho 1 (by decide)).1 (S1.oi ho 1 (by decide) (show i < 2 by omega)) (s92 M t1 hm) (by decide) ?_))
      · rw [t3] at c1
        have := (nI_leI (by omega) (by omega)).mp c1
        omega
      · rintro z h2 ⟨e0, hz⟩
        subst h2
        refine b91_112 (nx z (fun h3 => ?_))
        have e5 : qA h1 (o + 1 + 1) = qA h (o + 2) := t5
        rw [nI_clamp (by omega), e5, (C.2.2.2.2.1 i h3).1, t6, t7] at hz
        exact hz
  have loop1 : ∀ m i h1, i + m = 4 → q_Ef [602, 604, 605] (m_h0 h b o) h1 → (∀ j, j < i → qA h1 602 j = -1 ∧ (j < V 0 0 → m_fit h b T (nI (V 1 j)) (qA h1 604 j))) → q_wp 2 91 24 [some (.ref 601), some (.ref b), some (.int (nI r)), some (.int (nI i))] [] h1 (fun x h' => x = none ∧ ∃ h1, q_Ef [602, 604, 605] (m_h0 h b o) h1 ∧ (∀ i, i < 4 → qA h1 602 i = -1 ∧ (i < V 0 0 → m_fit h b T (nI (V 1 i)) (qA h1 604 i))) ∧ (∀ i, i < V 0 2 → m_fit h b T (oN (V 5 i)) (qA h1 605 i)) ∧ ∃ g : Nat → Int32, h' = q_wA h1 606 g ∧ ∀ s a j, s < 12 → a < 12 → j < 32 → (bt (g (12 * s + a)) j = true ↔ m_rc (qA h 598) 40 s a j)) := by
    intro m
    induction m with
    | zero =>
      intro i h1 hi e f1
      obtain rfl : i = 4 := by omega
      exact b91_24 (fun _ => b91_76 (loop2 2 0 h1 rfl e f1 (fun j hj => absurd hj (Nat.not_lt_zero _)))) (fun h1 => absurd (Int32.le_refl _) h1)
    | succ m ih =>
      intro i h1 hi e f1
      obtain ⟨M, t1, t2, t3, t4, t5, t6, t7⟩ := stay h1 e
      have S1 := M.1
      have e9 : q_Ef [602, 604, 605] (m_h0 h b o) (q_sA h1 602 i (-1)) := e.trans (q_Ef.sA (by decide))
      obtain ⟨M9, u1, u2, u3, u4, u5, u6, u7⟩ := stay _ e9
      have nx : ∀ z : Int32, (i < V 0 0 → m_fit h b T (nI (V 1 i)) z) → q_wp 2 91 69 [some (.ref 601), some (.ref b), some (.int (nI r)), some (.int (nI i))] [.int z, .int (nI i), .ref 604] (q_sA h1 602 i (-1)) (fun x h' => x = none ∧ ∃ h1, q_Ef [602, 604, 605] (m_h0 h b o) h1 ∧ (∀ i, i < 4 → qA h1 602 i = -1 ∧ (i < V 0 0 → m_fit h b T (nI (V 1 i)) (qA h1 604 i))) ∧ (∀ i, i < V 0 2 → m_fit h b T (oN (V 5 i)) (qA h1 605 i)) ∧ ∃ g : Nat → Int32, h' = q_wA h1 606 g ∧ ∀ s a j, s < 12 → a < 12 → j < 32 → (bt (g (12 * s + a)) j = true ↔ m_rc (qA h 598) 40 s a j)) := by
        intro z hz
        refine b91_69 (S1.ok rfl) (S1.inN (n := 4) rfl (by omega) (by decide)) ?_
        rw [nI_1, nI_clamp (by omega)]
        refine ih (i + 1) _ (by omega) (e9.trans (q_Ef.sA (by decide))) (fun j hj => ?_)
        have x1 : qA (q_sA (q_sA h1 602 i (-1)) 604 i z) 602 = upd (qA h1 602) i (-1) := qA_sAu h1 602 i (-1)
        have x2 : qA (q_sA (q_sA h1 602 i (-1)) 604 i z) 604 = upd (qA h1 604) i z := qA_sAu (q_sA h1 602 i (-1)) 604 i z
        rw [x1, x2]
        by_cases h3 : j = i
        · subst h3
          rw [upd_eq, upd_eq]
          exact ⟨rfl, hz⟩
        · rw [upd_ne h3, upd_ne h3]
          exact f1 j (by omega)
      refine b91_24 (fun h1 => absurd ((nI_gec (k := 4) (by omega) (by decide) rfl).mp h1) (by omega)) (fun _ => b91_29 (S1.ok rfl) (S1.ref (v := 602) rfl) (S1.ok rfl) (S1.inN (n := 4) rfl (by omega) (by decide)) (S1.ref (v := 604) rfl) M.2.2.2.2 (S1.oo ho) (fun c1 => b91_68 ?_) (fun c1 => ?_))
      · rw [nI_clamp (by omega)]
        refine nx 0 (fun h3 => ?_)
        rw [t2] at c1
        have := (nI_leI (by omega) (by omega)).mp c1
        omega
      · rw [nI_clamp (by omega)]
        refine b91_52 (S1.ok rfl) M.2.2.2.2 (S1.oo ho) (S1.orr ho 0 (by decide)) (S1.oa ho 0 (by decide)).1 (S1.oi ho 0 (by decide) (show i < 4 by omega)) (s92 M9 u1 hm) (by decide) ?_
        rintro z h2 ⟨e0, hz⟩
        subst h2
        refine b91_65 (nx z (fun h3 => ?_))
        have e5 : qA (q_sA h1 602 i (-1)) (o + 1 + 0) = qA h (o + 1) := u4
        rw [nI_clamp (by omega), e5, C.2.2.1 i h3, u6, u7] at hz
        exact hz
  exact loop1 4 0 (m_h0 h b o) rfl q_Ef.rf (fun j hj => absurd hj (Nat.not_lt_zero _))
