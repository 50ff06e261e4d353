/-! THE MATCHER: what a match is, and what it stands on -/
noncomputable def m_dc (P : Prop) : Bool := @decide P (Classical.propDecidable P)
theorem m_dc_t {P : Prop} : m_dc P = true ↔ P := @decide_eq_true_iff P (Classical.propDecidable P)
theorem m_dc_f {P : Prop} : m_dc P = false ↔ ¬ P := @decide_eq_false_iff_not P (Classical.propDecidable P)
theorem q_mI.of {n k : Nat} {args : List Value} {h : q_Hp} {P : Int32 → q_Hp → Prop} (hr : q_rec k args h = true) (w : ∀ Q : Option Value → q_Hp → Prop, (∀ z h', P z h' → Q (some (.int z)) h') → q_wp n k 0 (q_ent k args) [] h Q) : q_mI n k args h P := ⟨hr, w _ (fun z h' p => ⟨z, rfl, p⟩)⟩
theorem q_mV.of {n k : Nat} {args : List Value} {h : q_Hp} {P : q_Hp → Prop} (hr : q_rec k args h = true) (w : ∀ Q : Option Value → q_Hp → Prop, (∀ h', P h' → Q none h') → q_wp n k 0 (q_ent k args) [] h Q) : q_mV n k args h P := ⟨hr, w _ (fun h' p => ⟨rfl, p⟩)⟩
/-- the least link of a sort from a node to a node that is not used -/
def m_ln (f : Nat → Int32) (s a b : Nat) (us : List Nat) : Option Nat := q_fst (fun i => (f (36 + i) == nI s && f (76 + i) == nI a && f (116 + i) == nI b) && !us.contains i) 0 40
/-- the links of the first n of a row of patterns -/
def m_gl (f : Nat → Int32) (im S F G : Nat → Nat) (us : List Nat) : Nat → Option (List Nat)
  | 0 => some us
  | n + 1 => match m_gl f im S F G us n with
    | none => none
    | some L => match m_ln f (S n) (im (F n)) (im (G n)) L with
      | none => none
      | some i => some (L ++ [i])
theorem m_gl_s {f : Nat → Int32} {im S F G : Nat → Nat} {us L : List Nat} {n : Nat} (e : m_gl f im S F G us n = some L) : m_gl f im S F G us (n + 1) = match m_ln f (S n) (im (F n)) (im (G n)) L with | none => none | some i => some (L ++ [i]) := by
  show (match m_gl f im S F G us n with | none => none | some L => _) = _
  rw [e]
theorem m_gl_none {f : Nat → Int32} {im S F G : Nat → Nat} {us : List Nat} {n : Nat} (e : m_gl f im S F G us n = none) : ∀ k, m_gl f im S F G us (n + k) = none := by
  intro k
  induction k with
  | zero => exact e
  | succ k ih =>
    show (match m_gl f im S F G us (n + k) with | none => none | some L => _) = _
    rw [ih]
theorem m_gl_len {f : Nat → Int32} {im S F G : Nat → Nat} {us : List Nat} : ∀ (n : Nat) (L : List Nat), m_gl f im S F G us n = some L → L.length = us.length + n := by
  intro n
  induction n with
  | zero => intro L e; cases e; rfl
  | succ n ih =>
    intro L e
    cases h : m_gl f im S F G us n with
    | none => rw [m_gl_none h 1] at e; cases e
    | some L0 =>
      rw [m_gl_s h] at e
      cases h2 : m_ln f (S n) (im (F n)) (im (G n)) L0 with
      | none => rw [h2] at e; cases e
      | some i =>
        rw [h2] at e
        cases e
        rw [List.length_append, ih L0 h]
        rfl
theorem m_ln_lt {f : Nat → Int32} {s a b i : Nat} {us : List Nat} (e : m_ln f s a b us = some i) : i < 40 ∧ f (36 + i) = nI s ∧ f (76 + i) = nI a ∧ f (116 + i) = nI b ∧ i ∉ us := by
  have h := q_fst_lt _ _ _ e
  have h2 := h.2.2
  simp only [Bool.and_eq_true, beq_iff_eq, Bool.not_eq_true', List.contains_eq_mem, decide_eq_false_iff_not] at h2
  exact ⟨by omega, h2.1.1.1, h2.1.1.2, h2.1.2, h2.2⟩
theorem m_gl_lt {f : Nat → Int32} {im S F G : Nat → Nat} {us : List Nat} (hu : ∀ i ∈ us, i < 40) : ∀ (n : Nat) (L : List Nat), m_gl f im S F G us n = some L → ∀ i ∈ L, i < 40 := by
  intro n
  induction n with
  | zero => intro L e; cases e; exact hu
  | succ n ih =>
    intro L e
    cases h : m_gl f im S F G us n with
    | none => rw [m_gl_none h 1] at e; cases e
    | some L0 =>
      rw [m_gl_s h] at e
      cases h2 : m_ln f (S n) (im (F n)) (im (G n)) L0 with
      | none => rw [h2] at e; cases e
      | some j =>
        rw [h2] at e
        cases e
        intro i hi
        rcases List.mem_append.mp hi with h3 | h3
        · exact ih L0 h i h3
        · rw [List.mem_singleton.mp h3]
          exact (m_ln_lt h2).1
theorem q_fst_ext {p q : Nat → Bool} : ∀ (n i : Nat), (∀ j, i ≤ j → j < i + n → p j = q j) → q_fst p i n = q_fst q i n := by
  intro n
  induction n with
  | zero => intro i _; rfl
  | succ n ih =>
    intro i h
    unfold q_fst
    rw [h i (Nat.le_refl _) (by omega), ih (i + 1) (fun j h1 h2 => h j (by omega) (by omega))]
theorem q_fst_none {p : Nat → Bool} : ∀ (n i : Nat), q_fst p i n = none ↔ ∀ j, i ≤ j → j < i + n → p j = false := by
  intro n
  induction n with
  | zero => intro i; exact ⟨fun _ j h1 h2 => by omega, fun _ => rfl⟩
  | succ n ih =>
    intro i
    unfold q_fst
    by_cases h : p i = true
    · rw [if_pos h]
      refine ⟨(fun h1 => by cases h1), fun h1 => ?_⟩
      rw [h1 i (Nat.le_refl _) (by omega)] at h
      cases h
    · rw [if_neg h, ih (i + 1)]
      constructor
      · intro h1 j h2 h3
        by_cases h4 : j = i
        · rw [h4]; exact Bool.eq_false_iff.mpr h
        · exact h1 j (by omega) (by omega)
      · exact fun h1 j h2 h3 => h1 j (by omega) (by omega)
theorem q_fst_some {p : Nat → Bool} : ∀ (n i k : Nat), q_fst p i n = some k ↔ i ≤ k ∧ k < i + n ∧ p k = true ∧ ∀ j, i ≤ j → j < k → p j = false := by
  intro n
  induction n with
  | zero => intro i k; exact ⟨(fun h => by cases h), fun h => by omega⟩
  | succ n ih =>
    intro i k
    unfold q_fst
    by_cases h : p i = true
    · rw [if_pos h]
      constructor
      · intro h1
        cases h1
        exact ⟨Nat.le_refl _, by omega, h, fun j h2 h3 => by omega⟩
      · rintro ⟨h1, h2, h3, h4⟩
        by_cases h5 : k = i
        · rw [h5]
        · have := h4 i (Nat.le_refl _) (by omega)
          rw [h] at this
          cases this
    · rw [if_neg h, ih (i + 1) k]
      constructor
      · rintro ⟨h1, h2, h3, h4⟩
        refine ⟨by omega, by omega, h3, fun j h5 h6 => ?_⟩
        by_cases h7 : j = i
        · rw [h7]; exact Bool.eq_false_iff.mpr h
        · exact h4 j (by omega) h6
      · rintro ⟨h1, h2, h3, h4⟩
        have : ¬ k = i := fun h5 => h (h5 ▸ h3)
        exact ⟨by omega, by omega, h3, fun j h5 h6 => h4 j (by omega) h6⟩
theorem m_least {f : Nat → Int32} {s a b : Nat} {t : Int64} {us : List Nat} (hs : s < 2 ^ 31) (ht : ∀ j, j < 40 → (bl t j = true ↔ j ∈ us)) : d_least f (nI s) (nI a) (nI b) t = m_ln f s a b us := by
  unfold d_least m_ln
  rw [if_neg (q_on_ne hs)]
  refine q_fst_ext 40 0 (fun j _ h2 => ?_)
  have h3 : j < 40 := by omega
  unfold d_isL
  rw [q_bit0_bl (by omega)]
  have : bl t j = us.contains j := by
    rw [Bool.eq_iff_iff, ht j h3, List.contains_eq_mem, decide_eq_true_eq]
  rw [this]
/-- a node of the diagram is of a type of the book -/
def m_tt (B : q_Bk) (f : Nat → Int32) (w : Int32) (x : Nat) : Prop := t_is (fun j => oN (bT B j 0)) (bN B 0) w 12 (f x) = true
/-- a node of the rule is deleted -/
def m_dl (V : Nat → Nat → Nat) (i : Nat) : Prop := ∃ d, d < V 0 4 ∧ V 13 d = 0 ∧ V 14 d = i
/-- what a sum is worth -/
def m_sv (B : q_Bk) (f : Nat → Int32) (im : Nat → Nat) (V : Nat → Nat → Nat) (s : Nat) : Option (List Int32) := m_ev (fun i => bC B i 0) (fun i => bC B i 1) (m_nu f im) (V 11 s) (V 12 s - V 11 s) []
def m_ts (B : q_Bk) (f : Nat → Int32) (im : Nat → Nat) (V : Nat → Nat → Nat) (t : Nat) : Prop := ∃ x y, m_sv B f im V (2 * t) = some [x] ∧ m_sv B f im V (2 * t + 1) = some [y] ∧ m_te (V 10 t) x y = true
/-- a link that is not given leads from or to a node that is deleted -/
def m_lo (f : Nat → Int32) (im : Nat → Nat) (V : Nat → Nat → Nat) (L : List Nat) : Prop := ∃ l, l < 40 ∧ ¬ f (36 + l) = -1 ∧ l ∉ L ∧ ∃ i, i < V 0 0 ∧ m_dl V i ∧ (f (76 + l) = nI (im i) ∨ f (116 + l) = nI (im i))
/-- the nodes with a NOT's own -/
def m_i4 (im : Nat → Nat) (c : Nat) (x : Nat) : Nat := if x = 4 then c else im x
def m_ng (f : Nat → Int32) (im : Nat → Nat) (V : Nat → Nat → Nat) (L : List Nat) (n c : Nat) : Option (List Nat) := m_gl f (m_i4 im c) (fun l => V 7 (3 * n + l)) (fun l => V 8 (3 * n + l)) (fun l => V 9 (3 * n + l)) L (V 6 n)
def m_no (B : q_Bk) (f : Nat → Int32) (im : Nat → Nat) (V : Nat → Nat → Nat) (L : List Nat) (n : Nat) : Prop := ∃ c, c < (if V 5 n = 0 then 1 else 12) ∧ (¬ V 5 n = 0 → m_tt B f (oN (V 5 n)) c) ∧ ∃ L', m_ng f im V L n c = some L'
def m_rl (f : Nat → Int32) (im : Nat → Nat) (V : Nat → Nat → Nat) : Option (List Nat) := m_gl f im (V 2) (V 3) (V 4) [] (V 0 1)
/-- what fits() tells -/
def m_ft (B : q_Bk) (f : Nat → Int32) (im : Nat → Nat) (V : Nat → Nat → Nat) (L : List Nat) : Prop := m_rl f im V = some L ∧ (∀ t, t < V 0 3 → m_ts B f im V t) ∧ ¬ m_lo f im V L ∧ ∀ n, n < V 0 2 → ¬ m_no B f im V L n
/-- what stays while the matcher works -/
def m_fr (h h' : q_Hp) : Prop := q_Ef [601, 602, 603, 607] h h' ∧ qR h' 601 = qR h 601 ∧ ∀ j, ¬ (j = 5 ∨ j = 11) → qI h' 601 j = qI h 601 j
theorem m_fr.rf {h : q_Hp} : m_fr h h := ⟨q_Ef.rf, rfl, fun _ _ => rfl⟩
theorem m_fr.trans {h h1 h2 : q_Hp} (a : m_fr h h1) (b : m_fr h1 h2) : m_fr h h2 := ⟨a.1.trans b.1, b.2.1.trans a.2.1, fun j hj => (b.2.2 j hj).trans (a.2.2 j hj)⟩
theorem m_fr.sA {h : q_Hp} {c j : Nat} {v : Int32} (e : c ∈ [601, 602, 603, 607]) : m_fr h (q_sA h c j v) := ⟨q_Ef.sA e, rfl, fun _ _ => rfl⟩
theorem m_fr.sL {h : q_Hp} {j : Nat} {v : Int64} : m_fr h (q_sL h 601 j v) := ⟨q_Ef.sL (by decide), rfl, fun _ _ => rfl⟩
theorem m_fr.wA {h : q_Hp} {c : Nat} {g : Nat → Int32} (e : c ∈ [601, 602, 603, 607]) : m_fr h (q_wA h c g) := ⟨q_Ef.wA e, rfl, fun _ _ => rfl⟩
theorem m_fr.sI {h : q_Hp} {j : Nat} {v : Int32} (e : j = 5 ∨ j = 11) : m_fr h (q_sI h 601 j v) := ⟨q_Ef.sI (by decide), rfl, fun i hi => qI_sI_nj (fun h2 => hi (h2.2 ▸ e))⟩
/-- the desk's side of a search: the rule's cells, the book's, the diagram, and what aim() noted -/
def m_A (h : q_Hp) (b o : Nat) (B : q_Bk) (V : Nat → Nat → Nat) (k : Nat → Int32) : Prop :=
  q_Mt h b o ∧ q_wB B ∧ q_wR B V ∧ r_cB h b B ∧ r_cR h o V ∧ q_dg (bN B 0) (bN B 1) (qA h 598) k ∧
  (∀ i, i < V 0 0 → ∀ j, j < 32 → (bt (qA h 604 i) j = true ↔ j < 12 ∧ m_tt B (qA h 598) (nI (V 1 i)) j)) ∧
  (∀ i, i < V 0 2 → ∀ j, j < 32 → (bt (qA h 605 i) j = true ↔ j < 12 ∧ m_tt B (qA h 598) (oN (V 5 i)) j)) ∧
  ∀ s a j, s < 12 → a < 12 → j < 32 → (bt (qA h 606 (12 * s + a)) j = true ↔ m_rc (qA h 598) 40 s a j)
theorem m_fr.I {h h' : q_Hp} (e : m_fr h h') {a : Nat} (ha : a ∉ [601, 602, 603, 607]) : qI h' a = qI h a := e.1.I ha
theorem m_fr.A {h h' : q_Hp} (e : m_fr h h') {a : Nat} (ha : a ∉ [601, 602, 603, 607]) : qA h' a = qA h a := e.1.A ha
/-- .. and is turned on -/
def m_fw (h h' : q_Hp) : Prop := q_Ef [601, 602, 603, 607] h h' ∧ qR h' 601 = qR h 601 ∧ ∀ j, ¬ (j = 5 ∨ j = 6 ∨ j = 11) → qI h' 601 j = qI h 601 j
theorem m_fr.fw {h h' : q_Hp} (a : m_fr h h') : m_fw h h' := ⟨a.1, a.2.1, fun j hj => a.2.2 j (fun h2 => hj (h2.elim Or.inl (fun h3 => Or.inr (Or.inr h3))))⟩
theorem m_fw.trans {h h1 h2 : q_Hp} (a : m_fw h h1) (b : m_fw h1 h2) : m_fw h h2 := ⟨a.1.trans b.1, b.2.1.trans a.2.1, fun j hj => (b.2.2 j hj).trans (a.2.2 j hj)⟩
theorem m_fw.I {h h' : q_Hp} (e : m_fw h h') {a : Nat} (ha : a ∉ [601, 602, 603, 607]) : qI h' a = qI h a := e.1.I ha
theorem m_fw.A {h h' : q_Hp} (e : m_fw h h') {a : Nat} (ha : a ∉ [601, 602, 603, 607]) : qA h' a = qA h a := e.1.A ha
theorem m_fw.sI {h : q_Hp} {v : Int32} : m_fw h (q_sI h 601 6 v) := ⟨q_Ef.sI (by decide), rfl, fun i hi => qI_sI_nj (fun h2 => hi (h2.2 ▸ Or.inr (Or.inl rfl)))⟩
theorem m_A.fw {h h' : q_Hp} {b o : Nat} {B : q_Bk} {V : Nat → Nat → Nat} {k : Nat → Int32} (a : m_A h b o B V k) (e : m_fw h h') : m_A h' b o B V k := by
  obtain ⟨⟨S, hb, ho, f1, f2⟩, w, wr, cB, cR, D, t1, t2, t3⟩ := a
  have hbb : b = 11 ∨ b = 300 := hb
  have hol := ho.le
  have n1 : ∀ x, x ≤ 600 → x ∉ [601, 602, 603, 607] := fun x hx => q_nin (k := 600) rfl hx
  refine ⟨⟨e.1.sh S, hb, ho, by rw [e.2.1]; exact f1, by rw [e.2.1]; exact f2⟩, w, wr, cB.fr hb w (fun a h1 h2 => e.A (n1 _ (by omega))) (fun a h1 h2 => e.I (n1 _ (by omega))), cR.fr (fun a h1 h2 => e.A (n1 _ (by omega))) (e.I (n1 _ (by omega))), ?_, ?_, ?_, ?_⟩
  · rw [e.A (n1 598 (by decide))]; exact D
  · rw [e.A (n1 598 (by decide)), e.A (show 604 ∉ [601, 602, 603, 607] by decide)]; exact t1
  · rw [e.A (n1 598 (by decide)), e.A (show 605 ∉ [601, 602, 603, 607] by decide)]; exact t2
  · rw [e.A (n1 598 (by decide)), e.A (show 606 ∉ [601, 602, 603, 607] by decide)]; exact t3
theorem m_A.fr {h h' : q_Hp} {b o : Nat} {B : q_Bk} {V : Nat → Nat → Nat} {k : Nat → Int32} (a : m_A h b o B V k) (e : m_fr h h') : m_A h' b o B V k := a.fw e.fw
theorem m_A.f {h h' : q_Hp} {b o : Nat} {B : q_Bk} {V : Nat → Nat → Nat} {k : Nat → Int32} (_ : m_A h b o B V k) (e : m_fr h h') : qA h' 598 = qA h 598 := e.A (by decide)
/-- the nodes that are given -/
def m_nd (h : q_Hp) (N : Nat) (im : Nat → Nat) : Prop := ∀ i, i < N → qA h 602 i = nI (im i) ∧ im i < 12
theorem m_tt_in {B : q_Bk} {h : q_Hp} {b T : Nat} {w : Int32} {x : Nat} (hb : r_cB h b B) (hT : bN B 0 = T) (hm : T ≤ 12) : t_is (qA h (b + 1)) T w 12 (qA h 598 x) = true ↔ m_tt B (qA h 598) w x := by
  unfold m_tt
  rw [hT, t_is_ext (fun i hi => hb.2.1 i (by omega)) (by omega)]
