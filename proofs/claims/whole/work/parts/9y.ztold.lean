/-! THE TWO READS: names told in a rule -/
/-- one name: a node (its number is such a one), a link (of so many, where that is known), or a new node (of so many) -/
def zMe (K : Nat → Nat) (V U : Nat → Int64) (e : Nat) (NX : Nat → Prop) (lx : Bool) (l w : Nat) (h k : q_Hp) (j : Nat) : Prop := (∃ i, zN K e i ∧ qL h 592 j = V i ∧ qL k 678 j = U i) ∧ qA h 595 j = qA k 681 j ∧ ((qA h 596 j = 0 ∧ qA k 682 j = 0) ∨ (qA h 596 j = 1 ∧ qA k 682 j = 1)) ∧ ((qA h 593 j = 1 ∧ qA k 679 j = 0 ∧ ∃ x, NX x ∧ qA h 594 j = nI x ∧ qA k 680 j = nI x) ∨ (qA h 593 j = 2 ∧ qA k 679 j = 1 ∧ (lx = true → ∃ x, x < l ∧ qA h 594 j = nI x ∧ qA k 680 j = nI x)) ∨ (qA h 593 j = 4 ∧ qA k 679 j = 2 ∧ ∃ x, x < w ∧ qA h 594 j = nI (4 + x) ∧ qA k 680 j = nI x))
def zM (K : Nat → Nat) (V U : Nat → Int64) (e : Nat) (NX : Nat → Prop) (lx : Bool) (l w m : Nat) (h k : q_Hp) : Prop := qI h 589 9 = nI m ∧ qI k 630 68 = nI m ∧ (∀ j, j < m → zMe K V U e NX lx l w h k j) ∧ ∀ i j, i < j → j < m → ¬ qL k 678 i = qL k 678 j
/-- no name is gone -/
def zG (m : Nat) (h : q_Hp) : Prop := ∀ j, j < m → qA h 596 j = 0
section ZM
variable {K P X : Nat → Nat} {V U : Nat → Int64} {e t c nt ns : Nat} {NX NX' : Nat → Prop} {lx : Bool} {l w m : Nat} {h k h' k' : q_Hp}
theorem zM.na (Z : zM K V U e NX lx l w m h k) : zna K V U e (qL h 592) (qL k 678) m := fun j hj => (Z.2.2.1 j hj).1
theorem zM.fi (T : zTk K P X V U e) (Z : zM K V U e NX lx l w m h k) (ht : zN K e t) : p_fi (qL k 678) m (U t) = p_fi (qL h 592) m (V t) := Z.na.fi T ht
/-- a name that is sought -/
theorem zM.ft {kd : Int32} {cond : Nat → Prop} [DecidablePred cond] (T : zTk K P X V U e) (Z : zM K V U e NX lx l w m h k) (ht : zN K e t) (hm : ∀ j, j < m → ((¬ (qA h 593 j &&& kd) = 0 ∧ qA h 596 j = 0) ↔ cond j)) : g_ft kd m (V t) h = match p_fi (qL k 678) m (U t) with
    | some j => if cond j then some j else none
    | none => none := by
  cases hf : p_fi (qL k 678) m (U t) with
  | none =>
    show g_ft kd m (V t) h = none
    refine (q_fst_none m 0).mpr (fun j _ h2 => ?_)
    have h1 := p_fi_no.mp hf j (show j < m by omega)
    have h3 := Z.na.eq T ht (show j < m by omega)
    rw [beq_false_of_ne h1] at h3
    rw [h3]
    rfl
  | some j =>
    show g_ft kd m (V t) h = if cond j then some j else none
    obtain ⟨hj, h1, h2⟩ := p_fi_lt hf
    have uniq : ∀ i, i < m → ¬ i = j → (qL h 592 i == V t) = false := by
      intro i hi hij
      rw [Z.na.eq T ht hi]
      refine beq_false_of_ne (fun h9 => ?_)
      rcases Nat.lt_or_gt_of_ne hij with h8 | h8
      · exact Z.2.2.2 i j h8 hj (h9.trans h1.symm)
      · exact Z.2.2.2 j i h8 hi (h1.trans h9.symm)
    have yes : (qL h 592 j == V t) = true := by rw [Z.na.eq T ht hj, h1, beq_self_eq_true]
    by_cases hc : cond j
    · rw [if_pos hc]
      obtain ⟨c1, c2⟩ := (hm j hj).mpr hc
      refine (q_fst_some _ _ _).mpr ⟨Nat.zero_le _, by omega, ?_, fun i _ hi => ?_⟩
      · rw [yes, beq_eq_false_iff_ne.mpr c1, c2]
        rfl
      · rw [uniq i (by omega) (by omega)]
        rfl
    · rw [if_neg hc]
      refine (q_fst_none m 0).mpr (fun i _ h2 => ?_)
      by_cases hij : i = j
      · rw [hij]
        by_cases c1 : (qA h 593 j &&& kd) = 0
        · rw [beq_iff_eq.mpr c1, Bool.not_true, Bool.and_false, Bool.false_and]
        · by_cases c2 : qA h 596 j = 0
          · exact absurd ((hm j hj).mp ⟨c1, c2⟩) hc
          · rw [beq_eq_false_iff_ne.mpr c2, Bool.and_false]
      · rw [uniq i (by omega) hij]
        rfl
/-- kinds, as bits and as numbers -/
theorem zMe.kd {j : Nat} (Z : zMe K V U e NX lx l w h k j) : (qA h 593 j = 1 ∧ qA k 679 j = 0) ∨ (qA h 593 j = 2 ∧ qA k 679 j = 1) ∨ (qA h 593 j = 4 ∧ qA k 679 j = 2) := by
  obtain ⟨_, _, _, q | q | q⟩ := Z
  · exact Or.inl ⟨q.1, q.2.1⟩
  · exact Or.inr (Or.inl ⟨q.1, q.2.1⟩)
  · exact Or.inr (Or.inr ⟨q.1, q.2.1⟩)
theorem zMe.gn {j : Nat} (Z : zMe K V U e NX lx l w h k j) : qA h 596 j = 0 ↔ qA k 682 j = 0 := by
  obtain ⟨_, _, q | q, _⟩ := Z
  · exact ⟨fun _ => q.2, fun _ => q.1⟩
  · rw [q.1, q.2]
theorem zM.el (T : zTk K P X V U e) (Z : zM K V U e NX lx l w m h k) (G : zG m h) (ht : zN K e t) : g_ft 1 m (V t) h = p_el k m (U t) := by
  refine Z.ft (cond := fun j => qA k 679 j = 0) T ht (fun j hj => ?_)
  have g := G j hj
  rcases (Z.2.2.1 j hj).kd with ⟨q1, q2⟩ | ⟨q1, q2⟩ | ⟨q1, q2⟩ <;> rw [q1, q2, g] <;> decide
theorem zM.ug {set : Bool} (T : zTk K P X V U e) (Z : zM K V U e NX lx l w m h k) (G : set = false → zG m h) (ht : zN K e t) : g_ft 1 m (V t) h = p_ug set m (U t) k := by
  refine Z.ft (cond := fun j => qA k 679 j = 0 ∧ (set = true → qA k 682 j = 0)) T ht (fun j hj => ?_)
  have z := Z.2.2.1 j hj
  rw [z.gn]
  cases set with
  | false =>
    have g := z.gn.mp (G rfl j hj)
    rw [g]
    rcases z.kd with ⟨q1, q2⟩ | ⟨q1, q2⟩ | ⟨q1, q2⟩ <;> rw [q1, q2] <;> decide
  | true =>
    have i1 : qA k 682 j = 0 ↔ (true = true → qA k 682 j = 0) := ⟨fun q _ => q, fun q => q rfl⟩
    rcases z.kd with ⟨q1, q2⟩ | ⟨q1, q2⟩ | ⟨q1, q2⟩ <;> rw [q1, q2] <;> exact and_congr (by decide) i1
theorem zM.dd (T : zTk K P X V U e) (Z : zM K V U e NX lx l w m h k) (ht : zN K e t) : g_ft 3 m (V t) h = p_dd m (U t) k := by
  refine Z.ft (cond := fun j => ¬ qA k 679 j = 2 ∧ qA k 682 j = 0) T ht (fun j hj => ?_)
  have z := Z.2.2.1 j hj
  rw [z.gn]
  rcases z.kd with ⟨q1, q2⟩ | ⟨q1, q2⟩ | ⟨q1, q2⟩ <;> rw [q1, q2] <;> exact and_congr (by decide) Iff.rfl
theorem zM.sd (T : zTk K P X V U e) (Z : zM K V U e NX lx l w m h k) (ht : zN K e t) : g_ft 5 m (V t) h = p_sd m (U t) k := by
  refine Z.ft (cond := fun j => ¬ qA k 679 j = 1 ∧ qA k 682 j = 0) T ht (fun j hj => ?_)
  have z := Z.2.2.1 j hj
  rw [z.gn]
  rcases z.kd with ⟨q1, q2⟩ | ⟨q1, q2⟩ | ⟨q1, q2⟩ <;> rw [q1, q2] <;> exact and_congr (by decide) Iff.rfl
/-- the node that a sum or a link finds -/
theorem zM.nd {j : Nat} (Z : zM K V U e NX lx l w m h k) (hf : g_ft 1 m (V t) h = some j) : j < m ∧ qA h 593 j = 1 ∧ qA k 679 j = 0 ∧ ∃ x, NX x ∧ qA h 594 j = nI x ∧ qA k 680 j = nI x := by
  have hj := g_ft_lt hf
  have hc := ((q_fst_some _ _ _).mp hf).2.2.1
  simp only [Bool.and_eq_true, Bool.not_eq_true', beq_eq_false_iff_ne, beq_iff_eq] at hc
  refine ⟨hj, ?_⟩
  obtain ⟨_, _, _, q | q | q⟩ := Z.2.2.1 j hj
  · exact q
  · exfalso
    rw [q.1] at hc
    exact hc.1.2 (by decide)
  · exfalso
    rw [q.1] at hc
    exact hc.1.2 (by decide)
theorem zMe.fr {j : Nat} (Z : zMe K V U e NX lx l w h k j) (hN : ∀ x, NX x → NX' x) {l' w' : Nat} (hl : l ≤ l') (hw : w ≤ w') (e0 : qL h' 592 j = qL h 592 j) (e1 : qL k' 678 j = qL k 678 j) (e2 : ∀ x, x = 593 ∨ x = 594 ∨ x = 595 ∨ x = 596 → qA h' x j = qA h x j) (e3 : ∀ x, x = 679 ∨ x = 680 ∨ x = 681 ∨ x = 682 → qA k' x j = qA k x j) : zMe K V U e NX' lx l' w' h' k' j := by
  unfold zMe at Z ⊢
  rw [e0, e1, e2 593 (by omega), e2 594 (by omega), e2 595 (by omega), e2 596 (by omega), e3 679 (by omega), e3 680 (by omega), e3 681 (by omega), e3 682 (by omega)]
  obtain ⟨z1, z2, z3, z4⟩ := Z
  refine ⟨z1, z2, z3, ?_⟩
  rcases z4 with ⟨q1, q2, x, q3, q4⟩ | ⟨q1, q2, q3⟩ | ⟨q1, q2, x, q3, q4⟩
  · exact Or.inl ⟨q1, q2, x, hN x q3, q4⟩
  · refine Or.inr (Or.inl ⟨q1, q2, fun h9 => ?_⟩)
    obtain ⟨x, q4, q5⟩ := q3 h9
    exact ⟨x, by omega, q5⟩
  · exact Or.inr (Or.inr ⟨q1, q2, x, by omega, q4⟩)
theorem zM.fr (Z : zM K V U e NX lx l w m h k) (i9 : qI h' 589 9 = qI h 589 9) (i68 : qI k' 630 68 = qI k 630 68) (e0 : qL h' 592 = qL h 592) (e1 : qL k' 678 = qL k 678) (e2 : ∀ x, x = 593 ∨ x = 594 ∨ x = 595 ∨ x = 596 → qA h' x = qA h x) (e3 : ∀ x, x = 679 ∨ x = 680 ∨ x = 681 ∨ x = 682 → qA k' x = qA k x) : zM K V U e NX lx l w m h' k' := by
  obtain ⟨z1, z2, z3, z4⟩ := Z
  refine ⟨i9.trans z1, i68.trans z2, fun j hj => (z3 j hj).fr (fun _ q => q) (Nat.le_refl _) (Nat.le_refl _) (by rw [e0]) (by rw [e1]) (fun x hx => by rw [e2 x hx]) (fun x hx => by rw [e3 x hx]), ?_⟩
  rw [e1]
  exact z4
theorem zM.wk (Z : zM K V U e NX lx l w m h k) (hN : ∀ x, NX x → NX' x) {l' w' : Nat} (hl : l ≤ l') (hw : w ≤ w') : zM K V U e NX' lx l' w' m h k := ⟨Z.1, Z.2.1, fun j hj => (Z.2.2.1 j hj).fr hN hl hw rfl rfl (fun _ _ => rfl) (fun _ _ => rfl), Z.2.2.2⟩
theorem zMe.lf0 {j : Nat} (Z : zMe K V U e NX lx l w h k j) : zMe K V U e NX false l w h k j := by
  obtain ⟨z1, z2, z3, z4⟩ := Z
  refine ⟨z1, z2, z3, ?_⟩
  rcases z4 with q | ⟨q1, q2, q3⟩ | q
  · exact Or.inl q
  · exact Or.inr (Or.inl ⟨q1, q2, fun h9 => by cases h9⟩)
  · exact Or.inr (Or.inr q)
theorem zM.lf0 (Z : zM K V U e NX lx l w m h k) : zM K V U e NX false l w m h k := ⟨Z.1, Z.2.1, fun j hj => (Z.2.2.1 j hj).lf0, Z.2.2.2⟩
/-- the rows of the class once a name is told -/
theorem g_tl_r {v : Int64} {kd nu ty : Int32} {j : Nat} : qL (g_tl m v kd nu ty h) 592 j = (if j = m then v else qL h 592 j) ∧ qA (g_tl m v kd nu ty h) 593 j = (if j = m then kd else qA h 593 j) ∧ qA (g_tl m v kd nu ty h) 594 j = (if j = m then nu else qA h 594 j) ∧ qA (g_tl m v kd nu ty h) 595 j = (if j = m then ty else qA h 595 j) ∧ qA (g_tl m v kd nu ty h) 596 j = if j = m then 0 else qA h 596 j := by
  unfold g_tl
  refine ⟨?_, ?_, ?_, ?_, ?_⟩
  · rw [qL_sI, qL_sA, qL_sA, qL_sA, qL_sA, qL_sL]
    by_cases h9 : j = m
    · rw [if_pos ⟨rfl, h9⟩, if_pos h9]
    · rw [if_neg (fun q => h9 q.2), if_neg h9]
  · rw [qA_sI, qA_sAn (by decide), qA_sAn (by decide), qA_sAn (by decide), qA_sA, qA_sL]
    by_cases h9 : j = m
    · rw [if_pos ⟨rfl, h9⟩, if_pos h9]
    · rw [if_neg (fun q => h9 q.2), if_neg h9]
  · rw [qA_sI, qA_sAn (by decide), qA_sAn (by decide), qA_sA, qA_sAn (by decide), qA_sL]
    by_cases h9 : j = m
    · rw [if_pos ⟨rfl, h9⟩, if_pos h9]
    · rw [if_neg (fun q => h9 q.2), if_neg h9]
  · rw [qA_sI, qA_sAn (by decide), qA_sA, qA_sAn (by decide), qA_sAn (by decide), qA_sL]
    by_cases h9 : j = m
    · rw [if_pos ⟨rfl, h9⟩, if_pos h9]
    · rw [if_neg (fun q => h9 q.2), if_neg h9]
  · rw [qA_sI, qA_sA, qA_sAn (by decide), qA_sAn (by decide), qA_sAn (by decide), qA_sL]
    by_cases h9 : j = m
    · rw [if_pos ⟨rfl, h9⟩, if_pos h9]
    · rw [if_neg (fun q => h9 q.2), if_neg h9]
/-- one name more, that is new -/
theorem zM.tl {kd nu ty kd' nu' : Int32} (T : zTk K P X V U e) (Z : zM K V U e NX lx l w m h k) (ht : zN K e t) (hf : p_fi (qL h 592) m (V t) = none) (hk : (kd = 1 ∧ kd' = 0 ∧ ∃ x, NX x ∧ nu = nI x ∧ nu' = nI x) ∨ (kd = 2 ∧ kd' = 1 ∧ (lx = true → ∃ x, x < l ∧ nu = nI x ∧ nu' = nI x)) ∨ (kd = 4 ∧ kd' = 2 ∧ ∃ x, x < w ∧ nu = nI (4 + x) ∧ nu' = nI x)) : zM K V U e NX lx l w (m + 1) (g_tl m (V t) kd nu ty h) (p_tl P U t m kd' nu' ty k) := by
  have hf' := (Z.fi T ht).trans hf
  obtain ⟨z1, z2, z3, z4⟩ := Z
  refine ⟨g_tl_9, p_tl_68, fun j hj => ?_, fun i j hij hj => ?_⟩
  · obtain ⟨r1, r2, r3, r4, r5⟩ := g_tl_r (m := m) (v := V t) (kd := kd) (nu := nu) (ty := ty) (h := h) (j := j)
    by_cases h9 : j = m
    · unfold zMe
      rw [r1, r2, r3, r4, r5, p_tl_678, p_tl_679, p_tl_680, p_tl_681, p_tl_682, if_pos h9, if_pos h9, if_pos h9, if_pos h9, if_pos h9, if_pos h9, if_pos h9, if_pos h9, if_pos h9, if_pos h9]
      exact ⟨⟨t, ht, rfl, rfl⟩, rfl, Or.inl ⟨rfl, rfl⟩, hk⟩
    · refine (z3 j (by omega)).fr (fun _ q => q) (Nat.le_refl _) (Nat.le_refl _) (by rw [r1, if_neg h9]) (by rw [p_tl_678, if_neg h9]) (fun x hx => ?_) (fun x hx => ?_)
      · rcases hx with rfl | rfl | rfl | rfl
        · rw [r2, if_neg h9]
        · rw [r3, if_neg h9]
        · rw [r4, if_neg h9]
        · rw [r5, if_neg h9]
      · rcases hx with rfl | rfl | rfl | rfl
        · rw [p_tl_679, if_neg h9]
        · rw [p_tl_680, if_neg h9]
        · rw [p_tl_681, if_neg h9]
        · rw [p_tl_682, if_neg h9]
  · rw [p_tl_678, p_tl_678, if_neg (show ¬ i = m by omega)]
    by_cases h9 : j = m
    · rw [if_pos h9]
      exact p_fi_no.mp hf' i (by omega)
    · rw [if_neg h9]
      exact z4 i j hij (by omega)
end ZM
