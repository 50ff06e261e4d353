/-! SYNTAX of the class: all of it -/
section CY
variable {K P : Nat → Nat} {V : Nat → Int64} {e : Nat} {h0 h : q_Hp} {s : y_S}
theorem y_nn_b {b : Bool} (h : (y_nn K b s).2 = 0) : b = true := by
  unfold y_nn at h
  have h1 := (y_nd_0 h).1
  have h2 := (y_is_c.mp h1).1
  by_cases c : y_is K 40 s = true
  · rw [if_pos c] at h2
    unfold y_rm at h2
    split at h2
    · assumption
    · exfalso
      unfold y_fl at h2
      split at h2
      · exact absurd h2 (show ¬ (2 : Nat) = 0 by decide)
      · next h3 => exact h3 (y_is_c.mp c).1
  · rw [if_neg c] at h1
    exact absurd h1 c
theorem y_ps_0 (h : (y_ps s).2 = 0) : s.2 = 0 ∧ y_ps s = (s.1 + 1, 0) := by
  have h1 := (y_to.ps (y_to.rf (s := s))).2.1 h
  refine ⟨h1, ?_⟩
  unfold y_ps at h ⊢
  rw [if_pos h1] at h ⊢
  split at h
  · exact absurd h (show ¬ (2 : Nat) = 0 by decide)
  · next h2 => rw [if_neg h2]
/-- what the checker has counted and noted -/
def c_n (V : Nat → Int64) (hs hb : q_Hp) (c : y_T) : Prop := q_Ef [8, 9, 10] hs hb ∧ qI hb 8 3 = nI c.1 ∧ qI hb 8 4 = nI c.2.1 ∧ qI hb 8 5 = nI c.2.2.1 ∧ qI hb 8 6 = nI c.2.2.2.1 ∧ (∀ i, i < c.2.2.1 → qL hb 9 i = V (c.2.2.2.2.1 i)) ∧ (∀ i, i < c.2.2.2.1 → qL hb 10 i = V (c.2.2.2.2.2 i)) ∧ c.1 ≤ 12 ∧ c.2.1 ≤ 12 ∧ c.2.2.1 ≤ 20 ∧ c.2.2.2.1 ≤ 10
theorem q_sI_n {h : q_Hp} {a j b i : Nat} {v : Int32} (hn : ¬ (b = a ∧ i = j)) : qI (q_sI h a j v) b i = qI h b i := if_neg hn
theorem q_sL_n {h : q_Hp} {a j b i : Nat} {v : Int64} (hn : ¬ (b = a ∧ i = j)) : qL (q_sL h a j v) b i = qL h b i := if_neg hn
theorem q_sL_e {h : q_Hp} {a j : Nat} {v : Int64} : qL (q_sL h a j v) a j = v := if_pos ⟨rfl, rfl⟩
theorem q_sI_e {h : q_Hp} {a j : Nat} {v : Int32} : qI (q_sI h a j v) a j = v := if_pos ⟨rfl, rfl⟩
theorem c_n.ef {hs hb : q_Hp} {c : y_T} (C : c_n V hs hb c) : q_Ef [8, 9, 10] hs hb := C.1
theorem c_n.ty {hs hb : q_Hp} {c : y_T} (C : c_n V hs hb c) (h : c.1 < 12) : c_n V hs (q_sI hb 8 3 (qI hb 8 3 + 1)) (c.1 + 1, c.2) := by
  obtain ⟨c1, c2, c3, c4, c5, c6, c7, c8, c9⟩ := C
  refine ⟨c1.trans (q_Ef.sI (by decide)), ?_, c3, c4, c5, c6, c7, h, c9⟩
  show qI hb 8 3 + 1 = _
  rw [c2]
  exact nI_1 _
theorem c_n.so {hs hb : q_Hp} {c : y_T} (C : c_n V hs hb c) (h : c.2.1 < 12) : c_n V hs (q_sI hb 8 4 (qI hb 8 4 + 1)) (c.1, c.2.1 + 1, c.2.2) := by
  obtain ⟨c1, c2, c3, c4, c5, c6, c7, c8, c9, c10⟩ := C
  refine ⟨c1.trans (q_Ef.sI (by decide)), c2, ?_, c4, c5, c6, c7, c8, h, c10⟩
  show qI hb 8 4 + 1 = _
  rw [c3]
  exact nI_1 _
theorem c_n.ru {hs hb : q_Hp} {c : y_T} (C : c_n V hs hb c) (h : c.2.2.1 < 20) (hp : y_ps s = (s.1 + 1, 0)) : c_n V hs (y_nm K V 9 5 20 hb s) (c.1, c.2.1, c.2.2.1 + 1, c.2.2.2.1, un c.2.2.2.2.1 c.2.2.1 (s.1 + 1), c.2.2.2.2.2) := by
  obtain ⟨c1, c2, c3, c4, c5, c6, c7, c8, c9, c10, c11⟩ := C
  unfold y_nm
  rw [c4, nI_clamp (by omega), if_neg (by omega), hp]
  refine ⟨(c1.trans (q_Ef.sL (by decide))).trans (q_Ef.sI (by decide)), c2, c3, nI_1 _, c5, fun i hi => ?_, fun i hi => c7 i hi, c8, c9, h, c11⟩
  show (if 9 = 9 ∧ i = c.2.2.1 then V (s.1 + 1) else qL hb 9 i) = V (un c.2.2.2.2.1 c.2.2.1 (s.1 + 1) i)
  by_cases h9 : i = c.2.2.1
  · rw [if_pos ⟨rfl, h9⟩, h9, un_e]
  · have hi : i < c.2.2.1 + 1 := hi
    rw [if_neg (fun h8 => h9 h8.2), un_n h9]
    exact c6 i (by omega)
theorem c_n.pr {hs hb : q_Hp} {c : y_T} (C : c_n V hs hb c) (h : c.2.2.2.1 < 10) (hp : y_ps s = (s.1 + 1, 0)) : c_n V hs (y_nm K V 10 6 10 hb s) (c.1, c.2.1, c.2.2.1, c.2.2.2.1 + 1, c.2.2.2.2.1, un c.2.2.2.2.2 c.2.2.2.1 (s.1 + 1)) := by
  obtain ⟨c1, c2, c3, c4, c5, c6, c7, c8, c9, c10, c11⟩ := C
  unfold y_nm
  rw [c5, nI_clamp (by omega), if_neg (by omega), hp]
  refine ⟨(c1.trans (q_Ef.sL (by decide))).trans (q_Ef.sI (by decide)), c2, c3, c4, nI_1 _, fun i hi => c6 i hi, fun i hi => ?_, c8, c9, c10, h⟩
  show (if 10 = 10 ∧ i = c.2.2.2.1 then V (s.1 + 1) else qL hb 10 i) = V (un c.2.2.2.2.2 c.2.2.2.1 (s.1 + 1) i)
  by_cases h9 : i = c.2.2.2.1
  · rw [if_pos ⟨rfl, h9⟩, h9, un_e]
  · have hi : i < c.2.2.2.1 + 1 := hi
    rw [if_neg (fun h8 => h9 h8.2), un_n h9]
    exact c7 i (by omega)
theorem y_nm_ef {a j lim : Nat} (ha : a ∈ [8, 9, 10]) : q_Ef [8, 9, 10] h0 (y_nm K V a j lim h0 s) := by
  unfold y_nm
  split
  · exact q_Ef.rf
  · exact (q_Ef.sL ha).trans (q_Ef.sI (by decide))
theorem s161_32 {hs : q_Hp} {Q : Option Value → q_Hp → Prop} : ∀ m t c h0 h s, t + m = 1201 → q_Ef [8, 9, 10] hs h0 → (s.2 = 0 → c_n V hs h0 c) → c_y K P V e h0 h s → (∀ h0 h', q_Ef [8, 9, 10] hs h0 → ((y_tp K m c s).2.2 = 0 → c_n V hs h0 (y_tp K m c s).1) → c_y K P V e h0 h' (y_tp K m c s).2 → Q (some (.int (nI (y_tp K m c s).2.2))) h') → q_wp 26 161 32 [some (.ref 8), some (.int (nI t))] [] h Q := by
  intro m
  induction m with
  | zero =>
    intro t c h0 h s ht E C Y fin
    refine b161_32 (fun _ => b161_126 (Y.1.ok rfl) ?_) (fun c2 => absurd ((nI_ltI (a := 1200) (by decide) (by omega)).mpr (by omega)) c2)
    rw [Y.2.2.2.2.2.2.1]
    exact fin h0 _ E C Y
  | succ m ih =>
    intro t c h0 h s ht E C Y fin
    have done : (y_tp K (m + 1) c s = (c, s)) → q_wp 26 161 126 [some (.ref 8), some (.int (nI t))] [] h Q := by
      intro he
      rw [he] at fin
      refine b161_126 (Y.1.ok rfl) ?_
      rw [Y.2.2.2.2.2.2.1]
      exact fin h0 _ E C Y
    refine b161_32 (fun c2 => ?_) (fun _ => b161_39 (Y.1.ok rfl) (fun c2 => done ?_) (fun c2 => ?_))
    · have := (nI_ltI (a := 1200) (by decide) (by omega)).mp c2
      omega
    · rw [Y.2.2.2.2.2.2.1] at c2
      unfold y_tp
      rw [if_neg (fun h9 => c2 (by rw [h9.1]; rfl))]
    have f2 := Y.2.2.2.2.2.2.2.2
    have s0 : s.2 = 0 := by
      rw [Y.2.2.2.2.2.2.1] at c2
      exact (nI_eq (b := 0) (by omega) (by decide)).mp c2
    have C := C s0
    refine b161_46 (s168 (k := 42) Y (by decide)) (by decide) ?_
    rintro z h2 ⟨e0, rfl⟩
    subst h2
    refine b161_52 (fun c3 => done ?_) (fun c3 => ?_)
    · have := (y_is_c.mp (b2i_ne.mp c3)).2
      unfold y_tp
      rw [if_neg (fun h9 => h9.2 this)]
    have n42 : ¬ K s.1 = 42 := fun h9 => by
      have := b2i_eq.mp c3
      rw [y_is_c.mpr ⟨s0, h9⟩] at this
      cases this
    clear done
    unfold y_tp at fin
    rw [if_pos ⟨s0, n42⟩] at fin
    have again : ∀ c' h0 h' s', q_Ef [8, 9, 10] hs h0 → (s'.2 = 0 → c_n V hs h0 c') → c_y K P V e h0 h' s' → (∀ h0 h', q_Ef [8, 9, 10] hs h0 → ((y_tp K m c' s').2.2 = 0 → c_n V hs h0 (y_tp K m c' s').1) → c_y K P V e h0 h' (y_tp K m c' s').2 → Q (some (.int (nI (y_tp K m c' s').2.2))) h') → q_wp 26 161 120 [some (.ref 8), some (.int (nI t))] [] h' Q := by
      intro c' h0 h' s' E C Y fin
      refine b161_120 ?_
      rw [nI_1]
      exact ih (t + 1) c' h0 h' s' (by omega) E C Y fin
    refine b161_55 (s168 (k := 0) Y (by decide)) (by decide) ?_
    rintro z h2 ⟨e0, rfl⟩
    subst h2
    refine b161_60 (fun d1 => ?_) (fun d1 => ?_)
    rotate_left 1
    · rw [if_pos (b2i_ne.mp d1)] at fin
      refine b161_63 (s173 (nt := c.1) Y (y_is_lt (by decide) (b2i_ne.mp d1)) C.2.1 (by have := C.2.2.2.2.2.2.2.1; omega)) (by decide) ?_
      intro h Y
      refine b161_67 (again _ _ _ _ (E.trans (q_Ef.sI (by decide))) (fun h9 => C.ty ?_) Y fin)
      have t1 : y_to (y_nn K (decide (c.1 < 12)) (y_ps s)) (y_ty K c.1 s) := by
        unfold y_ty
        split
        · exact y_to.rf.ps.nd.nd
        · exact y_to.rf.nd
      exact of_decide_eq_true (y_nn_b (t1.2.1 h9))
    rw [b2i_eq.mp d1, if_neg (by decide)] at fin
    refine b161_70 (s168 (k := 2) Y (by decide)) (by decide) ?_
    rintro z h2 ⟨e0, rfl⟩
    subst h2
    refine b161_75 (fun d2 => ?_) (fun d2 => ?_)
    rotate_left 1
    · rw [if_pos (b2i_ne.mp d2)] at fin
      refine b161_78 (s174 (ns := c.2.1) Y (y_is_lt (by decide) (b2i_ne.mp d2)) C.2.2.1 (by have := C.2.2.2.2.2.2.2.2.1; omega)) (by decide) ?_
      intro h Y
      refine b161_82 (again _ _ _ _ (E.trans (q_Ef.sI (by decide))) (fun h9 => C.so ?_) Y fin)
      have t1 : y_to (y_nn K (decide (c.2.1 < 12)) (y_ps s)) (y_so K c.2.1 s) := y_to.rf.nd.nd.nd.nd.nd
      exact of_decide_eq_true (y_nn_b (t1.2.1 h9))
    rw [b2i_eq.mp d2, if_neg (by decide)] at fin
    refine b161_85 (s168 (k := 3) Y (by decide)) (by decide) ?_
    rintro z h2 ⟨e0, rfl⟩
    subst h2
    refine b161_90 (fun d3 => ?_) (fun d3 => ?_)
    rotate_left 1
    · rw [if_pos (b2i_ne.mp d3)] at fin
      refine b161_93 (s175 (nr := c.2.2.1) Y (y_is_lt (by decide) (b2i_ne.mp d3)) C.2.2.2.1 (by have := C.2.2.2.2.2.2.2.2.2.1; omega)) (by decide) ?_
      intro h Y
      have t1 : y_to (y_nn K (decide (c.2.2.1 < 20)) (y_ps s)) (y_ru K c.2.2.1 s) := (y_to.ds _ _ _ _ (y_to.ts _ _ _ _ (y_to.nt _ _ _ _ (y_to.le _ _ _ _ _ y_to.rf)))).nd
      exact b161_97 (again _ _ _ _ (E.trans (y_nm_ef (by decide))) (fun h9 => C.ru (of_decide_eq_true (y_nn_b (t1.2.1 h9))) (y_ps_0 ((y_to.nn y_to.rf).2.1 (t1.2.1 h9))).2) Y fin)
    rw [b2i_eq.mp d3, if_neg (by decide)] at fin
    refine b161_100 (s168 (k := 4) Y (by decide)) (by decide) ?_
    rintro z h2 ⟨e0, rfl⟩
    subst h2
    refine b161_105 (fun d4 => ?_) (fun d4 => ?_)
    rotate_left 1
    · rw [if_pos (b2i_ne.mp d4)] at fin
      refine b161_108 (s182 (np := c.2.2.2.1) Y (y_is_lt (by decide) (b2i_ne.mp d4)) C.2.2.2.2.1 (by have := C.2.2.2.2.2.2.2.2.2.2; omega)) (by decide) ?_
      intro h Y
      have t1 : y_to (y_nn K (decide (c.2.2.2.1 < 10)) (y_ps s)) (y_pr K c.2.2.2.1 s) := (y_to.ro _ _ _ _ y_to.rf).nd
      exact b161_112 (again _ _ _ _ (E.trans (y_nm_ef (by decide))) (fun h9 => C.pr (of_decide_eq_true (y_nn_b (t1.2.1 h9))) (y_ps_0 ((y_to.nn y_to.rf).2.1 (t1.2.1 h9))).2) Y fin)
    rw [b2i_eq.mp d4, if_neg (by decide)] at fin
    refine b161_115 (s167 (f := 1) Y (by decide)) (by decide) ?_
    intro h Y
    refine again _ _ _ _ E (fun h9 => ?_) Y fin
    exfalso
    unfold y_fl at h9
    rw [if_pos s0] at h9
    exact absurd h9 (show ¬ (1 : Nat) = 0 by decide)
/-- all of the syntax -/
theorem s161 (S : q_Sh h) (C : y_C h K P V e) (O : y_OK K e) : q_mI 26 161 [.ref 8] h (fun z h' => z = nI (y_al K).2.2 ∧ ∃ h0, c_y K P V e h0 h' (y_al K).2 ∧ q_Ef [8, 9, 10] h h0 ∧ ((y_al K).2.2 = 0 → c_n V h h0 (y_al K).1)) := by
  refine q_mI.of (q_recV rfl (S.ok rfl)) (fun Q fin => ?_)
  refine b161_0 (S.ok rfl) ?_
  generalize eh : (q_sI (q_sI (q_sI (q_sI (q_sI (q_sI h 8 3 0) 8 4 0) 8 5 0) 8 6 0) 8 7 0) 8 8 0) = h1
  have E : q_Ef [8] h h1 := by
    rw [← eh]
    exact (((((q_Ef.sI (by decide)).trans (q_Ef.sI (by decide))).trans (q_Ef.sI (by decide))).trans (q_Ef.sI (by decide))).trans (q_Ef.sI (by decide))).trans (q_Ef.sI (by decide))
  have Y : c_y K P V e h1 h1 (0, 0) := ⟨E.sh S, C.ef E (by decide) (by decide) (by decide) (by decide), O, q_Ef.rf, fun j _ _ => rfl, by rw [← eh]; rfl, by rw [← eh]; rfl, Nat.zero_le _, Nat.zero_le _⟩
  refine s161_32 (hs := h) 1201 0 (0, 0, 0, 0, fun _ => 0, fun _ => 0) h1 h1 (0, 0) rfl (E.wide (by decide)) (fun _ => ?_) Y (fun h0 h' a b c => fin _ _ ⟨rfl, h0, c, a, b⟩)
  exact ⟨E.wide (by decide), by rw [← eh]; rfl, by rw [← eh]; rfl, by rw [← eh]; rfl, by rw [← eh]; rfl, fun i hi => absurd hi (Nat.not_lt_zero i), fun i hi => absurd hi (Nat.not_lt_zero i), by decide, by decide, by decide, by decide⟩
theorem s162 (Y : c_y K P V e h0 h s) : q_mI 1 162 [.ref 8] h (fun z h' => h' = h ∧ z = if s.2 = 0 then -1 else nI (P s.1)) := by
  refine q_mI.of (q_recV rfl (Y.1.ok rfl)) (fun Q fin => ?_)
  have f2 := Y.2.2.2.2.2.2.2.2
  refine b162_0 (Y.1.ok rfl) (fun c => ?_) (fun c => ?_)
  · rw [Y.2.2.2.2.2.2.1] at c
    have c89 := s189 Y.1 Y.2.1 Y.2.2.2.2.2.2.2.1
    rw [← Y.2.2.2.2.2.1] at c89
    refine b162_11 (Y.1.ok rfl) (Y.1.ref (v := 3) rfl) c89 (by decide) ?_
    rintro z h2 ⟨e0, rfl⟩
    subst h2
    refine b162_22 (fin _ _ ⟨rfl, ?_⟩)
    rw [if_neg (fun h9 => c (by rw [h9]; rfl))]
  · rw [Y.2.2.2.2.2.2.1] at c
    refine b162_7 (b162_22 (fin _ _ ⟨rfl, ?_⟩))
    rw [if_pos ((nI_eq (b := 0) (by omega) (by decide)).mp c)]
end CY
