/-! THE TWO READS: all that is told -/
section ZK
variable {K P X : Nat → Nat} {V U : Nat → Int64} {L9 L10 : Nat → Int64} {rF pF : Nat} {e c np nr nt ns C D Q C' D' Q' b a : Nat} {v v' : Nat → Nat → Nat} {h k h' k' : q_Hp} {s : y_S}
/-- names told stay -/
theorem y_tp_n : ∀ m (t : y_T) (s : y_S), (∀ i, i < t.2.2.1 → (y_tp K m t s).1.2.2.2.2.1 i = t.2.2.2.2.1 i) ∧ ∀ i, i < t.2.2.2.1 → (y_tp K m t s).1.2.2.2.2.2 i = t.2.2.2.2.2 i := by
  intro m
  induction m with
  | zero => intro t s; exact ⟨fun _ _ => rfl, fun _ _ => rfl⟩
  | succ m ih =>
    intro t s
    unfold y_tp
    split
    · split
      · exact ih (t.1 + 1, t.2) _
      · split
        · exact ih (t.1, t.2.1 + 1, t.2.2) _
        · split
          · obtain ⟨a1, a2⟩ := ih (t.1, t.2.1, t.2.2.1 + 1, t.2.2.2.1, un t.2.2.2.2.1 t.2.2.1 (s.1 + 1), t.2.2.2.2.2) (y_ru K t.2.2.1 s)
            refine ⟨fun i hi => (a1 i (Nat.lt_succ_of_lt hi)).trans ?_, a2⟩
            show (if i = t.2.2.1 then s.1 + 1 else t.2.2.2.2.1 i) = _
            rw [if_neg (by omega)]
          · split
            · obtain ⟨a1, a2⟩ := ih (t.1, t.2.1, t.2.2.1, t.2.2.2.1 + 1, t.2.2.2.2.1, un t.2.2.2.2.2 t.2.2.2.1 (s.1 + 1)) (y_pr K t.2.2.2.1 s)
              refine ⟨a1, fun i hi => (a2 i (Nat.lt_succ_of_lt hi)).trans ?_⟩
              show (if i = t.2.2.2.1 then s.1 + 1 else t.2.2.2.2.2 i) = _
              rw [if_neg (by omega)]
            · exact ih t _
    · exact ⟨fun _ _ => rfl, fun _ _ => rfl⟩
/-- a proc that is told behind a fault -/
theorem zBr.pr (M : zPm P e) (hc : c = 11 ∨ c = 300) (he12 : e ≤ 1200) (B : zBr K P V L9 L10 rF pF e s.1 C D h k) (hz : (y_pr K np s).2 = 0) (he : (y_pr K np s).1 ≤ e) : ∃ C' D', zBr K P V L9 L10 rF pF e (y_pr K np s).1 C' D' (g_pc K V c rF pF nr np s.1 h) (p_pr K P X U nr np s k) := by
  have hcn : ¬ c = 589 := by omega
  obtain ⟨p1, p2, p3, p4, p5⟩ := y_pr_p hz
  rw [p4] at he ⊢
  have he : (y_ro K 1202 0 (s.1 + 2, 0)).1 + 1 ≤ e := he
  show ∃ C' D', zBr K P V L9 L10 rF pF e ((y_ro K 1202 0 (s.1 + 2, 0)).1 + 1) C' D' _ _
  unfold g_pc p_pr p_pr1
  have L0 : p_LW P s.1 k (p_pr0 P U nr np s k) := (((p_LW.rf.tw (b := s.1 + 1) (by omega)).sA).sI (by decide) (by decide)).sA
  have tI : ∀ j, ¬ j = 80 ∧ ¬ j = 15 ∧ ¬ j = 16 → qI (p_pr0 P U nr np s k) 630 j = qI k 630 j := fun j hj => by
    unfold p_pr0
    rw [qI_sA, q_sI_n (by omega), qI_sA, p_tw_I ⟨hj.2.1, hj.2.2⟩]
  have tA : ∀ y, ¬ y = 673 ∧ ¬ y = 688 → qA (p_pr0 P U nr np s k) y = qA k y := fun y hy => by
    unfold p_pr0
    rw [qA_sAn hy.2, qA_sI, qA_sAn hy.1, p_tw_A]
  have B0 : zBr K P V L9 L10 rF pF e (s.1 + 2) C D (g_tw (V (s.1 + 1)) nr np (s.1 + 1) h) (p_pr0 P U nr np s k) := B.gn M hcn (g_S.rf.dw.dw) (tI _ (by decide)) (tI _ (by decide)) (fun y hy => tA y (by omega)) L0 (by omega)
  obtain ⟨C', D', B1⟩ := zBr.ro (X := X) (p := (-1, -1)) hcn M he12 B0 (show s.1 + 2 ≤ ((s.1 + 2, 0) : y_S).1 from Nat.le_refl _) p3 (by omega)
  exact ⟨C', D', B1.gn M hcn ((g_S.rf.sA).sI (by omega)) (by rw [q_sI_n (by omega), qI_sL]) (by rw [q_sI_n (by omega), qI_sL]) (fun y hy => by rw [qA_sI, qA_sL]) ((p_LW.rf.sL).sI (by decide) (by decide)) (Nat.le_succ _)⟩
/-- what is there between two tells, with a fault or without -/
def zKB (K P : Nat → Nat) (V U : Nat → Int64) (e c : Nat) (L9 L10 : Nat → Int64) (rF pF : Nat) (t : y_T) (a : Nat) (h k : q_Hp) : Prop := (∃ Q D C v, zK K V U e c L9 L10 rF pF t.1 t.2.1 t.2.2.1 t.2.2.2.1 Q D C v h k ∧ Q ≤ a ∧ D ≤ a ∧ C ≤ a) ∨ ∃ C D, zBr K P V L9 L10 rF pF e a C D h k
theorem z_tt (T : zTk K P X V U e) (hc : c = 11 ∨ c = 300) (he12 : e ≤ 1200) : ∀ m (t : y_T) (s : y_S) h k, zKB K P V U e c L9 L10 rF pF t s.1 h k → (y_tp K m t s).2.2 = 0 → (y_tp K m t s).2.1 ≤ e → (∀ i, i < (y_tp K m t s).1.2.2.1 → L9 i = V ((y_tp K m t s).1.2.2.2.2.1 i)) → (∀ i, i < (y_tp K m t s).1.2.2.2.1 → L10 i = V ((y_tp K m t s).1.2.2.2.2.2 i)) → zKB K P V U e c L9 L10 rF pF (y_tp K m t s).1 (y_tp K m t s).2.1 (g_tt K V c rF pF m t.1 t.2.1 t.2.2.1 t.2.2.2.1 s h) (p_tt K P X U m t.1 t.2.1 t.2.2.1 t.2.2.2.1 s k) := by
  have hcn : ¬ c = 589 := by omega
  have M := T.M
  intro m
  induction m with
  | zero => intro t s h k Z _ _ _ _; exact Z
  | succ m ih =>
    intro t s h k Z hz he hn9 hn10
    have s0 := y_tp_z hz
    unfold y_tp at hz he hn9 hn10 ⊢
    unfold g_tt p_tt
    by_cases h42 : K s.1 = 42
    · have ni : ∀ x, ¬ x = 42 → ¬ y_is K x s = true := fun x hx q => hx ((y_is_c.mp q).2.symm.trans h42)
      rw [if_neg (fun q => q.2 h42), if_neg (ni 0 (by decide)), if_neg (ni 2 (by decide)), if_neg (ni 3 (by decide)), if_neg (ni 4 (by decide)), if_neg (ni 0 (by decide)), if_neg (ni 2 (by decide)), if_neg (ni 3 (by decide)), if_neg (ni 4 (by decide))]
      exact Z
    rw [if_pos ⟨s0, h42⟩] at hz he hn9 hn10 ⊢
    by_cases c0 : y_is K 0 s = true
    · rw [if_pos c0] at hz he hn9 hn10 ⊢
      rw [if_pos c0, if_pos c0]
      have z1 := y_tp_z hz
      have l1 := (y_tp_m (K := K) m (t.1 + 1, t.2) (y_ty K t.1 s)).2.2
      have l2 := (y_to.rf (s := s)).ty (K := K) (n := t.1) |>.1
      refine ih (t.1 + 1, t.2) _ _ _ ?_ hz he hn9 hn10
      rcases Z with ⟨Q, D, C, v, Z, q1, q2, q3⟩ | ⟨C, D, B⟩
      · rcases z_kty T hc Z s0 z1 (Nat.le_trans l1 he) q3 q2 with Z2 | B
        · exact Or.inl ⟨Q, D, C, v, Z2, by omega, by omega, by omega⟩
        · exact Or.inr ⟨C, D, B⟩
      · exact Or.inr ⟨C, D, B.gn M hcn (g_S.rf.ty hcn) (p_ty_I (by decide)) (p_ty_I (by decide)) (fun y hy => p_ty_A (by omega)) (p_LW.rf.ty (Nat.le_refl _)) l2⟩
    rw [if_neg c0] at hz he hn9 hn10 ⊢
    rw [if_neg c0, if_neg c0]
    by_cases c2 : y_is K 2 s = true
    · rw [if_pos c2] at hz he hn9 hn10 ⊢
      rw [if_pos c2, if_pos c2]
      have z1 := y_tp_z hz
      have l1 := (y_tp_m (K := K) m (t.1, t.2.1 + 1, t.2.2) (y_so K t.2.1 s)).2.2
      have l2 := (y_to.rf (s := s)).so (K := K) (n := t.2.1) |>.1
      refine ih (t.1, t.2.1 + 1, t.2.2) _ _ _ ?_ hz he hn9 hn10
      rcases Z with ⟨Q, D, C, v, Z, q1, q2, q3⟩ | ⟨C, D, B⟩
      · rcases z_kso T hc Z z1 (Nat.le_trans l1 he) q3 q2 with Z2 | B
        · exact Or.inl ⟨Q, D, C, v, Z2, by omega, by omega, by omega⟩
        · exact Or.inr ⟨C, D, B⟩
      · exact Or.inr ⟨C, D, B.gn M hcn (g_S.rf.so hcn) (p_so_I (by decide)) (p_so_I (by decide)) (fun y hy => p_so_A (by omega)) (p_LW.rf.so (Nat.le_refl _)) l2⟩
    rw [if_neg c2] at hz he hn9 hn10 ⊢
    rw [if_neg c2, if_neg c2]
    by_cases c3 : y_is K 3 s = true
    · rw [if_pos c3] at hz he hn9 hn10 ⊢
      rw [if_pos c3, if_pos c3]
      have z1 := y_tp_z hz
      have mm := y_tp_m (K := K) m (t.1, t.2.1, t.2.2.1 + 1, t.2.2.2.1, un t.2.2.2.2.1 t.2.2.1 (s.1 + 1), t.2.2.2.2.2) (y_ru K t.2.2.1 s)
      have l1 := mm.2.2
      have l2 := (y_to.rf (s := s)).ru (K := K) (n := t.2.2.1) |>.1
      have nn := (y_tp_n (K := K) m (t.1, t.2.1, t.2.2.1 + 1, t.2.2.2.1, un t.2.2.2.2.1 t.2.2.1 (s.1 + 1), t.2.2.2.2.2) (y_ru K t.2.2.1 s)).1 t.2.2.1 (Nat.lt_succ_self _)
      have hL : L9 t.2.2.1 = V (s.1 + 1) := by
        rw [hn9 t.2.2.1 (Nat.lt_of_lt_of_le (Nat.lt_succ_self _) mm.1), nn]
        show V (if t.2.2.1 = t.2.2.1 then s.1 + 1 else _) = _
        rw [if_pos rfl]
      refine ih (t.1, t.2.1, t.2.2.1 + 1, t.2.2.2.1, un t.2.2.2.2.1 t.2.2.1 (s.1 + 1), t.2.2.2.2.2) _ _ _ ?_ hz he hn9 hn10
      rcases Z with ⟨Q, D, C, v, Z, q1, q2, q3⟩ | ⟨C, D, B⟩
      · rcases z_kru T hc he12 Z s0 z1 (Nat.le_trans l1 he) q3 q2 q1 hL with ⟨Q', q4, Z2⟩ | B
        · exact Or.inl ⟨Q', D, C, v, Z2, q4, by omega, by omega⟩
        · exact Or.inr ⟨C, D, B⟩
      · have es : s = (s.1, 0) := Prod.ext rfl s0
        obtain ⟨p1, _⟩ := y_ru_p (show (y_ru K t.2.2.1 (s.1, 0)).2 = 0 by rw [← es]; exact z1)
        have hO := g_ro.in hc p1
        have hne := hO.ne
        exact Or.inr ⟨C, D, B.gn M hcn (g_S.rf.ru hcn (by omega)) (p_ru_I (by decide)) (p_ru_I (by decide)) (fun y hy => p_ru_A (by omega)) (p_LW.rf.ru (Nat.le_refl _)) l2⟩
    rw [if_neg c3] at hz he hn9 hn10 ⊢
    rw [if_neg c3, if_neg c3]
    by_cases c4 : y_is K 4 s = true
    · rw [if_pos c4] at hz he hn9 hn10 ⊢
      rw [if_pos c4, if_pos c4]
      have z1 := y_tp_z hz
      have mm := y_tp_m (K := K) m (t.1, t.2.1, t.2.2.1, t.2.2.2.1 + 1, t.2.2.2.2.1, un t.2.2.2.2.2 t.2.2.2.1 (s.1 + 1)) (y_pr K t.2.2.2.1 s)
      have l1 := mm.2.2
      have l2 := (y_to.rf (s := s)).pr (K := K) (n := t.2.2.2.1) |>.1
      have nn := (y_tp_n (K := K) m (t.1, t.2.1, t.2.2.1, t.2.2.2.1 + 1, t.2.2.2.2.1, un t.2.2.2.2.2 t.2.2.2.1 (s.1 + 1)) (y_pr K t.2.2.2.1 s)).2 t.2.2.2.1 (Nat.lt_succ_self _)
      have hL : L10 t.2.2.2.1 = V (s.1 + 1) := by
        rw [hn10 t.2.2.2.1 (Nat.lt_of_lt_of_le (Nat.lt_succ_self _) mm.2.1), nn]
        show V (if t.2.2.2.1 = t.2.2.2.1 then s.1 + 1 else _) = _
        rw [if_pos rfl]
      refine ih (t.1, t.2.1, t.2.2.1, t.2.2.2.1 + 1, t.2.2.2.2.1, un t.2.2.2.2.2 t.2.2.2.1 (s.1 + 1)) _ _ _ ?_ hz he hn9 hn10
      rcases Z with ⟨Q, D, C, v, Z, q1, q2, q3⟩ | ⟨C, D, B⟩
      · rcases z_kpr (X := X) T hc he12 Z z1 (Nat.le_trans l1 he) q3 q2 hL with ⟨C', D', v', r1, r2, Z2⟩ | B
        · exact Or.inl ⟨Q, D', C', v', Z2, by omega, r1, r2⟩
        · exact Or.inr B
      · exact Or.inr (B.pr (X := X) M hc he12 z1 (Nat.le_trans l1 he))
    · exfalso
      rw [if_neg c4] at hz
      have := y_tp_z hz
      unfold y_fl at this
      rw [if_pos s0] at this
      exact absurd this (show ¬ (1 : Nat) = 0 by decide)
/-- the start -/
theorem zKB.s0 (h9 : qL h 9 = L9) (h10 : qL h 10 = L10) (hi : ∀ j, j < 6 → qI h c j = 0) (h15 : qI h 589 15 = 0) (ki : ∀ j, j = 18 ∨ j = 19 ∨ j = 20 ∨ j = 21 ∨ j = 84 ∨ j = 15 → qI k 630 j = 0) (k22 : qI k 630 22 = nI 1300) (k23 : qI k 630 23 = nI 1300) (f9 f10 : Nat → Nat) : zKB K P V U e c L9 L10 rF pF (0, 0, 0, 0, f9, f10) 0 h k := by
  left
  have no : ∀ (p : Nat → Prop), (∀ j, j < 0 → p j) := fun p j hj => absurd hj (Nat.not_lt_zero j)
  show ∃ Q D C v, zK K V U e c L9 L10 rF pF 0 0 0 0 Q D C v h k ∧ Q ≤ 0 ∧ D ≤ 0 ∧ C ≤ 0
  exact ⟨0, 0, 0, fun _ _ => 0, ⟨⟨⟨h15, ki 15 (by omega)⟩, h9, h10⟩, ⟨by decide, by decide, hi 0 (by decide), ki 18 (by omega), hi 1 (by decide), ki 19 (by omega), no _, no _, no _, no _⟩, ⟨hi 4 (by decide), k22, no _⟩, ⟨by decide, hi 2 (by decide), ki 20 (by omega), no _, no _⟩, ⟨by decide, hi 3 (by decide), ki 21 (by omega), no _, no _⟩, hi 5 (by decide), k23, ki 84 (by omega), no _, no _, no _⟩, Nat.le_refl _, Nat.le_refl _, Nat.le_refl _⟩
end ZK
