/-! THE CLASS'S READ -/
/-- what a read of the class leaves as it is -/
def g_X (c : Nat) (h h' : q_Hp) : Prop := ∀ x, ¬ x = 1 → ¬ x = 3 → ¬ (5 ≤ x ∧ x ≤ 10) → ¬ (589 ≤ x ∧ x ≤ 596) → ¬ (c ≤ x ∧ x < c + 289) → qI h' x = qI h x ∧ qR h' x = qR h x ∧ qA h' x = qA h x ∧ qL h' x = qL h x
theorem g_X.trans {c : Nat} {h h1 h2 : q_Hp} (a : g_X c h h1) (b : g_X c h1 h2) : g_X c h h2 := fun x q1 q2 q3 q4 q5 => by
  obtain ⟨a1, a2, a3, a4⟩ := a x q1 q2 q3 q4 q5
  obtain ⟨b1, b2, b3, b4⟩ := b x q1 q2 q3 q4 q5
  exact ⟨b1.trans a1, b2.trans a2, b3.trans a3, b4.trans a4⟩
theorem g_W.X {c : Nat} {h h1 : q_Hp} (a : g_W c h h1) : g_X c h h1 := fun x _ _ _ q4 q5 => a x q4 q5
theorem q_Ef.X {S : List Nat} {c : Nat} {h h1 : q_Hp} (a : q_Ef S h h1) (hS : ∀ x, x ∈ S → x ∈ [1, 3, 5, 6, 7, 8, 9, 10]) : g_X c h h1 := fun x q1 q2 q3 q4 q5 => by
  have h9 : x ∉ S := fun h9 => by
    have := hS x h9
    simp at this
    omega
  exact ⟨a.I h9, a.R h9, a.A h9, a.L h9⟩
section CR
variable {K P X : Nat → Nat} {V U : Nat → Int64} {e c rF pF : Nat} {h hg k : q_Hp}
/-- both sides behind all that is told -/
theorem z_al (T : zTk K P X V U e) (hc : c = 11 ∨ c = 300) (he12 : e ≤ 1200) (hz : (y_al K).2.2 = 0) (he : (y_al K).2.1 ≤ e) (h9 : ∀ i, i < (y_al K).1.2.2.1 → qL hg 9 i = V ((y_al K).1.2.2.2.2.1 i)) (h10 : ∀ i, i < (y_al K).1.2.2.2.1 → qL hg 10 i = V ((y_al K).1.2.2.2.2.2 i)) (ki : ∀ j, j = 18 ∨ j = 19 ∨ j = 20 ∨ j = 21 ∨ j = 84 ∨ j = 15 → qI k 630 j = 0) (k22 : qI k 630 22 = nI 1300) (k23 : qI k 630 23 = nI 1300) : zKB K P V U e c (qL hg 9) (qL hg 10) rF pF (y_al K).1 (y_al K).2.1 (g_al K V c rF pF hg) (p_tt K P X U 1201 0 0 0 0 (0, 0) k) := by
  have l0 : qL (g_a0 c hg) = qL hg := rfl
  have Z0 : zKB K P V U e c (qL hg 9) (qL hg 10) rF pF (0, 0, 0, 0, (fun _ => 0), (fun _ => 0)) 0 (g_a0 c hg) k := zKB.s0 (by rw [l0]) (by rw [l0]) (fun j hj => g_a0_0 (by omega) hj) (by unfold g_a0; exact q_sI_e) ki k22 k23 _ _
  exact z_tt T hc he12 1201 (0, 0, 0, 0, (fun _ => 0), (fun _ => 0)) (0, 0) _ _ Z0 hz he h9 h10
/-- the fault of the Builder, if there is one -/
theorem z_gf (T : zTk K P X V U e) (hc : c = 11 ∨ c = 300) (he12 : e ≤ 1200) (hz : (y_al K).2.2 = 0) (he : (y_al K).2.1 ≤ e) (h9 : ∀ i, i < (y_al K).1.2.2.1 → qL hg 9 i = V ((y_al K).1.2.2.2.2.1 i)) (h10 : ∀ i, i < (y_al K).1.2.2.2.1 → qL hg 10 i = V ((y_al K).1.2.2.2.2.2 i)) : qI (g_al K V c rF pF hg) 589 15 = 0 ∨ ∃ n i, ¬ n = 0 ∧ n < 10 ∧ i ≤ e ∧ qI (g_al K V c rF pF hg) 589 15 = nI n ∧ qI (g_al K V c rF pF hg) 589 16 = nI i := by
  obtain ⟨k, ki, k22, k23⟩ : ∃ k : q_Hp, (∀ j, j = 18 ∨ j = 19 ∨ j = 20 ∨ j = 21 ∨ j = 84 ∨ j = 15 → qI k 630 j = 0) ∧ qI k 630 22 = nI 1300 ∧ qI k 630 23 = nI 1300 := by
    refine ⟨q_sI (q_sI (q_sI (q_sI (q_sI (q_sI (q_sI (q_sI hg 630 18 0) 630 19 0) 630 20 0) 630 21 0) 630 84 0) 630 15 0) 630 22 (nI 1300)) 630 23 (nI 1300), ?_, ?_, ?_⟩
    · intro j hj
      rw [q_sI_n (by omega), q_sI_n (by omega)]
      by_cases h1 : j = 15
      · rw [h1, q_sI_e]
      rw [q_sI_n (by omega)]
      by_cases h2 : j = 84
      · rw [h2, q_sI_e]
      rw [q_sI_n (by omega)]
      by_cases h3 : j = 21
      · rw [h3, q_sI_e]
      rw [q_sI_n (by omega)]
      by_cases h4 : j = 20
      · rw [h4, q_sI_e]
      rw [q_sI_n (by omega)]
      by_cases h5 : j = 19
      · rw [h5, q_sI_e]
      rw [q_sI_n (by omega), show j = 18 by omega, q_sI_e]
    · rw [q_sI_n (by omega), q_sI_e]
    · rw [q_sI_e]
  rcases z_al (rF := rF) (pF := pF) T hc he12 hz he h9 h10 ki k22 k23 with ⟨Q, D, C, v, Z, _⟩ | ⟨C, D, B⟩
  · exact Or.inl Z.1.1.1
  · obtain ⟨_, n, i, ⟨n1, n2, n3, n4, n5, n6⟩, _⟩ := B
    exact Or.inr ⟨n, i, n1, n2, n4, n5, n6⟩
end CR
