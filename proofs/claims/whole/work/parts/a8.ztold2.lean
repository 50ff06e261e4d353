/-! THE TWO READS: types of told nodes, and that each is told once -/
/-- of the class alone -/
def zTj (nt m : Nat) (h : q_Hp) : Prop := (∀ j, j < m → qA h 593 j = 2 ∨ ∃ ty, ty < nt ∧ qA h 595 j = nI ty) ∧ ∀ i j, i < m → j < m → qA h 593 i = 1 → qA h 593 j = 1 → qA h 594 i = qA h 594 j → i = j
def zTy (nt n l : Nat) (h : q_Hp) : Prop := qI h 589 9 = nI (n + l) ∧ zTj nt (n + l) h ∧ ∀ j, j < n + l → qA h 593 j = 1 → ∃ x, x < n ∧ qA h 594 j = nI x
section ZJ
variable {K : Nat → Nat} {V : Nat → Int64} {c o nt ns n l m : Nat} {h h' : q_Hp}
theorem zTj.fr (Z : zTj nt m h) (e : ∀ x j, x = 593 ∨ x = 594 ∨ x = 595 → j < m → qA h' x j = qA h x j) : zTj nt m h' := by
  refine ⟨fun j hj => ?_, fun i j hi hj => ?_⟩
  · rw [e 593 j (by omega) hj, e 595 j (by omega) hj]
    exact Z.1 j hj
  · rw [e 593 i (by omega) hi, e 593 j (by omega) hj, e 594 i (by omega) hi, e 594 j (by omega) hj]
    exact Z.2 i j hi hj
theorem zTj.tl {v : Int64} {kd nu ty : Int32} (Z : zTj nt m h) (h1 : kd = 2 ∨ ∃ t, t < nt ∧ ty = nI t) (h2 : kd = 1 → ∀ j, j < m → qA h 593 j = 1 → ¬ qA h 594 j = nu) : zTj nt (m + 1) (g_tl m v kd nu ty h) := by
  refine ⟨fun j hj => ?_, fun i j hi hj => ?_⟩
  · rw [g_tl_r.2.1, g_tl_r.2.2.2.1]
    by_cases h9 : j = m
    · rw [if_pos h9, if_pos h9]
      exact h1
    · rw [if_neg h9, if_neg h9]
      exact Z.1 j (by omega)
  · rw [g_tl_r.2.1, g_tl_r.2.1, g_tl_r.2.2.1, g_tl_r.2.2.1]
    by_cases q1 : i = m
    · by_cases q2 : j = m
      · exact fun _ _ _ => q1.trans q2.symm
      · rw [if_pos q1, if_neg q2, if_pos q1, if_neg q2]
        exact fun q3 q4 q5 => absurd q5.symm (h2 q3 j (by omega) q4)
    · by_cases q2 : j = m
      · rw [if_neg q1, if_pos q2, if_neg q1, if_pos q2]
        exact fun q3 q4 q5 => absurd q5 (h2 q4 i (by omega) q3)
      · rw [if_neg q1, if_neg q2, if_neg q1, if_neg q2]
        exact Z.2 i j (by omega) (by omega)
theorem g_S.z (S : g_S h h') (z : qI h' 589 15 = 0) : qI h 589 15 = 0 := by
  rcases Classical.em (qI h 589 15 = 0) with h1 | h1
  · exact h1
  · rw [(S h1).1] at z
    exact absurd z h1
theorem g_fa_no {x : Nat} {v : Int32} (hv : ¬ v = 0) : ¬ qI (g_fa v x h) 589 15 = 0 := by
  unfold g_fa
  split
  · rw [q_sI_n (by omega), q_sI_e]
    exact hv
  · next h9 => exact h9
theorem g_fw_no {x : Nat} {w : Option Nat} (z : qI (g_fw x w h) 589 15 = 0) : ∃ j, w = some j := by
  cases w with
  | none =>
    rw [g_fw_0] at z
    exact absurd z (g_fa_no (by decide))
  | some j => exact ⟨j, rfl⟩
theorem zTy_lf (ho : ¬ o = 589) (hO : o ≤ 575) : ∀ m n l (s : y_S) h, n ≤ 4 → l ≤ 6 → zTy nt n l h → (y_le K 4 6 true m n l s).2 = 0 → qI (g_lf K V nt ns o m n l s h) 589 15 = 0 → ∃ n' l', n' ≤ 4 ∧ l' ≤ 6 ∧ zTy nt n' l' (g_lf K V nt ns o m n l s h) := by
  intro m
  induction m with
  | zero => intro n l s h hn hl Z _ _; exact ⟨n, l, hn, hl, Z⟩
  | succ m ih =>
    intro n l s h hn hl Z hz h0
    unfold y_le at hz
    unfold g_lf at h0 ⊢
    by_cases c6 : y_is K 6 s = true
    · rw [if_pos c6] at hz h0 ⊢
      have t1 := y_to.le (K := K) (nr := 4) (lr := 6) (cm := true) m (n + 1) l _ _ (y_to.rf (s := y_no K (decide (n < 4)) s))
      obtain ⟨p1, p2, p3, p4⟩ := y_no_5 (t1.2.1 hz)
      have n4 := of_decide_eq_true p2
      refine ih (n + 1) l _ _ (by omega) hl ?_ hz h0
      have z1 : qI (g_no V nt o n (n + l) s.1 h) 589 15 = 0 := (g_S.lf ho _ _ _ _ _ g_S.rf).z h0
      have z2 : qI (g_n1 V nt (n + l) s.1 h) 589 15 = 0 := by
        unfold g_no at z1
        rw [g_tl_I (by omega), q_sI_n (by omega), qI_sA] at z1
        exact z1
      obtain ⟨j, hj⟩ := g_fw_no z2
      obtain ⟨q1, q2, q3⟩ := Z
      have r : ∀ x, 590 ≤ x → qA (q_sI (q_sA (g_n1 V nt (n + l) s.1 h) (o + 1) n (q_on (p_fi (qL h 590) nt (V (s.1 + 3))))) o 0 (nI (n + 1))) x = qA h x := fun x hx => by
        rw [qA_sI, qA_sAn (by omega), g_n1_A]
      have e1 : n + 1 + l = (n + l) + 1 := by omega
      unfold g_no
      refine ⟨by rw [g_tl_9, e1], ?_, ?_⟩
      · rw [e1]
        refine zTj.tl (q2.fr (fun x j hx _ => by rw [r x (by omega)])) (Or.inr ⟨j, (p_fi_lt hj).1, by rw [hj]; rfl⟩) (fun _ j hj h9 => ?_)
        rw [r 593 (by omega)] at h9
        rw [r 594 (by omega)]
        obtain ⟨x, q4, q5⟩ := q3 j hj h9
        rw [q5]
        intro h8
        have := (nI_eq (by omega) (by omega)).mp h8
        omega
      · intro j hj
        rw [g_tl_r.2.1, g_tl_r.2.2.1, r 593 (by omega), r 594 (by omega)]
        by_cases h9 : j = n + l
        · rw [if_pos h9, if_pos h9]
          exact fun _ => ⟨n, by omega, rfl⟩
        · rw [if_neg h9, if_neg h9]
          intro q6
          obtain ⟨x, q4, q5⟩ := q3 j (by omega) q6
          exact ⟨x, by omega, q5⟩
    rw [if_neg c6] at hz h0 ⊢
    by_cases c7 : y_is K 7 s = true
    · rw [if_pos c7] at hz h0 ⊢
      have t1 := y_to.le (K := K) (nr := 4) (lr := 6) (cm := true) m n (l + 1) _ _ (y_to.rf (s := y_li K (decide (l < 6)) s))
      obtain ⟨p1, p2, _⟩ := y_li_9 (t1.2.1 hz)
      have l6 := of_decide_eq_true p2
      refine ih n (l + 1) _ _ hn (by omega) ?_ hz h0
      obtain ⟨q1, q2, q3⟩ := Z
      have r : ∀ x, 590 ≤ x → qA (q_sI (g_lk o l (q_on (p_fi (qL h 591) ns (V (s.1 + 5)))) (g_nu (g_ft 1 (n + l) (V (s.1 + 3)) h) h) (g_nu (g_ft 1 (n + l) (V (s.1 + 7)) h) h) (g_l1 V ns (n + l) s.1 h)) o 1 (nI (l + 1))) x = qA h x := fun x hx => by
        unfold g_lk
        rw [qA_sI, qA_sAn (by omega), qA_sAn (by omega), qA_sAn (by omega), g_l1_A]
      unfold g_li
      refine ⟨by rw [g_tl_9]; rfl, ?_, ?_⟩
      · exact zTj.tl (q2.fr (fun x j hx _ => by rw [r x (by omega)])) (Or.inl rfl) (fun h9 => absurd h9 (by decide))
      · intro j hj
        rw [g_tl_r.2.1, g_tl_r.2.2.1, r 593 (by omega), r 594 (by omega)]
        by_cases h9 : j = n + l
        · rw [if_pos h9]
          exact fun h8 => absurd h8 (by decide)
        · rw [if_neg h9, if_neg h9]
          exact q3 j (by omega)
    rw [if_neg c7] at hz h0 ⊢
    by_cases c8 : y_is K 8 s = true
    · rw [if_pos ⟨rfl, c8⟩] at hz
      rw [if_pos c8] at h0 ⊢
      refine ih n l _ _ hn hl ?_ hz h0
      obtain ⟨q1, q2, q3⟩ := Z
      exact ⟨(q_sI_n (by omega)).trans q1, q2.fr (fun x j _ _ => by rw [qA_sI]), fun j hj => by rw [qA_sI]; exact q3 j hj⟩
    rw [if_neg c8] at h0 ⊢
    exact ⟨n, l, hn, hl, Z⟩
theorem g_tl_lo {x j : Nat} {v : Int64} {kd nu ty : Int32} (hj : j < m) : qA (g_tl m v kd nu ty h) x j = qA h x j := by
  by_cases h9 : x = 593 ∨ x = 594 ∨ x = 595 ∨ x = 596
  · have hm : ¬ j = m := by omega
    rcases h9 with rfl | rfl | rfl | rfl
    · rw [g_tl_r.2.1, if_neg hm]
    · rw [g_tl_r.2.2.1, if_neg hm]
    · rw [g_tl_r.2.2.2.1, if_neg hm]
    · rw [g_tl_r.2.2.2.2, if_neg hm]
  · rw [g_tl_A (by omega)]
theorem g_nl_r {x k aa : Nat} (hx : 590 ≤ x) (hO : o ≤ 575) : ∀ m n l s h j, j < aa → qA (g_nl K V nt ns o k aa m n l s h) x j = qA h x j := by
  intro m
  induction m with
  | zero => intro n l s h j _; rfl
  | succ m ih =>
    intro n l s h j hj
    unfold g_nl
    split
    · rw [ih _ _ _ _ _ hj]
      unfold g_nn
      rw [g_tl_lo (by omega), qA_sAn (by omega), g_n1_A]
    · split
      · rw [ih _ _ _ _ _ hj]
        unfold g_nk g_lk
        rw [g_tl_lo (by omega), qA_sAn (by omega), qA_sAn (by omega), qA_sAn (by omega), qA_sAn (by omega), g_l1_A]
      · rfl
theorem g_nts_r {x : Nat} (hx : 590 ≤ x) (hO : o ≤ 575) : ∀ f q s h j, j < m → qA (g_nts K V nt ns o m f q s h) x j = qA h x j := by
  intro f
  induction f with
  | zero => intro q s h j _; rfl
  | succ f ih =>
    intro q s h j hj
    unfold g_nts
    split
    · rw [ih _ _ _ _ hj]
      unfold g_nO
      rw [qA_sI, g_nl_r hx hO _ _ _ _ _ _ hj]
      unfold g_n0
      rw [qA_sI, qA_sAn (by omega), qA_sAn (by omega)]
    · rfl
theorem g_te_A {x t a : Nat} (hx : 590 ≤ x) (hO : o ≤ 575) (hc : c = 11 ∨ c = 300) : qA (g_te K V c m o t a h) x = qA h x := by
  unfold g_te
  rw [g_t1_A (by omega) (by omega), qA_sI, qA_sAn (by omega), g_t1_A (by omega) (by omega)]
theorem g_tss_r {x : Nat} (hx : 590 ≤ x) (hO : o ≤ 575) (hc : c = 11 ∨ c = 300) : ∀ f t s h, qA (g_tss K V c o m f t s h) x = qA h x := by
  intro f
  induction f with
  | zero => intro t s h; rfl
  | succ f ih =>
    intro t s h
    unfold g_tss
    split
    · rw [ih, g_te_A hx hO hc]
    · rfl
end ZJ
