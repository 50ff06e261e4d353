/-! THE BUILDER OF THE CLASS: names told, and what a rule takes up -/
section GB
variable {K Pl : Nat → Nat} {V : Nat → Int64} {e c a : Nat} {h0 h : q_Hp}
theorem s165 {n j : Nat} (S : q_Sh h) (hn : qI h 8 5 = nI n) (h20 : n ≤ 20) (hj : j < n) : q_mJ 0 165 [.ref 8, .int (nI j)] h (fun z h' => h' = h ∧ z = qL h 9 j) := by
  refine q_mJ.of (q_recV rfl (S.ok rfl)) (fun Q fin => ?_)
  refine b165_0 (fun c1 => absurd c1 (nI_pos (by omega))) (fun _ => b165_4 (S.ok rfl) (fun c1 => ?_) (fun _ => b165_12 (fun c1 => ?_) (fun _ => b165_18 (v0 := 9) (S.ok rfl) (S.ref rfl) (S.ok rfl) (S.inN (n := 20) rfl (by omega) (by decide)) (fin _ _ ⟨rfl, by rw [nI_clamp (by omega)]⟩))))
  · rw [hn] at c1
    have := (nI_leI (a := n) (by omega) (by omega)).mp c1
    omega
  · have := (nI_leI (a := 20) (by decide) (by omega)).mp c1
    omega
theorem s166 {n j : Nat} (S : q_Sh h) (hn : qI h 8 6 = nI n) (h10 : n ≤ 10) (hj : j < n) : q_mJ 0 166 [.ref 8, .int (nI j)] h (fun z h' => h' = h ∧ z = qL h 10 j) := by
  refine q_mJ.of (q_recV rfl (S.ok rfl)) (fun Q fin => ?_)
  refine b166_0 (fun c1 => absurd c1 (nI_pos (by omega))) (fun _ => b166_4 (S.ok rfl) (fun c1 => ?_) (fun _ => b166_12 (fun c1 => ?_) (fun _ => b166_18 (v0 := 10) (S.ok rfl) (S.ref rfl) (S.ok rfl) (S.inN (n := 10) rfl (by omega) (by decide)) (fin _ _ ⟨rfl, by rw [nI_clamp (by omega)]⟩))))
  · rw [hn] at c1
    have := (nI_leI (a := n) (by omega) (by omega)).mp c1
    omega
  · have := (nI_leI (a := 10) (by decide) (by omega)).mp c1
    omega
theorem s163 (S : q_Sh h) : q_mI 0 163 [.ref 8] h (fun z h' => h' = h ∧ z = qI h 8 5) := q_mI.of (q_recV rfl (S.ok rfl)) (fun Q fin => b163_0 (S.ok rfl) (fin _ _ ⟨rfl, rfl⟩))
theorem s164 (S : q_Sh h) : q_mI 0 164 [.ref 8] h (fun z h' => h' = h ∧ z = qI h 8 6) := q_mI.of (q_recV rfl (S.ok rfl)) (fun Q fin => b164_0 (S.ok rfl) (fin _ _ ⟨rfl, rfl⟩))
theorem g_fa_2 {n : Int32} (hn : ¬ n = 0) : g_fa n a (g_fa n a h0) = g_fa n a h0 := by
  by_cases h1 : qI h0 589 15 = 0
  · have e1 : g_fa n a h0 = q_sI (q_sI h0 589 15 n) 589 16 (nI a) := if_pos h1
    rw [e1]
    unfold g_fa
    refine if_neg ?_
    rw [q_sI_n (by omega), q_sI_e]
    exact hn
  · have e1 : g_fa n a h0 = h0 := if_neg h1
    rw [e1, e1]
theorem g_dw_y {n : Nat} {f : Nat → Int64} {x : Int64} (h : f n = x) : g_fa 3 a (g_dw a (p_fi f n x) h0) = g_dw a (p_fi f (n + 1) x) h0 := by
  have h1 : ¬ p_fi f (n + 1) x = none := fun h9 => (p_fi_s.mp h9).2 h
  unfold g_dw
  rw [if_neg h1]
  split
  · rfl
  · exact g_fa_2 (by decide)
theorem g_dw_n {n : Nat} {f : Nat → Int64} {x : Int64} (h : ¬ f n = x) : g_dw a (p_fi f n x) h0 = g_dw a (p_fi f (n + 1) x) h0 := by
  unfold g_dw
  by_cases h1 : p_fi f n x = none
  · rw [if_pos h1, if_pos (p_fi_s.mpr ⟨h1, h⟩)]
  · rw [if_neg h1, if_neg (fun h9 => h1 (p_fi_s.mp h9).1)]
/-- the name of a rule or proc, which no rule or proc ahead may have -/
def g_tw (v : Int64) (nr np a : Nat) (h : q_Hp) : q_Hp := g_dw a (p_fi (qL h 10) np v) (g_dw a (p_fi (qL h 9) nr v) h)
theorem s32_14 {n : Nat} {v : Int64} {Q : Option Value → q_Hp → Prop} (hn : qI h0 c 2 = nI n) (hl : n ≤ 20) {nF : Nat} (hF : qI h0 8 5 = nI nF) (hF2 : nF ≤ 20) (hnF : n ≤ nF) (fin : ∀ x h', g_y K Pl V e c (g_dw a (p_fi (qL h0 9) n v) h0) h' a → q_wp 1 32 49 [some (.ref 589), some (.long v), none, some (.int x)] [] h' Q) : ∀ m j h, j + m = n → g_y K Pl V e c (g_dw a (p_fi (qL h0 9) j v) h0) h a → q_wp 1 32 14 [some (.ref 589), some (.long v), none, some (.int (nI j))] [] h Q := by
  intro m
  induction m with
  | zero =>
    intro j h hj Y
    have hc := Y.c2
    obtain rfl : j = n := by omega
    have e1 : qI h c 2 = nI j := by rw [Y.O (by omega), g_dw_I (by omega)]; exact hn
    refine b32_14 (v0 := c) Y.ok Y.bk Y.okB (fun _ => fin _ _ Y) (fun c1 => ?_)
    rw [e1] at c1
    exact absurd (Int32.le_refl _) c1
  | succ m ih =>
    intro j h hj Y
    have hc := Y.c2
    have e1 : qI h c 2 = nI n := by rw [Y.O (by omega), g_dw_I (by omega)]; exact hn
    have e5 : qI h 8 5 = nI nF := by rw [Y.O (by decide), g_dw_I (by omega)]; exact hF
    have el : qL h 9 = qL h0 9 := by rw [Y.L (by decide), g_dw_L]
    refine b32_14 (v0 := c) Y.ok Y.bk Y.okB (fun c1 => ?_) (fun _ => b32_25 (v0 := 8) Y.ok (Y.sh.ref rfl) (s165 Y.sh e5 hF2 (show j < nF by omega)) (by decide) ?_)
    · rw [e1] at c1
      have := (nI_leI (by omega) (by omega)).mp c1
      omega
    rintro z h2 ⟨e0, rfl⟩
    subst h2
    rw [el]
    refine b32_33 (fun c1 => b32_43 ?_) (fun c1 => b32_38 (s26 Y) (by decide) (fun h' Y' => b32_43 ?_))
    · rw [nI_1]
      refine ih (j + 1) _ (by omega) ?_
      rw [← g_dw_n (fun h9 => c1 (lg_0.mpr h9))]
      exact Y
    · rw [nI_1]
      refine ih (j + 1) _ (by omega) ?_
      rw [← g_dw_y (lg_0.mp c1)]
      exact Y'
theorem s32_51 {n : Nat} {v : Int64} {Q : Option Value → q_Hp → Prop} (hn : qI h0 c 3 = nI n) (hl : n ≤ 10) {nF : Nat} (hF : qI h0 8 6 = nI nF) (hF2 : nF ≤ 10) (hnF : n ≤ nF) (fin : ∀ x h', g_y K Pl V e c (g_dw a (p_fi (qL h0 10) n v) h0) h' a → q_wp 1 32 86 [some (.ref 589), some (.long v), none, some (.int x)] [] h' Q) : ∀ m j h, j + m = n → g_y K Pl V e c (g_dw a (p_fi (qL h0 10) j v) h0) h a → q_wp 1 32 51 [some (.ref 589), some (.long v), none, some (.int (nI j))] [] h Q := by
  intro m
  induction m with
  | zero =>
    intro j h hj Y
    have hc := Y.c2
    obtain rfl : j = n := by omega
    have e1 : qI h c 3 = nI j := by rw [Y.O (by omega), g_dw_I (by omega)]; exact hn
    refine b32_51 (v0 := c) Y.ok Y.bk Y.okB (fun _ => fin _ _ Y) (fun c1 => ?_)
    rw [e1] at c1
    exact absurd (Int32.le_refl _) c1
  | succ m ih =>
    intro j h hj Y
    have hc := Y.c2
    have e1 : qI h c 3 = nI n := by rw [Y.O (by omega), g_dw_I (by omega)]; exact hn
    have e5 : qI h 8 6 = nI nF := by rw [Y.O (by decide), g_dw_I (by omega)]; exact hF
    have el : qL h 10 = qL h0 10 := by rw [Y.L (by decide), g_dw_L]
    refine b32_51 (v0 := c) Y.ok Y.bk Y.okB (fun c1 => ?_) (fun _ => b32_62 (v0 := 8) Y.ok (Y.sh.ref rfl) (s166 Y.sh e5 hF2 (show j < nF by omega)) (by decide) ?_)
    · rw [e1] at c1
      have := (nI_leI (by omega) (by omega)).mp c1
      omega
    rintro z h2 ⟨e0, rfl⟩
    subst h2
    rw [el]
    refine b32_70 (fun c1 => b32_80 ?_) (fun c1 => b32_75 (s26 Y) (by decide) (fun h' Y' => b32_80 ?_))
    · rw [nI_1]
      refine ih (j + 1) _ (by omega) ?_
      rw [← g_dw_n (fun h9 => c1 (lg_0.mpr h9))]
      exact Y
    · rw [nI_1]
      refine ih (j + 1) _ (by omega) ?_
      rw [← g_dw_y (lg_0.mp c1)]
      exact Y'
theorem s32 {nr np rF pF : Nat} (Y : g_y K Pl V e c h0 h a) (ha : a < e) (hr : qI h0 c 2 = nI nr) (h20 : nr ≤ 20) (hp : qI h0 c 3 = nI np) (h10 : np ≤ 10) (hrF : qI h0 8 5 = nI rF) (hrF2 : rF ≤ 20) (hr1 : nr ≤ rF) (hpF : qI h0 8 6 = nI pF) (hpF2 : pF ≤ 10) (hp1 : np ≤ pF) : q_mV 1 32 [.ref 589] h (fun h' => g_y K Pl V e c (g_tw (V a) nr np a h0) h' (a + 1)) := by
  refine q_mV.of (q_recV rfl Y.ok) (fun Q fin => ?_)
  have hc := Y.c2
  refine b32_0 (v0 := 3) Y.ok (Y.sh.ref rfl) (by rw [Y.ea]; exact s190 Y.sh Y.C Y.le) (by decide) ?_
  rintro z h2 ⟨e0, rfl⟩
  subst h2
  refine b32_11 (s32_14 hr h20 hrF hrF2 hr1 (fun x h' Y' => b32_49 ?_) nr 0 _ (by omega) Y)
  refine s32_51 (h0 := g_dw a (p_fi (qL h0 9) nr (V a)) h0) (v := V a) (by rw [g_dw_I (by omega)]; exact hp) h10 (by rw [g_dw_I (by omega)]; exact hpF) hpF2 hp1 (fun x h' Y' => b32_86 Y'.ok (fin _ ?_)) np 0 _ (by omega) Y'
  rw [g_dw_L] at Y'
  exact Y'.n1 (by omega)
/-- so many names are told: where a name of these kinds stands first that is not gone -/
def g_ft (kd : Int32) (m : Nat) (v : Int64) (h : q_Hp) : Option Nat := q_fst (fun i => qL h 592 i == v && !((qA h 593 i &&& kd) == 0) && qA h 596 i == 0) 0 m
theorem s34_3 {m : Nat} {v : Int64} {kd : Int32} {Q : Option Value → q_Hp → Prop} (Y : g_y K Pl V e c h0 h a) (hm : qI h0 589 9 = nI m) (h22 : m ≤ 22) (fin : Q (some (.int (q_on (g_ft kd m v h0)))) h) : ∀ r j, j + r = m → g_ft kd m v h0 = q_fst (fun i => qL h0 592 i == v && !((qA h0 593 i &&& kd) == 0) && qA h0 596 i == 0) j r → q_wp 0 34 3 [some (.ref 589), some (.long v), none, some (.int kd), some (.int (nI j))] [] h Q := by
  have e9 : qI h 589 9 = nI m := (Y.I (by decide)).trans hm
  have e2 : qL h 592 = qL h0 592 := Y.L (by decide)
  have e3 : qA h 593 = qA h0 593 := Y.A (by decide)
  have e6 : qA h 596 = qA h0 596 := Y.A (by decide)
  intro r
  induction r with
  | zero =>
    intro j hj hf
    obtain rfl : m = j := by omega
    refine b34_3 Y.ok (fun _ => b34_62 ?_) (fun c1 => ?_)
    · rw [hf] at fin
      exact fin
    · rw [e9] at c1
      exact absurd (Int32.le_refl _) c1
  | succ r ih =>
    intro j hj hf
    have i22 : ∀ {x}, (decide (x ≤ 712) && (q_kd0 x).2 == 22) = true → q_in (nI j) (qK h x).2 := fun h9 => Y.sh.inN (n := 22) h9 (by omega) (by decide)
    have cj : (nI j : Int32).toNatClampNeg = j := nI_clamp (by omega)
    have nx : (qL h0 592 j == v && !((qA h0 593 j &&& kd) == 0) && qA h0 596 j == 0) = false → q_wp 0 34 56 [some (.ref 589), some (.long v), none, some (.int kd), some (.int (nI j))] [] h Q := by
      intro h9
      refine b34_56 ?_
      rw [nI_1]
      exact ih (j + 1) (by omega) (hf.trans (q_fst_s1 h9))
    refine b34_3 Y.ok (fun c1 => ?_) (fun _ => b34_12 (fun c1 => ?_) (fun _ => b34_19 (v0 := 592) Y.ok (Y.sh.ref rfl) (Y.sh.ok rfl) (i22 rfl) (fun c1 => nx ?_) (fun c1 => b34_31 (v0 := 593) Y.ok (Y.sh.ref rfl) (Y.sh.ok rfl) (i22 rfl) (fun c2 => nx ?_) (fun c2 => b34_43 (v0 := 596) Y.ok (Y.sh.ref rfl) (Or.inr (Y.sh.ok rfl)) (i22 rfl) (fun c3 => nx ?_) (fun c3 => b34_53 ?_)))))
    · rw [e9] at c1
      have := (nI_leI (by omega) (by omega)).mp c1
      omega
    · have := (nI_leI (a := 22) (by decide) (by omega)).mp c1
      omega
    · rw [cj, e2] at c1
      rw [beq_eq_false_iff_ne.mpr (fun h9 => c1 (lg_0.mpr h9))]
      rfl
    · rw [cj, e3] at c2
      rw [c2, beq_self_eq_true, Bool.not_true, Bool.and_false, Bool.false_and]
    · rw [cj, e6] at c3
      rw [beq_eq_false_iff_ne.mpr c3, Bool.and_false]
    · rw [cj, e2] at c1
      rw [cj, e3] at c2
      rw [cj, e6] at c3
      have : (qL h0 592 j == v && !((qA h0 593 j &&& kd) == 0) && qA h0 596 j == 0) = true := by
        rw [beq_iff_eq.mpr (lg_0.mp c1), beq_eq_false_iff_ne.mpr c2, c3]
        rfl
      rw [hf, q_fst_s0 (p := fun i => qL h0 592 i == v && !((qA h0 593 i &&& kd) == 0) && qA h0 596 i == 0) this] at fin
      exact fin
theorem s34 {m : Nat} {v : Int64} {kd : Int32} (Y : g_y K Pl V e c h0 h a) (hm : qI h0 589 9 = nI m) (h22 : m ≤ 22) : q_mI 0 34 [.ref 589, .long v, .int kd] h (fun z h' => h' = h ∧ z = q_on (g_ft kd m v h0)) := by
  refine q_mI.of (q_recV rfl Y.ok) (fun Q fin => ?_)
  exact b34_0 (s34_3 Y hm h22 (fin _ _ ⟨rfl, rfl⟩) m 0 (by omega) rfl)
theorem g_ft_lt {kd : Int32} {m j : Nat} {v : Int64} (h9 : g_ft kd m v h0 = some j) : j < m := by
  have := (q_fst_some _ _ _).mp h9
  omega
theorem g_ft_c {kd : Int32} {m : Nat} {v : Int64} {h1 : q_Hp} (e1 : qL h1 592 = qL h0 592) (e2 : qA h1 593 = qA h0 593) (e3 : qA h1 596 = qA h0 596) : g_ft kd m v h1 = g_ft kd m v h0 := by
  unfold g_ft
  rw [e1, e2, e3]
theorem s35 {m : Nat} {kd : Int32} (Y : g_y K Pl V e c h0 h a) (ha : a < e) (hm : qI h0 589 9 = nI m) (h22 : m ≤ 22) : q_mI 1 35 [.ref 589, .int kd] h (fun z h' => z = q_on (g_ft kd m (V a) h0) ∧ g_y K Pl V e c (g_fw a (g_ft kd m (V a) h0) h0) h' (a + 1)) := by
  refine q_mI.of (q_recV rfl Y.ok) (fun Q fin => ?_)
  refine b35_0 (v0 := 3) Y.ok (Y.sh.ref rfl) (by rw [Y.ea]; exact s190 Y.sh Y.C Y.le) (by decide) ?_
  rintro z h2 ⟨e0, rfl⟩
  subst h2
  refine b35_12 (s34 Y hm h22) (by decide) ?_
  rintro z h2 ⟨e0, rfl⟩
  subst h2
  have qn := q_on_none (o := g_ft kd m (V a) h0) (n := 22) (fun j h => by have := g_ft_lt h; omega) (by decide)
  refine b35_16 (fun c1 => b35_27 Y.ok (fin _ _ ⟨rfl, ?_⟩)) (fun c1 => b35_22 (s26 Y) (by decide) (fun h' Y' => b35_27 Y'.ok (fin _ _ ⟨rfl, ?_⟩)))
  · unfold g_fw
    rw [if_neg (fun h9 => c1 (qn.mpr h9))]
    exact Y.n1 (by omega)
  · unfold g_fw
    rw [if_pos (qn.mp c1)]
    exact Y'.n1 (by omega)
/-- the number told of a name, -1 without one -/
def g_vo (f : Nat → Int32) (o : Option Nat) : Int32 := match o with
  | some j => f j
  | none => -1
def g_nu (o : Option Nat) (h : q_Hp) : Int32 := g_vo (qA h 594) o
theorem g_at {o : Option Nat} {f : Nat → Int32} (ho : ∀ j, o = some j → j < 22) : c_at f 22 (q_on o) = g_vo f o := by
  cases o with
  | none => exact c_at_out (by decide)
  | some j => exact c_at_in (ho j rfl) (by decide)
theorem s36 {m : Nat} (Y : g_y K Pl V e c h0 h a) (ha : a < e) (hm : qI h0 589 9 = nI m) (h22 : m ≤ 22) : q_mI 2 36 [.ref 589] h (fun z h' => z = g_nu (g_ft 1 m (V a) h0) h0 ∧ g_y K Pl V e c (g_fw a (g_ft 1 m (V a) h0) h0) h' (a + 1)) := by
  refine q_mI.of (q_recV rfl Y.ok) (fun Q fin => ?_)
  refine b36_0 (v0 := 594) Y.ok (Y.sh.ref rfl) (s35 Y ha hm h22) (by decide) ?_
  rintro z h2 ⟨rfl, Y2⟩
  refine b36_9 (s232 (n := 22) (Y2.sh.ok rfl) (Y2.sh.len rfl) (by decide)) (by decide) ?_
  rintro z h3 ⟨e0, rfl⟩
  subst h3
  refine b36_12 (fin _ _ ⟨?_, Y2⟩)
  rw [g_at (fun j h9 => by have := g_ft_lt h9; omega), Y2.A (by decide), g_fw_A]
  rfl
theorem s37_14 {m : Nat} {v : Int64} {Q : Option Value → q_Hp → Prop} (hm : qI h0 589 9 = nI m) (h22 : m ≤ 22) (fin : ∀ x h', g_y K Pl V e c (g_dw a (p_fi (qL h0 592) m v) h0) h' a → q_wp 1 37 50 [some (.ref 589), some (.long v), none, some (.int x)] [] h' Q) : ∀ r j h, j + r = m → g_y K Pl V e c (g_dw a (p_fi (qL h0 592) j v) h0) h a → q_wp 1 37 14 [some (.ref 589), some (.long v), none, some (.int (nI j))] [] h Q := by
  intro r
  induction r with
  | zero =>
    intro j h hj Y
    obtain rfl : j = m := by omega
    have e1 : qI h 589 9 = nI j := by rw [Y.I (by decide), g_dw_I (by omega)]; exact hm
    refine b37_14 Y.ok (fun _ => fin _ _ Y) (fun c1 => ?_)
    rw [e1] at c1
    exact absurd (Int32.le_refl _) c1
  | succ r ih =>
    intro j h hj Y
    have e1 : qI h 589 9 = nI m := by rw [Y.I (by decide), g_dw_I (by omega)]; exact hm
    have el : qL h 592 = qL h0 592 := by rw [Y.L (by decide), g_dw_L]
    refine b37_14 Y.ok (fun c1 => ?_) (fun _ => b37_22 (fun c1 => ?_) (fun _ => b37_28 (v0 := 592) Y.ok (Y.sh.ref rfl) (Y.sh.ok rfl) (Y.sh.inN (n := 22) rfl (by omega) (by decide)) (fun c1 => b37_44 ?_) (fun c1 => b37_39 (s26 Y) (by decide) (fun h' Y' => b37_44 ?_))))
    · rw [e1] at c1
      have := (nI_leI (by omega) (by omega)).mp c1
      omega
    · have := (nI_leI (a := 22) (by decide) (by omega)).mp c1
      omega
    · rw [nI_clamp (by omega), el] at c1
      rw [nI_1]
      refine ih (j + 1) _ (by omega) ?_
      rw [← g_dw_n (fun h9 => c1 (lg_0.mpr h9))]
      exact Y
    · rw [nI_clamp (by omega), el] at c1
      rw [nI_1]
      refine ih (j + 1) _ (by omega) ?_
      rw [← g_dw_y (lg_0.mp c1)]
      exact Y'
theorem s37 {m : Nat} (Y : g_y K Pl V e c h0 h a) (ha : a < e) (hm : qI h0 589 9 = nI m) (h22 : m ≤ 22) : q_mJ 1 37 [.ref 589] h (fun z h' => z = V a ∧ g_y K Pl V e c (g_dw a (p_fi (qL h0 592) m (V a)) h0) h' (a + 1)) := by
  refine q_mJ.of (q_recV rfl Y.ok) (fun Q fin => ?_)
  refine b37_0 (v0 := 3) Y.ok (Y.sh.ref rfl) (by rw [Y.ea]; exact s190 Y.sh Y.C Y.le) (by decide) ?_
  rintro z h2 ⟨e0, rfl⟩
  subst h2
  exact b37_11 (s37_14 hm h22 (fun x h' Y' => b37_50 Y'.ok (fin _ _ ⟨rfl, Y'.n1 (by omega)⟩)) m 0 _ (by omega) Y)
/-- a name is told -/
def g_tl (m : Nat) (v : Int64) (kd nu ty : Int32) (h : q_Hp) : q_Hp := q_sI (q_sA (q_sA (q_sA (q_sA (q_sL h 592 m v) 593 m kd) 594 m nu) 595 m ty) 596 m 0) 589 9 (nI (m + 1))
theorem s38 {m : Nat} {v : Int64} {kd nu ty : Int32} (Y : g_y K Pl V e c h0 h a) (hm : qI h0 589 9 = nI m) (h22 : m < 22) : q_mV 0 38 [.ref 589, .long v, .int kd, .int nu, .int ty] h (fun h' => g_y K Pl V e c (g_tl m v kd nu ty h0) h' a) := by
  refine q_mV.of (q_recV rfl Y.ok) (fun Q fin => ?_)
  have e1 : qI h 589 9 = nI m := (Y.I (by decide)).trans hm
  have i22 : ∀ {x}, (decide (x ≤ 712) && (q_kd0 x).2 == 22) = true → q_in (qI h 589 9) (qK h x).2 := fun h9 => by rw [e1]; exact Y.sh.inN (n := 22) h9 (by omega) (by decide)
  refine b38_0 Y.ok (fun c1 => ?_) (fun _ => b38_9 (v0 := 592) (v1 := 593) (v2 := 594) (v3 := 595) (v4 := 596) Y.ok (Y.sh.ref rfl) (Y.sh.ok rfl) (i22 rfl) (Y.sh.ref rfl) (Y.sh.ok rfl) (i22 rfl) (Y.sh.ref rfl) (Y.sh.ok rfl) (i22 rfl) (Y.sh.ref rfl) (Y.sh.ok rfl) (i22 rfl) (Y.sh.ref rfl) (Y.sh.ok rfl) (i22 rfl) (b38_71 (fin _ ?_)))
  · rw [e1] at c1
    have := (nI_leI (a := 22) (by decide) (by omega)).mp c1
    omega
  · rw [e1, nI_clamp (by omega), nI_1, show vp_nar .boolean (0 : Int32) = 0 by decide]
    exact (((((Y.sL (by decide)).sA (by decide)).sA (by decide)).sA (by decide)).sA (by decide)).sI (by decide) (by decide)
end GB
