/-! THE PARSE OF THE REFERENCE: what it leaves as it is, and what stays of a name told twice -/
def p_L : List Nat := 630 :: (List.range 53).map (fun i => 638 + i)
theorem p_L_in : ∀ a, a ≤ 690 → (decide (a = 630) || decide (638 ≤ a)) = true → a ∈ p_L := by decide +kernel
/-- where a row's lower half ends, which a read leaves as it is -/
def p_hf (a : Nat) : Nat := if a < 641 then 12 else if a < 644 then 20 else if a < 645 then 80 else if a < 648 then 120 else if a < 649 then 20 else if a < 651 then 40 else if a < 654 then 120 else if a < 655 then 20 else if a < 659 then 80 else if a < 660 then 20 else if a < 666 then 160 else if a < 671 then 1300 else if a < 672 then 3900 else if a < 673 then 1300 else if a < 674 then 10 else 0
def p_ch (j : Nat) : Bool := (decide (11 ≤ j) && decide (j ≤ 16)) || (decide (18 ≤ j) && decide (j ≤ 23)) || decide (j = 68) || decide (j = 75) || decide (j = 77) || decide (j = 78) || decide (j = 80) || decide (j = 84)
def p_fr (k k' : q_Hp) : Prop := q_Ef p_L k k' ∧ (∀ j, p_ch j = false → qI k' 630 j = qI k 630 j) ∧ ∀ a i, i < p_hf a → qA k' a i = qA k a i
theorem p_fr.rf {k : q_Hp} : p_fr k k := ⟨q_Ef.rf, fun _ _ => rfl, fun _ _ _ => rfl⟩
theorem p_fr.trans {k k1 k2 : q_Hp} (a : p_fr k k1) (b : p_fr k1 k2) : p_fr k k2 := ⟨a.1.trans b.1, fun j hj => (b.2.1 j hj).trans (a.2.1 j hj), fun x i hi => (b.2.2 x i hi).trans (a.2.2 x i hi)⟩
theorem p_fr.sA {k k1 : q_Hp} {a i : Nat} {v : Int32} (F : p_fr k k1) (ha : (decide (638 ≤ a) && decide (a ≤ 690)) = true) (hi : p_hf a ≤ i) : p_fr k (q_sA k1 a i v) := by
  rw [Bool.and_eq_true] at ha
  refine F.trans ⟨q_Ef.sA (p_L_in a (of_decide_eq_true ha.2) (by rw [ha.1, Bool.or_true])), fun _ _ => rfl, fun x j hj => ?_⟩
  rw [qA_sA, if_neg]
  rintro ⟨rfl, rfl⟩
  omega
theorem p_fr.sL {k k1 : q_Hp} {a i : Nat} {v : Int64} (F : p_fr k k1) (ha : (decide (638 ≤ a) && decide (a ≤ 690)) = true) : p_fr k (q_sL k1 a i v) := by
  rw [Bool.and_eq_true] at ha
  exact F.trans ⟨q_Ef.sL (p_L_in a (of_decide_eq_true ha.2) (by rw [ha.1, Bool.or_true])), fun _ _ => rfl, fun x j hj => rfl⟩
theorem p_fr.sI {k k1 : q_Hp} {j : Nat} {v : Int32} (F : p_fr k k1) (hj : p_ch j = true) : p_fr k (q_sI k1 630 j v) := by
  refine F.trans ⟨q_Ef.sI (p_L_in 630 (by decide) rfl), fun i hi => ?_, fun _ _ _ => rfl⟩
  show (if 630 = 630 ∧ i = j then v else qI k1 630 i) = _
  rw [if_neg]
  rintro ⟨_, rfl⟩
  rw [hi] at hj
  cases hj
theorem p_fr.ite {k a b : q_Hp} {c : Prop} [Decidable c] (ha : p_fr k a) (hb : p_fr k b) : p_fr k (if c then a else b) := by
  split
  · exact ha
  · exact hb
theorem p_fr.wr {k k1 : q_Hp} {P : Nat → Nat} {n i : Nat} (F : p_fr k k1) : p_fr k (p_wr P n i k1) := by
  unfold p_wr
  split
  · exact (F.sI rfl).sI rfl
  · exact F
theorem p_fr.fw {k k1 : q_Hp} {P : Nat → Nat} {i : Nat} {o : Option Nat} (F : p_fr k k1) : p_fr k (p_fw P i o k1) := by
  unfold p_fw
  split
  · exact F.wr
  · exact F
theorem p_fr.dw {k k1 : q_Hp} {P : Nat → Nat} {i : Nat} {o : Option Nat} (F : p_fr k k1) : p_fr k (p_dw P i o k1) := by
  unfold p_dw
  split
  · exact F
  · exact F.wr
theorem p_fr.op {k k1 : q_Hp} {o : Nat} {s : y_S} (F : p_fr k k1) : p_fr k (p_op k1 o s) := by
  unfold p_op
  split
  · exact F.sI rfl
  · exact F
theorem p_fr.tl {k k1 : q_Hp} {P : Nat → Nat} {U : Nat → Int64} {i n : Nat} {kd a ty : Int32} (F : p_fr k k1) : p_fr k (p_tl P U i n kd a ty k1) := (((((F.dw.sL rfl).sA rfl (Nat.zero_le _)).sA rfl (Nat.zero_le _)).sA rfl (Nat.zero_le _)).sA rfl (Nat.zero_le _)).sI rfl
/-- what a fault of meaning leaves -/
theorem p_wr_I {P : Nat → Nat} {n i j : Nat} {k : q_Hp} (h : ¬ j = 15 ∧ ¬ j = 16) : qI (p_wr P n i k) 630 j = qI k 630 j := by
  unfold p_wr
  split
  · show (if 630 = 630 ∧ j = 16 then _ else if 630 = 630 ∧ j = 15 then _ else _) = _
    rw [if_neg (by omega), if_neg (by omega)]
  · rfl
theorem p_wr_A {P : Nat → Nat} {n i : Nat} {k : q_Hp} : qA (p_wr P n i k) = qA k := by
  unfold p_wr
  split <;> rfl
theorem p_wr_L {P : Nat → Nat} {n i : Nat} {k : q_Hp} : qL (p_wr P n i k) = qL k := by
  unfold p_wr
  split <;> rfl
theorem p_fw_I {P : Nat → Nat} {i j : Nat} {o : Option Nat} {k : q_Hp} (h : ¬ j = 15 ∧ ¬ j = 16) : qI (p_fw P i o k) 630 j = qI k 630 j := by
  unfold p_fw
  split
  · exact p_wr_I h
  · rfl
theorem p_fw_A {P : Nat → Nat} {i : Nat} {o : Option Nat} {k : q_Hp} : qA (p_fw P i o k) = qA k := by
  unfold p_fw
  split
  · exact p_wr_A
  · rfl
theorem p_fw_L {P : Nat → Nat} {i : Nat} {o : Option Nat} {k : q_Hp} : qL (p_fw P i o k) = qL k := by
  unfold p_fw
  split
  · exact p_wr_L
  · rfl
theorem p_dw_A {P : Nat → Nat} {i : Nat} {o : Option Nat} {k : q_Hp} : qA (p_dw P i o k) = qA k := by
  unfold p_dw
  split
  · rfl
  · exact p_wr_A
theorem p_dw_L {P : Nat → Nat} {i : Nat} {o : Option Nat} {k : q_Hp} : qL (p_dw P i o k) = qL k := by
  unfold p_dw
  split
  · rfl
  · exact p_wr_L
theorem p_wr_2 {P : Nat → Nat} {n i : Nat} {k : q_Hp} (hn : ¬ nI n = 0) : p_wr P n i (p_wr P n i k) = p_wr P n i k := by
  by_cases h : qI k 630 15 = 0 ∨ nI (P i) < qI k 630 16 ∨ (nI (P i) = qI k 630 16 ∧ nI n < qI k 630 15)
  · have h1 : p_wr P n i k = q_sI (q_sI k 630 15 (nI n)) 630 16 (nI (P i)) := if_pos h
    rw [h1]
    unfold p_wr
    refine if_neg ?_
    show ¬ (nI n = 0 ∨ nI (P i) < nI (P i) ∨ (nI (P i) = nI (P i) ∧ nI n < nI n))
    rintro (h | h | h)
    · exact hn h
    · exact Int32.lt_irrefl h
    · exact Int32.lt_irrefl h.2
  · have h1 : p_wr P n i k = k := if_neg h
    rw [h1, h1]
theorem p_fi_s {f : Nat → Int64} {n : Nat} {x : Int64} : p_fi f (n + 1) x = none ↔ p_fi f n x = none ∧ ¬ f n = x := by
  rw [p_fi_no, p_fi_no]
  constructor
  · exact fun h => ⟨fun i hi => h i (by omega), h n (by omega)⟩
  · rintro ⟨h1, h2⟩ i hi
    by_cases h3 : i = n
    · rw [h3]; exact h2
    · exact h1 i (by omega)
theorem p_dw_y {P : Nat → Nat} {i n : Nat} {f : Nat → Int64} {x : Int64} {k : q_Hp} (h : f n = x) : p_wr P 3 i (p_dw P i (p_fi f n x) k) = p_dw P i (p_fi f (n + 1) x) k := by
  have h1 : ¬ p_fi f (n + 1) x = none := fun h9 => (p_fi_s.mp h9).2 h
  unfold p_dw
  rw [if_neg h1]
  split
  · rfl
  · exact p_wr_2 (by decide)
theorem p_dw_n {P : Nat → Nat} {i n : Nat} {f : Nat → Int64} {x : Int64} {k : q_Hp} (h : ¬ f n = x) : p_dw P i (p_fi f n x) k = p_dw P i (p_fi f (n + 1) x) k := by
  unfold p_dw
  by_cases h1 : p_fi f n x = none
  · rw [if_pos h1, if_pos (p_fi_s.mpr ⟨h1, h⟩)]
  · rw [if_neg h1, if_neg (fun h9 => h1 (p_fi_s.mp h9).1)]
section PT
variable {K P X : Nat → Nat} {U : Nat → Int64} {e : Nat} {k0 k : q_Hp} {s : y_S}
theorem s262_50 {n i : Nat} {Q : Option Value → q_Hp → Prop} {l2 : Int32} (hs : s.2 = 0) (hi : i ≤ e) (hK : K i = 40) (hl : n ≤ 12) (k0 : q_Hp) (hn : qI k0 630 18 = nI n) (fin : ∀ x k', p_y K P X U e (p_dw P i (p_fi (qL k0 674) n (U i)) k0) k' s → q_wp 3 262 86 [some (.ref 630), some (.int (nI i)), some (.int l2), some (.int x)] [] k' Q) : ∀ m j k, j + m = n → p_y K P X U e (p_dw P i (p_fi (qL k0 674) j (U i)) k0) k s → q_wp 3 262 50 [some (.ref 630), some (.int (nI i)), some (.int l2), some (.int (nI j))] [] k Q := by
  intro m
  induction m with
  | zero =>
    intro j k hj Y
    have e1 : qI k 630 18 = nI n := (Y.I rfl).trans ((p_dw.I (by decide)).trans hn)
    refine b262_50 (Y.sh.ok rfl) (fun _ => fin _ _ ?_) (fun c => ?_)
    · rw [show n = j by omega]
      exact Y
    · rw [e1] at c
      exact absurd ((nI_leI (by omega) (by omega)).mpr (by omega)) c
  | succ m ih =>
    intro j k hj Y
    have S := Y.sh
    have e12 := Y.e12
    have e1 : qI k 630 18 = nI n := (Y.I rfl).trans ((p_dw.I (by decide)).trans hn)
    refine b262_50 (S.ok rfl) (fun c => ?_) (fun _ => ?_)
    · rw [e1] at c
      have := (nI_leI (by omega) (by omega)).mp c
      omega
    have ea : qL k 674 ((nI j : Int32).toNatClampNeg) = qL k0 674 j := by rw [nI_clamp (by omega), Y.L (by decide), p_dw_L]
    have eb : qL k 636 ((nI i : Int32).toNatClampNeg) = U i := by rw [nI_clamp (by omega)]; exact (Y.tk hi).2.2.2.2.2 hK
    refine b262_58 (v0 := 674) (v1 := 636) (S.ok rfl) (S.ref rfl) (S.ok rfl) (S.inN (n := 12) rfl (by omega) (by decide)) (S.ref rfl) (S.ok rfl) (S.inN (n := 1203) rfl (by omega) (by decide)) (fun c => ?_) (fun c => ?_)
    · rw [ea, eb] at c
      refine b262_80 ?_
      rw [nI_1]
      refine ih (j + 1) k (by omega) ?_
      rw [← p_dw_n (fun h9 => c (lg_0.mpr h9))]
      exact Y
    · rw [ea, eb] at c
      refine b262_74 (s251 (n := 3) Y hi hs rfl rfl) (by decide) ?_
      intro k' Y'
      refine b262_80 ?_
      rw [nI_1]
      refine ih (j + 1) k' (by omega) ?_
      rw [← p_dw_y (lg_0.mp c)]
      exact Y'
theorem s263_83 {n i : Nat} {Q : Option Value → q_Hp → Prop} {l2 : Int32} {l3 : Int32} (hs : s.2 = 0) (hi : i ≤ e) (hK : K i = 40) (hl : n ≤ 12) (k0 : q_Hp) (hn : qI k0 630 19 = nI n) (fin : ∀ x k', p_y K P X U e (p_dw P i (p_fi (qL k0 675) n (U i)) k0) k' s → q_wp 3 263 121 [some (.ref 630), some (.int (nI i)), some (.int l2), some (.int l3), some (.int x)] [] k' Q) : ∀ m j k, j + m = n → p_y K P X U e (p_dw P i (p_fi (qL k0 675) j (U i)) k0) k s → q_wp 3 263 83 [some (.ref 630), some (.int (nI i)), some (.int l2), some (.int l3), some (.int (nI j))] [] k Q := by
  intro m
  induction m with
  | zero =>
    intro j k hj Y
    have e1 : qI k 630 19 = nI n := (Y.I rfl).trans ((p_dw.I (by decide)).trans hn)
    refine b263_83 (Y.sh.ok rfl) (fun _ => fin _ _ ?_) (fun c => ?_)
    · rw [show n = j by omega]
      exact Y
    · rw [e1] at c
      exact absurd ((nI_leI (by omega) (by omega)).mpr (by omega)) c
  | succ m ih =>
    intro j k hj Y
    have S := Y.sh
    have e12 := Y.e12
    have e1 : qI k 630 19 = nI n := (Y.I rfl).trans ((p_dw.I (by decide)).trans hn)
    refine b263_83 (S.ok rfl) (fun c => ?_) (fun _ => ?_)
    · rw [e1] at c
      have := (nI_leI (by omega) (by omega)).mp c
      omega
    have ea : qL k 675 ((nI j : Int32).toNatClampNeg) = qL k0 675 j := by rw [nI_clamp (by omega), Y.L (by decide), p_dw_L]
    have eb : qL k 636 ((nI i : Int32).toNatClampNeg) = U i := by rw [nI_clamp (by omega)]; exact (Y.tk hi).2.2.2.2.2 hK
    refine b263_92 (v0 := 675) (v1 := 636) (S.ok rfl) (S.ref rfl) (S.ok rfl) (S.inN (n := 12) rfl (by omega) (by decide)) (S.ref rfl) (S.ok rfl) (S.inN (n := 1203) rfl (by omega) (by decide)) (fun c => ?_) (fun c => ?_)
    · rw [ea, eb] at c
      refine b263_115 ?_
      rw [nI_1]
      refine ih (j + 1) k (by omega) ?_
      rw [← p_dw_n (fun h9 => c (lg_0.mpr h9))]
      exact Y
    · rw [ea, eb] at c
      refine b263_109 (s251 (n := 3) Y hi hs rfl rfl) (by decide) ?_
      intro k' Y'
      refine b263_115 ?_
      rw [nI_1]
      refine ih (j + 1) k' (by omega) ?_
      rw [← p_dw_y (lg_0.mp c)]
      exact Y'
theorem s264_10 {n i : Nat} {Q : Option Value → q_Hp → Prop} (hs : s.2 = 0) (hi : i ≤ e) (hK : K i = 40) (hl : n ≤ 20) (k0 : q_Hp) (hn : qI k0 630 20 = nI n) (fin : ∀ x k', p_y K P X U e (p_dw P i (p_fi (qL k0 676) n (U i)) k0) k' s → q_wp 1 264 46 [some (.ref 630), some (.int (nI i)), some (.int x)] [] k' Q) : ∀ m j k, j + m = n → p_y K P X U e (p_dw P i (p_fi (qL k0 676) j (U i)) k0) k s → q_wp 1 264 10 [some (.ref 630), some (.int (nI i)), some (.int (nI j))] [] k Q := by
  intro m
  induction m with
  | zero =>
    intro j k hj Y
    have e1 : qI k 630 20 = nI n := (Y.I rfl).trans ((p_dw.I (by decide)).trans hn)
    refine b264_10 (Y.sh.ok rfl) (fun _ => fin _ _ ?_) (fun c => ?_)
    · rw [show n = j by omega]
      exact Y
    · rw [e1] at c
      exact absurd ((nI_leI (by omega) (by omega)).mpr (by omega)) c
  | succ m ih =>
    intro j k hj Y
    have S := Y.sh
    have e12 := Y.e12
    have e1 : qI k 630 20 = nI n := (Y.I rfl).trans ((p_dw.I (by decide)).trans hn)
    refine b264_10 (S.ok rfl) (fun c => ?_) (fun _ => ?_)
    · rw [e1] at c
      have := (nI_leI (by omega) (by omega)).mp c
      omega
    have ea : qL k 676 ((nI j : Int32).toNatClampNeg) = qL k0 676 j := by rw [nI_clamp (by omega), Y.L (by decide), p_dw_L]
    have eb : qL k 636 ((nI i : Int32).toNatClampNeg) = U i := by rw [nI_clamp (by omega)]; exact (Y.tk hi).2.2.2.2.2 hK
    refine b264_18 (v0 := 676) (v1 := 636) (S.ok rfl) (S.ref rfl) (S.ok rfl) (S.inN (n := 20) rfl (by omega) (by decide)) (S.ref rfl) (S.ok rfl) (S.inN (n := 1203) rfl (by omega) (by decide)) (fun c => ?_) (fun c => ?_)
    · rw [ea, eb] at c
      refine b264_40 ?_
      rw [nI_1]
      refine ih (j + 1) k (by omega) ?_
      rw [← p_dw_n (fun h9 => c (lg_0.mpr h9))]
      exact Y
    · rw [ea, eb] at c
      refine b264_34 (s251 (n := 3) Y hi hs rfl rfl) (by decide) ?_
      intro k' Y'
      refine b264_40 ?_
      rw [nI_1]
      refine ih (j + 1) k' (by omega) ?_
      rw [← p_dw_y (lg_0.mp c)]
      exact Y'
theorem s264_48 {n i : Nat} {Q : Option Value → q_Hp → Prop} (hs : s.2 = 0) (hi : i ≤ e) (hK : K i = 40) (hl : n ≤ 10) (k0 : q_Hp) (hn : qI k0 630 21 = nI n) (fin : ∀ x k', p_y K P X U e (p_dw P i (p_fi (qL k0 677) n (U i)) k0) k' s → q_wp 1 264 84 [some (.ref 630), some (.int (nI i)), some (.int x)] [] k' Q) : ∀ m j k, j + m = n → p_y K P X U e (p_dw P i (p_fi (qL k0 677) j (U i)) k0) k s → q_wp 1 264 48 [some (.ref 630), some (.int (nI i)), some (.int (nI j))] [] k Q := by
  intro m
  induction m with
  | zero =>
    intro j k hj Y
    have e1 : qI k 630 21 = nI n := (Y.I rfl).trans ((p_dw.I (by decide)).trans hn)
    refine b264_48 (Y.sh.ok rfl) (fun _ => fin _ _ ?_) (fun c => ?_)
    · rw [show n = j by omega]
      exact Y
    · rw [e1] at c
      exact absurd ((nI_leI (by omega) (by omega)).mpr (by omega)) c
  | succ m ih =>
    intro j k hj Y
    have S := Y.sh
    have e12 := Y.e12
    have e1 : qI k 630 21 = nI n := (Y.I rfl).trans ((p_dw.I (by decide)).trans hn)
    refine b264_48 (S.ok rfl) (fun c => ?_) (fun _ => ?_)
    · rw [e1] at c
      have := (nI_leI (by omega) (by omega)).mp c
      omega
    have ea : qL k 677 ((nI j : Int32).toNatClampNeg) = qL k0 677 j := by rw [nI_clamp (by omega), Y.L (by decide), p_dw_L]
    have eb : qL k 636 ((nI i : Int32).toNatClampNeg) = U i := by rw [nI_clamp (by omega)]; exact (Y.tk hi).2.2.2.2.2 hK
    refine b264_56 (v0 := 677) (v1 := 636) (S.ok rfl) (S.ref rfl) (S.ok rfl) (S.inN (n := 10) rfl (by omega) (by decide)) (S.ref rfl) (S.ok rfl) (S.inN (n := 1203) rfl (by omega) (by decide)) (fun c => ?_) (fun c => ?_)
    · rw [ea, eb] at c
      refine b264_78 ?_
      rw [nI_1]
      refine ih (j + 1) k (by omega) ?_
      rw [← p_dw_n (fun h9 => c (lg_0.mpr h9))]
      exact Y
    · rw [ea, eb] at c
      refine b264_72 (s251 (n := 3) Y hi hs rfl rfl) (by decide) ?_
      intro k' Y'
      refine b264_78 ?_
      rw [nI_1]
      refine ih (j + 1) k' (by omega) ?_
      rw [← p_dw_y (lg_0.mp c)]
      exact Y'
/-- names of rules and procs ahead -/
def p_tw (P : Nat → Nat) (U : Nat → Int64) (i nr np : Nat) (k : q_Hp) : q_Hp := p_dw P i (p_fi (qL k 677) np (U i)) (p_dw P i (p_fi (qL k 676) nr (U i)) k)
theorem s264 {nr np i : Nat} {v : Int32} (Y : p_y K P X U e k0 k s) (hs : s.2 = 0) (hi : i ≤ e) (hK : K i = 40) (hr : qI k0 630 20 = nI nr) (h20 : nr ≤ 20) (hp : qI k0 630 21 = nI np) (h10 : np ≤ 10) (hv : v = nI i) : q_mV 1 264 [.ref 630, .int v] k (fun k' => p_y K P X U e (p_tw P U i nr np k0) k' s) := by
  subst hv
  refine q_mV.of (q_recV rfl (Y.sh.ok rfl)) (fun Q fin => ?_)
  refine b264_0 (Y.sh.ok rfl) (fun _ => b264_8 ?_) (fun c => absurd (Y.z1.mpr hs) c)
  refine s264_10 hs hi hK h20 k0 hr (fun x k' Y' => b264_46 ?_) nr 0 k (by omega) Y
  refine s264_48 hs hi hK h10 _ ((p_dw.I (by decide)).trans hp) (fun x k' Y' => b264_84 (fin _ ?_)) np 0 k' (by omega) Y'
  rw [p_dw_L] at Y'
  exact Y'
end PT
