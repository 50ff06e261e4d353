/-! THE PARSE OF THE REFERENCE: names looked up, told, and kinds of kinds -/
/-- where among so many a name stands first -/
def p_fi (f : Nat → Int64) (n : Nat) (x : Int64) : Option Nat := q_fst (fun i => f i == x) 0 n
/-- a name that is not there -/
def p_fw (P : Nat → Nat) (i : Nat) (o : Option Nat) (k : q_Hp) : q_Hp := if o = none then p_wr P 4 i k else k
/-- a name that is there already -/
def p_dw (P : Nat → Nat) (i : Nat) (o : Option Nat) (k : q_Hp) : q_Hp := if o = none then k else p_wr P 3 i k
section PF
variable {K P X : Nat → Nat} {U : Nat → Int64} {e : Nat} {k0 k : q_Hp} {s : y_S}
theorem q_fst_s0 {p : Nat → Bool} {i m : Nat} (h : p i = true) : q_fst p i (m + 1) = some i := by
  unfold q_fst
  rw [if_pos h]
theorem q_fst_s1 {p : Nat → Bool} {i m : Nat} (h : p i = false) : q_fst p i (m + 1) = q_fst p (i + 1) m := by
  show (if p i = true then _ else _) = _
  rw [h]
  rfl
theorem s255_2 {n i : Nat} {Q : Option Value → q_Hp → Prop} (Y : p_y K P X U e k0 k s) (hi : i ≤ e) (hK : K i = 40) (hn : qI k0 630 18 = nI n) (hl : n ≤ 12) (yes : ∀ j, p_fi (qL k0 674) n (U i) = some j → Q (some (.int (nI j))) k) (no : p_fi (qL k0 674) n (U i) = none → ∀ x, q_wp 1 255 34 [some (.ref 630), some (.int (nI i)), some (.int x)] [] k Q) : ∀ m j, j + m = n → p_fi (qL k0 674) n (U i) = q_fst (fun x => qL k0 674 x == U i) j m → q_wp 1 255 2 [some (.ref 630), some (.int (nI i)), some (.int (nI j))] [] k Q := by
  have S := Y.sh
  have e12 := Y.e12
  have e1 : qI k 630 18 = nI n := (Y.I rfl).trans hn
  intro m
  induction m with
  | zero =>
    intro j hj hf
    refine b255_2 (S.ok rfl) (fun _ => no hf _) (fun c => ?_)
    rw [e1] at c
    exact absurd ((nI_leI (by omega) (by omega)).mpr (by omega)) c
  | succ m ih =>
    intro j hj hf
    refine b255_2 (S.ok rfl) (fun c => ?_) (fun _ => ?_)
    · rw [e1] at c
      have := (nI_leI (by omega) (by omega)).mp c
      omega
    have ea : qL k 674 ((nI j : Int32).toNatClampNeg) = qL k0 674 j := by rw [nI_clamp (by omega), Y.L (by decide)]
    have eb : qL k 636 ((nI i : Int32).toNatClampNeg) = U i := by rw [nI_clamp (by omega)]; exact (Y.tk hi).2.2.2.2.2 hK
    refine b255_10 (v0 := 674) (v1 := 636) (S.ok rfl) (S.ref rfl) (S.ok rfl) (S.inN (n := 12) rfl (by omega) (by decide)) (S.ref rfl) (S.ok rfl) (S.inN (n := 1203) rfl (by omega) (by decide)) (fun c => ?_) (fun c => ?_)
    · rw [ea, eb] at c
      refine b255_28 ?_
      rw [nI_1]
      refine ih (j + 1) (by omega) (hf.trans (q_fst_s1 ?_))
      exact beq_false_of_ne (fun h9 => c (lg_0.mpr h9))
    · rw [ea, eb] at c
      refine b255_26 (yes j (hf.trans (q_fst_s0 ?_)))
      exact beq_iff_eq.mpr (lg_0.mp c)
theorem s255 {n i : Nat} {v : Int32} (Y : p_y K P X U e k0 k s) (hs : s.2 = 0) (hi : i ≤ e) (hK : K i = 40) (hn : qI k0 630 18 = nI n) (hl : n ≤ 12) (hv : v = nI i) : q_mI 1 255 [.ref 630, .int v] k (fun z k' => z = q_on (p_fi (qL k0 674) n (U i)) ∧ p_y K P X U e (p_fw P i (p_fi (qL k0 674) n (U i)) k0) k' s) := by
  subst hv
  refine q_mI.of (q_recV rfl (Y.sh.ok rfl)) (fun Q fin => ?_)
  refine b255_0 (s255_2 Y hi hK hn hl (fun j h => fin _ _ ⟨?_, ?_⟩) (fun h x => b255_34 (s251 (n := 4) Y hi hs rfl rfl) (by decide) (fun k' Y' => b255_40 (fin _ _ ⟨?_, ?_⟩))) n 0 (by omega) rfl)
  · rw [h]; rfl
  · unfold p_fw
    rw [h, if_neg (fun h9 => by cases h9)]
    exact Y
  · rw [h]; rfl
  · unfold p_fw
    rw [if_pos h]
    exact Y'
theorem s256_2 {n i : Nat} {Q : Option Value → q_Hp → Prop} (Y : p_y K P X U e k0 k s) (hi : i ≤ e) (hK : K i = 40) (hn : qI k0 630 19 = nI n) (hl : n ≤ 12) (yes : ∀ j, p_fi (qL k0 675) n (U i) = some j → Q (some (.int (nI j))) k) (no : p_fi (qL k0 675) n (U i) = none → ∀ x, q_wp 1 256 34 [some (.ref 630), some (.int (nI i)), some (.int x)] [] k Q) : ∀ m j, j + m = n → p_fi (qL k0 675) n (U i) = q_fst (fun x => qL k0 675 x == U i) j m → q_wp 1 256 2 [some (.ref 630), some (.int (nI i)), some (.int (nI j))] [] k Q := by
  have S := Y.sh
  have e12 := Y.e12
  have e1 : qI k 630 19 = nI n := (Y.I rfl).trans hn
  intro m
  induction m with
  | zero =>
    intro j hj hf
    refine b256_2 (S.ok rfl) (fun _ => no hf _) (fun c => ?_)
    rw [e1] at c
    exact absurd ((nI_leI (by omega) (by omega)).mpr (by omega)) c
  | succ m ih =>
    intro j hj hf
    refine b256_2 (S.ok rfl) (fun c => ?_) (fun _ => ?_)
    · rw [e1] at c
      have := (nI_leI (by omega) (by omega)).mp c
      omega
    have ea : qL k 675 ((nI j : Int32).toNatClampNeg) = qL k0 675 j := by rw [nI_clamp (by omega), Y.L (by decide)]
    have eb : qL k 636 ((nI i : Int32).toNatClampNeg) = U i := by rw [nI_clamp (by omega)]; exact (Y.tk hi).2.2.2.2.2 hK
    refine b256_10 (v0 := 675) (v1 := 636) (S.ok rfl) (S.ref rfl) (S.ok rfl) (S.inN (n := 12) rfl (by omega) (by decide)) (S.ref rfl) (S.ok rfl) (S.inN (n := 1203) rfl (by omega) (by decide)) (fun c => ?_) (fun c => ?_)
    · rw [ea, eb] at c
      refine b256_28 ?_
      rw [nI_1]
      refine ih (j + 1) (by omega) (hf.trans (q_fst_s1 ?_))
      exact beq_false_of_ne (fun h9 => c (lg_0.mpr h9))
    · rw [ea, eb] at c
      refine b256_26 (yes j (hf.trans (q_fst_s0 ?_)))
      exact beq_iff_eq.mpr (lg_0.mp c)
theorem s256 {n i : Nat} {v : Int32} (Y : p_y K P X U e k0 k s) (hs : s.2 = 0) (hi : i ≤ e) (hK : K i = 40) (hn : qI k0 630 19 = nI n) (hl : n ≤ 12) (hv : v = nI i) : q_mI 1 256 [.ref 630, .int v] k (fun z k' => z = q_on (p_fi (qL k0 675) n (U i)) ∧ p_y K P X U e (p_fw P i (p_fi (qL k0 675) n (U i)) k0) k' s) := by
  subst hv
  refine q_mI.of (q_recV rfl (Y.sh.ok rfl)) (fun Q fin => ?_)
  refine b256_0 (s256_2 Y hi hK hn hl (fun j h => fin _ _ ⟨?_, ?_⟩) (fun h x => b256_34 (s251 (n := 4) Y hi hs rfl rfl) (by decide) (fun k' Y' => b256_40 (fin _ _ ⟨?_, ?_⟩))) n 0 (by omega) rfl)
  · rw [h]; rfl
  · unfold p_fw
    rw [h, if_neg (fun h9 => by cases h9)]
    exact Y
  · rw [h]; rfl
  · unfold p_fw
    rw [if_pos h]
    exact Y'
theorem s257_2 {n i : Nat} {Q : Option Value → q_Hp → Prop} (Y : p_y K P X U e k0 k s) (hi : i ≤ e) (hK : K i = 40) (hn : qI k0 630 68 = nI n) (hl : n ≤ 40) (yes : ∀ j, p_fi (qL k0 678) n (U i) = some j → Q (some (.int (nI j))) k) (no : p_fi (qL k0 678) n (U i) = none → ∀ x, q_wp 1 257 34 [some (.ref 630), some (.int (nI i)), some (.int x)] [] k Q) : ∀ m j, j + m = n → p_fi (qL k0 678) n (U i) = q_fst (fun x => qL k0 678 x == U i) j m → q_wp 1 257 2 [some (.ref 630), some (.int (nI i)), some (.int (nI j))] [] k Q := by
  have S := Y.sh
  have e12 := Y.e12
  have e1 : qI k 630 68 = nI n := (Y.I rfl).trans hn
  intro m
  induction m with
  | zero =>
    intro j hj hf
    refine b257_2 (S.ok rfl) (fun _ => no hf _) (fun c => ?_)
    rw [e1] at c
    exact absurd ((nI_leI (by omega) (by omega)).mpr (by omega)) c
  | succ m ih =>
    intro j hj hf
    refine b257_2 (S.ok rfl) (fun c => ?_) (fun _ => ?_)
    · rw [e1] at c
      have := (nI_leI (by omega) (by omega)).mp c
      omega
    have ea : qL k 678 ((nI j : Int32).toNatClampNeg) = qL k0 678 j := by rw [nI_clamp (by omega), Y.L (by decide)]
    have eb : qL k 636 ((nI i : Int32).toNatClampNeg) = U i := by rw [nI_clamp (by omega)]; exact (Y.tk hi).2.2.2.2.2 hK
    refine b257_10 (v0 := 678) (v1 := 636) (S.ok rfl) (S.ref rfl) (S.ok rfl) (S.inN (n := 40) rfl (by omega) (by decide)) (S.ref rfl) (S.ok rfl) (S.inN (n := 1203) rfl (by omega) (by decide)) (fun c => ?_) (fun c => ?_)
    · rw [ea, eb] at c
      refine b257_28 ?_
      rw [nI_1]
      refine ih (j + 1) (by omega) (hf.trans (q_fst_s1 ?_))
      exact beq_false_of_ne (fun h9 => c (lg_0.mpr h9))
    · rw [ea, eb] at c
      refine b257_26 (yes j (hf.trans (q_fst_s0 ?_)))
      exact beq_iff_eq.mpr (lg_0.mp c)
theorem s257 {n i : Nat} {v : Int32} (Y : p_y K P X U e k0 k s) (hi : i ≤ e) (hK : K i = 40) (hn : qI k0 630 68 = nI n) (hl : n ≤ 40) (hv : v = nI i) : q_mI 1 257 [.ref 630, .int v] k (fun z k' => k' = k ∧ z = q_on (p_fi (qL k0 678) n (U i))) := by
  subst hv
  refine q_mI.of (q_recV rfl (Y.sh.ok rfl)) (fun Q fin => ?_)
  refine b257_0 (s257_2 Y hi hK hn hl (fun j h => fin _ _ ⟨rfl, ?_⟩) (fun h x => b257_34 (fin _ _ ⟨rfl, ?_⟩)) n 0 (by omega) rfl)
  · rw [h]; rfl
  · rw [h]; rfl
theorem q_on_none {o : Option Nat} {n : Nat} (h : ∀ j, o = some j → j < n) (hn : n < 2 ^ 31) : q_on o = -1 ↔ o = none := by
  cases o with
  | none => exact ⟨fun _ => rfl, fun _ => rfl⟩
  | some j =>
    refine ⟨fun h9 => ?_, fun h9 => by cases h9⟩
    exact absurd h9 (q_on_ne (by have := h j rfl; omega))
theorem p_fi_lt {f : Nat → Int64} {n : Nat} {x : Int64} {j : Nat} (h : p_fi f n x = some j) : j < n ∧ f j = x ∧ ∀ i, i < j → ¬ f i = x := by
  have h1 := (q_fst_some _ _ _).mp h
  exact ⟨by omega, beq_iff_eq.mp h1.2.2.1, fun i hi h9 => by have := h1.2.2.2 i (Nat.zero_le _) hi; rw [h9, beq_self_eq_true] at this; cases this⟩
theorem p_fi_no {f : Nat → Int64} {n : Nat} {x : Int64} : p_fi f n x = none ↔ ∀ i, i < n → ¬ f i = x := by
  unfold p_fi
  rw [q_fst_none]
  constructor
  · intro h i hi h9
    have := h i (Nat.zero_le _) (by omega)
    rw [h9, beq_self_eq_true] at this
    cases this
  · exact fun h i _ hi => beq_false_of_ne (h i (by omega))
/-- a name of the rule's is told -/
def p_tl (P : Nat → Nat) (U : Nat → Int64) (i n : Nat) (kd a ty : Int32) (k : q_Hp) : q_Hp := q_sI (q_sA (q_sA (q_sA (q_sA (q_sL (p_dw P i (p_fi (qL k 678) n (U i)) k) 678 n (U i)) 679 n kd) 680 n a) 681 n ty) 682 n 0) 630 68 (nI (n + 1))
theorem p_dw.I {i : Nat} {o : Option Nat} {j : Nat} (h : ¬ j = 15 ∧ ¬ j = 16) : qI (p_dw P i o k) 630 j = qI k 630 j := by
  unfold p_dw p_wr
  split
  · rfl
  · split
    · show (if 630 = 630 ∧ j = 16 then _ else if 630 = 630 ∧ j = 15 then _ else _) = _
      rw [if_neg (by omega), if_neg (by omega)]
    · rfl
theorem s258 {n i : Nat} {v kd a ty : Int32} (Y : p_y K P X U e k0 k s) (hs : s.2 = 0) (hi : i ≤ e) (hK : K i = 40) (hn : qI k0 630 68 = nI n) (hl : n < 40) (hv : v = nI i) : q_mV 2 258 [.ref 630, .int v, .int kd, .int a, .int ty] k (fun k' => p_y K P X U e (p_tl P U i n kd a ty k0) k' s) := by
  subst hv
  have e12 := Y.e12
  refine q_mV.of (q_recV rfl (Y.sh.ok rfl)) (fun Q fin => ?_)
  refine b258_0 (Y.sh.ok rfl) (fun _ => ?_) (fun c => absurd (Y.z1.mpr hs) c)
  have g23 : ∀ k0' k, p_y K P X U e k0' k s → qI k0' 630 68 = nI n → k0' = p_dw P i (p_fi (qL k0 678) n (U i)) k0 → q_wp 2 258 23 [some (.ref 630), some (.int (nI i)), some (.int kd), some (.int a), some (.int ty)] [] k Q := by
    intro k0' k Y e0 ek
    have e1 : qI k 630 68 = nI n := (Y.I rfl).trans e0
    have i1 : ∀ a, (decide (a ≤ 712) && (q_kd0 a).2 == 40) = true → q_in (qI k 630 68) (qK k a).2 := fun a h => by rw [e1]; exact Y.sh.inN (n := 40) h hl (by decide)
    have eb : qL k 636 ((nI i : Int32).toNatClampNeg) = U i := by rw [nI_clamp (by omega)]; exact (Y.tk hi).2.2.2.2.2 hK
    refine b258_23 (v0 := 678) (v1 := 636) (v2 := 679) (v3 := 680) (v4 := 681) (v5 := 682) (Y.sh.ok rfl) (Y.sh.ref rfl) (Y.sh.ref rfl) (Y.sh.ok rfl) (Y.sh.inN (n := 1203) rfl (by omega) (by decide)) (Y.sh.ok rfl) (i1 _ rfl) (Y.sh.ref rfl) (Y.sh.ok rfl) (i1 _ rfl) (Y.sh.ref rfl) (Y.sh.ok rfl) (i1 _ rfl) (Y.sh.ref rfl) (Y.sh.ok rfl) (i1 _ rfl) (Y.sh.ref rfl) (Y.sh.ok rfl) (i1 _ rfl) (fin _ ?_)
    rw [e1, eb, nI_clamp (by omega), nI_1]
    unfold p_tl
    rw [← ek]
    exact (((((Y.sL rfl).sA rfl).sA rfl).sA rfl).sA rfl).sI rfl
  refine b258_8 (s257 Y hi hK hn (by omega) rfl) (by decide) ?_
  rintro z h2 ⟨e0, rfl⟩
  subst h2
  have qn := q_on_none (o := p_fi (qL k0 678) n (U i)) (n := n) (fun j hj => (p_fi_lt hj).1) (by omega)
  refine b258_13 (fun c => g23 k0 _ Y hn ?_) (fun c => b258_17 (s251 (n := 3) Y hi hs rfl rfl) (by decide) (fun k' Y' => g23 (p_wr P 3 i k0) _ Y' ?_ ?_))
  · unfold p_dw
    rw [if_pos (qn.mp c)]
  · have := p_dw.I (P := P) (k := k0) (i := i) (o := some 0) (j := 68) (by decide)
    exact this.trans hn
  · unfold p_dw
    rw [if_neg (fun h9 => c (qn.mpr h9))]
/-- another type than is due -/
def p_ot (f : Nat → Int32) (nt : Nat) (t w : Int32) : Bool := !(t == -1) && (!(w == -1) && !t_is (fun i => f (12 + i)) nt w 12 t)
theorem s276 {nt : Nat} {w t : Int32} (Y : p_y K P X U e k0 k s) (hE : t_ok (fun i => qA k0 638 (12 + i)) nt) (hnt : nt ≤ 12) (ht : t = -1 ∨ q_rg t nt = true) : q_mI 1 276 [.ref 630, .int t, .int w] k (fun z k' => k' = k ∧ z = b2i (p_ot (qA k0 638) nt t w)) := by
  refine q_mI.of (q_recV rfl (Y.sh.ok rfl)) (fun Q fin => ?_)
  have eA : qA k 638 = qA k0 638 := Y.A (by decide)
  refine b276_0 (fun c => b276_25 (fin _ _ ⟨rfl, ?_⟩)) (fun c => b276_5 (fun c1 => b276_25 (fin _ _ ⟨rfl, ?_⟩)) (fun c1 => b276_10 (s259 (half := 12) Y.sh hnt (by decide) (by rw [eA]; exact hE) ht) (by decide) ?_))
  · unfold p_ot
    rw [c]
    rfl
  · unfold p_ot
    rw [c1]
    rw [beq_self_eq_true, Bool.not_true, Bool.false_and, Bool.and_false]
    rfl
  rintro z h2 ⟨e0, rfl⟩
  subst h2
  rw [eA]
  refine b276_18 (fun c2 => b276_25 (fin _ _ ⟨rfl, ?_⟩)) (fun c2 => b276_21 (fin _ _ ⟨rfl, ?_⟩))
  · unfold p_ot
    rw [b2i_ne.mp c2, Bool.not_true, Bool.and_false, Bool.and_false]
    rfl
  · unfold p_ot
    rw [b2i_eq.mp c2, beq_false_of_ne c, beq_false_of_ne c1]
    rfl
end PF
