/-! THE PARSE OF THE REFERENCE: names that waited, what is taken over, and an empty diagram -/
def p_jn (U : Nat → Int64) (P : Nat → Nat) (nr np i d : Nat) (k : q_Hp) : q_Hp := q_sA (p_fw P i (if qA k 669 d = 3 then p_fi (qL k 677) np (U i) else p_fi (qL k 676) nr (U i)) k) 670 d (q_on (if qA k 669 d = 3 then p_fi (qL k 677) np (U i) else p_fi (qL k 676) nr (U i)))
section PZ
variable {K P X : Nat → Nat} {U : Nat → Int64} {e : Nat} {k0 k : q_Hp} {s : y_S}
theorem p_fi_e {f g : Nat → Int64} {n : Nat} {x : Int64} (h : ∀ i, i < n → f i = g i) : p_fi f n x = p_fi g n x := by
  cases hf : p_fi f n x with
  | none =>
    symm
    rw [p_fi_no] at hf ⊢
    intro i hi
    rw [← h i hi]
    exact hf i hi
  | some j =>
    symm
    obtain ⟨h1, h2, h3⟩ := p_fi_lt hf
    refine (q_fst_some _ _ _).mpr ⟨Nat.zero_le _, by omega, beq_iff_eq.mpr ((h j h1).symm.trans h2), fun i _ hi => beq_false_of_ne ?_⟩
    rw [← h i (by omega)]
    exact h3 i hi
/-- the first among those from j on -/
def p_fj (f : Nat → Int64) (n j : Nat) (x : Int64) : Option Nat := q_fst (fun i => f i == x) j (n - j)
theorem p_fj_n {f : Nat → Int64} {n : Nat} {x : Int64} : p_fj f n n x = none := by
  unfold p_fj
  rw [Nat.sub_self]
  rfl
theorem p_fj_s {f : Nat → Int64} {n j : Nat} {x : Int64} (h : j < n) : p_fj f n j x = if f j = x then some j else p_fj f n (j + 1) x := by
  unfold p_fj
  rw [show n - j = (n - (j + 1)) + 1 by omega]
  by_cases h2 : f j = x
  · rw [if_pos h2, q_fst_s0 (p := fun i => f i == x) (beq_iff_eq.mpr h2)]
  · rw [if_neg h2, q_fst_s1 (p := fun i => f i == x) (beq_eq_false_iff_ne.mpr h2)]
theorem p_fj_0 {f : Nat → Int64} {n : Nat} {x : Int64} : p_fj f n 0 x = p_fi f n x := rfl
theorem s288_27 {Q : Option Value → q_Hp → Prop} {n i j d : Nat} (Y : p_y K P X U e k0 k s) (hi : i ≤ e) (hK : K i = 40) (hn : n ≤ 10) (hj : j < 1300) (ej : qA k 689 j = nI i) (w : ∀ x, q_wp 1 288 110 [some (.ref 630), some (.int (nI j)), some (.int (nI d)), some (.int (q_on (p_fi (qL k 677) n (U i)))), some (.int x)] [] k Q) : ∀ m, m ≤ n → q_wp 1 288 27 [some (.ref 630), some (.int (nI j)), some (.int (nI d)), some (.int (q_on (p_fj (qL k 677) n m (U i)))), some (.int (nI m - 1))] [] k Q := by
  intro m
  induction m with
  | zero =>
    intro _
    exact b288_27 (fun _ => b288_63 (w _)) (fun c => absurd (show (nI 0 - 1 : Int32) < 0 by decide) c)
  | succ m ih =>
    intro hm
    have ih := ih (by omega)
    have e12 := Y.e12
    rw [p_fj_s (by omega)] at ih
    rw [nI_pred]
    refine b288_27 (fun c => absurd c (nI_pos (by omega))) (fun _ => ?_)
    have eb : qL k 636 ((nI i : Int32).toNatClampNeg) = U i := by rw [nI_clamp (by omega)]; exact (Y.tk hi).2.2.2.2.2 hK
    have cj : (nI j : Int32).toNatClampNeg = j := nI_clamp (by omega)
    refine b288_32 (v0 := 677) (v1 := 636) (v2 := 689) (Y.sh.ok rfl) (Y.sh.ref rfl) (Y.sh.ok rfl) (Y.sh.inN (n := 10) rfl (by omega) (by decide)) (Y.sh.ref rfl) (Y.sh.ref rfl) (Y.sh.ok rfl) (Y.sh.inN (n := 1300) rfl hj (by decide)) (Y.sh.ok rfl) (by rw [cj, ej]; exact Y.sh.inN (n := 1203) rfl (by omega) (by decide)) (fun c => ?_) (fun c => ?_)
    · rw [cj, ej, eb, nI_clamp (by omega)] at c
      rw [if_neg (fun h9 => c (lg_0.mpr h9))] at ih
      refine b288_57 ?_
      rw [show nI m + (-1) = nI m - 1 from (Int32.sub_eq_add_neg (nI m) 1).symm]
      exact ih
    · rw [cj, ej, eb, nI_clamp (by omega)] at c
      rw [if_pos (lg_0.mp c)] at ih
      refine b288_54 (b288_57 ?_)
      rw [show nI m + (-1) = nI m - 1 from (Int32.sub_eq_add_neg (nI m) 1).symm]
      exact ih
theorem s288_74 {Q : Option Value → q_Hp → Prop} {n i j d : Nat} (Y : p_y K P X U e k0 k s) (hi : i ≤ e) (hK : K i = 40) (hn : n ≤ 20) (hj : j < 1300) (ej : qA k 689 j = nI i) (w : ∀ x, q_wp 1 288 110 [some (.ref 630), some (.int (nI j)), some (.int (nI d)), some (.int (q_on (p_fi (qL k 676) n (U i)))), some (.int x)] [] k Q) : ∀ m, m ≤ n → q_wp 1 288 74 [some (.ref 630), some (.int (nI j)), some (.int (nI d)), some (.int (q_on (p_fj (qL k 676) n m (U i)))), some (.int (nI m - 1))] [] k Q := by
  intro m
  induction m with
  | zero =>
    intro _
    exact b288_74 (fun _ => w _) (fun c => absurd (show (nI 0 - 1 : Int32) < 0 by decide) c)
  | succ m ih =>
    intro hm
    have ih := ih (by omega)
    have e12 := Y.e12
    rw [p_fj_s (by omega)] at ih
    rw [nI_pred]
    refine b288_74 (fun c => absurd c (nI_pos (by omega))) (fun _ => ?_)
    have eb : qL k 636 ((nI i : Int32).toNatClampNeg) = U i := by rw [nI_clamp (by omega)]; exact (Y.tk hi).2.2.2.2.2 hK
    have cj : (nI j : Int32).toNatClampNeg = j := nI_clamp (by omega)
    refine b288_79 (v0 := 676) (v1 := 636) (v2 := 689) (Y.sh.ok rfl) (Y.sh.ref rfl) (Y.sh.ok rfl) (Y.sh.inN (n := 20) rfl (by omega) (by decide)) (Y.sh.ref rfl) (Y.sh.ref rfl) (Y.sh.ok rfl) (Y.sh.inN (n := 1300) rfl hj (by decide)) (Y.sh.ok rfl) (by rw [cj, ej]; exact Y.sh.inN (n := 1203) rfl (by omega) (by decide)) (fun c => ?_) (fun c => ?_)
    · rw [cj, ej, eb, nI_clamp (by omega)] at c
      rw [if_neg (fun h9 => c (lg_0.mpr h9))] at ih
      refine b288_104 ?_
      rw [show nI m + (-1) = nI m - 1 from (Int32.sub_eq_add_neg (nI m) 1).symm]
      exact ih
    · rw [cj, ej, eb, nI_clamp (by omega)] at c
      rw [if_pos (lg_0.mp c)] at ih
      refine b288_101 (b288_104 ?_)
      rw [show nI m + (-1) = nI m - 1 from (Int32.sub_eq_add_neg (nI m) 1).symm]
      exact ih
theorem s288 {nr np i j d : Nat} (Y : p_y K P X U e k0 k s) (hs : s.2 = 0) (hi : i ≤ e) (hK : K i = 40) (hr : qI k0 630 20 = nI nr) (h20 : nr ≤ 20) (hp : qI k0 630 21 = nI np) (h10 : np ≤ 10) (hj : j < 1300) (e9 : qA k0 689 j = nI i) (e0 : qA k0 690 j = nI d) (hd : d < 2600) : q_mV 1 288 [.ref 630, .int (nI j)] k (fun k' => p_y K P X U e (p_jn U P nr np i d k0) k' s) := by
  refine q_mV.of (q_recV rfl (Y.sh.ok rfl)) (fun Q fin => ?_)
  have e12 := Y.e12
  have cj : (nI j : Int32).toNatClampNeg = j := nI_clamp (by omega)
  have cd : (nI d : Int32).toNatClampNeg = d := nI_clamp (by omega)
  have q0 : qA k 690 j = nI d := by rw [Y.A (by decide)]; exact e0
  have q9 : qA k 689 j = nI i := by rw [Y.A (by decide)]; exact e9
  have er : qI k 630 20 = nI nr := (Y.I rfl).trans hr
  have ep : qI k 630 21 = nI np := (Y.I rfl).trans hp
  have g126 : ∀ k x x4, p_y K P X U e (p_fw P i (if qA k0 669 d = 3 then p_fi (qL k0 677) np (U i) else p_fi (qL k0 676) nr (U i)) k0) k s → x = q_on (if qA k0 669 d = 3 then p_fi (qL k0 677) np (U i) else p_fi (qL k0 676) nr (U i)) → q_wp 1 288 126 [some (.ref 630), some (.int (nI j)), some (.int (nI d)), some (.int x), some (.int x4)] [] k Q := by
    rintro k x x4 Y rfl
    refine b288_126 (v0 := 670) (Y.sh.ok rfl) (Y.sh.ref rfl) (Y.sh.ok rfl) (Y.sh.inN (n := 2600) rfl hd (by decide)) (fin _ ?_)
    rw [cd]
    exact Y.sA rfl
  have lt : ∀ a, (if qA k0 669 d = 3 then p_fi (qL k0 677) np (U i) else p_fi (qL k0 676) nr (U i)) = some a → a < 20 := by
    intro a h
    split at h
    · have := (p_fi_lt h).1; omega
    · have := (p_fi_lt h).1; omega
  have qn := q_on_none lt (by decide)
  have g110 : ∀ x x4, x = q_on (if qA k0 669 d = 3 then p_fi (qL k0 677) np (U i) else p_fi (qL k0 676) nr (U i)) → q_wp 1 288 110 [some (.ref 630), some (.int (nI j)), some (.int (nI d)), some (.int x), some (.int x4)] [] k Q := by
    rintro x x4 rfl
    refine b288_110 (fun c => g126 k _ _ ?_ rfl) (fun c => ?_)
    · unfold p_fw
      rw [if_neg (fun h9 => c (qn.mpr h9))]
      exact Y
    · refine b288_115 (v0 := 689) (Y.sh.ok rfl) (Y.sh.ref rfl) (Y.sh.ok rfl) (Y.sh.inN (n := 1300) rfl hj (by decide)) (m := 0) (P := fun k' => p_y K P X U e (p_wr P 4 i k0) k' s) (by rw [cj, q9]; exact s251 (n := 4) Y hi hs rfl rfl) (by decide) (fun k Y => g126 k _ _ ?_ rfl)
      unfold p_fw
      rw [if_pos (qn.mp c)]
      exact Y
  refine b288_0 (v0 := 690) (v1 := 669) (Y.sh.ok rfl) (Y.sh.ref rfl) (Y.sh.ok rfl) (Y.sh.inN (n := 1300) rfl hj (by decide)) (Y.sh.ref rfl) (Y.sh.ok rfl) (by rw [cj, q0]; exact Y.sh.inN (n := 2600) rfl hd (by decide)) (fun c => ?_) (fun c => ?_)
  · rw [cj, q0, cd, Y.A (by decide)] at c
    rw [cj, q0]
    refine b288_66 (Y.sh.ok rfl) ?_
    rw [er]
    have w0 := s288_74 (Q := Q) (n := nr) (d := d) Y hi hK h20 hj q9 (fun x => g110 _ _ (by rw [if_neg c, Y.L (by decide)])) nr (Nat.le_refl _)
    rw [p_fj_n] at w0
    exact w0
  · rw [cj, q0, cd, Y.A (by decide)] at c
    rw [cj, q0]
    refine b288_19 (Y.sh.ok rfl) ?_
    rw [ep]
    have w0 := s288_27 (Q := Q) (n := np) (d := d) Y hi hK h10 hj q9 (fun x => g110 _ _ (by rw [if_pos c, Y.L (by decide)])) np (Nat.le_refl _)
    rw [p_fj_n] at w0
    exact w0
/-- all names that waited -/
def p_jns (U : Nat → Int64) (P : Nat → Nat) (nr np : Nat) : Nat → Nat → q_Hp → q_Hp
  | 0, _, k => k
  | m + 1, j, k => p_jns U P nr np m (j + 1) (p_jn U P nr np (qA k 689 j : Int32).toNatClampNeg (qA k 690 j : Int32).toNatClampNeg k)
/-- where the names that wait stand, and of what -/
def p_Cl (K : Nat → Nat) (e C : Nat) (k : q_Hp) : Prop := ∀ j, j < C → (∃ i, i ≤ e ∧ K i = 40 ∧ qA k 689 j = nI i) ∧ ∃ d, 1300 ≤ d ∧ d < 2600 ∧ qA k 690 j = nI d
theorem p_jn_A {nr np i d x : Nat} (h : ¬ x = 670) : qA (p_jn U P nr np i d k0) x = qA k0 x := by
  unfold p_jn
  rw [qA_sAn h, p_fw_A]
theorem p_jn_I {nr np i d j : Nat} (h : ¬ j = 15 ∧ ¬ j = 16) : qI (p_jn U P nr np i d k0) 630 j = qI k0 630 j := by
  unfold p_jn
  rw [qI_sA, p_fw_I h]
theorem p_jn_L {nr np i d : Nat} : qL (p_jn U P nr np i d k0) = qL k0 := by
  unfold p_jn
  rw [qL_sA, p_fw_L]
theorem p_fr.jn {kb : q_Hp} {nr np i d : Nat} (F : p_fr kb k0) (h : 1300 ≤ d) : p_fr kb (p_jn U P nr np i d k0) := F.fw.sA rfl h
theorem s260_218 {kb : q_Hp} {Q : Option Value → q_Hp → Prop} {nr np C : Nat} (hs : s.2 = 0) (h20 : nr ≤ 20) (h10 : np ≤ 10) (hC : C < 1300) : ∀ m j k0 k, j + m = C → p_Cl K e C k0 → qI k0 630 84 = nI C → qI k0 630 20 = nI nr → qI k0 630 21 = nI np → p_y K P X U e k0 k s → p_fr kb k0 → (∀ k' x, p_y K P X U e (p_jns U P nr np m j k0) k' s → p_fr kb (p_jns U P nr np m j k0) → q_wp 7 260 237 [some (.ref 630), some (.int x)] [] k' Q) → q_wp 7 260 218 [some (.ref 630), some (.int (nI j))] [] k Q := by
  intro m
  induction m with
  | zero =>
    intro j k0 k hj H h84 hr hp Y F cont
    obtain rfl : j = C := by omega
    refine b260_218 (Y.sh.ok rfl) (fun _ => cont k _ Y F) (fun c => ?_)
    rw [(Y.I rfl).trans h84] at c
    exact absurd (Int32.le_refl _) c
  | succ m ih =>
    intro j k0 k hj H h84 hr hp Y F cont
    refine b260_218 (Y.sh.ok rfl) (fun c => ?_) (fun _ => ?_)
    · rw [(Y.I rfl).trans h84] at c
      have := (nI_leI (by omega) (by omega)).mp c
      omega
    obtain ⟨⟨i, hi, hK, e9⟩, d, hd, hd2, e0⟩ := H j (by omega)
    have ei : (qA k0 689 j : Int32).toNatClampNeg = i := by rw [e9]; exact nI_clamp (by have := Y.e12; omega)
    have ed : (qA k0 690 j : Int32).toNatClampNeg = d := by rw [e0]; exact nI_clamp (by omega)
    unfold p_jns at cont
    rw [ei, ed] at cont
    refine b260_226 (s288 (nr := nr) (np := np) Y hs hi hK hr h20 hp h10 (by omega) e9 e0 hd2) (by decide) (fun k' Y' => b260_231 ?_)
    rw [nI_1]
    refine ih (j + 1) _ k' (by omega) (fun j' hj' => ?_) ((p_jn_I (by decide)).trans h84) ((p_jn_I (by decide)).trans hr) ((p_jn_I (by decide)).trans hp) Y' (F.jn hd) cont
    rw [p_jn_A (by decide), p_jn_A (by decide)]
    exact H j' hj'
end PZ
