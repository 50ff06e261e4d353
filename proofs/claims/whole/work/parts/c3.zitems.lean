/-! THE TWO READS: calls, and what fails -/
section ZI
variable {K P X : Nat → Nat} {V : Nat → Int64} {L9 L10 : Nat → Int64} {rF pF : Nat} {e c np D0 d HR HI f g C D C' D' a : Nat} {v v1 v' : Nat → Nat → Nat} {h k h' k' h1 k1 : q_Hp} {s : y_S}
/-- a new do, in the reference and in the class -/
theorem p_nD_r {w : Int32} (hD : qI k 630 23 = nI (1300 + D)) (h2 : D < 2 ^ 28) : (∀ i, qA (p_nD w k) 669 i = if i = 1300 + D then w else qA k 669 i) ∧ (∀ i, qA (p_nD w k) 670 i = if i = 1300 + D then 0 else qA k 670 i) ∧ (∀ i, qA (p_nD w k) 672 i = if i = 1300 + D then -1 else qA k 672 i) ∧ ∀ i, qA (p_nD w k) 671 i = if 3 * (1300 + D) ≤ i ∧ i < 3 * (1300 + D) + 3 then -1 else qA k 671 i := by
  have cl : (qI k 630 23 : Int32).toNatClampNeg = 1300 + D := by rw [hD, nI_clamp (by omega)]
  unfold p_nD
  rw [cl]
  refine ⟨fun i => ?_, fun i => ?_, fun i => ?_, fun i => ?_⟩
  · rw [qA_sAn (by decide), qA_sAn (by decide), qA_sAn (by decide), qA_sAn (by decide), qA_sAn (by decide)]
    by_cases h9 : i = 1300 + D
    · rw [h9, qA_sAe, if_pos rfl]
    · rw [qA_sAp (by omega), if_neg h9, qA_sI]
  · rw [qA_sAn (by decide), qA_sAn (by decide), qA_sAn (by decide), qA_sAn (by decide)]
    by_cases h9 : i = 1300 + D
    · rw [h9, qA_sAe, if_pos rfl]
    · rw [qA_sAp (by omega), if_neg h9, qA_sAn (by decide), qA_sI]
  · rw [qA_sAn (by decide), qA_sAn (by decide), qA_sAn (by decide)]
    by_cases h9 : i = 1300 + D
    · rw [h9, qA_sAe, if_pos rfl]
    · rw [qA_sAp (by omega), if_neg h9, qA_sAn (by decide), qA_sAn (by decide), qA_sI]
  · by_cases h9 : 3 * (1300 + D) ≤ i ∧ i < 3 * (1300 + D) + 3
    · rw [if_pos h9]
      obtain h8 | h8 | h8 : i = 3 * (1300 + D) ∨ i = 3 * (1300 + D) + 1 ∨ i = 3 * (1300 + D) + 2 := by omega
      · rw [h8, qA_sAp (by omega), qA_sAp (by omega), qA_sAe]
      · rw [h8, qA_sAp (by omega), qA_sAe]
      · rw [h8, qA_sAe]
    · rw [if_neg h9, qA_sAp (by omega), qA_sAp (by omega), qA_sAp (by omega), qA_sAn (by decide), qA_sAn (by decide), qA_sAn (by decide), qA_sI]
theorem g_do_r {x : Int32} (i : Nat) : qA (g_do c D x h) (c + 8) i = if i = 6 * D then x else if 6 * D + 1 ≤ i ∧ i < 6 * D + 6 then -1 else qA h (c + 8) i := by
  unfold g_do
  by_cases h9 : i = 6 * D
  · rw [if_pos h9, h9, qA_sAp (by omega), qA_sAp (by omega), qA_sAp (by omega), qA_sAp (by omega), qA_sAp (by omega), qA_sAe]
  · rw [if_neg h9]
    by_cases h8 : 6 * D + 1 ≤ i ∧ i < 6 * D + 6
    · rw [if_pos h8]
      obtain h7 | h7 | h7 | h7 | h7 : i = 6 * D + 1 ∨ i = 6 * D + 2 ∨ i = 6 * D + 3 ∨ i = 6 * D + 4 ∨ i = 6 * D + 5 := by omega
      · rw [h7, qA_sAp (by omega), qA_sAp (by omega), qA_sAp (by omega), qA_sAp (by omega), qA_sAe]
      · rw [h7, qA_sAp (by omega), qA_sAp (by omega), qA_sAp (by omega), qA_sAe]
      · rw [h7, qA_sAp (by omega), qA_sAp (by omega), qA_sAe]
      · rw [h7, qA_sAp (by omega), qA_sAe]
      · rw [h7, qA_sAe]
    · rw [if_neg h8, qA_sAp (by omega), qA_sAp (by omega), qA_sAp (by omega), qA_sAp (by omega), qA_sAp (by omega), qA_sAp (by omega), qA_sI]
theorem g_do_In {x : Int32} {y j : Nat} (hh : ¬ (y = c ∧ j = 5)) : qI (g_do c D x h) y j = qI h y j := by
  unfold g_do
  rw [qI_sA, qI_sA, qI_sA, qI_sA, qI_sA, qI_sA, q_sI_n hh]
/-- a do is put behind what is there -/
theorem p_co_r {x : Int32} (h80 : qI k 630 80 = nI d) (h21 : qI k 630 21 = nI np) (h88 : qA k 688 d = oU g) (hg : g < 2 ^ 28) (hd : d < 100) (hnp : np < 100) (Hd : zHd d np D0 HR HI k) (hD0 : D0 < 2 ^ 28) : qI (p_co x k) = qI k ∧ qL (p_co x k) = qL k ∧ (∀ y, ¬ y = 671 ∧ ¬ y = 672 ∧ ¬ y = 673 ∧ ¬ y = 688 → qA (p_co x k) y = qA k y) ∧ (∀ i, qA (p_co x k) 672 i = if ¬ g = 0 ∧ i = 1299 + g then x else qA k 672 i) ∧ (∀ i, qA (p_co x k) 671 i = if g = 0 ∧ HR = 671 ∧ HI = i then x else qA k 671 i) ∧ (∀ i, qA (p_co x k) 673 i = if g = 0 ∧ HR = 673 ∧ HI = i then x else qA k 673 i) ∧ ∀ i, qA (p_co x k) 688 i = if i = d then x else qA k 688 i := by
  have dp : p_dp k = d := by unfold p_dp; rw [h80, nI_clamp (by omega)]
  have e1 : p_co x k = q_sA (if g = 0 then q_sA k HR HI x else q_sA k 672 (1299 + g) x) 688 d x := by
    unfold p_co p_co1
    rw [dp, h88]
    by_cases h0 : g = 0
    · rw [if_pos h0, if_pos (show oU g = -1 by rw [h0]; rfl)]
      rcases Hd with ⟨q1, q2, q3⟩ | ⟨q1, q2, A, b, q3, q4, q5, q6, q7⟩
      · rw [if_pos q1, h21, nI_clamp (by omega), q2, q3]
      · rw [if_neg (by omega), q6, q7, nI_clamp (by omega), nI_clamp (by omega), q2, q5]
    · have eo : oU g = nI (1299 + g) := if_neg h0
      rw [if_neg h0, if_neg (by rw [eo]; exact q_on_ne (j := 1299 + g) (by omega)), eo, nI_clamp (by omega)]
  have hHR : HR = 671 ∨ HR = 673 := by
    rcases Hd with ⟨_, q, _⟩ | ⟨_, q, _⟩
    · exact Or.inr q
    · exact Or.inl q
  rw [e1]
  refine ⟨?_, ?_, fun y hy => ?_, fun i => ?_, fun i => ?_, fun i => ?_, fun i => ?_⟩
  · split <;> rfl
  · split <;> rfl
  · rw [qA_sAn (by omega)]
    split
    · rw [qA_sAn (by omega)]
    · rw [qA_sAn (by omega)]
  · rw [qA_sAn (by decide)]
    by_cases h0 : g = 0
    · rw [if_pos h0, qA_sAn (by omega), if_neg (fun q => q.1 h0)]
    · rw [if_neg h0]
      by_cases h9 : i = 1299 + g
      · rw [h9, qA_sAe, if_pos ⟨h0, rfl⟩]
      · rw [qA_sAp (by omega), if_neg (fun q => h9 q.2)]
  · rw [qA_sAn (by decide)]
    by_cases h0 : g = 0
    · rw [if_pos h0]
      by_cases h9 : HR = 671 ∧ HI = i
      · rw [if_pos ⟨h0, h9⟩, h9.1, h9.2, qA_sAe]
      · rw [if_neg (fun q => h9 q.2), qA_sAp (by omega)]
    · rw [if_neg h0, if_neg (fun q => h0 q.1), qA_sAn (by decide)]
  · rw [qA_sAn (by decide)]
    by_cases h0 : g = 0
    · rw [if_pos h0]
      by_cases h9 : HR = 673 ∧ HI = i
      · rw [if_pos ⟨h0, h9⟩, h9.1, h9.2, qA_sAe]
      · rw [if_neg (fun q => h9 q.2), qA_sAp (by omega)]
    · rw [if_neg h0, if_neg (fun q => h0 q.1), qA_sAn (by decide)]
  · by_cases h9 : i = d
    · rw [if_pos h9, h9, qA_sAe]
    · rw [if_neg h9, qA_sAp (by omega)]
      split
      · rw [qA_sAn (by omega)]
      · rw [qA_sAn (by decide)]
/-- what a row's place is, with what its state says of sizes -/
theorem zRW.bd (Z : zRW K V L9 L10 rF pF e c np D0 d HR HI f g C D v h k) : g ≤ D ∧ D0 ≤ D := by
  obtain ⟨_, ⟨_, _, _, n4⟩, _, _, ⟨gf, gg, ff⟩, _⟩ := Z
  refine ⟨?_, n4⟩
  by_cases h0 : g = 0
  · omega
  · exact (gg h0).2.1
/-- one do more, without rows of its own -/
def zv1 (v : Nat → Nat → Nat) (D kd y d : Nat) : Nat → Nat → Nat := fun j i => if j = D then (if i = 0 then kd else if i = 1 then y else if i = 6 then d else 0) else v j i
theorem zv1_o {kd y j i : Nat} (hj : ¬ j = D) : zv1 v D kd y d j i = v j i := if_neg hj
theorem zv1_n {kd y i : Nat} : zv1 v D kd y d D i = if i = 0 then kd else if i = 1 then y else if i = 6 then d else 0 := if_pos rfl
theorem zRW.co {kd y : Nat} {x : Int32} {k2 : q_Hp} (Z : zRW K V L9 L10 rF pF e c np D0 d HR HI f g C D v h k) (hD : D < 2 ^ 27) (hd : d ≤ 8) (hnp : np < 10) (hkd : kd = 0 ∨ kd = 1 ∨ kd = 3 ∨ kd = 4)
    (hO : zO h1 k2) (hL : qL h1 9 = L9 ∧ qL h1 10 = L10) (h5 : qI h1 c 5 = nI (D + 1)) (gc : ∀ i, qA h1 (c + 8) i = if i = 6 * D then nI (15 + kd) else if i = 6 * D + 1 ∧ ¬ kd = 4 then nI y else if 6 * D + 1 ≤ i ∧ i < 6 * D + 6 then -1 else qA h (c + 8) i)
    (k23 : qI k2 630 23 = nI (1300 + (D + 1))) (k84 : qI k2 630 84 = nI C') (k80 : qI k2 630 80 = nI d) (k21 : qI k2 630 21 = nI np) (c9 : ∀ i, qA k2 669 i = if i = 1300 + D then nI kd else qA k 669 i) (c0 : ∀ i, qA k2 670 i = if i = 1300 + D then 0 else qA k 670 i) (c2 : ∀ i, qA k2 672 i = if i = 1300 + D then -1 else qA k 672 i) (c1 : ∀ i, qA k2 671 i = if 3 * (1300 + D) ≤ i ∧ i < 3 * (1300 + D) + 3 then -1 else qA k 671 i) (cs : ∀ y, y = 673 ∨ y = 686 ∨ y = 687 ∨ y = 688 → qA k2 y = qA k y) (hy : (kd = 0 ∨ kd = 1 → y < rF) ∧ (kd = 3 → y < pF))
    (hR : zRc K V L9 L10 rF pF e C' (D + 1) (zv1 v D kd y d) k2) : ∃ v', zRW K V L9 L10 rF pF e c np D0 d HR HI (if g = 0 then D + 1 else f) (D + 1) C' (D + 1) v' (g_ln c D (x, oN g) h1) (p_co (nI (1300 + D)) k2) ∧ zFr c D0 d HR HI h k (g_ln c D (x, oN g) h1) (p_co (nI (1300 + D)) k2) ∧ ∀ j, j < D0 → ∀ i, v' j i = v j i := by
  obtain ⟨gD, hD0⟩ := Z.bd
  obtain ⟨⟨O, l9, l10⟩, ⟨n1, n2, n3, n4⟩, ⟨s1, s2, s3, s4⟩, Hd, ⟨gf, gg, ff⟩, dos, Rc⟩ := id Z
  have Hd2 : zHd d np D0 HR HI k2 := by
    rcases Hd with q | ⟨q1, q2, A, b, q3, q4, q5, q6, q7⟩
    · exact Or.inl q
    · exact Or.inr ⟨q1, q2, A, b, q3, q4, q5, by rw [cs 686 (by omega)]; exact q6, by rw [cs 687 (by omega)]; exact q7⟩
  have hHI : HR = 671 → HI < 3 * (1300 + D0) := by
    intro h7
    rcases Hd with ⟨_, q, _⟩ | ⟨_, _, A, b, q1, q2, q3, _⟩
    · omega
    · omega
  obtain ⟨eI, eL, eA, e2, e1, e3, e8⟩ := p_co_r (x := nI (1300 + D)) k80 k21 (by rw [cs 688 (by omega)]; exact s3) (by omega) (by omega) (by omega) Hd2 (by omega)
  refine Z.it (v1 := zv1 v D kd y d) (by omega) ⟨hO.1, by rw [eI]; exact hO.2⟩ hL ⟨h5, by rw [eI]; exact k23, by rw [eI]; exact k84, by omega⟩ ⟨by rw [eI]; exact k80, by rw [eI]; exact k21, by rw [e8, if_pos rfl]⟩ (fun i hi => ?_) (fun z j hz hj => ?_) (fun j hj => ?_) (fun i hi => ?_) (fun i => ?_) (fun i hi => ?_) (fun i hi => ?_) (fun j hj i => zv1_o (Nat.ne_of_lt hj)) ⟨by rw [zv1_n]; rfl, by rw [zv1_n]; rfl⟩ (fun j hj1 hj2 => ?_) ?_
  · rw [gc, if_neg (by omega), if_neg (by omega), if_neg (by omega)]
  · rcases hz with rfl | rfl
    · rw [eA 669 (by decide), c9, if_neg (by omega)]
    · rw [eA 670 (by decide), c0, if_neg (by omega)]
  · rw [e2]
    by_cases h9 : g = j + 1
    · rw [if_pos h9, if_pos ⟨by omega, by omega⟩]
    · rw [if_neg h9, if_neg (by omega), c2, if_neg (by omega)]
  · rw [e1, c1, if_neg (show ¬ (3 * (1300 + D) ≤ i ∧ i < 3 * (1300 + D) + 3) by omega)]
  · rw [e3, cs 673 (by omega)]
  · rw [eA 686 (by decide), eA 687 (by decide), cs 686 (by omega), cs 687 (by omega)]
    exact ⟨rfl, rfl⟩
  · rw [e8, if_neg (by omega), cs 688 (by omega)]
  · have ej : j = D := by omega
    subst ej
    have v0 : zv1 v j kd y d j 0 = kd := by rw [zv1_n]; rfl
    have vv1 : zv1 v j kd y d j 1 = y := by rw [zv1_n]; rfl
    have v6 : zv1 v j kd y d j 6 = d := by rw [zv1_n]; rfl
    have v2 : ∀ i, 2 ≤ i → i < 6 → zv1 v j kd y d j i = 0 := fun i h1 h2 => by rw [zv1_n, if_neg (by omega), if_neg (by omega), if_neg (by omega)]
    constructor
    · unfold zdo
      rw [v0, vv1, v2 2 (by decide) (by decide)]
      refine ⟨⟨?_, fun q => ?_, fun i h1 h2 => ?_⟩, ?_, fun q => ?_, ?_, fun i hi => ?_⟩
      · rw [gc, if_pos rfl]
      · have n4 : ¬ kd = 4 := by
          unfold q_val at q
          omega
        rw [gc, if_neg (by omega), if_pos ⟨rfl, n4⟩]
      · rw [gc, if_neg (by omega), if_neg (by omega), if_pos (by omega), v2 i h1 h2]
        rfl
      · rw [eA 669 (by decide), c9, if_pos rfl]
      · omega
      · rw [e2, if_neg (by omega), c2, if_pos rfl]
        rfl
      · rw [e1, if_neg (fun q => by have := hHI q.2.1; omega), c1, if_pos (by omega), v2 (3 + i) (by omega) (by omega)]
        rfl
    · unfold zdw
      rw [v0, vv1, v2 2 (by decide) (by decide), v6]
      exact ⟨⟨by omega, hd, fun q => by omega⟩, hy.1, hy.2, fun q => by omega, Or.inl rfl, fun i h1 h2 => Or.inl (v2 i (by omega) h2), fun q => by omega⟩
  · obtain ⟨r1, r2⟩ := hR
    refine ⟨fun z hz => ?_, fun j hj q => ?_⟩
    · obtain ⟨i, j, q1, q2, q3, q4, q5, q6⟩ := r1 z hz
      exact ⟨i, j, q1, q2, by rw [eA 689 (by decide)]; exact q3, by rw [eA 690 (by decide)]; exact q4, by rw [eA 669 (by decide)]; exact q5, q6⟩
    · obtain ⟨z, q1, q2⟩ := r2 j hj q
      exact ⟨z, q1, by rw [eA 690 (by decide)]; exact q2⟩
end ZI
