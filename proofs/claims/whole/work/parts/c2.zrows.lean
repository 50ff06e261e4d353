/-! THE TWO READS: rows of dos -/
def oU (y : Nat) : Int32 := if y = 0 then -1 else nI (1299 + y)
/-- a do on both sides: kind, value, next, rows (v j 6: how deep, v j 7: how many it may choose of) -/
def zdo (c : Nat) (h k : q_Hp) (v : Nat → Nat → Nat) (j : Nat) : Prop := (qA h (c + 8) (6 * j) = nI (15 + v j 0) ∧ (q_val (v j 0) → qA h (c + 8) (6 * j + 1) = nI (v j 1)) ∧ ∀ i, 2 ≤ i → i < 6 → qA h (c + 8) (6 * j + i) = oN (v j i)) ∧ qA k 669 (1300 + j) = nI (v j 0) ∧ (v j 0 = 6 → qA k 670 (1300 + j) = nI (v j 1)) ∧ qA k 672 (1300 + j) = oU (v j 2) ∧ ∀ i, i < 3 → qA k 671 (3 * (1300 + j) + i) = oU (v j (3 + i))
def zdw (rF pF D : Nat) (v : Nat → Nat → Nat) (j : Nat) : Prop := (v j 0 < 8 ∧ v j 6 ≤ 8 ∧ (5 ≤ v j 0 → v j 6 < 8)) ∧ ((v j 0 = 0 ∨ v j 0 = 1) → v j 1 < rF) ∧ (v j 0 = 3 → v j 1 < pF) ∧ (v j 0 = 6 → v j 1 ≤ 100) ∧ (v j 2 = 0 ∨ (j < v j 2 - 1 ∧ v j 2 ≤ D ∧ v (v j 2 - 1) 6 = v j 6)) ∧ (∀ i, 3 ≤ i → i < 6 → v j i = 0 ∨ (j < v j i - 1 ∧ v j i ≤ D ∧ (5 ≤ v j 0 → v (v j i - 1) 6 = v j 6 + 1))) ∧ (v j 0 = 2 → 0 < v j 7 ∧ v j 3 = j + 2 ∧ j + v j 7 < D ∧ ∀ f, j < f → f ≤ j + v j 7 → v f 0 = 0 ∧ (v f 2 = 0 ∨ (j < v f 2 - 1 ∧ v f 2 - 1 ≤ j + v j 7)))
/-- the names that are called -/
def zRc (K : Nat → Nat) (V : Nat → Int64) (L9 L10 : Nat → Int64) (rF pF e C D : Nat) (v : Nat → Nat → Nat) (k : q_Hp) : Prop := (∀ x, x < C → ∃ i j, zN K e i ∧ j < D ∧ qA k 689 x = nI i ∧ qA k 690 x = nI (1300 + j) ∧ qA k 669 (1300 + j) = nI (v j 0) ∧ (v j 0 = 0 ∨ v j 0 = 1 ∨ v j 0 = 3) ∧ zlk V L9 L10 rF pF (nI (v j 0)) i = some (v j 1)) ∧ ∀ j, j < D → (v j 0 = 0 ∨ v j 0 = 1 ∨ v j 0 = 3) → ∃ x, x < C ∧ qA k 690 x = nI (1300 + j)
/-- where a row's first do is put -/
def zHd (d np D0 HR HI : Nat) (k : q_Hp) : Prop := (d = 0 ∧ HR = 673 ∧ HI = 10 + np) ∨ (0 < d ∧ HR = 671 ∧ ∃ A b, A < D0 ∧ b < 3 ∧ HI = 3 * (1300 + A) + b ∧ qA k 686 d = nI (1300 + A) ∧ qA k 687 d = nI b)
def zRW (K : Nat → Nat) (V : Nat → Int64) (L9 L10 : Nat → Int64) (rF pF e c np D0 d HR HI f g C D : Nat) (v : Nat → Nat → Nat) (h k : q_Hp) : Prop := (zO h k ∧ qL h 9 = L9 ∧ qL h 10 = L10) ∧ (qI h c 5 = nI D ∧ qI k 630 23 = nI (1300 + D) ∧ qI k 630 84 = nI C ∧ D0 ≤ D) ∧ (qI k 630 80 = nI d ∧ qI k 630 21 = nI np ∧ qA k 688 d = oU g ∧ qA k HR HI = oU f) ∧ zHd d np D0 HR HI k ∧ ((g = 0 ↔ f = 0) ∧ (¬ g = 0 → D0 < g ∧ g ≤ D ∧ v (g - 1) 2 = 0 ∧ v (g - 1) 6 = d ∧ ∀ j, D0 ≤ j → j < D → v j 0 = 2 → ¬ (j < g - 1 ∧ g - 1 ≤ j + v j 7)) ∧ (¬ f = 0 → D0 < f ∧ f ≤ D ∧ v (f - 1) 6 = d)) ∧ (∀ j, D0 ≤ j → j < D → zdo c h k v j ∧ zdw rF pF D v j) ∧ zRc K V L9 L10 rF pF e C D v k
/-- what is ahead of a row stays -/
def zFr (c D0 d HR HI : Nat) (h k h' k' : q_Hp) : Prop := (∀ i, i < 6 * D0 → qA h' (c + 8) i = qA h (c + 8) i) ∧ (∀ y j, (y = 669 ∨ y = 670 ∨ y = 672) → j < D0 → qA k' y (1300 + j) = qA k y (1300 + j)) ∧ (∀ i, i < 3 * (1300 + D0) → ¬ (HR = 671 ∧ HI = i) → qA k' 671 i = qA k 671 i) ∧ (∀ i, ¬ (HR = 673 ∧ HI = i) → qA k' 673 i = qA k 673 i) ∧ (∀ i, i ≤ d → qA k' 686 i = qA k 686 i ∧ qA k' 687 i = qA k 687 i) ∧ ∀ i, i < d → qA k' 688 i = qA k 688 i
section ZR
variable {K P X : Nat → Nat} {V : Nat → Int64} {L9 L10 : Nat → Int64} {rF pF : Nat} {e c np D0 d HR HI f g C D C' D' : Nat} {v v1 v' : Nat → Nat → Nat} {h k h' k' h1 k1 : q_Hp}
theorem oU_s {y : Nat} : oU (y + 1) = nI (1300 + y) := by
  unfold oU
  rw [if_neg (Nat.succ_ne_zero y)]
  congr 1
  omega
theorem zFr.rf : zFr c D0 d HR HI h k h k := ⟨fun _ _ => rfl, fun _ _ _ _ => rfl, fun _ _ _ => rfl, fun _ _ => rfl, fun _ _ => ⟨rfl, rfl⟩, fun _ _ => rfl⟩
theorem zFr.trans (A : zFr c D0 d HR HI h k h1 k1) (B : zFr c D0 d HR HI h1 k1 h' k') : zFr c D0 d HR HI h k h' k' := by
  obtain ⟨a1, a2, a3, a4, a5, a6⟩ := A
  obtain ⟨b1, b2, b3, b4, b5, b6⟩ := B
  exact ⟨fun i hi => (b1 i hi).trans (a1 i hi), fun y j hy hj => (b2 y j hy hj).trans (a2 y j hy hj), fun i hi hh => (b3 i hi hh).trans (a3 i hi hh), fun i hh => (b4 i hh).trans (a4 i hh), fun i hi => ⟨(b5 i hi).1.trans (a5 i hi).1, (b5 i hi).2.trans (a5 i hi).2⟩, fun i hi => (b6 i hi).trans (a6 i hi)⟩
theorem zdw.mono {j : Nat} (Z : zdw rF pF D v j) (hD : D ≤ D') : zdw rF pF D' v j := by
  obtain ⟨z0, z1, z2, z3, z4, z5, z6⟩ := Z
  refine ⟨z0, z1, z2, z3, z4.imp id (fun q => ⟨q.1, by omega, q.2.2⟩), fun i h1 h2 => (z5 i h1 h2).imp id (fun q => ⟨q.1, by omega, q.2.2⟩), fun q => ?_⟩
  obtain ⟨y1, y2, y3, y4⟩ := z6 q
  exact ⟨y1, y2, by omega, y4⟩
theorem zRW.it {x : Int32} (Z : zRW K V L9 L10 rF pF e c np D0 d HR HI f g C D v h k) (hD : D < 2 ^ 28) (hO : zO h1 k1) (hL : qL h1 9 = L9 ∧ qL h1 10 = L10) (hN : qI h1 c 5 = nI D' ∧ qI k1 630 23 = nI (1300 + D') ∧ qI k1 630 84 = nI C' ∧ D < D') (hS : qI k1 630 80 = nI d ∧ qI k1 630 21 = nI np ∧ qA k1 688 d = nI (1300 + D)) (gc : ∀ i, i < 6 * D → qA h1 (c + 8) i = qA h (c + 8) i) (r9 : ∀ y j, y = 669 ∨ y = 670 → j < D → qA k1 y (1300 + j) = qA k y (1300 + j)) (r2 : ∀ j, j < D → qA k1 672 (1300 + j) = if g = j + 1 then nI (1300 + D) else qA k 672 (1300 + j)) (r1 : ∀ i, i < 3 * (1300 + D) → qA k1 671 i = if g = 0 ∧ HR = 671 ∧ HI = i then nI (1300 + D) else qA k 671 i) (r3 : ∀ i, qA k1 673 i = if g = 0 ∧ HR = 673 ∧ HI = i then nI (1300 + D) else qA k 673 i) (r6 : ∀ i, i ≤ d → qA k1 686 i = qA k 686 i ∧ qA k1 687 i = qA k 687 i) (r8 : ∀ i, i < d → qA k1 688 i = qA k 688 i) (hv : ∀ j, j < D → ∀ i, v1 j i = v j i) (hv2 : v1 D 2 = 0 ∧ v1 D 6 = d) (hn : ∀ j, D ≤ j → j < D' → zdo c h1 k1 v1 j ∧ zdw rF pF D' v1 j) (hR : zRc K V L9 L10 rF pF e C' D' v1 k1) : ∃ v', zRW K V L9 L10 rF pF e c np D0 d HR HI (if g = 0 then D + 1 else f) (D + 1) C' D' v' (g_ln c D (x, oN g) h1) k1 ∧ zFr c D0 d HR HI h k (g_ln c D (x, oN g) h1) k1 ∧ ∀ j, j < D0 → ∀ i, v' j i = v j i := by
  obtain ⟨⟨O, l9, l10⟩, ⟨n1, n2, n3, n4⟩, ⟨s1, s2, s3, s4⟩, Hd, ⟨gf, gg, ff⟩, dos, Rc⟩ := Z
  -- the class's link
  have ec : ∀ i, qA (g_ln c D (x, oN g) h1) (c + 8) i = if ¬ g = 0 ∧ i = 6 * (g - 1) + 2 then nI D else qA h1 (c + 8) i := by
    intro i
    unfold g_ln
    by_cases h0 : g = 0
    · rw [if_pos (show (x, oN g).2 = -1 by rw [h0]; rfl), if_neg (fun q => q.1 h0)]
    · have eo : oN g = nI (g - 1) := if_neg h0
      obtain ⟨q1, q2, _⟩ := gg h0
      have nm : ¬ oN g = -1 := by
        rw [eo]
        exact q_on_ne (j := g - 1) (by omega)
      rw [if_neg (show ¬ (x, oN g).2 = -1 from nm)]
      show qA (g_pt c (oN g : Int32).toNatClampNeg 2 (nI D) h1) (c + 8) i = _
      unfold g_pt
      rw [eo, nI_clamp (by omega), qA_sA]
      by_cases h9 : i = 6 * (g - 1) + 2
      · rw [if_pos ⟨rfl, h9⟩, if_pos ⟨h0, h9⟩]
      · rw [if_neg (fun q => h9 q.2), if_neg (fun q => h9 q.2)]
  have eI : qI (g_ln c D (x, oN g) h1) = qI h1 := by
    unfold g_ln
    split
    · rfl
    · rfl
  have eL : qL (g_ln c D (x, oN g) h1) = qL h1 := by
    unfold g_ln
    split
    · rfl
    · rfl
  generalize g_ln c D (x, oN g) h1 = h' at *
  obtain ⟨v', hv'⟩ : ∃ v' : Nat → Nat → Nat, v' = fun j i => if j + 1 = g ∧ i = 2 then D + 1 else v1 j i := ⟨_, rfl⟩
  have w2 : ∀ j i, ¬ (j + 1 = g ∧ i = 2) → v' j i = v1 j i := fun j i hh => by rw [hv']; exact if_neg hh
  have wn : ∀ j, j + 1 = g → v' j 2 = D + 1 := fun j hh => by rw [hv']; exact if_pos ⟨hh, rfl⟩
  have wi : ∀ j i, ¬ i = 2 → v' j i = v1 j i := fun j i hh => w2 j i (fun q => hh q.2)
  have wo : ∀ j i, j < D → ¬ i = 2 → v' j i = v j i := fun j i hj hh => (wi j i hh).trans (hv j hj i)
  have wo2 : ∀ j, j < D → ¬ j + 1 = g → v' j 2 = v j 2 := fun j hj hh => (w2 j 2 (fun q => hh q.1)).trans (hv j hj 2)
  have gD : g ≤ D := by
    by_cases h0 : g = 0
    · omega
    · exact (gg h0).2.1
  have fD : f ≤ D := by
    by_cases h0 : f = 0
    · omega
    · exact (ff h0).2.1
  have hHI : HR = 671 → HI < 3 * (1300 + D0) ∧ ∀ j i, D0 ≤ j → ¬ HI = 3 * (1300 + j) + i := by
    intro h7
    rcases Hd with ⟨_, q, _⟩ | ⟨_, _, A, b, q1, q2, q3, _⟩
    · omega
    · exact ⟨by omega, fun j i hj => by omega⟩
  have hHR : HR = 671 ∨ HR = 673 := by
    rcases Hd with ⟨_, q, _⟩ | ⟨_, q, _⟩
    · exact Or.inr q
    · exact Or.inl q
  have hd1 : qA k1 HR HI = if g = 0 then nI (1300 + D) else qA k HR HI := by
    rcases hHR with q | q
    · have := hHI q
      subst q
      rw [r1 HI (by omega)]
      by_cases h0 : g = 0
      · rw [if_pos ⟨h0, rfl, rfl⟩, if_pos h0]
      · rw [if_neg (fun q => h0 q.1), if_neg h0]
    · subst q
      rw [r3 HI]
      by_cases h0 : g = 0
      · rw [if_pos ⟨h0, rfl, rfl⟩, if_pos h0]
      · rw [if_neg (fun q => h0 q.1), if_neg h0]
  refine ⟨v', ⟨⟨⟨by rw [eI]; exact hO.1, hO.2⟩, by rw [eL]; exact hL.1, by rw [eL]; exact hL.2⟩, ⟨by rw [eI]; exact hN.1, hN.2.1, hN.2.2.1, by omega⟩, ⟨hS.1, hS.2.1, by rw [hS.2.2, oU_s], ?_⟩, ?_, ⟨?_, fun _ => ⟨by omega, by omega, ?_, ?_, fun j h2 h3 h4 h5 => ?_⟩, fun hf => ?_⟩, fun j h2 h3 => ?_, ?_⟩, ?_, fun j hj i => ?_⟩
  · rw [hd1]
    by_cases h0 : g = 0
    · rw [if_pos h0, if_pos h0, oU_s]
    · rw [if_neg h0, if_neg h0]
      exact s4
  · rcases Hd with q | ⟨q1, q2, A, b, q3, q4, q5, q6, q7⟩
    · exact Or.inl q
    · exact Or.inr ⟨q1, q2, A, b, q3, q4, q5, (r6 d (Nat.le_refl _)).1.trans q6, (r6 d (Nat.le_refl _)).2.trans q7⟩
  · by_cases h0 : g = 0
    · rw [if_pos h0]
    · rw [if_neg h0]
      have : ¬ f = 0 := fun q => h0 (gf.mpr q)
      omega
  · show v' D 2 = 0
    rw [w2 D 2 (by omega)]
    exact hv2.1
  · show v' D 6 = d
    rw [wi D 6 (by decide)]
    exact hv2.2
  · have h5 : j < D ∧ D ≤ j + v' j 7 := h5
    rw [wo j 0 h5.1 (by decide)] at h4
    have := ((dos j h2 h5.1).2.2.2.2.2.2.2 h4).2.2.1
    rw [wo j 7 h5.1 (by decide)] at h5
    omega
  · by_cases h0 : g = 0
    · rw [if_pos h0]
      refine ⟨by omega, by omega, ?_⟩
      show v' D 6 = d
      rw [wi D 6 (by decide)]
      exact hv2.2
    · rw [if_neg h0] at hf ⊢
      obtain ⟨q1, q2, q3⟩ := ff hf
      refine ⟨q1, by omega, ?_⟩
      rw [wo (f - 1) 6 (by omega) (by decide)]
      exact q3
  · by_cases hj : j < D
    · obtain ⟨⟨⟨z1, z2, z3⟩, z4, z5, z6, z7⟩, ⟨y0, y1, y2, y3, y4, y5, y6⟩⟩ := dos j h2 hj
      have e6 : ∀ y, y < D → v' y 6 = v y 6 := fun y hy => wo y 6 hy (by decide)
      constructor
      · unfold zdo
        rw [wo j 0 hj (by decide), wo j 1 hj (by decide)]
        refine ⟨⟨?_, fun q => ?_, fun i hi1 hi2 => ?_⟩, (r9 _ _ (by omega) hj).trans z4, fun q => (r9 _ _ (by omega) hj).trans (z5 q), ?_, fun i hi => ?_⟩
        · rw [ec, if_neg (by omega), gc _ (by omega)]
          exact z1
        · rw [ec, if_neg (by omega), gc _ (by omega)]
          exact z2 q
        · rw [ec]
          by_cases h9 : j + 1 = g ∧ i = 2
          · obtain ⟨h8, h7⟩ := h9
            subst h7
            rw [if_pos ⟨by omega, by omega⟩, wn j h8, oN_s]
          · rw [if_neg (by omega), gc _ (by omega), w2 j i h9, hv j hj i]
            exact z3 i hi1 hi2
        · rw [r2 j hj]
          by_cases h9 : g = j + 1
          · rw [if_pos h9, wn j h9.symm, oU_s]
          · rw [if_neg h9, wo2 j hj (fun q => h9 q.symm)]
            exact z6
        · rw [r1 _ (by omega), if_neg (fun q => (hHI q.2.1).2 j i h2 q.2.2), wo j (3 + i) hj (by omega)]
          exact z7 i hi
      · unfold zdw
        rw [wo j 0 hj (by decide), wo j 1 hj (by decide), wo j 3 hj (by decide), wo j 6 hj (by decide), wo j 7 hj (by decide)]
        refine ⟨y0, y1, y2, y3, ?_, fun i hi1 hi2 => ?_, fun q => ?_⟩
        · by_cases h9 : j + 1 = g
          · right
            rw [wn j h9]
            refine ⟨by omega, by omega, ?_⟩
            show v' D 6 = v j 6
            obtain ⟨_, _, _, q4, _⟩ := gg (by omega)
            rw [wi D 6 (by decide), hv2.2, ← q4]
            congr 1
            omega
          · rw [wo2 j hj h9]
            rcases y4 with q | ⟨q1, q2, q3⟩
            · exact Or.inl q
            · exact Or.inr ⟨q1, by omega, by rw [e6 _ (by omega)]; exact q3⟩
        · rw [wo j i hj (by omega)]
          rcases y5 i hi1 hi2 with q | ⟨q1, q2, q3⟩
          · exact Or.inl q
          · exact Or.inr ⟨q1, by omega, by rw [e6 _ (by omega)]; exact q3⟩
        · obtain ⟨q1, q2, q3, q4⟩ := y6 q
          refine ⟨q1, q2, by omega, fun y hy1 hy2 => ?_⟩
          obtain ⟨q5, q6⟩ := q4 y hy1 hy2
          have ny : ¬ y + 1 = g := fun h9 => by
            obtain ⟨_, _, _, _, q8⟩ := gg (by omega)
            exact q8 j h2 hj q (by omega)
          rw [wo y 0 (by omega) (by decide), wo2 y (by omega) ny]
          exact ⟨q5, q6⟩
    · obtain ⟨⟨⟨z1, z2, z3⟩, z4, z5, z6, z7⟩, ⟨y0, y1, y2, y3, y4, y5, y6⟩⟩ := hn j (by omega) h3
      have wj : ∀ y i, D ≤ y → v' y i = v1 y i := fun y i hy => w2 y i (by omega)
      have e6 : ∀ y, v' y 6 = v1 y 6 := fun y => wi y 6 (by decide)
      constructor
      · unfold zdo
        rw [wj j 0 (by omega), wj j 1 (by omega), wj j 2 (by omega)]
        refine ⟨⟨?_, fun q => ?_, fun i hi1 hi2 => ?_⟩, z4, z5, z6, fun i hi => ?_⟩
        · rw [ec, if_neg (by omega)]
          exact z1
        · rw [ec, if_neg (by omega)]
          exact z2 q
        · rw [ec, if_neg (by omega), wj j i (by omega)]
          exact z3 i hi1 hi2
        · rw [wj j (3 + i) (by omega)]
          exact z7 i hi
      · unfold zdw
        rw [wj j 0 (by omega), wj j 1 (by omega), wj j 2 (by omega), wj j 3 (by omega), wj j 6 (by omega), wj j 7 (by omega)]
        refine ⟨y0, y1, y2, y3, ?_, fun i hi1 hi2 => ?_, fun q => ?_⟩
        · rw [e6]
          exact y4
        · rw [wj j i (by omega), e6]
          exact y5 i hi1 hi2
        · obtain ⟨q1, q2, q3, q4⟩ := y6 q
          refine ⟨q1, q2, q3, fun y hy1 hy2 => ?_⟩
          rw [wj y 0 (by omega), wj y 2 (by omega)]
          exact q4 y hy1 hy2
  · obtain ⟨c1, c2⟩ := hR
    refine ⟨fun y hy => ?_, fun j hj q => ?_⟩
    · obtain ⟨i, j, q1, q2, q3, q4, q5, q6, q7⟩ := c1 y hy
      exact ⟨i, j, q1, q2, q3, q4, by rw [wi j 0 (by decide)]; exact q5, by rw [wi j 0 (by decide)]; exact q6, by rw [wi j 0 (by decide), wi j 1 (by decide)]; exact q7⟩
    · rw [wi j 0 (by decide)] at q
      exact c2 j hj q
  · refine ⟨fun i hi => ?_, fun y j hy hj => ?_, fun i hi hh => ?_, fun i hh => ?_, fun i hi => r6 i hi, fun i hi => r8 i hi⟩
    · rw [ec, if_neg, gc i (by omega)]
      rintro ⟨q1, q2⟩
      have := (gg q1).1
      omega
    · rcases hy with rfl | rfl | rfl
      · exact r9 _ j (by omega) (by omega)
      · exact r9 _ j (by omega) (by omega)
      · rw [r2 j (by omega), if_neg]
        intro q
        have := (gg (by omega)).1
        omega
    · rw [r1 i (by omega), if_neg (fun q => hh q.2)]
    · rw [r3 i, if_neg (fun q => hh q.2)]
  · by_cases h9 : j + 1 = g ∧ i = 2
    · exfalso
      have := (gg (by omega)).1
      omega
    · rw [w2 j i h9, hv j (by omega) i]
end ZR
