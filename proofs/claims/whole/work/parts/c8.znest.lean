/-! THE TWO READS: rows within a do -/
def zRx (K : Nat → Nat) (V : Nat → Int64) (L9 L10 : Nat → Int64) (rF pF e c np d g HR HI D Dn C b : Nat) (v0 v : Nat → Nat → Nat) (h0 k0 h k : q_Hp) : Prop := (zO h k ∧ qL h 9 = L9 ∧ qL h 10 = L10) ∧ (qI h c 5 = nI Dn ∧ qI k 630 23 = nI (1300 + Dn) ∧ qI k 630 84 = nI C ∧ D < Dn) ∧ (qI k 630 21 = nI np ∧ qA k 686 (d + 1) = nI (1300 + D)) ∧ ((∀ i, i < 6 * D → qA h (c + 8) i = qA h0 (c + 8) i) ∧ (∀ y j, y = 669 ∨ y = 670 → j < D → qA k y (1300 + j) = qA k0 y (1300 + j)) ∧ (∀ j, j < D → qA k 672 (1300 + j) = if g = j + 1 then nI (1300 + D) else qA k0 672 (1300 + j)) ∧ (∀ i, i < 3 * (1300 + D) → qA k 671 i = if g = 0 ∧ HR = 671 ∧ HI = i then nI (1300 + D) else qA k0 671 i) ∧ (∀ i, qA k 673 i = if g = 0 ∧ HR = 673 ∧ HI = i then nI (1300 + D) else qA k0 673 i) ∧ (∀ i, i ≤ d → qA k 686 i = qA k0 686 i ∧ qA k 687 i = qA k0 687 i) ∧ (∀ i, i < d → qA k 688 i = qA k0 688 i) ∧ qA k 688 d = nI (1300 + D)) ∧ ((∀ j, j < D → ∀ i, v j i = v0 j i) ∧ v D 2 = 0 ∧ v D 6 = d ∧ 5 ≤ v D 0 ∧ ∀ i, b ≤ i → i < 3 → v D (3 + i) = 0) ∧ (∀ j, D ≤ j → j < Dn → zdo c h k v j ∧ zdw rF pF Dn v j) ∧ zRc K V L9 L10 rF pF e C Dn v k
/-- a row may be read -/
def zRy (d b : Nat) (k : q_Hp) : Prop := qI k 630 80 = nI (d + 1) ∧ qA k 687 (d + 1) = nI b
section ZX
variable {K P X : Nat → Nat} {V U : Nat → Int64} {L9 L10 : Nat → Int64} {rF pF : Nat} {e c np D0 d HR HI f g C D Dn C' D' a b : Nat} {v0 v v1 v' : Nat → Nat → Nat} {h0 k0 h k h' k' h1 k1 : q_Hp} {s : y_S}
theorem zRx.op (Z : zRx K V L9 L10 rF pF e c np d g HR HI D Dn C b v0 v h0 k0 h k) (R : zRy d b k) (h88 : qA k 688 (d + 1) = -1) (hb : b < 3) : zRW K V L9 L10 rF pF e c np Dn (d + 1) 671 (3 * (1300 + D) + b) 0 0 C Dn v h k := by
  obtain ⟨O, ⟨n1, n2, n3, n4⟩, ⟨m1, m2⟩, _, ⟨_, _, _, _, w⟩, dos, Rc⟩ := Z
  refine ⟨O, ⟨n1, n2, n3, Nat.le_refl _⟩, ⟨R.1, m1, h88, ?_⟩, Or.inr ⟨Nat.succ_pos d, rfl, D, b, n4, hb, rfl, m2, R.2⟩, ⟨Iff.rfl, fun q => absurd rfl q, fun q => absurd rfl q⟩, fun j h1 h2 => absurd h2 (by omega), Rc⟩
  have := (dos D (Nat.le_refl _) n4).1.2.2.2.2 b hb
  rw [this, w b (Nat.le_refl _) hb]
theorem zRx.cl {f' g' : Nat} (Z : zRx K V L9 L10 rF pF e c np d g HR HI D Dn C b v0 v h0 k0 h k) (R : zRy d b k) (hb : b < 3) (W : zRW K V L9 L10 rF pF e c np Dn (d + 1) 671 (3 * (1300 + D) + b) f' g' C' D' v' h1 k1) (F : zFr c Dn (d + 1) 671 (3 * (1300 + D) + b) h k h1 k1) (hv : ∀ j, j < Dn → ∀ i, v' j i = v j i) : ∃ v2, zRx K V L9 L10 rF pF e c np d g HR HI D D' C' (b + 1) v0 v2 h0 k0 (g_pt c D (3 + b) (oN f') h1) k1 ∧ zRy d b k1 := by
  obtain ⟨O, ⟨n1, n2, n3, n4⟩, ⟨m1, m2⟩, ⟨a1, a2, a3, a4, a5, a6, a7, a8⟩, ⟨w1, w2, w3, w4, w5⟩, dos, Rc⟩ := Z
  obtain ⟨O', ⟨n1', n2', n3', n4'⟩, ⟨s1, s2, s3, s4⟩, _, ⟨_, _, ff⟩, dos', Rc'⟩ := W
  obtain ⟨f1, f2, f3, f4, f5, f6⟩ := F
  have gI : qI (g_pt c D (3 + b) (oN f') h1) = qI h1 := by
    unfold g_pt
    rw [qI_sA]
  have gL : qL (g_pt c D (3 + b) (oN f') h1) = qL h1 := by
    unfold g_pt
    rw [qL_sA]
  have gr : ∀ i, qA (g_pt c D (3 + b) (oN f') h1) (c + 8) i = if i = 6 * D + (3 + b) then oN f' else qA h1 (c + 8) i := fun i => by
    unfold g_pt
    by_cases h9 : i = 6 * D + (3 + b)
    · rw [h9, qA_sAe, if_pos rfl]
    · rw [qA_sAp (by omega), if_neg h9]
  generalize g_pt c D (3 + b) (oN f') h1 = h2 at *
  obtain ⟨v2, hv2⟩ : ∃ v2 : Nat → Nat → Nat, v2 = fun j i => if j = D ∧ i = 3 + b then f' else v' j i := ⟨_, rfl⟩
  have u1 : ∀ j i, ¬ (j = D ∧ i = 3 + b) → v2 j i = v' j i := fun j i hh => by rw [hv2]; exact if_neg hh
  have u2 : v2 D (3 + b) = f' := by rw [hv2]; exact if_pos ⟨rfl, rfl⟩
  have u3 : ∀ j i, i < 3 ∨ 6 ≤ i → v2 j i = v' j i := fun j i hh => u1 j i (by omega)
  have uo : ∀ j i, j < Dn → ¬ (j = D ∧ i = 3 + b) → v2 j i = v j i := fun j i hj hh => (u1 j i hh).trans (hv j hj i)
  have uo3 : ∀ j i, j < Dn → (i < 3 ∨ 6 ≤ i) → v2 j i = v j i := fun j i hj hh => uo j i hj (by omega)
  have f7 : ∀ i, i < 3 * (1300 + Dn) → ¬ 3 * (1300 + D) + b = i → qA k1 671 i = qA k 671 i := fun i hi hh => f3 i hi (fun q => hh q.2)
  refine ⟨v2, ⟨⟨⟨by rw [gI]; exact O'.1.1, O'.1.2⟩, by rw [gL]; exact O'.2.1, by rw [gL]; exact O'.2.2⟩, ⟨by rw [gI]; exact n1', n2', n3', by omega⟩, ⟨s2, (f5 _ (Nat.le_refl _)).1.trans m2⟩, ⟨fun i hi => ?_, fun y j hy hj => ?_, fun j hj => ?_, fun i hi => ?_, fun i => ?_, fun i hi => ?_, fun i hi => ?_, ?_⟩, ⟨fun j hj i => ?_, ?_, ?_, ?_, fun i h1 h2 => ?_⟩, fun j h1 h2 => ?_, ?_⟩, s1, (f5 _ (Nat.le_refl _)).2.trans R.2⟩
  · rw [gr, if_neg (by omega), f1 i (by omega)]
    exact a1 i hi
  · rw [f2 y j (by omega) (by omega)]
    exact a2 y j hy hj
  · rw [f2 672 j (by omega) (by omega)]
    exact a3 j hj
  · rw [f7 i (by omega) (by omega)]
    exact a4 i hi
  · rw [f4 i (fun q => absurd q.1 (by decide))]
    exact a5 i
  · rw [(f5 i (by omega)).1, (f5 i (by omega)).2]
    exact a6 i hi
  · rw [f6 i (by omega)]
    exact a7 i hi
  · rw [f6 d (by omega)]
    exact a8
  · rw [uo j i (by omega) (by omega)]
    exact w1 j hj i
  · rw [uo3 D 2 n4 (by omega)]
    exact w2
  · rw [uo3 D 6 n4 (by omega)]
    exact w3
  · rw [uo3 D 0 n4 (by omega)]
    exact w4
  · rw [uo D (3 + i) n4 (by omega)]
    exact w5 i (by omega) h2
  · by_cases hj : j < Dn
    · obtain ⟨⟨⟨z1, z2, z3⟩, z4, z5, z6, z7⟩, ⟨y0, y1, y2, y3, y4, y5, y6⟩⟩ := dos j h1 hj
      have e6 : ∀ y, y < Dn → v2 y 6 = v y 6 := fun y hy => uo3 y 6 hy (by omega)
      constructor
      · unfold zdo
        rw [uo3 j 0 hj (by omega), uo3 j 1 hj (by omega), uo3 j 2 hj (by omega)]
        refine ⟨⟨?_, fun q => ?_, fun i hi1 hi2 => ?_⟩, (f2 669 j (by omega) hj).trans z4, fun q => (f2 670 j (by omega) hj).trans (z5 q), (f2 672 j (by omega) hj).trans z6, fun i hi => ?_⟩
        · rw [gr, if_neg (by omega), f1 _ (by omega)]
          exact z1
        · rw [gr, if_neg (by omega), f1 _ (by omega)]
          exact z2 q
        · rw [gr]
          by_cases h9 : j = D ∧ i = 3 + b
          · obtain ⟨rfl, rfl⟩ := h9
            rw [if_pos rfl, u2]
          · rw [if_neg (by omega), f1 _ (by omega), uo j i hj h9]
            exact z3 i hi1 hi2
        · by_cases h9 : j = D ∧ i = b
          · obtain ⟨rfl, rfl⟩ := h9
            rw [u2]
            exact s4
          · rw [f7 _ (by omega) (by omega), uo j (3 + i) hj (by omega)]
            exact z7 i hi
      · unfold zdw
        rw [uo3 j 0 hj (by omega), uo3 j 1 hj (by omega), uo3 j 2 hj (by omega), uo3 j 6 hj (by omega), uo3 j 7 hj (by omega)]
        refine ⟨y0, y1, y2, y3, ?_, fun i hi1 hi2 => ?_, fun q => ?_⟩
        · rcases y4 with q | ⟨q1, q2, q3⟩
          · exact Or.inl q
          · exact Or.inr ⟨q1, by omega, by rw [e6 _ (by omega)]; exact q3⟩
        · by_cases h9 : j = D ∧ i = 3 + b
          · obtain ⟨rfl, rfl⟩ := h9
            rw [u2]
            by_cases h0 : f' = 0
            · exact Or.inl h0
            · obtain ⟨q1, q2, q3⟩ := ff h0
              refine Or.inr ⟨by omega, q2, fun _ => ?_⟩
              rw [u3 _ 6 (by omega), q3, w3]
          · rw [uo j i hj h9]
            rcases y5 i hi1 hi2 with q | ⟨q1, q2, q3⟩
            · exact Or.inl q
            · exact Or.inr ⟨q1, by omega, by rw [e6 _ (by omega)]; exact q3⟩
        · have nj : ¬ j = D := fun q2 => by
            rw [q2] at q
            omega
          rw [uo j 3 hj (by omega)]
          obtain ⟨q1, q2, q3, q4⟩ := y6 q
          refine ⟨q1, q2, by omega, fun y hy1 hy2 => ?_⟩
          rw [uo3 y 0 (by omega) (by omega), uo3 y 2 (by omega) (by omega)]
          exact q4 y hy1 hy2
    · obtain ⟨⟨⟨z1, z2, z3⟩, z4, z5, z6, z7⟩, ⟨y0, y1, y2, y3, y4, y5, y6⟩⟩ := dos' j (by omega) h2
      have uj : ∀ i, v2 j i = v' j i := fun i => u1 j i (by omega)
      constructor
      · unfold zdo
        rw [uj, uj, uj]
        refine ⟨⟨?_, fun q => ?_, fun i hi1 hi2 => ?_⟩, z4, z5, z6, fun i hi => ?_⟩
        · rw [gr, if_neg (by omega)]
          exact z1
        · rw [gr, if_neg (by omega)]
          exact z2 q
        · rw [gr, if_neg (by omega), uj]
          exact z3 i hi1 hi2
        · rw [uj]
          exact z7 i hi
      · unfold zdw
        rw [uj, uj, uj, uj, uj, uj]
        refine ⟨y0, y1, y2, y3, ?_, fun i hi1 hi2 => ?_, fun q => ?_⟩
        · rw [u3 _ 6 (by omega)]
          exact y4
        · rw [uj, u3 _ 6 (by omega)]
          exact y5 i hi1 hi2
        · obtain ⟨q1, q2, q3, q4⟩ := y6 q
          refine ⟨q1, q2, q3, fun y hy1 hy2 => ?_⟩
          rw [u3 y 0 (by omega), u3 y 2 (by omega)]
          exact q4 y hy1 hy2
  · obtain ⟨r1, r2⟩ := Rc'
    refine ⟨fun x hx => ?_, fun j hj q => ?_⟩
    · obtain ⟨i, j, q1, q2, q3, q4, q5, q6, q7⟩ := r1 x hx
      exact ⟨i, j, q1, q2, q3, q4, by rw [u3 j 0 (by omega)]; exact q5, by rw [u3 j 0 (by omega)]; exact q6, by rw [u3 j 0 (by omega), u3 j 1 (by omega)]; exact q7⟩
    · rw [u3 j 0 (by omega)] at q
      exact r2 j hj q
theorem zRx.w2 (Z : zRx K V L9 L10 rF pF e c np d g HR HI D Dn C (b + 1) v0 v h0 k0 h k) (R : zRy d b k) : zRx K V L9 L10 rF pF e c np d g HR HI D Dn C (b + 1) v0 v h0 k0 h (p_w2 (d + 1) k) ∧ zRy d (b + 1) (p_w2 (d + 1) k) ∧ qA (p_w2 (d + 1) k) 688 (d + 1) = -1 := by
  obtain ⟨O, ⟨n1, n2, n3, n4⟩, ⟨m1, m2⟩, ⟨a1, a2, a3, a4, a5, a6, a7, a8⟩, W, dos, Rc⟩ := Z
  have eI : qI (p_w2 (d + 1) k) = qI k := by
    unfold p_w2
    rw [qI_sA, qI_sA]
  have eA : ∀ y, ¬ y = 687 → ¬ y = 688 → qA (p_w2 (d + 1) k) y = qA k y := fun y h1 h2 => by
    unfold p_w2
    rw [qA_sAn h2, qA_sAn h1]
  have e7 : ∀ i, qA (p_w2 (d + 1) k) 687 i = if i = d + 1 then nI (b + 1) else qA k 687 i := fun i => by
    unfold p_w2
    rw [qA_sAn (by decide)]
    by_cases h9 : i = d + 1
    · rw [h9, qA_sAe, if_pos rfl, R.2, nI_1]
    · rw [qA_sAp (by omega), if_neg h9]
  have e8 : ∀ i, qA (p_w2 (d + 1) k) 688 i = if i = d + 1 then -1 else qA k 688 i := fun i => by
    unfold p_w2
    by_cases h9 : i = d + 1
    · rw [h9, qA_sAe, if_pos rfl]
    · rw [qA_sAp (by omega), if_neg h9, qA_sAn (by decide)]
  generalize p_w2 (d + 1) k = k2 at *
  refine ⟨⟨⟨⟨O.1.1, by rw [eI]; exact O.1.2⟩, O.2⟩, ⟨n1, by rw [eI]; exact n2, by rw [eI]; exact n3, n4⟩, ⟨by rw [eI]; exact m1, by rw [eA 686 (by decide) (by decide)]; exact m2⟩, ⟨a1, fun y j hy hj => by rw [eA y (by omega) (by omega)]; exact a2 y j hy hj, fun j hj => by rw [eA 672 (by decide) (by decide)]; exact a3 j hj, fun i hi => by rw [eA 671 (by decide) (by decide)]; exact a4 i hi, fun i => by rw [eA 673 (by decide) (by decide)]; exact a5 i, fun i hi => ?_, fun i hi => ?_, ?_⟩, W, fun j h1 h2 => ⟨?_, (dos j h1 h2).2⟩, ?_⟩, ⟨by rw [eI]; exact R.1, by rw [e7, if_pos rfl]⟩, by rw [e8, if_pos rfl]⟩
  · rw [eA 686 (by decide) (by decide), e7, if_neg (by omega)]
    exact a6 i hi
  · rw [e8, if_neg (by omega)]
    exact a7 i hi
  · rw [e8, if_neg (by omega)]
    exact a8
  · have := (dos j h1 h2).1
    unfold zdo at this ⊢
    rw [eA 669 (by decide) (by decide), eA 670 (by decide) (by decide), eA 671 (by decide) (by decide), eA 672 (by decide) (by decide)]
    exact this
  · unfold zRc at Rc ⊢
    rw [eA 669 (by decide) (by decide), eA 689 (by decide) (by decide), eA 690 (by decide) (by decide)]
    exact Rc
theorem zRx.fin {x : Int32} (W : zRW K V L9 L10 rF pF e c np D0 d HR HI f g C' D v0 h0 k0) (Z : zRx K V L9 L10 rF pF e c np d g HR HI D Dn C b v0 v h0 k0 h k) (hD : D < 2 ^ 28) : ∃ v', zRW K V L9 L10 rF pF e c np D0 d HR HI (if g = 0 then D + 1 else f) (D + 1) C Dn v' (g_ln c D (x, oN g) h) (p_w3 d k) ∧ zFr c D0 d HR HI h0 k0 (g_ln c D (x, oN g) h) (p_w3 d k) ∧ ∀ j, j < D0 → ∀ i, v' j i = v0 j i := by
  obtain ⟨O, ⟨n1, n2, n3, n4⟩, ⟨m1, m2⟩, ⟨a1, a2, a3, a4, a5, a6, a7, a8⟩, ⟨w1, w2, w3, w4, w5⟩, dos, Rc⟩ := Z
  have eI : ∀ j, ¬ j = 80 → ¬ j = 12 → qI (p_w3 d k) 630 j = qI k 630 j := fun j h1 h2 => by
    unfold p_w3
    rw [q_sI_n (by omega), q_sI_n (by omega)]
  have e80 : qI (p_w3 d k) 630 80 = nI d := by
    unfold p_w3
    rw [q_sI_n (by omega), q_sI_e]
  have eA : qA (p_w3 d k) = qA k := by
    unfold p_w3
    rw [qA_sI, qA_sI]
  generalize p_w3 d k = k2 at *
  refine W.it (v1 := v) hD ⟨O.1.1, (eI _ (by decide) (by decide)).trans O.1.2⟩ O.2 ⟨n1, (eI _ (by decide) (by decide)).trans n2, (eI _ (by decide) (by decide)).trans n3, n4⟩ ⟨e80, (eI _ (by decide) (by decide)).trans m1, by rw [eA]; exact a8⟩ a1 (fun y j hy hj => by rw [eA]; exact a2 y j hy hj) (fun j hj => by rw [eA]; exact a3 j hj) (fun i hi => by rw [eA]; exact a4 i hi) (fun i => by rw [eA]; exact a5 i) (fun i hi => by rw [eA]; exact a6 i hi) (fun i hi => by rw [eA]; exact a7 i hi) w1 ⟨w2, w3⟩ (fun j h1 h2 => ⟨?_, (dos j h1 h2).2⟩) ?_
  · have := (dos j h1 h2).1
    unfold zdo at this ⊢
    rw [eA]
    exact this
  · unfold zRc at Rc ⊢
    rw [eA]
    exact Rc
end ZX
