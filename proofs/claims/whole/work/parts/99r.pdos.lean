/-! THE PARSE OF THE REFERENCE: dos, their rows, and names that wait -/
def p_nD (w : Int32) (k : q_Hp) : q_Hp := q_sA (q_sA (q_sA (q_sA (q_sA (q_sA (q_sI k 630 23 (qI k 630 23 + 1)) 669 (qI k 630 23 : Int32).toNatClampNeg w) 670 (qI k 630 23 : Int32).toNatClampNeg 0) 672 (qI k 630 23 : Int32).toNatClampNeg (-1)) 671 (3 * (qI k 630 23 : Int32).toNatClampNeg) (-1)) 671 (3 * (qI k 630 23 : Int32).toNatClampNeg + 1) (-1)) 671 (3 * (qI k 630 23 : Int32).toNatClampNeg + 2) (-1)
def p_dp (k : q_Hp) : Nat := (qI k 630 80 : Int32).toNatClampNeg
def p_co1 (x : Int32) (k : q_Hp) : q_Hp := if qA k 688 (p_dp k) = -1 then (if p_dp k = 0 then q_sA k 673 (10 + (qI k 630 21 : Int32).toNatClampNeg) x else q_sA k 671 (3 * (qA k 686 (p_dp k) : Int32).toNatClampNeg + (qA k 687 (p_dp k) : Int32).toNatClampNeg) x) else q_sA k 672 (qA k 688 (p_dp k) : Int32).toNatClampNeg x
def p_co (x : Int32) (k : q_Hp) : q_Hp := q_sA (p_co1 x k) 688 (p_dp k) x
def p_nm (i : Nat) (x : Int32) (k : q_Hp) : q_Hp := q_sI (q_sA (q_sA k 689 (qI k 630 84 : Int32).toNatClampNeg (nI i)) 690 (qI k 630 84 : Int32).toNatClampNeg x) 630 84 (qI k 630 84 + 1)
section PO
variable {K P X : Nat → Nat} {U : Nat → Int64} {e : Nat} {k0 k : q_Hp} {s : y_S}
theorem p_nD_I {w : Int32} {j : Nat} (h : ¬ j = 23) : qI (p_nD w k0) 630 j = qI k0 630 j := by
  unfold p_nD
  rw [qI_sA, qI_sA, qI_sA, qI_sA, qI_sA, qI_sA, q_sI_n (fun h9 => h h9.2)]
theorem p_nD_23 {w : Int32} : qI (p_nD w k0) 630 23 = qI k0 630 23 + 1 := by
  unfold p_nD
  rw [qI_sA, qI_sA, qI_sA, qI_sA, qI_sA, qI_sA, q_sI_e]
theorem p_nD_A {w : Int32} {x : Nat} (h : ¬ x = 669 ∧ ¬ x = 670 ∧ ¬ x = 671 ∧ ¬ x = 672) : qA (p_nD w k0) x = qA k0 x := by
  unfold p_nD
  rw [qA_sAn h.2.2.1, qA_sAn h.2.2.1, qA_sAn h.2.2.1, qA_sAn h.2.2.2, qA_sAn h.2.1, qA_sAn h.1, qA_sI]
theorem p_nD_L {w : Int32} : qL (p_nD w k0) = qL k0 := rfl
theorem p_nD_669 {w : Int32} {D j : Nat} (hD : qI k0 630 23 = nI D) (h : D < 2600) : qA (p_nD w k0) 669 j = if j = D then w else qA k0 669 j := by
  unfold p_nD
  rw [hD, nI_clamp (by omega), qA_sAn (by decide), qA_sAn (by decide), qA_sAn (by decide), qA_sAn (by decide), qA_sAn (by decide), qA_sA, qA_sI]
  by_cases h : j = D
  · rw [if_pos ⟨rfl, h⟩, if_pos h]
  · rw [if_neg (fun h9 => h h9.2), if_neg h]
theorem p_fr.nD {kb : q_Hp} {w : Int32} {D : Nat} (F : p_fr kb k0) (hD : qI k0 630 23 = nI D) (h : D < 2600) (h2 : 1300 ≤ D) : p_fr kb (p_nD w k0) := by
  unfold p_nD
  rw [hD, nI_clamp (by omega)]
  exact ((((((F.sI rfl).sA rfl h2).sA rfl h2).sA rfl h2).sA rfl (show 3900 ≤ 3 * D by omega)).sA rfl (show 3900 ≤ 3 * D + 1 by omega)).sA rfl (show 3900 ≤ 3 * D + 2 by omega)
theorem s283 {D : Nat} {w : Int32} (Y : p_y K P X U e k0 k s) (hD : qI k0 630 23 = nI D) (h : D < 2600) : q_mI 0 283 [.ref 630, .int w] k (fun z k' => z = nI D ∧ p_y K P X U e (p_nD w k0) k' s) := by
  refine q_mI.of (q_recV rfl (Y.sh.ok rfl)) (fun Q fin => ?_)
  have ec : qI k 630 23 = nI D := (Y.I rfl).trans hD
  have cD : (nI D : Int32).toNatClampNeg = D := nI_clamp (by omega)
  have i1 : ∀ a, (decide (a ≤ 712) && (q_kd0 a).2 == 2600) = true → q_in (qI k 630 23) (qK k a).2 := fun a h9 => by rw [ec]; exact Y.sh.inN (n := 2600) h9 h (by decide)
  have i3 : ∀ j, j < 3 → (3 : Int32) * nI D + nI j = nI (3 * D + j) := fun j _ => by rw [show (3 : Int32) = nI 3 from rfl, pk_mul, nI_add]
  have a3 : ∀ (k : q_Hp) j, q_Sh k → j < 3 → q_in ((3 : Int32) * nI D + nI j) (qK k 671).2 := fun k j S hj => by rw [i3 j hj]; exact S.inN (n := 7800) rfl (by omega) (by decide)
  have c3 : ∀ j, j < 3 → ((3 : Int32) * nI D + nI j : Int32).toNatClampNeg = 3 * D + j := fun j hj => by rw [i3 j hj, nI_clamp (by omega)]
  have st : ∀ k j v, q_wp 0 283 38 [some (.ref 630), some (.int w), some (.int (nI D)), some (.int (nI (j + 1)))] [] (q_sA k 671 (3 * D + j) (-1)) Q → j < 3 → q_Sh k → v = nI j → q_wp 0 283 38 [some (.ref 630), some (.int w), some (.int (nI D)), some (.int v)] [] k Q := by
    rintro k j v w hj S rfl
    refine b283_38 (fun c => ?_) (fun _ => b283_43 (v0 := 671) (S.ok rfl) (S.ref rfl) (S.ok rfl) (a3 k j S hj) ?_)
    · have := (nI_leI (a := 3) (by decide) (by omega)).mp c
      omega
    · rw [c3 j hj, nI_1]
      exact w
  have Y1 : p_y K P X U e (p_nD w k0) (q_sA (q_sA (q_sA (q_sA (q_sA (q_sA (q_sI k 630 23 (nI D + 1)) 669 D w) 670 D 0) 672 D (-1)) 671 (3 * D) (-1)) 671 (3 * D + 1) (-1)) 671 (3 * D + 2) (-1)) s := by
    unfold p_nD
    rw [hD, cD]
    exact ((((((Y.sI rfl).sA rfl).sA rfl).sA rfl).sA rfl).sA rfl).sA rfl
  refine b283_0 (v0 := 669) (v1 := 670) (v2 := 672) (Y.sh.ok rfl) (Y.sh.ref rfl) (Y.sh.ok rfl) (i1 _ rfl) (Y.sh.ref rfl) (Y.sh.ok rfl) (i1 _ rfl) (Y.sh.ref rfl) (Y.sh.ok rfl) (i1 _ rfl) ?_
  rw [ec, cD]
  refine st _ 0 _ (st _ 1 _ (st _ 2 _ (b283_38 (fun _ => b283_60 (fin _ _ ⟨rfl, Y1⟩)) (fun c => absurd (show (3 : Int32) ≤ nI 3 by decide) c)) (by decide) Y.sh rfl) (by decide) Y.sh rfl) (by decide) Y.sh rfl
/-- where what comes next may be put -/
def p_sk (k : q_Hp) (np d : Nat) : Prop := qI k 630 80 = nI d ∧ d ≤ 9 ∧ qI k 630 21 = nI np ∧ np < 10 ∧ (qA k 688 d = -1 ∨ ∃ j, 1300 ≤ j ∧ j < 2600 ∧ qA k 688 d = nI j) ∧ (0 < d → ∃ a b, 1300 ≤ a ∧ a < 2600 ∧ b < 3 ∧ qA k 686 d = nI a ∧ qA k 687 d = nI b)
theorem p_sk.dp {np d : Nat} (H : p_sk k0 np d) : p_dp k0 = d := by
  unfold p_dp
  rw [H.1, nI_clamp (by have := H.2.1; omega)]
theorem p_fr.co {kb : q_Hp} {x : Int32} {np d : Nat} (F : p_fr kb k0) (H : p_sk k0 np d) : p_fr kb (p_co x k0) := by
  obtain ⟨h1, h2, h3, h4, h5, h6⟩ := id H
  have F1 : p_fr kb (p_co1 x k0) := by
    unfold p_co1
    rw [H.dp, h3, nI_clamp (by omega)]
    split
    · split
      · exact F.sA rfl (Nat.le_add_right 10 np)
      · obtain ⟨a, b, ha, ha2, hb, ea, eb⟩ := h6 (by omega)
        rw [ea, eb, nI_clamp (by omega), nI_clamp (by omega)]
        exact F.sA rfl (show 3900 ≤ 3 * a + b by omega)
    · next hn =>
      rcases h5 with h5 | ⟨j, hj, hj2, ej⟩
      · exact absurd h5 hn
      · rw [ej, nI_clamp (by omega)]
        exact F.sA rfl hj
  exact F1.sA rfl (Nat.zero_le _)
theorem s284 {x : Int32} {np d : Nat} (Y : p_y K P X U e k0 k s) (H : p_sk k0 np d) : q_mV 0 284 [.ref 630, .int x] k (fun k' => p_y K P X U e (p_co x k0) k' s) := by
  refine q_mV.of (q_recV rfl (Y.sh.ok rfl)) (fun Q fin => ?_)
  obtain ⟨h1, h2, h3, h4, h5, h6⟩ := id H
  have e80 : qI k 630 80 = nI d := (Y.I rfl).trans h1
  have e21 : qI k 630 21 = nI np := (Y.I rfl).trans h3
  have cd : (nI d : Int32).toNatClampNeg = d := nI_clamp (by omega)
  have a88 : qA k 688 = qA k0 688 := Y.A (by decide)
  have i10 : ∀ {k x}, q_Sh k → (decide (x ≤ 712) && (q_kd0 x).2 == 10) = true → q_in (nI d) (qK k x).2 := fun S h => S.inN (n := 10) h (by omega) (by decide)
  have g81 : ∀ k, p_y K P X U e (p_co1 x k0) k s → q_wp 0 284 81 [some (.ref 630), some (.int x)] [] k Q := by
    intro k Y
    have e80 : qI k 630 80 = nI d := by
      rw [Y.I rfl]
      unfold p_co1
      rw [← h1]
      split
      · split <;> rfl
      · rfl
    refine b284_81 (v0 := 688) (Y.sh.ok rfl) (Y.sh.ref rfl) (Y.sh.ok rfl) (by rw [e80]; exact i10 Y.sh rfl) (fin _ ?_)
    rw [e80, cd]
    unfold p_co
    rw [H.dp]
    exact Y.sA rfl
  unfold p_co1 at g81
  rw [H.dp] at g81
  refine b284_0 (v0 := 688) (Y.sh.ok rfl) (Y.sh.ref rfl) (Y.sh.ok rfl) (by rw [e80]; exact i10 Y.sh rfl) (fun c => ?_) (fun c => ?_)
  · rw [e80, cd, a88] at c
    rw [if_pos c] at g81
    refine b284_31 (Y.sh.ok rfl) (fun c2 => ?_) (fun c2 => ?_)
    · rw [e80] at c2
      have d0 : ¬ d = 0 := fun h9 => c2 (by rw [h9]; rfl)
      rw [if_neg d0] at g81
      obtain ⟨a, b, ha, ha2, hb, ea, eb⟩ := h6 (by omega)
      have q1 : qA k 686 ((qI k 630 80 : Int32).toNatClampNeg) = nI a := by rw [e80, cd, Y.A (by decide)]; exact ea
      have q2 : qA k 687 ((qI k 630 80 : Int32).toNatClampNeg) = nI b := by rw [e80, cd, Y.A (by decide)]; exact eb
      have i1 : (3 : Int32) * nI a + nI b = nI (3 * a + b) := by rw [show (3 : Int32) = nI 3 from rfl, pk_mul, nI_add]
      refine b284_54 (v0 := 671) (v1 := 686) (v2 := 687) (Y.sh.ok rfl) (Y.sh.ref rfl) (Y.sh.ref rfl) (Y.sh.ok rfl) (by rw [e80]; exact i10 Y.sh rfl) (Y.sh.ref rfl) (Y.sh.ok rfl) (by rw [e80]; exact i10 Y.sh rfl) (Y.sh.ok rfl) (by rw [q1, q2, i1]; exact Y.sh.inN (n := 7800) rfl (by omega) (by decide)) (g81 _ ?_)
      rw [q1, q2, i1, nI_clamp (by omega), ea, eb, nI_clamp (by omega), nI_clamp (by omega)]
      exact Y.sA rfl
    · rw [e80] at c2
      have d0 : d = 0 := (nI_eq (b := 0) (by omega) (by decide)).mp c2
      rw [if_pos d0] at g81
      have i1 : (10 : Int32) + nI np = nI (10 + np) := nI_add 10 np
      refine b284_38 (v0 := 673) (Y.sh.ok rfl) (Y.sh.ref rfl) (Y.sh.ok rfl) (by rw [e21, i1]; exact Y.sh.inN (n := 20) rfl (by omega) (by decide)) (g81 _ ?_)
      rw [e21, i1, nI_clamp (by omega), h3, nI_clamp (by omega)]
      exact Y.sA rfl
  · rw [e80, cd, a88] at c
    rw [if_neg c] at g81
    rcases h5 with h5 | ⟨j, hj, hj2, ej⟩
    · exact absurd h5 c
    have q1 : qA k 688 ((qI k 630 80 : Int32).toNatClampNeg) = nI j := by rw [e80, cd, a88]; exact ej
    refine b284_13 (v0 := 672) (v1 := 688) (Y.sh.ok rfl) (Y.sh.ref rfl) (Y.sh.ref rfl) (Y.sh.ok rfl) (by rw [e80]; exact i10 Y.sh rfl) (Y.sh.ok rfl) (by rw [q1]; exact Y.sh.inN (n := 2600) rfl hj2 (by decide)) (g81 _ ?_)
    rw [q1, ej]
    exact Y.sA rfl
/-- like another heap but for what names that wait are kept in -/
def p_kn (k k' : q_Hp) : Prop := (∀ a, ¬ a = 689 → ¬ a = 690 → qA k' a = qA k a) ∧ (∀ j, ¬ j = 84 → qI k' 630 j = qI k 630 j) ∧ qL k' = qL k
theorem s285 {x : Int32} {C : Nat} (Y : p_y K P X U e k0 k s) (hC : qI k0 630 84 = nI C) (h : C < 1300) : q_mV 3 285 [.ref 630, .int x] k (fun k' => ∃ k1, p_y K P X U e k1 k' (y_nd K 40 s) ∧ p_fr k0 k1 ∧ p_kn k0 k1 ∧ ((y_nd K 40 s).2 = 0 → k1 = p_nm s.1 x k0)) := by
  refine q_mV.of (q_recV rfl (Y.sh.ok rfl)) (fun Q fin => ?_)
  have ec : qI k 630 84 = nI C := (Y.I rfl).trans hC
  have cC : (nI C : Int32).toNatClampNeg = C := nI_clamp (by omega)
  have hx := Y.t0
  generalize ex : qI k 630 11 = t at hx
  have Y1 := (Y.sA (a := 689) (i := C) (v := t) rfl).sA (a := 690) (i := C) (v := x) rfl
  have F1 : p_fr k0 (q_sA (q_sA k0 689 C t) 690 C x) := (p_fr.rf.sA rfl (Nat.zero_le _)).sA rfl (Nat.zero_le _)
  have N1 : p_kn k0 (q_sA (q_sA k0 689 C t) 690 C x) := ⟨fun a h1 h2 => by rw [qA_sAn h2, qA_sAn h1], fun _ _ => rfl, rfl⟩
  refine b285_0 (v0 := 689) (v1 := 690) (Y.sh.ok rfl) (Y.sh.ref rfl) (Y.sh.ok rfl) (by rw [ec]; exact Y.sh.inN (n := 1300) rfl h (by decide)) (Y.sh.ref rfl) (Y.sh.ok rfl) (by rw [ec]; exact Y.sh.inN (n := 1300) rfl h (by decide)) (m := 2) (P := fun k' => p_y K P X U e (q_sA (q_sA k0 689 C t) 690 C x) k' (y_nd K 40 s)) (by rw [ec, cC, ex]; exact s253 (c := 40) Y1 (by decide) rfl) (by decide) ?_
  intro k Y
  refine b285_28 (Y.sh.ok rfl) (fun z => b285_45 (fin _ ⟨_, Y, F1, N1, fun h9 => absurd (Y.z.mpr h9) z⟩)) (fun z => b285_35 (Y.sh.ok rfl) (b285_45 (fin _ ⟨q_sI (q_sA (q_sA k0 689 C t) 690 C x) 630 84 (nI (C + 1)), ?_, F1.sI rfl, ⟨N1.1, fun j hj => (q_sI_n (fun h9 => hj h9.2)).trans (N1.2.1 j hj), N1.2.2⟩, fun h9 => ?_⟩)))
  · have e84 : qI k 630 84 = nI C := (Y.I rfl).trans hC
    rw [e84, nI_1]
    exact Y.sI rfl
  · unfold p_nm
    rw [hC, cC, nI_1, hx (y_nd_z h9)]
end PO
