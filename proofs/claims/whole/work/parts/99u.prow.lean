/-! THE PARSE OF THE REFERENCE: rows of dos, without its cells -/
def p_ks (a : Nat) : Bool := (decide (669 ≤ a) && decide (a ≤ 673)) || (decide (686 ≤ a) && decide (a ≤ 690))
/-- what a row of dos leaves as it is -/
def p_Ko (k k' : q_Hp) : Prop := (∀ j, ¬ j = 12 ∧ ¬ j = 15 ∧ ¬ j = 16 ∧ ¬ j = 23 ∧ ¬ j = 80 ∧ ¬ j = 84 → qI k' 630 j = qI k 630 j) ∧ (∀ x, p_ks x = false → qA k' x = qA k x) ∧ qL k' = qL k
theorem p_Ko.rf {k : q_Hp} : p_Ko k k := ⟨fun _ _ => rfl, fun _ _ => rfl, rfl⟩
theorem p_Ko.trans {k k1 k2 : q_Hp} (a : p_Ko k k1) (b : p_Ko k1 k2) : p_Ko k k2 := ⟨fun j h => (b.1 j h).trans (a.1 j h), fun x h => (b.2.1 x h).trans (a.2.1 x h), b.2.2.trans a.2.2⟩
theorem p_Ko.sA {k k1 : q_Hp} {a i : Nat} {v : Int32} (F : p_Ko k k1) (h : p_ks a = true) : p_Ko k (q_sA k1 a i v) := ⟨F.1, fun x hx => by rw [qA_sAn (fun h9 => by rw [h9, h] at hx; cases hx)]; exact F.2.1 x hx, F.2.2⟩
theorem p_Ko.sI {k k1 : q_Hp} {j : Nat} {v : Int32} (F : p_Ko k k1) (h : j = 12 ∨ j = 15 ∨ j = 16 ∨ j = 23 ∨ j = 80 ∨ j = 84) : p_Ko k (q_sI k1 630 j v) := ⟨fun i hi => by rw [q_sI_n (by omega)]; exact F.1 i hi, F.2.1, F.2.2⟩
theorem p_Ko.nD {k k1 : q_Hp} {w : Int32} (F : p_Ko k k1) : p_Ko k (p_nD w k1) := ((((((F.sI (by omega)).sA rfl).sA rfl).sA rfl).sA rfl).sA rfl).sA rfl
theorem p_Ko.co {k k1 : q_Hp} {x : Int32} (F : p_Ko k k1) : p_Ko k (p_co x k1) := by
  unfold p_co p_co1
  refine p_Ko.sA ?_ rfl
  split
  · split
    · exact F.sA rfl
    · exact F.sA rfl
  · exact F.sA rfl
theorem p_Ko.nm {k k1 : q_Hp} {i : Nat} {x : Int32} (F : p_Ko k k1) : p_Ko k (p_nm i x k1) := ((F.sA rfl).sA rfl).sI (by omega)
theorem p_Ko.wr {k k1 : q_Hp} {P : Nat → Nat} {n i : Nat} (F : p_Ko k k1) : p_Ko k (p_wr P n i k1) := by
  unfold p_wr
  split
  · exact (F.sI (by omega)).sI (by omega)
  · exact F
theorem p_Ko.a1 {k k1 : q_Hp} {last : Int32} {D0 i : Nat} (F : p_Ko k k1) : p_Ko k (p_a1 last D0 i k1) := by
  unfold p_a1
  split
  · exact F.nD.nm.sA rfl
  · exact F.nD.nm.sA rfl
theorem p_Ko.av {k : q_Hp} {K : Nat → Nat} {D0 : Nat} : ∀ m last s k1, p_Ko k k1 → p_Ko k (p_av K m last D0 s k1) := by
  intro m
  induction m with
  | zero => intro last s k1 F; exact F.a1
  | succ m ih =>
    intro last s k1 F
    unfold p_av
    split
    · exact ih _ _ _ F.a1
    · exact F.a1
theorem p_Ko.op {k k1 : q_Hp} {o : Nat} {s : y_S} (F : p_Ko k k1) : p_Ko k (p_op k1 o s) := by
  unfold p_op
  split
  · exact F.sI (by omega)
  · exact F
theorem p_Ko.w0 {k k1 : q_Hp} {K P X : Nat → Nat} {d : Nat} {s : y_S} (F : p_Ko k k1) : p_Ko k (p_w0 K P X d s k1) := by
  unfold p_w0
  split
  · unfold p_yw
    split
    · exact F.op.nD.sA rfl
    · exact (F.op.nD.sA rfl).wr
  · exact F.op.nD
theorem p_Ko.w1 {k k1 : q_Hp} {K P X : Nat → Nat} {d : Nat} {s : y_S} (F : p_Ko k k1) : p_Ko k (p_w1 K P X d s k1) := (((F.w0.co.sI (by omega)).sA rfl).sA rfl).sA rfl
theorem p_Ko.w2 {k k1 : q_Hp} {d : Nat} (F : p_Ko k k1) : p_Ko k (p_w2 d k1) := (F.sA rfl).sA rfl
theorem p_Ko.w3 {k k1 : q_Hp} {d : Nat} (F : p_Ko k k1) : p_Ko k (p_w3 d k1) := (F.sI (by omega)).sI (by omega)
/-- what a row at a depth leaves of the frames, and of the dos ahead -/
def p_Kp (d D : Nat) (k k' : q_Hp) : Prop := (∀ i, i ≤ d → qA k' 686 i = qA k 686 i) ∧ (∀ i, i < d → qA k' 687 i = qA k 687 i ∧ qA k' 688 i = qA k 688 i) ∧ (∀ j, j < D → qA k' 669 j = qA k 669 j) ∧ p_Ko k k'
theorem p_Kp.rf {k : q_Hp} {d D : Nat} : p_Kp d D k k := ⟨fun _ _ => rfl, fun _ _ => ⟨rfl, rfl⟩, fun _ _ => rfl, p_Ko.rf⟩
theorem p_Kp.trans {k k1 k2 : q_Hp} {d D D' : Nat} (a : p_Kp d D k k1) (b : p_Kp d D' k1 k2) (h : D ≤ D') : p_Kp d D k k2 := ⟨fun i hi => (b.1 i hi).trans (a.1 i hi), fun i hi => ⟨((b.2.1 i hi).1).trans (a.2.1 i hi).1, ((b.2.1 i hi).2).trans (a.2.1 i hi).2⟩, fun j hj => (b.2.2.1 j (by omega)).trans (a.2.2.1 j hj), a.2.2.2.trans b.2.2.2⟩
/-- so many dos and names that wait, so deep -/
def p_PS (np D C d : Nat) (k : q_Hp) : Prop := p_sk k np d ∧ p_DC D C k ∧ qI k 630 12 = nI d ∧ 1300 ≤ D
section PO
variable {K P X : Nat → Nat} {U : Nat → Int64} {e : Nat} {k0 k : q_Hp} {s : y_S}
theorem p_co_A {x : Int32} {a : Nat} (h : ¬ a = 671 ∧ ¬ a = 672 ∧ ¬ a = 673 ∧ ¬ a = 688) : qA (p_co x k0) a = qA k0 a := by
  unfold p_co p_co1
  rw [qA_sAn h.2.2.2]
  split
  · split
    · exact qA_sAn h.2.2.1
    · exact qA_sAn h.1
  · exact qA_sAn h.2.1
theorem p_co_I {x : Int32} : qI (p_co x k0) = qI k0 := by
  unfold p_co p_co1
  rw [qI_sA]
  split
  · split <;> rfl
  · rfl
theorem p_co_688 {x : Int32} {j : Nat} : qA (p_co x k0) 688 j = if j = p_dp k0 then x else qA k0 688 j := by
  unfold p_co
  rw [qA_sA]
  by_cases h : j = p_dp k0
  · rw [if_pos ⟨rfl, h⟩, if_pos h]
  · rw [if_neg (fun h9 => h h9.2), if_neg h]
    unfold p_co1
    split
    · split
      · rw [qA_sAn (by decide)]
      · rw [qA_sAn (by decide)]
    · rw [qA_sAn (by decide)]
/-- behind a do that comes in its row -/
theorem p_PS.co {np D C d a : Nat} {k' : q_Hp} (H : p_PS np D C d k0) (h2 : ∀ x, x = 686 ∨ x = 687 ∨ x = 688 → qA k' x = qA k0 x) (h3 : ∀ j, j = 80 ∨ j = 21 ∨ j = 12 → qI k' 630 j = qI k0 630 j) {D' C' : Nat} (HD : p_DC D' C' k') (hD : D ≤ D') (h4 : ∀ j, j < D → qA k' 669 j = qA k0 669 j) (hO : p_Ko k0 k') (ha : 1300 ≤ a) (ha2 : a < 2600) : p_PS np D' C' d (p_co (nI a) k') ∧ p_Kp d D k0 (p_co (nI a) k') ∧ qA (p_co (nI a) k') 687 d = qA k0 687 d ∧ qA (p_co (nI a) k') 688 d = nI a := by
  obtain ⟨H1, H2, H3, H4⟩ := H
  have H1' : p_sk k' np d := H1.c (fun j h => h3 j (by omega)) h2
  have dp := H1'.dp
  obtain ⟨q1, q2, q3, q4, q5, q6⟩ := id H1'
  refine ⟨⟨⟨?_, q2, ?_, q4, Or.inr ⟨a, ha, ha2, ?_⟩, ?_⟩, ?_, ?_, by omega⟩, ⟨fun i hi => ?_, fun i hi => ⟨?_, ?_⟩, fun j hj => ?_, hO.co⟩, ?_, ?_⟩
  · rw [p_co_I]; exact q1
  · rw [p_co_I]; exact q3
  · rw [p_co_688, if_pos dp.symm]
  · rw [p_co_A (by decide), p_co_A (by decide)]; exact q6
  · unfold p_DC
    rw [p_co_I]; exact HD
  · rw [p_co_I, h3 12 (by omega)]; exact H3
  · rw [p_co_A (by decide), h2 686 (by omega)]
  · rw [p_co_A (by decide), h2 687 (by omega)]
  · rw [p_co_688, dp, if_neg (by omega), h2 688 (by omega)]
  · rw [p_co_A (by decide)]; exact h4 j hj
  · rw [p_co_A (by decide), h2 687 (by omega)]
  · rw [p_co_688, if_pos dp.symm]
theorem p_PS.dc {np D C d : Nat} (H : p_PS np D C d k0) (h : D < 2600) : p_PS np (D + 1) (C + 1) d (p_dc K s k0) ∧ p_Kp d D k0 (p_dc K s k0) ∧ qA (p_dc K s k0) 687 d = qA k0 687 d := by
  obtain ⟨H1, H2, H3, H4⟩ := id H
  unfold p_dc
  have e1 : qI (p_nD (if K s.1 = 15 then 0 else if K s.1 = 16 then 1 else 3) k0) 630 84 = nI C := (p_nD_I (by decide)).trans H2.2
  have e2 : qI (p_nD (if K s.1 = 15 then 0 else if K s.1 = 16 then 1 else 3) k0) 630 23 = nI (D + 1) := by rw [p_nD_23, H2.1, nI_1]
  have := H.co (a := D) (k' := p_nm (s.1 + 1) (nI D) (p_nD (if K s.1 = 15 then 0 else if K s.1 = 16 then 1 else 3) k0)) (D' := D + 1) (C' := C + 1) (fun x hx => by unfold p_nm; rw [qA_sI, qA_sAn (by omega), qA_sAn (by omega), p_nD_A (by omega)]) (fun j hj => by unfold p_nm; rw [q_sI_n (by omega), qI_sA, qI_sA, p_nD_I (by omega)]) ⟨by unfold p_nm; rw [q_sI_n (by omega), qI_sA, qI_sA]; exact e2, by unfold p_nm; rw [q_sI_e, e1, nI_1]⟩ (by omega) (fun j hj => by unfold p_nm; rw [qA_sI, qA_sAn (by decide), qA_sAn (by decide), p_nD_669 H2.1 h, if_neg (by omega)]) p_Ko.rf.nD.nm H4 h
  rw [H2.1]
  exact ⟨this.1, this.2.1, this.2.2.1⟩
theorem p_PS.fa {np D C d : Nat} (H : p_PS np D C d k0) (h : D < 2600) : p_PS np (D + 1) C d (p_fa k0) ∧ p_Kp d D k0 (p_fa k0) ∧ qA (p_fa k0) 687 d = qA k0 687 d := by
  obtain ⟨H1, H2, H3, H4⟩ := id H
  unfold p_fa
  have := H.co (a := D) (k' := p_nD 4 k0) (D' := D + 1) (C' := C) (fun x hx => p_nD_A (by omega)) (fun j hj => p_nD_I (by omega)) ⟨by rw [p_nD_23, H2.1, nI_1], (p_nD_I (by decide)).trans H2.2⟩ (by omega) (fun j hj => by rw [p_nD_669 H2.1 h, if_neg (by omega)]) p_Ko.rf.nD H4 h
  rw [H2.1]
  exact ⟨this.1, this.2.1, this.2.2.1⟩
theorem p_av_A {D0 x : Nat} (h : ¬ x = 669 ∧ ¬ x = 670 ∧ ¬ x = 671 ∧ ¬ x = 672 ∧ ¬ x = 689 ∧ ¬ x = 690) : ∀ m last s k0, qA (p_av K m last D0 s k0) x = qA k0 x := by
  intro m
  induction m with
  | zero => intro last s k0; exact p_a1_A h
  | succ m ih =>
    intro last s k0
    unfold p_av
    split
    · exact (ih _ _ _).trans (p_a1_A h)
    · exact p_a1_A h
theorem p_av_I {D0 j : Nat} (h : ¬ j = 23 ∧ ¬ j = 84) : ∀ m last s k0, qI (p_av K m last D0 s k0) 630 j = qI k0 630 j := by
  intro m
  induction m with
  | zero => intro last s k0; exact p_a1_I h
  | succ m ih =>
    intro last s k0
    unfold p_av
    split
    · exact (ih _ _ _).trans (p_a1_I h)
    · exact p_a1_I h
theorem p_PS.an {np D C d D' C' : Nat} (H : p_PS np D C d k0) (h : D < 2600) (HD : p_DC D' C' (p_an K s k0)) (hD : D ≤ D') (h4 : ∀ j, j < D → qA (p_an K s k0) 669 j = qA k0 669 j) : p_PS np D' C' d (p_an K s k0) ∧ p_Kp d D k0 (p_an K s k0) ∧ qA (p_an K s k0) 687 d = qA k0 687 d := by
  obtain ⟨H1, H2, H3, H4⟩ := id H
  unfold p_an at HD h4 ⊢
  rw [H2.1, nI_clamp (by omega)] at HD h4 ⊢
  have HD' : p_DC D' C' (p_av K 1201 (-1) D (y_ps s) (p_nD 2 k0)) := by
    unfold p_DC at HD ⊢
    rw [p_co_I] at HD
    exact HD
  have h4' : ∀ j, j < D → qA (p_av K 1201 (-1) D (y_ps s) (p_nD 2 k0)) 669 j = qA k0 669 j := fun j hj => by
    have := h4 j hj
    rw [p_co_A (by decide)] at this
    exact this
  have := H.co (a := D) (fun x hx => (p_av_A (by omega) _ _ _ _).trans (p_nD_A (by omega))) (fun j hj => (p_av_I (by omega) _ _ _ _).trans (p_nD_I (by omega))) HD' hD h4' (p_Ko.av _ _ _ _ p_Ko.rf.nD) H4 h
  exact ⟨this.1, this.2.1, this.2.2.1⟩
theorem p_w0_A {d x : Nat} (h : ¬ x = 669 ∧ ¬ x = 670 ∧ ¬ x = 671 ∧ ¬ x = 672) : qA (p_w0 K P X d s k0) x = qA k0 x := by
  unfold p_w0
  split
  · rw [p_yw_A h.2.1, p_nD_A h, p_op_A]
  · rw [p_nD_A h, p_op_A]
theorem p_w0_I {d j : Nat} (h : ¬ j = 12 ∧ ¬ j = 15 ∧ ¬ j = 16 ∧ ¬ j = 23) : qI (p_w0 K P X d s k0) 630 j = qI k0 630 j := by
  unfold p_w0
  split
  · rw [p_yw_I ⟨h.2.1, h.2.2.1⟩, p_nD_I h.2.2.2, p_op_I h.1]
  · rw [p_nD_I h.2.2.2, p_op_I h.1]
theorem p_w0_L {d : Nat} : qL (p_w0 K P X d s k0) = qL k0 := p_Ko.rf.w0.2.2
theorem p_w0_12 {d : Nat} (hs : s.2 = 0) (h : d < 8) : qI (p_w0 K P X d s k0) 630 12 = nI (d + 1) := by
  have : qI (p_op k0 d s) 630 12 = nI (d + 1) := by
    unfold p_op
    rw [if_pos ⟨hs, h⟩, q_sI_e]
  unfold p_w0
  split
  · rw [p_yw_I (by decide), p_nD_I (by decide), this]
  · rw [p_nD_I (by decide), this]
theorem p_w0_23 {d D : Nat} (h : qI k0 630 23 = nI D) : qI (p_w0 K P X d s k0) 630 23 = nI (D + 1) := by
  unfold p_w0
  split
  · rw [p_yw_I (by decide), p_nD_23, p_op_I (by decide), h, nI_1]
  · rw [p_nD_23, p_op_I (by decide), h, nI_1]
theorem p_w0_669 {d D j : Nat} (h : qI k0 630 23 = nI D) (hD : D < 2600) : qA (p_w0 K P X d s k0) 669 j = if j = D then p_wk K s else qA k0 669 j := by
  have e : qA (p_nD (p_wk K s) (p_op k0 d s)) 669 j = if j = D then p_wk K s else qA k0 669 j := by
    rw [p_nD_669 ((p_op_I (by decide)).trans h) hD, p_op_A]
  unfold p_w0
  split
  · rw [p_yw_A (by decide)]; exact e
  · exact e
/-- behind a row that is opened -/
theorem p_PS.w1 {np D C d : Nat} (H : p_PS np D C d k0) (h : D < 2600) (hs : s.2 = 0) (h8 : d < 8) : p_PS np (D + 1) C (d + 1) (p_w1 K P X d s k0) ∧ p_Kp d D k0 (p_w1 K P X d s k0) ∧ qA (p_w1 K P X d s k0) 687 d = qA k0 687 d ∧ qA (p_w1 K P X d s k0) 688 d = nI D ∧ p_tp (p_w1 K P X d s k0) (d + 1) (p_wk K s) 0 := by
  obtain ⟨H1, H2, H3, H4⟩ := id H
  have H1' : p_sk (p_w0 K P X d s k0) np d := H1.c (fun j hj => p_w0_I (by omega)) (fun x hx => p_w0_A (by omega))
  have dp := H1'.dp
  have A1 : ∀ {x}, ¬ x = 686 ∧ ¬ x = 687 ∧ ¬ x = 688 → qA (p_w1 K P X d s k0) x = qA (p_co (qI k0 630 23) (p_w0 K P X d s k0)) x := by
    intro x hx
    unfold p_w1
    rw [qA_sAn hx.2.2, qA_sAn hx.2.1, qA_sAn hx.1, qA_sI]
  have E6 : ∀ j, qA (p_w1 K P X d s k0) 686 j = if j = d + 1 then nI D else qA k0 686 j := by
    intro j
    unfold p_w1
    rw [qA_sAn (by decide), qA_sAn (by decide), qA_sA, qA_sI, p_co_A (by decide), p_w0_A (by decide), H2.1]
    by_cases h9 : j = d + 1
    · rw [if_pos ⟨rfl, h9⟩, if_pos h9]
    · rw [if_neg (fun h8 => h9 h8.2), if_neg h9]
  have E7 : ∀ j, qA (p_w1 K P X d s k0) 687 j = if j = d + 1 then 0 else qA k0 687 j := by
    intro j
    unfold p_w1
    rw [qA_sAn (by decide), qA_sA, qA_sAn (by decide), qA_sI, p_co_A (by decide), p_w0_A (by decide)]
    by_cases h9 : j = d + 1
    · rw [if_pos ⟨rfl, h9⟩, if_pos h9]
    · rw [if_neg (fun h8 => h9 h8.2), if_neg h9]
  have E8 : ∀ j, qA (p_w1 K P X d s k0) 688 j = if j = d + 1 then -1 else if j = d then nI D else qA k0 688 j := by
    intro j
    unfold p_w1
    rw [qA_sA, qA_sAn (by decide), qA_sAn (by decide), qA_sI]
    by_cases h9 : j = d + 1
    · rw [if_pos ⟨rfl, h9⟩, if_pos h9]
    · rw [if_neg (fun h8 => h9 h8.2), if_neg h9, p_co_688, dp, p_w0_A (by decide), H2.1]
  have E9 : ∀ j, qA (p_w1 K P X d s k0) 669 j = if j = D then p_wk K s else qA k0 669 j := by
    intro j
    rw [A1 (by decide), p_co_A (by decide), p_w0_669 H2.1 h]
  have I1 : ∀ {j}, ¬ j = 80 → qI (p_w1 K P X d s k0) 630 j = qI (p_w0 K P X d s k0) 630 j := by
    intro j hj
    unfold p_w1
    rw [qI_sA, qI_sA, qI_sA, q_sI_n (fun h9 => hj h9.2), p_co_I]
  have d9 := H1.2.1
  refine ⟨⟨⟨by unfold p_w1; rw [qI_sA, qI_sA, qI_sA, q_sI_e], by omega, ?_, H1.2.2.2.1, Or.inl ?_, fun _ => ⟨D, 0, H4, h, by decide, ?_, ?_⟩⟩, ⟨?_, ?_⟩, ?_, by omega⟩, ⟨fun i hi => ?_, fun i hi => ⟨?_, ?_⟩, fun j hj => ?_, p_Ko.rf.w1⟩, ?_, ?_, D, H4, h, ?_, ?_, ?_, by decide⟩
  · rw [I1 (by decide), p_w0_I (by decide)]; exact H1.2.2.1
  · rw [E8, if_pos rfl]
  · rw [E6, if_pos rfl]
  · rw [E7, if_pos rfl]; rfl
  · rw [I1 (by decide), p_w0_23 H2.1]
  · rw [I1 (by decide), p_w0_I (by decide)]; exact H2.2
  · rw [I1 (by decide), p_w0_12 hs h8]
  · rw [E6, if_neg (by omega)]
  · rw [E7, if_neg (by omega)]
  · rw [E8, if_neg (by omega), if_neg (by omega)]
  · rw [E9, if_neg (by omega)]
  · rw [E7, if_neg (by omega)]
  · rw [E8, if_neg (by omega), if_pos rfl]
  · rw [E6, if_pos rfl]
  · rw [E9, if_pos rfl]
  · rw [E7, if_pos rfl]; rfl
/-- behind the other row of a try that is begun -/
theorem p_PS.w2 {np D C d b : Nat} {w : Int32} (H : p_PS np D C d k0) (T : p_tp k0 d w b) (hb : b < 2) : p_PS np D C d (p_w2 d k0) ∧ p_Kp d D k0 (p_w2 d k0) ∧ p_tp (p_w2 d k0) d w (b + 1) := by
  obtain ⟨H1, H2, H3, H4⟩ := id H
  obtain ⟨a, ha, ha2, t1, t2, t3, t4⟩ := T
  have E7 : ∀ j, qA (p_w2 d k0) 687 j = if j = d then nI (b + 1) else qA k0 687 j := by
    intro j
    unfold p_w2
    rw [qA_sAn (by decide), qA_sA, t3, nI_1]
    by_cases h9 : j = d
    · rw [if_pos ⟨rfl, h9⟩, if_pos h9]
    · rw [if_neg (fun h8 => h9 h8.2), if_neg h9]
  have E8 : ∀ j, qA (p_w2 d k0) 688 j = if j = d then -1 else qA k0 688 j := by
    intro j
    unfold p_w2
    rw [qA_sA, qA_sAn (by decide)]
    by_cases h9 : j = d
    · rw [if_pos ⟨rfl, h9⟩, if_pos h9]
    · rw [if_neg (fun h8 => h9 h8.2), if_neg h9]
  have A1 : ∀ {x}, ¬ x = 687 ∧ ¬ x = 688 → qA (p_w2 d k0) x = qA k0 x := by
    intro x hx
    unfold p_w2
    rw [qA_sAn hx.2, qA_sAn hx.1]
  refine ⟨⟨⟨H1.1, H1.2.1, H1.2.2.1, H1.2.2.2.1, Or.inl ?_, fun _ => ⟨a, b + 1, ha, ha2, by omega, ?_, ?_⟩⟩, H2, H3, H4⟩, ⟨fun i hi => ?_, fun i hi => ⟨?_, ?_⟩, fun j hj => ?_, p_Ko.rf.w2⟩, a, ha, ha2, ?_, ?_, ?_, by omega⟩
  · rw [E8, if_pos rfl]
  · rw [A1 (by decide)]; exact t1
  · rw [E7, if_pos rfl]
  · rw [A1 (by decide)]
  · rw [E7, if_neg (by omega)]
  · rw [E8, if_neg (by omega)]
  · rw [A1 (by decide)]
  · rw [A1 (by decide)]; exact t1
  · rw [A1 (by decide)]; exact t2
  · rw [E7, if_pos rfl]
end PO
