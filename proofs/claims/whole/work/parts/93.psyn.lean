/-! THE PARSE OF THE REFERENCE: its tokens, and where it is in them -/
/-- the reference's tokens -/
def p_C (k : q_Hp) (K P X : Nat → Nat) (U : Nat → Int64) (e : Nat) : Prop := ∀ i, i ≤ e → K i ≤ 43 ∧ P i ≤ 4000 ∧ qA k 633 i = nI (t_ph (K i)) ∧ qA k 634 i = nI (P i) ∧ (K i = 41 → qA k 635 i = nI (X i) ∧ X i < 2 ^ 31) ∧ (K i = 40 → qL k 636 i = U i)
/-- where it is: like k0 but for its place, its fault and its fault's place -/
def p_y (K P X : Nat → Nat) (U : Nat → Int64) (e : Nat) (k0 k : q_Hp) (s : y_S) : Prop := q_Sh k ∧ p_C k K P X U e ∧ y_OK K e ∧ q_Ef [630] k0 k ∧ (∀ j, ¬ j = 11 → ¬ j = 13 → ¬ j = 14 → qI k 630 j = qI k0 630 j) ∧ (∃ t, t ≤ 1200 ∧ qI k 630 11 = nI t ∧ (s.2 = 0 → t = s.1)) ∧ qI k 630 13 = nI s.2 ∧ (¬ s.2 = 0 → qI k 630 14 = nI (P s.1)) ∧ s.1 ≤ e ∧ s.2 ≤ 2
theorem p_C.ef {k k' : q_Hp} {K P X : Nat → Nat} {U : Nat → Int64} {e : Nat} (C : p_C k K P X U e) {S : List Nat} (E : q_Ef S k k') (h3 : 633 ∉ S) (h4 : 634 ∉ S) (h5 : 635 ∉ S) (h6 : 636 ∉ S) : p_C k' K P X U e := by
  unfold p_C
  rw [E.A h3, E.A h4, E.A h5, E.L h6]
  exact C
section PY
variable {K P X : Nat → Nat} {U : Nat → Int64} {e : Nat} {k0 k : q_Hp} {s : y_S}
theorem p_y.sh (Y : p_y K P X U e k0 k s) : q_Sh k := Y.1
theorem p_y.C (Y : p_y K P X U e k0 k s) : p_C k K P X U e := Y.2.1
theorem p_y.O (Y : p_y K P X U e k0 k s) : y_OK K e := Y.2.2.1
theorem p_y.E (Y : p_y K P X U e k0 k s) : q_Ef [630] k0 k := Y.2.2.2.1
theorem p_y.e12 (Y : p_y K P X U e k0 k s) : e ≤ 1200 := Y.2.2.1.2.2
theorem p_y.I (Y : p_y K P X U e k0 k s) {j : Nat} (h : (decide (j = 11) || decide (j = 13) || decide (j = 14)) = false) : qI k 630 j = qI k0 630 j := by
  simp only [Bool.or_eq_false_iff, decide_eq_false_iff_not] at h
  exact Y.2.2.2.2.1 j h.1.1 h.1.2 h.2
theorem p_y.A (Y : p_y K P X U e k0 k s) {a : Nat} (h : ¬ a = 630) : qA k a = qA k0 a := Y.E.A (by simp; exact h)
theorem p_y.L (Y : p_y K P X U e k0 k s) {a : Nat} (h : ¬ a = 630) : qL k a = qL k0 a := Y.E.L (by simp; exact h)
theorem p_y.t (Y : p_y K P X U e k0 k s) : ∃ t, t ≤ 1200 ∧ qI k 630 11 = nI t ∧ (s.2 = 0 → t = s.1) := Y.2.2.2.2.2.1
theorem p_y.f (Y : p_y K P X U e k0 k s) : qI k 630 13 = nI s.2 := Y.2.2.2.2.2.2.1
theorem p_y.fp (Y : p_y K P X U e k0 k s) : ¬ s.2 = 0 → qI k 630 14 = nI (P s.1) := Y.2.2.2.2.2.2.2.1
theorem p_y.le (Y : p_y K P X U e k0 k s) : s.1 ≤ e := Y.2.2.2.2.2.2.2.2.1
theorem p_y.f2 (Y : p_y K P X U e k0 k s) : s.2 ≤ 2 := Y.2.2.2.2.2.2.2.2.2
theorem p_y.t0 (Y : p_y K P X U e k0 k s) (h : s.2 = 0) : qI k 630 11 = nI s.1 := by
  obtain ⟨t, _, a, b⟩ := Y.t
  rw [a, b h]
theorem p_y.ok (Y : p_y K P X U e k0 k s) : q_Sh k0 := by
  obtain ⟨S, _, _, E, _⟩ := Y
  exact ⟨E.1.symm.trans S.1, fun x hx => by rw [← E.2.2.1]; exact S.2.1 x hx, fun o j h1 h2 h3 => (E.2.2.2.1 o j h2).symm.trans (S.2.2 o j h1 h2 h3)⟩
/-- the fault asked for: none -/
theorem p_y.z (Y : p_y K P X U e k0 k s) : qI k 630 13 = 0 ↔ s.2 = 0 := by
  rw [Y.f]
  have := Y.f2
  exact nI_eq (b := 0) (by omega) (by decide)
theorem p_y.z1 (Y : p_y K P X U e k0 k s) : qI k 630 13 ≤ 0 ↔ s.2 = 0 := by
  rw [Y.f]
  have := Y.f2
  exact (nI_leI (b := 0) (by omega) (by decide)).trans (by omega)
theorem p_y.tk (Y : p_y K P X U e k0 k s) {i : Nat} (hi : i ≤ e) : K i ≤ 43 ∧ P i ≤ 4000 ∧ qA k 633 i = nI (t_ph (K i)) ∧ qA k 634 i = nI (P i) ∧ (K i = 41 → qA k 635 i = nI (X i) ∧ X i < 2 ^ 31) ∧ (K i = 40 → qL k 636 i = U i) := Y.C i hi
theorem p_y.sA {a i : Nat} {v : Int32} (Y : p_y K P X U e k0 k s) (h : (decide (633 ≤ a) && decide (a ≤ 635)) = false) : p_y K P X U e (q_sA k0 a i v) (q_sA k a i v) s := by
  have h1 : ¬ (633 ≤ a ∧ a ≤ 635) := by
    intro h9
    rw [decide_eq_true h9.1, decide_eq_true h9.2] at h
    exact absurd h (by decide)
  obtain ⟨S, C, O, E, F, T⟩ := Y
  refine ⟨S, fun j hj => ?_, O, ⟨E.1, E.2.1, E.2.2.1, E.2.2.2.1, fun x hx => ⟨(E.2.2.2.2 x hx).1, (E.2.2.2.2 x hx).2.1, ?_, (E.2.2.2.2 x hx).2.2.2⟩⟩, F, T⟩
  · obtain ⟨c1, c2, c3, c4, c5, c6⟩ := C j hj
    refine ⟨c1, c2, ?_, ?_, fun h9 => ?_, c6⟩
    · rw [qA_sA, if_neg (by omega)]; exact c3
    · rw [qA_sA, if_neg (by omega)]; exact c4
    · rw [qA_sA, if_neg (by omega)]; exact c5 h9
  · have := (E.2.2.2.2 x hx).2.2.1
    funext j
    show (if x = a ∧ j = i then v else qA k x j) = if x = a ∧ j = i then v else qA k0 x j
    rw [this]
theorem p_y.sL {a i : Nat} {v : Int64} (Y : p_y K P X U e k0 k s) (h : (decide (a = 636)) = false) : p_y K P X U e (q_sL k0 a i v) (q_sL k a i v) s := by
  have h1 : ¬ a = 636 := of_decide_eq_false h
  obtain ⟨S, C, O, E, F, T⟩ := Y
  refine ⟨S, fun j hj => ?_, O, ⟨E.1, E.2.1, E.2.2.1, E.2.2.2.1, fun x hx => ⟨(E.2.2.2.2 x hx).1, (E.2.2.2.2 x hx).2.1, (E.2.2.2.2 x hx).2.2.1, ?_⟩⟩, F, T⟩
  · obtain ⟨c1, c2, c3, c4, c5, c6⟩ := C j hj
    refine ⟨c1, c2, c3, c4, c5, fun h9 => ?_⟩
    rw [qL_sL, if_neg (by omega)]; exact c6 h9
  · have := (E.2.2.2.2 x hx).2.2.2
    funext j
    show (if x = a ∧ j = i then v else qL k x j) = if x = a ∧ j = i then v else qL k0 x j
    rw [this]
theorem p_y.sI {j : Nat} {v : Int32} (Y : p_y K P X U e k0 k s) (h : (decide (j = 11) || decide (j = 13) || decide (j = 14)) = false) : p_y K P X U e (q_sI k0 630 j v) (q_sI k 630 j v) s := by
  simp only [Bool.or_eq_false_iff, decide_eq_false_iff_not] at h
  obtain ⟨S, C, O, E, F, ⟨t, t1, t2, t3⟩, y1, y2, y3⟩ := Y
  refine ⟨S, C, O, ⟨E.1, E.2.1, E.2.2.1, E.2.2.2.1, fun x hx => ⟨?_, (E.2.2.2.2 x hx).2⟩⟩, fun i h1 h2 h3 => ?_, ⟨t, t1, ?_, t3⟩, ?_, fun h9 => ?_, y3⟩
  · have := (E.2.2.2.2 x hx).1
    funext i
    show (if x = 630 ∧ i = j then v else qI k x i) = if x = 630 ∧ i = j then v else qI k0 x i
    rw [this]
  · show (if 630 = 630 ∧ i = j then v else qI k 630 i) = if 630 = 630 ∧ i = j then v else qI k0 630 i
    rw [F i h1 h2 h3]
  · show (if 630 = 630 ∧ 11 = j then v else qI k 630 11) = _
    rw [if_neg (by omega)]; exact t2
  · show (if 630 = 630 ∧ 13 = j then v else qI k 630 13) = _
    rw [if_neg (by omega)]; exact y1
  · show (if 630 = 630 ∧ 14 = j then v else qI k 630 14) = _
    rw [if_neg (by omega)]; exact y2 h9
theorem s249 {c : Nat} {v : Int32} (Y : p_y K P X U e k0 k s) (hc : c ≤ 43) (hv : v = nI (t_ph c)) : q_mI 1 249 [.ref 630, .int v] k (fun z k' => k' = k ∧ z = b2i (y_is K c s)) := by
  subst hv
  have S := Y.sh
  refine q_mI.of (q_recV rfl (S.ok rfl)) (fun Q fin => ?_)
  refine b249_0 (S.ok rfl) (fun h => ?_) (fun h => ?_)
  · refine b249_24 (fin _ _ ⟨rfl, ?_⟩)
    unfold y_is
    rw [beq_false_of_ne (show ¬ s.2 = 0 from fun h9 => h (Y.z.mpr h9))]
    rfl
  · have h0 := Y.z.mp h
    have ht := Y.t0 h0
    have e12 := Y.e12
    have sl := Y.le
    obtain ⟨k43, _, k1, _⟩ := Y.tk sl
    have p1 := t_ph_44 _ k43
    have p2 := t_ph_44 _ hc
    have hr : qA k 633 ((qI k 630 11 : Int32).toNatClampNeg) = nI (t_ph (K s.1)) := by rw [ht, nI_clamp (by omega)]; exact k1
    refine b249_7 (v0 := 633) (S.ok rfl) (S.ref rfl) (S.ok rfl) (by rw [ht]; exact S.inN (n := 1203) rfl (by omega) (by decide)) (fun h1 => ?_) (fun h1 => ?_)
    · rw [hr] at h1
      refine b249_24 (fin _ _ ⟨rfl, ?_⟩)
      unfold y_is
      rw [h0, beq_false_of_ne (show ¬ K s.1 = c from fun h9 => h1 (by rw [h9]))]
      rfl
    · rw [hr] at h1
      refine b249_20 (fin _ _ ⟨rfl, ?_⟩)
      unfold y_is
      rw [h0, t_ph_inj _ k43 _ hc ((nI_eq (by omega) (by omega)).mp h1), beq_self_eq_true, beq_self_eq_true]
      rfl
theorem s250 {f : Nat} {v : Int32} (Y : p_y K P X U e k0 k s) (hf : f ≤ 2) (hf0 : ¬ f = 0) (hv : v = nI f) : q_mV 0 250 [.ref 630, .int v] k (fun k' => p_y K P X U e k0 k' (y_fl f s)) := by
  subst hv
  have S := Y.sh
  refine q_mV.of (q_recV rfl (S.ok rfl)) (fun Q fin => ?_)
  refine b250_0 (S.ok rfl) (fun h => ?_) (fun h => b250_7 (fin _ ?_))
  · have h0 := Y.z1.mp h
    have ht := Y.t0 h0
    have e12 := Y.e12
    have sl := Y.le
    have hr : qA k 634 ((qI (q_sI k 630 13 (nI f)) 630 11 : Int32).toNatClampNeg) = nI (P s.1) := by
      show qA k 634 ((qI k 630 11 : Int32).toNatClampNeg) = _
      rw [ht, nI_clamp (by omega)]; exact (Y.tk sl).2.2.2.1
    refine b250_8 (v0 := 634) (S.ok rfl) (S.ref rfl) (S.ok rfl) (by show q_in (qI k 630 11) _; rw [ht]; exact S.inN (n := 1203) rfl (by omega) (by decide)) (fin _ ?_)
    rw [hr]
    unfold y_fl
    rw [if_pos h0]
    obtain ⟨S, C, O, E, F, _, _, _, y3, _⟩ := Y
    refine ⟨S, C, O, E.trans ((q_Ef.sI (by decide)).trans (q_Ef.sI (by decide))), fun j h1 h2 h3 => ?_, ⟨s.1, by omega, ht, fun _ => rfl⟩, rfl, fun _ => rfl, y3, hf⟩
    show (if 630 = 630 ∧ j = 14 then _ else if 630 = 630 ∧ j = 13 then _ else qI k 630 j) = _
    rw [if_neg (fun h9 => h3 h9.2), if_neg (fun h9 => h2 h9.2)]
    exact F j h1 h2 h3
  · unfold y_fl
    rw [if_neg (fun h9 => h (Y.z1.mpr h9))]
    exact Y
theorem s252 (Y : p_y K P X U e k0 k s) (hk : s.2 = 0 → K s.1 < 42) : q_mV 1 252 [.ref 630] k (fun k' => p_y K P X U e k0 k' (y_ps s)) := by
  have S := Y.sh
  have o3 := Y.e12
  refine q_mV.of (q_recV rfl (S.ok rfl)) (fun Q fin => ?_)
  obtain ⟨t, t1, t2, t3⟩ := Y.t
  have y3 := Y.le
  refine b252_0 (S.ok rfl) (fun c => b252_18 (S.ok rfl) (fin _ ?_)) (fun c => b252_10 (s250 (f := 2) Y (by decide) (by decide) rfl) (by decide) (fun k' Y' => b252_15 (fin _ ?_)))
  · rw [t2] at c
    have c1 : ¬ t = 1200 := fun h9 => c (by rw [h9]; rfl)
    have ps : y_ps s = if s.2 = 0 then (s.1 + 1, 0) else s := by
      unfold y_ps
      by_cases h0 : s.2 = 0
      · have := t3 h0
        rw [if_pos h0, if_pos h0, if_neg (by omega)]
      · rw [if_neg h0, if_neg h0]
    rw [ps, t2, nI_1]
    obtain ⟨S, C, O, E, F, _, y1, y2, y3, y4⟩ := Y
    refine ⟨S, C, O, E.trans (q_Ef.sI (by decide)), fun j h1 h2 h3 => ?_, ⟨t + 1, by omega, rfl, fun h9 => ?_⟩, ?_, fun h9 => ?_, ?_, ?_⟩
    · show (if 630 = 630 ∧ j = 11 then _ else qI k 630 j) = _
      rw [if_neg (fun h9 => h1 h9.2)]
      exact F j h1 h2 h3
    · by_cases h0 : s.2 = 0
      · rw [if_pos h0, t3 h0]
      · rw [if_neg h0] at h9
        exact absurd h9 h0
    · by_cases h0 : s.2 = 0
      · rw [if_pos h0]; rw [h0] at y1; exact y1
      · rw [if_neg h0]; exact y1
    · by_cases h0 : s.2 = 0
      · rw [if_pos h0] at h9; exact absurd rfl h9
      · rw [if_neg h0]; exact y2 h0
    · by_cases h0 : s.2 = 0
      · rw [if_pos h0]
        exact O.lt y3 (hk h0) (by have := t3 h0; omega)
      · rw [if_neg h0]; exact y3
    · by_cases h0 : s.2 = 0
      · rw [if_pos h0]; exact Nat.zero_le 2
      · rw [if_neg h0]; exact y4
  · rw [t2] at c
    have c1 : t = 1200 := (nI_eq (b := 1200) (by omega) (by decide)).mp c
    have ps : y_ps s = y_fl 2 s := by
      unfold y_ps y_fl
      by_cases h0 : s.2 = 0
      · have := t3 h0
        rw [if_pos h0, if_pos h0, if_pos (by omega)]
      · rw [if_neg h0, if_neg h0]
    rw [ps]
    exact Y'
theorem s253 {c : Nat} {v : Int32} (Y : p_y K P X U e k0 k s) (hc : c < 42) (hv : v = nI (t_ph c)) : q_mV 2 253 [.ref 630, .int v] k (fun k' => p_y K P X U e k0 k' (y_nd K c s)) := by
  refine q_mV.of (q_recV rfl (Y.sh.ok rfl)) (fun Q fin => ?_)
  refine b253_0 (s249 (c := c) Y (by omega) hv) (by decide) ?_
  rintro z h2 ⟨e0, rfl⟩
  subst h2
  refine b253_5 (fun h => b253_15 (s250 (f := 1) Y (by decide) (by decide) rfl) (by decide) (fun k1 Y1 => b253_20 (fin _ ?_))) (fun h => b253_8 (s252 Y (y_is_lt hc (b2i_ne.mp h))) (by decide) (fun k1 Y1 => b253_12 (b253_20 (fin _ ?_))))
  · unfold y_nd
    rw [b2i_eq.mp h, if_neg (by decide)]
    exact Y1
  · unfold y_nd
    rw [if_pos (b2i_ne.mp h)]
    exact Y1
/-- one more is open -/
def p_op (k : q_Hp) (o : Nat) (s : y_S) : q_Hp := if s.2 = 0 ∧ o < 8 then q_sI k 630 12 (nI (o + 1)) else k
theorem s254 {o : Nat} (Y : p_y K P X U e k0 k s) (ho : s.2 = 0 → qI k0 630 12 = nI o) (h8 : o ≤ 8) : q_mV 1 254 [.ref 630] k (fun k' => p_y K P X U e (p_op k0 o s) k' (y_rm (decide (o < 8)) s)) := by
  have S := Y.sh
  refine q_mV.of (q_recV rfl (S.ok rfl)) (fun Q fin => ?_)
  refine b254_0 (S.ok rfl) (fun c => b254_8 (S.ok rfl) (fun c1 => b254_25 (S.ok rfl) (fin _ ?_)) (fun c1 => b254_17 (s250 (f := 2) Y (by decide) (by decide) rfl) (by decide) (fun k' Y' => b254_22 (fin _ ?_)))) (fun c => b254_7 (fin _ ?_))
  · have c0 := Y.z1.mp c
    have e1 : qI k 630 12 = nI o := (Y.I rfl).trans (ho c0)
    rw [e1] at c1 ⊢
    have o8 : o < 8 := by
      have : ¬ o = 8 := fun h9 => c1 (by rw [h9]; rfl)
      omega
    unfold p_op y_rm
    rw [if_pos ⟨c0, o8⟩, decide_eq_true o8, if_pos rfl, nI_1]
    exact Y.sI rfl
  · have c0 := Y.z1.mp c
    have e1 : qI k 630 12 = nI o := (Y.I rfl).trans (ho c0)
    rw [e1] at c1
    have o8 : o = 8 := (nI_eq (b := 8) (by omega) (by decide)).mp c1
    unfold p_op y_rm
    rw [if_neg (by omega), decide_eq_false (by omega), if_neg (by decide)]
    exact Y'
  · have c0 : ¬ s.2 = 0 := fun h9 => c (Y.z1.mpr h9)
    have e1 : y_rm (decide (o < 8)) s = s := by
      unfold y_rm y_fl
      rw [if_neg c0, ite_self]
    unfold p_op
    rw [if_neg (fun h9 => c0 h9.1), e1]
    exact Y
/-- a fault of meaning is noted: the one that stands first in the text stays -/
def p_wr (P : Nat → Nat) (n i : Nat) (k : q_Hp) : q_Hp := if qI k 630 15 = 0 ∨ nI (P i) < qI k 630 16 ∨ (nI (P i) = qI k 630 16 ∧ nI n < qI k 630 15) then q_sI (q_sI k 630 15 (nI n)) 630 16 (nI (P i)) else k
theorem s251 {n i : Nat} {v x : Int32} (Y : p_y K P X U e k0 k s) (hi : i ≤ e) (hs : s.2 = 0) (hv : v = nI n) (hx : x = nI i) : q_mV 0 251 [.ref 630, .int v, .int x] k (fun k' => p_y K P X U e (p_wr P n i k0) k' s) := by
  subst hv
  subst hx
  have S := Y.sh
  have e12 := Y.e12
  have e1 : qI k 630 15 = qI k0 630 15 := Y.I rfl
  have e2 : qI k 630 16 = qI k0 630 16 := Y.I rfl
  have hr : qA k 634 ((nI i : Int32).toNatClampNeg) = nI (P i) := by rw [nI_clamp (by omega)]; exact (Y.tk hi).2.2.2.1
  have z0 := Y.z.mpr hs
  refine q_mV.of (q_recV rfl (S.ok rfl)) (fun Q fin => ?_)
  have yes : (qI k0 630 15 = 0 ∨ nI (P i) < qI k0 630 16 ∨ (nI (P i) = qI k0 630 16 ∧ nI n < qI k0 630 15)) → q_wp 0 251 46 [some (.ref 630), some (.int (nI n)), some (.int (nI i)), some (.int (nI (P i)))] [] k Q := by
    intro h
    refine b251_46 (S.ok rfl) (fin _ ?_)
    unfold p_wr
    rw [if_pos h]
    exact (Y.sI rfl).sI rfl
  have no : ¬ (qI k0 630 15 = 0 ∨ nI (P i) < qI k0 630 16 ∨ (nI (P i) = qI k0 630 16 ∧ nI n < qI k0 630 15)) → q_wp 0 251 45 [some (.ref 630), some (.int (nI n)), some (.int (nI i)), some (.int (nI (P i)))] [] k Q := by
    intro h
    refine b251_45 (fin _ ?_)
    unfold p_wr
    rw [if_neg h]
    exact Y
  refine b251_0 (v0 := 634) (S.ok rfl) (S.ref rfl) (S.ok rfl) (S.inN (n := 1203) rfl (by omega) (by decide)) (fun c => ?_) (fun c => ?_)
  · rw [z0] at c
    exact absurd c (by decide)
  rw [hr]
  refine b251_14 (S.ok rfl) (fun c1 => yes (Or.inl (e1.symm.trans c1))) (fun c1 => b251_21 (S.ok rfl) (fun c2 => no ?_) (fun c2 => b251_29 (S.ok rfl) (fun c3 => yes (Or.inr (Or.inl ?_))) (fun c3 => b251_37 (S.ok rfl) (fun c4 => yes (Or.inr (Or.inr ⟨c3.trans e2, e1 ▸ c4⟩))) (fun c4 => no ?_))))
  · rw [e1] at c1
    rw [e2] at c2
    rintro (h | h | h)
    · exact c1 h
    · exact Int32.lt_irrefl (Int32.lt_trans h c2)
    · rw [h.1] at c2
      exact Int32.lt_irrefl c2
  · rw [e2] at c2 c3
    exact Int32.lt_of_le_of_ne (Int32.not_lt.mp c2) c3
  · rw [e1] at c1 c4
    rw [e2] at c3
    rintro (h | h | h)
    · exact c1 h
    · rw [c3] at h
      exact Int32.lt_irrefl h
    · exact c4 h.2
end PY
