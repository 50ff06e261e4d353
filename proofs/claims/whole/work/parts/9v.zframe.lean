/-! THE TWO READS: what the reference's parts keep, and where its faults may be -/
/-- places of tokens grow -/
def zPm (P : Nat → Nat) (e : Nat) : Prop := (∀ i t, i ≤ e → i < t → P i < P t) ∧ ∀ t, P t ≤ 5000
/-- the fault is as it was, or a lesser one, at this token or behind it -/
def p_LW (P : Nat → Nat) (a : Nat) (k k' : q_Hp) : Prop := (qI k' 630 15 = qI k 630 15 ∧ qI k' 630 16 = qI k 630 16) ∨ ∃ f t : Nat, ¬ f = 0 ∧ f < 10 ∧ a ≤ t ∧ qI k' 630 15 = nI f ∧ qI k' 630 16 = nI (P t) ∧ (qI k 630 15 = 0 ∨ nI (P t) ≤ qI k 630 16)
section ZW
variable {K P X : Nat → Nat} {U : Nat → Int64} {e a : Nat} {k k1 k2 : q_Hp}
theorem p_LW.rf : p_LW P a k k := Or.inl ⟨rfl, rfl⟩
theorem p_LW.trans (x : p_LW P a k k1) (y : p_LW P a k1 k2) : p_LW P a k k2 := by
  rcases y with ⟨y1, y2⟩ | ⟨f, t, q1, q2, q3, q4, q5, q6⟩
  · rcases x with ⟨x1, x2⟩ | ⟨f, t, q1, q2, q3, q4, q5, q6⟩
    · exact Or.inl ⟨y1.trans x1, y2.trans x2⟩
    · exact Or.inr ⟨f, t, q1, q2, q3, y1.trans q4, y2.trans q5, q6⟩
  · refine Or.inr ⟨f, t, q1, q2, q3, q4, q5, ?_⟩
    rcases x with ⟨x1, x2⟩ | ⟨f', t', r1, r2, r3, r4, r5, r6⟩
    · rw [x1, x2] at q6
      exact q6
    · rcases q6 with q6 | q6
      · rw [r4] at q6
        exact absurd ((nI_eq (b := 0) (by omega) (by decide)).mp q6) r1
      · rw [r5] at q6
        rcases r6 with r6 | r6
        · exact Or.inl r6
        · exact Or.inr (Int32.le_trans q6 r6)
theorem p_LW.mono {b : Nat} (x : p_LW P a k k1) (h : b ≤ a) : p_LW P b k k1 := by
  rcases x with x | ⟨f, t, q1, q2, q3, q4⟩
  · exact Or.inl x
  · exact Or.inr ⟨f, t, q1, q2, by omega, q4⟩
theorem p_LW.c (x : p_LW P a k k1) (h1 : qI k2 630 15 = qI k1 630 15) (h2 : qI k2 630 16 = qI k1 630 16) : p_LW P a k k2 := x.trans (Or.inl ⟨h1, h2⟩)
theorem p_LW.wr {n i : Nat} (x : p_LW P a k k1) (hn : ¬ n = 0) (h10 : n < 10) (hi : a ≤ i) : p_LW P a k (p_wr P n i k1) := by
  refine x.trans ?_
  unfold p_wr
  split
  · next h =>
    refine Or.inr ⟨n, i, hn, h10, hi, ?_, q_sI_e, ?_⟩
    · rw [q_sI_n (by omega), q_sI_e]
    · rcases h with h | h | h
      · exact Or.inl h
      · exact Or.inr (Int32.le_of_lt h)
      · rw [h.1]
        exact Or.inr (Int32.le_refl _)
  · exact p_LW.rf
theorem p_LW.fw {i : Nat} {o : Option Nat} (x : p_LW P a k k1) (hi : a ≤ i) : p_LW P a k (p_fw P i o k1) := by
  unfold p_fw
  split
  · exact x.wr (by decide) (by decide) hi
  · exact x
theorem p_LW.dw {i : Nat} {o : Option Nat} (x : p_LW P a k k1) (hi : a ≤ i) : p_LW P a k (p_dw P i o k1) := by
  unfold p_dw
  split
  · exact x
  · exact x.wr (by decide) (by decide) hi
theorem p_LW.xw {i : Nat} (x : p_LW P a k k1) (hi : a ≤ i) : p_LW P a k (p_xw P X i k1) := by
  unfold p_xw
  split
  · exact x
  · exact x.wr (by decide) (by decide) hi
theorem p_LW.sI {j : Nat} {v : Int32} (x : p_LW P a k k1) (h1 : ¬ j = 15) (h2 : ¬ j = 16) : p_LW P a k (q_sI k1 630 j v) := x.c (q_sI_n (by omega)) (q_sI_n (by omega))
theorem p_LW.sA {y j : Nat} {v : Int32} (x : p_LW P a k k1) : p_LW P a k (q_sA k1 y j v) := x.c rfl rfl
theorem p_LW.sL {y j : Nat} {v : Int64} (x : p_LW P a k k1) : p_LW P a k (q_sL k1 y j v) := x.c rfl rfl
theorem p_LW.em {op u v : Int32} (x : p_LW P a k k1) : p_LW P a k (p_em op u v k1) := x.sA.sA.sA.sI (by decide) (by decide)
theorem p_LW.pu {op : Int32} (x : p_LW P a k k1) : p_LW P a k (p_pu op k1) := x.sA.sI (by decide) (by decide)
theorem p_LW.po (x : p_LW P a k k1) : p_LW P a k (p_po k1) := (x.sI (by decide) (by decide)).sI (by decide) (by decide)
theorem p_LW.op {o : Nat} {s : y_S} (x : p_LW P a k k1) : p_LW P a k (p_op k1 o s) := by
  unfold p_op
  split
  · exact x.sI (by decide) (by decide)
  · exact x
theorem p_LW.se {l : Int32} : ∀ n k1, p_LW P a k k1 → p_LW P a k (p_se l n k1) := by
  intro n
  induction n with
  | zero => intro k1 x; exact x
  | succ n ih =>
    intro k1 x
    unfold p_se
    split
    · exact x
    · exact ih _ (x.sI (by decide) (by decide)).em
theorem p_LW.sw {l : Int32} (x : p_LW P a k k1) : p_LW P a k (p_sw l k1) := p_LW.se _ _ x
theorem p_LW.cl : ∀ o s k1, p_LW P a k k1 → p_LW P a k (p_cl K o s k1) := by
  intro o
  induction o with
  | zero => intro s k1 x; exact x
  | succ o ih =>
    intro s k1 x
    unfold p_cl
    split
    · exact ih _ _ x.sw.po
    · exact x
theorem p_LW.mk {f : Bool} {s : y_S} (x : p_LW P a k k1) : p_LW P a k (p_mk K f s k1) := by
  unfold p_mk
  split
  · exact x.pu
  · exact x
theorem p_LW.un {set : Bool} {L : Nat} {s : y_S} (x : p_LW P a k k1) (h : a ≤ s.1) : p_LW P a k (p_un K P X U set L s k1) := by
  unfold p_un
  split
  · exact x.em
  · exact ((x.fw h).xw (by omega)).em
theorem p_LW.su {set : Bool} {L : Nat} : ∀ m f o s k1, a ≤ s.1 → p_LW P a k k1 → p_LW P a k (p_su K P X U set L m f o s k1) := by
  intro m
  induction m with
  | zero => intro f o s k1 _ x; exact x
  | succ m ih =>
    intro f o s k1 h x
    have h1 : a ≤ (y_mi K f s).1 := Nat.le_trans h (y_to.rf.mi (K := K) (f := f) (s0 := s)).1
    have t2 : y_to (y_mi K f s) (y_cl K o (y_un K (y_mi K f s))).2 := y_to.cl _ _ _ y_to.rf.un
    unfold p_su
    split
    · exact ih _ _ _ _ (Nat.le_trans h1 (y_to.ps y_to.rf.rm).1) x.mk.op.pu
    · split
      · exact ih _ _ _ _ (Nat.le_trans h1 (y_to.ps t2).1) (p_LW.cl _ _ _ (x.mk.un h1)).sw.pu
      · exact (p_LW.cl _ _ _ (x.mk.un h1)).sw
theorem p_LW.ex {set : Bool} {L : Nat} {s : y_S} (x : p_LW P a k k1) (h : a ≤ s.1) : p_LW P a k (p_ex K P X U set L s k1) := p_LW.su _ _ _ _ _ h (x.sI (by decide) (by decide))
/-- a fault -/
def zf (P : Nat → Nat) (k : q_Hp) (n i : Nat) : Prop := qI k 630 15 = nI n ∧ qI k 630 16 = nI (P i)
theorem zf.kp {n i : Nat} (M : zPm P e) (he : i ≤ e) (hn : ¬ n = 0) (h10 : n < 10) (z : zf P k n i) (x : p_LW P (i + 1) k k1) : zf P k1 n i := by
  rcases x with ⟨x1, x2⟩ | ⟨f, t, q1, q2, q3, q4, q5, q6⟩
  · exact ⟨x1.trans z.1, x2.trans z.2⟩
  · exfalso
    rcases q6 with q6 | q6
    · rw [z.1] at q6
      exact absurd ((nI_eq (b := 0) (by omega) (by decide)).mp q6) hn
    · rw [z.2] at q6
      have b1 := M.2 t
      have b2 := M.2 i
      have := (nI_leI (by omega) (by omega)).mp q6
      have := M.1 i t he (by omega)
      omega
theorem zf.wr {n i : Nat} (M : zPm P e) (he : i ≤ e) (h0 : qI k 630 15 = 0) (x : p_LW P (i + 1) k k1) : zf P (p_wr P n i k1) n i := by
  have hit : (qI k1 630 15 = 0 ∨ nI (P i) < qI k1 630 16 ∨ (nI (P i) = qI k1 630 16 ∧ nI n < qI k1 630 15)) := by
    rcases x with ⟨x1, x2⟩ | ⟨f, t, q1, q2, q3, q4, q5, q6⟩
    · rw [x1]
      exact Or.inl h0
    · right
      left
      rw [q5]
      have b1 := M.2 t
      have b2 := M.2 i
      exact (nI_ltI (by omega) (by omega)).mpr (M.1 i t he (by omega))
  unfold p_wr
  rw [if_pos hit]
  exact ⟨by rw [q_sI_n (by omega), q_sI_e], q_sI_e⟩
end ZW
/-- but for these numbers and these rows -/
def p_K (P : Nat → Nat) (a : Nat) (J D : List Nat) (k k' : q_Hp) : Prop := (∀ j, j ∉ J → ¬ j = 15 → ¬ j = 16 → qI k' 630 j = qI k 630 j) ∧ (∀ x, x ∉ D → qA k' x = qA k x) ∧ (∀ x, ¬ x = 678 → qL k' x = qL k x) ∧ p_LW P a k k'
section ZK
variable {K P X : Nat → Nat} {U : Nat → Int64} {e a : Nat} {J D : List Nat} {k k1 k2 : q_Hp}
theorem p_K.rf : p_K P a J D k k := ⟨fun _ _ _ _ => rfl, fun _ _ => rfl, fun _ _ => rfl, p_LW.rf⟩
theorem p_K.trans (x : p_K P a J D k k1) (y : p_K P a J D k1 k2) : p_K P a J D k k2 := ⟨fun j h1 h2 h3 => (y.1 j h1 h2 h3).trans (x.1 j h1 h2 h3), fun z h => (y.2.1 z h).trans (x.2.1 z h), fun z h => (y.2.2.1 z h).trans (x.2.2.1 z h), x.2.2.2.trans y.2.2.2⟩
theorem p_K.mono {b : Nat} {J' D' : List Nat} (x : p_K P a J D k k1) (h : b ≤ a) (hJ : ∀ i, i ∈ J → i ∈ J') (hD : ∀ i, i ∈ D → i ∈ D') : p_K P b J' D' k k1 := ⟨fun j h1 => x.1 j (fun q => h1 (hJ j q)), fun z h1 => x.2.1 z (fun q => h1 (hD z q)), x.2.2.1, x.2.2.2.mono h⟩
theorem p_K.wr {n i : Nat} (x : p_K P a J D k k1) (hn : ¬ n = 0) (h10 : n < 10) (hi : a ≤ i) : p_K P a J D k (p_wr P n i k1) := ⟨fun j h1 h2 h3 => (p_wr_I ⟨h2, h3⟩).trans (x.1 j h1 h2 h3), fun z h => by rw [p_wr_A]; exact x.2.1 z h, fun z h => by rw [p_wr_L]; exact x.2.2.1 z h, x.2.2.2.wr hn h10 hi⟩
theorem p_K.fw {i : Nat} {o : Option Nat} (x : p_K P a J D k k1) (hi : a ≤ i) : p_K P a J D k (p_fw P i o k1) := by
  unfold p_fw
  split
  · exact x.wr (by decide) (by decide) hi
  · exact x
theorem p_K.dw {i : Nat} {o : Option Nat} (x : p_K P a J D k k1) (hi : a ≤ i) : p_K P a J D k (p_dw P i o k1) := by
  unfold p_dw
  split
  · exact x
  · exact x.wr (by decide) (by decide) hi
theorem p_K.xw {i : Nat} (x : p_K P a J D k k1) (hi : a ≤ i) : p_K P a J D k (p_xw P X i k1) := by
  unfold p_xw
  split
  · exact x
  · exact x.wr (by decide) (by decide) hi
theorem p_K.sI {j : Nat} {v : Int32} (x : p_K P a J D k k1) (hj : j ∈ J ∧ ¬ j = 15 ∧ ¬ j = 16) : p_K P a J D k (q_sI k1 630 j v) := ⟨fun i h1 h2 h3 => (q_sI_n (fun q => h1 (by rw [q.2]; exact hj.1))).trans (x.1 i h1 h2 h3), x.2.1, x.2.2.1, x.2.2.2.sI hj.2.1 hj.2.2⟩
theorem p_K.sA {y i : Nat} {v : Int32} (x : p_K P a J D k k1) (hy : y ∈ D) : p_K P a J D k (q_sA k1 y i v) := ⟨x.1, fun z h => (qA_sAn (fun q => h (by rw [q]; exact hy))).trans (x.2.1 z h), x.2.2.1, x.2.2.2.sA⟩
theorem p_K.sL {i : Nat} {v : Int64} (x : p_K P a J D k k1) : p_K P a J D k (q_sL k1 678 i v) := ⟨x.1, x.2.1, fun z h => by rw [qL_sLn h]; exact x.2.2.1 z h, x.2.2.2.sL⟩
theorem p_K.ite {c : Prop} [Decidable c] (x : p_K P a J D k k1) (y : p_K P a J D k k2) : p_K P a J D k (if c then k1 else k2) := by
  split
  · exact x
  · exact y
theorem p_K.tl {i n : Nat} {kd b ty : Int32} (x : p_K P a J D k k1) (hi : a ≤ i) (hJ : 68 ∈ J) (h9 : 679 ∈ D) (h0 : 680 ∈ D) (h1 : 681 ∈ D) (h2 : 682 ∈ D) : p_K P a J D k (p_tl P U i n kd b ty k1) := ((((((x.dw hi).sL).sA h9).sA h0).sA h1).sA h2).sI ⟨hJ, by decide, by decide⟩
theorem p_K.no {nt r n L : Nat} {s : y_S} (x : p_K P a J D k k1) (hi : a ≤ s.1) (hJ : 68 ∈ J) (h9 : 679 ∈ D) (h0 : 680 ∈ D) (h1 : 681 ∈ D) (h2 : 682 ∈ D) (h4 : 644 ∈ D) (h5 : 641 ∈ D) : p_K P a J D k (p_no P U nt r n L s k1) := (((x.fw (by omega)).tl (by omega) hJ h9 h0 h1 h2).sA h4).sA h5
theorem p_K.l1 {L q ra b : Nat} (x : p_K P a J D k k1) (hi : a ≤ b) (h : ra ∈ D) : p_K P a J D k (p_l1 P U L q ra b k1) := (x.fw hi).sA h
theorem p_K.l2 {ns q ra b : Nat} (x : p_K P a J D k k1) (hi : a ≤ b) (h : ra ∈ D) : p_K P a J D k (p_l2 P U ns q ra b k1) := (x.fw hi).sA h
theorem p_K.l3 {ns L q rs rf rt : Nat} {s : y_S} (x : p_K P a J D k k1) (hi : a ≤ s.1) (h1 : rs ∈ D) (h2 : rf ∈ D) (h3 : rt ∈ D) : p_K P a J D k (p_l3 P U ns L q rs rf rt s k1) := ((x.l1 (by omega) h2).l2 (by omega) h1).l1 (by omega) h3
theorem p_K.li {ns r l L : Nat} {s : y_S} (x : p_K P a J D k k1) (hi : a ≤ s.1) (hJ : 68 ∈ J) (h9 : 679 ∈ D) (h0 : 680 ∈ D) (h1 : 681 ∈ D) (h2 : 682 ∈ D) (h4 : 645 ∈ D) (h5 : 646 ∈ D) (h6 : 647 ∈ D) (h7 : 642 ∈ D) : p_K P a J D k (p_li P U ns r l L s k1) := ((x.l3 hi h4 h5 h6).tl (by omega) hJ h9 h0 h1 h2).sA h7
theorem p_K.nn {nt q L : Nat} {s : y_S} (x : p_K P a J D k k1) (hi : a ≤ s.1) (hJ : 68 ∈ J) (h9 : 679 ∈ D) (h0 : 680 ∈ D) (h1 : 681 ∈ D) (h2 : 682 ∈ D) (h4 : 649 ∈ D) : p_K P a J D k (p_nn P U nt q L s k1) := ((x.fw (by omega)).sA h4).tl (by omega) hJ h9 h0 h1 h2
theorem p_K.nk {ns q l L : Nat} {s : y_S} (x : p_K P a J D k k1) (hi : a ≤ s.1) (hJ : 68 ∈ J) (h9 : 679 ∈ D) (h0 : 680 ∈ D) (h1 : 681 ∈ D) (h2 : 682 ∈ D) (h4 : 651 ∈ D) (h5 : 652 ∈ D) (h6 : 653 ∈ D) (h7 : 650 ∈ D) : p_K P a J D k (p_nk P U ns q l L s k1) := ((x.l3 hi h4 h5 h6).tl (by omega) hJ h9 h0 h1 h2).sA h7
theorem p_K.n0 {r c : Nat} (x : p_K P a J D k k1) (h1 : 648 ∈ D) (h2 : 649 ∈ D) (h3 : 650 ∈ D) : p_K P a J D k (p_n0 r c k1) := ((x.sA h1).sA h2).sA h3
theorem p_K.ex {set : Bool} {L : Nat} {s : y_S} (x : p_K P a J D k k1) (hi : a ≤ s.1) (h1 : 12 ∈ J) (h2 : 22 ∈ J) (h3 : 78 ∈ J) (h4 : 666 ∈ D) (h5 : 667 ∈ D) (h6 : 668 ∈ D) (h7 : 685 ∈ D) : p_K P a J D k (p_ex K P X U set L s k1) := by
  have z := (p_kx.rf (k := k1)).ex (K := K) (P := P) (X := X) (U := U) (set := set) (L := L) (s := s)
  refine x.trans ⟨fun j q1 q2 q3 => z.2.2 j ⟨fun q => q1 (q ▸ h1), q2, q3, fun q => q1 (q ▸ h2), fun q => q1 (q ▸ h3)⟩, fun y q => z.1 y ⟨fun q1 => q (q1 ▸ h4), fun q1 => q (q1 ▸ h5), fun q1 => q (q1 ▸ h6), fun q1 => q (q1 ▸ h7)⟩, fun y _ => by rw [z.2.1], p_LW.rf.ex hi⟩
theorem p_K.te {r c L : Nat} {s : y_S} (x : p_K P a J D k k1) (hi : a ≤ s.1) (h1 : 12 ∈ J) (h2 : 22 ∈ J) (h3 : 78 ∈ J) (h4 : 666 ∈ D) (h5 : 667 ∈ D) (h6 : 668 ∈ D) (h7 : 685 ∈ D) (d4 : 654 ∈ D) (d5 : 655 ∈ D) (d6 : 656 ∈ D) (d7 : 657 ∈ D) (d8 : 658 ∈ D) : p_K P a J D k (p_te K P X U r c L s k1) := by
  have i2 : a ≤ (y_ps (y_E K (s.1 + 1, 0))).1 := by
    have : (s.1 + 1 : Nat) ≤ _ := (y_to.ps ((y_to.rf (s := (s.1 + 1, 0))).E (K := K))).1
    omega
  exact (((((((x.sA d4).sA d6).ex (show a ≤ s.1 + 1 by omega) h1 h2 h3 h4 h5 h6 h7).sA d7).sA d5).ex i2 h1 h2 h3 h4 h5 h6 h7).sA d8)
theorem p_K.z6 (h : 683 ∈ D) : ∀ n k1, p_K P a J D k k1 → p_K P a J D k (p_z6 n k1) := by
  intro n
  induction n with
  | zero => intro k1 x; exact x
  | succ n ih => intro k1 x; exact (ih _ x).sA h
theorem p_K.d0 {c : Nat} (x : p_K P a J D k k1) (h : 683 ∈ D) (h1 : 75 ∈ J) (h2 : 77 ∈ J) : p_K P a J D k (p_d0 c k1) := by
  unfold p_d0
  split
  · exact p_K.z6 h _ _ ((x.sI ⟨h1, by decide, by decide⟩).sI ⟨h2, by decide, by decide⟩)
  · exact x
theorem p_K.d1 {q : Nat} (x : p_K P a J D k k1) (h1 : 661 ∈ D) (h2 : 662 ∈ D) (h3 : 663 ∈ D) (h4 : 664 ∈ D) : p_K P a J D k (p_d1 q k1) := (((x.sA h1).sA h2).sA h3).sA h4
theorem p_K.dE {r c q : Nat} (x : p_K P a J D k k1) (h1 : 665 ∈ D) (h2 : 659 ∈ D) : p_K P a J D k (p_dE r c q k1) := (x.sA h1).sA h2
theorem p_K.de {r q l jn L i : Nat} (x : p_K P a J D k k1) (hi : a ≤ i) (h0 : 660 ∈ D) (h1 : 661 ∈ D) (h2 : 682 ∈ D) (h3 : 683 ∈ D) : p_K P a J D k (p_de P U r q l jn L i k1) := by
  unfold p_de
  cases p_dd L (U i) k1 with
  | none => exact (x.wr (by decide) (by decide) hi).sA h0
  | some j =>
    show p_K P a J D k (p_de2 P r q l jn i j k1)
    have x1 : p_K P a J D k (p_de1 q j k1) := ((x.sA h2).sA h1).sA h0
    exact p_K.ite (x1.sA h3) (p_K.ite (x1.wr (by decide) (by decide) hi) x1)
theorem p_K.nw {nt q nw L : Nat} {s : y_S} (x : p_K P a J D k k1) (hi : a ≤ s.1) (hJ : 68 ∈ J) (hJ2 : 77 ∈ J) (h9 : 679 ∈ D) (h0 : 680 ∈ D) (h1 : 681 ∈ D) (h2 : 682 ∈ D) (h4 : 660 ∈ D) (h5 : 661 ∈ D) (h6 : 662 ∈ D) : p_K P a J D k (p_nw P U nt q nw L s k1) := (((((x.fw (by omega)).tl (by omega) hJ h9 h0 h1 h2).sA h4).sA h5).sA h6).sI ⟨hJ2, by decide, by decide⟩
theorem p_K.jo {nt ns q jn L i1 i2 i3 : Nat} (x : p_K P a J D k k1) (q1 : a ≤ i1) (q2 : a ≤ i2) (q3 : a ≤ i3) (hJ : 75 ∈ J) (h0 : 660 ∈ D) (h1 : 661 ∈ D) (h2 : 662 ∈ D) (h3 : 663 ∈ D) (h4 : 684 ∈ D) : p_K P a J D k (p_jo P U nt ns q jn L i1 i2 i3 k1) := by
  have x1 : ∀ oa os ob, p_K P a J D k (p_jo1 P nt q i1 i2 i3 oa os ob k1) := by
    intro oa os ob
    have x2 : p_K P a J D k (q_sA (p_fw P i3 ob (p_fw P i2 os (p_fw P i1 oa k1))) 660 q 3) := (((x.fw q1).fw q2).fw q3).sA h0
    exact p_K.ite (x2.wr (by decide) (by decide) q2) x2
  unfold p_jo
  cases p_sd L (U i1) k1 with
  | none => exact x1 _ _ _
  | some u =>
    cases p_sd L (U i3) k1 with
    | none => exact x1 _ _ _
    | some v => exact ((((((x1 _ _ _).sA h1).sA h2).sA h3).sA h4).sA h4).sI ⟨hJ, by decide, by decide⟩
theorem p_K.se2 {q L : Nat} {s : y_S} (x : p_K P a J D k k1) (hi : a ≤ s.1) (h1 : 12 ∈ J) (h2 : 22 ∈ J) (h3 : 78 ∈ J) (h4 : 666 ∈ D) (h5 : 667 ∈ D) (h6 : 668 ∈ D) (h7 : 685 ∈ D) (h8 : 660 ∈ D) (h9 : 661 ∈ D) (h0 : 662 ∈ D) : p_K P a J D k (p_se2 K P X U q L s k1) := (((((x.fw (show a ≤ s.1 + 1 by omega)).xw (show a ≤ s.1 + 3 by omega)).sA h8).sA h9).sA h0).ex (show a ≤ s.1 + 5 by omega) h1 h2 h3 h4 h5 h6 h7
end ZK
