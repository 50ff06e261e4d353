/-! THE TWO READS: rules that are told already stay -/
def zIx (x : Nat) : Nat := if x = 644 ∨ (655 ≤ x ∧ x ≤ 658) then 4 else if (645 ≤ x ∧ x ≤ 647) ∨ (651 ≤ x ∧ x ≤ 653) then 6 else if x = 649 ∨ x = 650 then 2 else if 660 ≤ x ∧ x ≤ 665 then 8 else 1
def p_Ki (q : Nat) (k k' : q_Hp) : Prop := ∀ x i, 641 ≤ x → x ≤ 665 → i < zIx x * q → qA k' x i = qA k x i
section KI
variable {K P X : Nat → Nat} {U : Nat → Int64} {nt ns r n l L q aa c : Nat} {k k1 k2 : q_Hp} {s : y_S}
theorem p_Ki.rf : p_Ki q k k := fun _ _ _ _ _ => rfl
theorem p_Ki.trans (a : p_Ki q k k1) (b : p_Ki q k1 k2) : p_Ki q k k2 := fun x i h1 h2 h3 => (b x i h1 h2 h3).trans (a x i h1 h2 h3)
theorem p_Ki.cc (a : p_Ki q k k1) (e : qA k2 = qA k1) : p_Ki q k k2 := fun x i h1 h2 h3 => by rw [e]; exact a x i h1 h2 h3
theorem p_Ki.sA {y j : Nat} {v : Int32} (a : p_Ki q k k1) (hy : 641 ≤ y → y ≤ 665 → zIx y * q ≤ j) : p_Ki q k (q_sA k1 y j v) := fun x i h1 h2 h3 => by
  rw [qA_sAp]
  · exact a x i h1 h2 h3
  · rintro ⟨rfl, rfl⟩
    have := hy h1 h2
    omega
theorem p_Ki.sI {j : Nat} {v : Int32} (a : p_Ki q k k1) : p_Ki q k (q_sI k1 630 j v) := a.cc (by rw [qA_sI])
theorem p_Ki.sL {y j : Nat} {v : Int64} (a : p_Ki q k k1) : p_Ki q k (q_sL k1 y j v) := a.cc (by rw [qA_sL])
theorem p_Ki.wr {n i : Nat} (a : p_Ki q k k1) : p_Ki q k (p_wr P n i k1) := a.cc p_wr_A
theorem p_Ki.fw {i : Nat} {o : Option Nat} (a : p_Ki q k k1) : p_Ki q k (p_fw P i o k1) := a.cc p_fw_A
theorem p_Ki.dw {i : Nat} {o : Option Nat} (a : p_Ki q k k1) : p_Ki q k (p_dw P i o k1) := a.cc p_dw_A
theorem p_Ki.xw {i : Nat} (a : p_Ki q k k1) : p_Ki q k (p_xw P X i k1) := a.cc p_xw_A
theorem p_Ki.ite {p : Prop} [Decidable p] (a : p_Ki q k k1) (b : p_Ki q k k2) : p_Ki q k (if p then k1 else k2) := by
  split
  · exact a
  · exact b
theorem p_Ki.tl {i m : Nat} {kd b ty : Int32} (a : p_Ki q k k1) : p_Ki q k (p_tl P U i m kd b ty k1) := ((((a.dw.sL.sA (fun _ h => absurd h (by decide))).sA (fun _ h => absurd h (by decide))).sA (fun _ h => absurd h (by decide))).sA (fun _ h => absurd h (by decide))).sI
theorem p_Ki.no (a : p_Ki (20 + r) k k1) : p_Ki (20 + r) k (p_no P U nt r n L s k1) := ((a.fw.tl).sA (fun _ _ => by show 4 * (20 + r) ≤ _; omega)).sA (fun _ _ => by show 1 * (20 + r) ≤ _; omega)
theorem p_Ki.l3 {i rs rf rt : Nat} (a : p_Ki q k k1) (h : (rs = 645 ∧ rf = 646 ∧ rt = 647) ∨ (rs = 651 ∧ rf = 652 ∧ rt = 653)) (hi : 6 * q ≤ i) : p_Ki q k (p_l3 P U ns L i rs rf rt s k1) := by
  unfold p_l3 p_l1 p_l2
  have z : ∀ x, x = rs ∨ x = rf ∨ x = rt → zIx x * q ≤ i := fun x hx => by
    have : zIx x = 6 := by
      obtain h9 | h9 | h9 | h9 | h9 | h9 : x = 645 ∨ x = 646 ∨ x = 647 ∨ x = 651 ∨ x = 652 ∨ x = 653 := by omega
      all_goals (rw [h9]; rfl)
    rw [this]
    exact hi
  exact ((((a.fw.sA (fun _ _ => z _ (by omega))).fw).sA (fun _ _ => z _ (by omega))).fw).sA (fun _ _ => z _ (by omega))
theorem p_Ki.li (a : p_Ki (20 + r) k k1) : p_Ki (20 + r) k (p_li P U ns r l L s k1) := ((a.l3 (Or.inl ⟨rfl, rfl, rfl⟩) (by omega)).tl).sA (fun _ _ => by show 1 * (20 + r) ≤ _; omega)
theorem p_Ki.nn (a : p_Ki q k k1) (h : 2 * q ≤ aa) : p_Ki q k (p_nn P U nt aa L s k1) := (a.fw.sA (fun _ _ => by show 2 * q ≤ _; omega)).tl
theorem p_Ki.nk (a : p_Ki q k k1) (h : 2 * q ≤ aa) : p_Ki q k (p_nk P U ns aa l L s k1) := ((a.l3 (Or.inr ⟨rfl, rfl, rfl⟩) (by omega)).tl).sA (fun _ _ => by show 2 * q ≤ _; omega)
theorem p_Ki.lf : ∀ m n l s k1, p_Ki (20 + r) k k1 → p_Ki (20 + r) k (p_lf K P U nt ns r m n l s k1) := by
  intro m
  induction m with
  | zero => intro n l s k1 a; exact a
  | succ m ih =>
    intro n l s k1 a
    unfold p_lf
    exact p_Ki.ite (ih _ _ _ _ a.no) (p_Ki.ite (ih _ _ _ _ a.li) (p_Ki.ite (ih _ _ _ _ (a.sA (fun _ _ => by show 1 * (20 + r) ≤ _; omega))) a))
theorem p_Ki.nl {a0 : Nat} (h : 2 * q ≤ aa) : ∀ m n l s k1, p_Ki q k k1 → p_Ki q k (p_nl K P U nt ns aa a0 m n l s k1) := by
  intro m
  induction m with
  | zero => intro n l s k1 a; exact a
  | succ m ih =>
    intro n l s k1 a
    unfold p_nl
    exact p_Ki.ite (ih _ _ _ _ (a.nn h)) (p_Ki.ite (ih _ _ _ _ (a.nk h)) a)
theorem p_Ki.nts : ∀ m c s k1, p_Ki (20 + r) k k1 → p_Ki (20 + r) k (p_nts K P U nt ns r aa m c s k1) := by
  intro m
  induction m with
  | zero => intro c s k1 a; exact a
  | succ m ih =>
    intro c s k1 a
    unfold p_nts
    refine p_Ki.ite (ih _ _ _ (p_Ki.sI (p_Ki.nl (by omega) _ _ _ _ _ ?_))) a
    exact ((a.sA (fun _ _ => by show 1 * (20 + r) ≤ _; omega)).sA (fun _ _ => by show 2 * (20 + r) ≤ _; omega)).sA (fun _ _ => by show 2 * (20 + r) ≤ _; omega)
theorem p_Ki.ex {set : Bool} (a : p_Ki q k k1) : p_Ki q k (p_ex K P X U set L s k1) := a.trans (fun x i h1 h2 _ => by
  have z := (p_kx.rf (k := k1)).ex (K := K) (P := P) (X := X) (U := U) (set := set) (L := L) (s := s)
  rw [z.1 x (by omega)])
theorem p_Ki.tss : ∀ m c s k1, p_Ki (20 + r) k k1 → p_Ki (20 + r) k (p_tss K P X U r aa m c s k1) := by
  intro m
  induction m with
  | zero => intro c s k1 a; exact a
  | succ m ih =>
    intro c s k1 a
    unfold p_tss
    refine p_Ki.ite (ih _ _ _ ?_) a
    unfold p_te p_te3 p_te2 p_te1
    exact (((((((a.sA (fun _ _ => by show 1 * (20 + r) ≤ _; omega)).sA (fun _ _ => by show 4 * (20 + r) ≤ _; omega)).ex).sA (fun _ _ => by show 4 * (20 + r) ≤ _; omega)).sA (fun _ _ => by show 4 * (20 + r) ≤ _; omega)).ex).sA (fun _ _ => by show 4 * (20 + r) ≤ _; omega))
theorem p_Ki.d0 (a : p_Ki q k k1) : p_Ki q k (p_d0 c k1) := a.trans (fun x i h1 h2 _ => by rw [p_d0_A (by omega)])
theorem p_Ki.s8 {y j : Nat} {v : Int32} (a : p_Ki (20 + r) k k1) (hy : 660 ≤ y ∧ y ≤ 665) (hj : 8 * (20 + r) ≤ j) : p_Ki (20 + r) k (q_sA k1 y j v) := a.sA (fun _ _ => by
  have : zIx y = 8 := by
    obtain h9 | h9 | h9 | h9 | h9 | h9 : y = 660 ∨ y = 661 ∨ y = 662 ∨ y = 663 ∨ y = 664 ∨ y = 665 := by omega
    all_goals (rw [h9]; rfl)
  rw [this]
  exact hj)
theorem p_Ki.s9 {y j : Nat} {v : Int32} (a : p_Ki q k k1) (hy : 666 ≤ y) : p_Ki q k (q_sA k1 y j v) := a.sA (fun _ h => absurd h (by omega))
theorem p_Ki.dss {ll : Nat} : ∀ m c s k1, p_Ki (20 + r) k k1 → p_Ki (20 + r) k (p_dss K P X U nt ns r ll m c s k1) := by
  intro m
  induction m with
  | zero => intro c s k1 a; exact a
  | succ m ih =>
    intro c s k1 a
    unfold p_dss
    refine p_Ki.ite (ih _ _ _ ?_) a
    have x1 : p_Ki (20 + r) k (p_d1 (8 * (20 + r) + c) (p_d0 c k1)) := (((a.d0.s8 (by decide) (by omega)).s8 (by decide) (by omega)).s8 (by decide) (by omega)).s8 (by decide) (by omega)
    unfold p_ds
    generalize p_d1 (8 * (20 + r) + c) (p_d0 c k1) = k3 at *
    refine ((?_ : p_Ki (20 + r) k _).s8 (y := 665) (by decide) (by omega)).sA (fun _ _ => by show 1 * (20 + r) ≤ _; omega)
    unfold p_dd1
    refine p_Ki.ite ?_ (p_Ki.ite ?_ (p_Ki.ite ?_ ?_))
    · unfold p_de
      split
      · unfold p_de2 p_de1
        have x2 : ∀ j v1 v2, p_Ki (20 + r) k (q_sA (q_sA (q_sA k3 682 j 1) 661 (8 * (20 + r) + c) v1) 660 (8 * (20 + r) + c) v2) := fun j v1 v2 => ((x1.s9 (by decide)).s8 (by decide) (by omega)).s8 (by decide) (by omega)
        exact p_Ki.ite ((x2 _ _ _).s9 (by decide)) (p_Ki.ite (x2 _ _ _).wr (x2 _ _ _))
      · exact x1.wr.s8 (by decide) (by omega)
    · exact ((((x1.fw.tl).s8 (by decide) (by omega)).s8 (by decide) (by omega)).s8 (by decide) (by omega)).sI
    · unfold p_jo
      have x2 : ∀ oa os ob i1 i2 i3, p_Ki (20 + r) k (p_jo1 P nt (8 * (20 + r) + c) i1 i2 i3 oa os ob k3) := fun oa os ob i1 i2 i3 => p_Ki.ite (((x1.fw.fw.fw).s8 (by decide) (by omega)).wr) ((x1.fw.fw.fw).s8 (by decide) (by omega))
      unfold p_jo3
      split
      · exact (((((((x2 _ _ _ _ _ _).s8 (by decide) (by omega)).s8 (by decide) (by omega)).s8 (by decide) (by omega)).s9 (by decide)).s9 (by decide)).sI)
      · exact x2 _ _ _ _ _ _
    · exact ((((x1.fw.xw).s8 (by decide) (by omega)).s8 (by decide) (by omega)).s8 (by decide) (by omega)).ex
theorem p_Ki.ru {np : Nat} : p_Ki (20 + r) k (p_ru K P X U nt ns r np s k) := by
  refine p_Ki.dss _ _ _ _ (p_Ki.tss _ _ _ _ (p_Ki.nts _ _ _ _ (p_Ki.lf _ _ _ _ _ ?_)))
  unfold p_ru0
  have x0 : p_Ki (20 + r) k (p_tw P U (s.1 + 1) r np k) := p_Ki.rf.cc p_tw_A
  exact (((((((x0.sL.sI).sA (fun _ _ => by show 1 * (20 + r) ≤ _; omega)).sA (fun _ _ => by show 1 * (20 + r) ≤ _; omega)).sA (fun _ _ => by show 1 * (20 + r) ≤ _; omega)).sA (fun _ _ => by show 1 * (20 + r) ≤ _; omega)).sA (fun _ _ => by show 1 * (20 + r) ≤ _; omega)).sA (fun _ _ => by show 1 * (20 + r) ≤ _; omega)).sI
end KI
/-- a rule's rows stay in the reference -/
theorem zmR.fr {q q2 : Nat} {W : Nat → Nat → Nat} {k k' : q_Hp} (Z : zmR k q W) (F : p_Ki q2 k k') (hq : q < q2) (b : W 0 0 ≤ 4 ∧ W 0 1 ≤ 6 ∧ W 0 2 ≤ 2 ∧ W 0 3 ≤ 4 ∧ W 0 4 ≤ 8 ∧ ∀ n, n < W 0 2 → W 6 n ≤ 3) : zmR k' q W := by
  obtain ⟨⟨z1, z2, z3, z4, z5, z6⟩, z7, z8, z9, z10, z11⟩ := Z
  obtain ⟨b0, b1, b2, b3, b4, b5⟩ := b
  have F1 : ∀ x, x = 641 ∨ x = 642 ∨ x = 643 ∨ x = 648 ∨ x = 654 ∨ x = 659 → ∀ i, i < q2 → qA k' x i = qA k x i := fun x hx i hi => F x i (by omega) (by omega) (by
    have : zIx x = 1 := by rcases hx with rfl | rfl | rfl | rfl | rfl | rfl <;> rfl
    rw [this]
    omega)
  have F4 : ∀ x, x = 644 ∨ x = 655 ∨ x = 656 ∨ x = 657 ∨ x = 658 → ∀ i, i < 4 * q2 → qA k' x i = qA k x i := fun x hx i hi => F x i (by omega) (by omega) (by
    have : zIx x = 4 := by rcases hx with rfl | rfl | rfl | rfl | rfl <;> rfl
    rw [this]
    omega)
  have F6 : ∀ x, x = 645 ∨ x = 646 ∨ x = 647 ∨ x = 651 ∨ x = 652 ∨ x = 653 → ∀ i, i < 6 * q2 → qA k' x i = qA k x i := fun x hx i hi => F x i (by omega) (by omega) (by
    have : zIx x = 6 := by rcases hx with rfl | rfl | rfl | rfl | rfl | rfl <;> rfl
    rw [this]
    omega)
  have F2 : ∀ x, x = 649 ∨ x = 650 → ∀ i, i < 2 * q2 → qA k' x i = qA k x i := fun x hx i hi => F x i (by omega) (by omega) (by
    have : zIx x = 2 := by rcases hx with rfl | rfl <;> rfl
    rw [this]
    omega)
  have F8 : ∀ x, x = 660 ∨ x = 661 ∨ x = 662 ∨ x = 663 ∨ x = 664 ∨ x = 665 → ∀ i, i < 8 * q2 → qA k' x i = qA k x i := fun x hx i hi => F x i (by omega) (by omega) (by
    have : zIx x = 8 := by rcases hx with rfl | rfl | rfl | rfl | rfl | rfl <;> rfl
    rw [this]
    omega)
  refine ⟨⟨(F1 _ (by omega) _ hq).trans z1, (F1 _ (by omega) _ hq).trans z2, (F1 _ (by omega) _ hq).trans z3, (F1 _ (by omega) _ hq).trans z4, (F1 _ (by omega) _ hq).trans z5, (F1 _ (by omega) _ hq).trans z6⟩, fun i hi => ?_, fun i hi => ?_, fun i hi => ?_, fun i hi => ?_, fun i hi => ?_⟩
  · rw [F4 _ (by omega) _ (by omega)]
    exact z7 i hi
  · rw [F6 _ (by omega) _ (by omega), F6 _ (by omega) _ (by omega), F6 _ (by omega) _ (by omega)]
    exact z8 i hi
  · rw [F2 _ (by omega) _ (by omega), F2 _ (by omega) _ (by omega)]
    obtain ⟨y1, y2, y3⟩ := z9 i hi
    refine ⟨y1, y2, fun l hl => ?_⟩
    have := b5 i hi
    rw [F6 _ (by omega) _ (by omega), F6 _ (by omega) _ (by omega), F6 _ (by omega) _ (by omega)]
    exact y3 l hl
  · rw [F4 _ (by omega) _ (by omega), F4 _ (by omega) _ (by omega), F4 _ (by omega) _ (by omega), F4 _ (by omega) _ (by omega)]
    exact z10 i hi
  · rw [F8 _ (by omega) _ (by omega), F8 _ (by omega) _ (by omega), F8 _ (by omega) _ (by omega), F8 _ (by omega) _ (by omega), F8 _ (by omega) _ (by omega), F8 _ (by omega) _ (by omega)]
    exact z11 i hi
theorem q_wR.mono {B B' : q_Bk} {W : Nat → Nat → Nat} (Z : q_wR B W) (h0 : bN B 0 ≤ bN B' 0) (h1 : bN B 1 ≤ bN B' 1) (h4 : bN B 4 ≤ bN B' 4) (hC : ∀ j, j < bN B 4 → bC B' j = bC B j) : q_wR B' W := by
  have sm : ∀ s, q_sm B W s → q_sm B' W s := fun s hs => by
    obtain ⟨a1, a2, a3⟩ := hs
    refine ⟨a1, by omega, ?_⟩
    rw [zcd_q] at a3 ⊢
    rw [← a3]
    exact zcd_fr _ _ _ (fun j _ h2 => hC j (by omega))
  obtain ⟨z0, z1, z2, z3, z4, z5, z6, z7, z8, z9, z10⟩ := Z
  refine ⟨z0, z1, z2, z3, z4, z5, fun i hi => Nat.lt_of_lt_of_le (z6 i hi) h0, fun i hi => ⟨Nat.lt_of_lt_of_le (z7 i hi).1 h1, (z7 i hi).2⟩, fun n hn => ?_, fun t ht => ?_, fun d hd => ?_⟩
  · obtain ⟨y1, y2, y3⟩ := z8 n hn
    exact ⟨Nat.le_trans y1 h0, y2, fun l hl => ⟨Nat.lt_of_lt_of_le (y3 l hl).1 h1, (y3 l hl).2⟩⟩
  · obtain ⟨y1, y2, y3, y4⟩ := z9 t ht
    exact ⟨y1, sm _ y2, sm _ y3, y4⟩
  · obtain ⟨y0, y1, y2, y3, y4, y5⟩ := z10 d hd
    refine ⟨y0, y1, y2, fun q => ?_, fun q => ?_, fun q => ?_⟩
    · obtain ⟨a1, a2, a3, a4⟩ := y3 q
      exact ⟨a1, a2, Nat.lt_of_lt_of_le a3 h0, a4⟩
    · obtain ⟨a1, a2, a3⟩ := y4 q
      exact ⟨a1, Nat.lt_of_lt_of_le a2 h1, a3⟩
    · obtain ⟨a1, a2, a3⟩ := y5 q
      exact ⟨a1, a2, sm _ a3⟩
