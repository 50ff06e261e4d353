/-! THE BUILDER OF THE CLASS: what the parts of a rule keep -/
theorem y_nd_b {K : Nat → Nat} {c a : Nat} {s : y_S} (hs : s = (a, 0)) (h : (y_nd K c s).2 = 0) : K a = c ∧ y_nd K c s = (a + 1, 0) ∧ a + 1 ≤ 1200 := by
  obtain ⟨h1, h2⟩ := y_nd_p hs h
  refine ⟨h1, h2, ?_⟩
  have h3 : y_is K c s = true := (y_nd_0 h).1
  unfold y_nd at h
  rw [if_pos h3] at h
  exact (y_ps_b hs h).2
theorem y_d1_p {K : Nat → Nat} {s : y_S} (hz : (y_d1 K s).2 = 0) : s.2 = 0 ∧ K (s.1 + 1) = 40 ∧ ((K s.1 = 11 ∧ y_d1 K s = (s.1 + 3, 0)) ∨ (K s.1 = 12 ∧ y_d1 K s = (s.1 + 5, 0) ∧ K (s.1 + 3) = 40) ∨ (K s.1 = 13 ∧ y_d1 K s = (s.1 + 7, 0) ∧ K (s.1 + 3) = 40 ∧ K (s.1 + 5) = 40) ∨ ((¬ K s.1 = 11 ∧ ¬ K s.1 = 12 ∧ ¬ K s.1 = 13) ∧ K (s.1 + 3) = 41 ∧ s.1 + 5 ≤ 1200 ∧ (y_E K (s.1 + 5, 0)).2 = 0 ∧ y_d1 K s = (e_E K 1202 (s.1 + 5) + 1, 0))) := by
  obtain ⟨p0, p1⟩ := y_ps_0 (y_nd_z (y_d1_2.2.1 hz))
  obtain ⟨k1, p2⟩ := y_nd_p p1 (y_d1_2.2.1 hz)
  refine ⟨p0, k1, ?_⟩
  unfold y_d1 at hz ⊢
  have is : ∀ c, y_is K c s = decide (K s.1 = c) := by
    intro c
    by_cases h9 : K s.1 = c
    · rw [decide_eq_true h9]
      exact y_is_c.mpr ⟨p0, h9⟩
    · rw [decide_eq_false h9]
      exact Bool.eq_false_iff.mpr (fun h8 => h9 (y_is_c.mp h8).2)
  rw [is, is, is] at hz ⊢
  by_cases h1 : K s.1 = 11
  · rw [if_pos (decide_eq_true h1)] at hz ⊢
    exact Or.inl ⟨h1, (y_nd_p p2 hz).2⟩
  rw [if_neg (fun h9 => h1 (of_decide_eq_true h9))] at hz ⊢
  by_cases h2 : K s.1 = 12
  · rw [if_pos (decide_eq_true h2)] at hz ⊢
    have a2 := y_nd_z hz
    have a1 := y_nd_z a2
    obtain ⟨b1, p3⟩ := y_nd_p p2 a1
    obtain ⟨b2, p4⟩ := y_nd_p p3 a2
    exact Or.inr (Or.inl ⟨h2, (y_nd_p p4 hz).2, b2⟩)
  rw [if_neg (fun h9 => h2 (of_decide_eq_true h9))] at hz ⊢
  by_cases h3 : K s.1 = 13
  · rw [if_pos (decide_eq_true h3)] at hz ⊢
    have a2 := y_nd_z hz
    obtain ⟨c1, c2, c3, c4, c5, _, _, _, _, p3⟩ := y_wy_0 p1 a2
    exact Or.inr (Or.inr (Or.inl ⟨h3, (y_nd_p p3 hz).2, c3, c5⟩))
  rw [if_neg (fun h9 => h3 (of_decide_eq_true h9))] at hz ⊢
  have a3 := y_nd_z hz
  have a4 := (y_to.E (K := K) (y_to.rf (s := y_nd K 29 (y_nd K 41 (y_nd K 27 (y_nd K 40 (y_ps s))))))).2.1 a3
  have a5 := y_nd_z a4
  have a6 := y_nd_z a5
  obtain ⟨b1, p3⟩ := y_nd_p p2 a6
  obtain ⟨b2, p4⟩ := y_nd_p p3 a5
  obtain ⟨b3, p5, b4⟩ := y_nd_b p4 a4
  have p5 : y_nd K 29 (y_nd K 41 (y_nd K 27 (y_nd K 40 (y_ps s)))) = (s.1 + 5, 0) := p5
  rw [p5] at a3 hz ⊢
  have b4 : s.1 + 5 ≤ 1200 := b4
  obtain ⟨_, _, _, _, d4, _⟩ := e_all (K := K) (P := K) (X := K) (U := fun _ => 0) (set := false) (L := 0) b4 a3
  rw [d4] at hz ⊢
  exact Or.inr (Or.inr (Or.inr ⟨⟨h1, h2, h3⟩, b2, b4, rfl, (y_nd_p rfl hz).2⟩))
/-- what a part of a rule leaves as it is: but for these numbers and these rows of the rule -/
def g_K (c o : Nat) (F D : List Nat) (h h' : q_Hp) : Prop := (∀ x j, ¬ (x = 589 ∧ (j = 9 ∨ j = 15 ∨ j = 16 ∨ ((j = 10 ∨ j = 11) ∧ 4 ∈ F))) → ¬ (x = o ∧ j ∈ F) → ¬ (x = c ∧ j = 4) → qI h' x j = qI h x j) ∧ (∀ x, ¬ (x = 593 ∨ x = 594 ∨ x = 595 ∨ x = 596 ∨ x = c + 6 ∨ x = c + 7) → (∀ i, i ∈ D → ¬ x = o + i) → qA h' x = qA h x) ∧ (∀ x, ¬ x = 592 → qL h' x = qL h x) ∧ qR h' = qR h
section GK
variable {K : Nat → Nat} {V : Nat → Int64} {c o : Nat} {F D : List Nat} {h h1 h2 : q_Hp}
theorem g_K.rf : g_K c o F D h h := ⟨fun _ _ _ _ _ => rfl, fun _ _ _ => rfl, fun _ _ => rfl, rfl⟩
theorem g_K.trans (a : g_K c o F D h h1) (b : g_K c o F D h1 h2) : g_K c o F D h h2 := ⟨fun x j q1 q2 q3 => (b.1 x j q1 q2 q3).trans (a.1 x j q1 q2 q3), fun x q1 q2 => (b.2.1 x q1 q2).trans (a.2.1 x q1 q2), fun x q => (b.2.2.1 x q).trans (a.2.2.1 x q), b.2.2.2.trans a.2.2.2⟩
theorem g_K.mono {F' D' : List Nat} (a : g_K c o F D h h1) (hF : ∀ i, i ∈ F → i ∈ F') (hD : ∀ i, i ∈ D → i ∈ D') : g_K c o F' D' h h1 := ⟨fun x j q1 q2 q3 => a.1 x j (fun q => q1 ⟨q.1, q.2.imp id (Or.imp id (Or.imp id (fun r => ⟨r.1, hF _ r.2⟩)))⟩) (fun q => q2 ⟨q.1, hF _ q.2⟩) q3, fun x q1 q2 => a.2.1 x q1 (fun i hi => q2 i (hD i hi)), a.2.2.1, a.2.2.2⟩
theorem g_K.sI {x j : Nat} {v : Int32} (a : g_K c o F D h h1) (hx : (x = 589 ∧ (j = 9 ∨ j = 15 ∨ j = 16 ∨ ((j = 10 ∨ j = 11) ∧ 4 ∈ F))) ∨ (x = o ∧ j ∈ F) ∨ (x = c ∧ j = 4)) : g_K c o F D h (q_sI h1 x j v) := by
  refine ⟨fun y i q1 q2 q3 => ?_, a.2.1, a.2.2.1, a.2.2.2⟩
  rw [q_sI_n]
  · exact a.1 y i q1 q2 q3
  · rintro ⟨rfl, rfl⟩
    rcases hx with hx | hx | hx
    · exact q1 hx
    · exact q2 hx
    · exact q3 hx
theorem g_K.sA {x j : Nat} {v : Int32} (a : g_K c o F D h h1) (hx : (x = 593 ∨ x = 594 ∨ x = 595 ∨ x = 596 ∨ x = c + 6 ∨ x = c + 7) ∨ (∃ i, i ∈ D ∧ x = o + i)) : g_K c o F D h (q_sA h1 x j v) := by
  refine ⟨a.1, fun y q1 q2 => ?_, a.2.2.1, a.2.2.2⟩
  rw [qA_sAn]
  · exact a.2.1 y q1 q2
  · rintro rfl
    rcases hx with hx | ⟨i, hi, hx⟩
    · exact q1 hx
    · exact q2 i hi hx
theorem g_K.sO {i j : Nat} {v : Int32} (a : g_K c o F D h h1) (hi : i ∈ D) : g_K c o F D h (q_sA h1 (o + i) j v) := a.sA (Or.inr ⟨i, hi, rfl⟩)
theorem g_K.sL {j : Nat} {v : Int64} (a : g_K c o F D h h1) : g_K c o F D h (q_sL h1 592 j v) := by
  refine ⟨a.1, a.2.1, fun y q1 => ?_, a.2.2.2⟩
  rw [qL_sLn q1]
  exact a.2.2.1 y q1
theorem g_K.fa {n : Int32} {x : Nat} (a : g_K c o F D h h1) : g_K c o F D h (g_fa n x h1) := by
  unfold g_fa
  split
  · exact (a.sI (Or.inl ⟨rfl, Or.inr (Or.inl rfl)⟩)).sI (Or.inl ⟨rfl, Or.inr (Or.inr (Or.inl rfl))⟩)
  · exact a
theorem g_K.fw {w : Option Nat} {x : Nat} (a : g_K c o F D h h1) : g_K c o F D h (g_fw x w h1) := by
  unfold g_fw
  split
  · exact a.fa
  · exact a
theorem g_K.dw {w : Option Nat} {x : Nat} (a : g_K c o F D h h1) : g_K c o F D h (g_dw x w h1) := by
  unfold g_dw
  split
  · exact a
  · exact a.fa
theorem g_K.xw {x : Nat} {v : Int64} (a : g_K c o F D h h1) : g_K c o F D h (g_xw x v h1) := by
  unfold g_xw
  split
  · exact a
  · exact a.fa
theorem g_K.ite {p : Prop} [Decidable p] (a : g_K c o F D h h1) (b : g_K c o F D h h2) : g_K c o F D h (if p then h1 else h2) := by
  split
  · exact a
  · exact b
theorem g_K.tl {m : Nat} {v : Int64} {kd nu ty : Int32} (a : g_K c o F D h h1) : g_K c o F D h (g_tl m v kd nu ty h1) := by
  unfold g_tl
  exact ((((a.sL.sA (Or.inl (by omega))).sA (Or.inl (by omega))).sA (Or.inl (by omega))).sA (Or.inl (by omega))).sI (Or.inl ⟨rfl, Or.inl rfl⟩)
theorem g_K.E {m n a : Nat} (H : g_K c o F D h h1) : g_K c o F D h (g_E K V c m n a h1) := ⟨fun x j q1 q2 q3 => (g_E_I q3 (fun q => q1 ⟨q.1, q.2.elim (fun r => Or.inr (Or.inl r)) (fun r => Or.inr (Or.inr (Or.inl r)))⟩)).trans (H.1 x j q1 q2 q3), fun x q1 q2 => (g_E_A (by omega)).trans (H.2.1 x q1 q2), fun x q => by rw [g_E_L]; exact H.2.2.1 x q, by rw [g_E_R]; exact H.2.2.2⟩
theorem g_K.n1 {nt m a : Nat} (H : g_K c o F D h h1) : g_K c o F D h (g_n1 V nt m a h1) := H.dw.fw
theorem g_K.l1 {ns m a : Nat} (H : g_K c o F D h h1) : g_K c o F D h (g_l1 V ns m a h1) := H.dw.fw.fw.fw
theorem g_K.no {nt n m a : Nat} (H : g_K c o F D h h1) (hF : 0 ∈ F) (hD : 1 ∈ D) : g_K c o F D h (g_no V nt o n m a h1) := ((H.n1.sO hD).sI (Or.inr (Or.inl ⟨rfl, hF⟩))).tl
theorem g_K.nn {nt k m a : Nat} (H : g_K c o F D h h1) (hD : 2 ∈ D) : g_K c o F D h (g_nn V nt o k m a h1) := (H.n1.sO hD).tl
theorem g_K.lk {i : Nat} {s f t : Int32} (H : g_K c o F D h h1) (h4 : 4 ∈ D) (h5 : 5 ∈ D) (h6 : 6 ∈ D) : g_K c o F D h (g_lk o i s f t h1) := ((H.sO h4).sO h5).sO h6
theorem g_K.li {ns l m a : Nat} (H : g_K c o F D h h1) (hF : 1 ∈ F) (h4 : 4 ∈ D) (h5 : 5 ∈ D) (h6 : 6 ∈ D) : g_K c o F D h (g_li V ns o l m a h1) := ((H.l1.lk h4 h5 h6).sI (Or.inr (Or.inl ⟨rfl, hF⟩))).tl
theorem g_K.nk {ns k w m a : Nat} (H : g_K c o F D h h1) (h3 : 3 ∈ D) (h4 : 4 ∈ D) (h5 : 5 ∈ D) (h6 : 6 ∈ D) : g_K c o F D h (g_nk V ns o k w m a h1) := ((H.l1.lk h4 h5 h6).sO h3).tl
theorem g_K.t1 {m i a : Nat} (H : g_K c o F D h h1) (h12 : 12 ∈ D) (h13 : 13 ∈ D) : g_K c o F D h (g_t1 K V c m o i a h1) := (H.sO h12).E.sO h13
theorem g_K.te {m t a : Nat} (H : g_K c o F D h h1) (hF : 3 ∈ F) (h7 : 7 ∈ D) (h12 : 12 ∈ D) (h13 : 13 ∈ D) : g_K c o F D h (g_te K V c m o t a h1) := (((H.t1 h12 h13).sO h7).sI (Or.inr (Or.inl ⟨rfl, hF⟩))).t1 h12 h13
theorem g_K.dd {d : Nat} {x y z w : Int32} (H : g_K c o F D h h1) (hF : 4 ∈ F) (h8 : 8 ∈ D) (h9 : 9 ∈ D) (h10 : 10 ∈ D) (h11 : 11 ∈ D) : g_K c o F D h (g_dd o d x y z w h1) := ((((H.sO h8).sO h9).sO h10).sO h11).sI (Or.inr (Or.inl ⟨rfl, hF⟩))
theorem g_K.de {d m a : Nat} (H : g_K c o F D h h1) (hF : 4 ∈ F) (h5 : 5 ∈ F) (h8 : 8 ∈ D) (h9 : 9 ∈ D) (h10 : 10 ∈ D) (h11 : 11 ∈ D) : g_K c o F D h (g_de V o d m a h1) := by
  unfold g_de
  cases g_ft 3 m (V (a + 1)) h1 with
  | none => exact H.fa
  | some j =>
    show g_K c o F D h (g_de3 o d m a j h1)
    have H1 : g_K c o F D h (q_sA h1 596 j 1) := H.sA (Or.inl (by omega))
    unfold g_de3
    refine g_K.ite (H1.dd hF h8 h9 h10 h11) ?_
    have H2 : g_K c o F D h (g_de1 o m a (qA h1 594 j) (q_sA h1 596 j 1)) := g_K.ite H1.fa H1
    exact (H2.dd hF h8 h9 h10 h11).sI (Or.inr (Or.inl ⟨rfl, h5⟩))
theorem g_K.nw {nt d w m a : Nat} (H : g_K c o F D h h1) (hF : 4 ∈ F) (h8 : 8 ∈ D) (h9 : 9 ∈ D) (h10 : 10 ∈ D) (h11 : 11 ∈ D) : g_K c o F D h (g_nw V nt o d w m a h1) := ((H.n1.sI (Or.inl ⟨rfl, Or.inr (Or.inr (Or.inr ⟨Or.inl rfl, hF⟩))⟩)).dd hF h8 h9 h10 h11).tl
theorem g_K.jo {nt ns d m a : Nat} (H : g_K c o F D h h1) (hF : 4 ∈ F) (h8 : 8 ∈ D) (h9 : 9 ∈ D) (h10 : 10 ∈ D) (h11 : 11 ∈ D) : g_K c o F D h (g_jo V c nt ns o d m a h1) := by
  have H2 : ∀ oa os ob, g_K c o F D h (g_j2 c nt ns a oa os ob (g_fw (a + 1) oa h1)) := fun oa os ob => g_K.ite H.fw.fa (g_K.ite H.fw.fa H.fw)
  exact (((H2 _ _ _).fw).dd hF h8 h9 h10 h11).sI (Or.inl ⟨rfl, Or.inr (Or.inr (Or.inr ⟨Or.inr rfl, hF⟩))⟩)
theorem g_K.se {d m a : Nat} (H : g_K c o F D h h1) (hF : 4 ∈ F) (h8 : 8 ∈ D) (h9 : 9 ∈ D) (h10 : 10 ∈ D) (h11 : 11 ∈ D) (h12 : 12 ∈ D) (h13 : 13 ∈ D) : g_K c o F D h (g_se K V c o d m a h1) := by
  have H2 : g_K c o F D h (g_s1 V m a h1) := H.fw.xw
  exact (H2.t1 h12 h13).dd hF h8 h9 h10 h11
theorem g_K.lf {nt ns : Nat} (hF0 : 0 ∈ F) (hF1 : 1 ∈ F) (hF6 : 6 ∈ F) (h1' : 1 ∈ D) (h4 : 4 ∈ D) (h5 : 5 ∈ D) (h6 : 6 ∈ D) : ∀ m n l s h1, g_K c o F D h h1 → g_K c o F D h (g_lf K V nt ns o m n l s h1) := by
  intro m
  induction m with
  | zero => intro n l s h1 H; exact H
  | succ m ih =>
    intro n l s h1 H
    unfold g_lf
    exact g_K.ite (ih _ _ _ _ (H.no hF0 h1')) (g_K.ite (ih _ _ _ _ (H.li hF1 h4 h5 h6)) (g_K.ite (ih _ _ _ _ (H.sI (Or.inr (Or.inl ⟨rfl, hF6⟩)))) H))
theorem g_K.nl {nt ns k aa : Nat} (h2' : 2 ∈ D) (h3 : 3 ∈ D) (h4 : 4 ∈ D) (h5 : 5 ∈ D) (h6 : 6 ∈ D) : ∀ m n l s h1, g_K c o F D h h1 → g_K c o F D h (g_nl K V nt ns o k aa m n l s h1) := by
  intro m
  induction m with
  | zero => intro n l s h1 H; exact H
  | succ m ih =>
    intro n l s h1 H
    unfold g_nl
    exact g_K.ite (ih _ _ _ _ (H.nn h2')) (g_K.ite (ih _ _ _ _ (H.nk h3 h4 h5 h6)) H)
end GK
/-- so many names are told, so many nodes are new -/
def g_tn (h : q_Hp) : Nat := (qI h 589 9 : Int32).toNatClampNeg
def g_wn (h : q_Hp) : Nat := (qI h 589 10 : Int32).toNatClampNeg
def g_dn (o : Nat) (h : q_Hp) : Nat := (qI h o 4 : Int32).toNatClampNeg
def g_n0 (o q : Nat) (h : q_Hp) : q_Hp := q_sI (q_sA (q_sA h (o + 2) q (-1)) (o + 3) q 0) o 2 (nI (q + 1))
def g_nO (K : Nat → Nat) (V : Nat → Int64) (nt ns o q m : Nat) (s : y_S) (h : q_Hp) : q_Hp := q_sI (g_nl K V nt ns o q m 1201 0 0 (s.1 + 1, 0) (g_n0 o q h)) 589 9 (nI m)
def g_nts (K : Nat → Nat) (V : Nat → Int64) (nt ns o m : Nat) : Nat → Nat → y_S → q_Hp → q_Hp
  | 0, _, _, h => h
  | f + 1, q, s, h => if y_is K 9 s = true then g_nts K V nt ns o m f (q + 1) (y_n1 K q s) (g_nO K V nt ns o q m s h) else h
def g_tss (K : Nat → Nat) (V : Nat → Int64) (c o m : Nat) : Nat → Nat → y_S → q_Hp → q_Hp
  | 0, _, _, h => h
  | f + 1, t, s, h => if y_is K 10 s = true then g_tss K V c o m f (t + 1) (y_te K (y_rm (decide (t < 4)) s)) (g_te K V c m o t s.1 h) else h
def g_d1 (K : Nat → Nat) (V : Nat → Int64) (c nt ns o d m w a : Nat) (h : q_Hp) : q_Hp := if K a = 11 then g_de V o d m a h else if K a = 12 then g_nw V nt o d w m a h else if K a = 13 then g_jo V c nt ns o d m a h else g_se K V c o d m a h
def g_dss (K : Nat → Nat) (V : Nat → Int64) (c nt ns o : Nat) : Nat → Nat → y_S → q_Hp → q_Hp
  | 0, _, _, h => h
  | f + 1, d, s, h => if y_dw K s = true then g_dss K V c nt ns o f (d + 1) (y_d1 K (y_rm (decide (d < 8)) s)) (g_d1 K V c nt ns o (g_dn o h) (g_tn h) (g_wn h) s.1 h) else h
section GK
variable {K : Nat → Nat} {V : Nat → Int64} {c o : Nat} {F D : List Nat} {h h1 h2 : q_Hp}
theorem g_K.n0 {q : Nat} (H : g_K c o F D h h1) (hF : 2 ∈ F) (h2' : 2 ∈ D) (h3 : 3 ∈ D) : g_K c o F D h (g_n0 o q h1) := ((H.sO h2').sO h3).sI (Or.inr (Or.inl ⟨rfl, hF⟩))
theorem g_K.nO {nt ns q m : Nat} {s : y_S} (H : g_K c o F D h h1) (hF : 2 ∈ F) (h2' : 2 ∈ D) (h3 : 3 ∈ D) (h4 : 4 ∈ D) (h5 : 5 ∈ D) (h6 : 6 ∈ D) : g_K c o F D h (g_nO K V nt ns o q m s h1) := (g_K.nl h2' h3 h4 h5 h6 _ _ _ _ _ (H.n0 hF h2' h3)).sI (Or.inl ⟨rfl, Or.inl rfl⟩)
theorem g_K.nts {nt ns m : Nat} (hF : 2 ∈ F) (h2' : 2 ∈ D) (h3 : 3 ∈ D) (h4 : 4 ∈ D) (h5 : 5 ∈ D) (h6 : 6 ∈ D) : ∀ f q s h1, g_K c o F D h h1 → g_K c o F D h (g_nts K V nt ns o m f q s h1) := by
  intro f
  induction f with
  | zero => intro q s h1 H; exact H
  | succ f ih =>
    intro q s h1 H
    unfold g_nts
    exact g_K.ite (ih _ _ _ (H.nO hF h2' h3 h4 h5 h6)) H
theorem g_K.tss {m : Nat} (hF : 3 ∈ F) (h7 : 7 ∈ D) (h12 : 12 ∈ D) (h13 : 13 ∈ D) : ∀ f t s h1, g_K c o F D h h1 → g_K c o F D h (g_tss K V c o m f t s h1) := by
  intro f
  induction f with
  | zero => intro t s h1 H; exact H
  | succ f ih =>
    intro t s h1 H
    unfold g_tss
    exact g_K.ite (ih _ _ _ (H.te hF h7 h12 h13)) H
theorem g_K.d1 {nt ns d m w a : Nat} (H : g_K c o F D h h1) (hF : 4 ∈ F) (h5 : 5 ∈ F) (h8 : 8 ∈ D) (h9 : 9 ∈ D) (h10 : 10 ∈ D) (h11 : 11 ∈ D) (h12 : 12 ∈ D) (h13 : 13 ∈ D) : g_K c o F D h (g_d1 K V c nt ns o d m w a h1) := g_K.ite (H.de hF h5 h8 h9 h10 h11) (g_K.ite (H.nw hF h8 h9 h10 h11) (g_K.ite (H.jo hF h8 h9 h10 h11) (H.se hF h8 h9 h10 h11 h12 h13)))
theorem g_K.dss {nt ns : Nat} (hF : 4 ∈ F) (h5 : 5 ∈ F) (h8 : 8 ∈ D) (h9 : 9 ∈ D) (h10 : 10 ∈ D) (h11 : 11 ∈ D) (h12 : 12 ∈ D) (h13 : 13 ∈ D) : ∀ f d s h1, g_K c o F D h h1 → g_K c o F D h (g_dss K V c nt ns o f d s h1) := by
  intro f
  induction f with
  | zero => intro d s h1 H; exact H
  | succ f ih =>
    intro d s h1 H
    unfold g_dss
    exact g_K.ite (ih _ _ _ (H.d1 hF h5 h8 h9 h10 h11 h12 h13)) H
theorem g_K.P {nt ns : Nat} (H : g_K c o F D h h1) (P : g_P c nt ns o h) (hc : c = 11 ∨ c = 300) : g_P c nt ns o h1 := by
  have hne := P.2.1.ne
  exact P.cc (by rw [H.2.2.2]) (H.1 c 0 (fun q => by have := q.1; omega) (fun q => by have := q.1; omega) (by omega)) (H.1 c 1 (fun q => by have := q.1; omega) (fun q => by have := q.1; omega) (by omega))
end GK
