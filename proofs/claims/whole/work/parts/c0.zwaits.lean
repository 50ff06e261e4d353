/-! THE TWO READS: names that wait, on the reference's side alone -/
def zRf (K P : Nat → Nat) (e b C D : Nat) (k : q_Hp) (C' D' : Nat) (k' : q_Hp) : Prop := (C ≤ C' ∧ D ≤ D') ∧ (qI k' 630 84 = nI C' ∧ qI k' 630 23 = nI (1300 + D')) ∧ (∀ x, x < C → qA k' 689 x = qA k 689 x ∧ qA k' 690 x = qA k 690 x) ∧ (∀ j, j < D → qA k' 669 (1300 + j) = qA k 669 (1300 + j)) ∧ (∀ x, C ≤ x → x < C' → ∃ i j, b ≤ i ∧ zN K e i ∧ j < D' ∧ qA k' 689 x = nI i ∧ qA k' 690 x = nI (1300 + j)) ∧ p_LW P b k k'
section ZR
variable {K P X : Nat → Nat} {e b C D C1 D1 C2 D2 d i : Nat} {k k1 k2 : q_Hp} {s : y_S}
theorem zRf.rf (h1 : qI k 630 84 = nI C) (h2 : qI k 630 23 = nI (1300 + D)) : zRf K P e b C D k C D k := ⟨⟨Nat.le_refl _, Nat.le_refl _⟩, ⟨h1, h2⟩, fun _ _ => ⟨rfl, rfl⟩, fun _ _ => rfl, fun x h3 h4 => absurd h4 (by omega), p_LW.rf⟩
theorem zRf.trans (A : zRf K P e b C D k C1 D1 k1) (B : zRf K P e b C1 D1 k1 C2 D2 k2) : zRf K P e b C D k C2 D2 k2 := by
  obtain ⟨⟨a1, a2⟩, a3, a4, a5, a6, a7⟩ := A
  obtain ⟨⟨b1, b2⟩, b3, b4, b5, b6, b7⟩ := B
  refine ⟨⟨by omega, by omega⟩, b3, fun x hx => ?_, fun j hj => (b5 j (by omega)).trans (a5 j hj), fun x h1 h2 => ?_, a7.trans b7⟩
  · obtain ⟨c1, c2⟩ := a4 x hx
    obtain ⟨c3, c4⟩ := b4 x (by omega)
    exact ⟨c3.trans c1, c4.trans c2⟩
  · by_cases h9 : x < C1
    · obtain ⟨i, j, q1, q2, q3, q4, q5⟩ := a6 x h1 h9
      obtain ⟨c3, c4⟩ := b4 x h9
      exact ⟨i, j, q1, q2, by omega, c3.trans q4, c4.trans q5⟩
    · exact b6 x (by omega) h2
theorem zRf.cc (A : zRf K P e b C D k C1 D1 k1) (e1 : qI k2 630 84 = qI k1 630 84) (e2 : qI k2 630 23 = qI k1 630 23) (e3 : ∀ y, y = 669 ∨ y = 689 ∨ y = 690 → qA k2 y = qA k1 y) (L : p_LW P b k1 k2) : zRf K P e b C D k C1 D1 k2 := by
  obtain ⟨a1, a3, a4, a5, a6, a7⟩ := A
  rw [← e1, ← e2] at a3
  refine ⟨a1, a3, ?_, ?_, ?_, a7.trans L⟩
  · rw [e3 689 (by omega), e3 690 (by omega)]; exact a4
  · rw [e3 669 (by omega)]; exact a5
  · rw [e3 689 (by omega), e3 690 (by omega)]; exact a6
theorem zRf.sA {y j : Nat} {v : Int32} (A : zRf K P e b C D k C1 D1 k1) (hy : ¬ (y = 669 ∨ y = 689 ∨ y = 690)) : zRf K P e b C D k C1 D1 (q_sA k1 y j v) := A.cc (by rw [qI_sA]) (by rw [qI_sA]) (fun z hz => qA_sAn (by omega)) p_LW.rf.sA
theorem zRf.sI {j : Nat} {v : Int32} (A : zRf K P e b C D k C1 D1 k1) (hy : ¬ (j = 15 ∨ j = 16 ∨ j = 23 ∨ j = 84)) : zRf K P e b C D k C1 D1 (q_sI k1 630 j v) := A.cc (q_sI_n (by omega)) (q_sI_n (by omega)) (fun z hz => by rw [qA_sI]) (p_LW.rf.sI (by omega) (by omega))
theorem zRf.op {o : Nat} (A : zRf K P e b C D k C1 D1 k1) : zRf K P e b C D k C1 D1 (p_op k1 o s) := by
  unfold p_op
  split
  · exact A.sI (by decide)
  · exact A
theorem zRf.co {x : Int32} (A : zRf K P e b C D k C1 D1 k1) : zRf K P e b C D k C1 D1 (p_co x k1) := by
  unfold p_co p_co1
  refine zRf.sA ?_ (by decide)
  split
  · split
    · exact A.sA (by decide)
    · exact A.sA (by decide)
  · exact A.sA (by decide)
theorem zRf.nD {w : Int32} (A : zRf K P e b C D k C1 D1 k1) (hD : D1 < 2 ^ 30) : zRf K P e b C D k C1 (D1 + 1) (p_nD w k1) := by
  refine A.trans ?_
  obtain ⟨h84, h23⟩ := A.2.1
  refine ⟨⟨Nat.le_refl _, Nat.le_succ _⟩, ⟨(p_nD_I (by decide)).trans h84, ?_⟩, fun x _ => ?_, fun j hj => ?_, fun x h3 h4 => absurd h4 (by omega), ?_⟩
  · rw [p_nD_23, h23, nI_1]
    rfl
  · rw [p_nD_A (by decide), p_nD_A (by decide)]
    exact ⟨rfl, rfl⟩
  · unfold p_nD
    rw [h23, nI_clamp (by omega), qA_sAn (by decide), qA_sAn (by decide), qA_sAn (by decide), qA_sAn (by decide), qA_sAn (by decide), qA_sAp (by omega), qA_sI]
  · exact ((((((p_LW.rf.sI (by decide) (by decide)).sA).sA).sA).sA).sA).sA
theorem zRf.nm {j : Nat} {x : Int32} (A : zRf K P e b C D k C1 D1 k1) (hC : C1 < 2 ^ 30) (hi : b ≤ i) (N : zN K e i) (hj : j < D1) (hx : x = nI (1300 + j)) : zRf K P e b C D k (C1 + 1) D1 (p_nm i x k1) := by
  refine A.trans ?_
  obtain ⟨h84, h23⟩ := A.2.1
  unfold p_nm
  rw [h84, nI_clamp (by omega)]
  refine ⟨⟨Nat.le_succ _, Nat.le_refl _⟩, ⟨?_, ?_⟩, fun x hx => ?_, fun j hj => ?_, fun y h3 h4 => ?_, (p_LW.rf.sA.sA).sI (by decide) (by decide)⟩
  · rw [q_sI_e, nI_1]
  · rw [q_sI_n (by omega), qI_sA, qI_sA]
    exact h23
  · rw [qA_sI, qA_sAn (by decide), qA_sAp (by omega), qA_sAp (by omega), qA_sAn (by decide)]
    exact ⟨rfl, rfl⟩
  · rw [qA_sI, qA_sAn (by decide), qA_sAn (by decide)]
  · have e9 : y = C1 := by omega
    subst e9
    refine ⟨i, j, hi, N, hj, ?_, ?_⟩
    · rw [qA_sI, qA_sAn (by decide), qA_sAe]
    · rw [qA_sI, qA_sAe]
      exact hx
theorem zRf.n0 (A : zRf K P e b C D k C1 D1 k1) : qI k1 630 23 = nI (1300 + D1) := A.2.1.2
theorem zRf.dc (A : zRf K P e b C D k C1 D1 k1) (hD : D1 < 2 ^ 29) (hC : C1 < 2 ^ 29) (hb : b ≤ s.1) (N : zN K e (s.1 + 1)) : zRf K P e b C D k (C1 + 1) (D1 + 1) (p_dc K s k1) := ((A.nD (by omega)).nm (by omega) (by omega) N (Nat.lt_succ_self D1) A.n0).co
theorem zRf.fa (A : zRf K P e b C D k C1 D1 k1) (hD : D1 < 2 ^ 29) : zRf K P e b C D k C1 (D1 + 1) (p_fa k1) := (A.nD (by omega)).co
theorem zRf.a1 {last : Int32} {D0 : Nat} (A : zRf K P e b C D k C1 D1 k1) (hD : D1 < 2 ^ 29) (hC : C1 < 2 ^ 29) (hb : b ≤ i) (N : zN K e i) : zRf K P e b C D k (C1 + 1) (D1 + 1) (p_a1 last D0 i k1) := by
  have B := (A.nD (w := 0) (by omega)).nm (by omega) hb N (Nat.lt_succ_self D1) A.n0
  unfold p_a1
  split
  · exact B.sA (by decide)
  · exact B.sA (by decide)
theorem zRf.av (he12 : e ≤ 1200) : ∀ m last D0 (s : y_S) k1 C1 D1, zRf K P e b C D k C1 D1 k1 → b ≤ s.1 → D1 ≤ s.1 → C1 ≤ s.1 → (y_co K m (y_nd K 40 s)).2 = 0 → (y_co K m (y_nd K 40 s)).1 ≤ e → ∃ C2 D2, zRf K P e b C D k C2 D2 (p_av K m last D0 s k1) ∧ D2 ≤ (y_co K m (y_nd K 40 s)).1 ∧ C2 ≤ (y_co K m (y_nd K 40 s)).1 := by
  intro m
  induction m with
  | zero =>
    intro last D0 s k1 C1 D1 A hb hD hC hz he
    have hz : (y_nd K 40 s).2 = 0 := hz
    obtain ⟨q1, q2⟩ := y_nd_0 hz
    have he : (y_nd K 40 s).1 ≤ e := he
    show ∃ C2 D2, zRf K P e b C D k C2 D2 (p_a1 last D0 s.1 k1) ∧ D2 ≤ (y_nd K 40 s).1 ∧ C2 ≤ (y_nd K 40 s).1
    rw [q2] at he ⊢
    have he : s.1 + 1 ≤ e := he
    exact ⟨C1 + 1, D1 + 1, A.a1 (by omega) (by omega) hb ⟨by omega, (y_is_c.mp q1).2⟩, by show D1 + 1 ≤ s.1 + 1; omega, by show C1 + 1 ≤ s.1 + 1; omega⟩
  | succ m ih =>
    intro last D0 s k1 C1 D1 A hb hD hC hz he
    unfold y_co at hz he ⊢
    unfold p_av
    by_cases c28 : y_is K 28 (y_nd K 40 s) = true
    · rw [if_pos c28] at hz he ⊢
      rw [if_pos c28]
      have z0 := (y_is_c.mp c28).1
      obtain ⟨q1, q2⟩ := y_nd_0 z0
      have tc := y_to.co (K := K) m _ _ (y_to.rf (s := y_nd K 40 (y_ps (y_nd K 40 s))))
      have z1 := tc.2.1 hz
      have z2 := y_nd_z z1
      rw [q2] at z2 hz he tc ⊢
      obtain ⟨p1, p2⟩ := y_ps_b rfl z2
      have t2 := (y_to.rf (s := y_ps (s.1 + 1, 0))).nd (K := K) (k := 40)
      rw [p1] at hz he tc t2 ⊢
      have t3 : s.1 + 2 ≤ _ := Nat.le_trans t2.1 tc.1
      have A2 := A.a1 (last := last) (D0 := D0) (i := s.1) (by omega) (by omega) hb ⟨by omega, (y_is_c.mp q1).2⟩
      exact ih (qI k1 630 23) D0 (s.1 + 2, 0) _ _ _ A2 (by show b ≤ s.1 + 2; omega) (by show D1 + 1 ≤ s.1 + 2; omega) (by show C1 + 1 ≤ s.1 + 2; omega) hz he
    · rw [if_neg c28] at hz he ⊢
      rw [if_neg c28]
      obtain ⟨q1, q2⟩ := y_nd_0 hz
      rw [q2] at he ⊢
      have he : s.1 + 1 ≤ e := he
      exact ⟨C1 + 1, D1 + 1, A.a1 (by omega) (by omega) hb ⟨by omega, (y_is_c.mp q1).2⟩, by show D1 + 1 ≤ s.1 + 1; omega, by show C1 + 1 ≤ s.1 + 1; omega⟩
theorem zRf.an (he12 : e ≤ 1200) (A : zRf K P e b C D k C1 D1 k1) (hs : s.2 = 0) (hb : b ≤ s.1) (hD : D1 ≤ s.1) (hC : C1 ≤ s.1) (hz : (y_an K s).2 = 0) (he : (y_an K s).1 ≤ e) : ∃ C2 D2, zRf K P e b C D k C2 D2 (p_an K s k1) ∧ D2 ≤ (y_an K s).1 ∧ C2 ≤ (y_an K s).1 := by
  unfold y_an at hz he ⊢
  have z1 := y_nd_z hz
  have tc := y_to.co (K := K) 1201 _ _ (y_to.rf (s := y_nd K 40 (y_ps s)))
  have z2 := y_nd_z (tc.2.1 z1)
  obtain ⟨_, p1⟩ := y_ps_0 z2
  have t1 := (y_to.rf (s := y_co K 1201 (y_nd K 40 (y_ps s)))).nd (K := K) (k := 26)
  have t2 := (y_to.rf (s := y_ps s)).nd (K := K) (k := 40)
  have e1 : (y_ps s).1 = s.1 + 1 := by rw [p1]
  have A2 : zRf K P e b C D k C1 (D1 + 1) (p_nD 2 k1) := by
    refine A.nD ?_
    have := Nat.le_trans t2.1 (Nat.le_trans tc.1 t1.1)
    omega
  obtain ⟨C2, D2, B, b1, b2⟩ := zRf.av he12 1201 (-1) (qI k1 630 23 : Int32).toNatClampNeg (y_ps s) _ _ _ A2 (by omega) (by omega) (by omega) z1 (Nat.le_trans t1.1 he)
  exact ⟨C2, D2, B.co, Nat.le_trans b1 t1.1, Nat.le_trans b2 t1.1⟩
theorem zRf.w1 (A : zRf K P e b C D k C1 D1 k1) (hD : D1 < 2 ^ 29) (hb : b ≤ s.1) : zRf K P e b C D k C1 (D1 + 1) (p_w1 K P X d s k1) := by
  unfold p_w1
  refine ((((zRf.co ?_).sI (by decide)).sA (by decide)).sA (by decide)).sA (by decide)
  have B := (A.op (o := d) (s := s)).nD (w := p_wk K s) (by omega)
  unfold p_w0 p_yw
  split
  · split
    · exact B.sA (by decide)
    · refine (B.sA (by decide)).cc (p_wr_I (by decide)) (p_wr_I (by decide)) (fun z _ => by rw [p_wr_A]) (p_LW.rf.wr (by decide) (by decide) (by omega))
  · exact B
theorem zRf.w2 (A : zRf K P e b C D k C1 D1 k1) : zRf K P e b C D k C1 D1 (p_w2 d k1) := (A.sA (by decide)).sA (by decide)
theorem zRf.w3 (A : zRf K P e b C D k C1 D1 k1) : zRf K P e b C D k C1 D1 (p_w3 d k1) := (A.sI (by decide)).sI (by decide)
end ZR
