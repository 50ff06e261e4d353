/-! THE TWO READS: rows of dos on the reference's side alone, and a fault with names that wait -/
/-- a name that is called, sought in the end -/
def zlk (V : Nat → Int64) (L9 L10 : Nat → Int64) (rF pF : Nat) (x : Int32) (i : Nat) : Option Nat := if x = 3 then p_fi L10 pF (V i) else p_fi L9 rF (V i)
section ZR
variable {K P X : Nat → Nat} {V : Nat → Int64} {L9 L10 : Nat → Int64} {rF pF : Nat} {e b b' C D C' D' C1 D1 C2 D2 d i : Nat} {h h' k k' k1 k2 : q_Hp} {s : y_S}
theorem zRf.mono (A : zRf K P e b C D k C1 D1 k1) (hb : b' ≤ b) : zRf K P e b' C D k C1 D1 k1 := by
  obtain ⟨a1, a3, a4, a5, a6, a7⟩ := A
  refine ⟨a1, a3, a4, a5, fun x h1 h2 => ?_, a7.mono hb⟩
  obtain ⟨i, j, q1, q2⟩ := a6 x h1 h2
  exact ⟨i, j, by omega, q2⟩
theorem y_rs_t {rec : y_S → y_S} (hr : ∀ s0 s, y_to s0 s → y_to s0 (rec s)) (h22 : K s.1 = 22) (hs : s.2 = 0) (hz : (y_rs K rec s).2 = 0) : y_rs K rec s = y_nd K 5 (rec (y_nd K 24 (rec (y_nd K 23 (rec (y_ps s)))))) ∧ y_ps s = (s.1 + 1, 0) ∧ (rec (y_ps s)).2 = 0 ∧ (y_nd K 23 (rec (y_ps s))).2 = 0 ∧ (rec (y_nd K 23 (rec (y_ps s)))).2 = 0 ∧ (y_nd K 24 (rec (y_nd K 23 (rec (y_ps s))))).2 = 0 ∧ (rec (y_nd K 24 (rec (y_nd K 23 (rec (y_ps s)))))).2 = 0 := by
  have i22 : y_is K 22 s = true := y_is_c.mpr ⟨hs, h22⟩
  have e1 : y_rs K rec s = y_nd K 5 (rec (y_nd K 24 (rec (y_nd K 23 (rec (y_ps s)))))) := by
    unfold y_rs
    rw [if_pos i22]
  rw [e1] at hz
  have z1 := y_nd_z hz
  have z2 := (hr _ _ y_to.rf).2.1 z1
  have z3 := y_nd_z z2
  have z4 := (hr _ _ y_to.rf).2.1 z3
  have z5 := y_nd_z z4
  have z6 := (hr _ _ y_to.rf).2.1 z5
  exact ⟨e1, (y_ps_0 z6).2, z5, z4, z3, z2, z1⟩
theorem y_rs_o {rec : y_S → y_S} (hr : ∀ s0 s, y_to s0 s → y_to s0 (rec s)) (h22 : ¬ K s.1 = 22) (hz : (y_rs K rec s).2 = 0) : y_rs K rec s = y_nd K 5 (rec (y_w1 K s)) ∧ (rec (y_w1 K s)).2 = 0 ∧ (y_w1 K s).2 = 0 ∧ s.1 + 1 ≤ (y_w1 K s).1 := by
  have i22 : ¬ y_is K 22 s = true := fun q => h22 (y_is_c.mp q).2
  have e1 : y_rs K rec s = y_nd K 5 (rec (y_w1 K s)) := by
    unfold y_rs y_w1
    rw [if_neg i22]
  rw [e1] at hz
  have z1 := y_nd_z hz
  have z2 := (hr _ _ y_to.rf).2.1 z1
  refine ⟨e1, z1, z2, ?_⟩
  unfold y_w1 at z2 ⊢
  split at z2
  · next h9 =>
    rw [if_pos h9]
    have := y_ps_0 (y_nd_z z2)
    rw [(y_nd_0 z2).2, this.2]
    show s.1 + 1 ≤ s.1 + 1 + 1
    omega
  · next h9 =>
    rw [if_neg h9, (y_ps_0 z2).2]
    exact Nat.le_refl _
theorem zRf.ro (he12 : e ≤ 1200) : ∀ m d (s : y_S) k1 C1 D1, zRf K P e b C D k C1 D1 k1 → b ≤ s.1 → D1 ≤ s.1 → C1 ≤ s.1 → (y_ro K m d s).2 = 0 → (y_ro K m d s).1 ≤ e → ∃ C2 D2, zRf K P e b C D k C2 D2 (p_ro K P X m d s k1) ∧ D2 ≤ (y_ro K m d s).1 ∧ C2 ≤ (y_ro K m d s).1 := by
  intro m
  induction m with
  | zero => intro d s k1 C1 D1 A hb hD hC hz he; exact ⟨C1, D1, A, hD, hC⟩
  | succ m ih =>
    intro d s k1 C1 D1 A hb hD hC hz he
    unfold y_ro at hz he ⊢
    unfold p_ro
    by_cases cw : y_wl K s = true
    · rw [if_pos cw] at hz he ⊢
      rw [if_pos cw]
      obtain ⟨s0, sk⟩ := y_wl_c cw
      have hr : ∀ s0 s, y_to s0 s → y_to s0 (y_ro K m (d + 1) s) := fun s0 s x => y_to.ro m (d + 1) s0 s x
      have to := y_to.ro (K := K) m d _ _ (y_to.rf (s := y_rs K (y_ro K m (d + 1)) (y_rm (decide (d < 8)) s)))
      have z1 := to.2.1 hz
      have l1 := Nat.le_trans to.1 he
      obtain ⟨r1, r2⟩ := y_rm_0 ((y_to.rs hr (y_to.rf (s := y_rm (decide (d < 8)) s))).2.1 z1)
      rw [r1] at z1 l1 to hz he ⊢
      have B : ∃ C2 D2, zRf K P e b C D k C2 D2 (p_rs K (p_ro K P X m (d + 1)) (y_ro K m (d + 1)) d s (p_w1 K P X d s k1)) ∧ D2 ≤ (y_rs K (y_ro K m (d + 1)) s).1 ∧ C2 ≤ (y_rs K (y_ro K m (d + 1)) s).1 := by
        by_cases h22 : K s.1 = 22
        · obtain ⟨e1, e2, z5, z4, z3, z2, z1'⟩ := y_rs_t hr h22 s0 z1
          rw [e1] at l1 ⊢
          unfold p_rs
          rw [if_pos h22]
          have t6 := (y_to.rf (s := y_ro K m (d + 1) (y_nd K 24 (y_ro K m (d + 1) (y_nd K 23 (y_ro K m (d + 1) (y_ps s))))))).nd (K := K) (k := 5)
          have t5 := hr _ _ (y_to.rf (s := y_nd K 24 (y_ro K m (d + 1) (y_nd K 23 (y_ro K m (d + 1) (y_ps s))))))
          have t4 := (y_to.rf (s := y_ro K m (d + 1) (y_nd K 23 (y_ro K m (d + 1) (y_ps s))))).nd (K := K) (k := 24)
          have t3 := hr _ _ (y_to.rf (s := y_nd K 23 (y_ro K m (d + 1) (y_ps s))))
          have t2 := (y_to.rf (s := y_ro K m (d + 1) (y_ps s))).nd (K := K) (k := 23)
          have t1 := hr _ _ (y_to.rf (s := y_ps s))
          have p1 : (y_ps s).1 = s.1 + 1 := by rw [e2]
          have a1 := t1.1
          have a2 := t2.1
          have a3 := t3.1
          have a4 := t4.1
          have a5 := t5.1
          have a6 := t6.1
          have A1 := A.w1 (X := X) (d := d) (s := s) (by omega) hb
          obtain ⟨Ca, Da, Ba, b1, b2⟩ := ih (d + 1) (y_ps s) _ _ _ A1 (by omega) (by omega) (by omega) z5 (by omega)
          obtain ⟨Cb, Db, Bb, b3, b4⟩ := ih (d + 1) (y_nd K 23 (y_ro K m (d + 1) (y_ps s))) _ _ _ (Ba.w2 (d := d + 1)) (by omega) (by omega) (by omega) z3 (by omega)
          obtain ⟨Cc, Dc, Bc, b5, b6⟩ := ih (d + 1) (y_nd K 24 (y_ro K m (d + 1) (y_nd K 23 (y_ro K m (d + 1) (y_ps s))))) _ _ _ (Bb.w2 (d := d + 1)) (by omega) (by omega) (by omega) z1' (by omega)
          exact ⟨Cc, Dc, Bc.w3, by omega, by omega⟩
        · obtain ⟨e1, z1', z2, q1⟩ := y_rs_o hr h22 z1
          rw [e1] at l1 ⊢
          unfold p_rs
          rw [if_neg h22]
          have t2 := (y_to.rf (s := y_ro K m (d + 1) (y_w1 K s))).nd (K := K) (k := 5)
          have t1 := hr _ _ (y_to.rf (s := y_w1 K s))
          have a1 := t1.1
          have a2 := t2.1
          have A1 := A.w1 (X := X) (d := d) (s := s) (by omega) hb
          obtain ⟨Ca, Da, Ba, b1, b2⟩ := ih (d + 1) (y_w1 K s) _ _ _ A1 (by omega) (by omega) (by omega) z1' (by omega)
          exact ⟨Ca, Da, Ba.w3, by omega, by omega⟩
      obtain ⟨Ca, Da, Ba, b1, b2⟩ := B
      have p2 : s.1 + 1 ≤ (y_rs K (y_ro K m (d + 1)) s).1 := y_rs_1 hr z1
      exact ih d _ _ _ _ Ba (by omega) b1 b2 hz he
    rw [if_neg cw] at hz he ⊢
    rw [if_neg cw]
    by_cases cd : y_dc K s = true
    · rw [if_pos cd] at hz he ⊢
      rw [if_pos cd]
      have to := y_to.ro (K := K) m d _ _ (y_to.rf (s := y_nd K 26 (y_nd K 40 (y_ps s))))
      have z1 := to.2.1 hz
      have z2 := y_nd_z z1
      obtain ⟨_, p1⟩ := y_ps_0 (y_nd_z z2)
      obtain ⟨k1', p2⟩ := y_nd_p p1 z2
      obtain ⟨_, p3⟩ := y_nd_p p2 z1
      rw [p3] at hz he to ⊢
      have := to.1
      have : s.1 + 1 + 1 + 1 ≤ _ := this
      exact ih d _ _ _ _ (A.dc (s := s) (by omega) (by omega) hb ⟨by omega, k1'⟩) (by show b ≤ s.1 + 1 + 1 + 1; omega) (by show D1 + 1 ≤ s.1 + 1 + 1 + 1; omega) (by show C1 + 1 ≤ s.1 + 1 + 1 + 1; omega) hz he
    rw [if_neg cd] at hz he ⊢
    rw [if_neg cd]
    by_cases cf : y_is K 19 s = true
    · rw [if_pos cf] at hz he ⊢
      rw [if_pos cf]
      have to := y_to.ro (K := K) m d _ _ (y_to.rf (s := y_nd K 26 (y_ps s)))
      have z1 := to.2.1 hz
      obtain ⟨_, p1⟩ := y_ps_0 (y_nd_z z1)
      obtain ⟨_, p3⟩ := y_nd_p p1 z1
      rw [p3] at hz he to ⊢
      have := to.1
      have : s.1 + 1 + 1 ≤ _ := this
      exact ih d _ _ _ _ (A.fa (by omega)) (by show b ≤ s.1 + 1 + 1; omega) (by show D1 + 1 ≤ s.1 + 1 + 1; omega) (by show C1 ≤ s.1 + 1 + 1; omega) hz he
    rw [if_neg cf] at hz he ⊢
    rw [if_neg cf]
    by_cases ca : y_is K 17 s = true
    · rw [if_pos ca] at hz he ⊢
      rw [if_pos ca]
      have to := y_to.ro (K := K) m d _ _ (y_to.rf (s := y_an K s))
      have z1 := to.2.1 hz
      have ta := (y_to.rf (s := s)).an (K := K)
      obtain ⟨C2, D2, B, b1, b2⟩ := A.an he12 (y_is_c.mp ca).1 hb hD hC z1 (Nat.le_trans to.1 he)
      exact ih d _ _ _ _ B (Nat.le_trans hb ta.1) b1 b2 hz he
    rw [if_neg ca] at hz he ⊢
    rw [if_neg ca]
    exact ⟨C1, D1, A, hD, hC⟩
/-- the class's fault, and what will be the reference's -/
def zBr (K P : Nat → Nat) (V : Nat → Int64) (L9 L10 : Nat → Int64) (rF pF e b C D : Nat) (h k : q_Hp) : Prop := (qI k 630 84 = nI C ∧ qI k 630 23 = nI (1300 + D) ∧ C ≤ b ∧ D ≤ b) ∧ ∃ n i, (¬ n = 0 ∧ n < 10 ∧ i < b ∧ i ≤ e ∧ qI h 589 15 = nI n ∧ qI h 589 16 = nI i) ∧ (∀ x, x < C → ∃ i' j, zN K e i' ∧ j < D ∧ qA k 689 x = nI i' ∧ qA k 690 x = nI (1300 + j) ∧ (zlk V L9 L10 rF pF (qA k 669 (1300 + j)) i' = none → i < i' ∨ (i' = i ∧ n = 4))) ∧ (zf P k n i ∨ (n = 4 ∧ (qI k 630 15 = 0 ∨ nI (P i) < qI k 630 16) ∧ ∃ x j, x < C ∧ j < D ∧ qA k 689 x = nI i ∧ qA k 690 x = nI (1300 + j) ∧ zlk V L9 L10 rF pF (qA k 669 (1300 + j)) i = none))
theorem zBr.fr (M : zPm P e) (B : zBr K P V L9 L10 rF pF e b C D h k) (S : g_S h h') (R : zRf K P e b C D k C' D' k') (hb : b ≤ b') (hC : C' ≤ b') (hD : D' ≤ b') : zBr K P V L9 L10 rF pF e b' C' D' h' k' := by
  obtain ⟨_, n, i, ⟨hn, h10, hi, he, q1, q2⟩, q3, q4⟩ := B
  obtain ⟨⟨r1, r2⟩, r3, r4, r5, r6, r7⟩ := R
  have h0 : ¬ qI h 589 15 = 0 := by
    rw [q1]
    intro h9
    exact hn ((nI_eq (b := 0) (by omega) (by decide)).mp h9)
  obtain ⟨s1, s2⟩ := S h0
  refine ⟨⟨r3.1, r3.2, hC, hD⟩, n, i, ⟨hn, h10, by omega, he, s1.trans q1, s2.trans q2⟩, fun x hx => ?_, ?_⟩
  · by_cases h9 : x < C
    · obtain ⟨i', j, u1, u2, u3, u4, u5⟩ := q3 x h9
      exact ⟨i', j, u1, by omega, (r4 x h9).1.trans u3, (r4 x h9).2.trans u4, fun z => u5 (by rw [← r5 j u2]; exact z)⟩
    · obtain ⟨i', j, u1, u2, u3, u4, u5⟩ := r6 x (by omega) hx
      exact ⟨i', j, u2, u3, u4, u5, fun _ => Or.inl (by omega)⟩
  · rcases q4 with z | ⟨z1, z2, x, j, u1, u2, u3, u4, u5⟩
    · exact Or.inl (z.kp M he hn h10 (r7.mono (by omega)))
    · refine Or.inr ⟨z1, ?_, x, j, by omega, by omega, (r4 x u1).1.trans u3, (r4 x u1).2.trans u4, by rw [r5 j u2]; exact u5⟩
      rcases r7 with ⟨y1, y2⟩ | ⟨f, t, y1, y2, y3, y4, y5, y6⟩
      · rw [y1, y2]
        exact z2
      · right
        rw [y5]
        have b1 := M.2 t
        have b2 := M.2 i
        exact (nI_ltI (by omega) (by omega)).mpr (M.1 i t he (by omega))
/-- a fault that both know, where all names so far are found -/
theorem zB.br (B : zB P e b h k) (h84 : qI k 630 84 = nI C) (h23 : qI k 630 23 = nI (1300 + D)) (hC : C ≤ b) (hD : D ≤ b) (R : ∀ x, x < C → ∃ i' j, zN K e i' ∧ j < D ∧ qA k 689 x = nI i' ∧ qA k 690 x = nI (1300 + j) ∧ ∃ y, zlk V L9 L10 rF pF (qA k 669 (1300 + j)) i' = some y) : zBr K P V L9 L10 rF pF e b C D h k := by
  obtain ⟨n, i, hn, h10, hi, he, q1, q2, z⟩ := B
  refine ⟨⟨h84, h23, hC, hD⟩, n, i, ⟨hn, h10, hi, he, q1, q2⟩, fun x hx => ?_, Or.inl z⟩
  obtain ⟨i', j, u1, u2, u3, u4, y, u5⟩ := R x hx
  exact ⟨i', j, u1, u2, u3, u4, fun q => by rw [u5] at q; cases q⟩
end ZR
