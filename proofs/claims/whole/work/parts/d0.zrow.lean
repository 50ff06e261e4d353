/-! THE TWO READS: a row of dos -/
def zRL (K P X : Nat → Nat) (V : Nat → Int64) (L9 L10 : Nat → Int64) (rF pF e c np m : Nat) : Prop := ∀ d D0 HR HI f g C D v (s : y_S) (p : Int32 × Int32) h k, p = (oN f, oN g) → zRW K V L9 L10 rF pF e c np D0 d HR HI f g C D v h k → D ≤ s.1 → C ≤ s.1 → d ≤ 8 → (y_ro K m d s).2 = 0 → (y_ro K m d s).1 ≤ e → (∃ C' D' v' f' g', zRW K V L9 L10 rF pF e c np D0 d HR HI f' g' C' D' v' (g_rw K V c rF pF m d s p h).2 (p_ro K P X m d s k) ∧ (g_rw K V c rF pF m d s p h).1 = oN f' ∧ zFr c D0 d HR HI h k (g_rw K V c rF pF m d s p h).2 (p_ro K P X m d s k) ∧ (∀ j, j < D0 → ∀ i, v' j i = v j i) ∧ D' ≤ (y_ro K m d s).1 ∧ C' ≤ (y_ro K m d s).1) ∨ ∃ C' D', zBr K P V L9 L10 rF pF e (y_ro K m d s).1 C' D' (g_rw K V c rF pF m d s p h).2 (p_ro K P X m d s k)
section ZR
variable {K P X : Nat → Nat} {V U : Nat → Int64} {L9 L10 : Nat → Int64} {rF pF : Nat} {e c np D0 d HR HI f g C D Dn C' D' a b m q : Nat} {v0 v v1 v' : Nat → Nat → Nat} {h0 k0 h k h' k' h1 k1 k2 : q_Hp} {s : y_S}
theorem zBr.pt {j i : Nat} {x : Int32} (M : zPm P e) (B : zBr K P V L9 L10 rF pF e b C D h k) : zBr K P V L9 L10 rF pF e b C D (g_pt c j i x h) k := B.fr M g_S.rf.pt (zRf.rf B.1.1 B.1.2.1) (Nat.le_refl _) B.1.2.2.1 B.1.2.2.2
theorem zBr.ln {j : Nat} {p : Int32 × Int32} (M : zPm P e) (B : zBr K P V L9 L10 rF pF e b C D h k) : zBr K P V L9 L10 rF pF e b C D (g_ln c j p h) k := B.fr M g_S.rf.ln (zRf.rf B.1.1 B.1.2.1) (Nat.le_refl _) B.1.2.2.1 B.1.2.2.2
theorem zBr.w2 (M : zPm P e) (B : zBr K P V L9 L10 rF pF e b C D h k) : zBr K P V L9 L10 rF pF e b C D h (p_w2 d k) := B.fr M g_S.rf (zRf.rf B.1.1 B.1.2.1).w2 (Nat.le_refl _) B.1.2.2.1 B.1.2.2.2
theorem zBr.w3 (M : zPm P e) (B : zBr K P V L9 L10 rF pF e b C D h k) : zBr K P V L9 L10 rF pF e b C D h (p_w3 d k) := B.fr M g_S.rf (zRf.rf B.1.1 B.1.2.1).w3 (Nat.le_refl _) B.1.2.2.1 B.1.2.2.2
theorem zBr.le (M : zPm P e) (B : zBr K P V L9 L10 rF pF e b C D h k) (hb : b ≤ a) : zBr K P V L9 L10 rF pF e a C D h k := B.fr M g_S.rf (zRf.rf B.1.1 B.1.2.1) hb (Nat.le_trans B.1.2.2.1 hb) (Nat.le_trans B.1.2.2.2 hb)
theorem zBr.ro {p : Int32 × Int32} (hc : ¬ c = 589) (M : zPm P e) (he12 : e ≤ 1200) (B : zBr K P V L9 L10 rF pF e b C D h k) (hb : b ≤ s.1) (hz : (y_ro K m d s).2 = 0) (he : (y_ro K m d s).1 ≤ e) : ∃ C' D', zBr K P V L9 L10 rF pF e (y_ro K m d s).1 C' D' (g_rw K V c rF pF m d s p h).2 (p_ro K P X m d s k) := by
  have to := y_to.ro (K := K) m d _ _ (y_to.rf (s := s))
  obtain ⟨C2, D2, R, r1, r2⟩ := zRf.ro (X := X) (P := P) he12 m d s k C D (zRf.rf (b := b) B.1.1 B.1.2.1) hb (Nat.le_trans B.1.2.2.2 hb) (Nat.le_trans B.1.2.2.1 hb) hz he
  exact ⟨C2, D2, B.fr M (g_S.rw hc _ _ _ _ _ g_S.rf) R (Nat.le_trans hb to.1) r2 r1⟩
/-- a row within a do -/
theorem z_row1 (H : zRL K P X V L9 L10 rF pF e c np m) (M : zPm P e) (Z : zRx K V L9 L10 rF pF e c np d g HR HI D Dn C b v0 v h0 k0 h k) (R : zRy d b k) (h88 : qA k 688 (d + 1) = -1) (hb : b < 3) (hq : q = 3 + b) (hd : d < 8) (hD : Dn ≤ s.1) (hC : C ≤ s.1) (hz : (y_ro K m (d + 1) s).2 = 0) (he : (y_ro K m (d + 1) s).1 ≤ e) : (∃ C' D' v2, zRx K V L9 L10 rF pF e c np d g HR HI D D' C' (b + 1) v0 v2 h0 k0 (g_pr c D q (g_rw K V c rF pF m (d + 1) s (-1, -1) h)) (p_ro K P X m (d + 1) s k) ∧ zRy d b (p_ro K P X m (d + 1) s k) ∧ D' ≤ (y_ro K m (d + 1) s).1 ∧ C' ≤ (y_ro K m (d + 1) s).1) ∨ ∃ C' D', zBr K P V L9 L10 rF pF e (y_ro K m (d + 1) s).1 C' D' (g_pr c D q (g_rw K V c rF pF m (d + 1) s (-1, -1) h)) (p_ro K P X m (d + 1) s k) := by
  subst hq
  unfold g_pr
  rcases H (d + 1) Dn 671 (3 * (1300 + D) + b) 0 0 C Dn v s (-1, -1) h k rfl (Z.op R h88 hb) hD hC (by omega) hz he with ⟨C', D', v', f', g', W, e1, F, hv, r1, r2⟩ | ⟨C', D', B⟩
  · left
    rw [e1]
    obtain ⟨v2, Z2, R2⟩ := Z.cl R hb W F hv
    exact ⟨C', D', v2, Z2, R2, r1, r2⟩
  · right
    exact ⟨C', D', B.pt M⟩
/-- a do with rows -/
theorem z_wl {x : Int32} (T : zTk K P X V U e) (hc : c = 11 ∨ c = 300) (he12 : e ≤ 1200) (H : zRL K P X V L9 L10 rF pF e c np m) (Z : zRW K V L9 L10 rF pF e c np D0 d HR HI f g C D v h k) (hD : D ≤ s.1) (hC : C ≤ s.1) (hd : d < 8) (hnp : np < 10) (cw : y_wl K s = true) (hz : (y_rs K (y_ro K m (d + 1)) s).2 = 0) (he : (y_rs K (y_ro K m (d + 1)) s).1 ≤ e) : zRs K P V L9 L10 rF pF e c np D0 d HR HI f g D (y_rs K (y_ro K m (d + 1)) s).1 v h k (g_ln c D (x, oN g) (g_ws K V c D (fun s h => g_rw K V c rF pF m (d + 1) s (-1, -1) h) (y_ro K m (d + 1)) s h)) (p_rs K (p_ro K P X m (d + 1)) (y_ro K m (d + 1)) d s (p_w1 K P X d s k)) := by
  have hcn : ¬ c = 589 := by omega
  have M := T.M
  obtain ⟨s0, sk⟩ := y_wl_c cw
  have hr : ∀ s0 s, y_to s0 s → y_to s0 (y_ro K m (d + 1) s) := fun s0 s x => y_to.ro m (d + 1) s0 s x
  have gD := Z.bd
  unfold g_ws p_rs
  by_cases h22 : K s.1 = 22
  · obtain ⟨e1, e2, z5, z4, z3, z2, z1⟩ := y_rs_t hr h22 s0 hz
    rw [e1] at he ⊢
    rw [if_pos h22, if_pos h22]
    have t6 := (y_to.rf (s := y_ro K m (d + 1) (y_nd K 24 (y_ro K m (d + 1) (y_nd K 23 (y_ro K m (d + 1) (y_ps s))))))).nd (K := K) (k := 5)
    have t5 := hr _ _ (y_to.rf (s := y_nd K 24 (y_ro K m (d + 1) (y_nd K 23 (y_ro K m (d + 1) (y_ps s))))))
    have t4 := (y_to.rf (s := y_ro K m (d + 1) (y_nd K 23 (y_ro K m (d + 1) (y_ps s))))).nd (K := K) (k := 24)
    have t3 := hr _ _ (y_to.rf (s := y_nd K 23 (y_ro K m (d + 1) (y_ps s))))
    have t2 := (y_to.rf (s := y_ro K m (d + 1) (y_ps s))).nd (K := K) (k := 23)
    have t1 := hr _ _ (y_to.rf (s := y_ps s))
    have p1 : (y_ps s).1 = s.1 + 1 := by rw [e2]
    have a1 := t1.1
    have a2 := t2.1
    have a3 := t3.1
    have a4 := t4.1
    have a5 := t5.1
    have a6 := t6.1
    generalize y_ps s = S1 at *
    generalize y_nd K 23 (y_ro K m (d + 1) S1) = S2 at *
    generalize y_nd K 24 (y_ro K m (d + 1) S2) = S3 at *
    generalize (y_nd K 5 (y_ro K m (d + 1) S3)).1 = E at *
    rcases z_w1 (a := s.1 + 1) T hc he12 Z s0 hD hC hd hnp (by omega) (fun q => by omega) (Nat.le_refl _) (by omega) with ⟨v1, Z1, R1, Q1⟩ | B
    · rcases z_row1 (X := X) (q := 3) H M Z1 R1 Q1 (by decide) rfl hd (by omega) (by omega) z5 (by omega) with ⟨C2, D2, v2, Z2, R2, r1, r2⟩ | ⟨C2, D2, B⟩
      · obtain ⟨Z2', R2', Q2'⟩ := Z2.w2 R2
        rcases z_row1 (X := X) (q := 4) H M Z2' R2' Q2' (by decide) rfl hd (by omega) (by omega) z3 (by omega) with ⟨C3, D3, v3, Z3, R3, r3, r4⟩ | ⟨C3, D3, B⟩
        · obtain ⟨Z3', R3', Q3'⟩ := Z3.w2 R3
          rcases z_row1 (X := X) (q := 5) H M Z3' R3' Q3' (by decide) rfl hd (by omega) (by omega) z1 (by omega) with ⟨C4, D4, v4, Z4, R4, r5, r6⟩ | ⟨C4, D4, B⟩
          · left
            obtain ⟨v', W, F, hv⟩ := zRx.fin (x := x) Z Z4 (by omega)
            exact ⟨C4, D4, v', W, F, hv, by omega, by omega⟩
          · exact Or.inr ⟨C4, D4, ((B.w3 M).ln M).le M (by omega)⟩
        · right
          obtain ⟨C4, D4, B4⟩ := zBr.ro (X := X) (p := (-1, -1)) hcn M he12 (B.w2 (d := d + 1) M) (show (y_ro K m (d + 1) S2).1 ≤ S3.1 by omega) z1 (by omega)
          exact ⟨C4, D4, (((B4.pt M).w3 M).ln M).le M (by omega)⟩
      · right
        obtain ⟨C3, D3, B3⟩ := zBr.ro (X := X) (p := (-1, -1)) hcn M he12 (B.w2 (d := d + 1) M) (show (y_ro K m (d + 1) S1).1 ≤ S2.1 by omega) z3 (by omega)
        obtain ⟨C4, D4, B4⟩ := zBr.ro (X := X) (p := (-1, -1)) hcn M he12 ((B3.pt (j := D) (i := 4) M).w2 (d := d + 1) M) (show (y_ro K m (d + 1) S2).1 ≤ S3.1 by omega) z1 (by omega)
        exact ⟨C4, D4, (((B4.pt M).w3 M).ln M).le M (by omega)⟩
    · right
      obtain ⟨C2, D2, B2⟩ := zBr.ro (X := X) (p := (-1, -1)) hcn M he12 B (show s.1 + 1 ≤ S1.1 by omega) z5 (by omega)
      obtain ⟨C3, D3, B3⟩ := zBr.ro (X := X) (p := (-1, -1)) hcn M he12 ((B2.pt (j := D) (i := 3) M).w2 (d := d + 1) M) (show (y_ro K m (d + 1) S1).1 ≤ S2.1 by omega) z3 (by omega)
      obtain ⟨C4, D4, B4⟩ := zBr.ro (X := X) (p := (-1, -1)) hcn M he12 ((B3.pt (j := D) (i := 4) M).w2 (d := d + 1) M) (show (y_ro K m (d + 1) S2).1 ≤ S3.1 by omega) z1 (by omega)
      exact ⟨C4, D4, (((B4.pt M).w3 M).ln M).le M (by omega)⟩
  · obtain ⟨e1, z1, z2, q1⟩ := y_rs_o hr h22 hz
    rw [e1] at he ⊢
    rw [if_neg h22, if_neg h22]
    have t6 := (y_to.rf (s := y_ro K m (d + 1) (y_w1 K s))).nd (K := K) (k := 5)
    have t5 := hr _ _ (y_to.rf (s := y_w1 K s))
    have a5 := t5.1
    have a6 := t6.1
    have q21 : K s.1 = 21 → K (s.1 + 1) = 41 ∧ s.1 + 2 ≤ (y_w1 K s).1 := by
      intro h21
      have i21 : y_is K 21 s = true := y_is_c.mpr ⟨s0, h21⟩
      unfold y_w1 at z2 ⊢
      rw [if_pos i21] at z2 ⊢
      obtain ⟨_, p3⟩ := y_ps_0 (y_nd_z z2)
      obtain ⟨k41, p4⟩ := y_nd_p p3 z2
      rw [p4]
      exact ⟨k41, Nat.le_refl _⟩
    generalize y_w1 K s = S1 at *
    generalize (y_nd K 5 (y_ro K m (d + 1) S1)).1 = E at *
    rcases z_w1 (a := S1.1) T hc he12 Z s0 hD hC hd hnp (by omega) q21 q1 (by omega) with ⟨v1, Z1, R1, Q1⟩ | B
    · rcases z_row1 (X := X) (q := 3) H M Z1 R1 Q1 (by decide) rfl hd (by omega) (by omega) z1 (by omega) with ⟨C2, D2, v2, Z2, R2, r1, r2⟩ | ⟨C2, D2, B⟩
      · left
        obtain ⟨v', W, F, hv⟩ := zRx.fin (x := x) Z Z2 (by omega)
        exact ⟨C2, D2, v', W, F, hv, by omega, by omega⟩
      · exact Or.inr ⟨C2, D2, ((B.w3 M).ln M).le M (by omega)⟩
    · right
      obtain ⟨C2, D2, B2⟩ := zBr.ro (X := X) (p := (-1, -1)) hcn M he12 B (Nat.le_refl S1.1) z1 (by omega)
      exact ⟨C2, D2, (((B2.pt M).w3 M).ln M).le M (by omega)⟩
/-- rows -/
theorem z_rw (T : zTk K P X V U e) (hc : c = 11 ∨ c = 300) (he12 : e ≤ 1200) (hnp : np < 10) : ∀ m, zRL K P X V L9 L10 rF pF e c np m := by
  intro m
  induction m with
  | zero =>
    intro d D0 HR HI f g C D v s p h k hp Z hD hC hd hz he
    subst hp
    exact Or.inl ⟨C, D, v, f, g, Z, rfl, zFr.rf, fun _ _ _ => rfl, hD, hC⟩
  | succ m ih =>
    intro d D0 HR HI f g C D v s p h k hp Z hD hC hd hz he
    have hcn : ¬ c = 589 := by omega
    have M := T.M
    have gD := Z.bd
    subst hp
    have eD : D < 2 ^ 31 → g_Dn c h = D := fun hq => by
      unfold g_Dn
      rw [Z.2.1.1, nI_clamp hq]
    -- behind something in the row
    have nx : ∀ (S : y_S) h2 k2, s.1 + 1 ≤ S.1 → (y_ro K m d S).2 = 0 → (y_ro K m d S).1 ≤ e → zRs K P V L9 L10 rF pF e c np D0 d HR HI f g D S.1 v h k h2 k2 → (∃ C' D' v' f' g', zRW K V L9 L10 rF pF e c np D0 d HR HI f' g' C' D' v' (g_rw K V c rF pF m d S (g_pp D (oN f, oN g)) h2).2 (p_ro K P X m d S k2) ∧ (g_rw K V c rF pF m d S (g_pp D (oN f, oN g)) h2).1 = oN f' ∧ zFr c D0 d HR HI h k (g_rw K V c rF pF m d S (g_pp D (oN f, oN g)) h2).2 (p_ro K P X m d S k2) ∧ (∀ j, j < D0 → ∀ i, v' j i = v j i) ∧ D' ≤ (y_ro K m d S).1 ∧ C' ≤ (y_ro K m d S).1) ∨ ∃ C' D', zBr K P V L9 L10 rF pF e (y_ro K m d S).1 C' D' (g_rw K V c rF pF m d S (g_pp D (oN f, oN g)) h2).2 (p_ro K P X m d S k2) := by
      intro S h2 k2 hS hz2 he2 Rs
      have to := y_to.ro (K := K) m d _ _ (y_to.rf (s := S))
      have a1 := to.1
      rcases Rs with ⟨C2, D2, v2, Z2, F2, hv2, r1, r2⟩ | ⟨C2, D2, B⟩
      · have ep : g_pp D (oN f, oN g) = (oN (if g = 0 then D + 1 else f), oN (D + 1)) := by
          unfold g_pp
          rw [oN_s]
          by_cases h0 : g = 0
          · rw [if_pos h0, if_pos (show (oN f, oN g).2 = -1 by rw [h0]; rfl), oN_s]
          · have nm : ¬ oN g = -1 := by
              rw [show oN g = nI (g - 1) from if_neg h0]
              exact q_on_ne (j := g - 1) (by omega)
            rw [if_neg h0, if_neg (show ¬ (oN f, oN g).2 = -1 from nm)]
        rcases ih d D0 HR HI _ _ C2 D2 v2 S _ h2 k2 ep Z2 r1 r2 hd hz2 he2 with ⟨C', D', v', f', g', W, e1, F, hv, r3, r4⟩ | B
        · exact Or.inl ⟨C', D', v', f', g', W, e1, F2.trans F, fun j hj i => (hv j hj i).trans (hv2 j hj i), r3, r4⟩
        · exact Or.inr B
      · exact Or.inr (zBr.ro (X := X) hcn M he12 B (Nat.le_refl _) hz2 he2)
    unfold y_ro at hz he ⊢
    unfold g_rw p_ro
    by_cases cw : y_wl K s = true
    · rw [if_pos cw] at hz he ⊢
      rw [if_pos cw, if_pos cw]
      obtain ⟨s0, sk⟩ := y_wl_c cw
      have hr : ∀ s0 s, y_to s0 s → y_to s0 (y_ro K m (d + 1) s) := fun s0 s x => y_to.ro m (d + 1) s0 s x
      have to := y_to.ro (K := K) m d _ _ (y_to.rf (s := y_rs K (y_ro K m (d + 1)) (y_rm (decide (d < 8)) s)))
      have z1 := to.2.1 hz
      have l1 := Nat.le_trans to.1 he
      obtain ⟨r1, r2⟩ := y_rm_0 ((y_to.rs hr (y_to.rf (s := y_rm (decide (d < 8)) s))).2.1 z1)
      rw [r1] at z1 l1 to hz he ⊢
      have p2 : s.1 + 1 ≤ (y_rs K (y_ro K m (d + 1)) s).1 := y_rs_1 hr z1
      rw [eD (by omega)]
      exact nx _ _ _ p2 hz he (z_wl T hc he12 ih Z hD hC (of_decide_eq_true r2) hnp cw z1 l1)
    rw [if_neg cw] at hz he ⊢
    rw [if_neg cw, if_neg cw]
    by_cases cd : y_dc K s = true
    · rw [if_pos cd] at hz he ⊢
      rw [if_pos cd, if_pos cd]
      have to := y_to.ro (K := K) m d _ _ (y_to.rf (s := y_nd K 26 (y_nd K 40 (y_ps s))))
      have z1 := to.2.1 hz
      have z2 := y_nd_z z1
      obtain ⟨_, p1⟩ := y_ps_0 (y_nd_z z2)
      obtain ⟨k1', p2⟩ := y_nd_p p1 z2
      obtain ⟨_, p3⟩ := y_nd_p p2 z1
      rw [p3] at hz he to ⊢
      have a1 := to.1
      have a1 : s.1 + 1 + 1 + 1 ≤ _ := a1
      rw [eD (by omega)]
      exact nx _ _ _ (by show s.1 + 1 ≤ s.1 + 1 + 1 + 1; omega) hz he (z_dc hc he12 Z hD hC hd hnp cd k1' (by omega))
    rw [if_neg cd] at hz he ⊢
    rw [if_neg cd, if_neg cd]
    by_cases cf : y_is K 19 s = true
    · rw [if_pos cf] at hz he ⊢
      rw [if_pos cf, if_pos cf]
      have to := y_to.ro (K := K) m d _ _ (y_to.rf (s := y_nd K 26 (y_ps s)))
      have z1 := to.2.1 hz
      obtain ⟨_, p1⟩ := y_ps_0 (y_nd_z z1)
      obtain ⟨_, p3⟩ := y_nd_p p1 z1
      rw [p3] at hz he to ⊢
      have a1 := to.1
      have a1 : s.1 + 1 + 1 ≤ _ := a1
      rw [eD (by omega)]
      exact nx _ _ _ (by show s.1 + 1 ≤ s.1 + 1 + 1; omega) hz he (z_fa hc he12 Z hD hC hd hnp (by omega))
    rw [if_neg cf] at hz he ⊢
    rw [if_neg cf, if_neg cf]
    by_cases ca : y_is K 17 s = true
    · rw [if_pos ca] at hz he ⊢
      rw [if_pos ca, if_pos ca]
      have to := y_to.ro (K := K) m d _ _ (y_to.rf (s := y_an K s))
      have z1 := to.2.1 hz
      obtain ⟨_, y2⟩ := y_an_p z1
      have tc := y_to.co (K := K) 1201 _ _ (y_to.rf (s := ((s.1 + 2, 0) : y_S)))
      have t2 : s.1 + 2 ≤ (y_co K 1201 (s.1 + 2, 0)).1 := tc.1
      have t3 : s.1 + 1 ≤ (y_an K s).1 := by
        rw [y2]
        show s.1 + 1 ≤ (y_co K 1201 (s.1 + 2, 0)).1 + 1
        omega
      have a1 := to.1
      rw [eD (by omega)]
      exact nx _ _ _ t3 hz he (z_an hc M he12 Z (y_is_c.mp ca).1 hD hC hd hnp z1 (Nat.le_trans to.1 he))
    rw [if_neg ca] at hz he ⊢
    rw [if_neg ca, if_neg ca]
    exact Or.inl ⟨C, D, v, f, g, Z, rfl, zFr.rf, fun _ _ _ => rfl, hD, hC⟩
end ZR
