/-! THE REFERENCE'S READ, all -/
section NR
variable {K P X : Nat → Nat} {V U : Nat → Int64} {e c : Nat} {k3 hg : q_Hp}
/-- what a read that fails leaves as it is, its place aside -/
def n_fz (k3 k' : q_Hp) : Prop := q_Ef p_L k3 k' ∧ (∀ j, p_ch j = false → ¬ j = 17 → qI k' 630 j = qI k3 630 j) ∧ ∀ a i, ¬ a = 630 → i < p_hf a → qA k' a i = qA k3 a i
theorem n_fz.of {k4 k : q_Hp} (F : p_fr k3 k4) (E : q_Ef [630] k4 k) (I : ∀ j, ¬ (11 ≤ j ∧ j ≤ 17) → qI k 630 j = qI k4 630 j) : n_fz k3 k := by
  refine ⟨F.1.trans (E.wide (fun x hx => ?_)), fun j hj h17 => ?_, fun a i h9 hi => ?_⟩
  · rw [List.mem_singleton.mp hx]
    exact p_L_in 630 (by decide) rfl
  · have : ¬ (11 ≤ j ∧ j ≤ 17) := fun h9 => by
      unfold p_ch at hj
      simp only [Bool.or_eq_false_iff, Bool.and_eq_false_iff, decide_eq_false_iff_not] at hj
      omega
    rw [I j this]
    exact F.2.1 j hj
  · rw [E.A (by simp; exact h9)]
    exact F.2.2 a i hi
theorem n_Y0 (S : q_Sh k3) (C : p_C k3 K P X U e) (O : y_OK K e) (N : n_s0 k3) : p_y K P X U e k3 k3 (0, 0) := ⟨S, C, O, q_Ef.rf, fun _ _ _ _ => rfl, ⟨0, by decide, (N.1 11 (by omega)), fun _ => rfl⟩, N.1 13 (by omega), fun h9 => absurd rfl h9, Nat.zero_le _, by decide⟩
theorem n_B0 (N : n_s0 k3) : p_BB 0 0 0 0 0 1300 0 (0, 0) k3 := ⟨⟨N.1 18 (by omega), N.1 19 (by omega), fun j hj => absurd hj (Nat.not_lt_zero j), N.2.1, N.1 12 (by omega)⟩, by decide, by decide, N.1 20 (by omega), by decide, N.1 21 (by omega), by decide, ⟨N.2.2, N.1 84 (by omega)⟩, by decide, by decide, by decide, by decide⟩
/-- with a fault of syntax -/
theorem s260_F {Q : Option Value → q_Hp → Prop} {x : Int32} (S : q_Sh k3) (C : p_C k3 K P X U e) (O : y_OK K e) (N : n_s0 k3) (hz : ¬ (y_al K).2.2 = 0) (fin : ∀ k', q_Sh k' → n_fz k3 k' → qI k' 630 17 = nI (P (y_al K).2.1) → Q (some (.int (nI (y_al K).2.2))) k') : q_wp 7 260 104 [some (.ref 630), some (.int x)] [] k3 Q := by
  refine s260_104 (kb := k3) 1201 (0, 0, 0, 0, (fun _ => 0), (fun _ => 0)) (0, 0) k3 k3 0 1300 0 (fun _ => by decide) (fun _ => n_B0 N) (n_Y0 S C O N) p_fr.rf (fun k4 k Y F _ => ?_)
  change p_y K P X U e k4 k (y_al K).2 at Y
  have e13 : qI (q_sI k 630 17 (-1)) 630 13 = nI (y_al K).2.2 := by
    rw [q_sI_n (by decide)]
    exact Y.f
  have f2 := Y.f2
  refine b260_191 (Y.sh.ok rfl) (fun c1 => ?_) (fun _ => b260_203 (Y.sh.ok rfl) ?_)
  · rw [e13] at c1
    have := (nI_leI (b := 0) (by omega) (by decide)).mp c1
    omega
  · have e14 : qI (q_sI k 630 17 (-1)) 630 14 = nI (P (y_al K).2.1) := by
      rw [q_sI_n (by decide)]
      exact Y.fp hz
    rw [e14, q_sI_n (show ¬ (630 = 630 ∧ 13 = 17) by decide), e13]
    refine fin _ Y.sh (n_fz.of F ((Y.E.trans (q_Ef.sI (by decide))).trans (q_Ef.sI (by decide))) (fun j hj => ?_)) q_sI_e
    rw [q_sI_n (by omega), q_sI_n (by omega)]
    exact Y.2.2.2.2.1 j (by omega) (by omega) (by omega)
/-- without -/
theorem s260_S {Q : Option Value → q_Hp → Prop} {x : Int32} (T : zTk K P X V U e) (hc : c = 11 ∨ c = 300) (S : q_Sh k3) (C : p_C k3 K P X U e) (O : y_OK K e) (N : n_s0 k3) (hz : (y_al K).2.2 = 0) (he : (y_al K).2.1 ≤ e) (nm : c_nm K V hg) (finM : ∀ n i k', (¬ n = 0 ∧ n < 10 ∧ i ≤ e) → qI (c_G K V c hg) 589 15 = nI n → qI (c_G K V c hg) 589 16 = nI i → q_Sh k' → n_fz k3 k' → qI k' 630 17 = nI (P i) → Q (some (.int (nI n))) k') (finS : qI (c_G K V c hg) 589 15 = 0 → ∀ k5 k6 k', n_fz k3 k5 → qI k5 630 17 = -1 → p_tk k5 k6 → (∃ B, r_cB (c_G K V c hg) c B ∧ r_mB k6 B ∧ q_wB B) → p_mt k6 k' → Q (some (.int 0)) k') : q_wp 7 260 104 [some (.ref 630), some (.int x)] [] k3 Q := by
  have e12 := O.2.2
  refine s260_104 (kb := k3) 1201 (0, 0, 0, 0, (fun _ => 0), (fun _ => 0)) (0, 0) k3 k3 0 1300 0 (fun _ => by decide) (fun _ => n_B0 N) (n_Y0 S C O N) p_fr.rf (fun k4 k Y F H => ?_)
  change p_y K P X U e k4 k (y_al K).2 at Y
  change (y_al K).2.2 = 0 → k4 = p_tt K P X U 1201 0 0 0 0 (0, 0) k3 ∧ ∃ d' D' C', p_BB (y_al K).1.1 (y_al K).1.2.1 (y_al K).1.2.2.1 (y_al K).1.2.2.2.1 d' D' C' (y_al K).2 k4 at H
  obtain ⟨e4, d', D', C', H⟩ := H hz
  have Z : zKB K P V U e c (qL hg 9) (qL hg 10) (y_al K).1.2.2.1 (y_al K).1.2.2.2.1 (y_al K).1 (y_al K).2.1 (c_G K V c hg) k4 := by
    rw [e4]
    exact z_al T hc e12 hz he nm.1 nm.2.1 (fun j hj => N.1 j (by omega)) N.2.1 N.2.2
  have NM : zNm K U e (y_al K).1 k4 := by
    rw [e4]
    exact z_nm (K := K) (P := P) (X := X) (U := U) (e := e) 1201 (0, 0, 0, 0, (fun _ => 0), (fun _ => 0)) (0, 0) k3 ⟨fun i hi => absurd hi (Nat.not_lt_zero i), fun i hi => absurd hi (Nat.not_lt_zero i)⟩ hz he
  clear e4
  obtain ⟨C1, hC1, h84, cl⟩ := z_cls Z he e12
  have fin := z_fin (X := X) (P := P) T e12 Z NM nm he h84 (by omega)
  have h20 : qI k4 630 20 = nI (y_al K).1.2.2.1 := H.2.2.2.1
  have h21 : qI k4 630 21 = nI (y_al K).1.2.2.2.1 := H.2.2.2.2.2.1
  have b20 := nm.2.2.2.2.1
  have b10 := nm.2.2.2.2.2
  refine b260_191 (Y.sh.ok rfl) (fun _ => b260_216 ?_) (fun c1 => ?_)
  rotate_left 1
  · rw [q_sI_n (show ¬ (630 = 630 ∧ 13 = 17) by decide), Y.f, hz] at c1
    exact absurd (show nI 0 ≤ 0 by decide) c1
  have Y1 := Y.sI (j := 17) (v := -1) rfl
  have F1 : n_fz k3 (q_sI k4 630 17 (-1)) := n_fz.of F (q_Ef.sI (by decide)) (fun j hj => q_sI_n (by omega))
  have k17 : qI (q_sI k4 630 17 (-1)) 630 17 = -1 := q_sI_e
  have I1 : ∀ j, ¬ j = 17 → qI (q_sI k4 630 17 (-1)) 630 j = qI k4 630 j := fun j hj => q_sI_n (fun h9 => hj h9.2)
  have cl1 : p_Cl K e C1 (q_sI k4 630 17 (-1)) := by
    unfold p_Cl
    rw [qA_sI]
    exact cl
  generalize q_sI k4 630 17 (-1) = k41 at *
  refine s260_218 (kb := k41) (nr := (y_al K).1.2.2.1) (np := (y_al K).1.2.2.2.1) (C := C1) hz b20 b10 (by omega) C1 0 k41 (q_sI k 630 17 (-1)) (Nat.zero_add _) cl1 ((I1 84 (by decide)).trans h84) ((I1 20 (by decide)).trans h20) ((I1 21 (by decide)).trans h21) Y1 p_fr.rf (fun k5 x5 Y5 F5 => ?_)
  generalize p_jns U P (y_al K).1.2.2.1 (y_al K).1.2.2.2.1 C1 0 k41 = J at *
  have S5 := Y5.sh
  have j15 : qI k5 630 15 = qI J 630 15 := Y5.I rfl
  have FF : ∀ k6, q_Ef [630] k5 k6 → (∀ j, ¬ (11 ≤ j ∧ j ≤ 17) → qI k6 630 j = qI k5 630 j) → n_fz k3 k6 := fun k6 E6 I6 => by
    have G := n_fz.of (k3 := k41) F5 (Y5.E.trans E6) (fun j hj => by rw [I6 j hj]; exact Y5.2.2.2.2.1 j (by omega) (by omega) (by omega))
    exact ⟨F1.1.trans G.1, fun j h1 h2 => (G.2.1 j h1 h2).trans (F1.2.1 j h1 h2), fun a i h1 h2 => (G.2.2 a i h1 h2).trans (F1.2.2 a i h1 h2)⟩
  rcases fin with ⟨n, i, ⟨n1, n2, n3⟩, n4, n5, n6, n7⟩ | ⟨g0, g1, B⟩
  · refine b260_237 (S5.ok rfl) (fun c1 => ?_) (fun _ => b260_244 (S5.ok rfl) ?_)
    · rw [j15, n6] at c1
      have := (nI_leI (b := 0) (by omega) (by decide)).mp c1
      omega
    · rw [q_sI_n (show ¬ (630 = 630 ∧ 15 = 17) by decide), j15, n6]
      refine finM n i _ ⟨n1, n2, n3⟩ n4 n5 S5 (FF _ (q_Ef.sI (by decide)) (fun j hj => q_sI_n (by omega))) ?_
      rw [q_sI_e, Y5.I rfl]
      exact n7
  · refine b260_237 (S5.ok rfl) (fun _ => b260_257 (n := 6) (s289 S5) (by decide) (fun k6 tk => b260_261 (n := 6) (s291 tk.1) (by decide) (fun k7 mt => b260_265 ?_))) (fun c1 => ?_)
    · refine finS g0 k5 k6 k7 (FF k5 q_Ef.rf (fun _ _ => rfl)) ?_ tk (B k5 (fun y hy => Y5.A hy) (fun j hj => Y5.2.2.2.2.1 j (by omega) (by omega) (by omega)) (fun y hy => Y5.L hy) k6 tk) mt
      rw [Y5.I rfl, F5.2.1 17 rfl, k17]
    · rw [j15, g1] at c1
      exact absurd (Int32.le_refl _) c1
end NR
