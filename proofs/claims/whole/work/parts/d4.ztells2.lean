/-! THE TWO READS: procs, and all tells -/
section ZK
variable {K P X : Nat → Nat} {V U : Nat → Int64} {L9 L10 : Nat → Int64} {rF pF : Nat} {e c np nr nt ns nt' ns' D0 d HR HI f g C D C' D' a b m q Q Q' r : Nat} {v0 v v1 v' : Nat → Nat → Nat} {h0 k0 h k h' k' h1 k1 k2 : q_Hp} {s : y_S}
theorem p_Ko.ro : ∀ m d (s : y_S) k1, p_Ko k k1 → p_Ko k (p_ro K P X m d s k1) := by
  intro m
  induction m with
  | zero => intro d s k1 F; exact F
  | succ m ih =>
    intro d s k1 F
    unfold p_ro
    split
    · refine ih _ _ _ ?_
      unfold p_rs
      split
      · exact (ih _ _ _ (ih _ _ _ (ih _ _ _ F.w1).w2).w2).w3
      · exact (ih _ _ _ F.w1).w3
    · split
      · exact ih _ _ _ (F.nD.nm).co
      · split
        · exact ih _ _ _ F.nD.co
        · split
          · exact ih _ _ _ (p_Ko.av _ _ _ _ F.nD).co
          · exact F
theorem p_pr0_e (h1 : p_tw P U (s.1 + 1) nr np k = k) : p_pr0 P U nr np s k = q_sA (q_sI (q_sA k 673 (10 + np) (-1)) 630 80 0) 688 0 (-1) := by
  unfold p_pr0
  rw [h1]
theorem zRW.pr0 (Z : zK K V U e c L9 L10 rF pF nt ns nr np Q D C v h k) : zRW K V L9 L10 rF pF e c np D 0 673 (10 + np) 0 0 C D v h (q_sA (q_sI (q_sA k 673 (10 + np) (-1)) 630 80 0) 688 0 (-1)) := by
  obtain ⟨O, _, _, _, ⟨z1, z2, z3, z4, z5⟩, z6, z7, z8, z9, z10⟩ := Z
  have tI : ∀ j, ¬ j = 80 → qI (q_sA (q_sI (q_sA k 673 (10 + np) (-1)) 630 80 0) 688 0 (-1)) 630 j = qI k 630 j := fun j hj => by
    rw [qI_sA, q_sI_n (by omega), qI_sA]
  have tA : ∀ y, ¬ y = 673 ∧ ¬ y = 688 → qA (q_sA (q_sI (q_sA k 673 (10 + np) (-1)) 630 80 0) 688 0 (-1)) y = qA k y := fun y hy => by
    rw [qA_sAn hy.2, qA_sI, qA_sAn hy.1]
  refine ⟨⟨⟨O.1.1, (tI _ (by decide)).trans O.1.2⟩, O.2⟩, ⟨z6, (tI _ (by decide)).trans z7, (tI _ (by decide)).trans z8, Nat.le_refl _⟩, ⟨?_, (tI _ (by decide)).trans z3, ?_, ?_⟩, Or.inl ⟨rfl, rfl, rfl⟩, ⟨Iff.rfl, fun q => absurd rfl q, fun q => absurd rfl q⟩, fun j h1 h2 => absurd h2 (by omega), ?_⟩
  · rw [qI_sA, q_sI_e]
    rfl
  · rw [qA_sAe]
    rfl
  · rw [qA_sAp (by omega), qA_sI, qA_sAe]
    rfl
  · unfold zRc at z10 ⊢
    rw [tA 669 (by decide), tA 689 (by decide), tA 690 (by decide)]
    exact z10
theorem z_kpr (T : zTk K P X V U e) (hc : c = 11 ∨ c = 300) (he12 : e ≤ 1200) (Z : zK K V U e c L9 L10 rF pF nt ns nr np Q D C v h k) (hz : (y_pr K np s).2 = 0) (he : (y_pr K np s).1 ≤ e) (hC : C ≤ s.1) (hD : D ≤ s.1) (hn : L10 np = V (s.1 + 1)) : (∃ C' D' v', D' ≤ (y_pr K np s).1 ∧ C' ≤ (y_pr K np s).1 ∧ zK K V U e c L9 L10 rF pF nt ns nr (np + 1) Q D' C' v' (g_pc K V c rF pF nr np s.1 h) (p_pr K P X U nr np s k)) ∨ ∃ C' D', zBr K P V L9 L10 rF pF e (y_pr K np s).1 C' D' (g_pc K V c rF pF nr np s.1 h) (p_pr K P X U nr np s k) := by
  have hcn : ¬ c = 589 := by omega
  have M := T.M
  obtain ⟨p1, p2, p3, p4, p5⟩ := y_pr_p hz
  rw [p4] at he ⊢
  have he : (y_ro K 1202 0 (s.1 + 2, 0)).1 + 1 ≤ e := he
  have to := y_to.ro (K := K) 1202 0 _ _ (y_to.rf (s := ((s.1 + 2, 0) : y_S)))
  have t2 : s.1 + 2 ≤ (y_ro K 1202 0 (s.1 + 2, 0)).1 := to.1
  have N1 : zN K e (s.1 + 1) := ⟨by omega, p2⟩
  show (∃ C' D' v', D' ≤ (y_ro K 1202 0 (s.1 + 2, 0)).1 + 1 ∧ C' ≤ (y_ro K 1202 0 (s.1 + 2, 0)).1 + 1 ∧ _) ∨ ∃ C' D', zBr K P V L9 L10 rF pF e ((y_ro K 1202 0 (s.1 + 2, 0)).1 + 1) C' D' _ _
  unfold g_pc p_pr p_pr1
  have BR : ∀ C1 D1 h1 k1, zBr K P V L9 L10 rF pF e (y_ro K 1202 0 (s.1 + 2, 0)).1 C1 D1 h1 k1 → ∀ i v2, zBr K P V L9 L10 rF pF e ((y_ro K 1202 0 (s.1 + 2, 0)).1 + 1) C1 D1 (q_sI (q_sA h1 (c + 5) i v2) c 3 (nI (np + 1))) (q_sI (q_sL k1 677 np (U (s.1 + 1))) 630 21 (nI (np + 1))) := fun C1 D1 h1 k1 B i v2 => B.gn M hcn ((g_S.rf.sA).sI (by omega)) (by rw [q_sI_n (by omega), qI_sL]) (by rw [q_sI_n (by omega), qI_sL]) (fun y hy => by rw [qA_sI, qA_sL]) ((p_LW.rf.sL).sI (by decide) (by decide)) (Nat.le_succ _)
  rcases z_tw T N1 (by rw [Z.1.2.1]; exact Z.2.2.2.1.2.2.2.1) (by rw [Z.1.2.2]; exact Z.2.2.2.2.1.2.2.2.1) Z.1.1 with ⟨e1, e2, _⟩ | B
  · rw [e1, p_pr0_e e2]
    have W0 := zRW.pr0 Z
    have Kg : g_Kd c h (g_rw K V c rF pF 1202 0 (s.1 + 2, 0) (-1, -1) h).2 := g_Kd.rw _ _ _ _ _ g_Kd.rf
    have Kp : p_Ko (q_sA (q_sI (q_sA k 673 (10 + np) (-1)) 630 80 0) 688 0 (-1)) (p_ro K P X 1202 0 (s.1 + 2, 0) (q_sA (q_sI (q_sA k 673 (10 + np) (-1)) 630 80 0) 688 0 (-1))) := p_Ko.ro _ _ _ _ p_Ko.rf
    rcases z_rw (X := X) (L9 := L9) (L10 := L10) (rF := rF) (pF := pF) T hc he12 p1 1202 0 D 673 (10 + np) 0 0 C D v (s.1 + 2, 0) (-1, -1) h _ rfl W0 (by show D ≤ s.1 + 2; omega) (by show C ≤ s.1 + 2; omega) (by decide) p3 (by omega) with ⟨C', D', v', f', g', W, ef, F, hv, r1, r2⟩ | ⟨C', D', B⟩
    · left
      rw [ef]
      have tI : ∀ j, ¬ j = 80 → qI (q_sA (q_sI (q_sA k 673 (10 + np) (-1)) 630 80 0) 688 0 (-1)) 630 j = qI k 630 j := fun j hj => by
        rw [qI_sA, q_sI_n (by omega), qI_sA]
      have tA : ∀ y, ¬ y = 673 ∧ ¬ y = 688 → qA (q_sA (q_sI (q_sA k 673 (10 + np) (-1)) 630 80 0) 688 0 (-1)) y = qA k y := fun y hy => by
        rw [qA_sAn hy.2, qA_sI, qA_sAn hy.1]
      have t3 : ∀ i, ¬ i = 10 + np → qA (q_sA (q_sI (q_sA k 673 (10 + np) (-1)) 630 80 0) 688 0 (-1)) 673 i = qA k 673 i := fun i hi => by
        rw [qA_sAn (by decide), qA_sI, qA_sAp (by omega)]
      have tL : qL (q_sA (q_sI (q_sA k 673 (10 + np) (-1)) 630 80 0) 688 0 (-1)) = qL k := by
        rw [qL_sA, qL_sI, qL_sA]
      generalize q_sA (q_sI (q_sA k 673 (10 + np) (-1)) 630 80 0) 688 0 (-1) = k1 at *
      generalize (g_rw K V c rF pF 1202 0 (s.1 + 2, 0) (-1, -1) h).2 = h2 at *
      generalize p_ro K P X 1202 0 (s.1 + 2, 0) k1 = k2 at *
      obtain ⟨O, ⟨n1, n2, n3, n4⟩, ⟨s1, s2, s3, s4⟩, _, ⟨_, _, ff⟩, dos, Rc⟩ := W
      obtain ⟨F1, F2, F3, F4, _, _⟩ := F
      -- frames
      have gI : ∀ y j, ¬ (y = 589 ∧ (j = 15 ∨ j = 16)) → ¬ (y = c ∧ (j = 3 ∨ j = 5)) → qI (q_sI (q_sA h2 (c + 5) np (oN f')) c 3 (nI (np + 1))) y j = qI h y j := fun y j h1 h2 => by
        rw [q_sI_n (by omega), qI_sA, Kg.1 y j h1 (by omega)]
      have gA : ∀ y, ¬ y = c + 5 ∧ ¬ y = c + 8 → qA (q_sI (q_sA h2 (c + 5) np (oN f')) c 3 (nI (np + 1))) y = qA h y := fun y hy => by
        rw [qA_sI, qA_sAn hy.1, Kg.2.1 y hy.2]
      have g8 : qA (q_sI (q_sA h2 (c + 5) np (oN f')) c 3 (nI (np + 1))) (c + 8) = qA h2 (c + 8) := by
        rw [qA_sI, qA_sAn (by omega)]
      have g5 : ∀ i, qA (q_sI (q_sA h2 (c + 5) np (oN f')) c 3 (nI (np + 1))) (c + 5) i = if i = np then oN f' else qA h (c + 5) i := fun i => by
        rw [qA_sI]
        by_cases h9 : i = np
        · rw [h9, qA_sAe, if_pos rfl]
        · rw [qA_sAp (by omega), if_neg h9, Kg.2.1 _ (by omega)]
      have gL : qL (q_sI (q_sA h2 (c + 5) np (oN f')) c 3 (nI (np + 1))) = qL h := by
        rw [qL_sI, qL_sA]
        exact Kg.2.2.1
      have g3 : qI (q_sI (q_sA h2 (c + 5) np (oN f')) c 3 (nI (np + 1))) c 3 = nI (np + 1) := q_sI_e
      have g55 : qI (q_sI (q_sA h2 (c + 5) np (oN f')) c 3 (nI (np + 1))) c 5 = nI D' := by
        rw [q_sI_n (by omega), qI_sA]
        exact n1
      have gO : qI (q_sI (q_sA h2 (c + 5) np (oN f')) c 3 (nI (np + 1))) 589 15 = 0 := by
        rw [q_sI_n (by omega), qI_sA]
        exact O.1.1
      generalize q_sI (q_sA h2 (c + 5) np (oN f')) c 3 (nI (np + 1)) = h3 at *
      have kA : qA (q_sI (q_sL k2 677 np (U (s.1 + 1))) 630 21 (nI (np + 1))) = qA k2 := by
        rw [qA_sI, qA_sL]
      have kI : ∀ j, ¬ j = 21 → qI (q_sI (q_sL k2 677 np (U (s.1 + 1))) 630 21 (nI (np + 1))) 630 j = qI k2 630 j := fun j hj => by
        rw [q_sI_n (by omega), qI_sL]
      have k21 : qI (q_sI (q_sL k2 677 np (U (s.1 + 1))) 630 21 (nI (np + 1))) 630 21 = nI (np + 1) := q_sI_e
      have kL : ∀ y, ¬ y = 677 → qL (q_sI (q_sL k2 677 np (U (s.1 + 1))) 630 21 (nI (np + 1))) y = qL k y := fun y hy => by
        rw [qL_sI, qL_sLn hy, Kp.2.2, tL]
      have k77 : ∀ i, qL (q_sI (q_sL k2 677 np (U (s.1 + 1))) 630 21 (nI (np + 1))) 677 i = if i = np then U (s.1 + 1) else qL k 677 i := fun i => by
        rw [qL_sI, qL_sL]
        by_cases h9 : i = np
        · rw [if_pos ⟨rfl, h9⟩, if_pos h9]
        · rw [if_neg (fun q => h9 q.2), if_neg h9, Kp.2.2, tL]
      have kR : ∀ y, y < 669 → qA k2 y = qA k y := fun y hy => by
        rw [Kp.2.1 y (by unfold p_ks; simp; omega), tA y (by omega)]
      have kJ : ∀ j, j = 18 ∨ j = 19 ∨ j = 20 ∨ j = 22 → qI k2 630 j = qI k 630 j := fun j hj => by
        rw [Kp.1 j (by omega), tI j (by omega)]
      generalize q_sI (q_sL k2 677 np (U (s.1 + 1))) 630 21 (nI (np + 1)) = k3 at *
      have hA : zA c Q h h3 := fun i _ => by rw [gA _ (by omega), gA _ (by omega)]; exact ⟨rfl, rfl⟩
      refine ⟨C', D', v', by omega, by omega, ⟨⟨gO, (kI _ (by decide)).trans O.1.2⟩, by rw [gL]; exact Z.1.2.1, by rw [gL]; exact Z.1.2.2⟩, Z.2.1.fr (gI _ _ (by omega) (by omega)) (gI _ _ (by omega) (by omega)) ((kI _ (by decide)).trans (kJ _ (by omega))) ((kI _ (by decide)).trans (kJ _ (by omega))) (by rw [gL]) (by rw [gL]) (kL _ (by decide)) (kL _ (by decide)) (gA _ (by omega)) (gA _ (by omega)) (gA _ (by omega)) (by rw [kA]; exact kR _ (by decide)) (by rw [kA]; exact kR _ (by decide)) (by rw [kA]; exact kR _ (by decide)), Z.2.2.1.fr (gI _ _ (by omega) (by omega)) ((kI _ (by decide)).trans (kJ _ (by omega))) hA (fun x hx => by rw [kA]; exact kR _ (by omega)), ⟨Z.2.2.2.1.1, (gI _ _ (by omega) (by omega)).trans Z.2.2.2.1.2.1, ((kI _ (by decide)).trans (kJ _ (by omega))).trans Z.2.2.2.1.2.2.1, by rw [kL _ (by decide)]; exact Z.2.2.2.1.2.2.2.1, ?_⟩, ⟨by omega, g3, k21, Z.2.2.2.2.1.2.2.2.1.ad2 N1 hn k77, fun p hp => ?_⟩, g55, (kI _ (by decide)).trans n2, (kI _ (by decide)).trans n3, fun j hj => ?_, ?_⟩
      · have h20 := Z.2.2.2.1.1
        refine Z.rs (fun r j hr => ?_) (fun r i hr h1 h2 => ?_) hA (Nat.le_refl _) (Nat.le_refl _) (Nat.le_refl _) (fun r hr => p_Ki.eq (fun y h1 h2 => by rw [kA]; exact kR _ (by omega)))
        · have hO := g_ro.in hc (show r < 20 by omega)
          have := hO.ne
          exact gI _ _ (by omega) (by omega)
        · have hO := g_ro.in hc (show r < 20 by omega)
          exact gA _ ⟨hO.c9 hc h1 h2 (by decide) (by decide), hO.c9 hc h1 h2 (by decide) (by decide)⟩
      · by_cases h9 : p = np
        · refine ⟨f', ?_, fun q => (ff q).2.2, by rw [g5, if_pos h9], ?_⟩
          · by_cases h0 : f' = 0
            · omega
            · exact (ff h0).2.1
          · rw [kA, h9]
            exact s4
        · obtain ⟨f, q1, q2, q3, q4⟩ := Z.2.2.2.2.1.2.2.2.2 p (by omega)
          refine ⟨f, by omega, fun q => ?_, by rw [g5, if_neg h9]; exact q3, ?_⟩
          · rw [hv _ (by omega)]
            exact q2 q
          · rw [kA, F4 _ (by omega), t3 _ (by omega)]
            exact q4
      · by_cases h9 : j < D
        · obtain ⟨y1, y2⟩ := Z.2.2.2.2.2.2.2.2.1 j h9
          refine ⟨y1.fr2 (fun i => hv j h9 i) (fun i hi => ?_) (fun y hy => ?_) (fun i hi => ?_), (y2.cg h9 (fun y hy i => hv y hy i)).mono n4⟩
          · rw [g8]
            exact F1 _ (by omega)
          · rw [kA, F2 y j (by omega) h9, tA y (by omega)]
          · rw [kA, F3 _ (by omega) (fun q => absurd q.1 (by decide)), tA 671 (by decide)]
        · obtain ⟨y1, y2⟩ := dos j (by omega) hj
          refine ⟨y1.fr2 (fun _ => rfl) (fun i hi => by rw [g8]) (fun y hy => by rw [kA]) (fun i hi => by rw [kA]), y2⟩
      · unfold zRc at Rc ⊢
        rw [kA]
        exact Rc
    · right
      exact ⟨C', D', BR _ _ _ _ B _ _⟩
  · right
    have L0 : p_LW P (s.1 + 1 + 1) (p_tw P U (s.1 + 1) nr np k) (p_pr0 P U nr np s k) := ((p_LW.rf.sA).sI (by decide) (by decide)).sA
    have tI : ∀ j, ¬ j = 80 ∧ ¬ j = 15 ∧ ¬ j = 16 → qI (p_pr0 P U nr np s k) 630 j = qI k 630 j := fun j hj => by
      unfold p_pr0
      rw [qI_sA, q_sI_n (by omega), qI_sA, p_tw_I ⟨hj.2.1, hj.2.2⟩]
    have tA : ∀ y, ¬ y = 673 ∧ ¬ y = 688 → qA (p_pr0 P U nr np s k) y = qA k y := fun y hy => by
      unfold p_pr0
      rw [qA_sAn hy.2, qA_sI, qA_sAn hy.1, p_tw_A]
    have B0 : zBr K P V L9 L10 rF pF e (s.1 + 1 + 1) C D (g_tw (V (s.1 + 1)) nr np (s.1 + 1) h) (p_pr0 P U nr np s k) := Z.br (B _ _ g_S.rf L0) (by omega) (by omega) (tI _ (by decide)) (tI _ (by decide)) (fun y hy => tA y (by omega))
    obtain ⟨C', D', B1⟩ := zBr.ro (X := X) (p := (-1, -1)) hcn M he12 B0 (show s.1 + 1 + 1 ≤ ((s.1 + 2, 0) : y_S).1 from Nat.le_refl _) p3 (by omega)
    exact ⟨C', D', BR _ _ _ _ B1 _ _⟩
end ZK
