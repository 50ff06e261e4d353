/-! THE TWO READS: each tell -/
section ZK
variable {K P X : Nat → Nat} {V U : Nat → Int64} {L9 L10 : Nat → Int64} {rF pF : Nat} {e c np nr nt ns nt' ns' D0 d HR HI f g C D C' D' a b m q Q Q' r : Nat} {v0 v v1 v' : Nat → Nat → Nat} {h0 k0 h k h' k' h1 k1 k2 : q_Hp} {s : y_S}
theorem zK.br (Z : zK K V U e c L9 L10 rF pF nt ns nr np Q D C v h k) (B : zB P e b h' k') (hC : C ≤ b) (hD : D ≤ b) (e1 : qI k' 630 84 = qI k 630 84) (e2 : qI k' 630 23 = qI k 630 23) (e3 : ∀ y, y = 669 ∨ y = 689 ∨ y = 690 → qA k' y = qA k y) : zBr K P V L9 L10 rF pF e b C D h' k' := by
  obtain ⟨_, _, _, _, _, _, z7, z8, _, z10⟩ := Z
  refine B.br (e1.trans z8) (e2.trans z7) hC hD (fun x hx => ?_)
  rw [e3 669 (by omega), e3 689 (by omega), e3 690 (by omega)]
  exact z10.ok x hx
theorem g_ty_A {y : Nat} (hy : ¬ y = c + 1) : qA (g_ty K V c nt a h) y = qA h y := by
  unfold g_ty
  rw [qA_sI, qA_sAn hy, qA_sL]
  split
  · rw [g_fw_A, g_dw_A]
  · rw [g_dw_A]
theorem g_ty_L {y : Nat} (hy : ¬ y = 590) : qL (g_ty K V c nt a h) y = qL h y := by
  unfold g_ty
  rw [qL_sI, qL_sA, qL_sLn hy]
  split
  · rw [g_fw_L, g_dw_L]
  · rw [g_dw_L]
theorem g_so_A {y : Nat} (hy : ¬ y = c + 2 ∧ ¬ y = c + 3) : qA (g_so V c nt ns a h) y = qA h y := by
  unfold g_so
  rw [qA_sI, qA_sAn hy.2, qA_sAn hy.1, qA_sL, g_fw_A, g_fw_A, g_dw_A]
theorem g_so_L {y : Nat} (hy : ¬ y = 591) : qL (g_so V c nt ns a h) y = qL h y := by
  unfold g_so
  rw [qL_sI, qL_sA, qL_sA, qL_sLn hy, g_fw_L, g_fw_L, g_dw_L]
theorem p_ty_A {y : Nat} (hy : ¬ y = 638) : qA (p_ty K P U nt s k) y = qA k y := by
  unfold p_ty
  rw [qA_sI, qA_sL, p_ty2_A hy]
theorem p_ty_L {y : Nat} (hy : ¬ y = 674) : qL (p_ty K P U nt s k) y = qL k y := by
  unfold p_ty
  rw [qL_sI, qL_sLn hy, p_ty2_L]
theorem p_so_L {y : Nat} (hy : ¬ y = 675) : qL (p_so P U nt ns s k) y = qL k y := by
  unfold p_so p_so1
  rw [qL_sI, qL_sLn hy, qL_sA, p_fw_L, qL_sA, p_fw_L, p_dw_L]
theorem q_isO.c9 {o : Nat} (hO : q_isO o) (hc : c = 11 ∨ c = 300) {i x : Nat} (h1 : 1 ≤ i) (h2 : i < 14) (h3 : 1 ≤ x) (h4 : x < 9) : ¬ o + i = c + x := hO.na hc i x h1 h2 h3 h4
theorem z_kty (T : zTk K P X V U e) (hc : c = 11 ∨ c = 300) (Z : zK K V U e c L9 L10 rF pF nt ns nr np Q D C v h k) (hs : s.2 = 0) (hz : (y_ty K nt s).2 = 0) (he : (y_ty K nt s).1 ≤ e) (hC : C ≤ s.1) (hD : D ≤ s.1) : zK K V U e c L9 L10 rF pF (nt + 1) ns nr np Q D C v (g_ty K V c nt s.1 h) (p_ty K P U nt s k) ∨ zBr K P V L9 L10 rF pF e (y_ty K nt s).1 C D (g_ty K V c nt s.1 h) (p_ty K P U nt s k) := by
  have hl : s.1 ≤ (y_ty K nt s).1 := (y_to.rf (s := s)).ty.1
  rcases z_ty T hc Z.2.1 Z.1.1 hs hz he with ⟨O', T'⟩ | B
  · left
    have hA : zA c Q h (g_ty K V c nt s.1 h) := fun i _ => by rw [g_ty_A (by omega), g_ty_A (by omega)]; exact ⟨rfl, rfl⟩
    refine ⟨⟨O', (g_ty_L (by decide)).trans Z.1.2.1, (g_ty_L (by decide)).trans Z.1.2.2⟩, T', Z.2.2.1.fr (g_ty_I (by omega) (by omega)) (p_ty_I (by decide)) hA (fun x hx => p_ty_A (by omega)), ⟨Z.2.2.2.1.1, (g_ty_I (by omega) (by omega)).trans Z.2.2.2.1.2.1, (p_ty_I (by decide)).trans Z.2.2.2.1.2.2.1, by rw [p_ty_L (by decide)]; exact Z.2.2.2.1.2.2.2.1, ?_⟩, ?_⟩
    · have h20 := Z.2.2.2.1.1
      refine Z.rs (fun r j hr => ?_) (fun r i hr h1 h2 => ?_) hA (Nat.le_refl _) (Nat.le_succ _) (Nat.le_refl _) (fun r hr => p_Ki.eq (fun y h1 h2 => p_ty_A (by omega)))
      · have hO := g_ro.in hc (show r < 20 by omega)
        have := hO.ne
        exact g_ty_I (by omega) (by omega)
      · exact g_ty_A ((g_ro.in hc (show r < 20 by omega)).c9 hc h1 h2 (by decide) (by decide))
    · exact Z.pd (g_ty_I (by omega) (by omega)) (g_ty_I (by omega) (by omega)) (g_ty_A (by omega)) (g_ty_A (by omega)) (fun j hj => p_ty_I (by omega)) (fun y hy => p_ty_A (by omega)) (p_ty_L (by decide))
  · right
    exact Z.br B (by omega) (by omega) (p_ty_I (by decide)) (p_ty_I (by decide)) (fun y hy => p_ty_A (by omega))
theorem z_kso (T : zTk K P X V U e) (hc : c = 11 ∨ c = 300) (Z : zK K V U e c L9 L10 rF pF nt ns nr np Q D C v h k) (hz : (y_so K ns s).2 = 0) (he : (y_so K ns s).1 ≤ e) (hC : C ≤ s.1) (hD : D ≤ s.1) : zK K V U e c L9 L10 rF pF nt (ns + 1) nr np Q D C v (g_so V c nt ns s.1 h) (p_so P U nt ns s k) ∨ zBr K P V L9 L10 rF pF e (y_so K ns s).1 C D (g_so V c nt ns s.1 h) (p_so P U nt ns s k) := by
  have hl : s.1 ≤ (y_so K ns s).1 := (y_to.rf (s := s)).so.1
  rcases z_so T hc Z.2.1 Z.1.1 hz he with ⟨O', T'⟩ | B
  · left
    have hA : zA c Q h (g_so V c nt ns s.1 h) := fun i _ => by rw [g_so_A (by omega), g_so_A (by omega)]; exact ⟨rfl, rfl⟩
    refine ⟨⟨O', (g_so_L (by decide)).trans Z.1.2.1, (g_so_L (by decide)).trans Z.1.2.2⟩, T', Z.2.2.1.fr (g_so_I (by omega) (by omega)) (p_so_I (by decide)) hA (fun x hx => p_so_A (by omega)), ⟨Z.2.2.2.1.1, (g_so_I (by omega) (by omega)).trans Z.2.2.2.1.2.1, (p_so_I (by decide)).trans Z.2.2.2.1.2.2.1, by rw [p_so_L (by decide)]; exact Z.2.2.2.1.2.2.2.1, ?_⟩, ?_⟩
    · have h20 := Z.2.2.2.1.1
      refine Z.rs (fun r j hr => ?_) (fun r i hr h1 h2 => ?_) hA (Nat.le_refl _) (Nat.le_refl _) (Nat.le_succ _) (fun r hr => p_Ki.eq (fun y h1 h2 => p_so_A (by omega)))
      · have hO := g_ro.in hc (show r < 20 by omega)
        have := hO.ne
        exact g_so_I (by omega) (by omega)
      · have hO := g_ro.in hc (show r < 20 by omega)
        exact g_so_A ⟨hO.c9 hc h1 h2 (by decide) (by decide), hO.c9 hc h1 h2 (by decide) (by decide)⟩
    · exact Z.pd (g_so_I (by omega) (by omega)) (g_so_I (by omega) (by omega)) (g_so_A (by omega)) (g_so_A (by omega)) (fun j hj => p_so_I (by omega)) (fun y hy => p_so_A (by omega)) (p_so_L (by decide))
  · right
    exact Z.br B (by omega) (by omega) (p_so_I (by decide)) (p_so_I (by decide)) (fun y hy => p_so_A (by omega))
theorem z_kru (T : zTk K P X V U e) (hc : c = 11 ∨ c = 300) (he12 : e ≤ 1200) (Z : zK K V U e c L9 L10 rF pF nt ns nr np Q D C v h k) (hs : s.2 = 0) (hz : (y_ru K nr s).2 = 0) (he : (y_ru K nr s).1 ≤ e) (hC : C ≤ s.1) (hD : D ≤ s.1) (hQ : Q ≤ s.1) (hn : L9 nr = V (s.1 + 1)) : (∃ Q', Q' ≤ (y_ru K nr s).1 ∧ zK K V U e c L9 L10 rF pF nt ns (nr + 1) np Q' D C v (g_ru K V c nt ns nr np s.1 h) (p_ru K P X U nt ns nr np s k)) ∨ zBr K P V L9 L10 rF pF e (y_ru K nr s).1 C D (g_ru K V c nt ns nr np s.1 h) (p_ru K P X U nt ns nr np s k) := by
  have es : s = (s.1, 0) := Prod.ext rfl hs
  have ey : y_ru K nr s = y_ru K nr (s.1, 0) := by rw [← es]
  have hl : s.1 ≤ (y_ru K nr s).1 := (y_to.rf (s := s)).ru.1
  rw [ey] at hz he hl ⊢
  obtain ⟨p1, p2, p3, _⟩ := y_ru_p hz
  have hl2 : s.1 + 1 ≤ (y_ru K nr (s.1, 0)).1 := by
    rw [p3]
    have r2 := y_r1_le (K := K) (s := s)
    have td := y_to.ds (K := K) 9 0 _ _ (y_to.rf (s := y_ts K 5 0 (y_nt K 3 0 (y_r1 K s))))
    have ts := y_to.ts (K := K) 5 0 _ _ (y_to.rf (s := y_nt K 3 0 (y_r1 K s)))
    have tn := y_to.nt (K := K) 3 0 _ _ (y_to.rf (s := y_r1 K s))
    have := Nat.le_trans r2 (Nat.le_trans (Nat.le_trans tn.1 ts.1) td.1)
    show s.1 + 1 ≤ (y_ds K 9 0 (y_ts K 5 0 (y_nt K 3 0 (y_r1 K s)))).1 + 1
    omega
  have hI : ∀ j, j = 21 ∨ j = 23 ∨ j = 84 → qI (p_ru K P X U nt ns nr np s k) 630 j = qI k 630 j := fun j hj => p_ru_I (by omega)
  have hA' : ∀ y, (669 ≤ y ∧ y ≤ 673) ∨ y = 689 ∨ y = 690 → qA (p_ru K P X U nt ns nr np s k) y = qA k y := fun y hy => p_ru_A (by omega)
  have eo : ∀ r, g_ro c r = c + 9 + 14 * r := fun r => rfl
  rcases z_ru T hc he12 (by rw [Z.1.2.1]; exact Z.2.2.2.1.2.2.2.1) (by rw [Z.1.2.2]; exact Z.2.2.2.2.1.2.2.2.1) Z.1.1 Z.2.1 Z.2.2.1 hQ hz he with ⟨Q', q1, q2, q3, q4, q5, q6, q7⟩ | B
  · left
    have hO0 := g_ro.in hc p1
    have hn0 := hO0.ne
    refine ⟨Q', q1, ⟨q4, (g_ru_L (by decide)).trans Z.1.2.1, (g_ru_L (by decide)).trans Z.1.2.2⟩, q5, q6, ⟨by omega, ?_, p_ru_20, ?_, fun r hr => ?_⟩, ?_⟩
    · unfold g_ru
      rw [q_sI_e]
    · rw [p_ru_676]
      exact Z.2.2.2.1.2.2.2.1.ad2 ⟨by omega, p2⟩ hn (fun j => rfl)
    · by_cases h9 : r = nr
      · rw [h9]
        exact q7
      · refine Z.rs (nt' := nt) (ns' := ns) (fun r j hr => ?_) (fun r i hr h1 h2 => ?_) q3 q2 (Nat.le_refl _) (Nat.le_refl _) (fun r hr => p_Ki.ru) r (by omega)
        · have hO := g_ro.in hc (show r < 20 by omega)
          have := hO.ne
          refine g_ru_I (by omega) (fun q => ?_) (by omega)
          rw [eo, eo] at q
          omega
        · have hO := g_ro.in hc (show r < 20 by omega)
          have hl := hO.n
          have n6 := hO.c9 hc h1 h2 (x := 6) (by decide) (by decide)
          have n7 := hO.c9 hc h1 h2 (x := 7) (by decide) (by decide)
          refine g_ru_A (by omega) (Or.inl ?_)
          rw [eo, eo]
          omega
    · refine Z.pd (g_ru_I (by omega) (by rw [eo]; omega) (by omega)) (g_ru_I (by omega) (by rw [eo]; omega) (by omega)) (g_ru_A (by omega) (Or.inl (by rw [eo]; omega))) (g_ru_A (by omega) (Or.inl (by rw [eo]; omega))) hI hA' (p_ru_L (by decide) (by decide))
  · right
    exact Z.br B (by omega) (by omega) (hI 84 (by omega)) (hI 23 (by omega)) (fun y hy => hA' y (by omega))
end ZK
