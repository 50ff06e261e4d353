/-! THE TWO READS: names that waited are found, or not -/
section ZJ
variable {K P X : Nat → Nat} {V U : Nat → Int64} {L9 L10 : Nat → Int64} {rF pF : Nat} {e c np nr nt ns C D Q C' D' Q' b a i d : Nat} {v v' : Nat → Nat → Nat} {h k h' k' k1 : q_Hp} {s : y_S}
/-- names of rules and procs in the reference, told so far -/
def zNm (K : Nat → Nat) (U : Nat → Int64) (e : Nat) (t : y_T) (k : q_Hp) : Prop := (∀ i, i < t.2.2.1 → zN K e (t.2.2.2.2.1 i) ∧ qL k 676 i = U (t.2.2.2.2.1 i)) ∧ ∀ i, i < t.2.2.2.1 → zN K e (t.2.2.2.2.2 i) ∧ qL k 677 i = U (t.2.2.2.2.2 i)
theorem p_pr_Lx {y : Nat} (hy : ¬ y = 677) : qL (p_pr K P X U nr np s k) y = qL k y := by
  unfold p_pr p_pr1
  rw [qL_sI, qL_sLn hy]
  have := (p_Ko.ro (K := K) (P := P) (X := X) (k := p_pr0 P U nr np s k) 1202 0 (s.1 + 2, 0) _ p_Ko.rf).2.2
  rw [this]
  unfold p_pr0
  rw [qL_sA, qL_sI, qL_sA, p_tw_L]
theorem p_pr_677 : qL (p_pr K P X U nr np s k) 677 = fun i => if i = np then U (s.1 + 1) else qL k 677 i := by
  funext i
  unfold p_pr p_pr1
  rw [qL_sI, qL_sL]
  have := (p_Ko.ro (K := K) (P := P) (X := X) (k := p_pr0 P U nr np s k) 1202 0 (s.1 + 2, 0) _ p_Ko.rf).2.2
  rw [this]
  unfold p_pr0
  rw [qL_sA, qL_sI, qL_sA, p_tw_L]
  by_cases h9 : i = np
  · rw [if_pos ⟨rfl, h9⟩, if_pos h9]
  · rw [if_neg (fun q => h9 q.2), if_neg h9]
theorem z_nm : ∀ m (t : y_T) (s : y_S) k, zNm K U e t k → (y_tp K m t s).2.2 = 0 → (y_tp K m t s).2.1 ≤ e → zNm K U e (y_tp K m t s).1 (p_tt K P X U m t.1 t.2.1 t.2.2.1 t.2.2.2.1 s k) := by
  intro m
  induction m with
  | zero => intro t s k Z _ _; exact Z
  | succ m ih =>
    intro t s k Z hz he
    have s0 := y_tp_z hz
    unfold y_tp at hz he ⊢
    unfold p_tt
    by_cases h42 : K s.1 = 42
    · have ni : ∀ x, ¬ x = 42 → ¬ y_is K x s = true := fun x hx q => hx ((y_is_c.mp q).2.symm.trans h42)
      rw [if_neg (fun q => q.2 h42), if_neg (ni 0 (by decide)), if_neg (ni 2 (by decide)), if_neg (ni 3 (by decide)), if_neg (ni 4 (by decide))]
      exact Z
    rw [if_pos ⟨s0, h42⟩] at hz he ⊢
    by_cases c0 : y_is K 0 s = true
    · rw [if_pos c0] at hz he ⊢
      rw [if_pos c0]
      refine ih (t.1 + 1, t.2) _ _ ?_ hz he
      exact ⟨fun i hi => by rw [p_ty_L (by decide)]; exact Z.1 i hi, fun i hi => by rw [p_ty_L (by decide)]; exact Z.2 i hi⟩
    rw [if_neg c0] at hz he ⊢
    rw [if_neg c0]
    by_cases c2 : y_is K 2 s = true
    · rw [if_pos c2] at hz he ⊢
      rw [if_pos c2]
      refine ih (t.1, t.2.1 + 1, t.2.2) _ _ ?_ hz he
      exact ⟨fun i hi => by rw [p_so_L (by decide)]; exact Z.1 i hi, fun i hi => by rw [p_so_L (by decide)]; exact Z.2 i hi⟩
    rw [if_neg c2] at hz he ⊢
    rw [if_neg c2]
    by_cases c3 : y_is K 3 s = true
    · rw [if_pos c3] at hz he ⊢
      rw [if_pos c3]
      have z1 := y_tp_z hz
      have mm := y_tp_m (K := K) m (t.1, t.2.1, t.2.2.1 + 1, t.2.2.2.1, un t.2.2.2.2.1 t.2.2.1 (s.1 + 1), t.2.2.2.2.2) (y_ru K t.2.2.1 s)
      have es : s = (s.1, 0) := Prod.ext rfl s0
      have zz : (y_ru K t.2.2.1 (s.1, 0)).2 = 0 := by rw [← es]; exact z1
      obtain ⟨p1, p2, p3, _⟩ := y_ru_p zz
      have l3 : s.1 + 1 ≤ (y_ru K t.2.2.1 s).1 := by
        rw [es, p3]
        have r2 := y_r1_le (K := K) (s := (s.1, 0))
        have td := y_to.ds (K := K) 9 0 _ _ (y_to.rf (s := y_ts K 5 0 (y_nt K 3 0 (y_r1 K (s.1, 0)))))
        have ts := y_to.ts (K := K) 5 0 _ _ (y_to.rf (s := y_nt K 3 0 (y_r1 K (s.1, 0))))
        have tn := y_to.nt (K := K) 3 0 _ _ (y_to.rf (s := y_r1 K (s.1, 0)))
        have := Nat.le_trans r2 (Nat.le_trans (Nat.le_trans tn.1 ts.1) td.1)
        have : s.1 + 2 ≤ (y_ds K 9 0 (y_ts K 5 0 (y_nt K 3 0 (y_r1 K (s.1, 0))))).1 := this
        show s.1 + 1 ≤ (y_ds K 9 0 (y_ts K 5 0 (y_nt K 3 0 (y_r1 K (s.1, 0))))).1 + 1
        omega
      have N1 : zN K e (s.1 + 1) := ⟨Nat.le_trans l3 (Nat.le_trans mm.2.2 he), p2⟩
      refine ih (t.1, t.2.1, t.2.2.1 + 1, t.2.2.2.1, un t.2.2.2.2.1 t.2.2.1 (s.1 + 1), t.2.2.2.2.2) _ _ ⟨fun i hi => ?_, fun i hi => by rw [p_ru_L (by decide) (by decide)]; exact Z.2 i hi⟩ hz he
      rw [p_ru_676]
      show zN K e (if i = t.2.2.1 then s.1 + 1 else t.2.2.2.2.1 i) ∧ (if i = t.2.2.1 then U (s.1 + 1) else qL k 676 i) = U (if i = t.2.2.1 then s.1 + 1 else t.2.2.2.2.1 i)
      have hi : i < t.2.2.1 + 1 := hi
      by_cases h9 : i = t.2.2.1
      · rw [if_pos h9, if_pos h9]
        exact ⟨N1, rfl⟩
      · rw [if_neg h9, if_neg h9]
        exact Z.1 i (by omega)
    rw [if_neg c3] at hz he ⊢
    rw [if_neg c3]
    by_cases c4 : y_is K 4 s = true
    · rw [if_pos c4] at hz he ⊢
      rw [if_pos c4]
      have z1 := y_tp_z hz
      have mm := y_tp_m (K := K) m (t.1, t.2.1, t.2.2.1, t.2.2.2.1 + 1, t.2.2.2.2.1, un t.2.2.2.2.2 t.2.2.2.1 (s.1 + 1)) (y_pr K t.2.2.2.1 s)
      obtain ⟨p1, p2, p3, p4, _⟩ := y_pr_p z1
      have l3 : s.1 + 1 ≤ (y_pr K t.2.2.2.1 s).1 := by
        rw [p4]
        have to := y_to.ro (K := K) 1202 0 _ _ (y_to.rf (s := ((s.1 + 2, 0) : y_S)))
        have t2 : s.1 + 2 ≤ (y_ro K 1202 0 (s.1 + 2, 0)).1 := to.1
        show s.1 + 1 ≤ (y_ro K 1202 0 (s.1 + 2, 0)).1 + 1
        omega
      have N1 : zN K e (s.1 + 1) := ⟨Nat.le_trans l3 (Nat.le_trans mm.2.2 he), p2⟩
      refine ih (t.1, t.2.1, t.2.2.1, t.2.2.2.1 + 1, t.2.2.2.2.1, un t.2.2.2.2.2 t.2.2.2.1 (s.1 + 1)) _ _ ⟨fun i hi => by rw [p_pr_Lx (by decide)]; exact Z.1 i hi, fun i hi => ?_⟩ hz he
      rw [p_pr_677]
      show zN K e (if i = t.2.2.2.1 then s.1 + 1 else t.2.2.2.2.2 i) ∧ (if i = t.2.2.2.1 then U (s.1 + 1) else qL k 677 i) = U (if i = t.2.2.2.1 then s.1 + 1 else t.2.2.2.2.2 i)
      have hi : i < t.2.2.2.1 + 1 := hi
      by_cases h9 : i = t.2.2.2.1
      · rw [if_pos h9, if_pos h9]
        exact ⟨N1, rfl⟩
      · rw [if_neg h9, if_neg h9]
        exact Z.2 i (by omega)
    · exfalso
      rw [if_neg c4] at hz
      have := y_tp_z hz
      unfold y_fl at this
      rw [if_pos s0] at this
      exact absurd this (show ¬ (1 : Nat) = 0 by decide)
/-- the two ways to seek a name -/
theorem z_look (T : zTk K P X V U e) (Z9 : zna K V U e L9 (qL k 676) rF) (Z10 : zna K V U e L10 (qL k 677) pF) (N : zN K e i) {x : Int32} : (if x = 3 then p_fi (qL k 677) pF (U i) else p_fi (qL k 676) rF (U i)) = zlk V L9 L10 rF pF x i := by
  unfold zlk
  rw [Z9.fi T N, Z10.fi T N]
/-- no name waits in vain -/
theorem z_jnA (T : zTk K P X V U e) (hD : D < 2 ^ 28) : ∀ m j k, zna K V U e L9 (qL k 676) rF → zna K V U e L10 (qL k 677) pF → j + m = C → qI k 630 15 = 0 → zRc K V L9 L10 rF pF e C D v k → (∀ x, x < j → ∀ y, y < D → qA k 690 x = nI (1300 + y) → qA k 670 (1300 + y) = nI (v y 1)) → qI (p_jns U P rF pF m j k) 630 15 = 0 ∧ (∀ y, ¬ y = 670 → qA (p_jns U P rF pF m j k) y = qA k y) ∧ (∀ x, ¬ x = 15 ∧ ¬ x = 16 → qI (p_jns U P rF pF m j k) 630 x = qI k 630 x) ∧ qL (p_jns U P rF pF m j k) = qL k ∧ (∀ y, (∀ x, x < C → ¬ qA k 690 x = nI y) → y < 2 ^ 30 → qA (p_jns U P rF pF m j k) 670 y = qA k 670 y) ∧ ∀ y, y < D → (v y 0 = 0 ∨ v y 0 = 1 ∨ v y 0 = 3) → qA (p_jns U P rF pF m j k) 670 (1300 + y) = nI (v y 1) := by
  intro m
  induction m with
  | zero =>
    intro j k Z9 Z10 hj h15 R W
    refine ⟨h15, fun _ _ => rfl, fun _ _ => rfl, rfl, fun _ _ _ => rfl, fun y hy hk => ?_⟩
    obtain ⟨x, x1, x2⟩ := R.2 y hy hk
    exact W x (by omega) y hy x2
  | succ m ih =>
    intro j k Z9 Z10 hj h15 R W
    unfold p_jns
    obtain ⟨i, y, u1, u2, u3, u4, u5, u6, u7⟩ := R.1 j (by omega)
    have he := u1.1
    have lk : (if qA k 669 (1300 + y) = 3 then p_fi (qL k 677) pF (U i) else p_fi (qL k 676) rF (U i)) = some (v y 1) := by
      rw [z_look T Z9 Z10 u1, u5]
      exact u7
    have e1 : ∀ hi : i < 2 ^ 31, p_jn U P rF pF (qA k 689 j : Int32).toNatClampNeg (qA k 690 j : Int32).toNatClampNeg k = q_sA k 670 (1300 + y) (nI (v y 1)) := fun hi => by
      rw [u3, u4, nI_clamp hi, nI_clamp (by omega)]
      unfold p_jn
      rw [lk, p_fw_s]
      rfl
    by_cases hi31 : i < 2 ^ 31
    rotate_left 1
    · exfalso
      have := T.M.1 0 i
      have b1 := T.M.2 (i + 1)
      -- places grow, so there are but few tokens
      have gr : ∀ n, n ≤ i → n ≤ P n := by
        intro n
        induction n with
        | zero => intro _; exact Nat.zero_le _
        | succ n ihn =>
          intro hn
          have := ihn (by omega)
          have := T.M.1 n (n + 1) (by omega) (Nat.lt_succ_self n)
          omega
      have := gr i (Nat.le_refl _)
      have := T.M.2 i
      omega
    rw [e1 hi31]
    have q0 : ∀ x, qA (q_sA k 670 (1300 + y) (nI (v y 1))) 690 x = qA k 690 x := fun x => by rw [qA_sAn (by decide)]
    obtain ⟨r1, r2, r3, r4, r5, r6⟩ := ih (j + 1) (q_sA k 670 (1300 + y) (nI (v y 1))) (by rw [qL_sA]; exact Z9) (by rw [qL_sA]; exact Z10) (by omega) (by rw [qI_sA]; exact h15) (by
      unfold zRc at R ⊢
      rw [qA_sAn (by decide), qA_sAn (by decide), qA_sAn (by decide)]
      exact R) (fun x hx z hz h9 => by
        rw [q0] at h9
        by_cases hyz : z = y
        · rw [hyz, qA_sAe]
        · rw [qA_sAp (by omega)]
          refine W x ?_ z hz h9
          by_cases hxj : x = j
          · exfalso
            rw [hxj, u4] at h9
            have := (nI_eq (by omega) (by omega)).mp h9
            omega
          · omega)
    refine ⟨r1, fun z hz => (r2 z hz).trans (qA_sAn hz), fun x hx => (r3 x hx).trans (by rw [qI_sA]), r4.trans (by rw [qL_sA]), fun z hz hz2 => ?_, r6⟩
    rw [r5 z (fun x hx => by rw [q0]; exact hz x hx) hz2, qA_sAp]
    rintro ⟨_, q⟩
    exact hz j (by omega) (by rw [u4, q])
/-- a fault, once all names that waited are sought -/
theorem z_jnB (T : zTk K P X V U e) (he12 : e ≤ 1200) {n : Nat} (hn : ¬ n = 0) (h10 : n < 10) (hi : i ≤ e) : ∀ m j k, zna K V U e L9 (qL k 676) rF → zna K V U e L10 (qL k 677) pF → j + m = C → (∀ x, j ≤ x → x < C → ∃ i' y, zN K e i' ∧ y < D ∧ D ≤ 1200 ∧ qA k 689 x = nI i' ∧ qA k 690 x = nI (1300 + y) ∧ (zlk V L9 L10 rF pF (qA k 669 (1300 + y)) i' = none → i < i' ∨ (i' = i ∧ n = 4))) → (zf P k n i ∨ (n = 4 ∧ (qI k 630 15 = 0 ∨ nI (P i) < qI k 630 16) ∧ ∃ x y, j ≤ x ∧ x < C ∧ y < D ∧ qA k 689 x = nI i ∧ qA k 690 x = nI (1300 + y) ∧ zlk V L9 L10 rF pF (qA k 669 (1300 + y)) i = none)) → zf P (p_jns U P rF pF m j k) n i := by
  intro m
  induction m with
  | zero =>
    intro j k Z9 Z10 hj R W
    rcases W with W | ⟨_, _, x, y, w1, w2, _⟩
    · exact W
    · omega
  | succ m ih =>
    intro j k Z9 Z10 hj R W
    unfold p_jns
    obtain ⟨i', y, u1, u2, u2', u3, u4, u5⟩ := R j (Nat.le_refl _) (by omega)
    have he' := u1.1
    have cl1 : (qA k 689 j : Int32).toNatClampNeg = i' := by rw [u3, nI_clamp (by omega)]
    have cl2 : (qA k 690 j : Int32).toNatClampNeg = 1300 + y := by rw [u4, nI_clamp (by omega)]
    rw [cl1, cl2]
    refine ih (j + 1) (p_jn U P rF pF i' (1300 + y) k) (by rw [p_jn_L]; exact Z9) (by rw [p_jn_L]; exact Z10) (by omega) (fun x h1 h2 => ?_) ?_
    · rw [p_jn_A (by decide), p_jn_A (by decide), p_jn_A (by decide)]
      exact R x (by omega) h2
    · have lk := z_look T Z9 Z10 u1 (x := qA k 669 (1300 + y))
      unfold p_jn
      rw [lk]
      have fr : ∀ (k2 : q_Hp) (o : Option Nat), zf P k2 n i → zf P (q_sA k2 670 (1300 + y) (q_on o)) n i := fun k2 o z => by
        unfold zf
        rw [qI_sA]
        exact z
      cases hl : zlk V L9 L10 rF pF (qA k 669 (1300 + y)) i' with
      | some z =>
        rw [p_fw_s]
        rcases W with W | ⟨w1, w2, x, y2, w3, w4, w5, w6, w7, w8⟩
        · exact Or.inl (fr _ _ W)
        · refine Or.inr ⟨w1, by rw [qI_sA]; exact w2, x, y2, ?_, w4, w5, by rw [qA_sAn (by decide)]; exact w6, by rw [qA_sAn (by decide)]; exact w7, by rw [qA_sAn (by decide)]; exact w8⟩
          by_cases hxj : x = j
          · exfalso
            rw [hxj, u3] at w6
            rw [hxj, u4] at w7
            have e1 := (nI_eq (by omega) (by omega)).mp w6
            have e2 := (nI_eq (by omega) (by omega)).mp w7
            have : y = y2 := by omega
            rw [← this, ← e1, hl] at w8
            cases w8
          · omega
      | none =>
        rw [p_fw_0]
        rcases W with W | ⟨w1, w2, x, y2, w3, w4, w5, w6, w7, w8⟩
        · left
          refine fr _ _ ?_
          rcases u5 hl with q | ⟨q1, q2⟩
          · exact W.kp T.M hi hn h10 (p_LW.rf.wr (by decide) (by decide) (by omega))
          · subst q1 q2
            unfold p_wr
            rw [if_neg]
            · exact W
            · rw [W.1, W.2]
              intro q
              rcases q with q | q | q
              · exact absurd q (by decide)
              · exact Int32.lt_irrefl q
              · exact Int32.lt_irrefl q.2
        · rcases u5 hl with q | ⟨q1, q2⟩
          · right
            have L : p_LW P (i + 1) k (p_wr P 4 i' k) := p_LW.rf.wr (by decide) (by decide) (by omega)
            refine ⟨w1, ?_, x, y2, ?_, w4, w5, by rw [qA_sAn (by decide), p_wr_A]; exact w6, by rw [qA_sAn (by decide), p_wr_A]; exact w7, by rw [qA_sAn (by decide), p_wr_A]; exact w8⟩
            · rw [qI_sA]
              rcases L with ⟨y1, y2⟩ | ⟨f, t, y1, y2, y3, y4, y5, y6⟩
              · rw [y1, y2]
                exact w2
              · right
                rw [y5]
                have b1 := T.M.2 t
                have b2 := T.M.2 i
                exact (nI_ltI (by omega) (by omega)).mpr (T.M.1 i t hi (by omega))
            · by_cases hxj : x = j
              · exfalso
                rw [hxj, u3] at w6
                have e1 := (nI_eq (by omega) (by omega)).mp w6
                omega
              · omega
          · left
            refine fr _ _ ?_
            subst q1 w1
            unfold p_wr
            rw [if_pos (by
              rcases w2 with q | q
              · exact Or.inl q
              · exact Or.inr (Or.inl q))]
            exact ⟨by rw [q_sI_n (by omega), q_sI_e], q_sI_e⟩
end ZJ
