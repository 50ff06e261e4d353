/-! THE TWO READS: names, types and sorts -/
def zN (K : Nat → Nat) (e i : Nat) : Prop := i ≤ e ∧ K i = 40
/-- what is known of the tokens on both sides -/
def zTk (K P X : Nat → Nat) (V U : Nat → Int64) (e : Nat) : Prop := zPm P e ∧ (∀ i j, zN K e i → zN K e j → (V i = V j ↔ U i = U j)) ∧ ∀ i, i ≤ e → K i = 41 → (V i).toInt32 = nI (X i) ∧ X i < 2 ^ 31 ∧ (lg_cmp (V i) 1 ≤ 0 ↔ X i ≤ 1) ∧ (lg_cmp (V i) 100 ≤ 0 ↔ X i ≤ 100)
/-- two rows of so many names are names of the same tokens -/
def zna (K : Nat → Nat) (V U : Nat → Int64) (e : Nat) (f g : Nat → Int64) (n : Nat) : Prop := ∀ j, j < n → ∃ i, zN K e i ∧ f j = V i ∧ g j = U i
section ZT
variable {K P X : Nat → Nat} {V U : Nat → Int64} {e a c nt ns : Nat} {h k h' k' : q_Hp} {f g f' g' : Nat → Int64} {n : Nat}
theorem zTk.M (T : zTk K P X V U e) : zPm P e := T.1
theorem zna.eq (T : zTk K P X V U e) (Z : zna K V U e f g n) (ha : zN K e a) {j : Nat} (hj : j < n) : (f j == V a) = (g j == U a) := by
  obtain ⟨i, hi, q1, q2⟩ := Z j hj
  rw [q1, q2]
  by_cases h9 : V i = V a
  · rw [h9, (T.2.1 i a hi ha).mp h9, beq_self_eq_true, beq_self_eq_true]
  · rw [beq_false_of_ne h9, beq_false_of_ne (fun h8 => h9 ((T.2.1 i a hi ha).mpr h8))]
theorem zna.fi (T : zTk K P X V U e) (Z : zna K V U e f g n) (ha : zN K e a) : p_fi g n (U a) = p_fi f n (V a) := q_fst_ext n 0 (fun j _ h2 => (Z.eq T ha (by omega)).symm)
theorem zna.add (Z : zna K V U e f g n) (ha : zN K e a) (h1 : ∀ j, f' j = if j = n then V a else f j) (h2 : ∀ j, g' j = if j = n then U a else g j) : zna K V U e f' g' (n + 1) := by
  intro j hj
  by_cases h9 : j = n
  · exact ⟨a, ha, by rw [h1, if_pos h9], by rw [h2, if_pos h9]⟩
  · obtain ⟨i, hi, q1, q2⟩ := Z j (by omega)
    exact ⟨i, hi, by rw [h1, if_neg h9]; exact q1, by rw [h2, if_neg h9]; exact q2⟩
theorem zna.fr (Z : zna K V U e f g n) (h1 : ∀ j, j < n → f' j = f j) (h2 : ∀ j, j < n → g' j = g j) : zna K V U e f' g' n := by
  intro j hj
  rw [h1 j hj, h2 j hj]
  exact Z j hj
theorem g_dw_s {x j : Nat} : g_dw x (some j) h = g_fa 3 x h := if_neg (by simp)
theorem g_dw_0 {x : Nat} : g_dw x none h = h := if_pos rfl
theorem g_fw_s {x j : Nat} : g_fw x (some j) h = h := if_neg (by simp)
theorem g_fw_0 {x : Nat} : g_fw x none h = g_fa 4 x h := if_pos rfl
theorem p_dw_s {x j : Nat} : p_dw P x (some j) k = p_wr P 3 x k := if_neg (by simp)
theorem p_dw_0 {x : Nat} : p_dw P x none k = k := if_pos rfl
theorem p_fw_s {x j : Nat} : p_fw P x (some j) k = k := if_neg (by simp)
theorem p_fw_0 {x : Nat} : p_fw P x none k = p_wr P 4 x k := if_pos rfl
def zT (K : Nat → Nat) (V U : Nat → Int64) (e c nt ns : Nat) (h k : q_Hp) : Prop := nt ≤ 12 ∧ ns ≤ 12 ∧ qI h c 0 = nI nt ∧ qI k 630 18 = nI nt ∧ qI h c 1 = nI ns ∧ qI k 630 19 = nI ns ∧ zna K V U e (qL h 590) (qL k 674) nt ∧ zna K V U e (qL h 591) (qL k 675) ns ∧ (∀ j, j < nt → ∃ x, x ≤ j ∧ qA h (c + 1) j = oN x ∧ qA k 638 (12 + j) = oN x) ∧ ∀ j, j < ns → ∃ x y, x < nt ∧ y < nt ∧ qA h (c + 2) j = nI x ∧ qA h (c + 3) j = nI y ∧ qA k 639 (12 + j) = nI x ∧ qA k 640 (12 + j) = nI y
theorem zT.fr (Z : zT K V U e c nt ns h k) (i0 : qI h' c 0 = qI h c 0) (i1 : qI h' c 1 = qI h c 1) (j0 : qI k' 630 18 = qI k 630 18) (j1 : qI k' 630 19 = qI k 630 19) (l0 : qL h' 590 = qL h 590) (l1 : qL h' 591 = qL h 591) (m0 : qL k' 674 = qL k 674) (m1 : qL k' 675 = qL k 675) (a1 : qA h' (c + 1) = qA h (c + 1)) (a2 : qA h' (c + 2) = qA h (c + 2)) (a3 : qA h' (c + 3) = qA h (c + 3)) (b1 : qA k' 638 = qA k 638) (b2 : qA k' 639 = qA k 639) (b3 : qA k' 640 = qA k 640) : zT K V U e c nt ns h' k' := by
  unfold zT
  rw [i0, i1, j0, j1, l0, l1, m0, m1, a1, a2, a3, b1, b2, b3]
  exact Z
theorem y_ty_p {s : y_S} (hs : s.2 = 0) (hz : (y_ty K nt s).2 = 0) : nt < 12 ∧ K (s.1 + 1) = 40 ∧ ((K (s.1 + 2) = 1 ∧ K (s.1 + 3) = 40 ∧ y_ty K nt s = (s.1 + 5, 0)) ∨ (¬ K (s.1 + 2) = 1 ∧ y_ty K nt s = (s.1 + 3, 0))) := by
  have c2 := y_nd_z hz
  have t4 : y_to (y_nn K (decide (nt < 12)) (y_ps s)) (if y_is K 1 (y_nn K (decide (nt < 12)) (y_ps s)) = true then y_nd K 40 (y_ps (y_nn K (decide (nt < 12)) (y_ps s))) else y_nn K (decide (nt < 12)) (y_ps s)) := y_to.rf.ps.nd.ite y_to.rf
  obtain ⟨h1, h2, h3, h4, h5⟩ := y_hd (t4.2.1 c2)
  refine ⟨of_decide_eq_true h3, h2, ?_⟩
  have ei : y_is K 1 (s.1 + 2, 0) = decide (K (s.1 + 2) = 1) := by
    by_cases h9 : K (s.1 + 2) = 1
    · rw [decide_eq_true h9]
      exact y_is_c.mpr ⟨rfl, h9⟩
    · rw [decide_eq_false h9]
      exact Bool.eq_false_iff.mpr (fun h8 => h9 (y_is_c.mp h8).2)
  unfold y_ty at hz ⊢
  rw [h4, ei] at c2 hz ⊢
  by_cases h9 : K (s.1 + 2) = 1
  · rw [decide_eq_true h9, if_pos rfl] at c2 hz ⊢
    obtain ⟨q1, q2⟩ := y_pn_2 c2
    exact Or.inl ⟨h9, q2, (y_nd_p q1 hz).2⟩
  · rw [decide_eq_false h9, if_neg (by decide)] at c2 hz ⊢
    exact Or.inr ⟨h9, (y_nd_p rfl hz).2⟩
/-- a type more -/
theorem zT.ty {x : Nat} (Z : zT K V U e c nt ns h k) (hc : c = 11 ∨ c = 300) (hn : nt < 12) (hx : x ≤ nt) (ha : zN K e a) : zT K V U e c (nt + 1) ns (q_sI (q_sA (q_sL h 590 nt (V a)) (c + 1) nt (oN x)) c 0 (nI (nt + 1))) (q_sI (q_sL (q_sA k 638 (12 + nt) (oN x)) 674 nt (U a)) 630 18 (nI (nt + 1))) := by
  obtain ⟨z1, z2, z3, z4, z5, z6, z7, z8, z9, z10⟩ := Z
  refine ⟨by omega, z2, q_sI_e, q_sI_e, (q_sI_n (by omega)).trans z5, (q_sI_n (by omega)).trans z6, z7.add ha (fun j => ?_) (fun j => ?_), z8.fr (fun j _ => ?_) (fun j _ => ?_), fun j hj => ?_, fun j hj => ?_⟩
  · rw [qL_sI, qL_sA, qL_sL]
    by_cases h9 : j = nt
    · rw [if_pos ⟨rfl, h9⟩, if_pos h9]
    · rw [if_neg (fun q => h9 q.2), if_neg h9]
  · rw [qL_sI, qL_sL]
    by_cases h9 : j = nt
    · rw [if_pos ⟨rfl, h9⟩, if_pos h9]
    · rw [if_neg (fun q => h9 q.2), if_neg h9]
      rfl
  · rw [qL_sI, qL_sA, qL_sLn (by decide)]
  · rw [qL_sI, qL_sLn (by decide)]
    rfl
  · rw [qA_sI, qA_sA, qA_sL, qA_sI, qA_sL, qA_sA]
    by_cases h9 : j = nt
    · subst h9
      exact ⟨x, hx, by rw [if_pos ⟨rfl, rfl⟩], by rw [if_pos ⟨rfl, rfl⟩]⟩
    · obtain ⟨y, q1, q2, q3⟩ := z9 j (by omega)
      exact ⟨y, q1, by rw [if_neg (fun q => h9 q.2)]; exact q2, by rw [if_neg (fun q => h9 (by omega))]; exact q3⟩
  · rw [qA_sI, qA_sAn (by omega), qA_sAn (by omega), qA_sL, qA_sI, qA_sL, qA_sAn (by decide), qA_sAn (by decide)]
    obtain ⟨y, w, q1, q2, q3⟩ := z10 j hj
    exact ⟨y, w, by omega, by omega, q3⟩
theorem z_ty {s : y_S} (T : zTk K P X V U e) (hc : c = 11 ∨ c = 300) (Z : zT K V U e c nt ns h k) (O : zO h k) (hs : s.2 = 0) (hz : (y_ty K nt s).2 = 0) (he : (y_ty K nt s).1 ≤ e) : (zO (g_ty K V c nt s.1 h) (p_ty K P U nt s k) ∧ zT K V U e c (nt + 1) ns (g_ty K V c nt s.1 h) (p_ty K P U nt s k)) ∨ zB P e (y_ty K nt s).1 (g_ty K V c nt s.1 h) (p_ty K P U nt s k) := by
  obtain ⟨n12, k1, cs⟩ := y_ty_p hs hz
  have e3 : s.1 + 3 ≤ (y_ty K nt s).1 := by
    rcases cs with ⟨_, _, q⟩ | ⟨_, q⟩ <;> rw [q]
    · show s.1 + 3 ≤ s.1 + 5
      omega
    · exact Nat.le_refl _
  have N1 : zN K e (s.1 + 1) := ⟨by omega, k1⟩
  have f1 := Z.2.2.2.2.2.2.1.fi T N1
  have c9 : ¬ c = 589 := by omega
  unfold g_ty p_ty p_ty2 p_ty1
  rw [f1]
  cases hf1 : p_fi (qL h 590) nt (V (s.1 + 1)) with
  | some j =>
    right
    rw [g_dw_s, p_dw_s]
    refine zB.mk (h1 := h) (k1 := k) (n := 3) (i := s.1 + 1) T.M O (by decide) (by decide) (by omega) (by omega) ?_ O.1 p_LW.rf ?_
    · exact (((g_S.ite g_S.rf.fw g_S.rf).sL).sA).sI (by omega)
    · rcases cs with ⟨q, _, _⟩ | ⟨q, _⟩
      · rw [if_pos q]
        exact (((p_LW.rf.sA).fw (by omega)).sA).sL.sI (by decide) (by decide)
      · rw [if_neg q]
        exact (p_LW.rf.sA).sL.sI (by decide) (by decide)
  | none =>
    rw [g_dw_0, p_dw_0]
    rcases cs with ⟨q, k3, p⟩ | ⟨q, p⟩
    · have N3 : zN K e (s.1 + 3) := ⟨by omega, k3⟩
      have f3 := Z.2.2.2.2.2.2.1.fi T N3
      have p1 : (y_ty K nt s).1 = s.1 + 5 := by rw [p]
      rw [if_pos q, if_pos q, if_pos q, f3]
      cases hf3 : p_fi (qL h 590) nt (V (s.1 + 3)) with
      | none =>
        right
        rw [g_fw_0, p_fw_0]
        exact zB.mk (h1 := h) (k1 := q_sA k 638 (12 + nt) (-1)) (n := 4) (i := s.1 + 3) T.M O (by decide) (by decide) (by omega) (by omega) (g_S.rf.sL.sA.sI (by omega)) O.1 p_LW.rf.sA (p_LW.rf.sA.sL.sI (by decide) (by decide))
      | some t =>
        left
        have ht := (p_fi_lt hf3).1
        rw [g_fw_s, p_fw_s]
        have eo : q_on (some t) = oN (t + 1) := (oN_s t).symm
        rw [eo]
        have Z2 : zT K V U e c nt ns h (q_sA k 638 (12 + nt) (-1)) := by
          obtain ⟨z1, z2, z3, z4, z5, z6, z7, z8, z9, z10⟩ := Z
          refine ⟨z1, z2, z3, z4, z5, z6, z7, z8, fun j hj => ?_, fun j hj => ?_⟩
          · rw [qA_sA, if_neg (by omega)]
            exact z9 j hj
          · rw [qA_sAn (by decide), qA_sAn (by decide)]
            exact z10 j hj
        refine ⟨⟨?_, ?_⟩, Z2.ty hc n12 (by omega) N1⟩
        · rw [q_sI_n (by omega)]
          exact O.1
        · rw [q_sI_n (by omega)]
          exact O.2
    · rw [if_neg q, if_neg q, if_neg q]
      left
      refine ⟨⟨?_, ?_⟩, Z.ty (x := 0) hc n12 (by omega) N1⟩
      · rw [q_sI_n (by omega)]
        exact O.1
      · rw [q_sI_n (by omega)]
        exact O.2
theorem y_so_p {s : y_S} (hz : (y_so K ns s).2 = 0) : ns < 12 ∧ K (s.1 + 1) = 40 ∧ K (s.1 + 3) = 40 ∧ K (s.1 + 5) = 40 ∧ y_so K ns s = (s.1 + 7, 0) := by
  have a5 : (y_nd K 40 (y_nd K 39 (y_nd K 40 (y_nd K 25 (y_nn K (decide (ns < 12)) (y_ps s)))))).2 = 0 := y_nd_z hz
  have a4 := y_nd_z a5
  have a3 := y_nd_z a4
  have a2 := y_nd_z a3
  have a1 := y_nd_z a2
  obtain ⟨h1, h2, h3, h4, h5⟩ := y_hd a1
  obtain ⟨b2, p2⟩ := y_nd_p h4 a2
  obtain ⟨b3, p3⟩ := y_nd_p p2 a3
  obtain ⟨b4, p4⟩ := y_nd_p p3 a4
  obtain ⟨b5, p5⟩ := y_nd_p p4 a5
  obtain ⟨b6, p6⟩ := y_nd_p p5 hz
  exact ⟨of_decide_eq_true h3, h2, b3, b5, p6⟩
theorem z_so {s : y_S} (T : zTk K P X V U e) (hc : c = 11 ∨ c = 300) (Z : zT K V U e c nt ns h k) (O : zO h k) (hz : (y_so K ns s).2 = 0) (he : (y_so K ns s).1 ≤ e) : (zO (g_so V c nt ns s.1 h) (p_so P U nt ns s k) ∧ zT K V U e c nt (ns + 1) (g_so V c nt ns s.1 h) (p_so P U nt ns s k)) ∨ zB P e (y_so K ns s).1 (g_so V c nt ns s.1 h) (p_so P U nt ns s k) := by
  obtain ⟨n12, k1, k3, k5, p⟩ := y_so_p hz
  have p1 : (y_so K ns s).1 = s.1 + 7 := by rw [p]
  have N1 : zN K e (s.1 + 1) := ⟨by omega, k1⟩
  have N3 : zN K e (s.1 + 3) := ⟨by omega, k3⟩
  have N5 : zN K e (s.1 + 5) := ⟨by omega, k5⟩
  have f1 := Z.2.2.2.2.2.2.2.1.fi T N1
  have f3 := Z.2.2.2.2.2.2.1.fi T N3
  have f5 := Z.2.2.2.2.2.2.1.fi T N5
  have c9 : ¬ c = 589 := by omega
  unfold g_so p_so p_so1
  rw [f1, f3, f5]
  cases hf1 : p_fi (qL h 591) ns (V (s.1 + 1)) with
  | some j =>
    right
    rw [g_dw_s, p_dw_s]
    exact zB.mk (h1 := h) (k1 := k) (n := 3) (i := s.1 + 1) T.M O (by decide) (by decide) (by omega) (by omega) (g_S.rf.fw.fw.sL.sA.sA.sI (by omega)) O.1 p_LW.rf ((((p_LW.rf.fw (by omega)).sA.fw (by omega)).sA.sL).sI (by decide) (by decide))
  | none =>
    rw [g_dw_0, p_dw_0]
    cases hf3 : p_fi (qL h 590) nt (V (s.1 + 3)) with
    | none =>
      right
      rw [g_fw_0, p_fw_0]
      exact zB.mk (h1 := h) (k1 := k) (n := 4) (i := s.1 + 3) T.M O (by decide) (by decide) (by omega) (by omega) (g_S.rf.fw.sL.sA.sA.sI (by omega)) O.1 p_LW.rf ((((p_LW.rf.sA).fw (by omega)).sA.sL).sI (by decide) (by decide))
    | some x =>
      rw [g_fw_s, p_fw_s]
      cases hf5 : p_fi (qL h 590) nt (V (s.1 + 5)) with
      | none =>
        right
        rw [g_fw_0, p_fw_0]
        exact zB.mk (h1 := h) (k1 := q_sA k 639 (12 + ns) (q_on (some x))) (n := 4) (i := s.1 + 5) T.M O (by decide) (by decide) (by omega) (by omega) (g_S.rf.sL.sA.sA.sI (by omega)) O.1 p_LW.rf.sA (p_LW.rf.sA.sL.sI (by decide) (by decide))
      | some y =>
        left
        have hx := (p_fi_lt hf3).1
        have hy := (p_fi_lt hf5).1
        rw [g_fw_s, p_fw_s]
        show zO (q_sI (q_sA (q_sA (q_sL h 591 ns (V (s.1 + 1))) (c + 2) ns (nI x)) (c + 3) ns (nI y)) c 1 (nI (ns + 1))) (q_sI (q_sL (q_sA (q_sA k 639 (12 + ns) (nI x)) 640 (12 + ns) (nI y)) 675 ns (U (s.1 + 1))) 630 19 (nI (ns + 1))) ∧ zT K V U e c nt (ns + 1) (q_sI (q_sA (q_sA (q_sL h 591 ns (V (s.1 + 1))) (c + 2) ns (nI x)) (c + 3) ns (nI y)) c 1 (nI (ns + 1))) (q_sI (q_sL (q_sA (q_sA k 639 (12 + ns) (nI x)) 640 (12 + ns) (nI y)) 675 ns (U (s.1 + 1))) 630 19 (nI (ns + 1)))
        obtain ⟨z1, z2, z3, z4, z5, z6, z7, z8, z9, z10⟩ := Z
        refine ⟨⟨?_, ?_⟩, z1, by omega, (q_sI_n (by omega)).trans z3, (q_sI_n (by omega)).trans z4, q_sI_e, q_sI_e, z7.fr (fun j _ => ?_) (fun j _ => ?_), z8.add N1 (fun j => ?_) (fun j => ?_), fun j hj => ?_, fun j hj => ?_⟩
        · rw [q_sI_n (by omega)]
          exact O.1
        · rw [q_sI_n (by omega)]
          exact O.2
        · rw [qL_sI, qL_sA, qL_sA, qL_sLn (by decide)]
        · rw [qL_sI, qL_sLn (by decide)]
          rfl
        · rw [qL_sI, qL_sA, qL_sA, qL_sL]
          by_cases h9 : j = ns
          · rw [if_pos ⟨rfl, h9⟩, if_pos h9]
          · rw [if_neg (fun q => h9 q.2), if_neg h9]
        · rw [qL_sI, qL_sL]
          by_cases h9 : j = ns
          · rw [if_pos ⟨rfl, h9⟩, if_pos h9]
          · rw [if_neg (fun q => h9 q.2), if_neg h9]
            rfl
        · rw [qA_sI, qA_sAn (by omega), qA_sAn (by omega), qA_sL, qA_sI, qA_sL, qA_sAn (by decide), qA_sAn (by decide)]
          exact z9 j hj
        · by_cases h9 : j = ns
          · subst h9
            refine ⟨x, y, hx, hy, ?_, ?_, ?_, ?_⟩
            · rw [qA_sI, qA_sAn (by omega), qA_sA, if_pos ⟨rfl, rfl⟩]
            · rw [qA_sI, qA_sA, if_pos ⟨rfl, rfl⟩]
            · rw [qA_sI, qA_sL, qA_sAn (by decide), qA_sA, if_pos ⟨rfl, rfl⟩]
            · rw [qA_sI, qA_sL, qA_sA, if_pos ⟨rfl, rfl⟩]
          · obtain ⟨u, w, q1, q2, q3, q4, q5, q6⟩ := z10 j (by omega)
            refine ⟨u, w, q1, q2, ?_, ?_, ?_, ?_⟩
            · rw [qA_sI, qA_sAn (by omega), qA_sA, if_neg (fun q => h9 q.2), qA_sL]
              exact q3
            · rw [qA_sI, qA_sA, if_neg (fun q => h9 q.2), qA_sAn (by omega), qA_sL]
              exact q4
            · rw [qA_sI, qA_sL, qA_sAn (by decide), qA_sA, if_neg (fun q => h9 (by omega))]
              exact q5
            · rw [qA_sI, qA_sL, qA_sA, if_neg (fun q => h9 (by omega)), qA_sAn (by decide)]
              exact q6
end ZT
