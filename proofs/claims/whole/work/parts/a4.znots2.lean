/-! THE TWO READS: all that must not be -/
section ZX
variable {K P X : Nat → Nat} {V U : Nat → Int64} {e t c o q nt ns n l m a r x n' l' y i v : Nat} {h k h' k' : q_Hp} {s : y_S}
/-- a link of a NOT -/
theorem zS2n.nk (T : zTk K P X V U e) (hc : c = 11 ∨ c = 300) (hO : q_isO o) (Z : zS2n K V U e c o (20 + r) nt ns n l x n' l' y h k) (h3 : l' < 3) {so x1 x2 : Nat} (hso : so < ns) (hx1 : x1 < n ∨ (x1 = 4 ∧ ¬ n' = 0)) (hx2 : x2 < n ∨ (x2 = 4 ∧ ¬ n' = 0)) (N1 : zN K e t) (hf1 : p_fi (qL h 592) (n + l + n' + l') (V t) = none) : zS2n K V U e c o (20 + r) nt ns n l x n' (l' + 1) y (g_tl (n + l + n' + l') (V t) 2 (-1) (-1) (q_sA (g_lk o (6 + 3 * x + l') (nI so) (nI x1) (nI x2) h) (o + 3) x (nI (l' + 1)))) (q_sA (p_tl P U t (n + l + n' + l') 1 (nI (6 + l')) (-1) (q_sA (q_sA (q_sA k 652 (3 * (2 * (20 + r) + x) + l') (nI x1)) 651 (3 * (2 * (20 + r) + x) + l') (nI so)) 653 (3 * (2 * (20 + r) + x) + l') (nI x2))) 650 (2 * (20 + r) + x) (nI (l' + 1))) := by
  obtain ⟨O, ZT, ZL, ⟨w1, w2, w3, w4⟩, ⟨i2, b8⟩, ⟨x4, xe⟩, ZM, G, Lk, MM⟩ := Z
  have hn := hO.n
  have hne := hO.ne
  have f1 := ZM.fi T N1
  have e1 : n + l + n' + (l' + 1) = n + l + n' + l' + 1 := by omega
  have G3 : g_K c o [] [3, 4, 5, 6] h (q_sA (g_lk o (6 + 3 * x + l') (nI so) (nI x1) (nI x2) h) (o + 3) x (nI (l' + 1))) := (g_K.rf.lk (by decide) (by decide) (by decide)).sO (by decide)
  unfold g_lk at *
  have Ih : ∀ z j, qI (q_sA (q_sA (q_sA (q_sA h (o + 4) (6 + 3 * x + l') (nI so)) (o + 5) (6 + 3 * x + l') (nI x1)) (o + 6) (6 + 3 * x + l') (nI x2)) (o + 3) x (nI (l' + 1))) z j = qI h z j := fun z j => by rw [qI_sA, qI_sA, qI_sA, qI_sA]
  have Ll : qL (q_sA (q_sA (q_sA (q_sA h (o + 4) (6 + 3 * x + l') (nI so)) (o + 5) (6 + 3 * x + l') (nI x1)) (o + 6) (6 + 3 * x + l') (nI x2)) (o + 3) x (nI (l' + 1))) = qL h := by rw [qL_sA, qL_sA, qL_sA, qL_sA]
  have Ah : ∀ z, ¬ z = o + 3 → ¬ z = o + 4 → ¬ z = o + 5 → ¬ z = o + 6 → qA (q_sA (q_sA (q_sA (q_sA h (o + 4) (6 + 3 * x + l') (nI so)) (o + 5) (6 + 3 * x + l') (nI x1)) (o + 6) (6 + 3 * x + l') (nI x2)) (o + 3) x (nI (l' + 1))) z = qA h z := fun z q0 q1 q2 q3 => by rw [qA_sAn q0, qA_sAn q3, qA_sAn q2, qA_sAn q1]
  have a3 : ∀ i, qA (q_sA (q_sA (q_sA (q_sA h (o + 4) (6 + 3 * x + l') (nI so)) (o + 5) (6 + 3 * x + l') (nI x1)) (o + 6) (6 + 3 * x + l') (nI x2)) (o + 3) x (nI (l' + 1))) (o + 3) i = if i = x then nI (l' + 1) else qA h (o + 3) i := fun i => by
    rw [qA_sA, qA_sAn (by omega), qA_sAn (by omega), qA_sAn (by omega)]
    by_cases h9 : i = x
    · rw [if_pos ⟨rfl, h9⟩, if_pos h9]
    · rw [if_neg (fun q => h9 q.2), if_neg h9]
  have a4 : ∀ i, qA (q_sA (q_sA (q_sA (q_sA h (o + 4) (6 + 3 * x + l') (nI so)) (o + 5) (6 + 3 * x + l') (nI x1)) (o + 6) (6 + 3 * x + l') (nI x2)) (o + 3) x (nI (l' + 1))) (o + 4) i = if i = 6 + 3 * x + l' then nI so else qA h (o + 4) i := fun i => by
    rw [qA_sAn (by omega), qA_sAn (by omega), qA_sAn (by omega), qA_sA]
    by_cases h9 : i = 6 + 3 * x + l'
    · rw [if_pos ⟨rfl, h9⟩, if_pos h9]
    · rw [if_neg (fun q => h9 q.2), if_neg h9]
  have a5 : ∀ i, qA (q_sA (q_sA (q_sA (q_sA h (o + 4) (6 + 3 * x + l') (nI so)) (o + 5) (6 + 3 * x + l') (nI x1)) (o + 6) (6 + 3 * x + l') (nI x2)) (o + 3) x (nI (l' + 1))) (o + 5) i = if i = 6 + 3 * x + l' then nI x1 else qA h (o + 5) i := fun i => by
    rw [qA_sAn (by omega), qA_sAn (by omega), qA_sA, qA_sAn (by omega)]
    by_cases h9 : i = 6 + 3 * x + l'
    · rw [if_pos ⟨rfl, h9⟩, if_pos h9]
    · rw [if_neg (fun q => h9 q.2), if_neg h9]
  have a6 : ∀ i, qA (q_sA (q_sA (q_sA (q_sA h (o + 4) (6 + 3 * x + l') (nI so)) (o + 5) (6 + 3 * x + l') (nI x1)) (o + 6) (6 + 3 * x + l') (nI x2)) (o + 3) x (nI (l' + 1))) (o + 6) i = if i = 6 + 3 * x + l' then nI x2 else qA h (o + 6) i := fun i => by
    rw [qA_sAn (by omega), qA_sA, qA_sAn (by omega), qA_sAn (by omega)]
    by_cases h9 : i = 6 + 3 * x + l'
    · rw [if_pos ⟨rfl, h9⟩, if_pos h9]
    · rw [if_neg (fun q => h9 q.2), if_neg h9]
  generalize q_sA (q_sA (q_sA (q_sA h (o + 4) (6 + 3 * x + l') (nI so)) (o + 5) (6 + 3 * x + l') (nI x1)) (o + 6) (6 + 3 * x + l') (nI x2)) (o + 3) x (nI (l' + 1)) = h3 at *
  have K3 : p_K P 0 [68] [650, 651, 652, 653, 679, 680, 681, 682] k (q_sA (q_sA (q_sA k 652 (3 * (2 * (20 + r) + x) + l') (nI x1)) 651 (3 * (2 * (20 + r) + x) + l') (nI so)) 653 (3 * (2 * (20 + r) + x) + l') (nI x2)) := ((p_K.rf.sA (by decide)).sA (by decide)).sA (by decide)
  have Ik : ∀ j, qI (q_sA (q_sA (q_sA k 652 (3 * (2 * (20 + r) + x) + l') (nI x1)) 651 (3 * (2 * (20 + r) + x) + l') (nI so)) 653 (3 * (2 * (20 + r) + x) + l') (nI x2)) 630 j = qI k 630 j := fun j => by rw [qI_sA, qI_sA, qI_sA]
  have Lk2 : qL (q_sA (q_sA (q_sA k 652 (3 * (2 * (20 + r) + x) + l') (nI x1)) 651 (3 * (2 * (20 + r) + x) + l') (nI so)) 653 (3 * (2 * (20 + r) + x) + l') (nI x2)) = qL k := by rw [qL_sA, qL_sA, qL_sA]
  have Ak : ∀ z, ¬ z = 651 → ¬ z = 652 → ¬ z = 653 → qA (q_sA (q_sA (q_sA k 652 (3 * (2 * (20 + r) + x) + l') (nI x1)) 651 (3 * (2 * (20 + r) + x) + l') (nI so)) 653 (3 * (2 * (20 + r) + x) + l') (nI x2)) z = qA k z := fun z q1 q2 q3 => by rw [qA_sAn q3, qA_sAn q1, qA_sAn q2]
  have c1 : ∀ i, qA (q_sA (q_sA (q_sA k 652 (3 * (2 * (20 + r) + x) + l') (nI x1)) 651 (3 * (2 * (20 + r) + x) + l') (nI so)) 653 (3 * (2 * (20 + r) + x) + l') (nI x2)) 651 i = if i = 3 * (2 * (20 + r) + x) + l' then nI so else qA k 651 i := fun i => by
    rw [qA_sAn (by decide), qA_sA, qA_sAn (by decide)]
    by_cases h9 : i = 3 * (2 * (20 + r) + x) + l'
    · rw [if_pos ⟨rfl, h9⟩, if_pos h9]
    · rw [if_neg (fun q => h9 q.2), if_neg h9]
  have c2 : ∀ i, qA (q_sA (q_sA (q_sA k 652 (3 * (2 * (20 + r) + x) + l') (nI x1)) 651 (3 * (2 * (20 + r) + x) + l') (nI so)) 653 (3 * (2 * (20 + r) + x) + l') (nI x2)) 652 i = if i = 3 * (2 * (20 + r) + x) + l' then nI x1 else qA k 652 i := fun i => by
    rw [qA_sAn (by decide), qA_sAn (by decide), qA_sA]
    by_cases h9 : i = 3 * (2 * (20 + r) + x) + l'
    · rw [if_pos ⟨rfl, h9⟩, if_pos h9]
    · rw [if_neg (fun q => h9 q.2), if_neg h9]
  have c3 : ∀ i, qA (q_sA (q_sA (q_sA k 652 (3 * (2 * (20 + r) + x) + l') (nI x1)) 651 (3 * (2 * (20 + r) + x) + l') (nI so)) 653 (3 * (2 * (20 + r) + x) + l') (nI x2)) 653 i = if i = 3 * (2 * (20 + r) + x) + l' then nI x2 else qA k 653 i := fun i => by
    rw [qA_sA, qA_sAn (by decide), qA_sAn (by decide)]
    by_cases h9 : i = 3 * (2 * (20 + r) + x) + l'
    · rw [if_pos ⟨rfl, h9⟩, if_pos h9]
    · rw [if_neg (fun q => h9 q.2), if_neg h9]
  generalize q_sA (q_sA (q_sA k 652 (3 * (2 * (20 + r) + x) + l') (nI x1)) 651 (3 * (2 * (20 + r) + x) + l') (nI so)) 653 (3 * (2 * (20 + r) + x) + l') (nI x2) = k3 at *
  have ZM1 : zM K V U e (fun z => z < n ∨ (z = 4 ∧ ¬ n' = 0)) false l 0 (n + l + n' + l') h3 k3 := ZM.fr (Ih _ _) (Ik _) (by rw [Ll]) (by rw [Lk2]) (fun z hz => Ah z (by omega) (by omega) (by omega) (by omega)) (fun z hz => Ak z (by omega) (by omega) (by omega))
  have ZM2 := ZM1.tl (P := P) (kd := 2) (nu := -1) (ty := -1) (kd' := 1) (nu' := nI (6 + l')) T N1 (by rw [Ll]; exact hf1) (Or.inr (Or.inl ⟨rfl, rfl, fun q => by cases q⟩))
  have I3 : qI (p_tl P U t (n + l + n' + l') 1 (nI (6 + l')) (-1) k3) 630 15 = 0 := by
    unfold p_tl
    rw [Lk2, f1, hf1, p_dw_0, q_sI_n (by omega), qI_sA, qI_sA, qI_sA, qI_sA, qI_sL]
    exact (Ik 15).trans O.2
  have i68 : ∀ {i : Nat}, (¬ i = 679 ∧ ¬ i = 680 ∧ ¬ i = 681 ∧ ¬ i = 682) → qA (p_tl P U t (n + l + n' + l') 1 (nI (6 + l')) (-1) k3) i = qA k3 i := fun q => p_tl_A q
  have ol : ∀ j, j < n + l → zMe K V U e (fun z => z < n) true l 0 (g_tl (n + l + n' + l') (V t) 2 (-1) (-1) h3) (p_tl P U t (n + l + n' + l') 1 (nI (6 + l')) (-1) k3) j := by
    intro j hj
    obtain ⟨r1, r2, r3, r4, r5⟩ := g_tl_r (m := n + l + n' + l') (v := V t) (kd := 2) (nu := -1) (ty := -1) (h := h3) (j := j)
    have nj : ¬ j = n + l + n' + l' := by omega
    refine (MM j hj).fr (fun _ q => q) (Nat.le_refl _) (Nat.le_refl _) (by rw [r1, if_neg nj, Ll]) (by rw [p_tl_678, if_neg nj, Lk2]) (fun z hz => ?_) (fun z hz => ?_)
    · rcases hz with rfl | rfl | rfl | rfl
      · rw [r2, if_neg nj, Ah _ (by omega) (by omega) (by omega) (by omega)]
      · rw [r3, if_neg nj, Ah _ (by omega) (by omega) (by omega) (by omega)]
      · rw [r4, if_neg nj, Ah _ (by omega) (by omega) (by omega) (by omega)]
      · rw [r5, if_neg nj, Ah _ (by omega) (by omega) (by omega) (by omega)]
    · rcases hz with rfl | rfl | rfl | rfl
      · rw [p_tl_679, if_neg nj, Ak _ (by decide) (by decide) (by decide)]
      · rw [p_tl_680, if_neg nj, Ak _ (by decide) (by decide) (by decide)]
      · rw [p_tl_681, if_neg nj, Ak _ (by decide) (by decide) (by decide)]
      · rw [p_tl_682, if_neg nj, Ak _ (by decide) (by decide) (by decide)]
  have K4 : p_K P 0 [68] [650, 651, 652, 653, 679, 680, 681, 682] k (p_tl P U t (n + l + n' + l') 1 (nI (6 + l')) (-1) k3) := K3.tl (Nat.zero_le _) (by decide) (by decide) (by decide) (by decide) (by decide)
  have ZT' := ZT.kp (b := 0) (P := P) (F := []) (D := [3, 4, 5, 6]) (J := [68]) (E := [650, 651, 652, 653, 679, 680, 681, 682]) hO hc (G3.tl (m := n + l + n' + l') (v := V t) (kd := 2) (nu := -1) (ty := -1)) (K4.sA (y := 650) (i := 2 * (20 + r) + x) (v := nI (l' + 1)) (by decide)) (by decide) (by decide) (by decide)
  generalize hk4 : p_tl P U t (n + l + n' + l') 1 (nI (6 + l')) (-1) k3 = k4 at *
  have s50 : ∀ i, qA (q_sA k4 650 (2 * (20 + r) + x) (nI (l' + 1))) 650 i = if i = 2 * (20 + r) + x then nI (l' + 1) else qA k 650 i := fun i => by
    rw [qA_sA, i68 (by decide), Ak _ (by decide) (by decide) (by decide)]
    by_cases h9 : i = 2 * (20 + r) + x
    · rw [if_pos ⟨rfl, h9⟩, if_pos h9]
    · rw [if_neg (fun q => h9 q.2), if_neg h9]
  have s5n : ∀ z, ¬ z = 650 → (¬ z = 679 ∧ ¬ z = 680 ∧ ¬ z = 681 ∧ ¬ z = 682) → qA (q_sA k4 650 (2 * (20 + r) + x) (nI (l' + 1))) z = qA k3 z := fun z q1 q2 => (qA_sAn q1).trans (i68 q2)
  refine ⟨⟨?_, by rw [qI_sA]; exact I3⟩, ZT', ZL.fr ?_ ?_ ?_ ?_ (fun i hi => ?_) (fun z z1 z2 => ?_), ⟨w1, w2, w3, w4⟩, ⟨?_, ?_⟩, ⟨fun i hi => ?_, ?_⟩, ?_, (zG.tl (G.fr (Ah _ (by omega) (by omega) (by omega) (by omega)))).me e1, ?_, ?_⟩
  · rw [g_tl_I (by omega), Ih]
    exact O.1
  · rw [g_tl_I (by omega), Ih]
  · rw [g_tl_I (by omega), Ih]
  · rw [g_tl_I (by omega), Ih]
  · rw [g_tl_A (by omega), Ah _ (by omega) (by omega) (by omega) (by omega)]
  · rw [g_tl_A (by omega), g_tl_A (by omega), g_tl_A (by omega), a4, a5, a6, if_neg (by omega), if_neg (by omega), if_neg (by omega)]
    exact ⟨rfl, rfl, rfl⟩
  · rw [s5n _ (by omega) (by omega), Ak _ (by omega) (by omega) (by omega)]
  · rw [g_tl_I (by omega), Ih]
    exact i2
  · rw [s5n _ (by decide) (by decide), Ak _ (by decide) (by decide) (by decide)]
    exact b8
  · obtain ⟨y', v', q⟩ := x4 i hi
    refine ⟨y', v', q.fr ?_ ?_ ?_ ?_ (fun z hz j hj => ?_) (fun z hz j hj => ?_)⟩
    · rw [g_tl_A (by omega), Ah _ (by omega) (by omega) (by omega) (by omega)]
    · rw [g_tl_A (by omega), a3, if_neg (by omega)]
    · rw [s5n _ (by decide) (by decide), Ak _ (by decide) (by decide) (by decide)]
    · rw [s50, if_neg (by omega)]
    · rw [g_tl_A (by omega)]
      rcases hz with rfl | rfl | rfl
      · rw [a4, if_neg (by omega)]
      · rw [a5, if_neg (by omega)]
      · rw [a6, if_neg (by omega)]
    · rw [s5n _ (by omega) (by omega)]
      rcases hz with rfl | rfl | rfl
      · rw [c1, if_neg (by omega)]
      · rw [c2, if_neg (by omega)]
      · rw [c3, if_neg (by omega)]
  · obtain ⟨y1, y2, y3, y4, y5, y6, y7⟩ := xe
    refine ⟨y1, by omega, ?_, ?_, ?_, ?_, fun j hj => ?_⟩
    · rw [g_tl_A (by omega), Ah _ (by omega) (by omega) (by omega) (by omega)]
      exact y3
    · rw [s5n _ (by decide) (by decide), Ak _ (by decide) (by decide) (by decide)]
      exact y4
    · rw [g_tl_A (by omega), a3, if_pos rfl]
    · rw [s50, if_pos rfl]
    · rw [g_tl_A (by omega), g_tl_A (by omega), g_tl_A (by omega), s5n _ (by decide) (by decide), s5n _ (by decide) (by decide), s5n _ (by decide) (by decide), a4, a5, a6, c1, c2, c3]
      by_cases h9 : j = l'
      · rw [if_pos (by omega), if_pos (by omega), if_pos (by omega), if_pos (by omega), if_pos (by omega), if_pos (by omega)]
        exact ⟨so, x1, x2, hso, hx1.imp id (fun q => ⟨q.1, w4 q.2⟩), hx2.imp id (fun q => ⟨q.1, w4 q.2⟩), rfl, rfl, rfl, rfl, rfl, rfl⟩
      · rw [if_neg (by omega), if_neg (by omega), if_neg (by omega), if_neg (by omega), if_neg (by omega), if_neg (by omega)]
        exact y7 j (by omega)
  · rw [e1]
    exact ZM2.sAk (by decide)
  · refine ⟨fun z hz => ?_, fun i j hi hj => ?_⟩
    · obtain ⟨j, q1, q2, q3⟩ := Lk.1 z hz
      refine ⟨j, q1, ?_, ?_⟩
      · rw [g_tl_r.2.1, if_neg (by omega), Ah _ (by omega) (by omega) (by omega) (by omega)]; exact q2
      · rw [g_tl_r.2.2.1, if_neg (by omega), Ah _ (by omega) (by omega) (by omega) (by omega)]; exact q3
    · rw [g_tl_r.2.1, g_tl_r.2.1, g_tl_r.2.2.1, g_tl_r.2.2.1, if_neg (by omega), if_neg (by omega), if_neg (by omega), if_neg (by omega), Ah _ (by omega) (by omega) (by omega) (by omega), Ah _ (by omega) (by omega) (by omega) (by omega)]
      exact Lk.2 i j hi hj
  · intro j hj
    exact (ol j hj).fr (fun _ q => q) (Nat.le_refl _) (Nat.le_refl _) rfl (by rw [qL_sA]) (fun _ _ => rfl) (fun z hz => by rw [qA_sAn (by omega)])
theorem z_nn (T : zTk K P X V U e) (hc : c = 11 ∨ c = 300) (hO : q_isO o) (Z : zS2n K V U e c o (20 + r) nt ns n l x n' l' y h k) (h4 : n' < 1) (he : s.1 + 5 ≤ e) (k1 : K (s.1 + 1) = 40) (k3 : K (s.1 + 3) = 40) : (∃ y', zS2n K V U e c o (20 + r) nt ns n l x (n' + 1) l' y' (g_nn V nt o x (n + l + n' + l') s.1 h) (p_nn P U nt (2 * (20 + r) + x) (n + l + n' + l') s k)) ∨ zB P e (s.1 + 5) (g_nn V nt o x (n + l + n' + l') s.1 h) (p_nn P U nt (2 * (20 + r) + x) (n + l + n' + l') s k) := by
  obtain ⟨O, ZT, ZL, W, I2, XX, ZM, G, Lk, MM⟩ := id Z
  have hn := hO.n
  have N1 : zN K e (s.1 + 1) := ⟨by omega, k1⟩
  have N3 : zN K e (s.1 + 3) := ⟨by omega, k3⟩
  have f1 := ZM.fi T N1
  have f3 := ZT.2.2.2.2.2.2.1.fi T N3
  have e2 : ∀ o1 k0, qL (p_fw P (s.1 + 3) o1 k0) = qL k0 := fun _ k0 => p_fw_L
  unfold g_nn p_nn g_n1
  cases hf1 : p_fi (qL h 592) (n + l + n' + l') (V (s.1 + 1)) with
  | some j =>
    right
    unfold p_tl
    rw [g_dw_s, qL_sA, e2, f1, hf1, p_dw_s]
    refine zB.mk (h1 := h) (k1 := q_sA (p_fw P (s.1 + 3) (p_fi (qL k 674) nt (U (s.1 + 3))) k) 649 (2 * (20 + r) + x) (q_on (p_fi (qL k 674) nt (U (s.1 + 3))))) (n := 3) (i := s.1 + 1) T.M O (by decide) (by decide) (by omega) (by omega) ?_ O.1 (p_LW.rf.fw (by omega)).sA ?_
    · exact (g_S.rf.fw.sA).tl
    · exact p_LW.rf.sL.sA.sA.sA.sA.sI (by decide) (by decide)
  | none =>
    cases hf3 : p_fi (qL h 590) nt (V (s.1 + 3)) with
    | none =>
      right
      unfold p_tl
      rw [g_dw_0, f3, hf3, g_fw_0, p_fw_0, qL_sA, p_wr_L, f1, hf1, p_dw_0]
      exact zB.mk (h1 := h) (k1 := k) (n := 4) (i := s.1 + 3) T.M O (by decide) (by decide) (by omega) (by omega) (g_S.rf.sA.tl) O.1 p_LW.rf (p_LW.rf.sA.sL.sA.sA.sA.sA.sI (by decide) (by decide))
    | some ty =>
      left
      have := zS2n.nn (P := P) T hc hO Z h4 (p_fi_lt hf3).1 N1 hf1
      rw [g_dw_0, f3, hf3, g_fw_s, p_fw_s]
      exact ⟨_, this⟩
theorem z_nk (T : zTk K P X V U e) (hc : c = 11 ∨ c = 300) (hO : q_isO o) (Z : zS2n K V U e c o (20 + r) nt ns n l x n' l' y h k) (h3 : l' < 3) (he : s.1 + 9 ≤ e) (k1 : K (s.1 + 1) = 40) (k3 : K (s.1 + 3) = 40) (k5 : K (s.1 + 5) = 40) (k7 : K (s.1 + 7) = 40) : zS2n K V U e c o (20 + r) nt ns n l x n' (l' + 1) y (g_nk V ns o x l' (n + l + n' + l') s.1 h) (p_nk P U ns (2 * (20 + r) + x) l' (n + l + n' + l') s k) ∨ zB P e (s.1 + 9) (g_nk V ns o x l' (n + l + n' + l') s.1 h) (p_nk P U ns (2 * (20 + r) + x) l' (n + l + n' + l') s k) := by
  obtain ⟨O, ZT, ZL, W, I2, XX, ZM, G, Lk, MM⟩ := id Z
  have hn := hO.n
  have N1 : zN K e (s.1 + 1) := ⟨by omega, k1⟩
  rcases z_l3 (qq := 3 * (2 * (20 + r) + x) + l') (rs := 651) (rf := 652) (rt := 653) T ZT ZM G O he k1 k3 k5 k7 (by decide) with ⟨hf1, j1, so, j2, hf3, hf5, hf7, eg, ep⟩ | Z3
  · left
    have hso := (p_fi_lt hf5).1
    obtain ⟨_, _, _, x1, d1, d2, d3⟩ := ZM.nd hf3
    obtain ⟨_, _, _, x2, d4, d5, d6⟩ := ZM.nd hf7
    have u1 : g_nu (some j1) h = nI x1 := d2
    have u2 : g_nu (some j2) h = nI x2 := d5
    have := zS2n.nk (P := P) T hc hO Z h3 hso d1 d4 N1 hf1
    unfold g_nk p_nk
    rw [hf3, hf5, hf7, eg, ep, u1, u2, d3, d6]
    exact this
  · right
    unfold g_nk p_nk
    refine Z3 _ _ ((g_S.rf.lk).sA.tl) ?_
    unfold p_tl
    exact (p_LW.rf.sL.sA.sA.sA.sA.sI (by decide) (by decide)).sA
/-- all of a NOT but its ends -/
theorem z_nl (T : zTk K P X V U e) (hc : c = 11 ∨ c = 300) (hO : q_isO o) : ∀ m n' l' y (s : y_S) h k, zS2n K V U e c o (20 + r) nt ns n l x n' l' y h k → (y_le K 1 3 false m n' l' s).2 = 0 → (y_le K 1 3 false m n' l' s).1 ≤ e → (∃ n2 l2 y2, zS2n K V U e c o (20 + r) nt ns n l x n2 l2 y2 (g_nl K V nt ns o x (n + l) m n' l' s h) (p_nl K P U nt ns (2 * (20 + r) + x) (n + l) m n' l' s k)) ∨ zB P e (y_le K 1 3 false m n' l' s).1 (g_nl K V nt ns o x (n + l) m n' l' s h) (p_nl K P U nt ns (2 * (20 + r) + x) (n + l) m n' l' s k) := by
  have ho := hO.n
  intro m
  induction m with
  | zero => intro n' l' y s h k Z _ _; exact Or.inl ⟨n', l', y, Z⟩
  | succ m ih =>
    intro n' l' y s h k Z hz he
    unfold y_le at hz he ⊢
    unfold g_nl p_nl
    by_cases c6 : y_is K 6 s = true
    · rw [if_pos c6] at hz he
      rw [if_pos c6, if_pos c6, if_pos c6]
      have t1 := y_to.le (K := K) (nr := 1) (lr := 3) (cm := false) m (n' + 1) l' _ _ (y_to.rf (s := y_no K (decide (n' < 1)) s))
      obtain ⟨p1, p2, p3, p4⟩ := y_no_5 (t1.2.1 hz)
      have l1 : s.1 + 5 ≤ (y_le K 1 3 false m (n' + 1) l' (y_no K (decide (n' < 1)) s)).1 := by
        have := t1.1
        rw [p1] at this ⊢
        exact this
      rcases z_nn T hc hO Z (of_decide_eq_true p2) (Nat.le_trans l1 he) p3 p4 with ⟨y', Z2⟩ | B
      · exact ih (n' + 1) l' y' _ _ _ Z2 hz he
      · refine Or.inr (B.fr T.M (g_S.nl _ _ _ _ _ g_S.rf) ?_ l1)
        exact (p_K.nl (J := [68]) (D := [649, 650, 651, 652, 653, 679, 680, 681, 682]) (by decide) (by decide) (by decide) (by decide) (by decide) (by decide) (by decide) (by decide) (by decide) (by decide) _ _ _ _ _ (by rw [p1]; exact Nat.le_refl _) p_K.rf).2.2.2
    rw [if_neg c6] at hz he
    rw [if_neg c6, if_neg c6, if_neg c6]
    by_cases c7 : y_is K 7 s = true
    · rw [if_pos c7] at hz he
      rw [if_pos c7, if_pos c7, if_pos c7]
      have t1 := y_to.le (K := K) (nr := 1) (lr := 3) (cm := false) m n' (l' + 1) _ _ (y_to.rf (s := y_li K (decide (l' < 3)) s))
      obtain ⟨p1, p2, p3, p4, p5, p6⟩ := y_li_9 (t1.2.1 hz)
      have l1 : s.1 + 9 ≤ (y_le K 1 3 false m n' (l' + 1) (y_li K (decide (l' < 3)) s)).1 := by
        have := t1.1
        rw [p1] at this ⊢
        exact this
      rcases z_nk T hc hO Z (of_decide_eq_true p2) (Nat.le_trans l1 he) p3 p4 p5 p6 with Z2 | B
      · exact ih n' (l' + 1) y _ _ _ Z2 hz he
      · refine Or.inr (B.fr T.M (g_S.nl _ _ _ _ _ g_S.rf) ?_ l1)
        exact (p_K.nl (J := [68]) (D := [649, 650, 651, 652, 653, 679, 680, 681, 682]) (by decide) (by decide) (by decide) (by decide) (by decide) (by decide) (by decide) (by decide) (by decide) (by decide) _ _ _ _ _ (by rw [p1]; exact Nat.le_refl _) p_K.rf).2.2.2
    rw [if_neg c7, if_neg (show ¬ (false = true ∧ y_is K 8 s = true) from fun h9 => by cases h9.1)] at hz he
    rw [if_neg c7, if_neg c7, if_neg c7, if_neg (show ¬ (false = true ∧ y_is K 8 s = true) from fun h9 => by cases h9.1)]
    exact Or.inl ⟨n', l', y, Z⟩
/-- a NOT -/
theorem z_n1 (T : zTk K P X V U e) (hc : c = 11 ∨ c = 300) (hO : q_isO o) (Z : zS1 K V U e c o (20 + r) nt ns n l h k) (ZX : zX h k o (20 + r) nt ns n x) (hz : (y_n1 K x s).2 = 0) (he : (y_n1 K x s).1 ≤ e) : (zS1 K V U e c o (20 + r) nt ns n l (g_nO K V nt ns o x (n + l) s h) (p_n1 K P U nt ns r x (n + l) s k) ∧ zX (g_nO K V nt ns o x (n + l) s h) (p_n1 K P U nt ns r x (n + l) s k) o (20 + r) nt ns n (x + 1)) ∨ zB P e (y_n1 K x s).1 (g_nO K V nt ns o x (n + l) s h) (p_n1 K P U nt ns r x (n + l) s k) := by
  obtain ⟨x2, hs, z1, _, p1, p2⟩ := y_n1_p hz
  have hn := hO.n
  have hne := hO.ne
  rw [p1] at he ⊢
  have he : (y_le K 1 3 false 1201 0 0 (s.1 + 1, 0)).1 + 1 ≤ e := he
  unfold g_nO p_n1
  rcases z_nl T hc hO 1201 0 0 0 (s.1 + 1, 0) _ _ (z_n0 hc hO Z ZX x2) z1 (by omega) with ⟨n2, l2, y2, Z2⟩ | B
  · left
    obtain ⟨O, ZT, ZL, W, ⟨i2, b8⟩, ⟨x4, xe⟩, ZM, G, Lk, MM⟩ := Z2
    generalize g_nl K V nt ns o x (n + l) 1201 0 0 (s.1 + 1, 0) (g_n0 o x h) = h3 at *
    generalize p_nl K P U nt ns (2 * (20 + r) + x) (n + l) 1201 0 0 (s.1 + 1, 0) (p_n0 r x k) = k3 at *
    have Ih : ∀ z j, ¬ (z = 589 ∧ j = 9) → qI (q_sI h3 589 9 (nI (n + l))) z j = qI h3 z j := fun z j q => q_sI_n q
    have Ik : ∀ j, ¬ j = 68 → qI (q_sI k3 630 68 (nI (n + l))) 630 j = qI k3 630 j := fun j q => q_sI_n (fun w => q w.2)
    have xr : ∀ i y v, zXe h3 k3 o (20 + r) nt ns n i y v → zXe (q_sI h3 589 9 (nI (n + l))) (q_sI k3 630 68 (nI (n + l))) o (20 + r) nt ns n i y v := fun i y v q => q.fr (by rw [qA_sI]) (by rw [qA_sI]) (by rw [qA_sI]) (by rw [qA_sI]) (fun z _ j _ => by rw [qA_sI]) (fun z _ j _ => by rw [qA_sI])
    refine ⟨⟨⟨(Ih _ _ (by omega)).trans O.1, (Ik _ (by decide)).trans O.2⟩, ZT.fr (Ih _ _ (by omega)) (Ih _ _ (by omega)) (Ik _ (by decide)) (Ik _ (by decide)) (by rw [qL_sI]) (by rw [qL_sI]) (by rw [qL_sI]) (by rw [qL_sI]) (by rw [qA_sI]) (by rw [qA_sI]) (by rw [qA_sI]) (by rw [qA_sI]) (by rw [qA_sI]) (by rw [qA_sI]), ZL.fr (Ih _ _ (by omega)) (Ih _ _ (by omega)) (Ih _ _ (by omega)) (by rw [qA_sI]) (fun i _ => by rw [qA_sI]; exact ⟨rfl, rfl, rfl⟩) (fun z _ _ => by rw [qA_sI]), ⟨q_sI_e, q_sI_e, fun j hj => (MM j hj).fr (fun _ q => q) (Nat.le_refl _) (Nat.le_refl _) (by rw [qL_sI]) (by rw [qL_sI]) (fun z _ => by rw [qA_sI]) (fun z _ => by rw [qA_sI]), fun i j hi hj => ?_⟩, fun j hj => ?_, Lk.fr (by rw [qA_sI]) (by rw [qA_sI])⟩, ⟨by omega, (Ih _ _ (by omega)).trans i2, by rw [qA_sI]; exact b8, fun i hi => ?_⟩⟩
    · rw [qL_sI]
      exact ZM.2.2.2 i j hi (by omega)
    · rw [qA_sI]
      exact G j (by omega)
    · by_cases h9 : i = x
      · rw [h9]
        exact ⟨y2, l2, xr _ _ _ xe⟩
      · obtain ⟨y', v', q⟩ := x4 i (by omega)
        exact ⟨y', v', xr _ _ _ q⟩
  · exact Or.inr (B.fr T.M (g_S.rf.sI (by omega)) (p_LW.rf.sI (by decide) (by decide)) (Nat.le_succ _))
theorem z_nts (T : zTk K P X V U e) (hc : c = 11 ∨ c = 300) (hO : q_isO o) : ∀ m x (s : y_S) h k, zS1 K V U e c o (20 + r) nt ns n l h k → zX h k o (20 + r) nt ns n x → (y_nt K m x s).2 = 0 → (y_nt K m x s).1 ≤ e → (∃ x', zS1 K V U e c o (20 + r) nt ns n l (g_nts K V nt ns o (n + l) m x s h) (p_nts K P U nt ns r (n + l) m x s k) ∧ zX (g_nts K V nt ns o (n + l) m x s h) (p_nts K P U nt ns r (n + l) m x s k) o (20 + r) nt ns n x') ∨ zB P e (y_nt K m x s).1 (g_nts K V nt ns o (n + l) m x s h) (p_nts K P U nt ns r (n + l) m x s k) := by
  have ho := hO.n
  intro m
  induction m with
  | zero => intro x s h k Z ZX _ _; exact Or.inl ⟨x, Z, ZX⟩
  | succ m ih =>
    intro x s h k Z ZX hz he
    unfold y_nt at hz he ⊢
    unfold g_nts p_nts
    by_cases c9 : y_is K 9 s = true
    · rw [if_pos c9] at hz he
      rw [if_pos c9, if_pos c9, if_pos c9]
      have t1 := y_to.nt (K := K) m (x + 1) _ _ (y_to.rf (s := y_n1 K x s))
      rcases z_n1 T hc hO Z ZX (t1.2.1 hz) (Nat.le_trans t1.1 he) with ⟨Z2, X2⟩ | B
      · exact ih (x + 1) _ _ _ Z2 X2 hz he
      · refine Or.inr (B.fr T.M (g_S.nts (by omega) _ _ _ _ g_S.rf) ?_ t1.1)
        exact (p_K.nts (J := [68]) (D := [648, 649, 650, 651, 652, 653, 679, 680, 681, 682]) (by decide) (by decide) (by decide) (by decide) (by decide) (by decide) (by decide) (by decide) (by decide) (by decide) (by decide) _ _ _ _ (Nat.le_refl _) p_K.rf).2.2.2
    · rw [if_neg c9, if_neg c9, if_neg c9]
      exact Or.inl ⟨x, Z, ZX⟩
end ZX
