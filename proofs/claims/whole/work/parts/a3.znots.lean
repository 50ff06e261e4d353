/-! THE TWO READS: what must not be -/
/-- a NOT: the type of its node (none is 0), so many links -/
def zXe (h k : q_Hp) (o q nt ns n i y v : Nat) : Prop := y ≤ nt ∧ v ≤ 3 ∧ qA h (o + 2) i = oN y ∧ qA k 649 (2 * q + i) = oN y ∧ qA h (o + 3) i = nI v ∧ qA k 650 (2 * q + i) = nI v ∧ ∀ j, j < v → ∃ s f t, s < ns ∧ (f < n ∨ (f = 4 ∧ 0 < y)) ∧ (t < n ∨ (t = 4 ∧ 0 < y)) ∧ qA h (o + 4) (6 + 3 * i + j) = nI s ∧ qA h (o + 5) (6 + 3 * i + j) = nI f ∧ qA h (o + 6) (6 + 3 * i + j) = nI t ∧ qA k 651 (3 * (2 * q + i) + j) = nI s ∧ qA k 652 (3 * (2 * q + i) + j) = nI f ∧ qA k 653 (3 * (2 * q + i) + j) = nI t
def zX (h k : q_Hp) (o q nt ns n x : Nat) : Prop := x ≤ 2 ∧ qI h o 2 = nI x ∧ qA k 648 q = nI x ∧ ∀ i, i < x → ∃ y v, zXe h k o q nt ns n i y v
/-- in the midst of a NOT -/
def zS2n (K : Nat → Nat) (V U : Nat → Int64) (e c o q nt ns n l x n' l' y : Nat) (h k : q_Hp) : Prop := zO h k ∧ zT K V U e c nt ns h k ∧ zL h k o q nt ns n l ∧ (x < 2 ∧ n' ≤ 1 ∧ (n' = 0 → y = 0) ∧ (¬ n' = 0 → 0 < y)) ∧ (qI h o 2 = nI (x + 1) ∧ qA k 648 q = nI (x + 1)) ∧ ((∀ i, i < x → ∃ y v, zXe h k o q nt ns n i y v) ∧ zXe h k o q nt ns n x y l') ∧ zM K V U e (fun z => z < n ∨ (z = 4 ∧ ¬ n' = 0)) false l 0 (n + l + n' + l') h k ∧ zG (n + l + n' + l') h ∧ zLk l (n + l) h ∧ ∀ j, j < n + l → zMe K V U e (fun z => z < n) true l 0 h k j
section ZX
variable {K P X : Nat → Nat} {V U : Nat → Int64} {e t c o q nt ns n l m a r x n' l' y i v : Nat} {h k h' k' : q_Hp} {s : y_S}
theorem zXe.fr (Z : zXe h k o q nt ns n i y v) (a2 : qA h' (o + 2) i = qA h (o + 2) i) (a3 : qA h' (o + 3) i = qA h (o + 3) i) (b9 : qA k' 649 (2 * q + i) = qA k 649 (2 * q + i)) (b0 : qA k' 650 (2 * q + i) = qA k 650 (2 * q + i)) (a4 : ∀ z, z = 4 ∨ z = 5 ∨ z = 6 → ∀ j, j < 3 → qA h' (o + z) (6 + 3 * i + j) = qA h (o + z) (6 + 3 * i + j)) (b1 : ∀ z, z = 651 ∨ z = 652 ∨ z = 653 → ∀ j, j < 3 → qA k' z (3 * (2 * q + i) + j) = qA k z (3 * (2 * q + i) + j)) : zXe h' k' o q nt ns n i y v := by
  obtain ⟨z1, z2, z3, z4, z5, z6, z7⟩ := Z
  refine ⟨z1, z2, a2.trans z3, b9.trans z4, a3.trans z5, b0.trans z6, fun j hj => ?_⟩
  rw [a4 4 (by omega) j (by omega), a4 5 (by omega) j (by omega), a4 6 (by omega) j (by omega), b1 651 (by omega) j (by omega), b1 652 (by omega) j (by omega), b1 653 (by omega) j (by omega)]
  exact z7 j hj
/-- a NOT begins -/
theorem z_n0 (hc : c = 11 ∨ c = 300) (hO : q_isO o) (Z : zS1 K V U e c o (20 + r) nt ns n l h k) (ZX : zX h k o (20 + r) nt ns n x) (hx : x < 2) : zS2n K V U e c o (20 + r) nt ns n l x 0 0 0 (g_n0 o x h) (p_n0 r x k) := by
  obtain ⟨O, ZT, ZL, ZM, G, Lk⟩ := Z
  obtain ⟨x1, x2, x3, x4⟩ := ZX
  have hn := hO.n
  have hne := hO.ne
  have ZT' := ZT.kp (P := fun _ => 0) (b := 0) (F := [2]) (D := [2, 3]) (J := []) (E := [648, 649, 650]) hO hc (g_K.rf.n0 (q := x) (by decide) (by decide) (by decide)) (p_K.rf.n0 (r := r) (c := x) (by decide) (by decide) (by decide)) (by decide) (by decide) (by decide)
  have Ih : ∀ z j, ¬ (z = o ∧ j = 2) → qI (g_n0 o x h) z j = qI h z j := fun z j q => by unfold g_n0; rw [q_sI_n q, qI_sA, qI_sA]
  have Ah : ∀ z, ¬ z = o + 2 → ¬ z = o + 3 → qA (g_n0 o x h) z = qA h z := fun z q1 q2 => by unfold g_n0; rw [qA_sI, qA_sAn q2, qA_sAn q1]
  have a2 : ∀ i, qA (g_n0 o x h) (o + 2) i = if i = x then -1 else qA h (o + 2) i := fun i => by
    unfold g_n0
    rw [qA_sI, qA_sAn (by omega), qA_sA]
    by_cases h9 : i = x
    · rw [if_pos ⟨rfl, h9⟩, if_pos h9]
    · rw [if_neg (fun q => h9 q.2), if_neg h9]
  have a3 : ∀ i, qA (g_n0 o x h) (o + 3) i = if i = x then 0 else qA h (o + 3) i := fun i => by
    unfold g_n0
    rw [qA_sI, qA_sA, qA_sAn (by omega)]
    by_cases h9 : i = x
    · rw [if_pos ⟨rfl, h9⟩, if_pos h9]
    · rw [if_neg (fun q => h9 q.2), if_neg h9]
  have i2 : qI (g_n0 o x h) o 2 = nI (x + 1) := by unfold g_n0; exact q_sI_e
  have Ll : qL (g_n0 o x h) = qL h := by unfold g_n0; rw [qL_sI, qL_sA, qL_sA]
  have Ik : ∀ j, qI (p_n0 r x k) 630 j = qI k 630 j := fun j => by unfold p_n0; rw [qI_sA, qI_sA, qI_sA]
  have Lk2 : qL (p_n0 r x k) = qL k := by unfold p_n0; rw [qL_sA, qL_sA, qL_sA]
  have Ak : ∀ z, ¬ z = 648 → ¬ z = 649 → ¬ z = 650 → qA (p_n0 r x k) z = qA k z := fun z q1 q2 q3 => by unfold p_n0; rw [qA_sAn q3, qA_sAn q2, qA_sAn q1]
  have b8 : qA (p_n0 r x k) 648 (20 + r) = nI (x + 1) := by unfold p_n0; rw [qA_sAn (by decide), qA_sAn (by decide), qA_sA, if_pos ⟨rfl, rfl⟩]
  have b9 : ∀ i, qA (p_n0 r x k) 649 i = if i = 2 * (20 + r) + x then -1 else qA k 649 i := fun i => by
    unfold p_n0
    rw [qA_sAn (by decide), qA_sA, qA_sAn (by decide)]
    by_cases h9 : i = 2 * (20 + r) + x
    · rw [if_pos ⟨rfl, h9⟩, if_pos h9]
    · rw [if_neg (fun q => h9 q.2), if_neg h9]
  have b0 : ∀ i, qA (p_n0 r x k) 650 i = if i = 2 * (20 + r) + x then 0 else qA k 650 i := fun i => by
    unfold p_n0
    rw [qA_sA, qA_sAn (by decide), qA_sAn (by decide)]
    by_cases h9 : i = 2 * (20 + r) + x
    · rw [if_pos ⟨rfl, h9⟩, if_pos h9]
    · rw [if_neg (fun q => h9 q.2), if_neg h9]
  generalize g_n0 o x h = h3 at *
  generalize p_n0 r x k = k3 at *
  have ZM' : zM K V U e (fun x => x < n) true l 0 (n + l) h3 k3 := ZM.fr (Ih _ _ (by omega)) (Ik _) (by rw [Ll]) (by rw [Lk2]) (fun z hz => Ah z (by omega) (by omega)) (fun z hz => Ak z (by omega) (by omega) (by omega))
  refine ⟨⟨(Ih _ _ (by omega)).trans O.1, (Ik _).trans O.2⟩, ZT', ZL.fr (Ih _ _ (by omega)) (Ih _ _ (by omega)) (Ih _ _ (by omega)) (Ah _ (by omega) (by omega)) (fun i _ => by rw [Ah _ (by omega) (by omega), Ah _ (by omega) (by omega), Ah _ (by omega) (by omega)]; exact ⟨rfl, rfl, rfl⟩) (fun z z1 z2 => Ak z (by omega) (by omega) (by omega)), ⟨hx, by omega, fun _ => rfl, fun q => absurd rfl q⟩, ⟨i2, b8⟩, ⟨fun i hi => ?_, ?_⟩, ?_, ?_, Lk.fr (Ah _ (by omega) (by omega)) (Ah _ (by omega) (by omega)), ZM'.2.2.1⟩
  · obtain ⟨y, v, q⟩ := x4 i hi
    refine ⟨y, v, q.fr ?_ ?_ ?_ ?_ (fun z hz j _ => ?_) (fun z hz j _ => ?_)⟩
    · rw [a2, if_neg (by omega)]
    · rw [a3, if_neg (by omega)]
    · rw [b9, if_neg (by omega)]
    · rw [b0, if_neg (by omega)]
    · rw [Ah _ (by omega) (by omega)]
    · rw [Ak _ (by omega) (by omega) (by omega)]
  · refine ⟨Nat.zero_le _, by decide, ?_, ?_, ?_, ?_, fun j hj => absurd hj (Nat.not_lt_zero j)⟩
    · rw [a2, if_pos rfl]; exact oN_0.symm
    · rw [b9, if_pos rfl]; exact oN_0.symm
    · rw [a3, if_pos rfl]; rfl
    · rw [b0, if_pos rfl]; rfl
  · exact (ZM'.wk (fun z q => Or.inl q) (Nat.le_refl _) (Nat.le_refl _)).lf0
  · exact G.fr (Ah _ (by omega) (by omega))
/-- a node of a NOT -/
theorem zS2n.nn (T : zTk K P X V U e) (hc : c = 11 ∨ c = 300) (hO : q_isO o) (Z : zS2n K V U e c o (20 + r) nt ns n l x n' l' y h k) (h4 : n' < 1) {ty : Nat} (hty : ty < nt) (N1 : zN K e t) (hf1 : p_fi (qL h 592) (n + l + n' + l') (V t) = none) : zS2n K V U e c o (20 + r) nt ns n l x (n' + 1) l' (ty + 1) (g_tl (n + l + n' + l') (V t) 1 4 (nI ty) (q_sA h (o + 2) x (nI ty))) (p_tl P U t (n + l + n' + l') 0 4 (nI ty) (q_sA k 649 (2 * (20 + r) + x) (nI ty))) := by
  obtain ⟨O, ZT, ZL, ⟨w1, w2, w3, w4⟩, ⟨i2, b8⟩, ⟨x4, xe⟩, ZM, G, Lk, MM⟩ := Z
  have hn := hO.n
  have hne := hO.ne
  have f1 := ZM.fi T N1
  have e1 : n + l + (n' + 1) + l' = n + l + n' + l' + 1 := by omega
  have G3 : g_K c o [] [2] h (q_sA h (o + 2) x (nI ty)) := g_K.rf.sO (by decide)
  have Ih : ∀ z j, qI (q_sA h (o + 2) x (nI ty)) z j = qI h z j := fun z j => by rw [qI_sA]
  have Ah : ∀ z, ¬ z = o + 2 → qA (q_sA h (o + 2) x (nI ty)) z = qA h z := fun z q => qA_sAn q
  have a2 : ∀ i, qA (q_sA h (o + 2) x (nI ty)) (o + 2) i = if i = x then nI ty else qA h (o + 2) i := fun i => by
    rw [qA_sA]
    by_cases h9 : i = x
    · rw [if_pos ⟨rfl, h9⟩, if_pos h9]
    · rw [if_neg (fun q => h9 q.2), if_neg h9]
  have Ll : qL (q_sA h (o + 2) x (nI ty)) = qL h := qL_sA _ _ _ _
  have K3 : p_K P 0 [68] [649, 679, 680, 681, 682] k (q_sA k 649 (2 * (20 + r) + x) (nI ty)) := p_K.rf.sA (by decide)
  have Ik : ∀ j, qI (q_sA k 649 (2 * (20 + r) + x) (nI ty)) 630 j = qI k 630 j := fun j => by rw [qI_sA]
  have Ak : ∀ z, ¬ z = 649 → qA (q_sA k 649 (2 * (20 + r) + x) (nI ty)) z = qA k z := fun z q => qA_sAn q
  have b9 : ∀ i, qA (q_sA k 649 (2 * (20 + r) + x) (nI ty)) 649 i = if i = 2 * (20 + r) + x then nI ty else qA k 649 i := fun i => by
    rw [qA_sA]
    by_cases h9 : i = 2 * (20 + r) + x
    · rw [if_pos ⟨rfl, h9⟩, if_pos h9]
    · rw [if_neg (fun q => h9 q.2), if_neg h9]
  have Lk2 : qL (q_sA k 649 (2 * (20 + r) + x) (nI ty)) = qL k := qL_sA _ _ _ _
  generalize q_sA h (o + 2) x (nI ty) = h3 at *
  generalize q_sA k 649 (2 * (20 + r) + x) (nI ty) = k3 at *
  have ZM1 : zM K V U e (fun z => z < n ∨ (z = 4 ∧ ¬ (n' + 1) = 0)) false l 0 (n + l + n' + l') h3 k3 := (ZM.wk (fun z q => q.imp id (fun q => ⟨q.1, Nat.succ_ne_zero n'⟩)) (Nat.le_refl _) (Nat.le_refl _)).fr (Ih _ _) (Ik _) (by rw [Ll]) (by rw [Lk2]) (fun z hz => Ah z (by omega)) (fun z hz => Ak z (by omega))
  have ZM2 := ZM1.tl (P := P) (kd := 1) (nu := 4) (ty := nI ty) (kd' := 0) (nu' := 4) T N1 (by rw [Ll]; exact hf1) (Or.inl ⟨rfl, rfl, 4, Or.inr ⟨rfl, Nat.succ_ne_zero n'⟩, rfl, rfl⟩)
  have I3 : qI (p_tl P U t (n + l + n' + l') 0 4 (nI ty) k3) 630 15 = 0 := by
    unfold p_tl
    rw [Lk2, f1, hf1, p_dw_0, q_sI_n (by omega), qI_sA, qI_sA, qI_sA, qI_sA, qI_sL]
    exact (Ik 15).trans O.2
  have i68 : ∀ {i : Nat}, (¬ i = 679 ∧ ¬ i = 680 ∧ ¬ i = 681 ∧ ¬ i = 682) → qA (p_tl P U t (n + l + n' + l') 0 4 (nI ty) k3) i = qA k3 i := fun q => p_tl_A q
  have ol : ∀ j, j < n + l → zMe K V U e (fun z => z < n) true l 0 (g_tl (n + l + n' + l') (V t) 1 4 (nI ty) h3) (p_tl P U t (n + l + n' + l') 0 4 (nI ty) k3) j := by
    intro j hj
    obtain ⟨r1, r2, r3, r4, r5⟩ := g_tl_r (m := n + l + n' + l') (v := V t) (kd := 1) (nu := 4) (ty := nI ty) (h := h3) (j := j)
    have nj : ¬ j = n + l + n' + l' := by omega
    refine (MM j hj).fr (fun _ q => q) (Nat.le_refl _) (Nat.le_refl _) (by rw [r1, if_neg nj, Ll]) (by rw [p_tl_678, if_neg nj, Lk2]) (fun z hz => ?_) (fun z hz => ?_)
    · rcases hz with rfl | rfl | rfl | rfl
      · rw [r2, if_neg nj, Ah _ (by omega)]
      · rw [r3, if_neg nj, Ah _ (by omega)]
      · rw [r4, if_neg nj, Ah _ (by omega)]
      · rw [r5, if_neg nj, Ah _ (by omega)]
    · rcases hz with rfl | rfl | rfl | rfl
      · rw [p_tl_679, if_neg nj, Ak _ (by decide)]
      · rw [p_tl_680, if_neg nj, Ak _ (by decide)]
      · rw [p_tl_681, if_neg nj, Ak _ (by decide)]
      · rw [p_tl_682, if_neg nj, Ak _ (by decide)]
  have K4 : p_K P 0 [68] [649, 679, 680, 681, 682] k (p_tl P U t (n + l + n' + l') 0 4 (nI ty) k3) := K3.tl (Nat.zero_le _) (by decide) (by decide) (by decide) (by decide) (by decide)
  have ZT' := ZT.kp (b := 0) (P := P) (F := []) (D := [2]) (J := [68]) (E := [649, 679, 680, 681, 682]) hO hc (G3.tl (m := n + l + n' + l') (v := V t) (kd := 1) (nu := 4) (ty := nI ty)) K4 (by decide) (by decide) (by decide)
  generalize hk4 : p_tl P U t (n + l + n' + l') 0 4 (nI ty) k3 = k4 at *
  refine ⟨⟨?_, I3⟩, ZT', ZL.fr ?_ ?_ ?_ ?_ (fun i _ => ?_) (fun z z1 z2 => ?_), ⟨w1, by omega, fun q => by omega, fun _ => by omega⟩, ⟨?_, ?_⟩, ⟨fun i hi => ?_, ?_⟩, ?_, (zG.tl (G.fr (Ah _ (by omega)))).me e1, ?_, ol⟩
  · rw [g_tl_I (by omega), Ih]
    exact O.1
  · rw [g_tl_I (by omega), Ih]
  · rw [g_tl_I (by omega), Ih]
  · rw [g_tl_I (by omega), Ih]
  · rw [g_tl_A (by omega), Ah _ (by omega)]
  · rw [g_tl_A (by omega), Ah _ (by omega), g_tl_A (by omega), Ah _ (by omega), g_tl_A (by omega), Ah _ (by omega)]
    exact ⟨rfl, rfl, rfl⟩
  · rw [i68 (by omega), Ak _ (by omega)]
  · rw [g_tl_I (by omega), Ih]
    exact i2
  · rw [i68 (by decide), Ak _ (by decide)]
    exact b8
  · obtain ⟨y', v', q⟩ := x4 i hi
    refine ⟨y', v', q.fr ?_ ?_ ?_ ?_ (fun z hz j _ => ?_) (fun z hz j _ => ?_)⟩
    · rw [g_tl_A (by omega), a2, if_neg (by omega)]
    · rw [g_tl_A (by omega), Ah _ (by omega)]
    · rw [i68 (by decide), b9, if_neg (by omega)]
    · rw [i68 (by decide), Ak _ (by decide)]
    · rw [g_tl_A (by omega), Ah _ (by omega)]
    · rw [i68 (by omega), Ak _ (by omega)]
  · obtain ⟨y1, y2, y3, y4, y5, y6, y7⟩ := xe
    refine ⟨hty, y2, ?_, ?_, ?_, ?_, fun j hj => ?_⟩
    · rw [g_tl_A (by omega), a2, if_pos rfl]
      exact (oN_s ty).symm
    · rw [i68 (by decide), b9, if_pos rfl]
      exact (oN_s ty).symm
    · rw [g_tl_A (by omega), Ah _ (by omega)]
      exact y5
    · rw [i68 (by decide), Ak _ (by decide)]
      exact y6
    · obtain ⟨u, f, g, q1, q2, q3, q4⟩ := y7 j hj
      refine ⟨u, f, g, q1, q2.imp id (fun q => ⟨q.1, Nat.succ_pos _⟩), q3.imp id (fun q => ⟨q.1, Nat.succ_pos _⟩), ?_⟩
      rw [g_tl_A (by omega), g_tl_A (by omega), g_tl_A (by omega), Ah _ (by omega), Ah _ (by omega), Ah _ (by omega), i68 (by decide), i68 (by decide), i68 (by decide), Ak _ (by decide), Ak _ (by decide), Ak _ (by decide)]
      exact q4
  · rw [e1]
    exact ZM2
  · refine ⟨fun z hz => ?_, fun i j hi hj => ?_⟩
    · obtain ⟨j, q1, q2, q3⟩ := Lk.1 z hz
      refine ⟨j, q1, ?_, ?_⟩
      · rw [g_tl_r.2.1, if_neg (by omega), Ah _ (by omega)]; exact q2
      · rw [g_tl_r.2.2.1, if_neg (by omega), Ah _ (by omega)]; exact q3
    · rw [g_tl_r.2.1, g_tl_r.2.1, g_tl_r.2.2.1, g_tl_r.2.2.1, if_neg (by omega), if_neg (by omega), if_neg (by omega), if_neg (by omega), Ah _ (by omega), Ah _ (by omega)]
      exact Lk.2 i j hi hj
end ZX
