/-! THE TWO READS: sums -/
section EF
variable {K P X : Nat → Nat} {U : Nat → Int64} {set : Bool} {L a : Nat} {k : q_Hp}
theorem p_LW.sp {b : Nat} {k1 : q_Hp} {s : y_S} (x : p_LW P b k k1) : p_LW P b k (p_sp K s k1) := x.sw.pu
theorem p_LW.eU {r : Nat → Nat} {p : Nat → Nat → q_Hp → q_Hp} {d b : Nat} {k1 : q_Hp} (H : ∀ d c k2, b ≤ c → p_LW P b k k2 → p_LW P b k (p d c k2)) (hb : b ≤ a) (x : p_LW P b k k1) : p_LW P b k (e_pU K P X U set L p d a k1) := by
  unfold e_pU
  split
  · exact (H _ _ _ (by omega) x.op.pu).sw.po
  · exact x.un hb
theorem p_LW.eR {r : Nat → Nat} {p : Nat → Nat → q_Hp → q_Hp} {d b : Nat} (hr : ∀ c, c ≤ r c) (H : ∀ d c k2, b ≤ c → p_LW P b k k2 → p_LW P b k (p d c k2)) : ∀ n c k1, b ≤ c → p_LW P b k k1 → p_LW P b k (e_pR K P X U set L r p d n c k1) := by
  intro n
  induction n with
  | zero => intro c k1 _ x; exact x
  | succ n ih =>
    intro c k1 hb x
    unfold e_pR
    have := e_U_le (K := K) hr (a := c + 1)
    split
    · exact ih _ _ (by omega) (p_LW.eU (r := r) H (by omega) x.sp)
    · exact x
theorem p_LW.eE {b : Nat} : ∀ n d c k1, b ≤ c → p_LW P b k k1 → p_LW P b k (e_pE K P X U set L n d c k1) := by
  intro n
  induction n with
  | zero => intro d c k1 _ x; exact x
  | succ n ih =>
    intro d c k1 hb x
    unfold e_pE
    have h1 := e_U_le (K := K) (e_E_le n) (a := e_a1 K c) (r := e_E K n)
    have h3 : c ≤ e_a1 K c := by
      unfold e_a1
      split <;> omega
    refine p_LW.eR (e_E_le n) ih _ _ _ (by omega) (p_LW.eU (r := e_E K n) ih (by omega) ?_)
    split
    · exact x.pu
    · exact x
end EF
/-- what holds in a sum -/
def zQ (K : Nat → Nat) (V U : Nat → Int64) (e : Nat) (NX : Nat → Prop) (lx : Bool) (l w m : Nat) (set : Bool) (c q : Nat) (h k : q_Hp) : Prop := zO h k ∧ zM K V U e NX lx l w m h k ∧ (set = false → zG m h) ∧ zC c q h k
section ZQ
variable {K P X : Nat → Nat} {V U : Nat → Int64} {e c : Nat} {NX : Nat → Prop} {lx set : Bool} {l nw m nn : Nat} {h k h' k' : q_Hp}
theorem g_kx.mm (G : g_kx c h h') (hc : c = 11 ∨ c = 300) : qI h' 589 9 = qI h 589 9 ∧ qL h' = qL h ∧ ∀ x, x = 593 ∨ x = 594 ∨ x = 595 ∨ x = 596 → qA h' x = qA h x := ⟨G.2.2.2 _ _ (by omega) (by omega), G.2.1, fun x hx => G.1 x (by omega)⟩
theorem zQ.kx {q q' : Nat} (Z : zQ K V U e NX lx l nw m set c q h k) (hc : c = 11 ∨ c = 300) (G : g_kx c h h') (Pk : p_kx k k') (O : zO h' k') (C : zC c q' h' k') : zQ K V U e NX lx l nw m set c q' h' k' := by
  obtain ⟨z1, z2, z3, z4⟩ := Z
  obtain ⟨m1, m2, m3⟩ := G.mm hc
  exact ⟨O, z2.fr m1 (Pk.2.2 68 (by decide)) (by rw [m2]) (by rw [Pk.2.1]) m3 (fun x hx => Pk.1 x (by omega)), fun hs => (z3 hs).fr (m3 596 (by omega)), C⟩
theorem zQ.k1 {q : Nat} (Z : zQ K V U e NX lx l nw m set c q h k) (hc : c = 11 ∨ c = 300) (Pk : p_kx k k') (e1 : qI k' 630 15 = qI k 630 15) (e2 : qI k' 630 22 = qI k 630 22) (e3 : ∀ x, x = 666 ∨ x = 667 ∨ x = 668 → qA k' x = qA k x) : zQ K V U e NX lx l nw m set c q h k' := Z.kx hc g_kx.rf Pk ⟨Z.1.1, e1.trans Z.1.2⟩ (Z.2.2.2.fr rfl e2 zA.rf e3)
theorem zQ.pu {q : Nat} {op : Int32} (Z : zQ K V U e NX lx l nw m set c q h k) (hc : c = 11 ∨ c = 300) : zQ K V U e NX lx l nw m set c q h (p_pu op k) := by
  refine Z.k1 hc p_kx.rf.pu ?_ ?_ (fun x hx => ?_)
  · unfold p_pu
    rw [q_sI_n (by omega), qI_sA]
  · unfold p_pu
    rw [q_sI_n (by omega), qI_sA]
  · unfold p_pu
    rw [qA_sI, qA_sAn (by omega)]
theorem zQ.s78 {q : Nat} {v : Int32} (Z : zQ K V U e NX lx l nw m set c q h k) (hc : c = 11 ∨ c = 300) : zQ K V U e NX lx l nw m set c q h (q_sI k 630 78 v) := Z.k1 hc (p_kx.rf.sI (by omega)) (q_sI_n (by omega)) (q_sI_n (by omega)) (fun x hx => by rw [qA_sI])
theorem zQ.s12 {q : Nat} {v : Int32} (Z : zQ K V U e NX lx l nw m set c q h k) (hc : c = 11 ∨ c = 300) : zQ K V U e NX lx l nw m set c q h (q_sI k 630 12 v) := Z.k1 hc (p_kx.rf.sI (by omega)) (q_sI_n (by omega)) (q_sI_n (by omega)) (fun x hx => by rw [qA_sI])
theorem zQ.op {q d : Nat} {s : y_S} (Z : zQ K V U e NX lx l nw m set c q h k) (hc : c = 11 ∨ c = 300) : zQ K V U e NX lx l nw m set c q h (p_op k d s) := by
  unfold p_op
  split
  · exact Z.s12 hc
  · exact Z
theorem zQ.em {q kd v : Nat} {w x y : Int32} (Z : zQ K V U e NX lx l nw m set c q h k) (hc : c = 11 ∨ c = 300) (h6 : kd < 6) (hv : v < 2 ^ 31) (hq : q < 2 ^ 30) (hw : w = nI kd) (x0 : kd = 0 → x = nI v) (x1 : kd = 1 → x = nI (v / 2) ∧ y = nI (v % 2)) : zQ K V U e NX lx l nw m set c (q + 1) (g_cx c w (nI v) h) (p_em w x y k) ∧ zA c q h (g_cx c w (nI v) h) ∧ qA (g_cx c w (nI v) h) (c + 6) q = nI kd ∧ qA (g_cx c w (nI v) h) (c + 7) q = nI v := by
  obtain ⟨E1, E2, E3, E4⟩ := Z.2.2.2.em h6 hv hq hw x0 x1
  refine ⟨Z.kx hc g_kx.rf.cx p_kx.rf.em ⟨?_, ?_⟩ E1, E2, E3, E4⟩
  · rw [g_cx_e Z.2.2.2.1 (by omega), g_cd_I (by omega)]
    exact Z.1.1
  · rw [p_em_I (by decide)]
    exact Z.1.2
/-- a sign that waits in the class, settled in both -/
theorem z_sn {q st sg : Nat} {neg : Bool} {w : List Nat} (hc : c = 11 ∨ c = 300) (hb : zWb w) (hw : w.length < 30) (hx : neg = true → sg = 0) (hsg : sg = 0 ∨ sg = 31 ∨ sg = 32) (Z : zQ K V U e NX lx l nw m set c q h k) (W : zW (zx neg sg ++ w) k) (hq : q < 2 ^ 29) : zQ K V U e NX lx l nw m set c (q + g_b2n neg + g_s2n sg) (g_sn c neg sg h) (p_sw 1 k) ∧ zW w (p_sw 1 k) ∧ zA c q h (g_sn c neg sg h) ∧ zD c nn (g_sn c neg sg h) q (st + 1 + g_s2n sg) (q + g_b2n neg + g_s2n sg) (st + 1) := by
  have stop : ∀ {k}, zW w k → p_sw 1 k = k := fun W => W.st (by omega) (hb.st (by decide))
  cases hn : neg with
  | true =>
    have s0 := hx hn
    subst s0
    subst hn
    have W : zW (3 :: w) k := W
    rw [W.po (by omega) (by decide), stop W.pop]
    obtain ⟨E1, E2, E3, E4⟩ := (Z.s78 (v := nI w.length) hc).em (kd := 2) (v := 0) (w := 2) (x := 0) (y := 0) hc (by decide) (by decide) (by omega) rfl (fun q0 => by cases q0) (fun q0 => by cases q0)
    have eg : g_sn c true 0 h = g_cx c 2 (nI 0) h := rfl
    rw [eg]
    exact ⟨E1, W.pop, E2, zD.one (kd := 2) (by decide) (by decide) E3 E4 (Or.inr (Or.inl ⟨rfl, Nat.succ_le_succ (Nat.zero_le _), rfl⟩))⟩
  | false =>
    subst hn
    have go : ∀ kd : Nat, 3 ≤ kd → kd < 6 → g_sn c false sg h = g_cx c (nI kd) (nI 0) h → (∃ y, zx false sg = [y] ∧ p_oc (nI y) = nI kd ∧ ¬ p_st (nI y) < 1) → g_s2n sg = 1 → zQ K V U e NX lx l nw m set c (q + g_b2n false + g_s2n sg) (g_sn c false sg h) (p_sw 1 k) ∧ zW w (p_sw 1 k) ∧ zA c q h (g_sn c false sg h) ∧ zD c nn (g_sn c false sg h) q (st + 1 + g_s2n sg) (q + g_b2n false + g_s2n sg) (st + 1) := by
      rintro kd k3 k6 eg ⟨y, ey, eo, es⟩ e1
      rw [ey] at W
      have W : zW (y :: w) k := W
      rw [W.po (by omega) es, stop W.pop, eg, e1]
      obtain ⟨E1, E2, E3, E4⟩ := (Z.s78 (v := nI w.length) hc).em (kd := kd) (v := 0) (w := nI kd) (x := 0) (y := 0) hc k6 (by decide) (by omega) rfl (fun q0 => by omega) (fun q0 => by omega)
      have ep : zpo w y k = p_em (nI kd) 0 0 (q_sI k 630 78 (nI w.length)) := by
        unfold zpo
        rw [eo]
      rw [ep]
      refine ⟨E1, ?_, E2, zD.one (kd := kd) k6 (by decide) E3 E4 (Or.inr (Or.inr ⟨k3, by omega, rfl⟩))⟩
      rw [← ep]
      exact W.pop
    rcases hsg with rfl | rfl | rfl
    · have W : zW w k := W
      rw [stop W]
      exact ⟨Z, W, zA.rf, zD.rf⟩
    · exact go 3 (by decide) (by decide) rfl ⟨13, rfl, by decide, by decide⟩ rfl
    · exact go 4 (by decide) (by decide) rfl ⟨14, rfl, by decide, by decide⟩ rfl
/-- what is claimed of a sum -/
def zWE (K P X : Nat → Nat) (V U : Nat → Int64) (e : Nat) (NX : Nat → Prop) (lx : Bool) (l nw m : Nat) (set : Bool) (c nn n : Nat) : Prop := ∀ d a h k q st w, d ≤ 8 → e_vE K n d a → e_E K n a ≤ e → zWb w → w.length ≤ 3 * d → st ≤ 2 * d → q ≤ a → zQ K V U e NX lx l nw m set c q h k → zW w k → (∃ q', zQ K V U e NX lx l nw m set c q' (g_E K V c m n a h) (p_sw 1 (e_pE K P X U set m n d a k)) ∧ zW w (p_sw 1 (e_pE K P X U set m n d a k)) ∧ zA c q h (g_E K V c m n a h) ∧ zD c nn (g_E K V c m n a h) q st q' (st + 1) ∧ q' + a ≤ q + e_E K n a) ∨ zB P e (e_E K n a) (g_E K V c m n a h) (p_sw 1 (e_pE K P X U set m n d a k))
/-- a unit -/
theorem z_U {n d a q st : Nat} {w : List Nat} (T : zTk K P X V U e) (hc : c = 11 ∨ c = 300) (hN : ∀ x, NX x → x < nn) (hn4 : nn ≤ 4) (he12 : e ≤ 1200) (HE : zWE K P X V U e NX lx l nw m set c nn n) (hd : d ≤ 8) (hv : e_vU K (e_E K n) (e_vE K n) d a) (he : e_U K (e_E K n) a ≤ e) (hw : w.length ≤ 3 * d + 2) (hst : st ≤ 2 * d + 2) (hq : q ≤ a) (Z : zQ K V U e NX lx l nw m set c q h k) (W : zW w k) : (∃ q', zQ K V U e NX lx l nw m set c q' (g_U K V c m (g_E K V c m n) a h) (e_pU K P X U set m (e_pE K P X U set m n) d a k) ∧ zW w (e_pU K P X U set m (e_pE K P X U set m n) d a k) ∧ zA c q h (g_U K V c m (g_E K V c m n) a h) ∧ zD c nn (g_U K V c m (g_E K V c m n) a h) q st q' (st + 1) ∧ q' + a ≤ q + e_U K (e_E K n) a) ∨ zB P e (e_U K (e_E K n) a) (g_U K V c m (g_E K V c m n) a h) (e_pU K P X U set m (e_pE K P X U set m n) d a k) := by
  have lu := e_U_le (K := K) (e_E_le n) (a := a) (r := e_E K n)
  unfold e_U at he lu ⊢
  unfold g_U e_pU
  by_cases h41 : K a = 41
  · rw [if_pos h41] at he lu ⊢
    rw [if_pos h41, if_neg (show ¬ K a = 34 by omega)]
    left
    obtain ⟨v1, v2, _⟩ := T.2.2 a (by omega) h41
    have eu : p_un K P X U set m (a, 0) k = p_em 0 (nI (X a)) 0 k := by
      unfold p_un
      rw [if_pos (y_is_0.mpr h41)]
    rw [eu, v1]
    obtain ⟨E1, E2, E3, E4⟩ := Z.em (kd := 0) (v := X a) (w := 0) (x := nI (X a)) (y := 0) hc (by decide) v2 (by omega) rfl (fun _ => rfl) (fun q0 => by cases q0)
    exact ⟨q + 1, E1, W.fr (p_em_I (by decide)) (p_em_A (by decide)), E2, zD.one (kd := 0) (by decide) v2 E3 E4 (Or.inl ⟨by decide, fun q0 => absurd q0 (by decide), by omega, rfl⟩), by omega⟩
  rw [if_neg h41] at he lu ⊢
  rw [if_neg h41]
  by_cases h34 : K a = 34
  · rw [if_pos h34] at he lu ⊢
    rw [if_pos h34, if_pos h34]
    obtain ⟨d8, v8, k35⟩ : d < 8 ∧ e_vE K n (d + 1) (a + 1) ∧ K (e_E K n (a + 1)) = 35 := by
      rcases hv with h | h | h
      · exact absurd h h41
      · exact h.2
      · omega
    have W1 : zW (16 :: w) (p_pu (nI 16) (p_op k d (a, 0))) := by
      refine zW.pu (W.fr ?_ ?_) (by omega)
      · unfold p_op
        split
        · exact q_sI_n (by omega)
        · rfl
      · unfold p_op
        split
        · rw [qA_sI]
        · rfl
    rcases HE (d + 1) (a + 1) h (p_pu (nI 16) (p_op k d (a, 0))) q st (16 :: w) (by omega) v8 (by omega) (Or.inr ⟨w, rfl⟩) (by rw [List.length_cons]; omega) (by omega) (by omega) ((Z.op hc).pu hc) W1 with ⟨q', R1, R2, R3, R4, R5⟩ | B
    · left
      refine ⟨q', ?_, R2.cl, R3, R4, by omega⟩
      exact (R1.s78 hc).s12 hc
    · right
      exact B.fr T.M g_S.rf p_LW.rf.po (by omega)
  rw [if_neg h34] at he lu ⊢
  rw [if_neg h34, if_neg h34]
  obtain ⟨k40, k27, k41⟩ : K a = 40 ∧ K (a + 1) = 27 ∧ K (a + 2) = 41 := by
    rcases hv with h | h | h
    · exact absurd h h41
    · exact absurd h.1 h34
    · exact h
  have eu : p_un K P X U set m (a, 0) k = p_em 1 (p_ua k (p_ug set m (U a) k)) (nI (X (a + 2))) (p_xw P X (a + 2) (p_fw P a (p_ug set m (U a) k) k)) := by
    unfold p_un
    rw [if_neg (fun h9 => h41 (y_is_0.mp h9))]
  rw [eu]
  obtain ⟨O, M, G, C⟩ := id Z
  have N1 : zN K e a := ⟨by omega, k40⟩
  have eg := M.ug (set := set) T G N1
  rw [← eg]
  obtain ⟨v1, v2, v3, _⟩ := T.2.2 (a + 2) (by omega) k41
  cases hf : g_ft 1 m (V a) h with
  | none =>
    right
    rw [g_fw_0, p_fw_0]
    exact zB.mk (h1 := h) (k1 := k) (n := 4) (i := a) T.M O (by decide) (by decide) (by omega) (by omega) ((g_S.rf.xw).cx (by omega)) O.1 p_LW.rf ((p_LW.rf.xw (by omega)).em)
  | some j =>
    rw [g_fw_s, p_fw_s]
    obtain ⟨hj, _, _, x, hx, e1, e2⟩ := M.nd hf
    have x4 := hN x hx
    have en : g_nu (some j) h = nI x := e1
    have ep : p_ua k (some j) = nI x := e2
    rw [en, ep, v1]
    by_cases hX : X (a + 2) ≤ 1
    · left
      have eg2 : g_xw (a + 2) (V (a + 2)) h = h := by
        unfold g_xw
        exact if_pos (v3.mpr hX)
      have ep2 : p_xw P X (a + 2) k = k := by
        unfold p_xw
        exact if_pos hX
      rw [eg2, ep2, show (2 : Int32) * nI x + nI (X (a + 2)) = nI (2 * x + X (a + 2)) by rw [show (2 : Int32) = nI 2 from rfl, pk_mul, nI_add]]
      obtain ⟨E1, E2, E3, E4⟩ := Z.em (kd := 1) (v := 2 * x + X (a + 2)) (w := 1) (x := nI x) (y := nI (X (a + 2))) hc (by decide) (by omega) (by omega) rfl (fun q0 => by cases q0) (fun _ => by
        rw [show (2 * x + X (a + 2)) / 2 = x by omega, show (2 * x + X (a + 2)) % 2 = X (a + 2) by omega]
        exact ⟨rfl, rfl⟩)
      exact ⟨q + 1, E1, W.fr (p_em_I (by decide)) (p_em_A (by decide)), E2, zD.one (kd := 1) (by decide) (by omega) E3 E4 (Or.inl ⟨by decide, fun _ => by omega, by omega, rfl⟩), by omega⟩
    · right
      have eg2 : g_xw (a + 2) (V (a + 2)) h = g_fa (nI 5) (a + 2) h := by
        unfold g_xw
        exact if_neg (fun q0 => hX (v3.mp q0))
      have ep2 : p_xw P X (a + 2) k = p_wr P 5 (a + 2) k := by
        unfold p_xw
        exact if_neg hX
      rw [eg2, ep2]
      exact zB.mk (h1 := h) (k1 := k) (n := 5) (i := a + 2) T.M O (by decide) (by decide) (by omega) (by omega) (g_S.rf.cx (by omega)) O.1 p_LW.rf (p_LW.rf.em)
/-- units behind a first one -/
theorem z_R {n d st : Nat} {w : List Nat} (T : zTk K P X V U e) (hc : c = 11 ∨ c = 300) (hN : ∀ x, NX x → x < nn) (hn4 : nn ≤ 4) (he12 : e ≤ 1200) (HE : zWE K P X V U e NX lx l nw m set c nn n) (hd : d ≤ 8) (hb : zWb w) (hw : w.length ≤ 3 * d) (hst : st ≤ 2 * d) : ∀ u neg sg a h k ks q, (neg = true → sg = 0) → (sg = 0 ∨ sg = 31 ∨ sg = 32) → e_vR K (e_E K n) (e_vE K n) d u a → e_R K (e_E K n) u a ≤ e → q + g_b2n neg + g_s2n sg ≤ a → p_sw 2 k = ks → p_sw 1 k = p_sw 1 ks → zQ K V U e NX lx l nw m set c q h ks → zW (zx neg sg ++ w) ks → (∃ q', zQ K V U e NX lx l nw m set c q' (g_R K V c m (e_E K n) (g_E K V c m n) u neg sg a h) (p_sw 1 (e_pR K P X U set m (e_E K n) (e_pE K P X U set m n) d u a k)) ∧ zW w (p_sw 1 (e_pR K P X U set m (e_E K n) (e_pE K P X U set m n) d u a k)) ∧ zA c q h (g_R K V c m (e_E K n) (g_E K V c m n) u neg sg a h) ∧ zD c nn (g_R K V c m (e_E K n) (g_E K V c m n) u neg sg a h) q (st + 1 + g_s2n sg) q' (st + 1) ∧ q' + a ≤ q + g_b2n neg + g_s2n sg + e_R K (e_E K n) u a) ∨ zB P e (e_R K (e_E K n) u a) (g_R K V c m (e_E K n) (g_E K V c m n) u neg sg a h) (p_sw 1 (e_pR K P X U set m (e_E K n) (e_pE K P X U set m n) d u a k)) := by
  intro u
  induction u with
  | zero =>
    intro neg sg a h k ks q hx hsg hv he hq e2 e1 Z W
    left
    have he : a ≤ e := he
    show ∃ q', zQ K V U e NX lx l nw m set c q' (g_sn c neg sg h) (p_sw 1 k) ∧ zW w (p_sw 1 k) ∧ zA c q h (g_sn c neg sg h) ∧ zD c nn (g_sn c neg sg h) q (st + 1 + g_s2n sg) q' (st + 1) ∧ q' + a ≤ q + g_b2n neg + g_s2n sg + a
    rw [e1]
    obtain ⟨S1, S2, S3, S4⟩ := z_sn (nn := nn) (st := st) hc hb (by omega) hx hsg Z W (by omega)
    exact ⟨_, S1, S2, S3, S4, Nat.le_refl _⟩
  | succ u ih =>
    intro neg sg a h k ks q hx hsg hv he hq e2 e1 Z W
    have hcn : ¬ c = 589 := by omega
    have Lw := zx_len (neg := neg) (sg := sg)
    unfold e_vR at hv
    unfold e_R at he ⊢
    unfold g_R e_pR
    have sn := z_sn (nn := nn) (st := st) hc hb (by omega) hx hsg Z W (by
      have : a ≤ e := by
        split at he
        · have h1 := e_R_le (K := K) (r := e_E K n) (e_E_le n) u (e_U K (e_E K n) (a + 1))
          have h2 := e_U_le (K := K) (e_E_le n) (a := a + 1) (r := e_E K n)
          omega
        · exact he
      omega)
    by_cases hs : e_sg K a = true
    rotate_left 1
    · have hc3 : ¬ (K a = 31 ∨ K a = 32 ∨ K a = 33) := fun h9 => hs (e_sg_c.mpr h9)
      rw [if_neg hs, if_neg (show ¬ K a = 33 by omega), if_neg (show ¬ (K a = 31 ∨ K a = 32) by omega), if_neg hs, e1]
      left
      obtain ⟨S1, S2, S3, S4⟩ := sn
      exact ⟨_, S1, S2, S3, S4, Nat.le_refl _⟩
    rw [if_pos hs] at hv he
    rw [if_pos hs, if_pos hs]
    have lu := e_U_le (K := K) (e_E_le n) (a := a + 1) (r := e_E K n)
    have lr := e_R_le (K := K) (r := e_E K n) (e_E_le n) u (e_U K (e_E K n) (a + 1))
    by_cases h33 : K a = 33
    · rw [if_pos h33]
      have esp : p_sp K (a, 0) k = p_pu (nI 15) ks := by
        unfold p_sp
        rw [if_pos (y_is_0.mpr h33), e2, show K (a, 0).1 = 33 from h33]
        rfl
      rw [esp]
      rcases z_U (st := st + 1 + g_s2n sg) T hc hN hn4 he12 HE hd hv.1 (by omega) (w := 15 :: (zx neg sg ++ w)) (by rw [List.length_cons, List.length_append]; omega) (by have : g_s2n sg ≤ 1 := (by unfold g_s2n; split <;> omega); omega) (by omega) (Z.pu hc) (W.pu (x := 15) (by rw [List.length_append]; omega)) with ⟨q1, U1, U2, U3, U4, U5⟩ | B
      · generalize g_U K V c m (g_E K V c m n) (a + 1) h = h1 at *
        generalize e_pU K P X U set m (e_pE K P X U set m n) d (a + 1) (p_pu (nI 15) ks) = k1 at *
        obtain ⟨E1, E2, E3, E4⟩ := (U1.s78 (v := nI (zx neg sg ++ w).length) hc).em (kd := 5) (v := 0) (w := 5) (x := 0) (y := 0) hc (by decide) (by decide) (by omega) rfl (fun q0 => by cases q0) (fun q0 => by cases q0)
        have hl : (zx neg sg ++ w).length < 40 := by rw [List.length_append]; omega
        have top : zx neg sg ++ w = [] ∨ ∃ x w0, zx neg sg ++ w = x :: w0 ∧ p_st (nI x) < 2 := by
          unfold zx
          split
          · exact Or.inr ⟨3, w, rfl, by decide⟩
          · split
            · exact Or.inr ⟨13, w, rfl, by decide⟩
            · split
              · exact Or.inr ⟨14, w, rfl, by decide⟩
              · exact hb.st (by decide)
        have ez : p_em 5 0 0 (q_sI k1 630 78 (nI (zx neg sg ++ w).length)) = zpo (zx neg sg ++ w) 15 k1 := rfl
        rw [ez] at E1
        have p2 : p_sw 2 k1 = zpo (zx neg sg ++ w) 15 k1 := (U2.po hl (by decide)).trans (U2.pop.st (by omega) top)
        have p1 : p_sw 1 k1 = p_sw 1 (zpo (zx neg sg ++ w) 15 k1) := U2.po hl (by decide)
        have D1 : zD c nn (g_cx c 5 (nI 0) h1) q1 (st + 1 + g_s2n sg + 1) (q1 + 1) (st + 1 + g_s2n sg) := zD.one (kd := 5) (by decide) (by decide) E3 E4 (Or.inr (Or.inr ⟨by decide, by omega, rfl⟩))
        rcases ih neg sg _ (g_cx c 5 (nI 0) h1) k1 _ (q1 + 1) hx hsg hv.2 he (by omega) p2 p1 E1 U2.pop with ⟨q', R1, R2, R3, R4, R5⟩ | B
        · left
          refine ⟨q', R1, R2, (U3.trans E2 U4.1).trans R3 (by have := U4.1; omega), ?_, by omega⟩
          exact (((U4.fr E2).trans D1).fr R3).trans R4
        · exact Or.inr B
      · right
        refine B.fr T.M ?_ ?_ (by omega)
        · exact g_S.R hcn (g_S.E hcn n) _ _ _ _ _ (g_S.rf.cx hcn)
        · exact (p_LW.eR (e_E_le n) (p_LW.eE n) _ _ _ (Nat.le_refl _) p_LW.rf).sw
    · rw [if_neg h33]
      have hk : K a = 31 ∨ K a = 32 := by
        have := e_sg_c.mp hs
        omega
      rw [if_pos hk]
      obtain ⟨S1, S2, S3, S4⟩ := sn
      have hs1 : g_s2n (K a) = 1 := if_neg (by omega)
      have esp : p_sp K (a, 0) k = p_pu (nI (t_ph (K a))) (p_sw 1 ks) := by
        unfold p_sp
        rw [if_neg (fun h9 => h33 (y_is_0.mp h9)), e1]
      rw [esp]
      have ex : zx false (K a) ++ w = t_ph (K a) :: w := by
        rcases hk with h9 | h9 <;> rw [h9] <;> rfl
      have W1 : zW (zx false (K a) ++ w) (p_pu (nI (t_ph (K a))) (p_sw 1 ks)) := by
        rw [ex]
        exact S2.pu (by omega)
      have lx1 : (zx false (K a) ++ w).length = w.length + 1 := by rw [ex]; rfl
      rcases z_U (st := st + 1) T hc hN hn4 he12 HE hd hv.1 (by omega) (w := zx false (K a) ++ w) (by omega) (by omega) (by omega) (S1.pu hc) W1 with ⟨q1, U1, U2, U3, U4, U5⟩ | B
      · generalize hg1 : g_U K V c m (g_E K V c m n) (a + 1) (g_sn c neg sg h) = h1 at *
        generalize e_pU K P X U set m (e_pE K P X U set m n) d (a + 1) (p_pu (nI (t_ph (K a))) (p_sw 1 ks)) = k1 at *
        have top : zx false (K a) ++ w = [] ∨ ∃ x w0, zx false (K a) ++ w = x :: w0 ∧ p_st (nI x) < 2 := by
          right
          rcases hk with h9 | h9
          · exact ⟨13, w, by rw [h9]; rfl, by decide⟩
          · exact ⟨14, w, by rw [h9]; rfl, by decide⟩
        have p2 : p_sw 2 k1 = k1 := U2.st (by omega) top
        have b0 : g_b2n false = 0 := rfl
        rcases ih false (K a) _ h1 k1 k1 q1 (fun h9 => by cases h9) (by omega) hv.2 he (by omega) p2 rfl U1 U2 with ⟨q', R1, R2, R3, R4, R5⟩ | B
        · left
          refine ⟨q', R1, R2, (S3.trans U3 S4.1).trans R3 (by have := U4.1; have := S4.1; omega), ?_, by omega⟩
          rw [hs1] at R4
          exact (((S4.fr U3).trans U4).fr R3).trans R4
        · exact Or.inr B
      · right
        refine B.fr T.M ?_ ?_ (by omega)
        · exact g_S.R hcn (g_S.E hcn n) _ _ _ _ _ g_S.rf
        · exact (p_LW.eR (e_E_le n) (p_LW.eE n) _ _ _ (Nat.le_refl _) p_LW.rf).sw
theorem z_WE (T : zTk K P X V U e) (hc : c = 11 ∨ c = 300) (hN : ∀ x, NX x → x < nn) (hn4 : nn ≤ 4) (he12 : e ≤ 1200) : ∀ n, zWE K P X V U e NX lx l nw m set c nn n := by
  intro n
  induction n with
  | zero => intro d a h k q st w hd hv; exact hv.elim
  | succ n ih =>
    intro d a h k q st w hd hv he hb hw hst hq Z W
    have hcn : ¬ c = 589 := by omega
    unfold e_E at he ⊢
    unfold g_E e_pE
    have lu := e_U_le (K := K) (e_E_le n) (a := e_a1 K a) (r := e_E K n)
    have lr := e_R_le (K := K) (r := e_E K n) (e_E_le n) n (e_U K (e_E K n) (e_a1 K a))
    have ea : e_a1 K a = a + g_b2n (decide (K a = 32)) := by
      unfold e_a1
      by_cases h9 : K a = 32
      · rw [if_pos h9, decide_eq_true h9]; rfl
      · rw [if_neg h9, decide_eq_false h9]; rfl
    have W1 : zW (zx (decide (K a = 32)) 0 ++ w) (if K a = 32 then p_pu 3 k else k) := by
      by_cases h9 : K a = 32
      · rw [if_pos h9, decide_eq_true h9]
        exact W.pu (x := 3) (by omega)
      · rw [if_neg h9, decide_eq_false h9]
        exact W
    have Z1 : zQ K V U e NX lx l nw m set c q h (if K a = 32 then p_pu 3 k else k) := by
      split
      · exact Z.pu hc
      · exact Z
    have Lw := zx_len (neg := decide (K a = 32)) (sg := 0)
    generalize (if K a = 32 then p_pu 3 k else k) = k0 at *
    rcases z_U (st := st) T hc hN hn4 he12 ih hd hv.1 (by omega) (w := zx (decide (K a = 32)) 0 ++ w) (by rw [List.length_append]; omega) (by omega) (by omega) Z1 W1 with ⟨q1, U1, U2, U3, U4, U5⟩ | B
    · generalize hg1 : g_U K V c m (g_E K V c m n) (e_a1 K a) h = h1 at *
      generalize e_pU K P X U set m (e_pE K P X U set m n) d (e_a1 K a) k0 = k1 at *
      have top : zx (decide (K a = 32)) 0 ++ w = [] ∨ ∃ x w0, zx (decide (K a = 32)) 0 ++ w = x :: w0 ∧ p_st (nI x) < 2 := by
        unfold zx
        split
        · exact Or.inr ⟨3, w, rfl, by decide⟩
        · exact hb.st (by decide)
      have p2 : p_sw 2 k1 = k1 := U2.st (by rw [List.length_append]; omega) top
      have s0 : g_s2n 0 = 0 := rfl
      rcases z_R (st := st) T hc hN hn4 he12 ih hd hb hw hst n (decide (K a = 32)) 0 _ h1 k1 k1 q1 (fun _ => rfl) (Or.inl rfl) hv.2 he (by omega) p2 rfl U1 U2 with ⟨q', R1, R2, R3, R4, R5⟩ | B
      · left
        refine ⟨q', R1, R2, U3.trans R3 U4.1, (U4.fr R3).trans R4, by omega⟩
      · exact Or.inr B
    · right
      refine B.fr T.M ?_ ?_ (by omega)
      · exact g_S.R hcn (g_S.E hcn n) _ _ _ _ _ g_S.rf
      · exact (p_LW.eR (e_E_le n) (p_LW.eE n) _ _ _ (Nat.le_refl _) p_LW.rf).sw
/-- a whole sum -/
theorem z_ex {q : Nat} {a : Nat} (T : zTk K P X V U e) (hc : c = 11 ∨ c = 300) (hN : ∀ x, NX x → x < nn) (hn4 : nn ≤ 4) (he12 : e ≤ 1200) (ha : a ≤ 1200) (hy : (y_E K (a, 0)).2 = 0) (he : e_E K 1202 a ≤ e) (hq : q ≤ a) (Z : zQ K V U e NX lx l nw m set c q h k) : (∃ q', zQ K V U e NX lx l nw m set c q' (g_E K V c m 1202 a h) (p_ex K P X U set m (a, 0) k) ∧ zA c q h (g_E K V c m 1202 a h) ∧ zD c nn (g_E K V c m 1202 a h) q 0 q' 1 ∧ q' + a ≤ q + e_E K 1202 a) ∨ zB P e (e_E K 1202 a) (g_E K V c m 1202 a h) (p_ex K P X U set m (a, 0) k) := by
  obtain ⟨v, _, _, _, _, b6⟩ := e_all (P := P) (X := X) (U := U) (set := set) (L := m) ha hy
  rw [b6]
  rcases z_WE (set := set) (m := m) (lx := lx) (l := l) (nw := nw) T hc hN hn4 he12 1202 0 a h (q_sI k 630 78 0) q 0 [] (by decide) v he (Or.inl rfl) (Nat.zero_le _) (Nat.le_refl _) hq (Z.s78 hc) ⟨q_sI_e, trivial⟩ with ⟨q', R1, _, R3, R4, R5⟩ | B
  · exact Or.inl ⟨q', R1, R3, R4, R5⟩
  · exact Or.inr B
end ZQ
