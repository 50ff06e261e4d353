/-! THE BUILDER OF THE CLASS: sums -/
def g_cx (c : Nat) (x y : Int32) (h : q_Hp) : q_Hp := g_cd c (qI h c 4 : Int32).toNatClampNeg x y h
def g_xw (a : Nat) (v : Int64) (h : q_Hp) : q_Hp := if lg_cmp v 1 ≤ 0 then h else g_fa 5 a h
def g_U (K : Nat → Nat) (V : Nat → Int64) (c m : Nat) (rg : Nat → q_Hp → q_Hp) (a : Nat) (h : q_Hp) : q_Hp := if K a = 41 then g_cx c 0 (V a).toInt32 h else if K a = 34 then rg (a + 1) h else g_cx c 1 (2 * g_nu (g_ft 1 m (V a) h) h + (V (a + 2)).toInt32) (g_xw (a + 2) (V (a + 2)) (g_fw a (g_ft 1 m (V a) h) h))
def g_ng (c : Nat) (neg : Bool) (h : q_Hp) : q_Hp := if neg = true then g_cx c 2 0 h else h
def g_sn (c : Nat) (neg : Bool) (sg : Nat) (h : q_Hp) : q_Hp := if sg = 0 then g_ng c neg h else g_cx c (if sg = 31 then 3 else 4) 0 (g_ng c neg h)
def g_R (K : Nat → Nat) (V : Nat → Int64) (c m : Nat) (r : Nat → Nat) (rg : Nat → q_Hp → q_Hp) : Nat → Bool → Nat → Nat → q_Hp → q_Hp
  | 0, neg, sg, _, h => g_sn c neg sg h
  | n + 1, neg, sg, a, h => if K a = 33 then g_R K V c m r rg n neg sg (e_U K r (a + 1)) (g_cx c 5 0 (g_U K V c m rg (a + 1) h)) else if K a = 31 ∨ K a = 32 then g_R K V c m r rg n false (K a) (e_U K r (a + 1)) (g_U K V c m rg (a + 1) (g_sn c neg sg h)) else g_sn c neg sg h
def g_E (K : Nat → Nat) (V : Nat → Int64) (c m : Nat) : Nat → Nat → q_Hp → q_Hp
  | 0, _, h => h
  | n + 1, a, h => g_R K V c m (e_E K n) (g_E K V c m n) n (decide (K a = 32)) 0 (e_U K (e_E K n) (e_a1 K a)) (g_U K V c m (g_E K V c m n) (e_a1 K a) h)
theorem e_U_le {K : Nat → Nat} {r : Nat → Nat} (hr : ∀ a, a ≤ r a) {a : Nat} : a + 1 ≤ e_U K r a := by
  unfold e_U
  have := hr (a + 1)
  split
  · omega
  · split <;> omega
theorem e_R_le {K : Nat → Nat} {r : Nat → Nat} (hr : ∀ a, a ≤ r a) : ∀ n a, a ≤ e_R K r n a := by
  intro n
  induction n with
  | zero => intro a; exact Nat.le_refl a
  | succ n ih =>
    intro a
    unfold e_R
    split
    · have h1 := e_U_le (K := K) hr (a := a + 1)
      have h2 := ih (e_U K r (a + 1))
      omega
    · exact Nat.le_refl a
theorem e_E_le {K : Nat → Nat} : ∀ n a, a ≤ e_E K n a := by
  intro n
  induction n with
  | zero => intro a; exact Nat.le_refl a
  | succ n ih =>
    intro a
    unfold e_E
    have h1 := e_U_le (K := K) ih (a := e_a1 K a)
    have h2 := e_R_le (K := K) ih n (e_U K (e_E K n) (e_a1 K a))
    have h3 : a ≤ e_a1 K a := by
      unfold e_a1
      split <;> omega
    omega
def g_b2n (b : Bool) : Nat := if b = true then 1 else 0
def g_s2n (s : Nat) : Nat := if s = 0 then 0 else 1
section GB
variable {K Pl : Nat → Nat} {V : Nat → Int64} {e c a : Nat} {h0 h : q_Hp}
theorem g_cx_e {d : Nat} {x y : Int32} (hd : qI h0 c 4 = nI d) (h12 : d < 2 ^ 31) : g_cx c x y h0 = g_cd c d x y h0 := by
  unfold g_cx
  rw [hd, nI_clamp h12]
theorem g_cd_4 {d : Nat} {x y : Int32} : qI (g_cd c d x y h0) c 4 = nI (d + 1) := q_sI_e
theorem g_cd_I {d o j : Nat} {x y : Int32} (h9 : ¬ (o = c ∧ j = 4)) : qI (g_cd c d x y h0) o j = qI h0 o j := by
  unfold g_cd
  rw [q_sI_n h9, qI_sA, qI_sA]
theorem g_cd_L {d : Nat} {x y : Int32} : qL (g_cd c d x y h0) = qL h0 := rfl
theorem g_cd_R {d : Nat} {x y : Int32} : qR (g_cd c d x y h0) = qR h0 := rfl
theorem g_cd_A {d x : Nat} {v w : Int32} (h9 : ¬ x = c + 6 ∧ ¬ x = c + 7) : qA (g_cd c d v w h0) x = qA h0 x := by
  unfold g_cd
  rw [qA_sI, qA_sAn h9.2, qA_sAn h9.1]
theorem s18x {d : Nat} {v w : Int32} (Y : g_y K Pl V e c h0 h a) (hn : qI h0 c 4 = nI d) (h12 : d < 1200) : q_mV 0 18 [.ref c, .int v, .int w] h (fun h' => g_y K Pl V e c (g_cx c v w h0) h' a ∧ qI (g_cx c v w h0) c 4 = nI (d + 1)) := by
  rw [g_cx_e hn (by omega)]
  exact (s18 Y hn h12).mono (Nat.le_refl _) (fun h' Y' => ⟨Y', g_cd_4⟩)
theorem s49 (Y : g_y K Pl V e c h0 h a) (ha : a < e) : q_mI 1 49 [.ref 589] h (fun z h' => z = (V a).toInt32 ∧ g_y K Pl V e c (g_xw a (V a) h0) h' (a + 1)) := by
  refine q_mI.of (q_recV rfl Y.ok) (fun Q fin => ?_)
  refine b49_0 (v0 := 3) Y.ok (Y.sh.ref rfl) (by rw [Y.ea]; exact s190 Y.sh Y.C Y.le) (by decide) ?_
  rintro z h2 ⟨e0, rfl⟩
  subst h2
  refine b49_11 (fun c1 => b49_23 Y.ok (fin _ _ ⟨rfl, ?_⟩)) (fun c1 => b49_18 (s26 Y) (by decide) (fun h' Y' => b49_23 Y'.ok (fin _ _ ⟨rfl, ?_⟩)))
  · unfold g_xw
    rw [if_pos c1]
    exact Y.n1 (by omega)
  · unfold g_xw
    rw [if_neg c1]
    exact Y'.n1 (by omega)
theorem g_xw_I {o j x : Nat} {v : Int64} (h9 : ¬ (o = 589 ∧ (j = 15 ∨ j = 16))) : qI (g_xw x v h0) o j = qI h0 o j := by
  unfold g_xw
  split
  · rfl
  · exact g_fa_I h9
theorem g_xw_A {x : Nat} {v : Int64} : qA (g_xw x v h0) = qA h0 := by
  unfold g_xw
  split
  · rfl
  · exact g_fa_A
theorem g_xw_L {x : Nat} {v : Int64} : qL (g_xw x v h0) = qL h0 := by
  unfold g_xw
  split
  · rfl
  · exact g_fa_L
theorem g_xw_R {x : Nat} {v : Int64} : qR (g_xw x v h0) = qR h0 := by
  unfold g_xw
  split
  · rfl
  · exact g_fa_R
/-- what a sum in so many brackets is claimed to do -/
def g_WE (K Pl : Nat → Nat) (V : Nat → Int64) (e c m n : Nat) : Prop := ∀ d a h0 h q, d ≤ 8 → e_vE K n d a → e_E K n a ≤ e → g_y K Pl V e c h0 h a → qI h0 c 4 = nI q → q ≤ a → qI h0 589 9 = nI m → q_mV (3 + 2 * (8 - d)) 50 [.ref 589, .int (nI d)] h (fun h' => g_y K Pl V e c (g_E K V c m n a h0) h' (e_E K n a) ∧ qI (g_E K V c m n a h0) 589 9 = nI m ∧ ∃ q', qI (g_E K V c m n a h0) c 4 = nI q' ∧ q' + a ≤ q + e_E K n a)
theorem s51 {n m d q : Nat} (H : g_WE K Pl V e c m n) (hm : m ≤ 22) (hd : d ≤ 8) (hv : e_vU K (e_E K n) (e_vE K n) d a) (he : e_U K (e_E K n) a ≤ e) (Y : g_y K Pl V e c h0 h a) (hq : qI h0 c 4 = nI q) (hqa : q ≤ a) (ht : qI h0 589 9 = nI m) : q_mV (2 + 2 * (8 - d)) 51 [.ref 589, .int (nI d)] h (fun h' => g_y K Pl V e c (g_U K V c m (g_E K V c m n) a h0) h' (e_U K (e_E K n) a) ∧ qI (g_U K V c m (g_E K V c m n) a h0) 589 9 = nI m ∧ ∃ q', qI (g_U K V c m (g_E K V c m n) a h0) c 4 = nI q' ∧ q' + a ≤ q + e_U K (e_E K n) a) := by
  refine q_mV.of (q_recV rfl Y.ok) (fun Q fin => ?_)
  have hc := Y.c2
  have e12 := Y.e12
  have lu := e_U_le (K := K) (e_E_le n) (a := a) (r := e_E K n)
  rw [show 2 + 2 * (8 - d) = (1 + 2 * (8 - d)) + 1 by omega]
  have k43 := (Y.C.2.2 a Y.le).2.1
  unfold g_U at fin
  unfold e_U at fin he lu
  refine b51_0 (s25 Y) (by omega) ?_
  rintro z h2 ⟨e0, rfl⟩
  subst h2
  refine b51_4 (fun c1 => ?_) (fun c1 => ?_)
  rotate_left 1
  · have h41 : K a = 41 := (nI_eq (b := 41) (by omega) (by decide)).mp c1
    rw [if_pos h41] at fin he lu
    rw [if_pos h41] at fin
    refine b51_9 (v0 := c) (v1 := 3) Y.ok Y.bk (Y.sh.ref rfl) (by rw [Y.ea]; exact s190 Y.sh Y.C Y.le) (by omega) ?_
    rintro z h2 ⟨e0, rfl⟩
    subst h2
    refine b51_25 (s18x Y hq (by omega)) (by omega) ?_
    rintro h3 ⟨Y3, q3⟩
    refine b51_29 Y3.ok (b51_128 (fin _ ⟨Y3.n1 (by omega), ?_, q + 1, q3, by omega⟩))
    rw [g_cx_e hq (by omega), g_cd_I (by omega)]
    exact ht
  have n41 : ¬ K a = 41 := fun h9 => c1 (by rw [h9]; rfl)
  rw [if_neg n41] at fin he lu
  rw [if_neg n41] at fin
  refine b51_42 (s25 Y) (by omega) ?_
  rintro z h2 ⟨e0, rfl⟩
  subst h2
  refine b51_46 (fun c2 => ?_) (fun c2 => ?_)
  · have n34 : ¬ K a = 34 := fun h9 => c2 (by rw [h9]; rfl)
    rw [if_neg n34] at fin he lu
    rw [if_neg n34] at fin
    refine b51_87 (v0 := 594) Y.ok (Y.sh.ref rfl) (s35 Y (by omega) ht hm) (by omega) ?_
    rintro z h2 ⟨rfl, Y2⟩
    refine b51_96 (s232 (n := 22) (Y2.sh.ok rfl) (Y2.sh.len rfl) (by decide)) (by omega) ?_
    rintro z h3 ⟨e0, rfl⟩
    subst h3
    rw [g_at (fun j h9 => by have := g_ft_lt h9; omega), Y2.A (by decide), g_fw_A]
    refine b51_99 Y2.ok (s49 (Y2.n1 (by omega)) (by omega)) (by omega) ?_
    rintro z h4 ⟨rfl, Y4⟩
    refine b51_114 (v0 := c) Y4.ok Y4.bk (s18x (d := q) Y4 (by rw [g_xw_I (by omega), g_fw_I (by omega)]; exact hq) (by omega)) (by omega) ?_
    rintro h5 ⟨Y5, q5⟩
    refine b51_128 (fin _ ⟨Y5, ?_, q + 1, q5, by omega⟩)
    rw [g_cx_e (d := q) (by rw [g_xw_I (by omega), g_fw_I (by omega)]; exact hq) (by omega), g_cd_I (by omega), g_xw_I (by omega), g_fw_I (by omega)]
    exact ht
  · have h34 : K a = 34 := (nI_eq (b := 34) (by omega) (by decide)).mp c2
    rw [if_pos h34] at fin he lu
    rw [if_pos h34] at fin
    obtain ⟨d8, v8, k35⟩ : d < 8 ∧ e_vE K n (d + 1) (a + 1) ∧ K (e_E K n (a + 1)) = 35 := by
      rcases hv with h | h | h
      · exact absurd h n41
      · exact h.2
      · omega
    refine b51_51 (fun c3 => ?_) (fun _ => ?_)
    · have := (nI_leI (a := 8) (by decide) (by omega)).mp c3
      omega
    have Y1 := Y.n1 (show a + 1 ≤ e by omega)
    refine b51_57 Y.ok (by rw [nI_1]; exact H (d + 1) (a + 1) h0 _ q (by omega) v8 (by omega) Y1 hq (by omega) ht) (by omega) ?_
    rintro h3 ⟨Y3, t3, q', q3, q4⟩
    exact b51_74 Y3.ok (b51_128 (fin _ ⟨Y3.n1 (by omega), t3, q', q3, by omega⟩))
theorem g_ng_q {neg : Bool} {q : Nat} (hq : qI h0 c 4 = nI q) (h12 : q < 2 ^ 31) (hc : c = 11 ∨ c = 300) : qI (g_ng c neg h0) c 4 = nI (q + g_b2n neg) ∧ qI (g_ng c neg h0) 589 9 = qI h0 589 9 := by
  unfold g_ng g_b2n
  cases neg
  · exact ⟨hq, rfl⟩
  · rw [if_pos rfl, if_pos rfl, g_cx_e hq h12]
    exact ⟨g_cd_4, g_cd_I (by omega)⟩
theorem s50_50 {n m d : Nat} {Q : Option Value → q_Hp → Prop} (H : g_WE K Pl V e c m n) (hm : m ≤ 22) (hd : d ≤ 8) : ∀ u neg sg a h0 h t4 t5 q, (sg = 0 ∨ sg = 31 ∨ sg = 32) → e_vR K (e_E K n) (e_vE K n) d u a → e_R K (e_E K n) u a ≤ e → t4 ≤ a → t5 ≤ a → g_y K Pl V e c h0 h a → qI h0 c 4 = nI q → q + g_b2n neg + g_s2n sg ≤ a → qI h0 589 9 = nI m → (∀ h', g_y K Pl V e c (g_R K V c m (e_E K n) (g_E K V c m n) u neg sg a h0) h' (e_R K (e_E K n) u a) → qI (g_R K V c m (e_E K n) (g_E K V c m n) u neg sg a h0) 589 9 = nI m → (∃ q', qI (g_R K V c m (e_E K n) (g_E K V c m n) u neg sg a h0) c 4 = nI q' ∧ q' + a ≤ q + g_b2n neg + g_s2n sg + e_R K (e_E K n) u a) → Q none h') → q_wp (3 + 2 * (8 - d)) 50 50 [some (.ref 589), some (.int (nI d)), some (.int (b2i neg)), some (.int (if sg = 0 then -1 else nI sg)), some (.int (nI t4)), some (.int (nI t5))] [] h Q := by
  intro u
  rw [show 3 + 2 * (8 - d) = (2 + 2 * (8 - d)) + 1 by omega]
  induction u with
  | zero =>
    intro neg sg a h0 h t4 t5 q hsg hv he h4 h5 Y hq hqa ht fin
    have e12 := Y.e12
    have le := Y.le
    have hc := Y.c2
    have k43 := (Y.C.2.2 a Y.le).2.1
    have nsg : e_sg K a = false := hv
    have n33 : ¬ (K a = 31 ∨ K a = 32 ∨ K a = 33) := fun h9 => by rw [e_sg_c.mpr h9] at nsg; cases nsg
    have fin : ∀ h', g_y K Pl V e c (g_sn c neg sg h0) h' a → qI (g_sn c neg sg h0) 589 9 = nI m → (∃ q', qI (g_sn c neg sg h0) c 4 = nI q' ∧ q' + a ≤ q + g_b2n neg + g_s2n sg + a) → Q none h' := fin
    have g136 : ∀ h x2 x3, g_y K Pl V e c (g_sn c neg sg h0) h a → qI (g_sn c neg sg h0) 589 9 = nI m → (∃ q', qI (g_sn c neg sg h0) c 4 = nI q' ∧ q' + a ≤ q + g_b2n neg + g_s2n sg + a) → q_wp (2 + 2 * (8 - d) + 1) 50 136 [some (.ref 589), some (.int (nI d)), some (.int x2), some (.int x3), some (.int (nI t4)), some (.int (nI t5))] [] h Q := by
      intro h x2 x3 Y a1 a2
      refine b50_136 (s25 Y) (by omega) ?_
      rintro z h2 ⟨e0, rfl⟩
      subst h2
      refine b50_140 (fun c1 => absurd (Or.inl ((nI_eq (b := 31) (by omega) (by decide)).mp c1)) n33) (fun _ => b50_147 (fun c1 => absurd (Or.inr (Or.inl ((nI_eq (b := 32) (by omega) (by decide)).mp c1))) n33) (fun _ => b50_153 (fin _ Y a1 a2)))
    have g112 : ∀ h x2, g_y K Pl V e c (g_ng c neg h0) h a → q_wp (2 + 2 * (8 - d) + 1) 50 112 [some (.ref 589), some (.int (nI d)), some (.int x2), some (.int (if sg = 0 then -1 else nI sg)), some (.int (nI t4)), some (.int (nI t5))] [] h Q := by
      intro h x2 Y
      obtain ⟨nq, nt⟩ := g_ng_q (neg := neg) hq (by omega) hc
      refine b50_112 (fun c1 => ?_) (fun c1 => ?_)
      · have s0 : sg = 0 := by
          rcases hsg with h9 | h9 | h9
          · exact h9
          · rw [h9] at c1; exact absurd c1 (by decide)
          · rw [h9] at c1; exact absurd c1 (by decide)
        have es : g_sn c neg sg h0 = g_ng c neg h0 := if_pos s0
        rw [es] at g136
        refine g136 _ _ _ Y (nt.trans ht) ⟨_, nq, ?_⟩
        omega
      · have s0 : ¬ sg = 0 := fun h9 => c1 (by rw [if_pos h9])
        have es : g_sn c neg sg h0 = g_cx c (if sg = 31 then 3 else 4) 0 (g_ng c neg h0) := if_neg s0
        have p1 : g_s2n sg = 1 := if_neg s0
        rw [p1] at hqa g136
        rw [es] at g136
        rw [if_neg s0]
        have g132 : ∀ v, v = (if sg = 31 then (3 : Int32) else 4) → q_wp (2 + 2 * (8 - d) + 1) 50 132 [some (.ref 589), some (.int (nI d)), some (.int x2), some (.int (nI sg)), some (.int (nI t4)), some (.int (nI t5))] [.int v, .ref c] h Q := by
          rintro v rfl
          refine b50_132 (s18x Y nq (by omega)) (by omega) ?_
          rintro h3 ⟨Y3, q3⟩
          refine g136 _ _ _ Y3 ?_ ⟨_, q3, by omega⟩
          rw [g_cx_e nq (by omega), g_cd_I (by omega)]
          exact nt.trans ht
        refine b50_117 (v0 := c) Y.ok Y.bk (fun c2 => b50_131 (g132 _ ?_)) (fun c2 => b50_127 (g132 _ ?_))
        · rw [if_neg (fun h9 => c2 (by rw [h9]; rfl))]
        · rw [if_pos (by rcases hsg with h9 | h9 | h9; exact absurd h9 s0; exact h9; rw [h9] at c2; exact absurd c2 (by decide))]
    have g97 : q_wp (2 + 2 * (8 - d) + 1) 50 97 [some (.ref 589), some (.int (nI d)), some (.int (b2i neg)), some (.int (if sg = 0 then -1 else nI sg)), some (.int (nI t4)), some (.int (nI t5))] [] h Q := by
      refine b50_97 (fun c1 => g112 _ _ ?_) (fun c1 => ?_)
      · unfold g_ng
        rw [b2i_eq.mp c1, if_neg (by decide)]
        exact Y
      · have hn := b2i_ne.mp c1
        have p1 : g_b2n neg = 1 := by rw [hn]; rfl
        rw [p1] at hqa
        refine b50_101 (v0 := c) Y.ok Y.bk (s18x Y hq (by omega)) (by omega) ?_
        rintro h3 ⟨Y3, q3⟩
        refine b50_110 (g112 _ _ ?_)
        unfold g_ng
        rw [if_pos hn]
        exact Y3
    refine b50_50 (fun _ => g97) (fun _ => b50_58 (s25 Y) (by omega) ?_)
    rintro z h2 ⟨e0, rfl⟩
    subst h2
    exact b50_62 (fun _ => g97) (fun c1 => absurd (Or.inr (Or.inr ((nI_eq (b := 33) (by omega) (by decide)).mp c1))) n33)
  | succ u ih =>
    intro neg sg a h0 h t4 t5 q hsg hv he h4 h5 Y hq hqa ht fin
    have e12 := Y.e12
    have hc := Y.c2
    have k43 := (Y.C.2.2 a Y.le).2.1
    have le := Y.le
    unfold e_vR at hv
    unfold e_R at he fin
    unfold g_R at fin
    by_cases h33 : K a = 33
    · have hs : e_sg K a = true := e_sg_c.mpr (Or.inr (Or.inr h33))
      simp only [hs, if_true] at hv he fin
      rw [if_pos h33] at fin
      have lu := e_U_le (K := K) (e_E_le n) (a := a + 1) (r := e_E K n)
      have lr := e_R_le (K := K) (r := e_E K n) (e_E_le n) u (e_U K (e_E K n) (a + 1))
      refine b50_50 (fun c1 => ?_) (fun _ => b50_58 (s25 Y) (by omega) ?_)
      · have := (nI_ltI (a := 1200) (by decide) (by omega)).mp c1
        omega
      rintro z h2 ⟨e0, rfl⟩
      subst h2
      refine b50_62 (fun c1 => absurd (by rw [h33]; rfl) c1) (fun _ => ?_)
      have Y1 := Y.n1 (show a + 1 ≤ e by omega)
      refine b50_67 Y.ok (s51 H hm hd hv.1 (by omega) Y1 hq (by omega) ht) (by omega) ?_
      rintro h3 ⟨Y3, t3, q', q3, q4⟩
      refine b50_82 (v0 := c) Y3.ok Y3.bk (s18x Y3 q3 (by omega)) (by omega) ?_
      rintro h4 ⟨Y4, q5⟩
      refine b50_91 ?_
      rw [nI_1]
      refine ih neg sg _ _ h4 t4 (t5 + 1) (q' + 1) hsg hv.2 he (by omega) (by omega) Y4 q5 (by omega) ?_ (fun h' Y' t' ⟨q6, q7, q8⟩ => fin h' Y' t' ⟨q6, q7, by omega⟩)
      rw [g_cx_e q3 (by omega), g_cd_I (by omega)]
      exact t3
    · rw [if_neg h33] at fin
      obtain ⟨nq, nt⟩ := g_ng_q (neg := neg) hq (by omega) hc
      -- what is behind the products of a part
      have g136 : ∀ h x3 q2, g_y K Pl V e c (g_sn c neg sg h0) h a → qI (g_sn c neg sg h0) 589 9 = nI m → qI (g_sn c neg sg h0) c 4 = nI q2 → q2 ≤ q + g_b2n neg + g_s2n sg → q_wp (2 + 2 * (8 - d) + 1) 50 136 [some (.ref 589), some (.int (nI d)), some (.int 0), some (.int x3), some (.int (nI t4)), some (.int (nI t5))] [] h Q := by
        intro h x3 q2 Y a1 a2 a3
        refine b50_136 (s25 Y) (by omega) ?_
        rintro z h2 ⟨e0, rfl⟩
        subst h2
        have go : (K a = 31 ∨ K a = 32) → q_wp (2 + 2 * (8 - d) + 1) 50 154 [some (.ref 589), some (.int (nI d)), some (.int 0), some (.int (nI (K a))), some (.int (nI t4)), some (.int (nI t5))] [] h Q := by
          intro hk
          have hs : e_sg K a = true := e_sg_c.mpr (by omega)
          simp only [hs, if_true] at hv he fin
          rw [if_pos hk] at fin
          have lu := e_U_le (K := K) (e_E_le n) (a := a + 1) (r := e_E K n)
          have lr := e_R_le (K := K) (r := e_E K n) (e_E_le n) u (e_U K (e_E K n) (a + 1))
          have Y1 := Y.n1 (show a + 1 ≤ e by omega)
          refine b50_154 Y.ok (b50_34 (fun c1 => ?_) (fun _ => b50_42 (s51 H hm hd hv.1 (by omega) Y1 a2 (by omega) a1) (by omega) ?_))
          · rw [nI_1] at c1
            have := (nI_ltI (a := 1200) (by decide) (by omega)).mp c1
            omega
          rintro h3 ⟨Y3, t3, q', q3, q4⟩
          refine b50_47 ?_
          rw [nI_1]
          have := ih false (K a) _ _ h3 (t4 + 1) 0 q' (by omega) hv.2 he (by omega) (by omega) Y3 q3 (by have : g_s2n (K a) ≤ 1 := (by unfold g_s2n; split <;> omega); show q' + 0 + _ ≤ _; omega) t3 (fun h' Y' t' ⟨q6, q7, q8⟩ => fin h' Y' t' ⟨q6, q7, by have : g_s2n (K a) ≤ 1 := (by unfold g_s2n; split <;> omega); have q8 : q6 + e_U K (e_E K n) (a + 1) ≤ q' + 0 + g_s2n (K a) + e_R K (e_E K n) u (e_U K (e_E K n) (a + 1)) := q8; omega⟩)
          rw [if_neg (show ¬ K a = 0 by omega)] at this
          exact this
        refine b50_140 (fun c1 => go (Or.inl ((nI_eq (b := 31) (by omega) (by decide)).mp c1))) (fun c1 => b50_147 (fun c2 => go (Or.inr ((nI_eq (b := 32) (by omega) (by decide)).mp c2))) (fun c2 => b50_153 ?_))
        have n1 : ¬ K a = 31 := fun h9 => c1 (by rw [h9]; rfl)
        have n2 : ¬ K a = 32 := fun h9 => c2 (by rw [h9]; rfl)
        have hs : e_sg K a = false := Bool.eq_false_iff.mpr (fun h9 => by have := e_sg_c.mp h9; omega)
        simp only [hs, Bool.false_eq_true, if_false] at he fin
        rw [if_neg (by omega)] at fin
        exact fin _ Y a1 ⟨q2, a2, by omega⟩
      have g112 : ∀ h, g_y K Pl V e c (g_ng c neg h0) h a → q_wp (2 + 2 * (8 - d) + 1) 50 112 [some (.ref 589), some (.int (nI d)), some (.int 0), some (.int (if sg = 0 then -1 else nI sg)), some (.int (nI t4)), some (.int (nI t5))] [] h Q := by
        intro h Y
        refine b50_112 (fun c1 => ?_) (fun c1 => ?_)
        · have s0 : sg = 0 := by
            rcases hsg with h9 | h9 | h9
            · exact h9
            · rw [h9] at c1; exact absurd c1 (by decide)
            · rw [h9] at c1; exact absurd c1 (by decide)
          have es : g_sn c neg sg h0 = g_ng c neg h0 := if_pos s0
          rw [es] at g136
          exact g136 _ _ _ Y (nt.trans ht) nq (by omega)
        · have s0 : ¬ sg = 0 := fun h9 => c1 (by rw [if_pos h9])
          have es : g_sn c neg sg h0 = g_cx c (if sg = 31 then 3 else 4) 0 (g_ng c neg h0) := if_neg s0
          have p1 : g_s2n sg = 1 := if_neg s0
          rw [p1] at hqa g136
          rw [es] at g136
          rw [if_neg s0]
          have g132 : ∀ v, v = (if sg = 31 then (3 : Int32) else 4) → q_wp (2 + 2 * (8 - d) + 1) 50 132 [some (.ref 589), some (.int (nI d)), some (.int 0), some (.int (nI sg)), some (.int (nI t4)), some (.int (nI t5))] [.int v, .ref c] h Q := by
            rintro v rfl
            refine b50_132 (s18x Y nq (by omega)) (by omega) ?_
            rintro h3 ⟨Y3, q3⟩
            refine g136 _ _ _ Y3 ?_ q3 (by omega)
            rw [g_cx_e nq (by omega), g_cd_I (by omega)]
            exact nt.trans ht
          refine b50_117 (v0 := c) Y.ok Y.bk (fun c2 => b50_131 (g132 _ ?_)) (fun c2 => b50_127 (g132 _ ?_))
          · rw [if_neg (fun h9 => c2 (by rw [h9]; rfl))]
          · rw [if_pos (by rcases hsg with h9 | h9 | h9; exact absurd h9 s0; exact h9; rw [h9] at c2; exact absurd c2 (by decide))]
      have g97 : q_wp (2 + 2 * (8 - d) + 1) 50 97 [some (.ref 589), some (.int (nI d)), some (.int (b2i neg)), some (.int (if sg = 0 then -1 else nI sg)), some (.int (nI t4)), some (.int (nI t5))] [] h Q := by
        cases neg with
        | false =>
          refine b50_97 (fun c1 => g112 _ ?_) (fun c1 => absurd rfl c1)
          unfold g_ng
          rw [if_neg (by decide)]
          exact Y
        | true =>
          have p1 : g_b2n true = 1 := rfl
          rw [p1] at hqa
          refine b50_97 (fun c1 => absurd c1 (by decide)) (fun _ => b50_101 (v0 := c) Y.ok Y.bk (s18x Y hq (by omega)) (by omega) ?_)
          rintro h3 ⟨Y3, q3⟩
          refine b50_110 (g112 _ ?_)
          unfold g_ng
          rw [if_pos rfl]
          exact Y3
      refine b50_50 (fun _ => g97) (fun _ => b50_58 (s25 Y) (by omega) ?_)
      rintro z h2 ⟨e0, rfl⟩
      subst h2
      exact b50_62 (fun _ => g97) (fun c1 => absurd ((nI_eq (b := 33) (by omega) (by decide)).mp c1) h33)
theorem g_WEn {m : Nat} (hm : m ≤ 22) : ∀ n, g_WE K Pl V e c m n := by
  intro n
  induction n with
  | zero => intro d a h0 h q hd hv; exact hv.elim
  | succ n ih =>
    intro d a h0 h q hd hv he Y hq hqa ht
    refine q_mV.of (q_recV rfl Y.ok) (fun Q fin => ?_)
    have e12 := Y.e12
    have k43 := (Y.C.2.2 a Y.le).2.1
    unfold e_E at he fin
    unfold g_E at fin
    have lu := e_U_le (K := K) (e_E_le n) (a := e_a1 K a) (r := e_E K n)
    have lr := e_R_le (K := K) (r := e_E K n) (e_E_le n) n (e_U K (e_E K n) (e_a1 K a))
    have g29 : ∀ h, g_y K Pl V e c h0 h (e_a1 K a) → a ≤ e_a1 K a → e_a1 K a = a + g_b2n (decide (K a = 32)) → q_wp (3 + 2 * (8 - d)) 50 29 [some (.ref 589), some (.int (nI d)), some (.int (b2i (decide (K a = 32)))), none, none, none] [] h Q := by
      intro h Y ha ha2
      rw [show 3 + 2 * (8 - d) = (2 + 2 * (8 - d)) + 1 by omega]
      refine b50_29 (b50_34 (fun c1 => absurd c1 (by decide)) (fun _ => b50_42 (s51 ih hm hd hv.1 (by omega) Y hq (by omega) ht) (by omega) ?_))
      rintro h3 ⟨Y3, t3, q', q3, q4⟩
      refine b50_47 ?_
      have p0 : g_s2n 0 = 0 := rfl
      have := s50_50 (n := n) (m := m) (d := d) (Q := Q) ih hm hd n (decide (K a = 32)) 0 _ _ h3 0 0 q' (Or.inl rfl) hv.2 he (by omega) (by omega) Y3 q3 (by omega) t3 (fun h' Y' t' ⟨q6, q7, q8⟩ => fin h' ⟨Y', t', q6, q7, by omega⟩)
      rw [if_pos rfl, show 3 + 2 * (8 - d) = (2 + 2 * (8 - d)) + 1 by omega] at this
      exact this
    rw [show 3 + 2 * (8 - d) = (2 + 2 * (8 - d)) + 1 by omega] at g29 ⊢
    refine b50_0 (s25 Y) (by omega) ?_
    rintro z h2 ⟨e0, rfl⟩
    subst h2
    refine b50_4 (fun c1 => b50_13 (b50_14 (fun _ => ?_) (fun c2 => absurd rfl c2))) (fun c1 => b50_9 (b50_14 (fun c2 => absurd c2 (by decide)) (fun _ => b50_19 Y.ok ?_)))
    · have n32 : ¬ K a = 32 := fun h9 => c1 (by rw [h9]; rfl)
      have ea : e_a1 K a = a := if_neg n32
      have := g29 h (by rw [ea]; exact Y) (by omega) (by rw [ea, decide_eq_false n32]; rfl)
      rw [decide_eq_false n32] at this
      exact this
    · have h32 : K a = 32 := (nI_eq (b := 32) (by omega) (by decide)).mp c1
      have ea : e_a1 K a = a + 1 := if_pos h32
      have := g29 _ (by rw [ea]; exact Y.n1 (by omega)) (by omega) (by rw [ea, decide_eq_true h32]; rfl)
      rw [decide_eq_true h32] at this
      exact this
end GB
