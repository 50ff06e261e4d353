/-! THE BUILDER OF THE CLASS: nodes and links of a rule, and of a NOT -/
section GB
variable {K Pl : Nat → Nat} {V : Nat → Int64} {e c a : Nat} {h0 h : q_Hp}
theorem g_y.rl (Y : g_y K Pl V e c h0 h a) {o : Nat} (ho : qR h0 589 13 = o) : qR h 589 13 = o := by rw [Y.R]; exact ho
theorem q_isO.n {o : Nat} (ho : q_isO o) : ¬ o = 3 ∧ ¬ o = 589 ∧ 20 ≤ o ∧ o ≤ 575 := by
  have := ho.le
  omega
def g_rc (o : Nat) (h : q_Hp) : q_Hp := q_sI (q_sI (q_sI (q_sI (q_sI (q_sI (q_sI h o 0 0) o 1 0) o 2 0) o 3 0) o 4 0) o 5 0) o 6 0
theorem s127 {o : Nat} (Y : g_y K Pl V e c h0 h a) (ho : q_isO o) : q_mV 0 127 [.ref o] h (fun h' => g_y K Pl V e c (g_rc o h0) h' a) := by
  refine q_mV.of (q_recV rfl (Y.sh.oo ho)) (fun Q fin => ?_)
  have hn := ho.n
  exact b127_0 (Y.sh.oo ho) (fin _ (((((((Y.sI (by omega) (by omega)).sI (by omega) (by omega)).sI (by omega) (by omega)).sI (by omega) (by omega)).sI (by omega) (by omega)).sI (by omega) (by omega)).sI (by omega) (by omega)))
theorem s131 {o n : Nat} {v : Int32} (Y : g_y K Pl V e c h0 h a) (ho : q_isO o) (hn : qI h0 o 0 = nI n) (h4 : n < 4) : q_mI 0 131 [.ref o, .int v] h (fun z h' => z = nI n ∧ g_y K Pl V e c (q_sI (q_sA h0 (o + 1) n v) o 0 (nI (n + 1))) h' a) := by
  refine q_mI.of (q_recV rfl (Y.sh.oo ho)) (fun Q fin => ?_)
  have hl := ho.n
  have en : qI h o 0 = nI n := by rw [Y.O (by omega)]; exact hn
  have oa := Y.sh.oa ho 0 (by decide)
  refine b131_0 (Y.sh.oo ho) (fun _ => b131_10 (v0 := o + 1) (Y.sh.oo ho) (Y.sh.orr ho 0 (by decide)) oa.1 (by rw [en]; exact Y.sh.oi ho 0 (by decide) (i := n) h4) (fin _ _ ⟨?_, ?_⟩)) (fun c1 => ?_)
  · rw [q_sI_e, en, nI_1, nI_pred]
  · rw [en, nI_clamp (by omega), nI_1]
    exact (Y.sA (by omega)).sI (by omega) (by omega)
  · rw [en] at c1
    exact absurd ((nI_ltI (b := 4) (by omega) (by decide)).mpr h4) c1
theorem s132 {o n : Nat} (Y : g_y K Pl V e c h0 h a) (ho : q_isO o) (hn : qI h0 o 2 = nI n) (h2 : n < 2) : q_mV 0 132 [.ref o] h (fun h' => g_y K Pl V e c (q_sI (q_sA (q_sA h0 (o + 2) n (-1)) (o + 3) n 0) o 2 (nI (n + 1))) h' a) := by
  refine q_mV.of (q_recV rfl (Y.sh.oo ho)) (fun Q fin => ?_)
  have hl := ho.n
  have en : qI h o 2 = nI n := by rw [Y.O (by omega)]; exact hn
  have o1 := Y.sh.oa ho 1 (by decide)
  have o2 := Y.sh.oa ho 2 (by decide)
  refine b132_0 (Y.sh.oo ho) (fun c1 => ?_) (fun _ => b132_8 (v0 := o + 2) (v1 := o + 3) (Y.sh.oo ho) (Y.sh.orr ho 1 (by decide)) o1.1 (by rw [en]; exact Y.sh.oi ho 1 (by decide) (i := n) h2) (Y.sh.orr ho 2 (by decide)) o2.1 (by rw [en]; exact Y.sh.oi ho 2 (by decide) (i := n) h2) (b132_38 (fin _ ?_)))
  · rw [en] at c1
    have := (nI_leI (a := 2) (by decide) (by omega)).mp c1
    omega
  · rw [en, nI_clamp (by omega), nI_1]
    exact ((Y.sA (by omega)).sA (by omega)).sI (by omega) (by omega)
/-- a link's three cells in a rule -/
def g_lk (o i : Nat) (s f t : Int32) (h : q_Hp) : q_Hp := q_sA (q_sA (q_sA h (o + 4) i s) (o + 5) i f) (o + 6) i t
theorem s135 {o i : Nat} {s f t : Int32} (Y : g_y K Pl V e c h0 h a) (ho : q_isO o) (hi : i < 12) : q_mV 1 135 [.ref o, .int (nI i), .int s, .int f, .int t] h (fun h' => g_y K Pl V e c (g_lk o i s f t h0) h' a) := by
  refine q_mV.of (q_recV rfl (Y.sh.oo ho)) (fun Q fin => ?_)
  have hl := ho.n
  have st : ∀ {h h0 : q_Hp} {v : Int32} (j : Nat), g_y K Pl V e c h0 h a → (j = 3 ∨ j = 4 ∨ j = 5) → q_mV 0 233 [.ref (o + 1 + j), .int (nI i), .int v] h (fun h' => g_y K Pl V e c (q_sA h0 (o + 1 + j) i v) h' a) := by
    intro h h0 v j Y hj
    have oa := Y.sh.oa ho j (by omega)
    have ol : o_len j = 12 := by rcases hj with rfl | rfl | rfl <;> rfl
    rw [ol] at oa
    refine (s233 (n := 12) oa.1 oa.2 (by decide)).mono (Nat.le_refl _) ?_
    rintro h' rfl
    rw [c_set_in hi (by decide)]
    exact Y.sA (by omega)
  refine b135_0 (v0 := o + 4) (Y.sh.oo ho) (Y.sh.orr ho 3 (by decide)) (st 3 Y (by omega)) (by decide) (fun h1 Y1 => ?_)
  refine b135_9 (v0 := o + 5) (Y1.sh.oo ho) (Y1.sh.orr ho 4 (by decide)) (st 4 Y1 (by omega)) (by decide) (fun h2 Y2 => ?_)
  exact b135_18 (v0 := o + 6) (Y2.sh.oo ho) (Y2.sh.orr ho 5 (by decide)) (st 5 Y2 (by omega)) (by decide) (fun h3 Y3 => b135_28 (fin _ Y3))
theorem s133 {o l : Nat} {s f t : Int32} (Y : g_y K Pl V e c h0 h a) (ho : q_isO o) (hl : qI h0 o 1 = nI l) (h6 : l < 6) : q_mI 2 133 [.ref o, .int s, .int f, .int t] h (fun z h' => z = nI l ∧ g_y K Pl V e c (q_sI (g_lk o l s f t h0) o 1 (nI (l + 1))) h' a) := by
  refine q_mI.of (q_recV rfl (Y.sh.oo ho)) (fun Q fin => ?_)
  have hn := ho.n
  have en : qI h o 1 = nI l := by rw [Y.O (by omega)]; exact hl
  refine b133_0 (Y.sh.oo ho) (fun _ => b133_11 (Y.sh.oo ho) (by rw [en]; exact s135 Y ho (by omega)) (by decide) (fun h1 Y1 => ?_)) (fun c1 => ?_)
  · have e1 : qI h1 o 1 = nI l := by rw [Y1.O (by omega)]; exact hl
    refine b133_22 (Y1.sh.oo ho) (fin _ _ ⟨?_, ?_⟩)
    · rw [q_sI_e, e1, nI_1, nI_pred]
    · rw [e1, nI_1]
      exact Y1.sI (by omega) (by omega)
  · rw [en] at c1
    exact absurd ((nI_ltI (b := 6) (by omega) (by decide)).mpr h6) c1
theorem s134 {o k w : Nat} {s f t : Int32} (Y : g_y K Pl V e c h0 h a) (ho : q_isO o) (hk : k < 2) (hw : qA h0 (o + 3) k = nI w) (h3 : w < 3) : q_mV 2 134 [.ref o, .int (nI k), .int s, .int f, .int t] h (fun h' => g_y K Pl V e c (q_sA (g_lk o (6 + 3 * k + w) s f t h0) (o + 3) k (nI (w + 1))) h' a) := by
  refine q_mV.of (q_recV rfl (Y.sh.oo ho)) (fun Q fin => ?_)
  have hn := ho.n
  have ck : (nI k : Int32).toNatClampNeg = k := nI_clamp (by omega)
  have ew : qA h (o + 3) ((nI k : Int32).toNatClampNeg) = nI w := by rw [ck, Y.A (by omega)]; exact hw
  have o2 := Y.sh.oa ho 2 (by decide)
  have i2 : q_in (nI k) (qK h (o + 3)).2 := Y.sh.oi ho 2 (by decide) hk
  refine b134_0 (fun c1 => absurd c1 (nI_pos (by omega))) (fun _ => b134_4 (fun c1 => ?_) (fun _ => b134_9 (v0 := o + 3) (Y.sh.oo ho) (Y.sh.orr ho 2 (by decide)) o2.1 i2 (fun c1 => ?_) (fun _ => b134_19 s130 (by decide) ?_)))
  · have := (nI_leI (a := 2) (by decide) (by omega)).mp c1
    omega
  · rw [ew] at c1
    have := (nI_leI (a := 3) (by decide) (by omega)).mp c1
    omega
  rintro z h2 ⟨e0, rfl⟩
  subst h2
  refine b134_24 (v0 := o + 3) (Y.sh.oo ho) (Y.sh.orr ho 2 (by decide)) o2.1 i2 (m := 1) (P := fun h' => g_y K Pl V e c (g_lk o (6 + 3 * k + w) s f t h0) h' a) (by rw [ew, nI_add]; exact s135 Y ho (by omega)) (by decide) (fun h1 Y1 => ?_)
  have o2 := Y1.sh.oa ho 2 (by decide)
  have e1 : qA h1 (o + 3) ((nI k : Int32).toNatClampNeg) = nI w := by
    rw [ck, Y1.A (by omega)]
    unfold g_lk
    rw [qA_sAn (by omega), qA_sAn (by omega), qA_sAn (by omega)]
    exact hw
  refine b134_38 (v0 := o + 3) (Y1.sh.oo ho) (Y1.sh.orr ho 2 (by decide)) o2.1 (Y1.sh.oi ho 2 (by decide) hk) (b134_48 (fin _ ?_))
  rw [e1, ck, nI_1]
  exact Y1.sA (by omega)
theorem s136 {o t : Nat} {v : Int32} (Y : g_y K Pl V e c h0 h a) (ho : q_isO o) (hn : qI h0 o 3 = nI t) (h4 : t < 4) : q_mV 0 136 [.ref o, .int v] h (fun h' => g_y K Pl V e c (q_sI (q_sA h0 (o + 7) t v) o 3 (nI (t + 1))) h' a) := by
  refine q_mV.of (q_recV rfl (Y.sh.oo ho)) (fun Q fin => ?_)
  have hl := ho.n
  have en : qI h o 3 = nI t := by rw [Y.O (by omega)]; exact hn
  have oa := Y.sh.oa ho 6 (by decide)
  refine b136_0 (Y.sh.oo ho) (fun c1 => ?_) (fun _ => b136_8 (v0 := o + 7) (Y.sh.oo ho) (Y.sh.orr ho 6 (by decide)) oa.1 (by rw [en]; exact Y.sh.oi ho 6 (by decide) (i := t) h4) (b136_28 (fin _ ?_)))
  · rw [en] at c1
    have := (nI_leI (a := 4) (by decide) (by omega)).mp c1
    omega
  · rw [en, nI_clamp (by omega), nI_1]
    exact (Y.sA (by omega)).sI (by omega) (by omega)
/-- one more that a rule does -/
def g_dd (o d : Nat) (x y z w : Int32) (h : q_Hp) : q_Hp := q_sI (q_sA (q_sA (q_sA (q_sA h (o + 8) d x) (o + 9) d y) (o + 10) d z) (o + 11) d w) o 4 (nI (d + 1))
theorem s137 {o d : Nat} {x y z w : Int32} (Y : g_y K Pl V e c h0 h a) (ho : q_isO o) (hn : qI h0 o 4 = nI d) (h8 : d < 8) : q_mV 0 137 [.ref o, .int x, .int y, .int z, .int w] h (fun h' => g_y K Pl V e c (g_dd o d x y z w h0) h' a) := by
  refine q_mV.of (q_recV rfl (Y.sh.oo ho)) (fun Q fin => ?_)
  have hl := ho.n
  have en : qI h o 4 = nI d := by rw [Y.O (by omega)]; exact hn
  have o7 := Y.sh.oa ho 7 (by decide)
  have o8 := Y.sh.oa ho 8 (by decide)
  have o9 := Y.sh.oa ho 9 (by decide)
  have o10 := Y.sh.oa ho 10 (by decide)
  refine b137_0 (Y.sh.oo ho) (fun c1 => ?_) (fun _ => b137_9 (v0 := o + 8) (v1 := o + 9) (v2 := o + 10) (v3 := o + 11) (Y.sh.oo ho) (Y.sh.orr ho 7 (by decide)) o7.1 (by rw [en]; exact Y.sh.oi ho 7 (by decide) (i := d) h8) (Y.sh.orr ho 8 (by decide)) o8.1 (by rw [en]; exact Y.sh.oi ho 8 (by decide) (i := d) h8) (Y.sh.orr ho 9 (by decide)) o9.1 (by rw [en]; exact Y.sh.oi ho 9 (by decide) (i := d) h8) (Y.sh.orr ho 10 (by decide)) o10.1 (by rw [en]; exact Y.sh.oi ho 10 (by decide) (i := d) h8) (b137_60 (fin _ ?_)))
  · rw [en] at c1
    have := (nI_leI (a := 8) (by decide) (by omega)).mp c1
    omega
  · rw [en, nI_clamp (by omega), nI_1]
    exact ((((Y.sA (by omega)).sA (by omega)).sA (by omega)).sA (by omega)).sI (by omega) (by omega)
/-- a node, of a rule and of a NOT -/
def g_n1 (V : Nat → Int64) (nt m a : Nat) (h : q_Hp) : q_Hp := g_fw (a + 3) (p_fi (qL h 590) nt (V (a + 3))) (g_dw (a + 1) (p_fi (qL h 592) m (V (a + 1))) h)
def g_no (V : Nat → Int64) (nt o n m a : Nat) (h : q_Hp) : q_Hp := g_tl m (V (a + 1)) 1 (nI n) (q_on (p_fi (qL h 590) nt (V (a + 3)))) (q_sI (q_sA (g_n1 V nt m a h) (o + 1) n (q_on (p_fi (qL h 590) nt (V (a + 3))))) o 0 (nI (n + 1)))
def g_nn (V : Nat → Int64) (nt o k m a : Nat) (h : q_Hp) : q_Hp := g_tl m (V (a + 1)) 1 4 (q_on (p_fi (qL h 590) nt (V (a + 3)))) (q_sA (g_n1 V nt m a h) (o + 2) k (q_on (p_fi (qL h 590) nt (V (a + 3)))))
theorem g_n1_I {nt m x o j : Nat} (h9 : ¬ (o = 589 ∧ (j = 15 ∨ j = 16))) : qI (g_n1 V nt m x h0) o j = qI h0 o j := by
  unfold g_n1
  rw [g_fw_I h9, g_dw_I h9]
theorem g_n1_A {nt m x : Nat} : qA (g_n1 V nt m x h0) = qA h0 := by
  unfold g_n1
  rw [g_fw_A, g_dw_A]
theorem g_n1_L {nt m x : Nat} : qL (g_n1 V nt m x h0) = qL h0 := by
  unfold g_n1
  rw [g_fw_L, g_dw_L]
theorem g_n1_R {nt m x : Nat} : qR (g_n1 V nt m x h0) = qR h0 := by
  unfold g_n1
  rw [g_fw_R, g_dw_R]
/-- from the name of a node on -/
theorem s40_19 {nt o m : Nat} {Q : Option Value → q_Hp → Prop} {x1 : Int32} (Y : g_y K Pl V e c h0 h (a + 1)) (ha : a + 4 ≤ e) (ht : qI h0 c 0 = nI nt) (ht12 : nt ≤ 12) (hm : qI h0 589 9 = nI m) (h22 : m < 22) (w : ∀ h', g_y K Pl V e c (g_n1 V nt m a h0) h' (a + 4) → q_wp 4 40 19 [some (.ref 589), some (.int x1), some (.long (V (a + 1))), none, none, none] [.int (q_on (p_fi (qL h0 590) nt (V (a + 3))))] h' Q) : q_wp 4 40 0 [some (.ref 589), some (.int x1), none, none, none, none] [] h Q := by
  have hc := Y.c2
  refine b40_0 (s37 Y (by omega) hm (by omega)) (by decide) ?_
  rintro z h2 ⟨rfl, Y2⟩
  refine b40_4 Y2.ok (s28 (nt := nt) (Y2.n1 (by omega)) (by omega) (by rw [g_dw_I (by omega)]; exact ht) ht12) (by decide) ?_
  rintro z h3 ⟨rfl, Y3⟩
  rw [g_dw_L] at Y3 ⊢
  exact w h3 Y3
theorem s40_r {nt o n m : Nat} (Y : g_y K Pl V e c h0 h (a + 1)) (ha : a + 4 ≤ e) (hR : qR h0 589 13 = o) (ho : q_isO o) (ht : qI h0 c 0 = nI nt) (ht12 : nt ≤ 12) (hm : qI h0 589 9 = nI m) (h22 : m < 22) (hn : qI h0 o 0 = nI n) (h4 : n < 4) : q_mV 4 40 [.ref 589, .int (-1)] h (fun h' => g_y K Pl V e c (g_no V nt o n m a h0) h' (a + 4)) := by
  refine q_mV.of (q_recV rfl Y.ok) (fun Q fin => ?_)
  have hl := ho.n
  refine s40_19 (o := o) Y ha ht ht12 hm h22 (fun h3 Y3 => ?_)
  have r3 : qR h3 589 13 = o := Y3.rl (by rw [g_n1_R]; exact hR)
  refine b40_19 (fun c1 => absurd rfl c1) (fun _ => b40_29 (v0 := o) Y3.ok r3 (s131 (n := n) Y3 ho (by rw [g_n1_I (by omega)]; exact hn) h4) (by decide) ?_)
  rintro z h4 ⟨rfl, Y4⟩
  refine b40_38 (b40_56 (s38 (m := m) Y4 (by rw [q_sI_n (by omega), qI_sA, g_n1_I (by omega)]; exact hm) h22) (by decide) (fun h5 Y5 => b40_66 (fin _ Y5)))
theorem s40_n {nt o k m : Nat} (Y : g_y K Pl V e c h0 h (a + 1)) (ha : a + 4 ≤ e) (hR : qR h0 589 13 = o) (ho : q_isO o) (ht : qI h0 c 0 = nI nt) (ht12 : nt ≤ 12) (hm : qI h0 589 9 = nI m) (h22 : m < 22) (hk : k < 2) : q_mV 4 40 [.ref 589, .int (nI k)] h (fun h' => g_y K Pl V e c (g_nn V nt o k m a h0) h' (a + 4)) := by
  refine q_mV.of (q_recV rfl Y.ok) (fun Q fin => ?_)
  have hl := ho.n
  refine s40_19 (o := o) Y ha ht ht12 hm h22 (fun h3 Y3 => ?_)
  have r3 : qR h3 589 13 = o := Y3.rl (by rw [g_n1_R]; exact hR)
  have oa := Y3.sh.oa ho 1 (by decide)
  refine b40_19 (fun _ => b40_43 (v0 := o) (v1 := o + 2) Y3.ok r3 (Y3.sh.oo ho) (Y3.sh.orr ho 1 (by decide)) (s233 (n := 2) oa.1 oa.2 (by decide)) (by decide) ?_) (fun c1 => absurd c1 (q_on_ne (by omega)))
  rintro h4 rfl
  rw [c_set_in hk (by decide)]
  have Y4 := Y3.sA (x := o + 2) (i := k) (v := q_on (p_fi (qL h0 590) nt (V (a + 3)))) (by omega)
  refine b40_56 (s38 (m := m) Y4 (by rw [qI_sA, g_n1_I (by omega)]; exact hm) h22) (by decide) (fun h5 Y5 => b40_66 (fin _ Y5))
/-- a link, of a rule and of a NOT -/
def g_l1 (V : Nat → Int64) (ns m a : Nat) (h : q_Hp) : q_Hp := g_fw (a + 7) (g_ft 1 m (V (a + 7)) h) (g_fw (a + 5) (p_fi (qL h 591) ns (V (a + 5))) (g_fw (a + 3) (g_ft 1 m (V (a + 3)) h) (g_dw (a + 1) (p_fi (qL h 592) m (V (a + 1))) h)))
def g_li (V : Nat → Int64) (ns o l m a : Nat) (h : q_Hp) : q_Hp := g_tl m (V (a + 1)) 2 (nI l) (-1) (q_sI (g_lk o l (q_on (p_fi (qL h 591) ns (V (a + 5)))) (g_nu (g_ft 1 m (V (a + 3)) h) h) (g_nu (g_ft 1 m (V (a + 7)) h) h) (g_l1 V ns m a h)) o 1 (nI (l + 1)))
def g_nk (V : Nat → Int64) (ns o k w m a : Nat) (h : q_Hp) : q_Hp := g_tl m (V (a + 1)) 2 (-1) (-1) (q_sA (g_lk o (6 + 3 * k + w) (q_on (p_fi (qL h 591) ns (V (a + 5)))) (g_nu (g_ft 1 m (V (a + 3)) h) h) (g_nu (g_ft 1 m (V (a + 7)) h) h) (g_l1 V ns m a h)) (o + 3) k (nI (w + 1)))
theorem g_l1_I {ns m x o j : Nat} (h9 : ¬ (o = 589 ∧ (j = 15 ∨ j = 16))) : qI (g_l1 V ns m x h0) o j = qI h0 o j := by
  unfold g_l1
  rw [g_fw_I h9, g_fw_I h9, g_fw_I h9, g_dw_I h9]
theorem g_l1_A {ns m x : Nat} : qA (g_l1 V ns m x h0) = qA h0 := by
  unfold g_l1
  rw [g_fw_A, g_fw_A, g_fw_A, g_dw_A]
theorem g_l1_L {ns m x : Nat} : qL (g_l1 V ns m x h0) = qL h0 := by
  unfold g_l1
  rw [g_fw_L, g_fw_L, g_fw_L, g_dw_L]
theorem g_l1_R {ns m x : Nat} : qR (g_l1 V ns m x h0) = qR h0 := by
  unfold g_l1
  rw [g_fw_R, g_fw_R, g_fw_R, g_dw_R]
theorem s41_51 {ns m : Nat} {Q : Option Value → q_Hp → Prop} {x1 : Int32} (Y : g_y K Pl V e c h0 h (a + 1)) (ha : a + 8 ≤ e) (ht : qI h0 c 1 = nI ns) (ht12 : ns ≤ 12) (hm : qI h0 589 9 = nI m) (h22 : m < 22) (w : ∀ h', g_y K Pl V e c (g_l1 V ns m a h0) h' (a + 8) → q_wp 4 41 51 [some (.ref 589), some (.int x1), some (.long (V (a + 1))), none, some (.int (g_nu (g_ft 1 m (V (a + 3)) h0) h0)), some (.int (q_on (p_fi (qL h0 591) ns (V (a + 5))))), none, none] [.int (g_nu (g_ft 1 m (V (a + 7)) h0) h0)] h' Q) : q_wp 4 41 0 [some (.ref 589), some (.int x1), none, none, none, none, none, none] [] h Q := by
  have hc := Y.c2
  refine b41_0 (s37 Y (by omega) hm (by omega)) (by decide) ?_
  rintro z h2 ⟨rfl, Y2⟩
  refine b41_4 Y2.ok (s36 (m := m) (Y2.n1 (by omega)) (by omega) (by rw [g_dw_I (by omega)]; exact hm) (by omega)) (by decide) ?_
  rintro z h3 ⟨rfl, Y3⟩
  rw [g_ft_c (h0 := h0) (by rw [g_dw_L]) (by rw [g_dw_A]) (by rw [g_dw_A])] at Y3 ⊢
  refine b41_19 Y3.ok (s29 (ns := ns) (Y3.n1 (by omega)) (by omega) (by rw [g_fw_I (by omega), g_dw_I (by omega)]; exact ht) ht12) (by decide) ?_
  rintro z h4 ⟨rfl, Y4⟩
  rw [g_fw_L, g_dw_L] at Y4 ⊢
  refine b41_35 Y4.ok (s36 (m := m) (Y4.n1 (by omega)) (by omega) (by rw [g_fw_I (by omega), g_fw_I (by omega), g_dw_I (by omega)]; exact hm) (by omega)) (by decide) ?_
  rintro z h5 ⟨rfl, Y5⟩
  have ft : ∀ {x1 x2 x3 o1 o2 o3 v}, g_ft 1 m v (g_fw x1 o1 (g_fw x2 o2 (g_dw x3 o3 h0))) = g_ft 1 m v h0 := fun {x1 x2 x3 o1 o2 o3 v} => g_ft_c (by rw [g_fw_L, g_fw_L, g_dw_L]) (by rw [g_fw_A, g_fw_A, g_dw_A]) (by rw [g_fw_A, g_fw_A, g_dw_A])
  rw [ft] at Y5 ⊢
  have w := w h5 Y5
  unfold g_nu at w ⊢
  rw [g_fw_A, g_fw_A, g_dw_A]
  exact w
theorem s41_r {ns o l m : Nat} (Y : g_y K Pl V e c h0 h (a + 1)) (ha : a + 8 ≤ e) (hR : qR h0 589 13 = o) (ho : q_isO o) (ht : qI h0 c 1 = nI ns) (ht12 : ns ≤ 12) (hm : qI h0 589 9 = nI m) (h22 : m < 22) (hn : qI h0 o 1 = nI l) (h6 : l < 6) : q_mV 4 41 [.ref 589, .int (-1)] h (fun h' => g_y K Pl V e c (g_li V ns o l m a h0) h' (a + 8)) := by
  refine q_mV.of (q_recV rfl Y.ok) (fun Q fin => ?_)
  have hl := ho.n
  refine s41_51 Y ha ht ht12 hm h22 (fun h3 Y3 => ?_)
  have r3 : qR h3 589 13 = o := Y3.rl (by rw [g_l1_R]; exact hR)
  refine b41_51 (fun c1 => absurd rfl c1) (fun _ => b41_61 (v0 := o) Y3.ok r3 (s133 (l := l) Y3 ho (by rw [g_l1_I (by omega)]; exact hn) h6) (by decide) ?_)
  rintro z h4 ⟨rfl, Y4⟩
  refine b41_74 (b41_93 (s38 (m := m) Y4 ?_ h22) (by decide) (fun h5 Y5 => b41_102 (fin _ Y5)))
  rw [q_sI_n (by omega)]
  unfold g_lk
  rw [qI_sA, qI_sA, qI_sA, g_l1_I (by omega)]
  exact hm
theorem s41_n {ns o k w m : Nat} (Y : g_y K Pl V e c h0 h (a + 1)) (ha : a + 8 ≤ e) (hR : qR h0 589 13 = o) (ho : q_isO o) (ht : qI h0 c 1 = nI ns) (ht12 : ns ≤ 12) (hm : qI h0 589 9 = nI m) (h22 : m < 22) (hk : k < 2) (hw : qA h0 (o + 3) k = nI w) (h3 : w < 3) : q_mV 4 41 [.ref 589, .int (nI k)] h (fun h' => g_y K Pl V e c (g_nk V ns o k w m a h0) h' (a + 8)) := by
  refine q_mV.of (q_recV rfl Y.ok) (fun Q fin => ?_)
  have hl := ho.n
  refine s41_51 Y ha ht ht12 hm h22 (fun h3 Y3 => ?_)
  have r3 : qR h3 589 13 = o := Y3.rl (by rw [g_l1_R]; exact hR)
  refine b41_51 (fun _ => b41_79 (v0 := o) Y3.ok r3 (s134 (k := k) (w := w) Y3 ho hk (by rw [g_l1_A]; exact hw) (by omega)) (by decide) (fun h4 Y4 => ?_)) (fun c1 => absurd c1 (q_on_ne (by omega)))
  refine b41_93 (s38 (m := m) Y4 ?_ h22) (by decide) (fun h5 Y5 => b41_102 (fin _ Y5))
  rw [qI_sA]
  unfold g_lk
  rw [qI_sA, qI_sA, qI_sA, g_l1_I (by omega)]
  exact hm
end GB
