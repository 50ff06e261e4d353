/-! THE BUILDER OF THE CLASS: what is deleted, new, joined, set -/
def g_hp (o : Nat) (num : Int32) (h : q_Hp) (i : Nat) : Bool := qA h 593 i == 2 && (qA h 596 i == 0 && (c_at (qA h (o + 5)) 12 (qA h 594 i) == num || c_at (qA h (o + 6)) 12 (qA h 594 i) == num))
def g_hd (o m : Nat) (num : Int32) (h : q_Hp) : Bool := p_any (g_hp o num h) m || (((qI h 589 11 >>> (num &&& 31)) &&& 1) == 1)
def g_de1 (o m a : Nat) (num : Int32) (h : q_Hp) : q_Hp := if g_hd o m num h = true then g_fa 5 (a + 1) h else h
def g_de2 (o d : Nat) (num : Int32) (h : q_Hp) : q_Hp := q_sI (g_dd o d 11 num (-1) (-1) h) o 5 (qI (g_dd o d 11 num (-1) (-1) h) o 5 ||| (1 <<< (num &&& 31)))
def g_de3 (o d m a j : Nat) (h : q_Hp) : q_Hp := if qA h 593 j = 2 then g_dd o d 7 (qA h 594 j) (-1) (-1) (q_sA h 596 j 1) else g_de2 o d (qA h 594 j) (g_de1 o m a (qA h 594 j) (q_sA h 596 j 1))
def g_de (V : Nat → Int64) (o d m a : Nat) (h : q_Hp) : q_Hp := match g_ft 3 m (V (a + 1)) h with
  | some j => g_de3 o d m a j h
  | none => g_fa 4 (a + 1) h
theorem p_any_1 {p : Nat → Bool} {j : Nat} (hj : p j = true) : ∀ n, j < n → p_any p n = true := by
  intro n
  induction n with
  | zero => intro h; omega
  | succ n ih =>
    intro h
    show (p_any p n || p n) = true
    by_cases h9 : j = n
    · rw [← h9, hj, Bool.or_true]
    · rw [ih (by omega), Bool.true_or]
section GB
variable {K Pl : Nat → Nat} {V : Nat → Int64} {e c a : Nat} {h0 h : q_Hp}
theorem s44_2 {o m : Nat} {num : Int32} {Q : Option Value → q_Hp → Prop} (Y : g_y K Pl V e c h0 h a) (hR : qR h 589 13 = o) (hO : q_isO o) (hm : qI h0 589 9 = nI m) (h22 : m ≤ 22) (fin : Q (some (.int (b2i (g_hd o m num h0)))) h) : ∀ r j l3, j + r = m → p_any (g_hp o num h0) j = false → q_wp 1 44 2 [some (.ref 589), some (.int num), some (.int (nI j)), l3] [] h Q := by
  have hl := hO.n
  have e9 : qI h 589 9 = nI m := (Y.I (by decide)).trans hm
  have e11 : qI h 589 11 = qI h0 589 11 := Y.I (by decide)
  have a93 : qA h 593 = qA h0 593 := Y.A (by decide)
  have a94 : qA h 594 = qA h0 594 := Y.A (by decide)
  have a96 : qA h 596 = qA h0 596 := Y.A (by decide)
  have a5 : qA h (o + 5) = qA h0 (o + 5) := Y.A (by omega)
  have a6 : qA h (o + 6) = qA h0 (o + 6) := Y.A (by omega)
  have o4 := Y.sh.oa hO 4 (by decide)
  have o5 := Y.sh.oa hO 5 (by decide)
  intro r
  induction r with
  | zero =>
    intro j l3 hj hf
    obtain rfl : m = j := by omega
    have g80 : q_wp 1 44 80 [some (.ref 589), some (.int num), some (.int (nI m)), l3] [] h Q := by
      refine b44_80 Y.ok (fun c1 => b44_96 ?_) (fun c1 => b44_92 ?_)
      · have : g_hd o m num h0 = false := by
          unfold g_hd
          rw [hf, Bool.false_or, ← e11]
          exact beq_eq_false_iff_ne.mpr c1
        rw [this] at fin
        exact fin
      · have : g_hd o m num h0 = true := by
          unfold g_hd
          rw [hf, Bool.false_or, ← e11]
          exact beq_iff_eq.mpr c1
        rw [this] at fin
        exact fin
    refine b44_2 Y.ok (fun _ => g80) (fun c1 => ?_)
    rw [e9] at c1
    exact absurd (Int32.le_refl _) c1
  | succ r ih =>
    intro j l3 hj hf
    have i22 : ∀ {x}, (decide (x ≤ 712) && (q_kd0 x).2 == 22) = true → q_in (nI j) (qK h x).2 := fun h9 => Y.sh.inN (n := 22) h9 (by omega) (by decide)
    have cj : (nI j : Int32).toNatClampNeg = j := nI_clamp (by omega)
    have nx : ∀ l3, g_hp o num h0 j = false → q_wp 1 44 74 [some (.ref 589), some (.int num), some (.int (nI j)), l3] [] h Q := by
      intro l3 h9
      refine b44_74 ?_
      rw [nI_1]
      refine ih (j + 1) _ (by omega) ?_
      show (p_any _ j || g_hp o num h0 j) = false
      rw [hf, h9]
      rfl
    have yes : ∀ x3, g_hp o num h0 j = true → q_wp 1 44 72 [some (.ref 589), some (.int num), some (.int (nI j)), some (.int x3)] [] h Q := by
      intro x3 h9
      refine b44_72 ?_
      have : g_hd o m num h0 = true := by
        unfold g_hd
        rw [p_any_1 h9 m (by omega), Bool.true_or]
      rw [this] at fin
      exact fin
    refine b44_2 Y.ok (fun c1 => ?_) (fun _ => b44_10 (fun c1 => ?_) (fun _ => b44_16 (v0 := 593) Y.ok (Y.sh.ref rfl) (Y.sh.ok rfl) (i22 rfl) (fun c1 => nx _ ?_) (fun c1 => b44_26 (v0 := 596) Y.ok (Y.sh.ref rfl) (Or.inr (Y.sh.ok rfl)) (i22 rfl) (fun c2 => nx _ ?_) (fun c2 => ?_))))
    · rw [e9] at c1
      have := (nI_leI (by omega) (by omega)).mp c1
      omega
    · have := (nI_leI (a := 22) (by decide) (by omega)).mp c1
      omega
    · rw [cj, a93] at c1
      unfold g_hp
      rw [beq_eq_false_iff_ne.mpr c1, Bool.false_and]
    · rw [cj, a96] at c2
      unfold g_hp
      rw [beq_eq_false_iff_ne.mpr c2, Bool.false_and, Bool.and_false]
    · rw [cj, a93] at c1
      rw [cj, a96] at c2
      refine b44_35 (v0 := 594) (v1 := o) (v2 := o + 5) Y.ok (Y.sh.ref rfl) (Y.sh.ok rfl) (i22 rfl) hR (Y.sh.oo hO) (Y.sh.orr hO 4 (by decide)) (s232 (n := 12) o4.1 o4.2 (by decide)) (by decide) ?_
      rintro z h2 ⟨e0, rfl⟩
      subst h2
      rw [cj, a94, a5]
      refine b44_53 (fun c3 => yes _ ?_) (fun c3 => b44_57 (v0 := o) (v1 := o + 6) Y.ok hR (Y.sh.oo hO) (Y.sh.orr hO 5 (by decide)) (s232 (n := 12) o5.1 o5.2 (by decide)) (by decide) ?_)
      · unfold g_hp
        rw [c1, c2, c3]
        simp
      rintro z h2 ⟨e0, rfl⟩
      subst h2
      rw [a6]
      refine b44_68 (fun c4 => nx _ ?_) (fun c4 => yes _ ?_)
      · unfold g_hp
        rw [beq_eq_false_iff_ne.mpr c3, beq_eq_false_iff_ne.mpr c4]
        simp
      · unfold g_hp
        rw [c1, c2, c4]
        simp
theorem s44 {o m : Nat} {num : Int32} (Y : g_y K Pl V e c h0 h a) (hR : qR h0 589 13 = o) (hO : q_isO o) (hm : qI h0 589 9 = nI m) (h22 : m ≤ 22) : q_mI 1 44 [.ref 589, .int num] h (fun z h' => h' = h ∧ z = b2i (g_hd o m num h0)) := by
  refine q_mI.of (q_recV rfl Y.ok) (fun Q fin => ?_)
  exact b44_0 (s44_2 Y (Y.rl hR) hO hm h22 (fin _ _ ⟨rfl, rfl⟩) m 0 _ (by omega) rfl)
theorem g_fa_R1 {n : Int32} {x : Nat} (o j : Nat) : qR (g_fa n x h0) o j = qR h0 o j := by rw [g_fa_R]
theorem s43 {o d m : Nat} (Y : g_y K Pl V e c h0 h (a + 1)) (ha : a + 2 ≤ e) (hR : qR h0 589 13 = o) (hO : q_isO o) (hm : qI h0 589 9 = nI m) (h22 : m ≤ 22) (hd : qI h0 o 4 = nI d) (h8 : d < 8) : q_mV 2 43 [.ref 589] h (fun h' => g_y K Pl V e c (g_de V o d m a h0) h' (a + 2)) := by
  refine q_mV.of (q_recV rfl Y.ok) (fun Q fin => ?_)
  have hl := hO.n
  refine b43_0 (v0 := 3) Y.ok (Y.sh.ref rfl) (by rw [Y.ea]; exact s190 Y.sh Y.C Y.le) (by decide) ?_
  rintro z h2 ⟨e0, rfl⟩
  subst h2
  refine b43_12 (s34 Y hm h22) (by decide) ?_
  rintro z h2 ⟨e0, rfl⟩
  subst h2
  unfold g_de at fin
  cases hf : g_ft 3 m (V (a + 1)) h0 with
  | none =>
    rw [hf] at fin
    refine b43_16 (fun _ => b43_28 (s26 Y) (by decide) (fun h' Y' => b43_33 Y'.ok (fin _ (Y'.n1 (by omega))))) (fun c1 => absurd rfl c1)
  | some j =>
    rw [hf] at fin
    have fin : ∀ h', g_y K Pl V e c (g_de3 o d m a j h0) h' (a + 2) → Q none h' := fin
    have hj := g_ft_lt hf
    have cj : (nI j : Int32).toNatClampNeg = j := nI_clamp (by omega)
    have i22 : ∀ {x}, (decide (x ≤ 712) && (q_kd0 x).2 == 22) = true → q_in (nI j) (qK h x).2 := fun h9 => Y.sh.inN (n := 22) h9 (by omega) (by decide)
    have a93 : qA h 593 = qA h0 593 := Y.A (by decide)
    have a94 : qA h 594 = qA h0 594 := Y.A (by decide)
    have b1 : vp_nar .boolean (1 : Int32) = 1 := by decide
    have Y1 := Y.sA (x := 596) (i := j) (v := 1) (by decide)
    refine b43_16 (fun c1 => absurd c1 (q_on_ne (by omega))) (fun _ => b43_22 (fun _ => ?_) (fun c1 => absurd ((nI_ltI (b := 22) (by omega) (by decide)).mpr (by omega)) c1))
    show q_wp 2 43 44 [some (.ref 589), some (.int (nI j)), none] [] h Q
    refine b43_44 (v0 := 594) (v1 := 596) (v2 := 593) Y.ok (Y.sh.ref rfl) (Y.sh.ok rfl) (i22 rfl) (Y.sh.ref rfl) (Y.sh.ok rfl) (i22 rfl) (Y.sh.ref rfl) (Y.sh.ok rfl) (i22 rfl) (fun c1 => ?_) (fun c1 => ?_)
    · rw [cj, b1, qA_sAn (by decide), a93] at c1
      rw [cj, b1, a94]
      have e3 : g_de3 o d m a j h0 = g_de2 o d (qA h0 594 j) (g_de1 o m a (qA h0 594 j) (q_sA h0 596 j 1)) := if_neg c1
      rw [e3] at fin
      have g96 : ∀ h, g_y K Pl V e c (g_de1 o m a (qA h0 594 j) (q_sA h0 596 j 1)) h (a + 1) → q_wp 2 43 96 [some (.ref 589), some (.int (nI j)), some (.int (qA h0 594 j))] [] h Q := by
        intro h Y
        have R2 : qR (g_de1 o m a (qA h0 594 j) (q_sA h0 596 j 1)) 589 13 = o := by
          unfold g_de1
          split
          · rw [g_fa_R]; exact hR
          · exact hR
        have d2 : qI (g_de1 o m a (qA h0 594 j) (q_sA h0 596 j 1)) o 4 = nI d := by
          unfold g_de1
          split
          · rw [g_fa_I (by omega)]; exact hd
          · exact hd
        refine b43_96 (v0 := o) Y.ok (Y.rl R2) (s137 (d := d) Y hO d2 h8) (by decide) (fun h3 Y3 => ?_)
        refine b43_108 (v0 := o) Y3.ok (Y3.rl (show qR (g_dd o d 11 (qA h0 594 j) (-1) (-1) _) 589 13 = o from R2)) (Y3.sh.oo hO) (b43_123 ((Y3.sI (o := o) (j := 5) (by omega) (by omega)).ok) (fin _ ?_))
        unfold g_de2
        rw [Y3.O (show ¬ o = 589 by omega)]
        exact (Y3.sI (by omega) (by omega)).n1 (by omega)
      refine b43_83 (s44 (m := m) Y1 hR hO hm h22) (by decide) ?_
      rintro z h2 ⟨e0, rfl⟩
      subst h2
      refine b43_88 (fun c2 => g96 _ ?_) (fun c2 => b43_91 (s26 Y1) (by decide) (fun h' Y' => g96 _ ?_))
      · unfold g_de1
        rw [b2i_eq.mp c2, if_neg (by decide)]
        exact Y1
      · unfold g_de1
        rw [if_pos (b2i_ne.mp c2)]
        exact Y'
    · rw [cj, b1, qA_sAn (by decide), a93] at c1
      rw [cj, b1, a94]
      have e3 : g_de3 o d m a j h0 = g_dd o d 7 (qA h0 594 j) (-1) (-1) (q_sA h0 596 j 1) := if_pos c1
      rw [e3] at fin
      refine b43_68 (v0 := o) Y1.ok (Y1.rl hR) (s137 (d := d) Y1 hO hd h8) (by decide) (fun h3 Y3 => b43_80 (b43_123 Y3.ok (fin _ (Y3.n1 (by omega)))))
/-- a new node -/
def g_nw (V : Nat → Int64) (nt o d w m a : Nat) (h : q_Hp) : q_Hp := g_tl m (V (a + 1)) 4 (nI (4 + w)) (q_on (p_fi (qL h 590) nt (V (a + 3)))) (g_dd o d 12 (nI (4 + w)) (q_on (p_fi (qL h 590) nt (V (a + 3)))) (-1) (q_sI (g_n1 V nt m a h) 589 10 (nI (w + 1))))
theorem s45 {nt o d w m : Nat} (Y : g_y K Pl V e c h0 h (a + 1)) (ha : a + 4 ≤ e) (hR : qR h0 589 13 = o) (hO : q_isO o) (ht : qI h0 c 0 = nI nt) (ht12 : nt ≤ 12) (hm : qI h0 589 9 = nI m) (h22 : m < 22) (hw : qI h0 589 10 = nI w) (hd : qI h0 o 4 = nI d) (h8 : d < 8) : q_mV 2 45 [.ref 589] h (fun h' => g_y K Pl V e c (g_nw V nt o d w m a h0) h' (a + 4)) := by
  refine q_mV.of (q_recV rfl Y.ok) (fun Q fin => ?_)
  have hl := hO.n
  have hc := Y.c2
  refine b45_0 (s37 Y (by omega) hm (by omega)) (by decide) ?_
  rintro z h2 ⟨rfl, Y2⟩
  refine b45_4 Y2.ok (s28 (nt := nt) (Y2.n1 (by omega)) (by omega) (by rw [g_dw_I (by omega)]; exact ht) ht12) (by decide) ?_
  rintro z h3 ⟨rfl, Y3⟩
  rw [g_dw_L] at Y3 ⊢
  have e10 : qI h3 589 10 = nI w := by rw [Y3.I (by decide), g_fw_I (by omega), g_dw_I (by omega)]; exact hw
  have i4 : (4 : Int32) + nI w = nI (4 + w) := nI_add 4 w
  have Y3 : g_y K Pl V e c (g_n1 V nt m a h0) h3 (a + 4) := Y3
  have Y4 := Y3.sI (o := 589) (j := 10) (v := nI (w + 1)) (by decide) (by decide)
  refine b45_19 (v0 := o) Y3.ok (Y3.rl (by rw [g_n1_R]; exact hR)) (m := 0) (P := fun h' => g_y K Pl V e c (g_dd o d 12 (nI (4 + w)) (q_on (p_fi (qL h0 590) nt (V (a + 3)))) (-1) (q_sI (g_n1 V nt m a h0) 589 10 (nI (w + 1)))) h' (a + 4)) (by rw [e10, i4, nI_1]; exact s137 (d := d) Y4 hO (by rw [q_sI_n (by omega), g_n1_I (by omega)]; exact hd) h8) (by decide) (fun h5 Y5 => ?_)
  rw [e10, i4]
  refine b45_51 (s38 (m := m) Y5 ?_ h22) (by decide) (fun h6 Y6 => b45_60 (fin _ Y6))
  unfold g_dd
  rw [q_sI_n (by omega), qI_sA, qI_sA, qI_sA, qI_sA, q_sI_n (by omega), g_n1_I (by omega)]
  exact hm
/-- a join -/
def g_bit (x : Int32) : Int32 := if x < 0 then 0 else 1 <<< (x &&& 31)
def g_js (c nt ns row : Nat) (os : Option Nat) (ty : Int32) (h : q_Hp) : Bool := q_rg (q_on os) ns && t_is (qA h (c + 1)) nt (qA h row (q_on os).toNatClampNeg) 12 ty
def g_j2 (c nt ns a : Nat) (oa os ob : Option Nat) (h : q_Hp) : q_Hp := if os = none then g_fa 4 (a + 3) h else if (¬ oa = none ∧ g_js c nt ns (c + 2) os (g_vo (qA h 595) oa) h = false) ∨ (¬ ob = none ∧ g_js c nt ns (c + 3) os (g_vo (qA h 595) ob) h = false) then g_fa 5 (a + 3) h else h
def g_j3 (o d : Nat) (x y z : Int32) (h : q_Hp) : q_Hp := q_sI (g_dd o d 13 x y z h) 589 11 (qI (g_dd o d 13 x y z h) 589 11 ||| (g_bit x ||| g_bit z))
def g_jo (V : Nat → Int64) (c nt ns o d m a : Nat) (h : q_Hp) : q_Hp := g_j3 o d (g_nu (g_ft 5 m (V (a + 1)) h) h) (q_on (p_fi (qL h 591) ns (V (a + 3)))) (g_nu (g_ft 5 m (V (a + 5)) h) h) (g_fw (a + 5) (g_ft 5 m (V (a + 5)) h) (g_j2 c nt ns a (g_ft 5 m (V (a + 1)) h) (p_fi (qL h 591) ns (V (a + 3))) (g_ft 5 m (V (a + 5)) h) (g_fw (a + 1) (g_ft 5 m (V (a + 1)) h) h)))
theorem g_j2_I {nt ns x o j : Nat} {oa os ob : Option Nat} (h9 : ¬ (o = 589 ∧ (j = 15 ∨ j = 16))) : qI (g_j2 c nt ns x oa os ob h0) o j = qI h0 o j := by
  unfold g_j2
  split
  · exact g_fa_I h9
  · split
    · exact g_fa_I h9
    · rfl
theorem g_j2_A {nt ns x : Nat} {oa os ob : Option Nat} : qA (g_j2 c nt ns x oa os ob h0) = qA h0 := by
  unfold g_j2
  split
  · exact g_fa_A
  · split
    · exact g_fa_A
    · rfl
theorem g_j2_L {nt ns x : Nat} {oa os ob : Option Nat} : qL (g_j2 c nt ns x oa os ob h0) = qL h0 := by
  unfold g_j2
  split
  · exact g_fa_L
  · split
    · exact g_fa_L
    · rfl
theorem g_j2_R {nt ns x : Nat} {oa os ob : Option Nat} : qR (g_j2 c nt ns x oa os ob h0) = qR h0 := by
  unfold g_j2
  split
  · exact g_fa_R
  · split
    · exact g_fa_R
    · rfl
theorem s47 {x : Int32} {h : q_Hp} : q_mI 0 47 [.int x] h (fun z h' => h' = h ∧ z = g_bit x) := by
  refine q_mI.of (q_recS rfl) (fun Q fin => ?_)
  unfold g_bit at fin
  refine b47_0 (fun c1 => b47_10 (fin _ _ ⟨rfl, ?_⟩)) (fun c1 => b47_4 (fin _ _ ⟨rfl, ?_⟩))
  · rw [if_pos c1]
  · rw [if_neg c1]
theorem s46 {nt ns o d m : Nat} (Y : g_y K Pl V e c h0 h (a + 1)) (ha : a + 6 ≤ e) (P : g_P c nt ns o h0) (hm : qI h0 589 9 = nI m) (h22 : m ≤ 22) (hd : qI h0 o 4 = nI d) (h8 : d < 8) : q_mV 2 46 [.ref 589] h (fun h' => g_y K Pl V e c (g_jo V c nt ns o d m a h0) h' (a + 6)) := by
  refine q_mV.of (q_recV rfl Y.ok) (fun Q fin => ?_)
  obtain ⟨hR, hO, ht, ht12, hns, hs12⟩ := P
  have hl := hO.n
  have hc := Y.c2
  refine b46_0 (s35 Y (by omega) hm h22) (by decide) ?_
  rintro z h2 ⟨rfl, Y2⟩
  have q1 : qI (q_sI h2 589 14 (qI h2 589 14 + 1)) 589 14 + 2 = nI (a + 5) := by rw [q_sI_e, Y2.ea, nI_1]; exact nI_add _ 2
  have Y3 := Y2.n1 (show a + 1 + 1 + 1 ≤ e by omega)
  refine b46_5 (v0 := 3) Y2.ok (Y2.sh.ref rfl) (by rw [q1]; exact s190 Y3.sh Y3.C (show a + 5 ≤ e by omega)) (by decide) ?_
  rintro z h3 ⟨e0, rfl⟩
  subst h3
  have ft : ∀ {v}, g_ft 5 m v (g_fw (a + 1) (g_ft 5 m (V (a + 1)) h0) h0) = g_ft 5 m v h0 := fun {v} => g_ft_c (by rw [g_fw_L]) (by rw [g_fw_A]) (by rw [g_fw_A])
  refine b46_30 (s34 Y3 (by rw [g_fw_I (by omega)]; exact hm) h22) (by decide) ?_
  rintro z h3 ⟨e0, rfl⟩
  subst h3
  rw [ft]
  unfold g_jo at fin
  have la : ∀ j, g_ft 5 m (V (a + 1)) h0 = some j → j < m := fun j h9 => g_ft_lt h9
  have lb : ∀ j, g_ft 5 m (V (a + 5)) h0 = some j → j < m := fun j h9 => g_ft_lt h9
  generalize hoa : g_ft 5 m (V (a + 1)) h0 = oa at *
  generalize hob : g_ft 5 m (V (a + 5)) h0 = ob at *
  have nS : qI (q_sI h2 589 14 (qI h2 589 14 + 1)) c 1 = nI ns := by rw [Y3.O (by omega), g_fw_I (by omega)]; exact hns
  have nL : qL (q_sI h2 589 14 (qI h2 589 14 + 1)) 591 = qL h0 591 := by rw [Y3.L (by decide), g_fw_L]
  refine b46_34 (v0 := 591) (v1 := c) (v2 := 3) Y3.ok (Y3.sh.ref rfl) Y3.bk Y3.okB (Y3.sh.ref rfl) (by rw [Y3.ea]; exact s190 Y3.sh Y3.C (show a + 3 ≤ e by omega)) (by decide) ?_
  rintro z h3 ⟨e0, rfl⟩
  subst h3
  rw [nS]
  refine b46_57 (s27 (n := 12) (Y3.sh.ok rfl) (Y3.sh.len rfl) hs12 (by decide)) (by decide) ?_
  rintro z h3 ⟨e0, rfl⟩
  subst h3
  rw [nL]
  have ls : ∀ j, p_fi (qL h0 591) ns (V (a + 3)) = some j → j < ns := fun j h9 => (p_fi_lt h9).1
  generalize hos : p_fi (qL h0 591) ns (V (a + 3)) = os at *
  have na := q_on_none (o := oa) (n := 22) (fun j h => by have := la j h; omega) (by decide)
  have nb := q_on_none (o := ob) (n := 22) (fun j h => by have := lb j h; omega) (by decide)
  have nO := q_on_none (o := os) (n := 12) (fun j h => by have := ls j h; omega) (by decide)
  -- behind the sort
  have g135 : ∀ h, g_y K Pl V e c (g_j2 c nt ns a oa os ob (g_fw (a + 1) oa h0)) h (a + 3) → q_wp 2 46 135 [some (.ref 589), some (.int (q_on oa)), some (.int (q_on ob)), some (.int (q_on os)), none, none] [] h Q := by
    intro h Y
    refine b46_135 Y.ok (s35 (m := m) (Y.n2 (by omega)) (by omega) (by rw [g_j2_I (by omega), g_fw_I (by omega)]; exact hm) h22) (by decide) ?_
    rintro z h3 ⟨rfl, Y3⟩
    have ft2 : g_ft 5 m (V (a + 3 + 2)) (g_j2 c nt ns a oa os ob (g_fw (a + 1) oa h0)) = ob := by
      rw [← hob]
      exact g_ft_c (by rw [g_j2_L, g_fw_L]) (by rw [g_j2_A, g_fw_A]) (by rw [g_j2_A, g_fw_A])
    rw [ft2] at Y3
    have A94 : ∀ {h}, g_y K Pl V e c (g_fw (a + 3 + 2) ob (g_j2 c nt ns a oa os ob (g_fw (a + 1) oa h0))) h (a + 3 + 2 + 1) → qA h 594 = qA h0 594 := fun Y => by rw [Y.A (by decide), g_fw_A, g_j2_A, g_fw_A]
    refine b46_150 (v0 := 594) Y3.ok (Y3.sh.ref rfl) (s232 (n := 22) (Y3.sh.ok rfl) (Y3.sh.len rfl) (by decide)) (by decide) ?_
    rintro z h4 ⟨e0, rfl⟩
    subst h4
    refine b46_159 (v0 := 594) Y3.ok (Y3.sh.ref rfl) (s232 (n := 22) (Y3.sh.ok rfl) (Y3.sh.len rfl) (by decide)) (by decide) ?_
    rintro z h4 ⟨e0, rfl⟩
    subst h4
    rw [A94 Y3, g_at (fun j h9 => by have := la j h9; omega), g_at (fun j h9 => by have := lb j h9; omega)]
    refine b46_169 (v0 := o) Y3.ok (Y3.rl (by rw [g_fw_R, g_j2_R, g_fw_R]; exact hR)) (s137 (d := d) Y3 hO (by rw [g_fw_I (by omega), g_j2_I (by omega), g_fw_I (by omega)]; exact hd) h8) (by decide) (fun h5 Y5 => ?_)
    refine b46_185 Y5.ok s47 (by decide) ?_
    rintro z h4 ⟨e0, rfl⟩
    subst h4
    refine b46_195 s47 (by decide) ?_
    rintro z h4 ⟨e0, rfl⟩
    subst h4
    refine b46_200 Y5.ok (fin _ ?_)
    rw [Y5.I (by decide)]
    exact Y5.sI (by decide) (by decide)
  have A3 : ∀ x, ¬ x = 589 → qA (q_sI h2 589 14 (qI h2 589 14 + 1)) x = qA h0 x := fun x hx => by rw [Y3.A hx, g_fw_A]
  have nt3 : qI (q_sI h2 589 14 (qI h2 589 14 + 1)) c 0 = nI nt := by rw [Y3.O (by omega), g_fw_I (by omega)]; exact ht
  have d15 : ¬ c + 1 = 589 ∧ ¬ c + 2 = 589 ∧ ¬ c + 3 = 589 := by omega
  have js : ∀ row, g_js c nt ns row os (g_vo (qA (g_fw (a + 1) oa h0) 595) oa) (g_fw (a + 1) oa h0) = (q_rg (q_on os) ns && t_is (qA h0 (c + 1)) nt (qA h0 row (q_on os).toNatClampNeg) 12 (g_vo (qA h0 595) oa)) := fun row => by
    unfold g_js
    rw [g_fw_A]
  have js2 : ∀ row, g_js c nt ns row os (g_vo (qA (g_fw (a + 1) oa h0) 595) ob) (g_fw (a + 1) oa h0) = (q_rg (q_on os) ns && t_is (qA h0 (c + 1)) nt (qA h0 row (q_on os).toNatClampNeg) 12 (g_vo (qA h0 595) ob)) := fun row => by
    unfold g_js
    rw [g_fw_A]
  unfold g_j2 at g135
  rw [js, js2] at g135
  refine b46_60 (fun c1 => ?_) (fun c1 => b46_66 (s26 Y3) (by decide) (fun h' Y' => b46_71 (g135 _ ?_)))
  rotate_left 1
  · rw [if_pos (nO.mp c1)]
    exact Y'
  have n1 : ¬ os = none := fun h9 => c1 (nO.mpr h9)
  rw [if_neg n1] at g135
  -- the second end
  have g106 : (oa = none ∨ (q_rg (q_on os) ns && t_is (qA h0 (c + 1)) nt (qA h0 (c + 2) (q_on os).toNatClampNeg) 12 (g_vo (qA h0 595) oa)) = true) → q_wp 2 46 106 [some (.ref 589), some (.int (q_on oa)), some (.int (q_on ob)), some (.int (q_on os)), none, none] [] (q_sI h2 589 14 (qI h2 589 14 + 1)) Q := by
    intro ha1
    have first : ¬ (¬ oa = none ∧ (q_rg (q_on os) ns && t_is (qA h0 (c + 1)) nt (qA h0 (c + 2) (q_on os).toNatClampNeg) 12 (g_vo (qA h0 595) oa)) = false) := by
      rintro ⟨h8, h9⟩
      rcases ha1 with h7 | h7
      · exact h8 h7
      · rw [h7] at h9; cases h9
    refine b46_106 (fun c2 => g135 _ ?_) (fun c2 => b46_111 (v0 := c) (v1 := 595) Y3.ok Y3.bk (Y3.sh.ref rfl) (s232 (n := 22) (Y3.sh.ok rfl) (Y3.sh.len rfl) (by decide)) (by decide) ?_)
    · rw [if_neg (fun h9 => h9.elim first (fun h8 => h8.1 (nb.mp c2)))]
      exact Y3
    rintro z h4 ⟨e0, rfl⟩
    subst h4
    rw [A3 595 (by decide), g_at (fun j h9 => by have := lb j h9; omega)]
    refine b46_124 (s8 Y3.sh Y3.B nt3 ht12 nS hs12) (by decide) ?_
    rintro z h4 ⟨e0, rfl⟩
    subst h4
    rw [A3 (c + 1) d15.1, A3 (c + 3) d15.2.2]
    refine b46_127 (fun c3 => g135 _ ?_) (fun c3 => b46_130 (s26 Y3) (by decide) (fun h' Y' => g135 _ ?_))
    · rw [if_neg (fun h9 => h9.elim first (fun h8 => by rw [b2i_ne.mp c3] at h8; cases h8.2))]
      exact Y3
    · rw [if_pos (Or.inr ⟨fun h9 => c2 (nb.mpr h9), b2i_eq.mp c3⟩)]
      exact Y'
  refine b46_74 (fun c2 => g106 (Or.inl (na.mp c2))) (fun c2 => b46_79 (v0 := c) (v1 := 595) Y3.ok Y3.bk (Y3.sh.ref rfl) (s232 (n := 22) (Y3.sh.ok rfl) (Y3.sh.len rfl) (by decide)) (by decide) ?_)
  rintro z h4 ⟨e0, rfl⟩
  subst h4
  rw [A3 595 (by decide), g_at (fun j h9 => by have := la j h9; omega)]
  refine b46_92 (s7 Y3.sh Y3.B nt3 ht12 nS hs12) (by decide) ?_
  rintro z h4 ⟨e0, rfl⟩
  subst h4
  rw [A3 (c + 1) d15.1, A3 (c + 2) d15.2.1]
  refine b46_95 (fun c3 => g106 (Or.inr (b2i_ne.mp c3))) (fun c3 => b46_98 (s26 Y3) (by decide) (fun h' Y' => b46_103 (g135 _ ?_)))
  rw [if_pos (Or.inl ⟨fun h9 => c2 (na.mpr h9), b2i_eq.mp c3⟩)]
  exact Y'
/-- a number that is set -/
def g_s1 (V : Nat → Int64) (m a : Nat) (h : q_Hp) : q_Hp := g_xw (a + 3) (V (a + 3)) (g_fw (a + 1) (g_ft 5 m (V (a + 1)) h) h)
def g_se (K : Nat → Nat) (V : Nat → Int64) (c o d m a : Nat) (h : q_Hp) : q_Hp := g_dd o d 14 (g_nu (g_ft 5 m (V (a + 1)) h) h) (V (a + 3)).toInt32 (-1) (g_t1 K V c m o (8 + d) (a + 5) (g_s1 V m a h))
theorem s48 {nt ns o d m q : Nat} (Y : g_y K Pl V e c h0 h (a + 1)) (P : g_P c nt ns o h0) (hm : qI h0 589 9 = nI m) (h22 : m ≤ 22) (hd : qI h0 o 4 = nI d) (h8 : d < 8) (hq : qI h0 c 4 = nI q) (hqa : q ≤ a) (hv : e_vE K 1202 0 (a + 5)) (he : e_E K 1202 (a + 5) ≤ e) (h5 : a + 5 ≤ e) : q_mV 20 48 [.ref 589] h (fun h' => g_y K Pl V e c (g_se K V c o d m a h0) h' (e_E K 1202 (a + 5)) ∧ ∃ q', qI (g_se K V c o d m a h0) c 4 = nI q' ∧ q' ≤ e_E K 1202 (a + 5)) := by
  refine q_mV.of (q_recV rfl Y.ok) (fun Q fin => ?_)
  obtain ⟨hR, hO, ht, ht12, hns, hs12⟩ := P
  have hl := hO.n
  have hne := hO.ne
  have hc := Y.c2
  have na := hO.na hc
  refine b48_0 (s35 Y (by omega) hm h22) (by decide) ?_
  rintro z h2 ⟨rfl, Y2⟩
  refine b48_5 Y2.ok (s49 (Y2.n1 (by omega)) (by omega)) (by decide) ?_
  rintro z h3 ⟨rfl, Y3⟩
  have Y3 : g_y K Pl V e c (g_s1 V m a h0) h3 (a + 4) := Y3
  have I3 : ∀ {x j}, ¬ (x = 589 ∧ (j = 15 ∨ j = 16)) → qI (g_s1 V m a h0) x j = qI h0 x j := fun h9 => by
    unfold g_s1
    rw [g_xw_I h9, g_fw_I h9]
  have R3 : qR (g_s1 V m a h0) = qR h0 := by
    unfold g_s1
    rw [g_xw_R, g_fw_R]
  have A3 : qA (g_s1 V m a h0) = qA h0 := by
    unfold g_s1
    rw [g_xw_A, g_fw_A]
  have Y4 := Y3.n1 (show a + 4 + 1 ≤ e by omega)
  have e4 : qI (q_sI h3 589 14 (qI h3 589 14 + 1)) o 4 = nI d := by rw [Y4.O (by omega), I3 (by omega)]; exact hd
  have o11 : ∀ {h}, q_Sh h → q_ok h (o + 12) 20 ∧ (qK h (o + 12)).2 = 16 := fun S => S.oa hO 11 (by decide)
  have o12 : ∀ {h}, q_Sh h → q_ok h (o + 13) 20 ∧ (qK h (o + 13)).2 = 16 := fun S => S.oa hO 12 (by decide)
  refine b48_20 (v0 := o) Y3.ok (Y3.rl (by rw [R3]; exact hR)) (Y3.sh.oo hO) (by rw [e4]; exact s129) (by decide) ?_
  rintro z h4 ⟨e0, rfl⟩
  subst h4
  refine b48_41 (v0 := o) (v1 := o + 12) (v2 := c) Y4.ok (Y4.rl (by rw [R3]; exact hR)) (Y4.sh.oo hO) (Y4.sh.orr hO 11 (by decide)) Y4.bk (s15 Y4.okB) (by decide) ?_
  rintro z h4 ⟨e0, rfl⟩
  subst h4
  refine b48_57 (s233 (n := 16) (o11 Y4.sh).1 (o11 Y4.sh).2 (by decide)) (by decide) ?_
  rintro h4 rfl
  rw [c_set_in (by omega) (by decide), Y4.O (show ¬ c = 589 by omega)]
  have Y5 := Y4.sA (x := o + 12) (i := 8 + d) (v := qI (g_s1 V m a h0) c 4) (by omega)
  refine b48_60 (g_WEn (m := m) h22 1202 0 (a + 5) _ _ q (by decide) hv he Y5 (by rw [qI_sA, I3 (by omega)]; exact hq) (by omega) (by rw [qI_sA, I3 (by omega)]; exact hm)) (by decide) ?_
  rintro h6 ⟨Y6, t6, q6, q7, q8⟩
  refine b48_65 (v0 := o) (v1 := o + 13) (v2 := c) Y6.ok (Y6.rl (by rw [g_E_R, qR_sA, R3]; exact hR)) (Y6.sh.oo hO) (Y6.sh.orr hO 12 (by decide)) Y6.bk (s15 Y6.okB) (by decide) ?_
  rintro z h4 ⟨e0, rfl⟩
  subst h4
  refine b48_80 (s233 (n := 16) (o12 Y6.sh).1 (o12 Y6.sh).2 (by decide)) (by decide) ?_
  rintro h7 rfl
  rw [c_set_in (by omega) (by decide), Y6.O (show ¬ c = 589 by omega)]
  have Y7 : g_y K Pl V e c (g_t1 K V c m o (8 + d) (a + 5) (g_s1 V m a h0)) _ (e_E K 1202 (a + 5)) := Y6.sA (x := o + 13) (i := 8 + d) (v := qI (g_E K V c m 1202 (a + 5) (q_sA (g_s1 V m a h0) (o + 12) (8 + d) (qI (g_s1 V m a h0) c 4))) c 4) (by omega)
  refine b48_83 (v0 := o) (v1 := 594) Y7.ok (Y7.rl (by rw [g_t1_R, R3]; exact hR)) (Y7.sh.ref rfl) (s232 (n := 22) (Y7.sh.ok rfl) (Y7.sh.len rfl) (by decide)) (by decide) ?_
  rintro z h4 ⟨e0, rfl⟩
  subst h4
  rw [g_at (fun j h9 => by have := g_ft_lt h9; omega), Y7.A (by decide), g_t1_A (by omega) (by omega), A3]
  refine b48_97 (s137 (d := d) Y7 hO (by rw [g_t1_I (by omega) (by omega), I3 (by omega)]; exact hd) h8) (by decide) (fun h8 Y8 => b48_102 (fin _ ⟨Y8, q6, ?_, by omega⟩))
  unfold g_se g_dd
  rw [q_sI_n (by omega)]
  exact q7
end GB
