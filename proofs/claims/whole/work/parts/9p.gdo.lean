/-! THE BUILDER OF THE CLASS: dos without rows -/
/-- how many dos -/
def g_Dn (c : Nat) (h : q_Hp) : Nat := (qI h c 5 : Int32).toNatClampNeg
/-- names of rules and procs, as the syntax found them -/
def g_SN (rF pF : Nat) (h : q_Hp) : Prop := qI h 8 5 = nI rF ∧ rF ≤ 20 ∧ qI h 8 6 = nI pF ∧ pF ≤ 10
def g_tr (V : Nat → Int64) (rF a : Nat) (h : q_Hp) : Option Nat := p_fi (qL h 9) rF (V a)
def g_tp (V : Nat → Int64) (pF a : Nat) (h : q_Hp) : Option Nat := p_fi (qL h 10) pF (V a)
def g_yw (a : Nat) (v : Int64) (h : q_Hp) : q_Hp := if lg_cmp v 100 ≤ 0 then h else g_fa 5 a h
/-- a call of a rule or a proc -/
def g_dc (K : Nat → Nat) (V : Nat → Int64) (c rF pF D a : Nat) (h : q_Hp) : q_Hp := g_pt c D 1 (q_on (if K a = 18 then g_tp V pF (a + 1) h else g_tr V rF (a + 1) h)) (g_fw (a + 1) (if K a = 18 then g_tp V pF (a + 1) h else g_tr V rF (a + 1) h) (g_do c D (nI (K a)) h))
def g_ad (V : Nat → Int64) (c rF D a : Nat) (h : q_Hp) : q_Hp := g_pt c D 1 (q_on (g_tr V rF a h)) (g_fw a (g_tr V rF a h) (g_do c D 15 h))
def g_av (K : Nat → Nat) (V : Nat → Int64) (c rF : Nat) : Nat → Nat → y_S → q_Hp → q_Hp
  | 0, _, _, h => h
  | m + 1, D, s, h => if y_is K 28 s = true then g_av K V c rF m (D + 1) (y_nd K 40 (y_ps s)) (g_pt c D 2 (nI (D + 1)) (g_ad V c rF (D + 1) (s.1 + 1) h)) else h
def g_an (K : Nat → Nat) (V : Nat → Int64) (c rF D a : Nat) (h : q_Hp) : q_Hp := g_pt c D 3 (nI (D + 1)) (g_av K V c rF 1201 (D + 1) (a + 2, 0) (g_ad V c rF (D + 1) (a + 1) (g_do c D 17 h)))
theorem g_do_I {c D x j : Nat} {y : Int32} {h : q_Hp} (h9 : ¬ (x = c ∧ j = 5)) : qI (g_do c D y h) x j = qI h x j := by
  unfold g_do
  rw [qI_sA, qI_sA, qI_sA, qI_sA, qI_sA, qI_sA, q_sI_n h9]
theorem g_do_5 {c D : Nat} {y : Int32} {h : q_Hp} : qI (g_do c D y h) c 5 = nI (D + 1) := by
  unfold g_do
  rw [qI_sA, qI_sA, qI_sA, qI_sA, qI_sA, qI_sA, q_sI_e]
theorem g_do_L {c D : Nat} {y : Int32} {h : q_Hp} : qL (g_do c D y h) = qL h := rfl
theorem g_do_R {c D : Nat} {y : Int32} {h : q_Hp} : qR (g_do c D y h) = qR h := rfl
theorem g_do_A {c D x : Nat} {y : Int32} {h : q_Hp} (h9 : ¬ x = c + 8) : qA (g_do c D y h) x = qA h x := by
  unfold g_do
  rw [qA_sAn h9, qA_sAn h9, qA_sAn h9, qA_sAn h9, qA_sAn h9, qA_sAn h9]
  rfl
theorem g_pt_I {c j k x i : Nat} {y : Int32} {h : q_Hp} : qI (g_pt c j k y h) x i = qI h x i := rfl
theorem g_pt_A {c j k x : Nat} {y : Int32} {h : q_Hp} (h9 : ¬ x = c + 8) : qA (g_pt c j k y h) x = qA h x := by
  unfold g_pt
  rw [qA_sAn h9]
/-- what a do leaves as it is -/
def g_Kd (c : Nat) (h h' : q_Hp) : Prop := (∀ x j, ¬ (x = 589 ∧ (j = 15 ∨ j = 16)) → ¬ (x = c ∧ j = 5) → qI h' x j = qI h x j) ∧ (∀ x, ¬ x = c + 8 → qA h' x = qA h x) ∧ qL h' = qL h ∧ qR h' = qR h
section GD
variable {K : Nat → Nat} {V : Nat → Int64} {c rF pF : Nat} {h h1 h2 : q_Hp}
theorem g_Kd.rf : g_Kd c h h := ⟨fun _ _ _ _ => rfl, fun _ _ => rfl, rfl, rfl⟩
theorem g_Kd.trans (a : g_Kd c h h1) (b : g_Kd c h1 h2) : g_Kd c h h2 := ⟨fun x j q1 q2 => (b.1 x j q1 q2).trans (a.1 x j q1 q2), fun x q => (b.2.1 x q).trans (a.2.1 x q), b.2.2.1.trans a.2.2.1, b.2.2.2.trans a.2.2.2⟩
theorem g_Kd.fa {n : Int32} {a : Nat} (H : g_Kd c h h1) : g_Kd c h (g_fa n a h1) := H.trans ⟨fun x j q1 _ => g_fa_I q1, fun x _ => by rw [g_fa_A], g_fa_L, g_fa_R⟩
theorem g_Kd.fw {a : Nat} {o : Option Nat} (H : g_Kd c h h1) : g_Kd c h (g_fw a o h1) := by
  unfold g_fw
  split
  · exact H.fa
  · exact H
theorem g_Kd.yw {a : Nat} {v : Int64} (H : g_Kd c h h1) : g_Kd c h (g_yw a v h1) := by
  unfold g_yw
  split
  · exact H
  · exact H.fa
theorem g_Kd.dd {D : Nat} {y : Int32} (H : g_Kd c h h1) : g_Kd c h (g_do c D y h1) := H.trans ⟨fun x j _ q2 => g_do_I q2, fun x q => g_do_A q, rfl, rfl⟩
theorem g_Kd.pt {j k : Nat} {y : Int32} (H : g_Kd c h h1) : g_Kd c h (g_pt c j k y h1) := H.trans ⟨fun x j _ _ => rfl, fun x q => g_pt_A q, rfl, rfl⟩
theorem g_Kd.dc {D a : Nat} (H : g_Kd c h h1) : g_Kd c h (g_dc K V c rF pF D a h1) := H.dd.fw.pt
theorem g_Kd.ad {D a : Nat} (H : g_Kd c h h1) : g_Kd c h (g_ad V c rF D a h1) := H.dd.fw.pt
theorem g_Kd.av : ∀ m D s h1, g_Kd c h h1 → g_Kd c h (g_av K V c rF m D s h1) := by
  intro m
  induction m with
  | zero => intro D s h1 H; exact H
  | succ m ih =>
    intro D s h1 H
    unfold g_av
    split
    · exact ih _ _ _ H.ad.pt
    · exact H
theorem g_Kd.an {D a : Nat} (H : g_Kd c h h1) : g_Kd c h (g_an K V c rF D a h1) := (g_Kd.av _ _ _ _ H.dd.ad).pt
theorem g_Kd.SN (H : g_Kd c h h1) (hc : c = 11 ∨ c = 300) (S : g_SN rF pF h) : g_SN rF pF h1 := by
  unfold g_SN
  rw [H.1 8 5 (by omega) (by omega), H.1 8 6 (by omega) (by omega)]
  exact S
end GD
section GB
variable {K Pl : Nat → Nat} {V : Nat → Int64} {e c a : Nat} {h0 h : q_Hp}
theorem s57 (Y : g_y K Pl V e c h0 h a) (ha : a < e) : q_mI 1 57 [.ref 589] h (fun z h' => z = (V a).toInt32 ∧ g_y K Pl V e c (g_yw a (V a) h0) h' (a + 1)) := by
  refine q_mI.of (q_recV rfl Y.ok) (fun Q fin => ?_)
  refine b57_0 (v0 := 3) Y.ok (Y.sh.ref rfl) (by rw [Y.ea]; exact s190 Y.sh Y.C Y.le) (by decide) ?_
  rintro z h2 ⟨e0, rfl⟩
  subst h2
  refine b57_11 (fun c1 => b57_25 Y.ok (fin _ _ ⟨rfl, ?_⟩)) (fun c1 => b57_20 (s26 Y) (by decide) (fun h' Y' => b57_25 Y'.ok (fin _ _ ⟨rfl, ?_⟩)))
  · unfold g_yw
    rw [if_pos c1]
    exact Y.n1 (by omega)
  · unfold g_yw
    rw [if_neg c1]
    exact Y'.n1 (by omega)
theorem s58_17 {rF pF : Nat} {v : Int64} {Q : Option Value → q_Hp → Prop} (Y : g_y K Pl V e c h0 h a) (S : g_SN rF pF h0) (fin : ∀ l, q_wp 1 58 57 [some (.ref 589), some (.long v), none, some (.int (q_on (p_fi (qL h0 9) rF v))), some (.int l)] [] h Q) : ∀ r j, j + r = rF → p_fi (qL h0 9) rF v = q_fst (fun i => qL h0 9 i == v) j r → q_wp 1 58 17 [some (.ref 589), some (.long v), none, some (.int (-1)), some (.int (nI j))] [] h Q := by
  have e5 : qI h 8 5 = nI rF := by rw [Y.O (by decide)]; exact S.1
  have el : qL h 9 = qL h0 9 := Y.L (by decide)
  have r20 := S.2.1
  have tur : ∀ {x3 : Int32} {j : Nat} (w1 : rF ≤ j → q_wp 1 58 57 [some (.ref 589), some (.long v), none, some (.int x3), some (.int (nI j))] [] h Q) (w2 : j < rF → q_wp 1 58 29 [some (.ref 589), some (.long v), none, some (.int x3), some (.int (nI j))] [] h Q), j < 100 → q_wp 1 58 17 [some (.ref 589), some (.long v), none, some (.int x3), some (.int (nI j))] [] h Q := by
    intro x3 j w1 w2 hj
    refine b58_17 (v0 := 8) Y.ok (Y.sh.ref rfl) (s163 Y.sh) (by decide) ?_
    rintro z h2 ⟨e0, rfl⟩
    subst h2
    rw [e5]
    refine b58_26 (fun c1 => w1 ((nI_leI (by omega) (by omega)).mp c1)) (fun c1 => w2 ?_)
    rcases Nat.lt_or_ge j rF with h9 | h9
    · exact h9
    · exact absurd ((nI_leI (by omega) (by omega)).mpr h9) c1
  intro r
  induction r with
  | zero =>
    intro j hj hf
    rw [hf] at fin
    exact tur (fun _ => fin _) (fun h9 => absurd h9 (by omega)) (by omega)
  | succ r ih =>
    intro j hj hf
    refine tur (fun h9 => absurd h9 (by omega)) (fun h9 => b58_29 (fun c1 => absurd rfl c1) (fun _ => b58_34 (v0 := 8) Y.ok (Y.sh.ref rfl) (s165 Y.sh e5 r20 h9) (by decide) ?_)) (by omega)
    rintro z h2 ⟨e0, rfl⟩
    subst h2
    rw [el]
    refine b58_43 (fun c1 => b58_51 ?_) (fun c1 => b58_48 (b58_51 ?_))
    · rw [nI_1]
      refine ih (j + 1) (by omega) (hf.trans (q_fst_s1 ?_))
      exact beq_false_of_ne (fun h9 => c1 (lg_0.mpr h9))
    · rw [hf, q_fst_s0 (p := fun i => qL h0 9 i == v) (beq_iff_eq.mpr (lg_0.mp c1))] at fin
      rw [nI_1]
      exact tur (fun _ => fin _) (fun h9 => b58_29 (fun _ => fin _) (fun c2 => absurd c2 (q_on_ne (by omega)))) (by omega)
theorem s58 {rF pF : Nat} (Y : g_y K Pl V e c h0 h a) (ha : a < e) (S : g_SN rF pF h0) : q_mI 1 58 [.ref 589] h (fun z h' => z = q_on (g_tr V rF a h0) ∧ g_y K Pl V e c (g_fw a (g_tr V rF a h0) h0) h' (a + 1)) := by
  refine q_mI.of (q_recV rfl Y.ok) (fun Q fin => ?_)
  have r20 := S.2.1
  unfold g_tr at fin
  refine b58_0 (v0 := 3) Y.ok (Y.sh.ref rfl) (by rw [Y.ea]; exact s190 Y.sh Y.C Y.le) (by decide) ?_
  rintro z h2 ⟨e0, rfl⟩
  subst h2
  have qn := q_on_none (o := p_fi (qL h0 9) rF (V a)) (n := 20) (fun j h => by have := (p_fi_lt h).1; omega) (by decide)
  refine b58_11 ?_
  rw [show (0 : Int32) = nI 0 from rfl]
  refine s58_17 Y S (fun l => ?_) rF 0 (by omega) rfl
  refine b58_57 (fun c1 => b58_67 Y.ok (fin _ _ ⟨rfl, ?_⟩)) (fun c1 => b58_62 (s26 Y) (by decide) (fun h' Y' => b58_67 Y'.ok (fin _ _ ⟨rfl, ?_⟩)))
  · unfold g_fw
    rw [if_neg (fun h9 => c1 (qn.mpr h9))]
    exact Y.n1 (by omega)
  · unfold g_fw
    rw [if_pos (qn.mp c1)]
    exact Y'.n1 (by omega)
theorem s59_17 {rF pF : Nat} {v : Int64} {Q : Option Value → q_Hp → Prop} (Y : g_y K Pl V e c h0 h a) (S : g_SN rF pF h0) (fin : ∀ l, q_wp 1 59 57 [some (.ref 589), some (.long v), none, some (.int (q_on (p_fi (qL h0 10) pF v))), some (.int l)] [] h Q) : ∀ r j, j + r = pF → p_fi (qL h0 10) pF v = q_fst (fun i => qL h0 10 i == v) j r → q_wp 1 59 17 [some (.ref 589), some (.long v), none, some (.int (-1)), some (.int (nI j))] [] h Q := by
  have e5 : qI h 8 6 = nI pF := by rw [Y.O (by decide)]; exact S.2.2.1
  have el : qL h 10 = qL h0 10 := Y.L (by decide)
  have r20 := S.2.2.2
  have tur : ∀ {x3 : Int32} {j : Nat} (w1 : pF ≤ j → q_wp 1 59 57 [some (.ref 589), some (.long v), none, some (.int x3), some (.int (nI j))] [] h Q) (w2 : j < pF → q_wp 1 59 29 [some (.ref 589), some (.long v), none, some (.int x3), some (.int (nI j))] [] h Q), j < 100 → q_wp 1 59 17 [some (.ref 589), some (.long v), none, some (.int x3), some (.int (nI j))] [] h Q := by
    intro x3 j w1 w2 hj
    refine b59_17 (v0 := 8) Y.ok (Y.sh.ref rfl) (s164 Y.sh) (by decide) ?_
    rintro z h2 ⟨e0, rfl⟩
    subst h2
    rw [e5]
    refine b59_26 (fun c1 => w1 ((nI_leI (by omega) (by omega)).mp c1)) (fun c1 => w2 ?_)
    rcases Nat.lt_or_ge j pF with h9 | h9
    · exact h9
    · exact absurd ((nI_leI (by omega) (by omega)).mpr h9) c1
  intro r
  induction r with
  | zero =>
    intro j hj hf
    rw [hf] at fin
    exact tur (fun _ => fin _) (fun h9 => absurd h9 (by omega)) (by omega)
  | succ r ih =>
    intro j hj hf
    refine tur (fun h9 => absurd h9 (by omega)) (fun h9 => b59_29 (fun c1 => absurd rfl c1) (fun _ => b59_34 (v0 := 8) Y.ok (Y.sh.ref rfl) (s166 Y.sh e5 r20 h9) (by decide) ?_)) (by omega)
    rintro z h2 ⟨e0, rfl⟩
    subst h2
    rw [el]
    refine b59_43 (fun c1 => b59_51 ?_) (fun c1 => b59_48 (b59_51 ?_))
    · rw [nI_1]
      refine ih (j + 1) (by omega) (hf.trans (q_fst_s1 ?_))
      exact beq_false_of_ne (fun h9 => c1 (lg_0.mpr h9))
    · rw [hf, q_fst_s0 (p := fun i => qL h0 10 i == v) (beq_iff_eq.mpr (lg_0.mp c1))] at fin
      rw [nI_1]
      exact tur (fun _ => fin _) (fun h9 => b59_29 (fun _ => fin _) (fun c2 => absurd c2 (q_on_ne (by omega)))) (by omega)
theorem s59 {rF pF : Nat} (Y : g_y K Pl V e c h0 h a) (ha : a < e) (S : g_SN rF pF h0) : q_mI 1 59 [.ref 589] h (fun z h' => z = q_on (g_tp V pF a h0) ∧ g_y K Pl V e c (g_fw a (g_tp V pF a h0) h0) h' (a + 1)) := by
  refine q_mI.of (q_recV rfl Y.ok) (fun Q fin => ?_)
  have r20 := S.2.2.2
  unfold g_tp at fin
  refine b59_0 (v0 := 3) Y.ok (Y.sh.ref rfl) (by rw [Y.ea]; exact s190 Y.sh Y.C Y.le) (by decide) ?_
  rintro z h2 ⟨e0, rfl⟩
  subst h2
  have qn := q_on_none (o := p_fi (qL h0 10) pF (V a)) (n := 20) (fun j h => by have := (p_fi_lt h).1; omega) (by decide)
  refine b59_11 ?_
  rw [show (0 : Int32) = nI 0 from rfl]
  refine s59_17 Y S (fun l => ?_) pF 0 (by omega) rfl
  refine b59_57 (fun c1 => b59_67 Y.ok (fin _ _ ⟨rfl, ?_⟩)) (fun c1 => b59_62 (s26 Y) (by decide) (fun h' Y' => b59_67 Y'.ok (fin _ _ ⟨rfl, ?_⟩)))
  · unfold g_fw
    rw [if_neg (fun h9 => c1 (qn.mpr h9))]
    exact Y.n1 (by omega)
  · unfold g_fw
    rw [if_pos (qn.mp c1)]
    exact Y'.n1 (by omega)
/-- the alternatives of an any -/
theorem s56_27 {rF pF : Nat} {x1 : Int32} {Q : Option Value → q_Hp → Prop} : ∀ m s D h0 h t l4, s.2 = 0 → 1201 ≤ m + s.1 → t ≤ s.1 → g_SN rF pF h0 → qI h0 c 5 = nI (D + 1) → D + 1 ≤ s.1 → g_y K Pl V e c h0 h s.1 → (y_co K m s).2 = 0 → (y_co K m s).1 ≤ e → (∀ h', g_y K Pl V e c (g_av K V c rF m D s h0) h' (y_co K m s).1 → (∃ D', qI (g_av K V c rF m D s h0) c 5 = nI D' ∧ D' ≤ (y_co K m s).1) → Q (some (.int x1)) h') → q_wp 2 56 27 [some (.ref 589), some (.int x1), some (.int (nI D)), some (.int (nI t)), l4] [] h Q := by
  intro m
  induction m with
  | zero =>
    intro s D h0 h t l4 hs hm ht S hD hDs Y hz he fin
    have := Y.le
    have := Y.e12
    omega
  | succ m ih =>
    intro s D h0 h t l4 hs hm ht S hD hDs Y hz he fin
    have e12 := Y.e12
    have le := Y.le
    have hc := Y.c2
    have k43 := (Y.C.2.2 s.1 Y.le).2.1
    unfold y_co at hz he fin
    unfold g_av at fin
    refine b56_27 (fun c1 => by have := (nI_ltI (a := 1200) (by decide) (by omega)).mp c1; omega) (fun _ => b56_34 (s25 Y) (by decide) ?_)
    rintro z h2 ⟨e0, rfl⟩
    subst h2
    refine b56_38 (fun c1 => ?_) (fun c1 => ?_)
    · have n9 : ¬ y_is K 28 s = true := fun h9 => c1 (by rw [(y_is_c.mp h9).2]; rfl)
      rw [if_neg n9] at hz he fin
      rw [if_neg n9] at fin
      exact b56_98 (fin _ Y ⟨D + 1, hD, hDs⟩)
    · have k9 : K s.1 = 28 := (nI_eq (b := 28) (by omega) (by decide)).mp c1
      have y9 : y_is K 28 s = true := y_is_c.mpr ⟨hs, k9⟩
      rw [if_pos y9] at hz he fin
      rw [if_pos y9] at fin
      have t1 := y_to.co (K := K) m _ _ (y_to.rf (s := y_nd K 40 (y_ps s)))
      obtain ⟨p1, p2⟩ := y_pn_2 (t1.2.1 hz)
      have l1 : s.1 + 2 ≤ e := by
        have := t1.1
        rw [p1] at this
        have : s.1 + 2 ≤ _ := this
        rw [p1] at he
        omega
      have Y1 := Y.n1 (show s.1 + 1 ≤ e by omega)
      refine b56_43 (v0 := c) Y.ok Y.bk (s19 (D := D + 1) Y1 hD (by omega)) (by decide) ?_
      rintro z h3 ⟨rfl, Y3⟩
      have K3 : g_Kd c h0 (g_do c (D + 1) 15 h0) := g_Kd.rf.dd
      refine b56_62 (v0 := c) Y3.ok Y3.bk (s58 (rF := rF) (pF := pF) Y3 (by omega) (K3.SN hc S)) (by decide) ?_
      rintro z h4 ⟨rfl, Y4⟩
      have et : g_tr V rF (s.1 + 1) (g_do c (D + 1) 15 h0) = g_tr V rF (s.1 + 1) h0 := rfl
      rw [et] at Y4 ⊢
      have n5 : ∀ {h1}, g_Kd c (g_do c (D + 1) 15 h0) h1 → True := fun _ => trivial
      have d4 : qI (g_fw (s.1 + 1) (g_tr V rF (s.1 + 1) h0) (g_do c (D + 1) 15 h0)) c 5 = nI (D + 1 + 1) := by
        rw [g_fw_I (by omega)]
        exact g_do_5
      refine b56_75 (s21 (D := D + 1 + 1) (j := D + 1) (k := 1) Y4 d4 (by omega) (by omega) (by decide) rfl rfl) (by decide) (fun h5 Y5 => ?_)
      refine b56_78 (v0 := c) Y5.ok Y5.bk (s21 (D := D + 1 + 1) (j := D) (k := 2) Y5 d4 (by omega) (by omega) (by decide) rfl rfl) (by decide) (fun h6 Y6 => b56_89 ?_)
      rw [nI_1]
      have Y6 : g_y K Pl V e c (g_pt c D 2 (nI (D + 1)) (g_ad V c rF (D + 1) (s.1 + 1) h0)) h6 (s.1 + 2) := Y6
      rw [p1] at hz he fin
      exact ih (s.1 + 2, 0) (D + 1) _ _ (t + 1) _ rfl (by show 1201 ≤ m + (s.1 + 2); omega) (by show t + 1 ≤ s.1 + 2; omega) (g_Kd.rf.ad.pt.SN hc S) d4 (by show D + 1 + 1 ≤ s.1 + 2; omega) Y6 hz he fin
end GB
