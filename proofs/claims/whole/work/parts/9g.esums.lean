/-! SUMS: the row of signs as brackets within brackets -/
section ES
variable (K P X : Nat → Nat) (U : Nat → Int64) (set : Bool) (L : Nat)
def e_sg (a : Nat) : Bool := K a == 31 || K a == 32 || K a == 33
/-- where a unit ends, what follows units, a sum -/
def e_U (r : Nat → Nat) (a : Nat) : Nat := if K a = 41 then a + 1 else if K a = 34 then r (a + 1) + 1 else a + 3
def e_R (r : Nat → Nat) : Nat → Nat → Nat
  | 0, a => a
  | n + 1, a => if e_sg K a = true then e_R r n (e_U K r (a + 1)) else a
def e_a1 (a : Nat) : Nat := if K a = 32 then a + 1 else a
def e_E : Nat → Nat → Nat
  | 0, a => a
  | n + 1, a => e_R K (e_E n) n (e_U K (e_E n) (e_a1 K a))
/-- whether it is one, in so many brackets -/
def e_vU (r : Nat → Nat) (v : Nat → Nat → Prop) (d a : Nat) : Prop := K a = 41 ∨ (K a = 34 ∧ d < 8 ∧ v (d + 1) (a + 1) ∧ K (r (a + 1)) = 35) ∨ (K a = 40 ∧ K (a + 1) = 27 ∧ K (a + 2) = 41)
def e_vR (r : Nat → Nat) (v : Nat → Nat → Prop) (d : Nat) : Nat → Nat → Prop
  | 0, a => e_sg K a = false
  | n + 1, a => if e_sg K a = true then e_vU K r v d (a + 1) ∧ e_vR r v d n (e_U K r (a + 1)) else True
def e_vE : Nat → Nat → Nat → Prop
  | 0, _, _ => False
  | n + 1, d, a => e_vU K (e_E K n) (e_vE n) d (e_a1 K a) ∧ e_vR K (e_E K n) (e_vE n) d n (e_U K (e_E K n) (e_a1 K a))
/-- what the reference does in it -/
def e_pU (p : Nat → Nat → q_Hp → q_Hp) (d a : Nat) (k : q_Hp) : q_Hp := if K a = 34 then p_po (p_sw 1 (p (d + 1) (a + 1) (p_pu 16 (p_op k d (a, 0))))) else p_un K P X U set L (a, 0) k
def e_pR (r : Nat → Nat) (p : Nat → Nat → q_Hp → q_Hp) (d : Nat) : Nat → Nat → q_Hp → q_Hp
  | 0, _, k => k
  | n + 1, a, k => if e_sg K a = true then e_pR r p d n (e_U K r (a + 1)) (e_pU K P X U set L p d (a + 1) (p_sp K (a, 0) k)) else k
def e_pE : Nat → Nat → Nat → q_Hp → q_Hp
  | 0, _, _, k => k
  | n + 1, d, a, k => e_pR K P X U set L (e_E K n) (e_pE n) d n (e_U K (e_E K n) (e_a1 K a)) (e_pU K P X U set L (e_pE n) d (e_a1 K a) (if K a = 32 then p_pu 3 k else k))
/-- the rest of a turn, behind a unit; a turn behind a minus -/
def e_ZY (m o : Nat) (s : y_S) : y_S := if y_sn K (y_cl K o s).2 = true then y_su K m false (y_cl K o s).1 (y_ps (y_cl K o s).2) else if 0 < (y_cl K o s).1 then y_fl 1 (y_cl K o s).2 else (y_cl K o s).2
def e_ZK (m o : Nat) (s : y_S) (k : q_Hp) : q_Hp := if y_sn K (y_cl K o s).2 = true then p_su K P X U set L m false (y_cl K o s).1 (y_ps (y_cl K o s).2) (p_sp K (y_cl K o s).2 (p_cl K o s k)) else p_sw 1 (p_cl K o s k)
def e_uY (m o : Nat) (s : y_S) : y_S := if y_is K 34 s = true then y_su K m true (o + 1) (y_ps (y_rm (decide (o < 8)) s)) else e_ZY K m o (y_un K s)
def e_uK (m o : Nat) (s : y_S) (k : q_Hp) : q_Hp := if y_is K 34 s = true then p_su K P X U set L m true (o + 1) (y_ps (y_rm (decide (o < 8)) s)) (p_pu 16 (p_op k o s)) else e_ZK K P X U set L m o (y_un K s) (p_un K P X U set L s k)
end ES
section ES
variable {K P X : Nat → Nat} {U : Nat → Int64} {set : Bool} {L : Nat}
theorem y_su_s {m o : Nat} {f : Bool} {s : y_S} (hs : s.2 = 0) : y_su K (m + 1) f o s = e_uY K m o (y_mi K f s) := by
  show (if s.2 = 0 then _ else s) = _
  rw [if_pos hs]
  rfl
theorem p_su_s {m o : Nat} {f : Bool} {s : y_S} {k : q_Hp} : p_su K P X U set L (m + 1) f o s k = e_uK K P X U set L m o (y_mi K f s) (p_mk K f s k) := by
  unfold e_uK e_ZK
  show (if y_is K 34 (y_mi K f s) = true then _ else if _ then _ else _) = _
  rfl
theorem y_is_0 {c a : Nat} : y_is K c (a, 0) = true ↔ K a = c := by
  rw [y_is_c]
  exact ⟨fun h => h.2, fun h => ⟨rfl, h⟩⟩
theorem y_ps_b {s : y_S} {a : Nat} (hs : s = (a, 0)) (h : (y_ps s).2 = 0) : y_ps s = (a + 1, 0) ∧ a + 1 ≤ 1200 := by
  subst hs
  refine ⟨(y_ps_0 h).2, ?_⟩
  unfold y_ps at h
  rw [if_pos rfl] at h
  split at h
  · exact absurd h (show ¬ (2 : Nat) = 0 by decide)
  · next h9 =>
    have h9 : ¬ 1200 ≤ a := h9
    omega
theorem y_sn_0 {a : Nat} : y_sn K (a, 0) = e_sg K a := by
  unfold y_sn e_sg
  have h : ∀ c, y_is K c (a, 0) = (K a == c) := fun c => by
    unfold y_is
    rw [beq_self_eq_true, Bool.true_and]
  rw [h, h, h, Bool.or_assoc]
theorem e_sg_c {a : Nat} : e_sg K a = true ↔ K a = 31 ∨ K a = 32 ∨ K a = 33 := by
  unfold e_sg
  simp only [Bool.or_eq_true, beq_iff_eq, or_assoc]
/-- where no bracket is closed -/
theorem y_cl_no {o a : Nat} (h : ¬ K a = 35) : y_cl K o (a, 0) = (o, (a, 0)) := by
  cases o with
  | zero => rfl
  | succ o =>
    show (if y_is K 35 (a, 0) = true then _ else _) = _
    rw [if_neg (fun h9 => h (y_is_0.mp h9))]
theorem p_cl_no {o a : Nat} {k : q_Hp} (h : ¬ K a = 35) : p_cl K o (a, 0) k = k := by
  cases o with
  | zero => rfl
  | succ o =>
    show (if y_is K 35 (a, 0) = true then _ else _) = _
    rw [if_neg (fun h9 => h (y_is_0.mp h9))]
theorem e_ZY_sg {m o a : Nat} (h : e_sg K a = true) : e_ZY K m o (a, 0) = y_su K m false o (y_ps (a, 0)) := by
  have h35 : ¬ K a = 35 := fun h9 => by
    have := e_sg_c.mp h
    omega
  unfold e_ZY
  rw [y_cl_no h35, y_sn_0, if_pos h]
theorem e_ZK_sg {m o a : Nat} {k : q_Hp} (h : e_sg K a = true) : e_ZK K P X U set L m o (a, 0) k = p_su K P X U set L m false o (y_ps (a, 0)) (p_sp K (a, 0) k) := by
  have h35 : ¬ K a = 35 := fun h9 => by
    have := e_sg_c.mp h
    omega
  unfold e_ZK
  rw [y_cl_no h35, y_sn_0, if_pos h, p_cl_no h35]
theorem y_mi_f {s : y_S} : y_mi K false s = s := if_neg (fun h => by cases h.1)
theorem p_mk_f {s : y_S} {k : q_Hp} : p_mk K false s k = k := if_neg (fun h => by cases h.1)
/-- what is claimed of a sum within o brackets, by the signs and brackets left -/
def e_FE (K P X : Nat → Nat) (U : Nat → Int64) (set : Bool) (L n : Nat) : Prop := ∀ m o a, 1202 ≤ n + a → 1202 ≤ m + a → a ≤ 1200 → (y_su K m true o (a, 0)).2 = 0 → e_vE K n o a ∧ a + 1 ≤ e_E K n a ∧ e_E K n a ≤ 1200 ∧ e_sg K (e_E K n a) = false ∧ ∃ m', 1202 ≤ m' + e_E K n a ∧ y_su K m true o (a, 0) = e_ZY K m' o (e_E K n a, 0) ∧ ∀ k, p_su K P X U set L m true o (a, 0) k = e_ZK K P X U set L m' o (e_E K n a, 0) (e_pE K P X U set L n o a k)
theorem e_FU {n : Nat} (H : e_FE K P X U set L n) {m o a : Nat} (hn : 1202 ≤ n + (a + 1)) (hm : 1202 ≤ m + (a + 1)) (ha : a ≤ 1200) (hY : (e_uY K m o (a, 0)).2 = 0) : e_vU K (e_E K n) (e_vE K n) o a ∧ a + 1 ≤ e_U K (e_E K n) a ∧ e_U K (e_E K n) a ≤ 1200 ∧ ∃ m', 1202 ≤ m' + e_U K (e_E K n) a ∧ e_uY K m o (a, 0) = e_ZY K m' o (e_U K (e_E K n) a, 0) ∧ ∀ k, e_uK K P X U set L m o (a, 0) k = e_ZK K P X U set L m' o (e_U K (e_E K n) a, 0) (e_pU K P X U set L (e_pE K P X U set L n) o a k) := by
  have tZ : ∀ m o s, y_to s (e_ZY K m o s) := by
    intro m o s
    unfold e_ZY
    refine y_to.ite (y_to.su _ _ _ _ _ (y_to.cl _ _ _ y_to.rf).ps) (y_to.ite ((y_to.cl _ _ _ y_to.rf).fl (by decide)) (y_to.cl _ _ _ y_to.rf))
  unfold e_uY at hY ⊢
  unfold e_uK e_pU e_vU e_U
  by_cases h34 : K a = 34
  · have hi : y_is K 34 (a, 0) = true := y_is_0.mpr h34
    rw [if_pos hi] at hY
    simp only [hi, if_true]
    rw [if_neg (show ¬ K a = 41 by omega), if_pos h34]
    have h1 := (y_to.su (K := K) m true (o + 1) _ _ (y_to.rf (s := y_ps (y_rm (decide (o < 8)) (a, 0))))).2.1 hY
    obtain ⟨h2, _⟩ := y_ps_0 h1
    obtain ⟨h3, h4⟩ := y_rm_0 h2
    rw [h3] at h1 hY ⊢
    obtain ⟨h5, h6⟩ := y_ps_b rfl h1
    rw [h5] at hY ⊢
    obtain ⟨v, b1, b2, b3, m', b4, b5, b6⟩ := H m (o + 1) (a + 1) hn hm h6 hY
    generalize e_E K n (a + 1) = b at *
    have h35 : K b = 35 := by
      rcases Classical.em (K b = 35) with h | h
      · exact h
      · exfalso
        rw [b5] at hY
        unfold e_ZY at hY
        rw [y_cl_no h, y_sn_0, b3, if_neg (by decide), if_pos (Nat.succ_pos o)] at hY
        exact absurd hY (show ¬ (1 : Nat) = 0 by decide)
    have hc : y_cl K (o + 1) (b, 0) = y_cl K o (y_ps (b, 0)) := by
      show (if y_is K 35 (b, 0) = true then _ else _) = _
      rw [if_pos (y_is_0.mpr h35)]
    have hp : ∀ k, p_cl K (o + 1) (b, 0) k = p_cl K o (y_ps (b, 0)) (p_po (p_sw 1 k)) := by
      intro k
      show (if y_is K 35 (b, 0) = true then _ else _) = _
      rw [if_pos (y_is_0.mpr h35)]
    have e1 : e_ZY K m' (o + 1) (b, 0) = e_ZY K m' o (y_ps (b, 0)) := by
      unfold e_ZY
      rw [hc]
    have e2 : ∀ k, e_ZK K P X U set L m' (o + 1) (b, 0) k = e_ZK K P X U set L m' o (y_ps (b, 0)) (p_po (p_sw 1 k)) := by
      intro k
      unfold e_ZK
      rw [hc, hp]
    rw [b5, e1] at hY
    obtain ⟨h7, h8⟩ := y_ps_b rfl ((tZ _ _ _).2.1 hY)
    refine ⟨Or.inr (Or.inl ⟨h34, of_decide_eq_true h4, v, h35⟩), by omega, h8, m', by omega, ?_, fun k => ?_⟩
    · rw [b5, e1, h7]
    · rw [b6, e2, h7, if_pos h34]
  · have hi : ¬ y_is K 34 (a, 0) = true := fun h => h34 (y_is_0.mp h)
    have hi2 := Bool.eq_false_iff.mpr hi
    rw [if_neg hi] at hY
    simp only [hi2, Bool.false_eq_true, if_false]
    have hu := (tZ _ _ _).2.1 hY
    have key : (y_un K (a, 0)) = (if K a = 41 then a + 1 else a + 3, 0) ∧ (K a = 41 ∨ (K a = 40 ∧ K (a + 1) = 27 ∧ K (a + 2) = 41)) ∧ (if K a = 41 then a + 1 else a + 3) ≤ 1200 := by
      unfold y_un at hu ⊢
      by_cases h41 : K a = 41
      · rw [if_pos (y_is_0.mpr h41)] at hu ⊢
        rw [if_pos h41]
        obtain ⟨h7, h8⟩ := y_ps_b rfl hu
        exact ⟨h7, Or.inl h41, h8⟩
      · rw [if_neg (fun h9 => h41 (y_is_0.mp h9))] at hu ⊢
        rw [if_neg h41]
        have a2 := y_nd_z hu
        have a1 := y_nd_z a2
        obtain ⟨b1, p1⟩ := y_nd_p rfl a1
        obtain ⟨b2, p2⟩ := y_nd_p p1 a2
        obtain ⟨b3, p3⟩ := y_nd_p p2 hu
        refine ⟨p3, Or.inr ⟨b1, b2, b3⟩, ?_⟩
        have h9 : y_nd K 41 (y_nd K 27 (y_nd K 40 (a, 0))) = y_ps (y_nd K 27 (y_nd K 40 (a, 0))) := by
          unfold y_nd
          rw [if_pos]
          have := (y_nd_0 hu).1
          unfold y_nd at this
          exact this
        rw [h9] at hu
        have := (y_ps_b p2 hu).2
        omega
    obtain ⟨k1, k2, k3⟩ := key
    have e1 : (if K a = 41 then a + 1 else if K a = 34 then e_E K n (a + 1) + 1 else a + 3) = if K a = 41 then a + 1 else a + 3 := by rw [if_neg h34]
    rw [e1, k1]
    have hge : a + 1 ≤ if K a = 41 then a + 1 else a + 3 := by split <;> omega
    refine ⟨?_, hge, k3, m, by omega, rfl, fun k => by rw [if_neg h34]⟩
    rcases k2 with h | h
    · exact Or.inl h
    · exact Or.inr (Or.inr h)
theorem e_FR {n : Nat} (H : e_FE K P X U set L n) : ∀ q m o a, 1202 ≤ q + a → 1202 ≤ n + a → 1202 ≤ m + a → a ≤ 1200 → (e_ZY K m o (a, 0)).2 = 0 → e_vR K (e_E K n) (e_vE K n) o q a ∧ a ≤ e_R K (e_E K n) q a ∧ e_R K (e_E K n) q a ≤ 1200 ∧ e_sg K (e_R K (e_E K n) q a) = false ∧ ∃ m', 1202 ≤ m' + e_R K (e_E K n) q a ∧ e_ZY K m o (a, 0) = e_ZY K m' o (e_R K (e_E K n) q a, 0) ∧ ∀ k, e_ZK K P X U set L m o (a, 0) k = e_ZK K P X U set L m' o (e_R K (e_E K n) q a, 0) (e_pR K P X U set L (e_E K n) (e_pE K P X U set L n) o q a k) := by
  intro q
  induction q with
  | zero => intro m o a hq; omega
  | succ q ih =>
    intro m o a hq hn hm ha hY
    unfold e_vR e_R e_pR
    by_cases hs : e_sg K a = true
    · simp only [hs, if_true]
      rw [e_ZY_sg hs] at hY ⊢
      obtain ⟨m1, rfl⟩ : ∃ j, m = j + 1 := ⟨m - 1, by omega⟩
      have h1 := (y_to.su (K := K) (m1 + 1) false o _ _ (y_to.rf (s := y_ps (a, 0)))).2.1 hY
      obtain ⟨h2, h3⟩ := y_ps_b rfl h1
      rw [h2] at hY ⊢
      rw [y_su_s rfl, y_mi_f] at hY ⊢
      obtain ⟨u1, u2, u3, m2, u4, u5, u6⟩ := e_FU (P := P) (X := X) (U := U) (set := set) (L := L) H (m := m1) (by omega) (by omega) h3 hY
      rw [u5] at hY
      obtain ⟨r1, r2, r3, r4, m3, r5, r6, r7⟩ := ih m2 o _ (by omega) (by omega) u4 u3 hY
      refine ⟨⟨u1, r1⟩, by omega, r3, r4, m3, r5, ?_, fun k => ?_⟩
      · rw [u5, r6]
      · rw [e_ZK_sg hs, h2, p_su_s, y_mi_f, p_mk_f, u6, r7]
    · have hs2 := Bool.eq_false_iff.mpr hs
      simp only [hs, if_false]
      exact ⟨trivial, Nat.le_refl a, ha, hs2, m, hm, rfl, fun k => rfl⟩
theorem e_FEn : ∀ n, e_FE K P X U set L n := by
  intro n
  induction n with
  | zero => intro m o a hn; omega
  | succ n ih =>
    intro m o a hn hm ha hY
    obtain ⟨m1, rfl⟩ : ∃ j, m = j + 1 := ⟨m - 1, by omega⟩
    rw [y_su_s rfl] at hY
    have tu : y_to (y_mi K true (a, 0)) (e_uY K m1 o (y_mi K true (a, 0))) := by
      unfold e_uY
      refine y_to.ite (y_to.su _ _ _ _ _ y_to.rf.rm.ps) ?_
      unfold e_ZY
      exact y_to.ite (y_to.su _ _ _ _ _ (y_to.cl _ _ _ y_to.rf.un).ps) (y_to.ite ((y_to.cl _ _ _ y_to.rf.un).fl (by decide)) (y_to.cl _ _ _ y_to.rf.un))
    have em : y_mi K true (a, 0) = (e_a1 K a, 0) ∧ e_a1 K a ≤ 1200 ∧ a ≤ e_a1 K a := by
      have h1 := tu.2.1 hY
      unfold y_mi at h1 ⊢
      unfold e_a1
      by_cases h32 : K a = 32
      · rw [if_pos ⟨rfl, y_is_0.mpr h32⟩] at h1 ⊢
        rw [if_pos h32]
        obtain ⟨h2, h3⟩ := y_ps_b rfl h1
        exact ⟨h2, h3, by omega⟩
      · rw [if_neg (fun h9 => h32 (y_is_0.mp h9.2)), if_neg h32]
        exact ⟨rfl, ha, Nat.le_refl a⟩
    obtain ⟨em1, em2, em3⟩ := em
    have ek : ∀ k, p_mk K true (a, 0) k = if K a = 32 then p_pu 3 k else k := by
      intro k
      unfold p_mk
      by_cases h32 : K a = 32
      · rw [if_pos ⟨rfl, y_is_0.mpr h32⟩, if_pos h32]
      · rw [if_neg (fun h9 => h32 (y_is_0.mp h9.2)), if_neg h32]
    rw [em1] at hY
    obtain ⟨u1, u2, u3, m2, u4, u5, u6⟩ := e_FU (P := P) (X := X) (U := U) (set := set) (L := L) ih (m := m1) (by omega) (by omega) em2 hY
    rw [u5] at hY
    obtain ⟨r1, r2, r3, r4, m3, r5, r6, r7⟩ := e_FR (P := P) (X := X) (U := U) (set := set) (L := L) ih n m2 o _ (by omega) (by omega) u4 u3 hY
    refine ⟨⟨u1, r1⟩, ?_, r3, r4, m3, r5, ?_, fun k => ?_⟩
    · show a + 1 ≤ e_R K (e_E K n) n (e_U K (e_E K n) (e_a1 K a))
      omega
    · rw [y_su_s rfl, em1, u5]
      exact r6
    · rw [p_su_s, em1, ek, u6]
      exact r7 _
/-- a whole sum -/
theorem e_all {a : Nat} (ha : a ≤ 1200) (h : (y_E K (a, 0)).2 = 0) : e_vE K 1202 0 a ∧ a + 1 ≤ e_E K 1202 a ∧ e_E K 1202 a ≤ 1200 ∧ e_sg K (e_E K 1202 a) = false ∧ y_E K (a, 0) = (e_E K 1202 a, 0) ∧ ∀ k, p_ex K P X U set L (a, 0) k = p_sw 1 (e_pE K P X U set L 1202 0 a (q_sI k 630 78 0)) := by
  obtain ⟨v, b1, b2, b3, m', b4, b5, b6⟩ := e_FEn (P := P) (X := X) (U := U) (set := set) (L := L) 1202 1202 0 a (by omega) (by omega) ha h
  refine ⟨v, b1, b2, b3, ?_, fun k => ?_⟩
  · unfold y_E
    rw [b5]
    unfold e_ZY
    have hc0 : y_cl K 0 (e_E K 1202 a, 0) = (0, (e_E K 1202 a, 0)) := rfl
    rw [hc0, y_sn_0, b3, if_neg (by decide), if_neg (Nat.lt_irrefl 0)]
  · unfold p_ex
    rw [b6]
    unfold e_ZK
    have hc0 : y_cl K 0 (e_E K 1202 a, 0) = (0, (e_E K 1202 a, 0)) := rfl
    rw [hc0, y_sn_0, b3, if_neg (by decide)]
    rfl
end ES
