/-! THE PARSE OF THE REFERENCE: tests -/
/-- how the reference stands in a rule: so many codes, nothing open, so many names told -/
def p_J (L c : Nat) (k : q_Hp) : Prop := qI k 630 22 = nI (1300 + c) ∧ qI k 630 12 = nI 0 ∧ qI k 630 68 = nI L
def p_ou2 (K P X : Nat → Nat) (U : Nat → Int64) (e L : Nat) (k0 k' : q_Hp) (s' : y_S) (r : q_Hp) : Prop := ∃ k1, p_y K P X U e k1 k' s' ∧ p_fr k0 k1 ∧ (s'.2 = 0 → k1 = r ∧ ∃ c', p_J L c' k1 ∧ c' ≤ s'.1)
theorem p_G.j {kb k : q_Hp} {L c : Nat} {w : List Nat} (G : p_G kb L 0 w c k) : p_J L c k := ⟨G.2.2.1, G.2.2.2.1, G.2.2.2.2.1⟩
theorem p_J.sA {L c : Nat} {k : q_Hp} (J : p_J L c k) {a i : Nat} {v : Int32} : p_J L c (q_sA k a i v) := J
theorem y_rm_0 {b : Bool} {s : y_S} (h : (y_rm b s).2 = 0) : y_rm b s = s ∧ b = true := by
  unfold y_rm at h ⊢
  cases b
  · rw [if_neg (by decide)] at h
    exfalso
    unfold y_fl at h
    split at h
    · exact absurd h (show ¬ (2 : Nat) = 0 by decide)
    · next h8 => exact h8 h
  · exact ⟨rfl, rfl⟩
theorem p_cm : ∀ j, j ≤ 43 → ((9 ≤ t_ph j ∧ t_ph j ≤ 12) ↔ (j = 36 ∨ j = 37 ∨ j = 30 ∨ j = 38)) := by decide +kernel
def p_te1 (K P X : Nat → Nat) (U : Nat → Int64) (r c L : Nat) (s : y_S) (k : q_Hp) : q_Hp := p_ex K P X U false L (s.1 + 1, 0) (q_sA (q_sA k 654 (20 + r) (nI (c + 1))) 656 (4 * (20 + r) + c) (qI k 630 22))
def p_te2 (K P X : Nat → Nat) (U : Nat → Int64) (r c L : Nat) (s : y_S) (k : q_Hp) : q_Hp := q_sA (q_sA (p_te1 K P X U r c L s k) 657 (4 * (20 + r) + c) (qI (p_te1 K P X U r c L s k) 630 22)) 655 (4 * (20 + r) + c) (nI (t_ph (K (y_E K (s.1 + 1, 0)).1)))
def p_te3 (K P X : Nat → Nat) (U : Nat → Int64) (r c L : Nat) (s : y_S) (k : q_Hp) : q_Hp := p_ex K P X U false L (y_ps (y_E K (s.1 + 1, 0))) (p_te2 K P X U r c L s k)
def p_te (K P X : Nat → Nat) (U : Nat → Int64) (r c L : Nat) (s : y_S) (k : q_Hp) : q_Hp := q_sA (p_te3 K P X U r c L s k) 658 (4 * (20 + r) + c) (qI (p_te3 K P X U r c L s k) 630 22)
section PU
variable {K P X : Nat → Nat} {U : Nat → Int64} {e : Nat} {k0 k : q_Hp} {s : y_S}
theorem s270 {r c L d : Nat} {v : Int32} (Y : p_y K P X U e k0 k s) (hk : s.2 = 0 → K s.1 < 42) (hr : r < 20) (hn : qA k0 654 (20 + r) = nI c) (h4 : c ≤ 4) (J : p_J L d k0) (hd : d ≤ s.1) (hL : L ≤ 40) (hv : v = nI (20 + r)) : q_mV 5 270 [.ref 630, .int v] k (fun k' => p_ou2 K P X U e L k0 k' (y_te K (y_rm (decide (c < 4)) s)) (p_te K P X U r c L s k0)) := by
  subst hv
  refine q_mV.of (q_recV rfl (Y.sh.ok rfl)) (fun Q fin => ?_)
  have cl : (nI (20 + r) : Int32).toNatClampNeg = 20 + r := nI_clamp (by omega)
  have e54 : qA k 654 ((nI (20 + r) : Int32).toNatClampNeg) = nI c := by rw [cl, Y.A (by decide)]; exact hn
  have g15 : ∀ k, p_y K P X U e k0 k (y_rm (decide (c < 4)) s) → q_wp 5 270 15 [some (.ref 630), some (.int (nI (20 + r))), none] [] k Q := by
    intro k Y
    refine b270_15 (s252 Y (y_rm_lt hk)) (by decide) ?_
    intro k Y
    have e54 : qA k 654 ((nI (20 + r) : Int32).toNatClampNeg) = nI c := by rw [cl, Y.A (by decide)]; exact hn
    refine b270_19 (v0 := 654) (Y.sh.ok rfl) (Y.sh.ref rfl) (Y.sh.ok rfl) (Y.sh.inN (n := 40) rfl (by omega) (by decide)) (fun z => ?_) (fun z => b270_37 (fin _ ⟨k0, ?_, p_fr.rf, fun h9 => ?_⟩))
    rotate_left 1
    · have z0 : ¬ (y_ps (y_rm (decide (c < 4)) s)).2 = 0 := fun h9 => z (Y.z1.mpr h9)
      have : y_te K (y_rm (decide (c < 4)) s) = y_ps (y_rm (decide (c < 4)) s) := (y_to.rf.E.op.E.nd (s0 := y_ps (y_rm (decide (c < 4)) s))).2.2 z0
      rw [this]
      exact Y
    · have z0 : ¬ (y_ps (y_rm (decide (c < 4)) s)).2 = 0 := fun h9 => z (Y.z1.mpr h9)
      have : y_te K (y_rm (decide (c < 4)) s) = y_ps (y_rm (decide (c < 4)) s) := (y_to.rf.E.op.E.nd (s0 := y_ps (y_rm (decide (c < 4)) s))).2.2 z0
      rw [this] at h9
      exact absurd h9 z0
    have z0 := Y.z1.mp z
    obtain ⟨r0, r1⟩ := y_ps_0 z0
    obtain ⟨r2, r3⟩ := y_rm_0 r0
    have c4 := of_decide_eq_true r3
    rw [r2] at r1
    have es : y_te K (y_rm (decide (c < 4)) s) = y_nd K 26 (y_E K (y_op K (y_E K (s.1 + 1, 0)))) := by
      unfold y_te
      rw [r2, r1]
    rw [es] at fin
    rw [r2, r1] at Y
    have e12 := Y.e12
    have i1 : (4 : Int32) * nI (20 + r) + nI c = nI (4 * (20 + r) + c) := p_ix4 (m := 4)
    have ci : (nI (4 * (20 + r) + c) : Int32).toNatClampNeg = 4 * (20 + r) + c := nI_clamp (by omega)
    have i6 : ∀ {k : q_Hp} {a : Nat}, q_Sh k → (decide (a ≤ 712) && (q_kd0 a).2 == 160) = true → q_in (nI (4 * (20 + r) + c)) (qK k a).2 := fun S h => S.inN (n := 160) h (by omega) (by decide)
    have h80 : 80 ≤ 4 * (20 + r) + c := by omega
    have e22 : qI k 630 22 = qI k0 630 22 := Y.I rfl
    have Y1 := (Y.sA (a := 654) (i := 20 + r) (v := nI (c + 1)) rfl).sA (a := 656) (i := 4 * (20 + r) + c) (v := qI k0 630 22) rfl
    have F1 : p_fr k0 (q_sA (q_sA k0 654 (20 + r) (nI (c + 1))) 656 (4 * (20 + r) + c) (qI k0 630 22)) := (p_fr.rf.sA rfl (Nat.le_add_right 20 r)).sA rfl h80
    rw [e54, i1]
    have sp := s280 (L := L) (c := d) (set := false) Y1 (fun _ => J.1) (fun _ => J.2.1) (fun _ => J.2.2) hL (fun _ => show d ≤ s.1 + 1 by omega)
    refine b270_38 (v0 := 654) (v1 := 656) (Y.sh.ok rfl) (Y.sh.ref rfl) (Y.sh.ok rfl) (Y.sh.inN (n := 40) rfl (by omega) (by decide)) (Y.sh.ref rfl) (Y.sh.ok rfl) (i6 Y.sh rfl) (m := 4) (by rw [e54, cl, ci, e22, nI_1]; exact sp) (by decide) ?_
    rintro k ⟨k1, Y, F, h1⟩
    have F2 := F1.trans F
    have e22 : qI k 630 22 = qI k1 630 22 := Y.I rfl
    have tE : y_to (s.1 + 1, 0) (y_E K (s.1 + 1, 0)) := y_to.rf.E
    generalize hs1 : y_E K (s.1 + 1, 0) = s1 at *
    have Y1 := Y.sA (a := 657) (i := 4 * (20 + r) + c) (v := qI k1 630 22) rfl
    have g139 : ∀ v k, p_y K P X U e (q_sA (q_sA k1 657 (4 * (20 + r) + c) (qI k1 630 22)) 655 (4 * (20 + r) + c) v) k (y_op K s1) → (s1.2 = 0 → v = nI (t_ph (K s1.1))) → q_wp 5 270 143 [some (.ref 630), some (.int (nI (20 + r))), some (.int (nI (4 * (20 + r) + c)))] [] k Q := by
      intro v k Y hv
      have to : y_to s1 (y_op K s1) := y_to.rf.op
      have F3 := (F2.sA (a := 657) (i := 4 * (20 + r) + c) (v := qI k1 630 22) rfl h80).sA (a := 655) (i := 4 * (20 + r) + c) (v := v) rfl h80
      have sp : q_mV 4 280 [.ref 630, .int (b2i false)] k (fun k' => ∃ k2, p_y K P X U e k2 k' (y_E K (y_op K s1)) ∧ p_fr (q_sA (q_sA k1 657 (4 * (20 + r) + c) (qI k1 630 22)) 655 (4 * (20 + r) + c) v) k2 ∧ ((y_E K (y_op K s1)).2 = 0 → k2 = p_ex K P X U false L (y_op K s1) (q_sA (q_sA k1 657 (4 * (20 + r) + c) (qI k1 630 22)) 655 (4 * (20 + r) + c) v) ∧ ∃ c', p_J L c' k2 ∧ c' ≤ (y_E K (y_op K s1)).1)) := by
        by_cases hz : s1.2 = 0
        · obtain ⟨e1, d1, G, hd1⟩ := h1 hz
          refine ⟨(s280 (L := L) (c := d1) (set := false) Y (fun _ => G.2.2.1) (fun _ => G.2.2.2.1) (fun _ => G.2.2.2.2.1) hL (fun _ => Nat.le_trans hd1 to.1)).1, q_wp.mono (s280 (L := L) (c := d1) (set := false) Y (fun _ => G.2.2.1) (fun _ => G.2.2.2.1) (fun _ => G.2.2.2.2.1) hL (fun _ => Nat.le_trans hd1 to.1)).2 ?_⟩
          rintro x h' ⟨hx, k2, a, b, cc⟩
          refine ⟨hx, k2, a, b, fun h9 => ?_⟩
          obtain ⟨q1, c', G', hc'⟩ := cc h9
          exact ⟨q1, c', G'.j, hc'⟩
        · have hf : ¬ (y_op K s1).2 = 0 := fun h9 => hz (to.2.1 h9)
          refine ⟨(s280 (L := L) (c := 0) (set := false) Y (fun h9 => absurd h9 hf) (fun h9 => absurd h9 hf) (fun h9 => absurd h9 hf) hL (fun _ => Nat.zero_le _)).1, q_wp.mono (s280 (L := L) (c := 0) (set := false) Y (fun h9 => absurd h9 hf) (fun h9 => absurd h9 hf) (fun h9 => absurd h9 hf) hL (fun _ => Nat.zero_le _)).2 ?_⟩
          rintro x h' ⟨hx, k2, a, b, cc⟩
          exact ⟨hx, k2, a, b, fun h9 => absurd ((y_to.rf.E (K := K)).2.1 h9) hf⟩
      refine b270_143 sp (by decide) ?_
      rintro k ⟨k2, Y, F4, h2⟩
      have e22 : qI k 630 22 = qI k2 630 22 := Y.I rfl
      refine b270_148 (v0 := 658) (Y.sh.ok rfl) (Y.sh.ref rfl) (Y.sh.ok rfl) (i6 Y.sh rfl) (m := 2) (P := fun k' => p_y K P X U e (q_sA k2 658 (4 * (20 + r) + c) (qI k2 630 22)) k' (y_nd K 26 (y_E K (y_op K s1)))) (by rw [ci, e22]; exact s253 (c := 26) (Y.sA rfl) (by decide) rfl) (by decide) ?_
      intro k Y
      refine b270_163 (fin _ ⟨_, Y, (F3.trans F4).sA rfl h80, fun h9 => ?_⟩)
      have h10 := y_nd_z h9
      obtain ⟨q1, c', q2, q3⟩ := h2 h10
      have h11 := (y_to.rf.E (K := K) (s0 := y_op K s1)).2.1 h10
      have h12 := to.2.1 h11
      have eo : y_op K s1 = y_ps s1 := by
        unfold y_op at h11 ⊢
        by_cases hc : y_cm K s1 = true
        · rw [if_pos hc]
        · rw [if_neg hc] at h11
          exfalso
          unfold y_fl at h11
          rw [if_pos h12] at h11
          exact absurd h11 (show ¬ (1 : Nat) = 0 by decide)
      refine ⟨?_, c', q2, Nat.le_trans q3 (y_to.rf.nd (K := K) (k := 26) (s0 := y_E K (y_op K s1))).1⟩
      unfold p_te p_te3 p_te2 p_te1
      rw [hs1, ← (h1 h12).1, q1, hv h12, eo]
    have g98 : ∀ v, (s1.2 = 0 → v = nI (t_ph (K s1.1))) → q_wp 5 270 98 [some (.ref 630), some (.int (nI (20 + r))), some (.int (nI (4 * (20 + r) + c)))] [.int v, .int (nI (4 * (20 + r) + c)), .ref 655] (q_sA k 657 (4 * (20 + r) + c) (qI k1 630 22)) Q := by
      intro v hv
      have Y2 := Y1.sA (a := 655) (i := 4 * (20 + r) + c) (v := v) rfl
      refine b270_98 (Y1.sh.ok rfl) (i6 Y1.sh rfl) (Y1.sh.ok rfl) (fun z => ?_) (fun z => ?_)
      · rw [ci]
        have z0 : ¬ s1.2 = 0 := fun h9 => z (Y1.z.mpr h9)
        refine b270_139 (s252 Y2 (fun h9 => absurd h9 z0)) (by decide) (fun k Y => g139 v k ?_ hv)
        have e1 : y_op K s1 = y_ps s1 := by
          unfold y_op y_ps
          rw [if_neg z0, y_fl_f z0, ite_self]
        rw [e1]
        exact Y
      · rw [ci]
        have z0 := Y1.z.mp z
        have et := Y2.t0 z0
        have le := Y2.le
        have k43 := (Y2.tk le).1
        have p44 := t_ph_44 _ k43
        have ev : qA (q_sA (q_sA k 657 (4 * (20 + r) + c) (qI k1 630 22)) 655 (4 * (20 + r) + c) v) 633 ((qI (q_sA (q_sA k 657 (4 * (20 + r) + c) (qI k1 630 22)) 655 (4 * (20 + r) + c) v) 630 11 : Int32).toNatClampNeg) = nI (t_ph (K s1.1)) := by rw [et, nI_clamp (by omega)]; exact (Y2.tk le).2.2.1
        have it : q_in (qI (q_sA (q_sA k 657 (4 * (20 + r) + c) (qI k1 630 22)) 655 (4 * (20 + r) + c) v) 630 11) (qK (q_sA (q_sA k 657 (4 * (20 + r) + c) (qI k1 630 22)) 655 (4 * (20 + r) + c) v) 633).2 := by rw [et]; exact Y2.sh.inN (n := 1203) rfl (by omega) (by decide)
        have bad : ¬ y_cm K s1 = true → q_wp 5 270 134 [some (.ref 630), some (.int (nI (20 + r))), some (.int (nI (4 * (20 + r) + c)))] [] (q_sA (q_sA k 657 (4 * (20 + r) + c) (qI k1 630 22)) 655 (4 * (20 + r) + c) v) Q := by
          intro hc
          refine b270_134 (s250 (f := 1) Y2 (by decide) (by decide) rfl) (by decide) (fun k Y => b270_139 (s252 Y (fun h9 => ?_)) (by decide) (fun k Y => g139 v k ?_ hv))
          · unfold y_fl at h9
            rw [if_pos z0] at h9
            exact absurd h9 (show ¬ (1 : Nat) = 0 by decide)
          · have e1 : y_op K s1 = y_ps (y_fl 1 s1) := by
              unfold y_op y_ps y_fl
              rw [if_neg hc, if_pos z0, if_neg (show ¬ (1 : Nat) = 0 by decide)]
            rw [e1]
            exact Y
        have cm : y_cm K s1 = true ↔ (K s1.1 = 36 ∨ K s1.1 = 37 ∨ K s1.1 = 30 ∨ K s1.1 = 38) := by
          unfold y_cm
          simp only [Bool.or_eq_true, y_is_c, z0, true_and]
        have pc := p_cm _ k43
        refine b270_106 (v0 := 633) (Y2.sh.ok rfl) (Y2.sh.ref rfl) (Y2.sh.ok rfl) it (fun h => bad ?_) (fun h => b270_120 (v0 := 633) (Y2.sh.ok rfl) (Y2.sh.ref rfl) (Y2.sh.ok rfl) it (fun h3 => ?_) (fun h3 => bad ?_))
        · rw [ev] at h
          have := (nI_ltI (b := 9) (by omega) (by decide)).mp h
          intro h9
          have := pc.mpr (cm.mp h9)
          omega
        · rw [ev] at h h3
          have h := mt (nI_ltI (a := t_ph (K s1.1)) (b := 9) (by omega) (by decide)).mpr h
          have h3 := (nI_leI (b := 12) (by omega) (by decide)).mp h3
          have hc := cm.mpr (pc.mp ⟨by omega, h3⟩)
          refine b270_139 (s252 Y2 (fun _ => ?_)) (by decide) (fun k Y => g139 v k ?_ hv)
          · have := cm.mp hc
            omega
          · have e1 : y_op K s1 = y_ps s1 := by
              unfold y_op
              rw [if_pos hc]
            rw [e1]
            exact Y
        · rw [ev] at h3
          intro h9
          have := pc.mpr (cm.mp h9)
          exact h3 ((nI_leI (b := 12) (by omega) (by decide)).mpr this.2)
    refine b270_63 (v0 := 657) (v1 := 655) (Y.sh.ok rfl) (Y.sh.ref rfl) (Y.sh.ok rfl) (i6 Y.sh rfl) (Y.sh.ref rfl) (fun z => ?_) (fun z => ?_)
    · rw [ci, e22]
      have z0 := Y.z1.mp z
      have et := Y1.t0 z0
      have le := Y1.le
      refine b270_89 (v0 := 633) (Y1.sh.ok rfl) (Y1.sh.ref rfl) (Y1.sh.ok rfl) (by rw [et]; exact Y1.sh.inN (n := 1203) rfl (by omega) (by decide)) (g98 _ (fun _ => ?_))
      rw [et, nI_clamp (by omega)]
      exact (Y1.tk le).2.2.1
    · rw [ci, e22]
      exact b270_85 (g98 0 (fun h9 => absurd (Y.z1.mpr h9) z))
  refine b270_0 (v0 := 654) (Y.sh.ok rfl) (Y.sh.ref rfl) (Y.sh.ok rfl) (Y.sh.inN (n := 40) rfl (by omega) (by decide)) (fun c1 => g15 _ ?_) (fun c1 => b270_10 (s250 (f := 2) Y (by decide) (by decide) rfl) (by decide) (fun k Y => g15 _ ?_))
  · rw [e54] at c1
    rw [decide_eq_true (show c < 4 by have : ¬ c = 4 := fun h9 => c1 (by rw [h9]; rfl); omega)]
    exact Y
  · rw [e54] at c1
    rw [decide_eq_false (show ¬ c < 4 by have := (nI_eq (b := 4) (by omega) (by decide)).mp c1; omega)]
    exact Y
end PU
