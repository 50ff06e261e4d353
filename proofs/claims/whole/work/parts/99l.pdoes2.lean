/-! THE PARSE OF THE REFERENCE: the four kinds of what a rule does -/
section PD
variable {K P X : Nat → Nat} {U : Nat → Int64} {e : Nat} {k0 k : q_Hp} {s : y_S}
theorem p_J.dE {L d r c q : Nat} (J : p_J L d k0) : p_J L d (p_dE r c q k0) := J
theorem s273_new {Q : Option Value → q_Hp → Prop} {nt r c q nw L d : Nat} {x2 : Int32} (Y : p_y K P X U e k0 k (s.1 + 2, 0)) (hr : r < 20) (hq : q < 320) (h160 : 160 ≤ q) (hK1 : K (s.1 + 1) = 40) (h59 : qA k0 659 (20 + r) = nI c) (ht : qI k0 630 18 = nI nt) (ht12 : nt ≤ 12) (hN : qI k0 630 77 = nI nw) (hn8 : nw ≤ 8) (J : p_J L d k0) (hd : d ≤ s.1) (hL : L < 40) (fin : ∀ k1 k', p_y K P X U e k1 k' (y_nd K 26 (y_nd K 40 (y_nd K 25 (s.1 + 2, 0)))) → p_fr k0 k1 → ((y_nd K 26 (y_nd K 40 (y_nd K 25 (s.1 + 2, 0)))).2 = 0 → k1 = p_dE r c q (p_nw P U nt q nw L s k0) ∧ ∃ c', p_J (L + 1) c' k1 ∧ c' ≤ (y_nd K 26 (y_nd K 40 (y_nd K 25 (s.1 + 2, 0)))).1) → Q none k') : q_wp 5 273 175 [some (.ref 630), some (.int (nI (20 + r))), some (.int x2), some (.int (nI (s.1 + 1))), some (.int (nI q)), none, none] [] k Q := by
  have e12 := Y.e12
  have le0 := Y.le
  have le0 : s.1 + 2 ≤ e := le0
  refine b273_175 (s253 (c := 25) Y (by decide) rfl) (by decide) ?_
  intro k Y
  have hx := Y.t0
  refine b273_180 (Y.sh.ok rfl) (s253 (c := 40) Y (by decide) rfl) (by decide) ?_
  generalize qI k 630 11 = x5 at hx ⊢
  intro k Y
  refine b273_191 (Y.sh.ok rfl) (fun z => ?_) (fun z => b273_198 (fin k0 k ?_ p_fr.rf (fun h9 => ?_)))
  rotate_left 1
  · rw [y_nd_f (fun h9 => z (Y.z1.mpr h9))]
    exact Y
  · rw [y_nd_f (fun h9 => z (Y.z1.mpr h9))] at h9
    exact absurd (Y.z1.mpr h9) z
  have c0 := Y.z1.mp z
  have a1 := y_nd_z c0
  obtain ⟨b1, p1⟩ := y_nd_p rfl a1
  obtain ⟨b2, p2⟩ := y_nd_p p1 c0
  have x5e : x5 = nI (s.1 + 3) := (hx a1).trans (by rw [p1])
  have le := Y.le
  rw [p2] at le
  have le : s.1 + 4 ≤ e := le
  subst x5e
  generalize y_nd K 40 (y_nd K 25 (s.1 + 2, 0)) = s3 at *
  subst p2
  refine b273_199 (s255 (n := nt) (i := s.1 + 3) Y c0 (by omega) b2 ht ht12 rfl) (by decide) ?_
  rintro z k2 ⟨rfl, Y⟩
  have e77 : qI k2 630 77 = nI nw := (Y.I rfl).trans ((p_fw_I (by decide)).trans hN)
  refine b273_205 (Y.sh.ok rfl) (by rw [e77]; exact s258 (n := L) (i := s.1 + 1) Y c0 (by omega) hK1 ((p_fw_I (by decide)).trans J.2.2) hL rfl) (by decide) ?_
  intro k3 Y
  have e77 : qI k3 630 77 = nI nw := (Y.I rfl).trans ((p_tl_I (by decide)).trans ((p_fw_I (by decide)).trans hN))
  have iq : ∀ {k x}, q_Sh k → (decide (x ≤ 712) && (q_kd0 x).2 == 320) = true → q_in (nI q) (qK k x).2 := fun S h => S.inN (n := 320) h hq (by decide)
  have cq : (nI q : Int32).toNatClampNeg = q := nI_clamp (by omega)
  have Y2 : p_y K P X U e (p_nw P U nt q nw L s k0) (q_sI (q_sA (q_sA (q_sA k3 660 q 2) 661 q (nI (4 + nw))) 662 q (q_on (p_fi (qL k0 674) nt (U (s.1 + 3))))) 630 77 (nI (nw + 1))) (s.1 + 2 + 1 + 1, 0) := (((Y.sA rfl).sA rfl).sA rfl).sI rfl
  refine b273_219 (v0 := 660) (v1 := 661) (v2 := 662) (Y.sh.ok rfl) (Y.sh.ref rfl) (Y.sh.ok rfl) (iq Y.sh rfl) (Y.sh.ref rfl) (Y.sh.ok rfl) (iq Y.sh rfl) (Y.sh.ref rfl) (Y.sh.ok rfl) (iq Y.sh rfl) ?_
  rw [cq, e77, show (4 : Int32) + nI nw = nI (4 + nw) from nI_add 4 nw, nI_1]
  have h59' : qA (p_nw P U nt q nw L s k0) 659 (20 + r) = nI c := by
    unfold p_nw
    rw [qA_sI, qA_sAn (by decide), qA_sAn (by decide), qA_sAn (by decide), p_tl_A (by decide), p_fw_A]
    exact h59
  have J2 : p_J (L + 1) d (p_nw P U nt q nw L s k0) := by
    have I2 : ∀ {j}, ¬ j = 15 ∧ ¬ j = 16 ∧ ¬ j = 68 → ¬ j = 77 → qI (p_nw P U nt q nw L s k0) 630 j = qI k0 630 j := by
      intro j h h2
      unfold p_nw
      rw [q_sI_n (fun h9 => h2 h9.2), qI_sA, qI_sA, qI_sA, p_tl_I h, p_fw_I ⟨h.1, h.2.1⟩]
    refine ⟨(I2 (by decide) (by decide)).trans J.1, (I2 (by decide) (by decide)).trans J.2.1, ?_⟩
    unfold p_nw
    rw [q_sI_n (by omega), qI_sA, qI_sA, qI_sA, p_tl_68]
  refine s273_435 (c := c) Y2 hr hq h59' (fun k' Y' => fin _ k' Y' ((p_fr.rf.nw h160).dE h160) (fun h9 => ⟨rfl, d, J2.dE, ?_⟩))
  have := (y_to.rf.nd (K := K) (k := 26) (s0 := (s.1 + 2 + 1 + 1, 0))).1
  have h10 : s.1 + 2 + 1 + 1 ≤ (y_nd K 26 (s.1 + 2 + 1 + 1, 0)).1 := this
  omega
end PD
