/-! THE SMALL CALLS, second part -/
theorem r_elders {W K : Nat → Int64} {h : q_Hp} {u b : Nat} {B : q_Bk} {a l t s : Nat} (Q : r_Q W K h u b B a l t s) : t_ok (fun i => qA h 638 (0 + i)) (bN B 0) := by
  obtain ⟨S, q1, q2, q3, q4, hb, q5, w, q6, q7, q8, q9, q10, q11⟩ := Q
  intro j hj
  show qA h 638 (0 + j) = -1 ∨ ∃ i, i < j ∧ qA h 638 (0 + j) = nI i
  rw [Nat.zero_add, q7.2.1 j hj]
  have h1 := w.2.2.2.2.2.2.1 j hj
  unfold oN
  split
  · exact Or.inl rfl
  · exact Or.inr ⟨bT B j 0 - 1, by omega, rfl⟩
theorem r_types {T S : Nat} {f g : Nat → Int32} (D : q_dr T S f g) (hT : T ≤ 12) : ∀ x, d_has g x = true → q_rg (g x.toNatClampNeg) T = true := by
  intro x hx
  rw [d_has_eq D] at hx
  obtain ⟨j, n, hj, hn, rfl, h1, _⟩ := d_node D hx
  rw [nI_clamp (by omega), D.2.2.1 j (by omega), h1]
  exact q_rgN hn (by omega)
theorem d_ty_in {f : Nat → Int32} {j : Nat} (hj : j < 12) : d_ty f (nI j) = f j := by
  unfold d_ty
  rw [if_pos (q_rgN hj (by decide)), nI_clamp (by omega)]
theorem r_isO {W K : Nat → Int64} {h : q_Hp} {u b : Nat} {B : q_Bk} {a l t s : Nat} (Q : r_Q W K h u b B a l t s) (w : Int32) (x : Int32) : t_is (fun i => qA h 638 (0 + i)) (bN B 0) w 12 x = t_is (qA h (b + 1)) (bN B 0) w 12 x := by
  obtain ⟨S, q1, q2, q3, q4, hb, q5, wB, q6, q7, q8, q9, q10, q11⟩ := Q
  have hT := wB.1
  refine t_is_ext (fun i hi => ?_) (by omega) 12 x
  show qA h 638 (0 + i) = _
  rw [Nat.zero_add, q7.2.1 i hi, q6.2.1 i hi]
def r_lc (h : q_Hp) (b T S : Nat) (x f g : Int32) : Bool := !r_go h && q_rg x S && d_has (qA h 598) f && d_has (qA h 598) g && t_is (qA h (b + 1)) T (qA h (b + 2) x.toNatClampNeg) 12 (d_ty (qA h 598) f) && t_is (qA h (b + 1)) T (qA h (b + 3) x.toNatClampNeg) 12 (d_ty (qA h 598) g)
theorem r_lcm {W K : Nat → Int64} {h : q_Hp} {u b : Nat} {B : q_Bk} {a l t s : Nat} (Q : r_Q W K h u b B a l t s) (x f g : Int32) : (!m_go h && q_rg x (bN B 1) && d_has (qA h 691) f && d_has (qA h 691) g && t_is (fun i => qA h 638 (0 + i)) (bN B 0) (qA h 639 x.toNatClampNeg) 12 (qA h 691 f.toNatClampNeg) && t_is (fun i => qA h 638 (0 + i)) (bN B 0) (qA h 640 x.toNatClampNeg) 12 (qA h 691 g.toNatClampNeg)) = r_lc h b (bN B 0) (bN B 1) x f g := by
  have hgo := Q.go
  have hel := r_isO Q
  obtain ⟨S, q1, q2, q3, q4, hb, q5, w, q6, q7, q8, q9, q10, q11⟩ := Q
  have D := q8.1
  have hS := w.2.1
  unfold r_lc
  rw [hgo, d_has_eq D, d_has_eq D, hel, hel]
  by_cases h1 : q_rg x (bN B 1) = true
  · by_cases h2 : d_has (qA h 598) f = true
    · by_cases h3 : d_has (qA h 598) g = true
      · obtain ⟨n, hn, rfl⟩ := (q_rg_ex (by omega)).mp h1
        obtain ⟨j, _, hj, _, rfl, _, _⟩ := d_node D h2
        obtain ⟨k, _, hk, _, rfl, _, _⟩ := d_node D h3
        rw [nI_clamp (show n < 2 ^ 31 by omega), nI_clamp (show j < 2 ^ 31 by omega), nI_clamp (show k < 2 ^ 31 by omega), d_ty_in hj, d_ty_in hk, D.2.2.1 j (by omega), D.2.2.1 k (by omega), (q7.2.2.1 n hn).1, (q7.2.2.1 n hn).2, (q6.2.2.1 n hn).1, (q6.2.2.1 n hn).2]
      · rw [Bool.eq_false_iff.mpr h3]
        simp
    · rw [Bool.eq_false_iff.mpr h2]
      simp
  · rw [Bool.eq_false_iff.mpr h1]
    simp
theorem r_link {W K : Nat → Int64} {u : Nat} {x f g : Int32} : r_I W K 216 302 [.int x, .int f, .int g] u u := by
  rintro h R
  obtain ⟨b, B, a, l, t, s, Q⟩ := R
  have hlc := r_lcm Q x f g
  have hel := r_elders Q
  have Q' := Q
  obtain ⟨S, q1, q2, q3, q4, hb, q5, w, q6, q7, q8, q9, q10, q11⟩ := Q'
  have hT : bN B 0 ≤ 12 := w.1
  have hS : bN B 1 ≤ 12 := w.2.1
  have D := q8.1
  have hty := r_types D hT
  refine (s216 S hb q5.1 Q.hT.1 hT Q.hT.2.1 hS).mono (by decide) ?_
  intro z h1 e1
  by_cases hc : r_lc h b (bN B 0) (bN B 1) x f g = true
  · have e1 : (z, h1) = if r_lc h b (bN B 0) (bN B 1) x f g = true then (match d_free (qA h 598) 36 40 with | some i => (nI i, q_fg (d_lnk3 h 598 i x f g)) | none => (-1, h)) else (-1, h) := e1
    rw [if_pos hc] at e1
    cases hf : d_free (qA h 598) 36 40 with
    | none =>
      rw [hf] at e1
      obtain ⟨rfl, rfl⟩ := Prod.mk.inj e1
      refine (s302 S hT Q.mT.2.1 hS hel hty).mono (by decide) ?_
      intro z h2 e2
      unfold D302 at e2
      rw [hlc, if_pos hc, (d_free_eq D).2, hf] at e2
      obtain ⟨rfl, rfl⟩ := Prod.mk.inj e2
      exact ⟨rfl, b, B, a, l, t, s, Q⟩
    | some i =>
      rw [hf] at e1
      obtain ⟨rfl, rfl⟩ := Prod.mk.inj e1
      have hi := q_fst_lt _ _ _ hf
      have Sg : q_Sh (q_fg (d_lnk3 h 598 i x f g)) := S
      refine (s302 (t := bN B 0) (s := bN B 1) Sg hT Q.mT.2.1 hS hel hty).mono (by decide) ?_
      intro z h2 e2
      unfold D302 at e2
      have g1 : (!m_go (q_fg (d_lnk3 h 598 i x f g)) && q_rg x (bN B 1) && d_has (qA (q_fg (d_lnk3 h 598 i x f g)) 691) f && d_has (qA (q_fg (d_lnk3 h 598 i x f g)) 691) g && t_is (fun i_1 => qA (q_fg (d_lnk3 h 598 i x f g)) 638 (0 + i_1)) (bN B 0) (qA (q_fg (d_lnk3 h 598 i x f g)) 639 x.toNatClampNeg) 12 (qA (q_fg (d_lnk3 h 598 i x f g)) 691 f.toNatClampNeg) && t_is (fun i_1 => qA (q_fg (d_lnk3 h 598 i x f g)) 638 (0 + i_1)) (bN B 0) (qA (q_fg (d_lnk3 h 598 i x f g)) 640 x.toNatClampNeg) 12 (qA (q_fg (d_lnk3 h 598 i x f g)) 691 g.toNatClampNeg)) = true := hlc.trans hc
      have g2 : d_free (qA (q_fg (d_lnk3 h 598 i x f g)) 691) 36 40 = some i := ((d_free_eq D).2).trans hf
      rw [if_pos g1, g2] at e2
      obtain ⟨rfl, rfl⟩ := Prod.mk.inj e2
      refine ⟨rfl, b, B, a, a, t, s, ?_⟩
      unfold r_lc at hc
      simp only [Bool.and_eq_true] at hc
      obtain ⟨⟨⟨⟨⟨_, c1⟩, c2⟩, c3⟩, _⟩, _⟩ := hc
      obtain ⟨n, hn, rfl⟩ := (q_rg_ex (by omega)).mp c1
      obtain ⟨j, _, hj, _, rfl, _, nj⟩ := d_node D c2
      obtain ⟨k, _, hk, _, rfl, _, nk⟩ := d_node D c3
      have D2 : q_dg (bN B 0) (bN B 1) (u_lnk (qA h 598) i (nI n) (nI j) (nI k)) (u_lnk (qA h 691) i (nI n) (nI j) (nI k)) := ⟨D.newL (by omega) hn hj hk, q8.2.newL D.ends (by omega) hj hk nj nk⟩
      have e3 : q_ls (d_lnk3 (q_fg (d_lnk3 h 598 i (nI n) (nI j) (nI k))) 691 i (nI n) (nI j) (nI k)) = r_hp h (u_lnk (qA h 598) i (nI n) (nI j) (nI k)) (u_lnk (qA h 691) i (nI n) (nI j) (nI k)) := by
        unfold d_lnk3
        rw [q_sA_wA (q_fg _), q_sA_wA', q_sA_wA', q_sA_wA h, q_sA_wA', q_sA_wA']
        rfl
      rw [e3]
      exact r_put Q D2
  · have e1 : (z, h1) = if r_lc h b (bN B 0) (bN B 1) x f g = true then (match d_free (qA h 598) 36 40 with | some i => (nI i, q_fg (d_lnk3 h 598 i x f g)) | none => (-1, h)) else (-1, h) := e1
    rw [if_neg hc] at e1
    obtain ⟨rfl, rfl⟩ := Prod.mk.inj e1
    refine (s302 S hT Q.mT.2.1 hS hel hty).mono (by decide) ?_
    intro z h2 e2
    unfold D302 at e2
    rw [hlc, if_neg hc] at e2
    obtain ⟨rfl, rfl⟩ := Prod.mk.inj e2
    exact ⟨rfl, b, B, a, l, t, s, Q⟩
theorem d_has_n {f : Nat → Int32} {j : Nat} (hj : j < 12) : d_has f (nI j) = !(f j == -1) := by
  unfold d_has
  rw [q_rgN hj (by decide), nI_clamp (by omega)]
  rfl
theorem d_hasL_n {f : Nat → Int32} {j : Nat} (hj : j < 40) : d_hasL f (nI j) = !(f (36 + j) == -1) := by
  unfold d_hasL
  rw [q_rgN hj (by decide), nI_clamp (by omega)]
  rfl
theorem r_attr {W K : Nat → Int64} {u : Nat} {x k v : Int32} : r_I W K 217 303 [.int x, .int k, .int v] u u := by
  rintro h R
  obtain ⟨b, B, a, l, t, s, Q⟩ := R
  have hgo := Q.go
  have Q' := Q
  obtain ⟨S, q1, q2, q3, q4, hb, q5, w, q6, q7, q8, q9, q10, q11⟩ := Q'
  have D := q8.1
  refine (s217 S).mono (by decide) ?_
  intro z h1 e1
  unfold D217 at e1
  by_cases hc : (!r_go h && d_has (qA h 598) x && q_rg k 2) = true
  · rw [if_pos hc] at e1
    obtain ⟨rfl, rfl⟩ := Prod.mk.inj e1
    simp only [Bool.and_eq_true] at hc
    obtain ⟨⟨c1, c2⟩, c3⟩ := hc
    obtain ⟨j, _, hj, _, rfl, _, nj⟩ := d_node D c2
    obtain ⟨m, hm, rfl⟩ := (q_rg_ex (by decide)).mp c3
    have e5 : ∀ (h : q_Hp) (c : Nat), d_has (qA h c) (nI j) = true → d_put h c (nI j) (nI m) v = q_sA h c (12 * (m + 1) + j) v := by
      intro h c hh
      unfold d_put
      rw [if_pos hh, nI_clamp (by omega)]
      rcases (show m = 0 ∨ m = 1 by omega) with rfl | rfl
      · rw [if_pos (by rfl)]
      · rw [if_neg (by decide), if_pos (by rfl)]
    rw [e5 h 598 c2]
    have Sg : q_Sh (q_fg (q_sA h 598 (12 * (m + 1) + j) v)) := S
    refine (s303 Sg).mono (by decide) ?_
    intro z h2 e2
    unfold D303 at e2
    have c4 : d_has (qA h 691) (nI j) = true := by rw [d_has_eq D]; exact c2
    have g1 : (!m_go (q_fg (q_sA h 598 (12 * (m + 1) + j) v)) && d_has (qA (q_fg (q_sA h 598 (12 * (m + 1) + j) v)) 691) (nI j) && q_rg (nI m) 2) = true := by
      show (!m_go h && d_has (qA h 691) (nI j) && q_rg (nI m) 2) = true
      rw [hgo, c1, c4, c3]
      rfl
    rw [if_pos g1] at e2
    obtain ⟨rfl, rfl⟩ := Prod.mk.inj e2
    refine ⟨rfl, b, B, a, a, t, s, ?_⟩
    rw [e5 (q_fg (q_sA h 598 (12 * (m + 1) + j) v)) 691 c4]
    have hk : 12 * (m + 1) + j = 12 + j ∨ 12 * (m + 1) + j = 24 + j := by omega
    have D2 : q_dg (bN B 0) (bN B 1) (upd (qA h 598) (12 * (m + 1) + j) v) (upd (qA h 691) (12 * (m + 1) + j) v) := ⟨D.num hj nj hk, q8.2.num D hj hk⟩
    have e3 : q_ls (q_sA (q_fg (q_sA h 598 (12 * (m + 1) + j) v)) 691 (12 * (m + 1) + j) v) = r_hp h (upd (qA h 598) (12 * (m + 1) + j) v) (upd (qA h 691) (12 * (m + 1) + j) v) := by
      rw [q_sA_wA (q_fg _), q_sA_wA h]
      rfl
    rw [e3]
    exact r_put Q D2
  · rw [if_neg hc] at e1
    obtain ⟨rfl, rfl⟩ := Prod.mk.inj e1
    refine (s303 S).mono (by decide) ?_
    intro z h2 e2
    unfold D303 at e2
    rw [hgo, d_has_eq D, if_neg hc] at e2
    obtain ⟨rfl, rfl⟩ := Prod.mk.inj e2
    exact ⟨rfl, b, B, a, l, t, s, Q⟩
theorem r_remove {W K : Nat → Int64} {u : Nat} {x : Int32} : r_I W K 218 305 [.int x] u u := by
  rintro h R
  obtain ⟨b, B, a, l, t, s, Q⟩ := R
  have hgo := Q.go
  have Q' := Q
  obtain ⟨S, q1, q2, q3, q4, hb, q5, w, q6, q7, q8, q9, q10, q11⟩ := Q'
  have D := q8.1
  refine (s218 S).mono (by decide) ?_
  intro z h1 e1
  unfold D218 at e1
  by_cases hc : (!r_go h && d_has (qA h 598) x && d_ends (qA h 598) 76 x == 0 && d_ends (qA h 598) 116 x == 0) = true
  · rw [if_pos hc] at e1
    obtain ⟨rfl, rfl⟩ := Prod.mk.inj e1
    have hc' := hc
    simp only [Bool.and_eq_true, beq_iff_eq] at hc'
    obtain ⟨⟨⟨c1, c2⟩, c3⟩, c4⟩ := hc'
    obtain ⟨j, _, hj, _, rfl, _, nj⟩ := d_node D c2
    have e5 : d_dropN h 598 (nI j) = q_sA (q_sA (q_sA h 598 (12 + j) 0) 598 (24 + j) 0) 598 j (-1) := by
      unfold d_dropN
      rw [if_pos c2, nI_clamp (by omega)]
    rw [e5]
    have Sg : q_Sh (q_fg (q_sA (q_sA (q_sA h 598 (12 + j) 0) 598 (24 + j) 0) 598 j (-1))) := S
    refine (s305 Sg).mono (by decide) ?_
    intro z h2 e2
    unfold D305 at e2
    have g1 : (!m_go (q_fg (q_sA (q_sA (q_sA h 598 (12 + j) 0) 598 (24 + j) 0) 598 j (-1))) && d_has (qA (q_fg (q_sA (q_sA (q_sA h 598 (12 + j) 0) 598 (24 + j) 0) 598 j (-1))) 691) (nI j) && d_ends (qA (q_fg (q_sA (q_sA (q_sA h 598 (12 + j) 0) 598 (24 + j) 0) 598 j (-1))) 691) 76 (nI j) == 0 && d_ends (qA (q_fg (q_sA (q_sA (q_sA h 598 (12 + j) 0) 598 (24 + j) 0) 598 j (-1))) 691) 116 (nI j) == 0) = true := by
      show (!m_go h && d_has (qA h 691) (nI j) && d_ends (qA h 691) 76 (nI j) == 0 && d_ends (qA h 691) 116 (nI j) == 0) = true
      rw [hgo, d_has_eq D, (d_ends_eq D _).1, (d_ends_eq D _).2]
      exact hc
    rw [if_pos g1, nI_clamp (by omega)] at e2
    obtain ⟨rfl, rfl⟩ := Prod.mk.inj e2
    refine ⟨rfl, b, B, a, a, t, s, ?_⟩
    have D2 : q_dg (bN B 0) (bN B 1) (u_drN (qA h 598) j) (u_drM (qA h 691) j) := by
      rw [u_dr_eq]
      exact ⟨D.dropN hj, q8.2.dropN D hj c3 c4⟩
    have e3 : q_ls (q_sA (q_sA (q_sA (q_fg (q_sA (q_sA (q_sA h 598 (12 + j) 0) 598 (24 + j) 0) 598 j (-1))) 691 j (-1)) 691 (12 + j) 0) 691 (24 + j) 0) = r_hp h (u_drN (qA h 598) j) (u_drM (qA h 691) j) := by
      rw [q_sA_wA (q_fg _), q_sA_wA', q_sA_wA', q_sA_wA h, q_sA_wA', q_sA_wA']
      rfl
    rw [e3]
    exact r_put Q D2
  · rw [if_neg hc] at e1
    obtain ⟨rfl, rfl⟩ := Prod.mk.inj e1
    refine (s305 S).mono (by decide) ?_
    intro z h2 e2
    unfold D305 at e2
    rw [hgo, d_has_eq D, (d_ends_eq D _).1, (d_ends_eq D _).2, if_neg hc] at e2
    obtain ⟨rfl, rfl⟩ := Prod.mk.inj e2
    exact ⟨rfl, b, B, a, l, t, s, Q⟩
theorem r_cut {W K : Nat → Int64} {u : Nat} {x : Int32} : r_I W K 219 308 [.int x] u u := by
  rintro h R
  obtain ⟨b, B, a, l, t, s, Q⟩ := R
  have hgo := Q.go
  have Q' := Q
  obtain ⟨S, q1, q2, q3, q4, hb, q5, w, q6, q7, q8, q9, q10, q11⟩ := Q'
  have D := q8.1
  refine (s219 S).mono (by decide) ?_
  intro z h1 e1
  unfold D219 at e1
  by_cases hc : (!r_go h && d_hasL (qA h 598) x) = true
  · rw [if_pos hc] at e1
    obtain ⟨rfl, rfl⟩ := Prod.mk.inj e1
    have hc' := hc
    simp only [Bool.and_eq_true] at hc'
    obtain ⟨c1, c2⟩ := hc'
    obtain ⟨j, hj, rfl, nj⟩ := d_link D c2
    have e5 : d_dropL h 598 (nI j) = d_lnk3 h 598 j (-1) (-1) (-1) := by
      unfold d_dropL
      rw [if_pos c2, nI_clamp (by omega)]
    rw [e5]
    have Sg : q_Sh (q_fg (d_lnk3 h 598 j (-1) (-1) (-1))) := S
    refine (s308 Sg).mono (by decide) ?_
    intro z h2 e2
    unfold D308 at e2
    have g1 : (!m_go (q_fg (d_lnk3 h 598 j (-1) (-1) (-1))) && d_hasL (qA (q_fg (d_lnk3 h 598 j (-1) (-1) (-1))) 691) (nI j)) = true := by
      show (!m_go h && d_hasL (qA h 691) (nI j)) = true
      rw [hgo, d_hasL_eq D]
      exact hc
    rw [if_pos g1, nI_clamp (by omega)] at e2
    obtain ⟨rfl, rfl⟩ := Prod.mk.inj e2
    refine ⟨rfl, b, B, a, a, t, s, ?_⟩
    have D2 : q_dg (bN B 0) (bN B 1) (u_lnk (qA h 598) j (-1) (-1) (-1)) (u_lnk (qA h 691) j (-1) 0 0) := ⟨D.dropL hj, q8.2.dropL D.ends hj⟩
    have e3 : q_ls (d_lnk3 (q_fg (d_lnk3 h 598 j (-1) (-1) (-1))) 691 j (-1) 0 0) = r_hp h (u_lnk (qA h 598) j (-1) (-1) (-1)) (u_lnk (qA h 691) j (-1) 0 0) := by
      unfold d_lnk3
      rw [q_sA_wA (q_fg _), q_sA_wA', q_sA_wA', q_sA_wA h, q_sA_wA', q_sA_wA']
      rfl
    rw [e3]
    exact r_put Q D2
  · rw [if_neg hc] at e1
    obtain ⟨rfl, rfl⟩ := Prod.mk.inj e1
    refine (s308 S).mono (by decide) ?_
    intro z h2 e2
    unfold D308 at e2
    rw [hgo, d_hasL_eq D, if_neg hc] at e2
    obtain ⟨rfl, rfl⟩ := Prod.mk.inj e2
    exact ⟨rfl, b, B, a, l, t, s, Q⟩
