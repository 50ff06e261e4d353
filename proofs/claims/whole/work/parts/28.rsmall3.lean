/-! THE SMALL CALLS, third part -/
theorem D_node {T S : Nat} {f g : Nat → Int32} (D : q_dr T S f g) (hT : T ≤ 12) (x w : Int32) : D309 g x w = D220 f x w := by
  unfold D309 D220
  rw [d_has_eq D, (d_ends_eq D x).1, (d_ends_eq D x).2]
  by_cases h : d_has f x = true
  · obtain ⟨j, n, hj, hn, rfl, h1, h2⟩ := d_node D h
    rw [if_pos h, if_pos h, nI_clamp (by omega), D.2.2.1 j (by omega), D.2.2.1 (12 + j) (by omega), D.2.2.1 (24 + j) (by omega), d_ty_in hj]
    by_cases w0 : w = 0
    · subst w0
      rfl
    · by_cases w1 : w = 1
      · subst w1
        unfold d_num
        rw [if_pos (q_rgN hj (by decide)), nI_clamp (by omega)]
        rfl
      · by_cases w2 : w = 2
        · subst w2
          unfold d_num
          rw [if_pos (q_rgN hj (by decide)), nI_clamp (by omega)]
          rfl
        · rw [if_neg w0, if_neg w1, if_neg w2, if_neg (show ¬ (w = 1 ∨ w = 2) from fun h => h.elim w1 w2), if_neg w0]
  · rw [if_neg h, if_neg h]
    by_cases w1 : w = 1 ∨ w = 2
    · rw [if_pos w1, if_pos w1]
      unfold d_num
      by_cases hx : q_rg x 12 = true
      · obtain ⟨j, hj, rfl⟩ := (q_rg_ex (by decide)).mp hx
        have h3 : f j = -1 := by
          rw [d_has_n hj] at h
          simpa using h
        obtain ⟨z1, z2⟩ := d_absent D hT hj h3
        rw [if_pos hx, nI_clamp (by omega), z1, z2]
        split
        · rfl
        · split <;> rfl
      · rw [if_neg hx]
    · rw [if_neg w1, if_neg w1]
theorem D_link {T S : Nat} {f g : Nat → Int32} (D : q_dr T S f g) (x w : Int32) : D310 g x w = D221 f x w := by
  unfold D310 D221
  rw [d_hasL_eq D]
  by_cases h : d_hasL f x = true
  · obtain ⟨j, hj, rfl, h1⟩ := d_link D h
    have h2 := D.2.2.2 j hj h1
    rw [if_pos h, if_pos h, nI_clamp (by omega), D.2.2.1 (36 + j) (by omega), h2.1, h2.2, d_at_in (q_rgN hj (by decide)), d_at_in (q_rgN hj (by decide)), d_at_in (q_rgN hj (by decide)), nI_clamp (by omega)]
  · rw [if_neg h, if_neg h]
theorem r_nodeOf {W K : Nat → Int64} {u : Nat} {x w : Int32} : r_I W K 220 309 [.int x, .int w] u u := by
  rintro h R
  obtain ⟨b, B, a, l, t, s, Q⟩ := R
  have hgo := Q.go
  have Q' := Q
  obtain ⟨S, q1, q2, q3, q4, hb, q5, wB, q6, q7, q8, q9, q10, q11⟩ := Q'
  have D := q8.1
  refine (s220 S).mono (by decide) ?_
  rintro z h1 ⟨e0, rfl⟩
  subst h1
  refine (s309 S).mono (by decide) ?_
  rintro z h1 ⟨e0, rfl⟩
  subst h1
  exact ⟨D_node D wB.1 x w, b, B, a, l, t, s, Q⟩
theorem r_linkOf {W K : Nat → Int64} {u : Nat} {x w : Int32} : r_I W K 221 310 [.int x, .int w] u u := by
  rintro h R
  obtain ⟨b, B, a, l, t, s, Q⟩ := R
  have hgo := Q.go
  have Q' := Q
  obtain ⟨S, q1, q2, q3, q4, hb, q5, wB, q6, q7, q8, q9, q10, q11⟩ := Q'
  have D := q8.1
  refine (s221 S).mono (by decide) ?_
  rintro z h1 ⟨e0, rfl⟩
  subst h1
  refine (s310 S).mono (by decide) ?_
  rintro z h1 ⟨e0, rfl⟩
  subst h1
  exact ⟨D_link D x w, b, B, a, l, t, s, Q⟩
theorem c_at_ext {f g : Nat → Int32} {n : Nat} (hn : n < 2 ^ 31) (e : ∀ i, i < n → f i = g i) (x : Int32) : c_at g n x = c_at f n x := by
  unfold c_at
  by_cases hx : q_rg x n = true
  · obtain ⟨j, hj, rfl⟩ := (q_rg_ex hn).mp hx
    rw [if_pos hx, if_pos hx, nI_clamp (by omega), e j hj]
  · rw [if_neg hx, if_neg hx]
theorem r_image {W K : Nat → Int64} {u : Nat} {x w : Int32} : r_I W K 224 325 [.int x, .int w] u u := by
  rintro h R
  obtain ⟨b, B, a, l, t, s, Q⟩ := R
  have hgo := Q.go
  have Q' := Q
  obtain ⟨S, q1, q2, q3, q4, hb, q5, wB, q6, q7, q8, q9, q10, q11⟩ := Q'
  have D := q8.1
  obtain ⟨n, k, hn, hk, e1, e2, e3, e4, e5, e6⟩ := q4
  refine (s224 S e1 hn e3 hk).mono (by decide) ?_
  rintro z h1 ⟨e0, rfl⟩
  subst h1
  refine (s325 S e2 hn e4 hk).mono (by decide) ?_
  rintro z h1 ⟨e0, rfl⟩
  subst h1
  refine ⟨?_, b, B, a, l, t, s, Q⟩
  rw [c_at_ext (by omega) e5, c_at_ext (by omega) e6]
theorem r_count {W K : Nat → Int64} {u : Nat} {x : Int32} : r_I W K 231 347 [.int x] u u := by
  rintro h R
  obtain ⟨b, B, a, l, t, s, Q⟩ := R
  have hgo := Q.go
  have Q' := Q
  obtain ⟨S, q1, q2, q3, q4, hb, q5, w, q6, q7, q8, q9, q10, q11⟩ := Q'
  have D := q8.1
  refine (s231 S hb q5.1).mono (by decide) ?_
  rintro z h1 ⟨e0, rfl⟩
  subst h1
  refine (s347 S).mono (by decide) ?_
  rintro z h1 ⟨e0, rfl⟩
  subst h1
  refine ⟨?_, b, B, a, l, t, s, Q⟩
  obtain ⟨t1, t2, t3, t4, t5, t6⟩ := Q.hT
  obtain ⟨m1, m2, m3, m4⟩ := Q.mT
  obtain ⟨g1, g2, g3, g4, g5, g6, g7, g8⟩ := q9
  obtain ⟨n, hn, n1, n2, _⟩ := q2
  have k0 : q_cnt (fun i => !(qA h 691 (0 + i) == -1)) 12 = d_nodes (qA h 598) := by
    unfold d_nodes
    apply q_cnt_ext
    intro i hi
    rw [Nat.zero_add, D.2.2.1 i (by omega)]
  have k1 : q_cnt (fun i => !(qA h 691 (36 + i) == -1)) 40 = d_links (qA h 598) := by
    unfold d_links
    apply q_cnt_ext
    intro i hi
    rw [D.2.2.1 (36 + i) (by omega)]
  have k6 : qI h 630 91 - qI h 630 92 = qI h 599 3 := by rw [g1, g2, g7]; exact pk_sub g3
  have k10 : (if m_go h = true then qI h 630 106 else 0) = if r_go h = true then qI h 614 7 else 0 := by
    rw [hgo]
    by_cases h9 : r_go h = true
    · rw [if_pos h9, if_pos h9]
      have h10 : qI h 614 4 = 4 := by
        unfold r_go at h9
        exact eq_of_beq h9
      obtain ⟨_, d, kd, op, tu, nx, ap, bg, lv, F⟩ := q11.2.2 h10
      rw [F.2.2.2.1, F.2.2.2.2.1]
    · rw [if_neg h9, if_neg h9]
  unfold D347 D231
  rw [k0, k1, k6, k10, t1, t2, t3, t4, m1, m2, m3, m4, q11.1, q11.2.1, n1, n2]
theorem r_back {W K : Nat → Int64} {u : Nat} {x : Int32} : r_I W K 212 239 [.int x] u u := by
  rintro h R
  obtain ⟨b, B, a, l, t, s, Q⟩ := R
  have hgo := Q.go
  have Q' := Q
  obtain ⟨S, q1, q2, q3, q4, hb, q5, w, q6, q7, q8, q9, q10, q11⟩ := Q'
  have D := q8.1
  obtain ⟨n, hn, n1, n2, n3⟩ := q2
  refine (s212 S n1 (by omega)).mono (by decide) ?_
  intro z h1 e1
  unfold D212 at e1
  by_cases hc : q_rg x (n + 1) = true
  · rw [if_pos hc] at e1
    obtain ⟨rfl, rfl⟩ := Prod.mk.inj e1
    have Sg : q_Sh (q_sI h 1 1 (nI (n - x.toNatClampNeg))) := S
    refine (s239 (n := n) Sg n2 (by omega)).mono (by decide) ?_
    intro z h2 e2
    unfold D212 at e2
    rw [if_pos hc] at e2
    obtain ⟨rfl, rfl⟩ := Prod.mk.inj e2
    refine ⟨rfl, b, B, a, l, t, s, S, q1, ⟨n - x.toNatClampNeg, by omega, rfl, rfl, fun i hi => n3 i (by omega)⟩, q3, q4, hb, q5, w, ?_, ?_, q8, q9, q10, q11⟩
    · refine r_cB.fr (h := h) hb w (fun _ _ _ => rfl) (fun y h1 h2 => ?_) q6
      have hb' : b = 11 ∨ b = 300 := hb
      show qI (q_sI (q_sI h 1 1 _) 630 2 _) y = qI h y
      rw [qI_sI_ne (by omega), qI_sI_ne (by omega)]
    · refine r_mB.fr (h := h) (fun _ _ _ => rfl) (fun i hi => ?_) q7
      rw [qI_sI_nj (by omega), qI_sI_nj (by omega)]
  · rw [if_neg hc] at e1
    obtain ⟨rfl, rfl⟩ := Prod.mk.inj e1
    refine (s239 S n2 (by omega)).mono (by decide) ?_
    intro z h2 e2
    unfold D212 at e2
    rw [if_neg hc] at e2
    obtain ⟨rfl, rfl⟩ := Prod.mk.inj e2
    exact ⟨rfl, b, B, a, l, t, s, Q⟩
theorem f_put_ext {f g : Nat → Int32} {n : Nat} (w : Int32) (e : ∀ i, i < n → f i = g i) : ∀ i, i < n + 4 → f_put f n w i = f_put g n w i := by
  intro i hi
  unfold f_put upd
  by_cases h3 : i = n + 3
  · rw [if_pos h3, if_pos h3]
  · rw [if_neg h3, if_neg h3]
    by_cases h2 : i = n + 2
    · rw [if_pos h2, if_pos h2]
    · rw [if_neg h2, if_neg h2]
      by_cases h1 : i = n + 1
      · rw [if_pos h1, if_pos h1]
      · rw [if_neg h1, if_neg h1]
        by_cases h0 : i = n
        · rw [if_pos h0, if_pos h0]
        · rw [if_neg h0, if_neg h0]
          exact e i (by omega)
theorem r_feed {W K : Nat → Int64} {u : Nat} {x1 x2 x3 x4 x5 : Int32} : r_I W K 211 237 [.int x1, .int x2, .int x3, .int x4, .int x5] u u := by
  rintro h R
  obtain ⟨b, B, a, l, t, s, Q⟩ := R
  have hgo := Q.go
  have Q' := Q
  obtain ⟨S, q1, q2, q3, q4, hb, q5, w, q6, q7, q8, q9, q10, q11⟩ := Q'
  have D := q8.1
  obtain ⟨n, hn, n1, n2, n3⟩ := q2
  refine (s211 S n1 hn).mono (by decide) ?_
  intro z h1 e1
  unfold D211 at e1
  by_cases hc : n ≤ 3980
  · rw [if_pos hc] at e1
    obtain ⟨rfl, rfl⟩ := Prod.mk.inj e1
    have Sg : q_Sh (f_st h 1 1 2 (f_put5 (qA h 2) n x1 x2 x3 x4 x5) (n + 20)) := S
    refine (s237 (n := n) Sg n2 hn).mono (by decide) ?_
    intro z h2 e2
    unfold D211 at e2
    rw [if_pos hc] at e2
    obtain ⟨rfl, rfl⟩ := Prod.mk.inj e2
    refine ⟨rfl, b, B, a, l, t, s, S, q1, ⟨n + 20, by omega, rfl, rfl, fun i hi => ?_⟩, q3, q4, hb, q5, w, ?_, ?_, q8, q9, q10, q11⟩
    · show f_put5 (qA h 2) n x1 x2 x3 x4 x5 i = f_put5 (qA h 631) n x1 x2 x3 x4 x5 i
      exact f_put_ext x5 (f_put_ext x4 (f_put_ext x3 (f_put_ext x2 (f_put_ext x1 n3)))) i hi
    · have hb' : b = 11 ∨ b = 300 := hb
      refine q6.fr hb w (fun y h1 h2 => ?_) (fun y h1 h2 => ?_)
      · show qA (q_wA (q_wA h 2 _) 631 _) y = qA h y
        rw [qA_wA_ne (by omega), qA_wA_ne (by omega)]
      · show qI (q_sI (q_sI h 1 1 _) 630 2 _) y = qI h y
        rw [qI_sI_ne (by omega), qI_sI_ne (by omega)]
    · refine q7.fr (fun y h1 h2 => ?_) (fun i hi => ?_)
      · show qA (q_wA (q_wA h 2 _) 631 _) y = qA h y
        rw [qA_wA_ne (by omega), qA_wA_ne (by omega)]
      · show qI (q_sI (q_sI h 1 1 _) 630 2 _) 630 (24 + i) = qI h 630 (24 + i)
        rw [qI_sI_nj (by omega), qI_sI_nj (by omega)]
  · rw [if_neg hc] at e1
    obtain ⟨rfl, rfl⟩ := Prod.mk.inj e1
    refine (s237 S n2 hn).mono (by decide) ?_
    intro z h2 e2
    unfold D211 at e2
    rw [if_neg hc] at e2
    obtain ⟨rfl, rfl⟩ := Prod.mk.inj e2
    exact ⟨rfl, b, B, a, l, t, s, Q⟩
