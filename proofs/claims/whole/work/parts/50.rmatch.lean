/-! MATCHES AND MATCH: the two sides answer alike -/
theorem m_ev_ext {B : q_Bk} {V : Nat → Nat → Nat} {num num' : Nat → Nat → Int32} (e : ∀ x k, x < V 0 0 → k < 2 → num x k = num' x k) : ∀ (m i : Nat) (st : List Int32), ¬ q_cd B V i m st.length = none → m_ev (fun i => bC B i 0) (fun i => bC B i 1) num i m st = m_ev (fun i => bC B i 0) (fun i => bC B i 1) num' i m st := by
  intro m
  induction m with
  | zero => intro i st _; rfl
  | succ m ih =>
    intro i st h
    unfold q_cd at h
    unfold m_ev
    by_cases k2 : bC B i 0 < 2
    · rw [if_pos k2] at h
      split at h
      next hq =>
        by_cases k0 : bC B i 0 = 0
        · rw [if_pos k0, if_pos k0]
          exact ih (i + 1) (nI (bC B i 1) :: st) h
        · have k1 : bC B i 0 = 1 := by omega
          rw [if_neg k0, if_neg k0, if_pos k1, if_pos k1, e _ _ (hq.1 k1) (Nat.mod_lt _ (by decide))]
          exact ih (i + 1) (num' (bC B i 1 / 2) (bC B i 1 % 2) :: st) h
      next => exact absurd rfl h
    · rw [if_neg k2] at h
      rw [if_neg (show ¬ bC B i 0 = 0 by omega), if_neg (show ¬ bC B i 0 = 0 by omega), if_neg (show ¬ bC B i 0 = 1 by omega), if_neg (show ¬ bC B i 0 = 1 by omega)]
      by_cases k3 : bC B i 0 = 2
      · rw [if_pos k3] at h
        rw [if_pos k3, if_pos k3]
        match st with
        | [] => rfl
        | y :: st' =>
          split at h
          next hq =>
            show (if m_ok (-(y.toInt64)) = true then _ else none) = (if m_ok (-(y.toInt64)) = true then _ else none)
            rw [ih (i + 1) ((-(y.toInt64)).toInt32 :: st') h]
          next => exact absurd rfl h
      · rw [if_neg k3] at h
        rw [if_neg k3, if_neg k3]
        match st with
        | [] => rfl
        | [_] => rfl
        | y :: x :: st' =>
          split at h
          next hq =>
            show (if m_ok (m_cb (bC B i 0) x y) = true then _ else none) = (if m_ok (m_cb (bC B i 0) x y) = true then _ else none)
            rw [ih (i + 1) ((m_cb (bC B i 0) x y).toInt32 :: st') h]
          next => exact absurd rfl h
section XT
variable {B : q_Bk} {f g : Nat → Int32} {im : Nat → Nat} {V : Nat → Nat → Nat}
theorem m_tt_ext (D : q_dr (bN B 0) (bN B 1) f g) {w : Int32} {x : Nat} (hx : x < 12) : m_tt B g w x ↔ m_tt B f w x := by
  unfold m_tt
  rw [D.2.2.1 x (by omega)]
theorem m_ln_ext (D : q_dr (bN B 0) (bN B 1) f g) {s a b : Nat} {us : List Nat} (hs : s < 2 ^ 31) : m_ln g s a b us = m_ln f s a b us := by
  unfold m_ln
  refine q_fst_ext 40 0 (fun j _ h2 => ?_)
  rw [D.2.2.1 (36 + j) (by omega)]
  by_cases h : f (36 + j) = nI s
  · have h3 := D.2.2.2 j (by omega) (by rw [h]; exact q_on_ne hs)
    rw [h3.1, h3.2]
  · rw [beq_eq_false_iff_ne.mpr h]
    simp only [Bool.false_and]
theorem m_gl_ext (D : q_dr (bN B 0) (bN B 1) f g) {S F G : Nat → Nat} {us : List Nat} : ∀ n, (∀ l, l < n → S l < 2 ^ 31) → m_gl g im S F G us n = m_gl f im S F G us n := by
  intro n
  induction n with
  | zero => intro _; rfl
  | succ n ih =>
    intro h
    show (match m_gl g im S F G us n with | none => none | some L => match m_ln g (S n) (im (F n)) (im (G n)) L with | none => none | some i => some (L ++ [i])) = (match m_gl f im S F G us n with | none => none | some L => match m_ln f (S n) (im (F n)) (im (G n)) L with | none => none | some i => some (L ++ [i]))
    rw [ih (fun l hl => h l (by omega))]
    cases m_gl f im S F G us n with
    | none => rfl
    | some L =>
      show (match m_ln g (S n) (im (F n)) (im (G n)) L with | none => none | some i => some (L ++ [i])) = _
      rw [m_ln_ext D (h n (by omega))]
theorem m_sv_ext (D : q_dr (bN B 0) (bN B 1) f g) (hi : ∀ i, i < V 0 0 → im i < 12) {s : Nat} (sm : q_sm B V s) : m_sv B g im V s = m_sv B f im V s := by
  unfold m_sv
  refine m_ev_ext (V := V) (fun x k hx hk => ?_) _ _ [] (by show ¬ q_cd B V (V 11 s) (V 12 s - V 11 s) 0 = none; rw [sm.2.2]; exact fun h => by cases h)
  unfold m_nu
  have := hi x hx
  exact D.2.2.1 _ (by rcases (show k = 0 ∨ k = 1 by omega) with rfl | rfl <;> omega)
theorem m_lo_ext (D : q_dr (bN B 0) (bN B 1) f g) {L : List Nat} : m_lo g im V L ↔ m_lo f im V L := by
  unfold m_lo
  constructor
  · rintro ⟨l, l1, l2, l3, i, i1, i2, i3⟩
    rw [D.2.2.1 (36 + l) (by omega)] at l2
    have h := D.2.2.2 l l1 l2
    rw [h.1, h.2] at i3
    exact ⟨l, l1, l2, l3, i, i1, i2, i3⟩
  · rintro ⟨l, l1, l2, l3, i, i1, i2, i3⟩
    have h := D.2.2.2 l l1 l2
    refine ⟨l, l1, ?_, l3, i, i1, i2, ?_⟩
    · rw [D.2.2.1 (36 + l) (by omega)]; exact l2
    · rw [h.1, h.2]; exact i3
theorem m_no_ext (D : q_dr (bN B 0) (bN B 1) f g) (w : q_wB B) (wr : q_wR B V) {L : List Nat} {n : Nat} (hn : n < V 0 2) : m_no B g im V L n ↔ m_no B f im V L n := by
  have wn := wr.2.2.2.2.2.2.2.2.1 n hn
  have h1 : bN B 1 ≤ 12 := w.2.1
  have key : ∀ c, m_ng g im V L n c = m_ng f im V L n c := fun c => m_gl_ext D _ (fun l hl => by have := (wn.2.2 l hl).1; omega)
  unfold m_no
  constructor
  · rintro ⟨c, c1, c2, L', c3⟩
    have c12 : c < 12 := by split at c1 <;> omega
    rw [key c] at c3
    exact ⟨c, c1, fun h => (m_tt_ext D c12).mp (c2 h), L', c3⟩
  · rintro ⟨c, c1, c2, L', c3⟩
    have c12 : c < 12 := by split at c1 <;> omega
    rw [← key c] at c3
    exact ⟨c, c1, fun h => (m_tt_ext D c12).mpr (c2 h), L', c3⟩
theorem m_ft_ext (D : q_dr (bN B 0) (bN B 1) f g) (w : q_wB B) (wr : q_wR B V) (hi : ∀ i, i < V 0 0 → im i < 12) {L : List Nat} : m_ft B g im V L ↔ m_ft B f im V L := by
  have h1 : bN B 1 ≤ 12 := w.2.1
  have e1 : m_rl g im V = m_rl f im V := m_gl_ext D _ (fun l hl => by have := (wr.2.2.2.2.2.2.2.1 l hl).1; omega)
  have e2 : ∀ t, t < V 0 3 → (m_ts B g im V t ↔ m_ts B f im V t) := by
    intro t ht
    have wt := wr.2.2.2.2.2.2.2.2.2.1 t ht
    unfold m_ts
    rw [m_sv_ext D hi wt.2.1, m_sv_ext D hi wt.2.2.1]
  unfold m_ft
  rw [e1, m_lo_ext D]
  constructor
  · rintro ⟨a1, a2, a3, a4⟩
    exact ⟨a1, fun t ht => (e2 t ht).mp (a2 t ht), a3, fun n hn h => a4 n hn ((m_no_ext D w wr hn).mpr h)⟩
  · rintro ⟨a1, a2, a3, a4⟩
    exact ⟨a1, fun t ht => (e2 t ht).mpr (a2 t ht), a3, fun n hn h => a4 n hn ((m_no_ext D w wr hn).mp h)⟩
theorem m_ma_ext (D : q_dr (bN B 0) (bN B 1) f g) (w : q_wB B) (wr : q_wR B V) (hi : ∀ i, i < V 0 0 → im i < 12) {L : List Nat} : m_ma B g im V L ↔ m_ma B f im V L := by
  unfold m_ma
  rw [m_ft_ext D w wr hi]
  constructor
  · rintro ⟨a1, a2, a3⟩
    exact ⟨fun i h => (m_tt_ext D (hi i h)).mp (a1 i h), a2, a3⟩
  · rintro ⟨a1, a2, a3⟩
    exact ⟨fun i h => (m_tt_ext D (hi i h)).mpr (a1 i h), a2, a3⟩
theorem m_M_ext (D : q_dr (bN B 0) (bN B 1) f g) (w : q_wB B) (wr : q_wR B V) : m_M B g V = m_M B f V := by
  funext v
  rw [Bool.eq_iff_iff]
  unfold m_M
  rw [m_dc_t, m_dc_t]
  exact exists_congr (fun L => m_ma_ext D w wr (fun i _ => m_im_lt))
end XT
/-- the relation goes on where the two matchers alone have worked -/
theorem r_Q.st {W K : Nat → Int64} {h h' : q_Hp} {u b : Nat} {B : q_Bk} {a l t s : Nat} (Q : r_Q W K h u b B a l t s) (e : q_Ef [601, 602, 603, 604, 605, 606, 607, 608, 609, 630, 695, 696, 697, 698, 699] h h') (e6 : ∀ j, ¬ (j = 95 ∨ j = 96 ∨ j = 99) → qI h' 630 j = qI h 630 j) (M : r_M h') : r_Q W K h' u b B a l t s := by
  obtain ⟨S, q1, q2, q3, q4, hb, q5, w, q6, q7, q8, q9, q10, q11⟩ := Q
  have hb' : b = 11 ∨ b = 300 := hb
  have n1 : ∀ x, x ≤ 600 → x ∉ [601, 602, 603, 604, 605, 606, 607, 608, 609, 630, 695, 696, 697, 698, 699] := fun x hx => q_nin (k := 600) rfl hx
  have n2 : ∀ x, 631 ≤ x → x ≤ 694 → x ∉ [601, 602, 603, 604, 605, 606, 607, 608, 609, 630, 695, 696, 697, 698, 699] := by
    intro x h1 h2
    simp only [List.mem_cons, List.not_mem_nil, or_false]
    omega
  have n3 : ∀ x, 610 ≤ x → x ≤ 629 → x ∉ [601, 602, 603, 604, 605, 606, 607, 608, 609, 630, 695, 696, 697, 698, 699] := by
    intro x h1 h2
    simp only [List.mem_cons, List.not_mem_nil, or_false]
    omega
  have n4 : ∀ x, 700 ≤ x → x ∉ [601, 602, 603, 604, 605, 606, 607, 608, 609, 630, 695, 696, 697, 698, 699] := by
    intro x h1
    simp only [List.mem_cons, List.not_mem_nil, or_false]
    omega
  refine ⟨e.sh S, ?_, ?_, ?_, M, hb, ?_, w, q6.fr hb w (fun x h1 h2 => e.A (n1 x (by omega))) (fun x h1 h2 => e.I (n1 x (by omega))), q7.fr (fun x h1 h2 => e.A (n2 x (by omega) (by omega))) (fun i hi => e6 _ (by omega)), ?_, ?_, ?_, ?_⟩
  · unfold r_C
    rw [e.L (n1 4 (by decide)), e.L (n2 637 (by decide) (by decide))]
    exact q1
  · unfold r_T
    rw [e.I (n1 1 (by decide)), e6 2 (by decide), e.A (n1 2 (by decide)), e.A (n2 631 (by decide) (by decide))]
    exact q2
  · unfold r_P
    rw [e.I (n1 1 (by decide)), e6 17 (by decide)]
    exact q3
  · rw [e.R (n1 1 (by decide))]
    exact q5
  · rw [e.A (n1 598 (by decide)), e.A (n2 691 (by decide) (by decide))]
    exact q8
  · unfold r_H
    rw [e6 91 (by decide), e6 92 (by decide), e.I (n1 599 (by decide)), e.A (n1 600 (by decide)), e.A (n2 692 (by decide) (by decide))]
    exact q9
  · unfold r_K
    rw [e.A (n3 621 (by decide) (by decide)), e.A (n2 694 (by decide) (by decide)), e.A (n3 620 (by decide) (by decide)), e.A (n2 693 (by decide) (by decide))]
    exact q10
  · simp only [r_X, r_F, e.I (n3 614 (by decide) (by decide)), e.R (n3 614 (by decide) (by decide)), e6 104 (by decide), e6 105 (by decide), e6 106 (by decide), e.A (n3 615 (by decide) (by decide)), e.A (n3 616 (by decide) (by decide)), e.A (n3 617 (by decide) (by decide)), e.A (n3 618 (by decide) (by decide)), e.A (n3 619 (by decide) (by decide)), e.A (n4 703 (by decide)), e.A (n4 704 (by decide)), e.A (n4 705 (by decide)), e.A (n4 706 (by decide)), e.A (n4 707 (by decide)), e.A (n4 708 (by decide)), e.A (n4 709 (by decide))]
    exact q11
theorem r_Q.cX {W K : Nat → Int64} {h : q_Hp} {u b : Nat} {B : q_Bk} {a l t s : Nat} (Q : r_Q W K h u b B a l t s) : c_X h b B (qA h 691) := by
  obtain ⟨S, q1, q2, q3, q4, hb, q5, w, q6, q7, q8, q9, q10, q11⟩ := Q
  exact ⟨S, hb, w, q6, q8⟩
theorem r_Q.nX {W K : Nat → Int64} {h : q_Hp} {u b : Nat} {B : q_Bk} {a l t s : Nat} (Q : r_Q W K h u b B a l t s) : n_X h B (qA h 598) := by
  obtain ⟨S, q1, q2, q3, q4, hb, q5, w, q6, q7, q8, q9, q10, q11⟩ := Q
  exact ⟨S, w, q7, q8⟩
theorem r_Q.b5 {W K : Nat → Int64} {h : q_Hp} {u b : Nat} {B : q_Bk} {a l t s : Nat} (Q : r_Q W K h u b B a l t s) : qR h 1 5 = b := Q.2.2.2.2.2.2.1.1
theorem r_Q.M {W K : Nat → Int64} {h : q_Hp} {u b : Nat} {B : q_Bk} {a l t s : Nat} (Q : r_Q W K h u b B a l t s) : r_M h := Q.2.2.2.2.1
theorem r_M.fr {h h' : q_Hp} (M : r_M h) (e1 : qI h' 601 14 = qI h 601 14) (e2 : qI h' 601 15 = qI h 601 15) (e3 : qI h' 630 95 = qI h 630 95) (e4 : qI h' 630 96 = qI h 630 96) (e5 : qA h' 608 = qA h 608) (e6 : qA h' 609 = qA h 609) (e7 : qA h' 697 = qA h 697) (e8 : qA h' 698 = qA h 698) : r_M h' := by
  unfold r_M
  rw [e1, e2, e3, e4, e5, e6, e7, e8]
  exact M
/-- .. of the class's alone -/
theorem r_Q.fa {W K : Nat → Int64} {h h' : q_Hp} {u b : Nat} {B : q_Bk} {a l t s : Nat} (Q : r_Q W K h u b B a l t s) (e : m_fa h h') : r_Q W K h' u b B a l t s := by
  have e0 : qI h' 630 = qI h 630 := e.I (by decide)
  exact Q.st (e.1.wide (by decide)) (fun j _ => congrFun e0 j) (Q.M.fr e.2.1 e.2.2 (congrFun e0 95) (congrFun e0 96) (e.A (by decide)) (e.A (by decide)) (e.A (by decide)) (e.A (by decide)))
/-- .. of the reference's alone -/
theorem r_Q.fn {W K : Nat → Int64} {h h' : q_Hp} {u b : Nat} {B : q_Bk} {a l t s : Nat} (Q : r_Q W K h u b B a l t s) (e : n_fr h h') : r_Q W K h' u b B a l t s := by
  have e0 : qI h' 601 = qI h 601 := e.I (by decide)
  exact Q.st (e.1.wide (by decide)) (fun j hj => e.2 j (by omega)) (Q.M.fr (congrFun e0 14) (congrFun e0 15) (e.2 95 (by decide)) (e.2 96 (by decide)) (e.A (by decide)) (e.A (by decide)) (e.A (by decide)) (e.A (by decide)))
theorem r_matches {W K : Nat → Int64} {u : Nat} {x : Int32} : r_I W K 222 322 [.int x] u u := by
  rintro h R
  obtain ⟨b, B, a, l, t, s, Q⟩ := R
  have w := Q.cX.2.2.1
  have h20 : bN B 2 ≤ 20 := w.2.2.1
  refine (s222 Q.cX Q.b5).mono (by decide) ?_
  rintro z h1 ⟨e1, hz⟩
  have Q1 := Q.fa e1
  have f1 : qA h1 691 = qA h 691 := e1.A (by decide)
  refine (s322 Q1.nX).mono (by decide) ?_
  rintro z' h2 ⟨e2, hz'⟩
  refine ⟨?_, b, B, a, l, t, s, Q1.fn e2⟩
  rcases hz with ⟨c1, rfl⟩ | ⟨r, hr, rfl, rfl⟩
  · rcases hz' with ⟨_, rfl⟩ | ⟨r, hr, rfl, _⟩
    · rfl
    · rw [q_rgN hr (by omega)] at c1
      cases c1
  · rcases hz' with ⟨c1, _⟩ | ⟨r', hr', e3, rfl⟩
    · rw [q_rgN hr (by omega)] at c1
      cases c1
    · obtain rfl := (nI_eq (by omega) (by omega)).mp e3
      rw [f1, m_M_ext Q.cX.2.2.2.2.1 w (w.2.2.2.2.2.2.2.2.2.2 r hr)]
/-- the n-th match is one alone -/
theorem q_cnt_inj {p : Nat → Bool} {a b : Nat} (ha : p a = true) (hb : p b = true) (e : q_cnt p a = q_cnt p b) : a = b := by
  rcases Nat.lt_trichotomy a b with h | h | h
  · have := q_cnt_mono (p := p) (show a + 1 ≤ b from h)
    rw [q_cnt_s, ha, if_pos rfl] at this
    omega
  · exact h
  · have := q_cnt_mono (p := p) (show b + 1 ≤ a from h)
    rw [q_cnt_s, hb, if_pos rfl] at this
    omega
theorem q_cnt_top {p : Nat → Bool} {a n : Nat} (ha : p a = true) (h : a < n) : q_cnt p a < q_cnt p n := by
  have := q_cnt_mono (p := p) (show a + 1 ≤ n from h)
  rw [q_cnt_s, ha, if_pos rfl] at this
  omega
theorem r_match {W K : Nat → Int64} {u : Nat} {x y : Int32} : r_I W K 223 323 [.int x, .int y] u u := by
  rintro h R
  obtain ⟨b, B, a, l, t, s, Q⟩ := R
  have w := Q.cX.2.2.1
  have h20 : bN B 2 ≤ 20 := w.2.2.1
  have D := Q.cX.2.2.2.2.1
  refine (s223 Q.cX Q.b5).mono (by decide) ?_
  rintro z h1 hz
  have f1 : qA h1 691 = qA h 691 ∧ qI h1 630 = qI h 630 := by
    rcases hz with ⟨_, e, _⟩ | ⟨_, e, _⟩
    · exact ⟨e.A (by decide), e.I (by decide)⟩
    · exact ⟨e.A (by decide), e.I (by decide)⟩
  have NX : n_X h1 B (qA h 598) := by
    rcases hz with ⟨_, e, _⟩ | ⟨_, e, _⟩
    · exact Q.nX.fr e.1 rfl (fun i _ => congrFun f1.2 _)
    · exact Q.nX.fr e rfl (fun i _ => congrFun f1.2 _)
  refine (s323 NX).mono (by decide) ?_
  rintro z' h2 hz'
  have mx : ∀ r, r < bN B 2 → m_M B (qA h1 691) (bR B r) = m_M B (qA h 598) (bR B r) := by
    intro r hr
    rw [f1.1]
    exact m_M_ext D w (w.2.2.2.2.2.2.2.2.2.2 r hr)
  rcases hz with ⟨rfl, e1, c1⟩ | ⟨rfl, e1, r, v, hr, rfl, hv, hM, rfl, hd⟩
  · have Q1 := Q.fa e1
    rcases hz' with ⟨rfl, e2, c2⟩ | ⟨rfl, e2, r, v, hr, rfl, hv, hM, rfl, hd⟩
    · exact ⟨rfl, b, B, a, l, t, s, Q1.fn e2⟩
    · exfalso
      rw [mx r hr] at hM c1
      have hc := q_cnt_le (m_M B (qA h 598) (bR B r)) v
      have tp := m_top (w.2.2.2.2.2.2.2.2.2.2 r hr).1
      have hlt := q_cnt_top hM hv
      rcases c1 with c1 | ⟨r', i, hr', e3, hi, e4, c1⟩
      · rw [q_rgN hr (by omega), decide_eq_false (nI_pos (by omega))] at c1
        cases c1
      · obtain rfl := (nI_eq (by omega) (by omega)).mp e3
        have := (nI_eq (by omega) hi).mp e4
        omega
  · have hc := q_cnt_le (m_M B (qA h 598) (bR B r)) v
    have tp := m_top (w.2.2.2.2.2.2.2.2.2.2 r hr).1
    have hlt := q_cnt_top hM hv
    rcases hz' with ⟨rfl, e2, c2⟩ | ⟨rfl, ⟨e2, e2i⟩, r', v', hr', e3, hv', hM', e4, hd'⟩
    · exfalso
      rcases c2 with c1 | ⟨r', i, hr', e3, hi, e4, c1⟩
      · rw [q_rgN hr (by omega), decide_eq_false (nI_pos (by omega))] at c1
        cases c1
      · obtain rfl := (nI_eq (by omega) (by omega)).mp e3
        rw [mx r hr] at c1
        have := (nI_eq (by omega) hi).mp e4
        omega
    · obtain rfl := (nI_eq (by omega) (by omega)).mp e3
      rw [mx r hr] at hM' e4
      have hc' := q_cnt_le (m_M B (qA h 598) (bR B r)) v'
      obtain rfl := q_cnt_inj hM hM' ((nI_eq (by omega) (by omega)).mp e4)
      have wr := w.2.2.2.2.2.2.2.2.2.2 r hr
      refine ⟨rfl, b, B, a, l, t, s, Q.st ((e1.wide (by decide)).trans (e2.wide (by decide))) (fun j hj => (e2i j hj).trans (congrFun f1.2 j)) ?_⟩
      obtain ⟨L, m1, a1, a2, a3, a4⟩ := hd
      obtain ⟨L', m2, b1, b2, b3, b4⟩ := hd'
      rw [f1.1, m_ma_ext D w wr (fun i _ => m_im_lt)] at m2
      have hL : L = L' := by
        have h3 := m1.2.2.1
        rw [m2.2.2.1] at h3
        cases h3
        rfl
      subst hL
      have g1 : qI h2 601 = qI h1 601 := e2.I (by decide)
      have g2 : qA h2 608 = qA h1 608 := e2.A (by decide)
      have g3 : qA h2 609 = qA h1 609 := e2.A (by decide)
      refine ⟨bR B r 0 0, bR B r 0 1, wr.1, wr.2.1, by rw [g1]; exact a1, b1, by rw [g1]; exact a2, b2, fun i hi => ?_, fun i hi => ?_⟩
      · rw [g2, a3 i hi, b3 i hi]
      · rw [g3, a4 i hi, b4 i hi]
