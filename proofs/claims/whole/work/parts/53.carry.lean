/-! THE REWRITER: a rule is carried out, at its first match -/
def m_th (h : q_Hp) (x y : Nat) : Prop := (x < 4 ∧ qA h 602 x = nI y) ∨ (4 ≤ x ∧ x < 12 ∧ qA h 612 (x - 4) = nI y)
theorem s125 {h : q_Hp} {x y : Nat} (S : q_Sh h) (hx : m_th h x y) : q_mI 2 125 [.ref 610, .int (nI x)] h (fun z h' => h' = h ∧ z = nI y) := by
  refine q_mI.of (q_recV rfl (S.ok rfl)) (fun Q fin => ?_)
  rcases hx with ⟨h1, h2⟩ | ⟨h1, h2, h3⟩
  · refine b125_0 (fun c => absurd ((nI_gec (k := 4) (by omega) (by decide) rfl).mp c) (by omega)) (fun _ => b125_5 (S.ok rfl) (S.ref (v := 601) rfl) (s110 S) (by decide) ?_)
    rintro z h4 ⟨e0, rfl⟩
    subst h4
    rw [c_at_n h1 (by decide), h2]
    exact b125_13 (b125_26 (fin _ _ ⟨rfl, rfl⟩))
  · refine b125_0 (fun _ => b125_16 (S.ok rfl) (S.ref (v := 612) rfl) (s232 (S.ok rfl) (S.len (n := 8) rfl) (by decide)) (by decide) ?_) (fun c => absurd ((nI_gec (k := 4) (by omega) (by decide) rfl).mpr h1) c)
    rintro z h4 ⟨e0, ez⟩
    subst h4
    rw [show nI x - 4 = nI (x - 4) from pk_sub (b := 4) h1, c_at_n (show x - 4 < 8 by omega) (by decide), h3] at ez
    subst ez
    exact b125_26 (fin _ _ ⟨rfl, rfl⟩)
theorem m_th.fr {h h' : q_Hp} {x y : Nat} (a : m_th h x y) (e1 : qA h' 602 = qA h 602) (e2 : qA h' 612 = qA h 612) : m_th h' x y := by
  unfold m_th
  rw [e1, e2]
  exact a
theorem qA_dropN {h : q_Hp} {c i : Nat} (hi : i < 12) (h1 : ¬ qA h c i = -1) : qA (d_dropN h c (nI i)) c = u_drN (qA h c) i ∧ ∀ x, ¬ x = c → qA (d_dropN h c (nI i)) x = qA h x := by
  unfold d_dropN
  have e : d_has (qA h c) (nI i) = true := by
    rw [d_has_n hi]
    simpa using h1
  rw [if_pos e, nI_clamp (by omega)]
  unfold u_drN
  refine ⟨by rw [qA_sAu, qA_sAu, qA_sAu], fun x hx => ?_⟩
  rw [q_sA_wA, qA_wA_ne hx, q_sA_wA, qA_wA_ne hx, q_sA_wA, qA_wA_ne hx]
theorem qA_dropL {h : q_Hp} {c i : Nat} (hi : i < 40) (h1 : ¬ qA h c (36 + i) = -1) : qA (d_dropL h c (nI i)) c = u_lnk (qA h c) i (-1) (-1) (-1) ∧ ∀ x, ¬ x = c → qA (d_dropL h c (nI i)) x = qA h x := by
  unfold d_dropL
  have e : d_hasL (qA h c) (nI i) = true := by
    rw [d_hasL_n hi]
    simpa using h1
  rw [if_pos e, nI_clamp (by omega)]
  refine ⟨qA_lnk3 _ _ _ _ _ _, fun x hx => ?_⟩
  unfold d_lnk3
  rw [q_sA_wA, qA_wA_ne hx, q_sA_wA, qA_wA_ne hx, q_sA_wA, qA_wA_ne hx]
theorem q_Ef.dropN {S : List Nat} {h : q_Hp} {c : Nat} {x : Int32} (e : c ∈ S) : q_Ef S h (d_dropN h c x) := by
  unfold d_dropN
  split
  · exact ((q_Ef.sA e).trans (q_Ef.sA e)).trans (q_Ef.sA e)
  · exact q_Ef.rf
theorem q_Ef.lnk3 {S : List Nat} {h : q_Hp} {c j : Nat} {s f t : Int32} (e : c ∈ S) : q_Ef S h (d_lnk3 h c j s f t) := ((q_Ef.sA e).trans (q_Ef.sA e)).trans (q_Ef.sA e)
theorem q_Ef.dropL {S : List Nat} {h : q_Hp} {c : Nat} {x : Int32} (e : c ∈ S) : q_Ef S h (d_dropL h c x) := by
  unfold d_dropL
  split
  · exact q_Ef.lnk3 e
  · exact q_Ef.rf
theorem q_Ef.dput {S : List Nat} {h : q_Hp} {c : Nat} {x k v : Int32} (e : c ∈ S) : q_Ef S h (d_put h c x k v) := by
  unfold d_put
  split
  · split
    · exact q_Ef.sA e
    · split
      · exact q_Ef.sA e
      · exact q_Ef.rf
  · exact q_Ef.rf
theorem qA_dput {h : q_Hp} {c i k : Nat} {v : Int32} (hi : i < 12) (hk : k < 2) (h1 : ¬ qA h c i = -1) : qA (d_put h c (nI i) (nI k) v) c = upd (qA h c) (12 * (k + 1) + i) v ∧ ∀ x, ¬ x = c → qA (d_put h c (nI i) (nI k) v) x = qA h x := by
  unfold d_put
  have e : d_has (qA h c) (nI i) = true := by
    rw [d_has_n hi]
    simpa using h1
  rw [if_pos e, nI_clamp (by omega)]
  rcases (show k = 0 ∨ k = 1 by omega) with rfl | rfl
  · rw [if_pos (show nI 0 = 0 from rfl)]
    exact ⟨qA_sAu _ _ _ _, fun x hx => by rw [q_sA_wA, qA_wA_ne hx]⟩
  · rw [if_neg (show ¬ nI 1 = 0 by decide), if_pos (show nI 1 = 1 from rfl)]
    exact ⟨qA_sAu _ _ _ _, fun x hx => by rw [q_sA_wA, qA_wA_ne hx]⟩
theorem s124 {h : q_Hp} {o d : Nat} {V : Nat → Nat → Nat} {L : List Nat} {val : Nat → Int32} {f : Nat → Int32} {th : Nat → Nat} (S : q_Sh h) (ho : q_isO o) (C : r_cR h o V) (hd : d < V 0 4) (h8 : V 0 4 ≤ 8) (hk : V 13 d < 5) (ef : qA h 598 = f)
    (p0 : V 13 d = 0 → V 14 d < 4 ∧ m_th h (V 14 d) (th (V 14 d)) ∧ th (V 14 d) < 12 ∧ ¬ f (th (V 14 d)) = -1)
    (p1 : V 13 d = 1 → V 14 d < 6 ∧ qA h 603 (V 14 d) = nI (L.getD (V 14 d) 0) ∧ L.getD (V 14 d) 0 < 40 ∧ ¬ f (36 + L.getD (V 14 d) 0) = -1)
    (p2 : V 13 d = 2 → 4 ≤ V 14 d ∧ V 14 d < 12 ∧ ∃ i, d_free f 0 12 = some i ∧ i < 12)
    (p3 : V 13 d = 3 → V 14 d < 12 ∧ V 16 d < 12 ∧ m_th h (V 14 d) (th (V 14 d)) ∧ m_th h (V 16 d) (th (V 16 d)) ∧ ∃ i, d_free f 36 40 = some i)
    (p4 : V 13 d = 4 → V 14 d < 12 ∧ m_th h (V 14 d) (th (V 14 d)) ∧ th (V 14 d) < 12 ∧ ¬ f (th (V 14 d)) = -1 ∧ V 15 d < 2 ∧ qA h 611 d = val d) :
    q_mV 3 124 [.ref 610, .ref o, .int (nI d)] h (fun h' => q_Ef [598, 612] h h' ∧ qA h' 598 = (m_do V L val d (f, th)).1 ∧ (∀ x y, m_th h x y → ¬ (V 13 d = 2 ∧ x = V 14 d) → m_th h' x y) ∧ (V 13 d = 2 → m_th h' (V 14 d) ((m_do V L val d (f, th)).2 (V 14 d)))) := by
  have hol := ho.le
  obtain ⟨c13, c14, c15, c16, c17⟩ := C.2.2.2.2.2.2.1 d hd
  refine q_mV.of (q_recV rfl (S.ok rfl)) (fun Q fin => ?_)
  have call : ∀ j, j < 13 → o_len j = 8 → q_mI 0 232 [.ref (o + 1 + j), .int (nI d)] h (fun z h' => h' = h ∧ z = qA h (o + 1 + j) d) := by
    intro j hj hl
    have := s232 (x := nI d) (S.oa ho j hj).1 (S.oa ho j hj).2 (by rw [hl]; decide)
    rw [c_at_n (show d < o_len j by omega) (by rw [hl]; decide)] at this
    exact this
  refine b124_0 (S.oo ho) (S.orr ho 8 (by decide)) (call 8 (by decide) rfl) (by decide) ?_
  rintro z h1 ⟨e0, rfl⟩
  subst h1
  rw [show qA h (o + 1 + 8) d = nI (V 14 d) from c14]
  refine b124_8 (S.oo ho) (S.orr ho 9 (by decide)) (call 9 (by decide) rfl) (by decide) ?_
  rintro x4 h1 ⟨e0, e15⟩
  subst h1
  refine b124_17 (S.oo ho) (S.orr ho 7 (by decide)) (call 7 (by decide) rfl) (by decide) ?_
  rintro z h1 ⟨e0, e13⟩
  subst h1
  rw [show qA h (o + 1 + 7) d = _ from c13] at e13
  have s98 : d < 8 := by omega
  rcases (show V 13 d = 0 ∨ V 13 d = 1 ∨ V 13 d = 2 ∨ V 13 d = 3 ∨ V 13 d = 4 by omega) with k9 | k9 | k9 | k9 | k9
  · obtain ⟨q0, q1, q2, q3⟩ := p0 k9
    have e602 : qA h 602 (V 14 d) = nI (th (V 14 d)) := by
      rcases q1 with h1 | h1
      · exact h1.2
      · omega
    rw [k9] at e13
    have e13 : z = 11 := e13
    refine b124_27 (fun c => absurd (e13 ▸ c) (by decide)) (fun c => absurd (e13 ▸ c) (by decide)) (fun c => absurd (e13 ▸ c) (by decide)) (fun c => absurd (e13 ▸ c) (by decide)) (fun _ => ?_) (fun c => absurd (e13 ▸ c) (by decide)) (fun c => absurd (e13 ▸ c) (by decide)) (fun c => absurd (e13 ▸ c) (by decide))
    refine b124_68 (S.ok rfl) (S.ref (v := 597) rfl) (S.ref (v := 601) rfl) (s110 S) (by decide) ?_
    rintro z h1 ⟨e0, rfl⟩
    subst h1
    rw [c_at_n q0 (by decide), e602]
    refine b124_80 (s79 S.dg) (by decide) ?_
    rintro h1 rfl
    have qd := qA_dropN (h := h) (c := 598) q2 (by rw [ef]; exact q3)
    refine b124_83 (b124_178 (fin _ ⟨q_Ef.dropN (by decide), ?_, fun x y a _ => a.fr (qd.2 602 (by decide)) (qd.2 612 (by decide)), fun h9 => by omega⟩))
    rw [qd.1, ef]
    unfold m_do
    rw [if_pos k9]
  · obtain ⟨q0, q1, q2, q3⟩ := p1 k9
    rw [k9] at e13
    have e13 : z = 7 := e13
    refine b124_27 (fun _ => ?_) (fun c => absurd (e13 ▸ c) (by decide)) (fun c => absurd (e13 ▸ c) (by decide)) (fun c => absurd (e13 ▸ c) (by decide)) (fun c => absurd (e13 ▸ c) (by decide)) (fun c => absurd (e13 ▸ c) (by decide)) (fun c => absurd (e13 ▸ c) (by decide)) (fun c => absurd (e13 ▸ c) (by decide))
    refine b124_86 (S.ok rfl) (S.ref (v := 597) rfl) (S.ref (v := 601) rfl) (s111 S) (by decide) ?_
    rintro z h1 ⟨e0, rfl⟩
    subst h1
    rw [c_at_n q0 (by decide), q1]
    refine b124_98 (s80 S.dg) (by decide) ?_
    rintro h1 rfl
    have qd := qA_dropL (h := h) (c := 598) q2 (by rw [ef]; exact q3)
    refine b124_101 (b124_178 (fin _ ⟨q_Ef.dropL (by decide), ?_, fun x y a _ => a.fr (qd.2 602 (by decide)) (qd.2 612 (by decide)), fun h9 => by omega⟩))
    rw [qd.1, ef]
    unfold m_do
    rw [if_neg (by omega), if_pos k9]
  · obtain ⟨q0, q1, i, q2, q3⟩ := p2 k9
    rw [k9] at e13
    have e13 : z = 12 := e13
    have e15' : x4 = nI (V 15 d) := e15.trans (c15 (by omega))
    subst e15'
    refine b124_27 (fun c => absurd (e13 ▸ c) (by decide)) (fun c => absurd (e13 ▸ c) (by decide)) (fun c => absurd (e13 ▸ c) (by decide)) (fun c => absurd (e13 ▸ c) (by decide)) (fun c => absurd (e13 ▸ c) (by decide)) (fun _ => ?_) (fun c => absurd (e13 ▸ c) (by decide)) (fun c => absurd (e13 ▸ c) (by decide))
    refine b124_104 (S.ok rfl) (S.ref (v := 612) rfl) (S.ref (v := 597) rfl) (s77 S.dg) (by decide) ?_
    rintro z h1 ⟨rfl, e1⟩
    rw [ef, q2] at e1
    have e1 : h1 = q_sA h 598 i (nI (V 15 d)) := e1
    subst e1
    rw [ef, q2]
    have S1 : q_Sh (q_sA h 598 i (nI (V 15 d))) := S
    refine b124_120 (s233 (S1.ok rfl) (S1.len (n := 8) rfl) (by decide)) (by decide) ?_
    rintro h1 rfl
    rw [show nI (V 14 d) - 4 = nI (V 14 d - 4) from pk_sub (b := 4) q0, c_set_in (show V 14 d - 4 < 8 by omega) (by decide)]
    have w1 : qA (q_sA (q_sA h 598 i (nI (V 15 d))) 612 (V 14 d - 4) (q_on (some i))) 612 = upd (qA h 612) (V 14 d - 4) (nI i) := qA_sAu _ _ _ _
    have w2 : qA (q_sA (q_sA h 598 i (nI (V 15 d))) 612 (V 14 d - 4) (q_on (some i))) 598 = upd (qA h 598) i (nI (V 15 d)) := qA_sAu h _ _ _
    have em : m_do V L val d (f, th) = (upd f i (nI (V 15 d)), m_ut th (V 14 d) i) := by
      unfold m_do
      rw [if_neg (by omega), if_neg (by omega), if_pos k9, q2]
    refine b124_123 (b124_178 (fin _ ⟨(q_Ef.sA (by decide)).trans (q_Ef.sA (by decide)), ?_, fun x y a h9 => ?_, fun _ => Or.inr ⟨q0, q1, ?_⟩⟩))
    · rw [w2, ef, em]
    · rcases a with h1 | ⟨h1, h2, h3⟩
      · exact Or.inl h1
      · refine Or.inr ⟨h1, h2, ?_⟩
        rw [w1, upd_ne (by omega)]
        exact h3
    · rw [w1, upd_eq, em]
      show nI i = nI (m_ut th (V 14 d) i (V 14 d))
      unfold m_ut
      rw [if_pos rfl]
  · obtain ⟨q0, q1, q2, q3, i, q4⟩ := p3 k9
    rw [k9] at e13
    have e13 : z = 13 := e13
    have e15' : x4 = nI (V 15 d) := e15.trans (c15 (by omega))
    subst e15'
    refine b124_27 (fun c => absurd (e13 ▸ c) (by decide)) (fun c => absurd (e13 ▸ c) (by decide)) (fun c => absurd (e13 ▸ c) (by decide)) (fun c => absurd (e13 ▸ c) (by decide)) (fun c => absurd (e13 ▸ c) (by decide)) (fun c => absurd (e13 ▸ c) (by decide)) (fun _ => ?_) (fun c => absurd (e13 ▸ c) (by decide))
    refine b124_126 (S.ok rfl) (S.ref (v := 597) rfl) (s125 S q2) (by decide) ?_
    rintro z h1 ⟨e0, rfl⟩
    subst h1
    refine b124_137 (S.oo ho) (S.orr ho 10 (by decide)) (call 10 (by decide) rfl) (by decide) ?_
    rintro z h1 ⟨e0, rfl⟩
    subst h1
    rw [show qA h (o + 1 + 10) d = _ from c16 k9]
    refine b124_146 (s125 S q3) (by decide) ?_
    rintro z h1 ⟨e0, rfl⟩
    subst h1
    refine b124_149 (s78 S.dg) (by decide) ?_
    rintro z h1 ⟨rfl, e1⟩
    rw [ef, q4] at e1
    have e1 : h1 = d_lnk3 h 598 i (nI (V 15 d)) (nI (th (V 14 d))) (nI (th (V 16 d))) := e1
    subst e1
    have em : m_do V L val d (f, th) = (u_lnk f i (nI (V 15 d)) (nI (th (V 14 d))) (nI (th (V 16 d))), th) := by
      unfold m_do
      rw [if_neg (by omega), if_neg (by omega), if_neg (by omega), if_pos k9, q4]
    refine b124_152 (b124_178 (fin _ ⟨q_Ef.lnk3 (by decide), ?_, fun x y a _ => a.fr rfl rfl, fun h9 => by omega⟩))
    rw [qA_lnk3, ef, em]
  · obtain ⟨q0, q1, q2, q3, q4, q5⟩ := p4 k9
    rw [k9] at e13
    have e13 : z = 14 := e13
    have e15' : x4 = nI (V 15 d) := e15.trans (c15 (by omega))
    subst e15'
    refine b124_27 (fun c => absurd (e13 ▸ c) (by decide)) (fun c => absurd (e13 ▸ c) (by decide)) (fun c => absurd (e13 ▸ c) (by decide)) (fun c => absurd (e13 ▸ c) (by decide)) (fun c => absurd (e13 ▸ c) (by decide)) (fun c => absurd (e13 ▸ c) (by decide)) (fun c => absurd (e13 ▸ c) (by decide)) (fun _ => ?_)
    refine b124_156 (S.ok rfl) (S.ref (v := 597) rfl) (s125 S q1) (by decide) ?_
    rintro z h1 ⟨e0, rfl⟩
    subst h1
    refine b124_165 (S.ok rfl) (S.ref (v := 611) rfl) (s232 (S.ok rfl) (S.len (n := 8) rfl) (by decide)) (by decide) ?_
    rintro z h1 ⟨e0, rfl⟩
    subst h1
    rw [c_at_n s98 (by decide), q5]
    refine b124_175 (s67 S.dg) (by decide) ?_
    rintro h1 rfl
    have qd := qA_dput (h := h) (c := 598) (v := val d) q2 q4 (by rw [ef]; exact q3)
    have em : m_do V L val d (f, th) = (upd f (12 * (V 15 d + 1) + th (V 14 d)) (val d), th) := by
      unfold m_do
      rw [if_neg (by omega), if_neg (by omega), if_neg (by omega), if_neg (by omega)]
    refine b124_178 (fin _ ⟨q_Ef.dput (by decide), ?_, fun x y a _ => a.fr (qd.2 602 (by decide)) (qd.2 612 (by decide)), fun h9 => by omega⟩)
    rw [qd.1, ef, em]
/-- the rule may be applied -/
def m_okd (B : q_Bk) (f : Nat → Int32) (im : Nat → Nat) (V : Nat → Nat → Nat) : Prop := m_wk B f im V ∧ m_rm f V
theorem q_nd_lt {B : q_Bk} {V : Nat → Nat → Nat} {d x : Nat} (wr : q_wR B V) (hd : d ≤ V 0 4) (h : q_nd V d x) : x < 12 := by
  have h4 : V 0 0 ≤ 4 := wr.1
  rcases h with ⟨h1, _⟩ | ⟨e, h1, h2, h3⟩
  · omega
  · have := (wr.2.2.2.2.2.2.2.2.2.2 e (by omega)).2.2.2.1 h2
    omega
theorem m_iv_room {B : q_Bk} {V : Nat → Nat → Nat} {im : Nat → Nat} {L : List Nat} {f0 f g : Nat → Int32} {th : Nat → Nat} {d : Nat} (rm : m_rm f0 V) (hd : d < V 0 4) (iv : m_iv B V im L f0 d f g th) : (V 13 d = 2 → ∃ i, d_free f 0 12 = some i ∧ i < 12) ∧ (V 13 d = 3 → ∃ i, d_free f 36 40 = some i ∧ i < 40) := by
  obtain ⟨D, c1, c2, c3, c4, c5, c6, c7⟩ := iv
  have rmd := rm d hd
  constructor
  · intro k2
    rw [m_cn_y k2, m_cn_n (show ¬ V 13 d = 0 by omega)] at rmd
    obtain ⟨i, ei, hi12, hfi⟩ := d_free_y (f := f) (b := 0) (n := 12) (by
      have h1 : q_cnt (fun i => !(f (0 + i) == -1)) 12 = d_nodes f := by
        unfold d_nodes
        exact q_cnt_ext (fun i _ => by rw [Nat.zero_add])
      rw [h1]
      omega)
    exact ⟨i, ei, hi12⟩
  · intro k3
    rw [m_cn_y k3, m_cn_n (show ¬ V 13 d = 1 by omega)] at rmd
    obtain ⟨i, ei, hi40, hfi⟩ := d_free_y (f := f) (b := 36) (n := 40) (by
      show d_links f < 40
      omega)
    exact ⟨i, ei, hi40⟩
/-- frame of the carrying out -/
def m_fc (h h' : q_Hp) : Prop := q_Ef [598, 601, 607, 611, 612] h h' ∧ qR h' 601 = qR h 601 ∧ ∀ j, ¬ (j = 5 ∨ j = 11) → qI h' 601 j = qI h 601 j
theorem s121 {h : q_Hp} {b o : Nat} {B : q_Bk} {V : Nat → Nat → Nat} {k : Nat → Int32} {im : Nat → Nat} {L : List Nat} (A : m_A h b o B V k) (hn : m_nd h (V 0 0) im) (ma : m_ma B (qA h 598) im V L) (hL : ∀ i, i < V 0 1 → qA h 603 i = nI (L.getD i 0)) : q_mI 4 121 [.ref 610] h (fun z h' => m_fc h h' ∧ ((z = 1 ∧ m_okd B (qA h 598) im V ∧ qA h' 598 = (m_fd V L (m_vl B (qA h 598) im V) (qA h 598) im (V 0 4)).1) ∨ (z = 0 ∧ ¬ m_okd B (qA h 598) im V ∧ qA h' 598 = qA h 598))) := by
  have S := A.1.1
  have ho := A.1.2.2.1
  have hol := ho.le
  have w := A.2.1
  have wr := A.2.2.1
  have D := A.2.2.2.2.2.1
  have h4 : V 0 0 ≤ 4 := wr.1
  have h6 : V 0 1 ≤ 6 := wr.2.1
  have h8 : V 0 4 ≤ 8 := wr.2.2.2.2.1
  have hi : ∀ i, i < V 0 0 → im i < 12 := fun i h => (hn i h).2
  refine q_mI.of (q_recV rfl (S.ok rfl)) (fun Q fin => ?_)
  refine b121_0 (S.ok rfl) (S.ref (v := 601) rfl) (s109 S A.1.2.2.2.2) (by decide) ?_
  rintro z h1 ⟨e0, ez⟩
  subst h1
  rw [ez]
  refine b121_7 (s122 A hn) (by decide) ?_
  rintro z h1 ⟨e1, hz⟩
  have e1' : m_fc h h1 := ⟨e1.1.wide (by decide), e1.2⟩
  have f1 : qA h1 598 = qA h 598 := e1.1.A (by decide)
  rcases hz with ⟨rfl, wk, vals⟩ | ⟨rfl, wk⟩
  · have A1 := A.of e1.1 rfl e1.2.1
    have S1 := A1.1.1
    have C1 := A1.2.2.2.2.1
    refine b121_13 (fun h9 => absurd h9 (by decide)) (fun _ => b121_16 (s123 S1 ho C1 h8 (fun d hd => (wr.2.2.2.2.2.2.2.2.2.2 d hd).1)) (by decide) ?_)
    rintro z h2 ⟨e0, rfl⟩
    subst h2
    rw [f1]
    refine b121_21 (fun c1 => b121_26 ?_) (fun c1 => b121_24 (fin _ _ ⟨e1', Or.inr ⟨rfl, fun h9 => m_dc_f.mp (b2i_eq.mp c1) h9.2, f1⟩⟩))
    have rm := m_dc_t.mp (b2i_ne.mp c1)
    have iva := m_iv_all (val := m_vl B (qA h 598) im V) D w wr hi ma rm
    have g2 := m_gl_get _ _ ma.2.2.1
    have loop : ∀ m d h2, d + m = V 0 4 → q_Ef [598, 612] h1 h2 → qA h2 598 = (m_fd V L (m_vl B (qA h 598) im V) (qA h 598) im d).1 → (∀ x, q_nd V d x → m_th h2 x ((m_fd V L (m_vl B (qA h 598) im V) (qA h 598) im d).2 x)) → q_wp 4 121 28 [some (.ref 610), some (.ref o), some (.int (nI d))] [] h2 Q := by
      intro m
      induction m with
      | zero =>
        intro d h2 hd e ef eth
        obtain rfl : d = V 0 4 := by omega
        have S2 := e.sh S1
        have C2 := C1.fr (h' := h2) (fun a h1 h2 => e.A (by simp only [List.mem_cons, List.not_mem_nil, or_false]; omega)) (e.I (by simp only [List.mem_cons, List.not_mem_nil, or_false]; omega))
        refine b121_28 (S2.oo ho) (fun _ => b121_54 (fin _ _ ⟨⟨e1'.1.trans (e.wide (by decide)), (e.R (by decide)).trans e1'.2.1, fun j hj => (congrFun (e.I (by decide)) j).trans (e1'.2.2 j hj)⟩, Or.inl ⟨rfl, ⟨wk, rm⟩, ef⟩⟩)) (fun h9 => absurd (by rw [C2.1 4 (by decide)]; exact Int32.le_refl _) h9)
      | succ m ih =>
        intro d h2 hd e ef eth
        have S2 := e.sh S1
        have C2 := C1.fr (h' := h2) (fun a h1 h2 => e.A (by simp only [List.mem_cons, List.not_mem_nil, or_false]; omega)) (e.I (by simp only [List.mem_cons, List.not_mem_nil, or_false]; omega))
        have eI : qI h2 o 4 = nI (V 0 4) := C2.1 4 (by decide)
        obtain ⟨iv, _⟩ := iva d (by omega)
        have room := m_iv_room rm (by omega) iv
        obtain ⟨w1, w2, w3, w4, w5, w6⟩ := wr.2.2.2.2.2.2.2.2.2.2 d (by omega)
        have e603 : qA h2 603 = qA h 603 := (e.A (by decide)).trans (e1.1.A (by decide))
        have e611 : qA h2 611 = qA h1 611 := e.A (by decide)
        have nd := fun x hx => eth x hx
        have c2 := iv.2.2.1
        refine b121_28 (S2.oo ho) (fun h9 => absurd ((nI_leI (by omega) (by omega)).mp (eI ▸ h9)) (by omega)) (fun _ => b121_36 (fun h9 => absurd ((nI_gec (k := 8) (by omega) (by decide) rfl).mp h9) (by omega)) (fun _ => b121_42 (s124 (L := L) (val := m_vl B (qA h 598) im V) (th := (m_fd V L (m_vl B (qA h 598) im V) (qA h 598) im d).2) S2 ho C2 (by omega) h8 w1 ef (fun k9 => ?_) (fun k9 => ?_) (fun k9 => ?_) (fun k9 => ?_) (fun k9 => ?_)) (by decide) ?_))
        · obtain ⟨x1, x2, x3, x4⟩ := w2 k9
          have sx : q_nd V d (V 14 d) := Or.inl ⟨x1, x2⟩
          exact ⟨by omega, nd _ sx, (c2 _ sx).1, (c2 _ sx).2⟩
        · obtain ⟨x1, x2⟩ := w3 k9
          exact ⟨by omega, by rw [e603]; exact hL _ x1, (g2.2.1 _ x1).1, iv.2.2.2.2.2.1 _ x1 (fun e he h => x2 e he h)⟩
        · obtain ⟨x1, x2, x3, x4⟩ := w4 k9
          exact ⟨x1, x2, room.1 k9⟩
        · obtain ⟨x1, x2, x3⟩ := w5 k9
          obtain ⟨i, ei, _⟩ := room.2 k9
          exact ⟨q_nd_lt wr (by omega) x1, q_nd_lt wr (by omega) x3, nd _ x1, nd _ x3, i, ei⟩
        · obtain ⟨x1, x2, x3⟩ := w6 k9
          exact ⟨q_nd_lt wr (by omega) x1, nd _ x1, (c2 _ x1).1, (c2 _ x1).2, x2, by rw [e611]; exact vals d (by omega) k9⟩
        · rintro h3 ⟨e3, ef3, t1, t2⟩
          refine b121_48 ?_
          rw [nI_1]
          refine ih (d + 1) h3 (by omega) (e.trans e3) ef3 (fun x hx => ?_)
          by_cases h9 : V 13 d = 2 ∧ x = V 14 d
          · rw [h9.2]
            exact t2 h9.1
          · rcases q_nd_s hx with h7 | h7
            · have h5 : (m_fd V L (m_vl B (qA h 598) im V) (qA h 598) im (d + 1)).2 x = (m_fd V L (m_vl B (qA h 598) im V) (qA h 598) im d).2 x := by
                show (m_do V L _ d (m_fd V L (m_vl B (qA h 598) im V) (qA h 598) im d)).2 x = _
                unfold m_do
                split
                · rfl
                · split
                  · rfl
                  · split
                    · next k9 =>
                      split
                      · exact if_neg (fun h3 => h9 ⟨k9, h3⟩)
                      · rfl
                    · split
                      · split <;> rfl
                      · rfl
              rw [h5]
              exact t1 x _ (nd x h7) h9
            · exact absurd ⟨h7.1, h7.2.symm⟩ h9
    refine loop (V 0 4) 0 h1 (by omega) q_Ef.rf f1 (fun x hx => ?_)
    have hx4 : x < V 0 0 := by
      rcases hx with h9 | ⟨e, h9, _⟩
      · exact h9.1
      · exact absurd h9 (Nat.not_lt_zero _)
    refine Or.inl ⟨by omega, ?_⟩
    rw [e1.1.A (show 602 ∉ [601, 607, 611] by decide)]
    exact (hn x hx4).1
  · refine b121_13 (fun _ => b121_24 (fin _ _ ⟨e1', Or.inr ⟨rfl, fun h9 => wk h9.1, f1⟩⟩)) (fun h9 => absurd rfl h9)
