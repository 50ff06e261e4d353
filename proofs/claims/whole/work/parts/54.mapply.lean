/-! THE REFERENCE: a rule is carried out -/
def n_fc (h h' : q_Hp) : Prop := q_Ef [630, 691, 699, 700, 701] h h' ∧ ∀ j, ¬ j = 99 → qI h' 630 j = qI h 630 j
def n_fv (h h' : q_Hp) : Prop := q_Ef [630, 699, 700] h h' ∧ ∀ j, ¬ j = 99 → qI h' 630 j = qI h 630 j
theorem n_fv.rf {h : q_Hp} : n_fv h h := ⟨q_Ef.rf, fun _ _ => rfl⟩
theorem n_fv.trans {h h1 h2 : q_Hp} (a : n_fv h h1) (b : n_fv h1 h2) : n_fv h h2 := ⟨a.1.trans b.1, fun j hj => (b.2 j hj).trans (a.2 j hj)⟩
theorem n_312v {h : q_Hp} {im : Nat → Nat} {B : q_Bk} {V : Nat → Nat → Nat} {f : Nat → Int32} {s : Nat} (X : n_X h B f) (hN : V 0 0 ≤ 4) (hn : n_nd h (V 0 0) im) (sm : q_sm B V s) : q_mI 1 312 [.ref 630, .int (nI (V 11 s)), .int (nI (V 12 s))] h (fun z h' => n_fv h h' ∧ qA h' 700 = qA h 700 ∧ ((qI h' 630 99 = 0 ∧ m_sv B f im V s = some [z]) ∨ (qI h' 630 99 = 1 ∧ m_sv B f im V s = none ∧ z = 0))) := by
  refine (s312 X.1 X.2.1 X.2.2.1 sm.1 sm.2.1 hN hn sm.2.2).mono (Nat.le_refl _) ?_
  rintro z h' ⟨g, v, rfl, h1⟩
  have e := m_sv_ext X.2.2.2.1 (fun i hi => (hn i hi).2) sm
  unfold m_sv at e
  refine ⟨⟨(q_Ef.wA (by decide)).trans (q_Ef.sI (by decide)), fun j hj => qI_sI_nj (by omega)⟩, rfl, ?_⟩
  unfold m_sv
  rw [← e]
  rcases h1 with ⟨h2, h3⟩ | ⟨h2, h3, h4⟩
  · exact Or.inl ⟨h2, h3⟩
  · exact Or.inr ⟨h2, h3, h4⟩
theorem d_cnt_eq {T S : Nat} {f g : Nat → Int32} (D : q_dr T S f g) : d_nodes g = d_nodes f ∧ d_links g = d_links f :=
  ⟨q_cnt_ext (fun i hi => by rw [D.2.2.1 i (by omega)]), q_cnt_ext (fun i hi => by rw [D.2.2.1 (36 + i) (by omega)])⟩
theorem qA_sAn {h : q_Hp} {c i x : Nat} {v : Int32} (hx : ¬ x = c) : qA (q_sA h c i v) x = qA h x := q_up_ne hx
theorem n_do_th {V : Nat → Nat → Nat} {L : List Nat} {val : Nat → Int32} {d x : Nat} {s : (Nat → Int32) × (Nat → Nat)} (h : ¬ (V 13 d = 2 ∧ x = V 14 d)) : (n_do V L val d s).2 x = s.2 x := by
  unfold n_do
  split
  · rfl
  · split
    · rfl
    · split
      · next k9 =>
        split
        · exact if_neg (fun h3 => h ⟨k9, h3⟩)
        · rfl
      · split
        · split <;> rfl
        · rfl
theorem s326 {h : q_Hp} {im : Nat → Nat} {B : q_Bk} {r : Nat} {f : Nat → Int32} {L : List Nat} (X : n_X h B f) (hr : r < bN B 2) (hn : n_nd h (bR B r 0 0) im) (ma : m_ma B f im (bR B r) L) (hL : n_lk h (bR B r 0 1) L) : q_mI 3 326 [.ref 630, .int (nI r)] h (fun z h' => n_fc h h' ∧ ((z = 1 ∧ m_okd B f im (bR B r) ∧ qA h' 691 = (n_fd (bR B r) L (m_vl B f im (bR B r)) (qA h 691) im (bR B r 0 4)).1) ∨ (z = 0 ∧ ¬ m_okd B f im (bR B r) ∧ qA h' 691 = qA h 691))) := by
  have S := X.1
  have w := X.2.1
  have D := X.2.2.2
  have h20 : r < 20 := by have := w.2.2.1; omega
  have hT : bN B 0 ≤ 12 := w.1
  have hS : bN B 1 ≤ 12 := w.2.1
  have wr : q_wR B (bR B r) := w.2.2.2.2.2.2.2.2.2.2 r hr
  generalize hV : bR B r = V at *
  have h4 : V 0 0 ≤ 4 := wr.1
  have h6 : V 0 1 ≤ 6 := wr.2.1
  have h8 : V 0 4 ≤ 8 := wr.2.2.2.2.1
  have hi : ∀ i, i < V 0 0 → im i < 12 := fun i h => (hn i h).2
  have rk : (nI r).toNatClampNeg = r := nI_clamp (by omega)
  have n12 : d_nodes f ≤ 12 := q_cnt_le _ _
  have n40 : d_links f ≤ 40 := q_cnt_le _ _
  have ir : ∀ h', q_Sh h' → ∀ c, ((decide (c ≤ 712) && (q_kd0 c).2 == 40) = true) → q_in (nI r) (qK h' c).2 := fun h' S' c h9 => S'.inN (n := 40) h9 (by omega) (by decide)
  have ek : ∀ d, (8 : Int32) * nI r + nI d = nI (8 * r + d) := fun d => by rw [m_lt8, nI_add]
  have i3 : ∀ h' d, q_Sh h' → d < V 0 4 → ∀ c, ((decide (c ≤ 712) && (q_kd0 c).2 == 320) = true) → q_in (nI (8 * r + d)) (qK h' c).2 := fun h' d S' hd c h9 => S'.inN (n := 320) h9 (by omega) (by decide)
  have kk : ∀ d, d < V 0 4 → (nI (8 * r + d)).toNatClampNeg = 8 * r + d := fun d hd => nI_clamp (by omega)
  have row : ∀ h', (∀ x, 638 ≤ x → x ≤ 673 → qA h' x = qA h x) → r_mR h' r V := by
    intro h' e
    have := X.2.2.1.2.2.2.2.2.2 r hr
    rw [hV] at this
    exact this.fr e
  have e0 := row h (fun _ _ _ => rfl)
  refine q_mI.of (q_recV rfl (S.ok rfl)) (fun Q fin => ?_)
  have c0 : q_mI 0 296 [.ref 630, .int 0, .int 12] h (fun z h' => h' = h ∧ z = nI (d_nodes f)) := by
    have := s296 (b := 0) (k := 12) S (by decide)
    refine this.mono (Nat.le_refl _) ?_
    rintro z h' ⟨a, b⟩
    refine ⟨a, ?_⟩
    rw [b, ← (d_cnt_eq D.1).1]
    unfold d_nodes
    exact congrArg nI (q_cnt_ext (fun i _ => by rw [Nat.zero_add]))
  have c36 : q_mI 0 296 [.ref 630, .int 36, .int 40] h (fun z h' => h' = h ∧ z = nI (d_links f)) := by
    have := s296 (b := 36) (k := 40) S (by decide)
    refine this.mono (Nat.le_refl _) ?_
    rintro z h' ⟨a, b⟩
    refine ⟨a, ?_⟩
    rw [b, ← (d_cnt_eq D.1).2]
    rfl
  -- what is done
  have L4 : ∀ m d h1 h2 (x2 x3 : Int32) l5 l6, d + m = V 0 4 → m_okd B f im V → n_fv h h1 → (∀ e, e < V 0 4 → V 13 e = 4 → qA h1 700 e = m_vl B f im V e) → q_Ef [691, 701] h1 h2 → qA h2 691 = (n_fd V L (m_vl B f im V) (qA h 691) im d).1 → (∀ x, q_nd V d x → qA h2 701 x = nI ((m_fd V L (m_vl B f im V) f im d).2 x)) → q_wp 3 326 214 [some (.ref 630), some (.int (nI r)), some (.int x2), some (.int x3), some (.int (nI d)), l5, l6] [] h2 Q := by
    intro m
    induction m with
    | zero =>
      intro d h1 h2 x2 x3 l5 l6 hd ok e1 vals e2 ef eth
      obtain rfl : d = V 0 4 := by omega
      have S2 := e2.sh (e1.1.sh S)
      have R2 := row h2 (fun x a b => (e2.A (by simp only [List.mem_cons, List.not_mem_nil, or_false]; omega)).trans (e1.1.A (by simp only [List.mem_cons, List.not_mem_nil, or_false]; omega)))
      have e59 : qA h2 659 (nI r).toNatClampNeg = nI (V 0 4) := by rw [rk]; exact R2.2.2.2.2.1
      exact b326_214 (S2.ok rfl) (S2.ref (v := 659) rfl) (S2.ok rfl) (ir _ S2 _ rfl) (fun _ => b326_424 (fin _ _ ⟨⟨(e1.1.wide (by decide)).trans (e2.wide (by decide)), fun j hj => (congrFun (e2.I (by decide)) j).trans (e1.2 j hj)⟩, Or.inl ⟨rfl, ok, ef⟩⟩)) (fun h9 => absurd (by rw [e59]; exact Int32.le_refl _) h9)
    | succ m ih =>
      intro d h1 h2 x2 x3 l5 l6 hd ok e1 vals e2 ef eth
      have hd4 : d < V 0 4 := by omega
      have S2 := e2.sh (e1.1.sh S)
      have R2 := row h2 (fun x a b => (e2.A (by simp only [List.mem_cons, List.not_mem_nil, or_false]; omega)).trans (e1.1.A (by simp only [List.mem_cons, List.not_mem_nil, or_false]; omega)))
      have e59 : qA h2 659 (nI r).toNatClampNeg = nI (V 0 4) := by rw [rk]; exact R2.2.2.2.2.1
      obtain ⟨iv, ivt⟩ := m_iv_all (val := m_vl B f im V) D w wr hi ma ok.2 d (by omega)
      have room := m_iv_room ok.2 hd4 iv
      obtain ⟨w1, w2, w3, w4, w5, w6⟩ := wr.2.2.2.2.2.2.2.2.2.2 d hd4
      obtain ⟨m13, m14, m15, m16, m17⟩ := R2.2.2.2.2.2.2.2.2.2.2 d hd4
      have c2 := iv.2.2.1
      have c1 := iv.2.1
      have Dd := iv.1
      have e60 : qA h2 660 (((8 * nI r) + nI d : Int32).toNatClampNeg) = nI (V 13 d) := by rw [ek, kk d hd4]; exact m13
      have e61 : qA h2 661 (nI (8 * r + d)).toNatClampNeg = nI (V 14 d) := by rw [kk d hd4]; exact m14
      have ii := i3 h2 d S2 hd4
      have fe : q_Ef [630, 691, 699, 700, 701] h h2 := (e1.1.wide (by decide)).trans (e2.wide (by decide))
      have e695 : qA h2 695 = qA h 695 := fe.A (by decide)
      have e696 : qA h2 696 = qA h 696 := fe.A (by decide)
      have e700 : qA h2 700 = qA h1 700 := e2.A (by decide)
      have e4 : n_fd V L (m_vl B f im V) (qA h 691) im (d + 1) = n_do V L (m_vl B f im V) d ((n_fd V L (m_vl B f im V) (qA h 691) im d).1, (m_fd V L (m_vl B f im V) f im d).2) := by
        show n_do V L _ d (n_fd V L (m_vl B f im V) (qA h 691) im d) = _
        rw [show n_fd V L (m_vl B f im V) (qA h 691) im d = ((n_fd V L (m_vl B f im V) (qA h 691) im d).1, (m_fd V L (m_vl B f im V) f im d).2) from Prod.ext rfl ivt]
      have e5 : (m_fd V L (m_vl B f im V) f im (d + 1)).2 = (n_fd V L (m_vl B f im V) (qA h 691) im (d + 1)).2 := ((m_iv_all (val := m_vl B f im V) D w wr hi ma ok.2 (d + 1) (by omega)).2).symm
      -- the next do
      have nx : ∀ h3 l6, q_Ef [691, 701] h2 h3 → qA h3 691 = (n_do V L (m_vl B f im V) d (qA h2 691, (m_fd V L (m_vl B f im V) f im d).2)).1 → (∀ x y, qA h2 701 x = nI y → ¬ (V 13 d = 2 ∧ x = V 14 d) → qA h3 701 x = nI y) → (V 13 d = 2 → qA h3 701 (V 14 d) = nI ((n_do V L (m_vl B f im V) d (qA h2 691, (m_fd V L (m_vl B f im V) f im d).2)).2 (V 14 d))) → q_wp 3 326 418 [some (.ref 630), some (.int (nI r)), some (.int x2), some (.int x3), some (.int (nI d)), some (.int (nI (8 * r + d))), l6] [] h3 Q := by
        intro h3 l6 e3 ef3 t1 t2
        refine b326_418 ?_
        rw [nI_1]
        rw [ef] at ef3 t2
        refine ih (d + 1) h1 h3 _ _ _ _ (by omega) ok e1 vals (e2.trans e3) (by rw [ef3, e4]) (fun x hx => ?_)
        rw [e5, e4]
        by_cases h9 : V 13 d = 2 ∧ x = V 14 d
        · rw [h9.2]
          exact t2 h9.1
        · rw [n_do_th h9]
          rcases q_nd_s hx with h7 | h7
          · exact t1 x _ (eth x h7) h9
          · exact absurd ⟨h7.1, h7.2.symm⟩ h9
      have done : q_wp 3 326 225 [some (.ref 630), some (.int (nI r)), some (.int x2), some (.int x3), some (.int (nI d)), l5, l6] [] h2 Q := by
        have in8 : q_in ((8 : Int32) * nI r + nI d) (qK h2 660).2 := by rw [ek]; exact ii _ rfl
        rcases (show V 13 d = 0 ∨ V 13 d = 1 ∨ V 13 d = 2 ∨ V 13 d = 3 ∨ V 13 d = 4 by omega) with k9 | k9 | k9 | k9 | k9
        · obtain ⟨q1, q2, q3, q4⟩ := w2 k9
          have ix := hi _ q1
          have e13 : qA h2 660 (((8 * nI r) + nI d : Int32).toNatClampNeg) = 0 := by rw [e60, k9]; rfl
          have e95 : qA h2 695 (nI (V 14 d)).toNatClampNeg = nI (im (V 14 d)) := by rw [nI_clamp (by omega), e695]; exact (hn _ q1).1
          refine b326_225 (S2.ok rfl) (S2.ref (v := 660) rfl) (S2.ok rfl) in8 (fun _ => ?_) (fun c => absurd (e13 ▸ c) (by decide)) (fun c => absurd (e13 ▸ c) (by decide)) (fun c => absurd (e13 ▸ c) (by decide)) (fun c => absurd (e13 ▸ c) (by decide))
          rw [ek]
          have hc : q_mV 0 306 [.ref 630, .int (qA h2 695 ((qA h2 661 (nI (8 * r + d)).toNatClampNeg : Int32).toNatClampNeg))] h2 (fun h' => h' = q_sA (q_sA (q_sA h2 691 (im (V 14 d)) (-1)) 691 (12 + im (V 14 d)) 0) 691 (24 + im (V 14 d)) 0) := by
            rw [e61, e95]
            exact s306 S2 ix
          refine b326_272 (S2.ok rfl) (S2.ref (v := 695) rfl) (S2.ref (v := 661) rfl) (S2.ok rfl) (ii _ rfl) (S2.ok rfl) (by rw [e61]; exact S2.inN (n := 5) rfl (by omega) (by decide)) hc (by decide) ?_
          rintro h3 rfl
          refine b326_288 (nx _ _ (((q_Ef.sA (by decide)).trans (q_Ef.sA (by decide))).trans (q_Ef.sA (by decide))) ?_ (fun x y a _ => a) (fun h9 => by omega))
          have em : n_do V L (m_vl B f im V) d (qA h2 691, (m_fd V L (m_vl B f im V) f im d).2) = (u_drN (qA h2 691) ((m_fd V L (m_vl B f im V) f im d).2 (V 14 d)), (m_fd V L (m_vl B f im V) f im d).2) := if_pos k9
          rw [em, c1 _ q1, qA_sAu, qA_sAu, qA_sAu]
          exact u_dr_eq _ _
        · obtain ⟨q1, q2⟩ := w3 k9
          have e13 : qA h2 660 (((8 * nI r) + nI d : Int32).toNatClampNeg) = 1 := by rw [e60, k9]; rfl
          have e96 : qA h2 696 (nI (V 14 d)).toNatClampNeg = nI (L.getD (V 14 d) 0) := by rw [nI_clamp (by omega), e696]; exact hL.2.1 _ q1
          have gl := (m_gl_get _ _ ma.2.2.1).2.1 _ q1
          refine b326_225 (S2.ok rfl) (S2.ref (v := 660) rfl) (S2.ok rfl) in8 (fun c => absurd (e13 ▸ c) (by decide)) (fun _ => ?_) (fun c => absurd (e13 ▸ c) (by decide)) (fun c => absurd (e13 ▸ c) (by decide)) (fun c => absurd (e13 ▸ c) (by decide))
          rw [ek]
          have hc : q_mV 0 307 [.ref 630, .int (qA h2 696 ((qA h2 661 (nI (8 * r + d)).toNatClampNeg : Int32).toNatClampNeg))] h2 (fun h' => h' = d_lnk3 h2 691 (L.getD (V 14 d) 0) (-1) 0 0) := by
            rw [e61, e96]
            exact s307 S2 gl.1
          refine b326_291 (S2.ok rfl) (S2.ref (v := 696) rfl) (S2.ref (v := 661) rfl) (S2.ok rfl) (ii _ rfl) (S2.ok rfl) (by rw [e61]; exact S2.inN (n := 9) rfl (by omega) (by decide)) hc (by decide) ?_
          rintro h3 rfl
          refine b326_307 (nx _ _ (q_Ef.lnk3 (by decide)) ?_ (fun x y a _ => a) (fun h9 => by omega))
          have em : n_do V L (m_vl B f im V) d (qA h2 691, (m_fd V L (m_vl B f im V) f im d).2) = (u_lnk (qA h2 691) (L.getD (V 14 d) 0) (-1) 0 0, (m_fd V L (m_vl B f im V) f im d).2) := (if_neg (by omega)).trans (if_pos k9)
          rw [em, qA_lnk3]
        · obtain ⟨q1, q2, q3, q4⟩ := w4 k9
          have e13 : qA h2 660 (((8 * nI r) + nI d : Int32).toNatClampNeg) = 2 := by rw [e60, k9]; rfl
          have e62 : qA h2 662 (nI (8 * r + d)).toNatClampNeg = nI (V 15 d) := by rw [kk d hd4]; exact m15 (by omega)
          obtain ⟨i, ei, hi12⟩ := room.1 k9
          have ei2 : d_free (qA h2 691) 0 12 = some i := by rw [ef]; exact ((d_free_eq Dd.1).1).trans ei
          refine b326_225 (S2.ok rfl) (S2.ref (v := 660) rfl) (S2.ok rfl) in8 (fun c => absurd (e13 ▸ c) (by decide)) (fun c => absurd (e13 ▸ c) (by decide)) (fun _ => ?_) (fun c => absurd (e13 ▸ c) (by decide)) (fun c => absurd (e13 ▸ c) (by decide))
          rw [ek]
          refine b326_310 (S2.ok rfl) (S2.ref (v := 701) rfl) (S2.ref (v := 661) rfl) (S2.ok rfl) (ii _ rfl) (S2.ref (v := 662) rfl) (S2.ok rfl) (ii _ rfl) (s299 S2) (by decide) ?_
          rintro z h3 ⟨rfl, e9⟩
          rw [e62, ei2] at e9
          have e9 : h3 = d_newN h2 i (nI (V 15 d)) := e9
          subst e9
          rw [e61, ei2]
          have S3 : q_Sh (d_newN h2 i (nI (V 15 d))) := S2
          refine b326_332 (S3.ok rfl) (S3.inN (n := 12) rfl (by omega) (by decide)) ?_
          rw [nI_clamp (show V 14 d < 2 ^ 31 by omega)]
          have w0' : qA (d_newN h2 i (nI (V 15 d))) 701 = qA h2 701 := by
            unfold d_newN
            rw [qA_sAn (by decide), qA_sAn (by decide), qA_sAn (by decide)]
          have w1' : qA (q_sA (d_newN h2 i (nI (V 15 d))) 701 (V 14 d) (q_on (some i))) 701 = upd (qA h2 701) (V 14 d) (nI i) := by
            rw [qA_sAu, w0']
            rfl
          have em : n_do V L (m_vl B f im V) d (qA h2 691, (m_fd V L (m_vl B f im V) f im d).2) = (upd (upd (upd (qA h2 691) i (nI (V 15 d))) (12 + i) 0) (24 + i) 0, m_ut (m_fd V L (m_vl B f im V) f im d).2 (V 14 d) i) := by
            unfold n_do
            rw [if_neg (by omega), if_neg (by omega), if_pos k9, ei2]
          refine nx _ _ ((((q_Ef.sA (by decide)).trans (q_Ef.sA (by decide))).trans (q_Ef.sA (by decide))).trans (q_Ef.sA (by decide))) ?_ (fun x y a h9 => ?_) (fun _ => ?_)
          · rw [em, qA_sAn (by decide)]
            unfold d_newN
            rw [qA_sAu, qA_sAu, qA_sAu]
          · rw [w1', upd_ne (fun h7 => h9 ⟨k9, h7⟩)]
            exact a
          · rw [w1', upd_eq, em]
            show nI i = nI (m_ut _ (V 14 d) i (V 14 d))
            unfold m_ut
            rw [if_pos rfl]
        · obtain ⟨q1, q2, q3⟩ := w5 k9
          have e13 : qA h2 660 (((8 * nI r) + nI d : Int32).toNatClampNeg) = 3 := by rw [e60, k9]; rfl
          have e62 : qA h2 662 (nI (8 * r + d)).toNatClampNeg = nI (V 15 d) := by rw [kk d hd4]; exact m15 (by omega)
          have e63 : qA h2 663 (nI (8 * r + d)).toNatClampNeg = nI (V 16 d) := by rw [kk d hd4]; exact m16 k9
          have a14 := q_nd_lt wr (by omega) q1
          have a16 := q_nd_lt wr (by omega) q3
          have t14 : qA h2 701 (nI (V 14 d)).toNatClampNeg = nI ((m_fd V L (m_vl B f im V) f im d).2 (V 14 d)) := by rw [nI_clamp (by omega)]; exact eth _ q1
          have t16 : qA h2 701 (nI (V 16 d)).toNatClampNeg = nI ((m_fd V L (m_vl B f im V) f im d).2 (V 16 d)) := by rw [nI_clamp (by omega)]; exact eth _ q3
          obtain ⟨i, ei, hi40⟩ := room.2 k9
          have ei2 : d_free (qA h2 691) 36 40 = some i := by rw [ef]; exact ((d_free_eq Dd.1).2).trans ei
          refine b326_225 (S2.ok rfl) (S2.ref (v := 660) rfl) (S2.ok rfl) in8 (fun c => absurd (e13 ▸ c) (by decide)) (fun c => absurd (e13 ▸ c) (by decide)) (fun c => absurd (e13 ▸ c) (by decide)) (fun _ => ?_) (fun c => absurd (e13 ▸ c) (by decide))
          rw [ek]
          refine b326_336 (S2.ok rfl) (S2.ref (v := 662) rfl) (S2.ok rfl) (ii _ rfl) (S2.ref (v := 701) rfl) (S2.ref (v := 661) rfl) (S2.ok rfl) (ii _ rfl) (S2.ok rfl) (by rw [e61]; exact S2.inN (n := 12) rfl (by omega) (by decide)) (S2.ref (v := 663) rfl) (S2.ok rfl) (ii _ rfl) (by rw [e63]; exact S2.inN (n := 12) rfl (by omega) (by decide)) (s300 S2) (by decide) ?_
          rintro z h3 ⟨rfl, e9⟩
          rw [e62, e61, e63, t14, t16, ei2] at e9
          have e9 : h3 = d_lnk3 h2 691 i (nI (V 15 d)) (nI ((m_fd V L (m_vl B f im V) f im d).2 (V 14 d))) (nI ((m_fd V L (m_vl B f im V) f im d).2 (V 16 d))) := e9
          subst e9
          have em : n_do V L (m_vl B f im V) d (qA h2 691, (m_fd V L (m_vl B f im V) f im d).2) = (u_lnk (qA h2 691) i (nI (V 15 d)) (nI ((m_fd V L (m_vl B f im V) f im d).2 (V 14 d))) (nI ((m_fd V L (m_vl B f im V) f im d).2 (V 16 d))), (m_fd V L (m_vl B f im V) f im d).2) := by
            unfold n_do
            rw [if_neg (by omega), if_neg (by omega), if_neg (by omega), if_pos k9, ei2]
          refine b326_371 (nx _ _ (q_Ef.lnk3 (by decide)) ?_ (fun x y a _ => a) (fun h9 => by omega))
          rw [em, qA_lnk3]
        · obtain ⟨q1, q2, q3⟩ := w6 k9
          have e13 : qA h2 660 (((8 * nI r) + nI d : Int32).toNatClampNeg) = 4 := by rw [e60, k9]; rfl
          have e62 : qA h2 662 (nI (8 * r + d)).toNatClampNeg = nI (V 15 d) := by rw [kk d hd4]; exact m15 (by omega)
          have a14 := q_nd_lt wr (by omega) q1
          have t14 : qA h2 701 (nI (V 14 d)).toNatClampNeg = nI ((m_fd V L (m_vl B f im V) f im d).2 (V 14 d)) := by rw [nI_clamp (by omega)]; exact eth _ q1
          have v14 := c2 _ q1
          have ev : qA h2 700 (nI d).toNatClampNeg = m_vl B f im V d := by rw [nI_clamp (by omega), e700]; exact vals d hd4 k9
          have em : n_do V L (m_vl B f im V) d (qA h2 691, (m_fd V L (m_vl B f im V) f im d).2) = (upd (qA h2 691) (12 * (V 15 d + 1) + (m_fd V L (m_vl B f im V) f im d).2 (V 14 d)) (m_vl B f im V d), (m_fd V L (m_vl B f im V) f im d).2) := by
            unfold n_do
            rw [if_neg (by omega), if_neg (by omega), if_neg (by omega), if_neg (by omega)]
          have j397 : q_wp 3 326 397 [some (.ref 630), some (.int (nI r)), some (.int x2), some (.int x3), some (.int (nI d)), some (.int (nI (8 * r + d))), l6] [.int (nI (12 * (V 15 d + 1))), .ref 691] h2 Q := by
            refine b326_397 (S2.ok rfl) (S2.ref (v := 701) rfl) (S2.ref (v := 661) rfl) (S2.ok rfl) (ii _ rfl) (S2.ok rfl) (by rw [e61]; exact S2.inN (n := 12) rfl (by omega) (by decide)) (S2.ref (v := 700) rfl) (S2.ok rfl) (S2.inN (n := 8) rfl (by omega) (by decide)) (S2.ok rfl) (by rw [e61, t14, nI_add]; exact S2.inN (n := 156) rfl (by omega) (by decide)) ?_
            rw [e61, t14, nI_add, nI_clamp (show 12 * (V 15 d + 1) + (m_fd V L (m_vl B f im V) f im d).2 (V 14 d) < 2 ^ 31 by omega), ev]
            refine nx _ _ (q_Ef.sA (by decide)) ?_ (fun x y a _ => a) (fun h9 => by omega)
            rw [em, qA_sAu]
          refine b326_225 (S2.ok rfl) (S2.ref (v := 660) rfl) (S2.ok rfl) in8 (fun c => absurd (e13 ▸ c) (by decide)) (fun c => absurd (e13 ▸ c) (by decide)) (fun c => absurd (e13 ▸ c) (by decide)) (fun c => absurd (e13 ▸ c) (by decide)) (fun _ => ?_)
          rw [ek]
          refine b326_376 (S2.ok rfl) (S2.ref (v := 691) rfl) (S2.ref (v := 662) rfl) (S2.ok rfl) (ii _ rfl) (fun c3 => ?_) (fun c3 => ?_)
          · rw [e62] at c3
            have k1 : V 15 d = 1 := by
              rcases (show V 15 d = 0 ∨ V 15 d = 1 by omega) with h9 | h9
              · exact absurd (by rw [h9]; rfl) c3
              · exact h9
            rw [k1] at j397
            exact b326_395 j397
          · rw [e62] at c3
            have k1 : V 15 d = 0 := (nI_eq (b := 0) (by omega) (by decide)).mp c3
            rw [k1] at j397
            exact b326_390 j397
      exact b326_214 (S2.ok rfl) (S2.ref (v := 659) rfl) (S2.ok rfl) (ir _ S2 _ rfl) (fun h9 => absurd ((nI_leI (by omega) (by omega)).mp (e59 ▸ h9)) (by omega)) (fun _ => done)
  -- the nodes are written down
  have L3 : ∀ m i h1 h2 (x2 x3 : Int32) l5, i + m = V 0 0 → m_okd B f im V → n_fv h h1 → (∀ e, e < V 0 4 → V 13 e = 4 → qA h1 700 e = m_vl B f im V e) → q_Ef [701] h1 h2 → (∀ j, j < i → qA h2 701 j = nI (im j)) → q_wp 3 326 180 [some (.ref 630), some (.int (nI r)), some (.int x2), some (.int x3), some (.int (nI i)), l5, none] [] h2 Q := by
    intro m
    induction m with
    | zero =>
      intro i h1 h2 x2 x3 l5 hi2 ok e1 vals e2 g
      obtain rfl : i = V 0 0 := by omega
      have S2 := e2.sh (e1.1.sh S)
      have R2 := row h2 (fun x a b => (e2.A (by simp only [List.mem_cons, List.not_mem_nil, or_false]; omega)).trans (e1.1.A (by simp only [List.mem_cons, List.not_mem_nil, or_false]; omega)))
      have e41 : qA h2 641 (nI r).toNatClampNeg = nI (V 0 0) := by rw [rk]; exact R2.1
      refine b326_180 (S2.ok rfl) (S2.ref (v := 641) rfl) (S2.ok rfl) (ir _ S2 _ rfl) (fun _ => b326_211 ?_) (fun h9 => absurd (by rw [e41]; exact Int32.le_refl _) h9)
      refine L4 (V 0 4) 0 h1 h2 _ _ _ _ (by omega) ok e1 vals (e2.wide (by decide)) ((e2.A (by decide)).trans (e1.1.A (by decide))) (fun x hx => ?_)
      have hx4 : x < V 0 0 := by
        rcases hx with h9 | ⟨e, h9, _⟩
        · exact h9.1
        · exact absurd h9 (Nat.not_lt_zero _)
      exact g x hx4
    | succ m ih =>
      intro i h1 h2 x2 x3 l5 hi2 ok e1 vals e2 g
      have S2 := e2.sh (e1.1.sh S)
      have R2 := row h2 (fun x a b => (e2.A (by simp only [List.mem_cons, List.not_mem_nil, or_false]; omega)).trans (e1.1.A (by simp only [List.mem_cons, List.not_mem_nil, or_false]; omega)))
      have e41 : qA h2 641 (nI r).toNatClampNeg = nI (V 0 0) := by rw [rk]; exact R2.1
      have e695 : qA h2 695 = qA h 695 := (e2.A (by decide)).trans (e1.1.A (by decide))
      refine b326_180 (S2.ok rfl) (S2.ref (v := 641) rfl) (S2.ok rfl) (ir _ S2 _ rfl) (fun h9 => absurd ((nI_leI (by omega) (by omega)).mp (e41 ▸ h9)) (by omega)) (fun _ => b326_191 (S2.ok rfl) (S2.ref (v := 701) rfl) (S2.ref (v := 695) rfl) (S2.ok rfl) (S2.inN (n := 5) rfl (by omega) (by decide)) (S2.ok rfl) (S2.inN (n := 12) rfl (by omega) (by decide)) ?_)
      rw [nI_1, nI_clamp (by omega), e695, (hn i (by omega)).1]
      refine ih (i + 1) h1 _ _ _ _ (by omega) ok e1 vals (e2.trans (q_Ef.sA (by decide))) (fun j hj => ?_)
      rw [qA_sAu]
      by_cases h9 : j = i
      · rw [h9, upd_eq]
      · rw [upd_ne h9]
        exact g j (by omega)
  -- is there room
  have L2 : ∀ m d h1 l5, d + m = V 0 4 → m_wk B f im V → n_fv h h1 → (∀ e, e < V 0 4 → V 13 e = 4 → qA h1 700 e = m_vl B f im V e) → (∀ e, e < d → d_nodes f + m_cn V 2 (e + 1) ≤ 12 + m_cn V 0 (e + 1) ∧ d_links f + m_cn V 3 (e + 1) ≤ 40 + m_cn V 1 (e + 1)) → q_wp 3 326 97 [some (.ref 630), some (.int (nI r)), some (.int (nI (d_nodes f + m_cn V 2 d) - nI (m_cn V 0 d))), some (.int (nI (d_links f + m_cn V 3 d) - nI (m_cn V 1 d))), some (.int (nI d)), l5, none] [] h1 Q := by
    intro m
    induction m with
    | zero =>
      intro d h1 l5 hd wk e1 vals g
      obtain rfl : d = V 0 4 := by omega
      have S1 := e1.1.sh S
      have R1 := row h1 (fun x a b => e1.1.A (by simp only [List.mem_cons, List.not_mem_nil, or_false]; omega))
      have e59 : qA h1 659 (nI r).toNatClampNeg = nI (V 0 4) := by rw [rk]; exact R1.2.2.2.2.1
      refine b326_97 (S1.ok rfl) (S1.ref (v := 659) rfl) (S1.ok rfl) (ir _ S1 _ rfl) (fun _ => b326_177 ?_) (fun h9 => absurd (by rw [e59]; exact Int32.le_refl _) h9)
      exact L3 (V 0 0) 0 h1 h1 _ _ _ (by omega) ⟨wk, g⟩ e1 vals q_Ef.rf (fun j hj => absurd hj (Nat.not_lt_zero _))
    | succ m ih =>
      intro d h1 l5 hd wk e1 vals g
      have hd4 : d < V 0 4 := by omega
      have S1 := e1.1.sh S
      have R1 := row h1 (fun x a b => e1.1.A (by simp only [List.mem_cons, List.not_mem_nil, or_false]; omega))
      have e59 : qA h1 659 (nI r).toNatClampNeg = nI (V 0 4) := by rw [rk]; exact R1.2.2.2.2.1
      have m13 := (R1.2.2.2.2.2.2.2.2.2.2 d hd4).1
      have w1 := (wr.2.2.2.2.2.2.2.2.2.2 d hd4).1
      have e60 : qA h1 660 (((8 * nI r) + nI d : Int32).toNatClampNeg) = nI (V 13 d) := by rw [ek, kk d hd4]; exact m13
      have in8 : q_in ((8 : Int32) * nI r + nI d) (qK h1 660).2 := by rw [ek]; exact i3 h1 d S1 hd4 _ rfl
      have l0 := m_cn_le (V := V) (k := 0) (d := d + 1)
      have l1 := m_cn_le (V := V) (k := 1) (d := d + 1)
      have l2 := m_cn_le (V := V) (k := 2) (d := d + 1)
      have l3 := m_cn_le (V := V) (k := 3) (d := d + 1)
      have bad : (12 + m_cn V 0 (d + 1) < d_nodes f + m_cn V 2 (d + 1) ∨ 40 + m_cn V 1 (d + 1) < d_links f + m_cn V 3 (d + 1)) → Q (some (.int 0)) h1 := by
        intro h9
        refine fin _ _ ⟨⟨e1.1.wide (by decide), e1.2⟩, Or.inr ⟨rfl, fun h7 => ?_, e1.1.A (by decide)⟩⟩
        have := h7.2 d hd4
        omega
      have j157 : ∀ x5, q_wp 3 326 157 [some (.ref 630), some (.int (nI r)), some (.int (nI (d_nodes f + m_cn V 2 (d + 1)) - nI (m_cn V 0 (d + 1)))), some (.int (nI (d_links f + m_cn V 3 (d + 1)) - nI (m_cn V 1 (d + 1)))), some (.int (nI d)), some (.int x5), none] [] h1 Q := by
        intro x5
        refine b326_157 (fun c2 => b326_169 (bad (Or.inl ((sv_lt (c := 12) (by omega) (by omega) (by decide)).mp c2)))) (fun c2 => b326_163 (fun c3 => b326_171 ?_) (fun c3 => b326_169 (bad (Or.inr ?_))))
        · rw [nI_1]
          refine ih (d + 1) h1 _ (by omega) wk e1 vals (fun e he => ?_)
          by_cases h9 : e = d
          · rw [h9]
            have a1 := mt (sv_lt (c := 12) (a := d_nodes f + m_cn V 2 (d + 1)) (b := m_cn V 0 (d + 1)) (by omega) (by omega) (by decide)).mpr c2
            have a2 := (sv_le (c := 40) (by omega) (by omega) (by decide)).mp c3
            omega
          · exact g e (by omega)
        · have := mt (sv_le (c := 40) (a := d_links f + m_cn V 3 (d + 1)) (b := m_cn V 1 (d + 1)) (by omega) (by omega) (by decide)).mpr c3
          omega
      have go : q_wp 3 326 108 [some (.ref 630), some (.int (nI r)), some (.int (nI (d_nodes f + m_cn V 2 d) - nI (m_cn V 0 d))), some (.int (nI (d_links f + m_cn V 3 d) - nI (m_cn V 1 d))), some (.int (nI d)), l5, none] [] h1 Q := by
        rcases (show V 13 d = 0 ∨ V 13 d = 1 ∨ V 13 d = 2 ∨ V 13 d = 3 ∨ V 13 d = 4 by omega) with k9 | k9 | k9 | k9 | k9
        · have e13 : qA h1 660 (((8 * nI r) + nI d : Int32).toNatClampNeg) = 0 := by rw [e60, k9]; rfl
          rw [m_cn_y (k := 0) k9, m_cn_n (k := 1) (show ¬ V 13 d = 1 by omega), m_cn_n (k := 2) (show ¬ V 13 d = 2 by omega), m_cn_n (k := 3) (show ¬ V 13 d = 3 by omega)] at j157
          exact b326_108 (S1.ok rfl) (S1.ref (v := 660) rfl) (S1.ok rfl) in8 (fun c => absurd e13 c) (fun _ => b326_127 (b326_130 (fun _ => b326_139 (fun _ => b326_148 (fun _ => (by rw [sv_dec]; exact j157 _)) (fun c => absurd (e13 ▸ c) (by decide))) (fun c => absurd (e13 ▸ c) (by decide))) (fun c => absurd (e13 ▸ c) (by decide))))
        · have e13 : qA h1 660 (((8 * nI r) + nI d : Int32).toNatClampNeg) = 1 := by rw [e60, k9]; rfl
          rw [m_cn_n (k := 0) (show ¬ V 13 d = 0 by omega), m_cn_y (k := 1) k9, m_cn_n (k := 2) (show ¬ V 13 d = 2 by omega), m_cn_n (k := 3) (show ¬ V 13 d = 3 by omega)] at j157
          exact b326_108 (S1.ok rfl) (S1.ref (v := 660) rfl) (S1.ok rfl) in8 (fun _ => b326_130 (fun c => absurd e13 c) (fun _ => b326_136 (b326_139 (fun _ => b326_148 (fun _ => (by rw [sv_dec]; exact j157 _)) (fun c => absurd (e13 ▸ c) (by decide))) (fun c => absurd (e13 ▸ c) (by decide))))) (fun c => absurd (e13 ▸ c) (by decide))
        · have e13 : qA h1 660 (((8 * nI r) + nI d : Int32).toNatClampNeg) = 2 := by rw [e60, k9]; rfl
          rw [m_cn_n (k := 0) (show ¬ V 13 d = 0 by omega), m_cn_n (k := 1) (show ¬ V 13 d = 1 by omega), m_cn_y (k := 2) k9, m_cn_n (k := 3) (show ¬ V 13 d = 3 by omega)] at j157
          rw [← Nat.add_assoc] at j157
          exact b326_108 (S1.ok rfl) (S1.ref (v := 660) rfl) (S1.ok rfl) in8 (fun _ => b326_130 (fun _ => b326_139 (fun c => absurd e13 c) (fun _ => b326_145 (b326_148 (fun _ => (by rw [sv_inc]; exact j157 _)) (fun c => absurd (e13 ▸ c) (by decide))))) (fun c => absurd (e13 ▸ c) (by decide))) (fun c => absurd (e13 ▸ c) (by decide))
        · have e13 : qA h1 660 (((8 * nI r) + nI d : Int32).toNatClampNeg) = 3 := by rw [e60, k9]; rfl
          rw [m_cn_n (k := 0) (show ¬ V 13 d = 0 by omega), m_cn_n (k := 1) (show ¬ V 13 d = 1 by omega), m_cn_n (k := 2) (show ¬ V 13 d = 2 by omega), m_cn_y (k := 3) k9] at j157
          rw [← Nat.add_assoc] at j157
          exact b326_108 (S1.ok rfl) (S1.ref (v := 660) rfl) (S1.ok rfl) in8 (fun _ => b326_130 (fun _ => b326_139 (fun _ => b326_148 (fun c => absurd e13 c) (fun _ => b326_154 (by rw [sv_inc]; exact j157 _))) (fun c => absurd (e13 ▸ c) (by decide))) (fun c => absurd (e13 ▸ c) (by decide))) (fun c => absurd (e13 ▸ c) (by decide))
        · have e13 : qA h1 660 (((8 * nI r) + nI d : Int32).toNatClampNeg) = 4 := by rw [e60, k9]; rfl
          rw [m_cn_n (k := 0) (show ¬ V 13 d = 0 by omega), m_cn_n (k := 1) (show ¬ V 13 d = 1 by omega), m_cn_n (k := 2) (show ¬ V 13 d = 2 by omega), m_cn_n (k := 3) (show ¬ V 13 d = 3 by omega)] at j157
          exact b326_108 (S1.ok rfl) (S1.ref (v := 660) rfl) (S1.ok rfl) in8 (fun _ => b326_130 (fun _ => b326_139 (fun _ => b326_148 (fun _ => (by  exact j157 _)) (fun c => absurd (e13 ▸ c) (by decide))) (fun c => absurd (e13 ▸ c) (by decide))) (fun c => absurd (e13 ▸ c) (by decide))) (fun c => absurd (e13 ▸ c) (by decide))
      exact b326_97 (S1.ok rfl) (S1.ref (v := 659) rfl) (S1.ok rfl) (ir _ S1 _ rfl) (fun h9 => absurd ((nI_leI (by omega) (by omega)).mp (e59 ▸ h9)) (by omega)) (fun _ => go)
  -- what is worked out
  have L1 : ∀ m d h1 l5, d + m = V 0 4 → n_fv h h1 → (∀ e, e < d → V 13 e = 4 → ∃ x, m_sv B f im V (8 + e) = some [x] ∧ qA h1 700 e = x) → q_wp 3 326 20 [some (.ref 630), some (.int (nI r)), some (.int (nI (d_nodes f))), some (.int (nI (d_links f))), some (.int (nI d)), l5, none] [] h1 Q := by
    intro m
    induction m with
    | zero =>
      intro d h1 l5 hd e1 g
      obtain rfl : d = V 0 4 := by omega
      have S1 := e1.1.sh S
      have R1 := row h1 (fun x a b => e1.1.A (by simp only [List.mem_cons, List.not_mem_nil, or_false]; omega))
      have e59 : qA h1 659 (nI r).toNatClampNeg = nI (V 0 4) := by rw [rk]; exact R1.2.2.2.2.1
      refine b326_20 (S1.ok rfl) (S1.ref (v := 659) rfl) (S1.ok rfl) (ir _ S1 _ rfl) (fun _ => b326_94 ?_) (fun h9 => absurd (by rw [e59]; exact Int32.le_refl _) h9)
      have l0 := L2 (V 0 4) 0 h1 l5 (by omega) (fun d h1 h2 => by obtain ⟨x, h3, _⟩ := g d h1 h2; exact ⟨x, h3⟩) e1 (fun d h1 h2 => by obtain ⟨x, h3, h4⟩ := g d h1 h2; rw [m_vl_y h3, h4]) (fun e he => absurd he (Nat.not_lt_zero _))
      have z0 : ∀ k, m_cn V k 0 = 0 := fun _ => rfl
      rw [z0, z0, z0, z0, Nat.add_zero, Nat.add_zero, ← sv_0, ← sv_0] at l0
      exact l0
    | succ m ih =>
      intro d h1 l5 hd e1 g
      have hd4 : d < V 0 4 := by omega
      have S1 := e1.1.sh S
      have X1 := X.fr e1.1 rfl (fun i hi => e1.2 _ (by omega))
      have R1 := row h1 (fun x a b => e1.1.A (by simp only [List.mem_cons, List.not_mem_nil, or_false]; omega))
      have e59 : qA h1 659 (nI r).toNatClampNeg = nI (V 0 4) := by rw [rk]; exact R1.2.2.2.2.1
      obtain ⟨m13, m14, m15, m16, m17⟩ := R1.2.2.2.2.2.2.2.2.2.2 d hd4
      obtain ⟨w1, w2, w3, w4, w5, w6⟩ := wr.2.2.2.2.2.2.2.2.2.2 d hd4
      have e60 : qA h1 660 (((8 * nI r) + nI d : Int32).toNatClampNeg) = nI (V 13 d) := by rw [ek, kk d hd4]; exact m13
      have in8 : q_in ((8 : Int32) * nI r + nI d) (qK h1 660).2 := by rw [ek]; exact i3 h1 d S1 hd4 _ rfl
      refine b326_20 (S1.ok rfl) (S1.ref (v := 659) rfl) (S1.ok rfl) (ir _ S1 _ rfl) (fun h9 => absurd ((nI_leI (by omega) (by omega)).mp (e59 ▸ h9)) (by omega)) (fun _ => b326_31 (S1.ok rfl) (S1.ref (v := 660) rfl) (S1.ok rfl) in8 (fun c2 => ?_) (fun c2 => b326_51 (b326_88 ?_)))
      · rw [e60] at c2
        have k4 : V 13 d = 4 := (nI_eq (b := 4) (by omega) (by decide)).mp c2
        have sm := (w6 k4).2.2
        have cs := m17 k4
        rw [ek]
        have hc : q_mI 1 312 [.ref 630, .int (qA h1 664 (nI (8 * r + d)).toNatClampNeg), .int (qA h1 665 (nI (8 * r + d)).toNatClampNeg)] h1 (fun z h' => n_fv h1 h' ∧ qA h' 700 = qA h1 700 ∧ ((qI h' 630 99 = 0 ∧ m_sv B f im V (8 + d) = some [z]) ∨ (qI h' 630 99 = 1 ∧ m_sv B f im V (8 + d) = none ∧ z = 0))) := by
          rw [kk d hd4, cs.1, cs.2]
          exact n_312v X1 h4 (hn.fs (e1.1.A (by decide))) sm
        refine b326_54 (S1.ok rfl) (S1.ref (v := 700) rfl) (S1.ref (v := 664) rfl) (S1.ok rfl) (i3 h1 d S1 hd4 _ rfl) (S1.ref (v := 665) rfl) (S1.ok rfl) (i3 h1 d S1 hd4 _ rfl) hc (by decide) ?_
        rintro z h2 ⟨e2, e700, hz⟩
        have S2 := e2.1.sh S1
        have e3 : n_fv h (q_sA h2 700 (nI d).toNatClampNeg z) := (e1.trans e2).trans ⟨q_Ef.sA (by decide), fun _ _ => rfl⟩
        refine b326_78 (S2.ok rfl) (S2.inN (n := 8) rfl (by omega) (by decide)) (S2.ok rfl) (fun c3 => b326_88 ?_) (fun c3 => b326_86 (fin _ _ ⟨⟨e3.1.wide (by decide), e3.2⟩, Or.inr ⟨rfl, fun h9 => ?_, e3.1.A (by decide)⟩⟩))
        · have hx : m_sv B f im V (8 + d) = some [z] := by
            rcases hz with h9 | h9
            · exact h9.2
            · exact absurd (h9.1.symm.trans c3) (by decide)
          rw [nI_1]
          refine ih (d + 1) _ _ (by omega) e3 (fun y hy h9 => ?_)
          rw [nI_clamp (by omega), qA_sAu]
          by_cases h7 : y = d
          · rw [h7, upd_eq]
            exact ⟨z, hx, rfl⟩
          · rw [upd_ne h7, e700]
            exact g y (by omega) h9
        · obtain ⟨x, hx⟩ := h9.1 d hd4 k4
          rcases hz with h9 | h9
          · exact absurd h9.1 c3
          · rw [h9.2.1] at hx
            cases hx
      · rw [e60] at c2
        have k4 : ¬ V 13 d = 4 := fun h9 => c2 (by rw [h9]; rfl)
        rw [nI_1]
        refine ih (d + 1) h1 _ (by omega) e1 (fun y hy h9 => ?_)
        by_cases h7 : y = d
        · rw [h7] at h9; exact absurd h9 k4
        · exact g y (by omega) h9
  refine b326_0 c0 (by decide) ?_
  rintro z h1 ⟨e9, rfl⟩
  subst e9
  refine b326_7 c36 (by decide) ?_
  rintro z h1 ⟨e9, rfl⟩
  subst e9
  exact b326_16 (L1 (V 0 4) 0 _ _ (by omega) n_fv.rf (fun e he => absurd he (Nat.not_lt_zero _)))
