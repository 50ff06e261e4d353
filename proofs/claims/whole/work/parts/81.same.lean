/-! SAME: the two sides answer alike -/
theorem d_nodes_ls {f : Nat → Int32} : d_nodes f = (t_ls f 12).length := (t_ls_len 12).symm
theorem s202 {h : q_Hp} {T S0 : Nat} {f' g' : Nat → Int32} (S : q_Sh h) (s12 : S0 ≤ 12) (D : q_dg T S0 (qA h 598) f') (E : q_dg T S0 (qA h 623) g') (f7 : (t_ls (qA h 598) 12).length ≤ 7) (g7 : (t_ls (qA h 623) 12).length ≤ 7) : q_mI 11 202 [.ref 624] h (fun z h' => q_Ef [624, 625, 626, 627, 628, 629] h h' ∧ z = t_an S0 (qA h 598) (qA h 623)) := by
  refine q_mI.of (q_recV rfl (S.ok rfl)) (fun Q fin => ?_)
  generalize hf : qA h 598 = f at *
  generalize hg : qA h 623 = g at *
  refine b202_0 (S.ok rfl) (S.ref (v := 597) rfl) (s72 S.dg) (by decide) ?_
  rintro z h2 ⟨e0, rfl⟩
  subst h2
  rw [hf, d_nodes_ls]
  have e1 : q_Ef [624] h (q_sI h 624 6 (nI (t_ls f 12).length)) := q_Ef.sI (by decide)
  have i1 : qI (q_sI h 624 6 (nI (t_ls f 12).length)) 624 6 = nI (t_ls f 12).length := rfl
  have S1' : q_Sh (q_sI h 624 6 (nI (t_ls f 12).length)) := S
  refine b202_8 (S.ok rfl) (S.ok rfl) (S.ref (v := 622) rfl) (s72 S1'.dg2) (by decide) ?_
  generalize q_sI h 624 6 (nI (t_ls f 12).length) = h1 at e1 i1 S1'
  rintro z h2 ⟨e0, rfl⟩
  subst h2
  have S1 := S1'
  have f1 : qA h1 598 = f := (e1.A (by decide)).trans hf
  have g1 : qA h1 623 = g := (e1.A (by decide)).trans hg
  rw [g1, d_nodes_ls, i1]
  have w1 : q_Ef [624, 625, 626, 627, 628, 629] h h1 := e1.wide (by decide)
  refine b202_22 (fun c => b202_51 (fin _ _ ⟨w1, ?_⟩)) (fun c => b202_25 (S1.ok rfl) (fun c2 => ?_) (fun _ => b202_34 (S1.ok rfl) (S1.ref (v := 597) rfl) (s73 S1.dg) (by decide) ?_))
  · unfold t_an
    rw [if_neg (by omega), if_neg (fun h9 => c (by rw [h9]))]
  · rw [i1] at c2
    have := (nI_ltI (a := 7) (by decide) (by omega)).mp c2
    omega
  have en := (nI_eq (by omega) (by omega)).mp c
  have an : t_an S0 f g = b2i (m_dc (t_sol f g S0 (fun i => (t_ls f 12).getD i 0) (fun i => (t_ls g 12).getD i 0) (t_ls f 12).length 0 (fun _ => 0))) := by
    unfold t_an
    rw [if_neg (by omega), if_pos en]
  rintro z h2 ⟨e0, rfl⟩
  subst h2
  refine b202_41 (S1.ok rfl) (S1.ref (v := 622) rfl) (s73 S1.dg2) (by decide) ?_
  rintro z h2 ⟨e0, rfl⟩
  subst h2
  rw [f1, g1]
  have lf : d_links f ≤ 40 := q_cnt_le _ _
  have lg : d_links g ≤ 40 := q_cnt_le _ _
  refine b202_48 (fun _ => ?_) (fun c2 => b202_51 (fin _ _ ⟨w1, ?_⟩))
  rotate_left 1
  · rw [an, m_dc_f.mpr]
    · rfl
    · intro h9
      exact c2 (by rw [t_same_links s12 D E en h9])
  -- the nodes
  have dg1 : ∀ h, q_Sh h → q_Dg h 597 598 := fun h S => S.dg
  have dg2 : ∀ h, q_Sh h → q_Dg h 622 623 := fun h S => S.dg2
  have k25 : ∀ h, q_Sh h → q_ok h 625 20 ∧ (qK h 625).2 = 7 := fun h S => ⟨S.ok rfl, S.len rfl⟩
  have k26 : ∀ h, q_Sh h → q_ok h 626 20 ∧ (qK h 626).2 = 7 := fun h S => ⟨S.ok rfl, S.len rfl⟩
  have k27 : ∀ h, q_Sh h → q_ok h 627 21 ∧ (qK h 627).2 = 98 := fun h S => ⟨S.ok rfl, S.len rfl⟩
  have k28 : ∀ h, q_Sh h → q_ok h 628 21 ∧ (qK h 628).2 = 98 := fun h S => ⟨S.ok rfl, S.len rfl⟩
  have h203a := s203 (o := 597) (c := 598) (w := 625) S1 dg1 k25 (by decide) (q_recS rfl) (by rw [f1]; exact f7)
  rw [f1] at h203a
  refine b202_53 (S1.ok rfl) (S1.ref (v := 597) rfl) (S1.ref (v := 625) rfl) h203a (by decide) ?_
  rintro h2 ⟨e2, r2⟩
  have S2 := e2.sh S1
  have f2 : qA h2 598 = f := (e2.A (by decide)).trans f1
  have g2 : qA h2 623 = g := (e2.A (by decide)).trans g1
  have h203b := s203 (o := 622) (c := 623) (w := 626) S2 dg2 k26 (by decide) (q_recS rfl) (by rw [g2]; exact g7)
  rw [g2] at h203b
  refine b202_64 (S2.ok rfl) (S2.ref (v := 622) rfl) (S2.ref (v := 626) rfl) h203b (by decide) ?_
  rintro h3 ⟨e3, r3⟩
  have S3 := e3.sh S2
  have f3 : qA h3 598 = f := (e3.A (by decide)).trans f2
  have g3 : qA h3 623 = g := (e3.A (by decide)).trans g2
  have a3 : qA h3 625 = qA h2 625 := e3.A (by decide)
  have i3 : qI h3 624 6 = nI (t_ls f 12).length := by rw [e3.I (show 624 ∉ [626] by decide), e2.I (show 624 ∉ [625] by decide)]; exact i1
  have onto : ∀ {f : Nat → Int32} x, x < 12 → ¬ f x = -1 → ∃ i, i < (t_ls f 12).length ∧ (t_ls f 12).getD i 0 = x := fun x hx hf => t_ls_ix 12 x hx hf
  have h204a := s204 (o := 597) (c := 598) (w := 625) (v := 627) (n := (t_ls f 12).length) (M := fun i => (t_ls f 12).getD i 0) S3 dg1 k25 k27 (by decide) i3 f7 (fun i hi => ⟨by rw [a3]; exact r2 i hi, (t_ls_get 12 i hi).1⟩) (fun i j hi hj e => t_ls_inj hi hj e) s12 (by rw [f3]; exact D) (fun x hx hp => onto x hx (by rw [← f3]; exact hp))
  rw [f3] at h204a
  refine b202_75 (S3.ok rfl) (S3.ref (v := 597) rfl) (S3.ref (v := 625) rfl) (S3.ref (v := 627) rfl) h204a (by decide) ?_
  rintro h4 ⟨e4, r4⟩
  have S4 := e4.sh S3
  have g4 : qA h4 623 = g := (e4.A (by decide)).trans g3
  have a4 : qA h4 626 = qA h3 626 := e4.A (by decide)
  have i4 : qI h4 624 6 = nI (t_ls g 12).length := by rw [e4.I (show 624 ∉ [627] by decide), ← en]; exact i3
  have h204b := s204 (o := 622) (c := 623) (w := 626) (v := 628) (n := (t_ls g 12).length) (M := fun i => (t_ls g 12).getD i 0) S4 dg2 k26 k28 (by decide) i4 g7 (fun i hi => ⟨by rw [a4]; exact r3 i hi, (t_ls_get 12 i hi).1⟩) (fun i j hi hj e => t_ls_inj hi hj e) s12 (by rw [g4]; exact E) (fun x hx hp => onto x hx (by rw [← g4]; exact hp))
  rw [g4] at h204b
  refine b202_91 (S4.ok rfl) (S4.ref (v := 622) rfl) (S4.ref (v := 626) rfl) (S4.ref (v := 628) rfl) h204b (by decide) ?_
  rintro h5 ⟨e5, r5⟩
  have S5 := e5.sh S4
  have e6 : q_Ef [624] h5 (q_sI h5 624 8 0) := q_Ef.sI (by decide)
  have j6 : qI (q_sI h5 624 8 0) 624 6 = qI h5 624 6 := rfl
  have j8 : qI (q_sI h5 624 8 0) 624 8 = 0 := rfl
  have w5 : q_Ef [624, 625, 626, 627, 628, 629] h h5 := (((w1.trans (e2.wide (by decide))).trans (e3.wide (by decide))).trans (e4.wide (by decide))).trans (e5.wide (by decide))
  have i5 : qI h5 624 6 = nI (t_ls f 12).length := by rw [e5.I (show 624 ∉ [628] by decide), e4.I (show 624 ∉ [627] by decide)]; exact i3
  refine b202_107 (S5.ok rfl) ?_ (m := 10) (P := fun z h' => q_Ef [624, 625, 626, 627, 628, 629] h h' ∧ z = t_an S0 f g) (by decide) ?_
  · generalize q_sI h5 624 8 0 = h6 at e6 j6 j8
    have S6 := e6.sh S5
    have X : x_Tw h6 S0 (t_ls f 12).length (fun i => (t_ls f 12).getD i 0) (fun i => (t_ls g 12).getD i 0) f g := by
      refine ⟨S6, ?_, ?_, s12, f7, j6.trans i5, fun i hi => ⟨?_, (t_ls_get 12 i hi).1, ?_, (t_ls_get 12 i (by omega)).1⟩, fun i j hi h1 h2 h3 => ⟨?_, ?_⟩, fun l hl => ⟨?_, ?_⟩⟩
      · rw [e6.A (show 598 ∉ [624] by decide), e5.A (show 598 ∉ [628] by decide), e4.A (show 598 ∉ [627] by decide)]; exact f3
      · rw [e6.A (show 623 ∉ [624] by decide), e5.A (show 623 ∉ [628] by decide)]; exact g4
      · rw [e6.A (show 625 ∉ [624] by decide), e5.A (show 625 ∉ [628] by decide), e4.A (show 625 ∉ [627] by decide), a3]; exact r2 i hi
      · rw [e6.A (show 626 ∉ [624] by decide), e5.A (show 626 ∉ [628] by decide), a4]; exact r3 i (by omega)
      · rw [e6.L (show 627 ∉ [624] by decide), e5.L (show 627 ∉ [628] by decide)]; exact r4 i j hi h1 h2 h3
      · rw [e6.L (show 628 ∉ [624] by decide)]; exact r5 i j hi (by omega) (by omega) h3
      · rcases D.1.2.1 l hl with h9 | h9
        · exact Or.inl h9
        · exact Or.inr h9.1
      · rcases E.1.2.1 l hl with h9 | h9
        · exact Or.inl h9
        · exact Or.inr h9.1
    refine (s207 7 0 h6 (fun _ => 0) (by decide) (Nat.zero_le _) X (fun j hj => by omega) (fun b hb => ?_)).mono (Nat.le_refl _) ?_
    · rw [j8, b_0]
      constructor
      · intro h9; cases h9
      · rintro ⟨j, hj, _⟩; omega
    · rintro z h7 ⟨e7, rfl, _⟩
      exact ⟨(w5.trans (e6.wide (by decide))).trans (e7.wide (by decide)), an.symm⟩
  · rintro z h7 ⟨e7, rfl⟩
    refine b202_117 ?_ (fin _ _ ⟨e7, rfl⟩)
    rw [an]
    exact b2i_01 _
theorem s230 {h : q_Hp} {T S0 : Nat} {x : Int32} {f' : Nat → Int32} (S : q_Sh h) (s12 : S0 ≤ 12) (D : q_dg T S0 (qA h 598) f') (hk : ∀ k, k < 4 → (qA h 621 k = 0 ∨ qA h 621 k = 1) ∧ (qA h 621 k = 1 → ∃ g', q_dg T S0 (fun i => qA h 620 (k * 156 + i)) g')) : q_mI 12 230 [.ref 1, .int x] h (fun z h' => q_Ef [623, 624, 625, 626, 627, 628, 629] h h' ∧ z = if q_rg x 4 = true ∧ qA h 621 x.toNatClampNeg = 1 then t_an S0 (qA h 598) (fun i => qA h 620 (x.toNatClampNeg * 156 + i)) else -1) := by
  refine q_mI.of (q_recV rfl (S.ok rfl)) (fun Q fin => ?_)
  have out : ¬ (q_rg x 4 = true ∧ qA h 621 x.toNatClampNeg = 1) → q_wp 12 230 18 [some (.ref 1), some (.int x)] [] h Q := fun h9 => b230_18 (fin _ _ ⟨q_Ef.rf, by rw [if_neg h9]⟩)
  refine b230_0 (fun c => out (fun h9 => by rw [q_rg_lo c] at h9; cases h9.1)) (fun c1 => b230_4 (fun c => out (fun h9 => ?_)) (fun c2 => ?_))
  · obtain ⟨k, hk4, rfl⟩ := (q_rg_ex (by decide)).mp h9.1
    have := (nI_leI (a := 4) (by decide) (by omega)).mp c
    omega
  obtain ⟨k, hkk, rfl⟩ := nI_of c1
  have k4 : k < 4 := by
    have := mt (nI_leI (a := 4) (b := k) (by decide) hkk).mpr c2
    omega
  have ck : (nI k : Int32).toNatClampNeg = k := nI_clamp (by omega)
  refine b230_9 (v0 := 621) (S.ok rfl) (S.ref rfl) (Or.inr (S.ok rfl)) (S.inN (n := 4) rfl k4 (by decide)) (fun c3 => ?_) (fun c3 => b230_18 (fin _ _ ⟨q_Ef.rf, ?_⟩))
  rotate_left 1
  · rw [if_neg]
    rw [c3]
    exact fun h9 => absurd h9.2 (by decide)
  have kept : qA h 621 k = 1 := by
    rw [ck] at c3
    rcases (hk k k4).1 with h9 | h9
    · exact absurd h9 c3
    · exact h9
  obtain ⟨g', E⟩ := (hk k k4).2 kept
  refine b230_20 (S.ok rfl) (S.ref (v := 622) rfl) (S.ref (v := 620) rfl) (s63 (s := 620) (len := 624) (j := k) S.dg2 (S.ok rfl) (S.len rfl) (by omega) (by decide)) (by decide) ?_
  rintro h1 rfl
  have e1 : q_Ef [623] h (q_wA h 623 (va_cpy (qA h 620) (qA h 623) (k * 156) 0 156)) := q_Ef.wA (by decide)
  have a1 : qA (q_wA h 623 (va_cpy (qA h 620) (qA h 623) (k * 156) 0 156)) 623 = va_cpy (qA h 620) (qA h 623) (k * 156) 0 156 := qA_wAs _ _ _
  generalize q_wA h 623 (va_cpy (qA h 620) (qA h 623) (k * 156) 0 156) = h1 at e1 a1
  have S1 := e1.sh S
  have w1 : q_Ef [623, 624, 625, 626, 627, 628, 629] h h1 := e1.wide (by decide)
  have f1 : qA h1 598 = qA h 598 := e1.A (by decide)
  have gi : ∀ i, i < 156 → qA h1 623 i = qA h 620 (k * 156 + i) := by
    intro i hi
    rw [a1]
    have := va_cpy_in (f := qA h 620) (g := qA h 623) (sp := k * 156) (dp := 0) hi
    rw [Nat.zero_add] at this
    exact this
  have E1 : q_dg T S0 (qA h1 623) g' := E.ext gi (fun _ _ => rfl)
  have an1 : t_an S0 (qA h 598) (qA h1 623) = t_an S0 (qA h 598) (fun i => qA h 620 (k * 156 + i)) := by
    have l1 : t_ls (qA h1 623) 12 = t_ls (fun i => qA h 620 (k * 156 + i)) 12 := t_ls_ext 12 (fun i hi => gi i (by omega))
    have tb : ∀ s a b, t_b (qA h1 623) s a b = t_b (fun i => qA h 620 (k * 156 + i)) s a b := fun s a b => by
      unfold t_b t_bL
      exact q_cnt_ext (fun l hl => by rw [gi (36 + l) (by omega), gi (76 + l) (by omega), gi (116 + l) (by omega)])
    have sol : ∀ {f g g2 : Nat → Int32} {n : Nat} (hg : ∀ i, i < 156 → g2 i = g i) (htb : ∀ s a b, t_b g2 s a b = t_b g s a b) (hn : ∀ i, i < n → (t_ls g 12).getD i 0 < 12), t_sol f g S0 (fun i => (t_ls f 12).getD i 0) (fun i => (t_ls g 12).getD i 0) n 0 (fun _ => 0) → t_sol f g2 S0 (fun i => (t_ls f 12).getD i 0) (fun i => (t_ls g 12).getD i 0) n 0 (fun _ => 0) := by
      rintro f g g2 n hg htb hn ⟨c, q1, q2⟩
      refine ⟨c, q1, fun j h1 h2 => ?_⟩
      obtain ⟨p1, p2, p3, p4, p5, p6⟩ := q2 j h1 h2
      have m1 : (fun i => (t_ls g 12).getD i 0) (c j) < 12 := hn _ p1
      refine ⟨p1, ?_, ?_, ?_, p5, fun i hi s hs => ?_⟩
      · rw [hg _ (by omega)]; exact p2
      · rw [hg _ (by omega)]; exact p3
      · rw [hg _ (by omega)]; exact p4
      · rw [htb, htb]; exact p6 i hi s hs
    unfold t_an
    rw [l1]
    by_cases h9 : 7 < (t_ls (qA h 598) 12).length ∨ 7 < (t_ls (fun i => qA h 620 (k * 156 + i)) 12).length
    · rw [if_pos h9, if_pos h9]
    · rw [if_neg h9, if_neg h9]
      by_cases h8 : (t_ls (qA h 598) 12).length = (t_ls (fun i => qA h 620 (k * 156 + i)) 12).length
      · rw [if_pos h8, if_pos h8]
        congr 1
        rw [Bool.eq_iff_iff, m_dc_t, m_dc_t]
        constructor
        · intro h7
          rw [← l1] at h7 ⊢
          exact sol (fun i hi => (gi i hi).symm) (fun s a b => (tb s a b).symm) (fun i hi => (t_ls_get 12 i (by rw [l1, ← h8]; exact hi)).1) h7
        · intro h7
          exact sol gi tb (fun i hi => (t_ls_get 12 i (by rw [← h8]; exact hi)).1) h7
      · rw [if_neg h8, if_neg h8]
  have ans : ∀ z h', q_Ef [623, 624, 625, 626, 627, 628, 629] h h' → z = t_an S0 (qA h 598) (qA h1 623) → Q (some (.int z)) h' := fun z h' e ez => fin z h' ⟨e, by
    rw [ck, if_pos ⟨q_rgN k4 (by decide), kept⟩, ez, an1]⟩
  have lf : (t_ls (qA h 598) 12).length ≤ 12 := by rw [t_ls_len]; exact q_cnt_le _ _
  have lg : (t_ls (qA h1 623) 12).length ≤ 12 := by rw [t_ls_len]; exact q_cnt_le _ _
  refine b230_32 (S1.ok rfl) (S1.ref (v := 597) rfl) (s72 S1.dg) (by decide) ?_
  rintro z h2 ⟨e0, rfl⟩
  subst h2
  rw [f1, d_nodes_ls]
  refine b230_39 (fun c => b230_56 (ans _ _ w1 ?_)) (fun c => b230_44 (S1.ok rfl) (S1.ref (v := 622) rfl) (s72 S1.dg2) (by decide) ?_)
  · have := (nI_ltI (a := 7) (by decide) (by omega)).mp c
    unfold t_an
    rw [if_pos (Or.inl this)]
  rintro z h2 ⟨e0, rfl⟩
  subst h2
  rw [d_nodes_ls]
  refine b230_51 (fun c4 => ?_) (fun c4 => b230_56 (ans _ _ w1 ?_))
  · have h7 := mt (nI_ltI (a := 7) (b := (t_ls (qA h 598) 12).length) (by decide) (by omega)).mpr c
    have g7 := (nI_leI (b := 7) (by omega) (by decide)).mp c4
    have h202 := s202 S1 s12 (by rw [f1]; exact D) E1 (by rw [f1]; omega) g7
    rw [f1] at h202
    refine b230_59 (S1.ok rfl) (S1.ref (v := 624) rfl) h202 (by decide) ?_
    rintro z h3 ⟨e3, rfl⟩
    have e4 : q_Ef [623, 624, 625, 626, 627, 628, 629] h h3 := w1.trans (e3.wide (by decide))
    have an01 : t_an S0 (qA h 598) (qA h1 623) = 0 ∨ t_an S0 (qA h 598) (qA h1 623) = 1 := by
      unfold t_an
      rw [if_neg (by omega)]
      split
      · exact b2i_01 _
      · exact Or.inl rfl
    refine b230_66 (fun c5 => b230_73 (ans _ _ e4 c5.symm)) (fun c5 => b230_69 (ans _ _ e4 ?_))
    rcases an01 with h9 | h9
    · exact absurd h9 c5
    · exact h9.symm
  · have g7 := mt (nI_leI (a := (t_ls (qA h1 623) 12).length) (b := 7) (by omega) (by decide)).mpr c4
    unfold t_an
    rw [if_pos (Or.inr (by omega))]
/-- the same answer of both sides' rows -/
theorem t_an_eq {T S : Nat} {f g f' g' : Nat → Int32} (s12 : S ≤ 12) (D : q_dr T S f f') (E : q_dr T S g g') : t_an S f' g' = t_an S f g := by
  have row : ∀ {f f' : Nat → Int32}, q_dr T S f f' → t_ls f' 12 = t_ls f 12 ∧ ∀ s a b, s < 2 ^ 31 → t_b f' s a b = t_b f s a b := by
    intro f f' D
    refine ⟨t_ls_ext 12 (fun i hi => D.2.2.1 i (by omega)), fun s a b hs => ?_⟩
    unfold t_b t_bL
    refine q_cnt_ext (fun l hl => ?_)
    rw [D.2.2.1 (36 + l) (by omega)]
    by_cases h9 : f (36 + l) = -1
    · rw [h9, beq_eq_false_iff_ne.mpr (fun h8 => q_on_ne (j := s) hs h8.symm)]
      rfl
    · rw [(D.2.2.2 l hl h9).1, (D.2.2.2 l hl h9).2]
  obtain ⟨l1, b1⟩ := row D
  obtain ⟨l2, b2⟩ := row E
  unfold t_an
  rw [l1, l2]
  by_cases h9 : 7 < (t_ls f 12).length ∨ 7 < (t_ls g 12).length
  · rw [if_pos h9, if_pos h9]
  · rw [if_neg h9, if_neg h9]
    by_cases h8 : (t_ls f 12).length = (t_ls g 12).length
    · rw [if_pos h8, if_pos h8]
      congr 1
      rw [Bool.eq_iff_iff, m_dc_t, m_dc_t]
      have one : ∀ {f g f2 g2 : Nat → Int32}, (∀ i, i < 36 → f2 i = f i ∧ g2 i = g i) → (∀ s a b, s < 2 ^ 31 → t_b f2 s a b = t_b f s a b ∧ t_b g2 s a b = t_b g s a b) → ∀ (m m' : Nat → Nat) n, (∀ i, i < n → m i < 12 ∧ m' i < 12) → t_sol f g S m m' n 0 (fun _ => 0) → t_sol f2 g2 S m m' n 0 (fun _ => 0) := by
        rintro f g f2 g2 hr hb m m' n hm ⟨c, q1, q2⟩
        refine ⟨c, q1, fun j h1 h2 => ?_⟩
        obtain ⟨p1, p2, p3, p4, p5, p6⟩ := q2 j h1 h2
        have m1 := (hm j h2).1
        have m2 := (hm _ p1).2
        refine ⟨p1, ?_, ?_, ?_, p5, fun i hi s hs => ?_⟩
        · rw [(hr _ (by omega)).1, (hr _ (by omega)).2]; exact p2
        · rw [(hr _ (by omega)).1, (hr _ (by omega)).2]; exact p3
        · rw [(hr _ (by omega)).1, (hr _ (by omega)).2]; exact p4
        · have hs2 : s < 2 ^ 31 := by omega
          rw [(hb _ _ _ hs2).1, (hb _ _ _ hs2).2, (hb _ _ _ hs2).1, (hb _ _ _ hs2).2]
          exact p6 i hi s hs
      have hm : ∀ i, i < (t_ls f 12).length → (t_ls f 12).getD i 0 < 12 ∧ (t_ls g 12).getD i 0 < 12 := fun i hi => ⟨(t_ls_get 12 i hi).1, (t_ls_get 12 i (by omega)).1⟩
      exact ⟨one (fun i hi => ⟨(D.2.2.1 i (by omega)).symm, (E.2.2.1 i (by omega)).symm⟩) (fun s a b hs => ⟨(b1 s a b hs).symm, (b2 s a b hs).symm⟩) _ _ _ hm, one (fun i hi => ⟨D.2.2.1 i (by omega), E.2.2.1 i (by omega)⟩) (fun s a b hs => ⟨b1 s a b hs, b2 s a b hs⟩) _ _ _ hm⟩
    · rw [if_neg h8, if_neg h8]
theorem r_Q.tw {W K : Nat → Int64} {h h' : q_Hp} {u b : Nat} {B : q_Bk} {a l t s : Nat} (Q : r_Q W K h u b B a l t s) (e : q_Ef [623, 624, 625, 626, 627, 628, 629, 710, 711, 712] h h') : r_Q W K h' u b B a l t s := by
  obtain ⟨S, q1, q2, q3, q4, hb, q5, w, q6, q7, q8, q9, q10, q11⟩ := Q
  have hbb : b = 11 ∨ b = 300 := hb
  have n1 : ∀ x, x ≤ 622 ∨ (630 ≤ x ∧ x ≤ 709) → x ∉ [623, 624, 625, 626, 627, 628, 629, 710, 711, 712] := by
    intro x h1
    simp only [List.mem_cons, List.not_mem_nil, or_false]
    omega
  refine ⟨e.sh S, ?_, ?_, ?_, ?_, hb, ?_, w, q6.fr hb w (fun x h1 h2 => e.A (n1 x (by omega))) (fun x h1 h2 => e.I (n1 x (by omega))), q7.fr (fun x h1 h2 => e.A (n1 x (by omega))) (fun i hi => by rw [e.I (n1 630 (by decide))]), ?_, ?_, ?_, ?_⟩
  · unfold r_C
    rw [e.L (n1 4 (by decide)), e.L (n1 637 (by decide))]; exact q1
  · unfold r_T
    rw [e.I (n1 1 (by decide)), e.I (n1 630 (by decide)), e.A (n1 2 (by decide)), e.A (n1 631 (by decide))]; exact q2
  · unfold r_P
    rw [e.I (n1 1 (by decide)), e.I (n1 630 (by decide))]; exact q3
  · unfold r_M
    rw [e.I (n1 601 (by decide)), e.I (n1 630 (by decide)), e.A (n1 608 (by decide)), e.A (n1 697 (by decide)), e.A (n1 609 (by decide)), e.A (n1 698 (by decide))]; exact q4
  · rw [e.R (n1 1 (by decide))]; exact q5
  · rw [e.A (n1 598 (by decide)), e.A (n1 691 (by decide))]; exact q8
  · unfold r_H
    rw [e.I (n1 630 (by decide)), e.I (n1 599 (by decide)), e.A (n1 600 (by decide)), e.A (n1 692 (by decide))]; exact q9
  · unfold r_K
    rw [e.A (n1 621 (by decide)), e.A (n1 694 (by decide)), e.A (n1 620 (by decide)), e.A (n1 693 (by decide))]; exact q10
  · unfold r_X r_F
    rw [e.I (n1 614 (by decide)), e.I (n1 630 (by decide)), e.R (n1 614 (by decide)), e.A (n1 615 (by decide)), e.A (n1 616 (by decide)), e.A (n1 617 (by decide)), e.A (n1 618 (by decide)), e.A (n1 619 (by decide)), e.A (n1 703 (by decide)), e.A (n1 704 (by decide)), e.A (n1 705 (by decide)), e.A (n1 706 (by decide)), e.A (n1 707 (by decide)), e.A (n1 708 (by decide)), e.A (n1 709 (by decide))]
    exact q11
theorem r_same {W K : Nat → Int64} {u : Nat} {x : Int32} : r_I W K 230 346 [.int x] u u := by
  rintro h R
  obtain ⟨b, B, a, l, t, s, Q⟩ := R
  have Q' := Q
  obtain ⟨S, q1, q2, q3, q4, hb, q5, w, q6, q7, q8, q9, q10, q11⟩ := Q'
  have s12 : bN B 1 ≤ 12 := w.2.1
  refine (s230 S s12 q8 (fun k hk => ⟨(q10 k hk).2.1, fun h1 => ⟨_, (q10 k hk).2.2 h1⟩⟩)).mono (by decide) ?_
  rintro z h1 ⟨e1, rfl⟩
  have S1 := e1.sh S
  have nn : ∀ y, 630 ≤ y → y ∉ [623, 624, 625, 626, 627, 628, 629] := by
    intro y h1
    simp only [List.mem_cons, List.not_mem_nil, or_false]
    omega
  have a94 : qA h1 694 = qA h 694 := e1.A (nn 694 (by decide))
  have a91 : qA h1 691 = qA h 691 := e1.A (nn 691 (by decide))
  have a93 : qA h1 693 = qA h 693 := e1.A (nn 693 (by decide))
  refine (s346 S1 (by rw [e1.I (nn 630 (by decide))]; exact q7.1 1 (by decide)) s12 (fun k hk => ?_)).mono (by decide) ?_
  · rw [a94, ← (q10 k hk).1]
    exact (q10 k hk).2.1
  rintro z h2 ⟨e2, rfl⟩
  refine ⟨?_, b, B, a, l, t, s, Q.tw ((e1.wide (by decide)).trans (e2.wide (by decide)))⟩
  rw [a94, a91, a93]
  by_cases hx : q_rg x 4 = true
  · obtain ⟨k, hk, rfl⟩ := (q_rg_ex (by decide)).mp hx
    rw [nI_clamp (by omega), (q10 k hk).1]
    by_cases hk1 : qA h 694 k = 1
    · rw [if_pos ⟨hx, hk1⟩, if_pos ⟨hx, hk1⟩]
      have E := (q10 k hk).2.2 (by rw [(q10 k hk).1]; exact hk1)
      exact t_an_eq s12 q8.1 E.1
    · rw [if_neg (fun h9 => hk1 h9.2), if_neg (fun h9 => hk1 h9.2)]
  · rw [if_neg (fun h9 => hx h9.1), if_neg (fun h9 => hx h9.1)]
