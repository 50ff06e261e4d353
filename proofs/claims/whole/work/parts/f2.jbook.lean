/-! THE CONSTRUCTORS: a rule, a book -/
theorem j_swap {N : Nat} {a b : Nat × List Nat} {stk : List (Nat × List Nat)} {f : j_F} {h : q_Hp} (J : j_J N (a :: b :: stk) f h) : j_J N (b :: a :: stk) f h := by
  obtain ⟨x, y, c, d, e⟩ := J
  refine ⟨x, y, fun o s ho h0 hs => c o s ho h0 (fun e he h9 => hs e ?_ h9), d, e⟩
  simp only [List.mem_cons] at he ⊢
  rcases he with he | he | he
  · exact Or.inr (Or.inl he)
  · exact Or.inl he
  · exact Or.inr (Or.inr he)
def j_rl : List Nat := [19, 18, 17, 16, 15, 14, 13, 12, 11, 10, 9, 8, 7]
theorem j_key : ∀ r, r < 20 → ∀ b, b = 11 ∨ b = 300 → (List.range (j_row (b + 9 + 14 * r)).length).all (fun s => decide (q_fr0 (b + 9 + 14 * r) s = 0) || j_rl.contains s) = true ∧ ∀ j, j < 13 → j_row (b + 9 + 14 * r + 1 + j) = [] := by
  have h1 : ∀ r, r < 20 → (List.range (j_row (11 + 9 + 14 * r)).length).all (fun s => decide (q_fr0 (11 + 9 + 14 * r) s = 0) || j_rl.contains s) = true ∧ ∀ j, j < 13 → j_row (11 + 9 + 14 * r + 1 + j) = [] := by decide +kernel
  have h2 : ∀ r, r < 20 → (List.range (j_row (300 + 9 + 14 * r)).length).all (fun s => decide (q_fr0 (300 + 9 + 14 * r) s = 0) || j_rl.contains s) = true ∧ ∀ j, j < 13 → j_row (300 + 9 + 14 * r + 1 + j) = [] := by decide +kernel
  intro r hr b hb
  rcases hb with rfl | rfl
  · exact h1 r hr
  · exact h2 r hr
theorem j_bkr : ∀ r, r < 20 → q_fr0 15 r = 11 + 9 + 14 * r ∧ q_fr0 304 r = 300 + 9 + 14 * r := by decide +kernel
def jl : Nat → List Nat
  | 0 => []
  | n + 1 => n :: jl n
section JC
variable {stk : List (Nat × List Nat)} {f : j_F} {h : q_Hp} {l1 : List Nat}
theorem j126 {o : Nat} (hO : q_isO o) (J : j_J o ((o, []) :: stk) f h) : q_mV 1 126 [.ref o] h (fun h' => j_J (o + 13) stk f h') := by
  obtain ⟨b, r, hb, hr, e⟩ := hO
  have hb' : b = 11 ∨ b = 300 := hb
  obtain ⟨ko, K1⟩ := o_key r hr b hb'
  obtain ⟨rk, K2⟩ := j_key r hr b hb'
  rw [← e] at ko rk
  have ho : 0 < o ∧ o ≤ 575 := by omega
  have K : ∀ j, j < 13 → q_kd0 (o + j + 1) = (20, o_len j) ∧ j_row (o + j + 1) = [] ∧ q_fr0 o (7 + j) = o + j + 1 := fun j hj => by
    obtain ⟨a1, a2, _⟩ := K1 j hj
    have a3 := K2 j hj
    rw [← e] at a1 a2 a3
    rw [show o + j + 1 = o + 1 + j by omega]
    exact ⟨a1, a3, a2⟩
  have ko : (q_kd0 o).1 = 6 := by rw [ko]
  clear K1 K2 e
  refine q_mV.of (q_recV rfl (J.ok ⟨by omega, by omega⟩ ko)) (fun Q fin => ?_)
  refine wp_loc rfl rfl ?_
  refine wp_oini rfl rfl (by decide) (by decide) rfl ⟨by omega, by omega⟩ ?_
  refine wp_loc rfl rfl ?_
  refine wp_iconst (v := 4) rfl (by decide) ?_
  refine wp_fa (m := 4) rfl rfl (by decide) rfl rfl (Or.inr ⟨rfl, rfl⟩) rfl rfl J ⟨by omega, by omega⟩ ko rfl (K 0 (by decide)).1 (K 0 (by decide)).2.1 (K 0 (by decide)).2.2 (by omega) (fun h J => ?_)
  refine wp_loc rfl rfl ?_
  refine wp_iconst (v := 2) rfl (by decide) ?_
  refine wp_fa (m := 2) rfl rfl (by decide) rfl rfl (Or.inr ⟨rfl, rfl⟩) rfl rfl J ⟨by omega, by omega⟩ ko rfl (K 1 (by decide)).1 (K 1 (by decide)).2.1 (K 1 (by decide)).2.2 (by omega) (fun h J => ?_)
  refine wp_loc rfl rfl ?_
  refine wp_iconst (v := 2) rfl (by decide) ?_
  refine wp_fa (m := 2) rfl rfl (by decide) rfl rfl (Or.inr ⟨rfl, rfl⟩) rfl rfl J ⟨by omega, by omega⟩ ko rfl (K 2 (by decide)).1 (K 2 (by decide)).2.1 (K 2 (by decide)).2.2 (by omega) (fun h J => ?_)
  refine wp_loc rfl rfl ?_
  refine wp_bipush (v := 12) rfl (by decide) ?_
  refine wp_fa (m := 12) rfl rfl (by decide) rfl rfl (Or.inr ⟨rfl, rfl⟩) rfl rfl J ⟨by omega, by omega⟩ ko rfl (K 3 (by decide)).1 (K 3 (by decide)).2.1 (K 3 (by decide)).2.2 (by omega) (fun h J => ?_)
  refine wp_loc rfl rfl ?_
  refine wp_bipush (v := 12) rfl (by decide) ?_
  refine wp_fa (m := 12) rfl rfl (by decide) rfl rfl (Or.inr ⟨rfl, rfl⟩) rfl rfl J ⟨by omega, by omega⟩ ko rfl (K 4 (by decide)).1 (K 4 (by decide)).2.1 (K 4 (by decide)).2.2 (by omega) (fun h J => ?_)
  refine wp_loc rfl rfl ?_
  refine wp_bipush (v := 12) rfl (by decide) ?_
  refine wp_fa (m := 12) rfl rfl (by decide) rfl rfl (Or.inr ⟨rfl, rfl⟩) rfl rfl J ⟨by omega, by omega⟩ ko rfl (K 5 (by decide)).1 (K 5 (by decide)).2.1 (K 5 (by decide)).2.2 (by omega) (fun h J => ?_)
  refine wp_loc rfl rfl ?_
  refine wp_iconst (v := 4) rfl (by decide) ?_
  refine wp_fa (m := 4) rfl rfl (by decide) rfl rfl (Or.inr ⟨rfl, rfl⟩) rfl rfl J ⟨by omega, by omega⟩ ko rfl (K 6 (by decide)).1 (K 6 (by decide)).2.1 (K 6 (by decide)).2.2 (by omega) (fun h J => ?_)
  refine wp_loc rfl rfl ?_
  refine wp_bipush (v := 8) rfl (by decide) ?_
  refine wp_fa (m := 8) rfl rfl (by decide) rfl rfl (Or.inr ⟨rfl, rfl⟩) rfl rfl J ⟨by omega, by omega⟩ ko rfl (K 7 (by decide)).1 (K 7 (by decide)).2.1 (K 7 (by decide)).2.2 (by omega) (fun h J => ?_)
  refine wp_loc rfl rfl ?_
  refine wp_bipush (v := 8) rfl (by decide) ?_
  refine wp_fa (m := 8) rfl rfl (by decide) rfl rfl (Or.inr ⟨rfl, rfl⟩) rfl rfl J ⟨by omega, by omega⟩ ko rfl (K 8 (by decide)).1 (K 8 (by decide)).2.1 (K 8 (by decide)).2.2 (by omega) (fun h J => ?_)
  refine wp_loc rfl rfl ?_
  refine wp_bipush (v := 8) rfl (by decide) ?_
  refine wp_fa (m := 8) rfl rfl (by decide) rfl rfl (Or.inr ⟨rfl, rfl⟩) rfl rfl J ⟨by omega, by omega⟩ ko rfl (K 9 (by decide)).1 (K 9 (by decide)).2.1 (K 9 (by decide)).2.2 (by omega) (fun h J => ?_)
  refine wp_loc rfl rfl ?_
  refine wp_bipush (v := 8) rfl (by decide) ?_
  refine wp_fa (m := 8) rfl rfl (by decide) rfl rfl (Or.inr ⟨rfl, rfl⟩) rfl rfl J ⟨by omega, by omega⟩ ko rfl (K 10 (by decide)).1 (K 10 (by decide)).2.1 (K 10 (by decide)).2.2 (by omega) (fun h J => ?_)
  refine wp_loc rfl rfl ?_
  refine wp_bipush (v := 16) rfl (by decide) ?_
  refine wp_fa (m := 16) rfl rfl (by decide) rfl rfl (Or.inr ⟨rfl, rfl⟩) rfl rfl J ⟨by omega, by omega⟩ ko rfl (K 11 (by decide)).1 (K 11 (by decide)).2.1 (K 11 (by decide)).2.2 (by omega) (fun h J => ?_)
  refine wp_loc rfl rfl ?_
  refine wp_bipush (v := 16) rfl (by decide) ?_
  refine wp_fa (m := 16) rfl rfl (by decide) rfl rfl (Or.inr ⟨rfl, rfl⟩) rfl rfl J ⟨by omega, by omega⟩ ko rfl (K 12 (by decide)).1 (K 12 (by decide)).2.1 (K 12 (by decide)).2.2 (by omega) (fun h J => ?_)
  exact wp_ret rfl rfl (fin _ (J.popd rk))
theorem j9 {b : Nat} (hb : b = 11 ∨ b = 300) {N : Nat} (J : j_J N stk f h) (hN : b + 288 ≤ N) (hs : ∀ e, e ∈ stk → ¬ e.1 = b ∧ ¬ e.1 = b + 4) : q_mR 1 9 [.ref b, .int 0] h (fun z h' => h' = h ∧ z = b + 9) := by
  have ok : q_ok h b 0 := J.ok ⟨by omega, by omega⟩ (by rcases hb with rfl | rfl <;> rfl)
  have r9 : qR h b 9 = b + 4 := J.R (by omega) (by rcases hb with rfl | rfl <;> rfl) (by omega) (fun e he h9 => absurd h9 (hs e he).1)
  have r0 : qR h (b + 4) 0 = b + 9 := J.R (by omega) (by rcases hb with rfl | rfl <;> rfl) (by omega) (fun e he h9 => absurd h9 (hs e he).2)
  have ok4 : q_ok h (b + 4) 24 := J.ok ⟨by omega, by omega⟩ (by rcases hb with rfl | rfl <;> rfl)
  have ln : (qK h (b + 4)).2 = 20 := J.len (by omega) (by rcases hb with rfl | rfl <;> rfl)
  refine ⟨q_recV rfl ok, ?_⟩
  refine wp_loc rfl rfl ?_
  refine wp_iflt (tgt := 19) rfl (by decide) (fun c => absurd c (by decide)) (fun _ => ?_)
  refine wp_loc rfl rfl ?_
  refine wp_bipush (v := 20) rfl (by decide) ?_
  refine wp_icge (tgt := 19) rfl (by decide) (fun c => absurd c (by decide)) (fun _ => ?_)
  refine wp_loc rfl rfl ?_
  refine wp_getR rfl rfl rfl rfl ok r9 ?_
  refine wp_loc rfl rfl ?_
  refine wp_aald (v := b + 9) rfl ok4 ⟨by decide, by rw [ln]; decide⟩ r0 ?_
  refine wp_goto (tgt := 25) rfl (by decide) ?_
  exact wp_ret rfl rfl ⟨_, rfl, rfl, rfl⟩
theorem wp_fx {N o d k pc : Nat} {l : List Nat} {L : q_Lc} {st : List Value} {Q : Option Value → q_Hp → Prop} {i0 i ci sl m : Nat} {x : Int32} (hfe : q_fe k pc = some (.anewarray i0)) (hc : q_lkk q_clT (q_ow k, i0) = some 6) (hx : ¬ x < 0 ∧ x.toNatClampNeg ≤ 65536) (hfe2 : q_fe k (pc + 3) = some (.putfield i)) (hf : q_lk (q_flT (q_ow k)) i = some (ci, sl)) (hfin : q_fin ci sl = false ∨ (q_ini k = true ∧ q_ow k = ci)) (hti : q_isI (q_ty ci sl) = false) (htj : q_isJ (q_ty ci sl) = false) (J : j_J N ((o, l) :: stk) f h) (ho : 0 < o ∧ o ≤ N) (hko : (q_kd0 o).1 = ci) (hm : x.toNatClampNeg = m) (hkd : q_kd0 (N + 1) = (24, m)) (hv : q_fr0 o sl = N + 1) (hN : N + 1 < 2 ^ 20) (w : ∀ h', j_J (N + 1) ((o, sl :: l) :: (N + 1, []) :: stk) f h' → q_wp d k (pc + 6) L st h' Q) : q_wp d k pc L (.int x :: .ref o :: st) h Q := by
  have hn := J.1.1
  refine wp_anew hfe hc hx (by omega) ?_
  have J1 := j_swap (J.al (kd := 24) (n := m) hkd hN)
  rw [hn, hm]
  refine wp_putR hfe2 hf hfin hti htj (J1.ok ⟨ho.1, by omega⟩ hko) (w _ (J1.sR hv))
theorem j0_11 (J : j_J 11 [(11, []), (1, l1)] f h) : q_mV 2 0 [.ref 11] h (fun h' => j_J 299 [(1, l1)] f h') := by
  refine q_mV.of (q_recV rfl (J.ok (by decide) rfl)) (fun Q fin => ?_)
  refine wp_loc rfl rfl ?_
  refine wp_oini rfl rfl (by decide) (by decide) rfl (by decide) ?_
  refine wp_loc rfl rfl ?_
  refine wp_bipush (v := 12) rfl (by decide) ?_
  refine wp_fa (m := 12) rfl rfl (by decide) rfl rfl (Or.inr ⟨rfl, rfl⟩) rfl rfl J (by decide) rfl rfl rfl rfl rfl (by decide) (fun h J => ?_)
  refine wp_loc rfl rfl ?_
  refine wp_bipush (v := 12) rfl (by decide) ?_
  refine wp_fa (m := 12) rfl rfl (by decide) rfl rfl (Or.inr ⟨rfl, rfl⟩) rfl rfl J (by decide) rfl rfl rfl rfl rfl (by decide) (fun h J => ?_)
  refine wp_loc rfl rfl ?_
  refine wp_bipush (v := 12) rfl (by decide) ?_
  refine wp_fa (m := 12) rfl rfl (by decide) rfl rfl (Or.inr ⟨rfl, rfl⟩) rfl rfl J (by decide) rfl rfl rfl rfl rfl (by decide) (fun h J => ?_)
  refine wp_loc rfl rfl ?_
  refine wp_bipush (v := 20) rfl (by decide) ?_
  refine wp_fx (m := 20) rfl rfl (by decide) rfl rfl (Or.inr ⟨rfl, rfl⟩) rfl rfl J (by decide) rfl rfl rfl rfl (by decide) (fun h J => ?_)
  refine wp_loc rfl rfl ?_
  refine wp_bipush (v := 10) rfl (by decide) ?_
  refine wp_fa (m := 10) rfl rfl (by decide) rfl rfl (Or.inr ⟨rfl, rfl⟩) rfl rfl J (by decide) rfl rfl rfl rfl rfl (by decide) (fun h J => ?_)
  refine wp_loc rfl rfl ?_
  refine wp_sipush (v := 1200) rfl (by decide) ?_
  refine wp_fa (m := 1200) rfl rfl (by decide) rfl rfl (Or.inr ⟨rfl, rfl⟩) rfl rfl J (by decide) rfl rfl rfl rfl rfl (by decide) (fun h J => ?_)
  refine wp_loc rfl rfl ?_
  refine wp_sipush (v := 1200) rfl (by decide) ?_
  refine wp_fa (m := 1200) rfl rfl (by decide) rfl rfl (Or.inr ⟨rfl, rfl⟩) rfl rfl J (by decide) rfl rfl rfl rfl rfl (by decide) (fun h J => ?_)
  refine wp_loc rfl rfl ?_
  refine wp_sipush (v := 7200) rfl (by decide) ?_
  refine wp_fa (m := 7200) rfl rfl (by decide) rfl rfl (Or.inr ⟨rfl, rfl⟩) rfl rfl J (by decide) rfl rfl rfl rfl rfl (by decide) (fun h J => ?_)
  refine wp_iconst (v := 0) rfl (by decide) ?_
  refine wp_loc rfl rfl ?_
  replace J := j_swap J
  have loop : ∀ m i h, i + m = 20 → j_J (19 + 14 * i) [(15, jl i), (11, [13, 12, 11, 10, 9, 8, 7, 6]), (1, l1)] f h → q_wp 2 0 74 [some (.ref 11), some (.int (nI i))] [] h Q := by
    intro m
    induction m with
    | zero =>
      intro i h hi J
      obtain rfl : i = 20 := by omega
      refine wp_loc rfl rfl ?_
      refine wp_bipush (v := 20) rfl (by decide) ?_
      refine wp_icge (tgt := 99) rfl (by decide) (fun _ => ?_) (fun c => absurd (show (20 : Int32) ≤ nI 20 by decide) c)
      exact wp_ret rfl rfl (fin _ ((J.popd (by decide)).popd (by decide)))
    | succ m ih =>
      intro i h hi J
      refine wp_loc rfl rfl ?_
      refine wp_bipush (v := 20) rfl (by decide) ?_
      refine wp_icge (tgt := 99) rfl (by decide) (fun c => ?_) (fun _ => ?_)
      · have := (nI_leI (a := 20) (by decide) (by omega)).mp c
        omega
      refine wp_loc rfl rfl ?_
      refine wp_getR (v := 15) rfl rfl rfl rfl (J.ok ⟨by omega, by omega⟩ rfl) (J.R (by omega) rfl (by decide) (by
        intro e he h9
        simp only [List.mem_cons, List.not_mem_nil, or_false] at he
        rcases he with rfl | rfl | rfl
        · exact absurd (show 15 = 11 from h9) (by decide)
        · decide
        · exact absurd (show 1 = 11 from h9) (by decide))) ?_
      refine wp_loc rfl rfl ?_
      have kr := (o_key i (by omega) 11 (by decide)).1
      refine wp_fn rfl rfl J (by rw [show 19 + 14 * i + 1 = 11 + 9 + 14 * i by omega]; exact kr) (by omega) (fun h J => ?_)
      refine wp_stk rfl rfl rfl ?_
      rw [show 19 + 14 * i + 1 = 11 + 9 + 14 * i by omega] at J ⊢
      refine wp_callV (n := 1) (av := [.ref (11 + 9 + 14 * i)]) rfl rfl rfl (by decide) rfl rfl rfl (Nat.le_refl _) (j126 ⟨11, i, Or.inl rfl, by omega, rfl⟩ J) (fun h J => ?_)
      have ok6 : q_ok h (11 + 9 + 14 * i) 6 := J.ok ⟨by omega, by omega⟩ (by rw [kr])
      refine wp_aast rfl (J.ok ⟨by omega, by omega⟩ rfl) (by rw [J.len (m := 20) (by omega) rfl]; exact q_inN (by omega) (by decide)) ok6 ?_
      rw [nI_clamp (by omega)]
      replace J := J.sR (j_bkr i (by omega)).1
      refine wp_iinc (v := 1) rfl rfl (by decide) rfl ?_
      rw [nI_1]
      refine wp_goto (tgt := 74) rfl (by decide) ?_
      refine ih (i + 1) _ (by omega) ?_
      rw [show 19 + 14 * (i + 1) = 11 + 9 + 14 * i + 13 by omega]
      exact J
  exact loop 20 0 _ rfl J
theorem j0_300 (J : j_J 300 [(300, []), (1, l1)] f h) : q_mV 2 0 [.ref 300] h (fun h' => j_J 588 [(1, l1)] f h') := by
  refine q_mV.of (q_recV rfl (J.ok (by decide) rfl)) (fun Q fin => ?_)
  refine wp_loc rfl rfl ?_
  refine wp_oini rfl rfl (by decide) (by decide) rfl (by decide) ?_
  refine wp_loc rfl rfl ?_
  refine wp_bipush (v := 12) rfl (by decide) ?_
  refine wp_fa (m := 12) rfl rfl (by decide) rfl rfl (Or.inr ⟨rfl, rfl⟩) rfl rfl J (by decide) rfl rfl rfl rfl rfl (by decide) (fun h J => ?_)
  refine wp_loc rfl rfl ?_
  refine wp_bipush (v := 12) rfl (by decide) ?_
  refine wp_fa (m := 12) rfl rfl (by decide) rfl rfl (Or.inr ⟨rfl, rfl⟩) rfl rfl J (by decide) rfl rfl rfl rfl rfl (by decide) (fun h J => ?_)
  refine wp_loc rfl rfl ?_
  refine wp_bipush (v := 12) rfl (by decide) ?_
  refine wp_fa (m := 12) rfl rfl (by decide) rfl rfl (Or.inr ⟨rfl, rfl⟩) rfl rfl J (by decide) rfl rfl rfl rfl rfl (by decide) (fun h J => ?_)
  refine wp_loc rfl rfl ?_
  refine wp_bipush (v := 20) rfl (by decide) ?_
  refine wp_fx (m := 20) rfl rfl (by decide) rfl rfl (Or.inr ⟨rfl, rfl⟩) rfl rfl J (by decide) rfl rfl rfl rfl (by decide) (fun h J => ?_)
  refine wp_loc rfl rfl ?_
  refine wp_bipush (v := 10) rfl (by decide) ?_
  refine wp_fa (m := 10) rfl rfl (by decide) rfl rfl (Or.inr ⟨rfl, rfl⟩) rfl rfl J (by decide) rfl rfl rfl rfl rfl (by decide) (fun h J => ?_)
  refine wp_loc rfl rfl ?_
  refine wp_sipush (v := 1200) rfl (by decide) ?_
  refine wp_fa (m := 1200) rfl rfl (by decide) rfl rfl (Or.inr ⟨rfl, rfl⟩) rfl rfl J (by decide) rfl rfl rfl rfl rfl (by decide) (fun h J => ?_)
  refine wp_loc rfl rfl ?_
  refine wp_sipush (v := 1200) rfl (by decide) ?_
  refine wp_fa (m := 1200) rfl rfl (by decide) rfl rfl (Or.inr ⟨rfl, rfl⟩) rfl rfl J (by decide) rfl rfl rfl rfl rfl (by decide) (fun h J => ?_)
  refine wp_loc rfl rfl ?_
  refine wp_sipush (v := 7200) rfl (by decide) ?_
  refine wp_fa (m := 7200) rfl rfl (by decide) rfl rfl (Or.inr ⟨rfl, rfl⟩) rfl rfl J (by decide) rfl rfl rfl rfl rfl (by decide) (fun h J => ?_)
  refine wp_iconst (v := 0) rfl (by decide) ?_
  refine wp_loc rfl rfl ?_
  replace J := j_swap J
  have loop : ∀ m i h, i + m = 20 → j_J (308 + 14 * i) [(304, jl i), (300, [13, 12, 11, 10, 9, 8, 7, 6]), (1, l1)] f h → q_wp 2 0 74 [some (.ref 300), some (.int (nI i))] [] h Q := by
    intro m
    induction m with
    | zero =>
      intro i h hi J
      obtain rfl : i = 20 := by omega
      refine wp_loc rfl rfl ?_
      refine wp_bipush (v := 20) rfl (by decide) ?_
      refine wp_icge (tgt := 99) rfl (by decide) (fun _ => ?_) (fun c => absurd (show (20 : Int32) ≤ nI 20 by decide) c)
      exact wp_ret rfl rfl (fin _ ((J.popd (by decide)).popd (by decide)))
    | succ m ih =>
      intro i h hi J
      refine wp_loc rfl rfl ?_
      refine wp_bipush (v := 20) rfl (by decide) ?_
      refine wp_icge (tgt := 99) rfl (by decide) (fun c => ?_) (fun _ => ?_)
      · have := (nI_leI (a := 20) (by decide) (by omega)).mp c
        omega
      refine wp_loc rfl rfl ?_
      refine wp_getR (v := 304) rfl rfl rfl rfl (J.ok ⟨by omega, by omega⟩ rfl) (J.R (by omega) rfl (by decide) (by
        intro e he h9
        simp only [List.mem_cons, List.not_mem_nil, or_false] at he
        rcases he with rfl | rfl | rfl
        · exact absurd (show 304 = 300 from h9) (by decide)
        · decide
        · exact absurd (show 1 = 300 from h9) (by decide))) ?_
      refine wp_loc rfl rfl ?_
      have kr := (o_key i (by omega) 300 (by decide)).1
      refine wp_fn rfl rfl J (by rw [show 308 + 14 * i + 1 = 300 + 9 + 14 * i by omega]; exact kr) (by omega) (fun h J => ?_)
      refine wp_stk rfl rfl rfl ?_
      rw [show 308 + 14 * i + 1 = 300 + 9 + 14 * i by omega] at J ⊢
      refine wp_callV (n := 1) (av := [.ref (300 + 9 + 14 * i)]) rfl rfl rfl (by decide) rfl rfl rfl (Nat.le_refl _) (j126 ⟨300, i, Or.inr rfl, by omega, rfl⟩ J) (fun h J => ?_)
      have ok6 : q_ok h (300 + 9 + 14 * i) 6 := J.ok ⟨by omega, by omega⟩ (by rw [kr])
      refine wp_aast rfl (J.ok ⟨by omega, by omega⟩ rfl) (by rw [J.len (m := 20) (by omega) rfl]; exact q_inN (by omega) (by decide)) ok6 ?_
      rw [nI_clamp (by omega)]
      replace J := J.sR (j_bkr i (by omega)).2
      refine wp_iinc (v := 1) rfl rfl (by decide) rfl ?_
      rw [nI_1]
      refine wp_goto (tgt := 74) rfl (by decide) ?_
      refine ih (i + 1) _ (by omega) ?_
      rw [show 308 + 14 * (i + 1) = 300 + 9 + 14 * i + 13 by omega]
      exact J
  exact loop 20 0 _ rfl J
end JC
