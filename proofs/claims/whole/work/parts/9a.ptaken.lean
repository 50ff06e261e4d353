/-! THE REFERENCE: what is read is taken over, and the diagram is emptied -/
/-- what a cell of an upper half becomes in the lower one -/
def p_bk (a : Nat) (x : Int32) : Int32 := if a = 643 then vp_nar .boolean x else if a = 656 ∨ a = 657 ∨ a = 658 ∨ a = 664 ∨ a = 665 then x - 1300 else if a = 671 ∨ a = 672 ∨ a = 673 then (if x = -1 then -1 else x - 1300) else x
def p_c1 (off j : Nat) (k k' : q_Hp) (a : Nat) : Prop := (∀ i, i < j → qA k' a i = p_bk a (qA k a (off + i))) ∧ ∀ i, j ≤ i → qA k' a i = qA k a i
/-- in a turn of a loop: these rows are done, these aren't yet, no other is touched -/
def p_cs (D T : List Nat) (off j : Nat) (k k' : q_Hp) : Prop := (∀ a, a ∈ D → p_c1 off (j + 1) k k' a) ∧ (∀ a, a ∈ T → p_c1 off j k k' a) ∧ (∀ a, a ∉ D → a ∉ T → qA k' a = qA k a) ∧ q_Sh k' ∧ qI k' = qI k ∧ q_Ef p_L k k'
theorem p_cs.st {D T : List Nat} {off j a : Nat} {k k' : q_Hp} {v : Int32} (H : p_cs D (a :: T) off j k k') (h1 : a ∉ D) (h2 : a ∉ T) (hL : (decide (638 ≤ a) && decide (a ≤ 690)) = true) (hj : j < off) (hv : v = p_bk a (qA k' a (off + j))) : p_cs (a :: D) T off j k (q_sA k' a j v) := by
  obtain ⟨q1, q2, q3, q4, q5, q6⟩ := H
  rw [Bool.and_eq_true] at hL
  refine ⟨fun b hb => ?_, fun b hb => ?_, fun b hb hc => ?_, q4, q5, q6.trans (q_Ef.sA (p_L_in a (of_decide_eq_true hL.2) (by rw [hL.1, Bool.or_true])))⟩
  · rcases List.mem_cons.mp hb with rfl | hb
    · obtain ⟨c1, c2⟩ := q2 b (List.mem_cons_self ..)
      refine ⟨fun i hi => ?_, fun i hi => ?_⟩
      · rw [qA_sA]
        by_cases h9 : i = j
        · rw [if_pos ⟨rfl, h9⟩, hv, c2 (off + j) (by omega), h9]
        · rw [if_neg (fun h8 => h9 h8.2)]
          exact c1 i (by omega)
      · rw [qA_sA, if_neg (fun h8 => by omega)]
        exact c2 i (by omega)
    · have hne : ¬ b = a := fun h9 => h1 (h9 ▸ hb)
      unfold p_c1
      rw [qA_sAn hne]
      exact q1 b hb
  · have hne : ¬ b = a := fun h9 => h2 (h9 ▸ hb)
    unfold p_c1
    rw [qA_sAn hne]
    exact q2 b (List.mem_cons_of_mem _ hb)
  · have hne : ¬ b = a := fun h9 => hb (h9 ▸ List.mem_cons_self ..)
    rw [qA_sAn hne]
    exact q3 b (fun h9 => hb (List.mem_cons_of_mem _ h9)) (fun h9 => by
      rcases List.mem_cons.mp h9 with h9 | h9
      · exact hne h9
      · exact hc h9)
theorem p_cs.nx {D T : List Nat} {off j : Nat} {k k' : q_Hp} (H : p_cs D [] off j k k') (h : ∀ a, a ∈ T ↔ a ∈ D) : p_cs [] T off (j + 1) k k' := ⟨fun a ha => absurd ha (List.not_mem_nil), fun a ha => H.1 a ((h a).mp ha), fun a _ hT => H.2.2.1 a (fun h9 => hT ((h a).mpr h9)) (List.not_mem_nil), H.2.2.2⟩
theorem p_cs.i0 {T : List Nat} {off : Nat} {k : q_Hp} (S : q_Sh k) : p_cs [] T off 0 k k := ⟨fun a ha => absurd ha (List.not_mem_nil), fun _ _ => ⟨fun i hi => absurd hi (Nat.not_lt_zero i), fun _ _ => rfl⟩, fun _ _ _ => rfl, S, rfl, q_Ef.rf⟩
theorem p_cs.d {D T : List Nat} {off j : Nat} {k k' : q_Hp} (H : p_cs D T off j k k') : q_Sh k' := H.2.2.2.1
theorem s289_34 {Q : Option Value → q_Hp → Prop} {k0 : q_Hp} (cont : ∀ k x, p_cs [] [638, 639, 640] 12 12 k0 k → q_wp 2 289 91 [some (.ref 630), some (.int x), none] [] k Q) : ∀ m j k, j + m = 12 → p_cs [] [638, 639, 640] 12 j k0 k → q_wp 2 289 34 [some (.ref 630), some (.int (nI j)), none] [] k Q := by
  intro m
  induction m with
  | zero =>
    intro j k hj H
    obtain rfl : j = 12 := by omega
    exact b289_34 (fun _ => cont k _ H) (fun c => absurd (show (12 : Int32) ≤ nI 12 by decide) c)
  | succ m ih =>
    intro j k hj H
    refine b289_34 (fun c => ?_) (fun _ => ?_)
    · have := (nI_leI (a := 12) (by decide) (by omega)).mp c
      omega
    have S := H.d
    have i1 : (12 : Int32) + nI j = nI (12 + j) := nI_add 12 j
    have c1 : ((12 : Int32) + nI j : Int32).toNatClampNeg = 12 + j := by rw [i1, nI_clamp (by omega)]
    have cj : (nI j : Int32).toNatClampNeg = j := nI_clamp (by omega)
    have iu : ∀ {a}, (decide (a ≤ 712) && (q_kd0 a).2 == 24) = true → q_in ((12 : Int32) + nI j) (qK k a).2 := fun h => by rw [i1]; exact S.inN (n := 24) h (by omega) (by decide)
    have il : ∀ {a}, (decide (a ≤ 712) && (q_kd0 a).2 == 24) = true → q_in (nI j) (qK k a).2 := fun h => S.inN (n := 24) h (by omega) (by decide)
    refine b289_40 (v0 := 638) (v1 := 639) (v2 := 640) (S.ok rfl) (S.ref rfl) (S.ok rfl) (iu rfl) (il rfl) (S.ref rfl) (S.ok rfl) (iu rfl) (il rfl) (S.ref rfl) (S.ok rfl) (iu rfl) (il rfl) ?_
    rw [c1, cj, nI_1]
    have H1 := H.st (v := _) (by decide) (by decide) rfl (by omega) rfl
    have H2 := H1.st (v := _) (by decide) (by decide) rfl (by omega) rfl
    have H3 := H2.st (v := _) (by decide) (by decide) rfl (by omega) rfl
    exact ih (j + 1) _ (by omega) (H3.nx (fun a => by simp only [List.mem_cons, List.not_mem_nil, or_false]; omega))
theorem s289_93 {Q : Option Value → q_Hp → Prop} {k0 : q_Hp} (cont : ∀ k x, p_cs [] [641, 642, 643, 648, 654, 659] 20 20 k0 k → q_wp 2 289 195 [some (.ref 630), some (.int x), none] [] k Q) : ∀ m j k, j + m = 20 → p_cs [] [641, 642, 643, 648, 654, 659] 20 j k0 k → q_wp 2 289 93 [some (.ref 630), some (.int (nI j)), none] [] k Q := by
  intro m
  induction m with
  | zero =>
    intro j k hj H
    obtain rfl : j = 20 := by omega
    exact b289_93 (fun _ => cont k _ H) (fun c => absurd (show (20 : Int32) ≤ nI 20 by decide) c)
  | succ m ih =>
    intro j k hj H
    refine b289_93 (fun c => ?_) (fun _ => ?_)
    · have := (nI_leI (a := 20) (by decide) (by omega)).mp c
      omega
    have S := H.d
    have i1 : (20 : Int32) + nI j = nI (20 + j) := nI_add 20 j
    have c1 : ((20 : Int32) + nI j : Int32).toNatClampNeg = 20 + j := by rw [i1, nI_clamp (by omega)]
    have cj : (nI j : Int32).toNatClampNeg = j := nI_clamp (by omega)
    have iu : ∀ {a}, (decide (a ≤ 712) && (q_kd0 a).2 == 40) = true → q_in ((20 : Int32) + nI j) (qK k a).2 := fun h => by rw [i1]; exact S.inN (n := 40) h (by omega) (by decide)
    have il : ∀ {a}, (decide (a ≤ 712) && (q_kd0 a).2 == 40) = true → q_in (nI j) (qK k a).2 := fun h => S.inN (n := 40) h (by omega) (by decide)
    refine b289_99 (v0 := 641) (v1 := 642) (v2 := 643) (v3 := 648) (v4 := 654) (v5 := 659) (S.ok rfl) (S.ref rfl) (S.ok rfl) (iu rfl) (il rfl) (S.ref rfl) (S.ok rfl) (iu rfl) (il rfl) (S.ref rfl) (Or.inr (S.ok rfl)) (iu rfl) (S.ok rfl) (il rfl) (S.ref rfl) (S.ok rfl) (iu rfl) (il rfl) (S.ref rfl) (S.ok rfl) (iu rfl) (il rfl) (S.ref rfl) (S.ok rfl) (iu rfl) (il rfl) ?_
    rw [c1, cj, nI_1]
    have H1 := H.st (v := _) (by decide) (by decide) rfl (by omega) rfl
    have H2 := H1.st (v := _) (by decide) (by decide) rfl (by omega) rfl
    have H3 := H2.st (v := _) (by decide) (by decide) rfl (by omega) rfl
    have H4 := H3.st (v := _) (by decide) (by decide) rfl (by omega) rfl
    have H5 := H4.st (v := _) (by decide) (by decide) rfl (by omega) rfl
    have H6 := H5.st (v := _) (by decide) (by decide) rfl (by omega) rfl
    exact ih (j + 1) _ (by omega) (H6.nx (fun a => by simp only [List.mem_cons, List.not_mem_nil, or_false]; omega))
theorem s289_197 {Q : Option Value → q_Hp → Prop} {k0 : q_Hp} (cont : ∀ k x, p_cs [] [644, 655, 656, 657, 658] 80 80 k0 k → q_wp 2 289 296 [some (.ref 630), some (.int x), none] [] k Q) : ∀ m j k, j + m = 80 → p_cs [] [644, 655, 656, 657, 658] 80 j k0 k → q_wp 2 289 197 [some (.ref 630), some (.int (nI j)), none] [] k Q := by
  intro m
  induction m with
  | zero =>
    intro j k hj H
    obtain rfl : j = 80 := by omega
    exact b289_197 (fun _ => cont k _ H) (fun c => absurd (show (80 : Int32) ≤ nI 80 by decide) c)
  | succ m ih =>
    intro j k hj H
    refine b289_197 (fun c => ?_) (fun _ => ?_)
    · have := (nI_leI (a := 80) (by decide) (by omega)).mp c
      omega
    have S := H.d
    have i1 : (80 : Int32) + nI j = nI (80 + j) := nI_add 80 j
    have c1 : ((80 : Int32) + nI j : Int32).toNatClampNeg = 80 + j := by rw [i1, nI_clamp (by omega)]
    have cj : (nI j : Int32).toNatClampNeg = j := nI_clamp (by omega)
    have iu : ∀ {a}, (decide (a ≤ 712) && (q_kd0 a).2 == 160) = true → q_in ((80 : Int32) + nI j) (qK k a).2 := fun h => by rw [i1]; exact S.inN (n := 160) h (by omega) (by decide)
    have il : ∀ {a}, (decide (a ≤ 712) && (q_kd0 a).2 == 160) = true → q_in (nI j) (qK k a).2 := fun h => S.inN (n := 160) h (by omega) (by decide)
    refine b289_203 (v0 := 644) (v1 := 655) (v2 := 656) (v3 := 657) (v4 := 658) (S.ok rfl) (S.ref rfl) (S.ok rfl) (iu rfl) (il rfl) (S.ref rfl) (S.ok rfl) (iu rfl) (il rfl) (S.ref rfl) (S.ok rfl) (iu rfl) (il rfl) (S.ref rfl) (S.ok rfl) (iu rfl) (il rfl) (S.ref rfl) (S.ok rfl) (iu rfl) (il rfl) ?_
    rw [c1, cj, nI_1]
    have H1 := H.st (v := _) (by decide) (by decide) rfl (by omega) rfl
    have H2 := H1.st (v := _) (by decide) (by decide) rfl (by omega) rfl
    have H3 := H2.st (v := _) (by decide) (by decide) rfl (by omega) rfl
    have H4 := H3.st (v := _) (by decide) (by decide) rfl (by omega) rfl
    have H5 := H4.st (v := _) (by decide) (by decide) rfl (by omega) rfl
    exact ih (j + 1) _ (by omega) (H5.nx (fun a => by simp only [List.mem_cons, List.not_mem_nil, or_false]; omega))
theorem s289_298 {Q : Option Value → q_Hp → Prop} {k0 : q_Hp} (cont : ∀ k x, p_cs [] [645, 646, 647, 651, 652, 653] 120 120 k0 k → q_wp 2 289 400 [some (.ref 630), some (.int x), none] [] k Q) : ∀ m j k, j + m = 120 → p_cs [] [645, 646, 647, 651, 652, 653] 120 j k0 k → q_wp 2 289 298 [some (.ref 630), some (.int (nI j)), none] [] k Q := by
  intro m
  induction m with
  | zero =>
    intro j k hj H
    obtain rfl : j = 120 := by omega
    exact b289_298 (fun _ => cont k _ H) (fun c => absurd (show (120 : Int32) ≤ nI 120 by decide) c)
  | succ m ih =>
    intro j k hj H
    refine b289_298 (fun c => ?_) (fun _ => ?_)
    · have := (nI_leI (a := 120) (by decide) (by omega)).mp c
      omega
    have S := H.d
    have i1 : (120 : Int32) + nI j = nI (120 + j) := nI_add 120 j
    have c1 : ((120 : Int32) + nI j : Int32).toNatClampNeg = 120 + j := by rw [i1, nI_clamp (by omega)]
    have cj : (nI j : Int32).toNatClampNeg = j := nI_clamp (by omega)
    have iu : ∀ {a}, (decide (a ≤ 712) && (q_kd0 a).2 == 240) = true → q_in ((120 : Int32) + nI j) (qK k a).2 := fun h => by rw [i1]; exact S.inN (n := 240) h (by omega) (by decide)
    have il : ∀ {a}, (decide (a ≤ 712) && (q_kd0 a).2 == 240) = true → q_in (nI j) (qK k a).2 := fun h => S.inN (n := 240) h (by omega) (by decide)
    refine b289_304 (v0 := 645) (v1 := 646) (v2 := 647) (v3 := 651) (v4 := 652) (v5 := 653) (S.ok rfl) (S.ref rfl) (S.ok rfl) (iu rfl) (il rfl) (S.ref rfl) (S.ok rfl) (iu rfl) (il rfl) (S.ref rfl) (S.ok rfl) (iu rfl) (il rfl) (S.ref rfl) (S.ok rfl) (iu rfl) (il rfl) (S.ref rfl) (S.ok rfl) (iu rfl) (il rfl) (S.ref rfl) (S.ok rfl) (iu rfl) (il rfl) ?_
    rw [c1, cj, nI_1]
    have H1 := H.st (v := _) (by decide) (by decide) rfl (by omega) rfl
    have H2 := H1.st (v := _) (by decide) (by decide) rfl (by omega) rfl
    have H3 := H2.st (v := _) (by decide) (by decide) rfl (by omega) rfl
    have H4 := H3.st (v := _) (by decide) (by decide) rfl (by omega) rfl
    have H5 := H4.st (v := _) (by decide) (by decide) rfl (by omega) rfl
    have H6 := H5.st (v := _) (by decide) (by decide) rfl (by omega) rfl
    exact ih (j + 1) _ (by omega) (H6.nx (fun a => by simp only [List.mem_cons, List.not_mem_nil, or_false]; omega))
theorem s289_402 {Q : Option Value → q_Hp → Prop} {k0 : q_Hp} (cont : ∀ k x, p_cs [] [649, 650] 40 40 k0 k → q_wp 2 289 444 [some (.ref 630), some (.int x), none] [] k Q) : ∀ m j k, j + m = 40 → p_cs [] [649, 650] 40 j k0 k → q_wp 2 289 402 [some (.ref 630), some (.int (nI j)), none] [] k Q := by
  intro m
  induction m with
  | zero =>
    intro j k hj H
    obtain rfl : j = 40 := by omega
    exact b289_402 (fun _ => cont k _ H) (fun c => absurd (show (40 : Int32) ≤ nI 40 by decide) c)
  | succ m ih =>
    intro j k hj H
    refine b289_402 (fun c => ?_) (fun _ => ?_)
    · have := (nI_leI (a := 40) (by decide) (by omega)).mp c
      omega
    have S := H.d
    have i1 : (40 : Int32) + nI j = nI (40 + j) := nI_add 40 j
    have c1 : ((40 : Int32) + nI j : Int32).toNatClampNeg = 40 + j := by rw [i1, nI_clamp (by omega)]
    have cj : (nI j : Int32).toNatClampNeg = j := nI_clamp (by omega)
    have iu : ∀ {a}, (decide (a ≤ 712) && (q_kd0 a).2 == 80) = true → q_in ((40 : Int32) + nI j) (qK k a).2 := fun h => by rw [i1]; exact S.inN (n := 80) h (by omega) (by decide)
    have il : ∀ {a}, (decide (a ≤ 712) && (q_kd0 a).2 == 80) = true → q_in (nI j) (qK k a).2 := fun h => S.inN (n := 80) h (by omega) (by decide)
    refine b289_408 (v0 := 649) (v1 := 650) (S.ok rfl) (S.ref rfl) (S.ok rfl) (iu rfl) (il rfl) (S.ref rfl) (S.ok rfl) (iu rfl) (il rfl) ?_
    rw [c1, cj, nI_1]
    have H1 := H.st (v := _) (by decide) (by decide) rfl (by omega) rfl
    have H2 := H1.st (v := _) (by decide) (by decide) rfl (by omega) rfl
    exact ih (j + 1) _ (by omega) (H2.nx (fun a => by simp only [List.mem_cons, List.not_mem_nil, or_false]; omega))
theorem s289_446 {Q : Option Value → q_Hp → Prop} {k0 : q_Hp} (cont : ∀ k x, p_cs [] [660, 661, 662, 663, 664, 665] 160 160 k0 k → q_wp 2 289 563 [some (.ref 630), some (.int x), none] [] k Q) : ∀ m j k, j + m = 160 → p_cs [] [660, 661, 662, 663, 664, 665] 160 j k0 k → q_wp 2 289 446 [some (.ref 630), some (.int (nI j)), none] [] k Q := by
  intro m
  induction m with
  | zero =>
    intro j k hj H
    obtain rfl : j = 160 := by omega
    exact b289_446 (fun _ => cont k _ H) (fun c => absurd (show (160 : Int32) ≤ nI 160 by decide) c)
  | succ m ih =>
    intro j k hj H
    refine b289_446 (fun c => ?_) (fun _ => ?_)
    · have := (nI_leI (a := 160) (by decide) (by omega)).mp c
      omega
    have S := H.d
    have i1 : (160 : Int32) + nI j = nI (160 + j) := nI_add 160 j
    have c1 : ((160 : Int32) + nI j : Int32).toNatClampNeg = 160 + j := by rw [i1, nI_clamp (by omega)]
    have cj : (nI j : Int32).toNatClampNeg = j := nI_clamp (by omega)
    have iu : ∀ {a}, (decide (a ≤ 712) && (q_kd0 a).2 == 320) = true → q_in ((160 : Int32) + nI j) (qK k a).2 := fun h => by rw [i1]; exact S.inN (n := 320) h (by omega) (by decide)
    have il : ∀ {a}, (decide (a ≤ 712) && (q_kd0 a).2 == 320) = true → q_in (nI j) (qK k a).2 := fun h => S.inN (n := 320) h (by omega) (by decide)
    refine b289_453 (v0 := 660) (v1 := 661) (v2 := 662) (v3 := 663) (v4 := 664) (v5 := 665) (S.ok rfl) (S.ref rfl) (S.ok rfl) (iu rfl) (il rfl) (S.ref rfl) (S.ok rfl) (iu rfl) (il rfl) (S.ref rfl) (S.ok rfl) (iu rfl) (il rfl) (S.ref rfl) (S.ok rfl) (iu rfl) (il rfl) (S.ref rfl) (S.ok rfl) (iu rfl) (il rfl) (S.ref rfl) (S.ok rfl) (iu rfl) (il rfl) ?_
    rw [c1, cj, nI_1]
    have H1 := H.st (v := _) (by decide) (by decide) rfl (by omega) rfl
    have H2 := H1.st (v := _) (by decide) (by decide) rfl (by omega) rfl
    have H3 := H2.st (v := _) (by decide) (by decide) rfl (by omega) rfl
    have H4 := H3.st (v := _) (by decide) (by decide) rfl (by omega) rfl
    have H5 := H4.st (v := _) (by decide) (by decide) rfl (by omega) rfl
    have H6 := H5.st (v := _) (by decide) (by decide) rfl (by omega) rfl
    exact ih (j + 1) _ (by omega) (H6.nx (fun a => by simp only [List.mem_cons, List.not_mem_nil, or_false]; omega))
