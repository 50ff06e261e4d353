/-! THE REFERENCE: codes, dos and procs are taken over, and the diagram is emptied -/
def p_c7 (D T : List Nat) (j w : Nat) (k k' : q_Hp) : Prop := (∀ a, a ∈ D → p_c1 1300 (j + 1) k k' a) ∧ (∀ a, a ∈ T → p_c1 1300 j k k' a) ∧ p_c1 3900 w k k' 671 ∧ (∀ a, a ∉ D → a ∉ T → ¬ a = 671 → qA k' a = qA k a) ∧ q_Sh k' ∧ qI k' = qI k ∧ q_Ef p_L k k'
theorem p_c1.sA {off j a b i : Nat} {k k' : q_Hp} {v : Int32} (H : p_c1 off j k k' b) (hne : ¬ b = a) : p_c1 off j k (q_sA k' a i v) b := by
  unfold p_c1
  rw [qA_sAn hne]
  exact H
theorem p_c1.st {off j a : Nat} {k k' : q_Hp} {v : Int32} (H : p_c1 off j k k' a) (hj : j < off) (hv : v = p_bk a (qA k' a (off + j))) : p_c1 off (j + 1) k (q_sA k' a j v) a := by
  obtain ⟨c1, c2⟩ := H
  refine ⟨fun i hi => ?_, fun i hi => ?_⟩
  · rw [qA_sA]
    by_cases h9 : i = j
    · rw [if_pos ⟨rfl, h9⟩, hv, c2 (off + j) (by omega), h9]
    · rw [if_neg (fun h8 => h9 h8.2)]
      exact c1 i (by omega)
  · rw [qA_sA, if_neg (fun h8 => by omega)]
    exact c2 i (by omega)
theorem p_c7.st {D T : List Nat} {j w a : Nat} {k k' : q_Hp} {v : Int32} (H : p_c7 D (a :: T) j w k k') (h1 : a ∉ D) (h2 : a ∉ T) (h3 : ¬ a = 671) (hL : (decide (638 ≤ a) && decide (a ≤ 690)) = true) (hj : j < 1300) (hv : v = p_bk a (qA k' a (1300 + j))) : p_c7 (a :: D) T j w k (q_sA k' a j v) := by
  obtain ⟨q1, q2, q3, q4, q5, q6, q7⟩ := H
  rw [Bool.and_eq_true] at hL
  refine ⟨fun b hb => ?_, fun b hb => ?_, q3.sA (fun h => h3 h.symm), fun b hb hc hd => ?_, q5, q6, q7.trans (q_Ef.sA (p_L_in a (of_decide_eq_true hL.2) (by rw [hL.1, Bool.or_true])))⟩
  · rcases List.mem_cons.mp hb with rfl | hb
    · exact (q2 b (List.mem_cons_self ..)).st hj hv
    · exact (q1 b hb).sA (fun h9 => h1 (h9 ▸ hb))
  · exact (q2 b (List.mem_cons_of_mem _ hb)).sA (fun h9 => h2 (h9 ▸ hb))
  · have hne : ¬ b = a := fun h9 => hb (h9 ▸ List.mem_cons_self ..)
    rw [qA_sAn hne]
    exact q4 b (fun h9 => hb (List.mem_cons_of_mem _ h9)) (fun h9 => by
      rcases List.mem_cons.mp h9 with h9 | h9
      · exact hne h9
      · exact hc h9) hd
theorem p_c7.sw {D T : List Nat} {j w : Nat} {k k' : q_Hp} {v : Int32} (H : p_c7 D T j w k k') (h1 : 671 ∉ D) (h2 : 671 ∉ T) (hj : w < 3900) (hv : v = p_bk 671 (qA k' 671 (3900 + w))) : p_c7 D T j (w + 1) k (q_sA k' 671 w v) := by
  obtain ⟨q1, q2, q3, q4, q5, q6, q7⟩ := H
  exact ⟨fun b hb => (q1 b hb).sA (fun h9 => h1 (h9 ▸ hb)), fun b hb => (q2 b hb).sA (fun h9 => h2 (h9 ▸ hb)), q3.st hj hv, fun b hb hc hd => by rw [qA_sAn hd]; exact q4 b hb hc hd, q5, q6, q7.trans (q_Ef.sA (p_L_in 671 (by decide) rfl))⟩
theorem p_c7.nx {D T : List Nat} {j w : Nat} {k k' : q_Hp} (H : p_c7 D [] j w k k') (h : ∀ a, a ∈ T ↔ a ∈ D) : p_c7 [] T (j + 1) w k k' := ⟨fun a ha => absurd ha (List.not_mem_nil), fun a ha => H.1 a ((h a).mp ha), H.2.2.1, fun a _ hT => H.2.2.2.1 a (fun h9 => hT ((h a).mpr h9)) (List.not_mem_nil), H.2.2.2.2⟩
theorem s290 {x : Int32} {k : q_Hp} : q_mI 0 290 [.int x] k (fun z k' => k' = k ∧ z = if x = -1 then -1 else x - 1300) := by
  refine q_mI.of rfl (fun Q fin => ?_)
  refine b290_0 (fun c => b290_9 (fin _ _ ⟨rfl, ?_⟩)) (fun c => b290_5 (fin _ _ ⟨rfl, ?_⟩))
  · rw [if_neg c]
  · rw [if_pos c]
theorem s289_565 {Q : Option Value → q_Hp → Prop} {k0 : q_Hp} (cont : ∀ k x l2, p_c7 [] [666, 667, 668, 669, 670, 672] 1300 3900 k0 k → q_wp 2 289 717 [some (.ref 630), some (.int x), l2] [] k Q) : ∀ m j k l2, j + m = 1300 → p_c7 [] [666, 667, 668, 669, 670, 672] j (3 * j) k0 k → q_wp 2 289 565 [some (.ref 630), some (.int (nI j)), l2] [] k Q := by
  intro m
  induction m with
  | zero =>
    intro j k l2 hj H
    obtain rfl : j = 1300 := by omega
    exact b289_565 (fun _ => cont k _ _ H) (fun c => absurd (show (1300 : Int32) ≤ nI 1300 by decide) c)
  | succ m ih =>
    intro j k l2 hj H
    refine b289_565 (fun c => ?_) (fun _ => ?_)
    · have := (nI_leI (a := 1300) (by decide) (by omega)).mp c
      omega
    have S := H.2.2.2.2.1
    have i1 : (1300 : Int32) + nI j = nI (1300 + j) := nI_add 1300 j
    have c1 : ((1300 : Int32) + nI j : Int32).toNatClampNeg = 1300 + j := by rw [i1, nI_clamp (by omega)]
    have cj : (nI j : Int32).toNatClampNeg = j := nI_clamp (by omega)
    have iu : ∀ {a}, (decide (a ≤ 712) && (q_kd0 a).2 == 2600) = true → q_in ((1300 : Int32) + nI j) (qK k a).2 := fun h => by rw [i1]; exact S.inN (n := 2600) h (by omega) (by decide)
    have il : ∀ {k a}, q_Sh k → (decide (a ≤ 712) && (q_kd0 a).2 == 2600) = true → q_in (nI j) (qK k a).2 := fun S h => S.inN (n := 2600) h (by omega) (by decide)
    have H1 := H.st (v := _) (by decide) (by decide) (by decide) rfl (by omega) rfl
    have H2 := H1.st (v := _) (by decide) (by decide) (by decide) rfl (by omega) rfl
    have H3 := H2.st (v := _) (by decide) (by decide) (by decide) rfl (by omega) rfl
    have H4 := H3.st (v := _) (by decide) (by decide) (by decide) rfl (by omega) rfl
    have H5 := H4.st (v := _) (by decide) (by decide) (by decide) rfl (by omega) rfl
    have inner : ∀ m x k, x + m = 3 → p_c7 [672, 670, 669, 668, 667, 666] [] j (3 * j + x) k0 k → q_wp 2 289 673 [some (.ref 630), some (.int (nI j)), some (.int (nI x))] [] k Q := by
      intro m'
      induction m' with
      | zero =>
        intro x k hx H
        obtain rfl : x = 3 := by omega
        refine b289_673 (fun _ => b289_711 ?_) (fun c => absurd (show (3 : Int32) ≤ nI 3 by decide) c)
        rw [nI_1]
        exact ih (j + 1) _ _ (by omega) (H.nx (fun a => by simp only [List.mem_cons, List.not_mem_nil, or_false]; omega))
      | succ m' ih2 =>
        intro x k hx H
        refine b289_673 (fun c => ?_) (fun _ => ?_)
        · have := (nI_leI (a := 3) (by decide) (by omega)).mp c
          omega
        have S := H.2.2.2.2.1
        have i3 : (3 : Int32) * ((1300 : Int32) + nI j) + nI x = nI (3900 + (3 * j + x)) := by
          rw [i1, show (3 : Int32) = nI 3 from rfl, pk_mul, nI_add]
          congr 1
          omega
        have i4 : (3 : Int32) * nI j + nI x = nI (3 * j + x) := by rw [show (3 : Int32) = nI 3 from rfl, pk_mul, nI_add]
        refine b289_678 (v0 := 671) (S.ok rfl) (S.ref rfl) (S.ok rfl) (by rw [i3]; exact S.inN (n := 7800) rfl (by omega) (by decide)) s290 (by decide) ?_
        rintro z h2 ⟨e0, rfl⟩
        subst h2
        refine b289_704 (S.ok rfl) (by rw [i4]; exact S.inN (n := 7800) rfl (by omega) (by decide)) ?_
        rw [i3, i4, nI_clamp (by omega), nI_clamp (by omega), nI_1]
        exact ih2 (x + 1) _ (by omega) (H.sw (by decide) (by decide) (by omega) rfl)
    refine b289_572 (v0 := 666) (v1 := 667) (v2 := 668) (v3 := 669) (v4 := 670) (v5 := 672) (S.ok rfl) (S.ref rfl) (S.ok rfl) (iu rfl) (il S rfl) (S.ref rfl) (S.ok rfl) (iu rfl) (il S rfl) (S.ref rfl) (S.ok rfl) (iu rfl) (il S rfl) (S.ref rfl) (S.ok rfl) (iu rfl) (il S rfl) (S.ref rfl) (S.ok rfl) (iu rfl) (il S rfl) (S.ref rfl) (S.ok rfl) (iu rfl) s290 (by decide) ?_
    rintro z h2 ⟨e0, rfl⟩
    subst h2
    rw [c1, cj]
    refine b289_670 (S.ok rfl) (il S rfl) ?_
    rw [cj]
    exact inner 3 0 _ rfl (H5.st (by decide) (by decide) (by decide) rfl (by omega) rfl)
theorem s289_719 {Q : Option Value → q_Hp → Prop} {k0 : q_Hp} {l2 : Option Value} (cont : ∀ k x, p_cs [] [673] 10 10 k0 k → q_wp 2 289 749 [some (.ref 630), some (.int x), l2] [] k Q) : ∀ m j k, j + m = 10 → p_cs [] [673] 10 j k0 k → q_wp 2 289 719 [some (.ref 630), some (.int (nI j)), l2] [] k Q := by
  intro m
  induction m with
  | zero =>
    intro j k hj H
    obtain rfl : j = 10 := by omega
    exact b289_719 (fun _ => cont k _ H) (fun c => absurd (show (10 : Int32) ≤ nI 10 by decide) c)
  | succ m ih =>
    intro j k hj H
    refine b289_719 (fun c => ?_) (fun _ => ?_)
    · have := (nI_leI (a := 10) (by decide) (by omega)).mp c
      omega
    have S := H.d
    have i1 : (10 : Int32) + nI j = nI (10 + j) := nI_add 10 j
    have c1 : ((10 : Int32) + nI j : Int32).toNatClampNeg = 10 + j := by rw [i1, nI_clamp (by omega)]
    have cj : (nI j : Int32).toNatClampNeg = j := nI_clamp (by omega)
    refine b289_725 (v0 := 673) (S.ok rfl) (S.ref rfl) (S.ok rfl) (by rw [i1]; exact S.inN (n := 20) rfl (by omega) (by decide)) s290 (by decide) ?_
    rintro z h2 ⟨e0, rfl⟩
    subst h2
    refine b289_742 (S.ok rfl) (S.inN (n := 20) rfl (by omega) (by decide)) ?_
    rw [c1, cj, nI_1]
    exact ih (j + 1) _ (by omega) ((H.st (v := _) (by decide) (by decide) rfl (by omega) rfl).nx (fun a => Iff.rfl))
/-- all is taken over -/
def p_of (a : Nat) : Nat := if a < 641 then 12 else if a < 644 then 20 else if a < 645 then 80 else if a < 648 then 120 else if a < 649 then 20 else if a < 651 then 40 else if a < 654 then 120 else if a < 655 then 20 else if a < 659 then 80 else if a < 660 then 20 else if a < 666 then 160 else if a < 671 then 1300 else if a < 672 then 3900 else if a < 673 then 1300 else 10
def p_tk (k k' : q_Hp) : Prop := q_Sh k' ∧ q_Ef p_L k k' ∧ (∀ a, 638 ≤ a → a ≤ 673 → ∀ i, i < p_of a → qA k' a i = p_bk a (qA k a (p_of a + i))) ∧ (∀ a, 674 ≤ a → qA k' a = qA k a) ∧ (∀ j, ¬ (24 ≤ j ∧ j ≤ 27) → qI k' 630 j = qI k 630 j) ∧ ∀ j, j < 4 → qI k' 630 (24 + j) = qI k 630 (18 + j)
theorem s289 {k : q_Hp} (S : q_Sh k) : q_mV 2 289 [.ref 630] k (fun k' => p_tk k k') := by
  refine q_mV.of (q_recV rfl (S.ok rfl)) (fun Q fin => ?_)
  refine b289_0 (S.ok rfl) ?_
  have E0 : q_Ef p_L k (q_sI (q_sI (q_sI (q_sI k 630 24 (qI k 630 18)) 630 25 (qI (q_sI k 630 24 (qI k 630 18)) 630 19)) 630 26 (qI (q_sI (q_sI k 630 24 (qI k 630 18)) 630 25 (qI (q_sI k 630 24 (qI k 630 18)) 630 19)) 630 20)) 630 27 (qI (q_sI (q_sI (q_sI k 630 24 (qI k 630 18)) 630 25 (qI (q_sI k 630 24 (qI k 630 18)) 630 19)) 630 26 (qI (q_sI (q_sI k 630 24 (qI k 630 18)) 630 25 (qI (q_sI k 630 24 (qI k 630 18)) 630 19)) 630 20)) 630 21)) := (((q_Ef.sI (by decide)).trans (q_Ef.sI (by decide))).trans (q_Ef.sI (by decide))).trans (q_Ef.sI (by decide))
  have I0 : ∀ j, ¬ (24 ≤ j ∧ j ≤ 27) → qI (q_sI (q_sI (q_sI (q_sI k 630 24 (qI k 630 18)) 630 25 (qI (q_sI k 630 24 (qI k 630 18)) 630 19)) 630 26 (qI (q_sI (q_sI k 630 24 (qI k 630 18)) 630 25 (qI (q_sI k 630 24 (qI k 630 18)) 630 19)) 630 20)) 630 27 (qI (q_sI (q_sI (q_sI k 630 24 (qI k 630 18)) 630 25 (qI (q_sI k 630 24 (qI k 630 18)) 630 19)) 630 26 (qI (q_sI (q_sI k 630 24 (qI k 630 18)) 630 25 (qI (q_sI k 630 24 (qI k 630 18)) 630 19)) 630 20)) 630 21)) 630 j = qI k 630 j := by
    intro j hj
    rw [q_sI_n (by omega), q_sI_n (by omega), q_sI_n (by omega), q_sI_n (by omega)]
  have I1 : ∀ j, j < 4 → qI (q_sI (q_sI (q_sI (q_sI k 630 24 (qI k 630 18)) 630 25 (qI (q_sI k 630 24 (qI k 630 18)) 630 19)) 630 26 (qI (q_sI (q_sI k 630 24 (qI k 630 18)) 630 25 (qI (q_sI k 630 24 (qI k 630 18)) 630 19)) 630 20)) 630 27 (qI (q_sI (q_sI (q_sI k 630 24 (qI k 630 18)) 630 25 (qI (q_sI k 630 24 (qI k 630 18)) 630 19)) 630 26 (qI (q_sI (q_sI k 630 24 (qI k 630 18)) 630 25 (qI (q_sI k 630 24 (qI k 630 18)) 630 19)) 630 20)) 630 21)) 630 (24 + j) = qI k 630 (18 + j) := by
    intro j hj
    rcases (show j = 0 ∨ j = 1 ∨ j = 2 ∨ j = 3 by omega) with rfl | rfl | rfl | rfl
    · rw [q_sI_n (by omega), q_sI_n (by omega), q_sI_n (by omega), q_sI_e]
    · rw [q_sI_n (by omega), q_sI_n (by omega), q_sI_e, q_sI_n (by omega)]
    · rw [q_sI_n (by omega), q_sI_e, q_sI_n (by omega), q_sI_n (by omega)]
    · rw [q_sI_e, q_sI_n (by omega), q_sI_n (by omega), q_sI_n (by omega)]
  have A0 : qA (q_sI (q_sI (q_sI (q_sI k 630 24 (qI k 630 18)) 630 25 (qI (q_sI k 630 24 (qI k 630 18)) 630 19)) 630 26 (qI (q_sI (q_sI k 630 24 (qI k 630 18)) 630 25 (qI (q_sI k 630 24 (qI k 630 18)) 630 19)) 630 20)) 630 27 (qI (q_sI (q_sI (q_sI k 630 24 (qI k 630 18)) 630 25 (qI (q_sI k 630 24 (qI k 630 18)) 630 19)) 630 26 (qI (q_sI (q_sI k 630 24 (qI k 630 18)) 630 25 (qI (q_sI k 630 24 (qI k 630 18)) 630 19)) 630 20)) 630 21)) = qA k := rfl
  have S0 := E0.sh S
  generalize q_sI (q_sI (q_sI (q_sI k 630 24 (qI k 630 18)) 630 25 (qI (q_sI k 630 24 (qI k 630 18)) 630 19)) 630 26 (qI (q_sI (q_sI k 630 24 (qI k 630 18)) 630 25 (qI (q_sI k 630 24 (qI k 630 18)) 630 19)) 630 20)) 630 27 (qI (q_sI (q_sI (q_sI k 630 24 (qI k 630 18)) 630 25 (qI (q_sI k 630 24 (qI k 630 18)) 630 19)) 630 26 (qI (q_sI (q_sI k 630 24 (qI k 630 18)) 630 25 (qI (q_sI k 630 24 (qI k 630 18)) 630 19)) 630 20)) 630 21) = k0 at *
  refine s289_34 (k0 := k0) (fun k1 x H1 => b289_91 ?_) 12 0 k0 rfl (p_cs.i0 S0)
  refine s289_93 (k0 := k1) (fun k2 x H2 => b289_195 ?_) 20 0 k1 rfl (p_cs.i0 H1.d)
  refine s289_197 (k0 := k2) (fun k3 x H3 => b289_296 ?_) 80 0 k2 rfl (p_cs.i0 H2.d)
  refine s289_298 (k0 := k3) (fun k4 x H4 => b289_400 ?_) 120 0 k3 rfl (p_cs.i0 H3.d)
  refine s289_402 (k0 := k4) (fun k5 x H5 => b289_444 ?_) 40 0 k4 rfl (p_cs.i0 H4.d)
  refine s289_446 (k0 := k5) (fun k6 x H6 => b289_563 ?_) 160 0 k5 rfl (p_cs.i0 H5.d)
  refine s289_565 (k0 := k6) (fun k7 x l2 H7 => b289_717 ?_) 1300 0 k6 none rfl ⟨fun a ha => absurd ha (List.not_mem_nil), fun _ _ => ⟨fun i hi => absurd hi (Nat.not_lt_zero i), fun _ _ => rfl⟩, ⟨fun i hi => absurd hi (Nat.not_lt_zero i), fun _ _ => rfl⟩, fun _ _ _ _ => rfl, H6.d, rfl, q_Ef.rf⟩
  refine s289_719 (k0 := k7) (fun k8 x H8 => b289_749 (fin _ ?_)) 10 0 k7 rfl (p_cs.i0 H7.2.2.2.2.1)
  have n1 : ∀ a, ¬ (a = 638 ∨ a = 639 ∨ a = 640) → qA k1 a = qA k0 a := fun a h => H1.2.2.1 a List.not_mem_nil (by simp only [List.mem_cons, List.not_mem_nil, or_false]; exact h)
  have n2 : ∀ a, ¬ (a = 641 ∨ a = 642 ∨ a = 643 ∨ a = 648 ∨ a = 654 ∨ a = 659) → qA k2 a = qA k1 a := fun a h => H2.2.2.1 a List.not_mem_nil (by simp only [List.mem_cons, List.not_mem_nil, or_false]; exact h)
  have n3 : ∀ a, ¬ (a = 644 ∨ a = 655 ∨ a = 656 ∨ a = 657 ∨ a = 658) → qA k3 a = qA k2 a := fun a h => H3.2.2.1 a List.not_mem_nil (by simp only [List.mem_cons, List.not_mem_nil, or_false]; exact h)
  have n4 : ∀ a, ¬ (a = 645 ∨ a = 646 ∨ a = 647 ∨ a = 651 ∨ a = 652 ∨ a = 653) → qA k4 a = qA k3 a := fun a h => H4.2.2.1 a List.not_mem_nil (by simp only [List.mem_cons, List.not_mem_nil, or_false]; exact h)
  have n5 : ∀ a, ¬ (a = 649 ∨ a = 650) → qA k5 a = qA k4 a := fun a h => H5.2.2.1 a List.not_mem_nil (by simp only [List.mem_cons, List.not_mem_nil, or_false]; exact h)
  have n6 : ∀ a, ¬ (a = 660 ∨ a = 661 ∨ a = 662 ∨ a = 663 ∨ a = 664 ∨ a = 665) → qA k6 a = qA k5 a := fun a h => H6.2.2.1 a List.not_mem_nil (by simp only [List.mem_cons, List.not_mem_nil, or_false]; exact h)
  have n7 : ∀ a, ¬ (a = 666 ∨ a = 667 ∨ a = 668 ∨ a = 669 ∨ a = 670 ∨ a = 672) → ¬ a = 671 → qA k7 a = qA k6 a := fun a h h2 => H7.2.2.2.1 a List.not_mem_nil (by simp only [List.mem_cons, List.not_mem_nil, or_false]; exact h) h2
  have n8 : ∀ a, ¬ (a = 673) → qA k8 a = qA k7 a := fun a h => H8.2.2.1 a List.not_mem_nil (by simp only [List.mem_cons, List.not_mem_nil, or_false]; exact h)
  have hI : qI k8 = qI k0 := by rw [H8.2.2.2.2.1, H7.2.2.2.2.2.1, H6.2.2.2.2.1, H5.2.2.2.2.1, H4.2.2.2.2.1, H3.2.2.2.2.1, H2.2.2.2.2.1, H1.2.2.2.2.1]
  refine ⟨H8.d, E0.trans (H1.2.2.2.2.2.trans (H2.2.2.2.2.2.trans (H3.2.2.2.2.2.trans (H4.2.2.2.2.2.trans (H5.2.2.2.2.2.trans (H6.2.2.2.2.2.trans (H7.2.2.2.2.2.2.trans H8.2.2.2.2.2))))))), fun a ha ha2 i hi => ?_, fun a ha => ?_, fun j hj => by rw [hI]; exact I0 j hj, fun j hj => by rw [hI]; exact I1 j hj⟩
  · rw [← A0]
    by_cases g1 : a = 638 ∨ a = 639 ∨ a = 640
    · rw [n8 a (by omega), n7 a (by omega) (by omega), n6 a (by omega), n5 a (by omega), n4 a (by omega), n3 a (by omega), n2 a (by omega)]
      have : p_of a = 12 := by unfold p_of; rw [if_pos (by omega)]
      rw [this] at hi ⊢
      exact (H1.2.1 a (by simp only [List.mem_cons, List.not_mem_nil, or_false]; exact g1)).1 i hi
    by_cases g2 : a = 641 ∨ a = 642 ∨ a = 643 ∨ a = 648 ∨ a = 654 ∨ a = 659
    · rw [n8 a (by omega), n7 a (by omega) (by omega), n6 a (by omega), n5 a (by omega), n4 a (by omega), n3 a (by omega), ← n1 a g1]
      have : p_of a = 20 := by rcases g2 with rfl | rfl | rfl | rfl | rfl | rfl <;> rfl
      rw [this] at hi ⊢
      exact (H2.2.1 a (by simp only [List.mem_cons, List.not_mem_nil, or_false]; exact g2)).1 i hi
    by_cases g3 : a = 644 ∨ a = 655 ∨ a = 656 ∨ a = 657 ∨ a = 658
    · rw [n8 a (by omega), n7 a (by omega) (by omega), n6 a (by omega), n5 a (by omega), n4 a (by omega), ← n1 a g1, ← n2 a g2]
      have : p_of a = 80 := by rcases g3 with rfl | rfl | rfl | rfl | rfl <;> rfl
      rw [this] at hi ⊢
      exact (H3.2.1 a (by simp only [List.mem_cons, List.not_mem_nil, or_false]; exact g3)).1 i hi
    by_cases g4 : a = 645 ∨ a = 646 ∨ a = 647 ∨ a = 651 ∨ a = 652 ∨ a = 653
    · rw [n8 a (by omega), n7 a (by omega) (by omega), n6 a (by omega), n5 a (by omega), ← n1 a g1, ← n2 a g2, ← n3 a g3]
      have : p_of a = 120 := by rcases g4 with rfl | rfl | rfl | rfl | rfl | rfl <;> rfl
      rw [this] at hi ⊢
      exact (H4.2.1 a (by simp only [List.mem_cons, List.not_mem_nil, or_false]; exact g4)).1 i hi
    by_cases g5 : a = 649 ∨ a = 650
    · rw [n8 a (by omega), n7 a (by omega) (by omega), n6 a (by omega), ← n1 a g1, ← n2 a g2, ← n3 a g3, ← n4 a g4]
      have : p_of a = 40 := by rcases g5 with rfl | rfl <;> rfl
      rw [this] at hi ⊢
      exact (H5.2.1 a (by simp only [List.mem_cons, List.not_mem_nil, or_false]; exact g5)).1 i hi
    by_cases g6 : a = 660 ∨ a = 661 ∨ a = 662 ∨ a = 663 ∨ a = 664 ∨ a = 665
    · rw [n8 a (by omega), n7 a (by omega) (by omega), ← n1 a g1, ← n2 a g2, ← n3 a g3, ← n4 a g4, ← n5 a g5]
      have : p_of a = 160 := by rcases g6 with rfl | rfl | rfl | rfl | rfl | rfl <;> rfl
      rw [this] at hi ⊢
      exact (H6.2.1 a (by simp only [List.mem_cons, List.not_mem_nil, or_false]; exact g6)).1 i hi
    by_cases g7 : a = 666 ∨ a = 667 ∨ a = 668 ∨ a = 669 ∨ a = 670 ∨ a = 672
    · rw [n8 a (by omega), ← n1 a g1, ← n2 a g2, ← n3 a g3, ← n4 a g4, ← n5 a g5, ← n6 a g6]
      have : p_of a = 1300 := by rcases g7 with rfl | rfl | rfl | rfl | rfl | rfl <;> rfl
      rw [this] at hi ⊢
      exact (H7.2.1 a (by simp only [List.mem_cons, List.not_mem_nil, or_false]; exact g7)).1 i hi
    by_cases g8 : a = 671
    · rw [n8 a (by omega), ← n1 a g1, ← n2 a g2, ← n3 a g3, ← n4 a g4, ← n5 a g5, ← n6 a g6]
      subst g8
      exact H7.2.2.1.1 i hi
    · rw [← n1 a g1, ← n2 a g2, ← n3 a g3, ← n4 a g4, ← n5 a g5, ← n6 a g6, ← n7 a g7 g8]
      have g9 : a = 673 := by omega
      subst g9
      exact (H8.2.1 673 (by simp)).1 i hi
  · rw [n8 a (by omega), n7 a (by omega) (by omega), n6 a (by omega), n5 a (by omega), n4 a (by omega), n3 a (by omega), n2 a (by omega), n1 a (by omega), A0]
/-- an empty diagram, nothing kept, nothing applied, no run, no hand -/
def p_mt (k k' : q_Hp) : Prop := q_Sh k' ∧ q_Ef [630, 691, 694] k k' ∧ (∀ i, i < 156 → qA k' 691 i = if i < 12 ∨ (36 ≤ i ∧ i < 76) then -1 else 0) ∧ (∀ i, i < 4 → qA k' 694 i = 0) ∧ (∀ j, (j = 91 ∨ j = 92 ∨ j = 95 ∨ j = 96 ∨ j = 104 ∨ j = 105 ∨ j = 106) → qI k' 630 j = 0) ∧ ∀ j, ¬ (j = 91 ∨ j = 92 ∨ j = 95 ∨ j = 96 ∨ j = 104 ∨ j = 105 ∨ j = 106) → qI k' 630 j = qI k 630 j
theorem s291 {k : q_Hp} (S : q_Sh k) : q_mV 0 291 [.ref 630] k (fun k' => p_mt k k') := by
  refine q_mV.of (q_recV rfl (S.ok rfl)) (fun Q fin => ?_)
  have l4 : ∀ k3, q_Sh k3 → q_Ef [691] k k3 → qI k3 = qI k → (∀ i, i < 156 → qA k3 691 i = if i < 12 ∨ (36 ≤ i ∧ i < 76) then -1 else 0) → ∀ m j k4, j + m = 4 → q_Sh k4 → q_Ef [694] k3 k4 → qI k4 = qI k3 → (∀ i, i < j → qA k4 694 i = 0) → q_wp 0 291 69 [some (.ref 630), some (.int (nI j))] [] k4 Q := by
    intro k3 S3 E3 I3 H3 m
    induction m with
    | zero =>
      intro j k4 hj S4 E4 I4 H4
      obtain rfl : j = 4 := by omega
      refine b291_69 (fun _ => b291_87 (S4.ok rfl) (fin _ ⟨S4, ?_, fun i hi => ?_, fun i hi => H4 i hi, fun j hj => ?_, fun j hj => ?_⟩)) (fun c => absurd (show (4 : Int32) ≤ nI 4 by decide) c)
      · exact ((E3.wide (by decide)).trans (E4.wide (by decide))).trans (((((((q_Ef.sI (by decide)).trans (q_Ef.sI (by decide))).trans (q_Ef.sI (by decide))).trans (q_Ef.sI (by decide))).trans (q_Ef.sI (by decide))).trans (q_Ef.sI (by decide))).trans (q_Ef.sI (by decide)))
      · show qA k4 691 i = _
        rw [E4.A (show 691 ∉ [694] by decide)]
        exact H3 i hi
      · rcases hj with rfl | rfl | rfl | rfl | rfl | rfl | rfl <;> rfl
      · rw [q_sI_n (by omega), q_sI_n (by omega), q_sI_n (by omega), q_sI_n (by omega), q_sI_n (by omega), q_sI_n (by omega), q_sI_n (by omega), I4, I3]
    | succ m ih =>
      intro j k4 hj S4 E4 I4 H4
      refine b291_69 (fun c => ?_) (fun _ => b291_74 (v0 := 694) (S4.ok rfl) (S4.ref rfl) (S4.ok rfl) (S4.inN (n := 4) rfl (by omega) (by decide)) ?_)
      · have := (nI_leI (a := 4) (by decide) (by omega)).mp c
        omega
      rw [nI_clamp (by omega), nI_1, show vp_nar .boolean (0 : Int32) = 0 by decide]
      refine ih (j + 1) _ (by omega) S4.sA (E4.trans (q_Ef.sA (by decide))) I4 (fun i hi => ?_)
      rw [qA_sA]
      by_cases h9 : i = j
      · rw [if_pos ⟨rfl, h9⟩]
      · rw [if_neg (fun h8 => h9 h8.2)]
        exact H4 i (by omega)
  have l3 : ∀ m j k3, j + m = 40 → q_Sh k3 → q_Ef [691] k k3 → qI k3 = qI k → (∀ i, i < 156 → qA k3 691 i = if i < 12 ∨ (36 ≤ i ∧ i < 36 + j) then -1 else 0) → q_wp 0 291 45 [some (.ref 630), some (.int (nI j))] [] k3 Q := by
    intro m
    induction m with
    | zero =>
      intro j k3 hj S3 E3 I3 H3
      obtain rfl : j = 40 := by omega
      exact b291_45 (fun _ => b291_67 (l4 k3 S3 E3 I3 H3 4 0 k3 rfl S3 q_Ef.rf rfl (fun i hi => absurd hi (Nat.not_lt_zero i)))) (fun c => absurd (show (40 : Int32) ≤ nI 40 by decide) c)
    | succ m ih =>
      intro j k3 hj S3 E3 I3 H3
      have i1 : (36 : Int32) + nI j = nI (36 + j) := nI_add 36 j
      refine b291_45 (fun c => ?_) (fun _ => b291_51 (v0 := 691) (S3.ok rfl) (S3.ref rfl) (S3.ok rfl) (by rw [i1]; exact S3.inN (n := 156) rfl (by omega) (by decide)) ?_)
      · have := (nI_leI (a := 40) (by decide) (by omega)).mp c
        omega
      rw [i1, nI_clamp (by omega), nI_1]
      refine ih (j + 1) _ (by omega) S3.sA (E3.trans (q_Ef.sA (by decide))) I3 (fun i hi => ?_)
      rw [qA_sA]
      by_cases h9 : i = 36 + j
      · rw [if_pos ⟨rfl, h9⟩, if_pos (by omega)]
      · rw [if_neg (fun h8 => h9 h8.2), H3 i hi]
        by_cases h7 : i < 12 ∨ (36 ≤ i ∧ i < 36 + j)
        · rw [if_pos h7, if_pos (by omega)]
        · rw [if_neg h7, if_neg (by omega)]
  have l2 : ∀ m j k3, j + m = 12 → q_Sh k3 → q_Ef [691] k k3 → qI k3 = qI k → (∀ i, i < 156 → qA k3 691 i = if i < j then -1 else 0) → q_wp 0 291 24 [some (.ref 630), some (.int (nI j))] [] k3 Q := by
    intro m
    induction m with
    | zero =>
      intro j k3 hj S3 E3 I3 H3
      obtain rfl : j = 12 := by omega
      refine b291_24 (fun _ => b291_43 (l3 40 0 k3 rfl S3 E3 I3 (fun i hi => ?_))) (fun c => absurd (show (12 : Int32) ≤ nI 12 by decide) c)
      rw [H3 i hi]
      by_cases h7 : i < 12
      · rw [if_pos h7, if_pos (by omega)]
      · rw [if_neg h7, if_neg (by omega)]
    | succ m ih =>
      intro j k3 hj S3 E3 I3 H3
      refine b291_24 (fun c => ?_) (fun _ => b291_30 (v0 := 691) (S3.ok rfl) (S3.ref rfl) (S3.ok rfl) (S3.inN (n := 156) rfl (by omega) (by decide)) ?_)
      · have := (nI_leI (a := 12) (by decide) (by omega)).mp c
        omega
      rw [nI_clamp (by omega), nI_1]
      refine ih (j + 1) _ (by omega) S3.sA (E3.trans (q_Ef.sA (by decide))) I3 (fun i hi => ?_)
      rw [qA_sA]
      by_cases h9 : i = j
      · rw [if_pos ⟨rfl, h9⟩, if_pos (by omega)]
      · rw [if_neg (fun h8 => h9 h8.2), H3 i hi]
        by_cases h7 : i < j
        · rw [if_pos h7, if_pos (by omega)]
        · rw [if_neg h7, if_neg (by omega)]
  have l1 : ∀ m j k3, j + m = 156 → q_Sh k3 → q_Ef [691] k k3 → qI k3 = qI k → (∀ i, i < j → qA k3 691 i = 0) → q_wp 0 291 2 [some (.ref 630), some (.int (nI j))] [] k3 Q := by
    intro m
    induction m with
    | zero =>
      intro j k3 hj S3 E3 I3 H3
      obtain rfl : j = 156 := by omega
      refine b291_2 (fun _ => b291_22 (l2 12 0 k3 rfl S3 E3 I3 (fun i hi => ?_))) (fun c => absurd (show (156 : Int32) ≤ nI 156 by decide) c)
      rw [if_neg (Nat.not_lt_zero i)]
      exact H3 i hi
    | succ m ih =>
      intro j k3 hj S3 E3 I3 H3
      refine b291_2 (fun c => ?_) (fun _ => b291_9 (v0 := 691) (S3.ok rfl) (S3.ref rfl) (S3.ok rfl) (S3.inN (n := 156) rfl (by omega) (by decide)) ?_)
      · have := (nI_leI (a := 156) (by decide) (by omega)).mp c
        omega
      rw [nI_clamp (by omega), nI_1]
      refine ih (j + 1) _ (by omega) S3.sA (E3.trans (q_Ef.sA (by decide))) I3 (fun i hi => ?_)
      rw [qA_sA]
      by_cases h9 : i = j
      · rw [if_pos ⟨rfl, h9⟩]
      · rw [if_neg (fun h8 => h9 h8.2)]
        exact H3 i (by omega)
  exact b291_0 (l1 156 0 k rfl S q_Ef.rf rfl (fun i hi => absurd hi (Nat.not_lt_zero i)))
