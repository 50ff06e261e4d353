/-! THE CONSTRUCTORS: diagrams, builder, matcher, runner -/
section JC
variable {stk : List (Nat × List Nat)} {f : j_F} {h : q_Hp} {l1 : List Nat}
def jA (f : j_F) (c : Nat) (g : Nat → Int32) : j_F := (f.1, (fun x => if x = c then g else f.2.1 x), f.2.2)
theorem j_J.wA {N c : Nat} {g : Nat → Int32} (J : j_J N stk f h) (hc : c ≤ N) : j_J N stk (jA f c g) (q_wA h c g) := by
  obtain ⟨a, b, r, ⟨d1, d2, d3⟩, e⟩ := J
  refine ⟨a, b, r, ⟨d1, ?_, d3⟩, fun x y hx => ⟨(e x y hx).1, ?_, (e x y hx).2.2⟩⟩
  · funext x
    rw [qA_wA, d2]
    rfl
  · show (if x = c then g else f.2.1 x) y = 0
    rw [if_neg (by omega)]
    exact (e x y hx).2.1
theorem j60_597 (J : j_J 597 [(597, []), (1, l1)] f h) : q_mV 1 60 [.ref 597] h (fun h' => ∃ g, (∀ i, i < 156 → g i = d_mt i) ∧ j_J 598 [(1, l1)] (jA f 598 g) h') := by
  refine q_mV.of (q_recV rfl (J.ok (by decide) rfl)) (fun Q fin => ?_)
  refine wp_loc rfl rfl ?_
  refine wp_oini rfl rfl (by decide) (by decide) rfl (by decide) ?_
  refine wp_loc rfl rfl ?_
  refine wp_sipush (v := 156) rfl (by decide) ?_
  refine wp_fa (m := 156) rfl rfl (by decide) rfl rfl (Or.inr ⟨rfl, rfl⟩) rfl rfl J (by decide) rfl rfl rfl rfl rfl (by decide) (fun h J => ?_)
  replace J := J.popd (by decide)
  refine wp_loc rfl rfl ?_
  have dg : q_Dg h 597 598 := ⟨J.ok (by decide) rfl, J.R (by decide) rfl (by decide) (by
    intro e he h9
    simp only [List.mem_cons, List.not_mem_nil, or_false] at he
    subst he
    exact absurd (show 1 = 597 from h9) (by decide)), J.ok (by decide) rfl, J.len (by decide) rfl⟩
  refine wp_callV (n := 0) (av := [.ref 597]) rfl rfl rfl (by decide) rfl rfl rfl (Nat.le_refl _) (s61 dg) ?_
  rintro h' ⟨g, rfl, hg⟩
  exact wp_ret rfl rfl (fin _ ⟨g, hg, J.wA (by decide)⟩)
theorem j60_622 (J : j_J 622 [(622, []), (1, l1)] f h) : q_mV 1 60 [.ref 622] h (fun h' => ∃ g, (∀ i, i < 156 → g i = d_mt i) ∧ j_J 623 [(1, l1)] (jA f 623 g) h') := by
  refine q_mV.of (q_recV rfl (J.ok (by decide) rfl)) (fun Q fin => ?_)
  refine wp_loc rfl rfl ?_
  refine wp_oini rfl rfl (by decide) (by decide) rfl (by decide) ?_
  refine wp_loc rfl rfl ?_
  refine wp_sipush (v := 156) rfl (by decide) ?_
  refine wp_fa (m := 156) rfl rfl (by decide) rfl rfl (Or.inr ⟨rfl, rfl⟩) rfl rfl J (by decide) rfl rfl rfl rfl rfl (by decide) (fun h J => ?_)
  replace J := J.popd (by decide)
  refine wp_loc rfl rfl ?_
  have dg : q_Dg h 622 623 := ⟨J.ok (by decide) rfl, J.R (by decide) rfl (by decide) (by
    intro e he h9
    simp only [List.mem_cons, List.not_mem_nil, or_false] at he
    subst he
    exact absurd (show 1 = 622 from h9) (by decide)), J.ok (by decide) rfl, J.len (by decide) rfl⟩
  refine wp_callV (n := 0) (av := [.ref 622]) rfl rfl rfl (by decide) rfl rfl rfl (Nat.le_refl _) (s61 dg) ?_
  rintro h' ⟨g, rfl, hg⟩
  exact wp_ret rfl rfl (fin _ ⟨g, hg, J.wA (by decide)⟩)
theorem j22 (J : j_J 589 [(589, []), (1, l1)] f h) : q_mV 2 22 [.ref 589, .ref 3, .ref 8, .ref 300] h (fun h' => j_J 596 [(1, l1)] f h') := by
  refine q_mV.of (q_recV rfl (J.ok (by decide) rfl)) (fun Q fin => ?_)
  refine wp_loc rfl rfl ?_
  refine wp_oini rfl rfl (by decide) (by decide) rfl (by decide) ?_
  refine wp_loc rfl rfl ?_
  refine wp_bipush (v := 12) rfl (by decide) ?_
  refine wp_fa (m := 12) rfl rfl (by decide) rfl rfl (Or.inr ⟨rfl, rfl⟩) rfl rfl J (by decide) rfl rfl rfl rfl rfl (by decide) (fun h J => ?_)
  refine wp_loc rfl rfl ?_
  refine wp_bipush (v := 12) rfl (by decide) ?_
  refine wp_fa (m := 12) rfl rfl (by decide) rfl rfl (Or.inr ⟨rfl, rfl⟩) rfl rfl J (by decide) rfl rfl rfl rfl rfl (by decide) (fun h J => ?_)
  refine wp_loc rfl rfl ?_
  refine wp_bipush (v := 22) rfl (by decide) ?_
  refine wp_fa (m := 22) rfl rfl (by decide) rfl rfl (Or.inr ⟨rfl, rfl⟩) rfl rfl J (by decide) rfl rfl rfl rfl rfl (by decide) (fun h J => ?_)
  refine wp_loc rfl rfl ?_
  refine wp_bipush (v := 22) rfl (by decide) ?_
  refine wp_fa (m := 22) rfl rfl (by decide) rfl rfl (Or.inr ⟨rfl, rfl⟩) rfl rfl J (by decide) rfl rfl rfl rfl rfl (by decide) (fun h J => ?_)
  refine wp_loc rfl rfl ?_
  refine wp_bipush (v := 22) rfl (by decide) ?_
  refine wp_fa (m := 22) rfl rfl (by decide) rfl rfl (Or.inr ⟨rfl, rfl⟩) rfl rfl J (by decide) rfl rfl rfl rfl rfl (by decide) (fun h J => ?_)
  refine wp_loc rfl rfl ?_
  refine wp_bipush (v := 22) rfl (by decide) ?_
  refine wp_fa (m := 22) rfl rfl (by decide) rfl rfl (Or.inr ⟨rfl, rfl⟩) rfl rfl J (by decide) rfl rfl rfl rfl rfl (by decide) (fun h J => ?_)
  refine wp_loc rfl rfl ?_
  refine wp_bipush (v := 22) rfl (by decide) ?_
  refine wp_fa (m := 22) rfl rfl (by decide) rfl rfl (Or.inr ⟨rfl, rfl⟩) rfl rfl J (by decide) rfl rfl rfl rfl rfl (by decide) (fun h J => ?_)
  refine wp_loc rfl rfl ?_
  refine wp_loc rfl rfl ?_
  refine wp_fr rfl rfl (Or.inr ⟨rfl, rfl⟩) rfl rfl J (by decide) rfl rfl (fun h J => ?_)
  refine wp_loc rfl rfl ?_
  refine wp_loc rfl rfl ?_
  refine wp_fr rfl rfl (Or.inr ⟨rfl, rfl⟩) rfl rfl J (by decide) rfl rfl (fun h J => ?_)
  refine wp_loc rfl rfl ?_
  refine wp_loc rfl rfl ?_
  refine wp_fr rfl rfl (Or.inr ⟨rfl, rfl⟩) rfl rfl J (by decide) rfl rfl (fun h J => ?_)
  refine wp_loc rfl rfl ?_
  refine wp_loc rfl rfl ?_
  refine wp_iconst (v := 0) rfl (by decide) ?_
  refine wp_callR (n := 1) (av := [.ref 300, .int 0]) rfl rfl rfl (by decide) rfl rfl rfl (Nat.le_refl _) (j9 (b := 300) (Or.inr rfl) J (by decide) (by
    intro e he
    simp only [List.mem_cons, List.not_mem_nil, or_false] at he
    rcases he with rfl | rfl
    · exact ⟨(show ¬ 589 = 300 by decide), (show ¬ 589 = 304 by decide)⟩
    · exact ⟨(show ¬ 1 = 300 by decide), (show ¬ 1 = 304 by decide)⟩)) ?_
  rintro z h2 ⟨e0, rfl⟩
  subst e0
  refine wp_fr rfl rfl (Or.inr ⟨rfl, rfl⟩) rfl rfl J (by decide) rfl rfl (fun h J => ?_)
  exact wp_ret rfl rfl (fin _ (J.popd (by decide)))
theorem j90 (J : j_J 601 [(601, []), (1, l1)] f h) : q_mV 2 90 [.ref 601, .ref 597, .ref 11] h (fun h' => j_J 609 [(1, l1)] f h') := by
  refine q_mV.of (q_recV rfl (J.ok (by decide) rfl)) (fun Q fin => ?_)
  refine wp_loc rfl rfl ?_
  refine wp_oini rfl rfl (by decide) (by decide) rfl (by decide) ?_
  refine wp_loc rfl rfl ?_
  refine wp_iconst (v := 4) rfl (by decide) ?_
  refine wp_fa (m := 4) rfl rfl (by decide) rfl rfl (Or.inr ⟨rfl, rfl⟩) rfl rfl J (by decide) rfl rfl rfl rfl rfl (by decide) (fun h J => ?_)
  refine wp_loc rfl rfl ?_
  refine wp_bipush (v := 6) rfl (by decide) ?_
  refine wp_fa (m := 6) rfl rfl (by decide) rfl rfl (Or.inr ⟨rfl, rfl⟩) rfl rfl J (by decide) rfl rfl rfl rfl rfl (by decide) (fun h J => ?_)
  refine wp_loc rfl rfl ?_
  refine wp_iconst (v := 4) rfl (by decide) ?_
  refine wp_fa (m := 4) rfl rfl (by decide) rfl rfl (Or.inr ⟨rfl, rfl⟩) rfl rfl J (by decide) rfl rfl rfl rfl rfl (by decide) (fun h J => ?_)
  refine wp_loc rfl rfl ?_
  refine wp_iconst (v := 2) rfl (by decide) ?_
  refine wp_fa (m := 2) rfl rfl (by decide) rfl rfl (Or.inr ⟨rfl, rfl⟩) rfl rfl J (by decide) rfl rfl rfl rfl rfl (by decide) (fun h J => ?_)
  refine wp_loc rfl rfl ?_
  refine wp_sipush (v := 144) rfl (by decide) ?_
  refine wp_fa (m := 144) rfl rfl (by decide) rfl rfl (Or.inr ⟨rfl, rfl⟩) rfl rfl J (by decide) rfl rfl rfl rfl rfl (by decide) (fun h J => ?_)
  refine wp_loc rfl rfl ?_
  refine wp_bipush (v := 64) rfl (by decide) ?_
  refine wp_fa (m := 64) rfl rfl (by decide) rfl rfl (Or.inr ⟨rfl, rfl⟩) rfl rfl J (by decide) rfl rfl rfl rfl rfl (by decide) (fun h J => ?_)
  refine wp_loc rfl rfl ?_
  refine wp_iconst (v := 4) rfl (by decide) ?_
  refine wp_fa (m := 4) rfl rfl (by decide) rfl rfl (Or.inr ⟨rfl, rfl⟩) rfl rfl J (by decide) rfl rfl rfl rfl rfl (by decide) (fun h J => ?_)
  refine wp_loc rfl rfl ?_
  refine wp_bipush (v := 6) rfl (by decide) ?_
  refine wp_fa (m := 6) rfl rfl (by decide) rfl rfl (Or.inr ⟨rfl, rfl⟩) rfl rfl J (by decide) rfl rfl rfl rfl rfl (by decide) (fun h J => ?_)
  refine wp_loc rfl rfl ?_
  refine wp_loc rfl rfl ?_
  refine wp_fr rfl rfl (Or.inr ⟨rfl, rfl⟩) rfl rfl J (by decide) rfl rfl (fun h J => ?_)
  refine wp_loc rfl rfl ?_
  refine wp_loc rfl rfl ?_
  refine wp_fr rfl rfl (Or.inr ⟨rfl, rfl⟩) rfl rfl J (by decide) rfl rfl (fun h J => ?_)
  refine wp_loc rfl rfl ?_
  refine wp_loc rfl rfl ?_
  refine wp_iconst (v := 0) rfl (by decide) ?_
  refine wp_callR (n := 1) (av := [.ref 11, .int 0]) rfl rfl rfl (by decide) rfl rfl rfl (Nat.le_refl _) (j9 (b := 11) (Or.inl rfl) J (by decide) (by
    intro e he
    simp only [List.mem_cons, List.not_mem_nil, or_false] at he
    rcases he with rfl | rfl
    · exact ⟨(show ¬ 601 = 11 by decide), (show ¬ 601 = 15 by decide)⟩
    · exact ⟨(show ¬ 1 = 11 by decide), (show ¬ 1 = 15 by decide)⟩)) ?_
  rintro z h2 ⟨e0, rfl⟩
  subst e0
  refine wp_fr rfl rfl (Or.inr ⟨rfl, rfl⟩) rfl rfl J (by decide) rfl rfl (fun h J => ?_)
  exact wp_ret rfl rfl (fin _ (J.popd (by decide)))
theorem j138 (J : j_J 614 ((614, []) :: stk) f h) : q_mV 1 138 [.ref 614, .ref 597, .ref 610, .ref 599, .ref 11] h (fun h' => j_J 619 stk (q_up f.1 614 6 (-1), f.2) h') := by
  refine q_mV.of (q_recV rfl (J.ok (by decide) rfl)) (fun Q fin => ?_)
  refine wp_loc rfl rfl ?_
  refine wp_oini rfl rfl (by decide) (by decide) rfl (by decide) ?_
  refine wp_loc rfl rfl ?_
  refine wp_iconst (v := (-1)) rfl (by decide) ?_
  refine wp_putI rfl rfl (Or.inr ⟨rfl, rfl⟩) rfl (fun q => absurd q (by decide)) (J.ok (by decide) rfl) ?_
  replace J := J.sI (o := 614) (j := 6) (v := -1) (by decide)
  refine wp_loc rfl rfl ?_
  refine wp_sipush (v := 180) rfl (by decide) ?_
  refine wp_fa (m := 180) rfl rfl (by decide) rfl rfl (Or.inr ⟨rfl, rfl⟩) rfl rfl J (by decide) rfl rfl rfl rfl rfl (by decide) (fun h J => ?_)
  refine wp_loc rfl rfl ?_
  refine wp_sipush (v := 180) rfl (by decide) ?_
  refine wp_fa (m := 180) rfl rfl (by decide) rfl rfl (Or.inr ⟨rfl, rfl⟩) rfl rfl J (by decide) rfl rfl rfl rfl rfl (by decide) (fun h J => ?_)
  refine wp_loc rfl rfl ?_
  refine wp_sipush (v := 180) rfl (by decide) ?_
  refine wp_fa (m := 180) rfl rfl (by decide) rfl rfl (Or.inr ⟨rfl, rfl⟩) rfl rfl J (by decide) rfl rfl rfl rfl rfl (by decide) (fun h J => ?_)
  refine wp_loc rfl rfl ?_
  refine wp_sipush (v := 180) rfl (by decide) ?_
  refine wp_fa (m := 180) rfl rfl (by decide) rfl rfl (Or.inr ⟨rfl, rfl⟩) rfl rfl J (by decide) rfl rfl rfl rfl rfl (by decide) (fun h J => ?_)
  refine wp_loc rfl rfl ?_
  refine wp_sipush (v := 28080) rfl (by decide) ?_
  refine wp_fa (m := 28080) rfl rfl (by decide) rfl rfl (Or.inr ⟨rfl, rfl⟩) rfl rfl J (by decide) rfl rfl rfl rfl rfl (by decide) (fun h J => ?_)
  refine wp_loc rfl rfl ?_
  refine wp_loc rfl rfl ?_
  refine wp_fr rfl rfl (Or.inr ⟨rfl, rfl⟩) rfl rfl J (by decide) rfl rfl (fun h J => ?_)
  refine wp_loc rfl rfl ?_
  refine wp_loc rfl rfl ?_
  refine wp_fr rfl rfl (Or.inr ⟨rfl, rfl⟩) rfl rfl J (by decide) rfl rfl (fun h J => ?_)
  refine wp_loc rfl rfl ?_
  refine wp_loc rfl rfl ?_
  refine wp_fr rfl rfl (Or.inr ⟨rfl, rfl⟩) rfl rfl J (by decide) rfl rfl (fun h J => ?_)
  refine wp_loc rfl rfl ?_
  refine wp_loc rfl rfl ?_
  refine wp_fr rfl rfl (Or.inr ⟨rfl, rfl⟩) rfl rfl J (by decide) rfl rfl (fun h J => ?_)
  exact wp_ret rfl rfl (fin _ (J.popd (by decide)))
end JC
