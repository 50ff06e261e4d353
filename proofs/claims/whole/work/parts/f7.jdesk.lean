/-! THE CONSTRUCTORS: the desk -/
section JC
variable {f : j_F} {h : q_Hp}
def j_f1 (f : j_F) (w : Nat → Int64) (g g2 : Nat → Int32) : j_F := jA (q_up (jA (jL (q_up f.1 1 2 (-1), f.2) 4 w) 598 g).1 614 6 (-1), (jA (jL (q_up f.1 1 2 (-1), f.2) 4 w) 598 g).2) 623 g2
set_option maxRecDepth 20000 in
theorem j210 (J : j_J 1 [(1, [])] f h) : q_mV 10 210 [.ref 1] h (fun h' => ∃ w g g2, (∀ j, j < 25 → w j = t_W j) ∧ (∀ i, i < 156 → g i = d_mt i) ∧ (∀ i, i < 156 → g2 i = d_mt i) ∧ j_J 629 [] (j_f1 f w g g2) h') := by
  refine q_mV.of (q_recV rfl (J.ok (by decide) rfl)) (fun Q fin => ?_)
  refine wp_loc rfl rfl ?_
  refine wp_oini rfl rfl (by decide) (by decide) rfl (by decide) ?_
  refine wp_loc rfl rfl ?_
  refine wp_sipush (v := 4000) rfl (by decide) ?_
  refine wp_fa (m := 4000) rfl rfl (by decide) rfl rfl (Or.inr ⟨rfl, rfl⟩) rfl rfl J (by decide) rfl rfl rfl rfl rfl (by decide) (fun h J => ?_)
  refine wp_loc rfl rfl ?_
  refine wp_iconst (v := (-1)) rfl (by decide) ?_
  refine wp_putI rfl rfl (Or.inr ⟨rfl, rfl⟩) rfl (fun q => absurd q (by decide)) (J.ok (by decide) rfl) ?_
  replace J := J.sI (o := 1) (j := 2) (v := -1) (by decide)
  refine wp_loc rfl rfl ?_
  refine wp_fn rfl rfl J rfl (by decide) (fun h J => ?_)
  refine wp_stk rfl rfl rfl ?_
  refine wp_callV (n := 9) (av := [.ref 3]) (rest := [.ref 3, .ref 1]) rfl rfl rfl (by decide) rfl rfl rfl (by decide) (j186 (by intro e he; simp only [List.mem_cons, List.not_mem_nil, or_false] at he; subst he; exact (show ¬ 1 = 3 by decide)) J) ?_
  rintro h ⟨w, hw, J⟩
  refine wp_fr rfl rfl (Or.inr ⟨rfl, rfl⟩) rfl rfl J (by decide) rfl rfl (fun h J => ?_)
  refine wp_loc rfl rfl ?_
  refine wp_fn rfl rfl J rfl (by decide) (fun h J => ?_)
  refine wp_stk rfl rfl rfl ?_
  refine wp_loc rfl rfl ?_
  refine wp_getR (v := 3) rfl rfl rfl rfl (J.ok (by decide) rfl) (J.R (by decide) rfl (by decide) (by
    intro e he h9
    simp only [List.mem_cons, List.not_mem_nil, or_false] at he
    rcases he with rfl | rfl
    · exact absurd (show 8 = 1 from h9) (by decide)
    · decide)) ?_
  refine wp_callV (n := 9) (av := [.ref 8, .ref 3]) (rest := [.ref 8, .ref 1]) rfl rfl rfl (by decide) rfl rfl rfl (by decide) (j160 J) (fun h J => ?_)
  refine wp_fr rfl rfl (Or.inr ⟨rfl, rfl⟩) rfl rfl J (by decide) rfl rfl (fun h J => ?_)
  refine wp_loc rfl rfl ?_
  refine wp_fn rfl rfl J rfl (by decide) (fun h J => ?_)
  refine wp_stk rfl rfl rfl ?_
  refine wp_callV (n := 9) (av := [.ref 11]) (rest := [.ref 11, .ref 1]) rfl rfl rfl (by decide) rfl rfl rfl (by decide) (j0_11 J) (fun h J => ?_)
  refine wp_fr rfl rfl (Or.inr ⟨rfl, rfl⟩) rfl rfl J (by decide) rfl rfl (fun h J => ?_)
  refine wp_loc rfl rfl ?_
  refine wp_fn rfl rfl J rfl (by decide) (fun h J => ?_)
  refine wp_stk rfl rfl rfl ?_
  refine wp_callV (n := 9) (av := [.ref 300]) (rest := [.ref 300, .ref 1]) rfl rfl rfl (by decide) rfl rfl rfl (by decide) (j0_300 J) (fun h J => ?_)
  refine wp_fr rfl rfl (Or.inr ⟨rfl, rfl⟩) rfl rfl J (by decide) rfl rfl (fun h J => ?_)
  refine wp_loc rfl rfl ?_
  refine wp_fn rfl rfl J rfl (by decide) (fun h J => ?_)
  refine wp_stk rfl rfl rfl ?_
  refine wp_loc rfl rfl ?_
  refine wp_getR (v := 3) rfl rfl rfl rfl (J.ok (by decide) rfl) (J.R (by decide) rfl (by decide) (by
    intro e he h9
    simp only [List.mem_cons, List.not_mem_nil, or_false] at he
    rcases he with rfl | rfl
    · exact absurd (show 589 = 1 from h9) (by decide)
    · decide)) ?_
  refine wp_loc rfl rfl ?_
  refine wp_getR (v := 8) rfl rfl rfl rfl (J.ok (by decide) rfl) (J.R (by decide) rfl (by decide) (by
    intro e he h9
    simp only [List.mem_cons, List.not_mem_nil, or_false] at he
    rcases he with rfl | rfl
    · exact absurd (show 589 = 1 from h9) (by decide)
    · decide)) ?_
  refine wp_loc rfl rfl ?_
  refine wp_getR (v := 300) rfl rfl rfl rfl (J.ok (by decide) rfl) (J.R (by decide) rfl (by decide) (by
    intro e he h9
    simp only [List.mem_cons, List.not_mem_nil, or_false] at he
    rcases he with rfl | rfl
    · exact absurd (show 589 = 1 from h9) (by decide)
    · decide)) ?_
  refine wp_callV (n := 9) (av := [.ref 589, .ref 3, .ref 8, .ref 300]) (rest := [.ref 589, .ref 1]) rfl rfl rfl (by decide) rfl rfl rfl (by decide) (j22 J) (fun h J => ?_)
  refine wp_fr rfl rfl (Or.inr ⟨rfl, rfl⟩) rfl rfl J (by decide) rfl rfl (fun h J => ?_)
  refine wp_loc rfl rfl ?_
  refine wp_fn rfl rfl J rfl (by decide) (fun h J => ?_)
  refine wp_stk rfl rfl rfl ?_
  refine wp_callV (n := 9) (av := [.ref 597]) (rest := [.ref 597, .ref 1]) rfl rfl rfl (by decide) rfl rfl rfl (by decide) (j60_597 J) ?_
  rintro h ⟨g597, hg597, J⟩
  refine wp_fr rfl rfl (Or.inr ⟨rfl, rfl⟩) rfl rfl J (by decide) rfl rfl (fun h J => ?_)
  refine wp_loc rfl rfl ?_
  refine wp_fn rfl rfl J rfl (by decide) (fun h J => ?_)
  refine wp_stk rfl rfl rfl ?_
  refine wp_loc rfl rfl ?_
  refine wp_getR (v := 597) rfl rfl rfl rfl (J.ok (by decide) rfl) (J.R (by decide) rfl (by decide) (by
    intro e he h9
    simp only [List.mem_cons, List.not_mem_nil, or_false] at he
    rcases he with rfl | rfl
    · exact absurd (show 599 = 1 from h9) (by decide)
    · decide)) ?_
  refine wp_callV (n := 9) (av := [.ref 599, .ref 597]) (rest := [.ref 599, .ref 1]) rfl rfl rfl (by decide) rfl rfl rfl (by decide) (j81 J) (fun h J => ?_)
  refine wp_fr rfl rfl (Or.inr ⟨rfl, rfl⟩) rfl rfl J (by decide) rfl rfl (fun h J => ?_)
  refine wp_loc rfl rfl ?_
  refine wp_fn rfl rfl J rfl (by decide) (fun h J => ?_)
  refine wp_stk rfl rfl rfl ?_
  refine wp_loc rfl rfl ?_
  refine wp_getR (v := 597) rfl rfl rfl rfl (J.ok (by decide) rfl) (J.R (by decide) rfl (by decide) (by
    intro e he h9
    simp only [List.mem_cons, List.not_mem_nil, or_false] at he
    rcases he with rfl | rfl
    · exact absurd (show 601 = 1 from h9) (by decide)
    · decide)) ?_
  refine wp_loc rfl rfl ?_
  refine wp_getR (v := 11) rfl rfl rfl rfl (J.ok (by decide) rfl) (J.R (by decide) rfl (by decide) (by
    intro e he h9
    simp only [List.mem_cons, List.not_mem_nil, or_false] at he
    rcases he with rfl | rfl
    · exact absurd (show 601 = 1 from h9) (by decide)
    · decide)) ?_
  refine wp_callV (n := 9) (av := [.ref 601, .ref 597, .ref 11]) (rest := [.ref 601, .ref 1]) rfl rfl rfl (by decide) rfl rfl rfl (by decide) (j90 J) (fun h J => ?_)
  refine wp_fr rfl rfl (Or.inr ⟨rfl, rfl⟩) rfl rfl J (by decide) rfl rfl (fun h J => ?_)
  refine wp_loc rfl rfl ?_
  refine wp_fn rfl rfl J rfl (by decide) (fun h J => ?_)
  refine wp_stk rfl rfl rfl ?_
  refine wp_loc rfl rfl ?_
  refine wp_getR (v := 597) rfl rfl rfl rfl (J.ok (by decide) rfl) (J.R (by decide) rfl (by decide) (by
    intro e he h9
    simp only [List.mem_cons, List.not_mem_nil, or_false] at he
    rcases he with rfl | rfl
    · exact absurd (show 610 = 1 from h9) (by decide)
    · decide)) ?_
  refine wp_loc rfl rfl ?_
  refine wp_getR (v := 601) rfl rfl rfl rfl (J.ok (by decide) rfl) (J.R (by decide) rfl (by decide) (by
    intro e he h9
    simp only [List.mem_cons, List.not_mem_nil, or_false] at he
    rcases he with rfl | rfl
    · exact absurd (show 610 = 1 from h9) (by decide)
    · decide)) ?_
  refine wp_loc rfl rfl ?_
  refine wp_getR (v := 599) rfl rfl rfl rfl (J.ok (by decide) rfl) (J.R (by decide) rfl (by decide) (by
    intro e he h9
    simp only [List.mem_cons, List.not_mem_nil, or_false] at he
    rcases he with rfl | rfl
    · exact absurd (show 610 = 1 from h9) (by decide)
    · decide)) ?_
  refine wp_callV (n := 9) (av := [.ref 610, .ref 597, .ref 601, .ref 599]) (rest := [.ref 610, .ref 1]) rfl rfl rfl (by decide) rfl rfl rfl (by decide) (j117 J) (fun h J => ?_)
  refine wp_fr rfl rfl (Or.inr ⟨rfl, rfl⟩) rfl rfl J (by decide) rfl rfl (fun h J => ?_)
  refine wp_loc rfl rfl ?_
  refine wp_fn rfl rfl J rfl (by decide) (fun h J => ?_)
  refine wp_stk rfl rfl rfl ?_
  refine wp_loc rfl rfl ?_
  refine wp_getR (v := 597) rfl rfl rfl rfl (J.ok (by decide) rfl) (J.R (by decide) rfl (by decide) (by
    intro e he h9
    simp only [List.mem_cons, List.not_mem_nil, or_false] at he
    rcases he with rfl | rfl
    · exact absurd (show 614 = 1 from h9) (by decide)
    · decide)) ?_
  refine wp_loc rfl rfl ?_
  refine wp_getR (v := 610) rfl rfl rfl rfl (J.ok (by decide) rfl) (J.R (by decide) rfl (by decide) (by
    intro e he h9
    simp only [List.mem_cons, List.not_mem_nil, or_false] at he
    rcases he with rfl | rfl
    · exact absurd (show 614 = 1 from h9) (by decide)
    · decide)) ?_
  refine wp_loc rfl rfl ?_
  refine wp_getR (v := 599) rfl rfl rfl rfl (J.ok (by decide) rfl) (J.R (by decide) rfl (by decide) (by
    intro e he h9
    simp only [List.mem_cons, List.not_mem_nil, or_false] at he
    rcases he with rfl | rfl
    · exact absurd (show 614 = 1 from h9) (by decide)
    · decide)) ?_
  refine wp_loc rfl rfl ?_
  refine wp_getR (v := 11) rfl rfl rfl rfl (J.ok (by decide) rfl) (J.R (by decide) rfl (by decide) (by
    intro e he h9
    simp only [List.mem_cons, List.not_mem_nil, or_false] at he
    rcases he with rfl | rfl
    · exact absurd (show 614 = 1 from h9) (by decide)
    · decide)) ?_
  refine wp_callV (n := 9) (av := [.ref 614, .ref 597, .ref 610, .ref 599, .ref 11]) (rest := [.ref 614, .ref 1]) rfl rfl rfl (by decide) rfl rfl rfl (by decide) (j138 J) (fun h J => ?_)
  refine wp_fr rfl rfl (Or.inr ⟨rfl, rfl⟩) rfl rfl J (by decide) rfl rfl (fun h J => ?_)
  refine wp_loc rfl rfl ?_
  refine wp_sipush (v := 624) rfl (by decide) ?_
  refine wp_fa (m := 624) rfl rfl (by decide) rfl rfl (Or.inr ⟨rfl, rfl⟩) rfl rfl J (by decide) rfl rfl rfl rfl rfl (by decide) (fun h J => ?_)
  refine wp_loc rfl rfl ?_
  refine wp_iconst (v := 4) rfl (by decide) ?_
  refine wp_fa (m := 4) rfl rfl (by decide) rfl rfl (Or.inr ⟨rfl, rfl⟩) rfl rfl J (by decide) rfl rfl rfl rfl rfl (by decide) (fun h J => ?_)
  refine wp_loc rfl rfl ?_
  refine wp_fn rfl rfl J rfl (by decide) (fun h J => ?_)
  refine wp_stk rfl rfl rfl ?_
  refine wp_callV (n := 9) (av := [.ref 622]) (rest := [.ref 622, .ref 1]) rfl rfl rfl (by decide) rfl rfl rfl (by decide) (j60_622 J) ?_
  rintro h ⟨g622, hg622, J⟩
  refine wp_fr rfl rfl (Or.inr ⟨rfl, rfl⟩) rfl rfl J (by decide) rfl rfl (fun h J => ?_)
  refine wp_loc rfl rfl ?_
  refine wp_fn rfl rfl J rfl (by decide) (fun h J => ?_)
  refine wp_stk rfl rfl rfl ?_
  refine wp_loc rfl rfl ?_
  refine wp_getR (v := 597) rfl rfl rfl rfl (J.ok (by decide) rfl) (J.R (by decide) rfl (by decide) (by
    intro e he h9
    simp only [List.mem_cons, List.not_mem_nil, or_false] at he
    rcases he with rfl | rfl
    · exact absurd (show 624 = 1 from h9) (by decide)
    · decide)) ?_
  refine wp_loc rfl rfl ?_
  refine wp_getR (v := 622) rfl rfl rfl rfl (J.ok (by decide) rfl) (J.R (by decide) rfl (by decide) (by
    intro e he h9
    simp only [List.mem_cons, List.not_mem_nil, or_false] at he
    rcases he with rfl | rfl
    · exact absurd (show 624 = 1 from h9) (by decide)
    · decide)) ?_
  refine wp_callV (n := 9) (av := [.ref 624, .ref 597, .ref 622]) (rest := [.ref 624, .ref 1]) rfl rfl rfl (by decide) rfl rfl rfl (by decide) (j201 J) (fun h J => ?_)
  refine wp_fr rfl rfl (Or.inr ⟨rfl, rfl⟩) rfl rfl J (by decide) rfl rfl (fun h J => ?_)
  exact wp_ret rfl rfl (fin _ ⟨w, g597, g622, hw, hg597, hg622, J.popd (by decide)⟩)
end JC
