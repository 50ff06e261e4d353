/-! THE CONSTRUCTORS: the reference, all -/
section JC
variable {f : j_F} {h : q_Hp}
set_option maxRecDepth 20000 in
theorem j236 (J : j_J 630 [(630, [])] f h) : q_mV 5 236 [.ref 630] h (fun h' => ∃ w k, (∀ j, j < 25 → w j = t_K j) ∧ j_J 712 [] (jL (q_up f.1 630 17 (-1), f.2) 637 w) k ∧ p_mt k h') := by
  refine q_mV.of (q_recV rfl (J.ok (by decide) rfl)) (fun Q fin => ?_)
  refine q_wp.le (n := 4) (by decide) ?_
  replace J := J.L0 (c := 637) (by decide)
  refine wp_loc rfl rfl ?_
  refine wp_oini rfl rfl (by decide) (by decide) rfl (by decide) ?_
  refine wp_loc rfl rfl ?_
  refine wp_sipush (v := 4000) rfl (by decide) ?_
  refine wp_fa (m := 4000) rfl rfl (by decide) rfl rfl (Or.inr ⟨rfl, rfl⟩) rfl rfl J (by decide) rfl rfl rfl rfl rfl (by decide) (fun h J => ?_)
  refine wp_loc rfl rfl ?_
  refine wp_sipush (v := 4000) rfl (by decide) ?_
  refine wp_fa (m := 4000) rfl rfl (by decide) rfl rfl (Or.inr ⟨rfl, rfl⟩) rfl rfl J (by decide) rfl rfl rfl rfl rfl (by decide) (fun h J => ?_)
  refine wp_loc rfl rfl ?_
  refine wp_sipush (v := 1203) rfl (by decide) ?_
  refine wp_fa (m := 1203) rfl rfl (by decide) rfl rfl (Or.inr ⟨rfl, rfl⟩) rfl rfl J (by decide) rfl rfl rfl rfl rfl (by decide) (fun h J => ?_)
  refine wp_loc rfl rfl ?_
  refine wp_sipush (v := 1203) rfl (by decide) ?_
  refine wp_fa (m := 1203) rfl rfl (by decide) rfl rfl (Or.inr ⟨rfl, rfl⟩) rfl rfl J (by decide) rfl rfl rfl rfl rfl (by decide) (fun h J => ?_)
  refine wp_loc rfl rfl ?_
  refine wp_sipush (v := 1203) rfl (by decide) ?_
  refine wp_fa (m := 1203) rfl rfl (by decide) rfl rfl (Or.inr ⟨rfl, rfl⟩) rfl rfl J (by decide) rfl rfl rfl rfl rfl (by decide) (fun h J => ?_)
  refine wp_loc rfl rfl ?_
  refine wp_sipush (v := 1203) rfl (by decide) ?_
  refine wp_fa (m := 1203) rfl rfl (by decide) rfl rfl (Or.inr ⟨rfl, rfl⟩) rfl rfl J (by decide) rfl rfl rfl rfl rfl (by decide) (fun h J => ?_)
  refine wp_loc rfl rfl ?_
  refine wp_bipush (v := 25) rfl (by decide) ?_
  refine wp_fa (m := 25) rfl rfl (by decide) rfl rfl (Or.inr ⟨rfl, rfl⟩) rfl rfl J (by decide) rfl rfl rfl rfl rfl (by decide) (fun h J => ?_)
  refine wp_loc rfl rfl ?_
  refine wp_iconst (v := (-1)) rfl (by decide) ?_
  refine wp_putI rfl rfl (Or.inr ⟨rfl, rfl⟩) rfl (fun q => absurd q (by decide)) (J.ok (by decide) rfl) ?_
  replace J : j_J 637 _ (jL (q_up f.1 630 17 (-1), f.2) 637 (fun _ => 0)) _ := J.sI (o := 630) (j := 17) (v := -1) (by decide)
  refine wp_loc rfl rfl ?_
  refine wp_bipush (v := 24) rfl (by decide) ?_
  refine wp_fa (m := 24) rfl rfl (by decide) rfl rfl (Or.inr ⟨rfl, rfl⟩) rfl rfl J (by decide) rfl rfl rfl rfl rfl (by decide) (fun h J => ?_)
  refine wp_loc rfl rfl ?_
  refine wp_bipush (v := 24) rfl (by decide) ?_
  refine wp_fa (m := 24) rfl rfl (by decide) rfl rfl (Or.inr ⟨rfl, rfl⟩) rfl rfl J (by decide) rfl rfl rfl rfl rfl (by decide) (fun h J => ?_)
  refine wp_loc rfl rfl ?_
  refine wp_bipush (v := 24) rfl (by decide) ?_
  refine wp_fa (m := 24) rfl rfl (by decide) rfl rfl (Or.inr ⟨rfl, rfl⟩) rfl rfl J (by decide) rfl rfl rfl rfl rfl (by decide) (fun h J => ?_)
  refine wp_loc rfl rfl ?_
  refine wp_bipush (v := 40) rfl (by decide) ?_
  refine wp_fa (m := 40) rfl rfl (by decide) rfl rfl (Or.inr ⟨rfl, rfl⟩) rfl rfl J (by decide) rfl rfl rfl rfl rfl (by decide) (fun h J => ?_)
  refine wp_loc rfl rfl ?_
  refine wp_bipush (v := 40) rfl (by decide) ?_
  refine wp_fa (m := 40) rfl rfl (by decide) rfl rfl (Or.inr ⟨rfl, rfl⟩) rfl rfl J (by decide) rfl rfl rfl rfl rfl (by decide) (fun h J => ?_)
  refine wp_loc rfl rfl ?_
  refine wp_bipush (v := 40) rfl (by decide) ?_
  refine wp_fa (m := 40) rfl rfl (by decide) rfl rfl (Or.inr ⟨rfl, rfl⟩) rfl rfl J (by decide) rfl rfl rfl rfl rfl (by decide) (fun h J => ?_)
  refine wp_loc rfl rfl ?_
  refine wp_sipush (v := 160) rfl (by decide) ?_
  refine wp_fa (m := 160) rfl rfl (by decide) rfl rfl (Or.inr ⟨rfl, rfl⟩) rfl rfl J (by decide) rfl rfl rfl rfl rfl (by decide) (fun h J => ?_)
  refine wp_loc rfl rfl ?_
  refine wp_sipush (v := 240) rfl (by decide) ?_
  refine wp_fa (m := 240) rfl rfl (by decide) rfl rfl (Or.inr ⟨rfl, rfl⟩) rfl rfl J (by decide) rfl rfl rfl rfl rfl (by decide) (fun h J => ?_)
  refine wp_loc rfl rfl ?_
  refine wp_sipush (v := 240) rfl (by decide) ?_
  refine wp_fa (m := 240) rfl rfl (by decide) rfl rfl (Or.inr ⟨rfl, rfl⟩) rfl rfl J (by decide) rfl rfl rfl rfl rfl (by decide) (fun h J => ?_)
  refine wp_loc rfl rfl ?_
  refine wp_sipush (v := 240) rfl (by decide) ?_
  refine wp_fa (m := 240) rfl rfl (by decide) rfl rfl (Or.inr ⟨rfl, rfl⟩) rfl rfl J (by decide) rfl rfl rfl rfl rfl (by decide) (fun h J => ?_)
  refine wp_loc rfl rfl ?_
  refine wp_bipush (v := 40) rfl (by decide) ?_
  refine wp_fa (m := 40) rfl rfl (by decide) rfl rfl (Or.inr ⟨rfl, rfl⟩) rfl rfl J (by decide) rfl rfl rfl rfl rfl (by decide) (fun h J => ?_)
  refine wp_loc rfl rfl ?_
  refine wp_bipush (v := 80) rfl (by decide) ?_
  refine wp_fa (m := 80) rfl rfl (by decide) rfl rfl (Or.inr ⟨rfl, rfl⟩) rfl rfl J (by decide) rfl rfl rfl rfl rfl (by decide) (fun h J => ?_)
  refine wp_loc rfl rfl ?_
  refine wp_bipush (v := 80) rfl (by decide) ?_
  refine wp_fa (m := 80) rfl rfl (by decide) rfl rfl (Or.inr ⟨rfl, rfl⟩) rfl rfl J (by decide) rfl rfl rfl rfl rfl (by decide) (fun h J => ?_)
  refine wp_loc rfl rfl ?_
  refine wp_sipush (v := 240) rfl (by decide) ?_
  refine wp_fa (m := 240) rfl rfl (by decide) rfl rfl (Or.inr ⟨rfl, rfl⟩) rfl rfl J (by decide) rfl rfl rfl rfl rfl (by decide) (fun h J => ?_)
  refine wp_loc rfl rfl ?_
  refine wp_sipush (v := 240) rfl (by decide) ?_
  refine wp_fa (m := 240) rfl rfl (by decide) rfl rfl (Or.inr ⟨rfl, rfl⟩) rfl rfl J (by decide) rfl rfl rfl rfl rfl (by decide) (fun h J => ?_)
  refine wp_loc rfl rfl ?_
  refine wp_sipush (v := 240) rfl (by decide) ?_
  refine wp_fa (m := 240) rfl rfl (by decide) rfl rfl (Or.inr ⟨rfl, rfl⟩) rfl rfl J (by decide) rfl rfl rfl rfl rfl (by decide) (fun h J => ?_)
  refine wp_loc rfl rfl ?_
  refine wp_bipush (v := 40) rfl (by decide) ?_
  refine wp_fa (m := 40) rfl rfl (by decide) rfl rfl (Or.inr ⟨rfl, rfl⟩) rfl rfl J (by decide) rfl rfl rfl rfl rfl (by decide) (fun h J => ?_)
  refine wp_loc rfl rfl ?_
  refine wp_sipush (v := 160) rfl (by decide) ?_
  refine wp_fa (m := 160) rfl rfl (by decide) rfl rfl (Or.inr ⟨rfl, rfl⟩) rfl rfl J (by decide) rfl rfl rfl rfl rfl (by decide) (fun h J => ?_)
  refine wp_loc rfl rfl ?_
  refine wp_sipush (v := 160) rfl (by decide) ?_
  refine wp_fa (m := 160) rfl rfl (by decide) rfl rfl (Or.inr ⟨rfl, rfl⟩) rfl rfl J (by decide) rfl rfl rfl rfl rfl (by decide) (fun h J => ?_)
  refine wp_loc rfl rfl ?_
  refine wp_sipush (v := 160) rfl (by decide) ?_
  refine wp_fa (m := 160) rfl rfl (by decide) rfl rfl (Or.inr ⟨rfl, rfl⟩) rfl rfl J (by decide) rfl rfl rfl rfl rfl (by decide) (fun h J => ?_)
  refine wp_loc rfl rfl ?_
  refine wp_sipush (v := 160) rfl (by decide) ?_
  refine wp_fa (m := 160) rfl rfl (by decide) rfl rfl (Or.inr ⟨rfl, rfl⟩) rfl rfl J (by decide) rfl rfl rfl rfl rfl (by decide) (fun h J => ?_)
  refine wp_loc rfl rfl ?_
  refine wp_bipush (v := 40) rfl (by decide) ?_
  refine wp_fa (m := 40) rfl rfl (by decide) rfl rfl (Or.inr ⟨rfl, rfl⟩) rfl rfl J (by decide) rfl rfl rfl rfl rfl (by decide) (fun h J => ?_)
  refine wp_loc rfl rfl ?_
  refine wp_sipush (v := 320) rfl (by decide) ?_
  refine wp_fa (m := 320) rfl rfl (by decide) rfl rfl (Or.inr ⟨rfl, rfl⟩) rfl rfl J (by decide) rfl rfl rfl rfl rfl (by decide) (fun h J => ?_)
  refine wp_loc rfl rfl ?_
  refine wp_sipush (v := 320) rfl (by decide) ?_
  refine wp_fa (m := 320) rfl rfl (by decide) rfl rfl (Or.inr ⟨rfl, rfl⟩) rfl rfl J (by decide) rfl rfl rfl rfl rfl (by decide) (fun h J => ?_)
  refine wp_loc rfl rfl ?_
  refine wp_sipush (v := 320) rfl (by decide) ?_
  refine wp_fa (m := 320) rfl rfl (by decide) rfl rfl (Or.inr ⟨rfl, rfl⟩) rfl rfl J (by decide) rfl rfl rfl rfl rfl (by decide) (fun h J => ?_)
  refine wp_loc rfl rfl ?_
  refine wp_sipush (v := 320) rfl (by decide) ?_
  refine wp_fa (m := 320) rfl rfl (by decide) rfl rfl (Or.inr ⟨rfl, rfl⟩) rfl rfl J (by decide) rfl rfl rfl rfl rfl (by decide) (fun h J => ?_)
  refine wp_loc rfl rfl ?_
  refine wp_sipush (v := 320) rfl (by decide) ?_
  refine wp_fa (m := 320) rfl rfl (by decide) rfl rfl (Or.inr ⟨rfl, rfl⟩) rfl rfl J (by decide) rfl rfl rfl rfl rfl (by decide) (fun h J => ?_)
  refine wp_loc rfl rfl ?_
  refine wp_sipush (v := 320) rfl (by decide) ?_
  refine wp_fa (m := 320) rfl rfl (by decide) rfl rfl (Or.inr ⟨rfl, rfl⟩) rfl rfl J (by decide) rfl rfl rfl rfl rfl (by decide) (fun h J => ?_)
  refine wp_loc rfl rfl ?_
  refine wp_sipush (v := 2600) rfl (by decide) ?_
  refine wp_fa (m := 2600) rfl rfl (by decide) rfl rfl (Or.inr ⟨rfl, rfl⟩) rfl rfl J (by decide) rfl rfl rfl rfl rfl (by decide) (fun h J => ?_)
  refine wp_loc rfl rfl ?_
  refine wp_sipush (v := 2600) rfl (by decide) ?_
  refine wp_fa (m := 2600) rfl rfl (by decide) rfl rfl (Or.inr ⟨rfl, rfl⟩) rfl rfl J (by decide) rfl rfl rfl rfl rfl (by decide) (fun h J => ?_)
  refine wp_loc rfl rfl ?_
  refine wp_sipush (v := 2600) rfl (by decide) ?_
  refine wp_fa (m := 2600) rfl rfl (by decide) rfl rfl (Or.inr ⟨rfl, rfl⟩) rfl rfl J (by decide) rfl rfl rfl rfl rfl (by decide) (fun h J => ?_)
  refine wp_loc rfl rfl ?_
  refine wp_sipush (v := 2600) rfl (by decide) ?_
  refine wp_fa (m := 2600) rfl rfl (by decide) rfl rfl (Or.inr ⟨rfl, rfl⟩) rfl rfl J (by decide) rfl rfl rfl rfl rfl (by decide) (fun h J => ?_)
  refine wp_loc rfl rfl ?_
  refine wp_sipush (v := 2600) rfl (by decide) ?_
  refine wp_fa (m := 2600) rfl rfl (by decide) rfl rfl (Or.inr ⟨rfl, rfl⟩) rfl rfl J (by decide) rfl rfl rfl rfl rfl (by decide) (fun h J => ?_)
  refine wp_loc rfl rfl ?_
  refine wp_sipush (v := 7800) rfl (by decide) ?_
  refine wp_fa (m := 7800) rfl rfl (by decide) rfl rfl (Or.inr ⟨rfl, rfl⟩) rfl rfl J (by decide) rfl rfl rfl rfl rfl (by decide) (fun h J => ?_)
  refine wp_loc rfl rfl ?_
  refine wp_sipush (v := 2600) rfl (by decide) ?_
  refine wp_fa (m := 2600) rfl rfl (by decide) rfl rfl (Or.inr ⟨rfl, rfl⟩) rfl rfl J (by decide) rfl rfl rfl rfl rfl (by decide) (fun h J => ?_)
  refine wp_loc rfl rfl ?_
  refine wp_bipush (v := 20) rfl (by decide) ?_
  refine wp_fa (m := 20) rfl rfl (by decide) rfl rfl (Or.inr ⟨rfl, rfl⟩) rfl rfl J (by decide) rfl rfl rfl rfl rfl (by decide) (fun h J => ?_)
  refine wp_loc rfl rfl ?_
  refine wp_bipush (v := 12) rfl (by decide) ?_
  refine wp_fa (m := 12) rfl rfl (by decide) rfl rfl (Or.inr ⟨rfl, rfl⟩) rfl rfl J (by decide) rfl rfl rfl rfl rfl (by decide) (fun h J => ?_)
  refine wp_loc rfl rfl ?_
  refine wp_bipush (v := 12) rfl (by decide) ?_
  refine wp_fa (m := 12) rfl rfl (by decide) rfl rfl (Or.inr ⟨rfl, rfl⟩) rfl rfl J (by decide) rfl rfl rfl rfl rfl (by decide) (fun h J => ?_)
  refine wp_loc rfl rfl ?_
  refine wp_bipush (v := 20) rfl (by decide) ?_
  refine wp_fa (m := 20) rfl rfl (by decide) rfl rfl (Or.inr ⟨rfl, rfl⟩) rfl rfl J (by decide) rfl rfl rfl rfl rfl (by decide) (fun h J => ?_)
  refine wp_loc rfl rfl ?_
  refine wp_bipush (v := 10) rfl (by decide) ?_
  refine wp_fa (m := 10) rfl rfl (by decide) rfl rfl (Or.inr ⟨rfl, rfl⟩) rfl rfl J (by decide) rfl rfl rfl rfl rfl (by decide) (fun h J => ?_)
  refine wp_loc rfl rfl ?_
  refine wp_bipush (v := 40) rfl (by decide) ?_
  refine wp_fa (m := 40) rfl rfl (by decide) rfl rfl (Or.inr ⟨rfl, rfl⟩) rfl rfl J (by decide) rfl rfl rfl rfl rfl (by decide) (fun h J => ?_)
  refine wp_loc rfl rfl ?_
  refine wp_bipush (v := 40) rfl (by decide) ?_
  refine wp_fa (m := 40) rfl rfl (by decide) rfl rfl (Or.inr ⟨rfl, rfl⟩) rfl rfl J (by decide) rfl rfl rfl rfl rfl (by decide) (fun h J => ?_)
  refine wp_loc rfl rfl ?_
  refine wp_bipush (v := 40) rfl (by decide) ?_
  refine wp_fa (m := 40) rfl rfl (by decide) rfl rfl (Or.inr ⟨rfl, rfl⟩) rfl rfl J (by decide) rfl rfl rfl rfl rfl (by decide) (fun h J => ?_)
  refine wp_loc rfl rfl ?_
  refine wp_bipush (v := 40) rfl (by decide) ?_
  refine wp_fa (m := 40) rfl rfl (by decide) rfl rfl (Or.inr ⟨rfl, rfl⟩) rfl rfl J (by decide) rfl rfl rfl rfl rfl (by decide) (fun h J => ?_)
  refine wp_loc rfl rfl ?_
  refine wp_bipush (v := 40) rfl (by decide) ?_
  refine wp_fa (m := 40) rfl rfl (by decide) rfl rfl (Or.inr ⟨rfl, rfl⟩) rfl rfl J (by decide) rfl rfl rfl rfl rfl (by decide) (fun h J => ?_)
  refine wp_loc rfl rfl ?_
  refine wp_bipush (v := 6) rfl (by decide) ?_
  refine wp_fa (m := 6) rfl rfl (by decide) rfl rfl (Or.inr ⟨rfl, rfl⟩) rfl rfl J (by decide) rfl rfl rfl rfl rfl (by decide) (fun h J => ?_)
  refine wp_loc rfl rfl ?_
  refine wp_bipush (v := 16) rfl (by decide) ?_
  refine wp_fa (m := 16) rfl rfl (by decide) rfl rfl (Or.inr ⟨rfl, rfl⟩) rfl rfl J (by decide) rfl rfl rfl rfl rfl (by decide) (fun h J => ?_)
  refine wp_loc rfl rfl ?_
  refine wp_bipush (v := 40) rfl (by decide) ?_
  refine wp_fa (m := 40) rfl rfl (by decide) rfl rfl (Or.inr ⟨rfl, rfl⟩) rfl rfl J (by decide) rfl rfl rfl rfl rfl (by decide) (fun h J => ?_)
  refine wp_loc rfl rfl ?_
  refine wp_bipush (v := 10) rfl (by decide) ?_
  refine wp_fa (m := 10) rfl rfl (by decide) rfl rfl (Or.inr ⟨rfl, rfl⟩) rfl rfl J (by decide) rfl rfl rfl rfl rfl (by decide) (fun h J => ?_)
  refine wp_loc rfl rfl ?_
  refine wp_bipush (v := 10) rfl (by decide) ?_
  refine wp_fa (m := 10) rfl rfl (by decide) rfl rfl (Or.inr ⟨rfl, rfl⟩) rfl rfl J (by decide) rfl rfl rfl rfl rfl (by decide) (fun h J => ?_)
  refine wp_loc rfl rfl ?_
  refine wp_bipush (v := 10) rfl (by decide) ?_
  refine wp_fa (m := 10) rfl rfl (by decide) rfl rfl (Or.inr ⟨rfl, rfl⟩) rfl rfl J (by decide) rfl rfl rfl rfl rfl (by decide) (fun h J => ?_)
  refine wp_loc rfl rfl ?_
  refine wp_sipush (v := 1300) rfl (by decide) ?_
  refine wp_fa (m := 1300) rfl rfl (by decide) rfl rfl (Or.inr ⟨rfl, rfl⟩) rfl rfl J (by decide) rfl rfl rfl rfl rfl (by decide) (fun h J => ?_)
  refine wp_loc rfl rfl ?_
  refine wp_sipush (v := 1300) rfl (by decide) ?_
  refine wp_fa (m := 1300) rfl rfl (by decide) rfl rfl (Or.inr ⟨rfl, rfl⟩) rfl rfl J (by decide) rfl rfl rfl rfl rfl (by decide) (fun h J => ?_)
  refine wp_loc rfl rfl ?_
  refine wp_sipush (v := 156) rfl (by decide) ?_
  refine wp_fa (m := 156) rfl rfl (by decide) rfl rfl (Or.inr ⟨rfl, rfl⟩) rfl rfl J (by decide) rfl rfl rfl rfl rfl (by decide) (fun h J => ?_)
  refine wp_loc rfl rfl ?_
  refine wp_sipush (v := 15756) rfl (by decide) ?_
  refine wp_fa (m := 15756) rfl rfl (by decide) rfl rfl (Or.inr ⟨rfl, rfl⟩) rfl rfl J (by decide) rfl rfl rfl rfl rfl (by decide) (fun h J => ?_)
  refine wp_loc rfl rfl ?_
  refine wp_sipush (v := 624) rfl (by decide) ?_
  refine wp_fa (m := 624) rfl rfl (by decide) rfl rfl (Or.inr ⟨rfl, rfl⟩) rfl rfl J (by decide) rfl rfl rfl rfl rfl (by decide) (fun h J => ?_)
  refine wp_loc rfl rfl ?_
  refine wp_iconst (v := 4) rfl (by decide) ?_
  refine wp_fa (m := 4) rfl rfl (by decide) rfl rfl (Or.inr ⟨rfl, rfl⟩) rfl rfl J (by decide) rfl rfl rfl rfl rfl (by decide) (fun h J => ?_)
  refine wp_loc rfl rfl ?_
  refine wp_iconst (v := 5) rfl (by decide) ?_
  refine wp_fa (m := 5) rfl rfl (by decide) rfl rfl (Or.inr ⟨rfl, rfl⟩) rfl rfl J (by decide) rfl rfl rfl rfl rfl (by decide) (fun h J => ?_)
  refine wp_loc rfl rfl ?_
  refine wp_bipush (v := 9) rfl (by decide) ?_
  refine wp_fa (m := 9) rfl rfl (by decide) rfl rfl (Or.inr ⟨rfl, rfl⟩) rfl rfl J (by decide) rfl rfl rfl rfl rfl (by decide) (fun h J => ?_)
  refine wp_loc rfl rfl ?_
  refine wp_iconst (v := 4) rfl (by decide) ?_
  refine wp_fa (m := 4) rfl rfl (by decide) rfl rfl (Or.inr ⟨rfl, rfl⟩) rfl rfl J (by decide) rfl rfl rfl rfl rfl (by decide) (fun h J => ?_)
  refine wp_loc rfl rfl ?_
  refine wp_bipush (v := 6) rfl (by decide) ?_
  refine wp_fa (m := 6) rfl rfl (by decide) rfl rfl (Or.inr ⟨rfl, rfl⟩) rfl rfl J (by decide) rfl rfl rfl rfl rfl (by decide) (fun h J => ?_)
  refine wp_loc rfl rfl ?_
  refine wp_sipush (v := 1300) rfl (by decide) ?_
  refine wp_fa (m := 1300) rfl rfl (by decide) rfl rfl (Or.inr ⟨rfl, rfl⟩) rfl rfl J (by decide) rfl rfl rfl rfl rfl (by decide) (fun h J => ?_)
  refine wp_loc rfl rfl ?_
  refine wp_bipush (v := 8) rfl (by decide) ?_
  refine wp_fa (m := 8) rfl rfl (by decide) rfl rfl (Or.inr ⟨rfl, rfl⟩) rfl rfl J (by decide) rfl rfl rfl rfl rfl (by decide) (fun h J => ?_)
  refine wp_loc rfl rfl ?_
  refine wp_bipush (v := 12) rfl (by decide) ?_
  refine wp_fa (m := 12) rfl rfl (by decide) rfl rfl (Or.inr ⟨rfl, rfl⟩) rfl rfl J (by decide) rfl rfl rfl rfl rfl (by decide) (fun h J => ?_)
  refine wp_loc rfl rfl ?_
  refine wp_bipush (v := 60) rfl (by decide) ?_
  refine wp_fa (m := 60) rfl rfl (by decide) rfl rfl (Or.inr ⟨rfl, rfl⟩) rfl rfl J (by decide) rfl rfl rfl rfl rfl (by decide) (fun h J => ?_)
  refine wp_loc rfl rfl ?_
  refine wp_sipush (v := 200) rfl (by decide) ?_
  refine wp_fa (m := 200) rfl rfl (by decide) rfl rfl (Or.inr ⟨rfl, rfl⟩) rfl rfl J (by decide) rfl rfl rfl rfl rfl (by decide) (fun h J => ?_)
  refine wp_loc rfl rfl ?_
  refine wp_sipush (v := 200) rfl (by decide) ?_
  refine wp_fa (m := 200) rfl rfl (by decide) rfl rfl (Or.inr ⟨rfl, rfl⟩) rfl rfl J (by decide) rfl rfl rfl rfl rfl (by decide) (fun h J => ?_)
  refine wp_loc rfl rfl ?_
  refine wp_sipush (v := 200) rfl (by decide) ?_
  refine wp_fa (m := 200) rfl rfl (by decide) rfl rfl (Or.inr ⟨rfl, rfl⟩) rfl rfl J (by decide) rfl rfl rfl rfl rfl (by decide) (fun h J => ?_)
  refine wp_loc rfl rfl ?_
  refine wp_sipush (v := 200) rfl (by decide) ?_
  refine wp_fa (m := 200) rfl rfl (by decide) rfl rfl (Or.inr ⟨rfl, rfl⟩) rfl rfl J (by decide) rfl rfl rfl rfl rfl (by decide) (fun h J => ?_)
  refine wp_loc rfl rfl ?_
  refine wp_sipush (v := 200) rfl (by decide) ?_
  refine wp_fa (m := 200) rfl rfl (by decide) rfl rfl (Or.inr ⟨rfl, rfl⟩) rfl rfl J (by decide) rfl rfl rfl rfl rfl (by decide) (fun h J => ?_)
  refine wp_loc rfl rfl ?_
  refine wp_sipush (v := 200) rfl (by decide) ?_
  refine wp_fa (m := 200) rfl rfl (by decide) rfl rfl (Or.inr ⟨rfl, rfl⟩) rfl rfl J (by decide) rfl rfl rfl rfl rfl (by decide) (fun h J => ?_)
  refine wp_loc rfl rfl ?_
  refine wp_sipush (v := 31200) rfl (by decide) ?_
  refine wp_fa (m := 31200) rfl rfl (by decide) rfl rfl (Or.inr ⟨rfl, rfl⟩) rfl rfl J (by decide) rfl rfl rfl rfl rfl (by decide) (fun h J => ?_)
  refine wp_loc rfl rfl ?_
  refine wp_bipush (v := 12) rfl (by decide) ?_
  refine wp_fa (m := 12) rfl rfl (by decide) rfl rfl (Or.inr ⟨rfl, rfl⟩) rfl rfl J (by decide) rfl rfl rfl rfl rfl (by decide) (fun h J => ?_)
  refine wp_loc rfl rfl ?_
  refine wp_bipush (v := 12) rfl (by decide) ?_
  refine wp_fa (m := 12) rfl rfl (by decide) rfl rfl (Or.inr ⟨rfl, rfl⟩) rfl rfl J (by decide) rfl rfl rfl rfl rfl (by decide) (fun h J => ?_)
  refine wp_loc rfl rfl ?_
  refine wp_bipush (v := 12) rfl (by decide) ?_
  refine wp_fa (m := 12) rfl rfl (by decide) rfl rfl (Or.inr ⟨rfl, rfl⟩) rfl rfl J (by decide) rfl rfl rfl rfl rfl (by decide) (fun h J => ?_)
  refine j236_705 (by decide) (fun w h hw J => ?_) J
  replace J := J.popd (by decide)
  refine wp_loc rfl rfl ?_
  refine wp_callV (n := 3) (av := [.ref 630]) rfl rfl rfl (by decide) rfl rfl rfl (by decide) (s291 J.sh) (fun h' M => ?_)
  exact wp_ret rfl rfl (fin _ ⟨w, h, hw, J, M⟩)
end JC
