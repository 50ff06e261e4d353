/-! THE CONSTRUCTORS, the small ones -/
section JC
variable {stk : List (Nat × List Nat)} {f : j_F} {h : q_Hp}
theorem j160 (J : j_J 8 ((8, []) :: stk) f h) : q_mV 1 160 [.ref 8, .ref 3] h (fun h' => j_J 10 stk f h') := by
  refine q_mV.of (q_recV rfl (J.ok (by decide) rfl)) (fun Q fin => ?_)
  refine wp_loc rfl rfl ?_
  refine wp_oini rfl rfl (by decide) (by decide) rfl (by decide) ?_
  refine wp_loc rfl rfl ?_
  refine wp_bipush (v := 20) rfl (by decide) ?_
  refine wp_fa (m := 20) rfl rfl (by decide) rfl rfl (Or.inr ⟨rfl, rfl⟩) rfl rfl J (by decide) rfl rfl rfl rfl rfl (by decide) (fun h J => ?_)
  refine wp_loc rfl rfl ?_
  refine wp_bipush (v := 10) rfl (by decide) ?_
  refine wp_fa (m := 10) rfl rfl (by decide) rfl rfl (Or.inr ⟨rfl, rfl⟩) rfl rfl J (by decide) rfl rfl rfl rfl rfl (by decide) (fun h J => ?_)
  refine wp_loc rfl rfl ?_
  refine wp_loc rfl rfl ?_
  refine wp_fr rfl rfl (Or.inr ⟨rfl, rfl⟩) rfl rfl J (by decide) rfl rfl (fun h J => ?_)
  exact wp_ret rfl rfl (fin _ (J.popd (by decide)))
theorem j81 (J : j_J 599 ((599, []) :: stk) f h) : q_mV 1 81 [.ref 599, .ref 597] h (fun h' => j_J 600 stk f h') := by
  refine q_mV.of (q_recV rfl (J.ok (by decide) rfl)) (fun Q fin => ?_)
  refine wp_loc rfl rfl ?_
  refine wp_oini rfl rfl (by decide) (by decide) rfl (by decide) ?_
  refine wp_loc rfl rfl ?_
  refine wp_sipush (v := 15756) rfl (by decide) ?_
  refine wp_fa (m := 15756) rfl rfl (by decide) rfl rfl (Or.inr ⟨rfl, rfl⟩) rfl rfl J (by decide) rfl rfl rfl rfl rfl (by decide) (fun h J => ?_)
  refine wp_loc rfl rfl ?_
  refine wp_loc rfl rfl ?_
  refine wp_fr rfl rfl (Or.inr ⟨rfl, rfl⟩) rfl rfl J (by decide) rfl rfl (fun h J => ?_)
  exact wp_ret rfl rfl (fin _ (J.popd (by decide)))
theorem j117 (J : j_J 610 ((610, []) :: stk) f h) : q_mV 1 117 [.ref 610, .ref 597, .ref 601, .ref 599] h (fun h' => j_J 613 stk f h') := by
  refine q_mV.of (q_recV rfl (J.ok (by decide) rfl)) (fun Q fin => ?_)
  refine wp_loc rfl rfl ?_
  refine wp_oini rfl rfl (by decide) (by decide) rfl (by decide) ?_
  refine wp_loc rfl rfl ?_
  refine wp_bipush (v := 8) rfl (by decide) ?_
  refine wp_fa (m := 8) rfl rfl (by decide) rfl rfl (Or.inr ⟨rfl, rfl⟩) rfl rfl J (by decide) rfl rfl rfl rfl rfl (by decide) (fun h J => ?_)
  refine wp_loc rfl rfl ?_
  refine wp_bipush (v := 8) rfl (by decide) ?_
  refine wp_fa (m := 8) rfl rfl (by decide) rfl rfl (Or.inr ⟨rfl, rfl⟩) rfl rfl J (by decide) rfl rfl rfl rfl rfl (by decide) (fun h J => ?_)
  refine wp_loc rfl rfl ?_
  refine wp_bipush (v := 48) rfl (by decide) ?_
  refine wp_fa (m := 48) rfl rfl (by decide) rfl rfl (Or.inr ⟨rfl, rfl⟩) rfl rfl J (by decide) rfl rfl rfl rfl rfl (by decide) (fun h J => ?_)
  refine wp_loc rfl rfl ?_
  refine wp_loc rfl rfl ?_
  refine wp_fr rfl rfl (Or.inr ⟨rfl, rfl⟩) rfl rfl J (by decide) rfl rfl (fun h J => ?_)
  refine wp_loc rfl rfl ?_
  refine wp_loc rfl rfl ?_
  refine wp_fr rfl rfl (Or.inr ⟨rfl, rfl⟩) rfl rfl J (by decide) rfl rfl (fun h J => ?_)
  refine wp_loc rfl rfl ?_
  refine wp_loc rfl rfl ?_
  refine wp_fr rfl rfl (Or.inr ⟨rfl, rfl⟩) rfl rfl J (by decide) rfl rfl (fun h J => ?_)
  exact wp_ret rfl rfl (fin _ (J.popd (by decide)))
theorem j201 (J : j_J 624 ((624, []) :: stk) f h) : q_mV 1 201 [.ref 624, .ref 597, .ref 622] h (fun h' => j_J 629 stk f h') := by
  refine q_mV.of (q_recV rfl (J.ok (by decide) rfl)) (fun Q fin => ?_)
  refine wp_loc rfl rfl ?_
  refine wp_oini rfl rfl (by decide) (by decide) rfl (by decide) ?_
  refine wp_loc rfl rfl ?_
  refine wp_bipush (v := 7) rfl (by decide) ?_
  refine wp_fa (m := 7) rfl rfl (by decide) rfl rfl (Or.inr ⟨rfl, rfl⟩) rfl rfl J (by decide) rfl rfl rfl rfl rfl (by decide) (fun h J => ?_)
  refine wp_loc rfl rfl ?_
  refine wp_bipush (v := 7) rfl (by decide) ?_
  refine wp_fa (m := 7) rfl rfl (by decide) rfl rfl (Or.inr ⟨rfl, rfl⟩) rfl rfl J (by decide) rfl rfl rfl rfl rfl (by decide) (fun h J => ?_)
  refine wp_loc rfl rfl ?_
  refine wp_bipush (v := 98) rfl (by decide) ?_
  refine wp_fa (m := 98) rfl rfl (by decide) rfl rfl (Or.inr ⟨rfl, rfl⟩) rfl rfl J (by decide) rfl rfl rfl rfl rfl (by decide) (fun h J => ?_)
  refine wp_loc rfl rfl ?_
  refine wp_bipush (v := 98) rfl (by decide) ?_
  refine wp_fa (m := 98) rfl rfl (by decide) rfl rfl (Or.inr ⟨rfl, rfl⟩) rfl rfl J (by decide) rfl rfl rfl rfl rfl (by decide) (fun h J => ?_)
  refine wp_loc rfl rfl ?_
  refine wp_bipush (v := 7) rfl (by decide) ?_
  refine wp_fa (m := 7) rfl rfl (by decide) rfl rfl (Or.inr ⟨rfl, rfl⟩) rfl rfl J (by decide) rfl rfl rfl rfl rfl (by decide) (fun h J => ?_)
  refine wp_loc rfl rfl ?_
  refine wp_loc rfl rfl ?_
  refine wp_fr rfl rfl (Or.inr ⟨rfl, rfl⟩) rfl rfl J (by decide) rfl rfl (fun h J => ?_)
  refine wp_loc rfl rfl ?_
  refine wp_loc rfl rfl ?_
  refine wp_fr rfl rfl (Or.inr ⟨rfl, rfl⟩) rfl rfl J (by decide) rfl rfl (fun h J => ?_)
  exact wp_ret rfl rfl (fin _ (J.popd (by decide)))
end JC
