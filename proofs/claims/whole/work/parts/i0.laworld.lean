/-! THE LAW: the world at its entry -/
section LE
variable {s : State} {args : Array Value}
theorem lj_arr {ty : FieldType} (h : (Cond.arrayClass ty).before args s = true) : ∃ cA : ClassId, ArrOfT s cA ty ∧ s.vm.findClass ("[" ++ ty.toString) = some cA := by
  obtain ⟨cA, kA, comp, h1, h2, h3⟩ := Cond.arrayClass_spec h
  exact ⟨cA, fun n z => ⟨fun k h => (by cases h), kA, h2, comp, h3⟩, h1⟩
theorem lj_world (hts : ∀ w ∈ lw_tbl, w.before args s = true) : ∃ (D : va_G) (tc : Nat → ClassId), va_K D q_CL (q_tys tc) s := by
  obtain ⟨cI, a1, b1⟩ := lj_arr (hts _ q_arI)
  obtain ⟨cJ, a2, b2⟩ := lj_arr (hts _ q_arJ)
  obtain ⟨cB, a3, b3⟩ := lj_arr (hts _ q_arB)
  obtain ⟨cZ, a4, b4⟩ := lj_arr (hts _ q_arZ)
  obtain ⟨comp, cR, kR, f1, f2, f3, f4, f5⟩ := Cond.arrayOver_spec (hts _ q_arR)
  have hk : ∀ k : Nat, ∃ y : ClassId × (Nat → Nat), k < 13 → u_Kn s (q_cn k) (q_ct k) (q_nf k) y.1 y.2 := by
    intro k
    by_cases h : k < 13
    · obtain ⟨cC, iS, hn⟩ := u_known (n := q_nf k) hts (q_uwA h) (hts _ (q_instn h))
      exact ⟨(cC, iS), fun _ => hn⟩
    · exact ⟨(cI, fun _ => 0), fun h2 => absurd h2 h⟩
  obtain ⟨f, hf⟩ := Classical.axiomOfChoice hk
  refine ⟨(fun k => (f k).1, fun k => (f k).2), fun n => if n = 20 then cI else if n = 21 then cJ else if n = 22 then cB else if n = 23 then cZ else cR, fun k q hq => ?_, fun k q hq => ?_⟩
  · have hk : k < 13 := (List.getElem?_eq_some_iff.mp hq).1
    have hq := (q_CLg hk).symm.trans hq
    cases hq
    exact hf k hk
  · match k, hq with
    | 0, hq => cases hq; exact ⟨a1, b1⟩
    | 1, hq => cases hq; exact ⟨a2, b2⟩
    | 2, hq => cases hq; exact ⟨a3, b3⟩
    | 3, hq => cases hq; exact ⟨a4, b4⟩
    | 4, hq => cases hq; exact ⟨fun n z => ⟨fun k h => (by cases h), kR, f3, comp, f4⟩, kR, comp, f3, f4, f1, f5⟩
    | k + 5, hq => simp [q_tys] at hq
def lj_tm (i : Nat) : Term := match i with
  | 0 => .string (q_cn 9) 25
  | _ => .string (q_cn 9) 87
set_option maxRecDepth 100000 in
theorem lj_t0 : Cond.stringRef (q_cn 9) 25 q_s0 ∈ lw_tbl := q_tb_mem (e := (1, 36)) (by decide +kernel)
set_option maxRecDepth 100000 in
theorem lj_t1 : Cond.stringRef (q_cn 9) 87 q_s1 ∈ lw_tbl := q_tb_mem (e := (3, 190)) (by decide +kernel)
set_option maxRecDepth 100000 in
theorem lj_t2 : Cond.laysStatic "java/lang/String" "COMPACT_STRINGS" "Z" ∈ lw_tbl := q_tb_mem (e := (1, 46)) (by decide +kernel)
set_option maxRecDepth 100000 in
theorem lj_t3 : Cond.laysStatic "jdk/internal/util/Preconditions" "SIOOBE_FORMATTER" "Ljava/util/function/BiFunction;" ∈ lw_tbl := q_tb_mem (e := (1, 62)) (by decide +kernel)
set_option maxRecDepth 100000 in
theorem lj_t4 : Cond.initialized "java/lang/String" ∈ lw_tbl := q_tb_mem (e := (1, 3)) (by decide +kernel)
set_option maxRecDepth 100000 in
theorem lj_t5 : Cond.initialized "jdk/internal/util/Preconditions" ∈ lw_tbl := q_tb_mem (e := (1, 5)) (by decide +kernel)
abbrev lj_nc : List Cond := flatC (Jvm.Cond.and given_1 narrow_1)
set_option maxRecDepth 100000 in
theorem lj_n0 : ∀ i : Nat, i < 2 → (Cond.exactly (lj_tm i) "java/lang/String") ∈ lj_nc := by decide +kernel
set_option maxRecDepth 100000 in
theorem lj_n1 : ∀ i : Nat, i < 2 → (Cond.eq (.field (lj_tm i) "java/lang/String" "coder" "B") (.int 0)) ∈ lj_nc := by decide +kernel
set_option maxRecDepth 100000 in
theorem lj_n2 : ∀ i : Nat, i < 2 → (Cond.arrayOf (.field (lj_tm i) "java/lang/String" "value" "[B") .byte) ∈ lj_nc := by decide +kernel
set_option maxRecDepth 100000 in
theorem lj_n3 : ∀ i : Nat, i < 2 → (Cond.eq (.length (.field (lj_tm i) "java/lang/String" "value" "[B")) (.int (Int32.ofNat (q_len.getD i 0)))) ∈ lj_nc := by decide +kernel
set_option maxRecDepth 100000 in
theorem lj_n4 : ∀ i : Nat, i < 2 → ∀ j : Nat, j < q_len.getD i 0 → (Cond.eq (.elem (.field (lj_tm i) "java/lang/String" "value" "[B") (.int (Int32.ofNat j))) (.int ((q_byt.getD i []).getD j 0))) ∈ lj_nc := by decide +kernel
set_option maxRecDepth 100000 in
theorem lj_n5 : (Cond.not (Cond.eq (lj_tm 0) (lj_tm 1))) ∈ lj_nc := by decide +kernel
set_option maxRecDepth 100000 in
theorem lj_n6 : (Cond.eq (.static "java/lang/String" "COMPACT_STRINGS" "Z") (.int 1)) ∈ lj_nc := by decide +kernel
set_option maxRecDepth 100000 in
theorem lj_n7 : (Cond.isRef (.static "jdk/internal/util/Preconditions" "SIOOBE_FORMATTER" "Ljava/util/function/BiFunction;")) ∈ lj_nc := by decide +kernel
theorem lj_texts {A : Nat → Prop} (hts : ∀ w ∈ lw_tbl, w.before args s = true) (hgv : (Jvm.Cond.and given_1 narrow_1).before args s = true) (hA : ∀ a : Nat, a < s.heap.size → ¬ A a) : ∃ aS aV : Nat → Nat, q_NS (aS 0) (aS 1) s ∧ q_VS aS aV A s s.heap := by
  have hs : ∀ w ∈ lj_nc, w.before args s = true := flat_of_before _ hgv
  obtain ⟨aS, aV, hV, hE⟩ := vk_Sof (args := args) (s := s) (N := 2) (tm := lj_tm) (len := q_len) (byt := q_byt) (A := A) (by decide +kernel) (fun i hi => hs _ (lj_n0 i hi)) (fun i hi => hs _ (lj_n1 i hi)) (fun i hi => hs _ (lj_n2 i hi)) (fun i hi => hs _ (lj_n3 i hi)) (fun i hi j hj => hs _ (lj_n4 i hi j hj)) (fun i j hi hj hij => by
    rcases (show (i = 0 ∧ j = 1) ∨ (i = 1 ∧ j = 0) by omega) with ⟨rfl, rfl⟩ | ⟨rfl, rfl⟩
    · exact Or.inl (hs _ lj_n5)
    · exact Or.inr (hs _ lj_n5)) hA
  refine ⟨aS, aV, ⟨fun own idx k hk => va_tabs (A := args) rfl rfl (hts _ (q_nT_ok hk)), va_AO.of (hts _ q_arR), vk_R.of (hts _ lj_t0) (hE 0 (by decide)), vk_R.of (hts _ lj_t1) (hE 1 (by decide))⟩, hV, va_Zof (hts _ lj_t2) (hts _ lj_t4) (va_eqi (hs _ lj_n6)) hA, va_Zqof (hts _ lj_t3) (hts _ lj_t5) (hs _ lj_n7) hA⟩
end LE
