/-! THE TEXT METHODS OF THE JDK: a call of one by another -/
section JS
variable {p : Program} {l : Launch} {e : Env} {s : State} {m : MethodId} {args : Array Value} {below : List Frame} {meth : Method} {c : Code} {H : Heap} {locs : List Loc} {Q : State → Prop}
variable {cc : ByteArray} {pc : Nat} {ls : Array Slot} {B : Nat} {aS aV : Nat → Nat} {d : Nat}
theorem jj_pre {as : List Value} (hS : va_S (fun q => B < q) s.heap H locs) (hVS : q_VS aS aV (fun q => B < q) s s.heap) : ∀ U : State, U.heap = H → s.WarmedH U.vm → va_Pc as (jj_Pw B aS aV) as.toArray U := by
  intro U hU hW
  refine ⟨rfl, ?_⟩
  show q_VS aS aV (fun q => B < q) U U.heap
  rw [hU]
  exact q_VS.moved hW.alike (q_VS.kept hVS hS.2.1)
theorem jj_callV {y0 y : MethodName} {c0 c1 : ByteArray} {n0 n na index : Nat} {r0 r : Option FieldType} {own C : String} {b : Addr} {As rest : List Value} {v : Int32} (S : CallFix p m c cc n0 s args (jj_ws y0 c0 n0 r0) own) (hM : jj_C l B aS aV d y c1 n r (.ref b :: As) v) (hcode : Cond.code y c1 n r ∈ jj_W) (hlk : Cond.methodLink own index y ∈ jj_W) (hinst : Cond.instanceMethod y ∈ jj_W) (hsel : Cond.selects C y y ∈ jj_W) (hini : Cond.initialized y.cls ∈ jj_W) (hd : y.cls ≠ "java/lang/invoke/MethodHandle" ∧ y.cls ≠ "java/lang/invoke/VarHandle" ∧ (parseMethodDescriptor y.desc).map (fun d => d.parameters.length) = some na) (hn : n ≤ 40) (hna : As.length = na) (hcell : ∃ cell : Cell, H[b]? = some cell ∧ cell.vm.isStatics = false ∧ s.vm.findClass C = some cell.cls) (hVS : q_VS aS aV (fun q => B < q) s s.heap) (hS : va_S (fun q => B < q) s.heap H locs) (hls : ls.size = n0) (hsum : (rest.map fun v => v.category).sum ≤ 8) (hdg : decode cc pc = .ok (.invokevirtual index, 3)) (kk : ∀ (H1 : Heap) (locs1 : List Loc), va_S (fun q => B < q) s.heap H1 locs1 → W p l e (q_rm (d + 1) 0 0) s m args below meth c H1 locs1 0 0 Q (F0 m (pc + 3) ls (.int v :: rest))) : W p l e (q_rm (d + 1) 0 0) s m args below meth c H locs 0 0 Q (F0 m pc ls (As.reverse ++ .ref b :: rest)) := by
  have hw : ∀ w ∈ jj_W, w.before args s = true := fun w h => S.2.2.2.2 w (List.mem_cons_of_mem _ (jj_U h))
  refine va_calli (va_runV (As := As) (b := b) (C := C) (n := na) (rest := rest) S hM ⟨callB_of na S.2.2.2.2 (jj_good hcode) rfl rfl rfl (hw _ hini) (hw _ hlk) hd ⟨Nat.le_refl _, ?_⟩, hw _ hinst, hw _ hsel⟩ ⟨jj_blind, hcell, jj_pre hS hVS⟩ rfl hna hls rfl ?_ hdg ⟨Nat.le_refl _, Nat.le_refl _⟩) hS (fun _ _ h => h) (fun _ h => h) (fun z u t H1 locs1 _ _ hz _ _ _ hS1 => ?_)
  · show 8 + (n + 11) + 64 * d ≤ 64 * (d + 1)
    omega
  · show 2 * 0 + _ ≤ 8
    omega
  · have hz : z = v := hz
    rw [hz]
    exact kk H1 locs1 hS1
theorem jj_callS {y0 y : MethodName} {c0 c1 : ByteArray} {n0 n na index : Nat} {r0 r : Option FieldType} {own : String} {As rest : List Value} {v : Int32} (S : CallFix p m c cc n0 s args (jj_ws y0 c0 n0 r0) own) (hM : jj_C l B aS aV d y c1 n r As v) (hcode : Cond.code y c1 n r ∈ jj_W) (hlk : Cond.methodLink own index y ∈ jj_W) (hst : Cond.static y ∈ jj_W) (hini : Cond.initialized y.cls ∈ jj_W) (hd : y.cls ≠ "java/lang/invoke/MethodHandle" ∧ y.cls ≠ "java/lang/invoke/VarHandle" ∧ (parseMethodDescriptor y.desc).map (fun d => d.parameters.length) = some na) (hn : n ≤ 40) (hna : As.length = na) (hVS : q_VS aS aV (fun q => B < q) s s.heap) (hS : va_S (fun q => B < q) s.heap H locs) (hls : ls.size = n0) (hsum : (rest.map fun v => v.category).sum ≤ 8) (hdg : decode cc pc = .ok (.invokestatic index, 3)) (kk : ∀ (H1 : Heap) (locs1 : List Loc), va_S (fun q => B < q) s.heap H1 locs1 → W p l e (q_rm (d + 1) 0 0) s m args below meth c H1 locs1 0 0 Q (F0 m (pc + 3) ls (.int v :: rest))) : W p l e (q_rm (d + 1) 0 0) s m args below meth c H locs 0 0 Q (F0 m pc ls (As.reverse ++ rest)) := by
  have hw : ∀ w ∈ jj_W, w.before args s = true := fun w h => S.2.2.2.2 w (List.mem_cons_of_mem _ (jj_U h))
  refine va_calli (va_runS (As := As) (n := na) (rest := rest) S hM ⟨callB_of na S.2.2.2.2 (jj_good hcode) rfl rfl rfl (hw _ hini) (hw _ hlk) hd ⟨Nat.le_refl _, ?_⟩, hw _ hst⟩ ⟨jj_blind, jj_pre hS hVS⟩ rfl hna hls rfl ?_ hdg ⟨Nat.le_refl _, Nat.le_refl _⟩) hS (fun _ _ h => h) (fun _ h => h) (fun z u t H1 locs1 _ _ hz _ _ _ hS1 => ?_)
  · show 8 + (n + 11) + 64 * d ≤ 64 * (d + 1)
    omega
  · show 2 * 0 + _ ≤ 8
    omega
  · have hz : z = v := hz
    rw [hz]
    exact kk H1 locs1 hS1
end JS
