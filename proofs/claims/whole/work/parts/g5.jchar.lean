/-! THE TEXT METHODS OF THE JDK: charAt -/
section JD
variable {p : Program} {l : Launch} {e : Env} {s : State} {m : MethodId} {args : Array Value} {below : List Frame} {meth : Method} {c : Code} {H : Heap} {locs : List Loc} {Q : State → Prop}
variable {cc : ByteArray} {pc : Nat} {ls : Array Slot} {B : Nat} {aS aV : Nat → Nat} {d : Nat}
theorem jj_callD {y0 y : MethodName} {c0 c1 : ByteArray} {n0 n na index : Nat} {r0 r : Option FieldType} {own : String} {As rest : List Value} (S : CallFix p m c cc n0 s args (jj_ws y0 c0 n0 r0) own) (hM : jj_D l B aS aV d y c1 n r As ()) (hcode : Cond.code y c1 n r ∈ jj_W) (hlk : Cond.methodLink own index y ∈ jj_W) (hst : Cond.static y ∈ jj_W) (hini : Cond.initialized y.cls ∈ jj_W) (hd : y.cls ≠ "java/lang/invoke/MethodHandle" ∧ y.cls ≠ "java/lang/invoke/VarHandle" ∧ (parseMethodDescriptor y.desc).map (fun d => d.parameters.length) = some na) (hn : n ≤ 40) (hna : As.length = na) (hVS : q_VS aS aV (fun q => B < q) s s.heap) (hS : va_S (fun q => B < q) s.heap H locs) (hls : ls.size = n0) (hsum : (rest.map fun v => v.category).sum ≤ 8) (hdg : decode cc pc = .ok (.invokestatic index, 3)) (kk : ∀ (H1 : Heap) (locs1 : List Loc), va_S (fun q => B < q) s.heap H1 locs1 → W p l e (q_rm (d + 1) 0 0) s m args below meth c H1 locs1 0 0 Q (F0 m (pc + 3) ls rest)) : W p l e (q_rm (d + 1) 0 0) s m args below meth c H locs 0 0 Q (F0 m pc ls (As.reverse ++ rest)) := by
  have hw : ∀ w ∈ jj_W, w.before args s = true := fun w h => S.2.2.2.2 w (List.mem_cons_of_mem _ (jj_U h))
  refine va_callv (va_runS (As := As) (n := na) (rest := rest) S hM ⟨callB_of na S.2.2.2.2 (jj_good hcode) rfl rfl rfl (hw _ hini) (hw _ hlk) hd ⟨Nat.le_refl _, ?_⟩, hw _ hst⟩ ⟨jj_blind, jj_pre hS hVS⟩ rfl hna hls rfl ?_ hdg ⟨Nat.le_refl _, Nat.le_refl _⟩) hS (fun _ _ h => h) (fun _ h => h) (fun u t H1 locs1 _ _ _ _ _ _ hS1 => ?_)
  · show 8 + (n + 11) + 64 * d ≤ 64 * (d + 1)
    omega
  · show 2 * 0 + _ ≤ 8
    omega
  · exact kk H1 locs1 hS1
end JD
section JS
variable {l : Launch} {B : Nat} {aS aV : Nat → Nat} {d : Nat}
set_option maxHeartbeats 4000000 in
set_option maxRecDepth 100000 in
theorem jc_charAt1 {i k : Nat} (hi : i < 2) (hk : k < q_len.getD i 0) : jj_C l B aS aV (d + 2) yJ1_charAt_3b067 cJ1_charAt_3b067 2 (some .char) [.ref (aV i), .int (nI k)] ((q_byt.getD i []).getD k 0) := by
  refine q_ofW (cc := cJ1_charAt_3b067) (maxL := 2) (ret := (some .char)) (by decide) rfl ?_
  intro p e s m args below meth c s₁ X hml hv
  obtain ⟨rfl, hVS⟩ := hv
  have hVS : q_VS aS aV (fun q => B < q) s s.heap := hVS
  have hx := X.exec
  have hb := X.bytes
  have hr := X.returns
  have hlocks := X.notSynchronized
  have hown : s.vm.findClass RJ1 = some m.cls := findClass_of_methodNamed X.named
  have hts := atoms_spec (ws := jj_ws yJ1_charAt_3b067 cJ1_charAt_3b067 2 (some .char)) X.pre
  have hw : ∀ w ∈ jj_W, w.before ([.ref (aV i), .int (nI k)] : List Value).toArray s = true := fun w h => hts w (List.mem_cons_of_mem _ (jj_U h))
  have hS : va_S (fun q => B < q) s.heap s.heap [] := va_S.rf
  have hl := lv_entry ([.ref (aV i), .int (nI k)]) (n := 2) (Nat.le_of_ble_eq_true rfl)
  rw [lg_entry_eq]
  generalize (lg_sl ([.ref (aV i), .int (nI k)]) ++ List.replicate (2 - (lg_sl ([.ref (aV i), .int (nI k)])).length) Slot.unset).toArray = ls at hl ⊢
  have hl : lv_has ls 2 [(0, .ref (aV i)), (1, .int (nI k))] := hl
  have l31 : q_len.getD i 0 < 2 ^ 31 := by
    rcases (show i = 0 ∨ i = 1 by omega) with rfl | rfl <;> decide
  have h1 : ¬ nI k < 0 := nI_pos (by omega)
  have h2 : nI k < Int32.ofNat (q_len.getD i 0) := (nI_ltI (by omega) l31).mpr hk
  refine lv_iload_n hx hb dJ1_charAt_3b067_0 rfl (lv_at hl 1 rfl) ?_
  refine lv_aload_n hx hb dJ1_charAt_3b067_1 rfl (lv_at hl 0 rfl) ?_
  refine va_tlen hx hb (hVS.1.1 i hi).2.2.2 hS rfl dJ1_charAt_3b067_2 ?_
  refine jj_callD (rest := []) (As := [.int (nI k), .int (Int32.ofNat (q_len.getD i 0))]) (na := 2) ⟨hx, hb, hml, hown, hts⟩ (jc_ci2 h1 h2) (by decide +kernel) (by decide +kernel) (by decide +kernel) (by decide +kernel) (by decide +kernel) (by decide) rfl hVS hS hl.1 (Nat.le_of_ble_eq_true rfl) dJ1_charAt_3b067_3 (fun H1 locs1 hS => ?_)
  refine lv_aload_n hx hb dJ1_charAt_3b067_6 rfl (lv_at hl 0 rfl) ?_
  refine lv_iload_n hx hb dJ1_charAt_3b067_7 rfl (lv_at hl 1 rfl) ?_
  refine va_tb (v := .int ((q_byt.getD i []).getD k 0)) hx hb (hVS.1.1 i hi).2.2.2 hS (by unfold vp_in; rw [nI_clamp (by omega)]; exact fun h9 => h9.elim h1 (fun h8 => absurd hk (by omega))) (by rw [nI_clamp (by omega)]) dJ1_charAt_3b067_8 ?_
  refine lv_sipush (v := 255) hx hb dJ1_charAt_3b067_9 (by decide) ?_
  refine lv_iand hx hb dJ1_charAt_3b067_12 ?_
  refine lv_i2c (v := (q_byt.getD i []).getD k 0) hx hb dJ1_charAt_3b067_13 (jj_chr i hi k hk).1 ?_
  exact W.zret (ty := .char) hx hb hr (jj_chr i hi k hk).2 (fun t ht hW => ⟨⟨_, (), rfl, rfl, trivial⟩, hS.F ht⟩) hS.2.2 dJ1_charAt_3b067_14 hlocks
set_option maxHeartbeats 4000000 in
set_option maxRecDepth 100000 in
theorem jc_charAt {i k : Nat} (hi : i < 2) (hk : k < q_len.getD i 0) : jj_C l B aS aV (d + 3) yJ0_charAt_5068e cJ0_charAt_5068e 2 (some .char) [.ref (aS i), .int (nI k)] ((q_byt.getD i []).getD k 0) := by
  refine q_ofW (cc := cJ0_charAt_5068e) (maxL := 2) (ret := (some .char)) (by decide) rfl ?_
  intro p e s m args below meth c s₁ X hml hv
  obtain ⟨rfl, hVS⟩ := hv
  have hVS : q_VS aS aV (fun q => B < q) s s.heap := hVS
  have hx := X.exec
  have hb := X.bytes
  have hr := X.returns
  have hlocks := X.notSynchronized
  have hown : s.vm.findClass RJ0 = some m.cls := findClass_of_methodNamed X.named
  have hts := atoms_spec (ws := jj_ws yJ0_charAt_5068e cJ0_charAt_5068e 2 (some .char)) X.pre
  have hw : ∀ w ∈ jj_W, w.before ([.ref (aS i), .int (nI k)] : List Value).toArray s = true := fun w h => hts w (List.mem_cons_of_mem _ (jj_U h))
  have hS : va_S (fun q => B < q) s.heap s.heap [] := va_S.rf
  have hl := lv_entry ([.ref (aS i), .int (nI k)]) (n := 2) (Nat.le_of_ble_eq_true rfl)
  rw [lg_entry_eq]
  generalize (lg_sl ([.ref (aS i), .int (nI k)]) ++ List.replicate (2 - (lg_sl ([.ref (aS i), .int (nI k)])).length) Slot.unset).toArray = ls at hl ⊢
  have hl : lv_has ls 2 [(0, .ref (aS i)), (1, .int (nI k))] := hl
  refine lv_aload_n hx hb dJ0_charAt_5068e_0 rfl (lv_at hl 0 rfl) ?_
  refine jj_callV (As := []) (rest := []) (C := "java/lang/String") (na := 0) ⟨hx, hb, hml, hown, hts⟩ (jc_isLatin1 hi) (by decide +kernel) (by decide +kernel) (by decide +kernel) (by decide +kernel) (by decide +kernel) (by decide +kernel) (by decide) rfl (vk_recv hVS.1 hi hS) hVS hS hl.1 (Nat.le_of_ble_eq_true rfl) dJ0_charAt_5068e_1 (fun H1 locs1 hS => ?_)
  refine lv_if_eq (tgt := 16) hx hb dJ0_charAt_5068e_4 (by decide) (fun c => absurd c (by decide)) (fun _ => ?_)
  refine lv_aload_n hx hb dJ0_charAt_5068e_7 rfl (lv_at hl 0 rfl) ?_
  refine vk_getf hx hb (hVS.1.1 i hi).2.2.1 hS hown (hw (.fieldLink RJ0 9 "java/lang/String" "value" "[B") (by decide +kernel)) (fun _ h9 => h9) dJ0_charAt_5068e_8 ?_
  refine lv_iload_n hx hb dJ0_charAt_5068e_11 rfl (lv_at hl 1 rfl) ?_
  refine jj_callS (rest := []) (As := [.ref (aV i), .int (nI k)]) (na := 2) ⟨hx, hb, hml, hown, hts⟩ (jc_charAt1 hi hk) (by decide +kernel) (by decide +kernel) (by decide +kernel) (by decide +kernel) (by decide +kernel) (by decide) rfl hVS hS hl.1 (Nat.le_of_ble_eq_true rfl) dJ0_charAt_5068e_12 (fun H1 locs1 hS => ?_)
  exact W.zret (ty := .char) hx hb hr (jj_chr i hi k hk).2 (fun t ht hW => ⟨⟨_, (), rfl, rfl, trivial⟩, hS.F ht⟩) hS.2.2 dJ0_charAt_5068e_15 hlocks
end JS
