/-! THE TEXT METHODS OF THE JDK: indexOf -/
section JS
variable {l : Launch} {B : Nat} {aS aV : Nat → Nat} {d : Nat}
theorem jj_lp : ∀ i, i < 2 → 0 < (q_byt.getD i []).length := by decide
set_option maxHeartbeats 4000000 in
set_option maxRecDepth 100000 in
theorem jc_indexOf1 {i n : Nat} (hi : i < 2) (hn : n < 256) : jj_C l B aS aV (d + 1) yJ1_indexOf_4cfef cJ1_indexOf_4cfef 4 (some .int) [.ref (aV i), .int (nI n), .int (nI 0), .int (nI (q_byt.getD i []).length)] (q_ix (q_byt.getD i []) (nI n) 0) := by
  refine q_ofW (cc := cJ1_indexOf_4cfef) (maxL := 4) (ret := (some .int)) (by decide) rfl ?_
  intro p e s m args below meth c s₁ X hml hv
  obtain ⟨rfl, hVS⟩ := hv
  have hVS : q_VS aS aV (fun q => B < q) s s.heap := hVS
  have hx := X.exec
  have hb := X.bytes
  have hr := X.returns
  have hlocks := X.notSynchronized
  have hown : s.vm.findClass RJ1 = some m.cls := findClass_of_methodNamed X.named
  have hts := atoms_spec (ws := jj_ws yJ1_indexOf_4cfef cJ1_indexOf_4cfef 4 (some .int)) X.pre
  have hw : ∀ w ∈ jj_W, w.before ([.ref (aV i), .int (nI n), .int (nI 0), .int (nI (q_byt.getD i []).length)] : List Value).toArray s = true := fun w h => hts w (List.mem_cons_of_mem _ (jj_U h))
  have hS : va_S (fun q => B < q) s.heap s.heap [] := va_S.rf
  have hl := lv_entry ([.ref (aV i), .int (nI n), .int (nI 0), .int (nI (q_byt.getD i []).length)]) (n := 4) (Nat.le_of_ble_eq_true rfl)
  rw [lg_entry_eq]
  generalize (lg_sl ([.ref (aV i), .int (nI n), .int (nI 0), .int (nI (q_byt.getD i []).length)]) ++ List.replicate (4 - (lg_sl ([.ref (aV i), .int (nI n), .int (nI 0), .int (nI (q_byt.getD i []).length)])).length) Slot.unset).toArray = ls at hl ⊢
  have hl : lv_has ls 4 [(0, .ref (aV i)), (1, .int (nI n)), (2, .int (nI 0)), (3, .int (nI (q_byt.getD i []).length))] := hl
  obtain ⟨l1, l2⟩ := jj_ln i hi
  have lp := jj_lp i hi
  have hT := (hVS.1.1 i hi).2.2.2
  rw [l1] at hT
  refine lv_iload_n hx hb dJ1_indexOf_4cfef_0 rfl (lv_at hl 1 rfl) ?_
  refine jj_callS (rest := []) (As := [.int (nI n)]) (na := 1) ⟨hx, hb, hml, hown, hts⟩ (jc_canEncode hn) (by decide +kernel) (by decide +kernel) (by decide +kernel) (by decide +kernel) (by decide +kernel) (by decide) rfl hVS hS hl.1 (Nat.le_of_ble_eq_true rfl) dJ1_indexOf_4cfef_1 (fun H1 locs1 hS => ?_)
  refine lv_if_ne (tgt := 9) hx hb dJ1_indexOf_4cfef_4 (by decide) (fun _ => ?_) (fun c => absurd c (by decide))
  refine lv_iload_n hx hb dJ1_indexOf_4cfef_9 rfl (lv_at hl 2 rfl) ?_
  refine lv_iconst (v := 0) hx hb dJ1_indexOf_4cfef_10 (by decide) ?_
  refine va_mmax (rest := []) hx hb (hml.trans hl.1.symm) hown (hw (.methodLink RJ1 92 Lib.Math.max.name) (by decide +kernel)) (hw (.static Lib.Math.max.name) (by decide +kernel)) (hw (.initialized "java/lang/Math") (by decide +kernel)) (hw (.code Lib.Math.max.name Lib.Math.max.code 2 (some .int)) (by decide +kernel)) (Nat.le_add_left 1 d) (by show 0 + 13 ≤ 64 * (d + 1); omega) (Nat.le_refl _) (Nat.le_refl _) dJ1_indexOf_4cfef_11 ?_
  rw [show (if nI 0 < 0 then (0 : Int32) else nI 0) = nI 0 from rfl]
  refine lv_istore_n (lv' := [(2, .int (nI 0)), (0, .ref (aV i)), (1, .int (nI n)), (3, .int (nI (q_byt.getD i []).length))]) hx hb dJ1_indexOf_4cfef_14 rfl hl (by decide) rfl (fun ls hl => ?_)
  refine lv_iload_n hx hb dJ1_indexOf_4cfef_15 rfl (lv_at hl 3 rfl) ?_
  refine lv_aload_n hx hb dJ1_indexOf_4cfef_16 rfl (lv_at hl 1 rfl) ?_
  refine va_tlen hx hb hT hS rfl dJ1_indexOf_4cfef_17 ?_
  refine va_mmin (rest := []) hx hb (hml.trans hl.1.symm) hown (hw (.methodLink RJ1 38 Lib.Math.min.name) (by decide +kernel)) (hw (.static Lib.Math.min.name) (by decide +kernel)) (hw (.initialized "java/lang/Math") (by decide +kernel)) (hw (.code Lib.Math.min.name Lib.Math.min.code 2 (some .int)) (by decide +kernel)) (Nat.le_add_left 1 d) (by show 0 + 13 ≤ 64 * (d + 1); omega) (Nat.le_refl _) (Nat.le_refl _) dJ1_indexOf_4cfef_18 ?_
  rw [show (if Int32.ofNat (q_byt.getD i []).length < nI (q_byt.getD i []).length then Int32.ofNat (q_byt.getD i []).length else nI (q_byt.getD i []).length) = nI (q_byt.getD i []).length from ite_self _]
  refine lv_istore_n (lv' := [(3, .int (nI (q_byt.getD i []).length)), (2, .int (nI 0)), (0, .ref (aV i)), (1, .int (nI n))]) hx hb dJ1_indexOf_4cfef_21 rfl hl (by decide) rfl (fun ls hl => ?_)
  refine lv_iload_n hx hb dJ1_indexOf_4cfef_22 rfl (lv_at hl 1 rfl) ?_
  refine lv_iload_n hx hb dJ1_indexOf_4cfef_23 rfl (lv_at hl 0 rfl) ?_
  refine lv_icmp_lt (tgt := 29) hx hb dJ1_indexOf_4cfef_24 (by decide) (fun _ => ?_) (fun c => absurd ((nI_ltI (by omega) (by omega)).mpr lp) c)
  refine lv_aload_n hx hb dJ1_indexOf_4cfef_29 rfl (lv_at hl 2 rfl) ?_
  refine lv_iload_n hx hb dJ1_indexOf_4cfef_30 rfl (lv_at hl 3 rfl) ?_
  refine lv_iload_n hx hb dJ1_indexOf_4cfef_31 rfl (lv_at hl 1 rfl) ?_
  refine lv_iload_n hx hb dJ1_indexOf_4cfef_32 rfl (lv_at hl 0 rfl) ?_
  refine jj_callS (rest := []) (As := [.ref (aV i), .int (nI n), .int (nI 0), .int (nI (q_byt.getD i []).length)]) (na := 4) ⟨hx, hb, hml, hown, hts⟩ (jc_indexOfChar hi hn) (by decide +kernel) (by decide +kernel) (by decide +kernel) (by decide +kernel) (by decide +kernel) (by decide) rfl hVS hS hl.1 (Nat.le_of_ble_eq_true rfl) dJ1_indexOf_4cfef_33 (fun H1 locs1 hS => ?_)
  exact W.iret (v := _) hx hb hr (fun t ht hW => ⟨⟨_, (), rfl, rfl, trivial⟩, hS.F ht⟩) hS.2.2 dJ1_indexOf_4cfef_36 hlocks
set_option maxHeartbeats 4000000 in
set_option maxRecDepth 100000 in
theorem jc_indexOf2 {i n : Nat} (hi : i < 2) (hn : n < 256) : jj_C l B aS aV (d + 2) yJ0_indexOf_7cf53 cJ0_indexOf_7cf53 3 (some .int) [.ref (aS i), .int (nI n), .int (nI 0)] (q_ix (q_byt.getD i []) (nI n) 0) := by
  refine q_ofW (cc := cJ0_indexOf_7cf53) (maxL := 3) (ret := (some .int)) (by decide) rfl ?_
  intro p e s m args below meth c s₁ X hml hv
  obtain ⟨rfl, hVS⟩ := hv
  have hVS : q_VS aS aV (fun q => B < q) s s.heap := hVS
  have hx := X.exec
  have hb := X.bytes
  have hr := X.returns
  have hlocks := X.notSynchronized
  have hown : s.vm.findClass RJ0 = some m.cls := findClass_of_methodNamed X.named
  have hts := atoms_spec (ws := jj_ws yJ0_indexOf_7cf53 cJ0_indexOf_7cf53 3 (some .int)) X.pre
  have hw : ∀ w ∈ jj_W, w.before ([.ref (aS i), .int (nI n), .int (nI 0)] : List Value).toArray s = true := fun w h => hts w (List.mem_cons_of_mem _ (jj_U h))
  have hS : va_S (fun q => B < q) s.heap s.heap [] := va_S.rf
  have hl := lv_entry ([.ref (aS i), .int (nI n), .int (nI 0)]) (n := 3) (Nat.le_of_ble_eq_true rfl)
  rw [lg_entry_eq]
  generalize (lg_sl ([.ref (aS i), .int (nI n), .int (nI 0)]) ++ List.replicate (3 - (lg_sl ([.ref (aS i), .int (nI n), .int (nI 0)])).length) Slot.unset).toArray = ls at hl ⊢
  have hl : lv_has ls 3 [(0, .ref (aS i)), (1, .int (nI n)), (2, .int (nI 0))] := hl
  obtain ⟨l1, l2⟩ := jj_ln i hi
  refine lv_aload_n hx hb dJ0_indexOf_7cf53_0 rfl (lv_at hl 0 rfl) ?_
  refine jj_callV (As := []) (rest := []) (C := "java/lang/String") (na := 0) ⟨hx, hb, hml, hown, hts⟩ (jc_isLatin1 hi) (by decide +kernel) (by decide +kernel) (by decide +kernel) (by decide +kernel) (by decide +kernel) (by decide +kernel) (by decide) rfl (vk_recv hVS.1 hi hS) hVS hS hl.1 (Nat.le_of_ble_eq_true rfl) dJ0_indexOf_7cf53_1 (fun H1 locs1 hS => ?_)
  refine lv_if_eq (tgt := 23) hx hb dJ0_indexOf_7cf53_4 (by decide) (fun c => absurd c (by decide)) (fun _ => ?_)
  refine lv_aload_n hx hb dJ0_indexOf_7cf53_7 rfl (lv_at hl 0 rfl) ?_
  refine vk_getf hx hb (hVS.1.1 i hi).2.2.1 hS hown (hw (.fieldLink RJ0 9 "java/lang/String" "value" "[B") (by decide +kernel)) (fun _ h9 => h9) dJ0_indexOf_7cf53_8 ?_
  refine lv_iload_n hx hb dJ0_indexOf_7cf53_11 rfl (lv_at hl 1 rfl) ?_
  refine lv_iload_n hx hb dJ0_indexOf_7cf53_12 rfl (lv_at hl 2 rfl) ?_
  refine lv_aload_n hx hb dJ0_indexOf_7cf53_13 rfl (lv_at hl 0 rfl) ?_
  refine jj_callV (As := []) (rest := [.int (nI 0), .int (nI n), .ref (aV i)]) (C := "java/lang/String") (na := 0) ⟨hx, hb, hml, hown, hts⟩ (jc_length hi) (by decide +kernel) (by decide +kernel) (by decide +kernel) (by decide +kernel) (by decide +kernel) (by decide +kernel) (by decide) rfl (vk_recv hVS.1 hi hS) hVS hS hl.1 (Nat.le_of_ble_eq_true rfl) dJ0_indexOf_7cf53_14 (fun H1 locs1 hS => ?_)
  rw [l1]
  refine jj_callS (rest := []) (As := [.ref (aV i), .int (nI n), .int (nI 0), .int (nI (q_byt.getD i []).length)]) (na := 4) ⟨hx, hb, hml, hown, hts⟩ (jc_indexOf1 hi hn) (by decide +kernel) (by decide +kernel) (by decide +kernel) (by decide +kernel) (by decide +kernel) (by decide) rfl hVS hS hl.1 (Nat.le_of_ble_eq_true rfl) dJ0_indexOf_7cf53_17 (fun H1 locs1 hS => ?_)
  refine lv_goto (tgt := 36) hx hb dJ0_indexOf_7cf53_20 (by decide) ?_
  exact W.iret (v := _) hx hb hr (fun t ht hW => ⟨⟨_, (), rfl, rfl, trivial⟩, hS.F ht⟩) hS.2.2 dJ0_indexOf_7cf53_36 hlocks
set_option maxHeartbeats 4000000 in
set_option maxRecDepth 100000 in
theorem jc_indexOf {i n : Nat} (hi : i < 2) (hn : n < 256) : jj_C l B aS aV (d + 3) yJ0_indexOf_0f7a4 cJ0_indexOf_0f7a4 2 (some .int) [.ref (aS i), .int (nI n)] (q_ix (q_byt.getD i []) (nI n) 0) := by
  refine q_ofW (cc := cJ0_indexOf_0f7a4) (maxL := 2) (ret := (some .int)) (by decide) rfl ?_
  intro p e s m args below meth c s₁ X hml hv
  obtain ⟨rfl, hVS⟩ := hv
  have hVS : q_VS aS aV (fun q => B < q) s s.heap := hVS
  have hx := X.exec
  have hb := X.bytes
  have hr := X.returns
  have hlocks := X.notSynchronized
  have hown : s.vm.findClass RJ0 = some m.cls := findClass_of_methodNamed X.named
  have hts := atoms_spec (ws := jj_ws yJ0_indexOf_0f7a4 cJ0_indexOf_0f7a4 2 (some .int)) X.pre
  have hw : ∀ w ∈ jj_W, w.before ([.ref (aS i), .int (nI n)] : List Value).toArray s = true := fun w h => hts w (List.mem_cons_of_mem _ (jj_U h))
  have hS : va_S (fun q => B < q) s.heap s.heap [] := va_S.rf
  have hl := lv_entry ([.ref (aS i), .int (nI n)]) (n := 2) (Nat.le_of_ble_eq_true rfl)
  rw [lg_entry_eq]
  generalize (lg_sl ([.ref (aS i), .int (nI n)]) ++ List.replicate (2 - (lg_sl ([.ref (aS i), .int (nI n)])).length) Slot.unset).toArray = ls at hl ⊢
  have hl : lv_has ls 2 [(0, .ref (aS i)), (1, .int (nI n))] := hl
  refine lv_aload_n hx hb dJ0_indexOf_0f7a4_0 rfl (lv_at hl 0 rfl) ?_
  refine lv_iload_n hx hb dJ0_indexOf_0f7a4_1 rfl (lv_at hl 1 rfl) ?_
  refine lv_iconst (v := nI 0) hx hb dJ0_indexOf_0f7a4_2 (by decide) ?_
  refine jj_callV (As := [.int (nI n), .int (nI 0)]) (rest := []) (C := "java/lang/String") (na := 2) ⟨hx, hb, hml, hown, hts⟩ (jc_indexOf2 hi hn) (by decide +kernel) (by decide +kernel) (by decide +kernel) (by decide +kernel) (by decide +kernel) (by decide +kernel) (by decide) rfl (vk_recv hVS.1 hi hS) hVS hS hl.1 (Nat.le_of_ble_eq_true rfl) dJ0_indexOf_0f7a4_3 (fun H1 locs1 hS => ?_)
  exact W.iret (v := _) hx hb hr (fun t ht hW => ⟨⟨_, (), rfl, rfl, trivial⟩, hS.F ht⟩) hS.2.2 dJ0_indexOf_0f7a4_6 hlocks
end JS
