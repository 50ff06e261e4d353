/-! THE TEXT METHODS OF THE JDK: length, charAt -/
section JS
variable {l : Launch} {B : Nat} {aS aV : Nat → Nat} {d : Nat}
def jj_D (l : Launch) (B : Nat) (aS aV : Nat → Nat) (d : Nat) (y : MethodName) (c : ByteArray) (n : Nat) (r : Option FieldType) (as : List Value) (_ : Unit) : Prop := Met l y (jj_ws y c n r) (q_rm d 0 0) (va_Pc as (jj_Pw B aS aV)) (va_Qv (S := Unit) (fun _ => True) (fun _ _ => True) (fun q => B < q)) 0 0 (fun q => B < q)
theorem jj_shr : ∀ i, i < 2 → Int32.ofNat (q_len.getD i 0) >>> ((0 : Int32) &&& 31) = Int32.ofNat (q_len.getD i 0) := by decide +kernel
theorem jj_chr : ∀ i, i < 2 → ∀ k, k < q_len.getD i 0 → (((q_byt.getD i []).getD k 0 &&& 255).toUInt32 % 65536).toInt32 = (q_byt.getD i []).getD k 0 ∧ narrow .char (.int ((q_byt.getD i []).getD k 0)) = .int ((q_byt.getD i []).getD k 0) := by decide +kernel
set_option maxHeartbeats 4000000 in
set_option maxRecDepth 100000 in
theorem jc_length {i : Nat} (hi : i < 2) : jj_C l B aS aV (d + 1) yJ0_length_8abf5 cJ0_length_8abf5 1 (some .int) [.ref (aS i)] (Int32.ofNat (q_len.getD i 0)) := by
  refine q_ofW (cc := cJ0_length_8abf5) (maxL := 1) (ret := (some .int)) (by decide) rfl ?_
  intro p e s m args below meth c s₁ X hml hv
  obtain ⟨rfl, hVS⟩ := hv
  have hVS : q_VS aS aV (fun q => B < q) s s.heap := hVS
  have hx := X.exec
  have hb := X.bytes
  have hr := X.returns
  have hlocks := X.notSynchronized
  have hown : s.vm.findClass RJ0 = some m.cls := findClass_of_methodNamed X.named
  have hts := atoms_spec (ws := jj_ws yJ0_length_8abf5 cJ0_length_8abf5 1 (some .int)) X.pre
  have hw : ∀ w ∈ jj_W, w.before ([.ref (aS i)] : List Value).toArray s = true := fun w h => hts w (List.mem_cons_of_mem _ (jj_U h))
  have hS : va_S (fun q => B < q) s.heap s.heap [] := va_S.rf
  have hl := lv_entry ([.ref (aS i)]) (n := 1) (Nat.le_of_ble_eq_true rfl)
  rw [lg_entry_eq]
  generalize (lg_sl ([.ref (aS i)]) ++ List.replicate (1 - (lg_sl ([.ref (aS i)])).length) Slot.unset).toArray = ls at hl ⊢
  have hl : lv_has ls 1 [(0, .ref (aS i))] := hl
  refine lv_aload_n hx hb dJ0_length_8abf5_0 rfl (lv_at hl 0 rfl) ?_
  refine vk_getf hx hb (hVS.1.1 i hi).2.2.1 hS hown (hw (.fieldLink RJ0 9 "java/lang/String" "value" "[B") (by decide +kernel)) (fun _ h9 => h9) dJ0_length_8abf5_1 ?_
  refine va_tlen hx hb (hVS.1.1 i hi).2.2.2 hS rfl dJ0_length_8abf5_4 ?_
  refine lv_aload_n hx hb dJ0_length_8abf5_5 rfl (lv_at hl 0 rfl) ?_
  refine jj_callV (As := []) (C := "java/lang/String") (na := 0) ⟨hx, hb, hml, hown, hts⟩ (jc_coder hi) (by decide +kernel) (by decide +kernel) (by decide +kernel) (by decide +kernel) (by decide +kernel) (by decide +kernel) (by decide) rfl (vk_recv hVS.1 hi hS) hVS hS hl.1 (Nat.le_of_ble_eq_true rfl) dJ0_length_8abf5_6 (fun H1 locs1 hS => ?_)
  refine lv_ishr hx hb dJ0_length_8abf5_9 ?_
  rw [jj_shr i hi]
  exact W.iret (v := _) hx hb hr (fun t ht hW => ⟨⟨_, (), rfl, rfl, trivial⟩, hS.F ht⟩) hS.2.2 dJ0_length_8abf5_10 hlocks
set_option maxHeartbeats 4000000 in
set_option maxRecDepth 100000 in
theorem jc_ci3n {x y : Int32} (h1 : ¬ x < 0) (h2 : x < y) : jj_C l B aS aV d yJ3_checkIndex_8e157 cJ3_checkIndex_8e157 3 (some .int) [.int x, .int y, .null] x := by
  refine q_ofW (cc := cJ3_checkIndex_8e157) (maxL := 3) (ret := (some .int)) (by decide) rfl ?_
  intro p e s m args below meth c s₁ X hml hv
  obtain ⟨rfl, hVS⟩ := hv
  have hVS : q_VS aS aV (fun q => B < q) s s.heap := hVS
  have hx := X.exec
  have hb := X.bytes
  have hr := X.returns
  have hlocks := X.notSynchronized
  have hown : s.vm.findClass RJ3 = some m.cls := findClass_of_methodNamed X.named
  have hts := atoms_spec (ws := jj_ws yJ3_checkIndex_8e157 cJ3_checkIndex_8e157 3 (some .int)) X.pre
  have hw : ∀ w ∈ jj_W, w.before ([.int x, .int y, .null] : List Value).toArray s = true := fun w h => hts w (List.mem_cons_of_mem _ (jj_U h))
  have hS : va_S (fun q => B < q) s.heap s.heap [] := va_S.rf
  have hl := lv_entry ([.int x, .int y, .null]) (n := 3) (Nat.le_of_ble_eq_true rfl)
  rw [lg_entry_eq]
  generalize (lg_sl ([.int x, .int y, .null]) ++ List.replicate (3 - (lg_sl ([.int x, .int y, .null])).length) Slot.unset).toArray = ls at hl ⊢
  have hl : lv_has ls 3 [(0, .int x), (1, .int y), (2, .null)] := hl
  refine lv_iload_n hx hb dJ3_checkIndex_8e157_0 rfl (lv_at hl 0 rfl) ?_
  refine lv_if_lt (tgt := 9) hx hb dJ3_checkIndex_8e157_1 (by decide) (fun c => absurd c h1) (fun _ => ?_)
  refine lv_iload_n hx hb dJ3_checkIndex_8e157_4 rfl (lv_at hl 0 rfl) ?_
  refine lv_iload_n hx hb dJ3_checkIndex_8e157_5 rfl (lv_at hl 1 rfl) ?_
  refine lv_icmp_lt (tgt := 16) hx hb dJ3_checkIndex_8e157_6 (by decide) (fun _ => ?_) (fun c => absurd h2 c)
  refine lv_iload_n hx hb dJ3_checkIndex_8e157_16 rfl (lv_at hl 0 rfl) ?_
  exact W.iret (v := x) hx hb hr (fun t ht hW => ⟨⟨_, (), rfl, rfl, trivial⟩, hS.F ht⟩) hS.2.2 dJ3_checkIndex_8e157_17 hlocks
set_option maxHeartbeats 4000000 in
set_option maxRecDepth 100000 in
theorem jc_ci3r {x y : Int32} {t : Nat} (h1 : ¬ x < 0) (h2 : x < y) : jj_C l B aS aV d yJ3_checkIndex_8e157 cJ3_checkIndex_8e157 3 (some .int) [.int x, .int y, .ref t] x := by
  refine q_ofW (cc := cJ3_checkIndex_8e157) (maxL := 3) (ret := (some .int)) (by decide) rfl ?_
  intro p e s m args below meth c s₁ X hml hv
  obtain ⟨rfl, hVS⟩ := hv
  have hVS : q_VS aS aV (fun q => B < q) s s.heap := hVS
  have hx := X.exec
  have hb := X.bytes
  have hr := X.returns
  have hlocks := X.notSynchronized
  have hown : s.vm.findClass RJ3 = some m.cls := findClass_of_methodNamed X.named
  have hts := atoms_spec (ws := jj_ws yJ3_checkIndex_8e157 cJ3_checkIndex_8e157 3 (some .int)) X.pre
  have hw : ∀ w ∈ jj_W, w.before ([.int x, .int y, .ref t] : List Value).toArray s = true := fun w h => hts w (List.mem_cons_of_mem _ (jj_U h))
  have hS : va_S (fun q => B < q) s.heap s.heap [] := va_S.rf
  have hl := lv_entry ([.int x, .int y, .ref t]) (n := 3) (Nat.le_of_ble_eq_true rfl)
  rw [lg_entry_eq]
  generalize (lg_sl ([.int x, .int y, .ref t]) ++ List.replicate (3 - (lg_sl ([.int x, .int y, .ref t])).length) Slot.unset).toArray = ls at hl ⊢
  have hl : lv_has ls 3 [(0, .int x), (1, .int y), (2, .ref t)] := hl
  refine lv_iload_n hx hb dJ3_checkIndex_8e157_0 rfl (lv_at hl 0 rfl) ?_
  refine lv_if_lt (tgt := 9) hx hb dJ3_checkIndex_8e157_1 (by decide) (fun c => absurd c h1) (fun _ => ?_)
  refine lv_iload_n hx hb dJ3_checkIndex_8e157_4 rfl (lv_at hl 0 rfl) ?_
  refine lv_iload_n hx hb dJ3_checkIndex_8e157_5 rfl (lv_at hl 1 rfl) ?_
  refine lv_icmp_lt (tgt := 16) hx hb dJ3_checkIndex_8e157_6 (by decide) (fun _ => ?_) (fun c => absurd h2 c)
  refine lv_iload_n hx hb dJ3_checkIndex_8e157_16 rfl (lv_at hl 0 rfl) ?_
  exact W.iret (v := x) hx hb hr (fun t ht hW => ⟨⟨_, (), rfl, rfl, trivial⟩, hS.F ht⟩) hS.2.2 dJ3_checkIndex_8e157_17 hlocks
set_option maxHeartbeats 4000000 in
set_option maxRecDepth 100000 in
theorem jc_ci2 {x y : Int32} (h1 : ¬ x < 0) (h2 : x < y) : jj_D l B aS aV (d + 1) yJ0_checkIndex_df160 cJ0_checkIndex_df160 2 none [.int x, .int y] () := by
  refine q_ofW (cc := cJ0_checkIndex_df160) (maxL := 2) (ret := none) (by decide) rfl ?_
  intro p e s m args below meth c s₁ X hml hv
  obtain ⟨rfl, hVS⟩ := hv
  have hVS : q_VS aS aV (fun q => B < q) s s.heap := hVS
  have hx := X.exec
  have hb := X.bytes
  have hr := X.returns
  have hlocks := X.notSynchronized
  have hown : s.vm.findClass RJ0 = some m.cls := findClass_of_methodNamed X.named
  have hts := atoms_spec (ws := jj_ws yJ0_checkIndex_df160 cJ0_checkIndex_df160 2 none) X.pre
  have hw : ∀ w ∈ jj_W, w.before ([.int x, .int y] : List Value).toArray s = true := fun w h => hts w (List.mem_cons_of_mem _ (jj_U h))
  have hS : va_S (fun q => B < q) s.heap s.heap [] := va_S.rf
  have hl := lv_entry ([.int x, .int y]) (n := 2) (Nat.le_of_ble_eq_true rfl)
  rw [lg_entry_eq]
  generalize (lg_sl ([.int x, .int y]) ++ List.replicate (2 - (lg_sl ([.int x, .int y])).length) Slot.unset).toArray = ls at hl ⊢
  have hl : lv_has ls 2 [(0, .int x), (1, .int y)] := hl
  refine lv_iload_n hx hb dJ0_checkIndex_df160_0 rfl (lv_at hl 0 rfl) ?_
  refine lv_iload_n hx hb dJ0_checkIndex_df160_1 rfl (lv_at hl 1 rfl) ?_
  have fl := hw (.fieldLink RJ0 1053 "jdk/internal/util/Preconditions" "SIOOBE_FORMATTER" "Ljava/util/function/BiFunction;") (by decide +kernel)
  rcases hVS.2.2 with hZ | ⟨t, hZ⟩
  · refine va_gets hx hb hZ hS hown fl (fun _ h9 => h9) dJ0_checkIndex_df160_2 ?_
    refine jj_callS (rest := []) (As := [.int x, .int y, .null]) (na := 3) ⟨hx, hb, hml, hown, hts⟩ (jc_ci3n h1 h2) (by decide +kernel) (by decide +kernel) (by decide +kernel) (by decide +kernel) (by decide +kernel) (by decide) rfl hVS hS hl.1 (Nat.le_of_ble_eq_true rfl) dJ0_checkIndex_df160_5 (fun H1 locs1 hS => ?_)
    refine lv_pop hx hb dJ0_checkIndex_df160_8 rfl ?_
    exact W.vret hx hb hr (fun t ht hW => ⟨⟨(), rfl, trivial, trivial⟩, hS.F ht⟩) hS.2.2 dJ0_checkIndex_df160_9 hlocks
  · refine va_gets hx hb hZ hS hown fl (fun _ h9 => h9) dJ0_checkIndex_df160_2 ?_
    refine jj_callS (rest := []) (As := [.int x, .int y, .ref t]) (na := 3) ⟨hx, hb, hml, hown, hts⟩ (jc_ci3r h1 h2) (by decide +kernel) (by decide +kernel) (by decide +kernel) (by decide +kernel) (by decide +kernel) (by decide) rfl hVS hS hl.1 (Nat.le_of_ble_eq_true rfl) dJ0_checkIndex_df160_5 (fun H1 locs1 hS => ?_)
    refine lv_pop hx hb dJ0_checkIndex_df160_8 rfl ?_
    exact W.vret hx hb hr (fun t ht hW => ⟨⟨(), rfl, trivial, trivial⟩, hS.F ht⟩) hS.2.2 dJ0_checkIndex_df160_9 hlocks
end JS
