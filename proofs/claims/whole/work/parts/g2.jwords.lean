/-! THE TEXT METHODS OF THE JDK: their words, and the first contracts -/
def jj_W : List Cond := [.code yJ0_coder_7d493 cJ0_coder_7d493 1 (some .byte), .code yJ0_isLatin1_aae02 cJ0_isLatin1_aae02 1 (some .boolean), .code yJ0_checkIndex_df160 cJ0_checkIndex_df160 2 none, .code yJ3_checkIndex_8e157 cJ3_checkIndex_8e157 3 (some .int), .code yJ1_charAt_3b067 cJ1_charAt_3b067 2 (some .char), .code yJ1_canEncode_9a6ad cJ1_canEncode_9a6ad 1 (some .boolean), .code yJ1_indexOf_4cfef cJ1_indexOf_4cfef 4 (some .int), .code yJ1_indexOfChar_4cfef cJ1_indexOfChar_4cfef 6 (some .int), .code yJ0_indexOf_7cf53 cJ0_indexOf_7cf53 3 (some .int), .code yJ0_length_8abf5 cJ0_length_8abf5 1 (some .int), .code yJ0_charAt_5068e cJ0_charAt_5068e 2 (some .char), .code yJ0_indexOf_0f7a4 cJ0_indexOf_0f7a4 2 (some .int),
  .fieldLink RJ0 38 "java/lang/String" "COMPACT_STRINGS" "Z", .fieldLink RJ0 15 "java/lang/String" "coder" "B", .fieldLink RJ0 9 "java/lang/String" "value" "[B", .fieldLink RJ0 1053 "jdk/internal/util/Preconditions" "SIOOBE_FORMATTER" "Ljava/util/function/BiFunction;",
  .methodLink RJ0 335 yJ0_coder_7d493, .instanceMethod yJ0_coder_7d493, .selects RJ0 yJ0_coder_7d493 yJ0_coder_7d493, .initialized RJ0, .methodLink RJ0 492 yJ0_isLatin1_aae02, .instanceMethod yJ0_isLatin1_aae02, .selects RJ0 yJ0_isLatin1_aae02 yJ0_isLatin1_aae02, .methodLink RJ0 495 yJ1_charAt_3b067, .static yJ1_charAt_3b067, .initialized RJ1, .methodLink RJ1 9 yJ0_checkIndex_df160, .static yJ0_checkIndex_df160, .methodLink RJ0 1059 yJ3_checkIndex_8e157, .static yJ3_checkIndex_8e157, .initialized RJ3,
  .methodLink RJ0 633 yJ0_indexOf_7cf53, .instanceMethod yJ0_indexOf_7cf53, .selects RJ0 yJ0_indexOf_7cf53 yJ0_indexOf_7cf53, .methodLink RJ0 505 yJ0_length_8abf5, .instanceMethod yJ0_length_8abf5, .selects RJ0 yJ0_length_8abf5 yJ0_length_8abf5, .methodLink RJ0 637 yJ1_indexOf_4cfef, .static yJ1_indexOf_4cfef, .methodLink RJ1 88 yJ1_canEncode_9a6ad, .static yJ1_canEncode_9a6ad, .methodLink RJ1 95 yJ1_indexOfChar_4cfef, .static yJ1_indexOfChar_4cfef, .methodLink RJ1 92 Lib.Math.max.name, .static Lib.Math.max.name, .initialized "java/lang/Math", .code Lib.Math.max.name Lib.Math.max.code 2 (some .int), .methodLink RJ1 38 Lib.Math.min.name, .static Lib.Math.min.name, .code Lib.Math.min.name Lib.Math.min.code 2 (some .int)]
theorem jj_tbl : ∀ w ∈ jj_W, w ∈ lw_tbl ∧ goodWord w = true := by decide +kernel
theorem jj_U {w : Cond} (h : w ∈ jj_W) : w ∈ q_UW := q_UWm (jj_tbl w h).1 (jj_tbl w h).2
def jj_ws (y : MethodName) (c : ByteArray) (n : Nat) (r : Option FieldType) : List Cond := Cond.code y c n r :: q_UW
theorem jj_good {y y' : MethodName} {c c' : ByteArray} {n n' : Nat} {r r' : Option FieldType} (h : Cond.code y' c' n' r' ∈ jj_W) : GoodIn (jj_ws y c n r) (jj_ws y' c' n' r') := by
  intro w hw
  have h1 : w ∈ q_UW := by
    rcases List.mem_cons.mp hw with rfl | h2
    · exact jj_U h
    · exact h2
  exact ⟨List.mem_cons_of_mem _ h1, good_of_word (List.mem_filter.mp h1).2⟩
def jj_Pw (B : Nat) (aS aV : Nat → Nat) (U : State) : Prop := q_VS aS aV (fun q => B < q) U U.heap
def jj_C (l : Launch) (B : Nat) (aS aV : Nat → Nat) (d : Nat) (y : MethodName) (c : ByteArray) (n : Nat) (r : Option FieldType) (as : List Value) (v : Int32) : Prop := Met l y (jj_ws y c n r) (q_rm d 0 0) (va_Pc as (jj_Pw B aS aV)) (va_Qi (S := Unit) (fun z _ => z = v) (fun _ _ => True) (fun q => B < q)) 0 0 (fun q => B < q)
section JS
variable {l : Launch} {B : Nat} {aS aV : Nat → Nat} {d : Nat}
theorem jj_blind {as : List Value} : FrameBlind (va_Pc as (jj_Pw B aS aV)) := by
  intro a U g mk q
  exact ⟨q.1, q_VS.moved (u := U) (U := U.calling g mk a) (Vm.Alike.refl U.vm) q.2⟩
set_option maxHeartbeats 4000000 in
set_option maxRecDepth 100000 in
theorem jc_coder {i : Nat} (hi : i < 2) : jj_C l B aS aV d yJ0_coder_7d493 cJ0_coder_7d493 1 (some .byte) [.ref (aS i)] 0 := by
  refine q_ofW (cc := cJ0_coder_7d493) (maxL := 1) (ret := (some .byte)) (by decide) rfl ?_
  intro p e s m args below meth c s₁ X hml hv
  obtain ⟨rfl, hVS⟩ := hv
  have hVS : q_VS aS aV (fun q => B < q) s s.heap := hVS
  have hx := X.exec
  have hb := X.bytes
  have hr := X.returns
  have hlocks := X.notSynchronized
  have hown : s.vm.findClass RJ0 = some m.cls := findClass_of_methodNamed X.named
  have hts := atoms_spec (ws := jj_ws yJ0_coder_7d493 cJ0_coder_7d493 1 (some .byte)) X.pre
  have hw : ∀ w ∈ jj_W, w.before ([.ref (aS i)] : List Value).toArray s = true := fun w h => hts w (List.mem_cons_of_mem _ (jj_U h))
  have hS : va_S (fun q => B < q) s.heap s.heap [] := va_S.rf
  have hl := lv_entry ([.ref (aS i)]) (n := 1) (Nat.le_of_ble_eq_true rfl)
  rw [lg_entry_eq]
  generalize (lg_sl ([.ref (aS i)]) ++ List.replicate (1 - (lg_sl ([.ref (aS i)])).length) Slot.unset).toArray = ls at hl ⊢
  have hl : lv_has ls 1 [(0, .ref (aS i))] := hl
  refine va_gets hx hb hVS.2.1 hS hown (hw (.fieldLink RJ0 38 "java/lang/String" "COMPACT_STRINGS" "Z") (by decide +kernel)) (fun _ h9 => h9) dJ0_coder_7d493_0 ?_
  refine lv_if_eq (tgt := 13) hx hb dJ0_coder_7d493_3 (by decide) (fun c => absurd c (by decide)) (fun _ => ?_)
  refine lv_aload_n hx hb dJ0_coder_7d493_6 rfl (lv_at hl 0 rfl) ?_
  refine vk_getf hx hb (hVS.1.1 i hi).2.1 hS hown (hw (.fieldLink RJ0 15 "java/lang/String" "coder" "B") (by decide +kernel)) (fun _ h9 => h9) dJ0_coder_7d493_7 ?_
  refine lv_goto (tgt := 14) hx hb dJ0_coder_7d493_10 (by decide) ?_
  exact W.zret (v := 0) (ty := .byte) hx hb hr rfl (fun t ht hW => ⟨⟨_, (), rfl, rfl, trivial⟩, hS.F ht⟩) hS.2.2 dJ0_coder_7d493_14 hlocks
set_option maxHeartbeats 4000000 in
set_option maxRecDepth 100000 in
theorem jc_isLatin1 {i : Nat} (hi : i < 2) : jj_C l B aS aV d yJ0_isLatin1_aae02 cJ0_isLatin1_aae02 1 (some .boolean) [.ref (aS i)] 1 := by
  refine q_ofW (cc := cJ0_isLatin1_aae02) (maxL := 1) (ret := (some .boolean)) (by decide) rfl ?_
  intro p e s m args below meth c s₁ X hml hv
  obtain ⟨rfl, hVS⟩ := hv
  have hVS : q_VS aS aV (fun q => B < q) s s.heap := hVS
  have hx := X.exec
  have hb := X.bytes
  have hr := X.returns
  have hlocks := X.notSynchronized
  have hown : s.vm.findClass RJ0 = some m.cls := findClass_of_methodNamed X.named
  have hts := atoms_spec (ws := jj_ws yJ0_isLatin1_aae02 cJ0_isLatin1_aae02 1 (some .boolean)) X.pre
  have hw : ∀ w ∈ jj_W, w.before ([.ref (aS i)] : List Value).toArray s = true := fun w h => hts w (List.mem_cons_of_mem _ (jj_U h))
  have hS : va_S (fun q => B < q) s.heap s.heap [] := va_S.rf
  have hl := lv_entry ([.ref (aS i)]) (n := 1) (Nat.le_of_ble_eq_true rfl)
  rw [lg_entry_eq]
  generalize (lg_sl ([.ref (aS i)]) ++ List.replicate (1 - (lg_sl ([.ref (aS i)])).length) Slot.unset).toArray = ls at hl ⊢
  have hl : lv_has ls 1 [(0, .ref (aS i))] := hl
  refine va_gets hx hb hVS.2.1 hS hown (hw (.fieldLink RJ0 38 "java/lang/String" "COMPACT_STRINGS" "Z") (by decide +kernel)) (fun _ h9 => h9) dJ0_isLatin1_aae02_0 ?_
  refine lv_if_eq (tgt := 17) hx hb dJ0_isLatin1_aae02_3 (by decide) (fun c => absurd c (by decide)) (fun _ => ?_)
  refine lv_aload_n hx hb dJ0_isLatin1_aae02_6 rfl (lv_at hl 0 rfl) ?_
  refine vk_getf hx hb (hVS.1.1 i hi).2.1 hS hown (hw (.fieldLink RJ0 15 "java/lang/String" "coder" "B") (by decide +kernel)) (fun _ h9 => h9) dJ0_isLatin1_aae02_7 ?_
  refine lv_if_ne (tgt := 17) hx hb dJ0_isLatin1_aae02_10 (by decide) (fun c => absurd rfl c) (fun _ => ?_)
  refine lv_iconst (v := 1) hx hb dJ0_isLatin1_aae02_13 (by decide) ?_
  refine lv_goto (tgt := 18) hx hb dJ0_isLatin1_aae02_14 (by decide) ?_
  exact W.zret (v := 1) (ty := .boolean) hx hb hr rfl (fun t ht hW => ⟨⟨_, (), rfl, rfl, trivial⟩, hS.F ht⟩) hS.2.2 dJ0_isLatin1_aae02_18 hlocks
end JS
