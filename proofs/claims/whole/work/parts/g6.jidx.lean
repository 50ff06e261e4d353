/-! THE TEXT METHODS OF THE JDK: indexOf, its loop -/
theorem jj_i8 : ∀ n, n < 256 → (n < 128 ∧ (nI n).toInt8.toInt32 = nI n) ∨ (¬ n < 128 ∧ (nI n).toInt8.toInt32 < 0 ∧ 128 ≤ nI n) := by decide +kernel
theorem jj_b7 : ∀ i, i < 2 → ∀ b, b ∈ q_byt.getD i [] → ¬ b < 0 ∧ b < 128 := by decide +kernel
theorem jj_ln : ∀ i, i < 2 → q_len.getD i 0 = (q_byt.getD i []).length ∧ (q_byt.getD i []).length < 2 ^ 31 := by decide
theorem jj_eq {i n : Nat} {b : Int32} (hi : i < 2) (hn : n < 256) (hb : b ∈ q_byt.getD i []) : b = (nI n).toInt8.toInt32 ↔ b = nI n := by
  obtain ⟨b1, b2⟩ := jj_b7 i hi b hb
  rcases jj_i8 n hn with ⟨_, e⟩ | ⟨_, e1, e2⟩
  · rw [e]
  · refine ⟨fun h => ?_, fun h => ?_⟩
    · rw [h] at b1
      exact absurd e1 b1
    · rw [h] at b2
      exact absurd b2 (Int32.not_lt.mpr e2)
section JS
variable {l : Launch} {B : Nat} {aS aV : Nat → Nat} {d : Nat}
set_option maxHeartbeats 4000000 in
set_option maxRecDepth 100000 in
theorem jc_canEncode {n : Nat} (hn : n < 256) : jj_C l B aS aV d yJ1_canEncode_9a6ad cJ1_canEncode_9a6ad 1 (some .boolean) [.int (nI n)] 1 := by
  refine q_ofW (cc := cJ1_canEncode_9a6ad) (maxL := 1) (ret := (some .boolean)) (by decide) rfl ?_
  intro p e s m args below meth c s₁ X hml hv
  obtain ⟨rfl, hVS⟩ := hv
  have hVS : q_VS aS aV (fun q => B < q) s s.heap := hVS
  have hx := X.exec
  have hb := X.bytes
  have hr := X.returns
  have hlocks := X.notSynchronized
  have hown : s.vm.findClass RJ1 = some m.cls := findClass_of_methodNamed X.named
  have hts := atoms_spec (ws := jj_ws yJ1_canEncode_9a6ad cJ1_canEncode_9a6ad 1 (some .boolean)) X.pre
  have hw : ∀ w ∈ jj_W, w.before ([.int (nI n)] : List Value).toArray s = true := fun w h => hts w (List.mem_cons_of_mem _ (jj_U h))
  have hS : va_S (fun q => B < q) s.heap s.heap [] := va_S.rf
  have hl := lv_entry ([.int (nI n)]) (n := 1) (Nat.le_of_ble_eq_true rfl)
  rw [lg_entry_eq]
  generalize (lg_sl ([.int (nI n)]) ++ List.replicate (1 - (lg_sl ([.int (nI n)])).length) Slot.unset).toArray = ls at hl ⊢
  have hl : lv_has ls 1 [(0, .int (nI n))] := hl
  refine lv_iload_n hx hb dJ1_canEncode_9a6ad_0 rfl (lv_at hl 0 rfl) ?_
  refine lv_if_lt (tgt := 15) hx hb dJ1_canEncode_9a6ad_1 (by decide) (fun c => absurd c (nI_pos (by omega))) (fun _ => ?_)
  refine lv_iload_n hx hb dJ1_canEncode_9a6ad_4 rfl (lv_at hl 0 rfl) ?_
  refine lv_sipush (v := 255) hx hb dJ1_canEncode_9a6ad_5 (by decide) ?_
  refine lv_icmp_gt (tgt := 15) hx hb dJ1_canEncode_9a6ad_8 (by decide) (fun c => ?_) (fun _ => ?_)
  · have := (nI_ltI (a := 255) (by decide) (by omega)).mp c
    omega
  refine lv_iconst (v := 1) hx hb dJ1_canEncode_9a6ad_11 (by decide) ?_
  refine lv_goto (tgt := 16) hx hb dJ1_canEncode_9a6ad_12 (by decide) ?_
  exact W.zret (v := 1) (ty := .boolean) hx hb hr rfl (fun t ht hW => ⟨⟨_, (), rfl, rfl, trivial⟩, hS.F ht⟩) hS.2.2 dJ1_canEncode_9a6ad_16 hlocks
set_option maxHeartbeats 4000000 in
set_option maxRecDepth 100000 in
theorem jc_indexOfChar {i n : Nat} (hi : i < 2) (hn : n < 256) : jj_C l B aS aV d yJ1_indexOfChar_4cfef cJ1_indexOfChar_4cfef 6 (some .int) [.ref (aV i), .int (nI n), .int (nI 0), .int (nI (q_byt.getD i []).length)] (q_ix (q_byt.getD i []) (nI n) 0) := by
  refine q_ofW (cc := cJ1_indexOfChar_4cfef) (maxL := 6) (ret := (some .int)) (by decide) rfl ?_
  intro p e s m args below meth c s₁ X hml hv
  obtain ⟨rfl, hVS⟩ := hv
  have hVS : q_VS aS aV (fun q => B < q) s s.heap := hVS
  have hx := X.exec
  have hb := X.bytes
  have hr := X.returns
  have hlocks := X.notSynchronized
  have hown : s.vm.findClass RJ1 = some m.cls := findClass_of_methodNamed X.named
  have hts := atoms_spec (ws := jj_ws yJ1_indexOfChar_4cfef cJ1_indexOfChar_4cfef 6 (some .int)) X.pre
  have hw : ∀ w ∈ jj_W, w.before ([.ref (aV i), .int (nI n), .int (nI 0), .int (nI (q_byt.getD i []).length)] : List Value).toArray s = true := fun w h => hts w (List.mem_cons_of_mem _ (jj_U h))
  have hS : va_S (fun q => B < q) s.heap s.heap [] := va_S.rf
  have hl := lv_entry ([.ref (aV i), .int (nI n), .int (nI 0), .int (nI (q_byt.getD i []).length)]) (n := 6) (Nat.le_of_ble_eq_true rfl)
  rw [lg_entry_eq]
  generalize (lg_sl ([.ref (aV i), .int (nI n), .int (nI 0), .int (nI (q_byt.getD i []).length)]) ++ List.replicate (6 - (lg_sl ([.ref (aV i), .int (nI n), .int (nI 0), .int (nI (q_byt.getD i []).length)])).length) Slot.unset).toArray = ls at hl ⊢
  have hl : lv_has ls 6 [(0, .ref (aV i)), (1, .int (nI n)), (2, .int (nI 0)), (3, .int (nI (q_byt.getD i []).length))] := hl
  obtain ⟨l1, l2⟩ := jj_ln i hi
  have hT := (hVS.1.1 i hi).2.2.2
  rw [l1] at hT
  generalize hWW : q_ix (q_byt.getD i []) (nI n) 0 = w
  have loop : ∀ (tx : List Int32) (k : Nat) (ls : Array Slot), (q_byt.getD i []).drop k = tx → k ≤ (q_byt.getD i []).length → lv_has ls 6 [(5, .int (nI k)), (4, .int (nI n).toInt8.toInt32), (0, .ref (aV i)), (1, .int (nI n)), (2, .int (nI 0)), (3, .int (nI (q_byt.getD i []).length))] → q_ix tx (nI n) k = w → W p l e (q_rm d 0 0) s m ([.ref (aV i), .int (nI n), .int (nI 0), .int (nI (q_byt.getD i []).length)] : List Value).toArray below meth c s.heap [] 0 0 (MQ below (va_Qi (S := Unit) (fun z _ => z = w) (fun _ _ => True) (fun q => B < q)) ([.ref (aV i), .int (nI n), .int (nI 0), .int (nI (q_byt.getD i []).length)] : List Value).toArray s 0 0 (fun q => B < q)) (F0 m 7 ls []) := by
    intro tx
    induction tx with
    | nil =>
      intro k ls hd hk hl he
      have hpl : (q_byt.getD i []).length ≤ k := List.drop_eq_nil_iff.mp hd
      refine lv_iload hx hb dJ1_indexOfChar_4cfef_7 (lv_at hl 0 rfl) ?_
      refine lv_iload_n hx hb dJ1_indexOfChar_4cfef_9 rfl (lv_at hl 5 rfl) ?_
      refine lv_icmp_ge (tgt := 31) hx hb dJ1_indexOfChar_4cfef_10 (by decide) (fun _ => ?_) (fun c => absurd ((nI_leI (by omega) (by omega)).mpr hpl) c)
      refine lv_iconst (v := -1) hx hb dJ1_indexOfChar_4cfef_31 (by decide) ?_
      exact W.iret (v := -1) hx hb hr (fun t ht hW => ⟨⟨_, (), rfl, he, trivial⟩, hS.F ht⟩) hS.2.2 dJ1_indexOfChar_4cfef_32 hlocks
    | cons b tx ih =>
      intro k ls hd hk hl he
      have hpl : k < (q_byt.getD i []).length := by
        rcases Nat.lt_or_ge k (q_byt.getD i []).length with h9 | h9
        · exact h9
        · rw [List.drop_eq_nil_iff.mpr h9] at hd
          cases hd
      have hc : (q_byt.getD i [])[k]? = some b := by
        have := List.getElem?_drop (xs := q_byt.getD i []) (i := k) (j := 0)
        rw [hd, Nat.add_zero] at this
        rw [← this]
        rfl
      have hmem : b ∈ q_byt.getD i [] := List.mem_of_getElem? hc
      have hd2 : (q_byt.getD i []).drop (k + 1) = tx := by
        rw [← List.drop_drop, hd]
        rfl
      refine lv_iload hx hb dJ1_indexOfChar_4cfef_7 (lv_at hl 0 rfl) ?_
      refine lv_iload_n hx hb dJ1_indexOfChar_4cfef_9 rfl (lv_at hl 5 rfl) ?_
      refine lv_icmp_ge (tgt := 31) hx hb dJ1_indexOfChar_4cfef_10 (by decide) (fun c => ?_) (fun _ => ?_)
      · have := (nI_leI (by omega) (by omega)).mp c
        omega
      refine lv_aload_n hx hb dJ1_indexOfChar_4cfef_13 rfl (lv_at hl 2 rfl) ?_
      refine lv_iload hx hb dJ1_indexOfChar_4cfef_14 (lv_at hl 0 rfl) ?_
      refine va_tb (v := .int b) hx hb hT hS (by unfold vp_in; rw [nI_clamp (by omega)]; exact fun h9 => h9.elim (nI_pos (by omega)) (fun h8 => absurd hpl (by omega))) (by rw [nI_clamp (by omega), List.getD_eq_getElem?_getD, hc]; rfl) dJ1_indexOfChar_4cfef_16 ?_
      refine lv_iload hx hb dJ1_indexOfChar_4cfef_17 (lv_at hl 1 rfl) ?_
      unfold q_ix at he
      refine lv_icmp_ne (tgt := 25) hx hb dJ1_indexOfChar_4cfef_19 (by decide) (fun c => ?_) (fun c => ?_)
      · rw [if_neg (fun h9 => c ((jj_eq hi hn hmem).mpr h9))] at he
        refine lv_iinc (v := nI (k + 1)) (lv' := [(5, .int (nI (k + 1))), (4, .int (nI n).toInt8.toInt32), (0, .ref (aV i)), (1, .int (nI n)), (2, .int (nI 0)), (3, .int (nI (q_byt.getD i []).length))]) hx hb dJ1_indexOfChar_4cfef_25 hl (k := 0) rfl (by rw [← nI_1]; rfl) (by decide) rfl (fun ls hl => ?_)
        refine lv_goto (tgt := 7) hx hb dJ1_indexOfChar_4cfef_28 (by decide) ?_
        exact ih (k + 1) ls hd2 (by omega) hl he
      · rw [if_pos ((jj_eq hi hn hmem).mp c)] at he
        refine lv_iload hx hb dJ1_indexOfChar_4cfef_22 (lv_at hl 0 rfl) ?_
        exact W.iret hx hb hr (fun t ht hW => ⟨⟨_, (), rfl, he, trivial⟩, hS.F ht⟩) hS.2.2 dJ1_indexOfChar_4cfef_24 hlocks
  refine lv_iload_n hx hb dJ1_indexOfChar_4cfef_0 rfl (lv_at hl 1 rfl) ?_
  refine lv_i2b (v := (nI n).toInt8.toInt32) hx hb dJ1_indexOfChar_4cfef_1 rfl ?_
  refine lv_istore (lv' := [(4, .int (nI n).toInt8.toInt32), (0, .ref (aV i)), (1, .int (nI n)), (2, .int (nI 0)), (3, .int (nI (q_byt.getD i []).length))]) hx hb dJ1_indexOfChar_4cfef_2 hl (by decide) rfl (fun ls hl => ?_)
  refine lv_iload_n hx hb dJ1_indexOfChar_4cfef_4 rfl (lv_at hl 3 rfl) ?_
  refine lv_istore (lv' := [(5, .int (nI 0)), (4, .int (nI n).toInt8.toInt32), (0, .ref (aV i)), (1, .int (nI n)), (2, .int (nI 0)), (3, .int (nI (q_byt.getD i []).length))]) hx hb dJ1_indexOfChar_4cfef_5 hl (by decide) rfl (fun ls hl => ?_)
  exact loop (q_byt.getD i []) 0 ls rfl (Nat.zero_le _) hl hWW
end JS
