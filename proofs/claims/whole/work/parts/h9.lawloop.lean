/-! THE LAW: its loop -/
theorem lj_end {i L : Nat} (hL : L ≤ 3072) (hi : i ≤ L) (h : ¬ (Int32.ofNat L - 6 < nI i)) : i + 6 ≤ L := by
  have e1 : (Int32.ofNat L).toInt = (L : Int) := nI_toInt (n := L) (by omega)
  have e2 : (6 : Int32).toInt = 6 := by decide
  rw [Int32.lt_iff_toInt_lt, nI_toInt (by omega), Int32.toInt_sub, e1, e2, Int.bmod_eq_of_le (by omega) (by omega)] at h
  omega
section LL
variable {p : Program} {l : Launch} {e : Env} {s : State} {m : MethodId} {below : List Frame} {meth : Method} {c : Code} {cells slots : Nat}
variable {B b L : Nat} {xs : Nat → Int32} {aS aV : Nat → Nat} {tc : Nat → ClassId} {D : va_G}
theorem lj_loop (F : lj_Fr D B aS aV tc p s m #[Value.ref b] c) (hr : meth.sig.returnType = ret) (hlocks : meth.locks = false) (hX : va_X b L xs s s.heap) (hbl : b < s.heap.size) (hB : B + 1 = s.heap.size) (hL : L ≤ 3072) (hRc : cells ≤ 600000) (hRs : slots ≤ 7302250) : ∀ (n i u : Nat) (h : q_Hp) (H : Heap) (locs : List Loc) (ls : Array Slot), L + 6 ≤ i + n → i ≤ L → u ≤ 41 * i → r_R t_W t_K h u → q_At D B aS tc s h H locs cells → lv_has ls 4 [(0, .ref b), (1, .ref (B + 1)), (2, .ref (B + 630)), (3, .int (nI i))] → W p l e room_1 s m #[Value.ref b] below meth c H locs cells slots (lw_Z below #[Value.ref b] s) (F0 m 18 ls []) := by
  have hx := F.1
  have hb := F.2.1
  have hbB : ¬ B < b := by omega
  intro n
  induction n with
  | zero => intro i u h H locs ls h1 h2; omega
  | succ n ih =>
    intro i u h H locs ls h1 h2 hu R hA hl
    refine lv_iload_n hx hb dL_law_18 rfl (lv_at hl 3 rfl) ?_
    refine lv_aload_n hx hb dL_law_19 rfl (lv_at hl 0 rfl) ?_
    refine va_slen hx hb hX hbl hbB hA.2.1 dL_law_20 ?_
    refine lv_bipush (v := 6) hx hb dL_law_21 (by decide) ?_
    refine lv_isub hx hb dL_law_23 ?_
    refine lv_icmp_gt (tgt := 737) hx hb dL_law_24 (by decide) (fun _ => ?_) (fun hng => ?_)
    · refine lv_iconst (v := 1) hx hb dL_law_737 (by decide) ?_
      refine W.widen (k := 600000) (n := 7302250) hRc hRs ?_
      refine va_forget (fun q hq => ?_) ?_
      · have h3 : B < q.base := hA.2.1.2.2 q hq
        show s.heap.size ≤ q.base
        omega
      · exact lw_ret hx hb hr hlocks dL_law_738
    · have hi6 := lj_end hL h2 hng
      have hi : i + 5 < L := by omega
      have step : ∀ (u2 : Nat) (h2 : q_Hp) (H2 : Heap) (locs2 : List Loc), u2 ≤ u + 40 → r_R t_W t_K h2 u2 → q_At D B aS tc s h2 H2 locs2 cells → W p l e room_1 s m #[Value.ref b] below meth c H2 locs2 cells slots (lw_Z below #[Value.ref b] s) (F0 m 731 ls []) := by
        intro u2 h2 H2 locs2 e2 R2 hA2
        refine lv_iinc (k := 3) (x := nI i) (v := nI (i + 6)) (lv' := [(3, .int (nI (i + 6))), (0, .ref b), (1, .ref (B + 1)), (2, .ref (B + 630))]) hx hb dL_law_731 hl rfl (by rw [show Int32.ofInt 6 = nI 6 by decide]; exact nI_add i 6) (by decide) rfl (fun ls2 hl2 => ?_)
        refine lv_goto (tgt := 18) hx hb dL_law_734 (by decide) ?_
        exact ih (i + 6) u2 h2 H2 locs2 ls2 (by omega) (by omega) (by omega) R2 hA2 (lv_sub hl2 [1, 2, 3, 0] rfl)
      refine lv_aload_n hx hb dL_law_27 rfl (lv_at hl 0 rfl) ?_
      refine lv_iload_n hx hb dL_law_28 rfl (lv_at hl 3 rfl) ?_
      refine va_sld hx hb hX hbl hbB hA.2.1 (vp_in_nI (show i < L by omega) (by omega)) dL_law_29 ?_
      rw [nI_clamp (by omega)]
      refine lv_bipush (v := 31) hx hb dL_law_30 (by decide) ?_
      refine lv_iand hx hb dL_law_32 ?_
      generalize xs i &&& 31 = x
      by_cases hout : x.toInt < 0 ∨ 20 < x.toInt
      · exact lv_tableOut (tgt := 731) hx hb dL_law_33 hout (by decide) (step u h H locs (by omega) R hA)
      obtain ⟨j, hj, ej⟩ : ∃ j : Nat, j ≤ 20 ∧ x.toInt = (j : Int) := ⟨x.toInt.toNat, by omega, by omega⟩
      have hu2 : u + 40 < 2 ^ 20 := by omega
      rcases (show j = 0 ∨ j = 1 ∨ j = 2 ∨ j = 3 ∨ j = 4 ∨ j = 5 ∨ j = 6 ∨ j = 7 ∨ j = 8 ∨ j = 9 ∨ j = 10 ∨ j = 11 ∨ j = 12 ∨ j = 13 ∨ j = 14 ∨ j = 15 ∨ j = 16 ∨ j = 17 ∨ j = 18 ∨ j = 19 ∨ j = 20 by omega) with rfl | rfl | rfl | rfl | rfl | rfl | rfl | rfl | rfl | rfl | rfl | rfl | rfl | rfl | rfl | rfl | rfl | rfl | rfl | rfl | rfl
      · exact lv_tableIn (tgt := 132) (off := 99) hx hb dL_law_33 (by rw [ej]; decide) (by rw [ej]; decide) (by rw [ej]; rfl) (by decide) (lj_c0 F hX hbl hbB hL hi hu2 R hA hl hRc hRs (fun h2 H2 locs2 R2 hA2 => step _ h2 H2 locs2 (by omega) R2 hA2))
      · exact lv_tableIn (tgt := 195) (off := 162) hx hb dL_law_33 (by rw [ej]; decide) (by rw [ej]; decide) (by rw [ej]; rfl) (by decide) (lj_c1 F hX hbl hbB hL hi hu2 R hA hl hRc hRs (fun h2 H2 locs2 R2 hA2 => step _ h2 H2 locs2 (by omega) R2 hA2))
      · exact lv_tableIn (tgt := 218) (off := 185) hx hb dL_law_33 (by rw [ej]; decide) (by rw [ej]; decide) (by rw [ej]; rfl) (by decide) (lj_c2 F hX hbl hbB hL hi hu2 R hA hl hRc hRs (fun h2 H2 locs2 R2 hA2 => step _ h2 H2 locs2 (by omega) R2 hA2))
      · exact lv_tableIn (tgt := 231) (off := 198) hx hb dL_law_33 (by rw [ej]; decide) (by rw [ej]; decide) (by rw [ej]; rfl) (by decide) (lj_c3 F hX hbl hbB hL hi hu2 R hA hl hRc hRs (fun h2 H2 locs2 R2 hA2 => step _ h2 H2 locs2 (by omega) R2 hA2))
      · exact lv_tableIn (tgt := 244) (off := 211) hx hb dL_law_33 (by rw [ej]; decide) (by rw [ej]; decide) (by rw [ej]; rfl) (by decide) (lj_c4 F hX hbl hbB hL hi hu2 R hA hl hRc hRs (fun h2 H2 locs2 R2 hA2 => step _ h2 H2 locs2 (by omega) R2 hA2))
      · exact lv_tableIn (tgt := 267) (off := 234) hx hb dL_law_33 (by rw [ej]; decide) (by rw [ej]; decide) (by rw [ej]; rfl) (by decide) (lj_c5 F hX hbl hbB hL hi hu2 R hA hl hRc hRs (fun h2 H2 locs2 R2 hA2 => step _ h2 H2 locs2 (by omega) R2 hA2))
      · exact lv_tableIn (tgt := 310) (off := 277) hx hb dL_law_33 (by rw [ej]; decide) (by rw [ej]; decide) (by rw [ej]; rfl) (by decide) (lj_c6 F hX hbl hbB hL hi hu2 R hA hl hRc hRs (fun h2 H2 locs2 R2 hA2 => step _ h2 H2 locs2 (by omega) R2 hA2))
      · exact lv_tableIn (tgt := 353) (off := 320) hx hb dL_law_33 (by rw [ej]; decide) (by rw [ej]; decide) (by rw [ej]; rfl) (by decide) (lj_c7 F hX hbl hbB hL hi hu2 R hA hl hRc hRs (fun h2 H2 locs2 R2 hA2 => step _ h2 H2 locs2 (by omega) R2 hA2))
      · exact lv_tableIn (tgt := 376) (off := 343) hx hb dL_law_33 (by rw [ej]; decide) (by rw [ej]; decide) (by rw [ej]; rfl) (by decide) (lj_c8 F hX hbl hbB hL hi hu2 R hA hl hRc hRs (fun h2 H2 locs2 R2 hA2 => step _ h2 H2 locs2 (by omega) R2 hA2))
      · exact lv_tableIn (tgt := 399) (off := 366) hx hb dL_law_33 (by rw [ej]; decide) (by rw [ej]; decide) (by rw [ej]; rfl) (by decide) (lj_c9 F hX hbl hbB hL hi hu2 R hA hl hRc hRs (fun h2 H2 locs2 R2 hA2 => step _ h2 H2 locs2 (by omega) R2 hA2))
      · exact lv_tableIn (tgt := 432) (off := 399) hx hb dL_law_33 (by rw [ej]; decide) (by rw [ej]; decide) (by rw [ej]; rfl) (by decide) (lj_c10 F hX hbl hbB hL hi hu2 R hA hl hRc hRs (fun h2 H2 locs2 R2 hA2 => step _ h2 H2 locs2 (by omega) R2 hA2))
      · exact lv_tableIn (tgt := 465) (off := 432) hx hb dL_law_33 (by rw [ej]; decide) (by rw [ej]; decide) (by rw [ej]; rfl) (by decide) (lj_c11 F hX hbl hbB hL hi hu2 R hA hl hRc hRs (fun h2 H2 locs2 R2 hA2 => step _ h2 H2 locs2 (by omega) R2 hA2))
      · exact lv_tableIn (tgt := 488) (off := 455) hx hb dL_law_33 (by rw [ej]; decide) (by rw [ej]; decide) (by rw [ej]; rfl) (by decide) (lj_c12 F hX hbl hbB hL hi hu2 R hA hl hRc hRs (fun h2 H2 locs2 R2 hA2 => step _ h2 H2 locs2 (by omega) R2 hA2))
      · exact lv_tableIn (tgt := 521) (off := 488) hx hb dL_law_33 (by rw [ej]; decide) (by rw [ej]; decide) (by rw [ej]; rfl) (by decide) (lj_c13 F hX hbl hbB hL hi hu2 R hA hl hRc hRs (fun h2 H2 locs2 R2 hA2 => step _ h2 H2 locs2 (by omega) R2 hA2))
      · exact lv_tableIn (tgt := 570) (off := 537) hx hb dL_law_33 (by rw [ej]; decide) (by rw [ej]; decide) (by rw [ej]; rfl) (by decide) (lj_c14 F hX hbl hbB hL hi hu2 R hA hl hRc hRs (fun h2 H2 locs2 R2 hA2 => step _ h2 H2 locs2 (by omega) R2 hA2))
      · exact lv_tableIn (tgt := 593) (off := 560) hx hb dL_law_33 (by rw [ej]; decide) (by rw [ej]; decide) (by rw [ej]; rfl) (by decide) (lj_c15 F hX hbl hbB hL hi hu2 R hA hl hRc hRs (fun h2 H2 locs2 R2 hA2 => step _ h2 H2 locs2 (by omega) R2 hA2))
      · exact lv_tableIn (tgt := 616) (off := 583) hx hb dL_law_33 (by rw [ej]; decide) (by rw [ej]; decide) (by rw [ej]; rfl) (by decide) (lj_c16 F hX hbl hbB hL hi hu2 R hA hl hRc hRs (fun h2 H2 locs2 R2 hA2 => step _ h2 H2 locs2 (by omega) R2 hA2))
      · exact lv_tableIn (tgt := 639) (off := 606) hx hb dL_law_33 (by rw [ej]; decide) (by rw [ej]; decide) (by rw [ej]; rfl) (by decide) (lj_c17 F hX hbl hbB hL hi hu2 R hA hl hRc hRs (fun h2 H2 locs2 R2 hA2 => step _ h2 H2 locs2 (by omega) R2 hA2))
      · exact lv_tableIn (tgt := 662) (off := 629) hx hb dL_law_33 (by rw [ej]; decide) (by rw [ej]; decide) (by rw [ej]; rfl) (by decide) (lj_c18 F hX hbl hbB hL hi hu2 R hA hl hRc hRs (fun h2 H2 locs2 R2 hA2 => step _ h2 H2 locs2 (by omega) R2 hA2))
      · exact lv_tableIn (tgt := 685) (off := 652) hx hb dL_law_33 (by rw [ej]; decide) (by rw [ej]; decide) (by rw [ej]; rfl) (by decide) (lj_c19 F hX hbl hbB hL hi hu2 R hA hl hRc hRs (fun h2 H2 locs2 R2 hA2 => step _ h2 H2 locs2 (by omega) R2 hA2))
      · exact lv_tableIn (tgt := 708) (off := 675) hx hb dL_law_33 (by rw [ej]; decide) (by rw [ej]; decide) (by rw [ej]; rfl) (by decide) (lj_c20 F hX hbl hbB hL hi hu2 R hA hl hRc hRs (fun h2 H2 locs2 R2 hA2 => step _ h2 H2 locs2 (by omega) R2 hA2))
end LL
