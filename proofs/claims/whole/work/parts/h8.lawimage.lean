/-! THE LAW: image, whose second argument is a boolean -/
section LI
variable {p : Program} {l : Launch} {e : Env} {s : State} {m : MethodId} {args : Array Value} {below : List Frame} {meth : Method} {c : Code} {H : Heap} {locs : List Loc} {cells slots : Nat} {Q : State → Prop}
variable {pc : Nat} {ls : Array Slot} {B b L i u : Nat} {xs : Nat → Int32} {aS aV : Nat → Nat} {tc : Nat → ClassId} {D : va_G} {h : q_Hp}
def lj_b (x : Int32) : Int32 := if x = 0 then 0 else 1
theorem lj_bool {x : Int32} {st : List Value} (hx : p.tables.exec = Jvm.exec) (hb : c.code = code) (d0 : decode code pc = .ok (.ifCond .eq 7, 3)) (d1 : decode code (pc + 3) = .ok (.iconst 1, 1)) (d2 : decode code (pc + 3 + 1) = .ok (.goto 4, 3)) (d3 : decode code (pc + 7) = .ok (.iconst 0, 1)) (kk : W p l e room_1 s m args below meth c H locs cells slots Q (F0 m (pc + 8) ls (.int (lj_b x) :: st))) : W p l e room_1 s m args below meth c H locs cells slots Q (F0 m pc ls (.int x :: st)) := by
  refine lv_if_eq (tgt := pc + 7) hx hb d0 (by omega) (fun c1 => ?_) (fun c1 => ?_)
  · refine lv_iconst (v := 0) hx hb d3 (by decide) ?_
    have h0 : lj_b x = 0 := if_pos c1
    rw [h0] at kk
    exact kk
  · refine lv_iconst (v := 1) hx hb d1 (by decide) ?_
    refine lv_goto (tgt := pc + 8) hx hb d2 (by omega) ?_
    have h0 : lj_b x = 1 := if_neg c1
    rw [h0] at kk
    exact kk
theorem lj_c13 (F : lj_Fr D B aS aV tc p s m args c) (hX : va_X b L xs s s.heap) (hbl : b < s.heap.size) (hbB : ¬ B < b) (hL : L ≤ 3072) (hi : i + 5 < L) (hu : u + 40 < 2 ^ 20) (R : r_R t_W t_K h u) (hA : q_At D B aS tc s h H locs cells) (hl : lv_has ls 4 [(0, .ref b), (1, .ref (B + 1)), (2, .ref (B + 630)), (3, .int (nI i))]) (hRc : cells ≤ 600000) (hRs : slots ≤ 7302250) (fin : ∀ h2 H2 locs2, r_R t_W t_K h2 u → q_At D B aS tc s h2 H2 locs2 cells → W p l e room_1 s m args below meth c H2 locs2 cells slots Q (F0 m 731 ls [])) : W p l e room_1 s m args below meth c H locs cells slots Q (F0 m 521 ls []) := by
  have hx := F.1
  have hb := F.2.1
  obtain ⟨z, h1, h2, M1, M2, R2, k1, k2, n1, z1, n2, z2⟩ := lj_two (l := l) (D := D) (B := B) (aS := aS) (aV := aV) (tc := tc) (as := [.int (xs (i + 1)), .int (lj_b (xs (i + 2)))]) R (r_image) rfl rfl rfl rfl
  refine lv_aload_n hx hb dL_law_521 rfl (lv_at hl 1 rfl) ?_
  refine lj_arg (j := 1) hx hb hX hbl hbB hA.2.1 hl hL (by omega) dL_law_522 dL_law_523 dL_law_524 (by decide) dL_law_525 dL_law_526 ?_
  refine lj_arg (j := 2) hx hb hX hbl hbB hA.2.1 hl hL (by omega) dL_law_527 dL_law_528 dL_law_529 (by decide) dL_law_530 dL_law_531 ?_
  refine lj_bool hx hb dL_law_532 dL_law_535 dL_law_536 dL_law_539 ?_
  refine lj_call0 (k := 224) (idx := 73) (o := 1) (as := [.int (xs (i + 1)), .int (lj_b (xs (i + 2)))]) (rest := []) F hA hl.1 rfl M1 n1 z1 k1 (by decide) rfl (by decide) hRc hRs (by decide) rfl dL_law_540 (fun H locs hA => ?_)
  refine lv_aload_n hx hb dL_law_543 rfl (lv_at hl 2 rfl) ?_
  refine lj_arg (j := 1) hx hb hX hbl hbB hA.2.1 hl hL (by omega) dL_law_544 dL_law_545 dL_law_546 (by decide) dL_law_547 dL_law_548 ?_
  refine lj_arg (j := 2) hx hb hX hbl hbB hA.2.1 hl hL (by omega) dL_law_549 dL_law_550 dL_law_551 (by decide) dL_law_552 dL_law_553 ?_
  refine lj_bool hx hb dL_law_554 dL_law_557 dL_law_558 dL_law_561 ?_
  refine lj_call0 (k := 325) (idx := 77) (o := 630) (as := [.int (xs (i + 1)), .int (lj_b (xs (i + 2)))]) (rest := [.int z]) F hA hl.1 rfl M2 n2 z2 k2 (by decide) rfl (by decide) hRc hRs (by decide) rfl dL_law_562 (fun H locs hA => ?_)
  exact lv_icmp_eq (tgt := 731) hx hb dL_law_565 (by decide) (fun _ => fin _ _ _ R2 hA) (fun c1 => absurd rfl c1)
end LI
