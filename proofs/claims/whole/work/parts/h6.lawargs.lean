/-! THE LAW: its words, its arguments, a call that makes nothing -/
def lj_W : List (Nat × Nat) := [(13, 211), (17, 237), (18, 212), (22, 239), (23, 213), (27, 260), (28, 214), (31, 261), (32, 215), (35, 301), (36, 216), (40, 302), (41, 217), (45, 303), (46, 218), (50, 305), (51, 219), (54, 308), (55, 220), (59, 309), (60, 221), (63, 310), (64, 222), (67, 322), (68, 223), (72, 323), (78, 225), (81, 330), (82, 226), (85, 335), (86, 227), (89, 339), (90, 228), (93, 331), (94, 229), (97, 343), (98, 230), (101, 346), (102, 231), (105, 347), (73, 224), (77, 325)]
theorem lj_in : ∀ q ∈ lj_W, Cond.methodLink R_law q.1 (q_nm q.2) ∈ lw_tbl := by decide +kernel
theorem lj_sel : ∀ q ∈ lj_W, q_selw q.2 ∈ lw_tbl := by decide +kernel
section LA
variable {p : Program} {l : Launch} {e : Env} {s : State} {m : MethodId} {args : Array Value} {below : List Frame} {meth : Method} {c : Code} {H : Heap} {locs : List Loc} {cells slots : Nat} {Q : State → Prop}
variable {pc : Nat} {ls : Array Slot} {B : Nat} {aS aV : Nat → Nat} {tc : Nat → ClassId} {D : va_G} {h : q_Hp}
theorem lj_call0 {k idx d o : Nat} {as rest : List Value} {z : Int32} {h1 : q_Hp} (F : lj_Fr D B aS aV tc p s m args c) (hA : q_At D B aS tc s h H locs cells) (hls : ls.size = 4) (hs : q_stc k = false) (hM : q_Ct2 l D B aS aV tc d k (.ref o :: as) h (some (.int z)) h1) (e1 : qN h1 = qN h) (e2 : qZ h1 = qZ h) (ho : q_ok h o (q_ow k)) (hko : q_ow k < 13) (hlen : as.length = q_na k - 1) (hd : d ≤ 1000) (hRc : cells ≤ 600000) (hRs : slots ≤ 7302250) (hlk : (idx, k) ∈ lj_W) (hsm : q_small rest = true) (hdg : decode code pc = .ok (.invokevirtual idx, 3)) (kk : ∀ (H1 : Heap) (locs1 : List Loc), q_At D B aS tc s h1 H1 locs1 cells → W p l e room_1 s m args below meth c H1 locs1 cells slots Q (F0 m (pc + 3) ls ((.int z :: rest).map (q_cv (q_ad B aS))))) : W p l e room_1 s m args below meth c H locs cells slots Q (F0 m pc ls ((as.map (q_cv (q_ad B aS))).reverse ++ .ref (q_ad B aS o) :: rest.map (q_cv (q_ad B aS)))) := by
  have a1 : cells + (qN h1 - qN h) = cells := by omega
  have a2 : slots + (qZ h1 - qZ h) = slots := by omega
  refine lj_callI F hA hls hs (lj_sel _ hlk) hM (by omega) ho hko hlen hd (by omega) (by omega) (lj_in _ hlk) hsm hdg (fun H1 locs1 hA1 => ?_)
  rw [a1] at hA1 ⊢
  rw [a2]
  exact kk H1 locs1 hA1
/-- one of the script's ints, as an argument -/
theorem lj_arg {i j L b q1 q2 : Nat} {n : Int} {xs : Nat → Int32} {st : List Value} (hx : p.tables.exec = Jvm.exec) (hb : c.code = code) (hX : va_X b L xs s s.heap) (hbl : b < s.heap.size) (hbB : ¬ B < b) (hS : va_S (fun q => B < q) s.heap H locs) (hl : lv_has ls 4 [(0, .ref b), (1, .ref q1), (2, .ref q2), (3, .int (nI i))]) (hL : L ≤ 3072) (hij : i + j < L) (d0 : decode code pc = .ok (.aload_n 0, 1)) (d1 : decode code (pc + 1) = .ok (.iload_n 3, 1)) (d2 : decode code (pc + 2) = .ok (.iconst n, 1)) (hv : Int32.ofInt n = nI j) (d3 : decode code (pc + 3) = .ok (.iadd, 1)) (d4 : decode code (pc + 4) = .ok (.iaload, 1)) (kk : W p l e room_1 s m args below meth c H locs cells slots Q (F0 m (pc + 5) ls (.int (xs (i + j)) :: st))) : W p l e room_1 s m args below meth c H locs cells slots Q (F0 m pc ls st) := by
  refine lv_aload_n hx hb d0 rfl (lv_at hl 0 rfl) ?_
  refine lv_iload_n hx hb d1 rfl (lv_at hl 3 rfl) ?_
  refine lv_iconst (v := nI j) hx hb d2 hv ?_
  refine lv_iadd hx hb d3 ?_
  rw [nI_add]
  refine va_sld hx hb hX hbl hbB hS (vp_in_nI hij (by omega)) d4 ?_
  rw [nI_clamp (by omega)]
  exact kk
end LA
