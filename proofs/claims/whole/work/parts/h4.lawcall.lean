/-! THE LAW: a call of the desk or of the reference -/
theorem lj_good {k : Nat} : GoodIn lw_tbl (q_ws k) := by
  intro w hw
  have h1 : w ∈ q_UW := by
    rcases List.mem_cons.mp hw with rfl | h
    · exact q_goodcode
    · exact h
  exact ⟨(List.mem_filter.mp h1).1, good_of_word (List.mem_filter.mp h1).2⟩
section LC
variable {p : Program} {l : Launch} {e : Env} {s : State} {m : MethodId} {args : Array Value} {below : List Frame} {meth : Method} {c : Code} {H : Heap} {locs : List Loc} {cells slots : Nat} {Q : State → Prop}
variable {pc : Nat} {ls : Array Slot} {B : Nat} {aS aV : Nat → Nat} {tc : Nat → ClassId} {D : va_G} {h : q_Hp}
/-- what the law's frame keeps -/
def lj_Fr (D : va_G) (B : Nat) (aS aV : Nat → Nat) (tc : Nat → ClassId) (p : Program) (s : State) (m : MethodId) (args : Array Value) (c : Code) : Prop := p.tables.exec = Jvm.exec ∧ c.code = code ∧ c.maxLocals = 4 ∧ s.vm.findClass R_law = some m.cls ∧ (∀ w ∈ lw_tbl, w.before args s = true) ∧ va_K D q_CL (q_tys tc) s ∧ q_NS (aS 0) (aS 1) s ∧ q_VS aS aV (fun q => B < q) s s.heap
theorem lj_callI {k idx d o : Nat} {as rest : List Value} {z : Int32} {h1 : q_Hp} (F : lj_Fr D B aS aV tc p s m args c) (hA : q_At D B aS tc s h H locs cells) (hls : ls.size = 4) (hs : q_stc k = false) (hsv : q_selw k ∈ lw_tbl) (hM : q_Ct2 l D B aS aV tc d k (.ref o :: as) h (some (.int z)) h1) (hm : qN h ≤ qN h1) (ho : q_ok h o (q_ow k)) (hko : q_ow k < 13) (hlen : as.length = q_na k - 1) (hd : d ≤ 1000) (hRc : cells + (qN h1 - qN h) ≤ 600000) (hRs : slots + (qZ h1 - qZ h) ≤ 7302250) (hlk : Cond.methodLink R_law idx (q_nm k) ∈ lw_tbl) (hsm : q_small rest = true) (hdg : decode code pc = .ok (.invokevirtual idx, 3)) (kk : ∀ (H1 : Heap) (locs1 : List Loc), q_At D B aS tc s h1 H1 locs1 (cells + (qN h1 - qN h)) → W p l e room_1 s m args below meth c H1 locs1 (cells + (qN h1 - qN h)) (slots + (qZ h1 - qZ h)) Q (F0 m (pc + 3) ls ((.int z :: rest).map (q_cv (q_ad B aS))))) : W p l e room_1 s m args below meth c H locs cells slots Q (F0 m pc ls ((as.map (q_cv (q_ad B aS))).reverse ++ .ref (q_ad B aS o) :: rest.map (q_cv (q_ad B aS)))) := by
  obtain ⟨hx, hb, hml, hown, hts, hK, hNS, hVS⟩ := F
  refine q_Wsz (fun hz => ?_)
  obtain ⟨f1, f2, f3, f4, f5, f6, f7, f8⟩ := q_mfacts k
  have hpl := q_plain (q_ow k) f7
  have hhd : (q_nm k).cls ≠ "java/lang/invoke/MethodHandle" ∧ (q_nm k).cls ≠ "java/lang/invoke/VarHandle" := by rw [f4]; exact hpl
  have hini : (Cond.initialized (q_nm k).cls).before args s = true := by rw [f4]; exact hts _ (q_in_ok f7)
  have S : CallFix p m c code 4 s args lw_tbl R_law := ⟨hx, hb, hml, hown, hts⟩
  have hsum := q_small_sum (ad := q_ad B aS) hsm
  have hcell : ∃ cellB : Cell, H[q_ad B aS o]? = some cellB ∧ cellB.vm.isStatics = false ∧ s.vm.findClass (q_cn (q_ow k)) = some cellB.cls := by
    have he := q_wl_get (ad := q_ad B aS) (tc := tc) ho.1 ho.2.1
    rw [q_ce_obj ho.2.2 hko] at he
    exact va_recv hK hA.1 (q_CLg hko) he
  have hsel : (Cond.selects (q_cn (q_ow k)) (q_nm k) (q_nm k)).before args s = true := by
    have h3 := hts _ hsv
    unfold q_selw at h3
    rw [f4] at h3
    exact h3
  have hinst : (Cond.instanceMethod (q_nm k)).before args s = true := by
    rw [hs] at f2
    exact hts _ f2
  have hpre := q_preP2 (av := .ref (q_ad B aS o) :: as.map (q_cv (q_ad B aS))) hA hz hK hNS hVS
  have hav : (Value.ref o :: as).map (q_cv (q_ad B aS)) = .ref (q_ad B aS o) :: as.map (q_cv (q_ad B aS)) := q_mr1 ho.1
  unfold q_Ct2 at hM
  rw [hav] at hM
  refine q_callK hA hm (va_runV (As := as.map (q_cv (q_ad B aS))) (b := q_ad B aS o) (C := q_cn (q_ow k)) (n := q_na k - 1) S hM ⟨callB_of (q_na k - 1) hts lj_good rfl rfl rfl hini (hts _ hlk) ⟨hhd.1, hhd.2, by rw [f5, hs]; rfl⟩ ⟨?_, ?_⟩, hinst, hsel⟩ ⟨q_Pw2.blind, hcell, hpre⟩ rfl (by rw [List.length_map]; exact hlen) hls rfl ?_ hdg ⟨hRc, hRs⟩) kk
  · show d + 1 ≤ 2048
    omega
  · show 8 + (q_ml k + 11) + 64 * d ≤ 84000
    omega
  · show 2 * 0 + _ ≤ 8
    omega
end LC
