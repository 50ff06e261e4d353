/-! THE LAW: its two objects -/
set_option maxRecDepth 100000 in
theorem lj_k0 : Cond.classLink R_law 7 (q_cn 11) ∈ lw_tbl := q_tb_mem (e := (1, 22)) (by decide +kernel)
set_option maxRecDepth 100000 in
theorem lj_k1 : Cond.classLink R_law 10 (q_cn 12) ∈ lw_tbl := q_tb_mem (e := (7, 184)) (by decide +kernel)
set_option maxRecDepth 100000 in
theorem lj_k2 : Cond.methodLink R_law 9 (q_nm 210) ∈ lw_tbl := q_tb_mem (e := (1, 24)) (by decide +kernel)
set_option maxRecDepth 100000 in
theorem lj_k3 : Cond.methodLink R_law 12 (q_nm 236) ∈ lw_tbl := q_tb_mem (e := (7, 186)) (by decide +kernel)
section LN
variable {p : Program} {l : Launch} {e : Env} {s : State} {m : MethodId} {args : Array Value} {below : List Frame} {meth : Method} {c : Code} {H : Heap} {locs : List Loc} {cells slots : Nat} {Q : State → Prop}
variable {pc : Nat} {ls : Array Slot} {B : Nat} {aS aV : Nat → Nat} {tc : Nat → ClassId} {D : va_G} {h : q_Hp}
theorem lj_new {ci idx : Nat} {rest : List Value} (F : lj_Fr D B aS aV tc p s m args c) (hA : q_At D B aS tc s h H locs cells) (hci : ci < 13) (hN1 : qN h + 1 < 2 ^ 30) (hcl : Cond.classLink R_law idx (q_cn ci) ∈ lw_tbl) (hRc : cells + 1 ≤ 600000) (hRs : slots + q_nf ci ≤ 7302250) (hdg : decode code pc = .ok (.new idx, 3)) (kk : ∀ H1 : Heap, q_At D B aS tc s (q_al h ci (q_nf ci)) H1 locs (cells + 1) → W p l e room_1 s m args below meth c H1 locs (cells + 1) (slots + q_nf ci) Q (F0 m (pc + 3) ls (.ref (q_ad B aS (qN h + 1)) :: rest))) : W p l e room_1 s m args below meth c H locs cells slots Q (F0 m pc ls rest) := by
  obtain ⟨hx, hb, hml, hown, hts, hK, hNS, hVS⟩ := F
  have hbz : ∀ q : Nat, s.heap.size ≤ q → (fun q : Nat => B < q) q := fun q hq => by
    have := hA.2.2.2.2
    show B < q
    omega
  refine va_new (ci := ci) (fs := (List.range (q_nf ci)).map (q_cfv (q_ad B aS) (q_al h ci (q_nf ci)) ci (qN h + 1))) (C := q_cn ci) (T := q_ct ci) (N := q_nf ci) hx hb hts (q_uwA hci) (q_ty ci) (q_tyok hci) hown (hts _ hcl) (hts _ (q_instn hci)) (hts _ (q_in_ok (by omega))) hK hA.1 (q_wl_D hA.2.2.1) hA.2.1 hbz (q_CLg hci) (fun j hj => q_dv hci hj) hRc hRs hdg (fun q H1 hP1 hD1 hS1 => q_Wsz (fun hs1 => ?_))
  obtain ⟨rfl, hA1⟩ := hA.new (cd := ci) (len := q_nf ci) hN1 (q_ce_obj (by rw [q_al_K]) hci) hP1 hD1 hS1 hs1
  exact kk H1 hA1
theorem lj_ctor {k idx d o : Nat} {rest : List Value} {h1 : q_Hp} (F : lj_Fr D B aS aV tc p s m args c) (hA : q_At D B aS tc s h H locs cells) (hls : ls.size = 4) (hs : q_stc k = false) (hret : q_rt k = none) (hin : (q_nm k).name = "<init>") (hna : q_na k = 1) (hM : q_Ct2 l D B aS aV tc d k [.ref o] h none h1) (hm : qN h ≤ qN h1) (ho : 0 < o) (hd : d ≤ 1000) (hRc : cells + (qN h1 - qN h) ≤ 600000) (hRs : slots + (qZ h1 - qZ h) ≤ 7302250) (hlk : Cond.methodLink R_law idx (q_nm k) ∈ lw_tbl) (hsm : q_small rest = true) (hdg : decode code pc = .ok (.invokespecial idx, 3)) (kk : ∀ (H1 : Heap) (locs1 : List Loc), q_At D B aS tc s h1 H1 locs1 (cells + (qN h1 - qN h)) → W p l e room_1 s m args below meth c H1 locs1 (cells + (qN h1 - qN h)) (slots + (qZ h1 - qZ h)) Q (F0 m (pc + 3) ls (rest.map (q_cv (q_ad B aS))))) : W p l e room_1 s m args below meth c H locs cells slots Q (F0 m pc ls (.ref (q_ad B aS o) :: rest.map (q_cv (q_ad B aS)))) := by
  obtain ⟨hx, hb, hml, hown, hts, hK, hNS, hVS⟩ := F
  refine q_Wsz (fun hz => ?_)
  obtain ⟨f1, f2, f3, f4, f5, f6, f7, f8⟩ := q_mfacts k
  have hpl := q_plain (q_ow k) f7
  have hhd : (q_nm k).cls ≠ "java/lang/invoke/MethodHandle" ∧ (q_nm k).cls ≠ "java/lang/invoke/VarHandle" := by rw [f4]; exact hpl
  have hini : (Cond.initialized (q_nm k).cls).before args s = true := by rw [f4]; exact hts _ (q_in_ok f7)
  have S : CallFix p m c code 4 s args lw_tbl R_law := ⟨hx, hb, hml, hown, hts⟩
  have hsum := q_small_sum (ad := q_ad B aS) hsm
  have hinst : (Cond.instanceMethod (q_nm k)).before args s = true := by
    rw [hs] at f2
    exact hts _ f2
  have hpre := q_preP2 (av := [.ref (q_ad B aS o)]) hA hz hK hNS hVS
  have hav : ([Value.ref o]).map (q_cv (q_ad B aS)) = [.ref (q_ad B aS o)] := q_mr1 ho
  unfold q_Ct2 at hM
  rw [hav] at hM
  have hw : q_ws k = Cond.code (q_m k).1 (q_m k).2.1 (q_m k).2.2.1 none :: q_UW := by unfold q_ws; rw [show (q_m k).2.2.2.1 = none from hret]
  refine q_callK hA hm (va_runI (As := []) (b := q_ad B aS o) (n := q_na k - 1) S hM ⟨callB_of (q_na k - 1) hts lj_good hw rfl rfl hini (hts _ hlk) ⟨hhd.1, hhd.2, by rw [f5, hs]; rfl⟩ ⟨?_, ?_⟩, hin, hinst⟩ ⟨q_Pw2.blind, hpre⟩ rfl (by rw [hna]; rfl) hls rfl ?_ hdg ⟨hRc, hRs⟩) kk
  · show d + 1 ≤ 2048
    omega
  · show 8 + (q_ml k + 11) + 64 * d ≤ 84000
    omega
  · show 2 * 0 + _ ≤ 8
    omega
end LN
section LZ
variable {p : Program} {l : Launch} {e : Env} {s : State} {m : MethodId} {below : List Frame} {meth : Method} {c : Code}
variable {ls : Array Slot} {B b L : Nat} {xs : Nat → Int32} {aS aV : Nat → Nat} {tc : Nat → ClassId} {D : va_G}
theorem lj_z629 : j_z 629 ≤ 172876 := by decide +kernel
theorem lj_start (F : lj_Fr D B aS aV tc p s m #[Value.ref b] c) (hr : meth.sig.returnType = ret) (hlocks : meth.locks = false) (hX : va_X b L xs s s.heap) (hbl : b < s.heap.size) (hB : B + 1 = s.heap.size) (hL : L ≤ 3072) (hl : lv_has ls 4 [(0, .ref b)]) : W p l e room_1 s m #[Value.ref b] below meth c s.heap [] 0 0 (lw_Z below #[Value.ref b] s) (F0 m 0 ls []) := by
  have hx := F.1
  have hb := F.2.1
  have hA0 : q_At D B aS tc s q_H0 s.heap [] 0 := ⟨fun k q hq => by have h9 : ([] : va_W)[k]? = some q := hq; simp at h9, va_S.rf, by decide, by show s.heap.size + 0 = B + 1 + 0; omega, by omega⟩
  obtain ⟨h1, ⟨⟨n1, z1⟩, w2⟩, c1, -, m1, -⟩ := q_metV (l := l) (D := D) (B := B) (aS := aS) (aV := aV) (tc := tc) j_start
  obtain ⟨h2, ⟨R, n2, z2⟩, c2, -, m2, -⟩ := q_metV (l := l) (D := D) (B := B) (aS := aS) (aV := aV) (tc := tc) w2
  have hz1 := lj_z629
  have hz2 := j_z712
  have e11 : q_nf 11 = 17 := rfl
  have e12 : q_nf 12 = 117 := rfl
  refine lj_new (ci := 11) (idx := 7) F hA0 (by decide) (by decide) lj_k0 (by decide) (by decide) dL_law_0 (fun H hA => ?_)
  refine lv_dup hx hb dL_law_3 rfl ?_
  refine lj_ctor (k := 210) (idx := 9) (d := 10) (o := 1) (rest := [.ref 1]) F hA hl.1 (by decide +kernel) (by decide +kernel) (by decide +kernel) (by decide +kernel) c1 m1 (by decide) (by decide) (by omega) (by omega) lj_k2 rfl dL_law_4 (fun H locs hA => ?_)
  refine lv_astore_n (x := B + 1) (lv' := [(1, .ref (B + 1)), (0, .ref b)]) hx hb dL_law_7 rfl hl (by decide) rfl (fun ls hl => ?_)
  refine lj_new (ci := 12) (idx := 10) F hA (by decide) (by rw [n1]; decide) lj_k1 (by omega) (by omega) dL_law_8 (fun H hA => ?_)
  rw [n1] at hA ⊢
  refine lv_dup hx hb dL_law_11 rfl ?_
  refine lj_ctor (k := 236) (idx := 12) (d := 10) (o := 630) (rest := [.ref 630]) F hA hl.1 (by decide +kernel) (by decide +kernel) (by decide +kernel) (by decide +kernel) c2 m2 (by decide) (by decide) (by omega) (by omega) lj_k3 rfl dL_law_12 (fun H locs hA => ?_)
  refine lv_astore_n (x := B + 630) (lv' := [(2, .ref (B + 630)), (1, .ref (B + 1)), (0, .ref b)]) hx hb dL_law_15 rfl hl (by decide) rfl (fun ls hl => ?_)
  refine lv_iconst (v := nI 0) hx hb dL_law_16 (by decide) ?_
  refine lv_istore_n (lv' := [(3, .int (nI 0)), (2, .ref (B + 630)), (1, .ref (B + 1)), (0, .ref b)]) hx hb dL_law_17 rfl hl (by decide) rfl (fun ls hl => ?_)
  exact lj_loop F hr hlocks hX hbl hB hL (by omega) (by omega) (L + 6) 0 0 h2 H locs ls (by omega) (by omega) (by omega) R hA (lv_sub hl [3, 2, 1, 0] rfl)
end LZ
