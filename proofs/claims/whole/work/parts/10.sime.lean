/-! THE SMALL MACHINE IS THE MACHINE, fifth: returns and calls -/
section QE
variable {p : Program} {l : Launch} {e : Env} {R : Room} {s : State} {m : MethodId} {args : Array Value} {below : List Frame} {meth : Method} {c : Code} {H : Heap} {locs : List Loc} {cells slots : Nat} {Q : State → Prop}
variable {cc : ByteArray} {pc : Nat} {ls : Array Slot} {B : Nat} {aS aV : Nat → Nat} {tc : Nat → ClassId} {D : va_G} {h : q_Hp}
theorem q_simRet (hx : p.tables.exec = Jvm.exec) (hb : c.code = cc) {rt : Option FieldType} (hr : meth.sig.returnType = rt) (hlocks : meth.locks = false) (hA : q_At D B aS tc s h H locs cells) {ins : Instr} {st : List Value} {r : Option Value} (e0 : q_ret rt ins st = some r) (hd : q_dc cc pc ins) :
    W p l e R s m args below meth c H locs cells slots (MQ below (q_Qc D B aS tc r h) args s cells slots (fun q => B < q)) (F0 m pc ls (st.map (q_cv (q_ad B aS)))) := by
  have post : ∀ t : State, t.heap = H → va_P D q_CL (q_wl (q_ad B aS) tc h) t.heap ∧ qN h < 2 ^ 30 ∧ va_F (fun q => B < q) s t := fun t ht => ⟨by rw [ht]; exact hA.1, hA.2.2.1, hA.2.1.F ht⟩
  cases ins
  case ireturn =>
    simp only [q_ret] at e0
    split at e0
    next v =>
      split at e0
      next => cases e0; exact W.iret hx hb hr (fun t ht _ => ⟨rfl, post t ht⟩) hA.2.1.2.2 (q_dc1 hd rfl) hlocks
      next =>
        split at e0
        next hv =>
          cases e0
          exact W.zret hx hb hr (by rcases hv with rfl | rfl <;> rfl) (fun t ht _ => ⟨rfl, post t ht⟩) hA.2.1.2.2 (q_dc1 hd rfl) hlocks
        next => cases e0
      next => cases e0
    next => cases e0
  case lreturn =>
    simp only [q_ret] at e0
    split at e0
    next v =>
      split at e0
      next => cases e0; exact W.lret hx hb hr (fun t ht _ => ⟨rfl, post t ht⟩) hA.2.1.2.2 (q_dc1 hd rfl) hlocks
      next => cases e0
    next => cases e0
  case areturn =>
    simp only [q_ret] at e0
    split at e0
    next v =>
      split at e0
      next C =>
        cases e0
        refine W.aret (v := q_cv (q_ad B aS) (.ref v)) hx hb hr (Or.inl ⟨C, rfl⟩) ?_ (fun t ht _ => ⟨rfl, post t ht⟩) hA.2.1.2.2 (q_dc1 hd rfl) hlocks
        show (if v = 0 then Value.null else Value.ref (q_ad B aS v)) = _ ∨ ∃ a, (if v = 0 then Value.null else Value.ref (q_ad B aS v)) = .ref a
        split
        · exact Or.inl rfl
        · exact Or.inr ⟨_, rfl⟩
      next => cases e0
    next => cases e0
  case return_ =>
    simp only [q_ret] at e0
    split at e0
    next =>
      split at e0
      next => cases e0; exact W.vret hx hb hr (fun t ht _ => ⟨rfl, post t ht⟩) hA.2.1.2.2 (q_dc1 hd rfl) hlocks
      next => cases e0
    next => cases e0
  all_goals cases e0
/-- behind a call -/
theorem q_callK (hA : q_At D B aS tc s h H locs cells) {r : Option Value} {h1 : q_Hp} {a : Array Value} {st0 rest : List Value} (hm : qN h ≤ qN h1)
    (hr : va_Run p l e R s m args below meth c H locs cells slots (qN h1 - qN h) (qZ h1 - qZ h) (F0 m pc ls st0) (rest.map (q_cv (q_ad B aS))) (q_Qc D B aS tc r h1 a) (fun q => B < q))
    (kk : ∀ (H1 : Heap) (locs1 : List Loc), q_At D B aS tc s h1 H1 locs1 (cells + (qN h1 - qN h)) → W p l e R s m args below meth c H1 locs1 (cells + (qN h1 - qN h)) (slots + (qZ h1 - qZ h)) Q (F0 m (pc + 3) ls ((q_push r rest).map (q_cv (q_ad B aS))))) : W p l e R s m args below meth c H locs cells slots Q (F0 m pc ls st0) := by
  intro T hT X
  obtain ⟨v, st₀, t, T', L, h0, X', hL, e1, e2, ⟨hv, hP, hN, hF⟩, st⟩ := hr T hT X
  cases hv
  obtain ⟨g1, g2, g3, g4, g5⟩ := hA
  have hF1 := hF.1
  have hF2 := hF.2
  rw [h0] at hF1 hF2
  have hk := kk T'.heap (locs ++ L) ⟨by rw [e1]; exact hP, ⟨Nat.le_trans g2.1 (by rw [e1]; exact hF1), fun q h1 h2 => by rw [e1, hF2 q (Nat.lt_of_lt_of_le h1 g2.1) h2]; exact g2.2.1 q h1 h2, fun q hq => by
      rcases List.mem_append.mp hq with h | h
      · exact g2.2.2 q h
      · exact hL q h⟩, hN, by omega, g5⟩
  have e3 : (q_push r rest).map (q_cv (q_ad B aS)) = (r.map (q_cv (q_ad B aS))).toList ++ rest.map (q_cv (q_ad B aS)) := by cases r <;> rfl
  rw [e3] at hk
  obtain ⟨t2, a1, b1⟩ := hk T' rfl X'
  exact ⟨t2, st t2 a1, b1⟩
theorem q_aS0 : q_ad B aS (2 ^ 30) = aS 0 := by
  unfold q_ad
  rw [if_neg (by omega), Nat.sub_self]
theorem q_aS1 : q_ad B aS (2 ^ 30 + 1) = aS 1 := by
  unfold q_ad
  rw [if_neg (by omega)]
theorem q_Hsz (hA : q_At D B aS tc s h H locs cells) (hz : H.size ≤ s.heap.size + cells) : H.size = B + 1 + qN h := by
  obtain ⟨g1, g2, g3, g4, g5⟩ := hA
  by_cases h0 : qN h = 0
  · have := g2.1
    omega
  · have h1 := (g1 _ _ (q_wl_get (ad := q_ad B aS) (tc := tc) (a := qN h) (by omega) (Nat.le_refl _))).lt
    rw [q_ad_lt g3] at h1
    omega
theorem q_preP (hA : q_At D B aS tc s h H locs cells) (hz : H.size ≤ s.heap.size + cells) (hK : va_K D q_CL (q_tys tc) s) (hNS : q_NS (aS 0) (aS 1) s) (hVS : vk_S 2 q_len q_byt aS aV (fun q => B < q) s s.heap) {av : List Value} :
    ∀ U : State, U.heap = H → s.WarmedH U.vm → va_Pc av (q_Pw D B aS aV tc h) av.toArray U := by
  intro U hU hW
  exact ⟨rfl, by rw [hU]; exact q_Hsz hA hz, hA.2.2.1, by rw [hU]; exact hA.1, va_K.moved hW.alike hK, q_NS.warm hW hNS, by rw [hU]; exact vk_S.moved hW.alike (vk_S.kept hVS hA.2.1.2.1)⟩
theorem q_goodcode {k : Nat} : Cond.code (q_m k).1 (q_m k).2.1 (q_m k).2.2.1 (q_m k).2.2.2.1 ∈ q_UW := q_UWm (q_mfacts k).1 rfl
theorem q_good {k k' : Nat} : GoodIn (q_ws k) (q_ws k') := by
  intro w hw
  have h1 : w ∈ q_UW := by
    rcases List.mem_cons.mp hw with rfl | h
    · exact q_goodcode
    · exact h
  exact ⟨List.mem_cons_of_mem _ h1, good_of_word (List.mem_filter.mp h1).2⟩
theorem q_own_lt {f : Nat → List (Nat × Nat)} {own i k : Nat} (hf : ∀ n, f (n + 13) = []) (h : q_lk (f own) i = some k) : own < 13 ∧ (i, k) ∈ f own := by
  have h1 := q_lk_mem h
  refine ⟨?_, h1⟩
  rcases Nat.lt_or_ge own 13 with h2 | h2
  · exact h2
  · obtain ⟨n, rfl⟩ : ∃ n, own = n + 13 := ⟨own - 13, by omega⟩
    rw [hf] at h1
    exact absurd h1 List.not_mem_nil
theorem q_take {st : List Value} {n : Nat} {ad : Nat → Nat} : st.map (q_cv ad) = (((st.take n).reverse).map (q_cv ad)).reverse ++ (st.drop n).map (q_cv ad) := by
  rw [List.map_reverse, List.reverse_reverse, ← List.map_append, List.take_append_drop]
theorem q_simCall {k k' d' : Nat} (hx : p.tables.exec = Jvm.exec) (hb : c.code = cc) (hml : c.maxLocals = q_ml k) (hown : s.vm.findClass (q_cn (q_ow k)) = some m.cls) (hts : ∀ w ∈ q_ws k, w.before args s = true) (hK : va_K D q_CL (q_tys tc) s) (hNS : q_NS (aS 0) (aS 1) s) (hVS : vk_S 2 q_len q_byt aS aV (fun q => B < q) s s.heap)
    (hA : q_At D B aS tc s h H locs cells) (hls : ls.size = q_ml k) {ins : Instr} {st : List Value} {r : Option Value} {h1 : q_Hp} (hcal : q_cal (q_ow k) ins = some k') (hd : q_dc cc pc ins) (hn : q_na k' ≤ st.length) (hsm : q_small (st.drop (q_na k')) = true) (hrec : q_rec k' (st.take (q_na k')).reverse h = true)
    (hM : q_Ct l D B aS aV tc d' k' (st.take (q_na k')).reverse h r h1) (hm : qN h ≤ qN h1) (hR : d' + 1 ≤ R.frames ∧ 64 * d' + 64 ≤ R.locals) (hRc : cells + (qN h1 - qN h) ≤ R.cells) (hRs : slots + (qZ h1 - qZ h) ≤ R.slots)
    (kk : ∀ (H1 : Heap) (locs1 : List Loc), q_At D B aS tc s h1 H1 locs1 (cells + (qN h1 - qN h)) → W p l e R s m args below meth c H1 locs1 (cells + (qN h1 - qN h)) (slots + (qZ h1 - qZ h)) Q (F0 m (pc + 3) ls ((q_push r (st.drop (q_na k'))).map (q_cv (q_ad B aS))))) : W p l e R s m args below meth c H locs cells slots Q (F0 m pc ls (st.map (q_cv (q_ad B aS)))) := by
  refine q_Wsz (fun hz => ?_)
  have hpre := fun av : List Value => q_preP (av := av) hA hz hK hNS hVS
  obtain ⟨f1, f2, f3, f4, f5, f6, f7, f8⟩ := q_mfacts k'
  have hpl := q_plain (q_ow k') f7
  have hhd : (q_nm k').cls ≠ "java/lang/invoke/MethodHandle" ∧ (q_nm k').cls ≠ "java/lang/invoke/VarHandle" := by rw [f4]; exact hpl
  have hini : (Cond.initialized (q_nm k').cls).before args s = true := by rw [f4]; exact hts _ (List.mem_cons_of_mem _ (q_UWm (q_in_ok f7) rfl))
  have hRm : (q_rm d' (qN h1 - qN h) (qZ h1 - qZ h)).frames + 1 ≤ R.frames ∧ 8 + (q_ml k' + 11) + (q_rm d' (qN h1 - qN h) (qZ h1 - qZ h)).locals ≤ R.locals := by
    refine ⟨hR.1, ?_⟩
    show 8 + (q_ml k' + 11) + 64 * d' ≤ R.locals
    omega
  have S : CallFix p m c cc (q_ml k) s args (q_ws k) (q_cn (q_ow k)) := ⟨hx, hb, hml, hown, hts⟩
  have hsum := q_small_sum (ad := q_ad B aS) hsm
  have hlen : ((st.take (q_na k')).reverse).length = q_na k' := by rw [List.length_reverse, List.length_take]; omega
  generalize hav : (st.take (q_na k')).reverse = av at hrec hM hlen
  have hst : st.map (q_cv (q_ad B aS)) = (av.map (q_cv (q_ad B aS))).reverse ++ (st.drop (q_na k')).map (q_cv (q_ad B aS)) := by rw [← hav]; exact q_take
  rw [hst]
  have hroom : 2 * (F0 m pc ls ((av.map (q_cv (q_ad B aS))).reverse ++ (st.drop (q_na k')).map (q_cv (q_ad B aS)))).monitorRoom + (((st.drop (q_na k')).map (q_cv (q_ad B aS))).map fun v => v.category).sum ≤ 8 := by
    show 2 * 0 + _ ≤ 8
    omega
  -- an instance method: its receiver
  have recv : q_stc k' = false → ∃ (b : Addr) (As : List Value), av.map (q_cv (q_ad B aS)) = .ref b :: As ∧ As.length = q_na k' - 1 ∧ ∃ cellB : Cell, H[b]? = some cellB ∧ cellB.vm.isStatics = false ∧ s.vm.findClass (q_cn (q_ow k')) = some cellB.cls := by
    intro hs
    unfold q_rec at hrec
    rw [hs, Bool.false_or] at hrec
    simp only [Bool.and_eq_true] at hrec
    obtain ⟨⟨⟨hr1, -⟩, -⟩, -⟩ := hrec
    split at hr1
    next b0 tl =>
      simp only [Bool.or_eq_true, Bool.and_eq_true, decide_eq_true_eq] at hr1
      have h0 : 0 < b0 := by
        rcases hr1 with h | h
        · exact h.2.1
        · exact Nat.lt_of_lt_of_le (by decide) h.1.2
      refine ⟨q_ad B aS b0, tl.map (q_cv (q_ad B aS)), q_mr1 h0, by rw [List.length_map]; simp at hlen; omega, ?_⟩
      rcases hr1 with h2 | h2
      · obtain ⟨h3, h2⟩ := h2
        have he := q_wl_get (ad := q_ad B aS) (tc := tc) h2.1 h2.2.1
        rw [q_ce_obj h2.2.2 h3] at he
        exact va_recv hK hA.1 (q_CLg h3) he
      · obtain ⟨⟨h3, h4⟩, h5⟩ := h2
        rw [h3]
        have h6 : b0 = 2 ^ 30 ∨ b0 = 2 ^ 30 + 1 := by
          rcases Nat.lt_or_ge (2 ^ 30) b0 with h7 | h7
          · exact Or.inr (Nat.le_antisymm (Nat.le_of_lt_succ h5) h7)
          · exact Or.inl (Nat.le_antisymm h7 h4)
        rcases h6 with rfl | rfl
        · rw [q_aS0]
          exact vk_recv hVS (i := 0) (by decide) hA.2.1
        · rw [q_aS1]
          exact vk_recv hVS (i := 1) (by decide) hA.2.1
    next => cases hr1
  have stat : q_stc k' = true → av.length = (q_na k') := fun _ => hlen
  have f5' : ∀ b : Bool, q_stc k' = b → (parseMethodDescriptor (q_nm k').desc).map (fun d => d.parameters.length) = some (if b = true then q_na k' else q_na k' - 1) := fun b hb => by rw [f5, hb]
  have f2' : ∀ b : Bool, q_stc k' = b → (if b = true then Cond.static (q_nm k') else Cond.instanceMethod (q_nm k')) ∈ q_UW := fun b hb => by
    rw [hb] at f2
    cases b
    · exact q_UWm f2 rfl
    · exact q_UWm f2 rfl
  cases ins
  case invokevirtual i =>
    simp only [q_cal] at hcal
    obtain ⟨ho, hmem⟩ := q_own_lt (f := q_vT) (fun _ => rfl) hcal
    have h2 := List.all_eq_true.mp (q_vTs _ ho) _ hmem
    simp only [Bool.and_eq_true, Bool.not_eq_true'] at h2
    have hs : q_stc k' = false := h2.2
    obtain ⟨b, As, hb1, hb2, hcell⟩ := recv hs
    have hsel : (Cond.selects (q_cn (q_ow k')) (q_nm k') (q_nm k')).before args s = true := by
      have h3 := hts _ (List.mem_cons_of_mem _ (q_UWm (q_sel_ok k' (by simpa using h2.1)) rfl))
      unfold q_selw at h3
      rw [f4] at h3
      exact h3
    have hlk := hts _ (List.mem_cons_of_mem _ (q_UWm (q_vT_ok hcal) rfl))
    unfold q_Ct at hM
    rw [hb1] at hM ⊢
    refine q_callK hA hm (va_runV (As := As) (b := b) (C := q_cn (q_ow k')) (n := q_na k' - 1) S hM ⟨callB_of (q_na k' - 1) hts q_good rfl rfl rfl hini hlk ⟨hhd.1, hhd.2, f5' false hs⟩ hRm, hts _ (List.mem_cons_of_mem _ (f2' false hs)), hsel⟩ ⟨q_Pw.blind, hcell, fun U hU hW => ?_⟩ rfl hb2 hls ?_ hroom (q_dc1 hd rfl) ⟨hRc, hRs⟩) kk
    · have := hpre (.ref b :: As) U hU hW
      exact this
    · show (Value.ref b :: As).reverse ++ _ = _
      simp
  case invokestatic i =>
    simp only [q_cal] at hcal
    split at hcal
    next k2 hk2 =>
      cases hcal
      obtain ⟨ho, hmem⟩ := q_own_lt (f := q_sT) (fun _ => rfl) hk2
      have h2 := q_sTs _ ho
      simp only [Bool.and_eq_true] at h2
      have hs : q_stc k' = true := List.all_eq_true.mp h2.1 _ hmem
      have hlk := hts _ (List.mem_cons_of_mem _ (q_UWm (q_sT_ok hk2) rfl))
      unfold q_Ct at hM
      refine q_callK hA hm (va_runS (As := av.map (q_cv (q_ad B aS))) (n := q_na k') S hM ⟨callB_of (q_na k') hts q_good rfl rfl rfl hini hlk ⟨hhd.1, hhd.2, f5' true hs⟩ hRm, hts _ (List.mem_cons_of_mem _ (f2' true hs))⟩ ⟨q_Pw.blind, fun U hU hW => ?_⟩ rfl (by rw [List.length_map]; exact hlen) hls rfl hroom (q_dc1 hd rfl) ⟨hRc, hRs⟩) kk
      have := hpre (av.map (q_cv (q_ad B aS))) U hU hW
      exact this
    next =>
      split at hcal
      next k2 hk2 =>
        split at hcal
        next hs =>
          cases hcal
          have hnl := hNS.1 _ _ _ hk2
          unfold q_Ct at hM
          refine q_callK hA hm (va_runSN (As := av.map (q_cv (q_ad B aS))) (n := q_na k') (host := "RewriteDesk") S hM ⟨va_cnB (q_na k') hts q_good rfl rfl rfl hnl hini ⟨hhd.1, hhd.2, f5' true hs⟩ hRm, hts _ (List.mem_cons_of_mem _ (f2' true hs)), trivial⟩ ⟨q_Pw.blind, fun U hU hW => ?_⟩ rfl (by rw [List.length_map]; exact hlen) hls rfl hroom (q_dc1 hd rfl) ⟨hRc, hRs⟩) kk
          have := hpre (av.map (q_cv (q_ad B aS))) U hU hW
          exact this
        next => cases hcal
      next => cases hcal
  case invokespecial i =>
    simp only [q_cal] at hcal
    split at hcal
    next k2 hk2 =>
      cases hcal
      obtain ⟨ho, hmem⟩ := q_own_lt (f := q_iT) (fun _ => rfl) hk2
      have h2 := List.all_eq_true.mp (q_iTs _ ho) _ hmem
      simp only [Bool.and_eq_true, Bool.not_eq_true', decide_eq_true_eq] at h2
      obtain ⟨⟨g1, g2⟩, g3⟩ := h2
      have hs : q_stc k' = false := g2
      obtain ⟨b, As, hb1, hb2, hcell⟩ := recv hs
      have hlk := hts _ (List.mem_cons_of_mem _ (q_UWm (q_iT_ok hk2) rfl))
      unfold q_Ct at hM
      rw [hb1] at hM ⊢
      have hw : q_ws k' = Cond.code (q_m k').1 (q_m k').2.1 (q_m k').2.2.1 none :: q_UW := by unfold q_ws; rw [g3]
      refine q_callK hA hm (va_runI (As := As) (b := b) (n := q_na k' - 1) S hM ⟨callB_of (q_na k' - 1) hts q_good hw rfl rfl hini hlk ⟨hhd.1, hhd.2, f5' false hs⟩ hRm, g1, hts _ (List.mem_cons_of_mem _ (f2' false hs))⟩ ⟨q_Pw.blind, fun U hU hW => ?_⟩ rfl hb2 hls ?_ hroom (q_dc1 hd rfl) ⟨hRc, hRs⟩) kk
      · have := hpre (.ref b :: As) U hU hW
        exact this
      · show (Value.ref b :: As).reverse ++ _ = _
        simp
    next =>
      split at hcal
      next k2 hk2 =>
        split at hcal
        next => cases hcal
        next hs =>
          cases hcal
          have hs : q_stc k' = false := by simpa using hs
          obtain ⟨ho, hmem⟩ := q_own_lt (f := q_nT) (fun _ => rfl) hk2
          have h2 := q_sTs _ ho
          simp only [Bool.and_eq_true] at h2
          have h3 := List.all_eq_true.mp h2.2 _ hmem
          simp only [Bool.or_eq_true, decide_eq_true_eq] at h3
          have hk : k' = 126 := by
            rcases h3 with h3 | h3
            · exact absurd (hs.symm.trans h3) (by decide)
            · exact h3
          subst hk
          obtain ⟨b, As, hb1, hb2, hcell⟩ := recv hs
          have hnl := hNS.1 _ _ _ hk2
          unfold q_Ct at hM
          rw [hb1] at hM ⊢
          refine q_callK hA hm (va_runIN (As := As) (b := b) (n := q_na 126 - 1) (host := "RewriteDesk") S hM ⟨va_cnB (q_na 126 - 1) hts q_good rfl rfl rfl hnl hini ⟨hhd.1, hhd.2, f5' false hs⟩ hRm, by decide +kernel, hts _ (List.mem_cons_of_mem _ (f2' false hs))⟩ ⟨q_Pw.blind, fun U hU hW => ?_⟩ rfl hb2 hls ?_ hroom (q_dc1 hd rfl) ⟨hRc, hRs⟩) kk
          · have := hpre (.ref b :: As) U hU hW
            exact this
          · show (Value.ref b :: As).reverse ++ _ = _
            simp
      next => cases hcal
  all_goals cases hcal
end QE
