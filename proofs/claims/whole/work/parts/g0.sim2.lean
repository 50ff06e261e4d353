/-! THE SMALL MACHINE IS THE MACHINE, with what the texts' own class holds in its static field -/
def q_VS (aS aV : Nat → Nat) (A : Nat → Prop) (U : State) (H : Heap) : Prop := vk_S 2 q_len q_byt aS aV A U H ∧ va_Z "java/lang/String" "COMPACT_STRINGS" "Z" (.int 1) A U H ∧ va_Zq "jdk/internal/util/Preconditions" "SIOOBE_FORMATTER" "Ljava/util/function/BiFunction;" A U H
theorem q_VS.moved {aS aV : Nat → Nat} {A : Nat → Prop} {u U : State} {H : Heap} (hvm : u.vm.Alike U.vm) (h : q_VS aS aV A u H) : q_VS aS aV A U H := ⟨vk_S.moved hvm h.1, va_Z.moved hvm h.2.1, va_Zq.moved hvm h.2.2⟩
theorem q_VS.kept {aS aV : Nat → Nat} {A : Nat → Prop} {U : State} {H H1 : Heap} (h : q_VS aS aV A U H) (hq : ∀ a : Nat, a < H.size → ¬ A a → H1[a]? = H[a]?) : q_VS aS aV A U H1 := ⟨vk_S.kept h.1 hq, va_Z.kept h.2.1 hq, va_Zq.kept h.2.2 hq⟩
def q_Pw2 (D : va_G) (B : Nat) (aS aV : Nat → Nat) (tc : Nat → ClassId) (h : q_Hp) (U : State) : Prop :=
  U.heap.size = B + 1 + qN h ∧ qN h < 2 ^ 30 ∧ va_P D q_CL (q_wl (q_ad B aS) tc h) U.heap ∧ va_K D q_CL (q_tys tc) U ∧ q_NS (aS 0) (aS 1) U ∧ q_VS aS aV (fun q => B < q) U U.heap
/-- a method's contract, as the small machine has it -/
def q_Ct2 (l : Launch) (D : va_G) (B : Nat) (aS aV : Nat → Nat) (tc : Nat → ClassId) (d k : Nat) (args : List Value) (h : q_Hp) (r : Option Value) (h' : q_Hp) : Prop :=
  Met l (q_nm k) (q_ws k) (q_rm d (qN h' - qN h) (qZ h' - qZ h)) (va_Pc (args.map (q_cv (q_ad B aS))) (q_Pw2 D B aS aV tc h)) (q_Qc D B aS tc r h') (qN h' - qN h) (qZ h' - qZ h) (fun q => B < q)
theorem q_Pw2.blind {D : va_G} {B : Nat} {aS aV : Nat → Nat} {tc : Nat → ClassId} {h : q_Hp} {av : List Value} : FrameBlind (va_Pc av (q_Pw2 D B aS aV tc h)) := by
  intro a U g mk q
  obtain ⟨q0, q1, q2, q3, q4, q5, q6⟩ := q
  exact ⟨q0, q1, q2, q3, va_K.moved (u := U) (U := U.calling g mk a) (Vm.Alike.refl U.vm) q4, q_NS.same (U := U.calling g mk a) rfl q5, q_VS.moved (u := U) (U := U.calling g mk a) (Vm.Alike.refl U.vm) q6⟩
section QE
variable {p : Program} {l : Launch} {e : Env} {R : Room} {s : State} {m : MethodId} {args : Array Value} {below : List Frame} {meth : Method} {c : Code} {H : Heap} {locs : List Loc} {cells slots : Nat} {Q : State → Prop}
variable {cc : ByteArray} {pc : Nat} {ls : Array Slot} {B : Nat} {aS aV : Nat → Nat} {tc : Nat → ClassId} {D : va_G} {h : q_Hp}
theorem q_preP2 (hA : q_At D B aS tc s h H locs cells) (hz : H.size ≤ s.heap.size + cells) (hK : va_K D q_CL (q_tys tc) s) (hNS : q_NS (aS 0) (aS 1) s) (hVS : q_VS aS aV (fun q => B < q) s s.heap) {av : List Value} :
    ∀ U : State, U.heap = H → s.WarmedH U.vm → va_Pc av (q_Pw2 D B aS aV tc h) av.toArray U := by
  intro U hU hW
  exact ⟨rfl, by rw [hU]; exact q_Hsz hA hz, hA.2.2.1, by rw [hU]; exact hA.1, va_K.moved hW.alike hK, q_NS.warm hW hNS, by rw [hU]; exact q_VS.moved hW.alike (q_VS.kept hVS hA.2.1.2.1)⟩
theorem q_simCall2 {k k' d' : Nat} (hx : p.tables.exec = Jvm.exec) (hb : c.code = cc) (hml : c.maxLocals = q_ml k) (hown : s.vm.findClass (q_cn (q_ow k)) = some m.cls) (hts : ∀ w ∈ q_ws k, w.before args s = true) (hK : va_K D q_CL (q_tys tc) s) (hNS : q_NS (aS 0) (aS 1) s) (hVS : q_VS aS aV (fun q => B < q) s s.heap)
    (hA : q_At D B aS tc s h H locs cells) (hls : ls.size = q_ml k) {ins : Instr} {st : List Value} {r : Option Value} {h1 : q_Hp} (hcal : q_cal (q_ow k) ins = some k') (hd : q_dc cc pc ins) (hn : q_na k' ≤ st.length) (hsm : q_small (st.drop (q_na k')) = true) (hrec : q_rec k' (st.take (q_na k')).reverse h = true)
    (hM : q_Ct2 l D B aS aV tc d' k' (st.take (q_na k')).reverse h r h1) (hm : qN h ≤ qN h1) (hR : d' + 1 ≤ R.frames ∧ 64 * d' + 64 ≤ R.locals) (hRc : cells + (qN h1 - qN h) ≤ R.cells) (hRs : slots + (qZ h1 - qZ h) ≤ R.slots)
    (kk : ∀ (H1 : Heap) (locs1 : List Loc), q_At D B aS tc s h1 H1 locs1 (cells + (qN h1 - qN h)) → W p l e R s m args below meth c H1 locs1 (cells + (qN h1 - qN h)) (slots + (qZ h1 - qZ h)) Q (F0 m (pc + 3) ls ((q_push r (st.drop (q_na k'))).map (q_cv (q_ad B aS))))) : W p l e R s m args below meth c H locs cells slots Q (F0 m pc ls (st.map (q_cv (q_ad B aS)))) := by
  refine q_Wsz (fun hz => ?_)
  have hpre := fun av : List Value => q_preP2 (av := av) hA hz hK hNS hVS
  obtain ⟨f1, f2, f3, f4, f5, f6, f7, f8⟩ := q_mfacts k'
  have hpl := q_plain (q_ow k') f7
  have hhd : (q_nm k').cls ≠ "java/lang/invoke/MethodHandle" ∧ (q_nm k').cls ≠ "java/lang/invoke/VarHandle" := by rw [f4]; exact hpl
  have hini : (Cond.initialized (q_nm k').cls).before args s = true := by rw [f4]; exact hts _ (List.mem_cons_of_mem _ (q_UWm (q_in_ok f7) rfl))
  have hRm : (q_rm d' (qN h1 - qN h) (qZ h1 - qZ h)).frames + 1 ≤ R.frames ∧ 8 + (q_ml k' + 11) + (q_rm d' (qN h1 - qN h) (qZ h1 - qZ h)).locals ≤ R.locals := by
    refine ⟨hR.1, ?_⟩
    show 8 + (q_ml k' + 11) + 64 * d' ≤ R.locals
    omega
  have S : CallFix p m c cc (q_ml k) s args (q_ws k) (q_cn (q_ow k)) := ⟨hx, hb, hml, hown, hts⟩
  have hsum := q_small_sum (ad := q_ad B aS) hsm
  have hlen : ((st.take (q_na k')).reverse).length = q_na k' := by rw [List.length_reverse, List.length_take]; omega
  generalize hav : (st.take (q_na k')).reverse = av at hrec hM hlen
  have hst : st.map (q_cv (q_ad B aS)) = (av.map (q_cv (q_ad B aS))).reverse ++ (st.drop (q_na k')).map (q_cv (q_ad B aS)) := by rw [← hav]; exact q_take
  rw [hst]
  have hroom : 2 * (F0 m pc ls ((av.map (q_cv (q_ad B aS))).reverse ++ (st.drop (q_na k')).map (q_cv (q_ad B aS)))).monitorRoom + (((st.drop (q_na k')).map (q_cv (q_ad B aS))).map fun v => v.category).sum ≤ 8 := by
    show 2 * 0 + _ ≤ 8
    omega
  -- an instance method: its receiver
  have recv : q_stc k' = false → ∃ (b : Addr) (As : List Value), av.map (q_cv (q_ad B aS)) = .ref b :: As ∧ As.length = q_na k' - 1 ∧ ∃ cellB : Cell, H[b]? = some cellB ∧ cellB.vm.isStatics = false ∧ s.vm.findClass (q_cn (q_ow k')) = some cellB.cls := by
    intro hs
    unfold q_rec at hrec
    rw [hs, Bool.false_or] at hrec
    simp only [Bool.and_eq_true] at hrec
    obtain ⟨⟨⟨hr1, -⟩, -⟩, -⟩ := hrec
    split at hr1
    next b0 tl =>
      simp only [Bool.or_eq_true, Bool.and_eq_true, decide_eq_true_eq] at hr1
      have h0 : 0 < b0 := by
        rcases hr1 with h | h
        · exact h.2.1
        · exact Nat.lt_of_lt_of_le (by decide) h.1.2
      refine ⟨q_ad B aS b0, tl.map (q_cv (q_ad B aS)), q_mr1 h0, by rw [List.length_map]; simp at hlen; omega, ?_⟩
      rcases hr1 with h2 | h2
      · obtain ⟨h3, h2⟩ := h2
        have he := q_wl_get (ad := q_ad B aS) (tc := tc) h2.1 h2.2.1
        rw [q_ce_obj h2.2.2 h3] at he
        exact va_recv hK hA.1 (q_CLg h3) he
      · obtain ⟨⟨h3, h4⟩, h5⟩ := h2
        rw [h3]
        have h6 : b0 = 2 ^ 30 ∨ b0 = 2 ^ 30 + 1 := by
          rcases Nat.lt_or_ge (2 ^ 30) b0 with h7 | h7
          · exact Or.inr (Nat.le_antisymm (Nat.le_of_lt_succ h5) h7)
          · exact Or.inl (Nat.le_antisymm h7 h4)
        rcases h6 with rfl | rfl
        · rw [q_aS0]
          exact vk_recv hVS.1 (i := 0) (by decide) hA.2.1
        · rw [q_aS1]
          exact vk_recv hVS.1 (i := 1) (by decide) hA.2.1
    next => cases hr1
  have stat : q_stc k' = true → av.length = (q_na k') := fun _ => hlen
  have f5' : ∀ b : Bool, q_stc k' = b → (parseMethodDescriptor (q_nm k').desc).map (fun d => d.parameters.length) = some (if b = true then q_na k' else q_na k' - 1) := fun b hb => by rw [f5, hb]
  have f2' : ∀ b : Bool, q_stc k' = b → (if b = true then Cond.static (q_nm k') else Cond.instanceMethod (q_nm k')) ∈ q_UW := fun b hb => by
    rw [hb] at f2
    cases b
    · exact q_UWm f2 rfl
    · exact q_UWm f2 rfl
  cases ins
  case invokevirtual i =>
    simp only [q_cal] at hcal
    obtain ⟨ho, hmem⟩ := q_own_lt (f := q_vT) (fun _ => rfl) hcal
    have h2 := List.all_eq_true.mp (q_vTs _ ho) _ hmem
    simp only [Bool.and_eq_true, Bool.not_eq_true'] at h2
    have hs : q_stc k' = false := h2.2
    obtain ⟨b, As, hb1, hb2, hcell⟩ := recv hs
    have hsel : (Cond.selects (q_cn (q_ow k')) (q_nm k') (q_nm k')).before args s = true := by
      have h3 := hts _ (List.mem_cons_of_mem _ (q_UWm (q_sel_ok k' (by simpa using h2.1)) rfl))
      unfold q_selw at h3
      rw [f4] at h3
      exact h3
    have hlk := hts _ (List.mem_cons_of_mem _ (q_UWm (q_vT_ok hcal) rfl))
    unfold q_Ct2 at hM
    rw [hb1] at hM ⊢
    refine q_callK hA hm (va_runV (As := As) (b := b) (C := q_cn (q_ow k')) (n := q_na k' - 1) S hM ⟨callB_of (q_na k' - 1) hts q_good rfl rfl rfl hini hlk ⟨hhd.1, hhd.2, f5' false hs⟩ hRm, hts _ (List.mem_cons_of_mem _ (f2' false hs)), hsel⟩ ⟨q_Pw2.blind, hcell, fun U hU hW => ?_⟩ rfl hb2 hls ?_ hroom (q_dc1 hd rfl) ⟨hRc, hRs⟩) kk
    · have := hpre (.ref b :: As) U hU hW
      exact this
    · show (Value.ref b :: As).reverse ++ _ = _
      simp
  case invokestatic i =>
    simp only [q_cal] at hcal
    split at hcal
    next k2 hk2 =>
      cases hcal
      obtain ⟨ho, hmem⟩ := q_own_lt (f := q_sT) (fun _ => rfl) hk2
      have h2 := q_sTs _ ho
      simp only [Bool.and_eq_true] at h2
      have hs : q_stc k' = true := List.all_eq_true.mp h2.1 _ hmem
      have hlk := hts _ (List.mem_cons_of_mem _ (q_UWm (q_sT_ok hk2) rfl))
      unfold q_Ct2 at hM
      refine q_callK hA hm (va_runS (As := av.map (q_cv (q_ad B aS))) (n := q_na k') S hM ⟨callB_of (q_na k') hts q_good rfl rfl rfl hini hlk ⟨hhd.1, hhd.2, f5' true hs⟩ hRm, hts _ (List.mem_cons_of_mem _ (f2' true hs))⟩ ⟨q_Pw2.blind, fun U hU hW => ?_⟩ rfl (by rw [List.length_map]; exact hlen) hls rfl hroom (q_dc1 hd rfl) ⟨hRc, hRs⟩) kk
      have := hpre (av.map (q_cv (q_ad B aS))) U hU hW
      exact this
    next =>
      split at hcal
      next k2 hk2 =>
        split at hcal
        next hs =>
          cases hcal
          have hnl := hNS.1 _ _ _ hk2
          unfold q_Ct2 at hM
          refine q_callK hA hm (va_runSN (As := av.map (q_cv (q_ad B aS))) (n := q_na k') (host := "RewriteDesk") S hM ⟨va_cnB (q_na k') hts q_good rfl rfl rfl hnl hini ⟨hhd.1, hhd.2, f5' true hs⟩ hRm, hts _ (List.mem_cons_of_mem _ (f2' true hs)), trivial⟩ ⟨q_Pw2.blind, fun U hU hW => ?_⟩ rfl (by rw [List.length_map]; exact hlen) hls rfl hroom (q_dc1 hd rfl) ⟨hRc, hRs⟩) kk
          have := hpre (av.map (q_cv (q_ad B aS))) U hU hW
          exact this
        next => cases hcal
      next => cases hcal
  case invokespecial i =>
    simp only [q_cal] at hcal
    split at hcal
    next k2 hk2 =>
      cases hcal
      obtain ⟨ho, hmem⟩ := q_own_lt (f := q_iT) (fun _ => rfl) hk2
      have h2 := List.all_eq_true.mp (q_iTs _ ho) _ hmem
      simp only [Bool.and_eq_true, Bool.not_eq_true', decide_eq_true_eq] at h2
      obtain ⟨⟨g1, g2⟩, g3⟩ := h2
      have hs : q_stc k' = false := g2
      obtain ⟨b, As, hb1, hb2, hcell⟩ := recv hs
      have hlk := hts _ (List.mem_cons_of_mem _ (q_UWm (q_iT_ok hk2) rfl))
      unfold q_Ct2 at hM
      rw [hb1] at hM ⊢
      have hw : q_ws k' = Cond.code (q_m k').1 (q_m k').2.1 (q_m k').2.2.1 none :: q_UW := by unfold q_ws; rw [g3]
      refine q_callK hA hm (va_runI (As := As) (b := b) (n := q_na k' - 1) S hM ⟨callB_of (q_na k' - 1) hts q_good hw rfl rfl hini hlk ⟨hhd.1, hhd.2, f5' false hs⟩ hRm, g1, hts _ (List.mem_cons_of_mem _ (f2' false hs))⟩ ⟨q_Pw2.blind, fun U hU hW => ?_⟩ rfl hb2 hls ?_ hroom (q_dc1 hd rfl) ⟨hRc, hRs⟩) kk
      · have := hpre (.ref b :: As) U hU hW
        exact this
      · show (Value.ref b :: As).reverse ++ _ = _
        simp
    next =>
      split at hcal
      next k2 hk2 =>
        split at hcal
        next => cases hcal
        next hs =>
          cases hcal
          have hs : q_stc k' = false := by simpa using hs
          obtain ⟨ho, hmem⟩ := q_own_lt (f := q_nT) (fun _ => rfl) hk2
          have h2 := q_sTs _ ho
          simp only [Bool.and_eq_true] at h2
          have h3 := List.all_eq_true.mp h2.2 _ hmem
          simp only [Bool.or_eq_true, decide_eq_true_eq] at h3
          have hk : k' = 126 := by
            rcases h3 with h3 | h3
            · exact absurd (hs.symm.trans h3) (by decide)
            · exact h3
          subst hk
          obtain ⟨b, As, hb1, hb2, hcell⟩ := recv hs
          have hnl := hNS.1 _ _ _ hk2
          unfold q_Ct2 at hM
          rw [hb1] at hM ⊢
          refine q_callK hA hm (va_runIN (As := As) (b := b) (n := q_na 126 - 1) (host := "RewriteDesk") S hM ⟨va_cnB (q_na 126 - 1) hts q_good rfl rfl rfl hnl hini ⟨hhd.1, hhd.2, f5' false hs⟩ hRm, by decide +kernel, hts _ (List.mem_cons_of_mem _ (f2' false hs))⟩ ⟨q_Pw2.blind, fun U hU hW => ?_⟩ rfl hb2 hls ?_ hroom (q_dc1 hd rfl) ⟨hRc, hRs⟩) kk
          · have := hpre (.ref b :: As) U hU hW
            exact this
          · show (Value.ref b :: As).reverse ++ _ = _
            simp
      next => cases hcal
  all_goals cases hcal
end QE
/-- what is said of a method's frame -/
def q_Fr2 (D : va_G) (B : Nat) (aS aV : Nat → Nat) (tc : Nat → ClassId) (k : Nat) (p : Program) (s : State) (m : MethodId) (args : Array Value) (meth : Method) (c : Code) : Prop :=
  p.tables.exec = Jvm.exec ∧ c.code = (q_m k).2.1 ∧ meth.sig.returnType = q_rt k ∧ meth.locks = false ∧ c.maxLocals = q_ml k ∧ s.vm.findClass (q_cn (q_ow k)) = some m.cls ∧ (∀ w ∈ q_ws k, w.before args s = true) ∧ (q_ini k = true → meth.name = "<init>") ∧
    va_K D q_CL (q_tys tc) s ∧ q_NS (aS 0) (aS 1) s ∧ q_VS aS aV (fun q => B < q) s s.heap
/-- a run of the small machine, from any point of a method, is a run of the machine -/
def q_Bd2 (l : Launch) (D : va_G) (B : Nat) (aS aV : Nat → Nat) (tc : Nat → ClassId) (f : Nat) : Prop :=
  ∀ (d k pc : Nat) (L : q_Lc) (st : List Value) (h : q_Hp) (r : Option Value) (hE : q_Hp), q_run f d k pc L st h = some (r, hE) →
    ∀ (p : Program) (e : Env) (s : State) (m : MethodId) (args : Array Value) (below : List Frame) (meth : Method) (c : Code) (H : Heap) (locs : List Loc) (cells slots mc ms : Nat) (ls : Array Slot),
      q_Fr2 D B aS aV tc k p s m args meth c → q_At D B aS tc s h H locs cells → lv_has ls (q_ml k) (q_lv (q_ad B aS) L) → L.length = q_ml k → cells + qN hE = mc + qN h → slots + qZ hE = ms + qZ h →
        W p l e (q_rm d mc ms) s m args below meth c H locs cells slots (MQ below (q_Qc D B aS tc r hE) args s mc ms (fun q => B < q)) (F0 m pc ls (st.map (q_cv (q_ad B aS))))
theorem q_simA2 {l : Launch} {D : va_G} {B : Nat} {aS aV : Nat → Nat} {tc : Nat → ClassId} {f : Nat} (ih : q_Bd2 l D B aS aV tc f) {d k : Nat} {av : List Value} {h h' : q_Hp} {r : Option Value} (e0 : q_run f d k 0 (q_ent k av) [] h = some (r, h')) (hsl : (q_slots av).length ≤ q_ml k) (hok : av.all q_okv = true) :
    q_Ct2 l D B aS aV tc d k av h r h' := by
  obtain ⟨f1, f2, f3, f4, f5, f6, f7, f8⟩ := q_mfacts k
  have hm := q_mono _ _ _ _ _ _ _ _ _ e0
  refine q_ofW (cc := (q_m k).2.1) (maxL := q_ml k) (ret := q_rt k) f3 rfl ?_
  intro p e s m args below meth c s₁ X hml hv
  obtain ⟨rfl, hsz, hN, hP, hK, hNS, hVS⟩ := hv
  have hown : s.vm.findClass (q_nm k).cls = some m.cls := findClass_of_methodNamed X.named
  rw [f4] at hown
  have hl := lv_entry (av.map (q_cv (q_ad B aS))) (n := q_ml k) (by rw [q_sl_len av hok]; exact hsl)
  rw [lg_entry_eq]
  generalize (lg_sl (av.map (q_cv (q_ad B aS))) ++ List.replicate (q_ml k - (lg_sl (av.map (q_cv (q_ad B aS)))).length) Slot.unset).toArray = ls at hl ⊢
  have hw := ih d k 0 (q_ent k av) [] h r h' e0 p e s m (av.map (q_cv (q_ad B aS))).toArray below meth c s.heap [] 0 0 (qN h' - qN h) (qZ h' - qZ h) ls
    ⟨X.exec, X.bytes, X.returns, X.notSynchronized, hml, hown, atoms_spec (ws := q_ws k) X.pre, fun hi => by
      have := (name_of_methodNamed X.named X.method).1
      rw [this]
      unfold q_ini at hi
      exact beq_iff_eq.mp hi, hK, hNS, hVS⟩ ⟨hP, va_S.rf, hN, by omega, by omega⟩ (q_ent_has hok hl) (q_ent_len hsl) (by omega) (by omega)
  exact hw
theorem q_sim2 {l : Launch} {D : va_G} {B : Nat} {aS aV : Nat → Nat} {tc : Nat → ClassId} (hBI : ∀ (d k : Nat) (av : List Value) (h h' : q_Hp) (r : Option Value), 8 ≤ d → q_bi k av h = some (r, h') → q_rec k av h = true → q_Ct2 l D B aS aV tc d k av h r h') : ∀ f, q_Bd2 l D B aS aV tc f := by
  intro f
  induction f with
  | zero => intro d k pc L st h r hE e; cases e
  | succ f ih =>
    intro d k pc L st h r hE e0 p e s m args below meth c H locs cells slots mc ms ls FR hA hl hL hc hs
    have FR0 := FR
    obtain ⟨hx, hb, hr, hlocks, hml, hown, hts, hin, hK, hNS, hVS⟩ := FR
    have htU : ∀ w ∈ q_UW, w.before args s = true := fun w h => hts w (List.mem_cons_of_mem _ h)
    unfold q_run at e0
    split at e0
    next => cases e0
    next ins hfe =>
      have hd := q_fe_dc hfe
      split at e0
      next r1 hret =>
        cases e0
        have h1 : mc = cells := by omega
        have h2 : ms = slots := by omega
        subst h1; subst h2
        exact q_simRet hx hb hr hlocks hA hret hd
      next =>
        split at e0
        next k' hcal =>
          split at e0
          next => cases e0
          next d' =>
            split at e0
            next hcond =>
              obtain ⟨g1, g2, g3⟩ := hcond
              split at e0
              next r1 h1 hin2 =>
                have hm2 := q_mono _ _ _ _ _ _ _ _ _ e0
                have hrec := g3
                unfold q_rec at hrec
                simp only [Bool.and_eq_true, decide_eq_true_eq] at hrec
                obtain ⟨⟨⟨-, q2⟩, -⟩, q4⟩ := hrec
                have hcm : q_Ct2 l D B aS aV tc d' k' (st.take (q_na k')).reverse h r1 h1 ∧ qN h ≤ qN h1 ∧ qZ h ≤ qZ h1 := by
                  split at hin2
                  next => exact ⟨q_simA2 ih hin2 q2 q4, q_mono _ _ _ _ _ _ _ _ _ hin2⟩
                  next =>
                    split at hin2
                    next h8 =>
                      refine ⟨hBI d' k' _ h h1 r1 h8 hin2 g3, ?_⟩
                      rw [q_bi_h hin2]
                      exact ⟨Nat.le_refl _, Nat.le_refl _⟩
                    next => cases hin2
                obtain ⟨hM, hm1, hm3⟩ := hcm
                refine q_simCall2 (k := k) (d' := d') hx hb hml hown hts hK hNS hVS hA hl.1 hcal hd g1 g2 g3 hM hm1 ⟨Nat.le_refl _, by show 64 * d' + 64 ≤ 64 * (d' + 1); omega⟩ (by show cells + (qN h1 - qN h) ≤ mc; omega) (by show slots + (qZ h1 - qZ h) ≤ ms; omega) (fun H1 locs1 hA1 => ?_)
                exact ih (d' + 1) k (pc + 3) L (q_push r1 (st.drop (q_na k'))) h1 r hE e0 p e s m args below meth c H1 locs1 _ _ mc ms ls FR0 hA1 hl hL (by omega) (by omega)
              next => cases e0
            next => cases e0
        next =>
          split at e0
          next pc' L' st' h1 hstp =>
            have hm2 := q_mono _ _ _ _ _ _ _ _ _ e0
            unfold q_stp at hstp
            split at hstp
            next n L2 st2 hloc =>
              cases hstp
              refine q_simLoc hx hb hloc hd (by rw [hL]; exact hl) (fun hlen ls' hl' => ?_)
              exact ih d k _ _ _ _ r hE e0 p e s m args below meth c H locs cells slots mc ms ls' FR0 hA (by rw [hlen, hL] at hl'; exact hl') (by rw [hlen, hL]) hc hs
            next =>
              split at hstp
              next n st2 hstk =>
                cases hstp
                refine q_simStk hx hb hown (fun w h1 h2 => htU w (q_UWm h1 h2)) (by rw [q_aS0]; exact hNS.2.2.1) (by rw [q_aS1]; exact hNS.2.2.2) hstk hd ?_
                exact ih d k _ _ _ _ r hE e0 p e s m args below meth c H locs cells slots mc ms ls FR0 hA hl hL hc hs
              next =>
                split at hstp
                next c1 hgo =>
                  cases hstp
                  refine q_simGo hx hb hgo hd (fun e1 e2 => ?_)
                  subst e1; subst e2
                  exact ih d k _ _ _ _ r hE e0 p e s m args below meth c H locs cells slots mc ms ls FR0 hA hl hL hc hs
                next =>
                  split at hstp
                  next n st2 h2 hhea =>
                    cases hstp
                    have hm3 := q_hea_mono hhea
                    refine q_simHea hx hb hown htU hNS.2.1 hK hA (hl.1.trans hml.symm) hin (fun h0 => ⟨by show 1 ≤ d; omega, by show 64 ≤ 64 * d; omega⟩) hhea hd (by show cells + (qN h1 - qN h) ≤ mc; omega) (by show slots + (qZ h1 - qZ h) ≤ ms; omega) (fun H1 locs1 hA1 => ?_)
                    exact ih d k _ _ _ _ r hE e0 p e s m args below meth c H1 locs1 _ _ mc ms ls FR0 hA1 hl hL (by omega) (by omega)
                  next => cases hstp
          next => cases e0
