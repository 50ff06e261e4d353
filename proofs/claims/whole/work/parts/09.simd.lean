/-! THE SMALL MACHINE IS THE MACHINE, fourth: calls, returns, whole methods -/
theorem q_lnk0 : q_mt0.all (fun q => q.2.2.2.2.2.2.2.all (fun e => q_ln e.2.1 == none || q_ln e.2.1 == some e.2.2)) = true := by decide +kernel
theorem q_lnk1 : q_mt1.all (fun q => q.2.2.2.2.2.2.2.all (fun e => q_ln e.2.1 == none || q_ln e.2.1 == some e.2.2)) = true := by decide +kernel
theorem q_lnk2 : q_mt2.all (fun q => q.2.2.2.2.2.2.2.all (fun e => q_ln e.2.1 == none || q_ln e.2.1 == some e.2.2)) = true := by decide +kernel
theorem q_lnk3 : q_mt3.all (fun q => q.2.2.2.2.2.2.2.all (fun e => q_ln e.2.1 == none || q_ln e.2.1 == some e.2.2)) = true := by decide +kernel
theorem q_lnk4 : q_mt4.all (fun q => q.2.2.2.2.2.2.2.all (fun e => q_ln e.2.1 == none || q_ln e.2.1 == some e.2.2)) = true := by decide +kernel
theorem q_lnk5 : q_mt5.all (fun q => q.2.2.2.2.2.2.2.all (fun e => q_ln e.2.1 == none || q_ln e.2.1 == some e.2.2)) = true := by decide +kernel
theorem q_lnk6 : q_mt6.all (fun q => q.2.2.2.2.2.2.2.all (fun e => q_ln e.2.1 == none || q_ln e.2.1 == some e.2.2)) = true := by decide +kernel
theorem q_lnk7 : q_mt7.all (fun q => q.2.2.2.2.2.2.2.all (fun e => q_ln e.2.1 == none || q_ln e.2.1 == some e.2.2)) = true := by decide +kernel
theorem q_lnk8 : q_mt8.all (fun q => q.2.2.2.2.2.2.2.all (fun e => q_ln e.2.1 == none || q_ln e.2.1 == some e.2.2)) = true := by decide +kernel
theorem q_lnk9 : q_mt9.all (fun q => q.2.2.2.2.2.2.2.all (fun e => q_ln e.2.1 == none || q_ln e.2.1 == some e.2.2)) = true := by decide +kernel
theorem q_lnk10 : q_mt10.all (fun q => q.2.2.2.2.2.2.2.all (fun e => q_ln e.2.1 == none || q_ln e.2.1 == some e.2.2)) = true := by decide +kernel
theorem q_lnk11 : q_mt11.all (fun q => q.2.2.2.2.2.2.2.all (fun e => q_ln e.2.1 == none || q_ln e.2.1 == some e.2.2)) = true := by decide +kernel
theorem q_lnk12 : q_mt12.all (fun q => q.2.2.2.2.2.2.2.all (fun e => q_ln e.2.1 == none || q_ln e.2.1 == some e.2.2)) = true := by decide +kernel
theorem q_lnk13 : q_mt13.all (fun q => q.2.2.2.2.2.2.2.all (fun e => q_ln e.2.1 == none || q_ln e.2.1 == some e.2.2)) = true := by decide +kernel
theorem q_lnk14 : q_mt14.all (fun q => q.2.2.2.2.2.2.2.all (fun e => q_ln e.2.1 == none || q_ln e.2.1 == some e.2.2)) = true := by decide +kernel
theorem q_lnA : ∀ q ∈ q_MT, q.2.2.2.2.2.2.2.all (fun e => q_ln e.2.1 == none || q_ln e.2.1 == some e.2.2) = true := by
  intro q h
  unfold q_MT at h
  simp only [List.mem_append] at h
  rcases h with h | h | h | h | h | h | h | h | h | h | h | h | h | h | h
  · exact List.all_eq_true.mp q_lnk0 q h
  · exact List.all_eq_true.mp q_lnk1 q h
  · exact List.all_eq_true.mp q_lnk2 q h
  · exact List.all_eq_true.mp q_lnk3 q h
  · exact List.all_eq_true.mp q_lnk4 q h
  · exact List.all_eq_true.mp q_lnk5 q h
  · exact List.all_eq_true.mp q_lnk6 q h
  · exact List.all_eq_true.mp q_lnk7 q h
  · exact List.all_eq_true.mp q_lnk8 q h
  · exact List.all_eq_true.mp q_lnk9 q h
  · exact List.all_eq_true.mp q_lnk10 q h
  · exact List.all_eq_true.mp q_lnk11 q h
  · exact List.all_eq_true.mp q_lnk12 q h
  · exact List.all_eq_true.mp q_lnk13 q h
  · exact List.all_eq_true.mp q_lnk14 q h
theorem q_fe_dc {k pc : Nat} {ins : Instr} (h : q_fe k pc = some ins) : q_dc (q_m k).2.1 pc ins := by
  unfold q_fe at h
  have key : ∀ q : q_Me, q ∈ q_MT → ((q.2.2.2.2.2.2.2.find? (fun e => e.1 == pc)).map (fun e => e.2.1)) = some ins → q_dc q.2.1 pc ins := by
    intro q hq h
    cases hf : q.2.2.2.2.2.2.2.find? (fun e => e.1 == pc) with
    | none => rw [hf] at h; cases h
    | some e =>
      rw [hf] at h
      cases h
      have h1 := List.mem_of_find?_eq_some hf
      have h2 : e.1 = pc := by simpa using List.find?_some hf
      have h3 := List.all_eq_true.mp (q_MTd q hq) e h1
      have h4 := List.all_eq_true.mp (q_lnA q hq) e h1
      simp only [decide_eq_true_eq] at h3
      rw [h2] at h3
      simp only [Bool.or_eq_true, beq_iff_eq] at h4
      exact ⟨e.2.2, h3, h4⟩
  unfold q_m at h ⊢
  cases hk : q_MA[k]? with
  | none => rw [hk] at h; cases h
  | some q =>
    rw [hk] at h
    have h1 := List.mem_of_getElem? hk
    unfold q_MA at h1
    rcases List.mem_append.mp h1 with h1 | h1
    · exact key q h1 h
    · exfalso
      unfold q_MS at h1
      simp only [List.mem_cons, List.not_mem_nil, or_false] at h1
      rcases h1 with rfl | rfl | rfl <;> cases h
theorem q_me1_mem : q_me1 ∈ q_MA := List.mem_append_left _ (List.mem_append_left _ (List.mem_of_getElem? (i := 1) rfl))
/-- what the tables say of a method -/
theorem q_mfacts (k : Nat) : Cond.code (q_m k).1 (q_m k).2.1 (q_m k).2.2.1 (q_m k).2.2.2.1 ∈ lw_tbl ∧ (if q_stc k = true then Cond.static (q_nm k) else Cond.instanceMethod (q_nm k)) ∈ lw_tbl ∧ plainFor (q_nm k) = true ∧
    (q_nm k).cls = q_cn (q_ow k) ∧ (parseMethodDescriptor (q_nm k).desc).map (fun d => d.parameters.length) = some (if q_stc k = true then q_na k else q_na k - 1) ∧ q_ml k ≤ 40 ∧ q_ow k < 16 ∧ (q_stc k = true ∨ 0 < q_na k) := by
  have key : ∀ q : q_Me, q ∈ q_MA → Cond.code q.1 q.2.1 q.2.2.1 q.2.2.2.1 ∈ lw_tbl ∧ (if q.2.2.2.2.2.2.1 = true then Cond.static q.1 else Cond.instanceMethod q.1) ∈ lw_tbl ∧ plainFor q.1 = true ∧
      q.1.cls = q_cn q.2.2.2.2.1 ∧ (parseMethodDescriptor q.1.desc).map (fun d => d.parameters.length) = some (if q.2.2.2.2.2.2.1 = true then q.2.2.2.2.2.1 else q.2.2.2.2.2.1 - 1) ∧ q.2.2.1 ≤ 40 ∧ q.2.2.2.2.1 < 16 ∧ (q.2.2.2.2.2.2.1 = true ∨ 0 < q.2.2.2.2.2.1) := by
    intro q hq
    have h1 := q_awA q hq
    simp only [Bool.and_eq_true, Bool.or_eq_true, decide_eq_true_eq] at h1
    exact ⟨q_cwA q hq, q_kwA q hq, q_pfA q hq, h1.1.1.1.1, h1.1.1.1.2, h1.1.1.2, h1.1.2, h1.2⟩
  unfold q_stc q_na q_ml q_ow q_nm q_m
  cases hk : q_MA[k]? with
  | none => exact key q_me1 q_me1_mem
  | some q => exact key q (List.mem_of_getElem? hk)
def q_rm (d mc ms : Nat) : Room := { frames := d, cells := mc, slots := ms, locals := 64 * d }
def q_ws (k : Nat) : List Cond := Cond.code (q_m k).1 (q_m k).2.1 (q_m k).2.2.1 (q_m k).2.2.2.1 :: q_UW
/-- what is said beside the words: nest mates, the array of rules, the two text constants -/
def q_NS (a0 a1 : Nat) (U : State) : Prop := (∀ own idx k : Nat, q_lk (q_nT own) idx = some k → va_Nw (.methodLinkNest (q_cn own) idx (q_nm k) "RewriteDesk") U) ∧ va_AO RX6 U ∧ vk_R (q_cn 9) 25 q_s0 a0 U ∧ vk_R (q_cn 9) 87 q_s1 a1 U
theorem q_NS.warm {a0 a1 : Nat} {s U : State} (hW : s.WarmedH U.vm) (h : q_NS a0 a1 s) : q_NS a0 a1 U :=
  ⟨fun own idx k hk => va_Nw.warmM hW (h.1 own idx k hk), va_AO.moved hW.alike h.2.1, vk_R.warm hW h.2.2.1, vk_R.warm hW h.2.2.2⟩
theorem q_NS.same {a0 a1 : Nat} {s U : State} (hv : U.vm = s.vm) (h : q_NS a0 a1 s) : q_NS a0 a1 U :=
  ⟨fun own idx k hk => va_Nw.same rfl hv.symm (h.1 own idx k hk), va_AO.moved (by rw [hv]; exact Vm.Alike.refl _) h.2.1, vk_R.same hv h.2.2.1, vk_R.same hv h.2.2.2⟩
def q_len : List Nat := [q_tx0.length, q_tx1.length]
def q_byt : List (List Int32) := [q_tx0, q_tx1]
def q_Pw (D : va_G) (B : Nat) (aS aV : Nat → Nat) (tc : Nat → ClassId) (h : q_Hp) (U : State) : Prop :=
  U.heap.size = B + 1 + qN h ∧ qN h < 2 ^ 30 ∧ va_P D q_CL (q_wl (q_ad B aS) tc h) U.heap ∧ va_K D q_CL (q_tys tc) U ∧ q_NS (aS 0) (aS 1) U ∧ vk_S 2 q_len q_byt aS aV (fun q => B < q) U U.heap
def q_Qc (D : va_G) (B : Nat) (aS : Nat → Nat) (tc : Nat → ClassId) (r : Option Value) (h : q_Hp) : Array Value → State → Outcome → State → Prop := fun _ st oc t =>
  oc = .returned (r.map (q_cv (q_ad B aS))) ∧ va_P D q_CL (q_wl (q_ad B aS) tc h) t.heap ∧ qN h < 2 ^ 30 ∧ va_F (fun q => B < q) st t
/-- a method's contract, as the small machine has it -/
def q_Ct (l : Launch) (D : va_G) (B : Nat) (aS aV : Nat → Nat) (tc : Nat → ClassId) (d k : Nat) (args : List Value) (h : q_Hp) (r : Option Value) (h' : q_Hp) : Prop :=
  Met l (q_nm k) (q_ws k) (q_rm d (qN h' - qN h) (qZ h' - qZ h)) (va_Pc (args.map (q_cv (q_ad B aS))) (q_Pw D B aS aV tc h)) (q_Qc D B aS tc r h') (qN h' - qN h) (qZ h' - qZ h) (fun q => B < q)
theorem q_Pw.blind {D : va_G} {B : Nat} {aS aV : Nat → Nat} {tc : Nat → ClassId} {h : q_Hp} {av : List Value} : FrameBlind (va_Pc av (q_Pw D B aS aV tc h)) := by
  intro a U g mk q
  obtain ⟨q0, q1, q2, q3, q4, q5, q6⟩ := q
  exact ⟨q0, q1, q2, q3, va_K.moved (u := U) (U := U.calling g mk a) (Vm.Alike.refl U.vm) q4, q_NS.same (U := U.calling g mk a) rfl q5, vk_S.moved (u := U) (U := U.calling g mk a) (Vm.Alike.refl U.vm) q6⟩
-- how the heap grows
theorem q_go_h {ins : Instr} {pc pc' : Nat} {L L' : q_Lc} {st st' : List Value} {h h' : q_Hp} (e0 : q_go ins pc L st h = some (pc', L', st', h')) : h' = h ∧ L'.length = L.length := by
  cases ins
  case goto off => obtain ⟨_, rfl, _, rfl⟩ := q_jmp_spec e0; exact ⟨rfl, rfl⟩
  case ifCond cd off =>
    simp only [q_go] at e0
    split at e0
    next => obtain ⟨_, _, rfl, _, rfl, _⟩ := q_br_spec e0; exact ⟨rfl, rfl⟩
    next => cases e0
  case if_icmp cd off =>
    simp only [q_go] at e0
    split at e0
    next => obtain ⟨_, _, rfl, _, rfl, _⟩ := q_br_spec e0; exact ⟨rfl, rfl⟩
    next => cases e0
  case tableswitch dflt lo hi offs =>
    simp only [q_go] at e0
    split at e0
    next =>
      split at e0
      next => obtain ⟨_, rfl, _, rfl⟩ := q_jmp_spec e0; exact ⟨rfl, rfl⟩
      next =>
        split at e0
        next => obtain ⟨_, rfl, _, rfl⟩ := q_jmp_spec e0; exact ⟨rfl, rfl⟩
        next => cases e0
    next => cases e0
  case lookupswitch dflt ps =>
    simp only [q_go] at e0
    split at e0
    next =>
      split at e0
      next => obtain ⟨_, rfl, _, rfl⟩ := q_jmp_spec e0; exact ⟨rfl, rfl⟩
      next => cases e0
    next => cases e0
  all_goals cases e0
theorem q_hea_mono {own : Nat} {ini : Bool} {d : Nat} {ins : Instr} {st st' : List Value} {h h' : q_Hp} {n : Nat} (e0 : q_hea own ini d ins st h = some (n, st', h')) : qN h ≤ qN h' ∧ qZ h ≤ qZ h' := by
  have z : ∀ x : q_Hp, qN x = qN h → qZ x = qZ h → qN h ≤ qN x ∧ qZ h ≤ qZ x := fun x e1 e2 => ⟨by rw [e1]; exact Nat.le_refl _, by rw [e2]; exact Nat.le_refl _⟩
  have zn : ∀ cd len : Nat, qN h ≤ qN (q_al h cd len) ∧ qZ h ≤ qZ (q_al h cd len) := fun cd len => ⟨Nat.le_succ _, Nat.le_add_right _ _⟩
  cases ins
  case getfield =>
    simp only [q_hea] at e0
    (repeat' split at e0) <;> first | (cases e0; done) | (cases e0; exact z _ rfl rfl) | (cases e0; exact zn _ _)
  case putfield =>
    simp only [q_hea] at e0
    (repeat' split at e0) <;> first | (cases e0; done) | (cases e0; exact z _ rfl rfl) | (cases e0; exact zn _ _)
  case iaload =>
    simp only [q_hea] at e0
    (repeat' split at e0) <;> first | (cases e0; done) | (cases e0; exact z _ rfl rfl) | (cases e0; exact zn _ _)
  case baload =>
    simp only [q_hea] at e0
    (repeat' split at e0) <;> first | (cases e0; done) | (cases e0; exact z _ rfl rfl) | (cases e0; exact zn _ _)
  case laload =>
    simp only [q_hea] at e0
    (repeat' split at e0) <;> first | (cases e0; done) | (cases e0; exact z _ rfl rfl) | (cases e0; exact zn _ _)
  case aaload =>
    simp only [q_hea] at e0
    (repeat' split at e0) <;> first | (cases e0; done) | (cases e0; exact z _ rfl rfl) | (cases e0; exact zn _ _)
  case iastore =>
    simp only [q_hea] at e0
    (repeat' split at e0) <;> first | (cases e0; done) | (cases e0; exact z _ rfl rfl) | (cases e0; exact zn _ _)
  case bastore =>
    simp only [q_hea] at e0
    (repeat' split at e0) <;> first | (cases e0; done) | (cases e0; exact z _ rfl rfl) | (cases e0; exact zn _ _)
  case lastore =>
    simp only [q_hea] at e0
    (repeat' split at e0) <;> first | (cases e0; done) | (cases e0; exact z _ rfl rfl) | (cases e0; exact zn _ _)
  case aastore =>
    simp only [q_hea] at e0
    (repeat' split at e0) <;> first | (cases e0; done) | (cases e0; exact z _ rfl rfl) | (cases e0; exact zn _ _)
  case arraylength =>
    simp only [q_hea] at e0
    (repeat' split at e0) <;> first | (cases e0; done) | (cases e0; exact z _ rfl rfl) | (cases e0; exact zn _ _)
  case new =>
    simp only [q_hea] at e0
    (repeat' split at e0) <;> first | (cases e0; done) | (cases e0; exact z _ rfl rfl) | (cases e0; exact zn _ _)
  case newarray =>
    simp only [q_hea] at e0
    (repeat' split at e0) <;> first | (cases e0; done) | (cases e0; exact z _ rfl rfl) | (cases e0; exact zn _ _)
  case anewarray =>
    simp only [q_hea] at e0
    (repeat' split at e0) <;> first | (cases e0; done) | (cases e0; exact z _ rfl rfl) | (cases e0; exact zn _ _)
  case invokespecial =>
    simp only [q_hea] at e0
    (repeat' split at e0) <;> first | (cases e0; done) | (cases e0; exact z _ rfl rfl) | (cases e0; exact zn _ _)
  case invokestatic =>
    simp only [q_hea] at e0
    (repeat' split at e0) <;> first | (cases e0; done) | (cases e0; exact z _ rfl rfl) | (cases e0; exact zn _ _)
  all_goals cases e0
theorem q_stp_mono {own : Nat} {ini : Bool} {d : Nat} {ins : Instr} {pc pc' : Nat} {L L' : q_Lc} {st st' : List Value} {h h' : q_Hp} (e0 : q_stp own ini d ins pc L st h = some (pc', L', st', h')) : qN h ≤ qN h' ∧ qZ h ≤ qZ h' := by
  unfold q_stp at e0
  split at e0
  next => cases e0; exact ⟨Nat.le_refl _, Nat.le_refl _⟩
  next =>
    split at e0
    next => cases e0; exact ⟨Nat.le_refl _, Nat.le_refl _⟩
    next =>
      split at e0
      next hg => cases e0; obtain ⟨rfl, _⟩ := q_go_h hg; exact ⟨Nat.le_refl _, Nat.le_refl _⟩
      next =>
        split at e0
        next hh => cases e0; exact q_hea_mono hh
        next => cases e0
theorem q_bi_h {k : Nat} {args : List Value} {h h' : q_Hp} {r : Option Value} (e : q_bi k args h = some (r, h')) : h' = h := by
  unfold q_bi at e
  (repeat' split at e) <;> first | (cases e; done) | (cases e; rfl)
theorem q_mono : ∀ (f d k pc : Nat) (L : q_Lc) (st : List Value) (h : q_Hp) (r : Option Value) (h' : q_Hp), q_run f d k pc L st h = some (r, h') → qN h ≤ qN h' ∧ qZ h ≤ qZ h' := by
  intro f
  induction f with
  | zero => intro d k pc L st h r h' e; cases e
  | succ f ih =>
    intro d k pc L st h r h' e
    unfold q_run at e
    split at e
    next => cases e
    next ins hfe =>
      split at e
      next => cases e; exact ⟨Nat.le_refl _, Nat.le_refl _⟩
      next =>
        split at e
        next k' hcal =>
          split at e
          next => cases e
          next d' =>
            split at e
            next =>
              split at e
              next r1 h1 hin =>
                have h2 := ih _ _ _ _ _ _ _ _ e
                have h3 : qN h ≤ qN h1 ∧ qZ h ≤ qZ h1 := by
                  split at hin
                  next => exact ih _ _ _ _ _ _ _ _ hin
                  next =>
                    split at hin
                    next => rw [q_bi_h hin]; exact ⟨Nat.le_refl _, Nat.le_refl _⟩
                    next => cases hin
                exact ⟨Nat.le_trans h3.1 h2.1, Nat.le_trans h3.2 h2.2⟩
              next => cases e
            next => cases e
        next =>
          split at e
          next hs =>
            have h2 := ih _ _ _ _ _ _ _ _ e
            have h3 := q_stp_mono hs
            exact ⟨Nat.le_trans h3.1 h2.1, Nat.le_trans h3.2 h2.2⟩
          next => cases e
