/-! THE SMALL MACHINE IS THE MACHINE, first half: what works on the stack, the locals and the place alone -/
def q_ad (B : Nat) (aS : Nat → Nat) (a : Nat) : Nat := if a < 2 ^ 30 then B + a else aS (a - 2 ^ 30)
def q_cv (ad : Nat → Nat) (v : Value) : Value := match v with
  | .ref a => if a = 0 then .null else .ref (ad a)
  | v => v
def q_ln (ins : Instr) : Option Nat := match ins with
  | .tableswitch .. => none
  | .lookupswitch .. => none
  | .bipush _ => some 2
  | .ldc _ => some 2
  | .iload _ => some 2
  | .lload _ => some 2
  | .aload _ => some 2
  | .istore _ => some 2
  | .lstore _ => some 2
  | .astore _ => some 2
  | .newarray _ => some 2
  | .sipush _ => some 3
  | .ldc2_w _ => some 3
  | .iinc _ _ => some 3
  | .goto _ => some 3
  | .ifCond _ _ => some 3
  | .if_icmp _ _ => some 3
  | .getfield _ => some 3
  | .putfield _ => some 3
  | .invokevirtual _ => some 3
  | .invokespecial _ => some 3
  | .invokestatic _ => some 3
  | .new _ => some 3
  | .anewarray _ => some 3
  | _ => some 1
def q_dc (cc : ByteArray) (pc : Nat) (ins : Instr) : Prop := ∃ len, decode cc pc = .ok (ins, len) ∧ (q_ln ins = none ∨ q_ln ins = some len)
theorem q_dc1 {cc : ByteArray} {pc n : Nat} {ins : Instr} (h : q_dc cc pc ins) (hn : q_ln ins = some n) : decode cc pc = .ok (ins, n) := by
  obtain ⟨len, h1, h2⟩ := h
  rw [hn] at h2
  rcases h2 with h2 | h2
  · cases h2
  · cases h2; exact h1
section QA
variable {p : Program} {l : Launch} {e : Env} {R : Room} {s : State} {m : MethodId} {args : Array Value} {below : List Frame} {meth : Method} {c : Code} {H : Heap} {locs : List Loc} {cells slots : Nat} {Q : State → Prop}
variable {cc : ByteArray} {pc : Nat} {ls : Array Slot} {rest : List Value} {ad : Nat → Nat}
theorem q_rowI2 (hx : p.tables.exec = Jvm.exec) (hb : c.code = cc) {ins : Instr} {f : Int32 → Int32 → Int32} (h : q_i2 ins = some f) {x y : Int32} (hd : q_dc cc pc ins)
    (k : W p l e R s m args below meth c H locs cells slots Q (F0 m (pc + 1) ls (.int (f x y) :: rest))) : W p l e R s m args below meth c H locs cells slots Q (F0 m pc ls (.int y :: .int x :: rest)) := by
  cases ins
  case iadd => cases h; exact lv_iadd hx hb (q_dc1 hd rfl) k
  case isub => cases h; exact lv_isub hx hb (q_dc1 hd rfl) k
  case imul => cases h; exact lv_imul hx hb (q_dc1 hd rfl) k
  case iand => cases h; exact lv_iand hx hb (q_dc1 hd rfl) k
  case ior => cases h; exact lv_ior hx hb (q_dc1 hd rfl) k
  case ixor => cases h; exact lv_ixor hx hb (q_dc1 hd rfl) k
  case ishl => cases h; exact lv_ishl hx hb (q_dc1 hd rfl) k
  case ishr => cases h; exact lv_ishr hx hb (q_dc1 hd rfl) k
  all_goals cases h
theorem q_rowL2 (hx : p.tables.exec = Jvm.exec) (hb : c.code = cc) {ins : Instr} {f : Int64 → Int64 → Int64} (h : q_l2 ins = some f) {x y : Int64} (hd : q_dc cc pc ins)
    (k : W p l e R s m args below meth c H locs cells slots Q (F0 m (pc + 1) ls (.long (f x y) :: rest))) : W p l e R s m args below meth c H locs cells slots Q (F0 m pc ls (.long y :: .long x :: rest)) := by
  cases ins
  case ladd => cases h; exact lv_ladd hx hb (q_dc1 hd rfl) k
  case lsub => cases h; exact lv_lsub hx hb (q_dc1 hd rfl) k
  case lmul => cases h; exact lv_lmul hx hb (q_dc1 hd rfl) k
  case land => cases h; exact lv_land hx hb (q_dc1 hd rfl) k
  case lor => cases h; exact lv_lor hx hb (q_dc1 hd rfl) k
  all_goals cases h
theorem q_cat_ref (ad : Nat → Nat) (x : Nat) : (q_cv ad (.ref x)).category = 1 := by
  show Value.category (if x = 0 then Value.null else Value.ref (ad x)) = 1
  split <;> rfl
theorem q_rowIf (hx : p.tables.exec = Jvm.exec) (hb : c.code = cc) {cd : ClassFile.Cond} {off : Int} {x : Int32} {tgt : Nat} (ht : (pc : Int) + off = (tgt : Int)) (hd : q_dc cc pc (.ifCond cd off))
    (kt : q_ic cd x = true → W p l e R s m args below meth c H locs cells slots Q (F0 m tgt ls rest)) (kf : q_ic cd x = false → W p l e R s m args below meth c H locs cells slots Q (F0 m (pc + 3) ls rest)) : W p l e R s m args below meth c H locs cells slots Q (F0 m pc ls (.int x :: rest)) := by
  have hd := q_dc1 hd rfl
  cases cd
  · exact lv_if_eq hx hb hd ht (fun h => kt (decide_eq_true h)) (fun h => kf (decide_eq_false h))
  · exact lv_if_ne hx hb hd ht (fun h => kt (decide_eq_true h)) (fun h => kf (decide_eq_false (fun h2 => h2 h)))
  · exact lv_if_lt hx hb hd ht (fun h => kt (decide_eq_true h)) (fun h => kf (decide_eq_false h))
  · exact lv_if_ge hx hb hd ht (fun h => kt (decide_eq_true h)) (fun h => kf (decide_eq_false h))
  · exact lv_if_gt hx hb hd ht (fun h => kt (decide_eq_true h)) (fun h => kf (decide_eq_false h))
  · exact lv_if_le hx hb hd ht (fun h => kt (decide_eq_true h)) (fun h => kf (decide_eq_false h))
theorem q_rowIc (hx : p.tables.exec = Jvm.exec) (hb : c.code = cc) {cd : ClassFile.Cond} {off : Int} {x y : Int32} {tgt : Nat} (ht : (pc : Int) + off = (tgt : Int)) (hd : q_dc cc pc (.if_icmp cd off))
    (kt : q_icc cd x y = true → W p l e R s m args below meth c H locs cells slots Q (F0 m tgt ls rest)) (kf : q_icc cd x y = false → W p l e R s m args below meth c H locs cells slots Q (F0 m (pc + 3) ls rest)) : W p l e R s m args below meth c H locs cells slots Q (F0 m pc ls (.int y :: .int x :: rest)) := by
  have hd := q_dc1 hd rfl
  cases cd
  · exact lv_icmp_eq hx hb hd ht (fun h => kt (decide_eq_true h)) (fun h => kf (decide_eq_false h))
  · exact lv_icmp_ne hx hb hd ht (fun h => kt (decide_eq_true h)) (fun h => kf (decide_eq_false (fun h2 => h2 h)))
  · exact lv_icmp_lt hx hb hd ht (fun h => kt (decide_eq_true h)) (fun h => kf (decide_eq_false h))
  · exact lv_icmp_ge hx hb hd ht (fun h => kt (decide_eq_true h)) (fun h => kf (decide_eq_false h))
  · exact lv_icmp_gt hx hb hd ht (fun h => kt (decide_eq_true h)) (fun h => kf (decide_eq_false h))
  · exact lv_icmp_le hx hb hd ht (fun h => kt (decide_eq_true h)) (fun h => kf (decide_eq_false h))
theorem q_jmp_spec {pc pc' : Nat} {off : Int} {L L' : q_Lc} {st st' : List Value} {h h' : q_Hp} (e : q_jmp pc off L st h = some (pc', L', st', h')) : (pc : Int) + off = (pc' : Int) ∧ L' = L ∧ st' = st ∧ h' = h := by
  unfold q_jmp at e
  split at e
  next h0 => cases e; exact ⟨by omega, rfl, rfl, rfl⟩
  next => cases e
theorem q_br_spec {cd : Bool} {pc pc' : Nat} {off : Int} {L L' : q_Lc} {st st' : List Value} {h h' : q_Hp} (e : q_br cd pc off L st h = some (pc', L', st', h')) :
    ∃ tgt : Nat, (pc : Int) + off = (tgt : Int) ∧ L' = L ∧ st' = st ∧ h' = h ∧ ((cd = true ∧ pc' = tgt) ∨ (cd = false ∧ pc' = pc + 3)) := by
  unfold q_br at e
  split at e
  next h0 =>
    refine ⟨((pc : Int) + off).toNat, by omega, ?_⟩
    cases cd
    · cases e; exact ⟨rfl, rfl, rfl, Or.inr ⟨rfl, rfl⟩⟩
    · cases e; exact ⟨rfl, rfl, rfl, Or.inl ⟨rfl, rfl⟩⟩
  next => cases e
theorem q_simGo (hx : p.tables.exec = Jvm.exec) (hb : c.code = cc) {ins : Instr} {L L' : q_Lc} {st st' : List Value} {h h' : q_Hp} {pc' : Nat} (e0 : q_go ins pc L st h = some (pc', L', st', h')) (hd : q_dc cc pc ins)
    (k : L' = L → h' = h → W p l e R s m args below meth c H locs cells slots Q (F0 m pc' ls (st'.map (q_cv ad)))) : W p l e R s m args below meth c H locs cells slots Q (F0 m pc ls (st.map (q_cv ad))) := by
  cases ins
  case goto off =>
    obtain ⟨ht, rfl, rfl, rfl⟩ := q_jmp_spec e0
    exact lv_goto hx hb (q_dc1 hd rfl) ht (k rfl rfl)
  case ifCond cd off =>
    simp only [q_go] at e0
    split at e0
    next x st =>
      show W p l e R s m args below meth c H locs cells slots Q (F0 m pc ls (.int x :: st.map (q_cv ad)))
      obtain ⟨tgt, ht, rfl, rfl, rfl, hc⟩ := q_br_spec e0
      rcases hc with ⟨hc, rfl⟩ | ⟨hc, rfl⟩
      · exact q_rowIf hx hb ht hd (fun _ => k rfl rfl) (fun h9 => by rw [hc] at h9; cases h9)
      · exact q_rowIf hx hb ht hd (fun h9 => by rw [hc] at h9; cases h9) (fun _ => k rfl rfl)
    next => cases e0
  case if_icmp cd off =>
    simp only [q_go] at e0
    split at e0
    next y x st =>
      show W p l e R s m args below meth c H locs cells slots Q (F0 m pc ls (.int y :: .int x :: st.map (q_cv ad)))
      obtain ⟨tgt, ht, rfl, rfl, rfl, hc⟩ := q_br_spec e0
      rcases hc with ⟨hc, rfl⟩ | ⟨hc, rfl⟩
      · exact q_rowIc hx hb ht hd (fun _ => k rfl rfl) (fun h9 => by rw [hc] at h9; cases h9)
      · exact q_rowIc hx hb ht hd (fun h9 => by rw [hc] at h9; cases h9) (fun _ => k rfl rfl)
    next => cases e0
  case tableswitch dflt lo hi offs =>
    simp only [q_go] at e0
    obtain ⟨len, hd, -⟩ := hd
    split at e0
    next x st =>
      show W p l e R s m args below meth c H locs cells slots Q (F0 m pc ls (.int x :: st.map (q_cv ad)))
      split at e0
      next h1 =>
        obtain ⟨ht, rfl, rfl, rfl⟩ := q_jmp_spec e0
        exact lv_tableOut hx hb hd h1 ht (k rfl rfl)
      next h1 =>
        split at e0
        next off ho =>
          obtain ⟨ht, rfl, rfl, rfl⟩ := q_jmp_spec e0
          exact lv_tableIn hx hb hd (fun h => h1 (Or.inl h)) (fun h => h1 (Or.inr h)) ho ht (k rfl rfl)
        next => cases e0
    next => cases e0
  case lookupswitch dflt ps =>
    simp only [q_go] at e0
    obtain ⟨len, hd, -⟩ := hd
    split at e0
    next x st =>
      show W p l e R s m args below meth c H locs cells slots Q (F0 m pc ls (.int x :: st.map (q_cv ad)))
      split at e0
      next h1 =>
        obtain ⟨ht, rfl, rfl, rfl⟩ := q_jmp_spec e0
        exact lv_lookup hx hb hd h1 rfl ht (k rfl rfl)
      next => cases e0
    next => cases e0
  all_goals cases e0
theorem q_stkI (hx : p.tables.exec = Jvm.exec) (hb : c.code = cc) {ins : Instr} {f : Int32 → Int32 → Int32} (hf : q_i2 ins = some f) {st st' : List Value} {n : Nat} (hd : q_dc cc pc ins)
    (e0 : (match st with | .int y :: .int x :: st => some (1, .int (f x y) :: st) | _ => none) = some (n, st')) (k : W p l e R s m args below meth c H locs cells slots Q (F0 m (pc + n) ls (st'.map (q_cv ad)))) : W p l e R s m args below meth c H locs cells slots Q (F0 m pc ls (st.map (q_cv ad))) := by
  split at e0
  next y x st => cases e0; exact q_rowI2 hx hb hf hd k
  next => cases e0
theorem q_stkL (hx : p.tables.exec = Jvm.exec) (hb : c.code = cc) {ins : Instr} {f : Int64 → Int64 → Int64} (hf : q_l2 ins = some f) {st st' : List Value} {n : Nat} (hd : q_dc cc pc ins)
    (e0 : (match st with | .long y :: .long x :: st => some (1, .long (f x y) :: st) | _ => none) = some (n, st')) (k : W p l e R s m args below meth c H locs cells slots Q (F0 m (pc + n) ls (st'.map (q_cv ad)))) : W p l e R s m args below meth c H locs cells slots Q (F0 m pc ls (st.map (q_cv ad))) := by
  split at e0
  next y x st => cases e0; exact q_rowL2 hx hb hf hd k
  next => cases e0
theorem q_lkk_mem {α : Type} {l : List ((Nat × Nat) × α)} {i : Nat × Nat} {a : α} (h : q_lkk l i = some a) : (i, a) ∈ l := by
  induction l with
  | nil => cases h
  | cons e l ih =>
    unfold q_lkk at h
    split at h
    next h1 => cases h; subst h1; exact List.mem_cons_self
    next => exact List.mem_cons_of_mem _ (ih h)
theorem q_kT_ok {own i : Nat} {v : Int32} (h : q_lkk q_kT (own, i) = some v) : Cond.constant (q_cn own) i v ∈ lw_tbl := q_memT q_kTw (List.mem_map_of_mem (f := fun e : (Nat × Nat) × Int32 => Cond.constant (q_cn e.1.1) e.1.2 e.2) (q_lkk_mem h))
theorem q_k2T_ok {own i : Nat} {v : Int64} (h : q_lkk q_k2T (own, i) = some v) : Cond.constantLong (q_cn own) i v ∈ lw_tbl := q_memT q_k2Tw (List.mem_map_of_mem (f := fun e : (Nat × Nat) × Int64 => Cond.constantLong (q_cn e.1.1) e.1.2 e.2) (q_lkk_mem h))
def q_s0 : String := "type of sort rule proc end node link merge not if del new join set do all any call fail while loop try then else "
def q_s1 : String := ":;.,=<+-*()"
theorem q_simStk (hx : p.tables.exec = Jvm.exec) (hb : c.code = cc) {own : Nat} (hown : s.vm.findClass (q_cn own) = some m.cls) (hts : ∀ w ∈ lw_tbl, goodWord w = true → w.before args s = true) (hz0 : vk_R (q_cn 9) 25 q_s0 (ad (2 ^ 30)) s) (hz1 : vk_R (q_cn 9) 87 q_s1 (ad (2 ^ 30 + 1)) s)
    {ins : Instr} {st st' : List Value} {n : Nat} (e0 : q_stk own ins st = some (n, st')) (hd : q_dc cc pc ins)
    (k : W p l e R s m args below meth c H locs cells slots Q (F0 m (pc + n) ls (st'.map (q_cv ad)))) : W p l e R s m args below meth c H locs cells slots Q (F0 m pc ls (st.map (q_cv ad))) := by
  cases ins
  case iconst v => cases e0; exact lv_iconst hx hb (q_dc1 hd rfl) rfl k
  case bipush v => cases e0; exact lv_bipush hx hb (q_dc1 hd rfl) rfl k
  case sipush v => cases e0; exact lv_sipush hx hb (q_dc1 hd rfl) rfl k
  case lconst v => cases e0; exact lv_lconst hx hb (q_dc1 hd rfl) rfl k
  case ldc i =>
    simp only [q_stk] at e0
    split at e0
    next v hv => cases e0; exact lv_ldc hx hb hown (hts _ (q_kT_ok hv) rfl) (q_dc1 hd rfl) k
    next =>
      split at e0
      next h1 =>
        obtain ⟨rfl, rfl⟩ := h1
        cases e0
        exact va_ldcS hx hb hown hz0 (q_dc1 hd rfl) k
      next =>
        split at e0
        next h1 =>
          obtain ⟨rfl, rfl⟩ := h1
          cases e0
          exact va_ldcS hx hb hown hz1 (q_dc1 hd rfl) k
        next => cases e0
  case ldc2_w i =>
    simp only [q_stk] at e0
    split at e0
    next v hv => cases e0; exact lv_ldc2 hx hb hown (hts _ (q_k2T_ok hv) rfl) (q_dc1 hd rfl) k
    next => cases e0
  case irem =>
    simp only [q_stk] at e0
    split at e0
    next y x st =>
      split at e0
      next => cases e0
      next h1 => cases e0; exact lv_irem hx hb (q_dc1 hd rfl) h1 k
    next => cases e0
  case lcmp =>
    simp only [q_stk] at e0
    split at e0
    next => cases e0; exact W.lcmp hx hb (q_dc1 hd rfl) k
    next => cases e0
  case lneg =>
    simp only [q_stk] at e0
    split at e0
    next => cases e0; exact lv_lneg hx hb (q_dc1 hd rfl) k
    next => cases e0
  case lshl =>
    simp only [q_stk] at e0
    split at e0
    next => cases e0; exact lv_lshl hx hb (q_dc1 hd rfl) rfl k
    next => cases e0
  case lshr =>
    simp only [q_stk] at e0
    split at e0
    next => cases e0; exact lv_lshr hx hb (q_dc1 hd rfl) rfl k
    next => cases e0
  case i2l =>
    simp only [q_stk] at e0
    split at e0
    next => cases e0; exact lv_i2l hx hb (q_dc1 hd rfl) rfl k
    next => cases e0
  case l2i =>
    simp only [q_stk] at e0
    split at e0
    next => cases e0; exact lv_l2i hx hb (q_dc1 hd rfl) rfl k
    next => cases e0
  case i2b =>
    simp only [q_stk] at e0
    split at e0
    next => cases e0; exact lv_i2b hx hb (q_dc1 hd rfl) rfl k
    next => cases e0
  case i2c =>
    simp only [q_stk] at e0
    split at e0
    next => cases e0; exact lv_i2c hx hb (q_dc1 hd rfl) rfl k
    next => cases e0
  case dup =>
    simp only [q_stk] at e0
    split at e0
    next x st => cases e0; exact lv_dup (va := .int x) hx hb (q_dc1 hd rfl) rfl k
    next x st => cases e0; exact lv_dup (va := q_cv ad (.ref x)) hx hb (q_dc1 hd rfl) (q_cat_ref ad x) k
    next => cases e0
  case dup2 =>
    simp only [q_stk] at e0
    split at e0
    next y x st => cases e0; exact lv_dup2_11 (va := .int y) (vb := q_cv ad (.ref x)) hx hb (q_dc1 hd rfl) rfl (q_cat_ref ad x) k
    next => cases e0
  case pop =>
    simp only [q_stk] at e0
    split at e0
    next x st => cases e0; exact lv_pop (va := .int x) hx hb (q_dc1 hd rfl) rfl k
    next x st => cases e0; exact lv_pop (va := q_cv ad (.ref x)) hx hb (q_dc1 hd rfl) (q_cat_ref ad x) k
    next => cases e0
  case iadd => exact q_stkI hx hb rfl hd e0 k
  case isub => exact q_stkI hx hb rfl hd e0 k
  case imul => exact q_stkI hx hb rfl hd e0 k
  case iand => exact q_stkI hx hb rfl hd e0 k
  case ior => exact q_stkI hx hb rfl hd e0 k
  case ixor => exact q_stkI hx hb rfl hd e0 k
  case ishl => exact q_stkI hx hb rfl hd e0 k
  case ishr => exact q_stkI hx hb rfl hd e0 k
  case ladd => exact q_stkL hx hb rfl hd e0 k
  case lsub => exact q_stkL hx hb rfl hd e0 k
  case lmul => exact q_stkL hx hb rfl hd e0 k
  case land => exact q_stkL hx hb rfl hd e0 k
  case lor => exact q_stkL hx hb rfl hd e0 k
  all_goals cases e0
-- the locals
def q_lv (ad : Nat → Nat) (L : q_Lc) : List (Nat × Value) := (List.range L.length).filterMap (fun i => match L[i]? with
  | some (some v) => some (i, q_cv ad v)
  | _ => none)
theorem q_lv_mem {L : q_Lc} {q : Nat × Value} : q ∈ q_lv ad L ↔ ∃ v, L[q.1]? = some (some v) ∧ q.2 = q_cv ad v := by
  unfold q_lv
  rw [List.mem_filterMap]
  constructor
  · rintro ⟨i, hi, h⟩
    split at h
    next v hv => cases h; exact ⟨v, hv, rfl⟩
    next => cases h
  · rintro ⟨v, h1, h2⟩
    refine ⟨q.1, List.mem_range.mpr (List.getElem?_eq_some_iff.mp h1).1, ?_⟩
    rw [h1]
    show some (q.1, q_cv ad v) = some q
    rw [← h2]
theorem q_ld_some {L : q_Lc} {i : Nat} {v : Value} (h : q_ld L i = some v) : L[i]? = some (some v) := by
  unfold q_ld at h
  split at h
  next w hw => rw [hw, h]
  next => cases h
theorem q_lv_get {L : q_Lc} {nL i : Nat} {v : Value} (h : lv_has ls nL (q_lv ad L)) (hv : q_ld L i = some v) : ls[i]? = some (.val (q_cv ad v)) :=
  h.2.2 (i, q_cv ad v) (q_lv_mem.mpr ⟨v, q_ld_some hv, rfl⟩)
theorem q_clr_len (L : q_Lc) (i : Nat) : (q_clr L i).length = L.length := by
  unfold q_clr
  split
  · rfl
  · split <;> simp
theorem q_clr_get {L : q_Lc} {i j : Nat} {w : Value} (h : (q_clr L i)[j]? = some (some w)) : L[j]? = some (some w) ∧ ¬ (j + 1 = i ∧ w.category = 2) := by
  unfold q_clr at h
  split at h
  · exact ⟨h, fun h2 => absurd h2.1 (by omega)⟩
  next i =>
    split at h
    next x hx =>
      rw [List.getElem?_set] at h
      split at h
      next e1 =>
        split at h <;> cases h
      next e1 => exact ⟨h, fun h2 => e1 (by omega)⟩
    next x hx =>
      rw [List.getElem?_set] at h
      split at h
      next e1 =>
        split at h <;> cases h
      next e1 => exact ⟨h, fun h2 => e1 (by omega)⟩
    next h1 h2 =>
      refine ⟨h, fun h3 => ?_⟩
      obtain ⟨h3, h4⟩ := h3
      have h3 : j = i := by omega
      subst h3
      cases w with
      | long x => exact h1 x h
      | double x => exact h2 x h
      | _ => simp [Value.category] at h4
theorem q_set_len (L : q_Lc) (i : Nat) (v : Value) : (q_set L i v).length = L.length := by
  unfold q_set
  rw [List.length_set, q_clr_len]
theorem q_set2_len (L : q_Lc) (i : Nat) (v : Value) : (q_set2 L i v).length = L.length := by
  unfold q_set2
  rw [List.length_set, List.length_set, q_clr_len]
theorem q_cat_cv (ad : Nat → Nat) (v : Value) : (q_cv ad v).category = v.category := by
  cases v with
  | ref x => exact q_cat_ref ad x
  | _ => rfl
theorem q_lv_set {L : q_Lc} {nL i : Nat} {v : Value} {ls' : Array Slot} (h : lv_has ls' nL ((i, q_cv ad v) :: (q_lv ad L).filter (fun q => !(q.1 == i) && !(q.1 + 1 == i && q.2.category == 2)))) : lv_has ls' nL (q_lv ad (q_set L i v)) := by
  refine ⟨h.1, h.2.1, fun q hq => h.2.2 q ?_⟩
  obtain ⟨w, h1, h2⟩ := q_lv_mem.mp hq
  unfold q_set at h1
  rw [List.getElem?_set] at h1
  split at h1
  next e1 =>
    split at h1
    · cases h1
      obtain ⟨q1, q2⟩ := q
      cases e1
      cases h2
      exact List.mem_cons_self
    · cases h1
  next e1 =>
    obtain ⟨g1, g2⟩ := q_clr_get h1
    refine List.mem_cons_of_mem _ (List.mem_filter.mpr ⟨q_lv_mem.mpr ⟨w, g1, h2⟩, ?_⟩)
    rw [h2, q_cat_cv]
    simp only [Bool.and_eq_true, Bool.not_eq_true', beq_eq_false_iff_ne, ne_eq, Bool.and_eq_false_iff]
    refine ⟨fun h => e1 h.symm, ?_⟩
    by_cases h3 : q.1 + 1 = i
    · exact Or.inr fun h4 => g2 ⟨h3, h4⟩
    · exact Or.inl h3
theorem q_lv_set2 {L : q_Lc} {nL i : Nat} {v : Value} {ls' : Array Slot} (h : lv_has ls' nL ((i, q_cv ad v) :: (q_lv ad L).filter (fun q => !(q.1 == i) && (!(q.1 == i + 1) && !(q.1 + 1 == i && q.2.category == 2))))) : lv_has ls' nL (q_lv ad (q_set2 L i v)) := by
  refine ⟨h.1, h.2.1, fun q hq => h.2.2 q ?_⟩
  obtain ⟨w, h1, h2⟩ := q_lv_mem.mp hq
  unfold q_set2 at h1
  rw [List.getElem?_set] at h1
  split at h1
  next e0 => split at h1 <;> cases h1
  next e0 =>
  rw [List.getElem?_set] at h1
  split at h1
  next e1 =>
    split at h1
    · cases h1
      obtain ⟨q1, q2⟩ := q
      cases e1
      cases h2
      exact List.mem_cons_self
    · cases h1
  next e1 =>
    obtain ⟨g1, g2⟩ := q_clr_get h1
    refine List.mem_cons_of_mem _ (List.mem_filter.mpr ⟨q_lv_mem.mpr ⟨w, g1, h2⟩, ?_⟩)
    rw [h2, q_cat_cv]
    simp only [Bool.and_eq_true, Bool.not_eq_true', beq_eq_false_iff_ne, ne_eq, Bool.and_eq_false_iff]
    refine ⟨fun h => e1 h.symm, fun h => e0 h.symm, ?_⟩
    by_cases h3 : q.1 + 1 = i
    · exact Or.inr fun h4 => g2 ⟨h3, h4⟩
    · exact Or.inl h3
theorem q_simLoc (hx : p.tables.exec = Jvm.exec) (hb : c.code = cc) {ins : Instr} {L L' : q_Lc} {st st' : List Value} {n : Nat} (e0 : q_loc ins L st = some (n, L', st')) (hd : q_dc cc pc ins) (hl : lv_has ls L.length (q_lv ad L))
    (k : L'.length = L.length → ∀ ls' : Array Slot, lv_has ls' L'.length (q_lv ad L') → W p l e R s m args below meth c H locs cells slots Q (F0 m (pc + n) ls' (st'.map (q_cv ad)))) : W p l e R s m args below meth c H locs cells slots Q (F0 m pc ls (st.map (q_cv ad))) := by
  cases ins
  case iload i =>
    simp only [q_loc] at e0
    split at e0
    next x hv => cases e0; exact lv_iload hx hb (q_dc1 hd rfl) (q_lv_get hl hv) (k rfl ls hl)
    next => cases e0
  case iload_n i =>
    simp only [q_loc] at e0
    split at e0
    next x hv => cases e0; exact lv_iload_n hx hb (q_dc1 hd rfl) rfl (q_lv_get hl hv) (k rfl ls hl)
    next => cases e0
  case lload i =>
    simp only [q_loc] at e0
    split at e0
    next x hv => cases e0; exact lv_lload hx hb (q_dc1 hd rfl) (q_lv_get hl hv) (k rfl ls hl)
    next => cases e0
  case lload_n i =>
    simp only [q_loc] at e0
    split at e0
    next x hv => cases e0; exact lv_lload_n hx hb (q_dc1 hd rfl) rfl (q_lv_get hl hv) (k rfl ls hl)
    next => cases e0
  case aload i =>
    simp only [q_loc] at e0
    split at e0
    next x hv =>
      cases e0
      have hg := q_lv_get hl hv
      have hk := k rfl ls hl
      simp only [List.map_cons, q_cv] at hg hk
      split at hg
      next h0 => rw [if_pos h0] at hk; exact lv_aloadN hx hb (q_dc1 hd rfl) hg hk
      next h0 => rw [if_neg h0] at hk; exact lv_aload hx hb (q_dc1 hd rfl) hg hk
    next => cases e0
  case aload_n i =>
    simp only [q_loc] at e0
    split at e0
    next x hv =>
      cases e0
      have hg := q_lv_get hl hv
      have hk := k rfl ls hl
      simp only [List.map_cons, q_cv] at hg hk
      split at hg
      next h0 => rw [if_pos h0] at hk; exact lv_aload_nN hx hb (q_dc1 hd rfl) rfl hg hk
      next h0 => rw [if_neg h0] at hk; exact lv_aload_n hx hb (q_dc1 hd rfl) rfl hg hk
    next => cases e0
  case istore i =>
    simp only [q_loc] at e0
    split at e0
    next x st =>
      split at e0
      next h1 => cases e0; exact lv_istore hx hb (q_dc1 hd rfl) hl h1 rfl (fun ls' h' => k (q_set_len _ _ _) ls' (by rw [q_set_len]; exact q_lv_set (v := .int x) h'))
      next => cases e0
    next => cases e0
  case istore_n i =>
    simp only [q_loc] at e0
    split at e0
    next x st =>
      split at e0
      next h1 => cases e0; exact lv_istore_n hx hb (q_dc1 hd rfl) rfl hl h1 rfl (fun ls' h' => k (q_set_len _ _ _) ls' (by rw [q_set_len]; exact q_lv_set (v := .int x) h'))
      next => cases e0
    next => cases e0
  case lstore i =>
    simp only [q_loc] at e0
    split at e0
    next x st =>
      split at e0
      next h1 => cases e0; exact lv_lstore hx hb (q_dc1 hd rfl) hl h1 rfl (fun ls' h' => k (q_set2_len _ _ _) ls' (by rw [q_set2_len]; exact q_lv_set2 (v := .long x) h'))
      next => cases e0
    next => cases e0
  case lstore_n i =>
    simp only [q_loc] at e0
    split at e0
    next x st =>
      split at e0
      next h1 => cases e0; exact lv_lstore_n hx hb (q_dc1 hd rfl) rfl hl h1 rfl (fun ls' h' => k (q_set2_len _ _ _) ls' (by rw [q_set2_len]; exact q_lv_set2 (v := .long x) h'))
      next => cases e0
    next => cases e0
  case astore i =>
    simp only [q_loc] at e0
    split at e0
    next x st =>
      split at e0
      next h1 =>
        cases e0
        have hk := fun (ls' : Array Slot) h' => k (q_set_len _ _ _) ls' (by rw [q_set_len]; exact q_lv_set (L := L) (i := i) (v := .ref x) h')
        rw [List.map_cons]
        simp only [q_cv] at hk ⊢
        split
        next h0 => rw [if_pos h0] at hk; exact lv_astoreN hx hb (q_dc1 hd rfl) hl h1 rfl hk
        next h0 => rw [if_neg h0] at hk; exact lv_astore hx hb (q_dc1 hd rfl) hl h1 rfl hk
      next => cases e0
    next => cases e0
  case astore_n i =>
    simp only [q_loc] at e0
    split at e0
    next x st =>
      split at e0
      next h1 =>
        cases e0
        have hk := fun (ls' : Array Slot) h' => k (q_set_len _ _ _) ls' (by rw [q_set_len]; exact q_lv_set (L := L) (i := i) (v := .ref x) h')
        rw [List.map_cons]
        simp only [q_cv] at hk ⊢
        split
        next h0 => rw [if_pos h0] at hk; exact lv_astore_nN hx hb (q_dc1 hd rfl) rfl hl h1 rfl hk
        next h0 => rw [if_neg h0] at hk; exact lv_astore_n hx hb (q_dc1 hd rfl) rfl hl h1 rfl hk
      next => cases e0
    next => cases e0
  case iinc i n =>
    simp only [q_loc] at e0
    split at e0
    next L1 h1 =>
      cases e0
      unfold q_iinc at h1
      split at h1
      next x hv =>
        cases h1
        obtain ⟨j, hj⟩ := List.getElem?_of_mem (q_lv_mem.mpr ⟨.int x, q_ld_some hv, rfl⟩ : (i, q_cv ad (.int x)) ∈ q_lv ad L)
        exact lv_iinc hx hb (q_dc1 hd rfl) hl hj rfl (List.getElem?_eq_some_iff.mp (q_ld_some hv)).1 rfl (fun ls' h' => k (q_set_len _ _ _) ls' (by rw [q_set_len]; exact q_lv_set (v := .int (x + Int32.ofInt n)) h'))
      next => cases h1
    next => cases e0
  all_goals cases e0
end QA
