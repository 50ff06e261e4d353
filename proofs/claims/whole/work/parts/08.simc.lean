/-! THE SMALL MACHINE IS THE MACHINE, third: each instruction of the heap -/
theorem q_mr1 {ad : Nat → Nat} {a : Nat} {st : List Value} (h : 0 < a) : List.map (q_cv ad) (.ref a :: st) = .ref (ad a) :: List.map (q_cv ad) st := by
  rw [List.map_cons]
  show (if a = 0 then Value.null else Value.ref (ad a)) :: _ = _
  rw [if_neg (by omega)]
theorem q_mr2 {ad : Nat → Nat} {a : Nat} {v : Value} {st : List Value} (h : 0 < a) : List.map (q_cv ad) (v :: .ref a :: st) = q_cv ad v :: .ref (ad a) :: List.map (q_cv ad) st := by
  rw [List.map_cons, q_mr1 h]
theorem q_mr3 {ad : Nat → Nat} {a : Nat} {v w : Value} {st : List Value} (h : 0 < a) : List.map (q_cv ad) (v :: w :: .ref a :: st) = q_cv ad v :: q_cv ad w :: .ref (ad a) :: List.map (q_cv ad) st := by
  rw [List.map_cons, q_mr2 h]
theorem q_rf_cv (ad : Nat → Nat) (r : Nat) : va_rf (q_rfo ad r) = q_cv ad (.ref r) := by
  show va_rf (if r = 0 then none else some (ad r)) = if r = 0 then Value.null else Value.ref (ad r)
  split <;> rfl
theorem q_cat2 (v : Value) : v.category ≤ 2 := by cases v <;> simp [Value.category]
theorem q_small_sum {ad : Nat → Nat} {st : List Value} (h : q_small st = true) : (((st.map (q_cv ad))).map fun v => v.category).sum ≤ 8 := by
  have key : ∀ n : Nat, ∀ l : List Value, l.length ≤ n → ((l.map (q_cv ad)).map fun v => v.category).sum ≤ 2 * n := by
    intro n
    induction n with
    | zero => intro l hl; cases l with
      | nil => simp
      | cons a l => simp at hl
    | succ n ih =>
      intro l hl
      cases l with
      | nil => simp
      | cons a l =>
        have h1 := ih l (by simp at hl; omega)
        have h2 := q_cat2 (q_cv ad a)
        simp only [List.map_cons, List.sum_cons]
        omega
  refine key 4 st ?_
  unfold q_small at h
  split at h <;> first | (simp; done) | (cases h)
theorem q_lkkT {own i ci : Nat} (h : q_lkk q_clT (own, i) = some ci) : Cond.classLink (q_cn own) i (q_cn ci) ∈ lw_tbl := q_memT q_clTw (List.mem_map_of_mem (f := fun e : (Nat × Nat) × Nat => Cond.classLink (q_cn e.1.1) e.1.2 (q_cn e.2)) (q_lkk_mem h))
theorem q_clT_lt : ∀ e ∈ q_clT, e.2 < 13 := by decide +kernel
theorem q_instn {c : Nat} (h : c < 13) : Cond.instantiable (q_cn c) (q_nf c) ∈ lw_tbl := q_memT q_isw (List.mem_map_of_mem (f := fun c => Cond.instantiable (q_cn c) (q_nf c)) (List.mem_range.mpr h))
theorem q_al_N (h : q_Hp) (cd len : Nat) : qN (q_al h cd len) - qN h = 1 := by
  show qN h + 1 - qN h = 1
  omega
theorem q_al_Z (h : q_Hp) (cd len : Nat) : qZ (q_al h cd len) - qZ h = len := by
  show qZ h + len - qZ h = len
  omega
theorem q_al_K (h : q_Hp) (cd len : Nat) : qK (q_al h cd len) (qN h + 1) = (cd, len) := by
  show (if qN h + 1 = qN h + 1 then (cd, len) else qK h (qN h + 1)) = (cd, len)
  rw [if_pos rfl]
theorem q_al_I (h : q_Hp) (cd len y : Nat) : qI (q_al h cd len) (qN h + 1) y = 0 := by
  show (if qN h + 1 = qN h + 1 then 0 else qI h (qN h + 1) y) = 0
  rw [if_pos rfl]
theorem q_al_R (h : q_Hp) (cd len y : Nat) : qR (q_al h cd len) (qN h + 1) y = 0 := by
  show (if qN h + 1 = qN h + 1 then 0 else qR h (qN h + 1) y) = 0
  rw [if_pos rfl]
theorem q_al_A (h : q_Hp) (cd len : Nat) : qA (q_al h cd len) (qN h + 1) = fun _ => 0 := by
  funext y
  show (if qN h + 1 = qN h + 1 then 0 else qA h (qN h + 1) y) = 0
  rw [if_pos rfl]
theorem q_al_L (h : q_Hp) (cd len : Nat) : qL (q_al h cd len) (qN h + 1) = fun _ => 0 := by
  funext y
  show (if qN h + 1 = qN h + 1 then 0 else qL h (qN h + 1) y) = 0
  rw [if_pos rfl]
theorem q_dv {ad : Nat → Nat} {h : q_Hp} {ci j cd len : Nat} (hci : ci < 13) (hj : j < q_nf ci) : defaultValue (q_ty ci j) = vp_V ((List.range (q_nf ci)).map (q_cfv ad (q_al h cd len) ci (qN h + 1))) j := by
  have e : vp_V ((List.range (q_nf ci)).map (q_cfv ad (q_al h cd len) ci (qN h + 1))) j = q_cfv ad (q_al h cd len) ci (qN h + 1) j := by
    unfold vp_V
    rw [List.getD_eq_getElem?_getD, List.getElem?_map, List.getElem?_range hj]
    rfl
  rw [e]
  unfold q_cfv
  have h1 := (q_ctok ci hci j hj).2
  rw [q_al_I, q_al_R, q_al_L]
  cases ht : q_ty ci j <;> rw [ht] at h1 <;> first | rfl | (cases h1)
theorem q_tcE {D : va_G} {tc : Nat → ClassId} {s : State} {cA : ClassId} {ty : FieldType} {t0 cd : Nat} (ht : (q_tys tc)[t0]? = some (tc cd, ty)) (hK : va_K D q_CL (q_tys tc) s) (hK1 : va_K D q_CL (q_tys tc ++ [(cA, ty)]) s) : cA = tc cd := by
  have h1 := (hK.2 t0 _ ht).2
  have h2 := (hK1.2 5 (cA, ty) rfl).2
  cases ty with
  | object C =>
    obtain ⟨_, _, _, _, _, g1⟩ := h1
    obtain ⟨_, _, _, _, _, g2⟩ := h2
    exact Option.some.inj (g2.symm.trans g1)
  | _ => exact Option.some.inj (Eq.trans (Eq.symm h2) h1)
section QC
variable {p : Program} {l : Launch} {e : Env} {R : Room} {s : State} {m : MethodId} {args : Array Value} {below : List Frame} {meth : Method} {c : Code} {H : Heap} {locs : List Loc} {cells slots : Nat} {Q : State → Prop}
variable {cc : ByteArray} {pc : Nat} {ls : Array Slot} {rest : List Value} {B : Nat} {aS : Nat → Nat} {tc : Nat → ClassId} {D : va_G} {h : q_Hp}
theorem q_simHea (hx : p.tables.exec = Jvm.exec) (hb : c.code = cc) {own : Nat} (hown : s.vm.findClass (q_cn own) = some m.cls) (hts : ∀ w ∈ q_UW, w.before args s = true) (hAO : va_AO RX6 s) (hK : va_K D q_CL (q_tys tc) s) (hA : q_At D B aS tc s h H locs cells) (hml : ls.size = c.maxLocals)
    {ini : Bool} (hini : ini = true → meth.name = "<init>") {d : Nat} (hR1 : 0 < d → 1 ≤ R.frames ∧ 64 ≤ R.locals) {ins : Instr} {st st' : List Value} {n : Nat} {h' : q_Hp} (e0 : q_hea own ini d ins st h = some (n, st', h')) (hd : q_dc cc pc ins)
    (hRc : cells + (qN h' - qN h) ≤ R.cells) (hRs : slots + (qZ h' - qZ h) ≤ R.slots)
    (k : ∀ (H1 : Heap) (locs1 : List Loc), q_At D B aS tc s h' H1 locs1 (cells + (qN h' - qN h)) → W p l e R s m args below meth c H1 locs1 (cells + (qN h' - qN h)) (slots + (qZ h' - qZ h)) Q (F0 m (pc + n) ls (st'.map (q_cv (q_ad B aS))))) : W p l e R s m args below meth c H locs cells slots Q (F0 m pc ls (st.map (q_cv (q_ad B aS)))) := by
  have hbz : ∀ q, s.heap.size ≤ q → B < q := fun q hq => by have := hA.2.2.2.2; omega
  have kz : qN h' = qN h → qZ h' = qZ h → ∀ (H1 : Heap) (locs1 : List Loc), q_At D B aS tc s h' H1 locs1 cells → W p l e R s m args below meth c H1 locs1 cells slots Q (F0 m (pc + n) ls (st'.map (q_cv (q_ad B aS)))) := by
    intro e1 e2 H1 locs1 h1
    have k1 := k H1 locs1
    rw [e1, e2, Nat.sub_self, Nat.sub_self, Nat.add_zero, Nat.add_zero] at k1
    exact k1 h1
  cases ins
  case getfield i =>
    simp only [q_hea] at e0
    split at e0
    next ci sl hf =>
      split at e0
      next a st =>
        split at e0
        next hok =>
          cases e0
          rw [q_mr1 hok.1]
          refine q_getf hx hb hown hts hK hA hf hok (q_dc1 hd rfl) ?_
          have k1 := kz rfl rfl H locs hA
          unfold q_cfv
          cases hI : q_isI (q_ty ci sl)
          · cases hJ : q_isJ (q_ty ci sl)
            · simp only [hI, hJ, List.map_cons] at k1
              exact k1
            · simp only [hI, hJ, List.map_cons] at k1
              exact k1
          · simp only [hI, List.map_cons] at k1
            exact k1
        next => cases e0
      next => cases e0
    next => cases e0
  case putfield i =>
    simp only [q_hea] at e0
    split at e0
    next ci sl hf =>
      split at e0
      next => cases e0
      next hfin =>
        split at e0
        next v a st =>
          split at e0
          next hok =>
            cases e0
            obtain ⟨hok, hI, hz⟩ := hok
            rw [q_mr2 hok.1]
            refine q_putf (h' := q_sI h a sl v) (v := .int v) hx hb hown hts hK hA hini hf hok hfin (q_nar_I hI hz) rfl (fun _ => rfl) (fun b hb => q_ce_congr rfl (q_up_ne hb) rfl rfl rfl) (fun j hj => ?_) ?_ (q_dc1 hd rfl) (kz rfl rfl)
            · unfold q_cfv
              cases q_isI (q_ty ci j)
              · rfl
              · show Value.int (q_up (qI h) a sl v a j) = _
                rw [q_up_same, if_neg hj]
            · unfold q_cfv
              rw [hI]
              show Value.int (q_up (qI h) a sl v a sl) = _
              rw [q_up_same, if_pos rfl]
          next => cases e0
        next v a st =>
          split at e0
          next hok =>
            cases e0
            obtain ⟨hok, hI, hJ⟩ := hok
            rw [q_mr2 hok.1]
            obtain ⟨hci, hsl⟩ := q_fl_lt hf
            have hr := (q_ctok ci hci sl hsl).2
            rw [hI, hJ, Bool.false_or, Bool.false_or] at hr
            refine q_putf (h' := q_sR h a sl v) (v := q_cv (q_ad B aS) (.ref v)) hx hb hown hts hK hA hini hf hok hfin (q_nar_R hr) rfl (fun _ => rfl) (fun b hb => q_ce_congr rfl rfl (q_up_ne hb) rfl rfl) (fun j hj => ?_) ?_ (q_dc1 hd rfl) (kz rfl rfl)
            · unfold q_cfv
              cases q_isI (q_ty ci j)
              · cases q_isJ (q_ty ci j)
                · show q_cv _ (.ref (q_up (qR h) a sl v a j)) = _
                  rw [q_up_same, if_neg hj]
                · rfl
              · rfl
            · unfold q_cfv
              rw [hI, hJ]
              show q_cv _ (.ref (q_up (qR h) a sl v a sl)) = _
              rw [q_up_same, if_pos rfl]
          next => cases e0
        next v a st =>
          split at e0
          next hok =>
            cases e0
            obtain ⟨hok, hI, hJ⟩ := hok
            rw [q_mr2 hok.1]
            refine q_putf (h' := q_sL h a sl v) (v := .long v) hx hb hown hts hK hA hini hf hok hfin (q_nar_J hJ) rfl (fun _ => rfl) (fun b hb => q_ce_congr rfl rfl rfl rfl (q_up_ne hb)) (fun j hj => ?_) ?_ (q_dc1 hd rfl) (kz rfl rfl)
            · unfold q_cfv
              cases q_isI (q_ty ci j)
              · cases q_isJ (q_ty ci j)
                · rfl
                · show Value.long (q_up (qL h) a sl v a j) = _
                  rw [q_up_same, if_neg hj]
              · rfl
            · unfold q_cfv
              rw [hI, hJ]
              show Value.long (q_up (qL h) a sl v a sl) = _
              rw [q_up_same, if_pos rfl]
          next => cases e0
        next => cases e0
    next => cases e0
  case iaload =>
    simp only [q_hea] at e0
    split at e0
    next i a st =>
      split at e0
      next hok =>
        cases e0
        obtain ⟨hok, hin⟩ := hok
        rw [q_mr2 hok.1]
        have he := q_wl_get (ad := q_ad B aS) (tc := tc) hok.1 hok.2.1
        rw [q_ce_ints hok.2.2 (Or.inl rfl)] at he
        exact va_iald hx hb hK hA.1 (a - 1) 0 he rfl (q_vin hin) (q_dc1 hd rfl) (kz rfl rfl H locs hA)
      next => cases e0
    next => cases e0
  case laload =>
    simp only [q_hea] at e0
    split at e0
    next i a st =>
      split at e0
      next hok =>
        cases e0
        obtain ⟨hok, hin⟩ := hok
        rw [q_mr2 hok.1]
        have he := q_wl_get (ad := q_ad B aS) (tc := tc) hok.1 hok.2.1
        rw [q_ce_lng hok.2.2] at he
        exact va_lald hx hb hK hA.1 (a - 1) 1 he rfl (q_vin hin) (q_dc1 hd rfl) (kz rfl rfl H locs hA)
      next => cases e0
    next => cases e0
  case aaload =>
    simp only [q_hea] at e0
    split at e0
    next i a st =>
      split at e0
      next hok =>
        cases e0
        obtain ⟨hok, hin⟩ := hok
        rw [q_mr2 hok.1]
        have he := q_wl_get (ad := q_ad B aS) (tc := tc) hok.1 hok.2.1
        rw [q_ce_rul hok.2.2] at he
        exact va_aldq hx hb hK hA.1 (a - 1) 4 he rfl (q_vin hin) (q_dc1 hd rfl) (by rw [q_rf_cv]; exact kz rfl rfl H locs hA)
      next => cases e0
    next => cases e0
  case baload =>
    simp only [q_hea] at e0
    split at e0
    next i a st =>
      split at e0
      next hok =>
        cases e0
        obtain ⟨hok, hin⟩ := hok
        rcases hok with hok | hok
        · rw [q_mr2 hok.1]
          have he := q_wl_get (ad := q_ad B aS) (tc := tc) hok.1 hok.2.1
          rw [q_ce_ints hok.2.2 (Or.inr (Or.inl rfl))] at he
          exact va_bald hx hb hK hA.1 (a - 1) 2 he rfl (q_vin hin) (q_dc1 hd rfl) (kz rfl rfl H locs hA)
        · rw [q_mr2 hok.1]
          have he := q_wl_get (ad := q_ad B aS) (tc := tc) hok.1 hok.2.1
          rw [q_ce_ints hok.2.2 (Or.inr (Or.inr rfl))] at he
          exact va_zald hx hb hK hA.1 (a - 1) 3 he rfl (q_vin hin) (q_dc1 hd rfl) (kz rfl rfl H locs hA)
      next => cases e0
    next => cases e0
  case iastore =>
    simp only [q_hea] at e0
    split at e0
    next x i a st =>
      split at e0
      next hok =>
        cases e0
        obtain ⟨hok, hin⟩ := hok
        rw [q_mr3 hok.1]
        have he := q_wl_get (ad := q_ad B aS) (tc := tc) hok.1 hok.2.1
        rw [q_ce_ints (h := h) hok.2.2 (Or.inl rfl)] at he
        refine va_iast hx hb hK hA.1 (q_wl_D hA.2.2.1) hA.2.1 (a - 1) 0 he rfl (q_vin hin) (q_dc1 hd rfl) (fun H1 locs1 hP1 _ hS1 => kz rfl rfl H1 locs1 (hA.put (h' := (q_sA h a i.toNatClampNeg x)) rfl (fun b hb => q_ce_congr rfl rfl rfl (q_up_ne hb) rfl) ?_ hok.1 hP1 hS1))
        rw [q_ce_ints (h := (q_sA h a i.toNatClampNeg x)) hok.2.2 (Or.inl rfl)]
        show Sum.inl (_, _, Sum.inl (q_up (qA h) a _ _ a)) = _
        rw [show q_up (qA h) a i.toNatClampNeg x a = upd (qA h a) i.toNatClampNeg x from funext fun y => q_up_same]
        rfl
      next => cases e0
    next => cases e0
  case bastore =>
    simp only [q_hea] at e0
    split at e0
    next x i a st =>
      split at e0
      next hok =>
        cases e0
        obtain ⟨hok, hin⟩ := hok
        rw [q_mr3 hok.1]
        have he := q_wl_get (ad := q_ad B aS) (tc := tc) hok.1 hok.2.1
        rw [q_ce_ints (h := h) hok.2.2 (Or.inr (Or.inl rfl))] at he
        refine va_bast hx hb hK hA.1 (q_wl_D hA.2.2.1) hA.2.1 (a - 1) 2 he rfl (q_vin hin) (q_dc1 hd rfl) (fun H1 locs1 hP1 _ hS1 => kz rfl rfl H1 locs1 (hA.put (h' := (q_sA h a i.toNatClampNeg (vp_nar .byte x))) rfl (fun b hb => q_ce_congr rfl rfl rfl (q_up_ne hb) rfl) ?_ hok.1 hP1 hS1))
        rw [q_ce_ints (h := (q_sA h a i.toNatClampNeg (vp_nar .byte x))) hok.2.2 (Or.inr (Or.inl rfl))]
        show Sum.inl (_, _, Sum.inl (q_up (qA h) a _ _ a)) = _
        rw [show q_up (qA h) a i.toNatClampNeg (vp_nar .byte x) a = upd (qA h a) i.toNatClampNeg (vp_nar .byte x) from funext fun y => q_up_same]
        rfl
      next =>
        split at e0
        next hok =>
          cases e0
          obtain ⟨hok, hin⟩ := hok
          rw [q_mr3 hok.1]
          have he := q_wl_get (ad := q_ad B aS) (tc := tc) hok.1 hok.2.1
          rw [q_ce_ints (h := h) hok.2.2 (Or.inr (Or.inr rfl))] at he
          refine va_zast hx hb hK hA.1 (q_wl_D hA.2.2.1) hA.2.1 (a - 1) 3 he rfl (q_vin hin) (q_dc1 hd rfl) (fun H1 locs1 hP1 _ hS1 => kz rfl rfl H1 locs1 (hA.put (h' := (q_sA h a i.toNatClampNeg (vp_nar .boolean x))) rfl (fun b hb => q_ce_congr rfl rfl rfl (q_up_ne hb) rfl) ?_ hok.1 hP1 hS1))
          rw [q_ce_ints (h := (q_sA h a i.toNatClampNeg (vp_nar .boolean x))) hok.2.2 (Or.inr (Or.inr rfl))]
          show Sum.inl (_, _, Sum.inl (q_up (qA h) a _ _ a)) = _
          rw [show q_up (qA h) a i.toNatClampNeg (vp_nar .boolean x) a = upd (qA h a) i.toNatClampNeg (vp_nar .boolean x) from funext fun y => q_up_same]
          rfl
        next => cases e0
    next => cases e0
  case lastore =>
    simp only [q_hea] at e0
    split at e0
    next x i a st =>
      split at e0
      next hok =>
        cases e0
        obtain ⟨hok, hin⟩ := hok
        rw [q_mr3 hok.1]
        have he := q_wl_get (ad := q_ad B aS) (tc := tc) hok.1 hok.2.1
        rw [q_ce_lng (h := h) hok.2.2] at he
        refine va_last hx hb hK hA.1 (q_wl_D hA.2.2.1) hA.2.1 (a - 1) 1 he rfl (q_vin hin) (q_dc1 hd rfl) (fun H1 locs1 hP1 _ hS1 => kz rfl rfl H1 locs1 (hA.put (h' := (q_sL h a i.toNatClampNeg x)) rfl (fun b hb => q_ce_congr rfl rfl rfl rfl (q_up_ne hb)) ?_ hok.1 hP1 hS1))
        rw [q_ce_lng (h := (q_sL h a i.toNatClampNeg x)) hok.2.2]
        show Sum.inl (_, _, Sum.inr (Sum.inl (q_up (qL h) a _ _ a))) = _
        rw [show q_up (qL h) a i.toNatClampNeg x a = vp_updL (qL h a) i.toNatClampNeg x from funext fun y => q_up_same]
        rfl
      next => cases e0
    next => cases e0
  case aastore =>
    simp only [q_hea] at e0
    split at e0
    next x i a st =>
      split at e0
      next hok =>
        cases e0
        obtain ⟨hok, hin, hx2⟩ := hok
        have hv := q_wl_get (ad := q_ad B aS) (tc := tc) hx2.1 hx2.2.1
        rw [q_ce_obj hx2.2.2 (by decide)] at hv
        rw [q_mr3 hok.1]
        have he := q_wl_get (ad := q_ad B aS) (tc := tc) hok.1 hok.2.1
        rw [q_ce_rul hok.2.2] at he
        show W p l e R s m args below meth c H locs cells slots Q (F0 m pc ls ((if x = 0 then Value.null else Value.ref (q_ad B aS x)) :: .int i :: .ref (q_ad B aS a) :: _))
        rw [if_neg (Nat.ne_of_gt hx2.1)]
        refine va_astq (r := (RX6, TX6, 20)) hx hb hK hA.1 (q_wl_D hA.2.2.1) hA.2.1 (a - 1) 4 (x - 1) 6 he rfl hv rfl (q_vin hin) (q_dc1 hd rfl) (fun H1 locs1 hP1 _ hS1 => kz rfl rfl H1 locs1 (hA.put (h' := q_sR h a i.toNatClampNeg x) rfl (fun b hb => q_ce_congr rfl rfl (q_up_ne hb) rfl rfl) ?_ hok.1 hP1 hS1))
        rw [q_ce_rul (h := q_sR h a i.toNatClampNeg x) hok.2.2]
        have e : (fun j => q_rfo (q_ad B aS) (qR (q_sR h a i.toNatClampNeg x) a j)) = va_up (fun j => q_rfo (q_ad B aS) (qR h a j)) i.toNatClampNeg (some (q_ad B aS x)) := by
          funext j
          show q_rfo _ (q_up (qR h) a i.toNatClampNeg x a j) = _
          rw [q_up_same]
          unfold va_up
          by_cases hj : j = i.toNatClampNeg
          · rw [if_pos hj, if_pos hj]
            unfold q_rfo
            rw [if_neg (Nat.ne_of_gt hx2.1)]
          · rw [if_neg hj, if_neg hj]
        rw [e]
        rfl
      next => cases e0
    next => cases e0
  case arraylength =>
    simp only [q_hea] at e0
    split at e0
    next a st =>
      split at e0
      next hok =>
        cases e0
        obtain ⟨h1, h2, h3, h4⟩ := hok
        rw [q_mr1 h1]
        have he := q_wl_get (ad := q_ad B aS) (tc := tc) h1 h2
        have h5 : (qK h a).1 = 20 ∨ (qK h a).1 = 21 ∨ (qK h a).1 = 22 ∨ (qK h a).1 = 23 ∨ (qK h a).1 = 24 := by omega
        rcases h5 with h5 | h5 | h5 | h5 | h5
        · rw [q_ce_ints h5 (Or.inl rfl)] at he
          exact va_alen hx hb hK hA.1 (a - 1) 0 he rfl rfl (q_dc1 hd rfl) (kz rfl rfl H locs hA)
        · rw [q_ce_lng h5] at he
          exact va_alen hx hb hK hA.1 (a - 1) 1 he rfl rfl (q_dc1 hd rfl) (kz rfl rfl H locs hA)
        · rw [q_ce_ints h5 (Or.inr (Or.inl rfl))] at he
          exact va_alen hx hb hK hA.1 (a - 1) 2 he rfl rfl (q_dc1 hd rfl) (kz rfl rfl H locs hA)
        · rw [q_ce_ints h5 (Or.inr (Or.inr rfl))] at he
          exact va_alen hx hb hK hA.1 (a - 1) 3 he rfl rfl (q_dc1 hd rfl) (kz rfl rfl H locs hA)
        · rw [q_ce_rul h5] at he
          exact va_alen hx hb hK hA.1 (a - 1) 4 he rfl rfl (q_dc1 hd rfl) (kz rfl rfl H locs hA)
      next => cases e0
    next => cases e0
  case new i =>
    simp only [q_hea] at e0
    split at e0
    next ci hcl =>
      split at e0
      next hN1 =>
        cases e0
        have hci : ci < 13 := q_clT_lt _ (q_lkk_mem hcl)
        rw [q_al_N] at hRc
        rw [q_al_Z] at hRs
        refine va_new (ci := ci) (fs := (List.range (q_nf ci)).map (q_cfv (q_ad B aS) (q_al h ci (q_nf ci)) ci (qN h + 1))) (C := q_cn ci) (T := q_ct ci) (N := q_nf ci) hx hb hts (q_uwU hci) (q_ty ci) (q_tyok hci) hown (hts _ (q_UWm (q_lkkT hcl) rfl)) (hts _ (q_UWm (q_instn hci) rfl)) (hts _ (q_UWm (q_in_ok (by omega)) rfl)) hK hA.1 (q_wl_D hA.2.2.1) hA.2.1 hbz (q_CLg hci) (fun j hj => q_dv hci hj) hRc hRs (q_dc1 hd rfl) (fun q H1 hP1 hD1 hS1 => q_Wsz (fun hs1 => ?_))
        obtain ⟨rfl, hA1⟩ := hA.new (cd := ci) (len := q_nf ci) hN1 (q_ce_obj (by rw [q_al_K]) hci) hP1 hD1 hS1 hs1
        have k1 := k H1 locs
        rw [q_al_N, q_al_Z, q_mr1 (Nat.succ_pos _)] at k1
        exact k1 hA1
      next => cases e0
    next => cases e0
  case newarray t =>
    cases t
    case boolean =>
      simp only [q_hea, q_kd] at e0
      split at e0
      next nn st =>
        split at e0
        next hok =>
          cases e0
          obtain ⟨h1, h2, hN1⟩ := hok
          rw [q_al_N] at hRc
          rw [q_al_Z] at hRs
          refine va_newa (atype := .boolean) (ty := .boolean) (N' := nn.toNatClampNeg) (a0 := (nn.toNatClampNeg, .inl (fun _ => 0))) hx hb (hts _ (q_UWm q_arZ rfl)) rfl hK hA.1 (q_wl_D hA.2.2.1) hA.2.1 hbz (fun _ => rfl) h1 rfl (by show nn.toNatClampNeg * 1 ≤ 536870912; omega) hRc hRs (q_dc1 hd rfl) (fun q cA H1 hK1 hP1 hD1 hS1 => q_Wsz (fun hs1 => ?_))
          obtain rfl := q_tcE (t0 := 3) (cd := 23) rfl hK hK1
          obtain ⟨rfl, hA1⟩ := hA.new (cd := 23) (len := nn.toNatClampNeg) hN1 (by rw [q_ce_ints (cd := 23) (by rw [q_al_K]) (by decide), q_al_K, q_al_A]) hP1 hD1 hS1 hs1
          have k1 := k H1 locs
          rw [q_al_N, q_al_Z, q_mr1 (Nat.succ_pos _)] at k1
          exact k1 hA1
        next => cases e0
      next => cases e0
    case char => cases e0
    case float => cases e0
    case double => cases e0
    case byte =>
      simp only [q_hea, q_kd] at e0
      split at e0
      next nn st =>
        split at e0
        next hok =>
          cases e0
          obtain ⟨h1, h2, hN1⟩ := hok
          rw [q_al_N] at hRc
          rw [q_al_Z] at hRs
          refine va_newa (atype := .byte) (ty := .byte) (N' := nn.toNatClampNeg) (a0 := (nn.toNatClampNeg, .inl (fun _ => 0))) hx hb (hts _ (q_UWm q_arB rfl)) rfl hK hA.1 (q_wl_D hA.2.2.1) hA.2.1 hbz (fun _ => rfl) h1 rfl (by show nn.toNatClampNeg * 1 ≤ 536870912; omega) hRc hRs (q_dc1 hd rfl) (fun q cA H1 hK1 hP1 hD1 hS1 => q_Wsz (fun hs1 => ?_))
          obtain rfl := q_tcE (t0 := 2) (cd := 22) rfl hK hK1
          obtain ⟨rfl, hA1⟩ := hA.new (cd := 22) (len := nn.toNatClampNeg) hN1 (by rw [q_ce_ints (cd := 22) (by rw [q_al_K]) (by decide), q_al_K, q_al_A]) hP1 hD1 hS1 hs1
          have k1 := k H1 locs
          rw [q_al_N, q_al_Z, q_mr1 (Nat.succ_pos _)] at k1
          exact k1 hA1
        next => cases e0
      next => cases e0
    case short => cases e0
    case int =>
      simp only [q_hea, q_kd] at e0
      split at e0
      next nn st =>
        split at e0
        next hok =>
          cases e0
          obtain ⟨h1, h2, hN1⟩ := hok
          rw [q_al_N] at hRc
          rw [q_al_Z] at hRs
          refine va_newa (atype := .int) (ty := .int) (N' := nn.toNatClampNeg) (a0 := (nn.toNatClampNeg, .inl (fun _ => 0))) hx hb (hts _ (q_UWm q_arI rfl)) rfl hK hA.1 (q_wl_D hA.2.2.1) hA.2.1 hbz (fun _ => rfl) h1 rfl (by show nn.toNatClampNeg * 4 ≤ 536870912; omega) hRc hRs (q_dc1 hd rfl) (fun q cA H1 hK1 hP1 hD1 hS1 => q_Wsz (fun hs1 => ?_))
          obtain rfl := q_tcE (t0 := 0) (cd := 20) rfl hK hK1
          obtain ⟨rfl, hA1⟩ := hA.new (cd := 20) (len := nn.toNatClampNeg) hN1 (by rw [q_ce_ints (cd := 20) (by rw [q_al_K]) (by decide), q_al_K, q_al_A]) hP1 hD1 hS1 hs1
          have k1 := k H1 locs
          rw [q_al_N, q_al_Z, q_mr1 (Nat.succ_pos _)] at k1
          exact k1 hA1
        next => cases e0
      next => cases e0
    case long =>
      simp only [q_hea, q_kd] at e0
      split at e0
      next nn st =>
        split at e0
        next hok =>
          cases e0
          obtain ⟨h1, h2, hN1⟩ := hok
          rw [q_al_N] at hRc
          rw [q_al_Z] at hRs
          refine va_newa (atype := .long) (ty := .long) (N' := nn.toNatClampNeg) (a0 := (nn.toNatClampNeg, .inr (.inl (fun _ => 0)))) hx hb (hts _ (q_UWm q_arJ rfl)) rfl hK hA.1 (q_wl_D hA.2.2.1) hA.2.1 hbz (fun _ => rfl) h1 rfl (by show nn.toNatClampNeg * 8 ≤ 536870912; omega) hRc hRs (q_dc1 hd rfl) (fun q cA H1 hK1 hP1 hD1 hS1 => q_Wsz (fun hs1 => ?_))
          obtain rfl := q_tcE (t0 := 1) (cd := 21) rfl hK hK1
          obtain ⟨rfl, hA1⟩ := hA.new (cd := 21) (len := nn.toNatClampNeg) hN1 (by rw [q_ce_lng (by rw [q_al_K]), q_al_K, q_al_L]) hP1 hD1 hS1 hs1
          have k1 := k H1 locs
          rw [q_al_N, q_al_Z, q_mr1 (Nat.succ_pos _)] at k1
          exact k1 hA1
        next => cases e0
      next => cases e0
  case anewarray i =>
    simp only [q_hea] at e0
    split at e0
    next ci hcl =>
      split at e0
      next nn st =>
        split at e0
        next hok =>
          cases e0
          obtain ⟨rfl, h1, h2, hN1⟩ := hok
          rw [q_al_N] at hRc
          rw [q_al_Z] at hRs
          refine va_newq (C := RX6) (N' := nn.toNatClampNeg) hx hb hown (hts _ (q_UWm (q_lkkT hcl) rfl)) hAO hK hA.1 (q_wl_D hA.2.2.1) hA.2.1 hbz h1 rfl (by omega) hRc hRs (q_dc1 hd rfl) (fun q cA H1 hK1 hP1 hD1 hS1 => q_Wsz (fun hs1 => ?_))
          obtain rfl := q_tcE (t0 := 4) (cd := 24) rfl hK hK1
          obtain ⟨rfl, hA1⟩ := hA.new (cd := 24) (len := nn.toNatClampNeg) hN1 (by
            rw [q_ce_rul (by rw [q_al_K]), q_al_K]
            have e : (fun j => q_rfo (q_ad B aS) (qR (q_al h 24 nn.toNatClampNeg) (qN h + 1) j)) = fun _ => none := by
              funext j
              rw [q_al_R]
              rfl
            rw [e]) hP1 hD1 hS1 hs1
          have k1 := k H1 locs
          rw [q_al_N, q_al_Z, q_mr1 (Nat.succ_pos _)] at k1
          exact k1 hA1
        next => cases e0
      next => cases e0
    next => cases e0
  case invokespecial i =>
    simp only [q_hea] at e0
    split at e0
    next a st =>
      split at e0
      next hok =>
        cases e0
        obtain ⟨h1, h2, h3, h4, h5⟩ := hok
        rw [q_mr1 h4]
        have hr := hR1 h2
        have hs := q_small_sum (ad := q_ad B aS) h3
        refine W.objInit hx hb hown (hts _ (q_UWm (q_memT q_oTw (List.mem_map_of_mem (f := fun e : Nat × Nat => Cond.methodLink (q_cn e.1) e.2 objectInit) h1)) rfl)) (hts _ (q_UWm q_o1 rfl)) (hts _ (q_UWm q_o2 rfl)) rfl hml rfl (q_dc1 hd rfl) hr.1 ?_ ?_
        · show 2 * 0 + _ + 12 ≤ _
          omega
        · exact kz rfl rfl H locs hA
      next => cases e0
    next => cases e0
  case invokestatic i =>
    simp only [q_hea] at e0
    split at e0
    next nn dp b sp a st =>
      split at e0
      next hok =>
        obtain ⟨rfl, rfl, h2, h3, ha, hb2, g1, g2, g3, g4, g5⟩ := hok
        have hr := hR1 h2
        have hs := q_small_sum (ad := q_ad B aS) h3
        have e1 : List.map (q_cv (q_ad B aS)) (.int nn :: .int dp :: .ref b :: .int sp :: .ref a :: st) = .int nn :: .int dp :: .ref (q_ad B aS b) :: .int sp :: .ref (q_ad B aS a) :: st.map (q_cv (q_ad B aS)) := by
          rw [q_mr3 hb2.1, q_mr2 ha.1]
          rfl
        rw [e1]
        cases e0
        have he := q_wl_get (ad := q_ad B aS) (tc := tc) ha.1 ha.2.1
        rw [q_ce_ints ha.2.2 (Or.inl rfl)] at he
        have hf := q_wl_get (ad := q_ad B aS) (tc := tc) hb2.1 hb2.2.1
        rw [q_ce_ints hb2.2.2 (Or.inl rfl)] at hf
        refine va_copyi hx hb hml.symm hown (hts _ (q_UWm q_ac1 rfl)) (hts _ (q_UWm q_ac2 rfl)) (hts _ (q_UWm q_ac3 rfl)) (hts _ (q_UWm q_ac4 rfl)) hK hA.1 (q_wl_D hA.2.2.1) hA.2.1 (a - 1) (b - 1) 0 0 he hf rfl rfl rfl g1 g2 g3 g4 g5 (fun _ _ => rfl) hr.1 ?_ (q_dc1 hd rfl) (fun H1 locs1 hP1 _ hS1 => kz rfl rfl H1 locs1 (hA.put (h' := q_cpyA h a sp.toNatClampNeg b dp.toNatClampNeg nn.toNatClampNeg) rfl (fun x hx => q_ce_congr rfl rfl rfl (by funext y; show (if x = b then _ else _) = _; rw [if_neg hx]) rfl) ?_ hb2.1 hP1 hS1))
        · have : nativeFrameWords "java/lang/System" "arraycopy" 5 ≤ 40 := by decide +kernel
          omega
        · rw [q_ce_ints (h := q_cpyA h a sp.toNatClampNeg b dp.toNatClampNeg nn.toNatClampNeg) hb2.2.2 (Or.inl rfl)]
          have e : qA (q_cpyA h a sp.toNatClampNeg b dp.toNatClampNeg nn.toNatClampNeg) b = va_cpy (qA h a) (qA h b) sp.toNatClampNeg dp.toNatClampNeg nn.toNatClampNeg := by
            funext y
            show (if b = b then _ else _) = _
            rw [if_pos rfl]
          rw [e]
          rfl
      next => cases e0
    next => cases e0
  all_goals cases e0
end QC
