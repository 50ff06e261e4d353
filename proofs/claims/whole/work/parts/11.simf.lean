/-! THE SMALL MACHINE IS THE MACHINE, last: whole runs -/
def q_okv (v : Value) : Bool := match v with
  | .int _ => true
  | .long _ => true
  | .ref _ => true
  | _ => false
theorem q_sl_len {ad : Nat → Nat} : ∀ args : List Value, args.all q_okv = true → (lg_sl (args.map (q_cv ad))).length = (q_slots args).length := by
  intro args
  induction args with
  | nil => intro _; rfl
  | cons v vs ih =>
    intro h
    rw [List.all_cons, Bool.and_eq_true] at h
    have h2 := ih h.2
    unfold lg_sl at h2 ⊢
    rw [List.map_cons, List.flatMap_cons, List.length_append, h2]
    cases v with
    | int x => show 1 + _ = (q_slots vs).length + 1; omega
    | long x => show 2 + _ = (q_slots vs).length + 1 + 1; omega
    | ref x =>
      rw [if_neg (by rw [q_cat_ref]; decide)]
      show 1 + _ = (q_slots vs).length + 1
      omega
    | _ => cases h.1
theorem q_slots_arg {ad : Nat → Nat} : ∀ (args : List Value) (j i : Nat) (v : Value), args.all q_okv = true → (q_slots args)[i]? = some (some v) → (j + i, q_cv ad v) ∈ lv_args j (args.map (q_cv ad)) := by
  intro args
  induction args with
  | nil => intro j i v _ h; cases h
  | cons w vs ih =>
    intro j i v h hi
    rw [List.all_cons, Bool.and_eq_true] at h
    cases w with
    | int x =>
      cases i with
      | zero => cases hi; exact List.mem_cons_self
      | succ i => exact List.mem_cons_of_mem _ (by have := ih (j + 1) i v h.2 hi; rw [show j + 1 + i = j + (i + 1) by omega] at this; exact this)
    | long x =>
      cases i with
      | zero => cases hi; exact List.mem_cons_self
      | succ i =>
        cases i with
        | zero => cases hi
        | succ i => exact List.mem_cons_of_mem _ (by have := ih (j + 2) i v h.2 hi; rw [show j + 2 + i = j + (i + 1 + 1) by omega] at this; exact this)
    | ref x =>
      cases i with
      | zero => cases hi; exact List.mem_cons_self
      | succ i =>
        refine List.mem_cons_of_mem _ ?_
        rw [if_neg (by rw [q_cat_ref]; decide)]
        have := ih (j + 1) i v h.2 hi
        rw [show j + 1 + i = j + (i + 1) by omega] at this
        exact this
    | _ => cases h.1
theorem q_ent_has {ad : Nat → Nat} {k n : Nat} {ls : Array Slot} {args : List Value} (hok : args.all q_okv = true) (h : lv_has ls n (lv_args 0 (args.map (q_cv ad)))) : lv_has ls n (q_lv ad (q_ent k args)) := by
  refine ⟨h.1, h.2.1, fun q hq => h.2.2 q ?_⟩
  obtain ⟨v, h1, h2⟩ := q_lv_mem.mp hq
  unfold q_ent at h1
  rw [List.getElem?_append] at h1
  split at h1
  next =>
    have := q_slots_arg (ad := ad) args 0 q.1 v hok h1
    rw [Nat.zero_add, ← h2] at this
    exact this
  next =>
    rw [List.getElem?_replicate] at h1
    split at h1 <;> cases h1
theorem q_ent_len {k : Nat} {args : List Value} (h : (q_slots args).length ≤ q_ml k) : (q_ent k args).length = q_ml k := by
  unfold q_ent
  rw [List.length_append, List.length_replicate]
  omega
theorem q_ofW {l : Launch} {y : MethodName} {ws ws' : List Cond} {rm : Room} {Pc : Array Value → State → Prop} {Qc : Array Value → State → Outcome → State → Prop} {mc ms : Nat} {free : Addr → Prop} {cc : ByteArray} {maxL : Nat} {ret : Option FieldType}
    (hy : plainFor y = true) (hw : ws = Cond.code y cc maxL ret :: ws')
    (body : ∀ p e s m args below meth c s₁, BodyLoose p l y (headSpec ws rm) cc maxL ret e s m args below meth c s₁ → c.maxLocals = maxL → Pc args s →
      W p l e (headSpec ws rm).room s m args below meth c s.heap [] 0 0 (MQ below Qc args s mc ms free) (entryFrame m args maxL)) : Met l y ws rm Pc Qc mc ms free := by
  refine MetFree.of_bodySF (code := cc) (maxLocals := maxL) (ret := ret) hy ?_ ?_
  · intro args s m h hn
    obtain ⟨meth, c, h1, h2, h3, h4, h5, h6, -, -⟩ := Cond.code_spec hn (atoms_spec (ws := ws) h _ (by rw [hw]; exact List.mem_cons_self))
    exact ⟨meth, c, h1, h2, h3, h4, h5, h6⟩
  · intro p e s m args below meth c s₁ X hml hP _
    have hh0 : s₁.heap = s.heap := by rw [X.state]; rfl
    obtain ⟨t, a1, o, b1, b2, b3⟩ := body p e s m args below meth c s₁ X hml hP s₁ hh0 (Stand.of_body X)
    exact ⟨t, o, a1, b1, b2, ⟨b3.1, b3.2⟩⟩
/-- what is said of a method's frame -/
def q_Fr (D : va_G) (B : Nat) (aS aV : Nat → Nat) (tc : Nat → ClassId) (k : Nat) (p : Program) (s : State) (m : MethodId) (args : Array Value) (meth : Method) (c : Code) : Prop :=
  p.tables.exec = Jvm.exec ∧ c.code = (q_m k).2.1 ∧ meth.sig.returnType = q_rt k ∧ meth.locks = false ∧ c.maxLocals = q_ml k ∧ s.vm.findClass (q_cn (q_ow k)) = some m.cls ∧ (∀ w ∈ q_ws k, w.before args s = true) ∧ (q_ini k = true → meth.name = "<init>") ∧
    va_K D q_CL (q_tys tc) s ∧ q_NS (aS 0) (aS 1) s ∧ vk_S 2 q_len q_byt aS aV (fun q => B < q) s s.heap
/-- a run of the small machine, from any point of a method, is a run of the machine -/
def q_Bd (l : Launch) (D : va_G) (B : Nat) (aS aV : Nat → Nat) (tc : Nat → ClassId) (f : Nat) : Prop :=
  ∀ (d k pc : Nat) (L : q_Lc) (st : List Value) (h : q_Hp) (r : Option Value) (hE : q_Hp), q_run f d k pc L st h = some (r, hE) →
    ∀ (p : Program) (e : Env) (s : State) (m : MethodId) (args : Array Value) (below : List Frame) (meth : Method) (c : Code) (H : Heap) (locs : List Loc) (cells slots mc ms : Nat) (ls : Array Slot),
      q_Fr D B aS aV tc k p s m args meth c → q_At D B aS tc s h H locs cells → lv_has ls (q_ml k) (q_lv (q_ad B aS) L) → L.length = q_ml k → cells + qN hE = mc + qN h → slots + qZ hE = ms + qZ h →
        W p l e (q_rm d mc ms) s m args below meth c H locs cells slots (MQ below (q_Qc D B aS tc r hE) args s mc ms (fun q => B < q)) (F0 m pc ls (st.map (q_cv (q_ad B aS))))
theorem q_simA {l : Launch} {D : va_G} {B : Nat} {aS aV : Nat → Nat} {tc : Nat → ClassId} {f : Nat} (ih : q_Bd l D B aS aV tc f) {d k : Nat} {av : List Value} {h h' : q_Hp} {r : Option Value} (e0 : q_run f d k 0 (q_ent k av) [] h = some (r, h')) (hsl : (q_slots av).length ≤ q_ml k) (hok : av.all q_okv = true) :
    q_Ct l D B aS aV tc d k av h r h' := by
  obtain ⟨f1, f2, f3, f4, f5, f6, f7, f8⟩ := q_mfacts k
  have hm := q_mono _ _ _ _ _ _ _ _ _ e0
  refine q_ofW (cc := (q_m k).2.1) (maxL := q_ml k) (ret := q_rt k) f3 rfl ?_
  intro p e s m args below meth c s₁ X hml hv
  obtain ⟨rfl, hsz, hN, hP, hK, hNS, hVS⟩ := hv
  have hown : s.vm.findClass (q_nm k).cls = some m.cls := findClass_of_methodNamed X.named
  rw [f4] at hown
  have hl := lv_entry (av.map (q_cv (q_ad B aS))) (n := q_ml k) (by rw [q_sl_len av hok]; exact hsl)
  rw [lg_entry_eq]
  generalize (lg_sl (av.map (q_cv (q_ad B aS))) ++ List.replicate (q_ml k - (lg_sl (av.map (q_cv (q_ad B aS)))).length) Slot.unset).toArray = ls at hl ⊢
  have hw := ih d k 0 (q_ent k av) [] h r h' e0 p e s m (av.map (q_cv (q_ad B aS))).toArray below meth c s.heap [] 0 0 (qN h' - qN h) (qZ h' - qZ h) ls
    ⟨X.exec, X.bytes, X.returns, X.notSynchronized, hml, hown, atoms_spec (ws := q_ws k) X.pre, fun hi => by
      have := (name_of_methodNamed X.named X.method).1
      rw [this]
      unfold q_ini at hi
      exact beq_iff_eq.mp hi, hK, hNS, hVS⟩ ⟨hP, va_S.rf, hN, by omega, by omega⟩ (q_ent_has hok hl) (q_ent_len hsl) (by omega) (by omega)
  exact hw
theorem q_sim {l : Launch} {D : va_G} {B : Nat} {aS aV : Nat → Nat} {tc : Nat → ClassId} (hBI : ∀ (d k : Nat) (av : List Value) (h h' : q_Hp) (r : Option Value), 8 ≤ d → q_bi k av h = some (r, h') → q_rec k av h = true → q_Ct l D B aS aV tc d k av h r h') : ∀ f, q_Bd l D B aS aV tc f := by
  intro f
  induction f with
  | zero => intro d k pc L st h r hE e; cases e
  | succ f ih =>
    intro d k pc L st h r hE e0 p e s m args below meth c H locs cells slots mc ms ls FR hA hl hL hc hs
    have FR0 := FR
    obtain ⟨hx, hb, hr, hlocks, hml, hown, hts, hin, hK, hNS, hVS⟩ := FR
    have htU : ∀ w ∈ q_UW, w.before args s = true := fun w h => hts w (List.mem_cons_of_mem _ h)
    unfold q_run at e0
    split at e0
    next => cases e0
    next ins hfe =>
      have hd := q_fe_dc hfe
      split at e0
      next r1 hret =>
        cases e0
        have h1 : mc = cells := by omega
        have h2 : ms = slots := by omega
        subst h1; subst h2
        exact q_simRet hx hb hr hlocks hA hret hd
      next =>
        split at e0
        next k' hcal =>
          split at e0
          next => cases e0
          next d' =>
            split at e0
            next hcond =>
              obtain ⟨g1, g2, g3⟩ := hcond
              split at e0
              next r1 h1 hin2 =>
                have hm2 := q_mono _ _ _ _ _ _ _ _ _ e0
                have hrec := g3
                unfold q_rec at hrec
                simp only [Bool.and_eq_true, decide_eq_true_eq] at hrec
                obtain ⟨⟨⟨-, q2⟩, -⟩, q4⟩ := hrec
                have hcm : q_Ct l D B aS aV tc d' k' (st.take (q_na k')).reverse h r1 h1 ∧ qN h ≤ qN h1 ∧ qZ h ≤ qZ h1 := by
                  split at hin2
                  next => exact ⟨q_simA ih hin2 q2 q4, q_mono _ _ _ _ _ _ _ _ _ hin2⟩
                  next =>
                    split at hin2
                    next h8 =>
                      refine ⟨hBI d' k' _ h h1 r1 h8 hin2 g3, ?_⟩
                      rw [q_bi_h hin2]
                      exact ⟨Nat.le_refl _, Nat.le_refl _⟩
                    next => cases hin2
                obtain ⟨hM, hm1, hm3⟩ := hcm
                refine q_simCall (k := k) (d' := d') hx hb hml hown hts hK hNS hVS hA hl.1 hcal hd g1 g2 g3 hM hm1 ⟨Nat.le_refl _, by show 64 * d' + 64 ≤ 64 * (d' + 1); omega⟩ (by show cells + (qN h1 - qN h) ≤ mc; omega) (by show slots + (qZ h1 - qZ h) ≤ ms; omega) (fun H1 locs1 hA1 => ?_)
                exact ih (d' + 1) k (pc + 3) L (q_push r1 (st.drop (q_na k'))) h1 r hE e0 p e s m args below meth c H1 locs1 _ _ mc ms ls FR0 hA1 hl hL (by omega) (by omega)
              next => cases e0
            next => cases e0
        next =>
          split at e0
          next pc' L' st' h1 hstp =>
            have hm2 := q_mono _ _ _ _ _ _ _ _ _ e0
            unfold q_stp at hstp
            split at hstp
            next n L2 st2 hloc =>
              cases hstp
              refine q_simLoc hx hb hloc hd (by rw [hL]; exact hl) (fun hlen ls' hl' => ?_)
              exact ih d k _ _ _ _ r hE e0 p e s m args below meth c H locs cells slots mc ms ls' FR0 hA (by rw [hlen, hL] at hl'; exact hl') (by rw [hlen, hL]) hc hs
            next =>
              split at hstp
              next n st2 hstk =>
                cases hstp
                refine q_simStk hx hb hown (fun w h1 h2 => htU w (q_UWm h1 h2)) (by rw [q_aS0]; exact hNS.2.2.1) (by rw [q_aS1]; exact hNS.2.2.2) hstk hd ?_
                exact ih d k _ _ _ _ r hE e0 p e s m args below meth c H locs cells slots mc ms ls FR0 hA hl hL hc hs
              next =>
                split at hstp
                next c1 hgo =>
                  cases hstp
                  refine q_simGo hx hb hgo hd (fun e1 e2 => ?_)
                  subst e1; subst e2
                  exact ih d k _ _ _ _ r hE e0 p e s m args below meth c H locs cells slots mc ms ls FR0 hA hl hL hc hs
                next =>
                  split at hstp
                  next n st2 h2 hhea =>
                    cases hstp
                    have hm3 := q_hea_mono hhea
                    refine q_simHea hx hb hown htU hNS.2.1 hK hA (hl.1.trans hml.symm) hin (fun h0 => ⟨by show 1 ≤ d; omega, by show 64 ≤ 64 * d; omega⟩) hhea hd (by show cells + (qN h1 - qN h) ≤ mc; omega) (by show slots + (qZ h1 - qZ h) ≤ ms; omega) (fun H1 locs1 hA1 => ?_)
                    exact ih d k _ _ _ _ r hE e0 p e s m args below meth c H1 locs1 _ _ mc ms ls FR0 hA1 hl hL (by omega) (by omega)
                  next => cases hstp
          next => cases e0
