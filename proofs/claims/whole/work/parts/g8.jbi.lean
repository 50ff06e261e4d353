/-! THE TEXT METHODS OF THE JDK: what the small machine asks of them -/
theorem jj_wk {l : Launch} {y : MethodName} {ws : List Cond} {rm : Room} {Pc Pc' : Array Value → State → Prop} {Qc Qc' : Array Value → State → Outcome → State → Prop} {free free' : Addr → Prop} {mc ms : Nat} (h : Met l y ws rm Pc Qc mc ms free) (hp : ∀ a s, Pc' a s → Pc a s) (hq : ∀ a st o t, Pc' a st → Qc a st o t → Qc' a st o t) (hff : ∀ q, free q → free' q) : Met l y ws rm Pc' Qc' mc ms free' := by
  intro p e ha hc hk s m args below hf happ hP hI
  obtain ⟨k, o, h1, h2, h3, hQ, L, hL, hL2⟩ := h p e ha hc hk s m args below hf happ (hp _ _ hP) hI
  exact ⟨k, o, h1, h2, h3, hq _ _ _ _ hP hQ, L, hL, fun q hq => hff _ (hL2 q hq)⟩
theorem q_VS.narrow {aS aV : Nat → Nat} {A A' : Nat → Prop} {U : State} {H : Heap} (h : q_VS aS aV A U H) (hA : ∀ q, A' q → A q) : q_VS aS aV A' U H := ⟨h.1.narrow hA, h.2.1.narrow hA, h.2.2.narrow hA⟩
section JB
variable {l : Launch} {D : va_G} {B : Nat} {aS aV : Nat → Nat} {tc : Nat → ClassId} {d : Nat} {h : q_Hp}
theorem jj_bi {k : Nat} {y : MethodName} {c : ByteArray} {n : Nat} {r : Option FieldType} {av : List Value} {v : Int32} (hM : jj_C l (B + qN h) aS aV d y c n r (av.map (q_cv (q_ad B aS))) v) (hk : q_nm k = y) (hw : q_ws k = jj_ws y c n r) : q_Ct2 l D B aS aV tc d k av h (some (.int v)) h := by
  unfold q_Ct2
  rw [hk, hw, Nat.sub_self, Nat.sub_self]
  refine jj_wk hM ?_ ?_ (fun q hq => by have hq : B + qN h < q := hq; show B < q; omega)
  · rintro a s ⟨rfl, _, _, _, _, _, hVS⟩
    exact ⟨rfl, q_VS.narrow hVS (fun q hq => by have hq : B + qN h < q := hq; show B < q; omega)⟩
  · rintro a st o t ⟨rfl, hz, hN, hP, _, _, _⟩ ⟨⟨z, u, rfl, hz2, _⟩, F1, F2⟩
    have hz2 : z = v := hz2
    subst hz2
    have same : ∀ q : Nat, q < st.heap.size → t.heap[q]? = st.heap[q]? := fun q hq => F2 q hq (by show ¬ B + qN h < q; omega)
    exact ⟨rfl, hP.kept (fun k q hk => same _ (hP k q hk).lt), hN, F1, fun q h1 h2 => same q h1⟩
theorem jj_key {k s : Nat} {tl : List Value} (hrec : q_rec k (.ref s :: tl) h = true) (hs : q_stc k = false) (ho : q_ow k = 15) : ∃ i, i < 2 ∧ q_cv (q_ad B aS) (.ref s) = .ref (aS i) ∧ q_tx s = q_byt.getD i [] := by
  unfold q_rec at hrec
  rw [hs, ho, Bool.false_or] at hrec
  simp only [Bool.and_eq_true, Bool.or_eq_true, decide_eq_true_eq] at hrec
  obtain ⟨⟨⟨hr, _⟩, _⟩, _⟩ := hrec
  have h2 : 2 ^ 30 ≤ s ∧ s < 2 ^ 30 + 2 := by
    rcases hr with ⟨h1, _⟩ | ⟨⟨_, h1⟩, h2⟩
    · exact absurd h1 (by decide)
    · exact ⟨h1, h2⟩
  have h6 : s = 2 ^ 30 ∨ s = 2 ^ 30 + 1 := by omega
  rcases h6 with rfl | rfl
  · refine ⟨0, by decide, ?_, rfl⟩
    show (if 2 ^ 30 = 0 then Value.null else Value.ref (q_ad B aS (2 ^ 30))) = _
    rw [if_neg (by decide), q_aS0]
  · refine ⟨1, by decide, ?_, rfl⟩
    show (if 2 ^ 30 + 1 = 0 then Value.null else Value.ref (q_ad B aS (2 ^ 30 + 1))) = _
    rw [if_neg (by decide), q_aS1]
theorem q_BI : ∀ (d k : Nat) (av : List Value) (h h' : q_Hp) (r : Option Value), 8 ≤ d → q_bi k av h = some (r, h') → q_rec k av h = true → q_Ct2 l D B aS aV tc d k av h r h' := by
  intro d k av h h' r h8 e hrec
  obtain ⟨d', rfl⟩ : ∃ d', d = d' + 3 := ⟨d - 3, by omega⟩
  unfold q_bi at e
  by_cases h3 : k = 353
  · rw [if_pos h3] at e
    subst h3
    split at e
    next s =>
      cases e
      obtain ⟨i, hi, e1, e2⟩ := jj_key (B := B) (aS := aS) hrec rfl rfl
      rw [e2, ← (jj_ln i hi).1]
      refine jj_bi (y := yJ0_length_8abf5) (c := cJ0_length_8abf5) (n := 1) (r := some .int) ?_ rfl rfl
      rw [List.map_cons, e1]
      exact jc_length (d := d' + 2) hi
    next => cases e
  rw [if_neg h3] at e
  by_cases h4 : k = 354
  · rw [if_pos h4] at e
    subst h4
    split at e
    next s x =>
      split at e
      next hin =>
        cases e
        obtain ⟨i, hi, e1, e2⟩ := jj_key (B := B) (aS := aS) hrec rfl rfl
        rw [e2] at hin ⊢
        obtain ⟨hx0, hxl⟩ := hin
        have hxe : x = nI x.toNatClampNeg := by
          obtain ⟨j, hj, rfl⟩ := nI_of hx0
          rw [nI_clamp hj]
        generalize x.toNatClampNeg = j at hxe hxl ⊢
        subst hxe
        refine jj_bi (y := yJ0_charAt_5068e) (c := cJ0_charAt_5068e) (n := 2) (r := some .char) ?_ rfl rfl
        rw [List.map_cons, e1]
        exact jc_charAt (d := d') hi (by rw [(jj_ln i hi).1]; exact hxl)
      next => cases e
    next => cases e
  rw [if_neg h4] at e
  by_cases h5 : k = 355
  · rw [if_pos h5] at e
    subst h5
    split at e
    next s x =>
      split at e
      next hin =>
        cases e
        obtain ⟨i, hi, e1, e2⟩ := jj_key (B := B) (aS := aS) hrec rfl rfl
        rw [e2]
        obtain ⟨j, hj, rfl⟩ := nI_of hin.1
        have h256 : j < 256 := (nI_ltI (b := 256) hj (by decide)).mp hin.2
        refine jj_bi (y := yJ0_indexOf_0f7a4) (c := cJ0_indexOf_0f7a4) (n := 2) (r := some .int) ?_ rfl rfl
        rw [List.map_cons, e1]
        exact jc_indexOf (d := d') hi h256
      next => cases e
    next => cases e
  rw [if_neg h5] at e
  cases e
end JB
