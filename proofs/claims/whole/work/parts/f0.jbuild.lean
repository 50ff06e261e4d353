/-! THE CONSTRUCTORS: a heap that is being made, cell by cell, as the table has it -/
def j_z : Nat → Nat
  | 0 => 0
  | n + 1 => j_z n + (q_kd0 (n + 1)).2
abbrev j_F : Type := (Nat → Nat → Int32) × (Nat → Nat → Int32) × (Nat → Nat → Int64)
/-- so many cells; of these objects only these references are told yet; ints, elements, longs -/
def j_J (N : Nat) (stk : List (Nat × List Nat)) (f : j_F) (h : q_Hp) : Prop :=
  (qN h = N ∧ qZ h = j_z N ∧ N < 2 ^ 20) ∧ (∀ a, a ≤ N → qK h a = q_kd0 a) ∧ (∀ o s, o ≤ N → 0 < q_fr0 o s → (∀ e, e ∈ stk → e.1 = o → s ∈ e.2) → qR h o s = q_fr0 o s) ∧ (qI h = f.1 ∧ qA h = f.2.1 ∧ qL h = f.2.2) ∧ ∀ a j, N < a → f.1 a j = 0 ∧ f.2.1 a j = 0 ∧ f.2.2 a j = 0
def j_row (a : Nat) : List Nat := ((q_frT[a / 32]?).getD [])[a % 32]?.getD []
section JJ
variable {N o s a j kd n : Nat} {stk : List (Nat × List Nat)} {l : List Nat} {f : j_F} {h : q_Hp}
theorem j_fr0 (e : j_row a = []) (s : Nat) : ¬ 0 < q_fr0 a s := by
  have : q_fr0 a s = (j_row a)[s]?.getD 0 := rfl
  rw [this, e]
  exact Nat.lt_irrefl 0
theorem j_J.al (J : j_J N stk f h) (hk : q_kd0 (N + 1) = (kd, n)) (hN : N + 1 < 2 ^ 20) : j_J (N + 1) ((N + 1, []) :: stk) f (q_al h kd n) := by
  obtain ⟨⟨a1, a2, a3⟩, b, c, ⟨d1, d2, d3⟩, e⟩ := J
  subst a1
  refine ⟨⟨rfl, ?_, hN⟩, fun a ha => ?_, fun o s ho h0 hs => ?_, ⟨?_, ?_, ?_⟩, fun a j ha => e a j (by omega)⟩
  · show qZ h + n = j_z (qN h) + (q_kd0 (qN h + 1)).2
    rw [a2, hk]
  · show (if a = qN h + 1 then (kd, n) else qK h a) = _
    by_cases h9 : a = qN h + 1
    · rw [if_pos h9, h9, hk]
    · rw [if_neg h9]
      exact b a (by omega)
  · show (if o = qN h + 1 then 0 else qR h o s) = _
    by_cases h9 : o = qN h + 1
    · exact absurd (hs _ (List.mem_cons_self ..) h9.symm) List.not_mem_nil
    · rw [if_neg h9]
      exact c o s (by omega) h0 (fun e he => hs e (List.mem_cons_of_mem _ he))
  · funext x y
    show (if x = qN h + 1 then 0 else qI h x y) = _
    by_cases h9 : x = qN h + 1
    · rw [if_pos h9, (e x y (by omega)).1]
    · rw [if_neg h9, d1]
  · funext x y
    show (if x = qN h + 1 then 0 else qA h x y) = _
    by_cases h9 : x = qN h + 1
    · rw [if_pos h9, (e x y (by omega)).2.1]
    · rw [if_neg h9, d2]
  · funext x y
    show (if x = qN h + 1 then 0 else qL h x y) = _
    by_cases h9 : x = qN h + 1
    · rw [if_pos h9, (e x y (by omega)).2.2]
    · rw [if_neg h9, d3]
theorem j_J.pop (J : j_J N ((o, l) :: stk) f h) (hp : ∀ s, 0 < q_fr0 o s → s ∈ l) : j_J N stk f h := by
  obtain ⟨a, b, c, d, e⟩ := J
  refine ⟨a, b, fun o' s ho h0 hs => c o' s ho h0 (fun e he h9 => ?_), d, e⟩
  rcases List.mem_cons.mp he with rfl | he
  · have h8 : o = o' := h9
    subst h8
    exact hp s h0
  · exact hs e he h9
theorem j_J.popr (J : j_J N ((o, l) :: stk) f h) (hp : j_row o = []) : j_J N stk f h := J.pop (fun s h0 => absurd h0 (j_fr0 hp s))
theorem j_J.popd (J : j_J N ((o, l) :: stk) f h) (hp : (List.range (j_row o).length).all (fun s => decide (q_fr0 o s = 0) || l.contains s) = true) : j_J N stk f h := J.pop (fun s h0 => by
  rw [List.all_eq_true] at hp
  by_cases h9 : s < (j_row o).length
  · have := hp s (List.mem_range.mpr h9)
    rw [Bool.or_eq_true] at this
    rcases this with h8 | h8
    · have := of_decide_eq_true h8
      omega
    · exact List.contains_iff_mem.mp h8
  · have : q_fr0 o s = (j_row o)[s]?.getD 0 := rfl
    rw [this, List.getElem?_eq_none (by omega)] at h0
    exact absurd h0 (Nat.lt_irrefl 0))
theorem j_J.sR {v : Nat} (J : j_J N ((o, l) :: stk) f h) (hv : q_fr0 o s = v) : j_J N ((o, s :: l) :: stk) f (q_sR h o s v) := by
  obtain ⟨a, b, c, d, e⟩ := J
  refine ⟨a, b, fun o' s' ho h0 hs => ?_, d, e⟩
  rw [qR_sR]
  by_cases h9 : o' = o ∧ s' = s
  · rw [if_pos h9, h9.1, h9.2, hv]
  · rw [if_neg h9]
    refine c o' s' ho h0 (fun e he h8 => ?_)
    rcases List.mem_cons.mp he with rfl | he
    · have h7 : o = o' := h8
      have := hs _ (List.mem_cons_self ..) h8
      rcases List.mem_cons.mp this with h6 | h6
      · exact absurd ⟨h7.symm, h6⟩ h9
      · exact h6
    · exact hs e (List.mem_cons_of_mem _ he) h8
theorem j_J.sI {v : Int32} (J : j_J N stk f h) (ho : o ≤ N) : j_J N stk (q_up f.1 o j v, f.2) (q_sI h o j v) := by
  obtain ⟨a, b, c, ⟨d1, d2, d3⟩, e⟩ := J
  refine ⟨a, b, c, ⟨?_, d2, d3⟩, fun x y hx => ⟨?_, (e x y hx).2⟩⟩
  · show q_up (qI h) o j v = _
    rw [d1]
  · show (if x = o ∧ y = j then v else f.1 x y) = 0
    rw [if_neg (fun h9 => by omega)]
    exact (e x y hx).1
theorem j_J.sL {v : Int64} (J : j_J N stk f h) (ho : o ≤ N) : j_J N stk (f.1, f.2.1, q_up f.2.2 o j v) (q_sL h o j v) := by
  obtain ⟨a, b, c, ⟨d1, d2, d3⟩, e⟩ := J
  refine ⟨a, b, c, ⟨d1, d2, ?_⟩, fun x y hx => ⟨(e x y hx).1, (e x y hx).2.1, ?_⟩⟩
  · show q_up (qL h) o j v = _
    rw [d3]
  · show (if x = o ∧ y = j then v else f.2.2 x y) = 0
    rw [if_neg (fun h9 => by omega)]
    exact (e x y hx).2.2
theorem j_J.ok {cd : Nat} (J : j_J N stk f h) (ha : 0 < a ∧ a ≤ N) (hk : (q_kd0 a).1 = cd) : q_ok h a cd := ⟨ha.1, by rw [J.1.1]; exact ha.2, by rw [J.2.1 a ha.2]; exact hk⟩
theorem j_J.len {m : Nat} (J : j_J N stk f h) (ha : a ≤ N) (hk : (q_kd0 a).2 = m) : (qK h a).2 = m := by
  rw [J.2.1 a ha]
  exact hk
theorem j_J.R {v : Nat} (J : j_J N stk f h) (ho : o ≤ N) (hv : q_fr0 o s = v) (h0 : 0 < v) (hs : ∀ e, e ∈ stk → e.1 = o → s ∈ e.2) : qR h o s = v := by
  rw [← hv]
  exact J.2.2.1 o s ho (by rw [hv]; exact h0) hs
variable {d k pc : Nat} {L : q_Lc} {st : List Value} {Q : Option Value → q_Hp → Prop}
/-- a new row of ints and the like, put into a field -/
theorem wp_fa {t : ArrayType} {i ci sl m : Nat} {x : Int32} (hfe : q_fe k pc = some (.newarray t)) (ht : q_kd t = some kd) (hx : ¬ x < 0 ∧ x.toNatClampNeg ≤ 65536) (hfe2 : q_fe k (pc + 2) = some (.putfield i)) (hf : q_lk (q_flT (q_ow k)) i = some (ci, sl)) (hfin : q_fin ci sl = false ∨ (q_ini k = true ∧ q_ow k = ci)) (hti : q_isI (q_ty ci sl) = false) (htj : q_isJ (q_ty ci sl) = false) (J : j_J N ((o, l) :: stk) f h) (ho : 0 < o ∧ o ≤ N) (hko : (q_kd0 o).1 = ci) (hm : x.toNatClampNeg = m) (hkd : q_kd0 (N + 1) = (kd, m)) (hfr : j_row (N + 1) = []) (hv : q_fr0 o sl = N + 1) (hN : N + 1 < 2 ^ 20) (w : ∀ h', j_J (N + 1) ((o, sl :: l) :: stk) f h' → q_wp d k (pc + 5) L st h' Q) : q_wp d k pc L (.int x :: .ref o :: st) h Q := by
  have hn := J.1.1
  refine wp_newa hfe ht hx (by omega) ?_
  have J1 := (J.al (kd := kd) (n := m) hkd hN).popr hfr
  rw [hn, hm]
  refine wp_putR hfe2 hf hfin hti htj (J1.ok ⟨ho.1, by omega⟩ hko) (w _ (J1.sR hv))
/-- a reference put into a field -/
theorem wp_fr {i ci sl v : Nat} (hfe2 : q_fe k pc = some (.putfield i)) (hf : q_lk (q_flT (q_ow k)) i = some (ci, sl)) (hfin : q_fin ci sl = false ∨ (q_ini k = true ∧ q_ow k = ci)) (hti : q_isI (q_ty ci sl) = false) (htj : q_isJ (q_ty ci sl) = false) (J : j_J N ((o, l) :: stk) f h) (ho : 0 < o ∧ o ≤ N) (hko : (q_kd0 o).1 = ci) (hv : q_fr0 o sl = v) (w : ∀ h', j_J N ((o, sl :: l) :: stk) f h' → q_wp d k (pc + 3) L st h' Q) : q_wp d k pc L (.ref v :: .ref o :: st) h Q := wp_putR hfe2 hf hfin hti htj (J.ok ho hko) (w _ (J.sR hv))
/-- a new object -/
theorem wp_fn {i ci : Nat} (hfe : q_fe k pc = some (.new i)) (hc : q_lkk q_clT (q_ow k, i) = some ci) (J : j_J N stk f h) (hkd : q_kd0 (N + 1) = (ci, q_nf ci)) (hN : N + 1 < 2 ^ 20) (w : ∀ h', j_J (N + 1) ((N + 1, []) :: stk) f h' → q_wp d k (pc + 3) L (.ref (N + 1) :: st) h' Q) : q_wp d k pc L st h Q := by
  have hn := J.1.1
  refine wp_new hfe hc (by omega) ?_
  rw [hn]
  exact w _ (J.al hkd hN)
end JJ
