/-! THE SMALL MACHINE IS THE MACHINE, second half: the heap -/
def q_cfv (ad : Nat → Nat) (h : q_Hp) (ci a k : Nat) : Value := match q_isI (q_ty ci k) with
  | true => .int (qI h a k)
  | false => match q_isJ (q_ty ci k) with
    | true => .long (qL h a k)
    | false => q_cv ad (.ref (qR h a k))
def q_rfo (ad : Nat → Nat) (r : Nat) : Option Nat := if r = 0 then none else some (ad r)
def q_ce (ad : Nat → Nat) (tc : Nat → ClassId) (h : q_Hp) (a : Nat) : va_E :=
  if (qK h a).1 = 21 then .inl (tc 21, (qK h a).2, .inr (.inl (qL h a)))
  else if (qK h a).1 = 24 then .inl (tc 24, (qK h a).2, .inr (.inr (.inr (.inr fun j => q_rfo ad (qR h a j)))))
  else if 20 ≤ (qK h a).1 then .inl (tc (qK h a).1, (qK h a).2, .inl (qA h a))
  else .inr ((qK h a).1, (List.range (q_nf (qK h a).1)).map (q_cfv ad h (qK h a).1 a))
def q_wl (ad : Nat → Nat) (tc : Nat → ClassId) (h : q_Hp) : va_W := (List.range (qN h)).map fun i => (ad (i + 1), q_ce ad tc h (i + 1))
def q_tys (tc : Nat → ClassId) : List (ClassId × FieldType) := [(tc 20, .int), (tc 21, .long), (tc 22, .byte), (tc 23, .boolean), (tc 24, .object RX6)]
theorem q_ce_obj {ad : Nat → Nat} {tc : Nat → ClassId} {h : q_Hp} {a ci : Nat} (hk : (qK h a).1 = ci) (hc : ci < 13) : q_ce ad tc h a = .inr (ci, (List.range (q_nf ci)).map (q_cfv ad h ci a)) := by
  unfold q_ce
  rw [hk, if_neg (by omega), if_neg (by omega), if_neg (by omega)]
theorem q_ce_lng {ad : Nat → Nat} {tc : Nat → ClassId} {h : q_Hp} {a : Nat} (hk : (qK h a).1 = 21) : q_ce ad tc h a = .inl (tc 21, (qK h a).2, .inr (.inl (qL h a))) := by
  unfold q_ce
  rw [if_pos hk]
theorem q_ce_rul {ad : Nat → Nat} {tc : Nat → ClassId} {h : q_Hp} {a : Nat} (hk : (qK h a).1 = 24) : q_ce ad tc h a = .inl (tc 24, (qK h a).2, .inr (.inr (.inr (.inr fun j => q_rfo ad (qR h a j))))) := by
  unfold q_ce
  rw [if_neg (by omega), if_pos hk]
theorem q_ce_ints {ad : Nat → Nat} {tc : Nat → ClassId} {h : q_Hp} {a cd : Nat} (hk : (qK h a).1 = cd) (hc : cd = 20 ∨ cd = 22 ∨ cd = 23) : q_ce ad tc h a = .inl (tc cd, (qK h a).2, .inl (qA h a)) := by
  unfold q_ce
  rw [hk, if_neg (by omega), if_neg (by omega), if_pos (by omega)]
theorem q_wl_get {ad : Nat → Nat} {tc : Nat → ClassId} {h : q_Hp} {a : Nat} (h0 : 0 < a) (h1 : a ≤ qN h) : (q_wl ad tc h)[a - 1]? = some (ad a, q_ce ad tc h a) := by
  obtain ⟨b, rfl⟩ : ∃ b, a = b + 1 := ⟨a - 1, by omega⟩
  unfold q_wl
  rw [List.getElem?_map, Nat.add_sub_cancel, List.getElem?_range (by omega)]
  rfl
theorem q_wl_set {ad : Nat → Nat} {tc : Nat → ClassId} {h h' : q_Hp} {a : Nat} {e : va_E} (hn : qN h' = qN h) (hne : ∀ b, b ≠ a → q_ce ad tc h' b = q_ce ad tc h b) (he : q_ce ad tc h' a = e) (h0 : 0 < a) : (q_wl ad tc h).set (a - 1) (ad a, e) = q_wl ad tc h' := by
  obtain ⟨b, rfl⟩ : ∃ b, a = b + 1 := ⟨a - 1, by omega⟩
  subst he
  rw [Nat.add_sub_cancel]
  apply List.ext_getElem?
  intro j
  rw [List.getElem?_set]
  unfold q_wl
  rw [List.getElem?_map, List.getElem?_map, hn, List.length_map, List.length_range]
  split
  next h1 =>
    subst h1
    split
    next h2 => rw [List.getElem?_range h2]; rfl
    next h2 => rw [List.getElem?_eq_none (by rw [List.length_range]; omega)]; rfl
  next h1 =>
    cases hj : (List.range (qN h))[j]? with
    | none => rfl
    | some i =>
      have : i = j := by
        obtain ⟨g1, g2⟩ := List.getElem?_eq_some_iff.mp hj
        rw [List.getElem_range] at g2
        exact g2.symm
      subst this
      show some (ad (i + 1), q_ce ad tc h (i + 1)) = some (ad (i + 1), q_ce ad tc h' (i + 1))
      rw [hne (i + 1) (by omega)]
theorem q_ad_lt {B a : Nat} {aS : Nat → Nat} (h : a < 2 ^ 30) : q_ad B aS a = B + a := by
  unfold q_ad
  rw [if_pos h]
theorem q_wl_D {B : Nat} {aS : Nat → Nat} {tc : Nat → ClassId} {h : q_Hp} (hN : qN h < 2 ^ 30) : va_D (fun q => B < q) (q_wl (q_ad B aS) tc h) := by
  have key : ∀ (k : Nat) (q : Nat × va_E), (q_wl (q_ad B aS) tc h)[k]? = some q → q.1 = B + (k + 1) := by
    intro k q hq
    unfold q_wl at hq
    rw [List.getElem?_map] at hq
    cases hj : (List.range (qN h))[k]? with
    | none => rw [hj] at hq; cases hq
    | some i =>
      obtain ⟨g1, g2⟩ := List.getElem?_eq_some_iff.mp hj
      rw [List.getElem_range] at g2
      rw [List.length_range] at g1
      subst g2
      rw [hj] at hq
      cases hq
      exact q_ad_lt (by omega)
  refine ⟨fun i j x y hx hy hxy => ?_, fun k q hq => ?_⟩
  · have := key i x hx
    have := key j y hy
    omega
  · have := key k q hq
    show B < q.1
    omega
theorem q_CLg {ci : Nat} (h : ci < 13) : q_CL[ci]? = some (q_cn ci, q_ct ci, q_nf ci) := by
  match ci, h with
  | 0, _ => rfl
  | 1, _ => rfl
  | 2, _ => rfl
  | 3, _ => rfl
  | 4, _ => rfl
  | 5, _ => rfl
  | 6, _ => rfl
  | 7, _ => rfl
  | 8, _ => rfl
  | 9, _ => rfl
  | 10, _ => rfl
  | 11, _ => rfl
  | 12, _ => rfl
theorem q_uwA {ci : Nat} (h : ci < 13) : ∀ w ∈ u_ws (q_cn ci) (q_ct ci) (q_nf ci), w ∈ lw_tbl := by
  match ci, h with
  | 0, _ => exact q_uw0
  | 1, _ => exact q_uw1
  | 2, _ => exact q_uw2
  | 3, _ => exact q_uw3
  | 4, _ => exact q_uw4
  | 5, _ => exact q_uw5
  | 6, _ => exact q_uw6
  | 7, _ => exact q_uw7
  | 8, _ => exact q_uw8
  | 9, _ => exact q_uw9
  | 10, _ => exact q_uw10
  | 11, _ => exact q_uw11
  | 12, _ => exact q_uw12
def q_UW : List Cond := lw_tbl.filter goodWord
theorem q_UWm {w : Cond} (h : w ∈ lw_tbl) (hg : goodWord w = true) : w ∈ q_UW := List.mem_filter.mpr ⟨h, hg⟩
theorem q_uwU {ci : Nat} (h : ci < 13) : ∀ w ∈ u_ws (q_cn ci) (q_ct ci) (q_nf ci), w ∈ q_UW := by
  intro w hw
  refine q_UWm (q_uwA h w hw) ?_
  obtain ⟨k, -, rfl⟩ := List.mem_map.mp hw
  unfold u_lay
  split <;> rfl
theorem q_tyok {ci : Nat} (h : ci < 13) : ∀ k, k < q_nf ci → parseFieldDescriptor (q_ct ci k).2.2.1 = some (q_ty ci k) := by
  match ci, h with
  | 0, _ => exact tyX0_ok
  | 1, _ => exact tyX1_ok
  | 2, _ => exact tyX2_ok
  | 3, _ => exact tyX3_ok
  | 4, _ => exact tyX4_ok
  | 5, _ => exact tyX5_ok
  | 6, _ => exact tyX6_ok
  | 7, _ => exact tyX7_ok
  | 8, _ => exact tyX8_ok
  | 9, _ => exact tyX9_ok
  | 10, _ => exact tyX10_ok
  | 11, _ => exact tyX11_ok
  | 12, _ => exact tyX12_ok
theorem q_nmok {ci : Nat} (h : ci < 13) : ∀ a, a < q_nf ci → ∀ b, b < q_nf ci → a ≠ b → (q_ct ci a).2.1 ≠ (q_ct ci b).2.1 := by
  match ci, h with
  | 0, _ => exact nmX0
  | 1, _ => exact nmX1
  | 2, _ => exact nmX2
  | 3, _ => exact nmX3
  | 4, _ => exact nmX4
  | 5, _ => exact nmX5
  | 6, _ => exact nmX6
  | 7, _ => exact nmX7
  | 8, _ => exact nmX8
  | 9, _ => exact nmX9
  | 10, _ => exact nmX10
  | 11, _ => exact nmX11
  | 12, _ => exact nmX12
def q_isR (t : FieldType) : Bool := match t with
  | .object _ => true
  | .array _ => true
  | _ => false
theorem q_ctok : ∀ ci, ci < 13 → ∀ k, k < q_nf ci → (q_ct ci k).1 = q_cn ci ∧ (q_isI (q_ty ci k) || (q_isJ (q_ty ci k) || q_isR (q_ty ci k))) = true := by decide +kernel
theorem q_fl_lt {own idx ci sl : Nat} (h : q_lk (q_flT own) idx = some (ci, sl)) : ci < 13 ∧ sl < q_nf ci := by
  have h1 := q_lk_mem h
  by_cases ho : own < 13
  · have h2 := List.all_eq_true.mp (q_flOK own ho) _ h1
    simp only [Bool.and_eq_true, decide_eq_true_eq] at h2
    exact h2
  · exfalso
    match own, h1, ho with
    | n + 13, h1, _ => exact absurd h1 List.not_mem_nil
    | 0, _, ho => exact ho (by decide)
    | 1, _, ho => exact ho (by decide)
    | 2, _, ho => exact ho (by decide)
    | 3, _, ho => exact ho (by decide)
    | 4, _, ho => exact ho (by decide)
    | 5, _, ho => exact ho (by decide)
    | 6, _, ho => exact ho (by decide)
    | 7, _, ho => exact ho (by decide)
    | 8, _, ho => exact ho (by decide)
    | 9, _, ho => exact ho (by decide)
    | 10, _, ho => exact ho (by decide)
    | 11, _, ho => exact ho (by decide)
    | 12, _, ho => exact ho (by decide)
theorem q_nar_I {t : FieldType} {v : Int32} (h : q_isI t = true) (hz : q_isZ t = true → v = 0 ∨ v = 1) : narrow t (.int v) = .int v ∧ fits t (.int v) = true := by
  cases t with
  | int => exact ⟨rfl, rfl⟩
  | boolean => rcases hz rfl with rfl | rfl <;> exact ⟨rfl, rfl⟩
  | _ => cases h
theorem q_nar_R {t : FieldType} {ad : Nat → Nat} {v : Nat} (h : q_isR t = true) : narrow t (q_cv ad (.ref v)) = q_cv ad (.ref v) ∧ fits t (q_cv ad (.ref v)) = true := by
  show narrow t (if v = 0 then Value.null else Value.ref (ad v)) = (if v = 0 then Value.null else Value.ref (ad v)) ∧ fits t (if v = 0 then Value.null else Value.ref (ad v)) = true
  cases t with
  | object C => split <;> exact ⟨rfl, rfl⟩
  | array t => split <;> exact ⟨rfl, rfl⟩
  | _ => cases h
theorem q_nar_J {t : FieldType} {v : Int64} (h : q_isJ t = true) : narrow t (.long v) = .long v ∧ fits t (.long v) = true := by
  cases t with
  | long => exact ⟨rfl, rfl⟩
  | _ => cases h
-- what a store leaves of the other cells
theorem q_up_ne {α : Type} {f : Nat → Nat → α} {a b j : Nat} {v : α} (h : b ≠ a) : q_up f a j v b = f b := by
  funext y
  unfold q_up
  rw [if_neg (fun h2 => h h2.1)]
theorem q_up_same {α : Type} {f : Nat → Nat → α} {a j y : Nat} {v : α} : q_up f a j v a y = if y = j then v else f a y := by
  unfold q_up
  by_cases h : y = j
  · rw [if_pos ⟨rfl, h⟩, if_pos h]
  · rw [if_neg (fun h2 => h h2.2), if_neg h]
theorem q_ce_congr {ad : Nat → Nat} {tc : Nat → ClassId} {h h' : q_Hp} {b : Nat} (hk : qK h' b = qK h b) (hi : qI h' b = qI h b) (hr : qR h' b = qR h b) (ha : qA h' b = qA h b) (hl : qL h' b = qL h b) : q_ce ad tc h' b = q_ce ad tc h b := by
  have e1 : ∀ ci, q_cfv ad h' ci b = q_cfv ad h ci b := by
    intro ci
    funext k
    unfold q_cfv
    rw [hi, hr, hl]
  unfold q_ce
  rw [hk, hr, ha, hl, e1]
section QB
variable {p : Program} {l : Launch} {e : Env} {R : Room} {s : State} {m : MethodId} {args : Array Value} {below : List Frame} {meth : Method} {c : Code} {H : Heap} {locs : List Loc} {cells slots : Nat} {Q : State → Prop}
variable {cc : ByteArray} {pc : Nat} {ls : Array Slot} {rest : List Value} {B : Nat} {aS : Nat → Nat} {tc : Nat → ClassId} {D : va_G} {h : q_Hp}
/-- the world at a point of a method: its cells, and what was there before stays -/
def q_At (D : va_G) (B : Nat) (aS : Nat → Nat) (tc : Nat → ClassId) (s : State) (h : q_Hp) (H : Heap) (locs : List Loc) (cells : Nat) : Prop :=
  va_P D q_CL (q_wl (q_ad B aS) tc h) H ∧ va_S (fun q => B < q) s.heap H locs ∧ qN h < 2 ^ 30 ∧ s.heap.size + cells = B + 1 + qN h ∧ B + 1 ≤ s.heap.size
theorem q_getf (hx : p.tables.exec = Jvm.exec) (hb : c.code = cc) {own : Nat} (hown : s.vm.findClass (q_cn own) = some m.cls) (hts : ∀ w ∈ q_UW, w.before args s = true) (hK : va_K D q_CL (q_tys tc) s) (hA : q_At D B aS tc s h H locs cells)
    {i ci sl a : Nat} (hf : q_lk (q_flT own) i = some (ci, sl)) (hok : q_ok h a ci) (hdg : decode cc pc = .ok (.getfield i, 3))
    (k : W p l e R s m args below meth c H locs cells slots Q (F0 m (pc + 3) ls (q_cfv (q_ad B aS) h ci a sl :: rest))) : W p l e R s m args below meth c H locs cells slots Q (F0 m pc ls (.ref (q_ad B aS a) :: rest)) := by
  obtain ⟨hci, hsl⟩ := q_fl_lt hf
  have he := q_wl_get (ad := q_ad B aS) (tc := tc) hok.1 hok.2.1
  rw [q_ce_obj hok.2.2 hci] at he
  refine va_get (D := D) (ci := ci) (C := q_cn ci) (T := q_ct ci) (N := q_nf ci) hx hb hts (q_uwU hci) hown hK hA.1 (a - 1) he (q_CLg hci) sl hsl (hts _ (q_UWm (q_fl_ok hf) rfl)) (fun x h9 => by rw [(q_ctok ci hci sl hsl).1] at h9; exact h9) ?_ hdg k
  rw [List.getElem?_map, List.getElem?_range hsl]
  rfl
theorem q_putI {h h' : q_Hp} {ci a sl : Nat} {ad : Nat → Nat} {v : Value} (hn : q_nf ci ≤ q_nf ci) (hs : ∀ k, k ≠ sl → q_cfv ad h' ci a k = q_cfv ad h ci a k) (hv : q_cfv ad h' ci a sl = v) : ((List.range (q_nf ci)).map (q_cfv ad h ci a)).set sl v = (List.range (q_nf ci)).map (q_cfv ad h' ci a) := by
  apply List.ext_getElem?
  intro j
  rw [List.getElem?_set, List.getElem?_map, List.getElem?_map, List.length_map, List.length_range]
  split
  next h1 =>
    subst h1
    split
    next h2 => rw [List.getElem?_range h2, ← hv]; rfl
    next h2 => rw [List.getElem?_eq_none (by rw [List.length_range]; omega)]; rfl
  next h1 =>
    cases hj : (List.range (q_nf ci))[j]? with
    | none => rfl
    | some i =>
      have : i = j := by
        obtain ⟨g1, g2⟩ := List.getElem?_eq_some_iff.mp hj
        rw [List.getElem_range] at g2
        exact g2.symm
      subst this
      show some _ = some _
      rw [hs i (fun h2 => h1 h2.symm)]
theorem q_putf (hx : p.tables.exec = Jvm.exec) (hb : c.code = cc) {own : Nat} (hown : s.vm.findClass (q_cn own) = some m.cls) (hts : ∀ w ∈ q_UW, w.before args s = true) (hK : va_K D q_CL (q_tys tc) s) (hA : q_At D B aS tc s h H locs cells) {ini : Bool} (hini : ini = true → meth.name = "<init>")
    {i ci sl a : Nat} {h' : q_Hp} {v : Value} (hf : q_lk (q_flT own) i = some (ci, sl)) (hok : q_ok h a ci) (hfin : ¬ (q_fin ci sl = true ∧ ¬ (ini = true ∧ own = ci))) (hnar : narrow (q_ty ci sl) v = v ∧ fits (q_ty ci sl) v = true)
    (hn : qN h' = qN h) (hkk : ∀ b, qK h' b = qK h b) (hne : ∀ b, b ≠ a → q_ce (q_ad B aS) tc h' b = q_ce (q_ad B aS) tc h b) (hs : ∀ k, k ≠ sl → q_cfv (q_ad B aS) h' ci a k = q_cfv (q_ad B aS) h ci a k) (hv : q_cfv (q_ad B aS) h' ci a sl = v) (hdg : decode cc pc = .ok (.putfield i, 3))
    (k : ∀ (H1 : Heap) (locs1 : List Loc), q_At D B aS tc s h' H1 locs1 cells → W p l e R s m args below meth c H1 locs1 cells slots Q (F0 m (pc + 3) ls rest)) : W p l e R s m args below meth c H locs cells slots Q (F0 m pc ls (v :: .ref (q_ad B aS a) :: rest)) := by
  obtain ⟨hci, hsl⟩ := q_fl_lt hf
  obtain ⟨hP, hS, hN, hsz, hB⟩ := hA
  have he := q_wl_get (ad := q_ad B aS) (tc := tc) hok.1 hok.2.1
  rw [q_ce_obj hok.2.2 hci] at he
  have hw := q_wl_set (ad := q_ad B aS) (tc := tc) (e := .inr (ci, ((List.range (q_nf ci)).map (q_cfv (q_ad B aS) h ci a)).set sl v)) hn hne (by rw [q_ce_obj (by rw [hkk]; exact hok.2.2) hci, q_putI (Nat.le_refl _) hs hv]) hok.1
  have kk : ∀ (H1 : Heap) (locs1 : List Loc), va_P D q_CL ((q_wl (q_ad B aS) tc h).set (a - 1) (q_ad B aS a, .inr (ci, ((List.range (q_nf ci)).map (q_cfv (q_ad B aS) h ci a)).set sl v))) H1 → va_D (fun q => B < q) ((q_wl (q_ad B aS) tc h).set (a - 1) (q_ad B aS a, .inr (ci, ((List.range (q_nf ci)).map (q_cfv (q_ad B aS) h ci a)).set sl v))) → va_S (fun q => B < q) s.heap H1 locs1 → W p l e R s m args below meth c H1 locs1 cells slots Q (F0 m (pc + 3) ls rest) := by
    intro H1 locs1 hP1 _ hS1
    rw [hw] at hP1
    exact k H1 locs1 ⟨hP1, hS1, by rw [hn]; exact hN, by rw [hn]; exact hsz, hB⟩
  have hlk := hts _ (q_UWm (q_fl_ok hf) rfl)
  have hsame : ∀ x, s.fieldFound? (q_ct ci sl).1 (q_ct ci sl).2.1 (q_ct ci sl).2.2.1 = some x → s.fieldFound? (q_cn ci) (q_ct ci sl).2.1 (q_ct ci sl).2.2.1 = some x := fun x h9 => by rw [(q_ctok ci hci sl hsl).1] at h9; exact h9
  by_cases hF : q_fin ci sl = true
  · have h2 : ini = true ∧ own = ci := Classical.byContradiction fun h3 => hfin ⟨hF, h3⟩
    obtain ⟨h2, rfl⟩ := h2
    exact va_putF (D := D) (ci := own) (C := q_cn own) (T := q_ct own) (N := q_nf own) hx hb hts (q_uwU hci) (q_ty own) (q_tyok hci) (q_nmok hci) hown hK hP (q_wl_D hN) hS (a - 1) he (q_CLg hci) sl hsl hlk hsame hF (hini h2) (q_ctok own hci sl hsl).1 (q_tyok hci sl hsl) hnar.1 hnar.2 (by rw [List.length_map, List.length_range]; exact hsl) hdg kk
  · have hF : (q_ct ci sl).2.2.2 = false := by
      unfold q_fin at hF
      simpa using hF
    exact va_put (D := D) (ci := ci) (C := q_cn ci) (T := q_ct ci) (N := q_nf ci) hx hb hts (q_uwU hci) (q_ty ci) (q_tyok hci) (q_nmok hci) hown hK hP (q_wl_D hN) hS (a - 1) he (q_CLg hci) sl hsl hlk hsame hF (q_tyok hci sl hsl) hnar.1 hnar.2 (by rw [List.length_map, List.length_range]; exact hsl) hdg kk
theorem q_vin {i : Int32} {n : Nat} (h : q_in i n) : vp_in i n := fun h2 => h2.elim h.1 (fun h3 => absurd h.2 (by omega))
theorem q_Wsz (k : H.size ≤ s.heap.size + cells → W p l e R s m args below meth c H locs cells slots Q (F0 m pc ls rest)) : W p l e R s m args below meth c H locs cells slots Q (F0 m pc ls rest) :=
  fun T hT X => k (by rw [← hT]; exact X.heapSize) T hT X
theorem q_At.put (hA : q_At D B aS tc s h H locs cells) {h' : q_Hp} {a : Nat} {e' : va_E} (hn : qN h' = qN h) (hne : ∀ b, b ≠ a → q_ce (q_ad B aS) tc h' b = q_ce (q_ad B aS) tc h b) (he : q_ce (q_ad B aS) tc h' a = e') (h0 : 0 < a)
    {H1 : Heap} {locs1 : List Loc} (hP1 : va_P D q_CL ((q_wl (q_ad B aS) tc h).set (a - 1) (q_ad B aS a, e')) H1) (hS1 : va_S (fun q => B < q) s.heap H1 locs1) : q_At D B aS tc s h' H1 locs1 cells := by
  obtain ⟨hP, hS, hN, hsz, hB⟩ := hA
  rw [q_wl_set hn hne he h0] at hP1
  exact ⟨hP1, hS1, by rw [hn]; exact hN, by rw [hn]; exact hsz, hB⟩
/-- a new cell -/
theorem q_At.new (hA : q_At D B aS tc s h H locs cells) {cd len : Nat} {q : Nat} {H1 : Heap} {locs1 : List Loc} {e' : va_E} (hN1 : qN h + 1 < 2 ^ 30) (he : q_ce (q_ad B aS) tc (q_al h cd len) (qN h + 1) = e')
    (hP1 : va_P D q_CL (q_wl (q_ad B aS) tc h ++ [(q, e')]) H1) (hD1 : va_D (fun q => B < q) (q_wl (q_ad B aS) tc h ++ [(q, e')])) (hS1 : va_S (fun q => B < q) s.heap H1 locs1) (hs1 : H1.size ≤ s.heap.size + (cells + 1)) :
    q = q_ad B aS (qN h + 1) ∧ q_At D B aS tc s (q_al h cd len) H1 locs1 (cells + 1) := by
  obtain ⟨hP, hS, hN, hsz, hB⟩ := hA
  have hlen : (q_wl (q_ad B aS) tc h).length = qN h := by unfold q_wl; simp
  have hq : (q_wl (q_ad B aS) tc h ++ [(q, e')])[qN h]? = some (q, e') := by
    rw [List.getElem?_append_right (by omega), hlen, Nat.sub_self]
    rfl
  have h1 : q < H1.size := (hP1 _ _ hq).lt
  have h2 : B < q := hD1.2 _ _ hq
  have h3 : ¬ q ≤ B + qN h := by
    intro h4
    obtain ⟨a, ha⟩ : ∃ a, q = B + (a + 1) := ⟨q - B - 1, by omega⟩
    have h5 : a < qN h := by omega
    have h6 : (q_wl (q_ad B aS) tc h ++ [(q, e')])[a]? = some (q_ad B aS (a + 1), q_ce (q_ad B aS) tc h (a + 1)) := by
      rw [List.getElem?_append_left (by omega)]
      exact q_wl_get (a := a + 1) (by omega) (by omega)
    have h7 := hD1.1 _ _ _ _ h6 hq (by rw [q_ad_lt (by omega), ha])
    omega
  have h4 : q = q_ad B aS (qN h + 1) := by rw [q_ad_lt hN1]; omega
  refine ⟨h4, ?_, hS1, hN1, by show _ = B + 1 + (qN h + 1); omega, hB⟩
  subst h4
  have e1 : q_wl (q_ad B aS) tc (q_al h cd len) = q_wl (q_ad B aS) tc h ++ [(q_ad B aS (qN h + 1), e')] := by
    unfold q_wl
    show (List.range (qN h + 1)).map _ = _
    rw [List.range_succ, List.map_append]
    congr 1
    · apply List.map_congr_left
      intro i hi
      have hi := List.mem_range.mp hi
      have hne : i + 1 ≠ qN h + 1 := by omega
      rw [q_ce_congr (h' := q_al h cd len) (h := h)]
      · show (if i + 1 = qN h + 1 then (cd, len) else qK h (i + 1)) = _
        rw [if_neg hne]
      · funext y; show (if i + 1 = qN h + 1 then 0 else qI h (i + 1) y) = _; rw [if_neg hne]
      · funext y; show (if i + 1 = qN h + 1 then 0 else qR h (i + 1) y) = _; rw [if_neg hne]
      · funext y; show (if i + 1 = qN h + 1 then 0 else qA h (i + 1) y) = _; rw [if_neg hne]
      · funext y; show (if i + 1 = qN h + 1 then 0 else qL h (i + 1) y) = _; rw [if_neg hne]
    · show [(q_ad B aS (qN h + 1), q_ce (q_ad B aS) tc (q_al h cd len) (qN h + 1))] = _
      rw [he]
  rw [e1]
  exact hP1
end QB
