/-! THE RUNNER of the reference: its small methods -/
theorem n_l {k : q_Hp} (S : q_Sh k) {j : Nat} (hj : j < 200) : q_in (nI j) (qK k 703).2 ∧ q_in (nI j) (qK k 704).2 ∧ q_in (nI j) (qK k 705).2 ∧ q_in (nI j) (qK k 706).2 ∧ q_in (nI j) (qK k 707).2 ∧ q_in (nI j) (qK k 708).2 :=
  ⟨S.inN (n := 200) rfl hj (by decide), S.inN (n := 200) rfl hj (by decide), S.inN (n := 200) rfl hj (by decide), S.inN (n := 200) rfl hj (by decide), S.inN (n := 200) rfl hj (by decide), S.inN (n := 200) rfl hj (by decide)⟩
theorem s336 {k : q_Hp} {x : Int32} (S : q_Sh k) : q_mV 0 336 [.ref 630, .int x] k (fun k' => k' = q_sI (q_sI k 630 104 x) 630 106 0) := ⟨q_recV rfl (S.ok rfl), b336_0 (S.ok rfl) ⟨rfl, rfl⟩⟩
theorem s334 {k : q_Hp} {f w l : Nat} (S : q_Sh k) (hf : f < 200) (h8 : qA k 708 f = nI w) (hl : qI k 630 92 = nI l) (h1 : w < 2 ^ 30) (h2 : l < 2 ^ 30) : q_mV 1 334 [.ref 630, .int (nI f)] k (fun k' => q_Ef [630, 691] k k' ∧ (∀ j, qI k' 630 j = upd (upd (qI k 630) 91 (nI w)) 92 (nI (min l w)) j) ∧ qA k' 691 = va_cpy (qA k 709) (qA k 691) (156 * f) 0 156) := by
  refine q_mV.of (q_recV rfl (S.ok rfl)) (fun Q fin => ?_)
  have hc := s293 (h := k) (s := 709) (len := 31200) (b := 156 * f) S (S.ok rfl) (S.len rfl) (by omega) (by decide) (by decide)
  rw [← show (156 : Int32) * nI f = nI (156 * f) from pk_mul 156 f] at hc
  refine b334_0 (S.ok rfl) (S.ref (v := 709) rfl) hc (by decide) ?_
  rintro k1 rfl
  have e1 : q_Ef [691] k (q_wA k 691 (va_cpy (qA k 709) (qA k 691) (156 * f) 0 156)) := q_Ef.wA (by decide)
  have a1 : qA (q_wA k 691 (va_cpy (qA k 709) (qA k 691) (156 * f) 0 156)) 691 = va_cpy (qA k 709) (qA k 691) (156 * f) 0 156 := qA_wAs _ _ _
  generalize q_wA k 691 (va_cpy (qA k 709) (qA k 691) (156 * f) 0 156) = k1 at e1 a1
  have S1 := e1.sh S
  have i1 : qI k1 630 = qI k 630 := e1.I (by decide)
  have c8 : qA k1 708 (nI f : Int32).toNatClampNeg = nI w := by rw [nI_clamp (by omega), e1.A (show 708 ∉ [691] by decide)]; exact h8
  refine b334_13 (S1.ok rfl) (S1.ref (v := 708) rfl) (S1.ok rfl) (n_l S1 hf).2.2.2.2.2 (fun c => ?_) (fun c => ?_)
  · rw [c8] at c ⊢
    have c' : nI l ≤ nI w := by
      rw [← hl, ← i1]
      exact c
    have := (nI_leI (by omega) (by omega)).mp c'
    refine b334_42 (fin _ ⟨(e1.wide (by decide)).trans (q_Ef.sI (by decide)), fun j => ?_, a1⟩)
    rw [qI_sIu, i1]
    by_cases h9 : j = 92
    · rw [h9, upd_eq, upd_ne (by decide), hl, Nat.min_eq_left this]
    · rw [upd_ne h9]
  · rw [c8] at c ⊢
    have c' : ¬ nI l ≤ nI w := by
      rw [← hl, ← i1]
      exact c
    have := mt (nI_leI (by omega) (by omega)).mpr c'
    have S2 : q_Sh (q_sI k1 630 91 (nI w)) := S1
    refine b334_34 (S2.ok rfl) (b334_42 (fin _ ⟨((e1.wide (by decide)).trans (q_Ef.sI (by decide))).trans (q_Ef.sI (by decide)), fun j => ?_, a1⟩))
    rw [qI_sIu, qI_sIu, i1, upd_eq, Nat.min_eq_right (by omega)]
theorem s333 {k : q_Hp} {d : Nat} {x : Int32} (S : q_Sh k) (hd : qI k 630 106 = nI d) (h0 : 0 < d) (h1 : d ≤ 200) : q_mV 1 333 [.ref 630, .int x] k (fun k' => q_Ef [705, 707, 708, 709] k k' ∧ qA k' 705 = upd (qA k 705) (d - 1) x ∧ qA k' 707 = upd (qA k 707) (d - 1) 1 ∧ qA k' 708 = upd (qA k 708) (d - 1) (qI k 630 91) ∧ qA k' 709 = va_cpy (qA k 691) (qA k 709) 0 (156 * (d - 1)) 156) := by
  refine q_mV.of (q_recV rfl (S.ok rfl)) (fun Q fin => ?_)
  have e6 : qI k 630 106 - 1 = nI (d - 1) := by rw [hd, x_d1 h0]
  obtain ⟨n3, n4, n5, n6, n7, n8⟩ := n_l S (show d - 1 < 200 by omega)
  have e1 : q_Ef [705, 707, 708] k (q_sA (q_sA (q_sA k 705 (d - 1) x) 707 (d - 1) 1) 708 (d - 1) (qI k 630 91)) := ((q_Ef.sA (by decide)).trans (q_Ef.sA (by decide))).trans (q_Ef.sA (by decide))
  have a5 : qA (q_sA (q_sA (q_sA k 705 (d - 1) x) 707 (d - 1) 1) 708 (d - 1) (qI k 630 91)) 705 = upd (qA k 705) (d - 1) x := by
    rw [(q_Ef.sA (S := [708]) (by decide)).A (show 705 ∉ [708] by decide), (q_Ef.sA (S := [707]) (by decide)).A (show 705 ∉ [707] by decide), qA_sAu]
  have a7 : qA (q_sA (q_sA (q_sA k 705 (d - 1) x) 707 (d - 1) 1) 708 (d - 1) (qI k 630 91)) 707 = upd (qA k 707) (d - 1) 1 := by
    rw [(q_Ef.sA (S := [708]) (by decide)).A (show 707 ∉ [708] by decide), qA_sAu, (q_Ef.sA (S := [705]) (by decide)).A (show 707 ∉ [705] by decide)]
  have a8 : qA (q_sA (q_sA (q_sA k 705 (d - 1) x) 707 (d - 1) 1) 708 (d - 1) (qI k 630 91)) 708 = upd (qA k 708) (d - 1) (qI k 630 91) := by
    rw [qA_sAu, (q_Ef.sA (S := [707]) (by decide)).A (show 708 ∉ [707] by decide), (q_Ef.sA (S := [705]) (by decide)).A (show 708 ∉ [705] by decide)]
  have hh : q_sA (q_sA (q_sA k 705 ((qI k 630 106) - 1 : Int32).toNatClampNeg x) 707 ((qI k 630 106) - 1 : Int32).toNatClampNeg (vp_nar .boolean 1)) 708 ((qI k 630 106) - 1 : Int32).toNatClampNeg (qI k 630 91) = q_sA (q_sA (q_sA k 705 (d - 1) x) 707 (d - 1) 1) 708 (d - 1) (qI k 630 91) := by
    rw [e6, nI_clamp (by omega)]
    rfl
  generalize q_sA (q_sA (q_sA k 705 (d - 1) x) 707 (d - 1) 1) 708 (d - 1) (qI k 630 91) = k1 at e1 a5 a7 a8 hh
  have S1 := e1.sh S
  have hc := s292 (h := k1) (s := 709) (len := 31200) (b := 156 * (d - 1)) S1 (S1.ok rfl) (S1.len rfl) (by omega) (by decide) (by decide)
  rw [← show (156 : Int32) * nI (d - 1) = nI (156 * (d - 1)) from pk_mul 156 _, ← e6, ← hh] at hc
  refine b333_0 (S.ok rfl) (S.ref (v := 705) rfl) (S.ok rfl) (by rw [e6]; exact n5) (S.ref (v := 707) rfl) (S.ok rfl) (by rw [e6]; exact n7) (S.ref (v := 708) rfl) (S.ok rfl) (by rw [e6]; exact n8) (S.ref (v := 709) rfl) hc (by decide) ?_
  rw [hh]
  rintro k2 rfl
  have e2 : q_Ef [709] k1 (q_wA k1 709 (va_cpy (qA k1 691) (qA k1 709) 0 (156 * (d - 1)) 156)) := q_Ef.wA (by decide)
  refine b333_57 (fin _ ⟨(e1.wide (by decide)).trans (e2.wide (by decide)), (e2.A (by decide)).trans a5, (e2.A (by decide)).trans a7, (e2.A (by decide)).trans a8, ?_⟩)
  rw [qA_wAs, e1.A (show 691 ∉ [705, 707, 708] by decide), e1.A (show 709 ∉ [705, 707, 708] by decide)]
theorem s332 {k : q_Hp} {d : Nat} {x y z : Int32} (S : q_Sh k) (hd : qI k 630 106 = nI d) (h1 : d < 200) : q_mV 2 332 [.ref 630, .int x, .int y, .int z] k (fun k' => q_Ef [630, 703, 704, 705, 706, 707, 708, 709] k k' ∧ (∀ j, qI k' 630 j = upd (qI k 630) 106 (nI (d + 1)) j) ∧ qA k' 703 = upd (qA k 703) d x ∧ qA k' 704 = upd (qA k 704) d y ∧ qA k' 705 = upd (qA k 705) d z ∧ qA k' 706 = upd (qA k 706) d 0 ∧ qA k' 707 = upd (qA k 707) d 1 ∧ qA k' 708 = upd (qA k 708) d (qI k 630 91) ∧ qA k' 709 = va_cpy (qA k 691) (qA k 709) 0 (156 * d) 156) := by
  refine q_mV.of (q_recV rfl (S.ok rfl)) (fun Q fin => ?_)
  obtain ⟨n3, n4, n5, n6, n7, n8⟩ := n_l S h1
  have e1 : q_Ef [630, 703, 704, 706] k (q_sI (q_sA (q_sA (q_sA k 703 d x) 704 d y) 706 d 0) 630 106 (nI (d + 1))) := (((q_Ef.sA (by decide)).trans (q_Ef.sA (by decide))).trans (q_Ef.sA (by decide))).trans (q_Ef.sI (by decide))
  have a3 : qA (q_sI (q_sA (q_sA (q_sA k 703 d x) 704 d y) 706 d 0) 630 106 (nI (d + 1))) 703 = upd (qA k 703) d x := by
    rw [(q_Ef.sI (S := [630]) (by decide)).A (show 703 ∉ [630] by decide), (q_Ef.sA (S := [706]) (by decide)).A (show 703 ∉ [706] by decide), (q_Ef.sA (S := [704]) (by decide)).A (show 703 ∉ [704] by decide), qA_sAu]
  have a4 : qA (q_sI (q_sA (q_sA (q_sA k 703 d x) 704 d y) 706 d 0) 630 106 (nI (d + 1))) 704 = upd (qA k 704) d y := by
    rw [(q_Ef.sI (S := [630]) (by decide)).A (show 704 ∉ [630] by decide), (q_Ef.sA (S := [706]) (by decide)).A (show 704 ∉ [706] by decide), qA_sAu, (q_Ef.sA (S := [703]) (by decide)).A (show 704 ∉ [703] by decide)]
  have a6 : qA (q_sI (q_sA (q_sA (q_sA k 703 d x) 704 d y) 706 d 0) 630 106 (nI (d + 1))) 706 = upd (qA k 706) d 0 := by
    rw [(q_Ef.sI (S := [630]) (by decide)).A (show 706 ∉ [630] by decide), qA_sAu, (q_Ef.sA (S := [704]) (by decide)).A (show 706 ∉ [704] by decide), (q_Ef.sA (S := [703]) (by decide)).A (show 706 ∉ [703] by decide)]
  have ai : qI (q_sI (q_sA (q_sA (q_sA k 703 d x) 704 d y) 706 d 0) 630 106 (nI (d + 1))) 630 = upd (qI k 630) 106 (nI (d + 1)) := by
    rw [qI_sIu]
    rfl
  have hh : q_sI (q_sA (q_sA (q_sA k 703 (qI k 630 106 : Int32).toNatClampNeg x) 704 (qI k 630 106 : Int32).toNatClampNeg y) 706 (qI k 630 106 : Int32).toNatClampNeg 0) 630 106 ((qI k 630 106) + 1) = q_sI (q_sA (q_sA (q_sA k 703 d x) 704 d y) 706 d 0) 630 106 (nI (d + 1)) := by
    rw [hd, nI_clamp (by omega), nI_1]
  generalize q_sI (q_sA (q_sA (q_sA k 703 d x) 704 d y) 706 d 0) 630 106 (nI (d + 1)) = k1 at e1 a3 a4 a6 ai hh
  have S1 := e1.sh S
  have hc := s333 (k := k1) (d := d + 1) (x := z) S1 (by rw [ai, upd_eq]) (by omega) (by omega)
  rw [← hh] at hc
  refine b332_0 (S.ok rfl) (S.ref (v := 703) rfl) (S.ok rfl) (by rw [hd]; exact n3) (S.ref (v := 704) rfl) (S.ok rfl) (by rw [hd]; exact n4) (S.ref (v := 706) rfl) (S.ok rfl) (by rw [hd]; exact n6) hc (by decide) ?_
  rw [hh]
  rintro k2 ⟨e2, c5, c7, c8, c9⟩
  have nn : ∀ x, x = 705 ∨ x = 707 ∨ x = 708 ∨ x = 709 ∨ x = 691 → x ∉ [630, 703, 704, 706] := by
    intro x hx
    simp only [List.mem_cons, List.not_mem_nil, or_false]
    omega
  refine b332_45 (fin _ ⟨(e1.wide (by decide)).trans (e2.wide (by decide)), fun j => ?_, ?_, ?_, ?_, ?_, ?_, ?_, ?_⟩)
  · rw [e2.I (show 630 ∉ [705, 707, 708, 709] by decide), ai]
  · rw [e2.A (show 703 ∉ [705, 707, 708, 709] by decide), a3]
  · rw [e2.A (show 704 ∉ [705, 707, 708, 709] by decide), a4]
  · rw [c5, e1.A (nn 705 (by decide))]; rfl
  · rw [e2.A (show 706 ∉ [705, 707, 708, 709] by decide), a6]
  · rw [c7, e1.A (nn 707 (by decide))]; rfl
  · rw [c8, e1.A (nn 708 (by decide)), ai, upd_ne (by decide)]; rfl
  · rw [c9, e1.A (nn 691 (by decide)), e1.A (nn 709 (by decide))]; rfl
theorem s340 {k : q_Hp} {d : Nat} {kd : Nat → Nat} (S : q_Sh k) (hd : qI k 630 106 = nI d) (h1 : d ≤ 200) (hk : ∀ f, f < d → (qA k 703 f = 0 ↔ kd f = 0)) : q_mI 0 340 [.ref 630] k (fun z k' => k' = k ∧ z = nI (q_pr kd d)) := by
  refine q_mI.of (q_recV rfl (S.ok rfl)) (fun Q fin => ?_)
  have loop : ∀ m i, i + m = d → q_wp 0 340 4 [some (.ref 630), some (.int (nI (q_pr kd i))), some (.int (nI i))] [] k Q := by
    intro m
    induction m with
    | zero =>
      intro i hi
      obtain rfl : i = d := by omega
      exact b340_4 (S.ok rfl) (fun _ => b340_30 (fin _ _ ⟨rfl, rfl⟩)) (fun c => absurd (by rw [hd]; exact Int32.le_refl _) c)
    | succ m ih =>
      intro i hi
      have n3 := (n_l S (show i < 200 by omega)).1
      have j := ih (i + 1) (by omega)
      refine b340_4 (S.ok rfl) (fun c => ?_) (fun _ => b340_12 (S.ok rfl) (S.ref (v := 703) rfl) (S.ok rfl) n3 (fun c => b340_24 ?_) (fun c => b340_21 (b340_24 ?_)))
      · rw [hd] at c
        have := (nI_leI (by omega) (by omega)).mp c
        omega
      · rw [nI_clamp (by omega)] at c
        rw [nI_1]
        rw [q_pr_s, if_neg (fun h9 => c ((hk i (by omega)).mpr h9))] at j
        exact j
      · rw [nI_clamp (by omega)] at c
        rw [nI_1, nI_1]
        rw [q_pr_s, if_pos ((hk i (by omega)).mp c)] at j
        exact j
  exact b340_0 (loop d 0 (by omega))
/-! A ROW FAILS: the reference -/
def n_fl (k k1 : q_Hp) (B : q_Bk) (l w f : Nat) (kd op : Nat → Nat) : Prop := q_Ef [630, 691, 705, 706, 707, 708, 709] k k1 ∧ (∀ j, ¬ (j = 91 ∨ j = 92 ∨ j = 104 ∨ j = 106) → qI k1 630 j = qI k 630 j) ∧ qI k1 630 91 = nI w ∧ qI k1 630 92 = nI (min l w) ∧ (∀ i, i < 156 → qA k1 691 i = qA k 709 (156 * f + i)) ∧
  ((f = 0 ∧ qI k1 630 104 = 2) ∨ (0 < f ∧ kd f = 3 ∧ qI k1 630 104 = qI k 630 104 ∧ qI k1 630 106 = nI (f + 1) ∧ qA k1 705 = upd (qA k 705) f (oN (bD B (op f - 1) 5)) ∧ qA k1 706 = upd (qA k 706) f 2 ∧ qA k1 707 = upd (qA k 707) f 1 ∧ qA k1 708 = upd (qA k 708) f (nI w) ∧ ∃ g, qA k1 709 = va_cpy g (qA k 709) 0 (156 * f) 156) ∨ (0 < f ∧ kd f = 1 ∧ qI k1 630 104 = qI k 630 104 ∧ qI k1 630 106 = nI f ∧ qA k1 705 = qA k 705 ∧ qA k1 706 = qA k 706 ∧ qA k1 707 = qA k 707 ∧ qA k1 708 = qA k 708 ∧ qA k1 709 = qA k 709))
theorem n_fail_c {k : q_Hp} {B : q_Bk} {l d a : Nat} {kd op tu nx ap : Nat → Nat} {bg : Nat → Bool} {f : Nat → Int32} (X : n_X k B f) (N : n_F k d kd op tu nx ap bg) (hl : qI k 630 92 = nI l) (l1 : l < 2 ^ 30) (d1 : 1 ≤ d) (d2 : d ≤ 180) (c0 : kd 0 = 0) (c1 : ∀ f, f < d → kd f < 5 ∧ op f ≤ bN B 5 ∧ (0 < f → 0 < op f) ∧ (kd f = 1 → 0 < tu f) ∧ ap f ≤ a ∧ (0 < f → ap (f - 1) ≤ ap f)) (ha : a < 2 ^ 30) : q_mV 3 337 [.ref 630] k (fun k1 => ∃ f, f < d ∧ y_c kd tu f ∧ (∀ g, f < g → g < d → ¬ y_c kd tu g) ∧ n_fl k k1 B l (ap f) f kd op) := by
  have S := X.1
  have w := X.2.1
  have mB := X.2.2.1
  refine q_mV.of (q_recV rfl (S.ok rfl)) (fun Q fin => ?_)
  obtain ⟨N1, N2⟩ := N
  have loop : ∀ m ki (l' : Nat) x2, m + 1 ≤ d → q_Ef [630, 691] k ki → (∀ j, ¬ (j = 91 ∨ j = 92 ∨ j = 106) → qI ki 630 j = qI k 630 j) → qI ki 630 106 = nI (m + 1) → qI ki 630 92 = nI l' → min l' (ap m) = min l (ap m) → l' < 2 ^ 30 → (∀ g, m < g → g < d → ¬ y_c kd tu g) → q_wp 3 337 2 [some (.ref 630), some (.int 1), x2] [] ki Q := by
    intro m
    induction m with
    | zero =>
      intro ki l' x2 hd e ej i6 i2 ml l1' hg
      have S' := e.sh S
      obtain ⟨m1, m2, m3, m4, m5, m6, m7, m8⟩ := N2 0 (by omega)
      obtain ⟨n3, n4, n5, n6, n7, n8⟩ := n_l S' (show 0 < 200 by decide)
      have aa := (c1 0 (by omega)).2.2.2.2.1
      refine b337_2 (fun c => absurd c (by decide)) (fun _ => ?_)
      have hc := s334 (f := 0) S' (by decide) (by rw [e.A (show 708 ∉ [630, 691] by decide)]; exact m5) i2 (by omega) l1'
      rw [show (nI 0 : Int32) = qI ki 630 106 - 1 by rw [i6]; rfl] at hc
      refine b337_6 (S'.ok rfl) hc (by decide) ?_
      have em : (nI (0 + 1) - 1 : Int32) = nI 0 := x_d1 (by omega)
      rw [i6, em]
      rintro k2 ⟨e2, j2, a2⟩
      have S2 := e2.sh S'
      have c703 : qA k2 703 (nI 0 : Int32).toNatClampNeg = 0 := by
        show qA k2 703 0 = 0
        rw [e2.A (show 703 ∉ [630, 691] by decide), e.A (show 703 ∉ [630, 691] by decide), m1, if_neg (by omega), c0]
        rfl
      refine b337_18 (S2.ok rfl) (S2.ref (v := 703) rfl) (S2.ok rfl) ((n_l S2 (show 0 < 200 by decide)).1) (fun _ => ?_) (fun c => absurd c (by rw [c703]; decide))
      refine b337_43 (S2.ok rfl) (S2.ref (v := 703) rfl) (S2.ok rfl) ((n_l S2 (show 0 < 200 by decide)).1) (fun _ => ?_) (fun c => absurd c (by rw [c703]; decide))
      refine b337_91 (fun c => absurd rfl c) (fun _ => b337_95 (s336 S2) (by decide) ?_)
      rintro k3 rfl
      refine b337_100 (b337_115 (b337_2 (fun _ => b337_118 (fin _ ⟨0, by omega, Or.inl rfl, hg, ?_, fun j hj => ?_, ?_, ?_, fun i hi => ?_, Or.inl ⟨rfl, rfl⟩⟩)) (fun c => absurd rfl c)))
      · exact (((e.wide (by decide)).trans (e2.wide (by decide))).trans (q_Ef.sI (by decide))).trans (q_Ef.sI (by decide))
      · rw [qI_sIu, qI_sIu, upd_ne (by omega), upd_ne (by omega), j2, upd_ne (by omega), upd_ne (by omega)]
        exact ej j (by omega)
      · rw [qI_sIu, qI_sIu, upd_ne (by decide), upd_ne (by decide), j2, upd_ne (by decide), upd_eq]
      · rw [qI_sIu, qI_sIu, upd_ne (by decide), upd_ne (by decide), j2, upd_eq, ml]
      · show qA k2 691 i = _
        rw [a2, e.A (show 709 ∉ [630, 691] by decide)]
        have := va_cpy_in (f := qA k 709) (g := qA ki 691) (sp := 156 * 0) (dp := 0) hi
        rw [Nat.zero_add] at this
        rw [show 156 * 0 + i = i by omega]
        exact this
    | succ m ih =>
      intro ki l' x2 hd e ej i6 i2 ml l1' hg
      have S' := e.sh S
      obtain ⟨m1, m2, m3, m4, m5, m6, m7, m8⟩ := N2 (m + 1) (by omega)
      obtain ⟨cK, cO, cP, cU, aa, am⟩ := c1 (m + 1) (by omega)
      have am := am (by omega)
      rw [Nat.add_sub_cancel] at am
      refine b337_2 (fun c => absurd c (by decide)) (fun _ => ?_)
      have hc := s334 (f := m + 1) S' (by omega) (by rw [e.A (show 708 ∉ [630, 691] by decide)]; exact m5) i2 (by omega) l1'
      have em : (nI (m + 1 + 1) - 1 : Int32) = nI (m + 1) := x_d1 (by omega)
      rw [show (nI (m + 1) : Int32) = qI ki 630 106 - 1 by rw [i6, em]] at hc
      refine b337_6 (S'.ok rfl) hc (by decide) ?_
      rw [i6, em]
      rintro k2 ⟨e2, j2, a2⟩
      have S2 := e2.sh S'
      have j26 : qI k2 630 106 = nI (m + 1 + 1) := by rw [j2, upd_ne (by decide), upd_ne (by decide)]; exact i6
      obtain ⟨n3, n4, n5, n6, n7, n8⟩ := n_l S2 (show m + 1 < 200 by omega)
      have nn : ∀ x, 703 ≤ x → x ∉ [630, 691] := by
        intro x hx
        simp only [List.mem_cons, List.not_mem_nil, or_false]
        omega
      have c703 : qA k2 703 (nI (m + 1) : Int32).toNatClampNeg = nI (if kd (m + 1) = 4 then 3 else kd (m + 1)) := by
        rw [nI_clamp (by omega), e2.A (nn 703 (by decide)), e.A (nn 703 (by decide)), m1]
      have c706 : kd (m + 1) = 3 ∨ kd (m + 1) = 4 → (qA k2 706 (nI (m + 1) : Int32).toNatClampNeg = 0 ↔ kd (m + 1) = 3) := by
        rw [nI_clamp (by omega), e2.A (nn 706 (by decide)), e.A (nn 706 (by decide))]
        rintro (h9 | h9)
        · exact ⟨fun _ => h9, fun _ => m7 h9⟩
        · refine ⟨fun h8 => ?_, fun h8 => by omega⟩
          rcases m8 h9 with h7 | h7 <;> rw [h7] at h8 <;> exact absurd h8 (by decide)
      have lw : nI (ap (m + 1)) = nI (ap (m + 1)) := rfl
      have e2w : q_Ef [630, 691] k k2 := e.trans e2
      have out : ∀ (hk : ¬ y_c kd tu (m + 1)) (x : Int32), x = nI (m + 1 + 1) - 1 → q_wp 3 337 115 [some (.ref 630), some (.int 1), some (.int (nI (m + 1)))] [] (q_sI k2 630 106 x) Q := by
        intro hk x hx
        rw [em] at hx
        refine b337_115 (ih _ (min l' (ap (m + 1))) _ (by omega) (e2w.trans (q_Ef.sI (by decide))) (fun j hj => ?_) ?_ ?_ ?_ (by omega) (fun g g1 g2 => ?_))
        · rw [qI_sIu, upd_ne (by omega), j2, upd_ne (by omega), upd_ne (by omega)]
          exact ej j hj
        · rw [qI_sIu, upd_eq, hx]
        · rw [qI_sIu, upd_ne (by decide), j2, upd_eq]
        · omega
        · by_cases hgm : g = m + 1
          · rw [hgm]; exact hk
          · exact hg g (by omega) g2
      refine b337_18 (S2.ok rfl) (S2.ref (v := 703) rfl) (S2.ok rfl) n3 (fun c => ?_) (fun c => ?_)
      · rw [c703] at c
        have k1 : ¬ kd (m + 1) = 1 := fun h9 => c (by rw [h9]; rfl)
        have down : ¬ kd (m + 1) = 3 → q_wp 3 337 91 [some (.ref 630), some (.int 0), some (.int (nI (m + 1)))] [] k2 Q := by
          intro k3
          refine b337_91 (fun _ => b337_103 (S2.ok rfl) ?_) (fun c9 => absurd c9 (fun h9 => by have := (nI_eq (a := m + 1) (b := 0) (by omega) (by decide)).mp h9; omega))
          refine out ?_ _ (by rw [j26])
          rintro (h9 | h9 | h9)
          · omega
          · exact k3 h9
          · exact k1 h9.1
        refine b337_43 (S2.ok rfl) (S2.ref (v := 703) rfl) (S2.ok rfl) n3 (fun c2 => down ?_) (fun c2 => ?_)
        · rw [c703] at c2
          exact fun h9 => c2 (by rw [h9]; rfl)
        · rw [c703] at c2
          have k34 : kd (m + 1) = 3 ∨ kd (m + 1) = 4 := by
            have := (nI_eq (b := 3) (by split <;> omega) (by decide)).mp c2
            split at this <;> omega
          refine b337_53 (S2.ok rfl) (S2.ref (v := 706) rfl) (S2.ok rfl) n6 (fun c3 => down (fun h9 => c3 ((c706 k34).mpr h9))) (fun c3 => ?_)
          have k3 := (c706 k34).mp c3
          have yc : y_c kd tu (m + 1) := Or.inr (Or.inl k3)
          have ce : (nI (m + 1) : Int32).toNatClampNeg = m + 1 := nI_clamp (by omega)
          obtain ⟨o, ho⟩ : ∃ o, op (m + 1) = o + 1 := ⟨op (m + 1) - 1, by have := cP (by omega); omega⟩
          have h1200 : bN B 5 ≤ 1200 := w.2.2.2.2.2.1
          have e3 : q_Ef [706] k2 (q_sA k2 706 (m + 1) 2) := q_Ef.sA (by decide)
          have a36 : qA (q_sA k2 706 (m + 1) 2) 706 = upd (qA k2 706) (m + 1) 2 := qA_sAu _ _ _ _
          have a34 : qA (q_sA k2 706 (m + 1) 2) 704 (m + 1) = nI o := by
            rw [e3.A (show 704 ∉ [706] by decide), e2.A (nn 704 (by decide)), e.A (nn 704 (by decide)), m2, ho, oN_s]
          have a31 : qA (q_sA k2 706 (m + 1) 2) 671 = qA k 671 := by
            rw [e3.A (show 671 ∉ [706] by decide), e2.A (show 671 ∉ [630, 691] by decide), e.A (show 671 ∉ [630, 691] by decide)]
          have j36 : qI (q_sA k2 706 (m + 1) 2) 630 106 = nI (m + 1 + 1) := j26
          generalize hk3 : q_sA k2 706 (m + 1) 2 = k3' at e3 a36 a34 a31 j36
          have S3 := e3.sh S2
          have e671 : (3 * nI o + 2 : Int32) = nI (3 * o + 2) := by
            rw [show (3 : Int32) * nI o = nI (3 * o) from pk_mul 3 o]
            exact nI_add _ 2
          have d671 : qA k 671 (3 * o + 2) = oN (bD B o 5) := (mB.2.2.2.2.2.1 o (by omega)).2.2.2 2 (by decide)
          have hc3 := s333 (d := m + 1 + 1) (x := oN (bD B o 5)) S3 j36 (by omega) (by omega)
          refine b337_62 (v0 := 706) (v1 := 671) (v2 := 704) (S2.ok rfl) (S2.ref rfl) (S2.ok rfl) n6 (S2.ref rfl) (S2.ref rfl) (S2.ok rfl) n4 (S2.ok rfl) ?_ (m := 1) (P := fun k' => q_Ef [705, 707, 708, 709] k3' k' ∧ qA k' 705 = upd (qA k3' 705) (m + 1 + 1 - 1) (oN (bD B o 5)) ∧ qA k' 707 = upd (qA k3' 707) (m + 1 + 1 - 1) 1 ∧ qA k' 708 = upd (qA k3' 708) (m + 1 + 1 - 1) (qI k3' 630 91) ∧ qA k' 709 = va_cpy (qA k3' 691) (qA k3' 709) 0 (156 * (m + 1 + 1 - 1)) 156) ?_ (by decide) ?_
          · rw [ce, hk3, a34, e671]
            exact S2.inN (n := 7800) rfl (by omega) (by decide)
          · rw [ce, hk3, a34, e671, nI_clamp (by omega), a31, d671]
            exact hc3
          rintro k4 ⟨e4, b5, b7, b8, b9⟩
          rw [Nat.add_sub_cancel] at b5 b7 b8 b9
          refine b337_88 (b337_115 (b337_2 (fun _ => b337_118 (fin _ ⟨m + 1, by omega, yc, hg, ?_, fun j hj => ?_, ?_, ?_, fun i hi => ?_, Or.inr (Or.inl ⟨by omega, k3, ?_, ?_, ?_, ?_, ?_, ?_, qA k3' 691, ?_⟩)⟩)) (fun c9 => absurd rfl c9)))
          · exact ((e2w.wide (by decide)).trans (e3.wide (by decide))).trans (e4.wide (by decide))
          · rw [e4.I (show 630 ∉ [705, 707, 708, 709] by decide), e3.I (show 630 ∉ [706] by decide), j2, upd_ne (by omega), upd_ne (by omega)]
            exact ej j (by omega)
          · rw [e4.I (show 630 ∉ [705, 707, 708, 709] by decide), e3.I (show 630 ∉ [706] by decide), j2, upd_ne (by decide), upd_eq]
          · rw [e4.I (show 630 ∉ [705, 707, 708, 709] by decide), e3.I (show 630 ∉ [706] by decide), j2, upd_eq, ml]
          · rw [e4.A (show 691 ∉ [705, 707, 708, 709] by decide), e3.A (show 691 ∉ [706] by decide), a2, e.A (nn 709 (by decide))]
            have := va_cpy_in (f := qA k 709) (g := qA ki 691) (sp := 156 * (m + 1)) (dp := 0) hi
            rw [Nat.zero_add] at this
            exact this
          · rw [e4.I (show 630 ∉ [705, 707, 708, 709] by decide), e3.I (show 630 ∉ [706] by decide), j2, upd_ne (by decide), upd_ne (by decide)]
            exact ej 104 (by decide)
          · rw [e4.I (show 630 ∉ [705, 707, 708, 709] by decide)]; exact j36
          · rw [b5, e3.A (show 705 ∉ [706] by decide), e2.A (nn 705 (by decide)), e.A (nn 705 (by decide)), ho]; rfl
          · rw [e4.A (show 706 ∉ [705, 707, 708, 709] by decide), a36, e2.A (nn 706 (by decide)), e.A (nn 706 (by decide))]
          · rw [b7, e3.A (show 707 ∉ [706] by decide), e2.A (nn 707 (by decide)), e.A (nn 707 (by decide))]
          · rw [b8, e3.A (show 708 ∉ [706] by decide), e2.A (nn 708 (by decide)), e.A (nn 708 (by decide)), e3.I (show 630 ∉ [706] by decide), j2, upd_ne (by decide), upd_eq]
          · rw [b9, e3.A (show 709 ∉ [706] by decide), e2.A (nn 709 (by decide)), e.A (nn 709 (by decide))]
      · rw [c703] at c
        have k1 : kd (m + 1) = 1 := by
          have := (nI_eq (b := 1) (by split <;> omega) (by decide)).mp c
          split at this <;> omega
        have yc : y_c kd tu (m + 1) := Or.inr (Or.inr ⟨k1, cU k1⟩)
        refine b337_30 (S2.ok rfl) (b337_115 (b337_2 (fun _ => b337_118 (fin _ ⟨m + 1, by omega, yc, hg, ?_, fun j hj => ?_, ?_, ?_, fun i hi => ?_, Or.inr (Or.inr ⟨by omega, k1, ?_, ?_, ?_, ?_, ?_, ?_, ?_⟩)⟩)) (fun c9 => absurd rfl c9)))
        · exact (e2w.wide (by decide)).trans (q_Ef.sI (by decide))
        · rw [qI_sIu, upd_ne (by omega), j2, upd_ne (by omega), upd_ne (by omega)]
          exact ej j (by omega)
        · rw [qI_sIu, upd_ne (by decide), j2, upd_ne (by decide), upd_eq]
        · rw [qI_sIu, upd_ne (by decide), j2, upd_eq, ml]
        · show qA k2 691 i = _
          rw [a2, e.A (nn 709 (by decide))]
          have := va_cpy_in (f := qA k 709) (g := qA ki 691) (sp := 156 * (m + 1)) (dp := 0) hi
          rw [Nat.zero_add] at this
          exact this
        · rw [qI_sIu, upd_ne (by decide), j2, upd_ne (by decide), upd_ne (by decide)]
          exact ej 104 (by decide)
        · rw [qI_sIu, upd_eq, j26, em]
        · show qA k2 705 = _
          rw [e2.A (nn 705 (by decide)), e.A (nn 705 (by decide))]
        · show qA k2 706 = _
          rw [e2.A (nn 706 (by decide)), e.A (nn 706 (by decide))]
        · show qA k2 707 = _
          rw [e2.A (nn 707 (by decide)), e.A (nn 707 (by decide))]
        · show qA k2 708 = _
          rw [e2.A (nn 708 (by decide)), e.A (nn 708 (by decide))]
        · show qA k2 709 = _
          rw [e2.A (nn 709 (by decide)), e.A (nn 709 (by decide))]
  obtain ⟨d, rfl⟩ : ∃ y, d = y + 1 := ⟨d - 1, by omega⟩
  exact b337_0 (loop d k l _ (Nat.le_refl _) q_Ef.rf (fun _ _ => rfl) N1 hl rfl l1 (fun g g1 g2 => by omega))
