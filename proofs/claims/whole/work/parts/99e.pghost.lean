/-! THE PARSE OF THE REFERENCE: sums, without its cells -/
def p_sw (l : Int32) (k : q_Hp) : q_Hp := p_se l (qI k 630 78 : Int32).toNatClampNeg k
/-- a bracket that waits is closed -/
def p_po (k : q_Hp) : q_Hp := q_sI (q_sI k 630 78 (qI k 630 78 - 1)) 630 12 (qI k 630 12 - 1)
def p_cl (K : Nat → Nat) : Nat → y_S → q_Hp → q_Hp
  | 0, _, k => k
  | o + 1, s, k => if y_is K 35 s = true then p_cl K o (y_ps s) (p_po (p_sw 1 k)) else k
def p_mk (K : Nat → Nat) (f : Bool) (s : y_S) (k : q_Hp) : q_Hp := if f = true ∧ y_is K 32 s = true then p_pu 3 k else k
/-- an operator comes -/
def p_sp (K : Nat → Nat) (s : y_S) (k : q_Hp) : q_Hp := p_pu (nI (t_ph (K s.1))) (p_sw (if y_is K 33 s = true then 2 else 1) k)
def p_su (K P X : Nat → Nat) (U : Nat → Int64) (set : Bool) (L : Nat) : Nat → Bool → Nat → y_S → q_Hp → q_Hp
  | 0, _, _, _, k => k
  | m + 1, f, o, s, k => if y_is K 34 (y_mi K f s) = true then p_su K P X U set L m true (o + 1) (y_ps (y_rm (decide (o < 8)) (y_mi K f s))) (p_pu 16 (p_op (p_mk K f s k) o (y_mi K f s))) else if y_sn K (y_cl K o (y_un K (y_mi K f s))).2 = true then p_su K P X U set L m false (y_cl K o (y_un K (y_mi K f s))).1 (y_ps (y_cl K o (y_un K (y_mi K f s))).2) (p_sp K (y_cl K o (y_un K (y_mi K f s))).2 (p_cl K o (y_un K (y_mi K f s)) (p_un K P X U set L (y_mi K f s) (p_mk K f s k)))) else p_sw 1 (p_cl K o (y_un K (y_mi K f s)) (p_un K P X U set L (y_mi K f s) (p_mk K f s k)))
def p_ex (K P X : Nat → Nat) (U : Nat → Int64) (set : Bool) (L : Nat) (s : y_S) (k : q_Hp) : q_Hp := p_su K P X U set L 1202 true 0 s (q_sI k 630 78 0)
/-- what waits, the last first -/
def p_wt (f : Nat → Int32) : List Nat → Prop
  | [] => True
  | x :: w => f w.length = nI x ∧ p_wt f w
/-- what waits since a bracket was opened -/
def p_sg (g : List Nat) : Prop := g = [] ∨ g = [15] ∨ ∃ x, (x = 3 ∨ x = 13 ∨ x = 14) ∧ (g = [x] ∨ g = [15, x])
def p_sh : Nat → List Nat → Prop
  | 0, w => w = []
  | o + 1, w => ∃ g w0, p_sg g ∧ p_sh o w0 ∧ w = 16 :: (g ++ w0)
theorem p_sg_2 {g : List Nat} (h : p_sg g) : g.length ≤ 2 := by
  rcases h with rfl | rfl | ⟨x, _, rfl | rfl⟩ <;> simp
theorem p_sh_3 : ∀ o w, p_sh o w → w.length ≤ 3 * o := by
  intro o
  induction o with
  | zero => intro w h; rw [show w = [] from h]; exact Nat.zero_le _
  | succ o ih =>
    rintro w ⟨g, w0, hg, h0, rfl⟩
    have := ih _ h0
    have := p_sg_2 hg
    rw [List.length_cons, List.length_append]
    omega
/-- so many are open, this waits, so many codes are there -/
def p_G (kb : q_Hp) (L o : Nat) (w : List Nat) (c : Nat) (k : q_Hp) : Prop := qI k 630 78 = nI w.length ∧ p_wt (qA k 685) w ∧ qI k 630 22 = nI (1300 + c) ∧ qI k 630 12 = nI o ∧ qI k 630 68 = nI L ∧ p_fr kb k
theorem p_G.pop {kb k : q_Hp} {L o x c : Nat} {w : List Nat} {op : Int32} (G : p_G kb L o (x :: w) c k) (h : 1300 + c < 2 ^ 31) : p_G kb L o w (c + 1) (p_em op 0 0 (q_sI k 630 78 (nI w.length))) := by
  obtain ⟨g1, g2, g3, g4, g5, g6⟩ := G
  have h22 : qI (q_sI k 630 78 (nI w.length)) 630 22 = nI (1300 + c) := by rw [q_sI_n (by omega)]; exact g3
  refine ⟨?_, ?_, ?_, ?_, ?_, (g6.sI rfl).em h22 (Nat.le_add_right _ _) h⟩
  · rw [p_em_I (by decide)]; exact q_sI_e
  · rw [p_em_A (by decide)]; exact g2.2
  · rw [p_em_22, h22, nI_1]
    rfl
  · rw [p_em_I (by decide), q_sI_n (by omega)]; exact g4
  · rw [p_em_I (by decide), q_sI_n (by omega)]; exact g5
theorem p_G.top {kb k : q_Hp} {L o x c : Nat} {w : List Nat} (G : p_G kb L o (x :: w) c k) : qA k 685 w.length = nI x := G.2.1.1
/-- settled down to a bracket -/
theorem p_G.st {kb k : q_Hp} {L o c : Nat} {l : Int32} {w : List Nat} (G : p_G kb L o w c k) (h : w = [] ∨ ∃ x w0, w = x :: w0 ∧ p_st (nI x) < l) : p_se l w.length k = k := by
  rcases h with rfl | ⟨x, w0, rfl, h⟩
  · rfl
  · show p_se l (w0.length + 1) k = k
    unfold p_se
    rw [G.top, if_pos h]
theorem p_G.po {kb k : q_Hp} {L o x c : Nat} {l : Int32} {w : List Nat} (G : p_G kb L o (x :: w) c k) (h : ¬ p_st (nI x) < l) : p_se l (w.length + 1) k = p_se l w.length (p_em (p_oc (nI x)) 0 0 (q_sI k 630 78 (nI w.length))) := by
  show (if p_st (qA k 685 w.length) < l then k else _) = _
  rw [G.top, if_neg h]
theorem p_G.s1 {kb k : q_Hp} {L o c : Nat} {g w0 : List Nat} (G : p_G kb L o (g ++ w0) c k) (hg : p_sg g) (h : w0 = [] ∨ ∃ w1, w0 = 16 :: w1) (hc : 1300 + c + 2 < 2 ^ 31) : p_G kb L o w0 (c + g.length) (p_se 1 (g ++ w0).length k) := by
  have stop : ∀ {c k}, p_G kb L o w0 c k → p_se 1 w0.length k = k := by
    intro c k G
    refine G.st ?_
    rcases h with h | ⟨w1, h⟩
    · exact Or.inl h
    · exact Or.inr ⟨16, w1, h, by decide⟩
  rcases hg with rfl | rfl | ⟨x, hx, rfl | rfl⟩
  · have := stop G
    show p_G kb L o w0 c (p_se 1 w0.length k)
    rw [this]
    exact G
  · have G : p_G kb L o (15 :: w0) c k := G
    show p_G kb L o w0 (c + 1) (p_se 1 (w0.length + 1) k)
    rw [p_G.po (x := 15) (w := w0) G (by decide), stop (G.pop (by omega))]
    exact G.pop (by omega)
  · have nx : ¬ p_st (nI x) < 1 := by rcases hx with rfl | rfl | rfl <;> decide
    have G : p_G kb L o (x :: w0) c k := G
    show p_G kb L o w0 (c + 1) (p_se 1 (w0.length + 1) k)
    rw [p_G.po (x := x) (w := w0) G nx, stop (G.pop (by omega))]
    exact G.pop (by omega)
  · have nx : ¬ p_st (nI x) < 1 := by rcases hx with rfl | rfl | rfl <;> decide
    have G1 : p_G kb L o (x :: w0) (c + 1) _ := p_G.pop (op := p_oc (nI 15)) (x := 15) (w := x :: w0) G (by omega)
    show p_G kb L o w0 (c + 1 + 1) (p_se 1 ((x :: w0).length + 1) k)
    rw [p_G.po (x := 15) (w := x :: w0) G (by decide)]
    show p_G kb L o w0 (c + 1 + 1) (p_se 1 (w0.length + 1) _)
    rw [p_G.po (x := x) (w := w0) G1 nx, stop (G1.pop (by omega))]
    exact G1.pop (by omega)
theorem p_G.s2 {kb k : q_Hp} {L o c : Nat} {g w0 : List Nat} (G : p_G kb L o (g ++ w0) c k) (hg : p_sg g) (h : w0 = [] ∨ ∃ w1, w0 = 16 :: w1) (hc : 1300 + c + 2 < 2 ^ 31) : ∃ g', (g' = [] ∨ ∃ x, (x = 3 ∨ x = 13 ∨ x = 14) ∧ g' = [x]) ∧ g'.length ≤ g.length ∧ p_G kb L o (g' ++ w0) (c + (g.length - g'.length)) (p_se 2 (g ++ w0).length k) := by
  have stop : ∀ {c k}, p_G kb L o w0 c k → p_se 2 w0.length k = k := by
    intro c k G
    refine G.st ?_
    rcases h with h | ⟨w1, h⟩
    · exact Or.inl h
    · exact Or.inr ⟨16, w1, h, by decide⟩
  rcases hg with rfl | rfl | ⟨x, hx, rfl | rfl⟩
  · refine ⟨[], Or.inl rfl, Nat.le_refl _, ?_⟩
    have := stop G
    show p_G kb L o w0 c (p_se 2 w0.length k)
    rw [this]
    exact G
  · refine ⟨[], Or.inl rfl, Nat.zero_le _, ?_⟩
    have G : p_G kb L o (15 :: w0) c k := G
    show p_G kb L o w0 (c + 1) (p_se 2 (w0.length + 1) k)
    rw [p_G.po (x := 15) (w := w0) G (by decide), stop (G.pop (by omega))]
    exact G.pop (by omega)
  · have nx : p_st (nI x) < 2 := by rcases hx with rfl | rfl | rfl <;> decide
    refine ⟨[x], Or.inr ⟨x, hx, rfl⟩, Nat.le_refl _, ?_⟩
    have e1 : p_se 2 (x :: w0).length k = k := G.st (Or.inr ⟨x, w0, rfl, nx⟩)
    show p_G kb L o (x :: w0) (c + (1 - 1)) (p_se 2 (x :: w0).length k)
    rw [e1]
    exact G
  · have nx : p_st (nI x) < 2 := by rcases hx with rfl | rfl | rfl <;> decide
    refine ⟨[x], Or.inr ⟨x, hx, rfl⟩, by simp, ?_⟩
    have G1 : p_G kb L o (x :: w0) (c + 1) _ := p_G.pop (op := p_oc (nI 15)) (x := 15) (w := x :: w0) G (by omega)
    show p_G kb L o (x :: w0) (c + 1) (p_se 2 ((x :: w0).length + 1) k)
    rw [p_G.po (x := 15) (w := x :: w0) G (by decide), G1.st (Or.inr ⟨x, w0, rfl, nx⟩)]
    exact G1
theorem p_wt_up {f : Nat → Int32} {i : Nat} {v : Int32} : ∀ w : List Nat, w.length ≤ i → p_wt f w → p_wt (fun j => if j = i then v else f j) w := by
  intro w
  induction w with
  | nil => intro _ _; trivial
  | cons x w ih =>
    intro h1 h2
    rw [List.length_cons] at h1
    refine ⟨?_, ih (by omega) h2.2⟩
    show (if w.length = i then v else f w.length) = nI x
    rw [if_neg (by omega)]
    exact h2.1
theorem p_G.pu {kb k : q_Hp} {L o c x : Nat} {w : List Nat} (G : p_G kb L o w c k) (hw : w.length < 40) : p_G kb L o (x :: w) c (p_pu (nI x) k) := by
  obtain ⟨g1, g2, g3, g4, g5, g6⟩ := G
  have cl : (qI k 630 78 : Int32).toNatClampNeg = w.length := by rw [g1, nI_clamp (by omega)]
  refine ⟨?_, ⟨?_, ?_⟩, g3, g4, g5, g6.pu⟩
  · unfold p_pu
    rw [q_sI_e, g1, nI_1]
    rfl
  · unfold p_pu
    rw [cl, qA_sI, qA_sA, if_pos ⟨rfl, rfl⟩]
  · unfold p_pu
    rw [cl, qA_sI]
    have := p_wt_up (i := w.length) (v := nI x) w (Nat.le_refl _) g2
    have e1 : qA (q_sA k 685 w.length (nI x)) 685 = fun j => if j = w.length then nI x else qA k 685 j := by
      funext j
      rw [qA_sA]
      by_cases h : j = w.length
      · rw [if_pos ⟨rfl, h⟩, if_pos h]
      · rw [if_neg (fun h9 => h h9.2), if_neg h]
    rw [e1]
    exact this
theorem p_G.cl {kb k : q_Hp} {L o c x : Nat} {w : List Nat} (G : p_G kb L (o + 1) (x :: w) c k) : p_G kb L o w c (p_po k) := by
  obtain ⟨g1, g2, g3, g4, g5, g6⟩ := G
  refine ⟨?_, g2.2, g3, ?_, g5, (g6.sI rfl).sI rfl⟩
  · unfold p_po
    rw [q_sI_n (by omega), q_sI_e, g1]
    exact nI_pred w.length
  · unfold p_po
    rw [q_sI_e, g4]
    exact nI_pred o
theorem p_G.op {kb k : q_Hp} {L o c : Nat} {w : List Nat} (G : p_G kb L o w c k) {s : y_S} (hs : s.2 = 0) (ho : o < 8) : p_G kb L (o + 1) w c (p_op k o s) := by
  obtain ⟨g1, g2, g3, g4, g5, g6⟩ := G
  unfold p_op
  rw [if_pos ⟨hs, ho⟩]
  exact ⟨g1, g2, g3, q_sI_e, g5, g6.sI rfl⟩
section PU
variable {K P X : Nat → Nat} {U : Nat → Int64} {e : Nat} {k0 k : q_Hp} {s : y_S}
theorem p_un_I {set : Bool} {L j : Nat} (h : ¬ j = 15 ∧ ¬ j = 16 ∧ ¬ j = 22) : qI (p_un K P X U set L s k0) 630 j = qI k0 630 j := by
  unfold p_un
  split
  · exact p_em_I h.2.2
  · exact (p_em_I h.2.2).trans ((p_xw_I ⟨h.1, h.2.1⟩).trans (p_fw_I ⟨h.1, h.2.1⟩))
theorem p_un_22 {set : Bool} {L : Nat} : qI (p_un K P X U set L s k0) 630 22 = qI k0 630 22 + 1 := by
  unfold p_un
  split
  · exact p_em_22
  · rw [p_em_22, p_xw_I (by decide), p_fw_I (by decide)]
theorem p_un_A {set : Bool} {L x : Nat} (h : ¬ x = 666 ∧ ¬ x = 667 ∧ ¬ x = 668) : qA (p_un K P X U set L s k0) x = qA k0 x := by
  unfold p_un
  split
  · exact p_em_A h
  · rw [p_em_A h, p_xw_A, p_fw_A]
theorem p_un_L {set : Bool} {L : Nat} : qL (p_un K P X U set L s k0) = qL k0 := by
  unfold p_un
  split
  · rfl
  · rw [p_em_L, p_xw_L, p_fw_L]
theorem p_G.un {kb : q_Hp} {set : Bool} {L o c : Nat} {w : List Nat} (G : p_G kb L o w c k0) (h : 1300 + c < 2 ^ 31) : p_G kb L o w (c + 1) (p_un K P X U set L s k0) := by
  obtain ⟨g1, g2, g3, g4, g5, g6⟩ := G
  refine ⟨?_, ?_, ?_, ?_, ?_, ?_⟩
  · rw [p_un_I (by decide)]; exact g1
  · rw [p_un_A (by decide)]; exact g2
  · rw [p_un_22, g3, nI_1]
    rfl
  · rw [p_un_I (by decide)]; exact g4
  · rw [p_un_I (by decide)]; exact g5
  · unfold p_un
    split
    · exact g6.em g3 (Nat.le_add_right _ _) h
    · exact g6.fw.xw.em ((p_xw_I (by decide)).trans ((p_fw_I (by decide)).trans g3)) (Nat.le_add_right _ _) h
end PU
