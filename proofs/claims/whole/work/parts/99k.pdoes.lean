/-! THE PARSE OF THE REFERENCE: what a rule does -/
def p_z6 : Nat → q_Hp → q_Hp
  | 0, k => k
  | n + 1, k => q_sA (p_z6 n k) 683 n 0
def p_d0 (c : Nat) (k : q_Hp) : q_Hp := if c = 0 then p_z6 6 (q_sI (q_sI k 630 75 0) 630 77 0) else k
def p_d1 (q : Nat) (k : q_Hp) : q_Hp := q_sA (q_sA (q_sA (q_sA k 661 q (-1)) 662 q (-1)) 663 q (-1)) 664 q (qI k 630 22)
def p_dE (r c q : Nat) (k : q_Hp) : q_Hp := q_sA (q_sA k 665 q (qI k 630 22)) 659 (20 + r) (nI (c + 1))
def p_nw (P : Nat → Nat) (U : Nat → Int64) (nt q nw L : Nat) (s : y_S) (k : q_Hp) : q_Hp := q_sI (q_sA (q_sA (q_sA (p_tl P U (s.1 + 1) L 2 (nI nw) (q_on (p_fi (qL k 674) nt (U (s.1 + 3)))) (p_fw P (s.1 + 3) (p_fi (qL k 674) nt (U (s.1 + 3))) k)) 660 q 2) 661 q (nI (4 + nw))) 662 q (q_on (p_fi (qL k 674) nt (U (s.1 + 3))))) 630 77 (nI (nw + 1))
def p_ta (o : Option Nat) (k : q_Hp) : Int32 := match o with
  | some j => p_tg (qA k 679 j) (qA k 680 j)
  | none => -1
def p_se1 (P X : Nat → Nat) (U : Nat → Int64) (q L : Nat) (s : y_S) (k : q_Hp) : q_Hp := q_sA (q_sA (q_sA (p_xw P X (s.1 + 3) (p_fw P (s.1 + 1) (p_sd L (U (s.1 + 1)) k) k)) 660 q 4) 661 q (p_ta (p_sd L (U (s.1 + 1)) k) k)) 662 q (nI (X (s.1 + 3)))
def p_se2 (K P X : Nat → Nat) (U : Nat → Int64) (q L : Nat) (s : y_S) (k : q_Hp) : q_Hp := p_ex K P X U true L (s.1 + 5, 0) (p_se1 P X U q L s k)
def p_dd1 (K P X : Nat → Nat) (U : Nat → Int64) (nt ns r q l nw jn L : Nat) (s : y_S) (k : q_Hp) : q_Hp := if K s.1 = 11 then p_de P U r q l jn L (s.1 + 1) k else if K s.1 = 12 then p_nw P U nt q nw L s k else if K s.1 = 13 then p_jo P U nt ns q jn L (s.1 + 1) (s.1 + 3) (s.1 + 5) k else p_se2 K P X U q L s k
def p_ds (K P X : Nat → Nat) (U : Nat → Int64) (nt ns r c l nw jn L : Nat) (s : y_S) (k : q_Hp) : q_Hp := p_dE r c (8 * (20 + r) + c) (p_dd1 K P X U nt ns r (8 * (20 + r) + c) l nw jn L s (p_d1 (8 * (20 + r) + c) (p_d0 c k)))
theorem p_z6_A {x : Nat} (h : ¬ x = 683) : ∀ n k, qA (p_z6 n k) x = qA k x := by
  intro n
  induction n with
  | zero => intro k; rfl
  | succ n ih => intro k; exact (qA_sAn h).trans (ih k)
theorem p_z6_I : ∀ n k, qI (p_z6 n k) = qI k := by
  intro n
  induction n with
  | zero => intro k; rfl
  | succ n ih => intro k; exact (qI_sA _ _ _ _).trans (ih k)
theorem p_z6_L : ∀ n k, qL (p_z6 n k) = qL k := by
  intro n
  induction n with
  | zero => intro k; rfl
  | succ n ih => intro k; exact (qL_sA _ _ _ _).trans (ih k)
theorem p_d0_A {c x : Nat} {k : q_Hp} (h : ¬ x = 683) : qA (p_d0 c k) x = qA k x := by
  unfold p_d0
  split
  · exact p_z6_A h _ _
  · rfl
theorem p_d0_I {c j : Nat} {k : q_Hp} (h : ¬ j = 75 ∧ ¬ j = 77) : qI (p_d0 c k) 630 j = qI k 630 j := by
  unfold p_d0
  split
  · rw [p_z6_I, q_sI_n (fun h9 => h.2 h9.2), q_sI_n (fun h9 => h.1 h9.2)]
  · rfl
theorem p_d0_L {c : Nat} {k : q_Hp} : qL (p_d0 c k) = qL k := by
  unfold p_d0
  split
  · exact p_z6_L _ _
  · rfl
theorem p_d0_77 {c nw : Nat} {k : q_Hp} (h : ¬ c = 0 → qI k 630 77 = nI nw) (h0 : c = 0 → nw = 0) : qI (p_d0 c k) 630 77 = nI nw := by
  unfold p_d0
  split
  · next h1 =>
    rw [p_z6_I, q_sI_e, h0 h1]
    rfl
  · next h1 => exact h h1
theorem p_d0_75 {c jn : Nat} {k : q_Hp} (h : ¬ c = 0 → qI k 630 75 = nI jn) (h0 : c = 0 → jn = 0) : qI (p_d0 c k) 630 75 = nI jn := by
  unfold p_d0
  split
  · next h1 =>
    rw [p_z6_I, q_sI_n (by omega), q_sI_e, h0 h1]
    rfl
  · next h1 => exact h h1
theorem p_d1_A {q x : Nat} {k : q_Hp} (h : ¬ x = 661 ∧ ¬ x = 662 ∧ ¬ x = 663 ∧ ¬ x = 664) : qA (p_d1 q k) x = qA k x := by
  unfold p_d1
  rw [qA_sAn h.2.2.2, qA_sAn h.2.2.1, qA_sAn h.2.1, qA_sAn h.1]
theorem p_z6_fr {kb : q_Hp} : ∀ n k, p_fr kb k → p_fr kb (p_z6 n k) := by
  intro n
  induction n with
  | zero => intro k F; exact F
  | succ n ih => intro k F; exact (ih k F).sA rfl (Nat.zero_le _)
theorem p_fr.d0 {kb k : q_Hp} {c : Nat} (F : p_fr kb k) : p_fr kb (p_d0 c k) := by
  unfold p_d0
  split
  · exact p_z6_fr _ _ ((F.sI rfl).sI rfl)
  · exact F
theorem p_fr.d1 {kb k : q_Hp} {q : Nat} (F : p_fr kb k) (h : 160 ≤ q) : p_fr kb (p_d1 q k) := (((F.sA rfl h).sA rfl h).sA rfl h).sA rfl h
theorem p_fr.dE {kb k : q_Hp} {r c q : Nat} (F : p_fr kb k) (h : 160 ≤ q) : p_fr kb (p_dE r c q k) := (F.sA rfl h).sA rfl (Nat.le_add_right 20 r)
theorem p_fr.nw {kb k : q_Hp} {P : Nat → Nat} {U : Nat → Int64} {nt q nw L : Nat} {s : y_S} (F : p_fr kb k) (h : 160 ≤ q) : p_fr kb (p_nw P U nt q nw L s k) := (((F.fw.tl.sA rfl h).sA rfl h).sA rfl h).sI rfl
theorem p_fr.se1 {kb k : q_Hp} {P X : Nat → Nat} {U : Nat → Int64} {q L : Nat} {s : y_S} (F : p_fr kb k) (h : 160 ≤ q) : p_fr kb (p_se1 P X U q L s k) := ((F.fw.xw.sA rfl h).sA rfl h).sA rfl h
theorem p_fr.de {kb k : q_Hp} {P : Nat → Nat} {U : Nat → Int64} {r q l jn L i : Nat} (F : p_fr kb k) (h : 160 ≤ q) : p_fr kb (p_de P U r q l jn L i k) := by
  have F1 : ∀ j, p_fr kb (p_de1 q j k) := fun j => ((F.sA rfl (Nat.zero_le _)).sA rfl h).sA rfl h
  unfold p_de
  cases p_dd L (U i) k with
  | none => exact F.wr.sA rfl h
  | some j =>
    show p_fr kb (p_de2 P r q l jn i j k)
    unfold p_de2
    split
    · exact (F1 j).sA rfl (Nat.zero_le _)
    · split
      · exact (F1 j).wr
      · exact F1 j
theorem p_fr.jo {kb k : q_Hp} {P : Nat → Nat} {U : Nat → Int64} {nt ns q jn L i1 i2 i3 : Nat} (F : p_fr kb k) (h : 160 ≤ q) : p_fr kb (p_jo P U nt ns q jn L i1 i2 i3 k) := by
  have F1 : ∀ oa os ob, p_fr kb (p_jo1 P nt q i1 i2 i3 oa os ob k) := by
    intro oa os ob
    unfold p_jo1
    exact (F.fw.fw.fw.sA rfl h).wr.ite (F.fw.fw.fw.sA rfl h)
  unfold p_jo
  cases p_sd L (U i1) k with
  | none => exact F1 _ _ _
  | some a =>
    cases p_sd L (U i3) k with
    | none => exact F1 _ _ _
    | some b => exact (((((((F1 _ _ _).sA rfl h).sA rfl h).sA rfl h).sA rfl (Nat.zero_le _)).sA rfl (Nat.zero_le _)).sI rfl)
section PD
variable {K P X : Nat → Nat} {U : Nat → Int64} {e : Nat} {k0 k : q_Hp} {s : y_S}
/-- from the name of what is done on, nothing of the text is lost -/
theorem y_d1_2 {K : Nat → Nat} {s : y_S} : y_to (y_nd K 40 (y_ps s)) (y_d1 K s) := by
  unfold y_d1
  refine y_to.nd ?_
  split
  · exact y_to.rf
  · split
    · exact y_to.rf.nd.nd
    · split
      · exact y_to.rf.nd.nd.nd.nd
      · exact y_to.rf.nd.nd.nd.E
theorem s273_435 {Q : Option Value → q_Hp → Prop} {r c q : Nat} {x2 x3 : Int32} {l5 l6 : Option Value} (Y : p_y K P X U e k0 k s) (hr : r < 20) (hq : q < 320) (h59 : qA k0 659 (20 + r) = nI c) (fin : ∀ k', p_y K P X U e (p_dE r c q k0) k' (y_nd K 26 s) → Q none k') : q_wp 5 273 435 [some (.ref 630), some (.int (nI (20 + r))), some (.int x2), some (.int x3), some (.int (nI q)), l5, l6] [] k Q := by
  have e22 : qI k 630 22 = qI k0 630 22 := Y.I rfl
  have e59 : qA k 659 (20 + r) = nI c := by rw [Y.A (by decide)]; exact h59
  refine b273_435 (v0 := 665) (v1 := 659) (Y.sh.ok rfl) (Y.sh.ref rfl) (Y.sh.ok rfl) (Y.sh.inN (n := 320) rfl hq (by decide)) (Y.sh.ref rfl) (Y.sh.ok rfl) (Y.sh.inN (n := 40) rfl (by omega) (by decide)) (m := 2) (P := fun k' => p_y K P X U e (p_dE r c q k0) k' (y_nd K 26 s)) ?_ (by decide) (fun k' Y' => b273_461 (fin k' Y'))
  rw [nI_clamp (show q < 2 ^ 31 by omega), nI_clamp (show 20 + r < 2 ^ 31 by omega), e22, qA_sAn (by decide), e59, nI_1]
  exact s253 (c := 26) ((Y.sA rfl).sA rfl) (by decide) rfl
theorem p_de_A {r q l jn L i x : Nat} (h : ¬ x = 660 ∧ ¬ x = 661 ∧ ¬ x = 682 ∧ ¬ x = 683) : qA (p_de P U r q l jn L i k0) x = qA k0 x := by
  unfold p_de
  cases p_dd L (U i) k0 with
  | none =>
    show qA (q_sA (p_wr P 4 i k0) 660 q 0) x = _
    rw [qA_sAn h.1, p_wr_A]
  | some j =>
    show qA (p_de2 P r q l jn i j k0) x = _
    have h1 : qA (p_de1 q j k0) x = qA k0 x := p_de1_A ⟨h.1, h.2.1, h.2.2.1⟩
    unfold p_de2
    split
    · rw [qA_sAn h.2.2.2, h1]
    · split
      · rw [p_wr_A, h1]
      · exact h1
theorem p_de_I {r q l jn L i j : Nat} (h : ¬ j = 15 ∧ ¬ j = 16) : qI (p_de P U r q l jn L i k0) 630 j = qI k0 630 j := by
  unfold p_de
  cases p_dd L (U i) k0 with
  | none => exact p_wr_I h
  | some a =>
    show qI (p_de2 P r q l jn i a k0) 630 j = _
    unfold p_de2
    split
    · rfl
    · split
      · exact p_wr_I h
      · rfl
theorem p_jo_A {nt ns q jn L i1 i2 i3 x : Nat} (h : ¬ x = 660 ∧ ¬ x = 661 ∧ ¬ x = 662 ∧ ¬ x = 663 ∧ ¬ x = 684) : qA (p_jo P U nt ns q jn L i1 i2 i3 k0) x = qA k0 x := by
  unfold p_jo
  cases p_sd L (U i1) k0 with
  | none => exact p_jo1_A h.1
  | some a =>
    cases p_sd L (U i3) k0 with
    | none => exact p_jo1_A h.1
    | some b =>
      show qA (p_jo2 q jn _ _ _ _) x = _
      unfold p_jo2
      rw [qA_sI, qA_sAn h.2.2.2.2, qA_sAn h.2.2.2.2, qA_sAn h.2.2.2.1, qA_sAn h.2.2.1, qA_sAn h.2.1]
      exact p_jo1_A h.1
theorem p_jo_I {nt ns q jn L i1 i2 i3 j : Nat} (h : ¬ j = 15 ∧ ¬ j = 16 ∧ ¬ j = 75) : qI (p_jo P U nt ns q jn L i1 i2 i3 k0) 630 j = qI k0 630 j := by
  unfold p_jo
  cases p_sd L (U i1) k0 with
  | none => exact p_jo1_I ⟨h.1, h.2.1⟩
  | some a =>
    cases p_sd L (U i3) k0 with
    | none => exact p_jo1_I ⟨h.1, h.2.1⟩
    | some b =>
      show qI (p_jo2 q jn _ _ _ _) 630 j = _
      unfold p_jo2
      rw [q_sI_n (fun h9 => h.2.2 h9.2), qI_sA, qI_sA, qI_sA, qI_sA, qI_sA]
      exact p_jo1_I ⟨h.1, h.2.1⟩
theorem p_jo_75 {nt ns q jn L i1 i2 i3 : Nat} (h : qI k0 630 75 = nI jn) : ∃ jn', jn' ≤ jn + 2 ∧ qI (p_jo P U nt ns q jn L i1 i2 i3 k0) 630 75 = nI jn' := by
  unfold p_jo
  cases p_sd L (U i1) k0 with
  | none => exact ⟨jn, by omega, (p_jo1_I (by decide)).trans h⟩
  | some a =>
    cases p_sd L (U i3) k0 with
    | none => exact ⟨jn, by omega, (p_jo1_I (by decide)).trans h⟩
    | some b => exact ⟨jn + 2, by omega, q_sI_e⟩
end PD
