/-! THE CLASS'S READ, all -/
section CR
variable {K P X : Nat → Nat} {V U : Nat → Int64} {e c : Nat} {h : q_Hp}
/-- the desk's two books, its tape's bytes none, its place -/
def c_dk (h h' : q_Hp) (x : Int32) : Prop := (qI h' 1 1 = 0 ∧ qI h' 1 2 = x) ∧ qR h' 1 5 = qR h 1 5 ∧ qR h' 1 6 = qR h 1 6
/-- names of rules and procs, as the syntax found them -/
def c_nm (K : Nat → Nat) (V : Nat → Int64) (hg : q_Hp) : Prop := (∀ i, i < (y_al K).1.2.2.1 → qL hg 9 i = V ((y_al K).1.2.2.2.2.1 i)) ∧ (∀ i, i < (y_al K).1.2.2.2.1 → qL hg 10 i = V ((y_al K).1.2.2.2.2.2 i)) ∧ (y_al K).1.1 ≤ 12 ∧ (y_al K).1.2.1 ≤ 12 ∧ (y_al K).1.2.2.1 ≤ 20 ∧ (y_al K).1.2.2.2.1 ≤ 10
def c_G (K : Nat → Nat) (V : Nat → Int64) (c : Nat) (hg : q_Hp) : q_Hp := g_al K V c (y_al K).1.2.2.1 (y_al K).1.2.2.2.1 hg
def c_rd (K P : Nat → Nat) (V : Nat → Int64) (e c : Nat) (h : q_Hp) (z : Int32) (h' : q_Hp) : Prop := (¬ (y_al K).2.2 = 0 ∧ (y_al K).2.2 ≤ 2 ∧ (y_al K).2.1 ≤ e ∧ z = nI (y_al K).2.2 ∧ q_Sh h' ∧ g_X c h h' ∧ c_dk h h' (nI (P (y_al K).2.1))) ∨ ((y_al K).2.2 = 0 ∧ (y_al K).2.1 ≤ e ∧ ∃ hg, c_nm K V hg ∧ ((∃ n i, (¬ n = 0 ∧ n < 10 ∧ i ≤ e) ∧ qI (c_G K V c hg) 589 15 = nI n ∧ qI (c_G K V c hg) 589 16 = nI i ∧ z = nI n ∧ q_Sh h' ∧ g_X c h h' ∧ c_dk h h' (nI (P i))) ∨ (qI (c_G K V c hg) 589 15 = 0 ∧ z = 0 ∧ ∃ h4, g_X c h h4 ∧ c_dk h h4 (-1) ∧ (∀ x, c ≤ x → x < c + 289 → qI h4 x = qI (c_G K V c hg) x ∧ qA h4 x = qA (c_G K V c hg) x) ∧ c_in h4 h')))
theorem c_dk.mk {h1 h' : q_Hp} {x : Int32} (e1 : qI h' 1 1 = 0) (e2 : qI h' 1 2 = x) (e3 : qR h' 1 = qR h 1) : c_dk h h' x := ⟨⟨e1, e2⟩, by rw [e3], by rw [e3]⟩
theorem s213_43 {Q : Option Value → q_Hp → Prop} {hB : q_Hp} (T : zTk K P X V U e) (S : q_Sh hB) (C : y_C hB K P V e) (B : q_isB c) (r6 : qR hB 1 6 = c) (hz : (y_al K).2.2 = 0) (he : (y_al K).2.1 ≤ e) (N : c_nm K V hB) (SN : g_SN (y_al K).1.2.2.1 (y_al K).1.2.2.2.1 hB) (d1 : qI hB 1 1 = 0) (fin : ∀ z h', c_rd K P V e c hB z h' → Q (some (.int z)) h') : q_wp 30 213 43 [some (.ref 1), some (.int 0)] [] hB Q := by
  have hc : c = 11 ∨ c = 300 := B
  have e12 := C.2.1
  have gf := z_gf (rF := (y_al K).1.2.2.1) (pF := (y_al K).1.2.2.2.1) T hc e12 hz he N.1 N.2.1
  refine b213_43 (n := 29) (v0 := 589) (v1 := c) (S.ok rfl) (S.ref rfl) r6 (s23 S C B SN rfl rfl hz he) (by decide) ?_
  rintro z h4 ⟨e3, Y, _⟩
  have W : g_W c hB (c_G K V c hB) := g_W.al hz
  change z = qI (c_G K V c hB) 589 15 at e3
  change g_y K P V e c (c_G K V c hB) h4 _ at Y
  change qI (c_G K V c hB) 589 15 = 0 ∨ ∃ n i, ¬ n = 0 ∧ n < 10 ∧ i ≤ e ∧ qI (c_G K V c hB) 589 15 = nI n ∧ qI (c_G K V c hB) 589 16 = nI i at gf
  have fin := fun z h' H => fin z h' (Or.inr ⟨hz, he, hB, N, H⟩)
  generalize c_G K V c hB = G at *
  have nf : ¬ (c ≤ 1 ∧ 1 < c + 289) := by omega
  have S4 := Y.sh
  have i1 : qI h4 1 = qI hB 1 := by rw [Y.O (by decide), (W 1 (by decide) nf).1]
  have r1 : qR h4 1 = qR hB 1 := by rw [Y.E.R (by decide), (W 1 (by decide) nf).2.1]
  have X4 : g_X c hB h4 := W.X.trans (Y.E.W).X
  have sX : ∀ v, g_X c hB (q_sI h4 1 2 v) := fun v => X4.trans (q_Ef.X (S := [1]) (q_Ef.sI (by decide)) (by decide))
  have dk : ∀ v, c_dk hB (q_sI h4 1 2 v) v := fun v => c_dk.mk (h1 := h4) (by rw [q_sI_n (by decide), i1]; exact d1) q_sI_e (by rw [qR_sI]; exact r1)
  refine b213_54 (n := 29) (v0 := 589) (S4.ok rfl) (S4.ref rfl) (s24 (i := (qI G 589 16).toNatClampNeg) Y (fun h9 => ?_)) (by decide) ?_
  · rcases gf with g0 | ⟨n, i, n1, n2, n3, n4, n5⟩
    · exact absurd g0 h9
    · rw [n5, nI_clamp (by omega)]
      exact ⟨rfl, n3⟩
  rintro z2 h5 ⟨e0, rfl⟩
  subst e0
  refine b213_63 (S4.ok rfl) ?_
  rcases gf with g0 | ⟨n, i, n1, n2, n3, n4, n5⟩
  · rw [g0] at e3
    subst e3
    rw [if_pos g0]
    have SS : q_Sh (q_sI h5 1 2 (-1)) := S4
    refine b213_66 (fun c1 => absurd rfl c1) (fun _ => b213_70 (s235 SS) (by decide) (fun h6 H => b213_74 (fin _ _ (Or.inr ⟨g0, rfl, _, sX _, dk _, fun x q1 q2 => ?_, H⟩))))
    rw [qA_sI]
    refine ⟨?_, Y.A (by omega)⟩
    funext j
    rw [q_sI_n (by omega), Y.O (by omega)]
  · rw [n4] at e3
    have nz : ¬ nI n = 0 := fun h9 => n1 ((nI_eq (b := 0) (by omega) (by decide)).mp h9)
    rw [e3, if_neg (by rw [n4]; exact nz), n5, nI_clamp (by omega)]
    exact b213_66 (fun _ => b213_74 (fin _ _ (Or.inl ⟨n, i, ⟨n1, n2, n3⟩, n4, n5, rfl, S4, sX _, dk _⟩))) (fun c1 => absurd c1 nz)
end CR
