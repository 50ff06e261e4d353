/-! THE BUILDER OF THE CLASS: what it touches -/
def g_W (c : Nat) (h h' : q_Hp) : Prop := ∀ x, ¬ (589 ≤ x ∧ x ≤ 596) → ¬ (c ≤ x ∧ x < c + 289) → qI h' x = qI h x ∧ qR h' x = qR h x ∧ qA h' x = qA h x ∧ qL h' x = qL h x
section GW
variable {K : Nat → Nat} {V : Nat → Int64} {c o rF pF : Nat} {h h1 h2 : q_Hp}
theorem g_W.rf : g_W c h h := fun _ _ _ => ⟨rfl, rfl, rfl, rfl⟩
theorem g_W.trans (a : g_W c h h1) (b : g_W c h1 h2) : g_W c h h2 := fun x q1 q2 => by
  obtain ⟨a1, a2, a3, a4⟩ := a x q1 q2
  obtain ⟨b1, b2, b3, b4⟩ := b x q1 q2
  exact ⟨b1.trans a1, b2.trans a2, b3.trans a3, b4.trans a4⟩
theorem g_W.sI {x j : Nat} {v : Int32} (a : g_W c h h1) (hx : (589 ≤ x ∧ x ≤ 596) ∨ (c ≤ x ∧ x < c + 289)) : g_W c h (q_sI h1 x j v) := a.trans (fun y q1 q2 => ⟨q_up_ne (fun e => by subst e; omega), rfl, rfl, rfl⟩)
theorem g_W.sA {x j : Nat} {v : Int32} (a : g_W c h h1) (hx : (589 ≤ x ∧ x ≤ 596) ∨ (c ≤ x ∧ x < c + 289)) : g_W c h (q_sA h1 x j v) := a.trans (fun y q1 q2 => ⟨rfl, rfl, q_up_ne (fun e => by subst e; omega), rfl⟩)
theorem g_W.sL {x j : Nat} {v : Int64} (a : g_W c h h1) (hx : (589 ≤ x ∧ x ≤ 596) ∨ (c ≤ x ∧ x < c + 289)) : g_W c h (q_sL h1 x j v) := a.trans (fun y q1 q2 => ⟨rfl, rfl, rfl, q_up_ne (fun e => by subst e; omega)⟩)
theorem g_W.sR {x j v : Nat} (a : g_W c h h1) (hx : (589 ≤ x ∧ x ≤ 596) ∨ (c ≤ x ∧ x < c + 289)) : g_W c h (q_sR h1 x j v) := a.trans (fun y q1 q2 => ⟨rfl, q_up_ne (fun e => by subst e; omega), rfl, rfl⟩)
theorem g_W.ite {p : Prop} [Decidable p] (a : g_W c h h1) (b : g_W c h h2) : g_W c h (if p then h1 else h2) := by
  split
  · exact a
  · exact b
theorem g_W.fa {n : Int32} {x : Nat} (a : g_W c h h1) : g_W c h (g_fa n x h1) := g_W.ite ((a.sI (by omega)).sI (by omega)) a
theorem g_W.fw {w : Option Nat} {x : Nat} (a : g_W c h h1) : g_W c h (g_fw x w h1) := g_W.ite a.fa a
theorem g_W.dw {w : Option Nat} {x : Nat} (a : g_W c h h1) : g_W c h (g_dw x w h1) := g_W.ite a a.fa
theorem g_K.W {F D : List Nat} (a : g_K c o F D h h1) (h1o : c ≤ o ∧ o + 14 ≤ c + 289) (hD : ∀ i, i ∈ D → i < 14) : g_W c h h1 := by
  intro x q1 q2
  refine ⟨?_, by rw [a.2.2.2], a.2.1 x (by omega) (fun i hi => ?_), a.2.2.1 x (by omega)⟩
  · funext j
    exact a.1 x j (fun h9 => by omega) (fun h9 => by omega) (fun h9 => by omega)
  · have := hD i hi
    omega
theorem g_Kd.W (a : g_Kd c h h1) : g_W c h h1 := by
  intro x q1 q2
  refine ⟨?_, by rw [a.2.2.2], a.2.1 x (by omega), by rw [a.2.2.1]⟩
  funext j
  exact a.1 x j (fun h9 => by omega) (fun h9 => by omega)
theorem g_W.ty {nt a : Nat} : g_W c h (g_ty K V c nt a h) := (((g_W.ite g_W.rf.dw.fw g_W.rf.dw).sL (by omega)).sA (by omega)).sI (by omega)
theorem g_W.so {nt ns a : Nat} : g_W c h (g_so V c nt ns a h) := ((((g_W.rf.dw.fw.fw).sL (by omega)).sA (by omega)).sA (by omega)).sI (by omega)
theorem g_W.ru0 {nr np a : Nat} (hr : nr < 20) : g_W c h (g_ru0 V c nr np a h) := by
  have ho : (589 ≤ g_ro c nr ∧ g_ro c nr ≤ 596) ∨ (c ≤ g_ro c nr ∧ g_ro c nr < c + 289) := by
    unfold g_ro
    omega
  exact ((((((((((g_W.rf.dw.dw.sR (by omega)).sI ho).sI ho).sI ho).sI ho).sI ho).sI ho).sI ho).sI (by omega)).sI (by omega)).sI (by omega)
theorem g_W.ru {nt ns nr np a : Nat} (hr : nr < 20) : g_W c h (g_ru K V c nt ns nr np a h) := by
  have ho : c ≤ g_ro c nr ∧ g_ro c nr + 14 ≤ c + 289 := by
    unfold g_ro
    omega
  have hD : ∀ i, i ∈ [0, 1, 2, 3, 4, 5, 6, 7, 8, 9, 10, 11, 12, 13] → i < 14 := by decide
  have k : ∀ h1, g_K c (g_ro c nr) [0, 1, 2, 3, 4, 5, 6] [0, 1, 2, 3, 4, 5, 6, 7, 8, 9, 10, 11, 12, 13] h1 h1 := fun _ => g_K.rf
  have w0 := g_W.ru0 (V := V) (h := h) (c := c) (np := np) (a := a) hr
  have w1 := w0.trans ((g_K.lf (K := K) (V := V) (nt := nt) (ns := ns) (by decide) (by decide) (by decide) (by decide) (by decide) (by decide) (by decide) 1201 0 0 (a + 2, 0) _ (k (g_ru0 V c nr np a h))).W ho hD)
  have w2 := w1.trans ((g_K.nts (K := K) (V := V) (nt := nt) (ns := ns) (m := g_tn (g_ru1 K V c nt ns nr np a h)) (by decide) (by decide) (by decide) (by decide) (by decide) (by decide) 3 0 (y_r1 K (a, 0)) _ (k (g_ru1 K V c nt ns nr np a h))).W ho hD)
  have w3 := w2.trans ((g_K.tss (K := K) (V := V) (m := g_tn (g_ru2 K V c nt ns nr a (g_ru1 K V c nt ns nr np a h))) (by decide) (by decide) (by decide) (by decide) 5 0 (y_nt K 3 0 (y_r1 K (a, 0))) _ (k (g_ru2 K V c nt ns nr a (g_ru1 K V c nt ns nr np a h)))).W ho hD)
  have w4 := w3.trans ((g_K.dss (K := K) (V := V) (nt := nt) (ns := ns) (by decide) (by decide) (by decide) (by decide) (by decide) (by decide) (by decide) (by decide) 9 0 (y_ts K 5 0 (y_nt K 3 0 (y_r1 K (a, 0)))) _ (k (g_ru3 K V c nr a (g_ru2 K V c nt ns nr a (g_ru1 K V c nt ns nr np a h))))).W ho hD)
  exact w4.sI (by omega)
theorem g_W.pc {nr np a : Nat} : g_W c h (g_pc K V c rF pF nr np a h) := by
  unfold g_pc
  have w1 : g_W c h (g_tw (V (a + 1)) nr np (a + 1) h) := g_W.rf.dw.dw
  exact ((w1.trans (g_Kd.rw (K := K) (V := V) (rF := rF) (pF := pF) 1202 0 (a + 2, 0) (-1, -1) _ g_Kd.rf).W).sA (by omega)).sI (by omega)
theorem g_W.tt : ∀ m (t : y_T) (s : y_S) h, (y_tp K m t s).2.2 = 0 → g_W c h (g_tt K V c rF pF m t.1 t.2.1 t.2.2.1 t.2.2.2.1 s h) := by
  intro m
  induction m with
  | zero => intro t s h _; exact g_W.rf
  | succ m ih =>
    intro t s h hz
    have s0 := y_tp_z hz
    unfold y_tp at hz
    unfold g_tt
    by_cases h42 : K s.1 = 42
    · have ni : ∀ x, ¬ x = 42 → ¬ y_is K x s = true := fun x hx q => hx ((y_is_c.mp q).2.symm.trans h42)
      rw [if_neg (ni 0 (by decide)), if_neg (ni 2 (by decide)), if_neg (ni 3 (by decide)), if_neg (ni 4 (by decide))]
      exact g_W.rf
    rw [if_pos ⟨s0, h42⟩] at hz
    by_cases c0 : y_is K 0 s = true
    · rw [if_pos c0] at hz ⊢
      exact g_W.ty.trans (ih (t.1 + 1, t.2) _ _ hz)
    rw [if_neg c0] at hz ⊢
    by_cases c2 : y_is K 2 s = true
    · rw [if_pos c2] at hz ⊢
      exact g_W.so.trans (ih (t.1, t.2.1 + 1, t.2.2) _ _ hz)
    rw [if_neg c2] at hz ⊢
    by_cases c3 : y_is K 3 s = true
    · rw [if_pos c3] at hz ⊢
      have z1 := y_tp_z hz
      have es : s = (s.1, 0) := Prod.ext rfl s0
      obtain ⟨p1, _⟩ := y_ru_p (show (y_ru K t.2.2.1 (s.1, 0)).2 = 0 by rw [← es]; exact z1)
      exact (g_W.ru p1).trans (ih (t.1, t.2.1, t.2.2.1 + 1, t.2.2.2.1, un t.2.2.2.2.1 t.2.2.1 (s.1 + 1), t.2.2.2.2.2) _ _ hz)
    rw [if_neg c3] at hz ⊢
    by_cases c4 : y_is K 4 s = true
    · rw [if_pos c4] at hz ⊢
      exact g_W.pc.trans (ih (t.1, t.2.1, t.2.2.1, t.2.2.2.1 + 1, t.2.2.2.2.1, un t.2.2.2.2.2 t.2.2.2.1 (s.1 + 1)) _ _ hz)
    · rw [if_neg c4]
      exact g_W.rf
theorem g_W.al (hz : (y_al K).2.2 = 0) : g_W c h (g_al K V c rF pF h) := by
  have w0 : g_W c h (g_a0 c h) := by
    unfold g_a0 g_cl
    exact ((((((((g_W.rf.sR (by omega)).sI (by omega)).sI (by omega)).sI (by omega)).sI (by omega)).sI (by omega)).sI (by omega)).sI (by omega)).sI (by omega)
  exact w0.trans (g_W.tt 1201 (0, 0, 0, 0, fun _ => 0, fun _ => 0) (0, 0) _ hz)
theorem q_Ef.W (a : q_Ef [589] h h1) : g_W c h h1 := by
  intro x q1 q2
  have h9 : x ∉ [589] := by simp; omega
  exact ⟨a.I h9, a.R h9, a.A h9, a.L h9⟩
end GW
