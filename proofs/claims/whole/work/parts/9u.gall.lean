/-! THE BUILDER OF THE CLASS: fill, and where its fault is -/
def g_cl (c : Nat) (h : q_Hp) : q_Hp := q_sI (q_sI (q_sI (q_sI (q_sI (q_sI h c 0 0) c 1 0) c 2 0) c 3 0) c 4 0) c 5 0
def g_a0 (c : Nat) (h : q_Hp) : q_Hp := q_sI (q_sI (g_cl c (q_sR h 589 12 c)) 589 14 0) 589 15 0
def g_al (K : Nat → Nat) (V : Nat → Int64) (c rF pF : Nat) (h : q_Hp) : q_Hp := g_tt K V c rF pF 1201 0 0 0 0 (0, 0) (g_a0 c h)
section GB
variable {K Pl : Nat → Nat} {V : Nat → Int64} {e c a : Nat} {h0 h : q_Hp}
theorem g_cl_I {x j : Nat} (hx : ¬ x = c) : qI (g_cl c h0) x j = qI h0 x j := by
  unfold g_cl
  rw [q_sI_n (by omega), q_sI_n (by omega), q_sI_n (by omega), q_sI_n (by omega), q_sI_n (by omega), q_sI_n (by omega)]
theorem g_cl_0 {j : Nat} (hj : j < 6) : qI (g_cl c h0) c j = 0 := by
  unfold g_cl
  show (if c = c ∧ j = 5 then 0 else if c = c ∧ j = 4 then 0 else if c = c ∧ j = 3 then 0 else if c = c ∧ j = 2 then 0 else if c = c ∧ j = 1 then 0 else if c = c ∧ j = 0 then 0 else qI h0 c j) = 0
  split
  · rfl
  split
  · rfl
  split
  · rfl
  split
  · rfl
  split
  · rfl
  split
  · rfl
  omega
theorem g_a0_I {x j : Nat} (hx : ¬ x = c) (h9 : ¬ (x = 589 ∧ (j = 14 ∨ j = 15))) : qI (g_a0 c h0) x j = qI h0 x j := by
  unfold g_a0
  rw [q_sI_n (by omega), q_sI_n (by omega), g_cl_I hx]
  rfl
theorem g_a0_0 {j : Nat} (hc : ¬ c = 589) (hj : j < 6) : qI (g_a0 c h0) c j = 0 := by
  unfold g_a0
  rw [q_sI_n (by omega), q_sI_n (by omega)]
  exact g_cl_0 hj
theorem g_a0_Y (S : q_Sh h) (C : y_C h K Pl V e) (B : q_isB c) : g_y K Pl V e c (g_a0 c h) (g_a0 c h) 0 := by
  have hc : c = 11 ∨ c = 300 := B
  refine ⟨S.sR rfl, ⟨?_, C.2.1, C.2.2⟩, B, ?_, q_Ef.rf, fun _ _ => rfl, rfl, ?_, Nat.zero_le _⟩
  · rw [g_a0_I (by omega) (by omega)]
    exact C.1
  · show qR (q_sR h 589 12 c) 589 12 = c
    rw [qR_sR, if_pos ⟨rfl, rfl⟩]
  · unfold g_a0
    rw [q_sI_n (by omega), q_sI_e]
    rfl
theorem s1g (S : q_Sh h) (B : q_isB c) : q_mV 0 1 [.ref c] h (fun h' => h' = g_cl c h) := by
  refine q_mV.of (q_recV rfl (S.bo B)) (fun Q fin => ?_)
  exact b1_0 (S.bo B) (fin _ rfl)
theorem s23 {rF pF : Nat} (S : q_Sh h) (C : y_C h K Pl V e) (B : q_isB c) (N : g_SN rF pF h) (hr : (y_al K).1.2.2.1 = rF) (hp : (y_al K).1.2.2.2.1 = pF) (hz : (y_al K).2.2 = 0) (he : (y_al K).2.1 ≤ e) : q_mI 22 23 [.ref 589, .ref c] h (fun z h' => z = qI (g_al K V c rF pF h) 589 15 ∧ g_y K Pl V e c (g_al K V c rF pF h) h' (y_al K).2.1 ∧ ∃ q D, g_FF c (y_al K).1.1 (y_al K).1.2.1 (y_al K).1.2.2.1 (y_al K).1.2.2.2.1 q D rF pF (y_al K).2.1 (g_al K V c rF pF h)) := by
  have hc : c = 11 ∨ c = 300 := B
  have ok9 : q_ok h 589 1 := S.ok rfl
  have Y := g_a0_Y (K := K) (Pl := Pl) (V := V) (e := e) S C B
  refine q_mI.of (q_recV rfl ok9) (fun Q fin => ?_)
  have S2 : q_Sh (q_sR h 589 12 c) := S.sR rfl
  refine b23_0 (n := 21) (v0 := c) ok9 (by rw [qR_sR, if_pos ⟨rfl, rfl⟩]) (s1g S2 B) (by decide) ?_
  rintro h1 rfl
  have ok1 : q_ok (g_cl c (q_sR h 589 12 c)) 589 1 := S2.ok rfl
  refine b23_12 ok1 ?_
  rw [show (0 : Int32) = nI 0 from rfl]
  have i0 : ∀ j, j < 6 → qI (g_a0 c h) c j = nI 0 := fun j hj => g_a0_0 (by omega) hj
  refine s23_24 1201 (0, 0, 0, 0, fun _ => 0, fun _ => 0) (0, 0) (g_a0 c h) (g_a0 c h) 0 0 0 rfl (by decide) (Nat.le_refl _) ⟨i0 0 (by decide), by decide, i0 1 (by decide), by decide, i0 2 (by decide), by decide, i0 3 (by decide), by decide, i0 4 (by decide), Nat.le_refl _, i0 5 (by decide), Nat.le_refl _, ?_, Nat.zero_le _, Nat.zero_le _⟩ (Nat.le_of_eq hr) (Nat.le_of_eq hp) Y hz he (fun h' Y' H' => fin _ _ ⟨rfl, Y', H'⟩)
  unfold g_SN
  rw [g_a0_I (by omega) (by omega), g_a0_I (by omega) (by omega)]
  exact N
theorem s24 {i : Nat} (Y : g_y K Pl V e c h0 h a) (hi : ¬ qI h0 589 15 = 0 → qI h0 589 16 = nI i ∧ i ≤ e) : q_mI 1 24 [.ref 589] h (fun z h' => h' = h ∧ z = if qI h0 589 15 = 0 then -1 else nI (Pl i)) := by
  refine q_mI.of (q_recV rfl Y.ok) (fun Q fin => ?_)
  have e15 : qI h 589 15 = qI h0 589 15 := Y.I (by decide)
  have e16 : qI h 589 16 = qI h0 589 16 := Y.I (by decide)
  refine b24_0 Y.ok (fun c1 => ?_) (fun c1 => b24_7 (b24_22 (fin _ _ ⟨rfl, ?_⟩)))
  · rw [e15] at c1
    obtain ⟨q1, q2⟩ := hi c1
    refine b24_11 (v0 := 3) Y.ok (Y.sh.ref rfl) (by rw [e16, q1]; exact s189 Y.sh Y.C q2) (by decide) ?_
    rintro z h2 ⟨e0, rfl⟩
    subst h2
    refine b24_22 (fin _ _ ⟨rfl, ?_⟩)
    rw [if_neg c1]
  · rw [e15] at c1
    rw [if_pos c1]
end GB
