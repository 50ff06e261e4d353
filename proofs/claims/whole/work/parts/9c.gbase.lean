/-! THE BUILDER OF THE CLASS: where it is in its tokens, and its small methods -/
/-- like h0 but for its place; c is the book it fills -/
def g_y (K Pl : Nat → Nat) (V : Nat → Int64) (e c : Nat) (h0 h : q_Hp) (a : Nat) : Prop := q_Sh h ∧ y_C h K Pl V e ∧ q_isB c ∧ qR h 589 12 = c ∧ q_Ef [589] h0 h ∧ (∀ j, ¬ j = 14 → qI h 589 j = qI h0 589 j) ∧ qR h 589 = qR h0 589 ∧ qI h 589 14 = nI a ∧ a ≤ e
section GB
variable {K Pl : Nat → Nat} {V : Nat → Int64} {e c a : Nat} {h0 h : q_Hp}
theorem g_y.sh (Y : g_y K Pl V e c h0 h a) : q_Sh h := Y.1
theorem g_y.C (Y : g_y K Pl V e c h0 h a) : y_C h K Pl V e := Y.2.1
theorem g_y.B (Y : g_y K Pl V e c h0 h a) : q_isB c := Y.2.2.1
theorem g_y.bk (Y : g_y K Pl V e c h0 h a) : qR h 589 12 = c := Y.2.2.2.1
theorem g_y.E (Y : g_y K Pl V e c h0 h a) : q_Ef [589] h0 h := Y.2.2.2.2.1
theorem g_y.I (Y : g_y K Pl V e c h0 h a) {j : Nat} (hj : ¬ j = 14) : qI h 589 j = qI h0 589 j := Y.2.2.2.2.2.1 j hj
theorem g_y.R (Y : g_y K Pl V e c h0 h a) : qR h 589 = qR h0 589 := Y.2.2.2.2.2.2.1
theorem g_y.ea (Y : g_y K Pl V e c h0 h a) : qI h 589 14 = nI a := Y.2.2.2.2.2.2.2.1
theorem g_y.le (Y : g_y K Pl V e c h0 h a) : a ≤ e := Y.2.2.2.2.2.2.2.2
theorem g_y.e12 (Y : g_y K Pl V e c h0 h a) : e ≤ 1200 := Y.C.2.1
theorem g_y.A (Y : g_y K Pl V e c h0 h a) {x : Nat} (hx : ¬ x = 589) : qA h x = qA h0 x := Y.E.A (by simp; exact hx)
theorem g_y.L (Y : g_y K Pl V e c h0 h a) {x : Nat} (hx : ¬ x = 589) : qL h x = qL h0 x := Y.E.L (by simp; exact hx)
theorem g_y.O (Y : g_y K Pl V e c h0 h a) {x : Nat} (hx : ¬ x = 589) : qI h x = qI h0 x := (Y.E.2.2.2.2 x (by simp; exact hx)).1
theorem g_y.c2 (Y : g_y K Pl V e c h0 h a) : c = 11 ∨ c = 300 := Y.B
/-- on to another token -/
theorem g_y.to (Y : g_y K Pl V e c h0 h a) {b : Nat} (hb : b ≤ e) : g_y K Pl V e c h0 (q_sI h 589 14 (nI b)) b := by
  obtain ⟨S, C, B, bk, E, I, R, _, _⟩ := Y
  refine ⟨S, C, B, bk, E.trans (q_Ef.sI (by decide)), fun j hj => ?_, R, q_sI_e, hb⟩
  rw [q_sI_n (fun h9 => hj h9.2)]
  exact I j hj
theorem g_y.nx (Y : g_y K Pl V e c h0 h a) {d : Nat} {v : Int32} (hv : v = nI d) (hb : a + d ≤ e) : g_y K Pl V e c h0 (q_sI h 589 14 (qI h 589 14 + v)) (a + d) := by
  rw [Y.ea, hv, nI_add]
  exact Y.to hb
theorem g_y.n1 (Y : g_y K Pl V e c h0 h a) (hb : a + 1 ≤ e) : g_y K Pl V e c h0 (q_sI h 589 14 (qI h 589 14 + 1)) (a + 1) := Y.nx rfl hb
theorem g_y.n2 (Y : g_y K Pl V e c h0 h a) (hb : a + 2 ≤ e) : g_y K Pl V e c h0 (q_sI h 589 14 (qI h 589 14 + 2)) (a + 2) := Y.nx rfl hb
theorem g_y.sA {x i : Nat} {v : Int32} (Y : g_y K Pl V e c h0 h a) (hx : ¬ x = 5 ∧ ¬ x = 6) : g_y K Pl V e c (q_sA h0 x i v) (q_sA h x i v) a := by
  obtain ⟨S, C, B, bk, E, T⟩ := Y
  refine ⟨S, ⟨C.1, C.2.1, fun j hj => ?_⟩, B, bk, ⟨E.1, E.2.1, E.2.2.1, E.2.2.2.1, fun y hy => ⟨(E.2.2.2.2 y hy).1, (E.2.2.2.2 y hy).2.1, ?_, (E.2.2.2.2 y hy).2.2.2⟩⟩, T⟩
  · rw [qA_sAn (fun h9 => hx.1 h9.symm), qA_sAn (fun h9 => hx.2 h9.symm)]
    exact C.2.2 j hj
  · have := (E.2.2.2.2 y hy).2.2.1
    funext j
    show (if y = x ∧ j = i then v else qA h y j) = if y = x ∧ j = i then v else qA h0 y j
    rw [this]
theorem g_y.sL {x i : Nat} {v : Int64} (Y : g_y K Pl V e c h0 h a) (hx : ¬ x = 7) : g_y K Pl V e c (q_sL h0 x i v) (q_sL h x i v) a := by
  obtain ⟨S, C, B, bk, E, T⟩ := Y
  refine ⟨S, ⟨C.1, C.2.1, fun j hj => ?_⟩, B, bk, ⟨E.1, E.2.1, E.2.2.1, E.2.2.2.1, fun y hy => ⟨(E.2.2.2.2 y hy).1, (E.2.2.2.2 y hy).2.1, (E.2.2.2.2 y hy).2.2.1, ?_⟩⟩, T⟩
  · rw [qL_sLn (fun h9 => hx h9.symm)]
    exact C.2.2 j hj
  · have := (E.2.2.2.2 y hy).2.2.2
    funext j
    show (if y = x ∧ j = i then v else qL h y j) = if y = x ∧ j = i then v else qL h0 y j
    rw [this]
theorem g_y.sI {o j : Nat} {v : Int32} (Y : g_y K Pl V e c h0 h a) (ho : ¬ o = 3) (hj : o = 589 → ¬ j = 14) : g_y K Pl V e c (q_sI h0 o j v) (q_sI h o j v) a := by
  obtain ⟨S, C, B, bk, E, I, R, t, tl⟩ := Y
  refine ⟨S, ⟨?_, C.2.1, C.2.2⟩, B, bk, ⟨E.1, E.2.1, E.2.2.1, E.2.2.2.1, fun y hy => ⟨?_, (E.2.2.2.2 y hy).2⟩⟩, fun i hi => ?_, R, ?_, tl⟩
  · rw [q_sI_n (fun h9 => ho h9.1.symm)]
    exact C.1
  · have := (E.2.2.2.2 y hy).1
    funext i
    show (if y = o ∧ i = j then v else qI h y i) = if y = o ∧ i = j then v else qI h0 y i
    rw [this]
  · show (if 589 = o ∧ i = j then v else qI h 589 i) = if 589 = o ∧ i = j then v else qI h0 589 i
    rw [I i hi]
  · rw [q_sI_n (fun h9 => hj h9.1.symm h9.2.symm)]
    exact t
theorem g_y.sR {v : Nat} (Y : g_y K Pl V e c h0 h a) : g_y K Pl V e c (q_sR h0 589 13 v) (q_sR h 589 13 v) a := by
  obtain ⟨S, C, B, bk, E, I, R, t, tl⟩ := Y
  refine ⟨S.sR rfl, C, B, ?_, ⟨E.1, E.2.1, E.2.2.1, fun o k hk => ?_, fun y hy => ⟨(E.2.2.2.2 y hy).1, ?_, (E.2.2.2.2 y hy).2.2⟩⟩, I, ?_, t, tl⟩
  · rw [qR_sR, if_neg (by omega)]
    exact bk
  · rw [qR_sR, qR_sR, E.2.2.2.1 o k hk]
  · have := (E.2.2.2.2 y hy).2.1
    funext j
    rw [qR_sR, qR_sR, this]
  · funext j
    rw [qR_sR, qR_sR, R]
theorem g_y.cset {x n : Nat} {i v : Int32} (Y : g_y K Pl V e c h0 h a) (hx : ¬ x = 5 ∧ ¬ x = 6) : g_y K Pl V e c (c_set h0 x n i v) (c_set h x n i v) a := by
  unfold c_set
  split
  · exact Y.sA hx
  · exact Y
theorem g_y.ok (Y : g_y K Pl V e c h0 h a) : q_ok h 589 1 := Y.sh.ok rfl
theorem g_y.okB (Y : g_y K Pl V e c h0 h a) : q_ok h c 0 := Y.sh.bo Y.B
theorem s25 (Y : g_y K Pl V e c h0 h a) : q_mI 1 25 [.ref 589] h (fun z h' => h' = h ∧ z = nI (K a)) := by
  refine q_mI.of (q_recV rfl Y.ok) (fun Q fin => ?_)
  refine b25_0 (v0 := 3) Y.ok (Y.sh.ref rfl) (by rw [Y.ea]; exact s188 Y.sh Y.C Y.le) (by decide) ?_
  rintro z h2 ⟨e0, rfl⟩
  subst h2
  exact b25_11 (fin _ _ ⟨rfl, rfl⟩)
/-- a fault: the first one stays -/
def g_fa (n : Int32) (a : Nat) (h : q_Hp) : q_Hp := if qI h 589 15 = 0 then q_sI (q_sI h 589 15 n) 589 16 (nI a) else h
def g_fw (a : Nat) (o : Option Nat) (h : q_Hp) : q_Hp := if o = none then g_fa 4 a h else h
def g_dw (a : Nat) (o : Option Nat) (h : q_Hp) : q_Hp := if o = none then h else g_fa 3 a h
theorem s26 {n : Int32} (Y : g_y K Pl V e c h0 h a) : q_mV 0 26 [.ref 589, .int n] h (fun h' => g_y K Pl V e c (g_fa n a h0) h' a) := by
  refine q_mV.of (q_recV rfl Y.ok) (fun Q fin => ?_)
  refine b26_0 Y.ok (fun c1 => b26_20 (fin _ ?_)) (fun c1 => b26_7 Y.ok (b26_20 (fin _ ?_)))
  · unfold g_fa
    rw [if_neg (by rw [← Y.I (by decide)]; exact c1)]
    exact Y
  · have ea : qI (q_sI h 589 15 n) 589 14 = nI a := by rw [q_sI_n (by omega)]; exact Y.ea
    unfold g_fa
    rw [if_pos (by rw [← Y.I (by decide)]; exact c1), ea]
    exact (Y.sI (by decide) (by decide)).sI (by decide) (by decide)
theorem s27_3 {x m n : Nat} {v : Int64} {Q : Option Value → q_Hp → Prop} (hk : q_ok h x 21) (hl : (qK h x).2 = n) (hmn : m ≤ n) (hn : n < 2 ^ 31) (fin : Q (some (.int (q_on (p_fi (qL h x) m v)))) h) : ∀ r j, j + r = m → p_fi (qL h x) m v = q_fst (fun i => qL h x i == v) j r → q_wp 0 27 3 [some (.ref x), some (.int (nI m)), some (.long v), none, some (.int (nI j))] [] h Q := by
  intro r
  induction r with
  | zero =>
    intro j hj hf
    obtain rfl : m = j := by omega
    refine b27_3 (fun _ => b27_34 ?_) (fun c1 => absurd (Int32.le_refl _) c1)
    rw [hf] at fin
    exact fin
  | succ r ih =>
    intro j hj hf
    refine b27_3 (fun c1 => ?_) (fun _ => b27_9 hk (by decide) (fun c2 => ?_) (fun _ => b27_16 hk (q_inN (by rw [hl]; omega) (by rw [hl]; exact hn)) (fun c3 => b27_28 ?_) (fun c3 => b27_25 ?_)))
    · have := (nI_leI (a := m) (b := j) (by omega) (by omega)).mp c1
      omega
    · rw [hl] at c2
      have := (nI_leI (a := n) (b := j) hn (by omega)).mp c2
      omega
    · rw [nI_clamp (by omega)] at c3
      rw [nI_1]
      refine ih (j + 1) (by omega) (hf.trans (q_fst_s1 ?_))
      exact beq_false_of_ne (fun h9 => c3 (lg_0.mpr h9))
    · rw [nI_clamp (by omega)] at c3
      rw [hf, q_fst_s0 (p := fun i => qL h x i == v) (beq_iff_eq.mpr (lg_0.mp c3))] at fin
      exact fin
theorem s27 {x m n : Nat} {v : Int64} (hk : q_ok h x 21) (hl : (qK h x).2 = n) (hmn : m ≤ n) (hn : n < 2 ^ 31) : q_mI 0 27 [.ref x, .int (nI m), .long v] h (fun z h' => h' = h ∧ z = q_on (p_fi (qL h x) m v)) := by
  refine q_mI.of (q_recS rfl) (fun Q fin => ?_)
  exact b27_0 (s27_3 hk hl hmn hn (fin _ _ ⟨rfl, rfl⟩) m 0 (by omega) rfl)
theorem g_fa_A {n : Int32} {x : Nat} : qA (g_fa n x h0) = qA h0 := by
  unfold g_fa
  split <;> rfl
theorem g_fa_L {n : Int32} {x : Nat} : qL (g_fa n x h0) = qL h0 := by
  unfold g_fa
  split <;> rfl
theorem g_fa_I {n : Int32} {x o j : Nat} (h : ¬ (o = 589 ∧ (j = 15 ∨ j = 16))) : qI (g_fa n x h0) o j = qI h0 o j := by
  unfold g_fa
  split
  · rw [q_sI_n (by omega), q_sI_n (by omega)]
  · rfl
theorem g_fa_R {n : Int32} {x : Nat} : qR (g_fa n x h0) = qR h0 := by
  unfold g_fa
  split <;> rfl
theorem g_fw_A {x : Nat} {o : Option Nat} : qA (g_fw x o h0) = qA h0 := by
  unfold g_fw
  split
  · exact g_fa_A
  · rfl
theorem g_fw_L {x : Nat} {o : Option Nat} : qL (g_fw x o h0) = qL h0 := by
  unfold g_fw
  split
  · exact g_fa_L
  · rfl
theorem g_fw_I {x o j : Nat} {w : Option Nat} (h : ¬ (o = 589 ∧ (j = 15 ∨ j = 16))) : qI (g_fw x w h0) o j = qI h0 o j := by
  unfold g_fw
  split
  · exact g_fa_I h
  · rfl
theorem g_fw_R {x : Nat} {o : Option Nat} : qR (g_fw x o h0) = qR h0 := by
  unfold g_fw
  split
  · exact g_fa_R
  · rfl
theorem g_dw_A {x : Nat} {o : Option Nat} : qA (g_dw x o h0) = qA h0 := by
  unfold g_dw
  split
  · rfl
  · exact g_fa_A
theorem g_dw_L {x : Nat} {o : Option Nat} : qL (g_dw x o h0) = qL h0 := by
  unfold g_dw
  split
  · rfl
  · exact g_fa_L
theorem g_dw_I {x o j : Nat} {w : Option Nat} (h : ¬ (o = 589 ∧ (j = 15 ∨ j = 16))) : qI (g_dw x w h0) o j = qI h0 o j := by
  unfold g_dw
  split
  · rfl
  · exact g_fa_I h
theorem g_dw_R {x : Nat} {o : Option Nat} : qR (g_dw x o h0) = qR h0 := by
  unfold g_dw
  split
  · rfl
  · exact g_fa_R
/-- a type's name is looked up -/
theorem s28 {nt : Nat} (Y : g_y K Pl V e c h0 h a) (ha : a < e) (hn : qI h0 c 0 = nI nt) (h12 : nt ≤ 12) : q_mI 1 28 [.ref 589] h (fun z h' => z = q_on (p_fi (qL h0 590) nt (V a)) ∧ g_y K Pl V e c (g_fw a (p_fi (qL h0 590) nt (V a)) h0) h' (a + 1)) := by
  refine q_mI.of (q_recV rfl Y.ok) (fun Q fin => ?_)
  have hc := Y.c2
  have en : qI h c 0 = nI nt := by rw [Y.O (by omega)]; exact hn
  have e90 : qL h 590 = qL h0 590 := Y.L (by decide)
  refine b28_0 (v0 := 590) (v1 := c) (v2 := 3) Y.ok (Y.sh.ref rfl) Y.bk Y.okB (Y.sh.ref rfl) (by rw [Y.ea]; exact s190 Y.sh Y.C Y.le) (by decide) ?_
  rintro z h2 ⟨e0, rfl⟩
  subst h2
  rw [en]
  refine b28_22 (s27 (n := 12) (Y.sh.ok rfl) (Y.sh.len rfl) h12 (by decide)) (by decide) ?_
  rintro z h2 ⟨e0, rfl⟩
  subst h2
  rw [e90]
  have qn := q_on_none (o := p_fi (qL h0 590) nt (V a)) (n := 12) (fun j h => by have := (p_fi_lt h).1; omega) (by decide)
  refine b28_25 (fun c1 => b28_36 Y.ok (fin _ _ ⟨rfl, ?_⟩)) (fun c1 => b28_31 (s26 Y) (by decide) (fun h' Y' => b28_36 Y'.ok (fin _ _ ⟨rfl, ?_⟩)))
  · unfold g_fw
    rw [if_neg (fun h9 => c1 (qn.mpr h9))]
    exact Y.nx rfl (by omega)
  · unfold g_fw
    rw [if_pos (qn.mp c1)]
    exact Y'.nx rfl (by omega)
theorem s29 {ns : Nat} (Y : g_y K Pl V e c h0 h a) (ha : a < e) (hn : qI h0 c 1 = nI ns) (h12 : ns ≤ 12) : q_mI 1 29 [.ref 589] h (fun z h' => z = q_on (p_fi (qL h0 591) ns (V a)) ∧ g_y K Pl V e c (g_fw a (p_fi (qL h0 591) ns (V a)) h0) h' (a + 1)) := by
  refine q_mI.of (q_recV rfl Y.ok) (fun Q fin => ?_)
  have hc := Y.c2
  have en : qI h c 1 = nI ns := by rw [Y.O (by omega)]; exact hn
  have e90 : qL h 591 = qL h0 591 := Y.L (by decide)
  refine b29_0 (v0 := 591) (v1 := c) (v2 := 3) Y.ok (Y.sh.ref rfl) Y.bk Y.okB (Y.sh.ref rfl) (by rw [Y.ea]; exact s190 Y.sh Y.C Y.le) (by decide) ?_
  rintro z h2 ⟨e0, rfl⟩
  subst h2
  rw [en]
  refine b29_22 (s27 (n := 12) (Y.sh.ok rfl) (Y.sh.len rfl) h12 (by decide)) (by decide) ?_
  rintro z h2 ⟨e0, rfl⟩
  subst h2
  rw [e90]
  have qn := q_on_none (o := p_fi (qL h0 591) ns (V a)) (n := 12) (fun j h => by have := (p_fi_lt h).1; omega) (by decide)
  refine b29_25 (fun c1 => b29_36 Y.ok (fin _ _ ⟨rfl, ?_⟩)) (fun c1 => b29_31 (s26 Y) (by decide) (fun h' Y' => b29_36 Y'.ok (fin _ _ ⟨rfl, ?_⟩)))
  · unfold g_fw
    rw [if_neg (fun h9 => c1 (qn.mpr h9))]
    exact Y.nx rfl (by omega)
  · unfold g_fw
    rw [if_pos (qn.mp c1)]
    exact Y'.nx rfl (by omega)
end GB
