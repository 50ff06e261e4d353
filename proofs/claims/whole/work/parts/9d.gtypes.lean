/-! THE BUILDER OF THE CLASS: what a book and a rule take up; types and sorts -/
section GB
variable {K Pl : Nat → Nat} {V : Nat → Int64} {e c a : Nat} {h0 h : q_Hp}
theorem g_y.rg (Y : g_y K Pl V e c h0 h a) (j : Nat) (hj : j < 8) : qR h c (6 + j) = c + 1 + j := Y.sh.br Y.B j hj
theorem s11 {nt : Nat} {v : Int32} (Y : g_y K Pl V e c h0 h a) (hn : qI h0 c 0 = nI nt) (h12 : nt < 12) : q_mV 0 11 [.ref c, .int v] h (fun h' => g_y K Pl V e c (q_sI (q_sA h0 (c + 1) nt v) c 0 (nI (nt + 1))) h' a) := by
  refine q_mV.of (q_recV rfl Y.okB) (fun Q fin => ?_)
  have hc := Y.c2
  have en : qI h c 0 = nI nt := by rw [Y.O (by omega)]; exact hn
  have ba := Y.sh.ba Y.B 0 12 rfl
  refine b11_0 Y.okB (fun c1 => ?_) (fun _ => b11_9 (v0 := c + 1) Y.okB (Y.rg 0 (by decide)) ba.1 (by rw [en]; exact q_inN (by rw [ba.2]; exact h12) (by rw [ba.2]; decide)) (b11_29 (fin _ ?_)))
  · rw [en] at c1
    have := (nI_leI (a := 12) (by decide) (by omega)).mp c1
    omega
  · rw [en, nI_clamp (by omega), nI_1]
    exact (Y.sA (by omega)).sI (by omega) (by omega)
theorem s12 {ns : Nat} {v w : Int32} (Y : g_y K Pl V e c h0 h a) (hn : qI h0 c 1 = nI ns) (h12 : ns < 12) : q_mV 0 12 [.ref c, .int v, .int w] h (fun h' => g_y K Pl V e c (q_sI (q_sA (q_sA h0 (c + 2) ns v) (c + 3) ns w) c 1 (nI (ns + 1))) h' a) := by
  refine q_mV.of (q_recV rfl Y.okB) (fun Q fin => ?_)
  have hc := Y.c2
  have en : qI h c 1 = nI ns := by rw [Y.O (by omega)]; exact hn
  have b1 := Y.sh.ba Y.B 1 12 rfl
  have b2 := Y.sh.ba Y.B 2 12 rfl
  refine b12_0 Y.okB (fun c1 => ?_) (fun _ => b12_9 (v0 := c + 2) (v1 := c + 3) Y.okB (Y.rg 1 (by decide)) b1.1 (by rw [en]; exact q_inN (by rw [b1.2]; exact h12) (by rw [b1.2]; decide)) (Y.rg 2 (by decide)) b2.1 (by rw [en]; exact q_inN (by rw [b2.2]; exact h12) (by rw [b2.2]; decide)) (b12_39 (fin _ ?_)))
  · rw [en] at c1
    have := (nI_leI (a := 12) (by decide) (by omega)).mp c1
    omega
  · rw [en, nI_clamp (by omega), nI_1]
    exact ((Y.sA (by omega)).sA (by omega)).sI (by omega) (by omega)
theorem s13 {nr : Nat} (Y : g_y K Pl V e c h0 h a) (hn : qI h0 c 2 = nI nr) (h20 : nr < 20) : q_mV 0 13 [.ref c] h (fun h' => g_y K Pl V e c (q_sI h0 c 2 (nI (nr + 1))) h' a) := by
  refine q_mV.of (q_recV rfl Y.okB) (fun Q fin => ?_)
  have hc := Y.c2
  have en : qI h c 2 = nI nr := by rw [Y.O (by omega)]; exact hn
  refine b13_0 Y.okB (fun c1 => ?_) (fun _ => b13_9 Y.okB (b13_19 (fin _ ?_)))
  · rw [en] at c1
    have := (nI_leI (a := 20) (by decide) (by omega)).mp c1
    omega
  · rw [en, nI_1]
    exact Y.sI (by omega) (by omega)
theorem s14 {np : Nat} {v : Int32} (Y : g_y K Pl V e c h0 h a) (hn : qI h0 c 3 = nI np) (h10 : np < 10) : q_mV 0 14 [.ref c, .int v] h (fun h' => g_y K Pl V e c (q_sI (q_sA h0 (c + 5) np v) c 3 (nI (np + 1))) h' a) := by
  refine q_mV.of (q_recV rfl Y.okB) (fun Q fin => ?_)
  have hc := Y.c2
  have en : qI h c 3 = nI np := by rw [Y.O (by omega)]; exact hn
  have ba := Y.sh.ba Y.B 4 10 rfl
  refine b14_0 Y.okB (fun c1 => ?_) (fun _ => b14_9 (v0 := c + 5) Y.okB (Y.rg 4 (by decide)) ba.1 (by rw [en]; exact q_inN (by rw [ba.2]; exact h10) (by rw [ba.2]; decide)) (b14_29 (fin _ ?_)))
  · rw [en] at c1
    have := (nI_leI (a := 10) (by decide) (by omega)).mp c1
    omega
  · rw [en, nI_clamp (by omega), nI_1]
    exact (Y.sA (by omega)).sI (by omega) (by omega)
/-- a code more -/
def g_cd (c d : Nat) (x y : Int32) (h : q_Hp) : q_Hp := q_sI (q_sA (q_sA h (c + 6) d x) (c + 7) d y) c 4 (nI (d + 1))
theorem s18 {d : Nat} {v w : Int32} (Y : g_y K Pl V e c h0 h a) (hn : qI h0 c 4 = nI d) (h12 : d < 1200) : q_mV 0 18 [.ref c, .int v, .int w] h (fun h' => g_y K Pl V e c (g_cd c d v w h0) h' a) := by
  refine q_mV.of (q_recV rfl Y.okB) (fun Q fin => ?_)
  have hc := Y.c2
  have en : qI h c 4 = nI d := by rw [Y.O (by omega)]; exact hn
  have b1 := Y.sh.ba Y.B 5 1200 rfl
  have b2 := Y.sh.ba Y.B 6 1200 rfl
  refine b18_0 Y.okB (fun c1 => ?_) (fun _ => b18_10 (v0 := c + 6) (v1 := c + 7) Y.okB (Y.rg 5 (by decide)) b1.1 (by rw [en]; exact q_inN (by rw [b1.2]; exact h12) (by rw [b1.2]; decide)) (Y.rg 6 (by decide)) b2.1 (by rw [en]; exact q_inN (by rw [b2.2]; exact h12) (by rw [b2.2]; decide)) (b18_40 (fin _ ?_)))
  · rw [en] at c1
    have := (nI_leI (a := 1200) (by decide) (by omega)).mp c1
    omega
  · rw [en, nI_clamp (by omega), nI_1]
    exact ((Y.sA (by omega)).sA (by omega)).sI (by omega) (by omega)
/-- a do more: its kind, and no other part -/
def g_do (c D : Nat) (x : Int32) (h : q_Hp) : q_Hp := q_sA (q_sA (q_sA (q_sA (q_sA (q_sA (q_sI h c 5 (nI (D + 1))) (c + 8) (6 * D) x) (c + 8) (6 * D + 1) (-1)) (c + 8) (6 * D + 2) (-1)) (c + 8) (6 * D + 3) (-1)) (c + 8) (6 * D + 4) (-1)) (c + 8) (6 * D + 5) (-1)
theorem s19 {D : Nat} {x : Int32} (Y : g_y K Pl V e c h0 h a) (hn : qI h0 c 5 = nI D) (h12 : D < 1200) : q_mI 1 19 [.ref c, .int x] h (fun z h' => z = nI D ∧ g_y K Pl V e c (g_do c D x h0) h' a) := by
  refine q_mI.of (q_recV rfl Y.okB) (fun Q fin => ?_)
  have hc := Y.c2
  have en : qI h c 5 = nI D := by rw [Y.O (by omega)]; exact hn
  have rd : ∀ {h}, q_Sh h → qR h c 13 = c + 8 := fun S => S.br Y.B 7 (by decide)
  have bd : ∀ {h}, q_Sh h → q_ok h (c + 8) 20 ∧ (qK h (c + 8)).2 = 7200 := fun S => S.ba Y.B 7 7200 rfl
  have ix : ∀ j, nI D * 6 + nI j = nI (6 * D + j) := fun j => by rw [show nI D * 6 = nI (D * 6) from pk_mul D 6, nI_add, Nat.mul_comm]
  have st : ∀ {h h0 : q_Hp} (j : Nat) (v : Int32), g_y K Pl V e c h0 h a → j < 6 → (v = if j = 0 then x else -1) → (∀ h', g_y K Pl V e c (q_sA h0 (c + 8) (6 * D + j) v) h' a → q_wp 1 19 29 [some (.ref c), some (.int x), some (.int (nI D)), some (.int (nI (j + 1)))] [] h' Q) → q_wp 1 19 29 [some (.ref c), some (.int x), some (.int (nI D)), some (.int (nI j))] [] h Q := by
    intro h h0 j v Y hj hv w
    have g54 : ∀ v', v' = v → q_wp 1 19 54 [some (.ref c), some (.int x), some (.int (nI D)), some (.int (nI j))] [.int v', .int (nI D * 6 + nI j), .ref (c + 8)] h Q := by
      rintro v' rfl
      rw [ix]
      refine b19_54 (s233 (n := 7200) (bd Y.sh).1 (bd Y.sh).2 (by decide)) (by decide) ?_
      rintro h2 rfl
      refine b19_57 ?_
      rw [nI_1, c_set_in (by omega) (by decide)]
      exact w _ (Y.sA (by omega))
    refine b19_29 (fun c1 => ?_) (fun _ => b19_35 (v0 := c + 8) Y.okB (rd Y.sh) (fun c1 => b19_53 (g54 _ ?_)) (fun c1 => b19_49 (g54 _ ?_)))
    · have := (nI_leI (a := 6) (by decide) (by omega)).mp c1
      omega
    · rw [hv, if_neg (fun h9 => c1 (by rw [h9]; rfl))]
    · rw [hv, if_pos ((nI_eq (b := 0) (by omega) (by decide)).mp c1)]
  refine b19_0 Y.okB (fun _ => b19_12 Y.okB ?_) (fun c1 => absurd ((nI_ltI (b := 1200) (by omega) (by decide)).mpr h12) (by rw [en] at c1; exact c1))
  rw [en, nI_1]
  have Y0 : g_y K Pl V e c (q_sI h0 c 5 (nI (D + 1))) (q_sI h c 5 (nI (D + 1))) a := Y.sI (by omega) (by omega)
  refine st 0 x Y0 (by decide) (if_pos rfl).symm (fun h1 Y1 => ?_)
  refine st 1 (-1) Y1 (by decide) (if_neg (by decide)).symm (fun h2 Y2 => ?_)
  refine st 2 (-1) Y2 (by decide) (if_neg (by decide)).symm (fun h3 Y3 => ?_)
  refine st 3 (-1) Y3 (by decide) (if_neg (by decide)).symm (fun h4 Y4 => ?_)
  refine st 4 (-1) Y4 (by decide) (if_neg (by decide)).symm (fun h5 Y5 => ?_)
  refine st 5 (-1) Y5 (by decide) (if_neg (by decide)).symm (fun h6 Y6 => ?_)
  exact b19_29 (fun _ => b19_63 (fin _ _ ⟨rfl, Y6⟩)) (fun c1 => absurd (show (6 : Int32) ≤ nI 6 by decide) c1)
/-- a part of a do -/
def g_pt (c : Nat) (j k : Nat) (x : Int32) (h : q_Hp) : q_Hp := q_sA h (c + 8) (6 * j + k) x
theorem s21 {D j k : Nat} {x y z : Int32} (Y : g_y K Pl V e c h0 h a) (hn : qI h0 c 5 = nI D) (h12 : D ≤ 1200) (hj : j < D) (hk : k < 6) (ex : x = nI j) (ey : y = nI k) : q_mV 1 21 [.ref c, .int x, .int y, .int z] h (fun h' => g_y K Pl V e c (g_pt c j k z h0) h' a) := by
  subst ex
  subst ey
  refine q_mV.of (q_recV rfl Y.okB) (fun Q fin => ?_)
  have hc := Y.c2
  have en : qI h c 5 = nI D := by rw [Y.O (by omega)]; exact hn
  have bd := Y.sh.ba Y.B 7 7200 rfl
  have ix : nI j * 6 + nI k = nI (6 * j + k) := by rw [show nI j * 6 = nI (j * 6) from pk_mul j 6, nI_add, Nat.mul_comm]
  refine b21_0 (fun c1 => absurd c1 (nI_pos (by omega))) (fun _ => b21_4 Y.okB (fun c1 => ?_) (fun _ => b21_12 (v0 := c + 8) Y.okB (Y.rg 7 (by decide)) (s233 (n := 7200) bd.1 bd.2 (by decide)) (by decide) ?_))
  · rw [en] at c1
    have := (nI_leI (a := D) (by omega) (by omega)).mp c1
    omega
  rintro h2 rfl
  rw [ix, c_set_in (by omega) (by decide)]
  exact b21_26 (fin _ (Y.sA (by omega)))
/-- a type, a sort -/
def g_ty (K : Nat → Nat) (V : Nat → Int64) (c nt a : Nat) (h : q_Hp) : q_Hp := q_sI (q_sA (q_sL (if K (a + 2) = 1 then g_fw (a + 3) (p_fi (qL h 590) nt (V (a + 3))) (g_dw (a + 1) (p_fi (qL h 590) nt (V (a + 1))) h) else g_dw (a + 1) (p_fi (qL h 590) nt (V (a + 1))) h) 590 nt (V (a + 1))) (c + 1) nt (if K (a + 2) = 1 then q_on (p_fi (qL h 590) nt (V (a + 3))) else -1)) c 0 (nI (nt + 1))
def g_so (V : Nat → Int64) (c nt ns a : Nat) (h : q_Hp) : q_Hp := q_sI (q_sA (q_sA (q_sL (g_fw (a + 5) (p_fi (qL h 590) nt (V (a + 5))) (g_fw (a + 3) (p_fi (qL h 590) nt (V (a + 3))) (g_dw (a + 1) (p_fi (qL h 591) ns (V (a + 1))) h))) 591 ns (V (a + 1))) (c + 2) ns (q_on (p_fi (qL h 590) nt (V (a + 3))))) (c + 3) ns (q_on (p_fi (qL h 590) nt (V (a + 5))))) c 1 (nI (ns + 1))
theorem s30 {nt : Nat} (Y : g_y K Pl V e c h0 h a) (hn : qI h0 c 0 = nI nt) (h12 : nt < 12) (hs : (y_ty K nt (a, 0)).2 = 0) (he : (y_ty K nt (a, 0)).1 ≤ e) : q_mV 2 30 [.ref 589] h (fun h' => g_y K Pl V e c (g_ty K V c nt a h0) h' (y_ty K nt (a, 0)).1) := by
  refine q_mV.of (q_recV rfl Y.ok) (fun Q fin => ?_)
  have hc := Y.c2
  have c2 := y_nd_z hs
  have t4 : y_to (y_nn K (decide (nt < 12)) (y_ps (a, 0))) (if y_is K 1 (y_nn K (decide (nt < 12)) (y_ps (a, 0))) = true then y_nd K 40 (y_ps (y_nn K (decide (nt < 12)) (y_ps (a, 0)))) else y_nn K (decide (nt < 12)) (y_ps (a, 0))) := y_to.rf.ps.nd.ite y_to.rf
  obtain ⟨h1, h2, h3, h4, h5⟩ := y_hd (t4.2.1 c2)
  have h4 : y_nn K (decide (nt < 12)) (y_ps (a, 0)) = (a + 2, 0) := h4
  have h2 : K (a + 1) = 40 := h2
  have ei : y_is K 1 (a + 2, 0) = decide (K (a + 2) = 1) := by
    by_cases h9 : K (a + 2) = 1
    · rw [decide_eq_true h9]
      exact y_is_c.mpr ⟨rfl, h9⟩
    · rw [decide_eq_false h9]
      exact Bool.eq_false_iff.mpr (fun h8 => h9 (y_is_c.mp h8).2)
  have key : (K (a + 2) = 1 → K (a + 3) = 40 ∧ (y_ty K nt (a, 0)).1 = a + 5) ∧ (¬ K (a + 2) = 1 → (y_ty K nt (a, 0)).1 = a + 3) := by
    unfold y_ty at hs ⊢
    rw [h4, ei] at c2 hs ⊢
    refine ⟨fun h9 => ?_, fun h9 => ?_⟩
    · rw [decide_eq_true h9, if_pos rfl] at c2 hs ⊢
      obtain ⟨d1, d2⟩ := y_nd_0 c2
      obtain ⟨d3, d4⟩ := y_is_c.mp d1
      obtain ⟨_, d5⟩ := y_ps_0 d3
      rw [d5] at d4
      obtain ⟨d6, d7⟩ := y_nd_0 hs
      refine ⟨d4, ?_⟩
      rw [d7, d2, d5]
    · rw [decide_eq_false h9, if_neg (by decide)] at c2 hs ⊢
      obtain ⟨d6, d7⟩ := y_nd_0 hs
      rw [d7]
  generalize (y_ty K nt (a, 0)).1 = a' at *
  have le3 : a + 3 ≤ e := by
    by_cases h9 : K (a + 2) = 1
    · have := (key.1 h9).2; omega
    · have := key.2 h9; omega
  have e12 := Y.e12
  have q1 : qI (q_sI h 589 14 (qI h 589 14 + 1)) 589 14 = nI (a + 1) := by rw [q_sI_e, Y.ea, nI_1]
  have Y1 := Y.n1 (by omega)
  refine b30_0 (v0 := 3) Y.ok (Y.sh.ref rfl) (by rw [q1]; exact s190 Y1.sh Y1.C Y1.le) (by decide) ?_
  rintro z h7 ⟨e0, rfl⟩
  subst h7
  have n1 : qI (q_sI h 589 14 (qI h 589 14 + 1)) c 0 = nI nt := by rw [Y1.O (by omega)]; exact hn
  have l1 : qL (q_sI h 589 14 (qI h 589 14 + 1)) 590 = qL h0 590 := Y1.L (by decide)
  refine b30_21 (v0 := 590) (v1 := c) Y1.ok (Y1.sh.ref rfl) Y1.bk Y1.okB (by rw [n1]; exact s27 (n := 12) (Y1.sh.ok rfl) (Y1.sh.len rfl) (by omega) (by decide)) (by decide) ?_
  rintro z h7 ⟨e0, rfl⟩
  subst h7
  rw [l1]
  have qn := q_on_none (o := p_fi (qL h0 590) nt (V (a + 1))) (n := 12) (fun j h => by have := (p_fi_lt h).1; omega) (by decide)
  have g46 : ∀ h, g_y K Pl V e c (g_dw (a + 1) (p_fi (qL h0 590) nt (V (a + 1))) h0) h (a + 1) → q_wp 2 30 46 [some (.ref 589), some (.long (V (a + 1))), none, none] [] h Q := by
    intro h Y
    have Y2 := Y.n1 (by omega)
    refine b30_46 Y.ok (s25 Y2) (by decide) ?_
    rintro z h7 ⟨e0, rfl⟩
    subst h7
    have k43 := (Y2.C.2.2 (a + 2) (by omega)).2.1
    have g81 : ∀ h1 h2 el b, g_y K Pl V e c h1 h2 b → qI h1 c 0 = nI nt → b + 1 = a' → q_sI (q_sA (q_sL h1 590 nt (V (a + 1))) (c + 1) nt el) c 0 (nI (nt + 1)) = g_ty K V c nt a h0 → q_wp 2 30 81 [some (.ref 589), some (.long (V (a + 1))), none, some (.int el)] [] h2 Q := by
      intro h1 h2 el b Y hn1 hb hh
      have n2 : qI h2 c 0 = nI nt := by rw [Y.O (by omega)]; exact hn1
      have g106 : ∀ h2, g_y K Pl V e c (q_sL h1 590 nt (V (a + 1))) h2 b → q_wp 2 30 106 [some (.ref 589), some (.long (V (a + 1))), none, some (.int el)] [] h2 Q := by
        intro h2 Y
        refine b30_106 (v0 := c) Y.ok Y.bk (s11 (nt := nt) Y hn1 h12) (by decide) (fun h3 Y => b30_114 Y.ok (fin _ ?_))
        rw [← hh, ← hb]
        exact Y.n1 (by omega)
      refine b30_81 (v0 := c) Y.ok Y.bk Y.okB (fun c1 => ?_) (fun _ => b30_93 (v0 := 590) (v1 := c) Y.ok (Y.sh.ref rfl) Y.bk Y.okB (Y.sh.ok rfl) (by rw [n2]; exact Y.sh.inN (n := 12) rfl h12 (by decide)) (g106 _ ?_))
      · rw [n2] at c1
        have := (nI_leI (a := 12) (by decide) (by omega)).mp c1
        omega
      · rw [n2, nI_clamp (by omega)]
        exact Y.sL (by decide)
    refine b30_62 (fun c1 => g81 _ _ _ (a + 2) Y2 (by rw [g_dw_I (by omega)]; exact hn) ?_ ?_) (fun c1 => ?_)
    · have h9 : ¬ K (a + 2) = 1 := fun h8 => c1 (by rw [h8]; rfl)
      exact (key.2 h9).symm
    · have h9 : ¬ K (a + 2) = 1 := fun h8 => c1 (by rw [h8]; rfl)
      unfold g_ty
      rw [if_neg h9, if_neg h9]
    · have h9 : K (a + 2) = 1 := (nI_eq (b := 1) (by omega) (by decide)).mp c1
      obtain ⟨_, ea'⟩ := key.1 h9
      have Y3 := Y2.n1 (by omega)
      refine b30_66 Y2.ok (s28 (nt := nt) Y3 (by omega) (by rw [g_dw_I (by omega)]; exact hn) (by omega)) (by decide) ?_
      rintro z h8 ⟨rfl, Y4⟩
      rw [g_dw_L] at Y4 ⊢
      refine b30_80 (g81 _ _ _ (a + 4) Y4 (by rw [g_fw_I (by omega), g_dw_I (by omega)]; exact hn) (by omega) ?_)
      unfold g_ty
      rw [if_pos h9, if_pos h9]
  refine b30_37 (fun c1 => g46 _ ?_) (fun c1 => b30_41 (s26 Y1) (by decide) (fun h' Y' => g46 _ ?_))
  · unfold g_dw
    rw [if_pos (qn.mp c1)]
    exact Y1
  · unfold g_dw
    rw [if_neg (fun h9 => c1 (qn.mpr h9))]
    exact Y'
theorem s31 {nt ns : Nat} (Y : g_y K Pl V e c h0 h a) (hn : qI h0 c 0 = nI nt) (h12 : nt ≤ 12) (hns : qI h0 c 1 = nI ns) (hs12 : ns < 12) (hs : (y_so K ns (a, 0)).2 = 0) (he : (y_so K ns (a, 0)).1 ≤ e) : q_mV 2 31 [.ref 589] h (fun h' => g_y K Pl V e c (g_so V c nt ns a h0) h' (y_so K ns (a, 0)).1) := by
  refine q_mV.of (q_recV rfl Y.ok) (fun Q fin => ?_)
  have hc := Y.c2
  have a5 : (y_nd K 40 (y_nd K 39 (y_nd K 40 (y_nd K 25 (y_nn K (decide (ns < 12)) (y_ps (a, 0))))))).2 = 0 := y_nd_z hs
  have a4 := y_nd_z a5
  have a3 := y_nd_z a4
  have a2 := y_nd_z a3
  have a1 := y_nd_z a2
  obtain ⟨h1, h2, h3, h4, h5⟩ := y_hd a1
  have h4 : y_nn K (decide (ns < 12)) (y_ps (a, 0)) = (a + 2, 0) := h4
  obtain ⟨b2, p2⟩ := y_nd_p h4 a2
  obtain ⟨b3, p3⟩ := y_nd_p p2 a3
  obtain ⟨b4, p4⟩ := y_nd_p p3 a4
  obtain ⟨b5, p5⟩ := y_nd_p p4 a5
  obtain ⟨b6, p6⟩ := y_nd_p p5 hs
  have ea : (y_so K ns (a, 0)).1 = a + 7 := congrArg Prod.fst p6
  rw [ea] at he fin
  have e12 := Y.e12
  have q1 : qI (q_sI h 589 14 (qI h 589 14 + 1)) 589 14 = nI (a + 1) := by rw [q_sI_e, Y.ea, nI_1]
  have Y1 := Y.n1 (by omega)
  refine b31_0 (v0 := 3) Y.ok (Y.sh.ref rfl) (by rw [q1]; exact s190 Y1.sh Y1.C Y1.le) (by decide) ?_
  rintro z h7 ⟨e0, rfl⟩
  subst h7
  have n1 : qI (q_sI h 589 14 (qI h 589 14 + 1)) c 1 = nI ns := by rw [Y1.O (by omega)]; exact hns
  have l1 : qL (q_sI h 589 14 (qI h 589 14 + 1)) 591 = qL h0 591 := Y1.L (by decide)
  refine b31_21 (v0 := 591) (v1 := c) Y1.ok (Y1.sh.ref rfl) Y1.bk Y1.okB (by rw [n1]; exact s27 (n := 12) (Y1.sh.ok rfl) (Y1.sh.len rfl) (by omega) (by decide)) (by decide) ?_
  rintro z h7 ⟨e0, rfl⟩
  subst h7
  rw [l1]
  have qn := q_on_none (o := p_fi (qL h0 591) ns (V (a + 1))) (n := 12) (fun j h => by have := (p_fi_lt h).1; omega) (by decide)
  have g46 : ∀ h, g_y K Pl V e c (g_dw (a + 1) (p_fi (qL h0 591) ns (V (a + 1))) h0) h (a + 1) → q_wp 2 31 46 [some (.ref 589), some (.long (V (a + 1))), none, none, none] [] h Q := by
    intro h Y
    have Y2 := Y.n2 (by omega)
    refine b31_46 Y.ok (s28 (nt := nt) Y2 (by omega) (by rw [g_dw_I (by omega)]; exact hn) h12) (by decide) ?_
    rintro z h8 ⟨rfl, Y4⟩
    rw [g_dw_L] at Y4 ⊢
    have Y5 := Y4.n1 (by omega)
    refine b31_60 Y4.ok (s28 (nt := nt) Y5 (by omega) (by rw [g_fw_I (by omega), g_dw_I (by omega)]; exact hn) h12) (by decide) ?_
    rintro z h9 ⟨rfl, Y6⟩
    rw [g_fw_L, g_dw_L] at Y6 ⊢
    have n2 : qI h9 c 1 = nI ns := by rw [Y6.O (by omega), g_fw_I (by omega), g_fw_I (by omega), g_dw_I (by omega)]; exact hns
    have Y7 := Y6.sL (x := 591) (i := ns) (v := V (a + 1)) (by decide)
    refine b31_75 (v0 := c) Y6.ok Y6.bk Y6.okB (fun c1 => ?_) (fun _ => b31_89 (v0 := 591) (v1 := c) Y6.ok (Y6.sh.ref rfl) Y6.bk Y6.okB (Y6.sh.ok rfl) (by rw [n2]; exact Y6.sh.inN (n := 12) rfl hs12 (by decide)) ?_)
    · rw [n2] at c1
      have := (nI_leI (a := 12) (by decide) (by omega)).mp c1
      omega
    rw [n2, nI_clamp (by omega)]
    refine b31_102 (v0 := c) Y7.ok Y7.bk (s12 (ns := ns) Y7 (by rw [qI_sL, g_fw_I (by omega), g_fw_I (by omega), g_dw_I (by omega)]; exact hns) hs12) (by decide) (fun h3 Y8 => b31_112 Y8.ok (fin _ (Y8.n1 (by omega))))
  refine b31_37 (fun c1 => g46 _ ?_) (fun c1 => b31_41 (s26 Y1) (by decide) (fun h' Y' => g46 _ ?_))
  · unfold g_dw
    rw [if_pos (qn.mp c1)]
    exact Y1
  · unfold g_dw
    rw [if_neg (fun h9 => c1 (qn.mpr h9))]
    exact Y'
end GB
