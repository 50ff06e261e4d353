/-! THE PARSE OF THE REFERENCE: nodes and links of a rule -/
/-- a node's name that is told, and where -/
def p_el (k : q_Hp) (L : Nat) (x : Int64) : Option Nat := match p_fi (qL k 678) L x with
  | some j => if qA k 679 j = 0 then some j else none
  | none => none
def p_eo (k : q_Hp) (o : Option Nat) : Int32 := match o with
  | some j => qA k 680 j
  | none => -1
theorem p_el_c {k k' : q_Hp} {L : Nat} {x : Int64} (h1 : qL k' 678 = qL k 678) (h2 : qA k' 679 = qA k 679) : p_el k' L x = p_el k L x := by
  unfold p_el
  rw [h1, h2]
theorem p_eo_c {k k' : q_Hp} {o : Option Nat} (h1 : qA k' 680 = qA k 680) : p_eo k' o = p_eo k o := by
  unfold p_eo
  rw [h1]
theorem p_ix4 {r n m : Nat} : nI m * nI (20 + r) + nI n = nI (m * (20 + r) + n) := by rw [pk_mul, nI_add]
theorem qL_sLn {h : q_Hp} {a b i : Nat} {v : Int64} (hb : ¬ b = a) : qL (q_sL h a i v) b = qL h b := by
  funext j
  rw [qL_sL, if_neg (fun h9 => hb h9.1)]
section PN
variable {K P X : Nat → Nat} {U : Nat → Int64} {e : Nat} {k0 k : q_Hp} {s : y_S}
theorem s267 {L i : Nat} {v : Int32} (Y : p_y K P X U e k0 k s) (hs : s.2 = 0) (hi : i ≤ e) (hK : K i = 40) (hL : qI k0 630 68 = nI L) (h40 : L ≤ 40) (hv : v = nI i) : q_mI 2 267 [.ref 630, .int v] k (fun z k' => z = p_eo k0 (p_el k0 L (U i)) ∧ p_y K P X U e (p_fw P i (p_el k0 L (U i)) k0) k' s) := by
  subst hv
  refine q_mI.of (q_recV rfl (Y.sh.ok rfl)) (fun Q fin => ?_)
  refine b267_0 (s257 Y hi hK hL h40 rfl) (by decide) ?_
  rintro z h2 ⟨e0, rfl⟩
  subst h2
  have bad : p_el k0 L (U i) = none → ∀ x2, q_wp 2 267 20 [some (.ref 630), some (.int (nI i)), some (.int x2)] [] k Q := by
    intro h x2
    refine b267_20 (s251 (n := 4) Y hi hs rfl rfl) (by decide) (fun k' Y' => b267_26 (fin _ _ ⟨?_, ?_⟩))
    · rw [h]; rfl
    · unfold p_fw
      rw [if_pos h]
      exact Y'
  have a79 : qA k 679 = qA k0 679 := Y.A (by decide)
  have a80 : qA k 680 = qA k0 680 := Y.A (by decide)
  cases hf : p_fi (qL k0 678) L (U i) with
  | none =>
    have hn : p_el k0 L (U i) = none := by unfold p_el; rw [hf]
    exact b267_5 (fun _ => bad hn _) (fun c => absurd rfl c)
  | some j =>
    have hj := (p_fi_lt hf).1
    have n1 := q_on_ne (j := j) (by omega)
    have ej : (q_on (some j) : Int32).toNatClampNeg = j := nI_clamp (n := j) (by omega)
    refine b267_5 (fun c => absurd c n1) (fun _ => b267_11 (v0 := 679) (Y.sh.ok rfl) (Y.sh.ref rfl) (Y.sh.ok rfl) (Y.sh.inN (n := 40) (j := j) rfl (by omega) (by decide)) (fun c => ?_) (fun c => ?_))
    · rw [ej, a79] at c
      have hn : p_el k0 L (U i) = some j := by
        unfold p_el
        rw [hf]
        exact if_pos c
      refine b267_28 (v0 := 680) (Y.sh.ok rfl) (Y.sh.ref rfl) (Y.sh.ok rfl) (Y.sh.inN (n := 40) (j := j) rfl (by omega) (by decide)) (fin _ _ ⟨?_, ?_⟩)
      · rw [ej, a80, hn]; rfl
      · rw [hn]; exact Y
    · rw [ej, a79] at c
      have hn : p_el k0 L (U i) = none := by
        unfold p_el
        rw [hf]
        exact if_neg c
      exact bad hn _
/-- a node is told -/
def p_no (P : Nat → Nat) (U : Nat → Int64) (nt r n L : Nat) (s : y_S) (k : q_Hp) : q_Hp := q_sA (q_sA (p_tl P U (s.1 + 1) L 0 (nI n) (q_on (p_fi (qL k 674) nt (U (s.1 + 3)))) (p_fw P (s.1 + 3) (p_fi (qL k 674) nt (U (s.1 + 3))) k)) 644 (4 * (20 + r) + n) (q_on (p_fi (qL k 674) nt (U (s.1 + 3))))) 641 (20 + r) (nI (n + 1))
theorem p_no_fr {nt r n L : Nat} : p_fr k0 (p_no P U nt r n L s k0) := (p_fr.rf.fw.tl.sA rfl (show 80 ≤ 4 * (20 + r) + n by omega)).sA rfl (Nat.le_add_right 20 r)
theorem p_tl_A {i n a : Nat} {kd b ty : Int32} (h : ¬ a = 679 ∧ ¬ a = 680 ∧ ¬ a = 681 ∧ ¬ a = 682) : qA (p_tl P U i n kd b ty k0) a = qA k0 a := by
  unfold p_tl
  rw [qA_sI, qA_sAn h.2.2.2, qA_sAn h.2.2.1, qA_sAn h.2.1, qA_sAn h.1, qA_sL, p_dw_A]
theorem p_tl_I {i n j : Nat} {kd b ty : Int32} (h : ¬ j = 15 ∧ ¬ j = 16 ∧ ¬ j = 68) : qI (p_tl P U i n kd b ty k0) 630 j = qI k0 630 j := by
  unfold p_tl
  show (if 630 = 630 ∧ j = 68 then _ else qI (p_dw P i (p_fi (qL k0 678) n (U i)) k0) 630 j) = _
  rw [if_neg (fun h9 => h.2.2 h9.2)]
  exact p_dw.I ⟨h.1, h.2.1⟩
theorem p_tl_L {i n a : Nat} {kd b ty : Int32} (h : ¬ a = 678) : qL (p_tl P U i n kd b ty k0) a = qL k0 a := by
  unfold p_tl
  show qL (q_sL (p_dw P i (p_fi (qL k0 678) n (U i)) k0) 678 n (U i)) a = _
  rw [qL_sLn h, p_dw_L]
theorem s266 {nt r n L : Nat} {v : Int32} (Y : p_y K P X U e k0 k s) (hk : s.2 = 0 → K s.1 < 42) (hr : r < 20) (hn : qA k0 641 (20 + r) = nI n) (h4 : n ≤ 4) (ht : qI k0 630 18 = nI nt) (ht12 : nt ≤ 12) (hL : qI k0 630 68 = nI L) (h40 : L < 40) (hv : v = nI (20 + r)) : q_mV 3 266 [.ref 630, .int v] k (fun k' => p_out K P X U e k0 k' (y_no K (decide (n < 4)) s) (p_no P U nt r n L s k0)) := by
  subst hv
  have hr2 : nI (20 + r) = nI (20 + r) := rfl
  refine q_mV.of (q_recV rfl (Y.sh.ok rfl)) (fun Q fin => ?_)
  refine b266_0 (s252 Y hk) (by decide) ?_
  intro k Y
  have hx := Y.t0
  refine b266_4 (Y.sh.ok rfl) (s249 (c := 40) Y (by decide) rfl) (by decide) ?_
  rintro z h2 ⟨e0, rfl⟩
  subst h2
  generalize qI k 630 11 = x2 at hx ⊢
  have e18 : qA k 641 ((nI (20 + r) : Int32).toNatClampNeg) = nI n := by rw [nI_clamp (by omega), Y.A (by decide)]; exact hn
  have g36 : ∀ k, p_y K P X U e k0 k (y_nn K (decide (n < 4)) (y_ps s)) → q_wp 3 266 37 [some (.ref 630), some (.int (nI (20 + r))), some (.int x2), none, none] [] k Q := by
    intro k Y
    refine b266_37 (s253 (c := 25) Y (by decide) rfl) (by decide) ?_
    intro k Y
    have hx3 := Y.t0
    refine b266_42 (Y.sh.ok rfl) (s253 (c := 40) Y (by decide) rfl) (by decide) ?_
    generalize qI k 630 11 = x3 at hx3 ⊢
    intro k Y
    refine b266_52 (s253 (c := 26) Y (by decide) rfl) (by decide) ?_
    intro k Y
    
    refine b266_57 (Y.sh.ok rfl) (fun c => ?_) (fun c => b266_64 (fin _ ⟨k0, Y, p_fr.rf, fun h9 => absurd (Y.z1.mpr h9) c⟩))
    have c0 := Y.z1.mp c
    have a3 := y_nd_z c0
    have a2 := y_nd_z a3
    have a1 := y_nd_z a2
    obtain ⟨h1, h2, h3, g4, h5⟩ := y_hd a1
    obtain ⟨b2, p2⟩ := y_nd_p g4 a2
    obtain ⟨b3, p3⟩ := y_nd_p p2 a3
    obtain ⟨b4, p4⟩ := y_nd_p p3 c0
    have x1e : x2 = nI (s.1 + 1) := (hx (by rw [h1])).trans (by rw [h1])
    have x3e : x3 = nI (s.1 + 3) := (hx3 a2).trans (by rw [p2])
    have le := Y.le
    rw [p4] at le
    have le : s.1 + 5 ≤ e := le
    have e12 := Y.e12
    have lt := of_decide_eq_true h3
    subst x1e
    subst x3e
    refine b266_65 (s255 (n := nt) (i := s.1 + 3) Y c0 (by omega) b3 ht ht12 rfl) (by decide) ?_
    rintro z k2 ⟨rfl, Y⟩
    have e41 : qA k2 641 ((nI (20 + r) : Int32).toNatClampNeg) = nI n := by rw [nI_clamp (by omega), Y.A (by decide), p_fw_A]; exact hn
    refine b266_70 (v0 := 641) (Y.sh.ok rfl) (Y.sh.ref rfl) (Y.sh.ok rfl) (Y.sh.inN (n := 40) rfl (by omega) (by decide)) (by rw [e41]; exact s258 (n := L) (i := s.1 + 1) Y c0 (by omega) h2 ((p_fw_I (by decide)).trans hL) h40 rfl) (by decide) ?_
    intro k3 Y
    have e41 : qA k3 641 ((nI (20 + r) : Int32).toNatClampNeg) = nI n := by rw [nI_clamp (by omega), Y.A (by decide), p_tl_A (by decide), p_fw_A]; exact hn
    have i1 : (4 : Int32) * nI (20 + r) + nI n = nI (4 * (20 + r) + n) := p_ix4 (m := 4)
    refine b266_86 (v0 := 644) (v1 := 641) (Y.sh.ok rfl) (Y.sh.ref rfl) (Y.sh.ref rfl) (Y.sh.ok rfl) (Y.sh.inN (n := 40) rfl (by omega) (by decide)) (Y.sh.ok rfl) (by rw [e41, i1]; exact Y.sh.inN (n := 160) rfl (by omega) (by decide)) (fin _ ⟨p_no P U nt r n L s k0, ?_, p_no_fr, fun _ => rfl⟩)
    rw [e41, i1, nI_clamp (show 4 * (20 + r) + n < 2 ^ 31 by omega), qA_sAn (by decide), e41, nI_clamp (show 20 + r < 2 ^ 31 by omega), nI_1]
    exact (Y.sA rfl).sA rfl
  have g31 : ∀ k, p_y K P X U e k0 k (if y_is K 40 (y_ps s) = true then y_rm (decide (n < 4)) (y_ps s) else y_ps s) → q_wp 3 266 32 [some (.ref 630), some (.int (nI (20 + r))), some (.int x2), none, none] [] k Q := by
    intro k Y
    exact b266_32 (s253 (c := 40) Y (by decide) rfl) (by decide) (fun k Y => g36 k Y)
  refine b266_14 (fun c => g31 _ ?_) (fun c => b266_17 (v0 := 641) (Y.sh.ok rfl) (Y.sh.ref rfl) (Y.sh.ok rfl) (by rw [hr2]; exact Y.sh.inN (n := 40) rfl (by omega) (by decide)) (fun c1 => g31 _ ?_) (fun c1 => b266_27 (s250 (f := 2) Y (by decide) (by decide) rfl) (by decide) (fun k Y => g31 _ ?_)))
  · rw [b2i_eq.mp c, if_neg (by decide)]
    exact Y
  · rw [e18] at c1
    rw [if_pos (b2i_ne.mp c), decide_eq_true (show n < 4 by have : ¬ n = 4 := fun h9 => c1 (by rw [h9]; rfl); omega)]
    exact Y
  · rw [e18] at c1
    rw [if_pos (b2i_ne.mp c), decide_eq_false (show ¬ n < 4 by have := (nI_eq (b := 4) (by omega) (by decide)).mp c1; omega)]
    exact Y
end PN
