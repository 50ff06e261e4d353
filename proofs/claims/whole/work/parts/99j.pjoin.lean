/-! THE PARSE OF THE REFERENCE: joins -/
/-- an end of another type than the sort's -/
def p_wf (nt row : Nat) (oa os : Option Nat) (k : q_Hp) : Bool := match os, oa with
  | some s, some a => p_ot (qA k 638) nt (qA k 681 a) (qA k row (12 + s))
  | _, _ => false
def p_jo1 (P : Nat → Nat) (nt q i1 i2 i3 : Nat) (oa os ob : Option Nat) (k : q_Hp) : q_Hp := if (p_wf nt 639 oa os k || p_wf nt 640 ob os k) = true then p_wr P 5 i2 (q_sA (p_fw P i3 ob (p_fw P i2 os (p_fw P i1 oa k))) 660 q 3) else q_sA (p_fw P i3 ob (p_fw P i2 os (p_fw P i1 oa k))) 660 q 3
def p_jo2 (q jn : Nat) (ta z tb : Int32) (k : q_Hp) : q_Hp := q_sI (q_sA (q_sA (q_sA (q_sA (q_sA k 661 q ta) 662 q z) 663 q tb) 684 jn ta) 684 (jn + 1) tb) 630 75 (nI (jn + 2))
def p_jo3 (P : Nat → Nat) (nt q jn i1 i2 i3 : Nat) (oa os ob : Option Nat) (k : q_Hp) : q_Hp := match oa, ob with
  | some a, some b => p_jo2 q jn (p_tg (qA k 679 a) (qA k 680 a)) (q_on os) (p_tg (qA k 679 b) (qA k 680 b)) (p_jo1 P nt q i1 i2 i3 oa os ob k)
  | _, _ => p_jo1 P nt q i1 i2 i3 oa os ob k
def p_jo (P : Nat → Nat) (U : Nat → Int64) (nt ns q jn L i1 i2 i3 : Nat) (k : q_Hp) : q_Hp := p_jo3 P nt q jn i1 i2 i3 (p_sd L (U i1) k) (p_fi (qL k 675) ns (U i2)) (p_sd L (U i3) k) k
theorem p_sd_c {k k' : q_Hp} {L : Nat} {x : Int64} (h1 : qL k' 678 = qL k 678) (h2 : qA k' 679 = qA k 679) (h3 : qA k' 682 = qA k 682) : p_sd L x k' = p_sd L x k := by
  unfold p_sd
  rw [h1, h2, h3]
section PD
variable {K P X : Nat → Nat} {U : Nat → Int64} {e : Nat} {k0 k : q_Hp} {s : y_S}
theorem p_jo1_A {nt q i1 i2 i3 x : Nat} {oa os ob : Option Nat} (h : ¬ x = 660) : qA (p_jo1 P nt q i1 i2 i3 oa os ob k0) x = qA k0 x := by
  unfold p_jo1
  split
  · rw [p_wr_A, qA_sAn h, p_fw_A, p_fw_A, p_fw_A]
  · rw [qA_sAn h, p_fw_A, p_fw_A, p_fw_A]
theorem p_jo1_I {nt q i1 i2 i3 j : Nat} {oa os ob : Option Nat} (h : ¬ j = 15 ∧ ¬ j = 16) : qI (p_jo1 P nt q i1 i2 i3 oa os ob k0) 630 j = qI k0 630 j := by
  unfold p_jo1
  split
  · rw [p_wr_I h, qI_sA, p_fw_I h, p_fw_I h, p_fw_I h]
  · rw [qI_sA, p_fw_I h, p_fw_I h, p_fw_I h]
theorem p_jo1_L {nt q i1 i2 i3 : Nat} {oa os ob : Option Nat} : qL (p_jo1 P nt q i1 i2 i3 oa os ob k0) = qL k0 := by
  unfold p_jo1
  split
  · rw [p_wr_L, qL_sA, p_fw_L, p_fw_L, p_fw_L]
  · rw [qL_sA, p_fw_L, p_fw_L, p_fw_L]
theorem s275 {nt ns q jn L i1 i2 i3 : Nat} {x1 x2 x3 x4 : Int32} (Y : p_y K P X U e k0 k s) (hs : s.2 = 0) (hi1 : i1 ≤ e) (hK1 : K i1 = 40) (hi2 : i2 ≤ e) (hK2 : K i2 = 40) (hi3 : i3 ≤ e) (hK3 : K i3 = 40) (hL : qI k0 630 68 = nI L) (h40 : L ≤ 40) (hq : q < 320) (hns : qI k0 630 19 = nI ns) (hs12 : ns ≤ 12) (ht12 : nt ≤ 12) (hE : t_ok (fun i => qA k0 638 (12 + i)) nt) (hT : ∀ j, j < L → qA k0 681 j = -1 ∨ q_rg (qA k0 681 j) nt = true) (hJ : qI k0 630 75 = nI jn) (h16 : jn + 1 < 16) (e1 : x1 = nI q) (e2 : x2 = nI i1) (e3 : x3 = nI i2) (e4 : x4 = nI i3) : q_mV 3 275 [.ref 630, .int x1, .int x2, .int x3, .int x4] k (fun k' => p_y K P X U e (p_jo P U nt ns q jn L i1 i2 i3 k0) k' s) := by
  subst e1
  subst e2
  subst e3
  subst e4
  refine q_mV.of (q_recV rfl (Y.sh.ok rfl)) (fun Q fin => ?_)
  have cq : (nI q : Int32).toNatClampNeg = q := nI_clamp (by omega)
  refine b275_0 (s271 Y hs hi1 hK1 hL h40 rfl) (by decide) ?_
  rintro z k1 ⟨rfl, Y⟩
  refine b275_5 (s256 (n := ns) Y hs hi2 hK2 ((p_fw_I (by decide)).trans hns) hs12 rfl) (by decide) ?_
  rintro z k2 ⟨rfl, Y⟩
  rw [congrFun p_fw_L 675] at Y ⊢
  have ed : ∀ {o1 o2} {x}, p_sd L x (p_fw P i2 o2 (p_fw P i1 o1 k0)) = p_sd L x k0 := fun {o1 o2 x} => p_sd_c (by rw [p_fw_L, p_fw_L]) (by rw [p_fw_A, p_fw_A]) (by rw [p_fw_A, p_fw_A])
  refine b275_12 (s271 Y hs hi3 hK3 ((p_fw_I (by decide)).trans ((p_fw_I (by decide)).trans hL)) h40 rfl) (by decide) ?_
  rintro z k3 ⟨rfl, Y⟩
  rw [ed] at Y ⊢
  unfold p_jo at fin
  have ja : ∀ a, p_sd L (U i1) k0 = some a → a < L := fun a h => (p_sd_lt h).1
  have jb : ∀ a, p_sd L (U i3) k0 = some a → a < L := fun a h => (p_sd_lt h).1
  have js : ∀ a, p_fi (qL k0 675) ns (U i2) = some a → a < ns := fun a h => (p_fi_lt h).1
  generalize p_sd L (U i1) k0 = oa at *
  generalize p_sd L (U i3) k0 = ob at *
  generalize p_fi (qL k0 675) ns (U i2) = os at *
  have na := q_on_none (o := oa) (n := 40) (fun j h => by have := ja j h; omega) (by decide)
  have nb := q_on_none (o := ob) (n := 40) (fun j h => by have := jb j h; omega) (by decide)
  have nS := q_on_none (o := os) (n := 40) (fun j h => by have := js j h; omega) (by decide)
  have Y4 : p_y K P X U e (q_sA (p_fw P i3 ob (p_fw P i2 os (p_fw P i1 oa k0))) 660 q 3) (q_sA k3 660 q 3) s := Y.sA rfl
  have A4 : ∀ x, ¬ x = 630 → ¬ x = 660 → qA (q_sA k3 660 q 3) x = qA k0 x := by
    intro x h1 h2
    rw [Y4.A h1, qA_sAn h2, p_fw_A, p_fw_A, p_fw_A]
  have hE4 : t_ok (fun i => qA (q_sA (p_fw P i3 ob (p_fw P i2 os (p_fw P i1 oa k0))) 660 q 3) 638 (12 + i)) nt := by
    rw [qA_sAn (by decide), p_fw_A, p_fw_A, p_fw_A]
    exact hE
  have e38 : qA (q_sA (p_fw P i3 ob (p_fw P i2 os (p_fw P i1 oa k0))) 660 q 3) 638 = qA k0 638 := by rw [qA_sAn (by decide), p_fw_A, p_fw_A, p_fw_A]
  -- what is done at the end
  have g131 : ∀ k x8 x9, p_y K P X U e (p_jo1 P nt q i1 i2 i3 oa os ob k0) k s → q_wp 3 275 131 [some (.ref 630), some (.int (nI q)), some (.int (nI i1)), some (.int (nI i2)), some (.int (nI i3)), some (.int (q_on oa)), some (.int (q_on os)), some (.int (q_on ob)), some (.int x8), some (.int x9)] [] k Q := by
    intro k x8 x9 Y
    refine b275_131 (fun c => b275_143 (fin _ ?_)) (fun c => b275_137 (fun c2 => ?_) (fun c2 => b275_143 (fin _ ?_)))
    · rw [na.mp c] at Y ⊢
      exact Y
    rotate_left 1
    · have h := nb.mp c2
      cases oa with
      | none => exact Y
      | some a =>
        rw [h] at Y ⊢
        exact Y
    cases oa with
    | none => exact absurd rfl c
    | some a =>
    cases ob with
    | none => exact absurd rfl c2
    | some b =>
    have fin : ∀ h', p_y K P X U e (p_jo2 q jn (p_tg (qA k0 679 a) (qA k0 680 a)) (q_on os) (p_tg (qA k0 679 b) (qA k0 680 b)) (p_jo1 P nt q i1 i2 i3 (some a) os (some b) k0)) h' s → Q none h' := fin
    have la := ja a rfl
    have lb := jb b rfl
    have e79 : qA k 679 = qA k0 679 := by rw [Y.A (by decide), p_jo1_A (by decide)]
    have e80 : qA k 680 = qA k0 680 := by rw [Y.A (by decide), p_jo1_A (by decide)]
    have e75 : qI k 630 75 = nI jn := (Y.I rfl).trans ((p_jo1_I (by decide)).trans hJ)
    have ca : (nI a : Int32).toNatClampNeg = a := nI_clamp (by omega)
    have cb : (nI b : Int32).toNatClampNeg = b := nI_clamp (by omega)
    have iA : ∀ {k x}, q_Sh k → (decide (x ≤ 712) && (q_kd0 x).2 == 40) = true → q_in (nI a) (qK k x).2 := fun S h => S.inN (n := 40) h (by omega) (by decide)
    have iB : ∀ {k x}, q_Sh k → (decide (x ≤ 712) && (q_kd0 x).2 == 40) = true → q_in (nI b) (qK k x).2 := fun S h => S.inN (n := 40) h (by omega) (by decide)
    have iq : ∀ {k x}, q_Sh k → (decide (x ≤ 712) && (q_kd0 x).2 == 320) = true → q_in (nI q) (qK k x).2 := fun S h => S.inN (n := 320) h hq (by decide)
    show q_wp 3 275 144 [some (.ref 630), some (.int (nI q)), some (.int (nI i1)), some (.int (nI i2)), some (.int (nI i3)), some (.int (nI a)), some (.int (q_on os)), some (.int (nI b)), some (.int x8), some (.int x9)] [] k Q
    refine b275_144 (v0 := 661) (v1 := 679) (v2 := 680) (Y.sh.ok rfl) (Y.sh.ref rfl) (Y.sh.ref rfl) (Y.sh.ok rfl) (iA Y.sh rfl) (Y.sh.ref rfl) (Y.sh.ok rfl) (iA Y.sh rfl) s272 (by decide) ?_
    rintro z h2 ⟨e0, rfl⟩
    subst h2
    rw [ca, e79, e80]
    have Y5 := (Y.sA (a := 661) (i := q) (v := p_tg (qA k0 679 a) (qA k0 680 a)) rfl).sA (a := 662) (i := q) (v := q_on os) rfl
    refine b275_166 (v0 := 662) (v1 := 663) (v2 := 679) (v3 := 680) (Y.sh.ok rfl) (iq Y.sh rfl) (Y.sh.ok rfl) (Y.sh.ref rfl) (Y.sh.ok rfl) (iq Y.sh rfl) (Y.sh.ref rfl) (Y.sh.ref rfl) (Y.sh.ok rfl) (iB Y.sh rfl) (Y.sh.ref rfl) (Y.sh.ok rfl) (iB Y.sh rfl) s272 (by decide) ?_
    rintro z h2 ⟨e0, rfl⟩
    subst h2
    rw [cq, cb, qA_sAn (by decide), qA_sAn (by decide), qA_sAn (by decide), qA_sAn (by decide), e79, e80]
    have e75' : qI (q_sA (q_sA k 661 q (p_tg (qA k0 679 a) (qA k0 680 a))) 662 q (q_on os)) 630 75 = nI jn := e75
    have j1 : (nI jn : Int32) + 1 = nI (jn + 1) := nI_1 jn
    refine b275_197 (v0 := 684) (v1 := 661) (v2 := 663) (Y5.sh.ok rfl) (iq Y5.sh rfl) (Y5.sh.ok rfl) (Y5.sh.ref rfl) (Y5.sh.ref rfl) (Y5.sh.ok rfl) (iq Y5.sh rfl) (Y5.sh.ok rfl) (by rw [e75']; exact Y5.sh.inN (n := 16) rfl (by omega) (by decide)) (Y5.sh.ref rfl) (Y5.sh.ok rfl) (iq Y5.sh rfl) (by rw [e75', j1]; exact Y5.sh.inN (n := 16) rfl (by omega) (by decide)) (fin _ ?_)
    rw [e75', j1, nI_clamp (show jn < 2 ^ 31 by omega), nI_clamp (show jn + 1 < 2 ^ 31 by omega), cq, show (nI jn : Int32) + 2 = nI (jn + 2) from nI_add jn 2]
    have r1 : qA (q_sA (q_sA (q_sA k 661 q (p_tg (qA k0 679 a) (qA k0 680 a))) 662 q (q_on os)) 663 q (p_tg (qA k0 679 b) (qA k0 680 b))) 661 q = p_tg (qA k0 679 a) (qA k0 680 a) := by rw [qA_sAn (by decide), qA_sAn (by decide), qA_sA, if_pos ⟨rfl, rfl⟩]
    rw [r1]
    have r2 : qA (q_sA (q_sA (q_sA (q_sA k 661 q (p_tg (qA k0 679 a) (qA k0 680 a))) 662 q (q_on os)) 663 q (p_tg (qA k0 679 b) (qA k0 680 b))) 684 jn (p_tg (qA k0 679 a) (qA k0 680 a))) 663 q = p_tg (qA k0 679 b) (qA k0 680 b) := by rw [qA_sAn (by decide), qA_sA, if_pos ⟨rfl, rfl⟩]
    rw [r2]
    exact (((Y5.sA rfl).sA rfl).sA rfl).sI rfl
  have g125 : ∀ x8 x9, (p_wf nt 639 oa os k0 || p_wf nt 640 ob os k0) = true → q_wp 3 275 125 [some (.ref 630), some (.int (nI q)), some (.int (nI i1)), some (.int (nI i2)), some (.int (nI i3)), some (.int (q_on oa)), some (.int (q_on os)), some (.int (q_on ob)), some (.int x8), some (.int x9)] [] (q_sA k3 660 q 3) Q := by
    intro x8 x9 h
    refine b275_125 (s251 (n := 5) Y4 hi2 hs rfl rfl) (by decide) (fun k' Y' => g131 k' x8 x9 ?_)
    unfold p_jo1
    rw [if_pos h]
    exact Y'
  have g113 : ∀ x8 x9, x8 = b2i (p_wf nt 639 oa os k0) → x9 = b2i (p_wf nt 640 ob os k0) → q_wp 3 275 113 [some (.ref 630), some (.int (nI q)), some (.int (nI i1)), some (.int (nI i2)), some (.int (nI i3)), some (.int (q_on oa)), some (.int (q_on os)), some (.int (q_on ob)), some (.int x8), none] [.int x9] (q_sA k3 660 q 3) Q := by
    rintro x8 x9 rfl rfl
    refine b275_113 (fun c => g125 _ _ ?_) (fun c => b275_120 (fun c2 => g131 _ _ _ ?_) (fun c2 => g125 _ _ ?_))
    · rw [b2i_ne.mp c, Bool.true_or]
    · unfold p_jo1
      rw [b2i_eq.mp c, b2i_eq.mp c2, if_neg (by decide)]
      exact Y4
    · rw [b2i_ne.mp c2, Bool.or_true]
  have ot : ∀ (o : Option Nat) (row : Nat) (a sN : Nat), a < L → sN < ns → (row = 639 ∨ row = 640) → q_mI 1 276 [.ref 630, .int (qA (q_sA k3 660 q 3) 681 ((nI a : Int32).toNatClampNeg)), .int (qA (q_sA k3 660 q 3) row (((12 : Int32) + nI sN : Int32).toNatClampNeg))] (q_sA k3 660 q 3) (fun z k' => k' = q_sA k3 660 q 3 ∧ z = b2i (p_wf nt row (some a) (some sN) k0)) := by
    intro o row a sN ha hsN hrow
    rw [show (12 : Int32) + nI sN = nI (12 + sN) from nI_add 12 sN, nI_clamp (by omega), nI_clamp (by omega), A4 681 (by decide) (by decide), A4 row (by omega) (by omega)]
    have := s276 (nt := nt) (w := qA k0 row (12 + sN)) (t := qA k0 681 a) Y4 hE4 ht12 (hT a ha)
    rw [e38] at this
    exact this
  have i40 : ∀ {x a}, a < L → (decide (x ≤ 712) && (q_kd0 x).2 == 40) = true → q_in (nI a) (qK (q_sA k3 660 q 3) x).2 := fun h9 h => Y4.sh.inN (n := 40) h (by omega) (by decide)
  have i24 : ∀ {x a}, a < ns → (decide (x ≤ 712) && (q_kd0 x).2 == 24) = true → q_in ((12 : Int32) + nI a) (qK (q_sA k3 660 q 3) x).2 := fun {x a} h9 h => by rw [show (12 : Int32) + nI a = nI (12 + a) from nI_add 12 a]; exact Y4.sh.inN (n := 24) h (by omega) (by decide)
  have g70 : ∀ x8, x8 = b2i (p_wf nt 639 oa os k0) → q_wp 3 275 70 [some (.ref 630), some (.int (nI q)), some (.int (nI i1)), some (.int (nI i2)), some (.int (nI i3)), some (.int (q_on oa)), some (.int (q_on os)), some (.int (q_on ob)), none, none] [.int x8] (q_sA k3 660 q 3) Q := by
    intro x8 h8
    cases os with
    | none => exact b275_70 (fun _ => b275_112 (g113 _ _ h8 (by cases ob <;> rfl))) (fun c => absurd rfl c)
    | some sN =>
    cases ob with
    | none => exact b275_70 (fun c => absurd (nS.mp c) (fun h => by cases h)) (fun _ => b275_78 (fun _ => b275_112 (g113 _ _ h8 rfl)) (fun c => absurd rfl c))
    | some b =>
    refine b275_70 (fun c => absurd (nS.mp c) (fun h => by cases h)) (fun _ => b275_78 (fun c => absurd (nb.mp c) (fun h => by cases h)) (fun _ => b275_84 (v0 := 681) (v1 := 640) (Y4.sh.ok rfl) (Y4.sh.ref rfl) (Y4.sh.ok rfl) (i40 (jb b rfl) rfl) (Y4.sh.ref rfl) (Y4.sh.ok rfl) (i24 (js sN rfl) rfl) (ot none 640 b sN (jb b rfl) (js sN rfl) (Or.inr rfl)) (by decide) ?_))
    rintro z h2 ⟨e0, rfl⟩
    subst h2
    refine b275_105 (fun c => b275_112 (g113 _ _ h8 ?_)) (fun c => b275_108 (g113 _ _ h8 ?_))
    · exact c.symm
    · rw [b2i_ne.mp c]; rfl
  refine b275_20 (v0 := 660) (Y.sh.ok rfl) (Y.sh.ref rfl) (Y.sh.ok rfl) (Y.sh.inN (n := 320) rfl hq (by decide)) (fun c => ?_) (fun c => ?_)
  · rw [cq]
    refine b275_69 (g70 _ ?_)
    rw [nS.mp c]
    cases oa <;> rfl
  rw [cq]
  cases os with
  | none => exact absurd rfl c
  | some sN =>
  cases oa with
  | none => exact b275_35 (fun _ => b275_69 (g70 _ rfl)) (fun c => absurd rfl c)
  | some a =>
  refine b275_35 (fun c => absurd (na.mp c) (fun h => by cases h)) (fun _ => b275_41 (v0 := 681) (v1 := 639) (Y4.sh.ok rfl) (Y4.sh.ref rfl) (Y4.sh.ok rfl) (i40 (ja a rfl) rfl) (Y4.sh.ref rfl) (Y4.sh.ok rfl) (i24 (js sN rfl) rfl) (ot none 639 a sN (ja a rfl) (js sN rfl) (Or.inl rfl)) (by decide) ?_)
  rintro z h2 ⟨e0, rfl⟩
  subst h2
  refine b275_62 (fun c => b275_69 (g70 _ ?_)) (fun c => b275_65 (g70 _ ?_))
  · exact c.symm
  · rw [b2i_ne.mp c]; rfl
end PD
