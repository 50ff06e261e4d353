/-! THE PARSE OF THE REFERENCE: what deletes and what joins -/
def p_any (p : Nat → Bool) : Nat → Bool
  | 0 => false
  | n + 1 => p_any p n || p n
/-- what stands, and what may be deleted -/
def p_sd (L : Nat) (x : Int64) (k : q_Hp) : Option Nat := match p_fi (qL k 678) L x with
  | some j => if ¬ qA k 679 j = 1 ∧ qA k 682 j = 0 then some j else none
  | none => none
def p_dd (L : Nat) (x : Int64) (k : q_Hp) : Option Nat := match p_fi (qL k 678) L x with
  | some j => if ¬ qA k 679 j = 2 ∧ qA k 682 j = 0 then some j else none
  | none => none
def p_tg (kd a : Int32) : Int32 := if kd = 2 then 4 + a else a
def p_hl (r l jn : Nat) (a : Int32) (k : q_Hp) : Bool := p_any (fun i => qA k 683 i == 0 && (qA k 646 (6 * (20 + r) + i) == a || qA k 647 (6 * (20 + r) + i) == a)) l || p_any (fun i => qA k 684 i == a) jn
def p_de1 (q j : Nat) (k : q_Hp) : q_Hp := q_sA (q_sA (q_sA k 682 j 1) 661 q (qA k 680 j)) 660 q (qA k 679 j)
def p_de2 (P : Nat → Nat) (r q l jn i j : Nat) (k : q_Hp) : q_Hp := if qA k 679 j = 1 then q_sA (p_de1 q j k) 683 (qA k 680 j : Int32).toNatClampNeg 1 else if p_hl r l jn (qA k 680 j) k = true then p_wr P 5 i (p_de1 q j k) else p_de1 q j k
def p_de (P : Nat → Nat) (U : Nat → Int64) (r q l jn L i : Nat) (k : q_Hp) : q_Hp := match p_dd L (U i) k with
  | some j => p_de2 P r q l jn i j k
  | none => q_sA (p_wr P 4 i k) 660 q 0
section PD
variable {K P X : Nat → Nat} {U : Nat → Int64} {e : Nat} {k0 k : q_Hp} {s : y_S}
theorem p_sd_lt {L j : Nat} {x : Int64} (h : p_sd L x k = some j) : j < L ∧ ¬ qA k 679 j = 1 ∧ qA k 682 j = 0 := by
  unfold p_sd at h
  cases hf : p_fi (qL k 678) L x with
  | none => rw [hf] at h; cases h
  | some i =>
    rw [hf] at h
    have h : (if ¬ qA k 679 i = 1 ∧ qA k 682 i = 0 then some i else none) = some j := h
    split at h
    · next h1 =>
      cases h
      exact ⟨(p_fi_lt hf).1, h1⟩
    · cases h
theorem s271 {L i : Nat} {v : Int32} (Y : p_y K P X U e k0 k s) (hs : s.2 = 0) (hi : i ≤ e) (hK : K i = 40) (hL : qI k0 630 68 = nI L) (h40 : L ≤ 40) (hv : v = nI i) : q_mI 2 271 [.ref 630, .int v] k (fun z k' => z = q_on (p_sd L (U i) k0) ∧ p_y K P X U e (p_fw P i (p_sd L (U i) k0) k0) k' s) := by
  subst hv
  refine q_mI.of (q_recV rfl (Y.sh.ok rfl)) (fun Q fin => ?_)
  refine b271_0 (s257 Y hi hK hL h40 rfl) (by decide) ?_
  rintro z h2 ⟨e0, rfl⟩
  subst h2
  have bad : p_sd L (U i) k0 = none → ∀ x2, q_wp 2 271 30 [some (.ref 630), some (.int (nI i)), some (.int x2)] [] k Q := by
    intro h x2
    refine b271_30 (s251 (n := 4) Y hi hs rfl rfl) (by decide) (fun k' Y' => b271_36 (fin _ _ ⟨?_, ?_⟩))
    · rw [h]; rfl
    · unfold p_fw
      rw [if_pos h]
      exact Y'
  have a79 : qA k 679 = qA k0 679 := Y.A (by decide)
  have a82 : qA k 682 = qA k0 682 := Y.A (by decide)
  cases hf : p_fi (qL k0 678) L (U i) with
  | none =>
    have hn : p_sd L (U i) k0 = none := by unfold p_sd; rw [hf]
    exact b271_5 (fun _ => bad hn _) (fun c => absurd rfl c)
  | some j =>
    have hj := (p_fi_lt hf).1
    have n1 := q_on_ne (j := j) (by omega)
    have ej : (q_on (some j) : Int32).toNatClampNeg = j := nI_clamp (n := j) (by omega)
    have hn : p_sd L (U i) k0 = if ¬ qA k0 679 j = 1 ∧ qA k0 682 j = 0 then some j else none := by unfold p_sd; rw [hf]
    have i4 : ∀ {a}, (decide (a ≤ 712) && (q_kd0 a).2 == 40) = true → q_in (q_on (some j)) (qK k a).2 := fun h => Y.sh.inN (n := 40) (j := j) h (by omega) (by decide)
    refine b271_5 (fun c => absurd c n1) (fun _ => b271_11 (v0 := 679) (Y.sh.ok rfl) (Y.sh.ref rfl) (Y.sh.ok rfl) (i4 rfl) (fun c => bad ?_ _) (fun c => b271_21 (v0 := 682) (Y.sh.ok rfl) (Y.sh.ref rfl) (Or.inr (Y.sh.ok rfl)) (i4 rfl) (fun c2 => b271_38 (fin _ _ ⟨?_, ?_⟩)) (fun c2 => bad ?_ _)))
    · rw [ej, a79] at c
      rw [hn, if_neg (fun h9 => h9.1 c)]
    · rw [ej, a79] at c
      rw [ej, a82] at c2
      rw [hn, if_pos ⟨c, c2⟩]
    · rw [ej, a79] at c
      rw [ej, a82] at c2
      rw [hn, if_pos ⟨c, c2⟩]
      exact Y
    · rw [ej, a82] at c2
      rw [hn, if_neg (fun h9 => c2 h9.2)]
theorem s272 {kd a : Int32} : q_mI 0 272 [.int kd, .int a] k (fun z k' => k' = k ∧ z = p_tg kd a) := by
  refine q_mI.of rfl (fun Q fin => ?_)
  refine b272_0 (fun c => b272_11 (fin _ _ ⟨rfl, ?_⟩)) (fun c => b272_5 (fin _ _ ⟨rfl, ?_⟩))
  · unfold p_tg
    rw [if_neg c]
  · unfold p_tg
    rw [if_pos c]
theorem p_de1_A {q j x : Nat} (h : ¬ x = 660 ∧ ¬ x = 661 ∧ ¬ x = 682) : qA (p_de1 q j k0) x = qA k0 x := by
  unfold p_de1
  rw [qA_sAn h.1, qA_sAn h.2.1, qA_sAn h.2.2]
theorem s274_199 {Q : Option Value → q_Hp → Prop} {a : Int32} {jn j i q r : Nat} (Y : p_y K P X U e k0 k s) (hj : j < 40) (ha : qA k0 680 j = a) (hJ : qI k0 630 75 = nI jn) (h16 : jn ≤ 16) {x : Bool} (cont : q_wp 2 274 243 [some (.ref 630), some (.int (nI (20 + r))), some (.int (nI q)), some (.int (nI i)), some (.int (nI j)), some (.int (b2i (x || p_any (fun i => qA k0 684 i == a) jn))), some (.int (nI jn))] [] k Q) : ∀ m y, y + m = jn → q_wp 2 274 199 [some (.ref 630), some (.int (nI (20 + r))), some (.int (nI q)), some (.int (nI i)), some (.int (nI j)), some (.int (b2i (x || p_any (fun i => qA k0 684 i == a) y))), some (.int (nI y))] [] k Q := by
  have e75 : qI k 630 75 = nI jn := (Y.I rfl).trans hJ
  have e84 : qA k 684 = qA k0 684 := Y.A (by decide)
  have e80 : qA k 680 = qA k0 680 := Y.A (by decide)
  intro m
  induction m with
  | zero =>
    intro y hy
    obtain rfl : jn = y := by omega
    refine b274_199 (Y.sh.ok rfl) (fun _ => cont) (fun c => ?_)
    rw [e75] at c
    exact absurd (Int32.le_refl _) c
  | succ m ih =>
    intro y hy
    have nx := ih (y + 1) (by omega)
    refine b274_199 (Y.sh.ok rfl) (fun c => ?_) (fun _ => ?_)
    · rw [e75] at c
      have := (nI_leI (by omega) (by omega)).mp c
      omega
    have g230 : (x || p_any (fun i => qA k0 684 i == a) (y + 1)) = true → q_wp 2 274 230 [some (.ref 630), some (.int (nI (20 + r))), some (.int (nI q)), some (.int (nI i)), some (.int (nI j)), some (.int (b2i (x || p_any (fun i => qA k0 684 i == a) y))), some (.int (nI y))] [] k Q := by
      intro h
      rw [h] at nx
      refine b274_230 (b274_235 ?_)
      rw [nI_1]
      exact nx
    refine b274_208 (fun c => g230 ?_) (fun c => b274_213 (v0 := 684) (v1 := 680) (Y.sh.ok rfl) (Y.sh.ref rfl) (Y.sh.ok rfl) (Y.sh.inN (n := 16) rfl (by omega) (by decide)) (Y.sh.ref rfl) (Y.sh.ok rfl) (Y.sh.inN (n := 40) rfl hj (by decide)) (fun c2 => ?_) (fun c2 => g230 ?_))
    · have := b2i_ne.mp c
      show (x || (p_any _ y || _)) = true
      rw [← Bool.or_assoc, this, Bool.true_or]
    · have c := b2i_eq.mp c
      rw [nI_clamp (by omega), nI_clamp (by omega), e84, e80, ha] at c2
      have : (x || p_any (fun i => qA k0 684 i == a) (y + 1)) = false := by
        show (x || (p_any _ y || _)) = false
        rw [← Bool.or_assoc, c, Bool.false_or]
        exact beq_false_of_ne c2
      rw [this] at nx
      refine b274_234 (b274_235 ?_)
      rw [nI_1]
      exact nx
    · rw [nI_clamp (by omega), nI_clamp (by omega), e84, e80, ha] at c2
      show (x || (p_any _ y || (qA k0 684 y == a))) = true
      rw [show (qA k0 684 y == a) = true from beq_iff_eq.mpr c2, Bool.or_true, Bool.or_true]
theorem s274_113 {Q : Option Value → q_Hp → Prop} {a : Int32} {l j i q r : Nat} (Y : p_y K P X U e k0 k s) (hj : j < 40) (hr : r < 20) (ha : qA k0 680 j = a) (hl : qA k0 642 (20 + r) = nI l) (h6 : l ≤ 6) (cont : q_wp 2 274 196 [some (.ref 630), some (.int (nI (20 + r))), some (.int (nI q)), some (.int (nI i)), some (.int (nI j)), some (.int (b2i (p_any (fun i => qA k0 683 i == 0 && (qA k0 646 (6 * (20 + r) + i) == a || qA k0 647 (6 * (20 + r) + i) == a)) l))), some (.int (nI l))] [] k Q) : ∀ m y, y + m = l → q_wp 2 274 113 [some (.ref 630), some (.int (nI (20 + r))), some (.int (nI q)), some (.int (nI i)), some (.int (nI j)), some (.int (b2i (p_any (fun i => qA k0 683 i == 0 && (qA k0 646 (6 * (20 + r) + i) == a || qA k0 647 (6 * (20 + r) + i) == a)) y))), some (.int (nI y))] [] k Q := by
  have e83 : qA k 683 = qA k0 683 := Y.A (by decide)
  have e46 : qA k 646 = qA k0 646 := Y.A (by decide)
  have e47 : qA k 647 = qA k0 647 := Y.A (by decide)
  have e80 : qA k 680 = qA k0 680 := Y.A (by decide)
  have e42 : qA k 642 ((nI (20 + r) : Int32).toNatClampNeg) = nI l := by rw [nI_clamp (by omega), Y.A (by decide)]; exact hl
  intro m
  induction m with
  | zero =>
    intro y hy
    obtain rfl : l = y := by omega
    refine b274_113 (v0 := 642) (Y.sh.ok rfl) (Y.sh.ref rfl) (Y.sh.ok rfl) (Y.sh.inN (n := 40) rfl (by omega) (by decide)) (fun _ => cont) (fun c => ?_)
    rw [e42] at c
    exact absurd (Int32.le_refl _) c
  | succ m ih =>
    intro y hy
    have nx := ih (y + 1) (by omega)
    refine b274_113 (v0 := 642) (Y.sh.ok rfl) (Y.sh.ref rfl) (Y.sh.ok rfl) (Y.sh.inN (n := 40) rfl (by omega) (by decide)) (fun c => ?_) (fun _ => ?_)
    · rw [e42] at c
      have := (nI_leI (by omega) (by omega)).mp c
      omega
    have g183 : p_any (fun i => qA k0 683 i == 0 && (qA k0 646 (6 * (20 + r) + i) == a || qA k0 647 (6 * (20 + r) + i) == a)) (y + 1) = true → q_wp 2 274 183 [some (.ref 630), some (.int (nI (20 + r))), some (.int (nI q)), some (.int (nI i)), some (.int (nI j)), some (.int (b2i (p_any (fun i => qA k0 683 i == 0 && (qA k0 646 (6 * (20 + r) + i) == a || qA k0 647 (6 * (20 + r) + i) == a)) y))), some (.int (nI y))] [] k Q := by
      intro h
      rw [h] at nx
      refine b274_183 (b274_188 ?_)
      rw [nI_1]
      exact nx
    have g187 : p_any (fun i => qA k0 683 i == 0 && (qA k0 646 (6 * (20 + r) + i) == a || qA k0 647 (6 * (20 + r) + i) == a)) (y + 1) = false → q_wp 2 274 187 [some (.ref 630), some (.int (nI (20 + r))), some (.int (nI q)), some (.int (nI i)), some (.int (nI j)), some (.int (b2i (p_any (fun i => qA k0 683 i == 0 && (qA k0 646 (6 * (20 + r) + i) == a || qA k0 647 (6 * (20 + r) + i) == a)) y))), some (.int (nI y))] [] k Q := by
      intro h
      rw [h] at nx
      refine b274_187 (b274_188 ?_)
      rw [nI_1]
      exact nx
    have i1 : (6 : Int32) * nI (20 + r) + nI y = nI (6 * (20 + r) + y) := p_ix4 (m := 6)
    have i6 : ∀ {a}, (decide (a ≤ 712) && (q_kd0 a).2 == 240) = true → q_in ((6 : Int32) * nI (20 + r) + nI y) (qK k a).2 := fun h => by rw [i1]; exact Y.sh.inN (n := 240) h (by omega) (by decide)
    have c1 : ((6 : Int32) * nI (20 + r) + nI y : Int32).toNatClampNeg = 6 * (20 + r) + y := by rw [i1, nI_clamp (by omega)]
    have cj : (nI j : Int32).toNatClampNeg = j := nI_clamp (by omega)
    have cy : (nI y : Int32).toNatClampNeg = y := nI_clamp (by omega)
    have ij : q_in (nI j) (qK k 680).2 := Y.sh.inN (n := 40) rfl hj (by decide)
    refine b274_124 (fun c => g183 ?_) (fun c => b274_129 (v0 := 683) (Y.sh.ok rfl) (Y.sh.ref rfl) (Or.inr (Y.sh.ok rfl)) (Y.sh.inN (n := 6) rfl (by omega) (by decide)) (fun c2 => g187 ?_) (fun c2 => b274_139 (v0 := 646) (v1 := 680) (Y.sh.ok rfl) (Y.sh.ref rfl) (Y.sh.ok rfl) (i6 rfl) (Y.sh.ref rfl) (Y.sh.ok rfl) ij (fun c3 => g183 ?_) (fun c3 => b274_161 (v0 := 647) (v1 := 680) (Y.sh.ok rfl) (Y.sh.ref rfl) (Y.sh.ok rfl) (i6 rfl) (Y.sh.ref rfl) (Y.sh.ok rfl) ij (fun c4 => g187 ?_) (fun c4 => g183 ?_))))
    · show (p_any _ y || _) = true
      rw [b2i_ne.mp c, Bool.true_or]
    · rw [cy, e83] at c2
      show (p_any _ y || (qA k0 683 y == 0 && _)) = false
      rw [b2i_eq.mp c, Bool.false_or, beq_false_of_ne c2, Bool.false_and]
    · rw [cy, e83] at c2
      rw [c1, cj, e46, e80, ha] at c3
      show (p_any _ y || (qA k0 683 y == 0 && (qA k0 646 (6 * (20 + r) + y) == a || _))) = true
      rw [c2, c3, beq_self_eq_true, beq_self_eq_true, Bool.true_or, Bool.true_and, Bool.or_true]
    · rw [c1, cj, e46, e80, ha] at c3
      rw [c1, cj, e47, e80, ha] at c4
      show (p_any _ y || (_ && (qA k0 646 (6 * (20 + r) + y) == a || qA k0 647 (6 * (20 + r) + y) == a))) = false
      rw [b2i_eq.mp c, beq_false_of_ne c3, beq_false_of_ne c4, Bool.false_or, Bool.false_or, Bool.and_false]
    · rw [cy, e83] at c2
      rw [c1, cj, e47, e80, ha] at c4
      show (p_any _ y || (qA k0 683 y == 0 && (_ || qA k0 647 (6 * (20 + r) + y) == a))) = true
      rw [c2, c4, beq_self_eq_true, beq_self_eq_true, Bool.or_true, Bool.true_and, Bool.or_true]
theorem s274 {r q l jn L i : Nat} {v x1 x2 : Int32} (Y : p_y K P X U e k0 k s) (hs : s.2 = 0) (hi : i ≤ e) (hK : K i = 40) (hL : qI k0 630 68 = nI L) (h40 : L ≤ 40) (hr : r < 20) (hq : q < 320) (hl : qA k0 642 (20 + r) = nI l) (h6 : l ≤ 6) (hJ : qI k0 630 75 = nI jn) (h16 : jn ≤ 16) (hA : ∀ j, j < L → qA k0 679 j = 1 → ∃ a, a < 6 ∧ qA k0 680 j = nI a) (e1 : x1 = nI (20 + r)) (e2 : x2 = nI q) (hv : v = nI i) : q_mV 2 274 [.ref 630, .int x1, .int x2, .int v] k (fun k' => p_y K P X U e (p_de P U r q l jn L i k0) k' s) := by
  subst hv
  subst e1
  subst e2
  have e12 := Y.e12
  refine q_mV.of (q_recV rfl (Y.sh.ok rfl)) (fun Q fin => ?_)
  have cq : (nI q : Int32).toNatClampNeg = q := nI_clamp (by omega)
  refine b274_0 (s257 Y hi hK hL h40 rfl) (by decide) ?_
  rintro z h2 ⟨e0, rfl⟩
  subst h2
  have bad : p_dd L (U i) k0 = none → ∀ x4, q_wp 2 274 34 [some (.ref 630), some (.int (nI (20 + r))), some (.int (nI q)), some (.int (nI i)), some (.int x4), none, none] [] k Q := by
    intro h x4
    refine b274_34 (s251 (n := 4) Y hi hs rfl rfl) (by decide) (fun k' Y' => b274_40 (v0 := 660) (Y'.sh.ok rfl) (Y'.sh.ref rfl) (Y'.sh.ok rfl) (Y'.sh.inN (n := 320) rfl hq (by decide)) (fin _ ?_))
    unfold p_de
    rw [h, cq]
    exact Y'.sA rfl
  have a79 : qA k 679 = qA k0 679 := Y.A (by decide)
  have a80 : qA k 680 = qA k0 680 := Y.A (by decide)
  have a82 : qA k 682 = qA k0 682 := Y.A (by decide)
  cases hf : p_fi (qL k0 678) L (U i) with
  | none =>
    have hn : p_dd L (U i) k0 = none := by unfold p_dd; rw [hf]
    exact b274_5 (fun _ => bad hn _) (fun c => absurd rfl c)
  | some j =>
    have hj := (p_fi_lt hf).1
    have n1 := q_on_ne (j := j) (by omega)
    have ej : (nI j : Int32).toNatClampNeg = j := nI_clamp (n := j) (by omega)
    have hn : p_dd L (U i) k0 = if ¬ qA k0 679 j = 2 ∧ qA k0 682 j = 0 then some j else none := by unfold p_dd; rw [hf]
    have i4 : ∀ {k a}, q_Sh k → (decide (a ≤ 712) && (q_kd0 a).2 == 40) = true → q_in (nI j) (qK k a).2 := fun S h => S.inN (n := 40) (j := j) h (by omega) (by decide)
    show q_wp 2 274 5 _ [.int (nI j)] k Q
    refine b274_5 (fun c => absurd c n1) (fun _ => b274_13 (v0 := 679) (Y.sh.ok rfl) (Y.sh.ref rfl) (Y.sh.ok rfl) (i4 Y.sh rfl) (fun c => bad ?_ _) (fun c => b274_24 (v0 := 682) (Y.sh.ok rfl) (Y.sh.ref rfl) (Or.inr (Y.sh.ok rfl)) (i4 Y.sh rfl) (fun c2 => ?_) (fun c2 => bad ?_ _)))
    · rw [ej, a79] at c
      rw [hn, if_neg (fun h9 => h9.1 c)]
    rotate_left 1
    · rw [ej, a82] at c2
      rw [hn, if_neg (fun h9 => c2 h9.2)]
    rw [ej, a79] at c
    rw [ej, a82] at c2
    rw [if_pos ⟨c, c2⟩] at hn
    unfold p_de at fin
    rw [hn] at fin
    have fin : ∀ h', p_y K P X U e (p_de2 P r q l jn i j k0) h' s → Q none h' := fin
    have b1 : vp_nar .boolean (1 : Int32) = 1 := by decide
    have Y1 : p_y K P X U e (p_de1 q j k0) (q_sA (q_sA (q_sA k 682 j 1) 661 q (qA k0 680 j)) 660 q (qA k0 679 j)) s := ((Y.sA rfl).sA rfl).sA rfl
    have hh : q_sA (q_sA (q_sA k 682 (nI j : Int32).toNatClampNeg (vp_nar .boolean 1)) 661 (nI q : Int32).toNatClampNeg (qA (q_sA k 682 (nI j : Int32).toNatClampNeg (vp_nar .boolean 1)) 680 (nI j : Int32).toNatClampNeg)) 660 (nI q : Int32).toNatClampNeg (qA (q_sA (q_sA k 682 (nI j : Int32).toNatClampNeg (vp_nar .boolean 1)) 661 (nI q : Int32).toNatClampNeg (qA (q_sA k 682 (nI j : Int32).toNatClampNeg (vp_nar .boolean 1)) 680 (nI j : Int32).toNatClampNeg)) 679 (nI j : Int32).toNatClampNeg) = q_sA (q_sA (q_sA k 682 j 1) 661 q (qA k0 680 j)) 660 q (qA k0 679 j) := by
      rw [ej, cq, b1, qA_sAn (by decide), qA_sAn (by decide), qA_sAn (by decide), a80, a79]
    refine b274_48 (v0 := 682) (v1 := 661) (v2 := 680) (v3 := 660) (v4 := 679) (Y.sh.ok rfl) (Y.sh.ref rfl) (Y.sh.ok rfl) (i4 Y.sh rfl) (Y.sh.ref rfl) (Y.sh.ref rfl) (Y.sh.ok rfl) (i4 Y.sh rfl) (Y.sh.ok rfl) (Y.sh.inN (n := 320) rfl hq (by decide)) (Y.sh.ref rfl) (Y.sh.ref rfl) (Y.sh.ok rfl) (i4 Y.sh rfl) (Y.sh.ok rfl) (Y.sh.inN (n := 320) rfl hq (by decide)) (fun c3 => ?_) (fun c3 => ?_)
    · rw [hh, ej, qA_sAn (by decide), qA_sAn (by decide), qA_sAn (by decide), a79] at c3
      rw [hh]
      unfold p_de2 at fin
      rw [if_neg c3] at fin
      have hl1 : qA (p_de1 q j k0) 642 (20 + r) = nI l := (congrFun (p_de1_A (by decide)) _).trans hl
      have ha1 : qA (p_de1 q j k0) 680 j = qA k0 680 j := congrFun (p_de1_A (by decide)) _
      have hJ1 : qI (p_de1 q j k0) 630 75 = nI jn := hJ
      have hp : p_hl r l jn (qA k0 680 j) (p_de1 q j k0) = p_hl r l jn (qA k0 680 j) k0 := by
        unfold p_hl
        rw [p_de1_A (x := 683) (by decide), p_de1_A (x := 646) (by decide), p_de1_A (x := 647) (by decide), p_de1_A (x := 684) (by decide)]
      rw [← hp] at fin
      unfold p_hl at fin
      generalize p_de1 q j k0 = k1 at *
      refine b274_107 (s274_113 (l := l) Y1 (show j < 40 by omega) hr ha1 hl1 h6 (b274_196 ?_) l 0 (by omega))
      have g243 : ∀ x, q_wp 2 274 243 [some (.ref 630), some (.int (nI (20 + r))), some (.int (nI q)), some (.int (nI i)), some (.int (nI j)), some (.int (b2i (p_any (fun i => qA k1 683 i == 0 && (qA k1 646 (6 * (20 + r) + i) == qA k0 680 j || qA k1 647 (6 * (20 + r) + i) == qA k0 680 j)) l || p_any (fun i => qA k1 684 i == qA k0 680 j) jn))), some (.int x)] [] (q_sA (q_sA (q_sA k 682 j 1) 661 q (qA k0 680 j)) 660 q (qA k0 679 j)) Q := by
        intro x
        refine b274_243 (fun c4 => b274_254 (fin _ ?_)) (fun c4 => b274_248 (s251 (n := 5) Y1 hi hs rfl rfl) (by decide) (fun k' Y' => b274_254 (fin _ ?_)))
        · rw [b2i_eq.mp c4, if_neg (by decide)]
          exact Y1
        · rw [if_pos (b2i_ne.mp c4)]
          exact Y'
      have w0 := s274_199 (x := p_any (fun i => qA k1 683 i == 0 && (qA k1 646 (6 * (20 + r) + i) == qA k0 680 j || qA k1 647 (6 * (20 + r) + i) == qA k0 680 j)) l) Y1 (show j < 40 by omega) ha1 hJ1 h16 (g243 _) jn 0 (by omega)
      rw [show p_any (fun i => qA k1 684 i == qA k0 680 j) 0 = false from rfl, Bool.or_false] at w0
      exact w0
    · rw [hh, ej, qA_sAn (by decide), qA_sAn (by decide), qA_sAn (by decide), a79] at c3
      rw [hh]
      unfold p_de2 at fin
      rw [if_pos c3] at fin
      obtain ⟨a, ha, ea⟩ := hA j hj c3
      have ev : qA (q_sA (q_sA (q_sA k 682 j 1) 661 q (qA k0 680 j)) 660 q (qA k0 679 j)) 680 ((nI j : Int32).toNatClampNeg) = qA k0 680 j := by rw [ej, qA_sAn (by decide), qA_sAn (by decide), qA_sAn (by decide), a80]
      refine b274_93 (v0 := 683) (v1 := 680) (Y1.sh.ok rfl) (Y1.sh.ref rfl) (Y1.sh.ref rfl) (Y1.sh.ok rfl) (i4 Y1.sh rfl) (Y1.sh.ok rfl) (by rw [ev, ea]; exact Y1.sh.inN (n := 6) rfl ha (by decide)) (fin _ ?_)
      rw [ev, b1]
      exact Y1.sA rfl
end PD
