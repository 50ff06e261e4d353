/-! THE TWO READS: codes of sums -/
/-- a book of these codes alone -/
def z_bk (C : Nat → Nat → Nat) : q_Bk := (fun _ => 0, fun _ _ => 0, fun _ => 0, C, fun _ _ => 0, fun _ _ _ => 0)
def zcd (C : Nat → Nat → Nat) (nn i m n : Nat) : Option Nat := q_cd (z_bk C) (fun _ _ => nn) i m n
def zBC (c : Nat) (h : q_Hp) : Nat → Nat → Nat := fun i j => (if j = 0 then qA h (c + 6) i else qA h (c + 7) i).toNatClampNeg
theorem zcd_q {B : q_Bk} {V : Nat → Nat → Nat} : ∀ m i n, q_cd B V i m n = zcd (bC B) (V 0 0) i m n := by
  intro m
  induction m with
  | zero => intro i n; rfl
  | succ m ih =>
    intro i n
    unfold zcd q_cd
    have e1 : bC (z_bk (bC B)) = bC B := rfl
    rw [ih, ih, ih, e1]
    rfl
theorem zcd_s {C : Nat → Nat → Nat} {nn i m n : Nat} : zcd C nn i (m + 1) n = (if C i 0 < 2 then (if (C i 0 = 1 → C i 1 / 2 < nn) ∧ n < 40 then zcd C nn (i + 1) m (n + 1) else none) else if C i 0 = 2 then (if 1 ≤ n then zcd C nn (i + 1) m n else none) else if C i 0 < 6 ∧ 2 ≤ n then zcd C nn (i + 1) m (n - 1) else none) := rfl
theorem zcd_app {C : Nat → Nat → Nat} {nn b : Nat} : ∀ a i n, zcd C nn i (a + b) n = (zcd C nn i a n).bind (fun n' => zcd C nn (i + a) b n') := by
  intro a
  induction a with
  | zero => intro i n; rw [Nat.zero_add]; rfl
  | succ a ih =>
    intro i n
    rw [show a + 1 + b = (a + b) + 1 by omega, zcd_s, zcd_s]
    have e1 : i + 1 + a = i + (a + 1) := by omega
    split
    · split
      · rw [ih, e1]
      · rfl
    · split
      · split
        · rw [ih, e1]
        · rfl
      · split
        · rw [ih, e1]
        · rfl
theorem zcd_fr {C C' : Nat → Nat → Nat} {nn : Nat} : ∀ m i n, (∀ j, i ≤ j → j < i + m → C' j = C j) → zcd C' nn i m n = zcd C nn i m n := by
  intro m
  induction m with
  | zero => intro i n _; rfl
  | succ m ih =>
    intro i n H
    have r : ∀ n, zcd C' nn (i + 1) m n = zcd C nn (i + 1) m n := fun n => ih (i + 1) n (fun j h1 h2 => H j (by omega) (by omega))
    rw [zcd_s, zcd_s, H i (Nat.le_refl _) (by omega), r, r, r]
/-- codes ahead of this one stay -/
def zA (c q : Nat) (h h' : q_Hp) : Prop := ∀ i, i < q → qA h' (c + 6) i = qA h (c + 6) i ∧ qA h' (c + 7) i = qA h (c + 7) i
/-- the codes from q to q' make st' of st -/
def zD (c nn : Nat) (h : q_Hp) (q st q' st' : Nat) : Prop := q ≤ q' ∧ zcd (zBC c h) nn q (q' - q) st = some st'
/-- a code on both sides -/
def zCe (c : Nat) (h k : q_Hp) (i : Nat) : Prop := ∃ kd v, kd < 6 ∧ v < 2 ^ 31 ∧ qA h (c + 6) i = nI kd ∧ qA h (c + 7) i = nI v ∧ qA k 666 (1300 + i) = nI kd ∧ (kd = 0 → qA k 667 (1300 + i) = nI v) ∧ (kd = 1 → qA k 667 (1300 + i) = nI (v / 2) ∧ qA k 668 (1300 + i) = nI (v % 2))
def zC (c q : Nat) (h k : q_Hp) : Prop := qI h c 4 = nI q ∧ qI k 630 22 = nI (1300 + q) ∧ ∀ i, i < q → zCe c h k i
section ZA
variable {c nn q q1 q2 st st1 st2 : Nat} {h h1 h2 k k1 : q_Hp}
theorem zA.rf : zA c q h h := fun _ _ => ⟨rfl, rfl⟩
theorem zA.trans (a : zA c q h h1) (b : zA c q1 h1 h2) (hq : q ≤ q1) : zA c q h h2 := fun i hi => by
  obtain ⟨a1, a2⟩ := a i hi
  obtain ⟨b1, b2⟩ := b i (by omega)
  exact ⟨b1.trans a1, b2.trans a2⟩
theorem zA.mono (a : zA c q h h1) (hq : q1 ≤ q) : zA c q1 h h1 := fun i hi => a i (by omega)
theorem zA.bc (a : zA c q h h1) {i : Nat} (hi : i < q) : zBC c h1 i = zBC c h i := by
  obtain ⟨a1, a2⟩ := a i hi
  unfold zBC
  rw [a1, a2]
theorem zD.rf : zD c nn h q st q st := ⟨Nat.le_refl _, by rw [Nat.sub_self]; rfl⟩
theorem zD.trans (a : zD c nn h q st q1 st1) (b : zD c nn h q1 st1 q2 st2) : zD c nn h q st q2 st2 := by
  obtain ⟨a1, a2⟩ := a
  obtain ⟨b1, b2⟩ := b
  refine ⟨by omega, ?_⟩
  rw [show q2 - q = (q1 - q) + (q2 - q1) by omega, zcd_app, a2, show q + (q1 - q) = q1 by omega]
  exact b2
theorem zD.fr (a : zD c nn h q st q1 st1) (b : zA c q1 h h1) : zD c nn h1 q st q1 st1 := by
  obtain ⟨a1, a2⟩ := a
  refine ⟨a1, ?_⟩
  rw [← a2]
  exact zcd_fr _ _ _ (fun j _ h2 => b.bc (by omega))
theorem zCe.fr {i : Nat} (Z : zCe c h k i) (a6 : qA h1 (c + 6) i = qA h (c + 6) i) (a7 : qA h1 (c + 7) i = qA h (c + 7) i) (e : ∀ x, x = 666 ∨ x = 667 ∨ x = 668 → qA k1 x (1300 + i) = qA k x (1300 + i)) : zCe c h1 k1 i := by
  unfold zCe
  rw [a6, a7, e 666 (by omega), e 667 (by omega), e 668 (by omega)]
  exact Z
theorem zC.fr (Z : zC c q h k) (i4 : qI h1 c 4 = qI h c 4) (i22 : qI k1 630 22 = qI k 630 22) (a : zA c q h h1) (e : ∀ x, x = 666 ∨ x = 667 ∨ x = 668 → qA k1 x = qA k x) : zC c q h1 k1 := ⟨i4.trans Z.1, i22.trans Z.2.1, fun i hi => (Z.2.2 i hi).fr (a i hi).1 (a i hi).2 (fun x hx => by rw [e x hx])⟩
/-- one code more, on both sides -/
theorem zC.em {kd v : Nat} {w x y : Int32} (Z : zC c q h k) (h6 : kd < 6) (hv : v < 2 ^ 31) (hq : q < 2 ^ 30) (hw : w = nI kd) (x0 : kd = 0 → x = nI v) (x1 : kd = 1 → x = nI (v / 2) ∧ y = nI (v % 2)) : zC c (q + 1) (g_cx c w (nI v) h) (p_em w x y k) ∧ zA c q h (g_cx c w (nI v) h) ∧ qA (g_cx c w (nI v) h) (c + 6) q = nI kd ∧ qA (g_cx c w (nI v) h) (c + 7) q = nI v := by
  subst hw
  obtain ⟨z1, z2, z3⟩ := Z
  rw [g_cx_e z1 (by omega)]
  have n1 : qA (g_cd c q (nI kd) (nI v) h) (c + 6) = fun i => if i = q then nI kd else qA h (c + 6) i := by
    funext i
    unfold g_cd
    rw [qA_sI, qA_sAn (by omega), qA_sA]
    by_cases h9 : i = q
    · rw [if_pos ⟨rfl, h9⟩, if_pos h9]
    · rw [if_neg (fun h8 => h9 h8.2), if_neg h9]
  have n2 : qA (g_cd c q (nI kd) (nI v) h) (c + 7) = fun i => if i = q then nI v else qA h (c + 7) i := by
    funext i
    unfold g_cd
    rw [qA_sI, qA_sA, qA_sAn (by omega)]
    by_cases h9 : i = q
    · rw [if_pos ⟨rfl, h9⟩, if_pos h9]
    · rw [if_neg (fun h8 => h9 h8.2), if_neg h9]
  have ci : (qI k 630 22 : Int32).toNatClampNeg = 1300 + q := by rw [z2, nI_clamp (by omega)]
  have m1 : ∀ j, qA (p_em (nI kd) x y k) 666 j = if j = 1300 + q then nI kd else qA k 666 j := by
    intro j
    unfold p_em
    rw [qA_sI, qA_sAn (by decide), qA_sAn (by decide), qA_sA, ci]
    by_cases h9 : j = 1300 + q
    · rw [if_pos ⟨rfl, h9⟩, if_pos h9]
    · rw [if_neg (fun h8 => h9 h8.2), if_neg h9]
  have m2 : ∀ j, qA (p_em (nI kd) x y k) 667 j = if j = 1300 + q then x else qA k 667 j := by
    intro j
    unfold p_em
    rw [qA_sI, qA_sAn (by decide), qA_sA, qA_sAn (by decide), ci]
    by_cases h9 : j = 1300 + q
    · rw [if_pos ⟨rfl, h9⟩, if_pos h9]
    · rw [if_neg (fun h8 => h9 h8.2), if_neg h9]
  have m3 : ∀ j, qA (p_em (nI kd) x y k) 668 j = if j = 1300 + q then y else qA k 668 j := by
    intro j
    unfold p_em
    rw [qA_sI, qA_sA, qA_sAn (by decide), qA_sAn (by decide), ci]
    by_cases h9 : j = 1300 + q
    · rw [if_pos ⟨rfl, h9⟩, if_pos h9]
    · rw [if_neg (fun h8 => h9 h8.2), if_neg h9]
  refine ⟨⟨g_cd_4, ?_, fun i hi => ?_⟩, fun i hi => ?_, ?_, ?_⟩
  · rw [p_em_22, z2, nI_1]
    rfl
  · by_cases h9 : i = q
    · subst h9
      refine ⟨kd, v, h6, hv, ?_, ?_, ?_, fun q0 => ?_, fun q0 => ?_⟩
      · rw [n1]; exact if_pos rfl
      · rw [n2]; exact if_pos rfl
      · rw [m1, if_pos rfl]
      · rw [m2, if_pos rfl]; exact x0 q0
      · rw [m2, m3, if_pos rfl, if_pos rfl]; exact x1 q0
    · refine (z3 i (by omega)).fr ?_ ?_ (fun z hz => ?_)
      · rw [n1]; exact if_neg h9
      · rw [n2]; exact if_neg h9
      · rcases hz with rfl | rfl | rfl
        · rw [m1, if_neg (by omega)]
        · rw [m2, if_neg (by omega)]
        · rw [m3, if_neg (by omega)]
  · rw [n1, n2]
    exact ⟨if_neg (by omega), if_neg (by omega)⟩
  · rw [n1]; exact if_pos rfl
  · rw [n2]; exact if_pos rfl
theorem zD.one {kd v : Nat} (h6 : kd < 6) (hv : v < 2 ^ 31) (e6 : qA h (c + 6) q = nI kd) (e7 : qA h (c + 7) q = nI v) (hs : (kd < 2 ∧ (kd = 1 → v / 2 < nn) ∧ st < 40 ∧ st1 = st + 1) ∨ (kd = 2 ∧ 1 ≤ st ∧ st1 = st) ∨ (3 ≤ kd ∧ 2 ≤ st ∧ st1 = st - 1)) : zD c nn h q st (q + 1) st1 := by
  refine ⟨Nat.le_succ _, ?_⟩
  have c0 : zBC c h q 0 = kd := by
    show (if (0 : Nat) = 0 then qA h (c + 6) q else qA h (c + 7) q).toNatClampNeg = kd
    rw [if_pos rfl, e6, nI_clamp (by omega)]
  have c1 : zBC c h q 1 = v := by
    show (if (1 : Nat) = 0 then qA h (c + 6) q else qA h (c + 7) q).toNatClampNeg = v
    rw [if_neg (by decide), e7, nI_clamp hv]
  rw [show q + 1 - q = 0 + 1 by omega, zcd_s, c0, c1]
  rcases hs with ⟨s1, s2, s3, s4⟩ | ⟨s1, s2, s3⟩ | ⟨s1, s2, s3⟩
  · rw [if_pos s1, if_pos ⟨s2, s3⟩, s4]
    rfl
  · rw [if_neg (by omega), if_pos s1, if_pos s2, s3]
    rfl
  · rw [if_neg (by omega), if_neg (by omega), if_pos ⟨h6, s2⟩, s3]
    rfl
end ZA
/-- what waits in the reference -/
def zW (w : List Nat) (k : q_Hp) : Prop := qI k 630 78 = nI w.length ∧ p_wt (qA k 685) w
/-- down to a bracket, or to the end -/
def zWb (w : List Nat) : Prop := w = [] ∨ ∃ w1, w = 16 :: w1
def zx (neg : Bool) (sg : Nat) : List Nat := if neg = true then [3] else if sg = 31 then [13] else if sg = 32 then [14] else []
theorem zx_len {neg : Bool} {sg : Nat} : (zx neg sg).length ≤ 1 := by
  unfold zx
  split
  · exact Nat.le_refl _
  · split
    · exact Nat.le_refl _
    · split
      · exact Nat.le_refl _
      · exact Nat.zero_le _
section ZW
variable {w : List Nat} {k k1 : q_Hp} {x : Nat} {l : Int32}
theorem zW.fr (W : zW w k) (e1 : qI k1 630 78 = qI k 630 78) (e2 : qA k1 685 = qA k 685) : zW w k1 := by
  unfold zW
  rw [e1, e2]
  exact W
theorem zW.pu (W : zW w k) (hw : w.length < 40) : zW (x :: w) (p_pu (nI x) k) := by
  obtain ⟨g1, g2⟩ := W
  have cl : (qI k 630 78 : Int32).toNatClampNeg = w.length := by rw [g1, nI_clamp (by omega)]
  have e1 : qA (p_pu (nI x) k) 685 = fun j => if j = w.length then nI x else qA k 685 j := by
    funext j
    unfold p_pu
    rw [cl, qA_sI, qA_sA]
    by_cases h : j = w.length
    · rw [if_pos ⟨rfl, h⟩, if_pos h]
    · rw [if_neg (fun h9 => h h9.2), if_neg h]
  refine ⟨?_, ?_, ?_⟩
  · unfold p_pu
    rw [q_sI_e, g1, nI_1]
    rfl
  · rw [e1]
    exact if_pos rfl
  · rw [e1]
    exact p_wt_up (i := w.length) (v := nI x) w (Nat.le_refl _) g2
/-- what is settled at the top -/
def zpo (w : List Nat) (x : Nat) (k : q_Hp) : q_Hp := p_em (p_oc (nI x)) 0 0 (q_sI k 630 78 (nI w.length))
theorem zW.pop (W : zW (x :: w) k) : zW w (zpo w x k) := by
  refine ⟨?_, ?_⟩
  · unfold zpo
    rw [p_em_I (by decide)]
    exact q_sI_e
  · unfold zpo
    rw [p_em_A (by decide), qA_sI]
    exact W.2.2
theorem zW.sw (W : zW w k) (hw : w.length < 2 ^ 31) : p_sw l k = p_se l w.length k := by
  unfold p_sw
  rw [W.1, nI_clamp hw]
theorem zW.st (W : zW w k) (hw : w.length < 2 ^ 31) (h : w = [] ∨ ∃ x w0, w = x :: w0 ∧ p_st (nI x) < l) : p_sw l k = k := by
  rw [W.sw hw]
  rcases h with rfl | ⟨x, w0, rfl, h⟩
  · rfl
  · show p_se l (w0.length + 1) k = k
    unfold p_se
    rw [W.2.1, if_pos h]
theorem zW.po (W : zW (x :: w) k) (hw : w.length < 40) (h : ¬ p_st (nI x) < l) : p_sw l k = p_sw l (zpo w x k) := by
  rw [W.sw (by rw [List.length_cons]; omega), W.pop.sw (by omega)]
  show p_se l (w.length + 1) k = _
  show (if p_st (qA k 685 w.length) < l then k else _) = _
  rw [W.2.1, if_neg h]
  rfl
theorem zWb.st (h : zWb w) (hl : 0 < l) : w = [] ∨ ∃ x w0, w = x :: w0 ∧ p_st (nI x) < l := by
  rcases h with h | ⟨w1, h⟩
  · exact Or.inl h
  · exact Or.inr ⟨16, w1, h, by rw [show p_st (nI 16) = 0 by decide]; exact hl⟩
theorem zW.cl (W : zW (x :: w) k) : zW w (p_po k) := by
  refine ⟨?_, ?_⟩
  · unfold p_po
    rw [q_sI_n (by omega), q_sI_e, W.1]
    exact nI_pred w.length
  · unfold p_po
    rw [qA_sI, qA_sI]
    exact W.2.2
end ZW
