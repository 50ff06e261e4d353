/-! THE TWO READS: nodes and links of a rule -/
/-- codes stay as they are -/
def g_Kc (c : Nat) (h h' : q_Hp) : Prop := qI h' c 4 = qI h c 4 ∧ qA h' (c + 6) = qA h (c + 6) ∧ qA h' (c + 7) = qA h (c + 7)
section KC
variable {K : Nat → Nat} {V : Nat → Int64} {c o : Nat} {h h1 h2 : q_Hp}
theorem g_Kc.rf : g_Kc c h h := ⟨rfl, rfl, rfl⟩
theorem g_Kc.trans (a : g_Kc c h h1) (b : g_Kc c h1 h2) : g_Kc c h h2 := ⟨b.1.trans a.1, b.2.1.trans a.2.1, b.2.2.trans a.2.2⟩
theorem g_Kc.sI {x j : Nat} {v : Int32} (a : g_Kc c h h1) (hx : ¬ (x = c ∧ j = 4)) : g_Kc c h (q_sI h1 x j v) := ⟨(q_sI_n (fun q => hx ⟨q.1.symm, q.2.symm⟩)).trans a.1, a.2⟩
theorem g_Kc.sA {x j : Nat} {v : Int32} (a : g_Kc c h h1) (h6 : ¬ c + 6 = x) (h7 : ¬ c + 7 = x) : g_Kc c h (q_sA h1 x j v) := ⟨a.1, (qA_sAn h6).trans a.2.1, (qA_sAn h7).trans a.2.2⟩
theorem g_Kc.sL {x j : Nat} {v : Int64} (a : g_Kc c h h1) : g_Kc c h (q_sL h1 x j v) := a
theorem g_Kc.sR {x j v : Nat} (a : g_Kc c h h1) : g_Kc c h (q_sR h1 x j v) := a
theorem g_Kc.ite {p : Prop} [Decidable p] (a : g_Kc c h h1) (b : g_Kc c h h2) : g_Kc c h (if p then h1 else h2) := by
  split
  · exact a
  · exact b
theorem g_Kc.fa {n : Int32} {x : Nat} (hc : c = 11 ∨ c = 300) (a : g_Kc c h h1) : g_Kc c h (g_fa n x h1) := g_Kc.ite ((a.sI (by omega)).sI (by omega)) a
theorem g_Kc.fw {w : Option Nat} {x : Nat} (hc : c = 11 ∨ c = 300) (a : g_Kc c h h1) : g_Kc c h (g_fw x w h1) := g_Kc.ite (a.fa hc) a
theorem g_Kc.dw {w : Option Nat} {x : Nat} (hc : c = 11 ∨ c = 300) (a : g_Kc c h h1) : g_Kc c h (g_dw x w h1) := g_Kc.ite a (a.fa hc)
theorem g_Kc.tl {m : Nat} {v : Int64} {kd nu ty : Int32} (hc : c = 11 ∨ c = 300) (a : g_Kc c h h1) : g_Kc c h (g_tl m v kd nu ty h1) := ((((a.sL.sA (by omega) (by omega)).sA (by omega) (by omega)).sA (by omega) (by omega)).sA (by omega) (by omega)).sI (by omega)
theorem g_Kc.sO {i j : Nat} {v : Int32} (hc : c = 11 ∨ c = 300) (hO : q_isO o) (hi : 1 ≤ i ∧ i < 14) (a : g_Kc c h h1) : g_Kc c h (q_sA h1 (o + i) j v) := a.sA (fun q => hO.na hc i 6 hi.1 hi.2 (by decide) (by decide) q.symm) (fun q => hO.na hc i 7 hi.1 hi.2 (by decide) (by decide) q.symm)
theorem g_Kc.n1 {nt m a : Nat} (hc : c = 11 ∨ c = 300) (H : g_Kc c h h1) : g_Kc c h (g_n1 V nt m a h1) := (H.dw hc).fw hc
theorem g_Kc.l1 {ns m a : Nat} (hc : c = 11 ∨ c = 300) (H : g_Kc c h h1) : g_Kc c h (g_l1 V ns m a h1) := (((H.dw hc).fw hc).fw hc).fw hc
theorem g_Kc.sIo {j : Nat} {v : Int32} (hc : c = 11 ∨ c = 300) (hO : q_isO o) (a : g_Kc c h h1) : g_Kc c h (q_sI h1 o j v) := a.sI (by have := hO.ne; omega)
theorem g_Kc.no {nt n m a : Nat} (hc : c = 11 ∨ c = 300) (hO : q_isO o) (H : g_Kc c h h1) : g_Kc c h (g_no V nt o n m a h1) := (((H.n1 hc).sO hc hO (by decide)).sIo hc hO).tl hc
theorem g_Kc.nn {nt k m a : Nat} (hc : c = 11 ∨ c = 300) (hO : q_isO o) (H : g_Kc c h h1) : g_Kc c h (g_nn V nt o k m a h1) := ((H.n1 hc).sO hc hO (by decide)).tl hc
theorem g_Kc.lk {i : Nat} {s f t : Int32} (hc : c = 11 ∨ c = 300) (hO : q_isO o) (H : g_Kc c h h1) : g_Kc c h (g_lk o i s f t h1) := ((H.sO hc hO (by decide)).sO hc hO (by decide)).sO hc hO (by decide)
theorem g_Kc.li {ns l m a : Nat} (hc : c = 11 ∨ c = 300) (hO : q_isO o) (H : g_Kc c h h1) : g_Kc c h (g_li V ns o l m a h1) := (((H.l1 hc).lk hc hO).sIo hc hO).tl hc
theorem g_Kc.nk {ns k w m a : Nat} (hc : c = 11 ∨ c = 300) (hO : q_isO o) (H : g_Kc c h h1) : g_Kc c h (g_nk V ns o k w m a h1) := (((H.l1 hc).lk hc hO).sO hc hO (by decide)).tl hc
theorem g_Kc.dd {d : Nat} {x y z w : Int32} (hc : c = 11 ∨ c = 300) (hO : q_isO o) (H : g_Kc c h h1) : g_Kc c h (g_dd o d x y z w h1) := ((((H.sO hc hO (by decide)).sO hc hO (by decide)).sO hc hO (by decide)).sO hc hO (by decide)).sIo hc hO
end KC
/-- nodes and links of a rule, on both sides -/
def zL (h k : q_Hp) (o q nt ns n l : Nat) : Prop := n ≤ 4 ∧ l ≤ 6 ∧ qI h o 0 = nI n ∧ qA k 641 q = nI n ∧ qI h o 1 = nI l ∧ qA k 642 q = nI l ∧ (∃ b, b ≤ 1 ∧ qI h o 6 = nI b ∧ qA k 643 q = nI b) ∧ (∀ i, i < n → ∃ t, t < nt ∧ qA h (o + 1) i = nI t ∧ qA k 644 (4 * q + i) = nI t) ∧ ∀ i, i < l → ∃ s f t, s < ns ∧ f < n ∧ t < n ∧ qA h (o + 4) i = nI s ∧ qA h (o + 5) i = nI f ∧ qA h (o + 6) i = nI t ∧ qA k 645 (6 * q + i) = nI s ∧ qA k 646 (6 * q + i) = nI f ∧ qA k 647 (6 * q + i) = nI t
/-- each link is told once -/
def zLk (l m : Nat) (h : q_Hp) : Prop := (∀ x, x < l → ∃ j, j < m ∧ qA h 593 j = 2 ∧ qA h 594 j = nI x) ∧ ∀ i j, i < m → j < m → qA h 593 i = 2 → qA h 593 j = 2 → qA h 594 i = qA h 594 j → i = j
section ZL
variable {K P X : Nat → Nat} {V U : Nat → Int64} {e t c o q nt ns n l m a r : Nat} {NX : Nat → Prop} {lx : Bool} {w : Nat} {h k h' k' : q_Hp} {F D J E : List Nat} {s : y_S}
theorem zT.kp {b : Nat} (Z : zT K V U e c nt ns h k) (hO : q_isO o) (hc : c = 11 ∨ c = 300) (G : g_K c o F D h h') (W : p_K P b J E k k') (hD : ∀ i, i ∈ D → 1 ≤ i ∧ i < 14) (hJ : ∀ i, i ∈ J → ¬ i = 18 ∧ ¬ i = 19) (hE : ∀ i, i ∈ E → 641 ≤ i) : zT K V U e c nt ns h' k' := by
  have hne := hO.ne
  have ca : ∀ x, x = 1 ∨ x = 2 ∨ x = 3 → qA h' (c + x) = qA h (c + x) := fun x hx => G.2.1 _ (by omega) (fun i hi => fun q => hO.na hc i x (hD i hi).1 (hD i hi).2 (by omega) (by omega) q.symm)
  have ra : ∀ x, x < 641 → qA k' x = qA k x := fun x hx => W.2.1 x (fun q => by have := hE x q; omega)
  exact Z.fr (G.1 c 0 (fun q => by have := q.1; omega) (fun q => by have := q.1; omega) (by omega)) (G.1 c 1 (fun q => by have := q.1; omega) (fun q => by have := q.1; omega) (by omega)) (W.1 18 (fun q => (hJ 18 q).1 rfl) (by decide) (by decide)) (W.1 19 (fun q => (hJ 19 q).2 rfl) (by decide) (by decide)) (G.2.2.1 590 (by decide)) (G.2.2.1 591 (by decide)) (W.2.2.1 674 (by decide)) (W.2.2.1 675 (by decide)) (ca 1 (by omega)) (ca 2 (by omega)) (ca 3 (by omega)) (ra 638 (by decide)) (ra 639 (by decide)) (ra 640 (by decide))
theorem zL.fr (Z : zL h k o q nt ns n l) (i0 : qI h' o 0 = qI h o 0) (i1 : qI h' o 1 = qI h o 1) (i6 : qI h' o 6 = qI h o 6) (a1 : qA h' (o + 1) = qA h (o + 1)) (a4 : ∀ i, i < 6 → qA h' (o + 4) i = qA h (o + 4) i ∧ qA h' (o + 5) i = qA h (o + 5) i ∧ qA h' (o + 6) i = qA h (o + 6) i) (rA : ∀ x, 641 ≤ x → x ≤ 647 → qA k' x = qA k x) : zL h' k' o q nt ns n l := by
  obtain ⟨z1, z2, z3, z4, z5, z6, z7, z8, z9⟩ := Z
  unfold zL
  rw [i0, i1, i6, a1, rA 641 (by decide) (by decide), rA 642 (by decide) (by decide), rA 643 (by decide) (by decide), rA 644 (by decide) (by decide), rA 645 (by decide) (by decide), rA 646 (by decide) (by decide), rA 647 (by decide) (by decide)]
  refine ⟨z1, z2, z3, z4, z5, z6, z7, z8, fun i hi => ?_⟩
  rw [(a4 i (by omega)).1, (a4 i (by omega)).2.1, (a4 i (by omega)).2.2]
  exact z9 i hi
/-- the ends and the sort of a link, on both sides: a fault, or all are found -/
theorem z_l3 {qq rs rf rt : Nat} (T : zTk K P X V U e) (ZT : zT K V U e c nt ns h k) (ZM : zM K V U e NX lx l w m h k) (G : zG m h) (O : zO h k) (he : s.1 + 9 ≤ e) (k1 : K (s.1 + 1) = 40) (k3 : K (s.1 + 3) = 40) (k5 : K (s.1 + 5) = 40) (k7 : K (s.1 + 7) = 40) (hr : (¬ rf = 679 ∧ ¬ rf = 680) ∧ ¬ rs = 679 ∧ ¬ rs = 680) : (p_fi (qL h 592) m (V (s.1 + 1)) = none ∧ ∃ j1 so j2, g_ft 1 m (V (s.1 + 3)) h = some j1 ∧ p_fi (qL h 591) ns (V (s.1 + 5)) = some so ∧ g_ft 1 m (V (s.1 + 7)) h = some j2 ∧ g_l1 V ns m s.1 h = h ∧ p_l3 P U ns m qq rs rf rt s k = q_sA (q_sA (q_sA k rf qq (qA k 680 j1)) rs qq (nI so)) rt qq (qA k 680 j2)) ∨ ∀ h' k', g_S (g_l1 V ns m s.1 h) h' → p_LW P (s.1 + 8) (p_dw P (s.1 + 1) (p_fi (qL (p_l3 P U ns m qq rs rf rt s k) 678) m (U (s.1 + 1))) (p_l3 P U ns m qq rs rf rt s k)) k' → zB P e (s.1 + 9) h' k' := by
  have N1 : zN K e (s.1 + 1) := ⟨by omega, k1⟩
  have N3 : zN K e (s.1 + 3) := ⟨by omega, k3⟩
  have N5 : zN K e (s.1 + 5) := ⟨by omega, k5⟩
  have N7 : zN K e (s.1 + 7) := ⟨by omega, k7⟩
  have f1 := ZM.fi T N1
  have f3 := ZM.el T G N3
  have f5 := ZT.2.2.2.2.2.2.2.1.fi T N5
  have f7 := ZM.el T G N7
  rw [p_l3_L, f1]
  have w3 : ∀ {b k1}, b ≤ s.1 + 3 → p_LW P b k k1 → p_LW P b k (p_l3 P U ns m qq rs rf rt s k) := fun hb _ => ((((p_LW.rf.fw (by omega)).sA.fw (by omega)).sA).fw (by omega)).sA
  unfold g_l1
  cases hf1 : p_fi (qL h 592) m (V (s.1 + 1)) with
  | some j =>
    right
    intro h' k' S L
    rw [g_dw_s] at S
    rw [p_dw_s] at L
    exact zB.mk (h1 := h) (n := 3) (i := s.1 + 1) T.M O (by decide) (by decide) (by omega) (by omega) ((((g_S.rf).fw.fw).fw).trans S) O.1 (w3 (k1 := k) (by omega) p_LW.rf) (L.mono (by omega))
  | none =>
    rw [g_dw_0, p_dw_0]
    have l2 : ∀ k1, qL (p_l1 P U m qq rf (s.1 + 3) k1) 675 = qL k1 675 := fun k1 => p_l1_L
    have e7 : ∀ k1, qA k1 679 = qA k 679 → qL k1 678 = qL k 678 → p_el k1 m (U (s.1 + 7)) = p_el k m (U (s.1 + 7)) := fun k1 q1 q2 => p_el_c q2 q1
    unfold p_l3
    have g7 : p_el (p_l2 P U ns qq rs (s.1 + 5) (p_l1 P U m qq rf (s.1 + 3) k)) m (U (s.1 + 7)) = g_ft 1 m (V (s.1 + 7)) h := by
      rw [f7]
      exact e7 _ (by rw [p_l2_A (by omega), p_l1_A (by omega)]) (by rw [p_l2_L, p_l1_L])
    have g7b : qA (p_l2 P U ns qq rs (s.1 + 5) (p_l1 P U m qq rf (s.1 + 3) k)) 680 = qA k 680 := by rw [p_l2_A (by omega), p_l1_A (by omega)]
    have g5 : p_fi (qL (p_l1 P U m qq rf (s.1 + 3) k) 675) ns (U (s.1 + 5)) = p_fi (qL h 591) ns (V (s.1 + 5)) := by rw [p_l1_L]; exact f5
    unfold p_l1 at g7 g7b g5 ⊢
    rw [g7]
    unfold p_l2 at g7 g7b ⊢
    rw [g5, ← f3]
    rw [g5, ← f3] at g7b
    cases hf3 : g_ft 1 m (V (s.1 + 3)) h with
    | none =>
      right
      intro h' k' S L
      rw [g_fw_0] at S
      rw [p_fw_0] at L
      exact zB.mk (h1 := h) (k1 := k) (n := 4) (i := s.1 + 3) T.M O (by decide) (by decide) (by omega) (by omega) ((g_S.rf.fw.fw).trans S) O.1 p_LW.rf ((((((p_LW.rf.sA).fw (by omega)).sA).fw (by omega)).sA).trans (L.mono (by omega)))
    | some j1 =>
      rw [hf3] at g7b
      rw [g_fw_s, p_fw_s] at *
      cases hf5 : p_fi (qL h 591) ns (V (s.1 + 5)) with
      | none =>
        right
        intro h' k' S L
        rw [g_fw_0] at S
        rw [p_fw_0] at L
        exact zB.mk (h1 := h) (k1 := q_sA k rf qq (p_eo k (some j1))) (n := 4) (i := s.1 + 5) T.M O (by decide) (by decide) (by omega) (by omega) ((g_S.rf.fw).trans S) O.1 p_LW.rf.sA ((((p_LW.rf.sA).fw (by omega)).sA).trans (L.mono (by omega)))
      | some so =>
        rw [hf5] at g7b
        rw [g_fw_s, p_fw_s] at *
        cases hf7 : g_ft 1 m (V (s.1 + 7)) h with
        | none =>
          right
          intro h' k' S L
          rw [g_fw_0] at S
          rw [p_fw_0] at L
          exact zB.mk (h1 := h) (k1 := q_sA (q_sA k rf qq (p_eo k (some j1))) rs qq (q_on (some so))) (n := 4) (i := s.1 + 7) T.M O (by decide) (by decide) (by omega) (by omega) S O.1 p_LW.rf.sA.sA ((p_LW.rf.sA).trans (L.mono (by omega)))
        | some j2 =>
          left
          refine ⟨rfl, j1, so, j2, rfl, rfl, rfl, ?_, ?_⟩
          · exact g_fw_s
          · rw [p_fw_s]
            have : p_eo (q_sA (q_sA k rf qq (p_eo k (some j1))) rs qq (q_on (some so))) (some j2) = qA k 680 j2 := congrFun g7b j2
            rw [this]
            rfl
end ZL
