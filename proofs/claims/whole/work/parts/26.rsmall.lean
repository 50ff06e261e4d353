/-! THE SMALL CALLS keep the relation -/
theorem r_cR.fr {h h' : q_Hp} {o : Nat} {V : Nat → Nat → Nat} (eA : ∀ a, o ≤ a → a < o + 14 → qA h' a = qA h a) (eI : qI h' o = qI h o) (c : r_cR h o V) : r_cR h' o V := by
  unfold r_cR at c ⊢
  rw [eI, eA (o + 1) (by omega) (by omega), eA (o + 2) (by omega) (by omega), eA (o + 3) (by omega) (by omega), eA (o + 4) (by omega) (by omega), eA (o + 5) (by omega) (by omega), eA (o + 6) (by omega) (by omega), eA (o + 7) (by omega) (by omega), eA (o + 8) (by omega) (by omega), eA (o + 9) (by omega) (by omega), eA (o + 10) (by omega) (by omega), eA (o + 11) (by omega) (by omega), eA (o + 12) (by omega) (by omega), eA (o + 13) (by omega) (by omega)]
  exact c
theorem r_cB.fr {h h' : q_Hp} {b : Nat} {B : q_Bk} (hb : q_isB b) (w : q_wB B) (eA : ∀ a, b ≤ a → a < b + 289 → qA h' a = qA h a) (eI : ∀ a, b ≤ a → a < b + 289 → qI h' a = qI h a) (c : r_cB h b B) : r_cB h' b B := by
  obtain ⟨c1, c2, c3, c4, c5, c6, c7⟩ := c
  have hr := w.2.2.1
  refine ⟨?_, ?_, ?_, ?_, ?_, ?_, fun r hr2 => ?_⟩
  · rw [eI b (by omega) (by omega)]; exact c1
  · rw [eA (b + 1) (by omega) (by omega)]; exact c2
  · rw [eA (b + 2) (by omega) (by omega), eA (b + 3) (by omega) (by omega)]; exact c3
  · rw [eA (b + 5) (by omega) (by omega)]; exact c4
  · rw [eA (b + 6) (by omega) (by omega), eA (b + 7) (by omega) (by omega)]; exact c5
  · rw [eA (b + 8) (by omega) (by omega)]; exact c6
  · exact (c7 r hr2).fr (fun a h1 h2 => eA a (by omega) (by omega)) (eI _ (by omega) (by omega))
theorem r_mR.fr {h h' : q_Hp} {r : Nat} {V : Nat → Nat → Nat} (eA : ∀ a, 638 ≤ a → a ≤ 673 → qA h' a = qA h a) (c : r_mR h r V) : r_mR h' r V := by
  unfold r_mR at c ⊢
  rw [eA 641 (by decide) (by decide), eA 642 (by decide) (by decide), eA 643 (by decide) (by decide), eA 644 (by decide) (by decide), eA 645 (by decide) (by decide), eA 646 (by decide) (by decide), eA 647 (by decide) (by decide), eA 648 (by decide) (by decide), eA 649 (by decide) (by decide), eA 650 (by decide) (by decide), eA 651 (by decide) (by decide), eA 652 (by decide) (by decide), eA 653 (by decide) (by decide), eA 654 (by decide) (by decide), eA 655 (by decide) (by decide), eA 656 (by decide) (by decide), eA 657 (by decide) (by decide), eA 658 (by decide) (by decide), eA 659 (by decide) (by decide), eA 660 (by decide) (by decide), eA 661 (by decide) (by decide), eA 662 (by decide) (by decide), eA 663 (by decide) (by decide), eA 664 (by decide) (by decide), eA 665 (by decide) (by decide)]
  exact c
theorem r_mB.fr {h h' : q_Hp} {B : q_Bk} (eA : ∀ a, 638 ≤ a → a ≤ 673 → qA h' a = qA h a) (eI : ∀ i, i < 4 → qI h' 630 (24 + i) = qI h 630 (24 + i)) (c : r_mB h B) : r_mB h' B := by
  obtain ⟨c1, c2, c3, c4, c5, c6, c7⟩ := c
  refine ⟨fun i hi => (eI i hi).trans (c1 i hi), ?_, ?_, ?_, ?_, ?_, fun r hr2 => (c7 r hr2).fr eA⟩
  · rw [eA 638 (by decide) (by decide)]; exact c2
  · rw [eA 639 (by decide) (by decide), eA 640 (by decide) (by decide)]; exact c3
  · rw [eA 673 (by decide) (by decide)]; exact c4
  · rw [eA 666 (by decide) (by decide), eA 667 (by decide) (by decide), eA 668 (by decide) (by decide)]; exact c5
  · rw [eA 669 (by decide) (by decide), eA 670 (by decide) (by decide), eA 671 (by decide) (by decide), eA 672 (by decide) (by decide)]; exact c6
theorem qI_sI_nj {h : q_Hp} {a j b i : Nat} {v : Int32} (e : ¬ (b = a ∧ i = j)) : qI (q_sI h a j v) b i = qI h b i := if_neg e
theorem qA_wA_ne {h : q_Hp} {c x : Nat} {g : Nat → Int32} (e : ¬ x = c) : qA (q_wA h c g) x = qA h x := if_neg e
theorem qI_sI_ne {h : q_Hp} {a j b : Nat} {v : Int32} (e : ¬ b = a) : qI (q_sI h a j v) b = qI h b := q_up_ne e
/-- the heap behind a change by hand -/
def r_hp (h : q_Hp) (f g : Nat → Int32) : q_Hp := q_sI (q_wA (q_sI (q_wA h 598 f) 599 3 0) 691 g) 630 92 (qI h 630 91)
theorem r_put {W K : Nat → Int64} {h : q_Hp} {u b : Nat} {B : q_Bk} {a l t s : Nat} (Q : r_Q W K h u b B a l t s) {f g : Nat → Int32} (D : q_dg (bN B 0) (bN B 1) f g) : r_Q W K (r_hp h f g) u b B a a t s := by
  obtain ⟨S, q1, q2, q3, q4, hb, q5, w, q6, q7, q8, q9, q10, q11⟩ := Q
  have hb' : b = 11 ∨ b = 300 := hb
  refine ⟨S, q1, q2, q3, q4, hb, q5, w, ?_, ?_, D, ?_, q10, q11⟩
  · refine q6.fr hb w (fun x h1 h2 => ?_) (fun x h1 h2 => ?_)
    · show qA (q_wA (q_wA h 598 f) 691 g) x = qA h x
      rw [qA_wA_ne (by omega), qA_wA_ne (by omega)]
    · show qI (q_sI (q_sI h 599 3 0) 630 92 (qI h 630 91)) x = qI h x
      rw [qI_sI_ne (by omega), qI_sI_ne (by omega)]
  · refine q7.fr (fun x h1 h2 => ?_) (fun i hi => ?_)
    · show qA (q_wA (q_wA h 598 f) 691 g) x = qA h x
      rw [qA_wA_ne (by omega), qA_wA_ne (by omega)]
    · show qI (q_sI (q_sI h 599 3 0) 630 92 (qI h 630 91)) 630 (24 + i) = qI h 630 (24 + i)
      rw [qI_sI_nj (by omega), qI_sI_nj (by omega)]
  · obtain ⟨h1, h2, h3, h4, h5, h6, h7, h8, h9, h10, h11⟩ := q9
    refine ⟨h1, h1, Nat.le_refl _, by omega, h5, h6, ?_, h8, h9, h10, fun j hj1 hj2 => ?_⟩
    · rw [Nat.sub_self]
      rfl
    · omega
theorem r_Q.hT {W K : Nat → Int64} {h : q_Hp} {u b : Nat} {B : q_Bk} {a l t s : Nat} (Q : r_Q W K h u b B a l t s) : qI h b 0 = nI (bN B 0) ∧ qI h b 1 = nI (bN B 1) ∧ qI h b 2 = nI (bN B 2) ∧ qI h b 3 = nI (bN B 3) ∧ qI h b 4 = nI (bN B 4) ∧ qI h b 5 = nI (bN B 5) := by
  obtain ⟨S, q1, q2, q3, q4, hb, q5, w, q6, q7, q8, q9, q10, q11⟩ := Q
  exact ⟨q6.1 0 (by decide), q6.1 1 (by decide), q6.1 2 (by decide), q6.1 3 (by decide), q6.1 4 (by decide), q6.1 5 (by decide)⟩
theorem r_Q.mT {W K : Nat → Int64} {h : q_Hp} {u b : Nat} {B : q_Bk} {a l t s : Nat} (Q : r_Q W K h u b B a l t s) : qI h 630 24 = nI (bN B 0) ∧ qI h 630 25 = nI (bN B 1) ∧ qI h 630 26 = nI (bN B 2) ∧ qI h 630 27 = nI (bN B 3) := by
  obtain ⟨S, q1, q2, q3, q4, hb, q5, w, q6, q7, q8, q9, q10, q11⟩ := Q
  exact ⟨q7.1 0 (by decide), q7.1 1 (by decide), q7.1 2 (by decide), q7.1 3 (by decide)⟩
theorem r_Q.go {W K : Nat → Int64} {h : q_Hp} {u b : Nat} {B : q_Bk} {a l t s : Nat} (Q : r_Q W K h u b B a l t s) : m_go h = r_go h := by
  obtain ⟨S, q1, q2, q3, q4, hb, q5, w, q6, q7, q8, q9, q10, q11⟩ := Q
  unfold m_go r_go
  rw [q11.1]
/-- a call of the desk, and the same call of the reference behind it, answer the same, and the relation goes on -/
def r_I (W K : Nat → Int64) (k k' : Nat) (as : List Value) (u u' : Nat) : Prop := ∀ h, r_R W K h u → q_mI 40 k (.ref 1 :: as) h (fun z h1 => q_mI 40 k' (.ref 630 :: as) h1 (fun z' h2 => z' = z ∧ r_R W K h2 u'))
theorem r_place {W K : Nat → Int64} {u : Nat} : r_I W K 214 261 [] u u := by
  rintro h R
  obtain ⟨b, B, a, l, t, s, Q⟩ := R
  have S := Q.1
  refine (s214 S).mono (by decide) ?_
  rintro z h1 ⟨e0, rfl⟩
  subst h1
  refine (s261 S).mono (by decide) ?_
  rintro z h1 ⟨e0, rfl⟩
  subst h1
  exact ⟨Q.2.2.2.1.symm, b, B, a, l, t, s, Q⟩
theorem r_node {W K : Nat → Int64} {u : Nat} {x : Int32} : r_I W K 215 301 [.int x] u u := by
  rintro h R
  obtain ⟨b, B, a, l, t, s, Q⟩ := R
  have Q' := Q
  obtain ⟨S, q1, q2, q3, q4, hb, q5, w, q6, q7, q8, q9, q10, q11⟩ := Q'
  have hT : bN B 0 ≤ 12 := w.1
  have D := q8.1
  refine (s215 S hb q5.1 Q.hT.1 hT).mono (by decide) ?_
  intro z h1 e1
  have hgo := Q.go
  by_cases hc : (!r_go h && q_rg x (bN B 0)) = true
  · unfold D215 at e1
    rw [if_pos hc] at e1
    have hx : q_rg x (bN B 0) = true := by
      simp only [Bool.and_eq_true] at hc
      exact hc.2
    cases hf : d_free (qA h 598) 0 12 with
    | none =>
      rw [hf] at e1
      obtain ⟨rfl, rfl⟩ := Prod.mk.inj e1
      refine (s301 S Q.mT.1).mono (by decide) ?_
      intro z h2 e2
      unfold D301 at e2
      rw [hgo, if_pos hc, (d_free_eq D).1, hf] at e2
      obtain ⟨rfl, rfl⟩ := Prod.mk.inj e2
      exact ⟨rfl, b, B, a, l, t, s, Q⟩
    | some i =>
      rw [hf] at e1
      obtain ⟨rfl, rfl⟩ := Prod.mk.inj e1
      have hi := q_fst_lt _ _ _ hf
      have h0 : qA h 598 i = -1 := by
        have := hi.2.2
        rw [Nat.zero_add] at this
        exact eq_of_beq this
      have Sg : q_Sh (q_fg (q_sA h 598 i x)) := S
      refine (s301 (t := bN B 0) Sg Q.mT.1).mono (by decide) ?_
      intro z h2 e2
      unfold D301 at e2
      have g1 : m_go (q_fg (q_sA h 598 i x)) = r_go h := hgo
      have g2 : d_free (qA (q_fg (q_sA h 598 i x)) 691) 0 12 = some i := ((d_free_eq D).1).trans hf
      rw [g1, if_pos hc, g2] at e2
      obtain ⟨rfl, rfl⟩ := Prod.mk.inj e2
      refine ⟨rfl, b, B, a, a, t, s, ?_⟩
      obtain ⟨n, hn, rfl⟩ := (q_rg_ex (by omega)).mp hx
      have D2 : q_dg (bN B 0) (bN B 1) (upd (qA h 598) i (nI n)) (upd (upd (upd (qA h 691) i (nI n)) (12 + i) 0) (24 + i) 0) := ⟨D.newN hT (by omega) h0 hn, q8.2.newN D hT (by omega) hn⟩
      have e3 : q_ls (d_newN (q_fg (q_sA h 598 i (nI n))) i (nI n)) = r_hp h (upd (qA h 598) i (nI n)) (upd (upd (upd (qA h 691) i (nI n)) (12 + i) 0) (24 + i) 0) := by
        unfold d_newN
        rw [q_sA_wA (q_fg (q_sA h 598 i (nI n))), q_sA_wA', q_sA_wA', q_sA_wA h]
        rfl
      rw [e3]
      exact r_put Q D2
  · unfold D215 at e1
    rw [if_neg hc] at e1
    obtain ⟨rfl, rfl⟩ := Prod.mk.inj e1
    refine (s301 S Q.mT.1).mono (by decide) ?_
    intro z h2 e2
    unfold D301 at e2
    rw [hgo, if_neg hc] at e2
    obtain ⟨rfl, rfl⟩ := Prod.mk.inj e2
    exact ⟨rfl, b, B, a, l, t, s, Q⟩
