/-! THE TWO READS: the first part of a rule -/
section ZK
variable {K P X : Nat → Nat} {U : Nat → Int64} {e a : Nat} {J D : List Nat} {k k1 k2 : q_Hp}
theorem p_K.lf {nt ns r : Nat} (hJ : 68 ∈ J) (d1 : 679 ∈ D) (d2 : 680 ∈ D) (d3 : 681 ∈ D) (d4 : 682 ∈ D) (d5 : 641 ∈ D) (d6 : 642 ∈ D) (d7 : 643 ∈ D) (d8 : 644 ∈ D) (d9 : 645 ∈ D) (d10 : 646 ∈ D) (d11 : 647 ∈ D) : ∀ m n l s k1, a ≤ s.1 → p_K P a J D k k1 → p_K P a J D k (p_lf K P U nt ns r m n l s k1) := by
  intro m
  induction m with
  | zero => intro n l s k1 _ x; exact x
  | succ m ih =>
    intro n l s k1 ha x
    unfold p_lf
    exact p_K.ite (ih _ _ _ _ (Nat.le_trans ha (y_to.rf.no).1) (x.no ha hJ d1 d2 d3 d4 d8 d5)) (p_K.ite (ih _ _ _ _ (Nat.le_trans ha (y_to.rf.li).1) (x.li ha hJ d1 d2 d3 d4 d9 d10 d11 d6)) (p_K.ite (ih _ _ _ _ (Nat.le_trans ha (y_to.rf.ps.nd).1) (x.sA d7)) x))
theorem p_K.nl {nt ns q aa : Nat} (hJ : 68 ∈ J) (d1 : 679 ∈ D) (d2 : 680 ∈ D) (d3 : 681 ∈ D) (d4 : 682 ∈ D) (d5 : 649 ∈ D) (d6 : 650 ∈ D) (d7 : 651 ∈ D) (d8 : 652 ∈ D) (d9 : 653 ∈ D) : ∀ m n l s k1, a ≤ s.1 → p_K P a J D k k1 → p_K P a J D k (p_nl K P U nt ns q aa m n l s k1) := by
  intro m
  induction m with
  | zero => intro n l s k1 _ x; exact x
  | succ m ih =>
    intro n l s k1 ha x
    unfold p_nl
    exact p_K.ite (ih _ _ _ _ (Nat.le_trans ha (y_to.rf.no).1) (x.nn ha hJ d1 d2 d3 d4 d5)) (p_K.ite (ih _ _ _ _ (Nat.le_trans ha (y_to.rf.li).1) (x.nk ha hJ d1 d2 d3 d4 d7 d8 d9 d6)) x)
theorem p_K.n1 {nt ns r c aa : Nat} {s : y_S} (x : p_K P a J D k k1) (ha : a ≤ s.1) (hJ : 68 ∈ J) (d1 : 679 ∈ D) (d2 : 680 ∈ D) (d3 : 681 ∈ D) (d4 : 682 ∈ D) (d5 : 649 ∈ D) (d6 : 650 ∈ D) (d7 : 651 ∈ D) (d8 : 652 ∈ D) (d9 : 653 ∈ D) (d0 : 648 ∈ D) : p_K P a J D k (p_n1 K P U nt ns r c aa s k1) := (p_K.nl hJ d1 d2 d3 d4 d5 d6 d7 d8 d9 _ _ _ _ _ (show a ≤ s.1 + 1 by omega) (x.n0 d0 d5 d6)).sI ⟨hJ, by decide, by decide⟩
theorem p_K.nts {nt ns r aa : Nat} (hJ : 68 ∈ J) (d1 : 679 ∈ D) (d2 : 680 ∈ D) (d3 : 681 ∈ D) (d4 : 682 ∈ D) (d5 : 649 ∈ D) (d6 : 650 ∈ D) (d7 : 651 ∈ D) (d8 : 652 ∈ D) (d9 : 653 ∈ D) (d0 : 648 ∈ D) : ∀ m c s k1, a ≤ s.1 → p_K P a J D k k1 → p_K P a J D k (p_nts K P U nt ns r aa m c s k1) := by
  intro m
  induction m with
  | zero => intro c s k1 _ x; exact x
  | succ m ih =>
    intro c s k1 ha x
    unfold p_nts
    exact p_K.ite (ih _ _ _ (Nat.le_trans ha (y_to.rf.n1).1) (x.n1 ha hJ d1 d2 d3 d4 d5 d6 d7 d8 d9 d0)) x
theorem p_K.tss {r aa : Nat} (h1 : 12 ∈ J) (h2 : 22 ∈ J) (h3 : 78 ∈ J) (h4 : 666 ∈ D) (h5 : 667 ∈ D) (h6 : 668 ∈ D) (h7 : 685 ∈ D) (d4 : 654 ∈ D) (d5 : 655 ∈ D) (d6 : 656 ∈ D) (d7 : 657 ∈ D) (d8 : 658 ∈ D) : ∀ m c s k1, a ≤ s.1 → p_K P a J D k k1 → p_K P a J D k (p_tss K P X U r aa m c s k1) := by
  intro m
  induction m with
  | zero => intro c s k1 _ x; exact x
  | succ m ih =>
    intro c s k1 ha x
    unfold p_tss
    exact p_K.ite (ih _ _ _ (Nat.le_trans ha (y_to.rf.rm.te).1) (x.te ha h1 h2 h3 h4 h5 h6 h7 d4 d5 d6 d7 d8)) x
end ZK
section ZL
variable {K P X : Nat → Nat} {V U : Nat → Int64} {e t c o q nt ns n l m a r : Nat} {NX : Nat → Prop} {lx : Bool} {w : Nat} {h k h' k' : q_Hp} {F D J E : List Nat} {s : y_S}
/-- what holds in the first part of a rule -/
def zS1 (K : Nat → Nat) (V U : Nat → Int64) (e c o q nt ns n l : Nat) (h k : q_Hp) : Prop := zO h k ∧ zT K V U e c nt ns h k ∧ zL h k o q nt ns n l ∧ zM K V U e (fun x => x < n) true l 0 (n + l) h k ∧ zG (n + l) h ∧ zLk l (n + l) h
theorem zG.tl {v : Int64} {kd nu ty : Int32} (G : zG m h) : zG (m + 1) (g_tl m v kd nu ty h) := by
  intro j hj
  rw [g_tl_r.2.2.2.2]
  split
  · rfl
  · exact G j (by omega)
theorem zG.fr (G : zG m h) (e1 : qA h' 596 = qA h 596) : zG m h' := fun j hj => by rw [e1]; exact G j hj
theorem zLk.fr (Z : zLk l m h) (e1 : qA h' 593 = qA h 593) (e2 : qA h' 594 = qA h 594) : zLk l m h' := by
  unfold zLk
  rw [e1, e2]
  exact Z
theorem zLk.tn {v : Int64} {kd nu ty : Int32} (Z : zLk l m h) (hk : ¬ kd = 2) : zLk l (m + 1) (g_tl m v kd nu ty h) := by
  refine ⟨fun x hx => ?_, fun i j hi hj => ?_⟩
  · obtain ⟨j, q1, q2, q3⟩ := Z.1 x hx
    refine ⟨j, by omega, ?_, ?_⟩
    · rw [g_tl_r.2.1, if_neg (by omega)]; exact q2
    · rw [g_tl_r.2.2.1, if_neg (by omega)]; exact q3
  · rw [g_tl_r.2.1, g_tl_r.2.1, g_tl_r.2.2.1, g_tl_r.2.2.1]
    by_cases h1 : i = m
    · rw [if_pos h1]
      exact fun q => absurd q hk
    · by_cases h2 : j = m
      · rw [if_pos h2]
        exact fun _ q => absurd q hk
      · rw [if_neg h1, if_neg h2, if_neg h1, if_neg h2]
        exact Z.2 i j (by omega) (by omega)
theorem zLk.tl {v : Int64} {ty : Int32} (Z : zLk l m h) (ZM : zM K V U e NX true l w m h k) (hl : l < 2 ^ 30) : zLk (l + 1) (m + 1) (g_tl m v 2 (nI l) ty h) := by
  have old : ∀ j, j < m → qA h 593 j = 2 → ∃ x, x < l ∧ qA h 594 j = nI x := by
    intro j hj h2
    obtain ⟨_, _, _, q | q | q⟩ := ZM.2.2.1 j hj
    · rw [q.1] at h2
      exact absurd h2 (by decide)
    · obtain ⟨x, q1, q2, _⟩ := q.2.2 rfl
      exact ⟨x, q1, q2⟩
    · rw [q.1] at h2
      exact absurd h2 (by decide)
  refine ⟨fun x hx => ?_, fun i j hi hj => ?_⟩
  · by_cases h9 : x = l
    · exact ⟨m, by omega, by rw [g_tl_r.2.1, if_pos rfl], by rw [g_tl_r.2.2.1, if_pos rfl, h9]⟩
    · obtain ⟨j, q1, q2, q3⟩ := Z.1 x (by omega)
      refine ⟨j, by omega, ?_, ?_⟩
      · rw [g_tl_r.2.1, if_neg (by omega)]; exact q2
      · rw [g_tl_r.2.2.1, if_neg (by omega)]; exact q3
  · rw [g_tl_r.2.1, g_tl_r.2.1, g_tl_r.2.2.1, g_tl_r.2.2.1]
    by_cases h1 : i = m
    · by_cases h2 : j = m
      · exact fun _ _ _ => h1.trans h2.symm
      · rw [if_pos h1, if_pos h1, if_neg h2, if_neg h2]
        intro _ q1 q2
        obtain ⟨x, q3, q4⟩ := old j (by omega) q1
        rw [q4] at q2
        have := (nI_eq (by omega) (by omega)).mp q2
        omega
    · by_cases h2 : j = m
      · rw [if_neg h1, if_neg h1, if_pos h2, if_pos h2]
        intro q1 _ q2
        obtain ⟨x, q3, q4⟩ := old i (by omega) q1
        rw [q4] at q2
        have := (nI_eq (by omega) (by omega)).mp q2
        omega
      · rw [if_neg h1, if_neg h2, if_neg h1, if_neg h2]
        exact Z.2 i j (by omega) (by omega)
end ZL
