/-! THE PARSE OF THE REFERENCE: sums -/
section PU
variable {K P X : Nat → Nat} {U : Nat → Int64} {e : Nat} {k0 k : q_Hp} {s : y_S}
/-- where a sum is behind a unit, the brackets behind it and an operator -/
def y_go (K : Nat → Nat) (o : Nat) (s : y_S) : y_S := if y_sn K (y_cl K o s).2 = true then y_ps (y_cl K o s).2 else if 0 < (y_cl K o s).1 then y_fl 1 (y_cl K o s).2 else (y_cl K o s).2
theorem y_is_f {K : Nat → Nat} {c : Nat} {s : y_S} (h : ¬ s.2 = 0) : y_is K c s = false := Bool.eq_false_iff.mpr (fun h9 => h (y_is_c.mp h9).1)
theorem y_sn_f {K : Nat → Nat} {s : y_S} (h : ¬ s.2 = 0) : y_sn K s = false := by
  unfold y_sn
  rw [y_is_f h, y_is_f h, y_is_f h]
  rfl
theorem y_fl_f {f : Nat} {s : y_S} (h : ¬ s.2 = 0) : y_fl f s = s := by
  unfold y_fl
  rw [if_neg h]
theorem y_cl_f {K : Nat → Nat} {s : y_S} (h : ¬ s.2 = 0) : ∀ o, y_cl K o s = (o, s) := by
  intro o
  cases o with
  | zero => rfl
  | succ o =>
    unfold y_cl
    rw [y_is_f h, if_neg (by decide)]
theorem y_go_f {K : Nat → Nat} {o : Nat} {s : y_S} (h : ¬ s.2 = 0) : y_go K o s = s := by
  unfold y_go
  rw [y_cl_f h o, y_sn_f (s := s) h, if_neg (by decide), y_fl_f h, ite_self]
theorem y_sn_cl {K : Nat → Nat} {o : Nat} {s : y_S} (h : y_sn K s = true) : y_cl K o s = (o, s) := by
  cases o with
  | zero => rfl
  | succ o =>
    unfold y_cl
    rw [if_neg]
    intro h9
    have h9 := y_is_c.mp h9
    unfold y_sn at h
    simp only [Bool.or_eq_true, y_is_c] at h
    omega
theorem p_cl_sn {o : Nat} (h : y_sn K s = true) : p_cl K o s k0 = k0 := by
  cases o with
  | zero => rfl
  | succ o =>
    unfold p_cl
    rw [if_neg]
    intro h9
    have h9 := y_is_c.mp h9
    unfold y_sn at h
    simp only [Bool.or_eq_true, y_is_c] at h
    omega
theorem p_sh_top {o : Nat} {w : List Nat} (h : p_sh o w) : w = [] ∨ ∃ w1, w = 16 :: w1 := by
  cases o with
  | zero => exact Or.inl h
  | succ o =>
    obtain ⟨g, w0, _, _, h3⟩ := h
    exact Or.inr ⟨_, h3⟩
theorem s280_a {kb : q_Hp} {Q : Option Value → q_Hp → Prop} {L o c : Nat} {g w0 : List Nat} {x1 x2 : Int32} (Y : p_y K P X U e k0 k s) (F : p_fr kb k0) (hs : s.2 = 0 → p_G kb L o (g ++ w0) c k0 ∧ p_sg g ∧ p_sh o w0 ∧ c + (g ++ w0).length ≤ s.1 ∧ o ≤ 8) (bad : ∀ k1 k x4, p_y K P X U e k1 k (y_go K o s) → ¬ (y_go K o s).2 = 0 → p_fr kb k1 → q_wp 4 280 9 [some (.ref 630), some (.int x1), some (.int x2), some (.int 1), some (.int x4)] [] k Q) (sign : ∀ k x4 g' w' c', y_sn K (y_cl K o s).2 = true → (y_go K o s).2 = 0 → p_y K P X U e (p_sp K (y_cl K o s).2 (p_cl K o s k0)) k (y_go K o s) → p_G kb L (y_cl K o s).1 (g' ++ w') c' (p_sp K (y_cl K o s).2 (p_cl K o s k0)) → p_sg g' → p_sh (y_cl K o s).1 w' → c' + (g' ++ w').length ≤ (y_go K o s).1 → q_wp 4 280 9 [some (.ref 630), some (.int x1), some (.int x2), some (.int 1), some (.int x4)] [] k Q) (els : s.2 = 0 → ¬ y_sn K s = true → q_wp 4 280 187 [some (.ref 630), some (.int x1), some (.int x2), some (.int 1), some (.int 0)] [] k Q) : q_wp 4 280 110 [some (.ref 630), some (.int x1), some (.int x2), some (.int 1), some (.int 1)] [] k Q := by
  refine b280_110 (fun c => absurd c (by decide)) (fun _ => b280_115 (Y.sh.ok rfl) (fun c => b280_244 (bad k0 k _ ?_ ?_ F)) (fun cz => ?_))
  · rw [y_go_f (fun h9 => c (Y.z.mpr h9))]
    exact Y
  · rw [y_go_f (fun h9 => c (Y.z.mpr h9))]
    exact fun h9 => c (Y.z.mpr h9)
  have s0 := Y.z.mp cz
  obtain ⟨G, hg, hw, hc, h8⟩ := hs s0
  have e12 := Y.e12
  have le := Y.le
  have l3 := p_sh_3 _ _ hw
  have l2 := p_sg_2 hg
  have ll : (g ++ w0).length = g.length + w0.length := List.length_append
  have h78 := G.1
  have h22 := G.2.2.1
  have tw : ∀ l, p_sw l k0 = p_se l (g ++ w0).length k0 := fun l => by
    unfold p_sw
    rw [h78, nI_clamp (by omega)]
  have goe : y_sn K s = true → y_cl K o s = (o, s) ∧ p_cl K o s k0 = k0 ∧ y_go K o s = y_ps s := by
    intro h
    have h1 := y_sn_cl (o := o) h
    refine ⟨h1, p_cl_sn h, ?_⟩
    unfold y_go
    rw [h1]
    exact if_pos h
  -- an operator is pushed
  have push : ∀ k l x4 g1, y_sn K s = true → p_y K P X U e (p_pu (nI (t_ph (K s.1))) (p_sw l k0)) k (y_ps s) → l = (if y_is K 33 s = true then 2 else 1) → p_G kb L o (g1 ++ w0) (c + (g.length - g1.length)) (p_sw l k0) → g1.length ≤ g.length → p_sg (t_ph (K s.1) :: g1) → q_wp 4 280 9 [some (.ref 630), some (.int x1), some (.int x2), some (.int 1), some (.int x4)] [] k Q := by
    intro k l x4 g1 h Y hl G hlen hsg
    obtain ⟨q1, q2, q3⟩ := goe h
    have lg : (g1 ++ w0).length = g1.length + w0.length := List.length_append
    have G2 := p_G.pu (x := t_ph (K s.1)) G (by omega)
    by_cases z : (y_ps s).2 = 0
    · rw [q1, q2, q3] at sign
      subst hl
      refine sign k x4 (t_ph (K s.1) :: g1) w0 _ h z Y G2 hsg hw ?_
      have := y_ps_1 (y_to.rf (s := s)) z
      show _ + ((g1 ++ w0).length + 1) ≤ _
      omega
    · rw [q3] at bad
      exact bad _ k x4 Y z G2.2.2.2.2.2
  refine b280_122 (s249 (c := 33) Y (by decide) rfl) (by decide) ?_
  rintro z h2 ⟨e0, rfl⟩
  subst h2
  have h681 := G.2.2.2.2
  refine b280_131 (fun c1 => ?_) (fun c1 => ?_)
  rotate_left 1
  · have c1 := b2i_ne.mp c1
    have k33 := (y_is_c.mp c1).2
    have sn : y_sn K s = true := by unfold y_sn; rw [c1, Bool.or_true, Bool.or_true]
    obtain ⟨g', hg', hl', G'⟩ := G.s2 hg (p_sh_top hw) (by omega)
    refine b280_134 (s279 (n := (g ++ w0).length) (c := 1300 + c) Y h78 (by omega) h22 (by omega)) (by decide) ?_
    intro k Y
    rw [← tw] at Y G'
    have lg : (g' ++ w0).length = g'.length + w0.length := List.length_append
    refine b280_139 (s281 (n := (g' ++ w0).length) Y (y_is_lt (by decide) c1) G'.1 (by omega)) (by decide) ?_
    intro k Y
    refine b280_145 (b280_110 (fun _ => b280_244 (push k 2 _ g' sn ?_ ?_ G' hl' ?_)) (fun c => absurd rfl c))
    · rw [k33]
      exact Y
    · rw [if_pos c1]
    · rw [k33]
      rcases hg' with rfl | ⟨x, hx, rfl⟩
      · exact Or.inr (Or.inl rfl)
      · exact Or.inr (Or.inr ⟨x, hx, Or.inr rfl⟩)
  have n33 := b2i_eq.mp c1
  have g166 : y_sn K s = true → q_wp 4 280 166 [some (.ref 630), some (.int x1), some (.int x2), some (.int 1), some (.int 0)] [] k Q := by
    intro sn
    have G' := G.s1 hg (p_sh_top hw) (by omega)
    refine b280_166 (s279 (n := (g ++ w0).length) (c := 1300 + c) Y h78 (by omega) h22 (by omega)) (by decide) ?_
    intro k Y
    rw [← tw] at Y G'
    have lt42 : s.2 = 0 → K s.1 < 42 := by
      intro _
      unfold y_sn at sn
      simp only [Bool.or_eq_true, y_is_c] at sn
      omega
    have et := Y.t0 s0
    have ev : qA k 633 ((qI k 630 11 : Int32).toNatClampNeg) = nI (t_ph (K s.1)) := by rw [et, nI_clamp (by omega)]; exact (Y.tk le).2.2.1
    refine b280_171 (v0 := 633) (Y.sh.ok rfl) (Y.sh.ref rfl) (Y.sh.ok rfl) (by rw [et]; exact Y.sh.inN (n := 1203) rfl (by omega) (by decide)) (by rw [ev]; exact s281 (n := w0.length) Y lt42 G'.1 (by omega)) (by decide) ?_
    intro k Y
    refine b280_184 (b280_110 (fun _ => b280_244 (push k 1 _ [] sn Y ?_ G' (Nat.zero_le _) ?_)) (fun c => absurd rfl c))
    · rw [n33]
      rfl
    · refine Or.inr (Or.inr ⟨t_ph (K s.1), ?_, Or.inl rfl⟩)
      unfold y_sn at sn
      rw [n33, Bool.or_false] at sn
      simp only [Bool.or_eq_true, y_is_c] at sn
      rcases sn with h | h
      · rw [h.2]
        exact Or.inr (Or.inl rfl)
      · rw [h.2]
        exact Or.inr (Or.inr rfl)
  refine b280_148 (s249 (c := 31) Y (by decide) rfl) (by decide) ?_
  rintro z h2 ⟨e0, rfl⟩
  subst h2
  refine b280_154 (fun c2 => g166 (by unfold y_sn; rw [b2i_ne.mp c2]; rfl)) (fun c2 => b280_157 (s249 (c := 32) Y (by decide) rfl) (by decide) ?_)
  rintro z h2 ⟨e0, rfl⟩
  subst h2
  refine b280_163 (fun c3 => els s0 ?_) (fun c3 => g166 (by unfold y_sn; rw [b2i_ne.mp c3, Bool.true_or, Bool.or_true]))
  unfold y_sn
  rw [b2i_eq.mp c2, b2i_eq.mp c3, n33]
  decide
theorem s280_110 {kb : q_Hp} {Q : Option Value → q_Hp → Prop} {L : Nat} {x1 x2 : Int32} : ∀ o g w0 c s k0 k, p_y K P X U e k0 k s → p_fr kb k0 → (s.2 = 0 → p_G kb L o (g ++ w0) c k0 ∧ p_sg g ∧ p_sh o w0 ∧ c + (g ++ w0).length ≤ s.1 ∧ o ≤ 8) → (∀ k1 k x4, p_y K P X U e k1 k (y_go K o s) → ¬ (y_go K o s).2 = 0 → p_fr kb k1 → q_wp 4 280 9 [some (.ref 630), some (.int x1), some (.int x2), some (.int 1), some (.int x4)] [] k Q) → (∀ k x4 g' w' c', y_sn K (y_cl K o s).2 = true → (y_go K o s).2 = 0 → p_y K P X U e (p_sp K (y_cl K o s).2 (p_cl K o s k0)) k (y_go K o s) → p_G kb L (y_cl K o s).1 (g' ++ w') c' (p_sp K (y_cl K o s).2 (p_cl K o s k0)) → p_sg g' → p_sh (y_cl K o s).1 w' → c' + (g' ++ w').length ≤ (y_go K o s).1 → q_wp 4 280 9 [some (.ref 630), some (.int x1), some (.int x2), some (.int 1), some (.int x4)] [] k Q) → (∀ k x4 c', ¬ y_sn K (y_cl K o s).2 = true → (y_cl K o s).1 = 0 → (y_cl K o s).2.2 = 0 → p_y K P X U e (p_sw 1 (p_cl K o s k0)) k (y_cl K o s).2 → p_G kb L 0 [] c' (p_sw 1 (p_cl K o s k0)) → c' ≤ (y_cl K o s).2.1 → q_wp 4 280 9 [some (.ref 630), some (.int x1), some (.int x2), some (.int 0), some (.int x4)] [] k Q) → q_wp 4 280 110 [some (.ref 630), some (.int x1), some (.int x2), some (.int 1), some (.int 1)] [] k Q := by
  intro o
  induction o with
  | zero =>
    intro g w0 c s k0 k Y F hs bad sign done
    refine s280_a Y F hs bad sign ?_
    intro s0 nsn
    obtain ⟨G, hg, hw, hc, h8⟩ := hs s0
    have hw0 : w0 = [] := hw
    subst hw0
    have e12 := Y.e12
    have le := Y.le
    have l2 := p_sg_2 hg
    have ll : (g ++ []).length = g.length := by rw [List.append_nil]
    have G' := G.s1 hg (Or.inl rfl) (by omega)
    refine b280_187 (s279 (n := (g ++ []).length) (c := 1300 + c) Y G.1 (by omega) G.2.2.1 (by omega)) (by decide) ?_
    intro k Y
    have tw : p_sw 1 k0 = p_se 1 (g ++ []).length k0 := by
      unfold p_sw
      rw [G.1, nI_clamp (by omega)]
    rw [← tw] at Y G'
    have e78 : qI k 630 78 = nI 0 := (Y.I rfl).trans G'.1
    refine b280_192 (Y.sh.ok rfl) (fun _ => b280_203 (b280_204 (fun c => absurd rfl c) (fun _ => b280_209 (b280_244 (done k _ _ nsn rfl s0 Y G' ?_))))) (fun c => ?_)
    · show c + g.length ≤ s.1
      omega
    · rw [e78] at c
      exact absurd (nI_le (Nat.le_refl 0) (by decide)) c
  | succ o ih =>
    intro g w0 c s k0 k Y F hs bad sign done
    refine s280_a Y F hs bad sign ?_
    intro s0 nsn
    obtain ⟨G, hg, hw, hc, h8⟩ := hs s0
    have e12 := Y.e12
    have le := Y.le
    have l2 := p_sg_2 hg
    have l3 := p_sh_3 _ _ hw
    have ll : (g ++ w0).length = g.length + w0.length := List.length_append
    have G' := G.s1 hg (p_sh_top hw) (by omega)
    obtain ⟨g1, w1, hg1, hw1, rfl⟩ := hw
    refine b280_187 (s279 (n := (g ++ 16 :: (g1 ++ w1)).length) (c := 1300 + c) Y G.1 (by omega) G.2.2.1 (by omega)) (by decide) ?_
    intro k Y
    have tw : p_sw 1 k0 = p_se 1 (g ++ 16 :: (g1 ++ w1)).length k0 := by
      unfold p_sw
      rw [G.1, nI_clamp (by omega)]
    rw [← tw] at Y G'
    have e78 : qI k 630 78 = nI ((g1 ++ w1).length + 1) := (Y.I rfl).trans G'.1
    have lw : (16 :: (g1 ++ w1)).length = (g1 ++ w1).length + 1 := rfl
    refine b280_192 (Y.sh.ok rfl) (fun c => ?_) (fun _ => b280_199 (b280_204 (fun _ => ?_) (fun c => absurd c (by decide))))
    · rw [e78] at c
      exact absurd c (nI_nle (by omega) (by omega))
    refine b280_212 (s253 (c := 35) Y (by decide) rfl) (by decide) ?_
    intro k Y
    have G2 := G'.cl
    have Y2 : p_y K P X U e (p_po (p_sw 1 k0)) (q_sI (q_sI k 630 78 (qI k 630 78 - 1)) 630 12 (qI (q_sI k 630 78 (qI k 630 78 - 1)) 630 12 - 1)) (y_nd K 35 s) := by
      have a := (Y.sI (j := 78) (v := qI k 630 78 - 1) rfl).sI (j := 12) (v := qI (q_sI k 630 78 (qI k 630 78 - 1)) 630 12 - 1) rfl
      have b1 : qI k 630 78 = qI (p_sw 1 k0) 630 78 := Y.I rfl
      have b2 : qI (q_sI k 630 78 (qI k 630 78 - 1)) 630 12 = qI (p_sw 1 k0) 630 12 := by rw [q_sI_n (by omega)]; exact Y.I rfl
      have b3 : p_po (p_sw 1 k0) = q_sI (q_sI (p_sw 1 k0) 630 78 (qI k 630 78 - 1)) 630 12 (qI (q_sI k 630 78 (qI k 630 78 - 1)) 630 12 - 1) := by rw [b2, b1]; rfl
      rw [b3]
      exact a
    refine b280_218 (Y.sh.ok rfl) ?_
    by_cases c5 : y_is K 35 s = true
    · have e1 : y_cl K (o + 1) s = y_cl K o (y_ps s) := by
        show (if _ then _ else _) = _
        rw [if_pos c5]
      have e2 : p_cl K (o + 1) s k0 = p_cl K o (y_ps s) (p_po (p_sw 1 k0)) := by
        show (if _ then _ else _) = _
        rw [if_pos c5]
      have e3 : y_go K (o + 1) s = y_go K o (y_ps s) := by
        unfold y_go
        rw [e1]
      have e4 : y_nd K 35 s = y_ps s := by
        unfold y_nd
        rw [if_pos c5]
      rw [e3] at bad
      rw [e1, e2, e3] at sign
      rw [e1, e2] at done
      rw [e4] at Y2
      refine ih g1 w1 (c + g.length) (y_ps s) _ _ Y2 G2.2.2.2.2.2 (fun h9 => ⟨G2, hg1, hw1, ?_, by omega⟩) bad sign done
      have := y_ps_1 (y_to.rf (s := s)) h9
      omega
    · have e1 : y_cl K (o + 1) s = (o + 1, s) := by
        show (if _ then _ else _) = _
        rw [if_neg c5]
      have e3 : y_go K (o + 1) s = y_nd K 35 s := by
        unfold y_go y_nd
        rw [e1, if_neg c5]
        show (if y_sn K s = true then _ else if 0 < o + 1 then _ else _) = _
        rw [if_neg nsn, if_pos (Nat.succ_pos o)]
      have f1 : ¬ (y_nd K 35 s).2 = 0 := by
        unfold y_nd y_fl
        rw [if_neg c5, if_pos s0]
        exact show ¬ (1 : Nat) = 0 by decide
      rw [e3] at bad
      refine b280_110 (fun c => absurd c (by decide)) (fun _ => b280_115 (Y2.sh.ok rfl) (fun _ => b280_244 (bad _ _ _ Y2 f1 G2.2.2.2.2.2)) (fun c => absurd (Y2.z.mp c) f1))
end PU
