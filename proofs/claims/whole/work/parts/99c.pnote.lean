/-! THE PARSE OF THE REFERENCE: a NOT from its first word to its last -/
section PX
variable {K P X : Nat → Nat} {U : Nat → Int64} {e : Nat} {k0 k : q_Hp} {s : y_S}
theorem y_nd_f {K : Nat → Nat} {c : Nat} {s : y_S} (h : ¬ s.2 = 0) : y_nd K c s = s := (y_to.nd (y_to.rf (s := s))).2.2 h
theorem s269 {nt ns r c a : Nat} {v : Int32} (Y : p_y K P X U e k0 k s) (hk : s.2 = 0 → K s.1 < 42) (hr : r < 20) (hn : qA k0 648 (20 + r) = nI c) (h2 : c ≤ 2) (ht : qI k0 630 18 = nI nt) (ht12 : nt ≤ 12) (hns : qI k0 630 19 = nI ns) (hs12 : ns ≤ 12) (hL : qI k0 630 68 = nI a) (ha : a ≤ 35) (hv : v = nI (20 + r)) : q_mV 3 269 [.ref 630, .int v] k (fun k' => p_out K P X U e k0 k' (y_n1 K c s) (p_n1 K P U nt ns r c a s k0)) := by
  subst hv
  refine q_mV.of (q_recV rfl (Y.sh.ok rfl)) (fun Q fin => ?_)
  have cl : (nI (20 + r) : Int32).toNatClampNeg = 20 + r := nI_clamp (by omega)
  have e48 : qA k 648 ((nI (20 + r) : Int32).toNatClampNeg) = nI c := by rw [cl, Y.A (by decide)]; exact hn
  have g15 : ∀ k, p_y K P X U e k0 k (y_rm (decide (c < 2)) s) → q_wp 3 269 15 [some (.ref 630), some (.int (nI (20 + r))), none, none, none, none, none, none, none, none, none] [] k Q := by
    intro k Y
    refine b269_15 (s252 Y (y_rm_lt hk)) (by decide) ?_
    intro k Y
    have e48 : qA k 648 ((nI (20 + r) : Int32).toNatClampNeg) = nI c := by rw [cl, Y.A (by decide)]; exact hn
    have e68 : qI k 630 68 = nI a := (Y.I rfl).trans hL
    have i1 : (2 : Int32) * nI (20 + r) + nI c = nI (2 * (20 + r) + c) := p_ix4 (m := 2)
    refine b269_19 (v0 := 648) (Y.sh.ok rfl) (Y.sh.ref rfl) (Y.sh.ok rfl) (Y.sh.inN (n := 40) rfl (by omega) (by decide)) (fun z => ?_) (fun z => b269_42 (fin _ ⟨k0, ?_, p_fr.rf, fun h9 => ?_⟩))
    · have z0 := Y.z1.mp z
      obtain ⟨r0, r1⟩ := y_ps_0 z0
      have r2 : y_rm (decide (c < 2)) s = s ∧ c < 2 := by
        unfold y_rm at r0 ⊢
        by_cases h9 : c < 2
        · rw [decide_eq_true h9, if_pos rfl]
          exact ⟨rfl, h9⟩
        · rw [decide_eq_false h9, if_neg (by decide)] at r0
          exfalso
          unfold y_fl at r0
          split at r0
          · exact absurd r0 (show ¬ (2 : Nat) = 0 by decide)
          · next h8 => exact h8 r0
      obtain ⟨r2, c2⟩ := r2
      rw [r2] at r1
      have es : y_n1 K c s = y_nd K 5 (y_le K 1 3 false 1201 0 0 (s.1 + 1, 0)) := by
        unfold y_n1
        rw [r2, r1]
      rw [r2, r1] at Y
      rw [e48, e68, i1]
      have c2' : (nI (2 * (20 + r) + c) : Int32).toNatClampNeg = 2 * (20 + r) + c := nI_clamp (by omega)
      refine b269_43 (v0 := 648) (v1 := 649) (v2 := 650) (Y.sh.ok rfl) (Y.sh.ref rfl) (Y.sh.ok rfl) (Y.sh.inN (n := 40) rfl (by omega) (by decide)) (Y.sh.ref rfl) (Y.sh.ok rfl) (Y.sh.inN (n := 80) rfl (by omega) (by decide)) (Y.sh.ref rfl) (Y.sh.ok rfl) (Y.sh.inN (n := 80) rfl (by omega) (by decide)) ?_
      rw [e48, cl, c2', nI_1]
      have Y1 : p_y K P X U e (p_n0 r c k0) _ (s.1 + 1, 0) := ((Y.sA (a := 648) (i := 20 + r) (v := nI (c + 1)) rfl).sA (a := 649) (i := 2 * (20 + r) + c) (v := -1) rfl).sA (a := 650) (i := 2 * (20 + r) + c) (v := 0) rfl
      have F : p_fr k0 (p_n0 r c k0) := ((p_fr.rf.sA rfl (Nat.le_add_right 20 r)).sA rfl (show 40 ≤ 2 * (20 + r) + c by omega)).sA rfl (show 40 ≤ 2 * (20 + r) + c by omega)
      refine s269_70 (kb := k0) (q := 2 * (20 + r) + c) (nt := nt) (ns := ns) (a := a) (by omega) (by omega) ht12 hs12 ha 1201 0 0 (s.1 + 1, 0) (p_n0 r c k0) _ none none none none none none rfl (Nat.le_add_right _ _) (by decide) (by decide) ?_ ht hns hL Y1 F (fun k1 k Y h F => fin _ ⟨k1, ?_, F, fun h9 => ?_⟩) (fun n1 k l5 l6 l7 l8 l9 l10 Y h => ?_)
      · unfold p_n0
        rw [qA_sA, if_pos ⟨rfl, rfl⟩]
        rfl
      · rw [es, y_nd_f h]
        exact Y
      · rw [es, y_nd_f h] at h9
        exact absurd h9 h
      · refine b269_345 (s253 (c := 5) Y (by decide) rfl) (by decide) ?_
        intro k Y
        refine b269_351 (Y.sh.ok rfl) (fin _ ⟨_, ?_, (p_nl_fr (show 40 ≤ 2 * (20 + r) + c by omega) 1201 0 0 (s.1 + 1, 0) _ F).sI rfl, fun _ => rfl⟩)
        rw [es]
        exact Y.sI rfl
    · have z0 : ¬ (y_ps (y_rm (decide (c < 2)) s)).2 = 0 := fun h9 => z (Y.z1.mpr h9)
      unfold y_n1
      rw [y_le_f z0, y_nd_f z0]
      exact Y
    · have z0 : ¬ (y_ps (y_rm (decide (c < 2)) s)).2 = 0 := fun h9 => z (Y.z1.mpr h9)
      unfold y_n1 at h9
      rw [y_le_f z0, y_nd_f z0] at h9
      exact absurd h9 z0
  refine b269_0 (v0 := 648) (Y.sh.ok rfl) (Y.sh.ref rfl) (Y.sh.ok rfl) (Y.sh.inN (n := 40) rfl (by omega) (by decide)) (fun c1 => g15 _ ?_) (fun c1 => b269_10 (s250 (f := 2) Y (by decide) (by decide) rfl) (by decide) (fun k Y => g15 _ ?_))
  · rw [e48] at c1
    rw [decide_eq_true (show c < 2 by have : ¬ c = 2 := fun h9 => c1 (by rw [h9]; rfl); omega)]
    exact Y
  · rw [e48] at c1
    rw [decide_eq_false (show ¬ c < 2 by have := (nI_eq (b := 2) (by omega) (by decide)).mp c1; omega)]
    exact Y
end PX
