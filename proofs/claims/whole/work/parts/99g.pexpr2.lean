/-! THE PARSE OF THE REFERENCE: a sum from its first token to its last -/
section PU
variable {K P X : Nat → Nat} {U : Nat → Int64} {e : Nat} {k0 k : q_Hp} {s : y_S}
theorem p_G.mk {kb k : q_Hp} {f : Bool} {L o c : Nat} {w : List Nat} (G : p_G kb L o w c k) (hw : w.length < 40) : p_G kb L o ((if f = true ∧ y_is K 32 s = true then [3] else []) ++ w) c (p_mk K f s k) := by
  unfold p_mk
  split
  · exact p_G.pu (x := 3) G hw
  · exact G
theorem s280_9 {kb : q_Hp} {Q : Option Value → q_Hp → Prop} {L : Nat} {set : Bool} (hL : L ≤ 40) : ∀ m f o g w0 c s k0 k x4, (s.2 = 0 → 1202 ≤ m + s.1) → p_y K P X U e k0 k s → p_fr kb k0 → (s.2 = 0 → p_G kb L o (g ++ w0) c k0 ∧ p_sg g ∧ (f = true → g = []) ∧ p_sh o w0 ∧ c + (g ++ w0).length ≤ s.1 ∧ o ≤ 8) → (∀ k1 k, p_y K P X U e k1 k (y_su K m f o s) → p_fr kb k1 → ((y_su K m f o s).2 = 0 → k1 = p_su K P X U set L m f o s k0 ∧ ∃ c', p_G kb L 0 [] c' k1 ∧ c' ≤ (y_su K m f o s).1) → Q none k) → q_wp 4 280 9 [some (.ref 630), some (.int (b2i set)), some (.int (b2i f)), some (.int 1), x4] [] k Q := by
  intro m
  induction m with
  | zero =>
    intro f o g w0 c s k0 k x4 hm Y F hs fin
    have e12 := Y.e12
    have le := Y.le
    refine b280_9 (fun c => absurd c (by decide)) (fun _ => b280_13 (Y.sh.ok rfl) (fun c => b280_247 (fin k0 k Y F (fun h9 => absurd (Y.z.mpr h9) c))) (fun c => ?_))
    have := hm (Y.z.mp c)
    omega
  | succ m ih =>
    intro f o g w0 c s k0 k x4 hm Y F hs fin
    have e12 := Y.e12
    have le := Y.le
    refine b280_9 (fun c => absurd c (by decide)) (fun _ => b280_13 (Y.sh.ok rfl) (fun c => ?_) (fun cz => ?_))
    · have h0 : ¬ s.2 = 0 := fun h9 => c (Y.z.mpr h9)
      have h1 : y_su K (m + 1) f o s = s := by
        unfold y_su
        rw [if_neg h0]
      rw [h1] at fin
      exact b280_247 (fin k0 k Y F (fun h9 => absurd h9 h0))
    have s0 := Y.z.mp cz
    have eS1 : y_is K 34 (y_mi K f s) = true → y_su K (m + 1) f o s = y_su K m true (o + 1) (y_ps (y_rm (decide (o < 8)) (y_mi K f s))) := by
      intro h
      show (if _ then (if _ then _ else _) else _) = _
      rw [if_pos s0, if_pos h]
    have eS2 : ¬ y_is K 34 (y_mi K f s) = true → y_su K (m + 1) f o s = if y_sn K (y_cl K o (y_un K (y_mi K f s))).2 = true then y_su K m false (y_cl K o (y_un K (y_mi K f s))).1 (y_ps (y_cl K o (y_un K (y_mi K f s))).2) else y_go K o (y_un K (y_mi K f s)) := by
      intro h
      show (if _ then (if _ then _ else _) else _) = _
      rw [if_pos s0, if_neg h]
      unfold y_go
      by_cases h9 : y_sn K (y_cl K o (y_un K (y_mi K f s))).2 = true
      · rw [if_pos h9, if_pos h9]
      · rw [if_neg h9, if_neg h9, if_neg h9]
    have eP1 : y_is K 34 (y_mi K f s) = true → p_su K P X U set L (m + 1) f o s k0 = p_su K P X U set L m true (o + 1) (y_ps (y_rm (decide (o < 8)) (y_mi K f s))) (p_pu 16 (p_op (p_mk K f s k0) o (y_mi K f s))) := by
      intro h
      show (if _ then _ else _) = _
      rw [if_pos h]
    have eP2 : ¬ y_is K 34 (y_mi K f s) = true → p_su K P X U set L (m + 1) f o s k0 = if y_sn K (y_cl K o (y_un K (y_mi K f s))).2 = true then p_su K P X U set L m false (y_cl K o (y_un K (y_mi K f s))).1 (y_ps (y_cl K o (y_un K (y_mi K f s))).2) (p_sp K (y_cl K o (y_un K (y_mi K f s))).2 (p_cl K o (y_un K (y_mi K f s)) (p_un K P X U set L (y_mi K f s) (p_mk K f s k0)))) else p_sw 1 (p_cl K o (y_un K (y_mi K f s)) (p_un K P X U set L (y_mi K f s) (p_mk K f s k0))) := by
      intro h
      show (if _ then _ else _) = _
      rw [if_neg h]
    have hm := hm s0
    obtain ⟨G, hg, hf, hw, hc, h8⟩ := hs s0
    have l3 := p_sh_3 _ _ hw
    have l2 := p_sg_2 hg
    have ll : (g ++ w0).length = g.length + w0.length := List.length_append
    have g57 : ∀ k, p_y K P X U e (p_mk K f s k0) k (y_mi K f s) → q_wp 4 280 57 [some (.ref 630), some (.int (b2i set)), some (.int (b2i f)), some (.int 1), x4] [] k Q := by
      intro k Y
      have t1 : y_to s (y_mi K f s) := y_to.rf.mi
      have Gm := p_G.mk (K := K) (f := f) (s := s) G (by omega)
      obtain ⟨g1, hg1, hg2, hl1⟩ : ∃ g1, (if f = true ∧ y_is K 32 s = true then [3] else []) ++ (g ++ w0) = g1 ++ w0 ∧ p_sg g1 ∧ ((y_mi K f s).2 = 0 → c + (g1 ++ w0).length ≤ (y_mi K f s).1) := by
        by_cases h : f = true ∧ y_is K 32 s = true
        · rw [if_pos h, hf h.1]
          refine ⟨[3], rfl, Or.inr (Or.inr ⟨3, Or.inl rfl, Or.inl rfl⟩), fun h9 => ?_⟩
          have e1 : y_mi K f s = y_ps s := by
            unfold y_mi
            rw [if_pos h]
          rw [e1] at h9 ⊢
          have := y_ps_1 (y_to.rf (s := s)) h9
          show c + (w0.length + 1) ≤ _
          omega
        · rw [if_neg h]
          refine ⟨g, rfl, hg, fun _ => ?_⟩
          have := t1.1
          omega
      rw [hg1] at Gm
      have lg1 := p_sg_2 hg2
      have ll1 : (g1 ++ w0).length = g1.length + w0.length := List.length_append
      have F1 := Gm.2.2.2.2.2
      generalize p_mk K f s k0 = km at *
      generalize y_mi K f s = s1 at *
      refine b280_57 (s249 (c := 34) Y (by decide) rfl) (by decide) ?_
      rintro z h2 ⟨e0, rfl⟩
      subst h2
      refine b280_65 (fun c1 => ?_) (fun c1 => ?_)
      rotate_left 1
      · have c1 := b2i_ne.mp c1
        rw [eS1 c1, eP1 c1] at fin
        refine b280_68 (s254 (o := o) Y (fun _ => Gm.2.2.2.1) h8) (by decide) ?_
        intro k Y
        refine b280_72 (s252 Y (y_rm_lt (y_is_lt (by decide) c1))) (by decide) ?_
        intro k Y
        have h78 : qI (p_op km o s1) 630 78 = nI (g1 ++ w0).length := by
          unfold p_op
          split
          · rw [q_sI_n (by omega)]; exact Gm.1
          · exact Gm.1
        have ek : qI k 630 78 = qI (p_op km o s1) 630 78 := Y.I rfl
        have Y2 : p_y K P X U e (p_pu 16 (p_op km o s1)) (q_sI (q_sA k 685 ((qI k 630 78 : Int32).toNatClampNeg) 16) 630 78 ((qI k 630 78) + 1)) (y_ps (y_rm (decide (o < 8)) s1)) := by
          rw [ek]
          exact (Y.sA rfl).sI rfl
        refine b280_76 (v0 := 685) (Y.sh.ok rfl) (Y.sh.ref rfl) (Y.sh.ok rfl) (by rw [ek, h78]; exact Y.sh.inN (n := 40) rfl (by omega) (by decide)) ?_
        refine ih true (o + 1) [] (16 :: (g1 ++ w0)) c _ _ _ _ (fun h9 => ?_) Y2 F1.op.pu (fun h9 => ?_) fin
        · have := y_ps_1 (y_to.rm (b := decide (o < 8)) t1) h9
          omega
        · have r1 := (y_to.ps (y_to.rf (s := y_rm (decide (o < 8)) s1))).2.1 h9
          have o8 : o < 8 := by
            rcases Nat.lt_or_ge o 8 with h | h
            · exact h
            · exfalso
              rw [decide_eq_false (by omega)] at r1
              unfold y_rm y_fl at r1
              rw [if_neg (by decide), if_pos (y_is_c.mp c1).1] at r1
              exact absurd r1 (show ¬ (2 : Nat) = 0 by decide)
          have z1 := (y_is_c.mp c1).1
          have G2 := p_G.pu (x := 16) (Gm.op (s := s1) z1 o8) (by omega)
          refine ⟨G2, Or.inl rfl, fun _ => rfl, ⟨g1, w0, hg2, hw, rfl⟩, ?_, by omega⟩
          have := hl1 z1
          have h10 := y_ps_1 (y_to.rm (b := decide (o < 8)) (y_to.rf (s := s1))) h9
          show c + ((g1 ++ w0).length + 1) ≤ _
          omega
      have c1 : ¬ y_is K 34 s1 = true := by
        rw [b2i_eq.mp c1]
        decide
      have eS := eS2 c1
      have eP := eP2 c1
      clear eS1 eS2 eP1 eP2
      have eF : ¬ (y_go K o (y_un K s1)).2 = 0 → y_su K (m + 1) f o s = y_go K o (y_un K s1) := by
        intro h
        rw [eS]
        by_cases sn : y_sn K (y_cl K o (y_un K s1)).2 = true
        · have e1 : y_go K o (y_un K s1) = y_ps (y_cl K o (y_un K s1)).2 := by
            unfold y_go
            rw [if_pos sn]
          rw [e1] at h ⊢
          rw [if_pos sn]
          exact (y_to.su _ _ _ _ _ y_to.rf).2.2 h
        · rw [if_neg sn]
      refine b280_102 (s282 (L := L) (c := 1300 + c) Y Gm.2.2.2.2.1 hL Gm.2.2.1 (by omega) (Nat.le_add_right _ _)) (by decide) ?_
      rintro k ⟨k2, Y, F2, e2⟩
      have F2 := F1.trans F2
      have t2 : y_to s1 (y_un K s1) := y_to.rf.un
      refine b280_107 (s280_110 (kb := kb) (L := L) o g1 w0 (c + 1) (y_un K s1) k2 k Y F2 (fun h9 => ?_) (fun k1 k x4 Y h F => ?_) (fun k x4 g' w' c' sn h Y G' hg' hw' hc' => ?_) (fun k x4 c' sn o0 h Y G' hc' => ?_))
      · rw [e2 h9]
        refine ⟨Gm.un (by omega), hg2, hw, ?_, h8⟩
        have := y_un_1 h9
        have := hl1 (t2.2.1 h9)
        omega
      · rw [eF h] at fin
        exact b280_9 (fun c => absurd c (by decide)) (fun _ => b280_13 (Y.sh.ok rfl) (fun _ => b280_247 (fin k1 k Y F (fun h9 => absurd h9 h))) (fun c => absurd (Y.z.mp c) h))
      · have e1 : y_go K o (y_un K s1) = y_ps (y_cl K o (y_un K s1)).2 := by
          unfold y_go
          rw [if_pos sn]
        have p1 := y_un_1 (K := K) (s := s1)
        have tc := y_to.cl (K := K) o _ _ (y_to.rf (s := y_un K s1))
        have lc := y_cl_le (K := K) o (y_un K s1)
        rw [e1] at h Y hc'
        rw [eS, eP, if_pos sn, if_pos sn] at fin
        have z2 := (y_to.ps (y_to.rf (s := (y_cl K o (y_un K s1)).2))).2.1 h
        have z3 := tc.2.1 z2
        rw [e2 z3] at Y G'
        refine ih false (y_cl K o (y_un K s1)).1 g' w' c' _ _ k _ (fun _ => ?_) Y G'.2.2.2.2.2 (fun _ => ⟨G', hg', fun h9 => (by cases h9), hw', hc', by omega⟩) fin
        have := y_ps_1 tc h
        have := p1 z3
        have := t1.1
        omega
      · have tc := y_to.cl (K := K) o _ _ (y_to.rf (s := y_un K s1))
        have z3 := tc.2.1 h
        have e1 : y_go K o (y_un K s1) = (y_cl K o (y_un K s1)).2 := by
          unfold y_go
          rw [if_neg sn, o0, if_neg (by decide)]
        rw [eS, eP, if_neg sn, if_neg sn, e1] at fin
        rw [e2 z3] at Y G'
        exact b280_9 (fun _ => b280_247 (fin _ k Y G'.2.2.2.2.2 (fun _ => ⟨rfl, c', G', hc'⟩))) (fun c => absurd rfl c)
    refine b280_20 (fun c => g57 _ ?_) (fun c => b280_24 (s249 (c := 32) Y (by decide) rfl) (by decide) ?_)
    · have hf : ¬ (f = true ∧ y_is K 32 s = true) := fun h9 => by rw [b2i_eq.mp c] at h9; exact absurd h9.1 (by decide)
      unfold p_mk y_mi
      rw [if_neg hf, if_neg hf]
      exact Y
    rintro z h2 ⟨e0, rfl⟩
    subst h2
    refine b280_30 (fun c1 => g57 _ ?_) (fun c1 => ?_)
    · have hf : ¬ (f = true ∧ y_is K 32 s = true) := fun h9 => by rw [b2i_eq.mp c1] at h9; exact absurd h9.2 (by decide)
      unfold p_mk y_mi
      rw [if_neg hf, if_neg hf]
      exact Y
    · have hf : f = true ∧ y_is K 32 s = true := ⟨b2i_ne.mp c, b2i_ne.mp c1⟩
      have ek : qI k 630 78 = qI k0 630 78 := Y.I rfl
      refine b280_33 (v0 := 685) (Y.sh.ok rfl) (Y.sh.ref rfl) (Y.sh.ok rfl) (by rw [ek, G.1]; exact Y.sh.inN (n := 40) rfl (by omega) (by decide)) (m := 1) (P := fun k' => p_y K P X U e (p_pu 3 k0) k' (y_ps s)) ?_ (by decide) (fun k Y => g57 _ ?_)
      · rw [ek]
        exact s252 ((Y.sA rfl).sI rfl) (y_is_lt (by decide) hf.2)
      · unfold p_mk y_mi
        rw [if_pos hf, if_pos hf]
        exact Y
theorem p_ex_G {kb : q_Hp} {L o c : Nat} (h22 : qI k0 630 22 = nI (1300 + c)) (h12 : qI k0 630 12 = nI o) (h68 : qI k0 630 68 = nI L) (F : p_fr kb k0) : p_G kb L o [] c (q_sI k0 630 78 0) := ⟨q_sI_e, trivial, by rw [q_sI_n (by omega)]; exact h22, by rw [q_sI_n (by omega)]; exact h12, by rw [q_sI_n (by omega)]; exact h68, F.sI rfl⟩
theorem s280 {L c : Nat} {set : Bool} (Y : p_y K P X U e k0 k s) (h22 : s.2 = 0 → qI k0 630 22 = nI (1300 + c)) (h12 : s.2 = 0 → qI k0 630 12 = nI 0) (h68 : s.2 = 0 → qI k0 630 68 = nI L) (hL : L ≤ 40) (hc : s.2 = 0 → c ≤ s.1) : q_mV 4 280 [.ref 630, .int (b2i set)] k (fun k' => ∃ k1, p_y K P X U e k1 k' (y_E K s) ∧ p_fr k0 k1 ∧ ((y_E K s).2 = 0 → k1 = p_ex K P X U set L s k0 ∧ ∃ c', p_G k0 L 0 [] c' k1 ∧ c' ≤ (y_E K s).1)) := by
  refine q_mV.of (q_recV rfl (Y.sh.ok rfl)) (fun Q fin => ?_)
  refine b280_0 (Y.sh.ok rfl) ?_
  refine s280_9 (kb := k0) (L := L) (set := set) hL 1202 true 0 [] [] c s (q_sI k0 630 78 0) _ _ (fun _ => by omega) (Y.sI rfl) (p_fr.rf.sI rfl) (fun h9 => ⟨p_ex_G (h22 h9) (h12 h9) (h68 h9) p_fr.rf, Or.inl rfl, fun _ => rfl, rfl, ?_, by decide⟩) (fun k1 k Y F h => fin _ ⟨k1, Y, F, h⟩)
  show c + 0 ≤ s.1
  exact hc h9
end PU
