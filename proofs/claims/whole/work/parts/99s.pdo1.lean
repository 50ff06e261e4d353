/-! THE PARSE OF THE REFERENCE: a do, an all, a call, an any, a fail -/
def p_dc (K : Nat → Nat) (s : y_S) (k : q_Hp) : q_Hp := p_co (qI k 630 23) (p_nm (s.1 + 1) (qI k 630 23) (p_nD (if K s.1 = 15 then 0 else if K s.1 = 16 then 1 else 3) k))
def p_fa (k : q_Hp) : q_Hp := p_co (qI k 630 23) (p_nD 4 k)
def p_a1 (last : Int32) (D0 i : Nat) (k : q_Hp) : q_Hp := if last = -1 then q_sA (p_nm i (qI k 630 23) (p_nD 0 k)) 671 (3 * D0) (qI k 630 23) else q_sA (p_nm i (qI k 630 23) (p_nD 0 k)) 672 last.toNatClampNeg (qI k 630 23)
def p_av (K : Nat → Nat) : Nat → Int32 → Nat → y_S → q_Hp → q_Hp
  | 0, last, D0, s, k => p_a1 last D0 s.1 k
  | m + 1, last, D0, s, k => if y_is K 28 (y_nd K 40 s) = true then p_av K m (qI k 630 23) D0 (y_ps (y_nd K 40 s)) (p_a1 last D0 s.1 k) else p_a1 last D0 s.1 k
def p_an (K : Nat → Nat) (s : y_S) (k : q_Hp) : q_Hp := p_co (qI k 630 23) (p_av K 1201 (-1) (qI k 630 23 : Int32).toNatClampNeg (y_ps s) (p_nD 2 k))
section PO
variable {K P X : Nat → Nat} {U : Nat → Int64} {e : Nat} {k0 k : q_Hp} {s : y_S}
theorem p_sk.c {np d : Nat} {k' : q_Hp} (H : p_sk k0 np d) (h1 : ∀ j, j = 80 ∨ j = 21 → qI k' 630 j = qI k0 630 j) (h2 : ∀ a, a = 686 ∨ a = 687 ∨ a = 688 → qA k' a = qA k0 a) : p_sk k' np d := by
  unfold p_sk
  rw [h1 80 (by omega), h1 21 (by omega), h2 686 (by omega), h2 687 (by omega), h2 688 (by omega)]
  exact H
theorem p_sk.nD {np d : Nat} {w : Int32} (H : p_sk k0 np d) : p_sk (p_nD w k0) np d := H.c (fun j h => p_nD_I (by omega)) (fun a h => p_nD_A (by omega))
theorem p_sk.kn {np d : Nat} {k' : q_Hp} (H : p_sk k0 np d) (N : p_kn k0 k') : p_sk k' np d := H.c (fun j h => N.2.1 j (by omega)) (fun a h => N.1 a (by omega) (by omega))
theorem s287_in {Q : Option Value → q_Hp → Prop} (Y : p_y K P X U e k0 k s) (hs : s.2 = 0) (w : q_wp 4 287 20 [some (.ref 630), none, none, none, none] [.int (nI (t_ph (K s.1)))] k Q) : q_wp 4 287 0 [some (.ref 630), none, none, none, none] [] k Q := by
  refine b287_0 (Y.sh.ok rfl) (fun _ => ?_) (fun c => absurd (Y.z1.mpr hs) c)
  have et := Y.t0 hs
  have le := Y.le
  have e12 := Y.e12
  have ev : qA k 633 ((qI k 630 11 : Int32).toNatClampNeg) = nI (t_ph (K s.1)) := by rw [et, nI_clamp (by omega)]; exact (Y.tk le).2.2.1
  refine b287_11 (v0 := 633) (Y.sh.ok rfl) (Y.sh.ref rfl) (Y.sh.ok rfl) (by rw [et]; exact Y.sh.inN (n := 1203) rfl (by omega) (by decide)) ?_
  rw [ev]
  exact w
theorem y_dc_c (h : y_dc K s = true) : s.2 = 0 ∧ (K s.1 = 15 ∨ K s.1 = 16 ∨ K s.1 = 18) := by
  unfold y_dc at h
  simp only [Bool.or_eq_true, y_is_c] at h
  rcases h with h | h | h
  · exact ⟨h.1, Or.inl h.2⟩
  · exact ⟨h.1, Or.inr (Or.inl h.2)⟩
  · exact ⟨h.1, Or.inr (Or.inr h.2)⟩
theorem s287_20 {Q : Option Value → q_Hp → Prop} {a b : Nat} (hb : (a, b) ∈ [(35, 100), (36, 100), (38, 100), (37, 153), (39, 250), (40, 270), (41, 270), (42, 270), (43, 427), (44, 427), (29, 517)]) (w : q_wp 4 287 b [some (.ref 630), none, none, none, none] [] k Q) : q_wp 4 287 20 [some (.ref 630), none, none, none, none] [.int (nI a)] k Q := by
  simp only [List.mem_cons, Prod.mk.injEq, List.not_mem_nil, or_false] at hb
  have no : ∀ {x : Int32} {R : Prop}, nI a = x → (¬ nI a = x) → R := fun h1 h2 => absurd h1 h2
  rcases hb with ⟨rfl, rfl⟩ | ⟨rfl, rfl⟩ | ⟨rfl, rfl⟩ | ⟨rfl, rfl⟩ | ⟨rfl, rfl⟩ | ⟨rfl, rfl⟩ | ⟨rfl, rfl⟩ | ⟨rfl, rfl⟩ | ⟨rfl, rfl⟩ | ⟨rfl, rfl⟩ | ⟨rfl, rfl⟩
  all_goals
    refine b287_20 (fun c => ?_) (fun c => ?_) (fun c => ?_) (fun c => ?_) (fun c => ?_) (fun c => ?_) (fun c => ?_) (fun c => ?_) (fun c => ?_) (fun c => ?_) (fun c => ?_) (fun c => ?_) (fun c => ?_) (fun c => ?_) (fun c => ?_) (fun c => ?_) (fun c => ?_)
    all_goals first
      | exact w
      | exact absurd c (by decide)
theorem s287_dc {np d D C : Nat} (Y : p_y K P X U e k0 k s) (hc : y_dc K s = true) (H : p_sk k0 np d) (hD : qI k0 630 23 = nI D) (h13 : 1300 ≤ D) (h26 : D < 2600) (hC : qI k0 630 84 = nI C) (hC2 : C < 1300) : q_mI 4 287 [.ref 630] k (fun z k' => z = 1 ∧ ∃ k1, p_y K P X U e k1 k' (y_nd K 26 (y_nd K 40 (y_ps s))) ∧ p_fr k0 k1 ∧ ((y_nd K 26 (y_nd K 40 (y_ps s))).2 = 0 → k1 = p_dc K s k0)) := by
  refine q_mI.of (q_recV rfl (Y.sh.ok rfl)) (fun Q fin => ?_)
  obtain ⟨hs, hK⟩ := y_dc_c hc
  have g128 : ∀ w, w = (if K s.1 = 15 then 0 else if K s.1 = 16 then 1 else 3) → q_wp 4 287 128 [some (.ref 630), none, none, none, none] [.int w, .ref 630] k Q := by
    rintro w rfl
    refine b287_128 (s283 (D := D) Y hD h26) (by decide) ?_
    rintro z k ⟨rfl, Y⟩
    have F1 : p_fr k0 (p_nD (if K s.1 = 15 then 0 else if K s.1 = 16 then 1 else 3) k0) := p_fr.rf.nD hD h26 h13
    have H1 := H.nD (w := if K s.1 = 15 then 0 else if K s.1 = 16 then 1 else 3)
    refine b287_131 (s252 Y (fun _ => by omega)) (by decide) ?_
    intro k Y
    refine b287_136 (s285 (x := nI D) (C := C) Y ((p_nD_I (by decide)).trans hC) hC2) (by decide) ?_
    rintro k ⟨k1, Y, F2, N, h1⟩
    refine b287_141 (s253 (c := 26) Y (by decide) rfl) (by decide) ?_
    intro k Y
    refine b287_146 (s284 (x := nI D) Y (H1.kn N)) (by decide) ?_
    intro k Y
    refine b287_151 (fin _ _ ⟨rfl, _, Y, (F1.trans F2).co (H1.kn N), fun h9 => ?_⟩)
    have h8 := y_nd_z h9
    obtain ⟨p1, p2⟩ := y_ps_0 (y_nd_z h8)
    rw [h1 h8, p2]
    unfold p_dc
    rw [hD]
  have g100 : q_wp 4 287 100 [some (.ref 630), none, none, none, none] [] k Q := by
    refine b287_100 (s249 (c := 15) Y (by decide) rfl) (by decide) ?_
    rintro z h2 ⟨e0, rfl⟩
    subst h2
    refine b287_107 (fun c => b287_114 (s249 (c := 16) Y (by decide) rfl) (by decide) ?_) (fun c => b287_110 (g128 _ ?_))
    · rintro z h2 ⟨e0, rfl⟩
      subst h2
      have n15 : ¬ K s.1 = 15 := fun h9 => by
        have := b2i_eq.mp c
        rw [y_is_c.mpr ⟨hs, h9⟩] at this
        cases this
      refine b287_120 (fun c2 => b287_127 (g128 _ ?_)) (fun c2 => b287_123 (g128 _ ?_))
      · have n16 : ¬ K s.1 = 16 := fun h9 => by
          have := b2i_eq.mp c2
          rw [y_is_c.mpr ⟨hs, h9⟩] at this
          cases this
        rw [if_neg n15, if_neg n16]
      · rw [if_neg n15, if_pos (y_is_c.mp (b2i_ne.mp c2)).2]
    · rw [if_pos (y_is_c.mp (b2i_ne.mp c)).2]
  refine s287_in Y hs ?_
  rcases hK with h | h | h
  · rw [h]
    exact s287_20 (a := 35) (by simp) g100
  · rw [h]
    exact s287_20 (a := 36) (by simp) g100
  · rw [h]
    exact s287_20 (a := 38) (by simp) g100
theorem s287_fa {np d D : Nat} (Y : p_y K P X U e k0 k s) (hc : y_is K 19 s = true) (H : p_sk k0 np d) (hD : qI k0 630 23 = nI D) (h13 : 1300 ≤ D) (h26 : D < 2600) : q_mI 4 287 [.ref 630] k (fun z k' => z = 1 ∧ ∃ k1, p_y K P X U e k1 k' (y_nd K 26 (y_ps s)) ∧ p_fr k0 k1 ∧ ((y_nd K 26 (y_ps s)).2 = 0 → k1 = p_fa k0)) := by
  refine q_mI.of (q_recV rfl (Y.sh.ok rfl)) (fun Q fin => ?_)
  obtain ⟨hs, hK⟩ := y_is_c.mp hc
  refine s287_in Y hs ?_
  rw [hK]
  refine s287_20 (a := 39) (b := 250) (by simp) ?_
  refine b287_250 (s252 Y (fun _ => by omega)) (by decide) ?_
  intro k Y
  refine b287_254 (s253 (c := 26) Y (by decide) rfl) (by decide) ?_
  intro k Y
  refine b287_259 (s283 (D := D) Y hD h26) (by decide) ?_
  rintro z k ⟨rfl, Y⟩
  refine b287_265 (s284 (x := nI D) Y H.nD) (by decide) ?_
  intro k Y
  refine b287_268 (fin _ _ ⟨rfl, _, Y, (p_fr.rf.nD hD h26 h13).co H.nD, fun h9 => ?_⟩)
  unfold p_fa
  rw [hD]
/-- how many dos and names are there -/
def p_DC (D C : Nat) (k : q_Hp) : Prop := qI k 630 23 = nI D ∧ qI k 630 84 = nI C
theorem p_a1_I {last : Int32} {D0 i j : Nat} (h : ¬ j = 23 ∧ ¬ j = 84) : qI (p_a1 last D0 i k0) 630 j = qI k0 630 j := by
  unfold p_a1 p_nm
  split
  · rw [qI_sA, q_sI_n (by omega), qI_sA, qI_sA, p_nD_I h.1]
  · rw [qI_sA, q_sI_n (by omega), qI_sA, qI_sA, p_nD_I h.1]
theorem p_a1_A {last : Int32} {D0 i x : Nat} (h : ¬ x = 669 ∧ ¬ x = 670 ∧ ¬ x = 671 ∧ ¬ x = 672 ∧ ¬ x = 689 ∧ ¬ x = 690) : qA (p_a1 last D0 i k0) x = qA k0 x := by
  unfold p_a1 p_nm
  split
  · rw [qA_sAn h.2.2.1, qA_sI, qA_sAn h.2.2.2.2.2, qA_sAn h.2.2.2.2.1, p_nD_A (by omega)]
  · rw [qA_sAn h.2.2.2.1, qA_sI, qA_sAn h.2.2.2.2.2, qA_sAn h.2.2.2.2.1, p_nD_A (by omega)]
theorem p_a1_DC {last : Int32} {D0 i D C : Nat} (H : p_DC D C k0) : p_DC (D + 1) (C + 1) (p_a1 last D0 i k0) := by
  obtain ⟨h1, h2⟩ := H
  unfold p_a1 p_nm
  have e1 : qI (p_nD 0 k0) 630 84 = nI C := (p_nD_I (by decide)).trans h2
  have e2 : qI (p_nD 0 k0) 630 23 = nI (D + 1) := by rw [p_nD_23, h1, nI_1]
  split
  · refine ⟨?_, ?_⟩
    · rw [qI_sA, q_sI_n (by omega), qI_sA, qI_sA]; exact e2
    · rw [qI_sA, q_sI_e, e1, nI_1]
  · refine ⟨?_, ?_⟩
    · rw [qI_sA, q_sI_n (by omega), qI_sA, qI_sA]; exact e2
    · rw [qI_sA, q_sI_e, e1, nI_1]
theorem p_a1_669 {last : Int32} {D0 i D j : Nat} (hD : qI k0 630 23 = nI D) (h : D < 2600) (hj : j < D) : qA (p_a1 last D0 i k0) 669 j = qA k0 669 j := by
  unfold p_a1 p_nm
  split
  · rw [qA_sAn (by decide), qA_sI, qA_sAn (by decide), qA_sAn (by decide), p_nD_669 hD h, if_neg (by omega)]
  · rw [qA_sAn (by decide), qA_sI, qA_sAn (by decide), qA_sAn (by decide), p_nD_669 hD h, if_neg (by omega)]
theorem s287_167 {kb : q_Hp} {Q : Option Value → q_Hp → Prop} {np d D0 : Nat} (hD0 : 1300 ≤ D0) (hD02 : D0 < 2600) : ∀ m last D C s k0 k l4, (s.2 = 0 → 1201 ≤ m + s.1) → (last = -1 ∨ ∃ j, 1300 ≤ j ∧ j < 2600 ∧ last = nI j) → p_sk k0 np d → p_DC D C k0 → D0 < D → (s.2 = 0 → D ≤ 1300 + s.1 ∧ C ≤ s.1) → p_y K P X U e k0 k s → p_fr kb k0 → (∀ k1 k x2 x3 l4, p_y K P X U e k1 k (y_co K m (y_nd K 40 s)) → p_fr kb k1 → p_sk k1 np d → ((y_co K m (y_nd K 40 s)).2 = 0 → k1 = p_av K m last D0 s k0 ∧ ∃ D' C', p_DC D' C' k1 ∧ D ≤ D' ∧ D' ≤ 1300 + (y_co K m (y_nd K 40 s)).1 ∧ C' ≤ (y_co K m (y_nd K 40 s)).1 ∧ ∀ j, j < D → qA k1 669 j = qA k0 669 j) → q_wp 4 287 238 [some (.ref 630), some (.int (nI D0)), some (.int x2), some (.int x3), l4] [] k Q) → q_wp 4 287 167 [some (.ref 630), some (.int (nI D0)), some (.int last), some (.int 1), l4] [] k Q := by
  intro m
  induction m with
  | zero =>
    intro last D C s k0 k l4 hm hl H HD hDD hb Y F cont
    have hs : ¬ s.2 = 0 := fun h => by
      have := hm h
      have := Y.le
      have := Y.e12
      omega
    refine b287_167 (fun c => absurd c (by decide)) (fun _ => b287_171 (Y.sh.ok rfl) (fun _ => cont k0 k _ _ _ ?_ F H (fun h9 => ?_)) (fun c => absurd (Y.z.mp c) hs))
    · rw [y_nd_f hs]
      exact Y
    · rw [y_nd_f hs] at h9
      exact absurd h9 hs
  | succ m ih =>
    intro last D C s k0 k l4 hm hl H HD hDD hb Y F cont
    refine b287_167 (fun c => absurd c (by decide)) (fun _ => b287_171 (Y.sh.ok rfl) (fun c => cont k0 k _ _ _ ?_ F H (fun h9 => ?_)) (fun c => ?_))
    · have hs : ¬ s.2 = 0 := fun h9 => c (Y.z.mpr h9)
      rw [y_nd_f hs, (y_to.co (K := K) (m + 1) s s y_to.rf).2.2 hs]
      exact Y
    · have hs : ¬ s.2 = 0 := fun h9 => c (Y.z.mpr h9)
      rw [y_nd_f hs, (y_to.co (K := K) (m + 1) s s y_to.rf).2.2 hs] at h9
      exact absurd h9 hs
    have hs := Y.z.mp c
    have hm := hm hs
    obtain ⟨hb1, hb2⟩ := hb hs
    have le := Y.le
    have e12 := Y.e12
    refine b287_178 (s283 (D := D) Y HD.1 (by omega)) (by decide) ?_
    rintro z k ⟨rfl, Y⟩
    have H1 := H.nD (w := 0)
    have F1 : p_fr kb (p_nD 0 k0) := F.nD HD.1 (by omega) (by omega)
    refine b287_183 (s285 (x := nI D) (C := C) Y ((p_nD_I (by decide)).trans HD.2) (by omega)) (by decide) ?_
    rintro k ⟨k1, Y, F2, N, h1⟩
    have Hk := H1.kn N
    unfold y_co p_av at cont
    have e24 : qI k1 630 23 = nI (D + 1) := by rw [N.2.1 23 (by decide), p_nD_23, HD.1, nI_1]
    -- what is behind the row
    have g217 : ∀ k2 k, p_y K P X U e k2 k (y_nd K 40 s) → p_fr kb k2 → p_sk k2 np d → ((y_nd K 40 s).2 = 0 → k2 = p_a1 last D0 s.1 k0) → q_wp 4 287 217 [some (.ref 630), some (.int (nI D0)), some (.int last), some (.int 1), some (.int (nI D))] [] k Q := by
      intro k2 k Y F3 H3 h2
      refine b287_217 (s249 (c := 28) Y (by decide) rfl) (by decide) ?_
      rintro z h3 ⟨e0, rfl⟩
      subst h3
      refine b287_226 (fun c2 => b287_235 ?_) (fun c2 => b287_231 (s252 Y (y_is_lt (by decide) (b2i_ne.mp c2))) (by decide) (fun k Y => b287_235 ?_))
      · have nc := b2i_eq.mp c2
        rw [nc, if_neg (by decide), if_neg (by decide)] at cont
        rw [nc]
        refine b287_167 (fun _ => cont k2 _ _ _ _ Y F3 H3 (fun h9 => ⟨h2 h9, D + 1, C + 1, ?_, by omega, ?_, ?_, ?_⟩)) (fun c => absurd rfl c)
        · rw [h2 h9]
          exact p_a1_DC HD
        · obtain ⟨_, e2⟩ := y_nd_0 h9
          rw [e2]
          show D + 1 ≤ 1300 + (s.1 + 1)
          omega
        · obtain ⟨_, e2⟩ := y_nd_0 h9
          rw [e2]
          show C + 1 ≤ s.1 + 1
          omega
        · intro j hj
          rw [h2 h9]
          exact p_a1_669 HD.1 (by omega) hj
      · have yc := b2i_ne.mp c2
        rw [if_pos yc, if_pos yc] at cont
        obtain ⟨z0, _⟩ := y_is_c.mp yc
        obtain ⟨_, e2⟩ := y_nd_0 z0
        rw [yc]
        have ek := h2 z0
        subst ek
        rw [HD.1] at cont
        have hp : (y_ps (y_nd K 40 s)).2 = 0 → (y_ps (y_nd K 40 s)).1 = s.1 + 2 := fun h9 => by rw [(y_ps_0 h9).2, e2]
        refine ih (nI D) (D + 1) (C + 1) _ _ k _ (fun h9 => by have := hp h9; omega) (Or.inr ⟨D, by omega, by omega, rfl⟩) H3 (p_a1_DC HD) (by omega) (fun h9 => by have := hp h9; omega) Y F3 (fun k3 k x2 x3 l4 Y F4 H4 h4 => cont k3 k x2 x3 l4 ?_ F4 H4 (fun h9 => ?_))
        · exact Y
        · obtain ⟨q1, D', C', q2, q3, q4, q5, q6⟩ := h4 h9
          exact ⟨q1, D', C', q2, by omega, q4, q5, fun j hj => (q6 j (by omega)).trans (p_a1_669 HD.1 (by omega) hj)⟩
    have c3 : (nI (3 * D0) : Int32).toNatClampNeg = 3 * D0 := nI_clamp (by omega)
    refine b287_191 (fun c2 => ?_) (fun c2 => ?_)
    · rcases hl with h9 | ⟨j, hj, hj2, rfl⟩
      · exact absurd h9 c2
      have cj : (nI j : Int32).toNatClampNeg = j := nI_clamp (by omega)
      refine b287_209 (v0 := 672) (Y.sh.ok rfl) (Y.sh.ref rfl) (Y.sh.ok rfl) (Y.sh.inN (n := 2600) rfl hj2 (by decide)) (g217 (q_sA k1 672 j (nI D)) _ ?_ ((F1.trans F2).sA rfl hj) (Hk.c (fun _ _ => rfl) (fun a h => qA_sAn (by omega))) (fun h9 => ?_))
      · rw [cj]
        exact Y.sA rfl
      · unfold p_a1
        rw [if_neg c2, HD.1, cj, h1 h9]
    · subst c2
      have i3 : (3 : Int32) * nI D0 = nI (3 * D0) := pk_mul 3 D0
      refine b287_196 (v0 := 671) (Y.sh.ok rfl) (Y.sh.ref rfl) (Y.sh.ok rfl) (by rw [i3]; exact Y.sh.inN (n := 7800) rfl (by omega) (by decide)) (g217 (q_sA k1 671 (3 * D0) (nI D)) _ ?_ ((F1.trans F2).sA rfl (show 3900 ≤ 3 * D0 by omega)) (Hk.c (fun _ _ => rfl) (fun a h => qA_sAn (by omega))) (fun h9 => ?_))
      · rw [i3, c3]
        exact Y.sA rfl
      · unfold p_a1
        rw [if_pos rfl, HD.1, h1 h9]
theorem s287_an {np d D C : Nat} (Y : p_y K P X U e k0 k s) (hc : y_is K 17 s = true) (H : p_sk k0 np d) (HD : p_DC D C k0) (h13 : 1300 ≤ D) (h26 : D ≤ 1300 + s.1) (hC2 : C ≤ s.1) : q_mI 4 287 [.ref 630] k (fun z k' => z = 1 ∧ ∃ k1, p_y K P X U e k1 k' (y_an K s) ∧ p_fr k0 k1 ∧ ((y_an K s).2 = 0 → k1 = p_an K s k0 ∧ ∃ D' C', p_DC D' C' k1 ∧ D ≤ D' ∧ D' ≤ 1300 + (y_an K s).1 ∧ C' ≤ (y_an K s).1 ∧ ∀ j, j < D → qA k1 669 j = qA k0 669 j)) := by
  refine q_mI.of (q_recV rfl (Y.sh.ok rfl)) (fun Q fin => ?_)
  obtain ⟨hs, hK⟩ := y_is_c.mp hc
  have le := Y.le
  have e12 := Y.e12
  refine s287_in Y hs ?_
  rw [hK]
  refine s287_20 (a := 37) (b := 153) (by simp) ?_
  refine b287_153 (s283 (D := D) Y HD.1 (by omega)) (by decide) ?_
  rintro z k ⟨rfl, Y⟩
  refine b287_158 (s252 Y (fun _ => by omega)) (by decide) ?_
  intro k Y
  refine b287_163 (s287_167 (kb := k0) (np := np) (d := d) h13 (by omega) 1201 (-1) (D + 1) C (y_ps s) (p_nD 2 k0) k none (fun _ => by omega) (Or.inl rfl) H.nD ⟨by rw [p_nD_23, HD.1, nI_1], (p_nD_I (by decide)).trans HD.2⟩ (by omega) (fun h9 => ?_) Y (p_fr.rf.nD HD.1 (by omega) h13) ?_)
  · rw [(y_ps_0 h9).2]
    show D + 1 ≤ 1300 + (s.1 + 1) ∧ C ≤ s.1 + 1
    omega
  intro k1 k x2 x3 l4 Y F H1 h1
  refine b287_238 (s253 (c := 26) Y (by decide) rfl) (by decide) ?_
  intro k Y
  refine b287_243 (s284 (x := nI D) Y H1) (by decide) ?_
  intro k Y
  have Y : p_y K P X U e (p_co (nI D) k1) k (y_an K s) := Y
  refine b287_248 (fin _ _ ⟨rfl, _, Y, F.co H1, fun h9 => ?_⟩)
  have h8 : (y_co K 1201 (y_nd K 40 (y_ps s))).2 = 0 := y_nd_z h9
  obtain ⟨q1, D', C', q2, q3, q4, q5, q6⟩ := h1 h8
  have t5 : (y_co K 1201 (y_nd K 40 (y_ps s))).1 ≤ (y_an K s).1 := (y_to.rf.nd (K := K) (k := 26) (s0 := y_co K 1201 (y_nd K 40 (y_ps s)))).1
  have A1 : ∀ {x}, ¬ x = 671 ∧ ¬ x = 672 ∧ ¬ x = 673 ∧ ¬ x = 688 → qA (p_co (nI D) k1) x = qA k1 x := by
    intro x h
    unfold p_co p_co1
    rw [qA_sAn h.2.2.2]
    split
    · split
      · exact qA_sAn h.2.2.1
      · exact qA_sAn h.1
    · exact qA_sAn h.2.1
  have I1 : qI (p_co (nI D) k1) 630 = qI k1 630 := by
    unfold p_co p_co1
    rw [qI_sA]
    split
    · split <;> rfl
    · rfl
  refine ⟨?_, D', C', ?_, by omega, by omega, by omega, fun j hj => ?_⟩
  · unfold p_an
    rw [HD.1, nI_clamp (by omega), q1]
  · unfold p_DC
    rw [I1]
    exact q2
  · rw [A1 (by decide), q6 j (by omega), p_nD_669 HD.1 (by omega), if_neg (by omega)]
end PO
