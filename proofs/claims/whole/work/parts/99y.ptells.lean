/-! THE PARSE OF THE REFERENCE: all tells -/
/-- what a rule leaves as it is -/
def p_Kr (k k' : q_Hp) : Prop := (∀ j, ¬ (j = 12 ∨ j = 15 ∨ j = 16 ∨ j = 22 ∨ j = 68 ∨ j = 75 ∨ j = 77 ∨ j = 78) → qI k' 630 j = qI k 630 j) ∧ (∀ x, (x ≤ 640 ∨ (669 ≤ x ∧ x ≤ 673) ∨ 686 ≤ x) → qA k' x = qA k x) ∧ ∀ x, ¬ x = 676 → ¬ x = 678 → qL k' x = qL k x
theorem p_Kr.rf {k : q_Hp} : p_Kr k k := ⟨fun _ _ => rfl, fun _ _ => rfl, fun _ _ _ => rfl⟩
theorem p_Kr.trans {k k1 k2 : q_Hp} (a : p_Kr k k1) (b : p_Kr k1 k2) : p_Kr k k2 := ⟨fun j h => (b.1 j h).trans (a.1 j h), fun x h => (b.2.1 x h).trans (a.2.1 x h), fun x h h2 => (b.2.2 x h h2).trans (a.2.2 x h h2)⟩
theorem p_Kr.sA {k k1 : q_Hp} {a i : Nat} {v : Int32} (F : p_Kr k k1) (h : (640 < a ∧ a < 669) ∨ (673 < a ∧ a < 686)) : p_Kr k (q_sA k1 a i v) := ⟨F.1, fun x hx => by rw [qA_sAn (by omega)]; exact F.2.1 x hx, F.2.2⟩
theorem p_Kr.sI {k k1 : q_Hp} {j : Nat} {v : Int32} (F : p_Kr k k1) (h : j = 12 ∨ j = 15 ∨ j = 16 ∨ j = 22 ∨ j = 68 ∨ j = 75 ∨ j = 77 ∨ j = 78) : p_Kr k (q_sI k1 630 j v) := ⟨fun i hi => by rw [q_sI_n (fun h9 => hi (by omega))]; exact F.1 i hi, F.2.1, F.2.2⟩
theorem p_Kr.sL {k k1 : q_Hp} {a i : Nat} {v : Int64} (F : p_Kr k k1) (h : a = 676 ∨ a = 678) : p_Kr k (q_sL k1 a i v) := ⟨F.1, F.2.1, fun x h1 h2 => by rw [qL_sLn (by omega)]; exact F.2.2 x h1 h2⟩
theorem p_Kr.wr {k k1 : q_Hp} {P : Nat → Nat} {n i : Nat} (F : p_Kr k k1) : p_Kr k (p_wr P n i k1) := by
  unfold p_wr
  split
  · exact (F.sI (by omega)).sI (by omega)
  · exact F
theorem p_Kr.fw {k k1 : q_Hp} {P : Nat → Nat} {i : Nat} {o : Option Nat} (F : p_Kr k k1) : p_Kr k (p_fw P i o k1) := by
  unfold p_fw
  split
  · exact F.wr
  · exact F
theorem p_Kr.dw {k k1 : q_Hp} {P : Nat → Nat} {i : Nat} {o : Option Nat} (F : p_Kr k k1) : p_Kr k (p_dw P i o k1) := by
  unfold p_dw
  split
  · exact F
  · exact F.wr
theorem p_Kr.xw {k k1 : q_Hp} {P X : Nat → Nat} {i : Nat} (F : p_Kr k k1) : p_Kr k (p_xw P X i k1) := by
  unfold p_xw
  split
  · exact F
  · exact F.wr
theorem p_Kr.tl {k k1 : q_Hp} {P : Nat → Nat} {U : Nat → Int64} {i n : Nat} {kd a ty : Int32} (F : p_Kr k k1) : p_Kr k (p_tl P U i n kd a ty k1) := (((((F.dw.sL (by omega)).sA (by omega)).sA (by omega)).sA (by omega)).sA (by omega)).sI (by omega)
theorem p_Kr.kx {k k1 k2 : q_Hp} (F : p_Kr k k1) (H : p_kx k1 k2) : p_Kr k k2 := F.trans ⟨fun j h => H.2.2 j (by omega), fun x h => H.1 x (by omega), fun x _ _ => congrFun H.2.1 x⟩
theorem p_Kr.ex {k k1 : q_Hp} {K P X : Nat → Nat} {U : Nat → Int64} {set : Bool} {L : Nat} {s : y_S} (F : p_Kr k k1) : p_Kr k (p_ex K P X U set L s k1) := F.kx p_kx.rf.ex
section PO
variable {K P X : Nat → Nat} {U : Nat → Int64} {e : Nat} {k0 k : q_Hp} {s : y_S}
theorem p_Kr.no {nt r n L : Nat} (F : p_Kr k k0) : p_Kr k (p_no P U nt r n L s k0) := (F.fw.tl.sA (by omega)).sA (by omega)
theorem p_Kr.l3 {ns L q rs rf rt : Nat} (F : p_Kr k k0) (h1 : 640 < rs ∧ rs < 669) (h2 : 640 < rf ∧ rf < 669) (h3 : 640 < rt ∧ rt < 669) : p_Kr k (p_l3 P U ns L q rs rf rt s k0) := (((F.fw.sA (Or.inl h2)).fw.sA (Or.inl h1)).fw.sA (Or.inl h3))
theorem p_Kr.li {ns r l L : Nat} (F : p_Kr k k0) : p_Kr k (p_li P U ns r l L s k0) := (F.l3 (by omega) (by omega) (by omega)).tl.sA (by omega)
theorem p_Kr.lf {nt ns r : Nat} : ∀ m n l s k0, p_Kr k k0 → p_Kr k (p_lf K P U nt ns r m n l s k0) := by
  intro m
  induction m with
  | zero => intro n l s k0 F; exact F
  | succ m ih =>
    intro n l s k0 F
    unfold p_lf
    split
    · exact ih _ _ _ _ F.no
    · split
      · exact ih _ _ _ _ F.li
      · split
        · exact ih _ _ _ _ (F.sA (by omega))
        · exact F
theorem p_Kr.n1 {nt ns r c a : Nat} (F : p_Kr k k0) : p_Kr k (p_n1 K P U nt ns r c a s k0) := F.trans ⟨fun j h => p_n1_I (by omega), fun x h => p_n1_A (by omega), fun x _ h => p_n1_L h⟩
theorem p_Kr.nts {nt ns r a : Nat} : ∀ m c s k0, p_Kr k k0 → p_Kr k (p_nts K P U nt ns r a m c s k0) := by
  intro m
  induction m with
  | zero => intro c s k0 F; exact F
  | succ m ih =>
    intro c s k0 F
    unfold p_nts
    split
    · exact ih _ _ _ F.n1
    · exact F
theorem p_Kr.te {r c L : Nat} (F : p_Kr k k0) : p_Kr k (p_te K P X U r c L s k0) := ((p_Kr.ex (((p_Kr.ex ((F.sA (by omega)).sA (by omega))).sA (by omega)).sA (by omega))).sA (by omega))
theorem p_Kr.tss {r a : Nat} : ∀ m c s k0, p_Kr k k0 → p_Kr k (p_tss K P X U r a m c s k0) := by
  intro m
  induction m with
  | zero => intro c s k0 F; exact F
  | succ m ih =>
    intro c s k0 F
    unfold p_tss
    split
    · exact ih _ _ _ F.te
    · exact F
theorem p_Kr.z6 : ∀ n k0, p_Kr k k0 → p_Kr k (p_z6 n k0) := by
  intro n
  induction n with
  | zero => intro k0 F; exact F
  | succ n ih => intro k0 F; exact (ih _ F).sA (by omega)
theorem p_Kr.d0 {c : Nat} (F : p_Kr k k0) : p_Kr k (p_d0 c k0) := by
  unfold p_d0
  split
  · exact p_Kr.z6 _ _ ((F.sI (by omega)).sI (by omega))
  · exact F
theorem p_Kr.d1 {q : Nat} (F : p_Kr k k0) : p_Kr k (p_d1 q k0) := (((F.sA (by omega)).sA (by omega)).sA (by omega)).sA (by omega)
theorem p_Kr.de {r q l jn L i : Nat} (F : p_Kr k k0) : p_Kr k (p_de P U r q l jn L i k0) := by
  have F1 : ∀ j, p_Kr k (p_de1 q j k0) := fun j => ((F.sA (by omega)).sA (by omega)).sA (by omega)
  unfold p_de
  cases p_dd L (U i) k0 with
  | none => exact F.wr.sA (by omega)
  | some j =>
    show p_Kr k (p_de2 P r q l jn i j k0)
    unfold p_de2
    split
    · exact (F1 j).sA (by omega)
    · split
      · exact (F1 j).wr
      · exact F1 j
theorem p_Kr.nw {nt q nw L : Nat} (F : p_Kr k k0) : p_Kr k (p_nw P U nt q nw L s k0) := (((F.fw.tl.sA (by omega)).sA (by omega)).sA (by omega)).sI (by omega)
theorem p_Kr.jo {nt ns q jn L i1 i2 i3 : Nat} (F : p_Kr k k0) : p_Kr k (p_jo P U nt ns q jn L i1 i2 i3 k0) := by
  have F1 : ∀ oa os ob, p_Kr k (p_jo1 P nt q i1 i2 i3 oa os ob k0) := by
    intro oa os ob
    unfold p_jo1
    split
    · exact (F.fw.fw.fw.sA (by omega)).wr
    · exact F.fw.fw.fw.sA (by omega)
  unfold p_jo
  cases p_sd L (U i1) k0 with
  | none => exact F1 _ _ _
  | some a =>
    cases p_sd L (U i3) k0 with
    | none => exact F1 _ _ _
    | some b => exact ((((((F1 _ _ _).sA (by omega)).sA (by omega)).sA (by omega)).sA (by omega)).sA (by omega)).sI (by omega)
theorem p_Kr.se2 {q L : Nat} (F : p_Kr k k0) : p_Kr k (p_se2 K P X U q L s k0) := p_Kr.ex (((F.fw.xw.sA (by omega)).sA (by omega)).sA (by omega))
theorem p_Kr.ds {nt ns r c l nw jn L : Nat} (F : p_Kr k k0) : p_Kr k (p_ds K P X U nt ns r c l nw jn L s k0) := by
  unfold p_ds p_dE
  refine p_Kr.sA (p_Kr.sA ?_ (by omega)) (by omega)
  have F1 := F.d0 (c := c) |>.d1 (q := 8 * (20 + r) + c)
  unfold p_dd1
  split
  · exact F1.de
  · split
    · exact F1.nw
    · split
      · exact F1.jo
      · exact F1.se2
theorem p_Kr.dss {nt ns r l : Nat} : ∀ m c s k0, p_Kr k k0 → p_Kr k (p_dss K P X U nt ns r l m c s k0) := by
  intro m
  induction m with
  | zero => intro c s k0 F; exact F
  | succ m ih =>
    intro c s k0 F
    unfold p_dss
    split
    · exact ih _ _ _ F.ds
    · exact F
theorem p_Kr.ru {nt ns nr np : Nat} : p_Kr (p_ru0 P U nr np s k0) (p_ru K P X U nt ns nr np s k0) := p_Kr.dss _ _ _ _ (p_Kr.tss _ _ _ _ (p_Kr.nts _ _ _ _ (p_Kr.lf _ _ _ _ _ p_Kr.rf)))
theorem p_ru_I {nt ns nr np j : Nat} (h : ¬ (j = 12 ∨ j = 15 ∨ j = 16 ∨ j = 20 ∨ j = 22 ∨ j = 68 ∨ j = 75 ∨ j = 77 ∨ j = 78)) : qI (p_ru K P X U nt ns nr np s k0) 630 j = qI k0 630 j := (p_Kr.ru.1 j (by omega)).trans (p_ru0_I (by omega))
theorem p_ru_20 {nt ns nr np : Nat} : qI (p_ru K P X U nt ns nr np s k0) 630 20 = nI (nr + 1) := (p_Kr.ru.1 20 (by omega)).trans p_ru0_20
theorem p_ru_A {nt ns nr np x : Nat} (h : x ≤ 640 ∨ (669 ≤ x ∧ x ≤ 673) ∨ 686 ≤ x) : qA (p_ru K P X U nt ns nr np s k0) x = qA k0 x := (p_Kr.ru.2.1 x h).trans (p_ru0_A (by omega))
theorem p_ru_L {nt ns nr np x : Nat} (h : ¬ x = 676) (h2 : ¬ x = 678) : qL (p_ru K P X U nt ns nr np s k0) x = qL k0 x := (p_Kr.ru.2.2 x h h2).trans (p_ru0_L h)
theorem p_ty_I {nt j : Nat} (h : ¬ j = 15 ∧ ¬ j = 16 ∧ ¬ j = 18) : qI (p_ty K P U nt s k0) 630 j = qI k0 630 j := by
  unfold p_ty
  rw [q_sI_n (by omega), qI_sL, p_ty2_I ⟨h.1, h.2.1⟩]
theorem p_ty2_A {nt x : Nat} (h : ¬ x = 638) : qA (p_ty2 K P U nt s k0) x = qA k0 x := by
  have e1 : qA (p_ty1 P U nt s k0) x = qA k0 x := (qA_sAn h).trans (congrFun p_dw_A x)
  unfold p_ty2
  split
  · rw [qA_sAn h, p_fw_A, e1]
  · exact e1
theorem p_ty2_638 {nt j : Nat} : qA (p_ty2 K P U nt s k0) 638 j = if j = 12 + nt then (if K (s.1 + 2) = 1 then q_on (p_fi (qL k0 674) nt (U (s.1 + 3))) else -1) else qA k0 638 j := by
  have e1 : qA (p_ty1 P U nt s k0) 638 j = if j = 12 + nt then -1 else qA k0 638 j := by
    unfold p_ty1
    rw [qA_sA, p_dw_A]
    by_cases h : j = 12 + nt
    · rw [if_pos ⟨rfl, h⟩, if_pos h]
    · rw [if_neg (fun h9 => h h9.2), if_neg h]
  unfold p_ty2
  split
  · next hK =>
    rw [qA_sA, p_fw_A, e1]
    by_cases h : j = 12 + nt
    · rw [if_pos ⟨rfl, h⟩, if_pos h]
    · rw [if_neg (fun h9 => h h9.2), if_neg h, if_neg h]
  · next hK => exact e1
theorem p_ty2_L {nt : Nat} : qL (p_ty2 K P U nt s k0) = qL k0 := by
  have e1 : qL (p_ty1 P U nt s k0) = qL k0 := p_dw_L
  unfold p_ty2
  split
  · rw [qL_sA, p_fw_L, e1]
  · exact e1
theorem p_B.ty {nt ns d : Nat} (B : p_B nt ns d k0) (h : nt < 12) : p_B (nt + 1) ns d (p_ty K P U nt s k0) := by
  obtain ⟨b1, b2, b3, b4, b5⟩ := B
  refine ⟨q_sI_e, (p_ty_I (by decide)).trans b2, fun j hj => ?_, (p_ty_I (by decide)).trans b4, (p_ty_I (by decide)).trans b5⟩
  have e1 : qA (p_ty K P U nt s k0) 638 = qA (p_ty2 K P U nt s k0) 638 := rfl
  rw [e1]
  show qA (p_ty2 K P U nt s k0) 638 (12 + j) = -1 ∨ ∃ i, i < j ∧ qA (p_ty2 K P U nt s k0) 638 (12 + j) = nI i
  rw [p_ty2_638]
  by_cases h9 : j = nt
  · rw [if_pos (by omega)]
    by_cases hK : K (s.1 + 2) = 1
    · rw [if_pos hK]
      cases hf : p_fi (qL k0 674) nt (U (s.1 + 3)) with
      | none => exact Or.inl rfl
      | some i => exact Or.inr ⟨i, by have := (p_fi_lt hf).1; omega, rfl⟩
    · rw [if_neg hK]
      exact Or.inl rfl
  · rw [if_neg (by omega)]
    exact b3 j (by omega)
theorem p_so_I {nt ns j : Nat} (h : ¬ j = 15 ∧ ¬ j = 16 ∧ ¬ j = 19) : qI (p_so P U nt ns s k0) 630 j = qI k0 630 j := by
  unfold p_so p_so1
  rw [q_sI_n (by omega), qI_sL, qI_sA, p_fw_I ⟨h.1, h.2.1⟩, qI_sA, p_fw_I ⟨h.1, h.2.1⟩, p_dw.I ⟨h.1, h.2.1⟩]
theorem p_so_A {nt ns x : Nat} (h : ¬ x = 639 ∧ ¬ x = 640) : qA (p_so P U nt ns s k0) x = qA k0 x := by
  unfold p_so p_so1
  rw [qA_sI, qA_sL, qA_sAn h.2, p_fw_A, qA_sAn h.1, p_fw_A, p_dw_A]
/-- all tells -/
def p_tt (K P X : Nat → Nat) (U : Nat → Int64) : Nat → Nat → Nat → Nat → Nat → y_S → q_Hp → q_Hp
  | 0, _, _, _, _, _, k => k
  | m + 1, nt, ns, nr, np, s, k => if y_is K 0 s = true then p_tt K P X U m (nt + 1) ns nr np (y_ty K nt s) (p_ty K P U nt s k) else if y_is K 2 s = true then p_tt K P X U m nt (ns + 1) nr np (y_so K ns s) (p_so P U nt ns s k) else if y_is K 3 s = true then p_tt K P X U m nt ns (nr + 1) np (y_ru K nr s) (p_ru K P X U nt ns nr np s k) else if y_is K 4 s = true then p_tt K P X U m nt ns nr (np + 1) (y_pr K np s) (p_pr K P X U nr np s k) else k
theorem s260_104x {Q : Option Value → q_Hp → Prop} {x1 : Int32} (Y : p_y K P X U e k0 k s) (h : ¬ (s.2 = 0 ∧ ¬ K s.1 = 42)) (w : q_wp 7 260 191 [some (.ref 630), some (.int x1)] [] k Q) : q_wp 7 260 104 [some (.ref 630), some (.int x1)] [] k Q := by
  refine b260_104 (Y.sh.ok rfl) (fun _ => w) (fun c => b260_111 (s249 (c := 42) Y (by decide) rfl) (by decide) ?_)
  rintro z h2 ⟨e0, rfl⟩
  subst h2
  refine b260_116 (fun _ => w) (fun c2 => absurd ⟨Y.z.mp c, fun h9 => ?_⟩ h)
  have := b2i_eq.mp c2
  rw [y_is_c.mpr ⟨Y.z.mp c, h9⟩] at this
  cases this
theorem s260_104y {Q : Option Value → q_Hp → Prop} {x1 : Int32} (Y : p_y K P X U e k0 k s) (hs : s.2 = 0) (h : ¬ K s.1 = 42) (w0 : y_is K 0 s = true → q_wp 7 260 128 [some (.ref 630), some (.int x1)] [] k Q) (w1 : y_is K 2 s = true → q_wp 7 260 144 [some (.ref 630), some (.int x1)] [] k Q) (w2 : y_is K 3 s = true → q_wp 7 260 160 [some (.ref 630), some (.int x1)] [] k Q) (w3 : y_is K 4 s = true → q_wp 7 260 176 [some (.ref 630), some (.int x1)] [] k Q) (w4 : y_is K 0 s = false → y_is K 2 s = false → y_is K 3 s = false → y_is K 4 s = false → q_wp 7 260 183 [some (.ref 630), some (.int x1)] [] k Q) : q_wp 7 260 104 [some (.ref 630), some (.int x1)] [] k Q := by
  refine b260_104 (Y.sh.ok rfl) (fun c => absurd (Y.z.mpr hs) c) (fun c => b260_111 (s249 (c := 42) Y (by decide) rfl) (by decide) ?_)
  rintro z h2 ⟨e0, rfl⟩
  subst h2
  refine b260_116 (fun c2 => absurd (y_is_c.mp (b2i_ne.mp c2)).2 h) (fun _ => b260_119 (s249 (c := 0) Y (by decide) rfl) (by decide) ?_)
  rintro z h2 ⟨e0, rfl⟩
  subst h2
  refine b260_125 (fun c0 => b260_135 (s249 (c := 2) Y (by decide) rfl) (by decide) ?_) (fun c0 => w0 (b2i_ne.mp c0))
  rintro z h2 ⟨e0, rfl⟩
  subst h2
  refine b260_141 (fun c1 => b260_151 (s249 (c := 3) Y (by decide) rfl) (by decide) ?_) (fun c1 => w1 (b2i_ne.mp c1))
  rintro z h2 ⟨e0, rfl⟩
  subst h2
  refine b260_157 (fun c2 => b260_167 (s249 (c := 4) Y (by decide) rfl) (by decide) ?_) (fun c2 => w2 (b2i_ne.mp c2))
  rintro z h2 ⟨e0, rfl⟩
  subst h2
  exact b260_173 (fun c3 => w4 (b2i_eq.mp c0) (b2i_eq.mp c1) (b2i_eq.mp c2) (b2i_eq.mp c3)) (fun c3 => w3 (b2i_ne.mp c3))
theorem s260_104 {kb : q_Hp} {Q : Option Value → q_Hp → Prop} {x1 : Int32} : ∀ m c s k0 k d D C, (s.2 = 0 → 1201 ≤ m + s.1) → (s.2 = 0 → p_BB c.1 c.2.1 c.2.2.1 c.2.2.2.1 d D C s k0) → p_y K P X U e k0 k s → p_fr kb k0 → (∀ k1 k, p_y K P X U e k1 k (y_tp K m c s).2 → p_fr kb k1 → ((y_tp K m c s).2.2 = 0 → k1 = p_tt K P X U m c.1 c.2.1 c.2.2.1 c.2.2.2.1 s k0 ∧ ∃ d' D' C', p_BB (y_tp K m c s).1.1 (y_tp K m c s).1.2.1 (y_tp K m c s).1.2.2.1 (y_tp K m c s).1.2.2.2.1 d' D' C' (y_tp K m c s).2 k1) → q_wp 7 260 191 [some (.ref 630), some (.int x1)] [] k Q) → q_wp 7 260 104 [some (.ref 630), some (.int x1)] [] k Q := by
  intro m
  induction m with
  | zero =>
    intro c s k0 k d D C hm H Y F cont
    have hs : ¬ s.2 = 0 := fun h => by
      have := hm h
      have := Y.le
      have := Y.e12
      omega
    exact s260_104x Y (fun h => hs h.1) (cont k0 k Y F (fun h9 => absurd h9 hs))
  | succ m ih =>
    intro c s k0 k d D C hm H Y F cont
    obtain ⟨nt, ns, nr, np, f1, f2⟩ := c
    have H : s.2 = 0 → p_BB nt ns nr np d D C s k0 := H
    unfold y_tp p_tt at cont
    by_cases hc : s.2 = 0 ∧ ¬ K s.1 = 42
    rotate_left 1
    · rw [if_neg hc] at cont
      refine s260_104x Y hc (cont k0 k Y F (fun h9 => ?_))
      have hs : s.2 = 0 := h9
      have k42 : K s.1 = 42 := Classical.not_not.mp (fun h => hc ⟨hs, h⟩)
      have n : ∀ c, ¬ c = 42 → ¬ y_is K c s = true := fun c hc h => by
        have := (y_is_c.mp h).2
        omega
      rw [if_neg (n 0 (by decide)), if_neg (n 2 (by decide)), if_neg (n 3 (by decide)), if_neg (n 4 (by decide))]
      exact ⟨rfl, d, D, C, H hs⟩
    rw [if_pos hc] at cont
    obtain ⟨hs, h42⟩ := hc
    have hm := hm hs
    have H := H hs
    obtain ⟨B, hnt, hns, hr, h20, hp, h10, hDC, hD13, hD, hC, hd⟩ := id H
    have tpF : ∀ c s1, ¬ s1.2 = 0 → y_tp K m c s1 = (c, s1) := by
      intro c s1 h
      cases m with
      | zero => rfl
      | succ m =>
        unfold y_tp
        rw [if_neg (fun h9 => h h9.1)]
    have tpZ : ∀ c s1, (y_tp K m c s1).2.2 = 0 → s1.2 = 0 := by
      intro c s1 h
      rcases Nat.eq_zero_or_pos s1.2 with h2 | h2
      · exact h2
      · have h3 : ¬ s1.2 = 0 := by omega
        rw [tpF c s1 h3] at h
        exact absurd h h3
    refine s260_104y Y hs h42 (fun c0 => ?_) (fun c0 => ?_) (fun c0 => ?_) (fun c0 => ?_) (fun c0 c1 c2 c3 => ?_)
    · rw [if_pos c0, if_pos c0] at cont
      refine b260_128 (s262 (nt := nt) Y (y_is_lt (by decide) c0) B.1 hnt) (by decide) ?_
      rintro k ⟨k1, Y, F1, h1⟩
      have t1 : (y_ty K nt s).2 = 0 → s.1 + 1 ≤ (y_ty K nt s).1 ∧ nt < 12 := by
        intro h9
        refine ⟨y_to.p1 y_to.rf (y_to.trans y_to.rf.nn (y_to.nd (y_to.ite y_to.rf.ps.nd y_to.rf))) h9, ?_⟩
        have : (y_nn K (decide (nt < 12)) (y_ps s)).2 = 0 := (y_to.nd (y_to.ite y_to.rf.ps.nd y_to.rf)).2.1 h9
        exact of_decide_eq_true (y_hd this).2.2.1
      refine b260_132 (ih (nt + 1, ns, nr, np, f1, f2) _ k1 k d D C (fun h9 => by have := (t1 h9).1; omega) (fun h9 => ?_) Y (F.trans F1) (fun k2 k Y F2 h2 => cont k2 k Y F2 (fun h9 => ?_)))
      · obtain ⟨q1, q2⟩ := t1 h9
        rw [h1 h9]
        exact ⟨B.ty q2, by show nt + 1 ≤ 12; omega, hns, (p_ty_I (by decide)).trans hr, h20, (p_ty_I (by decide)).trans hp, h10, ⟨(p_ty_I (by decide)).trans hDC.1, (p_ty_I (by decide)).trans hDC.2⟩, hD13, by omega, by omega, by omega⟩
      · have hz : (y_ty K nt s).2 = 0 := tpZ _ _ h9
        rw [← h1 hz]
        exact h2 h9
    · have n0 : ¬ y_is K 0 s = true := fun h => by have := (y_is_c.mp h).2; have := (y_is_c.mp c0).2; omega
      rw [if_neg n0, if_neg n0, if_pos c0, if_pos c0] at cont
      refine b260_144 (s263 (nt := nt) (ns := ns) Y (y_is_lt (by decide) c0) B.2.1 hns B.1 hnt) (by decide) ?_
      rintro k ⟨k1, Y, F1, h1⟩
      have t1 : (y_so K ns s).2 = 0 → s.1 + 1 ≤ (y_so K ns s).1 ∧ ns < 12 := by
        intro h9
        refine ⟨y_to.p1 y_to.rf y_to.rf.nn.nd.nd.nd.nd.nd h9, ?_⟩
        have : (y_nn K (decide (ns < 12)) (y_ps s)).2 = 0 := (y_to.rf.nd.nd.nd.nd.nd).2.1 h9
        exact of_decide_eq_true (y_hd this).2.2.1
      refine b260_148 (ih (nt, ns + 1, nr, np, f1, f2) _ k1 k d D C (fun h9 => by have := (t1 h9).1; omega) (fun h9 => ?_) Y (F.trans F1) (fun k2 k Y F2 h2 => cont k2 k Y F2 (fun h9 => ?_)))
      · obtain ⟨q1, q2⟩ := t1 h9
        rw [h1 h9]
        refine ⟨⟨(p_so_I (by decide)).trans B.1, q_sI_e, ?_, (p_so_I (by decide)).trans B.2.2.2.1, (p_so_I (by decide)).trans B.2.2.2.2⟩, hnt, by show ns + 1 ≤ 12; omega, (p_so_I (by decide)).trans hr, h20, (p_so_I (by decide)).trans hp, h10, ⟨(p_so_I (by decide)).trans hDC.1, (p_so_I (by decide)).trans hDC.2⟩, hD13, by omega, by omega, by omega⟩
        rw [p_so_A (by decide)]
        exact B.2.2.1
      · have hz : (y_so K ns s).2 = 0 := tpZ _ _ h9
        rw [← h1 hz]
        exact h2 h9
    · have n0 : ¬ y_is K 0 s = true := fun h => by have := (y_is_c.mp h).2; have := (y_is_c.mp c0).2; omega
      have n2 : ¬ y_is K 2 s = true := fun h => by have := (y_is_c.mp h).2; have := (y_is_c.mp c0).2; omega
      rw [if_neg n0, if_neg n0, if_neg n2, if_neg n2, if_pos c0, if_pos c0] at cont
      refine b260_160 (s265 (nt := nt) (ns := ns) (nr := nr) (np := np) (d := d) Y (y_is_lt (by decide) c0) (fun _ => ⟨B, hd⟩) hnt hns hr h20 hp h10) (by decide) ?_
      rintro k ⟨k1, Y, F1, h1⟩
      have tR : y_to (y_nn K (decide (nr < 20)) (y_ps s)) (y_ru K nr s) := (y_to.ds _ _ _ _ (y_to.ts _ _ _ _ (y_to.nt _ _ _ _ (y_to.le _ _ _ _ _ y_to.rf)))).nd
      have t1 : (y_ru K nr s).2 = 0 → s.1 + 1 ≤ (y_ru K nr s).1 ∧ nr < 20 := by
        intro h9
        exact ⟨y_to.p1 y_to.rf (y_to.rf.nn.trans tR) h9, of_decide_eq_true (y_hd (tR.2.1 h9)).2.2.1⟩
      have ex : ∃ d', (y_ru K nr s).2 = 0 → k1 = p_ru K P X U nt ns nr np s k0 ∧ p_B nt ns d' k1 ∧ d' ≤ (y_ru K nr s).1 := by
        by_cases hz : (y_ru K nr s).2 = 0
        · obtain ⟨a1, d', a2, a3⟩ := h1 hz
          exact ⟨d', fun _ => ⟨a1, a2, a3⟩⟩
        · exact ⟨0, fun h9 => absurd h9 hz⟩
      obtain ⟨d', ex⟩ := ex
      refine b260_164 (ih (nt, ns, nr + 1, np, un f1 nr (s.1 + 1), f2) _ k1 k d' D C (fun h9 => by have := (t1 h9).1; omega) (fun h9 => ?_) Y (F.trans F1) (fun k2 k Y F2 h2 => cont k2 k Y F2 (fun h9 => ?_)))
      · obtain ⟨q1, q2⟩ := t1 h9
        obtain ⟨a1, a2, a3⟩ := ex h9
        refine ⟨a2, hnt, hns, ?_, by show nr + 1 ≤ 20; omega, ?_, h10, ⟨?_, ?_⟩, hD13, by omega, by omega, a3⟩
        · rw [a1]; exact p_ru_20
        · rw [a1, p_ru_I (by decide)]; exact hp
        · rw [a1, p_ru_I (by decide)]; exact hDC.1
        · rw [a1, p_ru_I (by decide)]; exact hDC.2
      · have hz : (y_ru K nr s).2 = 0 := tpZ _ _ h9
        rw [← (ex hz).1]
        exact h2 h9
    · have n0 : ¬ y_is K 0 s = true := fun h => by have := (y_is_c.mp h).2; have := (y_is_c.mp c0).2; omega
      have n2 : ¬ y_is K 2 s = true := fun h => by have := (y_is_c.mp h).2; have := (y_is_c.mp c0).2; omega
      have n3 : ¬ y_is K 3 s = true := fun h => by have := (y_is_c.mp h).2; have := (y_is_c.mp c0).2; omega
      rw [if_neg n0, if_neg n0, if_neg n2, if_neg n2, if_neg n3, if_neg n3, if_pos c0, if_pos c0] at cont
      refine b260_176 (s286 (nt := nt) (ns := ns) (nr := nr) (np := np) (d := d) (D := D) (C := C) Y (y_is_lt (by decide) c0) hs H) (by decide) ?_
      rintro k ⟨k1, Y, F1, h1⟩
      have tR : y_to (y_ps s) (y_pr K np s) := (y_to.ro _ _ _ _ y_to.rf.nn).nd
      have ex : ∃ D' C', (y_pr K np s).2 = 0 → k1 = p_pr K P X U nr np s k0 ∧ p_BB nt ns nr (np + 1) d D' C' (y_pr K np s) k1 := by
        by_cases hz : (y_pr K np s).2 = 0
        · obtain ⟨a1, D', C', a2⟩ := h1 hz
          exact ⟨D', C', fun _ => ⟨a1, a2⟩⟩
        · exact ⟨0, 0, fun h9 => absurd h9 hz⟩
      obtain ⟨D', C', ex⟩ := ex
      refine b260_180 (ih (nt, ns, nr, np + 1, f1, un f2 np (s.1 + 1)) _ k1 k d D' C' (fun h9 => by have := y_to.p1 y_to.rf tR h9; omega) (fun h9 => (ex h9).2) Y (F.trans F1) (fun k2 k Y F2 h2 => cont k2 k Y F2 (fun h9 => ?_)))
      have hz : (y_pr K np s).2 = 0 := tpZ _ _ h9
      rw [← (ex hz).1]
      exact h2 h9
    · have m0 : ¬ y_is K 0 s = true := by rw [c0]; decide
      have m1 : ¬ y_is K 2 s = true := by rw [c1]; decide
      have m2 : ¬ y_is K 3 s = true := by rw [c2]; decide
      have m3 : ¬ y_is K 4 s = true := by rw [c3]; decide
      rw [if_neg m0, if_neg m0, if_neg m1, if_neg m1, if_neg m2, if_neg m2, if_neg m3, if_neg m3] at cont
      refine b260_183 (s250 (f := 1) Y (by decide) (by decide) rfl) (by decide) (fun k Y => b260_188 ?_)
      have hf : ¬ (y_fl 1 s).2 = 0 := by
        unfold y_fl
        rw [if_pos hs]
        exact (show ¬ (1 : Nat) = 0 by decide)
      rw [tpF _ _ hf] at cont
      exact s260_104x Y (fun h => hf h.1) (cont k0 k Y F (fun h9 => absurd h9 hf))
end PO
