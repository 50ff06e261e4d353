/-! THE PARSE OF THE REFERENCE: codes, what waits, and the units of sums -/
/-- a code is put behind the others -/
def p_em (op a b : Int32) (k : q_Hp) : q_Hp := q_sI (q_sA (q_sA (q_sA k 666 (qI k 630 22 : Int32).toNatClampNeg op) 667 (qI k 630 22 : Int32).toNatClampNeg a) 668 (qI k 630 22 : Int32).toNatClampNeg b) 630 22 (qI k 630 22 + 1)
def p_oc (x : Int32) : Int32 := if x = 13 then 3 else if x = 14 then 4 else if x = 15 then 5 else 2
def p_st (x : Int32) : Int32 := if x = 16 then 0 else if x = 15 then 2 else 1
/-- what waits and is as strong is settled -/
def p_se (l : Int32) : Nat → q_Hp → q_Hp
  | 0, k => k
  | n + 1, k => if p_st (qA k 685 n) < l then k else p_se l n (p_em (p_oc (qA k 685 n)) 0 0 (q_sI k 630 78 (nI n)))
/-- one more waits -/
def p_pu (op : Int32) (k : q_Hp) : q_Hp := q_sI (q_sA k 685 (qI k 630 78 : Int32).toNatClampNeg op) 630 78 (qI k 630 78 + 1)
/-- the node that a sum names -/
def p_ug (set : Bool) (L : Nat) (x : Int64) (k : q_Hp) : Option Nat := match p_fi (qL k 678) L x with
  | some j => if qA k 679 j = 0 ∧ (set = true → qA k 682 j = 0) then some j else none
  | none => none
def p_ua (k : q_Hp) (o : Option Nat) : Int32 := match o with
  | some j => qA k 680 j
  | none => 0
/-- an index above 1 -/
def p_xw (P X : Nat → Nat) (i : Nat) (k : q_Hp) : q_Hp := if X i ≤ 1 then k else p_wr P 5 i k
def p_un (K P X : Nat → Nat) (U : Nat → Int64) (set : Bool) (L : Nat) (s : y_S) (k : q_Hp) : q_Hp := if y_is K 41 s = true then p_em 0 (nI (X s.1)) 0 k else p_em 1 (p_ua k (p_ug set L (U s.1) k)) (nI (X (s.1 + 2))) (p_xw P X (s.1 + 2) (p_fw P s.1 (p_ug set L (U s.1) k) k))
section PU
variable {K P X : Nat → Nat} {U : Nat → Int64} {e : Nat} {k0 k : q_Hp} {s : y_S}
theorem p_fr.em {k k1 : q_Hp} {op a b : Int32} {c : Nat} (F : p_fr k k1) (hc : qI k1 630 22 = nI c) (h : 1300 ≤ c) (h2 : c < 2 ^ 31) : p_fr k (p_em op a b k1) := by
  unfold p_em
  rw [hc, nI_clamp h2]
  exact (((F.sA rfl h).sA rfl h).sA rfl h).sI rfl
theorem p_fr.xw {k k1 : q_Hp} {P X : Nat → Nat} {i : Nat} (F : p_fr k k1) : p_fr k (p_xw P X i k1) := by
  unfold p_xw
  split
  · exact F
  · exact F.wr
theorem p_fr.pu {k k1 : q_Hp} {op : Int32} (F : p_fr k k1) : p_fr k (p_pu op k1) := (F.sA rfl (Nat.zero_le _)).sI rfl
theorem p_xw_I {i j : Nat} (h : ¬ j = 15 ∧ ¬ j = 16) : qI (p_xw P X i k0) 630 j = qI k0 630 j := by
  unfold p_xw
  split
  · rfl
  · exact p_wr_I h
theorem p_xw_A {i : Nat} : qA (p_xw P X i k0) = qA k0 := by
  unfold p_xw
  split
  · rfl
  · exact p_wr_A
theorem p_xw_L {i : Nat} : qL (p_xw P X i k0) = qL k0 := by
  unfold p_xw
  split
  · rfl
  · exact p_wr_L
theorem p_em_I {op a b : Int32} {j : Nat} (h : ¬ j = 22) : qI (p_em op a b k0) 630 j = qI k0 630 j := by
  unfold p_em
  rw [q_sI_n (fun h9 => h h9.2)]
  rfl
theorem p_em_22 {op a b : Int32} : qI (p_em op a b k0) 630 22 = qI k0 630 22 + 1 := q_sI_e
theorem p_em_A {op a b : Int32} {x : Nat} (h : ¬ x = 666 ∧ ¬ x = 667 ∧ ¬ x = 668) : qA (p_em op a b k0) x = qA k0 x := by
  unfold p_em
  rw [qA_sI, qA_sAn h.2.2, qA_sAn h.2.1, qA_sAn h.1]
theorem p_em_L {op a b : Int32} : qL (p_em op a b k0) = qL k0 := rfl
theorem s277 {c : Nat} {op a b : Int32} (Y : p_y K P X U e k0 k s) (hc : qI k0 630 22 = nI c) (h : c < 2600) : q_mV 0 277 [.ref 630, .int op, .int a, .int b] k (fun k' => p_y K P X U e (p_em op a b k0) k' s) := by
  refine q_mV.of (q_recV rfl (Y.sh.ok rfl)) (fun Q fin => ?_)
  have ec : qI k 630 22 = qI k0 630 22 := Y.I rfl
  have i1 : ∀ a, (decide (a ≤ 712) && (q_kd0 a).2 == 2600) = true → q_in (qI k 630 22) (qK k a).2 := fun a h9 => by rw [ec, hc]; exact Y.sh.inN (n := 2600) h9 h (by decide)
  refine b277_0 (v0 := 666) (v1 := 667) (v2 := 668) (Y.sh.ok rfl) (Y.sh.ref rfl) (Y.sh.ok rfl) (i1 _ rfl) (Y.sh.ref rfl) (Y.sh.ok rfl) (i1 _ rfl) (Y.sh.ref rfl) (Y.sh.ok rfl) (i1 _ rfl) (fin _ ?_)
  rw [ec]
  exact (((Y.sA rfl).sA rfl).sA rfl).sI rfl
theorem s278 {x : Int32} {k : q_Hp} : q_mI 0 278 [.int x] k (fun z k' => k' = k ∧ z = p_st x) := by
  refine q_mI.of rfl (fun Q fin => ?_)
  refine b278_0 (fun c => b278_10 (fun c1 => b278_20 (fin _ _ ⟨rfl, ?_⟩)) (fun c1 => b278_16 (fin _ _ ⟨rfl, ?_⟩))) (fun c => b278_6 (fin _ _ ⟨rfl, ?_⟩))
  · unfold p_st
    rw [if_neg c, if_neg c1]
  · unfold p_st
    rw [if_neg c, if_pos c1]
  · unfold p_st
    rw [if_pos c]
theorem s279_0 {Q : Option Value → q_Hp → Prop} {l : Int32} : ∀ n c k0 k l2, qI k0 630 78 = nI n → n ≤ 40 → qI k0 630 22 = nI c → c + n ≤ 2600 → p_y K P X U e k0 k s → (∀ k', p_y K P X U e (p_se l n k0) k' s → Q none k') → q_wp 1 279 0 [some (.ref 630), some (.int l), l2] [] k Q := by
  intro n
  induction n with
  | zero =>
    intro c k0 k l2 hn h40 hc hcn Y fin
    have en : qI k 630 78 = nI 0 := (Y.I rfl).trans hn
    refine b279_0 (Y.sh.ok rfl) (fun _ => b279_85 (fin _ Y)) (fun c1 => ?_)
    rw [en] at c1
    exact absurd (nI_le (Nat.le_refl 0) (by decide)) c1
  | succ n ih =>
    intro c k0 k l2 hn h40 hc hcn Y fin
    have en : qI k 630 78 = nI (n + 1) := (Y.I rfl).trans hn
    have ea : qA k 685 = qA k0 685 := Y.A (by decide)
    have em1 : qI k 630 78 - 1 = nI n := by rw [en]; exact nI_pred n
    refine b279_0 (Y.sh.ok rfl) (fun c1 => ?_) (fun _ => ?_)
    · rw [en] at c1
      exact absurd c1 (nI_nle (by omega) (by omega))
    refine b279_7 (v0 := 685) (Y.sh.ok rfl) (Y.sh.ref rfl) (Y.sh.ok rfl) (by rw [em1]; exact Y.sh.inN (n := 40) rfl (by omega) (by decide)) s278 (by decide) ?_
    rintro z h2 ⟨e0, rfl⟩
    subst h2
    rw [em1, nI_clamp (show n < 2 ^ 31 by omega), ea]
    unfold p_se at fin
    refine b279_21 (fun c1 => b279_85 (fin _ ?_)) (fun c1 => ?_)
    · rw [if_pos c1]
      exact Y
    rw [if_neg c1] at fin
    have Y1 : p_y K P X U e (q_sI k0 630 78 (nI n)) (q_sI k 630 78 (nI n)) s := Y.sI rfl
    have e1 : qI (q_sI k 630 78 (nI n)) 630 78 = nI n := q_sI_e
    have g77 : ∀ op, op = p_oc (qA k0 685 n) → q_wp 1 279 77 [some (.ref 630), some (.int l), some (.int (qA k0 685 n))] [.int op, .ref 630] (q_sI k 630 78 (nI n)) Q := by
      rintro op rfl
      have hc1 : qI (q_sI k0 630 78 (nI n)) 630 22 = nI c := by rw [q_sI_n (by omega)]; exact hc
      refine b279_77 (s277 (c := c) Y1 hc1 (by omega)) (by decide) (fun k' Y2 => b279_82 ?_)
      refine ih (c + 1) _ k' _ ?_ (by omega) ?_ (by omega) Y2 fin
      · rw [p_em_I (by decide)]
        exact q_sI_e
      · rw [p_em_22, hc1, nI_1]
    refine b279_25 (v0 := 685) (Y.sh.ok rfl) (Y.sh.ref rfl) (Y.sh.ok rfl) (by rw [em1, e1]; exact Y.sh.inN (n := 40) rfl (by omega) (by decide)) (fun c2 => ?_) (fun c2 => ?_)
    · rw [em1, e1, nI_clamp (show n < 2 ^ 31 by omega), ea] at c2 ⊢
      refine b279_56 (fun c3 => b279_66 (fun c4 => b279_76 (g77 _ ?_)) (fun c4 => b279_72 (g77 _ ?_))) (fun c3 => b279_62 (g77 _ ?_))
      · unfold p_oc
        rw [if_neg c2, if_neg c3, if_neg c4]
      · unfold p_oc
        rw [if_neg c2, if_neg c3, if_pos c4]
      · unfold p_oc
        rw [if_neg c2, if_pos c3]
    · rw [em1, e1, nI_clamp (show n < 2 ^ 31 by omega), ea] at c2 ⊢
      refine b279_52 (g77 _ ?_)
      unfold p_oc
      rw [if_pos c2]
theorem s279 {n c : Nat} {l : Int32} (Y : p_y K P X U e k0 k s) (hn : qI k0 630 78 = nI n) (h40 : n ≤ 40) (hc : qI k0 630 22 = nI c) (hcn : c + n ≤ 2600) : q_mV 1 279 [.ref 630, .int l] k (fun k' => p_y K P X U e (p_se l n k0) k' s) := by
  refine q_mV.of (q_recV rfl (Y.sh.ok rfl)) (fun Q fin => ?_)
  exact s279_0 n c k0 k none hn h40 hc hcn Y fin
theorem s281 {n : Nat} {op : Int32} (Y : p_y K P X U e k0 k s) (hk : s.2 = 0 → K s.1 < 42) (hn : qI k0 630 78 = nI n) (h40 : n < 40) : q_mV 2 281 [.ref 630, .int op] k (fun k' => p_y K P X U e (p_pu op k0) k' (y_ps s)) := by
  refine q_mV.of (q_recV rfl (Y.sh.ok rfl)) (fun Q fin => ?_)
  have en : qI k 630 78 = qI k0 630 78 := Y.I rfl
  refine b281_0 (v0 := 685) (Y.sh.ok rfl) (Y.sh.ref rfl) (Y.sh.ok rfl) (by rw [en, hn]; exact Y.sh.inN (n := 40) rfl h40 (by decide)) (m := 1) ?_ (by decide) (fun k' Y' => b281_24 (fin _ Y'))
  rw [en]
  exact s252 ((Y.sA rfl).sI rfl) hk
theorem s282 {L c : Nat} {set : Bool} (Y : p_y K P X U e k0 k s) (hL : qI k0 630 68 = nI L) (h40 : L ≤ 40) (hc : qI k0 630 22 = nI c) (hc2 : c < 2600) (hc3 : 1300 ≤ c) : q_mV 3 282 [.ref 630, .int (b2i set)] k (fun k' => p_out K P X U e k0 k' (y_un K s) (p_un K P X U set L s k0)) := by
  refine q_mV.of (q_recV rfl (Y.sh.ok rfl)) (fun Q fin => ?_)
  refine b282_0 (s249 (c := 41) Y (by decide) rfl) (by decide) ?_
  rintro z h2 ⟨e0, rfl⟩
  subst h2
  unfold y_un p_un at fin
  refine b282_5 (fun c1 => ?_) (fun c1 => ?_)
  rotate_left 1
  · have c1 := b2i_ne.mp c1
    rw [if_pos c1, if_pos c1] at fin
    obtain ⟨h0, h1⟩ := y_is_c.mp c1
    have et := Y.t0 h0
    have e12 := Y.e12
    have le := Y.le
    have ev : qA k 635 ((qI k 630 11 : Int32).toNatClampNeg) = nI (X s.1) := by rw [et, nI_clamp (by omega)]; exact ((Y.tk le).2.2.2.2.1 h1).1
    refine b282_8 (v0 := 635) (Y.sh.ok rfl) (Y.sh.ref rfl) (Y.sh.ok rfl) (by rw [et]; exact Y.sh.inN (n := 1203) rfl (by omega) (by decide)) (s277 (c := c) Y hc hc2) (by decide) ?_
    intro k1 Y
    rw [ev] at Y
    refine b282_23 (s252 Y (y_is_lt (by decide) c1)) (by decide) ?_
    intro k1 Y
    exact b282_27 (fin _ ⟨_, Y, p_fr.rf.em hc hc3 (by omega), fun _ => rfl⟩)
  rw [b2i_eq.mp c1, if_neg (by decide), if_neg (by decide)] at fin
  have hx := Y.t0
  refine b282_28 (Y.sh.ok rfl) (s253 (c := 40) Y (by decide) rfl) (by decide) ?_
  generalize qI k 630 11 = x2 at hx ⊢
  intro k Y
  refine b282_38 (s253 (c := 27) Y (by decide) rfl) (by decide) ?_
  intro k Y
  have hx3 := Y.t0
  refine b282_44 (Y.sh.ok rfl) (s253 (c := 41) Y (by decide) rfl) (by decide) ?_
  generalize qI k 630 11 = x3 at hx3 ⊢
  intro k Y
  refine b282_54 (Y.sh.ok rfl) (fun z => ?_) (fun z => b282_61 (fin _ ⟨k0, Y, p_fr.rf, fun h9 => absurd (Y.z1.mpr h9) z⟩))
  have c0 := Y.z1.mp z
  have a2 := y_nd_z c0
  have a1 := y_nd_z a2
  have a0 := y_nd_z a1
  have es : s = (s.1, 0) := by rw [← a0]
  obtain ⟨b1, p1⟩ := y_nd_p es a1
  obtain ⟨b2, p2⟩ := y_nd_p p1 a2
  obtain ⟨b3, p3⟩ := y_nd_p p2 c0
  have x2e : x2 = nI s.1 := hx a0
  have x3e : x3 = nI (s.1 + 2) := (hx3 a2).trans (by rw [p2])
  have le := Y.le
  rw [p3] at le
  have le : s.1 + 3 ≤ e := le
  have e12 := Y.e12
  subst x2e
  subst x3e
  generalize y_nd K 41 (y_nd K 27 (y_nd K 40 s)) = s3 at *
  obtain ⟨ev, xv⟩ := (Y.tk (show s.1 + 2 ≤ e by omega)).2.2.2.2.1 b3
  have g117 : ∀ k1 k x4, p_y K P X U e (p_fw P s.1 (p_ug set L (U s.1) k0) k0) k s3 → (∀ j, p_ug set L (U s.1) k0 = some j → x4 = nI j ∧ j < 40) → k1 = b2i (p_ug set L (U s.1) k0).isSome → q_wp 3 282 117 [some (.ref 630), some (.int (b2i set)), some (.int (nI s.1)), some (.int (nI (s.1 + 2))), some (.int x4), some (.int k1)] [] k Q := by
    rintro k1 k x4 Y hj rfl
    have ev : ∀ {k k1}, p_y K P X U e k1 k s3 → qA k 635 ((nI (s.1 + 2) : Int32).toNatClampNeg) = nI (X (s.1 + 2)) := fun Y => by rw [nI_clamp (by omega)]; exact ((Y.tk (show s.1 + 2 ≤ e by omega)).2.2.2.2.1 b3).1
    have g133 : ∀ k, p_y K P X U e (p_xw P X (s.1 + 2) (p_fw P s.1 (p_ug set L (U s.1) k0) k0)) k s3 → q_wp 3 282 133 [some (.ref 630), some (.int (b2i set)), some (.int (nI s.1)), some (.int (nI (s.1 + 2))), some (.int x4), some (.int (b2i (p_ug set L (U s.1) k0).isSome))] [] k Q := by
      intro k Y
      have hc1 : qI (p_xw P X (s.1 + 2) (p_fw P s.1 (p_ug set L (U s.1) k0) k0)) 630 22 = nI c := (p_xw_I (by decide)).trans ((p_fw_I (by decide)).trans hc)
      have g151 : ∀ v, v = p_ua k0 (p_ug set L (U s.1) k0) → q_wp 3 282 151 [some (.ref 630), some (.int (b2i set)), some (.int (nI s.1)), some (.int (nI (s.1 + 2))), some (.int x4), some (.int (b2i (p_ug set L (U s.1) k0).isSome))] [.int v, .int 1, .ref 630] k Q := by
        rintro v rfl
        refine b282_151 (v0 := 635) (Y.sh.ok rfl) (Y.sh.ref rfl) (Y.sh.ok rfl) (Y.sh.inN (n := 1203) rfl (by omega) (by decide)) (s277 (c := c) Y hc1 hc2) (by decide) ?_
        intro k' Y'
        rw [ev Y] at Y'
        exact b282_160 (fin _ ⟨_, Y', p_fr.rf.fw.xw.em hc1 hc3 (by omega), fun _ => rfl⟩)
      refine b282_133 (fun c2 => b282_150 (g151 _ ?_)) (fun c2 => ?_)
      · have := b2i_eq.mp c2
        cases hg : p_ug set L (U s.1) k0 with
        | none => rfl
        | some j => rw [hg] at this; cases this
      · have := b2i_ne.mp c2
        cases hg : p_ug set L (U s.1) k0 with
        | none => rw [hg] at this; cases this
        | some j =>
          obtain ⟨rfl, j40⟩ := hj j hg
          rw [hg] at g151
          refine b282_140 (v0 := 680) (Y.sh.ok rfl) (Y.sh.ref rfl) (Y.sh.ok rfl) (Y.sh.inN (n := 40) rfl j40 (by decide)) (g151 _ ?_)
          rw [nI_clamp (by omega), Y.A (by decide), p_xw_A, p_fw_A]
          rfl
    refine b282_117 (v0 := 635) (Y.sh.ok rfl) (Y.sh.ref rfl) (Y.sh.ok rfl) (Y.sh.inN (n := 1203) rfl (by omega) (by decide)) (fun c2 => g133 _ ?_) (fun c2 => b282_127 (s251 (n := 5) Y (show s.1 + 2 ≤ e by omega) c0 rfl rfl) (by decide) (fun k Y => g133 _ ?_))
    · rw [ev Y] at c2
      unfold p_xw
      rw [if_pos ((nI_leI (b := 1) xv (by decide)).mp c2)]
      exact Y
    · rw [ev ‹_›] at c2
      unfold p_xw
      rw [if_neg (fun h9 => c2 ((nI_leI (b := 1) xv (by decide)).mpr h9))]
      exact Y
  have yes : ∀ j, p_ug set L (U s.1) k0 = some j → j < 40 → q_wp 3 282 104 [some (.ref 630), some (.int (b2i set)), some (.int (nI s.1)), some (.int (nI (s.1 + 2))), some (.int (nI j)), none] [.int 1] k Q := by
    intro j hg hj
    refine b282_104 (fun _ => g117 1 k _ ?_ ?_ ?_) (fun c2 => absurd c2 (by decide))
    · rw [hg]
      exact Y
    · rw [hg]
      rintro i hi
      cases hi
      exact ⟨rfl, hj⟩
    · rw [hg]
      rfl
  have no : p_ug set L (U s.1) k0 = none → ∀ x4, q_wp 3 282 104 [some (.ref 630), some (.int (b2i set)), some (.int (nI s.1)), some (.int (nI (s.1 + 2))), some (.int x4), none] [.int 0] k Q := by
    intro hg x4
    refine b282_104 (fun c2 => absurd rfl c2) (fun _ => b282_111 (s251 (n := 4) Y (show s.1 ≤ e by omega) c0 rfl rfl) (by decide) (fun k Y => g117 0 k _ ?_ ?_ ?_))
    · unfold p_fw
      rw [hg, if_pos rfl]
      exact Y
    · rw [hg]
      rintro i hi
      cases hi
    · rw [hg]
      rfl
  refine b282_62 (s257 Y (show s.1 ≤ e by omega) b1 hL h40 rfl) (by decide) ?_
  rintro z h2 ⟨e0, rfl⟩
  subst h2
  cases hf : p_fi (qL k0 678) L (U s.1) with
  | none =>
    have hn : p_ug set L (U s.1) k0 = none := by unfold p_ug; rw [hf]
    exact b282_67 (fun _ => b282_103 (no hn _)) (fun c => absurd rfl c)
  | some j =>
    have hj := (p_fi_lt hf).1
    have n1 := q_on_ne (j := j) (by omega)
    have cl : (q_on (some j) : Int32).toNatClampNeg = j := nI_clamp (n := j) (by omega)
    have a79 : qA k 679 = qA k0 679 := Y.A (by decide)
    have a82 : qA k 682 = qA k0 682 := Y.A (by decide)
    have hn : p_ug set L (U s.1) k0 = if qA k0 679 j = 0 ∧ (set = true → qA k0 682 j = 0) then some j else none := by unfold p_ug; rw [hf]
    refine b282_67 (fun c2 => absurd c2 n1) (fun _ => b282_75 (v0 := 679) (Y.sh.ok rfl) (Y.sh.ref rfl) (Y.sh.ok rfl) (Y.sh.inN (n := 40) (j := j) rfl (by omega) (by decide)) (fun c2 => b282_103 (no ?_ _)) (fun c2 => b282_85 (fun c3 => b282_99 (yes j ?_ (by omega))) (fun c3 => b282_89 (v0 := 682) (Y.sh.ok rfl) (Y.sh.ref rfl) (Or.inr (Y.sh.ok rfl)) (Y.sh.inN (n := 40) (j := j) rfl (by omega) (by decide)) (fun c4 => b282_103 (no ?_ _)) (fun c4 => b282_99 (yes j ?_ (by omega))))))
    · rw [cl, a79] at c2
      rw [hn, if_neg (fun h9 => c2 h9.1)]
    · rw [cl, a79] at c2
      rw [hn, if_pos ⟨c2, fun h9 => by rw [h9] at c3; exact absurd c3 (by decide)⟩]
    · rw [cl, a82] at c4
      rw [hn, if_neg (fun h9 => c4 (h9.2 (b2i_ne.mp c3)))]
    · rw [cl, a79] at c2
      rw [cl, a82] at c4
      rw [hn, if_pos ⟨c2, fun _ => c4⟩]
end PU
