/-! THE PARSE OF THE REFERENCE: what must not be -/
/-- a node of a NOT, and a link of it -/
def p_nn (P : Nat → Nat) (U : Nat → Int64) (nt q L : Nat) (s : y_S) (k : q_Hp) : q_Hp := p_tl P U (s.1 + 1) L 0 4 (q_on (p_fi (qL k 674) nt (U (s.1 + 3)))) (q_sA (p_fw P (s.1 + 3) (p_fi (qL k 674) nt (U (s.1 + 3))) k) 649 q (q_on (p_fi (qL k 674) nt (U (s.1 + 3)))))
def p_nk (P : Nat → Nat) (U : Nat → Int64) (ns q l L : Nat) (s : y_S) (k : q_Hp) : q_Hp := q_sA (p_tl P U (s.1 + 1) L 1 (nI (6 + l)) (-1) (p_l3 P U ns L (3 * q + l) 651 652 653 s k)) 650 q (nI (l + 1))
def p_nl (K P : Nat → Nat) (U : Nat → Int64) (nt ns q a : Nat) : Nat → Nat → Nat → y_S → q_Hp → q_Hp
  | 0, _, _, _, k => k
  | m + 1, n, l, s, k => if y_is K 6 s = true then p_nl K P U nt ns q a m (n + 1) l (y_no K (decide (n < 1)) s) (p_nn P U nt q (a + n + l) s k) else if y_is K 7 s = true then p_nl K P U nt ns q a m n (l + 1) (y_li K (decide (l < 3)) s) (p_nk P U ns q l (a + n + l) s k) else k
def p_n0 (r c : Nat) (k : q_Hp) : q_Hp := q_sA (q_sA (q_sA k 648 (20 + r) (nI (c + 1))) 649 (2 * (20 + r) + c) (-1)) 650 (2 * (20 + r) + c) 0
def p_n1 (K P : Nat → Nat) (U : Nat → Int64) (nt ns r c a : Nat) (s : y_S) (k : q_Hp) : q_Hp := q_sI (p_nl K P U nt ns (2 * (20 + r) + c) a 1201 0 0 (s.1 + 1, 0) (p_n0 r c k)) 630 68 (nI a)
section PX
variable {K P X : Nat → Nat} {U : Nat → Int64} {e : Nat} {k0 k : q_Hp} {s : y_S}
theorem p_nn_fr {kb : q_Hp} {nt q L : Nat} (F : p_fr kb k0) (hq : 40 ≤ q) : p_fr kb (p_nn P U nt q L s k0) := (F.fw.sA rfl hq).tl
theorem p_nk_fr {kb : q_Hp} {ns q l L : Nat} (F : p_fr kb k0) (hq : 40 ≤ q) : p_fr kb (p_nk P U ns q l L s k0) := (p_l1_fr (p_l2_fr (p_l1_fr F rfl (show 120 ≤ 3 * q + l by omega)) rfl (show 120 ≤ 3 * q + l by omega)) rfl (show 120 ≤ 3 * q + l by omega)).tl.sA rfl hq
theorem p_nl_fr {kb : q_Hp} {nt ns q a : Nat} (hq : 40 ≤ q) : ∀ m n l s k0, p_fr kb k0 → p_fr kb (p_nl K P U nt ns q a m n l s k0) := by
  intro m
  induction m with
  | zero => intro n l s k0 F; exact F
  | succ m ih =>
    intro n l s k0 F
    unfold p_nl
    split
    · exact ih _ _ _ _ (p_nn_fr F hq)
    · split
      · exact ih _ _ _ _ (p_nk_fr F hq)
      · exact F
theorem s269_88 {Q : Option Value → q_Hp → Prop} {q n l : Nat} {b nd : Bool} {x1 x2 : Int32} {l5 l6 l7 l8 l9 l10 : Option Value} (Y : p_y K P X U e k0 k s) (hs : s.2 = 0) (hk : K s.1 < 42) (hnd : y_is K 6 s = nd) (hb : b = if nd = true then decide (n < 1) else decide (l < 3)) (h1 : n ≤ 1) (h3 : l ≤ 3) (hl : qA k0 650 q = nI l) (hq : q < 80) (fin : ∀ k x6, p_y K P X U e k0 k (y_nn K b (y_ps s)) → ((y_ps s).2 = 0 → x6 = nI (y_ps s).1) → q_wp 3 269 147 [some (.ref 630), some (.int x1), some (.int x2), some (.int (nI q)), some (.int (nI n)), some (.int (b2i nd)), some (.int x6), l7, l8, l9, l10] [] k Q) : q_wp 3 269 88 [some (.ref 630), some (.int x1), some (.int x2), some (.int (nI q)), some (.int (nI n)), l5, l6, l7, l8, l9, l10] [] k Q := by
  refine b269_88 (s249 (c := 6) Y (by decide) rfl) (by decide) ?_
  rintro z h2 ⟨e0, rfl⟩
  subst h2
  rw [hnd]
  refine b269_94 (s252 Y (fun _ => hk)) (by decide) ?_
  intro k Y
  have hx := Y.t0
  refine b269_100 (Y.sh.ok rfl) (s249 (c := 40) Y (by decide) rfl) (by decide) ?_
  rintro z h2 ⟨e0, rfl⟩
  subst h2
  generalize qI k 630 11 = x6 at hx ⊢
  have g142 : ∀ k, p_y K P X U e k0 k (if y_is K 40 (y_ps s) = true then y_rm b (y_ps s) else y_ps s) → q_wp 3 269 142 [some (.ref 630), some (.int x1), some (.int x2), some (.int (nI q)), some (.int (nI n)), some (.int (b2i nd)), some (.int x6), l7, l8, l9, l10] [] k Q := by
    intro k Y
    exact b269_142 (s253 (c := 40) Y (by decide) rfl) (by decide) (fun k Y => fin k x6 Y hx)
  have yes : y_is K 40 (y_ps s) = true → b = true → q_wp 3 269 142 [some (.ref 630), some (.int x1), some (.int x2), some (.int (nI q)), some (.int (nI n)), some (.int (b2i nd)), some (.int x6), l7, l8, l9, l10] [] k Q := by
    intro c h
    refine g142 _ ?_
    rw [if_pos c, h]
    exact Y
  have no : y_is K 40 (y_ps s) = true → b = false → q_wp 3 269 137 [some (.ref 630), some (.int x1), some (.int x2), some (.int (nI q)), some (.int (nI n)), some (.int (b2i nd)), some (.int x6), l7, l8, l9, l10] [] k Q := by
    intro c h
    refine b269_137 (s250 (f := 2) Y (by decide) (by decide) rfl) (by decide) (fun k Y => g142 _ ?_)
    rw [if_pos c, h]
    exact Y
  refine b269_111 (fun c => g142 _ ?_) (fun c => b269_114 (fun c1 => ?_) (fun c1 => b269_119 (fun c2 => yes (b2i_ne.mp c) ?_) (fun c2 => b269_124 (no (b2i_ne.mp c) ?_))))
  · rw [b2i_eq.mp c, if_neg (by decide)]
    exact Y
  · have e50 : qA k 650 ((nI q : Int32).toNatClampNeg) = nI l := by rw [nI_clamp (by omega), Y.A (by decide)]; exact hl
    rw [b2i_eq.mp c1, if_neg (by decide)] at hb
    refine b269_127 (v0 := 650) (Y.sh.ok rfl) (Y.sh.ref rfl) (Y.sh.ok rfl) (Y.sh.inN (n := 80) rfl hq (by decide)) (fun c2 => yes (b2i_ne.mp c) ?_) (fun c2 => no (b2i_ne.mp c) ?_)
    · rw [e50] at c2
      rw [hb, decide_eq_true (show l < 3 by have : ¬ l = 3 := fun h9 => c2 (by rw [h9]; rfl); omega)]
    · rw [e50] at c2
      rw [hb, decide_eq_false (show ¬ l < 3 by have := (nI_eq (b := 3) (by omega) (by decide)).mp c2; omega)]
  · rw [b2i_ne.mp c1, if_pos rfl] at hb
    rw [hb, decide_eq_true (show n < 1 by have := (nI_eq (b := 0) (by omega) (by decide)).mp c2; omega)]
  · rw [b2i_ne.mp c1, if_pos rfl] at hb
    rw [hb, decide_eq_false (show ¬ n < 1 by have : ¬ n = 0 := fun h9 => c2 (by rw [h9]; rfl); omega)]
theorem s269_n {Q : Option Value → q_Hp → Prop} {q n l nt L : Nat} {x1 x2 : Int32} {l5 l6 l7 l8 l9 l10 : Option Value} (Y : p_y K P X U e k0 k s) (hs : s.2 = 0) (hnd : y_is K 6 s = true) (h1 : n ≤ 1) (h3 : l ≤ 3) (hl : qA k0 650 q = nI l) (hq : q < 80) (ht : qI k0 630 18 = nI nt) (ht12 : nt ≤ 12) (hL : qI k0 630 68 = nI L) (h40 : L < 40) (bad : ∀ k, p_y K P X U e k0 k (y_no K (decide (n < 1)) s) → ¬ (y_no K (decide (n < 1)) s).2 = 0 → Q none k) (good : ∀ k (l5 l6 l7 l8 l9 l10 : Option Value), (y_no K (decide (n < 1)) s).2 = 0 → p_y K P X U e (p_nn P U nt q L s k0) k (y_no K (decide (n < 1)) s) → q_wp 3 269 70 [some (.ref 630), some (.int x1), some (.int x2), some (.int (nI q)), some (.int (nI (n + 1))), l5, l6, l7, l8, l9, l10] [] k Q) : q_wp 3 269 88 [some (.ref 630), some (.int x1), some (.int x2), some (.int (nI q)), some (.int (nI n)), l5, l6, l7, l8, l9, l10] [] k Q := by
  refine s269_88 (b := decide (n < 1)) (nd := true) Y hs (y_is_lt (by decide) hnd hs) hnd rfl h1 h3 hl hq ?_
  intro k x6 Y hx
  refine b269_147 (s253 (c := 25) Y (by decide) rfl) (by decide) ?_
  intro k Y
  have hx7 := Y.t0
  refine b269_152 (Y.sh.ok rfl) (s253 (c := 40) Y (by decide) rfl) (by decide) ?_
  generalize qI k 630 11 = x7 at hx7 ⊢
  intro k Y
  refine b269_163 (Y.sh.ok rfl) (fun _ => ?_) (fun c => absurd c (by decide))
  refine b269_214 (s253 (c := 26) Y (by decide) rfl) (by decide) ?_
  intro k Y
  refine b269_219 (Y.sh.ok rfl) (fun c => b269_227 (fun c => absurd c (by decide)) (fun _ => ?_)) (fun c => b269_226 (bad _ Y (fun h9 => c (Y.z1.mpr h9))))
  have c0 := Y.z1.mp c
  have a3 := y_nd_z c0
  have a2 := y_nd_z a3
  have a1 := y_nd_z a2
  obtain ⟨h1, h2, h3, g4, h5⟩ := y_hd a1
  obtain ⟨b2, p2⟩ := y_nd_p g4 a2
  obtain ⟨b3, p3⟩ := y_nd_p p2 a3
  obtain ⟨b4, p4⟩ := y_nd_p p3 c0
  have x1e : x6 = nI (s.1 + 1) := (hx (by rw [h1])).trans (by rw [h1])
  have x3e : x7 = nI (s.1 + 3) := (hx7 a2).trans (by rw [p2])
  have le := Y.le
  rw [p4] at le
  have le : s.1 + 5 ≤ e := le
  have e12 := Y.e12
  have lt := of_decide_eq_true h3
  subst x1e
  subst x3e
  obtain rfl : n = 0 := by omega
  refine b269_232 (v0 := 649) (Y.sh.ok rfl) (Y.sh.ref rfl) (s255 (n := nt) (i := s.1 + 3) Y c0 (by omega) b3 ht ht12 rfl) (by decide) ?_
  rintro z k2 ⟨rfl, Y⟩
  have cl : (nI q : Int32).toNatClampNeg = q := nI_clamp (by omega)
  have Y := Y.sA (a := 649) (i := q) (v := q_on (p_fi (qL k0 674) nt (U (s.1 + 3)))) rfl
  refine b269_246 (v0 := 649) (Y.sh.ok rfl) (Y.sh.inN (n := 80) rfl hq (by decide)) (Y.sh.ok rfl) (Y.sh.ref rfl) (Y.sh.ok rfl) (Y.sh.inN (n := 80) rfl hq (by decide)) ?_ (m := 2) (by decide) (fun k Y => b269_261 (b269_342 (good _ _ _ _ _ _ _ c0 Y))) (P := fun k' => p_y K P X U e (p_nn P U nt q L s k0) k' (y_no K (decide (0 < 1)) s))
  rw [cl, qA_sA, if_pos ⟨rfl, rfl⟩]
  exact s258 (n := L) (i := s.1 + 1) Y c0 (by omega) h2 ((p_fw_I (by decide)).trans hL) h40 rfl
theorem s269_l {Q : Option Value → q_Hp → Prop} {q n l ns L : Nat} {x1 x2 : Int32} {l5 l6 l7 l8 l9 l10 : Option Value} (Y : p_y K P X U e k0 k s) (hs : s.2 = 0) (hnd : y_is K 6 s = false) (hlk : y_is K 7 s = true) (h1 : n ≤ 1) (h3 : l ≤ 3) (hl : qA k0 650 q = nI l) (hq : q < 80) (ht : qI k0 630 19 = nI ns) (ht12 : ns ≤ 12) (hL : qI k0 630 68 = nI L) (h40 : L < 40) (bad : ∀ k, p_y K P X U e k0 k (y_li K (decide (l < 3)) s) → ¬ (y_li K (decide (l < 3)) s).2 = 0 → Q none k) (good : ∀ k (l5 l6 l7 l8 l9 l10 : Option Value), (y_li K (decide (l < 3)) s).2 = 0 → p_y K P X U e (p_nk P U ns q l L s k0) k (y_li K (decide (l < 3)) s) → q_wp 3 269 70 [some (.ref 630), some (.int x1), some (.int x2), some (.int (nI q)), some (.int (nI n)), l5, l6, l7, l8, l9, l10] [] k Q) : q_wp 3 269 88 [some (.ref 630), some (.int x1), some (.int x2), some (.int (nI q)), some (.int (nI n)), l5, l6, l7, l8, l9, l10] [] k Q := by
  refine s269_88 (b := decide (l < 3)) (nd := false) Y hs (y_is_lt (by decide) hlk hs) hnd rfl h1 h3 hl hq ?_
  intro k x6 Y hx
  refine b269_147 (s253 (c := 25) Y (by decide) rfl) (by decide) ?_
  intro k Y
  have hx7 := Y.t0
  refine b269_152 (Y.sh.ok rfl) (s253 (c := 40) Y (by decide) rfl) (by decide) ?_
  generalize qI k 630 11 = x7 at hx7 ⊢
  intro k Y
  refine b269_163 (Y.sh.ok rfl) (fun c => absurd rfl c) (fun _ => ?_)
  refine b269_180 (s253 (c := 32) Y (by decide) rfl) (by decide) ?_
  generalize qI k 630 11 = x9
  intro k Y
  have hx8 := Y.t0
  refine b269_186 (Y.sh.ok rfl) (s253 (c := 40) Y (by decide) rfl) (by decide) ?_
  generalize qI k 630 11 = x8 at hx8 ⊢
  intro k Y
  refine b269_197 (s253 (c := 39) Y (by decide) rfl) (by decide) ?_
  intro k Y
  have hxa := Y.t0
  refine b269_203 (Y.sh.ok rfl) (s253 (c := 40) Y (by decide) rfl) (by decide) ?_
  generalize qI k 630 11 = xa at hxa ⊢
  intro k Y
  refine b269_214 (s253 (c := 26) Y (by decide) rfl) (by decide) ?_
  intro k Y
  refine b269_219 (Y.sh.ok rfl) (fun c => b269_227 (fun _ => ?_) (fun c => absurd rfl c)) (fun c => b269_226 (bad _ Y (fun h9 => c (Y.z1.mpr h9))))
  have c0 := Y.z1.mp c
  have aw : (y_wy K (y_nd K 25 (y_nn K (decide (l < 3)) (y_ps s)))).2 = 0 := y_nd_z c0
  have a2 : (y_nd K 25 (y_nn K (decide (l < 3)) (y_ps s))).2 = 0 := (y_to.wy (K := K) (y_to.rf (s := y_nd K 25 (y_nn K (decide (l < 3)) (y_ps s))))).2.1 aw
  have a1 := y_nd_z a2
  obtain ⟨h1, h2, h3, g4, h5⟩ := y_hd a1
  obtain ⟨b2, p2⟩ := y_nd_p g4 a2
  obtain ⟨b3, b4, b5, b6, b7, p3, p4, p5, p6, p7⟩ := y_wy_0 p2 aw
  obtain ⟨b8, p8⟩ := y_nd_p p7 c0
  have x2e : x6 = nI (s.1 + 1) := (hx (by rw [h1])).trans (by rw [h1])
  have x3e : x7 = nI (s.1 + 3) := (hx7 a2).trans (by rw [p2])
  have x4e : x8 = nI (s.1 + 5) := (hx8 (by rw [p4])).trans (by rw [p4])
  have x5e : xa = nI (s.1 + 7) := (hxa (by rw [p6])).trans (by rw [p6])
  have le : (y_nd K 26 (y_wy K (y_nd K 25 (y_nn K (decide (l < 3)) (y_ps s))))).1 ≤ e := Y.le
  rw [p8] at le
  have le : s.1 + 9 ≤ e := le
  have e12 := Y.e12
  have lt := of_decide_eq_true h3
  subst x2e
  subst x3e
  subst x4e
  subst x5e
  have Y : p_y K P X U e k0 k (y_li K (decide (l < 3)) s) := Y
  have c0 : (y_li K (decide (l < 3)) s).2 = 0 := c0
  have e42 : qA k 650 ((nI q : Int32).toNatClampNeg) = nI l := by rw [nI_clamp (by omega), Y.A (by decide)]; exact hl
  have i1 : (3 : Int32) * nI q + nI l = nI (3 * q + l) := by rw [show (3 : Int32) * nI q = nI (3 * q) from pk_mul 3 q, nI_add]
  have i6 : ∀ {k : q_Hp} {a : Nat}, q_Sh k → (decide (a ≤ 712) && (q_kd0 a).2 == 240) = true → q_in (nI (3 * q + l)) (qK k a).2 := fun S h => S.inN (n := 240) h (by omega) (by decide)
  have cl : (nI (3 * q + l) : Int32).toNatClampNeg = 3 * q + l := nI_clamp (by omega)
  refine b269_264 (v0 := 650) (v1 := 652) (Y.sh.ok rfl) (Y.sh.ref rfl) (Y.sh.ok rfl) (Y.sh.inN (n := 80) rfl hq (by decide)) (Y.sh.ref rfl) (s267 (L := L) (i := s.1 + 3) Y c0 (by omega) b3 hL (by omega) rfl) (by decide) ?_
  rintro z k2 ⟨rfl, Y⟩
  rw [e42, i1]
  have Y := Y.sA (a := 652) (i := 3 * q + l) (v := p_eo k0 (p_el k0 L (U (s.1 + 3)))) rfl
  have Y : p_y K P X U e (p_l1 P U L (3 * q + l) 652 (s.1 + 3) k0) _ _ := Y
  refine b269_288 (v0 := 651) (Y.sh.ok rfl) (i6 Y.sh rfl) (Y.sh.ok rfl) (Y.sh.ref rfl) ?_ (m := 1) (by decide) ?_ (P := fun z k' => z = q_on (p_fi (qL (p_l1 P U L (3 * q + l) 652 (s.1 + 3) k0) 675) ns (U (s.1 + 5))) ∧ p_y K P X U e (p_fw P (s.1 + 5) (p_fi (qL (p_l1 P U L (3 * q + l) 652 (s.1 + 3) k0) 675) ns (U (s.1 + 5))) (p_l1 P U L (3 * q + l) 652 (s.1 + 3) k0)) k' (y_li K (decide (l < 3)) s))
  · rw [cl]
    exact s256 (n := ns) (i := s.1 + 5) Y c0 (by omega) b5 ((p_l1_I (by decide)).trans ht) ht12 rfl
  rintro z k3 ⟨rfl, Y⟩
  have Y := Y.sA (a := 651) (i := 3 * q + l) (v := q_on (p_fi (qL (p_l1 P U L (3 * q + l) 652 (s.1 + 3) k0) 675) ns (U (s.1 + 5)))) rfl
  have Y : p_y K P X U e (p_l2 P U ns (3 * q + l) 651 (s.1 + 5) (p_l1 P U L (3 * q + l) 652 (s.1 + 3) k0)) _ _ := Y
  generalize q_on (p_fi (qL (p_l1 P U L (3 * q + l) 652 (s.1 + 3) k0) 675) ns (U (s.1 + 5))) = z5 at Y ⊢
  have I2 : ∀ {j}, ¬ j = 15 ∧ ¬ j = 16 → qI (p_l2 P U ns (3 * q + l) 651 (s.1 + 5) (p_l1 P U L (3 * q + l) 652 (s.1 + 3) k0)) 630 j = qI k0 630 j := fun h => (p_l2_I h).trans (p_l1_I h)
  refine b269_301 (v0 := 653) (Y.sh.ok rfl) (i6 Y.sh rfl) (Y.sh.ok rfl) (Y.sh.ref rfl) ?_ (m := 2) (by decide) ?_ (P := fun z k' => z = p_eo (p_l2 P U ns (3 * q + l) 651 (s.1 + 5) (p_l1 P U L (3 * q + l) 652 (s.1 + 3) k0)) (p_el (p_l2 P U ns (3 * q + l) 651 (s.1 + 5) (p_l1 P U L (3 * q + l) 652 (s.1 + 3) k0)) L (U (s.1 + 7))) ∧ p_y K P X U e (p_fw P (s.1 + 7) (p_el (p_l2 P U ns (3 * q + l) 651 (s.1 + 5) (p_l1 P U L (3 * q + l) 652 (s.1 + 3) k0)) L (U (s.1 + 7))) (p_l2 P U ns (3 * q + l) 651 (s.1 + 5) (p_l1 P U L (3 * q + l) 652 (s.1 + 3) k0))) k' (y_li K (decide (l < 3)) s))
  · rw [cl]
    exact s267 (L := L) (i := s.1 + 7) Y c0 (by omega) b7 ((I2 (by decide)).trans hL) (by omega) rfl
  rintro z k4 ⟨rfl, Y⟩
  have Y := Y.sA (a := 653) (i := 3 * q + l) (v := p_eo (p_l2 P U ns (3 * q + l) 651 (s.1 + 5) (p_l1 P U L (3 * q + l) 652 (s.1 + 3) k0)) (p_el (p_l2 P U ns (3 * q + l) 651 (s.1 + 5) (p_l1 P U L (3 * q + l) 652 (s.1 + 3) k0)) L (U (s.1 + 7)))) rfl
  have Y : p_y K P X U e (p_l3 P U ns L (3 * q + l) 651 652 653 s k0) _ _ := Y
  generalize p_eo (p_l2 P U ns (3 * q + l) 651 (s.1 + 5) (p_l1 P U L (3 * q + l) 652 (s.1 + 3) k0)) (p_el (p_l2 P U ns (3 * q + l) 651 (s.1 + 5) (p_l1 P U L (3 * q + l) 652 (s.1 + 3) k0)) L (U (s.1 + 7))) = z7 at Y ⊢
  have a42 : ∀ {k x s'}, p_y K P X U e (p_l3 P U ns L (3 * q + l) 651 652 653 s k0) k s' → x = 650 → qA k x q = nI l := by
    rintro k x s' Y rfl
    rw [Y.A (by decide), p_l3_A (by decide)]
    exact hl
  refine b269_314 (v0 := 650) (Y.sh.ok rfl) (i6 Y.sh rfl) (Y.sh.ok rfl) (Y.sh.ref rfl) (Y.sh.ok rfl) (Y.sh.inN (n := 80) rfl hq (by decide)) ?_ (m := 2) (by decide) ?_ (P := fun k' => p_y K P X U e (p_tl P U (s.1 + 1) L 1 (nI (6 + l)) (-1) (p_l3 P U ns L (3 * q + l) 651 652 653 s k0)) k' (y_li K (decide (l < 3)) s))
  · rw [cl, nI_clamp (show q < 2 ^ 31 by omega), a42 Y rfl, show (6 : Int32) + nI l = nI (6 + l) from nI_add 6 l]
    exact s258 (n := L) (i := s.1 + 1) Y c0 (by omega) h2 ((p_l3_I (by decide)).trans hL) h40 rfl
  intro k5 Y
  have e42 : qA k5 650 ((nI q : Int32).toNatClampNeg) = nI l := by rw [nI_clamp (by omega), Y.A (by decide), p_tl_A (by decide), p_l3_A (by decide)]; exact hl
  refine b269_332 (v0 := 650) (Y.sh.ok rfl) (Y.sh.ref rfl) (Y.sh.ok rfl) (Y.sh.inN (n := 80) rfl hq (by decide)) (b269_342 (good _ _ _ _ _ _ _ c0 ?_))
  rw [e42, nI_clamp (show q < 2 ^ 31 by omega), nI_1]
  exact Y.sA rfl
end PX
