/-! A DO, side by side -/
theorem n_341 {n : Nat} {k : q_Hp} {e K : Nat} {Q : Option Value → q_Hp → Prop} (S : q_Sh k) (he : e < 1200) (h9 : qA k 669 e = nI K) (hK : K < 8) (w : q_wp n 341 (if K = 0 then 48 else if K = 1 then 65 else if K = 2 then 82 else if K = 3 then 131 else if K = 4 then 168 else if K = 5 then 175 else if K = 6 then 175 else 234) [some (.ref 630), some (.int (nI e)), none, none] [] k Q) : q_wp n 341 0 [some (.ref 630), some (.int (nI e)), none, none] [] k Q := by
  have ce : (nI e : Int32).toNatClampNeg = e := nI_clamp (by omega)
  have key : ∀ j, j < 8 → qA k 669 (nI e : Int32).toNatClampNeg = nI j → K = j := fun j hj c => by
    rw [ce, h9] at c
    exact (nI_eq (by omega) (by omega)).mp c
  refine b341_0 (S.ok rfl) (S.ref (v := 669) rfl) (S.ok rfl) (S.inN (n := 2600) rfl (by omega) (by decide)) (fun c => ?_) (fun c => ?_) (fun c => ?_) (fun c => ?_) (fun c => ?_) (fun c => ?_) (fun c => ?_) (fun c => ?_)
  · rw [key 0 (by decide) c] at w; exact w
  · rw [key 1 (by decide) c] at w; exact w
  · rw [key 2 (by decide) c] at w; exact w
  · rw [key 3 (by decide) c] at w; exact w
  · rw [key 4 (by decide) c] at w; exact w
  · rw [key 5 (by decide) c] at w; exact w
  · rw [key 6 (by decide) c] at w; exact w
  · rw [ce, h9, nI_toInt (by omega)] at c
    rw [show K = 7 by omega] at w; exact w
theorem n_go_do {x1 : Int32} {k k1 : q_Hp} {m d e : Nat} {v : Int32} (S : q_Sh k) (d0 : 0 < d) (d1 : d ≤ 180) (h4 : qI k 630 104 = 4) (h6 : qI k 630 106 = nI d) (h7 : qA k 707 (d - 1) = 1) (h5 : qA k 705 (d - 1) = nI e) (he : e < 1200) (hn : qA k 672 e = v) (hm : m < 1000) (c : q_mV 7 341 [.ref 630, .int (nI e)] (q_sA (q_sI k 630 105 ((qI k 630 105) + 1)) 705 (d - 1) v) (fun k' => k' = k1)) : n_go x1 k (m + 1) k1 m := by
  intro Q w y3 y4
  obtain ⟨n3, n4, n5, n6, n7, n8⟩ := n_l S (show d - 1 < 200 by omega)
  have e6 : qI k 630 106 - 1 = nI (d - 1) := by rw [h6, x_d1 d0]
  have ce : (nI (d - 1) : Int32).toNatClampNeg = d - 1 := nI_clamp (by omega)
  refine b339_22 (s298 S) (by decide) ?_
  rintro z k2 ⟨e0, rfl⟩
  subst k2
  rw [h4]
  refine b339_26 (fun c2 => absurd c2 (by decide)) (fun _ => b339_29 (S.ok rfl) (S.ref (v := 707) rfl) (Or.inr (S.ok rfl)) (by rw [e6]; exact n7) (fun c2 => absurd c2 (by rw [e6, ce, h7]; decide)) (fun _ => ?_))
  rw [e6]
  refine b339_45 (S.ok rfl) (S.ref (v := 705) rfl) (S.ok rfl) n5 (fun _ => b339_62 (fun _ => ?_) (fun c2 => ?_)) (fun c2 => ?_)
  · refine b339_68 (S.ok rfl) (S.ref (v := 707) rfl) (Or.inr (S.ok rfl)) n7 (fun _ => ?_) (fun c2 => absurd c2 (by rw [ce, h7]; decide))
    rw [nI_m1 (by omega), Nat.add_sub_cancel]
    have S1 : q_Sh (q_sI k 630 105 ((qI k 630 105) + 1)) := S
    have f5 : qA (q_sI k 630 105 ((qI k 630 105) + 1)) 705 (nI (d - 1) : Int32).toNatClampNeg = nI e := by rw [ce]; exact h5
    refine b339_110 (v0 := 705) (v1 := 672) (S1.ok rfl) (S1.ref rfl) (S1.ok rfl) n5 (S1.ref rfl) (S1.ok rfl) ?_ (m := 7) (P := fun k' => k' = k1) ?_ (by decide) ?_
    · rw [f5]
      exact S1.inN (n := 2600) rfl (by omega) (by decide)
    · rw [f5, nI_clamp (show e < 2 ^ 31 by omega), ce]
      rw [← hn] at c
      exact c
    rintro k2 rfl
    exact b339_137 (w _ _)
  · have := (nI_eq (a := m + 1) (b := 0) (by omega) (by decide)).mp c2
    omega
  · rw [ce, h5] at c2
    exact absurd c2 (q_on_ne (by omega))
theorem n_go_turn {x1 : Int32} {k k1 : q_Hp} {m d o : Nat} {r : Int32} (S : q_Sh k) (d0 : 0 < d) (d1 : d ≤ 180) (h4 : qI k 630 104 = 4) (h6 : qI k 630 106 = nI d) (h7 : qA k 707 (d - 1) = 0) (h5 : qA k 704 (d - 1) = nI o) (he : o < 1200) (hn : qA k 671 (3 * o) = r) (hm : m < 1000) (c : q_mV 1 333 [.ref 630, .int r] (q_sI k 630 105 ((qI k 630 105) + 1)) (fun k' => k' = k1)) : n_go x1 k (m + 1) k1 m := by
  intro Q w y3 y4
  obtain ⟨n3, n4, n5, n6, n7, n8⟩ := n_l S (show d - 1 < 200 by omega)
  have e6 : qI k 630 106 - 1 = nI (d - 1) := by rw [h6, x_d1 d0]
  have ce : (nI (d - 1) : Int32).toNatClampNeg = d - 1 := nI_clamp (by omega)
  refine b339_22 (s298 S) (by decide) ?_
  rintro z k2 ⟨e0, rfl⟩
  subst k2
  rw [h4]
  refine b339_26 (fun c2 => absurd c2 (by decide)) (fun _ => b339_29 (S.ok rfl) (S.ref (v := 707) rfl) (Or.inr (S.ok rfl)) (by rw [e6]; exact n7) (fun _ => ?_) (fun c2 => absurd (by rw [e6, ce, h7]) c2))
  rw [e6]
  refine b339_62 (fun _ => ?_) (fun c2 => ?_)
  · refine b339_68 (S.ok rfl) (S.ref (v := 707) rfl) (Or.inr (S.ok rfl)) n7 (fun c2 => absurd (by rw [ce, h7]) c2) (fun _ => ?_)
    rw [nI_m1 (by omega), Nat.add_sub_cancel]
    have S1 : q_Sh (q_sI k 630 105 ((qI k 630 105) + 1)) := S
    have f5 : qA (q_sI k 630 105 ((qI k 630 105) + 1)) 704 (nI (d - 1) : Int32).toNatClampNeg = nI o := by rw [ce]; exact h5
    have e3 : (3 : Int32) * nI o = nI (3 * o) := pk_mul 3 o
    refine b339_90 (v0 := 671) (v1 := 704) (S1.ok rfl) (S1.ref rfl) (S1.ref rfl) (S1.ok rfl) n4 (S1.ok rfl) ?_ (m := 1) (P := fun k' => k' = k1) ?_ (by decide) ?_
    · rw [f5, e3]
      exact S1.inN (n := 7800) rfl (by omega) (by decide)
    · rw [f5, e3, nI_clamp (by omega)]
      rw [← hn] at c
      exact c
    rintro k2 rfl
    exact b339_107 (w _ _)
  · have := (nI_eq (a := m + 1) (b := 0) (by omega) (by decide)).mp c2
    omega
/-- an empty loop's frame, that the class opens and the reference doesn't -/
def z_ph (h hq : q_Hp) (b : Nat) (B : q_Bk) : Prop := ∃ d O pr s, x_B h b B ∧ x_T h (d + 1) 2 O ∧ 0 < O ∧ O ≤ bN B 5 ∧ bD B (O - 1) 0 = 6 ∧ bD B (O - 1) 1 = 0 ∧ qA h 617 d = 0 ∧ qI h 614 8 = nI pr ∧ qI h 614 4 = 4 ∧ qI h 614 6 = -1 ∧ qI h 599 4 = nI s ∧ s < 2 ^ 30 ∧ 0 < d ∧ q_Ef [614] h hq ∧ qR hq 614 = qR h 614 ∧ qI hq 614 = upd (upd (upd (qI h 614) 8 (nI pr)) 7 (nI d)) 6 (x_P B O 2)
/-- what a do leaves -/
def z_dp (h h1 : q_Hp) (b : Nat) (B : q_Bk) (lev : Nat → Nat) (u : Nat) (σ : w_S) (e : Nat) : Prop := w_f h h1 ∧ ∃ hq σ', (hq = h1 ∨ z_ph h1 hq b B) ∧ ∀ k, z_G h k b B lev u σ → z_s h k 4 → ∃ k1, q_mV 7 341 [.ref 630, .int (nI e)] k (fun k' => k' = k1) ∧ w_g k k1 ∧ z_Z hq k1 b B lev (u + 1) σ'
theorem z_Z.up {h k : q_Hp} {b : Nat} {B : q_Bk} {lev : Nat → Nat} {u : Nat} {σ : w_S} (Z : z_Z h k b B lev u σ) : z_Z h k b B lev (u + 1) σ := by
  obtain ⟨⟨a, l, t, s⟩, d, kd, op, tu, nx, ap, lv, bg⟩ := σ
  rcases Z with ⟨⟨X, Z, L, A, G, N, D⟩, sk, n⟩ | ⟨X, Z, e⟩
  · have p10 := Z.2.2.1.2.2.2.2.2.2.2.2.2.1
    refine Or.inl ⟨⟨X, Z.up (by omega), L, ?_, G, N, D⟩, sk, n⟩
    obtain ⟨h1, h2, h3, h4, h5, h6⟩ := A
    exact ⟨h1, h2, h3, h4, fun f hf => (h5 f hf).up (h5 f hf).2.2.2.2.2.1 (by omega), h6⟩
  · have p10 := Z.2.2.1.2.2.2.2.2.2.2.2.2.1
    exact Or.inr ⟨X, Z.up (by omega), e⟩
theorem z_val {B : q_Bk} {k : q_Hp} {f : Nat → Int32} {e : Nat} (N : n_X k B f) (he : e < bN B 5) : qA k 669 e = nI (bD B e 0) ∧ (q_val (bD B e 0) → qA k 670 e = nI (bD B e 1)) ∧ qA k 672 e = oN (bD B e 2) ∧ ∀ j, j < 3 → qA k 671 (3 * e + j) = oN (bD B e (3 + j)) := N.2.2.1.2.2.2.2.2.1 e he
section ZD
variable {h k0 : q_Hp} {b : Nat} {B : q_Bk} {lev : Nat → Nat} {u a l t s d e : Nat} {kd op tu nx ap lv : Nat → Nat} {bg : Nat → Bool} {Q : Option Value → q_Hp → Prop}
theorem z_do1 {x2 : Int32} (hu : u + 1 < 2 ^ 20) (G0 : z_G h k0 b B lev u ((a, l, t, s), d, kd, op, tu, nx, ap, lv, bg)) (s0 : z_s h k0 4) (hb : bg (d - 1) = true) (h6 : qI h 614 6 = nI e) (he : e < bN B 5) (hn : nx (d - 1) = bD B e 2) (hk : bD B e 0 = 0) (fin : ∀ h1, z_dp h h1 b B lev u ((a, l, t, s), d, kd, op, tu, nx, ap, lv, bg) e → Q none h1) : q_wp 7 145 108 [some (.ref 614), some (.int (nI (bD B e 1))), some (.int x2), none, none] [] h Q := by
  have X := G0.1
  have S : q_Sh h := X.1
  have w := X.2.2.1
  have h12 : bN B 5 ≤ 1200 := w.2.2.2.2.2.1
  have hr : bD B e 1 < bN B 2 := by
    obtain ⟨lev', _, g⟩ := w.2.2.2.2.2.2.2.2.2.1
    exact (g e he).2.2.2.1 (Or.inl hk)
  refine b145_108 (S.ok rfl) (S.ref (v := 610) rfl) (show qR h 614 3 = b from X.2.2.2.2) (z_once hr (by omega) G0.2.1) (by decide) ?_
  rintro z h2 ⟨e2, a', l', t', s', ho, hk2⟩
  have once : ∀ k, z_G h k b B lev u ((a, l, t, s), d, kd, op, tu, nx, ap, lv, bg) → ∃ k2, q_mI 5 328 [.ref 630, .int (nI (bD B e 1))] k (fun z' k' => z' = (if z = 2 then -3 else z) ∧ k' = k2) ∧ z_g k k2 ∧ z_G h2 k2 b B lev (u + 1) ((a', l', t', s'), d, kd, op, tu, nx, ap, lv, bg) := by
    intro k Gk
    obtain ⟨z', k2, ⟨g2, ez, Z2⟩, c⟩ := q_mI.det (hk2 k Gk.2.1)
    rw [ez] at c
    exact ⟨k2, c, g2, Gk.app e2 g2 Z2 (by omega) hb (by omega)⟩
  obtain ⟨k2, c2, g2, G2⟩ := once k0 G0
  have i614 : qI h2 614 = qI h 614 := q_Ef.I e2 (by decide)
  refine b145_121 (z_done (O := e + 1) (by omega) G2 (by rw [i614]; exact s0.1) hb (by rw [i614, h6, oN_s]) (by omega) (by omega) hn (by rcases ho with ⟨h9, _⟩ | ⟨h9 | h9, _⟩ <;> first | exact Or.inr (Or.inl h9) | exact Or.inl h9 | exact Or.inr (Or.inr h9))) (by decide) ?_
  rintro h3 ⟨e3, σ3, hk3⟩
  refine b145_124 (b145_276 (fin h3 ⟨(z_f.w e2).trans e3, h3, σ3, Or.inl rfl, fun k Gk sk => ?_⟩))
  obtain ⟨k2, c2, g2, G2⟩ := once k Gk
  obtain ⟨k3, c3, g3, Z3⟩ := hk3 k2 G2 ⟨by rw [i614]; exact s0.1, by rw [g2.2 104 (by decide)]; exact sk.2.1, by rw [i614, g2.2 105 (by decide)]; exact sk.2.2⟩
  refine ⟨k3, ?_, g2.w.trans g3, Z3⟩
  have N : n_X k B (qA h 598) := Gk.2.1.2.1
  have Sk := N.1
  obtain ⟨v1, v2, v3, v4⟩ := z_val N he
  refine q_mV.of (q_recV rfl (Sk.ok rfl)) (fun Q' fin' => ?_)
  refine n_341 Sk (by omega) v1 (by omega) ?_
  rw [hk]
  refine b341_48 (v0 := 670) (Sk.ok rfl) (Sk.ref rfl) (Sk.ok rfl) (Sk.inN (n := 2600) rfl (by omega) (by decide)) (by rw [nI_clamp (by omega), v2 (Or.inl hk)]; exact c2) (by decide) ?_
  rintro z2 k4 ⟨rfl, rfl⟩
  refine b341_59 c3 (by decide) ?_
  rintro k5 rfl
  exact b341_62 (b341_248 (fin' _ rfl))
theorem z_do2 {x2 : Int32} (hu : u + 1 < 2 ^ 20) (G0 : z_G h k0 b B lev u ((a, l, t, s), d, kd, op, tu, nx, ap, lv, bg)) (s0 : z_s h k0 4) (hb : bg (d - 1) = true) (h6 : qI h 614 6 = nI e) (he : e < bN B 5) (hn : nx (d - 1) = bD B e 2) (hk : bD B e 0 = 1) (fin : ∀ h1, z_dp h h1 b B lev u ((a, l, t, s), d, kd, op, tu, nx, ap, lv, bg) e → Q none h1) : q_wp 7 145 127 [some (.ref 614), some (.int (nI (bD B e 1))), some (.int x2), none, none] [] h Q := by
  have X := G0.1
  have S : q_Sh h := X.1
  have w := X.2.2.1
  have h12 : bN B 5 ≤ 1200 := w.2.2.2.2.2.1
  have hr : bD B e 1 < bN B 2 := by
    obtain ⟨lev', _, g⟩ := w.2.2.2.2.2.2.2.2.2.1
    exact (g e he).2.2.2.1 (Or.inr hk)
  refine b145_127 (S.ok rfl) (S.ref (v := 610) rfl) (show qR h 614 3 = b from X.2.2.2.2) (z_all hr (by omega) G0.2.1) (by decide) ?_
  rintro h1 ⟨e1, hc⟩
  have S1 : q_Sh h1 := q_Ef.sh e1 S
  refine b145_139 (S1.ok rfl) (S1.ref (v := 610) rfl) (show qR h1 614 3 = b by rw [q_Ef.R e1 (by decide)]; exact X.2.2.2.2) hc (by decide) ?_
  rintro z h2 ⟨e2, a', l', t', s', ho, hk2⟩
  have once : ∀ k, z_G h k b B lev u ((a, l, t, s), d, kd, op, tu, nx, ap, lv, bg) → ∃ k2, q_mI 5 329 [.ref 630, .int (nI (bD B e 1))] k (fun z' k' => z' = (if z = 2 then -3 else z) ∧ k' = k2) ∧ z_g k k2 ∧ z_G h2 k2 b B lev (u + 1) ((a', l', t', s'), d, kd, op, tu, nx, ap, lv, bg) := by
    intro k Gk
    obtain ⟨z', k2, ⟨g2, ez, Z2⟩, c⟩ := q_mI.det (hk2 k Gk.2.1)
    rw [ez] at c
    exact ⟨k2, c, g2, Gk.app e2 g2 Z2 (by omega) hb (by omega)⟩
  obtain ⟨k2, c2, g2, G2⟩ := once k0 G0
  have i614 : qI h2 614 = qI h 614 := q_Ef.I e2 (by decide)
  refine b145_152 (z_done (O := e + 1) (by omega) G2 (by rw [i614]; exact s0.1) hb (by rw [i614, h6, oN_s]) (by omega) (by omega) hn (by rcases ho with ⟨h9, _⟩ | ⟨h9 | h9, _⟩ <;> first | exact Or.inr (Or.inl h9) | exact Or.inl h9 | exact Or.inr (Or.inr h9))) (by decide) ?_
  rintro h3 ⟨e3, σ3, hk3⟩
  refine b145_155 (b145_276 (fin h3 ⟨(z_f.w e2).trans e3, h3, σ3, Or.inl rfl, fun k Gk sk => ?_⟩))
  obtain ⟨k2, c2, g2, G2⟩ := once k Gk
  obtain ⟨k3, c3, g3, Z3⟩ := hk3 k2 G2 ⟨by rw [i614]; exact s0.1, by rw [g2.2 104 (by decide)]; exact sk.2.1, by rw [i614, g2.2 105 (by decide)]; exact sk.2.2⟩
  refine ⟨k3, ?_, g2.w.trans g3, Z3⟩
  have N : n_X k B (qA h 598) := Gk.2.1.2.1
  have Sk := N.1
  obtain ⟨v1, v2, v3, v4⟩ := z_val N he
  refine q_mV.of (q_recV rfl (Sk.ok rfl)) (fun Q' fin' => ?_)
  refine n_341 Sk (by omega) v1 (by omega) ?_
  rw [hk]
  refine b341_65 (v0 := 670) (Sk.ok rfl) (Sk.ref rfl) (Sk.ok rfl) (Sk.inN (n := 2600) rfl (by omega) (by decide)) (by rw [nI_clamp (by omega), v2 (Or.inr (Or.inl hk))]; exact c2) (by decide) ?_
  rintro z2 k4 ⟨rfl, rfl⟩
  refine b341_76 c3 (by decide) ?_
  rintro k5 rfl
  exact b341_79 (b341_248 (fin' _ rfl))
/-- one rule after the other -/
theorem z_any {x1 : Int32} (hu : u + 1 < 2 ^ 20) (hb : bg (d - 1) = true) (he : e < bN B 5) (hn : nx (d - 1) = bD B e 2) {al : Nat → Prop} (hal : ∀ e, al e → e < bN B 5 ∧ bD B e 0 = 0 ∧ (bD B e 2 = 0 ∨ al (bD B e 2 - 1))) (inc : ∀ e, e < bN B 5 → bD B e 2 = 0 ∨ e < bD B e 2 - 1) : ∀ (r E i : Nat) (h k0 : q_Hp) (Q : Option Value → q_Hp → Prop), (E = 0 ∨ (al (E - 1) ∧ bN B 5 - (E - 1) ≤ r)) → i + r ≤ 1200 → z_G h k0 b B lev u ((a, l, t, s), d, kd, op, tu, nx, ap, lv, bg) → z_s h k0 4 → qI h 614 6 = nI e →
    (∀ h1, w_f h h1 → (∃ σ', ∀ k, z_G h k b B lev u ((a, l, t, s), d, kd, op, tu, nx, ap, lv, bg) → z_s h k 4 → ∃ k1, (∀ Q', Q' none k1 → q_wp 7 341 93 [some (.ref 630), some (.int (nI e)), some (.int 0), some (.int (oN E))] [] k Q') ∧ w_g k k1 ∧ z_Z h1 k1 b B lev (u + 1) σ') → Q none h1) → q_wp 7 145 163 [some (.ref 614), some (.int x1), some (.int (oN E)), some (.int 0), some (.int (nI i))] [] h Q := by
  intro r
  have ends : ∀ (i : Nat) (h k0 : q_Hp) (Q : Option Value → q_Hp → Prop), z_G h k0 b B lev u ((a, l, t, s), d, kd, op, tu, nx, ap, lv, bg) → z_s h k0 4 → qI h 614 6 = nI e → i ≤ 1200 →
    (∀ h1, w_f h h1 → (∃ σ', ∀ k, z_G h k b B lev u ((a, l, t, s), d, kd, op, tu, nx, ap, lv, bg) → z_s h k 4 → ∃ k1, (∀ Q', Q' none k1 → q_wp 7 341 93 [some (.ref 630), some (.int (nI e)), some (.int 0), some (.int (oN 0))] [] k Q') ∧ w_g k k1 ∧ z_Z h1 k1 b B lev (u + 1) σ') → Q none h1) → q_wp 7 145 163 [some (.ref 614), some (.int x1), some (.int (oN 0)), some (.int 0), some (.int (nI i))] [] h Q := by
    intro i h k0 Q G0 s0 h6 hi fin
    have last : q_wp 7 145 217 [some (.ref 614), some (.int x1), some (.int (oN 0)), some (.int 0), some (.int (nI i))] [] h Q := by
      refine b145_217 (z_done (O := e + 1) (by omega) G0 s0.1 hb (by rw [h6, oN_s]) (by omega) (by omega) hn (Or.inl rfl)) (by decide) ?_
      rintro h3 ⟨e3, σ3, hk3⟩
      refine b145_222 (b145_276 (fin h3 e3 ⟨σ3, fun k Gk sk => ?_⟩))
      obtain ⟨k3, c3, g3, Z3⟩ := hk3 k Gk sk
      refine ⟨k3, fun Q' fin' => ?_, g3, Z3.up⟩
      rw [if_neg (by decide)] at c3
      refine b341_93 (fun _ => b341_123 c3 (by decide) ?_) (fun c => absurd rfl c)
      rintro k5 rfl
      exact b341_128 (b341_248 fin')
    exact b145_163 (fun _ => last) (fun _ => b145_171 (fun _ => last) (fun c => absurd rfl c))
  induction r with
  | zero =>
    intro E i h k0 Q hE hi G0 s0 h6 fin
    rcases hE with rfl | ⟨ha, hr⟩
    · exact ends i h k0 Q G0 s0 h6 (by omega) fin
    · have := (hal _ ha).1
      omega
  | succ r ih =>
    intro E i h k0 Q hE hi G0 s0 h6 fin
    by_cases E0 : E = 0
    · subst E0
      exact ends i h k0 Q G0 s0 h6 (by omega) fin
    · obtain ⟨f, rfl⟩ : ∃ f, E = f + 1 := ⟨E - 1, by omega⟩
      have hE : al f ∧ bN B 5 - f ≤ r + 1 := by
        rcases hE with h9 | h9
        · omega
        · exact h9
      obtain ⟨f1, f2, f3⟩ := hal f hE.1
      have X := G0.1
      have S : q_Sh h := X.1
      have w := X.2.2.1
      have h12 : bN B 5 ≤ 1200 := w.2.2.2.2.2.1
      have hr : bD B f 1 < bN B 2 := by
        obtain ⟨lev', _, g⟩ := w.2.2.2.2.2.2.2.2.2.1
        exact (g f f1).2.2.2.1 (Or.inl f2)
      refine b145_163 (fun c => ?_) (fun _ => b145_171 (fun c => ?_) (fun _ => b145_176 (fun c => absurd rfl c) (fun _ => ?_)))
      · have := (nI_ltI (a := 1200) (by decide) (by omega)).mp c
        omega
      · rw [oN_s] at c
        exact absurd c (q_on_ne (by omega))
      rw [oN_s]
      refine b145_180 (S.ok rfl) (S.ref (v := 610) rfl) (show qR h 614 3 = b from X.2.2.2.2) (x_p1 X f1) (by decide) ?_
      rintro z h2 ⟨e0, ez⟩
      subst h2
      have ez := ez (Or.inl f2)
      subst ez
      refine b145_197 (z_once hr (by omega) G0.2.1) (by decide) ?_
      rintro z h2 ⟨e2, a', l', t', s', ho, hk2⟩
      have i614 : qI h2 614 = qI h 614 := q_Ef.I e2 (by decide)
      have X2 : x_B h2 b B := X.row (z_f.w e2)
      have S2 := X2.1
      have once : ∀ k, z_G h k b B lev u ((a, l, t, s), d, kd, op, tu, nx, ap, lv, bg) → ∃ k2, q_mI 5 328 [.ref 630, .int (nI (bD B f 1))] k (fun z' k' => z' = (if z = 2 then -3 else z) ∧ k' = k2) ∧ z_g k k2 ∧ z_G h2 k2 b B lev (u + 1) ((a', l', t', s'), d, kd, op, tu, nx, ap, lv, bg) := by
        intro k Gk
        obtain ⟨z', k2, ⟨g2, ez, Z2⟩, c⟩ := q_mI.det (hk2 k Gk.2.1)
        rw [ez] at c
        exact ⟨k2, c, g2, Gk.app e2 g2 Z2 (by omega) hb (by omega)⟩
      have ref : ∀ k k2, z_G h k b B lev u ((a, l, t, s), d, kd, op, tu, nx, ap, lv, bg) → q_mI 5 328 [.ref 630, .int (nI (bD B f 1))] k (fun z' k' => z' = (if z = 2 then -3 else z) ∧ k' = k2) → z_g k k2 → ∀ Q', q_wp 7 341 93 [some (.ref 630), some (.int (nI e)), some (.int (if z = 2 then -3 else z)), some (.int (oN (bD B f 2)))] [] k2 Q' → q_wp 7 341 93 [some (.ref 630), some (.int (nI e)), some (.int 0), some (.int (oN (f + 1)))] [] k Q' := by
        intro k k2 Gk c2 g2 Q' w'
        have N : n_X k B (qA h 598) := Gk.2.1.2.1
        have Sk := N.1
        obtain ⟨v1, v2, v3, v4⟩ := z_val N f1
        rw [oN_s]
        refine b341_93 (fun c => absurd c (q_on_ne (by omega))) (fun _ => b341_98 (fun c => absurd rfl c) (fun _ => ?_))
        refine b341_102 (v0 := 670) (Sk.ok rfl) (Sk.ref rfl) (Sk.ok rfl) (Sk.inN (n := 2600) rfl (by omega) (by decide)) (by rw [nI_clamp (by omega), v2 (Or.inl f2)]; exact c2) (by decide) ?_
        rintro z2 k4 ⟨rfl, rfl⟩
        have Sk2 := g2.1.sh Sk
        refine b341_112 (v0 := 672) (Sk2.ok rfl) (Sk2.ref rfl) (Sk2.ok rfl) (Sk2.inN (n := 2600) rfl (by omega) (by decide)) ?_
        rw [nI_clamp (by omega), g2.1.A (show 672 ∉ [630, 691, 692, 695, 696, 697, 698, 699, 700, 701, 702] by decide), v3]
        exact w'
      have sk2 : ∀ k k2, z_s h k 4 → z_g k k2 → z_s h2 k2 4 := fun k k2 sk g2 => ⟨by rw [i614]; exact s0.1, by rw [g2.2 104 (by decide)]; exact sk.2.1, by rw [i614, g2.2 105 (by decide)]; exact sk.2.2⟩
      refine b145_200 (S2.ok rfl) (show qR h2 614 3 = b from X2.2.2.2.2) (show q_mI 1 20 [.ref b, .int (nI f), .int 2] h2 (fun z h' => h' = h2 ∧ z = oN (bD B f 2)) from ?_) (by decide) ?_
      · have := x_pt (k := 2) X2 (O := f + 1) (by omega) (by decide) (by decide)
        rw [oN_s, x_P_s (by omega), Nat.add_sub_cancel] at this
        exact this
      rintro z3 h3 ⟨e3, rfl⟩
      subst h3
      refine b145_210 ?_
      rw [nI_1]
      by_cases z0 : z = 0
      · -- none: on
        subst z0
        have back : ∀ k2, z_G h2 k2 b B lev (u + 1) ((a', l', t', s'), d, kd, op, tu, nx, ap, lv, bg) → ∀ k, z_G h k b B lev u ((a, l, t, s), d, kd, op, tu, nx, ap, lv, bg) → z_g k k2 → z_G h2 k2 b B lev u ((a, l, t, s), d, kd, op, tu, nx, ap, lv, bg) := by
          intro k2 G2 k Gk g2
          have p10 := Gk.2.1.2.2.1.2.2.2.2.2.2.2.2.2.1
          have Z2 := G2.2.1
          rcases ho with ⟨h9, _⟩ | ⟨_, rfl, rfl, rfl, rfl, _⟩
          · exact absurd h9 (by decide)
          · exact Gk.app e2 g2 (Z2.up p10) (Or.inr ⟨rfl, rfl⟩) hb (Nat.le_refl _)
        obtain ⟨k2, c2, g2, G2⟩ := once k0 G0
        refine ih (bD B f 2) (i + 1) h2 k2 Q ?_ (by omega) (back k2 G2 k0 G0 g2) (sk2 k0 k2 s0 g2) (by rw [i614]; exact h6) ?_
        · rcases f3 with h9 | h9
          · exact Or.inl h9
          · rcases inc f f1 with h8 | h8
            · exact Or.inl h8
            · exact Or.inr ⟨h9, by omega⟩
        · rintro h4 e4 ⟨σ', hk4⟩
          refine fin h4 ((z_f.w e2).trans e4) ⟨σ', fun k Gk sk => ?_⟩
          obtain ⟨k3, c3, g3, G3⟩ := once k Gk
          obtain ⟨k4, w4, g4, Z4⟩ := hk4 k3 (back k3 G3 k Gk g3) (sk2 k k3 sk g3)
          refine ⟨k4, fun Q' fin' => ref k k3 Gk c3 g3 Q' ?_, g3.w.trans g4, Z4⟩
          rw [if_neg (by decide)]
          exact w4 Q' fin'
      · -- this one is applied, or breaks
        obtain ⟨k2, c2, g2, G2⟩ := once k0 G0
        have last : q_wp 7 145 217 [some (.ref 614), some (.int x1), some (.int (oN (bD B f 2))), some (.int z), some (.int (nI (i + 1)))] [] h2 Q := by
          refine b145_217 (z_done (O := e + 1) (by omega) G2 (by rw [i614]; exact s0.1) hb (by rw [i614, h6, oN_s]) (by omega) (by omega) hn (by rcases ho with ⟨h9, _⟩ | ⟨h9 | h9, _⟩ <;> first | exact Or.inr (Or.inl h9) | exact Or.inl h9 | exact Or.inr (Or.inr h9))) (by decide) ?_
          rintro h3 ⟨e3, σ3, hk3⟩
          refine b145_222 (b145_276 (fin h3 ((z_f.w e2).trans e3) ⟨σ3, fun k Gk sk => ?_⟩))
          obtain ⟨k3, c3, g3, G3⟩ := once k Gk
          obtain ⟨k4, c4, g4, Z4⟩ := hk3 k3 G3 (sk2 k k3 sk g3)
          refine ⟨k4, fun Q' fin' => ref k k3 Gk c3 g3 Q' ?_, g3.w.trans g4, Z4⟩
          have l2 : q_wp 7 341 123 [some (.ref 630), some (.int (nI e)), some (.int (if z = 2 then -3 else z)), some (.int (oN (bD B f 2)))] [] k3 Q' := by
            refine b341_123 c4 (by decide) ?_
            rintro k5 rfl
            exact b341_128 (b341_248 fin')
          refine b341_93 (fun _ => l2) (fun _ => b341_98 (fun _ => l2) (fun c => ?_))
          exfalso
          split at c
          · exact absurd c (by decide)
          · exact z0 c
        exact b145_163 (fun _ => last) (fun _ => b145_171 (fun _ => last) (fun _ => b145_176 (fun _ => last) (fun c => absurd c z0)))
theorem z_do3 {x1 : Int32} (hu : u + 1 < 2 ^ 20) (G0 : z_G h k0 b B lev u ((a, l, t, s), d, kd, op, tu, nx, ap, lv, bg)) (s0 : z_s h k0 4) (hb : bg (d - 1) = true) (h6 : qI h 614 6 = nI e) (he : e < bN B 5) (hn : nx (d - 1) = bD B e 2) (hk : bD B e 0 = 2) (fin : ∀ h1, z_dp h h1 b B lev u ((a, l, t, s), d, kd, op, tu, nx, ap, lv, bg) e → Q none h1) : q_wp 7 145 158 [some (.ref 614), some (.int x1), some (.int (oN (bD B e 3))), none, none] [] h Q := by
  have X := G0.1
  have w := X.2.2.1
  have h12 : bN B 5 ≤ 1200 := w.2.2.2.2.2.1
  obtain ⟨lev', _, g⟩ := w.2.2.2.2.2.2.2.2.2.1
  obtain ⟨p3, al, al0, hal⟩ := (g e he).2.2.2.2.2.2.2.2 hk
  refine b145_158 (z_any (x1 := x1) hu hb he hn hal (fun e he => ?_) 1200 (bD B e 3) 0 h k0 Q (Or.inr ⟨al0, by omega⟩) (by decide) G0 s0 h6 ?_)
  · rcases (g e he).2.2.2.2.2.2.1 with h9 | h9
    · exact Or.inl h9
    · exact Or.inr h9.1
  · rintro h1 e1 ⟨σ', hk1⟩
    refine fin h1 ⟨e1, h1, σ', Or.inl rfl, fun k Gk sk => ?_⟩
    obtain ⟨k1, w1, g1, Z1⟩ := hk1 k Gk sk
    refine ⟨k1, ?_, g1, Z1⟩
    have N : n_X k B (qA h 598) := Gk.2.1.2.1
    have Sk := N.1
    obtain ⟨v1, v2, v3, v4⟩ := z_val N he
    refine q_mV.of (q_recV rfl (Sk.ok rfl)) (fun Q' fin' => ?_)
    refine n_341 Sk (by omega) v1 (by omega) ?_
    rw [hk]
    have e3 : (3 : Int32) * nI e = nI (3 * e) := pk_mul 3 e
    refine b341_82 (v0 := 671) (Sk.ok rfl) (Sk.ref rfl) (Sk.ok rfl) (by rw [e3]; exact Sk.inN (n := 7800) rfl (by omega) (by decide)) ?_
    rw [e3, nI_clamp (by omega), show qA k 671 (3 * e) = oN (bD B e 3) from v4 0 (by decide)]
    exact w1 Q' (fin' _ rfl)
theorem z_do5 {x1 x2 : Int32} (hu : u + 1 < 2 ^ 20) (G0 : z_G h k0 b B lev u ((a, l, t, s), d, kd, op, tu, nx, ap, lv, bg)) (s0 : z_s h k0 4) (hb : bg (d - 1) = true) (he : e < bN B 5) (hk : bD B e 0 = 4) (fin : ∀ h1, z_dp h h1 b B lev u ((a, l, t, s), d, kd, op, tu, nx, ap, lv, bg) e → Q none h1) : q_wp 7 145 272 [some (.ref 614), some (.int x1), some (.int x2), none, none] [] h Q := by
  have X := G0.1
  have w := X.2.2.1
  have h12 : bN B 5 ≤ 1200 := w.2.2.2.2.2.1
  refine b145_272 (z_fail (by omega) G0 s0.1 hb) (by decide) ?_
  rintro h1 ⟨e1, σ', hk1⟩
  refine b145_276 (fin h1 ⟨e1, h1, σ', Or.inl rfl, fun k Gk sk => ?_⟩)
  obtain ⟨k1, c1, g1, Z1⟩ := hk1 k Gk sk
  refine ⟨k1, ?_, g1, Z1.up⟩
  have N : n_X k B (qA h 598) := Gk.2.1.2.1
  have Sk := N.1
  obtain ⟨v1, v2, v3, v4⟩ := z_val N he
  refine q_mV.of (q_recV rfl (Sk.ok rfl)) (fun Q' fin' => ?_)
  refine n_341 Sk (by omega) v1 (by omega) ?_
  rw [hk]
  refine b341_168 c1 (by decide) ?_
  rintro k2 rfl
  exact b341_172 (b341_248 (fin' _ rfl))
end ZD
