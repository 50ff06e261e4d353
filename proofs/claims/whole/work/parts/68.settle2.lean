/-! SETTLING, side by side -/
/-- the reference's run comes from here to there -/
def n_go (x1 : Int32) (k : q_Hp) (m : Nat) (k1 : q_Hp) (m1 : Nat) : Prop := ∀ Q : Option Value → q_Hp → Prop, (∀ y3 y4, q_wp 8 339 22 [some (.ref 630), some (.int x1), some (.int (nI m1)), y3, y4] [] k1 Q) → ∀ y3 y4, q_wp 8 339 22 [some (.ref 630), some (.int x1), some (.int (nI m)), y3, y4] [] k Q
theorem n_go.rf {x1 : Int32} {k : q_Hp} {m : Nat} : n_go x1 k m k m := fun _ w => w
theorem n_go.trans {x1 : Int32} {k k1 k2 : q_Hp} {m m1 m2 : Nat} (a : n_go x1 k m k1 m1) (b : n_go x1 k1 m1 k2 m2) : n_go x1 k m k2 m2 := fun Q w => a Q (b Q w)
theorem n_go_close {x1 : Int32} {k k1 : q_Hp} {m d : Nat} (S : q_Sh k) (d0 : 0 < d) (d1 : d ≤ 180) (h4 : qI k 630 104 = 4) (h6 : qI k 630 106 = nI d) (h7 : qA k 707 (d - 1) = 1) (h5 : qA k 705 (d - 1) = -1) (c : q_mV 3 338 [.ref 630] k (fun k' => k' = k1)) : n_go x1 k m k1 m := by
  intro Q w y3 y4
  obtain ⟨n3, n4, n5, n6, n7, n8⟩ := n_l S (show d - 1 < 200 by omega)
  have e6 : qI k 630 106 - 1 = nI (d - 1) := by rw [h6, x_d1 d0]
  have ce : (nI (d - 1) : Int32).toNatClampNeg = d - 1 := nI_clamp (by omega)
  refine b339_22 (s298 S) (by decide) ?_
  rintro z k2 ⟨e0, rfl⟩
  subst k2
  rw [h4]
  refine b339_26 (fun c2 => absurd c2 (by decide)) (fun _ => b339_29 (S.ok rfl) (S.ref (v := 707) rfl) (Or.inr (S.ok rfl)) (by rw [e6]; exact n7) (fun c2 => absurd c2 (by rw [e6, ce, h7]; decide)) (fun _ => ?_))
  rw [e6]
  refine b339_45 (S.ok rfl) (S.ref (v := 705) rfl) (S.ok rfl) n5 (fun c2 => absurd (by rw [ce, h5]) c2) (fun _ => b339_55 c (by decide) ?_)
  rintro k3 rfl
  exact b339_59 (w _ _)
/-- nothing is to be closed -/
def z_t (σ : w_S) : Prop := match σ with
  | (_, d, _, _, _, nx, _, _, bg) => bg (d - 1) = false ∨ 0 < nx (d - 1)
def z_D (h k : q_Hp) (b : Nat) (B : q_Bk) (lev : Nat → Nat) (u : Nat) (σ : w_S) : Prop := (z_G h k b B lev u σ ∧ z_s h k 4 ∧ z_n h σ ∧ z_t σ) ∨ z_e h k b B u σ
theorem z_D.z {h k : q_Hp} {b : Nat} {B : q_Bk} {lev : Nat → Nat} {u : Nat} {σ : w_S} (D : z_D h k b B lev u σ) : z_Z h k b B lev u σ := by
  rcases D with ⟨a, c, d, _⟩ | e
  · exact Or.inl ⟨a, c, d⟩
  · exact Or.inr e
theorem z_e.no {h k : q_Hp} {b : Nat} {B : q_Bk} {u : Nat} {σ : w_S} (E : z_e h k b B u σ) : ¬ qI h 614 4 = 4 := by
  obtain ⟨⟨a, l, t, s⟩, φ⟩ := σ
  obtain ⟨_, _, e, he, s4, _⟩ := E
  rw [s4]
  rcases he with rfl | rfl | rfl <;> decide
theorem z_e.sh {h k : q_Hp} {b : Nat} {B : q_Bk} {u : Nat} {σ : w_S} (E : z_e h k b B u σ) : q_Sh h := by
  obtain ⟨⟨a, l, t, s⟩, φ⟩ := σ
  exact E.1.1
theorem z_Z.run {h k : q_Hp} {b : Nat} {B : q_Bk} {lev : Nat → Nat} {u : Nat} {σ : w_S} (Z : z_Z h k b B lev u σ) (h4 : qI h 614 4 = 4) : z_G h k b B lev u σ ∧ z_s h k 4 ∧ z_n h σ := by
  rcases Z with Z | E
  · exact Z
  · exact absurd h4 E.no
theorem z_Z.stop {h k : q_Hp} {b : Nat} {B : q_Bk} {lev : Nat → Nat} {u : Nat} {σ : w_S} (Z : z_Z h k b B lev u σ) (h4 : ¬ qI h 614 4 = 4) : z_e h k b B u σ := by
  rcases Z with Z | E
  · exact absurd Z.2.1.1 h4
  · exact E
theorem r_go_t {h : q_Hp} (h4 : qI h 614 4 = 4) : r_go h = true := by unfold r_go; rw [h4]; rfl
theorem r_go_f {h : q_Hp} (h4 : ¬ qI h 614 4 = 4) : r_go h = false := by
  unfold r_go
  rw [beq_eq_false_iff_ne]
  exact h4
/-- what settling leaves -/
def z_st (h h1 : q_Hp) (b : Nat) (B : q_Bk) (lev : Nat → Nat) (u : Nat) (σ : w_S) : Prop := w_f h h1 ∧ ∃ σ', ∀ k, z_Z h k b B lev u σ → ∀ x1 m, ∃ k1, n_go x1 k m k1 m ∧ w_g k k1 ∧ z_D h1 k1 b B lev u σ'
theorem z_settle {b : Nat} {B : q_Bk} {lev : Nat → Nat} {u : Nat} (hu : u < 2 ^ 20) : ∀ (r i : Nat) (h k0 : q_Hp) (σ : w_S) (Q : Option Value → q_Hp → Prop), z_Z h k0 b B lev u σ → (qI h 614 4 = 4 → z_sk σ ≤ r) → i + r ≤ 361 → (∀ h1, z_st h h1 b B lev u σ → Q none h1) → q_wp 4 146 2 [some (.ref 614), some (.int (nI i))] [] h Q := by
  intro r
  have ended : ∀ (h k0 : q_Hp) (σ : w_S) (Q : Option Value → q_Hp → Prop) (i : Nat), z_Z h k0 b B lev u σ → ¬ qI h 614 4 = 4 → (∀ h1, z_st h h1 b B lev u σ → Q none h1) → q_wp 4 146 2 [some (.ref 614), some (.int (nI i))] [] h Q := by
    intro h k0 σ Q i Z h4 fin
    have S := (Z.stop h4).sh
    have done : Q none h := fin h ⟨w_f.rf, σ, fun k Zk x1 m => ⟨k, n_go.rf, w_g.rf, Or.inr (Zk.stop h4)⟩⟩
    refine b146_2 (fun _ => b146_41 done) (fun _ => b146_9 (s139 S) (by decide) ?_)
    rintro z h2 ⟨e0, rfl⟩
    subst h2
    rw [r_go_f h4]
    exact b146_13 (fun _ => b146_41 done) (fun c => absurd rfl c)
  induction r with
  | zero =>
    intro i h k0 σ Q Z hr hi fin
    by_cases h4 : qI h 614 4 = 4
    · exfalso
      obtain ⟨G, _, _⟩ := Z.run h4
      obtain ⟨⟨a, l, t, s⟩, d, kd, op, tu, nx, ap, lv, bg⟩ := σ
      obtain ⟨X, ZA, L, A, _⟩ := G
      have := A.1
      have hr : z_rk d (kd (d - 1)) ≤ 0 := hr h4
      unfold z_rk at hr
      split at hr <;> omega
    · exact ended h k0 σ Q i Z h4 fin
  | succ r ih =>
    intro i h k0 σ Q Z hr hi fin
    by_cases h4 : qI h 614 4 = 4
    · obtain ⟨G0, s0, n0⟩ := Z.run h4
      obtain ⟨⟨a, l, t, s⟩, d, kd, op, tu, nx, ap, lv, bg⟩ := σ
      have n0 : qI h 614 6 = (if bg (d - 1) = true then oN (nx (d - 1)) else -1) := n0
      have hr : z_rk d (kd (d - 1)) ≤ r + 1 := hr h4
      obtain ⟨X, ZA, L, A, G, N, D⟩ := G0
      have S := X.1
      have le := A.le
      have d1 := A.1
      have yf := A.2.2.2.2.1 (d - 1) (by omega)
      obtain ⟨G1, G2, G3⟩ := G
      have Gd := G3 (d - 1) (by omega)
      obtain ⟨p1, p2, p3, p4, p5, p6, p7, p8, p9, p10, p11⟩ := ZA.2.2.1
      have T : x_T h d (kd (d - 1)) (op (d - 1)) := ⟨G1, by omega, le.2.2, yf.1, Gd.1, Gd.2.1⟩
      have stay : z_t ((a, l, t, s), d, kd, op, tu, nx, ap, lv, bg) → Q none h := fun ht => fin h ⟨w_f.rf, ((a, l, t, s), d, kd, op, tu, nx, ap, lv, bg), fun k Zk x1 m => ⟨k, n_go.rf, w_g.rf, Or.inl ⟨(Zk.run h4).1, (Zk.run h4).2.1, (Zk.run h4).2.2, ht⟩⟩⟩
      refine b146_2 (fun c => ?_) (fun _ => b146_9 (s139 S) (by decide) ?_)
      · have := (nI_ltI (a := 360) (by decide) (by omega)).mp c
        omega
      rintro z h2 ⟨e0, rfl⟩
      subst h2
      rw [r_go_t h4]
      refine b146_13 (fun c => absurd c (by decide)) (fun _ => b146_16 (S.ok rfl) (fun c => ?_) (fun c => ?_))
      · refine b146_41 (stay ?_)
        rw [n0] at c
        by_cases hb : bg (d - 1) = true
        · rw [if_pos hb] at c
          refine Or.inr ?_
          have : ¬ nx (d - 1) = 0 := fun h9 => c (by rw [h9]; rfl)
          omega
        · rw [if_neg hb] at c
          exact absurd rfl c
      · refine b146_24 (s152 (U := tu (d - 1)) (w := ap (d - 1) + (s - a)) (s := s) X T Gd.2.2.1 (by have := yf.2.2.2.1; omega) p8 (by omega) (fun h9 h8 => ⟨Gd.2.2.2 (Or.inr (Or.inr ⟨h9, h8⟩)), by have := yf.2.2.2.2.2.1; omega⟩) (fun h9 => ⟨yf.2.2.1 (by
          by_cases h8 : d = 1
          · rw [h8] at h9; exact absurd (A.2.2.1.symm.trans h9) (by decide)
          · omega), yf.2.1, (yf.2.2.2.2.2.2.2.2.2.1 h9).1⟩)) (by decide) ?_
        rintro z h2 ⟨e0, rfl⟩
        subst h2
        refine b146_28 (fun c2 => b146_41 ?_) (fun c2 => ?_)
        · have hw := m_dc_t.mp (b2i_ne.mp c2)
          by_cases hb : bg (d - 1) = true
          · rw [n0, if_pos hb] at c
            have nx0 : nx (d - 1) = 0 := by
              by_cases h9 : nx (d - 1) = 0
              · exact h9
              · exfalso
                unfold oN at c
                rw [if_neg h9] at c
                have h12 : bN B 5 ≤ 1200 := X.2.2.1.2.2.2.2.2.1
                have := yf.2.2.2.2.1 hb
                exact q_on_ne (by omega) c
            refine fin h ⟨w_f.rf, ((a, l, t, s), d, un kd (d - 1) (kd (d - 1)), op, un tu (d - 1) (tu (d - 1)), un nx (d - 1) (nx (d - 1)), un ap (d - 1) (ap (d - 1)), un lv (d - 1) (lv (d - 1)), ub bg (d - 1) false), fun k Zk x1 m => ?_⟩
            obtain ⟨Gk, sk, nk⟩ := Zk.run h4
            obtain ⟨k1, c3, g, Gk1, sk1⟩ := z_turn hu Gk sk hb hw
            obtain ⟨X', ZA', L', A', G', N', D'⟩ := Gk
            obtain ⟨m1, m2, m3, m4, m5, m6, m7, m8⟩ := N'.2 (d - 1) (by omega)
            refine ⟨k1, n_go_close ZA'.2.1.1 (by omega) le.2.2 sk.2.1 N'.1 (by rw [m3, if_pos hb]) (by rw [m4 hb, nx0]; rfl) c3, g, Or.inl ⟨Gk1, sk1, ?_, Or.inl ub_e⟩⟩
            show qI h 614 6 = _
            rw [ub_e, if_neg (by decide), n0, if_pos hb, nx0]
            rfl
          · exact stay (Or.inl (Bool.eq_false_iff.mpr hb))
        · have nw := m_dc_f.mp (b2i_eq.mp c2)
          have hb : bg (d - 1) = true := by
            by_cases hb : bg (d - 1) = true
            · exact hb
            · exfalso
              have hb := Bool.eq_false_iff.mpr hb
              rcases yf.2.2.2.2.2.2.1 hb with h9 | h9
              · rcases A.2.2.2.2.2.2 hb h9 with h8 | h8
                · exact nw (Or.inl ⟨h9, Or.inl h8⟩)
                · exact nw (Or.inl ⟨h9, Or.inr (by omega)⟩)
              · exact nw (Or.inr ⟨h9, (yf.2.2.2.2.2.2.2.2.2.1 h9).2.2 hb⟩)
          have nx0 : nx (d - 1) = 0 := by
            rw [n0, if_pos hb] at c
            by_cases h9 : nx (d - 1) = 0
            · exact h9
            · exfalso
              unfold oN at c
              rw [if_neg h9] at c
              have h12 : bN B 5 ≤ 1200 := X.2.2.1.2.2.2.2.2.1
              have := yf.2.2.2.2.1 hb
              exact q_on_ne (by omega) c
          refine b146_31 (z_close hu ⟨X, ZA, L, A, ⟨G1, G2, G3⟩, N, D⟩ h4 hb nw) (by decide) ?_
          rintro h1 ⟨e1, σ1, rk1, hk⟩
          obtain ⟨k1, c1, g1, Z1⟩ := hk k0 ⟨X, ZA, L, A, ⟨G1, G2, G3⟩, N, D⟩ s0
          refine b146_35 ?_
          rw [nI_1]
          refine ih (i + 1) h1 k1 σ1 Q Z1 (fun _ => by omega) (by omega) ?_
          rintro h2 ⟨e2, σ2, hk2⟩
          refine fin h2 ⟨e1.trans e2, σ2, fun k Zk x1 m => ?_⟩
          obtain ⟨Gk, sk, nk⟩ := Zk.run h4
          obtain ⟨k2, c2', g2, Z2⟩ := hk k Gk sk
          obtain ⟨k3, o3, g3, D3⟩ := hk2 k2 Z2 x1 m
          obtain ⟨X', ZA', L', A', G', N', D'⟩ := Gk
          obtain ⟨m1, m2, m3, m4, m5, m6, m7, m8⟩ := N'.2 (d - 1) (by omega)
          exact ⟨k3, (n_go_close ZA'.2.1.1 (by omega) le.2.2 sk.2.1 N'.1 (by rw [m3, if_pos hb]) (by rw [m4 hb, nx0]; rfl) c2').trans o3, g2.trans g3, D3⟩
    · exact ended h k0 σ Q i Z h4 fin
