/-! RUN: the two sides answer alike -/
theorem z_146A {h k0 : q_Hp} {b : Nat} {B : q_Bk} {lev : Nat → Nat} {u : Nat} {σ : w_S} (hu : u < 2 ^ 20) (Z0 : z_Z h k0 b B lev u σ) : q_mV 4 146 [.ref 614] h (fun h1 => z_st h h1 b B lev u σ) := by
  have S : q_Sh h := by
    by_cases h4 : qI h 614 4 = 4
    · obtain ⟨⟨a, l, t, s⟩, d, kd, op, tu, nx, ap, lv, bg⟩ := σ
      exact (Z0.run h4).1.1.1
    · exact (Z0.stop h4).sh
  refine q_mV.of (q_recV rfl (S.ok rfl)) (fun Q fin => ?_)
  refine b146_0 (z_settle hu 360 0 h k0 σ Q Z0 (fun h4 => ?_) (by decide) (fun h1 p => fin h1 p))
  obtain ⟨G, _, _⟩ := Z0.run h4
  obtain ⟨⟨a, l, t, s⟩, d, kd, op, tu, nx, ap, lv, bg⟩ := σ
  have := G.2.2.2.1.le.2.2
  show z_rk d (kd (d - 1)) ≤ 360
  unfold z_rk
  split <;> omega
theorem z_G.l0 {S : List Nat} {h h' k : q_Hp} {b : Nat} {B : q_Bk} {lev : Nat → Nat} {u : Nat} {σ : w_S} (G : z_G h k b B lev u σ) (e : q_Ef S h h') (hS : S.all (fun x => decide (x = 614) || decide (619 < x)) = true) (r : qR h' 614 = qR h 614) (i : qI h' 614 = qI h 614) : z_G h' k b B lev u σ := by
  obtain ⟨⟨a, l, t, s⟩, d, kd, op, tu, nx, ap, lv, bg⟩ := σ
  obtain ⟨X, Z, L, A, ⟨G1, G2, G3⟩, N, D⟩ := G
  have nn : ∀ x, 615 ≤ x → x ≤ 619 → x ∉ S := by
    intro x h1 h2 h3
    have := List.all_eq_true.mp hS x h3
    simp only [Bool.or_eq_true, decide_eq_true_eq] at this
    omega
  have hS1 : S.all (fun x => decide (597 < x)) = true := by
    refine List.all_eq_true.mpr (fun x hx => ?_)
    have := List.all_eq_true.mp hS x hx
    simp only [Bool.or_eq_true, decide_eq_true_eq] at this ⊢
    omega
  have hS2 : S.all (fun x => decide (609 < x)) = true := by
    refine List.all_eq_true.mpr (fun x hx => ?_)
    have := List.all_eq_true.mp hS x hx
    simp only [Bool.or_eq_true, decide_eq_true_eq] at this ⊢
    omega
  refine ⟨X.fr e hS1 r, Z.l e hS2, L, A, ⟨by rw [i]; exact G1, by rw [i]; exact G2, fun f hf => ?_⟩, N, fun f hf hy => ?_⟩
  · rw [e.A (nn 615 (by decide) (by decide)), e.A (nn 616 (by decide) (by decide)), e.A (nn 617 (by decide) (by decide)), e.A (nn 618 (by decide) (by decide))]
    exact G3 f hf
  · rw [e.A (nn 619 (by decide) (by decide))]
    exact D f hf hy
theorem z_Z.l0 {S : List Nat} {h h' k : q_Hp} {b : Nat} {B : q_Bk} {lev : Nat → Nat} {u : Nat} {σ : w_S} (Z : z_Z h k b B lev u σ) (e : q_Ef S h h') (hS : S.all (fun x => decide (x = 614) || decide (619 < x)) = true) (r : qR h' 614 = qR h 614) (i : qI h' 614 = qI h 614) : z_Z h' k b B lev u σ := by
  rcases Z with ⟨G, s, n⟩ | E
  · refine Or.inl ⟨G.l0 e hS r i, ?_, ?_⟩
    · unfold z_s
      rw [i]
      exact s
    · obtain ⟨⟨a, l, t, s⟩, d, kd, op, tu, nx, ap, lv, bg⟩ := σ
      show qI h' 614 6 = _
      rw [i]
      exact n
  · refine Or.inr ?_
    obtain ⟨⟨a, l, t, s⟩, φ⟩ := σ
    obtain ⟨X, Z, q, hq, s⟩ := E
    have hS1 : S.all (fun x => decide (597 < x)) = true := by
      refine List.all_eq_true.mpr (fun x hx => ?_)
      have := List.all_eq_true.mp hS x hx
      simp only [Bool.or_eq_true, decide_eq_true_eq] at this ⊢
      omega
    have hS2 : S.all (fun x => decide (609 < x)) = true := by
      refine List.all_eq_true.mpr (fun x hx => ?_)
      have := List.all_eq_true.mp hS x hx
      simp only [Bool.or_eq_true, decide_eq_true_eq] at this ⊢
      omega
    refine ⟨X.fr e hS1 r, Z.l e hS2, q, hq, ?_⟩
    unfold z_s
    rw [i]
    exact s
/-- .. in the reference's cells nothing else -/
theorem z_Z.r0 {S : List Nat} {h k k' : q_Hp} {b : Nat} {B : q_Bk} {lev : Nat → Nat} {u : Nat} {σ : w_S} (Z : z_Z h k b B lev u σ) (e : q_Ef S k k') (hS : S.all (fun x => decide (x < 630)) = true) : z_Z h k' b B lev u σ := by
  have nn : ∀ x, 630 ≤ x → x ∉ S := by
    intro x hx h3
    have := List.all_eq_true.mp hS x h3
    simp only [decide_eq_true_eq] at this
    omega
  have i := e.I (nn 630 (by decide))
  obtain ⟨⟨a, l, t, s⟩, d, kd, op, tu, nx, ap, lv, bg⟩ := σ
  rcases Z with ⟨⟨X, Z, L, A, G, N, D⟩, s, n⟩ | ⟨X, Z, q, hq, s⟩
  · refine Or.inl ⟨⟨X, Z.r e hS, L, A, G, N.pt (Nat.le_refl _) (by rw [i]; exact N.1) (fun f hf => ?_), fun f hf hy => ?_⟩, ?_, n⟩
    · exact ⟨congrFun (e.A (nn 703 (by decide))) f, congrFun (e.A (nn 704 (by decide))) f, congrFun (e.A (nn 705 (by decide))) f, congrFun (e.A (nn 706 (by decide))) f, congrFun (e.A (nn 707 (by decide))) f, congrFun (e.A (nn 708 (by decide))) f⟩
    · rw [e.A (nn 709 (by decide))]
      exact D f hf hy
    · unfold z_s
      rw [i]
      exact s
  · refine Or.inr ⟨X, Z.r e hS, q, hq, ?_⟩
    unfold z_s
    rw [i]
    exact s
theorem z_146B {h hq k0 : q_Hp} {b : Nat} {B : q_Bk} {lev : Nat → Nat} {u : Nat} {σ : w_S} (hu : u < 2 ^ 20) (p : z_ph h hq b B) (Z0 : z_Z hq k0 b B lev u σ) : q_mV 4 146 [.ref 614] h (fun h1 => w_f h h1 ∧ ∃ σ', ∀ k, z_Z hq k b B lev u σ → ∀ x1 m, ∃ k1, n_go x1 k m k1 m ∧ w_g k k1 ∧ z_D h1 k1 b B lev u σ') := by
  obtain ⟨d, O, pr, s, X, T, O0, O1, k6, v0, u0, h8, h4, h6, hs, s1, d0, eq, rq, iq⟩ := p
  have S : q_Sh h := X.1
  refine q_mV.of (q_recV rfl (S.ok rfl)) (fun Q fin => ?_)
  refine b146_0 (b146_2 (fun c => absurd c (by decide)) (fun _ => b146_9 (s139 S) (by decide) ?_))
  rintro z h2 ⟨e0, rfl⟩
  subst h2
  rw [r_go_t h4]
  refine b146_13 (fun c => absurd c (by decide)) (fun _ => b146_16 (S.ok rfl) (fun c => absurd h6 c) (fun _ => ?_))
  refine b146_24 (s152 (U := 0) (w := 0) (s := s) X T u0 (by decide) hs s1 (fun h9 => by omega) (fun _ => ⟨O0, O1, k6⟩)) (by decide) ?_
  rintro z h2 ⟨e0, rfl⟩
  subst h2
  have nw : ¬ x_W B 2 O 0 0 s := by
    rintro (h9 | h9)
    · omega
    · rw [v0] at h9; omega
  rw [m_dc_f.mpr nw]
  refine b146_28 (fun c => absurd rfl c) (fun _ => b146_31 (s158 X T O1 h8 (fun h9 => by omega)) (by decide) ?_)
  rintro h2 (⟨h9, _⟩ | ⟨_, h9, _⟩ | ⟨_, _, e2, r2, i2⟩)
  · omega
  · omega
  rw [if_neg (by decide), Nat.add_sub_cancel] at i2
  -- as if the frame had never been
  have E2 : q_Ef [614] hq h2 := by
    refine ⟨e2.1.trans eq.1.symm, e2.2.1.trans eq.2.1.symm, e2.2.2.1.trans eq.2.2.1.symm, fun o k hk => (e2.2.2.2.1 o k hk).trans (eq.2.2.2.1 o k hk).symm, fun x hx => ?_⟩
    exact ⟨(e2.I hx).trans (eq.I hx).symm, (e2.R hx).trans (eq.R hx).symm, (e2.A hx).trans (eq.A hx).symm, (e2.L hx).trans (eq.L hx).symm⟩
  have to : ∀ k, z_Z hq k b B lev u σ → z_Z h2 k b B lev u σ := fun k Z => Z.l0 E2 rfl (r2.trans rq.symm) (i2.trans iq.symm)
  refine b146_35 ?_
  refine z_settle hu 360 1 h2 k0 σ Q (to k0 Z0) (fun h4' => ?_) (by decide) (fun h1 q => ?_)
  · obtain ⟨G, _, _⟩ := (to k0 Z0).run h4'
    obtain ⟨⟨a, l, t, s⟩, d, kd, op, tu, nx, ap, lv, bg⟩ := σ
    have := G.2.2.2.1.le.2.2
    show z_rk d (kd (d - 1)) ≤ 360
    unfold z_rk
    split <;> omega
  · obtain ⟨q1, σ', q2⟩ := q
    exact fin h1 ⟨w_f.trans ⟨e2.wide (by decide), r2⟩ q1, σ', fun k Z => q2 k (to k Z)⟩
theorem z_D.up {h k : q_Hp} {b : Nat} {B : q_Bk} {lev : Nat → Nat} {u : Nat} {σ : w_S} (D : z_D h k b B lev u σ) : ∀ m, z_D h k b B lev (u + m) σ := by
  intro m
  induction m with
  | zero => exact D
  | succ m ih =>
    rcases D with ⟨_, s, n, t⟩ | E
    · rcases ih with ⟨G, _⟩ | E
      · have Z : z_Z h k b B lev (u + m) σ := Or.inl ⟨G, s, n⟩
        have := (Z.up).run s.1
        exact Or.inl ⟨this.1, this.2.1, this.2.2, t⟩
      · exact absurd s.1 E.no
    · rcases ih with ⟨_, s, _⟩ | E2
      · exact absurd s.1 E.no
      · have Z : z_Z h k b B lev (u + m) σ := Or.inr E2
        exact Or.inr ((Z.up).stop E.no)
/-- one turn of the class's loop -/
theorem z_turn1 {h k0 : q_Hp} {b : Nat} {B : q_Bk} {lev : Nat → Nat} {u : Nat} {σ : w_S} {x1 x2 : Int32} {Q : Option Value → q_Hp → Prop} (hu : u + 1 < 2 ^ 20) (D0 : z_D h k0 b B lev u σ) (h4 : qI h 614 4 = 4)
    (w : ∀ h1, w_f h h1 → (∃ σ', ∀ k, z_D h k b B lev u σ → ∀ y1 m, m < 1000 → ∃ k1, n_go y1 k (m + 1) k1 m ∧ w_g k k1 ∧ z_D h1 k1 b B lev (u + 1) σ') → q_wp 9 227 61 [some (.ref 1), some (.int x1), some (.int x2)] [] h1 Q) : q_wp 9 227 47 [some (.ref 1), some (.int x1), some (.int x2)] [] h Q := by
  have run : ∀ k, z_D h k b B lev u σ → z_G h k b B lev u σ ∧ z_s h k 4 ∧ z_n h σ ∧ z_t σ := by
    intro k D
    rcases D with D | E
    · exact D
    · exact absurd h4 E.no
  obtain ⟨G0, s0, n0, t0⟩ := run k0 D0
  have S : q_Sh h := by
    obtain ⟨⟨a, l, t, s⟩, d, kd, op, tu, nx, ap, lv, bg⟩ := σ
    exact G0.1.1
  have h145 : q_mV 7 145 [.ref 614] h (fun h1 => z_sp h h1 b B lev u σ) := by
    obtain ⟨⟨a, l, t, s⟩, d, kd, op, tu, nx, ap, lv, bg⟩ := σ
    exact z_145 hu G0 s0 n0 t0
  refine b227_47 (S.ok rfl) (S.ref (v := 614) rfl) h145 (by decide) ?_
  rintro h1 ⟨e1, hq, σ1, hp, hk⟩
  have S1 := e1.1.sh S
  obtain ⟨k1, _, _, Z1⟩ := hk k0 G0 s0 0 0 (by decide)
  rcases hp with rfl | hp
  · refine b227_54 (S1.ok rfl) (S1.ref (v := 614) rfl) (z_146A (by omega) Z1) (by decide) ?_
    rintro h2 ⟨e2, σ2, hk2⟩
    refine w h2 (e1.trans e2) ⟨σ2, fun k D y1 m hm => ?_⟩
    obtain ⟨Gk, sk, _, _⟩ := run k D
    obtain ⟨k2, o2, g2, Z2⟩ := hk k Gk sk y1 m hm
    obtain ⟨k3, o3, g3, D3⟩ := hk2 k2 Z2 y1 m
    exact ⟨k3, o2.trans o3, g2.trans g3, D3⟩
  · refine b227_54 (S1.ok rfl) (S1.ref (v := 614) rfl) (z_146B (by omega) hp Z1) (by decide) ?_
    rintro h2 ⟨e2, σ2, hk2⟩
    refine w h2 (e1.trans e2) ⟨σ2, fun k D y1 m hm => ?_⟩
    obtain ⟨Gk, sk, _, _⟩ := run k D
    obtain ⟨k2, o2, g2, Z2⟩ := hk k Gk sk y1 m hm
    obtain ⟨k3, o3, g3, D3⟩ := hk2 k2 Z2 y1 m
    exact ⟨k3, o2.trans o3, g2.trans g3, D3⟩
/-- the reference's run ends, where nothing is left or the run has ended -/
theorem n_end {h k : q_Hp} {b : Nat} {B : q_Bk} {lev : Nat → Nat} {u m : Nat} {σ : w_S} {x1 : Int32} {y3 y4 : Option Value} {Q : Option Value → q_Hp → Prop} (D : z_D h k b B lev u σ) (hm : qI h 614 4 = 4 → m = 0) (q : Q (some (.int (if qI h 614 4 = 4 then 0 else qI h 614 4))) k) : q_wp 8 339 22 [some (.ref 630), some (.int x1), some (.int (nI m)), y3, y4] [] k Q := by
  obtain ⟨⟨a, l, t, s⟩, d, kd, op, tu, nx, ap, lv, bg⟩ := σ
  rcases D with ⟨⟨X, Z, L, A, G, N, D⟩, sk, n, t9⟩ | ⟨X, Z, e, he, sk⟩
  · have Sk : q_Sh k := Z.2.1.1
    have d1 := A.1
    have le := A.le
    have yf := A.2.2.2.2.1 (d - 1) (by omega)
    have h12 : bN B 5 ≤ 1200 := X.2.2.1.2.2.2.2.2.1
    obtain ⟨n3, n4, n5, n6, n7, n8⟩ := n_l Sk (show d - 1 < 200 by omega)
    have e6 : qI k 630 106 - 1 = nI (d - 1) := by rw [N.1, x_d1 (by omega)]
    have ce : (nI (d - 1) : Int32).toNatClampNeg = d - 1 := nI_clamp (by omega)
    obtain ⟨m1, m2, m3, m4, m5, m6, m7, m8⟩ := N.2 (d - 1) (by omega)
    have m0 := hm sk.1
    subst m0
    rw [if_pos sk.1] at q
    have last : ∀ y4, q_wp 8 339 62 [some (.ref 630), some (.int x1), some (.int (nI 0)), some (.int (nI (d - 1))), y4] [] k Q := fun y4 => b339_62 (fun c => absurd rfl c) (fun _ => b339_66 q)
    refine b339_22 (s298 Sk) (by decide) ?_
    rintro z k2 ⟨e0, rfl⟩
    subst k2
    rw [sk.2.1]
    refine b339_26 (fun c2 => absurd c2 (by decide)) (fun _ => b339_29 (Sk.ok rfl) (Sk.ref (v := 707) rfl) (Or.inr (Sk.ok rfl)) (by rw [e6]; exact n7) (fun c2 => by rw [e6]; exact last _) (fun c2 => ?_))
    rw [e6, ce, m3] at c2
    have hb : bg (d - 1) = true := by
      cases h9 : bg (d - 1) with
      | true => rfl
      | false =>
        rw [h9] at c2
        exact absurd rfl c2
    rw [e6]
    refine b339_45 (Sk.ok rfl) (Sk.ref (v := 705) rfl) (Sk.ok rfl) n5 (fun _ => last _) (fun c3 => ?_)
    exfalso
    rw [ce, m4 hb] at c3
    have hnx : 0 < nx (d - 1) := by
      rcases t9 with h9 | h9
      · rw [hb] at h9; cases h9
      · exact h9
    unfold oN at c3
    rw [if_neg (by omega)] at c3
    have := yf.2.2.2.2.1 hb
    exact q_on_ne (by omega) c3
  · have Sk : q_Sh k := Z.2.1.1
    have h4 : ¬ qI h 614 4 = 4 := by
      rw [sk.1]
      rcases he with rfl | rfl | rfl <;> decide
    rw [if_neg h4] at q
    refine b339_22 (s298 Sk) (by decide) ?_
    rintro z k2 ⟨e0, rfl⟩
    subst k2
    have n4 : (qI k 630 104 == 4) = false := by
      rw [beq_eq_false_iff_ne, sk.2.1, ← sk.1]
      exact h4
    rw [n4]
    refine b339_26 (fun _ => b339_140 (Sk.ok rfl) ?_) (fun c => absurd rfl c)
    rw [sk.2.1, ← sk.1]
    exact q
theorem z_loop {b : Nat} {B : q_Bk} {lev : Nat → Nat} {n : Nat} (hn : n ≤ 40) : ∀ (m i u : Nat) (h k0 : q_Hp) (σ : w_S) (Q : Option Value → q_Hp → Prop), i + m = n → u + m < 2 ^ 20 → z_D h k0 b B lev u σ →
    (∀ z h1, w_f h h1 → (∃ σ', ∀ k, z_D h k b B lev u σ → ∀ x1, ∃ k1, w_g k k1 ∧ z_D h1 k1 b B lev (u + m) σ' ∧ ∀ y3 y4 Q', Q' (some (.int z)) k1 → q_wp 8 339 22 [some (.ref 630), some (.int x1), some (.int (nI m)), y3, y4] [] k Q') → Q (some (.int z)) h1) → q_wp 9 227 32 [some (.ref 1), some (.int (nI n)), some (.int (nI i))] [] h Q := by
  intro m
  have stop : ∀ (m i u : Nat) (h k0 : q_Hp) (σ : w_S) (Q : Option Value → q_Hp → Prop), (qI h 614 4 = 4 → m = 0) → z_D h k0 b B lev u σ →
      (∀ z h1, w_f h h1 → (∃ σ', ∀ k, z_D h k b B lev u σ → ∀ x1, ∃ k1, w_g k k1 ∧ z_D h1 k1 b B lev (u + m) σ' ∧ ∀ y3 y4 Q', Q' (some (.int z)) k1 → q_wp 8 339 22 [some (.ref 630), some (.int x1), some (.int (nI m)), y3, y4] [] k Q') → Q (some (.int z)) h1) → q_wp 9 227 67 [some (.ref 1), some (.int (nI n)), some (.int (nI i))] [] h Q := by
    intro m i u h k0 σ Q hm D0 fin
    have S : q_Sh h := by
      obtain ⟨⟨a, l, t, s⟩, d, kd, op, tu, nx, ap, lv, bg⟩ := σ
      rcases D0 with D | E
      · exact D.1.1.1
      · exact E.1.1
    have go : Q (some (.int (if qI h 614 4 = 4 then 0 else qI h 614 4))) h := fin _ h w_f.rf ⟨σ, fun k D x1 => ⟨k, w_g.rf, D.up m, fun y3 y4 Q' q => n_end D hm q⟩⟩
    refine b227_67 (S.ok rfl) (S.ref (v := 614) rfl) (s139 S) (by decide) ?_
    rintro z h2 ⟨e0, rfl⟩
    subst h2
    by_cases h4 : qI h 614 4 = 4
    · rw [r_go_t h4]
      rw [if_pos h4] at go
      exact b227_74 (fun c => absurd c (by decide)) (fun _ => b227_77 (b227_88 go))
    · rw [r_go_f h4]
      rw [if_neg h4] at go
      refine b227_74 (fun _ => b227_81 (S.ok rfl) (S.ref (v := 614) rfl) (s140 S) (by decide) ?_) (fun c => absurd rfl c)
      rintro z h2 ⟨e0, rfl⟩
      subst h2
      exact b227_88 go
  induction m with
  | zero =>
    intro i u h k0 σ Q hi hu D0 fin
    refine b227_32 (fun _ => stop 0 i u h k0 σ Q (fun _ => rfl) D0 fin) (fun c => absurd ((nI_leI (by omega) (by omega)).mpr (by omega)) c)
  | succ m ih =>
    intro i u h k0 σ Q hi hu D0 fin
    have S : q_Sh h := by
      obtain ⟨⟨a, l, t, s⟩, d, kd, op, tu, nx, ap, lv, bg⟩ := σ
      rcases D0 with D | E
      · exact D.1.1.1
      · exact E.1.1
    refine b227_32 (fun c => ?_) (fun _ => b227_37 (S.ok rfl) (S.ref (v := 614) rfl) (s139 S) (by decide) ?_)
    · have := (nI_leI (by omega) (by omega)).mp c
      omega
    rintro z h2 ⟨e0, rfl⟩
    subst h2
    by_cases h4 : qI h 614 4 = 4
    · rw [r_go_t h4]
      refine b227_44 (fun c => absurd c (by decide)) (fun _ => z_turn1 (by omega) D0 h4 ?_)
      rintro h1 e1 ⟨σ1, hk⟩
      refine b227_61 ?_
      rw [nI_1]
      obtain ⟨k1, _, _, D1⟩ := hk k0 D0 0 0 (by decide)
      refine ih (i + 1) (u + 1) h1 k1 σ1 Q (by omega) (by omega) D1 ?_
      rintro z h2 e2 ⟨σ2, hk2⟩
      refine fin z h2 (e1.trans e2) ⟨σ2, fun k D x1 => ?_⟩
      obtain ⟨k1, o1, g1, D1⟩ := hk k D x1 m (by omega)
      obtain ⟨k2, g2, D2, w2⟩ := hk2 k1 D1 x1
      exact ⟨k2, g1.trans g2, by rw [show u + (m + 1) = u + 1 + m by omega]; exact D2, fun y3 y4 Q' q => o1 Q' (fun y3 y4 => w2 y3 y4 Q' q) y3 y4⟩
    · rw [r_go_f h4]
      exact b227_44 (fun _ => stop (m + 1) i u h k0 σ Q (fun h9 => absurd h9 h4) D0 fin) (fun c => absurd rfl c)
