/-! THE REFERENCE'S MATCHER: from one match to the next -/
theorem s318 {h : q_Hp} (S : q_Sh h) : q_mV 0 318 [.ref 630] h (fun h' => n_fr h h' ∧ ∀ i, i < 4 → qA h' 695 i = 0) := by
  refine q_mV.of (q_recV rfl (S.ok rfl)) (fun Q fin => ?_)
  have loop : ∀ m i h1, i + m = 4 → n_fr h h1 → (∀ j, j < i → qA h1 695 j = 0) → q_wp 0 318 2 [some (.ref 630), some (.int (nI i))] [] h1 Q := by
    intro m
    induction m with
    | zero =>
      intro i h1 hi e g
      obtain rfl : i = 4 := by omega
      exact b318_2 (fun _ => b318_20 (fin _ ⟨e, g⟩)) (fun h1 => absurd (Int32.le_refl _) h1)
    | succ m ih =>
      intro i h1 hi e g
      have S1 := e.1.sh S
      refine b318_2 (fun h1 => absurd ((nI_gec (k := 4) (by omega) (by decide) rfl).mp h1) (by omega)) (fun _ => b318_7 (S1.ok rfl) (S1.ref (v := 695) rfl) (S1.ok rfl) (S1.inN (n := 5) rfl (by omega) (by decide)) ?_)
      rw [nI_1, nI_clamp (by omega)]
      refine ih (i + 1) _ (by omega) (e.trans (n_fr.sA (by decide))) (fun j hj => ?_)
      rw [qA_sAu]
      by_cases h3 : j = i
      · rw [h3, upd_eq]
      · rw [upd_ne h3]
        exact g j (by omega)
  exact b318_0 (loop 4 0 h rfl n_fr.rf (fun j hj => absurd hj (Nat.not_lt_zero _)))
theorem m_div {v q P : Nat} (hP : 0 < P) (e : v + 1 = (q + 1) * P) : v / P = q := by
  rw [Nat.add_mul, Nat.one_mul] at e
  exact Nat.div_eq_of_lt_le (by omega) (by rw [Nat.add_mul, Nat.one_mul]; omega)
theorem m_im_0 {N i : Nat} : m_im N 0 i = 0 := by
  unfold m_im
  rw [Nat.zero_div]
theorem s319 {h : q_Hp} {B : q_Bk} {r v : Nat} {f : Nat → Int32} (X : n_X h B f) (hr : r < bN B 2) (hn : n_nd h (bR B r 0 0) (m_im (bR B r 0 0) v)) (hv : v < 12 ^ bR B r 0 0) : q_mI 0 319 [.ref 630, .int (nI r)] h (fun z h' => n_fr h h' ∧ ((z = 1 ∧ v + 1 < 12 ^ bR B r 0 0 ∧ n_nd h' (bR B r 0 0) (m_im (bR B r 0 0) (v + 1))) ∨ (z = 0 ∧ v + 1 = 12 ^ bR B r 0 0))) := by
  have S := X.1
  have w := X.2.1
  have h20 : r < 20 := by have := w.2.2.1; omega
  have wr : q_wR B (bR B r) := w.2.2.2.2.2.2.2.2.2.2 r hr
  have h4 : bR B r 0 0 ≤ 4 := wr.1
  have mR := X.2.2.1.2.2.2.2.2.2 r hr
  have e41 : qA h 641 (nI r).toNatClampNeg = nI (bR B r 0 0) := by rw [nI_clamp (by omega)]; exact mR.1
  refine q_mI.of (q_recV rfl (S.ok rfl)) (fun Q fin => ?_)
  generalize hN : bR B r 0 0 = N at *
  have loop : ∀ k q h1, k ≤ N → n_fr h h1 → (∀ j, j < k → qA h1 695 j = nI (m_im N v j)) → (∀ j, k ≤ j → j < N → qA h1 695 j = 0) → v + 1 = (q + 1) * 12 ^ (N - k) → q_wp 0 319 9 [some (.ref 630), some (.int (nI r)), some (.int (nI k + (-1)))] [] h1 Q := by
    intro k
    induction k with
    | zero =>
      intro q h1 hk e g1 g2 g3
      refine b319_9 (fun _ => b319_37 (fun h9 => absurd h9 (by decide)) (fun _ => b319_41 (fin _ _ ⟨e, Or.inr ⟨rfl, ?_⟩⟩))) (fun h9 => absurd (show nI 0 + (-1) < 0 by decide) h9)
      rw [Nat.sub_zero] at g3
      have : 1 * 12 ^ N ≤ (q + 1) * 12 ^ N := Nat.mul_le_mul_right _ (by omega)
      omega
    | succ k ih =>
      intro q h1 hk e g1 g2 g3
      have S1 := e.1.sh S
      have hP : 0 < 12 ^ (N - (k + 1)) := Nat.pow_pos (by decide)
      have dq := m_div hP g3
      have dk : m_im N v k = q % 12 := by
        unfold m_im
        rw [show N - 1 - k = N - (k + 1) by omega, dq]
      have ek : qA h1 695 (nI k).toNatClampNeg = nI (q % 12) := by rw [nI_clamp (by omega), g1 k (by omega), dk]
      have i5 : q_in (nI k) (qK h1 695).2 := S1.inN (n := 5) rfl (by omega) (by decide)
      rw [nI_m1 (by omega), show k + 1 - 1 = k from rfl]
      refine b319_9 (fun h9 => absurd h9 (nI_pos (by omega))) (fun _ => b319_13 (S1.ok rfl) (S1.ref (v := 695) rfl) (S1.ok rfl) i5 (fun c1 => b319_37 (fun _ => b319_43 (S1.ok rfl) (S1.ref (v := 695) rfl) (S1.ok rfl) i5 ?_) (fun h9 => absurd ((nI_leI (a := 0) (by decide) (by omega)).mpr (Nat.zero_le _)) h9)) (fun c1 => b319_24 (S1.ok rfl) (S1.ref (v := 695) rfl) (S1.ok rfl) i5 ?_))
      · rw [ek] at c1
        have c2 : ¬ q % 12 = 11 := fun h9 => c1 (by rw [h9]; rfl)
        rw [ek, nI_1, nI_clamp (by omega)]
        have q3 : qA (q_sA h1 695 k (nI (q % 12 + 1))) 695 = upd (qA h1 695) k (nI (q % 12 + 1)) := qA_sAu _ _ _ _
        refine fin _ _ ⟨e.trans (n_fr.sA (by decide)), Or.inl ⟨rfl, ?_, fun j hj => ⟨?_, m_im_lt⟩⟩⟩
        · refine Nat.lt_of_le_of_ne (by omega) (fun h9 => c2 ?_)
          have h8 : 12 ^ N = 12 ^ (k + 1) * 12 ^ (N - (k + 1)) := by rw [← Nat.pow_add, show k + 1 + (N - (k + 1)) = N by omega]
          rw [h9, h8] at g3
          have h7 := Nat.eq_of_mul_eq_mul_right hP g3
          rw [Nat.pow_succ] at h7
          omega
        · rw [q3]
          have hm : m_im N (v + 1) j = (v + 1) / 12 ^ (N - 1 - j) % 12 := rfl
          rcases Nat.lt_trichotomy j k with h9 | h9 | h9
          · rw [upd_ne (by omega), g1 j (by omega), hm]
            unfold m_im
            have hx : N - 1 - j = (N - (k + 1)) + ((k - j - 1) + 1) := by omega
            rw [hx, Nat.pow_add, ← Nat.div_div_eq_div_mul, ← Nat.div_div_eq_div_mul, dq, g3, Nat.mul_div_cancel _ hP, Nat.pow_succ, Nat.mul_comm (12 ^ (k - j - 1)) 12, ← Nat.div_div_eq_div_mul, ← Nat.div_div_eq_div_mul, show (q + 1) / 12 = q / 12 by omega]
          · subst h9
            rw [upd_eq, hm, show N - 1 - j = N - (j + 1) by omega, g3, Nat.mul_div_cancel _ hP, show (q + 1) % 12 = q % 12 + 1 by omega]
          · rw [upd_ne (by omega), g2 j (by omega) hj, hm, g3]
            have hx : N - (k + 1) = (N - 1 - j) + ((j - k - 1) + 1) := by omega
            rw [hx, Nat.pow_add, Nat.mul_left_comm, Nat.mul_div_cancel_left _ (Nat.pow_pos (by decide)), Nat.pow_succ, ← Nat.mul_assoc, Nat.mul_mod_left]
            rfl
      · rw [ek] at c1
        have c2 : q % 12 = 11 := (nI_eq (b := 11) (by omega) (by decide)).mp c1
        rw [nI_clamp (by omega)]
        have q3 : qA (q_sA h1 695 k 0) 695 = upd (qA h1 695) k 0 := qA_sAu _ _ _ _
        refine ih (q / 12) _ (by omega) (e.trans (n_fr.sA (by decide))) (fun j hj => ?_) (fun j h9 h8 => ?_) ?_
        · rw [q3, upd_ne (by omega)]
          exact g1 j (by omega)
        · rw [q3]
          by_cases h7 : j = k
          · rw [h7, upd_eq]
          · rw [upd_ne h7]
            exact g2 j (by omega) h8
        · rw [g3, show N - k = (N - (k + 1)) + 1 by omega, Nat.pow_succ, Nat.mul_comm (12 ^ (N - (k + 1))) 12, ← Nat.mul_assoc, show (q / 12 + 1) * 12 = q + 1 by omega]
  refine b319_0 (S.ok rfl) (S.ref (v := 641) rfl) (S.ok rfl) (S.inN (n := 40) rfl (by omega) (by decide)) ?_
  rw [e41, show nI N - 1 = nI N + (-1) from Int32.sub_eq_add_neg ..]
  exact loop N v h (Nat.le_refl _) n_fr.rf (fun j hj => (hn j hj).1) (fun j h9 h8 => by omega) (by rw [Nat.sub_self, Nat.pow_zero, Nat.mul_one])
/-- where the reference's search stands -/
def n_at (h : q_Hp) (N v : Nat) : Prop := n_nd h N (m_im N v) ∧ v < 12 ^ N
theorem n_at_0 {h : q_Hp} {N : Nat} (hN : N ≤ 4) (e : ∀ i, i < 4 → qA h 695 i = 0) : n_at h N 0 := ⟨fun i hi => ⟨by rw [m_im_0]; exact e i (by omega), m_im_lt⟩, Nat.pow_pos (by decide)⟩
theorem s320 {h : q_Hp} {B : q_Bk} {r v : Nat} {f : Nat → Int32} (X : n_X h B f) (hr : r < bN B 2) (hn : n_at h (bR B r 0 0) v) : q_mI 4 320 [.ref 630, .int (nI r)] h (fun z h' => n_fr h h' ∧ z = b2i (q_fst (m_M B (qA h 691) (bR B r)) v (12 ^ bR B r 0 0 - v)).isSome ∧ ∀ u, q_fst (m_M B (qA h 691) (bR B r)) v (12 ^ bR B r 0 0 - v) = some u → n_at h' (bR B r 0 0) u ∧ ∀ L, m_ma B (qA h 691) (m_im (bR B r 0 0) u) (bR B r) L → n_lk h' (bR B r 0 1) L) := by
  have S := X.1
  have wr : q_wR B (bR B r) := X.2.1.2.2.2.2.2.2.2.2.2.2 r hr
  have h4 : bR B r 0 0 ≤ 4 := wr.1
  refine q_mI.of (q_recV rfl (S.ok rfl)) (fun Q fin => ?_)
  have loop : ∀ m u h1, u + m = 12 ^ bR B r 0 0 → 0 < m → v ≤ u → n_fr h h1 → n_nd h1 (bR B r 0 0) (m_im (bR B r 0 0) u) → (∀ y, v ≤ y → y < u → m_M B (qA h 691) (bR B r) y = false) → q_wp 4 320 2 [some (.ref 630), some (.int (nI r)), some (.int 1)] [] h1 Q := by
    intro m
    induction m with
    | zero => intro u h1 _ h0; omega
    | succ m ih =>
      intro u h1 hu h0 hvu e hn1 g
      have X1 := X.of e
      have f1 : qA h1 691 = qA h 691 := e.A (by decide)
      refine b320_2 (fun h9 => absurd h9 (by decide)) (fun _ => b320_6 (s314 X1 hr hn1) (by decide) ?_)
      rintro z h2 ⟨e2, e3, rfl, e4⟩
      rw [f1] at e4 ⊢
      have e5 := e.trans e2
      have hn2 : n_nd h2 (bR B r 0 0) (m_im (bR B r 0 0) u) := hn1.f4 h4 e3
      refine b320_11 (fun c1 => b320_16 (s319 (X.of e5) hr hn2 (by omega)) (by decide) ?_) (fun c1 => b320_14 ?_)
      · have hM : m_M B (qA h 691) (bR B r) u = false := b2i_eq.mp c1
        have g' : ∀ y, v ≤ y → y < u + 1 → m_M B (qA h 691) (bR B r) y = false := by
          intro y h9 h8
          by_cases h7 : y = u
          · rw [h7]; exact hM
          · exact g y h9 (by omega)
        rintro z h3 ⟨e6, hz⟩
        have e7 := e5.trans e6
        rcases hz with ⟨rfl, h9, h8⟩ | ⟨rfl, h9⟩
        · exact b320_21 (ih (u + 1) h3 (by omega) (by omega) (by omega) e7 h8 g')
        · have e8 : q_fst (m_M B (qA h 691) (bR B r)) v (12 ^ bR B r 0 0 - v) = none := (q_fst_none _ _).mpr (fun y h6 h7 => g' y h6 (by omega))
          refine b320_21 (b320_2 (fun _ => b320_25 (fin _ _ ⟨e7, by rw [e8]; rfl, fun y hy => ?_⟩)) (fun h9 => absurd rfl h9))
          rw [e8] at hy
          cases hy
      · have hM : m_M B (qA h 691) (bR B r) u = true := b2i_ne.mp c1
        have e8 : q_fst (m_M B (qA h 691) (bR B r)) v (12 ^ bR B r 0 0 - v) = some u := (q_fst_some _ _ _).mpr ⟨hvu, by omega, hM, g⟩
        refine fin _ _ ⟨e5, by rw [e8]; rfl, fun y hy => ?_⟩
        rw [e8] at hy
        cases hy
        exact ⟨⟨hn2, by omega⟩, e4⟩
  exact b320_0 (loop (12 ^ bR B r 0 0 - v) v h (by have := hn.2; omega) (by have := hn.2; omega) (Nat.le_refl _) n_fr.rf hn.1 (fun y h9 h8 => by omega))
theorem s322 {h : q_Hp} {B : q_Bk} {x : Int32} {f : Nat → Int32} (X : n_X h B f) : q_mI 5 322 [.ref 630, .int x] h (fun z h' => n_fr h h' ∧ ((q_rg x (bN B 2) = false ∧ z = -1) ∨ ∃ r, r < bN B 2 ∧ x = nI r ∧ z = nI (q_cnt (m_M B (qA h 691) (bR B r)) (12 ^ bR B r 0 0)))) := by
  have S := X.1
  have w := X.2.1
  have h20 : bN B 2 ≤ 20 := w.2.2.1
  refine q_mI.of (q_recV rfl (S.ok rfl)) (fun Q fin => ?_)
  refine b322_0 (s321 S (X.2.2.1.1 2 (by decide))) (by decide) ?_
  rintro z h1 ⟨e0, rfl⟩
  subst h1
  refine b322_5 (fun c1 => ?_) (fun c1 => b322_8 (fin _ _ ⟨n_fr.rf, Or.inl ⟨b2i_eq.mp c1, rfl⟩⟩))
  obtain ⟨r, hr, rfl⟩ := (q_rg_ex (by omega)).mp (b2i_ne.mp c1)
  have wr : q_wR B (bR B r) := w.2.2.2.2.2.2.2.2.2.2 r hr
  have h4 : bR B r 0 0 ≤ 4 := wr.1
  have tp := m_top h4
  refine b322_10 (s318 S) (by decide) ?_
  rintro h1 ⟨e1, g1⟩
  refine b322_14 ?_
  have loop : ∀ m v h2, v + m = 12 ^ bR B r 0 0 → 0 < m → n_fr h h2 → n_nd h2 (bR B r 0 0) (m_im (bR B r 0 0) v) → q_wp 5 322 18 [some (.ref 630), some (.int (nI r)), some (.int (nI (q_cnt (m_M B (qA h 691) (bR B r)) v))), some (.int 1)] [] h2 Q := by
    intro m
    induction m using Nat.strongRecOn with
    | _ m ih =>
      intro v h2 hv h0 e hn
      have X2 := X.of e
      have f2 : qA h2 691 = qA h 691 := e.A (by decide)
      refine b322_18 (fun h9 => absurd h9 (by decide)) (fun _ => b322_22 (s320 X2 hr ⟨hn, by omega⟩) (by decide) ?_)
      rintro z h3 ⟨e3, rfl, g3⟩
      rw [f2] at g3 ⊢
      have e4 := e.trans e3
      cases hq : q_fst (m_M B (qA h 691) (bR B r)) v (12 ^ bR B r 0 0 - v) with
      | none =>
        refine b322_27 (fun h9 => absurd rfl h9) (fun _ => b322_32 (b322_47 (fin _ _ ⟨e4, Or.inr ⟨r, hr, rfl, ?_⟩⟩)))
        have := q_cnt_none hq
        rw [show v + (12 ^ bR B r 0 0 - v) = 12 ^ bR B r 0 0 by omega] at this
        rw [this]
      | some u =>
        have hu := (q_fst_some _ _ _).mp hq
        have hc := q_cnt_fst hq
        obtain ⟨n3, l3⟩ := g3 u hq
        refine b322_27 (fun _ => b322_35 (s319 (X.of e4) hr n3.1 n3.2) (by decide) ?_) (fun h9 => absurd (show (1 : Int32) = 0 from h9) (by decide))
        rintro z h5 ⟨e5, hz⟩
        have e6 := e4.trans e5
        rw [nI_1, ← hc.2]
        rcases hz with ⟨rfl, h9, h8⟩ | ⟨rfl, h9⟩
        · exact b322_43 (ih (12 ^ bR B r 0 0 - (u + 1)) (by omega) (u + 1) h5 (by omega) (by omega) e6 h8)
        · refine b322_43 (b322_18 (fun _ => b322_47 (fin _ _ ⟨e6, Or.inr ⟨r, hr, rfl, ?_⟩⟩)) (fun h9 => absurd rfl h9))
          rw [h9]
  have n0 := n_at_0 h4 g1
  have := loop (12 ^ bR B r 0 0) 0 h1 (by omega) n0.2 e1 n0.1
  exact this
/-- the match in the reference's hand -/
def n_hand (h : q_Hp) (B : q_Bk) (f : Nat → Int32) (V : Nat → Nat → Nat) (v : Nat) : Prop := ∃ L, m_ma B f (m_im (V 0 0) v) V L ∧ qI h 630 95 = nI (V 0 0) ∧ qI h 630 96 = nI (V 0 1) ∧ (∀ i, i < V 0 0 → qA h 697 i = nI (m_im (V 0 0) v i)) ∧ ∀ i, i < V 0 1 → qA h 698 i = nI (L.getD i 0)
theorem s324 {h : q_Hp} {B : q_Bk} {r v : Nat} {f : Nat → Int32} (X : n_X h B f) (hr : r < bN B 2) (hn : n_nd h (bR B r 0 0) (m_im (bR B r 0 0) v)) (hM : m_M B (qA h 691) (bR B r) v = true) (hL : ∀ L, m_ma B (qA h 691) (m_im (bR B r 0 0) v) (bR B r) L → n_lk h (bR B r 0 1) L) : q_mV 0 324 [.ref 630, .int (nI r)] h (fun h' => q_Ef [630, 697, 698] h h' ∧ (∀ j, ¬ (j = 95 ∨ j = 96) → qI h' 630 j = qI h 630 j) ∧ n_hand h' B (qA h 691) (bR B r) v) := by
  have S := X.1
  have w := X.2.1
  have h20 : r < 20 := by have := w.2.2.1; omega
  have wr : q_wR B (bR B r) := w.2.2.2.2.2.2.2.2.2.2 r hr
  have h4 : bR B r 0 0 ≤ 4 := wr.1
  have h6 : bR B r 0 1 ≤ 6 := wr.2.1
  have mR := X.2.2.1.2.2.2.2.2.2 r hr
  have rk : (nI r).toNatClampNeg = r := nI_clamp (by omega)
  have e41 : qA h 641 (nI r).toNatClampNeg = nI (bR B r 0 0) := by rw [rk]; exact mR.1
  have e42 : qA h 642 (nI r).toNatClampNeg = nI (bR B r 0 1) := by rw [rk]; exact mR.2.1
  have ir : ∀ c, ((decide (c ≤ 712) && (q_kd0 c).2 == 40) = true) → q_in (nI r) (qK h c).2 := fun c h9 => S.inN (n := 40) h9 (by omega) (by decide)
  obtain ⟨L, hm⟩ := m_dc_t.mp hM
  have lk := hL L hm
  refine q_mV.of (q_recV rfl (S.ok rfl)) (fun Q fin => ?_)
  have loop2 : ∀ m i h1, i + m = bR B r 0 1 → q_Ef [630, 697, 698] h h1 → (∀ j, ¬ (j = 95 ∨ j = 96) → qI h1 630 j = qI h 630 j) → qI h1 630 95 = nI (bR B r 0 0) → qI h1 630 96 = nI (bR B r 0 1) → (∀ j, j < bR B r 0 0 → qA h1 697 j = nI (m_im (bR B r 0 0) v j)) → (∀ j, j < i → qA h1 698 j = nI (L.getD j 0)) → q_wp 0 324 50 [some (.ref 630), some (.int (nI r)), some (.int (nI i))] [] h1 Q := by
    intro m
    induction m with
    | zero =>
      intro i h1 hi e ei e95 e96 g1 g2
      obtain rfl : i = bR B r 0 1 := by omega
      have S1 := e.sh S
      exact b324_50 (S1.ok rfl) (fun _ => b324_76 (fin _ ⟨e, ei, L, hm, e95, e96, g1, g2⟩)) (fun h9 => absurd (by rw [e96]; exact Int32.le_refl _) h9)
    | succ m ih =>
      intro i h1 hi e ei e95 e96 g1 g2
      have S1 := e.sh S
      have f6 : qA h1 696 = qA h 696 := e.A (by decide)
      refine b324_50 (S1.ok rfl) (fun h9 => absurd ((nI_leI (by omega) (by omega)).mp (e96 ▸ h9)) (by omega)) (fun _ => b324_58 (S1.ok rfl) (S1.ref (v := 698) rfl) (S1.ref (v := 696) rfl) (S1.ok rfl) (S1.inN (n := 9) rfl (by omega) (by decide)) (S1.ok rfl) (S1.inN (n := 6) rfl (by omega) (by decide)) ?_)
      rw [nI_1, nI_clamp (by omega), f6, lk.2.1 i (by omega)]
      refine ih (i + 1) _ (by omega) (e.trans (q_Ef.sA (by decide))) ei e95 e96 g1 (fun j hj => ?_)
      rw [qA_sAu]
      by_cases h3 : j = i
      · rw [h3, upd_eq]
      · rw [upd_ne h3]
        exact g2 j (by omega)
  have loop1 : ∀ m i h1, i + m = bR B r 0 0 → q_Ef [630, 697, 698] h h1 → (∀ j, ¬ (j = 95 ∨ j = 96) → qI h1 630 j = qI h 630 j) → qI h1 630 95 = nI (bR B r 0 0) → qI h1 630 96 = nI (bR B r 0 1) → (∀ j, j < i → qA h1 697 j = nI (m_im (bR B r 0 0) v j)) → q_wp 0 324 22 [some (.ref 630), some (.int (nI r)), some (.int (nI i))] [] h1 Q := by
    intro m
    induction m with
    | zero =>
      intro i h1 hi e ei e95 e96 g1
      obtain rfl : i = bR B r 0 0 := by omega
      have S1 := e.sh S
      exact b324_22 (S1.ok rfl) (fun _ => b324_48 (loop2 (bR B r 0 1) 0 h1 (by omega) e ei e95 e96 g1 (fun j hj => absurd hj (Nat.not_lt_zero _)))) (fun h9 => absurd (by rw [e95]; exact Int32.le_refl _) h9)
    | succ m ih =>
      intro i h1 hi e ei e95 e96 g1
      have S1 := e.sh S
      have f5 : qA h1 695 = qA h 695 := e.A (by decide)
      refine b324_22 (S1.ok rfl) (fun h9 => absurd ((nI_leI (by omega) (by omega)).mp (e95 ▸ h9)) (by omega)) (fun _ => b324_30 (S1.ok rfl) (S1.ref (v := 697) rfl) (S1.ref (v := 695) rfl) (S1.ok rfl) (S1.inN (n := 5) rfl (by omega) (by decide)) (S1.ok rfl) (S1.inN (n := 4) rfl (by omega) (by decide)) ?_)
      rw [nI_1, nI_clamp (by omega), f5, (hn i (by omega)).1]
      refine ih (i + 1) _ (by omega) (e.trans (q_Ef.sA (by decide))) ei e95 e96 (fun j hj => ?_)
      rw [qA_sAu]
      by_cases h3 : j = i
      · rw [h3, upd_eq]
      · rw [upd_ne h3]
        exact g1 j (by omega)
  refine b324_0 (S.ok rfl) (S.ref (v := 641) rfl) (S.ok rfl) (ir _ rfl) (S.ref (v := 642) rfl) (S.ok rfl) (ir _ rfl) ?_
  rw [e41, e42]
  refine loop1 (bR B r 0 0) 0 _ (by omega) ((q_Ef.sI (by decide)).trans (q_Ef.sI (by decide))) (fun j hj => ?_) ?_ ?_ (fun j hj => absurd hj (Nat.not_lt_zero _))
  · rw [qI_sI_nj (by omega), qI_sI_nj (by omega)]
  · rfl
  · rfl
theorem s323 {h : q_Hp} {B : q_Bk} {x y : Int32} {f : Nat → Int32} (X : n_X h B f) : q_mI 5 323 [.ref 630, .int x, .int y] h (fun z h' => (z = 0 ∧ n_fr h h' ∧ ((q_rg x (bN B 2) && !decide (y < 0)) = false ∨ ∃ r i, r < bN B 2 ∧ x = nI r ∧ i < 2 ^ 31 ∧ y = nI i ∧ q_cnt (m_M B (qA h 691) (bR B r)) (12 ^ bR B r 0 0) ≤ i)) ∨ (z = 1 ∧ (q_Ef [630, 695, 696, 697, 698, 699] h h' ∧ ∀ j, ¬ (j = 95 ∨ j = 96 ∨ j = 99) → qI h' 630 j = qI h 630 j) ∧ ∃ r v, r < bN B 2 ∧ x = nI r ∧ v < 12 ^ bR B r 0 0 ∧ m_M B (qA h 691) (bR B r) v = true ∧ y = nI (q_cnt (m_M B (qA h 691) (bR B r)) v) ∧ n_hand h' B (qA h 691) (bR B r) v)) := by
  have S := X.1
  have w := X.2.1
  have h20 : bN B 2 ≤ 20 := w.2.2.1
  refine q_mI.of (q_recV rfl (S.ok rfl)) (fun Q fin => ?_)
  refine b323_0 (s321 S (X.2.2.1.1 2 (by decide))) (by decide) ?_
  rintro z h1 ⟨e0, rfl⟩
  subst h1
  refine b323_5 (fun c1 => b323_12 (fin _ _ (Or.inl ⟨rfl, n_fr.rf, Or.inl (by rw [b2i_eq.mp c1]; rfl)⟩))) (fun c1 => b323_8 (fun c2 => ?_) (fun c2 => b323_12 (fin _ _ (Or.inl ⟨rfl, n_fr.rf, Or.inl ?_⟩))))
  · have c3 : ¬ y < 0 := Int32.not_lt.mpr c2
    obtain ⟨i, hi, rfl⟩ := nI_of c3
    obtain ⟨r, hr, rfl⟩ := (q_rg_ex (by omega)).mp (b2i_ne.mp c1)
    have wr : q_wR B (bR B r) := w.2.2.2.2.2.2.2.2.2.2 r hr
    have h4 : bR B r 0 0 ≤ 4 := wr.1
    have tp := m_top h4
    have no : ∀ h2, n_fr h h2 → q_cnt (m_M B (qA h 691) (bR B r)) (12 ^ bR B r 0 0) ≤ i → Q (some (.int 0)) h2 := fun h2 e2 hc => fin _ _ (Or.inl ⟨rfl, e2, Or.inr ⟨r, i, hr, rfl, hi, rfl, hc⟩⟩)
    -- none is left
    have out : ∀ k h2, n_fr h h2 → q_cnt (m_M B (qA h 691) (bR B r)) (12 ^ bR B r 0 0) ≤ i → q_wp 5 323 27 [some (.ref 630), some (.int (nI r)), some (.int (nI i)), some (.int 0), some (.int k)] [] h2 Q := by
      intro k h2 e2 hc
      have d : q_wp 5 323 65 [some (.ref 630), some (.int (nI r)), some (.int (nI i)), some (.int 0), some (.int k)] [] h2 Q := b323_65 (fun _ => b323_74 (Or.inl rfl) (no _ e2 hc)) (fun h9 => absurd rfl h9)
      exact b323_27 (fun _ => d) (fun _ => b323_33 (fun _ => d) (fun h9 => absurd rfl h9))
    have loop : ∀ m k v h2, v + m = 12 ^ bR B r 0 0 → n_fr h h2 → n_at h2 (bR B r 0 0) v → m_M B (qA h 691) (bR B r) v = true → (∀ L, m_ma B (qA h 691) (m_im (bR B r 0 0) v) (bR B r) L → n_lk h2 (bR B r 0 1) L) → k = q_cnt (m_M B (qA h 691) (bR B r)) v → k ≤ i → q_wp 5 323 27 [some (.ref 630), some (.int (nI r)), some (.int (nI i)), some (.int 1), some (.int (nI k))] [] h2 Q := by
      intro m
      induction m using Nat.strongRecOn with
      | _ m ih =>
        intro k v h2 hv e n2 hM hL hk hki
        have X2 := X.of e
        have f2 : qA h2 691 = qA h 691 := e.A (by decide)
        have kb := q_cnt_le (m_M B (qA h 691) (bR B r)) v
        have hv2 := n2.2
        refine b323_27 (fun c3 => ?_) (fun c3 => b323_33 (fun h9 => absurd h9 (by decide)) (fun _ => b323_37 (s319 X2 hr n2.1 n2.2) (by decide) ?_))
        · have c4 : k = i := by
            have := (nI_leI (by omega) (by omega)).mp c3
            omega
          refine b323_65 (fun h9 => absurd h9 (by decide)) (fun _ => b323_69 (s324 X2 hr n2.1 (by rw [f2]; exact hM) (by rw [f2]; exact hL)) (by decide) ?_)
          rintro h3 ⟨e3, ei, g3⟩
          rw [f2] at g3
          refine b323_74 (Or.inr rfl) (fin _ _ (Or.inr ⟨rfl, ⟨(e.1.wide (by decide)).trans (e3.wide (by decide)), fun j hj => (ei j (by omega)).trans (e.2 j (by omega))⟩, r, v, hr, rfl, hv2, hM, ?_, g3⟩))
          rw [← hk, c4]
        · have c4 : k < i := by
            rcases Nat.lt_or_ge k i with h9 | h9
            · exact h9
            · exact absurd ((nI_leI (by omega) (by omega)).mpr h9) c3
          rintro z h3 ⟨e3, hz⟩
          have e4 := e.trans e3
          have hc1 : q_cnt (m_M B (qA h 691) (bR B r)) (v + 1) = k + 1 := by rw [q_cnt_s, hM, hk]; rfl
          rcases hz with ⟨rfl, h9, h8⟩ | ⟨rfl, h9⟩
          · have X3 := X.of e4
            have f3 : qA h3 691 = qA h 691 := e4.A (by decide)
            refine b323_42 (fun h9 => absurd h9 (by decide)) (fun _ => b323_45 (s320 X3 hr ⟨h8, h9⟩) (by decide) ?_)
            rintro z h5 ⟨e5, rfl, g5⟩
            rw [f3] at g5 ⊢
            have e6 := e4.trans e5
            cases hq : q_fst (m_M B (qA h 691) (bR B r)) (v + 1) (12 ^ bR B r 0 0 - (v + 1)) with
            | none =>
              refine b323_50 (fun _ => b323_57 (b323_58 (out _ _ e6 ?_))) (fun h9 => absurd rfl h9)
              have := q_cnt_none hq
              rw [show v + 1 + (12 ^ bR B r 0 0 - (v + 1)) = 12 ^ bR B r 0 0 by omega] at this
              omega
            | some u =>
              have hu := (q_fst_some _ _ _).mp hq
              have hc := q_cnt_fst hq
              obtain ⟨n5, l5⟩ := g5 u hq
              refine b323_50 (fun h9 => absurd (show (1 : Int32) = 0 from h9) (by decide)) (fun _ => b323_53 (b323_58 ?_))
              rw [nI_1]
              exact ih (12 ^ bR B r 0 0 - u) (by omega) (k + 1) u h5 (by omega) e6 n5 hu.2.2.1 l5 (by omega) (by omega)
          · refine b323_42 (fun _ => b323_57 (b323_58 (out _ _ e4 ?_))) (fun h9 => absurd rfl h9)
            rw [← h9]
            omega
    refine b323_14 (s318 S) (by decide) ?_
    rintro h1 ⟨e1, g1⟩
    have n0 := n_at_0 h4 g1
    have X1 := X.of e1
    have f1 : qA h1 691 = qA h 691 := e1.A (by decide)
    refine b323_18 (s320 X1 hr n0) (by decide) ?_
    rintro z h2 ⟨e2, rfl, g2⟩
    rw [f1] at g2 ⊢
    have e3 := e1.trans e2
    cases hq : q_fst (m_M B (qA h 691) (bR B r)) 0 (12 ^ bR B r 0 0 - 0) with
    | none =>
      refine b323_23 (out _ _ e3 ?_)
      have := q_cnt_none hq
      rw [Nat.zero_add, Nat.sub_zero] at this
      rw [this]
      exact Nat.zero_le _
    | some u =>
      have hu := (q_fst_some _ _ _).mp hq
      have hc := q_cnt_fst hq
      obtain ⟨n2, l2⟩ := g2 u hq
      refine b323_23 ?_
      exact loop (12 ^ bR B r 0 0 - u) 0 u h2 (by omega) e3 n2 hu.2.2.1 l2 (by rw [hc.1]; rfl) (Nat.zero_le _)
  · have c3 : y < 0 := Int32.not_le.mp c2
    rw [decide_eq_true c3]
    simp
