/-! BOOKS: what a book tells -/
theorem q_Sh.inN {h : q_Hp} (S : q_Sh h) {a n j : Nat} (e : (decide (a ≤ 712) && (q_kd0 a).2 == n) = true) (hj : j < n) (hn : n < 2 ^ 31) : q_in (nI j) (qK h a).2 := q_inN (by rw [S.len e]; exact hj) (by rw [S.len e]; exact hn)
theorem q_rg_q' {x : Int32} {n m : Nat} (h : q_rg x n = true) (hn : n < 2 ^ 31) (hm : n ≤ m) : q_in x m := q_rg_q h hn hm
theorem q_rg_mono {x : Int32} {n m : Nat} (h : q_rg x n = true) (hm : m < 2 ^ 31) (hn : n ≤ m) : q_rg x m = true := by
  obtain ⟨j, hj, rfl⟩ := (q_rg_ex (by omega)).mp h
  exact q_rgN (by omega) hm
/-- a cell of a row, -1 outside of it -/
def c_at (f : Nat → Int32) (n : Nat) (x : Int32) : Int32 := if q_rg x n then f x.toNatClampNeg else -1
def c_set (h : q_Hp) (a n : Nat) (x v : Int32) : q_Hp := if q_rg x n then q_sA h a x.toNatClampNeg v else h
theorem c_at_in {f : Nat → Int32} {n j : Nat} (h : j < n) (hn : n < 2 ^ 31) : c_at f n (nI j) = f j := by
  unfold c_at
  rw [if_pos (q_rgN h hn), nI_clamp (by omega)]
theorem c_set_in {h : q_Hp} {a n j : Nat} {v : Int32} (hj : j < n) (hn : n < 2 ^ 31) : c_set h a n (nI j) v = q_sA h a j v := by
  unfold c_set
  rw [if_pos (q_rgN hj hn), nI_clamp (by omega)]
theorem q_rgT {x : Int32} {n : Nat} (h : q_rg x n = false) : ¬ q_rg x n = true := by rw [h]; decide
theorem c_at_out {f : Nat → Int32} {n : Nat} {x : Int32} (h : q_rg x n = false) : c_at f n x = -1 := if_neg (q_rgT h)
theorem c_set_out {h : q_Hp} {a n : Nat} {x v : Int32} (e : q_rg x n = false) : c_set h a n x v = h := if_neg (q_rgT e)
theorem s232 {h : q_Hp} {a n : Nat} {x : Int32} (hk : q_ok h a 20) (hl : (qK h a).2 = n) (hn : n < 2 ^ 31) : q_mI 0 232 [.ref a, .int x] h (fun z h' => h' = h ∧ z = c_at (qA h a) n x) := by
  refine ⟨q_recS rfl, ?_⟩
  refine b232_0 (fun h1 => b232_16 ⟨_, rfl, rfl, (c_at_out (q_rg_lo h1)).symm⟩) (fun h1 => b232_4 hk (by decide) (fun h2 => b232_16 ⟨_, rfl, rfl, (c_at_out (q_rg_hi (n := n) (by rw [hl]; rfl) h2)).symm⟩) (fun h2 => ?_))
  have h3 : q_rg x n = true := q_rg_in (n := n) (by rw [hl]; rfl) h1 h2
  refine b232_10 hk (q_rg_q h3 hn (by rw [hl]; exact Nat.le_refl _)) ⟨_, rfl, rfl, ?_⟩
  unfold c_at
  rw [if_pos h3]
theorem s233 {h : q_Hp} {a n : Nat} {x v : Int32} (hk : q_ok h a 20) (hl : (qK h a).2 = n) (hn : n < 2 ^ 31) : q_mV 0 233 [.ref a, .int x, .int v] h (fun h' => h' = c_set h a n x v) := by
  refine ⟨q_recS rfl, ?_⟩
  refine b233_0 (fun h1 => b233_14 ⟨rfl, (c_set_out (q_rg_lo h1)).symm⟩) (fun h1 => b233_4 hk (by decide) (fun h2 => b233_14 ⟨rfl, (c_set_out (q_rg_hi (n := n) (by rw [hl]; rfl) h2)).symm⟩) (fun h2 => ?_))
  have h3 : q_rg x n = true := q_rg_in (n := n) (by rw [hl]; rfl) h1 h2
  refine b233_10 hk (q_rg_q h3 hn (by rw [hl]; exact Nat.le_refl _)) (b233_14 ⟨rfl, ?_⟩)
  unfold c_set
  rw [if_pos h3]
theorem s2 {h : q_Hp} {b t : Nat} {x : Int32} (hb : q_ok h b 0) (hT : qI h b 0 = nI t) (hm : t ≤ 12) : q_mI 0 2 [.ref b, .int x] h (fun z h' => h' = h ∧ z = b2i (q_rg x t)) := by
  refine ⟨q_recV rfl hb, ?_⟩
  refine b2_0 (fun h1 => b2_22 ⟨_, rfl, rfl, ?_⟩) (fun h1 => b2_4 hb (fun h2 => b2_22 ⟨_, rfl, rfl, ?_⟩) (fun h2 => b2_12 (fun h3 => b2_22 ⟨_, rfl, rfl, ?_⟩) (fun h3 => b2_18 ⟨_, rfl, rfl, ?_⟩)))
  · rw [q_rg_lo h1]; rfl
  · rw [hT] at h2
    rw [q_rg_hi rfl h2]; rfl
  · rw [q_rg_hi (n := t) rfl (Int32.le_trans ((nI_leI (b := 12) (by omega) (by decide)).mpr hm) h3)]; rfl
  · rw [hT] at h2
    rw [q_rg_in rfl h1 h2]; rfl
theorem s3 {h : q_Hp} {b t : Nat} {x : Int32} (hb : q_ok h b 0) (hT : qI h b 1 = nI t) (hm : t ≤ 12) : q_mI 0 3 [.ref b, .int x] h (fun z h' => h' = h ∧ z = b2i (q_rg x t)) := by
  refine ⟨q_recV rfl hb, ?_⟩
  refine b3_0 (fun h1 => b3_22 ⟨_, rfl, rfl, ?_⟩) (fun h1 => b3_4 hb (fun h2 => b3_22 ⟨_, rfl, rfl, ?_⟩) (fun h2 => b3_12 (fun h3 => b3_22 ⟨_, rfl, rfl, ?_⟩) (fun h3 => b3_18 ⟨_, rfl, rfl, ?_⟩)))
  · rw [q_rg_lo h1]; rfl
  · rw [hT] at h2
    rw [q_rg_hi rfl h2]; rfl
  · rw [q_rg_hi (n := t) rfl (Int32.le_trans ((nI_leI (b := 12) (by omega) (by decide)).mpr hm) h3)]; rfl
  · rw [hT] at h2
    rw [q_rg_in rfl h1 h2]; rfl
theorem s4 {h : q_Hp} {b t : Nat} {x : Int32} (hb : q_ok h b 0) (hT : qI h b 2 = nI t) (hm : t ≤ 20) : q_mI 0 4 [.ref b, .int x] h (fun z h' => h' = h ∧ z = b2i (q_rg x t)) := by
  refine ⟨q_recV rfl hb, ?_⟩
  refine b4_0 (fun h1 => b4_22 ⟨_, rfl, rfl, ?_⟩) (fun h1 => b4_4 hb (fun h2 => b4_22 ⟨_, rfl, rfl, ?_⟩) (fun h2 => b4_12 (fun h3 => b4_22 ⟨_, rfl, rfl, ?_⟩) (fun h3 => b4_18 ⟨_, rfl, rfl, ?_⟩)))
  · rw [q_rg_lo h1]; rfl
  · rw [hT] at h2
    rw [q_rg_hi rfl h2]; rfl
  · rw [q_rg_hi (n := t) rfl (Int32.le_trans ((nI_leI (b := 20) (by omega) (by decide)).mpr hm) h3)]; rfl
  · rw [hT] at h2
    rw [q_rg_in rfl h1 h2]; rfl
theorem s5 {h : q_Hp} {b t : Nat} {x : Int32} (hb : q_ok h b 0) (hT : qI h b 3 = nI t) (hm : t ≤ 10) : q_mI 0 5 [.ref b, .int x] h (fun z h' => h' = h ∧ z = b2i (q_rg x t)) := by
  refine ⟨q_recV rfl hb, ?_⟩
  refine b5_0 (fun h1 => b5_22 ⟨_, rfl, rfl, ?_⟩) (fun h1 => b5_4 hb (fun h2 => b5_22 ⟨_, rfl, rfl, ?_⟩) (fun h2 => b5_12 (fun h3 => b5_22 ⟨_, rfl, rfl, ?_⟩) (fun h3 => b5_18 ⟨_, rfl, rfl, ?_⟩)))
  · rw [q_rg_lo h1]; rfl
  · rw [hT] at h2
    rw [q_rg_hi rfl h2]; rfl
  · rw [q_rg_hi (n := t) rfl (Int32.le_trans ((nI_leI (b := 10) (by omega) (by decide)).mpr hm) h3)]; rfl
  · rw [hT] at h2
    rw [q_rg_in rfl h1 h2]; rfl
/-- whether a type is of another one, by the row of the elders, in so many turns -/
def t_is (e : Nat → Int32) (T : Nat) (w : Int32) : Nat → Int32 → Bool
  | 0, _ => false
  | m + 1, x => if q_rg x T then (if x = w then true else t_is e T w m (e x.toNatClampNeg)) else false
def q_isB (b : Nat) : Prop := b = 11 ∨ b = 300
theorem q_Sh.bo {h : q_Hp} (S : q_Sh h) {b : Nat} (hb : q_isB b) : q_ok h b 0 := by
  rcases hb with rfl | rfl
  · exact S.ok rfl
  · exact S.ok rfl
theorem q_Sh.br {h : q_Hp} (S : q_Sh h) {b : Nat} (hb : q_isB b) (j : Nat) (hj : j < 8) : qR h b (6 + j) = b + 1 + j := by
  have key : ∀ j, j < 8 → (decide (11 ≤ 712) && (!q_mut 11 (6 + j)) && (q_fr0 11 (6 + j) == 11 + 1 + j) && decide (0 < 11 + 1 + j)) = true ∧ (decide (300 ≤ 712) && (!q_mut 300 (6 + j)) && (q_fr0 300 (6 + j) == 300 + 1 + j) && decide (0 < 300 + 1 + j)) = true := by decide +kernel
  rcases hb with rfl | rfl
  · exact S.ref (key j hj).1
  · exact S.ref (key j hj).2
theorem q_Sh.ba {h : q_Hp} (S : q_Sh h) {b : Nat} (hb : q_isB b) (j n : Nat) (e : ((q_kd0 (12 + j)).1 == 20 && (q_kd0 (301 + j)).1 == 20 && (q_kd0 (12 + j)).2 == n && (q_kd0 (301 + j)).2 == n && decide (j < 8)) = true) : q_ok h (b + 1 + j) 20 ∧ (qK h (b + 1 + j)).2 = n := by
  simp only [Bool.and_eq_true, decide_eq_true_eq] at e
  obtain ⟨⟨⟨⟨e1, e2⟩, e3⟩, e4⟩, e5⟩ := e
  rcases hb with rfl | rfl
  · have h1 : 11 + 1 + j = 12 + j := by omega
    rw [h1]
    exact ⟨S.ok (by simp only [Bool.and_eq_true, decide_eq_true_eq]; exact ⟨⟨by omega, by omega⟩, e1⟩), S.len (by simp only [Bool.and_eq_true, decide_eq_true_eq]; exact ⟨by omega, e3⟩)⟩
  · have h1 : 300 + 1 + j = 301 + j := by omega
    rw [h1]
    exact ⟨S.ok (by simp only [Bool.and_eq_true, decide_eq_true_eq]; exact ⟨⟨by omega, by omega⟩, e2⟩), S.len (by simp only [Bool.and_eq_true, decide_eq_true_eq]; exact ⟨by omega, e4⟩)⟩
theorem s6 {h : q_Hp} {b t : Nat} {x w : Int32} (S : q_Sh h) (hb : q_isB b) (hT : qI h b 0 = nI t) (hm : t ≤ 12) : q_mI 0 6 [.ref b, .int x, .int w] h (fun z h' => h' = h ∧ z = b2i (t_is (qA h (b + 1)) t w 12 x)) := by
  have ho := S.bo hb
  have hr : qR h b 6 = b + 1 := S.br hb 0 (by decide)
  have ha : q_ok h (b + 1) 20 ∧ (qK h (b + 1)).2 = 12 := S.ba hb 0 12 rfl
  refine ⟨q_recV rfl ho, ?_⟩
  have loop : ∀ m i (y : Int32), i + m = 12 → q_wp 0 6 5 [some (.ref b), some (.int x), some (.int w), some (.int y), some (.int (nI i))] [] h (fun r h' => ∃ z : Int32, r = some (.int z) ∧ h' = h ∧ z = b2i (t_is (qA h (b + 1)) t w m y)) := by
    intro m
    induction m with
    | zero =>
      intro i y hi
      obtain rfl : i = 12 := by omega
      exact b6_5 (fun _ => b6_50 ⟨_, rfl, rfl, rfl⟩) (fun h1 => absurd (Int32.le_refl _) h1)
    | succ m ih =>
      intro i y hi
      have bad : q_rg y t = false → q_wp 0 6 50 [some (.ref b), some (.int x), some (.int w), some (.int y), some (.int (nI i))] [] h (fun r h' => ∃ z : Int32, r = some (.int z) ∧ h' = h ∧ z = b2i (t_is (qA h (b + 1)) t w (m + 1) y)) := fun e => b6_50 ⟨_, rfl, rfl, by unfold t_is; rw [e]; rfl⟩
      refine b6_5 (fun h1 => absurd ((nI_gec (k := 12) (by omega) (by decide) rfl).mp h1) (by omega)) (fun _ => b6_12 (fun h1 => bad (q_rg_lo h1)) (fun h1 => b6_16 ho (fun h2 => bad (q_rg_hi rfl (hT ▸ h2))) (fun h2 => b6_24 (fun h3 => bad (q_rg_hi rfl (Int32.le_trans ((nI_leI (b := 12) (by omega) (by decide)).mpr hm) h3))) (fun h3 => ?_))))
      have h4 : q_rg y t = true := q_rg_in rfl h1 (hT ▸ h2)
      refine b6_30 (fun h5 => b6_37 ho hr ha.1 (q_rg_q h4 (by omega) (by rw [ha.2]; exact hm)) ?_) (fun h5 => b6_35 ⟨_, rfl, rfl, ?_⟩)
      · rw [nI_1]
        unfold t_is
        rw [if_pos h4, if_neg h5]
        exact ih (i + 1) _ (by omega)
      · unfold t_is
        rw [if_pos h4, if_pos h5]
        rfl
  exact b6_0 (loop 12 0 x rfl)
theorem s7 {h : q_Hp} {b t s : Nat} {x y : Int32} (S : q_Sh h) (hb : q_isB b) (hT : qI h b 0 = nI t) (hm : t ≤ 12) (hS : qI h b 1 = nI s) (hs : s ≤ 12) : q_mI 1 7 [.ref b, .int x, .int y] h (fun z h' => h' = h ∧ z = b2i (q_rg x s && t_is (qA h (b + 1)) t (qA h (b + 2) x.toNatClampNeg) 12 y)) := by
  have ho := S.bo hb
  have hr : qR h b 7 = b + 2 := S.br hb 1 (by decide)
  have ha : q_ok h (b + 2) 20 ∧ (qK h (b + 2)).2 = 12 := S.ba hb 1 12 rfl
  refine ⟨q_recV rfl ho, ?_⟩
  refine b7_0 (s3 ho hS hs) (by decide) ?_
  rintro z h1 ⟨e0, rfl⟩
  subst h1
  refine b7_5 (fun h2 => b7_26 ⟨_, rfl, rfl, ?_⟩) (fun h2 => ?_)
  · rw [b2i_eq.mp h2]; rfl
  · have h3 := b2i_ne.mp h2
    refine b7_8 ho hr ha.1 (q_rg_q h3 (by omega) (by rw [ha.2]; exact hs)) (s6 S hb hT hm) (by decide) ?_
    rintro z h1 ⟨e0, rfl⟩
    subst h1
    refine b7_19 (fun h4 => b7_26 ⟨_, rfl, rfl, ?_⟩) (fun h4 => b7_22 ⟨_, rfl, rfl, ?_⟩)
    · rw [b2i_eq.mp h4, h3]; rfl
    · rw [b2i_ne.mp h4, h3]; rfl
theorem s8 {h : q_Hp} {b t s : Nat} {x y : Int32} (S : q_Sh h) (hb : q_isB b) (hT : qI h b 0 = nI t) (hm : t ≤ 12) (hS : qI h b 1 = nI s) (hs : s ≤ 12) : q_mI 1 8 [.ref b, .int x, .int y] h (fun z h' => h' = h ∧ z = b2i (q_rg x s && t_is (qA h (b + 1)) t (qA h (b + 3) x.toNatClampNeg) 12 y)) := by
  have ho := S.bo hb
  have hr : qR h b 8 = b + 3 := S.br hb 2 (by decide)
  have ha : q_ok h (b + 3) 20 ∧ (qK h (b + 3)).2 = 12 := S.ba hb 2 12 rfl
  refine ⟨q_recV rfl ho, ?_⟩
  refine b8_0 (s3 ho hS hs) (by decide) ?_
  rintro z h1 ⟨e0, rfl⟩
  subst h1
  refine b8_5 (fun h2 => b8_26 ⟨_, rfl, rfl, ?_⟩) (fun h2 => ?_)
  · rw [b2i_eq.mp h2]; rfl
  · have h3 := b2i_ne.mp h2
    refine b8_8 ho hr ha.1 (q_rg_q h3 (by omega) (by rw [ha.2]; exact hs)) (s6 S hb hT hm) (by decide) ?_
    rintro z h1 ⟨e0, rfl⟩
    subst h1
    refine b8_19 (fun h4 => b8_26 ⟨_, rfl, rfl, ?_⟩) (fun h4 => b8_22 ⟨_, rfl, rfl, ?_⟩)
    · rw [b2i_eq.mp h4, h3]; rfl
    · rw [b2i_ne.mp h4, h3]; rfl
/-- the cell of a book's rule -/
def q_ru (b : Nat) (x : Int32) : Nat := b + 9 + 14 * (if q_rg x 20 then x.toNatClampNeg else 0)
theorem q_Sh.rr {h : q_Hp} (S : q_Sh h) {b : Nat} (hb : q_isB b) (j : Nat) (hj : j < 20) : qR h (b + 4) j = b + 9 + 14 * j := by
  have key : ∀ j, j < 20 → (decide (15 ≤ 712) && (!q_mut 15 j) && (q_fr0 15 j == 11 + 9 + 14 * j) && decide (0 < 11 + 9 + 14 * j)) = true ∧ (decide (304 ≤ 712) && (!q_mut 304 j) && (q_fr0 304 j == 300 + 9 + 14 * j) && decide (0 < 300 + 9 + 14 * j)) = true := by decide +kernel
  rcases hb with rfl | rfl
  · exact S.ref (key j hj).1
  · exact S.ref (key j hj).2
theorem q_Sh.rl {h : q_Hp} (S : q_Sh h) {b : Nat} (hb : q_isB b) : q_ok h (b + 4) 24 ∧ (qK h (b + 4)).2 = 20 := by
  rcases hb with rfl | rfl
  · exact ⟨S.ok rfl, S.len rfl⟩
  · exact ⟨S.ok rfl, S.len rfl⟩
theorem s9 {h : q_Hp} {b : Nat} {x : Int32} (S : q_Sh h) (hb : q_isB b) : q_mR 0 9 [.ref b, .int x] h (fun z h' => h' = h ∧ z = q_ru b x) := by
  have ho := S.bo hb
  have hr : qR h b 9 = b + 4 := S.br hb 3 (by decide)
  have ha := S.rl hb
  refine ⟨q_recV rfl ho, ?_⟩
  have bad : q_rg x 20 = false → q_wp 0 9 19 [some (.ref b), some (.int x)] [] h (fun r h' => ∃ z : Nat, r = some (.ref z) ∧ h' = h ∧ z = q_ru b x) := fun e => b9_19 ho hr ha.1 (q_inN (j := 0) (by rw [ha.2]; decide) (by rw [ha.2]; decide)) (S.rr hb 0 (by decide)) ⟨_, rfl, rfl, by unfold q_ru; rw [if_neg (q_rgT e)]⟩
  refine b9_0 (fun h1 => bad (q_rg_lo h1)) (fun h1 => b9_4 (fun h2 => bad (q_rg_hi rfl h2)) (fun h2 => ?_))
  have h3 : q_rg x 20 = true := q_rg_in (n := 20) rfl h1 h2
  obtain ⟨j, hj, rfl⟩ := (q_rg_ex (by decide)).mp h3
  refine b9_10 ho hr ha.1 (q_inN (by rw [ha.2]; exact hj) (by rw [ha.2]; decide)) (v1 := b + 9 + 14 * j) (by rw [nI_clamp (by omega)]; exact S.rr hb j hj) ⟨_, rfl, rfl, ?_⟩
  unfold q_ru
  rw [if_pos h3, nI_clamp (by omega)]
theorem s10 {h : q_Hp} {b p : Nat} {x : Int32} (S : q_Sh h) (hb : q_isB b) (hP : qI h b 3 = nI p) (hp : p ≤ 10) : q_mI 1 10 [.ref b, .int x] h (fun z h' => h' = h ∧ z = c_at (qA h (b + 5)) p x) := by
  have ho := S.bo hb
  have hr : qR h b 10 = b + 5 := S.br hb 4 (by decide)
  have ha : q_ok h (b + 5) 20 ∧ (qK h (b + 5)).2 = 10 := S.ba hb 4 10 rfl
  refine ⟨q_recV rfl ho, ?_⟩
  refine b10_0 (s5 ho hP hp) (by decide) ?_
  rintro z h1 ⟨e0, rfl⟩
  subst h1
  refine b10_5 (fun h2 => b10_17 ⟨_, rfl, rfl, (c_at_out (b2i_eq.mp h2)).symm⟩) (fun h2 => ?_)
  have h3 := b2i_ne.mp h2
  refine b10_8 ho hr ha.1 (q_rg_q h3 (by omega) (by rw [ha.2]; exact hp)) ⟨_, rfl, rfl, ?_⟩
  unfold c_at
  rw [if_pos h3]
theorem s15 {h : q_Hp} {b : Nat} (ho : q_ok h b 0) : q_mI 0 15 [.ref b] h (fun z h' => h' = h ∧ z = qI h b 4) := ⟨q_recV rfl ho, b15_0 ho ⟨_, rfl, rfl, rfl⟩⟩
theorem s16 {h : q_Hp} {b c : Nat} {x : Int32} (S : q_Sh h) (hb : q_isB b) (hC : qI h b 4 = nI c) (hc : c ≤ 1200) : q_mI 0 16 [.ref b, .int x] h (fun z h' => h' = h ∧ z = if q_rg x c then qA h (b + 6) x.toNatClampNeg else 0) := by
  have ho := S.bo hb
  have hr : qR h b 11 = b + 6 := S.br hb 5 (by decide)
  have ha : q_ok h (b + 6) 20 ∧ (qK h (b + 6)).2 = 1200 := S.ba hb 5 1200 rfl
  refine ⟨q_recV rfl ho, ?_⟩
  refine b16_0 (fun h1 => b16_28 ⟨_, rfl, rfl, ?_⟩) (fun h1 => b16_4 ho (fun h2 => b16_28 ⟨_, rfl, rfl, ?_⟩) (fun h2 => b16_12 (fun h3 => b16_28 ⟨_, rfl, rfl, ?_⟩) (fun h3 => ?_)))
  · rw [if_neg (q_rgT (q_rg_lo h1))]
  · rw [if_neg (q_rgT (q_rg_hi rfl (hC ▸ h2)))]
  · rw [if_neg (q_rgT (q_rg_hi rfl (Int32.le_trans ((nI_leI (b := 1200) (by omega) (by decide)).mpr hc) h3)))]
  · have h4 : q_rg x c = true := q_rg_in rfl h1 (hC ▸ h2)
    refine b16_19 ho hr ha.1 (q_rg_q h4 (by omega) (by rw [ha.2]; exact hc)) ⟨_, rfl, rfl, ?_⟩
    rw [if_pos h4]
theorem s17 {h : q_Hp} {b c : Nat} {x : Int32} (S : q_Sh h) (hb : q_isB b) (hC : qI h b 4 = nI c) (hc : c ≤ 1200) : q_mI 0 17 [.ref b, .int x] h (fun z h' => h' = h ∧ z = if q_rg x c then qA h (b + 7) x.toNatClampNeg else 0) := by
  have ho := S.bo hb
  have hr : qR h b 12 = b + 7 := S.br hb 6 (by decide)
  have ha : q_ok h (b + 7) 20 ∧ (qK h (b + 7)).2 = 1200 := S.ba hb 6 1200 rfl
  refine ⟨q_recV rfl ho, ?_⟩
  refine b17_0 (fun h1 => b17_28 ⟨_, rfl, rfl, ?_⟩) (fun h1 => b17_4 ho (fun h2 => b17_28 ⟨_, rfl, rfl, ?_⟩) (fun h2 => b17_12 (fun h3 => b17_28 ⟨_, rfl, rfl, ?_⟩) (fun h3 => ?_)))
  · rw [if_neg (q_rgT (q_rg_lo h1))]
  · rw [if_neg (q_rgT (q_rg_hi rfl (hC ▸ h2)))]
  · rw [if_neg (q_rgT (q_rg_hi rfl (Int32.le_trans ((nI_leI (b := 1200) (by omega) (by decide)).mpr hc) h3)))]
  · have h4 : q_rg x c = true := q_rg_in rfl h1 (hC ▸ h2)
    refine b17_19 ho hr ha.1 (q_rg_q h4 (by omega) (by rw [ha.2]; exact hc)) ⟨_, rfl, rfl, ?_⟩
    rw [if_pos h4]
/-- a part of a do -/
def d_pt (f : Nat → Int32) (d : Nat) (x : Int32) (k : Nat) : Int32 := if q_rg x d then f (6 * x.toNatClampNeg + k) else -1
theorem s20 {h : q_Hp} {b d k : Nat} {x : Int32} (S : q_Sh h) (hb : q_isB b) (hD : qI h b 5 = nI d) (hd : d ≤ 1200) (hk : k < 6) : q_mI 1 20 [.ref b, .int x, .int (nI k)] h (fun z h' => h' = h ∧ z = d_pt (qA h (b + 8)) d x k) := by
  have ho := S.bo hb
  have hr : qR h b 13 = b + 8 := S.br hb 7 (by decide)
  have ha : q_ok h (b + 8) 20 ∧ (qK h (b + 8)).2 = 7200 := S.ba hb 7 7200 rfl
  refine ⟨q_recV rfl ho, ?_⟩
  refine b20_0 (fun h1 => b20_28 ⟨_, rfl, rfl, ?_⟩) (fun h1 => b20_4 ho (fun h2 => b20_28 ⟨_, rfl, rfl, ?_⟩) (fun h2 => ?_))
  · unfold d_pt
    rw [if_neg (q_rgT (q_rg_lo h1))]
  · unfold d_pt
    rw [if_neg (q_rgT (q_rg_hi rfl (hD ▸ h2)))]
  · have h4 : q_rg x d = true := q_rg_in rfl h1 (hD ▸ h2)
    obtain ⟨j, hj, rfl⟩ := (q_rg_ex (by omega)).mp h4
    refine b20_12 ho hr (s232 ha.1 ha.2 (by decide)) (by decide) ?_
    rintro z h1 ⟨e0, rfl⟩
    subst h1
    refine b20_25 ⟨_, rfl, rfl, ?_⟩
    have e : nI j * 6 + nI k = nI (6 * j + k) := by
      rw [show nI j * 6 = nI (j * 6) from pk_mul j 6, nI_add, Nat.mul_comm]
    rw [e, c_at_in (by omega) (by decide)]
    unfold d_pt
    rw [if_pos h4, nI_clamp (by omega)]
/-- elders that lead to types ahead only -/
def t_ok (e : Nat → Int32) (T : Nat) : Prop := ∀ j, j < T → e j = -1 ∨ ∃ i, i < j ∧ e j = nI i
theorem s259 {h : q_Hp} {t half : Nat} {x w : Int32} (S : q_Sh h) (hm : t ≤ 12) (hh : half ≤ 12) (hw : t_ok (fun i => qA h 638 (half + i)) t) (hx : x = -1 ∨ q_rg x t = true) : q_mI 0 259 [.ref 630, .int (nI half), .int x, .int w] h (fun z h' => h' = h ∧ z = b2i (t_is (fun i => qA h 638 (half + i)) t w 12 x)) := by
  refine ⟨q_recV rfl (S.ok rfl), ?_⟩
  have loop : ∀ m (y : Int32), (y = -1 ∨ ∃ j, j < t ∧ j < m ∧ y = nI j) → q_wp 0 259 3 [some (.ref 630), some (.int (nI half)), some (.int x), some (.int w), some (.int y)] [] h (fun r h' => ∃ z : Int32, r = some (.int z) ∧ h' = h ∧ z = b2i (t_is (fun i => qA h 638 (half + i)) t w m y)) := by
    intro m
    induction m with
    | zero =>
      intro y hy
      rcases hy with rfl | ⟨j, _, h2, _⟩
      · exact b259_3 (fun _ => b259_29 (fun _ => b259_39 ⟨_, rfl, rfl, rfl⟩) (fun h1 => absurd rfl h1)) (fun h1 => absurd rfl h1)
      · exact absurd h2 (Nat.not_lt_zero _)
    | succ m ih =>
      intro y hy
      rcases hy with rfl | ⟨j, h1, h2, rfl⟩
      · refine b259_3 (fun _ => b259_29 (fun _ => b259_39 ⟨_, rfl, rfl, ?_⟩) (fun h1 => absurd rfl h1)) (fun h1 => absurd rfl h1)
        unfold t_is
        rw [if_neg (q_rgT (q_rg_lo (by decide)))]
        rfl
      · have hr : q_rg (nI j) t = true := q_rgN h1 (by omega)
        refine b259_3 (fun h3 => absurd h3 (q_on_ne (by omega))) (fun h3 => b259_9 (fun h4 => b259_29 (fun h5 => absurd h5 h3) (fun _ => b259_35 ⟨_, rfl, rfl, ?_⟩)) (fun h4 => b259_15 (S.ok rfl) (S.ref (v := 638) rfl) (S.ok rfl) (by rw [nI_add]; exact S.inN (n := 24) rfl (by omega) (by decide)) ?_))
        · unfold t_is
          rw [if_pos hr, if_pos h4]
          rfl
        · unfold t_is
          rw [if_pos hr, if_neg h4, nI_add, nI_clamp (by omega), nI_clamp (by omega)]
          refine ih _ ?_
          rcases hw j h1 with h5 | ⟨i, h5, h6⟩
          · exact Or.inl h5
          · exact Or.inr ⟨i, by omega, by omega, h6⟩
  refine b259_0 (loop 12 x ?_)
  rcases hx with hx | hx
  · exact Or.inl hx
  · obtain ⟨j, hj, rfl⟩ := (q_rg_ex (by omega)).mp hx
    exact Or.inr ⟨j, hj, by omega, rfl⟩
theorem s321 {h : q_Hp} {t : Nat} {x : Int32} (S : q_Sh h) (hT : qI h 630 26 = nI t) : q_mI 0 321 [.ref 630, .int x] h (fun z h' => h' = h ∧ z = b2i (q_rg x t)) := by
  refine ⟨q_recV rfl (S.ok rfl), ?_⟩
  refine b321_0 (fun h1 => b321_16 ⟨_, rfl, rfl, ?_⟩) (fun h1 => b321_4 (S.ok rfl) (fun h2 => b321_16 ⟨_, rfl, rfl, ?_⟩) (fun h2 => b321_12 ⟨_, rfl, rfl, ?_⟩))
  · rw [q_rg_lo h1]; rfl
  · rw [q_rg_hi rfl (hT ▸ h2)]; rfl
  · rw [q_rg_in rfl h1 (hT ▸ h2)]; rfl
theorem t_is_ext {e e' : Nat → Int32} {T : Nat} {w : Int32} (he : ∀ i, i < T → e i = e' i) (hT : T < 2 ^ 31) : ∀ m x, t_is e T w m x = t_is e' T w m x := by
  intro m
  induction m with
  | zero => intro x; rfl
  | succ m ih =>
    intro x
    unfold t_is
    by_cases hx : q_rg x T = true
    · obtain ⟨j, hj, rfl⟩ := (q_rg_ex hT).mp hx
      rw [if_pos hx, if_pos hx, nI_clamp (by omega), he j hj, ih]
    · rw [if_neg hx, if_neg hx]
