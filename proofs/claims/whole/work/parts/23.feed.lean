/-! FEED, COUNT, UNDO on both sides -/
def f_b (w s : Int32) : Int32 := vp_nar .byte ((w >>> (s &&& 31) : Int32).toInt8.toInt32)
/-- the four bytes of a word, from a place on -/
def f_put (g : Nat → Int32) (n : Nat) (w : Int32) : Nat → Int32 := upd (upd (upd (upd g n (f_b w 24)) (n + 1) (f_b w 16)) (n + 2) (f_b w 8)) (n + 3) (f_b w 0)
def f_st (h : q_Hp) (o f a : Nat) (g : Nat → Int32) (n : Nat) : q_Hp := q_sI (q_wA h a g) o f (nI n)
theorem f_st_st (h : q_Hp) (o f a : Nat) (g g' : Nat → Int32) (n m : Nat) : f_st (f_st h o f a g n) o f a g' m = f_st h o f a g' m := by
  unfold f_st q_wA q_sI
  have e1 : ∀ (F : Nat → Nat → Int32) (u v : Int32), q_up (q_up F o f u) o f v = q_up F o f v := by
    intro F u v
    funext x y
    by_cases hx : x = o
    · subst hx
      rw [q_up_same, q_up_same, q_up_same]
      split <;> rfl
    · rw [q_up_ne hx, q_up_ne hx, q_up_ne hx]
  have e2 : (fun x => if x = a then g' else (fun x => if x = a then g else qA h x) x) = (fun x => if x = a then g' else qA h x) := by
    funext x
    by_cases hx : x = a
    · rw [if_pos hx, if_pos hx]
    · rw [if_neg hx, if_neg hx]
      exact if_neg hx
  show (qN h, qK h, q_up (q_up (qI h) o f (nI n)) o f (nI m), qR h, (fun x => if x = a then g' else (fun x => if x = a then g else qA h x) x), qL h, qZ h) = (qN h, qK h, q_up (qI h) o f (nI m), qR h, (fun x => if x = a then g' else qA h x), qL h, qZ h)
  rw [e1, e2]
theorem f_st_Sh {h : q_Hp} {o f a n : Nat} {g : Nat → Int32} (S : q_Sh h) : q_Sh (f_st h o f a g n) := S
theorem f_st_A {h : q_Hp} {o f a n : Nat} {g : Nat → Int32} : qA (f_st h o f a g n) a = g := if_pos rfl
theorem f_st_I {h : q_Hp} {o f a n : Nat} {g : Nat → Int32} : qI (f_st h o f a g n) o f = nI n := if_pos ⟨rfl, rfl⟩
theorem f_st_self {h : q_Hp} {o f a n : Nat} (e : qI h o f = nI n) : f_st h o f a (qA h a) n = h := by
  have e1 : q_up (qI h) o f (nI n) = qI h := by
    funext x y
    by_cases hx : x = o
    · subst hx
      rw [q_up_same]
      split
      next hy => rw [hy]; exact e.symm
      next => rfl
    · rw [q_up_ne hx]
  have e2 : (fun x => if x = a then qA h a else qA h x) = qA h := by
    funext x
    by_cases hx : x = a
    · rw [if_pos hx, hx]
    · rw [if_neg hx]
  show (qN h, qK h, q_up (qI h) o f (nI n), qR h, (fun x => if x = a then qA h a else qA h x), qL h, qZ h) = h
  rw [e1, e2]
  rfl
theorem l234 {h : q_Hp} {w s : Int32} {n : Nat} {g : Nat → Int32} {Q : Option Value → q_Hp → Prop} (S : q_Sh h) (hs : ¬ s < 0) (hn : n < 4000) (k : q_wp 0 234 3 [some (.ref 1), some (.int w), some (.int (s + (-8)))] [] (f_st h 1 1 2 (upd g n (f_b w s)) (n + 1)) Q) : q_wp 0 234 3 [some (.ref 1), some (.int w), some (.int s)] [] (f_st h 1 1 2 g n) Q := by
  have e : qI (f_st h 1 1 2 g n) 1 1 = nI n := f_st_I
  have k' : ∀ h2 : q_Hp, h2 = q_sI (q_sA (f_st h 1 1 2 g n) 2 ((qI (f_st h 1 1 2 g n) 1 1 : Int32).toNatClampNeg) (f_b w s)) 1 1 (qI (f_st h 1 1 2 g n) 1 1 + 1) → h2 = f_st h 1 1 2 (upd g n (f_b w s)) (n + 1) := by
    intro h2 e2
    rw [e2, e, nI_clamp (by omega), nI_1, ← f_st_st h 1 1 2 g (upd g n (f_b w s)) n (n + 1)]
    show q_sI (q_sA (f_st h 1 1 2 g n) 2 n (f_b w s)) 1 1 (nI (n + 1)) = q_sI (q_wA (f_st h 1 1 2 g n) 2 (upd g n (f_b w s))) 1 1 (nI (n + 1))
    rw [q_sA_wA, f_st_A]
  refine b234_3 (fun h1 => absurd h1 hs) (fun _ => b234_7 (S.ok rfl) (fun h1 => ?_) (fun _ => b234_17 (S.ok rfl) (S.ref (v := 2) rfl) (S.ok rfl) ?_ (b234_40 ?_)))
  · rw [e] at h1
    exact absurd ((nI_gec (k := 4000) (by omega) (by decide) rfl).mp h1) (by omega)
  · rw [e]
    exact S.inN (n := 4000) rfl hn (by decide)
  · have e3 := k' _ rfl
    unfold f_b at e3
    rw [e3]
    exact k
theorem s234 {h : q_Hp} {w : Int32} {n : Nat} (S : q_Sh h) (hn : qI h 1 1 = nI n) (h4 : n + 4 ≤ 4000) : q_mV 0 234 [.ref 1, .int w] h (fun h' => h' = f_st h 1 1 2 (f_put (qA h 2) n w) (n + 4)) := by
  refine ⟨q_recV rfl (S.ok rfl), b234_0 ?_⟩
  have key : q_wp 0 234 3 [some (.ref 1), some (.int w), some (.int 24)] [] (f_st h 1 1 2 (qA h 2) n) (fun r h' => r = none ∧ h' = f_st h 1 1 2 (f_put (qA h 2) n w) (n + 4)) := by
    refine l234 S (by decide) (by omega) ?_
    refine l234 S (by decide) (by omega) ?_
    refine l234 S (by decide) (by omega) ?_
    refine l234 S (by decide) (by omega) ?_
    exact b234_3 (fun _ => b234_46 ⟨rfl, rfl⟩) (fun h1 => absurd (show (24 : Int32) + (-8) + (-8) + (-8) + (-8) < 0 by decide) h1)
  rw [f_st_self hn] at key
  exact key
theorem l238 {h : q_Hp} {w s : Int32} {n : Nat} {g : Nat → Int32} {Q : Option Value → q_Hp → Prop} (S : q_Sh h) (hs : ¬ s < 0) (hn : n < 4000) (k : q_wp 0 238 3 [some (.ref 630), some (.int w), some (.int (s + (-8)))] [] (f_st h 630 2 631 (upd g n (f_b w s)) (n + 1)) Q) : q_wp 0 238 3 [some (.ref 630), some (.int w), some (.int s)] [] (f_st h 630 2 631 g n) Q := by
  have e : qI (f_st h 630 2 631 g n) 630 2 = nI n := f_st_I
  have k' : ∀ h2 : q_Hp, h2 = q_sI (q_sA (f_st h 630 2 631 g n) 631 ((qI (f_st h 630 2 631 g n) 630 2 : Int32).toNatClampNeg) (f_b w s)) 630 2 (qI (f_st h 630 2 631 g n) 630 2 + 1) → h2 = f_st h 630 2 631 (upd g n (f_b w s)) (n + 1) := by
    intro h2 e2
    rw [e2, e, nI_clamp (by omega), nI_1, ← f_st_st h 630 2 631 g (upd g n (f_b w s)) n (n + 1)]
    show q_sI (q_sA (f_st h 630 2 631 g n) 631 n (f_b w s)) 630 2 (nI (n + 1)) = q_sI (q_wA (f_st h 630 2 631 g n) 631 (upd g n (f_b w s))) 630 2 (nI (n + 1))
    rw [q_sA_wA, f_st_A]
  refine b238_3 (fun h1 => absurd h1 hs) (fun _ => b238_7 (S.ok rfl) (S.ref (v := 631) rfl) (S.ok rfl) ?_ ?_)
  · rw [e]
    exact S.inN (n := 4000) rfl hn (by decide)
  · have e3 := k' _ rfl
    unfold f_b at e3
    rw [e3]
    exact k
theorem s238 {h : q_Hp} {w : Int32} {n : Nat} (S : q_Sh h) (hn : qI h 630 2 = nI n) (h4 : n + 4 ≤ 4000) : q_mV 0 238 [.ref 630, .int w] h (fun h' => h' = f_st h 630 2 631 (f_put (qA h 631) n w) (n + 4)) := by
  refine ⟨q_recV rfl (S.ok rfl), b238_0 ?_⟩
  have key : q_wp 0 238 3 [some (.ref 630), some (.int w), some (.int 24)] [] (f_st h 630 2 631 (qA h 631) n) (fun r h' => r = none ∧ h' = f_st h 630 2 631 (f_put (qA h 631) n w) (n + 4)) := by
    refine l238 S (by decide) (by omega) ?_
    refine l238 S (by decide) (by omega) ?_
    refine l238 S (by decide) (by omega) ?_
    refine l238 S (by decide) (by omega) ?_
    exact b238_3 (fun _ => b238_36 ⟨rfl, rfl⟩) (fun h1 => absurd (show (24 : Int32) + (-8) + (-8) + (-8) + (-8) < 0 by decide) h1)
  rw [f_st_self hn] at key
  exact key
def f_put5 (g : Nat → Int32) (n : Nat) (a b c d e : Int32) : Nat → Int32 := f_put (f_put (f_put (f_put (f_put g n a) (n + 4) b) (n + 8) c) (n + 12) d) (n + 16) e
def D211 (h : q_Hp) (o f r n : Nat) (a b c d e : Int32) : Int32 × q_Hp := if n ≤ 3980 then (nI (n + 20), f_st h o f r (f_put5 (qA h r) n a b c d e) (n + 20)) else (-1, h)
theorem s211 {h : q_Hp} {n : Nat} {a b c d e : Int32} (S : q_Sh h) (hn : qI h 1 1 = nI n) (h4 : n ≤ 4000) : q_mI 1 211 [.ref 1, .int a, .int b, .int c, .int d, .int e] h (fun z h' => (z, h') = D211 h 1 1 2 n a b c d e) := by
  refine ⟨q_recV rfl (S.ok rfl), ?_⟩
  have hc : qI h 1 1 ≤ 3980 ↔ n ≤ 3980 := by rw [hn]; exact nI_leI (b := 3980) (by omega) (by decide)
  refine b211_0 (S.ok rfl) (fun h1 => ?_) (fun h1 => b211_10 ⟨_, rfl, ?_⟩)
  · have h2 := hc.mp h1
    refine b211_12 (s234 S hn (by omega)) (by decide) ?_
    rintro h1 rfl
    refine b211_17 (s234 (n := n + 4) S f_st_I (by omega)) (by decide) ?_
    rintro h1 rfl
    rw [f_st_st, f_st_A]
    refine b211_22 (s234 (n := n + 8) S f_st_I (by omega)) (by decide) ?_
    rintro h1 rfl
    rw [f_st_st, f_st_A]
    refine b211_27 (s234 (n := n + 12) S f_st_I (by omega)) (by decide) ?_
    rintro h1 rfl
    rw [f_st_st, f_st_A]
    refine b211_33 (s234 (n := n + 16) S f_st_I (by omega)) (by decide) ?_
    rintro h1 rfl
    rw [f_st_st, f_st_A]
    refine b211_39 (S.ok rfl) ⟨_, rfl, ?_⟩
    rw [f_st_I]
    unfold D211
    rw [if_pos h2]
    rfl
  · unfold D211
    rw [if_neg (fun h2 => h1 (hc.mpr h2))]
theorem s237 {h : q_Hp} {n : Nat} {a b c d e : Int32} (S : q_Sh h) (hn : qI h 630 2 = nI n) (h4 : n ≤ 4000) : q_mI 1 237 [.ref 630, .int a, .int b, .int c, .int d, .int e] h (fun z h' => (z, h') = D211 h 630 2 631 n a b c d e) := by
  refine ⟨q_recV rfl (S.ok rfl), ?_⟩
  have hc : qI h 630 2 + 20 ≤ 4000 ↔ n ≤ 3980 := by
    rw [hn, show nI n + 20 = nI (n + 20) from nI_add n 20]
    have := nI_leI (a := n + 20) (b := 4000) (by omega) (by decide)
    rw [show (4000 : Int32) = nI 4000 from rfl, this]
    omega
  refine b237_0 (S.ok rfl) (fun h1 => ?_) (fun h1 => b237_13 ⟨_, rfl, ?_⟩)
  · have h2 := hc.mp h1
    refine b237_15 (s238 S hn (by omega)) (by decide) ?_
    rintro h1 rfl
    refine b237_20 (s238 (n := n + 4) S f_st_I (by omega)) (by decide) ?_
    rintro h1 rfl
    rw [f_st_st, f_st_A]
    refine b237_25 (s238 (n := n + 8) S f_st_I (by omega)) (by decide) ?_
    rintro h1 rfl
    rw [f_st_st, f_st_A]
    refine b237_30 (s238 (n := n + 12) S f_st_I (by omega)) (by decide) ?_
    rintro h1 rfl
    rw [f_st_st, f_st_A]
    refine b237_36 (s238 (n := n + 16) S f_st_I (by omega)) (by decide) ?_
    rintro h1 rfl
    rw [f_st_st, f_st_A]
    refine b237_42 (S.ok rfl) ⟨_, rfl, ?_⟩
    rw [f_st_I]
    unfold D211
    rw [if_pos h2]
    rfl
  · unfold D211
    rw [if_neg (fun h2 => h1 (hc.mpr h2))]
def D231 (h : q_Hp) (b : Nat) (x : Int32) : Int32 := if x = 0 then nI (d_nodes (qA h 598)) else if x = 1 then nI (d_links (qA h 598)) else if x = 2 then qI h b 0 else if x = 3 then qI h b 1 else if x = 4 then qI h b 2 else if x = 5 then qI h b 3 else if x = 6 then qI h 599 3 else if x = 7 then qI h 614 5 else if x = 8 then qI h 614 4 else if x = 9 then qI h 1 1 else if x = 10 then (if r_go h = true then qI h 614 7 else 0) else -1
def D347 (h : q_Hp) (x : Int32) : Int32 := if x = 0 then nI (q_cnt (fun i => !(qA h 691 (0 + i) == -1)) 12) else if x = 1 then nI (q_cnt (fun i => !(qA h 691 (36 + i) == -1)) 40) else if x = 2 then qI h 630 24 else if x = 3 then qI h 630 25 else if x = 4 then qI h 630 26 else if x = 5 then qI h 630 27 else if x = 6 then qI h 630 91 - qI h 630 92 else if x = 7 then qI h 630 105 else if x = 8 then qI h 630 104 else if x = 9 then qI h 630 2 else if x = 10 then (if m_go h = true then qI h 630 106 else 0) else -1
theorem s231 {h : q_Hp} {b : Nat} {x : Int32} (S : q_Sh h) (hb : q_isB b) (hbk : qR h 1 5 = b) : q_mI 2 231 [.ref 1, .int x] h (fun z h' => h' = h ∧ z = D231 h b x) := by
  refine ⟨q_recV rfl (S.ok rfl), ?_⟩
  refine b231_0 ?_ ?_ ?_ ?_ ?_ ?_ ?_ ?_ ?_ ?_ ?_ ?_
  · intro c0
    refine b231_60 (S.ok rfl) (S.ref (v := 597) rfl) (s72 S.dg) (by decide) ?_
    rintro z60 h60 ⟨e60, rfl⟩
    subst h60
    refine b231_67 ?_
    refine ⟨_, rfl, rfl, ?_⟩
    try simp only [b2i_eq, b2i_ne] at *
    first | (subst c0; rfl) | (subst c0; simp_all [D231]; done) | (simp [D231, k0, k1, k2, k3, k4, k5, k6, k7, k8, k9, k10]; done)
  · intro c0
    refine b231_68 (S.ok rfl) (S.ref (v := 597) rfl) (s73 S.dg) (by decide) ?_
    rintro z68 h68 ⟨e68, rfl⟩
    subst h68
    refine b231_75 ?_
    refine ⟨_, rfl, rfl, ?_⟩
    try simp only [b2i_eq, b2i_ne] at *
    first | (subst c0; rfl) | (subst c0; simp_all [D231]; done) | (simp [D231, k0, k1, k2, k3, k4, k5, k6, k7, k8, k9, k10]; done)
  · intro c0
    refine b231_76 (S.ok rfl) hbk (S.bo hb) ?_
    refine ⟨_, rfl, rfl, ?_⟩
    try simp only [b2i_eq, b2i_ne] at *
    first | (subst c0; rfl) | (subst c0; simp_all [D231]; done) | (simp [D231, k0, k1, k2, k3, k4, k5, k6, k7, k8, k9, k10]; done)
  · intro c0
    refine b231_84 (S.ok rfl) hbk (S.bo hb) ?_
    refine ⟨_, rfl, rfl, ?_⟩
    try simp only [b2i_eq, b2i_ne] at *
    first | (subst c0; rfl) | (subst c0; simp_all [D231]; done) | (simp [D231, k0, k1, k2, k3, k4, k5, k6, k7, k8, k9, k10]; done)
  · intro c0
    refine b231_92 (S.ok rfl) hbk (S.bo hb) ?_
    refine ⟨_, rfl, rfl, ?_⟩
    try simp only [b2i_eq, b2i_ne] at *
    first | (subst c0; rfl) | (subst c0; simp_all [D231]; done) | (simp [D231, k0, k1, k2, k3, k4, k5, k6, k7, k8, k9, k10]; done)
  · intro c0
    refine b231_100 (S.ok rfl) hbk (S.bo hb) ?_
    refine ⟨_, rfl, rfl, ?_⟩
    try simp only [b2i_eq, b2i_ne] at *
    first | (subst c0; rfl) | (subst c0; simp_all [D231]; done) | (simp [D231, k0, k1, k2, k3, k4, k5, k6, k7, k8, k9, k10]; done)
  · intro c0
    refine b231_108 (S.ok rfl) (S.ref (v := 599) rfl) (s82 S) (by decide) ?_
    rintro z108 h108 ⟨e108, rfl⟩
    subst h108
    refine b231_115 ?_
    refine ⟨_, rfl, rfl, ?_⟩
    try simp only [b2i_eq, b2i_ne] at *
    first | (subst c0; rfl) | (subst c0; simp_all [D231]; done) | (simp [D231, k0, k1, k2, k3, k4, k5, k6, k7, k8, k9, k10]; done)
  · intro c0
    refine b231_116 (S.ok rfl) (S.ref (v := 614) rfl) (s141 S) (by decide) ?_
    rintro z116 h116 ⟨e116, rfl⟩
    subst h116
    refine b231_123 ?_
    refine ⟨_, rfl, rfl, ?_⟩
    try simp only [b2i_eq, b2i_ne] at *
    first | (subst c0; rfl) | (subst c0; simp_all [D231]; done) | (simp [D231, k0, k1, k2, k3, k4, k5, k6, k7, k8, k9, k10]; done)
  · intro c0
    refine b231_124 (S.ok rfl) (S.ref (v := 614) rfl) (s140 S) (by decide) ?_
    rintro z124 h124 ⟨e124, rfl⟩
    subst h124
    refine b231_131 ?_
    refine ⟨_, rfl, rfl, ?_⟩
    try simp only [b2i_eq, b2i_ne] at *
    first | (subst c0; rfl) | (subst c0; simp_all [D231]; done) | (simp [D231, k0, k1, k2, k3, k4, k5, k6, k7, k8, k9, k10]; done)
  · intro c0
    refine b231_132 (S.ok rfl) ?_
    refine ⟨_, rfl, rfl, ?_⟩
    try simp only [b2i_eq, b2i_ne] at *
    first | (subst c0; rfl) | (subst c0; simp_all [D231]; done) | (simp [D231, k0, k1, k2, k3, k4, k5, k6, k7, k8, k9, k10]; done)
  · intro c0
    refine b231_137 (S.ok rfl) (S.ref (v := 614) rfl) (s142 S) (by decide) ?_
    rintro z137 h137 ⟨e137, rfl⟩
    subst h137
    refine b231_144 ?_
    refine ⟨_, rfl, rfl, ?_⟩
    try simp only [b2i_eq, b2i_ne] at *
    first | (subst c0; rfl) | (subst c0; simp_all [D231]; done) | (simp [D231, k0, k1, k2, k3, k4, k5, k6, k7, k8, k9, k10]; done)
  · intro c0
    have k0 : ¬ x = 0 := by (rintro rfl; revert c0; decide)
    have k1 : ¬ x = 1 := by (rintro rfl; revert c0; decide)
    have k2 : ¬ x = 2 := by (rintro rfl; revert c0; decide)
    have k3 : ¬ x = 3 := by (rintro rfl; revert c0; decide)
    have k4 : ¬ x = 4 := by (rintro rfl; revert c0; decide)
    have k5 : ¬ x = 5 := by (rintro rfl; revert c0; decide)
    have k6 : ¬ x = 6 := by (rintro rfl; revert c0; decide)
    have k7 : ¬ x = 7 := by (rintro rfl; revert c0; decide)
    have k8 : ¬ x = 8 := by (rintro rfl; revert c0; decide)
    have k9 : ¬ x = 9 := by (rintro rfl; revert c0; decide)
    have k10 : ¬ x = 10 := by (rintro rfl; revert c0; decide)
    refine b231_145 ?_
    refine ⟨_, rfl, rfl, ?_⟩
    try simp only [b2i_eq, b2i_ne] at *
    first | (subst c0; rfl) | (subst c0; simp_all [D231]; done) | (simp [D231, k0, k1, k2, k3, k4, k5, k6, k7, k8, k9, k10]; done)
theorem s347 {h : q_Hp} {x : Int32} (S : q_Sh h) : q_mI 2 347 [.ref 630, .int x] h (fun z h' => h' = h ∧ z = D347 h x) := by
  refine ⟨q_recV rfl (S.ok rfl), ?_⟩
  refine b347_0 ?_ ?_ ?_ ?_ ?_ ?_ ?_ ?_ ?_ ?_ ?_ ?_
  · intro c0
    refine b347_60 (s296 (b := 0) (k := 12) S (by decide)) (by decide) ?_
    rintro z60 h60 ⟨e60, rfl⟩
    subst h60
    refine b347_67 ?_
    refine ⟨_, rfl, rfl, ?_⟩
    try simp only [b2i_eq, b2i_ne] at *
    first | (subst c0; rfl) | (subst c0; simp_all [D347]; done) | (simp [D347, k0, k1, k2, k3, k4, k5, k6, k7, k8, k9, k10]; done)
  · intro c0
    refine b347_68 (s296 (b := 36) (k := 40) S (by decide)) (by decide) ?_
    rintro z68 h68 ⟨e68, rfl⟩
    subst h68
    refine b347_76 ?_
    refine ⟨_, rfl, rfl, ?_⟩
    try simp only [b2i_eq, b2i_ne] at *
    first | (subst c0; rfl) | (subst c0; simp_all [D347]; done) | (simp [D347, k0, k1, k2, k3, k4, k5, k6, k7, k8, k9, k10]; done)
  · intro c0
    refine b347_77 (S.ok rfl) ?_
    refine ⟨_, rfl, rfl, ?_⟩
    try simp only [b2i_eq, b2i_ne] at *
    first | (subst c0; rfl) | (subst c0; simp_all [D347]; done) | (simp [D347, k0, k1, k2, k3, k4, k5, k6, k7, k8, k9, k10]; done)
  · intro c0
    refine b347_82 (S.ok rfl) ?_
    refine ⟨_, rfl, rfl, ?_⟩
    try simp only [b2i_eq, b2i_ne] at *
    first | (subst c0; rfl) | (subst c0; simp_all [D347]; done) | (simp [D347, k0, k1, k2, k3, k4, k5, k6, k7, k8, k9, k10]; done)
  · intro c0
    refine b347_87 (S.ok rfl) ?_
    refine ⟨_, rfl, rfl, ?_⟩
    try simp only [b2i_eq, b2i_ne] at *
    first | (subst c0; rfl) | (subst c0; simp_all [D347]; done) | (simp [D347, k0, k1, k2, k3, k4, k5, k6, k7, k8, k9, k10]; done)
  · intro c0
    refine b347_92 (S.ok rfl) ?_
    refine ⟨_, rfl, rfl, ?_⟩
    try simp only [b2i_eq, b2i_ne] at *
    first | (subst c0; rfl) | (subst c0; simp_all [D347]; done) | (simp [D347, k0, k1, k2, k3, k4, k5, k6, k7, k8, k9, k10]; done)
  · intro c0
    refine b347_97 (S.ok rfl) ?_
    refine ⟨_, rfl, rfl, ?_⟩
    try simp only [b2i_eq, b2i_ne] at *
    first | (subst c0; rfl) | (subst c0; simp_all [D347]; done) | (simp [D347, k0, k1, k2, k3, k4, k5, k6, k7, k8, k9, k10]; done)
  · intro c0
    refine b347_107 (S.ok rfl) ?_
    refine ⟨_, rfl, rfl, ?_⟩
    try simp only [b2i_eq, b2i_ne] at *
    first | (subst c0; rfl) | (subst c0; simp_all [D347]; done) | (simp [D347, k0, k1, k2, k3, k4, k5, k6, k7, k8, k9, k10]; done)
  · intro c0
    refine b347_112 (S.ok rfl) ?_
    refine ⟨_, rfl, rfl, ?_⟩
    try simp only [b2i_eq, b2i_ne] at *
    first | (subst c0; rfl) | (subst c0; simp_all [D347]; done) | (simp [D347, k0, k1, k2, k3, k4, k5, k6, k7, k8, k9, k10]; done)
  · intro c0
    refine b347_117 (S.ok rfl) ?_
    refine ⟨_, rfl, rfl, ?_⟩
    try simp only [b2i_eq, b2i_ne] at *
    first | (subst c0; rfl) | (subst c0; simp_all [D347]; done) | (simp [D347, k0, k1, k2, k3, k4, k5, k6, k7, k8, k9, k10]; done)
  · intro c0
    refine b347_122 (s298m S) (by decide) ?_
    rintro z122 h122 ⟨e122, rfl⟩
    subst h122
    refine b347_126 ?_ ?_
    · intro c126
      refine b347_136 ?_
      refine ⟨_, rfl, rfl, ?_⟩
      try simp only [b2i_eq, b2i_ne] at *
      first | (subst c0; rfl) | (subst c0; simp_all [D347]; done) | (simp [D347, k0, k1, k2, k3, k4, k5, k6, k7, k8, k9, k10]; done)
    · intro c126
      refine b347_129 (S.ok rfl) ?_
      refine ⟨_, rfl, rfl, ?_⟩
      try simp only [b2i_eq, b2i_ne] at *
      first | (subst c0; rfl) | (subst c0; simp_all [D347]; done) | (simp [D347, k0, k1, k2, k3, k4, k5, k6, k7, k8, k9, k10]; done)
  · intro c0
    have k0 : ¬ x = 0 := by (rintro rfl; revert c0; decide)
    have k1 : ¬ x = 1 := by (rintro rfl; revert c0; decide)
    have k2 : ¬ x = 2 := by (rintro rfl; revert c0; decide)
    have k3 : ¬ x = 3 := by (rintro rfl; revert c0; decide)
    have k4 : ¬ x = 4 := by (rintro rfl; revert c0; decide)
    have k5 : ¬ x = 5 := by (rintro rfl; revert c0; decide)
    have k6 : ¬ x = 6 := by (rintro rfl; revert c0; decide)
    have k7 : ¬ x = 7 := by (rintro rfl; revert c0; decide)
    have k8 : ¬ x = 8 := by (rintro rfl; revert c0; decide)
    have k9 : ¬ x = 9 := by (rintro rfl; revert c0; decide)
    have k10 : ¬ x = 10 := by (rintro rfl; revert c0; decide)
    refine b347_138 ?_
    refine ⟨_, rfl, rfl, ?_⟩
    try simp only [b2i_eq, b2i_ne] at *
    first | (subst c0; rfl) | (subst c0; simp_all [D347]; done) | (simp [D347, k0, k1, k2, k3, k4, k5, k6, k7, k8, k9, k10]; done)
theorem s228 {h : q_Hp} (S : q_Sh h) {t k s : Nat} {x : Int32} (ht : qI h 599 2 = nI t) (hk : qI h 599 3 = nI k) (hs : qI h 599 4 = nI s) (h1 : t < 101) (h2 : k ≤ 100) (h3 : k ≤ s) (h4 : s < 2 ^ 20) : q_mI 4 228 [.ref 1, .int x] h (fun z h' => (r_go h = false ∧ ∃ n : Nat, x = nI n ∧ 1 ≤ n ∧ n ≤ k ∧ z = 1 ∧ h' = q_wA (q_his h (q_back t n) (k - n) (s - n)) 598 (va_cpy (qA h 600) (qA h 598) (q_back t n * 156) 0 156)) ∨ ((¬ (r_go h = false ∧ ∃ n : Nat, x = nI n ∧ 1 ≤ n ∧ n ≤ k)) ∧ z = 0 ∧ h' = h)) := by
  refine ⟨q_recV rfl (S.ok rfl), ?_⟩
  refine b228_0 (S.ok rfl) (S.ref (v := 614) rfl) (s139 S) (by decide) ?_
  rintro z h5 ⟨e0, rfl⟩
  subst h5
  refine b228_7 (fun c1 => b228_25 ⟨_, rfl, Or.inr ⟨?_, rfl, rfl⟩⟩) (fun c1 => b228_10 (S.ok rfl) (S.ref (v := 599) rfl) (s89 S ht hk hs h1 h2 h3 h4) (by decide) ?_)
  · rintro ⟨g1, _⟩
    rw [g1] at c1
    exact c1 rfl
  · have c2 := b2i_eq.mp c1
    rintro z h5 (⟨n, g1, g2, g3, rfl, rfl⟩ | ⟨g1, rfl, g2⟩)
    · exact b228_18 (fun g4 => absurd g4 (by decide)) (fun _ => b228_21 ⟨_, rfl, Or.inl ⟨c2, n, g1, g2, g3, rfl, rfl⟩⟩)
    · exact b228_18 (fun _ => b228_25 ⟨_, rfl, Or.inr ⟨fun g => g1 g.2, rfl, g2⟩⟩) (fun g4 => absurd rfl g4)
theorem s331 {h : q_Hp} (S : q_Sh h) {a l : Nat} {x : Int32} (ha : qI h 630 91 = nI a) (hl : qI h 630 92 = nI l) (h1 : l ≤ a) (h2 : a < 2 ^ 20) : q_mI 1 331 [.ref 630, .int x] h (fun z h' => (m_go h = false ∧ ∃ n : Nat, x = nI n ∧ 1 ≤ n ∧ n ≤ a - l ∧ z = 1 ∧ h' = q_wA (q_sI h 630 91 (nI (a - n))) 691 (va_cpy (qA h 692) (qA h 691) (156 * ((a - n) % 101)) 0 156)) ∨ ((¬ (m_go h = false ∧ ∃ n : Nat, x = nI n ∧ 1 ≤ n ∧ n ≤ a - l)) ∧ z = 0 ∧ h' = h)) := by
  refine ⟨q_recV rfl (S.ok rfl), ?_⟩
  have e1 : qI h 630 91 - qI h 630 92 = nI (a - l) := by rw [ha, hl]; exact pk_sub h1
  refine b331_0 (fun c1 => b331_25 ⟨_, rfl, Or.inr ⟨?_, rfl, rfl⟩⟩) (fun c1 => b331_5 (s298m S) (by decide) ?_)
  · rintro ⟨_, n, rfl, g1, g2⟩
    have := (nI_ltc (k := 1) (by omega) (by decide) rfl).mp c1
    omega
  · rintro z h5 ⟨e0, rfl⟩
    subst h5
    refine b331_9 (fun c2 => b331_25 ⟨_, rfl, Or.inr ⟨?_, rfl, rfl⟩⟩) (fun c2 => b331_12 (S.ok rfl) (fun c3 => ?_) (fun c3 => b331_25 ⟨_, rfl, Or.inr ⟨?_, rfl, rfl⟩⟩))
    · rintro ⟨g1, _⟩
      rw [g1] at c2
      exact c2 rfl
    · have c4 := b2i_eq.mp c2
      rw [e1] at c3
      obtain ⟨n, hn, rfl⟩ := nI_of (x := x) (fun h7 => c1 (Int32.lt_trans h7 (by decide)))
      have g1 : 1 ≤ n := by
        refine Nat.one_le_iff_ne_zero.mpr (fun h => c1 ?_)
        subst h
        decide
      have g2 : n ≤ a - l := (nI_leI (by omega) (by omega)).mp c3
      have e2 : qI (q_sI h 630 91 (qI h 630 91 - nI n)) 630 91 = nI (a - n) := by
        rw [qI_sI, if_pos ⟨rfl, rfl⟩, ha]
        exact pk_sub (by omega)
      have e3 : (156 : Int32) * (nI (a - n) - nI (a - n) / 101 * 101) = nI (156 * ((a - n) % 101)) := by
        rw [show nI (a - n) - nI (a - n) / 101 * 101 = nI ((a - n) % 101) from pk_rem (d := 101) (by omega) (by decide) (by decide)]
        exact pk_mul 156 _
      have e4 : qI h 630 91 - nI n = nI (a - n) := by rw [ha]; exact pk_sub (by omega)
      refine b331_27 (S.ok rfl) (S.ref (v := 692) rfl) (by decide) (m := 0) (P := fun h' => h' = q_wA (q_sI h 630 91 (nI (a - n))) 691 (va_cpy (qA h 692) (qA h 691) (156 * ((a - n) % 101)) 0 156)) ?_ (by decide) ?_
      · rw [e2, e3, e4]
        have : (a - n) % 101 < 101 := Nat.mod_lt _ (by decide)
        exact s293 (s := 692) S.sI (S.ok rfl) (S.len (n := 15756) rfl) (by omega) (by decide) (by decide)
      · rintro h5 rfl
        exact b331_56 ⟨_, rfl, Or.inl ⟨c4, n, rfl, g1, g2, rfl, rfl⟩⟩
    · rintro ⟨_, n, rfl, g1, g2⟩
      rw [e1] at c3
      exact c3 ((nI_leI (by omega) (by omega)).mpr g2)
