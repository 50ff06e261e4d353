/-! SYNTAX, without cells: where the text at hand is, and its fault (0 none, 1, 2); behind a fault nothing moves -/
abbrev y_S : Type := Nat × Nat
section SY
variable (K : Nat → Nat)
def y_is (k : Nat) (s : y_S) : Bool := s.2 == 0 && K s.1 == k
def y_fl (f : Nat) (s : y_S) : y_S := if s.2 = 0 then (s.1, f) else s
def y_ps (s : y_S) : y_S := if s.2 = 0 then (if 1200 ≤ s.1 then (s.1, 2) else (s.1 + 1, 0)) else s
def y_nd (k : Nat) (s : y_S) : y_S := if y_is K k s = true then y_ps s else y_fl 1 s
def y_rm (b : Bool) (s : y_S) : y_S := if b = true then s else y_fl 2 s
def y_nn (b : Bool) (s : y_S) : y_S := y_nd K 40 (if y_is K 40 s = true then y_rm b s else s)
def y_ty (nt : Nat) (s : y_S) : y_S := y_nd K 26 (if y_is K 1 (y_nn K (decide (nt < 12)) (y_ps s)) = true then y_nd K 40 (y_ps (y_nn K (decide (nt < 12)) (y_ps s))) else y_nn K (decide (nt < 12)) (y_ps s))
def y_so (ns : Nat) (s : y_S) : y_S := y_nd K 26 (y_nd K 40 (y_nd K 39 (y_nd K 40 (y_nd K 25 (y_nn K (decide (ns < 12)) (y_ps s))))))
def y_wy (s : y_S) : y_S := y_nd K 40 (y_nd K 39 (y_nd K 40 (y_nd K 32 (y_nd K 40 s))))
def y_no (b : Bool) (s : y_S) : y_S := y_nd K 26 (y_nd K 40 (y_nd K 25 (y_nn K b (y_ps s))))
def y_li (b : Bool) (s : y_S) : y_S := y_nd K 26 (y_wy K (y_nd K 25 (y_nn K b (y_ps s))))
def y_le (nr lr : Nat) (cm : Bool) : Nat → Nat → Nat → y_S → y_S
  | 0, _, _, s => s
  | m + 1, n, l, s => if y_is K 6 s = true then y_le nr lr cm m (n + 1) l (y_no K (decide (n < nr)) s) else if y_is K 7 s = true then y_le nr lr cm m n (l + 1) (y_li K (decide (l < lr)) s) else if cm = true ∧ y_is K 8 s = true then y_le nr lr cm m n l (y_nd K 26 (y_ps s)) else s
def y_n1 (c : Nat) (s : y_S) : y_S := y_nd K 5 (y_le K 1 3 false 1201 0 0 (y_ps (y_rm (decide (c < 2)) s)))
def y_nt : Nat → Nat → y_S → y_S
  | 0, _, s => s
  | m + 1, c, s => if y_is K 9 s = true then y_nt m (c + 1) (y_n1 K c s) else s
def y_un (s : y_S) : y_S := if y_is K 41 s = true then y_ps s else y_nd K 41 (y_nd K 27 (y_nd K 40 s))
def y_cl : Nat → y_S → Nat × y_S
  | 0, s => (0, s)
  | o + 1, s => if y_is K 35 s = true then y_cl o (y_ps s) else (o + 1, s)
def y_sn (s : y_S) : Bool := y_is K 31 s || (y_is K 32 s || y_is K 33 s)
def y_mi (f : Bool) (s : y_S) : y_S := if f = true ∧ y_is K 32 s = true then y_ps s else s
def y_su : Nat → Bool → Nat → y_S → y_S
  | 0, _, _, s => s
  | m + 1, f, o, s => if s.2 = 0 then (if y_is K 34 (y_mi K f s) = true then y_su m true (o + 1) (y_ps (y_rm (decide (o < 8)) (y_mi K f s))) else if y_sn K (y_cl K o (y_un K (y_mi K f s))).2 = true then y_su m false (y_cl K o (y_un K (y_mi K f s))).1 (y_ps (y_cl K o (y_un K (y_mi K f s))).2) else if 0 < (y_cl K o (y_un K (y_mi K f s))).1 then y_fl 1 (y_cl K o (y_un K (y_mi K f s))).2 else (y_cl K o (y_un K (y_mi K f s))).2) else s
def y_E (s : y_S) : y_S := y_su K 1202 true 0 s
def y_cm (s : y_S) : Bool := y_is K 36 s || (y_is K 37 s || (y_is K 30 s || y_is K 38 s))
def y_op (s : y_S) : y_S := if y_cm K s = true then y_ps s else y_fl 1 s
def y_te (s : y_S) : y_S := y_nd K 26 (y_E K (y_op K (y_E K (y_ps s))))
def y_ts : Nat → Nat → y_S → y_S
  | 0, _, s => s
  | m + 1, c, s => if y_is K 10 s = true then y_ts m (c + 1) (y_te K (y_rm (decide (c < 4)) s)) else s
def y_dw (s : y_S) : Bool := y_is K 11 s || (y_is K 12 s || (y_is K 13 s || y_is K 14 s))
def y_d1 (s : y_S) : y_S := y_nd K 26 (if y_is K 11 s = true then y_nd K 40 (y_ps s) else if y_is K 12 s = true then y_nd K 40 (y_nd K 25 (y_nd K 40 (y_ps s))) else if y_is K 13 s = true then y_wy K (y_ps s) else y_E K (y_nd K 29 (y_nd K 41 (y_nd K 27 (y_nd K 40 (y_ps s))))))
def y_ds : Nat → Nat → y_S → y_S
  | 0, _, s => s
  | m + 1, c, s => if y_dw K s = true then y_ds m (c + 1) (y_d1 K (y_rm (decide (c < 8)) s)) else s
def y_ru (nr : Nat) (s : y_S) : y_S := y_nd K 5 (y_ds K 9 0 (y_ts K 5 0 (y_nt K 3 0 (y_le K 4 6 true 1201 0 0 (y_nn K (decide (nr < 20)) (y_ps s))))))
def y_co : Nat → y_S → y_S
  | 0, s => s
  | m + 1, s => if y_is K 28 s = true then y_co m (y_nd K 40 (y_ps s)) else s
def y_an (s : y_S) : y_S := y_nd K 26 (y_co K 1201 (y_nd K 40 (y_ps s)))
/-- a while, loop or try with what reads a row in it -/
def y_rs (rec : y_S → y_S) (s : y_S) : y_S := y_nd K 5 (rec (if y_is K 22 s = true then y_nd K 24 (rec (y_nd K 23 (rec (y_ps s)))) else if y_is K 21 s = true then y_nd K 41 (y_ps s) else y_ps s))
def y_wl (s : y_S) : Bool := y_is K 20 s || (y_is K 21 s || y_is K 22 s)
def y_dc (s : y_S) : Bool := y_is K 15 s || (y_is K 16 s || y_is K 18 s)
def y_ro : Nat → Nat → y_S → y_S
  | 0, _, s => s
  | m + 1, d, s => if y_wl K s = true then y_ro m d (y_rs K (y_ro m (d + 1)) (y_rm (decide (d < 8)) s)) else if y_dc K s = true then y_ro m d (y_nd K 26 (y_nd K 40 (y_ps s))) else if y_is K 19 s = true then y_ro m d (y_nd K 26 (y_ps s)) else if y_is K 17 s = true then y_ro m d (y_an K s) else s
def y_pr (np : Nat) (s : y_S) : y_S := y_nd K 5 (y_ro K 1202 0 (y_nn K (decide (np < 10)) (y_ps s)))
/-- so many types, sorts, rules, procs, and where the names of the latter two stand -/
abbrev y_T : Type := Nat × Nat × Nat × Nat × (Nat → Nat) × (Nat → Nat)
def y_tp : Nat → y_T → y_S → y_T × y_S
  | 0, c, s => (c, s)
  | m + 1, c, s => if s.2 = 0 ∧ ¬ K s.1 = 42 then (if y_is K 0 s = true then y_tp m (c.1 + 1, c.2) (y_ty K c.1 s) else if y_is K 2 s = true then y_tp m (c.1, c.2.1 + 1, c.2.2) (y_so K c.2.1 s) else if y_is K 3 s = true then y_tp m (c.1, c.2.1, c.2.2.1 + 1, c.2.2.2.1, un c.2.2.2.2.1 c.2.2.1 (s.1 + 1), c.2.2.2.2.2) (y_ru K c.2.2.1 s) else if y_is K 4 s = true then y_tp m (c.1, c.2.1, c.2.2.1, c.2.2.2.1 + 1, c.2.2.2.2.1, un c.2.2.2.2.2 c.2.2.2.1 (s.1 + 1)) (y_pr K c.2.2.2.1 s) else y_tp m c (y_fl 1 s)) else (c, s)
def y_al : y_T × y_S := y_tp K 1201 (0, 0, 0, 0, fun _ => 0, fun _ => 0) (0, 0)
end SY
/-- what follows: a place further on, and a fault stays -/
def y_to (s s' : y_S) : Prop := s.1 ≤ s'.1 ∧ (s'.2 = 0 → s.2 = 0) ∧ (¬ s.2 = 0 → s' = s)
theorem y_to.rf {s : y_S} : y_to s s := ⟨Nat.le_refl _, fun h => h, fun _ => rfl⟩
theorem y_to.trans {s s1 s2 : y_S} (a : y_to s s1) (b : y_to s1 s2) : y_to s s2 := ⟨Nat.le_trans a.1 b.1, fun h => a.2.1 (b.2.1 h), fun h => by rw [b.2.2 (by rw [a.2.2 h]; exact h), a.2.2 h]⟩
theorem y_to.fl {f : Nat} {s0 s : y_S} (a : y_to s0 s) (hf : ¬ f = 0) : y_to s0 (y_fl f s) := by
  refine a.trans ?_
  unfold y_fl
  split
  · next h => exact ⟨Nat.le_refl _, fun h2 => absurd h2 hf, fun h2 => absurd h h2⟩
  · exact y_to.rf
theorem y_to.ps {s0 s : y_S} (a : y_to s0 s) : y_to s0 (y_ps s) := by
  refine a.trans ?_
  unfold y_ps
  split
  · next h =>
    split
    · exact ⟨Nat.le_refl _, fun h2 => absurd h2 (show ¬ (2 : Nat) = 0 by decide), fun h2 => absurd h h2⟩
    · exact ⟨Nat.le_succ _, fun _ => h, fun h2 => absurd h h2⟩
  · exact y_to.rf
theorem y_to.nd {K : Nat → Nat} {k : Nat} {s0 s : y_S} (a : y_to s0 s) : y_to s0 (y_nd K k s) := by
  unfold y_nd
  split
  · exact a.ps
  · exact a.fl (by decide)
theorem y_to.rm {b : Bool} {s0 s : y_S} (a : y_to s0 s) : y_to s0 (y_rm b s) := by
  unfold y_rm
  split
  · exact a
  · exact a.fl (by decide)
theorem y_to.ite {c : Prop} [Decidable c] {s0 a b : y_S} (ha : y_to s0 a) (hb : y_to s0 b) : y_to s0 (if c then a else b) := by
  split
  · exact ha
  · exact hb
theorem y_to.nn {K : Nat → Nat} {b : Bool} {s0 s : y_S} (a : y_to s0 s) : y_to s0 (y_nn K b s) := by
  unfold y_nn
  split
  · exact a.rm.nd
  · exact a.nd
theorem y_to.ty {K : Nat → Nat} {n : Nat} {s0 s : y_S} (a : y_to s0 s) : y_to s0 (y_ty K n s) := by
  unfold y_ty
  split
  · exact a.ps.nn.ps.nd.nd
  · exact a.ps.nn.nd
theorem y_to.wy {K : Nat → Nat} {s0 s : y_S} (a : y_to s0 s) : y_to s0 (y_wy K s) := a.nd.nd.nd.nd.nd
theorem y_to.so {K : Nat → Nat} {n : Nat} {s0 s : y_S} (a : y_to s0 s) : y_to s0 (y_so K n s) := a.ps.nn.nd.nd.nd.nd.nd
theorem y_to.no {K : Nat → Nat} {b : Bool} {s0 s : y_S} (a : y_to s0 s) : y_to s0 (y_no K b s) := a.ps.nn.nd.nd.nd
theorem y_to.li {K : Nat → Nat} {b : Bool} {s0 s : y_S} (a : y_to s0 s) : y_to s0 (y_li K b s) := a.ps.nn.nd.wy.nd
theorem y_to.le {K : Nat → Nat} {nr lr : Nat} {cm : Bool} : ∀ m n l s0 s, y_to s0 s → y_to s0 (y_le K nr lr cm m n l s) := by
  intro m
  induction m with
  | zero => intro n l s0 s a; exact a
  | succ m ih =>
    intro n l s0 s a
    unfold y_le
    split
    · exact ih _ _ _ _ a.no
    · split
      · exact ih _ _ _ _ a.li
      · split
        · exact ih _ _ _ _ a.ps.nd
        · exact a
theorem y_to.n1 {K : Nat → Nat} {c : Nat} {s0 s : y_S} (a : y_to s0 s) : y_to s0 (y_n1 K c s) := (y_to.le _ _ _ _ _ a.rm.ps).nd
theorem y_to.nt {K : Nat → Nat} : ∀ m c s0 s, y_to s0 s → y_to s0 (y_nt K m c s) := by
  intro m
  induction m with
  | zero => intro c s0 s a; exact a
  | succ m ih =>
    intro c s0 s a
    unfold y_nt
    split
    · exact ih _ _ _ a.n1
    · exact a
theorem y_to.un {K : Nat → Nat} {s0 s : y_S} (a : y_to s0 s) : y_to s0 (y_un K s) := by
  unfold y_un
  split
  · exact a.ps
  · exact a.nd.nd.nd
theorem y_to.cl {K : Nat → Nat} : ∀ o s0 s, y_to s0 s → y_to s0 (y_cl K o s).2 := by
  intro o
  induction o with
  | zero => intro s0 s a; exact a
  | succ o ih =>
    intro s0 s a
    unfold y_cl
    split
    · exact ih _ _ a.ps
    · exact a
theorem y_to.mi {K : Nat → Nat} {f : Bool} {s0 s : y_S} (a : y_to s0 s) : y_to s0 (y_mi K f s) := by
  unfold y_mi
  split
  · exact a.ps
  · exact a
theorem y_to.su {K : Nat → Nat} : ∀ m f o s0 s, y_to s0 s → y_to s0 (y_su K m f o s) := by
  intro m
  induction m with
  | zero => intro f o s0 s a; exact a
  | succ m ih =>
    intro f o s0 s a
    unfold y_su
    split
    · split
      · exact ih _ _ _ _ a.mi.rm.ps
      · split
        · exact ih _ _ _ _ (y_to.cl _ _ _ a.mi.un).ps
        · split
          · exact (y_to.cl _ _ _ a.mi.un).fl (by decide)
          · exact y_to.cl _ _ _ a.mi.un
    · exact a
theorem y_to.E {K : Nat → Nat} {s0 s : y_S} (a : y_to s0 s) : y_to s0 (y_E K s) := y_to.su _ _ _ _ _ a
theorem y_to.op {K : Nat → Nat} {s0 s : y_S} (a : y_to s0 s) : y_to s0 (y_op K s) := by
  unfold y_op
  split
  · exact a.ps
  · exact a.fl (by decide)
theorem y_to.te {K : Nat → Nat} {s0 s : y_S} (a : y_to s0 s) : y_to s0 (y_te K s) := a.ps.E.op.E.nd
theorem y_to.ts {K : Nat → Nat} : ∀ m c s0 s, y_to s0 s → y_to s0 (y_ts K m c s) := by
  intro m
  induction m with
  | zero => intro c s0 s a; exact a
  | succ m ih =>
    intro c s0 s a
    unfold y_ts
    split
    · exact ih _ _ _ a.rm.te
    · exact a
theorem y_to.d1 {K : Nat → Nat} {s0 s : y_S} (a : y_to s0 s) : y_to s0 (y_d1 K s) := by
  unfold y_d1
  refine y_to.nd ?_
  split
  · exact a.ps.nd
  · split
    · exact a.ps.nd.nd.nd
    · split
      · exact a.ps.wy
      · exact a.ps.nd.nd.nd.nd.E
theorem y_to.ds {K : Nat → Nat} : ∀ m c s0 s, y_to s0 s → y_to s0 (y_ds K m c s) := by
  intro m
  induction m with
  | zero => intro c s0 s a; exact a
  | succ m ih =>
    intro c s0 s a
    unfold y_ds
    split
    · exact ih _ _ _ a.rm.d1
    · exact a
theorem y_to.ru {K : Nat → Nat} {n : Nat} {s0 s : y_S} (a : y_to s0 s) : y_to s0 (y_ru K n s) := (y_to.ds _ _ _ _ (y_to.ts _ _ _ _ (y_to.nt _ _ _ _ (y_to.le _ _ _ _ _ a.ps.nn)))).nd
theorem y_to.co {K : Nat → Nat} : ∀ m s0 s, y_to s0 s → y_to s0 (y_co K m s) := by
  intro m
  induction m with
  | zero => intro s0 s a; exact a
  | succ m ih =>
    intro s0 s a
    unfold y_co
    split
    · exact ih _ _ a.ps.nd
    · exact a
theorem y_to.an {K : Nat → Nat} {s0 s : y_S} (a : y_to s0 s) : y_to s0 (y_an K s) := (y_to.co _ _ _ a.ps.nd).nd
theorem y_to.rs {K : Nat → Nat} {rec : y_S → y_S} (hr : ∀ s0 s, y_to s0 s → y_to s0 (rec s)) {s0 s : y_S} (a : y_to s0 s) : y_to s0 (y_rs K rec s) := by
  unfold y_rs
  refine y_to.nd (hr _ _ ?_)
  split
  · exact (hr _ _ (hr _ _ a.ps).nd).nd
  · split
    · exact a.ps.nd
    · exact a.ps
theorem y_to.ro {K : Nat → Nat} : ∀ m d s0 s, y_to s0 s → y_to s0 (y_ro K m d s) := by
  intro m
  induction m with
  | zero => intro d s0 s a; exact a
  | succ m ih =>
    intro d s0 s a
    unfold y_ro
    split
    · exact ih _ _ _ (y_to.rs (fun s0 s a => ih _ _ _ a) a.rm)
    · split
      · exact ih _ _ _ a.ps.nd.nd
      · split
        · exact ih _ _ _ a.ps.nd
        · split
          · exact ih _ _ _ a.an
          · exact a
theorem y_to.pr {K : Nat → Nat} {n : Nat} {s0 s : y_S} (a : y_to s0 s) : y_to s0 (y_pr K n s) := (y_to.ro _ _ _ _ a.ps.nn).nd
theorem y_is_c {K : Nat → Nat} {k : Nat} {s : y_S} : y_is K k s = true ↔ s.2 = 0 ∧ K s.1 = k := by
  unfold y_is
  rw [Bool.and_eq_true, beq_iff_eq, beq_iff_eq]
/-- a step on, without a fault -/
theorem y_ps_1 {s0 s : y_S} (a : y_to s0 s) (h : (y_ps s).2 = 0) : s0.1 + 1 ≤ (y_ps s).1 := by
  have h1 := a.1
  unfold y_ps at h ⊢
  split at h
  · next h2 =>
    rw [if_pos h2]
    split at h
    · exact absurd h (show ¬ (2 : Nat) = 0 by decide)
    · next h3 => rw [if_neg h3]; show s0.1 + 1 ≤ s.1 + 1; omega
  · next h2 => exact absurd h h2
/-- a way behind a step: no fault means a place further on -/
theorem y_to.p1 {s0 s s' : y_S} (a : y_to s0 s) (b : y_to (y_ps s) s') (h : s'.2 = 0) : s0.1 + 1 ≤ s'.1 := Nat.le_trans (y_ps_1 a (b.2.1 h)) b.1
theorem y_nd_0 {K : Nat → Nat} {k : Nat} {s : y_S} (h : (y_nd K k s).2 = 0) : y_is K k s = true ∧ y_nd K k s = (s.1 + 1, 0) := by
  unfold y_nd at h ⊢
  split at h
  · next h1 =>
    refine ⟨h1, ?_⟩
    rw [if_pos h1]
    have h2 := (y_is_c.mp h1).1
    unfold y_ps at h ⊢
    rw [if_pos h2] at h ⊢
    split at h
    · exact absurd h (show ¬ (2 : Nat) = 0 by decide)
    · next h3 => rw [if_neg h3]
  · next h1 =>
    exfalso
    unfold y_fl at h
    split at h
    · exact absurd h (show ¬ (1 : Nat) = 0 by decide)
    · next h2 => exact h2 h
