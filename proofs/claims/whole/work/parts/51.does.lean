/-! WHAT A RULE DOES, on the rows of the two diagrams -/
theorem q_cnt_one {p p' : Nat → Bool} {i : Nat} : ∀ n, i < n → (∀ j, j < n → ¬ j = i → p' j = p j) → p i = true → p' i = false → q_cnt p' n + 1 = q_cnt p n := by
  intro n
  induction n with
  | zero => intro h; omega
  | succ n ih =>
    intro h e h1 h2
    rw [q_cnt_s, q_cnt_s]
    by_cases hi : i = n
    · subst hi
      rw [q_cnt_ext (fun j hj => e j (by omega) (by omega)), h1, h2]
      rfl
    · have := ih (by omega) (fun j hj hne => e j (by omega) hne) h1 h2
      rw [e n (by omega) (by omega)]
      omega
/-- so many does of a kind ahead -/
def m_cn (V : Nat → Nat → Nat) (k d : Nat) : Nat := q_cnt (fun e => V 13 e == k) d
theorem m_cn_y {V : Nat → Nat → Nat} {k d : Nat} (h : V 13 d = k) : m_cn V k (d + 1) = m_cn V k d + 1 := by
  unfold m_cn
  rw [q_cnt_s, if_pos (beq_iff_eq.mpr h)]
theorem m_cn_n {V : Nat → Nat → Nat} {k d : Nat} (h : ¬ V 13 d = k) : m_cn V k (d + 1) = m_cn V k d := by
  unfold m_cn
  rw [q_cnt_s, if_neg (fun h2 => h (beq_iff_eq.mp h2))]
  rfl
def m_ut (th : Nat → Nat) (x i : Nat) : Nat → Nat := fun y => if y = x then i else th y
/-- one do, on the class's row -/
def m_do (V : Nat → Nat → Nat) (L : List Nat) (val : Nat → Int32) (d : Nat) (s : (Nat → Int32) × (Nat → Nat)) : (Nat → Int32) × (Nat → Nat) :=
  if V 13 d = 0 then (u_drN s.1 (s.2 (V 14 d)), s.2)
  else if V 13 d = 1 then (u_lnk s.1 (L.getD (V 14 d) 0) (-1) (-1) (-1), s.2)
  else if V 13 d = 2 then (match d_free s.1 0 12 with | some i => (upd s.1 i (nI (V 15 d)), m_ut s.2 (V 14 d) i) | none => s)
  else if V 13 d = 3 then (match d_free s.1 36 40 with | some i => (u_lnk s.1 i (nI (V 15 d)) (nI (s.2 (V 14 d))) (nI (s.2 (V 16 d))), s.2) | none => s)
  else (upd s.1 (12 * (V 15 d + 1) + s.2 (V 14 d)) (val d), s.2)
/-- .. on the reference's -/
def n_do (V : Nat → Nat → Nat) (L : List Nat) (val : Nat → Int32) (d : Nat) (s : (Nat → Int32) × (Nat → Nat)) : (Nat → Int32) × (Nat → Nat) :=
  if V 13 d = 0 then (u_drN s.1 (s.2 (V 14 d)), s.2)
  else if V 13 d = 1 then (u_lnk s.1 (L.getD (V 14 d) 0) (-1) 0 0, s.2)
  else if V 13 d = 2 then (match d_free s.1 0 12 with | some i => (upd (upd (upd s.1 i (nI (V 15 d))) (12 + i) 0) (24 + i) 0, m_ut s.2 (V 14 d) i) | none => s)
  else if V 13 d = 3 then (match d_free s.1 36 40 with | some i => (u_lnk s.1 i (nI (V 15 d)) (nI (s.2 (V 14 d))) (nI (s.2 (V 16 d))), s.2) | none => s)
  else (upd s.1 (12 * (V 15 d + 1) + s.2 (V 14 d)) (val d), s.2)
def m_fd (V : Nat → Nat → Nat) (L : List Nat) (val : Nat → Int32) (f : Nat → Int32) (im : Nat → Nat) : Nat → (Nat → Int32) × (Nat → Nat)
  | 0 => (f, im)
  | d + 1 => m_do V L val d (m_fd V L val f im d)
def n_fd (V : Nat → Nat → Nat) (L : List Nat) (val : Nat → Int32) (f : Nat → Int32) (im : Nat → Nat) : Nat → (Nat → Int32) × (Nat → Nat)
  | 0 => (f, im)
  | d + 1 => n_do V L val d (n_fd V L val f im d)
/-- there is room for all that is new -/
def m_rm (f : Nat → Int32) (V : Nat → Nat → Nat) : Prop := ∀ d, d < V 0 4 → d_nodes f + m_cn V 2 (d + 1) ≤ 12 + m_cn V 0 (d + 1) ∧ d_links f + m_cn V 3 (d + 1) ≤ 40 + m_cn V 1 (d + 1)
/-- not yet deleted -/
def m_pn (V : Nat → Nat → Nat) (k d x : Nat) : Prop := ∀ e, e < d → V 13 e = k → ¬ V 14 e = x
/-- what holds ahead of a do -/
def m_iv (B : q_Bk) (V : Nat → Nat → Nat) (im : Nat → Nat) (L : List Nat) (f0 : Nat → Int32) (d : Nat) (f g : Nat → Int32) (th : Nat → Nat) : Prop :=
  q_dg (bN B 0) (bN B 1) f g ∧ (∀ x, x < V 0 0 → th x = im x) ∧ (∀ x, q_nd V d x → th x < 12 ∧ ¬ f (th x) = -1) ∧
  (∀ x, x < V 0 0 → m_dl V x → m_pn V 0 d x → ∀ y, q_nd V d y → ¬ y = x → ¬ th y = im x) ∧
  (∀ x, x < V 0 0 → m_dl V x → m_pn V 0 d x → ∀ i, i < 40 → ¬ f (36 + i) = -1 → f (76 + i) = nI (im x) ∨ f (116 + i) = nI (im x) → ∃ l, l < V 0 1 ∧ L.getD l 0 = i ∧ m_pn V 1 d l ∧ (V 3 l = x ∨ V 4 l = x)) ∧
  (∀ l, l < V 0 1 → m_pn V 1 d l → ¬ f (36 + L.getD l 0) = -1) ∧
  d_nodes f + m_cn V 0 d = d_nodes f0 + m_cn V 2 d ∧ d_links f + m_cn V 1 d = d_links f0 + m_cn V 3 d
theorem m_pn_s {V : Nat → Nat → Nat} {k d x : Nat} (h : m_pn V k (d + 1) x) : m_pn V k d x := fun e he => h e (by omega)
theorem q_nd_s {V : Nat → Nat → Nat} {d x : Nat} (h : q_nd V (d + 1) x) : q_nd V d x ∨ (V 13 d = 2 ∧ V 14 d = x) := by
  rcases h with ⟨h1, h2⟩ | ⟨e, h1, h2, h3⟩
  · exact Or.inl (Or.inl ⟨h1, fun e he => h2 e (by omega)⟩)
  · by_cases h4 : e = d
    · rw [h4] at h2 h3
      exact Or.inr ⟨h2, h3⟩
    · exact Or.inl (Or.inr ⟨e, by omega, h2, h3⟩)
/-- the given links, one by one -/
theorem m_gl_get {f : Nat → Int32} {im S F G : Nat → Nat} : ∀ (n : Nat) (L : List Nat), m_gl f im S F G [] n = some L → L.length = n ∧ (∀ l, l < n → L.getD l 0 < 40 ∧ f (36 + L.getD l 0) = nI (S l) ∧ f (76 + L.getD l 0) = nI (im (F l)) ∧ f (116 + L.getD l 0) = nI (im (G l))) ∧ ∀ l l', l < l' → l' < n → ¬ L.getD l 0 = L.getD l' 0 := by
  intro n
  induction n with
  | zero => intro L e; cases e; exact ⟨rfl, fun l hl => absurd hl (Nat.not_lt_zero _), fun l l' _ h => absurd h (Nat.not_lt_zero _)⟩
  | succ n ih =>
    intro L e
    cases h : m_gl f im S F G [] n with
    | none => rw [m_gl_none h 1] at e; cases e
    | some L0 =>
      rw [m_gl_s h] at e
      cases h2 : m_ln f (S n) (im (F n)) (im (G n)) L0 with
      | none => rw [h2] at e; cases e
      | some i =>
        rw [h2] at e
        cases e
        obtain ⟨a1, a2, a3⟩ := ih L0 h
        have b := m_ln_lt h2
        have gn : (L0 ++ [i]).getD n 0 = i := by rw [← a1]; exact m_ge
        refine ⟨by rw [List.length_append, a1]; rfl, fun l hl => ?_, fun l l' h1 h3 => ?_⟩
        · by_cases h3 : l = n
          · rw [h3, gn]
            exact ⟨b.1, b.2.1, b.2.2.1, b.2.2.2.1⟩
          · rw [m_gd (by omega)]
            exact a2 l (by omega)
        · rw [m_gd (show l < L0.length by omega)]
          by_cases h4 : l' = n
          · rw [h4, gn]
            intro h5
            apply b.2.2.2.2
            rw [← h5, List.getD_eq_getElem?_getD, List.getElem?_eq_getElem (show l < L0.length by omega)]
            exact List.getElem_mem _
          · rw [m_gd (by omega)]
            exact a3 l l' h1 (by omega)
theorem m_tt_y {B : q_Bk} {f : Nat → Int32} {w : Int32} {x : Nat} (h : m_tt B f w x) : ¬ f x = -1 := fun h2 => n_tt_no h2 h
theorem m_mem_get {L : List Nat} {i : Nat} (h : i ∈ L) : ∃ l, l < L.length ∧ L.getD l 0 = i := by
  obtain ⟨l, hl, e⟩ := List.mem_iff_getElem.mp h
  refine ⟨l, hl, ?_⟩
  rw [List.getD_eq_getElem?_getD, List.getElem?_eq_getElem hl]
  exact e
theorem m_iv_0 {B : q_Bk} {V : Nat → Nat → Nat} {im : Nat → Nat} {L : List Nat} {f g : Nat → Int32} (D : q_dg (bN B 0) (bN B 1) f g) (w : q_wB B) (wr : q_wR B V) (hi : ∀ i, i < V 0 0 → im i < 12) (a : m_ma B f im V L) : m_iv B V im L f 0 f g im := by
  have st : ∀ y, q_nd V 0 y → y < V 0 0 := by
    rintro y (h | ⟨e, h, _⟩)
    · exact h.1
    · exact absurd h (Nat.not_lt_zero _)
  have ap : ∀ x, x < V 0 0 → m_dl V x → ∀ y, y < V 0 0 → ¬ y = x → ¬ im y = im x := by
    intro x hx hd y hy hne he
    rcases Nat.lt_or_ge y x with h1 | h1
    · exact (a.2.1 y x h1 hx he).2.2 hd
    · exact (a.2.1 x y (by omega) hy he.symm).2.1 hd
  obtain ⟨g1, g2, g3⟩ := m_gl_get _ _ a.2.2.1
  refine ⟨D, fun _ _ => rfl, fun x hx => ⟨hi x (st x hx), m_tt_y (a.1 x (st x hx))⟩, fun x hx hd _ y hy hne => ap x hx hd y (st y hy) hne, fun x hx hd _ i h1 h2 h3 => ?_, fun l hl _ => ?_, rfl, rfl⟩
  · have hm : i ∈ L := Classical.byContradiction (fun h4 => a.2.2.2.2.1 ⟨i, h1, h2, h4, x, hx, hd, h3⟩)
    obtain ⟨l, hl, he⟩ := m_mem_get hm
    have gl := g2 l (by omega)
    rw [he] at gl
    have wl := wr.2.2.2.2.2.2.2.1 l (by omega)
    refine ⟨l, by omega, he, fun e h => absurd h (Nat.not_lt_zero _), ?_⟩
    have i3 := hi _ wl.2.1
    have i4 := hi _ wl.2.2
    have ix := hi x hx
    rcases h3 with h3 | h3
    · rw [gl.2.2.1] at h3
      have h5 := (nI_eq (by omega) (by omega)).mp h3
      exact Or.inl (Classical.byContradiction (fun h6 => ap x hx hd _ wl.2.1 h6 h5))
    · rw [gl.2.2.2] at h3
      have h5 := (nI_eq (by omega) (by omega)).mp h3
      exact Or.inr (Classical.byContradiction (fun h6 => ap x hx hd _ wl.2.2 h6 h5))
  · rw [(g2 l hl).2.1]
    have wl := wr.2.2.2.2.2.2.2.1 l hl
    have := w.2.1
    exact q_on_ne (by omega)
theorem d_ends_0 {f : Nat → Int32} {b : Nat} {x : Int32} (h : ∀ i, i < 40 → ¬ f (36 + i) = -1 → ¬ f (b + i) = x) : d_ends f b x = 0 := by
  unfold d_ends
  have key : ∀ n, n ≤ 40 → q_cnt (fun i => !(f (36 + i) == -1) && f (b + i) == x) n = 0 := by
    intro n
    induction n with
    | zero => intro _; rfl
    | succ n ih =>
      intro hn
      rw [q_cnt_s, ih (by omega)]
      by_cases h1 : f (36 + n) = -1
      · rw [h1]
        rfl
      · rw [beq_eq_false_iff_ne.mpr (h n (by omega) h1), Bool.and_false]
        rfl
  exact key 40 (Nat.le_refl _)
theorem d_free_y {f : Nat → Int32} {b n : Nat} (h : q_cnt (fun i => !(f (b + i) == -1)) n < n) : ∃ i, d_free f b n = some i ∧ i < n ∧ f (b + i) = -1 := by
  unfold d_free
  cases e : q_fst (fun i => f (b + i) == -1) 0 n with
  | none =>
    have h1 := (q_fst_none _ _).mp e
    have key : ∀ m, m ≤ n → q_cnt (fun i => !(f (b + i) == -1)) m = m := by
      intro m
      induction m with
      | zero => intro _; rfl
      | succ m ih =>
        intro hm
        rw [q_cnt_s, ih (by omega), h1 m (by omega) (by omega)]
        rfl
    rw [key n (Nat.le_refl _)] at h
    omega
  | some i =>
    have h1 := q_fst_lt _ _ _ e
    exact ⟨i, rfl, by omega, eq_of_beq h1.2.2⟩
theorem m_iv_s {B : q_Bk} {V : Nat → Nat → Nat} {im : Nat → Nat} {L : List Nat} {val : Nat → Int32} {f0 f g : Nat → Int32} {th : Nat → Nat} {d : Nat} (w : q_wB B) (wr : q_wR B V) (hi : ∀ i, i < V 0 0 → im i < 12) (ga : m_rl f0 im V = some L) (rm : m_rm f0 V) (hd : d < V 0 4) (iv : m_iv B V im L f0 d f g th) : m_iv B V im L f0 (d + 1) (m_do V L val d (f, th)).1 (n_do V L val d (g, th)).1 (m_do V L val d (f, th)).2 ∧ (n_do V L val d (g, th)).2 = (m_do V L val d (f, th)).2 := by
  obtain ⟨D, c1, c2, c3, c4, c5, c6, c7⟩ := iv
  have hT : bN B 0 ≤ 12 := w.1
  have h4 : V 0 0 ≤ 4 := wr.1
  obtain ⟨w1, w2, w3, w4, w5, w6⟩ := wr.2.2.2.2.2.2.2.2.2.2 d hd
  obtain ⟨g1, g2, g3⟩ := m_gl_get _ _ ga
  have rmd := rm d hd
  have gne : ∀ l l', l < V 0 1 → l' < V 0 1 → ¬ l = l' → ¬ L.getD l 0 = L.getD l' 0 := by
    intro l l' h1 h2 h3 h5
    rcases Nat.lt_or_ge l l' with h6 | h6
    · exact g3 l l' h6 h2 h5
    · exact g3 l' l (by omega) h1 h5.symm
  have pnN : ∀ x, m_pn V 0 (d + 1) x → m_pn V 0 d x := fun x h => m_pn_s h
  by_cases k0 : V 13 d = 0
  · -- a node goes
    have e1 : m_do V L val d (f, th) = (u_drN f (th (V 14 d)), th) := if_pos k0
    have e2 : n_do V L val d (g, th) = (u_drN g (th (V 14 d)), th) := if_pos k0
    rw [e1, e2]
    dsimp only
    obtain ⟨x1, x2, x3, x4⟩ := w2 k0
    have hdl : m_dl V (V 14 d) := ⟨d, hd, k0, rfl⟩
    have pn : m_pn V 0 d (V 14 d) := fun e he h => x2 e he h
    have tx : th (V 14 d) = im (V 14 d) := c1 _ x1
    have ix := hi _ x1
    have sx : q_nd V d (V 14 d) := Or.inl ⟨x1, x2⟩
    rw [tx]
    have noE : ∀ i, i < 40 → ¬ f (36 + i) = -1 → ¬ (f (76 + i) = nI (im (V 14 d)) ∨ f (116 + i) = nI (im (V 14 d))) := by
      intro i h1 h2 h3
      obtain ⟨l, l1, l2, l3, l4⟩ := c4 _ x1 hdl pn i h1 h2 h3
      obtain ⟨e, he, ke, we⟩ := x3 l l1 l4
      exact l3 e he ke we
    refine ⟨⟨⟨D.1.dropN ix, D.2.dropN D.1 ix (d_ends_0 (fun i h1 h2 h3 => noE i h1 h2 (Or.inl h3))) (d_ends_0 (fun i h1 h2 h3 => noE i h1 h2 (Or.inr h3)))⟩, c1, fun y hy => ?_, fun x hx hdx px y hy hne => ?_, fun x hx hdx px i h1 h2 h3 => ?_, fun l hl pl => ?_, ?_, ?_⟩, rfl⟩
    · have hy2 : ¬ y = V 14 d := by
        rcases hy with ⟨y1, y2⟩ | ⟨e, h1, h2, h3⟩
        · exact fun h => y2 d (by omega) k0 h.symm
        · intro h
          by_cases h5 : e = d
          · rw [h5] at h2; omega
          · have := (wr.2.2.2.2.2.2.2.2.2.2 e (by omega)).2.2.2.1 h2
            omega
      rcases q_nd_s hy with h1 | h1
      · have h2 := c2 y h1
        have h3 := c3 _ x1 hdl pn y h1 hy2
        refine ⟨h2.1, ?_⟩
        rcases u_drN_ne (f := f) h2.1 h3 with h5 | h5
        · rw [h5.1]; exact h2.2
        · omega
      · omega
    · rcases q_nd_s hy with h1 | h1
      · exact c3 x hx hdx (pnN x px) y h1 hne
      · omega
    · rw [u_drN_hi ix (by omega)] at h2
      rw [u_drN_hi ix (by omega), u_drN_hi ix (by omega)] at h3
      obtain ⟨l, l1, l2, l3, l4⟩ := c4 x hx hdx (pnN x px) i h1 h2 h3
      refine ⟨l, l1, l2, fun e he h => ?_, l4⟩
      by_cases h5 : e = d
      · rw [h5] at h; omega
      · exact l3 e (by omega) h
    · show ¬ u_drN f (im (V 14 d)) (36 + L.getD l 0) = -1
      rw [u_drN_hi ix (by omega)]
      exact c5 l hl (m_pn_s pl)
    · rw [m_cn_y k0, m_cn_n (show ¬ V 13 d = 2 by omega)]
      have h1 : d_nodes (u_drN f (im (V 14 d))) + 1 = d_nodes f := by
        refine q_cnt_one 12 ix (fun j hj hne => ?_) ?_ ?_
        · rcases u_drN_ne (f := f) hj hne with h5 | h5
          · rw [h5.1]
          · omega
        · have := (c2 _ sx).2
          rw [tx] at this
          simpa using this
        · show (!(u_drN f (im (V 14 d)) (im (V 14 d)) == -1)) = false
          unfold u_drN
          rw [upd_eq]
          rfl
      omega
    · rw [m_cn_n (show ¬ V 13 d = 1 by omega), m_cn_n (show ¬ V 13 d = 3 by omega)]
      have h1 : d_links (u_drN f (im (V 14 d))) = d_links f := by
        unfold d_links
        exact q_cnt_ext (fun i h1 => by rw [u_drN_hi ix (by omega)])
      omega
  by_cases k1 : V 13 d = 1
  · -- a link goes
    have e1 : m_do V L val d (f, th) = (u_lnk f (L.getD (V 14 d) 0) (-1) (-1) (-1), th) := (if_neg k0).trans (if_pos k1)
    have e2 : n_do V L val d (g, th) = (u_lnk g (L.getD (V 14 d) 0) (-1) 0 0, th) := (if_neg k0).trans (if_pos k1)
    rw [e1, e2]
    dsimp only
    obtain ⟨x1, x2⟩ := w3 k1
    have hl4 := (g2 _ x1).1
    have pl0 : m_pn V 1 d (V 14 d) := fun e he h => x2 e he h
    refine ⟨⟨⟨D.1.dropL hl4, D.2.dropL D.1.ends hl4⟩, c1, fun y hy => ?_, fun x hx hdx px y hy hne => ?_, fun x hx hdx px i h1 h2 h3 => ?_, fun l hl pl => ?_, ?_, ?_⟩, rfl⟩
    · rcases q_nd_s hy with h1 | h1
      · have h2 := c2 y h1
        refine ⟨h2.1, ?_⟩
        show ¬ u_lnk f _ _ _ _ (th y) = -1
        rw [u_lnk_lo (by omega)]
        exact h2.2
      · omega
    · rcases q_nd_s hy with h1 | h1
      · exact c3 x hx hdx (pnN x px) y h1 hne
      · omega
    · rw [u_lnk_s hl4 h1] at h2
      rw [u_lnk_f hl4 h1, u_lnk_t hl4 h1] at h3
      by_cases h5 : i = L.getD (V 14 d) 0
      · rw [if_pos h5] at h2
        exact absurd rfl h2
      · rw [if_neg h5] at h2 h3
        rw [if_neg h5] at h3
        obtain ⟨l, l1, l2, l3, l4⟩ := c4 x hx hdx (pnN x px) i h1 h2 h3
        refine ⟨l, l1, l2, fun e he h => ?_, l4⟩
        by_cases h6 : e = d
        · rw [h6]
          intro h7
          exact h5 (by rw [h7, l2])
        · exact l3 e (by omega) h
    · show ¬ u_lnk f _ _ _ _ (36 + L.getD l 0) = -1
      rw [u_lnk_s hl4 (g2 l hl).1, if_neg (gne l (V 14 d) hl x1 (fun h => pl d (by omega) k1 h.symm))]
      exact c5 l hl (m_pn_s pl)
    · rw [m_cn_n (show ¬ V 13 d = 0 by omega), m_cn_n (show ¬ V 13 d = 2 by omega)]
      have h1 : d_nodes (u_lnk f (L.getD (V 14 d) 0) (-1) (-1) (-1)) = d_nodes f := by
        unfold d_nodes
        exact q_cnt_ext (fun i h1 => by rw [u_lnk_lo (by omega)])
      omega
    · rw [m_cn_y k1, m_cn_n (show ¬ V 13 d = 3 by omega)]
      have h1 : d_links (u_lnk f (L.getD (V 14 d) 0) (-1) (-1) (-1)) + 1 = d_links f := by
        refine q_cnt_one 40 hl4 (fun j hj hne => ?_) ?_ ?_
        · rw [u_lnk_s hl4 hj, if_neg hne]
        · have := c5 _ x1 pl0
          simpa using this
        · rw [u_lnk_s hl4 hl4, if_pos rfl]
          rfl
      omega
  by_cases k2 : V 13 d = 2
  · -- a new node
    obtain ⟨x1, x2, x3, x4⟩ := w4 k2
    rw [m_cn_y k2, m_cn_n (show ¬ V 13 d = 0 by omega)] at rmd
    obtain ⟨i, ei, hi12, hfi⟩ := d_free_y (f := f) (b := 0) (n := 12) (by
      have h1 : q_cnt (fun i => !(f (0 + i) == -1)) 12 = d_nodes f := by
        unfold d_nodes
        exact q_cnt_ext (fun i _ => by rw [Nat.zero_add])
      rw [h1]
      omega)
    rw [Nat.zero_add] at hfi
    have ei2 : d_free g 0 12 = some i := ((d_free_eq D.1).1).trans ei
    have e1 : m_do V L val d (f, th) = (upd f i (nI (V 15 d)), m_ut th (V 14 d) i) := by
      unfold m_do
      rw [if_neg k0, if_neg k1, if_pos k2, ei]
    have e2 : n_do V L val d (g, th) = (upd (upd (upd g i (nI (V 15 d))) (12 + i) 0) (24 + i) 0, m_ut th (V 14 d) i) := by
      unfold n_do
      rw [if_neg k0, if_neg k1, if_pos k2, ei2]
    rw [e1, e2]
    dsimp only
    have ut : ∀ y, ¬ y = V 14 d → m_ut th (V 14 d) i y = th y := fun y hy => if_neg hy
    have uu : m_ut th (V 14 d) i (V 14 d) = i := if_pos rfl
    refine ⟨⟨⟨D.1.newN hT hi12 hfi x3, D.2.newN D.1 hT hi12 x3⟩, fun x hx => by rw [ut x (by omega)]; exact c1 x hx, fun y hy => ?_, fun x hx hdx px y hy hne => ?_, fun x hx hdx px j h1 h2 h3 => ?_, fun l hl pl => ?_, ?_, ?_⟩, rfl⟩
    · by_cases hy2 : y = V 14 d
      · rw [hy2, uu]
        exact ⟨hi12, by rw [upd_eq]; exact q_on_ne (by omega)⟩
      · rw [ut y hy2]
        rcases q_nd_s hy with h1 | h1
        · have h2 := c2 y h1
          refine ⟨h2.1, ?_⟩
          rw [upd_ne (fun h => h2.2 (by rw [h]; exact hfi))]
          exact h2.2
        · exact absurd h1.2.symm hy2
    · have sx : q_nd V d x := Or.inl ⟨hx, fun e he h => pnN x px e he h⟩
      by_cases hy2 : y = V 14 d
      · rw [hy2, uu]
        intro h
        have h2 := (c2 x sx).2
        rw [c1 x hx, ← h] at h2
        exact h2 hfi
      · rw [ut y hy2]
        rcases q_nd_s hy with h1 | h1
        · exact c3 x hx hdx (pnN x px) y h1 hne
        · exact absurd h1.2.symm hy2
    · rw [upd_ne (by omega)] at h2
      rw [upd_ne (by omega), upd_ne (by omega)] at h3
      obtain ⟨l, l1, l2, l3, l4⟩ := c4 x hx hdx (pnN x px) j h1 h2 h3
      refine ⟨l, l1, l2, fun e he h => ?_, l4⟩
      by_cases h5 : e = d
      · rw [h5] at h; omega
      · exact l3 e (by omega) h
    · show ¬ upd f i _ (36 + L.getD l 0) = -1
      rw [upd_ne (by omega)]
      exact c5 l hl (m_pn_s pl)
    · rw [m_cn_n (show ¬ V 13 d = 0 by omega), m_cn_y k2]
      have h1 : d_nodes f + 1 = d_nodes (upd f i (nI (V 15 d))) := by
        refine q_cnt_one 12 hi12 (fun j hj hne => ?_) ?_ ?_
        · rw [upd_ne hne]
        · rw [upd_eq]
          have : ¬ nI (V 15 d) = -1 := q_on_ne (by omega)
          simpa using this
        · rw [hfi]
          rfl
      omega
    · rw [m_cn_n (show ¬ V 13 d = 1 by omega), m_cn_n (show ¬ V 13 d = 3 by omega)]
      have h1 : d_links (upd f i (nI (V 15 d))) = d_links f := by
        unfold d_links
        exact q_cnt_ext (fun j h1 => by rw [upd_ne (by omega)])
      omega
  by_cases k3 : V 13 d = 3
  · -- a new link
    obtain ⟨x1, x2, x3⟩ := w5 k3
    have ta := c2 _ x1
    have tb := c2 _ x3
    have hS : bN B 1 ≤ 12 := w.2.1
    rw [m_cn_y k3, m_cn_n (show ¬ V 13 d = 1 by omega)] at rmd
    obtain ⟨i, ei, hi40, hfi⟩ := d_free_y (f := f) (b := 36) (n := 40) (by
      show d_links f < 40
      omega)
    have ei2 : d_free g 36 40 = some i := ((d_free_eq D.1).2).trans ei
    have e1 : m_do V L val d (f, th) = (u_lnk f i (nI (V 15 d)) (nI (th (V 14 d))) (nI (th (V 16 d))), th) := by
      unfold m_do
      rw [if_neg k0, if_neg k1, if_neg k2, if_pos k3, ei]
    have e2 : n_do V L val d (g, th) = (u_lnk g i (nI (V 15 d)) (nI (th (V 14 d))) (nI (th (V 16 d))), th) := by
      unfold n_do
      rw [if_neg k0, if_neg k1, if_neg k2, if_pos k3, ei2]
    rw [e1, e2]
    dsimp only
    refine ⟨⟨⟨D.1.newL hi40 x2 ta.1 tb.1, D.2.newL D.1.ends hi40 ta.1 tb.1 ta.2 tb.2⟩, c1, fun y hy => ?_, fun x hx hdx px y hy hne => ?_, fun x hx hdx px j h1 h2 h3 => ?_, fun l hl pl => ?_, ?_, ?_⟩, rfl⟩
    · rcases q_nd_s hy with h1 | h1
      · have h2 := c2 y h1
        refine ⟨h2.1, ?_⟩
        show ¬ u_lnk f _ _ _ _ (th y) = -1
        rw [u_lnk_lo (by omega)]
        exact h2.2
      · omega
    · rcases q_nd_s hy with h1 | h1
      · exact c3 x hx hdx (pnN x px) y h1 hne
      · omega
    · rw [u_lnk_s hi40 h1] at h2
      rw [u_lnk_f hi40 h1, u_lnk_t hi40 h1] at h3
      by_cases h5 : j = i
      · rw [if_pos h5, if_pos h5] at h3
        exfalso
        obtain ⟨d2, hd2, kd2, vd2⟩ := hdx
        have h6 : d < d2 := by
          rcases Nat.lt_or_ge d d2 with h7 | h7
          · exact h7
          · exact absurd vd2 (px d2 (by omega) kd2)
        have wd2 := ((wr.2.2.2.2.2.2.2.2.2.2 d2 hd2).2.1 kd2).2.2.2 d h6 k3
        rw [vd2] at wd2
        have ix := hi x hx
        have c3x := c3 x hx ⟨d2, hd2, kd2, vd2⟩ (pnN x px)
        rcases h3 with h3 | h3
        · exact c3x _ x1 wd2.1 ((nI_eq (by omega) (by omega)).mp h3)
        · exact c3x _ x3 wd2.2 ((nI_eq (by omega) (by omega)).mp h3)
      · rw [if_neg h5] at h2 h3
        rw [if_neg h5] at h3
        obtain ⟨l, l1, l2, l3, l4⟩ := c4 x hx hdx (pnN x px) j h1 h2 h3
        refine ⟨l, l1, l2, fun e he h => ?_, l4⟩
        by_cases h6 : e = d
        · rw [h6] at h; omega
        · exact l3 e (by omega) h
    · show ¬ u_lnk f _ _ _ _ (36 + L.getD l 0) = -1
      have h1 := c5 l hl (m_pn_s pl)
      rw [u_lnk_s hi40 (g2 l hl).1, if_neg (fun h => h1 (by rw [h]; exact hfi))]
      exact h1
    · rw [m_cn_n (show ¬ V 13 d = 0 by omega), m_cn_n (show ¬ V 13 d = 2 by omega)]
      have h1 : d_nodes (u_lnk f i (nI (V 15 d)) (nI (th (V 14 d))) (nI (th (V 16 d)))) = d_nodes f := by
        unfold d_nodes
        exact q_cnt_ext (fun j h1 => by rw [u_lnk_lo (by omega)])
      omega
    · rw [m_cn_n (show ¬ V 13 d = 1 by omega), m_cn_y k3]
      have h1 : d_links f + 1 = d_links (u_lnk f i (nI (V 15 d)) (nI (th (V 14 d))) (nI (th (V 16 d)))) := by
        refine q_cnt_one 40 hi40 (fun j hj hne => ?_) ?_ ?_
        · rw [u_lnk_s hi40 hj, if_neg hne]
        · rw [u_lnk_s hi40 hi40, if_pos rfl]
          have : ¬ nI (V 15 d) = -1 := q_on_ne (by omega)
          simpa using this
        · rw [hfi]
          rfl
      omega
  · -- a number is set
    have k4 : V 13 d = 4 := by omega
    obtain ⟨x1, x2, x3⟩ := w6 k4
    have ta := c2 _ x1
    have e1 : m_do V L val d (f, th) = (upd f (12 * (V 15 d + 1) + th (V 14 d)) (val d), th) := by
      unfold m_do
      rw [if_neg k0, if_neg k1, if_neg k2, if_neg k3]
    have e2 : n_do V L val d (g, th) = (upd g (12 * (V 15 d + 1) + th (V 14 d)) (val d), th) := by
      unfold n_do
      rw [if_neg k0, if_neg k1, if_neg k2, if_neg k3]
    rw [e1, e2]
    dsimp only
    have kk : 12 * (V 15 d + 1) + th (V 14 d) = 12 + th (V 14 d) ∨ 12 * (V 15 d + 1) + th (V 14 d) = 24 + th (V 14 d) := by
      rcases (show V 15 d = 0 ∨ V 15 d = 1 by omega) with h | h <;> rw [h] <;> omega
    have lo : ∀ y, y < 12 → upd f (12 * (V 15 d + 1) + th (V 14 d)) (val d) y = f y := fun y hy => upd_ne (by omega)
    have up : ∀ y, 36 ≤ y → upd f (12 * (V 15 d + 1) + th (V 14 d)) (val d) y = f y := fun y hy => upd_ne (by omega)
    refine ⟨⟨⟨D.1.num ta.1 ta.2 kk, D.2.num D.1 ta.1 kk⟩, c1, fun y hy => ?_, fun x hx hdx px y hy hne => ?_, fun x hx hdx px j h1 h2 h3 => ?_, fun l hl pl => ?_, ?_, ?_⟩, rfl⟩
    · rcases q_nd_s hy with h1 | h1
      · have h2 := c2 y h1
        refine ⟨h2.1, ?_⟩
        show ¬ upd f _ _ (th y) = -1
        rw [lo _ h2.1]
        exact h2.2
      · omega
    · rcases q_nd_s hy with h1 | h1
      · exact c3 x hx hdx (pnN x px) y h1 hne
      · omega
    · rw [up _ (by omega)] at h2
      rw [up _ (by omega), up _ (by omega)] at h3
      obtain ⟨l, l1, l2, l3, l4⟩ := c4 x hx hdx (pnN x px) j h1 h2 h3
      refine ⟨l, l1, l2, fun e he h => ?_, l4⟩
      by_cases h6 : e = d
      · rw [h6] at h; omega
      · exact l3 e (by omega) h
    · show ¬ upd f _ _ (36 + L.getD l 0) = -1
      rw [up _ (by omega)]
      exact c5 l hl (m_pn_s pl)
    · rw [m_cn_n (show ¬ V 13 d = 0 by omega), m_cn_n (show ¬ V 13 d = 2 by omega)]
      have h1 : d_nodes (upd f (12 * (V 15 d + 1) + th (V 14 d)) (val d)) = d_nodes f := by
        unfold d_nodes
        exact q_cnt_ext (fun j h1 => by rw [lo _ h1])
      omega
    · rw [m_cn_n (show ¬ V 13 d = 1 by omega), m_cn_n (show ¬ V 13 d = 3 by omega)]
      have h1 : d_links (upd f (12 * (V 15 d + 1) + th (V 14 d)) (val d)) = d_links f := by
        unfold d_links
        exact q_cnt_ext (fun j h1 => by rw [up _ (by omega)])
      omega
/-- all does, in a row -/
theorem m_iv_all {B : q_Bk} {V : Nat → Nat → Nat} {im : Nat → Nat} {L : List Nat} {val : Nat → Int32} {f g : Nat → Int32} (D : q_dg (bN B 0) (bN B 1) f g) (w : q_wB B) (wr : q_wR B V) (hi : ∀ i, i < V 0 0 → im i < 12) (a : m_ma B f im V L) (rm : m_rm f V) : ∀ d, d ≤ V 0 4 → m_iv B V im L f d (m_fd V L val f im d).1 (n_fd V L val g im d).1 (m_fd V L val f im d).2 ∧ (n_fd V L val g im d).2 = (m_fd V L val f im d).2 := by
  intro d
  induction d with
  | zero => intro _; exact ⟨m_iv_0 D w wr hi a, rfl⟩
  | succ d ih =>
    intro hd
    obtain ⟨h1, h2⟩ := ih (by omega)
    have h3 := m_iv_s (val := val) w wr hi a.2.2.1 rm (show d < V 0 4 by omega) h1
    have e : n_fd V L val g im d = ((n_fd V L val g im d).1, (m_fd V L val f im d).2) := Prod.ext rfl h2
    have e3 : n_fd V L val g im (d + 1) = n_do V L val d ((n_fd V L val g im d).1, (m_fd V L val f im d).2) := by
      show n_do V L val d (n_fd V L val g im d) = _
      rw [← e]
    rw [e3]
    exact h3
