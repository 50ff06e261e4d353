/-! THE SMALL CALLS of the desk, side by side with the reference's -/
theorem q_on_n : q_on none = -1 := rfl
def r_go (h : q_Hp) : Bool := qI h 614 4 == 4
theorem s139 {h : q_Hp} (S : q_Sh h) : q_mI 0 139 [.ref 614] h (fun z h' => h' = h ∧ z = b2i (r_go h)) := by
  refine ⟨q_recV rfl (S.ok rfl), b139_0 (S.ok rfl) (fun h1 => b139_12 ⟨_, rfl, rfl, ?_⟩) (fun h1 => b139_8 ⟨_, rfl, rfl, ?_⟩)⟩
  · simp [r_go, h1, b2i]
  · simp [r_go, h1, b2i]
theorem s140 {h : q_Hp} (S : q_Sh h) : q_mI 0 140 [.ref 614] h (fun z h' => h' = h ∧ z = qI h 614 4) := ⟨q_recV rfl (S.ok rfl), b140_0 (S.ok rfl) ⟨_, rfl, rfl, rfl⟩⟩
theorem s141 {h : q_Hp} (S : q_Sh h) : q_mI 0 141 [.ref 614] h (fun z h' => h' = h ∧ z = qI h 614 5) := ⟨q_recV rfl (S.ok rfl), b141_0 (S.ok rfl) ⟨_, rfl, rfl, rfl⟩⟩
theorem s142 {h : q_Hp} (S : q_Sh h) : q_mI 1 142 [.ref 614] h (fun z h' => h' = h ∧ z = if r_go h then qI h 614 7 else 0) := by
  refine ⟨q_recV rfl (S.ok rfl), b142_0 (s139 S) (by decide) ?_⟩
  rintro z h1 ⟨e0, rfl⟩
  subst h1
  refine b142_4 (fun h2 => b142_14 ⟨_, rfl, rfl, ?_⟩) (fun h2 => b142_7 (S.ok rfl) ⟨_, rfl, rfl, ?_⟩)
  · rw [b2i_eq.mp h2]; rfl
  · rw [b2i_ne.mp h2]; rfl
theorem s143 {h : q_Hp} (S : q_Sh h) : q_mV 0 143 [.ref 614] h (fun h' => h' = q_sI (q_sI (q_sI h 614 4 0) 614 5 0) 614 7 0) := ⟨q_recV rfl (S.ok rfl), b143_0 (S.ok rfl) ⟨rfl, rfl⟩⟩
theorem s114 {h : q_Hp} (S : q_Sh h) : q_mV 0 114 [.ref 601] h (fun h' => h' = q_sI (q_sI h 601 14 0) 601 15 0) := ⟨q_recV rfl (S.ok rfl), b114_0 (S.ok rfl) ⟨rfl, rfl⟩⟩
theorem s115 {h : q_Hp} {a : Nat} {x : Int32} (S : q_Sh h) (ha : qI h 601 14 = nI a) (h4 : a ≤ 4) : q_mI 1 115 [.ref 601, .int x] h (fun z h' => h' = h ∧ z = c_at (qA h 608) a x) := by
  refine ⟨q_recV rfl (S.ok rfl), b115_0 (S.ok rfl) (fun h1 => b115_19 ⟨_, rfl, rfl, ?_⟩) (fun h1 => b115_8 (S.ok rfl) (S.ref (v := 608) rfl) (s232 (S.ok rfl) (S.len (n := 4) rfl) (by decide)) (by decide) ?_)⟩
  · rw [ha] at h1
    rw [c_at_out (q_rg_hi rfl h1)]
  · rintro z h2 ⟨e0, rfl⟩
    subst h2
    refine b115_16 ⟨_, rfl, rfl, ?_⟩
    by_cases h3 : x < 0
    · rw [c_at_out (q_rg_lo h3), c_at_out (q_rg_lo h3)]
    · have h5 : q_rg x a = true := q_rg_in rfl h3 (ha ▸ h1)
      unfold c_at
      rw [if_pos h5, if_pos (q_rg_mono h5 (by decide) h4)]
theorem s116 {h : q_Hp} {a : Nat} {x : Int32} (S : q_Sh h) (ha : qI h 601 15 = nI a) (h4 : a ≤ 6) : q_mI 1 116 [.ref 601, .int x] h (fun z h' => h' = h ∧ z = c_at (qA h 609) a x) := by
  refine ⟨q_recV rfl (S.ok rfl), b116_0 (S.ok rfl) (fun h1 => b116_19 ⟨_, rfl, rfl, ?_⟩) (fun h1 => b116_8 (S.ok rfl) (S.ref (v := 609) rfl) (s232 (S.ok rfl) (S.len (n := 6) rfl) (by decide)) (by decide) ?_)⟩
  · rw [ha] at h1
    rw [c_at_out (q_rg_hi rfl h1)]
  · rintro z h2 ⟨e0, rfl⟩
    subst h2
    refine b116_16 ⟨_, rfl, rfl, ?_⟩
    by_cases h3 : x < 0
    · rw [c_at_out (q_rg_lo h3), c_at_out (q_rg_lo h3)]
    · have h5 : q_rg x a = true := q_rg_in rfl h3 (ha ▸ h1)
      unfold c_at
      rw [if_pos h5, if_pos (q_rg_mono h5 (by decide) h4)]
/-- an application that was added by hand: what was done before comes back no more -/
def q_fg (h : q_Hp) : q_Hp := q_sI h 599 3 0
def D215 (h : q_Hp) (t : Nat) (x : Int32) : Int32 × q_Hp := if (!r_go h && q_rg x t) = true then (match d_free (qA h 598) 0 12 with | some i => (nI i, q_fg (q_sA h 598 i x)) | none => (-1, h)) else (-1, h)
theorem s215 {h : q_Hp} {b t : Nat} {x : Int32} (S : q_Sh h) (hb : q_isB b) (hbk : qR h 1 5 = b) (hT : qI h b 0 = nI t) (hm : t ≤ 12) : q_mI 3 215 [.ref 1, .int x] h (fun z h' => (z, h') = D215 h t x) := by
  refine ⟨q_recV rfl (S.ok rfl), ?_⟩
  refine b215_0 (S.ok rfl) (S.ref (v := 614) rfl) (s139 S) (by decide) ?_
  rintro z0 h0 ⟨e0, rfl⟩
  subst h0
  refine b215_7 ?_ ?_
  · intro c7
    refine b215_21 ?_
    refine ⟨_, rfl, ?_⟩
    first | (have c1 := b2i_ne.mp c7; simp [D215, c1]) | (have c1 := b2i_eq.mp c18; simp [D215, c1])
  · intro c7
    refine b215_10 (S.ok rfl) hbk (s2 (S.bo hb) hT hm) (by decide) ?_
    rintro z10 h10 ⟨e10, rfl⟩
    subst h10
    refine b215_18 ?_ ?_
    · intro c18
      refine b215_23 (S.ok rfl) (S.ref (v := 597) rfl) (s77 S.dg) (by decide) ?_
      rintro z h23 ⟨e23, g23⟩
      cases hf : d_free (qA h 598) 0 12 with
      | none =>
        rw [hf] at e23 g23
        subst e23 g23
        refine b215_31 (fun _ => b215_44 ⟨_, rfl, ?_⟩) (fun h9 => absurd rfl h9)
        simp [D215, hf, b2i_eq.mp c7, b2i_ne.mp c18, q_on_n]
      | some i =>
        have hi := q_fst_lt _ _ _ hf
        rw [hf] at e23 g23
        subst e23 g23
        refine b215_31 (fun h9 => absurd h9 (q_on_ne (by omega))) (fun _ => b215_37 (S.ok rfl) (S.ref (v := 599) rfl) (s84 S) (by decide) ?_)
        rintro h1 rfl
        refine b215_44 ⟨_, rfl, ?_⟩
        simp [D215, hf, b2i_eq.mp c7, b2i_ne.mp c18, q_fg, q_on_s, q_on_n]
    · intro c18
      refine b215_21 ?_
      refine ⟨_, rfl, ?_⟩
      first | (have c1 := b2i_ne.mp c7; simp [D215, c1]) | (have c1 := b2i_eq.mp c18; simp [D215, c1])

theorem nI_0lt {n : Nat} (hn : n < 2 ^ 31) : 0 < nI n ↔ ¬ n = 0 := by
  have := nI_ltI (a := 0) (b := n) (by decide) hn
  rw [show (0 : Int32) = nI 0 from rfl, this]
  omega
theorem d_ends_le (f : Nat → Int32) (b : Nat) (x : Int32) : d_ends f b x ≤ 40 := q_cnt_le _ _
def D216 (h : q_Hp) (b t s : Nat) (x f g : Int32) : Int32 × q_Hp := if (!r_go h && q_rg x s && d_has (qA h 598) f && d_has (qA h 598) g && t_is (qA h (b + 1)) t (qA h (b + 2) x.toNatClampNeg) 12 (d_ty (qA h 598) f) && t_is (qA h (b + 1)) t (qA h (b + 3) x.toNatClampNeg) 12 (d_ty (qA h 598) g)) = true then (match d_free (qA h 598) 36 40 with | some i => (nI i, q_fg (d_lnk3 h 598 i x f g)) | none => (-1, h)) else (-1, h)
def D217 (h : q_Hp) (x k v : Int32) : Int32 × q_Hp := if (!r_go h && d_has (qA h 598) x && q_rg k 2) = true then (1, q_fg (d_put h 598 x k v)) else (0, h)
def D218 (h : q_Hp) (x : Int32) : Int32 × q_Hp := if (!r_go h && d_has (qA h 598) x && d_ends (qA h 598) 76 x == 0 && d_ends (qA h 598) 116 x == 0) = true then (1, q_fg (d_dropN h 598 x)) else (0, h)
def D219 (h : q_Hp) (x : Int32) : Int32 × q_Hp := if (!r_go h && d_hasL (qA h 598) x) = true then (1, q_fg (d_dropL h 598 x)) else (0, h)
theorem q_Sh_put {h : q_Hp} {x k v : Int32} (S : q_Sh h) : q_Sh (d_put h 598 x k v) := by
  unfold d_put
  split
  · split
    · exact S
    · split
      · exact S
      · exact S
  · exact S
theorem q_Sh_dropN {h : q_Hp} {x : Int32} (S : q_Sh h) : q_Sh (d_dropN h 598 x) := by
  unfold d_dropN
  split
  · exact S
  · exact S
theorem q_Sh_dropL {h : q_Hp} {x : Int32} (S : q_Sh h) : q_Sh (d_dropL h 598 x) := by
  unfold d_dropL
  split
  · exact S
  · exact S
/-- what is asked of a node -/
def D220 (f : Nat → Int32) (x w : Int32) : Int32 := if w = 1 ∨ w = 2 then d_num f x (w - 1) else if d_has f x = true then (if w = 0 then d_ty f x else if w = 3 then nI (d_ends f 76 x) else if w = 4 then nI (d_ends f 116 x) else -1) else -1
def D221 (f : Nat → Int32) (x w : Int32) : Int32 := if d_hasL f x = true then (if w = 0 then d_at f 36 x else if w = 1 then d_at f 76 x else if w = 2 then d_at f 116 x else -1) else -1
def D229 (h : q_Hp) (x : Int32) : Int32 × q_Hp := if q_rg x 4 = true then (1, q_sA (q_wA h 620 (va_cpy (qA h 598) (qA h 620) 0 (x.toNatClampNeg * 156) 156)) 621 x.toNatClampNeg 1) else (0, h)
def D212 (h : q_Hp) (o f n : Nat) (x : Int32) : Int32 × q_Hp := if q_rg x (n + 1) = true then (nI (n - x.toNatClampNeg), q_sI h o f (nI (n - x.toNatClampNeg))) else (-1, h)
theorem s216 {h : q_Hp} {b t s : Nat} {x f g : Int32} (S : q_Sh h) (hb : q_isB b) (hbk : qR h 1 5 = b) (hT : qI h b 0 = nI t) (hm : t ≤ 12) (hS : qI h b 1 = nI s) (hs : s ≤ 12) : q_mI 3 216 [.ref 1, .int x, .int f, .int g] h (fun z h' => (z, h') = D216 h b t s x f g) := by
  refine ⟨q_recV rfl (S.ok rfl), ?_⟩
  refine b216_0 (S.ok rfl) (S.ref (v := 614) rfl) (s139 S) (by decide) ?_
  rintro z0 h0 ⟨e0, rfl⟩
  subst h0
  refine b216_7 ?_ ?_
  · intro c7
    refine b216_43 ?_
    refine ⟨_, rfl, ?_⟩
    try simp only [b2i_eq, b2i_ne] at *
    simp_all [D216]
  · intro c7
    refine b216_10 (S.ok rfl) hbk (s3 (S.bo hb) hS hs) (by decide) ?_
    rintro z10 h10 ⟨e10, rfl⟩
    subst h10
    refine b216_18 ?_ ?_
    · intro c18
      refine b216_43 ?_
      refine ⟨_, rfl, ?_⟩
      try simp only [b2i_eq, b2i_ne] at *
      simp_all [D216]
    · intro c18
      refine b216_21 (S.ok rfl) (S.ref (v := 597) rfl) (s65 S.dg) (by decide) ?_
      rintro z21 h21 ⟨e21, rfl⟩
      subst h21
      refine b216_29 ?_ ?_
      · intro c29
        refine b216_43 ?_
        refine ⟨_, rfl, ?_⟩
        try simp only [b2i_eq, b2i_ne] at *
        simp_all [D216]
      · intro c29
        refine b216_32 (S.ok rfl) (S.ref (v := 597) rfl) (s65 S.dg) (by decide) ?_
        rintro z32 h32 ⟨e32, rfl⟩
        subst h32
        refine b216_40 ?_ ?_
        · intro c40
          refine b216_45 (S.ok rfl) hbk (S.ref (v := 597) rfl) (s64 S.dg) (by decide) ?_
          rintro z45 h45 ⟨e45, rfl⟩
          subst h45
          refine b216_58 (s7 S hb hT hm hS hs) (by decide) ?_
          rintro z58 h58 ⟨e58, rfl⟩
          subst h58
          refine b216_61 ?_ ?_
          · intro c61
            refine b216_83 ?_
            refine ⟨_, rfl, ?_⟩
            try simp only [b2i_eq, b2i_ne] at *
            simp_all [D216]
          · intro c61
            refine b216_64 (S.ok rfl) hbk (S.ref (v := 597) rfl) (s64 S.dg) (by decide) ?_
            rintro z64 h64 ⟨e64, rfl⟩
            subst h64
            refine b216_77 (s8 S hb hT hm hS hs) (by decide) ?_
            rintro z77 h77 ⟨e77, rfl⟩
            subst h77
            refine b216_80 ?_ ?_
            · intro c80
              refine b216_85 (S.ok rfl) (S.ref (v := 597) rfl) (s78 S.dg) (by decide) ?_
              rintro z h85 ⟨e85, g85⟩
              cases hf : d_free (qA h 598) 36 40 with
              | none =>
                rw [hf] at e85 g85
                subst e85 g85
                refine b216_95 (fun _ => b216_110 ⟨_, rfl, ?_⟩) (fun h9 => absurd rfl h9)
                try simp only [b2i_eq, b2i_ne] at *
                simp_all [D216, q_on_n]
              | some i =>
                have hi := q_fst_lt _ _ _ hf
                rw [hf] at e85 g85
                subst e85 g85
                refine b216_95 (fun h9 => absurd h9 (q_on_ne (by omega))) (fun _ => b216_103 (S.ok rfl) (S.ref (v := 599) rfl) (s84 S) (by decide) ?_)
                rintro h1 rfl
                refine b216_110 ⟨_, rfl, ?_⟩
                try simp only [b2i_eq, b2i_ne] at *
                simp_all [D216, q_fg, q_on_s]
            · intro c80
              refine b216_83 ?_
              refine ⟨_, rfl, ?_⟩
              try simp only [b2i_eq, b2i_ne] at *
              simp_all [D216]
        · intro c40
          refine b216_43 ?_
          refine ⟨_, rfl, ?_⟩
          try simp only [b2i_eq, b2i_ne] at *
          simp_all [D216]
theorem q_ge2 {k : Int32} (h : ¬ k ≤ 1) : 2 ≤ k := by
  rw [Int32.le_iff_toInt_le] at h ⊢
  have e : (1 : Int32).toInt = 1 := by decide
  have e2 : (2 : Int32).toInt = 2 := by decide
  omega
theorem q_lt2 {k : Int32} (h : k ≤ 1) : ¬ 2 ≤ k := by
  rw [Int32.le_iff_toInt_le] at h ⊢
  have e : (1 : Int32).toInt = 1 := by decide
  have e2 : (2 : Int32).toInt = 2 := by decide
  omega
theorem s217 {h : q_Hp} {x k v : Int32} (S : q_Sh h) : q_mI 3 217 [.ref 1, .int x, .int k, .int v] h (fun z h' => (z, h') = D217 h x k v) := by
  refine ⟨q_recV rfl (S.ok rfl), ?_⟩
  refine b217_0 (S.ok rfl) (S.ref (v := 614) rfl) (s139 S) (by decide) ?_
  rintro z0 h0 ⟨e0, rfl⟩
  subst h0
  refine b217_7 ?_ ?_
  · intro c7
    refine b217_30 ?_
    refine ⟨_, rfl, ?_⟩
    try simp only [b2i_eq, b2i_ne] at *
    first | (simp [D217, *]; done) | (rw [D217, if_neg]; simp [q_rg_lo c21]) | (rw [D217, if_neg]; simp [q_rg_hi (x := k) (n := 2) rfl (q_ge2 c25)])
  · intro c7
    refine b217_10 (S.ok rfl) (S.ref (v := 597) rfl) (s65 S.dg) (by decide) ?_
    rintro z10 h10 ⟨e10, rfl⟩
    subst h10
    refine b217_18 ?_ ?_
    · intro c18
      refine b217_30 ?_
      refine ⟨_, rfl, ?_⟩
      try simp only [b2i_eq, b2i_ne] at *
      first | (simp [D217, *]; done) | (rw [D217, if_neg]; simp [q_rg_lo c21]) | (rw [D217, if_neg]; simp [q_rg_hi (x := k) (n := 2) rfl (q_ge2 c25)])
    · intro c18
      refine b217_21 ?_ ?_
      · intro c21
        refine b217_30 ?_
        refine ⟨_, rfl, ?_⟩
        try simp only [b2i_eq, b2i_ne] at *
        first | (simp [D217, *]; done) | (rw [D217, if_neg]; simp [q_rg_lo c21]) | (rw [D217, if_neg]; simp [q_rg_hi (x := k) (n := 2) rfl (q_ge2 c25)])
      · intro c21
        refine b217_25 ?_ ?_
        · intro c25
          refine b217_32 (S.ok rfl) (S.ref (v := 597) rfl) (s67 S.dg) (by decide) ?_
          rintro h32 rfl
          have S := q_Sh_put (x := x) (k := k) (v := v) S
          refine b217_42 (S.ok rfl) (S.ref (v := 599) rfl) (s84 S) (by decide) ?_
          rintro h42 rfl
          refine b217_49 ?_
          refine ⟨_, rfl, ?_⟩
          try simp only [b2i_eq, b2i_ne] at *
          have k2 : q_rg k 2 = true := q_rg_in (n := 2) rfl c21 (q_lt2 c25)
          simp [D217, k2, q_fg, *]
        · intro c25
          refine b217_30 ?_
          refine ⟨_, rfl, ?_⟩
          try simp only [b2i_eq, b2i_ne] at *
          first | (simp [D217, *]; done) | (rw [D217, if_neg]; simp [q_rg_lo c21]) | (rw [D217, if_neg]; simp [q_rg_hi (x := k) (n := 2) rfl (q_ge2 c25)])
theorem s218 {h : q_Hp} {x : Int32} (S : q_Sh h) : q_mI 3 218 [.ref 1, .int x] h (fun z h' => (z, h') = D218 h x) := by
  refine ⟨q_recV rfl (S.ok rfl), ?_⟩
  refine b218_0 (S.ok rfl) (S.ref (v := 614) rfl) (s139 S) (by decide) ?_
  rintro z0 h0 ⟨e0, rfl⟩
  subst h0
  refine b218_7 ?_ ?_
  · intro c7
    refine b218_21 ?_
    refine ⟨_, rfl, ?_⟩
    simp only [b2i_eq, b2i_ne, nI_0lt (Nat.lt_of_le_of_lt (d_ends_le _ _ _) (show 40 < 2 ^ 31 by decide)), Classical.not_not] at *
    simp [D218, *]
  · intro c7
    refine b218_10 (S.ok rfl) (S.ref (v := 597) rfl) (s65 S.dg) (by decide) ?_
    rintro z10 h10 ⟨e10, rfl⟩
    subst h10
    refine b218_18 ?_ ?_
    · intro c18
      refine b218_23 (S.ok rfl) (S.ref (v := 597) rfl) (s74 S.dg) (by decide) ?_
      rintro z23 h23 ⟨e23, rfl⟩
      subst h23
      refine b218_31 ?_ ?_
      · intro c31
        refine b218_45 ?_
        refine ⟨_, rfl, ?_⟩
        simp only [b2i_eq, b2i_ne, nI_0lt (Nat.lt_of_le_of_lt (d_ends_le _ _ _) (show 40 < 2 ^ 31 by decide)), Classical.not_not] at *
        simp [D218, *]
      · intro c31
        refine b218_34 (S.ok rfl) (S.ref (v := 597) rfl) (s75 S.dg) (by decide) ?_
        rintro z34 h34 ⟨e34, rfl⟩
        subst h34
        refine b218_42 ?_ ?_
        · intro c42
          refine b218_47 (S.ok rfl) (S.ref (v := 597) rfl) (s79 S.dg) (by decide) ?_
          rintro h47 rfl
          have S := q_Sh_dropN (x := x) S
          refine b218_55 (S.ok rfl) (S.ref (v := 599) rfl) (s84 S) (by decide) ?_
          rintro h55 rfl
          refine b218_62 ?_
          refine ⟨_, rfl, ?_⟩
          have k1 := (nI_leI (b := 0) (Nat.lt_of_le_of_lt (d_ends_le _ _ _) (by decide)) (by decide)).mp c42
          simp only [b2i_eq, b2i_ne, nI_0lt (Nat.lt_of_le_of_lt (d_ends_le _ _ _) (show 40 < 2 ^ 31 by decide)), Classical.not_not] at *
          simp [D218, q_fg, Nat.le_zero.mp k1, *]
        · intro c42
          have k1 : ¬ d_ends (qA h 598) 116 x = 0 := fun h9 => c42 (by rw [h9]; decide)
          refine b218_45 ?_
          refine ⟨_, rfl, ?_⟩
          simp only [b2i_eq, b2i_ne, nI_0lt (Nat.lt_of_le_of_lt (d_ends_le _ _ _) (show 40 < 2 ^ 31 by decide)), Classical.not_not] at *
          simp [D218, *]
    · intro c18
      refine b218_21 ?_
      refine ⟨_, rfl, ?_⟩
      simp only [b2i_eq, b2i_ne, nI_0lt (Nat.lt_of_le_of_lt (d_ends_le _ _ _) (show 40 < 2 ^ 31 by decide)), Classical.not_not] at *
      simp [D218, *]
theorem s219 {h : q_Hp} {x : Int32} (S : q_Sh h) : q_mI 3 219 [.ref 1, .int x] h (fun z h' => (z, h') = D219 h x) := by
  refine ⟨q_recV rfl (S.ok rfl), ?_⟩
  refine b219_0 (S.ok rfl) (S.ref (v := 614) rfl) (s139 S) (by decide) ?_
  rintro z0 h0 ⟨e0, rfl⟩
  subst h0
  refine b219_7 ?_ ?_
  · intro c7
    refine b219_21 ?_
    refine ⟨_, rfl, ?_⟩
    try simp only [b2i_eq, b2i_ne] at *
    simp_all [D219, q_fg]
  · intro c7
    refine b219_10 (S.ok rfl) (S.ref (v := 597) rfl) (s71 S.dg) (by decide) ?_
    rintro z10 h10 ⟨e10, rfl⟩
    subst h10
    refine b219_18 ?_ ?_
    · intro c18
      refine b219_23 (S.ok rfl) (S.ref (v := 597) rfl) (s80 S.dg) (by decide) ?_
      rintro h23 rfl
      have S := q_Sh_dropL (x := x) S
      refine b219_31 (S.ok rfl) (S.ref (v := 599) rfl) (s84 S) (by decide) ?_
      rintro h31 rfl
      refine b219_38 ?_
      refine ⟨_, rfl, ?_⟩
      try simp only [b2i_eq, b2i_ne] at *
      simp_all [D219, q_fg]
    · intro c18
      refine b219_21 ?_
      refine ⟨_, rfl, ?_⟩
      try simp only [b2i_eq, b2i_ne] at *
      simp_all [D219, q_fg]
theorem s220 {h : q_Hp} {x w : Int32} (S : q_Sh h) : q_mI 1 220 [.ref 1, .int x, .int w] h (fun z h' => h' = h ∧ z = D220 (qA h 598) x w) := by
  refine ⟨q_recV rfl (S.ok rfl), ?_⟩
  refine b220_0 ?_ ?_
  · intro c0
    refine b220_10 (S.ok rfl) (S.ref (v := 597) rfl) (s66 S.dg) (by decide) ?_
    rintro z10 h10 ⟨e10, rfl⟩
    subst h10
    refine b220_21 ?_
    refine ⟨_, rfl, rfl, ?_⟩
    try simp only [b2i_eq, b2i_ne] at *
    first | exact absurd c35 c0 | exact absurd c35 c5 | simp_all [D220]
  · intro c0
    refine b220_5 ?_ ?_
    · intro c5
      refine b220_22 (S.ok rfl) (S.ref (v := 597) rfl) (s65 S.dg) (by decide) ?_
      rintro z22 h22 ⟨e22, rfl⟩
      subst h22
      refine b220_30 ?_ ?_
      · intro c30
        refine b220_35 ?_ ?_ ?_ ?_ ?_ ?_
        · intro c35
          refine b220_72 (S.ok rfl) (S.ref (v := 597) rfl) (s64 S.dg) (by decide) ?_
          rintro z72 h72 ⟨e72, rfl⟩
          subst h72
          refine b220_80 ?_
          refine ⟨_, rfl, rfl, ?_⟩
          try simp only [b2i_eq, b2i_ne] at *
          first | exact absurd c35 c0 | exact absurd c35 c5 | simp_all [D220]
        · intro c35
          refine b220_99 ?_
          refine ⟨_, rfl, rfl, ?_⟩
          try simp only [b2i_eq, b2i_ne] at *
          first | exact absurd c35 c0 | exact absurd c35 c5 | simp_all [D220]
        · intro c35
          refine b220_99 ?_
          refine ⟨_, rfl, rfl, ?_⟩
          try simp only [b2i_eq, b2i_ne] at *
          first | exact absurd c35 c0 | exact absurd c35 c5 | simp_all [D220]
        · intro c35
          refine b220_81 (S.ok rfl) (S.ref (v := 597) rfl) (s74 S.dg) (by decide) ?_
          rintro z81 h81 ⟨e81, rfl⟩
          subst h81
          refine b220_89 ?_
          refine ⟨_, rfl, rfl, ?_⟩
          try simp only [b2i_eq, b2i_ne] at *
          first | exact absurd c35 c0 | exact absurd c35 c5 | simp_all [D220]
        · intro c35
          refine b220_90 (S.ok rfl) (S.ref (v := 597) rfl) (s75 S.dg) (by decide) ?_
          rintro z90 h90 ⟨e90, rfl⟩
          subst h90
          refine b220_98 ?_
          refine ⟨_, rfl, rfl, ?_⟩
          try simp only [b2i_eq, b2i_ne] at *
          first | exact absurd c35 c0 | exact absurd c35 c5 | simp_all [D220]
        · intro c35
          have k0 : ¬ w = 0 := by (rintro rfl; revert c35; decide)
          have k3 : ¬ w = 3 := by (rintro rfl; revert c35; decide)
          have k4 : ¬ w = 4 := by (rintro rfl; revert c35; decide)
          refine b220_99 ?_
          refine ⟨_, rfl, rfl, ?_⟩
          try simp only [b2i_eq, b2i_ne] at *
          first | exact absurd c35 c0 | exact absurd c35 c5 | simp_all [D220]
      · intro c30
        refine b220_33 ?_
        refine ⟨_, rfl, rfl, ?_⟩
        try simp only [b2i_eq, b2i_ne] at *
        first | exact absurd c35 c0 | exact absurd c35 c5 | simp_all [D220]
    · intro c5
      refine b220_10 (S.ok rfl) (S.ref (v := 597) rfl) (s66 S.dg) (by decide) ?_
      rintro z10 h10 ⟨e10, rfl⟩
      subst h10
      refine b220_21 ?_
      refine ⟨_, rfl, rfl, ?_⟩
      try simp only [b2i_eq, b2i_ne] at *
      first | exact absurd c35 c0 | exact absurd c35 c5 | simp_all [D220]
theorem s221 {h : q_Hp} {x w : Int32} (S : q_Sh h) : q_mI 1 221 [.ref 1, .int x, .int w] h (fun z h' => h' = h ∧ z = D221 (qA h 598) x w) := by
  refine ⟨q_recV rfl (S.ok rfl), ?_⟩
  refine b221_0 (S.ok rfl) (S.ref (v := 597) rfl) (s71 S.dg) (by decide) ?_
  rintro z0 h0 ⟨e0, rfl⟩
  subst h0
  refine b221_8 ?_ ?_
  · intro c8
    refine b221_13 ?_ ?_ ?_ ?_
    · intro c13
      refine b221_40 (S.ok rfl) (S.ref (v := 597) rfl) (s68 S.dg) (by decide) ?_
      rintro z40 h40 ⟨e40, rfl⟩
      subst h40
      refine b221_48 ?_
      refine ⟨_, rfl, rfl, ?_⟩
      try simp only [b2i_eq, b2i_ne] at *
      simp_all [D221]
    · intro c13
      refine b221_49 (S.ok rfl) (S.ref (v := 597) rfl) (s69 S.dg) (by decide) ?_
      rintro z49 h49 ⟨e49, rfl⟩
      subst h49
      refine b221_57 ?_
      refine ⟨_, rfl, rfl, ?_⟩
      try simp only [b2i_eq, b2i_ne] at *
      simp_all [D221]
    · intro c13
      refine b221_58 (S.ok rfl) (S.ref (v := 597) rfl) (s70 S.dg) (by decide) ?_
      rintro z58 h58 ⟨e58, rfl⟩
      subst h58
      refine b221_66 ?_
      refine ⟨_, rfl, rfl, ?_⟩
      try simp only [b2i_eq, b2i_ne] at *
      simp_all [D221]
    · intro c13
      have k0 : ¬ w = 0 := by (rintro rfl; revert c13; decide)
      have k3 : ¬ w = 1 := by (rintro rfl; revert c13; decide)
      have k4 : ¬ w = 2 := by (rintro rfl; revert c13; decide)
      refine b221_67 ?_
      refine ⟨_, rfl, rfl, ?_⟩
      try simp only [b2i_eq, b2i_ne] at *
      simp_all [D221]
  · intro c8
    refine b221_11 ?_
    refine ⟨_, rfl, rfl, ?_⟩
    try simp only [b2i_eq, b2i_ne] at *
    simp_all [D221]
theorem s224 {h : q_Hp} {a c : Nat} {x w : Int32} (S : q_Sh h) (ha : qI h 601 14 = nI a) (h4 : a ≤ 4) (hc : qI h 601 15 = nI c) (h6 : c ≤ 6) : q_mI 2 224 [.ref 1, .int x, .int w] h (fun z h' => h' = h ∧ z = if w = 0 then c_at (qA h 608) a x else c_at (qA h 609) c x) := by
  refine ⟨q_recV rfl (S.ok rfl), ?_⟩
  refine b224_0 ?_ ?_
  · intro c0
    refine b224_15 (S.ok rfl) (S.ref (v := 601) rfl) (s115 S ha h4) (by decide) ?_
    rintro z15 h15 ⟨e15, rfl⟩
    subst h15
    refine b224_23 ?_
    refine ⟨_, rfl, rfl, ?_⟩
    simp [*]
  · intro c0
    refine b224_4 (S.ok rfl) (S.ref (v := 601) rfl) (s116 S hc h6) (by decide) ?_
    rintro z4 h4 ⟨e4, rfl⟩
    subst h4
    refine b224_12 ?_
    refine b224_23 ?_
    refine ⟨_, rfl, rfl, ?_⟩
    simp [*]
theorem s229 {h : q_Hp} {x : Int32} (S : q_Sh h) : q_mI 2 229 [.ref 1, .int x] h (fun z h' => (z, h') = D229 h x) := by
  refine ⟨q_recV rfl (S.ok rfl), ?_⟩
  refine b229_0 ?_ ?_
  · intro c0
    refine b229_9 ?_
    refine ⟨_, rfl, ?_⟩
    first | (simp [D229, q_rg_lo c0]; done) | simp [D229, q_rg_hi' (n := 4) rfl c4]
  · intro c0
    refine b229_4 ?_ ?_
    · intro c4
      have k2 : q_rg x 4 = true := q_rg_in' (n := 4) rfl c0 c4
      obtain ⟨j, hj, rfl⟩ := (q_rg_ex (by decide)).mp k2
      refine b229_11 (S.ok rfl) (S.ref (v := 597) rfl) (S.ref (v := 620) rfl) (s62 (j := j) S.dg (S.ok rfl) (S.len (n := 624) rfl) (by omega) (by decide)) (by decide) ?_
      rintro h11 rfl
      refine b229_23 (S.ok rfl) (S.ref (v := 621) rfl) (S.ok rfl) ?_ ?_
      · exact S.inN (n := 4) rfl hj (by decide)
      · refine ⟨_, rfl, ?_⟩
        rw [D229, if_pos k2, nI_clamp (by omega)]
        rfl
    · intro c4
      refine b229_9 ?_
      refine ⟨_, rfl, ?_⟩
      first | (simp [D229, q_rg_lo c0]; done) | simp [D229, q_rg_hi' (n := 4) rfl c4]
theorem q_lt1_of_le {x : Int32} {n : Nat} (hn : n < 2 ^ 30) (h : x ≤ nI n) : x < nI (n + 1) := by
  rw [Int32.le_iff_toInt_le, nI_toInt (by omega)] at h
  rw [Int32.lt_iff_toInt_lt, nI_toInt (by omega)]
  omega
theorem q_le_of_lt1 {x : Int32} {n : Nat} (hn : n < 2 ^ 30) (h : x < nI (n + 1)) : x ≤ nI n := by
  rw [Int32.lt_iff_toInt_lt, nI_toInt (by omega)] at h
  rw [Int32.le_iff_toInt_le, nI_toInt (by omega)]
  omega
theorem s212 {h : q_Hp} {x : Int32} {n : Nat} (S : q_Sh h) (hn : qI h 1 1 = nI n) (hn2 : n < 2 ^ 30) : q_mI 0 212 [.ref 1, .int x] h (fun z h' => (z, h') = D212 h 1 1 n x) := by
  refine ⟨q_recV rfl (S.ok rfl), ?_⟩
  refine b212_0 ?_ ?_
  · intro c0
    refine b212_12 ?_
    refine ⟨_, rfl, ?_⟩
    first | (simp [D212, q_rg_lo c0]; done) | (rw [hn] at c4; rw [D212, if_neg]; rw [q_rg_hi' rfl (fun h9 => c4 (q_le_of_lt1 hn2 h9))]; decide)
  · intro c0
    refine b212_4 (S.ok rfl) ?_ ?_
    · intro c4
      refine b212_14 (S.ok rfl) ?_
      refine ⟨_, rfl, ?_⟩
      rw [hn] at c4
      have k2 : q_rg x (n + 1) = true := q_rg_in' (n := n + 1) rfl c0 (q_lt1_of_le hn2 c4)
      obtain ⟨j, hj, rfl⟩ := (q_rg_ex (by omega)).mp k2
      rw [D212, if_pos k2, nI_clamp (by omega), hn, pk_sub (by omega), qI_sI, if_pos ⟨rfl, rfl⟩]
    · intro c4
      refine b212_12 ?_
      refine ⟨_, rfl, ?_⟩
      first | (simp [D212, q_rg_lo c0]; done) | (rw [hn] at c4; rw [D212, if_neg]; rw [q_rg_hi' rfl (fun h9 => c4 (q_le_of_lt1 hn2 h9))]; decide)
theorem s239 {h : q_Hp} {x : Int32} {n : Nat} (S : q_Sh h) (hn : qI h 630 2 = nI n) (hn2 : n < 2 ^ 30) : q_mI 0 239 [.ref 630, .int x] h (fun z h' => (z, h') = D212 h 630 2 n x) := by
  refine ⟨q_recV rfl (S.ok rfl), ?_⟩
  refine b239_0 ?_ ?_
  · intro c0
    refine b239_12 ?_
    refine ⟨_, rfl, ?_⟩
    first | (simp [D212, q_rg_lo c0]; done) | (rw [hn] at c4; rw [D212, if_neg]; rw [q_rg_hi' rfl (fun h9 => c4 (q_le_of_lt1 hn2 h9))]; decide)
  · intro c0
    refine b239_4 (S.ok rfl) ?_ ?_
    · intro c4
      refine b239_14 (S.ok rfl) ?_
      refine ⟨_, rfl, ?_⟩
      rw [hn] at c4
      have k2 : q_rg x (n + 1) = true := q_rg_in' (n := n + 1) rfl c0 (q_lt1_of_le hn2 c4)
      obtain ⟨j, hj, rfl⟩ := (q_rg_ex (by omega)).mp k2
      rw [D212, if_pos k2, nI_clamp (by omega), hn, pk_sub (by omega), qI_sI, if_pos ⟨rfl, rfl⟩]
    · intro c4
      refine b239_12 ?_
      refine ⟨_, rfl, ?_⟩
      first | (simp [D212, q_rg_lo c0]; done) | (rw [hn] at c4; rw [D212, if_neg]; rw [q_rg_hi' rfl (fun h9 => c4 (q_le_of_lt1 hn2 h9))]; decide)
theorem s214 {h : q_Hp} (S : q_Sh h) : q_mI 0 214 [.ref 1] h (fun z h' => h' = h ∧ z = qI h 1 2) := ⟨q_recV rfl (S.ok rfl), b214_0 (S.ok rfl) ⟨_, rfl, rfl, rfl⟩⟩
theorem s261 {h : q_Hp} (S : q_Sh h) : q_mI 0 261 [.ref 630] h (fun z h' => h' = h ∧ z = qI h 630 17) := ⟨q_recV rfl (S.ok rfl), b261_0 (S.ok rfl) ⟨_, rfl, rfl, rfl⟩⟩
