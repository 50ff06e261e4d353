/-! THE SMALL CALLS of the reference -/
def m_go (h : q_Hp) : Bool := qI h 630 104 == 4
def q_ls (h : q_Hp) : q_Hp := q_sI h 630 92 (qI h 630 91)
def D301 (h : q_Hp) (t : Nat) (x : Int32) : Int32 × q_Hp := if (!m_go h && q_rg x t) = true then (match d_free (qA h 691) 0 12 with | some i => (nI i, q_ls (d_newN h i x)) | none => (-1, h)) else (-1, h)
def D302 (h : q_Hp) (t s : Nat) (x f g : Int32) : Int32 × q_Hp := if (!m_go h && q_rg x s && d_has (qA h 691) f && d_has (qA h 691) g && t_is (fun i => qA h 638 (0 + i)) t (qA h 639 x.toNatClampNeg) 12 (qA h 691 f.toNatClampNeg) && t_is (fun i => qA h 638 (0 + i)) t (qA h 640 x.toNatClampNeg) 12 (qA h 691 g.toNatClampNeg)) = true then (match d_free (qA h 691) 36 40 with | some i => (nI i, q_ls (d_lnk3 h 691 i x f g)) | none => (-1, h)) else (-1, h)
def D303 (h : q_Hp) (x k v : Int32) : Int32 × q_Hp := if (!m_go h && d_has (qA h 691) x && q_rg k 2) = true then (1, q_ls (d_put h 691 x k v)) else (0, h)
def D305 (h : q_Hp) (x : Int32) : Int32 × q_Hp := if (!m_go h && d_has (qA h 691) x && d_ends (qA h 691) 76 x == 0 && d_ends (qA h 691) 116 x == 0) = true then (1, q_ls (q_sA (q_sA (q_sA h 691 x.toNatClampNeg (-1)) 691 (12 + x.toNatClampNeg) 0) 691 (24 + x.toNatClampNeg) 0)) else (0, h)
def D308 (h : q_Hp) (x : Int32) : Int32 × q_Hp := if (!m_go h && d_hasL (qA h 691) x) = true then (1, q_ls (d_lnk3 h 691 x.toNatClampNeg (-1) 0 0)) else (0, h)
def D309 (f : Nat → Int32) (x w : Int32) : Int32 := if d_has f x = true then (if w = 0 then f x.toNatClampNeg else if w = 1 then f (12 + x.toNatClampNeg) else if w = 2 then f (24 + x.toNatClampNeg) else if w = 3 then nI (d_ends f 76 x) else if w = 4 then nI (d_ends f 116 x) else -1) else if w = 1 ∨ w = 2 then 0 else -1
def D310 (f : Nat → Int32) (x w : Int32) : Int32 := if d_hasL f x = true then (if w = 0 then f (36 + x.toNatClampNeg) else if w = 1 then f (76 + x.toNatClampNeg) else if w = 2 then f (116 + x.toNatClampNeg) else -1) else -1
def D343 (h : q_Hp) (x : Int32) : Int32 × q_Hp := if q_rg x 4 = true then (1, q_sA (q_wA h 693 (va_cpy (qA h 691) (qA h 693) 0 (156 * x.toNatClampNeg) 156)) 694 x.toNatClampNeg 1) else (0, h)
theorem s298m {h : q_Hp} (S : q_Sh h) : q_mI 0 298 [.ref 630] h (fun z h' => h' = h ∧ z = b2i (m_go h)) := s298 S
theorem s301 {h : q_Hp} {t : Nat} {x : Int32} (S : q_Sh h) (hT : qI h 630 24 = nI t) : q_mI 2 301 [.ref 630, .int x] h (fun z h' => (z, h') = D301 h t x) := by
  refine ⟨q_recV rfl (S.ok rfl), ?_⟩
  refine b301_0 ?_ ?_
  · intro c0
    refine b301_19 ?_
    refine ⟨_, rfl, ?_⟩
    first | ((try simp only [b2i_eq, b2i_ne] at *); simp_all [D301]; done) | (simp [D301, q_rg_lo c0]; done) | (rw [hT] at c4; simp [D301, q_rg_hi (n := t) rfl c4]; done)
  · intro c0
    refine b301_4 (S.ok rfl) ?_ ?_
    · intro c4
      refine b301_19 ?_
      refine ⟨_, rfl, ?_⟩
      first | ((try simp only [b2i_eq, b2i_ne] at *); simp_all [D301]; done) | (simp [D301, q_rg_lo c0]; done) | (rw [hT] at c4; simp [D301, q_rg_hi (n := t) rfl c4]; done)
    · intro c4
      refine b301_12 (s298m S) (by decide) ?_
      rintro z12 h12 ⟨e12, rfl⟩
      subst h12
      refine b301_16 ?_ ?_
      · intro c16
        refine b301_21 (s299 S) (by decide) ?_
        rintro z h21 ⟨e21, g21⟩
        have k1 : q_rg x t = true := q_rg_in rfl c0 (hT ▸ c4)
        cases hf : d_free (qA h 691) 0 12 with
        | none =>
          rw [hf] at e21 g21
          subst e21 g21
          refine b301_26 (fun _ => b301_40 ⟨_, rfl, ?_⟩) (fun h9 => absurd rfl h9)
          try simp only [b2i_eq, b2i_ne] at *
          simp_all [D301, q_on_n]
        | some i =>
          have hi := q_fst_lt _ _ _ hf
          rw [hf] at e21 g21
          subst e21 g21
          refine b301_26 (fun h9 => absurd h9 (q_on_ne (by omega))) (fun _ => b301_32 (S.ok rfl) (b301_40 ⟨_, rfl, ?_⟩))
          try simp only [b2i_eq, b2i_ne] at *
          simp [D301, hf, k1, c16, q_on_s]
          rfl
      · intro c16
        refine b301_19 ?_
        refine ⟨_, rfl, ?_⟩
        first | ((try simp only [b2i_eq, b2i_ne] at *); simp_all [D301]; done) | (simp [D301, q_rg_lo c0]; done) | (rw [hT] at c4; simp [D301, q_rg_hi (n := t) rfl c4]; done)
theorem s302 {h : q_Hp} {t s : Nat} {x f g : Int32} (S : q_Sh h) (hm : t ≤ 12) (hS : qI h 630 25 = nI s) (hs : s ≤ 12) (hw : t_ok (fun i => qA h 638 (0 + i)) t) (hN : ∀ x, d_has (qA h 691) x = true → q_rg (qA h 691 x.toNatClampNeg) t = true) : q_mI 2 302 [.ref 630, .int x, .int f, .int g] h (fun z h' => (z, h') = D302 h t s x f g) := by
  refine ⟨q_recV rfl (S.ok rfl), ?_⟩
  refine b302_0 ?_ ?_
  · intro c0
    refine b302_35 ?_
    refine ⟨_, rfl, ?_⟩
    first | ((try simp only [b2i_eq, b2i_ne] at *); simp_all [D302]; done) | (simp [D302, q_rg_lo c0]; done) | (rw [hS] at c4; simp [D302, q_rg_hi (n := s) rfl c4]; done)
  · intro c0
    refine b302_4 (S.ok rfl) ?_ ?_
    · intro c4
      refine b302_35 ?_
      refine ⟨_, rfl, ?_⟩
      first | ((try simp only [b2i_eq, b2i_ne] at *); simp_all [D302]; done) | (simp [D302, q_rg_lo c0]; done) | (rw [hS] at c4; simp [D302, q_rg_hi (n := s) rfl c4]; done)
    · intro c4
      have k1 : q_rg x s = true := q_rg_in rfl c0 (hS ▸ c4)
      refine b302_12 (s294 S) (by decide) ?_
      rintro z12 h12 ⟨e12, rfl⟩
      subst h12
      refine b302_17 ?_ ?_
      · intro c17
        refine b302_35 ?_
        refine ⟨_, rfl, ?_⟩
        first | ((try simp only [b2i_eq, b2i_ne] at *); simp_all [D302]; done) | (simp [D302, q_rg_lo c0]; done) | (rw [hS] at c4; simp [D302, q_rg_hi (n := s) rfl c4]; done)
      · intro c17
        refine b302_20 (s294 S) (by decide) ?_
        rintro z20 h20 ⟨e20, rfl⟩
        subst h20
        refine b302_25 ?_ ?_
        · intro c25
          refine b302_35 ?_
          refine ⟨_, rfl, ?_⟩
          first | ((try simp only [b2i_eq, b2i_ne] at *); simp_all [D302]; done) | (simp [D302, q_rg_lo c0]; done) | (rw [hS] at c4; simp [D302, q_rg_hi (n := s) rfl c4]; done)
        · intro c25
          refine b302_28 (s298m S) (by decide) ?_
          rintro z28 h28 ⟨e28, rfl⟩
          subst h28
          refine b302_32 ?_ ?_
          · intro c32
            refine b302_37 (S.ok rfl) (S.ref (v := 691) rfl) (S.ok rfl) ?_ (S.ref (v := 639) rfl) (S.ok rfl) ?_ (s259 (t := t) (half := 0) S hm (by decide) hw (Or.inr (hN _ (b2i_ne.mp c17)))) (by decide) ?_
            · exact q_rg_q (d_has_rg (b2i_ne.mp c17)) (by decide) (by rw [S.ml]; decide)
            · exact q_rg_q k1 (by omega) (by rw [S.len (n := 24) rfl]; omega)
            · rintro z37 h37 ⟨e37, rfl⟩
              subst h37
              refine b302_54 ?_ ?_
              · intro c54
                refine b302_77 ?_
                refine ⟨_, rfl, ?_⟩
                first | ((try simp only [b2i_eq, b2i_ne] at *); simp_all [D302]; done) | (simp [D302, q_rg_lo c0]; done) | (rw [hS] at c4; simp [D302, q_rg_hi (n := s) rfl c4]; done)
              · intro c54
                refine b302_57 (S.ok rfl) (S.ref (v := 691) rfl) (S.ok rfl) ?_ (S.ref (v := 640) rfl) (S.ok rfl) ?_ (s259 (t := t) (half := 0) S hm (by decide) hw (Or.inr (hN _ (b2i_ne.mp c25)))) (by decide) ?_
                · exact q_rg_q (d_has_rg (b2i_ne.mp c25)) (by decide) (by rw [S.ml]; decide)
                · exact q_rg_q k1 (by omega) (by rw [S.len (n := 24) rfl]; omega)
                · rintro z57 h57 ⟨e57, rfl⟩
                  subst h57
                  refine b302_74 ?_ ?_
                  · intro c74
                    refine b302_79 (s300 S) (by decide) ?_
                    rintro z h79 ⟨e79, g79⟩
                    cases hf : d_free (qA h 691) 36 40 with
                    | none =>
                      rw [hf] at e79 g79
                      subst e79 g79
                      refine b302_86 (fun _ => b302_102 ⟨_, rfl, ?_⟩) (fun h9 => absurd rfl h9)
                      try simp only [b2i_eq, b2i_ne] at *
                      simp_all [D302, q_on_n]
                    | some i =>
                      have hi := q_fst_lt _ _ _ hf
                      rw [hf] at e79 g79
                      subst e79 g79
                      refine b302_86 (fun h9 => absurd h9 (q_on_ne (by omega))) (fun _ => b302_94 (S.ok rfl) (b302_102 ⟨_, rfl, ?_⟩))
                      try simp only [b2i_eq, b2i_ne] at *
                      simp only [Nat.zero_add] at c54 c74
                      simp [D302, hf, k1, c17, c25, c32, c54, c74, q_on_s]
                      rfl
                  · intro c74
                    refine b302_77 ?_
                    refine ⟨_, rfl, ?_⟩
                    first | ((try simp only [b2i_eq, b2i_ne] at *); simp_all [D302]; done) | (simp [D302, q_rg_lo c0]; done) | (rw [hS] at c4; simp [D302, q_rg_hi (n := s) rfl c4]; done)
          · intro c32
            refine b302_35 ?_
            refine ⟨_, rfl, ?_⟩
            first | ((try simp only [b2i_eq, b2i_ne] at *); simp_all [D302]; done) | (simp [D302, q_rg_lo c0]; done) | (rw [hS] at c4; simp [D302, q_rg_hi (n := s) rfl c4]; done)
theorem q_is1 {k : Int32} (h0 : ¬ k < 0) (h1 : ¬ 1 < k) (h2 : ¬ k = 0) : k = 1 := by
  have e : (1 : Int32).toInt = 1 := by decide
  have e2 : (0 : Int32).toInt = 0 := by decide
  apply Int32.toInt_inj.mp
  have h3 : ¬ k.toInt = 0 := fun h => h2 (Int32.toInt_inj.mp (h.trans e2.symm))
  rw [Int32.lt_iff_toInt_lt] at h0 h1
  omega
theorem s303 {h : q_Hp} {x k v : Int32} (S : q_Sh h) : q_mI 1 303 [.ref 630, .int x, .int k, .int v] h (fun z h' => (z, h') = D303 h x k v) := by
  refine ⟨q_recV rfl (S.ok rfl), ?_⟩
  refine b303_0 (s294 S) (by decide) ?_
  rintro z0 h0 ⟨e0, rfl⟩
  subst h0
  refine b303_5 ?_ ?_
  · intro c5
    refine b303_24 ?_
    refine ⟨_, rfl, ?_⟩
    first | ((try simp only [b2i_eq, b2i_ne] at *); simp_all [D303]; done) | (simp [D303, q_rg_lo c8]; done) | (simp [D303, q_rg_hi (x := k) (n := 2) rfl (q_ge2 (Int32.not_le.mpr c12))]; done)
  · intro c5
    have k1 := b2i_ne.mp c5
    obtain ⟨j, hj, rfl⟩ := (q_rg_ex (by decide)).mp (d_has_rg k1)
    refine b303_8 ?_ ?_
    · intro c8
      refine b303_24 ?_
      refine ⟨_, rfl, ?_⟩
      first | ((try simp only [b2i_eq, b2i_ne] at *); simp_all [D303]; done) | (simp [D303, q_rg_lo c8]; done) | (simp [D303, q_rg_hi (x := k) (n := 2) rfl (q_ge2 (Int32.not_le.mpr c12))]; done)
    · intro c8
      refine b303_12 ?_ ?_
      · intro c12
        refine b303_24 ?_
        refine ⟨_, rfl, ?_⟩
        first | ((try simp only [b2i_eq, b2i_ne] at *); simp_all [D303]; done) | (simp [D303, q_rg_lo c8]; done) | (simp [D303, q_rg_hi (x := k) (n := 2) rfl (q_ge2 (Int32.not_le.mpr c12))]; done)
      · intro c12
        refine b303_17 (s298m S) (by decide) ?_
        rintro z17 h17 ⟨e17, rfl⟩
        subst h17
        refine b303_21 ?_ ?_
        · intro c21
          refine b303_26 (S.ok rfl) (S.ref (v := 691) rfl) ?_ ?_
          · intro c26
            refine b303_39 ?_
            refine b303_41 (S.ok rfl) ?_ (S.ok rfl) ?_
            · first | (rw [a12]; exact S.mi (by omega)) | (rw [a24]; exact S.mi (by omega))
            · refine ⟨_, rfl, ?_⟩
              have k2 : q_rg k 2 = true := q_rg_in (n := 2) rfl c8 (q_lt2 (Int32.not_lt.mp c12))
              simp only [b2i_eq] at c21
              rw [D303, if_pos (by rw [c21, k1, k2]; rfl)]
              unfold d_put
              first | (rw [if_pos k1, if_pos c26, a12, nI_clamp (by omega), nI_clamp (by omega)]; rfl) | (rw [if_pos k1, if_neg c26, if_pos (q_is1 c8 c12 c26), a24, nI_clamp (by omega), nI_clamp (by omega)]; rfl)
          · intro c26
            refine b303_34 ?_
            refine b303_41 (S.ok rfl) ?_ (S.ok rfl) ?_
            · first | (rw [a12]; exact S.mi (by omega)) | (rw [a24]; exact S.mi (by omega))
            · refine ⟨_, rfl, ?_⟩
              have k2 : q_rg k 2 = true := q_rg_in (n := 2) rfl c8 (q_lt2 (Int32.not_lt.mp c12))
              simp only [b2i_eq] at c21
              rw [D303, if_pos (by rw [c21, k1, k2]; rfl)]
              unfold d_put
              first | (rw [if_pos k1, if_pos c26, a12, nI_clamp (by omega), nI_clamp (by omega)]; rfl) | (rw [if_pos k1, if_neg c26, if_pos (q_is1 c8 c12 c26), a24, nI_clamp (by omega), nI_clamp (by omega)]; rfl)
        · intro c21
          refine b303_24 ?_
          refine ⟨_, rfl, ?_⟩
          first | ((try simp only [b2i_eq, b2i_ne] at *); simp_all [D303]; done) | (simp [D303, q_rg_lo c8]; done) | (simp [D303, q_rg_hi (x := k) (n := 2) rfl (q_ge2 (Int32.not_le.mpr c12))]; done)
theorem s305 {h : q_Hp} {x : Int32} (S : q_Sh h) : q_mI 1 305 [.ref 630, .int x] h (fun z h' => (z, h') = D305 h x) := by
  refine ⟨q_recV rfl (S.ok rfl), ?_⟩
  refine b305_0 (s294 S) (by decide) ?_
  rintro z0 h0 ⟨e0, rfl⟩
  subst h0
  refine b305_5 ?_ ?_
  · intro c5
    refine b305_35 ?_
    refine ⟨_, rfl, ?_⟩
    try simp only [b2i_eq, b2i_ne, nI_0lt (Nat.lt_of_le_of_lt (d_ends_le _ _ _) (show 40 < 2 ^ 31 by decide)), Classical.not_not] at *
    simp_all [D305]
  · intro c5
    have k1 := b2i_ne.mp c5
    obtain ⟨j, hj, rfl⟩ := (q_rg_ex (by decide)).mp (d_has_rg k1)
    refine b305_8 (s304 (b := 76) S (by decide)) (by decide) ?_
    rintro z8 h8 ⟨e8, rfl⟩
    subst h8
    refine b305_15 ?_ ?_
    · intro c15
      refine b305_35 ?_
      refine ⟨_, rfl, ?_⟩
      try simp only [b2i_eq, b2i_ne, nI_0lt (Nat.lt_of_le_of_lt (d_ends_le _ _ _) (show 40 < 2 ^ 31 by decide)), Classical.not_not] at *
      simp_all [D305]
    · intro c15
      refine b305_18 (s304 (b := 116) S (by decide)) (by decide) ?_
      rintro z18 h18 ⟨e18, rfl⟩
      subst h18
      refine b305_25 ?_ ?_
      · intro c25
        refine b305_35 ?_
        refine ⟨_, rfl, ?_⟩
        try simp only [b2i_eq, b2i_ne, nI_0lt (Nat.lt_of_le_of_lt (d_ends_le _ _ _) (show 40 < 2 ^ 31 by decide)), Classical.not_not] at *
        simp_all [D305]
      · intro c25
        refine b305_28 (s298m S) (by decide) ?_
        rintro z28 h28 ⟨e28, rfl⟩
        subst h28
        refine b305_32 ?_ ?_
        · intro c32
          refine b305_37 (s306 S hj) (by decide) ?_
          rintro h37 rfl
          refine b305_42 (S.ok rfl) ?_
          refine ⟨_, rfl, ?_⟩
          try simp only [b2i_eq, b2i_ne, nI_0lt (Nat.lt_of_le_of_lt (d_ends_le _ _ _) (show 40 < 2 ^ 31 by decide)), Classical.not_not] at *
          rw [D305, if_pos (by simp [c32, k1, c15, c25]), nI_clamp (by omega)]
          rfl
        · intro c32
          refine b305_35 ?_
          refine ⟨_, rfl, ?_⟩
          try simp only [b2i_eq, b2i_ne, nI_0lt (Nat.lt_of_le_of_lt (d_ends_le _ _ _) (show 40 < 2 ^ 31 by decide)), Classical.not_not] at *
          simp_all [D305]
theorem s308 {h : q_Hp} {x : Int32} (S : q_Sh h) : q_mI 1 308 [.ref 630, .int x] h (fun z h' => (z, h') = D308 h x) := by
  refine ⟨q_recV rfl (S.ok rfl), ?_⟩
  refine b308_0 (s295 S) (by decide) ?_
  rintro z0 h0 ⟨e0, rfl⟩
  subst h0
  refine b308_5 ?_ ?_
  · intro c5
    refine b308_15 ?_
    refine ⟨_, rfl, ?_⟩
    try simp only [b2i_eq, b2i_ne] at *
    simp_all [D308]
  · intro c5
    have k1 := b2i_ne.mp c5
    obtain ⟨j, hj, rfl⟩ := (q_rg_ex (by decide)).mp (d_hasL_rg k1)
    refine b308_8 (s298m S) (by decide) ?_
    rintro z8 h8 ⟨e8, rfl⟩
    subst h8
    refine b308_12 ?_ ?_
    · intro c12
      refine b308_17 (s307 S hj) (by decide) ?_
      rintro h17 rfl
      refine b308_22 (S.ok rfl) ?_
      refine ⟨_, rfl, ?_⟩
      try simp only [b2i_eq, b2i_ne] at *
      rw [D308, if_pos (by simp [c12, k1]), nI_clamp (by omega)]
      rfl
    · intro c12
      refine b308_15 ?_
      refine ⟨_, rfl, ?_⟩
      try simp only [b2i_eq, b2i_ne] at *
      simp_all [D308]
theorem s309 {h : q_Hp} {x w : Int32} (S : q_Sh h) : q_mI 1 309 [.ref 630, .int x, .int w] h (fun z h' => h' = h ∧ z = D309 (qA h 691) x w) := by
  refine ⟨q_recV rfl (S.ok rfl), ?_⟩
  refine b309_0 ?_ ?_
  · intro c0
    refine b309_10 ?_
    refine b309_15 (s294 S) (by decide) ?_
    rintro z15 h15 ⟨e15, rfl⟩
    subst h15
    refine b309_21 ?_ ?_
    · intro c21
      have k1 := b2i_ne.mp c21
      obtain ⟨j, hj, rfl⟩ := (q_rg_ex (by decide)).mp (d_has_rg k1)
      refine b309_34 ?_ ?_ ?_ ?_ ?_ ?_
      · intro c34
        refine b309_68 (S.ok rfl) (S.ref (v := 691) rfl) (S.ok rfl) ?_ ?_
        · exact S.mi (by omega)
        · refine ⟨_, rfl, rfl, ?_⟩
          try simp only [b2i_eq, b2i_ne] at *
          first | (subst c34; simp [D309, k1, a12, a24, nI_clamp (show j < 2 ^ 31 by omega), nI_clamp (show 12 + j < 2 ^ 31 by omega), nI_clamp (show 24 + j < 2 ^ 31 by omega)]; done) | (simp [D309, k1, k2, k3, k4, c0, c5]; done) | (simp_all [D309]; done)
      · intro c34
        refine b309_75 (S.ok rfl) (S.ref (v := 691) rfl) (S.ok rfl) ?_ ?_
        · rw [a12]; exact S.mi (by omega)
        · refine ⟨_, rfl, rfl, ?_⟩
          try simp only [b2i_eq, b2i_ne] at *
          first | (subst c34; simp [D309, k1, a12, a24, nI_clamp (show j < 2 ^ 31 by omega), nI_clamp (show 12 + j < 2 ^ 31 by omega), nI_clamp (show 24 + j < 2 ^ 31 by omega)]; done) | (simp [D309, k1, k2, k3, k4, c0, c5]; done) | (simp_all [D309]; done)
      · intro c34
        refine b309_85 (S.ok rfl) (S.ref (v := 691) rfl) (S.ok rfl) ?_ ?_
        · rw [a24]; exact S.mi (by omega)
        · refine ⟨_, rfl, rfl, ?_⟩
          try simp only [b2i_eq, b2i_ne] at *
          first | (subst c34; simp [D309, k1, a12, a24, nI_clamp (show j < 2 ^ 31 by omega), nI_clamp (show 12 + j < 2 ^ 31 by omega), nI_clamp (show 24 + j < 2 ^ 31 by omega)]; done) | (simp [D309, k1, k2, k3, k4, c0, c5]; done) | (simp_all [D309]; done)
      · intro c34
        refine b309_95 (s304 (b := 76) S (by decide)) (by decide) ?_
        rintro z95 h95 ⟨e95, rfl⟩
        subst h95
        refine b309_102 ?_
        refine ⟨_, rfl, rfl, ?_⟩
        try simp only [b2i_eq, b2i_ne] at *
        first | (subst c34; simp [D309, k1, a12, a24, nI_clamp (show j < 2 ^ 31 by omega), nI_clamp (show 12 + j < 2 ^ 31 by omega), nI_clamp (show 24 + j < 2 ^ 31 by omega)]; done) | (simp [D309, k1, k2, k3, k4, c0, c5]; done) | (simp_all [D309]; done)
      · intro c34
        refine b309_103 (s304 (b := 116) S (by decide)) (by decide) ?_
        rintro z103 h103 ⟨e103, rfl⟩
        subst h103
        refine b309_110 ?_
        refine ⟨_, rfl, rfl, ?_⟩
        try simp only [b2i_eq, b2i_ne] at *
        first | (subst c34; simp [D309, k1, a12, a24, nI_clamp (show j < 2 ^ 31 by omega), nI_clamp (show 12 + j < 2 ^ 31 by omega), nI_clamp (show 24 + j < 2 ^ 31 by omega)]; done) | (simp [D309, k1, k2, k3, k4, c0, c5]; done) | (simp_all [D309]; done)
      · intro c34
        have k2 : ¬ w = 0 := by (rintro rfl; revert c34; decide)
        have k3 : ¬ w = 3 := by (rintro rfl; revert c34; decide)
        have k4 : ¬ w = 4 := by (rintro rfl; revert c34; decide)
        refine b309_111 ?_
        refine ⟨_, rfl, rfl, ?_⟩
        try simp only [b2i_eq, b2i_ne] at *
        first | (subst c34; simp [D309, k1, a12, a24, nI_clamp (show j < 2 ^ 31 by omega), nI_clamp (show 12 + j < 2 ^ 31 by omega), nI_clamp (show 24 + j < 2 ^ 31 by omega)]; done) | (simp [D309, k1, k2, k3, k4, c0, c5]; done) | (simp_all [D309]; done)
    · intro c21
      refine b309_24 ?_ ?_
      · intro c24
        refine b309_32 ?_
        refine ⟨_, rfl, rfl, ?_⟩
        try simp only [b2i_eq, b2i_ne] at *
        first | (subst c34; simp [D309, k1, a12, a24, nI_clamp (show j < 2 ^ 31 by omega), nI_clamp (show 12 + j < 2 ^ 31 by omega), nI_clamp (show 24 + j < 2 ^ 31 by omega)]; done) | (simp [D309, k1, k2, k3, k4, c0, c5]; done) | (simp_all [D309]; done)
      · intro c24
        refine b309_28 ?_
        refine ⟨_, rfl, rfl, ?_⟩
        try simp only [b2i_eq, b2i_ne] at *
        first | (subst c34; simp [D309, k1, a12, a24, nI_clamp (show j < 2 ^ 31 by omega), nI_clamp (show 12 + j < 2 ^ 31 by omega), nI_clamp (show 24 + j < 2 ^ 31 by omega)]; done) | (simp [D309, k1, k2, k3, k4, c0, c5]; done) | (simp_all [D309]; done)
  · intro c0
    refine b309_5 ?_ ?_
    · intro c5
      refine b309_14 ?_
      refine b309_15 (s294 S) (by decide) ?_
      rintro z15 h15 ⟨e15, rfl⟩
      subst h15
      refine b309_21 ?_ ?_
      · intro c21
        have k1 := b2i_ne.mp c21
        obtain ⟨j, hj, rfl⟩ := (q_rg_ex (by decide)).mp (d_has_rg k1)
        refine b309_34 ?_ ?_ ?_ ?_ ?_ ?_
        · intro c34
          refine b309_68 (S.ok rfl) (S.ref (v := 691) rfl) (S.ok rfl) ?_ ?_
          · exact S.mi (by omega)
          · refine ⟨_, rfl, rfl, ?_⟩
            try simp only [b2i_eq, b2i_ne] at *
            first | (subst c34; simp [D309, k1, a12, a24, nI_clamp (show j < 2 ^ 31 by omega), nI_clamp (show 12 + j < 2 ^ 31 by omega), nI_clamp (show 24 + j < 2 ^ 31 by omega)]; done) | (simp [D309, k1, k2, k3, k4, c0, c5]; done) | (simp_all [D309]; done)
        · intro c34
          refine b309_75 (S.ok rfl) (S.ref (v := 691) rfl) (S.ok rfl) ?_ ?_
          · rw [a12]; exact S.mi (by omega)
          · refine ⟨_, rfl, rfl, ?_⟩
            try simp only [b2i_eq, b2i_ne] at *
            first | (subst c34; simp [D309, k1, a12, a24, nI_clamp (show j < 2 ^ 31 by omega), nI_clamp (show 12 + j < 2 ^ 31 by omega), nI_clamp (show 24 + j < 2 ^ 31 by omega)]; done) | (simp [D309, k1, k2, k3, k4, c0, c5]; done) | (simp_all [D309]; done)
        · intro c34
          refine b309_85 (S.ok rfl) (S.ref (v := 691) rfl) (S.ok rfl) ?_ ?_
          · rw [a24]; exact S.mi (by omega)
          · refine ⟨_, rfl, rfl, ?_⟩
            try simp only [b2i_eq, b2i_ne] at *
            first | (subst c34; simp [D309, k1, a12, a24, nI_clamp (show j < 2 ^ 31 by omega), nI_clamp (show 12 + j < 2 ^ 31 by omega), nI_clamp (show 24 + j < 2 ^ 31 by omega)]; done) | (simp [D309, k1, k2, k3, k4, c0, c5]; done) | (simp_all [D309]; done)
        · intro c34
          refine b309_95 (s304 (b := 76) S (by decide)) (by decide) ?_
          rintro z95 h95 ⟨e95, rfl⟩
          subst h95
          refine b309_102 ?_
          refine ⟨_, rfl, rfl, ?_⟩
          try simp only [b2i_eq, b2i_ne] at *
          first | (subst c34; simp [D309, k1, a12, a24, nI_clamp (show j < 2 ^ 31 by omega), nI_clamp (show 12 + j < 2 ^ 31 by omega), nI_clamp (show 24 + j < 2 ^ 31 by omega)]; done) | (simp [D309, k1, k2, k3, k4, c0, c5]; done) | (simp_all [D309]; done)
        · intro c34
          refine b309_103 (s304 (b := 116) S (by decide)) (by decide) ?_
          rintro z103 h103 ⟨e103, rfl⟩
          subst h103
          refine b309_110 ?_
          refine ⟨_, rfl, rfl, ?_⟩
          try simp only [b2i_eq, b2i_ne] at *
          first | (subst c34; simp [D309, k1, a12, a24, nI_clamp (show j < 2 ^ 31 by omega), nI_clamp (show 12 + j < 2 ^ 31 by omega), nI_clamp (show 24 + j < 2 ^ 31 by omega)]; done) | (simp [D309, k1, k2, k3, k4, c0, c5]; done) | (simp_all [D309]; done)
        · intro c34
          have k2 : ¬ w = 0 := by (rintro rfl; revert c34; decide)
          have k3 : ¬ w = 3 := by (rintro rfl; revert c34; decide)
          have k4 : ¬ w = 4 := by (rintro rfl; revert c34; decide)
          refine b309_111 ?_
          refine ⟨_, rfl, rfl, ?_⟩
          try simp only [b2i_eq, b2i_ne] at *
          first | (subst c34; simp [D309, k1, a12, a24, nI_clamp (show j < 2 ^ 31 by omega), nI_clamp (show 12 + j < 2 ^ 31 by omega), nI_clamp (show 24 + j < 2 ^ 31 by omega)]; done) | (simp [D309, k1, k2, k3, k4, c0, c5]; done) | (simp_all [D309]; done)
      · intro c21
        refine b309_24 ?_ ?_
        · intro c24
          refine b309_32 ?_
          refine ⟨_, rfl, rfl, ?_⟩
          try simp only [b2i_eq, b2i_ne] at *
          first | (subst c34; simp [D309, k1, a12, a24, nI_clamp (show j < 2 ^ 31 by omega), nI_clamp (show 12 + j < 2 ^ 31 by omega), nI_clamp (show 24 + j < 2 ^ 31 by omega)]; done) | (simp [D309, k1, k2, k3, k4, c0, c5]; done) | (simp_all [D309]; done)
        · intro c24
          refine b309_28 ?_
          refine ⟨_, rfl, rfl, ?_⟩
          try simp only [b2i_eq, b2i_ne] at *
          first | (subst c34; simp [D309, k1, a12, a24, nI_clamp (show j < 2 ^ 31 by omega), nI_clamp (show 12 + j < 2 ^ 31 by omega), nI_clamp (show 24 + j < 2 ^ 31 by omega)]; done) | (simp [D309, k1, k2, k3, k4, c0, c5]; done) | (simp_all [D309]; done)
    · intro c5
      refine b309_10 ?_
      refine b309_15 (s294 S) (by decide) ?_
      rintro z15 h15 ⟨e15, rfl⟩
      subst h15
      refine b309_21 ?_ ?_
      · intro c21
        have k1 := b2i_ne.mp c21
        obtain ⟨j, hj, rfl⟩ := (q_rg_ex (by decide)).mp (d_has_rg k1)
        refine b309_34 ?_ ?_ ?_ ?_ ?_ ?_
        · intro c34
          refine b309_68 (S.ok rfl) (S.ref (v := 691) rfl) (S.ok rfl) ?_ ?_
          · exact S.mi (by omega)
          · refine ⟨_, rfl, rfl, ?_⟩
            try simp only [b2i_eq, b2i_ne] at *
            first | (subst c34; simp [D309, k1, a12, a24, nI_clamp (show j < 2 ^ 31 by omega), nI_clamp (show 12 + j < 2 ^ 31 by omega), nI_clamp (show 24 + j < 2 ^ 31 by omega)]; done) | (simp [D309, k1, k2, k3, k4, c0, c5]; done) | (simp_all [D309]; done)
        · intro c34
          refine b309_75 (S.ok rfl) (S.ref (v := 691) rfl) (S.ok rfl) ?_ ?_
          · rw [a12]; exact S.mi (by omega)
          · refine ⟨_, rfl, rfl, ?_⟩
            try simp only [b2i_eq, b2i_ne] at *
            first | (subst c34; simp [D309, k1, a12, a24, nI_clamp (show j < 2 ^ 31 by omega), nI_clamp (show 12 + j < 2 ^ 31 by omega), nI_clamp (show 24 + j < 2 ^ 31 by omega)]; done) | (simp [D309, k1, k2, k3, k4, c0, c5]; done) | (simp_all [D309]; done)
        · intro c34
          refine b309_85 (S.ok rfl) (S.ref (v := 691) rfl) (S.ok rfl) ?_ ?_
          · rw [a24]; exact S.mi (by omega)
          · refine ⟨_, rfl, rfl, ?_⟩
            try simp only [b2i_eq, b2i_ne] at *
            first | (subst c34; simp [D309, k1, a12, a24, nI_clamp (show j < 2 ^ 31 by omega), nI_clamp (show 12 + j < 2 ^ 31 by omega), nI_clamp (show 24 + j < 2 ^ 31 by omega)]; done) | (simp [D309, k1, k2, k3, k4, c0, c5]; done) | (simp_all [D309]; done)
        · intro c34
          refine b309_95 (s304 (b := 76) S (by decide)) (by decide) ?_
          rintro z95 h95 ⟨e95, rfl⟩
          subst h95
          refine b309_102 ?_
          refine ⟨_, rfl, rfl, ?_⟩
          try simp only [b2i_eq, b2i_ne] at *
          first | (subst c34; simp [D309, k1, a12, a24, nI_clamp (show j < 2 ^ 31 by omega), nI_clamp (show 12 + j < 2 ^ 31 by omega), nI_clamp (show 24 + j < 2 ^ 31 by omega)]; done) | (simp [D309, k1, k2, k3, k4, c0, c5]; done) | (simp_all [D309]; done)
        · intro c34
          refine b309_103 (s304 (b := 116) S (by decide)) (by decide) ?_
          rintro z103 h103 ⟨e103, rfl⟩
          subst h103
          refine b309_110 ?_
          refine ⟨_, rfl, rfl, ?_⟩
          try simp only [b2i_eq, b2i_ne] at *
          first | (subst c34; simp [D309, k1, a12, a24, nI_clamp (show j < 2 ^ 31 by omega), nI_clamp (show 12 + j < 2 ^ 31 by omega), nI_clamp (show 24 + j < 2 ^ 31 by omega)]; done) | (simp [D309, k1, k2, k3, k4, c0, c5]; done) | (simp_all [D309]; done)
        · intro c34
          have k2 : ¬ w = 0 := by (rintro rfl; revert c34; decide)
          have k3 : ¬ w = 3 := by (rintro rfl; revert c34; decide)
          have k4 : ¬ w = 4 := by (rintro rfl; revert c34; decide)
          refine b309_111 ?_
          refine ⟨_, rfl, rfl, ?_⟩
          try simp only [b2i_eq, b2i_ne] at *
          first | (subst c34; simp [D309, k1, a12, a24, nI_clamp (show j < 2 ^ 31 by omega), nI_clamp (show 12 + j < 2 ^ 31 by omega), nI_clamp (show 24 + j < 2 ^ 31 by omega)]; done) | (simp [D309, k1, k2, k3, k4, c0, c5]; done) | (simp_all [D309]; done)
      · intro c21
        refine b309_24 ?_ ?_
        · intro c24
          refine b309_32 ?_
          refine ⟨_, rfl, rfl, ?_⟩
          try simp only [b2i_eq, b2i_ne] at *
          first | (subst c34; simp [D309, k1, a12, a24, nI_clamp (show j < 2 ^ 31 by omega), nI_clamp (show 12 + j < 2 ^ 31 by omega), nI_clamp (show 24 + j < 2 ^ 31 by omega)]; done) | (simp [D309, k1, k2, k3, k4, c0, c5]; done) | (simp_all [D309]; done)
        · intro c24
          refine b309_28 ?_
          refine ⟨_, rfl, rfl, ?_⟩
          try simp only [b2i_eq, b2i_ne] at *
          first | (subst c34; simp [D309, k1, a12, a24, nI_clamp (show j < 2 ^ 31 by omega), nI_clamp (show 12 + j < 2 ^ 31 by omega), nI_clamp (show 24 + j < 2 ^ 31 by omega)]; done) | (simp [D309, k1, k2, k3, k4, c0, c5]; done) | (simp_all [D309]; done)
theorem q_is2 {k : Int32} (h0 : ¬ k < 0) (h1 : k ≤ 2) (h2 : ¬ k = 0) (h3 : ¬ k = 1) : k = 2 := by
  have e : (2 : Int32).toInt = 2 := by decide
  have e2 : (0 : Int32).toInt = 0 := by decide
  have e3 : (1 : Int32).toInt = 1 := by decide
  apply Int32.toInt_inj.mp
  have h4 : ¬ k.toInt = 0 := fun h => h2 (Int32.toInt_inj.mp (h.trans e2.symm))
  have h5 : ¬ k.toInt = 1 := fun h => h3 (Int32.toInt_inj.mp (h.trans e3.symm))
  rw [Int32.lt_iff_toInt_lt] at h0
  rw [Int32.le_iff_toInt_le] at h1
  omega
theorem s310 {h : q_Hp} {x w : Int32} (S : q_Sh h) : q_mI 1 310 [.ref 630, .int x, .int w] h (fun z h' => h' = h ∧ z = D310 (qA h 691) x w) := by
  refine ⟨q_recV rfl (S.ok rfl), ?_⟩
  refine b310_0 (s295 S) (by decide) ?_
  rintro z0 h0 ⟨e0, rfl⟩
  subst h0
  refine b310_5 ?_ ?_
  · intro c5
    refine b310_17 ?_
    refine ⟨_, rfl, rfl, ?_⟩
    try simp only [b2i_eq, b2i_ne] at *
    first | (simp_all [D310]; done) | (simp [D310, k1, a36, a76, a116, nI_clamp (show j < 2 ^ 31 by omega), nI_clamp (show 36 + j < 2 ^ 31 by omega), nI_clamp (show 76 + j < 2 ^ 31 by omega), nI_clamp (show 116 + j < 2 ^ 31 by omega), c19]; done) | (simp [D310, k1, a36, a76, a116, nI_clamp (show j < 2 ^ 31 by omega), nI_clamp (show 36 + j < 2 ^ 31 by omega), nI_clamp (show 76 + j < 2 ^ 31 by omega), nI_clamp (show 116 + j < 2 ^ 31 by omega), c32, c19]; done) | (have k0 : ¬ w = 0 := (by rintro rfl; exact absurd c8 (by decide)); have k3 : ¬ w = 1 := (by rintro rfl; exact absurd c8 (by decide)); have k4 : ¬ w = 2 := (by rintro rfl; exact absurd c8 (by decide)); simp [D310, k0, k3, k4]; done) | (have k0 : ¬ w = 0 := (by rintro rfl; exact absurd c12 (by decide)); have k3 : ¬ w = 1 := (by rintro rfl; exact absurd c12 (by decide)); have k4 : ¬ w = 2 := (by rintro rfl; exact absurd c12 (by decide)); simp [D310, k0, k3, k4]; done) | (have k4 : w = 2 := q_is2 c8 c12 c19 c32; subst k4; simp [D310, k1, a116, nI_clamp (show j < 2 ^ 31 by omega), nI_clamp (show 116 + j < 2 ^ 31 by omega)]; done)
  · intro c5
    have k1 := b2i_ne.mp c5
    obtain ⟨j, hj, rfl⟩ := (q_rg_ex (by decide)).mp (d_hasL_rg k1)
    refine b310_8 ?_ ?_
    · intro c8
      refine b310_17 ?_
      refine ⟨_, rfl, rfl, ?_⟩
      try simp only [b2i_eq, b2i_ne] at *
      first | (simp_all [D310]; done) | (simp [D310, k1, a36, a76, a116, nI_clamp (show j < 2 ^ 31 by omega), nI_clamp (show 36 + j < 2 ^ 31 by omega), nI_clamp (show 76 + j < 2 ^ 31 by omega), nI_clamp (show 116 + j < 2 ^ 31 by omega), c19]; done) | (simp [D310, k1, a36, a76, a116, nI_clamp (show j < 2 ^ 31 by omega), nI_clamp (show 36 + j < 2 ^ 31 by omega), nI_clamp (show 76 + j < 2 ^ 31 by omega), nI_clamp (show 116 + j < 2 ^ 31 by omega), c32, c19]; done) | (have k0 : ¬ w = 0 := (by rintro rfl; exact absurd c8 (by decide)); have k3 : ¬ w = 1 := (by rintro rfl; exact absurd c8 (by decide)); have k4 : ¬ w = 2 := (by rintro rfl; exact absurd c8 (by decide)); simp [D310, k0, k3, k4]; done) | (have k0 : ¬ w = 0 := (by rintro rfl; exact absurd c12 (by decide)); have k3 : ¬ w = 1 := (by rintro rfl; exact absurd c12 (by decide)); have k4 : ¬ w = 2 := (by rintro rfl; exact absurd c12 (by decide)); simp [D310, k0, k3, k4]; done) | (have k4 : w = 2 := q_is2 c8 c12 c19 c32; subst k4; simp [D310, k1, a116, nI_clamp (show j < 2 ^ 31 by omega), nI_clamp (show 116 + j < 2 ^ 31 by omega)]; done)
    · intro c8
      refine b310_12 ?_ ?_
      · intro c12
        refine b310_19 (S.ok rfl) (S.ref (v := 691) rfl) ?_ ?_
        · intro c19
          refine b310_32 ?_ ?_
          · intro c32
            refine b310_42 ?_
            refine b310_44 (S.ok rfl) ?_ ?_
            · first | (rw [a36]; exact S.mi (by omega)) | (rw [a76]; exact S.mi (by omega)) | (rw [a116]; exact S.mi (by omega))
            · refine ⟨_, rfl, rfl, ?_⟩
              try simp only [b2i_eq, b2i_ne] at *
              first | (simp_all [D310]; done) | (simp [D310, k1, a36, a76, a116, nI_clamp (show j < 2 ^ 31 by omega), nI_clamp (show 36 + j < 2 ^ 31 by omega), nI_clamp (show 76 + j < 2 ^ 31 by omega), nI_clamp (show 116 + j < 2 ^ 31 by omega), c19]; done) | (simp [D310, k1, a36, a76, a116, nI_clamp (show j < 2 ^ 31 by omega), nI_clamp (show 36 + j < 2 ^ 31 by omega), nI_clamp (show 76 + j < 2 ^ 31 by omega), nI_clamp (show 116 + j < 2 ^ 31 by omega), c32, c19]; done) | (have k0 : ¬ w = 0 := (by rintro rfl; exact absurd c8 (by decide)); have k3 : ¬ w = 1 := (by rintro rfl; exact absurd c8 (by decide)); have k4 : ¬ w = 2 := (by rintro rfl; exact absurd c8 (by decide)); simp [D310, k0, k3, k4]; done) | (have k0 : ¬ w = 0 := (by rintro rfl; exact absurd c12 (by decide)); have k3 : ¬ w = 1 := (by rintro rfl; exact absurd c12 (by decide)); have k4 : ¬ w = 2 := (by rintro rfl; exact absurd c12 (by decide)); simp [D310, k0, k3, k4]; done) | (have k4 : w = 2 := q_is2 c8 c12 c19 c32; subst k4; simp [D310, k1, a116, nI_clamp (show j < 2 ^ 31 by omega), nI_clamp (show 116 + j < 2 ^ 31 by omega)]; done)
          · intro c32
            refine b310_37 ?_
            refine b310_44 (S.ok rfl) ?_ ?_
            · first | (rw [a36]; exact S.mi (by omega)) | (rw [a76]; exact S.mi (by omega)) | (rw [a116]; exact S.mi (by omega))
            · refine ⟨_, rfl, rfl, ?_⟩
              try simp only [b2i_eq, b2i_ne] at *
              first | (simp_all [D310]; done) | (simp [D310, k1, a36, a76, a116, nI_clamp (show j < 2 ^ 31 by omega), nI_clamp (show 36 + j < 2 ^ 31 by omega), nI_clamp (show 76 + j < 2 ^ 31 by omega), nI_clamp (show 116 + j < 2 ^ 31 by omega), c19]; done) | (simp [D310, k1, a36, a76, a116, nI_clamp (show j < 2 ^ 31 by omega), nI_clamp (show 36 + j < 2 ^ 31 by omega), nI_clamp (show 76 + j < 2 ^ 31 by omega), nI_clamp (show 116 + j < 2 ^ 31 by omega), c32, c19]; done) | (have k0 : ¬ w = 0 := (by rintro rfl; exact absurd c8 (by decide)); have k3 : ¬ w = 1 := (by rintro rfl; exact absurd c8 (by decide)); have k4 : ¬ w = 2 := (by rintro rfl; exact absurd c8 (by decide)); simp [D310, k0, k3, k4]; done) | (have k0 : ¬ w = 0 := (by rintro rfl; exact absurd c12 (by decide)); have k3 : ¬ w = 1 := (by rintro rfl; exact absurd c12 (by decide)); have k4 : ¬ w = 2 := (by rintro rfl; exact absurd c12 (by decide)); simp [D310, k0, k3, k4]; done) | (have k4 : w = 2 := q_is2 c8 c12 c19 c32; subst k4; simp [D310, k1, a116, nI_clamp (show j < 2 ^ 31 by omega), nI_clamp (show 116 + j < 2 ^ 31 by omega)]; done)
        · intro c19
          refine b310_27 ?_
          refine b310_44 (S.ok rfl) ?_ ?_
          · first | (rw [a36]; exact S.mi (by omega)) | (rw [a76]; exact S.mi (by omega)) | (rw [a116]; exact S.mi (by omega))
          · refine ⟨_, rfl, rfl, ?_⟩
            try simp only [b2i_eq, b2i_ne] at *
            first | (simp_all [D310]; done) | (simp [D310, k1, a36, a76, a116, nI_clamp (show j < 2 ^ 31 by omega), nI_clamp (show 36 + j < 2 ^ 31 by omega), nI_clamp (show 76 + j < 2 ^ 31 by omega), nI_clamp (show 116 + j < 2 ^ 31 by omega), c19]; done) | (simp [D310, k1, a36, a76, a116, nI_clamp (show j < 2 ^ 31 by omega), nI_clamp (show 36 + j < 2 ^ 31 by omega), nI_clamp (show 76 + j < 2 ^ 31 by omega), nI_clamp (show 116 + j < 2 ^ 31 by omega), c32, c19]; done) | (have k0 : ¬ w = 0 := (by rintro rfl; exact absurd c8 (by decide)); have k3 : ¬ w = 1 := (by rintro rfl; exact absurd c8 (by decide)); have k4 : ¬ w = 2 := (by rintro rfl; exact absurd c8 (by decide)); simp [D310, k0, k3, k4]; done) | (have k0 : ¬ w = 0 := (by rintro rfl; exact absurd c12 (by decide)); have k3 : ¬ w = 1 := (by rintro rfl; exact absurd c12 (by decide)); have k4 : ¬ w = 2 := (by rintro rfl; exact absurd c12 (by decide)); simp [D310, k0, k3, k4]; done) | (have k4 : w = 2 := q_is2 c8 c12 c19 c32; subst k4; simp [D310, k1, a116, nI_clamp (show j < 2 ^ 31 by omega), nI_clamp (show 116 + j < 2 ^ 31 by omega)]; done)
      · intro c12
        refine b310_17 ?_
        refine ⟨_, rfl, rfl, ?_⟩
        try simp only [b2i_eq, b2i_ne] at *
        first | (simp_all [D310]; done) | (simp [D310, k1, a36, a76, a116, nI_clamp (show j < 2 ^ 31 by omega), nI_clamp (show 36 + j < 2 ^ 31 by omega), nI_clamp (show 76 + j < 2 ^ 31 by omega), nI_clamp (show 116 + j < 2 ^ 31 by omega), c19]; done) | (simp [D310, k1, a36, a76, a116, nI_clamp (show j < 2 ^ 31 by omega), nI_clamp (show 36 + j < 2 ^ 31 by omega), nI_clamp (show 76 + j < 2 ^ 31 by omega), nI_clamp (show 116 + j < 2 ^ 31 by omega), c32, c19]; done) | (have k0 : ¬ w = 0 := (by rintro rfl; exact absurd c8 (by decide)); have k3 : ¬ w = 1 := (by rintro rfl; exact absurd c8 (by decide)); have k4 : ¬ w = 2 := (by rintro rfl; exact absurd c8 (by decide)); simp [D310, k0, k3, k4]; done) | (have k0 : ¬ w = 0 := (by rintro rfl; exact absurd c12 (by decide)); have k3 : ¬ w = 1 := (by rintro rfl; exact absurd c12 (by decide)); have k4 : ¬ w = 2 := (by rintro rfl; exact absurd c12 (by decide)); simp [D310, k0, k3, k4]; done) | (have k4 : w = 2 := q_is2 c8 c12 c19 c32; subst k4; simp [D310, k1, a116, nI_clamp (show j < 2 ^ 31 by omega), nI_clamp (show 116 + j < 2 ^ 31 by omega)]; done)
theorem s325 {h : q_Hp} {a c : Nat} {x w : Int32} (S : q_Sh h) (ha : qI h 630 95 = nI a) (h4 : a ≤ 4) (hc : qI h 630 96 = nI c) (h6 : c ≤ 6) : q_mI 0 325 [.ref 630, .int x, .int w] h (fun z h' => h' = h ∧ z = if w = 0 then c_at (qA h 697) a x else c_at (qA h 698) c x) := by
  refine ⟨q_recV rfl (S.ok rfl), ?_⟩
  refine b325_0 ?_ ?_
  · intro c0
    refine b325_23 ?_
    refine ⟨_, rfl, rfl, ?_⟩
    first | exact absurd c4 c25 | exact absurd c25 c4 | (rw [if_pos c4]; exact (c_at_out (q_rg_lo c0)).symm) | (rw [if_neg c4]; exact (c_at_out (q_rg_lo c0)).symm) | (rw [if_pos c4]; exact (c_at_out (q_rg_hi' rfl (ha ▸ c20))).symm) | (rw [if_neg c4]; exact (c_at_out (q_rg_hi' rfl (hc ▸ c20))).symm) | (by_cases c9 : w = 0; (rw [if_pos c9]; exact (c_at_out (q_rg_lo c0)).symm); (rw [if_neg c9]; exact (c_at_out (q_rg_lo c0)).symm)) | (rw [if_pos c4]; unfold c_at; rw [if_pos (q_rg_in' rfl c0 (ha ▸ c20))]) | (rw [if_neg c4]; unfold c_at; rw [if_pos (q_rg_in' rfl c0 (hc ▸ c20))])
  · intro c0
    refine b325_4 ?_ ?_
    · intro c4
      refine b325_16 (S.ok rfl) ?_
      refine b325_20 ?_ ?_
      · intro c20
        refine b325_25 ?_ ?_
        · intro c25
          refine b325_38 (S.ok rfl) (S.ref (v := 697) rfl) (S.ok rfl) ?_ ?_
          · first | exact absurd c25 c4 | exact absurd c4 c25 | exact q_rg_q (q_rg_in' rfl c0 (ha ▸ c20)) (by omega) (by rw [S.len (n := 4) rfl]; exact h4)
          · refine ⟨_, rfl, rfl, ?_⟩
            first | exact absurd c4 c25 | exact absurd c25 c4 | (rw [if_pos c4]; exact (c_at_out (q_rg_lo c0)).symm) | (rw [if_neg c4]; exact (c_at_out (q_rg_lo c0)).symm) | (rw [if_pos c4]; exact (c_at_out (q_rg_hi' rfl (ha ▸ c20))).symm) | (rw [if_neg c4]; exact (c_at_out (q_rg_hi' rfl (hc ▸ c20))).symm) | (by_cases c9 : w = 0; (rw [if_pos c9]; exact (c_at_out (q_rg_lo c0)).symm); (rw [if_neg c9]; exact (c_at_out (q_rg_lo c0)).symm)) | (rw [if_pos c4]; unfold c_at; rw [if_pos (q_rg_in' rfl c0 (ha ▸ c20))]) | (rw [if_neg c4]; unfold c_at; rw [if_pos (q_rg_in' rfl c0 (hc ▸ c20))])
        · intro c25
          refine b325_29 (S.ok rfl) (S.ref (v := 698) rfl) (S.ok rfl) ?_ ?_
          · first | exact absurd c4 c25 | exact absurd c25 c4 | exact q_rg_q (q_rg_in' rfl c0 (hc ▸ c20)) (by omega) (by rw [S.len (n := 6) rfl]; exact h6)
          · refine ⟨_, rfl, rfl, ?_⟩
            first | exact absurd c4 c25 | exact absurd c25 c4 | (rw [if_pos c4]; exact (c_at_out (q_rg_lo c0)).symm) | (rw [if_neg c4]; exact (c_at_out (q_rg_lo c0)).symm) | (rw [if_pos c4]; exact (c_at_out (q_rg_hi' rfl (ha ▸ c20))).symm) | (rw [if_neg c4]; exact (c_at_out (q_rg_hi' rfl (hc ▸ c20))).symm) | (by_cases c9 : w = 0; (rw [if_pos c9]; exact (c_at_out (q_rg_lo c0)).symm); (rw [if_neg c9]; exact (c_at_out (q_rg_lo c0)).symm)) | (rw [if_pos c4]; unfold c_at; rw [if_pos (q_rg_in' rfl c0 (ha ▸ c20))]) | (rw [if_neg c4]; unfold c_at; rw [if_pos (q_rg_in' rfl c0 (hc ▸ c20))])
      · intro c20
        refine b325_23 ?_
        refine ⟨_, rfl, rfl, ?_⟩
        first | exact absurd c4 c25 | exact absurd c25 c4 | (rw [if_pos c4]; exact (c_at_out (q_rg_lo c0)).symm) | (rw [if_neg c4]; exact (c_at_out (q_rg_lo c0)).symm) | (rw [if_pos c4]; exact (c_at_out (q_rg_hi' rfl (ha ▸ c20))).symm) | (rw [if_neg c4]; exact (c_at_out (q_rg_hi' rfl (hc ▸ c20))).symm) | (by_cases c9 : w = 0; (rw [if_pos c9]; exact (c_at_out (q_rg_lo c0)).symm); (rw [if_neg c9]; exact (c_at_out (q_rg_lo c0)).symm)) | (rw [if_pos c4]; unfold c_at; rw [if_pos (q_rg_in' rfl c0 (ha ▸ c20))]) | (rw [if_neg c4]; unfold c_at; rw [if_pos (q_rg_in' rfl c0 (hc ▸ c20))])
    · intro c4
      refine b325_9 (S.ok rfl) ?_
      refine b325_20 ?_ ?_
      · intro c20
        refine b325_25 ?_ ?_
        · intro c25
          refine b325_38 (S.ok rfl) (S.ref (v := 697) rfl) (S.ok rfl) ?_ ?_
          · first | exact absurd c25 c4 | exact absurd c4 c25 | exact q_rg_q (q_rg_in' rfl c0 (ha ▸ c20)) (by omega) (by rw [S.len (n := 4) rfl]; exact h4)
          · refine ⟨_, rfl, rfl, ?_⟩
            first | exact absurd c4 c25 | exact absurd c25 c4 | (rw [if_pos c4]; exact (c_at_out (q_rg_lo c0)).symm) | (rw [if_neg c4]; exact (c_at_out (q_rg_lo c0)).symm) | (rw [if_pos c4]; exact (c_at_out (q_rg_hi' rfl (ha ▸ c20))).symm) | (rw [if_neg c4]; exact (c_at_out (q_rg_hi' rfl (hc ▸ c20))).symm) | (by_cases c9 : w = 0; (rw [if_pos c9]; exact (c_at_out (q_rg_lo c0)).symm); (rw [if_neg c9]; exact (c_at_out (q_rg_lo c0)).symm)) | (rw [if_pos c4]; unfold c_at; rw [if_pos (q_rg_in' rfl c0 (ha ▸ c20))]) | (rw [if_neg c4]; unfold c_at; rw [if_pos (q_rg_in' rfl c0 (hc ▸ c20))])
        · intro c25
          refine b325_29 (S.ok rfl) (S.ref (v := 698) rfl) (S.ok rfl) ?_ ?_
          · first | exact absurd c4 c25 | exact absurd c25 c4 | exact q_rg_q (q_rg_in' rfl c0 (hc ▸ c20)) (by omega) (by rw [S.len (n := 6) rfl]; exact h6)
          · refine ⟨_, rfl, rfl, ?_⟩
            first | exact absurd c4 c25 | exact absurd c25 c4 | (rw [if_pos c4]; exact (c_at_out (q_rg_lo c0)).symm) | (rw [if_neg c4]; exact (c_at_out (q_rg_lo c0)).symm) | (rw [if_pos c4]; exact (c_at_out (q_rg_hi' rfl (ha ▸ c20))).symm) | (rw [if_neg c4]; exact (c_at_out (q_rg_hi' rfl (hc ▸ c20))).symm) | (by_cases c9 : w = 0; (rw [if_pos c9]; exact (c_at_out (q_rg_lo c0)).symm); (rw [if_neg c9]; exact (c_at_out (q_rg_lo c0)).symm)) | (rw [if_pos c4]; unfold c_at; rw [if_pos (q_rg_in' rfl c0 (ha ▸ c20))]) | (rw [if_neg c4]; unfold c_at; rw [if_pos (q_rg_in' rfl c0 (hc ▸ c20))])
      · intro c20
        refine b325_23 ?_
        refine ⟨_, rfl, rfl, ?_⟩
        first | exact absurd c4 c25 | exact absurd c25 c4 | (rw [if_pos c4]; exact (c_at_out (q_rg_lo c0)).symm) | (rw [if_neg c4]; exact (c_at_out (q_rg_lo c0)).symm) | (rw [if_pos c4]; exact (c_at_out (q_rg_hi' rfl (ha ▸ c20))).symm) | (rw [if_neg c4]; exact (c_at_out (q_rg_hi' rfl (hc ▸ c20))).symm) | (by_cases c9 : w = 0; (rw [if_pos c9]; exact (c_at_out (q_rg_lo c0)).symm); (rw [if_neg c9]; exact (c_at_out (q_rg_lo c0)).symm)) | (rw [if_pos c4]; unfold c_at; rw [if_pos (q_rg_in' rfl c0 (ha ▸ c20))]) | (rw [if_neg c4]; unfold c_at; rw [if_pos (q_rg_in' rfl c0 (hc ▸ c20))])
theorem q_le3 {k : Int32} (h : k < nI 4) : k ≤ 3 := by
  rw [Int32.lt_iff_toInt_lt, nI_toInt (by decide)] at h
  rw [Int32.le_iff_toInt_le]
  have e : (3 : Int32).toInt = 3 := by decide
  omega
theorem q_lt4 {k : Int32} (h : k ≤ 3) : k < nI 4 := by
  rw [Int32.le_iff_toInt_le] at h
  rw [Int32.lt_iff_toInt_lt, nI_toInt (by decide)]
  have e : (3 : Int32).toInt = 3 := by decide
  omega
theorem s343 {h : q_Hp} {x : Int32} (S : q_Sh h) : q_mI 1 343 [.ref 630, .int x] h (fun z h' => (z, h') = D343 h x) := by
  refine ⟨q_recV rfl (S.ok rfl), ?_⟩
  refine b343_0 ?_ ?_
  · intro c0
    refine b343_9 ?_
    refine ⟨_, rfl, ?_⟩
    first | (simp [D343, q_rg_lo c0]; done) | simp [D343, q_rg_hi' (n := 4) rfl (fun h9 => c4 (q_le3 h9))]
  · intro c0
    refine b343_4 ?_ ?_
    · intro c4
      have k2 : q_rg x 4 = true := q_rg_in' (n := 4) rfl c0 (q_lt4 c4)
      obtain ⟨j, hj, rfl⟩ := (q_rg_ex (by decide)).mp k2
      refine b343_11 (S.ok rfl) (S.ref (v := 693) rfl) (by rw [show (156 : Int32) * nI j = nI (156 * j) from pk_mul 156 j]; exact s292 (s := 693) (b := 156 * j) S (S.ok rfl) (S.len (n := 624) rfl) (by omega) (by decide) (by decide)) (by decide) ?_
      rintro h11 rfl
      refine b343_24 (S.ok rfl) (S.ref (v := 694) rfl) (S.ok rfl) ?_ ?_
      · exact S.inN (n := 4) rfl hj (by decide)
      · refine ⟨_, rfl, ?_⟩
        rw [D343, if_pos k2, nI_clamp (by omega)]
        rfl
    · intro c4
      refine b343_9 ?_
      refine ⟨_, rfl, ?_⟩
      first | (simp [D343, q_rg_lo c0]; done) | simp [D343, q_rg_hi' (n := 4) rfl (fun h9 => c4 (q_le3 h9))]
