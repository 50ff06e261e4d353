/-! SYNTAX of the class: rules, procs, all -/
section CY
variable {K P : Nat → Nat} {V : Nat → Int64} {e : Nat} {h0 h : q_Hp} {s : y_S}
theorem c_y.val (Y : c_y K P V e h0 h s) : q_mJ 0 190 [.ref 3, .int (qI h 8 7)] h (fun z h' => h' = h ∧ z = V s.1) := by
  rw [Y.2.2.2.2.2.1]
  exact s190 Y.1 Y.2.1 Y.2.2.2.2.2.2.2.1
theorem s175_165 {Q : Option Value → q_Hp → Prop} {x1 : Int64} : ∀ m c h s, c + m = 9 → c_y K P V e h0 h s → (∀ x h', c_y K P V e h0 h' (y_ds K m c s) → q_wp 6 175 203 [some (.ref 8), some (.long x1), none, some (.int x)] [] h' Q) → q_wp 6 175 165 [some (.ref 8), some (.long x1), none, some (.int (nI c))] [] h Q := by
  intro m
  induction m with
  | zero =>
    intro c h s hc Y fin
    exact b175_165 (fun _ => fin _ _ Y) (fun c2 => absurd ((nI_ltI (a := 8) (by decide) (by omega)).mpr (by omega)) c2)
  | succ m ih =>
    intro c h s hc Y fin
    unfold y_ds at fin
    refine b175_165 (fun c2 => ?_) (fun _ => b175_171 (s179 Y) (by decide) ?_)
    · have := (nI_ltI (a := 8) (by decide) (by omega)).mp c2
      omega
    rintro z h2 ⟨e0, rfl⟩
    subst h2
    refine b175_175 (fun c2 => ?_) (fun c2 => ?_)
    · rw [b2i_eq.mp c2, if_neg (by decide)] at fin
      exact fin _ _ Y
    · rw [if_pos (b2i_ne.mp c2)] at fin
      refine y_m175_178 (L := 8) (N := c) (by decide) (by omega) rfl rfl (b175_190 (s171 Y) (by decide) ?_)
      intro h Y
      refine b175_193 (s180 Y (y_rm_lt (y_dw_lt (b2i_ne.mp c2)))) (by decide) ?_
      intro h Y
      refine b175_197 ?_
      rw [nI_1]
      exact ih _ _ _ (by omega) Y fin
theorem s175_125 {Q : Option Value → q_Hp → Prop} {x1 : Int64} : ∀ m c h s, c + m = 5 → c_y K P V e h0 h s → (∀ h', c_y K P V e h0 h' (y_ts K m c s) → q_wp 6 175 165 [some (.ref 8), some (.long x1), none, some (.int (nI 0))] [] h' Q) → q_wp 6 175 125 [some (.ref 8), some (.long x1), none, some (.int (nI c))] [] h Q := by
  intro m
  induction m with
  | zero =>
    intro c h s hc Y fin
    exact b175_125 (fun _ => b175_163 (fin _ Y)) (fun c2 => absurd ((nI_ltI (a := 4) (by decide) (by omega)).mpr (by omega)) c2)
  | succ m ih =>
    intro c h s hc Y fin
    unfold y_ts at fin
    refine b175_125 (fun c2 => ?_) (fun _ => b175_130 (s168 (k := 10) Y (by decide)) (by decide) ?_)
    · have := (nI_ltI (a := 4) (by decide) (by omega)).mp c2
      omega
    rintro z h2 ⟨e0, rfl⟩
    subst h2
    refine b175_136 (fun c2 => ?_) (fun c2 => ?_)
    · rw [b2i_eq.mp c2, if_neg (by decide)] at fin
      exact b175_163 (fin _ Y)
    · rw [if_pos (b2i_ne.mp c2)] at fin
      refine y_m175_139 (L := 4) (N := c) (by decide) (by omega) rfl rfl (b175_150 (s171 Y) (by decide) ?_)
      intro h Y
      refine b175_153 (s178 Y (y_rm_lt (y_is_lt (by decide) (b2i_ne.mp c2)))) (by decide) ?_
      intro h Y
      refine b175_157 ?_
      rw [nI_1]
      exact ih _ _ _ (by omega) Y fin
theorem s175_73' {Q : Option Value → q_Hp → Prop} {x1 : Int64} : ∀ m c h s, c + m = 3 → c_y K P V e h0 h s → (∀ h', c_y K P V e h0 h' (y_nt K m c s) → q_wp 6 175 125 [some (.ref 8), some (.long x1), none, some (.int (nI 0))] [] h' Q) → q_wp 6 175 73 [some (.ref 8), some (.long x1), none, some (.int (nI c))] [] h Q := by
  intro m
  induction m with
  | zero =>
    intro c h s hc Y fin
    exact b175_73 (fun _ => b175_123 (fin _ Y)) (fun c2 => absurd ((nI_ltI (a := 2) (by decide) (by omega)).mpr (by omega)) c2)
  | succ m ih =>
    intro c h s hc Y fin
    unfold y_nt at fin
    refine b175_73 (fun c2 => ?_) (fun _ => b175_78 (s168 (k := 9) Y (by decide)) (by decide) ?_)
    · have := (nI_ltI (a := 2) (by decide) (by omega)).mp c2
      omega
    rintro z h2 ⟨e0, rfl⟩
    subst h2
    refine b175_84 (fun c2 => ?_) (fun c2 => ?_)
    · rw [b2i_eq.mp c2, if_neg (by decide)] at fin
      exact b175_123 (fin _ Y)
    · rw [if_pos (b2i_ne.mp c2)] at fin
      refine y_m175_87 (L := 2) (N := c) (by decide) (by omega) rfl rfl (b175_98 (s171 Y) (by decide) ?_)
      intro h Y
      refine b175_101 (s169 Y (y_rm_lt (y_is_lt (by decide) (b2i_ne.mp c2)))) (by decide) ?_
      intro h Y
      refine b175_105 (s176 (nr := 1) (lr := 3) (cm := false) Y (by decide) (by decide)) (by decide) ?_
      intro h Y
      refine b175_112 (s170 (k := 5) Y (by decide)) (by decide) ?_
      intro h Y
      refine b175_117 ?_
      rw [nI_1]
      exact ih _ _ _ (by omega) Y fin
/-- the name of a rule or a proc is noted, where there is room -/
def y_nm (K : Nat → Nat) (V : Nat → Int64) (a j lim : Nat) (h0 : q_Hp) (s : y_S) : q_Hp := if lim ≤ (qI h0 8 j : Int32).toNatClampNeg then h0 else q_sI (q_sL h0 a ((qI h0 8 j : Int32).toNatClampNeg) (V (y_ps s).1)) 8 j (qI h0 8 j + 1)
theorem s175 {nr : Nat} (Y : c_y K P V e h0 h s) (hk : s.2 = 0 → K s.1 < 42) (hn : qI h0 8 5 = nI nr) (h12 : nr ≤ 1300) : q_mV 6 175 [.ref 8] h (fun h' => c_y K P V e (y_nm K V 9 5 20 h0 s) h' (y_ru K nr s)) := by
  refine q_mV.of (q_recV rfl (Y.1.ok rfl)) (fun Q fin => ?_)
  refine b175_0 (s169 Y hk) (by decide) ?_
  intro h Y
  refine b175_4 (Y.1.ok rfl) (Y.1.ref (v := 3) rfl) Y.val (by decide) ?_
  rintro z h2 ⟨e0, rfl⟩
  subst h2
  refine y_m175_15 (Y.1.ok rfl) (L := 20) (N := nr) (by decide) (by omega) rfl ((Y.2.2.2.2.1 5 (by decide) (by decide)).trans hn) ?_
  refine b175_31 (s172 Y) (by decide) ?_
  intro h Y
  have rest : ∀ h0 h, c_y K P V e h0 h (y_nn K (decide (nr < 20)) (y_ps s)) → (∀ h', c_y K P V e h0 h' (y_ru K nr s) → Q none h') → q_wp 6 175 63 [some (.ref 8), some (.long (V (y_ps s).1)), none, none] [] h Q := by
    intro h0 h Y fin
    refine b175_63 (s176 (nr := 4) (lr := 6) (cm := true) Y (by decide) (by decide)) (by decide) ?_
    intro h Y
    refine b175_71 ?_
    refine s175_73' 3 0 _ _ rfl Y (fun h Y => ?_)
    refine s175_125 5 0 _ _ rfl Y (fun h Y => ?_)
    refine s175_165 9 0 _ _ rfl Y (fun x h Y => ?_)
    exact b175_203 (s170 (k := 5) Y (by decide)) (by decide) (fun h Y => b175_208 (fin _ Y))
  have e5 : qI h 8 5 = nI nr := (Y.2.2.2.2.1 5 (by decide) (by decide)).trans hn
  unfold y_nm at fin
  rw [hn, nI_clamp (by omega)] at fin
  refine b175_34 (Y.1.ok rfl) (fun c => ?_) (fun c => ?_)
  · rw [e5] at c
    rw [if_pos ((nI_leI (a := 20) (by decide) (by omega)).mp c)] at fin
    exact rest h0 h Y fin
  · rw [e5] at c
    have n20 := mt (nI_leI (a := 20) (b := nr) (by decide) (by omega)).mpr c
    rw [if_neg n20] at fin
    refine b175_43 (v0 := 9) (Y.1.ok rfl) (Y.1.ref rfl) (Y.1.ok rfl) (by rw [e5]; exact Y.1.inN (n := 20) rfl (by omega) (by decide)) (rest _ _ (Y.nam (by decide) (by decide) (by decide)) ?_)
    rw [hn, nI_clamp (by omega)]
    exact fin
theorem s184_12 {Q : Option Value → q_Hp → Prop} : ∀ m t h s, t + m = 1201 → c_y K P V e h0 h s → (∀ x h', c_y K P V e h0 h' (y_co K m s) → q_wp 3 184 44 [some (.ref 8), some (.int x)] [] h' Q) → q_wp 3 184 12 [some (.ref 8), some (.int (nI t))] [] h Q := by
  intro m
  induction m with
  | zero =>
    intro t h s ht Y fin
    exact b184_12 (fun _ => fin _ _ Y) (fun c2 => absurd ((nI_ltI (a := 1200) (by decide) (by omega)).mpr (by omega)) c2)
  | succ m ih =>
    intro t h s ht Y fin
    unfold y_co at fin
    refine b184_12 (fun c2 => ?_) (fun _ => b184_19 (s168 (k := 28) Y (by decide)) (by decide) ?_)
    · have := (nI_ltI (a := 1200) (by decide) (by omega)).mp c2
      omega
    rintro z h2 ⟨e0, rfl⟩
    subst h2
    refine b184_25 (fun c2 => ?_) (fun c2 => ?_)
    · rw [b2i_eq.mp c2, if_neg (by decide)] at fin
      exact fin _ _ Y
    · rw [if_pos (b2i_ne.mp c2)] at fin
      refine b184_28 (s169 Y (y_is_lt (by decide) (b2i_ne.mp c2))) (by decide) ?_
      intro h Y
      refine b184_32 (s170 (k := 40) Y (by decide)) (by decide) ?_
      intro h Y
      refine b184_38 ?_
      rw [nI_1]
      exact ih _ _ _ (by omega) Y fin
theorem s184 (Y : c_y K P V e h0 h s) (hk : s.2 = 0 → K s.1 < 42) : q_mV 3 184 [.ref 8] h (fun h' => c_y K P V e h0 h' (y_an K s)) := by
  refine q_mV.of (q_recV rfl (Y.1.ok rfl)) (fun Q fin => ?_)
  refine b184_0 (s169 Y hk) (by decide) ?_
  intro h Y
  refine b184_4 (s170 (k := 40) Y (by decide)) (by decide) ?_
  intro h Y
  refine b184_10 ?_
  refine s184_12 1201 0 _ _ rfl Y (fun x h Y => ?_)
  exact b184_44 (s170 (k := 26) Y (by decide)) (by decide) (fun h Y => b184_50 (fin _ Y))
/-- rows, by the depth that is left -/
def y_R183 (K P : Nat → Nat) (V : Nat → Int64) (e : Nat) (h0 : q_Hp) (m d r : Nat) : Prop := ∀ h s, (d = 9 → ¬ s.2 = 0) → (s.2 = 0 → 1202 ≤ m + s.1) → c_y K P V e h0 h s → q_mV r 183 [.ref 8, .int (nI d)] h (fun h' => c_y K P V e h0 h' (y_ro K m d s))
theorem y_rs_1 {rec : y_S → y_S} (hr : ∀ s0 s, y_to s0 s → y_to s0 (rec s)) (h : (y_rs K rec s).2 = 0) : s.1 + 1 ≤ (y_rs K rec s).1 := by
  have key : ∀ s1, y_to (y_ps s) s1 → y_to (y_ps s) (y_nd K 5 (rec s1)) := fun s1 a => (hr _ _ a).nd
  unfold y_rs at h ⊢
  refine y_to.p1 y_to.rf (key _ ?_) h
  split
  · exact (hr _ _ (hr _ _ y_to.rf).nd).nd
  · split
    · exact y_to.rf.nd
    · exact y_to.rf
theorem s185 {m d r : Nat} (R : y_R183 K P V e h0 m (d + 1) r) (Y : c_y K P V e h0 h s) (hd : d < 2000) (hk : s.2 = 0 → K s.1 < 42) (hm : s.2 = 0 → 1201 ≤ m + s.1) (r2 : 2 ≤ r) : q_mV (r + 1) 185 [.ref 8, .int (nI d)] h (fun h' => c_y K P V e h0 h' (y_rs K (y_ro K m (d + 1)) (y_rm (decide (d < 8)) s))) := by
  refine q_mV.of (q_recV rfl (Y.1.ok rfl)) (fun Q fin => ?_)
  have hr : ∀ s0 s, y_to s0 s → y_to s0 (y_ro K m (d + 1) s) := fun s0 s a => y_to.ro _ _ _ _ a
  refine y_m185_0 (L := 8) (N := d) (by decide) (by omega) rfl rfl (b185_12 (s171 Y) (by omega) ?_)
  have hk2 := y_rm_lt (b := decide (d < 8)) hk
  have hm2 : (y_rm (decide (d < 8)) s).2 = 0 → 1201 ≤ m + (y_rm (decide (d < 8)) s).1 := fun h9 => by
    have h8 := y_to.rm (b := decide (d < 8)) (y_to.rf (s := s))
    have := hm (h8.2.1 h9)
    have := h8.1
    omega
  have hf : d + 1 = 9 → ¬ (y_rm (decide (d < 8)) s).2 = 0 := fun h9 => by
    rw [decide_eq_false (show ¬ d < 8 by omega)]
    show ¬ (y_fl 2 s).2 = 0
    unfold y_fl
    split
    · exact fun h8 => absurd h8 (show ¬ (2 : Nat) = 0 by decide)
    · next h8 => exact h8
  intro h Y
  generalize y_rm (decide (d < 8)) s = s at *
  have hfs : ∀ s1, y_to (y_ps s) s1 → d + 1 = 9 → ¬ s1.2 = 0 := fun s1 t1 h9 h8 => hf h9 ((y_to.ps (y_to.rf (s := s))).2.1 (t1.2.1 h8))
  have ps1 := fun h9 => y_ps_1 (y_to.rf (s := s)) h9
  unfold y_rs at fin
  have g83 : ∀ s1, y_to (y_ps s) s1 → (∀ h', c_y K P V e h0 h' (y_nd K 5 (y_ro K m (d + 1) s1)) → Q none h') → ∀ h', c_y K P V e h0 h' s1 → q_wp (r + 1) 185 83 [some (.ref 8), some (.int (nI d))] [] h' Q := by
    intro s1 t1 fin h Y
    refine b185_83 ?_ (Nat.le_refl _) ?_ (P := fun h' => c_y K P V e h0 h' (y_ro K m (d + 1) s1))
    · rw [nI_1]
      refine R _ _ (hfs _ t1) (fun h9 => ?_) Y
      have h8 := t1.2.1 h9
      have := ps1 h8
      have := t1.1
      have := hm2 ((y_to.ps (y_to.rf (s := s))).2.1 h8)
      omega
    intro h Y
    exact b185_90 (s170 (k := 5) Y (by decide)) (by omega) (fun h Y => b185_95 (fin _ Y))
  refine b185_15 (s168 (k := 22) Y (by decide)) (by omega) ?_
  rintro z h2 ⟨e0, rfl⟩
  subst h2
  refine b185_21 (fun c1 => ?_) (fun c1 => ?_)
  rotate_left 1
  · rw [if_pos (b2i_ne.mp c1)] at fin
    refine b185_24 (s169 Y hk2) (by omega) ?_
    intro h Y
    refine b185_28 ?_ (Nat.le_refl _) ?_ (P := fun h' => c_y K P V e h0 h' (y_ro K m (d + 1) (y_ps s)))
    · rw [nI_1]
      refine R _ _ (hfs _ y_to.rf) (fun h9 => ?_) Y
      have := ps1 h9
      have := hm2 ((y_to.ps (y_to.rf (s := s))).2.1 h9)
      omega
    intro h Y
    refine b185_35 (s170 (k := 23) Y (by decide)) (by omega) ?_
    intro h Y
    have t1 : y_to (y_ps s) (y_nd K 23 (y_ro K m (d + 1) (y_ps s))) := (hr _ _ y_to.rf).nd
    generalize y_nd K 23 (y_ro K m (d + 1) (y_ps s)) = s1 at *
    refine b185_41 ?_ (Nat.le_refl _) ?_ (P := fun h' => c_y K P V e h0 h' (y_ro K m (d + 1) s1))
    · rw [nI_1]
      refine R _ _ (hfs _ t1) (fun h9 => ?_) Y
      have h8 := t1.2.1 h9
      have := ps1 h8
      have := t1.1
      have := hm2 ((y_to.ps (y_to.rf (s := s))).2.1 h8)
      omega
    intro h Y
    refine b185_48 (s170 (k := 24) Y (by decide)) (by omega) ?_
    intro h Y
    exact b185_54 (g83 _ (hr _ _ t1).nd fin _ Y)
  rw [b2i_eq.mp c1, if_neg (by decide)] at fin
  refine b185_57 (s168 (k := 21) Y (by decide)) (by omega) ?_
  rintro z h2 ⟨e0, rfl⟩
  subst h2
  refine b185_63 (fun c2 => ?_) (fun c2 => ?_)
  · rw [b2i_eq.mp c2, if_neg (by decide)] at fin
    exact b185_79 (s169 Y hk2) (by omega) (fun h Y => g83 _ y_to.rf fin _ Y)
  · rw [if_pos (b2i_ne.mp c2)] at fin
    exact b185_66 (s169 Y hk2) (by omega) (fun h Y => b185_70 (s170 (k := 41) Y (by decide)) (by omega) (fun h Y => b185_76 (g83 _ y_to.rf.nd fin _ Y)))
theorem y_wl_lt (c : y_wl K s = true) : s.2 = 0 → K s.1 < 42 := by
  intro _
  unfold y_wl at c
  simp only [Bool.or_eq_true, y_is_c] at c
  omega
theorem y_dc_lt (c : y_dc K s = true) : s.2 = 0 → K s.1 < 42 := by
  intro _
  unfold y_dc at c
  simp only [Bool.or_eq_true, y_is_c] at c
  omega
theorem y_an_1 (h : (y_an K s).2 = 0) : s.1 + 1 ≤ (y_an K s).1 := y_to.p1 y_to.rf ((y_to.co _ _ _ y_to.rf.nd).nd) h
theorem y_ro_f {m d : Nat} (h : ¬ s.2 = 0) : y_ro K m d s = s := (y_to.ro m d s s y_to.rf).2.2 h
theorem s183_f {r : Nat} (r9 : 4 ≤ r) {d t : Nat} {Q : Option Value → q_Hp → Prop} (hf : ¬ s.2 = 0) (Y : c_y K P V e h0 h s) (fin : Q none h) : q_wp r 183 2 [some (.ref 8), some (.int (nI d)), some (.int (nI t))] [] h Q := by
  obtain ⟨r, rfl⟩ : ∃ q, r = q + 1 := ⟨r - 1, by omega⟩
  have hz : ∀ k, y_is K k s = false := fun k => Bool.eq_false_iff.mpr (fun h9 => hf (y_is_c.mp h9).1)
  refine b183_2 (fun _ => b183_141 fin) (fun _ => b183_9 (fun _ => b183_141 fin) (fun _ => ?_))
  refine b183_15 (s168 (k := 20) Y (by decide)) (by omega) ?_
  rintro z h2 ⟨e0, rfl⟩
  subst h2
  rw [hz]
  refine b183_21 (fun c => absurd (show b2i false = 0 from rfl) c) (fun _ => ?_)
  refine b183_24 (s168 (k := 21) Y (by decide)) (by omega) ?_
  rintro z h2 ⟨e0, rfl⟩
  subst h2
  rw [hz]
  refine b183_30 (fun c => absurd (show b2i false = 0 from rfl) c) (fun _ => ?_)
  refine b183_33 (s168 (k := 22) Y (by decide)) (by omega) ?_
  rintro z h2 ⟨e0, rfl⟩
  subst h2
  rw [hz]
  refine b183_39 (fun _ => ?_) (fun c => absurd (show b2i false = 0 from rfl) c)
  refine b183_50 (s168 (k := 15) Y (by decide)) (by omega) ?_
  rintro z h2 ⟨e0, rfl⟩
  subst h2
  rw [hz]
  refine b183_56 (fun c => absurd (show b2i false = 0 from rfl) c) (fun _ => ?_)
  refine b183_59 (s168 (k := 16) Y (by decide)) (by omega) ?_
  rintro z h2 ⟨e0, rfl⟩
  subst h2
  rw [hz]
  refine b183_65 (fun c => absurd (show b2i false = 0 from rfl) c) (fun _ => ?_)
  refine b183_68 (s168 (k := 18) Y (by decide)) (by omega) ?_
  rintro z h2 ⟨e0, rfl⟩
  subst h2
  rw [hz]
  refine b183_74 (fun _ => ?_) (fun c => absurd (show b2i false = 0 from rfl) c)
  refine b183_96 (s168 (k := 19) Y (by decide)) (by omega) ?_
  rintro z h2 ⟨e0, rfl⟩
  subst h2
  rw [hz]
  refine b183_102 (fun _ => ?_) (fun c => absurd (show b2i false = 0 from rfl) c)
  refine b183_118 (s168 (k := 17) Y (by decide)) (by omega) ?_
  rintro z h2 ⟨e0, rfl⟩
  subst h2
  rw [hz]
  refine b183_124 (fun _ => ?_) (fun c => absurd (show b2i false = 0 from rfl) c)
  exact b183_134 fin
theorem s183_2 {r d : Nat} (hd : d ≤ 9) (r9 : 6 ≤ r) (R : d < 9 → ∀ m, y_R183 K P V e h0 m (d + 1) (r - 2)) {Q : Option Value → q_Hp → Prop} : ∀ m t h s, (s.2 = 0 → 1202 ≤ m + s.1) → (s.2 = 0 → t ≤ s.1) → t ≤ 1201 → (d = 9 → ¬ s.2 = 0) → c_y K P V e h0 h s → (∀ h', c_y K P V e h0 h' (y_ro K m d s) → Q none h') → q_wp r 183 2 [some (.ref 8), some (.int (nI d)), some (.int (nI t))] [] h Q := by
  obtain ⟨r, rfl⟩ : ∃ q, r = q + 2 := ⟨r - 2, by omega⟩
  rw [Nat.add_sub_cancel] at R
  intro m
  induction m with
  | zero =>
    intro t h s hm ht h12 h9 Y fin
    have := Y.2.2.2.2.2.2.2.1
    have := Y.2.2.1.2.2
    by_cases s0 : s.2 = 0
    · have := hm s0
      omega
    · exact s183_f (by omega) s0 Y (fin _ Y)
  | succ m ih =>
    intro t h s hm ht h12 h9 Y fin
    have he := Y.2.2.2.2.2.2.2.1
    have he2 := Y.2.2.1.2.2
    by_cases s0 : s.2 = 0
    rotate_left 1
    · rw [y_ro_f s0] at fin
      exact s183_f (by omega) s0 Y (fin _ Y)
    have hm := hm s0
    have ht := ht s0
    have d8 : d ≤ 8 := by
      rcases Nat.lt_or_ge d 9 with h1 | h1
      · omega
      · exact absurd s0 (h9 (by omega))
    have again : ∀ s', (s'.2 = 0 → s.1 + 1 ≤ s'.1) → (∀ h', c_y K P V e h0 h' (y_ro K m d s') → Q none h') → ∀ h', c_y K P V e h0 h' s' → q_wp (r + 2) 183 135 [some (.ref 8), some (.int (nI d)), some (.int (nI t))] [] h' Q := by
      intro s' h1 fin h' Y'
      refine b183_135 ?_
      rw [nI_1]
      exact ih (t + 1) h' s' (fun h8 => by have := h1 h8; omega) (fun h8 => by have := h1 h8; omega) (by omega) (fun h8 => absurd h8 (by omega)) Y' fin
    unfold y_ro at fin
    refine b183_2 (fun c => ?_) (fun _ => b183_9 (fun c => ?_) (fun _ => ?_))
    · have := (nI_ltI (a := 1200) (by decide) (by omega)).mp c
      omega
    · have := (nI_ltI (a := 8) (by decide) (by omega)).mp c
      omega
    have g42 : y_wl K s = true → q_wp (r + 2) 183 42 [some (.ref 8), some (.int (nI d)), some (.int (nI t))] [] h Q := by
      intro hs
      rw [if_pos hs] at fin
      refine b183_42 (s185 (r := r) (R (by omega) m) Y (by omega) (y_wl_lt hs) (fun _ => by omega) (by omega)) (by omega) ?_
      intro h Y
      refine b183_47 (again _ (fun h8 => ?_) fin h Y)
      have := y_rs_1 (rec := y_ro K m (d + 1)) (fun s0 s a => y_to.ro _ _ _ _ a) h8
      have := (y_to.rm (b := decide (d < 8)) (y_to.rf (s := s))).1
      omega
    have g77 : ¬ y_wl K s = true → y_dc K s = true → q_wp (r + 2) 183 77 [some (.ref 8), some (.int (nI d)), some (.int (nI t))] [] h Q := by
      intro n1 hs
      rw [if_neg n1, if_pos hs] at fin
      refine b183_77 (s169 Y (y_dc_lt hs)) (by omega) (fun h Y => b183_81 (s170 (k := 40) Y (by decide)) (by omega) (fun h Y => b183_87 (s170 (k := 26) Y (by decide)) (by omega) (fun h Y => b183_93 (again _ (fun h8 => ?_) fin h Y))))
      exact y_to.p1 y_to.rf y_to.rf.nd.nd h8
    refine b183_15 (s168 (k := 20) Y (by decide)) (by omega) ?_
    rintro z h2 ⟨e0, rfl⟩
    subst h2
    refine b183_21 (fun c1 => g42 (by unfold y_wl; rw [b2i_ne.mp c1]; rfl)) (fun c1 => ?_)
    refine b183_24 (s168 (k := 21) Y (by decide)) (by omega) ?_
    rintro z h2 ⟨e0, rfl⟩
    subst h2
    refine b183_30 (fun c2 => g42 (by unfold y_wl; rw [b2i_ne.mp c2, Bool.true_or, Bool.or_true])) (fun c2 => ?_)
    refine b183_33 (s168 (k := 22) Y (by decide)) (by omega) ?_
    rintro z h2 ⟨e0, rfl⟩
    subst h2
    refine b183_39 (fun c3 => ?_) (fun c3 => g42 (by unfold y_wl; rw [b2i_ne.mp c3, Bool.or_true, Bool.or_true]))
    have n1 : ¬ y_wl K s = true := by unfold y_wl; rw [b2i_eq.mp c1, b2i_eq.mp c2, b2i_eq.mp c3]; decide
    clear g42
    refine b183_50 (s168 (k := 15) Y (by decide)) (by omega) ?_
    rintro z h2 ⟨e0, rfl⟩
    subst h2
    refine b183_56 (fun c1 => g77 n1 (by unfold y_dc; rw [b2i_ne.mp c1]; rfl)) (fun c1 => ?_)
    refine b183_59 (s168 (k := 16) Y (by decide)) (by omega) ?_
    rintro z h2 ⟨e0, rfl⟩
    subst h2
    refine b183_65 (fun c2 => g77 n1 (by unfold y_dc; rw [b2i_ne.mp c2, Bool.true_or, Bool.or_true])) (fun c2 => ?_)
    refine b183_68 (s168 (k := 18) Y (by decide)) (by omega) ?_
    rintro z h2 ⟨e0, rfl⟩
    subst h2
    refine b183_74 (fun c3 => ?_) (fun c3 => g77 n1 (by unfold y_dc; rw [b2i_ne.mp c3, Bool.or_true, Bool.or_true]))
    have n2 : ¬ y_dc K s = true := by unfold y_dc; rw [b2i_eq.mp c1, b2i_eq.mp c2, b2i_eq.mp c3]; decide
    clear g77
    rw [if_neg n1, if_neg n2] at fin
    refine b183_96 (s168 (k := 19) Y (by decide)) (by omega) ?_
    rintro z h2 ⟨e0, rfl⟩
    subst h2
    refine b183_102 (fun c4 => ?_) (fun c4 => ?_)
    rotate_left 1
    · rw [if_pos (b2i_ne.mp c4)] at fin
      exact b183_105 (s169 Y (y_is_lt (by decide) (b2i_ne.mp c4))) (by omega) (fun h Y => b183_109 (s170 (k := 26) Y (by decide)) (by omega) (fun h Y => b183_115 (again _ (fun h8 => y_to.p1 y_to.rf y_to.rf.nd h8) fin h Y)))
    rw [b2i_eq.mp c4, if_neg (by decide)] at fin
    refine b183_118 (s168 (k := 17) Y (by decide)) (by omega) ?_
    rintro z h2 ⟨e0, rfl⟩
    subst h2
    refine b183_124 (fun c5 => ?_) (fun c5 => ?_)
    · rw [b2i_eq.mp c5, if_neg (by decide)] at fin
      exact b183_134 (fin _ Y)
    · rw [if_pos (b2i_ne.mp c5)] at fin
      exact b183_127 (s184 Y (y_is_lt (by decide) (b2i_ne.mp c5))) (by omega) (fun h Y => b183_131 (again _ (fun h8 => y_an_1 h8) fin h Y))
theorem s183_all (h0 : q_Hp) : ∀ x d, d + x = 9 → ∀ m, y_R183 K P V e h0 m d (6 + 2 * x) := by
  intro x
  induction x with
  | zero =>
    intro d hd m h s h9 hm Y
    refine q_mV.of (q_recV rfl (Y.1.ok rfl)) (fun Q fin => ?_)
    exact b183_0 (s183_2 (by omega) (Nat.le_refl _) (fun h8 => by omega) m 0 h s hm (fun _ => Nat.zero_le _) (by decide) h9 Y fin)
  | succ x ih =>
    intro d hd m h s h9 hm Y
    refine q_mV.of (q_recV rfl (Y.1.ok rfl)) (fun Q fin => ?_)
    exact b183_0 (s183_2 (by omega) (by omega) (fun h8 => ih (d + 1) (by omega)) m 0 h s hm (fun _ => Nat.zero_le _) (by decide) h9 Y fin)
theorem s182 {np : Nat} (Y : c_y K P V e h0 h s) (hk : s.2 = 0 → K s.1 < 42) (hn : qI h0 8 6 = nI np) (h12 : np ≤ 1300) : q_mV 25 182 [.ref 8] h (fun h' => c_y K P V e (y_nm K V 10 6 10 h0 s) h' (y_pr K np s)) := by
  refine q_mV.of (q_recV rfl (Y.1.ok rfl)) (fun Q fin => ?_)
  refine b182_0 (s169 Y hk) (by decide) ?_
  intro h Y
  refine b182_4 (Y.1.ok rfl) (Y.1.ref (v := 3) rfl) Y.val (by decide) ?_
  rintro z h2 ⟨e0, rfl⟩
  subst h2
  refine y_m182_15 (Y.1.ok rfl) (L := 10) (N := np) (by decide) (by omega) rfl ((Y.2.2.2.2.1 6 (by decide) (by decide)).trans hn) ?_
  refine b182_31 (s172 Y) (by decide) ?_
  intro h Y
  have rest : ∀ h0 h, c_y K P V e h0 h (y_nn K (decide (np < 10)) (y_ps s)) → (∀ h', c_y K P V e h0 h' (y_pr K np s) → Q none h') → q_wp 25 182 63 [some (.ref 8), some (.long (V (y_ps s).1)), none] [] h Q := by
    intro h0 h Y fin
    refine b182_63 (s183_all h0 9 0 rfl 1202 _ _ (fun h9 => absurd h9 (by decide)) (fun _ => by omega) Y) (by decide) ?_
    intro h Y
    exact b182_68 (s170 (k := 5) Y (by decide)) (by decide) (fun h Y => b182_73 (fin _ Y))
  have e5 : qI h 8 6 = nI np := (Y.2.2.2.2.1 6 (by decide) (by decide)).trans hn
  unfold y_nm at fin
  rw [hn, nI_clamp (by omega)] at fin
  refine b182_34 (Y.1.ok rfl) (fun c => ?_) (fun c => ?_)
  · rw [e5] at c
    rw [if_pos ((nI_leI (a := 10) (by decide) (by omega)).mp c)] at fin
    exact rest h0 h Y fin
  · rw [e5] at c
    have n20 := mt (nI_leI (a := 10) (b := np) (by decide) (by omega)).mpr c
    rw [if_neg n20] at fin
    refine b182_43 (v0 := 10) (Y.1.ok rfl) (Y.1.ref rfl) (Y.1.ok rfl) (by rw [e5]; exact Y.1.inN (n := 10) rfl (by omega) (by decide)) (rest _ _ (Y.nam (by decide) (by decide) (by decide)) ?_)
    rw [hn, nI_clamp (by omega)]
    exact fin
end CY
