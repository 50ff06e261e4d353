/-! THE REWRITER: what is worked out, whether there is room -/
theorem s108 {h : q_Hp} (S : q_Sh h) (e : qI h 601 11 = 0 ∨ qI h 601 11 = 1) : q_mI 0 108 [.ref 601] h (fun z h' => h' = h ∧ z = qI h 601 11) := q_mI.of (q_recV rfl (S.ok rfl)) (fun Q fin => b108_0 (S.ok rfl) e (fin _ _ ⟨rfl, rfl⟩))
theorem m_A.of {S : List Nat} {h h' : q_Hp} {b o : Nat} {B : q_Bk} {V : Nat → Nat → Nat} {k : Nat → Int32} (a : m_A h b o B V k) (e : q_Ef S h h') (hS : S.all (fun x => decide (x = 599) || decide (x = 600) || decide (x = 601) || decide (x = 602) || decide (x = 603) || decide (607 ≤ x)) = true) (r : qR h' 601 = qR h 601) : m_A h' b o B V k := by
  obtain ⟨⟨S0, hb, ho, f1, f2⟩, w, wr, cB, cR, D, t1, t2, t3⟩ := a
  have hbb : b = 11 ∨ b = 300 := hb
  have hol := ho.le
  have n0 : ∀ x, x ≤ 606 → ¬ (x = 599 ∨ x = 600 ∨ x = 601 ∨ x = 602 ∨ x = 603) → x ∉ S := by
    intro x h1 h2 h3
    have := List.all_eq_true.mp hS x h3
    simp only [Bool.or_eq_true, decide_eq_true_eq] at this
    omega
  have n1 : ∀ x, x ≤ 598 → x ∉ S := fun x hx => n0 x (by omega) (by omega)
  refine ⟨⟨e.sh S0, hb, ho, by rw [r]; exact f1, by rw [r]; exact f2⟩, w, wr, cB.fr hb w (fun a h1 h2 => e.A (n1 _ (by omega))) (fun a h1 h2 => e.I (n1 _ (by omega))), cR.fr (fun a h1 h2 => e.A (n1 _ (by omega))) (e.I (n1 _ (by omega))), ?_, ?_, ?_, ?_⟩
  · rw [e.A (n1 598 (by decide))]; exact D
  · rw [e.A (n1 598 (by decide)), e.A (n0 604 (by decide) (by decide))]; exact t1
  · rw [e.A (n1 598 (by decide)), e.A (n0 605 (by decide) (by decide))]; exact t2
  · rw [e.A (n1 598 (by decide)), e.A (n0 606 (by decide) (by decide))]; exact t3
/-- what a set tells -/
def m_vl (B : q_Bk) (f : Nat → Int32) (im : Nat → Nat) (V : Nat → Nat → Nat) (d : Nat) : Int32 := match m_sv B f im V (8 + d) with
  | some (x :: _) => x
  | _ => 0
def m_wk (B : q_Bk) (f : Nat → Int32) (im : Nat → Nat) (V : Nat → Nat → Nat) : Prop := ∀ d, d < V 0 4 → V 13 d = 4 → ∃ x, m_sv B f im V (8 + d) = some [x]
theorem m_vl_y {B : q_Bk} {f : Nat → Int32} {im : Nat → Nat} {V : Nat → Nat → Nat} {d : Nat} {x : Int32} (h : m_sv B f im V (8 + d) = some [x]) : m_vl B f im V d = x := by
  unfold m_vl
  rw [h]
/-- frame of the working out -/
def m_fv (h h' : q_Hp) : Prop := q_Ef [601, 607, 611] h h' ∧ qR h' 601 = qR h 601 ∧ ∀ j, ¬ (j = 5 ∨ j = 11) → qI h' 601 j = qI h 601 j
theorem m_fv.rf {h : q_Hp} : m_fv h h := ⟨q_Ef.rf, rfl, fun _ _ => rfl⟩
theorem m_fv.trans {h h1 h2 : q_Hp} (a : m_fv h h1) (b : m_fv h1 h2) : m_fv h h2 := ⟨a.1.trans b.1, b.2.1.trans a.2.1, fun j hj => (b.2.2 j hj).trans (a.2.2 j hj)⟩
theorem s106v {h : q_Hp} {b o : Nat} {B : q_Bk} {V : Nat → Nat → Nat} {k : Nat → Int32} {im : Nat → Nat} {s : Nat} (A : m_A h b o B V k) (hn : m_nd h (V 0 0) im) (hs : s < 16) (e1 : qA h (o + 12) s = nI (V 11 s)) (e2 : qA h (o + 13) s = nI (V 12 s)) (sm : q_sm B V s) : q_mI 1 106 [.ref 601, .int (nI s)] h (fun z h' => m_fv h h' ∧ qA h' 611 = qA h 611 ∧ ((qI h' 601 11 = 0 ∧ m_sv B (qA h 598) im V s = some [z]) ∨ (qI h' 601 11 = 1 ∧ m_sv B (qA h 598) im V s = none ∧ z = 0))) := by
  have cB := A.2.2.2.1
  have w := A.2.1
  refine (s106 (B := B) (V := V) (K := fun i => bC B i 0) (A := fun i => bC B i 1) (im := im) A.1 (cB.1 4 (by decide)) w.2.2.2.2.1 (fun i hi => ?_) hs e1 e2 sm.1 sm.2.1 A.2.2.1.1 hn (fun _ => rfl) (fun _ => rfl) rfl sm.2.2).mono (Nat.le_refl _) ?_
  · have c1 := cB.2.2.2.2.1 i hi
    have c2 := w.2.2.2.2.2.2.2.2.1 i hi
    exact ⟨c1.1, c1.2, c2.1, c2.2⟩
  · rintro z h' ⟨g, v, rfl, h1⟩
    refine ⟨⟨(q_Ef.wA (by decide)).trans (q_Ef.sI (by decide)), rfl, fun j hj => qI_sI_nj (by omega)⟩, rfl, ?_⟩
    rcases h1 with ⟨h2, h3⟩ | ⟨h2, h3, h4⟩
    · exact Or.inl ⟨h2, h3⟩
    · exact Or.inr ⟨h2, h3, h4⟩
theorem s122 {h : q_Hp} {b o : Nat} {B : q_Bk} {V : Nat → Nat → Nat} {k : Nat → Int32} {im : Nat → Nat} (A : m_A h b o B V k) (hn : m_nd h (V 0 0) im) : q_mI 2 122 [.ref 610, .ref o] h (fun z h' => m_fv h h' ∧ ((z = 1 ∧ m_wk B (qA h 598) im V ∧ ∀ d, d < V 0 4 → V 13 d = 4 → qA h' 611 d = m_vl B (qA h 598) im V d) ∨ (z = 0 ∧ ¬ m_wk B (qA h 598) im V))) := by
  have S := A.1.1
  have ho := A.1.2.2.1
  have hol := ho.le
  have wr := A.2.2.1
  have h8 : V 0 4 ≤ 8 := wr.2.2.2.2.1
  refine q_mI.of (q_recV rfl (S.ok rfl)) (fun Q fin => ?_)
  have loop : ∀ m d h1, d + m = V 0 4 → m_fv h h1 → (∀ e, e < d → V 13 e = 4 → ∃ x, m_sv B (qA h 598) im V (8 + e) = some [x] ∧ qA h1 611 e = x) → q_wp 2 122 2 [some (.ref 610), some (.ref o), some (.int (nI d))] [] h1 Q := by
    intro m
    induction m with
    | zero =>
      intro d h1 hd e g
      obtain rfl : d = V 0 4 := by omega
      have A1 := A.of e.1 rfl e.2.1
      have S1 := A1.1.1
      refine b122_2 (S1.oo ho) (fun _ => b122_62 (fin _ _ ⟨e, Or.inl ⟨rfl, fun d h1 h2 => ?_, fun d h1 h2 => ?_⟩⟩)) (fun h9 => absurd (by rw [A1.2.2.2.2.1.1 4 (by decide)]; exact Int32.le_refl _) h9)
      · obtain ⟨x, h3, _⟩ := g d h1 h2
        exact ⟨x, h3⟩
      · obtain ⟨x, h3, h4⟩ := g d h1 h2
        rw [m_vl_y h3, h4]
    | succ m ih =>
      intro d h1 hd e g
      have A1 := A.of e.1 rfl e.2.1
      have S1 := A1.1.1
      have C1 := A1.2.2.2.2.1
      have eI : qI h1 o 4 = nI (V 0 4) := C1.1 4 (by decide)
      have c1 := C1.2.2.2.2.2.2.1 d (by omega)
      have wd := wr.2.2.2.2.2.2.2.2.2.2 d (by omega)
      have f1 : qA h1 598 = qA h 598 := e.1.A (by decide)
      have n1 : m_nd h1 (V 0 0) im := hn.fs (e.1.A (by decide))
      have r13 : qA h1 (o + 1 + 7) (nI d).toNatClampNeg = nI (if V 13 d = 0 then 11 else if V 13 d = 1 then 7 else if V 13 d = 2 then 12 else if V 13 d = 3 then 13 else 14) := by rw [nI_clamp (by omega)]; exact c1.1
      refine b122_2 (S1.oo ho) (fun h9 => absurd ((nI_leI (by omega) (by omega)).mp (eI ▸ h9)) (by omega)) (fun _ => b122_10 (fun h9 => absurd ((nI_gec (k := 8) (by omega) (by decide) rfl).mp h9) (by omega)) (fun _ => b122_16 (S1.oo ho) (S1.orr ho 7 (by decide)) (S1.oa ho 7 (by decide)).1 (S1.oi ho 7 (by decide) (show d < 8 by omega)) (fun c2 => b122_56 ?_) (fun c2 => ?_)))
      · have k4 : ¬ V 13 d = 4 := by
          intro h9
          rw [r13, h9] at c2
          exact absurd rfl c2
        rw [nI_1]
        refine ih (d + 1) h1 (by omega) e (fun y hy h9 => ?_)
        by_cases h7 : y = d
        · rw [h7] at h9; exact absurd h9 k4
        · exact g y (by omega) h9
      · have k4 : V 13 d = 4 := by
          rw [r13] at c2
          rcases (show V 13 d = 0 ∨ V 13 d = 1 ∨ V 13 d = 2 ∨ V 13 d = 3 ∨ V 13 d = 4 by omega) with h9 | h9 | h9 | h9 | h9
          · rw [h9] at c2; exact absurd c2 (by decide)
          · rw [h9] at c2; exact absurd c2 (by decide)
          · rw [h9] at c2; exact absurd c2 (by decide)
          · rw [h9] at c2; exact absurd c2 (by decide)
          · exact h9
        have cs := c1.2.2.2.2 k4
        have sm := (wd.2.2.2.2.2 k4).2.2
        refine b122_27 (S1.ok rfl) (S1.ref (v := 611) rfl) (S1.ref (v := 601) rfl) s129 (by decide) ?_
        rintro z h3 ⟨e0, rfl⟩
        subst h3
        refine b122_40 (s106v A1 n1 (by omega) cs.1 cs.2 sm) (by decide) ?_
        rintro z h3 ⟨e3, e611, hz⟩
        rw [f1] at hz
        have S3 := e3.1.sh S1
        have S4 : q_Sh (q_sA h3 611 (nI d).toNatClampNeg z) := S3
        have e4 : m_fv h (q_sA h3 611 (nI d).toNatClampNeg z) := (e.trans e3).trans ⟨q_Ef.sA (by decide), rfl, fun _ _ => rfl⟩
        have e11 : qI (q_sA h3 611 (nI d).toNatClampNeg z) 601 11 = 0 ∨ qI (q_sA h3 611 (nI d).toNatClampNeg z) 601 11 = 1 := by
          rcases hz with h9 | h9
          · exact Or.inl h9.1
          · exact Or.inr h9.1
        refine b122_43 (S3.ok rfl) (S3.inN (n := 8) rfl (by omega) (by decide)) (S3.ok rfl) (S3.ref (v := 601) rfl) (s108 S4 e11) (by decide) ?_
        rintro y h5 ⟨e0, rfl⟩
        subst h5
        refine b122_51 (fun c3 => b122_56 ?_) (fun c3 => b122_54 (fin _ _ ⟨e4, Or.inr ⟨rfl, fun h9 => ?_⟩⟩))
        · have hx : m_sv B (qA h 598) im V (8 + d) = some [z] := by
            rcases hz with h9 | h9
            · exact h9.2
            · exact absurd (h9.1.symm.trans c3) (by decide)
          rw [nI_1]
          refine ih (d + 1) _ (by omega) e4 (fun y hy h9 => ?_)
          rw [nI_clamp (by omega), qA_sAu]
          by_cases h7 : y = d
          · rw [h7, upd_eq]
            exact ⟨z, hx, rfl⟩
          · rw [upd_ne h7, e611]
            exact g y (by omega) h9
        · obtain ⟨x, hx⟩ := h9 d (by omega) k4
          rcases hz with h9 | h9
          · exact absurd h9.1 c3
          · rw [h9.2.1] at hx
            cases hx
  exact b122_0 (loop (V 0 4) 0 h (by omega) m_fv.rf (fun e he => absurd he (Nat.not_lt_zero _)))
/-! differences -/
theorem sv_int {a b : Nat} (ha : a < 2 ^ 20) (hb : b < 2 ^ 20) : (nI a - nI b).toInt = (a : Int) - (b : Int) := by
  rw [Int32.toInt_sub, nI_toInt (by omega), nI_toInt (by omega)]
  exact Int.bmod_eq_of_le (by omega) (by omega)
theorem sv_lt {a b c : Nat} (ha : a < 2 ^ 20) (hb : b < 2 ^ 20) (hc : c < 2 ^ 20) : nI c < nI a - nI b ↔ c + b < a := by
  rw [Int32.lt_iff_toInt_lt, sv_int ha hb, nI_toInt (by omega)]
  omega
theorem sv_le {a b c : Nat} (ha : a < 2 ^ 20) (hb : b < 2 ^ 20) (hc : c < 2 ^ 20) : nI a - nI b ≤ nI c ↔ a ≤ c + b := by
  rw [Int32.le_iff_toInt_le, sv_int ha hb, nI_toInt (by omega)]
  omega
theorem sv_dec (a b : Nat) : nI a - nI b + (-1) = nI a - nI (b + 1) := by
  rw [← nI_add b 1, show nI 1 = 1 from rfl, Int32.sub_eq_add_neg, Int32.sub_eq_add_neg, Int32.neg_add, Int32.sub_eq_add_neg, Int32.add_assoc]
theorem sv_inc (a b : Nat) : nI a - nI b + 1 = nI (a + 1) - nI b := by
  rw [← nI_add a 1, show nI 1 = 1 from rfl, Int32.sub_eq_add_neg, Int32.sub_eq_add_neg, Int32.add_assoc, Int32.add_comm (-nI b) 1, ← Int32.add_assoc]
theorem sv_0 (a : Nat) : nI a = nI a - nI 0 := by rw [show nI 0 = 0 from rfl, Int32.sub_zero]
theorem m_cn_le {V : Nat → Nat → Nat} {k d : Nat} : m_cn V k d ≤ d := q_cnt_le _ _
theorem s123 {h : q_Hp} {o : Nat} {V : Nat → Nat → Nat} (S : q_Sh h) (ho : q_isO o) (C : r_cR h o V) (h8 : V 0 4 ≤ 8) (hk : ∀ d, d < V 0 4 → V 13 d < 5) : q_mI 1 123 [.ref 610, .ref o] h (fun z h' => h' = h ∧ z = b2i (m_dc (m_rm (qA h 598) V))) := by
  have n12 : d_nodes (qA h 598) ≤ 12 := q_cnt_le _ _
  have n40 : d_links (qA h 598) ≤ 40 := q_cnt_le _ _
  have eI : qI h o 4 = nI (V 0 4) := C.1 4 (by decide)
  refine q_mI.of (q_recV rfl (S.ok rfl)) (fun Q fin => ?_)
  refine b123_0 (S.ok rfl) (S.ref (v := 597) rfl) (s72 S.dg) (by decide) ?_
  rintro z h3 ⟨e0, rfl⟩
  subst h3
  refine b123_7 (S.ok rfl) (S.ref (v := 597) rfl) (s73 S.dg) (by decide) ?_
  rintro z h3 ⟨e0, rfl⟩
  subst h3
  have loop : ∀ m d, d + m = V 0 4 → (∀ e, e < d → d_nodes (qA h 598) + m_cn V 2 (e + 1) ≤ 12 + m_cn V 0 (e + 1) ∧ d_links (qA h 598) + m_cn V 3 (e + 1) ≤ 40 + m_cn V 1 (e + 1)) → q_wp 1 123 19 [some (.ref 610), some (.ref o), some (.int (nI (d_nodes (qA h 598) + m_cn V 2 d) - nI (m_cn V 0 d))), some (.int (nI (d_links (qA h 598) + m_cn V 3 d) - nI (m_cn V 1 d))), some (.int (nI d))] [] h Q := by
    intro m
    induction m with
    | zero =>
      intro d hd g
      obtain rfl : d = V 0 4 := by omega
      refine b123_19 (S.oo ho) (fun _ => b123_128 (fin _ _ ⟨rfl, ?_⟩)) (fun h9 => absurd (by rw [eI]; exact Int32.le_refl _) h9)
      rw [m_dc_t.mpr (show m_rm (qA h 598) V from g)]
      rfl
    | succ m ih =>
      intro d hd g
      have c1 := (C.2.2.2.2.2.2.1 d (by omega)).1
      have l0 := m_cn_le (V := V) (k := 0) (d := d + 1)
      have l1 := m_cn_le (V := V) (k := 1) (d := d + 1)
      have l2 := m_cn_le (V := V) (k := 2) (d := d + 1)
      have l3 := m_cn_le (V := V) (k := 3) (d := d + 1)
      have j108 : q_wp 1 123 108 [some (.ref 610), some (.ref o), some (.int (nI (d_nodes (qA h 598) + m_cn V 2 (d + 1)) - nI (m_cn V 0 (d + 1)))), some (.int (nI (d_links (qA h 598) + m_cn V 3 (d + 1)) - nI (m_cn V 1 (d + 1)))), some (.int (nI d))] [] h Q := by
        have bad : (12 + m_cn V 0 (d + 1) < d_nodes (qA h 598) + m_cn V 2 (d + 1) ∨ 40 + m_cn V 1 (d + 1) < d_links (qA h 598) + m_cn V 3 (d + 1)) → Q (some (.int 0)) h := by
          intro h9
          refine fin _ _ ⟨rfl, ?_⟩
          rw [m_dc_f.mpr]
          · rfl
          · intro h7
            have := h7 d (by omega)
            omega
        refine b123_108 (fun c2 => b123_120 (bad (Or.inl ((sv_lt (c := 12) (by omega) (by omega) (by decide)).mp c2)))) (fun c2 => b123_114 (fun c3 => b123_122 ?_) (fun c3 => b123_120 (bad (Or.inr ?_))))
        · rw [nI_1]
          refine ih (d + 1) (by omega) (fun e he => ?_)
          by_cases h9 : e = d
          · rw [h9]
            have a1 := mt (sv_lt (c := 12) (a := d_nodes (qA h 598) + m_cn V 2 (d + 1)) (b := m_cn V 0 (d + 1)) (by omega) (by omega) (by decide)).mpr c2
            have a2 := (sv_le (c := 40) (by omega) (by omega) (by decide)).mp c3
            omega
          · exact g e (by omega)
        · have := mt (sv_le (c := 40) (a := d_links (qA h 598) + m_cn V 3 (d + 1)) (b := m_cn V 1 (d + 1)) (by omega) (by omega) (by decide)).mpr c3
          omega
      refine b123_19 (S.oo ho) (fun h9 => absurd ((nI_leI (by omega) (by omega)).mp (eI ▸ h9)) (by omega)) (fun _ => b123_28 (fun h9 => absurd ((nI_gec (k := 8) (by omega) (by decide) rfl).mp h9) (by omega)) (fun _ => ?_))
      have i7 := S.oi ho 7 (by decide) (show d < 8 by omega)
      rcases (show V 13 d = 0 ∨ V 13 d = 1 ∨ V 13 d = 2 ∨ V 13 d = 3 ∨ V 13 d = 4 by have := hk d (by omega); omega) with k9 | k9 | k9 | k9 | k9
      · have e13 : qA h (o + 1 + 7) (nI d).toNatClampNeg = 11 := by rw [nI_clamp (by omega), show qA h (o + 1 + 7) d = _ from c1, k9]; rfl
        rw [m_cn_y (k := 0) k9, m_cn_n (k := 1) (show ¬ V 13 d = 1 by omega), m_cn_n (k := 2) (show ¬ V 13 d = 2 by omega), m_cn_n (k := 3) (show ¬ V 13 d = 3 by omega)] at j108
        exact b123_35 (S.oo ho) (S.orr ho 7 (by decide)) (S.oa ho 7 (by decide)).1 i7 (fun c => absurd (e13 ▸ c) (by decide)) (fun c => absurd (e13 ▸ c) (by decide)) (fun c => absurd (e13 ▸ c) (by decide)) (fun c => absurd (e13 ▸ c) (by decide)) (fun c => b123_84 (by rw [sv_dec]; exact j108)) (fun c => absurd (e13 ▸ c) (by decide)) (fun c => absurd (e13 ▸ c) (by decide)) (fun c => absurd (e13 ▸ c) (by decide))
      · have e13 : qA h (o + 1 + 7) (nI d).toNatClampNeg = 7 := by rw [nI_clamp (by omega), show qA h (o + 1 + 7) d = _ from c1, k9]; rfl
        rw [m_cn_n (k := 0) (show ¬ V 13 d = 0 by omega), m_cn_y (k := 1) k9, m_cn_n (k := 2) (show ¬ V 13 d = 2 by omega), m_cn_n (k := 3) (show ¬ V 13 d = 3 by omega)] at j108
        exact b123_35 (S.oo ho) (S.orr ho 7 (by decide)) (S.oa ho 7 (by decide)).1 i7 (fun c => b123_90 (by rw [sv_dec]; exact j108)) (fun c => absurd (e13 ▸ c) (by decide)) (fun c => absurd (e13 ▸ c) (by decide)) (fun c => absurd (e13 ▸ c) (by decide)) (fun c => absurd (e13 ▸ c) (by decide)) (fun c => absurd (e13 ▸ c) (by decide)) (fun c => absurd (e13 ▸ c) (by decide)) (fun c => absurd (e13 ▸ c) (by decide))
      · have e13 : qA h (o + 1 + 7) (nI d).toNatClampNeg = 12 := by rw [nI_clamp (by omega), show qA h (o + 1 + 7) d = _ from c1, k9]; rfl
        rw [m_cn_n (k := 0) (show ¬ V 13 d = 0 by omega), m_cn_n (k := 1) (show ¬ V 13 d = 1 by omega), m_cn_y (k := 2) k9, m_cn_n (k := 3) (show ¬ V 13 d = 3 by omega)] at j108
        rw [← Nat.add_assoc] at j108
        exact b123_35 (S.oo ho) (S.orr ho 7 (by decide)) (S.oa ho 7 (by decide)).1 i7 (fun c => absurd (e13 ▸ c) (by decide)) (fun c => absurd (e13 ▸ c) (by decide)) (fun c => absurd (e13 ▸ c) (by decide)) (fun c => absurd (e13 ▸ c) (by decide)) (fun c => absurd (e13 ▸ c) (by decide)) (fun c => b123_96 (by rw [sv_inc]; exact j108)) (fun c => absurd (e13 ▸ c) (by decide)) (fun c => absurd (e13 ▸ c) (by decide))
      · have e13 : qA h (o + 1 + 7) (nI d).toNatClampNeg = 13 := by rw [nI_clamp (by omega), show qA h (o + 1 + 7) d = _ from c1, k9]; rfl
        rw [m_cn_n (k := 0) (show ¬ V 13 d = 0 by omega), m_cn_n (k := 1) (show ¬ V 13 d = 1 by omega), m_cn_n (k := 2) (show ¬ V 13 d = 2 by omega), m_cn_y (k := 3) k9] at j108
        rw [← Nat.add_assoc] at j108
        exact b123_35 (S.oo ho) (S.orr ho 7 (by decide)) (S.oa ho 7 (by decide)).1 i7 (fun c => absurd (e13 ▸ c) (by decide)) (fun c => absurd (e13 ▸ c) (by decide)) (fun c => absurd (e13 ▸ c) (by decide)) (fun c => absurd (e13 ▸ c) (by decide)) (fun c => absurd (e13 ▸ c) (by decide)) (fun c => absurd (e13 ▸ c) (by decide)) (fun c => b123_102 (by rw [sv_inc]; exact j108)) (fun c => absurd (e13 ▸ c) (by decide))
      · have e13 : qA h (o + 1 + 7) (nI d).toNatClampNeg = 14 := by rw [nI_clamp (by omega), show qA h (o + 1 + 7) d = _ from c1, k9]; rfl
        rw [m_cn_n (k := 0) (show ¬ V 13 d = 0 by omega), m_cn_n (k := 1) (show ¬ V 13 d = 1 by omega), m_cn_n (k := 2) (show ¬ V 13 d = 2 by omega), m_cn_n (k := 3) (show ¬ V 13 d = 3 by omega)] at j108
        exact b123_35 (S.oo ho) (S.orr ho 7 (by decide)) (S.oa ho 7 (by decide)).1 i7 (fun c => absurd (e13 ▸ c) (by decide)) (fun c => absurd (e13 ▸ c) (by decide)) (fun c => absurd (e13 ▸ c) (by decide)) (fun c => absurd (e13 ▸ c) (by decide)) (fun c => absurd (e13 ▸ c) (by decide)) (fun c => absurd (e13 ▸ c) (by decide)) (fun c => absurd (e13 ▸ c) (by decide)) (fun _ => j108)
  have l0 := loop (V 0 4) 0 (by omega) (fun e he => absurd he (Nat.not_lt_zero _))
  have z0 : ∀ k, m_cn V k 0 = 0 := fun _ => rfl
  rw [z0, z0, z0, z0, Nat.add_zero, Nat.add_zero, ← sv_0, ← sv_0] at l0
  exact b123_15 l0
