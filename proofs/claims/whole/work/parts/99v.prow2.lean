/-! THE PARSE OF THE REFERENCE: rows of dos -/
def p_rs (K : Nat → Nat) (rec : y_S → q_Hp → q_Hp) (yr : y_S → y_S) (d : Nat) (s : y_S) (k : q_Hp) : q_Hp := if K s.1 = 22 then p_w3 d (rec (y_nd K 24 (yr (y_nd K 23 (yr (y_ps s))))) (p_w2 (d + 1) (rec (y_nd K 23 (yr (y_ps s))) (p_w2 (d + 1) (rec (y_ps s) k))))) else p_w3 d (rec (y_w1 K s) k)
def p_ro (K P X : Nat → Nat) : Nat → Nat → y_S → q_Hp → q_Hp
  | 0, _, _, k => k
  | m + 1, d, s, k => if y_wl K s = true then p_ro K P X m d (y_rs K (y_ro K m (d + 1)) (y_rm (decide (d < 8)) s)) (p_rs K (p_ro K P X m (d + 1)) (y_ro K m (d + 1)) d s (p_w1 K P X d s k)) else if y_dc K s = true then p_ro K P X m d (y_nd K 26 (y_nd K 40 (y_ps s))) (p_dc K s k) else if y_is K 19 s = true then p_ro K P X m d (y_nd K 26 (y_ps s)) (p_fa k) else if y_is K 17 s = true then p_ro K P X m d (y_an K s) (p_an K s k) else k
section PO
variable {K P X : Nat → Nat} {U : Nat → Int64} {e : Nat} {k0 k : q_Hp} {s : y_S}
/-- the token that the frame waits for comes, or a fault -/
theorem s287_need {np d D C b c : Nat} {w : Int32} (Y : p_y K P X U e k0 k s) (hs : s.2 = 0) (hK : ¬ (15 ≤ K s.1 ∧ K s.1 ≤ 22)) (H : p_PS np D C (d + 1) k0) (T : p_tp k0 (d + 1) w b) (hc : (¬ w = 7 ∧ c = 5) ∨ (w = 7 ∧ b = 0 ∧ c = 23) ∨ (w = 7 ∧ b = 1 ∧ c = 24) ∨ (w = 7 ∧ b = 2 ∧ c = 5)) : q_mI 4 287 [.ref 630] k (fun z k' => ∃ k1, p_y K P X U e k1 k' (y_nd K c s) ∧ p_fr k0 k1 ∧ ((y_nd K c s).2 = 0 → z = 1 ∧ k1 = if c = 5 then p_w3 d k0 else p_w2 (d + 1) k0)) := by
  have no : ¬ K s.1 = c → y_nd K c s = y_fl 1 s ∧ ¬ (y_nd K c s).2 = 0 := by
    intro h
    have e1 : y_nd K c s = y_fl 1 s := by
      unfold y_nd
      rw [if_neg (fun h9 => h (y_is_c.mp h9).2)]
    refine ⟨e1, ?_⟩
    rw [e1]
    unfold y_fl
    rw [if_pos hs]
    exact (show ¬ (1 : Nat) = 0 by decide)
  have yes : K s.1 = c → y_nd K c s = y_ps s := by
    intro h
    unfold y_nd
    rw [if_pos (y_is_c.mpr ⟨hs, h⟩)]
  by_cases h5 : K s.1 = 5
  · have sp := s287_en (b := b) (w := w) Y hs h5 H.1 H.2.2.1 (fun _ => T)
    refine ⟨sp.1, q_wp.mono sp.2 ?_⟩
    rintro r k' ⟨z, hz, a1, a2, a3⟩
    refine ⟨z, hz, ?_⟩
    by_cases hw : w = 7 ∧ b < 2
    · obtain ⟨e1, Y'⟩ := a3 (by omega) hw.1 hw.2
      have hc5 : ¬ K s.1 = c := by
        rcases hc with h | h | h | h
        · exact absurd hw.1 h.1
        · omega
        · omega
        · omega
      obtain ⟨n1, n2⟩ := no hc5
      exact ⟨k0, by rw [n1]; exact Y', p_fr.rf, fun h9 => absurd h9 n2⟩
    · obtain ⟨e1, Y'⟩ := a2 (by omega) (fun h9 => by
        rcases Nat.lt_or_ge b 2 with h8 | h8
        · exact absurd ⟨h9, h8⟩ hw
        · exact h8)
      have hc5 : c = 5 := by
        rcases hc with h | h | h | h
        · exact h.2
        · exact absurd ⟨h.1, by omega⟩ hw
        · exact absurd ⟨h.1, by omega⟩ hw
        · exact h.2.2
      rw [yes (h5.trans hc5.symm), if_pos hc5]
      exact ⟨_, Y', (p_fr.rf.sI rfl).sI rfl, fun _ => ⟨e1, rfl⟩⟩
  · by_cases h2 : K s.1 = 23 ∨ K s.1 = 24
    · have sp := s287_te (b := b) (w := w) (c := K s.1) Y hs h2 rfl H.1 (fun _ => T)
      refine ⟨sp.1, q_wp.mono sp.2 ?_⟩
      rintro r k' ⟨z, hz, a1, a2⟩
      refine ⟨z, hz, ?_⟩
      by_cases hw : 0 < d + 1 ∧ w = 7 ∧ b + 23 = K s.1
      · obtain ⟨e1, Y'⟩ := a1 hw
        have hcc : c = K s.1 := by
          rcases hc with h | h | h | h
          · exact absurd hw.2.1 h.1
          · omega
          · omega
          · omega
        rw [yes hcc.symm, if_neg (by omega)]
        exact ⟨_, Y', (p_fr.rf.sA rfl (Nat.zero_le _)).sA rfl (Nat.zero_le _), fun _ => ⟨e1, rfl⟩⟩
      · obtain ⟨e1, Y'⟩ := a2 hw
        have hcc : ¬ K s.1 = c := by
          intro h9
          rcases hc with h | h | h | h
          · omega
          · exact hw ⟨by omega, h.1, by omega⟩
          · exact hw ⟨by omega, h.1, by omega⟩
          · omega
        obtain ⟨n1, n2⟩ := no hcc
        exact ⟨k0, by rw [n1]; exact Y', p_fr.rf, fun h9 => absurd h9 n2⟩
    · have sp := s287_no Y hs ⟨h5, by omega⟩
      refine ⟨sp.1, q_wp.mono sp.2 ?_⟩
      rintro r k' ⟨z, hz, e1, Y'⟩
      refine ⟨z, hz, ?_⟩
      have hcc : ¬ K s.1 = c := by
        rcases hc with h | h | h | h <;> omega
      obtain ⟨n1, n2⟩ := no hcc
      exact ⟨k0, by rw [n1]; exact Y', p_fr.rf, fun h9 => absurd h9 n2⟩
theorem s286_st {Q : Option Value → q_Hp → Prop} {x1 x2 : Int32} {R : Int32 → q_Hp → Prop} (Y : p_y K P X U e k0 k s) (hs : s.2 = 0) (h2 : x2 = 1) (sp : q_mI 4 287 [.ref 630] k R) (w : ∀ z k', R z k' → q_wp 5 286 76 [some (.ref 630), some (.int x1), some (.int z)] [] k' Q) : q_wp 5 286 76 [some (.ref 630), some (.int x1), some (.int x2)] [] k Q := by
  subst h2
  refine b286_76 (fun c => absurd c (by decide)) (fun _ => b286_80 (Y.sh.ok rfl) (fun c => absurd (Y.z.mpr hs) c) (fun _ => b286_87 sp (by decide) ?_))
  intro z k' hR
  exact b286_91 (w z k' hR)
/-- a row without a fault ends ahead of no do -/
def p_nx (K : Nat → Nat) (s : y_S) : Prop := ¬ (15 ≤ K s.1 ∧ K s.1 ≤ 22)
/-- what a row at a depth has done -/
def p_RO (K P X : Nat → Nat) (np d D : Nat) (k0 : q_Hp) (s' : y_S) (r k1 : q_Hp) : Prop := k1 = r ∧ ∃ D' C', p_PS np D' C' d k1 ∧ D ≤ D' ∧ D' ≤ 1300 + s'.1 ∧ C' ≤ s'.1 ∧ p_Kp d D k0 k1 ∧ qA k1 687 d = qA k0 687 d ∧ p_nx K s'
theorem p_sk.w3 {np d : Nat} {a : Nat} {k1 : q_Hp} (H : p_sk k0 np d) (h1 : qI k1 630 21 = nI np) (h2 : qA k1 688 d = nI a) (ha : 1300 ≤ a) (ha2 : a < 2600) (h3 : qA k1 686 d = qA k0 686 d) (h4 : qA k1 687 d = qA k0 687 d) : p_sk (p_w3 d k1) np d := by
  refine ⟨?_, H.2.1, ?_, H.2.2.2.1, Or.inr ⟨a, ha, ha2, h2⟩, fun h9 => ?_⟩
  · unfold p_w3
    rw [q_sI_n (by omega), q_sI_e]
  · unfold p_w3
    rw [q_sI_n (by omega), q_sI_n (by omega)]
    exact h1
  · obtain ⟨x, y, a1, a2, a3, a4, a5⟩ := H.2.2.2.2.2 h9
    exact ⟨x, y, a1, a2, a3, h3.trans a4, h4.trans a5⟩
/-- behind a row that is closed -/
theorem p_PS.w3 {np D C D1 C1 D2 d a : Nat} {k1 : q_Hp} (H : p_PS np D C d k0) (H1 : p_PS np D1 C1 (d + 1) k1) (hD : D ≤ D1) (h2 : qA k1 688 d = nI a) (ha : 1300 ≤ a) (ha2 : a < 2600) (hK : p_Kp d D2 k0 k1) (hDD : D ≤ D2) (h4 : qA k1 687 d = qA k0 687 d) : p_PS np D1 C1 d (p_w3 d k1) ∧ p_Kp d D k0 (p_w3 d k1) ∧ qA (p_w3 d k1) 687 d = qA k0 687 d := by
  obtain ⟨q1, q2, q3, q4⟩ := H
  obtain ⟨r1, r2, r3, r4⟩ := H1
  refine ⟨⟨q1.w3 r1.2.2.1 h2 ha ha2 (hK.1 d (Nat.le_refl d)) h4, ⟨?_, ?_⟩, ?_, r4⟩, ⟨hK.1, hK.2.1, fun j hj => hK.2.2.1 j (by omega), hK.2.2.2.w3⟩, h4⟩
  · unfold p_w3
    rw [q_sI_n (by omega), q_sI_n (by omega)]
    exact r2.1
  · unfold p_w3
    rw [q_sI_n (by omega), q_sI_n (by omega)]
    exact r2.2
  · unfold p_w3
    rw [q_sI_e]
theorem p_tp.c {d D : Nat} {b : Nat} {w : Int32} {k1 : q_Hp} (T : p_tp k0 d w b) (hK : p_Kp d D k0 k1) (hD : ∀ a, qA k0 686 d = nI a → a < 2600 → a < D) (h : qA k1 687 d = qA k0 687 d) : p_tp k1 d w b := by
  obtain ⟨a, ha, ha2, t1, t2, t3, t4⟩ := T
  exact ⟨a, ha, ha2, (hK.1 d (Nat.le_refl d)).trans t1, (hK.2.2.1 a (hD a t1 ha2)).trans t2, h.trans t3, t4⟩
end PO
