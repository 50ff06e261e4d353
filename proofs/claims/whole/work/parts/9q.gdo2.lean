/-! THE BUILDER OF THE CLASS: a do -/
theorem y_an_p {K : Nat → Nat} {s : y_S} (hz : (y_an K s).2 = 0) : (y_co K 1201 (s.1 + 2, 0)).2 = 0 ∧ y_an K s = ((y_co K 1201 (s.1 + 2, 0)).1 + 1, 0) := by
  have h1 := y_nd_z hz
  have h2 := (y_to.co (K := K) 1201 _ _ (y_to.rf (s := y_nd K 40 (y_ps s)))).2.1 h1
  obtain ⟨p1, p2⟩ := y_pn_2 h2
  unfold y_an at hz ⊢
  rw [p1] at h1 hz ⊢
  exact ⟨h1, (y_nd_0 hz).2⟩
section GB
variable {K Pl : Nat → Nat} {V : Nat → Int64} {e c a : Nat} {h0 h : q_Hp}
theorem s56 {rF pF D : Nat} (Y : g_y K Pl V e c h0 h (a + 1)) (S : g_SN rF pF h0) (hD : qI h0 c 5 = nI (D + 1)) (hDa : D ≤ a) (hz : (y_co K 1201 (a + 2, 0)).2 = 0) (he : (y_co K 1201 (a + 2, 0)).1 ≤ e) : q_mI 2 56 [.ref 589] h (fun z h' => z = nI (D + 1) ∧ g_y K Pl V e c (g_av K V c rF 1201 (D + 1) (a + 2, 0) (g_ad V c rF (D + 1) (a + 1) h0)) h' (y_co K 1201 (a + 2, 0)).1 ∧ ∃ D', qI (g_av K V c rF 1201 (D + 1) (a + 2, 0) (g_ad V c rF (D + 1) (a + 1) h0)) c 5 = nI D' ∧ D' ≤ (y_co K 1201 (a + 2, 0)).1) := by
  refine q_mI.of (q_recV rfl Y.ok) (fun Q fin => ?_)
  have hc := Y.c2
  have e12 := Y.e12
  have t1 : a + 2 ≤ (y_co K 1201 (a + 2, 0)).1 := (y_to.co (K := K) 1201 _ _ (y_to.rf (s := (a + 2, 0)))).1
  refine b56_0 (v0 := c) Y.ok Y.bk (s19 (D := D + 1) Y hD (by omega)) (by decide) ?_
  rintro z h3 ⟨rfl, Y3⟩
  have K3 : g_Kd c h0 (g_do c (D + 1) 15 h0) := g_Kd.rf.dd
  refine b56_9 (v0 := c) Y3.ok Y3.bk (s58 (rF := rF) (pF := pF) Y3 (by omega) (K3.SN hc S)) (by decide) ?_
  rintro z h4 ⟨rfl, Y4⟩
  have et : g_tr V rF (a + 1) (g_do c (D + 1) 15 h0) = g_tr V rF (a + 1) h0 := rfl
  rw [et] at Y4 ⊢
  have d4 : qI (g_fw (a + 1) (g_tr V rF (a + 1) h0) (g_do c (D + 1) 15 h0)) c 5 = nI (D + 1 + 1) := by
    rw [g_fw_I (by omega)]
    exact g_do_5
  refine b56_20 (s21 (D := D + 1 + 1) (j := D + 1) (k := 1) Y4 d4 (by omega) (by omega) (by decide) rfl rfl) (by decide) (fun h5 Y5 => b56_23 ?_)
  have Y5 : g_y K Pl V e c (g_ad V c rF (D + 1) (a + 1) h0) h5 (a + 2) := Y5
  rw [show (0 : Int32) = nI 0 from rfl]
  exact s56_27 1201 (a + 2, 0) (D + 1) _ _ 0 _ rfl (by show 1201 ≤ 1201 + (a + 2); omega) (by omega) (g_Kd.rf.ad.SN hc S) d4 (by show D + 1 + 1 ≤ a + 2; omega) Y5 hz he (fun h' Y' H' => fin _ _ ⟨rfl, Y', H'⟩)
/-- where a do begins -/
theorem s55_13 {D n : Nat} {x1 : Int32} {Q : Option Value → q_Hp → Prop} (Y : g_y K Pl V e c h0 h a) (hD : qI h0 c 5 = nI D) (hDa : D ≤ a) (ha : a + 1 ≤ e) (w : ∀ h', g_y K Pl V e c (g_do c D (nI (K a)) h0) h' (a + 1) → (K a = 15 ∨ K a = 16 → q_wp (n + 3) 55 36 [some (.ref 589), some (.int x1), some (.int (nI (K a))), some (.int (nI D))] [] h' Q) ∧ (¬ (K a = 15 ∨ K a = 16) → q_wp (n + 3) 55 52 [some (.ref 589), some (.int x1), some (.int (nI (K a))), some (.int (nI D))] [] h' Q)) : q_wp (n + 3) 55 0 [some (.ref 589), some (.int x1), none, none] [] h Q := by
  have e12 := Y.e12
  have k43 := (Y.C.2.2 a Y.le).2.1
  refine b55_0 (n := n + 2) (s25 Y) (by omega) ?_
  rintro z h2 ⟨e0, rfl⟩
  subst h2
  refine b55_4 (v0 := c) Y.ok Y.bk (s19 (D := D) Y hD (by omega)) (by omega) ?_
  rintro z h3 ⟨rfl, Y3⟩
  obtain ⟨w1, w2⟩ := w _ (Y3.n1 ha)
  refine b55_13 Y3.ok (fun c1 => w1 (Or.inl ((nI_eq (b := 15) (by omega) (by decide)).mp c1))) (fun c1 => b55_30 (fun c2 => w2 ?_) (fun c2 => w1 (Or.inr ((nI_eq (b := 16) (by omega) (by decide)).mp c2))))
  rintro (h9 | h9)
  · exact c1 (by rw [h9]; rfl)
  · exact c2 (by rw [h9]; rfl)
theorem s55_c {rF pF D n : Nat} {x1 : Int32} (Y : g_y K Pl V e c h0 h a) (S : g_SN rF pF h0) (hD : qI h0 c 5 = nI D) (hDa : D ≤ a) (hK : K a = 15 ∨ K a = 16 ∨ K a = 18) (ha : a + 3 ≤ e) : q_mI (n + 3) 55 [.ref 589, .int x1] h (fun z h' => z = nI D ∧ g_y K Pl V e c (g_dc K V c rF pF D a h0) h' (a + 3)) := by
  refine q_mI.of (q_recV rfl Y.ok) (fun Q fin => ?_)
  have hc := Y.c2
  have e12 := Y.e12
  have k43 := (Y.C.2.2 a Y.le).2.1
  refine s55_13 Y hD hDa (by omega) (fun h3 Y3 => ⟨fun hk => ?_, fun hk => ?_⟩)
  all_goals have S3 := (g_Kd.rf.dd (h := h0) (c := c) (D := D) (y := nI (K a))).SN hc S
  all_goals have d5 : qI (g_do c D (nI (K a)) h0) c 5 = nI (D + 1) := g_do_5
  · refine b55_36 (n := n + 2) (v0 := c) Y3.ok Y3.bk (s58 Y3 (by omega) S3) (by omega) ?_
    rintro z h4 ⟨rfl, Y4⟩
    have et : g_tr V rF (a + 1) (g_do c D (nI (K a)) h0) = g_tr V rF (a + 1) h0 := rfl
    rw [et] at Y4 ⊢
    refine b55_46 (s21 (D := D + 1) (j := D) (k := 1) Y4 (by rw [g_fw_I (by omega)]; exact d5) (by omega) (by omega) (by decide) rfl rfl) (by omega) (fun h5 Y5 => b55_49 (b55_201 Y5.ok (fin _ _ ⟨rfl, ?_⟩)))
    unfold g_dc
    rw [if_neg (by omega)]
    exact Y5.n1 (by omega)
  · have k18 : K a = 18 := by omega
    refine b55_52 (fun c1 => absurd (by rw [k18]; rfl) c1) (fun _ => b55_58 (n := n + 2) (v0 := c) Y3.ok Y3.bk (s59 Y3 (by omega) S3) (by omega) ?_)
    rintro z h4 ⟨rfl, Y4⟩
    have et : g_tp V pF (a + 1) (g_do c D (nI (K a)) h0) = g_tp V pF (a + 1) h0 := rfl
    rw [et] at Y4 ⊢
    refine b55_68 (s21 (D := D + 1) (j := D) (k := 1) Y4 (by rw [g_fw_I (by omega)]; exact d5) (by omega) (by omega) (by decide) rfl rfl) (by omega) (fun h5 Y5 => b55_71 (b55_201 Y5.ok (fin _ _ ⟨rfl, ?_⟩)))
    unfold g_dc
    rw [if_pos k18]
    exact Y5.n1 (by omega)
theorem s55_f {D n : Nat} {x1 : Int32} (Y : g_y K Pl V e c h0 h a) (hD : qI h0 c 5 = nI D) (hDa : D ≤ a) (hK : K a = 19) (ha : a + 2 ≤ e) : q_mI (n + 3) 55 [.ref 589, .int x1] h (fun z h' => z = nI D ∧ g_y K Pl V e c (g_do c D 19 h0) h' (a + 2)) := by
  refine q_mI.of (q_recV rfl Y.ok) (fun Q fin => ?_)
  refine s55_13 Y hD hDa (by omega) (fun h3 Y3 => ⟨fun hk => by omega, fun hk => ?_⟩)
  rw [hK] at Y3 ⊢
  have Y3 : g_y K Pl V e c (g_do c D 19 h0) h3 (a + 1) := Y3
  refine b55_52 (fun _ => b55_74 (fun _ => b55_96 (fun _ => b55_201 Y3.ok (fin _ _ ⟨rfl, Y3.n1 (by omega)⟩)) (fun c1 => absurd rfl c1)) (fun c1 => absurd c1 (by decide))) (fun c1 => absurd c1 (by decide))
theorem s55_a {rF pF D n : Nat} {x1 : Int32} (Y : g_y K Pl V e c h0 h a) (S : g_SN rF pF h0) (hD : qI h0 c 5 = nI D) (hDa : D ≤ a) (hK : K a = 17) (hz : (y_co K 1201 (a + 2, 0)).2 = 0) (he : (y_co K 1201 (a + 2, 0)).1 + 1 ≤ e) : q_mI (n + 3) 55 [.ref 589, .int x1] h (fun z h' => z = nI D ∧ g_y K Pl V e c (g_an K V c rF D a h0) h' ((y_co K 1201 (a + 2, 0)).1 + 1) ∧ ∃ D', qI (g_an K V c rF D a h0) c 5 = nI D' ∧ D < D' ∧ D' ≤ (y_co K 1201 (a + 2, 0)).1) := by
  refine q_mI.of (q_recV rfl Y.ok) (fun Q fin => ?_)
  have hc := Y.c2
  have e12 := Y.e12
  have t1 : a + 2 ≤ (y_co K 1201 (a + 2, 0)).1 := (y_to.co (K := K) 1201 _ _ (y_to.rf (s := (a + 2, 0)))).1
  refine s55_13 Y hD hDa (by omega) (fun h3 Y3 => ⟨fun hk => by omega, fun hk => ?_⟩)
  rw [hK] at Y3 ⊢
  have Y3 : g_y K Pl V e c (g_do c D 17 h0) h3 (a + 1) := Y3
  have S3 := (g_Kd.rf.dd (h := h0) (c := c) (D := D) (y := 17)).SN hc S
  have d5 : qI (g_do c D 17 h0) c 5 = nI (D + 1) := g_do_5
  refine b55_52 (fun _ => b55_74 (fun c1 => absurd rfl c1) (fun _ => b55_80 (n := n + 2) (v0 := c) Y3.ok Y3.bk (s56 Y3 S3 d5 hDa hz (by omega)) (by omega) ?_)) (fun c1 => absurd c1 (by decide))
  rintro z h4 ⟨rfl, Y4, D', q1, q2⟩
  have hDD : D < D' := by
    have mono : ∀ m i s h1, i + 1 + m < 2 ^ 30 → qI h1 c 5 = nI (i + 1) → ∃ x, i + 1 ≤ x ∧ x ≤ i + 1 + m ∧ qI (g_av K V c rF m i s h1) c 5 = nI x := by
      intro m
      induction m with
      | zero => intro i s h1 _ hi; exact ⟨i + 1, Nat.le_refl _, Nat.le_refl _, hi⟩
      | succ m ih =>
        intro i s h1 hb hi
        unfold g_av
        split
        · have d2 : qI (g_pt c i 2 (nI (i + 1)) (g_ad V c rF (i + 1) (s.1 + 1) h1)) c 5 = nI (i + 1 + 1) := by
            rw [g_pt_I]
            unfold g_ad
            rw [g_pt_I, g_fw_I (by omega)]
            exact g_do_5
          obtain ⟨x, x1, x2, x3⟩ := ih (i + 1) (y_nd K 40 (y_ps s)) _ (by omega) d2
          exact ⟨x, by omega, by omega, x3⟩
        · exact ⟨i + 1, Nat.le_refl _, by omega, hi⟩
    have d2 : qI (g_ad V c rF (D + 1) (a + 1) (g_do c D 17 h0)) c 5 = nI (D + 1 + 1) := by
      unfold g_ad
      rw [g_pt_I, g_fw_I (by omega)]
      exact g_do_5
    obtain ⟨x, x1, x2, x3⟩ := mono 1201 (D + 1) (a + 2, 0) _ (by omega) d2
    have := (nI_eq (a := x) (b := D') (by omega) (by omega)).mp (x3.symm.trans q1)
    omega
  refine b55_90 (s21 (D := D') (j := D) (k := 3) Y4 q1 (by omega) hDD (by decide) rfl rfl) (by omega) (fun h5 Y5 => b55_93 (b55_201 Y5.ok (fin _ _ ⟨rfl, ?_, D', q1, hDD, q2⟩)))
  exact Y5.n1 he
end GB
