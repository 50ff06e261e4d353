/-! READ -/
theorem r_read {u : Nat} : r_I t_W t_K 213 260 [] u u := by
  rintro h R
  obtain ⟨b, B, a, l, t, s, Q⟩ := R
  have Q' := Q
  obtain ⟨S, q1, ⟨n, hn, t1, t2, t3⟩, q3, q4, hb, q5, w, q6, q7, q8, q9, q10, q11⟩ := Q'
  have hb' : b = 11 ∨ b = 300 := hb
  obtain ⟨c, hc⟩ : ∃ c, c = 311 - b := ⟨_, rfl⟩
  have hcB : q_isB c := by
    show c = 11 ∨ c = 300
    omega
  have hc2 : c = 11 ∨ c = 300 := hcB
  refine (s213 (c := c) S q1.1 hn t1 hcB (by rw [q5.2, hc])).mono (by decide) ?_
  have T := z_tk (b := t_by (qA h 2)) hn
  have O := t_OK (b := t_by (qA h 2)) (n := n)
  intro z h1 Rd
  have pre : ∀ {S1 : q_Sh h1} {A : g_X c h h1 ∨ ∃ h4, g_X c h h4 ∧ c_in h4 h1} {Q : Option Value → q_Hp → Prop}, (∀ k3 x, q_Sh k3 → p_C k3 (t_tk (t_by (qA h 2)) n) (zP (t_by (qA h 2)) n) (zXn (t_by (qA h 2)) n) (zU (t_by (qA h 2)) n) (t_e (t_by (qA h 2)) n) → n_s0 k3 → n_f1 h1 k3 → q_wp 7 260 104 [some (.ref 630), some (.int x)] [] k3 Q) → q_wp 7 260 0 [some (.ref 630), none] [] h1 Q := by
    intro S1 A Q cont
    have e : ∀ y, y = 630 ∨ y = 631 ∨ y = 637 → qI h1 y = qI h y ∧ qR h1 y = qR h y ∧ qA h1 y = qA h y ∧ qL h1 y = qL h y := fun y hy => by
      rcases A with A | ⟨h4, A, I⟩
      · exact A y (by omega) (by omega) (by omega) (by omega) (by omega)
      · obtain ⟨a1, a2, a3, a4⟩ := A y (by omega) (by omega) (by omega) (by omega) (by omega)
        have m : y ∉ [1, 598, 599, 601, 614, 621] := by
          simp only [List.mem_cons, List.not_mem_nil, or_false]
          omega
        exact ⟨(I.2.1.I m).trans a1, (I.2.1.R m).trans a2, (I.2.1.A m).trans a3, (I.2.1.L m).trans a4⟩
    refine s260_pre S1 (by rw [(e 637 (by omega)).2.2.2]; exact q1.2) (by rw [(e 630 (by omega)).1]; exact t2) hn (fun i hi => ?_) cont
    rw [(e 631 (by omega)).2.2.1]
    unfold t_by
    rw [t3 i hi]
  generalize t_tk (t_by (qA h 2)) n = K at *
  generalize zP (t_by (qA h 2)) n = P at *
  generalize zXn (t_by (qA h 2)) n = X at *
  generalize zU (t_by (qA h 2)) n = U at *
  generalize t_va (t_by (qA h 2)) n = V at *
  generalize t_e (t_by (qA h 2)) n = e at *
  rcases Rd with ⟨nz, f2, le, ez, S1, A, D⟩ | ⟨hz, le, hg, nm, Rd⟩
  · refine q_mI.of (q_recV rfl (S1.ok rfl)) (fun Q1 fin => q_wp.le (n := 7) (by decide) (pre (S1 := S1) (A := Or.inl A) (fun k3 x S3 C3 N3 F1 => s260_F S3 C3 O N3 nz (fun k' S' F2 h17 => fin _ _ ⟨ez.symm, b, B, a, l, t, s, r_rdF Q hc A D S' F1 F2 h17⟩))))
  · rcases Rd with ⟨m, i, ⟨m1, m2, m3⟩, m4, m5, m6, S1, A, D⟩ | ⟨g0, ez, h4, A, D, cB, I⟩
    · refine q_mI.of (q_recV rfl (S1.ok rfl)) (fun Q1 fin => q_wp.le (n := 7) (by decide) (pre (S1 := S1) (A := Or.inl A) (fun k3 x S3 C3 N3 F1 => s260_S (hg := hg) T hc2 S3 C3 O N3 hz le nm (fun n' i' k' ⟨n1, n2, n3⟩ n4 n5 S' F2 h17 => ?_) (fun g0 => ?_))))
      · have e12 := O.2.2
        obtain rfl : m = n' := (nI_eq (by omega) (by omega)).mp (m4.symm.trans n4)
        obtain rfl : i = i' := (nI_eq (by omega) (by omega)).mp (m5.symm.trans n5)
        exact fin _ _ ⟨m6.symm, b, B, a, l, t, s, r_rdF Q hc A D S' F1 F2 h17⟩
      · rw [m4] at g0
        exact absurd ((nI_eq (b := 0) (by omega) (by decide)).mp g0) m1
    · have S1 := I.1
      refine q_mI.of (q_recV rfl (S1.ok rfl)) (fun Q1 fin => q_wp.le (n := 7) (by decide) (pre (S1 := S1) (A := Or.inr ⟨h4, A, I⟩) (fun k3 x S3 C3 N3 F1 => s260_S (hg := hg) T hc2 S3 C3 O N3 hz le nm (fun n' i' k' ⟨n1, n2, n3⟩ n4 n5 S' F2 h17 => ?_) (fun _ k5 k6 k' F2 h17 tk ⟨B', rB, mB, wB⟩ mt => ?_))))
      · rw [g0] at n4
        exact absurd ((nI_eq (b := 0) (by omega) (by decide)).mp n4.symm) n1
      · exact fin _ _ ⟨ez.symm, c, B', 0, 0, t, s, r_rdS Q hc A D cB I F1 F2 h17 tk rB mB wB mt⟩
