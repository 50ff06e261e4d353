/-! THE CLASS'S READ, from its start -/
section CR
variable {K P X : Nat → Nat} {V U : Nat → Int64} {e c : Nat} {h : q_Hp}
theorem c_rd.pre {hB h' : q_Hp} {z : Int32} (A : g_X c h hB) (r : qR hB 1 = qR h 1) (R : c_rd K P V e c hB z h') : c_rd K P V e c h z h' := by
  have dk : ∀ {h2 v}, c_dk hB h2 v → c_dk h h2 v := fun D => ⟨D.1, by rw [← r]; exact D.2.1, by rw [← r]; exact D.2.2⟩
  rcases R with ⟨a1, a2, a3, a4, a5, a6, a7⟩ | ⟨a1, a2, hg, a3, R⟩
  · exact Or.inl ⟨a1, a2, a3, a4, a5, A.trans a6, dk a7⟩
  · refine Or.inr ⟨a1, a2, hg, a3, ?_⟩
    rcases R with ⟨n, i, b1, b2, b3, b4, b5, b6, b7⟩ | ⟨b1, b2, h4, b3, b4, b5, b6⟩
    · exact Or.inl ⟨n, i, b1, b2, b3, b4, b5, A.trans b6, dk b7⟩
    · exact Or.inr ⟨b1, b2, h4, A.trans b3, dk b4, b5, b6⟩
theorem s213_15 {Q : Option Value → q_Hp → Prop} {h1 : q_Hp} (T : zTk K P X V U e) (O : y_OK K e) (S : q_Sh h1) (C : y_C h1 K P V e) (B : q_isB c) (r6 : qR h1 1 6 = c) (fin : ∀ z h', c_rd K P V e c h1 z h' → Q (some (.int z)) h') : q_wp 30 213 15 [some (.ref 1), none] [] h1 Q := by
  have hc : c = 11 ∨ c = 300 := B
  have S1 : q_Sh (q_sI h1 1 1 0) := S
  have E1 : q_Ef [1] h1 (q_sI h1 1 1 0) := q_Ef.sI (by decide)
  have C1 := C.ef E1 (by decide) (by decide) (by decide) (by decide)
  have d1 : qI (q_sI h1 1 1 0) 1 1 = 0 := q_sI_e
  have R1 : qR (q_sI h1 1 1 0) 1 = qR h1 1 := by rw [qR_sI]
  refine b213_15 (n := 29) (v0 := 8) (S.ok rfl) (S.ref rfl) (s161 S1 C1 O) (by decide) ?_
  generalize q_sI h1 1 1 0 = ha at *
  rintro z h2 ⟨ez, h0, Y, E0, N⟩
  have S2 := Y.1
  refine b213_27 (n := 29) (v0 := 8) (S2.ok rfl) (S2.ref rfl) (s162 Y) (by decide) ?_
  rintro z2 h3 ⟨e0, e2⟩
  subst e0
  have E2 : q_Ef [8] h0 h3 := Y.2.2.2.1
  have f2 : (y_al K).2.2 ≤ 2 := Y.2.2.2.2.2.2.2.2
  have le : (y_al K).2.1 ≤ e := Y.2.2.2.2.2.2.2.1
  have i1 : qI h3 1 = qI ha 1 := by rw [E2.I (show 1 ∉ [8] by decide), E0.I (show 1 ∉ [8, 9, 10] by decide)]
  have r1 : qR h3 1 = qR h1 1 := by rw [E2.R (show 1 ∉ [8] by decide), E0.R (show 1 ∉ [8, 9, 10] by decide), R1]
  have X3 : g_X c h1 h3 := ((E1.X (by decide)).trans (E0.X (by decide))).trans (E2.X (by decide))
  have X4 : ∀ v, g_X c h1 (q_sI h3 1 2 v) := fun v => X3.trans (q_Ef.X (S := [1]) (q_Ef.sI (by decide)) (by decide))
  refine b213_36 (S2.ok rfl) (fun c1 => ?_) (fun c1 => ?_)
  · have nz : ¬ (y_al K).2.2 = 0 := fun h9 => c1 (by rw [ez, h9]; rfl)
    rw [e2, if_neg nz]
    refine b213_66 (fun _ => b213_74 (fin _ _ (Or.inl ⟨nz, f2, le, ez, S2, X4 _, c_dk.mk (h1 := h3) ?_ q_sI_e (by rw [qR_sI]; exact r1)⟩))) (fun c2 => absurd c2 c1)
    rw [q_sI_n (by decide), i1]
    exact d1
  · have hz : (y_al K).2.2 = 0 := by
      rw [ez] at c1
      exact (nI_eq (b := 0) (by omega) (by decide)).mp c1
    have N := N hz
    rw [e2, if_pos hz, c1]
    obtain ⟨n0, n1, n2, n3, n4, n5, n6, n7, n8, n9, n10⟩ := N
    have S4 : q_Sh (q_sI h3 1 2 (-1)) := S2
    have C4 : y_C (q_sI h3 1 2 (-1)) K P V e := Y.2.1.ef (q_Ef.sI (S := [1]) (by decide)) (by decide) (by decide) (by decide) (by decide)
    have l9 : qL (q_sI h3 1 2 (-1)) 9 = qL h0 9 := by rw [qL_sI, E2.L (show 9 ∉ [8] by decide)]
    have l10 : qL (q_sI h3 1 2 (-1)) 10 = qL h0 10 := by rw [qL_sI, E2.L (show 10 ∉ [8] by decide)]
    have F := Y.2.2.2.2.1
    refine s213_43 T S4 C4 B (by rw [qR_sI, r1]; exact r6) hz le ⟨?_, ?_, n7, n8, n9, n10⟩ ⟨?_, n9, ?_, n10⟩ ?_ (fun z h' R => fin z h' (R.pre (X4 _) (by rw [qR_sI]; exact r1)))
    · rw [l9]; exact n5
    · rw [l10]; exact n6
    · rw [q_sI_n (by decide), F 5 (by decide) (by decide)]; exact n3
    · rw [q_sI_n (by decide), F 6 (by decide) (by decide)]; exact n4
    · rw [q_sI_n (by decide), i1]; exact d1
theorem s213 {n : Nat} (S : q_Sh h) (hW : ∀ i, i < 25 → qL h 4 i = t_W i) (hn : n ≤ 4000) (h11 : qI h 1 1 = nI n) (B : q_isB c) (r6 : qR h 1 6 = c) : q_mI 30 213 [.ref 1] h (fun z h' => c_rd (t_tk (t_by (qA h 2)) n) (zP (t_by (qA h 2)) n) (t_va (t_by (qA h 2)) n) (t_e (t_by (qA h 2)) n) c h z h') := by
  refine q_mI.of (q_recV rfl (S.ok rfl)) (fun Q fin => ?_)
  have hc := s187 S hW hn
  rw [← h11] at hc
  refine b213_0 (n := 29) (v0 := 3) (v1 := 2) (S.ok rfl) (S.ref rfl) (S.ref rfl) hc (by decide) ?_
  rintro h1 ⟨E1, C1⟩
  have r1 : qR h1 1 = qR h 1 := E1.R (show 1 ∉ [3, 5, 6, 7] by decide)
  exact s213_15 (z_tk hn) t_OK (E1.sh S) C1.zP B (by rw [r1]; exact r6) (fun z h' R => fin z h' (R.pre (E1.X (by decide)) r1))
end CR
