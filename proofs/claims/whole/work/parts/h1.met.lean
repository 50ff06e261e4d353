/-! WHAT THE SMALL MACHINE'S RUNS SAY OF THE METHODS -/
theorem q_rec_ok {k : Nat} {av : List Value} {h : q_Hp} (hr : q_rec k av h = true) : (q_slots av).length ≤ q_ml k ∧ av.length = q_na k ∧ av.all q_okv = true := by
  unfold q_rec at hr
  simp only [Bool.and_eq_true, decide_eq_true_eq] at hr
  exact ⟨hr.1.1.2, hr.1.2, hr.2⟩
section ME
variable {l : Launch} {D : va_G} {B : Nat} {aS aV : Nat → Nat} {tc : Nat → ClassId}
theorem q_metI {n k : Nat} {av : List Value} {h : q_Hp} {P : Int32 → q_Hp → Prop} (w : q_mI n k av h P) : ∃ z h', P z h' ∧ q_Ct2 l D B aS aV tc n k av h (some (.int z)) h' ∧ q_nz h h' ∧ qN h ≤ qN h' ∧ qZ h ≤ qZ h' := by
  obtain ⟨hr, f, r, h', e, z, rfl, p⟩ := w
  obtain ⟨h1, h2, h3⟩ := q_rec_ok hr
  exact ⟨z, h', p, q_simA2 (q_sim2 q_BI f) e h1 h3, q_run_nz _ _ _ _ _ _ _ _ _ e, q_mono _ _ _ _ _ _ _ _ _ e⟩
theorem q_metV {n k : Nat} {av : List Value} {h : q_Hp} {P : q_Hp → Prop} (w : q_mV n k av h P) : ∃ h', P h' ∧ q_Ct2 l D B aS aV tc n k av h none h' ∧ q_nz h h' ∧ qN h ≤ qN h' ∧ qZ h ≤ qZ h' := by
  obtain ⟨hr, f, r, h', e, rfl, p⟩ := w
  obtain ⟨h1, h2, h3⟩ := q_rec_ok hr
  exact ⟨h', p, q_simA2 (q_sim2 q_BI f) e h1 h3, q_run_nz _ _ _ _ _ _ _ _ _ e, q_mono _ _ _ _ _ _ _ _ _ e⟩
end ME
