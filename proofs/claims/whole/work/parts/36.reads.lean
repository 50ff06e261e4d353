/-! THE MATCHER: small readings -/
theorem s110 {h : q_Hp} {x : Int32} (S : q_Sh h) : q_mI 1 110 [.ref 601, .int x] h (fun z h' => h' = h ∧ z = c_at (qA h 602) 4 x) := by
  refine ⟨q_recV rfl (S.ok rfl), b110_0 (S.ok rfl) (S.ref (v := 602) rfl) (s232 (S.ok rfl) (S.len (n := 4) rfl) (by decide)) (by decide) ?_⟩
  rintro z h1 ⟨e0, rfl⟩
  subst h1
  exact b110_8 ⟨_, rfl, rfl, rfl⟩
theorem s111 {h : q_Hp} {x : Int32} (S : q_Sh h) : q_mI 1 111 [.ref 601, .int x] h (fun z h' => h' = h ∧ z = c_at (qA h 603) 6 x) := by
  refine ⟨q_recV rfl (S.ok rfl), b111_0 (S.ok rfl) (S.ref (v := 603) rfl) (s232 (S.ok rfl) (S.len (n := 6) rfl) (by decide)) (by decide) ?_⟩
  rintro z h1 ⟨e0, rfl⟩
  subst h1
  exact b111_8 ⟨_, rfl, rfl, rfl⟩
theorem s109 {h : q_Hp} {o : Nat} (S : q_Sh h) (e : qR h 601 2 = o) : q_mR 0 109 [.ref 601] h (fun z h' => h' = h ∧ z = o) := ⟨q_recV rfl (S.ok rfl), b109_0 (S.ok rfl) e ⟨_, rfl, rfl, rfl⟩⟩
theorem s128 {h : q_Hp} {t k : Nat} : q_mI 0 128 [.int (nI t), .int (nI k)] h (fun z h' => h' = h ∧ z = nI (2 * t + k)) := by
  refine ⟨q_recS rfl, b128_0 ⟨_, rfl, rfl, ?_⟩⟩
  rw [show (2 : Int32) * nI t = nI (2 * t) from pk_mul 2 t, nI_add]
theorem s129 {h : q_Hp} {d : Nat} : q_mI 0 129 [.int (nI d)] h (fun z h' => h' = h ∧ z = nI (8 + d)) := by
  refine ⟨q_recS rfl, b129_0 ⟨_, rfl, rfl, ?_⟩⟩
  exact nI_add 8 d
theorem s130 {h : q_Hp} {n : Nat} : q_mI 0 130 [.int (nI n)] h (fun z h' => h' = h ∧ z = nI (6 + 3 * n)) := by
  refine ⟨q_recS rfl, b130_0 ⟨_, rfl, rfl, ?_⟩⟩
  rw [show nI n * 3 = nI (n * 3) from pk_mul n 3, show (6 : Int32) + nI (n * 3) = nI (6 + n * 3) from nI_add 6 _, Nat.mul_comm]
