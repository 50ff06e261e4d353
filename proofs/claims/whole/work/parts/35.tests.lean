/-! TESTS: how two sums are held against each other -/
def m_te (t : Nat) (x y : Int32) : Bool := if t = 0 then x == y else if t = 1 then !(x == y) else if t = 2 then decide (x < y) else decide (x ≤ y)
theorem b102_k {n : Nat} {h : q_Hp} {Q : Option Value → q_Hp → Prop} {k x y : Int32} {p : Nat} (e : q_go (.lookupswitch 68 #[(30, 57), (36, 35), (37, 46)]) 1 [some (.int k), some (.int x), some (.int y)] [.int k] h = some (p, [some (.int k), some (.int x), some (.int y)], [], h)) (w : q_wp n 102 p [some (.int k), some (.int x), some (.int y)] [] h Q) : q_wp n 102 0 [some (.int k), some (.int x), some (.int y)] [] h Q := by
  refine wp_loc rfl rfl ?_
  exact wp_go rfl e w
theorem s102 {h : q_Hp} {x y : Int32} {t : Nat} (ht : t < 4) : q_mI 0 102 [.int (nI (if t = 0 then 36 else if t = 1 then 37 else if t = 2 then 30 else 38)), .int x, .int y] h (fun z h' => h' = h ∧ z = b2i (m_te t x y)) := by
  refine ⟨q_recS rfl, ?_⟩
  rcases (show t = 0 ∨ t = 1 ∨ t = 2 ∨ t = 3 by omega) with rfl | rfl | rfl | rfl
  · refine b102_k (p := 36) rfl (b102_36 (fun c => b102_45 ⟨_, rfl, rfl, ?_⟩) (fun c => b102_41 ⟨_, rfl, rfl, ?_⟩))
    · simp [m_te, c, b2i]
    · simp [m_te, c, b2i]
  · refine b102_k (p := 47) rfl (b102_47 (fun c => b102_56 ⟨_, rfl, rfl, ?_⟩) (fun c => b102_52 ⟨_, rfl, rfl, ?_⟩))
    · simp [m_te, c, b2i]
    · simp [m_te, c, b2i]
  · refine b102_k (p := 58) rfl (b102_58 (fun c => b102_67 ⟨_, rfl, rfl, ?_⟩) (fun c => b102_63 ⟨_, rfl, rfl, ?_⟩))
    · simp [m_te, Int32.not_lt.mpr c, b2i]
    · simp [m_te, Int32.not_le.mp c, b2i]
  · refine b102_k (p := 69) rfl (b102_69 (fun c => b102_78 ⟨_, rfl, rfl, ?_⟩) (fun c => b102_74 ⟨_, rfl, rfl, ?_⟩))
    · simp [m_te, Int32.not_le.mpr c, b2i]
    · simp [m_te, Int32.not_lt.mp c, b2i]
