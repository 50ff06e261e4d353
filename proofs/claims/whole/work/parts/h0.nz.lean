/-! A RUN THAT MAKES NO CELL MAKES NO SLOT -/
def q_nz (h h' : q_Hp) : Prop := qN h < qN h' ∨ (qN h' = qN h ∧ qZ h' = qZ h)
theorem q_nz.rf {h : q_Hp} : q_nz h h := Or.inr ⟨rfl, rfl⟩
theorem q_nz.trans {h h1 h2 : q_Hp} (a : q_nz h h1) (b : q_nz h1 h2) : q_nz h h2 := by
  rcases a with a | ⟨a1, a2⟩
  · rcases b with b | ⟨b1, _⟩
    · exact Or.inl (by omega)
    · exact Or.inl (by omega)
  · rcases b with b | ⟨b1, b2⟩
    · exact Or.inl (by omega)
    · exact Or.inr ⟨b1.trans a1, b2.trans a2⟩
theorem q_hea_nz {own : Nat} {ini : Bool} {d : Nat} {ins : Instr} {st st' : List Value} {h h' : q_Hp} {n : Nat} (e0 : q_hea own ini d ins st h = some (n, st', h')) : q_nz h h' := by
  have z : ∀ x : q_Hp, qN x = qN h → qZ x = qZ h → q_nz h x := fun x e1 e2 => Or.inr ⟨e1, e2⟩
  have zn : ∀ cd len : Nat, q_nz h (q_al h cd len) := fun cd len => Or.inl (Nat.lt_succ_self _)
  cases ins
  case getfield =>
    simp only [q_hea] at e0
    (repeat' split at e0) <;> first | (cases e0; done) | (cases e0; exact z _ rfl rfl) | (cases e0; exact zn _ _)
  case putfield =>
    simp only [q_hea] at e0
    (repeat' split at e0) <;> first | (cases e0; done) | (cases e0; exact z _ rfl rfl) | (cases e0; exact zn _ _)
  case iaload =>
    simp only [q_hea] at e0
    (repeat' split at e0) <;> first | (cases e0; done) | (cases e0; exact z _ rfl rfl) | (cases e0; exact zn _ _)
  case baload =>
    simp only [q_hea] at e0
    (repeat' split at e0) <;> first | (cases e0; done) | (cases e0; exact z _ rfl rfl) | (cases e0; exact zn _ _)
  case laload =>
    simp only [q_hea] at e0
    (repeat' split at e0) <;> first | (cases e0; done) | (cases e0; exact z _ rfl rfl) | (cases e0; exact zn _ _)
  case aaload =>
    simp only [q_hea] at e0
    (repeat' split at e0) <;> first | (cases e0; done) | (cases e0; exact z _ rfl rfl) | (cases e0; exact zn _ _)
  case iastore =>
    simp only [q_hea] at e0
    (repeat' split at e0) <;> first | (cases e0; done) | (cases e0; exact z _ rfl rfl) | (cases e0; exact zn _ _)
  case bastore =>
    simp only [q_hea] at e0
    (repeat' split at e0) <;> first | (cases e0; done) | (cases e0; exact z _ rfl rfl) | (cases e0; exact zn _ _)
  case lastore =>
    simp only [q_hea] at e0
    (repeat' split at e0) <;> first | (cases e0; done) | (cases e0; exact z _ rfl rfl) | (cases e0; exact zn _ _)
  case aastore =>
    simp only [q_hea] at e0
    (repeat' split at e0) <;> first | (cases e0; done) | (cases e0; exact z _ rfl rfl) | (cases e0; exact zn _ _)
  case arraylength =>
    simp only [q_hea] at e0
    (repeat' split at e0) <;> first | (cases e0; done) | (cases e0; exact z _ rfl rfl) | (cases e0; exact zn _ _)
  case new =>
    simp only [q_hea] at e0
    (repeat' split at e0) <;> first | (cases e0; done) | (cases e0; exact z _ rfl rfl) | (cases e0; exact zn _ _)
  case newarray =>
    simp only [q_hea] at e0
    (repeat' split at e0) <;> first | (cases e0; done) | (cases e0; exact z _ rfl rfl) | (cases e0; exact zn _ _)
  case anewarray =>
    simp only [q_hea] at e0
    (repeat' split at e0) <;> first | (cases e0; done) | (cases e0; exact z _ rfl rfl) | (cases e0; exact zn _ _)
  case invokespecial =>
    simp only [q_hea] at e0
    (repeat' split at e0) <;> first | (cases e0; done) | (cases e0; exact z _ rfl rfl) | (cases e0; exact zn _ _)
  case invokestatic =>
    simp only [q_hea] at e0
    (repeat' split at e0) <;> first | (cases e0; done) | (cases e0; exact z _ rfl rfl) | (cases e0; exact zn _ _)
  all_goals cases e0
theorem q_stp_nz {own : Nat} {ini : Bool} {d : Nat} {ins : Instr} {pc pc' : Nat} {L L' : q_Lc} {st st' : List Value} {h h' : q_Hp} (e0 : q_stp own ini d ins pc L st h = some (pc', L', st', h')) : q_nz h h' := by
  unfold q_stp at e0
  split at e0
  next => cases e0; exact q_nz.rf
  next =>
    split at e0
    next => cases e0; exact q_nz.rf
    next =>
      split at e0
      next hg => cases e0; obtain ⟨rfl, _⟩ := q_go_h hg; exact q_nz.rf
      next =>
        split at e0
        next hh => cases e0; exact q_hea_nz hh
        next => cases e0
theorem q_run_nz : ∀ (f d k pc : Nat) (L : q_Lc) (st : List Value) (h : q_Hp) (r : Option Value) (h' : q_Hp), q_run f d k pc L st h = some (r, h') → q_nz h h' := by
  intro f
  induction f with
  | zero => intro d k pc L st h r h' e; cases e
  | succ f ih =>
    intro d k pc L st h r h' e
    unfold q_run at e
    split at e
    next => cases e
    next ins hfe =>
      split at e
      next => cases e; exact q_nz.rf
      next =>
        split at e
        next k' hcal =>
          split at e
          next => cases e
          next d' =>
            split at e
            next =>
              split at e
              next r1 h1 hin =>
                have h2 := ih _ _ _ _ _ _ _ _ e
                have h3 : q_nz h h1 := by
                  split at hin
                  next => exact ih _ _ _ _ _ _ _ _ hin
                  next =>
                    split at hin
                    next => rw [q_bi_h hin]; exact q_nz.rf
                    next => cases hin
                exact h3.trans h2
              next => cases e
            next => cases e
        next =>
          split at e
          next hs =>
            have h2 := ih _ _ _ _ _ _ _ _ e
            have h3 := q_stp_nz hs
            exact h3.trans h2
          next => cases e
