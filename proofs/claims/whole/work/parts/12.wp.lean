/-! RUNS OF THE SMALL MACHINE: more fuel and more depth do no harm; what is to be shown of a point of a method, instruction by instruction -/
theorem q_hea_d {own : Nat} {ini : Bool} {d d' : Nat} {ins : Instr} {st : List Value} {h : q_Hp} {r : Nat × List Value × q_Hp} (hd : d ≤ d') (e : q_hea own ini d ins st h = some r) : q_hea own ini d' ins st h = some r := by
  cases ins
  case invokespecial i =>
    simp only [q_hea] at e ⊢
    split at e
    next a st =>
      split at e
      next hok => rw [if_pos ⟨hok.1, Nat.lt_of_lt_of_le hok.2.1 hd, hok.2.2⟩]; exact e
      next => cases e
    next => cases e
  case invokestatic i =>
    simp only [q_hea] at e ⊢
    split at e
    next nn dp b sp a st =>
      split at e
      next hok => rw [if_pos ⟨hok.1, hok.2.1, Nat.lt_of_lt_of_le hok.2.2.1 hd, hok.2.2.2⟩]; exact e
      next => cases e
    next => cases e
  all_goals exact e
theorem q_stp_d {own : Nat} {ini : Bool} {d d' : Nat} {ins : Instr} {pc : Nat} {L : q_Lc} {st : List Value} {h : q_Hp} {r : q_Cf} (hd : d ≤ d') (e : q_stp own ini d ins pc L st h = some r) : q_stp own ini d' ins pc L st h = some r := by
  unfold q_stp at e ⊢
  split at e
  next h1 => exact e
  next h1 =>
    split at e
    next h2 => exact e
    next h2 =>
      split at e
      next h3 => exact e
      next h3 =>
        split at e
        next h4 => rw [q_hea_d hd h4]; exact e
        next => cases e
theorem q_run_le : ∀ (f f' d d' k pc : Nat) (L : q_Lc) (st : List Value) (h : q_Hp) (r : Option Value × q_Hp), f ≤ f' → d ≤ d' → q_run f d k pc L st h = some r → q_run f' d' k pc L st h = some r := by
  intro f
  induction f with
  | zero => intro f' d d' k pc L st h r _ _ e; cases e
  | succ f ih =>
    intro f' d d' k pc L st h r hf hd e
    obtain ⟨f', rfl⟩ : ∃ g, f' = g + 1 := ⟨f' - 1, by omega⟩
    have hf : f ≤ f' := by omega
    unfold q_run at e ⊢
    cases hfe : q_fe k pc with
    | none => rw [hfe] at e; cases e
    | some ins =>
      rw [hfe] at e
      simp only at e ⊢
      cases hret : q_ret (q_rt k) ins st with
      | some r1 => rw [hret] at e; exact e
      | none =>
        rw [hret] at e
        simp only at e ⊢
        cases hcal : q_cal (q_ow k) ins with
        | some k' =>
          rw [hcal] at e
          simp only at e ⊢
          cases d with
          | zero => cases e
          | succ d =>
            obtain ⟨d', rfl⟩ : ∃ g, d' = g + 1 := ⟨d' - 1, by omega⟩
            have hd : d ≤ d' := by omega
            simp only at e ⊢
            split at e
            next hc =>
              rw [if_pos hc]
              split at e
              next r1 h1 hin =>
                have hin' : (if k' < 353 then q_run f' d' k' 0 (q_ent k' (st.take (q_na k')).reverse) [] h else if 8 ≤ d' then q_bi k' (st.take (q_na k')).reverse h else none) = some (r1, h1) := by
                  split at hin
                  next h2 => rw [if_pos h2]; exact ih _ _ _ _ _ _ _ _ _ hf hd hin
                  next h2 =>
                    rw [if_neg h2]
                    split at hin
                    next h3 => rw [if_pos (by omega)]; exact hin
                    next => cases hin
                rw [hin']
                exact ih _ _ _ _ _ _ _ _ _ hf (by omega) e
              next => cases e
            next => cases e
        | none =>
          rw [hcal] at e
          simp only at e ⊢
          split at e
          next hs =>
            rw [q_stp_d hd hs]
            exact ih _ _ _ _ _ _ _ _ _ hf hd e
          next => cases e
/-- from here the method comes to its end, with an answer and a heap of which Q is true -/
def q_wp (n k pc : Nat) (L : q_Lc) (st : List Value) (h : q_Hp) (Q : Option Value → q_Hp → Prop) : Prop := ∃ (f : Nat) (r : Option Value) (h' : q_Hp), q_run f n k pc L st h = some (r, h') ∧ Q r h'
/-- a whole method, by its arguments -/
def q_mp (n k : Nat) (args : List Value) (h : q_Hp) (Q : Option Value → q_Hp → Prop) : Prop := q_rec k args h = true ∧ q_wp n k 0 (q_ent k args) [] h Q
section QW
variable {n k pc : Nat} {L : q_Lc} {st : List Value} {h : q_Hp} {Q Q' : Option Value → q_Hp → Prop}
theorem q_wp.le {n' : Nat} (hn : n ≤ n') (w : q_wp n k pc L st h Q) : q_wp n' k pc L st h Q := by
  obtain ⟨f, r, h', e, q⟩ := w
  exact ⟨f, r, h', q_run_le _ _ _ _ _ _ _ _ _ _ (Nat.le_refl _) hn e, q⟩
theorem q_wp.mono (w : q_wp n k pc L st h Q) (hq : ∀ r h', Q r h' → Q' r h') : q_wp n k pc L st h Q' := by
  obtain ⟨f, r, h', e, q⟩ := w
  exact ⟨f, r, h', e, hq _ _ q⟩
theorem q_mp.le {n' : Nat} {args : List Value} (hn : n ≤ n') (w : q_mp n k args h Q) : q_mp n' k args h Q := ⟨w.1, w.2.le hn⟩
theorem q_mp.mono {args : List Value} (w : q_mp n k args h Q) (hq : ∀ r h', Q r h' → Q' r h') : q_mp n k args h Q' := ⟨w.1, w.2.mono hq⟩
theorem wp_stp {ins : Instr} {pc' : Nat} {L' : q_Lc} {st' : List Value} {h' : q_Hp} (hfe : q_fe k pc = some ins) (hret : q_ret (q_rt k) ins st = none) (hcal : q_cal (q_ow k) ins = none) (hs : q_stp (q_ow k) (q_ini k) n ins pc L st h = some (pc', L', st', h')) (w : q_wp n k pc' L' st' h' Q) : q_wp n k pc L st h Q := by
  obtain ⟨f, r, hE, e, q⟩ := w
  refine ⟨f + 1, r, hE, ?_, q⟩
  unfold q_run
  rw [hfe]
  simp only
  rw [hret]
  simp only
  rw [hcal]
  simp only
  rw [hs]
  exact e
theorem wp_ret {ins : Instr} {r : Option Value} (hfe : q_fe k pc = some ins) (hret : q_ret (q_rt k) ins st = some r) (q : Q r h) : q_wp n k pc L st h Q := by
  refine ⟨1, r, h, ?_, q⟩
  unfold q_run
  rw [hfe]
  simp only
  rw [hret]
theorem wp_call {ins : Instr} {k' m : Nat} {av rest : List Value} {P : Option Value → q_Hp → Prop} (hfe : q_fe k pc = some ins) (hret : q_ret (q_rt k) ins st = none) (hcal : q_cal (q_ow k) ins = some k') (hk : k' < 353) (hst : st = av.reverse ++ rest) (hlen : av.length = q_na k') (hsm : q_small rest = true) (hm : m ≤ n)
    (hcall : q_mp m k' av h P) (w : ∀ r h', P r h' → q_wp (n + 1) k (pc + 3) L (q_push r rest) h' Q) : q_wp (n + 1) k pc L st h Q := by
  obtain ⟨hrec, f1, r1, h1, e1, p1⟩ := hcall
  obtain ⟨f2, r, hE, e2, q⟩ := w r1 h1 p1
  subst hst
  have e3 : ((av.reverse ++ rest).take (q_na k')).reverse = av := by
    rw [← hlen, List.take_append_of_le_length (by rw [List.length_reverse]; exact Nat.le_refl _), List.take_of_length_le (by rw [List.length_reverse]; exact Nat.le_refl _), List.reverse_reverse]
  have e4 : (av.reverse ++ rest).drop (q_na k') = rest := by
    rw [← hlen, List.drop_append_of_le_length (by rw [List.length_reverse]; exact Nat.le_refl _), List.drop_of_length_le (by rw [List.length_reverse]; exact Nat.le_refl _), List.nil_append]
  refine ⟨max f1 f2 + 1, r, hE, ?_, q⟩
  unfold q_run
  rw [hfe]
  simp only
  rw [hret]
  simp only
  rw [hcal]
  simp only
  rw [e3, e4, if_pos ⟨by rw [List.length_append, List.length_reverse, hlen]; exact Nat.le_add_right _ _, hsm, hrec⟩, if_pos hk,
    q_run_le _ _ _ _ _ _ _ _ _ _ (Nat.le_max_left f1 f2) hm e1]
  simp only
  exact q_run_le _ _ _ _ _ _ _ _ _ _ (Nat.le_max_right f1 f2) (Nat.le_refl _) e2
theorem wp_bi {ins : Instr} {k' : Nat} {av rest : List Value} {r1 : Option Value} {h1 : q_Hp} (hfe : q_fe k pc = some ins) (hret : q_ret (q_rt k) ins st = none) (hcal : q_cal (q_ow k) ins = some k') (hk : ¬ k' < 353) (hst : st = av.reverse ++ rest) (hlen : av.length = q_na k') (hsm : q_small rest = true) (hm : 8 ≤ n)
    (hrec : q_rec k' av h = true) (hbi : q_bi k' av h = some (r1, h1)) (w : q_wp (n + 1) k (pc + 3) L (q_push r1 rest) h1 Q) : q_wp (n + 1) k pc L st h Q := by
  obtain ⟨f2, r, hE, e2, q⟩ := w
  subst hst
  have e3 : ((av.reverse ++ rest).take (q_na k')).reverse = av := by
    rw [← hlen, List.take_append_of_le_length (by rw [List.length_reverse]; exact Nat.le_refl _), List.take_of_length_le (by rw [List.length_reverse]; exact Nat.le_refl _), List.reverse_reverse]
  have e4 : (av.reverse ++ rest).drop (q_na k') = rest := by
    rw [← hlen, List.drop_append_of_le_length (by rw [List.length_reverse]; exact Nat.le_refl _), List.drop_of_length_le (by rw [List.length_reverse]; exact Nat.le_refl _), List.nil_append]
  refine ⟨f2 + 1, r, hE, ?_, q⟩
  unfold q_run
  rw [hfe]
  simp only
  rw [hret]
  simp only
  rw [hcal]
  simp only
  rw [e3, e4, if_pos ⟨by rw [List.length_append, List.length_reverse, hlen]; exact Nat.le_add_right _ _, hsm, hrec⟩, if_neg hk, if_pos hm, hbi]
  simp only
  exact e2
end QW
