/-! THE CONSTRUCTORS: the tokens, and their row of words -/
def j_w : List Int32 → Nat → Int64 → (Nat → Int64) → (Nat → Int64)
  | [], _, _, w => w
  | c :: cs, i, a, w => if 25 ≤ i then w else if c = 32 then j_w cs (i + 1) 0 (vp_updL w i a) else j_w cs i ((a <<< ((8 : Int32).toInt64 &&& 63)) ||| c.toInt64) w
theorem j_w_W : ∀ i, i < 25 → j_w q_tx0 0 0 (fun _ => 0) i = t_W i := by decide +kernel
section JC
variable {stk : List (Nat × List Nat)} {f : j_F} {h : q_Hp} {l1 : List Nat}
def jL (f : j_F) (c : Nat) (w : Nat → Int64) : j_F := (f.1, f.2.1, fun x => if x = c then w else f.2.2 x)
theorem j_J.L0 {N c : Nat} (J : j_J N stk f h) (hc : N < c) : j_J N stk (jL f c (fun _ => 0)) h := by
  have : jL f c (fun _ => 0) = f := by
    obtain ⟨f1, f2, f3⟩ := f
    unfold jL
    refine Prod.ext rfl (Prod.ext rfl ?_)
    funext x y
    show (if x = c then (fun _ => 0) else f3 x) y = f3 x y
    by_cases h9 : x = c
    · rw [if_pos h9, h9]
      exact (J.2.2.2.2 c y hc).2.2.symm
    · rw [if_neg h9]
  rw [this]
  exact J
theorem j_J.sW {N c i : Nat} {w : Nat → Int64} {v : Int64} (J : j_J N stk (jL f c w) h) (hc : c ≤ N) : j_J N stk (jL f c (vp_updL w i v)) (q_sL h c i v) := by
  have := J.sL (o := c) (j := i) (v := v) hc
  have e : (((jL f c w).1, (jL f c w).2.1, q_up (jL f c w).2.2 c i v) : j_F) = jL f c (vp_updL w i v) := by
    unfold jL
    refine Prod.ext rfl (Prod.ext rfl ?_)
    funext x y
    show (if x = c ∧ y = i then v else (if x = c then w else f.2.2 x) y) = (if x = c then vp_updL w i v else f.2.2 x) y
    by_cases h9 : x = c
    · rw [if_pos h9, if_pos h9]
      by_cases h8 : y = i
      · rw [if_pos ⟨h9, h8⟩, h8, pk_uLs]
      · rw [if_neg (fun q => h8 q.2), pk_uLn h8]
    · rw [if_neg (fun q => h9 q.1), if_neg h9, if_neg h9]
  rw [← e]
  exact this
theorem q_rec_tx {k : Nat} {as : List Value} (hk : q_ow k = 15) (h1 : (decide ((q_slots (.ref (2 ^ 30) :: as)).length ≤ q_ml k) && decide ((Value.ref (2 ^ 30) :: as).length = q_na k) && as.all q_okv) = true) : q_rec k (.ref (2 ^ 30) :: as) h = true := by
  simp only [Bool.and_eq_true] at h1
  unfold q_rec
  simp only [Bool.and_eq_true, Bool.or_eq_true, decide_eq_true_eq]
  refine ⟨⟨⟨Or.inr (Or.inr ⟨⟨hk, Nat.le_refl _⟩, by decide⟩), of_decide_eq_true h1.1.1⟩, of_decide_eq_true h1.1.2⟩, ?_⟩
  rw [List.all_cons]
  exact h1.2
theorem j186_46 {Q : Option Value → q_Hp → Prop} {W : Nat → Int64} (hstk : ∀ e, e ∈ stk → ¬ e.1 = 3) (fin : ∀ h', j_J 7 ((3, [3, 2, 1, 0]) :: stk) (jL f 4 W) h' → Q none h') : ∀ cs p i a w h l5, q_tx0.drop p = cs → p ≤ q_tx0.length → i ≤ 25 → j_J 7 ((3, [3, 2, 1, 0]) :: stk) (jL f 4 w) h → j_w cs i a w = W → q_wp 9 186 46 [some (.ref 3), some (.int (nI i)), some (.long a), none, some (.int (nI p)), l5] [] h Q := by
  have l113 : q_tx0.length = 113 := by decide
  intro cs
  induction cs with
  | nil =>
    intro p i a w h l5 hd hp hi J he
    have hpl : q_tx0.length ≤ p := List.drop_eq_nil_iff.mp hd
    refine wp_loc rfl rfl ?_
    refine wp_stk rfl rfl rfl ?_
    refine wp_bi (n := 8) (av := [.ref (2 ^ 30)]) rfl rfl rfl (by decide) rfl rfl rfl (by decide) (q_rec_tx rfl rfl) rfl ?_
    refine b186_53 (fun _ => b186_108 (fin _ ?_)) (fun c => absurd ?_ c)
    · rw [← he]
      exact J
    · show nI (q_tx0.length) ≤ nI p
      have e : p = q_tx0.length := by omega
      rw [e]
      exact Int32.le_refl _
  | cons c cs ih =>
    intro p i a w h l5 hd hp hi J he
    have hpl : p < q_tx0.length := by
      rcases Nat.lt_or_ge p q_tx0.length with h9 | h9
      · exact h9
      · rw [List.drop_eq_nil_iff.mpr h9] at hd
        cases hd
    have hc : q_tx0[p]? = some c := by
      have := List.getElem?_drop (xs := q_tx0) (i := p) (j := 0)
      rw [hd, Nat.add_zero] at this
      rw [← this]
      rfl
    have hd2 : q_tx0.drop (p + 1) = cs := by
      rw [← List.drop_drop, hd]
      rfl
    refine wp_loc rfl rfl ?_
    refine wp_stk rfl rfl rfl ?_
    refine wp_bi (n := 8) (av := [.ref (2 ^ 30)]) rfl rfl rfl (by decide) rfl rfl rfl (by decide) (q_rec_tx rfl rfl) rfl ?_
    refine b186_53 (fun c1 => ?_) (fun _ => b186_56 (fun c1 => b186_108 (fin _ ?_)) (fun c1 => ?_))
    · have c1 : nI (q_tx0.length) ≤ nI p := c1
      have := (nI_leI (a := q_tx0.length) (by omega) (by omega)).mp c1
      omega
    · have h25 := (nI_leI (a := 25) (by decide) (by omega)).mp c1
      unfold j_w at he
      rw [if_pos h25] at he
      rw [← he]
      exact J
    have h25 := mt (nI_leI (a := 25) (b := i) (by decide) (by omega)).mpr c1
    refine wp_stk rfl rfl rfl ?_
    refine wp_loc rfl rfl ?_
    have bi : q_bi 354 [.ref (2 ^ 30), .int (nI p)] h = some (some (.int c), h) := by
      have e1 : q_bi 354 [.ref (2 ^ 30), .int (nI p)] h = if q_in (nI p) (q_tx (2 ^ 30)).length then some (some (.int ((q_tx (2 ^ 30)).getD (nI p).toNatClampNeg 0)), h) else none := rfl
      have e2 : q_tx (2 ^ 30) = q_tx0 := rfl
      rw [e1, e2, if_pos (q_inN hpl (by omega)), nI_clamp (by omega), List.getD_eq_getElem?_getD, hc]
      rfl
    refine wp_bi (n := 8) (av := [.ref (2 ^ 30), .int (nI p)]) rfl rfl rfl (by decide) rfl rfl rfl (by decide) (q_rec_tx rfl rfl) bi ?_
    unfold j_w at he
    rw [if_neg h25] at he
    refine b186_69 (fun c2 => ?_) (fun c2 => ?_)
    · rw [if_neg c2] at he
      refine b186_93 (b186_102 ?_)
      rw [nI_1]
      exact ih (p + 1) i _ w h _ hd2 (by omega) hi J he
    · rw [if_pos c2] at he
      refine b186_78 (v0 := 4) (J.ok (by decide) rfl) (J.R (by decide) rfl (by decide) (by
        intro e he h9
        rcases List.mem_cons.mp he with rfl | he
        · decide
        · exact absurd h9 (hstk e he))) (J.ok (by decide) rfl) (by rw [J.len (m := 25) (by decide) rfl]; exact q_inN (by omega) (by decide)) (b186_102 ?_)
      rw [nI_1, nI_1, nI_clamp (by omega)]
      exact ih (p + 1) (i + 1) 0 _ _ _ hd2 (by omega) (by omega) (J.sW (by decide)) he
theorem j186 (hstk : ∀ e, e ∈ stk → ¬ e.1 = 3) (J : j_J 3 ((3, []) :: stk) f h) : q_mV 9 186 [.ref 3] h (fun h' => ∃ w, (∀ i, i < 25 → w i = t_W i) ∧ j_J 7 stk (jL f 4 w) h') := by
  refine q_mV.of (q_recV rfl (J.ok (by decide) rfl)) (fun Q fin => ?_)
  replace J := J.L0 (c := 4) (by decide)
  refine wp_loc rfl rfl ?_
  refine wp_oini rfl rfl (by decide) (by decide) rfl (by decide) ?_
  refine wp_loc rfl rfl ?_
  refine wp_bipush (v := 25) rfl (by decide) ?_
  refine wp_fa (m := 25) rfl rfl (by decide) rfl rfl (Or.inr ⟨rfl, rfl⟩) rfl rfl J (by decide) rfl rfl rfl rfl rfl (by decide) (fun h J => ?_)
  refine wp_loc rfl rfl ?_
  refine wp_sipush (v := 1201) rfl (by decide) ?_
  refine wp_fa (m := 1201) rfl rfl (by decide) rfl rfl (Or.inr ⟨rfl, rfl⟩) rfl rfl J (by decide) rfl rfl rfl rfl rfl (by decide) (fun h J => ?_)
  refine wp_loc rfl rfl ?_
  refine wp_sipush (v := 1201) rfl (by decide) ?_
  refine wp_fa (m := 1201) rfl rfl (by decide) rfl rfl (Or.inr ⟨rfl, rfl⟩) rfl rfl J (by decide) rfl rfl rfl rfl rfl (by decide) (fun h J => ?_)
  refine wp_loc rfl rfl ?_
  refine wp_sipush (v := 1201) rfl (by decide) ?_
  refine wp_fa (m := 1201) rfl rfl (by decide) rfl rfl (Or.inr ⟨rfl, rfl⟩) rfl rfl J (by decide) rfl rfl rfl rfl rfl (by decide) (fun h J => ?_)
  refine wp_iconst (v := 0) rfl (by decide) ?_
  refine wp_loc rfl rfl ?_
  refine wp_lconst (v := 0) rfl (by decide) ?_
  refine wp_loc rfl rfl ?_
  refine wp_iconst (v := 0) rfl (by decide) ?_
  refine wp_loc rfl rfl ?_
  exact j186_46 hstk (fun h' J => fin _ ⟨_, j_w_W, J.popd (by decide)⟩) q_tx0 0 0 0 (fun _ => 0) h none rfl (Nat.zero_le _) (Nat.zero_le _) J rfl
end JC
