/-! THE CONSTRUCTORS: the reference -/
def j_m (U c : Nat) : Nat := if c = 0 then U else 37 * U + t_dg c
theorem s243j {h : q_Hp} {U c : Nat} (hc : c = 0 ∨ t_al c = true) : q_mJ 1 243 [.long (lN U), .int (nI c)] h (fun z h' => h' = h ∧ z = lN (j_m U c)) := by
  rcases hc with rfl | hc
  · refine q_mJ.of (q_recS rfl) (fun Q fin => ?_)
    exact b243_0 (fun c1 => absurd rfl c1) (fun _ => b243_4 (fin _ _ ⟨rfl, rfl⟩))
  · have h0 : ¬ c = 0 := fun h9 => by
      rw [h9] at hc
      exact absurd hc (by decide)
    refine (s243 hc).mono (Nat.le_refl _) ?_
    rintro z h' ⟨e0, rfl⟩
    refine ⟨e0, ?_⟩
    unfold j_m
    rw [if_neg h0]
theorem s244 {h : q_Hp} {c0 c1 c2 c3 c4 : Nat} (h0 : c0 = 0 ∨ t_al c0 = true) (h1 : c1 = 0 ∨ t_al c1 = true) (h2 : c2 = 0 ∨ t_al c2 = true) (h3 : c3 = 0 ∨ t_al c3 = true) (h4 : c4 = 0 ∨ t_al c4 = true) : q_mJ 2 244 [.int (nI c0), .int (nI c1), .int (nI c2), .int (nI c3), .int (nI c4)] h (fun z h' => h' = h ∧ z = lN (j_m (j_m (j_m (j_m (j_m 0 c0) c1) c2) c3) c4)) := by
  refine q_mJ.of (q_recS rfl) (fun Q fin => ?_)
  refine wp_lconst (v := lN 0) rfl (by decide) ?_
  refine wp_loc rfl rfl ?_
  refine wp_callJ (n := 1) (av := [.long (lN _), .int (nI c0)]) rfl rfl rfl (by decide) rfl rfl rfl (Nat.le_refl _) (s243j h0) ?_
  rintro z h' ⟨e0, rfl⟩
  subst e0
  refine wp_loc rfl rfl ?_
  refine wp_callJ (n := 1) (av := [.long (lN _), .int (nI c1)]) rfl rfl rfl (by decide) rfl rfl rfl (Nat.le_refl _) (s243j h1) ?_
  rintro z h' ⟨e0, rfl⟩
  subst e0
  refine wp_loc rfl rfl ?_
  refine wp_callJ (n := 1) (av := [.long (lN _), .int (nI c2)]) rfl rfl rfl (by decide) rfl rfl rfl (Nat.le_refl _) (s243j h2) ?_
  rintro z h' ⟨e0, rfl⟩
  subst e0
  refine wp_loc rfl rfl ?_
  refine wp_callJ (n := 1) (av := [.long (lN _), .int (nI c3)]) rfl rfl rfl (by decide) rfl rfl rfl (Nat.le_refl _) (s243j h3) ?_
  rintro z h' ⟨e0, rfl⟩
  subst e0
  refine wp_loc rfl rfl ?_
  refine wp_callJ (n := 1) (av := [.long (lN _), .int (nI c4)]) rfl rfl rfl (by decide) rfl rfl rfl (Nat.le_refl _) (s243j h4) ?_
  rintro z h' ⟨e0, rfl⟩
  subst e0
  exact wp_ret rfl rfl (fin _ _ ⟨rfl, rfl⟩)
section JC
variable {stk : List (Nat × List Nat)} {f : j_F} {h : q_Hp} {l : List Nat}
/-- one word more in the reference's row -/
theorem wp_kw {Q : Option Value → q_Hp → Prop} {w : Nat → Int64} {pc i : Nat} {c0 c1 c2 c3 c4 : Nat} (hfe : q_fe 236 pc = some (.invokestatic 266)) (hfe2 : q_fe 236 (pc + 3) = some .lastore) (J : j_J 712 [(630, l)] (jL f 637 w) h) (hi : i < 25) (hw : ∀ j, j < i → w j = t_K j) (hc : (c0 = 0 ∨ t_al c0 = true) ∧ (c1 = 0 ∨ t_al c1 = true) ∧ (c2 = 0 ∨ t_al c2 = true) ∧ (c3 = 0 ∨ t_al c3 = true) ∧ (c4 = 0 ∨ t_al c4 = true)) (hv : lN (j_m (j_m (j_m (j_m (j_m 0 c0) c1) c2) c3) c4) = t_K i) (cont : ∀ w' h', j_J 712 [(630, l)] (jL f 637 w') h' → (∀ j, j < i + 1 → w' j = t_K j) → q_wp 4 236 (pc + 4) [some (.ref 630)] [] h' Q) : q_wp 4 236 pc [some (.ref 630)] [.int (nI c4), .int (nI c3), .int (nI c2), .int (nI c1), .int (nI c0), .int (nI i), .ref 637] h Q := by
  obtain ⟨h0, h1, h2, h3, h4⟩ := hc
  refine wp_callJ (n := 3) (k' := 244) (av := [.int (nI c0), .int (nI c1), .int (nI c2), .int (nI c3), .int (nI c4)]) (rest := [.int (nI i), .ref 637]) hfe rfl rfl (by decide) rfl rfl rfl (by decide) (s244 h0 h1 h2 h3 h4) ?_
  rintro z h' ⟨e0, rfl⟩
  subst e0
  rw [hv]
  refine wp_last hfe2 (J.ok (by decide) rfl) (by rw [J.len (m := 25) (by decide) rfl]; exact q_inN hi (by decide)) ?_
  rw [nI_clamp (by omega)]
  refine cont _ _ (J.sW (by decide)) (fun j hj => ?_)
  by_cases h9 : j = i
  · rw [h9, pk_uLs]
  · rw [pk_uLn h9]
    exact hw j (by omega)
theorem j_J.sh (J : j_J 712 [] f h) : q_Sh h := ⟨J.1.1, J.2.1, fun o s ho _ h0 => J.2.2.1 o s ho h0 (fun e he => absurd he List.not_mem_nil)⟩
set_option maxRecDepth 20000 in
theorem j236_705 {Q : Option Value → q_Hp → Prop} (h9 : 9 ∈ l) (fin : ∀ w h', (∀ j, j < 25 → w j = t_K j) → j_J 712 [(630, l)] (jL f 637 w) h' → q_wp 4 236 1162 [some (.ref 630)] [] h' Q) (J : j_J 712 [(630, l)] (jL f 637 (fun _ => 0)) h) : q_wp 4 236 705 [some (.ref 630)] [] h Q := by
  have hs : ∀ e, e ∈ [(630, l)] → e.1 = 630 → 9 ∈ e.2 := by
    intro e he _
    simp only [List.mem_cons, List.not_mem_nil, or_false] at he
    subst he
    exact h9
  have hw : ∀ j, j < 0 → (fun _ : Nat => (0 : Int64)) j = t_K j := fun j hj => absurd hj (Nat.not_lt_zero j)
  generalize (fun _ : Nat => (0 : Int64)) = w at J hw
  refine wp_loc rfl rfl ?_
  refine wp_getR (v := 637) rfl rfl rfl rfl (J.ok (by decide) rfl) (J.R (by decide) rfl (by decide) hs) ?_
  refine wp_iconst (v := 0) rfl (by decide) ?_
  refine wp_bipush (v := 116) rfl (by decide) ?_
  refine wp_bipush (v := 121) rfl (by decide) ?_
  refine wp_bipush (v := 112) rfl (by decide) ?_
  refine wp_bipush (v := 101) rfl (by decide) ?_
  refine wp_iconst (v := 0) rfl (by decide) ?_
  refine wp_kw (pc := 719) (i := 0) (c0 := 116) (c1 := 121) (c2 := 112) (c3 := 101) (c4 := 0) rfl rfl J (by decide) hw (by decide) (by decide +kernel) (fun w h J hw => ?_)
  refine wp_loc rfl rfl ?_
  refine wp_getR (v := 637) rfl rfl rfl rfl (J.ok (by decide) rfl) (J.R (by decide) rfl (by decide) hs) ?_
  refine wp_iconst (v := 1) rfl (by decide) ?_
  refine wp_bipush (v := 111) rfl (by decide) ?_
  refine wp_bipush (v := 102) rfl (by decide) ?_
  refine wp_iconst (v := 0) rfl (by decide) ?_
  refine wp_iconst (v := 0) rfl (by decide) ?_
  refine wp_iconst (v := 0) rfl (by decide) ?_
  refine wp_kw (pc := 735) (i := 1) (c0 := 111) (c1 := 102) (c2 := 0) (c3 := 0) (c4 := 0) rfl rfl J (by decide) hw (by decide) (by decide +kernel) (fun w h J hw => ?_)
  refine wp_loc rfl rfl ?_
  refine wp_getR (v := 637) rfl rfl rfl rfl (J.ok (by decide) rfl) (J.R (by decide) rfl (by decide) hs) ?_
  refine wp_iconst (v := 2) rfl (by decide) ?_
  refine wp_bipush (v := 115) rfl (by decide) ?_
  refine wp_bipush (v := 111) rfl (by decide) ?_
  refine wp_bipush (v := 114) rfl (by decide) ?_
  refine wp_bipush (v := 116) rfl (by decide) ?_
  refine wp_iconst (v := 0) rfl (by decide) ?_
  refine wp_kw (pc := 753) (i := 2) (c0 := 115) (c1 := 111) (c2 := 114) (c3 := 116) (c4 := 0) rfl rfl J (by decide) hw (by decide) (by decide +kernel) (fun w h J hw => ?_)
  refine wp_loc rfl rfl ?_
  refine wp_getR (v := 637) rfl rfl rfl rfl (J.ok (by decide) rfl) (J.R (by decide) rfl (by decide) hs) ?_
  refine wp_iconst (v := 3) rfl (by decide) ?_
  refine wp_bipush (v := 114) rfl (by decide) ?_
  refine wp_bipush (v := 117) rfl (by decide) ?_
  refine wp_bipush (v := 108) rfl (by decide) ?_
  refine wp_bipush (v := 101) rfl (by decide) ?_
  refine wp_iconst (v := 0) rfl (by decide) ?_
  refine wp_kw (pc := 771) (i := 3) (c0 := 114) (c1 := 117) (c2 := 108) (c3 := 101) (c4 := 0) rfl rfl J (by decide) hw (by decide) (by decide +kernel) (fun w h J hw => ?_)
  refine wp_loc rfl rfl ?_
  refine wp_getR (v := 637) rfl rfl rfl rfl (J.ok (by decide) rfl) (J.R (by decide) rfl (by decide) hs) ?_
  refine wp_iconst (v := 4) rfl (by decide) ?_
  refine wp_bipush (v := 112) rfl (by decide) ?_
  refine wp_bipush (v := 114) rfl (by decide) ?_
  refine wp_bipush (v := 111) rfl (by decide) ?_
  refine wp_bipush (v := 99) rfl (by decide) ?_
  refine wp_iconst (v := 0) rfl (by decide) ?_
  refine wp_kw (pc := 789) (i := 4) (c0 := 112) (c1 := 114) (c2 := 111) (c3 := 99) (c4 := 0) rfl rfl J (by decide) hw (by decide) (by decide +kernel) (fun w h J hw => ?_)
  refine wp_loc rfl rfl ?_
  refine wp_getR (v := 637) rfl rfl rfl rfl (J.ok (by decide) rfl) (J.R (by decide) rfl (by decide) hs) ?_
  refine wp_iconst (v := 5) rfl (by decide) ?_
  refine wp_bipush (v := 110) rfl (by decide) ?_
  refine wp_bipush (v := 111) rfl (by decide) ?_
  refine wp_bipush (v := 100) rfl (by decide) ?_
  refine wp_bipush (v := 101) rfl (by decide) ?_
  refine wp_iconst (v := 0) rfl (by decide) ?_
  refine wp_kw (pc := 807) (i := 5) (c0 := 110) (c1 := 111) (c2 := 100) (c3 := 101) (c4 := 0) rfl rfl J (by decide) hw (by decide) (by decide +kernel) (fun w h J hw => ?_)
  refine wp_loc rfl rfl ?_
  refine wp_getR (v := 637) rfl rfl rfl rfl (J.ok (by decide) rfl) (J.R (by decide) rfl (by decide) hs) ?_
  refine wp_bipush (v := 6) rfl (by decide) ?_
  refine wp_bipush (v := 108) rfl (by decide) ?_
  refine wp_bipush (v := 105) rfl (by decide) ?_
  refine wp_bipush (v := 110) rfl (by decide) ?_
  refine wp_bipush (v := 107) rfl (by decide) ?_
  refine wp_iconst (v := 0) rfl (by decide) ?_
  refine wp_kw (pc := 826) (i := 6) (c0 := 108) (c1 := 105) (c2 := 110) (c3 := 107) (c4 := 0) rfl rfl J (by decide) hw (by decide) (by decide +kernel) (fun w h J hw => ?_)
  refine wp_loc rfl rfl ?_
  refine wp_getR (v := 637) rfl rfl rfl rfl (J.ok (by decide) rfl) (J.R (by decide) rfl (by decide) hs) ?_
  refine wp_bipush (v := 7) rfl (by decide) ?_
  refine wp_bipush (v := 109) rfl (by decide) ?_
  refine wp_bipush (v := 101) rfl (by decide) ?_
  refine wp_bipush (v := 114) rfl (by decide) ?_
  refine wp_bipush (v := 103) rfl (by decide) ?_
  refine wp_bipush (v := 101) rfl (by decide) ?_
  refine wp_kw (pc := 846) (i := 7) (c0 := 109) (c1 := 101) (c2 := 114) (c3 := 103) (c4 := 101) rfl rfl J (by decide) hw (by decide) (by decide +kernel) (fun w h J hw => ?_)
  refine wp_loc rfl rfl ?_
  refine wp_getR (v := 637) rfl rfl rfl rfl (J.ok (by decide) rfl) (J.R (by decide) rfl (by decide) hs) ?_
  refine wp_bipush (v := 8) rfl (by decide) ?_
  refine wp_bipush (v := 110) rfl (by decide) ?_
  refine wp_bipush (v := 111) rfl (by decide) ?_
  refine wp_bipush (v := 116) rfl (by decide) ?_
  refine wp_iconst (v := 0) rfl (by decide) ?_
  refine wp_iconst (v := 0) rfl (by decide) ?_
  refine wp_kw (pc := 864) (i := 8) (c0 := 110) (c1 := 111) (c2 := 116) (c3 := 0) (c4 := 0) rfl rfl J (by decide) hw (by decide) (by decide +kernel) (fun w h J hw => ?_)
  refine wp_loc rfl rfl ?_
  refine wp_getR (v := 637) rfl rfl rfl rfl (J.ok (by decide) rfl) (J.R (by decide) rfl (by decide) hs) ?_
  refine wp_bipush (v := 9) rfl (by decide) ?_
  refine wp_bipush (v := 101) rfl (by decide) ?_
  refine wp_bipush (v := 110) rfl (by decide) ?_
  refine wp_bipush (v := 100) rfl (by decide) ?_
  refine wp_iconst (v := 0) rfl (by decide) ?_
  refine wp_iconst (v := 0) rfl (by decide) ?_
  refine wp_kw (pc := 882) (i := 9) (c0 := 101) (c1 := 110) (c2 := 100) (c3 := 0) (c4 := 0) rfl rfl J (by decide) hw (by decide) (by decide +kernel) (fun w h J hw => ?_)
  refine wp_loc rfl rfl ?_
  refine wp_getR (v := 637) rfl rfl rfl rfl (J.ok (by decide) rfl) (J.R (by decide) rfl (by decide) hs) ?_
  refine wp_bipush (v := 10) rfl (by decide) ?_
  refine wp_bipush (v := 105) rfl (by decide) ?_
  refine wp_bipush (v := 102) rfl (by decide) ?_
  refine wp_iconst (v := 0) rfl (by decide) ?_
  refine wp_iconst (v := 0) rfl (by decide) ?_
  refine wp_iconst (v := 0) rfl (by decide) ?_
  refine wp_kw (pc := 899) (i := 10) (c0 := 105) (c1 := 102) (c2 := 0) (c3 := 0) (c4 := 0) rfl rfl J (by decide) hw (by decide) (by decide +kernel) (fun w h J hw => ?_)
  refine wp_loc rfl rfl ?_
  refine wp_getR (v := 637) rfl rfl rfl rfl (J.ok (by decide) rfl) (J.R (by decide) rfl (by decide) hs) ?_
  refine wp_bipush (v := 11) rfl (by decide) ?_
  refine wp_bipush (v := 100) rfl (by decide) ?_
  refine wp_bipush (v := 101) rfl (by decide) ?_
  refine wp_bipush (v := 108) rfl (by decide) ?_
  refine wp_iconst (v := 0) rfl (by decide) ?_
  refine wp_iconst (v := 0) rfl (by decide) ?_
  refine wp_kw (pc := 917) (i := 11) (c0 := 100) (c1 := 101) (c2 := 108) (c3 := 0) (c4 := 0) rfl rfl J (by decide) hw (by decide) (by decide +kernel) (fun w h J hw => ?_)
  refine wp_loc rfl rfl ?_
  refine wp_getR (v := 637) rfl rfl rfl rfl (J.ok (by decide) rfl) (J.R (by decide) rfl (by decide) hs) ?_
  refine wp_bipush (v := 12) rfl (by decide) ?_
  refine wp_bipush (v := 110) rfl (by decide) ?_
  refine wp_bipush (v := 101) rfl (by decide) ?_
  refine wp_bipush (v := 119) rfl (by decide) ?_
  refine wp_iconst (v := 0) rfl (by decide) ?_
  refine wp_iconst (v := 0) rfl (by decide) ?_
  refine wp_kw (pc := 935) (i := 12) (c0 := 110) (c1 := 101) (c2 := 119) (c3 := 0) (c4 := 0) rfl rfl J (by decide) hw (by decide) (by decide +kernel) (fun w h J hw => ?_)
  refine wp_loc rfl rfl ?_
  refine wp_getR (v := 637) rfl rfl rfl rfl (J.ok (by decide) rfl) (J.R (by decide) rfl (by decide) hs) ?_
  refine wp_bipush (v := 13) rfl (by decide) ?_
  refine wp_bipush (v := 106) rfl (by decide) ?_
  refine wp_bipush (v := 111) rfl (by decide) ?_
  refine wp_bipush (v := 105) rfl (by decide) ?_
  refine wp_bipush (v := 110) rfl (by decide) ?_
  refine wp_iconst (v := 0) rfl (by decide) ?_
  refine wp_kw (pc := 954) (i := 13) (c0 := 106) (c1 := 111) (c2 := 105) (c3 := 110) (c4 := 0) rfl rfl J (by decide) hw (by decide) (by decide +kernel) (fun w h J hw => ?_)
  refine wp_loc rfl rfl ?_
  refine wp_getR (v := 637) rfl rfl rfl rfl (J.ok (by decide) rfl) (J.R (by decide) rfl (by decide) hs) ?_
  refine wp_bipush (v := 14) rfl (by decide) ?_
  refine wp_bipush (v := 115) rfl (by decide) ?_
  refine wp_bipush (v := 101) rfl (by decide) ?_
  refine wp_bipush (v := 116) rfl (by decide) ?_
  refine wp_iconst (v := 0) rfl (by decide) ?_
  refine wp_iconst (v := 0) rfl (by decide) ?_
  refine wp_kw (pc := 972) (i := 14) (c0 := 115) (c1 := 101) (c2 := 116) (c3 := 0) (c4 := 0) rfl rfl J (by decide) hw (by decide) (by decide +kernel) (fun w h J hw => ?_)
  refine wp_loc rfl rfl ?_
  refine wp_getR (v := 637) rfl rfl rfl rfl (J.ok (by decide) rfl) (J.R (by decide) rfl (by decide) hs) ?_
  refine wp_bipush (v := 15) rfl (by decide) ?_
  refine wp_bipush (v := 100) rfl (by decide) ?_
  refine wp_bipush (v := 111) rfl (by decide) ?_
  refine wp_iconst (v := 0) rfl (by decide) ?_
  refine wp_iconst (v := 0) rfl (by decide) ?_
  refine wp_iconst (v := 0) rfl (by decide) ?_
  refine wp_kw (pc := 989) (i := 15) (c0 := 100) (c1 := 111) (c2 := 0) (c3 := 0) (c4 := 0) rfl rfl J (by decide) hw (by decide) (by decide +kernel) (fun w h J hw => ?_)
  refine wp_loc rfl rfl ?_
  refine wp_getR (v := 637) rfl rfl rfl rfl (J.ok (by decide) rfl) (J.R (by decide) rfl (by decide) hs) ?_
  refine wp_bipush (v := 16) rfl (by decide) ?_
  refine wp_bipush (v := 97) rfl (by decide) ?_
  refine wp_bipush (v := 108) rfl (by decide) ?_
  refine wp_bipush (v := 108) rfl (by decide) ?_
  refine wp_iconst (v := 0) rfl (by decide) ?_
  refine wp_iconst (v := 0) rfl (by decide) ?_
  refine wp_kw (pc := 1007) (i := 16) (c0 := 97) (c1 := 108) (c2 := 108) (c3 := 0) (c4 := 0) rfl rfl J (by decide) hw (by decide) (by decide +kernel) (fun w h J hw => ?_)
  refine wp_loc rfl rfl ?_
  refine wp_getR (v := 637) rfl rfl rfl rfl (J.ok (by decide) rfl) (J.R (by decide) rfl (by decide) hs) ?_
  refine wp_bipush (v := 17) rfl (by decide) ?_
  refine wp_bipush (v := 97) rfl (by decide) ?_
  refine wp_bipush (v := 110) rfl (by decide) ?_
  refine wp_bipush (v := 121) rfl (by decide) ?_
  refine wp_iconst (v := 0) rfl (by decide) ?_
  refine wp_iconst (v := 0) rfl (by decide) ?_
  refine wp_kw (pc := 1025) (i := 17) (c0 := 97) (c1 := 110) (c2 := 121) (c3 := 0) (c4 := 0) rfl rfl J (by decide) hw (by decide) (by decide +kernel) (fun w h J hw => ?_)
  refine wp_loc rfl rfl ?_
  refine wp_getR (v := 637) rfl rfl rfl rfl (J.ok (by decide) rfl) (J.R (by decide) rfl (by decide) hs) ?_
  refine wp_bipush (v := 18) rfl (by decide) ?_
  refine wp_bipush (v := 99) rfl (by decide) ?_
  refine wp_bipush (v := 97) rfl (by decide) ?_
  refine wp_bipush (v := 108) rfl (by decide) ?_
  refine wp_bipush (v := 108) rfl (by decide) ?_
  refine wp_iconst (v := 0) rfl (by decide) ?_
  refine wp_kw (pc := 1044) (i := 18) (c0 := 99) (c1 := 97) (c2 := 108) (c3 := 108) (c4 := 0) rfl rfl J (by decide) hw (by decide) (by decide +kernel) (fun w h J hw => ?_)
  refine wp_loc rfl rfl ?_
  refine wp_getR (v := 637) rfl rfl rfl rfl (J.ok (by decide) rfl) (J.R (by decide) rfl (by decide) hs) ?_
  refine wp_bipush (v := 19) rfl (by decide) ?_
  refine wp_bipush (v := 102) rfl (by decide) ?_
  refine wp_bipush (v := 97) rfl (by decide) ?_
  refine wp_bipush (v := 105) rfl (by decide) ?_
  refine wp_bipush (v := 108) rfl (by decide) ?_
  refine wp_iconst (v := 0) rfl (by decide) ?_
  refine wp_kw (pc := 1063) (i := 19) (c0 := 102) (c1 := 97) (c2 := 105) (c3 := 108) (c4 := 0) rfl rfl J (by decide) hw (by decide) (by decide +kernel) (fun w h J hw => ?_)
  refine wp_loc rfl rfl ?_
  refine wp_getR (v := 637) rfl rfl rfl rfl (J.ok (by decide) rfl) (J.R (by decide) rfl (by decide) hs) ?_
  refine wp_bipush (v := 20) rfl (by decide) ?_
  refine wp_bipush (v := 119) rfl (by decide) ?_
  refine wp_bipush (v := 104) rfl (by decide) ?_
  refine wp_bipush (v := 105) rfl (by decide) ?_
  refine wp_bipush (v := 108) rfl (by decide) ?_
  refine wp_bipush (v := 101) rfl (by decide) ?_
  refine wp_kw (pc := 1083) (i := 20) (c0 := 119) (c1 := 104) (c2 := 105) (c3 := 108) (c4 := 101) rfl rfl J (by decide) hw (by decide) (by decide +kernel) (fun w h J hw => ?_)
  refine wp_loc rfl rfl ?_
  refine wp_getR (v := 637) rfl rfl rfl rfl (J.ok (by decide) rfl) (J.R (by decide) rfl (by decide) hs) ?_
  refine wp_bipush (v := 21) rfl (by decide) ?_
  refine wp_bipush (v := 108) rfl (by decide) ?_
  refine wp_bipush (v := 111) rfl (by decide) ?_
  refine wp_bipush (v := 111) rfl (by decide) ?_
  refine wp_bipush (v := 112) rfl (by decide) ?_
  refine wp_iconst (v := 0) rfl (by decide) ?_
  refine wp_kw (pc := 1102) (i := 21) (c0 := 108) (c1 := 111) (c2 := 111) (c3 := 112) (c4 := 0) rfl rfl J (by decide) hw (by decide) (by decide +kernel) (fun w h J hw => ?_)
  refine wp_loc rfl rfl ?_
  refine wp_getR (v := 637) rfl rfl rfl rfl (J.ok (by decide) rfl) (J.R (by decide) rfl (by decide) hs) ?_
  refine wp_bipush (v := 22) rfl (by decide) ?_
  refine wp_bipush (v := 116) rfl (by decide) ?_
  refine wp_bipush (v := 114) rfl (by decide) ?_
  refine wp_bipush (v := 121) rfl (by decide) ?_
  refine wp_iconst (v := 0) rfl (by decide) ?_
  refine wp_iconst (v := 0) rfl (by decide) ?_
  refine wp_kw (pc := 1120) (i := 22) (c0 := 116) (c1 := 114) (c2 := 121) (c3 := 0) (c4 := 0) rfl rfl J (by decide) hw (by decide) (by decide +kernel) (fun w h J hw => ?_)
  refine wp_loc rfl rfl ?_
  refine wp_getR (v := 637) rfl rfl rfl rfl (J.ok (by decide) rfl) (J.R (by decide) rfl (by decide) hs) ?_
  refine wp_bipush (v := 23) rfl (by decide) ?_
  refine wp_bipush (v := 116) rfl (by decide) ?_
  refine wp_bipush (v := 104) rfl (by decide) ?_
  refine wp_bipush (v := 101) rfl (by decide) ?_
  refine wp_bipush (v := 110) rfl (by decide) ?_
  refine wp_iconst (v := 0) rfl (by decide) ?_
  refine wp_kw (pc := 1139) (i := 23) (c0 := 116) (c1 := 104) (c2 := 101) (c3 := 110) (c4 := 0) rfl rfl J (by decide) hw (by decide) (by decide +kernel) (fun w h J hw => ?_)
  refine wp_loc rfl rfl ?_
  refine wp_getR (v := 637) rfl rfl rfl rfl (J.ok (by decide) rfl) (J.R (by decide) rfl (by decide) hs) ?_
  refine wp_bipush (v := 24) rfl (by decide) ?_
  refine wp_bipush (v := 101) rfl (by decide) ?_
  refine wp_bipush (v := 108) rfl (by decide) ?_
  refine wp_bipush (v := 115) rfl (by decide) ?_
  refine wp_bipush (v := 101) rfl (by decide) ?_
  refine wp_iconst (v := 0) rfl (by decide) ?_
  refine wp_kw (pc := 1158) (i := 24) (c0 := 101) (c1 := 108) (c2 := 115) (c3 := 101) (c4 := 0) rfl rfl J (by decide) hw (by decide) (by decide +kernel) (fun w h J hw => ?_)
  exact fin w h hw J
end JC
