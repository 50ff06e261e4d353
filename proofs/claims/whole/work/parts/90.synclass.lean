/-! SYNTAX of the class: what its checker does is what is told without cells -/
def y_OK (K : Nat → Nat) (e : Nat) : Prop := (∀ i, i < e → K i < 42) ∧ (42 ≤ K e ∨ e = 1200) ∧ e ≤ 1200
def c_y (K P : Nat → Nat) (V : Nat → Int64) (e : Nat) (h0 h : q_Hp) (s : y_S) : Prop := q_Sh h ∧ y_C h K P V e ∧ y_OK K e ∧ q_Ef [8] h0 h ∧ (∀ j, ¬ j = 7 → ¬ j = 8 → qI h 8 j = qI h0 8 j) ∧ qI h 8 7 = nI s.1 ∧ qI h 8 8 = nI s.2 ∧ s.1 ≤ e ∧ s.2 ≤ 2
theorem y_C.ef {h h' : q_Hp} {T P : Nat → Nat} {V : Nat → Int64} {e : Nat} (C : y_C h T P V e) {S : List Nat} (E : q_Ef S h h') (h3 : 3 ∉ S) (h5 : 5 ∉ S) (h6 : 6 ∉ S) (h7 : 7 ∉ S) : y_C h' T P V e := by
  unfold y_C
  rw [E.I h3, E.A h5, E.A h6, E.L h7]
  exact C
section CY
variable {K P : Nat → Nat} {V : Nat → Int64} {e : Nat} {h0 h : q_Hp} {s : y_S}
theorem c_y.at (Y : c_y K P V e h0 h s) {a f : Nat} (ha : a ≤ e) (hf : f ≤ 2) : c_y K P V e h0 (q_sI (q_sI h 8 7 (nI a)) 8 8 (nI f)) (a, f) := by
  obtain ⟨S, C, O, E, F, _⟩ := Y
  refine ⟨S, C, O, E.trans ((q_Ef.sI (by decide)).trans (q_Ef.sI (by decide))), fun j h1 h2 => ?_, rfl, rfl, ha, hf⟩
  show (if 8 = 8 ∧ j = 8 then nI f else if 8 = 8 ∧ j = 7 then nI a else qI h 8 j) = _
  rw [if_neg (fun h9 => h2 h9.2), if_neg (fun h9 => h1 h9.2)]
  exact F j h1 h2
theorem c_y.a1 (Y : c_y K P V e h0 h s) {a : Nat} (ha : a ≤ e) : c_y K P V e h0 (q_sI h 8 7 (nI a)) (a, s.2) := by
  obtain ⟨S, C, O, E, F, y1, y2, y3, y4⟩ := Y
  refine ⟨S, C, O, E.trans (q_Ef.sI (by decide)), fun j h1 h2 => ?_, rfl, y2, ha, y4⟩
  show (if 8 = 8 ∧ j = 7 then nI a else qI h 8 j) = _
  rw [if_neg (fun h9 => h1 h9.2)]
  exact F j h1 h2
theorem c_y.f1 (Y : c_y K P V e h0 h s) {f : Nat} (hf : f ≤ 2) : c_y K P V e h0 (q_sI h 8 8 (nI f)) (s.1, f) := by
  obtain ⟨S, C, O, E, F, y1, y2, y3, y4⟩ := Y
  refine ⟨S, C, O, E.trans (q_Ef.sI (by decide)), fun j h1 h2 => ?_, y1, rfl, y3, hf⟩
  show (if 8 = 8 ∧ j = 8 then nI f else qI h 8 j) = _
  rw [if_neg (fun h9 => h2 h9.2)]
  exact F j h1 h2
theorem c_y.fld {j : Nat} {v : Int32} (Y : c_y K P V e h0 h s) (h7 : ¬ j = 7) (h8 : ¬ j = 8) : c_y K P V e (q_sI h0 8 j v) (q_sI h 8 j v) s := by
  obtain ⟨S, C, O, E, F, y1, y2, y3, y4⟩ := Y
  refine ⟨S, C, O, ⟨E.1, E.2.1, E.2.2.1, E.2.2.2.1, fun a ha => ⟨?_, (E.2.2.2.2 a ha).2⟩⟩, fun i h1 h2 => ?_, ?_, ?_, y3, y4⟩
  · have := (E.2.2.2.2 a ha).1
    funext i
    show (if a = 8 ∧ i = j then v else qI h a i) = if a = 8 ∧ i = j then v else qI h0 a i
    rw [this]
  · show (if 8 = 8 ∧ i = j then v else qI h 8 i) = if 8 = 8 ∧ i = j then v else qI h0 8 i
    rw [F i h1 h2]
  · show (if 8 = 8 ∧ 7 = j then v else qI h 8 7) = _
    rw [if_neg (fun h9 => h7 h9.2.symm)]; exact y1
  · show (if 8 = 8 ∧ 8 = j then v else qI h 8 8) = _
    rw [if_neg (fun h9 => h8 h9.2.symm)]; exact y2
theorem c_y.row {a n : Nat} {v : Int64} (Y : c_y K P V e h0 h s) (ha : ¬ a = 3 ∧ ¬ a = 5 ∧ ¬ a = 6 ∧ ¬ a = 7) : c_y K P V e (q_sL h0 a n v) (q_sL h a n v) s := by
  obtain ⟨S, C, O, E, F, y⟩ := Y
  refine ⟨S, ?_, O, ⟨E.1, E.2.1, E.2.2.1, E.2.2.2.1, fun x hx => ⟨(E.2.2.2.2 x hx).1, (E.2.2.2.2 x hx).2.1, (E.2.2.2.2 x hx).2.2.1, ?_⟩⟩, F, y⟩
  · refine C.ef (S := [a]) (q_Ef.sL (by simp)) ?_ ?_ ?_ ?_ <;> simp <;> omega
  · have := (E.2.2.2.2 x hx).2.2.2
    funext i
    show (if x = a ∧ i = n then v else qL h x i) = if x = a ∧ i = n then v else qL h0 x i
    rw [this]
/-- the token here is one, so there is one behind it, or this is the last that counts -/
theorem y_OK.lt (O : y_OK K e) {a : Nat} (ha : a ≤ e) (hk : K a < 42) (h12 : ¬ 1200 ≤ a) : a + 1 ≤ e := by
  obtain ⟨_, O2, _⟩ := O
  rcases O2 with h1 | h1
  · rcases Nat.lt_or_ge a e with h2 | h2
    · exact h2
    · rw [show a = e by omega] at hk
      omega
  · omega
theorem s168 {k : Nat} (Y : c_y K P V e h0 h s) (hk : k < 2 ^ 31) : q_mI 1 168 [.ref 8, .int (nI k)] h (fun z h' => h' = h ∧ z = b2i (y_is K k s)) := by
  obtain ⟨S, C, O, E, F, y1, y2, y3, y4⟩ := Y
  refine q_mI.of (q_recV rfl (S.ok rfl)) (fun Q fin => ?_)
  have k43 := (C.2.2 s.1 y3).2.1
  refine b168_0 (S.ok rfl) (fun c => ?_) (fun c => ?_)
  · rw [y2] at c
    refine b168_26 (fin _ _ ⟨rfl, ?_⟩)
    unfold y_is
    rw [beq_false_of_ne (show ¬ s.2 = 0 from fun h9 => c (by rw [h9]; rfl))]
    rfl
  · rw [y2] at c
    have c0 : s.2 = 0 := (nI_eq (b := 0) (by omega) (by decide)).mp c
    have c88 := s188 S C y3
    rw [← y1] at c88
    refine b168_7 (S.ok rfl) (S.ref (v := 3) rfl) c88 (by decide) ?_
    rintro z h2 ⟨e0, rfl⟩
    subst h2
    refine b168_18 (fun c2 => b168_26 (fin _ _ ⟨rfl, ?_⟩)) (fun c2 => b168_22 (fin _ _ ⟨rfl, ?_⟩))
    · unfold y_is
      rw [c0, beq_false_of_ne (show ¬ K s.1 = k from fun h9 => c2 (by rw [h9]))]
      rfl
    · unfold y_is
      rw [c0, (nI_eq (by omega) hk).mp c2, beq_self_eq_true, beq_self_eq_true]
      rfl
theorem s167 {f : Nat} (Y : c_y K P V e h0 h s) (hf : f ≤ 2) : q_mV 0 167 [.ref 8, .int (nI f)] h (fun h' => c_y K P V e h0 h' (y_fl f s)) := by
  have Y0 := Y
  obtain ⟨S, C, O, E, F, y1, y2, y3, y4⟩ := Y
  refine q_mV.of (q_recV rfl (S.ok rfl)) (fun Q fin => ?_)
  refine b167_0 (S.ok rfl) (fun c => b167_12 (fin _ ?_)) (fun c => b167_7 (S.ok rfl) (b167_12 (fin _ ?_)))
  · rw [y2] at c
    unfold y_fl
    rw [if_neg (show ¬ s.2 = 0 from fun h9 => c (by rw [h9]; rfl))]
    exact Y0
  · rw [y2] at c
    unfold y_fl
    rw [if_pos ((nI_eq (b := 0) (by omega) (by decide)).mp c)]
    exact Y0.f1 hf
theorem s169 (Y : c_y K P V e h0 h s) (hk : s.2 = 0 → K s.1 < 42) : q_mV 0 169 [.ref 8] h (fun h' => c_y K P V e h0 h' (y_ps s)) := by
  have Y0 := Y
  obtain ⟨S, C, O, E, F, y1, y2, y3, y4⟩ := Y
  have o3 := O.2.2
  refine q_mV.of (q_recV rfl (S.ok rfl)) (fun Q fin => ?_)
  refine b169_0 (S.ok rfl) (fun c => b169_22 (S.ok rfl) (fun _ => b169_39 (fin _ ?_)) (fun c2 => absurd c2 c)) (fun c => ?_)
  · rw [y2] at c
    unfold y_ps
    rw [if_neg (show ¬ s.2 = 0 from fun h9 => c (by rw [h9]; rfl))]
    exact Y0
  have c0 : s.2 = 0 := by rw [y2] at c; exact (nI_eq (b := 0) (by omega) (by decide)).mp c
  refine b169_7 (S.ok rfl) (fun c1 => b169_22 (S.ok rfl) (fun c2 => absurd c c2) (fun _ => b169_29 (S.ok rfl) (b169_39 (fin _ ?_)))) (fun c1 => b169_17 (S.ok rfl) (b169_22 (S.ok rfl) (fun _ => b169_39 (fin _ ?_)) (fun c2 => absurd c2 (show ¬ (2 : Int32) = 0 by decide))))
  · rw [y1] at c1
    have h12 := (nI_ltI (b := 1200) (by omega) (by decide)).mp c1
    unfold y_ps
    rw [if_pos c0, if_neg (by omega), y1, nI_1]
    have := Y0.a1 (a := s.1 + 1) (O.lt y3 (hk c0) (by omega))
    rw [c0] at this
    exact this
  · rw [y1] at c1
    have h12 := mt (nI_ltI (a := s.1) (b := 1200) (by omega) (by decide)).mpr c1
    unfold y_ps
    rw [if_pos c0, if_pos (by omega)]
    exact Y0.f1 (f := 2) (by decide)
theorem y_is_lt {k : Nat} (hk : k < 42) (c : y_is K k s = true) : s.2 = 0 → K s.1 < 42 := fun _ => by rw [(y_is_c.mp c).2]; exact hk
theorem s170 {k : Nat} (Y : c_y K P V e h0 h s) (hk : k < 42) : q_mV 2 170 [.ref 8, .int (nI k)] h (fun h' => c_y K P V e h0 h' (y_nd K k s)) := by
  refine q_mV.of (q_recV rfl (Y.1.ok rfl)) (fun Q fin => ?_)
  refine b170_0 (s168 Y (by omega)) (by decide) ?_
  rintro z h2 ⟨e0, rfl⟩
  subst h2
  refine b170_5 (fun c => b170_15 (s167 (f := 1) Y (by decide)) (by decide) (fun h1 Y1 => b170_20 (fin _ ?_))) (fun c => b170_8 (s169 Y (y_is_lt hk (b2i_ne.mp c))) (by decide) (fun h1 Y1 => b170_12 (b170_20 (fin _ ?_))))
  · unfold y_nd
    rw [b2i_eq.mp c, if_neg (by decide)]
    exact Y1
  · unfold y_nd
    rw [if_pos (b2i_ne.mp c)]
    exact Y1
theorem s171 {b : Bool} (Y : c_y K P V e h0 h s) : q_mV 1 171 [.ref 8, .int (b2i b)] h (fun h' => c_y K P V e h0 h' (y_rm b s)) := by
  refine q_mV.of (q_recV rfl (Y.1.ok rfl)) (fun Q fin => ?_)
  refine b171_0 (fun c => b171_9 (fin _ ?_)) (fun c => b171_4 (s167 (f := 2) Y (by decide)) (by decide) (fun h1 Y1 => b171_9 (fin _ ?_)))
  · unfold y_rm
    rw [if_pos (b2i_ne.mp c)]
    exact Y
  · unfold y_rm
    rw [b2i_eq.mp c, if_neg (by decide)]
    exact Y1
theorem s172 {b : Bool} (Y : c_y K P V e h0 h s) : q_mV 3 172 [.ref 8, .int (b2i b)] h (fun h' => c_y K P V e h0 h' (y_nn K b s)) := by
  refine q_mV.of (q_recV rfl (Y.1.ok rfl)) (fun Q fin => ?_)
  refine b172_0 (s168 (k := 40) Y (by decide)) (by decide) ?_
  rintro z h2 ⟨e0, rfl⟩
  subst h2
  refine b172_6 (fun c => b172_14 (s170 (k := 40) Y (by decide)) (by decide) (fun h1 Y1 => b172_20 (fin _ ?_))) (fun c => b172_9 (s171 Y) (by decide) (fun h1 Y1 => b172_14 (s170 (k := 40) Y1 (by decide)) (by decide) (fun h1 Y1 => b172_20 (fin _ ?_))))
  · unfold y_nn
    rw [b2i_eq.mp c, if_neg (by decide)]
    exact Y1
  · unfold y_nn
    rw [if_pos (b2i_ne.mp c)]
    exact Y1
theorem s177 (Y : c_y K P V e h0 h s) : q_mV 3 177 [.ref 8] h (fun h' => c_y K P V e h0 h' (y_wy K s)) := by
  refine q_mV.of (q_recV rfl (Y.1.ok rfl)) (fun Q fin => ?_)
  refine b177_0 (s170 (k := 40) Y (by decide)) (by decide) ?_
  intro h Y
  refine b177_6 (s170 (k := 32) Y (by decide)) (by decide) ?_
  intro h Y
  refine b177_12 (s170 (k := 40) Y (by decide)) (by decide) ?_
  intro h Y
  refine b177_18 (s170 (k := 39) Y (by decide)) (by decide) ?_
  intro h Y
  refine b177_24 (s170 (k := 40) Y (by decide)) (by decide) ?_
  intro h Y
  refine b177_30 ?_
  exact fin _ Y
theorem c_y.inc {j : Nat} (Y : c_y K P V e h0 h s) (h7 : ¬ j = 7) (h8 : ¬ j = 8) : c_y K P V e (q_sI h0 8 j (qI h0 8 j + 1)) (q_sI h 8 j (qI h 8 j + 1)) s := by
  rw [Y.2.2.2.2.1 j h7 h8]
  exact Y.fld h7 h8
theorem c_y.nam {j a : Nat} {v : Int64} (Y : c_y K P V e h0 h s) (h7 : ¬ j = 7) (h8 : ¬ j = 8) (ha : ¬ a = 3 ∧ ¬ a = 5 ∧ ¬ a = 6 ∧ ¬ a = 7) : c_y K P V e (q_sI (q_sL h0 a ((qI h0 8 j : Int32).toNatClampNeg) v) 8 j (qI h0 8 j + 1)) (q_sI (q_sL h a ((qI h 8 j : Int32).toNatClampNeg) v) 8 j (qI h 8 j + 1)) s := by
  rw [Y.2.2.2.2.1 j h7 h8]
  exact (Y.row ha).fld h7 h8
end CY
theorem y_j0 {W : Int32 → Prop} {A B : Int32} {L N : Nat} (hL : L < 2 ^ 31) (hN : N < 2 ^ 31) (e1 : A = nI L) (e2 : B = nI N) (c : A ≤ B) (w : W (b2i (decide (N < L)))) : W 0 := by
  rw [e1, e2] at c
  have := (nI_leI hL hN).mp c
  rw [decide_eq_false (show ¬ N < L by omega)] at w
  exact w
theorem y_j1 {W : Int32 → Prop} {A B : Int32} {L N : Nat} (hL : L < 2 ^ 31) (hN : N < 2 ^ 31) (e1 : A = nI L) (e2 : B = nI N) (c : ¬ A ≤ B) (w : W (b2i (decide (N < L)))) : W 1 := by
  rw [e1, e2] at c
  have := mt (nI_leI hL hN).mpr c
  rw [decide_eq_true (show N < L by omega)] at w
  exact w
theorem y_m173_4 {n : Nat} {h : q_Hp} {Q : Option Value → q_Hp → Prop} {x0 : Nat} {L N : Nat} (k0 : q_ok h x0 8) (hL : L < 2 ^ 31) (hN : N < 2 ^ 31) (e1 : (12 : Int32) = nI L) (e2 : (qI h x0 3) = nI N) (w : q_wp n 173 19 [some (.ref x0)] [.int (b2i (decide (N < L))), .ref x0] h Q) : q_wp n 173 4 [some (.ref x0)] [] h Q :=
  b173_4 k0 (fun c => b173_18 (y_j0 (W := fun z => q_wp n 173 19 [some (.ref x0)] [.int z, .ref x0] h Q) hL hN e1 e2 c w)) (fun c => b173_14 (y_j1 (W := fun z => q_wp n 173 19 [some (.ref x0)] [.int z, .ref x0] h Q) hL hN e1 e2 c w))
theorem y_m174_4 {n : Nat} {h : q_Hp} {Q : Option Value → q_Hp → Prop} {x0 : Nat} {L N : Nat} (k0 : q_ok h x0 8) (hL : L < 2 ^ 31) (hN : N < 2 ^ 31) (e1 : (12 : Int32) = nI L) (e2 : (qI h x0 4) = nI N) (w : q_wp n 174 19 [some (.ref x0)] [.int (b2i (decide (N < L))), .ref x0] h Q) : q_wp n 174 4 [some (.ref x0)] [] h Q :=
  b174_4 k0 (fun c => b174_18 (y_j0 (W := fun z => q_wp n 174 19 [some (.ref x0)] [.int z, .ref x0] h Q) hL hN e1 e2 c w)) (fun c => b174_14 (y_j1 (W := fun z => q_wp n 174 19 [some (.ref x0)] [.int z, .ref x0] h Q) hL hN e1 e2 c w))
theorem y_m175_15 {n : Nat} {h : q_Hp} {Q : Option Value → q_Hp → Prop} {x0 : Nat} {s0 : Int64} {L N : Nat} (k0 : q_ok h x0 8) (hL : L < 2 ^ 31) (hN : N < 2 ^ 31) (e1 : (20 : Int32) = nI L) (e2 : (qI h x0 5) = nI N) (w : q_wp n 175 31 [some (.ref x0), some (.long s0), none, none] [.int (b2i (decide (N < L))), .ref x0] h Q) : q_wp n 175 15 [some (.ref x0), none, none, none] [.long s0] h Q :=
  b175_15 k0 (fun c => b175_30 (y_j0 (W := fun z => q_wp n 175 31 [some (.ref x0), some (.long s0), none, none] [.int z, .ref x0] h Q) hL hN e1 e2 c w)) (fun c => b175_26 (y_j1 (W := fun z => q_wp n 175 31 [some (.ref x0), some (.long s0), none, none] [.int z, .ref x0] h Q) hL hN e1 e2 c w))
theorem y_m175_87 {n : Nat} {h : q_Hp} {Q : Option Value → q_Hp → Prop} {x0 : Nat} {x1 : Int64} {x3 : Int32} {L N : Nat} (hL : L < 2 ^ 31) (hN : N < 2 ^ 31) (e1 : (2 : Int32) = nI L) (e2 : x3 = nI N) (w : q_wp n 175 98 [some (.ref x0), some (.long x1), none, some (.int x3)] [.int (b2i (decide (N < L))), .ref x0] h Q) : q_wp n 175 87 [some (.ref x0), some (.long x1), none, some (.int x3)] [] h Q :=
  b175_87 (fun c => b175_97 (y_j0 (W := fun z => q_wp n 175 98 [some (.ref x0), some (.long x1), none, some (.int x3)] [.int z, .ref x0] h Q) hL hN e1 e2 c w)) (fun c => b175_93 (y_j1 (W := fun z => q_wp n 175 98 [some (.ref x0), some (.long x1), none, some (.int x3)] [.int z, .ref x0] h Q) hL hN e1 e2 c w))
theorem y_m175_139 {n : Nat} {h : q_Hp} {Q : Option Value → q_Hp → Prop} {x0 : Nat} {x1 : Int64} {x3 : Int32} {L N : Nat} (hL : L < 2 ^ 31) (hN : N < 2 ^ 31) (e1 : (4 : Int32) = nI L) (e2 : x3 = nI N) (w : q_wp n 175 150 [some (.ref x0), some (.long x1), none, some (.int x3)] [.int (b2i (decide (N < L))), .ref x0] h Q) : q_wp n 175 139 [some (.ref x0), some (.long x1), none, some (.int x3)] [] h Q :=
  b175_139 (fun c => b175_149 (y_j0 (W := fun z => q_wp n 175 150 [some (.ref x0), some (.long x1), none, some (.int x3)] [.int z, .ref x0] h Q) hL hN e1 e2 c w)) (fun c => b175_145 (y_j1 (W := fun z => q_wp n 175 150 [some (.ref x0), some (.long x1), none, some (.int x3)] [.int z, .ref x0] h Q) hL hN e1 e2 c w))
theorem y_m175_178 {n : Nat} {h : q_Hp} {Q : Option Value → q_Hp → Prop} {x0 : Nat} {x1 : Int64} {x3 : Int32} {L N : Nat} (hL : L < 2 ^ 31) (hN : N < 2 ^ 31) (e1 : (8 : Int32) = nI L) (e2 : x3 = nI N) (w : q_wp n 175 190 [some (.ref x0), some (.long x1), none, some (.int x3)] [.int (b2i (decide (N < L))), .ref x0] h Q) : q_wp n 175 178 [some (.ref x0), some (.long x1), none, some (.int x3)] [] h Q :=
  b175_178 (fun c => b175_189 (y_j0 (W := fun z => q_wp n 175 190 [some (.ref x0), some (.long x1), none, some (.int x3)] [.int z, .ref x0] h Q) hL hN e1 e2 c w)) (fun c => b175_185 (y_j1 (W := fun z => q_wp n 175 190 [some (.ref x0), some (.long x1), none, some (.int x3)] [.int z, .ref x0] h Q) hL hN e1 e2 c w))
theorem y_m176_30 {n : Nat} {h : q_Hp} {Q : Option Value → q_Hp → Prop} {x0 : Nat} {x1 : Int32} {x2 : Int32} {x3 : Int32} {x4 : Int32} {x5 : Int32} {x6 : Int32} {L N : Nat} (hL : L < 2 ^ 31) (hN : N < 2 ^ 31) (e1 : (x1 : Int32) = nI L) (e2 : x4 = nI N) (w : q_wp n 176 42 [some (.ref x0), some (.int x1), some (.int x2), some (.int x3), some (.int x4), some (.int x5), some (.int x6)] [.int (b2i (decide (N < L))), .ref x0] h Q) : q_wp n 176 30 [some (.ref x0), some (.int x1), some (.int x2), some (.int x3), some (.int x4), some (.int x5), some (.int x6)] [] h Q :=
  b176_30 (fun c => b176_41 (y_j0 (W := fun z => q_wp n 176 42 [some (.ref x0), some (.int x1), some (.int x2), some (.int x3), some (.int x4), some (.int x5), some (.int x6)] [.int z, .ref x0] h Q) hL hN e1 e2 c w)) (fun c => b176_37 (y_j1 (W := fun z => q_wp n 176 42 [some (.ref x0), some (.int x1), some (.int x2), some (.int x3), some (.int x4), some (.int x5), some (.int x6)] [.int z, .ref x0] h Q) hL hN e1 e2 c w))
theorem y_m176_76 {n : Nat} {h : q_Hp} {Q : Option Value → q_Hp → Prop} {x0 : Nat} {x1 : Int32} {x2 : Int32} {x3 : Int32} {x4 : Int32} {x5 : Int32} {x6 : Int32} {L N : Nat} (hL : L < 2 ^ 31) (hN : N < 2 ^ 31) (e1 : (x2 : Int32) = nI L) (e2 : x5 = nI N) (w : q_wp n 176 88 [some (.ref x0), some (.int x1), some (.int x2), some (.int x3), some (.int x4), some (.int x5), some (.int x6)] [.int (b2i (decide (N < L))), .ref x0] h Q) : q_wp n 176 76 [some (.ref x0), some (.int x1), some (.int x2), some (.int x3), some (.int x4), some (.int x5), some (.int x6)] [] h Q :=
  b176_76 (fun c => b176_87 (y_j0 (W := fun z => q_wp n 176 88 [some (.ref x0), some (.int x1), some (.int x2), some (.int x3), some (.int x4), some (.int x5), some (.int x6)] [.int z, .ref x0] h Q) hL hN e1 e2 c w)) (fun c => b176_83 (y_j1 (W := fun z => q_wp n 176 88 [some (.ref x0), some (.int x1), some (.int x2), some (.int x3), some (.int x4), some (.int x5), some (.int x6)] [.int z, .ref x0] h Q) hL hN e1 e2 c w))
theorem y_m181_48 {n : Nat} {h : q_Hp} {Q : Option Value → q_Hp → Prop} {x0 : Nat} {x1 : Int32} {x2 : Int32} {x3 : Int32} {L N : Nat} (hL : L < 2 ^ 31) (hN : N < 2 ^ 31) (e1 : (8 : Int32) = nI L) (e2 : x1 = nI N) (w : q_wp n 181 60 [some (.ref x0), some (.int x1), some (.int x2), some (.int x3)] [.int (b2i (decide (N < L))), .ref x0] h Q) : q_wp n 181 48 [some (.ref x0), some (.int x1), some (.int x2), some (.int x3)] [] h Q :=
  b181_48 (fun c => b181_59 (y_j0 (W := fun z => q_wp n 181 60 [some (.ref x0), some (.int x1), some (.int x2), some (.int x3)] [.int z, .ref x0] h Q) hL hN e1 e2 c w)) (fun c => b181_55 (y_j1 (W := fun z => q_wp n 181 60 [some (.ref x0), some (.int x1), some (.int x2), some (.int x3)] [.int z, .ref x0] h Q) hL hN e1 e2 c w))
theorem y_m182_15 {n : Nat} {h : q_Hp} {Q : Option Value → q_Hp → Prop} {x0 : Nat} {s0 : Int64} {L N : Nat} (k0 : q_ok h x0 8) (hL : L < 2 ^ 31) (hN : N < 2 ^ 31) (e1 : (10 : Int32) = nI L) (e2 : (qI h x0 6) = nI N) (w : q_wp n 182 31 [some (.ref x0), some (.long s0), none] [.int (b2i (decide (N < L))), .ref x0] h Q) : q_wp n 182 15 [some (.ref x0), none, none] [.long s0] h Q :=
  b182_15 k0 (fun c => b182_30 (y_j0 (W := fun z => q_wp n 182 31 [some (.ref x0), some (.long s0), none] [.int z, .ref x0] h Q) hL hN e1 e2 c w)) (fun c => b182_26 (y_j1 (W := fun z => q_wp n 182 31 [some (.ref x0), some (.long s0), none] [.int z, .ref x0] h Q) hL hN e1 e2 c w))
theorem y_m185_0 {n : Nat} {h : q_Hp} {Q : Option Value → q_Hp → Prop} {x0 : Nat} {x1 : Int32} {L N : Nat} (hL : L < 2 ^ 31) (hN : N < 2 ^ 31) (e1 : (8 : Int32) = nI L) (e2 : x1 = nI N) (w : q_wp n 185 12 [some (.ref x0), some (.int x1)] [.int (b2i (decide (N < L))), .ref x0] h Q) : q_wp n 185 0 [some (.ref x0), some (.int x1)] [] h Q :=
  b185_0 (fun c => b185_11 (y_j0 (W := fun z => q_wp n 185 12 [some (.ref x0), some (.int x1)] [.int z, .ref x0] h Q) hL hN e1 e2 c w)) (fun c => b185_7 (y_j1 (W := fun z => q_wp n 185 12 [some (.ref x0), some (.int x1)] [.int z, .ref x0] h Q) hL hN e1 e2 c w))
section CY
variable {K P : Nat → Nat} {V : Nat → Int64} {e : Nat} {h0 h : q_Hp} {s : y_S}
theorem s173 {nt : Nat} (Y : c_y K P V e h0 h s) (hk : s.2 = 0 → K s.1 < 42) (hn : qI h0 8 3 = nI nt) (h12 : nt ≤ 1300) : q_mV 4 173 [.ref 8] h (fun h' => c_y K P V e (q_sI h0 8 3 (qI h0 8 3 + 1)) h' (y_ty K nt s)) := by
  refine q_mV.of (q_recV rfl (Y.1.ok rfl)) (fun Q fin => ?_)
  refine b173_0 (s169 Y hk) (by decide) ?_
  intro h Y
  refine y_m173_4 (Y.1.ok rfl) (L := 12) (N := nt) (by decide) (by omega) rfl ((Y.2.2.2.2.1 3 (by decide) (by decide)).trans hn) ?_
  refine b173_19 (s172 Y) (by decide) ?_
  intro h Y
  replace Y := Y.inc (j := 3) (by decide) (by decide)
  refine b173_22 (Y.1.ok rfl) (s168 (k := 1) Y (by decide)) (by decide) ?_
  rintro z h2 ⟨e0, rfl⟩
  subst h2
  refine b173_37 ?_ ?_
  · intro c37
    refine b173_50 (s170 (k := 26) Y (by decide)) (by decide) ?_
    intro h Y
    refine b173_56 ?_
    refine fin _ ?_
    unfold y_ty
    first | (rw [if_pos (b2i_ne.mp c37)]; exact Y) | (rw [b2i_eq.mp c37, if_neg (by decide)]; exact Y)
  · intro c37
    refine b173_40 (s169 Y (y_is_lt (by decide) (b2i_ne.mp c37))) (by decide) ?_
    intro h Y
    refine b173_44 (s170 (k := 40) Y (by decide)) (by decide) ?_
    intro h Y
    refine b173_50 (s170 (k := 26) Y (by decide)) (by decide) ?_
    intro h Y
    refine b173_56 ?_
    refine fin _ ?_
    unfold y_ty
    first | (rw [if_pos (b2i_ne.mp c37)]; exact Y) | (rw [b2i_eq.mp c37, if_neg (by decide)]; exact Y)
theorem s174 {ns : Nat} (Y : c_y K P V e h0 h s) (hk : s.2 = 0 → K s.1 < 42) (hn : qI h0 8 4 = nI ns) (h12 : ns ≤ 1300) : q_mV 4 174 [.ref 8] h (fun h' => c_y K P V e (q_sI h0 8 4 (qI h0 8 4 + 1)) h' (y_so K ns s)) := by
  refine q_mV.of (q_recV rfl (Y.1.ok rfl)) (fun Q fin => ?_)
  refine b174_0 (s169 Y hk) (by decide) ?_
  intro h Y
  refine y_m174_4 (Y.1.ok rfl) (L := 12) (N := ns) (by decide) (by omega) rfl ((Y.2.2.2.2.1 4 (by decide) (by decide)).trans hn) ?_
  refine b174_19 (s172 Y) (by decide) ?_
  intro h Y
  replace Y := Y.inc (j := 4) (by decide) (by decide)
  refine b174_22 (Y.1.ok rfl) (s170 (k := 25) Y (by decide)) (by decide) ?_
  intro h Y
  refine b174_38 (s170 (k := 40) Y (by decide)) (by decide) ?_
  intro h Y
  refine b174_44 (s170 (k := 39) Y (by decide)) (by decide) ?_
  intro h Y
  refine b174_50 (s170 (k := 40) Y (by decide)) (by decide) ?_
  intro h Y
  refine b174_56 (s170 (k := 26) Y (by decide)) (by decide) ?_
  intro h Y
  refine b174_62 ?_
  exact fin _ Y
theorem s176_9 {nr lr : Nat} {cm : Bool} {Q : Option Value → q_Hp → Prop} (hnr : nr < 2000) (hlr : lr < 2000) : ∀ m n l t h s, t + m = 1201 → n ≤ t → l ≤ t → c_y K P V e h0 h s → (∀ h', c_y K P V e h0 h' (y_le K nr lr cm m n l s) → Q none h') → q_wp 4 176 9 [some (.ref 8), some (.int (nI nr)), some (.int (nI lr)), some (.int (b2i cm)), some (.int (nI n)), some (.int (nI l)), some (.int (nI t))] [] h Q := by
  intro m
  induction m with
  | zero =>
    intro n l t h s ht _ _ Y fin
    exact b176_9 (fun _ => b176_140 (fin _ Y)) (fun c => absurd ((nI_ltI (a := 1200) (by decide) (by omega)).mpr (by omega)) c)
  | succ m ih =>
    intro n l t h s ht hn hl Y fin
    unfold y_le at fin
    refine b176_9 (fun c => ?_) (fun _ => ?_)
    · have := (nI_ltI (a := 1200) (by decide) (by omega)).mp c
      omega
    refine b176_17 (s168 (k := 6) Y (by decide)) (by decide) ?_
    rintro z h2 ⟨e0, rfl⟩
    subst h2
    refine b176_23 (fun c6 => ?_) (fun c6 => ?_)
    rotate_left 1
    · rw [if_pos (b2i_ne.mp c6)] at fin
      refine b176_26 (s169 Y (y_is_lt (by decide) (b2i_ne.mp c6))) (by decide) ?_
      intro h Y
      refine y_m176_30 (L := nr) (N := n) (by omega) (by omega) rfl rfl (b176_42 (s172 Y) (by decide) ?_)
      intro h Y
      refine b176_45 (s170 (k := 25) Y (by decide)) (by decide) ?_
      intro h Y
      refine b176_54 (s170 (k := 40) Y (by decide)) (by decide) ?_
      intro h Y
      refine b176_60 (b176_128 (s170 (k := 26) Y (by decide)) (by decide) ?_)
      intro h Y
      refine b176_134 ?_
      rw [nI_1, nI_1]
      exact ih (n + 1) l (t + 1) _ _ (by omega) (by omega) (by omega) Y fin
    rw [b2i_eq.mp c6, if_neg (by decide)] at fin
    refine b176_63 (s168 (k := 7) Y (by decide)) (by decide) ?_
    rintro z h2 ⟨e0, rfl⟩
    subst h2
    refine b176_69 (fun c7 => ?_) (fun c7 => ?_)
    rotate_left 1
    · rw [if_pos (b2i_ne.mp c7)] at fin
      refine b176_72 (s169 Y (y_is_lt (by decide) (b2i_ne.mp c7))) (by decide) ?_
      intro h Y
      refine y_m176_76 (L := lr) (N := l) (by omega) (by omega) rfl rfl (b176_88 (s172 Y) (by decide) ?_)
      intro h Y
      refine b176_91 (s170 (k := 25) Y (by decide)) (by decide) ?_
      intro h Y
      refine b176_100 (s177 Y) (by decide) ?_
      intro h Y
      refine b176_104 (b176_128 (s170 (k := 26) Y (by decide)) (by decide) ?_)
      intro h Y
      refine b176_134 ?_
      rw [nI_1, nI_1]
      exact ih n (l + 1) (t + 1) _ _ (by omega) (by omega) (by omega) Y fin
    rw [b2i_eq.mp c7, if_neg (by decide)] at fin
    refine b176_107 (fun c3 => ?_) (fun c3 => ?_)
    · rw [if_neg (fun h9 => by rw [b2i_eq.mp c3] at h9; exact absurd h9.1 (by decide))] at fin
      exact b176_127 (fin _ Y)
    refine b176_111 (s168 (k := 8) Y (by decide)) (by decide) ?_
    rintro z h2 ⟨e0, rfl⟩
    subst h2
    refine b176_117 (fun c8 => ?_) (fun c8 => ?_)
    · rw [if_neg (fun h9 => by rw [b2i_eq.mp c8] at h9; exact absurd h9.2 (by decide))] at fin
      exact b176_127 (fin _ Y)
    · rw [if_pos ⟨b2i_ne.mp c3, b2i_ne.mp c8⟩] at fin
      refine b176_120 (s169 Y (y_is_lt (by decide) (b2i_ne.mp c8))) (by decide) ?_
      intro h Y
      refine b176_124 (b176_128 (s170 (k := 26) Y (by decide)) (by decide) ?_)
      intro h Y
      refine b176_134 ?_
      rw [nI_1]
      exact ih n l (t + 1) _ _ (by omega) (by omega) (by omega) Y fin
theorem s176 {nr lr : Nat} {cm : Bool} (Y : c_y K P V e h0 h s) (hnr : nr < 2000) (hlr : lr < 2000) : q_mV 4 176 [.ref 8, .int (nI nr), .int (nI lr), .int (b2i cm)] h (fun h' => c_y K P V e h0 h' (y_le K nr lr cm 1201 0 0 s)) := by
  refine q_mV.of (q_recV rfl (Y.1.ok rfl)) (fun Q fin => ?_)
  exact b176_0 (s176_9 hnr hlr 1201 0 0 0 h s rfl (Nat.le_refl _) (Nat.le_refl _) Y fin)
theorem y_rm_lt {b : Bool} (hk : s.2 = 0 → K s.1 < 42) : (y_rm b s).2 = 0 → K (y_rm b s).1 < 42 := by
  unfold y_rm
  split
  · exact hk
  · unfold y_fl
    split
    · exact fun h9 => absurd h9 (show ¬ (2 : Nat) = 0 by decide)
    · exact hk
theorem s181_107 {Q : Option Value → q_Hp → Prop} {t : Int32} {x : Int32} : ∀ o h s, o < 2000 → c_y K P V e h0 h s → (∀ h', c_y K P V e h0 h' (y_cl K o s).2 → q_wp 4 181 130 [some (.ref 8), some (.int (nI (y_cl K o s).1)), some (.int x), some (.int t)] [] h' Q) → q_wp 4 181 107 [some (.ref 8), some (.int (nI o)), some (.int x), some (.int t)] [] h Q := by
  intro o
  induction o with
  | zero =>
    intro h s _ Y fin
    exact b181_107 (fun _ => fin _ Y) (fun c => absurd (nI_le (Nat.le_refl 0) (by decide)) c)
  | succ o ih =>
    intro h s ho Y fin
    unfold y_cl at fin
    refine b181_107 (fun c => absurd c (nI_nle (by omega) (by omega))) (fun _ => b181_111 (s168 (k := 35) Y (by decide)) (by decide) ?_)
    rintro z h2 ⟨e0, rfl⟩
    subst h2
    refine b181_117 (fun c => ?_) (fun c => ?_)
    · rw [b2i_eq.mp c, if_neg (by decide)] at fin
      exact fin _ Y
    · rw [if_pos (b2i_ne.mp c)] at fin
      refine b181_120 (s169 Y (y_is_lt (by decide) (b2i_ne.mp c))) (by decide) ?_
      intro h Y
      refine b181_124 ?_
      rw [pk_m1]
      exact ih _ _ (by omega) Y fin
theorem y_cl_le {K : Nat → Nat} : ∀ o s, (y_cl K o s).1 ≤ o := by
  intro o
  induction o with
  | zero => intro s; exact Nat.le_refl _
  | succ o ih =>
    intro s
    unfold y_cl
    split
    · have := ih (y_ps s); omega
    · exact Nat.le_refl _
theorem y_un_1 {K : Nat → Nat} {s : y_S} (h : (y_un K s).2 = 0) : s.1 + 1 ≤ (y_un K s).1 := by
  unfold y_un at h ⊢
  split at h
  · next h1 =>
    rw [if_pos h1]
    exact y_ps_1 y_to.rf h
  · next h1 =>
    rw [if_neg h1]
    obtain ⟨_, e3⟩ := y_nd_0 h
    have h2 := (y_to.nd (K := K) (k := 41) (y_to.rf (s := y_nd K 27 (y_nd K 40 s)))).2.1 h
    obtain ⟨_, e2⟩ := y_nd_0 h2
    have h3 := (y_to.nd (K := K) (k := 27) (y_to.rf (s := y_nd K 40 s))).2.1 h2
    obtain ⟨_, e1⟩ := y_nd_0 h3
    have a1 : (y_nd K 40 s).1 = s.1 + 1 := congrArg Prod.fst e1
    have a2 : (y_nd K 27 (y_nd K 40 s)).1 = (y_nd K 40 s).1 + 1 := congrArg Prod.fst e2
    have a3 : (y_nd K 41 (y_nd K 27 (y_nd K 40 s))).1 = (y_nd K 27 (y_nd K 40 s)).1 + 1 := congrArg Prod.fst e3
    omega
theorem s181_6 {Q : Option Value → q_Hp → Prop} : ∀ m f o t h s, (s.2 = 0 → 1202 ≤ m + s.1) → (s.2 = 0 → t ≤ s.1) → t ≤ 1201 → o ≤ t → c_y K P V e h0 h s → (∀ h', c_y K P V e h0 h' (y_su K m f o s) → Q none h') → q_wp 4 181 6 [some (.ref 8), some (.int (nI o)), some (.int (b2i f)), some (.int (nI t))] [] h Q := by
  intro m
  induction m with
  | zero =>
    intro f o t h s hm ht h12 ho Y fin
    have he := Y.2.2.2.2.2.2.2.1
    have he2 := Y.2.2.1.2.2
    refine b181_6 (fun _ => b181_177 (fin _ Y)) (fun _ => b181_13 (Y.1.ok rfl) (fun _ => b181_177 (fin _ Y)) (fun c => ?_))
    have c0 : s.2 = 0 := by
      rw [Y.2.2.2.2.2.2.1] at c
      exact (nI_eq (b := 0) (by have := Y.2.2.2.2.2.2.2.2; omega) (by decide)).mp c
    have := hm c0
    omega
  | succ m ih =>
    intro f o t h s hm ht h12 ho Y fin
    have he := Y.2.2.2.2.2.2.2.1
    have he2 := Y.2.2.1.2.2
    have f2 := Y.2.2.2.2.2.2.2.2
    unfold y_su at fin
    by_cases s0 : s.2 = 0
    rotate_left 1
    · rw [if_neg s0] at fin
      refine b181_6 (fun _ => b181_177 (fin _ Y)) (fun _ => b181_13 (Y.1.ok rfl) (fun _ => b181_177 (fin _ Y)) (fun c => ?_))
      rw [Y.2.2.2.2.2.2.1] at c
      exact absurd ((nI_eq (b := 0) (by omega) (by decide)).mp c) s0
    rw [if_pos s0] at fin
    have hm := hm s0
    have ht := ht s0
    refine b181_6 (fun c => ?_) (fun _ => b181_13 (Y.1.ok rfl) (fun c => ?_) (fun _ => ?_))
    · have := (nI_ltI (a := 1200) (by decide) (by omega)).mp c
      omega
    · rw [Y.2.2.2.2.2.2.1, s0] at c
      exact absurd rfl c
    have go : ∀ h', c_y K P V e h0 h' (y_mi K f s) → q_wp 4 181 37 [some (.ref 8), some (.int (nI o)), some (.int (b2i f)), some (.int (nI t))] [] h' Q := by
      intro h Y
      have tm : y_to s (y_mi K f s) := y_to.rf.mi
      generalize y_mi K f s = s1 at *
      refine b181_37 (s168 (k := 34) Y (by decide)) (by decide) ?_
      rintro z h2 ⟨e0, rfl⟩
      subst h2
      refine b181_43 (fun c => ?_) (fun c => ?_)
      rotate_left 1
      · rw [if_pos (b2i_ne.mp c)] at fin
        rw [b2i_ne.mp c]
        refine y_m181_48 (L := 8) (N := o) (by decide) (by omega) rfl rfl (b181_60 (s171 Y) (by decide) ?_)
        intro h Y
        refine b181_63 (s169 Y (y_rm_lt (y_is_lt (by decide) (b2i_ne.mp c)))) (by decide) ?_
        intro h Y
        refine b181_67 (b181_171 ?_)
        rw [nI_1, nI_1]
        have pl : (y_ps (y_rm (decide (o < 8)) s1)).2 = 0 → s.1 + 1 ≤ (y_ps (y_rm (decide (o < 8)) s1)).1 := fun h9 => y_ps_1 tm.rm h9
        exact ih true (o + 1) (t + 1) _ _ (fun h9 => by have := pl h9; omega) (fun h9 => by have := pl h9; omega) (by omega) (by omega) Y fin
      rw [b2i_eq.mp c, if_neg (by decide)] at fin
      rw [b2i_eq.mp c]
      have g107 : ∀ h', c_y K P V e h0 h' (y_un K s1) → q_wp 4 181 107 [some (.ref 8), some (.int (nI o)), some (.int (b2i false)), some (.int (nI t))] [] h' Q := by
        intro h Y
        have tu : (y_un K s1).2 = 0 → s.1 + 1 ≤ (y_un K s1).1 := fun h9 => by have := y_un_1 h9; have := tm.1; omega
        refine s181_107 o h _ (by omega) Y (fun h Y => ?_)
        have tc := y_to.cl (K := K) o _ _ (y_to.rf (s := y_un K s1))
        have lc := y_cl_le (K := K) o (y_un K s1)
        generalize y_cl K o (y_un K s1) = q at *
        obtain ⟨o', s2⟩ := q
        have g167 : y_sn K s2 = true → q_wp 4 181 167 [some (.ref 8), some (.int (nI o')), some (.int (b2i false)), some (.int (nI t))] [] h Q := by
          intro hs
          rw [if_pos hs] at fin
          have lt2 : s2.2 = 0 → K s2.1 < 42 := by
            intro _
            unfold y_sn at hs
            simp only [Bool.or_eq_true, y_is_c] at hs
            omega
          refine b181_167 (s169 Y lt2) (by decide) ?_
          intro h Y
          refine b181_171 ?_
          rw [nI_1]
          have pl : (y_ps s2).2 = 0 → s.1 + 1 ≤ (y_ps s2).1 := fun h9 => by
            have h8 := (y_to.ps (y_to.rf (s := s2))).2.1 h9
            have := tu (tc.2.1 h8)
            have := tc.1
            have := y_ps_1 y_to.rf h9
            simp only at *
            omega
          exact ih false o' (t + 1) _ (y_ps s2) (fun h9 => by have := pl h9; omega) (fun h9 => by have := pl h9; omega) (by omega) (by simp only at lc; omega) Y fin
        refine b181_130 (s168 (k := 31) Y (by decide)) (by decide) ?_
        rintro z h2 ⟨e0, rfl⟩
        subst h2
        refine b181_136 (fun c1 => g167 (by unfold y_sn; rw [b2i_ne.mp c1]; rfl)) (fun c1 => b181_139 (s168 (k := 32) Y (by decide)) (by decide) ?_)
        rintro z h2 ⟨e0, rfl⟩
        subst h2
        refine b181_145 (fun c2 => g167 (by unfold y_sn; rw [b2i_ne.mp c2, Bool.true_or, Bool.or_true])) (fun c2 => b181_148 (s168 (k := 33) Y (by decide)) (by decide) ?_)
        rintro z h2 ⟨e0, rfl⟩
        subst h2
        refine b181_154 (fun c3 => g167 (by unfold y_sn; rw [b2i_ne.mp c3, Bool.or_true, Bool.or_true])) (fun c3 => ?_)
        rw [if_neg (show ¬ y_sn K s2 = true by unfold y_sn; rw [b2i_eq.mp c1, b2i_eq.mp c2, b2i_eq.mp c3]; decide)] at fin
        refine b181_157 (fun c4 => b181_166 (fin _ ?_)) (fun c4 => b181_161 (s167 (f := 1) Y (by decide)) (by decide) (fun h Y => b181_166 (fin _ ?_)))
        · have := (nI_leI (b := 0) (by simp only at lc; omega) (by decide)).mp c4
          rw [if_neg (by simp only; omega)]
          exact Y
        · have := mt (nI_leI (a := o') (b := 0) (by simp only at lc; omega) (by decide)).mpr c4
          rw [if_pos (by simp only; omega)]
          exact Y
      refine b181_73 (s168 (k := 41) Y (by decide)) (by decide) ?_
      rintro z h2 ⟨e0, rfl⟩
      subst h2
      unfold y_un at g107
      refine b181_79 (fun c1 => ?_) (fun c1 => ?_)
      · rw [b2i_eq.mp c1, if_neg (by decide)] at g107
        refine b181_89 (s170 (k := 40) Y (by decide)) (by decide) ?_
        intro h Y
        refine b181_95 (s170 (k := 27) Y (by decide)) (by decide) ?_
        intro h Y
        refine b181_101 (s170 (k := 41) Y (by decide)) (by decide) ?_
        intro h Y
        exact g107 _ Y
      · rw [if_pos (b2i_ne.mp c1)] at g107
        refine b181_82 (s169 Y (y_is_lt (by decide) (b2i_ne.mp c1))) (by decide) ?_
        intro h Y
        exact b181_86 (g107 _ Y)
    unfold y_mi at go
    refine b181_20 (fun c => go _ ?_) (fun c => b181_24 (s168 (k := 32) Y (by decide)) (by decide) ?_)
    · rw [if_neg (fun h9 => by rw [b2i_eq.mp c] at h9; exact absurd h9.1 (by decide))]
      exact Y
    rintro z h2 ⟨e0, rfl⟩
    subst h2
    refine b181_30 (fun c1 => go _ ?_) (fun c1 => b181_33 (s169 Y (y_is_lt (by decide) (b2i_ne.mp c1))) (by decide) (fun h Y => go _ ?_))
    · rw [if_neg (fun h9 => by rw [b2i_eq.mp c1] at h9; exact absurd h9.2 (by decide))]
      exact Y
    · rw [if_pos ⟨b2i_ne.mp c, b2i_ne.mp c1⟩]
      exact Y
theorem s181 (Y : c_y K P V e h0 h s) : q_mV 4 181 [.ref 8] h (fun h' => c_y K P V e h0 h' (y_E K s)) := by
  refine q_mV.of (q_recV rfl (Y.1.ok rfl)) (fun Q fin => ?_)
  exact b181_0 (s181_6 1202 true 0 0 h s (fun _ => by omega) (fun _ => Nat.zero_le _) (by decide) (Nat.le_refl _) Y fin)
theorem s178 (Y : c_y K P V e h0 h s) (hk : s.2 = 0 → K s.1 < 42) : q_mV 5 178 [.ref 8] h (fun h' => c_y K P V e h0 h' (y_te K s)) := by
  refine q_mV.of (q_recV rfl (Y.1.ok rfl)) (fun Q fin => ?_)
  refine b178_0 (s169 Y hk) (by decide) ?_
  intro h Y
  refine b178_4 (s181 Y) (by decide) ?_
  intro h Y
  unfold y_te at fin
  generalize y_E K (y_ps s) = s1 at *
  have g56 : ∀ h', c_y K P V e h0 h' (y_op K s1) → q_wp 5 178 56 [some (.ref 8)] [] h' Q := by
    intro h Y
    refine b178_56 (s181 Y) (by decide) ?_
    intro h Y
    exact b178_60 (s170 (k := 26) Y (by decide)) (by decide) (fun h Y => b178_66 (fin _ Y))
  have g44 : y_cm K s1 = true → q_wp 5 178 44 [some (.ref 8)] [] h Q := by
    intro hs
    unfold y_op at g56
    rw [if_pos hs] at g56
    have lt2 : s1.2 = 0 → K s1.1 < 42 := by
      intro _
      unfold y_cm at hs
      simp only [Bool.or_eq_true, y_is_c] at hs
      omega
    exact b178_44 (s169 Y lt2) (by decide) (fun h Y => b178_48 (g56 _ Y))
  refine b178_8 (s168 (k := 36) Y (by decide)) (by decide) ?_
  rintro z h2 ⟨e0, rfl⟩
  subst h2
  refine b178_14 (fun c1 => g44 (by unfold y_cm; rw [b2i_ne.mp c1]; rfl)) (fun c1 => b178_17 (s168 (k := 37) Y (by decide)) (by decide) ?_)
  rintro z h2 ⟨e0, rfl⟩
  subst h2
  refine b178_23 (fun c2 => g44 (by unfold y_cm; rw [b2i_ne.mp c2, Bool.true_or, Bool.or_true])) (fun c2 => b178_26 (s168 (k := 30) Y (by decide)) (by decide) ?_)
  rintro z h2 ⟨e0, rfl⟩
  subst h2
  refine b178_32 (fun c3 => g44 (by unfold y_cm; rw [b2i_ne.mp c3, Bool.true_or, Bool.or_true, Bool.or_true])) (fun c3 => b178_35 (s168 (k := 38) Y (by decide)) (by decide) ?_)
  rintro z h2 ⟨e0, rfl⟩
  subst h2
  refine b178_41 (fun c4 => ?_) (fun c4 => g44 (by unfold y_cm; rw [b2i_ne.mp c4, Bool.or_true, Bool.or_true, Bool.or_true]))
  unfold y_op at g56
  rw [if_neg (show ¬ y_cm K s1 = true by unfold y_cm; rw [b2i_eq.mp c1, b2i_eq.mp c2, b2i_eq.mp c3, b2i_eq.mp c4]; decide)] at g56
  exact b178_51 (s167 (f := 1) Y (by decide)) (by decide) (fun h Y => g56 _ Y)
theorem s179 (Y : c_y K P V e h0 h s) : q_mI 2 179 [.ref 8] h (fun z h' => h' = h ∧ z = b2i (y_dw K s)) := by
  refine q_mI.of (q_recV rfl (Y.1.ok rfl)) (fun Q fin => ?_)
  have g36 : y_dw K s = true → q_wp 2 179 36 [some (.ref 8)] [] h Q := fun hs => b179_36 (fin _ _ ⟨rfl, by rw [hs]; rfl⟩)
  refine b179_0 (s168 (k := 11) Y (by decide)) (by decide) ?_
  rintro z h2 ⟨e0, rfl⟩
  subst h2
  refine b179_6 (fun c1 => g36 (by unfold y_dw; rw [b2i_ne.mp c1]; rfl)) (fun c1 => b179_9 (s168 (k := 12) Y (by decide)) (by decide) ?_)
  rintro z h2 ⟨e0, rfl⟩
  subst h2
  refine b179_15 (fun c2 => g36 (by unfold y_dw; rw [b2i_ne.mp c2, Bool.true_or, Bool.or_true])) (fun c2 => b179_18 (s168 (k := 13) Y (by decide)) (by decide) ?_)
  rintro z h2 ⟨e0, rfl⟩
  subst h2
  refine b179_24 (fun c3 => g36 (by unfold y_dw; rw [b2i_ne.mp c3, Bool.true_or, Bool.or_true, Bool.or_true])) (fun c3 => b179_27 (s168 (k := 14) Y (by decide)) (by decide) ?_)
  rintro z h2 ⟨e0, rfl⟩
  subst h2
  refine b179_33 (fun c4 => b179_40 (fin _ _ ⟨rfl, ?_⟩)) (fun c4 => g36 (by unfold y_dw; rw [b2i_ne.mp c4, Bool.or_true, Bool.or_true, Bool.or_true]))
  unfold y_dw
  rw [b2i_eq.mp c1, b2i_eq.mp c2, b2i_eq.mp c3, b2i_eq.mp c4]
  rfl
theorem s180 (Y : c_y K P V e h0 h s) (hk : s.2 = 0 → K s.1 < 42) : q_mV 5 180 [.ref 8] h (fun h' => c_y K P V e h0 h' (y_d1 K s)) := by
  refine q_mV.of (q_recV rfl (Y.1.ok rfl)) (fun Q fin => ?_)
  have g108 : ∀ s1, (∀ h', c_y K P V e h0 h' (y_nd K 26 s1) → Q none h') → ∀ h', c_y K P V e h0 h' s1 → q_wp 5 180 108 [some (.ref 8)] [] h' Q := fun s1 fin h Y => b180_108 (s170 (k := 26) Y (by decide)) (by decide) (fun h Y => b180_114 (fin _ Y))
  unfold y_d1 at fin
  refine b180_0 (s168 (k := 11) Y (by decide)) (by decide) ?_
  rintro z h2 ⟨e0, rfl⟩
  subst h2
  refine b180_6 (fun c1 => ?_) (fun c1 => ?_)
  rotate_left 1
  · rw [if_pos (b2i_ne.mp c1)] at fin
    exact b180_9 (s169 Y hk) (by decide) (fun h Y => b180_13 (s170 (k := 40) Y (by decide)) (by decide) (fun h Y => b180_19 (g108 _ fin _ Y)))
  rw [b2i_eq.mp c1, if_neg (by decide)] at fin
  refine b180_22 (s168 (k := 12) Y (by decide)) (by decide) ?_
  rintro z h2 ⟨e0, rfl⟩
  subst h2
  refine b180_28 (fun c2 => ?_) (fun c2 => ?_)
  rotate_left 1
  · rw [if_pos (b2i_ne.mp c2)] at fin
    exact b180_31 (s169 Y hk) (by decide) (fun h Y => b180_35 (s170 (k := 40) Y (by decide)) (by decide) (fun h Y => b180_41 (s170 (k := 25) Y (by decide)) (by decide) (fun h Y => b180_47 (s170 (k := 40) Y (by decide)) (by decide) (fun h Y => b180_53 (g108 _ fin _ Y)))))
  rw [b2i_eq.mp c2, if_neg (by decide)] at fin
  refine b180_56 (s168 (k := 13) Y (by decide)) (by decide) ?_
  rintro z h2 ⟨e0, rfl⟩
  subst h2
  refine b180_62 (fun c3 => ?_) (fun c3 => ?_)
  rotate_left 1
  · rw [if_pos (b2i_ne.mp c3)] at fin
    exact b180_65 (s169 Y hk) (by decide) (fun h Y => b180_69 (s177 Y) (by decide) (fun h Y => b180_73 (g108 _ fin _ Y)))
  rw [b2i_eq.mp c3, if_neg (by decide)] at fin
  exact b180_76 (s169 Y hk) (by decide) (fun h Y => b180_80 (s170 (k := 40) Y (by decide)) (by decide) (fun h Y => b180_86 (s170 (k := 27) Y (by decide)) (by decide) (fun h Y => b180_92 (s170 (k := 41) Y (by decide)) (by decide) (fun h Y => b180_98 (s170 (k := 29) Y (by decide)) (by decide) (fun h Y => b180_104 (s181 Y) (by decide) (fun h Y => g108 _ fin _ Y))))))
theorem y_dw_lt (c : y_dw K s = true) : s.2 = 0 → K s.1 < 42 := by
  intro _
  unfold y_dw at c
  simp only [Bool.or_eq_true, y_is_c] at c
  omega
end CY
