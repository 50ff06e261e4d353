/-! INSTRUCTION BY INSTRUCTION: what is to be shown -/
section QR
variable {n k pc : Nat} {L : q_Lc} {st : List Value} {h : q_Hp} {Q : Option Value → q_Hp → Prop}
theorem wp_loc {ins : Instr} {m : Nat} {L' : q_Lc} {st' : List Value} (hfe : q_fe k pc = some ins) (hs : q_loc ins L st = some (m, L', st')) (w : q_wp n k (pc + m) L' st' h Q) : q_wp n k pc L st h Q := by
  refine wp_stp (ins := ins) hfe ?_ ?_ (pc' := pc + m) (L' := L') (st' := st') (h' := h) ?_ w
  · cases ins <;> first | rfl | (cases hs; done)
  · cases ins <;> first | rfl | (cases hs; done)
  · unfold q_stp
    rw [hs]
theorem wp_stk {ins : Instr} {m : Nat} {st' : List Value} (hfe : q_fe k pc = some ins) (hl : q_loc ins L st = none) (hs : q_stk (q_ow k) ins st = some (m, st')) (w : q_wp n k (pc + m) L st' h Q) : q_wp n k pc L st h Q := by
  refine wp_stp (ins := ins) hfe ?_ ?_ (pc' := pc + m) (L' := L) (st' := st') (h' := h) ?_ w
  · cases ins <;> first | rfl | (cases hs; done)
  · cases ins <;> first | rfl | (cases hs; done)
  · unfold q_stp
    rw [hl]
    simp only
    rw [hs]
theorem wp_go {ins : Instr} {pc' : Nat} {L' : q_Lc} {st' : List Value} {h' : q_Hp} (hfe : q_fe k pc = some ins) (hs : q_go ins pc L st h = some (pc', L', st', h')) (w : q_wp n k pc' L' st' h' Q) : q_wp n k pc L st h Q := by
  refine wp_stp (ins := ins) hfe ?_ ?_ (pc' := pc') (L' := L') (st' := st') (h' := h') ?_ w
  · cases ins <;> first | rfl | (cases hs; done)
  · cases ins <;> first | rfl | (cases hs; done)
  · unfold q_stp
    rw [show q_loc ins L st = none by cases ins <;> first | rfl | (cases hs; done), show q_stk (q_ow k) ins st = none by cases ins <;> first | rfl | (cases hs; done)]
    simp only
    rw [hs]
theorem wp_hea {ins : Instr} {m : Nat} {st' : List Value} {h' : q_Hp} (hfe : q_fe k pc = some ins) (hc : q_cal (q_ow k) ins = none) (hs : q_hea (q_ow k) (q_ini k) n ins st h = some (m, st', h')) (w : q_wp n k (pc + m) L st' h' Q) : q_wp n k pc L st h Q := by
  refine wp_stp (ins := ins) hfe ?_ hc (pc' := pc + m) (L' := L) (st' := st') (h' := h') ?_ w
  · cases ins <;> first | rfl | (cases hs; done)
  · unfold q_stp
    rw [show q_loc ins L st = none by cases ins <;> first | rfl | (cases hs; done), show q_stk (q_ow k) ins st = none by cases ins <;> first | rfl | (cases hs; done), show q_go ins pc L st h = none by cases ins <;> first | rfl | (cases hs; done)]
    simp only
    rw [hs]
theorem wp_goto {off : Int} {tgt : Nat} (hfe : q_fe k pc = some (.goto off)) (ht : (pc : Int) + off = (tgt : Int)) (w : q_wp n k tgt L st h Q) : q_wp n k pc L st h Q := by
  refine wp_go (pc' := tgt) hfe ?_ w
  show q_jmp pc off L st h = _
  unfold q_jmp
  rw [if_pos (by omega), ht]
  rfl
theorem wp_ifeq {off : Int} {x : Int32} {tgt : Nat} (hfe : q_fe k pc = some (.ifCond .eq off)) (ht : (pc : Int) + off = (tgt : Int)) (kt : x = 0 → q_wp n k tgt L st h Q) (kf : ¬ x = 0 → q_wp n k (pc + 3) L st h Q) : q_wp n k pc L (.int x :: st) h Q := by
  by_cases hc : x = 0
  · refine wp_go (pc' := tgt) (L' := L) (st' := st) (h' := h) hfe ?_ (kt hc)
    show q_br (decide (x = 0)) pc off L st h = _
    unfold q_br
    rw [if_pos (by omega), decide_eq_true hc, ht]
    rfl
  · refine wp_go (pc' := pc + 3) (L' := L) (st' := st) (h' := h) hfe ?_ (kf (hc))
    show q_br (decide (x = 0)) pc off L st h = _
    unfold q_br
    rw [if_pos (by omega), decide_eq_false hc]
theorem wp_ifne {off : Int} {x : Int32} {tgt : Nat} (hfe : q_fe k pc = some (.ifCond .ne off)) (ht : (pc : Int) + off = (tgt : Int)) (kt : ¬ x = 0 → q_wp n k tgt L st h Q) (kf : x = 0 → q_wp n k (pc + 3) L st h Q) : q_wp n k pc L (.int x :: st) h Q := by
  by_cases hc : ¬ x = 0
  · refine wp_go (pc' := tgt) (L' := L) (st' := st) (h' := h) hfe ?_ (kt hc)
    show q_br (decide (¬ x = 0)) pc off L st h = _
    unfold q_br
    rw [if_pos (by omega), decide_eq_true hc, ht]
    rfl
  · refine wp_go (pc' := pc + 3) (L' := L) (st' := st) (h' := h) hfe ?_ (kf (Classical.not_not.mp hc))
    show q_br (decide (¬ x = 0)) pc off L st h = _
    unfold q_br
    rw [if_pos (by omega), decide_eq_false hc]
theorem wp_iflt {off : Int} {x : Int32} {tgt : Nat} (hfe : q_fe k pc = some (.ifCond .lt off)) (ht : (pc : Int) + off = (tgt : Int)) (kt : x < 0 → q_wp n k tgt L st h Q) (kf : ¬ x < 0 → q_wp n k (pc + 3) L st h Q) : q_wp n k pc L (.int x :: st) h Q := by
  by_cases hc : x < 0
  · refine wp_go (pc' := tgt) (L' := L) (st' := st) (h' := h) hfe ?_ (kt hc)
    show q_br (decide (x < 0)) pc off L st h = _
    unfold q_br
    rw [if_pos (by omega), decide_eq_true hc, ht]
    rfl
  · refine wp_go (pc' := pc + 3) (L' := L) (st' := st) (h' := h) hfe ?_ (kf (hc))
    show q_br (decide (x < 0)) pc off L st h = _
    unfold q_br
    rw [if_pos (by omega), decide_eq_false hc]
theorem wp_ifge {off : Int} {x : Int32} {tgt : Nat} (hfe : q_fe k pc = some (.ifCond .ge off)) (ht : (pc : Int) + off = (tgt : Int)) (kt : 0 ≤ x → q_wp n k tgt L st h Q) (kf : ¬ 0 ≤ x → q_wp n k (pc + 3) L st h Q) : q_wp n k pc L (.int x :: st) h Q := by
  by_cases hc : 0 ≤ x
  · refine wp_go (pc' := tgt) (L' := L) (st' := st) (h' := h) hfe ?_ (kt hc)
    show q_br (decide (0 ≤ x)) pc off L st h = _
    unfold q_br
    rw [if_pos (by omega), decide_eq_true hc, ht]
    rfl
  · refine wp_go (pc' := pc + 3) (L' := L) (st' := st) (h' := h) hfe ?_ (kf (hc))
    show q_br (decide (0 ≤ x)) pc off L st h = _
    unfold q_br
    rw [if_pos (by omega), decide_eq_false hc]
theorem wp_ifgt {off : Int} {x : Int32} {tgt : Nat} (hfe : q_fe k pc = some (.ifCond .gt off)) (ht : (pc : Int) + off = (tgt : Int)) (kt : 0 < x → q_wp n k tgt L st h Q) (kf : ¬ 0 < x → q_wp n k (pc + 3) L st h Q) : q_wp n k pc L (.int x :: st) h Q := by
  by_cases hc : 0 < x
  · refine wp_go (pc' := tgt) (L' := L) (st' := st) (h' := h) hfe ?_ (kt hc)
    show q_br (decide (0 < x)) pc off L st h = _
    unfold q_br
    rw [if_pos (by omega), decide_eq_true hc, ht]
    rfl
  · refine wp_go (pc' := pc + 3) (L' := L) (st' := st) (h' := h) hfe ?_ (kf (hc))
    show q_br (decide (0 < x)) pc off L st h = _
    unfold q_br
    rw [if_pos (by omega), decide_eq_false hc]
theorem wp_ifle {off : Int} {x : Int32} {tgt : Nat} (hfe : q_fe k pc = some (.ifCond .le off)) (ht : (pc : Int) + off = (tgt : Int)) (kt : x ≤ 0 → q_wp n k tgt L st h Q) (kf : ¬ x ≤ 0 → q_wp n k (pc + 3) L st h Q) : q_wp n k pc L (.int x :: st) h Q := by
  by_cases hc : x ≤ 0
  · refine wp_go (pc' := tgt) (L' := L) (st' := st) (h' := h) hfe ?_ (kt hc)
    show q_br (decide (x ≤ 0)) pc off L st h = _
    unfold q_br
    rw [if_pos (by omega), decide_eq_true hc, ht]
    rfl
  · refine wp_go (pc' := pc + 3) (L' := L) (st' := st) (h' := h) hfe ?_ (kf (hc))
    show q_br (decide (x ≤ 0)) pc off L st h = _
    unfold q_br
    rw [if_pos (by omega), decide_eq_false hc]
theorem wp_iceq {off : Int} {x y : Int32} {tgt : Nat} (hfe : q_fe k pc = some (.if_icmp .eq off)) (ht : (pc : Int) + off = (tgt : Int)) (kt : x = y → q_wp n k tgt L st h Q) (kf : ¬ x = y → q_wp n k (pc + 3) L st h Q) : q_wp n k pc L (.int y :: .int x :: st) h Q := by
  by_cases hc : x = y
  · refine wp_go (pc' := tgt) (L' := L) (st' := st) (h' := h) hfe ?_ (kt hc)
    show q_br (decide (x = y)) pc off L st h = _
    unfold q_br
    rw [if_pos (by omega), decide_eq_true hc, ht]
    rfl
  · refine wp_go (pc' := pc + 3) (L' := L) (st' := st) (h' := h) hfe ?_ (kf (hc))
    show q_br (decide (x = y)) pc off L st h = _
    unfold q_br
    rw [if_pos (by omega), decide_eq_false hc]
theorem wp_icne {off : Int} {x y : Int32} {tgt : Nat} (hfe : q_fe k pc = some (.if_icmp .ne off)) (ht : (pc : Int) + off = (tgt : Int)) (kt : ¬ x = y → q_wp n k tgt L st h Q) (kf : x = y → q_wp n k (pc + 3) L st h Q) : q_wp n k pc L (.int y :: .int x :: st) h Q := by
  by_cases hc : ¬ x = y
  · refine wp_go (pc' := tgt) (L' := L) (st' := st) (h' := h) hfe ?_ (kt hc)
    show q_br (decide (¬ x = y)) pc off L st h = _
    unfold q_br
    rw [if_pos (by omega), decide_eq_true hc, ht]
    rfl
  · refine wp_go (pc' := pc + 3) (L' := L) (st' := st) (h' := h) hfe ?_ (kf (Classical.not_not.mp hc))
    show q_br (decide (¬ x = y)) pc off L st h = _
    unfold q_br
    rw [if_pos (by omega), decide_eq_false hc]
theorem wp_iclt {off : Int} {x y : Int32} {tgt : Nat} (hfe : q_fe k pc = some (.if_icmp .lt off)) (ht : (pc : Int) + off = (tgt : Int)) (kt : x < y → q_wp n k tgt L st h Q) (kf : ¬ x < y → q_wp n k (pc + 3) L st h Q) : q_wp n k pc L (.int y :: .int x :: st) h Q := by
  by_cases hc : x < y
  · refine wp_go (pc' := tgt) (L' := L) (st' := st) (h' := h) hfe ?_ (kt hc)
    show q_br (decide (x < y)) pc off L st h = _
    unfold q_br
    rw [if_pos (by omega), decide_eq_true hc, ht]
    rfl
  · refine wp_go (pc' := pc + 3) (L' := L) (st' := st) (h' := h) hfe ?_ (kf (hc))
    show q_br (decide (x < y)) pc off L st h = _
    unfold q_br
    rw [if_pos (by omega), decide_eq_false hc]
theorem wp_icge {off : Int} {x y : Int32} {tgt : Nat} (hfe : q_fe k pc = some (.if_icmp .ge off)) (ht : (pc : Int) + off = (tgt : Int)) (kt : y ≤ x → q_wp n k tgt L st h Q) (kf : ¬ y ≤ x → q_wp n k (pc + 3) L st h Q) : q_wp n k pc L (.int y :: .int x :: st) h Q := by
  by_cases hc : y ≤ x
  · refine wp_go (pc' := tgt) (L' := L) (st' := st) (h' := h) hfe ?_ (kt hc)
    show q_br (decide (y ≤ x)) pc off L st h = _
    unfold q_br
    rw [if_pos (by omega), decide_eq_true hc, ht]
    rfl
  · refine wp_go (pc' := pc + 3) (L' := L) (st' := st) (h' := h) hfe ?_ (kf (hc))
    show q_br (decide (y ≤ x)) pc off L st h = _
    unfold q_br
    rw [if_pos (by omega), decide_eq_false hc]
theorem wp_icgt {off : Int} {x y : Int32} {tgt : Nat} (hfe : q_fe k pc = some (.if_icmp .gt off)) (ht : (pc : Int) + off = (tgt : Int)) (kt : y < x → q_wp n k tgt L st h Q) (kf : ¬ y < x → q_wp n k (pc + 3) L st h Q) : q_wp n k pc L (.int y :: .int x :: st) h Q := by
  by_cases hc : y < x
  · refine wp_go (pc' := tgt) (L' := L) (st' := st) (h' := h) hfe ?_ (kt hc)
    show q_br (decide (y < x)) pc off L st h = _
    unfold q_br
    rw [if_pos (by omega), decide_eq_true hc, ht]
    rfl
  · refine wp_go (pc' := pc + 3) (L' := L) (st' := st) (h' := h) hfe ?_ (kf (hc))
    show q_br (decide (y < x)) pc off L st h = _
    unfold q_br
    rw [if_pos (by omega), decide_eq_false hc]
theorem wp_icle {off : Int} {x y : Int32} {tgt : Nat} (hfe : q_fe k pc = some (.if_icmp .le off)) (ht : (pc : Int) + off = (tgt : Int)) (kt : x ≤ y → q_wp n k tgt L st h Q) (kf : ¬ x ≤ y → q_wp n k (pc + 3) L st h Q) : q_wp n k pc L (.int y :: .int x :: st) h Q := by
  by_cases hc : x ≤ y
  · refine wp_go (pc' := tgt) (L' := L) (st' := st) (h' := h) hfe ?_ (kt hc)
    show q_br (decide (x ≤ y)) pc off L st h = _
    unfold q_br
    rw [if_pos (by omega), decide_eq_true hc, ht]
    rfl
  · refine wp_go (pc' := pc + 3) (L' := L) (st' := st) (h' := h) hfe ?_ (kf (hc))
    show q_br (decide (x ≤ y)) pc off L st h = _
    unfold q_br
    rw [if_pos (by omega), decide_eq_false hc]
theorem wp_tab {dflt lo hi : Int} {offs : Array Int} {x : Int32} {dt : Nat} {tg : Nat → Nat} (hfe : q_fe k pc = some (.tableswitch dflt lo hi offs)) (hd : (pc : Int) + dflt = (dt : Int)) (hsz : hi = lo + (offs.size : Int) - 1) (htg : ∀ j, j < offs.size → (pc : Int) + offs.getD j 0 = (tg j : Int))
    (kin : ∀ j, j < offs.size → x.toInt = lo + (j : Int) → q_wp n k (tg j) L st h Q) (kout : (x.toInt < lo ∨ hi < x.toInt) → q_wp n k dt L st h Q) : q_wp n k pc L (.int x :: st) h Q := by
  by_cases hc : x.toInt < lo ∨ hi < x.toInt
  · refine wp_go (pc' := dt) (L' := L) (st' := st) (h' := h) hfe ?_ (kout hc)
    show (if x.toInt < lo ∨ hi < x.toInt then q_jmp pc dflt L st h else _) = _
    rw [if_pos hc]
    unfold q_jmp
    rw [if_pos (by omega), hd]
    rfl
  · have hj : (x.toInt - lo).toNat < offs.size := by omega
    have ho : offs[(x.toInt - lo).toNat]? = some (offs.getD (x.toInt - lo).toNat 0) := by
      rw [Array.getD_eq_getD_getElem?, Array.getElem?_eq_getElem hj]
      rfl
    have ht := htg _ hj
    refine wp_go (pc' := tg (x.toInt - lo).toNat) (L' := L) (st' := st) (h' := h) hfe ?_ (kin _ hj (by omega))
    show (if x.toInt < lo ∨ hi < x.toInt then _ else match offs[(x.toInt - lo).toNat]? with | some off => q_jmp pc off L st h | none => none) = _
    rw [if_neg hc, ho]
    show q_jmp pc _ L st h = _
    unfold q_jmp
    rw [if_pos (by omega), ht]
    rfl
theorem wp_getI {i ci sl a : Nat} (hfe : q_fe k pc = some (.getfield i)) (hf : q_lk (q_flT (q_ow k)) i = some (ci, sl)) (ht : q_isI (q_ty ci sl) = true) (hok : q_ok h a ci) (w : q_wp n k (pc + 3) L (.int (qI h a sl) :: st) h Q) : q_wp n k pc L (.ref a :: st) h Q := by
  refine wp_hea (m := 3) (h' := h) hfe rfl ?_ w
  simp only [q_hea, hf, ht, if_pos hok]
theorem wp_getJ {i ci sl a : Nat} (hfe : q_fe k pc = some (.getfield i)) (hf : q_lk (q_flT (q_ow k)) i = some (ci, sl)) (ht : q_isI (q_ty ci sl) = false) (hj : q_isJ (q_ty ci sl) = true) (hok : q_ok h a ci) (w : q_wp n k (pc + 3) L (.long (qL h a sl) :: st) h Q) : q_wp n k pc L (.ref a :: st) h Q := by
  refine wp_hea (m := 3) (h' := h) hfe rfl ?_ w
  simp only [q_hea, hf, ht, hj, if_pos hok]
theorem wp_getR {i ci sl a v : Nat} (hfe : q_fe k pc = some (.getfield i)) (hf : q_lk (q_flT (q_ow k)) i = some (ci, sl)) (ht : q_isI (q_ty ci sl) = false) (hj : q_isJ (q_ty ci sl) = false) (hok : q_ok h a ci) (hv : qR h a sl = v) (w : q_wp n k (pc + 3) L (.ref v :: st) h Q) : q_wp n k pc L (.ref a :: st) h Q := by
  refine wp_hea (m := 3) (h' := h) hfe rfl ?_ w
  simp only [q_hea, hf, ht, hj, if_pos hok, hv]
theorem wp_putI {i ci sl a : Nat} {v : Int32} (hfe : q_fe k pc = some (.putfield i)) (hf : q_lk (q_flT (q_ow k)) i = some (ci, sl)) (hfin : q_fin ci sl = false ∨ (q_ini k = true ∧ q_ow k = ci)) (ht : q_isI (q_ty ci sl) = true) (hz : q_isZ (q_ty ci sl) = true → v = 0 ∨ v = 1) (hok : q_ok h a ci) (w : q_wp n k (pc + 3) L st (q_sI h a sl v) Q) : q_wp n k pc L (.int v :: .ref a :: st) h Q := by
  refine wp_hea (m := 3) (h' := q_sI h a sl v) hfe rfl ?_ w
  simp only [q_hea, hf]
  rw [if_neg (by rcases hfin with h | h <;> simp [h]), if_pos ⟨hok, ht, hz⟩]
theorem wp_putJ {i ci sl a : Nat} {v : Int64} (hfe : q_fe k pc = some (.putfield i)) (hf : q_lk (q_flT (q_ow k)) i = some (ci, sl)) (hfin : q_fin ci sl = false ∨ (q_ini k = true ∧ q_ow k = ci)) (ht : q_isI (q_ty ci sl) = false) (hj : q_isJ (q_ty ci sl) = true) (hok : q_ok h a ci) (w : q_wp n k (pc + 3) L st (q_sL h a sl v) Q) : q_wp n k pc L (.long v :: .ref a :: st) h Q := by
  refine wp_hea (m := 3) (h' := q_sL h a sl v) hfe rfl ?_ w
  simp only [q_hea, hf]
  rw [if_neg (by rcases hfin with h | h <;> simp [h]), if_pos ⟨hok, ht, hj⟩]
theorem wp_putR {i ci sl a v : Nat} (hfe : q_fe k pc = some (.putfield i)) (hf : q_lk (q_flT (q_ow k)) i = some (ci, sl)) (hfin : q_fin ci sl = false ∨ (q_ini k = true ∧ q_ow k = ci)) (ht : q_isI (q_ty ci sl) = false) (hj : q_isJ (q_ty ci sl) = false) (hok : q_ok h a ci) (w : q_wp n k (pc + 3) L st (q_sR h a sl v) Q) : q_wp n k pc L (.ref v :: .ref a :: st) h Q := by
  refine wp_hea (m := 3) (h' := q_sR h a sl v) hfe rfl ?_ w
  simp only [q_hea, hf]
  rw [if_neg (by rcases hfin with h | h <;> simp [h]), if_pos ⟨hok, ht, hj⟩]
theorem wp_iald {a : Nat} {i : Int32} (hfe : q_fe k pc = some .iaload) (hok : q_ok h a 20) (hi : q_in i (qK h a).2) (w : q_wp n k (pc + 1) L (.int (qA h a i.toNatClampNeg) :: st) h Q) : q_wp n k pc L (.int i :: .ref a :: st) h Q := by
  refine wp_hea (m := 1) (h' := h) hfe rfl ?_ w
  simp only [q_hea]
  rw [if_pos ⟨hok, hi⟩]
theorem wp_bald {a : Nat} {i : Int32} (hfe : q_fe k pc = some .baload) (hok : q_ok h a 22 ∨ q_ok h a 23) (hi : q_in i (qK h a).2) (w : q_wp n k (pc + 1) L (.int (qA h a i.toNatClampNeg) :: st) h Q) : q_wp n k pc L (.int i :: .ref a :: st) h Q := by
  refine wp_hea (m := 1) (h' := h) hfe rfl ?_ w
  simp only [q_hea]
  rw [if_pos ⟨hok, hi⟩]
theorem wp_lald {a : Nat} {i : Int32} (hfe : q_fe k pc = some .laload) (hok : q_ok h a 21) (hi : q_in i (qK h a).2) (w : q_wp n k (pc + 1) L (.long (qL h a i.toNatClampNeg) :: st) h Q) : q_wp n k pc L (.int i :: .ref a :: st) h Q := by
  refine wp_hea (m := 1) (h' := h) hfe rfl ?_ w
  simp only [q_hea]
  rw [if_pos ⟨hok, hi⟩]
theorem wp_aald {a v : Nat} {i : Int32} (hfe : q_fe k pc = some .aaload) (hok : q_ok h a 24) (hi : q_in i (qK h a).2) (hv : qR h a i.toNatClampNeg = v) (w : q_wp n k (pc + 1) L (.ref v :: st) h Q) : q_wp n k pc L (.int i :: .ref a :: st) h Q := by
  refine wp_hea (m := 1) (h' := h) hfe rfl ?_ w
  simp only [q_hea]
  rw [if_pos ⟨hok, hi⟩, hv]
theorem wp_iast {a : Nat} {i x : Int32} (hfe : q_fe k pc = some .iastore) (hok : q_ok h a 20) (hi : q_in i (qK h a).2) (w : q_wp n k (pc + 1) L st (q_sA h a i.toNatClampNeg x) Q) : q_wp n k pc L (.int x :: .int i :: .ref a :: st) h Q := by
  refine wp_hea (m := 1) (h' := q_sA h a i.toNatClampNeg x) hfe rfl ?_ w
  simp only [q_hea]
  rw [if_pos ⟨hok, hi⟩]
theorem wp_bast {a : Nat} {i x : Int32} (hfe : q_fe k pc = some .bastore) (hok : q_ok h a 22) (hi : q_in i (qK h a).2) (w : q_wp n k (pc + 1) L st (q_sA h a i.toNatClampNeg (vp_nar .byte x)) Q) : q_wp n k pc L (.int x :: .int i :: .ref a :: st) h Q := by
  refine wp_hea (m := 1) (h' := q_sA h a i.toNatClampNeg (vp_nar .byte x)) hfe rfl ?_ w
  simp only [q_hea]
  rw [if_pos ⟨hok, hi⟩]
theorem wp_zast {a : Nat} {i x : Int32} (hfe : q_fe k pc = some .bastore) (hok : q_ok h a 23) (hi : q_in i (qK h a).2) (w : q_wp n k (pc + 1) L st (q_sA h a i.toNatClampNeg (vp_nar .boolean x)) Q) : q_wp n k pc L (.int x :: .int i :: .ref a :: st) h Q := by
  refine wp_hea (m := 1) (h' := q_sA h a i.toNatClampNeg (vp_nar .boolean x)) hfe rfl ?_ w
  simp only [q_hea]
  rw [if_neg (fun h2 => by have h3 := h2.1.2.2; have h4 := hok.2.2; omega), if_pos ⟨hok, hi⟩]
theorem wp_last {a : Nat} {i : Int32} {x : Int64} (hfe : q_fe k pc = some .lastore) (hok : q_ok h a 21) (hi : q_in i (qK h a).2) (w : q_wp n k (pc + 1) L st (q_sL h a i.toNatClampNeg x) Q) : q_wp n k pc L (.long x :: .int i :: .ref a :: st) h Q := by
  refine wp_hea (m := 1) (h' := q_sL h a i.toNatClampNeg x) hfe rfl ?_ w
  simp only [q_hea]
  rw [if_pos ⟨hok, hi⟩]
theorem wp_aast {a x : Nat} {i : Int32} (hfe : q_fe k pc = some .aastore) (hok : q_ok h a 24) (hi : q_in i (qK h a).2) (hx : q_ok h x 6) (w : q_wp n k (pc + 1) L st (q_sR h a i.toNatClampNeg x) Q) : q_wp n k pc L (.ref x :: .int i :: .ref a :: st) h Q := by
  refine wp_hea (m := 1) (h' := q_sR h a i.toNatClampNeg x) hfe rfl ?_ w
  simp only [q_hea]
  rw [if_pos ⟨hok, hi, hx⟩]
theorem wp_alen {a cd : Nat} (hfe : q_fe k pc = some .arraylength) (hok : q_ok h a cd) (hc : 20 ≤ cd ∧ cd ≤ 24) (w : q_wp n k (pc + 1) L (.int (Int32.ofNat (qK h a).2) :: st) h Q) : q_wp n k pc L (.ref a :: st) h Q := by
  refine wp_hea (m := 1) (h' := h) hfe rfl ?_ w
  simp only [q_hea]
  rw [if_pos ⟨hok.1, hok.2.1, by rw [hok.2.2]; exact hc.1, by rw [hok.2.2]; exact hc.2⟩]
theorem wp_new {i ci : Nat} (hfe : q_fe k pc = some (.new i)) (hc : q_lkk q_clT (q_ow k, i) = some ci) (hN : qN h + 1 < 2 ^ 30) (w : q_wp n k (pc + 3) L (.ref (qN h + 1) :: st) (q_al h ci (q_nf ci)) Q) : q_wp n k pc L st h Q := by
  refine wp_hea (m := 3) (h' := q_al h ci (q_nf ci)) hfe rfl ?_ w
  simp only [q_hea, hc]
  rw [if_pos hN]
theorem wp_newa {t : ArrayType} {kd : Nat} {x : Int32} (hfe : q_fe k pc = some (.newarray t)) (ht : q_kd t = some kd) (h1 : ¬ x < 0 ∧ x.toNatClampNeg ≤ 65536) (hN : qN h + 1 < 2 ^ 30) (w : q_wp n k (pc + 2) L (.ref (qN h + 1) :: st) (q_al h kd x.toNatClampNeg) Q) : q_wp n k pc L (.int x :: st) h Q := by
  refine wp_hea (m := 2) (h' := q_al h kd x.toNatClampNeg) hfe rfl ?_ w
  simp only [q_hea, ht]
  rw [if_pos ⟨h1.1, h1.2, hN⟩]
theorem wp_anew {i : Nat} {x : Int32} (hfe : q_fe k pc = some (.anewarray i)) (hc : q_lkk q_clT (q_ow k, i) = some 6) (h1 : ¬ x < 0 ∧ x.toNatClampNeg ≤ 65536) (hN : qN h + 1 < 2 ^ 30) (w : q_wp n k (pc + 3) L (.ref (qN h + 1) :: st) (q_al h 24 x.toNatClampNeg) Q) : q_wp n k pc L (.int x :: st) h Q := by
  refine wp_hea (m := 3) (h' := q_al h 24 x.toNatClampNeg) hfe rfl ?_ w
  simp only [q_hea, hc]
  rw [if_pos ⟨trivial, h1.1, h1.2, hN⟩]
theorem wp_oini {i a : Nat} (hfe : q_fe k pc = some (.invokespecial i)) (hc : q_cal (q_ow k) (.invokespecial i) = none) (hm : (q_ow k, i) ∈ q_oT) (hn : 0 < n) (hs : q_small st = true) (ha : 0 < a ∧ a < 2 ^ 30) (w : q_wp n k (pc + 3) L st h Q) : q_wp n k pc L (.ref a :: st) h Q := by
  refine wp_hea (m := 3) (h' := h) hfe hc ?_ w
  simp only [q_hea]
  rw [if_pos ⟨hm, hn, hs, ha⟩]
theorem wp_acpy {a b : Nat} {x dp sp : Int32} (hfe : q_fe k pc = some (.invokestatic 18)) (ho : q_ow k = 2) (hn : 0 < n) (hs : q_small st = true) (ha : q_ok h a 20) (hb : q_ok h b 20) (h1 : ¬ sp < 0) (h2 : ¬ dp < 0) (h3 : ¬ x < 0) (h4 : sp.toNatClampNeg + x.toNatClampNeg ≤ (qK h a).2) (h5 : dp.toNatClampNeg + x.toNatClampNeg ≤ (qK h b).2)
    (w : q_wp n k (pc + 3) L st (q_cpyA h a sp.toNatClampNeg b dp.toNatClampNeg x.toNatClampNeg) Q) : q_wp n k pc L (.int x :: .int dp :: .ref b :: .int sp :: .ref a :: st) h Q := by
  refine wp_hea (m := 3) (h' := q_cpyA h a sp.toNatClampNeg b dp.toNatClampNeg x.toNatClampNeg) hfe (by rw [ho]; rfl) ?_ w
  simp only [q_hea]
  rw [if_pos ⟨ho, trivial, hn, hs, ha, hb, h1, h2, h3, h4, h5⟩]
end QR
