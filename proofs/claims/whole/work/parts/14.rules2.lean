/-! further rules: constants, and calls by what they answer -/
def q_mI (n k : Nat) (args : List Value) (h : q_Hp) (P : Int32 → q_Hp → Prop) : Prop := q_mp n k args h (fun r h' => ∃ z : Int32, r = some (.int z) ∧ P z h')
def q_mJ (n k : Nat) (args : List Value) (h : q_Hp) (P : Int64 → q_Hp → Prop) : Prop := q_mp n k args h (fun r h' => ∃ z : Int64, r = some (.long z) ∧ P z h')
def q_mR (n k : Nat) (args : List Value) (h : q_Hp) (P : Nat → q_Hp → Prop) : Prop := q_mp n k args h (fun r h' => ∃ z : Nat, r = some (.ref z) ∧ P z h')
def q_mV (n k : Nat) (args : List Value) (h : q_Hp) (P : q_Hp → Prop) : Prop := q_mp n k args h (fun r h' => r = none ∧ P h')
section QR2
variable {n k pc : Nat} {L : q_Lc} {st : List Value} {h : q_Hp} {Q : Option Value → q_Hp → Prop}
theorem q_mI.mono {n' : Nat} {args : List Value} {P P' : Int32 → q_Hp → Prop} (w : q_mI n k args h P) (hn : n ≤ n') (hp : ∀ z h', P z h' → P' z h') : q_mI n' k args h P' := (q_mp.le hn w).mono (fun _ _ ⟨z, e, q⟩ => ⟨z, e, hp z _ q⟩)
theorem q_mJ.mono {n' : Nat} {args : List Value} {P P' : Int64 → q_Hp → Prop} (w : q_mJ n k args h P) (hn : n ≤ n') (hp : ∀ z h', P z h' → P' z h') : q_mJ n' k args h P' := (q_mp.le hn w).mono (fun _ _ ⟨z, e, q⟩ => ⟨z, e, hp z _ q⟩)
theorem q_mR.mono {n' : Nat} {args : List Value} {P P' : Nat → q_Hp → Prop} (w : q_mR n k args h P) (hn : n ≤ n') (hp : ∀ z h', P z h' → P' z h') : q_mR n' k args h P' := (q_mp.le hn w).mono (fun _ _ ⟨z, e, q⟩ => ⟨z, e, hp z _ q⟩)
theorem q_mV.mono {n' : Nat} {args : List Value} {P P' : q_Hp → Prop} (w : q_mV n k args h P) (hn : n ≤ n') (hp : ∀ h', P h' → P' h') : q_mV n' k args h P' := (q_mp.le hn w).mono (fun _ _ ⟨e, q⟩ => ⟨e, hp _ q⟩)
theorem wp_iconst {i : Int} {v : Int32} (hfe : q_fe k pc = some (.iconst i)) (hv : Int32.ofInt i = v) (w : q_wp n k (pc + 1) L (.int v :: st) h Q) : q_wp n k pc L st h Q := wp_stk hfe rfl (by subst hv; rfl) w
theorem wp_bipush {i : Int} {v : Int32} (hfe : q_fe k pc = some (.bipush i)) (hv : (Int8.ofInt i).toInt32 = v) (w : q_wp n k (pc + 2) L (.int v :: st) h Q) : q_wp n k pc L st h Q := wp_stk hfe rfl (by subst hv; rfl) w
theorem wp_sipush {i : Int} {v : Int32} (hfe : q_fe k pc = some (.sipush i)) (hv : (Int16.ofInt i).toInt32 = v) (w : q_wp n k (pc + 3) L (.int v :: st) h Q) : q_wp n k pc L st h Q := wp_stk hfe rfl (by subst hv; rfl) w
theorem wp_lconst {i : Fin 2} {v : Int64} (hfe : q_fe k pc = some (.lconst i)) (hv : Int64.ofNat (i : Nat) = v) (w : q_wp n k (pc + 1) L (.long v :: st) h Q) : q_wp n k pc L st h Q := wp_stk hfe rfl (by subst hv; rfl) w
theorem wp_irem {x y : Int32} (hfe : q_fe k pc = some .irem) (hy : ¬ y = 0) (w : q_wp n k (pc + 1) L (.int (x - x / y * y) :: st) h Q) : q_wp n k pc L (.int y :: .int x :: st) h Q := wp_stk hfe rfl (if_neg hy) w
theorem wp_iinc {i : Nat} {c : Int} {x v : Int32} {L' : q_Lc} (hfe : q_fe k pc = some (.iinc i c)) (hl : q_ld L i = some (.int x)) (hv : Int32.ofInt c = v) (hL : q_set L i (.int (x + v)) = L') (w : q_wp n k (pc + 3) L' st h Q) : q_wp n k pc L st h Q := by
  refine wp_loc hfe ?_ w
  subst hv
  subst hL
  show (match q_iinc L i c with | some L' => some (3, L', st) | none => none) = _
  unfold q_iinc
  rw [hl]
theorem wp_callV {ins : Instr} {k' m : Nat} {av rest : List Value} {P : q_Hp → Prop} (hfe : q_fe k pc = some ins) (hret : q_ret (q_rt k) ins st = none) (hcal : q_cal (q_ow k) ins = some k') (hk : k' < 353) (hst : st = av.reverse ++ rest) (hlen : av.length = q_na k') (hsm : q_small rest = true) (hm : m ≤ n)
    (hc : q_mV m k' av h P) (w : ∀ h' : q_Hp, P h' → q_wp (n + 1) k (pc + 3) L rest h' Q) : q_wp (n + 1) k pc L st h Q :=
  wp_call hfe hret hcal hk hst hlen hsm hm hc (fun r h' ⟨e, q⟩ => by subst e; exact w h' q)
theorem wp_callI {ins : Instr} {k' m : Nat} {av rest : List Value} {P : Int32 → q_Hp → Prop} (hfe : q_fe k pc = some ins) (hret : q_ret (q_rt k) ins st = none) (hcal : q_cal (q_ow k) ins = some k') (hk : k' < 353) (hst : st = av.reverse ++ rest) (hlen : av.length = q_na k') (hsm : q_small rest = true) (hm : m ≤ n)
    (hc : q_mI m k' av h P) (w : ∀ (z : Int32) (h' : q_Hp), P z h' → q_wp (n + 1) k (pc + 3) L (.int z :: rest) h' Q) : q_wp (n + 1) k pc L st h Q :=
  wp_call hfe hret hcal hk hst hlen hsm hm hc (fun r h' ⟨z, e, q⟩ => by subst e; exact w z h' q)
theorem wp_callJ {ins : Instr} {k' m : Nat} {av rest : List Value} {P : Int64 → q_Hp → Prop} (hfe : q_fe k pc = some ins) (hret : q_ret (q_rt k) ins st = none) (hcal : q_cal (q_ow k) ins = some k') (hk : k' < 353) (hst : st = av.reverse ++ rest) (hlen : av.length = q_na k') (hsm : q_small rest = true) (hm : m ≤ n)
    (hc : q_mJ m k' av h P) (w : ∀ (z : Int64) (h' : q_Hp), P z h' → q_wp (n + 1) k (pc + 3) L (.long z :: rest) h' Q) : q_wp (n + 1) k pc L st h Q :=
  wp_call hfe hret hcal hk hst hlen hsm hm hc (fun r h' ⟨z, e, q⟩ => by subst e; exact w z h' q)
theorem wp_callR {ins : Instr} {k' m : Nat} {av rest : List Value} {P : Nat → q_Hp → Prop} (hfe : q_fe k pc = some ins) (hret : q_ret (q_rt k) ins st = none) (hcal : q_cal (q_ow k) ins = some k') (hk : k' < 353) (hst : st = av.reverse ++ rest) (hlen : av.length = q_na k') (hsm : q_small rest = true) (hm : m ≤ n)
    (hc : q_mR m k' av h P) (w : ∀ (z : Nat) (h' : q_Hp), P z h' → q_wp (n + 1) k (pc + 3) L (.ref z :: rest) h' Q) : q_wp (n + 1) k pc L st h Q :=
  wp_call hfe hret hcal hk hst hlen hsm hm hc (fun r h' ⟨z, e, q⟩ => by subst e; exact w z h' q)
end QR2
