/-! THE SMALL MACHINE: a heap of numbered cells, and the program's own instructions over it, as one function. -/
def q_lkk {α : Type} (l : List ((Nat × Nat) × α)) (i : Nat × Nat) : Option α := match l with
  | [] => none
  | e :: l => if e.1 = i then some e.2 else q_lkk l i
def q_tx0 : List Int32 := [116, 121, 112, 101, 32, 111, 102, 32, 115, 111, 114, 116, 32, 114, 117, 108, 101, 32, 112, 114, 111, 99, 32, 101, 110, 100, 32, 110, 111, 100, 101, 32, 108, 105, 110, 107, 32, 109, 101, 114, 103, 101, 32, 110, 111, 116, 32, 105, 102, 32, 100, 101, 108, 32, 110, 101, 119, 32, 106, 111, 105, 110, 32, 115, 101, 116, 32, 100, 111, 32, 97, 108, 108, 32, 97, 110, 121, 32, 99, 97, 108, 108, 32, 102, 97, 105, 108, 32, 119, 104, 105, 108, 101, 32, 108, 111, 111, 112, 32, 116, 114, 121, 32, 116, 104, 101, 110, 32, 101, 108, 115, 101, 32]
def q_tx1 : List Int32 := [58, 59, 46, 44, 61, 60, 43, 45, 42, 40, 41]
-- the heap: how many cells; what each is (a class 0 .. 12 and its number of fields; 20 int[], 21 long[], 22 byte[], 23 boolean[], 24 Rule[] and its length); int fields; reference fields and elements (0: null); int, byte, boolean elements; long elements; slots made
abbrev q_Hp : Type := Nat × (Nat → Nat × Nat) × (Nat → Nat → Int32) × (Nat → Nat → Nat) × (Nat → Nat → Int32) × (Nat → Nat → Int64) × Nat
def qN (h : q_Hp) : Nat := h.1
def qK (h : q_Hp) : Nat → Nat × Nat := h.2.1
def qI (h : q_Hp) : Nat → Nat → Int32 := h.2.2.1
def qR (h : q_Hp) : Nat → Nat → Nat := h.2.2.2.1
def qA (h : q_Hp) : Nat → Nat → Int32 := h.2.2.2.2.1
def qL (h : q_Hp) : Nat → Nat → Int64 := h.2.2.2.2.2.1
def qZ (h : q_Hp) : Nat := h.2.2.2.2.2.2
def q_up {α : Type} (f : Nat → Nat → α) (a j : Nat) (v : α) : Nat → Nat → α := fun x y => if x = a ∧ y = j then v else f x y
def q_sI (h : q_Hp) (a j : Nat) (v : Int32) : q_Hp := (qN h, qK h, q_up (qI h) a j v, qR h, qA h, qL h, qZ h)
def q_sR (h : q_Hp) (a j : Nat) (v : Nat) : q_Hp := (qN h, qK h, qI h, q_up (qR h) a j v, qA h, qL h, qZ h)
def q_sA (h : q_Hp) (a j : Nat) (v : Int32) : q_Hp := (qN h, qK h, qI h, qR h, q_up (qA h) a j v, qL h, qZ h)
def q_sL (h : q_Hp) (a j : Nat) (v : Int64) : q_Hp := (qN h, qK h, qI h, qR h, qA h, q_up (qL h) a j v, qZ h)
def q_cpyA (h : q_Hp) (a sp b dp n : Nat) : q_Hp := (qN h, qK h, qI h, qR h, (fun x y => if x = b then va_cpy (qA h a) (qA h b) sp dp n y else qA h x y), qL h, qZ h)
/-- a new cell: its number is one more than there were -/
def q_al (h : q_Hp) (cd len : Nat) : q_Hp :=
  (qN h + 1, (fun x => if x = qN h + 1 then (cd, len) else qK h x), (fun x y => if x = qN h + 1 then 0 else qI h x y), (fun x y => if x = qN h + 1 then 0 else qR h x y),
    (fun x y => if x = qN h + 1 then 0 else qA h x y), (fun x y => if x = qN h + 1 then 0 else qL h x y), qZ h + len)
abbrev q_ok (h : q_Hp) (a cd : Nat) : Prop := 0 < a ∧ a ≤ qN h ∧ (qK h a).1 = cd
abbrev q_in (i : Int32) (n : Nat) : Prop := ¬ i < 0 ∧ i.toNatClampNeg < n
def q_isI (t : FieldType) : Bool := match t with
  | .int => true
  | .boolean => true
  | _ => false
def q_isJ (t : FieldType) : Bool := match t with
  | .long => true
  | _ => false
def q_isZ (t : FieldType) : Bool := match t with
  | .boolean => true
  | _ => false
-- the locals: by their places
abbrev q_Lc : Type := List (Option Value)
def q_clr (L : q_Lc) (i : Nat) : q_Lc := match i with
  | 0 => L
  | j + 1 => match L[j]? with
    | some (some (.long _)) => L.set j none
    | some (some (.double _)) => L.set j none
    | _ => L
def q_set (L : q_Lc) (i : Nat) (v : Value) : q_Lc := (q_clr L i).set i (some v)
def q_set2 (L : q_Lc) (i : Nat) (v : Value) : q_Lc := ((q_clr L i).set i (some v)).set (i + 1) none
def q_fe (k pc : Nat) : Option Instr := ((q_m k).2.2.2.2.2.2.2.find? (fun e => e.1 == pc)).map (fun e => e.2.1)
def q_ow (k : Nat) : Nat := (q_m k).2.2.2.2.1
def q_rt (k : Nat) : Option FieldType := (q_m k).2.2.2.1
def q_na (k : Nat) : Nat := (q_m k).2.2.2.2.2.1
def q_ml (k : Nat) : Nat := (q_m k).2.2.1
def q_stc (k : Nat) : Bool := (q_m k).2.2.2.2.2.2.1
def q_ini (k : Nat) : Bool := (q_m k).1.name == "<init>"
def q_fin (ci sl : Nat) : Bool := (q_ct ci sl).2.2.2
abbrev q_Cf : Type := Nat × q_Lc × List Value × q_Hp
def q_ld (L : q_Lc) (i : Nat) : Option Value := match L[i]? with
  | some v => v
  | none => none
def q_jmp (pc : Nat) (off : Int) (L : q_Lc) (st : List Value) (h : q_Hp) : Option q_Cf := if 0 ≤ (pc : Int) + off then some (((pc : Int) + off).toNat, L, st, h) else none
def q_br (c : Bool) (pc : Nat) (off : Int) (L : q_Lc) (st : List Value) (h : q_Hp) : Option q_Cf := if 0 ≤ (pc : Int) + off then some (match c with | true => ((pc : Int) + off).toNat | false => pc + 3, L, st, h) else none
def q_ic (c : ClassFile.Cond) (x : Int32) : Bool := match c with
  | .eq => decide (x = 0)
  | .ne => decide (¬ x = 0)
  | .lt => decide (x < 0)
  | .ge => decide (0 ≤ x)
  | .gt => decide (0 < x)
  | .le => decide (x ≤ 0)
def q_icc (c : ClassFile.Cond) (x y : Int32) : Bool := match c with
  | .eq => decide (x = y)
  | .ne => decide (¬ x = y)
  | .lt => decide (x < y)
  | .ge => decide (y ≤ x)
  | .gt => decide (y < x)
  | .le => decide (x ≤ y)
def q_i2 (ins : Instr) : Option (Int32 → Int32 → Int32) := match ins with
  | .iadd => some (fun x y => x + y)
  | .isub => some (fun x y => x - y)
  | .imul => some (fun x y => x * y)
  | .iand => some (fun x y => x &&& y)
  | .ior => some (fun x y => x ||| y)
  | .ixor => some (fun x y => x ^^^ y)
  | .ishl => some (fun x y => x <<< (y &&& 31))
  | .ishr => some (fun x y => x >>> (y &&& 31))
  | _ => none
def q_l2 (ins : Instr) : Option (Int64 → Int64 → Int64) := match ins with
  | .ladd => some (fun x y => x + y)
  | .lsub => some (fun x y => x - y)
  | .lmul => some (fun x y => x * y)
  | .land => some (fun x y => x &&& y)
  | .lor => some (fun x y => x ||| y)
  | _ => none
def q_kd (t : ArrayType) : Option Nat := match t with
  | .int => some 20
  | .long => some 21
  | .byte => some 22
  | .boolean => some 23
  | _ => none
def q_small (st : List Value) : Bool := match st with
  | [] => true
  | [_] => true
  | [_, _] => true
  | [_, _, _] => true
  | [_, _, _, _] => true
  | _ => false
/-- what pushes or works on the stack alone -/
def q_stk (own : Nat) (ins : Instr) (st : List Value) : Option (Nat × List Value) := match ins with
  | .iconst n => some (1, .int (Int32.ofInt n) :: st)
  | .bipush n => some (2, .int (Int8.ofInt n).toInt32 :: st)
  | .sipush n => some (3, .int (Int16.ofInt n).toInt32 :: st)
  | .lconst n => some (1, .long (Int64.ofNat (n : Nat)) :: st)
  | .ldc i => match q_lkk q_kT (own, i) with
    | some v => some (2, .int v :: st)
    | none => if own = 9 ∧ i = 25 then some (2, .ref (2 ^ 30) :: st) else if own = 9 ∧ i = 87 then some (2, .ref (2 ^ 30 + 1) :: st) else none
  | .ldc2_w i => match q_lkk q_k2T (own, i) with
    | some v => some (3, .long v :: st)
    | none => none
  | .irem => match st with
    | .int y :: .int x :: st => if y = 0 then none else some (1, .int (x - x / y * y) :: st)
    | _ => none
  | .lcmp => match st with
    | .long y :: .long x :: st => some (1, .int (lg_cmp x y) :: st)
    | _ => none
  | .lneg => match st with
    | .long x :: st => some (1, .long (-x) :: st)
    | _ => none
  | .lshl => match st with
    | .int y :: .long x :: st => some (1, .long (x <<< (y.toInt64 &&& 63)) :: st)
    | _ => none
  | .lshr => match st with
    | .int y :: .long x :: st => some (1, .long (x >>> (y.toInt64 &&& 63)) :: st)
    | _ => none
  | .i2l => match st with
    | .int x :: st => some (1, .long x.toInt64 :: st)
    | _ => none
  | .l2i => match st with
    | .long x :: st => some (1, .int x.toInt32 :: st)
    | _ => none
  | .i2b => match st with
    | .int x :: st => some (1, .int x.toInt8.toInt32 :: st)
    | _ => none
  | .i2c => match st with
    | .int x :: st => some (1, .int (x.toUInt32 % 65536).toInt32 :: st)
    | _ => none
  | .dup => match st with
    | .int x :: st => some (1, .int x :: .int x :: st)
    | .ref x :: st => some (1, .ref x :: .ref x :: st)
    | _ => none
  | .dup2 => match st with
    | .int y :: .ref x :: st => some (1, .int y :: .ref x :: .int y :: .ref x :: st)
    | _ => none
  | .pop => match st with
    | .int _ :: st => some (1, st)
    | .ref _ :: st => some (1, st)
    | _ => none
  | _ => match q_i2 ins with
    | some f => match st with
      | .int y :: .int x :: st => some (1, .int (f x y) :: st)
      | _ => none
    | none => match q_l2 ins with
      | some f => match st with
        | .long y :: .long x :: st => some (1, .long (f x y) :: st)
        | _ => none
      | none => none
def q_iinc (L : q_Lc) (i : Nat) (n : Int) : Option q_Lc := match q_ld L i with
  | some (.int x) => some (q_set L i (.int (x + Int32.ofInt n)))
  | _ => none
/-- what loads or stores a local -/
def q_loc (ins : Instr) (L : q_Lc) (st : List Value) : Option (Nat × q_Lc × List Value) := match ins with
  | .iload i => match q_ld L i with
    | some (.int x) => some (2, L, .int x :: st)
    | _ => none
  | .iload_n i => match q_ld L i with
    | some (.int x) => some (1, L, .int x :: st)
    | _ => none
  | .lload i => match q_ld L i with
    | some (.long x) => some (2, L, .long x :: st)
    | _ => none
  | .lload_n i => match q_ld L i with
    | some (.long x) => some (1, L, .long x :: st)
    | _ => none
  | .aload i => match q_ld L i with
    | some (.ref x) => some (2, L, .ref x :: st)
    | _ => none
  | .aload_n i => match q_ld L i with
    | some (.ref x) => some (1, L, .ref x :: st)
    | _ => none
  | .istore i => match st with
    | .int x :: st => if i < L.length then some (2, q_set L i (.int x), st) else none
    | _ => none
  | .istore_n i => match st with
    | .int x :: st => if (i : Nat) < L.length then some (1, q_set L i (.int x), st) else none
    | _ => none
  | .lstore i => match st with
    | .long x :: st => if i + 1 < L.length then some (2, q_set2 L i (.long x), st) else none
    | _ => none
  | .lstore_n i => match st with
    | .long x :: st => if (i : Nat) + 1 < L.length then some (1, q_set2 L i (.long x), st) else none
    | _ => none
  | .astore i => match st with
    | .ref x :: st => if i < L.length then some (2, q_set L i (.ref x), st) else none
    | _ => none
  | .astore_n i => match st with
    | .ref x :: st => if (i : Nat) < L.length then some (1, q_set L i (.ref x), st) else none
    | _ => none
  | .iinc i n => match q_iinc L i n with
    | some L' => some (3, L', st)
    | none => none
  | _ => none
/-- jumps -/
def q_go (ins : Instr) (pc : Nat) (L : q_Lc) (st : List Value) (h : q_Hp) : Option q_Cf := match ins with
  | .goto off => q_jmp pc off L st h
  | .ifCond c off => match st with
    | .int x :: st => q_br (q_ic c x) pc off L st h
    | _ => none
  | .if_icmp c off => match st with
    | .int y :: .int x :: st => q_br (q_icc c x y) pc off L st h
    | _ => none
  | .tableswitch dflt lo hi offs => match st with
    | .int x :: st => if x.toInt < lo ∨ hi < x.toInt then q_jmp pc dflt L st h else match offs[(x.toInt - lo).toNat]? with
      | some off => q_jmp pc off L st h
      | none => none
    | _ => none
  | .lookupswitch dflt ps => match st with
    | .int x :: st => if (ps.toList.zip (ps.toList.drop 1)).all (fun (a, next) => a.1 < next.1) = true then q_jmp pc (Op.lookupswitch.offset ps.toList dflt x.toInt) L st h else none
    | _ => none
  | _ => none
/-- the heap -/
def q_hea (own : Nat) (ini : Bool) (d : Nat) (ins : Instr) (st : List Value) (h : q_Hp) : Option (Nat × List Value × q_Hp) := match ins with
  | .getfield i => match q_lk (q_flT own) i with
    | some (ci, sl) => match st with
      | .ref a :: st => if q_ok h a ci then some (3, (match q_isI (q_ty ci sl) with | true => .int (qI h a sl) | false => match q_isJ (q_ty ci sl) with | true => .long (qL h a sl) | false => .ref (qR h a sl)) :: st, h) else none
      | _ => none
    | none => none
  | .putfield i => match q_lk (q_flT own) i with
    | some (ci, sl) => if q_fin ci sl = true ∧ ¬ (ini = true ∧ own = ci) then none else match st with
      | .int v :: .ref a :: st => if q_ok h a ci ∧ q_isI (q_ty ci sl) = true ∧ (q_isZ (q_ty ci sl) = true → v = 0 ∨ v = 1) then some (3, st, q_sI h a sl v) else none
      | .ref v :: .ref a :: st => if q_ok h a ci ∧ q_isI (q_ty ci sl) = false ∧ q_isJ (q_ty ci sl) = false then some (3, st, q_sR h a sl v) else none
      | .long v :: .ref a :: st => if q_ok h a ci ∧ q_isI (q_ty ci sl) = false ∧ q_isJ (q_ty ci sl) = true then some (3, st, q_sL h a sl v) else none
      | _ => none
    | none => none
  | .iaload => match st with
    | .int i :: .ref a :: st => if q_ok h a 20 ∧ q_in i (qK h a).2 then some (1, .int (qA h a i.toNatClampNeg) :: st, h) else none
    | _ => none
  | .baload => match st with
    | .int i :: .ref a :: st => if (q_ok h a 22 ∨ q_ok h a 23) ∧ q_in i (qK h a).2 then some (1, .int (qA h a i.toNatClampNeg) :: st, h) else none
    | _ => none
  | .laload => match st with
    | .int i :: .ref a :: st => if q_ok h a 21 ∧ q_in i (qK h a).2 then some (1, .long (qL h a i.toNatClampNeg) :: st, h) else none
    | _ => none
  | .aaload => match st with
    | .int i :: .ref a :: st => if q_ok h a 24 ∧ q_in i (qK h a).2 then some (1, .ref (qR h a i.toNatClampNeg) :: st, h) else none
    | _ => none
  | .iastore => match st with
    | .int x :: .int i :: .ref a :: st => if q_ok h a 20 ∧ q_in i (qK h a).2 then some (1, st, q_sA h a i.toNatClampNeg x) else none
    | _ => none
  | .bastore => match st with
    | .int x :: .int i :: .ref a :: st => if q_ok h a 22 ∧ q_in i (qK h a).2 then some (1, st, q_sA h a i.toNatClampNeg (vp_nar .byte x)) else if q_ok h a 23 ∧ q_in i (qK h a).2 then some (1, st, q_sA h a i.toNatClampNeg (vp_nar .boolean x)) else none
    | _ => none
  | .lastore => match st with
    | .long x :: .int i :: .ref a :: st => if q_ok h a 21 ∧ q_in i (qK h a).2 then some (1, st, q_sL h a i.toNatClampNeg x) else none
    | _ => none
  | .aastore => match st with
    | .ref x :: .int i :: .ref a :: st => if q_ok h a 24 ∧ q_in i (qK h a).2 ∧ q_ok h x 6 then some (1, st, q_sR h a i.toNatClampNeg x) else none
    | _ => none
  | .arraylength => match st with
    | .ref a :: st => if 0 < a ∧ a ≤ qN h ∧ 20 ≤ (qK h a).1 ∧ (qK h a).1 ≤ 24 then some (1, .int (Int32.ofNat (qK h a).2) :: st, h) else none
    | _ => none
  | .new i => match q_lkk q_clT (own, i) with
    | some ci => if qN h + 1 < 2 ^ 30 then some (3, .ref (qN h + 1) :: st, q_al h ci (q_nf ci)) else none
    | none => none
  | .newarray t => match q_kd t with
    | some kd => match st with
      | .int n :: st => if ¬ n < 0 ∧ n.toNatClampNeg ≤ 65536 ∧ qN h + 1 < 2 ^ 30 then some (2, .ref (qN h + 1) :: st, q_al h kd n.toNatClampNeg) else none
      | _ => none
    | none => none
  | .anewarray i => match q_lkk q_clT (own, i) with
    | some ci => match st with
      | .int n :: st => if ci = 6 ∧ ¬ n < 0 ∧ n.toNatClampNeg ≤ 65536 ∧ qN h + 1 < 2 ^ 30 then some (3, .ref (qN h + 1) :: st, q_al h 24 n.toNatClampNeg) else none
      | _ => none
    | none => none
  | .invokespecial i => match st with
    | .ref a :: st => if (own, i) ∈ q_oT ∧ 0 < d ∧ q_small st = true ∧ 0 < a ∧ a < 2 ^ 30 then some (3, st, h) else none
    | _ => none
  | .invokestatic i => match st with
    | .int n :: .int dp :: .ref b :: .int sp :: .ref a :: st =>
      if own = 2 ∧ i = 18 ∧ 0 < d ∧ q_small st = true ∧ q_ok h a 20 ∧ q_ok h b 20 ∧ ¬ sp < 0 ∧ ¬ dp < 0 ∧ ¬ n < 0 ∧ sp.toNatClampNeg + n.toNatClampNeg ≤ (qK h a).2 ∧ dp.toNatClampNeg + n.toNatClampNeg ≤ (qK h b).2
      then some (3, st, q_cpyA h a sp.toNatClampNeg b dp.toNatClampNeg n.toNatClampNeg) else none
    | _ => none
  | _ => none
/-- one instruction that is no call of a method of the program and no return -/
def q_stp (own : Nat) (ini : Bool) (d : Nat) (ins : Instr) (pc : Nat) (L : q_Lc) (st : List Value) (h : q_Hp) : Option q_Cf :=
  match q_loc ins L st with
  | some (n, L', st') => some (pc + n, L', st', h)
  | none => match q_stk own ins st with
    | some (n, st') => some (pc + n, L, st', h)
    | none => match q_go ins pc L st h with
      | some c => some c
      | none => match q_hea own ini d ins st h with
        | some (n, st', h') => some (pc + n, L, st', h')
        | none => none
def q_ret (rt : Option FieldType) (ins : Instr) (st : List Value) : Option (Option Value) := match ins with
  | .ireturn => match st with
    | [.int v] => match rt with
      | some .int => some (some (.int v))
      | some .boolean => if v = 0 ∨ v = 1 then some (some (.int v)) else none
      | _ => none
    | _ => none
  | .lreturn => match st with
    | [.long v] => match rt with
      | some .long => some (some (.long v))
      | _ => none
    | _ => none
  | .areturn => match st with
    | [.ref a] => match rt with
      | some (.object _) => some (some (.ref a))
      | _ => none
    | _ => none
  | .return_ => match st with
    | [] => match rt with
      | none => some none
      | _ => none
    | _ => none
  | _ => none
def q_cal (own : Nat) (ins : Instr) : Option Nat := match ins with
  | .invokevirtual i => q_lk (q_vT own) i
  | .invokestatic i => match q_lk (q_sT own) i with
    | some k => some k
    | none => match q_lk (q_nT own) i with
      | some k => if q_stc k = true then some k else none
      | none => none
  | .invokespecial i => match q_lk (q_iT own) i with
    | some k => some k
    | none => match q_lk (q_nT own) i with
      | some k => if q_stc k = true then none else some k
      | none => none
  | _ => none
def q_slots (vs : List Value) : q_Lc := match vs with
  | [] => []
  | .long x :: vs => some (.long x) :: none :: q_slots vs
  | v :: vs => some v :: q_slots vs
def q_ent (k : Nat) (args : List Value) : q_Lc := q_slots args ++ List.replicate (q_ml k - (q_slots args).length) none
def q_push (r : Option Value) (st : List Value) : List Value := match r with
  | some v => v :: st
  | none => st
/-- the receiver is an object of the method's class; the arguments fit the locals -/
def q_rec (k : Nat) (args : List Value) (h : q_Hp) : Bool := (q_stc k || match args with
  | .ref b :: _ => (decide (q_ow k < 13) && decide (q_ok h b (q_ow k))) || (decide (q_ow k = 15) && decide (2 ^ 30 ≤ b) && decide (b < 2 ^ 30 + 2))
  | _ => false) && decide ((q_slots args).length ≤ q_ml k) && decide (args.length = q_na k) && args.all (fun v => match v with | .int _ => true | .long _ => true | .ref _ => true | _ => false)
/-- the text methods of the JDK's over the two constants -/
def q_tx (s : Nat) : List Int32 := if s = 2 ^ 30 then q_tx0 else if s = 2 ^ 30 + 1 then q_tx1 else []
def q_ix (l : List Int32) (c : Int32) (k : Nat) : Int32 := match l with
  | [] => -1
  | b :: l => if b = c then Int32.ofNat k else q_ix l c (k + 1)
def q_bi (k : Nat) (args : List Value) (h : q_Hp) : Option (Option Value × q_Hp) :=
  if k = 353 then match args with
    | [.ref s] => some (some (.int (Int32.ofNat (q_tx s).length)), h)
    | _ => none
  else if k = 354 then match args with
    | [.ref s, .int i] => if q_in i (q_tx s).length then some (some (.int ((q_tx s).getD i.toNatClampNeg 0)), h) else none
    | _ => none
  else if k = 355 then match args with
    | [.ref s, .int c] => if ¬ c < 0 ∧ c < 256 then some (some (.int (q_ix (q_tx s) c 0)), h) else none
    | _ => none
  else none
/-- the program's own run: fuel, how deep calls may go, the method, where it is -/
def q_run : Nat → Nat → Nat → Nat → q_Lc → List Value → q_Hp → Option (Option Value × q_Hp)
  | 0, _, _, _, _, _, _ => none
  | f + 1, d, k, pc, L, st, h =>
    match q_fe k pc with
    | none => none
    | some ins => match q_ret (q_rt k) ins st with
      | some r => some (r, h)
      | none => match q_cal (q_ow k) ins with
        | some k' => match d with
          | 0 => none
          | d' + 1 =>
            if q_na k' ≤ st.length ∧ q_small (st.drop (q_na k')) = true ∧ q_rec k' (st.take (q_na k')).reverse h = true then
              match (if k' < 353 then q_run f d' k' 0 (q_ent k' (st.take (q_na k')).reverse) [] h else if 8 ≤ d' then q_bi k' (st.take (q_na k')).reverse h else none) with
              | some (r, h') => q_run f (d' + 1) k (pc + 3) L (q_push r (st.drop (q_na k'))) h'
              | none => none
            else none
        | none => match q_stp (q_ow k) (q_ini k) d ins pc L st h with
          | some (pc', L', st', h') => q_run f d k pc' L' st' h'
          | none => none
