/-! THE SMALL MACHINE: the same instructions over a plain state; references are places of cells in the order of their making -/
abbrev ab_L : Type := List (Option Value)
/-- ints of the cells (fields and elements), longs, references of the objects, how many cells there are -/
abbrev ab_S : Type := (Nat → Nat → Int32) × (Nat → Nat → Int64) × List (List (Option Nat)) × Nat
def ab_ins (y pc : Nat) : Option Instr := (ab_ct.getD y []).lookup pc
def ab_ly (k : Nat) : Nat × Nat := ab_lay.getD k (9, 0)
/-- kind of a field -/
def ab_fk (c j : Nat) : Nat := (ab_cls.getD c []).getD j 9
def ab_rf (R : List (List (Option Nat))) (k j : Nat) : Option Nat := (R.getD k []).getD j none
def ab_sr (R : List (List (Option Nat))) (k j : Nat) (v : Option Nat) : List (List (Option Nat)) := R.set k ((R.getD k []).set j v)
/-- locals -/
def ab_lg (ls : ab_L) (i : Nat) : Option Value := ls.getD i none
def ab_ca (o : Option Value) : Bool := match o with
  | some v => v.category == 2
  | none => false
/-- a value of one slot is stored: a long that began before it is gone -/
def ab_s1 : ab_L → Nat → Value → ab_L
  | [], _, _ => []
  | _ :: r, 0, v => some v :: r
  | [a], _ + 1, _ => [a]
  | a :: _ :: r, 1, v => (if ab_ca a then none else a) :: some v :: r
  | a :: b :: r, i + 2, v => a :: ab_s1 (b :: r) (i + 1) v
/-- a value of two slots -/
def ab_s2 : ab_L → Nat → Value → ab_L
  | [], _, _ => []
  | [a], _, _ => [a]
  | _ :: _ :: r, 0, v => some v :: none :: r
  | [a, b], _ + 1, _ => [a, b]
  | a :: _ :: _ :: r, 1, v => (if ab_ca a then none else a) :: some v :: none :: r
  | a :: b :: d :: r, i + 2, v => a :: ab_s2 (b :: d :: r) (i + 1) v
/-- what a method's locals are at its entry -/
def ab_ea : List Value → ab_L
  | [] => []
  | v :: r => if v.category = 2 then some v :: none :: ab_ea r else some v :: ab_ea r
def ab_en (n : Nat) (as : List Value) : ab_L := ab_ea as ++ List.replicate (n - (ab_ea as).length) none
/-- the stack's own instructions -/
def ab_op (i : Instr) (st : List Value) : Option (List Value) := match i, st with
  | .iconst n, st => some (.int (Int32.ofInt n) :: st)
  | .bipush n, st => some (.int (Int8.ofInt n).toInt32 :: st)
  | .sipush n, st => some (.int (Int16.ofInt n).toInt32 :: st)
  | .lconst n, st => some (.long (Int64.ofNat (n : Nat)) :: st)
  | .iadd, .int y :: .int x :: st => some (.int (x + y) :: st)
  | .isub, .int y :: .int x :: st => some (.int (x - y) :: st)
  | .imul, .int y :: .int x :: st => some (.int (x * y) :: st)
  | .iand, .int y :: .int x :: st => some (.int (x &&& y) :: st)
  | .ior, .int y :: .int x :: st => some (.int (x ||| y) :: st)
  | .ixor, .int y :: .int x :: st => some (.int (x ^^^ y) :: st)
  | .idiv, .int y :: .int x :: st => if y = 0 then none else some (.int (x / y) :: st)
  | .irem, .int y :: .int x :: st => if y = 0 then none else some (.int (x - x / y * y) :: st)
  | .ladd, .long y :: .long x :: st => some (.long (x + y) :: st)
  | .lsub, .long y :: .long x :: st => some (.long (x - y) :: st)
  | .lmul, .long y :: .long x :: st => some (.long (x * y) :: st)
  | .ldiv, .long y :: .long x :: st => if y = 0 then none else some (.long (x / y) :: st)
  | .lrem, .long y :: .long x :: st => if y = 0 then none else some (.long (x - x / y * y) :: st)
  | .lneg, .long x :: st => some (.long (-x) :: st)
  | .ishl, .int y :: .int x :: st => some (.int (x <<< (y &&& 31)) :: st)
  | .ishr, .int y :: .int x :: st => some (.int (x >>> (y &&& 31)) :: st)
  | .iushr, .int y :: .int x :: st => some (.int (x.toUInt32 >>> (y.toUInt32 &&& Int32.toUInt32 31)).toInt32 :: st)
  | .i2l, .int x :: st => some (.long x.toInt64 :: st)
  | .l2i, .long x :: st => some (.int x.toInt32 :: st)
  | .i2b, .int x :: st => some (.int x.toInt8.toInt32 :: st)
  | .i2s, .int x :: st => some (.int x.toInt16.toInt32 :: st)
  | .lcmp, .long y :: .long x :: st => some (.int (lg_cmp x y) :: st)
  | .dup, v :: st => if v.category = 1 then some (v :: v :: st) else none
  | .pop, v :: st => if v.category = 1 then some st else none
  | .dup2, v :: w :: st => if v.category = 1 ∧ w.category = 1 then some (v :: w :: v :: w :: st) else none
  | _, _ => none
/-- the locals' instructions: (locals, stack) -/
def ab_lo (i : Instr) (ls : ab_L) (st : List Value) : Option (ab_L × List Value) := match i, st with
  | .iload_n k, st => match ab_lg ls k with
    | some (.int x) => some (ls, .int x :: st)
    | _ => none
  | .iload k, st => match ab_lg ls k with
    | some (.int x) => some (ls, .int x :: st)
    | _ => none
  | .lload_n k, st => match ab_lg ls k with
    | some (.long x) => some (ls, .long x :: st)
    | _ => none
  | .lload k, st => match ab_lg ls k with
    | some (.long x) => some (ls, .long x :: st)
    | _ => none
  | .aload_n k, st => match ab_lg ls k with
    | some (.ref x) => some (ls, .ref x :: st)
    | _ => none
  | .aload k, st => match ab_lg ls k with
    | some (.ref x) => some (ls, .ref x :: st)
    | _ => none
  | .istore_n k, .int x :: st => if (k : Nat) < ls.length then some (ab_s1 ls k (.int x), st) else none
  | .istore k, .int x :: st => if k < ls.length then some (ab_s1 ls k (.int x), st) else none
  | .astore_n k, .ref x :: st => if (k : Nat) < ls.length then some (ab_s1 ls k (.ref x), st) else none
  | .lstore_n k, .long x :: st => if (k : Nat) + 1 < ls.length then some (ab_s2 ls k (.long x), st) else none
  | .lstore k, .long x :: st => if k + 1 < ls.length then some (ab_s2 ls k (.long x), st) else none
  | .iinc k n, st => match ab_lg ls k with
    | some (.int x) => if k < ls.length then some (ab_s1 ls k (.int (x + Int32.ofInt n)), st) else none
    | _ => none
  | _, _ => none
/-- jumps: (taken, offset, stack) -/
def ab_br (i : Instr) (st : List Value) : Option (Bool × Int × List Value) := match i, st with
  | .goto o, st => some (true, o, st)
  | .ifCond .eq o, .int x :: st => some (decide (x = 0), o, st)
  | .ifCond .ne o, .int x :: st => some (decide (¬ x = 0), o, st)
  | .ifCond .lt o, .int x :: st => some (decide (x < 0), o, st)
  | .ifCond .ge o, .int x :: st => some (decide (0 ≤ x), o, st)
  | .ifCond .gt o, .int x :: st => some (decide (0 < x), o, st)
  | .ifCond .le o, .int x :: st => some (decide (x ≤ 0), o, st)
  | .if_icmp .eq o, .int y :: .int x :: st => some (decide (x = y), o, st)
  | .if_icmp .ne o, .int y :: .int x :: st => some (decide (¬ x = y), o, st)
  | .if_icmp .lt o, .int y :: .int x :: st => some (decide (x < y), o, st)
  | .if_icmp .ge o, .int y :: .int x :: st => some (decide (y ≤ x), o, st)
  | .if_icmp .gt o, .int y :: .int x :: st => some (decide (y < x), o, st)
  | .if_icmp .le o, .int y :: .int x :: st => some (decide (x ≤ y), o, st)
  | .tableswitch d lo hi offs, .int x :: st => if x.toInt < lo ∨ hi < x.toInt then some (true, d, st) else (offs[(x.toInt - lo).toNat]?).map (fun o => (true, o, st))
  | _, _ => none
def ab_fd (o j : Nat) : Option (Nat × Nat × Nat) := (ab_fl.getD o []).lookup j
def ab_md (o j : Nat) : Option (Nat × Nat × Nat) := (ab_ml.getD o []).lookup j
def ab_nd (o j : Nat) : Option (Nat × Nat) := (ab_nl.getD o []).lookup j
def ab_kd (o j : Nat) : Option (Int32 × Nat) := (ab_ki.getD o []).lookup j
def ab_kD (o j : Nat) : Option (Int64 × Nat) := (ab_kl.getD o []).lookup j
/-- the cells' instructions: (stack, state); o is the class of the pool, b whether this is a constructor -/
def ab_he (o : Nat) (b : Bool) (i : Instr) (st : List Value) (s : ab_S) : Option (List Value × ab_S) := match i, st with
  | .ldc_w j, st => (ab_kd o j).map (fun v => (.int v.1 :: st, s))
  | .ldc2_w j, st => (ab_kD o j).map (fun v => (.long v.1 :: st, s))
  | .getfield j, .ref k :: st => match ab_fd o j with
    | some (c, f, _) => if ab_ly k = (0, c) ∧ k < s.2.2.2 then
        (if ab_fk c f = 2 then some (.long (s.2.1 k f) :: st, s) else if ab_fk c f = 3 then (match ab_rf s.2.2.1 k f with
          | some r => some (.ref r :: st, s)
          | none => none) else if ab_fk c f < 2 then some (.int (s.1 k f) :: st, s) else none) else none
    | none => none
  | .putfield j, .int x :: .ref k :: st => match ab_fd o j with
    | some (c, f, _) => if ab_ly k = (0, c) ∧ k < s.2.2.2 ∧ (ab_fk c f = 0 ∨ (ab_fk c f = 1 ∧ (x = 0 ∨ x = 1))) then some (st, (va_up s.1 k (va_up (s.1 k) f x), s.2)) else none
    | none => none
  | .putfield j, .long x :: .ref k :: st => match ab_fd o j with
    | some (c, f, _) => if ab_ly k = (0, c) ∧ k < s.2.2.2 ∧ ab_fk c f = 2 then some (st, (s.1, va_up s.2.1 k (va_up (s.2.1 k) f x), s.2.2)) else none
    | none => none
  | .putfield j, .ref x :: .ref k :: st => match ab_fd o j with
    | some (c, f, _) => if b = true ∧ ab_ly k = (0, c) ∧ k < s.2.2.2 ∧ ab_fk c f = 3 ∧ c = o ∧ ab_rf (ab_sr s.2.2.1 k f (some x)) k f = some x then some (st, (s.1, s.2.1, ab_sr s.2.2.1 k f (some x), s.2.2.2)) else none
    | none => none
  | .iaload, .int x :: .ref k :: st => if (ab_ly k).1 = 1 ∧ k < s.2.2.2 ∧ 0 ≤ x.toInt ∧ x.toInt < (ab_ly k).2 then some (.int (s.1 k x.toNatClampNeg) :: st, s) else none
  | .baload, .int x :: .ref k :: st => if (ab_ly k).1 = 3 ∧ k < s.2.2.2 ∧ 0 ≤ x.toInt ∧ x.toInt < (ab_ly k).2 then some (.int (s.1 k x.toNatClampNeg) :: st, s) else none
  | .laload, .int x :: .ref k :: st => if (ab_ly k).1 = 2 ∧ k < s.2.2.2 ∧ 0 ≤ x.toInt ∧ x.toInt < (ab_ly k).2 then some (.long (s.2.1 k x.toNatClampNeg) :: st, s) else none
  | .iastore, .int v :: .int x :: .ref k :: st => if (ab_ly k).1 = 1 ∧ k < s.2.2.2 ∧ 0 ≤ x.toInt ∧ x.toInt < (ab_ly k).2 then some (st, (va_up s.1 k (va_up (s.1 k) x.toNatClampNeg v), s.2)) else none
  | .bastore, .int v :: .int x :: .ref k :: st => if (v = 0 ∨ v = 1) ∧ (ab_ly k).1 = 3 ∧ k < s.2.2.2 ∧ 0 ≤ x.toInt ∧ x.toInt < (ab_ly k).2 then some (st, (va_up s.1 k (va_up (s.1 k) x.toNatClampNeg v), s.2)) else none
  | .lastore, .long v :: .int x :: .ref k :: st => if (ab_ly k).1 = 2 ∧ k < s.2.2.2 ∧ 0 ≤ x.toInt ∧ x.toInt < (ab_ly k).2 then some (st, (s.1, va_up s.2.1 k (va_up (s.2.1 k) x.toNatClampNeg v), s.2.2)) else none
  | .invokespecial j, .ref k :: st => match ab_md o j with
    | some (1000, _, _) => if (st.map (fun v => v.category)).sum ≤ 8 then some (st, s) else none
    | _ => none
  | .invokestatic j, .long x :: st => match ab_md o j with
    | some (1002, _, _) => if (st.map (fun v => v.category)).sum ≤ 8 then some (.long (if 0 < x then x else -x) :: st, s) else none
    | _ => none
  | .invokestatic j, .int y :: .int x :: st => match ab_md o j with
    | some (1003, _, _) => if (st.map (fun v => v.category)).sum ≤ 8 then some (.int (if y < x then y else x) :: st, s) else none
    | some (1001, _, _) => match st with
      | .ref k :: .int sp :: .ref h :: st => if ((st.map (fun v => v.category)).sum ≤ 8 ∧ (ab_ly k).1 = 1 ∧ (ab_ly h).1 = 1 ∧ k < s.2.2.2 ∧ h < s.2.2.2) ∧ (0 ≤ y.toInt ∧ 0 ≤ sp.toInt ∧ 0 ≤ x.toInt ∧ sp.toInt + y.toInt ≤ (ab_ly h).2 ∧ x.toInt + y.toInt ≤ (ab_ly k).2) then
          some (st, (va_up s.1 k (va_cpy (s.1 h) (s.1 k) sp.toNatClampNeg x.toNatClampNeg y.toNatClampNeg), s.2)) else none
      | _ => none
    | some _ => none
    | none => if o = 1 ∧ j = 118 ∧ (st.map (fun v => v.category)).sum ≤ 8 then some (.int (if x < y then y else x) :: st, s) else none
  | _, _ => none
/-- all references are to cells that are there -/
def ab_bv (n : Nat) (v : Value) : Bool := match v with
  | .ref k => decide (k < n ∨ 999 ≤ k)
  | _ => true
def ab_bo (n : Nat) (v : Option Value) : Bool := match v with
  | some v => ab_bv n v
  | none => true
def ab_bd (n : Nat) (ls : ab_L) (st : List Value) (R : List (List (Option Nat))) : Bool := ls.all (ab_bo n) && st.all (ab_bv n) && R.all (fun r => r.all (fun o => match o with
  | some k => decide (k < n)
  | none => true))
def ab_ak (t : ArrayType) : Nat := match t with
  | .int => 1
  | .long => 2
  | .boolean => 3
  | _ => 8
/-- a new cell -/
def ab_nw (o : Nat) (i : Instr) (ls : ab_L) (st : List Value) (s : ab_S) : Option (List Value × ab_S) := match i, st with
  | .newarray t, .int x :: st => if 0 ≤ x.toInt ∧ x.toInt ≤ 200 ∧ ab_ly s.2.2.2 = (ab_ak t, x.toNatClampNeg) ∧ ab_bd s.2.2.2 ls st s.2.2.1 = true then some (.ref s.2.2.2 :: st, (va_up s.1 s.2.2.2 (fun _ => 0), va_up s.2.1 s.2.2.2 (fun _ => 0), s.2.2.1, s.2.2.2 + 1)) else none
  | .new j, st => match ab_nd o j with
    | some (c, _) => if ab_ly s.2.2.2 = (0, c) ∧ s.2.2.2 < s.2.2.1.length ∧ ab_bd s.2.2.2 ls st s.2.2.1 = true then some (.ref s.2.2.2 :: st, (va_up s.1 s.2.2.2 (fun _ => 0), va_up s.2.1 s.2.2.2 (fun _ => 0), s.2.2.1.set s.2.2.2 (List.replicate 41 none), s.2.2.2 + 1)) else none
    | none => none
  | _, _ => none
/-- a return: what comes back -/
def ab_rt (r : Option FieldType) (i : Instr) (st : List Value) : Option (Option Value) := match i, st with
  | .ireturn, [.int x] => match r with
    | some .int => some (some (.int x))
    | some .boolean => if x = 0 ∨ x = 1 then some (some (.int x)) else none
    | _ => none
  | .lreturn, [.long x] => match r with
    | some .long => some (some (.long x))
    | _ => none
  | .return_, [] => match r with
    | none => some none
    | _ => none
  | _, _ => none
/-- the method that a call of y's comes to: deals, which calls itself, stands eight times -/
def ab_to (y t : Nat) : Option Nat := if t = 4 then (if 4 ≤ y ∧ y < 4 + 7 then some (y + 1) else if y = 4 + 7 then none else some t) else some t
/-- the receiver is a cell of class c -/
def ab_rc (c n : Nat) (as : List Value) : Bool := match as with
  | .ref k :: _ => ab_ly k == (0, c) && decide (k < n)
  | _ => false
/-- what a call of the kind kd (0 virtual, 1 static, 2 a constructor) by the link (t, nest) asks for -/
def ab_gd (kd y y' nest n : Nat) (as rest : List Value) : Bool :=
  let q := ab_row y'
  decide (as.length = q.2.2.2.2.1 + (if kd = 1 then 0 else 1)) && decide (q.2.2.2.2.2.2.1 < (ab_row y).2.2.2.2.2.2.1) && decide ((rest.map (fun v => v.category)).sum ≤ 8) && (q.2.2.2.2.2.1 == (kd == 1)) && ((q.1.name == "<init>") == (kd == 2)) && (kd == 1 || ab_rc (ab_own y') n as) && (kd != 0 || nest == 0) && decide ((ab_ea as).length ≤ q.2.2.1)
def ab_na (kd y' : Nat) : Nat := (ab_row y').2.2.2.2.1 + (if kd = 1 then 0 else 1)
def ab_go (y kd j n : Nat) (st : List Value) : Option (Nat × List Value × List Value) := match ab_md (ab_own y) j with
  | some (t, nest, _) => match ab_to y t with
    | some y' => if t < 1000 ∧ ab_gd kd y y' nest n (st.take (ab_na kd y')).reverse (st.drop (ab_na kd y')) = true then some (y', (st.take (ab_na kd y')).reverse, st.drop (ab_na kd y')) else none
    | none => none
  | none => none
/-- a call: (method, its arguments, what is left of the stack) -/
def ab_cl (y : Nat) (i : Instr) (n : Nat) (st : List Value) : Option (Nat × List Value × List Value) := match i with
  | .invokevirtual j => ab_go y 0 j n st
  | .invokestatic j => ab_go y 1 j n st
  | .invokespecial j => ab_go y 2 j n st
  | _ => none
/-- where a jump goes -/
def ab_tg (pc : Nat) (o : Int) : Nat := ((pc : Int) + o).toNat
/-- one instruction that neither calls nor returns: (pc, locals, stack, state) -/
def ab_ex (o : Nat) (b : Bool) (i : Instr) (pc : Nat) (ls : ab_L) (st : List Value) (s : ab_S) : Option (Nat × ab_L × List Value × ab_S) :=
  match ab_op i st with
  | some st' => some (pc + ab_sz i, ls, st', s)
  | none => match ab_lo i ls st with
    | some (ls', st') => some (pc + ab_sz i, ls', st', s)
    | none => match ab_br i st with
      | some (t, off, st') => if 0 ≤ (pc : Int) + off then some (if t = true then ab_tg pc off else pc + ab_sz i, ls, st', s) else none
      | none => match ab_he o b i st s with
        | some (st', s') => some (pc + ab_sz i, ls, st', s')
        | none => match ab_nw o i ls st s with
          | some (st', s') => some (pc + ab_sz i, ls, st', s')
          | none => none
/-- behind a call: a constructor's caller holds no cell that wasn't there, any other callee has made none -/
def ab_cb (y' : Nat) (ls : ab_L) (rest : List Value) (s r : ab_S) : Bool := if (ab_row y').1.name == "<init>" then ab_bd s.2.2.2 ls rest [] else decide (r.2.2 = s.2.2)
def ab_run : Nat → Nat → Nat → ab_L → List Value → ab_S → Option (Option Value × ab_S)
  | 0, _, _, _, _, _ => none
  | n + 1, y, pc, ls, st, s => match ab_ins y pc with
    | none => none
    | some i => match ab_rt (ab_row y).2.2.2.1 i st with
      | some v => some (v, s)
      | none => match ab_cl y i s.2.2.2 st with
        | some (y', as, rest) => (ab_run n y' 0 (ab_en (ab_row y').2.2.1 as) [] s).bind (fun r => if ab_cb y' ls rest s r.2 = true then ab_run n y (pc + 3) ls (r.1.toList ++ rest) r.2 else none)
        | none => (ab_ex (ab_own y) ((ab_row y).1.name == "<init>") i pc ls st s).bind (fun q => ab_run n y q.1 q.2.1 q.2.2.1 q.2.2.2)
