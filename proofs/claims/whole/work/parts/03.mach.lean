/-! ===== a small machine: its cells, its instructions, its runs (the machine itself is held against it in the parts behind) ===== -/
/-- a cell: an array (kind 0: int, made; 1: the bytes of a String constant; 2: the script), its length, its contents; or an object (number of its class, fields); 50: the array of plans; 60: a String constant -/
abbrev xa_C : Type := (Nat × Nat × (Nat → Int32)) ⊕ (Nat × List Value)
abbrev xa_H : Type := List xa_C
/-- pc, instruction, length, numbers that belong to it, its constant -/
abbrev xa_I : Type := Nat × Jvm.ClassFile.Instr × Nat × List Nat × Int32
/-- pc, locals (a float: unknown), stack, cells -/
abbrev xa_S : Type := Nat × List Value × List Value × xa_H
abbrev xa_R : Type := Option Value × xa_H
/-- a call: which method, its arguments, where it goes on -/
abbrev xa_K : Type := Nat × List Value × (Nat × List Value × List Value)
abbrev xa_O : Type := Option (xa_S ⊕ (xa_R ⊕ xa_K))
abbrev xa_M : Type := MethodName × ByteArray × Nat × Option FieldType × List xa_I
def xa_nx (pc : Nat) (ls st : List Value) (h : xa_H) : xa_O := some (.inl (pc, ls, st, h))
def xa_free (ls : List Value) (k : Nat) : Bool := match k with
  | 0 => Nat.blt 0 ls.length
  | j + 1 => Nat.blt (j + 1) ls.length && (match ls[j]? with
    | some (.long _) => false
    | _ => true)
def xa_c1 (v : Value) : Bool := match v with
  | .int _ => true
  | .ref _ => true
  | _ => false
/-- what only the stack sees -/
def xa_alu (i : Jvm.ClassFile.Instr) (a : List Nat) (cv : Int32) (st : List Value) : Option (List Value) := match i with
  | .iconst _ => some (.int cv :: st)
  | .bipush _ => some (.int cv :: st)
  | .sipush _ => some (.int cv :: st)
  | .ldc_w _ => some (.int cv :: st)
  | .ldc2_w _ => some (.long (Int64.ofNat (a.headD 0)) :: st)
  | .iadd => (match st with
    | .int y :: .int x :: r => some (.int (x + y) :: r)
    | _ => none)
  | .isub => (match st with
    | .int y :: .int x :: r => some (.int (x - y) :: r)
    | _ => none)
  | .imul => (match st with
    | .int y :: .int x :: r => some (.int (x * y) :: r)
    | _ => none)
  | .iand => (match st with
    | .int y :: .int x :: r => some (.int (x &&& y) :: r)
    | _ => none)
  | .ior => (match st with
    | .int y :: .int x :: r => some (.int (x ||| y) :: r)
    | _ => none)
  | .ixor => (match st with
    | .int y :: .int x :: r => some (.int (x ^^^ y) :: r)
    | _ => none)
  | .ishl => (match st with
    | .int y :: .int x :: r => some (.int (x <<< (y &&& 31)) :: r)
    | _ => none)
  | .ishr => (match st with
    | .int y :: .int x :: r => some (.int (x >>> (y &&& 31)) :: r)
    | _ => none)
  | .iushr => (match st with
    | .int y :: .int x :: r => some (.int (x.toUInt32 >>> (y.toUInt32 &&& Int32.toUInt32 31)).toInt32 :: r)
    | _ => none)
  | .idiv => (match st with
    | .int y :: .int x :: r => if y = 0 then none else some (.int (x / y) :: r)
    | _ => none)
  | .irem => (match st with
    | .int y :: .int x :: r => if y = 0 then none else some (.int (x - x / y * y) :: r)
    | _ => none)
  | .i2l => (match st with
    | .int x :: r => some (.long x.toInt64 :: r)
    | _ => none)
  | .l2i => (match st with
    | .long x :: r => some (.int x.toInt32 :: r)
    | _ => none)
  | .i2b => (match st with
    | .int x :: r => some (.int x.toInt8.toInt32 :: r)
    | _ => none)
  | .i2c => (match st with
    | .int x :: r => some (.int (x.toUInt32 % 65536).toInt32 :: r)
    | _ => none)
  | .land => (match st with
    | .long y :: .long x :: r => some (.long (x &&& y) :: r)
    | _ => none)
  | .lor => (match st with
    | .long y :: .long x :: r => some (.long (x ||| y) :: r)
    | _ => none)
  | .lshl => (match st with
    | .int y :: .long x :: r => some (.long (x <<< (y.toInt64 &&& 63)) :: r)
    | _ => none)
  | .lshr => (match st with
    | .int y :: .long x :: r => some (.long (x >>> (y.toInt64 &&& 63)) :: r)
    | _ => none)
  | .lushr => (match st with
    | .int y :: .long x :: r => some (.long (x.toUInt64 >>> (y.toInt64.toUInt64 &&& Int64.toUInt64 63)).toInt64 :: r)
    | _ => none)
  | .dup => (match st with
    | v :: r => if xa_c1 v = true then some (v :: v :: r) else none
    | _ => none)
  | .pop => (match st with
    | v :: r => if xa_c1 v = true then some r else none
    | _ => none)
  | .dup2 => (match st with
    | v :: w :: r => if xa_c1 v = true ∧ xa_c1 w = true then some (v :: w :: v :: w :: r) else none
    | _ => none)
  | _ => none
def xa_ldi (pc : Nat) (k : Nat) (ls st : List Value) (h : xa_H) : xa_O := match ls[k]? with
  | some (.int x) => xa_nx pc ls (.int x :: st) h
  | _ => none
def xa_ldl (pc : Nat) (k : Nat) (ls st : List Value) (h : xa_H) : xa_O := match ls[k]? with
  | some (.long x) => xa_nx pc ls (.long x :: st) h
  | _ => none
def xa_lda (pc : Nat) (k : Nat) (ls st : List Value) (h : xa_H) : xa_O := match ls[k]? with
  | some (.ref x) => xa_nx pc ls (.ref x :: st) h
  | _ => none
def xa_sti (pc : Nat) (k : Nat) (ls st : List Value) (h : xa_H) : xa_O := match st with
  | .int x :: r => if xa_free ls k = true then xa_nx pc (ls.set k (.int x)) r h else none
  | _ => none
def xa_sta (pc : Nat) (k : Nat) (ls st : List Value) (h : xa_H) : xa_O := match st with
  | .ref x :: r => if xa_free ls k = true then xa_nx pc (ls.set k (.ref x)) r h else none
  | _ => none
def xa_inc (pc : Nat) (k : Nat) (cv : Int32) (ls st : List Value) (h : xa_H) : xa_O := match ls[k]? with
  | some (.int x) => if xa_free ls k = true then xa_nx pc (ls.set k (.int (x + cv))) st h else none
  | _ => none
def xa_cmp (c : Jvm.ClassFile.Cond) (x y : Int32) : Bool := match c with
  | .eq => decide (x = y)
  | .ne => decide (¬ x = y)
  | .lt => decide (x < y)
  | .ge => decide (y ≤ x)
  | .gt => decide (y < x)
  | .le => decide (x ≤ y)
def xa_if1 (c : Jvm.ClassFile.Cond) (pc tgt : Nat) (ls st : List Value) (h : xa_H) : xa_O := match st with
  | .int x :: r => xa_nx (if xa_cmp c x 0 = true then tgt else pc) ls r h
  | _ => none
def xa_if2 (c : Jvm.ClassFile.Cond) (pc tgt : Nat) (ls st : List Value) (h : xa_H) : xa_O := match st with
  | .int y :: .int x :: r => xa_nx (if xa_cmp c x y = true then tgt else pc) ls r h
  | _ => none
def xa_sw (ts : List Nat) (ls st : List Value) (h : xa_H) : xa_O := match st with
  | .int x :: r => if x.toInt < 0 ∨ (ts.length : Int) - 2 < x.toInt then xa_nx (ts.getD 0 0) ls r h else xa_nx (ts.getD (x.toInt.toNat + 1) 0) ls r h
  | _ => none
def xa_getf (pc ci k : Nat) (ls st : List Value) (h : xa_H) : xa_O := match st with
  | .ref o :: r => (match h[o]? with
    | some (.inr (c, fs)) => if c = ci then (match fs[k]? with
      | some v => xa_nx pc ls (v :: r) h
      | none => none) else none
    | _ => none)
  | _ => none
def xa_kd (kd : Nat) (v : Value) : Bool := match v with
  | .int _ => Nat.beq kd 0
  | .ref _ => Nat.beq kd 1
  | _ => false
def xa_putf (pc ci k kd : Nat) (ls st : List Value) (h : xa_H) : xa_O := match st with
  | v :: .ref o :: r => (match h[o]? with
    | some (.inr (c, fs)) => if c = ci ∧ k < fs.length ∧ xa_kd kd v = true then xa_nx pc ls r (h.set o (.inr (c, fs.set k v))) else none
    | _ => none)
  | _ => none
def xa_iald (pc : Nat) (ls st : List Value) (h : xa_H) : xa_O := match st with
  | .int i :: .ref o :: r => (match h[o]? with
    | some (.inl (kd, n, f)) => if (kd = 0 ∨ kd = 2) ∧ ¬ (i < 0 ∨ n ≤ i.toNatClampNeg) then xa_nx pc ls (.int (f i.toNatClampNeg) :: r) h else none
    | _ => none)
  | _ => none
def xa_bald (pc : Nat) (ls st : List Value) (h : xa_H) : xa_O := match st with
  | .int i :: .ref o :: r => (match h[o]? with
    | some (.inl (kd, n, f)) => if kd = 1 ∧ ¬ (i < 0 ∨ n ≤ i.toNatClampNeg) then xa_nx pc ls (.int (f i.toNatClampNeg) :: r) h else none
    | _ => none)
  | _ => none
def xa_iast (pc : Nat) (ls st : List Value) (h : xa_H) : xa_O := match st with
  | .int x :: .int i :: .ref o :: r => (match h[o]? with
    | some (.inl (kd, n, f)) => if kd = 0 ∧ ¬ (i < 0 ∨ n ≤ i.toNatClampNeg) then xa_nx pc ls r (h.set o (.inl (kd, n, upd f i.toNatClampNeg x))) else none
    | _ => none)
  | _ => none
def xa_alen (pc : Nat) (ls st : List Value) (h : xa_H) : xa_O := match st with
  | .ref o :: r => (match h[o]? with
    | some (.inl (_, n, _)) => xa_nx pc ls (.int (nI n) :: r) h
    | _ => none)
  | _ => none
def xa_newa (pc : Nat) (ls st : List Value) (h : xa_H) : xa_O := match st with
  | .int n :: r => if ¬ n < 0 ∧ n.toNatClampNeg ≤ 1000 then xa_nx pc ls (.ref h.length :: r) (h ++ [.inl (0, n.toNatClampNeg, fun _ => 0)]) else none
  | _ => none
def xa_newq (pc : Nat) (ls st : List Value) (h : xa_H) : xa_O := match st with
  | .int n :: r => if ¬ n < 0 ∧ n.toNatClampNeg ≤ 1000 then xa_nx pc ls (.ref h.length :: r) (h ++ [.inr (50, List.replicate n.toNatClampNeg .null)]) else none
  | _ => none
def xa_aald (pc : Nat) (ls st : List Value) (h : xa_H) : xa_O := match st with
  | .int i :: .ref o :: r => (match h[o]? with
    | some (.inr (c, fs)) => if c = 50 ∧ ¬ i < 0 then (match fs[i.toNatClampNeg]? with
      | some (.ref q) => xa_nx pc ls (.ref q :: r) h
      | _ => none) else none
    | _ => none)
  | _ => none
def xa_aast (pc : Nat) (ls st : List Value) (h : xa_H) : xa_O := match st with
  | .ref v :: .int i :: .ref o :: r => (match h[o]?, h[v]? with
    | some (.inr (c, fs)), some (.inr (c2, _)) => if (c = 50 ∧ c2 = 2) ∧ ¬ i < 0 ∧ i.toNatClampNeg < fs.length then xa_nx pc ls r (h.set o (.inr (c, fs.set i.toNatClampNeg (.ref v)))) else none
    | _, _ => none)
  | _ => none
/-- the fields of a new object, by its class -/
def xa_df (ci : Nat) : List Value := match ci with
  | 0 => [.null, .null, .null, .int 0]
  | 1 => [.null, .null]
  | 2 => [.int 0, .null, .null]
  | 3 => [.null]
  | 4 => [.null, .null, .int 0, .int 0]
  | 5 => [.null, .int 0, .int 0, .null, .int 0]
  | 6 => [.null]
  | 7 => [.null, .int 0]
  | 8 => [.null, .null, .null, .int 0, .int 0]
  | 9 => [.null, .int 0, .int 0]
  | 10 => [.null, .null, .null, .null, .null, .null, .null, .null, .null, .null]
  | 11 => [.int 0, .null, .null, .null, .int 0, .int 0, .int 0, .int 0, .int 0, .int 0, .null, .null, .int 0, .int 0, .int 0, .int 0, .null, .int 0, .int 0, .null, .null, .null, .null, .int 0, .int 0]
  | _ => []
def xa_new (pc ci : Nat) (ls st : List Value) (h : xa_H) : xa_O := xa_nx pc ls (.ref h.length :: st) (h ++ [.inr (ci, xa_df ci)])
def xa_gets (pc which : Nat) (ls st : List Value) (h : xa_H) : xa_O := match which with
  | 0 => xa_nx pc ls (.int 1 :: st) h
  | _ => xa_nx pc ls (.retAddr 0 :: st) h
def xa_ldc (pc which : Nat) (cv : Int32) (ls st : List Value) (h : xa_H) : xa_O := match which with
  | 0 => xa_nx pc ls (.int cv :: st) h
  | k + 1 => xa_nx pc ls (.ref (k + 1) :: st) h
def xa_room (r : List Value) : Bool := Nat.ble (r.map fun v => v.category).sum 8
def xa_call (pc mi n : Nat) (ls st : List Value) : xa_O := if Nat.ble n st.length = true ∧ xa_room (st.drop n) = true then some (.inr (.inr (mi, (st.take n).reverse, (pc, ls, st.drop n)))) else none
def xa_vcall (pc mi n ci : Nat) (ls st : List Value) (h : xa_H) : xa_O := match st[n]? with
  | some (.ref o) => (match h[o]? with
    | some (.inr (c, _)) => if c = ci then xa_call pc mi (n + 1) ls st else none
    | _ => none)
  | _ => none
def xa_icall (pc mi n : Nat) (ls st : List Value) : xa_O := match st[n]? with
  | some (.ref _) => xa_call pc mi (n + 1) ls st
  | _ => none
def xa_oinit (pc : Nat) (ls st : List Value) (h : xa_H) : xa_O := match st with
  | .ref _ :: r => if xa_room r = true then xa_nx pc ls r h else none
  | _ => none
def xa_copy (pc : Nat) (ls st : List Value) (h : xa_H) : xa_O := match st with
  | .int n :: .int dp :: .ref a :: .int sp :: .ref b :: r => (match h[b]?, h[a]? with
    | some (.inl (k0, n0, f)), some (.inl (k1, n1, g)) => if (k0 = 0 ∧ k1 = 0) ∧ (¬ sp < 0 ∧ ¬ dp < 0 ∧ ¬ n < 0) ∧ sp.toNatClampNeg + n.toNatClampNeg ≤ n0 ∧ dp.toNatClampNeg + n.toNatClampNeg ≤ n1 ∧ xa_room r = true then xa_nx pc ls r (h.set a (.inl (k1, n1, va_cpy f g sp.toNatClampNeg dp.toNatClampNeg n.toNatClampNeg))) else none
    | _, _ => none)
  | _ => none
def xa_max (pc : Nat) (ls st : List Value) (h : xa_H) : xa_O := match st with
  | .int y :: .int x :: r => if xa_room r = true then xa_nx pc ls (.int (if x < y then y else x) :: r) h else none
  | _ => none
def xa_min (pc : Nat) (ls st : List Value) (h : xa_H) : xa_O := match st with
  | .int y :: .int x :: r => if xa_room r = true then xa_nx pc ls (.int (if y < x then y else x) :: r) h else none
  | _ => none
/-- which ints a method may answer: 0 any, 1 booleans, 2 chars, 3 bytes -/
def xa_rok (k : Nat) (v : Int32) : Prop := match k with
  | 0 => True
  | 1 => v = 0 ∨ v = 1
  | 2 => (v.toUInt32 % 65536).toInt32 = v
  | _ => v.toInt8.toInt32 = v
/-- the step of one instruction; an answer of a kind is looked at where it is used -/
def xa_step (i : Jvm.ClassFile.Instr) (len : Nat) (a : List Nat) (cv : Int32) (pc : Nat) (ls st : List Value) (h : xa_H) : xa_O := match i with
  | .iload _ => xa_ldi (pc + len) (a.getD 0 0) ls st h
  | .iload_n _ => xa_ldi (pc + len) (a.getD 0 0) ls st h
  | .lload_n _ => xa_ldl (pc + len) (a.getD 0 0) ls st h
  | .aload _ => xa_lda (pc + len) (a.getD 0 0) ls st h
  | .aload_n _ => xa_lda (pc + len) (a.getD 0 0) ls st h
  | .istore _ => xa_sti (pc + len) (a.getD 0 0) ls st h
  | .istore_n _ => xa_sti (pc + len) (a.getD 0 0) ls st h
  | .astore_n _ => xa_sta (pc + len) (a.getD 0 0) ls st h
  | .iinc _ _ => xa_inc (pc + len) (a.getD 0 0) cv ls st h
  | .goto _ => xa_nx (a.getD 0 0) ls st h
  | .ifCond c _ => xa_if1 c (pc + len) (a.getD 0 0) ls st h
  | .if_icmp c _ => xa_if2 c (pc + len) (a.getD 0 0) ls st h
  | .tableswitch _ _ _ _ => xa_sw a ls st h
  | .getfield _ => xa_getf (pc + len) (a.getD 0 0) (a.getD 1 0) ls st h
  | .putfield _ => xa_putf (pc + len) (a.getD 0 0) (a.getD 1 0) (a.getD 2 0) ls st h
  | .iaload => xa_iald (pc + len) ls st h
  | .baload => xa_bald (pc + len) ls st h
  | .iastore => xa_iast (pc + len) ls st h
  | .arraylength => xa_alen (pc + len) ls st h
  | .newarray _ => xa_newa (pc + len) ls st h
  | .anewarray _ => xa_newq (pc + len) ls st h
  | .aaload => xa_aald (pc + len) ls st h
  | .aastore => xa_aast (pc + len) ls st h
  | .new _ => xa_new (pc + len) (a.getD 0 0) ls st h
  | .getstatic _ => xa_gets (pc + len) (a.getD 0 0) ls st h
  | .ldc _ => xa_ldc (pc + len) (a.getD 0 0) cv ls st h
  | .invokestatic _ => (match a.getD 0 0 with
    | 2 => xa_copy (pc + len) ls st h
    | 3 => xa_max (pc + len) ls st h
    | 4 => xa_min (pc + len) ls st h
    | _ => xa_call (pc + len) (a.getD 1 0) (a.getD 2 0) ls st)
  | .invokevirtual _ => xa_vcall (pc + len) (a.getD 1 0) (a.getD 2 0) (a.getD 3 0) ls st h
  | .invokespecial _ => (match a.getD 0 0 with
    | 9 => xa_oinit (pc + len) ls st h
    | _ => xa_icall (pc + len) (a.getD 1 0) (a.getD 2 0) ls st)
  | .ireturn => (match st with
    | [.int v] => some (.inr (.inl (some (.int v), h)))
    | _ => none)
  | .return_ => (match st with
    | [] => some (.inr (.inl (none, h)))
    | _ => none)
  | i => (match xa_alu i a cv st with
    | some st' => xa_nx (pc + len) ls st' h
    | none => none)
def xa_lk (tb : List xa_I) (pc : Nat) : Option (Jvm.ClassFile.Instr × Nat × List Nat × Int32) := match tb with
  | [] => none
  | e :: es => bif Nat.beq e.1 pc then some e.2 else xa_lk es pc
/-- which answers a return allows: by the instruction's number -/
def xa_fine (i : Jvm.ClassFile.Instr) (a : List Nat) (r : Option Value) : Prop := match i, r with
  | .ireturn, some (.int v) => xa_rok (a.getD 0 0) v
  | _, _ => True
/-- n instructions lead from a state to an answer; calls by a relation -/
def xa_ev (C : Nat → List Value → xa_H → Option Value → xa_H → Prop) (tb : List xa_I) : Nat → xa_S → xa_R → Prop
  | 0, _, _ => False
  | n + 1, (pc, ls, st, h), q => match xa_lk tb pc with
    | none => False
    | some (i, len, a, cv) => match xa_step i len a cv pc ls st h with
      | none => False
      | some (.inl s') => xa_ev C tb n s' q
      | some (.inr (.inl r)) => xa_fine i a r.1 ∧ q = r
      | some (.inr (.inr (mi, as, (pc', ls', st')))) => ∃ (r : Option Value) (h' : xa_H), C mi as h r h' ∧ xa_ev C tb n (pc', ls', r.toList ++ st', h') q
/-- the slots of an argument -/
def xa_ar (v : Value) : List Value := match v with
  | .long x => [.long x, .float 0]
  | v => [v]
/-- a method's locals at its entry -/
def xa_en (as : List Value) (n : Nat) : List Value := as.flatMap xa_ar ++ List.replicate (n - (as.flatMap xa_ar).length) (.float 0)
def xa_kn (v : Value) : Bool := match v with
  | .float _ => false
  | .double _ => false
  | _ => true
def xa_rn (ms : List xa_M) : Nat → Nat → List Value → xa_H → Option Value → xa_H → Prop
  | 0 => fun _ _ _ _ _ => False
  | d + 1 => fun mi as h r h' => ∃ (M : xa_M) (n : Nat), ms[mi]? = some M ∧ ((xa_en as M.2.2.1).length = M.2.2.1 ∧ as.all xa_kn = true) ∧ xa_ev (xa_rn ms d) M.2.2.2.2 n (0, xa_en as M.2.2.1, [], h) (r, h')
