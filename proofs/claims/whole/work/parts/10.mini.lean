/-! A SMALL MACHINE: the methods' code (part 03) over cells that are numbered from 0: T says what each cell is (its class, or 100 an array of ints, 101, 102 arrays of references; its length; its references), I what ints stand in it. 1000: the script; 1001 .. 1003: static arrays; 1010 .. 1012: the String constants; 1020 .. 1022: their bytes. -/
abbrev mm_C : Type := Nat × Nat × List Value
abbrev mm_I : Type := Nat → Nat → Int32
def mm_up (I : mm_I) (k j : Nat) (x : Int32) : mm_I := fun k' => if k' = k then upd (I k) j x else I k'
def mm_cp (I : mm_I) (a sp b dp n : Nat) : mm_I := fun k' => if k' = b then va_cpy (I a) (I b) sp dp n else I k'
def mm_cmp (c : Jvm.ClassFile.Cond) (x y : Int32) : Bool := match c with
  | .eq => decide (x = y)
  | .ne => decide (¬ x = y)
  | .lt => decide (x < y)
  | .ge => decide (y ≤ x)
  | .gt => decide (y < x)
  | .le => decide (x ≤ y)
def mm_oldI (a : Nat) : Option (List Int32) := match a with
  | 1001 => some [1]
  | 1002 => some [-1, 10, -42, -2, -45]
  | 1003 => some [-1, 0, 0, 0, 1, 2, 3]
  | _ => none
def mm_oldB (a : Nat) : Option (List Int32) := match a with
  | 1020 => some []
  | 1021 => some [107, 99, 115]
  | 1022 => some [104, 110, 118]
  | _ => none
/-- the locals as a method begins: a long takes two places; what isn't set is .retAddr 0 -/
def mm_sl : List Value → List Value
  | [] => []
  | v :: vs => if v.category = 2 then v :: .retAddr 0 :: mm_sl vs else v :: mm_sl vs
def mm_ent (y : Nat) (vs : List Value) : List Value := mm_sl vs ++ List.replicate (mm_ml y - (mm_sl vs).length) (.retAddr 0)
def mm_ret (mid : Nat) (e : mm_E) (st : List Value) : Option (Option Value) := match e.1 with
  | .return_ => match st with
    | [] => if mm_rk mid = 2 then some none else none
    | _ => none
  | .ireturn => match st with
    | [.int v] => if mm_rk mid = 0 ∨ (mm_rk mid = 1 ∧ (v = 0 ∨ v = 1)) then some (some (.int v)) else none
    | _ => none
  | .areturn => match st with
    | [.ref a] => if mm_rk mid = 3 then some (some (.ref a)) else none
    | _ => none
  | _ => none
def mm_cls (T : List mm_C) (as : List Value) : Option Nat := match as with
  | .ref a :: _ => if 1010 ≤ a then (if a < 1013 then some 50 else none) else match T[a]? with
    | some c => if c.1 < 13 then some c.1 else none
    | none => none
  | _ => none
def mm_pick (T : List mm_C) (kd : Nat) (tg : List (Nat × Nat)) (as : List Value) : Option Nat :=
  if kd = 0 ∨ kd = 5 then tg.lookup 0 else if kd = 2 then (match mm_cls T as with
    | some ci => if ci < 13 then tg.lookup 0 else none
    | none => none) else if kd = 1 then (match mm_cls T as with
    | some ci => tg.lookup ci
    | none => none) else none
def mm_call (T : List mm_C) (e : mm_E) (st : List Value) : Option (Nat × List Value × List Value) := match e.1 with
  | .invokestatic _ | .invokevirtual _ | .invokespecial _ => match mm_CS[e.2.2.1]? with
    | some (na, kd, tg) => if na ≤ st.length && ((st.drop na).map Value.category).sum ≤ 8 then (match mm_pick T kd tg (st.take na).reverse with
      | some y => if (mm_sl (st.take na).reverse).length ≤ mm_ml y then some (y, (st.take na).reverse, st.drop na) else none
      | none => none) else none
    | none => none
  | _ => none
def mm_sto (ls : List Value) (i : Nat) : Bool := i < ls.length && (i == 0 || (ls.getD (i - 1) .null).category == 1)
def mm_tsw (pc : Nat) (d lo hi : Int) (offs : Array Int) (x : Int32) : Nat :=
  if x.toInt < lo ∨ hi < x.toInt then ((pc : Int) + d).toNat else match offs[(x.toInt - lo).toNat]? with
    | some off => ((pc : Int) + off).toNat
    | none => 0
def mm_lsw (pc : Nat) (d : Int) (ps : Array (Int × Int)) (x : Int32) : Nat := ((pc : Int) + Op.lookupswitch.offset ps.toList d x.toInt).toNat
def mm_stp (T : List mm_C) (X : Nat × (Nat → Int32)) (mid : Nat) (e : mm_E) (pc : Nat) (ls st : List Value) (I : mm_I) : Option (Nat × List Value × List Value × mm_I) := match e.1 with
  | .iconst _ | .bipush _ | .sipush _ | .ldc _ | .ldc_w _ | .ldc2_w _ | .getstatic _ => some (e.2.1, ls, e.2.2.2 :: st, I)
  | .iload _ | .iload_n _ => match ls[e.2.2.1]? with
    | some (.int x) => some (e.2.1, ls, .int x :: st, I)
    | _ => none
  | .lload_n _ => match ls[e.2.2.1]? with
    | some (.long x) => some (e.2.1, ls, .long x :: st, I)
    | _ => none
  | .aload _ | .aload_n _ => match ls[e.2.2.1]? with
    | some (.ref x) => some (e.2.1, ls, .ref x :: st, I)
    | _ => none
  | .istore _ | .istore_n _ => match st with
    | .int x :: r => if mm_sto ls e.2.2.1 then some (e.2.1, ls.set e.2.2.1 (.int x), r, I) else none
    | _ => none
  | .astore _ | .astore_n _ => match st with
    | .ref x :: r => if mm_sto ls e.2.2.1 then some (e.2.1, ls.set e.2.2.1 (.ref x), r, I) else none
    | _ => none
  | .iinc _ _ => match ls[e.2.2.1]?, e.2.2.2 with
    | some (.int x), .int c => if mm_sto ls e.2.2.1 then some (e.2.1, ls.set e.2.2.1 (.int (x + c)), st, I) else none
    | _, _ => none
  | .iadd => match st with
    | .int y :: .int x :: r => some (e.2.1, ls, .int (x + y) :: r, I)
    | _ => none
  | .isub => match st with
    | .int y :: .int x :: r => some (e.2.1, ls, .int (x - y) :: r, I)
    | _ => none
  | .imul => match st with
    | .int y :: .int x :: r => some (e.2.1, ls, .int (x * y) :: r, I)
    | _ => none
  | .iand => match st with
    | .int y :: .int x :: r => some (e.2.1, ls, .int (x &&& y) :: r, I)
    | _ => none
  | .ior => match st with
    | .int y :: .int x :: r => some (e.2.1, ls, .int (x ||| y) :: r, I)
    | _ => none
  | .ixor => match st with
    | .int y :: .int x :: r => some (e.2.1, ls, .int (x ^^^ y) :: r, I)
    | _ => none
  | .ishl => match st with
    | .int y :: .int x :: r => some (e.2.1, ls, .int (x <<< (y &&& 31)) :: r, I)
    | _ => none
  | .ishr => match st with
    | .int y :: .int x :: r => some (e.2.1, ls, .int (x >>> (y &&& 31)) :: r, I)
    | _ => none
  | .iushr => match st with
    | .int y :: .int x :: r => some (e.2.1, ls, .int (x.toUInt32 >>> (y.toUInt32 &&& Int32.toUInt32 31)).toInt32 :: r, I)
    | _ => none
  | .idiv => match st with
    | .int y :: .int x :: r => if y = 0 then none else some (e.2.1, ls, .int (x / y) :: r, I)
    | _ => none
  | .irem => match st with
    | .int y :: .int x :: r => if y = 0 then none else some (e.2.1, ls, .int (x - x / y * y) :: r, I)
    | _ => none
  | .ineg => match st with
    | .int x :: r => some (e.2.1, ls, .int (-x) :: r, I)
    | _ => none
  | .i2b => match st with
    | .int x :: r => some (e.2.1, ls, .int x.toInt8.toInt32 :: r, I)
    | _ => none
  | .i2s => match st with
    | .int x :: r => some (e.2.1, ls, .int x.toInt16.toInt32 :: r, I)
    | _ => none
  | .i2c => match st with
    | .int x :: r => some (e.2.1, ls, .int (x.toUInt32 % 65536).toInt32 :: r, I)
    | _ => none
  | .i2l => match st with
    | .int x :: r => some (e.2.1, ls, .long x.toInt64 :: r, I)
    | _ => none
  | .l2i => match st with
    | .long x :: r => some (e.2.1, ls, .int x.toInt32 :: r, I)
    | _ => none
  | .land => match st with
    | .long y :: .long x :: r => some (e.2.1, ls, .long (x &&& y) :: r, I)
    | _ => none
  | .lor => match st with
    | .long y :: .long x :: r => some (e.2.1, ls, .long (x ||| y) :: r, I)
    | _ => none
  | .lshl => match st with
    | .int y :: .long x :: r => some (e.2.1, ls, .long (x <<< (y.toInt64 &&& 63)) :: r, I)
    | _ => none
  | .lshr => match st with
    | .int y :: .long x :: r => some (e.2.1, ls, .long (x >>> (y.toInt64 &&& 63)) :: r, I)
    | _ => none
  | .lushr => match st with
    | .int y :: .long x :: r => some (e.2.1, ls, .long (x.toUInt64 >>> (y.toInt64.toUInt64 &&& Int64.toUInt64 63)).toInt64 :: r, I)
    | _ => none
  | .dup => match st with
    | v :: r => if v.category = 1 then some (e.2.1, ls, v :: v :: r, I) else none
    | _ => none
  | .dup2 => match st with
    | v :: w :: r => if v.category = 1 ∧ w.category = 1 then some (e.2.1, ls, v :: w :: v :: w :: r, I) else none
    | _ => none
  | .if_icmp c _ => match st with
    | .int y :: .int x :: r => some (if mm_cmp c x y then e.2.2.1 else e.2.1, ls, r, I)
    | _ => none
  | .ifCond c _ => match st with
    | .int x :: r => some (if mm_cmp c x 0 then e.2.2.1 else e.2.1, ls, r, I)
    | _ => none
  | .goto _ => some (e.2.2.1, ls, st, I)
  | .tableswitch d lo hi offs => match st with
    | .int x :: r => some (mm_tsw pc d lo hi offs x, ls, r, I)
    | _ => none
  | .lookupswitch d ps => match st with
    | .int x :: r => some (mm_lsw pc d ps x, ls, r, I)
    | _ => none
  | .getfield _ => match st with
    | .ref a :: r => if e.2.2.1 = 5000 then (if 1010 ≤ a ∧ a < 1013 then some (e.2.1, ls, .ref (a + 10) :: r, I) else none)
      else if e.2.2.1 = 5001 then (if 1010 ≤ a ∧ a < 1013 then some (e.2.1, ls, .int 0 :: r, I) else none)
      else match T[a]? with
        | some c => if c.1 < 13 ∧ mm_dc c.1 (e.2.2.1 % 100) = e.2.2.1 / 100 then (match c.2.2[e.2.2.1 % 100]? with
          | some (.int _) => some (e.2.1, ls, .int (I a (e.2.2.1 % 100)) :: r, I)
          | some (.long _) => if I a (e.2.2.1 % 100) = 0 then none else some (e.2.1, ls, .ref (1009 + (I a (e.2.2.1 % 100)).toNatClampNeg) :: r, I)
          | some (.ref q) => some (e.2.1, ls, .ref q :: r, I)
          | _ => none) else none
        | none => none
    | _ => none
  | .putfield _ => match st with
    | .int x :: .ref a :: r => match T[a]? with
      | some c => if c.1 < 13 ∧ mm_dc c.1 (e.2.2.1 % 100) = e.2.2.1 / 100 ∧ mm_nf c.1 (e.2.2.1 % 100) = true ∧ (mm_fk c.1 (e.2.2.1 % 100) = 0 ∨ (mm_fk c.1 (e.2.2.1 % 100) = 1 ∧ (x = 0 ∨ x = 1))) then (match c.2.2[e.2.2.1 % 100]? with
        | some (.int _) => some (e.2.1, ls, r, mm_up I a (e.2.2.1 % 100) x)
        | _ => none) else none
      | none => none
    | .ref q :: .ref a :: r => match T[a]? with
      | some c => if c.1 < 13 ∧ mm_dc c.1 (e.2.2.1 % 100) = e.2.2.1 / 100 ∧ mm_nf c.1 (e.2.2.1 % 100) = true ∧ mm_fk c.1 (e.2.2.1 % 100) = 2 ∧ 1010 ≤ q ∧ q < 1013 then (match c.2.2[e.2.2.1 % 100]? with
        | some (.long _) => some (e.2.1, ls, r, mm_up I a (e.2.2.1 % 100) (Int32.ofNat (q - 1009)))
        | _ => none) else none
      | none => none
    | _ => none
  | .iaload => match st with
    | .int i :: .ref a :: r => if a = 1000 then (if mid = 0 then (if i < 0 ∨ X.1 ≤ i.toNatClampNeg then none else some (e.2.1, ls, .int (X.2 i.toNatClampNeg) :: r, I)) else none)
      else if 1001 ≤ a then (match mm_oldI a with
        | some l => if i < 0 ∨ l.length ≤ i.toNatClampNeg then none else some (e.2.1, ls, .int (l.getD i.toNatClampNeg 0) :: r, I)
        | none => none)
      else match T[a]? with
        | some c => if c.1 = 100 then (if i < 0 ∨ c.2.1 ≤ i.toNatClampNeg then none else some (e.2.1, ls, .int (I a i.toNatClampNeg) :: r, I)) else none
        | none => none
    | _ => none
  | .baload => match st with
    | .int i :: .ref a :: r => match mm_oldB a with
        | some l => if i < 0 ∨ l.length ≤ i.toNatClampNeg then none else some (e.2.1, ls, .int (l.getD i.toNatClampNeg 0) :: r, I)
        | none => none
    | _ => none
  | .iastore => match st with
    | .int x :: .int i :: .ref a :: r => match T[a]? with
        | some c => if c.1 = 100 then (if i < 0 ∨ c.2.1 ≤ i.toNatClampNeg then none else some (e.2.1, ls, r, mm_up I a i.toNatClampNeg x)) else none
        | none => none
    | _ => none
  | .aaload => match st with
    | .int i :: .ref a :: r => match T[a]? with
        | some c => if c.1 = 101 ∨ c.1 = 102 then (if i < 0 ∨ c.2.1 ≤ i.toNatClampNeg then none else match c.2.2[i.toNatClampNeg]? with
          | some (.ref q) => some (e.2.1, ls, .ref q :: r, I)
          | _ => none) else none
        | none => none
    | _ => none
  | .arraylength => match st with
    | .ref a :: r => if a = 1000 then (if mid = 0 then some (e.2.1, ls, .int (Int32.ofNat X.1) :: r, I) else none)
      else if 1001 ≤ a then (match mm_oldI a with
        | some l => some (e.2.1, ls, .int (Int32.ofNat l.length) :: r, I)
        | none => match mm_oldB a with
          | some l => some (e.2.1, ls, .int (Int32.ofNat l.length) :: r, I)
          | none => none)
      else match T[a]? with
        | some c => if c.1 = 100 then some (e.2.1, ls, .int (Int32.ofNat c.2.1) :: r, I) else none
        | none => none
    | _ => none
  | .invokestatic _ => if e.2.2.1 = 10000 then (match st with
    | .int n :: .int dp :: .ref b :: .int sp :: .ref a :: r => match T[a]?, T[b]? with
      | some c, some d => if c.1 = 100 ∧ d.1 = 100 ∧ ¬ sp < 0 ∧ ¬ dp < 0 ∧ ¬ n < 0 ∧ sp.toNatClampNeg + n.toNatClampNeg ≤ c.2.1 ∧ dp.toNatClampNeg + n.toNatClampNeg ≤ d.2.1 ∧ (r.map Value.category).sum ≤ 8 then some (e.2.1, ls, r, mm_cp I a sp.toNatClampNeg b dp.toNatClampNeg n.toNatClampNeg) else none
      | _, _ => none
    | _ => none) else if e.2.2.1 = 10002 then (match st with
    | .int y :: .int x :: r => if (r.map Value.category).sum ≤ 8 then some (e.2.1, ls, .int (if x < y then y else x) :: r, I) else none
    | _ => none) else if e.2.2.1 = 10003 then (match st with
    | .int y :: .int x :: r => if (r.map Value.category).sum ≤ 8 then some (e.2.1, ls, .int (if y < x then y else x) :: r, I) else none
    | _ => none) else none
  | _ => none
def mm_run (T : List mm_C) (X : Nat × (Nat → Int32)) : Nat → Nat → Nat → Nat → List Value → List Value → mm_I → Option (Option Value × mm_I)
  | 0, _, _, _, _, _, _ => none
  | n + 1, d, mid, pc, ls, st, I => match mm_at mid pc with
    | none => none
    | some e => match mm_ret mid e st with
      | some r => some (r, I)
      | none => match mm_call T e st with
        | some (y, as, rest) => match d with
          | 0 => none
          | d' + 1 => match mm_run T X n d' y 0 (mm_ent y as) [] I with
            | some (r, I') => mm_run T X n (d' + 1) mid e.2.1 ls (r.toList ++ rest) I'
            | none => none
        | none => match mm_stp T X mid e pc ls st I with
          | some (pc', ls', st', I') => mm_run T X n d mid pc' ls' st' I'
          | none => none
