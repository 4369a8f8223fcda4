/-! THE PLAIN MACHINE. A heap is a list of cells, a reference is a cell's place in it; am_step does one instruction.
What is proved of it here (am_sound): whatever the plain machine comes to, the machine of the claim comes to. -/
abbrev am_H : Type := List va_E
/-- pc, locals, stack, heap -/
abbrev am_S : Type := Nat × List Value × List Value × am_H
/-- a local that holds nothing that may be read -/
abbrev am_U : Value := .retAddr 1
/-- the script, seen from the law -/
abbrev am_X : Value := .retAddr 0
/-- the same without the locals -/
abbrev am_P : Type := Nat × List Value × am_H
def am_nx (pc : Nat) (st : List Value) (h : am_H) : Option am_P := some (pc, st, h)
def am_nl (pc : Nat) (ls st : List Value) (h : am_H) : Option am_S := some (pc, ls, st, h)
def am_jmp (pc : Nat) (off : Int) : Option Nat := if 0 ≤ (pc : Int) + off then some ((pc : Int) + off).toNat else none
def am_go (pc : Nat) (off : Int) (st : List Value) (h : am_H) : Option am_P := match am_jmp pc off with
  | some t => am_nx t st h
  | none => none
def am_br (b : Bool) (pc : Nat) (off : Int) (st : List Value) (h : am_H) : Option am_P := match am_jmp pc off with
  | some t => match b with
    | true => am_nx t st h
    | false => am_nx (pc + 3) st h
  | none => none
/-- a value of two slots just below place x is spoilt by a store at x -/
def am_cut (ls : List Value) (x : Nat) : List Value := match x with
  | 0 => ls
  | y + 1 => match ls[y]? with
    | some (.long _) => ls.set y am_U
    | some (.double _) => ls.set y am_U
    | _ => ls
def am_p1 (ls : List Value) (x : Nat) (v : Value) : List Value := (am_cut ls x).set x v
def am_p2 (ls : List Value) (x : Nat) (v : Value) : List Value := ((am_cut ls x).set x v).set (x + 1) am_U
def am_i1 {α : Type} (st : List Value) (f : Int32 → List Value → Option α) : Option α := match st with
  | .int x :: r => f x r
  | _ => none
def am_i2 {α : Type} (st : List Value) (f : Int32 → Int32 → List Value → Option α) : Option α := match st with
  | .int y :: .int x :: r => f x y r
  | _ => none
def am_l1 {α : Type} (st : List Value) (f : Int64 → List Value → Option α) : Option α := match st with
  | .long x :: r => f x r
  | _ => none
def am_l2 {α : Type} (st : List Value) (f : Int64 → Int64 → List Value → Option α) : Option α := match st with
  | .long y :: .long x :: r => f x y r
  | _ => none
/-- a long below an int: shifts -/
def am_s2 {α : Type} (st : List Value) (f : Int64 → Int32 → List Value → Option α) : Option α := match st with
  | .int y :: .long x :: r => f x y r
  | _ => none
def am_r1 {α : Type} (st : List Value) (f : Nat → List Value → Option α) : Option α := match st with
  | .ref a :: r => f a r
  | _ => none
def am_r2 {α : Type} (st : List Value) (f : Nat → Nat → List Value → Option α) : Option α := match st with
  | .ref b :: .ref a :: r => f a b r
  | _ => none
def am_gi {α : Type} (ls : List Value) (x : Nat) (f : Int32 → Option α) : Option α := match ls[x]? with
  | some (.int v) => f v
  | _ => none
def am_gl {α : Type} (ls : List Value) (x : Nat) (f : Int64 → Option α) : Option α := match ls[x]? with
  | some (.long v) => f v
  | _ => none
def am_ga {α : Type} (ls : List Value) (x : Nat) (f : Value → Option α) : Option α := match ls[x]? with
  | some (.ref a) => f (.ref a)
  | some (.retAddr 0) => f am_X
  | _ => none
/-- is x outside of n places? -/
def am_out (x : Int32) (n : Nat) : Bool := decide (x < 0) || decide (n ≤ x.toNatClampNeg)
def am_iald {α : Type} (X : Nat × (Nat → Int32)) (st : List Value) (h : am_H) (k : Int32 → List Value → Option α) : Option α := match st with
  | .int i :: .ref a :: r => match h[a]? with
    | some (.inl (0, n, .inl f)) => match am_out i n with
      | true => none
      | false => k (f i.toNatClampNeg) r
    | _ => none
  | .int i :: .retAddr 0 :: r => match am_out i X.1 with
    | true => none
    | false => k (X.2 i.toNatClampNeg) r
  | _ => none
def am_lald {α : Type} (st : List Value) (h : am_H) (k : Int64 → List Value → Option α) : Option α := match st with
  | .int i :: .ref a :: r => match h[a]? with
    | some (.inl (1, n, .inr (.inl f))) => match am_out i n with
      | true => none
      | false => k (f i.toNatClampNeg) r
    | _ => none
  | _ => none
def am_iast {α : Type} (st : List Value) (h : am_H) (k : List Value → am_H → Option α) : Option α := match st with
  | .int x :: .int i :: .ref a :: r => match h[a]? with
    | some (.inl (0, n, .inl f)) => match am_out i n with
      | true => none
      | false => k r (h.set a (.inl (0, n, .inl (upd f i.toNatClampNeg x))))
    | _ => none
  | _ => none
def am_last {α : Type} (st : List Value) (h : am_H) (k : List Value → am_H → Option α) : Option α := match st with
  | .long x :: .int i :: .ref a :: r => match h[a]? with
    | some (.inl (1, n, .inr (.inl f))) => match am_out i n with
      | true => none
      | false => k r (h.set a (.inl (1, n, .inr (.inl (vp_updL f i.toNatClampNeg x)))))
    | _ => none
  | _ => none
def am_alen {α : Type} (X : Nat × (Nat → Int32)) (st : List Value) (h : am_H) (k : Int32 → List Value → Option α) : Option α := match st with
  | .ref a :: r => match h[a]? with
    | some (.inl (0, n, _)) => k (Int32.ofNat n) r
    | some (.inl (1, n, _)) => k (Int32.ofNat n) r
    | _ => none
  | .retAddr 0 :: r => k (Int32.ofNat X.1) r
  | _ => none
def am_zald {α : Type} (st : List Value) (h : am_H) (k : Int32 → List Value → Option α) : Option α := match st with
  | .int i :: .ref a :: r => match h[a]? with
    | some (.inl (2, n, .inl f)) => match am_out i n with
      | true => none
      | false => k (f i.toNatClampNeg) r
    | _ => none
  | _ => none
def am_zast {α : Type} (st : List Value) (h : am_H) (k : List Value → am_H → Option α) : Option α := match st with
  | .int x :: .int i :: .ref a :: r => match h[a]? with
    | some (.inl (2, n, .inl f)) => match am_out i n || !(decide (x &&& 1 = x)) with
      | true => none
      | false => k r (h.set a (.inl (2, n, .inl (upd f i.toNatClampNeg x))))
    | _ => none
  | _ => none
/-- a new array of a kind: ints, longs, booleans -/
def am_newa {α : Type} (t : ArrayType) (st : List Value) (h : am_H) (k : Nat → List Value → am_H → Option α) : Option α := match st with
  | .int x :: r => match decide (x < 0) || decide (1000000 < x.toNatClampNeg) with
    | true => none
    | false => match t with
      | .int => k h.length r (h ++ [.inl (0, x.toNatClampNeg, .inl fun _ => 0)])
      | .long => k h.length r (h ++ [.inl (1, x.toNatClampNeg, .inr (.inl fun _ => 0))])
      | .boolean => k h.length r (h ++ [.inl (2, x.toNatClampNeg, .inl fun _ => 0)])
      | _ => none
  | _ => none
def am_getf {α : Type} (q : Option (Nat × Nat)) (st : List Value) (h : am_H) (k : Value → List Value → Option α) : Option α := match q with
  | none => none
  | some (ci, f) => match st with
    | .ref a :: r => match h[a]? with
      | some (.inr (c, fs)) => match c == ci with
        | true => match fs[f]? with
          | some v => k v r
          | none => none
        | false => none
      | _ => none
    | _ => none
/-- a final field is written by a constructor of its own class alone -/
def am_putf {α : Type} (k0 : Nat) (q : Option (Nat × Nat)) (st : List Value) (h : am_H) (k : List Value → am_H → Option α) : Option α := match q with
  | none => none
  | some (ci, f) => match st with
    | v :: .ref a :: r => match h[a]? with
      | some (.inr (c, fs)) => match (c == ci) && decide (f < fs.length) && (!(am_fin ci f) || am_ctor k0 ci) && decide (narrow (am_fty ci f) v = v) && fits (am_fty ci f) v with
        | true => k r (h.set a (.inr (c, fs.set f v)))
        | false => none
      | _ => none
    | _ => none
def am_low (st : List Value) : Bool := decide ((st.map fun v => v.category).sum ≤ 8)
/-- method k may call method k' -/
def am_may (k k' : Nat) : Bool := Nat.ble (am_fr k' + 1) (am_fr k) && Nat.ble (19 + am_mxl k' + am_lc k') (am_lc k)
/-- a call: 0 static, 1 of an object, 2 a constructor: the method, its arguments, the state behind it without its answer -/
def am_inv (k kind : Nat) (q : Option (Nat × Nat × Nat)) (pc : Nat) (ls st : List Value) (h : am_H) : Option (Nat × List Value × am_S) := match q with
  | none => none
  | some (kd, k', np) => match (kd == kind) && decide (np ≤ st.length) && am_may k k' with
    | false => none
    | true => match kind with
      | 0 => match am_low (st.drop np) with
        | true => some (k', (st.take np).reverse, (pc + 3, ls, st.drop np, h))
        | false => none
      | 1 => match st.drop np with
        | .ref a :: r => match h[a]? with
          | some (.inr (c, _)) => match (c == am_rcv k') && am_low r with
            | true => some (k', .ref a :: (st.take np).reverse, (pc + 3, ls, r, h))
            | false => none
          | _ => none
        | _ => none
      | 2 => match st.drop np with
        | .ref a :: r => match am_low r with
          | true => some (k', .ref a :: (st.take np).reverse, (pc + 3, ls, r, h))
          | false => none
        | _ => none
      | _ => none
/-- Math's own: 0 max, 1 min of ints, 5 abs of a long -/
def am_math {α : Type} (op : Nat) (st : List Value) (k : Value → List Value → Option α) : Option α := match op with
  | 0 => am_i2 st fun x y r => k (.int (if x < y then y else x)) r
  | 1 => am_i2 st fun x y r => k (.int (if y < x then y else x)) r
  | 5 => am_l1 st fun x r => k (.long (if 0 < x then x else -x)) r
  | _ => none
/-- an instruction of method k that leaves the locals alone -/
def am_dp (X : Nat × (Nat → Int32)) (k : Nat) (i : Instr) (pc : Nat) (st : List Value) (h : am_H) : Option am_P := match i with
  | .aconst_null => am_nx (pc + 1) (.null :: st) h
  | .iconst n => am_nx (pc + 1) (.int (Int32.ofInt n) :: st) h
  | .bipush n => am_nx (pc + 2) (.int (Int8.ofInt n).toInt32 :: st) h
  | .sipush n => am_nx (pc + 3) (.int (Int16.ofInt n).toInt32 :: st) h
  | .lconst n => am_nx (pc + 1) (.long (Int64.ofNat (n : Nat)) :: st) h
  | .ldc j => match am_ldi (am_own k) j with
    | some v => am_nx (pc + 2) (.int v :: st) h
    | none => none
  | .ldc2_w j => match am_ldl (am_own k) j with
    | some v => am_nx (pc + 3) (.long v :: st) h
    | none => none
  | .dup => match st with
    | v :: r => if v.category = 1 then am_nx (pc + 1) (v :: v :: r) h else none
    | _ => none
  | .dup_x1 => match st with
    | v :: w :: r => if v.category = 1 ∧ w.category = 1 then am_nx (pc + 1) (v :: w :: v :: r) h else none
    | _ => none
  | .dup_x2 => match st with
    | v :: w :: u :: r => if v.category = 1 ∧ w.category = 1 ∧ u.category = 1 then am_nx (pc + 1) (v :: w :: u :: v :: r) h else none
    | _ => none
  | .dup2 => match st with
    | .long x :: r => am_nx (pc + 1) (.long x :: .long x :: r) h
    | v :: w :: r => if v.category = 1 ∧ w.category = 1 then am_nx (pc + 1) (v :: w :: v :: w :: r) h else none
    | _ => none
  | .dup2_x1 => match st with
    | .long x :: w :: r => if w.category = 1 then am_nx (pc + 1) (.long x :: w :: .long x :: r) h else none
    | _ => none
  | .dup2_x2 => match st with
    | .long x :: w :: u :: r => if w.category = 1 ∧ u.category = 1 then am_nx (pc + 1) (.long x :: w :: u :: .long x :: r) h else none
    | _ => none
  | .pop => match st with
    | v :: r => if v.category = 1 then am_nx (pc + 1) r h else none
    | _ => none
  | .pop2 => match st with
    | .long _ :: r => am_nx (pc + 1) r h
    | _ => none
  | .iadd => am_i2 st fun x y r => am_nx (pc + 1) (.int (x + y) :: r) h
  | .isub => am_i2 st fun x y r => am_nx (pc + 1) (.int (x - y) :: r) h
  | .imul => am_i2 st fun x y r => am_nx (pc + 1) (.int (x * y) :: r) h
  | .iand => am_i2 st fun x y r => am_nx (pc + 1) (.int (x &&& y) :: r) h
  | .ior => am_i2 st fun x y r => am_nx (pc + 1) (.int (x ||| y) :: r) h
  | .ixor => am_i2 st fun x y r => am_nx (pc + 1) (.int (x ^^^ y) :: r) h
  | .idiv => am_i2 st fun x y r => if y = 0 then none else am_nx (pc + 1) (.int (x / y) :: r) h
  | .irem => am_i2 st fun x y r => if y = 0 then none else am_nx (pc + 1) (.int (x - x / y * y) :: r) h
  | .ineg => am_i1 st fun x r => am_nx (pc + 1) (.int (-x) :: r) h
  | .ishl => am_i2 st fun x y r => am_nx (pc + 1) (.int (x <<< (y &&& 31)) :: r) h
  | .ishr => am_i2 st fun x y r => am_nx (pc + 1) (.int (x >>> (y &&& 31)) :: r) h
  | .iushr => am_i2 st fun x y r => am_nx (pc + 1) (.int ((x.toUInt32 >>> (y.toUInt32 &&& Int32.toUInt32 31)).toInt32) :: r) h
  | .ladd => am_l2 st fun x y r => am_nx (pc + 1) (.long (x + y) :: r) h
  | .lsub => am_l2 st fun x y r => am_nx (pc + 1) (.long (x - y) :: r) h
  | .lmul => am_l2 st fun x y r => am_nx (pc + 1) (.long (x * y) :: r) h
  | .land => am_l2 st fun x y r => am_nx (pc + 1) (.long (x &&& y) :: r) h
  | .lor => am_l2 st fun x y r => am_nx (pc + 1) (.long (x ||| y) :: r) h
  | .lxor => am_l2 st fun x y r => am_nx (pc + 1) (.long (x ^^^ y) :: r) h
  | .ldiv => am_l2 st fun x y r => if y = 0 then none else am_nx (pc + 1) (.long (x / y) :: r) h
  | .lrem => am_l2 st fun x y r => if y = 0 then none else am_nx (pc + 1) (.long (x - x / y * y) :: r) h
  | .lneg => am_l1 st fun x r => am_nx (pc + 1) (.long (-x) :: r) h
  | .lshl => am_s2 st fun x y r => am_nx (pc + 1) (.long (x <<< (y.toInt64 &&& 63)) :: r) h
  | .lshr => am_s2 st fun x y r => am_nx (pc + 1) (.long (x >>> (y.toInt64 &&& 63)) :: r) h
  | .lushr => am_s2 st fun x y r => am_nx (pc + 1) (.long ((x.toUInt64 >>> (y.toInt64.toUInt64 &&& Int64.toUInt64 63)).toInt64) :: r) h
  | .i2l => am_i1 st fun x r => am_nx (pc + 1) (.long x.toInt64 :: r) h
  | .l2i => am_l1 st fun x r => am_nx (pc + 1) (.int x.toInt32 :: r) h
  | .i2b => am_i1 st fun x r => am_nx (pc + 1) (.int x.toInt8.toInt32 :: r) h
  | .i2s => am_i1 st fun x r => am_nx (pc + 1) (.int x.toInt16.toInt32 :: r) h
  | .i2c => am_i1 st fun x r => am_nx (pc + 1) (.int (x.toUInt32 % 65536).toInt32 :: r) h
  | .lcmp => am_l2 st fun x y r => am_nx (pc + 1) (.int (lg_cmp x y) :: r) h
  | .ifCond cn off => am_i1 st fun x r => match cn with
    | .eq => am_br (decide (x = 0)) pc off r h
    | .ne => am_br (decide (¬ x = 0)) pc off r h
    | .lt => am_br (decide (x < 0)) pc off r h
    | .ge => am_br (decide (0 ≤ x)) pc off r h
    | .gt => am_br (decide (0 < x)) pc off r h
    | .le => am_br (decide (x ≤ 0)) pc off r h
  | .if_icmp cn off => am_i2 st fun x y r => match cn with
    | .eq => am_br (decide (x = y)) pc off r h
    | .ne => am_br (decide (¬ x = y)) pc off r h
    | .lt => am_br (decide (x < y)) pc off r h
    | .ge => am_br (decide (y ≤ x)) pc off r h
    | .gt => am_br (decide (y < x)) pc off r h
    | .le => am_br (decide (x ≤ y)) pc off r h
  | .if_acmp cn off => am_r2 st fun a b r => match cn with
    | .eq => am_br (decide (a = b)) pc off r h
    | .ne => am_br (decide (¬ a = b)) pc off r h
  | .goto off => am_go pc off st h
  | .tableswitch d lo hi offs => am_i1 st fun x r => if x.toInt < lo ∨ hi < x.toInt then am_go pc d r h else match offs[(x.toInt - lo).toNat]? with
    | some off => am_go pc off r h
    | none => none
  | .lookupswitch d ps => am_i1 st fun x r => if (ps.toList.zip (ps.toList.drop 1)).all (fun (a, next) => a.1 < next.1) = true then am_go pc (Op.lookupswitch.offset ps.toList d x.toInt) r h else none
  | .iaload => am_iald X st h fun v r => am_nx (pc + 1) (.int v :: r) h
  | .laload => am_lald st h fun v r => am_nx (pc + 1) (.long v :: r) h
  | .iastore => am_iast st h fun r h' => am_nx (pc + 1) r h'
  | .baload => am_zald st h fun v r => am_nx (pc + 1) (.int v :: r) h
  | .bastore => am_zast st h fun r h' => am_nx (pc + 1) r h'
  | .lastore => am_last st h fun r h' => am_nx (pc + 1) r h'
  | .arraylength => am_alen X st h fun v r => am_nx (pc + 1) (.int v :: r) h
  | .newarray t => am_newa t st h fun a r h' => am_nx (pc + 2) (.ref a :: r) h'
  | .new j => match am_newc (am_own k) j with
    | some ci => am_nx (pc + 3) (.ref h.length :: st) (h ++ [.inr (ci, am_dfl ci)])
    | none => none
  | .getfield j => am_getf (am_fld (am_own k) j) st h fun v r => am_nx (pc + 3) (v :: r) h
  | .putfield j => am_putf k (am_fld (am_own k) j) st h fun r h' => am_nx (pc + 3) r h'
  | .invokestatic j => match am_met (am_own k) j with
    | some (4, op, _) => am_math op st fun v r => if (am_low r && Nat.ble 1 (am_fr k) && Nat.ble 21 (am_lc k)) = true then am_nx (pc + 3) (v :: r) h else none
    | _ => none
  | .invokespecial j => match am_met (am_own k) j with
    | some (3, _, _) => am_r1 st fun _ r => if (am_low r && Nat.ble 1 (am_fr k) && Nat.ble 20 (am_lc k)) = true then am_nx (pc + 3) r h else none
    | _ => none
  | _ => none
/-- an instruction that reads or writes locals -/
def am_dl (i : Instr) (pc : Nat) (ls st : List Value) (h : am_H) : Option am_S := match i with
  | .iload x => am_gi ls x fun v => am_nl (pc + 2) ls (.int v :: st) h
  | .iload_n x => am_gi ls x fun v => am_nl (pc + 1) ls (.int v :: st) h
  | .lload x => am_gl ls x fun v => am_nl (pc + 2) ls (.long v :: st) h
  | .lload_n x => am_gl ls x fun v => am_nl (pc + 1) ls (.long v :: st) h
  | .aload x => am_ga ls x fun v => am_nl (pc + 2) ls (v :: st) h
  | .aload_n x => am_ga ls x fun v => am_nl (pc + 1) ls (v :: st) h
  | .istore x => am_i1 st fun v r => if x < ls.length then am_nl (pc + 2) (am_p1 ls x (.int v)) r h else none
  | .istore_n x => am_i1 st fun v r => if (x : Nat) < ls.length then am_nl (pc + 1) (am_p1 ls x (.int v)) r h else none
  | .lstore x => am_l1 st fun v r => if x + 1 < ls.length then am_nl (pc + 2) (am_p2 ls x (.long v)) r h else none
  | .lstore_n x => am_l1 st fun v r => if (x : Nat) + 1 < ls.length then am_nl (pc + 1) (am_p2 ls x (.long v)) r h else none
  | .astore x => am_r1 st fun a r => if x < ls.length then am_nl (pc + 2) (am_p1 ls x (.ref a)) r h else none
  | .astore_n x => am_r1 st fun a r => if (x : Nat) < ls.length then am_nl (pc + 1) (am_p1 ls x (.ref a)) r h else none
  | .iinc x n => am_gi ls x fun v => am_nl (pc + 3) (am_p1 ls x (.int (v + Int32.ofInt n))) st h
  | _ => none
/-- one instruction of method k -/
def am_do (X : Nat × (Nat → Int32)) (k : Nat) (i : Instr) (pc : Nat) (ls st : List Value) (h : am_H) : Option am_S := match am_dp X k i pc st h with
  | some (pc', st', h') => some (pc', ls, st', h')
  | none => am_dl i pc ls st h
/-- a return -/
def am_rt (k : Nat) (i : Instr) (st : List Value) (h : am_H) : Option (Option Value × am_H) := match i with
  | .ireturn => match st with
    | [.int v] => match am_ret k with
      | some ty => if narrow ty (.int v) = .int v then some (some (.int v), h) else none
      | none => none
    | _ => none
  | .lreturn => match st with
    | [.long v] => if am_ret k = some .long then some (some (.long v), h) else none
    | _ => none
  | .areturn => match st with
    | [.ref a] => match am_ret k with
      | some (.object _) => some (some (.ref a), h)
      | some (.array _) => some (some (.ref a), h)
      | _ => none
    | _ => none
  | .return_ => match st with
    | [] => if am_ret k = none then some (none, h) else none
    | _ => none
  | _ => none
/-- a call -/
def am_cl (k : Nat) (i : Instr) (pc : Nat) (ls st : List Value) (h : am_H) : Option (Nat × List Value × am_S) := match i with
  | .invokestatic j => am_inv k 0 (am_met (am_own k) j) pc ls st h
  | .invokevirtual j => am_inv k 1 (am_met (am_own k) j) pc ls st h
  | .invokespecial j => am_inv k 2 (am_met (am_own k) j) pc ls st h
  | _ => none
/-- n instructions of method k, from a state to an answer and a heap; C says what the methods that it calls come to -/
def am_run (X : Nat × (Nat → Int32)) (C : Nat → List Value → am_H → Option Value × am_H → Prop) (k : Nat) : Nat → am_S → Option Value × am_H → Prop
  | 0, _, _ => False
  | n + 1, σ, ρ => ∃ i, am_code k σ.1 = some i ∧
    ((∃ σ', am_do X k i σ.1 σ.2.1 σ.2.2.1 σ.2.2.2 = some σ' ∧ am_run X C k n σ' ρ) ∨ am_rt k i σ.2.2.1 σ.2.2.2 = some ρ ∨
      ∃ k' as pc ls st h r h', am_cl k i σ.1 σ.2.1 σ.2.2.1 σ.2.2.2 = some (k', as, (pc, ls, st, h)) ∧ C k' as h (r, h') ∧ am_run X C k n (pc, ls, r.toList ++ st, h') ρ)
def am_lay : List Value → List Value
  | [] => []
  | v :: r => if v.category = 2 then v :: am_U :: am_lay r else v :: am_lay r
def am_ent (as : List Value) (n : Nat) : List Value := am_lay as ++ List.replicate (n - (am_lay as).length) am_U
/-- method k on these arguments and this heap comes, with at most d frames, to this answer and this heap -/
def am_call (X : Nat × (Nat → Int32)) : Nat → Nat → List Value → am_H → Option Value × am_H → Prop
  | 0, _, _, _, _ => False
  | d + 1, k, as, h, ρ => (am_lay as).length ≤ am_mxl k ∧ ∃ n, am_run X (am_call X d) k n (0, am_ent as (am_mxl k), [], h) ρ
