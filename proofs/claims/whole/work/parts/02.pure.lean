/-! THE PURE MACHINE. A method's code as a list of (pc, instruction, length, link); a heap as a list of cells, an address
is a place in it; locals and operand stack as lists. 'pm_Go .. s r': from the point s the method ends with r.
All later rows speak of this machine alone; 'the pure machine is the real one' stands in the part behind. -/
/-- a link: a jump's target; a field's (class, place, kind); a call's (method, how many arguments, kind); a throw's (class, cells, slots) -/
abbrev pm_L : Type := List Nat × Value
abbrev pm_H : Type := List va_E
abbrev pm_V : Type := List (Option Value)
/-- a point: pc, locals, operand stack, heap, cells made, slots made -/
abbrev pm_S : Type := Nat × pm_V × List Value × pm_H × Nat × Nat
/-- an end: what was returned, or the number of the class of what was thrown; the heap; cells, slots made -/
abbrev pm_R : Type := (Option Value ⊕ Nat) × pm_H × Nat × Nat
/-- a method: its code, its table (from, to, handler, class, local, class's place in the handler's own link) -/
abbrev pm_M : Type := List (Nat × Instr × Nat × pm_L) × List (Nat × Nat × Nat × Nat × Nat)
def pm_look {α : Type} : List (Nat × α) → Nat → Option α
  | [], _ => none
  | (k, a) :: r, n => bif Nat.beq k n then some a else pm_look r n
/-! operations on the stack -/
def pm_i1 (f : Int32 → Value) : List Value → Option (List Value)
  | .int x :: r => some (f x :: r)
  | _ => none
def pm_i2 (f : Int32 → Int32 → Value) : List Value → Option (List Value)
  | .int y :: .int x :: r => some (f x y :: r)
  | _ => none
def pm_l1 (f : Int64 → Value) : List Value → Option (List Value)
  | .long x :: r => some (f x :: r)
  | _ => none
def pm_l2 (f : Int64 → Int64 → Value) : List Value → Option (List Value)
  | .long y :: .long x :: r => some (f x y :: r)
  | _ => none
def pm_li (f : Int64 → Int32 → Value) : List Value → Option (List Value)
  | .int y :: .long x :: r => some (f x y :: r)
  | _ => none
def pm_d1 (f : UInt64 → Value) : List Value → Option (List Value)
  | .double x :: r => some (f x :: r)
  | _ => none
def pm_d2 (f : UInt64 → UInt64 → Value) : List Value → Option (List Value)
  | .double y :: .double x :: r => some (f x y :: r)
  | _ => none
/-- with a condition on the operands -/
def pm_i2c (g : Int32 → Int32 → Bool) (f : Int32 → Int32 → Value) : List Value → Option (List Value)
  | .int y :: .int x :: r => bif g x y then some (f x y :: r) else none
  | _ => none
def pm_l2c (g : Int64 → Int64 → Bool) (f : Int64 → Int64 → Value) : List Value → Option (List Value)
  | .long y :: .long x :: r => bif g x y then some (f x y :: r) else none
  | _ => none
def pm_n64 (r : UInt64) : Bool := decide (r &&& 0x7fffffffffffffff ≤ 0x7ff0000000000000)
def pm_n32 (r : UInt32) : Bool := decide (r &&& 0x7fffffff ≤ 0x7f800000)
def pm_d2c (f : UInt64 → UInt64 → UInt64) : List Value → Option (List Value)
  | .double y :: .double x :: r => bif pm_n64 (f x y) then some (.double (f x y) :: r) else none
  | _ => none
def pm_d2f : List Value → Option (List Value)
  | .double x :: r => bif pm_n32 (FP.d2f x) then some (.float (FP.d2f x) :: r) else none
  | _ => none
def pm_f2d : List Value → Option (List Value)
  | .float x :: r => bif pm_n64 (FP.f2d x) then some (.double (FP.f2d x) :: r) else none
  | _ => none
def pm_c1 (v : Value) : Bool := Nat.beq v.category 1
def pm_c2 (v : Value) : Bool := Nat.beq v.category 2
def pm_dup : List Value → Option (List Value)
  | a :: r => bif pm_c1 a then some (a :: a :: r) else none
  | _ => none
def pm_pop : List Value → Option (List Value)
  | a :: r => bif pm_c1 a then some r else none
  | _ => none
def pm_pop2 : List Value → Option (List Value)
  | a :: r => bif pm_c2 a then some r else none
  | _ => none
def pm_dup_x1 : List Value → Option (List Value)
  | a :: b :: r => bif pm_c1 a && pm_c1 b then some (a :: b :: a :: r) else none
  | _ => none
def pm_dup_x2 : List Value → Option (List Value)
  | a :: b :: d :: r => bif pm_c1 a && pm_c1 b && pm_c1 d then some (a :: b :: d :: a :: r) else none
  | _ => none
def pm_dup2 : List Value → Option (List Value)
  | a :: b :: r => bif pm_c2 a then some (a :: a :: b :: r) else (bif pm_c1 a && pm_c1 b then some (a :: b :: a :: b :: r) else none)
  | [a] => bif pm_c2 a then some [a, a] else none
  | _ => none
def pm_dup2_x1 : List Value → Option (List Value)
  | a :: b :: r => bif pm_c2 a && pm_c1 b then some (a :: b :: a :: r) else none
  | _ => none
def pm_dup2_x2 : List Value → Option (List Value)
  | a :: b :: d :: r => bif pm_c2 a && pm_c1 b && pm_c1 d then some (a :: b :: d :: a :: r) else none
  | _ => none
/-- what works on the stack alone -/
def pm_op : Instr → List Value → Option (List Value)
  | .iconst n => fun st => some (.int (Int32.ofInt n) :: st)
  | .bipush n => fun st => some (.int (Int8.ofInt n).toInt32 :: st)
  | .sipush n => fun st => some (.int (Int16.ofInt n).toInt32 :: st)
  | .lconst n => fun st => some (.long (Int64.ofNat (n : Nat)) :: st)
  | .iadd => pm_i2 fun x y => .int (x + y)
  | .isub => pm_i2 fun x y => .int (x - y)
  | .imul => pm_i2 fun x y => .int (x * y)
  | .iand => pm_i2 fun x y => .int (x &&& y)
  | .ior => pm_i2 fun x y => .int (x ||| y)
  | .ixor => pm_i2 fun x y => .int (x ^^^ y)
  | .ishl => pm_i2 fun x y => .int (x <<< (y &&& 31))
  | .ishr => pm_i2 fun x y => .int (x >>> (y &&& 31))
  | .iushr => pm_i2 fun x y => .int (x.toUInt32 >>> (y.toUInt32 &&& Int32.toUInt32 31)).toInt32
  | .idiv => pm_i2c (fun _ y => !decide (y = 0)) fun x y => .int (x / y)
  | .irem => pm_i2c (fun _ y => !decide (y = 0)) fun x y => .int (x - x / y * y)
  | .ineg => pm_i1 fun x => .int (-x)
  | .ladd => pm_l2 fun x y => .long (x + y)
  | .lsub => pm_l2 fun x y => .long (x - y)
  | .lmul => pm_l2 fun x y => .long (x * y)
  | .land => pm_l2 fun x y => .long (x &&& y)
  | .lor => pm_l2 fun x y => .long (x ||| y)
  | .lxor => pm_l2 fun x y => .long (x ^^^ y)
  | .ldiv => pm_l2c (fun _ y => !decide (y = 0)) fun x y => .long (x / y)
  | .lrem => pm_l2c (fun _ y => !decide (y = 0)) fun x y => .long (x - x / y * y)
  | .lneg => pm_l1 fun x => .long (-x)
  | .lshl => pm_li fun x y => .long (x <<< (y.toInt64 &&& 63))
  | .lshr => pm_li fun x y => .long (x >>> (y.toInt64 &&& 63))
  | .lushr => pm_li fun x y => .long (x.toUInt64 >>> (y.toInt64.toUInt64 &&& Int64.toUInt64 63)).toInt64
  | .lcmp => pm_l2 fun x y => .int (lg_cmp x y)
  | .i2l => pm_i1 fun x => .long x.toInt64
  | .l2i => pm_l1 fun x => .int x.toInt32
  | .i2b => pm_i1 fun x => .int x.toInt8.toInt32
  | .i2s => pm_i1 fun x => .int x.toInt16.toInt32
  | .i2c => pm_i1 fun x => .int (x.toUInt32 % 65536).toInt32
  | .i2d => pm_i1 fun x => .double (FP.i2d x)
  | .l2d => pm_l1 fun x => .double (FP.l2d x)
  | .d2l => pm_d1 fun x => .long (FP.d2l x)
  | .d2i => pm_d1 fun x => .int (FP.d2i x)
  | .d2f => pm_d2f
  | .f2d => pm_f2d
  | .dneg => pm_d1 fun x => .double (FP.dneg x)
  | .dadd => pm_d2c FP.dadd
  | .dsub => pm_d2c FP.dsub
  | .dmul => pm_d2c FP.dmul
  | .dconst 0 => fun st => some (.double FP.dconst0 :: st)
  | .dconst 1 => fun st => some (.double FP.dconst1 :: st)
  | .ddiv => pm_d2c FP.ddiv
  | .dcmp o => pm_d2 fun x y => .int (Op.cmpValue (FP.dcmp x y) o)
  | .dup => pm_dup
  | .pop => pm_pop
  | .pop2 => pm_pop2
  | .dup_x1 => pm_dup_x1
  | .dup_x2 => pm_dup_x2
  | .dup2 => pm_dup2
  | .dup2_x1 => pm_dup2_x1
  | .dup2_x2 => pm_dup2_x2
  | _ => fun _ => none
/-! locals -/
def pm_isI : Value → Bool
  | .int _ => true
  | _ => false
def pm_isL : Value → Bool
  | .long _ => true
  | _ => false
def pm_isF : Value → Bool
  | .float _ => true
  | _ => false
def pm_isD : Value → Bool
  | .double _ => true
  | _ => false
/-- a reference: a place in the heap, or (as a number behind 'retAddr') a given array -/
def pm_isA : Value → Bool
  | .ref _ => true
  | .retAddr _ => true
  | _ => false
def pm_ld (t : Value → Bool) (ls : pm_V) (i : Nat) (st : List Value) : Option (List Value) := match ls.getD i none with
  | some v => bif t v then some (v :: st) else none
  | none => none
def pm_clr (ls : pm_V) : Nat → pm_V
  | 0 => ls
  | i + 1 => match ls.getD i none with
    | some v => bif pm_c2 v then ls.set i none else ls
    | none => ls
def pm_st1 (t : Value → Bool) (ls : pm_V) (i : Nat) : List Value → Option (pm_V × List Value)
  | v :: r => bif t v && Nat.ble (i + 1) ls.length then some ((pm_clr ls i).set i (some v), r) else none
  | _ => none
def pm_st2 (t : Value → Bool) (ls : pm_V) (i : Nat) : List Value → Option (pm_V × List Value)
  | v :: r => bif t v && Nat.ble (i + 2) ls.length then some (((pm_clr ls i).set i (some v)).set (i + 1) none, r) else none
  | _ => none
def pm_inc (ls : pm_V) (i : Nat) (n : Int) : Option pm_V := match ls.getD i none with
  | some (.int x) => some ((pm_clr ls i).set i (some (.int (x + Int32.ofInt n))))
  | _ => none
/-! branches -/
def pm_b1 (c : Jvm.ClassFile.Cond) (x : Int32) : Bool := match c with
  | .eq => decide (x = 0)
  | .ne => !decide (x = 0)
  | .lt => decide (x < 0)
  | .ge => decide (0 ≤ x)
  | .gt => decide (0 < x)
  | .le => decide (x ≤ 0)
def pm_b2 (c : Jvm.ClassFile.Cond) (x y : Int32) : Bool := match c with
  | .eq => decide (x = y)
  | .ne => !decide (x = y)
  | .lt => decide (x < y)
  | .ge => decide (y ≤ x)
  | .gt => decide (y < x)
  | .le => decide (x ≤ y)
/-! the heap: fields, arrays, what is made -/
def pm_fld (h : pm_H) (a ci k : Nat) : Option Value := match h[a]? with
  | some (.inr (c, fs)) => bif Nat.beq c ci then fs[k]? else none
  | _ => none
/-- a field's kind: 0 an int, 1 a long, 2 a reference, 3 a double, 4 a boolean -/
def pm_fit (t : Nat) (v : Value) : Bool := match t, v with
  | 0, .int _ => true
  | 1, .long _ => true
  | 2, .ref _ => true
  | 3, .double _ => true
  | 4, .int x => decide (x = 0) || decide (x = 1)
  | _, _ => false
def pm_put (h : pm_H) (a ci k t : Nat) (v : Value) : Option pm_H := match h[a]? with
  | some (.inr (c, fs)) => bif Nat.beq c ci && (pm_fit t v && Nat.ble (k + 1) fs.length) then some (h.set a (.inr (c, fs.set k v))) else none
  | _ => none
def pm_in (i : Int32) (n : Nat) : Bool := !(decide (i < 0) || Nat.ble n i.toNatClampNeg)
/-- arrays, by their type's number: 0 int, 1 long, 2 byte, 3 boolean, 4 double, from 5 on references; an instruction's t: the type's, 5 for all references -/
def pm_ald (h : pm_H) (a t : Nat) (i : Int32) : Option Value := match h[a]? with
  | some (.inl (t', n, x)) => bif pm_in i n then (match t, x with
      | 0, .inl f => bif Nat.beq t' 0 then some (.int (f i.toNatClampNeg)) else none
      | 2, .inl f => bif Nat.beq t' 2 then some (.int (f i.toNatClampNeg)) else none
      | 1, .inr (.inl f) => bif Nat.beq t' 1 then some (.long (f i.toNatClampNeg)) else none
      | 4, .inr (.inr (.inr (.inl f))) => bif Nat.beq t' 4 then some (.double (f i.toNatClampNeg)) else none
      | 5, .inr (.inr (.inr (.inr f))) => bif Nat.ble 5 t' && Nat.ble t' 7 then (f i.toNatClampNeg).map Value.ref else none
      | _, _ => none) else none
  | _ => none
/-- the class of the objects in an array of references -/
def pm_cmp : Nat → Nat
  | 6 => 7
  | 7 => 6
  | _ => 1000
def pm_isO (h : pm_H) (y ci : Nat) : Bool := match h[y]? with
  | some (.inr (c, _)) => Nat.beq c ci
  | _ => false
def pm_ast (h : pm_H) (a t : Nat) (i : Int32) (v : Value) : Option pm_H := match h[a]? with
  | some (.inl (t', n, x)) => bif pm_in i n then (match t, x, v with
      | 0, .inl f, .int y => bif Nat.beq t' 0 then some (h.set a (.inl (t', n, .inl (upd f i.toNatClampNeg y)))) else none
      | 2, .inl f, .int y => bif Nat.beq t' 2 then some (h.set a (.inl (t', n, .inl (upd f i.toNatClampNeg (vp_nar .byte y))))) else none
      | 1, .inr (.inl f), .long y => bif Nat.beq t' 1 then some (h.set a (.inl (t', n, .inr (.inl (vp_updL f i.toNatClampNeg y))))) else none
      | 4, .inr (.inr (.inr (.inl f))), .double y => bif Nat.beq t' 4 then some (h.set a (.inl (t', n, .inr (.inr (.inr (.inl (vf_upd f i.toNatClampNeg y))))))) else none
      | 5, .inr (.inr (.inr (.inr f))), .ref y => bif (Nat.beq t' 6 || Nat.beq t' 7) && pm_isO h y (pm_cmp t') then some (h.set a (.inl (t', n, .inr (.inr (.inr (.inr (va_up f i.toNatClampNeg (some y)))))))) else none
      | _, _, _ => none) else none
  | _ => none
/-- a new array of n places -/
def pm_arr (t n : Nat) : va_E := match t with
  | 0 => .inl (0, n, .inl (fun _ => 0))
  | 1 => .inl (1, n, .inr (.inl (fun _ => 0)))
  | 2 => .inl (2, n, .inl (fun _ => 0))
  | 3 => .inl (3, n, .inl (fun _ => 0))
  | 4 => .inl (4, n, .inr (.inr (.inr (.inl (fun _ => 0)))))
  | t => .inl (t, n, .inr (.inr (.inr (.inr (fun _ => none)))))
/-- System.arraycopy of longs -/
def pm_cpy (h : pm_H) (a0 : Nat) (sp : Int32) (a : Nat) (dp n : Int32) : Option pm_H := match h[a0]?, h[a]? with
  | some (.inl (1, n0, .inr (.inl f))), some (.inl (1, n1, .inr (.inl g))) =>
    bif !(decide (sp < 0)) && (!(decide (dp < 0)) && (!(decide (n < 0)) && (Nat.ble (sp.toNatClampNeg + n.toNatClampNeg) n0 && Nat.ble (dp.toNatClampNeg + n.toNatClampNeg) n1)))
    then some (h.set a (.inl (1, n1, .inr (.inl (va_cpy f g sp.toNatClampNeg dp.toNatClampNeg n.toNatClampNeg))))) else none
  | _, _ => none
/-- the given arrays of ints: how long, what -/
abbrev pm_X : Type := Nat → Nat × (Nat → Int32)
def pm_xld (X : pm_X) (t : Nat) (i : Int32) : Option Value := bif Nat.ble t 1 && pm_in i (X t).1 then some (.int ((X t).2 i.toNatClampNeg)) else none
/-! one step -/
def pm_wt : List Value → Nat
  | [] => 0
  | v :: r => v.category + pm_wt r
def pm_on (pc len : Nat) (ls : pm_V) (h : pm_H) (c k : Nat) (o : Option (List Value)) : Option pm_S := o.map fun st => (pc + len, ls, st, h, c, k)
def pm_sto (pc len : Nat) (h : pm_H) (c k : Nat) (o : Option (pm_V × List Value)) : Option pm_S := o.map fun q => (pc + len, q.1, q.2, h, c, k)
def pm_hp (pc len : Nat) (ls : pm_V) (st : List Value) (c k : Nat) (o : Option pm_H) : Option pm_S := o.map fun h => (pc + len, ls, st, h, c, k)
def pm_getf (pc len : Nat) (ls : pm_V) (h : pm_H) (c k : Nat) : List Nat → List Value → Option pm_S
  | [ci, f], .ref a :: r => pm_on pc len ls h c k ((pm_fld h a ci f).map (· :: r))
  | _, _ => none
def pm_putf (pc len : Nat) (ls : pm_V) (h : pm_H) (c k : Nat) : List Nat → List Value → Option pm_S
  | [ci, f, t], v :: .ref a :: r => pm_hp pc len ls r c k (pm_put h a ci f t v)
  | _, _ => none
def pm_aldS (X : pm_X) (t pc len : Nat) (ls : pm_V) (h : pm_H) (c k : Nat) : List Value → Option pm_S
  | .int i :: .ref a :: r => pm_on pc len ls h c k ((pm_ald h a t i).map (· :: r))
  | .int i :: .retAddr a :: r => bif Nat.beq t 0 then pm_on pc len ls h c k ((pm_xld X a i).map (· :: r)) else none
  | _ => none
def pm_astS (t pc len : Nat) (ls : pm_V) (h : pm_H) (c k : Nat) : List Value → Option pm_S
  | v :: .int i :: .ref a :: r => pm_hp pc len ls r c k (pm_ast h a t i v)
  | _ => none
def pm_len (h : pm_H) (a : Nat) : Option Nat := match h[a]? with
  | some (.inl (t, n, _)) => bif Nat.ble t 7 then some n else none
  | _ => none
def pm_lenS (X : pm_X) (pc len : Nat) (ls : pm_V) (h : pm_H) (c k : Nat) : List Value → Option pm_S
  | .ref a :: r => pm_on pc len ls h c k ((pm_len h a).map fun n => .int (Int32.ofNat n) :: r)
  | .retAddr a :: r => bif Nat.ble a 1 then some (pc + len, ls, .int (Int32.ofNat (X a).1) :: r, h, c, k) else none
  | _ => none
def pm_jmp1 (cd : Jvm.ClassFile.Cond) (pc len : Nat) (ls : pm_V) (h : pm_H) (c k : Nat) : List Nat → List Value → Option pm_S
  | [t], .int x :: r => some (bif pm_b1 cd x then t else pc + len, ls, r, h, c, k)
  | _, _ => none
def pm_jmp2 (cd : Jvm.ClassFile.Cond) (pc len : Nat) (ls : pm_V) (h : pm_H) (c k : Nat) : List Nat → List Value → Option pm_S
  | [t], .int y :: .int x :: r => some (bif pm_b2 cd x y then t else pc + len, ls, r, h, c, k)
  | _, _ => none
/-- tableswitch: the targets stand in the link: first the other cases', then from 'low' on -/
def pm_tab (lo : Int) (ls : pm_V) (h : pm_H) (c k : Nat) : List Nat → List Value → Option pm_S
  | d :: ts, .int x :: r => some (bif decide (x.toInt < lo) then d else ts.getD (x.toInt - lo).toNat d, ls, r, h, c, k)
  | _, _ => none
/-- what the machine knows by itself of the library: 0 Object's constructor, 4 System.arraycopy -/
def pm_prim (pc len : Nat) (ls : pm_V) (h : pm_H) (c k : Nat) : List Nat → List Value → Option pm_S
  | [0], .ref _ :: r => bif Nat.ble (pm_wt r) 8 then some (pc + len, ls, r, h, c, k) else none
  | [4], .int n :: .int dp :: .ref a :: .int sp :: .ref a0 :: r => bif Nat.ble (pm_wt r) 8 then pm_hp pc len ls r c k (pm_cpy h a0 sp a dp n) else none
  | _, _ => none
/-- no reference leads out of the heap -/
def pm_cv (n : Nat) : Value → Bool
  | .ref a => Nat.ble (a + 1) n
  | _ => true
def pm_cE (n : Nat) : va_E → Bool
  | .inl (_, m, .inr (.inr (.inr (.inr f)))) => (List.range m).all fun i => match f i with
    | some a => Nat.ble (a + 1) n
    | none => true
  | .inl _ => true
  | .inr (_, fs) => fs.all (pm_cv n)
def pm_cl (h : pm_H) (ls : pm_V) (st : List Value) : Bool := h.all (pm_cE h.length) && ((ls.all fun o => match o with
    | some v => pm_cv h.length v
    | none => true) && st.all (pm_cv h.length))
def pm_newo (D : Nat → List Value) (pc len : Nat) (ls : pm_V) (st : List Value) (h : pm_H) (c k : Nat) : List Nat → Option pm_S
  | [ci] => bif pm_cl h ls st then some (pc + len, ls, .ref h.length :: st, h ++ [.inr (ci, D ci)], c + 1, k + (D ci).length) else none
  | _ => none
def pm_newa (pc len : Nat) (ls : pm_V) (h : pm_H) (c k : Nat) : List Nat → List Value → Option pm_S
  | [t], .int n :: r => bif pm_cl h ls r && (!(decide (n < 0)) && Nat.ble n.toNatClampNeg 100000) then some (pc + len, ls, .ref h.length :: r, h ++ [pm_arr t n.toNatClampNeg], c + 1, k + n.toNatClampNeg) else none
  | _, _ => none
/-- new long[n][m] -/
def pm_newm (pc len : Nat) (ls : pm_V) (h : pm_H) (c k : Nat) : List Nat → List Value → Option pm_S
  | [t, t1], .int m :: .int n :: r => bif pm_cl h ls r && (!(decide (n < 0)) && Nat.ble n.toNatClampNeg 100000) && (!(decide (m < 0)) && Nat.ble m.toNatClampNeg 100000) then
      some (pc + len, ls, .ref h.length :: r, h ++ (.inl (t, n.toNatClampNeg, .inr (.inr (.inr (.inr (fun i => bif Nat.ble (i + 1) n.toNatClampNeg then some (h.length + 1 + i) else none))))) :: List.replicate n.toNatClampNeg (pm_arr t1 m.toNatClampNeg)),
        c + 1 + n.toNatClampNeg, k + n.toNatClampNeg + n.toNatClampNeg * m.toNatClampNeg) else none
  | _, _ => none
def pm_go1 (ls : pm_V) (st : List Value) (h : pm_H) (c k : Nat) : List Nat → Option pm_S
  | [t] => some (t, ls, st, h, c, k)
  | _ => none
def pm_mem (X : pm_X) (D : Nat → List Value) (i : Instr) (len : Nat) (L : pm_L) (pc : Nat) (ls : pm_V) (st : List Value) (h : pm_H) (c k : Nat) : Option pm_S := match i with
  | .iload_n n => pm_on pc len ls h c k (pm_ld pm_isI ls n st)
  | .iload n => pm_on pc len ls h c k (pm_ld pm_isI ls n st)
  | .lload_n n => pm_on pc len ls h c k (pm_ld pm_isL ls n st)
  | .lload n => pm_on pc len ls h c k (pm_ld pm_isL ls n st)
  | .dload_n n => pm_on pc len ls h c k (pm_ld pm_isD ls n st)
  | .dload n => pm_on pc len ls h c k (pm_ld pm_isD ls n st)
  | .aload_n n => pm_on pc len ls h c k (pm_ld pm_isA ls n st)
  | .aload n => pm_on pc len ls h c k (pm_ld pm_isA ls n st)
  | .istore_n n => pm_sto pc len h c k (pm_st1 pm_isI ls n st)
  | .istore n => pm_sto pc len h c k (pm_st1 pm_isI ls n st)
  | .astore_n n => pm_sto pc len h c k (pm_st1 pm_isA ls n st)
  | .astore n => pm_sto pc len h c k (pm_st1 pm_isA ls n st)
  | .lstore_n n => pm_sto pc len h c k (pm_st2 pm_isL ls n st)
  | .lstore n => pm_sto pc len h c k (pm_st2 pm_isL ls n st)
  | .dstore_n n => pm_sto pc len h c k (pm_st2 pm_isD ls n st)
  | .dstore n => pm_sto pc len h c k (pm_st2 pm_isD ls n st)
  | .iinc n d => (pm_inc ls n d).map fun l => (pc + len, l, st, h, c, k)
  | .goto _ => pm_go1 ls st h c k L.1
  | .ifCond cd _ => pm_jmp1 cd pc len ls h c k L.1 st
  | .if_icmp cd _ => pm_jmp2 cd pc len ls h c k L.1 st
  | .tableswitch _ lo _ _ => pm_tab lo ls h c k L.1 st
  | .ldc _ => some (pc + len, ls, L.2 :: st, h, c, k)
  | .ldc_w _ => some (pc + len, ls, L.2 :: st, h, c, k)
  | .ldc2_w _ => some (pc + len, ls, L.2 :: st, h, c, k)
  | .getstatic _ => some (pc + len, ls, L.2 :: st, h, c, k)
  | .getfield _ => pm_getf pc len ls h c k L.1 st
  | .putfield _ => pm_putf pc len ls h c k L.1 st
  | .iaload => pm_aldS X 0 pc len ls h c k st
  | .laload => pm_aldS X 1 pc len ls h c k st
  | .baload => pm_aldS X 2 pc len ls h c k st
  | .daload => pm_aldS X 4 pc len ls h c k st
  | .aaload => pm_aldS X 5 pc len ls h c k st
  | .iastore => pm_astS 0 pc len ls h c k st
  | .lastore => pm_astS 1 pc len ls h c k st
  | .bastore => pm_astS 2 pc len ls h c k st
  | .dastore => pm_astS 4 pc len ls h c k st
  | .aastore => pm_astS 5 pc len ls h c k st
  | .arraylength => pm_lenS X pc len ls h c k st
  | .new _ => pm_newo D pc len ls st h c k L.1
  | .newarray _ => pm_newa pc len ls h c k L.1 st
  | .anewarray _ => pm_newa pc len ls h c k L.1 st
  | .multianewarray _ _ => pm_newm pc len ls h c k L.1 st
  | .invokestatic _ => pm_prim pc len ls h c k L.1 st
  | .invokespecial _ => pm_prim pc len ls h c k L.1 st
  | _ => none
/-- an instruction's kind: 0 the stack alone, 1 the rest of one step, 2 an end, 3 a throw, 4 a call. A call's link: method, how many arguments, 1 if it makes cells, the receiver's class and 1 (0: none is looked at) -/
def pm_inv : List Nat → Nat
  | [_, _, _, _] => 4
  | _ => 1
def pm_kind : Instr → pm_L → Nat
  | .ireturn, _ => 2
  | .lreturn, _ => 2
  | .dreturn, _ => 2
  | .areturn, _ => 2
  | .return_, _ => 2
  | .new _, (l, _) => bif Nat.beq l.length 3 then 3 else 1
  | .invokestatic _, (l, _) => pm_inv l
  | .invokespecial _, (l, _) => pm_inv l
  | .invokevirtual _, (l, _) => pm_inv l
  | i, _ => match i with
    | .iload_n _ | .iload _ | .lload_n _ | .lload _ | .dload_n _ | .dload _ | .aload_n _ | .aload _ => 1
    | .istore_n _ | .istore _ | .lstore_n _ | .lstore _ | .dstore_n _ | .dstore _ | .astore_n _ | .astore _ => 1
    | .iinc _ _ | .goto _ | .ifCond _ _ | .if_icmp _ _ | .tableswitch _ _ _ _ | .ldc _ | .ldc_w _ | .ldc2_w _ | .getstatic _ | .getfield _ | .putfield _ => 1
    | .iaload | .laload | .baload | .daload | .aaload | .iastore | .lastore | .bastore | .dastore | .aastore | .arraylength | .newarray _ | .anewarray _ | .multianewarray _ _ => 1
    | _ => 0
def pm_step (X : pm_X) (D : Nat → List Value) (i : Instr) (len : Nat) (L : pm_L) (s : pm_S) : Option pm_S :=
  bif Nat.beq (pm_kind i L) 0 then pm_on s.1 len s.2.1 s.2.2.2.1 s.2.2.2.2.1 s.2.2.2.2.2 (pm_op i s.2.2.1)
  else pm_mem X D i len L s.1 s.2.1 s.2.2.1 s.2.2.2.1 s.2.2.2.2.1 s.2.2.2.2.2
/-- what a return gives back: a boolean's link is [1] -/
def pm_ret : Instr → pm_L → List Value → Option (Option Value)
  | .ireturn, ([1], _), [.int x] => bif decide (x = 0) || decide (x = 1) then some (some (.int x)) else none
  | .ireturn, ([], _), [.int x] => some (some (.int x))
  | .lreturn, _, [.long x] => some (some (.long x))
  | .dreturn, _, [.double x] => some (some (.double x))
  | .return_, _, [] => some none
  | _, _, _ => none
/-- a call's arguments, and what stays on the stack -/
def pm_args : Nat → List Value → List Value → Option (List Value × List Value)
  | 0, acc, st => some (acc, st)
  | n + 1, acc, v :: st => pm_args n (v :: acc) st
  | _, _, _ => none
def pm_rcv (h : pm_H) (ci : Nat) (a : List Value) : Bool := match ci, a with
  | 0, _ => true
  | ci + 1, .ref b :: _ => pm_isO h b ci
  | _, _ => false
def pm_call (h : pm_H) (ls : pm_V) : pm_L → List Value → Option (Nat × List Value × List Value)
  | ([m, n, kd, ci], _), st => match pm_args n [] st with
    | some (a, r) => bif Nat.ble (pm_wt r) 8 && ((Nat.beq kd 0 || pm_cl h ls r) && pm_rcv h ci a) then some (m, a, r) else none
    | none => none
  | _, _ => none
/-- where a throw at pc of the class e goes on: the handler behind its store, the local that was stored -/
def pm_catch : List (Nat × Nat × Nat × Nat × Nat) → Nat → Nat → Option (Nat × Nat)
  | [], _, _ => none
  | (f, t, hp, x, lo) :: r, pc, e => bif (Nat.ble f pc && Nat.ble (pc + 1) t) && Nat.beq x e then some (hp, lo) else pm_catch r pc e
/-- no row of the table covers pc -/
def pm_free (t : List (Nat × Nat × Nat × Nat × Nat)) (pc : Nat) : Bool := t.all fun q => !(Nat.ble q.1 pc && Nat.ble (pc + 1) q.2.1)
def pm_go (X : pm_X) (D : Nat → List Value) (call : Nat → List Value → pm_H → pm_R → Prop) (M : pm_M) : Nat → pm_S → pm_R → Prop
  | 0, _, _ => False
  | n + 1, s, r => match pm_look M.1 s.1 with
    | none => False
    | some (i, len, L) => match pm_kind i L with
      | 2 => match pm_ret i L s.2.2.1 with
        | none => False
        | some v => r = (.inl v, s.2.2.2)
      | 3 => match L.1 with
        | [e, _, _] => Nat.ble (pm_wt s.2.2.1) 8 = true ∧ r = (.inr e, s.2.2.2.1, s.2.2.2.2.1 + 1, s.2.2.2.2.2 + 6)
        | _ => False
      | 4 => match pm_call s.2.2.2.1 s.2.1 L s.2.2.1 with
        | none => False
        | some (m, a, st) => ∃ q : pm_R, call m a s.2.2.2.1 q ∧ match q with
          | (.inl v, h, c, k) => pm_go X D call M n (s.1 + len, s.2.1, v.toList ++ st, h, s.2.2.2.2.1 + c, s.2.2.2.2.2 + k) r
          | (.inr e, h, c, k) => match pm_catch M.2 s.1 e with
            | none => pm_free M.2 s.1 = true ∧ r = (.inr e, h, s.2.2.2.2.1 + c, s.2.2.2.2.2 + k)
            | some (hp, lo) => pm_go X D call M n (hp, (pm_clr s.2.1 lo).set lo none, [], h, s.2.2.2.2.1 + c, s.2.2.2.2.2 + k) r
      | _ => match pm_step X D i len L s with
        | none => False
        | some s' => pm_go X D call M n s' r
def pm_Go (X : pm_X) (D : Nat → List Value) (call : Nat → List Value → pm_H → pm_R → Prop) (M : pm_M) (s : pm_S) (r : pm_R) : Prop := ∃ n, pm_go X D call M n s r
def pm_loc : List Value → pm_V
  | [] => []
  | v :: r => bif pm_c2 v then some v :: none :: pm_loc r else some v :: pm_loc r
def pm_ent (n : Nat) (a : List Value) : pm_V := pm_loc a ++ List.replicate (n - (pm_loc a).length) none
/-- a call of the method m, at most d calls deep, ends with r -/
def pm_Ev (X : pm_X) (D : Nat → List Value) (T : Nat → pm_M × Nat) : Nat → Nat → List Value → pm_H → pm_R → Prop
  | 0, _, _, _, _ => False
  | d + 1, m, a, h, r => Nat.ble (pm_loc a).length (T m).2 = true ∧ pm_Go X D (pm_Ev X D T d) (T m).1 (0, pm_ent (T m).2 a, [], h, 0, 0) r
/-! the rows by which it is run -/
theorem pm_e0 {X : pm_X} {D : Nat → List Value} {call : Nat → List Value → pm_H → pm_R → Prop} {M : pm_M} {s s' : pm_S} {r : pm_R} (h : ∀ n, pm_go X D call M (n + 1) s r = pm_go X D call M n s' r) : pm_Go X D call M s r ↔ pm_Go X D call M s' r := by
  constructor
  · rintro ⟨n, hn⟩
    cases n with
    | zero => exact False.elim hn
    | succ n => exact ⟨n, (h n) ▸ hn⟩
  · rintro ⟨n, hn⟩
    exact ⟨n + 1, (h n).symm ▸ hn⟩
theorem pm_eb {X : pm_X} {D : Nat → List Value} {call : Nat → List Value → pm_H → pm_R → Prop} {M : pm_M} {s s1 s2 : pm_S} {r : pm_R} {p : Prop} [Decidable p] (h : ∀ n, pm_go X D call M (n + 1) s r = pm_go X D call M n (if p then s1 else s2) r) : pm_Go X D call M s r ↔ if p then pm_Go X D call M s1 r else pm_Go X D call M s2 r := by
  refine (pm_e0 h).trans ?_
  by_cases hp : p <;> simp [hp]
theorem pm_eo {α : Type} {X : pm_X} {D : Nat → List Value} {call : Nat → List Value → pm_H → pm_R → Prop} {M : pm_M} {s : pm_S} {f : α → pm_S} {r : pm_R} (o : Option α) (h : ∀ n, pm_go X D call M (n + 1) s r = match o.map f with
    | none => False
    | some s' => pm_go X D call M n s' r) : pm_Go X D call M s r ↔ ∃ v, o = some v ∧ pm_Go X D call M (f v) r := by
  constructor
  · rintro ⟨n, hn⟩
    cases n with
    | zero => exact False.elim hn
    | succ n =>
      rw [h n] at hn
      cases o with
      | none => exact False.elim hn
      | some v => exact ⟨v, rfl, n, hn⟩
  · rintro ⟨v, rfl, n, hn⟩
    exact ⟨n + 1, by rw [h n]; exact hn⟩
theorem pm_er {X : pm_X} {D : Nat → List Value} {call : Nat → List Value → pm_H → pm_R → Prop} {M : pm_M} {s : pm_S} {r r' : pm_R} (h : ∀ n, pm_go X D call M (n + 1) s r = (r = r')) : pm_Go X D call M s r ↔ r = r' := by
  constructor
  · rintro ⟨n, hn⟩
    cases n with
    | zero => exact False.elim hn
    | succ n => rw [h n] at hn; exact hn
  · intro hr
    exact ⟨1, by rw [h 0]; exact hr⟩
