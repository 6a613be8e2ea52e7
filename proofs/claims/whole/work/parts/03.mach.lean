/-! THE ABSTRACT MACHINE: a memory of ints, longs and references at numbered cells; one function runs a method's bytes -/
abbrev Mm : Type := (Nat → Nat → Int32) × (Nat → Nat → Int64) × (Nat → Nat → Option Nat) × Nat × Nat
def up2 {α : Type} (f : Nat → Nat → α) (a k : Nat) (v : α) : Nat → Nat → α := fun a' k' => if a' = a ∧ k' = k then v else f a' k'
def zr2 {α : Type} (f : Nat → Nat → α) (a : Nat) (v : α) : Nat → Nat → α := fun a' k' => if a' = a then v else f a' k'
def setI (σ : Mm) (a k : Nat) (v : Int32) : Mm := (up2 σ.1 a k v, σ.2)
def setJ (σ : Mm) (a k : Nat) (v : Int64) : Mm := (σ.1, up2 σ.2.1 a k v, σ.2.2)
def setR (σ : Mm) (a k : Nat) (v : Option Nat) : Mm := (σ.1, σ.2.1, up2 σ.2.2.1 a k v, σ.2.2.2)
/-- the next cell is made: all its places hold nothing -/
def newC (σ : Mm) : Mm := (zr2 σ.1 (ADR σ.2.2.2.1) 0, zr2 σ.2.1 (ADR σ.2.2.2.1) 0, zr2 σ.2.2.1 (ADR σ.2.2.2.1) none, σ.2.2.2.1 + 1, σ.2.2.2.2)
def gV (σ : Mm) (a c k : Nat) : Value := if ftc c k = 0 then .int (σ.1 a k) else if ftc c k = 1 then .long (σ.2.1 a k) else if ftc c k = 3 then .int (σ.1 a k) else va_rf (σ.2.2.1 a k)
def sV (σ : Mm) (a c k : Nat) (v : Value) : Option Mm := match v with
  | .int x => if ftc c k = 0 then some (setI σ a k x) else if ftc c k = 3 ∧ (x = 0 ∨ x = 1) then some (setI σ a k x) else none
  | .long x => if ftc c k = 1 then some (setJ σ a k x) else none
  | .ref b => if ftc c k = 2 then some (setR σ a k (some b)) else none
  | _ => none
def aLn (σ : Mm) (a : Nat) : Nat := if a = 0 then σ.2.2.2.2 else (SH a).2
def alc (σ : Mm) (a : Nat) : Prop := pos a < σ.2.2.2.1
/-! locals -/
def isLg : Value → Bool
  | .long _ => true
  | .double _ => true
  | _ => false
def clr (L : List Value) (x : Nat) : List Value := if x = 0 then L else match L[x - 1]? with
  | some v => if isLg v then L.set (x - 1) (.retAddr 0) else L
  | none => L
def st1 (L : List Value) (x : Nat) (v : Value) : List Value := clr (L.set x v) x
def st2 (L : List Value) (x : Nat) (v : Value) : List Value := (clr (L.set x v) x).set (x + 1) (.retAddr 0)
def ldI (L : List Value) (x : Nat) : Option Int32 := match L[x]? with
  | some (.int v) => some v
  | _ => none
def ldJ (L : List Value) (x : Nat) : Option Int64 := match L[x]? with
  | some (.long v) => some v
  | _ => none
def ldA (L : List Value) (x : Nat) : Option Nat := match L[x]? with
  | some (.ref v) => some v
  | _ => none
abbrev Nx : Type := Nat × List Value × List Value × Mm
def sI (pc : Nat) (L st : List Value) (σ : Mm) (x : Nat) : Option Nx := match st with
  | .int v :: r => if x < L.length then some (pc, st1 L x (.int v), r, σ) else none
  | _ => none
def sJ (pc : Nat) (L st : List Value) (σ : Mm) (x : Nat) : Option Nx := match st with
  | .long v :: r => if x + 1 < L.length then some (pc, st2 L x (.long v), r, σ) else none
  | _ => none
def sA (pc : Nat) (L st : List Value) (σ : Mm) (x : Nat) : Option Nx := match st with
  | .ref v :: r => if x < L.length then some (pc, st1 L x (.ref v), r, σ) else none
  | _ => none
def pI1 (f : Int32 → Value) : List Value → Option (List Value)
  | .int x :: r => some (f x :: r)
  | _ => none
def pI2 (f : Int32 → Int32 → Value) : List Value → Option (List Value)
  | .int y :: .int x :: r => some (f x y :: r)
  | _ => none
def pJ1 (f : Int64 → Value) : List Value → Option (List Value)
  | .long x :: r => some (f x :: r)
  | _ => none
def pJ2 (f : Int64 → Int64 → Value) : List Value → Option (List Value)
  | .long y :: .long x :: r => some (f x y :: r)
  | _ => none
def pD2 (f : Int32 → Int32 → Value) : List Value → Option (List Value)
  | .int y :: .int x :: r => if y = 0 then none else some (f x y :: r)
  | _ => none
def pE2 (f : Int64 → Int64 → Value) : List Value → Option (List Value)
  | .long y :: .long x :: r => if y = 0 then none else some (f x y :: r)
  | _ => none
def pS2 (f : Int64 → Int32 → Value) : List Value → Option (List Value)
  | .int y :: .long x :: r => some (f x y :: r)
  | _ => none
def stO (pc : Nat) (L : List Value) (σ : Mm) (o : Option (List Value)) : Option Nx := o.map fun r => (pc, L, r, σ)
def cnd (c : ClassFile.Cond) (x y : Int32) : Bool := match c with
  | .eq => decide (x = y)
  | .ne => decide (¬ x = y)
  | .lt => decide (x < y)
  | .ge => decide (y ≤ x)
  | .gt => decide (y < x)
  | .le => decide (x ≤ y)
def tgt (pc : Nat) (off : Int) : Option Nat := if 0 ≤ (pc : Int) + off then some ((pc : Int) + off).toNat else none
def jmp (pc : Nat) (off : Int) (L st : List Value) (σ : Mm) : Option Nx := (tgt pc off).map fun t => (t, L, st, σ)
/-- at a loop's head the places that no run reads any more are cleared -/
def nds (y t : Nat) : List Nat := ((ndL.find? fun q => q.1 == y && q.2.1 == t).map fun q => q.2.2).getD []
def clrs (s : List Nat) (L : List Value) : List Value := s.foldl (fun L i => L.set i (.retAddr 0)) L
def jmpN (y pc : Nat) (off : Int) (L st : List Value) (σ : Mm) : Option Nx := (tgt pc off).map fun t => (t, clrs (nds y t) L, st, σ)
def arkC (k : Nat) : Nat := if k = 4 then 0 else if k = 5 then 1 else 2
def lnO : Instr → Nat → Bool
  | .bipush _, n => n == 2
  | .sipush _, n => n == 3
  | .ldc _, n => n == 2
  | .ldc_w _, n => n == 3
  | .ldc2_w _, n => n == 3
  | .iload _, n => n == 2
  | .lload _, n => n == 2
  | .aload _, n => n == 2
  | .istore _, n => n == 2
  | .lstore _, n => n == 2
  | .astore _, n => n == 2
  | .iinc _ _, n => n == 3 || n == 6
  | .goto _, n => n == 3
  | .ifCond _ _, n => n == 3
  | .if_icmp _ _, n => n == 3
  | .getfield _, n => n == 3
  | .putfield _, n => n == 3
  | .new _, n => n == 3
  | .newarray _, n => n == 2
  | .anewarray _, n => n == 3
  | .invokevirtual _, n => n == 3
  | .invokestatic _, n => n == 3
  | .invokespecial _, n => n == 3
  | .tableswitch .., _ => true
  | _, n => n == 1
def sGet (y idx pc : Nat) (L st : List Value) (σ : Mm) : Option Nx := match st with
  | .ref a :: r => (match fld (mOw y) idx with
    | some q => if SH a = (1, q.1) ∧ pos a < σ.2.2.2.1 then some (pc, L, gV σ a q.1 q.2 :: r, σ) else none
    | none => none)
  | _ => none
def sPut (y idx pc : Nat) (L st : List Value) (σ : Mm) : Option Nx := match st with
  | v :: .ref a :: r => (match fld (mOw y) idx with
    | some q => if SH a = (1, q.1) ∧ pos a < σ.2.2.2.1 ∧ ((fQ q.1 q.2).2.2 = false ∨ (mKd y = 2 ∧ mOw y = q.1)) then (sV σ a q.1 q.2 v).map (fun s => (pc, L, r, s)) else none
    | none => none)
  | _ => none
def sIld (pc : Nat) (L st : List Value) (σ : Mm) : Option Nx := match st with
  | .int j :: .ref a :: r => if (SH a).1 = 2 ∧ (a = 0 ∨ pos a < σ.2.2.2.1) ∧ ¬ (j < 0 ∨ aLn σ a ≤ j.toNatClampNeg) then some (pc, L, .int (σ.1 a j.toNatClampNeg) :: r, σ) else none
  | _ => none
def sIst (pc : Nat) (L st : List Value) (σ : Mm) : Option Nx := match st with
  | .int v :: .int j :: .ref a :: r => if (SH a).1 = 2 ∧ a ≠ 0 ∧ pos a < σ.2.2.2.1 ∧ ¬ (j < 0 ∨ (SH a).2 ≤ j.toNatClampNeg) then some (pc, L, r, setI σ a j.toNatClampNeg v) else none
  | _ => none
def sJld (pc : Nat) (L st : List Value) (σ : Mm) : Option Nx := match st with
  | .int j :: .ref a :: r => if (SH a).1 = 3 ∧ pos a < σ.2.2.2.1 ∧ ¬ (j < 0 ∨ (SH a).2 ≤ j.toNatClampNeg) then some (pc, L, .long (σ.2.1 a j.toNatClampNeg) :: r, σ) else none
  | _ => none
def sJst (pc : Nat) (L st : List Value) (σ : Mm) : Option Nx := match st with
  | .long v :: .int j :: .ref a :: r => if (SH a).1 = 3 ∧ pos a < σ.2.2.2.1 ∧ ¬ (j < 0 ∨ (SH a).2 ≤ j.toNatClampNeg) then some (pc, L, r, setJ σ a j.toNatClampNeg v) else none
  | _ => none
def sAld (pc : Nat) (L st : List Value) (σ : Mm) : Option Nx := match st with
  | .int j :: .ref a :: r => if (4 ≤ (SH a).1 ∧ (SH a).1 ≤ 6) ∧ pos a < σ.2.2.2.1 ∧ ¬ (j < 0 ∨ (SH a).2 ≤ j.toNatClampNeg) then some (pc, L, va_rf (σ.2.2.1 a j.toNatClampNeg) :: r, σ) else none
  | _ => none
def sAst (pc : Nat) (L st : List Value) (σ : Mm) : Option Nx := match st with
  | .ref v :: .int j :: .ref a :: r => if (4 ≤ (SH a).1 ∧ (SH a).1 ≤ 6) ∧ pos a < σ.2.2.2.1 ∧ ¬ (j < 0 ∨ (SH a).2 ≤ j.toNatClampNeg) ∧ SH v = (1, arkC (SH a).1) ∧ pos v < σ.2.2.2.1 then some (pc, L, r, setR σ a j.toNatClampNeg (some v)) else none
  | _ => none
def sLen (pc : Nat) (L st : List Value) (σ : Mm) : Option Nx := match st with
  | .ref a :: r => if 2 ≤ (SH a).1 ∧ (SH a).1 ≤ 6 ∧ (a = 0 ∨ pos a < σ.2.2.2.1) then some (pc, L, .int (nI (aLn σ a)) :: r, σ) else none
  | _ => none
/-- a row of numbers is made -/
def sNra (k pc : Nat) (L st : List Value) (σ : Mm) : Option Nx := match st with
  | .int n :: r => if ¬ n < 0 ∧ σ.2.2.2.1 < NT ∧ SH (ADR σ.2.2.2.1) = (k, n.toNatClampNeg) ∧ n.toNatClampNeg ≤ 10000 then some (pc, L, .ref (ADR σ.2.2.2.1) :: r, newC σ) else none
  | _ => none
def sAna (y idx pc : Nat) (L st : List Value) (σ : Mm) : Option Nx := match clk (mOw y) idx with
  | some c => if c < 3 then sNra (4 + c) pc L st σ else none
  | none => none
def sNew (y idx pc : Nat) (L st : List Value) (σ : Mm) : Option Nx := match clk (mOw y) idx with
  | some c => if σ.2.2.2.1 < NT ∧ SH (ADR σ.2.2.2.1) = (1, c) then some (pc, L, .ref (ADR σ.2.2.2.1) :: st, newC σ) else none
  | none => none
def sIf (c : ClassFile.Cond) (off : Int) (pc : Nat) (L st : List Value) (σ : Mm) : Option Nx := match st with
  | .int x :: r => (tgt pc off).map fun t => (if cnd c x 0 then t else pc + 3, L, r, σ)
  | _ => none
def sIc (c : ClassFile.Cond) (off : Int) (pc : Nat) (L st : List Value) (σ : Mm) : Option Nx := match st with
  | .int y :: .int x :: r => (tgt pc off).map fun t => (if cnd c x y then t else pc + 3, L, r, σ)
  | _ => none
def sSw (d lo hi : Int) (offs : Array Int) (pc : Nat) (L st : List Value) (σ : Mm) : Option Nx := match st with
  | .int x :: r => if x.toInt < lo ∨ hi < x.toInt then jmp pc d L r σ else (match offs[(x.toInt - lo).toNat]? with
    | some off => jmp pc off L r σ
    | none => none)
  | _ => none
def sInc (x : Nat) (k : Int) (pc : Nat) (L st : List Value) (σ : Mm) : Option Nx := match ldI L x with
  | some v => if x < L.length then some (pc, st1 L x (.int (v + Int32.ofInt k)), st, σ) else none
  | none => none
def sDup (pc : Nat) (L st : List Value) (σ : Mm) : Option Nx := match st with
  | v :: r => if v.category = 1 then some (pc, L, v :: v :: r, σ) else none
  | _ => none
def sDup2 (pc : Nat) (L st : List Value) (σ : Mm) : Option Nx := match st with
  | v :: w :: r => if v.category = 1 ∧ w.category = 1 then some (pc, L, v :: w :: v :: w :: r, σ) else none
  | _ => none
def sPop (pc : Nat) (L st : List Value) (σ : Mm) : Option Nx := match st with
  | v :: r => if v.category = 1 then some (pc, L, r, σ) else none
  | _ => none
def stp (y : Nat) (i : Instr) (pc len : Nat) (L st : List Value) (σ : Mm) : Option Nx :=
  if lnO i len then match i with
  | .iconst n => some (pc + len, L, .int (Int32.ofInt n) :: st, σ)
  | .bipush n => some (pc + len, L, .int (Int8.ofInt n).toInt32 :: st, σ)
  | .sipush n => some (pc + len, L, .int (Int16.ofInt n).toInt32 :: st, σ)
  | .lconst n => some (pc + len, L, .long (Int64.ofNat n) :: st, σ)
  | .ldc x => (kI (mOw y) x).map fun v => (pc + len, L, .int v :: st, σ)
  | .ldc_w x => (kI (mOw y) x).map fun v => (pc + len, L, .int v :: st, σ)
  | .ldc2_w x => (kL (mOw y) x).map fun v => (pc + len, L, .long v :: st, σ)
  | .iload x => (ldI L x).map fun v => (pc + len, L, .int v :: st, σ)
  | .iload_n x => (ldI L x).map fun v => (pc + len, L, .int v :: st, σ)
  | .lload x => (ldJ L x).map fun v => (pc + len, L, .long v :: st, σ)
  | .lload_n x => (ldJ L x).map fun v => (pc + len, L, .long v :: st, σ)
  | .aload x => (ldA L x).map fun v => (pc + len, L, .ref v :: st, σ)
  | .aload_n x => (ldA L x).map fun v => (pc + len, L, .ref v :: st, σ)
  | .istore x => sI (pc + len) L st σ x
  | .istore_n x => sI (pc + len) L st σ x
  | .lstore x => sJ (pc + len) L st σ x
  | .lstore_n x => sJ (pc + len) L st σ x
  | .astore x => sA (pc + len) L st σ x
  | .astore_n x => sA (pc + len) L st σ x
  | .iinc x k => sInc x k (pc + len) L st σ
  | .iadd => stO (pc + len) L σ (pI2 (fun x y => .int (x + y)) st)
  | .isub => stO (pc + len) L σ (pI2 (fun x y => .int (x - y)) st)
  | .imul => stO (pc + len) L σ (pI2 (fun x y => .int (x * y)) st)
  | .iand => stO (pc + len) L σ (pI2 (fun x y => .int (x &&& y)) st)
  | .ior => stO (pc + len) L σ (pI2 (fun x y => .int (x ||| y)) st)
  | .ixor => stO (pc + len) L σ (pI2 (fun x y => .int (x ^^^ y)) st)
  | .ishl => stO (pc + len) L σ (pI2 (fun x y => .int (x <<< (y &&& 31))) st)
  | .ishr => stO (pc + len) L σ (pI2 (fun x y => .int (x >>> (y &&& 31))) st)
  | .iushr => stO (pc + len) L σ (pI2 (fun x y => .int (x.toUInt32 >>> (y.toUInt32 &&& Int32.toUInt32 31)).toInt32) st)
  | .idiv => stO (pc + len) L σ (pD2 (fun x y => .int (x / y)) st)
  | .irem => stO (pc + len) L σ (pD2 (fun x y => .int (x - x / y * y)) st)
  | .ineg => stO (pc + len) L σ (pI1 (fun x => .int (-x)) st)
  | .i2l => stO (pc + len) L σ (pI1 (fun x => .long x.toInt64) st)
  | .l2i => stO (pc + len) L σ (pJ1 (fun x => .int x.toInt32) st)
  | .ladd => stO (pc + len) L σ (pJ2 (fun x y => .long (x + y)) st)
  | .lsub => stO (pc + len) L σ (pJ2 (fun x y => .long (x - y)) st)
  | .lmul => stO (pc + len) L σ (pJ2 (fun x y => .long (x * y)) st)
  | .ldiv => stO (pc + len) L σ (pE2 (fun x y => .long (x / y)) st)
  | .lneg => stO (pc + len) L σ (pJ1 (fun x => .long (-x)) st)
  | .lshr => stO (pc + len) L σ (pS2 (fun x y => .long (x >>> (y.toInt64 &&& 63))) st)
  | .lcmp => stO (pc + len) L σ (pJ2 (fun x y => .int (lg_cmp x y)) st)
  | .dup => sDup (pc + len) L st σ
  | .dup2 => sDup2 (pc + len) L st σ
  | .pop => sPop (pc + len) L st σ
  | .getfield x => sGet y x (pc + len) L st σ
  | .putfield x => sPut y x (pc + len) L st σ
  | .iaload => sIld (pc + len) L st σ
  | .iastore => sIst (pc + len) L st σ
  | .laload => sJld (pc + len) L st σ
  | .lastore => sJst (pc + len) L st σ
  | .aaload => sAld (pc + len) L st σ
  | .aastore => sAst (pc + len) L st σ
  | .arraylength => sLen (pc + len) L st σ
  | .newarray .int => sNra 2 (pc + len) L st σ
  | .newarray .long => sNra 3 (pc + len) L st σ
  | .anewarray x => sAna y x (pc + len) L st σ
  | .new x => sNew y x (pc + len) L st σ
  | .goto off => jmpN y pc off L st σ
  | .ifCond c off => sIf c off pc L st σ
  | .if_icmp c off => sIc c off pc L st σ
  | .tableswitch d lo hi offs => sSw d lo hi offs pc L st σ
  | _ => none
  else none
def ctl : Instr → Nat
  | .ireturn => 1
  | .lreturn => 1
  | .areturn => 1
  | .return_ => 1
  | .invokevirtual _ => 2
  | .invokestatic _ => 2
  | .invokespecial _ => 2
  | _ => 0
def isOb : Option FieldType → Bool
  | some (.object _) => true
  | _ => false
def rtV (y : Nat) (i : Instr) (len : Nat) (st : List Value) : Option (Option Value) := if len = 1 then match i, st with
  | .ireturn, [.int v] => if mRt y = some .int ∨ (mRt y = some .boolean ∧ (v = 0 ∨ v = 1)) then some (some (.int v)) else none
  | .lreturn, [.long v] => if mRt y = some .long then some (some (.long v)) else none
  | .areturn, [.ref a] => if isOb (mRt y) then some (some (.ref a)) else none
  | .return_, [] => if mRt y = none then some none else none
  | _, _ => none
  else none
def ctS (l : List Value) : Nat := (l.map fun v => v.category).sum
def fmod (x : Int32) : Int32 := if x - x / 360 * 360 < 0 then x - x / 360 * 360 + 360 else x - x / 360 * 360
def prV (p : Nat) (st : List Value) : Option (List Value) := match p with
  | 0 => pI2 (fun x y => .int (if x < y then y else x)) st
  | 1 => pI2 (fun x y => .int (if y < x then y else x)) st
  | 2 => pI1 (fun x => .int (if 0 ≤ x then x else 0 - x)) st
  | 3 => pJ2 (fun x y => .long (if y < x then y else x)) st
  | 4 => pJ1 (fun x => .long (if 0 < x then x else -x)) st
  | 5 => (match st with
    | .int y :: .int x :: r => if y = 360 then some (.int (fmod x) :: r) else none
    | _ => none)
  | _ => none
/-- Object's own making, and Math's functions -/
def spc (y : Nat) (i : Instr) (st : List Value) : Option (List Value) := if ctS st ≤ 12 then match i with
  | .invokespecial x => (match objE (mOw y) x with
    | some _ => (match st with
      | .ref _ :: r => some r
      | _ => none)
    | none => none)
  | .invokestatic x => (match prm (mOw y) x with
    | some p => prV p st
    | none => none)
  | _ => none
  else none
def flt (as : List Value) : List Value := as.flatMap fun v => if v.category = 2 then [v, .retAddr 0] else [v]
def enL (z : Nat) (as : List Value) : List Value := flt as ++ List.replicate (mMx z - (flt as).length) (.retAddr 0)
/-- which method is called, with what, what stays below -/
def cinv (y : Nat) (i : Instr) (st : List Value) (σ : Mm) : Option (Nat × List Value × List Value) := match i with
  | .invokestatic x => (match cal (mOw y) x with
    | some z => if mKd z = 1 ∧ mNp z ≤ st.length ∧ ctS (st.drop (mNp z)) ≤ 8 then some (z, (st.take (mNp z)).reverse, st.drop (mNp z)) else none
    | none => none)
  | .invokevirtual x => (match cal (mOw y) x with
    | some z => (match st.drop (mNp z) with
      | .ref b :: r => if mKd z = 0 ∧ mNp z ≤ st.length ∧ ctS r ≤ 8 ∧ SH b = (1, mOw z) ∧ pos b < σ.2.2.2.1 then some (z, .ref b :: (st.take (mNp z)).reverse, r) else none
      | _ => none)
    | none => none)
  | .invokespecial x => (match cal (mOw y) x with
    | some z => (match st.drop (mNp z) with
      | .ref b :: r => if mKd z = 2 ∧ mNp z ≤ st.length ∧ ctS r ≤ 8 then some (z, .ref b :: (st.take (mNp z)).reverse, r) else none
      | _ => none)
    | none => none)
  | _ => none
def irun : Nat → Nat → Nat → Nat → List Value → List Value → Mm → Option (Option Value × Mm)
  | 0, _, _, _, _, _, _ => none
  | n + 1, d, y, pc, L, st, σ => match decode (mCode y) pc with
    | .error _ => none
    | .ok (i, len) => if ctl i = 0 then (match stp y i pc len L st σ with
        | none => none
        | some q => irun n d y q.1 q.2.1 q.2.2.1 q.2.2.2)
      else if ctl i = 1 then (rtV y i len st).map (fun r => (r, σ))
      else if len = 3 then match d with
        | 0 => none
        | d' + 1 => match spc y i st with
          | some st' => irun n (d' + 1) y (pc + 3) L st' σ
          | none => match cinv y i st σ with
            | none => none
            | some q => if (flt q.2.1).length ≤ mMx q.1 then (match irun n d' q.1 0 (enL q.1 q.2.1) [] σ with
                | none => none
                | some u => irun n (d' + 1) y (pc + 3) L (u.1.toList ++ q.2.2) u.2) else none
      else none
theorem irun_mono : ∀ (n d y pc : Nat) (L st : List Value) (σ : Mm) (x : Option Value × Mm), irun n d y pc L st σ = some x → irun (n + 1) d y pc L st σ = some x := by
  intro n
  induction n with
  | zero => intro d y pc L st σ x h; simp [irun] at h
  | succ n ih =>
    intro d y pc L st σ x h
    unfold irun at h ⊢
    split at h
    · cases h
    · rename_i i len hd
      try simp only [hd]
      split at h
      · rename_i hc
        rw [if_pos hc]
        split at h
        · cases h
        · rename_i q hq
          exact ih _ _ _ _ _ _ _ h
      · rename_i hc
        rw [if_neg hc]
        split at h
        · rename_i hc2
          rw [if_pos hc2]
          exact h
        · rename_i hc2
          rw [if_neg hc2]
          split at h
          · rename_i hl
            rw [if_pos hl]
            split at h
            · cases h
            · split at h
              · rename_i hs
                try simp only [hs]
                exact ih _ _ _ _ _ _ _ h
              · rename_i hs
                try simp only [hs]
                split at h
                · cases h
                · rename_i q hq
                  try simp only [hq]
                  split at h
                  · rename_i hf
                    rw [if_pos hf]
                    split at h
                    · cases h
                    · rename_i u hu
                      rw [ih _ _ _ _ _ _ _ hu]
                      exact ih _ _ _ _ _ _ _ h
                  · cases h
          · cases h
theorem irun_le {n k d y pc : Nat} {L st : List Value} {σ : Mm} {x : Option Value × Mm} (hk : n ≤ k) (h : irun n d y pc L st σ = some x) : irun k d y pc L st σ = some x := by
  induction hk with
  | refl => exact h
  | step _ ih => exact irun_mono _ _ _ _ _ _ _ _ ih
def Ev (d y pc : Nat) (L st : List Value) (σ : Mm) (x : Option Value × Mm) : Prop := ∃ n, irun n d y pc L st σ = some x
theorem Ev_one {d y pc : Nat} {L st : List Value} {σ : Mm} {x x' : Option Value × Mm} (h : Ev d y pc L st σ x) (h' : Ev d y pc L st σ x') : x = x' := by
  obtain ⟨n, h⟩ := h
  obtain ⟨k, h'⟩ := h'
  have h1 := irun_le (Nat.le_max_left n k) h
  have h2 := irun_le (Nat.le_max_right n k) h'
  exact Option.some.inj (h1.symm.trans h2)
/-- what a run comes to: nothing, or an answer and the memory -/
noncomputable def ev (d y pc : Nat) (L st : List Value) (σ : Mm) : Option (Option Value × Mm) := @dite _ (∃ x, Ev d y pc L st σ x) (Classical.propDecidable _) (fun h => some h.choose) (fun _ => none)
theorem ev_iff {d y pc : Nat} {L st : List Value} {σ : Mm} {x : Option Value × Mm} : ev d y pc L st σ = some x ↔ Ev d y pc L st σ x := by
  unfold ev
  split
  · rename_i h
    constructor
    · intro e
      cases e
      exact h.choose_spec
    · intro e
      rw [Ev_one h.choose_spec e]
  · rename_i h
    constructor
    · intro e
      cases e
    · intro e
      exact absurd ⟨x, e⟩ h
theorem ev_ext {o : Option (Option Value × Mm)} {d y pc : Nat} {L st : List Value} {σ : Mm} (h : ∀ x, Ev d y pc L st σ x ↔ o = some x) : ev d y pc L st σ = o := by
  cases e : ev d y pc L st σ with
  | some x => exact ((h x).mp (ev_iff.mp e)).symm
  | none =>
    cases o with
    | none => rfl
    | some x => rw [ev_iff.mpr ((h x).mpr rfl)] at e; exact e.symm ▸ rfl
theorem ev_step {d y pc len : Nat} {i : Instr} {L st : List Value} {σ : Mm} (hd : decode (mCode y) pc = .ok (i, len)) (hc : ctl i = 0) {q : Nx} (hs : stp y i pc len L st σ = some q) : ev d y pc L st σ = ev d y q.1 q.2.1 q.2.2.1 q.2.2.2 := by
  refine ev_ext fun x => ?_
  rw [ev_iff]
  constructor
  · rintro ⟨n, h⟩
    cases n with
    | zero => simp [irun] at h
    | succ n =>
      refine ⟨n, ?_⟩
      simpa [irun, hd, hc, hs] using h
  · rintro ⟨n, h⟩
    exact ⟨n + 1, by simpa [irun, hd, hc, hs] using h⟩
theorem ev_ret {d y pc len : Nat} {i : Instr} {L st : List Value} {σ : Mm} {r : Option Value} (hd : decode (mCode y) pc = .ok (i, len)) (hc : ctl i = 1) (hs : rtV y i len st = some r) : ev d y pc L st σ = some (r, σ) :=
  ev_iff.mpr ⟨1, by simp [irun, hd, hc, hs]⟩
theorem ev_spc {d y pc : Nat} {i : Instr} {L st st' : List Value} {σ : Mm} (hd : decode (mCode y) pc = .ok (i, 3)) (hc : ctl i = 2) (hs : spc y i st = some st') : ev (d + 1) y pc L st σ = ev (d + 1) y (pc + 3) L st' σ := by
  refine ev_ext fun x => ?_
  rw [ev_iff]
  constructor
  · rintro ⟨n, h⟩
    cases n with
    | zero => simp [irun] at h
    | succ n =>
      refine ⟨n, ?_⟩
      simpa [irun, hd, hc, hs] using h
  · rintro ⟨n, h⟩
    exact ⟨n + 1, by simpa [irun, hd, hc, hs] using h⟩
noncomputable def den (d z : Nat) (as : List Value) (σ : Mm) : Option (Option Value × Mm) := ev d z 0 (enL z as) [] σ
def bnd (o : Option (Option Value × Mm)) (k : Option Value → Mm → Option (Option Value × Mm)) : Option (Option Value × Mm) := match o with
  | none => none
  | some u => k u.1 u.2
theorem ev_call {d y pc : Nat} {i : Instr} {L st : List Value} {σ : Mm} {q : Nat × List Value × List Value} (hd : decode (mCode y) pc = .ok (i, 3)) (hc : ctl i = 2) (hs : spc y i st = none) (hq : cinv y i st σ = some q) (hf : (flt q.2.1).length ≤ mMx q.1) :
    ev (d + 1) y pc L st σ = bnd (den d q.1 q.2.1 σ) (fun r σ' => ev (d + 1) y (pc + 3) L (r.toList ++ q.2.2) σ') := by
  refine ev_ext fun x => ?_
  constructor
  · rintro ⟨n, h⟩
    cases n with
    | zero => simp [irun] at h
    | succ n =>
      cases hu : irun n d q.1 0 (enL q.1 q.2.1) [] σ with
      | none => simp [irun, hd, hc, hs, hq, hf, hu] at h
      | some u =>
        have hu' : den d q.1 q.2.1 σ = some u := ev_iff.mpr ⟨n, hu⟩
        rw [hu']
        exact ev_iff.mpr ⟨n, by simpa [irun, hd, hc, hs, hq, hf, hu] using h⟩
  · intro h
    cases hu : den d q.1 q.2.1 σ with
    | none => rw [hu] at h; cases h
    | some u =>
      rw [hu] at h
      obtain ⟨n, h1⟩ := ev_iff.mp hu
      obtain ⟨k, h2⟩ := ev_iff.mp h
      refine ⟨max n k + 1, ?_⟩
      have h1 := irun_le (Nat.le_max_left n k) h1
      have h2 := irun_le (Nat.le_max_right n k) h2
      simpa [irun, hd, hc, hs, hq, hf, h1] using h2
