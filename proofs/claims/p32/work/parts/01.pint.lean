/-! THE PURE INTERPRETER. The system's own bytecode over a pure memory: objects are logical numbers, whole numbers lie in a function of (object, slot), references between objects are fixed by the layout. -/
section PINT
/-- memory: ints, longs, the script's length, how many exceptions were made -/
abbrev PM : Type := (Nat → Nat → Int32) × (Nat → Nat → Int64) × Nat × Nat
/-- pc, locals (retAddr: not known), stack, memory -/
abbrev PS : Type := Nat × List Value × List Value × PM
abbrev PO : Type := ((Option Value) ⊕ Nat) × PM
/-- a call: method, arguments, its pc, locals, stack below, memory -/
abbrev PCl : Type := Nat × List Value × Nat × List Value × List Value × PM
abbrev SR : Type := PS ⊕ (PCl ⊕ PO)
abbrev Ent : Type := Nat × Nat × Nat × Value
abbrev Chunks : Type := List (List (Nat × Instr × Nat))
/-- code, constant pool, return type (0 void, 1 int, 2 boolean, 3 long, 4 double, 5 reference), maxLocals, exception table -/
abbrev MI : Type := Chunks × (Nat → Ent) × Nat × Nat × List (Nat × Nat × Nat × Nat)
abbrev pU : Value := .retAddr 0
def mI (μ : PM) (k j : Nat) : Int32 := μ.1 k j
def mJ (μ : PM) (k j : Nat) : Int64 := μ.2.1 k j
def stI (μ : PM) (k j : Nat) (v : Int32) : PM := (fun a b => bif Nat.beq a k && Nat.beq b j then v else μ.1 a b, μ.2)
def stJ (μ : PM) (k j : Nat) (v : Int64) : PM := (μ.1, fun a b => bif Nat.beq a k && Nat.beq b j then v else μ.2.1 a b, μ.2.2)
/-- the layout: what kind of thing a logical number is. 0..9: objects of the classes of vwCl; 20 int array; 21 long array; 22, 23, 24, 26: arrays of corners, organs, players, towns; 25 the script; 27 fixed ints; 28 the kinds; 29 a kind; 30 a text -/
def lyLow : List (Nat × Nat) := [(8, 0), (6, 0), (26, 6), (1, 0), (20, 60), (4, 0), (20, 8), (20, 8), (20, 8), (3, 0), (20, 5), (20, 5), (20, 24), (20, 21), (20, 16), (20, 12), (20, 30), (20, 5), (20, 11), (99, 0), (99, 0), (99, 0), (99, 0)]
/-- arrays made on the way: their lengths, by their order -/
def dl (i : Nat) : Nat := [30, 21, 16, 11].getD (i % 4) 0
def lyTown (r : Nat) : Nat × Nat :=
  bif Nat.beq r 0 then (7, 0) else bif Nat.beq r 1 then (22, 10) else bif Nat.beq r 2 then (23, 5) else bif Nat.beq r 3 then (24, 8) else bif Nat.beq r 4 then (20, 5)
  else bif Nat.blt r 25 then (bif Nat.beq (r % 2) 1 then (0, 0) else (20, 10)) else bif Nat.blt r 30 then (2, 0) else bif Nat.beq (r % 2) 0 then (5, 0) else (20, 5)
def lyTop (k : Nat) : Nat × Nat :=
  bif Nat.beq k 390 then (25, 0) else bif Nat.beq k 400 then (27, 5) else bif Nat.beq k 402 then (27, 5) else bif Nat.beq k 401 then (28, 5)
  else bif Nat.blt k 410 then (99, 0) else bif Nat.blt k 415 then (29, 0) else bif Nat.blt k 420 then (99, 0) else bif Nat.blt k 430 then (30, 0) else (31, dl (k - 430))
def ly (k : Nat) : Nat × Nat := bif Nat.blt k 23 then lyLow.getD k (99, 0) else bif Nat.blt k 345 then lyTown ((k - 23) % 46) else lyTop k
def cls (k : Nat) : Nat := (ly k).1
def len (k : Nat) : Nat := (ly k).2
def cst (k i : Nat) : Int32 := (bif Nat.beq k 400 then [99, 9, 50, 100, 50] else [1, 2, 3, 4, 0]).getD i 0
/-- what lies at place i of an array of references -/
def eN (k i : Nat) : Nat :=
  bif Nat.beq (cls k) 22 then k + 4 + 2 * i else bif Nat.beq (cls k) 23 then k + 23 + i else bif Nat.beq (cls k) 24 then k + 27 + 2 * i
  else bif Nat.beq (cls k) 26 then k + 67 + 46 * i else k + 9 + i
def elr (k i : Nat) : Value := .ref (eN k i)
/-- an index within -/
def inb (i : Int32) (n : Nat) : Bool := !(decide (i < 0) || Nat.ble n i.toNatClampNeg)
def strs : List (List Int32) := [[108, 111, 116, 115], [108, 111, 116, 115], [119, 101, 116], [119, 101, 116], [100, 114, 121], [100, 114, 121], [110, 101, 120, 116], [110, 101, 120, 116], [48, 58, 97], [52, 58, 106]]
def strLen (k : Nat) : Int32 := Int32.ofNat (strs.getD (k - 420) []).length
def strAt (k i : Nat) : Int32 := (strs.getD (k - 420) []).getD i 0
def noNaN (r : UInt64) : Bool := decide (r &&& 0x7fffffffffffffff ≤ 0x7ff0000000000000)
def lk : List (Nat × Instr × Nat) → Nat → Option (Instr × Nat)
  | [], _ => none
  | (p, i, l) :: r, pc => bif Nat.beq p pc then some (i, l) else lk r pc
def lk2 (cs : Chunks) (pc : Nat) : Option (Instr × Nat) := lk (cs.getD (pc / 32) []) pc
def nx (pc : Nat) (ls st : List Value) (μ : PM) : Option SR := some (.inl (pc, ls, st, μ))
def jp (pc : Nat) (off : Int) (ls st : List Value) (μ : PM) : Option SR := match (pc : Int) + off with
  | .ofNat t => nx t ls st μ
  | .negSucc _ => none
def un32 (f : Int32 → Value) (pc : Nat) (ls st : List Value) (μ : PM) : Option SR := match st with
  | .int x :: r => nx (pc + 1) ls (f x :: r) μ
  | _ => none
def un64 (f : Int64 → Value) (pc : Nat) (ls st : List Value) (μ : PM) : Option SR := match st with
  | .long x :: r => nx (pc + 1) ls (f x :: r) μ
  | _ => none
def b32 (f : Int32 → Int32 → Int32) (pc : Nat) (ls st : List Value) (μ : PM) : Option SR := match st with
  | .int y :: .int x :: r => nx (pc + 1) ls (.int (f x y) :: r) μ
  | _ => none
def b32n (f : Int32 → Int32 → Int32) (pc : Nat) (ls st : List Value) (μ : PM) : Option SR := match st with
  | .int y :: .int x :: r => if ¬ y = 0 then nx (pc + 1) ls (.int (f x y) :: r) μ else none
  | _ => none
def b64 (f : Int64 → Int64 → Value) (pc : Nat) (ls st : List Value) (μ : PM) : Option SR := match st with
  | .long y :: .long x :: r => nx (pc + 1) ls (f x y :: r) μ
  | _ => none
def b64n (f : Int64 → Int64 → Value) (pc : Nat) (ls st : List Value) (μ : PM) : Option SR := match st with
  | .long y :: .long x :: r => if ¬ y = 0 then nx (pc + 1) ls (f x y :: r) μ else none
  | _ => none
def bD (f : UInt64 → UInt64 → UInt64) (pc : Nat) (ls st : List Value) (μ : PM) : Option SR := match st with
  | .double y :: .double x :: r => if noNaN (f x y) = true then nx (pc + 1) ls (.double (f x y) :: r) μ else none
  | _ => none
def if1 (c : ClassFile.Cond) (pc : Nat) (off : Int) (ls st : List Value) (μ : PM) : Option SR := match st with
  | .int x :: r => (match c with
    | .eq => if x = 0 then jp pc off ls r μ else nx (pc + 3) ls r μ
    | .ne => if ¬ x = 0 then jp pc off ls r μ else nx (pc + 3) ls r μ
    | .lt => if x < 0 then jp pc off ls r μ else nx (pc + 3) ls r μ
    | .ge => if 0 ≤ x then jp pc off ls r μ else nx (pc + 3) ls r μ
    | .gt => if 0 < x then jp pc off ls r μ else nx (pc + 3) ls r μ
    | .le => if x ≤ 0 then jp pc off ls r μ else nx (pc + 3) ls r μ)
  | _ => none
def if2 (c : ClassFile.Cond) (pc : Nat) (off : Int) (ls st : List Value) (μ : PM) : Option SR := match st with
  | .int y :: .int x :: r => (match c with
    | .eq => if x = y then jp pc off ls r μ else nx (pc + 3) ls r μ
    | .ne => if ¬ x = y then jp pc off ls r μ else nx (pc + 3) ls r μ
    | .lt => if x < y then jp pc off ls r μ else nx (pc + 3) ls r μ
    | .ge => if y ≤ x then jp pc off ls r μ else nx (pc + 3) ls r μ
    | .gt => if y < x then jp pc off ls r μ else nx (pc + 3) ls r μ
    | .le => if x ≤ y then jp pc off ls r μ else nx (pc + 3) ls r μ)
  | _ => none
def ifn (neg : Bool) (pc : Nat) (off : Int) (ls st : List Value) (μ : PM) : Option SR := match st with
  | .ref _ :: r => bif neg then jp pc off ls r μ else nx (pc + 3) ls r μ
  | .null :: r => bif neg then nx (pc + 3) ls r μ else jp pc off ls r μ
  | _ => none
/-- references are compared where both are kinds -/
def ifa (pc : Nat) (off : Int) (ls st : List Value) (μ : PM) : Option SR := match st with
  | .ref y :: .ref x :: r => if cls x = 29 ∧ cls y = 29 then (if ¬ x = y then jp pc off ls r μ else nx (pc + 3) ls r μ) else none
  | _ => none
def ldI (pc l i : Nat) (ls st : List Value) (μ : PM) : Option SR := match ls[i]? with
  | some (.int x) => nx (pc + l) ls (.int x :: st) μ
  | _ => none
def ldJ (pc l i : Nat) (ls st : List Value) (μ : PM) : Option SR := match ls[i]? with
  | some (.long x) => nx (pc + l) ls (.long x :: st) μ
  | _ => none
def ldD (pc l i : Nat) (ls st : List Value) (μ : PM) : Option SR := match ls[i]? with
  | some (.double x) => nx (pc + l) ls (.double x :: st) μ
  | _ => none
def ldA (pc l i : Nat) (ls st : List Value) (μ : PM) : Option SR := match ls[i]? with
  | some (.ref x) => nx (pc + l) ls (.ref x :: st) μ
  | some .null => nx (pc + l) ls (.null :: st) μ
  | _ => none
/-- the local ahead holds no long or double -/
def okS (ls : List Value) (i : Nat) : Bool := match i with
  | 0 => true
  | j + 1 => match ls[j]? with
    | some (.long _) => false
    | some (.double _) => false
    | _ => true
def st1 (pc l i : Nat) (v : Value) (ls st : List Value) (μ : PM) : Option SR := bif Nat.blt i ls.length && okS ls i then nx (pc + l) (ls.set i v) st μ else none
def st2 (pc l i : Nat) (v : Value) (ls st : List Value) (μ : PM) : Option SR := bif Nat.blt (i + 1) ls.length && okS ls i then nx (pc + l) ((ls.set i v).set (i + 1) pU) st μ else none
def stoI (pc l i : Nat) (ls st : List Value) (μ : PM) : Option SR := match st with
  | .int x :: r => st1 pc l i (.int x) ls r μ
  | _ => none
def stoA (pc l i : Nat) (ls st : List Value) (μ : PM) : Option SR := match st with
  | .ref x :: r => st1 pc l i (.ref x) ls r μ
  | .null :: r => st1 pc l i .null ls r μ
  | _ => none
def stoJ (pc l i : Nat) (ls st : List Value) (μ : PM) : Option SR := match st with
  | .long x :: r => st2 pc l i (.long x) ls r μ
  | _ => none
def stoD (pc l i : Nat) (ls st : List Value) (μ : PM) : Option SR := match st with
  | .double x :: r => st2 pc l i (.double x) ls r μ
  | _ => none
def incI (pc i : Nat) (n : Int) (ls st : List Value) (μ : PM) : Option SR := match ls[i]? with
  | some (.int x) => st1 pc 3 i (.int (x + Int32.ofInt n)) ls st μ
  | _ => none
/-- an int array that is there -/
def okA (μ : PM) (k : Nat) : Bool := Nat.beq (cls k) 20 || (Nat.beq (cls k) 31 && Nat.blt k (430 + μ.2.2.2))
def alI (pc : Nat) (ls st : List Value) (μ : PM) : Option SR := match st with
  | .int i :: .ref k :: r =>
    if okA μ k = true ∧ inb i (len k) = true then nx (pc + 1) ls (.int (mI μ k i.toNatClampNeg) :: r) μ
    else if cls k = 25 ∧ inb i μ.2.2.1 = true then nx (pc + 1) ls (.int (mI μ k i.toNatClampNeg) :: r) μ
    else if cls k = 27 ∧ inb i (len k) = true then nx (pc + 1) ls (.int (cst k i.toNatClampNeg) :: r) μ else none
  | _ => none
def alJ (pc : Nat) (ls st : List Value) (μ : PM) : Option SR := match st with
  | .int i :: .ref k :: r => if cls k = 21 ∧ inb i (len k) = true then nx (pc + 1) ls (.long (mJ μ k i.toNatClampNeg) :: r) μ else none
  | _ => none
def isRA (c : Nat) : Bool := Nat.beq c 22 || Nat.beq c 23 || Nat.beq c 24 || Nat.beq c 26 || Nat.beq c 28
def alA (pc : Nat) (ls st : List Value) (μ : PM) : Option SR := match st with
  | .int i :: .ref k :: r => if isRA (cls k) = true ∧ inb i (len k) = true then nx (pc + 1) ls (elr k i.toNatClampNeg :: r) μ else none
  | _ => none
def asI (pc : Nat) (ls st : List Value) (μ : PM) : Option SR := match st with
  | .int v :: .int i :: .ref k :: r => if okA μ k = true ∧ inb i (len k) = true then nx (pc + 1) ls r (stI μ k i.toNatClampNeg v) else none
  | _ => none
def asJ (pc : Nat) (ls st : List Value) (μ : PM) : Option SR := match st with
  | .long v :: .int i :: .ref k :: r => if cls k = 21 ∧ inb i (len k) = true then nx (pc + 1) ls r (stJ μ k i.toNatClampNeg v) else none
  | _ => none
def arl (pc : Nat) (ls st : List Value) (μ : PM) : Option SR := match st with
  | .ref k :: r => if cls k = 25 then nx (pc + 1) ls (.int (Int32.ofNat μ.2.2.1) :: r) μ else if cls k = 28 then nx (pc + 1) ls (.int (Int32.ofNat (len k)) :: r) μ else if okA μ k = true then nx (pc + 1) ls (.int (Int32.ofNat (len k)) :: r) μ else none
  | _ => none
/-- pool entries: (0, class, slot): an int field; 1: a boolean one; 2: a long one; 3: a reference, at so far behind; 8: a text of a kind; 6: a constant; 7: an exception's class; 4: an instance method (number, arguments, class of the receiver); 9: a static one; 5: a method of the JDK's -/
def gtf (pl : Nat → Ent) (pc ix : Nat) (ls st : List Value) (μ : PM) : Option SR := match st with
  | .ref k :: r => (match pl ix with
    | (0, ci, j, _) => if cls k = ci then nx (pc + 3) ls (.int (mI μ k j) :: r) μ else none
    | (1, ci, j, _) => if cls k = ci then nx (pc + 3) ls (.int (mI μ k j) :: r) μ else none
    | (2, ci, j, _) => if cls k = ci then nx (pc + 3) ls (.long (mJ μ k j) :: r) μ else none
    | (3, ci, _, .ref o) => if cls k = ci then nx (pc + 3) ls (.ref (k + o) :: r) μ else none
    | (8, ci, j, _) => if cls k = ci then nx (pc + 3) ls (.ref (420 + 2 * (k - 410) + j) :: r) μ else none
    | _ => none)
  | _ => none
def ptf (pl : Nat → Ent) (pc ix : Nat) (ls st : List Value) (μ : PM) : Option SR := match st with
  | .int v :: .ref k :: r => (match pl ix with
    | (0, ci, j, _) => bif Nat.blt ci 9 then (if cls k = ci then nx (pc + 3) ls r (stI μ k j v) else none) else none
    | (1, ci, j, _) => bif Nat.blt ci 9 then (if cls k = ci ∧ (v = 0 ∨ v = 1) then nx (pc + 3) ls r (stI μ k j v) else none) else none
    | _ => none)
  | .long v :: .ref k :: r => (match pl ix with
    | (2, ci, j, _) => if cls k = ci then nx (pc + 3) ls r (stJ μ k j v) else none
    | _ => none)
  | _ => none
/-- arraycopy between int arrays -/
def cpI (μ : PM) (a i b j n : Nat) : PM := (fun x y => bif Nat.beq x b && Nat.ble j y && Nat.blt y (j + n) then μ.1 a (i + (y - j)) else μ.1 x y, μ.2)
def catS (st : List Value) : Nat := (st.map fun v => v.category).sum
def jdk0 (id pc : Nat) (ls st : List Value) (μ : PM) : Option SR := match id with
  | 0 => (match st with | .int y :: .int x :: r => nx (pc + 3) ls (.int (if x < y then y else x) :: r) μ | _ => none)
  | 1 => (match st with | .int y :: .int x :: r => nx (pc + 3) ls (.int (if y < x then y else x) :: r) μ | _ => none)
  | 2 => (match st with | .int x :: r => nx (pc + 3) ls (.int (if 0 ≤ x then x else 0 - x) :: r) μ | _ => none)
  | 3 => (match st with
    | .int n :: .int j :: .ref b :: .int i :: .ref a :: r => if cls a = 20 ∧ cls b = 20 ∧ ¬ a = b ∧ i = 0 ∧ j = 0 ∧ ¬ n < 0 ∧ n.toNatClampNeg ≤ len a ∧ n.toNatClampNeg ≤ len b then nx (pc + 3) ls r (cpI μ a 0 b 0 n.toNatClampNeg) else none
    | _ => none)
  | 4 => (match st with | .double x :: r => if noNaN x = true then nx (pc + 3) ls (.long x.toInt64 :: r) μ else none | _ => none)
  | 5 => (match st with | .ref k :: r => if cls k = 30 then nx (pc + 3) ls (.int (strLen k) :: r) μ else none | _ => none)
  | 6 => (match st with | .int i :: .ref k :: r => if cls k = 30 ∧ inb i (strs.getD (k - 420) []).length = true then nx (pc + 3) ls (.int (strAt k i.toNatClampNeg) :: r) μ else none | _ => none)
  | 7 => (match st with | .ref k :: r => if cls k = 29 then nx (pc + 3) ls (.int (Int32.ofNat (k - 410)) :: r) μ else none | _ => none)
  | _ => none
def jdk (id pc : Nat) (ls st : List Value) (μ : PM) : Option SR := bif Nat.ble (catS st) 8 then jdk0 id pc ls st μ else none
def ivV (pl : Nat → Ent) (pc ix : Nat) (ls st : List Value) (μ : PM) : Option SR := match pl ix with
  | (4, n, na, .ref ci) => (match st[na - 1]? with
    | some (.ref k) => bif Nat.ble (catS (st.drop na)) 8 then (if cls k = ci then some (.inr (.inl (n, (st.take na).reverse, pc, ls, st.drop na, μ))) else none) else none
    | _ => none)
  | (13, id, _, _) => bif Nat.ble 5 id then jdk id pc ls st μ else none
  | _ => none
def ivS (pl : Nat → Ent) (pc ix : Nat) (ls st : List Value) (μ : PM) : Option SR := match pl ix with
  | (9, n, na, _) => bif Nat.ble na st.length && Nat.ble (catS (st.drop na)) 8 then some (.inr (.inl (n, (st.take na).reverse, pc, ls, st.drop na, μ))) else none
  | (10, n, na, _) => bif Nat.ble na st.length && Nat.ble (catS (st.drop na)) 8 then some (.inr (.inl (n, (st.take na).reverse, pc, ls, st.drop na, μ))) else none
  | (5, id, _, _) => bif Nat.blt id 5 then jdk id pc ls st μ else none
  | _ => none
/-- a new int array: the next number -/
def newM (μ : PM) : PM := (fun a b => bif Nat.beq a (430 + μ.2.2.2) then 0 else μ.1 a b, μ.2.1, μ.2.2.1, μ.2.2.2 + 1)
def nwA (pc : Nat) (ls st : List Value) (μ : PM) : Option SR := match st with
  | .int n :: r => if n = Int32.ofNat (dl μ.2.2.2) then nx (pc + 2) ls (.ref (430 + μ.2.2.2) :: r) (newM μ) else none
  | _ => none
/-- new E("..") and its throw, at one go; no run that counts throws: it would be far too dear -/
def thr (cs : Chunks) (pl : Nat → Ent) (pc ix : Nat) (st : List Value) (μ : PM) : Option SR := match pl ix with
  | (7, kind, _, _) => (match lk2 cs (pc + 3) with
    | some (.dup, 1) => (match lk2 cs (pc + 4) with
      | some (.ldc _, 2) => (match lk2 cs (pc + 6), lk2 cs (pc + 9) with
        | some (.invokespecial _, 3), some (.athrow, 1) => bif st.isEmpty then some (.inr (.inr (.inr kind, (μ.1, μ.2.1, μ.2.2.1, μ.2.2.2 + 1000000)))) else none
        | _, _ => none)
      | some (.ldc_w _, 3) => (match lk2 cs (pc + 7), lk2 cs (pc + 10) with
        | some (.invokespecial _, 3), some (.athrow, 1) => bif st.isEmpty then some (.inr (.inr (.inr kind, (μ.1, μ.2.1, μ.2.2.1, μ.2.2.2 + 1000000)))) else none
        | _, _ => none)
      | _ => none)
    | _ => none)
  | _ => none
def ldcI (pl : Nat → Ent) (pc l ix : Nat) (ls st : List Value) (μ : PM) : Option SR := match pl ix with
  | (6, _, _, .int v) => nx (pc + l) ls (.int v :: st) μ
  | _ => none
def ldc2 (pl : Nat → Ent) (pc ix : Nat) (ls st : List Value) (μ : PM) : Option SR := match pl ix with
  | (6, _, _, .long v) => nx (pc + 3) ls (.long v :: st) μ
  | (6, _, _, .double v) => nx (pc + 3) ls (.double v :: st) μ
  | _ => none
def gst (pl : Nat → Ent) (pc ix : Nat) (ls st : List Value) (μ : PM) : Option SR := match pl ix with
  | (12, k, _, _) => nx (pc + 3) ls (.ref k :: st) μ
  | (11, k, _, _) => nx (pc + 3) ls (.ref k :: st) μ
  | _ => none
def dn (v : Option Value) (μ : PM) : Option SR := some (.inr (.inr (.inl v, μ)))
def irt (rt : Nat) (st : List Value) (μ : PM) : Option SR := match st with
  | .int x :: [] => (match rt with
    | 1 => dn (some (.int x)) μ
    | 2 => if x = 0 ∨ x = 1 then dn (some (.int x)) μ else none
    | _ => none)
  | _ => none
def jrt (rt : Nat) (st : List Value) (μ : PM) : Option SR := match rt, st with
  | 3, .long x :: [] => dn (some (.long x)) μ
  | _, _ => none
def drt (rt : Nat) (st : List Value) (μ : PM) : Option SR := match rt, st with
  | 4, .double x :: [] => dn (some (.double x)) μ
  | _, _ => none
def art (rt : Nat) (st : List Value) (μ : PM) : Option SR := match rt, st with
  | 5, .ref x :: [] => dn (some (.ref x)) μ
  | 5, .null :: [] => dn (some .null) μ
  | _, _ => none
def vrt (rt : Nat) (st : List Value) (μ : PM) : Option SR := match rt, st with
  | 0, [] => dn none μ
  | _, _ => none
def tsw (pc : Nat) (d lo hi : Int) (os : Array Int) (ls st : List Value) (μ : PM) : Option SR := match st with
  | .int x :: r => if x.toInt < lo ∨ hi < x.toInt then jp pc d ls r μ else (match os.toList[(x.toInt - lo).toNat]? with
    | some o => jp pc o ls r μ
    | none => none)
  | _ => none
def lsw (pc : Nat) (d : Int) (ps : Array (Int × Int)) (ls st : List Value) (μ : PM) : Option SR := match st with
  | .int x :: r => bif (ps.toList.zip (ps.toList.drop 1)).all (fun (a, next) => a.1 < next.1) then jp pc (Op.lookupswitch.offset ps.toList d x.toInt) ls r μ else none
  | _ => none
def cat1 (v : Value) : Bool := match v with
  | .long _ => false
  | .double _ => false
  | _ => true
def dp (pc : Nat) (ls st : List Value) (μ : PM) : Option SR := match st with
  | a :: r => bif cat1 a then nx (pc + 1) ls (a :: a :: r) μ else none
  | _ => none
def dp2 (pc : Nat) (ls st : List Value) (μ : PM) : Option SR := match st with
  | a :: b :: r => bif cat1 a && cat1 b then nx (pc + 1) ls (a :: b :: a :: b :: r) μ else none
  | _ => none
def pp (pc : Nat) (ls st : List Value) (μ : PM) : Option SR := match st with
  | a :: r => bif cat1 a then nx (pc + 1) ls r μ else none
  | _ => none
def pex (M : MI) (i : Instr) (l pc : Nat) (ls st : List Value) (μ : PM) : Option SR := match i with
  | .aaload => alA pc ls st μ
  | .aconst_null => nx (pc + 1) ls (.null :: st) μ
  | .aload k => ldA pc 2 k ls st μ
  | .aload_n k => ldA pc 1 k ls st μ
  | .areturn => art M.2.2.1 st μ
  | .arraylength => arl pc ls st μ
  | .astore k => stoA pc 2 k ls st μ
  | .astore_n k => stoA pc 1 k ls st μ
  | .bipush n => nx (pc + 2) ls (.int (Int8.ofInt n).toInt32 :: st) μ
  | .d2l => (match st with | .double x :: r => nx (pc + 1) ls (.long (FP.d2l x) :: r) μ | _ => none)
  | .dcmp op => (match st with | .double y :: .double x :: r => nx (pc + 1) ls (.int (Op.cmpValue (FP.dcmp x y) op) :: r) μ | _ => none)
  | .dconst 0 => nx (pc + 1) ls (.double FP.dconst0 :: st) μ
  | .dconst 1 => nx (pc + 1) ls (.double FP.dconst1 :: st) μ
  | .ddiv => bD FP.ddiv pc ls st μ
  | .dload k => ldD pc 2 k ls st μ
  | .dload_n k => ldD pc 1 k ls st μ
  | .dmul => bD FP.dmul pc ls st μ
  | .dreturn => drt M.2.2.1 st μ
  | .dstore k => stoD pc 2 k ls st μ
  | .dstore_n k => stoD pc 1 k ls st μ
  | .dsub => bD FP.dsub pc ls st μ
  | .dup => dp pc ls st μ
  | .dup2 => dp2 pc ls st μ
  | .getfield ix => gtf M.2.1 pc ix ls st μ
  | .getstatic ix => gst M.2.1 pc ix ls st μ
  | .goto off => jp pc off ls st μ
  | .i2d => un32 (fun x => .double (FP.i2d x)) pc ls st μ
  | .i2l => un32 (fun x => .long x.toInt64) pc ls st μ
  | .iadd => b32 (fun x y => x + y) pc ls st μ
  | .iaload => alI pc ls st μ
  | .iand => b32 (fun x y => x &&& y) pc ls st μ
  | .iastore => asI pc ls st μ
  | .iconst n => nx (pc + 1) ls (.int (Int32.ofInt n) :: st) μ
  | .idiv => b32n (fun x y => x / y) pc ls st μ
  | .if_acmp .ne off => ifa pc off ls st μ
  | .if_icmp c off => if2 c pc off ls st μ
  | .ifCond c off => if1 c pc off ls st μ
  | .ifnonnull off => ifn true pc off ls st μ
  | .ifnull off => ifn false pc off ls st μ
  | .iinc k n => bif Nat.beq l 3 then incI pc k n ls st μ else none
  | .iload k => ldI pc 2 k ls st μ
  | .iload_n k => ldI pc 1 k ls st μ
  | .imul => b32 (fun x y => x * y) pc ls st μ
  | .ineg => un32 (fun x => .int (-x)) pc ls st μ
  | .invokestatic ix => ivS M.2.1 pc ix ls st μ
  | .invokevirtual ix => ivV M.2.1 pc ix ls st μ
  | .ior => b32 (fun x y => x ||| y) pc ls st μ
  | .irem => b32n (fun x y => x - x / y * y) pc ls st μ
  | .ireturn => irt M.2.2.1 st μ
  | .ishl => b32 (fun x y => x <<< (y &&& 31)) pc ls st μ
  | .ishr => b32 (fun x y => x >>> (y &&& 31)) pc ls st μ
  | .istore k => stoI pc 2 k ls st μ
  | .istore_n k => stoI pc 1 k ls st μ
  | .isub => b32 (fun x y => x - y) pc ls st μ
  | .iushr => b32 (fun x y => (x.toUInt32 >>> (y.toUInt32 &&& Int32.toUInt32 31)).toInt32) pc ls st μ
  | .ixor => b32 (fun x y => x ^^^ y) pc ls st μ
  | .l2d => un64 (fun x => .double (FP.l2d x)) pc ls st μ
  | .l2i => un64 (fun x => .int x.toInt32) pc ls st μ
  | .ladd => b64 (fun x y => .long (x + y)) pc ls st μ
  | .laload => alJ pc ls st μ
  | .lastore => asJ pc ls st μ
  | .lcmp => b64 (fun x y => .int (lg_cmp x y)) pc ls st μ
  | .lconst k => nx (pc + 1) ls (.long (Int64.ofNat (k : Nat)) :: st) μ
  | .ldc ix => ldcI M.2.1 pc 2 ix ls st μ
  | .ldc_w ix => ldcI M.2.1 pc 3 ix ls st μ
  | .ldc2_w ix => ldc2 M.2.1 pc ix ls st μ
  | .lload k => ldJ pc 2 k ls st μ
  | .lload_n k => ldJ pc 1 k ls st μ
  | .lmul => b64 (fun x y => .long (x * y)) pc ls st μ
  | .lookupswitch d ps => lsw pc d ps ls st μ
  | .lrem => b64n (fun x y => .long (x - x / y * y)) pc ls st μ
  | .lreturn => jrt M.2.2.1 st μ
  | .lshl => (match st with | .int y :: .long x :: r => nx (pc + 1) ls (.long (x <<< (y.toInt64 &&& 63)) :: r) μ | _ => none)
  | .lstore k => stoJ pc 2 k ls st μ
  | .lstore_n k => stoJ pc 1 k ls st μ
  | .lsub => b64 (fun x y => .long (x - y)) pc ls st μ
  | .new ix => thr M.1 M.2.1 pc ix st μ
  | .newarray .int => nwA pc ls st μ
  | .pop => pp pc ls st μ
  | .putfield ix => ptf M.2.1 pc ix ls st μ
  | .return_ => vrt M.2.2.1 st μ
  | .sipush n => nx (pc + 3) ls (.int (Int16.ofInt n).toInt32 :: st) μ
  | .tableswitch d lo hi os => tsw pc d lo hi os ls st μ
  | _ => none
def pstep (M : MI) (s : PS) : Option SR := match s with
  | (pc, ls, st, μ) => match lk2 M.1 pc with
    | none => none
    | some (i, l) => pex M i l pc ls st μ
def pblk (M : MI) : Nat → PS → Option SR
  | 0, s => pstep M s
  | n + 1, s => match pstep M s with
    | some (.inl s') => pblk M n s'
    | r => r
def hfind : List (Nat × Nat × Nat × Nat) → Nat → Nat → Option Nat
  | [], _, _ => none
  | (a, b, h, k) :: r, pc, kind => bif Nat.ble a pc && Nat.blt pc b && Nat.beq k kind then some h else hfind r pc kind
/-- behind a call -/
def aft (M : MI) (pc : Nat) (ls st : List Value) (o : PO) : Option SR := match o with
  | (.inl (some v), μ) => nx (pc + 3) ls (v :: st) μ
  | (.inl none, μ) => nx (pc + 3) ls st μ
  | (.inr k, μ) => match hfind M.2.2.2.2 pc k with
    | none => some (.inr (.inr (.inr k, μ)))
    | some h => match lk2 M.1 h with
      | some (.astore n, _) => st1 h 2 n pU ls [] μ
      | some (.astore_n n, _) => st1 h 1 n pU ls [] μ
      | _ => none
/-- the arguments as locals -/
def layA : List Value → List Value
  | [] => []
  | v :: vs => bif cat1 v then v :: layA vs else v :: pU :: layA vs
def entryL (n : Nat) (as : List Value) : List Value := layA as ++ List.replicate (n - (layA as).length) pU
end PINT
