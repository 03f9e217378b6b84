section
/-! THE PURE INTERPRETER. The system's own bytecode over a pure memory: objects are logical numbers, whole numbers lie in a function of (object, slot), references between objects are fixed by the layout. -/
section PINT
/-- memory: ints, longs, the script's length, how many exceptions were made -/
abbrev PM : Type := (Nat → Nat → Int32) × (Nat → Nat → Int64) × Nat × Nat
/-- pc, locals (retAddr: not known), stack, memory -/
abbrev PS : Type := Nat × List Value × List Value × PM
abbrev PO : Type := ((Option Value) ⊕ Nat) × PM
/-- a call: method, arguments, its pc, locals, stack below, memory -/
abbrev PCl : Type := Nat × List Value × Nat × List Value × List Value × PM
abbrev SR : Type := PS ⊕ (PCl ⊕ PO)
abbrev Ent : Type := Nat × Nat × Nat × Value
abbrev Chunks : Type := List (List (Nat × Instr × Nat))
/-- code, constant pool, return type (0 void, 1 int, 2 boolean, 3 long, 4 double, 5 reference), maxLocals, exception table -/
abbrev MI : Type := Chunks × (Nat → Ent) × Nat × Nat × List (Nat × Nat × Nat × Nat)
abbrev pU : Value := .retAddr 0
def mI (μ : PM) (k j : Nat) : Int32 := μ.1 k j
def mJ (μ : PM) (k j : Nat) : Int64 := μ.2.1 k j
def stI (μ : PM) (k j : Nat) (v : Int32) : PM := (fun a b => bif Nat.beq a k && Nat.beq b j then v else μ.1 a b, μ.2)
def stJ (μ : PM) (k j : Nat) (v : Int64) : PM := (μ.1, fun a b => bif Nat.beq a k && Nat.beq b j then v else μ.2.1 a b, μ.2.2)
/-- the layout: what kind of thing a logical number is. 0..9: objects of the classes of vwCl; 20 int array; 21 long array; 22, 23, 24, 26: arrays of corners, organs, players, towns; 25 the script; 27 fixed ints; 28 the kinds; 29 a kind; 30 a text -/
def lyLow : List (Nat × Nat) := [(8, 0), (6, 0), (26, 6), (1, 0), (20, 60), (4, 0), (20, 8), (20, 8), (20, 8), (3, 0), (20, 5), (20, 5), (9, 0), (20, 213), (20, 213), (20, 1278), (20, 60), (20, 32), (20, 8), (20, 5), (20, 6), (20, 6), (21, 1)]
def lyTown (r : Nat) : Nat × Nat :=
  bif Nat.beq r 0 then (7, 0) else bif Nat.beq r 1 then (22, 10) else bif Nat.beq r 2 then (23, 5) else bif Nat.beq r 3 then (24, 8) else bif Nat.beq r 4 then (20, 5)
  else bif Nat.blt r 25 then (bif Nat.beq (r % 2) 1 then (0, 0) else (20, 10)) else bif Nat.blt r 30 then (2, 0) else bif Nat.beq (r % 2) 0 then (5, 0) else (20, 5)
def lyTop (k : Nat) : Nat × Nat :=
  bif Nat.beq k 390 then (25, 0) else bif Nat.beq k 400 then (27, 5) else bif Nat.beq k 402 then (27, 5) else bif Nat.beq k 401 then (28, 5)
  else bif Nat.blt k 410 then (99, 0) else bif Nat.blt k 415 then (29, 0) else bif Nat.blt k 420 then (99, 0) else bif Nat.blt k 430 then (30, 0) else (99, 0)
def ly (k : Nat) : Nat × Nat := bif Nat.blt k 23 then lyLow.getD k (99, 0) else bif Nat.blt k 345 then lyTown ((k - 23) % 46) else lyTop k
def cls (k : Nat) : Nat := (ly k).1
def len (k : Nat) : Nat := (ly k).2
def cst (k i : Nat) : Int32 := (bif Nat.beq k 400 then [99, 9, 50, 100, 50] else [1, 2, 3, 4, 0]).getD i 0
/-- what lies at place i of an array of references -/
def elr (k i : Nat) : Value :=
  bif Nat.beq (cls k) 22 then .ref (k + 4 + 2 * i) else bif Nat.beq (cls k) 23 then .ref (k + 23 + i) else bif Nat.beq (cls k) 24 then .ref (k + 27 + 2 * i)
  else bif Nat.beq (cls k) 26 then .ref (k + 67 + 46 * i) else .ref (k + 9 + i)
/-- an index within -/
def inb (i : Int32) (n : Nat) : Bool := !(decide (i < 0) || Nat.ble n i.toNatClampNeg)
def strs : List (List Int32) := [[108, 111, 116, 115], [108, 111, 116, 115], [119, 101, 116], [119, 101, 116], [100, 114, 121], [100, 114, 121], [110, 101, 120, 116], [110, 101, 120, 116], [48, 58, 97], [52, 58, 106]]
def strLen (k : Nat) : Int32 := Int32.ofNat (strs.getD (k - 420) []).length
def strAt (k i : Nat) : Int32 := (strs.getD (k - 420) []).getD i 0
def noNaN (r : UInt64) : Bool := decide (r &&& 0x7fffffffffffffff ≤ 0x7ff0000000000000)
def lk : List (Nat × Instr × Nat) → Nat → Option (Instr × Nat)
  | [], _ => none
  | (p, i, l) :: r, pc => bif Nat.beq p pc then some (i, l) else lk r pc
def lk2 (cs : Chunks) (pc : Nat) : Option (Instr × Nat) := lk (cs.getD (pc / 32) []) pc
def nx (pc : Nat) (ls st : List Value) (μ : PM) : Option SR := some (.inl (pc, ls, st, μ))
def jp (pc : Nat) (off : Int) (ls st : List Value) (μ : PM) : Option SR := match (pc : Int) + off with
  | .ofNat t => nx t ls st μ
  | .negSucc _ => none
def un32 (f : Int32 → Value) (pc : Nat) (ls st : List Value) (μ : PM) : Option SR := match st with
  | .int x :: r => nx (pc + 1) ls (f x :: r) μ
  | _ => none
def un64 (f : Int64 → Value) (pc : Nat) (ls st : List Value) (μ : PM) : Option SR := match st with
  | .long x :: r => nx (pc + 1) ls (f x :: r) μ
  | _ => none
def b32 (f : Int32 → Int32 → Int32) (pc : Nat) (ls st : List Value) (μ : PM) : Option SR := match st with
  | .int y :: .int x :: r => nx (pc + 1) ls (.int (f x y) :: r) μ
  | _ => none
def b32n (f : Int32 → Int32 → Int32) (pc : Nat) (ls st : List Value) (μ : PM) : Option SR := match st with
  | .int y :: .int x :: r => if ¬ y = 0 then nx (pc + 1) ls (.int (f x y) :: r) μ else none
  | _ => none
def b64 (f : Int64 → Int64 → Value) (pc : Nat) (ls st : List Value) (μ : PM) : Option SR := match st with
  | .long y :: .long x :: r => nx (pc + 1) ls (f x y :: r) μ
  | _ => none
def b64n (f : Int64 → Int64 → Value) (pc : Nat) (ls st : List Value) (μ : PM) : Option SR := match st with
  | .long y :: .long x :: r => if ¬ y = 0 then nx (pc + 1) ls (f x y :: r) μ else none
  | _ => none
def bD (f : UInt64 → UInt64 → UInt64) (pc : Nat) (ls st : List Value) (μ : PM) : Option SR := match st with
  | .double y :: .double x :: r => if noNaN (f x y) = true then nx (pc + 1) ls (.double (f x y) :: r) μ else none
  | _ => none
def if1 (c : ClassFile.Cond) (pc : Nat) (off : Int) (ls st : List Value) (μ : PM) : Option SR := match st with
  | .int x :: r => (match c with
    | .eq => if x = 0 then jp pc off ls r μ else nx (pc + 3) ls r μ
    | .ne => if ¬ x = 0 then jp pc off ls r μ else nx (pc + 3) ls r μ
    | .lt => if x < 0 then jp pc off ls r μ else nx (pc + 3) ls r μ
    | .ge => if 0 ≤ x then jp pc off ls r μ else nx (pc + 3) ls r μ
    | .gt => if 0 < x then jp pc off ls r μ else nx (pc + 3) ls r μ
    | .le => if x ≤ 0 then jp pc off ls r μ else nx (pc + 3) ls r μ)
  | _ => none
def if2 (c : ClassFile.Cond) (pc : Nat) (off : Int) (ls st : List Value) (μ : PM) : Option SR := match st with
  | .int y :: .int x :: r => (match c with
    | .eq => if x = y then jp pc off ls r μ else nx (pc + 3) ls r μ
    | .ne => if ¬ x = y then jp pc off ls r μ else nx (pc + 3) ls r μ
    | .lt => if x < y then jp pc off ls r μ else nx (pc + 3) ls r μ
    | .ge => if y ≤ x then jp pc off ls r μ else nx (pc + 3) ls r μ
    | .gt => if y < x then jp pc off ls r μ else nx (pc + 3) ls r μ
    | .le => if x ≤ y then jp pc off ls r μ else nx (pc + 3) ls r μ)
  | _ => none
def ifn (neg : Bool) (pc : Nat) (off : Int) (ls st : List Value) (μ : PM) : Option SR := match st with
  | .ref _ :: r => bif neg then jp pc off ls r μ else nx (pc + 3) ls r μ
  | .null :: r => bif neg then nx (pc + 3) ls r μ else jp pc off ls r μ
  | _ => none
/-- references are compared where both are kinds -/
def ifa (pc : Nat) (off : Int) (ls st : List Value) (μ : PM) : Option SR := match st with
  | .ref y :: .ref x :: r => if cls x = 29 ∧ cls y = 29 then (if ¬ x = y then jp pc off ls r μ else nx (pc + 3) ls r μ) else none
  | _ => none
def ldI (pc l i : Nat) (ls st : List Value) (μ : PM) : Option SR := match ls[i]? with
  | some (.int x) => nx (pc + l) ls (.int x :: st) μ
  | _ => none
def ldJ (pc l i : Nat) (ls st : List Value) (μ : PM) : Option SR := match ls[i]? with
  | some (.long x) => nx (pc + l) ls (.long x :: st) μ
  | _ => none
def ldD (pc l i : Nat) (ls st : List Value) (μ : PM) : Option SR := match ls[i]? with
  | some (.double x) => nx (pc + l) ls (.double x :: st) μ
  | _ => none
def ldA (pc l i : Nat) (ls st : List Value) (μ : PM) : Option SR := match ls[i]? with
  | some (.ref x) => nx (pc + l) ls (.ref x :: st) μ
  | some .null => nx (pc + l) ls (.null :: st) μ
  | _ => none
/-- the local ahead holds no long or double -/
def okS (ls : List Value) (i : Nat) : Bool := match i with
  | 0 => true
  | j + 1 => match ls[j]? with
    | some (.long _) => false
    | some (.double _) => false
    | _ => true
def st1 (pc l i : Nat) (v : Value) (ls st : List Value) (μ : PM) : Option SR := bif Nat.blt i ls.length && okS ls i then nx (pc + l) (ls.set i v) st μ else none
def st2 (pc l i : Nat) (v : Value) (ls st : List Value) (μ : PM) : Option SR := bif Nat.blt (i + 1) ls.length && okS ls i then nx (pc + l) ((ls.set i v).set (i + 1) pU) st μ else none
def stoI (pc l i : Nat) (ls st : List Value) (μ : PM) : Option SR := match st with
  | .int x :: r => st1 pc l i (.int x) ls r μ
  | _ => none
def stoA (pc l i : Nat) (ls st : List Value) (μ : PM) : Option SR := match st with
  | .ref x :: r => st1 pc l i (.ref x) ls r μ
  | .null :: r => st1 pc l i .null ls r μ
  | _ => none
def stoJ (pc l i : Nat) (ls st : List Value) (μ : PM) : Option SR := match st with
  | .long x :: r => st2 pc l i (.long x) ls r μ
  | _ => none
def stoD (pc l i : Nat) (ls st : List Value) (μ : PM) : Option SR := match st with
  | .double x :: r => st2 pc l i (.double x) ls r μ
  | _ => none
def incI (pc i : Nat) (n : Int) (ls st : List Value) (μ : PM) : Option SR := match ls[i]? with
  | some (.int x) => st1 pc 3 i (.int (x + Int32.ofInt n)) ls st μ
  | _ => none
def alI (pc : Nat) (ls st : List Value) (μ : PM) : Option SR := match st with
  | .int i :: .ref k :: r =>
    if cls k = 20 ∧ inb i (len k) = true then nx (pc + 1) ls (.int (mI μ k i.toNatClampNeg) :: r) μ
    else if cls k = 25 ∧ inb i μ.2.2.1 = true then nx (pc + 1) ls (.int (mI μ k i.toNatClampNeg) :: r) μ
    else if cls k = 27 ∧ inb i (len k) = true then nx (pc + 1) ls (.int (cst k i.toNatClampNeg) :: r) μ else none
  | _ => none
def alJ (pc : Nat) (ls st : List Value) (μ : PM) : Option SR := match st with
  | .int i :: .ref k :: r => if cls k = 21 ∧ inb i (len k) = true then nx (pc + 1) ls (.long (mJ μ k i.toNatClampNeg) :: r) μ else none
  | _ => none
def isRA (c : Nat) : Bool := Nat.beq c 22 || Nat.beq c 23 || Nat.beq c 24 || Nat.beq c 26 || Nat.beq c 28
def alA (pc : Nat) (ls st : List Value) (μ : PM) : Option SR := match st with
  | .int i :: .ref k :: r => if isRA (cls k) = true ∧ inb i (len k) = true then nx (pc + 1) ls (elr k i.toNatClampNeg :: r) μ else none
  | _ => none
def asI (pc : Nat) (ls st : List Value) (μ : PM) : Option SR := match st with
  | .int v :: .int i :: .ref k :: r => if cls k = 20 ∧ inb i (len k) = true then nx (pc + 1) ls r (stI μ k i.toNatClampNeg v) else none
  | _ => none
def asJ (pc : Nat) (ls st : List Value) (μ : PM) : Option SR := match st with
  | .long v :: .int i :: .ref k :: r => if cls k = 21 ∧ inb i (len k) = true then nx (pc + 1) ls r (stJ μ k i.toNatClampNeg v) else none
  | _ => none
def arl (pc : Nat) (ls st : List Value) (μ : PM) : Option SR := match st with
  | .ref k :: r => if cls k = 25 then nx (pc + 1) ls (.int (Int32.ofNat μ.2.2.1) :: r) μ else if cls k = 28 then nx (pc + 1) ls (.int (Int32.ofNat (len k)) :: r) μ else none
  | _ => none
/-- pool entries: (0, class, slot): an int field; 1: a boolean one; 2: a long one; 3: a reference, at so far behind; 8: a text of a kind; 6: a constant; 7: an exception's class; 4: an instance method (number, arguments, class of the receiver); 9: a static one; 5: a method of the JDK's -/
def gtf (pl : Nat → Ent) (pc ix : Nat) (ls st : List Value) (μ : PM) : Option SR := match st with
  | .ref k :: r => (match pl ix with
    | (0, ci, j, _) => if cls k = ci then nx (pc + 3) ls (.int (mI μ k j) :: r) μ else none
    | (1, ci, j, _) => if cls k = ci then nx (pc + 3) ls (.int (mI μ k j) :: r) μ else none
    | (2, ci, j, _) => if cls k = ci then nx (pc + 3) ls (.long (mJ μ k j) :: r) μ else none
    | (3, ci, _, .ref o) => if cls k = ci then nx (pc + 3) ls (.ref (k + o) :: r) μ else none
    | (8, ci, j, _) => if cls k = ci then nx (pc + 3) ls (.ref (420 + 2 * (k - 410) + j) :: r) μ else none
    | _ => none)
  | _ => none
def ptf (pl : Nat → Ent) (pc ix : Nat) (ls st : List Value) (μ : PM) : Option SR := match st with
  | .int v :: .ref k :: r => (match pl ix with
    | (0, ci, j, _) => if cls k = ci then nx (pc + 3) ls r (stI μ k j v) else none
    | (1, ci, j, _) => if cls k = ci ∧ (v = 0 ∨ v = 1) then nx (pc + 3) ls r (stI μ k j v) else none
    | _ => none)
  | .long v :: .ref k :: r => (match pl ix with
    | (2, ci, j, _) => if cls k = ci then nx (pc + 3) ls r (stJ μ k j v) else none
    | _ => none)
  | _ => none
/-- arraycopy between int arrays -/
def cpI (μ : PM) (a i b j n : Nat) : PM := (fun x y => bif Nat.beq x b && Nat.ble j y && Nat.blt y (j + n) then μ.1 a (i + (y - j)) else μ.1 x y, μ.2)
def jdk (id pc : Nat) (ls st : List Value) (μ : PM) : Option SR := match id with
  | 0 => (match st with | .int y :: .int x :: r => nx (pc + 3) ls (.int (if x < y then y else x) :: r) μ | _ => none)
  | 1 => (match st with | .int y :: .int x :: r => nx (pc + 3) ls (.int (if y < x then y else x) :: r) μ | _ => none)
  | 2 => (match st with | .int x :: r => nx (pc + 3) ls (.int (if 0 ≤ x then x else -x) :: r) μ | _ => none)
  | 3 => (match st with
    | .int n :: .int j :: .ref b :: .int i :: .ref a :: r => if cls a = 20 ∧ cls b = 20 ∧ ¬ a = b ∧ i = 0 ∧ j = 0 ∧ ¬ n < 0 ∧ n.toNatClampNeg ≤ len a ∧ n.toNatClampNeg ≤ len b then nx (pc + 3) ls r (cpI μ a 0 b 0 n.toNatClampNeg) else none
    | _ => none)
  | 4 => (match st with | .double x :: r => if noNaN x = true then nx (pc + 3) ls (.long x.toInt64 :: r) μ else none | _ => none)
  | 5 => (match st with | .ref k :: r => if cls k = 30 then nx (pc + 3) ls (.int (strLen k) :: r) μ else none | _ => none)
  | 6 => (match st with | .int i :: .ref k :: r => if cls k = 30 ∧ inb i (strs.getD (k - 420) []).length = true then nx (pc + 3) ls (.int (strAt k i.toNatClampNeg) :: r) μ else none | _ => none)
  | 7 => (match st with | .ref k :: r => if cls k = 29 then nx (pc + 3) ls (.int (Int32.ofNat (k - 410)) :: r) μ else none | _ => none)
  | _ => none
def ivV (pl : Nat → Ent) (pc ix : Nat) (ls st : List Value) (μ : PM) : Option SR := match pl ix with
  | (4, n, na, .ref ci) => (match st[na - 1]? with
    | some (.ref k) => if cls k = ci then some (.inr (.inl (n, (st.take na).reverse, pc, ls, st.drop na, μ))) else none
    | _ => none)
  | (5, id, _, _) => jdk id pc ls st μ
  | _ => none
def ivS (pl : Nat → Ent) (pc ix : Nat) (ls st : List Value) (μ : PM) : Option SR := match pl ix with
  | (9, n, na, _) => bif Nat.ble na st.length then some (.inr (.inl (n, (st.take na).reverse, pc, ls, st.drop na, μ))) else none
  | (5, id, _, _) => jdk id pc ls st μ
  | _ => none
/-- new E("..") and its throw, at one go -/
def thr (cs : Chunks) (pl : Nat → Ent) (pc ix : Nat) (st : List Value) (μ : PM) : Option SR := match pl ix with
  | (7, kind, _, _) => (match lk2 cs (pc + 3) with
    | some (.dup, 1) => (match lk2 cs (pc + 4) with
      | some (.ldc _, 2) => (match lk2 cs (pc + 6), lk2 cs (pc + 9) with
        | some (.invokespecial _, 3), some (.athrow, 1) => bif st.isEmpty then some (.inr (.inr (.inr kind, (μ.1, μ.2.1, μ.2.2.1, μ.2.2.2 + 1)))) else none
        | _, _ => none)
      | some (.ldc_w _, 3) => (match lk2 cs (pc + 7), lk2 cs (pc + 10) with
        | some (.invokespecial _, 3), some (.athrow, 1) => bif st.isEmpty then some (.inr (.inr (.inr kind, (μ.1, μ.2.1, μ.2.2.1, μ.2.2.2 + 1)))) else none
        | _, _ => none)
      | _ => none)
    | _ => none)
  | _ => none
def ldcE (pl : Nat → Ent) (pc l ix : Nat) (ls st : List Value) (μ : PM) : Option SR := match pl ix with
  | (6, _, _, v) => nx (pc + l) ls (v :: st) μ
  | _ => none
def dn (v : Option Value) (μ : PM) : Option SR := some (.inr (.inr (.inl v, μ)))
def irt (rt : Nat) (st : List Value) (μ : PM) : Option SR := match st with
  | .int x :: [] => (match rt with
    | 1 => dn (some (.int x)) μ
    | 2 => if x = 0 ∨ x = 1 then dn (some (.int x)) μ else none
    | _ => none)
  | _ => none
def jrt (rt : Nat) (st : List Value) (μ : PM) : Option SR := match rt, st with
  | 3, .long x :: [] => dn (some (.long x)) μ
  | _, _ => none
def drt (rt : Nat) (st : List Value) (μ : PM) : Option SR := match rt, st with
  | 4, .double x :: [] => dn (some (.double x)) μ
  | _, _ => none
def art (rt : Nat) (st : List Value) (μ : PM) : Option SR := match rt, st with
  | 5, .ref x :: [] => dn (some (.ref x)) μ
  | 5, .null :: [] => dn (some .null) μ
  | _, _ => none
def vrt (rt : Nat) (st : List Value) (μ : PM) : Option SR := match rt, st with
  | 0, [] => dn none μ
  | _, _ => none
def tsw (pc : Nat) (d lo hi : Int) (os : Array Int) (ls st : List Value) (μ : PM) : Option SR := match st with
  | .int x :: r => if x.toInt < lo ∨ hi < x.toInt then jp pc d ls r μ else (match os.toList[(x.toInt - lo).toNat]? with
    | some o => jp pc o ls r μ
    | none => none)
  | _ => none
def lsw (pc : Nat) (d : Int) (ps : Array (Int × Int)) (ls st : List Value) (μ : PM) : Option SR := match st with
  | .int x :: r => jp pc (Op.lookupswitch.offset ps.toList d x.toInt) ls r μ
  | _ => none
def cat1 (v : Value) : Bool := match v with
  | .long _ => false
  | .double _ => false
  | _ => true
def dp (pc : Nat) (ls st : List Value) (μ : PM) : Option SR := match st with
  | a :: r => bif cat1 a then nx (pc + 1) ls (a :: a :: r) μ else none
  | _ => none
def dp2 (pc : Nat) (ls st : List Value) (μ : PM) : Option SR := match st with
  | a :: b :: r => bif cat1 a && cat1 b then nx (pc + 1) ls (a :: b :: a :: b :: r) μ else none
  | _ => none
def pp (pc : Nat) (ls st : List Value) (μ : PM) : Option SR := match st with
  | a :: r => bif cat1 a then nx (pc + 1) ls r μ else none
  | _ => none
def pex (M : MI) (i : Instr) (l pc : Nat) (ls st : List Value) (μ : PM) : Option SR := match i with
  | .aaload => alA pc ls st μ
  | .aconst_null => nx (pc + 1) ls (.null :: st) μ
  | .aload k => ldA pc 2 k ls st μ
  | .aload_n k => ldA pc 1 k ls st μ
  | .areturn => art M.2.2.1 st μ
  | .arraylength => arl pc ls st μ
  | .astore k => stoA pc 2 k ls st μ
  | .astore_n k => stoA pc 1 k ls st μ
  | .bipush n => nx (pc + 2) ls (.int (Int8.ofInt n).toInt32 :: st) μ
  | .d2l => (match st with | .double x :: r => nx (pc + 1) ls (.long (FP.d2l x) :: r) μ | _ => none)
  | .dcmp op => (match st with | .double y :: .double x :: r => nx (pc + 1) ls (.int (Op.cmpValue (FP.dcmp x y) op) :: r) μ | _ => none)
  | .dconst 0 => nx (pc + 1) ls (.double FP.dconst0 :: st) μ
  | .dconst 1 => nx (pc + 1) ls (.double FP.dconst1 :: st) μ
  | .ddiv => bD FP.ddiv pc ls st μ
  | .dload k => ldD pc 2 k ls st μ
  | .dload_n k => ldD pc 1 k ls st μ
  | .dmul => bD FP.dmul pc ls st μ
  | .dreturn => drt M.2.2.1 st μ
  | .dstore k => stoD pc 2 k ls st μ
  | .dstore_n k => stoD pc 1 k ls st μ
  | .dsub => bD FP.dsub pc ls st μ
  | .dup => dp pc ls st μ
  | .dup2 => dp2 pc ls st μ
  | .getfield ix => gtf M.2.1 pc ix ls st μ
  | .getstatic ix => ldcE M.2.1 pc 3 ix ls st μ
  | .goto off => jp pc off ls st μ
  | .i2d => un32 (fun x => .double (FP.i2d x)) pc ls st μ
  | .i2l => un32 (fun x => .long x.toInt64) pc ls st μ
  | .iadd => b32 (fun x y => x + y) pc ls st μ
  | .iaload => alI pc ls st μ
  | .iand => b32 (fun x y => x &&& y) pc ls st μ
  | .iastore => asI pc ls st μ
  | .iconst n => nx (pc + 1) ls (.int (Int32.ofInt n) :: st) μ
  | .idiv => b32n (fun x y => x / y) pc ls st μ
  | .if_acmp .ne off => ifa pc off ls st μ
  | .if_icmp c off => if2 c pc off ls st μ
  | .ifCond c off => if1 c pc off ls st μ
  | .ifnonnull off => ifn true pc off ls st μ
  | .ifnull off => ifn false pc off ls st μ
  | .iinc k n => bif Nat.beq l 3 then incI pc k n ls st μ else none
  | .iload k => ldI pc 2 k ls st μ
  | .iload_n k => ldI pc 1 k ls st μ
  | .imul => b32 (fun x y => x * y) pc ls st μ
  | .ineg => un32 (fun x => .int (-x)) pc ls st μ
  | .invokestatic ix => ivS M.2.1 pc ix ls st μ
  | .invokevirtual ix => ivV M.2.1 pc ix ls st μ
  | .ior => b32 (fun x y => x ||| y) pc ls st μ
  | .irem => b32n (fun x y => x - x / y * y) pc ls st μ
  | .ireturn => irt M.2.2.1 st μ
  | .ishl => b32 (fun x y => x <<< (y &&& 31)) pc ls st μ
  | .ishr => b32 (fun x y => x >>> (y &&& 31)) pc ls st μ
  | .istore k => stoI pc 2 k ls st μ
  | .istore_n k => stoI pc 1 k ls st μ
  | .isub => b32 (fun x y => x - y) pc ls st μ
  | .ixor => b32 (fun x y => x ^^^ y) pc ls st μ
  | .l2d => un64 (fun x => .double (FP.l2d x)) pc ls st μ
  | .l2i => un64 (fun x => .int x.toInt32) pc ls st μ
  | .ladd => b64 (fun x y => .long (x + y)) pc ls st μ
  | .laload => alJ pc ls st μ
  | .lastore => asJ pc ls st μ
  | .lcmp => b64 (fun x y => .int (lg_cmp x y)) pc ls st μ
  | .lconst k => nx (pc + 1) ls (.long (Int64.ofNat (k : Nat)) :: st) μ
  | .ldc ix => ldcE M.2.1 pc 2 ix ls st μ
  | .ldc_w ix => ldcE M.2.1 pc 3 ix ls st μ
  | .ldc2_w ix => ldcE M.2.1 pc 3 ix ls st μ
  | .lload k => ldJ pc 2 k ls st μ
  | .lload_n k => ldJ pc 1 k ls st μ
  | .lmul => b64 (fun x y => .long (x * y)) pc ls st μ
  | .lookupswitch d ps => lsw pc d ps ls st μ
  | .lrem => b64n (fun x y => .long (x - x / y * y)) pc ls st μ
  | .lreturn => jrt M.2.2.1 st μ
  | .lshl => (match st with | .int y :: .long x :: r => nx (pc + 1) ls (.long (x <<< (y.toInt64 &&& 63)) :: r) μ | _ => none)
  | .lstore k => stoJ pc 2 k ls st μ
  | .lstore_n k => stoJ pc 1 k ls st μ
  | .lsub => b64 (fun x y => .long (x - y)) pc ls st μ
  | .new ix => thr M.1 M.2.1 pc ix st μ
  | .pop => pp pc ls st μ
  | .putfield ix => ptf M.2.1 pc ix ls st μ
  | .return_ => vrt M.2.2.1 st μ
  | .sipush n => nx (pc + 3) ls (.int (Int16.ofInt n).toInt32 :: st) μ
  | .tableswitch d lo hi os => tsw pc d lo hi os ls st μ
  | _ => none
def pstep (M : MI) (s : PS) : Option SR := match s with
  | (pc, ls, st, μ) => match lk2 M.1 pc with
    | none => none
    | some (i, l) => pex M i l pc ls st μ
def pblk (M : MI) : Nat → PS → Option SR
  | 0, s => pstep M s
  | n + 1, s => match pstep M s with
    | some (.inl s') => pblk M n s'
    | r => r
def hfind : List (Nat × Nat × Nat × Nat) → Nat → Nat → Option Nat
  | [], _, _ => none
  | (a, b, h, k) :: r, pc, kind => bif Nat.ble a pc && Nat.blt pc b && Nat.beq k kind then some h else hfind r pc kind
/-- behind a call -/
def aft (M : MI) (pc : Nat) (ls st : List Value) (o : PO) : Option SR := match o with
  | (.inl (some v), μ) => nx (pc + 3) ls (v :: st) μ
  | (.inl none, μ) => nx (pc + 3) ls st μ
  | (.inr k, μ) => match hfind M.2.2.2.2 pc k with
    | none => some (.inr (.inr (.inr k, μ)))
    | some h => match lk2 M.1 h with
      | some (.astore n, _) => st1 h 2 n pU ls [] μ
      | some (.astore_n n, _) => st1 h 1 n pU ls [] μ
      | _ => none
/-- the arguments as locals -/
def layA : List Value → List Value
  | [] => []
  | v :: vs => bif cat1 v then v :: layA vs else v :: pU :: layA vs
def entryL (n : Nat) (as : List Value) : List Value := layA as ++ List.replicate (n - (layA as).length) pU
end PINT
end
section
/-! THE CODE TABLES, by program (wip/whole/gen.py) out of the names and the listing -/
section CODE
def plk : List (Nat × Ent) → Nat → Ent
  | [], _ => (99, 0, 0, .null)
  | (i, e) :: r, j => bif Nat.beq i j then e else plk r j
abbrev nX1_copyFrom : Nat := 0
abbrev nX1_isQuietAt : Nat := 1
abbrev nX1_distanceTo : Nat := 2
abbrev nX1_tunesPlayed : Nat := 3
abbrev nX1_noteTune : Nat := 4
abbrev nX1_forgetDay : Nat := 5
abbrev nX2_signCount : Nat := 6
abbrev nX2_fits : Nat := 7
abbrev nX3_kindAt : Nat := 8
abbrev nX3_errorIndex : Nat := 9
abbrev nX3_isWholeRow : Nat := 10
abbrev nX3_organAt : Nat := 11
abbrev nX3_tuneAt : Nat := 12
abbrev nX4_copyFrom : Nat := 13
abbrev nX5_lookAt : Nat := 14
abbrev nX5_leastHindering : Nat := 15
abbrev nX5_hinderedPairs : Nat := 16
abbrev nX5_findMost : Nat := 17
abbrev nX5_takingsOf : Nat := 18
abbrev nX5_nearAhead : Nat := 19
abbrev nX5_findTunes : Nat := 20
abbrev nX5_isFree : Nat := 21
abbrev nX6_reckon : Nat := 22
abbrev nX6_sharePot : Nat := 23
abbrev nX6_giveUnits : Nat := 24
abbrev nX6_giveAllowances : Nat := 25
abbrev nX7_copyFrom : Nat := 26
abbrev nX7_hoursOfDay : Nat := 27
abbrev nX7_forgetDay : Nat := 28
abbrev nX8_save : Nat := 29
abbrev nX8_restore : Nat := 30
abbrev nX9_copyFrom : Nat := 31
abbrev nX9_hasCornerAt : Nat := 32
abbrev nX9_permits : Nat := 33
abbrev nX9_crewSize : Nat := 34
abbrev nX9_organAt : Nat := 35
abbrev nX9_cornerOf : Nat := 36
abbrev nX9_takingsSoFar : Nat := 37
abbrev nX9_ownersSoFar : Nat := 38
abbrev nX9_inAllPots : Nat := 39
abbrev nX9_playersSoFar : Nat := 40
abbrev nX9_weatherMayChange : Nat := 41
abbrev nX9_lotsMayBeDrawn : Nat := 42
abbrev nX9_drawLots : Nat := 43
abbrev nX9_takeCornersBack : Nat := 44
abbrev nX9_draw : Nat := 45
abbrev nX9_freeCorner : Nat := 46
abbrev nX9_areNear : Nat := 47
abbrev nX9_tunesHeardAt : Nat := 48
abbrev nX9_reasonAgainstAll : Nat := 49
abbrev nX9_reasonAgainst : Nat := 50
abbrev nX9_playableTunes : Nat := 51
abbrev nX9_playedNear : Nat := 52
abbrev nX9_takingsFor : Nat := 53
abbrev nX9_playTune : Nat := 54
abbrev nX9_divideTakings : Nat := 55
abbrev nX9_addHourOfCrew : Nat := 56
abbrev nX9_endHour : Nat := 57
abbrev nX9_payOut : Nat := 58
abbrev nX9_beginDay : Nat := 59
abbrev nX10_addCorner : Nat := 60
abbrev nX10_addOrgan : Nat := 61
abbrev nX10_addPlayer : Nat := 62
abbrev nX10_permit : Nat := 63
abbrev nX10_barrel : Nat := 64
abbrev nX10_assign : Nat := 65
abbrev nX10_set : Nat := 66
abbrev nX10_lots : Nat := 67
abbrev nX10_weather : Nat := 68
abbrev nX10_play : Nat := 69
abbrev nX10_next : Nat := 70
abbrev nX10_append : Nat := 71
abbrev nX10_clearBuffer : Nat := 72
abbrev nX10_firstError : Nat := 73
abbrev nX10_run : Nat := 74
abbrev nX10_undo : Nat := 75
abbrev nX10_corner : Nat := 76
abbrev nX10_organ : Nat := 77
abbrev nX10_player : Nat := 78
abbrev nX10_hours : Nat := 79
abbrev nX10_count : Nat := 80
abbrev nX10_setting : Nat := 81
abbrev nX10_whyNot : Nat := 82
abbrev nX10_ifPlayed : Nat := 83
abbrev nX10_kindestTune : Nat := 84
abbrev nX10_most : Nat := 85
abbrev nX10_ifEnded : Nat := 86
abbrev nX10_playersShare : Nat := 87
abbrev nX10_digest : Nat := 88
abbrev nX10_requireIndex : Nat := 89
abbrev nX10_requireInRange : Nat := 90
abbrev nX10_requireState : Nat := 91
abbrev nX10_asNumber : Nat := 92
abbrev nX10_holds : Nat := 93
abbrev nX10_obey : Nat := 94
abbrev nX10_obeyPlay : Nat := 95
abbrev nX10_mixed : Nat := 96
abbrev nX10_withCorner : Nat := 97
abbrev nX10_withOrgan : Nat := 98
abbrev nX10_withPlayer : Nat := 99
abbrev nX10_withText : Nat := 100
abbrev nX10_bitsOfShare : Nat := 101
abbrev nX11_thrown : Nat := 102
abbrev nX11_fails : Nat := 103
abbrev nX11_within : Nat := 104
abbrev nX11_isCorner : Nat := 105
abbrev nX11_isOrgan : Nat := 106
abbrev nX11_isPlayer : Nat := 107
abbrev nX11_corner0 : Nat := 108
abbrev nX11_organ0 : Nat := 109
abbrev nX11_player0 : Nat := 110
abbrev nX11_cornerOf : Nat := 111
abbrev nX11_tuneIn : Nat := 112
abbrev nX11_save : Nat := 113
abbrev nX11_keep : Nat := 114
abbrev nX11_bring : Nat := 115
abbrev nX11_addCorner : Nat := 116
abbrev nX11_addOrgan : Nat := 117
abbrev nX11_addPlayer : Nat := 118
abbrev nX11_permits : Nat := 119
abbrev nX11_permit : Nat := 120
abbrev nX11_barrel : Nat := 121
abbrev nX11_assign : Nat := 122
abbrev nX11_mostOf : Nat := 123
abbrev nX11_set : Nat := 124
abbrev nX11_playedToday : Nat := 125
abbrev nX11_draw : Nat := 126
abbrev nX11_whoHas : Nat := 127
abbrev nX11_freeCorners : Nat := 128
abbrev nX11_freeAt : Nat := 129
abbrev nX11_withCorner : Nat := 130
abbrev nX11_noCorners : Nat := 131
abbrev nX11_mayDraw : Nat := 132
abbrev nX11_drawLots : Nat := 133
abbrev nX11_lots : Nat := 134
abbrev nX11_weather : Nat := 135
abbrev nX11_isQuiet : Nat := 136
abbrev nX11_areNear : Nat := 137
abbrev nX11_heardAt : Nat := 138
abbrev nX11_crewOf : Nat := 139
abbrev nX11_reason : Nat := 140
abbrev nX11_othersNear : Nat := 141
abbrev nX11_takings : Nat := 142
abbrev nX11_plays : Nat := 143
abbrev nX11_play : Nat := 144
abbrev nX11_timeAt : Nat := 145
abbrev nX11_timeToday : Nat := 146
abbrev nX11_sharePot : Nat := 147
abbrev nX11_endDay : Nat := 148
abbrev nX11_goOn : Nat := 149
abbrev nX11_next : Nat := 150
abbrev nX11_append : Nat := 151
abbrev nX11_clearBuffer : Nat := 152
abbrev nX11_goes : Nat := 153
abbrev nX11_ends : Nat := 154
abbrev nX11_begins : Nat := 155
abbrev nX11_takes : Nat := 156
abbrev nX11_read : Nat := 157
abbrev nX11_firstError : Nat := 158
abbrev nX11_mayDo : Nat := 159
abbrev nX11_does : Nat := 160
abbrev nX11_run : Nat := 161
abbrev nX11_undo : Nat := 162
abbrev nX11_playedAt : Nat := 163
abbrev nX11_cornerNow : Nat := 164
abbrev nX11_corner : Nat := 165
abbrev nX11_organNow : Nat := 166
abbrev nX11_organ : Nat := 167
abbrev nX11_playerNow : Nat := 168
abbrev nX11_player : Nat := 169
abbrev nX11_hours : Nat := 170
abbrev nX11_ofOrgans : Nat := 171
abbrev nX11_playersGot : Nat := 172
abbrev nX11_counted : Nat := 173
abbrev nX11_count : Nat := 174
abbrev nX11_setting : Nat := 175
abbrev nX11_whyNot : Nat := 176
abbrev nX11_tunesOf : Nat := 177
abbrev nX11_playedNow : Nat := 178
abbrev nX11_ifPlayed : Nat := 179
abbrev nX11_size : Nat := 180
abbrev nX11_pairsBehind : Nat := 181
abbrev nX11_kindestNow : Nat := 182
abbrev nX11_kindestTune : Nat := 183
abbrev nX11_canPick : Nat := 184
abbrev nX11_pickTakings : Nat := 185
abbrev nX11_keepPicks : Nat := 186
abbrev nX11_layMost : Nat := 187
abbrev nX11_most : Nat := 188
abbrev nX11_endedNow : Nat := 189
abbrev nX11_ifEnded : Nat := 190
abbrev nX11_shareNow : Nat := 191
abbrev nX11_playersShare : Nat := 192
abbrev nX11_mix : Nat := 193
abbrev nX11_mixOrgan : Nat := 194
abbrev nX11_mixPlayer : Nat := 195
abbrev nX11_digest : Nat := 196
abbrev nL_addCorner : Nat := 197
abbrev nL_addOrgan : Nat := 198
abbrev nL_addPlayer : Nat := 199
abbrev nL_permit : Nat := 200
abbrev nL_barrel : Nat := 201
abbrev nL_assign : Nat := 202
abbrev nL_set : Nat := 203
abbrev nL_lots : Nat := 204
abbrev nL_weather : Nat := 205
abbrev nL_play : Nat := 206
abbrev nL_append : Nat := 207
abbrev nL_run : Nat := 208
abbrev nL_undo : Nat := 209
abbrev nL_corner : Nat := 210
abbrev nL_organ : Nat := 211
abbrev nL_player : Nat := 212
abbrev nL_hours : Nat := 213
abbrev nL_count : Nat := 214
abbrev nL_setting : Nat := 215
abbrev nL_whyNot : Nat := 216
abbrev nL_ifPlayed : Nat := 217
abbrev nL_kindestTune : Nat := 218
abbrev nL_most : Nat := 219
abbrev nL_ifEnded : Nat := 220
abbrev nL_law : Nat := 221
def plL_L : List (Nat × Ent) := [(7, (4, 60, 5, .ref 8)), (17, (4, 61, 2, .ref 8)), (21, (4, 62, 1, .ref 8)), (25, (4, 63, 3, .ref 8)), (31, (4, 64, 3, .ref 8)), (35, (4, 65, 3, .ref 8)), (38, (4, 66, 3, .ref 8)), (41, (4, 67, 1, .ref 8)), (44, (4, 68, 2, .ref 8)), (48, (4, 69, 3, .ref 8)), (51, (4, 71, 2, .ref 8)), (54, (4, 74, 1, .ref 8)), (57, (4, 75, 1, .ref 8)), (60, (4, 76, 3, .ref 8)), (63, (4, 77, 3, .ref 8)), (66, (4, 78, 3, .ref 8)), (69, (4, 79, 3, .ref 8)), (72, (4, 80, 2, .ref 8)), (75, (4, 81, 2, .ref 8)), (78, (4, 82, 3, .ref 8)), (81, (4, 83, 2, .ref 8)), (84, (4, 84, 2, .ref 8)), (87, (4, 85, 2, .ref 8)), (90, (4, 86, 2, .ref 8)), (97, (9, 197, 6, .null)), (102, (4, 116, 5, .ref 9)), (103, (4, 102, 1, .ref 9)), (106, (9, 198, 3, .null)), (109, (4, 117, 2, .ref 9)), (110, (9, 199, 2, .null)), (113, (4, 118, 1, .ref 9)), (114, (9, 200, 4, .null)), (117, (4, 120, 3, .ref 9)), (118, (9, 201, 4, .null)), (121, (4, 121, 3, .ref 9)), (122, (9, 202, 4, .null)), (124, (4, 122, 3, .ref 9)), (125, (9, 203, 4, .null)), (127, (4, 124, 3, .ref 9)), (128, (9, 204, 2, .null)), (130, (4, 134, 1, .ref 9)), (131, (9, 205, 3, .null)), (134, (4, 135, 2, .ref 9)), (135, (9, 206, 4, .null)), (137, (4, 144, 3, .ref 9)), (138, (4, 70, 1, .ref 8)), (141, (4, 150, 1, .ref 9)), (142, (9, 207, 3, .null)), (144, (4, 151, 2, .ref 9)), (145, (4, 72, 1, .ref 8)), (148, (4, 152, 1, .ref 9)), (149, (4, 73, 1, .ref 8)), (152, (4, 158, 1, .ref 9)), (153, (9, 208, 2, .null)), (155, (4, 161, 1, .ref 9)), (156, (9, 209, 2, .null)), (158, (4, 162, 1, .ref 9)), (159, (9, 210, 4, .null)), (161, (4, 165, 3, .ref 9)), (162, (9, 211, 4, .null)), (164, (4, 167, 3, .ref 9)), (165, (9, 212, 4, .null)), (167, (4, 169, 3, .ref 9)), (168, (9, 213, 4, .null)), (170, (4, 170, 3, .ref 9)), (171, (9, 214, 3, .null)), (173, (4, 174, 2, .ref 9)), (174, (9, 215, 3, .null)), (176, (4, 175, 2, .ref 9)), (177, (9, 216, 4, .null)), (179, (4, 176, 3, .ref 9)), (180, (9, 217, 3, .null)), (182, (4, 179, 2, .ref 9)), (183, (9, 218, 3, .null)), (185, (4, 183, 2, .ref 9)), (186, (9, 219, 3, .null)), (188, (4, 188, 2, .ref 9)), (189, (9, 220, 3, .null)), (191, (4, 190, 2, .ref 9)), (192, (4, 87, 1, .ref 8)), (196, (4, 192, 1, .ref 9)), (197, (4, 88, 1, .ref 8)), (201, (4, 196, 1, .ref 9))]
def pl_L (i : Nat) : Ent := plk plL_L i
def plL_X1 : List (Nat × Ent) := [(9, (3, 0, 4, .ref 1)), (15, (0, 0, 0, .null)), (19, (0, 0, 1, .null)), (22, (0, 0, 2, .null)), (25, (0, 0, 3, .null)), (28, (5, 3, 0, .null)), (34, (5, 2, 0, .null)), (40, (5, 0, 0, .null))]
def pl_X1 (i : Nat) : Ent := plk plL_X1 i
def plL_X10 : List (Nat × Ent) := [(10, (3, 8, 0, .ref 23)), (19, (3, 8, 1, .ref 1)), (26, (3, 8, 2, .ref 3)), (33, (3, 8, 3, .ref 5)), (40, (3, 8, 4, .ref 9)), (44, (9, 90, 3, .null)), (48, (0, 7, 4, .null)), (52, (4, 32, 2, .ref 7)), (56, (9, 91, 1, .null)), (60, (4, 29, 2, .ref 6)), (64, (3, 7, 0, .ref 1)), (68, (0, 0, 0, .null)), (73, (0, 0, 1, .null)), (76, (0, 0, 2, .null)), (79, (0, 0, 3, .null)), (82, (0, 7, 5, .null)), (85, (3, 7, 1, .ref 2)), (89, (0, 2, 0, .null)), (94, (0, 7, 6, .null)), (97, (9, 89, 2, .null)), (101, (1, 2, 1, .null)), (105, (4, 33, 1, .ref 7)), (109, (0, 2, 2, .null)), (112, (3, 7, 2, .ref 3)), (116, (0, 5, 0, .null)), (121, (6, 0, 0, .ref 400)), (125, (3, 7, 3, .ref 4)), (128, (4, 42, 1, .ref 7)), (132, (4, 43, 1, .ref 7)), (135, (4, 41, 1, .ref 7)), (138, (1, 7, 9, .null)), (141, (9, 92, 1, .null)), (145, (4, 50, 3, .ref 7)), (149, (4, 54, 3, .ref 7)), (152, (4, 57, 2, .ref 7)), (156, (0, 7, 8, .null)), (159, (0, 1, 1, .null)), (162, (3, 1, 0, .ref 1)), (165, (4, 9, 1, .ref 1)), (168, (4, 10, 1, .ref 1)), (171, (7, 1, 0, .null)), (178, (4, 8, 2, .ref 1)), (182, (4, 94, 3, .ref 8)), (186, (4, 6, 1, .ref 29)), (191, (0, 6, 2, .null)), (194, (4, 30, 2, .ref 6)), (197, (4, 1, 2, .ref 0)), (200, (4, 35, 2, .ref 7)), (204, (4, 3, 3, .ref 0)), (207, (4, 48, 2, .ref 7)), (211, (0, 2, 3, .null)), (214, (4, 34, 2, .ref 7)), (217, (0, 2, 4, .null)), (220, (0, 2, 5, .null)), (223, (0, 2, 6, .null)), (226, (0, 2, 7, .null)), (229, (4, 27, 1, .ref 5)), (232, (0, 5, 1, .null)), (235, (0, 5, 2, .null)), (238, (0, 5, 3, .null)), (241, (3, 5, 4, .ref 1)), (244, (0, 7, 7, .null)), (247, (0, 7, 10, .null)), (250, (0, 7, 11, .null)), (253, (0, 7, 12, .null)), (256, (4, 37, 1, .ref 7)), (259, (0, 7, 13, .null)), (262, (0, 7, 14, .null)), (265, (4, 38, 1, .ref 7)), (268, (4, 39, 1, .ref 7)), (271, (4, 40, 1, .ref 7)), (274, (4, 51, 2, .ref 7)), (277, (4, 52, 2, .ref 7)), (280, (4, 53, 3, .ref 7)), (283, (4, 14, 2, .ref 3)), (286, (4, 15, 3, .ref 3)), (290, (4, 17, 2, .ref 3)), (293, (0, 3, 2, .null)), (296, (0, 3, 3, .null)), (299, (4, 22, 2, .ref 4)), (302, (3, 4, 0, .ref 1)), (305, (3, 4, 1, .ref 2)), (308, (6, 0, 0, .long 2297)), (310, (4, 80, 2, .ref 8)), (312, (9, 96, 2, .null)), (316, (4, 81, 2, .ref 8)), (319, (4, 97, 3, .ref 8)), (323, (4, 98, 3, .ref 8)), (326, (4, 99, 3, .ref 8)), (329, (4, 85, 2, .ref 8)), (332, (4, 87, 1, .ref 8)), (336, (9, 101, 1, .null)), (340, (4, 100, 2, .ref 8)), (344, (7, 3, 0, .null)), (351, (7, 2, 0, .null)), (356, (6, 0, 0, .ref 402)), (361, (5, 7, 0, .null)), (364, (6, 0, 0, .ref 411)), (368, (4, 11, 2, .ref 1)), (369, (4, 12, 2, .ref 1)), (372, (4, 95, 3, .ref 8)), (376, (6, 0, 0, .long 31)), (378, (4, 76, 3, .ref 8)), (380, (4, 77, 3, .ref 8)), (383, (4, 82, 3, .ref 8)), (386, (4, 83, 2, .ref 8)), (389, (4, 84, 2, .ref 8)), (392, (4, 78, 3, .ref 8)), (395, (4, 79, 3, .ref 8)), (398, (4, 86, 2, .ref 8)), (401, (6, 0, 0, .long 1023)), (403, (6, 0, 0, .double 4611686018427387904)), (405, (6, 0, 0, .double 4841369599423283200))]
def pl_X10 (i : Nat) : Ent := plk plL_X10 i
def plL_X11 : List (Nat × Ent) := [(7, (3, 9, 0, .ref 1)), (13, (3, 9, 1, .ref 2)), (16, (3, 9, 2, .ref 3)), (19, (3, 9, 3, .ref 4)), (22, (3, 9, 4, .ref 5)), (25, (3, 9, 5, .ref 6)), (28, (3, 9, 6, .ref 7)), (31, (3, 9, 7, .ref 8)), (34, (3, 9, 8, .ref 9)), (37, (0, 9, 16, .null)), (41, (9, 104, 3, .null)), (45, (4, 109, 3, .ref 9)), (49, (0, 9, 14, .null)), (52, (4, 103, 2, .ref 9)), (56, (4, 108, 3, .ref 9)), (59, (4, 113, 1, .ref 9)), (62, (4, 106, 2, .ref 9)), (66, (4, 119, 1, .ref 9)), (70, (4, 107, 2, .ref 9)), (73, (4, 110, 3, .ref 9)), (76, (9, 123, 1, .null)), (79, (6, 0, 0, .long 1103515245)), (81, (6, 0, 0, .long 12345)), (83, (6, 0, 0, .long 2147483648)), (85, (6, 0, 0, .int 65536)), (86, (4, 111, 2, .ref 9)), (89, (4, 127, 2, .ref 9)), (92, (4, 125, 1, .ref 9)), (95, (4, 131, 1, .ref 9)), (98, (4, 128, 1, .ref 9)), (101, (4, 126, 2, .ref 9)), (104, (4, 129, 2, .ref 9)), (107, (4, 132, 1, .ref 9)), (111, (4, 133, 1, .ref 9)), (114, (4, 130, 1, .ref 9)), (117, (4, 137, 3, .ref 9)), (121, (4, 112, 3, .ref 9)), (124, (4, 139, 2, .ref 9)), (127, (4, 136, 2, .ref 9)), (130, (4, 138, 2, .ref 9)), (133, (4, 141, 2, .ref 9)), (136, (4, 142, 3, .ref 9)), (139, (4, 140, 3, .ref 9)), (142, (4, 143, 3, .ref 9)), (145, (4, 145, 3, .ref 9)), (148, (4, 147, 2, .ref 9)), (152, (4, 146, 2, .ref 9)), (155, (4, 148, 1, .ref 9)), (158, (4, 149, 1, .ref 9)), (161, (0, 9, 15, .null)), (164, (0, 9, 12, .null)), (167, (0, 9, 11, .null)), (170, (4, 153, 3, .ref 9)), (174, (0, 9, 13, .null)), (177, (4, 155, 2, .ref 9)), (180, (4, 154, 3, .ref 9)), (183, (4, 156, 2, .ref 9)), (186, (4, 157, 1, .ref 9)), (189, (4, 159, 2, .ref 9)), (192, (4, 160, 2, .ref 9)), (195, (4, 163, 2, .ref 9)), (198, (4, 105, 2, .ref 9)), (201, (4, 164, 3, .ref 9)), (204, (4, 166, 3, .ref 9)), (207, (4, 168, 3, .ref 9)), (210, (4, 171, 2, .ref 9)), (213, (4, 172, 1, .ref 9)), (216, (4, 173, 2, .ref 9)), (219, (4, 177, 2, .ref 9)), (222, (4, 178, 2, .ref 9)), (225, (9, 180, 1, .null)), (228, (4, 181, 3, .ref 9)), (231, (4, 182, 2, .ref 9)), (234, (0, 9, 9, .null)), (237, (0, 9, 10, .null)), (240, (4, 186, 1, .ref 9)), (243, (4, 184, 2, .ref 9)), (246, (4, 185, 2, .ref 9)), (249, (4, 187, 1, .ref 9)), (252, (4, 114, 1, .ref 9)), (255, (4, 115, 1, .ref 9)), (258, (4, 189, 2, .ref 9)), (261, (4, 191, 1, .ref 9)), (265, (6, 0, 0, .long 31)), (267, (2, 9, 17, .null)), (271, (4, 193, 2, .ref 9)), (275, (6, 0, 0, .long 2297)), (277, (4, 194, 2, .ref 9)), (280, (4, 195, 2, .ref 9)), (283, (5, 4, 0, .null))]
def pl_X11 (i : Nat) : Ent := plk plL_X11 i
def plL_X2 : List (Nat × Ent) := [(38, (8, 29, 0, .null)), (42, (8, 29, 1, .null)), (45, (5, 5, 0, .null)), (51, (5, 6, 0, .null))]
def pl_X2 (i : Nat) : Ent := plk plL_X2 i
def plL_X3 : List (Nat × Ent) := [(9, (3, 1, 0, .ref 1)), (15, (0, 1, 1, .null)), (19, (6, 0, 0, .ref 401)), (23, (4, 7, 3, .ref 29)), (29, (4, 8, 2, .ref 1)), (33, (4, 6, 1, .ref 29)), (37, (4, 9, 1, .ref 1))]
def pl_X3 (i : Nat) : Ent := plk plL_X3 i
def plL_X4 : List (Nat × Ent) := [(9, (0, 2, 3, .null)), (15, (0, 2, 7, .null)), (18, (0, 2, 0, .null)), (21, (1, 2, 1, .null)), (25, (0, 2, 2, .null)), (28, (0, 2, 4, .null)), (31, (0, 2, 5, .null)), (34, (0, 2, 6, .null))]
def pl_X4 (i : Nat) : Ent := plk plL_X4 i
def plL_X5 : List (Nat × Ent) := [(9, (3, 3, 0, .ref 1)), (15, (3, 3, 1, .ref 2)), (18, (0, 7, 5, .null)), (24, (4, 51, 2, .ref 7)), (28, (9, 93, 2, .null)), (32, (4, 16, 4, .ref 3)), (36, (4, 47, 3, .ref 7)), (39, (0, 3, 2, .null)), (42, (0, 3, 3, .null)), (45, (9, 18, 2, .null)), (49, (9, 20, 5, .null)), (53, (4, 52, 2, .ref 7)), (56, (9, 19, 3, .null)), (59, (4, 53, 3, .ref 7)), (63, (9, 21, 5, .null))]
def pl_X5 (i : Nat) : Ent := plk plL_X5 i
def plL_X6 : List (Nat × Ent) := [(9, (3, 4, 0, .ref 1)), (15, (3, 4, 1, .ref 2)), (18, (3, 4, 2, .ref 3)), (21, (0, 7, 5, .null)), (27, (4, 23, 3, .ref 4)), (31, (1, 7, 9, .null)), (35, (4, 25, 2, .ref 4)), (39, (3, 7, 1, .ref 2)), (43, (0, 2, 4, .null)), (48, (0, 7, 6, .null)), (51, (3, 7, 2, .ref 3)), (55, (3, 5, 4, .ref 1)), (60, (4, 24, 3, .ref 4)), (64, (0, 7, 14, .null)), (67, (4, 27, 1, .ref 5)), (71, (3, 7, 3, .ref 4)), (74, (5, 1, 0, .null))]
def pl_X6 (i : Nat) : Ent := plk plL_X6 i
def plL_X7 : List (Nat × Ent) := [(9, (0, 5, 0, .null)), (15, (3, 5, 4, .ref 1)), (19, (0, 5, 1, .null)), (22, (0, 5, 2, .null)), (25, (0, 5, 3, .null)), (28, (5, 3, 0, .null))]
def pl_X7 (i : Nat) : Ent := plk plL_X7 i
def plL_X8 : List (Nat × Ent) := [(11, (3, 6, 0, .ref 1)), (18, (0, 6, 1, .null)), (22, (0, 6, 2, .null)), (25, (4, 31, 2, .ref 7))]
def pl_X8 (i : Nat) : Ent := plk plL_X8 i
def plL_X9 : List (Nat × Ent) := [(11, (3, 7, 0, .ref 1)), (19, (3, 7, 1, .ref 2)), (25, (3, 7, 2, .ref 3)), (29, (3, 7, 3, .ref 4)), (33, (0, 7, 10, .null)), (43, (5, 3, 0, .null)), (49, (4, 0, 2, .ref 0)), (53, (4, 13, 2, .ref 2)), (56, (4, 26, 2, .ref 5)), (59, (0, 7, 4, .null)), (62, (0, 7, 5, .null)), (65, (0, 7, 6, .null)), (68, (0, 7, 7, .null)), (71, (0, 7, 8, .null)), (74, (1, 7, 9, .null)), (78, (0, 7, 11, .null)), (81, (0, 7, 12, .null)), (84, (0, 7, 13, .null)), (87, (0, 7, 14, .null)), (90, (0, 0, 0, .null)), (93, (1, 2, 1, .null)), (96, (0, 5, 0, .null)), (99, (0, 2, 3, .null)), (102, (0, 2, 6, .null)), (105, (0, 2, 5, .null)), (108, (0, 2, 4, .null)), (111, (0, 5, 1, .null)), (114, (4, 44, 1, .ref 7)), (117, (4, 45, 2, .ref 7)), (121, (4, 46, 2, .ref 7)), (124, (6, 0, 0, .long 1103515245)), (126, (6, 0, 0, .long 12345)), (128, (6, 0, 0, .long 2147483648)), (130, (6, 0, 0, .int 65536)), (131, (4, 35, 2, .ref 7)), (134, (4, 36, 2, .ref 7)), (138, (4, 2, 2, .ref 0)), (142, (4, 3, 3, .ref 0)), (146, (4, 34, 2, .ref 7)), (149, (0, 2, 7, .null)), (152, (4, 1, 2, .ref 0)), (156, (4, 49, 2, .ref 7)), (159, (0, 2, 2, .null)), (162, (9, 93, 2, .null)), (166, (4, 48, 2, .ref 7)), (169, (4, 47, 3, .ref 7)), (172, (0, 0, 1, .null)), (175, (5, 0, 0, .null)), (180, (4, 52, 2, .ref 7)), (183, (4, 53, 3, .ref 7)), (186, (4, 55, 3, .ref 7)), (190, (4, 56, 2, .ref 7)), (194, (4, 4, 3, .ref 0)), (198, (0, 2, 0, .null)), (201, (3, 5, 4, .ref 1)), (204, (0, 5, 3, .null)), (207, (4, 22, 2, .ref 4)), (213, (4, 58, 2, .ref 7)), (217, (4, 59, 1, .ref 7)), (220, (3, 4, 1, .ref 2)), (223, (3, 4, 0, .ref 1)), (226, (0, 5, 2, .null)), (229, (4, 5, 1, .ref 0)), (232, (4, 28, 1, .ref 5))]
def pl_X9 (i : Nat) : Ent := plk plL_X9 i
def cd_X1_copyFrom_0 : List (Nat × Instr × Nat) := [(0, .aload_n 0, 1), (1, .aload_n 1, 1), (2, .getfield 15, 3), (5, .putfield 15, 3), (8, .aload_n 0, 1), (9, .aload_n 1, 1), (10, .getfield 19, 3), (13, .putfield 19, 3), (16, .aload_n 0, 1), (17, .aload_n 1, 1), (18, .getfield 22, 3), (21, .putfield 22, 3), (24, .aload_n 0, 1), (25, .aload_n 1, 1), (26, .getfield 25, 3), (29, .putfield 25, 3)]
def cd_X1_copyFrom_1 : List (Nat × Instr × Nat) := [(32, .aload_n 1, 1), (33, .getfield 9, 3), (36, .iconst 0, 1), (37, .aload_n 0, 1), (38, .getfield 9, 3), (41, .iconst 0, 1), (42, .bipush 10, 2), (44, .invokestatic 28, 3), (47, .return_, 1)]
def cd_X1_copyFrom : Chunks := [cd_X1_copyFrom_0, cd_X1_copyFrom_1]
def mi_X1_copyFrom : MI := (cd_X1_copyFrom, pl_X1, 0, 2, [])
def cd_X1_isQuietAt_0 : List (Nat × Instr × Nat) := [(0, .iload_n 1, 1), (1, .aload_n 0, 1), (2, .getfield 22, 3), (5, .isub, 1), (6, .bipush 10, 2), (8, .iadd, 1), (9, .bipush 10, 2), (11, .irem, 1), (12, .aload_n 0, 1), (13, .getfield 25, 3), (16, .if_icmp .ge 7, 3), (19, .iconst 1, 1), (20, .goto 4, 3), (23, .iconst 0, 1), (24, .ireturn, 1)]
def cd_X1_isQuietAt : Chunks := [cd_X1_isQuietAt_0]
def mi_X1_isQuietAt : MI := (cd_X1_isQuietAt, pl_X1, 2, 2, [])
def cd_X1_distanceTo_0 : List (Nat × Instr × Nat) := [(0, .aload_n 0, 1), (1, .getfield 15, 3), (4, .aload_n 1, 1), (5, .getfield 15, 3), (8, .isub, 1), (9, .invokestatic 34, 3), (12, .ireturn, 1)]
def cd_X1_distanceTo : Chunks := [cd_X1_distanceTo_0]
def mi_X1_distanceTo : MI := (cd_X1_distanceTo, pl_X1, 1, 2, [])
def cd_X1_tunesPlayed_0 : List (Nat × Instr × Nat) := [(0, .iconst 0, 1), (1, .istore_n 3, 1), (2, .iload_n 1, 1), (3, .iconst 0, 1), (4, .invokestatic 40, 3), (7, .istore 4, 2), (9, .iload 4, 2), (11, .iload_n 2, 1), (12, .if_icmp .gt 26, 3), (15, .iload 4, 2), (17, .bipush 10, 2), (19, .if_icmp .ge 19, 3), (22, .iload_n 3, 1), (23, .aload_n 0, 1), (24, .getfield 9, 3), (27, .iload 4, 2), (29, .iaload, 1), (30, .ior, 1), (31, .istore_n 3, 1)]
def cd_X1_tunesPlayed_1 : List (Nat × Instr × Nat) := [(32, .iinc 4 1, 3), (35, .goto (-26), 3), (38, .iload_n 3, 1), (39, .ireturn, 1)]
def cd_X1_tunesPlayed : Chunks := [cd_X1_tunesPlayed_0, cd_X1_tunesPlayed_1]
def mi_X1_tunesPlayed : MI := (cd_X1_tunesPlayed, pl_X1, 1, 5, [])
def cd_X1_noteTune_0 : List (Nat × Instr × Nat) := [(0, .iload_n 1, 1), (1, .ifCond .lt 21, 3), (4, .iload_n 1, 1), (5, .bipush 10, 2), (7, .if_icmp .ge 15, 3), (10, .aload_n 0, 1), (11, .getfield 9, 3), (14, .iload_n 1, 1), (15, .dup2, 1), (16, .iaload, 1), (17, .iconst 1, 1), (18, .iload_n 2, 1), (19, .ishl, 1), (20, .ior, 1), (21, .iastore, 1), (22, .return_, 1)]
def cd_X1_noteTune : Chunks := [cd_X1_noteTune_0]
def mi_X1_noteTune : MI := (cd_X1_noteTune, pl_X1, 0, 3, [])
def cd_X1_forgetDay_0 : List (Nat × Instr × Nat) := [(0, .iconst 0, 1), (1, .istore_n 1, 1), (2, .iload_n 1, 1), (3, .bipush 10, 2), (5, .if_icmp .ge 16, 3), (8, .aload_n 0, 1), (9, .getfield 9, 3), (12, .iload_n 1, 1), (13, .iconst 0, 1), (14, .iastore, 1), (15, .iinc 1 1, 3), (18, .goto (-16), 3), (21, .return_, 1)]
def cd_X1_forgetDay : Chunks := [cd_X1_forgetDay_0]
def mi_X1_forgetDay : MI := (cd_X1_forgetDay, pl_X1, 0, 2, [])
def cd_X2_signCount_0 : List (Nat × Instr × Nat) := [(0, .aload_n 0, 1), (1, .getfield 38, 3), (4, .invokevirtual 45, 3), (7, .ireturn, 1)]
def cd_X2_signCount : Chunks := [cd_X2_signCount_0]
def mi_X2_signCount : MI := (cd_X2_signCount, pl_X2, 1, 1, [])
def cd_X2_fits_0 : List (Nat × Instr × Nat) := [(0, .iload_n 1, 1), (1, .ifCond .lt 53, 3), (4, .iload_n 1, 1), (5, .aload_n 0, 1), (6, .getfield 38, 3), (9, .invokevirtual 45, 3), (12, .if_icmp .ge 42, 3), (15, .iload_n 1, 1), (16, .aload_n 0, 1), (17, .getfield 42, 3), (20, .invokevirtual 45, 3), (23, .if_icmp .ge 31, 3), (26, .iload_n 2, 1), (27, .aload_n 0, 1), (28, .getfield 38, 3), (31, .iload_n 1, 1)]
def cd_X2_fits_1 : List (Nat × Instr × Nat) := [(32, .invokevirtual 51, 3), (35, .if_icmp .lt 19, 3), (38, .iload_n 2, 1), (39, .aload_n 0, 1), (40, .getfield 42, 3), (43, .iload_n 1, 1), (44, .invokevirtual 51, 3), (47, .if_icmp .gt 7, 3), (50, .iconst 1, 1), (51, .goto 4, 3), (54, .iconst 0, 1), (55, .ireturn, 1)]
def cd_X2_fits : Chunks := [cd_X2_fits_0, cd_X2_fits_1]
def mi_X2_fits : MI := (cd_X2_fits, pl_X2, 2, 3, [])
def cd_X3_kindAt_0 : List (Nat × Instr × Nat) := [(0, .iload_n 1, 1), (1, .ifCond .lt 11, 3), (4, .iload_n 1, 1), (5, .aload_n 0, 1), (6, .getfield 15, 3), (9, .if_icmp .lt 5, 3), (12, .aconst_null, 1), (13, .areturn, 1), (14, .iconst 0, 1), (15, .istore_n 2, 1), (16, .iload_n 2, 1), (17, .getstatic 19, 3), (20, .arraylength, 1), (21, .if_icmp .ge 33, 3), (24, .getstatic 19, 3), (27, .iload_n 2, 1), (28, .aaload, 1), (29, .iconst 0, 1), (30, .aload_n 0, 1), (31, .getfield 9, 3)]
def cd_X3_kindAt_1 : List (Nat × Instr × Nat) := [(34, .iload_n 1, 1), (35, .iaload, 1), (36, .invokevirtual 23, 3), (39, .ifCond .eq 9, 3), (42, .getstatic 19, 3), (45, .iload_n 2, 1), (46, .aaload, 1), (47, .areturn, 1), (48, .iinc 2 1, 3), (51, .goto (-35), 3), (54, .aconst_null, 1), (55, .areturn, 1)]
def cd_X3_kindAt : Chunks := [cd_X3_kindAt_0, cd_X3_kindAt_1]
def mi_X3_kindAt : MI := (cd_X3_kindAt, pl_X3, 5, 3, [])
def cd_X3_errorIndex_0 : List (Nat × Instr × Nat) := [(0, .iconst 0, 1), (1, .istore_n 1, 1), (2, .iload_n 1, 1), (3, .aload_n 0, 1), (4, .getfield 15, 3), (7, .if_icmp .ge 95, 3), (10, .aload_n 0, 1), (11, .iload_n 1, 1), (12, .invokevirtual 29, 3), (15, .astore_n 2, 1), (16, .aload_n 2, 1), (17, .ifnonnull 5, 3), (20, .iload_n 1, 1), (21, .ireturn, 1), (22, .iload_n 1, 1), (23, .aload_n 2, 1), (24, .invokevirtual 33, 3), (27, .iadd, 1), (28, .istore_n 3, 1), (29, .iload_n 1, 1), (30, .istore 4, 2)]
def cd_X3_errorIndex_1 : List (Nat × Instr × Nat) := [(32, .iload 4, 2), (34, .iload_n 3, 1), (35, .if_icmp .ge 39, 3), (38, .iload 4, 2), (40, .aload_n 0, 1), (41, .getfield 15, 3), (44, .if_icmp .ge 30, 3), (47, .aload_n 2, 1), (48, .iload 4, 2), (50, .iload_n 1, 1), (51, .isub, 1), (52, .aload_n 0, 1), (53, .getfield 9, 3), (56, .iload 4, 2), (58, .iaload, 1), (59, .invokevirtual 23, 3), (62, .ifCond .ne 6, 3)]
def cd_X3_errorIndex_2 : List (Nat × Instr × Nat) := [(65, .iload 4, 2), (67, .ireturn, 1), (68, .iinc 4 1, 3), (71, .goto (-39), 3), (74, .iload_n 3, 1), (75, .aload_n 0, 1), (76, .getfield 15, 3), (79, .if_icmp .ge 16, 3), (82, .aload_n 0, 1), (83, .getfield 9, 3), (86, .iload_n 3, 1), (87, .iaload, 1), (88, .bipush 59, 2), (90, .if_icmp .eq 5, 3), (93, .iload_n 3, 1), (94, .ireturn, 1), (95, .iload_n 3, 1)]
def cd_X3_errorIndex_3 : List (Nat × Instr × Nat) := [(96, .iconst 1, 1), (97, .iadd, 1), (98, .istore_n 1, 1), (99, .goto (-97), 3), (102, .aload_n 0, 1), (103, .getfield 15, 3), (106, .ireturn, 1)]
def cd_X3_errorIndex : Chunks := [cd_X3_errorIndex_0, cd_X3_errorIndex_1, cd_X3_errorIndex_2, cd_X3_errorIndex_3]
def mi_X3_errorIndex : MI := (cd_X3_errorIndex, pl_X3, 1, 5, [])
def cd_X3_isWholeRow_0 : List (Nat × Instr × Nat) := [(0, .aload_n 0, 1), (1, .invokevirtual 37, 3), (4, .aload_n 0, 1), (5, .getfield 15, 3), (8, .if_icmp .ge 5, 3), (11, .iconst 0, 1), (12, .ireturn, 1), (13, .iconst 0, 1), (14, .istore_n 1, 1), (15, .iload_n 1, 1), (16, .aload_n 0, 1), (17, .getfield 15, 3), (20, .if_icmp .ge 27, 3), (23, .aload_n 0, 1), (24, .iload_n 1, 1), (25, .invokevirtual 29, 3), (28, .astore_n 2, 1), (29, .aload_n 2, 1), (30, .ifnonnull 5, 3)]
def cd_X3_isWholeRow_1 : List (Nat × Instr × Nat) := [(33, .iconst 0, 1), (34, .ireturn, 1), (35, .iload_n 1, 1), (36, .aload_n 2, 1), (37, .invokevirtual 33, 3), (40, .iconst 1, 1), (41, .iadd, 1), (42, .iadd, 1), (43, .istore_n 1, 1), (44, .goto (-29), 3), (47, .iload_n 1, 1), (48, .aload_n 0, 1), (49, .getfield 15, 3), (52, .iconst 1, 1), (53, .iadd, 1), (54, .if_icmp .ne 7, 3), (57, .iconst 1, 1), (58, .goto 4, 3), (61, .iconst 0, 1), (62, .ireturn, 1)]
def cd_X3_isWholeRow : Chunks := [cd_X3_isWholeRow_0, cd_X3_isWholeRow_1]
def mi_X3_isWholeRow : MI := (cd_X3_isWholeRow, pl_X3, 2, 3, [])
def cd_X3_organAt_0 : List (Nat × Instr × Nat) := [(0, .iload_n 1, 1), (1, .ifCond .lt 23, 3), (4, .iload_n 1, 1), (5, .aload_n 0, 1), (6, .getfield 15, 3), (9, .if_icmp .ge 15, 3), (12, .aload_n 0, 1), (13, .getfield 9, 3), (16, .iload_n 1, 1), (17, .iaload, 1), (18, .bipush 48, 2), (20, .isub, 1), (21, .goto 4, 3), (24, .iconst (-1), 1), (25, .ireturn, 1)]
def cd_X3_organAt : Chunks := [cd_X3_organAt_0]
def mi_X3_organAt : MI := (cd_X3_organAt, pl_X3, 1, 2, [])
def cd_X3_tuneAt_0 : List (Nat × Instr × Nat) := [(0, .iload_n 1, 1), (1, .ifCond .lt 27, 3), (4, .iload_n 1, 1), (5, .iconst 2, 1), (6, .iadd, 1), (7, .aload_n 0, 1), (8, .getfield 15, 3), (11, .if_icmp .ge 17, 3), (14, .aload_n 0, 1), (15, .getfield 9, 3), (18, .iload_n 1, 1), (19, .iconst 2, 1), (20, .iadd, 1), (21, .iaload, 1), (22, .bipush 97, 2), (24, .isub, 1), (25, .goto 4, 3), (28, .iconst (-1), 1), (29, .ireturn, 1)]
def cd_X3_tuneAt : Chunks := [cd_X3_tuneAt_0]
def mi_X3_tuneAt : MI := (cd_X3_tuneAt, pl_X3, 1, 2, [])
def cd_X4_copyFrom_0 : List (Nat × Instr × Nat) := [(0, .aload_n 0, 1), (1, .aload_n 1, 1), (2, .getfield 18, 3), (5, .putfield 18, 3), (8, .aload_n 0, 1), (9, .aload_n 1, 1), (10, .getfield 21, 3), (13, .putfield 21, 3), (16, .aload_n 0, 1), (17, .aload_n 1, 1), (18, .getfield 25, 3), (21, .putfield 25, 3), (24, .aload_n 0, 1), (25, .aload_n 1, 1), (26, .getfield 9, 3), (29, .putfield 9, 3)]
def cd_X4_copyFrom_1 : List (Nat × Instr × Nat) := [(32, .aload_n 0, 1), (33, .aload_n 1, 1), (34, .getfield 28, 3), (37, .putfield 28, 3), (40, .aload_n 0, 1), (41, .aload_n 1, 1), (42, .getfield 31, 3), (45, .putfield 31, 3), (48, .aload_n 0, 1), (49, .aload_n 1, 1), (50, .getfield 34, 3), (53, .putfield 34, 3), (56, .aload_n 0, 1), (57, .aload_n 1, 1), (58, .getfield 15, 3), (61, .putfield 15, 3)]
def cd_X4_copyFrom_2 : List (Nat × Instr × Nat) := [(64, .return_, 1)]
def cd_X4_copyFrom : Chunks := [cd_X4_copyFrom_0, cd_X4_copyFrom_1, cd_X4_copyFrom_2]
def mi_X4_copyFrom : MI := (cd_X4_copyFrom, pl_X4, 0, 2, [])
def cd_X5_lookAt_0 : List (Nat × Instr × Nat) := [(0, .iconst 0, 1), (1, .istore_n 2, 1), (2, .iload_n 2, 1), (3, .aload_n 1, 1), (4, .getfield 18, 3), (7, .if_icmp .ge 20, 3), (10, .aload_n 0, 1), (11, .getfield 9, 3), (14, .iload_n 2, 1), (15, .aload_n 1, 1), (16, .iload_n 2, 1), (17, .invokevirtual 24, 3), (20, .iastore, 1), (21, .iinc 2 1, 3), (24, .goto (-22), 3), (27, .return_, 1)]
def cd_X5_lookAt : Chunks := [cd_X5_lookAt_0]
def mi_X5_lookAt : MI := (cd_X5_lookAt, pl_X5, 0, 3, [])
def cd_X5_leastHindering_0 : List (Nat × Instr × Nat) := [(0, .iconst (-1), 1), (1, .istore_n 3, 1), (2, .iconst 5, 1), (3, .istore 4, 2), (5, .iconst 0, 1), (6, .istore 5, 2), (8, .iload 5, 2), (10, .bipush 10, 2), (12, .if_icmp .ge 47, 3), (15, .aload_n 0, 1), (16, .getfield 9, 3), (19, .iload_n 2, 1), (20, .iaload, 1), (21, .iload 5, 2), (23, .invokestatic 28, 3), (26, .ifCond .eq 27, 3), (29, .aload_n 0, 1), (30, .aload_n 1, 1), (31, .iload_n 2, 1)]
def cd_X5_leastHindering_1 : List (Nat × Instr × Nat) := [(32, .iload 5, 2), (34, .invokevirtual 32, 3), (37, .istore 6, 2), (39, .iload 6, 2), (41, .iload 4, 2), (43, .if_icmp .ge 10, 3), (46, .iload 6, 2), (48, .istore 4, 2), (50, .iload 5, 2), (52, .istore_n 3, 1), (53, .iinc 5 1, 3), (56, .goto (-48), 3), (59, .iload_n 3, 1), (60, .ireturn, 1)]
def cd_X5_leastHindering : Chunks := [cd_X5_leastHindering_0, cd_X5_leastHindering_1]
def mi_X5_leastHindering : MI := (cd_X5_leastHindering, pl_X5, 1, 7, [])
def cd_X5_hinderedPairs_0 : List (Nat × Instr × Nat) := [(0, .iconst 0, 1), (1, .istore 4, 2), (3, .iconst 0, 1), (4, .istore 5, 2), (6, .iload 5, 2), (8, .aload_n 1, 1), (9, .getfield 18, 3), (12, .if_icmp .ge 42, 3), (15, .iload 5, 2), (17, .iload_n 2, 1), (18, .if_icmp .eq 30, 3), (21, .aload_n 0, 1), (22, .getfield 9, 3), (25, .iload 5, 2), (27, .iaload, 1), (28, .iload_n 3, 1), (29, .invokestatic 28, 3)]
def cd_X5_hinderedPairs_1 : List (Nat × Instr × Nat) := [(32, .ifCond .eq 16, 3), (35, .aload_n 1, 1), (36, .iload_n 2, 1), (37, .iload 5, 2), (39, .invokevirtual 36, 3), (42, .ifCond .eq 6, 3), (45, .iinc 4 1, 3), (48, .iinc 5 1, 3), (51, .goto (-45), 3), (54, .iload 4, 2), (56, .ireturn, 1)]
def cd_X5_hinderedPairs : Chunks := [cd_X5_hinderedPairs_0, cd_X5_hinderedPairs_1]
def mi_X5_hinderedPairs : MI := (cd_X5_hinderedPairs, pl_X5, 1, 6, [])
def cd_X5_findMost_0 : List (Nat × Instr × Nat) := [(0, .aload_n 0, 1), (1, .iconst 0, 1), (2, .putfield 39, 3), (5, .aload_n 0, 1), (6, .iconst 0, 1), (7, .putfield 42, 3), (10, .iconst 1, 1), (11, .istore_n 2, 1), (12, .iload_n 2, 1), (13, .iconst 1, 1), (14, .aload_n 1, 1), (15, .getfield 18, 3), (18, .ishl, 1), (19, .if_icmp .ge 50, 3), (22, .aload_n 1, 1), (23, .iload_n 2, 1), (24, .invokestatic 45, 3), (27, .istore_n 3, 1), (28, .iload_n 3, 1), (29, .aload_n 0, 1), (30, .getfield 39, 3)]
def cd_X5_findMost_1 : List (Nat × Instr × Nat) := [(33, .if_icmp .le 30, 3), (36, .aload_n 1, 1), (37, .aload_n 0, 1), (38, .getfield 9, 3), (41, .aload_n 0, 1), (42, .getfield 15, 3), (45, .iload_n 2, 1), (46, .iconst 0, 1), (47, .invokestatic 49, 3), (50, .ifCond .eq 13, 3), (53, .aload_n 0, 1), (54, .iload_n 3, 1), (55, .putfield 39, 3), (58, .aload_n 0, 1), (59, .iload_n 2, 1), (60, .putfield 42, 3), (63, .iinc 2 1, 3)]
def cd_X5_findMost_2 : List (Nat × Instr × Nat) := [(66, .goto (-54), 3), (69, .return_, 1)]
def cd_X5_findMost : Chunks := [cd_X5_findMost_0, cd_X5_findMost_1, cd_X5_findMost_2]
def mi_X5_findMost : MI := (cd_X5_findMost, pl_X5, 0, 4, [])
def cd_X5_takingsOf_0 : List (Nat × Instr × Nat) := [(0, .iconst 0, 1), (1, .istore_n 2, 1), (2, .iconst 0, 1), (3, .istore_n 3, 1), (4, .iload_n 3, 1), (5, .aload_n 0, 1), (6, .getfield 18, 3), (9, .if_icmp .ge 41, 3), (12, .iload_n 1, 1), (13, .iload_n 3, 1), (14, .invokestatic 28, 3), (17, .ifCond .eq 27, 3), (20, .aload_n 0, 1), (21, .iload_n 3, 1), (22, .invokevirtual 53, 3), (25, .aload_n 0, 1), (26, .iload_n 1, 1), (27, .iload_n 3, 1), (28, .invokestatic 56, 3), (31, .iadd, 1)]
def cd_X5_takingsOf_1 : List (Nat × Instr × Nat) := [(32, .istore 4, 2), (34, .iload_n 2, 1), (35, .aload_n 0, 1), (36, .iload_n 3, 1), (37, .iload 4, 2), (39, .invokevirtual 59, 3), (42, .iadd, 1), (43, .istore_n 2, 1), (44, .iinc 3 1, 3), (47, .goto (-43), 3), (50, .iload_n 2, 1), (51, .ireturn, 1)]
def cd_X5_takingsOf : Chunks := [cd_X5_takingsOf_0, cd_X5_takingsOf_1]
def mi_X5_takingsOf : MI := (cd_X5_takingsOf, pl_X5, 1, 5, [])
def cd_X5_nearAhead_0 : List (Nat × Instr × Nat) := [(0, .iconst 0, 1), (1, .istore_n 3, 1), (2, .iconst 0, 1), (3, .istore 4, 2), (5, .iload 4, 2), (7, .iload_n 2, 1), (8, .if_icmp .ge 31, 3), (11, .iload_n 1, 1), (12, .iload 4, 2), (14, .invokestatic 28, 3), (17, .ifCond .eq 16, 3), (20, .aload_n 0, 1), (21, .iload_n 2, 1), (22, .iload 4, 2), (24, .invokevirtual 36, 3), (27, .ifCond .eq 6, 3), (30, .iinc 3 1, 3)]
def cd_X5_nearAhead_1 : List (Nat × Instr × Nat) := [(33, .iinc 4 1, 3), (36, .goto (-31), 3), (39, .iload_n 3, 1), (40, .ireturn, 1)]
def cd_X5_nearAhead : Chunks := [cd_X5_nearAhead_0, cd_X5_nearAhead_1]
def mi_X5_nearAhead : MI := (cd_X5_nearAhead, pl_X5, 1, 5, [])
def cd_X5_findTunes_0 : List (Nat × Instr × Nat) := [(0, .iload 4, 2), (2, .aload_n 0, 1), (3, .getfield 18, 3), (6, .if_icmp .ge 9, 3), (9, .iload 4, 2), (11, .iconst 5, 1), (12, .if_icmp .lt 5, 3), (15, .iconst 1, 1), (16, .ireturn, 1), (17, .iload_n 3, 1), (18, .iload 4, 2), (20, .invokestatic 28, 3), (23, .ifCond .ne 15, 3), (26, .aload_n 0, 1), (27, .aload_n 1, 1), (28, .aload_n 2, 1), (29, .iload_n 3, 1), (30, .iload 4, 2)]
def cd_X5_findTunes_1 : List (Nat × Instr × Nat) := [(32, .iconst 1, 1), (33, .iadd, 1), (34, .invokestatic 49, 3), (37, .ireturn, 1), (38, .iconst 0, 1), (39, .istore 5, 2), (41, .iload 5, 2), (43, .bipush 10, 2), (45, .if_icmp .ge 56, 3), (48, .aload_n 1, 1), (49, .iload 4, 2), (51, .iaload, 1), (52, .iload 5, 2), (54, .invokestatic 28, 3), (57, .ifCond .eq 38, 3), (60, .aload_n 0, 1), (61, .aload_n 2, 1), (62, .iload_n 3, 1), (63, .iload 4, 2)]
def cd_X5_findTunes_2 : List (Nat × Instr × Nat) := [(65, .iload 5, 2), (67, .invokestatic 63, 3), (70, .ifCond .eq 25, 3), (73, .aload_n 2, 1), (74, .iload 4, 2), (76, .iload 5, 2), (78, .iastore, 1), (79, .aload_n 0, 1), (80, .aload_n 1, 1), (81, .aload_n 2, 1), (82, .iload_n 3, 1), (83, .iload 4, 2), (85, .iconst 1, 1), (86, .iadd, 1), (87, .invokestatic 49, 3), (90, .ifCond .eq 5, 3), (93, .iconst 1, 1), (94, .ireturn, 1), (95, .iinc 5 1, 3)]
def cd_X5_findTunes_3 : List (Nat × Instr × Nat) := [(98, .goto (-57), 3), (101, .iconst 0, 1), (102, .ireturn, 1)]
def cd_X5_findTunes : Chunks := [cd_X5_findTunes_0, cd_X5_findTunes_1, cd_X5_findTunes_2, cd_X5_findTunes_3]
def mi_X5_findTunes : MI := (cd_X5_findTunes, pl_X5, 2, 6, [])
def cd_X5_isFree_0 : List (Nat × Instr × Nat) := [(0, .iconst 0, 1), (1, .istore 5, 2), (3, .iload 5, 2), (5, .iload_n 3, 1), (6, .if_icmp .ge 39, 3), (9, .iload_n 2, 1), (10, .iload 5, 2), (12, .invokestatic 28, 3), (15, .ifCond .eq 24, 3), (18, .aload_n 1, 1), (19, .iload 5, 2), (21, .iaload, 1), (22, .iload 4, 2), (24, .if_icmp .ne 15, 3), (27, .aload_n 0, 1), (28, .iload_n 3, 1), (29, .iload 5, 2), (31, .invokevirtual 36, 3)]
def cd_X5_isFree_1 : List (Nat × Instr × Nat) := [(34, .ifCond .eq 5, 3), (37, .iconst 0, 1), (38, .ireturn, 1), (39, .iinc 5 1, 3), (42, .goto (-39), 3), (45, .iconst 1, 1), (46, .ireturn, 1)]
def cd_X5_isFree : Chunks := [cd_X5_isFree_0, cd_X5_isFree_1]
def mi_X5_isFree : MI := (cd_X5_isFree, pl_X5, 2, 6, [])
def cd_X6_reckon_0 : List (Nat × Instr × Nat) := [(0, .iconst 0, 1), (1, .istore_n 2, 1), (2, .iload_n 2, 1), (3, .bipush 8, 2), (5, .if_icmp .ge 23, 3), (8, .aload_n 0, 1), (9, .getfield 9, 3), (12, .iload_n 2, 1), (13, .iconst 0, 1), (14, .iastore, 1), (15, .aload_n 0, 1), (16, .getfield 15, 3), (19, .iload_n 2, 1), (20, .iconst 0, 1), (21, .iastore, 1), (22, .iinc 2 1, 3), (25, .goto (-23), 3), (28, .iconst 0, 1), (29, .istore_n 2, 1), (30, .iload_n 2, 1), (31, .aload_n 1, 1)]
def cd_X6_reckon_1 : List (Nat × Instr × Nat) := [(32, .getfield 21, 3), (35, .if_icmp .ge 15, 3), (38, .aload_n 0, 1), (39, .aload_n 1, 1), (40, .iload_n 2, 1), (41, .invokevirtual 27, 3), (44, .iinc 2 1, 3), (47, .goto (-17), 3), (50, .aload_n 1, 1), (51, .getfield 31, 3), (54, .ifCond .eq 8, 3), (57, .aload_n 0, 1), (58, .aload_n 1, 1), (59, .invokevirtual 35, 3), (62, .return_, 1)]
def cd_X6_reckon : Chunks := [cd_X6_reckon_0, cd_X6_reckon_1]
def mi_X6_reckon : MI := (cd_X6_reckon, pl_X6, 0, 3, [])
def cd_X6_sharePot_0 : List (Nat × Instr × Nat) := [(0, .aload_n 1, 1), (1, .getfield 39, 3), (4, .iload_n 2, 1), (5, .aaload, 1), (6, .getfield 43, 3), (9, .istore_n 3, 1), (10, .iconst 0, 1), (11, .istore 4, 2), (13, .iconst 0, 1), (14, .istore 5, 2), (16, .iload 5, 2), (18, .aload_n 1, 1), (19, .getfield 48, 3), (22, .if_icmp .ge 26, 3), (25, .iload 4, 2), (27, .aload_n 1, 1), (28, .getfield 51, 3), (31, .iload 5, 2)]
def cd_X6_sharePot_1 : List (Nat × Instr × Nat) := [(33, .aaload, 1), (34, .getfield 55, 3), (37, .iload_n 2, 1), (38, .iaload, 1), (39, .iadd, 1), (40, .istore 4, 2), (42, .iinc 5 1, 3), (45, .goto (-29), 3), (48, .iload_n 3, 1), (49, .ifCond .eq 8, 3), (52, .iload 4, 2), (54, .ifCond .ne 4, 3), (57, .return_, 1), (58, .iload_n 3, 1), (59, .istore 5, 2), (61, .iconst 0, 1), (62, .istore 6, 2)]
def cd_X6_sharePot_2 : List (Nat × Instr × Nat) := [(64, .iload 6, 2), (66, .aload_n 1, 1), (67, .getfield 48, 3), (70, .if_icmp .ge 62, 3), (73, .iload_n 3, 1), (74, .aload_n 1, 1), (75, .getfield 51, 3), (78, .iload 6, 2), (80, .aaload, 1), (81, .getfield 55, 3), (84, .iload_n 2, 1), (85, .iaload, 1), (86, .imul, 1), (87, .istore 7, 2), (89, .aload_n 0, 1), (90, .getfield 9, 3), (93, .iload 6, 2), (95, .dup2, 1)]
def cd_X6_sharePot_3 : List (Nat × Instr × Nat) := [(96, .iaload, 1), (97, .iload 7, 2), (99, .iload 4, 2), (101, .idiv, 1), (102, .iadd, 1), (103, .iastore, 1), (104, .aload_n 0, 1), (105, .getfield 18, 3), (108, .iload 6, 2), (110, .iload 7, 2), (112, .iload 4, 2), (114, .irem, 1), (115, .iastore, 1), (116, .iload 5, 2), (118, .iload 7, 2), (120, .iload 4, 2), (122, .idiv, 1), (123, .isub, 1), (124, .istore 5, 2), (126, .iinc 6 1, 3)]
def cd_X6_sharePot_4 : List (Nat × Instr × Nat) := [(129, .goto (-65), 3), (132, .aload_n 0, 1), (133, .iload 5, 2), (135, .aload_n 1, 1), (136, .getfield 48, 3), (139, .invokevirtual 60, 3), (142, .return_, 1)]
def cd_X6_sharePot : Chunks := [cd_X6_sharePot_0, cd_X6_sharePot_1, cd_X6_sharePot_2, cd_X6_sharePot_3, cd_X6_sharePot_4]
def mi_X6_sharePot : MI := (cd_X6_sharePot, pl_X6, 0, 8, [])
def cd_X6_giveUnits_0 : List (Nat × Instr × Nat) := [(0, .iconst 0, 1), (1, .istore_n 3, 1), (2, .iload_n 3, 1), (3, .iload_n 1, 1), (4, .if_icmp .ge 72, 3), (7, .iload_n 3, 1), (8, .iload_n 2, 1), (9, .if_icmp .ge 67, 3), (12, .iconst 0, 1), (13, .istore 4, 2), (15, .iconst 1, 1), (16, .istore 5, 2), (18, .iload 5, 2), (20, .iload_n 2, 1), (21, .if_icmp .ge 30, 3), (24, .aload_n 0, 1), (25, .getfield 18, 3), (28, .iload 5, 2), (30, .iaload, 1), (31, .aload_n 0, 1)]
def cd_X6_giveUnits_1 : List (Nat × Instr × Nat) := [(32, .getfield 18, 3), (35, .iload 4, 2), (37, .iaload, 1), (38, .if_icmp .le 7, 3), (41, .iload 5, 2), (43, .istore 4, 2), (45, .iinc 5 1, 3), (48, .goto (-30), 3), (51, .aload_n 0, 1), (52, .getfield 9, 3), (55, .iload 4, 2), (57, .dup2, 1), (58, .iaload, 1), (59, .iconst 1, 1), (60, .iadd, 1), (61, .iastore, 1), (62, .aload_n 0, 1), (63, .getfield 18, 3)]
def cd_X6_giveUnits_2 : List (Nat × Instr × Nat) := [(66, .iload 4, 2), (68, .iconst (-1), 1), (69, .iastore, 1), (70, .iinc 3 1, 3), (73, .goto (-71), 3), (76, .return_, 1)]
def cd_X6_giveUnits : Chunks := [cd_X6_giveUnits_0, cd_X6_giveUnits_1, cd_X6_giveUnits_2]
def mi_X6_giveUnits : MI := (cd_X6_giveUnits, pl_X6, 0, 6, [])
def cd_X6_giveAllowances_0 : List (Nat × Instr × Nat) := [(0, .aload_n 1, 1), (1, .getfield 64, 3), (4, .istore_n 2, 1), (5, .iconst 0, 1), (6, .istore_n 3, 1), (7, .iload_n 3, 1), (8, .aload_n 1, 1), (9, .getfield 48, 3), (12, .if_icmp .ge 47, 3), (15, .aload_n 1, 1), (16, .getfield 51, 3), (19, .iload_n 3, 1), (20, .aaload, 1), (21, .invokevirtual 67, 3), (24, .iconst 3, 1), (25, .if_icmp .ge 28, 3), (28, .aload_n 0, 1), (29, .getfield 15, 3)]
def cd_X6_giveAllowances_1 : List (Nat × Instr × Nat) := [(32, .iload_n 3, 1), (33, .aload_n 1, 1), (34, .getfield 71, 3), (37, .iconst 4, 1), (38, .iaload, 1), (39, .iload_n 2, 1), (40, .invokestatic 74, 3), (43, .iastore, 1), (44, .iload_n 2, 1), (45, .aload_n 0, 1), (46, .getfield 15, 3), (49, .iload_n 3, 1), (50, .iaload, 1), (51, .isub, 1), (52, .istore_n 2, 1), (53, .iinc 3 1, 3), (56, .goto (-49), 3), (59, .return_, 1)]
def cd_X6_giveAllowances : Chunks := [cd_X6_giveAllowances_0, cd_X6_giveAllowances_1]
def mi_X6_giveAllowances : MI := (cd_X6_giveAllowances, pl_X6, 0, 4, [])
def cd_X7_copyFrom_0 : List (Nat × Instr × Nat) := [(0, .aload_n 0, 1), (1, .aload_n 1, 1), (2, .getfield 9, 3), (5, .putfield 9, 3), (8, .aload_n 0, 1), (9, .aload_n 1, 1), (10, .getfield 19, 3), (13, .putfield 19, 3), (16, .aload_n 0, 1), (17, .aload_n 1, 1), (18, .getfield 22, 3), (21, .putfield 22, 3), (24, .aload_n 0, 1), (25, .aload_n 1, 1), (26, .getfield 25, 3), (29, .putfield 25, 3)]
def cd_X7_copyFrom_1 : List (Nat × Instr × Nat) := [(32, .aload_n 1, 1), (33, .getfield 15, 3), (36, .iconst 0, 1), (37, .aload_n 0, 1), (38, .getfield 15, 3), (41, .iconst 0, 1), (42, .iconst 5, 1), (43, .invokestatic 28, 3), (46, .return_, 1)]
def cd_X7_copyFrom : Chunks := [cd_X7_copyFrom_0, cd_X7_copyFrom_1]
def mi_X7_copyFrom : MI := (cd_X7_copyFrom, pl_X7, 0, 2, [])
def cd_X7_hoursOfDay_0 : List (Nat × Instr × Nat) := [(0, .iconst 0, 1), (1, .istore_n 1, 1), (2, .iconst 0, 1), (3, .istore_n 2, 1), (4, .iload_n 2, 1), (5, .iconst 5, 1), (6, .if_icmp .ge 18, 3), (9, .iload_n 1, 1), (10, .aload_n 0, 1), (11, .getfield 15, 3), (14, .iload_n 2, 1), (15, .iaload, 1), (16, .iadd, 1), (17, .istore_n 1, 1), (18, .iinc 2 1, 3), (21, .goto (-17), 3), (24, .iload_n 1, 1), (25, .ireturn, 1)]
def cd_X7_hoursOfDay : Chunks := [cd_X7_hoursOfDay_0]
def mi_X7_hoursOfDay : MI := (cd_X7_hoursOfDay, pl_X7, 1, 3, [])
def cd_X7_forgetDay_0 : List (Nat × Instr × Nat) := [(0, .iconst 0, 1), (1, .istore_n 1, 1), (2, .iload_n 1, 1), (3, .iconst 5, 1), (4, .if_icmp .ge 16, 3), (7, .aload_n 0, 1), (8, .getfield 15, 3), (11, .iload_n 1, 1), (12, .iconst 0, 1), (13, .iastore, 1), (14, .iinc 1 1, 3), (17, .goto (-15), 3), (20, .return_, 1)]
def cd_X7_forgetDay : Chunks := [cd_X7_forgetDay_0]
def mi_X7_forgetDay : MI := (cd_X7_forgetDay, pl_X7, 0, 2, [])
def cd_X8_save_0 : List (Nat × Instr × Nat) := [(0, .aload_n 0, 1), (1, .getfield 11, 3), (4, .aload_n 0, 1), (5, .getfield 18, 3), (8, .aload_n 0, 1), (9, .getfield 22, 3), (12, .iadd, 1), (13, .bipush 6, 2), (15, .irem, 1), (16, .aaload, 1), (17, .aload_n 1, 1), (18, .invokevirtual 25, 3), (21, .aload_n 0, 1), (22, .getfield 22, 3), (25, .bipush 6, 2), (27, .if_icmp .ge 16, 3), (30, .aload_n 0, 1), (31, .dup, 1)]
def cd_X8_save_1 : List (Nat × Instr × Nat) := [(32, .getfield 22, 3), (35, .iconst 1, 1), (36, .iadd, 1), (37, .putfield 22, 3), (40, .goto 16, 3), (43, .aload_n 0, 1), (44, .aload_n 0, 1), (45, .getfield 18, 3), (48, .iconst 1, 1), (49, .iadd, 1), (50, .bipush 6, 2), (52, .irem, 1), (53, .putfield 18, 3), (56, .return_, 1)]
def cd_X8_save : Chunks := [cd_X8_save_0, cd_X8_save_1]
def mi_X8_save : MI := (cd_X8_save, pl_X8, 0, 2, [])
def cd_X8_restore_0 : List (Nat × Instr × Nat) := [(0, .aload_n 0, 1), (1, .getfield 22, 3), (4, .ifCond .le 34, 3), (7, .aload_n 0, 1), (8, .dup, 1), (9, .getfield 22, 3), (12, .iconst 1, 1), (13, .isub, 1), (14, .putfield 22, 3), (17, .aload_n 1, 1), (18, .aload_n 0, 1), (19, .getfield 11, 3), (22, .aload_n 0, 1), (23, .getfield 18, 3), (26, .aload_n 0, 1), (27, .getfield 22, 3), (30, .iadd, 1), (31, .bipush 6, 2)]
def cd_X8_restore_1 : List (Nat × Instr × Nat) := [(33, .irem, 1), (34, .aaload, 1), (35, .invokevirtual 25, 3), (38, .return_, 1)]
def cd_X8_restore : Chunks := [cd_X8_restore_0, cd_X8_restore_1]
def mi_X8_restore : MI := (cd_X8_restore, pl_X8, 0, 2, [])
def cd_X9_copyFrom_0 : List (Nat × Instr × Nat) := [(0, .iconst 0, 1), (1, .istore_n 2, 1), (2, .iload_n 2, 1), (3, .bipush 10, 2), (5, .if_icmp .ge 24, 3), (8, .aload_n 0, 1), (9, .getfield 11, 3), (12, .iload_n 2, 1), (13, .aaload, 1), (14, .aload_n 1, 1), (15, .getfield 11, 3), (18, .iload_n 2, 1), (19, .aaload, 1), (20, .invokevirtual 49, 3), (23, .iinc 2 1, 3), (26, .goto (-24), 3), (29, .iconst 0, 1), (30, .istore_n 2, 1), (31, .iload_n 2, 1)]
def cd_X9_copyFrom_1 : List (Nat × Instr × Nat) := [(32, .iconst 5, 1), (33, .if_icmp .ge 24, 3), (36, .aload_n 0, 1), (37, .getfield 19, 3), (40, .iload_n 2, 1), (41, .aaload, 1), (42, .aload_n 1, 1), (43, .getfield 19, 3), (46, .iload_n 2, 1), (47, .aaload, 1), (48, .invokevirtual 53, 3), (51, .iinc 2 1, 3), (54, .goto (-23), 3), (57, .iconst 0, 1), (58, .istore_n 2, 1), (59, .iload_n 2, 1), (60, .bipush 8, 2), (62, .if_icmp .ge 24, 3)]
def cd_X9_copyFrom_2 : List (Nat × Instr × Nat) := [(65, .aload_n 0, 1), (66, .getfield 25, 3), (69, .iload_n 2, 1), (70, .aaload, 1), (71, .aload_n 1, 1), (72, .getfield 25, 3), (75, .iload_n 2, 1), (76, .aaload, 1), (77, .invokevirtual 56, 3), (80, .iinc 2 1, 3), (83, .goto (-24), 3), (86, .aload_n 1, 1), (87, .getfield 29, 3), (90, .iconst 0, 1), (91, .aload_n 0, 1), (92, .getfield 29, 3), (95, .iconst 0, 1)]
def cd_X9_copyFrom_3 : List (Nat × Instr × Nat) := [(96, .iconst 5, 1), (97, .invokestatic 43, 3), (100, .aload_n 0, 1), (101, .aload_n 1, 1), (102, .getfield 59, 3), (105, .putfield 59, 3), (108, .aload_n 0, 1), (109, .aload_n 1, 1), (110, .getfield 62, 3), (113, .putfield 62, 3), (116, .aload_n 0, 1), (117, .aload_n 1, 1), (118, .getfield 65, 3), (121, .putfield 65, 3), (124, .aload_n 0, 1), (125, .aload_n 1, 1), (126, .getfield 68, 3)]
def cd_X9_copyFrom_4 : List (Nat × Instr × Nat) := [(129, .putfield 68, 3), (132, .aload_n 0, 1), (133, .aload_n 1, 1), (134, .getfield 71, 3), (137, .putfield 71, 3), (140, .aload_n 0, 1), (141, .aload_n 1, 1), (142, .getfield 74, 3), (145, .putfield 74, 3), (148, .aload_n 0, 1), (149, .aload_n 1, 1), (150, .getfield 33, 3), (153, .putfield 33, 3), (156, .aload_n 0, 1), (157, .aload_n 1, 1), (158, .getfield 78, 3)]
def cd_X9_copyFrom_5 : List (Nat × Instr × Nat) := [(161, .putfield 78, 3), (164, .aload_n 0, 1), (165, .aload_n 1, 1), (166, .getfield 81, 3), (169, .putfield 81, 3), (172, .aload_n 0, 1), (173, .aload_n 1, 1), (174, .getfield 84, 3), (177, .putfield 84, 3), (180, .aload_n 0, 1), (181, .aload_n 1, 1), (182, .getfield 87, 3), (185, .putfield 87, 3), (188, .return_, 1)]
def cd_X9_copyFrom : Chunks := [cd_X9_copyFrom_0, cd_X9_copyFrom_1, cd_X9_copyFrom_2, cd_X9_copyFrom_3, cd_X9_copyFrom_4, cd_X9_copyFrom_5]
def mi_X9_copyFrom : MI := (cd_X9_copyFrom, pl_X9, 0, 3, [])
def cd_X9_hasCornerAt_0 : List (Nat × Instr × Nat) := [(0, .iconst 0, 1), (1, .istore_n 2, 1), (2, .iload_n 2, 1), (3, .aload_n 0, 1), (4, .getfield 59, 3), (7, .if_icmp .ge 24, 3), (10, .aload_n 0, 1), (11, .getfield 11, 3), (14, .iload_n 2, 1), (15, .aaload, 1), (16, .getfield 90, 3), (19, .iload_n 1, 1), (20, .if_icmp .ne 5, 3), (23, .iconst 1, 1), (24, .ireturn, 1), (25, .iinc 2 1, 3), (28, .goto (-26), 3), (31, .iconst 0, 1)]
def cd_X9_hasCornerAt_1 : List (Nat × Instr × Nat) := [(32, .ireturn, 1)]
def cd_X9_hasCornerAt : Chunks := [cd_X9_hasCornerAt_0, cd_X9_hasCornerAt_1]
def mi_X9_hasCornerAt : MI := (cd_X9_hasCornerAt, pl_X9, 2, 3, [])
def cd_X9_permits_0 : List (Nat × Instr × Nat) := [(0, .iconst 0, 1), (1, .istore_n 1, 1), (2, .iconst 0, 1), (3, .istore_n 2, 1), (4, .iload_n 2, 1), (5, .aload_n 0, 1), (6, .getfield 62, 3), (9, .if_icmp .ge 24, 3), (12, .aload_n 0, 1), (13, .getfield 19, 3), (16, .iload_n 2, 1), (17, .aaload, 1), (18, .getfield 93, 3), (21, .ifCond .eq 6, 3), (24, .iinc 1 1, 3), (27, .iinc 2 1, 3), (30, .goto (-26), 3)]
def cd_X9_permits_1 : List (Nat × Instr × Nat) := [(33, .iload_n 1, 1), (34, .ireturn, 1)]
def cd_X9_permits : Chunks := [cd_X9_permits_0, cd_X9_permits_1]
def mi_X9_permits : MI := (cd_X9_permits, pl_X9, 1, 3, [])
def cd_X9_crewSize_0 : List (Nat × Instr × Nat) := [(0, .iconst 0, 1), (1, .istore_n 2, 1), (2, .iconst 0, 1), (3, .istore_n 3, 1), (4, .iload_n 3, 1), (5, .aload_n 0, 1), (6, .getfield 65, 3), (9, .if_icmp .ge 25, 3), (12, .aload_n 0, 1), (13, .getfield 25, 3), (16, .iload_n 3, 1), (17, .aaload, 1), (18, .getfield 96, 3), (21, .iload_n 1, 1), (22, .if_icmp .ne 6, 3), (25, .iinc 2 1, 3), (28, .iinc 3 1, 3), (31, .goto (-27), 3)]
def cd_X9_crewSize_1 : List (Nat × Instr × Nat) := [(34, .iload_n 2, 1), (35, .ireturn, 1)]
def cd_X9_crewSize : Chunks := [cd_X9_crewSize_0, cd_X9_crewSize_1]
def mi_X9_crewSize : MI := (cd_X9_crewSize, pl_X9, 1, 4, [])
def cd_X9_organAt_0 : List (Nat × Instr × Nat) := [(0, .iconst 0, 1), (1, .istore_n 2, 1), (2, .iload_n 2, 1), (3, .aload_n 0, 1), (4, .getfield 62, 3), (7, .if_icmp .ge 24, 3), (10, .aload_n 0, 1), (11, .getfield 19, 3), (14, .iload_n 2, 1), (15, .aaload, 1), (16, .getfield 99, 3), (19, .iload_n 1, 1), (20, .if_icmp .ne 5, 3), (23, .iload_n 2, 1), (24, .ireturn, 1), (25, .iinc 2 1, 3), (28, .goto (-26), 3), (31, .iconst (-1), 1)]
def cd_X9_organAt_1 : List (Nat × Instr × Nat) := [(32, .ireturn, 1)]
def cd_X9_organAt : Chunks := [cd_X9_organAt_0, cd_X9_organAt_1]
def mi_X9_organAt : MI := (cd_X9_organAt, pl_X9, 1, 3, [])
def cd_X9_cornerOf_0 : List (Nat × Instr × Nat) := [(0, .aload_n 0, 1), (1, .getfield 19, 3), (4, .iload_n 1, 1), (5, .aaload, 1), (6, .getfield 99, 3), (9, .istore_n 2, 1), (10, .iload_n 2, 1), (11, .ifCond .lt 20, 3), (14, .iload_n 2, 1), (15, .aload_n 0, 1), (16, .getfield 59, 3), (19, .if_icmp .ge 12, 3), (22, .aload_n 0, 1), (23, .getfield 11, 3), (26, .iload_n 2, 1), (27, .aaload, 1), (28, .goto 4, 3), (31, .aconst_null, 1)]
def cd_X9_cornerOf_1 : List (Nat × Instr × Nat) := [(32, .areturn, 1)]
def cd_X9_cornerOf : Chunks := [cd_X9_cornerOf_0, cd_X9_cornerOf_1]
def mi_X9_cornerOf : MI := (cd_X9_cornerOf, pl_X9, 5, 3, [])
def cd_X9_takingsSoFar_0 : List (Nat × Instr × Nat) := [(0, .iconst 0, 1), (1, .istore_n 1, 1), (2, .iconst 0, 1), (3, .istore_n 2, 1), (4, .iload_n 2, 1), (5, .aload_n 0, 1), (6, .getfield 62, 3), (9, .if_icmp .ge 21, 3), (12, .iload_n 1, 1), (13, .aload_n 0, 1), (14, .getfield 19, 3), (17, .iload_n 2, 1), (18, .aaload, 1), (19, .getfield 102, 3), (22, .iadd, 1), (23, .istore_n 1, 1), (24, .iinc 2 1, 3), (27, .goto (-23), 3), (30, .iload_n 1, 1), (31, .ireturn, 1)]
def cd_X9_takingsSoFar : Chunks := [cd_X9_takingsSoFar_0]
def mi_X9_takingsSoFar : MI := (cd_X9_takingsSoFar, pl_X9, 1, 3, [])
def cd_X9_ownersSoFar_0 : List (Nat × Instr × Nat) := [(0, .iconst 0, 1), (1, .istore_n 1, 1), (2, .iconst 0, 1), (3, .istore_n 2, 1), (4, .iload_n 2, 1), (5, .aload_n 0, 1), (6, .getfield 62, 3), (9, .if_icmp .ge 21, 3), (12, .iload_n 1, 1), (13, .aload_n 0, 1), (14, .getfield 19, 3), (17, .iload_n 2, 1), (18, .aaload, 1), (19, .getfield 105, 3), (22, .iadd, 1), (23, .istore_n 1, 1), (24, .iinc 2 1, 3), (27, .goto (-23), 3), (30, .iload_n 1, 1), (31, .ireturn, 1)]
def cd_X9_ownersSoFar : Chunks := [cd_X9_ownersSoFar_0]
def mi_X9_ownersSoFar : MI := (cd_X9_ownersSoFar, pl_X9, 1, 3, [])
def cd_X9_inAllPots_0 : List (Nat × Instr × Nat) := [(0, .iconst 0, 1), (1, .istore_n 1, 1), (2, .iconst 0, 1), (3, .istore_n 2, 1), (4, .iload_n 2, 1), (5, .aload_n 0, 1), (6, .getfield 62, 3), (9, .if_icmp .ge 21, 3), (12, .iload_n 1, 1), (13, .aload_n 0, 1), (14, .getfield 19, 3), (17, .iload_n 2, 1), (18, .aaload, 1), (19, .getfield 108, 3), (22, .iadd, 1), (23, .istore_n 1, 1), (24, .iinc 2 1, 3), (27, .goto (-23), 3), (30, .iload_n 1, 1), (31, .ireturn, 1)]
def cd_X9_inAllPots : Chunks := [cd_X9_inAllPots_0]
def mi_X9_inAllPots : MI := (cd_X9_inAllPots, pl_X9, 1, 3, [])
def cd_X9_playersSoFar_0 : List (Nat × Instr × Nat) := [(0, .iconst 0, 1), (1, .istore_n 1, 1), (2, .iconst 0, 1), (3, .istore_n 2, 1), (4, .iload_n 2, 1), (5, .aload_n 0, 1), (6, .getfield 65, 3), (9, .if_icmp .ge 21, 3), (12, .iload_n 1, 1), (13, .aload_n 0, 1), (14, .getfield 25, 3), (17, .iload_n 2, 1), (18, .aaload, 1), (19, .getfield 111, 3), (22, .iadd, 1), (23, .istore_n 1, 1), (24, .iinc 2 1, 3), (27, .goto (-23), 3), (30, .iload_n 1, 1), (31, .ireturn, 1)]
def cd_X9_playersSoFar : Chunks := [cd_X9_playersSoFar_0]
def mi_X9_playersSoFar : MI := (cd_X9_playersSoFar, pl_X9, 1, 3, [])
def cd_X9_weatherMayChange_0 : List (Nat × Instr × Nat) := [(0, .aload_n 0, 1), (1, .getfield 78, 3), (4, .ifCond .ne 7, 3), (7, .iconst 1, 1), (8, .goto 4, 3), (11, .iconst 0, 1), (12, .ireturn, 1)]
def cd_X9_weatherMayChange : Chunks := [cd_X9_weatherMayChange_0]
def mi_X9_weatherMayChange : MI := (cd_X9_weatherMayChange, pl_X9, 2, 1, [])
def cd_X9_lotsMayBeDrawn_0 : List (Nat × Instr × Nat) := [(0, .aload_n 0, 1), (1, .getfield 71, 3), (4, .ifCond .ne 14, 3), (7, .aload_n 0, 1), (8, .getfield 78, 3), (11, .ifCond .ne 7, 3), (14, .iconst 1, 1), (15, .goto 4, 3), (18, .iconst 0, 1), (19, .ireturn, 1)]
def cd_X9_lotsMayBeDrawn : Chunks := [cd_X9_lotsMayBeDrawn_0]
def mi_X9_lotsMayBeDrawn : MI := (cd_X9_lotsMayBeDrawn, pl_X9, 2, 1, [])
def cd_X9_drawLots_0 : List (Nat × Instr × Nat) := [(0, .aload_n 0, 1), (1, .invokevirtual 114, 3), (4, .iconst 0, 1), (5, .istore_n 1, 1), (6, .iconst 0, 1), (7, .istore_n 2, 1), (8, .iload_n 2, 1), (9, .aload_n 0, 1), (10, .getfield 62, 3), (13, .if_icmp .ge 53, 3), (16, .aload_n 0, 1), (17, .getfield 59, 3), (20, .iload_n 1, 1), (21, .isub, 1), (22, .istore_n 3, 1), (23, .aload_n 0, 1), (24, .getfield 19, 3), (27, .iload_n 2, 1), (28, .aaload, 1), (29, .getfield 93, 3)]
def cd_X9_drawLots_1 : List (Nat × Instr × Nat) := [(32, .ifCond .eq 28, 3), (35, .iload_n 3, 1), (36, .ifCond .le 24, 3), (39, .aload_n 0, 1), (40, .getfield 19, 3), (43, .iload_n 2, 1), (44, .aaload, 1), (45, .aload_n 0, 1), (46, .aload_n 0, 1), (47, .iload_n 3, 1), (48, .invokevirtual 117, 3), (51, .invokevirtual 121, 3), (54, .putfield 99, 3), (57, .iinc 1 1, 3), (60, .iinc 2 1, 3), (63, .goto (-55), 3)]
def cd_X9_drawLots_2 : List (Nat × Instr × Nat) := [(66, .iload_n 1, 1), (67, .ireturn, 1)]
def cd_X9_drawLots : Chunks := [cd_X9_drawLots_0, cd_X9_drawLots_1, cd_X9_drawLots_2]
def mi_X9_drawLots : MI := (cd_X9_drawLots, pl_X9, 1, 4, [])
def cd_X9_takeCornersBack_0 : List (Nat × Instr × Nat) := [(0, .iconst 0, 1), (1, .istore_n 1, 1), (2, .iload_n 1, 1), (3, .aload_n 0, 1), (4, .getfield 62, 3), (7, .if_icmp .ge 19, 3), (10, .aload_n 0, 1), (11, .getfield 19, 3), (14, .iload_n 1, 1), (15, .aaload, 1), (16, .iconst (-1), 1), (17, .putfield 99, 3), (20, .iinc 1 1, 3), (23, .goto (-21), 3), (26, .return_, 1)]
def cd_X9_takeCornersBack : Chunks := [cd_X9_takeCornersBack_0]
def mi_X9_takeCornersBack : MI := (cd_X9_takeCornersBack, pl_X9, 0, 2, [])
def cd_X9_draw_0 : List (Nat × Instr × Nat) := [(0, .aload_n 0, 1), (1, .ldc2_w 124, 3), (4, .aload_n 0, 1), (5, .getfield 33, 3), (8, .i2l, 1), (9, .lmul, 1), (10, .ldc2_w 126, 3), (13, .ladd, 1), (14, .ldc2_w 128, 3), (17, .lrem, 1), (18, .l2i, 1), (19, .putfield 33, 3), (22, .iload_n 1, 1), (23, .ifCond .le 15, 3), (26, .aload_n 0, 1), (27, .getfield 33, 3), (30, .ldc 130, 2)]
def cd_X9_draw_1 : List (Nat × Instr × Nat) := [(32, .idiv, 1), (33, .iload_n 1, 1), (34, .irem, 1), (35, .goto 4, 3), (38, .iconst 0, 1), (39, .ireturn, 1)]
def cd_X9_draw : Chunks := [cd_X9_draw_0, cd_X9_draw_1]
def mi_X9_draw : MI := (cd_X9_draw, pl_X9, 1, 2, [])
def cd_X9_freeCorner_0 : List (Nat × Instr × Nat) := [(0, .iload_n 1, 1), (1, .istore_n 2, 1), (2, .iconst 0, 1), (3, .istore_n 3, 1), (4, .iload_n 3, 1), (5, .aload_n 0, 1), (6, .getfield 59, 3), (9, .if_icmp .ge 27, 3), (12, .aload_n 0, 1), (13, .iload_n 3, 1), (14, .invokevirtual 131, 3), (17, .iconst (-1), 1), (18, .if_icmp .ne 12, 3), (21, .iload_n 2, 1), (22, .ifCond .ne 5, 3), (25, .iload_n 3, 1), (26, .ireturn, 1), (27, .iinc 2 (-1), 3), (30, .iinc 3 1, 3)]
def cd_X9_freeCorner_1 : List (Nat × Instr × Nat) := [(33, .goto (-29), 3), (36, .iconst (-1), 1), (37, .ireturn, 1)]
def cd_X9_freeCorner : Chunks := [cd_X9_freeCorner_0, cd_X9_freeCorner_1]
def mi_X9_freeCorner : MI := (cd_X9_freeCorner, pl_X9, 1, 4, [])
def cd_X9_areNear_0 : List (Nat × Instr × Nat) := [(0, .aload_n 0, 1), (1, .iload_n 1, 1), (2, .invokevirtual 134, 3), (5, .astore_n 3, 1), (6, .aload_n 0, 1), (7, .iload_n 2, 1), (8, .invokevirtual 134, 3), (11, .astore 4, 2), (13, .aload_n 3, 1), (14, .ifnull 27, 3), (17, .aload 4, 2), (19, .ifnull 22, 3), (22, .aload_n 3, 1), (23, .aload 4, 2), (25, .invokevirtual 138, 3), (28, .aload_n 0, 1), (29, .getfield 29, 3)]
def cd_X9_areNear_1 : List (Nat × Instr × Nat) := [(32, .iconst 0, 1), (33, .iaload, 1), (34, .if_icmp .gt 7, 3), (37, .iconst 1, 1), (38, .goto 4, 3), (41, .iconst 0, 1), (42, .ireturn, 1)]
def cd_X9_areNear : Chunks := [cd_X9_areNear_0, cd_X9_areNear_1]
def mi_X9_areNear : MI := (cd_X9_areNear, pl_X9, 2, 5, [])
def cd_X9_tunesHeardAt_0 : List (Nat × Instr × Nat) := [(0, .iconst 0, 1), (1, .istore_n 2, 1), (2, .iconst 0, 1), (3, .istore_n 3, 1), (4, .iload_n 3, 1), (5, .aload_n 0, 1), (6, .getfield 59, 3), (9, .if_icmp .ge 55, 3), (12, .aload_n 0, 1), (13, .getfield 11, 3), (16, .iload_n 3, 1), (17, .aaload, 1), (18, .astore 4, 2), (20, .aload_n 1, 1), (21, .aload 4, 2), (23, .invokevirtual 138, 3), (26, .aload_n 0, 1), (27, .getfield 29, 3), (30, .iconst 0, 1), (31, .iaload, 1)]
def cd_X9_tunesHeardAt_1 : List (Nat × Instr × Nat) := [(32, .if_icmp .gt 26, 3), (35, .iload_n 2, 1), (36, .aload 4, 2), (38, .aload_n 0, 1), (39, .getfield 71, 3), (42, .aload_n 0, 1), (43, .getfield 29, 3), (46, .iconst 1, 1), (47, .iaload, 1), (48, .isub, 1), (49, .aload_n 0, 1), (50, .getfield 71, 3), (53, .invokevirtual 142, 3), (56, .ior, 1), (57, .istore_n 2, 1), (58, .iinc 3 1, 3), (61, .goto (-57), 3)]
def cd_X9_tunesHeardAt_2 : List (Nat × Instr × Nat) := [(64, .iload_n 2, 1), (65, .ireturn, 1)]
def cd_X9_tunesHeardAt : Chunks := [cd_X9_tunesHeardAt_0, cd_X9_tunesHeardAt_1, cd_X9_tunesHeardAt_2]
def mi_X9_tunesHeardAt : MI := (cd_X9_tunesHeardAt, pl_X9, 1, 5, [])
def cd_X9_reasonAgainstAll_0 : List (Nat × Instr × Nat) := [(0, .aload_n 0, 1), (1, .iload_n 1, 1), (2, .invokevirtual 134, 3), (5, .astore_n 2, 1), (6, .aload_n 2, 1), (7, .ifnonnull 5, 3), (10, .iconst 1, 1), (11, .ireturn, 1), (12, .aload_n 0, 1), (13, .iload_n 1, 1), (14, .invokevirtual 146, 3), (17, .ifCond .ne 5, 3), (20, .iconst 2, 1), (21, .ireturn, 1), (22, .aload_n 0, 1), (23, .getfield 19, 3), (26, .iload_n 1, 1), (27, .aaload, 1), (28, .getfield 149, 3), (31, .iconst (-1), 1)]
def cd_X9_reasonAgainstAll_1 : List (Nat × Instr × Nat) := [(32, .if_icmp .eq 5, 3), (35, .iconst 4, 1), (36, .ireturn, 1), (37, .aload_n 2, 1), (38, .aload_n 0, 1), (39, .getfield 71, 3), (42, .invokevirtual 152, 3), (45, .ifCond .eq 7, 3), (48, .iconst 5, 1), (49, .goto 4, 3), (52, .iconst 0, 1), (53, .ireturn, 1)]
def cd_X9_reasonAgainstAll : Chunks := [cd_X9_reasonAgainstAll_0, cd_X9_reasonAgainstAll_1]
def mi_X9_reasonAgainstAll : MI := (cd_X9_reasonAgainstAll, pl_X9, 1, 3, [])
def cd_X9_reasonAgainst_0 : List (Nat × Instr × Nat) := [(0, .aload_n 0, 1), (1, .iload_n 1, 1), (2, .invokevirtual 156, 3), (5, .istore_n 3, 1), (6, .aload_n 0, 1), (7, .getfield 19, 3), (10, .iload_n 1, 1), (11, .aaload, 1), (12, .getfield 159, 3), (15, .iload_n 2, 1), (16, .invokestatic 162, 3), (19, .istore 4, 2), (21, .iload 4, 2), (23, .ifCond .ne 15, 3), (26, .iload_n 3, 1), (27, .iconst 1, 1), (28, .if_icmp .eq 10, 3), (31, .iload_n 3, 1)]
def cd_X9_reasonAgainst_1 : List (Nat × Instr × Nat) := [(32, .iconst 2, 1), (33, .if_icmp .eq 5, 3), (36, .iconst 3, 1), (37, .ireturn, 1), (38, .aload_n 0, 1), (39, .iload_n 1, 1), (40, .invokevirtual 134, 3), (43, .astore 5, 2), (45, .iload_n 3, 1), (46, .ifCond .ne 24, 3), (49, .aload 5, 2), (51, .ifnull 19, 3), (54, .aload_n 0, 1), (55, .aload 5, 2), (57, .invokevirtual 166, 3), (60, .iload_n 2, 1), (61, .invokestatic 162, 3)]
def cd_X9_reasonAgainst_2 : List (Nat × Instr × Nat) := [(64, .ifCond .eq 6, 3), (67, .bipush 6, 2), (69, .ireturn, 1), (70, .iload_n 3, 1), (71, .ireturn, 1)]
def cd_X9_reasonAgainst : Chunks := [cd_X9_reasonAgainst_0, cd_X9_reasonAgainst_1, cd_X9_reasonAgainst_2]
def mi_X9_reasonAgainst : MI := (cd_X9_reasonAgainst, pl_X9, 1, 6, [])
def cd_X9_playableTunes_0 : List (Nat × Instr × Nat) := [(0, .aload_n 0, 1), (1, .iload_n 1, 1), (2, .invokevirtual 134, 3), (5, .astore_n 2, 1), (6, .aload_n 2, 1), (7, .ifnull 11, 3), (10, .aload_n 0, 1), (11, .iload_n 1, 1), (12, .invokevirtual 156, 3), (15, .ifCond .eq 5, 3), (18, .iconst 0, 1), (19, .ireturn, 1), (20, .aload_n 0, 1), (21, .getfield 19, 3), (24, .iload_n 1, 1), (25, .aaload, 1), (26, .getfield 159, 3), (29, .aload_n 0, 1), (30, .aload_n 2, 1), (31, .invokevirtual 166, 3)]
def cd_X9_playableTunes_1 : List (Nat × Instr × Nat) := [(34, .iconst (-1), 1), (35, .ixor, 1), (36, .iand, 1), (37, .ireturn, 1)]
def cd_X9_playableTunes : Chunks := [cd_X9_playableTunes_0, cd_X9_playableTunes_1]
def mi_X9_playableTunes : MI := (cd_X9_playableTunes, pl_X9, 1, 3, [])
def cd_X9_playedNear_0 : List (Nat × Instr × Nat) := [(0, .iconst 0, 1), (1, .istore_n 2, 1), (2, .iconst 0, 1), (3, .istore_n 3, 1), (4, .iload_n 3, 1), (5, .aload_n 0, 1), (6, .getfield 62, 3), (9, .if_icmp .ge 39, 3), (12, .iload_n 3, 1), (13, .iload_n 1, 1), (14, .if_icmp .eq 28, 3), (17, .aload_n 0, 1), (18, .getfield 19, 3), (21, .iload_n 3, 1), (22, .aaload, 1), (23, .getfield 149, 3), (26, .iconst (-1), 1), (27, .if_icmp .eq 15, 3), (30, .aload_n 0, 1), (31, .iload_n 1, 1)]
def cd_X9_playedNear_1 : List (Nat × Instr × Nat) := [(32, .iload_n 3, 1), (33, .invokevirtual 169, 3), (36, .ifCond .eq 6, 3), (39, .iinc 2 1, 3), (42, .iinc 3 1, 3), (45, .goto (-41), 3), (48, .iload_n 2, 1), (49, .ireturn, 1)]
def cd_X9_playedNear : Chunks := [cd_X9_playedNear_0, cd_X9_playedNear_1]
def mi_X9_playedNear : MI := (cd_X9_playedNear, pl_X9, 1, 4, [])
def cd_X9_takingsFor_0 : List (Nat × Instr × Nat) := [(0, .aload_n 0, 1), (1, .iload_n 1, 1), (2, .invokevirtual 134, 3), (5, .astore_n 3, 1), (6, .aload_n 3, 1), (7, .ifnonnull 5, 3), (10, .iconst 0, 1), (11, .ireturn, 1), (12, .aload_n 3, 1), (13, .getfield 172, 3), (16, .bipush 10, 2), (18, .iconst 2, 1), (19, .iload_n 2, 1), (20, .imul, 1), (21, .isub, 1), (22, .imul, 1), (23, .bipush 10, 2), (25, .idiv, 1), (26, .iconst 0, 1), (27, .invokestatic 175, 3), (30, .istore 4, 2)]
def cd_X9_takingsFor_1 : List (Nat × Instr × Nat) := [(32, .aload_n 0, 1), (33, .getfield 74, 3), (36, .ifCond .eq 10, 3), (39, .iload 4, 2), (41, .iconst 2, 1), (42, .idiv, 1), (43, .goto 5, 3), (46, .iload 4, 2), (48, .ireturn, 1)]
def cd_X9_takingsFor : Chunks := [cd_X9_takingsFor_0, cd_X9_takingsFor_1]
def mi_X9_takingsFor : MI := (cd_X9_takingsFor, pl_X9, 1, 5, [])
def cd_X9_playTune_0 : List (Nat × Instr × Nat) := [(0, .aload_n 0, 1), (1, .iload_n 1, 1), (2, .invokevirtual 134, 3), (5, .astore_n 3, 1), (6, .aload_n 3, 1), (7, .ifnonnull 5, 3), (10, .iconst 0, 1), (11, .ireturn, 1), (12, .aload_n 0, 1), (13, .iload_n 1, 1), (14, .aload_n 0, 1), (15, .iload_n 1, 1), (16, .invokevirtual 180, 3), (19, .invokevirtual 183, 3), (22, .istore 4, 2), (24, .aload_n 0, 1), (25, .aload_n 0, 1), (26, .getfield 19, 3), (29, .iload_n 1, 1), (30, .aaload, 1), (31, .iload 4, 2)]
def cd_X9_playTune_1 : List (Nat × Instr × Nat) := [(33, .invokevirtual 186, 3), (36, .aload_n 0, 1), (37, .iload_n 1, 1), (38, .invokevirtual 190, 3), (41, .aload_n 3, 1), (42, .aload_n 0, 1), (43, .getfield 71, 3), (46, .iload_n 2, 1), (47, .invokevirtual 194, 3), (50, .aload_n 0, 1), (51, .getfield 19, 3), (54, .iload_n 1, 1), (55, .aaload, 1), (56, .iload_n 2, 1), (57, .putfield 149, 3), (60, .aload_n 0, 1), (61, .dup, 1), (62, .getfield 78, 3)]
def cd_X9_playTune_2 : List (Nat × Instr × Nat) := [(65, .iconst 1, 1), (66, .iadd, 1), (67, .putfield 78, 3), (70, .aload_n 0, 1), (71, .dup, 1), (72, .getfield 81, 3), (75, .iconst 1, 1), (76, .iadd, 1), (77, .putfield 81, 3), (80, .iload 4, 2), (82, .ireturn, 1)]
def cd_X9_playTune : Chunks := [cd_X9_playTune_0, cd_X9_playTune_1, cd_X9_playTune_2]
def mi_X9_playTune : MI := (cd_X9_playTune, pl_X9, 1, 5, [])
def cd_X9_divideTakings_0 : List (Nat × Instr × Nat) := [(0, .iload_n 2, 1), (1, .aload_n 0, 1), (2, .getfield 29, 3), (5, .iconst 2, 1), (6, .iaload, 1), (7, .imul, 1), (8, .bipush 100, 2), (10, .idiv, 1), (11, .istore_n 3, 1), (12, .iload_n 3, 1), (13, .aload_n 0, 1), (14, .getfield 29, 3), (17, .iconst 3, 1), (18, .iaload, 1), (19, .imul, 1), (20, .bipush 100, 2), (22, .idiv, 1), (23, .istore 4, 2), (25, .iload_n 2, 1), (26, .iload_n 3, 1), (27, .isub, 1), (28, .istore 5, 2), (30, .iload 5, 2)]
def cd_X9_divideTakings_1 : List (Nat × Instr × Nat) := [(32, .aload_n 1, 1), (33, .getfield 198, 3), (36, .imul, 1), (37, .bipush 100, 2), (39, .idiv, 1), (40, .istore 6, 2), (42, .aload_n 0, 1), (43, .dup, 1), (44, .getfield 87, 3), (47, .iload 4, 2), (49, .iadd, 1), (50, .putfield 87, 3), (53, .aload_n 0, 1), (54, .dup, 1), (55, .getfield 84, 3), (58, .iload_n 3, 1), (59, .iload 4, 2), (61, .isub, 1), (62, .iadd, 1), (63, .putfield 84, 3)]
def cd_X9_divideTakings_2 : List (Nat × Instr × Nat) := [(66, .aload_n 1, 1), (67, .dup, 1), (68, .getfield 105, 3), (71, .iload 6, 2), (73, .iadd, 1), (74, .putfield 105, 3), (77, .aload_n 1, 1), (78, .dup, 1), (79, .getfield 108, 3), (82, .iload 5, 2), (84, .iload 6, 2), (86, .isub, 1), (87, .iadd, 1), (88, .putfield 108, 3), (91, .aload_n 1, 1), (92, .dup, 1), (93, .getfield 102, 3)]
def cd_X9_divideTakings_3 : List (Nat × Instr × Nat) := [(96, .iload_n 2, 1), (97, .iadd, 1), (98, .putfield 102, 3), (101, .return_, 1)]
def cd_X9_divideTakings : Chunks := [cd_X9_divideTakings_0, cd_X9_divideTakings_1, cd_X9_divideTakings_2, cd_X9_divideTakings_3]
def mi_X9_divideTakings : MI := (cd_X9_divideTakings, pl_X9, 0, 7, [])
def cd_X9_addHourOfCrew_0 : List (Nat × Instr × Nat) := [(0, .iconst 0, 1), (1, .istore_n 2, 1), (2, .iload_n 2, 1), (3, .aload_n 0, 1), (4, .getfield 65, 3), (7, .if_icmp .ge 52, 3), (10, .aload_n 0, 1), (11, .getfield 25, 3), (14, .iload_n 2, 1), (15, .aaload, 1), (16, .getfield 96, 3), (19, .iload_n 1, 1), (20, .if_icmp .ne 33, 3), (23, .aload_n 0, 1), (24, .getfield 25, 3), (27, .iload_n 2, 1), (28, .aaload, 1), (29, .getfield 201, 3)]
def cd_X9_addHourOfCrew_1 : List (Nat × Instr × Nat) := [(32, .iload_n 1, 1), (33, .dup2, 1), (34, .iaload, 1), (35, .iconst 1, 1), (36, .iadd, 1), (37, .iastore, 1), (38, .aload_n 0, 1), (39, .getfield 25, 3), (42, .iload_n 2, 1), (43, .aaload, 1), (44, .dup, 1), (45, .getfield 204, 3), (48, .iconst 1, 1), (49, .iadd, 1), (50, .putfield 204, 3), (53, .iinc 2 1, 3), (56, .goto (-54), 3), (59, .return_, 1)]
def cd_X9_addHourOfCrew : Chunks := [cd_X9_addHourOfCrew_0, cd_X9_addHourOfCrew_1]
def mi_X9_addHourOfCrew : MI := (cd_X9_addHourOfCrew, pl_X9, 0, 3, [])
def cd_X9_endHour_0 : List (Nat × Instr × Nat) := [(0, .iconst 0, 1), (1, .istore_n 2, 1), (2, .iload_n 2, 1), (3, .aload_n 0, 1), (4, .getfield 62, 3), (7, .if_icmp .ge 19, 3), (10, .aload_n 0, 1), (11, .getfield 19, 3), (14, .iload_n 2, 1), (15, .aaload, 1), (16, .iconst (-1), 1), (17, .putfield 149, 3), (20, .iinc 2 1, 3), (23, .goto (-21), 3), (26, .aload_n 0, 1), (27, .dup, 1), (28, .getfield 71, 3), (31, .iconst 1, 1)]
def cd_X9_endHour_1 : List (Nat × Instr × Nat) := [(32, .iadd, 1), (33, .putfield 71, 3), (36, .aload_n 0, 1), (37, .getfield 71, 3), (40, .bipush 10, 2), (42, .if_icmp .lt 17, 3), (45, .aload_n 1, 1), (46, .aload_n 0, 1), (47, .invokevirtual 207, 3), (50, .aload_n 0, 1), (51, .aload_n 1, 1), (52, .invokevirtual 213, 3), (55, .aload_n 0, 1), (56, .invokevirtual 217, 3), (59, .return_, 1)]
def cd_X9_endHour : Chunks := [cd_X9_endHour_0, cd_X9_endHour_1]
def mi_X9_endHour : MI := (cd_X9_endHour, pl_X9, 0, 3, [])
def cd_X9_payOut_0 : List (Nat × Instr × Nat) := [(0, .iconst 0, 1), (1, .istore_n 2, 1), (2, .iload_n 2, 1), (3, .aload_n 0, 1), (4, .getfield 65, 3), (7, .if_icmp .ge 63, 3), (10, .aload_n 1, 1), (11, .getfield 220, 3), (14, .iload_n 2, 1), (15, .iaload, 1), (16, .istore_n 3, 1), (17, .aload_n 0, 1), (18, .getfield 25, 3), (21, .iload_n 2, 1), (22, .aaload, 1), (23, .dup, 1), (24, .getfield 111, 3), (27, .aload_n 1, 1), (28, .getfield 223, 3), (31, .iload_n 2, 1)]
def cd_X9_payOut_1 : List (Nat × Instr × Nat) := [(32, .iaload, 1), (33, .iload_n 3, 1), (34, .iadd, 1), (35, .iadd, 1), (36, .putfield 111, 3), (39, .aload_n 0, 1), (40, .getfield 25, 3), (43, .iload_n 2, 1), (44, .aaload, 1), (45, .dup, 1), (46, .getfield 226, 3), (49, .iload_n 3, 1), (50, .iadd, 1), (51, .putfield 226, 3), (54, .aload_n 0, 1), (55, .dup, 1), (56, .getfield 87, 3), (59, .iload_n 3, 1), (60, .isub, 1), (61, .putfield 87, 3)]
def cd_X9_payOut_2 : List (Nat × Instr × Nat) := [(64, .iinc 2 1, 3), (67, .goto (-65), 3), (70, .iconst 0, 1), (71, .istore_n 2, 1), (72, .iload_n 2, 1), (73, .aload_n 0, 1), (74, .getfield 62, 3), (77, .if_icmp .ge 19, 3), (80, .aload_n 0, 1), (81, .getfield 19, 3), (84, .iload_n 2, 1), (85, .aaload, 1), (86, .iconst 0, 1), (87, .putfield 108, 3), (90, .iinc 2 1, 3), (93, .goto (-21), 3)]
def cd_X9_payOut_3 : List (Nat × Instr × Nat) := [(96, .return_, 1)]
def cd_X9_payOut : Chunks := [cd_X9_payOut_0, cd_X9_payOut_1, cd_X9_payOut_2, cd_X9_payOut_3]
def mi_X9_payOut : MI := (cd_X9_payOut, pl_X9, 0, 4, [])
def cd_X9_beginDay_0 : List (Nat × Instr × Nat) := [(0, .aload_n 0, 1), (1, .dup, 1), (2, .getfield 68, 3), (5, .iconst 1, 1), (6, .iadd, 1), (7, .putfield 68, 3), (10, .aload_n 0, 1), (11, .iconst 0, 1), (12, .putfield 71, 3), (15, .aload_n 0, 1), (16, .iconst 0, 1), (17, .putfield 74, 3), (20, .aload_n 0, 1), (21, .iconst 0, 1), (22, .putfield 78, 3), (25, .aload_n 0, 1), (26, .invokevirtual 114, 3), (29, .iconst 0, 1), (30, .istore_n 1, 1), (31, .iload_n 1, 1)]
def cd_X9_beginDay_1 : List (Nat × Instr × Nat) := [(32, .aload_n 0, 1), (33, .getfield 59, 3), (36, .if_icmp .ge 18, 3), (39, .aload_n 0, 1), (40, .getfield 11, 3), (43, .iload_n 1, 1), (44, .aaload, 1), (45, .invokevirtual 229, 3), (48, .iinc 1 1, 3), (51, .goto (-20), 3), (54, .iconst 0, 1), (55, .istore_n 1, 1), (56, .iload_n 1, 1), (57, .aload_n 0, 1), (58, .getfield 65, 3), (61, .if_icmp .ge 18, 3)]
def cd_X9_beginDay_2 : List (Nat × Instr × Nat) := [(64, .aload_n 0, 1), (65, .getfield 25, 3), (68, .iload_n 1, 1), (69, .aaload, 1), (70, .invokevirtual 232, 3), (73, .iinc 1 1, 3), (76, .goto (-20), 3), (79, .return_, 1)]
def cd_X9_beginDay : Chunks := [cd_X9_beginDay_0, cd_X9_beginDay_1, cd_X9_beginDay_2]
def mi_X9_beginDay : MI := (cd_X9_beginDay, pl_X9, 0, 2, [])
def cd_X10_addCorner_0 : List (Nat × Instr × Nat) := [(0, .iload_n 1, 1), (1, .iconst 0, 1), (2, .bipush 99, 2), (4, .invokestatic 44, 3), (7, .iload_n 2, 1), (8, .iconst 1, 1), (9, .bipush 90, 2), (11, .invokestatic 44, 3), (14, .iload_n 3, 1), (15, .iconst 0, 1), (16, .bipush 9, 2), (18, .invokestatic 44, 3), (21, .iload 4, 2), (23, .iconst 0, 1), (24, .bipush 9, 2), (26, .invokestatic 44, 3), (29, .aload_n 0, 1), (30, .getfield 10, 3)]
def cd_X10_addCorner_1 : List (Nat × Instr × Nat) := [(33, .getfield 48, 3), (36, .bipush 10, 2), (38, .if_icmp .ge 18, 3), (41, .aload_n 0, 1), (42, .getfield 10, 3), (45, .iload_n 1, 1), (46, .invokevirtual 52, 3), (49, .ifCond .ne 7, 3), (52, .iconst 1, 1), (53, .goto 4, 3), (56, .iconst 0, 1), (57, .invokestatic 56, 3), (60, .aload_n 0, 1), (61, .getfield 19, 3)]
def cd_X10_addCorner_2 : List (Nat × Instr × Nat) := [(64, .aload_n 0, 1), (65, .getfield 10, 3), (68, .invokevirtual 60, 3), (71, .aload_n 0, 1), (72, .getfield 10, 3), (75, .getfield 64, 3), (78, .aload_n 0, 1), (79, .getfield 10, 3), (82, .getfield 48, 3), (85, .aaload, 1), (86, .astore 5, 2), (88, .aload 5, 2), (90, .iload_n 1, 1), (91, .putfield 68, 3), (94, .aload 5, 2)]
def cd_X10_addCorner_3 : List (Nat × Instr × Nat) := [(96, .iload_n 2, 1), (97, .putfield 73, 3), (100, .aload 5, 2), (102, .iload_n 3, 1), (103, .putfield 76, 3), (106, .aload 5, 2), (108, .iload 4, 2), (110, .putfield 79, 3), (113, .aload_n 0, 1), (114, .getfield 10, 3), (117, .dup, 1), (118, .getfield 48, 3), (121, .iconst 1, 1), (122, .iadd, 1), (123, .putfield 48, 3), (126, .aload_n 0, 1), (127, .getfield 10, 3)]
def cd_X10_addCorner_4 : List (Nat × Instr × Nat) := [(130, .getfield 48, 3), (133, .iconst 1, 1), (134, .isub, 1), (135, .ireturn, 1)]
def cd_X10_addCorner : Chunks := [cd_X10_addCorner_0, cd_X10_addCorner_1, cd_X10_addCorner_2, cd_X10_addCorner_3, cd_X10_addCorner_4]
def mi_X10_addCorner : MI := (cd_X10_addCorner, pl_X10, 1, 6, [])
def cd_X10_addOrgan_0 : List (Nat × Instr × Nat) := [(0, .iload_n 1, 1), (1, .iconst 0, 1), (2, .bipush 50, 2), (4, .invokestatic 44, 3), (7, .aload_n 0, 1), (8, .getfield 10, 3), (11, .getfield 82, 3), (14, .iconst 5, 1), (15, .if_icmp .ge 7, 3), (18, .iconst 1, 1), (19, .goto 4, 3), (22, .iconst 0, 1), (23, .invokestatic 56, 3), (26, .aload_n 0, 1), (27, .getfield 19, 3), (30, .aload_n 0, 1), (31, .getfield 10, 3)]
def cd_X10_addOrgan_1 : List (Nat × Instr × Nat) := [(34, .invokevirtual 60, 3), (37, .aload_n 0, 1), (38, .getfield 10, 3), (41, .getfield 85, 3), (44, .aload_n 0, 1), (45, .getfield 10, 3), (48, .getfield 82, 3), (51, .aaload, 1), (52, .iload_n 1, 1), (53, .putfield 89, 3), (56, .aload_n 0, 1), (57, .getfield 10, 3), (60, .dup, 1), (61, .getfield 82, 3)]
def cd_X10_addOrgan_2 : List (Nat × Instr × Nat) := [(64, .iconst 1, 1), (65, .iadd, 1), (66, .putfield 82, 3), (69, .aload_n 0, 1), (70, .getfield 10, 3), (73, .getfield 82, 3), (76, .iconst 1, 1), (77, .isub, 1), (78, .ireturn, 1)]
def cd_X10_addOrgan : Chunks := [cd_X10_addOrgan_0, cd_X10_addOrgan_1, cd_X10_addOrgan_2]
def mi_X10_addOrgan : MI := (cd_X10_addOrgan, pl_X10, 1, 2, [])
def cd_X10_addPlayer_0 : List (Nat × Instr × Nat) := [(0, .aload_n 0, 1), (1, .getfield 10, 3), (4, .getfield 94, 3), (7, .bipush 8, 2), (9, .if_icmp .ge 7, 3), (12, .iconst 1, 1), (13, .goto 4, 3), (16, .iconst 0, 1), (17, .invokestatic 56, 3), (20, .aload_n 0, 1), (21, .getfield 19, 3), (24, .aload_n 0, 1), (25, .getfield 10, 3), (28, .invokevirtual 60, 3), (31, .aload_n 0, 1)]
def cd_X10_addPlayer_1 : List (Nat × Instr × Nat) := [(32, .getfield 10, 3), (35, .dup, 1), (36, .getfield 94, 3), (39, .iconst 1, 1), (40, .iadd, 1), (41, .putfield 94, 3), (44, .aload_n 0, 1), (45, .getfield 10, 3), (48, .getfield 94, 3), (51, .iconst 1, 1), (52, .isub, 1), (53, .ireturn, 1)]
def cd_X10_addPlayer : Chunks := [cd_X10_addPlayer_0, cd_X10_addPlayer_1]
def mi_X10_addPlayer : MI := (cd_X10_addPlayer, pl_X10, 1, 1, [])
def cd_X10_permit_0 : List (Nat × Instr × Nat) := [(0, .iload_n 1, 1), (1, .aload_n 0, 1), (2, .getfield 10, 3), (5, .getfield 82, 3), (8, .invokestatic 97, 3), (11, .aload_n 0, 1), (12, .getfield 19, 3), (15, .aload_n 0, 1), (16, .getfield 10, 3), (19, .invokevirtual 60, 3), (22, .aload_n 0, 1), (23, .getfield 10, 3), (26, .getfield 85, 3), (29, .iload_n 1, 1), (30, .aaload, 1), (31, .iload_n 2, 1)]
def cd_X10_permit_1 : List (Nat × Instr × Nat) := [(32, .putfield 101, 3), (35, .aload_n 0, 1), (36, .getfield 10, 3), (39, .invokevirtual 105, 3), (42, .ireturn, 1)]
def cd_X10_permit : Chunks := [cd_X10_permit_0, cd_X10_permit_1]
def mi_X10_permit : MI := (cd_X10_permit, pl_X10, 1, 3, [])
def cd_X10_barrel_0 : List (Nat × Instr × Nat) := [(0, .iload_n 1, 1), (1, .aload_n 0, 1), (2, .getfield 10, 3), (5, .getfield 82, 3), (8, .invokestatic 97, 3), (11, .iload_n 2, 1), (12, .iconst 0, 1), (13, .sipush 1023, 3), (16, .invokestatic 44, 3), (19, .aload_n 0, 1), (20, .getfield 19, 3), (23, .aload_n 0, 1), (24, .getfield 10, 3), (27, .invokevirtual 60, 3), (30, .aload_n 0, 1), (31, .getfield 10, 3)]
def cd_X10_barrel_1 : List (Nat × Instr × Nat) := [(34, .getfield 85, 3), (37, .iload_n 1, 1), (38, .aaload, 1), (39, .getfield 109, 3), (42, .istore_n 3, 1), (43, .aload_n 0, 1), (44, .getfield 10, 3), (47, .getfield 85, 3), (50, .iload_n 1, 1), (51, .aaload, 1), (52, .iload_n 2, 1), (53, .putfield 109, 3), (56, .iload_n 3, 1), (57, .ireturn, 1)]
def cd_X10_barrel : Chunks := [cd_X10_barrel_0, cd_X10_barrel_1]
def mi_X10_barrel : MI := (cd_X10_barrel, pl_X10, 1, 4, [])
def cd_X10_assign_0 : List (Nat × Instr × Nat) := [(0, .iload_n 1, 1), (1, .aload_n 0, 1), (2, .getfield 10, 3), (5, .getfield 94, 3), (8, .invokestatic 97, 3), (11, .iload_n 2, 1), (12, .iconst (-1), 1), (13, .if_icmp .eq 14, 3), (16, .iload_n 2, 1), (17, .aload_n 0, 1), (18, .getfield 10, 3), (21, .getfield 82, 3), (24, .invokestatic 97, 3), (27, .aload_n 0, 1), (28, .getfield 19, 3), (31, .aload_n 0, 1)]
def cd_X10_assign_1 : List (Nat × Instr × Nat) := [(32, .getfield 10, 3), (35, .invokevirtual 60, 3), (38, .aload_n 0, 1), (39, .getfield 10, 3), (42, .getfield 112, 3), (45, .iload_n 1, 1), (46, .aaload, 1), (47, .getfield 116, 3), (50, .istore_n 3, 1), (51, .aload_n 0, 1), (52, .getfield 10, 3), (55, .getfield 112, 3), (58, .iload_n 1, 1), (59, .aaload, 1), (60, .iload_n 2, 1), (61, .putfield 116, 3)]
def cd_X10_assign_2 : List (Nat × Instr × Nat) := [(64, .iload_n 3, 1), (65, .ireturn, 1)]
def cd_X10_assign : Chunks := [cd_X10_assign_0, cd_X10_assign_1, cd_X10_assign_2]
def mi_X10_assign : MI := (cd_X10_assign, pl_X10, 1, 4, [])
def cd_X10_set_0 : List (Nat × Instr × Nat) := [(0, .iload_n 1, 1), (1, .iconst 5, 1), (2, .invokestatic 97, 3), (5, .iload_n 2, 1), (6, .iconst 0, 1), (7, .getstatic 121, 3), (10, .iload_n 1, 1), (11, .iaload, 1), (12, .invokestatic 44, 3), (15, .aload_n 0, 1), (16, .getfield 19, 3), (19, .aload_n 0, 1), (20, .getfield 10, 3), (23, .invokevirtual 60, 3), (26, .aload_n 0, 1), (27, .getfield 10, 3), (30, .getfield 125, 3)]
def cd_X10_set_1 : List (Nat × Instr × Nat) := [(33, .iload_n 1, 1), (34, .iaload, 1), (35, .istore_n 3, 1), (36, .aload_n 0, 1), (37, .getfield 10, 3), (40, .getfield 125, 3), (43, .iload_n 1, 1), (44, .iload_n 2, 1), (45, .iastore, 1), (46, .iload_n 3, 1), (47, .ireturn, 1)]
def cd_X10_set : Chunks := [cd_X10_set_0, cd_X10_set_1]
def mi_X10_set : MI := (cd_X10_set, pl_X10, 1, 4, [])
def cd_X10_lots_0 : List (Nat × Instr × Nat) := [(0, .aload_n 0, 1), (1, .getfield 10, 3), (4, .invokevirtual 128, 3), (7, .invokestatic 56, 3), (10, .aload_n 0, 1), (11, .getfield 19, 3), (14, .aload_n 0, 1), (15, .getfield 10, 3), (18, .invokevirtual 60, 3), (21, .aload_n 0, 1), (22, .getfield 10, 3), (25, .invokevirtual 132, 3), (28, .ireturn, 1)]
def cd_X10_lots : Chunks := [cd_X10_lots_0]
def mi_X10_lots : MI := (cd_X10_lots, pl_X10, 1, 1, [])
def cd_X10_weather_0 : List (Nat × Instr × Nat) := [(0, .aload_n 0, 1), (1, .getfield 10, 3), (4, .invokevirtual 135, 3), (7, .invokestatic 56, 3), (10, .aload_n 0, 1), (11, .getfield 19, 3), (14, .aload_n 0, 1), (15, .getfield 10, 3), (18, .invokevirtual 60, 3), (21, .aload_n 0, 1), (22, .getfield 10, 3), (25, .getfield 138, 3), (28, .invokestatic 141, 3), (31, .istore_n 2, 1)]
def cd_X10_weather_1 : List (Nat × Instr × Nat) := [(32, .aload_n 0, 1), (33, .getfield 10, 3), (36, .iload_n 1, 1), (37, .putfield 138, 3), (40, .iload_n 2, 1), (41, .ireturn, 1)]
def cd_X10_weather : Chunks := [cd_X10_weather_0, cd_X10_weather_1]
def mi_X10_weather : MI := (cd_X10_weather, pl_X10, 1, 3, [])
def cd_X10_play_0 : List (Nat × Instr × Nat) := [(0, .iload_n 1, 1), (1, .aload_n 0, 1), (2, .getfield 10, 3), (5, .getfield 82, 3), (8, .invokestatic 97, 3), (11, .iload_n 2, 1), (12, .iconst 0, 1), (13, .bipush 9, 2), (15, .invokestatic 44, 3), (18, .aload_n 0, 1), (19, .getfield 10, 3), (22, .iload_n 1, 1), (23, .iload_n 2, 1), (24, .invokevirtual 145, 3), (27, .ifCond .ne 7, 3), (30, .iconst 1, 1), (31, .goto 4, 3)]
def cd_X10_play_1 : List (Nat × Instr × Nat) := [(34, .iconst 0, 1), (35, .invokestatic 56, 3), (38, .aload_n 0, 1), (39, .getfield 19, 3), (42, .aload_n 0, 1), (43, .getfield 10, 3), (46, .invokevirtual 60, 3), (49, .aload_n 0, 1), (50, .getfield 10, 3), (53, .iload_n 1, 1), (54, .iload_n 2, 1), (55, .invokevirtual 149, 3), (58, .ireturn, 1)]
def cd_X10_play : Chunks := [cd_X10_play_0, cd_X10_play_1]
def mi_X10_play : MI := (cd_X10_play, pl_X10, 1, 3, [])
def cd_X10_next_0 : List (Nat × Instr × Nat) := [(0, .aload_n 0, 1), (1, .getfield 19, 3), (4, .aload_n 0, 1), (5, .getfield 10, 3), (8, .invokevirtual 60, 3), (11, .aload_n 0, 1), (12, .getfield 10, 3), (15, .aload_n 0, 1), (16, .getfield 33, 3), (19, .invokevirtual 152, 3), (22, .aload_n 0, 1), (23, .getfield 10, 3), (26, .getfield 156, 3), (29, .ireturn, 1)]
def cd_X10_next : Chunks := [cd_X10_next_0]
def mi_X10_next : MI := (cd_X10_next, pl_X10, 1, 1, [])
def cd_X10_append_0 : List (Nat × Instr × Nat) := [(0, .iload_n 1, 1), (1, .bipush 33, 2), (3, .bipush 126, 2), (5, .invokestatic 44, 3), (8, .aload_n 0, 1), (9, .getfield 26, 3), (12, .getfield 159, 3), (15, .bipush 60, 2), (17, .if_icmp .ge 7, 3), (20, .iconst 1, 1), (21, .goto 4, 3), (24, .iconst 0, 1), (25, .invokestatic 56, 3), (28, .aload_n 0, 1), (29, .getfield 26, 3)]
def cd_X10_append_1 : List (Nat × Instr × Nat) := [(32, .getfield 162, 3), (35, .aload_n 0, 1), (36, .getfield 26, 3), (39, .getfield 159, 3), (42, .iload_n 1, 1), (43, .iastore, 1), (44, .aload_n 0, 1), (45, .getfield 26, 3), (48, .dup, 1), (49, .getfield 159, 3), (52, .iconst 1, 1), (53, .iadd, 1), (54, .putfield 159, 3), (57, .aload_n 0, 1), (58, .getfield 26, 3), (61, .getfield 159, 3)]
def cd_X10_append_2 : List (Nat × Instr × Nat) := [(64, .ireturn, 1)]
def cd_X10_append : Chunks := [cd_X10_append_0, cd_X10_append_1, cd_X10_append_2]
def mi_X10_append : MI := (cd_X10_append, pl_X10, 1, 2, [])
def cd_X10_clearBuffer_0 : List (Nat × Instr × Nat) := [(0, .aload_n 0, 1), (1, .getfield 26, 3), (4, .getfield 159, 3), (7, .istore_n 1, 1), (8, .aload_n 0, 1), (9, .getfield 26, 3), (12, .iconst 0, 1), (13, .putfield 159, 3), (16, .iload_n 1, 1), (17, .ireturn, 1)]
def cd_X10_clearBuffer : Chunks := [cd_X10_clearBuffer_0]
def mi_X10_clearBuffer : MI := (cd_X10_clearBuffer, pl_X10, 1, 2, [])
def cd_X10_firstError_0 : List (Nat × Instr × Nat) := [(0, .aload_n 0, 1), (1, .getfield 26, 3), (4, .invokevirtual 165, 3), (7, .ireturn, 1)]
def cd_X10_firstError : Chunks := [cd_X10_firstError_0]
def mi_X10_firstError : MI := (cd_X10_firstError, pl_X10, 1, 1, [])
def cd_X10_run_0 : List (Nat × Instr × Nat) := [(0, .aload_n 0, 1), (1, .getfield 26, 3), (4, .invokevirtual 168, 3), (7, .ifCond .ne 13, 3), (10, .new 171, 3), (13, .dup, 1), (14, .ldc 173, 2), (16, .invokespecial 175, 3), (19, .athrow, 1), (20, .aload_n 0, 1), (21, .getfield 19, 3), (24, .aload_n 0, 1), (25, .getfield 10, 3), (28, .invokevirtual 60, 3), (31, .iconst 0, 1)]
def cd_X10_run_1 : List (Nat × Instr × Nat) := [(32, .istore_n 1, 1), (33, .iconst 0, 1), (34, .istore_n 2, 1), (35, .iload_n 2, 1), (36, .aload_n 0, 1), (37, .getfield 26, 3), (40, .getfield 159, 3), (43, .if_icmp .ge 43, 3), (46, .aload_n 0, 1), (47, .getfield 26, 3), (50, .iload_n 2, 1), (51, .invokevirtual 178, 3), (54, .astore_n 3, 1), (55, .aload_n 3, 1), (56, .ifnull 30, 3), (59, .aload_n 0, 1), (60, .aload_n 3, 1), (61, .iload_n 2, 1), (62, .invokevirtual 182, 3)]
def cd_X10_run_2 : List (Nat × Instr × Nat) := [(65, .ifCond .ne 6, 3), (68, .goto 18, 3), (71, .iinc 1 1, 3), (74, .iload_n 2, 1), (75, .aload_n 3, 1), (76, .invokevirtual 186, 3), (79, .iconst 1, 1), (80, .iadd, 1), (81, .iadd, 1), (82, .istore_n 2, 1), (83, .goto (-48), 3), (86, .aload_n 0, 1), (87, .getfield 26, 3), (90, .iconst 0, 1), (91, .putfield 159, 3), (94, .iload_n 1, 1), (95, .ireturn, 1)]
def cd_X10_run : Chunks := [cd_X10_run_0, cd_X10_run_1, cd_X10_run_2]
def mi_X10_run : MI := (cd_X10_run, pl_X10, 1, 4, [])
def cd_X10_undo_0 : List (Nat × Instr × Nat) := [(0, .aload_n 0, 1), (1, .getfield 19, 3), (4, .getfield 191, 3), (7, .ifCond .le 7, 3), (10, .iconst 1, 1), (11, .goto 4, 3), (14, .iconst 0, 1), (15, .invokestatic 56, 3), (18, .aload_n 0, 1), (19, .getfield 19, 3), (22, .aload_n 0, 1), (23, .getfield 10, 3), (26, .invokevirtual 194, 3), (29, .aload_n 0, 1), (30, .getfield 19, 3)]
def cd_X10_undo_1 : List (Nat × Instr × Nat) := [(33, .getfield 191, 3), (36, .ireturn, 1)]
def cd_X10_undo : Chunks := [cd_X10_undo_0, cd_X10_undo_1]
def mi_X10_undo : MI := (cd_X10_undo, pl_X10, 1, 1, [])
def cd_X10_corner_0 : List (Nat × Instr × Nat) := [(0, .iload_n 1, 1), (1, .aload_n 0, 1), (2, .getfield 10, 3), (5, .getfield 48, 3), (8, .invokestatic 97, 3), (11, .iload_n 2, 1), (12, .iconst 0, 1), (13, .iconst 5, 1), (14, .invokestatic 44, 3), (17, .aload_n 0, 1), (18, .getfield 10, 3), (21, .getfield 64, 3), (24, .iload_n 1, 1), (25, .aaload, 1), (26, .astore_n 3, 1), (27, .iload_n 2, 1), (28, .tableswitch 78 0 4 #[36, 41, 46, 61, 70], 36)]
def cd_X10_corner_1 : List (Nat × Instr × Nat) := []
def cd_X10_corner_2 : List (Nat × Instr × Nat) := [(64, .aload_n 3, 1), (65, .getfield 68, 3), (68, .ireturn, 1), (69, .aload_n 3, 1), (70, .getfield 73, 3), (73, .ireturn, 1), (74, .aload_n 3, 1), (75, .aload_n 0, 1), (76, .getfield 10, 3), (79, .getfield 156, 3), (82, .invokevirtual 197, 3), (85, .invokestatic 141, 3), (88, .ireturn, 1), (89, .aload_n 0, 1), (90, .getfield 10, 3), (93, .iload_n 1, 1), (94, .invokevirtual 200, 3)]
def cd_X10_corner_3 : List (Nat × Instr × Nat) := [(97, .ireturn, 1), (98, .aload_n 3, 1), (99, .iconst 0, 1), (100, .bipush 9, 2), (102, .invokevirtual 204, 3), (105, .ireturn, 1), (106, .aload_n 0, 1), (107, .getfield 10, 3), (110, .aload_n 3, 1), (111, .invokevirtual 207, 3), (114, .ireturn, 1)]
def cd_X10_corner : Chunks := [cd_X10_corner_0, cd_X10_corner_1, cd_X10_corner_2, cd_X10_corner_3]
def mi_X10_corner : MI := (cd_X10_corner, pl_X10, 1, 4, [])
def cd_X10_organ_0 : List (Nat × Instr × Nat) := [(0, .iload_n 1, 1), (1, .aload_n 0, 1), (2, .getfield 10, 3), (5, .getfield 82, 3), (8, .invokestatic 97, 3), (11, .iload_n 2, 1), (12, .iconst 0, 1), (13, .bipush 8, 2), (15, .invokestatic 44, 3), (18, .aload_n 0, 1), (19, .getfield 10, 3), (22, .getfield 85, 3), (25, .iload_n 1, 1), (26, .aaload, 1), (27, .astore_n 3, 1), (28, .iload_n 2, 1), (29, .tableswitch 94 0 7 #[47, 52, 60, 65, 70, 79, 84, 89], 47)]
def cd_X10_organ_1 : List (Nat × Instr × Nat) := []
def cd_X10_organ_2 : List (Nat × Instr × Nat) := [(76, .aload_n 3, 1), (77, .getfield 89, 3), (80, .ireturn, 1), (81, .aload_n 3, 1), (82, .getfield 101, 3), (85, .invokestatic 141, 3), (88, .ireturn, 1), (89, .aload_n 3, 1), (90, .getfield 109, 3), (93, .ireturn, 1), (94, .aload_n 3, 1), (95, .getfield 211, 3)]
def cd_X10_organ_3 : List (Nat × Instr × Nat) := [(98, .ireturn, 1), (99, .aload_n 0, 1), (100, .getfield 10, 3), (103, .iload_n 1, 1), (104, .invokevirtual 214, 3), (107, .ireturn, 1), (108, .aload_n 3, 1), (109, .getfield 217, 3), (112, .ireturn, 1), (113, .aload_n 3, 1), (114, .getfield 220, 3), (117, .ireturn, 1), (118, .aload_n 3, 1), (119, .getfield 223, 3), (122, .ireturn, 1), (123, .aload_n 3, 1), (124, .getfield 226, 3), (127, .ireturn, 1)]
def cd_X10_organ : Chunks := [cd_X10_organ_0, cd_X10_organ_1, cd_X10_organ_2, cd_X10_organ_3]
def mi_X10_organ : MI := (cd_X10_organ, pl_X10, 1, 4, [])
def cd_X10_player_0 : List (Nat × Instr × Nat) := [(0, .iload_n 1, 1), (1, .aload_n 0, 1), (2, .getfield 10, 3), (5, .getfield 94, 3), (8, .invokestatic 97, 3), (11, .iload_n 2, 1), (12, .iconst 0, 1), (13, .iconst 4, 1), (14, .invokestatic 44, 3), (17, .aload_n 0, 1), (18, .getfield 10, 3), (21, .getfield 112, 3), (24, .iload_n 1, 1), (25, .aaload, 1), (26, .astore_n 3, 1), (27, .iload_n 2, 1), (28, .tableswitch 52 0 3 #[32, 37, 42, 47], 32)]
def cd_X10_player_1 : List (Nat × Instr × Nat) := [(60, .aload_n 3, 1), (61, .getfield 116, 3)]
def cd_X10_player_2 : List (Nat × Instr × Nat) := [(64, .ireturn, 1), (65, .aload_n 3, 1), (66, .invokevirtual 229, 3), (69, .ireturn, 1), (70, .aload_n 3, 1), (71, .getfield 232, 3), (74, .ireturn, 1), (75, .aload_n 3, 1), (76, .getfield 235, 3), (79, .ireturn, 1), (80, .aload_n 3, 1), (81, .getfield 238, 3), (84, .ireturn, 1)]
def cd_X10_player : Chunks := [cd_X10_player_0, cd_X10_player_1, cd_X10_player_2]
def mi_X10_player : MI := (cd_X10_player, pl_X10, 1, 4, [])
def cd_X10_hours_0 : List (Nat × Instr × Nat) := [(0, .iload_n 1, 1), (1, .aload_n 0, 1), (2, .getfield 10, 3), (5, .getfield 94, 3), (8, .invokestatic 97, 3), (11, .iload_n 2, 1), (12, .aload_n 0, 1), (13, .getfield 10, 3), (16, .getfield 82, 3), (19, .invokestatic 97, 3), (22, .aload_n 0, 1), (23, .getfield 10, 3), (26, .getfield 112, 3), (29, .iload_n 1, 1), (30, .aaload, 1), (31, .getfield 241, 3)]
def cd_X10_hours_1 : List (Nat × Instr × Nat) := [(34, .iload_n 2, 1), (35, .iaload, 1), (36, .ireturn, 1)]
def cd_X10_hours : Chunks := [cd_X10_hours_0, cd_X10_hours_1]
def mi_X10_hours : MI := (cd_X10_hours, pl_X10, 1, 3, [])
def cd_X10_count_0 : List (Nat × Instr × Nat) := [(0, .iload_n 1, 1), (1, .iconst 0, 1), (2, .bipush 15, 2), (4, .invokestatic 44, 3), (7, .iload_n 1, 1), (8, .tableswitch 199 0 14 #[76, 84, 92, 100, 108, 116, 127, 135, 143, 151, 159, 167, 175, 183, 191], 76)]
def cd_X10_count_1 : List (Nat × Instr × Nat) := []
def cd_X10_count_2 : List (Nat × Instr × Nat) := [(84, .aload_n 0, 1), (85, .getfield 10, 3), (88, .getfield 48, 3), (91, .ireturn, 1), (92, .aload_n 0, 1), (93, .getfield 10, 3)]
def cd_X10_count_3 : List (Nat × Instr × Nat) := [(96, .getfield 82, 3), (99, .ireturn, 1), (100, .aload_n 0, 1), (101, .getfield 10, 3), (104, .getfield 94, 3), (107, .ireturn, 1), (108, .aload_n 0, 1), (109, .getfield 10, 3), (112, .getfield 244, 3), (115, .ireturn, 1), (116, .aload_n 0, 1), (117, .getfield 10, 3), (120, .getfield 156, 3), (123, .ireturn, 1), (124, .aload_n 0, 1), (125, .getfield 10, 3)]
def cd_X10_count_4 : List (Nat × Instr × Nat) := [(128, .getfield 138, 3), (131, .invokestatic 141, 3), (134, .ireturn, 1), (135, .aload_n 0, 1), (136, .getfield 10, 3), (139, .getfield 247, 3), (142, .ireturn, 1), (143, .aload_n 0, 1), (144, .getfield 10, 3), (147, .getfield 250, 3), (150, .ireturn, 1), (151, .aload_n 0, 1), (152, .getfield 10, 3), (155, .getfield 253, 3), (158, .ireturn, 1), (159, .aload_n 0, 1)]
def cd_X10_count_5 : List (Nat × Instr × Nat) := [(160, .getfield 10, 3), (163, .invokevirtual 256, 3), (166, .ireturn, 1), (167, .aload_n 0, 1), (168, .getfield 10, 3), (171, .getfield 259, 3), (174, .ireturn, 1), (175, .aload_n 0, 1), (176, .getfield 10, 3), (179, .getfield 262, 3), (182, .ireturn, 1), (183, .aload_n 0, 1), (184, .getfield 10, 3), (187, .invokevirtual 265, 3), (190, .ireturn, 1), (191, .aload_n 0, 1)]
def cd_X10_count_6 : List (Nat × Instr × Nat) := [(192, .getfield 10, 3), (195, .invokevirtual 268, 3), (198, .ireturn, 1), (199, .aload_n 0, 1), (200, .getfield 10, 3), (203, .invokevirtual 271, 3), (206, .ireturn, 1), (207, .aload_n 0, 1), (208, .getfield 19, 3), (211, .getfield 191, 3), (214, .ireturn, 1)]
def cd_X10_count : Chunks := [cd_X10_count_0, cd_X10_count_1, cd_X10_count_2, cd_X10_count_3, cd_X10_count_4, cd_X10_count_5, cd_X10_count_6]
def mi_X10_count : MI := (cd_X10_count, pl_X10, 1, 2, [])
def cd_X10_setting_0 : List (Nat × Instr × Nat) := [(0, .iload_n 1, 1), (1, .iconst 5, 1), (2, .invokestatic 97, 3), (5, .aload_n 0, 1), (6, .getfield 10, 3), (9, .getfield 125, 3), (12, .iload_n 1, 1), (13, .iaload, 1), (14, .ireturn, 1)]
def cd_X10_setting : Chunks := [cd_X10_setting_0]
def mi_X10_setting : MI := (cd_X10_setting, pl_X10, 1, 2, [])
def cd_X10_whyNot_0 : List (Nat × Instr × Nat) := [(0, .iload_n 1, 1), (1, .aload_n 0, 1), (2, .getfield 10, 3), (5, .getfield 82, 3), (8, .invokestatic 97, 3), (11, .iload_n 2, 1), (12, .iconst 0, 1), (13, .bipush 9, 2), (15, .invokestatic 44, 3), (18, .aload_n 0, 1), (19, .getfield 10, 3), (22, .iload_n 1, 1), (23, .iload_n 2, 1), (24, .invokevirtual 145, 3), (27, .ireturn, 1)]
def cd_X10_whyNot : Chunks := [cd_X10_whyNot_0]
def mi_X10_whyNot : MI := (cd_X10_whyNot, pl_X10, 1, 3, [])
def cd_X10_ifPlayed_0 : List (Nat × Instr × Nat) := [(0, .iload_n 1, 1), (1, .aload_n 0, 1), (2, .getfield 10, 3), (5, .getfield 82, 3), (8, .invokestatic 97, 3), (11, .aload_n 0, 1), (12, .getfield 10, 3), (15, .iload_n 1, 1), (16, .invokevirtual 274, 3), (19, .ifCond .ne 5, 3), (22, .iconst (-1), 1), (23, .ireturn, 1), (24, .aload_n 0, 1), (25, .getfield 10, 3), (28, .iload_n 1, 1), (29, .aload_n 0, 1), (30, .getfield 10, 3)]
def cd_X10_ifPlayed_1 : List (Nat × Instr × Nat) := [(33, .iload_n 1, 1), (34, .invokevirtual 277, 3), (37, .invokevirtual 280, 3), (40, .ireturn, 1)]
def cd_X10_ifPlayed : Chunks := [cd_X10_ifPlayed_0, cd_X10_ifPlayed_1]
def mi_X10_ifPlayed : MI := (cd_X10_ifPlayed, pl_X10, 1, 2, [])
def cd_X10_kindestTune_0 : List (Nat × Instr × Nat) := [(0, .iload_n 1, 1), (1, .aload_n 0, 1), (2, .getfield 10, 3), (5, .getfield 82, 3), (8, .invokestatic 97, 3), (11, .aload_n 0, 1), (12, .getfield 40, 3), (15, .aload_n 0, 1), (16, .getfield 10, 3), (19, .invokevirtual 283, 3), (22, .aload_n 0, 1), (23, .getfield 40, 3), (26, .aload_n 0, 1), (27, .getfield 10, 3), (30, .iload_n 1, 1), (31, .invokevirtual 286, 3)]
def cd_X10_kindestTune_1 : List (Nat × Instr × Nat) := [(34, .ireturn, 1)]
def cd_X10_kindestTune : Chunks := [cd_X10_kindestTune_0, cd_X10_kindestTune_1]
def mi_X10_kindestTune : MI := (cd_X10_kindestTune, pl_X10, 1, 2, [])
def cd_X10_most_0 : List (Nat × Instr × Nat) := [(0, .iload_n 1, 1), (1, .iconst 0, 1), (2, .iconst 1, 1), (3, .invokestatic 44, 3), (6, .aload_n 0, 1), (7, .getfield 40, 3), (10, .aload_n 0, 1), (11, .getfield 10, 3), (14, .invokevirtual 283, 3), (17, .aload_n 0, 1), (18, .getfield 40, 3), (21, .aload_n 0, 1), (22, .getfield 10, 3), (25, .invokevirtual 290, 3), (28, .iload_n 1, 1), (29, .ifCond .ne 13, 3)]
def cd_X10_most_1 : List (Nat × Instr × Nat) := [(32, .aload_n 0, 1), (33, .getfield 40, 3), (36, .getfield 293, 3), (39, .goto 10, 3), (42, .aload_n 0, 1), (43, .getfield 40, 3), (46, .getfield 296, 3), (49, .ireturn, 1)]
def cd_X10_most : Chunks := [cd_X10_most_0, cd_X10_most_1]
def mi_X10_most : MI := (cd_X10_most, pl_X10, 1, 2, [])
def cd_X10_ifEnded_0 : List (Nat × Instr × Nat) := [(0, .iload_n 1, 1), (1, .aload_n 0, 1), (2, .getfield 10, 3), (5, .getfield 94, 3), (8, .invokestatic 97, 3), (11, .aload_n 0, 1), (12, .getfield 33, 3), (15, .aload_n 0, 1), (16, .getfield 10, 3), (19, .invokevirtual 299, 3), (22, .aload_n 0, 1), (23, .getfield 33, 3), (26, .getfield 302, 3), (29, .iload_n 1, 1), (30, .iaload, 1), (31, .aload_n 0, 1)]
def cd_X10_ifEnded_1 : List (Nat × Instr × Nat) := [(32, .getfield 33, 3), (35, .getfield 305, 3), (38, .iload_n 1, 1), (39, .iaload, 1), (40, .iadd, 1), (41, .ireturn, 1)]
def cd_X10_ifEnded : Chunks := [cd_X10_ifEnded_0, cd_X10_ifEnded_1]
def mi_X10_ifEnded : MI := (cd_X10_ifEnded, pl_X10, 1, 2, [])
def cd_X10_playersShare_0 : List (Nat × Instr × Nat) := [(0, .aload_n 0, 1), (1, .getfield 10, 3), (4, .invokevirtual 256, 3), (7, .istore_n 1, 1), (8, .iload_n 1, 1), (9, .ifCond .ne 5, 3), (12, .dconst 0, 1), (13, .dreturn, 1), (14, .aload_n 0, 1), (15, .getfield 10, 3), (18, .invokevirtual 271, 3), (21, .i2d, 1), (22, .iload_n 1, 1), (23, .i2d, 1), (24, .ddiv, 1), (25, .dreturn, 1)]
def cd_X10_playersShare : Chunks := [cd_X10_playersShare_0]
def mi_X10_playersShare : MI := (cd_X10_playersShare, pl_X10, 4, 2, [])
def cd_X10_digest_0 : List (Nat × Instr × Nat) := [(0, .ldc2_w 308, 3), (3, .lstore_n 1, 1), (4, .iconst 0, 1), (5, .istore_n 3, 1), (6, .iload_n 3, 1), (7, .bipush 16, 2), (9, .if_icmp .ge 20, 3), (12, .lload_n 1, 1), (13, .aload_n 0, 1), (14, .iload_n 3, 1), (15, .invokevirtual 310, 3), (18, .i2l, 1), (19, .invokestatic 312, 3), (22, .lstore_n 1, 1), (23, .iinc 3 1, 3), (26, .goto (-20), 3), (29, .iconst 0, 1), (30, .istore_n 3, 1), (31, .iload_n 3, 1)]
def cd_X10_digest_1 : List (Nat × Instr × Nat) := [(32, .iconst 5, 1), (33, .if_icmp .ge 20, 3), (36, .lload_n 1, 1), (37, .aload_n 0, 1), (38, .iload_n 3, 1), (39, .invokevirtual 316, 3), (42, .i2l, 1), (43, .invokestatic 312, 3), (46, .lstore_n 1, 1), (47, .iinc 3 1, 3), (50, .goto (-19), 3), (53, .iconst 0, 1), (54, .istore_n 3, 1), (55, .iload_n 3, 1), (56, .aload_n 0, 1), (57, .getfield 10, 3), (60, .getfield 48, 3), (63, .if_icmp .ge 16, 3)]
def cd_X10_digest_2 : List (Nat × Instr × Nat) := [(66, .aload_n 0, 1), (67, .lload_n 1, 1), (68, .iload_n 3, 1), (69, .invokevirtual 319, 3), (72, .lstore_n 1, 1), (73, .iinc 3 1, 3), (76, .goto (-21), 3), (79, .iconst 0, 1), (80, .istore_n 3, 1), (81, .iload_n 3, 1), (82, .aload_n 0, 1), (83, .getfield 10, 3), (86, .getfield 82, 3), (89, .if_icmp .ge 16, 3), (92, .aload_n 0, 1), (93, .lload_n 1, 1), (94, .iload_n 3, 1), (95, .invokevirtual 323, 3)]
def cd_X10_digest_3 : List (Nat × Instr × Nat) := [(98, .lstore_n 1, 1), (99, .iinc 3 1, 3), (102, .goto (-21), 3), (105, .iconst 0, 1), (106, .istore_n 3, 1), (107, .iload_n 3, 1), (108, .aload_n 0, 1), (109, .getfield 10, 3), (112, .getfield 94, 3), (115, .if_icmp .ge 16, 3), (118, .aload_n 0, 1), (119, .lload_n 1, 1), (120, .iload_n 3, 1), (121, .invokevirtual 326, 3), (124, .lstore_n 1, 1), (125, .iinc 3 1, 3)]
def cd_X10_digest_4 : List (Nat × Instr × Nat) := [(128, .goto (-21), 3), (131, .lload_n 1, 1), (132, .aload_n 0, 1), (133, .iconst 0, 1), (134, .invokevirtual 329, 3), (137, .i2l, 1), (138, .invokestatic 312, 3), (141, .lstore_n 1, 1), (142, .lload_n 1, 1), (143, .aload_n 0, 1), (144, .iconst 1, 1), (145, .invokevirtual 329, 3), (148, .i2l, 1), (149, .invokestatic 312, 3), (152, .lstore_n 1, 1), (153, .lload_n 1, 1), (154, .aload_n 0, 1), (155, .invokevirtual 332, 3), (158, .invokestatic 336, 3)]
def cd_X10_digest_5 : List (Nat × Instr × Nat) := [(161, .invokestatic 312, 3), (164, .lstore_n 1, 1), (165, .aload_n 0, 1), (166, .lload_n 1, 1), (167, .invokevirtual 340, 3), (170, .lreturn, 1)]
def cd_X10_digest : Chunks := [cd_X10_digest_0, cd_X10_digest_1, cd_X10_digest_2, cd_X10_digest_3, cd_X10_digest_4, cd_X10_digest_5]
def mi_X10_digest : MI := (cd_X10_digest, pl_X10, 3, 4, [])
def cd_X10_requireIndex_0 : List (Nat × Instr × Nat) := [(0, .iload_n 0, 1), (1, .ifCond .lt 8, 3), (4, .iload_n 0, 1), (5, .iload_n 1, 1), (6, .if_icmp .lt 14, 3), (9, .new 344, 3), (12, .dup, 1), (13, .ldc_w 346, 3), (16, .invokespecial 348, 3), (19, .athrow, 1), (20, .return_, 1)]
def cd_X10_requireIndex : Chunks := [cd_X10_requireIndex_0]
def mi_X10_requireIndex : MI := (cd_X10_requireIndex, pl_X10, 0, 2, [])
def cd_X10_requireInRange_0 : List (Nat × Instr × Nat) := [(0, .iload_n 0, 1), (1, .iload_n 1, 1), (2, .if_icmp .lt 8, 3), (5, .iload_n 0, 1), (6, .iload_n 2, 1), (7, .if_icmp .le 14, 3), (10, .new 171, 3), (13, .dup, 1), (14, .ldc_w 349, 3), (17, .invokespecial 175, 3), (20, .athrow, 1), (21, .return_, 1)]
def cd_X10_requireInRange : Chunks := [cd_X10_requireInRange_0]
def mi_X10_requireInRange : MI := (cd_X10_requireInRange, pl_X10, 0, 3, [])
def cd_X10_requireState_0 : List (Nat × Instr × Nat) := [(0, .iload_n 0, 1), (1, .ifCond .ne 14, 3), (4, .new 351, 3), (7, .dup, 1), (8, .ldc_w 353, 3), (11, .invokespecial 355, 3), (14, .athrow, 1), (15, .return_, 1)]
def cd_X10_requireState : Chunks := [cd_X10_requireState_0]
def mi_X10_requireState : MI := (cd_X10_requireState, pl_X10, 0, 1, [])
def cd_X10_asNumber_0 : List (Nat × Instr × Nat) := [(0, .iload_n 0, 1), (1, .ifCond .eq 7, 3), (4, .iconst 1, 1), (5, .goto 4, 3), (8, .iconst 0, 1), (9, .ireturn, 1)]
def cd_X10_asNumber : Chunks := [cd_X10_asNumber_0]
def mi_X10_asNumber : MI := (cd_X10_asNumber, pl_X10, 1, 1, [])
def cd_X10_holds_0 : List (Nat × Instr × Nat) := [(0, .iload_n 0, 1), (1, .iload_n 1, 1), (2, .ishr, 1), (3, .iconst 1, 1), (4, .iand, 1), (5, .iconst 1, 1), (6, .if_icmp .ne 7, 3), (9, .iconst 1, 1), (10, .goto 4, 3), (13, .iconst 0, 1), (14, .ireturn, 1)]
def cd_X10_holds : Chunks := [cd_X10_holds_0]
def mi_X10_holds : MI := (cd_X10_holds, pl_X10, 2, 2, [])
def cd_X10_obey_0 : List (Nat × Instr × Nat) := [(0, .getstatic 356, 3), (3, .aload_n 1, 1), (4, .invokevirtual 361, 3), (7, .iaload, 1), (8, .tableswitch 100 1 4 #[32, 54, 54, 87], 32)]
def cd_X10_obey_1 : List (Nat × Instr × Nat) := [(40, .aload_n 0, 1), (41, .getfield 10, 3), (44, .invokevirtual 128, 3), (47, .ifCond .ne 5, 3), (50, .iconst 0, 1), (51, .ireturn, 1), (52, .aload_n 0, 1), (53, .getfield 10, 3), (56, .invokevirtual 132, 3), (59, .pop, 1), (60, .iconst 1, 1), (61, .ireturn, 1), (62, .aload_n 0, 1), (63, .getfield 10, 3)]
def cd_X10_obey_2 : List (Nat × Instr × Nat) := [(66, .invokevirtual 135, 3), (69, .ifCond .ne 5, 3), (72, .iconst 0, 1), (73, .ireturn, 1), (74, .aload_n 0, 1), (75, .getfield 10, 3), (78, .aload_n 1, 1), (79, .getstatic 364, 3), (82, .if_acmp .ne 7, 3), (85, .iconst 1, 1), (86, .goto 4, 3), (89, .iconst 0, 1), (90, .putfield 138, 3), (93, .iconst 1, 1), (94, .ireturn, 1), (95, .aload_n 0, 1)]
def cd_X10_obey_3 : List (Nat × Instr × Nat) := [(96, .getfield 10, 3), (99, .aload_n 0, 1), (100, .getfield 33, 3), (103, .invokevirtual 152, 3), (106, .iconst 1, 1), (107, .ireturn, 1), (108, .aload_n 0, 1), (109, .aload_n 0, 1), (110, .getfield 26, 3), (113, .iload_n 2, 1), (114, .invokevirtual 368, 3), (117, .aload_n 0, 1), (118, .getfield 26, 3), (121, .iload_n 2, 1), (122, .invokevirtual 369, 3), (125, .invokevirtual 372, 3)]
def cd_X10_obey_4 : List (Nat × Instr × Nat) := [(128, .ireturn, 1)]
def cd_X10_obey : Chunks := [cd_X10_obey_0, cd_X10_obey_1, cd_X10_obey_2, cd_X10_obey_3, cd_X10_obey_4]
def mi_X10_obey : MI := (cd_X10_obey, pl_X10, 2, 3, [])
def cd_X10_obeyPlay_0 : List (Nat × Instr × Nat) := [(0, .iload_n 1, 1), (1, .ifCond .lt 36, 3), (4, .iload_n 1, 1), (5, .aload_n 0, 1), (6, .getfield 10, 3), (9, .getfield 82, 3), (12, .if_icmp .ge 25, 3), (15, .iload_n 2, 1), (16, .ifCond .lt 21, 3), (19, .iload_n 2, 1), (20, .bipush 10, 2), (22, .if_icmp .ge 15, 3), (25, .aload_n 0, 1), (26, .getfield 10, 3), (29, .iload_n 1, 1), (30, .iload_n 2, 1), (31, .invokevirtual 145, 3)]
def cd_X10_obeyPlay_1 : List (Nat × Instr × Nat) := [(34, .ifCond .eq 5, 3), (37, .iconst 0, 1), (38, .ireturn, 1), (39, .aload_n 0, 1), (40, .getfield 10, 3), (43, .iload_n 1, 1), (44, .iload_n 2, 1), (45, .invokevirtual 149, 3), (48, .pop, 1), (49, .iconst 1, 1), (50, .ireturn, 1)]
def cd_X10_obeyPlay : Chunks := [cd_X10_obeyPlay_0, cd_X10_obeyPlay_1]
def mi_X10_obeyPlay : MI := (cd_X10_obeyPlay, pl_X10, 2, 3, [])
def cd_X10_mixed_0 : List (Nat × Instr × Nat) := [(0, .ldc2_w 376, 3), (3, .lload_n 0, 1), (4, .lmul, 1), (5, .lload_n 2, 1), (6, .ladd, 1), (7, .lreturn, 1)]
def cd_X10_mixed : Chunks := [cd_X10_mixed_0]
def mi_X10_mixed : MI := (cd_X10_mixed, pl_X10, 3, 4, [])
def cd_X10_withCorner_0 : List (Nat × Instr × Nat) := [(0, .lload_n 1, 1), (1, .lstore 4, 2), (3, .iconst 0, 1), (4, .istore 6, 2), (6, .iload 6, 2), (8, .bipush 6, 2), (10, .if_icmp .ge 24, 3), (13, .lload 4, 2), (15, .aload_n 0, 1), (16, .iload_n 3, 1), (17, .iload 6, 2), (19, .invokevirtual 378, 3), (22, .i2l, 1), (23, .invokestatic 312, 3), (26, .lstore 4, 2), (28, .iinc 6 1, 3), (31, .goto (-25), 3)]
def cd_X10_withCorner_1 : List (Nat × Instr × Nat) := [(34, .lload 4, 2), (36, .lreturn, 1)]
def cd_X10_withCorner : Chunks := [cd_X10_withCorner_0, cd_X10_withCorner_1]
def mi_X10_withCorner : MI := (cd_X10_withCorner, pl_X10, 3, 7, [])
def cd_X10_withOrgan_0 : List (Nat × Instr × Nat) := [(0, .lload_n 1, 1), (1, .lstore 4, 2), (3, .iconst 0, 1), (4, .istore 6, 2), (6, .iload 6, 2), (8, .bipush 9, 2), (10, .if_icmp .ge 24, 3), (13, .lload 4, 2), (15, .aload_n 0, 1), (16, .iload_n 3, 1), (17, .iload 6, 2), (19, .invokevirtual 380, 3), (22, .i2l, 1), (23, .invokestatic 312, 3), (26, .lstore 4, 2), (28, .iinc 6 1, 3), (31, .goto (-25), 3)]
def cd_X10_withOrgan_1 : List (Nat × Instr × Nat) := [(34, .iconst 0, 1), (35, .istore 6, 2), (37, .iload 6, 2), (39, .bipush 10, 2), (41, .if_icmp .ge 24, 3), (44, .lload 4, 2), (46, .aload_n 0, 1), (47, .iload_n 3, 1), (48, .iload 6, 2), (50, .invokevirtual 383, 3), (53, .i2l, 1), (54, .invokestatic 312, 3), (57, .lstore 4, 2), (59, .iinc 6 1, 3), (62, .goto (-25), 3)]
def cd_X10_withOrgan_2 : List (Nat × Instr × Nat) := [(65, .lload 4, 2), (67, .aload_n 0, 1), (68, .iload_n 3, 1), (69, .invokevirtual 386, 3), (72, .i2l, 1), (73, .invokestatic 312, 3), (76, .lstore 4, 2), (78, .lload 4, 2), (80, .aload_n 0, 1), (81, .iload_n 3, 1), (82, .invokevirtual 389, 3), (85, .i2l, 1), (86, .invokestatic 312, 3), (89, .lreturn, 1)]
def cd_X10_withOrgan : Chunks := [cd_X10_withOrgan_0, cd_X10_withOrgan_1, cd_X10_withOrgan_2]
def mi_X10_withOrgan : MI := (cd_X10_withOrgan, pl_X10, 3, 7, [])
def cd_X10_withPlayer_0 : List (Nat × Instr × Nat) := [(0, .lload_n 1, 1), (1, .lstore 4, 2), (3, .iconst 0, 1), (4, .istore 6, 2), (6, .iload 6, 2), (8, .iconst 5, 1), (9, .if_icmp .ge 24, 3), (12, .lload 4, 2), (14, .aload_n 0, 1), (15, .iload_n 3, 1), (16, .iload 6, 2), (18, .invokevirtual 392, 3), (21, .i2l, 1), (22, .invokestatic 312, 3), (25, .lstore 4, 2), (27, .iinc 6 1, 3), (30, .goto (-24), 3)]
def cd_X10_withPlayer_1 : List (Nat × Instr × Nat) := [(33, .iconst 0, 1), (34, .istore 6, 2), (36, .iload 6, 2), (38, .aload_n 0, 1), (39, .getfield 10, 3), (42, .getfield 82, 3), (45, .if_icmp .ge 24, 3), (48, .lload 4, 2), (50, .aload_n 0, 1), (51, .iload_n 3, 1), (52, .iload 6, 2), (54, .invokevirtual 395, 3), (57, .i2l, 1), (58, .invokestatic 312, 3), (61, .lstore 4, 2), (63, .iinc 6 1, 3)]
def cd_X10_withPlayer_2 : List (Nat × Instr × Nat) := [(66, .goto (-30), 3), (69, .lload 4, 2), (71, .aload_n 0, 1), (72, .iload_n 3, 1), (73, .invokevirtual 398, 3), (76, .i2l, 1), (77, .invokestatic 312, 3), (80, .lreturn, 1)]
def cd_X10_withPlayer : Chunks := [cd_X10_withPlayer_0, cd_X10_withPlayer_1, cd_X10_withPlayer_2]
def mi_X10_withPlayer : MI := (cd_X10_withPlayer, pl_X10, 3, 7, [])
def cd_X10_withText_0 : List (Nat × Instr × Nat) := [(0, .lload_n 1, 1), (1, .aload_n 0, 1), (2, .getfield 26, 3), (5, .getfield 159, 3), (8, .i2l, 1), (9, .invokestatic 312, 3), (12, .lstore_n 3, 1), (13, .iconst 0, 1), (14, .istore 5, 2), (16, .iload 5, 2), (18, .aload_n 0, 1), (19, .getfield 26, 3), (22, .getfield 159, 3), (25, .if_icmp .ge 25, 3), (28, .lload_n 3, 1), (29, .aload_n 0, 1), (30, .getfield 26, 3)]
def cd_X10_withText_1 : List (Nat × Instr × Nat) := [(33, .getfield 162, 3), (36, .iload 5, 2), (38, .iaload, 1), (39, .i2l, 1), (40, .invokestatic 312, 3), (43, .lstore_n 3, 1), (44, .iinc 5 1, 3), (47, .goto (-31), 3), (50, .lload_n 3, 1), (51, .lreturn, 1)]
def cd_X10_withText : Chunks := [cd_X10_withText_0, cd_X10_withText_1]
def mi_X10_withText : MI := (cd_X10_withText, pl_X10, 3, 6, [])
def cd_X10_bitsOfShare_0 : List (Nat × Instr × Nat) := [(0, .dload_n 0, 1), (1, .dconst 0, 1), (2, .dcmp .g, 1), (3, .ifCond .gt 5, 3), (6, .lconst 0, 1), (7, .lreturn, 1), (8, .dload_n 0, 1), (9, .dstore_n 2, 1), (10, .ldc2_w 401, 3), (13, .lstore 4, 2), (15, .iconst 0, 1), (16, .istore 6, 2), (18, .iload 6, 2), (20, .bipush 64, 2), (22, .if_icmp .ge 27, 3), (25, .dload_n 2, 1), (26, .dconst 1, 1), (27, .dcmp .g, 1), (28, .ifCond .ge 21, 3), (31, .dload_n 2, 1)]
def cd_X10_bitsOfShare_1 : List (Nat × Instr × Nat) := [(32, .ldc2_w 403, 3), (35, .dmul, 1), (36, .dstore_n 2, 1), (37, .lload 4, 2), (39, .lconst 1, 1), (40, .lsub, 1), (41, .lstore 4, 2), (43, .iinc 6 1, 3), (46, .goto (-28), 3), (49, .dload_n 2, 1), (50, .dconst 1, 1), (51, .dsub, 1), (52, .ldc2_w 405, 3), (55, .dmul, 1), (56, .d2l, 1), (57, .lstore 6, 2), (59, .lload 4, 2), (61, .bipush 52, 2), (63, .lshl, 1)]
def cd_X10_bitsOfShare_2 : List (Nat × Instr × Nat) := [(64, .lload 6, 2), (66, .ladd, 1), (67, .lreturn, 1)]
def cd_X10_bitsOfShare : Chunks := [cd_X10_bitsOfShare_0, cd_X10_bitsOfShare_1, cd_X10_bitsOfShare_2]
def mi_X10_bitsOfShare : MI := (cd_X10_bitsOfShare, pl_X10, 3, 8, [])
def cd_X11_thrown_0 : List (Nat × Instr × Nat) := [(0, .aload_n 0, 1), (1, .getfield 37, 3), (4, .ireturn, 1)]
def cd_X11_thrown : Chunks := [cd_X11_thrown_0]
def mi_X11_thrown : MI := (cd_X11_thrown, pl_X11, 1, 1, [])
def cd_X11_fails_0 : List (Nat × Instr × Nat) := [(0, .aload_n 0, 1), (1, .iload_n 1, 1), (2, .putfield 37, 3), (5, .iconst 0, 1), (6, .ireturn, 1)]
def cd_X11_fails : Chunks := [cd_X11_fails_0]
def mi_X11_fails : MI := (cd_X11_fails, pl_X11, 1, 2, [])
def cd_X11_within_0 : List (Nat × Instr × Nat) := [(0, .iload_n 0, 1), (1, .iload_n 1, 1), (2, .if_icmp .lt 12, 3), (5, .iload_n 0, 1), (6, .iload_n 2, 1), (7, .if_icmp .gt 7, 3), (10, .iconst 1, 1), (11, .goto 4, 3), (14, .iconst 0, 1), (15, .ireturn, 1)]
def cd_X11_within : Chunks := [cd_X11_within_0]
def mi_X11_within : MI := (cd_X11_within, pl_X11, 2, 3, [])
def cd_X11_isCorner_0 : List (Nat × Instr × Nat) := [(0, .iload_n 1, 1), (1, .iconst 0, 1), (2, .aload_n 0, 1), (3, .getfield 7, 3), (6, .iconst 0, 1), (7, .iaload, 1), (8, .iconst 1, 1), (9, .isub, 1), (10, .invokestatic 41, 3), (13, .ireturn, 1)]
def cd_X11_isCorner : Chunks := [cd_X11_isCorner_0]
def mi_X11_isCorner : MI := (cd_X11_isCorner, pl_X11, 2, 2, [])
def cd_X11_isOrgan_0 : List (Nat × Instr × Nat) := [(0, .iload_n 1, 1), (1, .iconst 0, 1), (2, .aload_n 0, 1), (3, .getfield 7, 3), (6, .iconst 1, 1), (7, .iaload, 1), (8, .iconst 1, 1), (9, .isub, 1), (10, .invokestatic 41, 3), (13, .ireturn, 1)]
def cd_X11_isOrgan : Chunks := [cd_X11_isOrgan_0]
def mi_X11_isOrgan : MI := (cd_X11_isOrgan, pl_X11, 2, 2, [])
def cd_X11_isPlayer_0 : List (Nat × Instr × Nat) := [(0, .iload_n 1, 1), (1, .iconst 0, 1), (2, .aload_n 0, 1), (3, .getfield 7, 3), (6, .iconst 2, 1), (7, .iaload, 1), (8, .iconst 1, 1), (9, .isub, 1), (10, .invokestatic 41, 3), (13, .ireturn, 1)]
def cd_X11_isPlayer : Chunks := [cd_X11_isPlayer_0]
def mi_X11_isPlayer : MI := (cd_X11_isPlayer, pl_X11, 2, 2, [])
def cd_X11_corner0_0 : List (Nat × Instr × Nat) := [(0, .aload_n 0, 1), (1, .getfield 7, 3), (4, .bipush 16, 2), (6, .iconst 4, 1), (7, .iload_n 1, 1), (8, .imul, 1), (9, .iadd, 1), (10, .iload_n 2, 1), (11, .iadd, 1), (12, .iaload, 1), (13, .ireturn, 1)]
def cd_X11_corner0 : Chunks := [cd_X11_corner0_0]
def mi_X11_corner0 : MI := (cd_X11_corner0, pl_X11, 1, 3, [])
def cd_X11_organ0_0 : List (Nat × Instr × Nat) := [(0, .aload_n 0, 1), (1, .getfield 7, 3), (4, .bipush 56, 2), (6, .bipush 7, 2), (8, .iload_n 1, 1), (9, .imul, 1), (10, .iadd, 1), (11, .iload_n 2, 1), (12, .iadd, 1), (13, .iaload, 1), (14, .ireturn, 1)]
def cd_X11_organ0 : Chunks := [cd_X11_organ0_0]
def mi_X11_organ0 : MI := (cd_X11_organ0, pl_X11, 1, 3, [])
def cd_X11_player0_0 : List (Nat × Instr × Nat) := [(0, .aload_n 0, 1), (1, .getfield 7, 3), (4, .bipush 91, 2), (6, .iconst 4, 1), (7, .iload_n 1, 1), (8, .imul, 1), (9, .iadd, 1), (10, .iload_n 2, 1), (11, .iadd, 1), (12, .iaload, 1), (13, .ireturn, 1)]
def cd_X11_player0 : Chunks := [cd_X11_player0_0]
def mi_X11_player0 : MI := (cd_X11_player0, pl_X11, 1, 3, [])
def cd_X11_cornerOf_0 : List (Nat × Instr × Nat) := [(0, .aload_n 0, 1), (1, .iload_n 1, 1), (2, .iconst 3, 1), (3, .invokevirtual 45, 3), (6, .iconst 1, 1), (7, .isub, 1), (8, .ireturn, 1)]
def cd_X11_cornerOf : Chunks := [cd_X11_cornerOf_0]
def mi_X11_cornerOf : MI := (cd_X11_cornerOf, pl_X11, 1, 2, [])
def cd_X11_tuneIn_0 : List (Nat × Instr × Nat) := [(0, .aload_n 0, 1), (1, .getfield 7, 3), (4, .sipush 163, 3), (7, .bipush 10, 2), (9, .iload_n 1, 1), (10, .imul, 1), (11, .iadd, 1), (12, .iload_n 2, 1), (13, .iadd, 1), (14, .iaload, 1), (15, .iconst 1, 1), (16, .isub, 1), (17, .ireturn, 1)]
def cd_X11_tuneIn : Chunks := [cd_X11_tuneIn_0]
def mi_X11_tuneIn : MI := (cd_X11_tuneIn, pl_X11, 1, 3, [])
def cd_X11_save_0 : List (Nat × Instr × Nat) := [(0, .aload_n 0, 1), (1, .getfield 49, 3), (4, .bipush 6, 2), (6, .if_icmp .ne 44, 3), (9, .iconst 0, 1), (10, .istore_n 1, 1), (11, .iload_n 1, 1), (12, .sipush 1065, 3), (15, .if_icmp .ge 25, 3), (18, .aload_n 0, 1), (19, .getfield 16, 3), (22, .iload_n 1, 1), (23, .aload_n 0, 1), (24, .getfield 16, 3), (27, .sipush 213, 3), (30, .iload_n 1, 1), (31, .iadd, 1)]
def cd_X11_save_1 : List (Nat × Instr × Nat) := [(32, .iaload, 1), (33, .iastore, 1), (34, .iinc 1 1, 3), (37, .goto (-26), 3), (40, .aload_n 0, 1), (41, .dup, 1), (42, .getfield 49, 3), (45, .iconst 1, 1), (46, .isub, 1), (47, .putfield 49, 3), (50, .iconst 0, 1), (51, .istore_n 1, 1), (52, .iload_n 1, 1), (53, .sipush 213, 3), (56, .if_icmp .ge 30, 3), (59, .aload_n 0, 1), (60, .getfield 16, 3), (63, .sipush 213, 3)]
def cd_X11_save_2 : List (Nat × Instr × Nat) := [(66, .aload_n 0, 1), (67, .getfield 49, 3), (70, .imul, 1), (71, .iload_n 1, 1), (72, .iadd, 1), (73, .aload_n 0, 1), (74, .getfield 7, 3), (77, .iload_n 1, 1), (78, .iaload, 1), (79, .iastore, 1), (80, .iinc 1 1, 3), (83, .goto (-31), 3), (86, .aload_n 0, 1), (87, .dup, 1), (88, .getfield 49, 3), (91, .iconst 1, 1), (92, .iadd, 1), (93, .putfield 49, 3)]
def cd_X11_save_3 : List (Nat × Instr × Nat) := [(96, .return_, 1)]
def cd_X11_save : Chunks := [cd_X11_save_0, cd_X11_save_1, cd_X11_save_2, cd_X11_save_3]
def mi_X11_save : MI := (cd_X11_save, pl_X11, 0, 2, [])
def cd_X11_keep_0 : List (Nat × Instr × Nat) := [(0, .iconst 0, 1), (1, .istore_n 1, 1), (2, .iload_n 1, 1), (3, .sipush 213, 3), (6, .if_icmp .ge 21, 3), (9, .aload_n 0, 1), (10, .getfield 13, 3), (13, .iload_n 1, 1), (14, .aload_n 0, 1), (15, .getfield 7, 3), (18, .iload_n 1, 1), (19, .iaload, 1), (20, .iastore, 1), (21, .iinc 1 1, 3), (24, .goto (-22), 3), (27, .return_, 1)]
def cd_X11_keep : Chunks := [cd_X11_keep_0]
def mi_X11_keep : MI := (cd_X11_keep, pl_X11, 0, 2, [])
def cd_X11_bring_0 : List (Nat × Instr × Nat) := [(0, .iconst 0, 1), (1, .istore_n 1, 1), (2, .iload_n 1, 1), (3, .sipush 213, 3), (6, .if_icmp .ge 21, 3), (9, .aload_n 0, 1), (10, .getfield 7, 3), (13, .iload_n 1, 1), (14, .aload_n 0, 1), (15, .getfield 13, 3), (18, .iload_n 1, 1), (19, .iaload, 1), (20, .iastore, 1), (21, .iinc 1 1, 3), (24, .goto (-22), 3), (27, .return_, 1)]
def cd_X11_bring : Chunks := [cd_X11_bring_0]
def mi_X11_bring : MI := (cd_X11_bring, pl_X11, 0, 2, [])
def cd_X11_addCorner_0 : List (Nat × Instr × Nat) := [(0, .aload_n 0, 1), (1, .iconst 0, 1), (2, .putfield 37, 3), (5, .iload_n 1, 1), (6, .iconst 0, 1), (7, .bipush 99, 2), (9, .invokestatic 41, 3), (12, .ifCond .eq 34, 3), (15, .iload_n 2, 1), (16, .iconst 1, 1), (17, .bipush 90, 2), (19, .invokestatic 41, 3), (22, .ifCond .eq 24, 3), (25, .iload_n 3, 1), (26, .iconst 0, 1), (27, .bipush 9, 2), (29, .invokestatic 41, 3)]
def cd_X11_addCorner_1 : List (Nat × Instr × Nat) := [(32, .ifCond .eq 14, 3), (35, .iload 4, 2), (37, .iconst 0, 1), (38, .bipush 9, 2), (40, .invokestatic 41, 3), (43, .ifCond .ne 9, 3), (46, .aload_n 0, 1), (47, .iconst 1, 1), (48, .invokevirtual 52, 3), (51, .ireturn, 1), (52, .iconst 0, 1), (53, .istore 5, 2), (55, .iconst 0, 1), (56, .istore 6, 2), (58, .iload 6, 2), (60, .aload_n 0, 1), (61, .getfield 7, 3)]
def cd_X11_addCorner_2 : List (Nat × Instr × Nat) := [(64, .iconst 0, 1), (65, .iaload, 1), (66, .if_icmp .ge 32, 3), (69, .iload 5, 2), (71, .ifCond .ne 14, 3), (74, .aload_n 0, 1), (75, .iload 6, 2), (77, .iconst 0, 1), (78, .invokevirtual 56, 3), (81, .iload_n 1, 1), (82, .if_icmp .ne 7, 3), (85, .iconst 1, 1), (86, .goto 4, 3), (89, .iconst 0, 1), (90, .istore 5, 2), (92, .iinc 6 1, 3), (95, .goto (-37), 3)]
def cd_X11_addCorner_3 : List (Nat × Instr × Nat) := [(98, .aload_n 0, 1), (99, .getfield 7, 3), (102, .iconst 0, 1), (103, .iaload, 1), (104, .bipush 10, 2), (106, .if_icmp .eq 8, 3), (109, .iload 5, 2), (111, .ifCond .eq 9, 3), (114, .aload_n 0, 1), (115, .iconst 2, 1), (116, .invokevirtual 52, 3), (119, .ireturn, 1), (120, .aload_n 0, 1), (121, .invokevirtual 59, 3), (124, .bipush 16, 2), (126, .iconst 4, 1), (127, .aload_n 0, 1)]
def cd_X11_addCorner_4 : List (Nat × Instr × Nat) := [(128, .getfield 7, 3), (131, .iconst 0, 1), (132, .iaload, 1), (133, .imul, 1), (134, .iadd, 1), (135, .istore 6, 2), (137, .aload_n 0, 1), (138, .getfield 7, 3), (141, .iload 6, 2), (143, .iload_n 1, 1), (144, .iastore, 1), (145, .aload_n 0, 1), (146, .getfield 7, 3), (149, .iload 6, 2), (151, .iconst 1, 1), (152, .iadd, 1), (153, .iload_n 2, 1), (154, .iastore, 1), (155, .aload_n 0, 1), (156, .getfield 7, 3), (159, .iload 6, 2)]
def cd_X11_addCorner_5 : List (Nat × Instr × Nat) := [(161, .iconst 2, 1), (162, .iadd, 1), (163, .iload_n 3, 1), (164, .iastore, 1), (165, .aload_n 0, 1), (166, .getfield 7, 3), (169, .iload 6, 2), (171, .iconst 3, 1), (172, .iadd, 1), (173, .iload 4, 2), (175, .iastore, 1), (176, .aload_n 0, 1), (177, .getfield 7, 3), (180, .iconst 0, 1), (181, .dup2, 1), (182, .iaload, 1), (183, .iconst 1, 1), (184, .iadd, 1), (185, .iastore, 1), (186, .aload_n 0, 1), (187, .getfield 7, 3), (190, .iconst 0, 1), (191, .iaload, 1)]
def cd_X11_addCorner_6 : List (Nat × Instr × Nat) := [(192, .iconst 1, 1), (193, .isub, 1), (194, .ireturn, 1)]
def cd_X11_addCorner : Chunks := [cd_X11_addCorner_0, cd_X11_addCorner_1, cd_X11_addCorner_2, cd_X11_addCorner_3, cd_X11_addCorner_4, cd_X11_addCorner_5, cd_X11_addCorner_6]
def mi_X11_addCorner : MI := (cd_X11_addCorner, pl_X11, 1, 7, [])
def cd_X11_addOrgan_0 : List (Nat × Instr × Nat) := [(0, .aload_n 0, 1), (1, .iconst 0, 1), (2, .putfield 37, 3), (5, .iload_n 1, 1), (6, .iconst 0, 1), (7, .bipush 50, 2), (9, .invokestatic 41, 3), (12, .ifCond .ne 9, 3), (15, .aload_n 0, 1), (16, .iconst 1, 1), (17, .invokevirtual 52, 3), (20, .ireturn, 1), (21, .aload_n 0, 1), (22, .getfield 7, 3), (25, .iconst 1, 1), (26, .iaload, 1), (27, .iconst 5, 1), (28, .if_icmp .ne 9, 3), (31, .aload_n 0, 1)]
def cd_X11_addOrgan_1 : List (Nat × Instr × Nat) := [(32, .iconst 2, 1), (33, .invokevirtual 52, 3), (36, .ireturn, 1), (37, .aload_n 0, 1), (38, .invokevirtual 59, 3), (41, .aload_n 0, 1), (42, .getfield 7, 3), (45, .bipush 56, 2), (47, .bipush 7, 2), (49, .aload_n 0, 1), (50, .getfield 7, 3), (53, .iconst 1, 1), (54, .iaload, 1), (55, .imul, 1), (56, .iadd, 1), (57, .iload_n 1, 1), (58, .iastore, 1), (59, .aload_n 0, 1), (60, .getfield 7, 3), (63, .iconst 1, 1)]
def cd_X11_addOrgan_2 : List (Nat × Instr × Nat) := [(64, .dup2, 1), (65, .iaload, 1), (66, .iconst 1, 1), (67, .iadd, 1), (68, .iastore, 1), (69, .aload_n 0, 1), (70, .getfield 7, 3), (73, .iconst 1, 1), (74, .iaload, 1), (75, .iconst 1, 1), (76, .isub, 1), (77, .ireturn, 1)]
def cd_X11_addOrgan : Chunks := [cd_X11_addOrgan_0, cd_X11_addOrgan_1, cd_X11_addOrgan_2]
def mi_X11_addOrgan : MI := (cd_X11_addOrgan, pl_X11, 1, 2, [])
def cd_X11_addPlayer_0 : List (Nat × Instr × Nat) := [(0, .aload_n 0, 1), (1, .iconst 0, 1), (2, .putfield 37, 3), (5, .aload_n 0, 1), (6, .getfield 7, 3), (9, .iconst 2, 1), (10, .iaload, 1), (11, .bipush 8, 2), (13, .if_icmp .ne 9, 3), (16, .aload_n 0, 1), (17, .iconst 1, 1), (18, .invokevirtual 52, 3), (21, .ireturn, 1), (22, .aload_n 0, 1), (23, .invokevirtual 59, 3), (26, .aload_n 0, 1), (27, .getfield 7, 3), (30, .iconst 2, 1), (31, .dup2, 1)]
def cd_X11_addPlayer_1 : List (Nat × Instr × Nat) := [(32, .iaload, 1), (33, .iconst 1, 1), (34, .iadd, 1), (35, .iastore, 1), (36, .aload_n 0, 1), (37, .getfield 7, 3), (40, .iconst 2, 1), (41, .iaload, 1), (42, .iconst 1, 1), (43, .isub, 1), (44, .ireturn, 1)]
def cd_X11_addPlayer : Chunks := [cd_X11_addPlayer_0, cd_X11_addPlayer_1]
def mi_X11_addPlayer : MI := (cd_X11_addPlayer, pl_X11, 1, 1, [])
def cd_X11_permits_0 : List (Nat × Instr × Nat) := [(0, .iconst 0, 1), (1, .istore_n 1, 1), (2, .iconst 0, 1), (3, .istore_n 2, 1), (4, .iload_n 2, 1), (5, .aload_n 0, 1), (6, .getfield 7, 3), (9, .iconst 1, 1), (10, .iaload, 1), (11, .if_icmp .ge 18, 3), (14, .iload_n 1, 1), (15, .aload_n 0, 1), (16, .iload_n 2, 1), (17, .iconst 1, 1), (18, .invokevirtual 45, 3), (21, .iadd, 1), (22, .istore_n 1, 1), (23, .iinc 2 1, 3), (26, .goto (-22), 3), (29, .iload_n 1, 1), (30, .ireturn, 1)]
def cd_X11_permits : Chunks := [cd_X11_permits_0]
def mi_X11_permits : MI := (cd_X11_permits, pl_X11, 1, 3, [])
def cd_X11_permit_0 : List (Nat × Instr × Nat) := [(0, .aload_n 0, 1), (1, .iconst 0, 1), (2, .putfield 37, 3), (5, .aload_n 0, 1), (6, .iload_n 1, 1), (7, .invokevirtual 62, 3), (10, .ifCond .ne 9, 3), (13, .aload_n 0, 1), (14, .iconst 1, 1), (15, .invokevirtual 52, 3), (18, .ireturn, 1), (19, .aload_n 0, 1), (20, .invokevirtual 59, 3), (23, .aload_n 0, 1), (24, .getfield 7, 3), (27, .bipush 56, 2), (29, .bipush 7, 2), (31, .iload_n 1, 1)]
def cd_X11_permit_1 : List (Nat × Instr × Nat) := [(32, .imul, 1), (33, .iadd, 1), (34, .iconst 1, 1), (35, .iadd, 1), (36, .iload_n 2, 1), (37, .ifCond .eq 7, 3), (40, .iconst 1, 1), (41, .goto 4, 3), (44, .iconst 0, 1), (45, .iastore, 1), (46, .aload_n 0, 1), (47, .invokevirtual 66, 3), (50, .ireturn, 1)]
def cd_X11_permit : Chunks := [cd_X11_permit_0, cd_X11_permit_1]
def mi_X11_permit : MI := (cd_X11_permit, pl_X11, 1, 3, [])
def cd_X11_barrel_0 : List (Nat × Instr × Nat) := [(0, .aload_n 0, 1), (1, .iconst 0, 1), (2, .putfield 37, 3), (5, .aload_n 0, 1), (6, .iload_n 1, 1), (7, .invokevirtual 62, 3), (10, .ifCond .ne 9, 3), (13, .aload_n 0, 1), (14, .iconst 1, 1), (15, .invokevirtual 52, 3), (18, .ireturn, 1), (19, .iload_n 2, 1), (20, .iconst 0, 1), (21, .sipush 1023, 3), (24, .invokestatic 41, 3), (27, .ifCond .ne 9, 3), (30, .aload_n 0, 1), (31, .iconst 2, 1)]
def cd_X11_barrel_1 : List (Nat × Instr × Nat) := [(32, .invokevirtual 52, 3), (35, .ireturn, 1), (36, .aload_n 0, 1), (37, .invokevirtual 59, 3), (40, .aload_n 0, 1), (41, .iload_n 1, 1), (42, .iconst 2, 1), (43, .invokevirtual 45, 3), (46, .istore_n 3, 1), (47, .aload_n 0, 1), (48, .getfield 7, 3), (51, .bipush 56, 2), (53, .bipush 7, 2), (55, .iload_n 1, 1), (56, .imul, 1), (57, .iadd, 1), (58, .iconst 2, 1), (59, .iadd, 1), (60, .iload_n 2, 1), (61, .iastore, 1), (62, .iload_n 3, 1), (63, .ireturn, 1)]
def cd_X11_barrel : Chunks := [cd_X11_barrel_0, cd_X11_barrel_1]
def mi_X11_barrel : MI := (cd_X11_barrel, pl_X11, 1, 4, [])
def cd_X11_assign_0 : List (Nat × Instr × Nat) := [(0, .aload_n 0, 1), (1, .iconst 0, 1), (2, .putfield 37, 3), (5, .aload_n 0, 1), (6, .iload_n 1, 1), (7, .invokevirtual 70, 3), (10, .ifCond .eq 16, 3), (13, .iload_n 2, 1), (14, .iconst (-1), 1), (15, .if_icmp .eq 17, 3), (18, .aload_n 0, 1), (19, .iload_n 2, 1), (20, .invokevirtual 62, 3), (23, .ifCond .ne 9, 3), (26, .aload_n 0, 1), (27, .iconst 1, 1), (28, .invokevirtual 52, 3), (31, .ireturn, 1)]
def cd_X11_assign_1 : List (Nat × Instr × Nat) := [(32, .aload_n 0, 1), (33, .invokevirtual 59, 3), (36, .aload_n 0, 1), (37, .iload_n 1, 1), (38, .iconst 0, 1), (39, .invokevirtual 73, 3), (42, .iconst 1, 1), (43, .isub, 1), (44, .istore_n 3, 1), (45, .aload_n 0, 1), (46, .getfield 7, 3), (49, .bipush 91, 2), (51, .iconst 4, 1), (52, .iload_n 1, 1), (53, .imul, 1), (54, .iadd, 1), (55, .iload_n 2, 1), (56, .iconst 1, 1), (57, .iadd, 1), (58, .iastore, 1), (59, .iload_n 3, 1), (60, .ireturn, 1)]
def cd_X11_assign : Chunks := [cd_X11_assign_0, cd_X11_assign_1]
def mi_X11_assign : MI := (cd_X11_assign, pl_X11, 1, 4, [])
def cd_X11_mostOf_0 : List (Nat × Instr × Nat) := [(0, .iload_n 0, 1), (1, .ifCond .ne 8, 3), (4, .bipush 99, 2), (6, .goto 25, 3), (9, .iload_n 0, 1), (10, .iconst 1, 1), (11, .if_icmp .ne 8, 3), (14, .bipush 9, 2), (16, .goto 15, 3), (19, .iload_n 0, 1), (20, .iconst 3, 1), (21, .if_icmp .ne 8, 3), (24, .bipush 100, 2), (26, .goto 5, 3), (29, .bipush 50, 2), (31, .ireturn, 1)]
def cd_X11_mostOf : Chunks := [cd_X11_mostOf_0]
def mi_X11_mostOf : MI := (cd_X11_mostOf, pl_X11, 1, 1, [])
def cd_X11_set_0 : List (Nat × Instr × Nat) := [(0, .aload_n 0, 1), (1, .iconst 0, 1), (2, .putfield 37, 3), (5, .iload_n 1, 1), (6, .iconst 0, 1), (7, .iconst 4, 1), (8, .invokestatic 41, 3), (11, .ifCond .ne 9, 3), (14, .aload_n 0, 1), (15, .iconst 1, 1), (16, .invokevirtual 52, 3), (19, .ireturn, 1), (20, .iload_n 2, 1), (21, .iconst 0, 1), (22, .iload_n 1, 1), (23, .invokestatic 76, 3), (26, .invokestatic 41, 3), (29, .ifCond .ne 9, 3)]
def cd_X11_set_1 : List (Nat × Instr × Nat) := [(32, .aload_n 0, 1), (33, .iconst 2, 1), (34, .invokevirtual 52, 3), (37, .ireturn, 1), (38, .aload_n 0, 1), (39, .invokevirtual 59, 3), (42, .aload_n 0, 1), (43, .getfield 7, 3), (46, .bipush 11, 2), (48, .iload_n 1, 1), (49, .iadd, 1), (50, .iaload, 1), (51, .istore_n 3, 1), (52, .aload_n 0, 1), (53, .getfield 7, 3), (56, .bipush 11, 2), (58, .iload_n 1, 1), (59, .iadd, 1), (60, .iload_n 2, 1), (61, .iastore, 1), (62, .iload_n 3, 1), (63, .ireturn, 1)]
def cd_X11_set : Chunks := [cd_X11_set_0, cd_X11_set_1]
def mi_X11_set : MI := (cd_X11_set, pl_X11, 1, 4, [])
def cd_X11_playedToday_0 : List (Nat × Instr × Nat) := [(0, .iconst 0, 1), (1, .istore_n 1, 1), (2, .sipush 163, 3), (5, .istore_n 2, 1), (6, .iload_n 2, 1), (7, .sipush 213, 3), (10, .if_icmp .ge 26, 3), (13, .iload_n 1, 1), (14, .aload_n 0, 1), (15, .getfield 7, 3), (18, .iload_n 2, 1), (19, .iaload, 1), (20, .ifCond .ne 7, 3), (23, .iconst 0, 1), (24, .goto 4, 3), (27, .iconst 1, 1), (28, .iadd, 1), (29, .istore_n 1, 1), (30, .iinc 2 1, 3)]
def cd_X11_playedToday_1 : List (Nat × Instr × Nat) := [(33, .goto (-27), 3), (36, .iload_n 1, 1), (37, .ireturn, 1)]
def cd_X11_playedToday : Chunks := [cd_X11_playedToday_0, cd_X11_playedToday_1]
def mi_X11_playedToday : MI := (cd_X11_playedToday, pl_X11, 1, 3, [])
def cd_X11_draw_0 : List (Nat × Instr × Nat) := [(0, .aload_n 0, 1), (1, .getfield 7, 3), (4, .bipush 6, 2), (6, .ldc2_w 79, 3), (9, .aload_n 0, 1), (10, .getfield 7, 3), (13, .bipush 6, 2), (15, .iaload, 1), (16, .i2l, 1), (17, .lmul, 1), (18, .ldc2_w 81, 3), (21, .ladd, 1), (22, .ldc2_w 83, 3), (25, .lrem, 1), (26, .l2i, 1), (27, .iastore, 1), (28, .aload_n 0, 1), (29, .getfield 7, 3)]
def cd_X11_draw_1 : List (Nat × Instr × Nat) := [(32, .bipush 6, 2), (34, .iaload, 1), (35, .ldc 85, 2), (37, .idiv, 1), (38, .iload_n 1, 1), (39, .irem, 1), (40, .ireturn, 1)]
def cd_X11_draw : Chunks := [cd_X11_draw_0, cd_X11_draw_1]
def mi_X11_draw : MI := (cd_X11_draw, pl_X11, 1, 2, [])
def cd_X11_whoHas_0 : List (Nat × Instr × Nat) := [(0, .iconst (-1), 1), (1, .istore_n 2, 1), (2, .aload_n 0, 1), (3, .getfield 7, 3), (6, .iconst 1, 1), (7, .iaload, 1), (8, .iconst 1, 1), (9, .isub, 1), (10, .istore_n 3, 1), (11, .iload_n 3, 1), (12, .ifCond .lt 24, 3), (15, .aload_n 0, 1), (16, .iload_n 3, 1), (17, .invokevirtual 86, 3), (20, .iload_n 1, 1), (21, .if_icmp .ne 7, 3), (24, .iload_n 3, 1), (25, .goto 4, 3), (28, .iload_n 2, 1), (29, .istore_n 2, 1), (30, .iinc 3 (-1), 3)]
def cd_X11_whoHas_1 : List (Nat × Instr × Nat) := [(33, .goto (-22), 3), (36, .iload_n 2, 1), (37, .ireturn, 1)]
def cd_X11_whoHas : Chunks := [cd_X11_whoHas_0, cd_X11_whoHas_1]
def mi_X11_whoHas : MI := (cd_X11_whoHas, pl_X11, 1, 4, [])
def cd_X11_freeCorners_0 : List (Nat × Instr × Nat) := [(0, .iconst 0, 1), (1, .istore_n 1, 1), (2, .iconst 0, 1), (3, .istore_n 2, 1), (4, .iload_n 2, 1), (5, .aload_n 0, 1), (6, .getfield 7, 3), (9, .iconst 0, 1), (10, .iaload, 1), (11, .if_icmp .ge 26, 3), (14, .iload_n 1, 1), (15, .aload_n 0, 1), (16, .iload_n 2, 1), (17, .invokevirtual 89, 3), (20, .iconst (-1), 1), (21, .if_icmp .ne 7, 3), (24, .iconst 1, 1), (25, .goto 4, 3), (28, .iconst 0, 1), (29, .iadd, 1), (30, .istore_n 1, 1), (31, .iinc 2 1, 3)]
def cd_X11_freeCorners_1 : List (Nat × Instr × Nat) := [(34, .goto (-30), 3), (37, .iload_n 1, 1), (38, .ireturn, 1)]
def cd_X11_freeCorners : Chunks := [cd_X11_freeCorners_0, cd_X11_freeCorners_1]
def mi_X11_freeCorners : MI := (cd_X11_freeCorners, pl_X11, 1, 3, [])
def cd_X11_freeAt_0 : List (Nat × Instr × Nat) := [(0, .iload_n 1, 1), (1, .istore_n 2, 1), (2, .iconst 0, 1), (3, .istore_n 3, 1), (4, .aload_n 0, 1), (5, .iload_n 3, 1), (6, .invokevirtual 89, 3), (9, .iconst (-1), 1), (10, .if_icmp .ne 7, 3), (13, .iload_n 2, 1), (14, .ifCond .le 26, 3), (17, .iload_n 2, 1), (18, .aload_n 0, 1), (19, .iload_n 3, 1), (20, .invokevirtual 89, 3), (23, .iconst (-1), 1), (24, .if_icmp .ne 7, 3), (27, .iconst 1, 1), (28, .goto 4, 3), (31, .iconst 0, 1)]
def cd_X11_freeAt_1 : List (Nat × Instr × Nat) := [(32, .isub, 1), (33, .istore_n 2, 1), (34, .iinc 3 1, 3), (37, .goto (-33), 3), (40, .iload_n 3, 1), (41, .ireturn, 1)]
def cd_X11_freeAt : Chunks := [cd_X11_freeAt_0, cd_X11_freeAt_1]
def mi_X11_freeAt : MI := (cd_X11_freeAt, pl_X11, 1, 4, [])
def cd_X11_withCorner_0 : List (Nat × Instr × Nat) := [(0, .iconst 0, 1), (1, .istore_n 1, 1), (2, .iconst 0, 1), (3, .istore_n 2, 1), (4, .iload_n 2, 1), (5, .aload_n 0, 1), (6, .getfield 7, 3), (9, .iconst 1, 1), (10, .iaload, 1), (11, .if_icmp .ge 26, 3), (14, .iload_n 1, 1), (15, .aload_n 0, 1), (16, .iload_n 2, 1), (17, .invokevirtual 86, 3), (20, .iconst (-1), 1), (21, .if_icmp .ne 7, 3), (24, .iconst 0, 1), (25, .goto 4, 3), (28, .iconst 1, 1), (29, .iadd, 1), (30, .istore_n 1, 1), (31, .iinc 2 1, 3)]
def cd_X11_withCorner_1 : List (Nat × Instr × Nat) := [(34, .goto (-30), 3), (37, .iload_n 1, 1), (38, .ireturn, 1)]
def cd_X11_withCorner : Chunks := [cd_X11_withCorner_0, cd_X11_withCorner_1]
def mi_X11_withCorner : MI := (cd_X11_withCorner, pl_X11, 1, 3, [])
def cd_X11_noCorners_0 : List (Nat × Instr × Nat) := [(0, .iconst 0, 1), (1, .istore_n 1, 1), (2, .iload_n 1, 1), (3, .aload_n 0, 1), (4, .getfield 7, 3), (7, .iconst 1, 1), (8, .iaload, 1), (9, .if_icmp .ge 24, 3), (12, .aload_n 0, 1), (13, .getfield 7, 3), (16, .bipush 56, 2), (18, .bipush 7, 2), (20, .iload_n 1, 1), (21, .imul, 1), (22, .iadd, 1), (23, .iconst 3, 1), (24, .iadd, 1), (25, .iconst 0, 1), (26, .iastore, 1), (27, .iinc 1 1, 3), (30, .goto (-28), 3)]
def cd_X11_noCorners_1 : List (Nat × Instr × Nat) := [(33, .return_, 1)]
def cd_X11_noCorners : Chunks := [cd_X11_noCorners_0, cd_X11_noCorners_1]
def mi_X11_noCorners : MI := (cd_X11_noCorners, pl_X11, 0, 2, [])
def cd_X11_mayDraw_0 : List (Nat × Instr × Nat) := [(0, .aload_n 0, 1), (1, .getfield 7, 3), (4, .iconst 4, 1), (5, .iaload, 1), (6, .ifCond .ne 14, 3), (9, .aload_n 0, 1), (10, .invokevirtual 92, 3), (13, .ifCond .ne 7, 3), (16, .iconst 1, 1), (17, .goto 4, 3), (20, .iconst 0, 1), (21, .ireturn, 1)]
def cd_X11_mayDraw : Chunks := [cd_X11_mayDraw_0]
def mi_X11_mayDraw : MI := (cd_X11_mayDraw, pl_X11, 2, 1, [])
def cd_X11_drawLots_0 : List (Nat × Instr × Nat) := [(0, .aload_n 0, 1), (1, .invokevirtual 95, 3), (4, .iconst 0, 1), (5, .istore_n 1, 1), (6, .iload_n 1, 1), (7, .aload_n 0, 1), (8, .getfield 7, 3), (11, .iconst 1, 1), (12, .iaload, 1), (13, .if_icmp .ge 57, 3), (16, .aload_n 0, 1), (17, .iload_n 1, 1), (18, .iconst 1, 1), (19, .invokevirtual 45, 3), (22, .iconst 1, 1), (23, .if_icmp .ne 10, 3), (26, .aload_n 0, 1), (27, .invokevirtual 98, 3), (30, .goto 4, 3)]
def cd_X11_drawLots_1 : List (Nat × Instr × Nat) := [(33, .iconst 0, 1), (34, .istore_n 2, 1), (35, .iload_n 2, 1), (36, .ifCond .le 28, 3), (39, .aload_n 0, 1), (40, .getfield 7, 3), (43, .bipush 56, 2), (45, .bipush 7, 2), (47, .iload_n 1, 1), (48, .imul, 1), (49, .iadd, 1), (50, .iconst 3, 1), (51, .iadd, 1), (52, .aload_n 0, 1), (53, .aload_n 0, 1), (54, .iload_n 2, 1), (55, .invokevirtual 101, 3), (58, .invokevirtual 104, 3), (61, .iconst 1, 1), (62, .iadd, 1), (63, .iastore, 1)]
def cd_X11_drawLots_2 : List (Nat × Instr × Nat) := [(64, .iinc 1 1, 3), (67, .goto (-61), 3), (70, .return_, 1)]
def cd_X11_drawLots : Chunks := [cd_X11_drawLots_0, cd_X11_drawLots_1, cd_X11_drawLots_2]
def mi_X11_drawLots : MI := (cd_X11_drawLots, pl_X11, 0, 3, [])
def cd_X11_lots_0 : List (Nat × Instr × Nat) := [(0, .aload_n 0, 1), (1, .iconst 0, 1), (2, .putfield 37, 3), (5, .aload_n 0, 1), (6, .invokevirtual 107, 3), (9, .ifCond .ne 9, 3), (12, .aload_n 0, 1), (13, .iconst 1, 1), (14, .invokevirtual 52, 3), (17, .ireturn, 1), (18, .aload_n 0, 1), (19, .invokevirtual 59, 3), (22, .aload_n 0, 1), (23, .invokevirtual 111, 3), (26, .aload_n 0, 1), (27, .invokevirtual 114, 3), (30, .ireturn, 1)]
def cd_X11_lots : Chunks := [cd_X11_lots_0]
def mi_X11_lots : MI := (cd_X11_lots, pl_X11, 1, 1, [])
def cd_X11_weather_0 : List (Nat × Instr × Nat) := [(0, .aload_n 0, 1), (1, .iconst 0, 1), (2, .putfield 37, 3), (5, .aload_n 0, 1), (6, .invokevirtual 92, 3), (9, .ifCond .le 9, 3), (12, .aload_n 0, 1), (13, .iconst 1, 1), (14, .invokevirtual 52, 3), (17, .ireturn, 1), (18, .aload_n 0, 1), (19, .invokevirtual 59, 3), (22, .aload_n 0, 1), (23, .getfield 7, 3), (26, .iconst 5, 1), (27, .iaload, 1), (28, .istore_n 2, 1), (29, .aload_n 0, 1), (30, .getfield 7, 3)]
def cd_X11_weather_1 : List (Nat × Instr × Nat) := [(33, .iconst 5, 1), (34, .iload_n 1, 1), (35, .ifCond .eq 7, 3), (38, .iconst 1, 1), (39, .goto 4, 3), (42, .iconst 0, 1), (43, .iastore, 1), (44, .iload_n 2, 1), (45, .ireturn, 1)]
def cd_X11_weather : Chunks := [cd_X11_weather_0, cd_X11_weather_1]
def mi_X11_weather : MI := (cd_X11_weather, pl_X11, 1, 3, [])
def cd_X11_isQuiet_0 : List (Nat × Instr × Nat) := [(0, .aload_n 0, 1), (1, .getfield 7, 3), (4, .iconst 4, 1), (5, .iaload, 1), (6, .aload_n 0, 1), (7, .iload_n 1, 1), (8, .iconst 2, 1), (9, .invokevirtual 56, 3), (12, .isub, 1), (13, .bipush 10, 2), (15, .iadd, 1), (16, .bipush 10, 2), (18, .irem, 1), (19, .aload_n 0, 1), (20, .iload_n 1, 1), (21, .iconst 3, 1), (22, .invokevirtual 56, 3), (25, .if_icmp .ge 7, 3), (28, .iconst 1, 1), (29, .goto 4, 3)]
def cd_X11_isQuiet_1 : List (Nat × Instr × Nat) := [(32, .iconst 0, 1), (33, .ireturn, 1)]
def cd_X11_isQuiet : Chunks := [cd_X11_isQuiet_0, cd_X11_isQuiet_1]
def mi_X11_isQuiet : MI := (cd_X11_isQuiet, pl_X11, 2, 2, [])
def cd_X11_areNear_0 : List (Nat × Instr × Nat) := [(0, .aload_n 0, 1), (1, .iload_n 1, 1), (2, .iconst 0, 1), (3, .invokevirtual 56, 3), (6, .aload_n 0, 1), (7, .iload_n 2, 1), (8, .iconst 0, 1), (9, .invokevirtual 56, 3), (12, .isub, 1), (13, .istore_n 3, 1), (14, .iload_n 3, 1), (15, .ifCond .ge 8, 3), (18, .iload_n 3, 1), (19, .ineg, 1), (20, .goto 4, 3), (23, .iload_n 3, 1), (24, .aload_n 0, 1), (25, .getfield 7, 3), (28, .bipush 11, 2), (30, .iaload, 1), (31, .if_icmp .gt 7, 3)]
def cd_X11_areNear_1 : List (Nat × Instr × Nat) := [(34, .iconst 1, 1), (35, .goto 4, 3), (38, .iconst 0, 1), (39, .ireturn, 1)]
def cd_X11_areNear : Chunks := [cd_X11_areNear_0, cd_X11_areNear_1]
def mi_X11_areNear : MI := (cd_X11_areNear, pl_X11, 2, 4, [])
def cd_X11_heardAt_0 : List (Nat × Instr × Nat) := [(0, .iconst 0, 1), (1, .istore_n 2, 1), (2, .aload_n 0, 1), (3, .getfield 7, 3), (6, .iconst 4, 1), (7, .iaload, 1), (8, .aload_n 0, 1), (9, .getfield 7, 3), (12, .bipush 12, 2), (14, .iaload, 1), (15, .if_icmp .le 20, 3), (18, .aload_n 0, 1), (19, .getfield 7, 3), (22, .iconst 4, 1), (23, .iaload, 1), (24, .aload_n 0, 1), (25, .getfield 7, 3), (28, .bipush 12, 2), (30, .iaload, 1), (31, .isub, 1)]
def cd_X11_heardAt_1 : List (Nat × Instr × Nat) := [(32, .goto 4, 3), (35, .iconst 0, 1), (36, .istore_n 3, 1), (37, .iconst 0, 1), (38, .istore 4, 2), (40, .iload 4, 2), (42, .aload_n 0, 1), (43, .getfield 7, 3), (46, .iconst 1, 1), (47, .iaload, 1), (48, .if_icmp .ge 94, 3), (51, .aload_n 0, 1), (52, .iload 4, 2), (54, .invokevirtual 86, 3), (57, .iconst (-1), 1), (58, .if_icmp .eq 21, 3), (61, .aload_n 0, 1), (62, .iload_n 1, 1), (63, .aload_n 0, 1)]
def cd_X11_heardAt_2 : List (Nat × Instr × Nat) := [(64, .iload 4, 2), (66, .invokevirtual 86, 3), (69, .invokevirtual 117, 3), (72, .ifCond .eq 7, 3), (75, .iconst 1, 1), (76, .goto 4, 3), (79, .iconst 0, 1), (80, .istore 5, 2), (82, .iload_n 3, 1), (83, .istore 6, 2), (85, .iload 6, 2), (87, .aload_n 0, 1), (88, .getfield 7, 3), (91, .iconst 4, 1), (92, .iaload, 1), (93, .if_icmp .gt 43, 3)]
def cd_X11_heardAt_3 : List (Nat × Instr × Nat) := [(96, .iload_n 2, 1), (97, .iload 5, 2), (99, .ifCond .eq 28, 3), (102, .aload_n 0, 1), (103, .iload 4, 2), (105, .iload 6, 2), (107, .invokevirtual 121, 3), (110, .iconst (-1), 1), (111, .if_icmp .eq 16, 3), (114, .iconst 1, 1), (115, .aload_n 0, 1), (116, .iload 4, 2), (118, .iload 6, 2), (120, .invokevirtual 121, 3), (123, .ishl, 1), (124, .goto 4, 3), (127, .iconst 0, 1)]
def cd_X11_heardAt_4 : List (Nat × Instr × Nat) := [(128, .ior, 1), (129, .istore_n 2, 1), (130, .iinc 6 1, 3), (133, .goto (-48), 3), (136, .iinc 4 1, 3), (139, .goto (-99), 3), (142, .iload_n 2, 1), (143, .ireturn, 1)]
def cd_X11_heardAt : Chunks := [cd_X11_heardAt_0, cd_X11_heardAt_1, cd_X11_heardAt_2, cd_X11_heardAt_3, cd_X11_heardAt_4]
def mi_X11_heardAt : MI := (cd_X11_heardAt, pl_X11, 1, 7, [])
def cd_X11_crewOf_0 : List (Nat × Instr × Nat) := [(0, .iconst 0, 1), (1, .istore_n 2, 1), (2, .iconst 0, 1), (3, .istore_n 3, 1), (4, .iload_n 3, 1), (5, .aload_n 0, 1), (6, .getfield 7, 3), (9, .iconst 2, 1), (10, .iaload, 1), (11, .if_icmp .ge 29, 3), (14, .iload_n 2, 1), (15, .aload_n 0, 1), (16, .iload_n 3, 1), (17, .iconst 0, 1), (18, .invokevirtual 73, 3), (21, .iconst 1, 1), (22, .isub, 1), (23, .iload_n 1, 1), (24, .if_icmp .ne 7, 3), (27, .iconst 1, 1), (28, .goto 4, 3), (31, .iconst 0, 1)]
def cd_X11_crewOf_1 : List (Nat × Instr × Nat) := [(32, .iadd, 1), (33, .istore_n 2, 1), (34, .iinc 3 1, 3), (37, .goto (-33), 3), (40, .iload_n 2, 1), (41, .ireturn, 1)]
def cd_X11_crewOf : Chunks := [cd_X11_crewOf_0, cd_X11_crewOf_1]
def mi_X11_crewOf : MI := (cd_X11_crewOf, pl_X11, 1, 4, [])
def cd_X11_reason_0 : List (Nat × Instr × Nat) := [(0, .aload_n 0, 1), (1, .iload_n 1, 1), (2, .invokevirtual 86, 3), (5, .istore_n 3, 1), (6, .iload_n 3, 1), (7, .iconst (-1), 1), (8, .if_icmp .ne 5, 3), (11, .iconst 1, 1), (12, .ireturn, 1), (13, .aload_n 0, 1), (14, .iload_n 1, 1), (15, .invokevirtual 124, 3), (18, .ifCond .ne 5, 3), (21, .iconst 2, 1), (22, .ireturn, 1), (23, .aload_n 0, 1), (24, .iload_n 1, 1), (25, .iconst 2, 1), (26, .invokevirtual 45, 3), (29, .iload_n 2, 1), (30, .ishr, 1), (31, .iconst 1, 1)]
def cd_X11_reason_1 : List (Nat × Instr × Nat) := [(32, .iand, 1), (33, .ifCond .ne 5, 3), (36, .iconst 3, 1), (37, .ireturn, 1), (38, .aload_n 0, 1), (39, .iload_n 1, 1), (40, .aload_n 0, 1), (41, .getfield 7, 3), (44, .iconst 4, 1), (45, .iaload, 1), (46, .invokevirtual 121, 3), (49, .iconst (-1), 1), (50, .if_icmp .eq 5, 3), (53, .iconst 4, 1), (54, .ireturn, 1), (55, .aload_n 0, 1), (56, .iload_n 3, 1), (57, .invokevirtual 127, 3), (60, .ifCond .eq 7, 3), (63, .iconst 5, 1)]
def cd_X11_reason_2 : List (Nat × Instr × Nat) := [(64, .goto 22, 3), (67, .aload_n 0, 1), (68, .iload_n 3, 1), (69, .invokevirtual 130, 3), (72, .iload_n 2, 1), (73, .ishr, 1), (74, .iconst 1, 1), (75, .iand, 1), (76, .iconst 1, 1), (77, .if_icmp .ne 8, 3), (80, .bipush 6, 2), (82, .goto 4, 3), (85, .iconst 0, 1), (86, .ireturn, 1)]
def cd_X11_reason : Chunks := [cd_X11_reason_0, cd_X11_reason_1, cd_X11_reason_2]
def mi_X11_reason : MI := (cd_X11_reason, pl_X11, 1, 4, [])
def cd_X11_othersNear_0 : List (Nat × Instr × Nat) := [(0, .iconst 0, 1), (1, .istore_n 2, 1), (2, .iconst 0, 1), (3, .istore_n 3, 1), (4, .iload_n 3, 1), (5, .aload_n 0, 1), (6, .getfield 7, 3), (9, .iconst 1, 1), (10, .iaload, 1), (11, .if_icmp .ge 66, 3), (14, .iload_n 3, 1), (15, .iload_n 1, 1), (16, .if_icmp .eq 22, 3), (19, .aload_n 0, 1), (20, .iload_n 3, 1), (21, .aload_n 0, 1), (22, .getfield 7, 3), (25, .iconst 4, 1), (26, .iaload, 1), (27, .invokevirtual 121, 3), (30, .iconst (-1), 1), (31, .if_icmp .eq 7, 3)]
def cd_X11_othersNear_1 : List (Nat × Instr × Nat) := [(34, .iconst 1, 1), (35, .goto 4, 3), (38, .iconst 0, 1), (39, .istore 4, 2), (41, .iload_n 2, 1), (42, .iload 4, 2), (44, .ifCond .eq 24, 3), (47, .aload_n 0, 1), (48, .aload_n 0, 1), (49, .iload_n 1, 1), (50, .invokevirtual 86, 3), (53, .aload_n 0, 1), (54, .iload_n 3, 1), (55, .invokevirtual 86, 3), (58, .invokevirtual 117, 3), (61, .ifCond .eq 7, 3)]
def cd_X11_othersNear_2 : List (Nat × Instr × Nat) := [(64, .iconst 1, 1), (65, .goto 4, 3), (68, .iconst 0, 1), (69, .iadd, 1), (70, .istore_n 2, 1), (71, .iinc 3 1, 3), (74, .goto (-70), 3), (77, .iload_n 2, 1), (78, .ireturn, 1)]
def cd_X11_othersNear : Chunks := [cd_X11_othersNear_0, cd_X11_othersNear_1, cd_X11_othersNear_2]
def mi_X11_othersNear : MI := (cd_X11_othersNear, pl_X11, 1, 5, [])
def cd_X11_takings_0 : List (Nat × Instr × Nat) := [(0, .bipush 10, 2), (2, .iconst 2, 1), (3, .iload_n 2, 1), (4, .imul, 1), (5, .isub, 1), (6, .istore_n 3, 1), (7, .aload_n 0, 1), (8, .aload_n 0, 1), (9, .iload_n 1, 1), (10, .invokevirtual 86, 3), (13, .iconst 1, 1), (14, .invokevirtual 56, 3), (17, .iload_n 3, 1), (18, .ifCond .ge 7, 3), (21, .iconst 0, 1), (22, .goto 4, 3), (25, .iload_n 3, 1), (26, .imul, 1), (27, .bipush 10, 2), (29, .idiv, 1), (30, .istore 4, 2)]
def cd_X11_takings_1 : List (Nat × Instr × Nat) := [(32, .aload_n 0, 1), (33, .getfield 7, 3), (36, .iconst 5, 1), (37, .iaload, 1), (38, .iconst 1, 1), (39, .if_icmp .ne 10, 3), (42, .iload 4, 2), (44, .iconst 2, 1), (45, .idiv, 1), (46, .goto 5, 3), (49, .iload 4, 2), (51, .ireturn, 1)]
def cd_X11_takings : Chunks := [cd_X11_takings_0, cd_X11_takings_1]
def mi_X11_takings : MI := (cd_X11_takings, pl_X11, 1, 5, [])
def cd_X11_plays_0 : List (Nat × Instr × Nat) := [(0, .aload_n 0, 1), (1, .iload_n 1, 1), (2, .aload_n 0, 1), (3, .iload_n 1, 1), (4, .invokevirtual 133, 3), (7, .invokevirtual 136, 3), (10, .istore_n 3, 1), (11, .iload_n 3, 1), (12, .aload_n 0, 1), (13, .getfield 7, 3), (16, .bipush 13, 2), (18, .iaload, 1), (19, .imul, 1), (20, .bipush 100, 2), (22, .idiv, 1), (23, .istore 4, 2), (25, .iload 4, 2), (27, .aload_n 0, 1), (28, .getfield 7, 3), (31, .bipush 14, 2)]
def cd_X11_plays_1 : List (Nat × Instr × Nat) := [(33, .iaload, 1), (34, .imul, 1), (35, .bipush 100, 2), (37, .idiv, 1), (38, .istore 5, 2), (40, .iload_n 3, 1), (41, .iload 4, 2), (43, .isub, 1), (44, .aload_n 0, 1), (45, .iload_n 1, 1), (46, .iconst 0, 1), (47, .invokevirtual 45, 3), (50, .imul, 1), (51, .bipush 100, 2), (53, .idiv, 1), (54, .istore 6, 2), (56, .aload_n 0, 1), (57, .getfield 7, 3), (60, .bipush 10, 2), (62, .dup2, 1), (63, .iaload, 1)]
def cd_X11_plays_2 : List (Nat × Instr × Nat) := [(64, .iload 5, 2), (66, .iadd, 1), (67, .iastore, 1), (68, .aload_n 0, 1), (69, .getfield 7, 3), (72, .bipush 9, 2), (74, .dup2, 1), (75, .iaload, 1), (76, .iload 4, 2), (78, .iload 5, 2), (80, .isub, 1), (81, .iadd, 1), (82, .iastore, 1), (83, .aload_n 0, 1), (84, .getfield 7, 3), (87, .bipush 56, 2), (89, .bipush 7, 2), (91, .iload_n 1, 1), (92, .imul, 1), (93, .iadd, 1), (94, .iconst 5, 1), (95, .iadd, 1)]
def cd_X11_plays_3 : List (Nat × Instr × Nat) := [(96, .dup2, 1), (97, .iaload, 1), (98, .iload 6, 2), (100, .iadd, 1), (101, .iastore, 1), (102, .aload_n 0, 1), (103, .getfield 7, 3), (106, .bipush 56, 2), (108, .bipush 7, 2), (110, .iload_n 1, 1), (111, .imul, 1), (112, .iadd, 1), (113, .iconst 4, 1), (114, .iadd, 1), (115, .dup2, 1), (116, .iaload, 1), (117, .iload_n 3, 1), (118, .iload 4, 2), (120, .isub, 1), (121, .iload 6, 2), (123, .isub, 1), (124, .iadd, 1), (125, .iastore, 1), (126, .aload_n 0, 1), (127, .getfield 7, 3)]
def cd_X11_plays_4 : List (Nat × Instr × Nat) := [(130, .bipush 56, 2), (132, .bipush 7, 2), (134, .iload_n 1, 1), (135, .imul, 1), (136, .iadd, 1), (137, .bipush 6, 2), (139, .iadd, 1), (140, .dup2, 1), (141, .iaload, 1), (142, .iload_n 3, 1), (143, .iadd, 1), (144, .iastore, 1), (145, .aload_n 0, 1), (146, .getfield 7, 3), (149, .bipush 8, 2), (151, .dup2, 1), (152, .iaload, 1), (153, .iload_n 3, 1), (154, .iadd, 1), (155, .iastore, 1), (156, .aload_n 0, 1), (157, .getfield 7, 3)]
def cd_X11_plays_5 : List (Nat × Instr × Nat) := [(160, .bipush 7, 2), (162, .dup2, 1), (163, .iaload, 1), (164, .iconst 1, 1), (165, .iadd, 1), (166, .iastore, 1), (167, .aload_n 0, 1), (168, .getfield 7, 3), (171, .sipush 163, 3), (174, .bipush 10, 2), (176, .iload_n 1, 1), (177, .imul, 1), (178, .iadd, 1), (179, .aload_n 0, 1), (180, .getfield 7, 3), (183, .iconst 4, 1), (184, .iaload, 1), (185, .iadd, 1), (186, .iload_n 2, 1), (187, .iconst 1, 1), (188, .iadd, 1), (189, .iastore, 1), (190, .iconst 0, 1), (191, .istore 7, 2)]
def cd_X11_plays_6 : List (Nat × Instr × Nat) := [(193, .iload 7, 2), (195, .aload_n 0, 1), (196, .getfield 7, 3), (199, .iconst 2, 1), (200, .iaload, 1), (201, .if_icmp .ge 58, 3), (204, .aload_n 0, 1), (205, .iload 7, 2), (207, .iconst 0, 1), (208, .invokevirtual 73, 3), (211, .iconst 1, 1), (212, .isub, 1), (213, .iload_n 1, 1), (214, .if_icmp .ne 39, 3), (217, .aload_n 0, 1), (218, .getfield 7, 3), (221, .bipush 123, 2), (223, .iconst 5, 1)]
def cd_X11_plays_7 : List (Nat × Instr × Nat) := [(224, .iload 7, 2), (226, .imul, 1), (227, .iadd, 1), (228, .iload_n 1, 1), (229, .iadd, 1), (230, .dup2, 1), (231, .iaload, 1), (232, .iconst 1, 1), (233, .iadd, 1), (234, .iastore, 1), (235, .aload_n 0, 1), (236, .getfield 7, 3), (239, .bipush 91, 2), (241, .iconst 4, 1), (242, .iload 7, 2), (244, .imul, 1), (245, .iadd, 1), (246, .iconst 3, 1), (247, .iadd, 1), (248, .dup2, 1), (249, .iaload, 1), (250, .iconst 1, 1), (251, .iadd, 1), (252, .iastore, 1), (253, .iinc 7 1, 3)]
def cd_X11_plays_8 : List (Nat × Instr × Nat) := [(256, .goto (-63), 3), (259, .iload_n 3, 1), (260, .ireturn, 1)]
def cd_X11_plays : Chunks := [cd_X11_plays_0, cd_X11_plays_1, cd_X11_plays_2, cd_X11_plays_3, cd_X11_plays_4, cd_X11_plays_5, cd_X11_plays_6, cd_X11_plays_7, cd_X11_plays_8]
def mi_X11_plays : MI := (cd_X11_plays, pl_X11, 1, 8, [])
def cd_X11_play_0 : List (Nat × Instr × Nat) := [(0, .aload_n 0, 1), (1, .iconst 0, 1), (2, .putfield 37, 3), (5, .aload_n 0, 1), (6, .iload_n 1, 1), (7, .invokevirtual 62, 3), (10, .ifCond .ne 9, 3), (13, .aload_n 0, 1), (14, .iconst 1, 1), (15, .invokevirtual 52, 3), (18, .ireturn, 1), (19, .iload_n 2, 1), (20, .iconst 0, 1), (21, .bipush 9, 2), (23, .invokestatic 41, 3), (26, .ifCond .ne 9, 3), (29, .aload_n 0, 1), (30, .iconst 2, 1), (31, .invokevirtual 52, 3)]
def cd_X11_play_1 : List (Nat × Instr × Nat) := [(34, .ireturn, 1), (35, .aload_n 0, 1), (36, .iload_n 1, 1), (37, .iload_n 2, 1), (38, .invokevirtual 139, 3), (41, .ifCond .eq 9, 3), (44, .aload_n 0, 1), (45, .iconst 3, 1), (46, .invokevirtual 52, 3), (49, .ireturn, 1), (50, .aload_n 0, 1), (51, .invokevirtual 59, 3), (54, .aload_n 0, 1), (55, .iload_n 1, 1), (56, .iload_n 2, 1), (57, .invokevirtual 142, 3), (60, .ireturn, 1)]
def cd_X11_play : Chunks := [cd_X11_play_0, cd_X11_play_1]
def mi_X11_play : MI := (cd_X11_play, pl_X11, 1, 3, [])
def cd_X11_timeAt_0 : List (Nat × Instr × Nat) := [(0, .aload_n 0, 1), (1, .getfield 7, 3), (4, .bipush 123, 2), (6, .iconst 5, 1), (7, .iload_n 1, 1), (8, .imul, 1), (9, .iadd, 1), (10, .iload_n 2, 1), (11, .iadd, 1), (12, .iaload, 1), (13, .ireturn, 1)]
def cd_X11_timeAt : Chunks := [cd_X11_timeAt_0]
def mi_X11_timeAt : MI := (cd_X11_timeAt, pl_X11, 1, 3, [])
def cd_X11_timeToday_0 : List (Nat × Instr × Nat) := [(0, .iconst 0, 1), (1, .istore_n 2, 1), (2, .iconst 0, 1), (3, .istore_n 3, 1), (4, .iload_n 3, 1), (5, .iconst 5, 1), (6, .if_icmp .ge 18, 3), (9, .iload_n 2, 1), (10, .aload_n 0, 1), (11, .iload_n 1, 1), (12, .iload_n 3, 1), (13, .invokevirtual 145, 3), (16, .iadd, 1), (17, .istore_n 2, 1), (18, .iinc 3 1, 3), (21, .goto (-17), 3), (24, .iload_n 2, 1), (25, .ireturn, 1)]
def cd_X11_timeToday : Chunks := [cd_X11_timeToday_0]
def mi_X11_timeToday : MI := (cd_X11_timeToday, pl_X11, 1, 4, [])
def cd_X11_sharePot_0 : List (Nat × Instr × Nat) := [(0, .aload_n 0, 1), (1, .iload_n 1, 1), (2, .iconst 4, 1), (3, .invokevirtual 45, 3), (6, .istore_n 2, 1), (7, .iconst 0, 1), (8, .istore_n 3, 1), (9, .iconst 0, 1), (10, .istore 4, 2), (12, .iload 4, 2), (14, .aload_n 0, 1), (15, .getfield 7, 3), (18, .iconst 2, 1), (19, .iaload, 1), (20, .if_icmp .ge 19, 3), (23, .iload_n 3, 1), (24, .aload_n 0, 1), (25, .iload 4, 2), (27, .iload_n 1, 1), (28, .invokevirtual 145, 3), (31, .iadd, 1)]
def cd_X11_sharePot_1 : List (Nat × Instr × Nat) := [(32, .istore_n 3, 1), (33, .iinc 4 1, 3), (36, .goto (-24), 3), (39, .iload_n 2, 1), (40, .ifCond .eq 7, 3), (43, .iload_n 3, 1), (44, .ifCond .ne 4, 3), (47, .return_, 1), (48, .iload_n 2, 1), (49, .istore 4, 2), (51, .iconst 0, 1), (52, .istore 5, 2), (54, .iload 5, 2), (56, .aload_n 0, 1), (57, .getfield 7, 3), (60, .iconst 2, 1), (61, .iaload, 1), (62, .if_icmp .ge 66, 3)]
def cd_X11_sharePot_2 : List (Nat × Instr × Nat) := [(65, .iload_n 2, 1), (66, .aload_n 0, 1), (67, .iload 5, 2), (69, .iload_n 1, 1), (70, .invokevirtual 145, 3), (73, .imul, 1), (74, .iload_n 3, 1), (75, .idiv, 1), (76, .istore 6, 2), (78, .aload_n 0, 1), (79, .getfield 25, 3), (82, .iload 5, 2), (84, .iload_n 2, 1), (85, .aload_n 0, 1), (86, .iload 5, 2), (88, .iload_n 1, 1), (89, .invokevirtual 145, 3), (92, .imul, 1), (93, .iload_n 3, 1), (94, .irem, 1), (95, .iastore, 1)]
def cd_X11_sharePot_3 : List (Nat × Instr × Nat) := [(96, .aload_n 0, 1), (97, .getfield 7, 3), (100, .bipush 91, 2), (102, .iconst 4, 1), (103, .iload 5, 2), (105, .imul, 1), (106, .iadd, 1), (107, .iconst 1, 1), (108, .iadd, 1), (109, .dup2, 1), (110, .iaload, 1), (111, .iload 6, 2), (113, .iadd, 1), (114, .iastore, 1), (115, .iload 4, 2), (117, .iload 6, 2), (119, .isub, 1), (120, .istore 4, 2), (122, .iinc 5 1, 3), (125, .goto (-71), 3)]
def cd_X11_sharePot_4 : List (Nat × Instr × Nat) := [(128, .iload 4, 2), (130, .ifCond .le 84, 3), (133, .iconst 0, 1), (134, .istore 5, 2), (136, .iconst 1, 1), (137, .istore 6, 2), (139, .iload 6, 2), (141, .aload_n 0, 1), (142, .getfield 7, 3), (145, .iconst 2, 1), (146, .iaload, 1), (147, .if_icmp .ge 35, 3), (150, .aload_n 0, 1), (151, .getfield 25, 3), (154, .iload 6, 2), (156, .iaload, 1), (157, .aload_n 0, 1), (158, .getfield 25, 3)]
def cd_X11_sharePot_5 : List (Nat × Instr × Nat) := [(161, .iload 5, 2), (163, .iaload, 1), (164, .if_icmp .le 8, 3), (167, .iload 6, 2), (169, .goto 5, 3), (172, .iload 5, 2), (174, .istore 5, 2), (176, .iinc 6 1, 3), (179, .goto (-40), 3), (182, .aload_n 0, 1), (183, .getfield 7, 3), (186, .bipush 91, 2), (188, .iconst 4, 1), (189, .iload 5, 2), (191, .imul, 1)]
def cd_X11_sharePot_6 : List (Nat × Instr × Nat) := [(192, .iadd, 1), (193, .iconst 1, 1), (194, .iadd, 1), (195, .dup2, 1), (196, .iaload, 1), (197, .iconst 1, 1), (198, .iadd, 1), (199, .iastore, 1), (200, .aload_n 0, 1), (201, .getfield 25, 3), (204, .iload 5, 2), (206, .iconst (-1), 1), (207, .iastore, 1), (208, .iinc 4 (-1), 3), (211, .goto (-83), 3), (214, .aload_n 0, 1), (215, .getfield 7, 3), (218, .bipush 56, 2), (220, .bipush 7, 2), (222, .iload_n 1, 1), (223, .imul, 1)]
def cd_X11_sharePot_7 : List (Nat × Instr × Nat) := [(224, .iadd, 1), (225, .iconst 4, 1), (226, .iadd, 1), (227, .iconst 0, 1), (228, .iastore, 1), (229, .return_, 1)]
def cd_X11_sharePot : Chunks := [cd_X11_sharePot_0, cd_X11_sharePot_1, cd_X11_sharePot_2, cd_X11_sharePot_3, cd_X11_sharePot_4, cd_X11_sharePot_5, cd_X11_sharePot_6, cd_X11_sharePot_7]
def mi_X11_sharePot : MI := (cd_X11_sharePot, pl_X11, 0, 7, [])
def cd_X11_endDay_0 : List (Nat × Instr × Nat) := [(0, .iconst 0, 1), (1, .istore_n 1, 1), (2, .iload_n 1, 1), (3, .aload_n 0, 1), (4, .getfield 7, 3), (7, .iconst 1, 1), (8, .iaload, 1), (9, .if_icmp .ge 14, 3), (12, .aload_n 0, 1), (13, .iload_n 1, 1), (14, .invokevirtual 148, 3), (17, .iinc 1 1, 3), (20, .goto (-18), 3), (23, .iconst 0, 1), (24, .istore_n 1, 1), (25, .iload_n 1, 1), (26, .aload_n 0, 1), (27, .getfield 7, 3), (30, .iconst 2, 1), (31, .iaload, 1)]
def cd_X11_endDay_1 : List (Nat × Instr × Nat) := [(32, .if_icmp .ge 112, 3), (35, .aload_n 0, 1), (36, .getfield 7, 3), (39, .iconst 5, 1), (40, .iaload, 1), (41, .iconst 1, 1), (42, .if_icmp .ne 102, 3), (45, .aload_n 0, 1), (46, .iload_n 1, 1), (47, .invokevirtual 152, 3), (50, .iconst 3, 1), (51, .if_icmp .lt 7, 3), (54, .iconst 0, 1), (55, .goto 37, 3), (58, .aload_n 0, 1), (59, .getfield 7, 3), (62, .bipush 15, 2)]
def cd_X11_endDay_2 : List (Nat × Instr × Nat) := [(64, .iaload, 1), (65, .aload_n 0, 1), (66, .getfield 7, 3), (69, .bipush 10, 2), (71, .iaload, 1), (72, .if_icmp .ge 13, 3), (75, .aload_n 0, 1), (76, .getfield 7, 3), (79, .bipush 15, 2), (81, .iaload, 1), (82, .goto 10, 3), (85, .aload_n 0, 1), (86, .getfield 7, 3), (89, .bipush 10, 2), (91, .iaload, 1), (92, .istore_n 2, 1), (93, .aload_n 0, 1), (94, .getfield 7, 3)]
def cd_X11_endDay_3 : List (Nat × Instr × Nat) := [(97, .bipush 91, 2), (99, .iconst 4, 1), (100, .iload_n 1, 1), (101, .imul, 1), (102, .iadd, 1), (103, .iconst 1, 1), (104, .iadd, 1), (105, .dup2, 1), (106, .iaload, 1), (107, .iload_n 2, 1), (108, .iadd, 1), (109, .iastore, 1), (110, .aload_n 0, 1), (111, .getfield 7, 3), (114, .bipush 91, 2), (116, .iconst 4, 1), (117, .iload_n 1, 1), (118, .imul, 1), (119, .iadd, 1), (120, .iconst 2, 1), (121, .iadd, 1), (122, .dup2, 1), (123, .iaload, 1), (124, .iload_n 2, 1), (125, .iadd, 1), (126, .iastore, 1), (127, .aload_n 0, 1)]
def cd_X11_endDay_4 : List (Nat × Instr × Nat) := [(128, .getfield 7, 3), (131, .bipush 10, 2), (133, .dup2, 1), (134, .iaload, 1), (135, .iload_n 2, 1), (136, .isub, 1), (137, .iastore, 1), (138, .iinc 1 1, 3), (141, .goto (-116), 3), (144, .return_, 1)]
def cd_X11_endDay : Chunks := [cd_X11_endDay_0, cd_X11_endDay_1, cd_X11_endDay_2, cd_X11_endDay_3, cd_X11_endDay_4]
def mi_X11_endDay : MI := (cd_X11_endDay, pl_X11, 0, 3, [])
def cd_X11_goOn_0 : List (Nat × Instr × Nat) := [(0, .aload_n 0, 1), (1, .getfield 7, 3), (4, .iconst 4, 1), (5, .dup2, 1), (6, .iaload, 1), (7, .iconst 1, 1), (8, .iadd, 1), (9, .iastore, 1), (10, .aload_n 0, 1), (11, .getfield 7, 3), (14, .iconst 4, 1), (15, .iaload, 1), (16, .bipush 10, 2), (18, .if_icmp .ge 4, 3), (21, .return_, 1), (22, .aload_n 0, 1), (23, .invokevirtual 155, 3), (26, .aload_n 0, 1), (27, .getfield 7, 3), (30, .iconst 3, 1), (31, .dup2, 1)]
def cd_X11_goOn_1 : List (Nat × Instr × Nat) := [(32, .iaload, 1), (33, .iconst 1, 1), (34, .iadd, 1), (35, .iastore, 1), (36, .aload_n 0, 1), (37, .getfield 7, 3), (40, .iconst 4, 1), (41, .iconst 0, 1), (42, .iastore, 1), (43, .aload_n 0, 1), (44, .getfield 7, 3), (47, .iconst 5, 1), (48, .iconst 0, 1), (49, .iastore, 1), (50, .bipush 123, 2), (52, .istore_n 1, 1), (53, .iload_n 1, 1), (54, .sipush 213, 3), (57, .if_icmp .ge 16, 3), (60, .aload_n 0, 1), (61, .getfield 7, 3)]
def cd_X11_goOn_2 : List (Nat × Instr × Nat) := [(64, .iload_n 1, 1), (65, .iconst 0, 1), (66, .iastore, 1), (67, .iinc 1 1, 3), (70, .goto (-17), 3), (73, .aload_n 0, 1), (74, .invokevirtual 95, 3), (77, .return_, 1)]
def cd_X11_goOn : Chunks := [cd_X11_goOn_0, cd_X11_goOn_1, cd_X11_goOn_2]
def mi_X11_goOn : MI := (cd_X11_goOn, pl_X11, 0, 2, [])
def cd_X11_next_0 : List (Nat × Instr × Nat) := [(0, .aload_n 0, 1), (1, .iconst 0, 1), (2, .putfield 37, 3), (5, .aload_n 0, 1), (6, .invokevirtual 59, 3), (9, .aload_n 0, 1), (10, .invokevirtual 158, 3), (13, .aload_n 0, 1), (14, .getfield 7, 3), (17, .iconst 4, 1), (18, .iaload, 1), (19, .ireturn, 1)]
def cd_X11_next : Chunks := [cd_X11_next_0]
def mi_X11_next : MI := (cd_X11_next, pl_X11, 1, 1, [])
def cd_X11_append_0 : List (Nat × Instr × Nat) := [(0, .aload_n 0, 1), (1, .iconst 0, 1), (2, .putfield 37, 3), (5, .iload_n 1, 1), (6, .bipush 33, 2), (8, .bipush 126, 2), (10, .invokestatic 41, 3), (13, .ifCond .ne 9, 3), (16, .aload_n 0, 1), (17, .iconst 1, 1), (18, .invokevirtual 52, 3), (21, .ireturn, 1), (22, .aload_n 0, 1), (23, .getfield 161, 3), (26, .bipush 60, 2), (28, .if_icmp .ne 9, 3), (31, .aload_n 0, 1)]
def cd_X11_append_1 : List (Nat × Instr × Nat) := [(32, .iconst 2, 1), (33, .invokevirtual 52, 3), (36, .ireturn, 1), (37, .aload_n 0, 1), (38, .getfield 19, 3), (41, .aload_n 0, 1), (42, .getfield 161, 3), (45, .iload_n 1, 1), (46, .iastore, 1), (47, .aload_n 0, 1), (48, .dup, 1), (49, .getfield 161, 3), (52, .iconst 1, 1), (53, .iadd, 1), (54, .putfield 161, 3), (57, .aload_n 0, 1), (58, .getfield 161, 3), (61, .ireturn, 1)]
def cd_X11_append : Chunks := [cd_X11_append_0, cd_X11_append_1]
def mi_X11_append : MI := (cd_X11_append, pl_X11, 1, 2, [])
def cd_X11_clearBuffer_0 : List (Nat × Instr × Nat) := [(0, .aload_n 0, 1), (1, .iconst 0, 1), (2, .putfield 37, 3), (5, .aload_n 0, 1), (6, .getfield 161, 3), (9, .istore_n 1, 1), (10, .aload_n 0, 1), (11, .iconst 0, 1), (12, .putfield 161, 3), (15, .iload_n 1, 1), (16, .ireturn, 1)]
def cd_X11_clearBuffer : Chunks := [cd_X11_clearBuffer_0]
def mi_X11_clearBuffer : MI := (cd_X11_clearBuffer, pl_X11, 1, 2, [])
def cd_X11_goes_0 : List (Nat × Instr × Nat) := [(0, .aload_n 0, 1), (1, .iload_n 1, 1), (2, .ifCond .eq 7, 3), (5, .iload_n 2, 1), (6, .goto 7, 3), (9, .aload_n 0, 1), (10, .getfield 164, 3), (13, .putfield 164, 3), (16, .iload_n 1, 1), (17, .ireturn, 1)]
def cd_X11_goes : Chunks := [cd_X11_goes_0]
def mi_X11_goes : MI := (cd_X11_goes, pl_X11, 2, 3, [])
def cd_X11_ends_0 : List (Nat × Instr × Nat) := [(0, .iload_n 1, 1), (1, .ifCond .eq 23, 3), (4, .aload_n 0, 1), (5, .getfield 22, 3), (8, .aload_n 0, 1), (9, .getfield 167, 3), (12, .iload_n 2, 1), (13, .iastore, 1), (14, .aload_n 0, 1), (15, .dup, 1), (16, .getfield 167, 3), (19, .iconst 1, 1), (20, .iadd, 1), (21, .putfield 167, 3), (24, .aload_n 0, 1), (25, .iload_n 1, 1), (26, .bipush 20, 2), (28, .invokevirtual 170, 3), (31, .ireturn, 1)]
def cd_X11_ends : Chunks := [cd_X11_ends_0]
def mi_X11_ends : MI := (cd_X11_ends, pl_X11, 2, 3, [])
def cd_X11_begins_0 : List (Nat × Instr × Nat) := [(0, .iload_n 1, 1), (1, .lookupswitch 73 #[(100, 57), (108, 43), (110, 65), (119, 50)], 43)]
def cd_X11_begins_1 : List (Nat × Instr × Nat) := [(44, .aload_n 0, 1), (45, .iconst 1, 1), (46, .iconst 1, 1), (47, .invokevirtual 170, 3), (50, .ireturn, 1), (51, .aload_n 0, 1), (52, .iconst 1, 1), (53, .iconst 4, 1), (54, .invokevirtual 170, 3), (57, .ireturn, 1), (58, .aload_n 0, 1), (59, .iconst 1, 1), (60, .bipush 6, 2), (62, .invokevirtual 170, 3)]
def cd_X11_begins_2 : List (Nat × Instr × Nat) := [(65, .ireturn, 1), (66, .aload_n 0, 1), (67, .iconst 1, 1), (68, .bipush 8, 2), (70, .invokevirtual 170, 3), (73, .ireturn, 1), (74, .aload_n 0, 1), (75, .iload_n 1, 1), (76, .bipush 48, 2), (78, .isub, 1), (79, .putfield 174, 3), (82, .aload_n 0, 1), (83, .aload_n 0, 1), (84, .getfield 174, 3), (87, .iconst 0, 1), (88, .iconst 4, 1), (89, .invokestatic 41, 3), (92, .bipush 11, 2), (94, .invokevirtual 170, 3)]
def cd_X11_begins_3 : List (Nat × Instr × Nat) := [(97, .ireturn, 1)]
def cd_X11_begins : Chunks := [cd_X11_begins_0, cd_X11_begins_1, cd_X11_begins_2, cd_X11_begins_3]
def mi_X11_begins : MI := (cd_X11_begins, pl_X11, 2, 2, [])
def cd_X11_takes_0 : List (Nat × Instr × Nat) := [(0, .aload_n 0, 1), (1, .getfield 164, 3), (4, .tableswitch 293 0 12 #[68, 74, 91, 108, 125, 142, 159, 177, 194, 212, 230, 247, 265], 68)]
def cd_X11_takes_1 : List (Nat × Instr × Nat) := []
def cd_X11_takes_2 : List (Nat × Instr × Nat) := [(72, .aload_n 0, 1), (73, .iload_n 1, 1), (74, .invokevirtual 177, 3), (77, .ireturn, 1), (78, .aload_n 0, 1), (79, .iload_n 1, 1), (80, .bipush 111, 2), (82, .if_icmp .ne 7, 3), (85, .iconst 1, 1), (86, .goto 4, 3), (89, .iconst 0, 1), (90, .iconst 2, 1), (91, .invokevirtual 170, 3), (94, .ireturn, 1), (95, .aload_n 0, 1)]
def cd_X11_takes_3 : List (Nat × Instr × Nat) := [(96, .iload_n 1, 1), (97, .bipush 116, 2), (99, .if_icmp .ne 7, 3), (102, .iconst 1, 1), (103, .goto 4, 3), (106, .iconst 0, 1), (107, .iconst 3, 1), (108, .invokevirtual 170, 3), (111, .ireturn, 1), (112, .aload_n 0, 1), (113, .iload_n 1, 1), (114, .bipush 115, 2), (116, .if_icmp .ne 7, 3), (119, .iconst 1, 1), (120, .goto 4, 3), (123, .iconst 0, 1), (124, .iconst 0, 1), (125, .invokevirtual 180, 3)]
def cd_X11_takes_4 : List (Nat × Instr × Nat) := [(128, .ireturn, 1), (129, .aload_n 0, 1), (130, .iload_n 1, 1), (131, .bipush 101, 2), (133, .if_icmp .ne 7, 3), (136, .iconst 1, 1), (137, .goto 4, 3), (140, .iconst 0, 1), (141, .iconst 5, 1), (142, .invokevirtual 170, 3), (145, .ireturn, 1), (146, .aload_n 0, 1), (147, .iload_n 1, 1), (148, .bipush 116, 2), (150, .if_icmp .ne 7, 3), (153, .iconst 1, 1), (154, .goto 4, 3), (157, .iconst 0, 1), (158, .iconst 1, 1), (159, .invokevirtual 180, 3)]
def cd_X11_takes_5 : List (Nat × Instr × Nat) := [(162, .ireturn, 1), (163, .aload_n 0, 1), (164, .iload_n 1, 1), (165, .bipush 114, 2), (167, .if_icmp .ne 7, 3), (170, .iconst 1, 1), (171, .goto 4, 3), (174, .iconst 0, 1), (175, .bipush 7, 2), (177, .invokevirtual 170, 3), (180, .ireturn, 1), (181, .aload_n 0, 1), (182, .iload_n 1, 1), (183, .bipush 121, 2), (185, .if_icmp .ne 7, 3), (188, .iconst 1, 1), (189, .goto 4, 3)]
def cd_X11_takes_6 : List (Nat × Instr × Nat) := [(192, .iconst 0, 1), (193, .iconst 2, 1), (194, .invokevirtual 180, 3), (197, .ireturn, 1), (198, .aload_n 0, 1), (199, .iload_n 1, 1), (200, .bipush 101, 2), (202, .if_icmp .ne 7, 3), (205, .iconst 1, 1), (206, .goto 4, 3), (209, .iconst 0, 1), (210, .bipush 9, 2), (212, .invokevirtual 170, 3), (215, .ireturn, 1), (216, .aload_n 0, 1), (217, .iload_n 1, 1), (218, .bipush 120, 2), (220, .if_icmp .ne 7, 3), (223, .iconst 1, 1)]
def cd_X11_takes_7 : List (Nat × Instr × Nat) := [(224, .goto 4, 3), (227, .iconst 0, 1), (228, .bipush 10, 2), (230, .invokevirtual 170, 3), (233, .ireturn, 1), (234, .aload_n 0, 1), (235, .iload_n 1, 1), (236, .bipush 116, 2), (238, .if_icmp .ne 7, 3), (241, .iconst 1, 1), (242, .goto 4, 3), (245, .iconst 0, 1), (246, .iconst 3, 1), (247, .invokevirtual 180, 3), (250, .ireturn, 1), (251, .aload_n 0, 1), (252, .iload_n 1, 1), (253, .bipush 58, 2), (255, .if_icmp .ne 7, 3)]
def cd_X11_takes_8 : List (Nat × Instr × Nat) := [(258, .iconst 1, 1), (259, .goto 4, 3), (262, .iconst 0, 1), (263, .bipush 12, 2), (265, .invokevirtual 170, 3), (268, .ireturn, 1), (269, .aload_n 0, 1), (270, .iload_n 1, 1), (271, .bipush 97, 2), (273, .bipush 106, 2), (275, .invokestatic 41, 3), (278, .bipush 10, 2), (280, .bipush 10, 2), (282, .aload_n 0, 1), (283, .getfield 174, 3), (286, .imul, 1), (287, .iadd, 1)]
def cd_X11_takes_9 : List (Nat × Instr × Nat) := [(288, .iload_n 1, 1), (289, .iadd, 1), (290, .bipush 97, 2), (292, .isub, 1), (293, .invokevirtual 180, 3), (296, .ireturn, 1), (297, .aload_n 0, 1), (298, .iload_n 1, 1), (299, .bipush 59, 2), (301, .if_icmp .ne 7, 3), (304, .iconst 1, 1), (305, .goto 4, 3), (308, .iconst 0, 1), (309, .iconst 0, 1), (310, .invokevirtual 170, 3), (313, .ireturn, 1)]
def cd_X11_takes : Chunks := [cd_X11_takes_0, cd_X11_takes_1, cd_X11_takes_2, cd_X11_takes_3, cd_X11_takes_4, cd_X11_takes_5, cd_X11_takes_6, cd_X11_takes_7, cd_X11_takes_8, cd_X11_takes_9]
def mi_X11_takes : MI := (cd_X11_takes, pl_X11, 2, 2, [])
def cd_X11_read_0 : List (Nat × Instr × Nat) := [(0, .aload_n 0, 1), (1, .iconst 0, 1), (2, .putfield 164, 3), (5, .aload_n 0, 1), (6, .iconst 0, 1), (7, .putfield 167, 3), (10, .iconst 0, 1), (11, .istore_n 1, 1), (12, .iload_n 1, 1), (13, .aload_n 0, 1), (14, .getfield 161, 3), (17, .if_icmp .ge 22, 3), (20, .aload_n 0, 1), (21, .aload_n 0, 1), (22, .getfield 19, 3), (25, .iload_n 1, 1), (26, .iaload, 1), (27, .invokevirtual 183, 3), (30, .ifCond .eq 9, 3)]
def cd_X11_read_1 : List (Nat × Instr × Nat) := [(33, .iinc 1 1, 3), (36, .goto (-24), 3), (39, .iload_n 1, 1), (40, .ireturn, 1)]
def cd_X11_read : Chunks := [cd_X11_read_0, cd_X11_read_1]
def mi_X11_read : MI := (cd_X11_read, pl_X11, 1, 2, [])
def cd_X11_firstError_0 : List (Nat × Instr × Nat) := [(0, .aload_n 0, 1), (1, .iconst 0, 1), (2, .putfield 37, 3), (5, .aload_n 0, 1), (6, .invokevirtual 186, 3), (9, .ireturn, 1)]
def cd_X11_firstError : Chunks := [cd_X11_firstError_0]
def mi_X11_firstError : MI := (cd_X11_firstError, pl_X11, 1, 1, [])
def cd_X11_mayDo_0 : List (Nat × Instr × Nat) := [(0, .iload_n 1, 1), (1, .ifCond .ne 8, 3), (4, .aload_n 0, 1), (5, .invokevirtual 107, 3), (8, .ireturn, 1), (9, .iload_n 1, 1), (10, .iconst 3, 1), (11, .if_icmp .ge 16, 3), (14, .aload_n 0, 1), (15, .invokevirtual 92, 3), (18, .ifCond .ne 7, 3), (21, .iconst 1, 1), (22, .goto 4, 3), (25, .iconst 0, 1), (26, .ireturn, 1), (27, .iload_n 1, 1), (28, .bipush 10, 2), (30, .isub, 1), (31, .bipush 10, 2)]
def cd_X11_mayDo_1 : List (Nat × Instr × Nat) := [(33, .idiv, 1), (34, .istore_n 2, 1), (35, .iload_n 1, 1), (36, .iconst 3, 1), (37, .if_icmp .eq 26, 3), (40, .aload_n 0, 1), (41, .iload_n 2, 1), (42, .invokevirtual 62, 3), (45, .ifCond .eq 22, 3), (48, .aload_n 0, 1), (49, .iload_n 2, 1), (50, .iload_n 1, 1), (51, .bipush 10, 2), (53, .isub, 1), (54, .bipush 10, 2), (56, .irem, 1), (57, .invokevirtual 139, 3), (60, .ifCond .ne 7, 3), (63, .iconst 1, 1)]
def cd_X11_mayDo_2 : List (Nat × Instr × Nat) := [(64, .goto 4, 3), (67, .iconst 0, 1), (68, .ireturn, 1)]
def cd_X11_mayDo : Chunks := [cd_X11_mayDo_0, cd_X11_mayDo_1, cd_X11_mayDo_2]
def mi_X11_mayDo : MI := (cd_X11_mayDo, pl_X11, 2, 3, [])
def cd_X11_does_0 : List (Nat × Instr × Nat) := [(0, .iload_n 1, 1), (1, .ifCond .ne 10, 3), (4, .aload_n 0, 1), (5, .invokevirtual 111, 3), (8, .goto 58, 3), (11, .iload_n 1, 1), (12, .iconst 3, 1), (13, .if_icmp .ge 22, 3), (16, .aload_n 0, 1), (17, .getfield 7, 3), (20, .iconst 5, 1), (21, .iload_n 1, 1), (22, .iconst 1, 1), (23, .if_icmp .ne 7, 3), (26, .iconst 1, 1), (27, .goto 4, 3), (30, .iconst 0, 1), (31, .iastore, 1)]
def cd_X11_does_1 : List (Nat × Instr × Nat) := [(32, .goto 34, 3), (35, .iload_n 1, 1), (36, .iconst 3, 1), (37, .if_icmp .ne 10, 3), (40, .aload_n 0, 1), (41, .invokevirtual 158, 3), (44, .goto 22, 3), (47, .aload_n 0, 1), (48, .iload_n 1, 1), (49, .bipush 10, 2), (51, .isub, 1), (52, .bipush 10, 2), (54, .idiv, 1), (55, .iload_n 1, 1), (56, .bipush 10, 2), (58, .isub, 1), (59, .bipush 10, 2), (61, .irem, 1), (62, .invokevirtual 142, 3)]
def cd_X11_does_2 : List (Nat × Instr × Nat) := [(65, .pop, 1), (66, .return_, 1)]
def cd_X11_does : Chunks := [cd_X11_does_0, cd_X11_does_1, cd_X11_does_2]
def mi_X11_does : MI := (cd_X11_does, pl_X11, 0, 2, [])
def cd_X11_run_0 : List (Nat × Instr × Nat) := [(0, .aload_n 0, 1), (1, .iconst 0, 1), (2, .putfield 37, 3), (5, .aload_n 0, 1), (6, .invokevirtual 186, 3), (9, .aload_n 0, 1), (10, .getfield 161, 3), (13, .if_icmp .lt 12, 3), (16, .aload_n 0, 1), (17, .getfield 164, 3), (20, .bipush 20, 2), (22, .if_icmp .eq 9, 3), (25, .aload_n 0, 1), (26, .iconst 1, 1), (27, .invokevirtual 52, 3), (30, .ireturn, 1), (31, .aload_n 0, 1)]
def cd_X11_run_1 : List (Nat × Instr × Nat) := [(32, .invokevirtual 59, 3), (35, .iconst 0, 1), (36, .istore_n 1, 1), (37, .iload_n 1, 1), (38, .aload_n 0, 1), (39, .getfield 167, 3), (42, .if_icmp .ge 32, 3), (45, .aload_n 0, 1), (46, .aload_n 0, 1), (47, .getfield 22, 3), (50, .iload_n 1, 1), (51, .iaload, 1), (52, .invokevirtual 189, 3), (55, .ifCond .eq 19, 3), (58, .aload_n 0, 1), (59, .aload_n 0, 1), (60, .getfield 22, 3), (63, .iload_n 1, 1)]
def cd_X11_run_2 : List (Nat × Instr × Nat) := [(64, .iaload, 1), (65, .invokevirtual 192, 3), (68, .iinc 1 1, 3), (71, .goto (-34), 3), (74, .aload_n 0, 1), (75, .iconst 0, 1), (76, .putfield 161, 3), (79, .iload_n 1, 1), (80, .ireturn, 1)]
def cd_X11_run : Chunks := [cd_X11_run_0, cd_X11_run_1, cd_X11_run_2]
def mi_X11_run : MI := (cd_X11_run, pl_X11, 1, 2, [])
def cd_X11_undo_0 : List (Nat × Instr × Nat) := [(0, .aload_n 0, 1), (1, .iconst 0, 1), (2, .putfield 37, 3), (5, .aload_n 0, 1), (6, .getfield 49, 3), (9, .ifCond .ne 9, 3), (12, .aload_n 0, 1), (13, .iconst 1, 1), (14, .invokevirtual 52, 3), (17, .ireturn, 1), (18, .aload_n 0, 1), (19, .dup, 1), (20, .getfield 49, 3), (23, .iconst 1, 1), (24, .isub, 1), (25, .putfield 49, 3), (28, .iconst 0, 1), (29, .istore_n 1, 1), (30, .iload_n 1, 1), (31, .sipush 213, 3)]
def cd_X11_undo_1 : List (Nat × Instr × Nat) := [(34, .if_icmp .ge 30, 3), (37, .aload_n 0, 1), (38, .getfield 7, 3), (41, .iload_n 1, 1), (42, .aload_n 0, 1), (43, .getfield 16, 3), (46, .sipush 213, 3), (49, .aload_n 0, 1), (50, .getfield 49, 3), (53, .imul, 1), (54, .iload_n 1, 1), (55, .iadd, 1), (56, .iaload, 1), (57, .iastore, 1), (58, .iinc 1 1, 3), (61, .goto (-31), 3)]
def cd_X11_undo_2 : List (Nat × Instr × Nat) := [(64, .aload_n 0, 1), (65, .getfield 49, 3), (68, .ireturn, 1)]
def cd_X11_undo : Chunks := [cd_X11_undo_0, cd_X11_undo_1, cd_X11_undo_2]
def mi_X11_undo : MI := (cd_X11_undo, pl_X11, 1, 2, [])
def cd_X11_playedAt_0 : List (Nat × Instr × Nat) := [(0, .iconst 0, 1), (1, .istore_n 2, 1), (2, .aload_n 0, 1), (3, .iload_n 1, 1), (4, .invokevirtual 89, 3), (7, .istore_n 3, 1), (8, .iconst 0, 1), (9, .istore 4, 2), (11, .iload 4, 2), (13, .bipush 10, 2), (15, .if_icmp .ge 41, 3), (18, .iload_n 3, 1), (19, .iconst (-1), 1), (20, .if_icmp .eq 36, 3), (23, .iload_n 2, 1), (24, .aload_n 0, 1), (25, .iload_n 3, 1), (26, .iload 4, 2), (28, .invokevirtual 121, 3), (31, .iconst (-1), 1)]
def cd_X11_playedAt_1 : List (Nat × Instr × Nat) := [(32, .if_icmp .ne 7, 3), (35, .iconst 0, 1), (36, .goto 12, 3), (39, .iconst 1, 1), (40, .aload_n 0, 1), (41, .iload_n 3, 1), (42, .iload 4, 2), (44, .invokevirtual 121, 3), (47, .ishl, 1), (48, .ior, 1), (49, .istore_n 2, 1), (50, .iinc 4 1, 3), (53, .goto (-42), 3), (56, .iload_n 2, 1), (57, .ireturn, 1)]
def cd_X11_playedAt : Chunks := [cd_X11_playedAt_0, cd_X11_playedAt_1]
def mi_X11_playedAt : MI := (cd_X11_playedAt, pl_X11, 1, 5, [])
def cd_X11_cornerNow_0 : List (Nat × Instr × Nat) := [(0, .iload_n 2, 1), (1, .tableswitch 68 0 4 #[35, 35, 42, 56, 62], 35)]
def cd_X11_cornerNow_1 : List (Nat × Instr × Nat) := [(36, .aload_n 0, 1), (37, .iload_n 1, 1), (38, .iload_n 2, 1), (39, .invokevirtual 56, 3), (42, .ireturn, 1), (43, .aload_n 0, 1), (44, .iload_n 1, 1), (45, .invokevirtual 127, 3), (48, .ifCond .eq 7, 3), (51, .iconst 1, 1), (52, .goto 4, 3), (55, .iconst 0, 1), (56, .ireturn, 1), (57, .aload_n 0, 1), (58, .iload_n 1, 1), (59, .invokevirtual 89, 3), (62, .ireturn, 1), (63, .aload_n 0, 1)]
def cd_X11_cornerNow_2 : List (Nat × Instr × Nat) := [(64, .iload_n 1, 1), (65, .invokevirtual 195, 3), (68, .ireturn, 1), (69, .aload_n 0, 1), (70, .iload_n 1, 1), (71, .invokevirtual 130, 3), (74, .ireturn, 1)]
def cd_X11_cornerNow : Chunks := [cd_X11_cornerNow_0, cd_X11_cornerNow_1, cd_X11_cornerNow_2]
def mi_X11_cornerNow : MI := (cd_X11_cornerNow, pl_X11, 1, 3, [])
def cd_X11_corner_0 : List (Nat × Instr × Nat) := [(0, .aload_n 0, 1), (1, .iconst 0, 1), (2, .putfield 37, 3), (5, .aload_n 0, 1), (6, .iload_n 1, 1), (7, .invokevirtual 198, 3), (10, .ifCond .ne 9, 3), (13, .aload_n 0, 1), (14, .iconst 1, 1), (15, .invokevirtual 52, 3), (18, .ireturn, 1), (19, .iload_n 2, 1), (20, .iconst 0, 1), (21, .iconst 5, 1), (22, .invokestatic 41, 3), (25, .ifCond .eq 12, 3), (28, .aload_n 0, 1), (29, .iload_n 1, 1), (30, .iload_n 2, 1), (31, .invokevirtual 201, 3)]
def cd_X11_corner_1 : List (Nat × Instr × Nat) := [(34, .goto 8, 3), (37, .aload_n 0, 1), (38, .iconst 2, 1), (39, .invokevirtual 52, 3), (42, .ireturn, 1)]
def cd_X11_corner : Chunks := [cd_X11_corner_0, cd_X11_corner_1]
def mi_X11_corner : MI := (cd_X11_corner, pl_X11, 1, 3, [])
def cd_X11_organNow_0 : List (Nat × Instr × Nat) := [(0, .iload_n 2, 1), (1, .tableswitch 75 0 7 #[47, 47, 47, 54, 60, 66, 66, 66], 47)]
def cd_X11_organNow_1 : List (Nat × Instr × Nat) := [(48, .aload_n 0, 1), (49, .iload_n 1, 1), (50, .iload_n 2, 1), (51, .invokevirtual 45, 3), (54, .ireturn, 1), (55, .aload_n 0, 1), (56, .iload_n 1, 1), (57, .invokevirtual 86, 3), (60, .ireturn, 1), (61, .aload_n 0, 1), (62, .iload_n 1, 1), (63, .invokevirtual 124, 3)]
def cd_X11_organNow_2 : List (Nat × Instr × Nat) := [(66, .ireturn, 1), (67, .aload_n 0, 1), (68, .iload_n 1, 1), (69, .iload_n 2, 1), (70, .iconst 1, 1), (71, .isub, 1), (72, .invokevirtual 45, 3), (75, .ireturn, 1), (76, .aload_n 0, 1), (77, .iload_n 1, 1), (78, .aload_n 0, 1), (79, .getfield 7, 3), (82, .iconst 4, 1), (83, .iaload, 1), (84, .invokevirtual 121, 3), (87, .ireturn, 1)]
def cd_X11_organNow : Chunks := [cd_X11_organNow_0, cd_X11_organNow_1, cd_X11_organNow_2]
def mi_X11_organNow : MI := (cd_X11_organNow, pl_X11, 1, 3, [])
def cd_X11_organ_0 : List (Nat × Instr × Nat) := [(0, .aload_n 0, 1), (1, .iconst 0, 1), (2, .putfield 37, 3), (5, .aload_n 0, 1), (6, .iload_n 1, 1), (7, .invokevirtual 62, 3), (10, .ifCond .ne 9, 3), (13, .aload_n 0, 1), (14, .iconst 1, 1), (15, .invokevirtual 52, 3), (18, .ireturn, 1), (19, .iload_n 2, 1), (20, .iconst 0, 1), (21, .bipush 8, 2), (23, .invokestatic 41, 3), (26, .ifCond .eq 12, 3), (29, .aload_n 0, 1), (30, .iload_n 1, 1), (31, .iload_n 2, 1)]
def cd_X11_organ_1 : List (Nat × Instr × Nat) := [(32, .invokevirtual 204, 3), (35, .goto 8, 3), (38, .aload_n 0, 1), (39, .iconst 2, 1), (40, .invokevirtual 52, 3), (43, .ireturn, 1)]
def cd_X11_organ : Chunks := [cd_X11_organ_0, cd_X11_organ_1]
def mi_X11_organ : MI := (cd_X11_organ, pl_X11, 1, 3, [])
def cd_X11_playerNow_0 : List (Nat × Instr × Nat) := [(0, .iload_n 2, 1), (1, .lookupswitch 42 #[(0, 27), (1, 36)], 27), (28, .aload_n 0, 1), (29, .iload_n 1, 1), (30, .iconst 0, 1), (31, .invokevirtual 73, 3)]
def cd_X11_playerNow_1 : List (Nat × Instr × Nat) := [(34, .iconst 1, 1), (35, .isub, 1), (36, .ireturn, 1), (37, .aload_n 0, 1), (38, .iload_n 1, 1), (39, .invokevirtual 152, 3), (42, .ireturn, 1), (43, .aload_n 0, 1), (44, .iload_n 1, 1), (45, .iload_n 2, 1), (46, .iconst 1, 1), (47, .isub, 1), (48, .invokevirtual 73, 3), (51, .ireturn, 1)]
def cd_X11_playerNow : Chunks := [cd_X11_playerNow_0, cd_X11_playerNow_1]
def mi_X11_playerNow : MI := (cd_X11_playerNow, pl_X11, 1, 3, [])
def cd_X11_player_0 : List (Nat × Instr × Nat) := [(0, .aload_n 0, 1), (1, .iconst 0, 1), (2, .putfield 37, 3), (5, .aload_n 0, 1), (6, .iload_n 1, 1), (7, .invokevirtual 70, 3), (10, .ifCond .ne 9, 3), (13, .aload_n 0, 1), (14, .iconst 1, 1), (15, .invokevirtual 52, 3), (18, .ireturn, 1), (19, .iload_n 2, 1), (20, .iconst 0, 1), (21, .iconst 4, 1), (22, .invokestatic 41, 3), (25, .ifCond .eq 12, 3), (28, .aload_n 0, 1), (29, .iload_n 1, 1), (30, .iload_n 2, 1), (31, .invokevirtual 207, 3)]
def cd_X11_player_1 : List (Nat × Instr × Nat) := [(34, .goto 8, 3), (37, .aload_n 0, 1), (38, .iconst 2, 1), (39, .invokevirtual 52, 3), (42, .ireturn, 1)]
def cd_X11_player : Chunks := [cd_X11_player_0, cd_X11_player_1]
def mi_X11_player : MI := (cd_X11_player, pl_X11, 1, 3, [])
def cd_X11_hours_0 : List (Nat × Instr × Nat) := [(0, .aload_n 0, 1), (1, .iconst 0, 1), (2, .putfield 37, 3), (5, .aload_n 0, 1), (6, .iload_n 1, 1), (7, .invokevirtual 70, 3), (10, .ifCond .eq 20, 3), (13, .aload_n 0, 1), (14, .iload_n 2, 1), (15, .invokevirtual 62, 3), (18, .ifCond .eq 12, 3), (21, .aload_n 0, 1), (22, .iload_n 1, 1), (23, .iload_n 2, 1), (24, .invokevirtual 145, 3), (27, .goto 8, 3), (30, .aload_n 0, 1), (31, .iconst 1, 1)]
def cd_X11_hours_1 : List (Nat × Instr × Nat) := [(32, .invokevirtual 52, 3), (35, .ireturn, 1)]
def cd_X11_hours : Chunks := [cd_X11_hours_0, cd_X11_hours_1]
def mi_X11_hours : MI := (cd_X11_hours, pl_X11, 1, 3, [])
def cd_X11_ofOrgans_0 : List (Nat × Instr × Nat) := [(0, .iconst 0, 1), (1, .istore_n 2, 1), (2, .iconst 0, 1), (3, .istore_n 3, 1), (4, .iload_n 3, 1), (5, .aload_n 0, 1), (6, .getfield 7, 3), (9, .iconst 1, 1), (10, .iaload, 1), (11, .if_icmp .ge 18, 3), (14, .iload_n 2, 1), (15, .aload_n 0, 1), (16, .iload_n 3, 1), (17, .iload_n 1, 1), (18, .invokevirtual 45, 3), (21, .iadd, 1), (22, .istore_n 2, 1), (23, .iinc 3 1, 3), (26, .goto (-22), 3), (29, .iload_n 2, 1), (30, .ireturn, 1)]
def cd_X11_ofOrgans : Chunks := [cd_X11_ofOrgans_0]
def mi_X11_ofOrgans : MI := (cd_X11_ofOrgans, pl_X11, 1, 4, [])
def cd_X11_playersGot_0 : List (Nat × Instr × Nat) := [(0, .iconst 0, 1), (1, .istore_n 1, 1), (2, .iconst 0, 1), (3, .istore_n 2, 1), (4, .iload_n 2, 1), (5, .aload_n 0, 1), (6, .getfield 7, 3), (9, .iconst 2, 1), (10, .iaload, 1), (11, .if_icmp .ge 18, 3), (14, .iload_n 1, 1), (15, .aload_n 0, 1), (16, .iload_n 2, 1), (17, .iconst 1, 1), (18, .invokevirtual 73, 3), (21, .iadd, 1), (22, .istore_n 1, 1), (23, .iinc 2 1, 3), (26, .goto (-22), 3), (29, .iload_n 1, 1), (30, .ireturn, 1)]
def cd_X11_playersGot : Chunks := [cd_X11_playersGot_0]
def mi_X11_playersGot : MI := (cd_X11_playersGot, pl_X11, 1, 3, [])
def cd_X11_counted_0 : List (Nat × Instr × Nat) := [(0, .iload_n 1, 1), (1, .tableswitch 110 7 15 #[51, 56, 64, 72, 80, 88, 94, 100, 105], 51)]
def cd_X11_counted_1 : List (Nat × Instr × Nat) := [(52, .aload_n 0, 1), (53, .invokevirtual 92, 3), (56, .ireturn, 1), (57, .aload_n 0, 1), (58, .getfield 7, 3), (61, .bipush 7, 2), (63, .iaload, 1)]
def cd_X11_counted_2 : List (Nat × Instr × Nat) := [(64, .ireturn, 1), (65, .aload_n 0, 1), (66, .getfield 7, 3), (69, .bipush 8, 2), (71, .iaload, 1), (72, .ireturn, 1), (73, .aload_n 0, 1), (74, .getfield 7, 3), (77, .bipush 9, 2), (79, .iaload, 1), (80, .ireturn, 1), (81, .aload_n 0, 1), (82, .getfield 7, 3), (85, .bipush 10, 2), (87, .iaload, 1), (88, .ireturn, 1), (89, .aload_n 0, 1), (90, .iconst 5, 1), (91, .invokevirtual 210, 3), (94, .ireturn, 1), (95, .aload_n 0, 1)]
def cd_X11_counted_3 : List (Nat × Instr × Nat) := [(96, .iconst 4, 1), (97, .invokevirtual 210, 3), (100, .ireturn, 1), (101, .aload_n 0, 1), (102, .invokevirtual 213, 3), (105, .ireturn, 1), (106, .aload_n 0, 1), (107, .getfield 49, 3), (110, .ireturn, 1), (111, .aload_n 0, 1), (112, .getfield 7, 3), (115, .iload_n 1, 1), (116, .iaload, 1), (117, .ireturn, 1)]
def cd_X11_counted : Chunks := [cd_X11_counted_0, cd_X11_counted_1, cd_X11_counted_2, cd_X11_counted_3]
def mi_X11_counted : MI := (cd_X11_counted, pl_X11, 1, 2, [])
def cd_X11_count_0 : List (Nat × Instr × Nat) := [(0, .aload_n 0, 1), (1, .iconst 0, 1), (2, .putfield 37, 3), (5, .iload_n 1, 1), (6, .iconst 0, 1), (7, .bipush 15, 2), (9, .invokestatic 41, 3), (12, .ifCond .eq 11, 3), (15, .aload_n 0, 1), (16, .iload_n 1, 1), (17, .invokevirtual 216, 3), (20, .goto 8, 3), (23, .aload_n 0, 1), (24, .iconst 1, 1), (25, .invokevirtual 52, 3), (28, .ireturn, 1)]
def cd_X11_count : Chunks := [cd_X11_count_0]
def mi_X11_count : MI := (cd_X11_count, pl_X11, 1, 2, [])
def cd_X11_setting_0 : List (Nat × Instr × Nat) := [(0, .aload_n 0, 1), (1, .iconst 0, 1), (2, .putfield 37, 3), (5, .iload_n 1, 1), (6, .iconst 0, 1), (7, .iconst 4, 1), (8, .invokestatic 41, 3), (11, .ifCond .eq 15, 3), (14, .aload_n 0, 1), (15, .getfield 7, 3), (18, .bipush 11, 2), (20, .iload_n 1, 1), (21, .iadd, 1), (22, .iaload, 1), (23, .goto 8, 3), (26, .aload_n 0, 1), (27, .iconst 1, 1), (28, .invokevirtual 52, 3), (31, .ireturn, 1)]
def cd_X11_setting : Chunks := [cd_X11_setting_0]
def mi_X11_setting : MI := (cd_X11_setting, pl_X11, 1, 2, [])
def cd_X11_whyNot_0 : List (Nat × Instr × Nat) := [(0, .aload_n 0, 1), (1, .iconst 0, 1), (2, .putfield 37, 3), (5, .aload_n 0, 1), (6, .iload_n 1, 1), (7, .invokevirtual 62, 3), (10, .ifCond .ne 9, 3), (13, .aload_n 0, 1), (14, .iconst 1, 1), (15, .invokevirtual 52, 3), (18, .ireturn, 1), (19, .iload_n 2, 1), (20, .iconst 0, 1), (21, .bipush 9, 2), (23, .invokestatic 41, 3), (26, .ifCond .eq 12, 3), (29, .aload_n 0, 1), (30, .iload_n 1, 1), (31, .iload_n 2, 1)]
def cd_X11_whyNot_1 : List (Nat × Instr × Nat) := [(32, .invokevirtual 139, 3), (35, .goto 8, 3), (38, .aload_n 0, 1), (39, .iconst 2, 1), (40, .invokevirtual 52, 3), (43, .ireturn, 1)]
def cd_X11_whyNot : Chunks := [cd_X11_whyNot_0, cd_X11_whyNot_1]
def mi_X11_whyNot : MI := (cd_X11_whyNot, pl_X11, 1, 3, [])
def cd_X11_tunesOf_0 : List (Nat × Instr × Nat) := [(0, .iconst 0, 1), (1, .istore_n 2, 1), (2, .iconst 0, 1), (3, .istore_n 3, 1), (4, .iload_n 3, 1), (5, .bipush 10, 2), (7, .if_icmp .ge 28, 3), (10, .iload_n 2, 1), (11, .aload_n 0, 1), (12, .iload_n 1, 1), (13, .iload_n 3, 1), (14, .invokevirtual 139, 3), (17, .ifCond .ne 9, 3), (20, .iconst 1, 1), (21, .iload_n 3, 1), (22, .ishl, 1), (23, .goto 4, 3), (26, .iconst 0, 1), (27, .ior, 1), (28, .istore_n 2, 1), (29, .iinc 3 1, 3)]
def cd_X11_tunesOf_1 : List (Nat × Instr × Nat) := [(32, .goto (-28), 3), (35, .iload_n 2, 1), (36, .ireturn, 1)]
def cd_X11_tunesOf : Chunks := [cd_X11_tunesOf_0, cd_X11_tunesOf_1]
def mi_X11_tunesOf : MI := (cd_X11_tunesOf, pl_X11, 1, 4, [])
def cd_X11_playedNow_0 : List (Nat × Instr × Nat) := [(0, .aload_n 0, 1), (1, .iload_n 1, 1), (2, .invokevirtual 219, 3), (5, .ifCond .ne 7, 3), (8, .iconst (-1), 1), (9, .goto 13, 3), (12, .aload_n 0, 1), (13, .iload_n 1, 1), (14, .aload_n 0, 1), (15, .iload_n 1, 1), (16, .invokevirtual 133, 3), (19, .invokevirtual 136, 3), (22, .ireturn, 1)]
def cd_X11_playedNow : Chunks := [cd_X11_playedNow_0]
def mi_X11_playedNow : MI := (cd_X11_playedNow, pl_X11, 1, 2, [])
def cd_X11_ifPlayed_0 : List (Nat × Instr × Nat) := [(0, .aload_n 0, 1), (1, .iconst 0, 1), (2, .putfield 37, 3), (5, .aload_n 0, 1), (6, .iload_n 1, 1), (7, .invokevirtual 62, 3), (10, .ifCond .eq 11, 3), (13, .aload_n 0, 1), (14, .iload_n 1, 1), (15, .invokevirtual 222, 3), (18, .goto 8, 3), (21, .aload_n 0, 1), (22, .iconst 1, 1), (23, .invokevirtual 52, 3), (26, .ireturn, 1)]
def cd_X11_ifPlayed : Chunks := [cd_X11_ifPlayed_0]
def mi_X11_ifPlayed : MI := (cd_X11_ifPlayed, pl_X11, 1, 2, [])
def cd_X11_size_0 : List (Nat × Instr × Nat) := [(0, .iconst 0, 1), (1, .istore_n 1, 1), (2, .iconst 0, 1), (3, .istore_n 2, 1), (4, .iload_n 2, 1), (5, .bipush 10, 2), (7, .if_icmp .ge 17, 3), (10, .iload_n 1, 1), (11, .iload_n 0, 1), (12, .iload_n 2, 1), (13, .ishr, 1), (14, .iconst 1, 1), (15, .iand, 1), (16, .iadd, 1), (17, .istore_n 1, 1), (18, .iinc 2 1, 3), (21, .goto (-17), 3), (24, .iload_n 1, 1), (25, .ireturn, 1)]
def cd_X11_size : Chunks := [cd_X11_size_0]
def mi_X11_size : MI := (cd_X11_size, pl_X11, 1, 3, [])
def cd_X11_pairsBehind_0 : List (Nat × Instr × Nat) := [(0, .sipush 163, 3), (3, .bipush 10, 2), (5, .iload_n 1, 1), (6, .imul, 1), (7, .iadd, 1), (8, .aload_n 0, 1), (9, .getfield 7, 3), (12, .iconst 4, 1), (13, .iaload, 1), (14, .iadd, 1), (15, .istore_n 3, 1), (16, .aload_n 0, 1), (17, .getfield 7, 3), (20, .iload_n 3, 1), (21, .iload_n 2, 1), (22, .iconst 1, 1), (23, .iadd, 1), (24, .iastore, 1), (25, .iconst 0, 1), (26, .istore 4, 2), (28, .iconst 0, 1), (29, .istore 5, 2), (31, .iload 5, 2)]
def cd_X11_pairsBehind_1 : List (Nat × Instr × Nat) := [(33, .aload_n 0, 1), (34, .getfield 7, 3), (37, .iconst 1, 1), (38, .iaload, 1), (39, .if_icmp .ge 33, 3), (42, .iload 4, 2), (44, .iload 5, 2), (46, .iload_n 1, 1), (47, .if_icmp .ne 7, 3), (50, .iconst 0, 1), (51, .goto 12, 3), (54, .aload_n 0, 1), (55, .iload 5, 2), (57, .invokevirtual 219, 3), (60, .invokestatic 225, 3), (63, .iadd, 1)]
def cd_X11_pairsBehind_2 : List (Nat × Instr × Nat) := [(64, .istore 4, 2), (66, .iinc 5 1, 3), (69, .goto (-38), 3), (72, .aload_n 0, 1), (73, .getfield 7, 3), (76, .iload_n 3, 1), (77, .iconst 0, 1), (78, .iastore, 1), (79, .iload 4, 2), (81, .ireturn, 1)]
def cd_X11_pairsBehind : Chunks := [cd_X11_pairsBehind_0, cd_X11_pairsBehind_1, cd_X11_pairsBehind_2]
def mi_X11_pairsBehind : MI := (cd_X11_pairsBehind, pl_X11, 1, 6, [])
def cd_X11_kindestNow_0 : List (Nat × Instr × Nat) := [(0, .aload_n 0, 1), (1, .iload_n 1, 1), (2, .invokevirtual 219, 3), (5, .istore_n 2, 1), (6, .iconst (-1), 1), (7, .istore_n 3, 1), (8, .iconst (-1), 1), (9, .istore 4, 2), (11, .iconst 0, 1), (12, .istore 5, 2), (14, .iload 5, 2), (16, .bipush 10, 2), (18, .if_icmp .ge 62, 3), (21, .iload_n 2, 1), (22, .iload 5, 2), (24, .ishr, 1), (25, .iconst 1, 1), (26, .iand, 1), (27, .iconst 1, 1), (28, .if_icmp .ne 13, 3), (31, .aload_n 0, 1)]
def cd_X11_kindestNow_1 : List (Nat × Instr × Nat) := [(32, .iload_n 1, 1), (33, .iload 5, 2), (35, .invokevirtual 228, 3), (38, .goto 4, 3), (41, .iconst (-1), 1), (42, .istore 6, 2), (44, .iload 6, 2), (46, .iload 4, 2), (48, .if_icmp .le 8, 3), (51, .iload 5, 2), (53, .goto 4, 3), (56, .iload_n 3, 1), (57, .istore_n 3, 1), (58, .iload 6, 2), (60, .iload 4, 2), (62, .if_icmp .le 8, 3)]
def cd_X11_kindestNow_2 : List (Nat × Instr × Nat) := [(65, .iload 6, 2), (67, .goto 5, 3), (70, .iload 4, 2), (72, .istore 4, 2), (74, .iinc 5 1, 3), (77, .goto (-63), 3), (80, .iload_n 3, 1), (81, .ireturn, 1)]
def cd_X11_kindestNow : Chunks := [cd_X11_kindestNow_0, cd_X11_kindestNow_1, cd_X11_kindestNow_2]
def mi_X11_kindestNow : MI := (cd_X11_kindestNow, pl_X11, 1, 7, [])
def cd_X11_kindestTune_0 : List (Nat × Instr × Nat) := [(0, .aload_n 0, 1), (1, .iconst 0, 1), (2, .putfield 37, 3), (5, .aload_n 0, 1), (6, .iload_n 1, 1), (7, .invokevirtual 62, 3), (10, .ifCond .eq 11, 3), (13, .aload_n 0, 1), (14, .iload_n 1, 1), (15, .invokevirtual 231, 3), (18, .goto 8, 3), (21, .aload_n 0, 1), (22, .iconst 1, 1), (23, .invokevirtual 52, 3), (26, .ireturn, 1)]
def cd_X11_kindestTune : Chunks := [cd_X11_kindestTune_0]
def mi_X11_kindestTune : MI := (cd_X11_kindestTune, pl_X11, 1, 2, [])
def cd_X11_canPick_0 : List (Nat × Instr × Nat) := [(0, .aload_n 0, 1), (1, .getfield 28, 3), (4, .iload_n 1, 1), (5, .iaload, 1), (6, .aload_n 0, 1), (7, .getfield 31, 3), (10, .iload_n 1, 1), (11, .iaload, 1), (12, .ishr, 1), (13, .iconst 1, 1), (14, .iand, 1), (15, .iconst 1, 1), (16, .if_icmp .ne 7, 3), (19, .iconst 1, 1), (20, .goto 4, 3), (23, .iconst 0, 1), (24, .istore_n 2, 1), (25, .iconst 0, 1), (26, .istore_n 3, 1), (27, .iload_n 3, 1), (28, .iload_n 1, 1), (29, .if_icmp .ge 51, 3)]
def cd_X11_canPick_1 : List (Nat × Instr × Nat) := [(32, .iload_n 2, 1), (33, .ifCond .eq 47, 3), (36, .aload_n 0, 1), (37, .getfield 31, 3), (40, .iload_n 3, 1), (41, .iaload, 1), (42, .aload_n 0, 1), (43, .getfield 31, 3), (46, .iload_n 1, 1), (47, .iaload, 1), (48, .if_icmp .ne 20, 3), (51, .aload_n 0, 1), (52, .aload_n 0, 1), (53, .iload_n 1, 1), (54, .invokevirtual 86, 3), (57, .aload_n 0, 1), (58, .iload_n 3, 1), (59, .invokevirtual 86, 3), (62, .invokevirtual 117, 3)]
def cd_X11_canPick_2 : List (Nat × Instr × Nat) := [(65, .ifCond .ne 7, 3), (68, .iconst 1, 1), (69, .goto 4, 3), (72, .iconst 0, 1), (73, .istore_n 2, 1), (74, .iinc 3 1, 3), (77, .goto (-50), 3), (80, .iload_n 2, 1), (81, .ireturn, 1)]
def cd_X11_canPick : Chunks := [cd_X11_canPick_0, cd_X11_canPick_1, cd_X11_canPick_2]
def mi_X11_canPick : MI := (cd_X11_canPick, pl_X11, 2, 4, [])
def cd_X11_pickTakings_0 : List (Nat × Instr × Nat) := [(0, .aload_n 0, 1), (1, .iload_n 1, 1), (2, .invokevirtual 133, 3), (5, .istore_n 2, 1), (6, .iconst 0, 1), (7, .istore_n 3, 1), (8, .iload_n 3, 1), (9, .iload_n 1, 1), (10, .if_icmp .ge 44, 3), (13, .iload_n 2, 1), (14, .aload_n 0, 1), (15, .getfield 31, 3), (18, .iload_n 3, 1), (19, .iaload, 1), (20, .iconst (-1), 1), (21, .if_icmp .eq 24, 3), (24, .aload_n 0, 1), (25, .aload_n 0, 1), (26, .iload_n 1, 1), (27, .invokevirtual 86, 3), (30, .aload_n 0, 1), (31, .iload_n 3, 1)]
def cd_X11_pickTakings_1 : List (Nat × Instr × Nat) := [(32, .invokevirtual 86, 3), (35, .invokevirtual 117, 3), (38, .ifCond .eq 7, 3), (41, .iconst 1, 1), (42, .goto 4, 3), (45, .iconst 0, 1), (46, .iadd, 1), (47, .istore_n 2, 1), (48, .iinc 3 1, 3), (51, .goto (-43), 3), (54, .aload_n 0, 1), (55, .iload_n 1, 1), (56, .iload_n 2, 1), (57, .invokevirtual 136, 3), (60, .ireturn, 1)]
def cd_X11_pickTakings : Chunks := [cd_X11_pickTakings_0, cd_X11_pickTakings_1]
def mi_X11_pickTakings : MI := (cd_X11_pickTakings, pl_X11, 1, 4, [])
def cd_X11_keepPicks_0 : List (Nat × Instr × Nat) := [(0, .iconst 0, 1), (1, .istore_n 1, 1), (2, .iconst 0, 1), (3, .istore_n 2, 1), (4, .iload_n 2, 1), (5, .aload_n 0, 1), (6, .getfield 7, 3), (9, .iconst 1, 1), (10, .iaload, 1), (11, .if_icmp .ge 29, 3), (14, .iload_n 1, 1), (15, .aload_n 0, 1), (16, .getfield 31, 3), (19, .iload_n 2, 1), (20, .iaload, 1), (21, .iconst (-1), 1), (22, .if_icmp .ne 7, 3), (25, .iconst 0, 1), (26, .goto 6, 3), (29, .iconst 1, 1), (30, .iload_n 2, 1), (31, .ishl, 1)]
def cd_X11_keepPicks_1 : List (Nat × Instr × Nat) := [(32, .ior, 1), (33, .istore_n 1, 1), (34, .iinc 2 1, 3), (37, .goto (-33), 3), (40, .aload_n 0, 1), (41, .getfield 34, 3), (44, .aload_n 0, 1), (45, .getfield 7, 3), (48, .iconst 1, 1), (49, .iaload, 1), (50, .iaload, 1), (51, .istore_n 2, 1), (52, .iload_n 2, 1), (53, .aload_n 0, 1), (54, .getfield 234, 3), (57, .if_icmp .gt 19, 3), (60, .iload_n 2, 1), (61, .aload_n 0, 1), (62, .getfield 234, 3)]
def cd_X11_keepPicks_2 : List (Nat × Instr × Nat) := [(65, .if_icmp .ne 21, 3), (68, .iload_n 1, 1), (69, .aload_n 0, 1), (70, .getfield 237, 3), (73, .if_icmp .ge 13, 3), (76, .aload_n 0, 1), (77, .iload_n 2, 1), (78, .putfield 234, 3), (81, .aload_n 0, 1), (82, .iload_n 1, 1), (83, .putfield 237, 3), (86, .return_, 1)]
def cd_X11_keepPicks : Chunks := [cd_X11_keepPicks_0, cd_X11_keepPicks_1, cd_X11_keepPicks_2]
def mi_X11_keepPicks : MI := (cd_X11_keepPicks, pl_X11, 0, 3, [])
def cd_X11_layMost_0 : List (Nat × Instr × Nat) := [(0, .iconst 0, 1), (1, .istore_n 1, 1), (2, .iload_n 1, 1), (3, .aload_n 0, 1), (4, .getfield 7, 3), (7, .iconst 1, 1), (8, .iaload, 1), (9, .if_icmp .ge 20, 3), (12, .aload_n 0, 1), (13, .getfield 28, 3), (16, .iload_n 1, 1), (17, .aload_n 0, 1), (18, .iload_n 1, 1), (19, .invokevirtual 219, 3), (22, .iastore, 1), (23, .iinc 1 1, 3), (26, .goto (-24), 3), (29, .aload_n 0, 1), (30, .iconst 0, 1), (31, .putfield 234, 3)]
def cd_X11_layMost_1 : List (Nat × Instr × Nat) := [(34, .aload_n 0, 1), (35, .iconst 0, 1), (36, .putfield 237, 3), (39, .iconst 0, 1), (40, .istore_n 1, 1), (41, .aload_n 0, 1), (42, .getfield 31, 3), (45, .iconst 0, 1), (46, .bipush (-2), 2), (48, .iastore, 1), (49, .iload_n 1, 1), (50, .ifCond .lt 116, 3), (53, .iload_n 1, 1), (54, .aload_n 0, 1), (55, .getfield 7, 3), (58, .iconst 1, 1), (59, .iaload, 1), (60, .if_icmp .ne 13, 3), (63, .aload_n 0, 1)]
def cd_X11_layMost_2 : List (Nat × Instr × Nat) := [(64, .invokevirtual 240, 3), (67, .iinc 1 (-1), 3), (70, .goto (-21), 3), (73, .aload_n 0, 1), (74, .getfield 31, 3), (77, .iload_n 1, 1), (78, .iaload, 1), (79, .bipush 9, 2), (81, .if_icmp .ne 9, 3), (84, .iinc 1 (-1), 3), (87, .goto (-38), 3), (90, .aload_n 0, 1), (91, .getfield 31, 3), (94, .iload_n 1, 1), (95, .dup2, 1)]
def cd_X11_layMost_3 : List (Nat × Instr × Nat) := [(96, .iaload, 1), (97, .iconst 1, 1), (98, .iadd, 1), (99, .iastore, 1), (100, .aload_n 0, 1), (101, .getfield 31, 3), (104, .iload_n 1, 1), (105, .iaload, 1), (106, .iconst (-1), 1), (107, .if_icmp .eq 11, 3), (110, .aload_n 0, 1), (111, .iload_n 1, 1), (112, .invokevirtual 243, 3), (115, .ifCond .eq (-66), 3), (118, .aload_n 0, 1), (119, .getfield 34, 3), (122, .iload_n 1, 1), (123, .iconst 1, 1), (124, .iadd, 1), (125, .aload_n 0, 1), (126, .getfield 34, 3)]
def cd_X11_layMost_4 : List (Nat × Instr × Nat) := [(129, .iload_n 1, 1), (130, .iaload, 1), (131, .aload_n 0, 1), (132, .getfield 31, 3), (135, .iload_n 1, 1), (136, .iaload, 1), (137, .iconst (-1), 1), (138, .if_icmp .ne 7, 3), (141, .iconst 0, 1), (142, .goto 8, 3), (145, .aload_n 0, 1), (146, .iload_n 1, 1), (147, .invokevirtual 246, 3), (150, .iadd, 1), (151, .iastore, 1), (152, .iinc 1 1, 3), (155, .aload_n 0, 1), (156, .getfield 31, 3), (159, .iload_n 1, 1)]
def cd_X11_layMost_5 : List (Nat × Instr × Nat) := [(160, .bipush (-2), 2), (162, .iastore, 1), (163, .goto (-114), 3), (166, .return_, 1)]
def cd_X11_layMost : Chunks := [cd_X11_layMost_0, cd_X11_layMost_1, cd_X11_layMost_2, cd_X11_layMost_3, cd_X11_layMost_4, cd_X11_layMost_5]
def mi_X11_layMost : MI := (cd_X11_layMost, pl_X11, 0, 2, [])
def cd_X11_most_0 : List (Nat × Instr × Nat) := [(0, .aload_n 0, 1), (1, .iconst 0, 1), (2, .putfield 37, 3), (5, .iload_n 1, 1), (6, .iconst 0, 1), (7, .iconst 1, 1), (8, .invokestatic 41, 3), (11, .ifCond .ne 9, 3), (14, .aload_n 0, 1), (15, .iconst 1, 1), (16, .invokevirtual 52, 3), (19, .ireturn, 1), (20, .aload_n 0, 1), (21, .invokevirtual 249, 3), (24, .iload_n 1, 1), (25, .ifCond .ne 10, 3), (28, .aload_n 0, 1), (29, .getfield 234, 3)]
def cd_X11_most_1 : List (Nat × Instr × Nat) := [(32, .goto 7, 3), (35, .aload_n 0, 1), (36, .getfield 237, 3), (39, .ireturn, 1)]
def cd_X11_most : Chunks := [cd_X11_most_0, cd_X11_most_1]
def mi_X11_most : MI := (cd_X11_most, pl_X11, 1, 2, [])
def cd_X11_endedNow_0 : List (Nat × Instr × Nat) := [(0, .aload_n 0, 1), (1, .iload_n 1, 1), (2, .iconst 1, 1), (3, .invokevirtual 73, 3), (6, .istore_n 2, 1), (7, .aload_n 0, 1), (8, .invokevirtual 252, 3), (11, .aload_n 0, 1), (12, .invokevirtual 155, 3), (15, .aload_n 0, 1), (16, .iload_n 1, 1), (17, .iconst 1, 1), (18, .invokevirtual 73, 3), (21, .istore_n 3, 1), (22, .aload_n 0, 1), (23, .invokevirtual 255, 3), (26, .iload_n 3, 1), (27, .iload_n 2, 1), (28, .isub, 1), (29, .ireturn, 1)]
def cd_X11_endedNow : Chunks := [cd_X11_endedNow_0]
def mi_X11_endedNow : MI := (cd_X11_endedNow, pl_X11, 1, 4, [])
def cd_X11_ifEnded_0 : List (Nat × Instr × Nat) := [(0, .aload_n 0, 1), (1, .iconst 0, 1), (2, .putfield 37, 3), (5, .aload_n 0, 1), (6, .iload_n 1, 1), (7, .invokevirtual 70, 3), (10, .ifCond .eq 11, 3), (13, .aload_n 0, 1), (14, .iload_n 1, 1), (15, .invokevirtual 258, 3), (18, .goto 8, 3), (21, .aload_n 0, 1), (22, .iconst 1, 1), (23, .invokevirtual 52, 3), (26, .ireturn, 1)]
def cd_X11_ifEnded : Chunks := [cd_X11_ifEnded_0]
def mi_X11_ifEnded : MI := (cd_X11_ifEnded, pl_X11, 1, 2, [])
def cd_X11_shareNow_0 : List (Nat × Instr × Nat) := [(0, .aload_n 0, 1), (1, .getfield 7, 3), (4, .bipush 8, 2), (6, .iaload, 1), (7, .ifCond .ne 7, 3), (10, .dconst 0, 1), (11, .goto 17, 3), (14, .aload_n 0, 1), (15, .invokevirtual 213, 3), (18, .i2d, 1), (19, .aload_n 0, 1), (20, .getfield 7, 3), (23, .bipush 8, 2), (25, .iaload, 1), (26, .i2d, 1), (27, .ddiv, 1), (28, .dreturn, 1)]
def cd_X11_shareNow : Chunks := [cd_X11_shareNow_0]
def mi_X11_shareNow : MI := (cd_X11_shareNow, pl_X11, 4, 1, [])
def cd_X11_playersShare_0 : List (Nat × Instr × Nat) := [(0, .aload_n 0, 1), (1, .iconst 0, 1), (2, .putfield 37, 3), (5, .aload_n 0, 1), (6, .invokevirtual 261, 3), (9, .dreturn, 1)]
def cd_X11_playersShare : Chunks := [cd_X11_playersShare_0]
def mi_X11_playersShare : MI := (cd_X11_playersShare, pl_X11, 4, 1, [])
def cd_X11_mix_0 : List (Nat × Instr × Nat) := [(0, .aload_n 0, 1), (1, .ldc2_w 265, 3), (4, .aload_n 0, 1), (5, .getfield 267, 3), (8, .lmul, 1), (9, .lload_n 1, 1), (10, .ladd, 1), (11, .putfield 267, 3), (14, .return_, 1)]
def cd_X11_mix : Chunks := [cd_X11_mix_0]
def mi_X11_mix : MI := (cd_X11_mix, pl_X11, 0, 3, [])
def cd_X11_mixOrgan_0 : List (Nat × Instr × Nat) := [(0, .iconst 0, 1), (1, .istore_n 2, 1), (2, .iload_n 2, 1), (3, .bipush 9, 2), (5, .if_icmp .ge 20, 3), (8, .aload_n 0, 1), (9, .aload_n 0, 1), (10, .iload_n 1, 1), (11, .iload_n 2, 1), (12, .invokevirtual 204, 3), (15, .i2l, 1), (16, .invokevirtual 271, 3), (19, .iinc 2 1, 3), (22, .goto (-20), 3), (25, .iconst 0, 1), (26, .istore_n 2, 1), (27, .iload_n 2, 1), (28, .bipush 10, 2), (30, .if_icmp .ge 20, 3)]
def cd_X11_mixOrgan_1 : List (Nat × Instr × Nat) := [(33, .aload_n 0, 1), (34, .aload_n 0, 1), (35, .iload_n 1, 1), (36, .iload_n 2, 1), (37, .invokevirtual 139, 3), (40, .i2l, 1), (41, .invokevirtual 271, 3), (44, .iinc 2 1, 3), (47, .goto (-20), 3), (50, .aload_n 0, 1), (51, .aload_n 0, 1), (52, .iload_n 1, 1), (53, .invokevirtual 222, 3), (56, .i2l, 1), (57, .invokevirtual 271, 3), (60, .aload_n 0, 1), (61, .aload_n 0, 1), (62, .iload_n 1, 1), (63, .invokevirtual 231, 3)]
def cd_X11_mixOrgan_2 : List (Nat × Instr × Nat) := [(66, .i2l, 1), (67, .invokevirtual 271, 3), (70, .return_, 1)]
def cd_X11_mixOrgan : Chunks := [cd_X11_mixOrgan_0, cd_X11_mixOrgan_1, cd_X11_mixOrgan_2]
def mi_X11_mixOrgan : MI := (cd_X11_mixOrgan, pl_X11, 0, 3, [])
def cd_X11_mixPlayer_0 : List (Nat × Instr × Nat) := [(0, .iconst 0, 1), (1, .istore_n 2, 1), (2, .iload_n 2, 1), (3, .iconst 5, 1), (4, .if_icmp .ge 20, 3), (7, .aload_n 0, 1), (8, .aload_n 0, 1), (9, .iload_n 1, 1), (10, .iload_n 2, 1), (11, .invokevirtual 207, 3), (14, .i2l, 1), (15, .invokevirtual 271, 3), (18, .iinc 2 1, 3), (21, .goto (-19), 3), (24, .iconst 0, 1), (25, .istore_n 2, 1), (26, .iload_n 2, 1), (27, .aload_n 0, 1), (28, .getfield 7, 3), (31, .iconst 1, 1)]
def cd_X11_mixPlayer_1 : List (Nat × Instr × Nat) := [(32, .iaload, 1), (33, .if_icmp .ge 20, 3), (36, .aload_n 0, 1), (37, .aload_n 0, 1), (38, .iload_n 1, 1), (39, .iload_n 2, 1), (40, .invokevirtual 145, 3), (43, .i2l, 1), (44, .invokevirtual 271, 3), (47, .iinc 2 1, 3), (50, .goto (-24), 3), (53, .aload_n 0, 1), (54, .aload_n 0, 1), (55, .iload_n 1, 1), (56, .invokevirtual 258, 3), (59, .i2l, 1), (60, .invokevirtual 271, 3), (63, .return_, 1)]
def cd_X11_mixPlayer : Chunks := [cd_X11_mixPlayer_0, cd_X11_mixPlayer_1]
def mi_X11_mixPlayer : MI := (cd_X11_mixPlayer, pl_X11, 0, 3, [])
def cd_X11_digest_0 : List (Nat × Instr × Nat) := [(0, .aload_n 0, 1), (1, .iconst 0, 1), (2, .putfield 37, 3), (5, .aload_n 0, 1), (6, .ldc2_w 275, 3), (9, .putfield 267, 3), (12, .iconst 0, 1), (13, .istore_n 1, 1), (14, .iload_n 1, 1), (15, .bipush 16, 2), (17, .if_icmp .ge 19, 3), (20, .aload_n 0, 1), (21, .aload_n 0, 1), (22, .iload_n 1, 1), (23, .invokevirtual 216, 3), (26, .i2l, 1), (27, .invokevirtual 271, 3), (30, .iinc 1 1, 3)]
def cd_X11_digest_1 : List (Nat × Instr × Nat) := [(33, .goto (-19), 3), (36, .iconst 0, 1), (37, .istore_n 1, 1), (38, .iload_n 1, 1), (39, .iconst 5, 1), (40, .if_icmp .ge 23, 3), (43, .aload_n 0, 1), (44, .aload_n 0, 1), (45, .getfield 7, 3), (48, .bipush 11, 2), (50, .iload_n 1, 1), (51, .iadd, 1), (52, .iaload, 1), (53, .i2l, 1), (54, .invokevirtual 271, 3), (57, .iinc 1 1, 3), (60, .goto (-22), 3), (63, .iconst 0, 1)]
def cd_X11_digest_2 : List (Nat × Instr × Nat) := [(64, .istore_n 1, 1), (65, .iload_n 1, 1), (66, .aload_n 0, 1), (67, .getfield 7, 3), (70, .iconst 0, 1), (71, .iaload, 1), (72, .if_icmp .ge 34, 3), (75, .iconst 0, 1), (76, .istore_n 2, 1), (77, .iload_n 2, 1), (78, .bipush 6, 2), (80, .if_icmp .ge 20, 3), (83, .aload_n 0, 1), (84, .aload_n 0, 1), (85, .iload_n 1, 1), (86, .iload_n 2, 1), (87, .invokevirtual 201, 3), (90, .i2l, 1), (91, .invokevirtual 271, 3), (94, .iinc 2 1, 3)]
def cd_X11_digest_3 : List (Nat × Instr × Nat) := [(97, .goto (-20), 3), (100, .iinc 1 1, 3), (103, .goto (-38), 3), (106, .iconst 0, 1), (107, .istore_n 1, 1), (108, .iload_n 1, 1), (109, .aload_n 0, 1), (110, .getfield 7, 3), (113, .iconst 1, 1), (114, .iaload, 1), (115, .if_icmp .ge 14, 3), (118, .aload_n 0, 1), (119, .iload_n 1, 1), (120, .invokevirtual 277, 3), (123, .iinc 1 1, 3), (126, .goto (-18), 3)]
def cd_X11_digest_4 : List (Nat × Instr × Nat) := [(129, .iconst 0, 1), (130, .istore_n 1, 1), (131, .iload_n 1, 1), (132, .aload_n 0, 1), (133, .getfield 7, 3), (136, .iconst 2, 1), (137, .iaload, 1), (138, .if_icmp .ge 14, 3), (141, .aload_n 0, 1), (142, .iload_n 1, 1), (143, .invokevirtual 280, 3), (146, .iinc 1 1, 3), (149, .goto (-18), 3), (152, .aload_n 0, 1), (153, .invokevirtual 249, 3), (156, .aload_n 0, 1), (157, .aload_n 0, 1), (158, .getfield 234, 3)]
def cd_X11_digest_5 : List (Nat × Instr × Nat) := [(161, .i2l, 1), (162, .invokevirtual 271, 3), (165, .aload_n 0, 1), (166, .aload_n 0, 1), (167, .getfield 237, 3), (170, .i2l, 1), (171, .invokevirtual 271, 3), (174, .aload_n 0, 1), (175, .aload_n 0, 1), (176, .invokevirtual 261, 3), (179, .invokestatic 283, 3), (182, .invokevirtual 271, 3), (185, .aload_n 0, 1), (186, .aload_n 0, 1), (187, .getfield 161, 3), (190, .i2l, 1), (191, .invokevirtual 271, 3)]
def cd_X11_digest_6 : List (Nat × Instr × Nat) := [(194, .iconst 0, 1), (195, .istore_n 1, 1), (196, .iload_n 1, 1), (197, .aload_n 0, 1), (198, .getfield 161, 3), (201, .if_icmp .ge 20, 3), (204, .aload_n 0, 1), (205, .aload_n 0, 1), (206, .getfield 19, 3), (209, .iload_n 1, 1), (210, .iaload, 1), (211, .i2l, 1), (212, .invokevirtual 271, 3), (215, .iinc 1 1, 3), (218, .goto (-22), 3), (221, .aload_n 0, 1), (222, .getfield 267, 3)]
def cd_X11_digest_7 : List (Nat × Instr × Nat) := [(225, .lreturn, 1)]
def cd_X11_digest : Chunks := [cd_X11_digest_0, cd_X11_digest_1, cd_X11_digest_2, cd_X11_digest_3, cd_X11_digest_4, cd_X11_digest_5, cd_X11_digest_6, cd_X11_digest_7]
def mi_X11_digest : MI := (cd_X11_digest, pl_X11, 3, 3, [])
def cd_L_addCorner_0 : List (Nat × Instr × Nat) := [(0, .aload 5, 2), (2, .iconst 0, 1), (3, .aload_n 0, 1), (4, .iload_n 1, 1), (5, .iload_n 2, 1), (6, .iload_n 3, 1), (7, .iload 4, 2), (9, .invokevirtual 7, 3), (12, .i2l, 1), (13, .lastore, 1), (14, .goto 11, 3), (17, .astore 6, 2), (19, .iconst 1, 1), (20, .ireturn, 1), (21, .astore 6, 2), (23, .iconst 2, 1), (24, .ireturn, 1), (25, .iconst 0, 1), (26, .ireturn, 1)]
def cd_L_addCorner : Chunks := [cd_L_addCorner_0]
def mi_L_addCorner : MI := (cd_L_addCorner, pl_L, 1, 7, [(0, 14, 17, 1), (0, 14, 21, 2)])
def cd_L_addOrgan_0 : List (Nat × Instr × Nat) := [(0, .aload_n 2, 1), (1, .iconst 0, 1), (2, .aload_n 0, 1), (3, .iload_n 1, 1), (4, .invokevirtual 17, 3), (7, .i2l, 1), (8, .lastore, 1), (9, .goto 9, 3), (12, .astore_n 3, 1), (13, .iconst 1, 1), (14, .ireturn, 1), (15, .astore_n 3, 1), (16, .iconst 2, 1), (17, .ireturn, 1), (18, .iconst 0, 1), (19, .ireturn, 1)]
def cd_L_addOrgan : Chunks := [cd_L_addOrgan_0]
def mi_L_addOrgan : MI := (cd_L_addOrgan, pl_L, 1, 4, [(0, 9, 12, 1), (0, 9, 15, 2)])
def cd_L_addPlayer_0 : List (Nat × Instr × Nat) := [(0, .aload_n 1, 1), (1, .iconst 0, 1), (2, .aload_n 0, 1), (3, .invokevirtual 21, 3), (6, .i2l, 1), (7, .lastore, 1), (8, .goto 6, 3), (11, .astore_n 2, 1), (12, .iconst 1, 1), (13, .ireturn, 1), (14, .iconst 0, 1), (15, .ireturn, 1)]
def cd_L_addPlayer : Chunks := [cd_L_addPlayer_0]
def mi_L_addPlayer : MI := (cd_L_addPlayer, pl_L, 1, 3, [(0, 8, 11, 2)])
def cd_L_permit_0 : List (Nat × Instr × Nat) := [(0, .aload_n 3, 1), (1, .iconst 0, 1), (2, .aload_n 0, 1), (3, .iload_n 1, 1), (4, .iload_n 2, 1), (5, .invokevirtual 25, 3), (8, .i2l, 1), (9, .lastore, 1), (10, .goto 7, 3), (13, .astore 4, 2), (15, .iconst 1, 1), (16, .ireturn, 1), (17, .iconst 0, 1), (18, .ireturn, 1)]
def cd_L_permit : Chunks := [cd_L_permit_0]
def mi_L_permit : MI := (cd_L_permit, pl_L, 1, 5, [(0, 10, 13, 3)])
def cd_L_barrel_0 : List (Nat × Instr × Nat) := [(0, .aload_n 3, 1), (1, .iconst 0, 1), (2, .aload_n 0, 1), (3, .iload_n 1, 1), (4, .iload_n 2, 1), (5, .invokevirtual 31, 3), (8, .i2l, 1), (9, .lastore, 1), (10, .goto 11, 3), (13, .astore 4, 2), (15, .iconst 1, 1), (16, .ireturn, 1), (17, .astore 4, 2), (19, .iconst 2, 1), (20, .ireturn, 1), (21, .iconst 0, 1), (22, .ireturn, 1)]
def cd_L_barrel : Chunks := [cd_L_barrel_0]
def mi_L_barrel : MI := (cd_L_barrel, pl_L, 1, 5, [(0, 10, 13, 3), (0, 10, 17, 1)])
def cd_L_assign_0 : List (Nat × Instr × Nat) := [(0, .aload_n 3, 1), (1, .iconst 0, 1), (2, .aload_n 0, 1), (3, .iload_n 1, 1), (4, .iload_n 2, 1), (5, .invokevirtual 35, 3), (8, .i2l, 1), (9, .lastore, 1), (10, .goto 7, 3), (13, .astore 4, 2), (15, .iconst 1, 1), (16, .ireturn, 1), (17, .iconst 0, 1), (18, .ireturn, 1)]
def cd_L_assign : Chunks := [cd_L_assign_0]
def mi_L_assign : MI := (cd_L_assign, pl_L, 1, 5, [(0, 10, 13, 3)])
def cd_L_set_0 : List (Nat × Instr × Nat) := [(0, .aload_n 3, 1), (1, .iconst 0, 1), (2, .aload_n 0, 1), (3, .iload_n 1, 1), (4, .iload_n 2, 1), (5, .invokevirtual 38, 3), (8, .i2l, 1), (9, .lastore, 1), (10, .goto 11, 3), (13, .astore 4, 2), (15, .iconst 1, 1), (16, .ireturn, 1), (17, .astore 4, 2), (19, .iconst 2, 1), (20, .ireturn, 1), (21, .iconst 0, 1), (22, .ireturn, 1)]
def cd_L_set : Chunks := [cd_L_set_0]
def mi_L_set : MI := (cd_L_set, pl_L, 1, 5, [(0, 10, 13, 3), (0, 10, 17, 1)])
def cd_L_lots_0 : List (Nat × Instr × Nat) := [(0, .aload_n 1, 1), (1, .iconst 0, 1), (2, .aload_n 0, 1), (3, .invokevirtual 41, 3), (6, .i2l, 1), (7, .lastore, 1), (8, .goto 6, 3), (11, .astore_n 2, 1), (12, .iconst 1, 1), (13, .ireturn, 1), (14, .iconst 0, 1), (15, .ireturn, 1)]
def cd_L_lots : Chunks := [cd_L_lots_0]
def mi_L_lots : MI := (cd_L_lots, pl_L, 1, 3, [(0, 8, 11, 2)])
def cd_L_weather_0 : List (Nat × Instr × Nat) := [(0, .aload_n 2, 1), (1, .iconst 0, 1), (2, .aload_n 0, 1), (3, .iload_n 1, 1), (4, .invokevirtual 44, 3), (7, .i2l, 1), (8, .lastore, 1), (9, .goto 6, 3), (12, .astore_n 3, 1), (13, .iconst 1, 1), (14, .ireturn, 1), (15, .iconst 0, 1), (16, .ireturn, 1)]
def cd_L_weather : Chunks := [cd_L_weather_0]
def mi_L_weather : MI := (cd_L_weather, pl_L, 1, 4, [(0, 9, 12, 2)])
def cd_L_play_0 : List (Nat × Instr × Nat) := [(0, .aload_n 3, 1), (1, .iconst 0, 1), (2, .aload_n 0, 1), (3, .iload_n 1, 1), (4, .iload_n 2, 1), (5, .invokevirtual 48, 3), (8, .i2l, 1), (9, .lastore, 1), (10, .goto 15, 3), (13, .astore 4, 2), (15, .iconst 1, 1), (16, .ireturn, 1), (17, .astore 4, 2), (19, .iconst 2, 1), (20, .ireturn, 1), (21, .astore 4, 2), (23, .iconst 3, 1), (24, .ireturn, 1), (25, .iconst 0, 1), (26, .ireturn, 1)]
def cd_L_play : Chunks := [cd_L_play_0]
def mi_L_play : MI := (cd_L_play, pl_L, 1, 5, [(0, 10, 13, 3), (0, 10, 17, 1), (0, 10, 21, 2)])
def cd_L_append_0 : List (Nat × Instr × Nat) := [(0, .aload_n 2, 1), (1, .iconst 0, 1), (2, .aload_n 0, 1), (3, .iload_n 1, 1), (4, .invokevirtual 51, 3), (7, .i2l, 1), (8, .lastore, 1), (9, .goto 9, 3), (12, .astore_n 3, 1), (13, .iconst 1, 1), (14, .ireturn, 1), (15, .astore_n 3, 1), (16, .iconst 2, 1), (17, .ireturn, 1), (18, .iconst 0, 1), (19, .ireturn, 1)]
def cd_L_append : Chunks := [cd_L_append_0]
def mi_L_append : MI := (cd_L_append, pl_L, 1, 4, [(0, 9, 12, 1), (0, 9, 15, 2)])
def cd_L_run_0 : List (Nat × Instr × Nat) := [(0, .aload_n 1, 1), (1, .iconst 0, 1), (2, .aload_n 0, 1), (3, .invokevirtual 54, 3), (6, .i2l, 1), (7, .lastore, 1), (8, .goto 6, 3), (11, .astore_n 2, 1), (12, .iconst 1, 1), (13, .ireturn, 1), (14, .iconst 0, 1), (15, .ireturn, 1)]
def cd_L_run : Chunks := [cd_L_run_0]
def mi_L_run : MI := (cd_L_run, pl_L, 1, 3, [(0, 8, 11, 1)])
def cd_L_undo_0 : List (Nat × Instr × Nat) := [(0, .aload_n 1, 1), (1, .iconst 0, 1), (2, .aload_n 0, 1), (3, .invokevirtual 57, 3), (6, .i2l, 1), (7, .lastore, 1), (8, .goto 6, 3), (11, .astore_n 2, 1), (12, .iconst 1, 1), (13, .ireturn, 1), (14, .iconst 0, 1), (15, .ireturn, 1)]
def cd_L_undo : Chunks := [cd_L_undo_0]
def mi_L_undo : MI := (cd_L_undo, pl_L, 1, 3, [(0, 8, 11, 2)])
def cd_L_corner_0 : List (Nat × Instr × Nat) := [(0, .aload_n 3, 1), (1, .iconst 0, 1), (2, .aload_n 0, 1), (3, .iload_n 1, 1), (4, .iload_n 2, 1), (5, .invokevirtual 60, 3), (8, .i2l, 1), (9, .lastore, 1), (10, .goto 11, 3), (13, .astore 4, 2), (15, .iconst 1, 1), (16, .ireturn, 1), (17, .astore 4, 2), (19, .iconst 2, 1), (20, .ireturn, 1), (21, .iconst 0, 1), (22, .ireturn, 1)]
def cd_L_corner : Chunks := [cd_L_corner_0]
def mi_L_corner : MI := (cd_L_corner, pl_L, 1, 5, [(0, 10, 13, 3), (0, 10, 17, 1)])
def cd_L_organ_0 : List (Nat × Instr × Nat) := [(0, .aload_n 3, 1), (1, .iconst 0, 1), (2, .aload_n 0, 1), (3, .iload_n 1, 1), (4, .iload_n 2, 1), (5, .invokevirtual 63, 3), (8, .i2l, 1), (9, .lastore, 1), (10, .goto 11, 3), (13, .astore 4, 2), (15, .iconst 1, 1), (16, .ireturn, 1), (17, .astore 4, 2), (19, .iconst 2, 1), (20, .ireturn, 1), (21, .iconst 0, 1), (22, .ireturn, 1)]
def cd_L_organ : Chunks := [cd_L_organ_0]
def mi_L_organ : MI := (cd_L_organ, pl_L, 1, 5, [(0, 10, 13, 3), (0, 10, 17, 1)])
def cd_L_player_0 : List (Nat × Instr × Nat) := [(0, .aload_n 3, 1), (1, .iconst 0, 1), (2, .aload_n 0, 1), (3, .iload_n 1, 1), (4, .iload_n 2, 1), (5, .invokevirtual 66, 3), (8, .i2l, 1), (9, .lastore, 1), (10, .goto 11, 3), (13, .astore 4, 2), (15, .iconst 1, 1), (16, .ireturn, 1), (17, .astore 4, 2), (19, .iconst 2, 1), (20, .ireturn, 1), (21, .iconst 0, 1), (22, .ireturn, 1)]
def cd_L_player : Chunks := [cd_L_player_0]
def mi_L_player : MI := (cd_L_player, pl_L, 1, 5, [(0, 10, 13, 3), (0, 10, 17, 1)])
def cd_L_hours_0 : List (Nat × Instr × Nat) := [(0, .aload_n 3, 1), (1, .iconst 0, 1), (2, .aload_n 0, 1), (3, .iload_n 1, 1), (4, .iload_n 2, 1), (5, .invokevirtual 69, 3), (8, .i2l, 1), (9, .lastore, 1), (10, .goto 7, 3), (13, .astore 4, 2), (15, .iconst 1, 1), (16, .ireturn, 1), (17, .iconst 0, 1), (18, .ireturn, 1)]
def cd_L_hours : Chunks := [cd_L_hours_0]
def mi_L_hours : MI := (cd_L_hours, pl_L, 1, 5, [(0, 10, 13, 3)])
def cd_L_count_0 : List (Nat × Instr × Nat) := [(0, .aload_n 2, 1), (1, .iconst 0, 1), (2, .aload_n 0, 1), (3, .iload_n 1, 1), (4, .invokevirtual 72, 3), (7, .i2l, 1), (8, .lastore, 1), (9, .goto 6, 3), (12, .astore_n 3, 1), (13, .iconst 1, 1), (14, .ireturn, 1), (15, .iconst 0, 1), (16, .ireturn, 1)]
def cd_L_count : Chunks := [cd_L_count_0]
def mi_L_count : MI := (cd_L_count, pl_L, 1, 4, [(0, 9, 12, 1)])
def cd_L_setting_0 : List (Nat × Instr × Nat) := [(0, .aload_n 2, 1), (1, .iconst 0, 1), (2, .aload_n 0, 1), (3, .iload_n 1, 1), (4, .invokevirtual 75, 3), (7, .i2l, 1), (8, .lastore, 1), (9, .goto 6, 3), (12, .astore_n 3, 1), (13, .iconst 1, 1), (14, .ireturn, 1), (15, .iconst 0, 1), (16, .ireturn, 1)]
def cd_L_setting : Chunks := [cd_L_setting_0]
def mi_L_setting : MI := (cd_L_setting, pl_L, 1, 4, [(0, 9, 12, 3)])
def cd_L_whyNot_0 : List (Nat × Instr × Nat) := [(0, .aload_n 3, 1), (1, .iconst 0, 1), (2, .aload_n 0, 1), (3, .iload_n 1, 1), (4, .iload_n 2, 1), (5, .invokevirtual 78, 3), (8, .i2l, 1), (9, .lastore, 1), (10, .goto 11, 3), (13, .astore 4, 2), (15, .iconst 1, 1), (16, .ireturn, 1), (17, .astore 4, 2), (19, .iconst 2, 1), (20, .ireturn, 1), (21, .iconst 0, 1), (22, .ireturn, 1)]
def cd_L_whyNot : Chunks := [cd_L_whyNot_0]
def mi_L_whyNot : MI := (cd_L_whyNot, pl_L, 1, 5, [(0, 10, 13, 3), (0, 10, 17, 1)])
def cd_L_ifPlayed_0 : List (Nat × Instr × Nat) := [(0, .aload_n 2, 1), (1, .iconst 0, 1), (2, .aload_n 0, 1), (3, .iload_n 1, 1), (4, .invokevirtual 81, 3), (7, .i2l, 1), (8, .lastore, 1), (9, .goto 6, 3), (12, .astore_n 3, 1), (13, .iconst 1, 1), (14, .ireturn, 1), (15, .iconst 0, 1), (16, .ireturn, 1)]
def cd_L_ifPlayed : Chunks := [cd_L_ifPlayed_0]
def mi_L_ifPlayed : MI := (cd_L_ifPlayed, pl_L, 1, 4, [(0, 9, 12, 3)])
def cd_L_kindestTune_0 : List (Nat × Instr × Nat) := [(0, .aload_n 2, 1), (1, .iconst 0, 1), (2, .aload_n 0, 1), (3, .iload_n 1, 1), (4, .invokevirtual 84, 3), (7, .i2l, 1), (8, .lastore, 1), (9, .goto 6, 3), (12, .astore_n 3, 1), (13, .iconst 1, 1), (14, .ireturn, 1), (15, .iconst 0, 1), (16, .ireturn, 1)]
def cd_L_kindestTune : Chunks := [cd_L_kindestTune_0]
def mi_L_kindestTune : MI := (cd_L_kindestTune, pl_L, 1, 4, [(0, 9, 12, 3)])
def cd_L_most_0 : List (Nat × Instr × Nat) := [(0, .aload_n 2, 1), (1, .iconst 0, 1), (2, .aload_n 0, 1), (3, .iload_n 1, 1), (4, .invokevirtual 87, 3), (7, .i2l, 1), (8, .lastore, 1), (9, .goto 6, 3), (12, .astore_n 3, 1), (13, .iconst 1, 1), (14, .ireturn, 1), (15, .iconst 0, 1), (16, .ireturn, 1)]
def cd_L_most : Chunks := [cd_L_most_0]
def mi_L_most : MI := (cd_L_most, pl_L, 1, 4, [(0, 9, 12, 1)])
def cd_L_ifEnded_0 : List (Nat × Instr × Nat) := [(0, .aload_n 2, 1), (1, .iconst 0, 1), (2, .aload_n 0, 1), (3, .iload_n 1, 1), (4, .invokevirtual 90, 3), (7, .i2l, 1), (8, .lastore, 1), (9, .goto 6, 3), (12, .astore_n 3, 1), (13, .iconst 1, 1), (14, .ireturn, 1), (15, .iconst 0, 1), (16, .ireturn, 1)]
def cd_L_ifEnded : Chunks := [cd_L_ifEnded_0]
def mi_L_ifEnded : MI := (cd_L_ifEnded, pl_L, 1, 4, [(0, 9, 12, 3)])
def cd_L_law_0 : List (Nat × Instr × Nat) := [(0, .new 8, 3), (3, .dup, 1), (4, .invokespecial 93, 3), (7, .astore_n 1, 1), (8, .new 94, 3), (11, .dup, 1), (12, .invokespecial 96, 3), (15, .astore_n 2, 1), (16, .iconst 1, 1), (17, .newarray .long, 2), (19, .astore_n 3, 1), (20, .iconst 0, 1), (21, .istore 4, 2), (23, .iload 4, 2), (25, .aload_n 0, 1), (26, .arraylength, 1), (27, .iconst 5, 1), (28, .isub, 1), (29, .if_icmp .gt 1723, 3)]
def cd_L_law_1 : List (Nat × Instr × Nat) := [(32, .aload_n 0, 1), (33, .iload 4, 2), (35, .iaload, 1), (36, .bipush 31, 2), (38, .iand, 1), (39, .tableswitch 1707 0 28 #[129, 221, 277, 321, 405, 473, 541, 609, 653, 725, 793, 806, 862, 875, 888, 932, 976, 1044, 1112, 1180, 1248, 1304, 1360, 1428, 1484, 1540, 1596, 1652, 1693], 129)]
def cd_L_law_2 : List (Nat × Instr × Nat) := []
def cd_L_law_3 : List (Nat × Instr × Nat) := []
def cd_L_law_4 : List (Nat × Instr × Nat) := []
def cd_L_law_5 : List (Nat × Instr × Nat) := [(168, .aload_n 1, 1), (169, .aload_n 0, 1), (170, .iload 4, 2), (172, .iconst 1, 1), (173, .iadd, 1), (174, .iaload, 1), (175, .aload_n 0, 1), (176, .iload 4, 2), (178, .iconst 2, 1), (179, .iadd, 1), (180, .iaload, 1), (181, .aload_n 0, 1), (182, .iload 4, 2), (184, .iconst 3, 1), (185, .iadd, 1), (186, .iaload, 1), (187, .aload_n 0, 1), (188, .iload 4, 2), (190, .iconst 4, 1), (191, .iadd, 1)]
def cd_L_law_6 : List (Nat × Instr × Nat) := [(192, .iaload, 1), (193, .aload_n 3, 1), (194, .invokestatic 97, 3), (197, .istore 5, 2), (199, .aload_n 2, 1), (200, .aload_n 0, 1), (201, .iload 4, 2), (203, .iconst 1, 1), (204, .iadd, 1), (205, .iaload, 1), (206, .aload_n 0, 1), (207, .iload 4, 2), (209, .iconst 2, 1), (210, .iadd, 1), (211, .iaload, 1), (212, .aload_n 0, 1), (213, .iload 4, 2), (215, .iconst 3, 1), (216, .iadd, 1), (217, .iaload, 1), (218, .aload_n 0, 1), (219, .iload 4, 2), (221, .iconst 4, 1), (222, .iadd, 1), (223, .iaload, 1)]
def cd_L_law_7 : List (Nat × Instr × Nat) := [(224, .invokevirtual 102, 3), (227, .istore 6, 2), (229, .aload_n 2, 1), (230, .invokevirtual 103, 3), (233, .iload 5, 2), (235, .if_icmp .eq 5, 3), (238, .iconst 0, 1), (239, .ireturn, 1), (240, .iload 5, 2), (242, .ifCond .ne 15, 3), (245, .aload_n 3, 1), (246, .iconst 0, 1), (247, .laload, 1), (248, .iload 6, 2), (250, .i2l, 1), (251, .lcmp, 1), (252, .ifCond .eq 5, 3), (255, .iconst 0, 1)]
def cd_L_law_8 : List (Nat × Instr × Nat) := [(256, .ireturn, 1), (257, .goto 1489, 3), (260, .aload_n 1, 1), (261, .aload_n 0, 1), (262, .iload 4, 2), (264, .iconst 1, 1), (265, .iadd, 1), (266, .iaload, 1), (267, .aload_n 3, 1), (268, .invokestatic 106, 3), (271, .istore 5, 2), (273, .aload_n 2, 1), (274, .aload_n 0, 1), (275, .iload 4, 2), (277, .iconst 1, 1), (278, .iadd, 1), (279, .iaload, 1), (280, .invokevirtual 109, 3), (283, .istore 6, 2), (285, .aload_n 2, 1), (286, .invokevirtual 103, 3)]
def cd_L_law_9 : List (Nat × Instr × Nat) := [(289, .iload 5, 2), (291, .if_icmp .eq 5, 3), (294, .iconst 0, 1), (295, .ireturn, 1), (296, .iload 5, 2), (298, .ifCond .ne 15, 3), (301, .aload_n 3, 1), (302, .iconst 0, 1), (303, .laload, 1), (304, .iload 6, 2), (306, .i2l, 1), (307, .lcmp, 1), (308, .ifCond .eq 5, 3), (311, .iconst 0, 1), (312, .ireturn, 1), (313, .goto 1433, 3), (316, .aload_n 1, 1), (317, .aload_n 3, 1), (318, .invokestatic 110, 3)]
def cd_L_law_10 : List (Nat × Instr × Nat) := [(321, .istore 5, 2), (323, .aload_n 2, 1), (324, .invokevirtual 113, 3), (327, .istore 6, 2), (329, .aload_n 2, 1), (330, .invokevirtual 103, 3), (333, .iload 5, 2), (335, .if_icmp .eq 5, 3), (338, .iconst 0, 1), (339, .ireturn, 1), (340, .iload 5, 2), (342, .ifCond .ne 15, 3), (345, .aload_n 3, 1), (346, .iconst 0, 1), (347, .laload, 1), (348, .iload 6, 2), (350, .i2l, 1), (351, .lcmp, 1)]
def cd_L_law_11 : List (Nat × Instr × Nat) := [(352, .ifCond .eq 5, 3), (355, .iconst 0, 1), (356, .ireturn, 1), (357, .goto 1389, 3), (360, .aload_n 1, 1), (361, .aload_n 0, 1), (362, .iload 4, 2), (364, .iconst 1, 1), (365, .iadd, 1), (366, .iaload, 1), (367, .aload_n 0, 1), (368, .iload 4, 2), (370, .iconst 2, 1), (371, .iadd, 1), (372, .iaload, 1), (373, .ifCond .eq 7, 3), (376, .iconst 1, 1), (377, .goto 4, 3), (380, .iconst 0, 1), (381, .aload_n 3, 1), (382, .invokestatic 114, 3)]
def cd_L_law_12 : List (Nat × Instr × Nat) := [(385, .istore 5, 2), (387, .aload_n 2, 1), (388, .aload_n 0, 1), (389, .iload 4, 2), (391, .iconst 1, 1), (392, .iadd, 1), (393, .iaload, 1), (394, .aload_n 0, 1), (395, .iload 4, 2), (397, .iconst 2, 1), (398, .iadd, 1), (399, .iaload, 1), (400, .ifCond .eq 7, 3), (403, .iconst 1, 1), (404, .goto 4, 3), (407, .iconst 0, 1), (408, .invokevirtual 117, 3), (411, .istore 6, 2), (413, .aload_n 2, 1), (414, .invokevirtual 103, 3)]
def cd_L_law_13 : List (Nat × Instr × Nat) := [(417, .iload 5, 2), (419, .if_icmp .eq 5, 3), (422, .iconst 0, 1), (423, .ireturn, 1), (424, .iload 5, 2), (426, .ifCond .ne 15, 3), (429, .aload_n 3, 1), (430, .iconst 0, 1), (431, .laload, 1), (432, .iload 6, 2), (434, .i2l, 1), (435, .lcmp, 1), (436, .ifCond .eq 5, 3), (439, .iconst 0, 1), (440, .ireturn, 1), (441, .goto 1305, 3), (444, .aload_n 1, 1), (445, .aload_n 0, 1), (446, .iload 4, 2)]
def cd_L_law_14 : List (Nat × Instr × Nat) := [(448, .iconst 1, 1), (449, .iadd, 1), (450, .iaload, 1), (451, .aload_n 0, 1), (452, .iload 4, 2), (454, .iconst 2, 1), (455, .iadd, 1), (456, .iaload, 1), (457, .aload_n 3, 1), (458, .invokestatic 118, 3), (461, .istore 5, 2), (463, .aload_n 2, 1), (464, .aload_n 0, 1), (465, .iload 4, 2), (467, .iconst 1, 1), (468, .iadd, 1), (469, .iaload, 1), (470, .aload_n 0, 1), (471, .iload 4, 2), (473, .iconst 2, 1), (474, .iadd, 1), (475, .iaload, 1), (476, .invokevirtual 121, 3), (479, .istore 6, 2)]
def cd_L_law_15 : List (Nat × Instr × Nat) := [(481, .aload_n 2, 1), (482, .invokevirtual 103, 3), (485, .iload 5, 2), (487, .if_icmp .eq 5, 3), (490, .iconst 0, 1), (491, .ireturn, 1), (492, .iload 5, 2), (494, .ifCond .ne 15, 3), (497, .aload_n 3, 1), (498, .iconst 0, 1), (499, .laload, 1), (500, .iload 6, 2), (502, .i2l, 1), (503, .lcmp, 1), (504, .ifCond .eq 5, 3), (507, .iconst 0, 1), (508, .ireturn, 1), (509, .goto 1237, 3)]
def cd_L_law_16 : List (Nat × Instr × Nat) := [(512, .aload_n 1, 1), (513, .aload_n 0, 1), (514, .iload 4, 2), (516, .iconst 1, 1), (517, .iadd, 1), (518, .iaload, 1), (519, .aload_n 0, 1), (520, .iload 4, 2), (522, .iconst 2, 1), (523, .iadd, 1), (524, .iaload, 1), (525, .aload_n 3, 1), (526, .invokestatic 122, 3), (529, .istore 5, 2), (531, .aload_n 2, 1), (532, .aload_n 0, 1), (533, .iload 4, 2), (535, .iconst 1, 1), (536, .iadd, 1), (537, .iaload, 1), (538, .aload_n 0, 1), (539, .iload 4, 2), (541, .iconst 2, 1), (542, .iadd, 1), (543, .iaload, 1)]
def cd_L_law_17 : List (Nat × Instr × Nat) := [(544, .invokevirtual 124, 3), (547, .istore 6, 2), (549, .aload_n 2, 1), (550, .invokevirtual 103, 3), (553, .iload 5, 2), (555, .if_icmp .eq 5, 3), (558, .iconst 0, 1), (559, .ireturn, 1), (560, .iload 5, 2), (562, .ifCond .ne 15, 3), (565, .aload_n 3, 1), (566, .iconst 0, 1), (567, .laload, 1), (568, .iload 6, 2), (570, .i2l, 1), (571, .lcmp, 1), (572, .ifCond .eq 5, 3), (575, .iconst 0, 1)]
def cd_L_law_18 : List (Nat × Instr × Nat) := [(576, .ireturn, 1), (577, .goto 1169, 3), (580, .aload_n 1, 1), (581, .aload_n 0, 1), (582, .iload 4, 2), (584, .iconst 1, 1), (585, .iadd, 1), (586, .iaload, 1), (587, .aload_n 0, 1), (588, .iload 4, 2), (590, .iconst 2, 1), (591, .iadd, 1), (592, .iaload, 1), (593, .aload_n 3, 1), (594, .invokestatic 125, 3), (597, .istore 5, 2), (599, .aload_n 2, 1), (600, .aload_n 0, 1), (601, .iload 4, 2), (603, .iconst 1, 1), (604, .iadd, 1), (605, .iaload, 1), (606, .aload_n 0, 1), (607, .iload 4, 2)]
def cd_L_law_19 : List (Nat × Instr × Nat) := [(609, .iconst 2, 1), (610, .iadd, 1), (611, .iaload, 1), (612, .invokevirtual 127, 3), (615, .istore 6, 2), (617, .aload_n 2, 1), (618, .invokevirtual 103, 3), (621, .iload 5, 2), (623, .if_icmp .eq 5, 3), (626, .iconst 0, 1), (627, .ireturn, 1), (628, .iload 5, 2), (630, .ifCond .ne 15, 3), (633, .aload_n 3, 1), (634, .iconst 0, 1), (635, .laload, 1), (636, .iload 6, 2), (638, .i2l, 1), (639, .lcmp, 1)]
def cd_L_law_20 : List (Nat × Instr × Nat) := [(640, .ifCond .eq 5, 3), (643, .iconst 0, 1), (644, .ireturn, 1), (645, .goto 1101, 3), (648, .aload_n 1, 1), (649, .aload_n 3, 1), (650, .invokestatic 128, 3), (653, .istore 5, 2), (655, .aload_n 2, 1), (656, .invokevirtual 130, 3), (659, .istore 6, 2), (661, .aload_n 2, 1), (662, .invokevirtual 103, 3), (665, .iload 5, 2), (667, .if_icmp .eq 5, 3), (670, .iconst 0, 1), (671, .ireturn, 1)]
def cd_L_law_21 : List (Nat × Instr × Nat) := [(672, .iload 5, 2), (674, .ifCond .ne 15, 3), (677, .aload_n 3, 1), (678, .iconst 0, 1), (679, .laload, 1), (680, .iload 6, 2), (682, .i2l, 1), (683, .lcmp, 1), (684, .ifCond .eq 5, 3), (687, .iconst 0, 1), (688, .ireturn, 1), (689, .goto 1057, 3), (692, .aload_n 1, 1), (693, .aload_n 0, 1), (694, .iload 4, 2), (696, .iconst 1, 1), (697, .iadd, 1), (698, .iaload, 1), (699, .ifCond .eq 7, 3), (702, .iconst 1, 1), (703, .goto 4, 3)]
def cd_L_law_22 : List (Nat × Instr × Nat) := [(706, .iconst 0, 1), (707, .aload_n 3, 1), (708, .invokestatic 131, 3), (711, .istore 5, 2), (713, .aload_n 2, 1), (714, .aload_n 0, 1), (715, .iload 4, 2), (717, .iconst 1, 1), (718, .iadd, 1), (719, .iaload, 1), (720, .ifCond .eq 7, 3), (723, .iconst 1, 1), (724, .goto 4, 3), (727, .iconst 0, 1), (728, .invokevirtual 134, 3), (731, .istore 6, 2), (733, .aload_n 2, 1), (734, .invokevirtual 103, 3)]
def cd_L_law_23 : List (Nat × Instr × Nat) := [(737, .iload 5, 2), (739, .if_icmp .eq 5, 3), (742, .iconst 0, 1), (743, .ireturn, 1), (744, .iload 5, 2), (746, .ifCond .ne 15, 3), (749, .aload_n 3, 1), (750, .iconst 0, 1), (751, .laload, 1), (752, .iload 6, 2), (754, .i2l, 1), (755, .lcmp, 1), (756, .ifCond .eq 5, 3), (759, .iconst 0, 1), (760, .ireturn, 1), (761, .goto 985, 3), (764, .aload_n 1, 1), (765, .aload_n 0, 1), (766, .iload 4, 2)]
def cd_L_law_24 : List (Nat × Instr × Nat) := [(768, .iconst 1, 1), (769, .iadd, 1), (770, .iaload, 1), (771, .aload_n 0, 1), (772, .iload 4, 2), (774, .iconst 2, 1), (775, .iadd, 1), (776, .iaload, 1), (777, .aload_n 3, 1), (778, .invokestatic 135, 3), (781, .istore 5, 2), (783, .aload_n 2, 1), (784, .aload_n 0, 1), (785, .iload 4, 2), (787, .iconst 1, 1), (788, .iadd, 1), (789, .iaload, 1), (790, .aload_n 0, 1), (791, .iload 4, 2), (793, .iconst 2, 1), (794, .iadd, 1), (795, .iaload, 1), (796, .invokevirtual 137, 3), (799, .istore 6, 2)]
def cd_L_law_25 : List (Nat × Instr × Nat) := [(801, .aload_n 2, 1), (802, .invokevirtual 103, 3), (805, .iload 5, 2), (807, .if_icmp .eq 5, 3), (810, .iconst 0, 1), (811, .ireturn, 1), (812, .iload 5, 2), (814, .ifCond .ne 15, 3), (817, .aload_n 3, 1), (818, .iconst 0, 1), (819, .laload, 1), (820, .iload 6, 2), (822, .i2l, 1), (823, .lcmp, 1), (824, .ifCond .eq 5, 3), (827, .iconst 0, 1), (828, .ireturn, 1), (829, .goto 917, 3)]
def cd_L_law_26 : List (Nat × Instr × Nat) := [(832, .aload_n 1, 1), (833, .invokevirtual 138, 3), (836, .aload_n 2, 1), (837, .invokevirtual 141, 3), (840, .if_icmp .eq 906, 3), (843, .iconst 0, 1), (844, .ireturn, 1), (845, .aload_n 1, 1), (846, .aload_n 0, 1), (847, .iload 4, 2), (849, .iconst 1, 1), (850, .iadd, 1), (851, .iaload, 1), (852, .aload_n 3, 1), (853, .invokestatic 142, 3), (856, .istore 5, 2), (858, .aload_n 2, 1), (859, .aload_n 0, 1), (860, .iload 4, 2), (862, .iconst 1, 1), (863, .iadd, 1)]
def cd_L_law_27 : List (Nat × Instr × Nat) := [(864, .iaload, 1), (865, .invokevirtual 144, 3), (868, .istore 6, 2), (870, .aload_n 2, 1), (871, .invokevirtual 103, 3), (874, .iload 5, 2), (876, .if_icmp .eq 5, 3), (879, .iconst 0, 1), (880, .ireturn, 1), (881, .iload 5, 2), (883, .ifCond .ne 15, 3), (886, .aload_n 3, 1), (887, .iconst 0, 1), (888, .laload, 1), (889, .iload 6, 2), (891, .i2l, 1), (892, .lcmp, 1), (893, .ifCond .eq 5, 3)]
def cd_L_law_28 : List (Nat × Instr × Nat) := [(896, .iconst 0, 1), (897, .ireturn, 1), (898, .goto 848, 3), (901, .aload_n 1, 1), (902, .invokevirtual 145, 3), (905, .aload_n 2, 1), (906, .invokevirtual 148, 3), (909, .if_icmp .eq 837, 3), (912, .iconst 0, 1), (913, .ireturn, 1), (914, .aload_n 1, 1), (915, .invokevirtual 149, 3), (918, .aload_n 2, 1), (919, .invokevirtual 152, 3), (922, .if_icmp .eq 824, 3), (925, .iconst 0, 1), (926, .ireturn, 1), (927, .aload_n 1, 1)]
def cd_L_law_29 : List (Nat × Instr × Nat) := [(928, .aload_n 3, 1), (929, .invokestatic 153, 3), (932, .istore 5, 2), (934, .aload_n 2, 1), (935, .invokevirtual 155, 3), (938, .istore 6, 2), (940, .aload_n 2, 1), (941, .invokevirtual 103, 3), (944, .iload 5, 2), (946, .if_icmp .eq 5, 3), (949, .iconst 0, 1), (950, .ireturn, 1), (951, .iload 5, 2), (953, .ifCond .ne 15, 3), (956, .aload_n 3, 1), (957, .iconst 0, 1), (958, .laload, 1), (959, .iload 6, 2)]
def cd_L_law_30 : List (Nat × Instr × Nat) := [(961, .i2l, 1), (962, .lcmp, 1), (963, .ifCond .eq 5, 3), (966, .iconst 0, 1), (967, .ireturn, 1), (968, .goto 778, 3), (971, .aload_n 1, 1), (972, .aload_n 3, 1), (973, .invokestatic 156, 3), (976, .istore 5, 2), (978, .aload_n 2, 1), (979, .invokevirtual 158, 3), (982, .istore 6, 2), (984, .aload_n 2, 1), (985, .invokevirtual 103, 3), (988, .iload 5, 2), (990, .if_icmp .eq 5, 3)]
def cd_L_law_31 : List (Nat × Instr × Nat) := [(993, .iconst 0, 1), (994, .ireturn, 1), (995, .iload 5, 2), (997, .ifCond .ne 15, 3), (1000, .aload_n 3, 1), (1001, .iconst 0, 1), (1002, .laload, 1), (1003, .iload 6, 2), (1005, .i2l, 1), (1006, .lcmp, 1), (1007, .ifCond .eq 5, 3), (1010, .iconst 0, 1), (1011, .ireturn, 1), (1012, .goto 734, 3), (1015, .aload_n 1, 1), (1016, .aload_n 0, 1), (1017, .iload 4, 2), (1019, .iconst 1, 1), (1020, .iadd, 1), (1021, .iaload, 1), (1022, .aload_n 0, 1), (1023, .iload 4, 2)]
def cd_L_law_32 : List (Nat × Instr × Nat) := [(1025, .iconst 2, 1), (1026, .iadd, 1), (1027, .iaload, 1), (1028, .aload_n 3, 1), (1029, .invokestatic 159, 3), (1032, .istore 5, 2), (1034, .aload_n 2, 1), (1035, .aload_n 0, 1), (1036, .iload 4, 2), (1038, .iconst 1, 1), (1039, .iadd, 1), (1040, .iaload, 1), (1041, .aload_n 0, 1), (1042, .iload 4, 2), (1044, .iconst 2, 1), (1045, .iadd, 1), (1046, .iaload, 1), (1047, .invokevirtual 161, 3), (1050, .istore 6, 2), (1052, .aload_n 2, 1), (1053, .invokevirtual 103, 3)]
def cd_L_law_33 : List (Nat × Instr × Nat) := [(1056, .iload 5, 2), (1058, .if_icmp .eq 5, 3), (1061, .iconst 0, 1), (1062, .ireturn, 1), (1063, .iload 5, 2), (1065, .ifCond .ne 15, 3), (1068, .aload_n 3, 1), (1069, .iconst 0, 1), (1070, .laload, 1), (1071, .iload 6, 2), (1073, .i2l, 1), (1074, .lcmp, 1), (1075, .ifCond .eq 5, 3), (1078, .iconst 0, 1), (1079, .ireturn, 1), (1080, .goto 666, 3), (1083, .aload_n 1, 1), (1084, .aload_n 0, 1), (1085, .iload 4, 2), (1087, .iconst 1, 1)]
def cd_L_law_34 : List (Nat × Instr × Nat) := [(1088, .iadd, 1), (1089, .iaload, 1), (1090, .aload_n 0, 1), (1091, .iload 4, 2), (1093, .iconst 2, 1), (1094, .iadd, 1), (1095, .iaload, 1), (1096, .aload_n 3, 1), (1097, .invokestatic 162, 3), (1100, .istore 5, 2), (1102, .aload_n 2, 1), (1103, .aload_n 0, 1), (1104, .iload 4, 2), (1106, .iconst 1, 1), (1107, .iadd, 1), (1108, .iaload, 1), (1109, .aload_n 0, 1), (1110, .iload 4, 2), (1112, .iconst 2, 1), (1113, .iadd, 1), (1114, .iaload, 1), (1115, .invokevirtual 164, 3), (1118, .istore 6, 2)]
def cd_L_law_35 : List (Nat × Instr × Nat) := [(1120, .aload_n 2, 1), (1121, .invokevirtual 103, 3), (1124, .iload 5, 2), (1126, .if_icmp .eq 5, 3), (1129, .iconst 0, 1), (1130, .ireturn, 1), (1131, .iload 5, 2), (1133, .ifCond .ne 15, 3), (1136, .aload_n 3, 1), (1137, .iconst 0, 1), (1138, .laload, 1), (1139, .iload 6, 2), (1141, .i2l, 1), (1142, .lcmp, 1), (1143, .ifCond .eq 5, 3), (1146, .iconst 0, 1), (1147, .ireturn, 1), (1148, .goto 598, 3), (1151, .aload_n 1, 1)]
def cd_L_law_36 : List (Nat × Instr × Nat) := [(1152, .aload_n 0, 1), (1153, .iload 4, 2), (1155, .iconst 1, 1), (1156, .iadd, 1), (1157, .iaload, 1), (1158, .aload_n 0, 1), (1159, .iload 4, 2), (1161, .iconst 2, 1), (1162, .iadd, 1), (1163, .iaload, 1), (1164, .aload_n 3, 1), (1165, .invokestatic 165, 3), (1168, .istore 5, 2), (1170, .aload_n 2, 1), (1171, .aload_n 0, 1), (1172, .iload 4, 2), (1174, .iconst 1, 1), (1175, .iadd, 1), (1176, .iaload, 1), (1177, .aload_n 0, 1), (1178, .iload 4, 2), (1180, .iconst 2, 1), (1181, .iadd, 1), (1182, .iaload, 1), (1183, .invokevirtual 167, 3)]
def cd_L_law_37 : List (Nat × Instr × Nat) := [(1186, .istore 6, 2), (1188, .aload_n 2, 1), (1189, .invokevirtual 103, 3), (1192, .iload 5, 2), (1194, .if_icmp .eq 5, 3), (1197, .iconst 0, 1), (1198, .ireturn, 1), (1199, .iload 5, 2), (1201, .ifCond .ne 15, 3), (1204, .aload_n 3, 1), (1205, .iconst 0, 1), (1206, .laload, 1), (1207, .iload 6, 2), (1209, .i2l, 1), (1210, .lcmp, 1), (1211, .ifCond .eq 5, 3), (1214, .iconst 0, 1), (1215, .ireturn, 1)]
def cd_L_law_38 : List (Nat × Instr × Nat) := [(1216, .goto 530, 3), (1219, .aload_n 1, 1), (1220, .aload_n 0, 1), (1221, .iload 4, 2), (1223, .iconst 1, 1), (1224, .iadd, 1), (1225, .iaload, 1), (1226, .aload_n 0, 1), (1227, .iload 4, 2), (1229, .iconst 2, 1), (1230, .iadd, 1), (1231, .iaload, 1), (1232, .aload_n 3, 1), (1233, .invokestatic 168, 3), (1236, .istore 5, 2), (1238, .aload_n 2, 1), (1239, .aload_n 0, 1), (1240, .iload 4, 2), (1242, .iconst 1, 1), (1243, .iadd, 1), (1244, .iaload, 1), (1245, .aload_n 0, 1), (1246, .iload 4, 2)]
def cd_L_law_39 : List (Nat × Instr × Nat) := [(1248, .iconst 2, 1), (1249, .iadd, 1), (1250, .iaload, 1), (1251, .invokevirtual 170, 3), (1254, .istore 6, 2), (1256, .aload_n 2, 1), (1257, .invokevirtual 103, 3), (1260, .iload 5, 2), (1262, .if_icmp .eq 5, 3), (1265, .iconst 0, 1), (1266, .ireturn, 1), (1267, .iload 5, 2), (1269, .ifCond .ne 15, 3), (1272, .aload_n 3, 1), (1273, .iconst 0, 1), (1274, .laload, 1), (1275, .iload 6, 2), (1277, .i2l, 1), (1278, .lcmp, 1), (1279, .ifCond .eq 5, 3)]
def cd_L_law_40 : List (Nat × Instr × Nat) := [(1282, .iconst 0, 1), (1283, .ireturn, 1), (1284, .goto 462, 3), (1287, .aload_n 1, 1), (1288, .aload_n 0, 1), (1289, .iload 4, 2), (1291, .iconst 1, 1), (1292, .iadd, 1), (1293, .iaload, 1), (1294, .aload_n 3, 1), (1295, .invokestatic 171, 3), (1298, .istore 5, 2), (1300, .aload_n 2, 1), (1301, .aload_n 0, 1), (1302, .iload 4, 2), (1304, .iconst 1, 1), (1305, .iadd, 1), (1306, .iaload, 1), (1307, .invokevirtual 173, 3), (1310, .istore 6, 2)]
def cd_L_law_41 : List (Nat × Instr × Nat) := [(1312, .aload_n 2, 1), (1313, .invokevirtual 103, 3), (1316, .iload 5, 2), (1318, .if_icmp .eq 5, 3), (1321, .iconst 0, 1), (1322, .ireturn, 1), (1323, .iload 5, 2), (1325, .ifCond .ne 15, 3), (1328, .aload_n 3, 1), (1329, .iconst 0, 1), (1330, .laload, 1), (1331, .iload 6, 2), (1333, .i2l, 1), (1334, .lcmp, 1), (1335, .ifCond .eq 5, 3), (1338, .iconst 0, 1), (1339, .ireturn, 1), (1340, .goto 406, 3), (1343, .aload_n 1, 1)]
def cd_L_law_42 : List (Nat × Instr × Nat) := [(1344, .aload_n 0, 1), (1345, .iload 4, 2), (1347, .iconst 1, 1), (1348, .iadd, 1), (1349, .iaload, 1), (1350, .aload_n 3, 1), (1351, .invokestatic 174, 3), (1354, .istore 5, 2), (1356, .aload_n 2, 1), (1357, .aload_n 0, 1), (1358, .iload 4, 2), (1360, .iconst 1, 1), (1361, .iadd, 1), (1362, .iaload, 1), (1363, .invokevirtual 176, 3), (1366, .istore 6, 2), (1368, .aload_n 2, 1), (1369, .invokevirtual 103, 3), (1372, .iload 5, 2), (1374, .if_icmp .eq 5, 3)]
def cd_L_law_43 : List (Nat × Instr × Nat) := [(1377, .iconst 0, 1), (1378, .ireturn, 1), (1379, .iload 5, 2), (1381, .ifCond .ne 15, 3), (1384, .aload_n 3, 1), (1385, .iconst 0, 1), (1386, .laload, 1), (1387, .iload 6, 2), (1389, .i2l, 1), (1390, .lcmp, 1), (1391, .ifCond .eq 5, 3), (1394, .iconst 0, 1), (1395, .ireturn, 1), (1396, .goto 350, 3), (1399, .aload_n 1, 1), (1400, .aload_n 0, 1), (1401, .iload 4, 2), (1403, .iconst 1, 1), (1404, .iadd, 1), (1405, .iaload, 1), (1406, .aload_n 0, 1), (1407, .iload 4, 2)]
def cd_L_law_44 : List (Nat × Instr × Nat) := [(1409, .iconst 2, 1), (1410, .iadd, 1), (1411, .iaload, 1), (1412, .aload_n 3, 1), (1413, .invokestatic 177, 3), (1416, .istore 5, 2), (1418, .aload_n 2, 1), (1419, .aload_n 0, 1), (1420, .iload 4, 2), (1422, .iconst 1, 1), (1423, .iadd, 1), (1424, .iaload, 1), (1425, .aload_n 0, 1), (1426, .iload 4, 2), (1428, .iconst 2, 1), (1429, .iadd, 1), (1430, .iaload, 1), (1431, .invokevirtual 179, 3), (1434, .istore 6, 2), (1436, .aload_n 2, 1), (1437, .invokevirtual 103, 3)]
def cd_L_law_45 : List (Nat × Instr × Nat) := [(1440, .iload 5, 2), (1442, .if_icmp .eq 5, 3), (1445, .iconst 0, 1), (1446, .ireturn, 1), (1447, .iload 5, 2), (1449, .ifCond .ne 15, 3), (1452, .aload_n 3, 1), (1453, .iconst 0, 1), (1454, .laload, 1), (1455, .iload 6, 2), (1457, .i2l, 1), (1458, .lcmp, 1), (1459, .ifCond .eq 5, 3), (1462, .iconst 0, 1), (1463, .ireturn, 1), (1464, .goto 282, 3), (1467, .aload_n 1, 1), (1468, .aload_n 0, 1), (1469, .iload 4, 2), (1471, .iconst 1, 1)]
def cd_L_law_46 : List (Nat × Instr × Nat) := [(1472, .iadd, 1), (1473, .iaload, 1), (1474, .aload_n 3, 1), (1475, .invokestatic 180, 3), (1478, .istore 5, 2), (1480, .aload_n 2, 1), (1481, .aload_n 0, 1), (1482, .iload 4, 2), (1484, .iconst 1, 1), (1485, .iadd, 1), (1486, .iaload, 1), (1487, .invokevirtual 182, 3), (1490, .istore 6, 2), (1492, .aload_n 2, 1), (1493, .invokevirtual 103, 3), (1496, .iload 5, 2), (1498, .if_icmp .eq 5, 3), (1501, .iconst 0, 1), (1502, .ireturn, 1), (1503, .iload 5, 2)]
def cd_L_law_47 : List (Nat × Instr × Nat) := [(1505, .ifCond .ne 15, 3), (1508, .aload_n 3, 1), (1509, .iconst 0, 1), (1510, .laload, 1), (1511, .iload 6, 2), (1513, .i2l, 1), (1514, .lcmp, 1), (1515, .ifCond .eq 5, 3), (1518, .iconst 0, 1), (1519, .ireturn, 1), (1520, .goto 226, 3), (1523, .aload_n 1, 1), (1524, .aload_n 0, 1), (1525, .iload 4, 2), (1527, .iconst 1, 1), (1528, .iadd, 1), (1529, .iaload, 1), (1530, .aload_n 3, 1), (1531, .invokestatic 183, 3), (1534, .istore 5, 2)]
def cd_L_law_48 : List (Nat × Instr × Nat) := [(1536, .aload_n 2, 1), (1537, .aload_n 0, 1), (1538, .iload 4, 2), (1540, .iconst 1, 1), (1541, .iadd, 1), (1542, .iaload, 1), (1543, .invokevirtual 185, 3), (1546, .istore 6, 2), (1548, .aload_n 2, 1), (1549, .invokevirtual 103, 3), (1552, .iload 5, 2), (1554, .if_icmp .eq 5, 3), (1557, .iconst 0, 1), (1558, .ireturn, 1), (1559, .iload 5, 2), (1561, .ifCond .ne 15, 3), (1564, .aload_n 3, 1), (1565, .iconst 0, 1), (1566, .laload, 1), (1567, .iload 6, 2)]
def cd_L_law_49 : List (Nat × Instr × Nat) := [(1569, .i2l, 1), (1570, .lcmp, 1), (1571, .ifCond .eq 5, 3), (1574, .iconst 0, 1), (1575, .ireturn, 1), (1576, .goto 170, 3), (1579, .aload_n 1, 1), (1580, .aload_n 0, 1), (1581, .iload 4, 2), (1583, .iconst 1, 1), (1584, .iadd, 1), (1585, .iaload, 1), (1586, .aload_n 3, 1), (1587, .invokestatic 186, 3), (1590, .istore 5, 2), (1592, .aload_n 2, 1), (1593, .aload_n 0, 1), (1594, .iload 4, 2), (1596, .iconst 1, 1), (1597, .iadd, 1), (1598, .iaload, 1), (1599, .invokevirtual 188, 3)]
def cd_L_law_50 : List (Nat × Instr × Nat) := [(1602, .istore 6, 2), (1604, .aload_n 2, 1), (1605, .invokevirtual 103, 3), (1608, .iload 5, 2), (1610, .if_icmp .eq 5, 3), (1613, .iconst 0, 1), (1614, .ireturn, 1), (1615, .iload 5, 2), (1617, .ifCond .ne 15, 3), (1620, .aload_n 3, 1), (1621, .iconst 0, 1), (1622, .laload, 1), (1623, .iload 6, 2), (1625, .i2l, 1), (1626, .lcmp, 1), (1627, .ifCond .eq 5, 3), (1630, .iconst 0, 1), (1631, .ireturn, 1)]
def cd_L_law_51 : List (Nat × Instr × Nat) := [(1632, .goto 114, 3), (1635, .aload_n 1, 1), (1636, .aload_n 0, 1), (1637, .iload 4, 2), (1639, .iconst 1, 1), (1640, .iadd, 1), (1641, .iaload, 1), (1642, .aload_n 3, 1), (1643, .invokestatic 189, 3), (1646, .istore 5, 2), (1648, .aload_n 2, 1), (1649, .aload_n 0, 1), (1650, .iload 4, 2), (1652, .iconst 1, 1), (1653, .iadd, 1), (1654, .iaload, 1), (1655, .invokevirtual 191, 3), (1658, .istore 6, 2), (1660, .aload_n 2, 1), (1661, .invokevirtual 103, 3)]
def cd_L_law_52 : List (Nat × Instr × Nat) := [(1664, .iload 5, 2), (1666, .if_icmp .eq 5, 3), (1669, .iconst 0, 1), (1670, .ireturn, 1), (1671, .iload 5, 2), (1673, .ifCond .ne 15, 3), (1676, .aload_n 3, 1), (1677, .iconst 0, 1), (1678, .laload, 1), (1679, .iload 6, 2), (1681, .i2l, 1), (1682, .lcmp, 1), (1683, .ifCond .eq 5, 3), (1686, .iconst 0, 1), (1687, .ireturn, 1), (1688, .goto 58, 3), (1691, .aload_n 1, 1), (1692, .invokevirtual 192, 3), (1695, .dstore 5, 2)]
def cd_L_law_53 : List (Nat × Instr × Nat) := [(1697, .aload_n 2, 1), (1698, .invokevirtual 196, 3), (1701, .dstore 7, 2), (1703, .dload 5, 2), (1705, .dload 7, 2), (1707, .dcmp .l, 1), (1708, .ifCond .eq 21, 3), (1711, .dload 5, 2), (1713, .dload 5, 2), (1715, .dcmp .l, 1), (1716, .ifCond .eq 11, 3), (1719, .dload 7, 2), (1721, .dload 7, 2), (1723, .dcmp .l, 1), (1724, .ifCond .ne 5, 3), (1727, .iconst 0, 1)]
def cd_L_law_54 : List (Nat × Instr × Nat) := [(1728, .ireturn, 1), (1729, .goto 17, 3), (1732, .aload_n 1, 1), (1733, .invokevirtual 197, 3), (1736, .aload_n 2, 1), (1737, .invokevirtual 201, 3), (1740, .lcmp, 1), (1741, .ifCond .eq 5, 3), (1744, .iconst 0, 1), (1745, .ireturn, 1), (1746, .iinc 4 5, 3), (1749, .goto (-1726), 3), (1752, .iconst 1, 1), (1753, .ireturn, 1)]
def cd_L_law : Chunks := [cd_L_law_0, cd_L_law_1, cd_L_law_2, cd_L_law_3, cd_L_law_4, cd_L_law_5, cd_L_law_6, cd_L_law_7, cd_L_law_8, cd_L_law_9, cd_L_law_10, cd_L_law_11, cd_L_law_12, cd_L_law_13, cd_L_law_14, cd_L_law_15, cd_L_law_16, cd_L_law_17, cd_L_law_18, cd_L_law_19, cd_L_law_20, cd_L_law_21, cd_L_law_22, cd_L_law_23, cd_L_law_24, cd_L_law_25, cd_L_law_26, cd_L_law_27, cd_L_law_28, cd_L_law_29, cd_L_law_30, cd_L_law_31, cd_L_law_32, cd_L_law_33, cd_L_law_34, cd_L_law_35, cd_L_law_36, cd_L_law_37, cd_L_law_38, cd_L_law_39, cd_L_law_40, cd_L_law_41, cd_L_law_42, cd_L_law_43, cd_L_law_44, cd_L_law_45, cd_L_law_46, cd_L_law_47, cd_L_law_48, cd_L_law_49, cd_L_law_50, cd_L_law_51, cd_L_law_52, cd_L_law_53, cd_L_law_54]
def mi_L_law : MI := (cd_L_law, pl_L, 2, 9, [])
def mtab_0 : List MI := [mi_X1_copyFrom, mi_X1_isQuietAt, mi_X1_distanceTo, mi_X1_tunesPlayed, mi_X1_noteTune, mi_X1_forgetDay, mi_X2_signCount, mi_X2_fits, mi_X3_kindAt, mi_X3_errorIndex, mi_X3_isWholeRow, mi_X3_organAt, mi_X3_tuneAt, mi_X4_copyFrom, mi_X5_lookAt, mi_X5_leastHindering]
def mtab_1 : List MI := [mi_X5_hinderedPairs, mi_X5_findMost, mi_X5_takingsOf, mi_X5_nearAhead, mi_X5_findTunes, mi_X5_isFree, mi_X6_reckon, mi_X6_sharePot, mi_X6_giveUnits, mi_X6_giveAllowances, mi_X7_copyFrom, mi_X7_hoursOfDay, mi_X7_forgetDay, mi_X8_save, mi_X8_restore, mi_X9_copyFrom]
def mtab_2 : List MI := [mi_X9_hasCornerAt, mi_X9_permits, mi_X9_crewSize, mi_X9_organAt, mi_X9_cornerOf, mi_X9_takingsSoFar, mi_X9_ownersSoFar, mi_X9_inAllPots, mi_X9_playersSoFar, mi_X9_weatherMayChange, mi_X9_lotsMayBeDrawn, mi_X9_drawLots, mi_X9_takeCornersBack, mi_X9_draw, mi_X9_freeCorner, mi_X9_areNear]
def mtab_3 : List MI := [mi_X9_tunesHeardAt, mi_X9_reasonAgainstAll, mi_X9_reasonAgainst, mi_X9_playableTunes, mi_X9_playedNear, mi_X9_takingsFor, mi_X9_playTune, mi_X9_divideTakings, mi_X9_addHourOfCrew, mi_X9_endHour, mi_X9_payOut, mi_X9_beginDay, mi_X10_addCorner, mi_X10_addOrgan, mi_X10_addPlayer, mi_X10_permit]
def mtab_4 : List MI := [mi_X10_barrel, mi_X10_assign, mi_X10_set, mi_X10_lots, mi_X10_weather, mi_X10_play, mi_X10_next, mi_X10_append, mi_X10_clearBuffer, mi_X10_firstError, mi_X10_run, mi_X10_undo, mi_X10_corner, mi_X10_organ, mi_X10_player, mi_X10_hours]
def mtab_5 : List MI := [mi_X10_count, mi_X10_setting, mi_X10_whyNot, mi_X10_ifPlayed, mi_X10_kindestTune, mi_X10_most, mi_X10_ifEnded, mi_X10_playersShare, mi_X10_digest, mi_X10_requireIndex, mi_X10_requireInRange, mi_X10_requireState, mi_X10_asNumber, mi_X10_holds, mi_X10_obey, mi_X10_obeyPlay]
def mtab_6 : List MI := [mi_X10_mixed, mi_X10_withCorner, mi_X10_withOrgan, mi_X10_withPlayer, mi_X10_withText, mi_X10_bitsOfShare, mi_X11_thrown, mi_X11_fails, mi_X11_within, mi_X11_isCorner, mi_X11_isOrgan, mi_X11_isPlayer, mi_X11_corner0, mi_X11_organ0, mi_X11_player0, mi_X11_cornerOf]
def mtab_7 : List MI := [mi_X11_tuneIn, mi_X11_save, mi_X11_keep, mi_X11_bring, mi_X11_addCorner, mi_X11_addOrgan, mi_X11_addPlayer, mi_X11_permits, mi_X11_permit, mi_X11_barrel, mi_X11_assign, mi_X11_mostOf, mi_X11_set, mi_X11_playedToday, mi_X11_draw, mi_X11_whoHas]
def mtab_8 : List MI := [mi_X11_freeCorners, mi_X11_freeAt, mi_X11_withCorner, mi_X11_noCorners, mi_X11_mayDraw, mi_X11_drawLots, mi_X11_lots, mi_X11_weather, mi_X11_isQuiet, mi_X11_areNear, mi_X11_heardAt, mi_X11_crewOf, mi_X11_reason, mi_X11_othersNear, mi_X11_takings, mi_X11_plays]
def mtab_9 : List MI := [mi_X11_play, mi_X11_timeAt, mi_X11_timeToday, mi_X11_sharePot, mi_X11_endDay, mi_X11_goOn, mi_X11_next, mi_X11_append, mi_X11_clearBuffer, mi_X11_goes, mi_X11_ends, mi_X11_begins, mi_X11_takes, mi_X11_read, mi_X11_firstError, mi_X11_mayDo]
def mtab_10 : List MI := [mi_X11_does, mi_X11_run, mi_X11_undo, mi_X11_playedAt, mi_X11_cornerNow, mi_X11_corner, mi_X11_organNow, mi_X11_organ, mi_X11_playerNow, mi_X11_player, mi_X11_hours, mi_X11_ofOrgans, mi_X11_playersGot, mi_X11_counted, mi_X11_count, mi_X11_setting]
def mtab_11 : List MI := [mi_X11_whyNot, mi_X11_tunesOf, mi_X11_playedNow, mi_X11_ifPlayed, mi_X11_size, mi_X11_pairsBehind, mi_X11_kindestNow, mi_X11_kindestTune, mi_X11_canPick, mi_X11_pickTakings, mi_X11_keepPicks, mi_X11_layMost, mi_X11_most, mi_X11_endedNow, mi_X11_ifEnded, mi_X11_shareNow]
def mtab_12 : List MI := [mi_X11_playersShare, mi_X11_mix, mi_X11_mixOrgan, mi_X11_mixPlayer, mi_X11_digest, mi_L_addCorner, mi_L_addOrgan, mi_L_addPlayer, mi_L_permit, mi_L_barrel, mi_L_assign, mi_L_set, mi_L_lots, mi_L_weather, mi_L_play, mi_L_append]
def mtab_13 : List MI := [mi_L_run, mi_L_undo, mi_L_corner, mi_L_organ, mi_L_player, mi_L_hours, mi_L_count, mi_L_setting, mi_L_whyNot, mi_L_ifPlayed, mi_L_kindestTune, mi_L_most, mi_L_ifEnded, mi_L_law]
def mtabs : List (List MI) := [mtab_0, mtab_1, mtab_2, mtab_3, mtab_4, mtab_5, mtab_6, mtab_7, mtab_8, mtab_9, mtab_10, mtab_11, mtab_12, mtab_13]
def mtab (n : Nat) : Option MI := (mtabs.getD (n / 16) [])[n % 16]?
def levs : List Nat := [1, 1, 1, 1, 1, 1, 1, 1, 2, 3, 4, 1, 1, 1, 4, 4, 3, 10, 4, 3, 9, 3, 3, 2, 1, 2, 1, 1, 1, 3, 3, 2, 1, 1, 1, 1, 1, 1, 1, 1, 1, 1, 1, 3, 1, 1, 2, 2, 2, 2, 3, 3, 3, 2, 4, 1, 1, 4, 1, 2, 4, 4, 4, 4, 4, 4, 4, 4, 4, 5, 5, 2, 1, 4, 7, 4, 3, 2, 2, 2, 2, 2, 4, 4, 5, 11, 4, 2, 12, 1, 1, 1, 1, 1, 6, 5, 1, 4, 6, 5, 2, 1, 1, 1, 1, 2, 2, 2, 1, 1, 1, 2, 1, 1, 1, 1, 2, 2, 2, 2, 3, 3, 3, 1, 2, 1, 1, 3, 4, 4, 3, 1, 2, 5, 6, 2, 2, 2, 3, 2, 4, 3, 3, 4, 5, 1, 2, 2, 3, 4, 5, 2, 1, 1, 2, 2, 3, 4, 5, 5, 6, 7, 2, 4, 5, 6, 3, 4, 3, 4, 3, 2, 2, 3, 4, 2, 5, 5, 6, 7, 1, 6, 7, 8, 3, 4, 1, 6, 7, 4, 5, 3, 4, 1, 8, 5, 9, 5, 5, 5, 5, 5, 5, 5, 5, 5, 6, 3, 8, 5, 4, 3, 3, 3, 3, 3, 5, 5, 6, 12, 5, 13]
def orgArg (as : List Value) : Nat := match (as[4]? : Option Value) with
  | some (Value.int x) => min 5 x.toNatClampNeg
  | _ => 0
/-- how many frames a call needs at most -/
def lvl (m : Nat) (as : List Value) : Nat := bif Nat.beq m 20 then 9 - orgArg as else levs.getD m 0
def mxl (m : Nat) : Nat := match mtab m with | some M => M.2.2.2.1 | none => 0
end CODE
end
section
/-! WHAT A RUN OF THE PURE INTERPRETER COMES TO: fuel, and its limit -/
section EXEC
def prun : Nat → Nat → Nat → PS → Option PO
  | 0, _, _, _ => none
  | n + 1, m, lv, s => match mtab m with
    | none => none
    | some M => match pstep M s with
      | none => none
      | some (.inl s') => prun n m lv s'
      | some (.inr (.inr o)) => some o
      | some (.inr (.inl (c, as, pc, ls, st, μ))) =>
        if lvl c as < lv then (match prun n c (lvl c as) (0, entryL (mxl c) as, [], μ) with
          | none => none
          | some o => match aft M pc ls st o with
            | some (.inl s') => prun n m lv s'
            | some (.inr (.inr o2)) => some o2
            | _ => none)
        else none
theorem prun_mono : ∀ (n m lv : Nat) (s : PS) (o : PO), prun n m lv s = some o → prun (n + 1) m lv s = some o := by
  intro n
  induction n with
  | zero => intro m lv s o h; simp [prun] at h
  | succ n ih =>
    intro m lv s o h
    rw [prun] at h ⊢
    cases hM : mtab m with
    | none => rw [hM] at h; cases h
    | some M =>
      rw [hM] at h
      simp only at h ⊢
      cases hs : pstep M s with
      | none => rw [hs] at h; cases h
      | some r =>
        rw [hs] at h
        match r, h with
        | .inl s', h => exact ih _ _ _ _ h
        | .inr (.inr o'), h => exact h
        | .inr (.inl (c, as, pc, ls, st, μ)), h =>
          simp only at h ⊢
          by_cases hl : lvl c as < lv
          · rw [if_pos hl] at h ⊢
            cases ho : prun n c (lvl c as) (0, entryL (mxl c) as, [], μ) with
            | none => rw [ho] at h; cases h
            | some o1 =>
              rw [ho] at h
              rw [ih _ _ _ _ ho]
              simp only at h ⊢
              cases ha : aft M pc ls st o1 with
              | none => rw [ha] at h; cases h
              | some r2 =>
                rw [ha] at h
                match r2, h with
                | .inl s', h => exact ih _ _ _ _ h
                | .inr (.inr o2), h => exact h
                | .inr (.inl x), h => cases h
          · rw [if_neg hl] at h; cases h
theorem prun_le {n k m lv : Nat} {s : PS} {o : PO} (h : prun n m lv s = some o) (hk : n ≤ k) : prun k m lv s = some o := by
  induction hk with
  | refl => exact h
  | step _ ih => exact prun_mono _ _ _ _ _ ih
theorem prun_det {n k m lv : Nat} {s : PS} {o o' : PO} (h : prun n m lv s = some o) (h' : prun k m lv s = some o') : o = o' := by
  have h1 := prun_le h (Nat.le_max_left n k)
  have h2 := prun_le h' (Nat.le_max_right n k)
  rw [h1] at h2
  exact Option.some.inj h2
/-- the run's outcome, from a state of method m at level lv -/
noncomputable def Exec (m lv : Nat) (s : PS) : Option PO := @dite (Option PO) (∃ o n, prun n m lv s = some o) (Classical.propDecidable _) (fun h => some h.choose) (fun _ => none)
theorem Exec_of {n m lv : Nat} {s : PS} {o : PO} (h : prun n m lv s = some o) : Exec m lv s = some o := by
  have hx : ∃ o n, prun n m lv s = some o := ⟨o, n, h⟩
  rw [Exec, dif_pos hx]
  obtain ⟨k, hk⟩ := hx.choose_spec
  exact congrArg some (prun_det hk h)
theorem Exec_iff {m lv : Nat} {s : PS} {o : PO} : Exec m lv s = some o ↔ ∃ n, prun n m lv s = some o := by
  constructor
  · intro h
    unfold Exec at h
    split at h
    · rename_i hx
      obtain ⟨k, hk⟩ := hx.choose_spec
      rw [Option.some.inj h] at hk
      exact ⟨k, hk⟩
    · cases h
  · rintro ⟨n, h⟩; exact Exec_of h
theorem Exec_ext {m lv m' lv' : Nat} {s s' : PS} (h : ∀ o, (∃ n, prun n m lv s = some o) ↔ ∃ n, prun n m' lv' s' = some o) : Exec m lv s = Exec m' lv' s' := by
  have key : ∀ o, Exec m lv s = some o ↔ Exec m' lv' s' = some o := fun o => by rw [Exec_iff, Exec_iff]; exact h o
  cases h1 : Exec m lv s with
  | none =>
    cases h2 : Exec m' lv' s' with
    | none => rfl
    | some o => rw [(key o).mpr h2] at h1; cases h1
  | some o => exact ((key o).mp h1).symm
theorem Exec_step1 {m lv : Nat} {M : MI} {s s' : PS} (hM : mtab m = some M) (h : pstep M s = some (.inl s')) : Exec m lv s = Exec m lv s' := by
  refine Exec_ext fun o => ⟨?_, ?_⟩
  · rintro ⟨n, hn⟩
    cases n with
    | zero => simp [prun] at hn
    | succ n => rw [prun, hM] at hn; simp only [h] at hn; exact ⟨n, hn⟩
  · rintro ⟨n, hn⟩
    exact ⟨n + 1, by rw [prun, hM]; simp only [h]; exact hn⟩
theorem Exec_done1 {m lv : Nat} {M : MI} {s : PS} {o : PO} (hM : mtab m = some M) (h : pstep M s = some (.inr (.inr o))) : Exec m lv s = some o :=
  Exec_of (n := 1) (by rw [prun, hM]; simp only [h])
/-- a method's call -/
noncomputable def Den (m : Nat) (as : List Value) (μ : PM) : Option PO := Exec m (lvl m as) (0, entryL (mxl m) as, [], μ)
theorem Exec_call1 {m lv c pc : Nat} {as ls st : List Value} {μ : PM} {M : MI} {s s' : PS} {o : PO} (hM : mtab m = some M) (h : pstep M s = some (.inr (.inl (c, as, pc, ls, st, μ)))) (hl : lvl c as < lv) (hd : Den c as μ = some o) (ha : aft M pc ls st o = some (.inl s')) : Exec m lv s = Exec m lv s' := by
  obtain ⟨k, hk⟩ := Exec_iff.mp hd
  refine Exec_ext fun o2 => ⟨?_, ?_⟩
  · rintro ⟨n, hn⟩
    cases n with
    | zero => simp [prun] at hn
    | succ n =>
      rw [prun, hM] at hn
      simp only [h, if_pos hl] at hn
      split at hn
      · cases hn
      · rename_i o1 ho
        cases prun_det ho hk
        rw [ha] at hn
        exact ⟨n, hn⟩
  · rintro ⟨n, hn⟩
    refine ⟨max n k + 1, ?_⟩
    rw [prun, hM]
    simp only [h, if_pos hl, prun_le hk (Nat.le_max_right n k), ha]
    exact prun_le hn (Nat.le_max_left n k)
theorem Exec_callT1 {m lv c pc : Nat} {as ls st : List Value} {μ : PM} {M : MI} {s : PS} {o o2 : PO} (hM : mtab m = some M) (h : pstep M s = some (.inr (.inl (c, as, pc, ls, st, μ)))) (hl : lvl c as < lv) (hd : Den c as μ = some o) (ha : aft M pc ls st o = some (.inr (.inr o2))) : Exec m lv s = some o2 := by
  obtain ⟨k, hk⟩ := Exec_iff.mp hd
  refine Exec_of (n := k + 1) ?_
  rw [prun, hM]
  simp only [h, if_pos hl, hk, ha]
theorem pblk_run {m lv : Nat} {M : MI} (hM : mtab m = some M) : ∀ (n : Nat) (s : PS) (r : Option SR), pblk M n s = r → ∃ s', Exec m lv s = Exec m lv s' ∧ pstep M s' = r := by
  intro n
  induction n with
  | zero => intro s r h; exact ⟨s, rfl, h⟩
  | succ n ih =>
    intro s r h
    rw [pblk] at h
    split at h
    · rename_i s1 h1
      obtain ⟨s', e, h'⟩ := ih _ _ h
      exact ⟨s', (Exec_step1 hM h1).trans e, h'⟩
    · exact ⟨s, rfl, h⟩
/-- straight on -/
theorem xN {m lv : Nat} {M : MI} (n : Nat) {s s' : PS} (hM : mtab m = some M) (h : pblk M n s = some (.inl s')) : Exec m lv s = Exec m lv s' := by
  obtain ⟨t, e, h'⟩ := pblk_run (lv := lv) hM _ _ _ h
  exact e.trans (Exec_step1 hM h')
/-- the end -/
theorem xD {m lv : Nat} {M : MI} (n : Nat) {s : PS} {o : PO} (hM : mtab m = some M) (h : pblk M n s = some (.inr (.inr o))) : Exec m lv s = some o := by
  obtain ⟨t, e, h'⟩ := pblk_run (lv := lv) hM _ _ _ h
  exact e.trans (Exec_done1 hM h')
/-- a branch -/
theorem xB {m lv : Nat} {M : MI} (n : Nat) {s a b : PS} {c : Prop} [Decidable c] (hM : mtab m = some M) (h : pblk M n s = if c then some (.inl a) else some (.inl b)) : Exec m lv s = if c then Exec m lv a else Exec m lv b := by
  obtain ⟨t, e, h'⟩ := pblk_run (lv := lv) hM _ _ _ h
  rw [e]
  by_cases hc : c
  · rw [if_pos hc] at h' ⊢; exact Exec_step1 hM h'
  · rw [if_neg hc] at h' ⊢; exact Exec_step1 hM h'
/-- a check that holds, straight on -/
theorem xC {m lv : Nat} {M : MI} (n : Nat) {s s' : PS} {r : Option SR} {c : Prop} [Decidable c] (hc : c) (hM : mtab m = some M) (h : pblk M n s = if c then some (.inl s') else r) : Exec m lv s = Exec m lv s' := by
  rw [if_pos hc] at h
  exact xN n hM h
theorem xCD {m lv : Nat} {M : MI} (n : Nat) {s : PS} {o : PO} {r : Option SR} {c : Prop} [Decidable c] (hc : c) (hM : mtab m = some M) (h : pblk M n s = if c then some (.inr (.inr o)) else r) : Exec m lv s = some o := by
  rw [if_pos hc] at h
  exact xD n hM h
/-- a call -/
theorem xI {m lv c pc : Nat} {as ls st : List Value} {μ : PM} {M : MI} (n : Nat) {s s' : PS} {o : PO} (hM : mtab m = some M) (h : pblk M n s = some (.inr (.inl (c, as, pc, ls, st, μ)))) (hl : lvl c as < lv) (hd : Den c as μ = some o) (ha : aft M pc ls st o = some (.inl s')) : Exec m lv s = Exec m lv s' := by
  obtain ⟨t, e, h'⟩ := pblk_run (lv := lv) hM _ _ _ h
  exact e.trans (Exec_call1 hM h' hl hd ha)
theorem xIC {m lv c pc : Nat} {as ls st : List Value} {μ : PM} {M : MI} (n : Nat) {s s' : PS} {o : PO} {r : Option SR} {q : Prop} [Decidable q] (hc : q) (hM : mtab m = some M) (h : pblk M n s = if q then some (.inr (.inl (c, as, pc, ls, st, μ))) else r) (hl : lvl c as < lv) (hd : Den c as μ = some o) (ha : aft M pc ls st o = some (.inl s')) : Exec m lv s = Exec m lv s' := by
  rw [if_pos hc] at h
  exact xI n hM h hl hd ha
/-- a call that throws on -/
theorem xT {m lv c pc : Nat} {as ls st : List Value} {μ : PM} {M : MI} (n : Nat) {s : PS} {o o2 : PO} (hM : mtab m = some M) (h : pblk M n s = some (.inr (.inl (c, as, pc, ls, st, μ)))) (hl : lvl c as < lv) (hd : Den c as μ = some o) (ha : aft M pc ls st o = some (.inr (.inr o2))) : Exec m lv s = some o2 := by
  obtain ⟨t, e, h'⟩ := pblk_run (lv := lv) hM _ _ _ h
  exact e.trans (Exec_callT1 hM h' hl hd ha)
theorem xTC {m lv c pc : Nat} {as ls st : List Value} {μ : PM} {M : MI} (n : Nat) {s : PS} {o o2 : PO} {r : Option SR} {q : Prop} [Decidable q] (hc : q) (hM : mtab m = some M) (h : pblk M n s = if q then some (.inr (.inl (c, as, pc, ls, st, μ))) else r) (hl : lvl c as < lv) (hd : Den c as μ = some o) (ha : aft M pc ls st o = some (.inr (.inr o2))) : Exec m lv s = some o2 := by
  rw [if_pos hc] at h
  exact xT n hM h hl hd ha
end EXEC
end
section
section TRY4
theorem tB0 (ls st : List Value) (μ : PM) : jp 2 12 ls st μ = nx 14 ls st μ := rfl
theorem tB1 (a b c : Int32) (μ : PM) : pblk mi_X11_within 2 (0, [.int a, .int b, .int c], [], μ) = if2 .lt 2 12 [.int a, .int b, .int c] [.int b, .int a] μ := rfl
theorem tB2 (a b c : Int32) (ls : List Value) (μ : PM) : if2 .lt 2 12 ls [.int b, .int a] μ = if a < b then some (.inl (14, ls, [], μ)) else some (.inl (5, ls, [], μ)) := rfl
theorem tB (a b c : Int32) (μ : PM) : Exec nX11_within 1 (0, [.int a, .int b, .int c], [], μ) = if a < b then Exec nX11_within 1 (14, [.int a, .int b, .int c], [], μ) else Exec nX11_within 1 (5, [.int a, .int b, .int c], [], μ) := xB 2 (M := mi_X11_within) rfl (by rfl)
theorem tE (c w : Int32) (μ : PM) : Exec nX11_organ0 1 (0, [.ref 12, .int c, .int w], [], μ) = Exec nX11_organ0 1 (13, [.ref 12, .int c, .int w], [.int (56 + 7 * c + w), .ref 13], μ) := xN 8 (M := mi_X11_organ0) rfl rfl
theorem tE2 (c w : Int32) (μ : PM) (h : inb (56 + 7 * c + w) 213 = true) : Exec nX11_organ0 1 (0, [.ref 12, .int c, .int w], [], μ) = some (.inl (some (.int (mI μ 13 (56 + 7 * c + w).toNatClampNeg))), μ) := (xN 8 (M := mi_X11_organ0) (s' := (13, [.ref 12, .int c, .int w], [.int (56 + 7 * c + w), .ref 13], μ)) rfl rfl).trans ((xC 0 (M := mi_X11_organ0) (s' := (14, [.ref 12, .int c, .int w], [.int (mI μ 13 (56 + 7 * c + w).toNatClampNeg)], μ)) (c := cls 13 = 20 ∧ inb (56 + 7 * c + w) (len 13) = true) ⟨rfl, h⟩ rfl rfl).trans (xD 0 (M := mi_X11_organ0) rfl rfl))
theorem tE3 (c w : Int32) (μ : PM) (h : inb (56 + 7 * c + w) 213 = true) : Exec nX11_organ0 1 (0, [.ref 12, .int c, .int w], [], μ) = some (.inl (some (.int (mI μ 13 (56 + 7 * c + w).toNatClampNeg))), μ) := ((xC 9 (M := mi_X11_organ0) (s' := (14, [.ref 12, .int c, .int w], [.int (mI μ 13 (56 + 7 * c + w).toNatClampNeg)], μ)) (c := cls 13 = 20 ∧ inb (56 + 7 * c + w) (len 13) = true) ⟨rfl, h⟩ rfl rfl).trans (xD 0 (M := mi_X11_organ0) rfl rfl))
end TRY4
end
