/-! the pure machine: values are (tag, number): 0 int, 1 long, 2 float (its bits), 3 reference (0: null), 9 none. Memory: by address and place; address -q: place 0 the kind of cell q, place 1 its length; address 0: place 2 the next address, place 3 the slots used so far -/
abbrev PV : Type := Nat × Int
abbrev Mem : Type := Int → Int → Int
abbrev pOp : Type := Nat × Nat × Int × Nat
abbrev Req : Type := Option ((PV × Mem) ⊕ ((Nat × List PV × List PV × Mem) ⊕ (Nat × List PV × Mem × Nat × List PV × List PV)))
def w32 (x : Int) : Int := (x + 2147483648) % 4294967296 - 2147483648
def w64 (x : Int) : Int := (x + 9223372036854775808) % 18446744073709551616 - 9223372036854775808
def mU (μ : Mem) (a i v : Int) : Mem := fun b j => if b = a ∧ j = i then v else μ b j
def mNew (μ : Mem) (k n : Int) : Mem := fun b j => if b = μ 0 2 then 0 else if b = -(μ 0 2) then (if j = 0 then k else if j = 1 then n else 0) else if b = 0 ∧ j = 2 then μ 0 2 + 1 else if b = 0 ∧ j = 3 then μ 0 3 + n else μ b j
def mCpy (μ : Mem) (s sp d dp n : Int) : Mem := fun b j => if b = d ∧ dp ≤ j ∧ j < dp + n then μ s (sp + (j - dp)) else μ b j
/-- n1 rows of n2 ints: the outer cell first -/
def mGrid (μ : Mem) (n1 n2 : Int) : Mem := fun b j => if b = μ 0 2 then (if 0 ≤ j ∧ j < n1 then μ 0 2 + 1 + j else 0) else if μ 0 2 < b ∧ b ≤ μ 0 2 + n1 then 0 else if b = -(μ 0 2) then (if j = 0 then 5 else if j = 1 then n1 else 0) else if -(μ 0 2) - n1 ≤ b ∧ b < -(μ 0 2) then (if j = 0 then 1 else if j = 1 then n2 else 0) else if b = 0 ∧ j = 2 then μ 0 2 + 1 + n1 else if b = 0 ∧ j = 3 then μ 0 3 + n1 + n1 * n2 else μ b j
def rGo (pc : Nat) (ls st : List PV) (μ : Mem) : Req := some (.inr (.inl (pc, ls, st, μ)))
def rRet (v : PV) (μ : Mem) : Req := some (.inl (v, μ))
def rCall (y : Nat) (as : List PV) (μ : Mem) (pc : Nat) (ls st : List PV) : Req := some (.inr (.inr (y, as, μ, pc, ls, st)))
def stL (ls : List PV) (i : Nat) (v : PV) : List PV :=
  let l1 := if 0 < i ∧ (ls.getD (i - 1) (9, 0)).1 = 1 then ls.set (i - 1) (9, 0) else ls
  if v.1 = 1 then (l1.set i v).set (i + 1) (9, 0) else l1.set i v
def pcat (v : PV) : Nat := if v.1 = 1 then 2 else 1
def layA : List PV → List PV
  | [] => []
  | v :: r => if v.1 = 1 then v :: (9, 0) :: layA r else v :: layA r
def bI (k : Nat) (x y : Int) : Option Int := match k with
  | 0 => some (w32 (x + y))
  | 1 => some (w32 (x - y))
  | 2 => some (w32 (x * y))
  | 3 => if y = 0 then none else some (w32 (x.tdiv y))
  | 4 => if y = 0 then none else some (w32 (x - x.tdiv y * y))
  | 5 => some ((Int32.ofInt x &&& Int32.ofInt y).toInt)
  | _ => none
def bL (k : Nat) (x y : Int) : Option Int := match k with
  | 0 => some (w64 (x - y))
  | 1 => some ((Int64.ofInt x &&& Int64.ofInt y).toInt)
  | 2 => some ((Int64.ofInt x ||| Int64.ofInt y).toInt)
  | _ => none
def lshl (x y : Int) : Int := (Int64.ofInt x <<< ((Int32.ofInt y).toInt64 &&& 63)).toInt
def lushr (x y : Int) : Int := ((Int64.ofInt x).toUInt64 >>> ((Int32.ofInt y).toInt64.toUInt64 &&& Int64.toUInt64 63)).toInt64.toInt
def sL (k : Nat) (x y : Int) : Option Int := match k with
  | 3 => some (lshl x y)
  | 4 => some (lushr x y)
  | _ => none
def cmpL (x y : Int) : Int := if x < y then -1 else if x = y then 0 else 1
def u32 (x : Int) : UInt32 := UInt32.ofNat x.toNat
def fN (r : UInt32) : Option Int := if r &&& 0x7fffffff ≤ 0x7f800000 then some (r.toNat : Int) else none
def bF (k : Nat) (x y : Int) : Option Int := match k with
  | 0 => fN (FP.fadd (u32 x) (u32 y))
  | 1 => fN (FP.fmul (u32 x) (u32 y))
  | 2 => fN (FP.fdiv (u32 x) (u32 y))
  | _ => none
def cV (k : Nat) (v : PV) : Option PV := match k, v with
  | 0, (0, x) => some (2, ((FP.i2f (Int32.ofInt x)).toNat : Int))
  | 1, (2, x) => some (0, (FP.f2i (u32 x)).toInt)
  | 2, (0, x) => some (1, x)
  | 3, (1, x) => some (0, w32 x)
  | _, _ => none
def cI (k : Nat) (x y : Int) : Bool := match k with
  | 0 => decide (x = y)
  | 1 => !decide (x = y)
  | 2 => decide (x < y)
  | 3 => decide (y ≤ x)
  | 4 => decide (y < x)
  | _ => decide (x ≤ y)
/-- the types of fields: 0 int, 7 boolean, 3 reference -/
def fTag (ty : FieldType) : Nat := match ty with
  | .int => 0
  | .boolean => 7
  | _ => 3
def fT (ci k : Nat) : Nat := fTag ((pTys.getD ci (fun _ => .int)) k)
def nF (ci : Nat) : Nat := match vwCl[ci]? with
  | some r => r.2.2
  | none => 0
def fok (t : Nat) (v : PV) : Bool := match t with
  | 0 => v.1 == 0
  | 7 => v.1 == 0 && (decide (v.2 = 0) || decide (v.2 = 1))
  | _ => v.1 == 3
def gTag (t : Nat) : Nat := if t = 3 then 3 else 0
/-- arrays' kinds and what they hold: 1 int, 2 long, 3 rows, 4 words, 5 int rows, 6 boolean -/
def aTag (k : Int) : Nat := if k = 1 ∨ k = 6 then 0 else if k = 2 then 1 else 3
def aKind (a : Nat) (k : Int) : Bool := match a with
  | 1 => decide (k = 1)
  | 2 => decide (k = 2)
  | 6 => decide (k = 6)
  | _ => decide (k = 3 ∨ k = 4 ∨ k = 5)
/-- what may be stored into an array of kind k -/
def aPut (μ : Mem) (a : Nat) (k : Int) (v : PV) : Bool := match a with
  | 1 => decide (k = 1) && v.1 == 0
  | 2 => decide (k = 2) && v.1 == 1
  | 6 => decide (k = 6) && v.1 == 0 && (decide (v.2 = 0) || decide (v.2 = 1))
  | _ => v.1 == 3 && ((decide (k = 3) && decide (μ (-v.2) 0 = 15)) || (decide (k = 4) && decide (μ (-v.2) 0 = 18)))
def swG (ps : List (Int × Nat)) (x : Int) (d : Nat) : Nat := match ps with
  | [] => d
  | (k, t) :: r => if x = k then t else swG r x d
