/-! THE PURE PICTURE: a state is a function: object number, place -> int. A world lays it into the heap. -/
abbrev Sg : Type := Nat → Nat → Int32
def up (σ : Sg) (k i : Nat) (v : Int32) : Sg := fun k' => if k' = k then upd (σ k) i v else σ k'
def upR (σ : Sg) (k : Nat) (f : Nat → Int32) : Sg := fun k' => if k' = k then f else σ k'
def tbl (l : List Int32) (i : Int32) : Int32 := l.getD i.toNatClampNeg 0
abbrev lK : List Int32 := [-1, 0, 0, 0, 1, 2, 0]
abbrev lN_ : List Int32 := [98, 109, 112, 102, 100, 119]
abbrev lB : List Int32 := [10, 20, 0, 0, 50, 0, 70, 11, 0, 30, 0, 0, 60, 71, 12, 0, 0, 40, 51, 0, 0, 13, 21, 0, 0, 0, 0, 0]
/-! pure words -/
def lt {α β : Type} (v : α) (f : α → Option β) : Option β := f v
def ckb {β : Type} (b : Bool) (x : Option β) : Option β := if b = true then x else none
def bnd {ρ β : Type} (x : Option (ρ × Sg)) (f : ρ → Sg → Option β) : Option β := match x with
  | none => none
  | some (r, s) => f r s
def inb (i : Int32) (n : Nat) : Bool := decide (0 ≤ i.toInt) && decide (i.toInt < (n : Int))
def isb (v : Int32) : Bool := decide (v = 0) || decide (v = 1)
def nz (v : Int32) : Bool := !decide (v = 0)
def nzl (v : Int64) : Bool := !decide (v = 0)
def irm (a b : Int32) : Int32 := a - a / b * b
def lrm (a b : Int64) : Int64 := a - a / b * b
def shl (a b : Int32) : Int32 := a <<< (b &&& 31)
def shr (a b : Int32) : Int32 := a >>> (b &&& 31)
def ius (x y : Int32) : Int32 := (x.toUInt32 >>> (y.toUInt32 &&& Int32.toUInt32 31)).toInt32
def lus (x : Int64) (y : Int32) : Int64 := (x.toUInt64 >>> (y.toInt64.toUInt64 &&& Int64.toUInt64 63)).toInt64
def lsl (x : Int64) (y : Int32) : Int64 := x <<< (y.toInt64 &&& 63)
def lsr (x : Int64) (y : Int32) : Int64 := x >>> (y.toInt64 &&& 63)
def mx (x y : Int32) : Int32 := if x < y then y else x
def mn (x y : Int32) : Int32 := if y < x then y else x
def rd (f : Nat → Int32) (i : Int32) : Int32 := f i.toNatClampNeg
def acOk (sp dp n : Int32) (n0 n1 : Nat) : Bool := !decide (sp < 0) && !decide (dp < 0) && !decide (n < 0) && decide (sp.toNatClampNeg + n.toNatClampNeg ≤ n0) && decide (dp.toNatClampNeg + n.toNatClampNeg ≤ n1)
theorem fu_ex : ∃ n : Nat, 5000 ≤ n := ⟨5000, Nat.le_refl _⟩
noncomputable def fuN : Nat := Classical.choose fu_ex
theorem fu_le : 5000 ≤ fuN := Classical.choose_spec fu_ex
def rowOk (v : Int32) : Bool := decide (44 ≤ v.toNatClampNeg) && decide (v.toNatClampNeg < 62)
def capC (k : Nat) : Nat := if k < 64 then 60 else if k < 66 then 24 else if k < 75 then 60 else if k < 76 then 30 else 24
