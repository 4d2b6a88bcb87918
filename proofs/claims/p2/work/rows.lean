section
/-! THE PURE PICTURE: a state is a function: object number, place -> int. A world lays it into the heap. -/
abbrev Sg : Type := Nat → Nat → Int32
def up (σ : Sg) (k i : Nat) (v : Int32) : Sg := fun k' => if k' = k then upd (σ k) i v else σ k'
def upR (σ : Sg) (k : Nat) (f : Nat → Int32) : Sg := fun k' => if k' = k then f else σ k'
def tbl (l : List Int32) (i : Int32) : Int32 := l.getD i.toNatClampNeg 0
abbrev lK : List Int32 := [-1, 0, 0, 0, 1, 2, 0]
abbrev lN_ : List Int32 := [98, 109, 112, 102, 100, 119]
abbrev lB : List Int32 := [10, 20, 0, 0, 50, 0, 70, 11, 0, 30, 0, 0, 60, 71, 12, 0, 0, 40, 51, 0, 0, 13, 21, 0, 0, 0, 0, 0]
/-! pure words -/
def lt {α β : Type} (v : α) (f : α → Option β) : Option β := f v
def ckb {β : Type} (b : Bool) (x : Option β) : Option β := if b = true then x else none
def bnd {ρ β : Type} (x : Option (ρ × Sg)) (f : ρ → Sg → Option β) : Option β := match x with
  | none => none
  | some (r, s) => f r s
def inb (i : Int32) (n : Nat) : Bool := decide (0 ≤ i.toInt) && decide (i.toInt < (n : Int))
def isb (v : Int32) : Bool := decide (v = 0) || decide (v = 1)
def nz (v : Int32) : Bool := !decide (v = 0)
def nzl (v : Int64) : Bool := !decide (v = 0)
def irm (a b : Int32) : Int32 := a - a / b * b
def lrm (a b : Int64) : Int64 := a - a / b * b
def shl (a b : Int32) : Int32 := a <<< (b &&& 31)
def shr (a b : Int32) : Int32 := a >>> (b &&& 31)
def ius (x y : Int32) : Int32 := (x.toUInt32 >>> (y.toUInt32 &&& Int32.toUInt32 31)).toInt32
def lus (x : Int64) (y : Int32) : Int64 := (x.toUInt64 >>> (y.toInt64.toUInt64 &&& Int64.toUInt64 63)).toInt64
def lsl (x : Int64) (y : Int32) : Int64 := x <<< (y.toInt64 &&& 63)
def lsr (x : Int64) (y : Int32) : Int64 := x >>> (y.toInt64 &&& 63)
def mx (x y : Int32) : Int32 := if x < y then y else x
def mn (x y : Int32) : Int32 := if y < x then y else x
def rd (f : Nat → Int32) (i : Int32) : Int32 := f i.toNatClampNeg
def acOk (sp dp n : Int32) (n0 n1 : Nat) : Bool := !decide (sp < 0) && !decide (dp < 0) && !decide (n < 0) && decide (sp.toNatClampNeg + n.toNatClampNeg ≤ n0) && decide (dp.toNatClampNeg + n.toNatClampNeg ≤ n1)
theorem fu_ex : ∃ n : Nat, 5000 ≤ n := ⟨5000, Nat.le_refl _⟩
noncomputable def fuN : Nat := Classical.choose fu_ex
theorem fu_le : 5000 ≤ fuN := Classical.choose_spec fu_ex
def rowOk (v : Int32) : Bool := decide (44 ≤ v.toNatClampNeg) && decide (v.toNatClampNeg < 62)
def capC (k : Nat) : Nat := if k < 64 then 60 else if k < 66 then 24 else if k < 75 then 60 else if k < 76 then 30 else 24
end
section
noncomputable section
def f_J6_bitCount_0f7a4 (a0 : Int32) (σ : Sg) : Option (Int32 × Sg) :=
  lt ((a0 - ((ius a0 (1 : Int32)) &&& (1431655765 : Int32)))) (fun v1 => lt (((v1 &&& (858993459 : Int32)) + ((ius v1 (2 : Int32)) &&& (858993459 : Int32)))) (fun v2 => lt (((v2 + (ius v2 (4 : Int32))) &&& (252645135 : Int32))) (fun v3 => lt ((v3 + (ius v3 (8 : Int32)))) (fun v4 => lt ((v4 + (ius v4 (16 : Int32)))) (fun v5 => some ((v5 &&& (63 : Int32)), σ))))))
def f_X2_begin (o0 : Nat) (a1 : Int32) (a2 : Int32) (a3 : Int32) (a4 : Int32) (a5 : Int32) (σ : Sg) : Option (Unit × Sg) :=
  lt (up σ o0 0 a1) (fun s1 => lt (up s1 o0 1 a2) (fun s2 => lt (up s2 o0 2 a3) (fun s3 => lt (up s3 o0 3 a4) (fun s4 => lt (up s4 o0 4 a5) (fun s5 => lt (up s5 o0 5 (0 : Int32)) (fun s6 => lt (up s6 o0 6 (0 : Int32)) (fun s7 => some ((), s7))))))))
def f_X0_addLine (a1 : Int32) (a2 : Int32) (a3 : Int32) (a4 : Int32) (σ : Sg) : Option (Int32 × Sg) :=
  if (σ 1 1) < (10 : Int32) then ckb (inb (σ 1 1) 10) (lt (20 + (σ 1 1).toNatClampNeg) (fun p1 => bnd (f_X2_begin p1 a1 a2 a3 a4 (σ 1 2) σ) (fun _ s2 => lt (up s2 1 1 ((s2 1 1) + (1 : Int32))) (fun s4 => some (((s4 1 1) - (1 : Int32)), s4))))) else some ((σ 1 1), σ)
def f_X0_columnsOf_4_b  (rec4 : Int32 → Int32 → Int32 → Sg → Option (Int32 × Sg)) (a1 : Int32) (a2 : Int32) (a3 : Int32) (σ : Sg) : Option (Int32 × Sg) :=
  if (σ 1 1) ≤ a3 then some (a2, σ) else ckb (inb a3 10) (lt (20 + a3.toNatClampNeg) (fun p1 => if (σ p1 6) = 0 then ckb (inb a3 10) (lt (20 + a3.toNatClampNeg) (fun p3 => if (σ p3 3) = a1 then ckb (inb a3 10) (lt (20 + a3.toNatClampNeg) (fun p5 => lt ((a2 ||| (σ p5 2))) (fun v6 => lt (a3 + (1 : Int32)) (fun v7 => rec4 a1 v6 v7 σ)))) else lt (a3 + (1 : Int32)) (fun v4 => rec4 a1 a2 v4 σ))) else lt (a3 + (1 : Int32)) (fun v2 => rec4 a1 a2 v2 σ)))
def f_X0_columnsOf_4  : Nat → Int32 → Int32 → Int32 → Sg → Option (Int32 × Sg)
  | 0 => fun _ _ _ _ => none
  | n + 1 => f_X0_columnsOf_4_b   (f_X0_columnsOf_4   n)
def f_X0_columnsOf (a1 : Int32) (σ : Sg) : Option (Int32 × Sg) :=
  f_X0_columnsOf_4 fuN a1 (0 : Int32) (0 : Int32) σ
def f_X2_copyFrom (o0 : Nat) (o1 : Nat) (σ : Sg) : Option (Unit × Sg) :=
  bnd (f_X2_begin o0 (σ o1 0) (σ o1 1) (σ o1 2) (σ o1 3) (σ o1 4) σ) (fun _ s1 => lt (up s1 o0 5 (s1 o1 5)) (fun s3 => ckb (isb (s3 o1 6)) (lt (up s3 o0 6 (s3 o1 6)) (fun s4 => some ((), s4)))))
def f_X6_clear (o0 : Nat) (σ : Sg) : Option (Unit × Sg) :=
  lt (up σ o0 1 (0 : Int32)) (fun s1 => some ((), s1))
def f_X6_add (o0 : Nat) (a1 : Int32) (σ : Sg) : Option (Unit × Sg) :=
  if (Int32.ofNat (capC (o0 + 18))) ≤ (σ o0 1) then some ((), σ) else ckb (inb (σ o0 1) (capC (o0 + 18))) (lt (up σ (o0 + 18) (σ o0 1).toNatClampNeg a1) (fun s1 => lt (up s1 o0 1 ((s1 o0 1) + (1 : Int32))) (fun s2 => some ((), s2))))
def f_X6_copyFrom_6_b  (rec6 : Nat → Nat → Int32 → Sg → Option (Unit × Sg)) (o0 : Nat) (o1 : Nat) (a2 : Int32) (σ : Sg) : Option (Unit × Sg) :=
  if (σ o1 1) ≤ a2 then some ((), σ) else ckb (inb a2 (capC (o1 + 18))) (bnd (f_X6_add o0 (rd (σ (o1 + 18)) a2) σ) (fun _ s1 => lt (a2 + (1 : Int32)) (fun v3 => rec6 o0 o1 v3 s1)))
def f_X6_copyFrom_6  : Nat → Nat → Nat → Int32 → Sg → Option (Unit × Sg)
  | 0 => fun _ _ _ _ => none
  | n + 1 => f_X6_copyFrom_6_b   (f_X6_copyFrom_6   n)
def f_X6_copyFrom (o0 : Nat) (o1 : Nat) (σ : Sg) : Option (Unit × Sg) :=
  bnd (f_X6_clear o0 σ) (fun _ s4 => f_X6_copyFrom_6 fuN o0 o1 (0 : Int32) s4)
def f_X1_copyFrom (o0 : Nat) (o1 : Nat) (σ : Sg) : Option (Unit × Sg) :=
  bnd (f_X6_copyFrom (o0 + 8) (o1 + 8) σ) (fun _ s1 => ckb (isb (s1 o1 0)) (lt (up s1 o0 0 (s1 o1 0)) (fun s3 => some ((), s3))))
def f_X0_copyFrom_107_b  (rec107 : Nat → Nat → Int32 → Sg → Option (Unit × Sg)) (o0 : Nat) (o1 : Nat) (a2 : Int32) (σ : Sg) : Option (Unit × Sg) :=
  if (2 : Int32) ≤ a2 then some ((), σ) else ckb (inb a2 2) (lt ((2 * (o0 + 17) + 4) + a2.toNatClampNeg) (fun p1 => ckb (inb a2 2) (lt ((2 * (o1 + 17) + 4) + a2.toNatClampNeg) (fun p2 => bnd (f_X1_copyFrom p1 p2 σ) (fun _ s3 => lt (a2 + (1 : Int32)) (fun v5 => rec107 o0 o1 v5 s3))))))
def f_X0_copyFrom_107  : Nat → Nat → Nat → Int32 → Sg → Option (Unit × Sg)
  | 0 => fun _ _ _ _ => none
  | n + 1 => f_X0_copyFrom_107_b   (f_X0_copyFrom_107   n)
def f_X0_copyFrom_10_b  (rec10 : Nat → Nat → Int32 → Sg → Option (Unit × Sg)) (o0 : Nat) (o1 : Nat) (a2 : Int32) (σ : Sg) : Option (Unit × Sg) :=
  if (10 : Int32) ≤ a2 then lt (up σ o0 2 (σ o1 2)) (fun s6 => lt (up s6 o0 3 (s6 o1 3)) (fun s7 => lt (up s7 o0 4 (s7 o1 4)) (fun s8 => ckb (acOk (0 : Int32) (0 : Int32) (5 : Int32) 5 5) (lt (upR s8 (o0 + 15) (va_cpy (s8 (o1 + 15)) (s8 (o0 + 15)) (0 : Int32).toNatClampNeg (0 : Int32).toNatClampNeg (5 : Int32).toNatClampNeg)) (fun s9 => lt (up s9 o0 6 (s9 o1 6)) (fun s10 => bnd (f_X6_copyFrom (o0 + 43) (o1 + 43) s10) (fun _ s11 => bnd (f_X6_copyFrom (o0 + 45) (o1 + 45) s11) (fun _ s13 => f_X0_copyFrom_107 fuN o0 o1 (0 : Int32) s13)))))))) else ckb (inb a2 10) (lt ((10 * (o0 + 13) - 120) + a2.toNatClampNeg) (fun p15 => ckb (inb a2 10) (lt ((10 * (o1 + 13) - 120) + a2.toNatClampNeg) (fun p16 => bnd (f_X2_copyFrom p15 p16 σ) (fun _ s17 => lt (a2 + (1 : Int32)) (fun v19 => rec10 o0 o1 v19 s17))))))
def f_X0_copyFrom_10  : Nat → Nat → Nat → Int32 → Sg → Option (Unit × Sg)
  | 0 => fun _ _ _ _ => none
  | n + 1 => f_X0_copyFrom_10_b   (f_X0_copyFrom_10   n)
def f_X0_copyFrom (o0 : Nat) (o1 : Nat) (σ : Sg) : Option (Unit × Sg) :=
  lt (up σ o0 1 (σ o1 1)) (fun s20 => f_X0_copyFrom_10 fuN o0 o1 (0 : Int32) s20)
def f_X0_draw  (σ : Sg) : Option (Int32 × Sg) :=
  lt (up σ 1 6 (((σ 1 6) * (1103515245 : Int32)) + (12345 : Int32))) (fun s1 => some ((ius (s1 1 6) (8 : Int32)), s1))
def f_X0_hasLine (a1 : Int32) (σ : Sg) : Option (Int32 × Sg) :=
  if a1 < 0 then some ((0 : Int32), σ) else if (σ 1 1) ≤ a1 then some ((0 : Int32), σ) else some ((1 : Int32), σ)
def f_X1_pop (o0 : Nat) (σ : Sg) : Option (Int32 × Sg) :=
  if (σ (o0 + 12) 1) = 0 then some ((0 : Int32), σ) else lt (up σ (o0 + 12) 1 ((σ (o0 + 12) 1) - (1 : Int32))) (fun s1 => ckb (inb (s1 (o0 + 12) 1) (capC ((o0 + 12) + 18))) (some ((rd (s1 ((o0 + 12) + 18)) (s1 (o0 + 12) 1)), s1)))
def f_X1_join (a0 : Int32) (a1 : Int32) (a2 : Int32) (σ : Sg) : Option (Int32 × Sg) :=
  if a1 = (37 : Int32) then if a2 = 0 then some ((0 : Int32), σ) else ckb (nz a2) (some ((irm a0 a2), σ)) else if a1 = (38 : Int32) then if a0 = 0 then some ((0 : Int32), σ) else if a2 = 0 then some ((0 : Int32), σ) else some ((1 : Int32), σ) else if a1 = (42 : Int32) then some ((a0 * a2), σ) else if a1 = (43 : Int32) then some ((a0 + a2), σ) else if a1 = (45 : Int32) then some ((a0 - a2), σ) else if a1 = (47 : Int32) then if a2 = 0 then some ((0 : Int32), σ) else ckb (nz a2) (some ((a0 / a2), σ)) else if a1 = (60 : Int32) then if a2 ≤ a0 then some ((0 : Int32), σ) else some ((1 : Int32), σ) else if a1 = (61 : Int32) then if a0 = a2 then some ((1 : Int32), σ) else some ((0 : Int32), σ) else if a1 = (62 : Int32) then if a0 ≤ a2 then some ((0 : Int32), σ) else some ((1 : Int32), σ) else if a1 = (124 : Int32) then if a0 = 0 then if a2 = 0 then some ((0 : Int32), σ) else some ((1 : Int32), σ) else some ((1 : Int32), σ) else some ((0 : Int32), σ)
def f_X1_workOut_10_b  (rec10 : Nat → Int32 → Int32 → Int32 → Int32 → Sg → Option (Int32 × Sg)) (o0 : Nat) (a1 : Int32) (a2 : Int32) (a3 : Int32) (a4 : Int32) (σ : Sg) : Option (Int32 × Sg) :=
  if (σ (o0 + 8) 1) ≤ a4 then bnd (f_X1_pop o0 σ) (fun r2 s1 => some (r2, s1)) else ckb (inb a4 (capC ((o0 + 8) + 18))) (lt ((rd (σ ((o0 + 8) + 18)) a4)) (fun v3 => if v3 = (-33 : Int32) then bnd (f_X1_pop o0 σ) (fun r6 s5 => if r6 = 0 then bnd (f_X6_add (o0 + 12) (1 : Int32) s5) (fun _ s10 => lt (a4 + (1 : Int32)) (fun v12 => rec10 o0 a1 a2 a3 v12 s10)) else bnd (f_X6_add (o0 + 12) (0 : Int32) s5) (fun _ s7 => lt (a4 + (1 : Int32)) (fun v9 => rec10 o0 a1 a2 a3 v9 s7))) else if v3 = (-3 : Int32) then bnd (f_X6_add (o0 + 12) a3 σ) (fun _ s14 => lt (a4 + (1 : Int32)) (fun v16 => rec10 o0 a1 a2 a3 v16 s14)) else if v3 = (-2 : Int32) then bnd (f_X6_add (o0 + 12) a2 σ) (fun _ s18 => lt (a4 + (1 : Int32)) (fun v20 => rec10 o0 a1 a2 a3 v20 s18)) else if v3 = (-1 : Int32) then bnd (f_X6_add (o0 + 12) a1 σ) (fun _ s22 => lt (a4 + (1 : Int32)) (fun v24 => rec10 o0 a1 a2 a3 v24 s22)) else if v3 < 0 then bnd (f_X1_pop o0 σ) (fun r26 s25 => bnd (f_X1_pop o0 s25) (fun r28 s27 => bnd (f_X1_join r28 (-v3) r26 s27) (fun r30 s29 => bnd (f_X6_add (o0 + 12) r30 s29) (fun _ s31 => lt (a4 + (1 : Int32)) (fun v33 => rec10 o0 a1 a2 a3 v33 s31))))) else bnd (f_X6_add (o0 + 12) v3 σ) (fun _ s34 => lt (a4 + (1 : Int32)) (fun v36 => rec10 o0 a1 a2 a3 v36 s34))))
def f_X1_workOut_10  : Nat → Nat → Int32 → Int32 → Int32 → Int32 → Sg → Option (Int32 × Sg)
  | 0 => fun _ _ _ _ _ _ => none
  | n + 1 => f_X1_workOut_10_b   (f_X1_workOut_10   n)
def f_X1_workOut (o0 : Nat) (a1 : Int32) (a2 : Int32) (a3 : Int32) (σ : Sg) : Option (Int32 × Sg) :=
  bnd (f_X6_clear (o0 + 12) σ) (fun _ s37 => f_X1_workOut_10 fuN o0 a1 a2 a3 (0 : Int32) s37)
def f_X9_held (a0 : Int32) (a1 : Int32) (σ : Sg) : Option (Int32 × Sg) :=
  some ((mx (0 : Int32) (mn a0 a1)), σ)
def f_X0_lawGives_47  (t0 : Int32) (σ : Sg) : Option (Int32 × Sg) :=
  bnd (f_X9_held t0 (999 : Int32) σ) (fun r2 s1 => some (r2, s1))
def f_X0_lawGives (a1 : Int32) (a2 : Int32) (a3 : Int32) (a4 : Int32) (σ : Sg) : Option (Int32 × Sg) :=
  ckb (inb a1 2) (lt (40 + a1.toNatClampNeg) (fun p3 => if (σ p3 0) = 0 then if a1 = 0 then if a4 = (1 : Int32) then f_X0_lawGives_47 (a2 / (2 : Int32)) σ else f_X0_lawGives_47 a2 σ else lt (((10 : Int32) * a2)) (fun v4 => bnd (f_X9_held v4 (999 : Int32) σ) (fun r6 s5 => some (r6, s5))) else ckb (inb a1 2) (lt (40 + a1.toNatClampNeg) (fun p7 => bnd (f_X1_workOut p7 a2 a3 a4 σ) (fun r9 s8 => bnd (f_X9_held r9 (999 : Int32) s8) (fun r11 s10 => some (r11, s10)))))))
def f_X0_linesOn_4_b  (rec4 : Int32 → Int32 → Int32 → Sg → Option (Int32 × Sg)) (a1 : Int32) (a2 : Int32) (a3 : Int32) (σ : Sg) : Option (Int32 × Sg) :=
  if (σ 1 1) ≤ a3 then some (a2, σ) else ckb (inb a3 10) (lt (20 + a3.toNatClampNeg) (fun p1 => if (σ p1 6) = 0 then ckb (inb a3 10) (lt (20 + a3.toNatClampNeg) (fun p3 => if ((σ p3 2) &&& a1) = 0 then lt (a3 + (1 : Int32)) (fun v4 => rec4 a1 a2 v4 σ) else lt ((a2 ||| (shl (1 : Int32) a3))) (fun v5 => lt (a3 + (1 : Int32)) (fun v6 => rec4 a1 v5 v6 σ)))) else lt (a3 + (1 : Int32)) (fun v2 => rec4 a1 a2 v2 σ)))
def f_X0_linesOn_4  : Nat → Int32 → Int32 → Int32 → Sg → Option (Int32 × Sg)
  | 0 => fun _ _ _ _ => none
  | n + 1 => f_X0_linesOn_4_b   (f_X0_linesOn_4   n)
def f_X0_linesOn (a1 : Int32) (σ : Sg) : Option (Int32 × Sg) :=
  f_X0_linesOn_4 fuN a1 (0 : Int32) (0 : Int32) σ
def f_X2_back (o0 : Nat) (a1 : Int32) (σ : Sg) : Option (Int32 × Sg) :=
  lt (((mx (0 : Int32) ((50 : Int32) - ((5 : Int32) * (a1 - (σ o0 4))))) + (σ o0 1))) (fun v1 => lt ((σ o0 0)) (fun v2 => if v2 = (1 : Int32) then bnd (f_X9_held (v1 + (20 : Int32)) (100 : Int32) σ) (fun r5 s4 => some (r5, s4)) else if v2 = (2 : Int32) then bnd (f_X9_held (v1 / (2 : Int32)) (100 : Int32) σ) (fun r8 s7 => some (r8, s7)) else if v2 = (3 : Int32) then bnd (f_X9_held (v1 + ((20 : Int32) * (σ o0 5))) (100 : Int32) σ) (fun r11 s10 => some (r11, s10)) else if v2 = (4 : Int32) then bnd (f_X9_held (v1 + (40 : Int32)) (100 : Int32) σ) (fun r14 s13 => some (r14, s13)) else if v2 = (5 : Int32) then bnd (f_X9_held ((v1 / (2 : Int32)) - (σ o0 1)) (100 : Int32) σ) (fun r17 s16 => some (r17, s16)) else if v2 = (6 : Int32) then bnd (f_X9_held (v1 + (5 : Int32)) (100 : Int32) σ) (fun r20 s19 => some (r20, s19)) else bnd (f_X9_held v1 (100 : Int32) σ) (fun r22 s21 => some (r22, s21))))
def f_X0_lossOf (a1 : Int32) (a2 : Int32) (σ : Sg) : Option (Int32 × Sg) :=
  ckb (inb a1 10) (lt (20 + a1.toNatClampNeg) (fun p1 => bnd (f_X2_back p1 a2 σ) (fun r3 s2 => ckb (inb a1 10) (lt (20 + a1.toNatClampNeg) (fun p4 => ckb (inb a1 10) (lt (20 + a1.toNatClampNeg) (fun p5 => bnd (f_X0_lawGives (0 : Int32) r3 (s2 p4 1) (s2 p5 5) s2) (fun r7 s6 => some (r7, s6)))))))))
def f_X2_ripeAge (o0 : Nat) (a1 : Int32) (σ : Sg) : Option (Int32 × Sg) :=
  lt ((σ o0 0)) (fun v1 => if v1 = (1 : Int32) then some ((mx (7 : Int32) ((7 : Int32) * (σ o0 1))), σ) else if v1 = (2 : Int32) then some ((1 : Int32), σ) else if v1 = (3 : Int32) then some ((7 : Int32), σ) else if v1 = (4 : Int32) then if (σ o0 1) = 0 then some ((7 : Int32), σ) else some ((1000000 : Int32), σ) else if v1 = (5 : Int32) then some ((mx (1 : Int32) (σ o0 1)), σ) else if v1 = (6 : Int32) then if a1 = (1 : Int32) then some ((7 : Int32), σ) else some ((1000000 : Int32), σ) else some ((7 : Int32), σ))
def f_X2_goesBehind (o0 : Nat) (a1 : Int32) (a2 : Int32) (σ : Sg) : Option (Int32 × Sg) :=
  bnd (f_X2_ripeAge o0 a2 σ) (fun r2 s1 => if (s1 o0 6) = 0 then if r2 = (1000000 : Int32) then some ((1000000 : Int32), s1) else some ((mx (0 : Int32) (r2 - (a1 - (s1 o0 4)))), s1) else some ((1000000 : Int32), s1))
def f_X0_mayGo (a1 : Int32) (a2 : Int32) (σ : Sg) : Option (Int32 × Sg) :=
  ckb (inb a1 10) (lt (20 + a1.toNatClampNeg) (fun p1 => bnd (f_X2_goesBehind p1 a2 (σ 1 3) σ) (fun r3 s2 => if r3 = 0 then some ((1 : Int32), s2) else some ((0 : Int32), s2))))
def f_X0_passDay_2_b  (rec2 : Int32 → Sg → Option (Unit × Sg)) (a1 : Int32) (σ : Sg) : Option (Unit × Sg) :=
  if (5 : Int32) ≤ a1 then lt (up σ 1 2 ((σ 1 2) + (1 : Int32))) (fun s1 => some ((), s1)) else ckb (nz (a1 + (2 : Int32))) (if (irm (σ 1 2) (a1 + (2 : Int32))) = 0 then ckb (inb a1 5) (ckb (inb a1 5) (lt (up σ 16 a1.toNatClampNeg (mx (0 : Int32) ((rd (σ 16) a1) - (1 : Int32)))) (fun s4 => lt (a1 + (1 : Int32)) (fun v5 => rec2 v5 s4)))) else lt (a1 + (1 : Int32)) (fun v3 => rec2 v3 σ))
def f_X0_passDay_2  : Nat → Int32 → Sg → Option (Unit × Sg)
  | 0 => fun _ _ => none
  | n + 1 => f_X0_passDay_2_b   (f_X0_passDay_2   n)
def f_X0_passDay  (σ : Sg) : Option (Unit × Sg) :=
  f_X0_passDay_2 fuN (0 : Int32) σ
def f_X0_wipeLine (a1 : Int32) (σ : Sg) : Option (Int32 × Sg) :=
  bnd (f_X0_lossOf a1 (σ 1 2) σ) (fun r2 s1 => ckb (inb a1 10) (lt (20 + a1.toNatClampNeg) (fun p3 => lt (up s1 p3 6 (1 : Int32)) (fun s4 => lt (up s4 1 4 (mn (99999 : Int32) ((s4 1 4) + r2))) (fun s5 => some (r2, s5))))))
def f_X0_takenBehind_4_b  (rec4 : Int32 → Int32 → Int32 → Sg → Option (Int32 × Sg)) (a1 : Int32) (a2 : Int32) (a3 : Int32) (σ : Sg) : Option (Int32 × Sg) :=
  if (σ 1 1) ≤ a3 then some (a2, σ) else ckb (inb a3 10) (lt (20 + a3.toNatClampNeg) (fun p1 => if (σ p1 6) = 0 then ckb (inb a3 10) (lt (20 + a3.toNatClampNeg) (fun p3 => bnd (f_X2_goesBehind p3 (σ 1 2) (σ 1 3) σ) (fun r5 s4 => if r5 < a1 then lt (a3 + (1 : Int32)) (fun v6 => rec4 a1 a2 v6 s4) else ckb (inb a3 10) (lt (20 + a3.toNatClampNeg) (fun p7 => lt ((a2 ||| (s4 p7 2))) (fun v8 => lt (a3 + (1 : Int32)) (fun v9 => rec4 a1 v8 v9 s4))))))) else lt (a3 + (1 : Int32)) (fun v2 => rec4 a1 a2 v2 σ)))
def f_X0_takenBehind_4  : Nat → Int32 → Int32 → Int32 → Sg → Option (Int32 × Sg)
  | 0 => fun _ _ _ _ => none
  | n + 1 => f_X0_takenBehind_4_b   (f_X0_takenBehind_4   n)
def f_X0_takenBehind (a1 : Int32) (σ : Sg) : Option (Int32 × Sg) :=
  f_X0_takenBehind_4 fuN a1 (0 : Int32) (0 : Int32) σ
def f_X0_taken  (σ : Sg) : Option (Int32 × Sg) :=
  bnd (f_X0_takenBehind (0 : Int32) σ) (fun r2 s1 => some (r2, s1))
def f_X9_isOf (a0 : Int32) (a1 : Int32) (σ : Sg) : Option (Int32 × Sg) :=
  if ((shr a1 a0) &&& (1 : Int32)) = 0 then some ((0 : Int32), σ) else some ((1 : Int32), σ)
def f_X0_passDayByDraws_39  (a1 : Int32) (σ : Sg) : Option (Int32 × Sg) :=
  bnd (f_X0_draw σ) (fun r2 s1 => lt ((irm r2 (12 : Int32))) (fun v3 => bnd (f_X0_taken s1) (fun r5 s4 => bnd (f_X9_isOf v3 r5 s4) (fun r7 s6 => if r7 = 0 then if (10 : Int32) ≤ (s6 1 1) then bnd (f_X0_passDay s6) (fun _ s10 => some (a1, s10)) else bnd (f_X0_draw s6) (fun r13 s12 => lt ((irm r13 (7 : Int32))) (fun v14 => bnd (f_X0_draw s12) (fun r16 s15 => lt ((irm r16 (6 : Int32))) (fun v17 => bnd (f_X0_addLine v14 (0 : Int32) (shl (1 : Int32) v3) v17 s15) (fun r19 s18 => bnd (f_X0_passDay s18) (fun _ s20 => some (a1, s20))))))) else bnd (f_X0_passDay s6) (fun _ s8 => some (a1, s8))))))
def f_X0_passDayByDraws  (σ : Sg) : Option (Int32 × Sg) :=
  if (σ 1 1) ≤ 0 then f_X0_passDayByDraws_39 (0 : Int32) σ else bnd (f_X0_draw σ) (fun r23 s22 => ckb (nz (s22 1 1)) (lt ((irm r23 (s22 1 1))) (fun v25 => bnd (f_X0_mayGo v25 (s22 1 2) s22) (fun r27 s26 => if r27 = 0 then f_X0_passDayByDraws_39 (0 : Int32) s26 else bnd (f_X0_wipeLine v25 s26) (fun r29 s28 => f_X0_passDayByDraws_39 (1 : Int32) s28)))))
def f_X10_look  (σ : Sg) : Option (Int32 × Sg) :=
  ckb (inb (5 : Int32) 408) (if (rd (σ 1) (5 : Int32)) ≤ (σ 0 13) then some ((-1 : Int32), σ) else ckb (inb ((82 : Int32) + (σ 0 13)) 408) (some ((rd (σ 1) ((82 : Int32) + (σ 0 13))), σ)))
def f_X10_step (a1 : Int32) (a2 : Int32) (σ : Sg) : Option (Unit × Sg) :=
  if (Int32.ofNat 60) ≤ (σ 0 12) then some ((), σ) else ckb (inb (σ 0 12) 60) (lt (up σ 8 (σ 0 12).toNatClampNeg a1) (fun s1 => ckb (inb (s1 0 12) 60) (lt (up s1 9 (s1 0 12).toNatClampNeg a2) (fun s2 => lt (up s2 0 12 ((s2 0 12) + (1 : Int32))) (fun s3 => some ((), s3))))))
def f_X10_nameOf_60  (a1 : Int32) (σ : Sg) : Option (Int32 × Sg) :=
  if (σ 0 16) = 0 then if a1 = (98 : Int32) then some ((0 : Int32), σ) else if a1 = (109 : Int32) then some ((1 : Int32), σ) else some ((2 : Int32), σ) else some ((-1 : Int32), σ)
def f_X10_nameOf_93  (a1 : Int32) (σ : Sg) : Option (Int32 × Sg) :=
  if (σ 0 16) = (1 : Int32) then if a1 = (102 : Int32) then some ((0 : Int32), σ) else if a1 = (100 : Int32) then some ((1 : Int32), σ) else some ((2 : Int32), σ) else some ((-1 : Int32), σ)
def f_X10_nameOf (a1 : Int32) (σ : Sg) : Option (Int32 × Sg) :=
  if a1 = (98 : Int32) then f_X10_nameOf_60 a1 σ else if a1 = (100 : Int32) then f_X10_nameOf_93 a1 σ else if a1 = (102 : Int32) then f_X10_nameOf_93 a1 σ else if a1 = (109 : Int32) then f_X10_nameOf_60 a1 σ else if a1 = (112 : Int32) then f_X10_nameOf_60 a1 σ else if a1 = (119 : Int32) then f_X10_nameOf_93 a1 σ else some ((-1 : Int32), σ)
def f_X10_in (a0 : Int32) (a1 : Int32) (a2 : Int32) (σ : Sg) : Option (Int32 × Sg) :=
  if a0 < a1 then some ((0 : Int32), σ) else if a2 < a0 then some ((0 : Int32), σ) else some ((1 : Int32), σ)
def f_X10_number_62  (a1 : Int32) (t0 : Int32) (σ : Sg) : Option (Unit × Sg) :=
  ckb (isb t0) (lt (up σ 0 15 t0) (fun s1 => bnd (f_X10_step (1 : Int32) a1 s1) (fun _ s3 => some ((), s3))))
def f_X10_number_4_b  (rec4 : Int32 → Int32 → Sg → Option (Unit × Sg)) (a1 : Int32) (a2 : Int32) (σ : Sg) : Option (Unit × Sg) :=
  if (4 : Int32) ≤ a2 then if a2 = 0 then f_X10_number_62 a1 (1 : Int32) σ else f_X10_number_62 a1 (0 : Int32) σ else bnd (f_X10_look σ) (fun r6 s5 => bnd (f_X10_in r6 (48 : Int32) (57 : Int32) s5) (fun r8 s7 => if r8 = 0 then if a2 = 0 then f_X10_number_62 a1 (1 : Int32) s7 else f_X10_number_62 a1 (0 : Int32) s7 else bnd (f_X10_look s7) (fun r10 s9 => lt (((((10 : Int32) * a1) + r10) - (48 : Int32))) (fun v11 => lt (up s9 0 13 ((s9 0 13) + (1 : Int32))) (fun s12 => lt (a2 + (1 : Int32)) (fun v13 => rec4 v11 v13 s12))))))
def f_X10_number_4  : Nat → Int32 → Int32 → Sg → Option (Unit × Sg)
  | 0 => fun _ _ _ => none
  | n + 1 => f_X10_number_4_b   (f_X10_number_4   n)
def f_X10_number  (σ : Sg) : Option (Unit × Sg) :=
  f_X10_number_4 fuN (0 : Int32) (0 : Int32) σ
def f_X10_any_4_b (g_X10_any : Sg → Option (Unit × Sg)) (g_X10_all : Sg → Option (Unit × Sg)) (g_X10_compares : Sg → Option (Unit × Sg)) (g_X10_sum : Sg → Option (Unit × Sg)) (g_X10_times : Sg → Option (Unit × Sg)) (g_X10_one : Sg → Option (Unit × Sg)) (g_X10_opens : Int32 → Sg → Option (Unit × Sg))  (rec4 : Sg → Option (Unit × Sg))  (σ : Sg) : Option (Unit × Sg) :=
  if (σ 0 15) = 0 then bnd (f_X10_look σ) (fun r2 s1 => if r2 = (124 : Int32) then lt (up s1 0 13 ((s1 0 13) + (1 : Int32))) (fun s3 => bnd (g_X10_all s3) (fun _ s4 => bnd (f_X10_step (124 : Int32) (0 : Int32) s4) (fun _ s6 => rec4 s6))) else some ((), s1)) else some ((), σ)
def f_X10_any_4 (g_X10_any : Sg → Option (Unit × Sg)) (g_X10_all : Sg → Option (Unit × Sg)) (g_X10_compares : Sg → Option (Unit × Sg)) (g_X10_sum : Sg → Option (Unit × Sg)) (g_X10_times : Sg → Option (Unit × Sg)) (g_X10_one : Sg → Option (Unit × Sg)) (g_X10_opens : Int32 → Sg → Option (Unit × Sg))  : Nat → Sg → Option (Unit × Sg)
  | 0 => fun _ => none
  | n + 1 => f_X10_any_4_b g_X10_any g_X10_all g_X10_compares g_X10_sum g_X10_times g_X10_one g_X10_opens  (f_X10_any_4 g_X10_any g_X10_all g_X10_compares g_X10_sum g_X10_times g_X10_one g_X10_opens  n)
def f_X10_any_e (g_X10_any : Sg → Option (Unit × Sg)) (g_X10_all : Sg → Option (Unit × Sg)) (g_X10_compares : Sg → Option (Unit × Sg)) (g_X10_sum : Sg → Option (Unit × Sg)) (g_X10_times : Sg → Option (Unit × Sg)) (g_X10_one : Sg → Option (Unit × Sg)) (g_X10_opens : Int32 → Sg → Option (Unit × Sg))  (σ : Sg) : Option (Unit × Sg) :=
  bnd (g_X10_all σ) (fun _ s8 => f_X10_any_4 g_X10_any g_X10_all g_X10_compares g_X10_sum g_X10_times g_X10_one g_X10_opens fuN s8)
def f_X10_all_4_b (g_X10_any : Sg → Option (Unit × Sg)) (g_X10_all : Sg → Option (Unit × Sg)) (g_X10_compares : Sg → Option (Unit × Sg)) (g_X10_sum : Sg → Option (Unit × Sg)) (g_X10_times : Sg → Option (Unit × Sg)) (g_X10_one : Sg → Option (Unit × Sg)) (g_X10_opens : Int32 → Sg → Option (Unit × Sg))  (rec4 : Sg → Option (Unit × Sg))  (σ : Sg) : Option (Unit × Sg) :=
  if (σ 0 15) = 0 then bnd (f_X10_look σ) (fun r2 s1 => if r2 = (38 : Int32) then lt (up s1 0 13 ((s1 0 13) + (1 : Int32))) (fun s3 => bnd (g_X10_compares s3) (fun _ s4 => bnd (f_X10_step (38 : Int32) (0 : Int32) s4) (fun _ s6 => rec4 s6))) else some ((), s1)) else some ((), σ)
def f_X10_all_4 (g_X10_any : Sg → Option (Unit × Sg)) (g_X10_all : Sg → Option (Unit × Sg)) (g_X10_compares : Sg → Option (Unit × Sg)) (g_X10_sum : Sg → Option (Unit × Sg)) (g_X10_times : Sg → Option (Unit × Sg)) (g_X10_one : Sg → Option (Unit × Sg)) (g_X10_opens : Int32 → Sg → Option (Unit × Sg))  : Nat → Sg → Option (Unit × Sg)
  | 0 => fun _ => none
  | n + 1 => f_X10_all_4_b g_X10_any g_X10_all g_X10_compares g_X10_sum g_X10_times g_X10_one g_X10_opens  (f_X10_all_4 g_X10_any g_X10_all g_X10_compares g_X10_sum g_X10_times g_X10_one g_X10_opens  n)
def f_X10_all_e (g_X10_any : Sg → Option (Unit × Sg)) (g_X10_all : Sg → Option (Unit × Sg)) (g_X10_compares : Sg → Option (Unit × Sg)) (g_X10_sum : Sg → Option (Unit × Sg)) (g_X10_times : Sg → Option (Unit × Sg)) (g_X10_one : Sg → Option (Unit × Sg)) (g_X10_opens : Int32 → Sg → Option (Unit × Sg))  (σ : Sg) : Option (Unit × Sg) :=
  bnd (g_X10_compares σ) (fun _ s8 => f_X10_all_4 g_X10_any g_X10_all g_X10_compares g_X10_sum g_X10_times g_X10_one g_X10_opens fuN s8)
def f_X10_compares_34 (g_X10_any : Sg → Option (Unit × Sg)) (g_X10_all : Sg → Option (Unit × Sg)) (g_X10_compares : Sg → Option (Unit × Sg)) (g_X10_sum : Sg → Option (Unit × Sg)) (g_X10_times : Sg → Option (Unit × Sg)) (g_X10_one : Sg → Option (Unit × Sg)) (g_X10_opens : Int32 → Sg → Option (Unit × Sg))  (a1 : Int32) (σ : Sg) : Option (Unit × Sg) :=
  lt (up σ 0 13 ((σ 0 13) + (1 : Int32))) (fun s1 => bnd (g_X10_sum s1) (fun _ s2 => bnd (f_X10_step a1 (0 : Int32) s2) (fun _ s4 => some ((), s4))))
def f_X10_compares_e (g_X10_any : Sg → Option (Unit × Sg)) (g_X10_all : Sg → Option (Unit × Sg)) (g_X10_compares : Sg → Option (Unit × Sg)) (g_X10_sum : Sg → Option (Unit × Sg)) (g_X10_times : Sg → Option (Unit × Sg)) (g_X10_one : Sg → Option (Unit × Sg)) (g_X10_opens : Int32 → Sg → Option (Unit × Sg))  (σ : Sg) : Option (Unit × Sg) :=
  bnd (g_X10_sum σ) (fun _ s6 => bnd (f_X10_look s6) (fun r9 s8 => if (s8 0 15) = 0 then if r9 = (60 : Int32) then f_X10_compares_34 g_X10_any g_X10_all g_X10_compares g_X10_sum g_X10_times g_X10_one g_X10_opens r9 s8 else if r9 = (61 : Int32) then f_X10_compares_34 g_X10_any g_X10_all g_X10_compares g_X10_sum g_X10_times g_X10_one g_X10_opens r9 s8 else if r9 = (62 : Int32) then f_X10_compares_34 g_X10_any g_X10_all g_X10_compares g_X10_sum g_X10_times g_X10_one g_X10_opens r9 s8 else some ((), s8) else some ((), s8)))
def f_X10_sum_29 (g_X10_any : Sg → Option (Unit × Sg)) (g_X10_all : Sg → Option (Unit × Sg)) (g_X10_compares : Sg → Option (Unit × Sg)) (g_X10_sum : Sg → Option (Unit × Sg)) (g_X10_times : Sg → Option (Unit × Sg)) (g_X10_one : Sg → Option (Unit × Sg)) (g_X10_opens : Int32 → Sg → Option (Unit × Sg)) (rec4 : Sg → Option (Unit × Sg))  (σ : Sg) : Option (Unit × Sg) :=
  bnd (f_X10_look σ) (fun r2 s1 => lt (up s1 0 13 ((s1 0 13) + (1 : Int32))) (fun s3 => bnd (g_X10_times s3) (fun _ s4 => bnd (f_X10_step r2 (0 : Int32) s4) (fun _ s6 => rec4 s6))))
def f_X10_sum_4_b (g_X10_any : Sg → Option (Unit × Sg)) (g_X10_all : Sg → Option (Unit × Sg)) (g_X10_compares : Sg → Option (Unit × Sg)) (g_X10_sum : Sg → Option (Unit × Sg)) (g_X10_times : Sg → Option (Unit × Sg)) (g_X10_one : Sg → Option (Unit × Sg)) (g_X10_opens : Int32 → Sg → Option (Unit × Sg))  (rec4 : Sg → Option (Unit × Sg))  (σ : Sg) : Option (Unit × Sg) :=
  if (σ 0 15) = 0 then bnd (f_X10_look σ) (fun r9 s8 => if r9 = (43 : Int32) then f_X10_sum_29 g_X10_any g_X10_all g_X10_compares g_X10_sum g_X10_times g_X10_one g_X10_opens rec4 s8 else bnd (f_X10_look s8) (fun r11 s10 => if r11 = (45 : Int32) then f_X10_sum_29 g_X10_any g_X10_all g_X10_compares g_X10_sum g_X10_times g_X10_one g_X10_opens rec4 s10 else some ((), s10))) else some ((), σ)
def f_X10_sum_4 (g_X10_any : Sg → Option (Unit × Sg)) (g_X10_all : Sg → Option (Unit × Sg)) (g_X10_compares : Sg → Option (Unit × Sg)) (g_X10_sum : Sg → Option (Unit × Sg)) (g_X10_times : Sg → Option (Unit × Sg)) (g_X10_one : Sg → Option (Unit × Sg)) (g_X10_opens : Int32 → Sg → Option (Unit × Sg))  : Nat → Sg → Option (Unit × Sg)
  | 0 => fun _ => none
  | n + 1 => f_X10_sum_4_b g_X10_any g_X10_all g_X10_compares g_X10_sum g_X10_times g_X10_one g_X10_opens  (f_X10_sum_4 g_X10_any g_X10_all g_X10_compares g_X10_sum g_X10_times g_X10_one g_X10_opens  n)
def f_X10_sum_e (g_X10_any : Sg → Option (Unit × Sg)) (g_X10_all : Sg → Option (Unit × Sg)) (g_X10_compares : Sg → Option (Unit × Sg)) (g_X10_sum : Sg → Option (Unit × Sg)) (g_X10_times : Sg → Option (Unit × Sg)) (g_X10_one : Sg → Option (Unit × Sg)) (g_X10_opens : Int32 → Sg → Option (Unit × Sg))  (σ : Sg) : Option (Unit × Sg) :=
  bnd (g_X10_times σ) (fun _ s12 => f_X10_sum_4 g_X10_any g_X10_all g_X10_compares g_X10_sum g_X10_times g_X10_one g_X10_opens fuN s12)
def f_X10_times_38 (g_X10_any : Sg → Option (Unit × Sg)) (g_X10_all : Sg → Option (Unit × Sg)) (g_X10_compares : Sg → Option (Unit × Sg)) (g_X10_sum : Sg → Option (Unit × Sg)) (g_X10_times : Sg → Option (Unit × Sg)) (g_X10_one : Sg → Option (Unit × Sg)) (g_X10_opens : Int32 → Sg → Option (Unit × Sg)) (rec4 : Sg → Option (Unit × Sg))  (σ : Sg) : Option (Unit × Sg) :=
  bnd (f_X10_look σ) (fun r2 s1 => lt (up s1 0 13 ((s1 0 13) + (1 : Int32))) (fun s3 => bnd (g_X10_one s3) (fun _ s4 => bnd (f_X10_step r2 (0 : Int32) s4) (fun _ s6 => rec4 s6))))
def f_X10_times_4_b (g_X10_any : Sg → Option (Unit × Sg)) (g_X10_all : Sg → Option (Unit × Sg)) (g_X10_compares : Sg → Option (Unit × Sg)) (g_X10_sum : Sg → Option (Unit × Sg)) (g_X10_times : Sg → Option (Unit × Sg)) (g_X10_one : Sg → Option (Unit × Sg)) (g_X10_opens : Int32 → Sg → Option (Unit × Sg))  (rec4 : Sg → Option (Unit × Sg))  (σ : Sg) : Option (Unit × Sg) :=
  if (σ 0 15) = 0 then bnd (f_X10_look σ) (fun r9 s8 => if r9 = (42 : Int32) then f_X10_times_38 g_X10_any g_X10_all g_X10_compares g_X10_sum g_X10_times g_X10_one g_X10_opens rec4 s8 else bnd (f_X10_look s8) (fun r11 s10 => if r11 = (47 : Int32) then f_X10_times_38 g_X10_any g_X10_all g_X10_compares g_X10_sum g_X10_times g_X10_one g_X10_opens rec4 s10 else bnd (f_X10_look s10) (fun r13 s12 => if r13 = (37 : Int32) then f_X10_times_38 g_X10_any g_X10_all g_X10_compares g_X10_sum g_X10_times g_X10_one g_X10_opens rec4 s12 else some ((), s12)))) else some ((), σ)
def f_X10_times_4 (g_X10_any : Sg → Option (Unit × Sg)) (g_X10_all : Sg → Option (Unit × Sg)) (g_X10_compares : Sg → Option (Unit × Sg)) (g_X10_sum : Sg → Option (Unit × Sg)) (g_X10_times : Sg → Option (Unit × Sg)) (g_X10_one : Sg → Option (Unit × Sg)) (g_X10_opens : Int32 → Sg → Option (Unit × Sg))  : Nat → Sg → Option (Unit × Sg)
  | 0 => fun _ => none
  | n + 1 => f_X10_times_4_b g_X10_any g_X10_all g_X10_compares g_X10_sum g_X10_times g_X10_one g_X10_opens  (f_X10_times_4 g_X10_any g_X10_all g_X10_compares g_X10_sum g_X10_times g_X10_one g_X10_opens  n)
def f_X10_times_e (g_X10_any : Sg → Option (Unit × Sg)) (g_X10_all : Sg → Option (Unit × Sg)) (g_X10_compares : Sg → Option (Unit × Sg)) (g_X10_sum : Sg → Option (Unit × Sg)) (g_X10_times : Sg → Option (Unit × Sg)) (g_X10_one : Sg → Option (Unit × Sg)) (g_X10_opens : Int32 → Sg → Option (Unit × Sg))  (σ : Sg) : Option (Unit × Sg) :=
  bnd (g_X10_one σ) (fun _ s14 => f_X10_times_4 g_X10_any g_X10_all g_X10_compares g_X10_sum g_X10_times g_X10_one g_X10_opens fuN s14)
def f_X10_one_e (g_X10_any : Sg → Option (Unit × Sg)) (g_X10_all : Sg → Option (Unit × Sg)) (g_X10_compares : Sg → Option (Unit × Sg)) (g_X10_sum : Sg → Option (Unit × Sg)) (g_X10_times : Sg → Option (Unit × Sg)) (g_X10_one : Sg → Option (Unit × Sg)) (g_X10_opens : Int32 → Sg → Option (Unit × Sg))  (σ : Sg) : Option (Unit × Sg) :=
  bnd (f_X10_look σ) (fun r2 s1 => bnd (f_X10_nameOf r2 s1) (fun r4 s3 => if r4 < 0 then if r2 = (33 : Int32) then bnd (g_X10_opens r2 s3) (fun _ s5 => some ((), s5)) else if r2 = (40 : Int32) then bnd (g_X10_opens r2 s3) (fun _ s9 => some ((), s9)) else bnd (f_X10_number s3) (fun _ s7 => some ((), s7)) else lt (up s3 0 13 ((s3 0 13) + (1 : Int32))) (fun s11 => bnd (f_X10_step (2 : Int32) r4 s11) (fun _ s12 => some ((), s12)))))
def f_X10_opens_79 (g_X10_any : Sg → Option (Unit × Sg)) (g_X10_all : Sg → Option (Unit × Sg)) (g_X10_compares : Sg → Option (Unit × Sg)) (g_X10_sum : Sg → Option (Unit × Sg)) (g_X10_times : Sg → Option (Unit × Sg)) (g_X10_one : Sg → Option (Unit × Sg)) (g_X10_opens : Int32 → Sg → Option (Unit × Sg))  (t0 : Int32) (σ : Sg) : Option (Unit × Sg) :=
  ckb (isb t0) (lt (up σ 0 15 t0) (fun s1 => if (s1 0 15) = 0 then lt (up s1 0 13 ((s1 0 13) + (1 : Int32))) (fun s3 => lt (up s3 0 14 ((s3 0 14) - (1 : Int32))) (fun s4 => some ((), s4))) else lt (up s1 0 13 ((s1 0 13) + (0 : Int32))) (fun s5 => lt (up s5 0 14 ((s5 0 14) - (1 : Int32))) (fun s6 => some ((), s6)))))
def f_X10_opens_e (g_X10_any : Sg → Option (Unit × Sg)) (g_X10_all : Sg → Option (Unit × Sg)) (g_X10_compares : Sg → Option (Unit × Sg)) (g_X10_sum : Sg → Option (Unit × Sg)) (g_X10_times : Sg → Option (Unit × Sg)) (g_X10_one : Sg → Option (Unit × Sg)) (g_X10_opens : Int32 → Sg → Option (Unit × Sg)) (a1 : Int32) (σ : Sg) : Option (Unit × Sg) :=
  if (σ 0 14) = (5 : Int32) then lt (up σ 0 15 (1 : Int32)) (fun s18 => some ((), s18)) else lt (up σ 0 14 ((σ 0 14) + (1 : Int32))) (fun s7 => lt (up s7 0 13 ((s7 0 13) + (1 : Int32))) (fun s8 => if a1 = (33 : Int32) then bnd (g_X10_one s8) (fun _ s13 => bnd (f_X10_step (3 : Int32) (0 : Int32) s13) (fun _ s15 => lt (up s15 0 14 ((s15 0 14) - (1 : Int32))) (fun s17 => some ((), s17)))) else bnd (g_X10_any s8) (fun _ s9 => if (s9 0 15) = 0 then bnd (f_X10_look s9) (fun r12 s11 => if r12 = (41 : Int32) then f_X10_opens_79 g_X10_any g_X10_all g_X10_compares g_X10_sum g_X10_times g_X10_one g_X10_opens (0 : Int32) s11 else f_X10_opens_79 g_X10_any g_X10_all g_X10_compares g_X10_sum g_X10_times g_X10_one g_X10_opens (1 : Int32) s11) else f_X10_opens_79 g_X10_any g_X10_all g_X10_compares g_X10_sum g_X10_times g_X10_one g_X10_opens (1 : Int32) s9)))
def G_X10_any : Nat → (Sg → Option (Unit × Sg)) × (Sg → Option (Unit × Sg)) × (Sg → Option (Unit × Sg)) × (Sg → Option (Unit × Sg)) × (Sg → Option (Unit × Sg)) × (Sg → Option (Unit × Sg)) × (Int32 → Sg → Option (Unit × Sg))
  | 0 => (fun _ => none, fun _ => none, fun _ => none, fun _ => none, fun _ => none, fun _ => none, fun _ _ => none)
  | d + 1 => (f_X10_any_e (G_X10_any d).1 (G_X10_any d).2.1 (G_X10_any d).2.2.1 (G_X10_any d).2.2.2.1 (G_X10_any d).2.2.2.2.1 (G_X10_any d).2.2.2.2.2.1 (G_X10_any d).2.2.2.2.2.2, f_X10_all_e (G_X10_any d).1 (G_X10_any d).2.1 (G_X10_any d).2.2.1 (G_X10_any d).2.2.2.1 (G_X10_any d).2.2.2.2.1 (G_X10_any d).2.2.2.2.2.1 (G_X10_any d).2.2.2.2.2.2, f_X10_compares_e (G_X10_any d).1 (G_X10_any d).2.1 (G_X10_any d).2.2.1 (G_X10_any d).2.2.2.1 (G_X10_any d).2.2.2.2.1 (G_X10_any d).2.2.2.2.2.1 (G_X10_any d).2.2.2.2.2.2, f_X10_sum_e (G_X10_any d).1 (G_X10_any d).2.1 (G_X10_any d).2.2.1 (G_X10_any d).2.2.2.1 (G_X10_any d).2.2.2.2.1 (G_X10_any d).2.2.2.2.2.1 (G_X10_any d).2.2.2.2.2.2, f_X10_times_e (G_X10_any d).1 (G_X10_any d).2.1 (G_X10_any d).2.2.1 (G_X10_any d).2.2.2.1 (G_X10_any d).2.2.2.2.1 (G_X10_any d).2.2.2.2.2.1 (G_X10_any d).2.2.2.2.2.2, f_X10_one_e (G_X10_any d).1 (G_X10_any d).2.1 (G_X10_any d).2.2.1 (G_X10_any d).2.2.2.1 (G_X10_any d).2.2.2.2.1 (G_X10_any d).2.2.2.2.2.1 (G_X10_any d).2.2.2.2.2.2, f_X10_opens_e (G_X10_any d).1 (G_X10_any d).2.1 (G_X10_any d).2.2.1 (G_X10_any d).2.2.2.1 (G_X10_any d).2.2.2.2.1 (G_X10_any d).2.2.2.2.2.1 (G_X10_any d).2.2.2.2.2.2)
def f_X10_any : Sg → Option (Unit × Sg) := (G_X10_any 64).1
def f_X10_all : Sg → Option (Unit × Sg) := (G_X10_any 64).2.1
def f_X10_compares : Sg → Option (Unit × Sg) := (G_X10_any 64).2.2.1
def f_X10_sum : Sg → Option (Unit × Sg) := (G_X10_any 64).2.2.2.1
def f_X10_times : Sg → Option (Unit × Sg) := (G_X10_any 64).2.2.2.2.1
def f_X10_one : Sg → Option (Unit × Sg) := (G_X10_any 64).2.2.2.2.2.1
def f_X10_opens : Int32 → Sg → Option (Unit × Sg) := (G_X10_any 64).2.2.2.2.2.2
def f_X10_begins (a1 : Int32) (σ : Sg) : Option (Unit × Sg) :=
  if (30 : Int32) ≤ (σ 0 19) then some ((), σ) else ckb (inb (σ 0 19) 30) (lt (up σ 13 (σ 0 19).toNatClampNeg a1) (fun s1 => lt (up s1 0 19 ((s1 0 19) + (1 : Int32))) (fun s2 => some ((), s2))))
def f_X10_it (a1 : Int32) (a2 : Int32) (σ : Sg) : Option (Int32 × Sg) :=
  ckb (inb (((12 : Int32) + ((7 : Int32) * a1)) + a2) 408) (some ((rd (σ 1) (((12 : Int32) + ((7 : Int32) * a1)) + a2)), σ))
def f_X10_plainSqueaks (a1 : Int32) (a2 : Int32) (σ : Sg) : Option (Int32 × Sg) :=
  bnd (f_X10_begins (10 : Int32) σ) (fun _ s1 => some ((a2 + a1), s1))
def f_X10_sumSqueaks (a1 : Int32) (a2 : Int32) (σ : Sg) : Option (Int32 × Sg) :=
  bnd (f_X10_begins (20 : Int32) σ) (fun _ s1 => bnd (f_X10_plainSqueaks a1 a2 s1) (fun r4 s3 => some ((r4 - (4 : Int32)), s3)))
def f_X10_squeaks (a1 : Int32) (a2 : Int32) (σ : Sg) : Option (Int32 × Sg) :=
  bnd (f_X10_it a1 (0 : Int32) σ) (fun r2 s1 => if r2 = (1 : Int32) then bnd (f_X10_sumSqueaks a1 a2 s1) (fun r5 s4 => some (r5, s4)) else if r2 = (4 : Int32) then bnd (f_X10_begins (50 : Int32) s1) (fun _ s7 => bnd (f_X10_sumSqueaks a1 a2 s7) (fun r10 s9 => some ((r10 * (3 : Int32)), s9))) else if r2 = (6 : Int32) then bnd (f_X10_begins (70 : Int32) s1) (fun _ s12 => some ((9 : Int32), s12)) else bnd (f_X10_plainSqueaks a1 a2 s1) (fun r15 s14 => some (r15, s14)))
def f_X10_plainSmears (a1 : Int32) (a2 : Int32) (σ : Sg) : Option (Int32 × Sg) :=
  bnd (f_X10_begins (11 : Int32) σ) (fun _ s1 => bnd (f_X10_squeaks a1 a2 s1) (fun r4 s3 => some ((r4 * (2 : Int32)), s3)))
def f_X10_arrowSmears (a1 : Int32) (a2 : Int32) (σ : Sg) : Option (Int32 × Sg) :=
  bnd (f_X10_begins (30 : Int32) σ) (fun _ s1 => bnd (f_X10_plainSmears a1 a2 s1) (fun r4 s3 => some ((-r4), s3)))
def f_X10_isLine (a1 : Int32) (σ : Sg) : Option (Int32 × Sg) :=
  ckb (inb (2 : Int32) 408) (bnd (f_X10_in a1 (0 : Int32) ((rd (σ 1) (2 : Int32)) - (1 : Int32)) σ) (fun r2 s1 => ckb (isb r2) (some (r2, s1))))
def f_X10_error (a1 : Int32) (σ : Sg) : Option (Int32 × Sg) :=
  ckb (inb ((-1000000000 : Int32) - a1) 7) (ckb (inb ((-1000000000 : Int32) - a1) 7) (lt (up σ 4 ((-1000000000 : Int32) - a1).toNatClampNeg ((rd (σ 4) ((-1000000000 : Int32) - a1)) + (1 : Int32))) (fun s1 => some (a1, s1))))
def f_X10_as_66  (a1 : Int32) (t0 : Int32) (σ : Sg) : Option (Int32 × Sg) :=
  if t0 = 0 then bnd (f_X10_error (-1000000005 : Int32) σ) (fun r2 s1 => some (r2, s1)) else bnd (f_X10_it a1 (1 : Int32) σ) (fun r4 s3 => some (r4, s3))
def f_X10_as (a1 : Int32) (a2 : Int32) (σ : Sg) : Option (Int32 × Sg) :=
  bnd (f_X10_isLine a1 σ) (fun r6 s5 => if r6 = 0 then bnd (f_X10_error (-1000000001 : Int32) s5) (fun r8 s7 => some (r8, s7)) else bnd (f_X10_in a2 (0 : Int32) (6 : Int32) s5) (fun r10 s9 => if r10 = 0 then bnd (f_X10_error (-1000000001 : Int32) s9) (fun r14 s13 => some (r14, s13)) else bnd (f_X10_it a1 (0 : Int32) s9) (fun r12 s11 => if a2 = 0 then f_X10_as_66 a1 (1 : Int32) s11 else if a2 = r12 then f_X10_as_66 a1 (1 : Int32) s11 else if a2 = (1 : Int32) then if r12 = (4 : Int32) then f_X10_as_66 a1 (1 : Int32) s11 else if a2 = (2 : Int32) then if r12 = (5 : Int32) then f_X10_as_66 a1 (1 : Int32) s11 else f_X10_as_66 a1 (0 : Int32) s11 else f_X10_as_66 a1 (0 : Int32) s11 else if a2 = (2 : Int32) then if r12 = (5 : Int32) then f_X10_as_66 a1 (1 : Int32) s11 else f_X10_as_66 a1 (0 : Int32) s11 else f_X10_as_66 a1 (0 : Int32) s11)))
def f_X10_held (a0 : Int32) (a1 : Int32) (a2 : Int32) (σ : Sg) : Option (Int32 × Sg) :=
  if a1 ≤ a0 then if a0 ≤ a2 then some (a0, σ) else some (a2, σ) else some (a1, σ)
def f_X10_backOf (a1 : Int32) (σ : Sg) : Option (Int32 × Sg) :=
  bnd (f_X10_it a1 (1 : Int32) σ) (fun r2 s1 => ckb (inb (0 : Int32) 408) (bnd (f_X10_it a1 (4 : Int32) s1) (fun r4 s3 => bnd (f_X10_held ((50 : Int32) - ((5 : Int32) * ((rd (s1 1) (0 : Int32)) - r4))) (0 : Int32) (50 : Int32) s3) (fun r6 s5 => lt ((r6 + r2)) (fun v7 => bnd (f_X10_it a1 (0 : Int32) s5) (fun r9 s8 => if r9 = (1 : Int32) then bnd (f_X10_held (v7 + (20 : Int32)) (0 : Int32) (100 : Int32) s8) (fun r12 s11 => some (r12, s11)) else if r9 = (2 : Int32) then some ((v7 / (2 : Int32)), s8) else if r9 = (3 : Int32) then bnd (f_X10_it a1 (5 : Int32) s8) (fun r16 s15 => if r16 = (1 : Int32) then bnd (f_X10_held (v7 + (20 : Int32)) (0 : Int32) (100 : Int32) s15) (fun r20 s19 => some (r20, s19)) else bnd (f_X10_held v7 (0 : Int32) (100 : Int32) s15) (fun r18 s17 => some (r18, s17))) else if r9 = (4 : Int32) then bnd (f_X10_held (v7 + (40 : Int32)) (0 : Int32) (100 : Int32) s8) (fun r23 s22 => some (r23, s22)) else if r9 = (5 : Int32) then bnd (f_X10_held ((v7 / (2 : Int32)) - r2) (0 : Int32) (100 : Int32) s8) (fun r26 s25 => some (r26, s25)) else if r9 = (6 : Int32) then bnd (f_X10_held (v7 + (5 : Int32)) (0 : Int32) (100 : Int32) s8) (fun r29 s28 => some (r29, s28)) else some (v7, s8)))))))
def f_X10_isKm (a0 : Int32) (σ : Sg) : Option (Int32 × Sg) :=
  bnd (f_X10_in a0 (0 : Int32) (69 : Int32) σ) (fun r2 s1 => ckb (isb r2) (some (r2, s1)))
def f_X10_lets (a1 : Int32) (a2 : Int32) (a3 : Int32) (σ : Sg) : Option (Unit × Sg) :=
  ckb (inb (((12 : Int32) + ((7 : Int32) * a1)) + a2) 408) (lt (up σ 1 (((12 : Int32) + ((7 : Int32) * a1)) + a2).toNatClampNeg a3) (fun s1 => some ((), s1)))
def f_X10_becomes (a1 : Int32) (a2 : Int32) (σ : Sg) : Option (Int32 × Sg) :=
  ckb (inb a1 408) (lt ((rd (σ 1) a1)) (fun v1 => ckb (inb a1 408) (lt (up σ 1 a1.toNatClampNeg a2) (fun s2 => some (v1, s2)))))
def f_X10_become (a1 : Int32) (a2 : Int32) (σ : Sg) : Option (Int32 × Sg) :=
  bnd (f_X10_isLine a1 σ) (fun r2 s1 => if r2 = 0 then bnd (f_X10_error (-1000000001 : Int32) s1) (fun r4 s3 => some (r4, s3)) else bnd (f_X10_isKm a2 s1) (fun r6 s5 => if r6 = 0 then bnd (f_X10_error (-1000000001 : Int32) s5) (fun r12 s11 => some (r12, s11)) else bnd (f_X10_lets a1 (1 : Int32) (irm a2 (10 : Int32)) s5) (fun _ s7 => bnd (f_X10_becomes ((12 : Int32) + ((7 : Int32) * a1)) (a2 / (10 : Int32)) s7) (fun r10 s9 => some (r10, s9)))))
def f_X10_bits_4_b  (rec4 : Int32 → Int32 → Sg → Option (Int32 × Sg)) (a1 : Int32) (a2 : Int32) (σ : Sg) : Option (Int32 × Sg) :=
  if a2 = 0 then some (a1, σ) else lt (a1 + (1 : Int32)) (fun v1 => lt ((a2 &&& (a2 - (1 : Int32)))) (fun v2 => rec4 v1 v2 σ))
def f_X10_bits_4  : Nat → Int32 → Int32 → Sg → Option (Int32 × Sg)
  | 0 => fun _ _ _ => none
  | n + 1 => f_X10_bits_4_b   (f_X10_bits_4   n)
def f_X10_bits (a0 : Int32) (σ : Sg) : Option (Int32 × Sg) :=
  f_X10_bits_4 fuN (0 : Int32) a0 σ
def f_X10_body (a1 : Int32) (σ : Sg) : Option (Int32 × Sg) :=
  bnd (f_X10_in a1 (0 : Int32) ((σ 0 19) - (1 : Int32)) σ) (fun r2 s1 => if r2 = 0 then bnd (f_X10_error (-1000000002 : Int32) s1) (fun r4 s3 => some (r4, s3)) else ckb (inb a1 30) (some ((rd (s1 13) a1), s1)))
def f_X10_check_18_b  (rec18 : Int32 → Int32 → Sg → Option (Int32 × Sg)) (a1 : Int32) (a2 : Int32) (σ : Sg) : Option (Int32 × Sg) :=
  if a1 ≤ a2 then some ((0 : Int32), σ) else if (5 : Int32) ≤ a2 then some (((1 : Int32) + a2), σ) else ckb (inb ((142 : Int32) + a2) 408) (ckb (inb ((7 : Int32) + a2) 408) (if (rd (σ 1) ((142 : Int32) + a2)) = (rd (σ 1) ((7 : Int32) + a2)) then lt (a2 + (1 : Int32)) (fun v1 => rec18 a1 v1 σ) else some (((1 : Int32) + a2), σ)))
def f_X10_check_18  : Nat → Int32 → Int32 → Sg → Option (Int32 × Sg)
  | 0 => fun _ _ _ => none
  | n + 1 => f_X10_check_18_b   (f_X10_check_18   n)
def f_X10_check  (σ : Sg) : Option (Int32 × Sg) :=
  ckb (inb (6 : Int32) 408) (lt ((rd (σ 1) (6 : Int32))) (fun v2 => ckb (inb (6 : Int32) 408) (lt (up σ 1 (6 : Int32).toNatClampNeg (0 : Int32)) (fun s3 => f_X10_check_18 fuN v2 (0 : Int32) s3))))
def f_X10_copyAll_2_b  (rec2 : Nat → Nat → Int32 → Sg → Option (Unit × Sg)) (o0 : Nat) (o1 : Nat) (a2 : Int32) (σ : Sg) : Option (Unit × Sg) :=
  if (408 : Int32) ≤ a2 then some ((), σ) else ckb (inb a2 408) (ckb (inb a2 408) (lt (up σ o1 a2.toNatClampNeg (rd (σ o0) a2)) (fun s1 => lt (a2 + (1 : Int32)) (fun v2 => rec2 o0 o1 v2 s1))))
def f_X10_copyAll_2  : Nat → Nat → Nat → Int32 → Sg → Option (Unit × Sg)
  | 0 => fun _ _ _ _ => none
  | n + 1 => f_X10_copyAll_2_b   (f_X10_copyAll_2   n)
def f_X10_copyAll (o0 : Nat) (o1 : Nat) (σ : Sg) : Option (Unit × Sg) :=
  f_X10_copyAll_2 fuN o0 o1 (0 : Int32) σ
def f_X10_thinks  (σ : Sg) : Option (Unit × Sg) :=
  bnd (f_X10_copyAll 1 3 σ) (fun _ s1 => some ((), s1))
def f_X10_mayGo (a1 : Int32) (σ : Sg) : Option (Int32 × Sg) :=
  bnd (f_X10_it a1 (1 : Int32) σ) (fun r2 s1 => ckb (inb (0 : Int32) 408) (bnd (f_X10_it a1 (4 : Int32) s1) (fun r4 s3 => lt (((rd (s1 1) (0 : Int32)) - r4)) (fun v5 => bnd (f_X10_it a1 (6 : Int32) s3) (fun r7 s6 => if r7 = (1 : Int32) then some ((0 : Int32), s6) else bnd (f_X10_it a1 (0 : Int32) s6) (fun r9 s8 => if r9 = (1 : Int32) then if v5 < (7 : Int32) then some ((0 : Int32), s8) else if v5 < ((7 : Int32) * r2) then some ((0 : Int32), s8) else some ((1 : Int32), s8) else if r9 = (2 : Int32) then if v5 < (1 : Int32) then some ((0 : Int32), s8) else some ((1 : Int32), s8) else if r9 = (3 : Int32) then if v5 < (7 : Int32) then some ((0 : Int32), s8) else some ((1 : Int32), s8) else if r9 = (4 : Int32) then if r2 = 0 then if v5 < (7 : Int32) then some ((0 : Int32), s8) else some ((1 : Int32), s8) else some ((0 : Int32), s8) else if r9 = (5 : Int32) then if v5 < (1 : Int32) then some ((0 : Int32), s8) else if v5 < r2 then some ((0 : Int32), s8) else some ((1 : Int32), s8) else if r9 = (6 : Int32) then if v5 < (7 : Int32) then some ((0 : Int32), s8) else ckb (inb (3 : Int32) 408) (if (rd (s8 1) (3 : Int32)) = (1 : Int32) then some ((1 : Int32), s8) else some ((0 : Int32), s8)) else if v5 < (7 : Int32) then some ((0 : Int32), s8) else some ((1 : Int32), s8)))))))
def f_X10_clearsDay_2_b  (rec2 : Int32 → Sg → Option (Unit × Sg)) (a1 : Int32) (σ : Sg) : Option (Unit × Sg) :=
  ckb (inb (2 : Int32) 408) (if (rd (σ 1) (2 : Int32)) ≤ a1 then ckb (inb (0 : Int32) 408) (ckb (inb (0 : Int32) 408) (lt (up σ 1 (0 : Int32).toNatClampNeg ((rd (σ 1) (0 : Int32)) + (1 : Int32))) (fun s1 => some ((), s1)))) else bnd (f_X10_mayGo a1 σ) (fun r3 s2 => if r3 = 0 then lt (a1 + (1 : Int32)) (fun v4 => rec2 v4 s2) else bnd (f_X10_lets a1 (6 : Int32) (1 : Int32) s2) (fun _ s5 => lt (a1 + (1 : Int32)) (fun v7 => rec2 v7 s5))))
def f_X10_clearsDay_2  : Nat → Int32 → Sg → Option (Unit × Sg)
  | 0 => fun _ _ => none
  | n + 1 => f_X10_clearsDay_2_b   (f_X10_clearsDay_2   n)
def f_X10_clearsDay  (σ : Sg) : Option (Unit × Sg) :=
  f_X10_clearsDay_2 fuN (0 : Int32) σ
def f_X10_takenBy_43 (rec4 : Int32 → Int32 → Int32 → Sg → Option (Int32 × Sg)) (a1 : Int32) (a2 : Int32) (a3 : Int32) (t0 : Int32) (σ : Sg) : Option (Int32 × Sg) :=
  if t0 = 0 then lt ((a2 ||| (0 : Int32))) (fun v1 => lt (a3 + (1 : Int32)) (fun v2 => rec4 a1 v1 v2 σ)) else bnd (f_X10_it a3 (2 : Int32) σ) (fun r4 s3 => lt ((a2 ||| r4)) (fun v5 => lt (a3 + (1 : Int32)) (fun v6 => rec4 a1 v5 v6 s3)))
def f_X10_takenBy_4_b  (rec4 : Int32 → Int32 → Int32 → Sg → Option (Int32 × Sg)) (a1 : Int32) (a2 : Int32) (a3 : Int32) (σ : Sg) : Option (Int32 × Sg) :=
  ckb (inb (2 : Int32) 408) (if (rd (σ 1) (2 : Int32)) ≤ a3 then some (a2, σ) else bnd (f_X10_it a3 (6 : Int32) σ) (fun r8 s7 => if r8 = 0 then if a1 < 0 then f_X10_takenBy_43 rec4 a1 a2 a3 (1 : Int32) s7 else bnd (f_X10_it a3 (3 : Int32) s7) (fun r10 s9 => if r10 = a1 then f_X10_takenBy_43 rec4 a1 a2 a3 (1 : Int32) s9 else f_X10_takenBy_43 rec4 a1 a2 a3 (0 : Int32) s9) else f_X10_takenBy_43 rec4 a1 a2 a3 (0 : Int32) s7))
def f_X10_takenBy_4  : Nat → Int32 → Int32 → Int32 → Sg → Option (Int32 × Sg)
  | 0 => fun _ _ _ _ => none
  | n + 1 => f_X10_takenBy_4_b   (f_X10_takenBy_4   n)
def f_X10_takenBy (a1 : Int32) (σ : Sg) : Option (Int32 × Sg) :=
  f_X10_takenBy_4 fuN a1 (0 : Int32) (0 : Int32) σ
def f_X10_putsBack  (σ : Sg) : Option (Unit × Sg) :=
  bnd (f_X10_copyAll 3 1 σ) (fun _ s1 => some ((), s1))
def f_X10_clears_23_b  (rec23 : Int32 → Int32 → Sg → Option (Int32 × Sg)) (a1 : Int32) (a2 : Int32) (σ : Sg) : Option (Int32 × Sg) :=
  if a1 ≤ a2 then bnd (f_X10_takenBy (-1 : Int32) σ) (fun r2 s1 => bnd (f_X10_putsBack s1) (fun _ s3 => some (r2, s3))) else bnd (f_X10_clearsDay σ) (fun _ s5 => lt (a2 + (1 : Int32)) (fun v7 => rec23 a1 v7 s5))
def f_X10_clears_23  : Nat → Int32 → Int32 → Sg → Option (Int32 × Sg)
  | 0 => fun _ _ _ => none
  | n + 1 => f_X10_clears_23_b   (f_X10_clears_23   n)
def f_X10_clears (a1 : Int32) (σ : Sg) : Option (Int32 × Sg) :=
  bnd (f_X10_in a1 (0 : Int32) (90 : Int32) σ) (fun r9 s8 => if r9 = 0 then bnd (f_X10_error (-1000000001 : Int32) s8) (fun r13 s12 => some (r13, s12)) else bnd (f_X10_thinks s8) (fun _ s10 => f_X10_clears_23 fuN a1 (0 : Int32) s10))
def f_X10_comes (a1 : Int32) (a2 : Int32) (a3 : Int32) (σ : Sg) : Option (Int32 × Sg) :=
  ckb (inb (2 : Int32) 408) (lt ((rd (σ 1) (2 : Int32))) (fun v1 => ckb (inb (2 : Int32) 408) (ckb (inb (2 : Int32) 408) (lt (up σ 1 (2 : Int32).toNatClampNeg ((rd (σ 1) (2 : Int32)) + (1 : Int32))) (fun s2 => bnd (f_X10_lets v1 (0 : Int32) (a1 / (10 : Int32)) s2) (fun _ s3 => bnd (f_X10_lets v1 (1 : Int32) (irm a1 (10 : Int32)) s3) (fun _ s5 => bnd (f_X10_lets v1 (2 : Int32) a2 s5) (fun _ s7 => bnd (f_X10_lets v1 (3 : Int32) a3 s7) (fun _ s9 => ckb (inb (0 : Int32) 408) (bnd (f_X10_lets v1 (4 : Int32) (rd (s9 1) (0 : Int32)) s9) (fun _ s11 => bnd (f_X10_lets v1 (5 : Int32) (0 : Int32) s11) (fun _ s13 => bnd (f_X10_lets v1 (6 : Int32) (0 : Int32) s13) (fun _ s15 => some (v1, s15))))))))))))))
def f_X10_count (a1 : Int32) (σ : Sg) : Option (Int32 × Sg) :=
  if a1 = (0 : Int32) then ckb (inb (2 : Int32) 408) (some ((rd (σ 1) (2 : Int32)), σ)) else if a1 = (1 : Int32) then ckb (inb (0 : Int32) 408) (some ((rd (σ 1) (0 : Int32)), σ)) else if a1 = (2 : Int32) then ckb (inb (3 : Int32) 408) (some ((rd (σ 1) (3 : Int32)), σ)) else if a1 = (3 : Int32) then ckb (inb (4 : Int32) 408) (some ((rd (σ 1) (4 : Int32)), σ)) else if a1 = (4 : Int32) then ckb (inb (5 : Int32) 408) (some ((rd (σ 1) (5 : Int32)), σ)) else if a1 = (5 : Int32) then ckb (inb (6 : Int32) 408) (some ((rd (σ 1) (6 : Int32)), σ)) else if a1 = (6 : Int32) then some ((σ 0 19), σ) else if a1 = (7 : Int32) then ckb (inb (1 : Int32) 408) (some ((rd (σ 1) (1 : Int32)), σ)) else bnd (f_X10_error (-1000000001 : Int32) σ) (fun r10 s9 => some (r10, s9))
def f_X10_isSheet (a0 : Int32) (σ : Sg) : Option (Int32 × Sg) :=
  bnd (f_X10_in a0 (0 : Int32) (3 : Int32) σ) (fun r2 s1 => ckb (isb r2) (some (r2, s1)))
def f_X10_notThere (a1 : Int32) (σ : Sg) : Option (Int32 × Sg) :=
  bnd (f_X10_isSheet a1 σ) (fun r2 s1 => if r2 = 0 then some ((-1000000001 : Int32), s1) else ckb (inb a1 4) (if (rd (s1 5) a1) = 0 then some ((-1000000002 : Int32), s1) else some ((0 : Int32), s1)))
def f_X10_dates_18_b  (rec18 : Int32 → Int32 → Sg → Option (Int32 × Sg)) (a1 : Int32) (a3 : Int32) (σ : Sg) : Option (Int32 × Sg) :=
  ckb (inb a1 4) (if (rd (σ 6) a1) ≤ a3 then some (a3, σ) else ckb (inb (2 : Int32) 408) (if (rd (σ 1) (2 : Int32)) ≤ a3 then some (a3, σ) else ckb (inb (((24 : Int32) * a1) + a3) 96) (ckb (inb (0 : Int32) 408) (bnd (f_X10_in (rd (σ 7) (((24 : Int32) * a1) + a3)) (0 : Int32) (rd (σ 1) (0 : Int32)) σ) (fun r2 s1 => if r2 = 0 then some (a3, s1) else ckb (inb (((24 : Int32) * a1) + a3) 96) (bnd (f_X10_lets a3 (4 : Int32) (rd (s1 7) (((24 : Int32) * a1) + a3)) s1) (fun _ s3 => lt (a3 + (1 : Int32)) (fun v5 => rec18 a1 v5 s3))))))))
def f_X10_dates_18  : Nat → Int32 → Int32 → Sg → Option (Int32 × Sg)
  | 0 => fun _ _ _ => none
  | n + 1 => f_X10_dates_18_b   (f_X10_dates_18   n)
def f_X10_dates (a1 : Int32) (σ : Sg) : Option (Int32 × Sg) :=
  bnd (f_X10_notThere a1 σ) (fun r7 s6 => if r7 = 0 then f_X10_dates_18 fuN a1 (0 : Int32) s6 else bnd (f_X10_error r7 s6) (fun r9 s8 => some (r9, s8)))
def f_X10_goes_37 (rec2 : Int32 → Sg → Option (Unit × Sg)) (a1 : Int32) (t0 : Int32) (σ : Sg) : Option (Unit × Sg) :=
  ckb (inb ((7 : Int32) + a1) 408) (if t0 = 0 then ckb (inb ((7 : Int32) + a1) 408) (lt (up σ 1 ((7 : Int32) + a1).toNatClampNeg ((rd (σ 1) ((7 : Int32) + a1)) - (0 : Int32))) (fun s1 => lt (a1 + (1 : Int32)) (fun v2 => rec2 v2 s1))) else ckb (inb ((7 : Int32) + a1) 408) (lt (up σ 1 ((7 : Int32) + a1).toNatClampNeg ((rd (σ 1) ((7 : Int32) + a1)) - (1 : Int32))) (fun s3 => lt (a1 + (1 : Int32)) (fun v4 => rec2 v4 s3))))
def f_X10_goes_2_b  (rec2 : Int32 → Sg → Option (Unit × Sg)) (a1 : Int32) (σ : Sg) : Option (Unit × Sg) :=
  if (5 : Int32) ≤ a1 then ckb (inb (0 : Int32) 408) (ckb (inb (0 : Int32) 408) (lt (up σ 1 (0 : Int32).toNatClampNeg ((rd (σ 1) (0 : Int32)) + (1 : Int32))) (fun s5 => some ((), s5)))) else ckb (inb (0 : Int32) 408) (ckb (nz (a1 + (2 : Int32))) (if (irm (rd (σ 1) (0 : Int32)) (a1 + (2 : Int32))) = 0 then ckb (inb ((7 : Int32) + a1) 408) (if (rd (σ 1) ((7 : Int32) + a1)) ≤ 0 then f_X10_goes_37 rec2 a1 (0 : Int32) σ else f_X10_goes_37 rec2 a1 (1 : Int32) σ) else f_X10_goes_37 rec2 a1 (0 : Int32) σ))
def f_X10_goes_2  : Nat → Int32 → Sg → Option (Unit × Sg)
  | 0 => fun _ _ => none
  | n + 1 => f_X10_goes_2_b   (f_X10_goes_2   n)
def f_X10_goes  (σ : Sg) : Option (Unit × Sg) :=
  f_X10_goes_2 fuN (0 : Int32) σ
def f_X10_days_40_b  (rec40 : Int32 → Int32 → Sg → Option (Int32 × Sg)) (a1 : Int32) (a2 : Int32) (σ : Sg) : Option (Int32 × Sg) :=
  if a1 ≤ a2 then ckb (inb (0 : Int32) 408) (some ((rd (σ 1) (0 : Int32)), σ)) else bnd (f_X10_goes σ) (fun _ s1 => lt (a2 + (1 : Int32)) (fun v3 => rec40 a1 v3 s1))
def f_X10_days_40  : Nat → Int32 → Int32 → Sg → Option (Int32 × Sg)
  | 0 => fun _ _ _ => none
  | n + 1 => f_X10_days_40_b   (f_X10_days_40   n)
def f_X10_days (a1 : Int32) (σ : Sg) : Option (Int32 × Sg) :=
  bnd (f_X10_in a1 (1 : Int32) (90 : Int32) σ) (fun r5 s4 => if r5 = 0 then bnd (f_X10_error (-1000000001 : Int32) s4) (fun r9 s8 => some (r9, s8)) else ckb (inb (0 : Int32) 408) (if ((rd (s4 1) (0 : Int32)) + a1) ≤ (9999 : Int32) then f_X10_days_40 fuN a1 (0 : Int32) s4 else bnd (f_X10_error (-1000000003 : Int32) s4) (fun r7 s6 => some (r7, s6))))
def f_X10_draw  (σ : Sg) : Option (Int32 × Sg) :=
  ckb (inb (1 : Int32) 408) (ckb (inb (1 : Int32) 408) (lt (up σ 1 (1 : Int32).toNatClampNeg (((rd (σ 1) (1 : Int32)) * (1103515245 : Int32)) + (12345 : Int32))) (fun s1 => ckb (inb (1 : Int32) 408) (some ((ius (rd (s1 1) (1 : Int32)) (8 : Int32)), s1)))))
def f_X10_twoOf (a0 : Int32) (a1 : Int32) (a2 : Int32) (σ : Sg) : Option (Int32 × Sg) :=
  if a0 = (37 : Int32) then if a2 = 0 then some ((0 : Int32), σ) else ckb (nz a2) (some ((irm a1 a2), σ)) else if a0 = (38 : Int32) then if a1 = 0 then some ((0 : Int32), σ) else if a2 = 0 then some ((0 : Int32), σ) else some ((1 : Int32), σ) else if a0 = (39 : Int32) then if a1 = 0 then if a2 = 0 then some ((0 : Int32), σ) else some ((1 : Int32), σ) else some ((1 : Int32), σ) else if a0 = (40 : Int32) then if a1 = 0 then if a2 = 0 then some ((0 : Int32), σ) else some ((1 : Int32), σ) else some ((1 : Int32), σ) else if a0 = (41 : Int32) then if a1 = 0 then if a2 = 0 then some ((0 : Int32), σ) else some ((1 : Int32), σ) else some ((1 : Int32), σ) else if a0 = (42 : Int32) then some ((a1 * a2), σ) else if a0 = (43 : Int32) then some ((a1 + a2), σ) else if a0 = (44 : Int32) then if a1 = 0 then if a2 = 0 then some ((0 : Int32), σ) else some ((1 : Int32), σ) else some ((1 : Int32), σ) else if a0 = (45 : Int32) then some ((a1 - a2), σ) else if a0 = (46 : Int32) then if a1 = 0 then if a2 = 0 then some ((0 : Int32), σ) else some ((1 : Int32), σ) else some ((1 : Int32), σ) else if a0 = (47 : Int32) then if a2 = 0 then some ((0 : Int32), σ) else ckb (nz a2) (some ((a1 / a2), σ)) else if a0 = (48 : Int32) then if a1 = 0 then if a2 = 0 then some ((0 : Int32), σ) else some ((1 : Int32), σ) else some ((1 : Int32), σ) else if a0 = (49 : Int32) then if a1 = 0 then if a2 = 0 then some ((0 : Int32), σ) else some ((1 : Int32), σ) else some ((1 : Int32), σ) else if a0 = (50 : Int32) then if a1 = 0 then if a2 = 0 then some ((0 : Int32), σ) else some ((1 : Int32), σ) else some ((1 : Int32), σ) else if a0 = (51 : Int32) then if a1 = 0 then if a2 = 0 then some ((0 : Int32), σ) else some ((1 : Int32), σ) else some ((1 : Int32), σ) else if a0 = (52 : Int32) then if a1 = 0 then if a2 = 0 then some ((0 : Int32), σ) else some ((1 : Int32), σ) else some ((1 : Int32), σ) else if a0 = (53 : Int32) then if a1 = 0 then if a2 = 0 then some ((0 : Int32), σ) else some ((1 : Int32), σ) else some ((1 : Int32), σ) else if a0 = (54 : Int32) then if a1 = 0 then if a2 = 0 then some ((0 : Int32), σ) else some ((1 : Int32), σ) else some ((1 : Int32), σ) else if a0 = (55 : Int32) then if a1 = 0 then if a2 = 0 then some ((0 : Int32), σ) else some ((1 : Int32), σ) else some ((1 : Int32), σ) else if a0 = (56 : Int32) then if a1 = 0 then if a2 = 0 then some ((0 : Int32), σ) else some ((1 : Int32), σ) else some ((1 : Int32), σ) else if a0 = (57 : Int32) then if a1 = 0 then if a2 = 0 then some ((0 : Int32), σ) else some ((1 : Int32), σ) else some ((1 : Int32), σ) else if a0 = (58 : Int32) then if a1 = 0 then if a2 = 0 then some ((0 : Int32), σ) else some ((1 : Int32), σ) else some ((1 : Int32), σ) else if a0 = (59 : Int32) then if a1 = 0 then if a2 = 0 then some ((0 : Int32), σ) else some ((1 : Int32), σ) else some ((1 : Int32), σ) else if a0 = (60 : Int32) then if a2 ≤ a1 then some ((0 : Int32), σ) else some ((1 : Int32), σ) else if a0 = (61 : Int32) then if a1 = a2 then some ((1 : Int32), σ) else some ((0 : Int32), σ) else if a0 = (62 : Int32) then if a1 ≤ a2 then some ((0 : Int32), σ) else some ((1 : Int32), σ) else if a1 = 0 then if a2 = 0 then some ((0 : Int32), σ) else some ((1 : Int32), σ) else some ((1 : Int32), σ)
def f_X10_works_38 (rec4 : Int32 → Int32 → Int32 → Sg → Option (Int32 × Sg)) (a1 : Int32) (a2 : Int32) (a3 : Int32) (a4 : Int32) (σ : Sg) : Option (Int32 × Sg) :=
  if a4 = (1 : Int32) then ckb (inb ((a1 + (61 : Int32)) + a3) 408) (ckb (inb a2 60) (lt (up σ 11 a2.toNatClampNeg (rd (σ 1) ((a1 + (61 : Int32)) + a3))) (fun s4 => lt (a2 + (1 : Int32)) (fun v5 => lt (a3 + (1 : Int32)) (fun v6 => rec4 a1 v5 v6 s4))))) else ckb (inb ((a1 + (61 : Int32)) + a3) 408) (ckb (inb (rd (σ 1) ((a1 + (61 : Int32)) + a3)) 3) (ckb (inb a2 60) (lt (up σ 11 a2.toNatClampNeg (rd (σ 10) (rd (σ 1) ((a1 + (61 : Int32)) + a3)))) (fun s1 => lt (a2 + (1 : Int32)) (fun v2 => lt (a3 + (1 : Int32)) (fun v3 => rec4 a1 v2 v3 s1))))))
def f_X10_works_4_b  (rec4 : Int32 → Int32 → Int32 → Sg → Option (Int32 × Sg)) (a1 : Int32) (a2 : Int32) (a3 : Int32) (σ : Sg) : Option (Int32 × Sg) :=
  ckb (inb a1 408) (if (rd (σ 1) a1) ≤ a3 then ckb (inb (0 : Int32) 60) (some ((rd (σ 11) (0 : Int32)), σ)) else ckb (inb ((a1 + (1 : Int32)) + a3) 408) (lt ((rd (σ 1) ((a1 + (1 : Int32)) + a3))) (fun v7 => if v7 = (1 : Int32) then f_X10_works_38 rec4 a1 a2 a3 v7 σ else if v7 = (2 : Int32) then f_X10_works_38 rec4 a1 a2 a3 v7 σ else if v7 = (3 : Int32) then ckb (inb (a2 - (1 : Int32)) 60) (if (rd (σ 11) (a2 - (1 : Int32))) = 0 then ckb (inb (a2 - (1 : Int32)) 60) (lt (up σ 11 (a2 - (1 : Int32)).toNatClampNeg (1 : Int32)) (fun s15 => lt (a3 + (1 : Int32)) (fun v16 => rec4 a1 a2 v16 s15))) else ckb (inb (a2 - (1 : Int32)) 60) (lt (up σ 11 (a2 - (1 : Int32)).toNatClampNeg (0 : Int32)) (fun s13 => lt (a3 + (1 : Int32)) (fun v14 => rec4 a1 a2 v14 s13)))) else lt (a2 + (-1 : Int32)) (fun v8 => ckb (inb (v8 - (1 : Int32)) 60) (ckb (inb v8 60) (bnd (f_X10_twoOf v7 (rd (σ 11) (v8 - (1 : Int32))) (rd (σ 11) v8) σ) (fun r10 s9 => ckb (inb (v8 - (1 : Int32)) 60) (lt (up s9 11 (v8 - (1 : Int32)).toNatClampNeg r10) (fun s11 => lt (a3 + (1 : Int32)) (fun v12 => rec4 a1 v8 v12 s11))))))))))
def f_X10_works_4  : Nat → Int32 → Int32 → Int32 → Sg → Option (Int32 × Sg)
  | 0 => fun _ _ _ _ => none
  | n + 1 => f_X10_works_4_b   (f_X10_works_4   n)
def f_X10_works (a1 : Int32) (σ : Sg) : Option (Int32 × Sg) :=
  f_X10_works_4 fuN a1 (0 : Int32) (0 : Int32) σ
def f_X10_gives_57  (a5 : Int32) (t0 : Int32) (σ : Sg) : Option (Int32 × Sg) :=
  ckb (inb a5 408) (if (rd (σ 1) a5) ≤ 0 then bnd (f_X10_held t0 (0 : Int32) (999 : Int32) σ) (fun r2 s1 => some (r2, s1)) else bnd (f_X10_works a5 σ) (fun r4 s3 => bnd (f_X10_held r4 (0 : Int32) (999 : Int32) s3) (fun r6 s5 => some (r6, s5))))
def f_X10_gives (a1 : Int32) (a2 : Int32) (a3 : Int32) (a4 : Int32) (σ : Sg) : Option (Int32 × Sg) :=
  lt (((166 : Int32) + ((121 : Int32) * a1))) (fun v7 => ckb (inb (0 : Int32) 3) (lt (up σ 10 (0 : Int32).toNatClampNeg a2) (fun s8 => ckb (inb (1 : Int32) 3) (lt (up s8 10 (1 : Int32).toNatClampNeg a3) (fun s9 => ckb (inb (2 : Int32) 3) (lt (up s9 10 (2 : Int32).toNatClampNeg a4) (fun s10 => if a1 = (1 : Int32) then f_X10_gives_57 v7 ((10 : Int32) * a2) s10 else if a4 = (1 : Int32) then f_X10_gives_57 v7 (a2 / (2 : Int32)) s10 else f_X10_gives_57 v7 a2 s10)))))))
def f_X10_lossOf (a1 : Int32) (σ : Sg) : Option (Int32 × Sg) :=
  bnd (f_X10_backOf a1 σ) (fun r2 s1 => bnd (f_X10_it a1 (1 : Int32) s1) (fun r4 s3 => bnd (f_X10_it a1 (5 : Int32) s3) (fun r6 s5 => bnd (f_X10_gives (0 : Int32) r2 r4 r6 s5) (fun r8 s7 => some (r8, s7)))))
def f_X10_isWiped (a1 : Int32) (σ : Sg) : Option (Unit × Sg) :=
  ckb (inb (4 : Int32) 408) (bnd (f_X10_lossOf a1 σ) (fun r2 s1 => bnd (f_X10_held ((rd (σ 1) (4 : Int32)) + r2) (0 : Int32) (99999 : Int32) s1) (fun r4 s3 => ckb (inb (4 : Int32) 408) (lt (up s3 1 (4 : Int32).toNatClampNeg r4) (fun s5 => bnd (f_X10_lets a1 (6 : Int32) (1 : Int32) s5) (fun _ s6 => some ((), s6)))))))
def f_X10_drawn_38  (a1 : Int32) (σ : Sg) : Option (Int32 × Sg) :=
  bnd (f_X10_draw σ) (fun r2 s1 => lt ((shl (1 : Int32) (irm r2 (12 : Int32)))) (fun v3 => bnd (f_X10_takenBy (-1 : Int32) s1) (fun r5 s4 => if (v3 &&& r5) = 0 then ckb (inb (2 : Int32) 408) (if (10 : Int32) ≤ (rd (s4 1) (2 : Int32)) then bnd (f_X10_goes s4) (fun _ s8 => some (a1, s8)) else bnd (f_X10_draw s4) (fun r11 s10 => lt ((irm r11 (7 : Int32))) (fun v12 => bnd (f_X10_draw s10) (fun r14 s13 => bnd (f_X10_comes ((10 : Int32) * v12) v3 (irm r14 (6 : Int32)) s13) (fun r16 s15 => bnd (f_X10_goes s15) (fun _ s17 => some (a1, s17))))))) else bnd (f_X10_goes s4) (fun _ s6 => some (a1, s6)))))
def f_X10_drawn  (σ : Sg) : Option (Int32 × Sg) :=
  ckb (inb (2 : Int32) 408) (if (rd (σ 1) (2 : Int32)) ≤ 0 then f_X10_drawn_38 (0 : Int32) σ else bnd (f_X10_draw σ) (fun r20 s19 => ckb (inb (2 : Int32) 408) (ckb (nz (rd (s19 1) (2 : Int32))) (lt ((irm r20 (rd (s19 1) (2 : Int32)))) (fun v22 => bnd (f_X10_mayGo v22 s19) (fun r24 s23 => if r24 = 0 then f_X10_drawn_38 (0 : Int32) s23 else bnd (f_X10_isWiped v22 s23) (fun _ s25 => f_X10_drawn_38 (1 : Int32) s25)))))))
def f_X10_feed_40_b  (rec40 : Int64 → Int32 → Int32 → Sg → Option (Int32 × Sg)) (a1 : Int64) (a3 : Int32) (a4 : Int32) (σ : Sg) : Option (Int32 × Sg) :=
  if a3 ≤ a4 then ckb (inb (5 : Int32) 408) (some ((rd (σ 1) (5 : Int32)), σ)) else ckb (inb (5 : Int32) 408) (ckb (inb ((82 : Int32) + (rd (σ 1) (5 : Int32))) 408) (lt (up σ 1 ((82 : Int32) + (rd (σ 1) (5 : Int32))).toNatClampNeg (((lsr a1 ((8 : Int32) * a4)) &&& (255 : Int64)).toInt32)) (fun s1 => ckb (inb (5 : Int32) 408) (ckb (inb (5 : Int32) 408) (lt (up s1 1 (5 : Int32).toNatClampNeg ((rd (s1 1) (5 : Int32)) + (1 : Int32))) (fun s2 => lt (a4 + (1 : Int32)) (fun v3 => rec40 a1 a3 v3 s2)))))))
def f_X10_feed_40  : Nat → Int64 → Int32 → Int32 → Sg → Option (Int32 × Sg)
  | 0 => fun _ _ _ _ => none
  | n + 1 => f_X10_feed_40_b   (f_X10_feed_40   n)
def f_X10_feed (a1 : Int64) (a3 : Int32) (σ : Sg) : Option (Int32 × Sg) :=
  bnd (f_X10_in a3 (1 : Int32) (8 : Int32) σ) (fun r5 s4 => if r5 = 0 then bnd (f_X10_error (-1000000001 : Int32) s4) (fun r9 s8 => some (r9, s8)) else ckb (inb (5 : Int32) 408) (if ((rd (s4 1) (5 : Int32)) + a3) ≤ (60 : Int32) then f_X10_feed_40 fuN a1 a3 (0 : Int32) s4 else bnd (f_X10_error (-1000000004 : Int32) s4) (fun r7 s6 => some (r7, s6))))
def f_X10_isSo_11_b  (rec11 : Int32 → Int32 → Int32 → Int32 → Sg → Option (Int32 × Sg)) (a1 : Int32) (a2 : Int32) (a3 : Int32) (a4 : Int32) (σ : Sg) : Option (Int32 × Sg) :=
  ckb (inb a1 4) (if (rd (σ 6) a1) ≤ a4 then ckb (isb a3) (some (a3, σ)) else if a3 = 0 then ckb (isb a3) (some (a3, σ)) else ckb (inb (((24 : Int32) * a1) + a4) 96) (if (rd (σ 7) (((24 : Int32) * a1) + a4)) = ((shr a2 a4) &&& (1 : Int32)) then lt (a4 + (1 : Int32)) (fun v4 => rec11 a1 a2 (1 : Int32) v4 σ) else lt (a4 + (1 : Int32)) (fun v3 => rec11 a1 a2 (0 : Int32) v3 σ)))
def f_X10_isSo_11  : Nat → Int32 → Int32 → Int32 → Int32 → Sg → Option (Int32 × Sg)
  | 0 => fun _ _ _ _ _ => none
  | n + 1 => f_X10_isSo_11_b   (f_X10_isSo_11   n)
def f_X10_isSo (a1 : Int32) (σ : Sg) : Option (Int32 × Sg) :=
  bnd (f_X10_takenBy (-1 : Int32) σ) (fun r6 s5 => f_X10_isSo_11 fuN a1 r6 (1 : Int32) (0 : Int32) s5)
def f_X10_fits_64  (a3 : Int32) (σ : Sg) : Option (Int32 × Sg) :=
  bnd (f_X10_putsBack σ) (fun _ s1 => if a3 ≤ (90 : Int32) then some (a3, s1) else bnd (f_X10_error (-1000000002 : Int32) s1) (fun r4 s3 => some (r4, s3)))
def f_X10_fits_40_b  (rec40 : Int32 → Int32 → Sg → Option (Int32 × Sg)) (a1 : Int32) (a3 : Int32) (σ : Sg) : Option (Int32 × Sg) :=
  if (90 : Int32) < a3 then f_X10_fits_64 a3 σ else bnd (f_X10_isSo a1 σ) (fun r6 s5 => if r6 = 0 then bnd (f_X10_clearsDay s5) (fun _ s7 => lt (a3 + (1 : Int32)) (fun v9 => rec40 a1 v9 s7)) else f_X10_fits_64 a3 s5)
def f_X10_fits_40  : Nat → Int32 → Int32 → Sg → Option (Int32 × Sg)
  | 0 => fun _ _ _ => none
  | n + 1 => f_X10_fits_40_b   (f_X10_fits_40   n)
def f_X10_fits (a1 : Int32) (σ : Sg) : Option (Int32 × Sg) :=
  bnd (f_X10_notThere a1 σ) (fun r11 s10 => if r11 = 0 then ckb (inb a1 4) (if (rd (s10 6) a1) ≤ (12 : Int32) then bnd (f_X10_thinks s10) (fun _ s12 => f_X10_fits_40 fuN a1 (0 : Int32) s12) else bnd (f_X10_error (-1000000002 : Int32) s10) (fun r15 s14 => some (r15, s14))) else bnd (f_X10_error r11 s10) (fun r17 s16 => some (r17, s16)))
def f_X10_runOf_36 (rec11 : Int32 → Int32 → Int32 → Int32 → Int32 → Int32 → Sg → Option (Int32 × Sg)) (a1 : Int32) (a2 : Int32) (a3 : Int32) (a4 : Int32) (a6 : Int32) (t0 : Int32) (σ : Sg) : Option (Int32 × Sg) :=
  if t0 ≤ a3 then if t0 ≤ a3 then lt (a6 + (1 : Int32)) (fun v1 => rec11 a1 a2 a3 a4 t0 v1 σ) else lt (a6 + (1 : Int32)) (fun v2 => rec11 a1 a2 t0 a4 t0 v2 σ) else lt (((a6 + (1 : Int32)) - t0)) (fun v3 => if t0 ≤ a3 then lt (a6 + (1 : Int32)) (fun v4 => rec11 a1 a2 a3 v3 t0 v4 σ) else lt (a6 + (1 : Int32)) (fun v5 => rec11 a1 a2 t0 v3 t0 v5 σ))
def f_X10_runOf_11_b  (rec11 : Int32 → Int32 → Int32 → Int32 → Int32 → Int32 → Sg → Option (Int32 × Sg)) (a1 : Int32) (a2 : Int32) (a3 : Int32) (a4 : Int32) (a5 : Int32) (a6 : Int32) (σ : Sg) : Option (Int32 × Sg) :=
  if (12 : Int32) ≤ a6 then if a2 = (2 : Int32) then some (a3, σ) else some (a4, σ) else if ((shr a1 a6) &&& (1 : Int32)) = (1 : Int32) then f_X10_runOf_36 rec11 a1 a2 a3 a4 a6 (0 : Int32) σ else f_X10_runOf_36 rec11 a1 a2 a3 a4 a6 (a5 + (1 : Int32)) σ
def f_X10_runOf_11  : Nat → Int32 → Int32 → Int32 → Int32 → Int32 → Int32 → Sg → Option (Int32 × Sg)
  | 0 => fun _ _ _ _ _ _ _ => none
  | n + 1 => f_X10_runOf_11_b   (f_X10_runOf_11   n)
def f_X10_runOf (a1 : Int32) (a2 : Int32) (σ : Sg) : Option (Int32 × Sg) :=
  f_X10_runOf_11 fuN a1 a2 (0 : Int32) (-1 : Int32) (0 : Int32) (0 : Int32) σ
def f_X10_free (a1 : Int32) (σ : Sg) : Option (Int32 × Sg) :=
  bnd (f_X10_in a1 (0 : Int32) (3 : Int32) σ) (fun r2 s1 => if r2 = 0 then bnd (f_X10_error (-1000000001 : Int32) s1) (fun r12 s11 => some (r12, s11)) else bnd (f_X10_takenBy (-1 : Int32) s1) (fun r4 s3 => if (2 : Int32) ≤ a1 then bnd (f_X10_runOf r4 a1 s3) (fun r6 s5 => if 0 ≤ r6 then some (r6, s5) else bnd (f_X10_error (-1000000002 : Int32) s5) (fun r8 s7 => some (r8, s7))) else if a1 = 0 then some (r4, s3) else bnd (f_X10_bits r4 s3) (fun r10 s9 => some (((12 : Int32) - r10), s9))))
def f_X10_image  (σ : Sg) : Option (Int32 × Sg) :=
  bnd (f_X10_copyAll 1 2 σ) (fun _ s1 => lt (up s1 0 3 ((s1 0 3) + (1 : Int32))) (fun s3 => some ((s3 0 3), s3)))
def f_X10_judge_18_b  (rec18 : Int32 → Int32 → Sg → Option (Int32 × Sg)) (a1 : Int32) (a3 : Int32) (σ : Sg) : Option (Int32 × Sg) :=
  ckb (inb a1 4) (if (rd (σ 6) a1) ≤ a3 then some (a3, σ) else ckb (inb (2 : Int32) 408) (if (rd (σ 1) (2 : Int32)) ≤ a3 then some (a3, σ) else ckb (inb (((24 : Int32) * a1) + a3) 96) (bnd (f_X10_backOf a3 σ) (fun r2 s1 => if (rd (σ 7) (((24 : Int32) * a1) + a3)) = r2 then lt (a3 + (1 : Int32)) (fun v3 => rec18 a1 v3 s1) else some (a3, s1)))))
def f_X10_judge_18  : Nat → Int32 → Int32 → Sg → Option (Int32 × Sg)
  | 0 => fun _ _ _ => none
  | n + 1 => f_X10_judge_18_b   (f_X10_judge_18   n)
def f_X10_judge (a1 : Int32) (σ : Sg) : Option (Int32 × Sg) :=
  bnd (f_X10_notThere a1 σ) (fun r5 s4 => if r5 = 0 then f_X10_judge_18 fuN a1 (0 : Int32) s4 else bnd (f_X10_error r5 s4) (fun r7 s6 => some (r7, s6)))
def f_X10_law (a1 : Int32) (a2 : Int32) (a3 : Int32) (a4 : Int32) (σ : Sg) : Option (Int32 × Sg) :=
  bnd (f_X10_in a1 (0 : Int32) (1 : Int32) σ) (fun r2 s1 => if r2 = 0 then bnd (f_X10_error (-1000000001 : Int32) s1) (fun r4 s3 => some (r4, s3)) else bnd (f_X10_gives a1 a2 a3 a4 s1) (fun r6 s5 => some (r6, s5)))
def f_X10_lineIs (a1 : Int32) (a2 : Int32) (σ : Sg) : Option (Int32 × Sg) :=
  bnd (f_X10_isLine a1 σ) (fun r2 s1 => if r2 = 0 then bnd (f_X10_error (-1000000001 : Int32) s1) (fun r4 s3 => some (r4, s3)) else bnd (f_X10_in a2 (0 : Int32) (9 : Int32) s1) (fun r6 s5 => if r6 = 0 then bnd (f_X10_error (-1000000001 : Int32) s5) (fun r16 s15 => some (r16, s15)) else if (7 : Int32) ≤ a2 then if a2 = (7 : Int32) then bnd (f_X10_mayGo a1 s5) (fun r12 s11 => if r12 = 0 then some ((0 : Int32), s11) else some ((1 : Int32), s11)) else if a2 = (8 : Int32) then bnd (f_X10_backOf a1 s5) (fun r10 s9 => some (r10, s9)) else bnd (f_X10_lossOf a1 s5) (fun r8 s7 => some (r8, s7)) else bnd (f_X10_it a1 a2 s5) (fun r14 s13 => some (r14, s13))))
def f_X10_linesOn_4_b  (rec4 : Int32 → Int32 → Int32 → Sg → Option (Int32 × Sg)) (a1 : Int32) (a2 : Int32) (a3 : Int32) (σ : Sg) : Option (Int32 × Sg) :=
  ckb (inb (2 : Int32) 408) (if (rd (σ 1) (2 : Int32)) ≤ a3 then some (a2, σ) else bnd (f_X10_it a3 (6 : Int32) σ) (fun r2 s1 => if r2 = 0 then bnd (f_X10_it a3 (2 : Int32) s1) (fun r6 s5 => if (r6 &&& a1) = 0 then lt ((a2 ||| (0 : Int32))) (fun v7 => lt (a3 + (1 : Int32)) (fun v8 => rec4 a1 v7 v8 s5)) else lt ((a2 ||| (shl (1 : Int32) a3))) (fun v9 => lt (a3 + (1 : Int32)) (fun v10 => rec4 a1 v9 v10 s5))) else lt ((a2 ||| (0 : Int32))) (fun v3 => lt (a3 + (1 : Int32)) (fun v4 => rec4 a1 v3 v4 s1))))
def f_X10_linesOn_4  : Nat → Int32 → Int32 → Int32 → Sg → Option (Int32 × Sg)
  | 0 => fun _ _ _ _ => none
  | n + 1 => f_X10_linesOn_4_b   (f_X10_linesOn_4   n)
def f_X10_linesOn (a1 : Int32) (σ : Sg) : Option (Int32 × Sg) :=
  f_X10_linesOn_4 fuN a1 (0 : Int32) (0 : Int32) σ
def f_X10_loose_42_b  (rec42 : Int32 → Int32 → Int32 → Sg → Option (Int32 × Sg)) (a1 : Int32) (a2 : Int32) (a3 : Int32) (σ : Sg) : Option (Int32 × Sg) :=
  if a1 ≤ a3 then some (a2, σ) else bnd (f_X10_drawn σ) (fun r2 s1 => lt ((a2 + r2)) (fun v3 => lt (a3 + (1 : Int32)) (fun v4 => rec42 a1 v3 v4 s1)))
def f_X10_loose_42  : Nat → Int32 → Int32 → Int32 → Sg → Option (Int32 × Sg)
  | 0 => fun _ _ _ _ => none
  | n + 1 => f_X10_loose_42_b   (f_X10_loose_42   n)
def f_X10_loose (a1 : Int32) (σ : Sg) : Option (Int32 × Sg) :=
  bnd (f_X10_in a1 (1 : Int32) (30 : Int32) σ) (fun r6 s5 => if r6 = 0 then bnd (f_X10_error (-1000000001 : Int32) s5) (fun r10 s9 => some (r10, s9)) else ckb (inb (0 : Int32) 408) (if ((rd (s5 1) (0 : Int32)) + a1) ≤ (9999 : Int32) then f_X10_loose_42 fuN a1 (0 : Int32) (0 : Int32) s5 else bnd (f_X10_error (-1000000003 : Int32) s5) (fun r8 s7 => some (r8, s7))))
def f_X10_lossOn_11_b  (rec11 : Int32 → Int32 → Int32 → Sg → Option (Int32 × Sg)) (a2 : Int32) (a3 : Int32) (a4 : Int32) (σ : Sg) : Option (Int32 × Sg) :=
  ckb (inb (2 : Int32) 408) (if (rd (σ 1) (2 : Int32)) ≤ a4 then some (a3, σ) else if ((shr a2 a4) &&& (1 : Int32)) = (1 : Int32) then bnd (f_X10_mayGo a4 σ) (fun r3 s2 => if r3 = 0 then some ((-1 : Int32), s2) else bnd (f_X10_lossOf a4 s2) (fun r5 s4 => lt ((a3 + r5)) (fun v6 => lt (a4 + (1 : Int32)) (fun v7 => rec11 a2 v6 v7 s4)))) else lt (a4 + (1 : Int32)) (fun v1 => rec11 a2 a3 v1 σ))
def f_X10_lossOn_11  : Nat → Int32 → Int32 → Int32 → Sg → Option (Int32 × Sg)
  | 0 => fun _ _ _ _ => none
  | n + 1 => f_X10_lossOn_11_b   (f_X10_lossOn_11   n)
def f_X10_lossOn (a1 : Int32) (σ : Sg) : Option (Int32 × Sg) :=
  bnd (f_X10_linesOn a1 σ) (fun r9 s8 => f_X10_lossOn_11 fuN r9 (0 : Int32) (0 : Int32) s8)
def f_X10_notMoved (a1 : Int32) (a2 : Int32) (a3 : Int32) (a4 : Int32) (a5 : Int32) (σ : Sg) : Option (Int32 × Sg) :=
  bnd (f_X10_isSheet a1 σ) (fun r2 s1 => if r2 = 0 then some ((-1000000001 : Int32), s1) else bnd (f_X10_isSheet a3 s1) (fun r4 s3 => if r4 = 0 then some ((-1000000001 : Int32), s3) else ckb (inb a1 4) (if (rd (s3 5) a1) = 0 then some ((-1000000002 : Int32), s3) else ckb (inb a3 4) (if (rd (s3 5) a3) = 0 then some ((-1000000002 : Int32), s3) else ckb (inb a1 4) (ckb (inb a3 4) (if (rd (s3 5) a1) = (rd (s3 5) a3) then if a5 < 0 then if (0 : Int32) = 0 then some ((-1000000001 : Int32), s3) else some ((0 : Int32), s3) else if a2 < 0 then if (0 : Int32) = 0 then some ((-1000000001 : Int32), s3) else some ((0 : Int32), s3) else if a4 < 0 then if (0 : Int32) = 0 then some ((-1000000001 : Int32), s3) else some ((0 : Int32), s3) else ckb (inb a1 4) (if ((rd (s3 6) a1) - a2) < a5 then if (0 : Int32) = 0 then some ((-1000000001 : Int32), s3) else some ((0 : Int32), s3) else ckb (inb a3 4) (if ((rd (s3 6) a3) - a4) < a5 then if (0 : Int32) = 0 then some ((-1000000001 : Int32), s3) else some ((0 : Int32), s3) else if (1 : Int32) = 0 then some ((-1000000001 : Int32), s3) else some ((0 : Int32), s3))) else some ((-1000000005 : Int32), s3)))))))
def f_X10_move_53 (rec28 : Int32 → Int32 → Int32 → Int32 → Int32 → Int32 → Sg → Option (Int32 × Sg)) (a1 : Int32) (a2 : Int32) (a3 : Int32) (a4 : Int32) (a5 : Int32) (a7 : Int32) (t0 : Int32) (σ : Sg) : Option (Int32 × Sg) :=
  ckb (inb ((((24 : Int32) * a1) + a2) + t0) 96) (ckb (inb ((((24 : Int32) * a3) + a4) + t0) 96) (lt (up σ 7 ((((24 : Int32) * a3) + a4) + t0).toNatClampNeg (rd (σ 7) ((((24 : Int32) * a1) + a2) + t0))) (fun s1 => lt (a7 + (1 : Int32)) (fun v2 => rec28 a1 a2 a3 a4 a5 v2 s1))))
def f_X10_move_28_b  (rec28 : Int32 → Int32 → Int32 → Int32 → Int32 → Int32 → Sg → Option (Int32 × Sg)) (a1 : Int32) (a2 : Int32) (a3 : Int32) (a4 : Int32) (a5 : Int32) (a7 : Int32) (σ : Sg) : Option (Int32 × Sg) :=
  if a5 ≤ a7 then some (a5, σ) else if a4 ≤ a2 then f_X10_move_53 rec28 a1 a2 a3 a4 a5 a7 a7 σ else f_X10_move_53 rec28 a1 a2 a3 a4 a5 a7 ((a5 - (1 : Int32)) - a7) σ
def f_X10_move_28  : Nat → Int32 → Int32 → Int32 → Int32 → Int32 → Int32 → Sg → Option (Int32 × Sg)
  | 0 => fun _ _ _ _ _ _ _ => none
  | n + 1 => f_X10_move_28_b   (f_X10_move_28   n)
def f_X10_move (a1 : Int32) (a2 : Int32) (a3 : Int32) (a4 : Int32) (a5 : Int32) (σ : Sg) : Option (Int32 × Sg) :=
  bnd (f_X10_notMoved a1 a2 a3 a4 a5 σ) (fun r4 s3 => if r4 = 0 then f_X10_move_28 fuN a1 a2 a3 a4 a5 (0 : Int32) s3 else bnd (f_X10_error r4 s3) (fun r6 s5 => some (r6, s5)))
def f_X10_odds_106_b  (rec106 : Int32 → Int64 → Int64 → Int64 → Int64 → Sg → Option (Int64 × Sg)) (a2 : Int32) (a3 : Int64) (a5 : Int64) (a7 : Int64) (a9 : Int64) (σ : Sg) : Option (Int64 × Sg) :=
  if (lg_cmp a7 (0 : Int64)) = 0 then if a2 = 0 then ckb (nzl a9) (some ((a3 / a9), σ)) else ckb (nzl a9) (some ((a5 / a9), σ)) else ckb (nzl a7) (lt ((lrm a9 a7)) (fun v4 => rec106 a2 a3 a5 v4 a7 σ))
def f_X10_odds_106  : Nat → Int32 → Int64 → Int64 → Int64 → Int64 → Sg → Option (Int64 × Sg)
  | 0 => fun _ _ _ _ _ _ => none
  | n + 1 => f_X10_odds_106_b   (f_X10_odds_106   n)
def f_X10_odds_51_b  (rec51 : Int32 → Int32 → Int64 → Int64 → Int32 → Sg → Option (Int64 × Sg)) (a1 : Int32) (a2 : Int32) (a3 : Int64) (a5 : Int64) (a7 : Int32) (σ : Sg) : Option (Int64 × Sg) :=
  ckb (inb (2 : Int32) 408) (if (rd (σ 1) (2 : Int32)) ≤ a7 then f_X10_odds_106 fuN a2 a3 a5 a3 a5 σ else if ((shr a1 a7) &&& (1 : Int32)) = (1 : Int32) then bnd (f_X10_backOf a7 σ) (fun r7 s6 => lt ((a3 * (((100 : Int32) - r7).toInt64))) (fun v8 => lt ((a5 * (100 : Int64))) (fun v9 => lt (a7 + (1 : Int32)) (fun v10 => rec51 a1 a2 v8 v9 v10 s6)))) else lt (a7 + (1 : Int32)) (fun v5 => rec51 a1 a2 a3 a5 v5 σ))
def f_X10_odds_51  : Nat → Int32 → Int32 → Int64 → Int64 → Int32 → Sg → Option (Int64 × Sg)
  | 0 => fun _ _ _ _ _ _ => none
  | n + 1 => f_X10_odds_51_b   (f_X10_odds_51   n)
def f_X10_odds (a1 : Int32) (a2 : Int32) (σ : Sg) : Option (Int64 × Sg) :=
  ckb (inb (2 : Int32) 408) (bnd (f_X10_in a1 (0 : Int32) ((shl (1 : Int32) (rd (σ 1) (2 : Int32))) - (1 : Int32)) σ) (fun r12 s11 => if r12 = 0 then bnd (f_X10_error (-1000000001 : Int32) s11) (fun r14 s13 => some (r14.toInt64, s13)) else bnd (f_X10_bits a1 s11) (fun r16 s15 => if (4 : Int32) < r16 then bnd (f_X10_error (-1000000001 : Int32) s15) (fun r18 s17 => some (r18.toInt64, s17)) else bnd (f_X10_in a2 (0 : Int32) (1 : Int32) s15) (fun r20 s19 => if r20 = 0 then bnd (f_X10_error (-1000000001 : Int32) s19) (fun r22 s21 => some (r22.toInt64, s21)) else f_X10_odds_51 fuN a1 a2 (1 : Int64) (1 : Int64) (0 : Int32) s19))))
def f_X10_of (a1 : Int32) (σ : Sg) : Option (Int32 × Sg) :=
  bnd (f_X10_in a1 (0 : Int32) (5 : Int32) σ) (fun r2 s1 => if r2 = 0 then bnd (f_X10_error (-1000000001 : Int32) s1) (fun r4 s3 => some (r4, s3)) else bnd (f_X10_takenBy a1 s1) (fun r6 s5 => bnd (f_X10_bits r6 s5) (fun r8 s7 => some (r8, s7))))
def f_X10_partsFrom_37_b (g_X10_partsFrom : Int32 → Int32 → Sg → Option (Int32 × Sg))  (rec37 : Int32 → Int32 → Int32 → Int32 → Int32 → Sg → Option (Int32 × Sg)) (a1 : Int32) (a2 : Int32) (a3 : Int32) (a4 : Int32) (a5 : Int32) (σ : Sg) : Option (Int32 × Sg) :=
  if (12 : Int32) ≤ a5 then some (a4, σ) else ckb (inb a5 12) (if (rd (σ 12) a5) < a3 then lt (a5 + (1 : Int32)) (fun v1 => rec37 a1 a2 a3 a4 v1 σ) else ckb (inb a5 12) (ckb (inb a5 12) (lt (up σ 12 a5.toNatClampNeg ((rd (σ 12) a5) - a3)) (fun s2 => bnd (g_X10_partsFrom a1 (a2 + (1 : Int32)) s2) (fun r4 s3 => lt (((1 : Int32) + r4)) (fun v5 => ckb (inb a5 12) (ckb (inb a5 12) (lt (up s3 12 a5.toNatClampNeg ((rd (s3 12) a5) + a3)) (fun s6 => if v5 ≤ a4 then lt (a5 + (1 : Int32)) (fun v7 => rec37 a1 a2 a3 a4 v7 s6) else lt (a5 + (1 : Int32)) (fun v8 => rec37 a1 a2 a3 v5 v8 s6))))))))))
def f_X10_partsFrom_37 (g_X10_partsFrom : Int32 → Int32 → Sg → Option (Int32 × Sg))  : Nat → Int32 → Int32 → Int32 → Int32 → Int32 → Sg → Option (Int32 × Sg)
  | 0 => fun _ _ _ _ _ _ => none
  | n + 1 => f_X10_partsFrom_37_b g_X10_partsFrom  (f_X10_partsFrom_37 g_X10_partsFrom  n)
def f_X10_partsFrom_e (g_X10_partsFrom : Int32 → Int32 → Sg → Option (Int32 × Sg)) (a1 : Int32) (a2 : Int32) (σ : Sg) : Option (Int32 × Sg) :=
  ckb (inb a1 4) (if a2 = (rd (σ 6) a1) then some ((0 : Int32), σ) else ckb (inb (((24 : Int32) * a1) + a2) 96) (lt ((rd (σ 7) (((24 : Int32) * a1) + a2))) (fun v9 => bnd (g_X10_partsFrom a1 (a2 + (1 : Int32)) σ) (fun r11 s10 => f_X10_partsFrom_37 g_X10_partsFrom fuN a1 a2 v9 r11 (0 : Int32) s10))))
def G_X10_partsFrom : Nat → (Int32 → Int32 → Sg → Option (Int32 × Sg))
  | 0 => (fun _ _ _ => none)
  | d + 1 => (f_X10_partsFrom_e (G_X10_partsFrom d))
def f_X10_partsFrom : Int32 → Int32 → Sg → Option (Int32 × Sg) := (G_X10_partsFrom 64)
def f_X10_parts_143 (rec91 : Int32 → Int32 → Int32 → Int32 → Sg → Option (Int32 × Sg)) (a1 : Int32) (a3 : Int32) (a5 : Int32) (a6 : Int32) (t0 : Int32) (σ : Sg) : Option (Int32 × Sg) :=
  if a6 = 0 then lt (a5 + (1 : Int32)) (fun v1 => rec91 a1 a3 t0 v1 σ) else ckb (inb t0 12) (ckb (inb t0 12) (lt (up σ 12 t0.toNatClampNeg ((rd (σ 12) t0) + (1 : Int32))) (fun s2 => lt (a5 + (1 : Int32)) (fun v3 => rec91 a1 a3 t0 v3 s2))))
def f_X10_parts_91_b  (rec91 : Int32 → Int32 → Int32 → Int32 → Sg → Option (Int32 × Sg)) (a1 : Int32) (a3 : Int32) (a4 : Int32) (a5 : Int32) (σ : Sg) : Option (Int32 × Sg) :=
  if (12 : Int32) ≤ a5 then bnd (f_X10_partsFrom a1 (0 : Int32) σ) (fun r5 s4 => some (r5, s4)) else ckb (inb a5 12) (lt (up σ 12 a5.toNatClampNeg (0 : Int32)) (fun s6 => if ((shr a3 a5) &&& (1 : Int32)) = 0 then if (1 : Int32) = 0 then f_X10_parts_143 rec91 a1 a3 a5 (1 : Int32) (-1 : Int32) s6 else if 0 ≤ a4 then f_X10_parts_143 rec91 a1 a3 a5 (1 : Int32) a4 s6 else f_X10_parts_143 rec91 a1 a3 a5 (1 : Int32) a5 s6 else if (0 : Int32) = 0 then f_X10_parts_143 rec91 a1 a3 a5 (0 : Int32) (-1 : Int32) s6 else if 0 ≤ a4 then f_X10_parts_143 rec91 a1 a3 a5 (0 : Int32) a4 s6 else f_X10_parts_143 rec91 a1 a3 a5 (0 : Int32) a5 s6))
def f_X10_parts_91  : Nat → Int32 → Int32 → Int32 → Int32 → Sg → Option (Int32 × Sg)
  | 0 => fun _ _ _ _ _ => none
  | n + 1 => f_X10_parts_91_b   (f_X10_parts_91   n)
def f_X10_parts_36_b  (rec36 : Int32 → Int32 → Sg → Option (Int32 × Sg)) (a1 : Int32) (a3 : Int32) (σ : Sg) : Option (Int32 × Sg) :=
  ckb (inb a1 4) (if (rd (σ 6) a1) ≤ a3 then bnd (f_X10_takenBy (-1 : Int32) σ) (fun r8 s7 => f_X10_parts_91 fuN a1 r8 (-1 : Int32) (0 : Int32) s7) else ckb (inb (((24 : Int32) * a1) + a3) 96) (bnd (f_X10_in (rd (σ 7) (((24 : Int32) * a1) + a3)) (1 : Int32) (12 : Int32) σ) (fun r10 s9 => if r10 = 0 then bnd (f_X10_error (-1000000003 : Int32) s9) (fun r13 s12 => some (r13, s12)) else lt (a3 + (1 : Int32)) (fun v11 => rec36 a1 v11 s9))))
def f_X10_parts_36  : Nat → Int32 → Int32 → Sg → Option (Int32 × Sg)
  | 0 => fun _ _ _ => none
  | n + 1 => f_X10_parts_36_b   (f_X10_parts_36   n)
def f_X10_parts (a1 : Int32) (σ : Sg) : Option (Int32 × Sg) :=
  bnd (f_X10_notThere a1 σ) (fun r15 s14 => if r15 = 0 then ckb (inb a1 4) (if (rd (s14 6) a1) ≤ (6 : Int32) then f_X10_parts_36 fuN a1 (0 : Int32) s14 else bnd (f_X10_error (-1000000002 : Int32) s14) (fun r17 s16 => some (r17, s16))) else bnd (f_X10_error r15 s14) (fun r19 s18 => some (r19, s18)))
def f_X10_plainParts (a1 : Int32) (a2 : Int32) (σ : Sg) : Option (Int32 × Sg) :=
  bnd (f_X10_begins (13 : Int32) σ) (fun _ s1 => bnd (f_X10_it a1 (1 : Int32) s1) (fun r4 s3 => lt ((r4 - a1)) (fun v5 => if v5 = 0 then lt (up s3 0 20 (1 : Int32)) (fun s8 => if (s8 0 20) = 0 then ckb (nz v5) (some ((a2 / v5), s8)) else some ((0 : Int32), s8)) else lt (up s3 0 20 (0 : Int32)) (fun s6 => if (s6 0 20) = 0 then ckb (nz v5) (some ((a2 / v5), s6)) else some ((0 : Int32), s6)))))
def f_X10_smears (a1 : Int32) (a2 : Int32) (σ : Sg) : Option (Int32 × Sg) :=
  bnd (f_X10_it a1 (0 : Int32) σ) (fun r2 s1 => if r2 = (2 : Int32) then bnd (f_X10_arrowSmears a1 a2 s1) (fun r5 s4 => some (r5, s4)) else if r2 = (3 : Int32) then bnd (f_X10_plainSmears a1 a2 s1) (fun r8 s7 => some (r8, s7)) else if r2 = (4 : Int32) then bnd (f_X10_plainSmears a1 a2 s1) (fun r11 s10 => some (r11, s10)) else if r2 = (5 : Int32) then bnd (f_X10_begins (60 : Int32) s1) (fun _ s13 => bnd (f_X10_arrowSmears a1 (a2 + (1 : Int32)) s13) (fun r16 s15 => some (r16, s15))) else if r2 = (6 : Int32) then bnd (f_X10_begins (71 : Int32) s1) (fun _ s18 => bnd (f_X10_plainSmears a1 a2 s18) (fun r21 s20 => bnd (f_X10_it a1 (1 : Int32) s20) (fun r23 s22 => some ((r21 + r23), s22)))) else bnd (f_X10_plainSmears a1 a2 s1) (fun r25 s24 => some (r25, s24)))
def f_X10_partsBy_20  (a1 : Int32) (a2 : Int32) (σ : Sg) : Option (Int32 × Sg) :=
  bnd (f_X10_begins (21 : Int32) σ) (fun _ s1 => bnd (f_X10_plainParts a1 a2 s1) (fun r4 s3 => if (s3 0 20) = 0 then bnd (f_X10_smears a1 (1 : Int32) s3) (fun r6 s5 => some ((r4 + r6), s5)) else some ((0 : Int32), s3)))
def f_X10_partsBy (a1 : Int32) (a2 : Int32) (σ : Sg) : Option (Int32 × Sg) :=
  bnd (f_X10_it a1 (0 : Int32) σ) (fun r8 s7 => if r8 = (1 : Int32) then f_X10_partsBy_20 a1 a2 s7 else bnd (f_X10_it a1 (0 : Int32) s7) (fun r10 s9 => if r10 = (4 : Int32) then f_X10_partsBy_20 a1 a2 s9 else bnd (f_X10_plainParts a1 a2 s9) (fun r12 s11 => some (r12, s11))))
def f_X10_pen (a1 : Int32) (a2 : Int32) (σ : Sg) : Option (Int32 × Sg) :=
  bnd (f_X10_in a1 (0 : Int32) (4 : Int32) σ) (fun r2 s1 => if r2 = 0 then bnd (f_X10_error (-1000000001 : Int32) s1) (fun r4 s3 => some (r4, s3)) else bnd (f_X10_in a2 (0 : Int32) (99 : Int32) s1) (fun r6 s5 => if r6 = 0 then bnd (f_X10_error (-1000000001 : Int32) s5) (fun r8 s7 => some (r8, s7)) else bnd (f_X10_becomes ((7 : Int32) + a1) a2 s5) (fun r10 s9 => some (r10, s9))))
def f_X10_photo (a1 : Int32) (a2 : Int32) (σ : Sg) : Option (Int32 × Sg) :=
  bnd (f_X10_isLine a1 σ) (fun r2 s1 => if r2 = 0 then bnd (f_X10_error (-1000000001 : Int32) s1) (fun r4 s3 => some (r4, s3)) else bnd (f_X10_in a2 (0 : Int32) (1 : Int32) s1) (fun r6 s5 => if r6 = 0 then bnd (f_X10_error (-1000000001 : Int32) s5) (fun r8 s7 => some (r8, s7)) else bnd (f_X10_becomes (((12 : Int32) + ((7 : Int32) * a1)) + (5 : Int32)) a2 s5) (fun r10 s9 => some (r10, s9))))
def f_X10_plainStays (a1 : Int32) (a2 : Int32) (σ : Sg) : Option (Int32 × Sg) :=
  bnd (f_X10_begins (12 : Int32) σ) (fun _ s1 => bnd (f_X10_smears a1 a2 s1) (fun r4 s3 => bnd (f_X10_it a1 (1 : Int32) s3) (fun r6 s5 => some ((r4 - r6), s5))))
def f_X10_put_35  (a1 : Int32) (a2 : Int32) (a3 : Int32) (t0 : Int32) (σ : Sg) : Option (Int32 × Sg) :=
  if t0 = 0 then ckb (inb a1 4) (if (rd (σ 5) a1) = (8 : Int32) then ckb (inb (((24 : Int32) * a1) + a2) 96) (lt (up σ 7 (((24 : Int32) * a1) + a2).toNatClampNeg a3.toInt8.toInt32) (fun s3 => some ((1 : Int32), s3))) else ckb (inb a1 4) (if (rd (σ 5) a1) = (16 : Int32) then ckb (inb (((24 : Int32) * a1) + a2) 96) (lt (up σ 7 (((24 : Int32) * a1) + a2).toNatClampNeg a3.toInt16.toInt32) (fun s2 => some ((1 : Int32), s2))) else ckb (inb (((24 : Int32) * a1) + a2) 96) (lt (up σ 7 (((24 : Int32) * a1) + a2).toNatClampNeg a3) (fun s1 => some ((1 : Int32), s1))))) else bnd (f_X10_error t0 σ) (fun r5 s4 => some (r5, s4))
def f_X10_put (a1 : Int32) (a2 : Int32) (a3 : Int32) (σ : Sg) : Option (Int32 × Sg) :=
  bnd (f_X10_notThere a1 σ) (fun r7 s6 => if r7 = 0 then ckb (inb a1 4) (bnd (f_X10_in a2 (0 : Int32) ((rd (s6 6) a1) - (1 : Int32)) s6) (fun r9 s8 => if r9 = 0 then f_X10_put_35 a1 a2 a3 (-1000000001 : Int32) s8 else f_X10_put_35 a1 a2 a3 r7 s8)) else f_X10_put_35 a1 a2 a3 r7 s6)
def f_X10_restore  (σ : Sg) : Option (Int32 × Sg) :=
  if (σ 0 3) = 0 then bnd (f_X10_error (-1000000002 : Int32) σ) (fun r4 s3 => some (r4, s3)) else bnd (f_X10_copyAll 2 1 σ) (fun _ s1 => ckb (inb (0 : Int32) 408) (some ((rd (s1 1) (0 : Int32)), s1)))
def f_X10_window (a0 : Int32) (a1 : Int32) (σ : Sg) : Option (Int32 × Sg) :=
  some ((shl ((shl (1 : Int32) a1) - (1 : Int32)) a0), σ)
def f_X10_roomAt_48 (rec7 : Int32 → Int32 → Int32 → Int32 → Sg → Option (Int32 × Sg)) (a1 : Int32) (a2 : Int32) (a3 : Int32) (a4 : Int32) (a5 : Int32) (t0 : Int32) (σ : Sg) : Option (Int32 × Sg) :=
  if t0 = 0 then if t0 = 0 then lt (a4 + (1 : Int32)) (fun v1 => rec7 a1 a2 a3 v1 σ) else lt (a4 + (1 : Int32)) (fun v2 => rec7 a1 a2 a5 v2 σ) else if t0 = 0 then lt (a4 + (1 : Int32)) (fun v3 => rec7 a1 a4 a3 v3 σ) else lt (a4 + (1 : Int32)) (fun v4 => rec7 a1 a4 a5 v4 σ)
def f_X10_roomAt_7_b  (rec7 : Int32 → Int32 → Int32 → Int32 → Sg → Option (Int32 × Sg)) (a1 : Int32) (a2 : Int32) (a3 : Int32) (a4 : Int32) (σ : Sg) : Option (Int32 × Sg) :=
  if (12 : Int32) < (a4 + a1) then some (a2, σ) else bnd (f_X10_window a4 a1 σ) (fun r6 s5 => bnd (f_X10_lossOn r6 s5) (fun r8 s7 => if r8 < 0 then f_X10_roomAt_48 rec7 a1 a2 a3 a4 r8 (0 : Int32) s7 else if a2 < 0 then f_X10_roomAt_48 rec7 a1 a2 a3 a4 r8 (1 : Int32) s7 else if a3 ≤ r8 then f_X10_roomAt_48 rec7 a1 a2 a3 a4 r8 (0 : Int32) s7 else f_X10_roomAt_48 rec7 a1 a2 a3 a4 r8 (1 : Int32) s7))
def f_X10_roomAt_7  : Nat → Int32 → Int32 → Int32 → Int32 → Sg → Option (Int32 × Sg)
  | 0 => fun _ _ _ _ _ => none
  | n + 1 => f_X10_roomAt_7_b   (f_X10_roomAt_7   n)
def f_X10_roomAt (a1 : Int32) (σ : Sg) : Option (Int32 × Sg) :=
  f_X10_roomAt_7 fuN a1 (-1 : Int32) (0 : Int32) (0 : Int32) σ
def f_X10_room (a1 : Int32) (a2 : Int32) (σ : Sg) : Option (Int32 × Sg) :=
  bnd (f_X10_in a1 (1 : Int32) (12 : Int32) σ) (fun r2 s1 => if r2 = 0 then bnd (f_X10_error (-1000000001 : Int32) s1) (fun r4 s3 => some (r4, s3)) else bnd (f_X10_in a2 (0 : Int32) (3 : Int32) s1) (fun r6 s5 => if r6 = 0 then bnd (f_X10_error (-1000000001 : Int32) s5) (fun r22 s21 => some (r22, s21)) else bnd (f_X10_roomAt a1 s5) (fun r8 s7 => if 0 ≤ r8 then bnd (f_X10_window r8 a1 s7) (fun r10 s9 => bnd (f_X10_linesOn r10 s9) (fun r12 s11 => if a2 = 0 then bnd (f_X10_lossOn r10 s11) (fun r18 s17 => some (r18, s17)) else if a2 = (1 : Int32) then some (r8, s11) else if a2 = (2 : Int32) then some (r12, s11) else ckb (inb (0 : Int32) 408) (bnd (f_X10_bits r12 s11) (fun r14 s13 => bnd (f_X10_gives (1 : Int32) a1 (irm (rd (s11 1) (0 : Int32)) (7 : Int32)) r14 s13) (fun r16 s15 => some (r16, s15)))))) else bnd (f_X10_error (-1000000002 : Int32) s7) (fun r20 s19 => some (r20, s19)))))
def f_X10_seed (a1 : Int32) (σ : Sg) : Option (Int32 × Sg) :=
  bnd (f_X10_becomes (1 : Int32) a1 σ) (fun r2 s1 => some (r2, s1))
def f_X10_sheet_93_b  (rec93 : Int32 → Int32 → Sg → Option (Int32 × Sg)) (a1 : Int32) (a4 : Int32) (σ : Sg) : Option (Int32 × Sg) :=
  if (24 : Int32) ≤ a4 then some ((1 : Int32), σ) else ckb (inb (((24 : Int32) * a1) + a4) 96) (lt (up σ 7 (((24 : Int32) * a1) + a4).toNatClampNeg (0 : Int32)) (fun s1 => lt (a4 + (1 : Int32)) (fun v2 => rec93 a1 v2 s1)))
def f_X10_sheet_93  : Nat → Int32 → Int32 → Sg → Option (Int32 × Sg)
  | 0 => fun _ _ _ => none
  | n + 1 => f_X10_sheet_93_b   (f_X10_sheet_93   n)
def f_X10_sheet_68  (a1 : Int32) (a2 : Int32) (a3 : Int32) (σ : Sg) : Option (Int32 × Sg) :=
  ckb (inb a1 4) (lt (up σ 5 a1.toNatClampNeg a2) (fun s3 => if a2 = 0 then ckb (inb a1 4) (lt (up s3 6 a1.toNatClampNeg (0 : Int32)) (fun s5 => f_X10_sheet_93 fuN a1 (0 : Int32) s5)) else ckb (inb a1 4) (lt (up s3 6 a1.toNatClampNeg a3) (fun s4 => f_X10_sheet_93 fuN a1 (0 : Int32) s4))))
def f_X10_sheet_51  (a1 : Int32) (a2 : Int32) (a3 : Int32) (σ : Sg) : Option (Int32 × Sg) :=
  if a2 ≤ 0 then f_X10_sheet_68 a1 a2 a3 σ else if a3 ≤ (24 : Int32) then f_X10_sheet_68 a1 a2 a3 σ else bnd (f_X10_error (-1000000001 : Int32) σ) (fun r7 s6 => some (r7, s6))
def f_X10_sheet_36  (a1 : Int32) (a2 : Int32) (a3 : Int32) (σ : Sg) : Option (Int32 × Sg) :=
  if a2 ≤ 0 then f_X10_sheet_51 a1 a2 a3 σ else if 0 ≤ a3 then f_X10_sheet_51 a1 a2 a3 σ else bnd (f_X10_error (-1000000003 : Int32) σ) (fun r9 s8 => some (r9, s8))
def f_X10_sheet (a1 : Int32) (a2 : Int32) (a3 : Int32) (σ : Sg) : Option (Int32 × Sg) :=
  bnd (f_X10_isSheet a1 σ) (fun r11 s10 => if r11 = 0 then bnd (f_X10_error (-1000000001 : Int32) s10) (fun r13 s12 => some (r13, s12)) else if a2 = 0 then f_X10_sheet_36 a1 a2 a3 s10 else if a2 = (8 : Int32) then f_X10_sheet_36 a1 a2 a3 s10 else if a2 = (16 : Int32) then f_X10_sheet_36 a1 a2 a3 s10 else if a2 = (32 : Int32) then f_X10_sheet_36 a1 a2 a3 s10 else bnd (f_X10_error (-1000000001 : Int32) s10) (fun r15 s14 => some (r15, s14)))
def f_X10_spirit (a1 : Int32) (σ : Sg) : Option (Int32 × Sg) :=
  bnd (f_X10_in a1 (0 : Int32) (1 : Int32) σ) (fun r2 s1 => if r2 = 0 then bnd (f_X10_error (-1000000001 : Int32) s1) (fun r4 s3 => some (r4, s3)) else bnd (f_X10_becomes (3 : Int32) a1 s1) (fun r6 s5 => some (r6, s5)))
def f_X10_stays (a1 : Int32) (a2 : Int32) (σ : Sg) : Option (Int32 × Sg) :=
  bnd (f_X10_it a1 (0 : Int32) σ) (fun r2 s1 => if r2 = (3 : Int32) then bnd (f_X10_begins (40 : Int32) s1) (fun _ s4 => bnd (f_X10_plainStays a1 (a2 / (2 : Int32)) s4) (fun r7 s6 => some (r7, s6))) else if r2 = (4 : Int32) then bnd (f_X10_begins (51 : Int32) s1) (fun _ s9 => bnd (f_X10_plainStays a1 a2 s9) (fun r12 s11 => some ((r12 ^^^ a1), s11))) else bnd (f_X10_plainStays a1 a2 s1) (fun r14 s13 => some (r14, s13)))
def f_X10_tell (a1 : Int32) (σ : Sg) : Option (Int32 × Sg) :=
  ckb (inb (6 : Int32) 408) (if (rd (σ 1) (6 : Int32)) = (24 : Int32) then bnd (f_X10_error (-1000000004 : Int32) σ) (fun r4 s3 => some (r4, s3)) else ckb (inb (6 : Int32) 408) (ckb (inb ((142 : Int32) + (rd (σ 1) (6 : Int32))) 408) (lt (up σ 1 ((142 : Int32) + (rd (σ 1) (6 : Int32))).toNatClampNeg a1) (fun s1 => ckb (inb (6 : Int32) 408) (ckb (inb (6 : Int32) 408) (lt (up s1 1 (6 : Int32).toNatClampNeg ((rd (s1 1) (6 : Int32)) + (1 : Int32))) (fun s2 => ckb (inb (6 : Int32) 408) (some ((rd (s2 1) (6 : Int32)), s2)))))))))
def f_X10_text_117_b  (rec117 : Int32 → Int32 → Sg → Option (Int32 × Sg)) (a2 : Int32) (a3 : Int32) (σ : Sg) : Option (Int32 × Sg) :=
  if (σ 0 12) ≤ a3 then some ((1 : Int32), σ) else ckb (inb a3 60) (ckb (inb ((a2 + (1 : Int32)) + a3) 408) (lt (up σ 1 ((a2 + (1 : Int32)) + a3).toNatClampNeg (rd (σ 8) a3)) (fun s1 => ckb (inb a3 60) (ckb (inb ((a2 + (61 : Int32)) + a3) 408) (lt (up s1 1 ((a2 + (61 : Int32)) + a3).toNatClampNeg (rd (s1 9) a3)) (fun s2 => lt (a3 + (1 : Int32)) (fun v3 => rec117 a2 v3 s2)))))))
def f_X10_text_117  : Nat → Int32 → Int32 → Sg → Option (Int32 × Sg)
  | 0 => fun _ _ _ => none
  | n + 1 => f_X10_text_117_b   (f_X10_text_117   n)
def f_X10_text_71  (a1 : Int32) (t0 : Int32) (σ : Sg) : Option (Int32 × Sg) :=
  ckb (isb t0) (lt (up σ 0 15 t0) (fun s4 => ckb (inb (5 : Int32) 408) (lt (up s4 1 (5 : Int32).toNatClampNeg (0 : Int32)) (fun s6 => if (s6 0 15) = 0 then lt (((166 : Int32) + ((121 : Int32) * a1))) (fun v7 => ckb (inb v7 408) (lt (up s6 1 v7.toNatClampNeg (s6 0 12)) (fun s8 => f_X10_text_117 fuN v7 (0 : Int32) s8))) else some (((-10 : Int32) - (s6 0 13)), s6)))))
def f_X10_text (a1 : Int32) (σ : Sg) : Option (Int32 × Sg) :=
  bnd (f_X10_in a1 (0 : Int32) (1 : Int32) σ) (fun r10 s9 => if r10 = 0 then bnd (f_X10_error (-1000000001 : Int32) s9) (fun r19 s18 => some (r19, s18)) else lt (up s9 0 16 a1) (fun s11 => lt (up s11 0 12 (0 : Int32)) (fun s12 => lt (up s12 0 13 (0 : Int32)) (fun s13 => lt (up s13 0 14 (0 : Int32)) (fun s14 => lt (up s14 0 15 (0 : Int32)) (fun s15 => bnd (f_X10_any s15) (fun _ s16 => if (s16 0 15) = 0 then ckb (inb (5 : Int32) 408) (if (rd (s16 1) (5 : Int32)) ≤ (s16 0 13) then f_X10_text_71 a1 (0 : Int32) s16 else f_X10_text_71 a1 (1 : Int32) s16) else f_X10_text_71 a1 (1 : Int32) s16)))))))
def f_X10_told (a1 : Int32) (σ : Sg) : Option (Int32 × Sg) :=
  bnd (f_X10_in a1 (1 : Int32) (6 : Int32) σ) (fun r2 s1 => if r2 = 0 then bnd (f_X10_error (-1000000001 : Int32) s1) (fun r4 s3 => some (r4, s3)) else ckb (inb a1 7) (some ((rd (s1 4) a1), s1)))
def f_X10_untell (a1 : Int32) (σ : Sg) : Option (Int32 × Sg) :=
  bnd (f_X10_in a1 (0 : Int32) (1 : Int32) σ) (fun r2 s1 => if r2 = 0 then bnd (f_X10_error (-1000000001 : Int32) s1) (fun r6 s5 => some (r6, s5)) else bnd (f_X10_becomes ((166 : Int32) + ((121 : Int32) * a1)) (0 : Int32) s1) (fun r4 s3 => if r4 ≤ 0 then some ((0 : Int32), s3) else some ((1 : Int32), s3)))
def f_X10_voice_81  (t0 : Int32) (σ : Sg) : Option (Int32 × Sg) :=
  if (σ 0 20) = 0 then some (t0, σ) else bnd (f_X10_error (-1000000006 : Int32) σ) (fun r2 s1 => some (r2, s1))
def f_X10_voice (a1 : Int32) (a2 : Int32) (a3 : Int32) (σ : Sg) : Option (Int32 × Sg) :=
  bnd (f_X10_isLine a1 σ) (fun r4 s3 => if r4 = 0 then bnd (f_X10_error (-1000000001 : Int32) s3) (fun r6 s5 => some (r6, s5)) else bnd (f_X10_in a2 (0 : Int32) (3 : Int32) s3) (fun r8 s7 => if r8 = 0 then bnd (f_X10_error (-1000000001 : Int32) s7) (fun r20 s19 => some (r20, s19)) else lt (up s7 0 19 (0 : Int32)) (fun s9 => lt (up s9 0 20 (0 : Int32)) (fun s10 => if a2 = 0 then bnd (f_X10_squeaks a1 a3 s10) (fun r18 s17 => f_X10_voice_81 r18 s17) else if a2 = (1 : Int32) then bnd (f_X10_smears a1 a3 s10) (fun r16 s15 => f_X10_voice_81 r16 s15) else if a2 = (2 : Int32) then bnd (f_X10_stays a1 a3 s10) (fun r14 s13 => f_X10_voice_81 r14 s13) else bnd (f_X10_partsBy a1 a3 s10) (fun r12 s11 => f_X10_voice_81 r12 s11)))))
def f_X10_when_78  (a2 : Int32) (a3 : Int32) (a4 : Int32) (a5 : Int32) (σ : Sg) : Option (Int32 × Sg) :=
  ckb (inb (0 : Int32) 408) (lt (up σ 1 (0 : Int32).toNatClampNeg a3) (fun s1 => if 0 ≤ a5 then if a2 = 0 then some (a4, s1) else some (a5, s1) else bnd (f_X10_error (-1000000002 : Int32) s1) (fun r3 s2 => some (r3, s2))))
def f_X10_when_43_b  (rec43 : Int32 → Int32 → Int32 → Int32 → Int32 → Sg → Option (Int32 × Sg)) (a1 : Int32) (a2 : Int32) (a3 : Int32) (a4 : Int32) (a5 : Int32) (σ : Sg) : Option (Int32 × Sg) :=
  if 0 ≤ a5 then f_X10_when_78 a2 a3 a4 a5 σ else if (90 : Int32) ≤ a4 then f_X10_when_78 a2 a3 a4 a5 σ else ckb (inb (0 : Int32) 408) (ckb (inb (0 : Int32) 408) (lt (up σ 1 (0 : Int32).toNatClampNeg ((rd (σ 1) (0 : Int32)) + (1 : Int32))) (fun s4 => lt (a4 + (1 : Int32)) (fun v5 => bnd (f_X10_roomAt a1 s4) (fun r7 s6 => rec43 a1 a2 a3 v5 r7 s6)))))
def f_X10_when_43  : Nat → Int32 → Int32 → Int32 → Int32 → Int32 → Sg → Option (Int32 × Sg)
  | 0 => fun _ _ _ _ _ _ => none
  | n + 1 => f_X10_when_43_b   (f_X10_when_43   n)
def f_X10_when (a1 : Int32) (a2 : Int32) (σ : Sg) : Option (Int32 × Sg) :=
  bnd (f_X10_in a1 (1 : Int32) (12 : Int32) σ) (fun r9 s8 => if r9 = 0 then bnd (f_X10_error (-1000000001 : Int32) s8) (fun r11 s10 => some (r11, s10)) else bnd (f_X10_in a2 (0 : Int32) (1 : Int32) s8) (fun r13 s12 => if r13 = 0 then bnd (f_X10_error (-1000000001 : Int32) s12) (fun r18 s17 => some (r18, s17)) else ckb (inb (0 : Int32) 408) (lt ((rd (s12 1) (0 : Int32))) (fun v14 => bnd (f_X10_roomAt a1 s12) (fun r16 s15 => f_X10_when_43 fuN a1 a2 v14 (0 : Int32) r16 s15)))))
def f_X10_wipe (a1 : Int32) (σ : Sg) : Option (Int32 × Sg) :=
  bnd (f_X10_isLine a1 σ) (fun r2 s1 => if r2 = 0 then bnd (f_X10_error (-1000000001 : Int32) s1) (fun r12 s11 => some (r12, s11)) else bnd (f_X10_mayGo a1 s1) (fun r4 s3 => if r4 = 0 then bnd (f_X10_error (-1000000003 : Int32) s3) (fun r10 s9 => some (r10, s9)) else bnd (f_X10_lossOf a1 s3) (fun r6 s5 => bnd (f_X10_isWiped a1 s5) (fun _ s7 => some (r6, s7)))))
def f_X10_write_41  (a1 : Int32) (a2 : Int32) (a3 : Int32) (a4 : Int32) (t0 : Int32) (σ : Sg) : Option (Int32 × Sg) :=
  if t0 = 0 then bnd (f_X10_error (-1000000001 : Int32) σ) (fun r2 s1 => some (r2, s1)) else bnd (f_X10_in a3 (0 : Int32) (5 : Int32) σ) (fun r4 s3 => if r4 = 0 then bnd (f_X10_error (-1000000001 : Int32) s3) (fun r6 s5 => some (r6, s5)) else bnd (f_X10_in a4 (0 : Int32) (4 : Int32) s3) (fun r8 s7 => if r8 = 0 then bnd (f_X10_error (-1000000001 : Int32) s7) (fun r24 s23 => some (r24, s23)) else ckb (inb (2 : Int32) 408) (if (rd (s7 1) (2 : Int32)) = (10 : Int32) then bnd (f_X10_error (-1000000004 : Int32) s7) (fun r22 s21 => some (r22, s21)) else lt ((irm a2 (100 : Int32))) (fun v9 => bnd (f_X10_window (a2 / (100 : Int32)) v9 s7) (fun r11 s10 => bnd (f_X10_takenBy (-1 : Int32) s10) (fun r13 s12 => if (r11 &&& r13) = 0 then ckb (inb ((7 : Int32) + a4) 408) (if v9 ≤ (rd (s12 1) ((7 : Int32) + a4)) then ckb (inb ((7 : Int32) + a4) 408) (ckb (inb ((7 : Int32) + a4) 408) (lt (up s12 1 ((7 : Int32) + a4).toNatClampNeg ((rd (s12 1) ((7 : Int32) + a4)) - v9)) (fun s16 => bnd (f_X10_comes a1 r11 a3 s16) (fun r18 s17 => some (r18, s17))))) else bnd (f_X10_error (-1000000003 : Int32) s12) (fun r20 s19 => some (r20, s19))) else bnd (f_X10_error (-1000000003 : Int32) s12) (fun r15 s14 => some (r15, s14))))))))
def f_X10_write (a1 : Int32) (a2 : Int32) (a3 : Int32) (a4 : Int32) (σ : Sg) : Option (Int32 × Sg) :=
  bnd (f_X10_isKm a1 σ) (fun r26 s25 => if r26 = 0 then f_X10_write_41 a1 a2 a3 a4 (0 : Int32) s25 else bnd (f_X10_in a2 (1 : Int32) (1199 : Int32) s25) (fun r28 s27 => if r28 = 0 then f_X10_write_41 a1 a2 a3 a4 (0 : Int32) s27 else bnd (f_X10_in (irm a2 (100 : Int32)) (1 : Int32) ((12 : Int32) - (a2 / (100 : Int32))) s27) (fun r30 s29 => if r30 = 0 then f_X10_write_41 a1 a2 a3 a4 (0 : Int32) s29 else f_X10_write_41 a1 a2 a3 a4 (1 : Int32) s29)))
def f_X1_take (o0 : Nat) (o1 : Nat) (σ : Sg) : Option (Unit × Sg) :=
  bnd (f_X6_copyFrom (o0 + 8) o1 σ) (fun _ s1 => lt (up s1 o0 0 (1 : Int32)) (fun s3 => some ((), s3)))
def f_X9_columnsFrom (a0 : Int32) (a1 : Int32) (σ : Sg) : Option (Int32 × Sg) :=
  some ((shl ((shl (1 : Int32) a1) - (1 : Int32)) a0), σ)
def f_X9_freeEnd_2_b  (rec2 : Int32 → Int32 → Int32 → Sg → Option (Int32 × Sg)) (a0 : Int32) (a2 : Int32) (a3 : Int32) (σ : Sg) : Option (Int32 × Sg) :=
  if (12 : Int32) < (a3 + a2) then some ((1000000 : Int32), σ) else bnd (f_X9_columnsFrom a3 a2 σ) (fun r2 s1 => if (a0 &&& r2) = 0 then some ((a3 + a2), s1) else lt (a3 + (1 : Int32)) (fun v3 => rec2 a0 a2 v3 s1))
def f_X9_freeEnd_2  : Nat → Int32 → Int32 → Int32 → Sg → Option (Int32 × Sg)
  | 0 => fun _ _ _ _ => none
  | n + 1 => f_X9_freeEnd_2_b   (f_X9_freeEnd_2   n)
def f_X9_freeEnd (a0 : Int32) (a1 : Int32) (a2 : Int32) (σ : Sg) : Option (Int32 × Sg) :=
  f_X9_freeEnd_2 fuN a0 a2 a1 σ
def f_X3_leastEnd_7_b  (rec7 : Nat → Int32 → Int32 → Int32 → Int32 → Sg → Option (Int32 × Sg)) (o1 : Nat) (a2 : Int32) (a3 : Int32) (a4 : Int32) (a5 : Int32) (σ : Sg) : Option (Int32 × Sg) :=
  if (6 : Int32) ≤ a5 then some (a4, σ) else if (σ o1 1) ≤ a5 then some (a4, σ) else bnd (f_X9_isOf a5 a3 σ) (fun r2 s1 => if r2 = 0 then lt (a5 + (1 : Int32)) (fun v3 => rec7 o1 a2 a3 a4 v3 s1) else ckb (inb (a3 ^^^ (shl (1 : Int32) a5)) 64) (lt ((rd (s1 9) (a3 ^^^ (shl (1 : Int32) a5)))) (fun v4 => ckb (inb a5 (capC (o1 + 18))) (bnd (f_X9_freeEnd a2 v4 (rd (s1 (o1 + 18)) a5) s1) (fun r6 s5 => lt ((mn a4 r6)) (fun v7 => lt (a5 + (1 : Int32)) (fun v8 => rec7 o1 a2 a3 v7 v8 s5)))))))
def f_X3_leastEnd_7  : Nat → Nat → Int32 → Int32 → Int32 → Int32 → Sg → Option (Int32 × Sg)
  | 0 => fun _ _ _ _ _ _ => none
  | n + 1 => f_X3_leastEnd_7_b   (f_X3_leastEnd_7   n)
def f_X3_leastEnd (o1 : Nat) (a2 : Int32) (a3 : Int32) (σ : Sg) : Option (Int32 × Sg) :=
  f_X3_leastEnd_7 fuN o1 a2 a3 (1000000 : Int32) (0 : Int32) σ
def f_X3_most_25_b  (rec25 : Nat → Int32 → Int32 → Int32 → Int32 → Sg → Option (Int32 × Sg)) (o1 : Nat) (a2 : Int32) (a3 : Int32) (a4 : Int32) (a5 : Int32) (σ : Sg) : Option (Int32 × Sg) :=
  if a3 ≤ a5 then some (a4, σ) else bnd (f_X3_leastEnd o1 a2 a5 σ) (fun r2 s1 => ckb (inb a5 64) (lt (up s1 9 a5.toNatClampNeg r2) (fun s3 => ckb (inb a5 64) (if (12 : Int32) < (rd (s3 9) a5) then lt (a5 + (1 : Int32)) (fun v4 => rec25 o1 a2 a3 a4 v4 s3) else bnd (f_J6_bitCount_0f7a4 a5 s3) (fun r6 s5 => lt ((mx a4 r6)) (fun v7 => lt (a5 + (1 : Int32)) (fun v8 => rec25 o1 a2 a3 v7 v8 s5)))))))
def f_X3_most_25  : Nat → Nat → Int32 → Int32 → Int32 → Int32 → Sg → Option (Int32 × Sg)
  | 0 => fun _ _ _ _ _ _ => none
  | n + 1 => f_X3_most_25_b   (f_X3_most_25   n)
def f_X3_most (o1 : Nat) (a2 : Int32) (σ : Sg) : Option (Int32 × Sg) :=
  lt ((shl (1 : Int32) (mn (σ o1 1) (6 : Int32)))) (fun v9 => ckb (inb (0 : Int32) 64) (lt (up σ 9 (0 : Int32).toNatClampNeg (0 : Int32)) (fun s10 => f_X3_most_25 fuN o1 a2 v9 (0 : Int32) (1 : Int32) s10)))
def f_X4_isDigit (a0 : Int32) (σ : Sg) : Option (Int32 × Sg) :=
  if a0 < (48 : Int32) then some ((0 : Int32), σ) else if (57 : Int32) < a0 then some ((0 : Int32), σ) else some ((1 : Int32), σ)
def f_X4_levelOf (a0 : Int32) (σ : Sg) : Option (Int32 × Sg) :=
  if a0 = (37 : Int32) then some ((4 : Int32), σ) else if a0 = (38 : Int32) then some ((1 : Int32), σ) else if a0 = (42 : Int32) then some ((4 : Int32), σ) else if a0 = (43 : Int32) then some ((3 : Int32), σ) else if a0 = (45 : Int32) then some ((3 : Int32), σ) else if a0 = (47 : Int32) then some ((4 : Int32), σ) else if a0 = (60 : Int32) then some ((2 : Int32), σ) else if a0 = (61 : Int32) then some ((2 : Int32), σ) else if a0 = (62 : Int32) then some ((2 : Int32), σ) else if a0 = (124 : Int32) then some ((0 : Int32), σ) else some ((-1 : Int32), σ)
def f_X4_next  (σ : Sg) : Option (Int32 × Sg) :=
  if (σ 3 3) < 0 then some ((-1 : Int32), σ) else ckb (rowOk (σ 3 1)) (lt (σ 3 1).toNatClampNeg (fun p1 => if (σ p1 1) ≤ (σ 3 3) then some ((-1 : Int32), σ) else ckb (rowOk (σ 3 1)) (lt (σ 3 1).toNatClampNeg (fun p2 => ckb (inb (σ 3 3) (capC (p2 + 18))) (some ((rd (σ (p2 + 18)) (σ 3 3)), σ))))))
def f_X4_readsNumber_48  (a1 : Int32) (σ : Sg) : Option (Int32 × Sg) :=
  bnd (f_X6_add 56 a1 σ) (fun _ s1 => some ((1 : Int32), s1))
def f_X4_readsNumber_4_b  (rec4 : Int32 → Int32 → Sg → Option (Int32 × Sg)) (a1 : Int32) (a2 : Int32) (σ : Sg) : Option (Int32 × Sg) :=
  if (4 : Int32) ≤ a2 then f_X4_readsNumber_48 a1 σ else bnd (f_X4_next σ) (fun r4 s3 => bnd (f_X4_isDigit r4 s3) (fun r6 s5 => if r6 = 0 then f_X4_readsNumber_48 a1 s5 else bnd (f_X4_next s5) (fun r8 s7 => lt (((((10 : Int32) * a1) + r8) - (48 : Int32))) (fun v9 => lt (up s7 3 3 ((s7 3 3) + (1 : Int32))) (fun s10 => lt (a2 + (1 : Int32)) (fun v11 => rec4 v9 v11 s10))))))
def f_X4_readsNumber_4  : Nat → Int32 → Int32 → Sg → Option (Int32 × Sg)
  | 0 => fun _ _ _ => none
  | n + 1 => f_X4_readsNumber_4_b   (f_X4_readsNumber_4   n)
def f_X4_readsNumber  (σ : Sg) : Option (Int32 × Sg) :=
  f_X4_readsNumber_4 fuN (0 : Int32) (0 : Int32) σ
def f_X4_readsLevel_44_b (g_X4_readsLevel : Int32 → Int32 → Sg → Option (Int32 × Sg)) (g_X4_readsQ : Int32 → Sg → Option (Int32 × Sg)) (g_X4_readsNot : Int32 → Sg → Option (Int32 × Sg)) (g_X4_readsGroup : Int32 → Sg → Option (Int32 × Sg))  (rec44 : Int32 → Int32 → Int32 → Int32 → Sg → Option (Int32 × Sg)) (a1 : Int32) (a2 : Int32) (a3 : Int32) (a4 : Int32) (σ : Sg) : Option (Int32 × Sg) :=
  if a3 ≤ a4 then some ((1 : Int32), σ) else bnd (f_X4_next σ) (fun r2 s1 => bnd (f_X4_levelOf r2 s1) (fun r4 s3 => if r4 = a1 then bnd (f_X4_next s3) (fun r6 s5 => lt (up s5 3 3 ((s5 3 3) + (1 : Int32))) (fun s7 => bnd (g_X4_readsLevel (a1 + (1 : Int32)) a2 s7) (fun r9 s8 => if r9 = 0 then some ((0 : Int32), s8) else bnd (f_X6_add 56 (-r6) s8) (fun _ s10 => lt (a4 + (1 : Int32)) (fun v12 => rec44 a1 a2 a3 v12 s10))))) else some ((1 : Int32), s3)))
def f_X4_readsLevel_44 (g_X4_readsLevel : Int32 → Int32 → Sg → Option (Int32 × Sg)) (g_X4_readsQ : Int32 → Sg → Option (Int32 × Sg)) (g_X4_readsNot : Int32 → Sg → Option (Int32 × Sg)) (g_X4_readsGroup : Int32 → Sg → Option (Int32 × Sg))  : Nat → Int32 → Int32 → Int32 → Int32 → Sg → Option (Int32 × Sg)
  | 0 => fun _ _ _ _ _ => none
  | n + 1 => f_X4_readsLevel_44_b g_X4_readsLevel g_X4_readsQ g_X4_readsNot g_X4_readsGroup  (f_X4_readsLevel_44 g_X4_readsLevel g_X4_readsQ g_X4_readsNot g_X4_readsGroup  n)
def f_X4_readsLevel_e (g_X4_readsLevel : Int32 → Int32 → Sg → Option (Int32 × Sg)) (g_X4_readsQ : Int32 → Sg → Option (Int32 × Sg)) (g_X4_readsNot : Int32 → Sg → Option (Int32 × Sg)) (g_X4_readsGroup : Int32 → Sg → Option (Int32 × Sg)) (a1 : Int32) (a2 : Int32) (σ : Sg) : Option (Int32 × Sg) :=
  if a1 < (5 : Int32) then bnd (g_X4_readsLevel (a1 + (1 : Int32)) a2 σ) (fun r14 s13 => if r14 = 0 then some ((0 : Int32), s13) else if a1 = (2 : Int32) then f_X4_readsLevel_44 g_X4_readsLevel g_X4_readsQ g_X4_readsNot g_X4_readsGroup fuN a1 a2 (1 : Int32) (0 : Int32) s13 else ckb (rowOk (s13 3 1)) (lt (s13 3 1).toNatClampNeg (fun p15 => lt ((s13 p15 1)) (fun v16 => f_X4_readsLevel_44 g_X4_readsLevel g_X4_readsQ g_X4_readsNot g_X4_readsGroup fuN a1 a2 v16 (0 : Int32) s13)))) else bnd (g_X4_readsQ a2 σ) (fun r18 s17 => ckb (isb r18) (some (r18, s17)))
def f_X4_readsQ_19_b (g_X4_readsLevel : Int32 → Int32 → Sg → Option (Int32 × Sg)) (g_X4_readsQ : Int32 → Sg → Option (Int32 × Sg)) (g_X4_readsNot : Int32 → Sg → Option (Int32 × Sg)) (g_X4_readsGroup : Int32 → Sg → Option (Int32 × Sg))  (rec19 : Int32 → Int32 → Int32 → Sg → Option (Int32 × Sg)) (a1 : Int32) (a2 : Int32) (a3 : Int32) (σ : Sg) : Option (Int32 × Sg) :=
  if (3 : Int32) ≤ a3 then if a1 < (5 : Int32) then if a2 = (33 : Int32) then bnd (g_X4_readsNot (a1 + (1 : Int32)) σ) (fun r4 s3 => ckb (isb r4) (some (r4, s3))) else if a2 = (40 : Int32) then bnd (g_X4_readsGroup (a1 + (1 : Int32)) σ) (fun r2 s1 => if r2 = 0 then some ((0 : Int32), s1) else some ((1 : Int32), s1)) else some ((0 : Int32), σ) else some ((0 : Int32), σ) else ckb (inb (((3 : Int32) * (σ 3 2)) + a3) 6) (if a2 = (tbl lN_ (((3 : Int32) * (σ 3 2)) + a3)) then lt (up σ 3 3 ((σ 3 3) + (1 : Int32))) (fun s7 => bnd (f_X6_add 56 ((-1 : Int32) - a3) s7) (fun _ s8 => some ((1 : Int32), s8))) else lt (a3 + (1 : Int32)) (fun v6 => rec19 a1 a2 v6 σ))
def f_X4_readsQ_19 (g_X4_readsLevel : Int32 → Int32 → Sg → Option (Int32 × Sg)) (g_X4_readsQ : Int32 → Sg → Option (Int32 × Sg)) (g_X4_readsNot : Int32 → Sg → Option (Int32 × Sg)) (g_X4_readsGroup : Int32 → Sg → Option (Int32 × Sg))  : Nat → Int32 → Int32 → Int32 → Sg → Option (Int32 × Sg)
  | 0 => fun _ _ _ _ => none
  | n + 1 => f_X4_readsQ_19_b g_X4_readsLevel g_X4_readsQ g_X4_readsNot g_X4_readsGroup  (f_X4_readsQ_19 g_X4_readsLevel g_X4_readsQ g_X4_readsNot g_X4_readsGroup  n)
def f_X4_readsQ_e (g_X4_readsLevel : Int32 → Int32 → Sg → Option (Int32 × Sg)) (g_X4_readsQ : Int32 → Sg → Option (Int32 × Sg)) (g_X4_readsNot : Int32 → Sg → Option (Int32 × Sg)) (g_X4_readsGroup : Int32 → Sg → Option (Int32 × Sg)) (a1 : Int32) (σ : Sg) : Option (Int32 × Sg) :=
  bnd (f_X4_next σ) (fun r11 s10 => bnd (f_X4_isDigit r11 s10) (fun r13 s12 => if r13 = 0 then f_X4_readsQ_19 g_X4_readsLevel g_X4_readsQ g_X4_readsNot g_X4_readsGroup fuN a1 r11 (0 : Int32) s12 else bnd (f_X4_readsNumber s12) (fun r15 s14 => ckb (isb r15) (some (r15, s14)))))
def f_X4_readsNot_e (g_X4_readsLevel : Int32 → Int32 → Sg → Option (Int32 × Sg)) (g_X4_readsQ : Int32 → Sg → Option (Int32 × Sg)) (g_X4_readsNot : Int32 → Sg → Option (Int32 × Sg)) (g_X4_readsGroup : Int32 → Sg → Option (Int32 × Sg)) (a1 : Int32) (σ : Sg) : Option (Int32 × Sg) :=
  lt (up σ 3 3 ((σ 3 3) + (1 : Int32))) (fun s1 => bnd (g_X4_readsQ a1 s1) (fun r3 s2 => if r3 = 0 then some ((0 : Int32), s2) else bnd (f_X6_add 56 (-33 : Int32) s2) (fun _ s4 => some ((1 : Int32), s4))))
def f_X4_readsGroup_e (g_X4_readsLevel : Int32 → Int32 → Sg → Option (Int32 × Sg)) (g_X4_readsQ : Int32 → Sg → Option (Int32 × Sg)) (g_X4_readsNot : Int32 → Sg → Option (Int32 × Sg)) (g_X4_readsGroup : Int32 → Sg → Option (Int32 × Sg)) (a1 : Int32) (σ : Sg) : Option (Int32 × Sg) :=
  lt (up σ 3 3 ((σ 3 3) + (1 : Int32))) (fun s1 => bnd (g_X4_readsLevel (0 : Int32) a1 s1) (fun r3 s2 => if r3 = 0 then some ((0 : Int32), s2) else bnd (f_X4_next s2) (fun r5 s4 => if r5 = (41 : Int32) then lt (up s4 3 3 ((s4 3 3) + (1 : Int32))) (fun s6 => some ((1 : Int32), s6)) else some ((0 : Int32), s4))))
def G_X4_readsLevel : Nat → (Int32 → Int32 → Sg → Option (Int32 × Sg)) × (Int32 → Sg → Option (Int32 × Sg)) × (Int32 → Sg → Option (Int32 × Sg)) × (Int32 → Sg → Option (Int32 × Sg))
  | 0 => (fun _ _ _ => none, fun _ _ => none, fun _ _ => none, fun _ _ => none)
  | d + 1 => (f_X4_readsLevel_e (G_X4_readsLevel d).1 (G_X4_readsLevel d).2.1 (G_X4_readsLevel d).2.2.1 (G_X4_readsLevel d).2.2.2, f_X4_readsQ_e (G_X4_readsLevel d).1 (G_X4_readsLevel d).2.1 (G_X4_readsLevel d).2.2.1 (G_X4_readsLevel d).2.2.2, f_X4_readsNot_e (G_X4_readsLevel d).1 (G_X4_readsLevel d).2.1 (G_X4_readsLevel d).2.2.1 (G_X4_readsLevel d).2.2.2, f_X4_readsGroup_e (G_X4_readsLevel d).1 (G_X4_readsLevel d).2.1 (G_X4_readsLevel d).2.2.1 (G_X4_readsLevel d).2.2.2)
def f_X4_readsLevel : Int32 → Int32 → Sg → Option (Int32 × Sg) := (G_X4_readsLevel 64).1
def f_X4_readsQ : Int32 → Sg → Option (Int32 × Sg) := (G_X4_readsLevel 64).2.1
def f_X4_readsNot : Int32 → Sg → Option (Int32 × Sg) := (G_X4_readsLevel 64).2.2.1
def f_X4_readsGroup : Int32 → Sg → Option (Int32 × Sg) := (G_X4_readsLevel 64).2.2.2
def f_X4_reads (a2 : Int32) (σ : Sg) : Option (Int32 × Sg) :=
  lt (up σ 3 1 (Int32.ofNat 44)) (fun s1 => lt (up s1 3 2 a2) (fun s2 => lt (up s2 3 3 (0 : Int32)) (fun s3 => bnd (f_X6_clear 56 s3) (fun _ s4 => bnd (f_X4_readsLevel (0 : Int32) (0 : Int32) s4) (fun r7 s6 => if r7 = 0 then some ((0 : Int32), s6) else if (s6 3 3) = (s6 44 1) then some ((1 : Int32), s6) else some ((0 : Int32), s6))))))
def f_X5_lastBehind_5_b  (rec5 : Int32 → Int32 → Int32 → Int32 → Sg → Option (Int32 × Sg)) (a1 : Int32) (a2 : Int32) (a3 : Int32) (a4 : Int32) (σ : Sg) : Option (Int32 × Sg) :=
  if (σ 1 1) ≤ a4 then some (a3, σ) else bnd (f_X9_isOf a4 a1 σ) (fun r2 s1 => if r2 = 0 then lt (a4 + (1 : Int32)) (fun v3 => rec5 a1 a2 a3 v3 s1) else ckb (inb a4 10) (lt (20 + a4.toNatClampNeg) (fun p4 => bnd (f_X2_goesBehind p4 a2 (s1 1 3) s1) (fun r6 s5 => lt ((mx a3 r6)) (fun v7 => lt (a4 + (1 : Int32)) (fun v8 => rec5 a1 a2 v7 v8 s5))))))
def f_X5_lastBehind_5  : Nat → Int32 → Int32 → Int32 → Int32 → Sg → Option (Int32 × Sg)
  | 0 => fun _ _ _ _ _ => none
  | n + 1 => f_X5_lastBehind_5_b   (f_X5_lastBehind_5   n)
def f_X5_lastBehind (a1 : Int32) (a2 : Int32) (σ : Sg) : Option (Int32 × Sg) :=
  f_X5_lastBehind_5 fuN a1 a2 (0 : Int32) (0 : Int32) σ
def f_X5_firstBehind_6_b  (rec6 : Int32 → Int32 → Int32 → Sg → Option (Int32 × Sg)) (a2 : Int32) (a3 : Int32) (a4 : Int32) (σ : Sg) : Option (Int32 × Sg) :=
  if (12 : Int32) < (a4 + a2) then some (a3, σ) else bnd (f_X9_columnsFrom a4 a2 σ) (fun r2 s1 => bnd (f_X0_linesOn r2 s1) (fun r4 s3 => bnd (f_X5_lastBehind r4 (s3 1 2) s3) (fun r6 s5 => lt ((mn a3 r6)) (fun v7 => lt (a4 + (1 : Int32)) (fun v8 => rec6 a2 v7 v8 s5)))))
def f_X5_firstBehind_6  : Nat → Int32 → Int32 → Int32 → Sg → Option (Int32 × Sg)
  | 0 => fun _ _ _ _ => none
  | n + 1 => f_X5_firstBehind_6_b   (f_X5_firstBehind_6   n)
def f_X5_firstBehind (a2 : Int32) (σ : Sg) : Option (Int32 × Sg) :=
  f_X5_firstBehind_6 fuN a2 (1000000 : Int32) (0 : Int32) σ
def f_X5_lossOfAll_5_b  (rec5 : Int32 → Int32 → Int32 → Int32 → Sg → Option (Int32 × Sg)) (a1 : Int32) (a2 : Int32) (a3 : Int32) (a4 : Int32) (σ : Sg) : Option (Int32 × Sg) :=
  if (σ 1 1) ≤ a4 then some (a3, σ) else bnd (f_X9_isOf a4 a1 σ) (fun r2 s1 => if r2 = 0 then lt (a4 + (1 : Int32)) (fun v3 => rec5 a1 a2 a3 v3 s1) else bnd (f_X0_lossOf a4 a2 s1) (fun r5 s4 => lt ((a3 + r5)) (fun v6 => lt (a4 + (1 : Int32)) (fun v7 => rec5 a1 a2 v6 v7 s4))))
def f_X5_lossOfAll_5  : Nat → Int32 → Int32 → Int32 → Int32 → Sg → Option (Int32 × Sg)
  | 0 => fun _ _ _ _ _ => none
  | n + 1 => f_X5_lossOfAll_5_b   (f_X5_lossOfAll_5   n)
def f_X5_lossOfAll (a1 : Int32) (a2 : Int32) (σ : Sg) : Option (Int32 × Sg) :=
  f_X5_lossOfAll_5 fuN a1 a2 (0 : Int32) (0 : Int32) σ
def f_X5_seek_60 (rec6 : Int32 → Int32 → Int32 → Int32 → Sg → Option (Int32 × Sg)) (a2 : Int32) (a3 : Int32) (a5 : Int32) (a6 : Int32) (a7 : Int32) (σ : Sg) : Option (Int32 × Sg) :=
  lt (up σ 4 0 a7) (fun s1 => lt (up s1 4 1 a5) (fun s2 => lt (up s2 4 2 a6) (fun s3 => lt (a5 + (1 : Int32)) (fun v4 => rec6 a2 a3 (1 : Int32) v4 s3))))
def f_X5_seek_6_b  (rec6 : Int32 → Int32 → Int32 → Int32 → Sg → Option (Int32 × Sg)) (a2 : Int32) (a3 : Int32) (a4 : Int32) (a5 : Int32) (σ : Sg) : Option (Int32 × Sg) :=
  if (12 : Int32) < (a5 + a2) then ckb (isb a4) (some (a4, σ)) else bnd (f_X9_columnsFrom a5 a2 σ) (fun r7 s6 => bnd (f_X0_linesOn r7 s6) (fun r9 s8 => bnd (f_X5_lastBehind r9 a3 s8) (fun r11 s10 => if r11 = 0 then bnd (f_X5_lossOfAll r9 a3 s10) (fun r14 s13 => if a4 = 0 then f_X5_seek_60 rec6 a2 a3 a5 r9 r14 s13 else if (s13 4 0) ≤ r14 then lt (a5 + (1 : Int32)) (fun v15 => rec6 a2 a3 a4 v15 s13) else f_X5_seek_60 rec6 a2 a3 a5 r9 r14 s13) else lt (a5 + (1 : Int32)) (fun v12 => rec6 a2 a3 a4 v12 s10))))
def f_X5_seek_6  : Nat → Int32 → Int32 → Int32 → Int32 → Sg → Option (Int32 × Sg)
  | 0 => fun _ _ _ _ _ => none
  | n + 1 => f_X5_seek_6_b   (f_X5_seek_6   n)
def f_X5_seek (a2 : Int32) (a3 : Int32) (σ : Sg) : Option (Int32 × Sg) :=
  f_X5_seek_6 fuN a2 a3 (0 : Int32) (0 : Int32) σ
def f_X6_hasRoomFor (o0 : Nat) (a1 : Int32) (σ : Sg) : Option (Int32 × Sg) :=
  if ((Int32.ofNat (capC (o0 + 18))) - (σ o0 1)) < a1 then some ((0 : Int32), σ) else some ((1 : Int32), σ)
def f_X6_stands (o0 : Nat) (a1 : Int32) (a2 : Int32) (σ : Sg) : Option (Int32 × Sg) :=
  if a1 < 0 then some ((0 : Int32), σ) else if a2 < 0 then some ((0 : Int32), σ) else if (σ o0 1) < a2 then some ((0 : Int32), σ) else if ((σ o0 1) - a2) < a1 then some ((0 : Int32), σ) else some ((1 : Int32), σ)
def f_X7_begin_14_b  (rec14 : Nat → Int32 → Int32 → Sg → Option (Unit × Sg)) (o0 : Nat) (a2 : Int32) (a3 : Int32) (σ : Sg) : Option (Unit × Sg) :=
  if a2 ≤ a3 then some ((), σ) else bnd (f_X6_add (o0 + 48) (0 : Int32) σ) (fun _ s1 => lt (a3 + (1 : Int32)) (fun v3 => rec14 o0 a2 v3 s1))
def f_X7_begin_14  : Nat → Nat → Int32 → Int32 → Sg → Option (Unit × Sg)
  | 0 => fun _ _ _ _ => none
  | n + 1 => f_X7_begin_14_b   (f_X7_begin_14   n)
def f_X7_begin (o0 : Nat) (a1 : Int32) (a2 : Int32) (σ : Sg) : Option (Unit × Sg) :=
  lt (up σ o0 1 a1) (fun s4 => bnd (f_X6_clear (o0 + 48) s4) (fun _ s5 => f_X7_begin_14 fuN o0 a2 (0 : Int32) s5))
def f_X7_isMissing (o0 : Nat) (σ : Sg) : Option (Int32 × Sg) :=
  if (σ o0 1) = 0 then some ((1 : Int32), σ) else some ((0 : Int32), σ)
def f_X7_lowestBits (o0 : Nat) (a1 : Int32) (σ : Sg) : Option (Int32 × Sg) :=
  lt ((σ o0 1)) (fun v1 => if v1 = (8 : Int32) then some (a1.toInt8.toInt32, σ) else if v1 = (16 : Int32) then some (a1.toInt16.toInt32, σ) else some (a1, σ))
def f_X8_bodyOf_4_b  (rec4 : Int32 → Int32 → Int32 → Sg → Option (Int32 × Sg)) (a0 : Int32) (a2 : Int32) (a3 : Int32) (σ : Sg) : Option (Int32 × Sg) :=
  if (7 : Int32) ≤ a3 then some ((0 : Int32), σ) else if a2 = (-1 : Int32) then some ((0 : Int32), σ) else ckb (inb (((7 : Int32) * a0) + a2) 28) (lt ((tbl lB (((7 : Int32) * a0) + a2))) (fun v1 => if v1 = 0 then ckb (inb a2 7) (lt ((tbl lK a2)) (fun v2 => lt (a3 + (1 : Int32)) (fun v3 => rec4 a0 v2 v3 σ))) else some (v1, σ)))
def f_X8_bodyOf_4  : Nat → Int32 → Int32 → Int32 → Sg → Option (Int32 × Sg)
  | 0 => fun _ _ _ _ => none
  | n + 1 => f_X8_bodyOf_4_b   (f_X8_bodyOf_4   n)
def f_X8_bodyOf (a0 : Int32) (a1 : Int32) (σ : Sg) : Option (Int32 × Sg) :=
  f_X8_bodyOf_4 fuN a0 a1 (0 : Int32) σ
def f_X8_divided (a1 : Int32) (σ : Sg) : Option (Int32 × Sg) :=
  lt (((σ 6 4) - (σ 6 3))) (fun v1 => if v1 = 0 then lt (up σ 6 1 (1 : Int32)) (fun s3 => some ((0 : Int32), s3)) else ckb (nz v1) (some ((a1 / v1), σ)))
def f_X8_workOut_e (g_X8_workOut : Int32 → Int32 → Int32 → Int32 → Sg → Option (Int32 × Sg)) (a1 : Int32) (a2 : Int32) (a3 : Int32) (a4 : Int32) (σ : Sg) : Option (Int32 × Sg) :=
  bnd (f_X8_bodyOf a1 a2 σ) (fun r2 s1 => if r2 = 0 then some ((0 : Int32), s1) else if a4 ≤ (16 : Int32) then bnd (f_X6_add 57 r2 s1) (fun _ s3 => ckb (inb ((r2 / (10 : Int32)) - (1 : Int32)) 7) (lt ((tbl lK ((r2 / (10 : Int32)) - (1 : Int32)))) (fun v5 => lt ((a4 + (1 : Int32))) (fun v6 => if r2 = (10 : Int32) then some ((a3 + (s3 6 3)), s3) else if r2 = (11 : Int32) then bnd (g_X8_workOut (0 : Int32) (s3 6 2) a3 v6 s3) (fun r10 s9 => some ((r10 * (2 : Int32)), s9)) else if r2 = (12 : Int32) then bnd (g_X8_workOut (1 : Int32) (s3 6 2) a3 v6 s3) (fun r13 s12 => some ((r13 - (s12 6 4)), s12)) else if r2 = (13 : Int32) then bnd (f_X8_divided a3 s3) (fun r16 s15 => some (r16, s15)) else if r2 = (20 : Int32) then bnd (g_X8_workOut (0 : Int32) v5 a3 v6 s3) (fun r19 s18 => some ((r19 - (4 : Int32)), s18)) else if r2 = (21 : Int32) then bnd (g_X8_workOut (3 : Int32) v5 a3 v6 s3) (fun r22 s21 => if (s21 6 1) = 0 then bnd (g_X8_workOut (1 : Int32) (s21 6 2) (1 : Int32) v6 s21) (fun r24 s23 => some ((r22 + r24), s23)) else some ((0 : Int32), s21)) else if r2 = (30 : Int32) then bnd (g_X8_workOut (1 : Int32) v5 a3 v6 s3) (fun r27 s26 => some (((0 : Int32) - r27), s26)) else if r2 = (40 : Int32) then bnd (g_X8_workOut (2 : Int32) v5 (a3 / (2 : Int32)) v6 s3) (fun r30 s29 => some (r30, s29)) else if r2 = (50 : Int32) then bnd (g_X8_workOut (0 : Int32) v5 a3 v6 s3) (fun r33 s32 => some ((r33 * (3 : Int32)), s32)) else if r2 = (51 : Int32) then bnd (g_X8_workOut (2 : Int32) v5 a3 v6 s3) (fun r36 s35 => some ((r36 ^^^ (s35 6 3)), s35)) else if r2 = (60 : Int32) then bnd (g_X8_workOut (1 : Int32) v5 (a3 + (1 : Int32)) v6 s3) (fun r39 s38 => some (r39, s38)) else if r2 = (70 : Int32) then some ((9 : Int32), s3) else if r2 = (71 : Int32) then bnd (g_X8_workOut (1 : Int32) v5 a3 v6 s3) (fun r43 s42 => some ((r43 + (s42 6 4)), s42)) else some ((0 : Int32), s3))))) else some ((0 : Int32), s1))
def G_X8_workOut : Nat → (Int32 → Int32 → Int32 → Int32 → Sg → Option (Int32 × Sg))
  | 0 => (fun _ _ _ _ _ => none)
  | d + 1 => (f_X8_workOut_e (G_X8_workOut d))
def f_X8_workOut : Int32 → Int32 → Int32 → Int32 → Sg → Option (Int32 × Sg) := (G_X8_workOut 64)
def f_X8_say (o1 : Nat) (a2 : Int32) (a3 : Int32) (a4 : Int32) (σ : Sg) : Option (Int32 × Sg) :=
  bnd (f_X6_clear 57 σ) (fun _ s1 => lt (up s1 6 1 (0 : Int32)) (fun s3 => lt (up s3 6 2 (s3 o1 0)) (fun s4 => lt (up s4 6 3 a2) (fun s5 => lt (up s5 6 4 (s5 o1 1)) (fun s6 => bnd (f_X8_workOut a3 (s6 6 2) a4 (0 : Int32) s6) (fun r8 s7 => some (r8, s7)))))))
def f_X9_isIn (a0 : Int32) (a1 : Int32) (a2 : Int32) (σ : Sg) : Option (Int32 × Sg) :=
  if a0 < a1 then some ((0 : Int32), σ) else if a2 < a0 then some ((0 : Int32), σ) else some ((1 : Int32), σ)
def f_X9_error (a1 : Int32) (σ : Sg) : Option (Int32 × Sg) :=
  ckb (inb a1 7) (ckb (inb a1 7) (lt (up σ 8 a1.toNatClampNeg ((rd (σ 8) a1) + (1 : Int32))) (fun s1 => some (((-1000000000 : Int32) - a1), s1))))
def f_X9_isUnder_4_b  (rec4 : Int32 → Int32 → Int32 → Sg → Option (Int32 × Sg)) (a1 : Int32) (a2 : Int32) (a3 : Int32) (σ : Sg) : Option (Int32 × Sg) :=
  if (7 : Int32) ≤ a3 then some ((0 : Int32), σ) else if a2 = (-1 : Int32) then some ((0 : Int32), σ) else if a2 = a1 then some ((1 : Int32), σ) else ckb (inb a2 7) (lt ((tbl lK a2)) (fun v1 => lt (a3 + (1 : Int32)) (fun v2 => rec4 a1 v1 v2 σ)))
def f_X9_isUnder_4  : Nat → Int32 → Int32 → Int32 → Sg → Option (Int32 × Sg)
  | 0 => fun _ _ _ _ => none
  | n + 1 => f_X9_isUnder_4_b   (f_X9_isUnder_4   n)
def f_X9_isUnder (a0 : Int32) (a1 : Int32) (σ : Sg) : Option (Int32 × Sg) :=
  f_X9_isUnder_4 fuN a1 a0 (0 : Int32) σ
def f_X9_as (a1 : Int32) (a2 : Int32) (σ : Sg) : Option (Int32 × Sg) :=
  bnd (f_X0_hasLine a1 σ) (fun r2 s1 => if r2 = 0 then bnd (f_X9_error (1 : Int32) s1) (fun r4 s3 => some (r4, s3)) else bnd (f_X9_isIn a2 (0 : Int32) (6 : Int32) s1) (fun r6 s5 => if r6 = 0 then bnd (f_X9_error (1 : Int32) s5) (fun r13 s12 => some (r13, s12)) else ckb (inb a1 10) (lt (20 + a1.toNatClampNeg) (fun p7 => bnd (f_X9_isUnder (s5 p7 0) a2 s5) (fun r9 s8 => if r9 = 0 then bnd (f_X9_error (5 : Int32) s8) (fun r11 s10 => some (r11, s10)) else some ((s8 p7 1), s8))))))
def f_X9_isKm (a0 : Int32) (σ : Sg) : Option (Int32 × Sg) :=
  bnd (f_X9_isIn a0 (0 : Int32) (69 : Int32) σ) (fun r2 s1 => ckb (isb r2) (some (r2, s1)))
def f_X9_become (a1 : Int32) (a2 : Int32) (σ : Sg) : Option (Int32 × Sg) :=
  bnd (f_X0_hasLine a1 σ) (fun r2 s1 => if r2 = 0 then bnd (f_X9_error (1 : Int32) s1) (fun r4 s3 => some (r4, s3)) else bnd (f_X9_isKm a2 s1) (fun r6 s5 => if r6 = 0 then bnd (f_X9_error (1 : Int32) s5) (fun r12 s11 => some (r12, s11)) else ckb (inb a1 10) (lt (20 + a1.toNatClampNeg) (fun p7 => lt ((s5 p7 0)) (fun v8 => lt (up s5 p7 0 (a2 / (10 : Int32))) (fun s9 => lt (up s9 p7 1 (irm a2 (10 : Int32))) (fun s10 => some (v8, s10))))))))
def f_X9_body (a1 : Int32) (σ : Sg) : Option (Int32 × Sg) :=
  bnd (f_X9_isIn a1 (0 : Int32) ((σ 57 1) - (1 : Int32)) σ) (fun r2 s1 => if r2 = 0 then bnd (f_X9_error (2 : Int32) s1) (fun r4 s3 => some (r4, s3)) else ckb (inb a1 30) (some ((rd (s1 75) a1), s1)))
def f_X9_firstWrongInk_10_b  (rec10 : Int32 → Sg → Option (Int32 × Sg)) (a2 : Int32) (σ : Sg) : Option (Int32 × Sg) :=
  if (σ 46 1) ≤ a2 then some ((0 : Int32), σ) else if (5 : Int32) ≤ a2 then some (((1 : Int32) + a2), σ) else ckb (inb a2 24) (ckb (inb a2 5) (if (rd (σ 64) a2) = (rd (σ 16) a2) then lt (a2 + (1 : Int32)) (fun v1 => rec10 v1 σ) else some (((1 : Int32) + a2), σ)))
def f_X9_firstWrongInk_10  : Nat → Int32 → Sg → Option (Int32 × Sg)
  | 0 => fun _ _ => none
  | n + 1 => f_X9_firstWrongInk_10_b   (f_X9_firstWrongInk_10   n)
def f_X9_firstWrongInk  (σ : Sg) : Option (Int32 × Sg) :=
  f_X9_firstWrongInk_10 fuN (0 : Int32) σ
def f_X9_check  (σ : Sg) : Option (Int32 × Sg) :=
  bnd (f_X9_firstWrongInk σ) (fun r2 s1 => bnd (f_X6_clear 46 s1) (fun _ s3 => some (r2, s3)))
def f_X9_clears (a1 : Int32) (σ : Sg) : Option (Int32 × Sg) :=
  bnd (f_X9_isIn a1 (0 : Int32) (90 : Int32) σ) (fun r2 s1 => if r2 = 0 then bnd (f_X9_error (1 : Int32) s1) (fun r4 s3 => some (r4, s3)) else bnd (f_X0_takenBehind a1 s1) (fun r6 s5 => some (r6, s5)))
def f_X9_count (a1 : Int32) (σ : Sg) : Option (Int32 × Sg) :=
  if a1 = (0 : Int32) then some ((σ 1 1), σ) else if a1 = (1 : Int32) then some ((σ 1 2), σ) else if a1 = (2 : Int32) then some ((σ 1 3), σ) else if a1 = (3 : Int32) then some ((σ 1 4), σ) else if a1 = (4 : Int32) then some ((σ 44 1), σ) else if a1 = (5 : Int32) then some ((σ 46 1), σ) else if a1 = (6 : Int32) then some ((σ 57 1), σ) else if a1 = (7 : Int32) then some ((σ 1 6), σ) else bnd (f_X9_error (1 : Int32) σ) (fun r10 s9 => some (r10, s9))
def f_X9_dates_45_b  (rec45 : Nat → Int32 → Sg → Option (Int32 × Sg)) (o2 : Nat) (a3 : Int32) (σ : Sg) : Option (Int32 × Sg) :=
  if (σ o2 1) ≤ a3 then some ((σ o2 1), σ) else bnd (f_X0_hasLine a3 σ) (fun r2 s1 => if r2 = 0 then some (a3, s1) else ckb (inb a3 (capC (o2 + 18))) (bnd (f_X9_isIn (rd (s1 (o2 + 18)) a3) (0 : Int32) (s1 1 2) s1) (fun r4 s3 => if r4 = 0 then some (a3, s3) else ckb (inb a3 10) (lt (20 + a3.toNatClampNeg) (fun p5 => ckb (inb a3 (capC (o2 + 18))) (lt (up s3 p5 4 (rd (s3 (o2 + 18)) a3)) (fun s6 => lt (a3 + (1 : Int32)) (fun v7 => rec45 o2 v7 s6))))))))
def f_X9_dates_45  : Nat → Nat → Int32 → Sg → Option (Int32 × Sg)
  | 0 => fun _ _ _ => none
  | n + 1 => f_X9_dates_45_b   (f_X9_dates_45   n)
def f_X9_dates (a1 : Int32) (σ : Sg) : Option (Int32 × Sg) :=
  bnd (f_X9_isIn a1 (0 : Int32) (3 : Int32) σ) (fun r9 s8 => if r9 = 0 then bnd (f_X9_error (1 : Int32) s8) (fun r17 s16 => some (r17, s16)) else ckb (inb a1 4) (lt (10 + a1.toNatClampNeg) (fun p10 => bnd (f_X7_isMissing p10 s8) (fun r12 s11 => if r12 = 0 then ckb (inb a1 4) (lt (10 + a1.toNatClampNeg) (fun p13 => f_X9_dates_45 fuN (p13 + 48) (0 : Int32) s11)) else bnd (f_X9_error (2 : Int32) s11) (fun r15 s14 => some (r15, s14))))))
def f_X9_days_39_b  (rec39 : Int32 → Int32 → Sg → Option (Int32 × Sg)) (a1 : Int32) (a2 : Int32) (σ : Sg) : Option (Int32 × Sg) :=
  if a1 ≤ a2 then some ((σ 1 2), σ) else bnd (f_X0_passDay σ) (fun _ s1 => lt (a2 + (1 : Int32)) (fun v3 => rec39 a1 v3 s1))
def f_X9_days_39  : Nat → Int32 → Int32 → Sg → Option (Int32 × Sg)
  | 0 => fun _ _ _ => none
  | n + 1 => f_X9_days_39_b   (f_X9_days_39   n)
def f_X9_days (a1 : Int32) (σ : Sg) : Option (Int32 × Sg) :=
  bnd (f_X9_isIn a1 (1 : Int32) (90 : Int32) σ) (fun r5 s4 => if r5 = 0 then bnd (f_X9_error (1 : Int32) s4) (fun r9 s8 => some (r9, s8)) else if ((s4 1 2) + a1) ≤ (9999 : Int32) then f_X9_days_39 fuN a1 (0 : Int32) s4 else bnd (f_X9_error (3 : Int32) s4) (fun r7 s6 => some (r7, s6)))
def f_X9_feed_39_b  (rec39 : Int64 → Int32 → Int32 → Sg → Option (Int32 × Sg)) (a1 : Int64) (a3 : Int32) (a4 : Int32) (σ : Sg) : Option (Int32 × Sg) :=
  if a3 ≤ a4 then some ((σ 44 1), σ) else bnd (f_X6_add 44 (((lus a1 ((8 : Int32) * a4)).toInt32) &&& (255 : Int32)) σ) (fun _ s1 => lt (a4 + (1 : Int32)) (fun v3 => rec39 a1 a3 v3 s1))
def f_X9_feed_39  : Nat → Int64 → Int32 → Int32 → Sg → Option (Int32 × Sg)
  | 0 => fun _ _ _ _ => none
  | n + 1 => f_X9_feed_39_b   (f_X9_feed_39   n)
def f_X9_feed (a1 : Int64) (a3 : Int32) (σ : Sg) : Option (Int32 × Sg) :=
  bnd (f_X9_isIn a3 (1 : Int32) (8 : Int32) σ) (fun r5 s4 => if r5 = 0 then bnd (f_X9_error (1 : Int32) s4) (fun r11 s10 => some (r11, s10)) else bnd (f_X6_hasRoomFor 44 a3 s4) (fun r7 s6 => if r7 = 0 then bnd (f_X9_error (4 : Int32) s6) (fun r9 s8 => some (r9, s8)) else f_X9_feed_39 fuN a1 a3 (0 : Int32) s6))
def f_X9_isSet_2_b  (rec2 : Nat → Int32 → Int32 → Sg → Option (Int32 × Sg)) (o0 : Nat) (a1 : Int32) (a2 : Int32) (σ : Sg) : Option (Int32 × Sg) :=
  if (σ o0 1) ≤ a2 then some ((1 : Int32), σ) else ckb (inb a2 (capC (o0 + 18))) (if (rd (σ (o0 + 18)) a2) = ((shr a1 a2) &&& (1 : Int32)) then lt (a2 + (1 : Int32)) (fun v1 => rec2 o0 a1 v1 σ) else some ((0 : Int32), σ))
def f_X9_isSet_2  : Nat → Nat → Int32 → Int32 → Sg → Option (Int32 × Sg)
  | 0 => fun _ _ _ _ => none
  | n + 1 => f_X9_isSet_2_b   (f_X9_isSet_2   n)
def f_X9_isSet (o0 : Nat) (a1 : Int32) (σ : Sg) : Option (Int32 × Sg) :=
  f_X9_isSet_2 fuN o0 a1 (0 : Int32) σ
def f_X9_fits_52_b  (rec52 : Int32 → Int32 → Sg → Option (Int32 × Sg)) (a1 : Int32) (a2 : Int32) (σ : Sg) : Option (Int32 × Sg) :=
  if (90 : Int32) < a2 then bnd (f_X9_error (2 : Int32) σ) (fun r2 s1 => some (r2, s1)) else ckb (inb a1 4) (lt (10 + a1.toNatClampNeg) (fun p3 => bnd (f_X0_takenBehind a2 σ) (fun r5 s4 => bnd (f_X9_isSet (p3 + 48) r5 s4) (fun r7 s6 => if r7 = 0 then lt (a2 + (1 : Int32)) (fun v8 => rec52 a1 v8 s6) else some (a2, s6)))))
def f_X9_fits_52  : Nat → Int32 → Int32 → Sg → Option (Int32 × Sg)
  | 0 => fun _ _ _ => none
  | n + 1 => f_X9_fits_52_b   (f_X9_fits_52   n)
def f_X9_fits (a1 : Int32) (σ : Sg) : Option (Int32 × Sg) :=
  bnd (f_X9_isIn a1 (0 : Int32) (3 : Int32) σ) (fun r10 s9 => if r10 = 0 then bnd (f_X9_error (1 : Int32) s9) (fun r20 s19 => some (r20, s19)) else ckb (inb a1 4) (lt (10 + a1.toNatClampNeg) (fun p11 => bnd (f_X7_isMissing p11 s9) (fun r13 s12 => if r13 = 0 then ckb (inb a1 4) (lt (10 + a1.toNatClampNeg) (fun p16 => if (s12 (p16 + 48) 1) ≤ (12 : Int32) then f_X9_fits_52 fuN a1 (0 : Int32) s12 else bnd (f_X9_error (2 : Int32) s12) (fun r18 s17 => some (r18, s17)))) else bnd (f_X9_error (2 : Int32) s12) (fun r15 s14 => some (r15, s14))))))
def f_X9_longestFree_3_b  (rec3 : Int32 → Int32 → Sg → Option (Int32 × Sg)) (a0 : Int32) (a1 : Int32) (σ : Sg) : Option (Int32 × Sg) :=
  if a1 ≤ 0 then some ((0 : Int32), σ) else bnd (f_X9_freeEnd a0 (0 : Int32) a1 σ) (fun r2 s1 => if r2 = (1000000 : Int32) then lt (a1 + (-1 : Int32)) (fun v3 => rec3 a0 v3 s1) else some (a1, s1))
def f_X9_longestFree_3  : Nat → Int32 → Int32 → Sg → Option (Int32 × Sg)
  | 0 => fun _ _ _ => none
  | n + 1 => f_X9_longestFree_3_b   (f_X9_longestFree_3   n)
def f_X9_longestFree (a0 : Int32) (σ : Sg) : Option (Int32 × Sg) :=
  f_X9_longestFree_3 fuN a0 (12 : Int32) σ
def f_X9_free (a1 : Int32) (σ : Sg) : Option (Int32 × Sg) :=
  bnd (f_X0_taken σ) (fun r2 s1 => if a1 = (0 : Int32) then some (r2, s1) else if a1 = (1 : Int32) then bnd (f_J6_bitCount_0f7a4 r2 s1) (fun r6 s5 => some (((12 : Int32) - r6), s5)) else if a1 = (2 : Int32) then bnd (f_X9_longestFree r2 s1) (fun r9 s8 => some (r9, s8)) else if a1 = (3 : Int32) then bnd (f_X9_longestFree r2 s1) (fun r12 s11 => if r12 = 0 then bnd (f_X9_error (2 : Int32) s11) (fun r16 s15 => some (r16, s15)) else bnd (f_X9_freeEnd r2 (0 : Int32) r12 s11) (fun r14 s13 => some ((r14 - r12), s13))) else bnd (f_X9_error (1 : Int32) s1) (fun r18 s17 => some (r18, s17)))
def f_X9_image  (σ : Sg) : Option (Int32 × Sg) :=
  bnd (f_X0_copyFrom 2 1 σ) (fun _ s1 => lt (up s1 0 2 ((s1 0 2) + (1 : Int32))) (fun s3 => some ((s3 0 2), s3)))
def f_X9_judge_45_b  (rec45 : Nat → Int32 → Sg → Option (Int32 × Sg)) (o2 : Nat) (a3 : Int32) (σ : Sg) : Option (Int32 × Sg) :=
  if (σ o2 1) ≤ a3 then some ((σ o2 1), σ) else bnd (f_X0_hasLine a3 σ) (fun r2 s1 => if r2 = 0 then some (a3, s1) else ckb (inb a3 (capC (o2 + 18))) (ckb (inb a3 10) (lt (20 + a3.toNatClampNeg) (fun p3 => bnd (f_X2_back p3 (s1 1 2) s1) (fun r5 s4 => if (rd (s1 (o2 + 18)) a3) = r5 then lt (a3 + (1 : Int32)) (fun v6 => rec45 o2 v6 s4) else some (a3, s4))))))
def f_X9_judge_45  : Nat → Nat → Int32 → Sg → Option (Int32 × Sg)
  | 0 => fun _ _ _ => none
  | n + 1 => f_X9_judge_45_b   (f_X9_judge_45   n)
def f_X9_judge (a1 : Int32) (σ : Sg) : Option (Int32 × Sg) :=
  bnd (f_X9_isIn a1 (0 : Int32) (3 : Int32) σ) (fun r8 s7 => if r8 = 0 then bnd (f_X9_error (1 : Int32) s7) (fun r16 s15 => some (r16, s15)) else ckb (inb a1 4) (lt (10 + a1.toNatClampNeg) (fun p9 => bnd (f_X7_isMissing p9 s7) (fun r11 s10 => if r11 = 0 then ckb (inb a1 4) (lt (10 + a1.toNatClampNeg) (fun p12 => f_X9_judge_45 fuN (p12 + 48) (0 : Int32) s10)) else bnd (f_X9_error (2 : Int32) s10) (fun r14 s13 => some (r14, s13))))))
def f_X9_law (a1 : Int32) (a2 : Int32) (a3 : Int32) (a4 : Int32) (σ : Sg) : Option (Int32 × Sg) :=
  bnd (f_X9_isIn a1 (0 : Int32) (1 : Int32) σ) (fun r2 s1 => if r2 = 0 then bnd (f_X9_error (1 : Int32) s1) (fun r4 s3 => some (r4, s3)) else bnd (f_X0_lawGives a1 a2 a3 a4 s1) (fun r6 s5 => some (r6, s5)))
def f_X9_lineIs (a1 : Int32) (a2 : Int32) (σ : Sg) : Option (Int32 × Sg) :=
  bnd (f_X0_hasLine a1 σ) (fun r2 s1 => if r2 = 0 then bnd (f_X9_error (1 : Int32) s1) (fun r23 s22 => some (r23, s22)) else ckb (inb a1 10) (lt (20 + a1.toNatClampNeg) (fun p3 => if a2 = (0 : Int32) then some ((s1 p3 0), s1) else if a2 = (1 : Int32) then some ((s1 p3 1), s1) else if a2 = (2 : Int32) then some ((s1 p3 2), s1) else if a2 = (3 : Int32) then some ((s1 p3 3), s1) else if a2 = (4 : Int32) then some ((s1 p3 4), s1) else if a2 = (5 : Int32) then some ((s1 p3 5), s1) else if a2 = (6 : Int32) then if (s1 p3 6) = 0 then some ((0 : Int32), s1) else some ((1 : Int32), s1) else if a2 = (7 : Int32) then bnd (f_X0_mayGo a1 (s1 1 2) s1) (fun r13 s12 => if r13 = 0 then some ((0 : Int32), s12) else some ((1 : Int32), s12)) else if a2 = (8 : Int32) then bnd (f_X2_back p3 (s1 1 2) s1) (fun r16 s15 => some (r16, s15)) else if a2 = (9 : Int32) then bnd (f_X0_lossOf a1 (s1 1 2) s1) (fun r19 s18 => some (r19, s18)) else bnd (f_X9_error (1 : Int32) s1) (fun r21 s20 => some (r21, s20)))))
def f_X9_loose_41_b  (rec41 : Int32 → Int32 → Int32 → Sg → Option (Int32 × Sg)) (a1 : Int32) (a2 : Int32) (a3 : Int32) (σ : Sg) : Option (Int32 × Sg) :=
  if a1 ≤ a3 then some (a2, σ) else bnd (f_X0_passDayByDraws σ) (fun r2 s1 => lt ((a2 + r2)) (fun v3 => lt (a3 + (1 : Int32)) (fun v4 => rec41 a1 v3 v4 s1)))
def f_X9_loose_41  : Nat → Int32 → Int32 → Int32 → Sg → Option (Int32 × Sg)
  | 0 => fun _ _ _ _ => none
  | n + 1 => f_X9_loose_41_b   (f_X9_loose_41   n)
def f_X9_loose (a1 : Int32) (σ : Sg) : Option (Int32 × Sg) :=
  bnd (f_X9_isIn a1 (1 : Int32) (30 : Int32) σ) (fun r6 s5 => if r6 = 0 then bnd (f_X9_error (1 : Int32) s5) (fun r10 s9 => some (r10, s9)) else if ((s5 1 2) + a1) ≤ (9999 : Int32) then f_X9_loose_41 fuN a1 (0 : Int32) (0 : Int32) s5 else bnd (f_X9_error (3 : Int32) s5) (fun r8 s7 => some (r8, s7)))
def f_X9_move (a1 : Int32) (a2 : Int32) (a3 : Int32) (a4 : Int32) (a5 : Int32) (σ : Sg) : Option (Int32 × Sg) :=
  bnd (f_X9_isIn a1 (0 : Int32) (3 : Int32) σ) (fun r2 s1 => if r2 = 0 then bnd (f_X9_error (1 : Int32) s1) (fun r4 s3 => some (r4, s3)) else bnd (f_X9_isIn a3 (0 : Int32) (3 : Int32) s1) (fun r6 s5 => if r6 = 0 then bnd (f_X9_error (1 : Int32) s5) (fun r29 s28 => some (r29, s28)) else ckb (inb a1 4) (lt (10 + a1.toNatClampNeg) (fun p7 => ckb (inb a3 4) (lt (10 + a3.toNatClampNeg) (fun p8 => bnd (f_X7_isMissing p7 s5) (fun r10 s9 => if r10 = 0 then bnd (f_X7_isMissing p8 s9) (fun r14 s13 => if r14 = 0 then if (s13 p7 1) = (s13 p8 1) then bnd (f_X6_stands (p7 + 48) a2 a5 s13) (fun r16 s15 => if r16 = 0 then bnd (f_X9_error (1 : Int32) s15) (fun r18 s17 => some (r18, s17)) else bnd (f_X6_stands (p8 + 48) a4 a5 s15) (fun r20 s19 => if r20 = 0 then bnd (f_X9_error (1 : Int32) s19) (fun r23 s22 => some (r23, s22)) else ckb (acOk a2 a4 a5 (capC ((p7 + 48) + 18)) (capC ((p8 + 48) + 18))) (lt (upR s19 ((p8 + 48) + 18) (va_cpy (s19 ((p7 + 48) + 18)) (s19 ((p8 + 48) + 18)) a2.toNatClampNeg a4.toNatClampNeg a5.toNatClampNeg)) (fun s21 => some (a5, s21))))) else bnd (f_X9_error (5 : Int32) s13) (fun r25 s24 => some (r25, s24)) else bnd (f_X9_error (2 : Int32) s13) (fun r27 s26 => some (r27, s26))) else bnd (f_X9_error (2 : Int32) s9) (fun r12 s11 => some (r12, s11)))))))))
def f_X9_sharedDivisor_9_b  (rec9 : Int64 → Int64 → Int32 → Sg → Option (Int64 × Sg)) (a4 : Int64) (a6 : Int64) (a8 : Int32) (σ : Sg) : Option (Int64 × Sg) :=
  if (1000 : Int32) ≤ a8 then some (a4, σ) else if (lg_cmp a6 (0 : Int64)) = 0 then some (a4, σ) else ckb (nzl a6) (lt ((lrm a4 a6)) (fun v2 => lt (a8 + (1 : Int32)) (fun v3 => rec9 a6 v2 v3 σ)))
def f_X9_sharedDivisor_9  : Nat → Int64 → Int64 → Int32 → Sg → Option (Int64 × Sg)
  | 0 => fun _ _ _ _ => none
  | n + 1 => f_X9_sharedDivisor_9_b   (f_X9_sharedDivisor_9   n)
def f_X9_sharedDivisor (a0 : Int64) (a2 : Int64) (σ : Sg) : Option (Int64 × Sg) :=
  f_X9_sharedDivisor_9 fuN a0 a2 (0 : Int32) σ
def f_X9_odds_48_b  (rec48 : Int32 → Int32 → Int64 → Int64 → Int32 → Sg → Option (Int64 × Sg)) (a1 : Int32) (a2 : Int32) (a3 : Int64) (a5 : Int64) (a7 : Int32) (σ : Sg) : Option (Int64 × Sg) :=
  if (σ 1 1) ≤ a7 then bnd (f_X9_sharedDivisor a3 a5 σ) (fun r2 s1 => if (lg_cmp r2 (0 : Int64)) = 0 then if a2 = 0 then some ((a3 / (1 : Int64)), s1) else some ((a5 / (1 : Int64)), s1) else if a2 = 0 then ckb (nzl r2) (some ((a3 / r2), s1)) else ckb (nzl r2) (some ((a5 / r2), s1))) else bnd (f_X9_isOf a7 a1 σ) (fun r6 s5 => if r6 = 0 then lt (a7 + (1 : Int32)) (fun v7 => rec48 a1 a2 a3 a5 v7 s5) else ckb (inb a7 10) (lt (20 + a7.toNatClampNeg) (fun p8 => bnd (f_X2_back p8 (s5 1 2) s5) (fun r10 s9 => lt ((a3 * (((100 : Int32) - r10).toInt64))) (fun v11 => lt ((a5 * (100 : Int64))) (fun v12 => lt (a7 + (1 : Int32)) (fun v13 => rec48 a1 a2 v11 v12 v13 s9)))))))
def f_X9_odds_48  : Nat → Int32 → Int32 → Int64 → Int64 → Int32 → Sg → Option (Int64 × Sg)
  | 0 => fun _ _ _ _ _ _ => none
  | n + 1 => f_X9_odds_48_b   (f_X9_odds_48   n)
def f_X9_odds (a1 : Int32) (a2 : Int32) (σ : Sg) : Option (Int64 × Sg) :=
  if a1 < 0 then bnd (f_X9_error (1 : Int32) σ) (fun r15 s14 => some (r15.toInt64, s14)) else if (shr a1 (σ 1 1)) = 0 then bnd (f_J6_bitCount_0f7a4 a1 σ) (fun r19 s18 => if (4 : Int32) < r19 then bnd (f_X9_error (1 : Int32) s18) (fun r21 s20 => some (r21.toInt64, s20)) else bnd (f_X9_isIn a2 (0 : Int32) (1 : Int32) s18) (fun r23 s22 => if r23 = 0 then bnd (f_X9_error (1 : Int32) s22) (fun r25 s24 => some (r25.toInt64, s24)) else f_X9_odds_48 fuN a1 a2 (1 : Int64) (1 : Int64) (0 : Int32) s22)) else bnd (f_X9_error (1 : Int32) σ) (fun r17 s16 => some (r17.toInt64, s16))
def f_X9_of (a1 : Int32) (σ : Sg) : Option (Int32 × Sg) :=
  bnd (f_X9_isIn a1 (0 : Int32) (5 : Int32) σ) (fun r2 s1 => if r2 = 0 then bnd (f_X9_error (1 : Int32) s1) (fun r4 s3 => some (r4, s3)) else bnd (f_X0_columnsOf a1 s1) (fun r6 s5 => bnd (f_J6_bitCount_0f7a4 r6 s5) (fun r8 s7 => some (r8, s7))))
def f_X9_parts_49_b  (rec49 : Nat → Int32 → Sg → Option (Int32 × Sg)) (o2 : Nat) (a3 : Int32) (σ : Sg) : Option (Int32 × Sg) :=
  if (σ (o2 + 48) 1) ≤ a3 then bnd (f_X0_taken σ) (fun r2 s1 => bnd (f_X3_most (o2 + 48) r2 s1) (fun r4 s3 => some (r4, s3))) else ckb (inb a3 (capC ((o2 + 48) + 18))) (bnd (f_X9_isIn (rd (σ ((o2 + 48) + 18)) a3) (1 : Int32) (12 : Int32) σ) (fun r6 s5 => if r6 = 0 then bnd (f_X9_error (3 : Int32) s5) (fun r9 s8 => some (r9, s8)) else lt (a3 + (1 : Int32)) (fun v7 => rec49 o2 v7 s5)))
def f_X9_parts_49  : Nat → Nat → Int32 → Sg → Option (Int32 × Sg)
  | 0 => fun _ _ _ => none
  | n + 1 => f_X9_parts_49_b   (f_X9_parts_49   n)
def f_X9_parts (a1 : Int32) (σ : Sg) : Option (Int32 × Sg) :=
  bnd (f_X9_isIn a1 (0 : Int32) (3 : Int32) σ) (fun r11 s10 => if r11 = 0 then bnd (f_X9_error (1 : Int32) s10) (fun r20 s19 => some (r20, s19)) else ckb (inb a1 4) (lt (10 + a1.toNatClampNeg) (fun p12 => bnd (f_X7_isMissing p12 s10) (fun r14 s13 => if r14 = 0 then if (s13 (p12 + 48) 1) ≤ (6 : Int32) then f_X9_parts_49 fuN p12 (0 : Int32) s13 else bnd (f_X9_error (2 : Int32) s13) (fun r18 s17 => some (r18, s17)) else bnd (f_X9_error (2 : Int32) s13) (fun r16 s15 => some (r16, s15))))))
def f_X9_pen (a1 : Int32) (a2 : Int32) (σ : Sg) : Option (Int32 × Sg) :=
  bnd (f_X9_isIn a1 (0 : Int32) (4 : Int32) σ) (fun r2 s1 => if r2 = 0 then bnd (f_X9_error (1 : Int32) s1) (fun r4 s3 => some (r4, s3)) else bnd (f_X9_isIn a2 (0 : Int32) (99 : Int32) s1) (fun r6 s5 => if r6 = 0 then bnd (f_X9_error (1 : Int32) s5) (fun r10 s9 => some (r10, s9)) else ckb (inb a1 5) (lt ((rd (s5 16) a1)) (fun v7 => ckb (inb a1 5) (lt (up s5 16 a1.toNatClampNeg a2) (fun s8 => some (v7, s8)))))))
def f_X9_photo (a1 : Int32) (a2 : Int32) (σ : Sg) : Option (Int32 × Sg) :=
  bnd (f_X0_hasLine a1 σ) (fun r2 s1 => if r2 = 0 then bnd (f_X9_error (1 : Int32) s1) (fun r4 s3 => some (r4, s3)) else bnd (f_X9_isIn a2 (0 : Int32) (1 : Int32) s1) (fun r6 s5 => if r6 = 0 then bnd (f_X9_error (1 : Int32) s5) (fun r12 s11 => some (r12, s11)) else ckb (inb a1 10) (lt (20 + a1.toNatClampNeg) (fun p7 => lt ((s5 p7 5)) (fun v8 => ckb (inb a1 10) (lt (20 + a1.toNatClampNeg) (fun p9 => lt (up s5 p9 5 a2) (fun s10 => some (v8, s10)))))))))
def f_X9_put (a1 : Int32) (a2 : Int32) (a3 : Int32) (σ : Sg) : Option (Int32 × Sg) :=
  bnd (f_X9_isIn a1 (0 : Int32) (3 : Int32) σ) (fun r2 s1 => if r2 = 0 then bnd (f_X9_error (1 : Int32) s1) (fun r19 s18 => some (r19, s18)) else ckb (inb a1 4) (lt (10 + a1.toNatClampNeg) (fun p3 => bnd (f_X7_isMissing p3 s1) (fun r5 s4 => if r5 = 0 then ckb (inb a1 4) (lt (10 + a1.toNatClampNeg) (fun p6 => bnd (f_X9_isIn a2 (0 : Int32) ((s4 (p6 + 48) 1) - (1 : Int32)) s4) (fun r8 s7 => if r8 = 0 then bnd (f_X9_error (1 : Int32) s7) (fun r15 s14 => some (r15, s14)) else ckb (inb a1 4) (lt (10 + a1.toNatClampNeg) (fun p9 => ckb (inb a1 4) (lt (10 + a1.toNatClampNeg) (fun p10 => bnd (f_X7_lowestBits p10 a3 s7) (fun r12 s11 => ckb (inb a2 (capC ((p9 + 48) + 18))) (lt (up s11 ((p9 + 48) + 18) a2.toNatClampNeg r12) (fun s13 => some ((1 : Int32), s13))))))))))) else bnd (f_X9_error (2 : Int32) s4) (fun r17 s16 => some (r17, s16))))))
def f_X9_restore  (σ : Sg) : Option (Int32 × Sg) :=
  if (σ 0 2) = 0 then bnd (f_X9_error (2 : Int32) σ) (fun r4 s3 => some (r4, s3)) else bnd (f_X0_copyFrom 1 2 σ) (fun _ s1 => some ((s1 1 2), s1))
def f_X9_room (a1 : Int32) (a2 : Int32) (σ : Sg) : Option (Int32 × Sg) :=
  bnd (f_X9_isIn a1 (1 : Int32) (12 : Int32) σ) (fun r2 s1 => if r2 = 0 then bnd (f_X9_error (1 : Int32) s1) (fun r4 s3 => some (r4, s3)) else bnd (f_X9_isIn a2 (0 : Int32) (3 : Int32) s1) (fun r6 s5 => if r6 = 0 then bnd (f_X9_error (1 : Int32) s5) (fun r19 s18 => some (r19, s18)) else bnd (f_X5_seek a1 (s5 1 2) s5) (fun r8 s7 => if r8 = 0 then bnd (f_X9_error (2 : Int32) s7) (fun r17 s16 => some (r17, s16)) else if a2 = (0 : Int32) then some ((s7 4 0), s7) else if a2 = (1 : Int32) then some ((s7 4 1), s7) else if a2 = (2 : Int32) then some ((s7 4 2), s7) else bnd (f_J6_bitCount_0f7a4 (s7 4 2) s7) (fun r13 s12 => bnd (f_X0_lawGives (1 : Int32) a1 (irm (s7 1 2) (7 : Int32)) r13 s12) (fun r15 s14 => some (r15, s14))))))
def f_X9_seed (a1 : Int32) (σ : Sg) : Option (Int32 × Sg) :=
  lt ((σ 1 6)) (fun v1 => lt (up σ 1 6 a1) (fun s2 => some (v1, s2)))
def f_X9_sheet_67  (a1 : Int32) (a2 : Int32) (a3 : Int32) (σ : Sg) : Option (Int32 × Sg) :=
  ckb (inb a1 4) (lt (10 + a1.toNatClampNeg) (fun p1 => if a2 = 0 then bnd (f_X7_begin p1 a2 (0 : Int32) σ) (fun _ s4 => some ((1 : Int32), s4)) else bnd (f_X7_begin p1 a2 a3 σ) (fun _ s2 => some ((1 : Int32), s2))))
def f_X9_sheet_51  (a1 : Int32) (a2 : Int32) (a3 : Int32) (σ : Sg) : Option (Int32 × Sg) :=
  if a2 = 0 then f_X9_sheet_67 a1 a2 a3 σ else if a3 ≤ (24 : Int32) then f_X9_sheet_67 a1 a2 a3 σ else bnd (f_X9_error (1 : Int32) σ) (fun r7 s6 => some (r7, s6))
def f_X9_sheet_37  (a1 : Int32) (a2 : Int32) (a3 : Int32) (σ : Sg) : Option (Int32 × Sg) :=
  if a2 = 0 then f_X9_sheet_51 a1 a2 a3 σ else if 0 ≤ a3 then f_X9_sheet_51 a1 a2 a3 σ else bnd (f_X9_error (3 : Int32) σ) (fun r9 s8 => some (r9, s8))
def f_X9_sheet (a1 : Int32) (a2 : Int32) (a3 : Int32) (σ : Sg) : Option (Int32 × Sg) :=
  bnd (f_X9_isIn a1 (0 : Int32) (3 : Int32) σ) (fun r11 s10 => if r11 = 0 then bnd (f_X9_error (1 : Int32) s10) (fun r13 s12 => some (r13, s12)) else if a2 = 0 then f_X9_sheet_37 a1 a2 a3 s10 else if a2 = (8 : Int32) then f_X9_sheet_37 a1 a2 a3 s10 else if a2 = (16 : Int32) then f_X9_sheet_37 a1 a2 a3 s10 else if a2 = (32 : Int32) then f_X9_sheet_37 a1 a2 a3 s10 else bnd (f_X9_error (1 : Int32) s10) (fun r15 s14 => some (r15, s14)))
def f_X9_spirit (a1 : Int32) (σ : Sg) : Option (Int32 × Sg) :=
  bnd (f_X9_isIn a1 (0 : Int32) (1 : Int32) σ) (fun r2 s1 => if r2 = 0 then bnd (f_X9_error (1 : Int32) s1) (fun r6 s5 => some (r6, s5)) else lt ((s1 1 3)) (fun v3 => lt (up s1 1 3 a1) (fun s4 => some (v3, s4))))
def f_X9_tell (a1 : Int32) (σ : Sg) : Option (Int32 × Sg) :=
  bnd (f_X6_hasRoomFor 46 (1 : Int32) σ) (fun r2 s1 => if r2 = 0 then bnd (f_X9_error (4 : Int32) s1) (fun r6 s5 => some (r6, s5)) else bnd (f_X6_add 46 a1 s1) (fun _ s3 => some ((s3 46 1), s3)))
def f_X9_text (a1 : Int32) (σ : Sg) : Option (Int32 × Sg) :=
  bnd (f_X9_isIn a1 (0 : Int32) (1 : Int32) σ) (fun r2 s1 => if r2 = 0 then bnd (f_X9_error (1 : Int32) s1) (fun r11 s10 => some (r11, s10)) else bnd (f_X4_reads a1 s1) (fun r4 s3 => bnd (f_X6_clear 44 s3) (fun _ s5 => if r4 = 0 then some (((-10 : Int32) - (s5 3 3)), s5) else ckb (inb a1 2) (lt (40 + a1.toNatClampNeg) (fun p7 => bnd (f_X1_take p7 56 s5) (fun _ s8 => some ((1 : Int32), s8)))))))
def f_X9_told (a1 : Int32) (σ : Sg) : Option (Int32 × Sg) :=
  bnd (f_X9_isIn a1 (1 : Int32) (6 : Int32) σ) (fun r2 s1 => if r2 = 0 then bnd (f_X9_error (1 : Int32) s1) (fun r4 s3 => some (r4, s3)) else ckb (inb a1 7) (some ((rd (s1 8) a1), s1)))
def f_X9_untell (a1 : Int32) (σ : Sg) : Option (Int32 × Sg) :=
  bnd (f_X9_isIn a1 (0 : Int32) (1 : Int32) σ) (fun r2 s1 => if r2 = 0 then bnd (f_X9_error (1 : Int32) s1) (fun r8 s7 => some (r8, s7)) else ckb (inb a1 2) (lt (40 + a1.toNatClampNeg) (fun p3 => lt ((s1 p3 0)) (fun v4 => ckb (inb a1 2) (lt (40 + a1.toNatClampNeg) (fun p5 => lt (up s1 p5 0 (0 : Int32)) (fun s6 => if v4 = 0 then some ((0 : Int32), s6) else some ((1 : Int32), s6))))))))
def f_X9_voice (a1 : Int32) (a2 : Int32) (a3 : Int32) (σ : Sg) : Option (Int32 × Sg) :=
  bnd (f_X0_hasLine a1 σ) (fun r2 s1 => if r2 = 0 then bnd (f_X9_error (1 : Int32) s1) (fun r4 s3 => some (r4, s3)) else bnd (f_X9_isIn a2 (0 : Int32) (3 : Int32) s1) (fun r6 s5 => if r6 = 0 then bnd (f_X9_error (1 : Int32) s5) (fun r13 s12 => some (r13, s12)) else ckb (inb a1 10) (lt (20 + a1.toNatClampNeg) (fun p7 => bnd (f_X8_say p7 a1 a2 a3 s5) (fun r9 s8 => if (s8 6 1) = 0 then some (r9, s8) else bnd (f_X9_error (6 : Int32) s8) (fun r11 s10 => some (r11, s10)))))))
def f_X9_when (a1 : Int32) (a2 : Int32) (σ : Sg) : Option (Int32 × Sg) :=
  bnd (f_X9_isIn a1 (1 : Int32) (12 : Int32) σ) (fun r2 s1 => if r2 = 0 then bnd (f_X9_error (1 : Int32) s1) (fun r4 s3 => some (r4, s3)) else bnd (f_X9_isIn a2 (0 : Int32) (1 : Int32) s1) (fun r6 s5 => if r6 = 0 then bnd (f_X9_error (1 : Int32) s5) (fun r16 s15 => some (r16, s15)) else bnd (f_X5_firstBehind a1 s5) (fun r8 s7 => if (90 : Int32) < r8 then bnd (f_X9_error (2 : Int32) s7) (fun r10 s9 => some (r10, s9)) else bnd (f_X5_seek a1 ((s7 1 2) + r8) s7) (fun r12 s11 => if r12 = 0 then bnd (f_X9_error (2 : Int32) s11) (fun r14 s13 => some (r14, s13)) else if a2 = 0 then some (r8, s11) else some ((s11 4 1), s11)))))
def f_X9_wipe (a1 : Int32) (σ : Sg) : Option (Int32 × Sg) :=
  bnd (f_X0_hasLine a1 σ) (fun r2 s1 => if r2 = 0 then bnd (f_X9_error (1 : Int32) s1) (fun r10 s9 => some (r10, s9)) else bnd (f_X0_mayGo a1 (s1 1 2) s1) (fun r4 s3 => if r4 = 0 then bnd (f_X9_error (3 : Int32) s3) (fun r6 s5 => some (r6, s5)) else bnd (f_X0_wipeLine a1 s3) (fun r8 s7 => some (r8, s7))))
def f_X9_write (a1 : Int32) (a2 : Int32) (a3 : Int32) (a4 : Int32) (σ : Sg) : Option (Int32 × Sg) :=
  lt ((a2 / (100 : Int32))) (fun v1 => lt ((irm a2 (100 : Int32))) (fun v2 => bnd (f_X9_isKm a1 σ) (fun r4 s3 => if r4 = 0 then bnd (f_X9_error (1 : Int32) s3) (fun r6 s5 => some (r6, s5)) else bnd (f_X9_isIn v1 (0 : Int32) (11 : Int32) s3) (fun r8 s7 => if r8 = 0 then bnd (f_X9_error (1 : Int32) s7) (fun r10 s9 => some (r10, s9)) else bnd (f_X9_isIn v2 (1 : Int32) ((12 : Int32) - v1) s7) (fun r12 s11 => if r12 = 0 then bnd (f_X9_error (1 : Int32) s11) (fun r35 s34 => some (r35, s34)) else bnd (f_X9_isIn a3 (0 : Int32) (5 : Int32) s11) (fun r14 s13 => if r14 = 0 then bnd (f_X9_error (1 : Int32) s13) (fun r16 s15 => some (r16, s15)) else bnd (f_X9_isIn a4 (0 : Int32) (4 : Int32) s13) (fun r18 s17 => if r18 = 0 then bnd (f_X9_error (1 : Int32) s17) (fun r33 s32 => some (r33, s32)) else if (s17 1 1) < (10 : Int32) then bnd (f_X9_columnsFrom v1 v2 s17) (fun r20 s19 => bnd (f_X0_taken s19) (fun r22 s21 => if (r22 &&& r20) = 0 then ckb (inb a4 5) (if v2 ≤ (rd (s21 16) a4) then ckb (inb a4 5) (ckb (inb a4 5) (lt (up s21 16 a4.toNatClampNeg ((rd (s21 16) a4) - v2)) (fun s25 => bnd (f_X0_addLine (a1 / (10 : Int32)) (irm a1 (10 : Int32)) r20 a3 s25) (fun r27 s26 => some (r27, s26))))) else bnd (f_X9_error (3 : Int32) s21) (fun r29 s28 => some (r29, s28))) else bnd (f_X9_error (3 : Int32) s21) (fun r24 s23 => some (r24, s23)))) else bnd (f_X9_error (4 : Int32) s17) (fun r31 s30 => some (r31, s30)))))))))
end
end
section
def cmb (σ τ : Sg) : Sg := fun k => if k < 80 then σ k else τ (k - 80)
noncomputable section
def f_law_c0 (L : Nat) (xs : Nat → Int32) (rec : Int32 → Sg → Sg → Option (Int32 × Sg)) (a3 : Int32) (σ τ : Sg) : Option (Int32 × Sg) :=
  ckb (inb (a3 + (1 : Int32)) L) (ckb (inb (a3 + (2 : Int32)) L) (ckb (inb (a3 + (3 : Int32)) L) (ckb (inb (a3 + (4 : Int32)) L) (bnd (f_X9_write (xs (a3 + (1 : Int32)).toNatClampNeg) (xs (a3 + (2 : Int32)).toNatClampNeg) (xs (a3 + (3 : Int32)).toNatClampNeg) (xs (a3 + (4 : Int32)).toNatClampNeg) σ) (fun r1 s2 => ckb (inb (a3 + (1 : Int32)) L) (ckb (inb (a3 + (2 : Int32)) L) (ckb (inb (a3 + (3 : Int32)) L) (ckb (inb (a3 + (4 : Int32)) L) (bnd (f_X10_write (xs (a3 + (1 : Int32)).toNatClampNeg) (xs (a3 + (2 : Int32)).toNatClampNeg) (xs (a3 + (3 : Int32)).toNatClampNeg) (xs (a3 + (4 : Int32)).toNatClampNeg) τ) (fun r3 t4 => if r1 = r3 then lt (a3 + (6 : Int32)) (fun v => rec v s2 t4) else some ((0 : Int32), cmb s2 t4)))))))))))
def f_law_c1 (L : Nat) (xs : Nat → Int32) (rec : Int32 → Sg → Sg → Option (Int32 × Sg)) (a3 : Int32) (σ τ : Sg) : Option (Int32 × Sg) :=
  ckb (inb (a3 + (1 : Int32)) L) (ckb (inb (a3 + (2 : Int32)) L) (bnd (f_X9_lineIs (xs (a3 + (1 : Int32)).toNatClampNeg) (xs (a3 + (2 : Int32)).toNatClampNeg) σ) (fun r1 s2 => ckb (inb (a3 + (1 : Int32)) L) (ckb (inb (a3 + (2 : Int32)) L) (bnd (f_X10_lineIs (xs (a3 + (1 : Int32)).toNatClampNeg) (xs (a3 + (2 : Int32)).toNatClampNeg) τ) (fun r3 t4 => if r1 = r3 then lt (a3 + (6 : Int32)) (fun v => rec v s2 t4) else some ((0 : Int32), cmb s2 t4)))))))
def f_law_c2 (L : Nat) (xs : Nat → Int32) (rec : Int32 → Sg → Sg → Option (Int32 × Sg)) (a3 : Int32) (σ τ : Sg) : Option (Int32 × Sg) :=
  ckb (inb (a3 + (1 : Int32)) L) (ckb (inb (a3 + (2 : Int32)) L) (bnd (f_X9_become (xs (a3 + (1 : Int32)).toNatClampNeg) (xs (a3 + (2 : Int32)).toNatClampNeg) σ) (fun r1 s2 => ckb (inb (a3 + (1 : Int32)) L) (ckb (inb (a3 + (2 : Int32)) L) (bnd (f_X10_become (xs (a3 + (1 : Int32)).toNatClampNeg) (xs (a3 + (2 : Int32)).toNatClampNeg) τ) (fun r3 t4 => if r1 = r3 then lt (a3 + (6 : Int32)) (fun v => rec v s2 t4) else some ((0 : Int32), cmb s2 t4)))))))
def f_law_c3 (L : Nat) (xs : Nat → Int32) (rec : Int32 → Sg → Sg → Option (Int32 × Sg)) (a3 : Int32) (σ τ : Sg) : Option (Int32 × Sg) :=
  ckb (inb (a3 + (1 : Int32)) L) (ckb (inb (a3 + (2 : Int32)) L) (bnd (f_X9_as (xs (a3 + (1 : Int32)).toNatClampNeg) (xs (a3 + (2 : Int32)).toNatClampNeg) σ) (fun r1 s2 => ckb (inb (a3 + (1 : Int32)) L) (ckb (inb (a3 + (2 : Int32)) L) (bnd (f_X10_as (xs (a3 + (1 : Int32)).toNatClampNeg) (xs (a3 + (2 : Int32)).toNatClampNeg) τ) (fun r3 t4 => if r1 = r3 then lt (a3 + (6 : Int32)) (fun v => rec v s2 t4) else some ((0 : Int32), cmb s2 t4)))))))
def f_law_c4 (L : Nat) (xs : Nat → Int32) (rec : Int32 → Sg → Sg → Option (Int32 × Sg)) (a3 : Int32) (σ τ : Sg) : Option (Int32 × Sg) :=
  ckb (inb (a3 + (1 : Int32)) L) (ckb (inb (a3 + (2 : Int32)) L) (bnd (f_X9_photo (xs (a3 + (1 : Int32)).toNatClampNeg) (xs (a3 + (2 : Int32)).toNatClampNeg) σ) (fun r1 s2 => ckb (inb (a3 + (1 : Int32)) L) (ckb (inb (a3 + (2 : Int32)) L) (bnd (f_X10_photo (xs (a3 + (1 : Int32)).toNatClampNeg) (xs (a3 + (2 : Int32)).toNatClampNeg) τ) (fun r3 t4 => if r1 = r3 then lt (a3 + (6 : Int32)) (fun v => rec v s2 t4) else some ((0 : Int32), cmb s2 t4)))))))
def f_law_c5 (L : Nat) (xs : Nat → Int32) (rec : Int32 → Sg → Sg → Option (Int32 × Sg)) (a3 : Int32) (σ τ : Sg) : Option (Int32 × Sg) :=
  ckb (inb (a3 + (1 : Int32)) L) (bnd (f_X9_wipe (xs (a3 + (1 : Int32)).toNatClampNeg) σ) (fun r1 s2 => ckb (inb (a3 + (1 : Int32)) L) (bnd (f_X10_wipe (xs (a3 + (1 : Int32)).toNatClampNeg) τ) (fun r3 t4 => if r1 = r3 then lt (a3 + (6 : Int32)) (fun v => rec v s2 t4) else some ((0 : Int32), cmb s2 t4)))))
def f_law_c6 (L : Nat) (xs : Nat → Int32) (rec : Int32 → Sg → Sg → Option (Int32 × Sg)) (a3 : Int32) (σ τ : Sg) : Option (Int32 × Sg) :=
  ckb (inb (a3 + (1 : Int32)) L) (ckb (inb (a3 + (2 : Int32)) L) (bnd (f_X9_pen (xs (a3 + (1 : Int32)).toNatClampNeg) (xs (a3 + (2 : Int32)).toNatClampNeg) σ) (fun r1 s2 => ckb (inb (a3 + (1 : Int32)) L) (ckb (inb (a3 + (2 : Int32)) L) (bnd (f_X10_pen (xs (a3 + (1 : Int32)).toNatClampNeg) (xs (a3 + (2 : Int32)).toNatClampNeg) τ) (fun r3 t4 => if r1 = r3 then lt (a3 + (6 : Int32)) (fun v => rec v s2 t4) else some ((0 : Int32), cmb s2 t4)))))))
def f_law_c7 (L : Nat) (xs : Nat → Int32) (rec : Int32 → Sg → Sg → Option (Int32 × Sg)) (a3 : Int32) (σ τ : Sg) : Option (Int32 × Sg) :=
  ckb (inb (a3 + (1 : Int32)) L) (bnd (f_X9_spirit (xs (a3 + (1 : Int32)).toNatClampNeg) σ) (fun r1 s2 => ckb (inb (a3 + (1 : Int32)) L) (bnd (f_X10_spirit (xs (a3 + (1 : Int32)).toNatClampNeg) τ) (fun r3 t4 => if r1 = r3 then lt (a3 + (6 : Int32)) (fun v => rec v s2 t4) else some ((0 : Int32), cmb s2 t4)))))
def f_law_c8 (L : Nat) (xs : Nat → Int32) (rec : Int32 → Sg → Sg → Option (Int32 × Sg)) (a3 : Int32) (σ τ : Sg) : Option (Int32 × Sg) :=
  ckb (inb (a3 + (1 : Int32)) L) (ckb (inb (a3 + (2 : Int32)) L) (ckb (inb (a3 + (3 : Int32)) L) (bnd (f_X9_feed ((lsl ((xs (a3 + (1 : Int32)).toNatClampNeg).toInt64) (32 : Int32)) ||| ((xs (a3 + (2 : Int32)).toNatClampNeg).toInt64 &&& (4294967295 : Int64))) (xs (a3 + (3 : Int32)).toNatClampNeg) σ) (fun r1 s2 => ckb (inb (a3 + (1 : Int32)) L) (ckb (inb (a3 + (2 : Int32)) L) (ckb (inb (a3 + (3 : Int32)) L) (bnd (f_X10_feed ((lsl ((xs (a3 + (1 : Int32)).toNatClampNeg).toInt64) (32 : Int32)) ||| ((xs (a3 + (2 : Int32)).toNatClampNeg).toInt64 &&& (4294967295 : Int64))) (xs (a3 + (3 : Int32)).toNatClampNeg) τ) (fun r3 t4 => if r1 = r3 then lt (a3 + (6 : Int32)) (fun v => rec v s2 t4) else some ((0 : Int32), cmb s2 t4)))))))))
def f_law_c9 (L : Nat) (xs : Nat → Int32) (rec : Int32 → Sg → Sg → Option (Int32 × Sg)) (a3 : Int32) (σ τ : Sg) : Option (Int32 × Sg) :=
  ckb (inb (a3 + (1 : Int32)) L) (bnd (f_X9_text (xs (a3 + (1 : Int32)).toNatClampNeg) σ) (fun r1 s2 => ckb (inb (a3 + (1 : Int32)) L) (bnd (f_X10_text (xs (a3 + (1 : Int32)).toNatClampNeg) τ) (fun r3 t4 => if r1 = r3 then lt (a3 + (6 : Int32)) (fun v => rec v s2 t4) else some ((0 : Int32), cmb s2 t4)))))
def f_law_c10 (L : Nat) (xs : Nat → Int32) (rec : Int32 → Sg → Sg → Option (Int32 × Sg)) (a3 : Int32) (σ τ : Sg) : Option (Int32 × Sg) :=
  ckb (inb (a3 + (1 : Int32)) L) (bnd (f_X9_untell (xs (a3 + (1 : Int32)).toNatClampNeg) σ) (fun r1 s2 => ckb (inb (a3 + (1 : Int32)) L) (bnd (f_X10_untell (xs (a3 + (1 : Int32)).toNatClampNeg) τ) (fun r3 t4 => if r1 = r3 then lt (a3 + (6 : Int32)) (fun v => rec v s2 t4) else some ((0 : Int32), cmb s2 t4)))))
def f_law_c11 (L : Nat) (xs : Nat → Int32) (rec : Int32 → Sg → Sg → Option (Int32 × Sg)) (a3 : Int32) (σ τ : Sg) : Option (Int32 × Sg) :=
  ckb (inb (a3 + (1 : Int32)) L) (ckb (inb (a3 + (2 : Int32)) L) (ckb (inb (a3 + (3 : Int32)) L) (ckb (inb (a3 + (4 : Int32)) L) (bnd (f_X9_law (xs (a3 + (1 : Int32)).toNatClampNeg) (xs (a3 + (2 : Int32)).toNatClampNeg) (xs (a3 + (3 : Int32)).toNatClampNeg) (xs (a3 + (4 : Int32)).toNatClampNeg) σ) (fun r1 s2 => ckb (inb (a3 + (1 : Int32)) L) (ckb (inb (a3 + (2 : Int32)) L) (ckb (inb (a3 + (3 : Int32)) L) (ckb (inb (a3 + (4 : Int32)) L) (bnd (f_X10_law (xs (a3 + (1 : Int32)).toNatClampNeg) (xs (a3 + (2 : Int32)).toNatClampNeg) (xs (a3 + (3 : Int32)).toNatClampNeg) (xs (a3 + (4 : Int32)).toNatClampNeg) τ) (fun r3 t4 => if r1 = r3 then lt (a3 + (6 : Int32)) (fun v => rec v s2 t4) else some ((0 : Int32), cmb s2 t4)))))))))))
def f_law_c12 (L : Nat) (xs : Nat → Int32) (rec : Int32 → Sg → Sg → Option (Int32 × Sg)) (a3 : Int32) (σ τ : Sg) : Option (Int32 × Sg) :=
  ckb (inb (a3 + (1 : Int32)) L) (bnd (f_X9_days (xs (a3 + (1 : Int32)).toNatClampNeg) σ) (fun r1 s2 => ckb (inb (a3 + (1 : Int32)) L) (bnd (f_X10_days (xs (a3 + (1 : Int32)).toNatClampNeg) τ) (fun r3 t4 => if r1 = r3 then lt (a3 + (6 : Int32)) (fun v => rec v s2 t4) else some ((0 : Int32), cmb s2 t4)))))
def f_law_c13 (L : Nat) (xs : Nat → Int32) (rec : Int32 → Sg → Sg → Option (Int32 × Sg)) (a3 : Int32) (σ τ : Sg) : Option (Int32 × Sg) :=
  ckb (inb (a3 + (1 : Int32)) L) (bnd (f_X9_loose (xs (a3 + (1 : Int32)).toNatClampNeg) σ) (fun r1 s2 => ckb (inb (a3 + (1 : Int32)) L) (bnd (f_X10_loose (xs (a3 + (1 : Int32)).toNatClampNeg) τ) (fun r3 t4 => if r1 = r3 then lt (a3 + (6 : Int32)) (fun v => rec v s2 t4) else some ((0 : Int32), cmb s2 t4)))))
def f_law_c14 (L : Nat) (xs : Nat → Int32) (rec : Int32 → Sg → Sg → Option (Int32 × Sg)) (a3 : Int32) (σ τ : Sg) : Option (Int32 × Sg) :=
  ckb (inb (a3 + (1 : Int32)) L) (bnd (f_X9_seed (xs (a3 + (1 : Int32)).toNatClampNeg) σ) (fun r1 s2 => ckb (inb (a3 + (1 : Int32)) L) (bnd (f_X10_seed (xs (a3 + (1 : Int32)).toNatClampNeg) τ) (fun r3 t4 => if r1 = r3 then lt (a3 + (6 : Int32)) (fun v => rec v s2 t4) else some ((0 : Int32), cmb s2 t4)))))
def f_law_c15 (L : Nat) (xs : Nat → Int32) (rec : Int32 → Sg → Sg → Option (Int32 × Sg)) (a3 : Int32) (σ τ : Sg) : Option (Int32 × Sg) :=
  ckb (inb (a3 + (1 : Int32)) L) (bnd (f_X9_free (xs (a3 + (1 : Int32)).toNatClampNeg) σ) (fun r1 s2 => ckb (inb (a3 + (1 : Int32)) L) (bnd (f_X10_free (xs (a3 + (1 : Int32)).toNatClampNeg) τ) (fun r3 t4 => if r1 = r3 then lt (a3 + (6 : Int32)) (fun v => rec v s2 t4) else some ((0 : Int32), cmb s2 t4)))))
def f_law_c16 (L : Nat) (xs : Nat → Int32) (rec : Int32 → Sg → Sg → Option (Int32 × Sg)) (a3 : Int32) (σ τ : Sg) : Option (Int32 × Sg) :=
  ckb (inb (a3 + (1 : Int32)) L) (bnd (f_X9_of (xs (a3 + (1 : Int32)).toNatClampNeg) σ) (fun r1 s2 => ckb (inb (a3 + (1 : Int32)) L) (bnd (f_X10_of (xs (a3 + (1 : Int32)).toNatClampNeg) τ) (fun r3 t4 => if r1 = r3 then lt (a3 + (6 : Int32)) (fun v => rec v s2 t4) else some ((0 : Int32), cmb s2 t4)))))
def f_law_c17 (L : Nat) (xs : Nat → Int32) (rec : Int32 → Sg → Sg → Option (Int32 × Sg)) (a3 : Int32) (σ τ : Sg) : Option (Int32 × Sg) :=
  ckb (inb (a3 + (1 : Int32)) L) (ckb (inb (a3 + (2 : Int32)) L) (bnd (f_X9_room (xs (a3 + (1 : Int32)).toNatClampNeg) (xs (a3 + (2 : Int32)).toNatClampNeg) σ) (fun r1 s2 => ckb (inb (a3 + (1 : Int32)) L) (ckb (inb (a3 + (2 : Int32)) L) (bnd (f_X10_room (xs (a3 + (1 : Int32)).toNatClampNeg) (xs (a3 + (2 : Int32)).toNatClampNeg) τ) (fun r3 t4 => if r1 = r3 then lt (a3 + (6 : Int32)) (fun v => rec v s2 t4) else some ((0 : Int32), cmb s2 t4)))))))
def f_law_c18 (L : Nat) (xs : Nat → Int32) (rec : Int32 → Sg → Sg → Option (Int32 × Sg)) (a3 : Int32) (σ τ : Sg) : Option (Int32 × Sg) :=
  ckb (inb (a3 + (1 : Int32)) L) (ckb (inb (a3 + (2 : Int32)) L) (bnd (f_X9_when (xs (a3 + (1 : Int32)).toNatClampNeg) (xs (a3 + (2 : Int32)).toNatClampNeg) σ) (fun r1 s2 => ckb (inb (a3 + (1 : Int32)) L) (ckb (inb (a3 + (2 : Int32)) L) (bnd (f_X10_when (xs (a3 + (1 : Int32)).toNatClampNeg) (xs (a3 + (2 : Int32)).toNatClampNeg) τ) (fun r3 t4 => if r1 = r3 then lt (a3 + (6 : Int32)) (fun v => rec v s2 t4) else some ((0 : Int32), cmb s2 t4)))))))
def f_law_c19 (L : Nat) (xs : Nat → Int32) (rec : Int32 → Sg → Sg → Option (Int32 × Sg)) (a3 : Int32) (σ τ : Sg) : Option (Int32 × Sg) :=
  ckb (inb (a3 + (1 : Int32)) L) (bnd (f_X9_clears (xs (a3 + (1 : Int32)).toNatClampNeg) σ) (fun r1 s2 => ckb (inb (a3 + (1 : Int32)) L) (bnd (f_X10_clears (xs (a3 + (1 : Int32)).toNatClampNeg) τ) (fun r3 t4 => if r1 = r3 then lt (a3 + (6 : Int32)) (fun v => rec v s2 t4) else some ((0 : Int32), cmb s2 t4)))))
def f_law_c20 (L : Nat) (xs : Nat → Int32) (rec : Int32 → Sg → Sg → Option (Int32 × Sg)) (a3 : Int32) (σ τ : Sg) : Option (Int32 × Sg) :=
  ckb (inb (a3 + (1 : Int32)) L) (bnd (f_X9_parts (xs (a3 + (1 : Int32)).toNatClampNeg) σ) (fun r1 s2 => ckb (inb (a3 + (1 : Int32)) L) (bnd (f_X10_parts (xs (a3 + (1 : Int32)).toNatClampNeg) τ) (fun r3 t4 => if r1 = r3 then lt (a3 + (6 : Int32)) (fun v => rec v s2 t4) else some ((0 : Int32), cmb s2 t4)))))
def f_law_c21 (L : Nat) (xs : Nat → Int32) (rec : Int32 → Sg → Sg → Option (Int32 × Sg)) (a3 : Int32) (σ τ : Sg) : Option (Int32 × Sg) :=
  ckb (inb (a3 + (1 : Int32)) L) (ckb (inb (a3 + (2 : Int32)) L) (bnd (f_X9_odds (xs (a3 + (1 : Int32)).toNatClampNeg) (xs (a3 + (2 : Int32)).toNatClampNeg) σ) (fun r1 s2 => ckb (inb (a3 + (1 : Int32)) L) (ckb (inb (a3 + (2 : Int32)) L) (bnd (f_X10_odds (xs (a3 + (1 : Int32)).toNatClampNeg) (xs (a3 + (2 : Int32)).toNatClampNeg) τ) (fun r3 t4 => if (lg_cmp r1 r3) = 0 then lt (a3 + (6 : Int32)) (fun v => rec v s2 t4) else some ((0 : Int32), cmb s2 t4)))))))
def f_law_c22 (L : Nat) (xs : Nat → Int32) (rec : Int32 → Sg → Sg → Option (Int32 × Sg)) (a3 : Int32) (σ τ : Sg) : Option (Int32 × Sg) :=
  ckb (inb (a3 + (1 : Int32)) L) (bnd (f_X9_fits (xs (a3 + (1 : Int32)).toNatClampNeg) σ) (fun r1 s2 => ckb (inb (a3 + (1 : Int32)) L) (bnd (f_X10_fits (xs (a3 + (1 : Int32)).toNatClampNeg) τ) (fun r3 t4 => if r1 = r3 then lt (a3 + (6 : Int32)) (fun v => rec v s2 t4) else some ((0 : Int32), cmb s2 t4)))))
def f_law_c23 (L : Nat) (xs : Nat → Int32) (rec : Int32 → Sg → Sg → Option (Int32 × Sg)) (a3 : Int32) (σ τ : Sg) : Option (Int32 × Sg) :=
  ckb (inb (a3 + (1 : Int32)) L) (ckb (inb (a3 + (2 : Int32)) L) (ckb (inb (a3 + (3 : Int32)) L) (bnd (f_X9_voice (xs (a3 + (1 : Int32)).toNatClampNeg) (xs (a3 + (2 : Int32)).toNatClampNeg) (xs (a3 + (3 : Int32)).toNatClampNeg) σ) (fun r1 s2 => ckb (inb (a3 + (1 : Int32)) L) (ckb (inb (a3 + (2 : Int32)) L) (ckb (inb (a3 + (3 : Int32)) L) (bnd (f_X10_voice (xs (a3 + (1 : Int32)).toNatClampNeg) (xs (a3 + (2 : Int32)).toNatClampNeg) (xs (a3 + (3 : Int32)).toNatClampNeg) τ) (fun r3 t4 => if r1 = r3 then lt (a3 + (6 : Int32)) (fun v => rec v s2 t4) else some ((0 : Int32), cmb s2 t4)))))))))
def f_law_c24 (L : Nat) (xs : Nat → Int32) (rec : Int32 → Sg → Sg → Option (Int32 × Sg)) (a3 : Int32) (σ τ : Sg) : Option (Int32 × Sg) :=
  ckb (inb (a3 + (1 : Int32)) L) (bnd (f_X9_body (xs (a3 + (1 : Int32)).toNatClampNeg) σ) (fun r1 s2 => ckb (inb (a3 + (1 : Int32)) L) (bnd (f_X10_body (xs (a3 + (1 : Int32)).toNatClampNeg) τ) (fun r3 t4 => if r1 = r3 then lt (a3 + (6 : Int32)) (fun v => rec v s2 t4) else some ((0 : Int32), cmb s2 t4)))))
def f_law_c25 (L : Nat) (xs : Nat → Int32) (rec : Int32 → Sg → Sg → Option (Int32 × Sg)) (a3 : Int32) (σ τ : Sg) : Option (Int32 × Sg) :=
  ckb (inb (a3 + (1 : Int32)) L) (ckb (inb (a3 + (2 : Int32)) L) (ckb (inb (a3 + (3 : Int32)) L) (bnd (f_X9_sheet (xs (a3 + (1 : Int32)).toNatClampNeg) (xs (a3 + (2 : Int32)).toNatClampNeg) (xs (a3 + (3 : Int32)).toNatClampNeg) σ) (fun r1 s2 => ckb (inb (a3 + (1 : Int32)) L) (ckb (inb (a3 + (2 : Int32)) L) (ckb (inb (a3 + (3 : Int32)) L) (bnd (f_X10_sheet (xs (a3 + (1 : Int32)).toNatClampNeg) (xs (a3 + (2 : Int32)).toNatClampNeg) (xs (a3 + (3 : Int32)).toNatClampNeg) τ) (fun r3 t4 => if r1 = r3 then lt (a3 + (6 : Int32)) (fun v => rec v s2 t4) else some ((0 : Int32), cmb s2 t4)))))))))
def f_law_c26 (L : Nat) (xs : Nat → Int32) (rec : Int32 → Sg → Sg → Option (Int32 × Sg)) (a3 : Int32) (σ τ : Sg) : Option (Int32 × Sg) :=
  ckb (inb (a3 + (1 : Int32)) L) (ckb (inb (a3 + (2 : Int32)) L) (ckb (inb (a3 + (3 : Int32)) L) (bnd (f_X9_put (xs (a3 + (1 : Int32)).toNatClampNeg) (xs (a3 + (2 : Int32)).toNatClampNeg) (xs (a3 + (3 : Int32)).toNatClampNeg) σ) (fun r1 s2 => ckb (inb (a3 + (1 : Int32)) L) (ckb (inb (a3 + (2 : Int32)) L) (ckb (inb (a3 + (3 : Int32)) L) (bnd (f_X10_put (xs (a3 + (1 : Int32)).toNatClampNeg) (xs (a3 + (2 : Int32)).toNatClampNeg) (xs (a3 + (3 : Int32)).toNatClampNeg) τ) (fun r3 t4 => if r1 = r3 then lt (a3 + (6 : Int32)) (fun v => rec v s2 t4) else some ((0 : Int32), cmb s2 t4)))))))))
def f_law_c27 (L : Nat) (xs : Nat → Int32) (rec : Int32 → Sg → Sg → Option (Int32 × Sg)) (a3 : Int32) (σ τ : Sg) : Option (Int32 × Sg) :=
  ckb (inb (a3 + (1 : Int32)) L) (ckb (inb (a3 + (2 : Int32)) L) (ckb (inb (a3 + (3 : Int32)) L) (ckb (inb (a3 + (4 : Int32)) L) (ckb (inb (a3 + (5 : Int32)) L) (bnd (f_X9_move (xs (a3 + (1 : Int32)).toNatClampNeg) (xs (a3 + (2 : Int32)).toNatClampNeg) (xs (a3 + (3 : Int32)).toNatClampNeg) (xs (a3 + (4 : Int32)).toNatClampNeg) (xs (a3 + (5 : Int32)).toNatClampNeg) σ) (fun r1 s2 => ckb (inb (a3 + (1 : Int32)) L) (ckb (inb (a3 + (2 : Int32)) L) (ckb (inb (a3 + (3 : Int32)) L) (ckb (inb (a3 + (4 : Int32)) L) (ckb (inb (a3 + (5 : Int32)) L) (bnd (f_X10_move (xs (a3 + (1 : Int32)).toNatClampNeg) (xs (a3 + (2 : Int32)).toNatClampNeg) (xs (a3 + (3 : Int32)).toNatClampNeg) (xs (a3 + (4 : Int32)).toNatClampNeg) (xs (a3 + (5 : Int32)).toNatClampNeg) τ) (fun r3 t4 => if r1 = r3 then lt (a3 + (6 : Int32)) (fun v => rec v s2 t4) else some ((0 : Int32), cmb s2 t4)))))))))))))
def f_law_c28 (L : Nat) (xs : Nat → Int32) (rec : Int32 → Sg → Sg → Option (Int32 × Sg)) (a3 : Int32) (σ τ : Sg) : Option (Int32 × Sg) :=
  ckb (inb (a3 + (1 : Int32)) L) (bnd (f_X9_dates (xs (a3 + (1 : Int32)).toNatClampNeg) σ) (fun r1 s2 => ckb (inb (a3 + (1 : Int32)) L) (bnd (f_X10_dates (xs (a3 + (1 : Int32)).toNatClampNeg) τ) (fun r3 t4 => if r1 = r3 then lt (a3 + (6 : Int32)) (fun v => rec v s2 t4) else some ((0 : Int32), cmb s2 t4)))))
def f_law_c29 (L : Nat) (xs : Nat → Int32) (rec : Int32 → Sg → Sg → Option (Int32 × Sg)) (a3 : Int32) (σ τ : Sg) : Option (Int32 × Sg) :=
  ckb (inb (a3 + (1 : Int32)) L) (bnd (f_X9_judge (xs (a3 + (1 : Int32)).toNatClampNeg) σ) (fun r1 s2 => ckb (inb (a3 + (1 : Int32)) L) (bnd (f_X10_judge (xs (a3 + (1 : Int32)).toNatClampNeg) τ) (fun r3 t4 => if r1 = r3 then lt (a3 + (6 : Int32)) (fun v => rec v s2 t4) else some ((0 : Int32), cmb s2 t4)))))
def f_law_c30 (L : Nat) (xs : Nat → Int32) (rec : Int32 → Sg → Sg → Option (Int32 × Sg)) (a3 : Int32) (σ τ : Sg) : Option (Int32 × Sg) :=
  bnd (f_X9_image  σ) (fun r1 s2 => bnd (f_X10_image  τ) (fun r3 t4 => if r1 = r3 then lt (a3 + (6 : Int32)) (fun v => rec v s2 t4) else some ((0 : Int32), cmb s2 t4)))
def f_law_c31 (L : Nat) (xs : Nat → Int32) (rec : Int32 → Sg → Sg → Option (Int32 × Sg)) (a3 : Int32) (σ τ : Sg) : Option (Int32 × Sg) :=
  bnd (f_X9_restore  σ) (fun r1 s2 => bnd (f_X10_restore  τ) (fun r3 t4 => if r1 = r3 then lt (a3 + (6 : Int32)) (fun v => rec v s2 t4) else some ((0 : Int32), cmb s2 t4)))
def f_law_c32 (L : Nat) (xs : Nat → Int32) (rec : Int32 → Sg → Sg → Option (Int32 × Sg)) (a3 : Int32) (σ τ : Sg) : Option (Int32 × Sg) :=
  ckb (inb (a3 + (1 : Int32)) L) (bnd (f_X9_tell (xs (a3 + (1 : Int32)).toNatClampNeg) σ) (fun r1 s2 => ckb (inb (a3 + (1 : Int32)) L) (bnd (f_X10_tell (xs (a3 + (1 : Int32)).toNatClampNeg) τ) (fun r3 t4 => if r1 = r3 then lt (a3 + (6 : Int32)) (fun v => rec v s2 t4) else some ((0 : Int32), cmb s2 t4)))))
def f_law_c33 (L : Nat) (xs : Nat → Int32) (rec : Int32 → Sg → Sg → Option (Int32 × Sg)) (a3 : Int32) (σ τ : Sg) : Option (Int32 × Sg) :=
  bnd (f_X9_check  σ) (fun r1 s2 => bnd (f_X10_check  τ) (fun r3 t4 => if r1 = r3 then lt (a3 + (6 : Int32)) (fun v => rec v s2 t4) else some ((0 : Int32), cmb s2 t4)))
def f_law_c34 (L : Nat) (xs : Nat → Int32) (rec : Int32 → Sg → Sg → Option (Int32 × Sg)) (a3 : Int32) (σ τ : Sg) : Option (Int32 × Sg) :=
  ckb (inb (a3 + (1 : Int32)) L) (bnd (f_X9_count (xs (a3 + (1 : Int32)).toNatClampNeg) σ) (fun r1 s2 => ckb (inb (a3 + (1 : Int32)) L) (bnd (f_X10_count (xs (a3 + (1 : Int32)).toNatClampNeg) τ) (fun r3 t4 => if r1 = r3 then lt (a3 + (6 : Int32)) (fun v => rec v s2 t4) else some ((0 : Int32), cmb s2 t4)))))
def f_law_c35 (L : Nat) (xs : Nat → Int32) (rec : Int32 → Sg → Sg → Option (Int32 × Sg)) (a3 : Int32) (σ τ : Sg) : Option (Int32 × Sg) :=
  ckb (inb (a3 + (1 : Int32)) L) (bnd (f_X9_told (xs (a3 + (1 : Int32)).toNatClampNeg) σ) (fun r1 s2 => ckb (inb (a3 + (1 : Int32)) L) (bnd (f_X10_told (xs (a3 + (1 : Int32)).toNatClampNeg) τ) (fun r3 t4 => if r1 = r3 then lt (a3 + (6 : Int32)) (fun v => rec v s2 t4) else some ((0 : Int32), cmb s2 t4)))))
def f_law_b (L : Nat) (xs : Nat → Int32) (rec : Int32 → Sg → Sg → Option (Int32 × Sg)) (a3 : Int32) (σ τ : Sg) : Option (Int32 × Sg) :=
  if ((Int32.ofNat L) - (6 : Int32)) < a3 then some ((1 : Int32), cmb σ τ) else ckb (inb a3 L) (lt ((xs a3.toNatClampNeg) &&& (63 : Int32)) (fun v1 => if v1 = (0 : Int32) then f_law_c0 L xs rec a3 σ τ else if v1 = (1 : Int32) then f_law_c1 L xs rec a3 σ τ else if v1 = (2 : Int32) then f_law_c2 L xs rec a3 σ τ else if v1 = (3 : Int32) then f_law_c3 L xs rec a3 σ τ else if v1 = (4 : Int32) then f_law_c4 L xs rec a3 σ τ else if v1 = (5 : Int32) then f_law_c5 L xs rec a3 σ τ else if v1 = (6 : Int32) then f_law_c6 L xs rec a3 σ τ else if v1 = (7 : Int32) then f_law_c7 L xs rec a3 σ τ else if v1 = (8 : Int32) then f_law_c8 L xs rec a3 σ τ else if v1 = (9 : Int32) then f_law_c9 L xs rec a3 σ τ else if v1 = (10 : Int32) then f_law_c10 L xs rec a3 σ τ else if v1 = (11 : Int32) then f_law_c11 L xs rec a3 σ τ else if v1 = (12 : Int32) then f_law_c12 L xs rec a3 σ τ else if v1 = (13 : Int32) then f_law_c13 L xs rec a3 σ τ else if v1 = (14 : Int32) then f_law_c14 L xs rec a3 σ τ else if v1 = (15 : Int32) then f_law_c15 L xs rec a3 σ τ else if v1 = (16 : Int32) then f_law_c16 L xs rec a3 σ τ else if v1 = (17 : Int32) then f_law_c17 L xs rec a3 σ τ else if v1 = (18 : Int32) then f_law_c18 L xs rec a3 σ τ else if v1 = (19 : Int32) then f_law_c19 L xs rec a3 σ τ else if v1 = (20 : Int32) then f_law_c20 L xs rec a3 σ τ else if v1 = (21 : Int32) then f_law_c21 L xs rec a3 σ τ else if v1 = (22 : Int32) then f_law_c22 L xs rec a3 σ τ else if v1 = (23 : Int32) then f_law_c23 L xs rec a3 σ τ else if v1 = (24 : Int32) then f_law_c24 L xs rec a3 σ τ else if v1 = (25 : Int32) then f_law_c25 L xs rec a3 σ τ else if v1 = (26 : Int32) then f_law_c26 L xs rec a3 σ τ else if v1 = (27 : Int32) then f_law_c27 L xs rec a3 σ τ else if v1 = (28 : Int32) then f_law_c28 L xs rec a3 σ τ else if v1 = (29 : Int32) then f_law_c29 L xs rec a3 σ τ else if v1 = (30 : Int32) then f_law_c30 L xs rec a3 σ τ else if v1 = (31 : Int32) then f_law_c31 L xs rec a3 σ τ else if v1 = (32 : Int32) then f_law_c32 L xs rec a3 σ τ else if v1 = (33 : Int32) then f_law_c33 L xs rec a3 σ τ else if v1 = (34 : Int32) then f_law_c34 L xs rec a3 σ τ else if v1 = (35 : Int32) then f_law_c35 L xs rec a3 σ τ else lt (a3 + (6 : Int32)) (fun v => rec v σ τ)))
def f_law (L : Nat) (xs : Nat → Int32) : Nat → Int32 → Sg → Sg → Option (Int32 × Sg)
  | 0 => fun _ _ _ => none
  | n + 1 => f_law_b L xs (f_law L xs n)
end
def ink0 : Nat → Int32 := upd (upd (upd (upd (upd (fun _ => 0) 0 40) 1 40) 2 40) 3 40) 4 40
def row0 : Nat → Int32 := upd (upd (upd (upd (upd (upd (fun _ => 0) 1 1) 7 40) 8 40) 9 40) 10 40) 11 40
def s0X : Sg := fun k => if k = 1 then upd (fun _ => 0) 6 1 else if k = 2 then upd (fun _ => 0) 6 1 else if k = 3 then upd (fun _ => 0) 1 56 else if k = 16 then ink0 else if k = 17 then ink0 else fun _ => 0
def s0M : Sg := fun k => if k = 1 then row0 else fun _ => 0
end
section
theorem i_le {a b : Int32} : a ≤ b ↔ a.toInt ≤ b.toInt := Int32.le_iff_toInt_le
theorem i_lt {a b : Int32} : a < b ↔ a.toInt < b.toInt := Int32.lt_iff_toInt_lt
theorem i_eq {a b : Int32} : a = b ↔ a.toInt = b.toInt := Int32.toInt_inj.symm
theorem i_lo (a : Int32) : -2147483648 ≤ a.toInt := Int32.le_toInt a
theorem i_hi (a : Int32) : a.toInt < 2147483648 := Int32.toInt_lt a
theorem bm {x : Int} (h1 : -2147483648 ≤ x) (h2 : x < 2147483648) : x.bmod (2 ^ 32) = x := by
  apply Int.bmod_eq_of_le <;> omega
theorem i_add {a b : Int32} (h1 : -2147483648 ≤ a.toInt + b.toInt) (h2 : a.toInt + b.toInt < 2147483648) : (a + b).toInt = a.toInt + b.toInt := by
  rw [Int32.toInt_add, bm h1 h2]
theorem i_sub {a b : Int32} (h1 : -2147483648 ≤ a.toInt - b.toInt) (h2 : a.toInt - b.toInt < 2147483648) : (a - b).toInt = a.toInt - b.toInt := by
  rw [Int32.toInt_sub, bm h1 h2]
theorem i_mul {a b : Int32} (h1 : -2147483648 ≤ a.toInt * b.toInt) (h2 : a.toInt * b.toInt < 2147483648) : (a * b).toInt = a.toInt * b.toInt := by
  rw [Int32.toInt_mul, bm h1 h2]
theorem i_nI {n : Nat} (h : n < 2147483648) : (nI n).toInt = (n : Int) := nI_toInt h
theorem i_cl {a : Int32} : a.toNatClampNeg = a.toInt.toNat := rfl
theorem i_ofNat {n : Nat} (h : n < 2147483648) : (Int32.ofNat n).toInt = (n : Int) := nI_toInt h
theorem inb_iff {i : Int32} {n : Nat} : inb i n = true ↔ 0 ≤ i.toInt ∧ i.toInt < (n : Int) := by
  simp [inb]
theorem ckb_t {β : Type} {b : Bool} {x : Option β} (h : b = true) : ckb b x = x := by unfold ckb; rw [if_pos h]
theorem ckb_in {β : Type} {i : Int32} {n : Nat} {x : Option β} (h1 : 0 ≤ i.toInt) (h2 : i.toInt < (n : Int)) : ckb (inb i n) x = x := ckb_t (inb_iff.mpr ⟨h1, h2⟩)
theorem bnd_s {ρ β : Type} {r : ρ} {s : Sg} {f : ρ → Sg → Option β} : bnd (some (r, s)) f = f r s := Eq.symm (Eq.symm (by unfold bnd; exact rfl))
theorem lt_a {α β : Type} {v : α} {f : α → Option β} : lt v f = f v := rfl
theorem up_s {σ : Sg} {k i : Nat} {v : Int32} : up σ k i v k i = v := by simp [up, upd]
theorem up_k {σ : Sg} {k i : Nat} {v : Int32} {k' i' : Nat} (h : k' ≠ k) : up σ k i v k' i' = σ k' i' := by simp [up, h]
theorem up_i {σ : Sg} {k i : Nat} {v : Int32} {i' : Nat} (h : i' ≠ i) : up σ k i v k i' = σ k i' := by simp [up, upd, h]
theorem up_a {σ : Sg} {k i : Nat} {v : Int32} {k' i' : Nat} : up σ k i v k' i' = if k' = k ∧ i' = i then v else σ k' i' := by
  unfold up upd
  by_cases h : k' = k
  · subst h
    by_cases h2 : i' = i <;> simp [h2]
  · simp [h]
theorem up_row {σ : Sg} {k i : Nat} {v : Int32} {k' : Nat} (h : k' ≠ k) : up σ k i v k' = σ k' := by simp [up, h]
theorem upd_e {f : Nat → Int32} {k : Nat} {v : Int32} : upd f k v k = v := by simp [upd]
theorem upd_n {f : Nat → Int32} {k : Nat} {v : Int32} {j : Nat} (h : j ≠ k) : upd f k v j = f j := by simp [upd, h]
theorem up_rs {σ : Sg} {k i : Nat} {v : Int32} : up σ k i v k = upd (σ k) i v := by simp [up]
theorem if01 {α : Type} {c : Prop} [Decidable c] {A B : α} : (if (if c then (1 : Int32) else 0) = 0 then A else B) = if c then B else A := by
  by_cases h : c
  · rw [if_pos h, if_pos h, if_neg (by decide)]
  · rw [if_neg h, if_neg h, if_pos rfl]
theorem ckb_01 {β : Type} {c : Prop} [Decidable c] {x : Option β} : ckb (isb (if c then (1 : Int32) else 0)) x = x := by
  by_cases h : c
  · rw [if_pos h]; rfl
  · rw [if_neg h]; rfl
theorem nI_ofi {a : Int32} {n : Nat} (h0 : 0 ≤ a.toInt) (h1 : a.toInt < (n : Int)) : ∃ l : Nat, l < n ∧ a = nI l := by
  refine ⟨a.toInt.toNat, by omega, ?_⟩
  have := i_hi a
  rw [i_eq, i_nI (by omega)]
  omega
theorem tn_0 : (0 : Int32).toNatClampNeg = 0 := rfl
theorem ti_0 : (0 : Int32).toInt = 0 := rfl
theorem tn_1 : (1 : Int32).toNatClampNeg = 1 := rfl
theorem ti_1 : (1 : Int32).toInt = 1 := rfl
theorem tn_2 : (2 : Int32).toNatClampNeg = 2 := rfl
theorem ti_2 : (2 : Int32).toInt = 2 := rfl
theorem tn_3 : (3 : Int32).toNatClampNeg = 3 := rfl
theorem ti_3 : (3 : Int32).toInt = 3 := rfl
theorem tn_4 : (4 : Int32).toNatClampNeg = 4 := rfl
theorem ti_4 : (4 : Int32).toInt = 4 := rfl
theorem tn_5 : (5 : Int32).toNatClampNeg = 5 := rfl
theorem ti_5 : (5 : Int32).toInt = 5 := rfl
theorem tn_6 : (6 : Int32).toNatClampNeg = 6 := rfl
theorem ti_6 : (6 : Int32).toInt = 6 := rfl
theorem tn_7 : (7 : Int32).toNatClampNeg = 7 := rfl
theorem ti_7 : (7 : Int32).toInt = 7 := rfl
theorem tn_8 : (8 : Int32).toNatClampNeg = 8 := rfl
theorem ti_8 : (8 : Int32).toInt = 8 := rfl
theorem tn_9 : (9 : Int32).toNatClampNeg = 9 := rfl
theorem ti_9 : (9 : Int32).toInt = 9 := rfl
theorem tn_10 : (10 : Int32).toNatClampNeg = 10 := rfl
theorem ti_10 : (10 : Int32).toInt = 10 := rfl
theorem tn_11 : (11 : Int32).toNatClampNeg = 11 := rfl
theorem ti_11 : (11 : Int32).toInt = 11 := rfl
theorem tn_12 : (12 : Int32).toNatClampNeg = 12 := rfl
theorem ti_12 : (12 : Int32).toInt = 12 := rfl
theorem tn_13 : (13 : Int32).toNatClampNeg = 13 := rfl
theorem ti_13 : (13 : Int32).toInt = 13 := rfl
theorem tn_14 : (14 : Int32).toNatClampNeg = 14 := rfl
theorem ti_14 : (14 : Int32).toInt = 14 := rfl
theorem tn_15 : (15 : Int32).toNatClampNeg = 15 := rfl
theorem ti_15 : (15 : Int32).toInt = 15 := rfl
theorem tn_166 : (166 : Int32).toNatClampNeg = 166 := rfl
theorem ti_166 : (166 : Int32).toInt = 166 := rfl
theorem tn_167 : (167 : Int32).toNatClampNeg = 167 := rfl
theorem ti_167 : (167 : Int32).toInt = 167 := rfl
theorem tn_227 : (227 : Int32).toNatClampNeg = 227 := rfl
theorem ti_227 : (227 : Int32).toInt = 227 := rfl
theorem tn_61 : (61 : Int32).toNatClampNeg = 61 := rfl
theorem ti_61 : (61 : Int32).toInt = 61 := rfl
theorem rd_0 {f : Nat → Int32} : rd f (0 : Int32) = f 0 := rfl
theorem ck_0 {β : Type} {x : Option β} : ckb (inb (0 : Int32) 408) x = x := rfl
theorem rd_1 {f : Nat → Int32} : rd f (1 : Int32) = f 1 := rfl
theorem ck_1 {β : Type} {x : Option β} : ckb (inb (1 : Int32) 408) x = x := rfl
theorem rd_2 {f : Nat → Int32} : rd f (2 : Int32) = f 2 := rfl
theorem ck_2 {β : Type} {x : Option β} : ckb (inb (2 : Int32) 408) x = x := rfl
theorem rd_3 {f : Nat → Int32} : rd f (3 : Int32) = f 3 := rfl
theorem ck_3 {β : Type} {x : Option β} : ckb (inb (3 : Int32) 408) x = x := rfl
theorem rd_4 {f : Nat → Int32} : rd f (4 : Int32) = f 4 := rfl
theorem ck_4 {β : Type} {x : Option β} : ckb (inb (4 : Int32) 408) x = x := rfl
theorem rd_5 {f : Nat → Int32} : rd f (5 : Int32) = f 5 := rfl
theorem ck_5 {β : Type} {x : Option β} : ckb (inb (5 : Int32) 408) x = x := rfl
theorem rd_6 {f : Nat → Int32} : rd f (6 : Int32) = f 6 := rfl
theorem ck_6 {β : Type} {x : Option β} : ckb (inb (6 : Int32) 408) x = x := rfl
theorem rd_7 {f : Nat → Int32} : rd f (7 : Int32) = f 7 := rfl
theorem ck_7 {β : Type} {x : Option β} : ckb (inb (7 : Int32) 408) x = x := rfl
theorem rd_8 {f : Nat → Int32} : rd f (8 : Int32) = f 8 := rfl
theorem ck_8 {β : Type} {x : Option β} : ckb (inb (8 : Int32) 408) x = x := rfl
theorem rd_9 {f : Nat → Int32} : rd f (9 : Int32) = f 9 := rfl
theorem ck_9 {β : Type} {x : Option β} : ckb (inb (9 : Int32) 408) x = x := rfl
theorem rd_10 {f : Nat → Int32} : rd f (10 : Int32) = f 10 := rfl
theorem ck_10 {β : Type} {x : Option β} : ckb (inb (10 : Int32) 408) x = x := rfl
theorem rd_11 {f : Nat → Int32} : rd f (11 : Int32) = f 11 := rfl
theorem ck_11 {β : Type} {x : Option β} : ckb (inb (11 : Int32) 408) x = x := rfl
theorem rd_12 {f : Nat → Int32} : rd f (12 : Int32) = f 12 := rfl
theorem ck_12 {β : Type} {x : Option β} : ckb (inb (12 : Int32) 408) x = x := rfl
theorem rd_13 {f : Nat → Int32} : rd f (13 : Int32) = f 13 := rfl
theorem ck_13 {β : Type} {x : Option β} : ckb (inb (13 : Int32) 408) x = x := rfl
theorem rd_14 {f : Nat → Int32} : rd f (14 : Int32) = f 14 := rfl
theorem ck_14 {β : Type} {x : Option β} : ckb (inb (14 : Int32) 408) x = x := rfl
theorem rd_15 {f : Nat → Int32} : rd f (15 : Int32) = f 15 := rfl
theorem ck_15 {β : Type} {x : Option β} : ckb (inb (15 : Int32) 408) x = x := rfl
/-! small methods -/
theorem x_isIn (v a b : Int32) (σ : Sg) : f_X9_isIn v a b σ = some (if a ≤ v ∧ v ≤ b then 1 else 0, σ) := by
  unfold f_X9_isIn
  simp only [i_le, i_lt]
  repeat' split
  all_goals first | rfl | (exfalso; omega)
theorem m_in (v a b : Int32) (σ : Sg) : f_X10_in v a b σ = some (if a ≤ v ∧ v ≤ b then 1 else 0, σ) := by
  unfold f_X10_in
  simp only [i_le, i_lt]
  repeat' split
  all_goals first | rfl | (exfalso; omega)
theorem x_err1 (σ : Sg) : f_X9_error (1 : Int32) σ = some ((-1000000001 : Int32), up σ 8 1 (σ 8 1 + 1)) := rfl
theorem m_err1 (σ : Sg) : f_X10_error (-1000000001 : Int32) σ = some ((-1000000001 : Int32), up σ 4 1 (σ 4 1 + 1)) := rfl
theorem x_err2 (σ : Sg) : f_X9_error (2 : Int32) σ = some ((-1000000002 : Int32), up σ 8 2 (σ 8 2 + 1)) := rfl
theorem m_err2 (σ : Sg) : f_X10_error (-1000000002 : Int32) σ = some ((-1000000002 : Int32), up σ 4 2 (σ 4 2 + 1)) := rfl
theorem x_err3 (σ : Sg) : f_X9_error (3 : Int32) σ = some ((-1000000003 : Int32), up σ 8 3 (σ 8 3 + 1)) := rfl
theorem m_err3 (σ : Sg) : f_X10_error (-1000000003 : Int32) σ = some ((-1000000003 : Int32), up σ 4 3 (σ 4 3 + 1)) := rfl
theorem x_err4 (σ : Sg) : f_X9_error (4 : Int32) σ = some ((-1000000004 : Int32), up σ 8 4 (σ 8 4 + 1)) := rfl
theorem m_err4 (σ : Sg) : f_X10_error (-1000000004 : Int32) σ = some ((-1000000004 : Int32), up σ 4 4 (σ 4 4 + 1)) := rfl
theorem x_err5 (σ : Sg) : f_X9_error (5 : Int32) σ = some ((-1000000005 : Int32), up σ 8 5 (σ 8 5 + 1)) := rfl
theorem m_err5 (σ : Sg) : f_X10_error (-1000000005 : Int32) σ = some ((-1000000005 : Int32), up σ 4 5 (σ 4 5 + 1)) := rfl
theorem x_err6 (σ : Sg) : f_X9_error (6 : Int32) σ = some ((-1000000006 : Int32), up σ 8 6 (σ 8 6 + 1)) := rfl
theorem m_err6 (σ : Sg) : f_X10_error (-1000000006 : Int32) σ = some ((-1000000006 : Int32), up σ 4 6 (σ 4 6 + 1)) := rfl
end
section
/-! the relation of the two states -/
def Sq (cap : Nat) (n : Int32) (f : Nat → Int32) (n' : Int32) (f' : Nat → Int32) : Prop := ∃ t : Nat, t ≤ cap ∧ n = nI t ∧ n' = nI t ∧ ∀ j, j < t → f' j = f j
def Hd (g r : Nat → Int32) : Prop := r 0 = g 2 ∧ 0 ≤ (g 2).toInt ∧ (g 2).toInt ≤ 9999 ∧ r 3 = g 3 ∧ (g 3 = 0 ∨ g 3 = 1) ∧ r 4 = g 4 ∧ 0 ≤ (g 4).toInt ∧ (g 4).toInt ≤ 99999 ∧ r 1 = g 6
def LnOK (f : Nat → Int32) (day : Int32) : Prop := (0 ≤ (f 0).toInt ∧ (f 0).toInt ≤ 6) ∧ (0 ≤ (f 1).toInt ∧ (f 1).toInt ≤ 9) ∧ (0 ≤ (f 2).toInt ∧ (f 2).toInt < 4096) ∧ (0 ≤ (f 3).toInt ∧ (f 3).toInt ≤ 5) ∧ (0 ≤ (f 4).toInt ∧ (f 4).toInt ≤ day.toInt) ∧ (f 5 = 0 ∨ f 5 = 1)
def Lns (n : Nat) (ln : Nat → Nat → Int32) (day : Int32) (r : Nat → Int32) : Prop := ∀ l, l < n → LnOK (ln l) day ∧ ∀ f, f < 7 → r (12 + 7 * l + f) = ln l f
def Gn (ln : Nat → Nat → Int32) : Prop := ∀ l, l < 10 → (ln l 6 = 0 ∨ ln l 6 = 1)
def Ik (ink r : Nat → Int32) : Prop := ∀ p, p < 5 → r (7 + p) = ink p ∧ 0 ≤ (ink p).toInt ∧ (ink p).toInt ≤ 99
def opS (a : Int32) : Prop := a = 124 ∨ a = 38 ∨ a = 60 ∨ a = 61 ∨ a = 62 ∨ a = 43 ∨ a = 45 ∨ a = 42 ∨ a = 47 ∨ a = 37
def Cod1 (x a w : Int32) : Prop := (a = 1 ∧ x = w ∧ 0 ≤ x.toInt) ∨ (a = 2 ∧ ((w = 0 ∧ x = -1) ∨ (w = 1 ∧ x = -2) ∨ (w = 2 ∧ x = -3))) ∨ (a = 3 ∧ x = -33) ∨ (opS a ∧ x = -a)
def dp (a : Nat → Int32) : Nat → Int
  | 0 => 0
  | j + 1 => if a j = 1 ∨ a j = 2 then dp a j + 1 else if a j = 3 then dp a j else dp a j - 1
def Cod (c : Nat) (x a w : Nat → Int32) : Prop := (∀ j, j < c → Cod1 (x j) (a j) (w j) ∧ (a j = 3 → 1 ≤ dp a j) ∧ (opS (a j) → 2 ≤ dp a j)) ∧ dp a c = 1
def Cd (th cn : Int32) (cs r : Nat → Int32) : Prop := ∃ c : Nat, c ≤ 60 ∧ cn = nI c ∧ ((th = 0 ∧ r 0 = 0) ∨ (th = 1 ∧ 0 < c ∧ r 0 = nI c ∧ Cod c cs (fun j => r (1 + j)) (fun j => r (61 + j))))
def BdR (g : Nat → Int32) (ln : Nat → Nat → Int32) (ink : Nat → Int32) (tn : Int32) (tp : Nat → Int32) (wn : Int32) (wt : Nat → Int32) (th cn : Nat → Int32) (cs : Nat → Nat → Int32) (r : Nat → Int32) : Prop :=
  Hd g r ∧ Ik ink r ∧ (∃ n : Nat, n ≤ 10 ∧ g 1 = nI n ∧ r 2 = nI n ∧ Lns n ln (g 2) r) ∧ Gn ln ∧ Sq 60 tn tp (r 5) (fun j => r (82 + j)) ∧ Sq 24 wn wt (r 6) (fun j => r (142 + j)) ∧ ∀ u, u < 2 → Cd (th u) (cn u) (cs u) (fun j => r (166 + 121 * u + j))
def Bd1 (σ τ : Sg) : Prop := BdR (σ 1) (fun l => σ (20 + l)) (σ 16) (σ 44 1) (σ 62) (σ 46 1) (σ 64) (fun u => σ (40 + u) 0) (fun u => σ (48 + u) 1) (fun u => σ (66 + u)) (τ 1)
def Bd2 (σ τ : Sg) : Prop := BdR (σ 2) (fun l => σ (30 + l)) (σ 17) (σ 45 1) (σ 63) (σ 47 1) (σ 65) (fun u => σ (42 + u) 0) (fun u => σ (50 + u) 1) (fun u => σ (68 + u)) (τ 2)
def Er (σ τ : Sg) : Prop := ∀ k, 1 ≤ k → k ≤ 6 → σ 8 k = τ 4 k
def Sh (σ τ : Sg) : Prop := ∀ u, u < 4 → τ 5 u = σ (10 + u) 1 ∧ (σ (10 + u) 1 = 0 ∨ σ (10 + u) 1 = 8 ∨ σ (10 + u) 1 = 16 ∨ σ (10 + u) 1 = 32) ∧ Sq 24 (σ (58 + u) 1) (σ (76 + u)) (τ 6 u) (fun j => τ 7 (24 * u + j))
def Tr (σ τ : Sg) : Prop := Sq 30 (σ 57 1) (σ 75) (τ 0 19) (τ 13)
def Sim (σ τ : Sg) : Prop := Bd1 σ τ ∧ σ 0 2 = τ 0 3 ∧ (σ 0 2 ≠ 0 → Bd2 σ τ) ∧ Er σ τ ∧ Sh σ τ ∧ Tr σ τ
/-- both calls answer alike, and the states are related again -/
def Ok (x m : Option (Int32 × Sg)) : Prop := ∃ (r : Int32) (σ' τ' : Sg), x = some (r, σ') ∧ m = some (r, τ') ∧ Sim σ' τ'
theorem Ok.mk {r : Int32} {σ' τ' : Sg} (h : Sim σ' τ') : Ok (some (r, σ')) (some (r, τ')) := ⟨r, σ', τ', rfl, rfl, h⟩
/-! rows that are not in the relation may change -/
def rlv (k : Nat) : Bool := k == 0 || k == 1 || k == 2 || k == 8 || (Nat.ble 10 k && Nat.blt k 14) || (Nat.ble 16 k && Nat.blt k 18) || (Nat.ble 20 k && Nat.blt k 52) || (Nat.ble 57 k && Nat.blt k 70) || (Nat.ble 75 k && Nat.blt k 80)
def eqX (σ σ' : Sg) : Prop := ∀ k, rlv k = true → σ' k = σ k
def eqM (τ τ' : Sg) : Prop := τ' 1 = τ 1 ∧ τ' 2 = τ 2 ∧ τ' 4 = τ 4 ∧ τ' 5 = τ 5 ∧ τ' 6 = τ 6 ∧ τ' 7 = τ 7 ∧ τ' 13 = τ 13 ∧ τ' 0 3 = τ 0 3 ∧ τ' 0 19 = τ 0 19
theorem eqX.rf {σ : Sg} : eqX σ σ := fun _ _ => rfl
theorem eqM.rf {τ : Sg} : eqM τ τ := ⟨rfl, rfl, rfl, rfl, rfl, rfl, rfl, rfl, rfl⟩
theorem eqX.tr {σ σ1 σ2 : Sg} (h1 : eqX σ σ1) (h2 : eqX σ1 σ2) : eqX σ σ2 := fun k h => (h2 k h).trans (h1 k h)
theorem eqM.tr {τ τ1 τ2 : Sg} (h1 : eqM τ τ1) (h2 : eqM τ1 τ2) : eqM τ τ2 := by
  obtain ⟨a1, a2, a3, a4, a5, a6, a7, a8, a9⟩ := h1
  obtain ⟨b1, b2, b3, b4, b5, b6, b7, b8, b9⟩ := h2
  exact ⟨b1.trans a1, b2.trans a2, b3.trans a3, b4.trans a4, b5.trans a5, b6.trans a6, b7.trans a7, b8.trans a8, b9.trans a9⟩
theorem eqX.up {σ : Sg} {k i : Nat} {v : Int32} (h : rlv k = false) : eqX σ (up σ k i v) := by
  intro j hj
  exact up_row (fun e => by subst e; rw [h] at hj; cases hj)
theorem rlv_r {k lo hi : Nat} (h1 : lo ≤ k) (h2 : k < hi) (h : ∀ j, j < hi - lo → rlv (lo + j) = true) : rlv k = true := by
  have := h (k - lo) (by omega)
  rwa [show lo + (k - lo) = k by omega] at this
theorem rlv_l {l : Nat} (h : l < 10) : rlv (20 + l) = true ∧ rlv (30 + l) = true := by
  have : ∀ l, l < 10 → rlv (20 + l) = true ∧ rlv (30 + l) = true := by decide +kernel
  exact this l h
theorem rlv_u {u : Nat} (h : u < 4) : rlv (10 + u) = true ∧ rlv (40 + u) = true ∧ rlv (48 + u) = true ∧ rlv (66 + u) = true ∧ rlv (58 + u) = true ∧ rlv (76 + u) = true := by
  have : ∀ u, u < 4 → rlv (10 + u) = true ∧ rlv (40 + u) = true ∧ rlv (48 + u) = true ∧ rlv (66 + u) = true ∧ rlv (58 + u) = true ∧ rlv (76 + u) = true := by decide +kernel
  exact this u h
theorem BdR_congr {g : Nat → Int32} {ln ln' : Nat → Nat → Int32} {ink : Nat → Int32} {tn : Int32} {tp : Nat → Int32} {wn : Int32} {wt : Nat → Int32} {th cn th' cn' : Nat → Int32} {cs cs' : Nat → Nat → Int32} {r : Nat → Int32} (h : BdR g ln ink tn tp wn wt th cn cs r) (hl : ∀ l, l < 10 → ln' l = ln l) (h1 : ∀ u, u < 2 → th' u = th u) (h2 : ∀ u, u < 2 → cn' u = cn u) (h3 : ∀ u, u < 2 → cs' u = cs u) : BdR g ln' ink tn tp wn wt th' cn' cs' r := by
  obtain ⟨a1, a2, ⟨n, hn, e1, e2, a3⟩, a4, a5, a6, a7⟩ := h
  refine ⟨a1, a2, ⟨n, hn, e1, e2, fun l hl2 => ?_⟩, fun l hl2 => ?_, a5, a6, fun u hu => ?_⟩
  · rw [hl l (by omega)]; exact a3 l hl2
  · rw [hl l hl2]; exact a4 l hl2
  · rw [h1 u hu, h2 u hu, h3 u hu]; exact a7 u hu
theorem Bd1_congr {σ σ' τ τ' : Sg} (h : Bd1 σ τ) (e : eqX σ σ') (em : τ' 1 = τ 1) : Bd1 σ' τ' := by
  unfold Bd1
  rw [em, e 1 rfl, e 16 rfl, e 44 rfl, e 62 rfl, e 46 rfl, e 64 rfl]
  exact BdR_congr h (fun l hl => e _ (rlv_l hl).1) (fun u hu => by rw [e _ (rlv_u (u := u) (by omega)).2.1]) (fun u hu => by rw [e _ (rlv_u (u := u) (by omega)).2.2.1]) (fun u hu => by rw [e _ (rlv_u (u := u) (by omega)).2.2.2.1])
theorem Bd2_congr {σ σ' τ τ' : Sg} (h : Bd2 σ τ) (e : eqX σ σ') (em : τ' 2 = τ 2) : Bd2 σ' τ' := by
  unfold Bd2
  rw [em, e 2 rfl, e 17 rfl, e 45 rfl, e 63 rfl, e 47 rfl, e 65 rfl]
  exact BdR_congr h (fun l hl => e _ (rlv_l hl).2) (fun u hu => by rw [show 42 + u = 40 + (u + 2) by omega, e _ (rlv_u (u := u + 2) (by omega)).2.1]) (fun u hu => by rw [show 50 + u = 48 + (u + 2) by omega, e _ (rlv_u (u := u + 2) (by omega)).2.2.1]) (fun u hu => by rw [show 68 + u = 66 + (u + 2) by omega, e _ (rlv_u (u := u + 2) (by omega)).2.2.2.1])
theorem Sh_congr {σ σ' τ τ' : Sg} (h : Sh σ τ) (e : eqX σ σ') (e5 : τ' 5 = τ 5) (e6 : τ' 6 = τ 6) (e7 : τ' 7 = τ 7) : Sh σ' τ' := by
  intro u hu
  have q := rlv_u hu
  rw [e5, e6, e7, e _ q.1, e _ q.2.2.2.2.1, e _ q.2.2.2.2.2]
  exact h u hu
theorem Sim_eq {σ σ' τ τ' : Sg} (h : Sim σ τ) (e : eqX σ σ') (em : eqM τ τ') : Sim σ' τ' := by
  obtain ⟨h1, h2, h3, h4, h5, h6⟩ := h
  obtain ⟨m1, m2, m4, m5, m6, m7, m13, m3, m19⟩ := em
  refine ⟨Bd1_congr h1 e m1, by rw [e 0 rfl, m3]; exact h2, fun hz => Bd2_congr (h3 (by rw [e 0 rfl] at hz; exact hz)) e m2, fun k a b => ?_, Sh_congr h5 e m5 m6 m7, ?_⟩
  · rw [e 8 rfl, m4]; exact h4 k a b
  · unfold Tr; rw [e 57 rfl, e 75 rfl, m19, m13]; exact h6
end
section
theorem rd_k {f : Nat → Int32} {i : Int32} {k : Nat} (h : i.toInt = (k : Int)) : rd f i = f k := by
  unfold rd; rw [i_cl, h]; rfl
theorem tn_k {i : Int32} {k : Nat} (h : i.toInt = (k : Int)) : i.toNatClampNeg = k := by rw [i_cl, h]; rfl
theorem ck_k {β : Type} {i : Int32} {k n : Nat} {x : Option β} (h : i.toInt = (k : Int)) (hk : k < n) : ckb (inb i n) x = x := ckb_in (by omega) (by omega)
theorem ml_i {l f : Nat} {b : Int32} (hl : l < 10) (hb : b.toInt = (f : Int)) (hf : f < 7) : (((12 : Int32) + ((7 : Int32) * nI l)) + b).toInt = ((12 + 7 * l + f : Nat) : Int) := by
  have h1 : (nI l).toInt = (l : Int) := i_nI (by omega)
  have h2 : ((7 : Int32) * nI l).toInt = 7 * (l : Int) := by rw [i_mul (by rw [h1, ti_7]; omega) (by rw [h1, ti_7]; omega), h1, ti_7]
  have h3 : ((12 : Int32) + (7 : Int32) * nI l).toInt = 12 + 7 * (l : Int) := by rw [i_add (by rw [h2, ti_12]; omega) (by rw [h2, ti_12]; omega), h2, ti_12]
  rw [i_add (by omega) (by omega), h3, hb]
  omega
theorem ml_0 {l : Nat} (hl : l < 10) : ((12 : Int32) + ((7 : Int32) * nI l)).toInt = ((12 + 7 * l : Nat) : Int) := by
  have h1 : (nI l).toInt = (l : Int) := i_nI (by omega)
  have h2 : ((7 : Int32) * nI l).toInt = 7 * (l : Int) := by rw [i_mul (by rw [h1, ti_7]; omega) (by rw [h1, ti_7]; omega), h1, ti_7]
  rw [i_add (by rw [h2, ti_12]; omega) (by rw [h2, ti_12]; omega), h2, ti_12]
  omega
theorem m_it {l : Nat} (f : Nat) {b : Int32} (hl : l < 10) (hb : b.toInt = (f : Int)) (hf : f < 7) (τ : Sg) : f_X10_it (nI l) b τ = some (τ 1 (12 + 7 * l + f), τ) := by
  unfold f_X10_it
  have e := ml_i hl hb hf
  rw [ck_k e (by omega), rd_k e]
theorem m_lets {l : Nat} (f : Nat) {b v : Int32} (hl : l < 10) (hb : b.toInt = (f : Int)) (hf : f < 7) (τ : Sg) : f_X10_lets (nI l) b v τ = some ((), up τ 1 (12 + 7 * l + f) v) := by
  unfold f_X10_lets
  have e := ml_i hl hb hf
  rw [ck_k e (by omega), tn_k e]
  rfl
theorem m_becomes {i v : Int32} {k : Nat} (h : i.toInt = (k : Int)) (hk : k < 408) (τ : Sg) : f_X10_becomes i v τ = some (τ 1 k, up τ 1 k v) := by
  unfold f_X10_becomes
  simp only [lt_a]
  rw [ck_k h hk, ck_k h hk, rd_k h, tn_k h]
theorem m_isLine {n : Nat} {τ : Sg} (h : τ 1 2 = nI n) (hn : n ≤ 10) (a : Int32) : f_X10_isLine a τ = some (if 0 ≤ a ∧ a < nI n then 1 else 0, τ) := by
  unfold f_X10_isLine
  simp only [m_in, bnd_s, lt_a, if01, ckb_01, rd_0, rd_1, rd_2, rd_3, rd_4, rd_5, rd_6, rd_7, rd_8, rd_9, rd_10, rd_11, rd_12, rd_13, rd_14, rd_15, ck_0, ck_1, ck_2, ck_3, ck_4, ck_5, ck_6, ck_7, ck_8, ck_9, ck_10, ck_11, ck_12, ck_13, ck_14, ck_15, tn_0, tn_1, tn_2, tn_3, tn_4, tn_5, tn_6, tn_7, tn_8, tn_9, tn_10, tn_11, tn_12, tn_13, tn_14, tn_15, h]
  have e1 : (nI n).toInt = (n : Int) := i_nI (by omega)
  have e2 : (nI n - (1 : Int32)).toInt = (n : Int) - 1 := by rw [i_sub (by rw [e1, ti_1]; omega) (by rw [e1, ti_1]; omega), e1, ti_1]
  have : (0 ≤ a ∧ a ≤ nI n - 1) ↔ (0 ≤ a ∧ a < nI n) := by simp only [i_le, i_lt, e1, e2]; omega
  simp only [this]
theorem x_hasLine {n : Nat} {σ : Sg} (h : σ 1 1 = nI n) (a : Int32) : f_X0_hasLine a σ = some (if 0 ≤ a ∧ a < nI n then 1 else 0, σ) := by
  unfold f_X0_hasLine
  rw [h]
  simp only [i_le, i_lt, ti_0, ti_1, ti_2, ti_3, ti_4, ti_5, ti_6, ti_7, ti_8, ti_9, ti_10, ti_11, ti_12, ti_13, ti_14, ti_15]
  repeat' split
  all_goals first | rfl | (exfalso; omega)
theorem x_isKm (a : Int32) (σ : Sg) : f_X9_isKm a σ = some (if 0 ≤ a ∧ a ≤ 69 then 1 else 0, σ) := by
  unfold f_X9_isKm; simp only [x_isIn, bnd_s, lt_a, if01, ckb_01, rd_0, rd_1, rd_2, rd_3, rd_4, rd_5, rd_6, rd_7, rd_8, rd_9, rd_10, rd_11, rd_12, rd_13, rd_14, rd_15, ck_0, ck_1, ck_2, ck_3, ck_4, ck_5, ck_6, ck_7, ck_8, ck_9, ck_10, ck_11, ck_12, ck_13, ck_14, ck_15, tn_0, tn_1, tn_2, tn_3, tn_4, tn_5, tn_6, tn_7, tn_8, tn_9, tn_10, tn_11, tn_12, tn_13, tn_14, tn_15]
theorem m_isKm (a : Int32) (σ : Sg) : f_X10_isKm a σ = some (if 0 ≤ a ∧ a ≤ 69 then 1 else 0, σ) := by
  unfold f_X10_isKm; simp only [m_in, bnd_s, lt_a, if01, ckb_01, rd_0, rd_1, rd_2, rd_3, rd_4, rd_5, rd_6, rd_7, rd_8, rd_9, rd_10, rd_11, rd_12, rd_13, rd_14, rd_15, ck_0, ck_1, ck_2, ck_3, ck_4, ck_5, ck_6, ck_7, ck_8, ck_9, ck_10, ck_11, ck_12, ck_13, ck_14, ck_15, tn_0, tn_1, tn_2, tn_3, tn_4, tn_5, tn_6, tn_7, tn_8, tn_9, tn_10, tn_11, tn_12, tn_13, tn_14, tn_15]
/-! the relation behind a change -/
theorem Sim.err {σ τ : Sg} (h : Sim σ τ) (k : Nat) (hk : 1 ≤ k ∧ k ≤ 6) : Sim (up σ 8 k (σ 8 k + 1)) (up τ 4 k (τ 4 k + 1)) := by
  obtain ⟨h1, h2, h3, h4, h5, h6⟩ := h
  refine ⟨?_, ?_, ?_, ?_, ?_, ?_⟩
  · unfold Bd1; simp (disch := omega) only [up_row]; exact h1
  · rw [up_k (by decide), up_k (by decide)]; exact h2
  · rw [up_k (by decide)]; intro hz; have := h3 hz; unfold Bd2 at this ⊢; simp (disch := omega) only [up_row]; exact this
  · intro j a b
    by_cases hj : j = k
    · subst hj; rw [up_s, up_s, h4 j a b]
    · rw [up_i hj, up_i hj]; exact h4 j a b
  · intro u hu; simp (disch := omega) only [up_row, up_k]; exact h5 u hu
  · unfold Tr; simp (disch := omega) only [up_row]; exact h6
theorem Ok.err {σ τ : Sg} (h : Sim σ τ) {r : Int32} (k : Nat) (hk : 1 ≤ k ∧ k ≤ 6) : Ok (some (r, up σ 8 k (σ 8 k + 1))) (some (r, up τ 4 k (τ 4 k + 1))) := Ok.mk (h.err k hk)
def inB1 (k : Nat) : Bool := k == 1 || k == 16 || (Nat.ble 20 k && Nat.blt k 30) || k == 40 || k == 41 || k == 44 || k == 46 || k == 48 || k == 49 || k == 62 || k == 64 || k == 66 || k == 67
def eqX1 (σ σ' : Sg) : Prop := ∀ k, rlv k = true → inB1 k = false → σ' k = σ k
def eqM1 (τ τ' : Sg) : Prop := τ' 2 = τ 2 ∧ τ' 4 = τ 4 ∧ τ' 5 = τ 5 ∧ τ' 6 = τ 6 ∧ τ' 7 = τ 7 ∧ τ' 13 = τ 13 ∧ τ' 0 3 = τ 0 3 ∧ τ' 0 19 = τ 0 19
theorem eqX1.rf {σ : Sg} : eqX1 σ σ := fun _ _ _ => rfl
theorem eqX1.tr {σ σ1 σ2 : Sg} (h1 : eqX1 σ σ1) (h2 : eqX1 σ1 σ2) : eqX1 σ σ2 := fun k h h' => (h2 k h h').trans (h1 k h h')
theorem eqX1.of {σ σ1 : Sg} (h1 : eqX σ σ1) : eqX1 σ σ1 := fun k h _ => h1 k h
theorem eqX1.up {σ : Sg} {k i : Nat} {v : Int32} (h : inB1 k = true) : eqX1 σ (up σ k i v) := by
  intro j _ hj
  exact up_row (fun e => by subst e; rw [h] at hj; cases hj)
theorem eqM1.rf {τ : Sg} : eqM1 τ τ := ⟨rfl, rfl, rfl, rfl, rfl, rfl, rfl, rfl⟩
theorem eqM1.tr {τ τ1 τ2 : Sg} (h1 : eqM1 τ τ1) (h2 : eqM1 τ1 τ2) : eqM1 τ τ2 := by
  obtain ⟨a2, a3, a4, a5, a6, a7, a8, a9⟩ := h1
  obtain ⟨b2, b3, b4, b5, b6, b7, b8, b9⟩ := h2
  exact ⟨b2.trans a2, b3.trans a3, b4.trans a4, b5.trans a5, b6.trans a6, b7.trans a7, b8.trans a8, b9.trans a9⟩
theorem eqM1.of {τ τ1 : Sg} (h1 : eqM τ τ1) : eqM1 τ τ1 := h1.2
theorem eqM1.up {τ : Sg} {i : Nat} {v : Int32} : eqM1 τ (up τ 1 i v) := by
  refine ⟨?_, ?_, ?_, ?_, ?_, ?_, ?_, ?_⟩ <;> simp (disch := omega) only [up_row, up_k]
theorem Sim.bd {σ τ σ' τ' : Sg} (h : Sim σ τ) (b : Bd1 σ' τ') (e : eqX1 σ σ') (em : eqM1 τ τ') : Sim σ' τ' := by
  obtain ⟨h1, h2, h3, h4, h5, h6⟩ := h
  obtain ⟨m2, m4, m5, m6, m7, m13, m3, m19⟩ := em
  refine ⟨b, by rw [e 0 rfl rfl, m3]; exact h2, fun hz => ?_, fun k a b => ?_, fun u hu => ?_, ?_⟩
  · have q := h3 (by rw [e 0 rfl rfl] at hz; exact hz)
    unfold Bd2
    rw [m2, e 2 rfl rfl, e 17 rfl rfl, e 45 rfl rfl, e 63 rfl rfl, e 47 rfl rfl, e 65 rfl rfl]
    have i1 : ∀ l, l < 10 → inB1 (30 + l) = false := by decide +kernel
    have i2 : ∀ u, u < 2 → inB1 (42 + u) = false ∧ inB1 (50 + u) = false ∧ inB1 (68 + u) = false ∧ rlv (42 + u) = true ∧ rlv (50 + u) = true ∧ rlv (68 + u) = true := by decide +kernel
    exact BdR_congr q (fun l hl => e _ (rlv_l hl).2 (i1 l hl)) (fun u hu => by rw [e _ (i2 u hu).2.2.2.1 (i2 u hu).1]) (fun u hu => by rw [e _ (i2 u hu).2.2.2.2.1 (i2 u hu).2.1]) (fun u hu => by rw [e _ (i2 u hu).2.2.2.2.2 (i2 u hu).2.2.1])
  · rw [e 8 rfl rfl, m4]; exact h4 k a b
  · have i3 : ∀ u, u < 4 → inB1 (10 + u) = false ∧ inB1 (58 + u) = false ∧ inB1 (76 + u) = false := by decide +kernel
    have q := rlv_u hu
    have q2 := i3 u hu
    rw [m5, m6, m7, e _ q.1 q2.1, e _ q.2.2.2.2.1 q2.2.1, e _ q.2.2.2.2.2 q2.2.2]
    exact h5 u hu
  · unfold Tr; rw [e 57 rfl rfl, e 75 rfl rfl, m19, m13]; exact h6
/-! pieces of a board, behind a change of the reference's row -/
theorem Hd_r {g r : Nat → Int32} {j : Nat} {v : Int32} (h : Hd g r) (hj : 5 ≤ j ∨ j = 2) : Hd g (upd r j v) := by
  unfold Hd at h ⊢
  simp (disch := omega) only [upd_n]
  exact h
theorem Ik_r {ink r : Nat → Int32} {j : Nat} {v : Int32} (h : Ik ink r) (hj : j < 7 ∨ 12 ≤ j) : Ik ink (upd r j v) := by
  intro p hp
  rw [upd_n (by omega)]
  exact h p hp
theorem Lns_r {n : Nat} {ln : Nat → Nat → Int32} {d : Int32} {r : Nat → Int32} {j : Nat} {v : Int32} (h : Lns n ln d r) (hj : j < 12 ∨ 12 + 7 * n ≤ j) : Lns n ln d (upd r j v) := by
  intro l hl
  refine ⟨(h l hl).1, fun f hf => ?_⟩
  rw [upd_n (by omega)]
  exact (h l hl).2 f hf
theorem Sq_r {cap o c0 : Nat} {n : Int32} {f r : Nat → Int32} {j : Nat} {v : Int32} (h : Sq cap n f (r c0) (fun i => r (o + i))) (hj : j ≠ c0) (h2 : j < o ∨ o + cap ≤ j) : Sq cap n f (upd r j v c0) (fun i => upd r j v (o + i)) := by
  obtain ⟨t, h1, e1, e2, h3⟩ := h
  refine ⟨t, h1, e1, by rw [upd_n (Ne.symm hj)]; exact e2, fun i hi => ?_⟩
  show upd r j v (o + i) = f i
  rw [upd_n (by omega)]
  exact h3 i hi
theorem Cd_r {th cn : Int32} {cs r : Nat → Int32} {u j : Nat} {v : Int32} (h : Cd th cn cs (fun i => r (166 + 121 * u + i))) (hj : j < 166) : Cd th cn cs (fun i => upd r j v (166 + 121 * u + i)) := by
  have : (fun i => upd r j v (166 + 121 * u + i)) = (fun i => r (166 + 121 * u + i)) := by
    funext i; exact upd_n (by omega)
  rw [this]
  exact h
/-! calls of one number -/
theorem eq_seed {σ τ : Sg} (h : Sim σ τ) (a : Int32) : Ok (f_X9_seed a σ) (f_X10_seed a τ) := by
  have hb := h.1
  obtain ⟨a1, a2, ⟨n, hn, e1, e2, a3⟩, a4, a5, a6, a7⟩ := hb
  have e : f_X10_seed a τ = some (τ 1 1, up τ 1 1 a) := by
    unfold f_X10_seed; rw [m_becomes (k := 1) rfl (by decide)]; rfl
  rw [e, show τ 1 1 = σ 1 6 from a1.2.2.2.2.2.2.2.2]
  refine Ok.mk (h.bd ?_ (eqX1.up rfl) eqM1.up)
  unfold Bd1
  simp (disch := omega) only [up_row, up_rs]
  refine ⟨?_, Ik_r a2 (by omega), ⟨n, hn, ?_, ?_, ?_⟩, a4, Sq_r a5 (by omega) (by omega), Sq_r a6 (by omega) (by omega), fun u hu => Cd_r (a7 u hu) (by omega)⟩
  · unfold Hd at a1 ⊢
    simp (disch := omega) only [upd_n, upd_e]
    exact ⟨a1.1, a1.2.1, a1.2.2.1, a1.2.2.2.1, a1.2.2.2.2.1, a1.2.2.2.2.2.1, a1.2.2.2.2.2.2.1, a1.2.2.2.2.2.2.2.1, trivial⟩
  · rw [upd_n (by decide)]; exact e1
  · rw [upd_n (by decide)]; exact e2
  · rw [upd_n (by decide)]; exact Lns_r a3 (by omega)
end
section
theorem i0 : ((0 : Int32) : Int32).toInt = 0 := rfl
/-- what a board of the relation says, taken apart -/
theorem eq_pen {σ τ : Sg} (h : Sim σ τ) (a b : Int32) : Ok (f_X9_pen a b σ) (f_X10_pen a b τ) := by
  unfold f_X9_pen f_X10_pen
  simp only [x_isIn, m_in, x_err1, m_err1, bnd_s, lt_a, if01, ckb_01, rd_0, rd_1, rd_2, rd_3, rd_4, rd_5, rd_6, rd_7, rd_8, rd_9, rd_10, rd_11, rd_12, rd_13, rd_14, rd_15, ck_0, ck_1, ck_2, ck_3, ck_4, ck_5, ck_6, ck_7, ck_8, ck_9, ck_10, ck_11, ck_12, ck_13, ck_14, ck_15, tn_0, tn_1, tn_2, tn_3, tn_4, tn_5, tn_6, tn_7, tn_8, tn_9, tn_10, tn_11, tn_12, tn_13, tn_14, tn_15]
  split
  · rename_i c1
    split
    · rename_i c2
      obtain ⟨a1, a2, ⟨n, hn, e1, e2, a3⟩, a4, a5, a6, a7⟩ := h.1
      simp only [i_le, ti_0, ti_1, ti_2, ti_3, ti_4, ti_5, ti_6, ti_7, ti_8, ti_9, ti_10, ti_11, ti_12, ti_13, ti_14, ti_15, show (4 : Int32).toInt = 4 from rfl, show (99 : Int32).toInt = 99 from rfl] at c1 c2
      obtain ⟨p, hp, rfl⟩ := nI_ofi (a := a) (n := 5) c1.1 (by omega)
      have ep : (nI p).toInt = (p : Int) := i_nI (by omega)
      have e7 : ((7 : Int32) + nI p).toInt = ((7 + p : Nat) : Int) := by rw [i_add (by rw [ep, ti_7]; omega) (by rw [ep, ti_7]; omega), ep, ti_7]; omega
      rw [ck_k ep hp, ck_k ep hp, rd_k ep, tn_k ep, m_becomes e7 (by omega)]
      simp only [bnd_s, lt_a, if01, ckb_01, rd_0, rd_1, rd_2, rd_3, rd_4, rd_5, rd_6, rd_7, rd_8, rd_9, rd_10, rd_11, rd_12, rd_13, rd_14, rd_15, ck_0, ck_1, ck_2, ck_3, ck_4, ck_5, ck_6, ck_7, ck_8, ck_9, ck_10, ck_11, ck_12, ck_13, ck_14, ck_15, tn_0, tn_1, tn_2, tn_3, tn_4, tn_5, tn_6, tn_7, tn_8, tn_9, tn_10, tn_11, tn_12, tn_13, tn_14, tn_15]
      rw [(a2 p hp).1]
      refine Ok.mk (h.bd ?_ (eqX1.up rfl) eqM1.up)
      unfold Bd1
      simp (disch := omega) only [up_row, up_rs]
      refine ⟨Hd_r a1 (by omega), ?_, ⟨n, hn, e1, ?_, ?_⟩, a4, Sq_r a5 (by omega) (by omega), Sq_r a6 (by omega) (by omega), fun u hu => Cd_r (a7 u hu) (by omega)⟩
      · intro q hq
        by_cases hqp : q = p
        · subst hqp; rw [upd_e, upd_e]; exact ⟨rfl, c2.1, c2.2⟩
        · rw [upd_n (by omega), upd_n hqp]; exact a2 q hq
      · rw [upd_n (by omega)]; exact e2
      · exact Lns_r a3 (by omega)
    · exact Ok.err h 1 (by decide)
  · exact Ok.err h 1 (by decide)
theorem eq_spirit {σ τ : Sg} (h : Sim σ τ) (a : Int32) : Ok (f_X9_spirit a σ) (f_X10_spirit a τ) := by
  unfold f_X9_spirit f_X10_spirit
  simp only [x_isIn, m_in, x_err1, m_err1, bnd_s, lt_a, if01, ckb_01, rd_0, rd_1, rd_2, rd_3, rd_4, rd_5, rd_6, rd_7, rd_8, rd_9, rd_10, rd_11, rd_12, rd_13, rd_14, rd_15, ck_0, ck_1, ck_2, ck_3, ck_4, ck_5, ck_6, ck_7, ck_8, ck_9, ck_10, ck_11, ck_12, ck_13, ck_14, ck_15, tn_0, tn_1, tn_2, tn_3, tn_4, tn_5, tn_6, tn_7, tn_8, tn_9, tn_10, tn_11, tn_12, tn_13, tn_14, tn_15]
  split
  · rename_i c1
    obtain ⟨a1, a2, ⟨n, hn, e1, e2, a3⟩, a4, a5, a6, a7⟩ := h.1
    simp only [i_le, ti_0, ti_1, ti_2, ti_3, ti_4, ti_5, ti_6, ti_7, ti_8, ti_9, ti_10, ti_11, ti_12, ti_13, ti_14, ti_15] at c1
    rw [m_becomes (k := 3) rfl (by decide)]
    simp only [bnd_s, lt_a, if01, ckb_01, rd_0, rd_1, rd_2, rd_3, rd_4, rd_5, rd_6, rd_7, rd_8, rd_9, rd_10, rd_11, rd_12, rd_13, rd_14, rd_15, ck_0, ck_1, ck_2, ck_3, ck_4, ck_5, ck_6, ck_7, ck_8, ck_9, ck_10, ck_11, ck_12, ck_13, ck_14, ck_15, tn_0, tn_1, tn_2, tn_3, tn_4, tn_5, tn_6, tn_7, tn_8, tn_9, tn_10, tn_11, tn_12, tn_13, tn_14, tn_15]
    rw [a1.2.2.2.1]
    refine Ok.mk (h.bd ?_ (eqX1.up rfl) eqM1.up)
    unfold Bd1
    simp (disch := omega) only [up_row, up_rs]
    refine ⟨?_, Ik_r a2 (by omega), ⟨n, hn, ?_, ?_, ?_⟩, a4, Sq_r a5 (by omega) (by omega), Sq_r a6 (by omega) (by omega), fun u hu => Cd_r (a7 u hu) (by omega)⟩
    · unfold Hd at a1 ⊢
      simp (disch := omega) only [upd_n, upd_e]
      exact ⟨a1.1, a1.2.1, a1.2.2.1, trivial, by rw [i_eq, i_eq, ti_0, ti_1]; omega, a1.2.2.2.2.2.1, a1.2.2.2.2.2.2.1, a1.2.2.2.2.2.2.2.1, a1.2.2.2.2.2.2.2.2⟩
    · rw [upd_n (by decide)]; exact e1
    · rw [upd_n (by decide)]; exact e2
    · rw [upd_n (by decide)]; exact Lns_r a3 (by omega)
  · exact Ok.err h 1 (by decide)
theorem eq_told {σ τ : Sg} (h : Sim σ τ) (a : Int32) : Ok (f_X9_told a σ) (f_X10_told a τ) := by
  unfold f_X9_told f_X10_told
  simp only [x_isIn, m_in, x_err1, m_err1, bnd_s, lt_a, if01, ckb_01, rd_0, rd_1, rd_2, rd_3, rd_4, rd_5, rd_6, rd_7, rd_8, rd_9, rd_10, rd_11, rd_12, rd_13, rd_14, rd_15, ck_0, ck_1, ck_2, ck_3, ck_4, ck_5, ck_6, ck_7, ck_8, ck_9, ck_10, ck_11, ck_12, ck_13, ck_14, ck_15, tn_0, tn_1, tn_2, tn_3, tn_4, tn_5, tn_6, tn_7, tn_8, tn_9, tn_10, tn_11, tn_12, tn_13, tn_14, tn_15]
  split
  · rename_i c1
    simp only [i_le, ti_0, ti_1, ti_2, ti_3, ti_4, ti_5, ti_6, ti_7, ti_8, ti_9, ti_10, ti_11, ti_12, ti_13, ti_14, ti_15] at c1
    obtain ⟨p, hp, rfl⟩ := nI_ofi (a := a) (n := 7) (by omega) (by omega)
    have ep : (nI p).toInt = (p : Int) := i_nI (by omega)
    rw [ck_k ep hp, ck_k ep hp, rd_k ep, rd_k ep, h.2.2.2.1 p (by omega) (by omega)]
    exact Ok.mk h
  · exact Ok.err h 1 (by decide)
theorem eq_body {σ τ : Sg} (h : Sim σ τ) (a : Int32) : Ok (f_X9_body a σ) (f_X10_body a τ) := by
  unfold f_X9_body f_X10_body
  simp only [x_isIn, m_in, x_err2, m_err2, bnd_s, lt_a, if01, ckb_01, rd_0, rd_1, rd_2, rd_3, rd_4, rd_5, rd_6, rd_7, rd_8, rd_9, rd_10, rd_11, rd_12, rd_13, rd_14, rd_15, ck_0, ck_1, ck_2, ck_3, ck_4, ck_5, ck_6, ck_7, ck_8, ck_9, ck_10, ck_11, ck_12, ck_13, ck_14, ck_15, tn_0, tn_1, tn_2, tn_3, tn_4, tn_5, tn_6, tn_7, tn_8, tn_9, tn_10, tn_11, tn_12, tn_13, tn_14, tn_15]
  obtain ⟨t, ht, e1, e2, h3⟩ := h.2.2.2.2.2
  rw [e1, e2]
  split
  · rename_i c1
    have et : (nI t).toInt = (t : Int) := i_nI (by omega)
    have e3 : (nI t - (1 : Int32)).toInt = (t : Int) - 1 := by rw [i_sub (by rw [et, ti_1]; omega) (by rw [et, ti_1]; omega), et, ti_1]
    simp only [i_le, ti_0, ti_1, ti_2, ti_3, ti_4, ti_5, ti_6, ti_7, ti_8, ti_9, ti_10, ti_11, ti_12, ti_13, ti_14, ti_15, e3] at c1
    obtain ⟨p, hp, rfl⟩ := nI_ofi (a := a) (n := t) (by omega) (by omega)
    have ep : (nI p).toInt = (p : Int) := i_nI (by omega)
    rw [ck_k ep (by omega), ck_k ep (by omega), rd_k ep, rd_k ep, h3 p hp]
    exact Ok.mk h
  · exact Ok.err h 2 (by decide)
theorem eq_count {σ τ : Sg} (h : Sim σ τ) (a : Int32) : Ok (f_X9_count a σ) (f_X10_count a τ) := by
  unfold f_X9_count f_X10_count
  simp only [x_err1, m_err1, bnd_s, lt_a, if01, ckb_01, rd_0, rd_1, rd_2, rd_3, rd_4, rd_5, rd_6, rd_7, rd_8, rd_9, rd_10, rd_11, rd_12, rd_13, rd_14, rd_15, ck_0, ck_1, ck_2, ck_3, ck_4, ck_5, ck_6, ck_7, ck_8, ck_9, ck_10, ck_11, ck_12, ck_13, ck_14, ck_15, tn_0, tn_1, tn_2, tn_3, tn_4, tn_5, tn_6, tn_7, tn_8, tn_9, tn_10, tn_11, tn_12, tn_13, tn_14, tn_15]
  obtain ⟨a1, a2, ⟨n, hn, e1, e2, a3⟩, a4, ⟨t1, q1, q2, q3, q4⟩, ⟨t2, p1, p2, p3, p4⟩, a7⟩ := h.1
  obtain ⟨t, ht, b1, b2, b3⟩ := h.2.2.2.2.2
  rw [e1, e2, a1.1, a1.2.2.2.1, a1.2.2.2.2.2.1, a1.2.2.2.2.2.2.2.2, q2, q3, p2, p3, b1, b2]
  repeat' split
  all_goals first | exact Ok.mk h | exact Ok.err h 1 (by decide)
theorem eq_photo {σ τ : Sg} (h : Sim σ τ) (a b : Int32) : Ok (f_X9_photo a b σ) (f_X10_photo a b τ) := by
  obtain ⟨a1, a2, ⟨n, hn, e1, e2, a3⟩, a4, a5, a6, a7⟩ := h.1
  unfold f_X9_photo f_X10_photo
  simp only [x_isIn, m_in, x_err1, m_err1, x_hasLine e1, m_isLine e2 hn, bnd_s, lt_a, if01, ckb_01, rd_0, rd_1, rd_2, rd_3, rd_4, rd_5, rd_6, rd_7, rd_8, rd_9, rd_10, rd_11, rd_12, rd_13, rd_14, rd_15, ck_0, ck_1, ck_2, ck_3, ck_4, ck_5, ck_6, ck_7, ck_8, ck_9, ck_10, ck_11, ck_12, ck_13, ck_14, ck_15, tn_0, tn_1, tn_2, tn_3, tn_4, tn_5, tn_6, tn_7, tn_8, tn_9, tn_10, tn_11, tn_12, tn_13, tn_14, tn_15]
  split
  · rename_i c1
    split
    · rename_i c2
      have en : (nI n).toInt = (n : Int) := i_nI (by omega)
      simp only [i_le, i_lt, en, ti_0, ti_1, ti_2, ti_3, ti_4, ti_5, ti_6, ti_7, ti_8, ti_9, ti_10, ti_11, ti_12, ti_13, ti_14, ti_15] at c1 c2
      obtain ⟨l, hl, rfl⟩ := nI_ofi (a := a) (n := n) c1.1 (by omega)
      have el : (nI l).toInt = (l : Int) := i_nI (by omega)
      rw [ck_k el (by omega), ck_k el (by omega), tn_k el, m_becomes (ml_i (f := 5) (by omega) rfl (by decide)) (by omega), (a3 l hl).2 5 (by decide)]
      simp only [bnd_s, lt_a, if01, ckb_01, rd_0, rd_1, rd_2, rd_3, rd_4, rd_5, rd_6, rd_7, rd_8, rd_9, rd_10, rd_11, rd_12, rd_13, rd_14, rd_15, ck_0, ck_1, ck_2, ck_3, ck_4, ck_5, ck_6, ck_7, ck_8, ck_9, ck_10, ck_11, ck_12, ck_13, ck_14, ck_15, tn_0, tn_1, tn_2, tn_3, tn_4, tn_5, tn_6, tn_7, tn_8, tn_9, tn_10, tn_11, tn_12, tn_13, tn_14, tn_15]
      refine Ok.mk (h.bd ?_ (eqX1.up ?_) eqM1.up)
      · unfold Bd1
        simp (disch := omega) only [up_row]
        rw [up_rs]
        refine ⟨Hd_r a1 (by omega), Ik_r a2 (by omega), ⟨n, hn, e1, ?_, ?_⟩, ?_, Sq_r a5 (by omega) (by omega), Sq_r a6 (by omega) (by omega), fun u hu => Cd_r (a7 u hu) (by omega)⟩
        · rw [upd_n (by omega)]; exact e2
        · intro k hk
          by_cases hkl : k = l
          · subst hkl
            show LnOK (up σ (20 + k) 5 b (20 + k)) (σ 1 2) ∧ _
            rw [up_rs]
            refine ⟨?_, fun f hf => ?_⟩
            · have q := (a3 k hk).1
              unfold LnOK at q ⊢
              simp (disch := omega) only [upd_n, upd_e]
              exact ⟨q.1, q.2.1, q.2.2.1, q.2.2.2.1, q.2.2.2.2.1, by rw [i_eq, i_eq, ti_0, ti_1]; omega⟩
            · by_cases hf5 : f = 5
              · subst hf5; rw [upd_e]; show b = up σ (20 + k) 5 b (20 + k) 5; rw [up_s]
              · rw [upd_n (by omega)]; show _ = up σ (20 + k) 5 b (20 + k) f; rw [up_i hf5]; exact (a3 k hk).2 f hf
          · show LnOK (up σ (20 + l) 5 b (20 + k)) (σ 1 2) ∧ _
            rw [up_row (by omega)]
            refine ⟨(a3 k hk).1, fun f hf => ?_⟩
            rw [upd_n (by omega)]
            show _ = up σ (20 + l) 5 b (20 + k) f
            rw [up_row (by omega)]
            exact (a3 k hk).2 f hf
        · intro k hk
          show up σ (20 + l) 5 b (20 + k) 6 = 0 ∨ up σ (20 + l) 5 b (20 + k) 6 = 1
          have := a4 k hk
          by_cases hkl : k = l
          · subst hkl; rw [up_i (by decide)]; exact this
          · rw [up_row (by omega)]; exact this
      · have : ∀ l, l < 10 → inB1 (20 + l) = true := by decide +kernel
        exact this l (by omega)
    · exact Ok.err h 1 (by decide)
  · exact Ok.err h 1 (by decide)
end
section
theorem dp_congr {a a' : Nat → Int32} {c : Nat} (h : ∀ j, j < c → a' j = a j) : ∀ k, k ≤ c → dp a' k = dp a k := by
  intro k
  induction k with
  | zero => intro _; rfl
  | succ k ih =>
    intro hk
    unfold dp
    rw [ih (by omega), h k (by omega)]
theorem Cod_congr {c : Nat} {x x' a a' w w' : Nat → Int32} (h : Cod c x a w) (hx : ∀ j, j < c → x' j = x j) (ha : ∀ j, j < c → a' j = a j) (hw : ∀ j, j < c → w' j = w j) : Cod c x' a' w' := by
  refine ⟨fun j hj => ?_, by rw [dp_congr ha c (Nat.le_refl c)]; exact h.2⟩
  rw [hx j hj, ha j hj, hw j hj, dp_congr ha j (by omega)]
  exact h.1 j hj
theorem Bd1.of {σ' τ' : Sg} {ln : Nat → Nat → Int32} {th cn : Nat → Int32} {cs : Nat → Nat → Int32} (h : BdR (σ' 1) ln (σ' 16) (σ' 44 1) (σ' 62) (σ' 46 1) (σ' 64) th cn cs (τ' 1)) (hl : ∀ l, l < 10 → σ' (20 + l) = ln l) (h1 : ∀ u, u < 2 → σ' (40 + u) 0 = th u) (h2 : ∀ u, u < 2 → σ' (48 + u) 1 = cn u) (h3 : ∀ u, u < 2 → σ' (66 + u) = cs u) : Bd1 σ' τ' := BdR_congr h hl h1 h2 h3
theorem Sim.line {σ τ σ' τ' : Sg} (h : Sim σ τ) {n l : Nat} (hn : σ 1 1 = nI n) (n10 : n ≤ 10) (hl : l < n) (ex : ∀ k, k ≠ 20 + l → σ' k = σ k) (em : eqM1 τ τ') (er : ∀ j, j < 12 + 7 * l ∨ 12 + 7 * l + 7 ≤ j → τ' 1 j = τ 1 j) (ok : LnOK (σ' (20 + l)) (σ 1 2)) (g : σ' (20 + l) 6 = 0 ∨ σ' (20 + l) 6 = 1) (eq : ∀ f, f < 7 → τ' 1 (12 + 7 * l + f) = σ' (20 + l) f) : Sim σ' τ' := by
  have q : ∀ k, k ≠ 20 + l → σ' k = σ k := ex
  refine h.bd ?_ (fun k _ hk => ex k (fun e => ?_)) em
  · obtain ⟨a1, a2, ⟨m, hm, e1, e2, a3⟩, a4, a5, a6, a7⟩ := h.1
    have hmn : m = n := by
      have := e1.symm.trans hn
      rw [i_eq, i_nI (by omega), i_nI (by omega)] at this
      omega
    subst hmn
    unfold Bd1
    rw [ex 1 (by omega), ex 16 (by omega), ex 44 (by omega), ex 62 (by omega), ex 46 (by omega), ex 64 (by omega)]
    refine ⟨?_, ?_, ⟨m, hm, e1, by rw [er 2 (by omega)]; exact e2, ?_⟩, ?_, ?_, ?_, ?_⟩
    · unfold Hd at a1 ⊢
      rw [er 0 (by omega), er 3 (by omega), er 4 (by omega), er 1 (by omega)]
      exact a1
    · intro p hp; rw [er (7 + p) (by omega)]; exact a2 p hp
    · intro k hk
      by_cases hkl : k = l
      · subst hkl; exact ⟨ok, eq⟩
      · refine ⟨?_, fun f hf => ?_⟩
        · show LnOK (σ' (20 + k)) _
          rw [ex (20 + k) (by omega)]; exact (a3 k hk).1
        · show _ = σ' (20 + k) f
          rw [ex (20 + k) (by omega), er _ (by omega)]; exact (a3 k hk).2 f hf
    · intro k hk
      show σ' (20 + k) 6 = 0 ∨ σ' (20 + k) 6 = 1
      by_cases hkl : k = l
      · subst hkl; exact g
      · rw [ex (20 + k) (by omega)]; exact a4 k hk
    · obtain ⟨t, h1, q1, q2, h3⟩ := a5
      exact ⟨t, h1, q1, by rw [er 5 (by omega)]; exact q2, fun i hi => by show τ' 1 (82 + i) = _; rw [er _ (by omega)]; exact h3 i hi⟩
    · obtain ⟨t, h1, q1, q2, h3⟩ := a6
      exact ⟨t, h1, q1, by rw [er 6 (by omega)]; exact q2, fun i hi => by show τ' 1 (142 + i) = _; rw [er _ (by omega)]; exact h3 i hi⟩
    · intro u hu
      have e1 : (fun j => τ' 1 (166 + 121 * u + j)) = (fun j => τ 1 (166 + 121 * u + j)) := by funext j; exact er _ (by omega)
      rw [e1]
      show Cd (σ' (40 + u) 0) (σ' (48 + u) 1) (σ' (66 + u)) _
      rw [ex (40 + u) (by omega), ex (48 + u) (by omega), ex (66 + u) (by omega)]
      exact a7 u hu
  · subst e
    have : ∀ l, l < 10 → inB1 (20 + l) = true := by decide +kernel
    rw [this l (by omega)] at hk
    cases hk
theorem td (a b : Int) : (a.tdiv b) = a.tdiv b := rfl
theorem i_div10 {a : Int32} (h : 0 ≤ a.toInt) : (a / (10 : Int32)).toInt = a.toInt / 10 := by
  rw [Int32.toInt_div, show (10 : Int32).toInt = 10 from rfl, Int.tdiv_eq_ediv_of_nonneg h]
  have := i_hi a
  exact bm (by omega) (by omega)
theorem i_rem10 {a : Int32} (h : 0 ≤ a.toInt) : (irm a (10 : Int32)).toInt = a.toInt % 10 := by
  unfold irm
  have h1 := i_div10 h
  have h2 := i_hi a
  have h3 : (a / (10 : Int32) * 10).toInt = a.toInt / 10 * 10 := by rw [i_mul (by rw [h1, ti_10]; omega) (by rw [h1, ti_10]; omega), h1, ti_10]
  rw [i_sub (by rw [h3]; omega) (by rw [h3]; omega), h3]
  omega
theorem eq_become {σ τ : Sg} (h : Sim σ τ) (a b : Int32) : Ok (f_X9_become a b σ) (f_X10_become a b τ) := by
  obtain ⟨a1, a2, ⟨n, hn, e1, e2, a3⟩, a4, a5, a6, a7⟩ := h.1
  unfold f_X9_become f_X10_become
  simp only [x_isKm, m_isKm, x_err1, m_err1, x_hasLine e1, m_isLine e2 hn, bnd_s, lt_a, if01, ckb_01, rd_0, rd_1, rd_2, rd_3, rd_4, rd_5, rd_6, rd_7, rd_8, rd_9, rd_10, rd_11, rd_12, rd_13, rd_14, rd_15, ck_0, ck_1, ck_2, ck_3, ck_4, ck_5, ck_6, ck_7, ck_8, ck_9, ck_10, ck_11, ck_12, ck_13, ck_14, ck_15, tn_0, tn_1, tn_2, tn_3, tn_4, tn_5, tn_6, tn_7, tn_8, tn_9, tn_10, tn_11, tn_12, tn_13, tn_14, tn_15]
  split
  · rename_i c1
    split
    · rename_i c2
      have en : (nI n).toInt = (n : Int) := i_nI (by omega)
      simp only [i_le, i_lt, en, ti_0, ti_1, ti_2, ti_3, ti_4, ti_5, ti_6, ti_7, ti_8, ti_9, ti_10, ti_11, ti_12, ti_13, ti_14, ti_15, show (69 : Int32).toInt = 69 from rfl] at c1 c2
      obtain ⟨l, hl, rfl⟩ := nI_ofi (a := a) (n := n) c1.1 (by omega)
      have el : (nI l).toInt = (l : Int) := i_nI (by omega)
      rw [ck_k el (by omega), tn_k el, m_lets 1 (by omega) rfl (by decide)]
      simp only [bnd_s, lt_a, if01, ckb_01, rd_0, rd_1, rd_2, rd_3, rd_4, rd_5, rd_6, rd_7, rd_8, rd_9, rd_10, rd_11, rd_12, rd_13, rd_14, rd_15, ck_0, ck_1, ck_2, ck_3, ck_4, ck_5, ck_6, ck_7, ck_8, ck_9, ck_10, ck_11, ck_12, ck_13, ck_14, ck_15, tn_0, tn_1, tn_2, tn_3, tn_4, tn_5, tn_6, tn_7, tn_8, tn_9, tn_10, tn_11, tn_12, tn_13, tn_14, tn_15]
      rw [m_becomes (ml_0 (by omega)) (by omega)]
      simp only [bnd_s, lt_a, if01, ckb_01, rd_0, rd_1, rd_2, rd_3, rd_4, rd_5, rd_6, rd_7, rd_8, rd_9, rd_10, rd_11, rd_12, rd_13, rd_14, rd_15, ck_0, ck_1, ck_2, ck_3, ck_4, ck_5, ck_6, ck_7, ck_8, ck_9, ck_10, ck_11, ck_12, ck_13, ck_14, ck_15, tn_0, tn_1, tn_2, tn_3, tn_4, tn_5, tn_6, tn_7, tn_8, tn_9, tn_10, tn_11, tn_12, tn_13, tn_14, tn_15]
      have hd := i_div10 (a := b) c2.1
      have hr := i_rem10 (a := b) c2.1
      rw [up_i (by omega), show τ 1 (12 + 7 * l) = σ (20 + l) 0 from (a3 l hl).2 0 (by decide)]
      refine Ok.mk (h.line e1 hn hl (fun k hk => by rw [up_row hk, up_row hk]) (eqM1.up.tr eqM1.up) (fun j hj => by rw [up_i (by omega), up_i (by omega)]) ?_ ?_ ?_)
      · have q := (a3 l hl).1
        unfold LnOK at q ⊢
        simp (disch := omega) only [up_s, up_i]
        exact ⟨by omega, by omega, q.2.2.1, q.2.2.2.1, q.2.2.2.2.1, q.2.2.2.2.2⟩
      · simp (disch := omega) only [up_i]; exact a4 l (by omega)
      · intro f hf
        have q := (a3 l hl).2 f hf
        by_cases h0 : f = 0
        · subst h0; simp (disch := omega) only [Nat.add_zero, up_s, up_i]
        · by_cases h1 : f = 1
          · subst h1; simp (disch := omega) only [up_s, up_i]
          · simp (disch := omega) only [up_i]; exact q
    · exact Ok.err h 1 (by decide)
  · exact Ok.err h 1 (by decide)
theorem eq_tell {σ τ : Sg} (h : Sim σ τ) (a : Int32) : Ok (f_X9_tell a σ) (f_X10_tell a τ) := by
  obtain ⟨a1, a2, ⟨n, hn, e1, e2, a3⟩, a4, a5, ⟨t, ht, q1, q2, q3⟩, a7⟩ := h.1
  have et : (nI t).toInt = (t : Int) := i_nI (by omega)
  have e24 : (24 : Int32).toInt = 24 := rfl
  have es : (Int32.ofNat (capC (46 + 18)) - nI t).toInt = 24 - (t : Int) := by
    rw [show Int32.ofNat (capC (46 + 18)) = (24 : Int32) from rfl, i_sub (by rw [et, e24]; omega) (by rw [et, e24]; omega), et, e24]
  have e142 : ((142 : Int32) + nI t).toInt = ((142 + t : Nat) : Int) := by
    rw [i_add (by rw [et]; show _ ≤ (142 : Int) + _; omega) (by rw [et]; show (142 : Int) + _ < _; omega), et]; rfl
  unfold f_X9_tell f_X10_tell f_X6_hasRoomFor
  simp only [q1, q2, bnd_s, lt_a, if01, ckb_01, rd_0, rd_1, rd_2, rd_3, rd_4, rd_5, rd_6, rd_7, rd_8, rd_9, rd_10, rd_11, rd_12, rd_13, rd_14, rd_15, ck_0, ck_1, ck_2, ck_3, ck_4, ck_5, ck_6, ck_7, ck_8, ck_9, ck_10, ck_11, ck_12, ck_13, ck_14, ck_15, tn_0, tn_1, tn_2, tn_3, tn_4, tn_5, tn_6, tn_7, tn_8, tn_9, tn_10, tn_11, tn_12, tn_13, tn_14, tn_15, x_err4, m_err4]
  by_cases hf : t = 24
  · subst hf
    rw [if_pos (by rw [i_lt, es, ti_1]; omega), if_pos (show nI 24 = (24 : Int32) from rfl)]
    simp only [bnd_s, lt_a, if01, ckb_01, rd_0, rd_1, rd_2, rd_3, rd_4, rd_5, rd_6, rd_7, rd_8, rd_9, rd_10, rd_11, rd_12, rd_13, rd_14, rd_15, ck_0, ck_1, ck_2, ck_3, ck_4, ck_5, ck_6, ck_7, ck_8, ck_9, ck_10, ck_11, ck_12, ck_13, ck_14, ck_15, tn_0, tn_1, tn_2, tn_3, tn_4, tn_5, tn_6, tn_7, tn_8, tn_9, tn_10, tn_11, tn_12, tn_13, tn_14, tn_15, if_true]
    exact Ok.err h 4 (by decide)
  · rw [if_neg (by rw [i_lt, es, ti_1]; omega), if_neg (by rw [i_eq, et, e24]; omega)]
    simp only [bnd_s, lt_a, if01, ckb_01, rd_0, rd_1, rd_2, rd_3, rd_4, rd_5, rd_6, rd_7, rd_8, rd_9, rd_10, rd_11, rd_12, rd_13, rd_14, rd_15, ck_0, ck_1, ck_2, ck_3, ck_4, ck_5, ck_6, ck_7, ck_8, ck_9, ck_10, ck_11, ck_12, ck_13, ck_14, ck_15, tn_0, tn_1, tn_2, tn_3, tn_4, tn_5, tn_6, tn_7, tn_8, tn_9, tn_10, tn_11, tn_12, tn_13, tn_14, tn_15, if_neg (show ¬ (1 : Int32) = 0 by decide)]
    unfold f_X6_add
    rw [q1, if_neg (by rw [i_le, et]; show ¬ (24 : Int) ≤ _; omega), ck_k et (show t < capC (46 + 18) by show t < 24; omega), tn_k et, ck_k e142 (by omega), tn_k e142]
    simp only [bnd_s, lt_a, if01, ckb_01, rd_0, rd_1, rd_2, rd_3, rd_4, rd_5, rd_6, rd_7, rd_8, rd_9, rd_10, rd_11, rd_12, rd_13, rd_14, rd_15, ck_0, ck_1, ck_2, ck_3, ck_4, ck_5, ck_6, ck_7, ck_8, ck_9, ck_10, ck_11, ck_12, ck_13, ck_14, ck_15, tn_0, tn_1, tn_2, tn_3, tn_4, tn_5, tn_6, tn_7, tn_8, tn_9, tn_10, tn_11, tn_12, tn_13, tn_14, tn_15]
    simp (disch := omega) only [up_s, up_i, up_k]
    rw [q1, q2]
    simp only [nI_1]
    refine Ok.mk (h.bd ?_ ((eqX1.up rfl).tr (eqX1.up rfl)) (eqM1.up.tr eqM1.up))
    refine Bd1.of (ln := fun l => σ (20 + l)) (th := fun u => σ (40 + u) 0) (cn := fun u => σ (48 + u) 1) (cs := fun u => σ (66 + u)) ?_ (fun l hl => by simp (disch := omega) only [up_row]) (fun u hu => by simp (disch := omega) only [up_row]) (fun u hu => by simp (disch := omega) only [up_row]) (fun u hu => by simp (disch := omega) only [up_row])
    simp (disch := omega) only [up_row, up_rs]
    refine ⟨Hd_r (Hd_r a1 (by omega)) (by omega), Ik_r (Ik_r a2 (by omega)) (by omega), ⟨n, hn, e1, ?_, Lns_r (Lns_r a3 (by omega)) (by omega)⟩, a4, Sq_r (c0 := 5) (o := 82) (Sq_r a5 (by omega) (by omega)) (by omega) (by omega), ?_, fun u hu => Cd_r (Cd_r (a7 u hu) (by omega)) (by omega)⟩
    · rw [upd_n (by omega), upd_n (by omega)]; exact e2
    · refine ⟨t + 1, by omega, ?_, ?_, fun j hj => ?_⟩
      · rw [upd_e]
      · rw [upd_e]
      · show upd (upd (τ 1) (142 + t) a) 6 _ (142 + j) = upd (σ 64) t a j
        rw [upd_n (by omega)]
        by_cases hjt : j = t
        · subst hjt; rw [upd_e, upd_e]
        · rw [upd_n (by omega), upd_n hjt]; exact q3 j (by omega)
theorem eq_untell {σ τ : Sg} (h : Sim σ τ) (a : Int32) : Ok (f_X9_untell a σ) (f_X10_untell a τ) := by
  obtain ⟨a1, a2, ⟨n, hn, e1, e2, a3⟩, a4, a5, a6, a7⟩ := h.1
  unfold f_X9_untell f_X10_untell
  simp only [x_isIn, m_in, x_err1, m_err1, bnd_s, lt_a, if01, ckb_01, rd_0, rd_1, rd_2, rd_3, rd_4, rd_5, rd_6, rd_7, rd_8, rd_9, rd_10, rd_11, rd_12, rd_13, rd_14, rd_15, ck_0, ck_1, ck_2, ck_3, ck_4, ck_5, ck_6, ck_7, ck_8, ck_9, ck_10, ck_11, ck_12, ck_13, ck_14, ck_15, tn_0, tn_1, tn_2, tn_3, tn_4, tn_5, tn_6, tn_7, tn_8, tn_9, tn_10, tn_11, tn_12, tn_13, tn_14, tn_15]
  split
  · rename_i c1
    simp only [i_le, ti_0, ti_1, ti_2, ti_3, ti_4, ti_5, ti_6, ti_7, ti_8, ti_9, ti_10, ti_11, ti_12, ti_13, ti_14, ti_15] at c1
    obtain ⟨u, hu, rfl⟩ := nI_ofi (a := a) (n := 2) c1.1 (by omega)
    have eu : (nI u).toInt = (u : Int) := i_nI (by omega)
    have e166 : ((166 : Int32) + (121 : Int32) * nI u).toInt = ((166 + 121 * u : Nat) : Int) := by
      have : ((121 : Int32) * nI u).toInt = 121 * (u : Int) := by rw [i_mul (by rw [eu]; show _ ≤ (121 : Int) * _; omega) (by rw [eu]; show (121 : Int) * _ < _; omega), eu]; rfl
      rw [i_add (by rw [this]; show _ ≤ (166 : Int) + _; omega) (by rw [this]; show (166 : Int) + _ < _; omega), this]; show (166 : Int) + _ = _; omega
    rw [ck_k eu hu, ck_k eu hu, tn_k eu, m_becomes e166 (by omega)]
    simp only [bnd_s, lt_a, if01, ckb_01, rd_0, rd_1, rd_2, rd_3, rd_4, rd_5, rd_6, rd_7, rd_8, rd_9, rd_10, rd_11, rd_12, rd_13, rd_14, rd_15, ck_0, ck_1, ck_2, ck_3, ck_4, ck_5, ck_6, ck_7, ck_8, ck_9, ck_10, ck_11, ck_12, ck_13, ck_14, ck_15, tn_0, tn_1, tn_2, tn_3, tn_4, tn_5, tn_6, tn_7, tn_8, tn_9, tn_10, tn_11, tn_12, tn_13, tn_14, tn_15]
    have key : Sim (up σ (40 + u) 0 0) (up τ 1 (166 + 121 * u) 0) := by
      refine h.bd ?_ (eqX1.up ?_) eqM1.up
      · refine Bd1.of (ln := fun l => σ (20 + l)) (th := fun v => up σ (40 + u) 0 0 (40 + v) 0) (cn := fun u => σ (48 + u) 1) (cs := fun u => σ (66 + u)) ?_ (fun l hl => by simp (disch := omega) only [up_row]) (fun u hu => rfl) (fun u hu => by simp (disch := omega) only [up_row]) (fun u hu => by simp (disch := omega) only [up_row])
        simp (disch := omega) only [up_row, up_rs]
        refine ⟨Hd_r a1 (by omega), Ik_r a2 (by omega), ⟨n, hn, e1, ?_, Lns_r a3 (by omega)⟩, a4, Sq_r a5 (by omega) (by omega), Sq_r a6 (by omega) (by omega), fun v hv => ?_⟩
        · rw [upd_n (by omega)]; exact e2
        · obtain ⟨c, hc, q1, q2⟩ := a7 v hv
          refine ⟨c, hc, q1, ?_⟩
          show (up σ (40 + u) 0 0 (40 + v) 0 = 0 ∧ upd (τ 1) (166 + 121 * u) 0 (166 + 121 * v + 0) = 0) ∨ (up σ (40 + u) 0 0 (40 + v) 0 = 1 ∧ 0 < c ∧ upd (τ 1) (166 + 121 * u) 0 (166 + 121 * v + 0) = nI c ∧ Cod c (σ (66 + v)) (fun j => upd (τ 1) (166 + 121 * u) 0 (166 + 121 * v + (1 + j))) (fun j => upd (τ 1) (166 + 121 * u) 0 (166 + 121 * v + (61 + j))))
          by_cases huv : u = v
          · subst huv
            left
            rw [up_s, Nat.add_zero, upd_e]
            exact ⟨rfl, rfl⟩
          · rw [up_k (by omega), upd_n (by omega)]
            rcases q2 with q | ⟨b1, b2, b3, b4⟩
            · left; exact q
            · right
              exact ⟨b1, b2, b3, Cod_congr b4 (fun _ _ => rfl) (fun j hj => upd_n (by omega)) (fun j hj => upd_n (by omega))⟩
      · have : ∀ u, u < 2 → inB1 (40 + u) = true := by decide +kernel
        exact this u hu
    obtain ⟨c, hc, q1, q2⟩ := a7 u hu
    have q2 : (σ (40 + u) 0 = 0 ∧ τ 1 (166 + 121 * u) = 0) ∨ (σ (40 + u) 0 = 1 ∧ 0 < c ∧ τ 1 (166 + 121 * u) = nI c ∧ _) := q2
    rcases q2 with ⟨b1, b2⟩ | ⟨b1, b2, b3, -⟩
    · rw [b1, b2, if_pos rfl, if_pos (by decide)]; exact Ok.mk key
    · rw [b1, b3, if_neg (by decide), if_neg (by rw [i_le, i_nI (by omega), ti_0]; omega)]; exact Ok.mk key
  · exact Ok.err h 1 (by decide)
end
section
/-! copies -/
theorem m_copy {o0 o1 : Nat} (ho : o0 ≠ o1) : ∀ (d i n : Nat) (τ : Sg), i + d = 408 → d < n → ∃ τ', f_X10_copyAll_2 n o0 o1 (nI i) τ = some ((), τ') ∧ (∀ k, k ≠ o1 → τ' k = τ k) ∧ (∀ j, i ≤ j → j < 408 → τ' o1 j = τ o0 j) ∧ (∀ j, j < i → τ' o1 j = τ o1 j) := by
  intro d
  induction d with
  | zero =>
    intro i n τ hi hn
    obtain ⟨n, rfl⟩ : ∃ m, n = m + 1 := ⟨n - 1, by omega⟩
    have ei : (nI i).toInt = (i : Int) := i_nI (by omega)
    refine ⟨τ, ?_, fun _ _ => rfl, fun j h1 h2 => absurd h2 (by omega), fun _ _ => rfl⟩
    simp only [f_X10_copyAll_2, f_X10_copyAll_2_b]
    rw [if_pos (by rw [i_le, ei]; show (408 : Int) ≤ _; omega)]
  | succ d ih =>
    intro i n τ hi hn
    obtain ⟨n, rfl⟩ : ∃ m, n = m + 1 := ⟨n - 1, by omega⟩
    have ei : (nI i).toInt = (i : Int) := i_nI (by omega)
    obtain ⟨τ', h1, h2, h3, h4⟩ := ih (i + 1) n (up τ o1 i (τ o0 i)) (by omega) (by omega)
    refine ⟨τ', ?_, fun k hk => by rw [h2 k hk, up_row hk], fun j a b => ?_, fun j a => ?_⟩
    · simp only [f_X10_copyAll_2, f_X10_copyAll_2_b]
      rw [if_neg (by rw [i_le, ei]; show ¬ (408 : Int) ≤ _; omega), ck_k ei (by omega), ck_k ei (by omega), tn_k ei, rd_k ei]
      simp only [lt_a, nI_1]
      exact h1
    · by_cases hj : j = i
      · subst hj; rw [h4 j (by omega), up_s]
      · rw [h3 j (by omega) b, up_row ho]
    · rw [h4 j (by omega), up_i (by omega)]
theorem m_copyAll {o0 o1 : Nat} (ho : o0 ≠ o1) (τ : Sg) : ∃ τ', f_X10_copyAll o0 o1 τ = some ((), τ') ∧ (∀ k, k ≠ o1 → τ' k = τ k) ∧ ∀ j, j < 408 → τ' o1 j = τ o0 j := by
  obtain ⟨τ', h1, h2, h3, h4⟩ := m_copy ho 408 0 fuN τ (by omega) (by have := fu_le; omega)
  exact ⟨τ', h1, h2, fun j hj => h3 j (by omega) hj⟩
theorem capC_le (k : Nat) : capC k ≤ 60 := by
  unfold capC; repeat' split
  all_goals omega
theorem x_add {o t : Nat} {v : Int32} {σ : Sg} (h : σ o 1 = nI t) (ht : t < capC (o + 18)) : f_X6_add o v σ = some ((), up (up σ (o + 18) t v) o 1 (nI (t + 1))) := by
  have hc := capC_le (o + 18)
  have et : (nI t).toInt = (t : Int) := i_nI (by omega)
  unfold f_X6_add
  rw [h, if_neg (by rw [i_le, et, i_ofNat (by omega)]; omega), ck_k et ht, tn_k et]
  simp only [lt_a]
  rw [up_k (by omega), h, nI_1]
theorem x_rcopy {o0 o1 : Nat} (h0 : 44 ≤ o0) (h00 : o0 < 62) (h1 : 44 ≤ o1) (h11 : o1 < 62) (ho : o0 ≠ o1) {t : Nat} (c0 : t ≤ capC (o0 + 18)) (c1 : t ≤ capC (o1 + 18)) : ∀ (d i n : Nat) (σ : Sg), i + d = t → d < n → σ o1 1 = nI t → σ o0 1 = nI i → ∃ σ', f_X6_copyFrom_6 n o0 o1 (nI i) σ = some ((), σ') ∧ (∀ k, k ≠ o0 → k ≠ o0 + 18 → σ' k = σ k) ∧ σ' o0 1 = nI t ∧ (∀ j, i ≤ j → j < t → σ' (o0 + 18) j = σ (o1 + 18) j) ∧ (∀ j, j < i → σ' (o0 + 18) j = σ (o0 + 18) j) := by
  intro d
  have hc := capC_le (o0 + 18)
  have et : (nI t).toInt = (t : Int) := i_nI (by omega)
  induction d with
  | zero =>
    intro i n σ hi hn e1 e0
    obtain ⟨n, rfl⟩ : ∃ m, n = m + 1 := ⟨n - 1, by omega⟩
    have ei : (nI i).toInt = (i : Int) := i_nI (by omega)
    refine ⟨σ, ?_, fun _ _ _ => rfl, ?_, fun j a b => absurd b (by omega), fun _ _ => rfl⟩
    · simp only [f_X6_copyFrom_6, f_X6_copyFrom_6_b]
      rw [e1, if_pos (by rw [i_le, ei, et]; omega)]
    · rw [e0, show i = t by omega]
  | succ d ih =>
    intro i n σ hi hn e1 e0
    obtain ⟨n, rfl⟩ : ∃ m, n = m + 1 := ⟨n - 1, by omega⟩
    have ei : (nI i).toInt = (i : Int) := i_nI (by omega)
    obtain ⟨σ', q1, q2, q3, q4, q5⟩ := ih (i + 1) n (up (up σ (o0 + 18) i (σ (o1 + 18) i)) o0 1 (nI (i + 1))) (by omega) (by omega) (by rw [up_k (by omega), up_k (by omega)]; exact e1) (by rw [up_s])
    refine ⟨σ', ?_, fun k a b => by rw [q2 k a b, up_row a, up_row b], q3, fun j a b => ?_, fun j a => ?_⟩
    · simp only [f_X6_copyFrom_6, f_X6_copyFrom_6_b]
      rw [e1, if_neg (by rw [i_le, ei, et]; omega), ck_k ei (by omega), rd_k ei, x_add e0 (by omega)]
      simp only [bnd_s, lt_a, nI_1]
      exact q1
    · by_cases hj : j = i
      · subst hj; rw [q5 j (by omega), up_k (by omega), up_s]
      · rw [q4 j (by omega) b, up_k (by omega), up_k (by omega)]
    · rw [q5 j (by omega), up_k (by omega), up_i (by omega)]
theorem x_rowcopy {o0 o1 : Nat} (h0 : 44 ≤ o0) (h00 : o0 < 62) (h1 : 44 ≤ o1) (h11 : o1 < 62) (ho : o0 ≠ o1) {t : Nat} (c0 : t ≤ capC (o0 + 18)) (c1 : t ≤ capC (o1 + 18)) (σ : Sg) (e1 : σ o1 1 = nI t) : ∃ σ', f_X6_copyFrom o0 o1 σ = some ((), σ') ∧ (∀ k, k ≠ o0 → k ≠ o0 + 18 → σ' k = σ k) ∧ σ' o0 1 = nI t ∧ (∀ j, j < t → σ' (o0 + 18) j = σ (o1 + 18) j) := by
  have hc := capC_le (o0 + 18)
  obtain ⟨σ', q1, q2, q3, q4, q5⟩ := x_rcopy h0 h00 h1 h11 ho c0 c1 t 0 fuN (up σ o0 1 0) (by omega) (by have := fu_le; omega) (by rw [up_k (by omega)]; exact e1) (by rw [up_s]; rfl)
  refine ⟨σ', ?_, fun k a b => by rw [q2 k a b, up_row a], q3, fun j hj => by rw [q4 j (by omega) hj, up_k (by omega)]⟩
  unfold f_X6_copyFrom f_X6_clear
  simp only [lt_a, bnd_s]
  exact q1
theorem x_lcopy {o0 o1 : Nat} (ho : o0 ≠ o1) (σ : Sg) (hg : σ o1 6 = 0 ∨ σ o1 6 = 1) : ∃ σ', f_X2_copyFrom o0 o1 σ = some ((), σ') ∧ (∀ k, k ≠ o0 → σ' k = σ k) ∧ ∀ f, f < 7 → σ' o0 f = σ o1 f := by
  have hg2 : isb (σ o1 6) = true := by simp only [isb, Bool.or_eq_true, decide_eq_true_eq]; exact hg
  unfold f_X2_copyFrom f_X2_begin
  simp only [lt_a, bnd_s]
  simp only [up_k (Ne.symm ho), up_s]
  rw [ckb_t hg2]
  refine ⟨_, rfl, fun k hk => by simp only [up_row hk], fun f hf => ?_⟩
  have : f = 0 ∨ f = 1 ∨ f = 2 ∨ f = 3 ∨ f = 4 ∨ f = 5 ∨ f = 6 := by omega
  rcases this with rfl | rfl | rfl | rfl | rfl | rfl | rfl <;> simp (disch := decide) only [up_s, up_i]
theorem x_bl {o0 o1 : Nat} (ho : (o0 = 1 ∧ o1 = 2) ∨ (o0 = 2 ∧ o1 = 1)) (m : Nat) : ∀ (d i : Nat) (σ : Sg), i + d = 10 → (∀ l, l < 10 → σ (10 + 10 * o1 + l) 6 = 0 ∨ σ (10 + 10 * o1 + l) 6 = 1) → ∃ σ', f_X0_copyFrom_10 (m + d + 1) o0 o1 (nI i) σ = f_X0_copyFrom_10 (m + 1) o0 o1 (nI 10) σ' ∧ (∀ k, (k < 10 + 10 * o0 ∨ 10 + 10 * o0 + 10 ≤ k) → σ' k = σ k) ∧ (∀ l, i ≤ l → l < 10 → ∀ f, f < 7 → σ' (10 + 10 * o0 + l) f = σ (10 + 10 * o1 + l) f) ∧ (∀ l, l < i → σ' (10 + 10 * o0 + l) = σ (10 + 10 * o0 + l)) := by
  intro d
  induction d with
  | zero =>
    intro i σ hi hg
    obtain rfl : i = 10 := by omega
    exact ⟨σ, rfl, fun _ _ => rfl, fun l a b => absurd b (by omega), fun _ _ => rfl⟩
  | succ d ih =>
    intro i σ hi hg
    have ei : (nI i).toInt = (i : Int) := i_nI (by omega)
    have a0 : 10 * (o0 + 13) - 120 + i = 10 + 10 * o0 + i := by omega
    have a1 : 10 * (o1 + 13) - 120 + i = 10 + 10 * o1 + i := by omega
    obtain ⟨σ1, r1, r2, r3⟩ := x_lcopy (o0 := 10 + 10 * o0 + i) (o1 := 10 + 10 * o1 + i) (by omega) σ (hg i (by omega))
    obtain ⟨σ', q1, q2, q3, q4⟩ := ih (i + 1) σ1 (by omega) (fun l hl => by rw [r2 _ (by omega)]; exact hg l hl)
    refine ⟨σ', ?_, fun k hk => by rw [q2 k hk, r2 k (by omega)], fun l a b f hf => ?_, fun l a => ?_⟩
    · rw [← q1, show m + (d + 1) + 1 = (m + d + 1) + 1 by omega]
      show f_X0_copyFrom_10_b (f_X0_copyFrom_10 (m + d + 1)) o0 o1 (nI i) σ = _
      unfold f_X0_copyFrom_10_b
      rw [if_neg (by rw [i_le, ei]; show ¬ (10 : Int) ≤ _; omega)]
      simp only [lt_a]
      rw [ck_k ei (by omega), ck_k ei (by omega), tn_k ei, a0, a1, r1]
      simp only [bnd_s, nI_1]
    · by_cases hl : l = i
      · subst hl; rw [q4 l (by omega)]; exact r3 f hf
      · rw [q3 l (by omega) b f hf, r2 _ (by omega)]
    · rw [q4 l (by omega), r2 _ (by omega)]
theorem x_wcopy {o0 o1 : Nat} (h0 : 40 ≤ o0) (h00 : o0 < 44) (h1 : 40 ≤ o1) (h11 : o1 < 44) (ho : o0 ≠ o1) {c : Nat} (hc : c ≤ 60) (σ : Sg) (e1 : σ (o1 + 8) 1 = nI c) (hb : σ o1 0 = 0 ∨ σ o1 0 = 1) : ∃ σ', f_X1_copyFrom o0 o1 σ = some ((), σ') ∧ (∀ k, k ≠ o0 → k ≠ o0 + 8 → k ≠ o0 + 26 → σ' k = σ k) ∧ σ' o0 0 = σ o1 0 ∧ σ' (o0 + 8) 1 = nI c ∧ (∀ j, j < c → σ' (o0 + 26) j = σ (o1 + 26) j) := by
  have k0 : capC (o0 + 8 + 18) = 60 := by
    have : o0 = 40 ∨ o0 = 41 ∨ o0 = 42 ∨ o0 = 43 := by omega
    rcases this with rfl | rfl | rfl | rfl <;> rfl
  have k1 : capC (o1 + 8 + 18) = 60 := by
    have : o1 = 40 ∨ o1 = 41 ∨ o1 = 42 ∨ o1 = 43 := by omega
    rcases this with rfl | rfl | rfl | rfl <;> rfl
  obtain ⟨σ1, q1, q2, q3, q4⟩ := x_rowcopy (o0 := o0 + 8) (o1 := o1 + 8) (by omega) (by omega) (by omega) (by omega) (by omega) (t := c) (by omega) (by omega) σ e1
  unfold f_X1_copyFrom
  rw [q1]
  simp only [bnd_s, lt_a]
  have hb2 : isb (σ1 o1 0) = true := by rw [q2 _ (by omega) (by omega)]; simp only [isb, Bool.or_eq_true, decide_eq_true_eq]; exact hb
  rw [ckb_t hb2]
  refine ⟨_, rfl, fun k a b d => by rw [up_row a, q2 k b (by omega)], ?_, ?_, fun j hj => ?_⟩
  · rw [up_s, q2 _ (by omega) (by omega)]
  · rw [up_k (by omega)]; exact q3
  · rw [up_k (by omega)]; exact q4 j hj

theorem x_laws {o0 o1 : Nat} (ho : (o0 = 1 ∧ o1 = 2) ∨ (o0 = 2 ∧ o1 = 1)) (σ : Sg) (hs : ∀ u, u < 2 → ∃ c : Nat, c ≤ 60 ∧ σ (46 + 2 * o1 + u) 1 = nI c ∧ (σ (38 + 2 * o1 + u) 0 = 0 ∨ σ (38 + 2 * o1 + u) 0 = 1)) : ∃ σ', f_X0_copyFrom_107 fuN o0 o1 (0 : Int32) σ = some ((), σ') ∧ (∀ k, ¬ (k = 38 + 2 * o0 ∨ k = 39 + 2 * o0 ∨ k = 46 + 2 * o0 ∨ k = 47 + 2 * o0 ∨ k = 64 + 2 * o0 ∨ k = 65 + 2 * o0) → σ' k = σ k) ∧ ∀ u, u < 2 → σ' (38 + 2 * o0 + u) 0 = σ (38 + 2 * o1 + u) 0 ∧ σ' (46 + 2 * o0 + u) 1 = σ (46 + 2 * o1 + u) 1 ∧ ∀ c : Nat, c ≤ 60 → σ (46 + 2 * o1 + u) 1 = nI c → ∀ j, j < c → σ' (64 + 2 * o0 + u) j = σ (64 + 2 * o1 + u) j := by
  obtain ⟨c0, hc0, s0, t0⟩ := hs 0 (by omega)
  obtain ⟨c1, hc1, s1, t1⟩ := hs 1 (by omega)
  obtain ⟨σ1, q1, q2, q3, q4, q5⟩ := x_wcopy (o0 := 38 + 2 * o0 + 0) (o1 := 38 + 2 * o1 + 0) (by omega) (by omega) (by omega) (by omega) (by omega) hc0 σ (by rw [← s0, show 38 + 2 * o1 + 0 + 8 = 46 + 2 * o1 + 0 by omega]) t0
  obtain ⟨σ2, r1, r2, r3, r4, r5⟩ := x_wcopy (o0 := 38 + 2 * o0 + 1) (o1 := 38 + 2 * o1 + 1) (by omega) (by omega) (by omega) (by omega) (by omega) hc1 σ1 (by rw [q2 _ (by omega) (by omega) (by omega), ← s1, show 38 + 2 * o1 + 1 + 8 = 46 + 2 * o1 + 1 by omega]) (by rw [q2 _ (by omega) (by omega) (by omega)]; exact t1)
  have e0 : (2 * (o0 + 17) + 4) + (0 : Int32).toNatClampNeg = 38 + 2 * o0 + 0 := by rw [tn_0]; omega
  have e0' : (2 * (o1 + 17) + 4) + (0 : Int32).toNatClampNeg = 38 + 2 * o1 + 0 := by rw [tn_0]; omega
  have e1 : (2 * (o0 + 17) + 4) + (1 : Int32).toNatClampNeg = 38 + 2 * o0 + 1 := by rw [tn_1]; omega
  have e1' : (2 * (o1 + 17) + 4) + (1 : Int32).toNatClampNeg = 38 + 2 * o1 + 1 := by rw [tn_1]; omega
  refine ⟨σ2, ?_, fun k hk => by rw [r2 k (by omega) (by omega) (by omega), q2 k (by omega) (by omega) (by omega)], fun u hu => ?_⟩
  · obtain ⟨m, hm⟩ : ∃ m, fuN = m + 3 := ⟨fuN - 3, by have := fu_le; omega⟩
    rw [hm]
    show f_X0_copyFrom_107_b (f_X0_copyFrom_107 (m + 2)) o0 o1 (0 : Int32) σ = _
    unfold f_X0_copyFrom_107_b
    rw [if_neg (by decide)]
    simp only [lt_a]
    rw [ckb_t (show inb (0 : Int32) 2 = true from rfl), ckb_t (show inb (0 : Int32) 2 = true from rfl), e0, e0', q1]
    simp only [bnd_s]
    show f_X0_copyFrom_107_b (f_X0_copyFrom_107 (m + 1)) o0 o1 (1 : Int32) σ1 = _
    unfold f_X0_copyFrom_107_b
    rw [if_neg (by decide)]
    simp only [lt_a]
    rw [ckb_t (show inb (1 : Int32) 2 = true from rfl), ckb_t (show inb (1 : Int32) 2 = true from rfl), e1, e1', r1]
    simp only [bnd_s]
    show f_X0_copyFrom_107_b (f_X0_copyFrom_107 m) o0 o1 (2 : Int32) σ2 = _
    unfold f_X0_copyFrom_107_b
    rw [if_pos (by decide)]
  · have hu2 : u = 0 ∨ u = 1 := by omega
    rcases hu2 with rfl | rfl
    · refine ⟨by rw [r2 _ (by omega) (by omega) (by omega)]; exact q3, ?_, fun c hc hcc j hj => ?_⟩
      · rw [r2 _ (by omega) (by omega) (by omega), s0, ← q4, show 38 + 2 * o0 + 0 + 8 = 46 + 2 * o0 + 0 by omega]
      · have : c = c0 := by
          have := hcc.symm.trans s0
          rw [i_eq, i_nI (by omega), i_nI (by omega)] at this; omega
        subst this
        rw [r2 _ (by omega) (by omega) (by omega)]
        have := q5 j hj
        rw [show 38 + 2 * o0 + 0 + 26 = 64 + 2 * o0 + 0 by omega, show 38 + 2 * o1 + 0 + 26 = 64 + 2 * o1 + 0 by omega] at this
        exact this
    · refine ⟨by rw [r3, q2 _ (by omega) (by omega) (by omega)], ?_, fun c hc hcc j hj => ?_⟩
      · rw [s1, ← r4, show 38 + 2 * o0 + 1 + 8 = 46 + 2 * o0 + 1 by omega]
      · have : c = c1 := by
          have := hcc.symm.trans s1
          rw [i_eq, i_nI (by omega), i_nI (by omega)] at this; omega
        subst this
        have := r5 j hj
        rw [show 38 + 2 * o0 + 1 + 26 = 64 + 2 * o0 + 1 by omega, show 38 + 2 * o1 + 1 + 26 = 64 + 2 * o1 + 1 by omega, q2 (64 + 2 * o1 + 1) (by omega) (by omega) (by omega)] at this
        exact this
theorem cpy5 {f g : Nat → Int32} {p : Nat} (hp : p < 5) : va_cpy f g (0 : Int32).toNatClampNeg (0 : Int32).toNatClampNeg (5 : Int32).toNatClampNeg p = f p := by
  unfold va_cpy
  rw [tn_0, tn_5, if_pos (by omega)]
  congr 1
  omega
theorem upR_s {σ : Sg} {k : Nat} {f : Nat → Int32} : upR σ k f k = f := by simp [upR]
theorem upR_n {σ : Sg} {k : Nat} {f : Nat → Int32} {j : Nat} (h : j ≠ k) : upR σ k f j = σ j := by simp [upR, h]
theorem ac5 : acOk (0 : Int32) (0 : Int32) (5 : Int32) 5 5 = true := by decide +kernel
theorem x_bexit {o0 o1 : Nat} (ho : o0 ≠ o1) (h15 : o1 ≠ o0 + 15) (h15' : o1 + 15 ≠ o0) (h0 : o0 + 15 ≠ o0) (m : Nat) (σ1 : Sg) : f_X0_copyFrom_10 (m + 1) o0 o1 (nI 10) σ1 = bnd (f_X6_copyFrom (o0 + 43) (o1 + 43) (up (upR (up (up (up σ1 o0 2 (σ1 o1 2)) o0 3 (σ1 o1 3)) o0 4 (σ1 o1 4)) (o0 + 15) (va_cpy (σ1 (o1 + 15)) (σ1 (o0 + 15)) (0 : Int32).toNatClampNeg (0 : Int32).toNatClampNeg (5 : Int32).toNatClampNeg)) o0 6 (σ1 o1 6))) (fun _ s11 => bnd (f_X6_copyFrom (o0 + 45) (o1 + 45) s11) (fun _ s13 => f_X0_copyFrom_107 fuN o0 o1 (0 : Int32) s13)) := by
  simp only [f_X0_copyFrom_10, f_X0_copyFrom_10_b]
  rw [if_pos (show (10 : Int32) ≤ nI 10 from by decide)]
  simp only [lt_a]
  rw [ckb_t ac5]
  have n1 : o1 ≠ o0 := Ne.symm ho
  simp only [up_k n1, upR_n h15, up_row n1, up_row h15', up_row h0]
/-- a board's copy -/
theorem x_bcopy {o0 o1 : Nat} (ho : (o0 = 1 ∧ o1 = 2) ∨ (o0 = 2 ∧ o1 = 1)) (σ : Sg) (hg : ∀ l, l < 10 → σ (10 + 10 * o1 + l) 6 = 0 ∨ σ (10 + 10 * o1 + l) 6 = 1) {tp wt : Nat} (ht : tp ≤ 60) (hw : wt ≤ 24) (e1 : σ (43 + o1) 1 = nI tp) (e2 : σ (45 + o1) 1 = nI wt) (hs : ∀ u, u < 2 → ∃ c : Nat, c ≤ 60 ∧ σ (46 + 2 * o1 + u) 1 = nI c ∧ (σ (38 + 2 * o1 + u) 0 = 0 ∨ σ (38 + 2 * o1 + u) 0 = 1)) : ∃ σ', f_X0_copyFrom o0 o1 σ = some ((), σ') ∧ (∀ k, (k ≠ o0 ∧ (k < 10 + 10 * o0 ∨ 10 + 10 * o0 + 10 ≤ k) ∧ k ≠ 15 + o0 ∧ k ≠ 43 + o0 ∧ k ≠ 61 + o0 ∧ k ≠ 45 + o0 ∧ k ≠ 63 + o0 ∧ ¬ (k = 38 + 2 * o0 ∨ k = 39 + 2 * o0 ∨ k = 46 + 2 * o0 ∨ k = 47 + 2 * o0 ∨ k = 64 + 2 * o0 ∨ k = 65 + 2 * o0)) → σ' k = σ k) ∧ (σ' o0 1 = σ o1 1 ∧ σ' o0 2 = σ o1 2 ∧ σ' o0 3 = σ o1 3 ∧ σ' o0 4 = σ o1 4 ∧ σ' o0 6 = σ o1 6) ∧ (∀ l, l < 10 → ∀ f, f < 7 → σ' (10 + 10 * o0 + l) f = σ (10 + 10 * o1 + l) f) ∧ (∀ p, p < 5 → σ' (15 + o0) p = σ (15 + o1) p) ∧ (σ' (43 + o0) 1 = nI tp ∧ ∀ j, j < tp → σ' (61 + o0) j = σ (61 + o1) j) ∧ (σ' (45 + o0) 1 = nI wt ∧ ∀ j, j < wt → σ' (63 + o0) j = σ (63 + o1) j) ∧ (∀ u, u < 2 → σ' (38 + 2 * o0 + u) 0 = σ (38 + 2 * o1 + u) 0 ∧ σ' (46 + 2 * o0 + u) 1 = σ (46 + 2 * o1 + u) 1 ∧ ∀ c : Nat, c ≤ 60 → σ (46 + 2 * o1 + u) 1 = nI c → ∀ j, j < c → σ' (64 + 2 * o0 + u) j = σ (64 + 2 * o1 + u) j) := by
  obtain ⟨m, hm⟩ : ∃ m, fuN = m + 10 + 1 := ⟨fuN - 11, by have := fu_le; omega⟩
  obtain ⟨σ1, a1, a2, a3, -⟩ := x_bl ho m 10 0 (up σ o0 1 (σ o1 1)) (by omega) (fun l hl => by rw [up_row (by omega)]; exact hg l hl)
  obtain ⟨σ2, hσ2⟩ : ∃ s, s = up (upR (up (up (up σ1 o0 2 (σ1 o1 2)) o0 3 (σ1 o1 3)) o0 4 (σ1 o1 4)) (o0 + 15) (va_cpy (σ1 (o1 + 15)) (σ1 (o0 + 15)) (0 : Int32).toNatClampNeg (0 : Int32).toNatClampNeg (5 : Int32).toNatClampNeg)) o0 6 (σ1 o1 6) := ⟨_, rfl⟩
  have k0 : capC (o0 + 43 + 18) = 60 := by rcases ho with ⟨rfl, rfl⟩ | ⟨rfl, rfl⟩ <;> rfl
  have k1 : capC (o1 + 43 + 18) = 60 := by rcases ho with ⟨rfl, rfl⟩ | ⟨rfl, rfl⟩ <;> rfl
  have k2 : capC (o0 + 45 + 18) = 24 := by rcases ho with ⟨rfl, rfl⟩ | ⟨rfl, rfl⟩ <;> rfl
  have k3 : capC (o1 + 45 + 18) = 24 := by rcases ho with ⟨rfl, rfl⟩ | ⟨rfl, rfl⟩ <;> rfl
  have f2 : ∀ k, k ≠ o0 → k ≠ o0 + 15 → σ2 k = σ1 k := by
    intro k b c
    rw [hσ2, up_row b, upR_n c, up_row b, up_row b, up_row b]
  have g1 : ∀ k, k ≠ o0 → (k < 10 + 10 * o0 ∨ 10 + 10 * o0 + 10 ≤ k) → σ1 k = σ k := by
    intro k b c
    rw [a2 k c, up_row b]
  obtain ⟨σ3, b1, b2, b3, b4⟩ := x_rowcopy (o0 := o0 + 43) (o1 := o1 + 43) (by omega) (by omega) (by omega) (by omega) (by omega) (t := tp) (by omega) (by omega) σ2 (by rw [f2 _ (by omega) (by omega), g1 _ (by omega) (by omega), ← e1, show o1 + 43 = 43 + o1 by omega])
  obtain ⟨σ4, c1, c2, c3, c4⟩ := x_rowcopy (o0 := o0 + 45) (o1 := o1 + 45) (by omega) (by omega) (by omega) (by omega) (by omega) (t := wt) (by omega) (by omega) σ3 (by rw [b2 _ (by omega) (by omega), f2 _ (by omega) (by omega), g1 _ (by omega) (by omega), ← e2, show o1 + 45 = 45 + o1 by omega])
  have old : ∀ k, k ≠ o0 → (k < 10 + 10 * o0 ∨ 10 + 10 * o0 + 10 ≤ k) → k ≠ o0 + 15 → k ≠ o0 + 43 → k ≠ o0 + 43 + 18 → k ≠ o0 + 45 → k ≠ o0 + 45 + 18 → σ4 k = σ k := by
    intro k b c d e f g i
    rw [c2 k g i, b2 k e f, f2 k b d, g1 k b c]
  obtain ⟨σ5, d1, d2, d3⟩ := x_laws ho σ4 (fun u hu => by
    obtain ⟨c, h1, h2, h3⟩ := hs u hu
    exact ⟨c, h1, by rw [old _ (by omega) (by omega) (by omega) (by omega) (by omega) (by omega) (by omega)]; exact h2, by rw [old _ (by omega) (by omega) (by omega) (by omega) (by omega) (by omega) (by omega)]; exact h3⟩)
  refine ⟨σ5, ?_, ?_, ?_, ?_, ?_, ?_, ?_, ?_⟩
  · unfold f_X0_copyFrom
    simp only [lt_a]
    have a1' : f_X0_copyFrom_10 fuN o0 o1 (0 : Int32) (up σ o0 1 (σ o1 1)) = f_X0_copyFrom_10 (m + 1) o0 o1 (nI 10) σ1 := by
      rw [hm, ← a1, nI_0]
    rw [a1', x_bexit (by omega) (by omega) (by omega) (by omega), ← hσ2, b1]
    simp only [bnd_s]
    rw [c1]
    simp only [bnd_s]
    exact d1
  · rintro k ⟨h1, h2, h3, h4, h5, h6, h7, h8⟩
    rw [d2 k h8, old k h1 h2 (by omega) (by omega) (by omega) (by omega) (by omega)]
  · have w : σ5 o0 = σ2 o0 := by rw [d2 _ (by omega), c2 _ (by omega) (by omega), b2 _ (by omega) (by omega)]
    have v : σ1 o1 = σ o1 := g1 o1 (by omega) (by omega)
    rw [w, hσ2]
    refine ⟨?_, ?_, ?_, ?_, ?_⟩
    · rw [up_i (by decide), upR_n (by omega), up_i (by decide), up_i (by decide), up_i (by decide), a2 _ (by omega), up_s]
    · rw [up_i (by decide), upR_n (by omega), up_i (by decide), up_i (by decide), up_s, v]
    · rw [up_i (by decide), upR_n (by omega), up_i (by decide), up_s, v]
    · rw [up_i (by decide), upR_n (by omega), up_s, v]
    · rw [up_s, v]
  · intro l hl f hf
    rw [d2 _ (by omega), c2 _ (by omega) (by omega), b2 _ (by omega) (by omega), f2 _ (by omega) (by omega), a3 l (by omega) hl f hf, up_row (by omega)]
  · intro p hp
    rw [d2 _ (by omega), c2 _ (by omega) (by omega), b2 _ (by omega) (by omega), hσ2, up_row (by omega), show 15 + o0 = o0 + 15 by omega, upR_s, cpy5 hp, g1 _ (by omega) (by omega), show o1 + 15 = 15 + o1 by omega]
  · refine ⟨?_, fun j hj => ?_⟩
    · rw [d2 _ (by omega), c2 _ (by omega) (by omega), ← b3, show o0 + 43 = 43 + o0 by omega]
    · have := b4 j hj
      rw [f2 _ (by omega) (by omega), g1 _ (by omega) (by omega), show o0 + 43 + 18 = 61 + o0 by omega, show o1 + 43 + 18 = 61 + o1 by omega] at this
      rw [d2 _ (by omega), c2 _ (by omega) (by omega)]
      exact this
  · refine ⟨?_, fun j hj => ?_⟩
    · rw [d2 _ (by omega), ← c3, show o0 + 45 = 45 + o0 by omega]
    · have := c4 j hj
      rw [b2 _ (by omega) (by omega), f2 _ (by omega) (by omega), g1 _ (by omega) (by omega), show o0 + 45 + 18 = 63 + o0 by omega, show o1 + 45 + 18 = 63 + o1 by omega] at this
      rw [d2 _ (by omega)]
      exact this
  · intro u hu
    obtain ⟨q1, q2, q3⟩ := d3 u hu
    have e1 := old (38 + 2 * o1 + u) (by omega) (by omega) (by omega) (by omega) (by omega) (by omega) (by omega)
    have e2 := old (46 + 2 * o1 + u) (by omega) (by omega) (by omega) (by omega) (by omega) (by omega) (by omega)
    have e3 := old (64 + 2 * o1 + u) (by omega) (by omega) (by omega) (by omega) (by omega) (by omega) (by omega)
    rw [e1] at q1
    rw [e2] at q2 q3
    rw [e3] at q3
    exact ⟨q1, q2, q3⟩
end
section
theorem LnOK_congr {f g : Nat → Int32} {d : Int32} (h : LnOK f d) (e : ∀ i, i < 7 → g i = f i) : LnOK g d := by
  unfold LnOK at h ⊢
  rw [e 0 (by decide), e 1 (by decide), e 2 (by decide), e 3 (by decide), e 4 (by decide), e 5 (by decide)]
  exact h
/-- a board's data elsewhere -/
theorem BdR_copy {g g' : Nat → Int32} {ln ln' : Nat → Nat → Int32} {ink ink' : Nat → Int32} {tn tn' : Int32} {tp tp' : Nat → Int32} {wn wn' : Int32} {wt wt' : Nat → Int32} {th cn th' cn' : Nat → Int32} {cs cs' : Nat → Nat → Int32} {r r' : Nat → Int32} (h : BdR g ln ink tn tp wn wt th cn cs r) (hg : g' 1 = g 1 ∧ g' 2 = g 2 ∧ g' 3 = g 3 ∧ g' 4 = g 4 ∧ g' 6 = g 6) (hl : ∀ l, l < 10 → ∀ f, f < 7 → ln' l f = ln l f) (hi : ∀ p, p < 5 → ink' p = ink p) (ht : ∀ t : Nat, t ≤ 60 → tn = nI t → tn' = nI t ∧ ∀ j, j < t → tp' j = tp j) (hw : ∀ t : Nat, t ≤ 24 → wn = nI t → wn' = nI t ∧ ∀ j, j < t → wt' j = wt j) (hc : ∀ u, u < 2 → th' u = th u ∧ cn' u = cn u ∧ ∀ c : Nat, c ≤ 60 → cn u = nI c → ∀ j, j < c → cs' u j = cs u j) (hr : ∀ j, j < 408 → r' j = r j) : BdR g' ln' ink' tn' tp' wn' wt' th' cn' cs' r' := by
  obtain ⟨a1, a2, ⟨n, hn, e1, e2, a3⟩, a4, ⟨t, b1, b2, b3, b4⟩, ⟨v, d1, d2, d3, d4⟩, a7⟩ := h
  obtain ⟨g1, g2, g3, g4, g6⟩ := hg
  obtain ⟨t1, t2⟩ := ht t b1 b2
  obtain ⟨w1, w2⟩ := hw v d1 d2
  refine ⟨?_, ?_, ⟨n, hn, by rw [g1]; exact e1, by rw [hr 2 (by decide)]; exact e2, ?_⟩, ?_, ⟨t, b1, t1, by rw [hr 5 (by decide)]; exact b3, fun j hj => ?_⟩, ⟨v, d1, w1, by rw [hr 6 (by decide)]; exact d3, fun j hj => ?_⟩, fun u hu => ?_⟩
  · unfold Hd at a1 ⊢
    rw [g2, g3, g4, g6, hr 0 (by decide), hr 3 (by decide), hr 4 (by decide), hr 1 (by decide)]
    exact a1
  · intro p hp; rw [hr _ (by omega), hi p hp]; exact a2 p hp
  · intro l hl2
    refine ⟨?_, fun f hf => ?_⟩
    · rw [g2]; exact LnOK_congr (a3 l hl2).1 (fun i hi => hl l (by omega) i hi)
    · rw [hr _ (by omega), hl l (by omega) f hf]; exact (a3 l hl2).2 f hf
  · intro l hl2; rw [hl l hl2 6 (by decide)]; exact a4 l hl2
  · show r' (82 + j) = _; rw [hr _ (by omega), t2 j hj]; exact b4 j hj
  · show r' (142 + j) = _; rw [hr _ (by omega), w2 j hj]; exact d4 j hj
  · obtain ⟨c, c1, c2, c3⟩ := a7 u hu
    obtain ⟨k1, k2, k3⟩ := hc u hu
    refine ⟨c, c1, k2.trans c2, ?_⟩
    rw [k1]
    rcases c3 with ⟨q1, q2⟩ | ⟨q1, q2, q3, q4⟩
    · left; exact ⟨q1, by show r' _ = 0; rw [hr _ (by omega)]; exact q2⟩
    · right
      refine ⟨q1, q2, by show r' _ = _; rw [hr _ (by omega)]; exact q3, Cod_congr q4 (fun j hj => k3 c c1 c2 j hj) (fun j hj => hr _ (by omega)) (fun j hj => hr _ (by omega))⟩
theorem m_same_n {a b : Nat} (ha : a < 2147483648) (hb : b < 2147483648) (h : nI a = nI b) : a = b := by
  rw [i_eq, i_nI ha, i_nI hb] at h; omega
theorem eq_image {σ τ : Sg} (h : Sim σ τ) : Ok (f_X9_image σ) (f_X10_image τ) := by
  obtain ⟨h1, h2, h3, h4, h5, h6⟩ := id h
  obtain ⟨a1, a2, ⟨n, hn, e1, e2, a3⟩, a4, ⟨t, b1, b2, b3, b4⟩, ⟨v, d1, d2, d3, d4⟩, a7⟩ := id h1
  obtain ⟨σ', q1, q2, q3, q4, q5, q6, q7, q8⟩ := x_bcopy (o0 := 2) (o1 := 1) (Or.inr ⟨rfl, rfl⟩) σ (fun l hl => a4 l hl) b1 d1 b2 d2 (fun u hu => by
    obtain ⟨c, c1, c2, c3⟩ := a7 u hu
    refine ⟨c, c1, c2, ?_⟩
    rcases c3 with c3 | c3
    · exact Or.inl c3.1
    · exact Or.inr c3.1)
  obtain ⟨τ', m1, m2, m3⟩ := m_copyAll (o0 := 1) (o1 := 2) (by decide) τ
  unfold f_X9_image f_X10_image
  rw [q1, m1]
  simp only [bnd_s, lt_a, up_s]
  rw [q2 0 (by omega), m2 0 (by decide), h2]
  refine Ok.mk ⟨?_, ?_, fun _ => ?_, fun k a b => ?_, fun u hu => ?_, ?_⟩
  · refine Bd1.of (ln := fun l => σ (20 + l)) (th := fun u => σ (40 + u) 0) (cn := fun u => σ (48 + u) 1) (cs := fun u => σ (66 + u)) ?_ (fun l hl => by rw [up_row (by omega), q2 _ (by omega)]) (fun u hu => by rw [up_row (by omega), q2 _ (by omega)]) (fun u hu => by rw [up_row (by omega), q2 _ (by omega)]) (fun u hu => by rw [up_row (by omega), q2 _ (by omega)])
    simp (disch := omega) only [up_row]
    rw [q2 1 (by omega), q2 16 (by omega), q2 44 (by omega), q2 62 (by omega), q2 46 (by omega), q2 64 (by omega), m2 1 (by decide)]
    exact h1
  · rw [up_s, up_s]
  · unfold Bd2
    simp (disch := omega) only [up_row]
    refine BdR_copy h1 q3 (fun l hl f hf => ?_) q5 (fun t' ht' e => ?_) (fun t' ht' e => ?_) (fun u hu => ?_) m3
    · exact q4 l hl f hf
    · obtain rfl : t' = t := m_same_n (by omega) (by omega) (e.symm.trans b2)
      exact q6
    · obtain rfl : t' = v := m_same_n (by omega) (by omega) (e.symm.trans d2)
      exact q7
    · exact q8 u hu
  · rw [up_row (by decide), up_row (by decide), q2 8 (by omega), m2 4 (by decide)]; exact h4 k a b
  · rw [up_row (by omega), up_row (by omega), up_row (by omega), up_row (by omega), up_row (by omega), up_row (by omega), q2 _ (by omega), q2 _ (by omega), q2 _ (by omega), m2 5 (by decide), m2 6 (by decide), m2 7 (by decide)]
    exact h5 u hu
  · unfold Tr
    rw [up_row (by decide), up_row (by decide), up_i (by decide), up_row (by decide), q2 57 (by omega), q2 75 (by omega), m2 0 (by decide), m2 13 (by decide)]
    exact h6
theorem eq_restore {σ τ : Sg} (h : Sim σ τ) : Ok (f_X9_restore σ) (f_X10_restore τ) := by
  obtain ⟨h1, h2, h3, h4, h5, h6⟩ := id h
  unfold f_X9_restore f_X10_restore
  simp only [x_err2, m_err2, bnd_s]
  rw [h2]
  by_cases hz : τ 0 3 = 0
  · rw [if_pos hz, if_pos hz]
    exact Ok.err h 2 (by decide)
  rw [if_neg hz, if_neg hz]
  have h3 := h3 (by rw [h2]; exact hz)
  obtain ⟨a1, a2, ⟨n, hn, e1, e2, a3⟩, a4, ⟨t, b1, b2, b3, b4⟩, ⟨v, d1, d2, d3, d4⟩, a7⟩ := id h3
  obtain ⟨σ', q1, q2, q3, q4, q5, q6, q7, q8⟩ := x_bcopy (o0 := 1) (o1 := 2) (Or.inl ⟨rfl, rfl⟩) σ (fun l hl => a4 l hl) b1 d1 b2 d2 (fun u hu => by
    obtain ⟨c, c1, c2, c3⟩ := a7 u hu
    refine ⟨c, c1, c2, ?_⟩
    rcases c3 with c3 | c3
    · exact Or.inl c3.1
    · exact Or.inr c3.1)
  obtain ⟨τ', m1, m2, m3⟩ := m_copyAll (o0 := 2) (o1 := 1) (by decide) τ
  rw [q1, m1]
  simp only [bnd_s, bnd_s, lt_a, if01, ckb_01, rd_0, rd_1, rd_2, rd_3, rd_4, rd_5, rd_6, rd_7, rd_8, rd_9, rd_10, rd_11, rd_12, rd_13, rd_14, rd_15, ck_0, ck_1, ck_2, ck_3, ck_4, ck_5, ck_6, ck_7, ck_8, ck_9, ck_10, ck_11, ck_12, ck_13, ck_14, ck_15, tn_0, tn_1, tn_2, tn_3, tn_4, tn_5, tn_6, tn_7, tn_8, tn_9, tn_10, tn_11, tn_12, tn_13, tn_14, tn_15]
  have hb : Bd1 σ' τ' := by
    unfold Bd1
    refine BdR_copy h3 q3 (fun l hl f hf => q4 l hl f hf) q5 (fun t' ht' e => ?_) (fun t' ht' e => ?_) (fun u hu => q8 u hu) m3
    · obtain rfl : t' = t := m_same_n (by omega) (by omega) (e.symm.trans b2)
      exact q6
    · obtain rfl : t' = v := m_same_n (by omega) (by omega) (e.symm.trans d2)
      exact q7
  rw [hb.1.1]
  refine Ok.mk ⟨hb, by rw [q2 0 (by omega), m2 0 (by decide)]; exact h2, fun _ => ?_, fun k a b => ?_, fun u hu => ?_, ?_⟩
  · unfold Bd2
    rw [q2 2 (by omega), q2 17 (by omega), q2 45 (by omega), q2 63 (by omega), q2 47 (by omega), q2 65 (by omega), m2 2 (by decide)]
    exact BdR_congr h3 (fun l hl => q2 _ (by omega)) (fun u hu => by rw [q2 _ (by omega)]) (fun u hu => by rw [q2 _ (by omega)]) (fun u hu => by rw [q2 _ (by omega)])
  · rw [q2 8 (by omega), m2 4 (by decide)]; exact h4 k a b
  · rw [q2 _ (by omega), q2 _ (by omega), q2 _ (by omega), m2 5 (by decide), m2 6 (by decide), m2 7 (by decide)]
    exact h5 u hu
  · unfold Tr
    rw [q2 57 (by omega), q2 75 (by omega), m2 0 (by decide), m2 13 (by decide)]
    exact h6
end
section
theorem Bd1_fr {σ σ' τ τ' : Sg} (h : Bd1 σ τ) (e : ∀ k, (k = 1 ∨ k = 16 ∨ (20 ≤ k ∧ k < 30) ∨ k = 40 ∨ k = 41 ∨ k = 44 ∨ k = 46 ∨ k = 48 ∨ k = 49 ∨ k = 62 ∨ k = 64 ∨ k = 66 ∨ k = 67) → σ' k = σ k) (em : τ' 1 = τ 1) : Bd1 σ' τ' := by
  refine Bd1.of (ln := fun l => σ (20 + l)) (th := fun u => σ (40 + u) 0) (cn := fun u => σ (48 + u) 1) (cs := fun u => σ (66 + u)) ?_ (fun l hl => e _ (by omega)) (fun u hu => by rw [e _ (by omega)]) (fun u hu => by rw [e _ (by omega)]) (fun u hu => e _ (by omega))
  rw [e 1 (by omega), e 16 (by omega), e 44 (by omega), e 62 (by omega), e 46 (by omega), e 64 (by omega), em]
  exact h
theorem Bd2_fr {σ σ' τ τ' : Sg} (h : Bd2 σ τ) (e : ∀ k, (k = 2 ∨ k = 17 ∨ (30 ≤ k ∧ k < 40) ∨ k = 42 ∨ k = 43 ∨ k = 45 ∨ k = 47 ∨ k = 50 ∨ k = 51 ∨ k = 63 ∨ k = 65 ∨ k = 68 ∨ k = 69) → σ' k = σ k) (em : τ' 2 = τ 2) : Bd2 σ' τ' := by
  unfold Bd2
  rw [e 2 (by omega), e 17 (by omega), e 45 (by omega), e 63 (by omega), e 47 (by omega), e 65 (by omega), em]
  exact BdR_congr h (fun l hl => e _ (by omega)) (fun u hu => by rw [e _ (by omega)]) (fun u hu => by rw [e _ (by omega)]) (fun u hu => e _ (by omega))
theorem Sim.sheet {σ τ σ' τ' : Sg} (h : Sim σ τ) {u : Nat} (hu : u < 4) (ex : ∀ k, k ≠ 10 + u → k ≠ 58 + u → k ≠ 76 + u → σ' k = σ k) (em : ∀ k, k ≠ 5 → k ≠ 6 → k ≠ 7 → τ' k = τ k) (new : τ' 5 u = σ' (10 + u) 1 ∧ (σ' (10 + u) 1 = 0 ∨ σ' (10 + u) 1 = 8 ∨ σ' (10 + u) 1 = 16 ∨ σ' (10 + u) 1 = 32) ∧ Sq 24 (σ' (58 + u) 1) (σ' (76 + u)) (τ' 6 u) (fun j => τ' 7 (24 * u + j))) (ot : ∀ v, v < 4 → v ≠ u → τ' 5 v = τ 5 v ∧ τ' 6 v = τ 6 v ∧ ∀ j, j < 24 → τ' 7 (24 * v + j) = τ 7 (24 * v + j)) : Sim σ' τ' := by
  obtain ⟨h1, h2, h3, h4, h5, h6⟩ := h
  refine ⟨Bd1_fr h1 (fun k hk => ex k (by omega) (by omega) (by omega)) (em 1 (by decide) (by decide) (by decide)), ?_, fun hz => Bd2_fr (h3 ?_) (fun k hk => ex k (by omega) (by omega) (by omega)) (em 2 (by decide) (by decide) (by decide)), fun k a b => ?_, fun v hv => ?_, ?_⟩
  · rw [ex 0 (by omega) (by omega) (by omega), em 0 (by decide) (by decide) (by decide)]; exact h2
  · rw [ex 0 (by omega) (by omega) (by omega)] at hz; exact hz
  · rw [ex 8 (by omega) (by omega) (by omega), em 4 (by decide) (by decide) (by decide)]; exact h4 k a b
  · by_cases hvu : v = u
    · subst hvu; exact new
    · obtain ⟨o1, o2, o3⟩ := ot v hv hvu
      obtain ⟨q1, q2, t, q3, q4, q5, q6⟩ := h5 v hv
      rw [ex (10 + v) (by omega) (by omega) (by omega), ex (58 + v) (by omega) (by omega) (by omega), ex (76 + v) (by omega) (by omega) (by omega), o1, o2]
      exact ⟨q1, q2, t, q3, q4, q5, fun j hj => by show τ' 7 _ = _; rw [o3 j (by omega)]; exact q6 j hj⟩
  · unfold Tr
    rw [ex 57 (by omega) (by omega) (by omega), ex 75 (by omega) (by omega) (by omega), em 0 (by decide) (by decide) (by decide), em 13 (by decide) (by decide) (by decide)]
    exact h6
theorem i_sq {u i : Nat} (hu : u < 4) (hi : i ≤ 24) : (((24 : Int32) * nI u) + nI i).toInt = ((24 * u + i : Nat) : Int) := by
  have eu : (nI u).toInt = (u : Int) := i_nI (by omega)
  have ei : (nI i).toInt = (i : Int) := i_nI (by omega)
  have e24 : (24 : Int32).toInt = 24 := rfl
  have h1 : ((24 : Int32) * nI u).toInt = 24 * (u : Int) := by rw [i_mul (by rw [eu, e24]; omega) (by rw [eu, e24]; omega), eu, e24]
  rw [i_add (by rw [h1, ei]; omega) (by rw [h1, ei]; omega), h1, ei]; omega
theorem cap_sh {u : Nat} (hu : u < 4) : capC (((10 + u) + 48) + 18) = 24 := by
  have : u = 0 ∨ u = 1 ∨ u = 2 ∨ u = 3 := by omega
  rcases this with rfl | rfl | rfl | rfl <;> rfl
theorem x_isMissing (o : Nat) (σ : Sg) : f_X7_isMissing o σ = some (if σ o 1 = 0 then 1 else 0, σ) := by
  unfold f_X7_isMissing; split <;> rfl
theorem m_isSheet (a : Int32) (τ : Sg) : f_X10_isSheet a τ = some (if 0 ≤ a ∧ a ≤ 3 then 1 else 0, τ) := by
  unfold f_X10_isSheet; simp only [m_in, bnd_s, lt_a, if01, ckb_01, rd_0, rd_1, rd_2, rd_3, rd_4, rd_5, rd_6, rd_7, rd_8, rd_9, rd_10, rd_11, rd_12, rd_13, rd_14, rd_15, ck_0, ck_1, ck_2, ck_3, ck_4, ck_5, ck_6, ck_7, ck_8, ck_9, ck_10, ck_11, ck_12, ck_13, ck_14, ck_15, tn_0, tn_1, tn_2, tn_3, tn_4, tn_5, tn_6, tn_7, tn_8, tn_9, tn_10, tn_11, tn_12, tn_13, tn_14, tn_15]
theorem m_notThere_b {a : Int32} (h : ¬ (0 ≤ a ∧ a ≤ 3)) (τ : Sg) : f_X10_notThere a τ = some ((-1000000001 : Int32), τ) := by
  unfold f_X10_notThere
  simp only [m_isSheet, bnd_s, lt_a, if01, ckb_01, rd_0, rd_1, rd_2, rd_3, rd_4, rd_5, rd_6, rd_7, rd_8, rd_9, rd_10, rd_11, rd_12, rd_13, rd_14, rd_15, ck_0, ck_1, ck_2, ck_3, ck_4, ck_5, ck_6, ck_7, ck_8, ck_9, ck_10, ck_11, ck_12, ck_13, ck_14, ck_15, tn_0, tn_1, tn_2, tn_3, tn_4, tn_5, tn_6, tn_7, tn_8, tn_9, tn_10, tn_11, tn_12, tn_13, tn_14, tn_15]
  rw [if_neg h]
theorem m_notThere_t {u : Nat} (hu : u < 4) (τ : Sg) : f_X10_notThere (nI u) τ = some (if τ 5 u = 0 then (-1000000002 : Int32) else 0, τ) := by
  have eu : (nI u).toInt = (u : Int) := i_nI (by omega)
  unfold f_X10_notThere
  simp only [m_isSheet, bnd_s, lt_a, if01, ckb_01, rd_0, rd_1, rd_2, rd_3, rd_4, rd_5, rd_6, rd_7, rd_8, rd_9, rd_10, rd_11, rd_12, rd_13, rd_14, rd_15, ck_0, ck_1, ck_2, ck_3, ck_4, ck_5, ck_6, ck_7, ck_8, ck_9, ck_10, ck_11, ck_12, ck_13, ck_14, ck_15, tn_0, tn_1, tn_2, tn_3, tn_4, tn_5, tn_6, tn_7, tn_8, tn_9, tn_10, tn_11, tn_12, tn_13, tn_14, tn_15]
  rw [if_pos (by simp only [i_le, eu, ti_0, ti_1, ti_2, ti_3, ti_4, ti_5, ti_6, ti_7, ti_8, ti_9, ti_10, ti_11, ti_12, ti_13, ti_14, ti_15]; omega), ck_k eu hu, rd_k eu]
  split <;> rfl
theorem sh_arg {a : Int32} (h : 0 ≤ a ∧ a ≤ 3) : ∃ u : Nat, u < 4 ∧ a = nI u := by
  simp only [i_le, ti_0, ti_1, ti_2, ti_3, ti_4, ti_5, ti_6, ti_7, ti_8, ti_9, ti_10, ti_11, ti_12, ti_13, ti_14, ti_15] at h
  exact nI_ofi (n := 4) h.1 (by omega)
theorem eq_put {σ τ : Sg} (h : Sim σ τ) (a b c : Int32) : Ok (f_X9_put a b c σ) (f_X10_put a b c τ) := by
  unfold f_X9_put f_X10_put
  simp only [x_isIn, x_isMissing, x_err1, x_err2, bnd_s, lt_a, if01, ckb_01, rd_0, rd_1, rd_2, rd_3, rd_4, rd_5, rd_6, rd_7, rd_8, rd_9, rd_10, rd_11, rd_12, rd_13, rd_14, rd_15, ck_0, ck_1, ck_2, ck_3, ck_4, ck_5, ck_6, ck_7, ck_8, ck_9, ck_10, ck_11, ck_12, ck_13, ck_14, ck_15, tn_0, tn_1, tn_2, tn_3, tn_4, tn_5, tn_6, tn_7, tn_8, tn_9, tn_10, tn_11, tn_12, tn_13, tn_14, tn_15]
  by_cases ha : 0 ≤ a ∧ a ≤ 3
  · rw [if_pos ha]
    obtain ⟨u, hu, rfl⟩ := sh_arg ha
    have eu : (nI u).toInt = (u : Int) := i_nI (by omega)
    obtain ⟨s1, s2, t, s3, s4, s5, s6⟩ := h.2.2.2.2.1 u hu
    rw [m_notThere_t hu, ck_k eu hu, tn_k eu, s1]
    simp only [bnd_s, lt_a, if01, ckb_01, rd_0, rd_1, rd_2, rd_3, rd_4, rd_5, rd_6, rd_7, rd_8, rd_9, rd_10, rd_11, rd_12, rd_13, rd_14, rd_15, ck_0, ck_1, ck_2, ck_3, ck_4, ck_5, ck_6, ck_7, ck_8, ck_9, ck_10, ck_11, ck_12, ck_13, ck_14, ck_15, tn_0, tn_1, tn_2, tn_3, tn_4, tn_5, tn_6, tn_7, tn_8, tn_9, tn_10, tn_11, tn_12, tn_13, tn_14, tn_15]
    by_cases hz : σ (10 + u) 1 = 0
    · rw [if_pos hz, if_pos hz, if_neg (by decide)]
      simp only [f_X10_put_35, m_err2, bnd_s, lt_a, if01, ckb_01, rd_0, rd_1, rd_2, rd_3, rd_4, rd_5, rd_6, rd_7, rd_8, rd_9, rd_10, rd_11, rd_12, rd_13, rd_14, rd_15, ck_0, ck_1, ck_2, ck_3, ck_4, ck_5, ck_6, ck_7, ck_8, ck_9, ck_10, ck_11, ck_12, ck_13, ck_14, ck_15, tn_0, tn_1, tn_2, tn_3, tn_4, tn_5, tn_6, tn_7, tn_8, tn_9, tn_10, tn_11, tn_12, tn_13, tn_14, tn_15]
      rw [if_neg (by decide)]
      exact Ok.err h 2 (by decide)
    · rw [if_neg hz, if_neg hz, if_pos rfl]
      simp only [ck_k eu hu, tn_k eu, rd_k eu, m_in, bnd_s, lt_a, if01, ckb_01, rd_0, rd_1, rd_2, rd_3, rd_4, rd_5, rd_6, rd_7, rd_8, rd_9, rd_10, rd_11, rd_12, rd_13, rd_14, rd_15, ck_0, ck_1, ck_2, ck_3, ck_4, ck_5, ck_6, ck_7, ck_8, ck_9, ck_10, ck_11, ck_12, ck_13, ck_14, ck_15, tn_0, tn_1, tn_2, tn_3, tn_4, tn_5, tn_6, tn_7, tn_8, tn_9, tn_10, tn_11, tn_12, tn_13, tn_14, tn_15]
      rw [s5, show 10 + u + 48 = 58 + u by omega, s4]
      by_cases hb : 0 ≤ b ∧ b ≤ nI t - 1
      · rw [if_pos hb, if_pos hb]
        have et : (nI t).toInt = (t : Int) := i_nI (by omega)
        have e3 : (nI t - (1 : Int32)).toInt = (t : Int) - 1 := by rw [i_sub (by rw [et, ti_1]; omega) (by rw [et, ti_1]; omega), et, ti_1]
        simp only [i_le, ti_0, ti_1, ti_2, ti_3, ti_4, ti_5, ti_6, ti_7, ti_8, ti_9, ti_10, ti_11, ti_12, ti_13, ti_14, ti_15, e3] at hb
        obtain ⟨i, hi, rfl⟩ := nI_ofi (a := b) (n := t) (by omega) (by omega)
        have ei : (nI i).toInt = (i : Int) := i_nI (by omega)
        have e24 := i_sq hu (show i ≤ 24 by omega)
        have fin : ∀ z : Int32, Sim (up σ (58 + u + 18) i z) (up τ 7 (24 * u + i) z) := by
          intro z
          refine h.sheet hu (fun k h1 h2 h3 => up_row (by omega)) (fun k h1 h2 h3 => up_row h3) ?_ (fun v hv hvu => ?_)
          · have n1 : up τ 7 (24 * u + i) z 5 = τ 5 := up_row (by decide)
            have n2 : up τ 7 (24 * u + i) z 6 = τ 6 := up_row (by decide)
            have n3 : up σ (58 + u + 18) i z (10 + u) = σ (10 + u) := up_row (by omega)
            have n4 : up σ (58 + u + 18) i z (58 + u) = σ (58 + u) := up_row (by omega)
            rw [n1, n2, n3, n4]
            refine ⟨s1, s2, t, s3, s4, s5, fun j hj => ?_⟩
            show up τ 7 (24 * u + i) z 7 (24 * u + j) = _
            rw [show 76 + u = 58 + u + 18 by omega]
            by_cases hji : j = i
            · subst hji; rw [up_s, up_s]
            · rw [up_i (by omega), up_i hji, show 58 + u + 18 = 76 + u by omega]; exact s6 j hj
          · exact ⟨congrFun (up_row (by decide)) v, congrFun (up_row (by decide)) v, fun j hj => up_i (by omega)⟩
        have hc : capC (58 + u + 18) = 24 := by rw [← cap_sh hu]; congr 1; omega
        simp only [f_X10_put_35, f_X7_lowestBits, bnd_s, lt_a, if01, ckb_01, rd_0, rd_1, rd_2, rd_3, rd_4, rd_5, rd_6, rd_7, rd_8, rd_9, rd_10, rd_11, rd_12, rd_13, rd_14, rd_15, ck_0, ck_1, ck_2, ck_3, ck_4, ck_5, ck_6, ck_7, ck_8, ck_9, ck_10, ck_11, ck_12, ck_13, ck_14, ck_15, tn_0, tn_1, tn_2, tn_3, tn_4, tn_5, tn_6, tn_7, tn_8, tn_9, tn_10, tn_11, tn_12, tn_13, tn_14, tn_15]
        rw [if_pos trivial]
        simp only [ck_k eu hu, rd_k eu, s1, bnd_s, lt_a, if01, ckb_01, rd_0, rd_1, rd_2, rd_3, rd_4, rd_5, rd_6, rd_7, rd_8, rd_9, rd_10, rd_11, rd_12, rd_13, rd_14, rd_15, ck_0, ck_1, ck_2, ck_3, ck_4, ck_5, ck_6, ck_7, ck_8, ck_9, ck_10, ck_11, ck_12, ck_13, ck_14, ck_15, tn_0, tn_1, tn_2, tn_3, tn_4, tn_5, tn_6, tn_7, tn_8, tn_9, tn_10, tn_11, tn_12, tn_13, tn_14, tn_15]
        simp only [ck_k e24 (show 24 * u + i < 96 by omega), tn_k e24, tn_k ei, bnd_s, lt_a, if01, ckb_01, rd_0, rd_1, rd_2, rd_3, rd_4, rd_5, rd_6, rd_7, rd_8, rd_9, rd_10, rd_11, rd_12, rd_13, rd_14, rd_15, ck_0, ck_1, ck_2, ck_3, ck_4, ck_5, ck_6, ck_7, ck_8, ck_9, ck_10, ck_11, ck_12, ck_13, ck_14, ck_15, tn_0, tn_1, tn_2, tn_3, tn_4, tn_5, tn_6, tn_7, tn_8, tn_9, tn_10, tn_11, tn_12, tn_13, tn_14, tn_15]
        split
        · simp only [bnd_s, hc, ck_k ei (show i < 24 by omega)]; exact Ok.mk (fin _)
        · split
          · simp only [bnd_s, hc, ck_k ei (show i < 24 by omega)]; exact Ok.mk (fin _)
          · simp only [bnd_s, hc, ck_k ei (show i < 24 by omega)]; exact Ok.mk (fin _)
      · rw [if_neg hb, if_neg hb]
        simp only [f_X10_put_35, m_err1, bnd_s, lt_a, if01, ckb_01, rd_0, rd_1, rd_2, rd_3, rd_4, rd_5, rd_6, rd_7, rd_8, rd_9, rd_10, rd_11, rd_12, rd_13, rd_14, rd_15, ck_0, ck_1, ck_2, ck_3, ck_4, ck_5, ck_6, ck_7, ck_8, ck_9, ck_10, ck_11, ck_12, ck_13, ck_14, ck_15, tn_0, tn_1, tn_2, tn_3, tn_4, tn_5, tn_6, tn_7, tn_8, tn_9, tn_10, tn_11, tn_12, tn_13, tn_14, tn_15]
        rw [if_neg (by decide)]
        exact Ok.err h 1 (by decide)
  · rw [if_neg ha, m_notThere_b ha]
    simp only [f_X10_put_35, m_err1, bnd_s, lt_a, if01, ckb_01, rd_0, rd_1, rd_2, rd_3, rd_4, rd_5, rd_6, rd_7, rd_8, rd_9, rd_10, rd_11, rd_12, rd_13, rd_14, rd_15, ck_0, ck_1, ck_2, ck_3, ck_4, ck_5, ck_6, ck_7, ck_8, ck_9, ck_10, ck_11, ck_12, ck_13, ck_14, ck_15, tn_0, tn_1, tn_2, tn_3, tn_4, tn_5, tn_6, tn_7, tn_8, tn_9, tn_10, tn_11, tn_12, tn_13, tn_14, tn_15]
    rw [if_neg (by decide), if_neg (by decide)]
    exact Ok.err h 1 (by decide)
end
section
theorem x_begin14 {u : Nat} (hu : u < 4) {t : Nat} (ht : t ≤ 24) : ∀ (d i n : Nat) (σ : Sg), i + d = t → d < n → σ (58 + u) 1 = nI i → (∀ j, j < i → σ (76 + u) j = 0) → ∃ σ', f_X7_begin_14 n (10 + u) (nI t) (nI i) σ = some ((), σ') ∧ (∀ k, k ≠ 58 + u → k ≠ 76 + u → σ' k = σ k) ∧ σ' (58 + u) 1 = nI t ∧ ∀ j, j < t → σ' (76 + u) j = 0 := by
  intro d
  have et : (nI t).toInt = (t : Int) := i_nI (by omega)
  have hc : capC (58 + u + 18) = 24 := by rw [← cap_sh hu]; congr 1; omega
  induction d with
  | zero =>
    intro i n σ hi hn e0 z
    obtain ⟨n, rfl⟩ : ∃ m, n = m + 1 := ⟨n - 1, by omega⟩
    have ei : (nI i).toInt = (i : Int) := i_nI (by omega)
    refine ⟨σ, ?_, fun _ _ _ => rfl, ?_, fun j a => z j (by omega)⟩
    · simp only [f_X7_begin_14, f_X7_begin_14_b]
      rw [if_pos (by rw [i_le, ei, et]; omega)]
    · rw [e0, show i = t by omega]
  | succ d ih =>
    intro i n σ hi hn e0 z
    obtain ⟨n, rfl⟩ : ∃ m, n = m + 1 := ⟨n - 1, by omega⟩
    have ei : (nI i).toInt = (i : Int) := i_nI (by omega)
    obtain ⟨σ', q1, q2, q3, q4⟩ := ih (i + 1) n (up (up σ (58 + u + 18) i 0) (58 + u) 1 (nI (i + 1))) (by omega) (by omega) (by rw [up_s]) (fun j hj => by
      rw [up_k (by omega), show 58 + u + 18 = 76 + u by omega]
      by_cases h : j = i
      · subst h; rw [up_s]
      · rw [up_i h]; exact z j (by omega))
    refine ⟨σ', ?_, fun k a b => by rw [q2 k a b, up_row a, up_row (by omega)], q3, q4⟩
    simp only [f_X7_begin_14, f_X7_begin_14_b]
    rw [if_neg (by rw [i_le, ei, et]; omega), show 10 + u + 48 = 58 + u by omega, x_add e0 (by rw [hc]; omega)]
    simp only [bnd_s, lt_a, nI_1]
    exact q1
theorem x_begin {u : Nat} (hu : u < 4) {t : Nat} (ht : t ≤ 24) (b : Int32) (σ : Sg) : ∃ σ', f_X7_begin (10 + u) b (nI t) σ = some ((), σ') ∧ (∀ k, k ≠ 10 + u → k ≠ 58 + u → k ≠ 76 + u → σ' k = σ k) ∧ σ' (10 + u) 1 = b ∧ σ' (58 + u) 1 = nI t ∧ ∀ j, j < t → σ' (76 + u) j = 0 := by
  obtain ⟨σ', q1, q2, q3, q4⟩ := x_begin14 hu ht t 0 fuN (up (up σ (10 + u) 1 b) (58 + u) 1 0) (by omega) (by have := fu_le; omega) (by rw [up_s]; rfl) (fun j hj => absurd hj (by omega))
  refine ⟨σ', ?_, fun k a c d => by rw [q2 k c d, up_row c, up_row a], by rw [q2 _ (by omega) (by omega), up_k (by omega), up_s], q3, q4⟩
  unfold f_X7_begin f_X6_clear
  simp only [lt_a, bnd_s]
  rw [show 10 + u + 48 = 58 + u by omega]
  exact q1
theorem m_sheet93 {u : Nat} (hu : u < 4) : ∀ (d i n : Nat) (τ : Sg), i + d = 24 → d < n → ∃ τ', f_X10_sheet_93 n (nI u) (nI i) τ = some (1, τ') ∧ (∀ k, k ≠ 7 → τ' k = τ k) ∧ (∀ j, i ≤ j → j < 24 → τ' 7 (24 * u + j) = 0) ∧ (∀ q, (q < 24 * u + i ∨ 24 * u + 24 ≤ q) → τ' 7 q = τ 7 q) := by
  intro d
  induction d with
  | zero =>
    intro i n τ hi hn
    obtain ⟨n, rfl⟩ : ∃ m, n = m + 1 := ⟨n - 1, by omega⟩
    have ei : (nI i).toInt = (i : Int) := i_nI (by omega)
    refine ⟨τ, ?_, fun _ _ => rfl, fun j a b => absurd b (by omega), fun _ _ => rfl⟩
    simp only [f_X10_sheet_93, f_X10_sheet_93_b]
    rw [if_pos (by rw [i_le, ei]; show (24 : Int) ≤ _; omega)]
  | succ d ih =>
    intro i n τ hi hn
    obtain ⟨n, rfl⟩ : ∃ m, n = m + 1 := ⟨n - 1, by omega⟩
    have ei : (nI i).toInt = (i : Int) := i_nI (by omega)
    have e24 := i_sq hu (show i ≤ 24 by omega)
    obtain ⟨τ', q1, q2, q3, q4⟩ := ih (i + 1) n (up τ 7 (24 * u + i) 0) (by omega) (by omega)
    refine ⟨τ', ?_, fun k a => by rw [q2 k a, up_row a], fun j a b => ?_, fun q h => by rw [q4 q (by omega), up_i (by omega)]⟩
    · simp only [f_X10_sheet_93, f_X10_sheet_93_b]
      rw [if_neg (by rw [i_le, ei]; show ¬ (24 : Int) ≤ _; omega), ck_k e24 (by omega), tn_k e24]
      simp only [lt_a, nI_1]
      exact q1
    · by_cases h : j = i
      · subst h; rw [q4 _ (by omega), up_s]
      · exact q3 j (by omega) b
theorem sheet_core {σ τ : Sg} (h : Sim σ τ) {u : Nat} (hu : u < 4) {t : Nat} (ht : t ≤ 24) {b : Int32} (hb : b = 0 ∨ b = 8 ∨ b = 16 ∨ b = 32) : Ok (bnd (f_X7_begin (10 + u) b (nI t) σ) (fun _ s4 => some ((1 : Int32), s4))) (f_X10_sheet_93 fuN (nI u) (0 : Int32) (up (up τ 5 u b) 6 u (nI t))) := by
  obtain ⟨σ', q1, q2, q3, q4, q5⟩ := x_begin hu ht b σ
  obtain ⟨τ', p1, p2, p3, p4⟩ := m_sheet93 hu 24 0 fuN (up (up τ 5 u b) 6 u (nI t)) (by omega) (by have := fu_le; omega)
  rw [q1, ← nI_0, p1]
  simp only [bnd_s]
  refine Ok.mk (h.sheet hu q2 (fun k a c d => by rw [p2 k d, up_row c, up_row a]) ?_ (fun v hv hvu => ⟨?_, ?_, fun j hj => ?_⟩))
  · rw [p2 5 (by decide), p2 6 (by decide), up_s, up_row (by decide), up_s, q3, q4]
    exact ⟨rfl, hb, t, ht, rfl, rfl, fun j hj => by rw [q5 j hj]; exact p3 j (by omega) (by omega)⟩
  · rw [p2 5 (by decide), up_row (by decide), up_i hvu]
  · rw [p2 6 (by decide), up_i hvu, up_row (by decide)]
  · rw [p4 _ (by omega), up_row (by decide), up_row (by decide)]
theorem eq_sheet {σ τ : Sg} (h : Sim σ τ) (a b c : Int32) : Ok (f_X9_sheet a b c σ) (f_X10_sheet a b c τ) := by
  unfold f_X9_sheet f_X10_sheet
  simp only [x_isIn, m_isSheet, x_err1, m_err1, bnd_s, lt_a, if01, ckb_01, rd_0, rd_1, rd_2, rd_3, rd_4, rd_5, rd_6, rd_7, rd_8, rd_9, rd_10, rd_11, rd_12, rd_13, rd_14, rd_15, ck_0, ck_1, ck_2, ck_3, ck_4, ck_5, ck_6, ck_7, ck_8, ck_9, ck_10, ck_11, ck_12, ck_13, ck_14, ck_15, tn_0, tn_1, tn_2, tn_3, tn_4, tn_5, tn_6, tn_7, tn_8, tn_9, tn_10, tn_11, tn_12, tn_13, tn_14, tn_15]
  by_cases ha : 0 ≤ a ∧ a ≤ 3
  · rw [if_pos ha, if_pos ha]
    obtain ⟨u, hu, rfl⟩ := sh_arg ha
    have eu : (nI u).toInt = (u : Int) := i_nI (by omega)
    have z0 : ∀ c, Ok (f_X9_sheet_37 (nI u) 0 c σ) (f_X10_sheet_36 (nI u) 0 c τ) := by
      intro c
      unfold f_X9_sheet_37 f_X9_sheet_51 f_X9_sheet_67 f_X10_sheet_36 f_X10_sheet_51 f_X10_sheet_68
      rw [if_pos rfl, if_pos rfl, if_pos (by decide), if_pos (by decide)]
      simp only [ck_k eu hu, tn_k eu, lt_a]
      rw [if_pos trivial, if_pos trivial]
      exact sheet_core h hu (t := 0) (by omega) (Or.inl rfl)
    have z1 : ∀ k c, (k = 8 ∨ k = 16 ∨ k = 32) → Ok (f_X9_sheet_37 (nI u) k c σ) (f_X10_sheet_36 (nI u) k c τ) := by
      intro k c hk
      have k0 : k ≠ 0 := by rcases hk with rfl | rfl | rfl <;> decide
      have k1 : ¬ k ≤ 0 := by rcases hk with rfl | rfl | rfl <;> decide
      unfold f_X9_sheet_37 f_X9_sheet_51 f_X9_sheet_67 f_X10_sheet_36 f_X10_sheet_51 f_X10_sheet_68
      simp only [if_neg k0, if_neg k1, ck_k eu hu, tn_k eu, lt_a, x_err1, m_err1, x_err3, m_err3, bnd_s]
      by_cases c0 : 0 ≤ c
      · rw [if_pos c0, if_pos c0]
        by_cases c1 : c ≤ 24
        · rw [if_pos c1, if_pos c1]
          have c0' := c0
          have c1' := c1
          simp only [i_le, ti_0, ti_1, ti_2, ti_3, ti_4, ti_5, ti_6, ti_7, ti_8, ti_9, ti_10, ti_11, ti_12, ti_13, ti_14, ti_15] at c0' c1'
          rw [show (24 : Int32).toInt = 24 from rfl] at c1'
          obtain ⟨t, ht, rfl⟩ := nI_ofi (a := c) (n := 25) c0' (by omega)
          exact sheet_core h hu (by omega) (Or.inr hk)
        · rw [if_neg c1, if_neg c1]
          exact Ok.err h 1 (by decide)
      · rw [if_neg c0, if_neg c0]
        exact Ok.err h 3 (by decide)
    by_cases b0 : b = 0
    · subst b0; rw [if_pos rfl, if_pos rfl]; exact z0 c
    · rw [if_neg b0, if_neg b0]
      by_cases b1 : b = 8
      · subst b1; rw [if_pos rfl, if_pos rfl]; exact z1 8 c (by decide)
      · rw [if_neg b1, if_neg b1]
        by_cases b2 : b = 16
        · subst b2; rw [if_pos rfl, if_pos rfl]; exact z1 16 c (by decide)
        · rw [if_neg b2, if_neg b2]
          by_cases b3 : b = 32
          · subst b3; rw [if_pos rfl, if_pos rfl]; exact z1 32 c (by decide)
          · rw [if_neg b3, if_neg b3]
            exact Ok.err h 1 (by decide)
  · rw [if_neg ha, if_neg ha]
    exact Ok.err h 1 (by decide)
end
section
theorem m_move53 {rec28 : Int32 → Int32 → Int32 → Int32 → Int32 → Int32 → Sg → Option (Int32 × Sg)} {u w i j q r : Nat} (hu : u < 4) (hw : w < 4) (hi : i + r < 24) (hj : j + r < 24) (t0 c a7 : Int32) (et : t0.toInt = (r : Int)) (τ : Sg) : f_X10_move_53 rec28 (nI u) (nI i) (nI w) (nI j) c (nI q) t0 τ = rec28 (nI u) (nI i) (nI w) (nI j) c (nI (q + 1)) (up τ 7 (24 * w + j + r) (τ 7 (24 * u + i + r))) := by
  have e1 := i_sq hu (show i ≤ 24 by omega)
  have e2 := i_sq hw (show j ≤ 24 by omega)
  have f1 : (((24 : Int32) * nI u) + nI i + t0).toInt = ((24 * u + i + r : Nat) : Int) := by rw [i_add (by rw [e1, et]; omega) (by rw [e1, et]; omega), e1, et]; omega
  have f2 : (((24 : Int32) * nI w) + nI j + t0).toInt = ((24 * w + j + r : Nat) : Int) := by rw [i_add (by rw [e2, et]; omega) (by rw [e2, et]; omega), e2, et]; omega
  unfold f_X10_move_53
  rw [ck_k f1 (by omega), ck_k f2 (by omega), tn_k f2, rd_k f1]
  simp only [lt_a, nI_1]
theorem m_move28 {u w i j c : Nat} (hu : u < 4) (hw : w < 4) (hi : i + c ≤ 24) (hj : j + c ≤ 24) (τ0 : Sg) : ∀ (d q n : Nat) (τ : Sg), q + d = c → d < n → (∀ k, k ≠ 7 → τ k = τ0 k) → (∀ x, (x < 24 * w + j ∨ 24 * w + j + c ≤ x) → τ 7 x = τ0 7 x) → (∀ p, p < c → τ 7 (24 * w + j + p) = if (j ≤ i ∧ p < q) ∨ (i < j ∧ c ≤ p + q) then τ0 7 (24 * u + i + p) else τ0 7 (24 * w + j + p)) → ∃ τ', f_X10_move_28 n (nI u) (nI i) (nI w) (nI j) (nI c) (nI q) τ = some (nI c, τ') ∧ (∀ k, k ≠ 7 → τ' k = τ0 k) ∧ (∀ x, (x < 24 * w + j ∨ 24 * w + j + c ≤ x) → τ' 7 x = τ0 7 x) ∧ (∀ p, p < c → τ' 7 (24 * w + j + p) = τ0 7 (24 * u + i + p)) := by
  intro d
  have ec : (nI c).toInt = (c : Int) := i_nI (by omega)
  have eI : (nI i).toInt = (i : Int) := i_nI (by omega)
  have eJ : (nI j).toInt = (j : Int) := i_nI (by omega)
  induction d with
  | zero =>
    intro q n τ hq hn g1 g2 g3
    obtain ⟨n, rfl⟩ : ∃ m, n = m + 1 := ⟨n - 1, by omega⟩
    have eq : (nI q).toInt = (q : Int) := i_nI (by omega)
    refine ⟨τ, ?_, g1, g2, fun p hp => ?_⟩
    · simp only [f_X10_move_28, f_X10_move_28_b]
      rw [if_pos (by rw [i_le, eq, ec]; omega)]
    · rw [g3 p hp, if_pos (by omega)]
  | succ d ih =>
    intro q n τ hq hn g1 g2 g3
    obtain ⟨n, rfl⟩ : ∃ m, n = m + 1 := ⟨n - 1, by omega⟩
    have eq : (nI q).toInt = (q : Int) := i_nI (by omega)
    have step : ∀ r : Nat, r < c → ((j ≤ i ∧ r = q) ∨ (i < j ∧ r + 1 + q = c)) → ∃ τ', f_X10_move_28 n (nI u) (nI i) (nI w) (nI j) (nI c) (nI (q + 1)) (up τ 7 (24 * w + j + r) (τ 7 (24 * u + i + r))) = some (nI c, τ') ∧ (∀ k, k ≠ 7 → τ' k = τ0 k) ∧ (∀ x, (x < 24 * w + j ∨ 24 * w + j + c ≤ x) → τ' 7 x = τ0 7 x) ∧ (∀ p, p < c → τ' 7 (24 * w + j + p) = τ0 7 (24 * u + i + p)) := by
      intro r hr hd
      refine ih (q + 1) n _ (by omega) (by omega) (fun k hk => by rw [up_row hk, g1 k hk]) (fun x hx => by rw [up_i (by omega), g2 x hx]) (fun p hp => ?_)
      by_cases hpr : p = r
      · subst hpr
        rw [up_s, if_pos (by omega)]
        by_cases hx : 24 * u + i + p < 24 * w + j ∨ 24 * w + j + c ≤ 24 * u + i + p
        · exact g2 _ hx
        · obtain ⟨p', hp', e⟩ : ∃ p', p' < c ∧ 24 * u + i + p = 24 * w + j + p' := ⟨24 * u + i + p - (24 * w + j), by omega, by omega⟩
          rw [e, g3 p' hp', if_neg (by omega)]
      · rw [up_i (by omega), g3 p hp]
        by_cases hz : (j ≤ i ∧ p < q) ∨ (i < j ∧ c ≤ p + q)
        · rw [if_pos hz, if_pos (by omega)]
        · rw [if_neg hz, if_neg (by omega)]
    simp only [f_X10_move_28, f_X10_move_28_b]
    rw [if_neg (by rw [i_le, eq, ec]; omega)]
    by_cases hji : j ≤ i
    · rw [if_pos (by rw [i_le, eI, eJ]; omega), m_move53 (r := q) hu hw (by omega) (by omega) _ _ 0 eq]
      exact step q (by omega) (by omega)
    · have e1 : (nI c - (1 : Int32)).toInt = (c : Int) - 1 := by rw [i_sub (by rw [ec, ti_1]; omega) (by rw [ec, ti_1]; omega), ec, ti_1]
      have e2 : (nI c - (1 : Int32) - nI q).toInt = ((c - 1 - q : Nat) : Int) := by rw [i_sub (by rw [e1, eq]; omega) (by rw [e1, eq]; omega), e1, eq]; omega
      rw [if_neg (by rw [i_le, eI, eJ]; omega), m_move53 (r := c - 1 - q) hu hw (by omega) (by omega) _ _ 0 e2]
      exact step (c - 1 - q) (by omega) (by omega)
end
section
theorem x_stands {o : Nat} {t : Nat} (ht : t ≤ 24) {σ : Sg} (e : σ o 1 = nI t) (a b : Int32) : f_X6_stands o a b σ = some (if 0 ≤ a.toInt ∧ 0 ≤ b.toInt ∧ a.toInt + b.toInt ≤ (t : Int) then 1 else 0, σ) := by
  have et : (nI t).toInt = (t : Int) := i_nI (by omega)
  have ha := i_lo a; have hb := i_lo b; have ha' := i_hi a; have hb' := i_hi b
  unfold f_X6_stands
  rw [e]
  simp only [i_le, i_lt, ti_0, ti_1, ti_2, ti_3, ti_4, ti_5, ti_6, ti_7, ti_8, ti_9, ti_10, ti_11, ti_12, ti_13, ti_14, ti_15, et]
  by_cases h1 : a.toInt < 0
  · rw [if_pos h1, if_neg (by omega)]
  · rw [if_neg h1]
    by_cases h2 : b.toInt < 0
    · rw [if_pos h2, if_neg (by omega)]
    · rw [if_neg h2]
      by_cases h3 : (t : Int) < b.toInt
      · rw [if_pos h3, if_neg (by omega)]
      · rw [if_neg h3, i_sub (by rw [et]; omega) (by rw [et]; omega), et]
        by_cases h4 : (t : Int) - b.toInt < a.toInt
        · rw [if_pos h4, if_neg (by omega)]
        · rw [if_neg h4, if_pos (by omega)]
theorem m_notMoved {u w t t' : Nat} (hu : u < 4) (hw : w < 4) (ht : t ≤ 24) (ht' : t' ≤ 24) {τ : Sg} (e6 : τ 6 u = nI t) (e6' : τ 6 w = nI t') (a2 a4 a5 : Int32) : f_X10_notMoved (nI u) a2 (nI w) a4 a5 τ = some (if τ 5 u = 0 then (-1000000002 : Int32) else if τ 5 w = 0 then (-1000000002 : Int32) else if τ 5 u = τ 5 w then (if (0 ≤ a2.toInt ∧ 0 ≤ a5.toInt ∧ a2.toInt + a5.toInt ≤ (t : Int)) ∧ (0 ≤ a4.toInt ∧ 0 ≤ a5.toInt ∧ a4.toInt + a5.toInt ≤ (t' : Int)) then 0 else (-1000000001 : Int32)) else (-1000000005 : Int32), τ) := by
  have eu : (nI u).toInt = (u : Int) := i_nI (by omega)
  have ew : (nI w).toInt = (w : Int) := i_nI (by omega)
  have et : (nI t).toInt = (t : Int) := i_nI (by omega)
  have et' : (nI t').toInt = (t' : Int) := i_nI (by omega)
  have h2 := i_lo a2; have h4 := i_lo a4; have h5 := i_lo a5; have h2' := i_hi a2; have h4' := i_hi a4; have h5' := i_hi a5
  have su : 0 ≤ nI u ∧ nI u ≤ 3 := by simp only [i_le, eu, ti_0, ti_1, ti_2, ti_3, ti_4, ti_5, ti_6, ti_7, ti_8, ti_9, ti_10, ti_11, ti_12, ti_13, ti_14, ti_15]; omega
  have sw : 0 ≤ nI w ∧ nI w ≤ 3 := by simp only [i_le, ew, ti_0, ti_1, ti_2, ti_3, ti_4, ti_5, ti_6, ti_7, ti_8, ti_9, ti_10, ti_11, ti_12, ti_13, ti_14, ti_15]; omega
  unfold f_X10_notMoved
  simp only [m_isSheet, bnd_s, lt_a, if01, ckb_01, rd_0, rd_1, rd_2, rd_3, rd_4, rd_5, rd_6, rd_7, rd_8, rd_9, rd_10, rd_11, rd_12, rd_13, rd_14, rd_15, ck_0, ck_1, ck_2, ck_3, ck_4, ck_5, ck_6, ck_7, ck_8, ck_9, ck_10, ck_11, ck_12, ck_13, ck_14, ck_15, tn_0, tn_1, tn_2, tn_3, tn_4, tn_5, tn_6, tn_7, tn_8, tn_9, tn_10, tn_11, tn_12, tn_13, tn_14, tn_15]
  rw [if_pos su, if_pos sw]
  simp only [ck_k eu hu, ck_k ew hw, rd_k eu, rd_k ew, e6, e6', bnd_s, lt_a, if01, ckb_01, rd_0, rd_1, rd_2, rd_3, rd_4, rd_5, rd_6, rd_7, rd_8, rd_9, rd_10, rd_11, rd_12, rd_13, rd_14, rd_15, ck_0, ck_1, ck_2, ck_3, ck_4, ck_5, ck_6, ck_7, ck_8, ck_9, ck_10, ck_11, ck_12, ck_13, ck_14, ck_15, tn_0, tn_1, tn_2, tn_3, tn_4, tn_5, tn_6, tn_7, tn_8, tn_9, tn_10, tn_11, tn_12, tn_13, tn_14, tn_15]
  by_cases z1 : τ 5 u = 0
  · rw [if_pos z1, if_pos z1]
  · rw [if_neg z1, if_neg z1]
    by_cases z2 : τ 5 w = 0
    · rw [if_pos z2, if_pos z2]
    · rw [if_neg z2, if_neg z2]
      by_cases z3 : τ 5 u = τ 5 w
      · rw [if_pos z3, if_pos z3]
        simp only [i_lt, ti_0, ti_1, ti_2, ti_3, ti_4, ti_5, ti_6, ti_7, ti_8, ti_9, ti_10, ti_11, ti_12, ti_13, ti_14, ti_15]
        by_cases c1 : a5.toInt < 0
        · rw [if_pos c1]; first | rw [if_pos trivial, if_neg (by omega)] | rw [if_pos rfl, if_neg (by omega)]
        · rw [if_neg c1]
          by_cases c2 : a2.toInt < 0
          · rw [if_pos c2]; first | rw [if_pos trivial, if_neg (by omega)] | rw [if_pos rfl, if_neg (by omega)]
          · rw [if_neg c2]
            by_cases c3 : a4.toInt < 0
            · rw [if_pos c3]; first | rw [if_pos trivial, if_neg (by omega)] | rw [if_pos rfl, if_neg (by omega)]
            · rw [if_neg c3, i_sub (by rw [et]; omega) (by rw [et]; omega), et, i_sub (by rw [et']; omega) (by rw [et']; omega), et']
              by_cases c4 : (t : Int) - a2.toInt < a5.toInt
              · rw [if_pos c4]; first | rw [if_pos trivial, if_neg (by omega)] | rw [if_pos rfl, if_neg (by omega)]
              · rw [if_neg c4]
                by_cases c5 : (t' : Int) - a4.toInt < a5.toInt
                · rw [if_pos c5]; first | rw [if_pos trivial, if_neg (by omega)] | rw [if_pos rfl, if_neg (by omega)]
                · rw [if_neg c5]; first | rw [if_neg not_false, if_pos (by omega)] | rw [if_neg (by decide), if_pos (by omega)]
      · rw [if_neg z3, if_neg z3]
theorem eq_move {σ τ : Sg} (h : Sim σ τ) (a1 a2 a3 a4 a5 : Int32) : Ok (f_X9_move a1 a2 a3 a4 a5 σ) (f_X10_move a1 a2 a3 a4 a5 τ) := by
  unfold f_X9_move f_X10_move
  simp only [x_isIn, x_err1, x_err2, x_err5, x_isMissing, bnd_s, lt_a, if01, ckb_01, rd_0, rd_1, rd_2, rd_3, rd_4, rd_5, rd_6, rd_7, rd_8, rd_9, rd_10, rd_11, rd_12, rd_13, rd_14, rd_15, ck_0, ck_1, ck_2, ck_3, ck_4, ck_5, ck_6, ck_7, ck_8, ck_9, ck_10, ck_11, ck_12, ck_13, ck_14, ck_15, tn_0, tn_1, tn_2, tn_3, tn_4, tn_5, tn_6, tn_7, tn_8, tn_9, tn_10, tn_11, tn_12, tn_13, tn_14, tn_15]
  by_cases ha : 0 ≤ a1 ∧ a1 ≤ 3
  · rw [if_pos ha]
    by_cases hb : 0 ≤ a3 ∧ a3 ≤ 3
    · rw [if_pos hb]
      obtain ⟨u, hu, rfl⟩ := sh_arg ha
      obtain ⟨w, hw, rfl⟩ := sh_arg hb
      have eu : (nI u).toInt = (u : Int) := i_nI (by omega)
      have ew : (nI w).toInt = (w : Int) := i_nI (by omega)
      obtain ⟨s1, s2, t, s3, s4, s5, s6⟩ := h.2.2.2.2.1 u hu
      obtain ⟨r1, r2, t', r3, r4, r5, r6⟩ := h.2.2.2.2.1 w hw
      rw [m_notMoved hu hw s3 r3 s5 r5, s1, r1]
      simp only [ck_k eu hu, ck_k ew hw, tn_k eu, tn_k ew, bnd_s, lt_a, if01, ckb_01, rd_0, rd_1, rd_2, rd_3, rd_4, rd_5, rd_6, rd_7, rd_8, rd_9, rd_10, rd_11, rd_12, rd_13, rd_14, rd_15, ck_0, ck_1, ck_2, ck_3, ck_4, ck_5, ck_6, ck_7, ck_8, ck_9, ck_10, ck_11, ck_12, ck_13, ck_14, ck_15, tn_0, tn_1, tn_2, tn_3, tn_4, tn_5, tn_6, tn_7, tn_8, tn_9, tn_10, tn_11, tn_12, tn_13, tn_14, tn_15]
      by_cases z1 : σ (10 + u) 1 = 0
      · rw [if_pos z1, if_pos z1, if_neg (by decide), m_err2]
        exact Ok.err h 2 (by decide)
      · rw [if_neg z1, if_neg z1]
        by_cases z2 : σ (10 + w) 1 = 0
        · rw [if_pos z2, if_pos z2, if_neg (by decide), m_err2]
          exact Ok.err h 2 (by decide)
        · rw [if_neg z2, if_neg z2]
          by_cases z3 : σ (10 + u) 1 = σ (10 + w) 1
          · rw [if_pos z3, if_pos z3, show 10 + u + 48 = 58 + u by omega, show 10 + w + 48 = 58 + w by omega, x_stands s3 s4]
            simp only [bnd_s, x_stands r3 r4, if01, bnd_s, lt_a, if01, ckb_01, rd_0, rd_1, rd_2, rd_3, rd_4, rd_5, rd_6, rd_7, rd_8, rd_9, rd_10, rd_11, rd_12, rd_13, rd_14, rd_15, ck_0, ck_1, ck_2, ck_3, ck_4, ck_5, ck_6, ck_7, ck_8, ck_9, ck_10, ck_11, ck_12, ck_13, ck_14, ck_15, tn_0, tn_1, tn_2, tn_3, tn_4, tn_5, tn_6, tn_7, tn_8, tn_9, tn_10, tn_11, tn_12, tn_13, tn_14, tn_15]
            by_cases c1 : 0 ≤ a2.toInt ∧ 0 ≤ a5.toInt ∧ a2.toInt + a5.toInt ≤ (t : Int)
            · rw [if_pos c1]
              by_cases c2 : 0 ≤ a4.toInt ∧ 0 ≤ a5.toInt ∧ a4.toInt + a5.toInt ≤ (t' : Int)
              · rw [if_pos c2, if_pos (show (0 ≤ a2.toInt ∧ 0 ≤ a5.toInt ∧ a2.toInt + a5.toInt ≤ (t : Int)) ∧ (0 ≤ a4.toInt ∧ 0 ≤ a5.toInt ∧ a4.toInt + a5.toInt ≤ (t' : Int)) from ⟨c1, c2⟩), if_pos rfl]
                obtain ⟨i, hi, rfl⟩ := nI_ofi (a := a2) (n := 25) (by omega) (by omega)
                obtain ⟨j, hj, rfl⟩ := nI_ofi (a := a4) (n := 25) (by omega) (by omega)
                obtain ⟨c, hc, rfl⟩ := nI_ofi (a := a5) (n := 25) (by omega) (by omega)
                have ei : (nI i).toInt = (i : Int) := i_nI (by omega)
                have ej : (nI j).toInt = (j : Int) := i_nI (by omega)
                have ec : (nI c).toInt = (c : Int) := i_nI (by omega)
                rw [ei, ec] at c1
                rw [ej, ec] at c2
                have cu : capC (58 + u + 18) = 24 := by rw [← cap_sh hu]; congr 1; omega
                have cw : capC (58 + w + 18) = 24 := by rw [← cap_sh hw]; congr 1; omega
                obtain ⟨τ', p1, p2, p3, p4⟩ := m_move28 hu hw (i := i) (j := j) (c := c) (by omega) (by omega) τ c 0 fuN τ (by omega) (by have := fu_le; omega) (fun _ _ => rfl) (fun _ _ => rfl) (fun p hp => by rw [if_neg (by omega)])
                rw [← nI_0, p1, cu, cw, show acOk (nI i) (nI j) (nI c) 24 24 = true by unfold acOk; simp only [i_lt, ei, ej, ec, tn_k ei, tn_k ej, tn_k ec, ti_0, ti_1, ti_2, ti_3, ti_4, ti_5, ti_6, ti_7, ti_8, ti_9, ti_10, ti_11, ti_12, ti_13, ti_14, ti_15]; simp only [Bool.and_eq_true, Bool.not_eq_true', decide_eq_false_iff_not, decide_eq_true_eq]; omega]
                simp only [tn_k ei, tn_k ej, tn_k ec]
                refine Ok.mk (h.sheet hw (fun k k1 k2 k3 => upR_n (by omega)) (fun k k5 k6 k7 => p2 k k7) ?_ (fun v hv hvu => ?_))
                · rw [p2 5 (by decide), p2 6 (by decide), upR_n (by omega), upR_n (by omega)]
                  refine ⟨r1, r2, t', r3, r4, r5, fun x hx => ?_⟩
                  show τ' 7 (24 * w + x) = _
                  rw [show 58 + w + 18 = 76 + w by omega, upR_s, show 58 + u + 18 = 76 + u by omega]
                  unfold va_cpy
                  by_cases hx2 : j ≤ x ∧ x < j + c
                  · rw [if_pos hx2]
                    have q := p4 (x - j) (by omega)
                    rw [show 24 * w + j + (x - j) = 24 * w + x by omega, show 24 * u + i + (x - j) = 24 * u + (i + (x - j)) by omega] at q
                    rw [q]; exact s6 (i + (x - j)) (by omega)
                  · rw [if_neg hx2, p3 _ (by omega)]; exact r6 x hx
                · rw [p2 5 (by decide), p2 6 (by decide)]
                  exact ⟨rfl, rfl, fun x hx => p3 _ (by omega)⟩
              · rw [if_neg c2, if_neg (show ¬ ((0 ≤ a2.toInt ∧ 0 ≤ a5.toInt ∧ a2.toInt + a5.toInt ≤ (t : Int)) ∧ (0 ≤ a4.toInt ∧ 0 ≤ a5.toInt ∧ a4.toInt + a5.toInt ≤ (t' : Int))) from fun x => c2 x.2), if_neg (by decide), m_err1]
                exact Ok.err h 1 (by decide)
            · rw [if_neg c1, if_neg (show ¬ ((0 ≤ a2.toInt ∧ 0 ≤ a5.toInt ∧ a2.toInt + a5.toInt ≤ (t : Int)) ∧ (0 ≤ a4.toInt ∧ 0 ≤ a5.toInt ∧ a4.toInt + a5.toInt ≤ (t' : Int))) from fun x => c1 x.1), if_neg (by decide), m_err1]
              exact Ok.err h 1 (by decide)
          · rw [if_neg z3, if_neg z3, if_neg (by decide), m_err5]
            exact Ok.err h 5 (by decide)
    · rw [if_neg hb]
      unfold f_X10_notMoved
      simp only [m_isSheet, bnd_s, lt_a, if01, ckb_01, rd_0, rd_1, rd_2, rd_3, rd_4, rd_5, rd_6, rd_7, rd_8, rd_9, rd_10, rd_11, rd_12, rd_13, rd_14, rd_15, ck_0, ck_1, ck_2, ck_3, ck_4, ck_5, ck_6, ck_7, ck_8, ck_9, ck_10, ck_11, ck_12, ck_13, ck_14, ck_15, tn_0, tn_1, tn_2, tn_3, tn_4, tn_5, tn_6, tn_7, tn_8, tn_9, tn_10, tn_11, tn_12, tn_13, tn_14, tn_15]
      rw [if_pos ha, if_neg hb]
      simp only [m_err1, bnd_s, lt_a, if01, ckb_01, rd_0, rd_1, rd_2, rd_3, rd_4, rd_5, rd_6, rd_7, rd_8, rd_9, rd_10, rd_11, rd_12, rd_13, rd_14, rd_15, ck_0, ck_1, ck_2, ck_3, ck_4, ck_5, ck_6, ck_7, ck_8, ck_9, ck_10, ck_11, ck_12, ck_13, ck_14, ck_15, tn_0, tn_1, tn_2, tn_3, tn_4, tn_5, tn_6, tn_7, tn_8, tn_9, tn_10, tn_11, tn_12, tn_13, tn_14, tn_15]
      rw [if_neg (by decide)]
      exact Ok.err h 1 (by decide)
  · rw [if_neg ha]
    unfold f_X10_notMoved
    simp only [m_isSheet, bnd_s, lt_a, if01, ckb_01, rd_0, rd_1, rd_2, rd_3, rd_4, rd_5, rd_6, rd_7, rd_8, rd_9, rd_10, rd_11, rd_12, rd_13, rd_14, rd_15, ck_0, ck_1, ck_2, ck_3, ck_4, ck_5, ck_6, ck_7, ck_8, ck_9, ck_10, ck_11, ck_12, ck_13, ck_14, ck_15, tn_0, tn_1, tn_2, tn_3, tn_4, tn_5, tn_6, tn_7, tn_8, tn_9, tn_10, tn_11, tn_12, tn_13, tn_14, tn_15]
    rw [if_neg ha]
    simp only [m_err1, bnd_s, lt_a, if01, ckb_01, rd_0, rd_1, rd_2, rd_3, rd_4, rd_5, rd_6, rd_7, rd_8, rd_9, rd_10, rd_11, rd_12, rd_13, rd_14, rd_15, ck_0, ck_1, ck_2, ck_3, ck_4, ck_5, ck_6, ck_7, ck_8, ck_9, ck_10, ck_11, ck_12, ck_13, ck_14, ck_15, tn_0, tn_1, tn_2, tn_3, tn_4, tn_5, tn_6, tn_7, tn_8, tn_9, tn_10, tn_11, tn_12, tn_13, tn_14, tn_15]
    rw [if_neg (by decide)]
    exact Ok.err h 1 (by decide)
end
section
theorem wrong_eq {t : Nat} (ht : t ≤ 24) {σ τ : Sg} (e : σ 46 1 = nI t) (hw : ∀ j, j < t → τ 1 (142 + j) = σ 64 j) (hk : ∀ p, p < 5 → τ 1 (7 + p) = σ 16 p) : ∀ (d i n m : Nat), i + d = 5 → d < n → d < m → ∃ r, f_X9_firstWrongInk_10 n (nI i) σ = some (r, σ) ∧ f_X10_check_18 m (nI t) (nI i) τ = some (r, τ) := by
  intro d
  have et : (nI t).toInt = (t : Int) := i_nI (by omega)
  induction d with
  | zero =>
    intro i n m hi hn hm
    obtain ⟨n, rfl⟩ : ∃ m, n = m + 1 := ⟨n - 1, by omega⟩
    obtain ⟨m, rfl⟩ : ∃ k, m = k + 1 := ⟨m - 1, by omega⟩
    have ei : (nI i).toInt = (i : Int) := i_nI (by omega)
    simp only [f_X9_firstWrongInk_10, f_X9_firstWrongInk_10_b, f_X10_check_18, f_X10_check_18_b, e]
    by_cases c : nI t ≤ nI i
    · rw [if_pos c, if_pos c]; exact ⟨_, rfl, rfl⟩
    · have c5 : (5 : Int32) ≤ nI i := by rw [i_le, ei, ti_5]; omega
      rw [if_neg c, if_neg c, if_pos c5, if_pos c5]; exact ⟨_, rfl, rfl⟩
  | succ d ih =>
    intro i n m hi hn hm
    obtain ⟨n, rfl⟩ : ∃ m, n = m + 1 := ⟨n - 1, by omega⟩
    obtain ⟨m, rfl⟩ : ∃ k, m = k + 1 := ⟨m - 1, by omega⟩
    have ei : (nI i).toInt = (i : Int) := i_nI (by omega)
    simp only [f_X9_firstWrongInk_10, f_X9_firstWrongInk_10_b, f_X10_check_18, f_X10_check_18_b, e]
    by_cases c : nI t ≤ nI i
    · rw [if_pos c, if_pos c]; exact ⟨_, rfl, rfl⟩
    · have c5 : ¬ (5 : Int32) ≤ nI i := by rw [i_le, ei, ti_5]; omega
      rw [if_neg c, if_neg c, if_neg c5, if_neg c5]
      rw [i_le, et, ei] at c
      have e142 : ((142 : Int32) + nI i).toInt = ((142 + i : Nat) : Int) := by
        have q : (142 : Int32).toInt = 142 := rfl
        rw [i_add (by rw [ei, q]; omega) (by rw [ei, q]; omega), ei, q]; omega
      have e7 : ((7 : Int32) + nI i).toInt = ((7 + i : Nat) : Int) := by rw [i_add (by rw [ei, ti_7]; omega) (by rw [ei, ti_7]; omega), ei, ti_7]; omega
      rw [ck_k ei (by omega), ck_k ei (by omega), rd_k ei, rd_k ei, ck_k e142 (by omega), ck_k e7 (by omega), rd_k e142, rd_k e7, hw i (by omega), hk i (by omega)]
      by_cases z : σ 64 i = σ 16 i
      · rw [if_pos z, if_pos z]
        simp only [lt_a, nI_1]
        exact ih (i + 1) n m (by omega) (by omega) (by omega)
      · rw [if_neg z, if_neg z]; exact ⟨_, rfl, rfl⟩
theorem eq_check {σ τ : Sg} (h : Sim σ τ) : Ok (f_X9_check σ) (f_X10_check τ) := by
  obtain ⟨a1, a2, ⟨n, hn, e1, e2, a3⟩, a4, a5, ⟨t, t1, t2, t3, t4⟩, a7⟩ := h.1
  have up6 : ∀ j, j ≠ 6 → up τ 1 6 0 1 j = τ 1 j := fun j hj => up_i hj
  obtain ⟨r, p1, p2⟩ := wrong_eq t1 (σ := σ) (τ := up τ 1 6 0) t2 (fun j hj => by rw [up6 _ (by omega)]; exact t4 j hj) (fun p hp => by rw [up6 _ (by omega)]; exact (a2 p hp).1) 5 0 fuN fuN (by omega) (by have := fu_le; omega) (by have := fu_le; omega)
  unfold f_X9_check f_X10_check f_X9_firstWrongInk f_X6_clear
  rw [nI_0] at p1 p2
  rw [p1]
  simp only [bnd_s, lt_a, if01, ckb_01, rd_0, rd_1, rd_2, rd_3, rd_4, rd_5, rd_6, rd_7, rd_8, rd_9, rd_10, rd_11, rd_12, rd_13, rd_14, rd_15, ck_0, ck_1, ck_2, ck_3, ck_4, ck_5, ck_6, ck_7, ck_8, ck_9, ck_10, ck_11, ck_12, ck_13, ck_14, ck_15, tn_0, tn_1, tn_2, tn_3, tn_4, tn_5, tn_6, tn_7, tn_8, tn_9, tn_10, tn_11, tn_12, tn_13, tn_14, tn_15]
  rw [t3, p2]
  refine Ok.mk (h.bd ?_ (eqX1.up rfl) eqM1.up)
  refine Bd1.of (ln := fun l => σ (20 + l)) (th := fun u => σ (40 + u) 0) (cn := fun u => σ (48 + u) 1) (cs := fun u => σ (66 + u)) ?_ (fun l hl => up_row (by omega)) (fun u hu => by rw [up_row (by omega)]) (fun u hu => by rw [up_row (by omega)]) (fun u hu => up_row (by omega))
  simp (disch := omega) only [up_row, up_rs]
  refine ⟨Hd_r a1 (by omega), Ik_r a2 (by omega), ⟨n, hn, e1, ?_, Lns_r a3 (by omega)⟩, a4, Sq_r a5 (by omega) (by omega), ⟨0, by omega, ?_, ?_, fun j hj => absurd hj (by omega)⟩, fun u hu => Cd_r (a7 u hu) (by omega)⟩
  · rw [upd_n (by decide)]; exact e2
  · rw [upd_e]; rfl
  · rw [upd_e]; rfl
theorem under_eq (σ : Sg) (m : Nat) : ∀ a b : Nat, a < 7 → b < 7 → f_X9_isUnder_4 (m + 8) (nI b) (nI a) (0 : Int32) σ = some (if b = 0 ∨ b = a ∨ (b = 1 ∧ a = 4) ∨ (b = 2 ∧ a = 5) then 1 else 0, σ) := by
  intro a b ha hb
  have ha : a = 0 ∨ a = 1 ∨ a = 2 ∨ a = 3 ∨ a = 4 ∨ a = 5 ∨ a = 6 := by omega
  have hb : b = 0 ∨ b = 1 ∨ b = 2 ∨ b = 3 ∨ b = 4 ∨ b = 5 ∨ b = 6 := by omega
  rcases ha with rfl | rfl | rfl | rfl | rfl | rfl | rfl <;> rcases hb with rfl | rfl | rfl | rfl | rfl | rfl | rfl <;> rfl
theorem x_under (σ : Sg) {a b : Nat} (ha : a < 7) (hb : b < 7) : f_X9_isUnder (nI a) (nI b) σ = some (if b = 0 ∨ b = a ∨ (b = 1 ∧ a = 4) ∨ (b = 2 ∧ a = 5) then 1 else 0, σ) := by
  obtain ⟨m, hm⟩ : ∃ m, fuN = m + 8 := ⟨fuN - 8, by have := fu_le; omega⟩
  unfold f_X9_isUnder
  rw [hm]; exact under_eq σ m a b ha hb
theorem eq_as {σ τ : Sg} (h : Sim σ τ) (a b : Int32) : Ok (f_X9_as a b σ) (f_X10_as a b τ) := by
  obtain ⟨a1, a2, ⟨n, hn, e1, e2, a3⟩, a4, a5, a6, a7⟩ := h.1
  unfold f_X9_as f_X10_as
  simp only [x_hasLine e1, m_isLine e2 hn, x_isIn, m_in, x_err1, m_err1, bnd_s, lt_a, if01, ckb_01, rd_0, rd_1, rd_2, rd_3, rd_4, rd_5, rd_6, rd_7, rd_8, rd_9, rd_10, rd_11, rd_12, rd_13, rd_14, rd_15, ck_0, ck_1, ck_2, ck_3, ck_4, ck_5, ck_6, ck_7, ck_8, ck_9, ck_10, ck_11, ck_12, ck_13, ck_14, ck_15, tn_0, tn_1, tn_2, tn_3, tn_4, tn_5, tn_6, tn_7, tn_8, tn_9, tn_10, tn_11, tn_12, tn_13, tn_14, tn_15]
  by_cases c1 : 0 ≤ a ∧ a < nI n
  · rw [if_pos c1, if_pos c1]
    by_cases c2 : 0 ≤ b ∧ b ≤ 6
    · rw [if_pos c2, if_pos c2]
      have en : (nI n).toInt = (n : Int) := i_nI (by omega)
      simp only [i_le, i_lt, en, ti_0, ti_1, ti_2, ti_3, ti_4, ti_5, ti_6, ti_7, ti_8, ti_9, ti_10, ti_11, ti_12, ti_13, ti_14, ti_15] at c1 c2
      obtain ⟨l, hl, rfl⟩ := nI_ofi (a := a) (n := n) c1.1 c1.2
      obtain ⟨k, hk, rfl⟩ := nI_ofi (a := b) (n := 7) c2.1 (by omega)
      have el : (nI l).toInt = (l : Int) := i_nI (by omega)
      obtain ⟨⟨⟨k0, k1⟩, _⟩, k2⟩ := a3 l hl
      have q0 := k2 0 (by omega)
      have q1 := k2 1 (by omega)
      rw [Nat.add_zero] at q0
      have k1' : (σ (20 + l) 0).toInt ≤ 6 := k1
      obtain ⟨s, hs, es⟩ := nI_ofi (a := σ (20 + l) 0) (n := 7) k0 (by omega)
      rw [ck_k el (by omega), tn_k el, m_it 0 (by omega) rfl (by omega), Nat.add_zero, q0]
      simp only [bnd_s, lt_a]
      rw [es, x_under σ hs hk]
      simp only [bnd_s, lt_a, if01, ckb_01, rd_0, rd_1, rd_2, rd_3, rd_4, rd_5, rd_6, rd_7, rd_8, rd_9, rd_10, rd_11, rd_12, rd_13, rd_14, rd_15, ck_0, ck_1, ck_2, ck_3, ck_4, ck_5, ck_6, ck_7, ck_8, ck_9, ck_10, ck_11, ck_12, ck_13, ck_14, ck_15, tn_0, tn_1, tn_2, tn_3, tn_4, tn_5, tn_6, tn_7, tn_8, tn_9, tn_10, tn_11, tn_12, tn_13, tn_14, tn_15, if01]
      have nq : ∀ x y : Nat, x < 7 → y < 7 → (nI x = nI y) = (x = y) := fun x y hx hy => propext ⟨fun q => m_same_n (by omega) (by omega) q, fun q => by rw [q]⟩
      have f0 : (nI k = (0 : Int32)) = (k = 0) := nq k 0 hk (by omega)
      have f1 : (nI k = (1 : Int32)) = (k = 1) := nq k 1 hk (by omega)
      have f2 : (nI k = (2 : Int32)) = (k = 2) := nq k 2 hk (by omega)
      have f4 : (nI s = (4 : Int32)) = (s = 4) := nq s 4 hs (by omega)
      have f5 : (nI s = (5 : Int32)) = (s = 5) := nq s 5 hs (by omega)
      have fs : (nI k = nI s) = (k = s) := nq k s hk hs
      simp only [f0, f1, f2, f4, f5, fs]
      have yes : Ok (some (σ (20 + l) 1, σ)) (f_X10_as_66 (nI l) 1 τ) := by
        unfold f_X10_as_66
        rw [if_neg (by decide), m_it 1 (by omega) rfl (by omega), q1]
        exact Ok.mk h
      have no : Ok (bnd (f_X9_error (5 : Int32) σ) (fun r11 s10 => some (r11, s10))) (f_X10_as_66 (nI l) 0 τ) := by
        unfold f_X10_as_66
        rw [if_pos rfl, x_err5, m_err5]
        exact Ok.err h 5 (by decide)
      repeat' split
      all_goals first | exact yes | exact no | (exfalso; omega)
    · rw [if_neg c2, if_neg c2]; exact Ok.err h 1 (by decide)
  · rw [if_neg c1, if_neg c1]; exact Ok.err h 1 (by decide)
end
section
theorem join_eq {o : Int32} (ho : opS o) (p q : Int32) (σ τ : Sg) : ∃ r, f_X1_join p o q σ = some (r, σ) ∧ f_X10_twoOf o p q τ = some (r, τ) := by
  rcases ho with rfl | rfl | rfl | rfl | rfl | rfl | rfl | rfl | rfl | rfl <;> simp (decide := true) only [f_X1_join, f_X10_twoOf, reduceIte]
  · by_cases h : p = 0
    · by_cases h2 : q = 0
      · simp only [h, h2, if_true]; exact ⟨_, rfl, rfl⟩
      · simp only [h, h2, if_true, if_false]; exact ⟨_, rfl, rfl⟩
    · simp only [h, if_false]; exact ⟨_, rfl, rfl⟩
  · by_cases h : p = 0
    · simp only [h, if_true]; exact ⟨_, rfl, rfl⟩
    · by_cases h2 : q = 0
      · simp only [h, h2, if_true, if_false]; exact ⟨_, rfl, rfl⟩
      · simp only [h, h2, if_false]; exact ⟨_, rfl, rfl⟩
  · by_cases h : q ≤ p
    · rw [if_pos h, if_pos h]; exact ⟨_, rfl, rfl⟩
    · rw [if_neg h, if_neg h]; exact ⟨_, rfl, rfl⟩
  · by_cases h : p = q
    · rw [if_pos h, if_pos h]; exact ⟨_, rfl, rfl⟩
    · rw [if_neg h, if_neg h]; exact ⟨_, rfl, rfl⟩
  · by_cases h : p ≤ q
    · rw [if_pos h, if_pos h]; exact ⟨_, rfl, rfl⟩
    · rw [if_neg h, if_neg h]; exact ⟨_, rfl, rfl⟩
  · exact ⟨_, rfl, rfl⟩
  · exact ⟨_, rfl, rfl⟩
  · exact ⟨_, rfl, rfl⟩
  · by_cases h : q = 0
    · rw [if_pos h, if_pos h]; exact ⟨_, rfl, rfl⟩
    · have hq : nz q = true := by simp [nz, h]
      rw [if_neg h, if_neg h, ckb_t hq, ckb_t hq]; exact ⟨_, rfl, rfl⟩
  · by_cases h : q = 0
    · rw [if_pos h, if_pos h]; exact ⟨_, rfl, rfl⟩
    · have hq : nz q = true := by simp [nz, h]
      rw [if_neg h, if_neg h, ckb_t hq, ckb_t hq]; exact ⟨_, rfl, rfl⟩
theorem cap_st {u : Nat} (hu : u < 2) : capC (70 + u) = 60 := by
  have : u = 0 ∨ u = 1 := by omega
  rcases this with rfl | rfl <;> rfl
theorem x_pop {u s : Nat} (hu : u < 2) (hs : s < 60) {σ : Sg} (e : σ (52 + u) 1 = nI (s + 1)) : f_X1_pop (40 + u) σ = some (σ (70 + u) s, up σ (52 + u) 1 (nI s)) := by
  have es : (nI s).toInt = (s : Int) := i_nI (by omega)
  have es1 : (nI (s + 1)).toInt = ((s + 1 : Nat) : Int) := i_nI (by omega)
  have e2 : nI (s + 1) - (1 : Int32) = nI s := by rw [i_eq, i_sub (by rw [es1, ti_1]; omega) (by rw [es1, ti_1]; omega), es1, es, ti_1]; omega
  unfold f_X1_pop
  rw [show 40 + u + 12 = 52 + u by omega, e, if_neg (by rw [i_eq, es1, ti_0]; omega), e2]
  simp only [lt_a]
  rw [up_s, show 52 + u + 18 = 70 + u by omega, cap_st hu, ck_k es hs, rd_k es, up_k (by omega)]
theorem x_push {u s : Nat} (hu : u < 2) (hs : s < 60) {σ : Sg} (e : σ (52 + u) 1 = nI s) (v : Int32) : f_X6_add (40 + u + 12) v σ = some ((), up (up σ (70 + u) s v) (52 + u) 1 (nI (s + 1))) := by
  rw [show 40 + u + 12 = 52 + u by omega, x_add e (by rw [show 52 + u + 18 = 70 + u by omega, cap_st hu]; omega), show 52 + u + 18 = 70 + u by omega]
end
section
theorem cap_cd {u : Nat} (hu : u < 2) : capC (48 + u + 18) = 60 := by
  have : u = 0 ∨ u = 1 := by omega
  rcases this with rfl | rfl <;> rfl
theorem x_wo_num {u s c j : Nat} (hu : u < 2) (hs : s < 60) (hj : j < c) (hc : c ≤ 60) {σ : Sg} (n : Nat) (y0 y1 y2 v : Int32) (g1 : σ (48 + u) 1 = nI c) (g2 : σ (66 + u) j = v) (e1 : σ (52 + u) 1 = nI s) (hv : 0 ≤ v.toInt) : f_X1_workOut_10 (n + 1) (40 + u) y0 y1 y2 (nI j) σ = f_X1_workOut_10 n (40 + u) y0 y1 y2 (nI (j + 1)) (up (up σ (70 + u) s v) (52 + u) 1 (nI (s + 1))) := by
  have ec : (nI c).toInt = (c : Int) := i_nI (by omega)
  have ej : (nI j).toInt = (j : Int) := i_nI (by omega)
  have nle : ¬ nI c ≤ nI j := by rw [i_le, ec, ej]; omega
  have m1 : v ≠ -33 := fun e => by rw [e] at hv; exact absurd hv (by decide)
  have m2 : v ≠ -3 := fun e => by rw [e] at hv; exact absurd hv (by decide)
  have m3 : v ≠ -2 := fun e => by rw [e] at hv; exact absurd hv (by decide)
  have m4 : v ≠ -1 := fun e => by rw [e] at hv; exact absurd hv (by decide)
  have m5 : ¬ v < 0 := by rw [i_lt, ti_0]; omega
  rw [f_X1_workOut_10]
  unfold f_X1_workOut_10_b
  rw [show 40 + u + 8 = 48 + u by omega, g1, if_neg nle, cap_cd hu, ck_k ej (by omega), rd_k ej, show 48 + u + 18 = 66 + u by omega, g2]
  simp only [lt_a]
  rw [if_neg m1, if_neg m2, if_neg m3, if_neg m4, if_neg m5, x_push hu hs e1]
  simp only [bnd_s, nI_1]
theorem x_wo_arg {u s c j : Nat} (hu : u < 2) (hs : s < 60) (hj : j < c) (hc : c ≤ 60) {σ : Sg} (n : Nat) (y0 y1 y2 v w : Int32) (g1 : σ (48 + u) 1 = nI c) (g2 : σ (66 + u) j = v) (e1 : σ (52 + u) 1 = nI s) (hv : (w = y0 ∧ v = -1) ∨ (w = y1 ∧ v = -2) ∨ (w = y2 ∧ v = -3)) : f_X1_workOut_10 (n + 1) (40 + u) y0 y1 y2 (nI j) σ = f_X1_workOut_10 n (40 + u) y0 y1 y2 (nI (j + 1)) (up (up σ (70 + u) s w) (52 + u) 1 (nI (s + 1))) := by
  have ec : (nI c).toInt = (c : Int) := i_nI (by omega)
  have ej : (nI j).toInt = (j : Int) := i_nI (by omega)
  have nle : ¬ nI c ≤ nI j := by rw [i_le, ec, ej]; omega
  rw [f_X1_workOut_10]
  unfold f_X1_workOut_10_b
  rw [show 40 + u + 8 = 48 + u by omega, g1, if_neg nle, cap_cd hu, ck_k ej (by omega), rd_k ej, show 48 + u + 18 = 66 + u by omega, g2]
  simp only [lt_a]
  rcases hv with ⟨rfl, rfl⟩ | ⟨rfl, rfl⟩ | ⟨rfl, rfl⟩
  · rw [if_neg (by decide), if_neg (by decide), if_neg (by decide), if_pos rfl, x_push hu hs e1]
    simp only [bnd_s, nI_1]
  · rw [if_neg (by decide), if_neg (by decide), if_pos rfl, x_push hu hs e1]
    simp only [bnd_s, nI_1]
  · rw [if_neg (by decide), if_pos rfl, x_push hu hs e1]
    simp only [bnd_s, nI_1]
theorem x_wo_not {u s c j : Nat} (hu : u < 2) (hs : s < 60) (hj : j < c) (hc : c ≤ 60) {σ : Sg} (n : Nat) (y0 y1 y2 : Int32) (g1 : σ (48 + u) 1 = nI c) (g2 : σ (66 + u) j = -33) (e1 : σ (52 + u) 1 = nI (s + 1)) : f_X1_workOut_10 (n + 1) (40 + u) y0 y1 y2 (nI j) σ = f_X1_workOut_10 n (40 + u) y0 y1 y2 (nI (j + 1)) (up (up (up σ (52 + u) 1 (nI s)) (70 + u) s (if σ (70 + u) s = 0 then 1 else 0)) (52 + u) 1 (nI (s + 1))) := by
  have ec : (nI c).toInt = (c : Int) := i_nI (by omega)
  have ej : (nI j).toInt = (j : Int) := i_nI (by omega)
  have nle : ¬ nI c ≤ nI j := by rw [i_le, ec, ej]; omega
  rw [f_X1_workOut_10]
  unfold f_X1_workOut_10_b
  rw [show 40 + u + 8 = 48 + u by omega, g1, if_neg nle, cap_cd hu, ck_k ej (by omega), rd_k ej, show 48 + u + 18 = 66 + u by omega, g2]
  simp only [lt_a]
  rw [if_pos trivial, x_pop hu hs e1]
  simp only [bnd_s]
  by_cases h : σ (70 + u) s = 0
  · rw [if_pos h, if_pos h, x_push hu hs up_s]
    simp only [bnd_s, nI_1]
  · rw [if_neg h, if_neg h, x_push hu hs up_s]
    simp only [bnd_s, nI_1]
theorem x_wo_op {u s c j : Nat} (hu : u < 2) (hs : s + 1 < 60) (hj : j < c) (hc : c ≤ 60) {σ : Sg} (n : Nat) (y0 y1 y2 o r : Int32) (ho : opS o) (g1 : σ (48 + u) 1 = nI c) (g2 : σ (66 + u) j = -o) (e1 : σ (52 + u) 1 = nI (s + 2)) (hr : ∀ σ1, f_X1_join (σ (70 + u) s) o (σ (70 + u) (s + 1)) σ1 = some (r, σ1)) : f_X1_workOut_10 (n + 1) (40 + u) y0 y1 y2 (nI j) σ = f_X1_workOut_10 n (40 + u) y0 y1 y2 (nI (j + 1)) (up (up (up (up σ (52 + u) 1 (nI (s + 1))) (52 + u) 1 (nI s)) (70 + u) s r) (52 + u) 1 (nI (s + 1))) := by
  have ec : (nI c).toInt = (c : Int) := i_nI (by omega)
  have ej : (nI j).toInt = (j : Int) := i_nI (by omega)
  have nle : ¬ nI c ≤ nI j := by rw [i_le, ec, ej]; omega
  have m : -o ≠ (-33 : Int32) ∧ -o ≠ (-3 : Int32) ∧ -o ≠ (-2 : Int32) ∧ -o ≠ (-1 : Int32) ∧ -o < (0 : Int32) ∧ - -o = o := by
    rcases ho with rfl | rfl | rfl | rfl | rfl | rfl | rfl | rfl | rfl | rfl <;> decide
  obtain ⟨m1, m2, m3, m4, m5, m6⟩ := m
  rw [f_X1_workOut_10]
  unfold f_X1_workOut_10_b
  rw [show 40 + u + 8 = 48 + u by omega, g1, if_neg nle, cap_cd hu, ck_k ej (by omega), rd_k ej, show 48 + u + 18 = 66 + u by omega, g2]
  simp only [lt_a]
  rw [if_neg m1, if_neg m2, if_neg m3, if_neg m4, if_pos m5, m6, x_pop hu hs e1]
  simp only [bnd_s]
  rw [x_pop hu (by omega) up_s]
  simp only [bnd_s]
  rw [up_k (by omega), hr]
  simp only [bnd_s]
  rw [x_push hu (by omega) up_s]
  simp only [bnd_s, nI_1]
theorem m_e1 {u j k : Nat} (hu : u < 2) (hj : j < 60) {b kI : Int32} (eb : b.toInt = ((166 + 121 * u : Nat) : Int)) (ek : kI.toInt = (k : Int)) (hk : k ≤ 61) : (b + kI + nI j).toInt = ((166 + 121 * u + k + j : Nat) : Int) := by
  have ej : (nI j).toInt = (j : Int) := i_nI (by omega)
  have q : (b + kI).toInt = ((166 + 121 * u + k : Nat) : Int) := by rw [i_add (by rw [eb, ek]; omega) (by rw [eb, ek]; omega), eb, ek]; omega
  rw [i_add (by rw [q, ej]; omega) (by rw [q, ej]; omega), q, ej]; omega
theorem m_wo_not {u s c j : Nat} (hu : u < 2) (hs : s < 60) (hj : j < c) (hc : c ≤ 60) {bI : Int32} (eb : bI.toInt = ((166 + 121 * u : Nat) : Int)) {τ : Sg} (m : Nat) (g3 : τ 1 (166 + 121 * u) = nI c) (q1 : τ 1 (166 + 121 * u + 1 + j) = 3) : f_X10_works_4 (m + 1) bI (nI (s + 1)) (nI j) τ = f_X10_works_4 m bI (nI (s + 1)) (nI (j + 1)) (up τ 11 s (if τ 11 s = 0 then 1 else 0)) := by
  have ec : (nI c).toInt = (c : Int) := i_nI (by omega)
  have ej : (nI j).toInt = (j : Int) := i_nI (by omega)
  have es1 : (nI (s + 1)).toInt = ((s + 1 : Nat) : Int) := i_nI (by omega)
  have es : (nI (s + 1) - (1 : Int32)).toInt = (s : Int) := by rw [i_sub (by rw [es1, ti_1]; omega) (by rw [es1, ti_1]; omega), es1, ti_1]; omega
  have nle : ¬ nI c ≤ nI j := by rw [i_le, ec, ej]; omega
  have f1 := m_e1 (j := j) (k := 1) hu (by omega) eb ti_1 (by omega)
  rw [f_X10_works_4]
  unfold f_X10_works_4_b
  rw [ck_k eb (by omega), rd_k eb, g3, if_neg nle, ck_k f1 (by omega), rd_k f1, lt_a]
  rw [q1, if_neg (show ¬ ((3 : Int32) = 1) by decide), if_neg (show ¬ ((3 : Int32) = 2) by decide), if_pos rfl]
  rw [ck_k es hs, rd_k es]
  by_cases h : τ 11 s = 0
  · rw [if_pos h, if_pos h, ck_k es hs, tn_k es, lt_a, lt_a, nI_1]
  · rw [if_neg h, if_neg h, ck_k es hs, tn_k es, lt_a, lt_a, nI_1]
theorem m_wo_op {u s c j : Nat} (hu : u < 2) (hs : s + 1 < 60) (hj : j < c) (hc : c ≤ 60) {bI : Int32} (eb : bI.toInt = ((166 + 121 * u : Nat) : Int)) {τ : Sg} (m : Nat) (o r : Int32) (ho : opS o) (g3 : τ 1 (166 + 121 * u) = nI c) (q1 : τ 1 (166 + 121 * u + 1 + j) = o) (hr : f_X10_twoOf o (τ 11 s) (τ 11 (s + 1)) τ = some (r, τ)) : f_X10_works_4 (m + 1) bI (nI (s + 2)) (nI j) τ = f_X10_works_4 m bI (nI (s + 1)) (nI (j + 1)) (up τ 11 s r) := by
  have ec : (nI c).toInt = (c : Int) := i_nI (by omega)
  have ej : (nI j).toInt = (j : Int) := i_nI (by omega)
  have es2 : (nI (s + 2)).toInt = ((s + 2 : Nat) : Int) := i_nI (by omega)
  have es1 : (nI (s + 1)).toInt = ((s + 1 : Nat) : Int) := i_nI (by omega)
  have tm : (-1 : Int32).toInt = -1 := rfl
  have e1 : nI (s + 2) + (-1 : Int32) = nI (s + 1) := by rw [i_eq, i_add (by rw [es2, tm]; omega) (by rw [es2, tm]; omega), es2, es1, tm]; omega
  have es : (nI (s + 1) - (1 : Int32)).toInt = (s : Int) := by rw [i_sub (by rw [es1, ti_1]; omega) (by rw [es1, ti_1]; omega), es1, ti_1]; omega
  have nle : ¬ nI c ≤ nI j := by rw [i_le, ec, ej]; omega
  have f1 := m_e1 (j := j) (k := 1) hu (by omega) eb ti_1 (by omega)
  have om : o ≠ (1 : Int32) ∧ o ≠ (2 : Int32) ∧ o ≠ (3 : Int32) := by
    rcases ho with rfl | rfl | rfl | rfl | rfl | rfl | rfl | rfl | rfl | rfl <;> decide
  rw [f_X10_works_4]
  unfold f_X10_works_4_b
  rw [ck_k eb (by omega), rd_k eb, g3, if_neg nle, ck_k f1 (by omega), rd_k f1, lt_a]
  rw [q1, if_neg om.1, if_neg om.2.1, if_neg om.2.2, lt_a, e1, ck_k es (show s < 60 by omega), ck_k es1 (show s + 1 < 60 by omega), rd_k es, rd_k es1, hr, bnd_s, ck_k es (show s < 60 by omega), tn_k es, lt_a, lt_a, nI_1]
theorem m_wo_push {u s c j : Nat} (hu : u < 2) (hs : s < 60) (hj : j < c) (hc : c ≤ 60) {bI : Int32} (eb : bI.toInt = ((166 + 121 * u : Nat) : Int)) {τ : Sg} (m : Nat) (v : Int32) (g3 : τ 1 (166 + 121 * u) = nI c) (hv : (τ 1 (166 + 121 * u + 1 + j) = 1 ∧ τ 1 (166 + 121 * u + 61 + j) = v) ∨ (τ 1 (166 + 121 * u + 1 + j) = 2 ∧ ∃ k : Nat, k < 3 ∧ τ 1 (166 + 121 * u + 61 + j) = nI k ∧ τ 10 k = v)) : f_X10_works_4 (m + 1) bI (nI s) (nI j) τ = f_X10_works_4 m bI (nI (s + 1)) (nI (j + 1)) (up τ 11 s v) := by
  have ec : (nI c).toInt = (c : Int) := i_nI (by omega)
  have ej : (nI j).toInt = (j : Int) := i_nI (by omega)
  have es : (nI s).toInt = (s : Int) := i_nI (by omega)
  have nle : ¬ nI c ≤ nI j := by rw [i_le, ec, ej]; omega
  have f1 := m_e1 (j := j) (k := 1) hu (by omega) eb ti_1 (by omega)
  have f61 := m_e1 (j := j) (k := 61) hu (by omega) eb ti_61 (by omega)
  rw [f_X10_works_4]
  unfold f_X10_works_4_b
  rw [ck_k eb (by omega), rd_k eb, g3, if_neg nle, ck_k f1 (by omega), rd_k f1, lt_a]
  rcases hv with ⟨q1, q2⟩ | ⟨q1, k, q2, q3, q4⟩
  · rw [q1, if_pos rfl]
    unfold f_X10_works_38
    rw [if_pos rfl, ck_k f61 (by omega), ck_k es hs, tn_k es, rd_k f61, q2]
    rw [lt_a, lt_a, nI_1, lt_a, nI_1]
  · have ek : (nI k).toInt = (k : Int) := i_nI (by omega)
    rw [q1, if_neg (show ¬ ((2 : Int32) = 1) by decide), if_pos rfl]
    unfold f_X10_works_38
    rw [if_neg (show ¬ ((2 : Int32) = 1) by decide), ck_k f61 (by omega), rd_k f61, q3, ck_k ek q2, ck_k es hs, tn_k es, rd_k ek, q4]
    rw [lt_a, lt_a, nI_1, lt_a, nI_1]
end
section
def WR (u : Nat) (σ τ σ' τ' : Sg) : Prop := (∀ k, k ≠ 52 + u → k ≠ 70 + u → σ' k = σ k) ∧ (∀ k, k ≠ 11 → τ' k = τ k)
theorem WR.tr {u : Nat} {σ τ σ1 τ1 σ2 τ2 : Sg} (h1 : WR u σ τ σ1 τ1) (h2 : WR u σ1 τ1 σ2 τ2) : WR u σ τ σ2 τ2 :=
  ⟨fun k a b => (h2.1 k a b).trans (h1.1 k a b), fun k a => (h2.2 k a).trans (h1.2 k a)⟩
def WS (u c j s : Nat) (xs a w : Nat → Int32) (y0 y1 y2 : Int32) (σ τ : Sg) : Prop :=
  σ (48 + u) 1 = nI c ∧ (∀ i, i < c → σ (66 + u) i = xs i) ∧ τ 1 (166 + 121 * u) = nI c ∧ (∀ i, i < c → τ 1 (166 + 121 * u + 1 + i) = a i ∧ τ 1 (166 + 121 * u + 61 + i) = w i) ∧ τ 10 0 = y0 ∧ τ 10 1 = y1 ∧ τ 10 2 = y2 ∧ σ (52 + u) 1 = nI s ∧ (s : Int) = dp a j ∧ s ≤ j ∧ (∀ i, i < s → σ (70 + u) i = τ 11 i)
theorem WS.next {u c j s s' : Nat} (hu : u < 2) {xs a w : Nat → Int32} {y0 y1 y2 : Int32} {σ τ : Sg} (h : WS u c j s xs a w y0 y1 y2 σ τ) (v : Int32) {σ1 : Sg} (hσ : ∀ k, k ≠ 52 + u → σ1 k = σ k) (hs : s' ≤ s) (hd : ((s' + 1 : Nat) : Int) = dp a (j + 1)) : WS u c (j + 1) (s' + 1) xs a w y0 y1 y2 (up (up σ1 (70 + u) s' v) (52 + u) 1 (nI (s' + 1))) (up τ 11 s' v) ∧ WR u σ τ (up (up σ1 (70 + u) s' v) (52 + u) 1 (nI (s' + 1))) (up τ 11 s' v) := by
  obtain ⟨g1, g2, g3, g4, z0, z1, z2, e1, e2, e3, e4⟩ := h
  refine ⟨⟨?_, fun i hi => ?_, ?_, fun i hi => ?_, ?_, ?_, ?_, up_s, hd, by omega, fun i hi => ?_⟩, fun k p q => by rw [up_row p, up_row q, hσ k p], fun k p => up_row p⟩
  · rw [up_k (by omega), up_k (by omega), hσ _ (by omega)]; exact g1
  · rw [up_k (by omega), up_k (by omega), hσ _ (by omega)]; exact g2 i hi
  · rw [up_k (by decide)]; exact g3
  · rw [up_k (by decide), up_k (by decide)]; exact g4 i hi
  · rw [up_k (by decide)]; exact z0
  · rw [up_k (by decide)]; exact z1
  · rw [up_k (by decide)]; exact z2
  · rw [up_k (by omega)]
    by_cases h : i = s'
    · subst h; rw [up_s, up_s]
    · rw [up_i h, up_i h, hσ _ (by omega)]; exact e4 i (by omega)
theorem works_zero {u c : Nat} (hu : u < 2) (hc : c ≤ 60) {bI : Int32} (eb : bI.toInt = ((166 + 121 * u : Nat) : Int)) {xs a w : Nat → Int32} (H : dp a c = 1) (y0 y1 y2 : Int32) (n m s : Nat) (σ τ : Sg) (h : WS u c c s xs a w y0 y1 y2 σ τ) : ∃ r σ' τ', f_X1_workOut_10 (n + 1) (40 + u) y0 y1 y2 (nI c) σ = some (r, σ') ∧ f_X10_works_4 (m + 1) bI (nI s) (nI c) τ = some (r, τ') ∧ WR u σ τ σ' τ' := by
  obtain ⟨g1, g2, g3, g4, z0, z1, z2, e1, e2, e3, e4⟩ := h
  have ec : (nI c).toInt = (c : Int) := i_nI (by omega)
  have s1 : s = 0 + 1 := by omega
  rw [s1] at e1 e4
  have le : nI c ≤ nI c := by rw [i_le]; omega
  refine ⟨σ (70 + u) 0, up σ (52 + u) 1 (nI 0), τ, ?_, ?_, ?_⟩
  · rw [f_X1_workOut_10]
    unfold f_X1_workOut_10_b
    rw [show 40 + u + 8 = 48 + u by omega, g1, if_pos le, x_pop hu (s := 0) (by omega) e1, bnd_s]
  · rw [f_X10_works_4]
    unfold f_X10_works_4_b
    rw [ck_k eb (by omega), rd_k eb, g3, if_pos le, ck_k (k := 0) ti_0 (by omega), rd_k (k := 0) ti_0, e4 0 (by omega)]
  · exact ⟨fun k p q => up_row p, fun _ _ => rfl⟩
theorem works_eq {u c : Nat} (hu : u < 2) (hc : c ≤ 60) {bI : Int32} (eb : bI.toInt = ((166 + 121 * u : Nat) : Int)) {xs a w : Nat → Int32} (H : Cod c xs a w) (y0 y1 y2 : Int32) : ∀ (d j n m s : Nat) (σ τ : Sg), j + d = c → d < n → d < m → WS u c j s xs a w y0 y1 y2 σ τ → ∃ r σ' τ', f_X1_workOut_10 n (40 + u) y0 y1 y2 (nI j) σ = some (r, σ') ∧ f_X10_works_4 m bI (nI s) (nI j) τ = some (r, τ') ∧ WR u σ τ σ' τ' := by
  intro d
  induction d with
  | zero =>
    intro j n m s σ τ hj hn hm h
    obtain ⟨n, rfl⟩ : ∃ k, n = k + 1 := ⟨n - 1, by omega⟩
    obtain ⟨m, rfl⟩ : ∃ k, m = k + 1 := ⟨m - 1, by omega⟩
    have hjc : j = c := by omega
    subst hjc
    exact works_zero hu hc eb H.2 y0 y1 y2 n m s σ τ h
  | succ d ih =>
    intro j n m s σ τ hj hn hm h
    obtain ⟨n, rfl⟩ : ∃ k, n = k + 1 := ⟨n - 1, by omega⟩
    obtain ⟨m, rfl⟩ : ∃ k, m = k + 1 := ⟨m - 1, by omega⟩
    obtain ⟨g1, g2, g3, g4, z0, z1, z2, e1, e2, e3, e4⟩ := id h
    obtain ⟨c1, c2, c3⟩ := H.1 j (by omega)
    have dpj : dp a (j + 1) = if a j = 1 ∨ a j = 2 then dp a j + 1 else if a j = 3 then dp a j else dp a j - 1 := by rw [dp]
    have G2 := g2 j (by omega)
    have G4 := g4 j (by omega)
    have go : ∀ (s' : Nat) (v : Int32) (σ1 : Sg), (∀ k, k ≠ 52 + u → σ1 k = σ k) → s' ≤ s → ((s' + 1 : Nat) : Int) = dp a (j + 1) → ∃ r σ' τ', f_X1_workOut_10 n (40 + u) y0 y1 y2 (nI (j + 1)) (up (up σ1 (70 + u) s' v) (52 + u) 1 (nI (s' + 1))) = some (r, σ') ∧ f_X10_works_4 m bI (nI (s' + 1)) (nI (j + 1)) (up τ 11 s' v) = some (r, τ') ∧ WR u σ τ σ' τ' := by
      intro s' v σ1 q1 q2 q3
      obtain ⟨w1, w2⟩ := h.next hu v q1 q2 q3
      obtain ⟨r, σ', τ', p1, p2, p3⟩ := ih (j + 1) n m (s' + 1) _ _ (by omega) (by omega) (by omega) w1
      exact ⟨r, σ', τ', p1, p2, w2.tr p3⟩
    rcases c1 with ⟨q1, q2, q3⟩ | ⟨q1, q2⟩ | ⟨q1, q2⟩ | ⟨q1, q2⟩
    · rw [x_wo_num hu (by omega) (by omega) hc n y0 y1 y2 (xs j) g1 G2 e1 q3, m_wo_push hu (by omega) (by omega) hc eb m (xs j) g3 (Or.inl ⟨by rw [G4.1, q1], by rw [G4.2, q2]⟩)]
      exact go s (xs j) σ (fun _ _ => rfl) (by omega) (by rw [dpj, if_pos (Or.inl q1), ← e2]; omega)
    · have key : ∀ (k : Nat) (v : Int32), k < 3 → w j = nI k → τ 10 k = v → ((v = y0 ∧ xs j = -1) ∨ (v = y1 ∧ xs j = -2) ∨ (v = y2 ∧ xs j = -3)) → ∃ r σ' τ', f_X1_workOut_10 (n + 1) (40 + u) y0 y1 y2 (nI j) σ = some (r, σ') ∧ f_X10_works_4 (m + 1) bI (nI s) (nI j) τ = some (r, τ') ∧ WR u σ τ σ' τ' := by
        intro k v k1 k2 k3 k4
        rw [x_wo_arg hu (by omega) (by omega) hc n y0 y1 y2 (xs j) v g1 G2 e1 k4, m_wo_push hu (by omega) (by omega) hc eb m v g3 (Or.inr ⟨by rw [G4.1, q1], k, k1, by rw [G4.2, k2], k3⟩)]
        exact go s v σ (fun _ _ => rfl) (by omega) (by rw [dpj, if_pos (Or.inr q1), ← e2]; omega)
      rcases q2 with ⟨r1, r2⟩ | ⟨r1, r2⟩ | ⟨r1, r2⟩
      · exact key 0 y0 (by omega) r1 z0 (Or.inl ⟨rfl, r2⟩)
      · exact key 1 y1 (by omega) r1 z1 (Or.inr (Or.inl ⟨rfl, r2⟩))
      · exact key 2 y2 (by omega) r1 z2 (Or.inr (Or.inr ⟨rfl, r2⟩))
    · have d1 := c2 q1
      obtain ⟨s', rfl⟩ : ∃ k, s = k + 1 := ⟨s - 1, by omega⟩
      have n12 : ¬ (a j = 1 ∨ a j = 2) := by rw [q1]; decide
      rw [x_wo_not hu (s := s') (by omega) (by omega) hc n y0 y1 y2 g1 (by rw [G2, q2]) e1, m_wo_not hu (s := s') (by omega) (by omega) hc eb m g3 (by rw [G4.1, q1]), e4 s' (by omega)]
      exact go s' _ _ (fun k hk => up_row hk) (by omega) (by rw [dpj, if_neg n12, if_pos q1, ← e2])
    · have d2 := c3 q1
      obtain ⟨s', rfl⟩ : ∃ k, s = k + 2 := ⟨s - 2, by omega⟩
      have n12 : ¬ (a j = 1 ∨ a j = 2) ∧ a j ≠ 3 := by
        rcases q1 with q | q | q | q | q | q | q | q | q | q <;> rw [q] <;> decide
      obtain ⟨r, _, jr2⟩ := join_eq q1 (σ (70 + u) s') (σ (70 + u) (s' + 1)) σ τ
      have jr1 : ∀ σ1, f_X1_join (σ (70 + u) s') (a j) (σ (70 + u) (s' + 1)) σ1 = some (r, σ1) := by
        intro σ1
        obtain ⟨r', A, B⟩ := join_eq q1 (σ (70 + u) s') (σ (70 + u) (s' + 1)) σ1 τ
        rw [A]; rw [jr2] at B; cases B; rfl
      rw [x_wo_op hu (s := s') (by omega) (by omega) hc n y0 y1 y2 (a j) r q1 g1 (by rw [G2, q2]) e1 jr1, m_wo_op hu (s := s') (by omega) (by omega) hc eb m (a j) r q1 g3 G4.1 (by rw [← e4 s' (by omega), ← e4 (s' + 1) (by omega)]; exact jr2)]
      exact go s' r _ (fun k hk => by rw [up_row hk, up_row hk]) (by omega) (by rw [dpj, if_neg n12.1, if_neg n12.2, ← e2]; omega)
end
section
theorem held_eq (a b : Int32) (hb : 0 ≤ b.toInt) (σ τ : Sg) : ∃ v, f_X9_held a b σ = some (v, σ) ∧ f_X10_held a (0 : Int32) b τ = some (v, τ) ∧ 0 ≤ v.toInt ∧ v.toInt ≤ b.toInt := by
  refine ⟨mx (0 : Int32) (mn a b), rfl, ?_, by (unfold mx mn; simp only [i_lt, ti_0]; repeat' split) <;> (first | omega | (rw [ti_0]; omega)), by (unfold mx mn; simp only [i_lt, ti_0]; repeat' split) <;> (first | omega | (rw [ti_0]; omega))⟩
  unfold f_X10_held mx mn
  simp only [i_le, i_lt, ti_0]
  by_cases h : 0 ≤ a.toInt
  · rw [if_pos h]
    by_cases h2 : a.toInt ≤ b.toInt
    · rw [if_pos h2, if_neg (show ¬ b.toInt < a.toInt by omega)]
      by_cases h3 : 0 < a.toInt
      · rw [if_pos h3]
      · rw [if_neg h3, show a = 0 by rw [i_eq, ti_0]; omega]
    · rw [if_neg h2, if_pos (show b.toInt < a.toInt by omega)]
      by_cases h3 : 0 < b.toInt
      · rw [if_pos h3]
      · rw [if_neg h3, show b = 0 by rw [i_eq, ti_0]; omega]
  · rw [if_neg h, if_neg (show ¬ b.toInt < a.toInt by omega), if_neg (by omega)]
theorem eqX_W {u : Nat} (hu : u < 2) {σ σ' : Sg} (h : ∀ k, k ≠ 52 + u → k ≠ 70 + u → σ' k = σ k) : eqX σ σ' := by
  intro k hk
  refine h k ?_ ?_
  · rintro rfl
    have : u = 0 ∨ u = 1 := by omega
    rcases this with rfl | rfl <;> exact absurd hk (by decide)
  · rintro rfl
    have : u = 0 ∨ u = 1 := by omega
    rcases this with rfl | rfl <;> exact absurd hk (by decide)
theorem eqM_W {τ τ' : Sg} (h : ∀ k, k ≠ 10 → k ≠ 11 → τ' k = τ k) : eqM τ τ' := by
  unfold eqM
  rw [h 1 (by decide) (by decide), h 2 (by decide) (by decide), h 4 (by decide) (by decide), h 5 (by decide) (by decide), h 6 (by decide) (by decide), h 7 (by decide) (by decide), h 13 (by decide) (by decide), h 0 (by decide) (by decide)]
  exact ⟨rfl, rfl, rfl, rfl, rfl, rfl, rfl, rfl, rfl⟩
theorem m_gives {u : Nat} (hu : u < 2) (p q r : Int32) (τ : Sg) : f_X10_gives (nI u) p q r τ = f_X10_gives_57 ((166 : Int32) + ((121 : Int32) * nI u)) (if u = 0 then (if r = 1 then p / 2 else p) else 10 * p) (up (up (up τ 10 0 p) 10 1 q) 10 2 r) := by
  unfold f_X10_gives
  have : u = 0 ∨ u = 1 := by omega
  simp only [lt_a, bnd_s, lt_a, if01, ckb_01, rd_0, rd_1, rd_2, rd_3, rd_4, rd_5, rd_6, rd_7, rd_8, rd_9, rd_10, rd_11, rd_12, rd_13, rd_14, rd_15, ck_0, ck_1, ck_2, ck_3, ck_4, ck_5, ck_6, ck_7, ck_8, ck_9, ck_10, ck_11, ck_12, ck_13, ck_14, ck_15, tn_0, tn_1, tn_2, tn_3, tn_4, tn_5, tn_6, tn_7, tn_8, tn_9, tn_10, tn_11, tn_12, tn_13, tn_14, tn_15]
  rw [ck_k (k := 0) ti_0 (by omega), ck_k (k := 1) ti_1 (by omega), ck_k (k := 2) ti_2 (by omega)]
  rcases this with rfl | rfl
  · rw [if_neg (show ¬ nI 0 = (1 : Int32) by decide), if_pos (show (0 : Nat) = 0 from rfl)]
    by_cases h : r = 1
    · rw [if_pos h, if_pos h]
    · rw [if_neg h, if_neg h]
  · rw [if_pos (show nI 1 = (1 : Int32) from rfl), if_neg (show ¬ (1 : Nat) = 0 by decide)]
/-! what is only thought: the day of M may be another one than that of X -/
def Vw (n : Nat) (D : Int32) (σ τ : Sg) : Prop := n ≤ 10 ∧ σ 1 1 = nI n ∧ τ 1 2 = nI n ∧ τ 1 0 = D ∧ (0 ≤ D.toInt ∧ D.toInt ≤ 20000) ∧ τ 1 3 = σ 1 3 ∧ (∀ l, l < n → LnOK (σ (20 + l)) D ∧ ∀ f, f < 7 → τ 1 (12 + 7 * l + f) = σ (20 + l) f) ∧ (∀ l, l < 10 → σ (20 + l) 6 = 0 ∨ σ (20 + l) 6 = 1) ∧ ∀ u, u < 2 → Cd (σ (40 + u) 0) (σ (48 + u) 1) (σ (66 + u)) (fun j => τ 1 (166 + 121 * u + j))
theorem Sim.vw {σ τ : Sg} (h : Sim σ τ) : ∃ n, Vw n (σ 1 2) σ τ := by
  obtain ⟨a1, a2, ⟨n, hn, e1, e2, a3⟩, a4, a5, a6, a7⟩ := h.1
  have h2 := a1.2.2.1
  exact ⟨n, hn, e1, e2, a1.1, ⟨a1.2.1, by omega⟩, a1.2.2.2.1, a3, a4, a7⟩
theorem Vw.eq {n : Nat} {D : Int32} {σ τ σ' τ' : Sg} (h : Vw n D σ τ) (e : eqX σ σ') (em : eqM τ τ') : Vw n D σ' τ' := by
  obtain ⟨h1, h2, h3, h4, h5, h6, h7, h8, h9⟩ := h
  refine ⟨h1, by rw [e 1 rfl]; exact h2, by rw [em.1]; exact h3, by rw [em.1]; exact h4, h5, by rw [em.1, e 1 rfl]; exact h6, fun l hl => ?_, fun l hl => ?_, fun u hu => ?_⟩
  · rw [em.1, e _ (rlv_l (l := l) (by omega)).1]; exact h7 l hl
  · rw [e _ (rlv_l hl).1]; exact h8 l hl
  · have q := rlv_u (u := u) (by omega)
    rw [em.1, e _ q.2.1, e _ q.2.2.1, e _ q.2.2.2.1]; exact h9 u hu
theorem gives_eq {m : Nat} {D : Int32} {σ τ : Sg} (h : Vw m D σ τ) {u : Nat} (hu : u < 2) (p q r : Int32) : ∃ v σ' τ', f_X0_lawGives (nI u) p q r σ = some (v, σ') ∧ f_X10_gives (nI u) p q r τ = some (v, τ') ∧ eqX σ σ' ∧ eqM τ τ' ∧ 0 ≤ v.toInt ∧ v.toInt ≤ 999 ∧ σ' 4 = σ 4 := by
  have eu : (nI u).toInt = (u : Int) := i_nI (by omega)
  have e121 : ((121 : Int32) * nI u).toInt = 121 * (u : Int) := by
    have q : (121 : Int32).toInt = 121 := rfl
    rw [i_mul (by rw [eu, q]; omega) (by rw [eu, q]; omega), eu, q]
  have eb : ((166 : Int32) + ((121 : Int32) * nI u)).toInt = ((166 + 121 * u : Nat) : Int) := by rw [i_add (by rw [e121, ti_166]; omega) (by rw [e121, ti_166]; omega), e121, ti_166]; omega
  obtain ⟨c, hc, k1, k2⟩ := h.2.2.2.2.2.2.2.2 u hu
  have k1' : σ (48 + u) 1 = nI c := k1
  have e999 : 0 ≤ (999 : Int32).toInt := by decide
  have mM : ∀ k, k ≠ 10 → k ≠ 11 → up (up (up τ 10 0 p) 10 1 q) 10 2 r k = τ k := fun k b _ => by rw [up_row b, up_row b, up_row b]
  rw [m_gives hu]
  unfold f_X0_lawGives f_X10_gives_57
  rw [ck_k eu hu, ck_k eb (by omega), rd_k eb, mM 1 (by decide) (by decide), lt_a, tn_k eu]
  rcases k2 with ⟨t0, t1⟩ | ⟨t0, t1, t2, t3⟩
  · have t0' : σ (40 + u) 0 = 0 := t0
    have t1' : τ 1 (166 + 121 * u) = 0 := t1
    rw [t0', t1', if_pos rfl, if_pos (show (0 : Int32) ≤ 0 by decide)]
    have fin : ∀ z : Int32, ∃ v σ' τ', f_X9_held z (999 : Int32) σ = some (v, σ') ∧ f_X10_held z (0 : Int32) (999 : Int32) (up (up (up τ 10 0 p) 10 1 q) 10 2 r) = some (v, τ') ∧ eqX σ σ' ∧ eqM τ τ' ∧ 0 ≤ v.toInt ∧ v.toInt ≤ 999 ∧ σ' 4 = σ 4 := by
      intro z
      obtain ⟨v, v1, v2, v3⟩ := held_eq z 999 e999 σ (up (up (up τ 10 0 p) 10 1 q) 10 2 r)
      exact ⟨v, _, _, v1, v2, eqX.rf, eqM_W mM, v3.1, v3.2, rfl⟩
    have xx : ∀ (x : Option (Int32 × Sg)), bnd x (fun r2 s1 => some (r2, s1)) = x := by
      intro x; cases x with
      | none => rfl
      | some y => rfl
    simp only [f_X0_lawGives_47, xx, lt_a]
    have hu' : u = 0 ∨ u = 1 := by omega
    rcases hu' with rfl | rfl
    · rw [if_pos (show nI 0 = (0 : Int32) from rfl), if_pos (show (0 : Nat) = 0 from rfl)]
      by_cases hr : r = 1
      · rw [if_pos hr, if_pos hr]; exact fin _
      · rw [if_neg hr, if_neg hr]; exact fin _
    · rw [if_neg (show ¬ nI 1 = (0 : Int32) by decide), if_neg (show ¬ (1 : Nat) = 0 by decide)]; exact fin _
  · have t0' : σ (40 + u) 0 = 1 := t0
    have t2' : τ 1 (166 + 121 * u) = nI c := t2
    have ec : (nI c).toInt = (c : Int) := i_nI (by omega)
    rw [t0', t2', if_neg (show ¬ ((1 : Int32) = 0) by decide), if_neg (show ¬ nI c ≤ 0 by rw [i_le, ec, ti_0]; omega), ck_k eu hu, lt_a]
    unfold f_X1_workOut f_X10_works f_X6_clear
    rw [lt_a, bnd_s, show 40 + u + 12 = 52 + u by omega]
    obtain ⟨v, σ', τ', p1, p2, p3⟩ := works_eq hu hc eb t3 p q r c 0 fuN fuN 0 (up σ (52 + u) 1 0) (up (up (up τ 10 0 p) 10 1 q) 10 2 r) (by omega) (by have := fu_le; omega) (by have := fu_le; omega) ⟨by rw [up_k (by omega)]; exact k1', fun i hi => by rw [up_k (by omega)], by rw [mM 1 (by decide) (by decide)]; exact t2', fun i hi => by rw [mM 1 (by decide) (by decide)]; exact ⟨congrArg (τ 1) (by omega), congrArg (τ 1) (by omega)⟩, by rw [up_i (by decide), up_i (by decide), up_s], by rw [up_i (by decide), up_s], up_s, by rw [up_s]; rfl, rfl, by omega, fun i hi => absurd hi (by omega)⟩
    rw [nI_0] at p1 p2
    rw [p1, p2, bnd_s, bnd_s]
    obtain ⟨y, y1, y2, y3⟩ := held_eq v 999 e999 σ' τ'
    rw [y1, y2, bnd_s, bnd_s]
    refine ⟨y, σ', τ', rfl, rfl, eqX_W hu (fun k b d => by rw [p3.1 k b d, up_row b]), eqM_W (fun k b d => by rw [p3.2 k d, mM k b d]), y3.1, y3.2, (p3.1 4 (by omega) (by omega)).trans (up_row (by omega))⟩
theorem eq_law {σ τ : Sg} (h : Sim σ τ) (a b c d : Int32) : Ok (f_X9_law a b c d σ) (f_X10_law a b c d τ) := by
  unfold f_X9_law f_X10_law
  simp only [x_isIn, m_in, x_err1, m_err1, bnd_s, lt_a, if01, ckb_01, rd_0, rd_1, rd_2, rd_3, rd_4, rd_5, rd_6, rd_7, rd_8, rd_9, rd_10, rd_11, rd_12, rd_13, rd_14, rd_15, ck_0, ck_1, ck_2, ck_3, ck_4, ck_5, ck_6, ck_7, ck_8, ck_9, ck_10, ck_11, ck_12, ck_13, ck_14, ck_15, tn_0, tn_1, tn_2, tn_3, tn_4, tn_5, tn_6, tn_7, tn_8, tn_9, tn_10, tn_11, tn_12, tn_13, tn_14, tn_15]
  by_cases ha : 0 ≤ a ∧ a ≤ 1
  · rw [if_pos ha, if_pos ha]
    simp only [i_le, ti_0, ti_1, ti_2, ti_3, ti_4, ti_5, ti_6, ti_7, ti_8, ti_9, ti_10, ti_11, ti_12, ti_13, ti_14, ti_15] at ha
    obtain ⟨u, hu, rfl⟩ := nI_ofi (a := a) (n := 2) ha.1 (by omega)
    obtain ⟨m, hv⟩ := h.vw
    obtain ⟨v, σ', τ', p1, p2, p3, p4⟩ := gives_eq hv hu b c d
    rw [p1, p2, bnd_s, bnd_s]
    exact Ok.mk (Sim_eq h p3 p4.1)
  · rw [if_neg ha, if_neg ha]; exact Ok.err h 1 (by decide)
end
section
theorem m_held {a b : Int32} (hb : 0 ≤ b.toInt) (τ : Sg) : f_X10_held a (0 : Int32) b τ = some (mx (0 : Int32) (mn a b), τ) := by
  obtain ⟨v, v1, v2, _⟩ := held_eq a b hb τ τ
  have e : f_X9_held a b τ = some (mx (0 : Int32) (mn a b), τ) := rfl
  rw [v1] at e
  rw [v2, e]
theorem i_mx {a b : Int32} : (mx a b).toInt = if a.toInt < b.toInt then b.toInt else a.toInt := by
  unfold mx
  simp only [i_lt]
  split <;> rfl
theorem i_mn {a b : Int32} : (mn a b).toInt = if b.toInt < a.toInt then b.toInt else a.toInt := by
  unfold mn
  simp only [i_lt]
  split <;> rfl
theorem i_div2 {a : Int32} (h : 0 ≤ a.toInt) : (a / (2 : Int32)).toInt = a.toInt / 2 := by
  have h1 := i_hi a
  rw [Int32.toInt_div, ti_2, Int.tdiv_eq_ediv_of_nonneg h, bm (by omega) (by omega)]
theorem mxmn_id {a b : Int32} (h0 : 0 ≤ a.toInt) (h1 : a.toInt ≤ b.toInt) : mx (0 : Int32) (mn a b) = a := by
  rw [i_eq, i_mx, i_mn, ti_0]
  rw [if_neg (show ¬ b.toInt < a.toInt by omega)]
  split <;> omega
theorem base_eq {day since : Int32} (h0 : 0 ≤ since.toInt) (h1 : since.toInt ≤ day.toInt) (h2 : day.toInt ≤ 20000) : mx (0 : Int32) ((50 : Int32) - ((5 : Int32) * (day - since))) = mx (0 : Int32) (mn ((50 : Int32) - ((5 : Int32) * (day - since))) 50) ∧ 0 ≤ (mx (0 : Int32) ((50 : Int32) - ((5 : Int32) * (day - since)))).toInt ∧ (mx (0 : Int32) ((50 : Int32) - ((5 : Int32) * (day - since)))).toInt ≤ 50 := by
  have t50 : (50 : Int32).toInt = 50 := rfl
  have e1 : (day - since).toInt = day.toInt - since.toInt := i_sub (by omega) (by omega)
  have e2 : ((5 : Int32) * (day - since)).toInt = 5 * (day.toInt - since.toInt) := by rw [i_mul (by rw [e1, ti_5]; omega) (by rw [e1, ti_5]; omega), e1, ti_5]
  have e3 : ((50 : Int32) - ((5 : Int32) * (day - since))).toInt = 50 - 5 * (day.toInt - since.toInt) := by rw [i_sub (by rw [e2, t50]; omega) (by rw [e2, t50]; omega), e2, t50]
  refine ⟨?_, ?_, ?_⟩
  · rw [i_eq, i_mx, i_mx, i_mn, e3, t50, ti_0]
    rw [if_neg (show ¬ (50 : Int) < 50 - 5 * (day.toInt - since.toInt) by omega)]
  · rw [i_mx, e3, ti_0]; split <;> omega
  · rw [i_mx, e3, ti_0]; split <;> omega
theorem x_held (a b : Int32) (σ : Sg) : f_X9_held a b σ = some (mx (0 : Int32) (mn a b), σ) := rfl
theorem back_eq {n : Nat} {D : Int32} {σ τ : Sg} (h : Vw n D σ τ) {l : Nat} (hl : l < n) : ∃ v, f_X2_back (20 + l) D σ = some (v, σ) ∧ f_X10_backOf (nI l) τ = some (v, τ) ∧ 0 ≤ v.toInt ∧ v.toInt ≤ 100 := by
  obtain ⟨n10, e1, e2, d0, ⟨dl, dh⟩, sp, a3, a4, a7⟩ := h
  obtain ⟨⟨⟨k0, k0'⟩, ⟨k1, k1'⟩, _, _, ⟨k4, k4'⟩, k5⟩, k2⟩ := a3 l hl
  have q0 : τ 1 (12 + 7 * l + 0) = σ (20 + l) 0 := k2 0 (by omega)
  have q1 : τ 1 (12 + 7 * l + 1) = σ (20 + l) 1 := k2 1 (by omega)
  have q4 : τ 1 (12 + 7 * l + 4) = σ (20 + l) 4 := k2 4 (by omega)
  have q5 : τ 1 (12 + 7 * l + 5) = σ (20 + l) 5 := k2 5 (by omega)
  have j1 : 0 ≤ (σ (20 + l) 1).toInt := k1
  have j1' : (σ (20 + l) 1).toInt ≤ 9 := k1'
  have j4 : 0 ≤ (σ (20 + l) 4).toInt := k4
  have j4' : (σ (20 + l) 4).toInt ≤ D.toInt := k4'
  have j5 : σ (20 + l) 5 = 0 ∨ σ (20 + l) 5 = 1 := k5
  obtain ⟨b1, b2, b3⟩ := base_eq j4 j4' dh
  have t100 : 0 ≤ (100 : Int32).toInt := by decide
  have t50 : 0 ≤ (50 : Int32).toInt := by decide
  have v100 : (100 : Int32).toInt = 100 := rfl
  unfold f_X2_back f_X10_backOf
  rw [m_it 1 (by omega) rfl (by omega), bnd_s, ck_0, m_it 4 (by omega) rfl (by omega), bnd_s, rd_0, d0, q4, q1, m_held t50, bnd_s, lt_a, lt_a, lt_a, ← b1, m_it 0 (by omega) rfl (by omega), bnd_s, q0]
  have ev := i_add (a := mx (0 : Int32) ((50 : Int32) - ((5 : Int32) * (D - σ (20 + l) 4)))) (b := σ (20 + l) 1) (by omega) (by omega)
  generalize mx (0 : Int32) ((50 : Int32) - ((5 : Int32) * (D - σ (20 + l) 4))) + σ (20 + l) 1 = V at *
  have V0 : 0 ≤ V.toInt := by omega
  have V1 : V.toInt ≤ 59 := by omega
  have hV : mx (0 : Int32) (mn V 100) = V := mxmn_id V0 (by rw [v100]; omega)
  have d2 := i_div2 V0
  have hV2 : mx (0 : Int32) (mn (V / 2) 100) = V / 2 := mxmn_id (by omega) (by rw [v100]; omega)
  simp only [x_held, m_held t100, bnd_s]
  have mm : ∀ a : Int32, 0 ≤ (mx (0 : Int32) (mn a 100)).toInt ∧ (mx (0 : Int32) (mn a 100)).toInt ≤ 100 := by
    intro a
    rw [i_mx, i_mn, ti_0, v100]
    repeat' split
    all_goals omega
  have mm2 : 0 ≤ (V / 2).toInt ∧ (V / 2).toInt ≤ 100 := by constructor <;> omega
  have mmV : 0 ≤ V.toInt ∧ V.toInt ≤ 100 := ⟨V0, by omega⟩
  have fin : ∀ w : Int32, 0 ≤ w.toInt ∧ w.toInt ≤ 100 → ∃ v, some (w, σ) = some (v, σ) ∧ some (w, τ) = some (v, τ) ∧ 0 ≤ v.toInt ∧ v.toInt ≤ 100 := fun w hw => ⟨w, rfl, rfl, hw⟩
  by_cases z1 : σ (20 + l) 0 = 1
  · rw [if_pos z1, if_pos z1]; exact fin _ (mm _)
  rw [if_neg z1, if_neg z1]
  by_cases z2 : σ (20 + l) 0 = 2
  · rw [if_pos z2, if_pos z2, hV2]; exact fin _ mm2
  rw [if_neg z2, if_neg z2]
  by_cases z3 : σ (20 + l) 0 = 3
  · rw [if_pos z3, if_pos z3, m_it 5 (by omega) rfl (by omega), bnd_s, q5]
    rcases j5 with j | j
    · rw [j, if_neg (show ¬ (0 : Int32) = 1 by decide), show V + (20 : Int32) * 0 = V by rw [i_eq, i_add (by rw [show ((20 : Int32) * 0).toInt = 0 from rfl]; omega) (by rw [show ((20 : Int32) * 0).toInt = 0 from rfl]; omega), show ((20 : Int32) * 0).toInt = 0 from rfl]; omega]
      exact fin _ (mm _)
    · rw [j, if_pos rfl, show (20 : Int32) * 1 = 20 from rfl]
      exact fin _ (mm _)
  rw [if_neg z3, if_neg z3]
  by_cases z4 : σ (20 + l) 0 = 4
  · rw [if_pos z4, if_pos z4]; exact fin _ (mm _)
  rw [if_neg z4, if_neg z4]
  by_cases z5 : σ (20 + l) 0 = 5
  · rw [if_pos z5, if_pos z5]; exact fin _ (mm _)
  rw [if_neg z5, if_neg z5]
  by_cases z6 : σ (20 + l) 0 = 6
  · rw [if_pos z6, if_pos z6]; exact fin _ (mm _)
  rw [if_neg z6, if_neg z6, hV]
  exact fin _ mmV
end
section
def ripeI (k v sp : Int) : Int := if k = 1 then (if 7 < 7 * v then 7 * v else 7) else if k = 2 then 1 else if k = 3 then 7 else if k = 4 then (if v = 0 then 7 else 1000000) else if k = 5 then (if 1 < v then v else 1) else if k = 6 then (if sp = 1 then 7 else 1000000) else 7
def gbI (f : Nat → Int32) (day sp : Int32) : Int := if f 6 = 0 then (if ripeI (f 0).toInt (f 1).toInt sp.toInt = 1000000 then 1000000 else if 0 < ripeI (f 0).toInt (f 1).toInt sp.toInt - (day.toInt - (f 4).toInt) then ripeI (f 0).toInt (f 1).toInt sp.toInt - (day.toInt - (f 4).toInt) else 0) else 1000000
theorem x_ripe (o : Nat) (sp : Int32) (σ : Sg) (h1 : 0 ≤ (σ o 1).toInt) (h2 : (σ o 1).toInt ≤ 9) : ∃ r, f_X2_ripeAge o sp σ = some (r, σ) ∧ r.toInt = ripeI (σ o 0).toInt (σ o 1).toInt sp.toInt := by
  have t4 : (4 : Int32).toInt = 4 := rfl
  have tM : (1000000 : Int32).toInt = 1000000 := rfl
  have e7 : ((7 : Int32) * σ o 1).toInt = 7 * (σ o 1).toInt := by rw [i_mul (by rw [ti_7]; omega) (by rw [ti_7]; omega), ti_7]
  unfold f_X2_ripeAge ripeI
  rw [lt_a]
  simp only [i_eq, ti_0, ti_1, ti_2, ti_3, ti_4, ti_5, ti_6, ti_7, ti_8, ti_9, ti_10, ti_11, ti_12, ti_13, ti_14, ti_15]
  by_cases z1 : (σ o 0).toInt = 1
  · rw [if_pos z1, if_pos z1]; exact ⟨_, rfl, by rw [i_mx, e7, ti_7]⟩
  rw [if_neg z1, if_neg z1]
  by_cases z2 : (σ o 0).toInt = 2
  · rw [if_pos z2, if_pos z2]; exact ⟨_, rfl, ti_1⟩
  rw [if_neg z2, if_neg z2]
  by_cases z3 : (σ o 0).toInt = 3
  · rw [if_pos z3, if_pos z3]; exact ⟨_, rfl, ti_7⟩
  rw [if_neg z3, if_neg z3]
  by_cases z4 : (σ o 0).toInt = 4
  · rw [if_pos z4, if_pos z4]
    by_cases v0 : (σ o 1).toInt = 0
    · rw [if_pos v0, if_pos v0]; exact ⟨_, rfl, ti_7⟩
    · rw [if_neg v0, if_neg v0]; exact ⟨_, rfl, tM⟩
  rw [if_neg z4, if_neg z4]
  by_cases z5 : (σ o 0).toInt = 5
  · rw [if_pos z5, if_pos z5]; exact ⟨_, rfl, by rw [i_mx, ti_1]⟩
  rw [if_neg z5, if_neg z5]
  by_cases z6 : (σ o 0).toInt = 6
  · rw [if_pos z6, if_pos z6]
    by_cases v0 : sp.toInt = 1
    · rw [if_pos v0, if_pos v0]; exact ⟨_, rfl, ti_7⟩
    · rw [if_neg v0, if_neg v0]; exact ⟨_, rfl, tM⟩
  rw [if_neg z6, if_neg z6]
  exact ⟨_, rfl, ti_7⟩
theorem ripe_b {k v sp : Int} (h1 : 0 ≤ v) (h2 : v ≤ 9) : 1 ≤ ripeI k v sp ∧ ripeI k v sp ≤ 1000000 := by
  unfold ripeI
  repeat' split
  all_goals omega
theorem x_gb (o : Nat) (day sp : Int32) (σ : Sg) (h1 : 0 ≤ (σ o 1).toInt) (h2 : (σ o 1).toInt ≤ 9) (h3 : 0 ≤ (σ o 4).toInt) (h4 : (σ o 4).toInt ≤ day.toInt) (h5 : day.toInt ≤ 20000) : ∃ r, f_X2_goesBehind o day sp σ = some (r, σ) ∧ r.toInt = gbI (σ o) day sp := by
  obtain ⟨r, r1, r2⟩ := x_ripe o sp σ h1 h2
  have rb := ripe_b (k := (σ o 0).toInt) (sp := sp.toInt) h1 h2
  have tM : (1000000 : Int32).toInt = 1000000 := rfl
  have ea : (day - σ o 4).toInt = day.toInt - (σ o 4).toInt := i_sub (by omega) (by omega)
  have er : (r - (day - σ o 4)).toInt = r.toInt - (day.toInt - (σ o 4).toInt) := by rw [i_sub (by rw [ea, r2]; omega) (by rw [ea, r2]; omega), ea]
  unfold f_X2_goesBehind gbI
  rw [r1, bnd_s]
  by_cases z : σ o 6 = 0
  · rw [if_pos z, if_pos z]
    by_cases y : r = 1000000
    · rw [if_pos y, if_pos (by rw [← r2, y, tM])]
      exact ⟨_, rfl, tM⟩
    · rw [if_neg y, if_neg (show ¬ ripeI (σ o 0).toInt (σ o 1).toInt sp.toInt = 1000000 from fun e => y (by rw [i_eq, r2, e, tM]))]
      exact ⟨_, rfl, by rw [i_mx, er, r2, ti_0]⟩
  · rw [if_neg z, if_neg z]
    exact ⟨_, rfl, tM⟩
theorem gb_b {f : Nat → Int32} {D sp : Int32} (h1 : 0 ≤ (f 1).toInt) (h2 : (f 1).toInt ≤ 9) (h3 : 0 ≤ (f 4).toInt) (h4 : (f 4).toInt ≤ D.toInt) : 0 ≤ gbI f D sp ∧ gbI f D sp ≤ 1000000 := by
  have rb := ripe_b (k := (f 0).toInt) (sp := sp.toInt) h1 h2
  unfold gbI
  repeat' split
  all_goals omega
/-- so many days on -/
theorem gb_on {f : Nat → Int32} {D D' sp : Int32} {k : Int} (h1 : 0 ≤ (f 1).toInt) (h2 : (f 1).toInt ≤ 9) (h3 : 0 ≤ (f 4).toInt) (h4 : (f 4).toInt ≤ D.toInt) (hD : D'.toInt = D.toInt + k) (k0 : 0 ≤ k) (k1 : k ≤ 100) (hD2 : D.toInt ≤ 20000) : gbI f D' sp = 0 ↔ gbI f D sp ≤ k := by
  have rb : ripeI (f 0).toInt (f 1).toInt sp.toInt = 1000000 ∨ ripeI (f 0).toInt (f 1).toInt sp.toInt ≤ 63 := by
    unfold ripeI
    repeat' split
    all_goals omega
  have rb2 := (ripe_b (k := (f 0).toInt) (sp := sp.toInt) h1 h2).1
  unfold gbI
  generalize ripeI (f 0).toInt (f 1).toInt sp.toInt = R at *
  rw [hD]
  repeat' split
  all_goals omega
end
section
theorem m_mayGo {l : Nat} (hl : l < 10) {g : Nat → Int32} {D : Int32} {τ : Sg} (d0 : τ 1 0 = D) (hg : ∀ f, f < 7 → τ 1 (12 + 7 * l + f) = g f) (j1 : 0 ≤ (g 1).toInt) (j1' : (g 1).toInt ≤ 9) (j4 : 0 ≤ (g 4).toInt) (j4' : (g 4).toInt ≤ D.toInt) (j2 : D.toInt ≤ 20000) (j6 : g 6 = 0 ∨ g 6 = 1) : f_X10_mayGo (nI l) τ = some (if gbI g D (τ 1 3) = 0 then 1 else 0, τ) := by
  have q0 : τ 1 (12 + 7 * l + 0) = g 0 := hg 0 (by omega)
  have q1 : τ 1 (12 + 7 * l + 1) = g 1 := hg 1 (by omega)
  have q4 : τ 1 (12 + 7 * l + 4) = g 4 := hg 4 (by omega)
  have q6 : τ 1 (12 + 7 * l + 6) = g 6 := hg 6 (by omega)
  have ea : (D - g 4).toInt = D.toInt - (g 4).toInt := i_sub (by omega) (by omega)
  have e7 : ((7 : Int32) * g 1).toInt = 7 * (g 1).toInt := by rw [i_mul (by rw [ti_7]; omega) (by rw [ti_7]; omega), ti_7]
  have t4 : (4 : Int32).toInt = 4 := rfl
  unfold f_X10_mayGo
  rw [m_it 1 (by omega) rfl (by omega), bnd_s, ck_0, m_it 4 (by omega) rfl (by omega), bnd_s, rd_0, d0, q4, q1, lt_a, m_it 6 (by omega) rfl (by omega), bnd_s, q6]
  unfold gbI ripeI
  rcases j6 with j | j
  · rw [j, if_neg (show ¬ (0 : Int32) = 1 by decide), if_pos (show (0 : Int32) = 0 from rfl), m_it 0 (by omega) rfl (by omega), bnd_s, q0, ck_3, rd_3]
    simp only [i_eq, i_lt, ea, e7, ti_0, ti_1, ti_2, ti_3, ti_4, ti_5, ti_6, ti_7, ti_8, ti_9, ti_10, ti_11, ti_12, ti_13, ti_14, ti_15]
    generalize (g 0).toInt = K at *
    generalize (g 1).toInt = W at *
    generalize (τ 1 3).toInt = P at *
    generalize D.toInt - (g 4).toInt = A at *
    repeat' split
    all_goals first | rfl | (exfalso; omega)
  · rw [j, if_pos rfl, if_neg (show ¬ (1 : Int32) = 0 by decide), if_neg (by decide)]
theorem x_mayGo {n : Nat} {D : Int32} {σ τ : Sg} (h : Vw n D σ τ) {l : Nat} (hl : l < n) : f_X0_mayGo (nI l) D σ = some (if gbI (σ (20 + l)) D (σ 1 3) = 0 then 1 else 0, σ) := by
  obtain ⟨n10, e1, e2, d0, ⟨dl, dh⟩, sp, a3, a4, a7⟩ := h
  obtain ⟨⟨⟨k0, k0'⟩, ⟨k1, k1'⟩, _, _, ⟨k4, k4'⟩, k5⟩, k2⟩ := a3 l hl
  have el : (nI l).toInt = (l : Int) := i_nI (by omega)
  obtain ⟨r, r1, r2⟩ := x_gb (20 + l) D (σ 1 3) σ k1 k1' k4 k4' dh
  unfold f_X0_mayGo
  rw [ck_k el (by omega), tn_k el, lt_a, r1, bnd_s]
  by_cases z : gbI (σ (20 + l)) D (σ 1 3) = 0
  · rw [if_pos z, if_pos (by rw [i_eq, r2, z, ti_0])]
  · rw [if_neg z, if_neg (fun e => z (by rw [← r2, e, ti_0]))]
theorem mayGo_eq {n : Nat} {D : Int32} {σ τ : Sg} (h : Vw n D σ τ) {l : Nat} (hl : l < n) : f_X0_mayGo (nI l) D σ = some (if gbI (σ (20 + l)) D (σ 1 3) = 0 then 1 else 0, σ) ∧ f_X10_mayGo (nI l) τ = some (if gbI (σ (20 + l)) D (σ 1 3) = 0 then 1 else 0, τ) := by
  refine ⟨x_mayGo h hl, ?_⟩
  obtain ⟨n10, e1, e2, d0, ⟨dl, dh⟩, sp, a3, a4, a7⟩ := h
  obtain ⟨⟨⟨k0, k0'⟩, ⟨k1, k1'⟩, _, _, ⟨k4, k4'⟩, k5⟩, k2⟩ := a3 l hl
  rw [← sp]
  exact m_mayGo (by omega) d0 k2 k1 k1' k4 k4' dh (a4 l (by omega))
end
section
theorem gives_eq0 {m : Nat} {D : Int32} {σ τ : Sg} (h : Vw m D σ τ) (p q r : Int32) : ∃ v σ' τ', f_X0_lawGives (0 : Int32) p q r σ = some (v, σ') ∧ f_X10_gives (0 : Int32) p q r τ = some (v, τ') ∧ eqX σ σ' ∧ eqM τ τ' ∧ 0 ≤ v.toInt ∧ v.toInt ≤ 999 ∧ σ' 4 = σ 4 := by
  have := gives_eq h (u := 0) (by omega) p q r
  rwa [nI_0] at this
theorem x_lossOf {l : Nat} (hl : l < 10) {D b v : Int32} {σ σ' : Sg} (h1 : f_X2_back (20 + l) D σ = some (b, σ)) (h2 : f_X0_lawGives (0 : Int32) b (σ (20 + l) 1) (σ (20 + l) 5) σ = some (v, σ')) : f_X0_lossOf (nI l) D σ = some (v, σ') := by
  have el : (nI l).toInt = (l : Int) := i_nI (by omega)
  unfold f_X0_lossOf
  rw [ck_k el (by omega), tn_k el, lt_a, h1, bnd_s, ck_k el (by omega), lt_a, ck_k el (by omega), lt_a, h2, bnd_s]
theorem m_lossOf {l : Nat} (hl : l < 10) {b m p v : Int32} {τ τ' : Sg} (h1 : f_X10_backOf (nI l) τ = some (b, τ)) (q1 : τ 1 (12 + 7 * l + 1) = m) (q5 : τ 1 (12 + 7 * l + 5) = p) (h2 : f_X10_gives (0 : Int32) b m p τ = some (v, τ')) : f_X10_lossOf (nI l) τ = some (v, τ') := by
  unfold f_X10_lossOf
  rw [h1, bnd_s, m_it 1 hl rfl (by omega), bnd_s, m_it 5 hl rfl (by omega), bnd_s, q1, q5, h2, bnd_s]
theorem loss_eq {n : Nat} {D : Int32} {σ τ : Sg} (h : Vw n D σ τ) {l : Nat} (hl : l < n) : ∃ v σ' τ', f_X0_lossOf (nI l) D σ = some (v, σ') ∧ f_X10_lossOf (nI l) τ = some (v, τ') ∧ eqX σ σ' ∧ eqM τ τ' ∧ 0 ≤ v.toInt ∧ v.toInt ≤ 999 ∧ σ' 4 = σ 4 := by
  obtain ⟨b, b1, b2, _, _⟩ := back_eq h hl
  have k2 := (h.2.2.2.2.2.2.1 l hl).2
  have n10 := h.1
  have q1 : τ 1 (12 + 7 * l + 1) = σ (20 + l) 1 := k2 1 (by omega)
  have q5 : τ 1 (12 + 7 * l + 5) = σ (20 + l) 5 := k2 5 (by omega)
  obtain ⟨v, σ', τ', p1, p2, p3⟩ := gives_eq0 h b (σ (20 + l) 1) (σ (20 + l) 5)
  exact ⟨v, σ', τ', x_lossOf (by omega) b1 p1, m_lossOf (by omega) b2 q1 q5 p2, p3⟩
end
section
theorem LnOK_day {f : Nat → Int32} {d d' : Int32} (h : LnOK f d) (hd : d.toInt ≤ d'.toInt) : LnOK f d' := by
  obtain ⟨h1, h2, h3, h4, ⟨h5, h6⟩, h7⟩ := h
  exact ⟨h1, h2, h3, h4, ⟨h5, by omega⟩, h7⟩
theorem Sim.hi {σ τ σ' τ' : Sg} (h : Sim σ τ) (ex : ∀ k, k ≠ 1 → k ≠ 16 → σ' k = σ k) (em : ∀ k, k ≠ 1 → τ' k = τ k) (e1 : σ' 1 1 = σ 1 1) (er : ∀ j, (12 ≤ j ∨ j = 2 ∨ j = 5 ∨ j = 6) → τ' 1 j = τ 1 j) (hd : Hd (σ' 1) (τ' 1)) (ik : Ik (σ' 16) (τ' 1)) (dm : (σ 1 2).toInt ≤ (σ' 1 2).toInt) : Sim σ' τ' := by
  obtain ⟨a1, a2, ⟨n, hn, q1, q2, a3⟩, a4, a5, a6, a7⟩ := h.1
  refine h.bd ?_ (fun k _ hk => ex k (fun e => by subst e; exact absurd hk (by decide)) (fun e => by subst e; exact absurd hk (by decide))) ⟨em 2 (by decide), em 4 (by decide), em 5 (by decide), em 6 (by decide), em 7 (by decide), em 13 (by decide), by rw [em 0 (by decide)], by rw [em 0 (by decide)]⟩
  refine Bd1.of (ln := fun l => σ (20 + l)) (th := fun u => σ (40 + u) 0) (cn := fun u => σ (48 + u) 1) (cs := fun u => σ (66 + u)) ?_ (fun l hl => ex _ (by omega) (by omega)) (fun u hu => by rw [ex _ (by omega) (by omega)]) (fun u hu => by rw [ex _ (by omega) (by omega)]) (fun u hu => by rw [ex _ (by omega) (by omega)])
  rw [ex 44 (by decide) (by decide), ex 62 (by decide) (by decide), ex 46 (by decide) (by decide), ex 64 (by decide) (by decide)]
  refine ⟨hd, ik, ⟨n, hn, e1.trans q1, (er 2 (by omega)).trans q2, fun l hl => ⟨LnOK_day (a3 l hl).1 dm, fun f hf => (er _ (by omega)).trans ((a3 l hl).2 f hf)⟩⟩, a4, ?_, ?_, fun u hu => ?_⟩
  · rw [er 5 (by omega), show (fun j => τ' 1 (82 + j)) = fun j => τ 1 (82 + j) from funext fun j => er _ (by omega)]; exact a5
  · rw [er 6 (by omega), show (fun j => τ' 1 (142 + j)) = fun j => τ 1 (142 + j) from funext fun j => er _ (by omega)]; exact a6
  · rw [show (fun j => τ' 1 (166 + 121 * u + j)) = fun j => τ 1 (166 + 121 * u + j) from funext fun j => er _ (by omega)]; exact a7 u hu
theorem eq_lineIs {σ τ : Sg} (h : Sim σ τ) (a b : Int32) : Ok (f_X9_lineIs a b σ) (f_X10_lineIs a b τ) := by
  obtain ⟨n, hv⟩ := h.vw
  obtain ⟨n10, e1, e2, d0, dd, sp, a3, a4, a7⟩ := id hv
  unfold f_X9_lineIs f_X10_lineIs
  simp only [x_hasLine e1, m_isLine e2 n10, x_err1, m_err1, m_in, bnd_s, if01]
  by_cases c1 : 0 ≤ a ∧ a < nI n
  · rw [if_pos c1, if_pos c1]
    have en : (nI n).toInt = (n : Int) := i_nI (by omega)
    simp only [i_le, i_lt, en, ti_0] at c1
    obtain ⟨l, hl, rfl⟩ := nI_ofi (a := a) (n := n) c1.1 (by omega)
    have el : (nI l).toInt = (l : Int) := i_nI (by omega)
    rw [ck_k el (by omega), tn_k el, lt_a]
    have k2 := (a3 l hl).2
    by_cases c2 : 0 ≤ b ∧ b ≤ 9
    · rw [if_pos c2]
      simp only [i_le, ti_0, ti_9] at c2
      obtain ⟨k, hk, rfl⟩ := nI_ofi (a := b) (n := 10) c2.1 (by omega)
      have ek : (nI k).toInt = (k : Int) := i_nI (by omega)
      have c7 : (7 : Int32) ≤ nI k ↔ 7 ≤ k := by rw [i_le, ek, ti_7]; omega
      have cs : ∀ (j : Nat) (jI : Int32), jI.toInt = (j : Int) → (nI k = jI ↔ k = j) := fun j jI hj => by rw [i_eq, ek, hj]; omega
      simp only [cs 0 0 rfl, cs 1 1 rfl, cs 2 2 rfl, cs 3 3 rfl, cs 4 4 rfl, cs 5 5 rfl, cs 6 6 rfl, cs 7 7 rfl, cs 8 8 rfl, cs 9 9 rfl]
      by_cases h7 : 7 ≤ k
      · rw [if_pos (c7.mpr h7), if_neg (show ¬ k = 0 by omega), if_neg (show ¬ k = 1 by omega), if_neg (show ¬ k = 2 by omega), if_neg (show ¬ k = 3 by omega), if_neg (show ¬ k = 4 by omega), if_neg (show ¬ k = 5 by omega), if_neg (show ¬ k = 6 by omega)]
        by_cases h77 : k = 7
        · rw [if_pos h77, if_pos h77, (mayGo_eq hv hl).1, (mayGo_eq hv hl).2, bnd_s, bnd_s, if01, if01]
          by_cases g : gbI (σ (20 + l)) (σ 1 2) (σ 1 3) = 0
          · rw [if_pos g, if_pos g]; exact Ok.mk h
          · rw [if_neg g, if_neg g]; exact Ok.mk h
        · rw [if_neg h77, if_neg h77]
          by_cases h88 : k = 8
          · obtain ⟨v, v1, v2, _⟩ := back_eq hv hl
            rw [if_pos h88, if_pos h88, v1, v2, bnd_s, bnd_s]; exact Ok.mk h
          · obtain ⟨v, σ', τ', v1, v2, v3, v4, _⟩ := loss_eq hv hl
            rw [if_neg h88, if_neg h88, if_pos (show k = 9 by omega), v1, v2, bnd_s, bnd_s]
            exact Ok.mk (Sim_eq h v3 v4)
      · rw [if_neg (fun e => h7 (c7.mp e)), m_it k (by omega) ek (by omega), bnd_s, k2 k (by omega)]
        have : k = 0 ∨ k = 1 ∨ k = 2 ∨ k = 3 ∨ k = 4 ∨ k = 5 ∨ k = 6 := by omega
        rcases this with rfl | rfl | rfl | rfl | rfl | rfl | rfl
        · rw [if_pos rfl]; exact Ok.mk h
        · rw [if_neg (by decide), if_pos rfl]; exact Ok.mk h
        · rw [if_neg (by decide), if_neg (by decide), if_pos rfl]; exact Ok.mk h
        · rw [if_neg (by decide), if_neg (by decide), if_neg (by decide), if_pos rfl]; exact Ok.mk h
        · rw [if_neg (by decide), if_neg (by decide), if_neg (by decide), if_neg (by decide), if_pos rfl]; exact Ok.mk h
        · rw [if_neg (by decide), if_neg (by decide), if_neg (by decide), if_neg (by decide), if_neg (by decide), if_pos rfl]; exact Ok.mk h
        · rw [if_neg (by decide), if_neg (by decide), if_neg (by decide), if_neg (by decide), if_neg (by decide), if_neg (by decide), if_pos rfl]
          rcases a4 l (by omega) with g | g
          · rw [g, if_pos rfl]; exact Ok.mk h
          · rw [g, if_neg (by decide)]; exact Ok.mk h
    · rw [if_neg c2]
      have cs : ∀ jI : Int32, 0 ≤ jI.toInt → jI.toInt ≤ 9 → ¬ b = jI := fun jI p q e => c2 (by subst e; rw [i_le, i_le, ti_0, ti_9]; exact ⟨p, q⟩)
      rw [if_neg (cs 0 (by decide) (by decide)), if_neg (cs 1 (by decide) (by decide)), if_neg (cs 2 (by decide) (by decide)), if_neg (cs 3 (by decide) (by decide)), if_neg (cs 4 (by decide) (by decide)), if_neg (cs 5 (by decide) (by decide)), if_neg (cs 6 (by decide) (by decide)), if_neg (cs 7 (by decide) (by decide)), if_neg (cs 8 (by decide) (by decide)), if_neg (cs 9 (by decide) (by decide))]
      exact Ok.err h 1 (by decide)
  · rw [if_neg c1, if_neg c1]
    exact Ok.err h 1 (by decide)
theorem wipe_eq {σ τ : Sg} (h : Sim σ τ) {n l : Nat} (hv : Vw n (σ 1 2) σ τ) (hl : l < n) : ∃ v σ1 τ1 σ' τ', f_X0_lossOf (nI l) (σ 1 2) σ = some (v, σ1) ∧ f_X10_lossOf (nI l) τ = some (v, τ1) ∧ f_X0_wipeLine (nI l) σ = some (v, σ') ∧ f_X10_isWiped (nI l) τ = some ((), τ') ∧ Sim σ' τ' ∧ eqM τ τ1 := by
  obtain ⟨v, σ1, τ1, v1, v2, v3, v4, v5, v6⟩ := loss_eq hv hl
  obtain ⟨n10, e1, e2, d0, dd, sp, a3, a4, a7⟩ := id hv
  have el : (nI l).toInt = (l : Int) := i_nI (by omega)
  have hd := h.1.1
  have r4 : τ 1 4 = σ 1 4 := hd.2.2.2.2.2.1
  have l0 : 0 ≤ (σ 1 4).toInt := hd.2.2.2.2.2.2.1
  have l1 : (σ 1 4).toInt ≤ 99999 := hd.2.2.2.2.2.2.2.1
  have t9 : (99999 : Int32).toInt = 99999 := rfl
  have s1 := Sim_eq h v3 v4
  have r41 : τ1 1 4 = σ 1 4 := by rw [v4.1]; exact r4
  have c41 : σ1 1 4 = σ 1 4 := by rw [v3 1 rfl]
  have es : (σ 1 4 + v).toInt = (σ 1 4).toInt + v.toInt := i_add (by omega) (by omega)
  have ew : mx (0 : Int32) (mn (σ 1 4 + v) 99999) = mn (99999 : Int32) (σ 1 4 + v) := by
    rw [i_eq, i_mx, i_mn, i_mn, es, t9, ti_0]
    repeat' split
    all_goals omega
  have ew1 : 0 ≤ (mn (99999 : Int32) (σ 1 4 + v)).toInt ∧ (mn (99999 : Int32) (σ 1 4 + v)).toInt ≤ 99999 := by
    rw [i_mn, es, t9]
    split <;> omega
  have s2 : Sim (up σ1 1 4 (mn (99999 : Int32) (σ 1 4 + v))) (up τ1 1 4 (mn (99999 : Int32) (σ 1 4 + v))) := by
    have b1 := s1.1.1
    refine s1.hi (fun k q _ => up_row q) (fun k q => up_row q) (up_i (by decide)) (fun j hj => up_i (by omega)) ?_ ?_ (by rw [up_i (by decide)]; omega)
    · rw [up_rs, up_rs]
      unfold Hd at b1 ⊢
      simp (disch := omega) only [upd_n, upd_e]
      exact ⟨b1.1, b1.2.1, b1.2.2.1, b1.2.2.2.1, b1.2.2.2.2.1, trivial, ew1.1, ew1.2, b1.2.2.2.2.2.2.2.2⟩
    · rw [up_row (by decide), up_rs]; exact Ik_r s1.1.2.1 (by omega)
  generalize hW : mn (99999 : Int32) (σ 1 4 + v) = W at *
  have hv2 : Vw n (σ 1 2) σ1 τ1 := hv.eq v3 v4
  refine ⟨v, σ1, τ1, up (up σ1 (20 + l) 6 1) 1 4 W, up (up τ1 1 4 W) 1 (12 + 7 * l + 6) 1, v1, v2, ?_, ?_, ?_, v4⟩
  · unfold f_X0_wipeLine
    rw [v1, bnd_s, ck_k el (by omega), tn_k el, lt_a, lt_a, lt_a, up_k (by omega), c41, hW]
  · unfold f_X10_isWiped
    rw [ck_4, v2, bnd_s, rd_4, r4, m_held (by decide), bnd_s, ck_4, lt_a, tn_4, ew, m_lets 6 (by omega) rfl (by omega), bnd_s]
  · refine s2.line (n := n) (l := l) (by rw [up_i (by decide), v3 1 rfl]; exact e1) n10 hl (fun k hk => ?_) eqM1.up (fun j hj => up_i (by omega)) ?_ (Or.inr (by rw [up_k (by omega), up_s])) (fun f hf => ?_)
    · by_cases hk1 : k = 1
      · subst hk1; rw [up_rs, up_rs, up_row (by omega)]
      · rw [up_row hk1, up_row hk, up_row hk1]
    · rw [up_row (by omega), up_i (by decide), v3 1 rfl]
      obtain ⟨q1, q2, q3, q4, q5, q6⟩ := (hv2.2.2.2.2.2.2.1 l hl).1
      unfold LnOK
      simp (disch := decide) only [up_i]
      exact ⟨q1, q2, q3, q4, q5, q6⟩
    · by_cases hf6 : f = 6
      · subst hf6; rw [up_s, up_k (by omega), up_s]
      · rw [up_i (by omega), up_i (by omega), up_k (by omega), up_i hf6]
        exact (hv2.2.2.2.2.2.2.1 l hl).2 f hf
theorem eq_wipe {σ τ : Sg} (h : Sim σ τ) (a : Int32) : Ok (f_X9_wipe a σ) (f_X10_wipe a τ) := by
  obtain ⟨n, hv⟩ := h.vw
  obtain ⟨n10, e1, e2, d0, dd, sp, a3, a4, a7⟩ := id hv
  unfold f_X9_wipe f_X10_wipe
  simp only [x_hasLine e1, m_isLine e2 n10, x_err1, m_err1, x_err3, m_err3, bnd_s, if01]
  by_cases c1 : 0 ≤ a ∧ a < nI n
  · rw [if_pos c1, if_pos c1]
    have en : (nI n).toInt = (n : Int) := i_nI (by omega)
    simp only [i_le, i_lt, en, ti_0] at c1
    obtain ⟨l, hl, rfl⟩ := nI_ofi (a := a) (n := n) c1.1 (by omega)
    rw [(mayGo_eq hv hl).1, (mayGo_eq hv hl).2, bnd_s, bnd_s, if01, if01]
    by_cases g : gbI (σ (20 + l)) (σ 1 2) (σ 1 3) = 0
    · rw [if_pos g, if_pos g]
      obtain ⟨v, σ1, τ1, σ', τ', w1, w2, w3, w4, w5, w6⟩ := wipe_eq h hv hl
      have h' : Sim σ τ1 := Sim_eq h eqX.rf w6
      obtain ⟨v', σ1', τ1', σ'', τ'', z1, z2, z3, z4, z5, z6⟩ := wipe_eq h' (hv.eq eqX.rf w6) hl
      have hvv : v' = v := by rw [w1] at z1; cases z1; rfl
      subst hvv
      rw [z3, bnd_s, w2, bnd_s, z4, bnd_s]
      exact Ok.mk z5
    · rw [if_neg g, if_neg g]
      exact Ok.err h 3 (by decide)
  · rw [if_neg c1, if_neg c1]
    exact Ok.err h 1 (by decide)
end
section
def bt (v : Int32) (l : Nat) : Bool := v.toBitVec.getLsbD l
theorem bt_or {a b : Int32} {l : Nat} : bt (a ||| b) l = (bt a l || bt b l) := BitVec.getLsbD_or
theorem bt_and {a b : Int32} {l : Nat} : bt (a &&& b) l = (bt a l && bt b l) := BitVec.getLsbD_and
theorem bt_ext {a b : Int32} (h : ∀ l, l < 32 → bt a l = bt b l) : a = b := Int32.toBitVec_inj.1 (BitVec.eq_of_getLsbD_eq h)
theorem bt_nI {v l : Nat} (hv : v < 2147483648) : bt (nI v) l = v.testBit l := by
  unfold bt
  show (BitVec.ofNat 32 v).getLsbD l = _
  rw [BitVec.getLsbD_ofNat]
  by_cases h : l < 32
  · simp [h]
  · have q : v.testBit l = false := Nat.testBit_lt_two_pow (Nat.lt_of_lt_of_le (show v < 2 ^ 31 by omega) (Nat.pow_le_pow_right (by decide) (by omega)))
    rw [q]; simp [h]
theorem bt_z {l : Nat} : bt 0 l = false := by
  have := bt_nI (v := 0) (l := l) (by decide)
  rw [nI_0] at this
  rw [this]; exact Nat.zero_testBit l
theorem bt_1 {l : Nat} : bt 1 l = decide (l = 0) := by
  have := bt_nI (v := 1) (l := l) (by decide)
  rw [show nI 1 = (1 : Int32) from rfl] at this
  rw [this]
  cases l with
  | zero => rfl
  | succ l => rw [Nat.testBit_succ]; simp
theorem and_0 {a b : Int32} : a &&& b = 0 ↔ ∀ l, l < 32 → ¬ (bt a l = true ∧ bt b l = true) := by
  constructor
  · intro h l hl ⟨p, q⟩
    have : bt (a &&& b) l = false := by rw [h]; exact bt_z
    rw [bt_and, p, q] at this
    cases this
  · intro h
    refine bt_ext fun l hl => ?_
    rw [bt_and, bt_z]
    have := h l hl
    cases p : bt a l
    · rfl
    · cases q : bt b l
      · rfl
      · exact absurd ⟨p, q⟩ this
theorem sh_amt : ∀ l, l < 32 → ((nI l &&& 31).toBitVec.smod 32).toNat = l := by decide +kernel
theorem shr_1 {v : Int32} {l : Nat} (hl : l < 32) : (shr v (nI l)) &&& (1 : Int32) = if bt v l = true then 1 else 0 := by
  have q : bt (shr v (nI l)) 0 = bt v l := by
    unfold shr bt
    rw [Int32.toBitVec_shiftRight, BitVec.getLsbD_sshiftRight', sh_amt l hl]
    simp [hl]
  refine bt_ext fun i hi => ?_
  rw [bt_and, bt_1]
  cases i with
  | zero =>
    rw [q]
    cases bt v l <;> simp [bt_1, bt_z]
  | succ i =>
    cases bt v l <;> simp [bt_1, bt_z]
theorem x_isOf {v : Int32} {l : Nat} (hl : l < 32) (σ : Sg) : f_X9_isOf (nI l) v σ = some (if bt v l = true then 1 else 0, σ) := by
  unfold f_X9_isOf
  rw [shr_1 hl, if01]
  by_cases h : bt v l = true
  · rw [if_pos h, if_pos h]
  · rw [if_neg h, if_neg h]
theorem nI_or {a b : Nat} (ha : a < 2147483648) (hb : b < 2147483648) : nI a ||| nI b = nI (a ||| b) := by
  have hab : a ||| b < 2147483648 := Nat.or_lt_two_pow (n := 31) ha hb
  refine bt_ext fun l _ => ?_
  rw [bt_or, bt_nI ha, bt_nI hb, bt_nI hab, Nat.testBit_or]
theorem shl1 : ∀ l, l < 31 → shl (1 : Int32) (nI l) = nI (2 ^ l) := by decide +kernel
/-! sets of columns or lines -/
def orN (p : Nat → Bool) (c : Nat → Int32) : Nat → Int32
  | 0 => 0
  | i + 1 => if p i = true then orN p c i ||| c i else orN p c i
theorem orN_congr {p p' : Nat → Bool} {c c' : Nat → Int32} : ∀ {n : Nat}, (∀ i, i < n → p i = p' i) → (∀ i, i < n → c i = c' i) → orN p c n = orN p' c' n := by
  intro n
  induction n with
  | zero => intro _ _; rfl
  | succ n ih =>
    intro h1 h2
    unfold orN
    rw [ih (fun i hi => h1 i (by omega)) (fun i hi => h2 i (by omega)), h1 n (by omega), h2 n (by omega)]
theorem bt_orN {p : Nat → Bool} {c : Nat → Int32} {b : Nat} : ∀ {n : Nat}, bt (orN p c n) b = true ↔ ∃ i, i < n ∧ p i = true ∧ bt (c i) b = true := by
  intro n
  induction n with
  | zero =>
    constructor
    · intro h; rw [show orN p c 0 = 0 from rfl, bt_z] at h; cases h
    · rintro ⟨i, hi, _⟩; omega
  | succ n ih =>
    unfold orN
    by_cases h : p n = true
    · rw [if_pos h, bt_or, Bool.or_eq_true, ih]
      constructor
      · rintro (⟨i, hi, q⟩ | q)
        · exact ⟨i, by omega, q⟩
        · exact ⟨n, by omega, h, q⟩
      · rintro ⟨i, hi, q1, q2⟩
        by_cases hn : i = n
        · subst hn; exact Or.inr q2
        · exact Or.inl ⟨i, by omega, q1, q2⟩
    · rw [if_neg h, ih]
      constructor
      · rintro ⟨i, hi, q⟩; exact ⟨i, by omega, q⟩
      · rintro ⟨i, hi, q1, q2⟩
        by_cases hn : i = n
        · subst hn; exact absurd q1 h
        · exact ⟨i, by omega, q1, q2⟩
theorem orN_lt {p : Nat → Bool} {c : Nat → Int32} : ∀ {n : Nat}, (∀ i, i < n → 0 ≤ (c i).toInt ∧ (c i).toInt < 4096) → ∃ k, k < 4096 ∧ orN p c n = nI k := by
  intro n
  induction n with
  | zero => intro _; exact ⟨0, by decide, rfl⟩
  | succ n ih =>
    intro h
    obtain ⟨k, k1, k2⟩ := ih (fun i hi => h i (by omega))
    unfold orN
    by_cases hp : p n = true
    · obtain ⟨j, j1, j2⟩ := nI_ofi (a := c n) (n := 4096) (h n (by omega)).1 (h n (by omega)).2
      rw [if_pos hp, k2, j2, nI_or (by omega) (by omega)]
      exact ⟨k ||| j, Nat.or_lt_two_pow (n := 12) k1 j1, rfl⟩
    · rw [if_neg hp]; exact ⟨k, k1, k2⟩
/-! how many -/
def pcA (v : Nat) : Nat → Nat
  | 0 => 0
  | l + 1 => pcA v l + (if v.testBit l = true then 1 else 0)
def bcE (a0 : Int32) : Int32 :=
  (fun v1 => (fun v2 => (fun v3 => (fun v4 => (fun v5 => v5 &&& (63 : Int32)) (v4 + (ius v4 (16 : Int32)))) (v3 + (ius v3 (8 : Int32)))) ((v2 + (ius v2 (4 : Int32))) &&& (252645135 : Int32))) ((v1 &&& (858993459 : Int32)) + ((ius v1 (2 : Int32)) &&& (858993459 : Int32)))) (a0 - ((ius a0 (1 : Int32)) &&& (1431655765 : Int32)))
theorem x_bc (a : Int32) (σ : Sg) : f_J6_bitCount_0f7a4 a σ = some (bcE a, σ) := rfl
theorem bc_al2 : ∀ a, a < 64 → ∀ b, b < 64 → bcE (nI (64 * a + b)) = nI (pcA (64 * a + b) 12) := by decide +kernel
theorem bc_all (v : Nat) (hv : v < 4096) : bcE (nI v) = nI (pcA v 12) := by
  have := bc_al2 (v / 64) (by omega) (v % 64) (by omega)
  rwa [Nat.div_add_mod] at this
def btP : Nat → Int32 → Int32 → Option Int32
  | 0, _, _ => none
  | n + 1, a, b => if b = 0 then some a else btP n (a + 1) (b &&& (b - 1))
theorem m_bits4 (τ : Sg) : ∀ (n m : Nat) (a b r : Int32), btP n a b = some r → f_X10_bits_4 (n + m) a b τ = some (r, τ) := by
  intro n
  induction n with
  | zero => intro m a b r h; cases h
  | succ n ih =>
    intro m a b r h
    rw [show n + 1 + m = (n + m) + 1 by omega, f_X10_bits_4]
    unfold f_X10_bits_4_b
    unfold btP at h
    by_cases hb : b = 0
    · rw [if_pos hb] at h ⊢; cases h; rfl
    · rw [if_neg hb] at h ⊢; rw [lt_a, lt_a]; exact ih m _ _ r h
theorem bt_al2 : ∀ a, a < 64 → ∀ b, b < 64 → btP 13 0 (nI (64 * a + b)) = some (nI (pcA (64 * a + b) 12)) := by decide +kernel
theorem bt_all (v : Nat) (hv : v < 4096) : btP 13 0 (nI v) = some (nI (pcA v 12)) := by
  have := bt_al2 (v / 64) (by omega) (v % 64) (by omega)
  rwa [Nat.div_add_mod] at this
theorem m_bits {v : Nat} (hv : v < 4096) (τ : Sg) : f_X10_bits (nI v) τ = some (nI (pcA v 12), τ) := by
  have := m_bits4 τ 13 (fuN - 13) 0 (nI v) _ (bt_all v hv)
  rw [show 13 + (fuN - 13) = fuN by have := fu_le; omega] at this
  exact this
theorem x_bits {v : Nat} (hv : v < 4096) (σ : Sg) : f_J6_bitCount_0f7a4 (nI v) σ = some (nI (pcA v 12), σ) := by
  rw [x_bc, bc_all v hv]
theorem pcA_le (v : Nat) : ∀ n, pcA v n ≤ n := by
  intro n
  induction n with
  | zero => exact Nat.le_refl _
  | succ n ih => unfold pcA; split <;> omega
/-! columns beside one another -/
def winN (c n : Nat) : Nat := 2 ^ c * (2 ^ n - 1)
theorem win_eq : ∀ n, n < 13 → ∀ c, c < 13 → c + n < 13 → shl (shl (1 : Int32) (nI n) - 1) (nI c) = nI (winN c n) := by decide +kernel
theorem win_lt : ∀ n, n < 13 → ∀ c, c < 13 → c + n < 13 → winN c n < 4096 := by decide +kernel
theorem win_b : ∀ n, n < 13 → ∀ c, c < 13 → c + n < 13 → ∀ l, l < 12 → (winN c n).testBit l = decide (c ≤ l ∧ l < c + n) := by decide +kernel
theorem tb_lt {v l : Nat} (hv : v < 4096) (h : v.testBit l = true) : l < 12 := by
  by_cases hl : l < 12
  · exact hl
  · have q : v.testBit l = false := Nat.testBit_lt_two_pow (Nat.lt_of_lt_of_le (show v < 2 ^ 12 from hv) (Nat.pow_le_pow_right (by decide) (by omega)))
    rw [h] at q; cases q
end
section
def XB (n : Nat) (σ : Sg) : Prop := n ≤ 10 ∧ σ 1 1 = nI n ∧ (0 ≤ (σ 1 2).toInt ∧ (σ 1 2).toInt ≤ 20000) ∧ ∀ l, l < n → LnOK (σ (20 + l)) (σ 1 2)
theorem Vw.xb {n : Nat} {σ τ : Sg} (h : Vw n (σ 1 2) σ τ) : XB n σ := ⟨h.1, h.2.1, h.2.2.2.2.1, fun l hl => (h.2.2.2.2.2.2.1 l hl).1⟩
def tkP (σ : Sg) (k : Int) (l : Nat) : Bool := decide (σ (20 + l) 6 = 0 ∧ k ≤ gbI (σ (20 + l)) (σ 1 2) (σ 1 3))
theorem x_tb4 {n : Nat} {σ : Sg} (h : XB n σ) (k : Int32) : ∀ (d i m : Nat), i + d = n → d < m → f_X0_takenBehind_4 m k (orN (tkP σ k.toInt) (fun l => σ (20 + l) 2) i) (nI i) σ = some (orN (tkP σ k.toInt) (fun l => σ (20 + l) 2) n, σ) := by
  obtain ⟨n10, e1, ⟨d0, d1⟩, a3⟩ := h
  intro d
  induction d with
  | zero =>
    intro i m hi hm
    obtain ⟨m, rfl⟩ : ∃ j, m = j + 1 := ⟨m - 1, by omega⟩
    obtain rfl : i = n := by omega
    rw [f_X0_takenBehind_4]
    unfold f_X0_takenBehind_4_b
    rw [e1, if_pos (nI_le (Nat.le_refl _) (by omega))]
  | succ d ih =>
    intro i m hi hm
    obtain ⟨m, rfl⟩ : ∃ j, m = j + 1 := ⟨m - 1, by omega⟩
    have ei : (nI i).toInt = (i : Int) := i_nI (by omega)
    have q := ih (i + 1) m (by omega) (by omega)
    rw [f_X0_takenBehind_4]
    unfold f_X0_takenBehind_4_b
    rw [e1, if_neg (nI_ge (show i < n by omega) (by omega)), ck_k ei (by omega), tn_k ei, lt_a]
    by_cases z : σ (20 + i) 6 = 0
    · obtain ⟨⟨k0, k0'⟩, ⟨k1, k1'⟩, _, _, ⟨k4, k4'⟩, k5⟩ := a3 i (by omega)
      obtain ⟨r, r1, r2⟩ := x_gb (20 + i) (σ 1 2) (σ 1 3) σ k1 k1' k4 k4' d1
      rw [if_pos z, ck_k ei (by omega), lt_a, r1, bnd_s]
      by_cases g : r < k
      · have hp : ¬ tkP σ k.toInt i = true := by
          unfold tkP; rw [decide_eq_true_eq]; rw [i_lt, r2] at g; omega
        rw [orN, if_neg hp] at q
        rw [if_pos g, lt_a, nI_1]; exact q
      · have hp : tkP σ k.toInt i = true := by
          unfold tkP; rw [decide_eq_true_eq]; rw [i_lt, r2] at g; exact ⟨z, by omega⟩
        rw [orN, if_pos hp] at q
        rw [if_neg g, ck_k ei (by omega), lt_a, lt_a, lt_a, nI_1]; exact q
    · have hp : ¬ tkP σ k.toInt i = true := by
        unfold tkP; rw [decide_eq_true_eq]; exact fun e => z e.1
      rw [orN, if_neg hp] at q
      rw [if_neg z, lt_a, nI_1]; exact q
theorem x_takenBehind {n : Nat} {σ : Sg} (h : XB n σ) (k : Int32) : f_X0_takenBehind k σ = some (orN (tkP σ k.toInt) (fun l => σ (20 + l) 2) n, σ) := by
  have h10 := h.1
  have := x_tb4 h k n 0 fuN (by omega) (by have := fu_le; omega)
  rwa [nI_0] at this
def tbP (τ : Sg) (who : Int32) (l : Nat) : Bool := decide (τ 1 (12 + 7 * l + 6) = 0 ∧ (who < 0 ∨ τ 1 (12 + 7 * l + 3) = who))
theorem m_tb43 {rec4 : Int32 → Int32 → Int32 → Sg → Option (Int32 × Sg)} {who acc : Int32} {i : Nat} (hi : i < 10) (τ : Sg) (b : Bool) : f_X10_takenBy_43 rec4 who acc (nI i) (if b = true then 1 else 0) τ = rec4 who (if b = true then acc ||| τ 1 (12 + 7 * i + 2) else acc) (nI (i + 1)) τ := by
  unfold f_X10_takenBy_43
  cases b
  · rw [show (if false = true then (1 : Int32) else 0) = 0 from rfl, if_pos rfl, if_neg (show ¬ false = true by decide), lt_a, lt_a, nI_1, Int32.or_zero]
  · rw [show (if true = true then (1 : Int32) else 0) = 1 from rfl, if_neg (show ¬ (1 : Int32) = 0 by decide), if_pos (show true = true from rfl), m_it 2 hi rfl (by decide), bnd_s, lt_a, lt_a, nI_1]
theorem m_tb4 {n : Nat} {τ : Sg} (n10 : n ≤ 10) (e2 : τ 1 2 = nI n) (who : Int32) : ∀ (d i m : Nat), i + d = n → d < m → f_X10_takenBy_4 m who (orN (tbP τ who) (fun l => τ 1 (12 + 7 * l + 2)) i) (nI i) τ = some (orN (tbP τ who) (fun l => τ 1 (12 + 7 * l + 2)) n, τ) := by
  intro d
  induction d with
  | zero =>
    intro i m hi hm
    obtain ⟨m, rfl⟩ : ∃ j, m = j + 1 := ⟨m - 1, by omega⟩
    obtain rfl : i = n := by omega
    rw [f_X10_takenBy_4]
    unfold f_X10_takenBy_4_b
    rw [ck_2, rd_2, e2, if_pos (nI_le (Nat.le_refl _) (by omega))]
  | succ d ih =>
    intro i m hi hm
    obtain ⟨m, rfl⟩ : ∃ j, m = j + 1 := ⟨m - 1, by omega⟩
    have q := ih (i + 1) m (by omega) (by omega)
    have key : ∀ b : Bool, tbP τ who i = b → f_X10_takenBy_43 (f_X10_takenBy_4 m) who (orN (tbP τ who) (fun l => τ 1 (12 + 7 * l + 2)) i) (nI i) (if b = true then 1 else 0) τ = some (orN (tbP τ who) (fun l => τ 1 (12 + 7 * l + 2)) n, τ) := by
      intro b hb
      rw [m_tb43 (by omega), ← q, orN, hb]
    rw [f_X10_takenBy_4]
    unfold f_X10_takenBy_4_b
    rw [ck_2, rd_2, e2, if_neg (nI_ge (show i < n by omega) (by omega)), m_it 6 (by omega) rfl (by decide), bnd_s]
    by_cases z : τ 1 (12 + 7 * i + 6) = 0
    · rw [if_pos z]
      by_cases w : who < 0
      · rw [if_pos w]
        exact key true (by unfold tbP; rw [decide_eq_true_eq]; exact ⟨z, Or.inl w⟩)
      · rw [if_neg w, m_it 3 (by omega) rfl (by decide), bnd_s]
        by_cases v : τ 1 (12 + 7 * i + 3) = who
        · rw [if_pos v]
          exact key true (by unfold tbP; rw [decide_eq_true_eq]; exact ⟨z, Or.inr v⟩)
        · rw [if_neg v]
          exact key false (by unfold tbP; rw [decide_eq_false_iff_not]; exact fun e => e.2.elim w v)
    · rw [if_neg z]
      exact key false (by unfold tbP; rw [decide_eq_false_iff_not]; exact fun e => z e.1)
theorem m_takenBy {n : Nat} {τ : Sg} (n10 : n ≤ 10) (e2 : τ 1 2 = nI n) (who : Int32) : f_X10_takenBy who τ = some (orN (tbP τ who) (fun l => τ 1 (12 + 7 * l + 2)) n, τ) := by
  have := m_tb4 n10 e2 who n 0 fuN (by omega) (by have := fu_le; omega)
  rwa [nI_0] at this
def cwP (σ : Sg) (who : Int32) (l : Nat) : Bool := decide (σ (20 + l) 6 = 0 ∧ σ (20 + l) 3 = who)
theorem x_co4 {n : Nat} {σ : Sg} (n10 : n ≤ 10) (e1 : σ 1 1 = nI n) (who : Int32) : ∀ (d i m : Nat), i + d = n → d < m → f_X0_columnsOf_4 m who (orN (cwP σ who) (fun l => σ (20 + l) 2) i) (nI i) σ = some (orN (cwP σ who) (fun l => σ (20 + l) 2) n, σ) := by
  intro d
  induction d with
  | zero =>
    intro i m hi hm
    obtain ⟨m, rfl⟩ : ∃ j, m = j + 1 := ⟨m - 1, by omega⟩
    obtain rfl : i = n := by omega
    rw [f_X0_columnsOf_4]
    unfold f_X0_columnsOf_4_b
    rw [e1, if_pos (nI_le (Nat.le_refl _) (by omega))]
  | succ d ih =>
    intro i m hi hm
    obtain ⟨m, rfl⟩ : ∃ j, m = j + 1 := ⟨m - 1, by omega⟩
    have ei : (nI i).toInt = (i : Int) := i_nI (by omega)
    have q := ih (i + 1) m (by omega) (by omega)
    rw [f_X0_columnsOf_4]
    unfold f_X0_columnsOf_4_b
    rw [e1, if_neg (nI_ge (show i < n by omega) (by omega)), ck_k ei (by omega), tn_k ei, lt_a]
    by_cases z : σ (20 + i) 6 = 0
    · rw [if_pos z, ck_k ei (by omega), lt_a]
      by_cases g : σ (20 + i) 3 = who
      · have hp : cwP σ who i = true := by unfold cwP; rw [decide_eq_true_eq]; exact ⟨z, g⟩
        rw [orN, if_pos hp] at q
        rw [if_pos g, ck_k ei (by omega), lt_a, lt_a, lt_a, nI_1]; exact q
      · have hp : ¬ cwP σ who i = true := by unfold cwP; rw [decide_eq_true_eq]; exact fun e => g e.2
        rw [orN, if_neg hp] at q
        rw [if_neg g, lt_a, nI_1]; exact q
    · have hp : ¬ cwP σ who i = true := by unfold cwP; rw [decide_eq_true_eq]; exact fun e => z e.1
      rw [orN, if_neg hp] at q
      rw [if_neg z, lt_a, nI_1]; exact q
theorem x_columnsOf {n : Nat} {σ : Sg} (n10 : n ≤ 10) (e1 : σ 1 1 = nI n) (who : Int32) : f_X0_columnsOf who σ = some (orN (cwP σ who) (fun l => σ (20 + l) 2) n, σ) := by
  have := x_co4 n10 e1 who n 0 fuN (by omega) (by have := fu_le; omega)
  rwa [nI_0] at this
theorem taken_eq {n : Nat} {σ τ : Sg} (h : Vw n (σ 1 2) σ τ) : ∃ T, T < 4096 ∧ f_X0_taken σ = some (nI T, σ) ∧ f_X10_takenBy (-1 : Int32) τ = some (nI T, τ) := by
  obtain ⟨n10, e1, e2, d0, dd, sp, a3, a4, a7⟩ := id h
  obtain ⟨T, t1, t2⟩ := orN_lt (p := tkP σ (0 : Int32).toInt) (c := fun l => σ (20 + l) 2) (n := n) (fun i hi => (a3 i hi).1.2.2.1)
  refine ⟨T, t1, ?_, ?_⟩
  · unfold f_X0_taken
    rw [x_takenBehind h.xb, bnd_s, t2]
  · rw [m_takenBy n10 e2, ← t2]
    congr 2
    refine orN_congr (fun i hi => ?_) (fun i hi => (a3 i hi).2 2 (by decide))
    unfold tbP tkP
    rw [(a3 i hi).2 6 (by decide)]
    obtain ⟨_, ⟨k1, k1'⟩, _, _, ⟨k4, k4'⟩, _⟩ := (a3 i hi).1
    have g := (gb_b (f := σ (20 + i)) (D := σ 1 2) (sp := σ 1 3) k1 k1' k4 k4').1
    have m1 : (-1 : Int32) < 0 := by decide
    rw [ti_0]
    simp only [m1, true_or, and_true, g]
theorem eq_of {σ τ : Sg} (h : Sim σ τ) (a : Int32) : Ok (f_X9_of a σ) (f_X10_of a τ) := by
  obtain ⟨n, hv⟩ := h.vw
  obtain ⟨n10, e1, e2, d0, dd, sp, a3, a4, a7⟩ := id hv
  unfold f_X9_of f_X10_of
  simp only [x_isIn, m_in, x_err1, m_err1, bnd_s, if01]
  by_cases c1 : 0 ≤ a ∧ a ≤ 5
  · rw [if_pos c1, if_pos c1, x_columnsOf n10 e1, m_takenBy n10 e2, bnd_s, bnd_s]
    obtain ⟨T, t1, t2⟩ := orN_lt (p := cwP σ a) (c := fun l => σ (20 + l) 2) (n := n) (fun i hi => (a3 i hi).1.2.2.1)
    have : orN (tbP τ a) (fun l => τ 1 (12 + 7 * l + 2)) n = nI T := by
      rw [← t2]
      refine orN_congr (fun i hi => ?_) (fun i hi => (a3 i hi).2 2 (by decide))
      unfold tbP cwP
      rw [(a3 i hi).2 6 (by decide), (a3 i hi).2 3 (by decide)]
      have m1 : ¬ a < 0 := by have := c1.1; rw [i_le, ti_0] at this; rw [i_lt, ti_0]; omega
      simp only [m1, false_or]
    rw [this, t2, x_bits t1, m_bits t1, bnd_s, bnd_s]
    exact Ok.mk h
  · rw [if_neg c1, if_neg c1]
    exact Ok.err h 1 (by decide)
theorem eq_clears_err {σ τ : Sg} (h : Sim σ τ) (a : Int32) (c : ¬ (0 ≤ a ∧ a ≤ 90)) : Ok (f_X9_clears a σ) (f_X10_clears a τ) := by
  unfold f_X9_clears f_X10_clears
  simp only [x_isIn, m_in, x_err1, m_err1, bnd_s, if01]
  rw [if_neg c, if_neg c]
  exact Ok.err h 1 (by decide)
/-! lines on columns -/
def loP (σ : Sg) (w : Int32) (l : Nat) : Bool := decide (σ (20 + l) 6 = 0 ∧ ¬ (σ (20 + l) 2 &&& w) = 0)
def loS (σ : Sg) (w : Int32) (n : Nat) : Int32 := orN (loP σ w) (fun l => shl (1 : Int32) (nI l)) n
theorem lines_eq {n : Nat} {D : Int32} {σ τ : Sg} (h : Vw n D σ τ) (w : Int32) : ∀ (d i m m' : Nat), i + d = n → d < m → d < m' → f_X0_linesOn_4 m w (loS σ w i) (nI i) σ = some (loS σ w n, σ) ∧ f_X10_linesOn_4 m' w (loS σ w i) (nI i) τ = some (loS σ w n, τ) := by
  obtain ⟨n10, e1, e2, d0, dd, sp, a3, a4, a7⟩ := h
  intro d
  induction d with
  | zero =>
    intro i m m' hi hm hm'
    obtain ⟨m, rfl⟩ : ∃ j, m = j + 1 := ⟨m - 1, by omega⟩
    obtain ⟨m', rfl⟩ : ∃ j, m' = j + 1 := ⟨m' - 1, by omega⟩
    obtain rfl : i = n := by omega
    rw [f_X0_linesOn_4, f_X10_linesOn_4]
    unfold f_X0_linesOn_4_b f_X10_linesOn_4_b
    rw [e1, if_pos (nI_le (Nat.le_refl _) (by omega)), ck_2, rd_2, e2, if_pos (nI_le (Nat.le_refl _) (by omega))]
    exact ⟨rfl, rfl⟩
  | succ d ih =>
    intro i m m' hi hm hm'
    obtain ⟨m, rfl⟩ : ∃ j, m = j + 1 := ⟨m - 1, by omega⟩
    obtain ⟨m', rfl⟩ : ∃ j, m' = j + 1 := ⟨m' - 1, by omega⟩
    have ei : (nI i).toInt = (i : Int) := i_nI (by omega)
    have k2 := (a3 i (by omega)).2
    obtain ⟨q1, q2⟩ := ih (i + 1) m m' (by omega) (by omega) (by omega)
    have nle := nI_ge (show i < n by omega) (show n < 2 ^ 31 by omega)
    rw [f_X0_linesOn_4, f_X10_linesOn_4]
    unfold f_X0_linesOn_4_b f_X10_linesOn_4_b
    rw [e1, if_neg nle, ck_k ei (by omega), tn_k ei, lt_a, ck_2, rd_2, e2, if_neg nle, m_it 6 (by omega) rfl (by decide), bnd_s, k2 6 (by decide)]
    by_cases z : σ (20 + i) 6 = 0
    · rw [if_pos z, if_pos z, ck_k ei (by omega), lt_a, m_it 2 (by omega) rfl (by decide), bnd_s, k2 2 (by decide)]
      by_cases g : σ (20 + i) 2 &&& w = 0
      · have hp : ¬ loP σ w i = true := by unfold loP; rw [decide_eq_true_eq]; exact fun e => e.2 g
        unfold loS at q1 q2 ⊢
        rw [orN, if_neg hp] at q1 q2
        rw [if_pos g, if_pos g, lt_a, lt_a, lt_a, nI_1, Int32.or_zero]; exact ⟨q1, q2⟩
      · have hp : loP σ w i = true := by unfold loP; rw [decide_eq_true_eq]; exact ⟨z, g⟩
        unfold loS at q1 q2 ⊢
        rw [orN, if_pos hp] at q1 q2
        rw [if_neg g, if_neg g, lt_a, lt_a, lt_a, lt_a, nI_1]; exact ⟨q1, q2⟩
    · have hp : ¬ loP σ w i = true := by unfold loP; rw [decide_eq_true_eq]; exact fun e => z e.1
      unfold loS at q1 q2 ⊢
      rw [orN, if_neg hp] at q1 q2
      rw [if_neg z, if_neg z, lt_a, lt_a, lt_a, nI_1, Int32.or_zero]; exact ⟨q1, q2⟩
theorem linesOn_eq {n : Nat} {D : Int32} {σ τ : Sg} (h : Vw n D σ τ) (w : Int32) : f_X0_linesOn w σ = some (loS σ w n, σ) ∧ f_X10_linesOn w τ = some (loS σ w n, τ) := by
  have h10 := h.1
  have := lines_eq h w n 0 fuN fuN (by omega) (by have := fu_le; omega) (by have := fu_le; omega)
  rwa [nI_0] at this
theorem loS_bt {n : Nat} (n10 : n ≤ 10) (σ : Sg) (w : Int32) {l : Nat} (hl : l < n) : bt (loS σ w n) l = loP σ w l := by
  have q : ∀ i, i < n → bt (shl (1 : Int32) (nI i)) l = decide (i = l) := by
    intro i hi
    rw [shl1 i (by omega), bt_nI (Nat.lt_of_lt_of_le (Nat.pow_lt_pow_right (by decide) (show i < 11 by omega)) (by decide)), Nat.testBit_two_pow]
  cases hp : loP σ w l
  · cases hb : bt (loS σ w n) l
    · rfl
    · obtain ⟨i, hi, p1, p2⟩ := bt_orN.mp hb
      rw [q i hi, decide_eq_true_eq] at p2
      subst p2
      rw [hp] at p1; cases p1
  · exact bt_orN.mpr ⟨l, hl, hp, by rw [q l hl]; simp⟩
theorem loS_lt {n : Nat} (n10 : n ≤ 10) (σ : Sg) (w : Int32) : ∃ k, k < 4096 ∧ loS σ w n = nI k := by
  refine orN_lt (fun i hi => ?_)
  have : 2 ^ i < 2 ^ 11 := Nat.pow_lt_pow_right (by decide) (by omega)
  show 0 ≤ (shl (1 : Int32) (nI i)).toInt ∧ (shl (1 : Int32) (nI i)).toInt < 4096
  rw [shl1 i (by omega)]
  generalize 2 ^ i = z at this ⊢
  rw [i_nI (by omega)]
  omega
end
section
theorem i_div {a b : Int32} (h : 0 ≤ a.toInt) (hb : 0 < b.toInt) : (a / b).toInt = a.toInt / b.toInt := by
  rw [Int32.toInt_div, Int.tdiv_eq_ediv_of_nonneg h]
  have h1 := i_hi a
  have h2 := Int.ediv_nonneg h (Int.le_of_lt hb)
  have h3 := Int.ediv_le_self b.toInt h
  exact bm (by omega) (by omega)
theorem i_rem {a b : Int32} (h : 0 ≤ a.toInt) (hb : 0 < b.toInt) : (irm a b).toInt = a.toInt % b.toInt := by
  unfold irm
  have h1 := i_div h hb
  have h2 := i_hi a
  have h3 := Int.ediv_nonneg h (Int.le_of_lt hb)
  have h4 := Int.ediv_mul_le a.toInt (Int.ne_of_gt hb)
  have h5 := Int.mul_nonneg h3 (Int.le_of_lt hb)
  have h6 : (a / b * b).toInt = a.toInt / b.toInt * b.toInt := by rw [i_mul (by rw [h1]; omega) (by rw [h1]; omega), h1]
  rw [i_sub (by rw [h6]; omega) (by rw [h6]; omega), h6, Int.emod_def, Int.mul_comm]
theorem i_rem_b {a b : Int32} (h : 0 ≤ a.toInt) (hb : 0 < b.toInt) : 0 ≤ (irm a b).toInt ∧ (irm a b).toInt < b.toInt := by
  rw [i_rem h hb]
  exact ⟨Int.emod_nonneg _ (Int.ne_of_gt hb), Int.emod_lt_of_pos _ hb⟩
theorem ius8 (v : Int32) : 0 ≤ (ius v (8 : Int32)).toInt := by
  have q : (ius v (8 : Int32)).toUInt32 = v.toUInt32 >>> 8 := rfl
  have q2 : (v.toUInt32 >>> 8).toNat < 2 ^ 24 := by
    rw [UInt32.toNat_shiftRight]
    have := v.toUInt32.toNat_lt
    show v.toUInt32.toNat >>> 8 < _
    rw [Nat.shiftRight_eq_div_pow]
    omega
  have q3 : (ius v (8 : Int32)).toBitVec.toNat < 2 ^ 24 := by
    have : (ius v (8 : Int32)).toBitVec.toNat = (ius v (8 : Int32)).toUInt32.toNat := rfl
    rw [this, q]; exact q2
  show 0 ≤ (ius v (8 : Int32)).toBitVec.toInt
  rw [BitVec.toInt_eq_toNat_of_lt (by omega)]
  omega
/-! a line more -/
theorem x_addLine {n : Nat} {σ : Sg} (n9 : n < 10) (e1 : σ 1 1 = nI n) (a b c w : Int32) : ∃ σ', f_X0_addLine a b c w σ = some (nI n, σ') ∧ (∀ k, k ≠ 1 → k ≠ 20 + n → σ' k = σ k) ∧ σ' 1 1 = nI (n + 1) ∧ (∀ j, j ≠ 1 → σ' 1 j = σ 1 j) ∧ σ' (20 + n) 0 = a ∧ σ' (20 + n) 1 = b ∧ σ' (20 + n) 2 = c ∧ σ' (20 + n) 3 = w ∧ σ' (20 + n) 4 = σ 1 2 ∧ σ' (20 + n) 5 = 0 ∧ σ' (20 + n) 6 = 0 := by
  have en : (nI n).toInt = (n : Int) := i_nI (by omega)
  have lt10 : nI n < (10 : Int32) := by rw [i_lt, en, ti_10]; omega
  unfold f_X0_addLine f_X2_begin
  rw [e1, if_pos lt10, ck_k en n9, tn_k en, lt_a]
  simp only [lt_a, bnd_s]
  simp (disch := omega) only [up_k, up_s, e1, nI_1, nI_pred]
  refine ⟨_, rfl, fun k h1 h2 => ?_, ?_, fun j hj => ?_, ?_, ?_, ?_, ?_, ?_, ?_, ?_⟩
  · simp (disch := omega) only [up_row]
  · rw [up_s]
  · rw [up_i hj]; simp (disch := omega) only [up_k]
  all_goals simp (disch := omega) only [up_k, up_i, up_s]
theorem m_comes {n : Nat} {τ : Sg} (n9 : n < 10) (e2 : τ 1 2 = nI n) (km c w : Int32) : ∃ τ', f_X10_comes km c w τ = some (nI n, τ') ∧ (∀ k, k ≠ 1 → τ' k = τ k) ∧ τ' 1 2 = nI (n + 1) ∧ (∀ j, j ≠ 2 → (j < 12 + 7 * n ∨ 12 + 7 * n + 7 ≤ j) → τ' 1 j = τ 1 j) ∧ τ' 1 (12 + 7 * n + 0) = km / 10 ∧ τ' 1 (12 + 7 * n + 1) = irm km 10 ∧ τ' 1 (12 + 7 * n + 2) = c ∧ τ' 1 (12 + 7 * n + 3) = w ∧ τ' 1 (12 + 7 * n + 4) = τ 1 0 ∧ τ' 1 (12 + 7 * n + 5) = 0 ∧ τ' 1 (12 + 7 * n + 6) = 0 := by
  unfold f_X10_comes
  rw [ck_2, rd_2, e2, lt_a, ck_2, ck_2, lt_a, tn_2, nI_1, m_lets 0 n9 rfl (by decide), bnd_s, m_lets 1 n9 rfl (by decide), bnd_s, m_lets 2 n9 rfl (by decide), bnd_s, m_lets 3 n9 rfl (by decide), bnd_s, ck_0, m_lets 4 n9 rfl (by decide), bnd_s, m_lets 5 n9 rfl (by decide), bnd_s, m_lets 6 n9 rfl (by decide), bnd_s, rd_0]
  simp (disch := omega) only [up_i]
  refine ⟨_, rfl, fun k h1 => ?_, ?_, fun j hj hj2 => ?_, ?_, ?_, ?_, ?_, ?_, ?_, ?_⟩
  · simp (disch := omega) only [up_row]
  all_goals simp (disch := omega) only [up_i, up_s]
theorem Sim.add {σ τ : Sg} (h : Sim σ τ) {n : Nat} (n9 : n < 10) (e1 : σ 1 1 = nI n) {km c w a b : Int32} (ha : km / 10 = a) (hb : irm km 10 = b) (a0 : 0 ≤ a.toInt) (a1 : a.toInt ≤ 6) (b0 : 0 ≤ b.toInt) (b1 : b.toInt ≤ 9) (c0 : 0 ≤ c.toInt) (c1 : c.toInt < 4096) (w0 : 0 ≤ w.toInt) (w1 : w.toInt ≤ 5) : ∃ σ' τ', f_X0_addLine a b c w σ = some (nI n, σ') ∧ f_X10_comes km c w τ = some (nI n, τ') ∧ Sim σ' τ' ∧ σ' 1 2 = σ 1 2 ∧ σ' 1 1 = nI (n + 1) := by
  obtain ⟨p1, p2, ⟨n', hn, q1, q2, p3⟩, p4, p5, p6, p7⟩ := h.1
  obtain rfl : n' = n := m_same_n (by omega) (by omega) (q1.symm.trans e1)
  obtain ⟨σ', x0, x1, x2, x3, y0, y1, y2, y3, y4, y5, y6⟩ := x_addLine n9 q1 a b c w
  obtain ⟨τ', m0, m1, m2, m3, z0, z1, z2, z3, z4, z5, z6⟩ := m_comes n9 q2 km c w
  refine ⟨σ', τ', x0, m0, ?_, x3 2 (by decide), x2⟩
  have r : ∀ j, j ≠ 2 → (j < 12 + 7 * n' ∨ 12 + 7 * n' + 7 ≤ j) → τ' 1 j = τ 1 j := m3
  have iN : inB1 (20 + n') = true := by
    have : ∀ l, l < 10 → inB1 (20 + l) = true := by decide +kernel
    exact this n' n9
  refine h.bd ?_ (fun k _ hk => x1 k (fun e => by subst e; exact absurd hk (by decide)) (fun e => by subst e; rw [iN] at hk; cases hk)) ⟨m1 2 (by decide), m1 4 (by decide), m1 5 (by decide), m1 6 (by decide), m1 7 (by decide), m1 13 (by decide), by rw [m1 0 (by decide)], by rw [m1 0 (by decide)]⟩
  unfold Bd1
  rw [x1 16 (by decide) (by omega), x1 44 (by decide) (by omega), x1 62 (by decide) (by omega), x1 46 (by decide) (by omega), x1 64 (by decide) (by omega)]
  refine ⟨?_, fun p hp => ?_, ⟨n' + 1, by omega, x2, m2, fun l hl => ?_⟩, fun l hl => ?_, ?_, ?_, fun u hu => ?_⟩
  · unfold Hd at p1 ⊢
    rw [r 0 (by decide) (by omega), r 3 (by decide) (by omega), r 4 (by decide) (by omega), r 1 (by decide) (by omega), x3 2 (by decide), x3 3 (by decide), x3 4 (by decide), x3 6 (by decide)]
    exact p1
  · rw [r (7 + p) (by omega) (by omega)]; exact p2 p hp
  · show LnOK (σ' (20 + l)) (σ' 1 2) ∧ ∀ f, f < 7 → τ' 1 (12 + 7 * l + f) = σ' (20 + l) f
    rw [x3 2 (by decide)]
    by_cases hln : l = n'
    · subst hln
      have d0 : τ 1 0 = σ 1 2 := p1.1
      refine ⟨⟨by rw [y0]; exact ⟨a0, a1⟩, by rw [y1]; exact ⟨b0, b1⟩, by rw [y2]; exact ⟨c0, c1⟩, by rw [y3]; exact ⟨w0, w1⟩, by rw [y4]; exact ⟨p1.2.1, Int.le_refl _⟩, by rw [y5]; exact Or.inl rfl⟩, fun f hf => ?_⟩
      have : f = 0 ∨ f = 1 ∨ f = 2 ∨ f = 3 ∨ f = 4 ∨ f = 5 ∨ f = 6 := by omega
      rcases this with rfl | rfl | rfl | rfl | rfl | rfl | rfl
      · rw [z0, y0, ha]
      · rw [z1, y1, hb]
      · rw [z2, y2]
      · rw [z3, y3]
      · rw [z4, y4, d0]
      · rw [z5, y5]
      · rw [z6, y6]
    · rw [x1 (20 + l) (by omega) (by omega)]
      refine ⟨(p3 l (by omega)).1, fun f hf => ?_⟩
      rw [r _ (by omega) (by omega)]; exact (p3 l (by omega)).2 f hf
  · show σ' (20 + l) 6 = 0 ∨ σ' (20 + l) 6 = 1
    by_cases hln : l = n'
    · subst hln; exact Or.inl y6
    · rw [x1 (20 + l) (by omega) (by omega)]; exact p4 l hl
  · rw [r 5 (by decide) (by omega), show (fun j => τ' 1 (82 + j)) = fun j => τ 1 (82 + j) from funext fun j => r _ (by omega) (by omega)]; exact p5
  · rw [r 6 (by decide) (by omega), show (fun j => τ' 1 (142 + j)) = fun j => τ 1 (142 + j) from funext fun j => r _ (by omega) (by omega)]; exact p6
  · show Cd (σ' (40 + u) 0) (σ' (48 + u) 1) (σ' (66 + u)) _
    rw [x1 _ (by omega) (by omega), x1 _ (by omega) (by omega), x1 _ (by omega) (by omega), show (fun j => τ' 1 (166 + 121 * u + j)) = fun j => τ 1 (166 + 121 * u + j) from funext fun j => r _ (by omega) (by omega)]
    exact p7 u hu
/-! a day goes by -/
theorem Ik_s {ink r : Nat → Int32} (h : Ik ink r) {p : Nat} {v : Int32} (v0 : 0 ≤ v.toInt) (v1 : v.toInt ≤ 99) : Ik (upd ink p v) (upd r (7 + p) v) := by
  intro q hq
  by_cases e : q = p
  · subst e; rw [upd_e, upd_e]; exact ⟨rfl, v0, v1⟩
  · rw [upd_n e, upd_n (by omega)]; exact h q hq
theorem Ik_k {ink r : Nat → Int32} (h : Ik ink r) {p : Nat} : Ik ink (upd r (7 + p) (ink p)) := by
  intro q hq
  by_cases e : q = p
  · subst e; rw [upd_e]; exact ⟨rfl, (h q hq).2⟩
  · rw [upd_n (by omega)]; exact h q hq
theorem m_goes37 {rec2 : Int32 → Sg → Option (Unit × Sg)} {i : Nat} (hi : i < 5) (b : Bool) (τ : Sg) : f_X10_goes_37 rec2 (nI i) (if b = true then 1 else 0) τ = rec2 (nI (i + 1)) (up τ 1 (7 + i) (if b = true then τ 1 (7 + i) - 1 else τ 1 (7 + i))) := by
  have ei : (nI i).toInt = (i : Int) := i_nI (by omega)
  have e7 : ((7 : Int32) + nI i).toInt = ((7 + i : Nat) : Int) := by rw [i_add (by rw [ei, ti_7]; omega) (by rw [ei, ti_7]; omega), ei, ti_7]; omega
  unfold f_X10_goes_37
  rw [ck_k e7 (by omega), ck_k e7 (by omega), ck_k e7 (by omega), rd_k e7, tn_k e7]
  cases b
  · rw [show (if false = true then (1 : Int32) else 0) = 0 from rfl, if_pos rfl, if_neg (show ¬ false = true by decide), lt_a, lt_a, nI_1, Int32.sub_zero]
  · rw [show (if true = true then (1 : Int32) else 0) = 1 from rfl, if_neg (show ¬ (1 : Int32) = 0 by decide), if_pos (show true = true from rfl), lt_a, lt_a, nI_1]
theorem pass_loop : ∀ (d i n m : Nat) (σ τ : Sg), i + d = 5 → d < n → d < m → τ 1 0 = σ 1 2 → Ik (σ 16) (τ 1) → ∃ σ' τ', f_X0_passDay_2 n (nI i) σ = some ((), σ') ∧ f_X10_goes_2 m (nI i) τ = some ((), τ') ∧ (∀ k, k ≠ 1 → k ≠ 16 → σ' k = σ k) ∧ (∀ k, k ≠ 1 → τ' k = τ k) ∧ (∀ j, j ≠ 2 → σ' 1 j = σ 1 j) ∧ σ' 1 2 = σ 1 2 + 1 ∧ τ' 1 0 = σ 1 2 + 1 ∧ (∀ j, j ≠ 0 → (j < 7 ∨ 12 ≤ j) → τ' 1 j = τ 1 j) ∧ Ik (σ' 16) (τ' 1) := by
  intro d
  induction d with
  | zero =>
    intro i n m σ τ hi hn hm e0 ik
    obtain ⟨n, rfl⟩ : ∃ j, n = j + 1 := ⟨n - 1, by omega⟩
    obtain ⟨m, rfl⟩ : ∃ j, m = j + 1 := ⟨m - 1, by omega⟩
    obtain rfl : i = 5 := by omega
    rw [f_X0_passDay_2, f_X10_goes_2]
    unfold f_X0_passDay_2_b f_X10_goes_2_b
    rw [if_pos (by decide), if_pos (by decide), ck_0, ck_0, rd_0, tn_0, lt_a, lt_a, e0]
    refine ⟨_, _, rfl, rfl, fun k h1 _ => up_row h1, fun k h1 => up_row h1, fun j hj => up_i hj, up_s, up_s, fun j hj _ => up_i hj, ?_⟩
    rw [up_row (by decide), up_rs]; exact Ik_r ik (by omega)
  | succ d ih =>
    intro i n m σ τ hi hn hm e0 ik
    obtain ⟨n, rfl⟩ : ∃ j, n = j + 1 := ⟨n - 1, by omega⟩
    obtain ⟨m, rfl⟩ : ∃ j, m = j + 1 := ⟨m - 1, by omega⟩
    have ei : (nI i).toInt = (i : Int) := i_nI (by omega)
    have e2 : (nI i + (2 : Int32)).toInt = (i : Int) + 2 := by rw [i_add (by rw [ei, ti_2]; omega) (by rw [ei, ti_2]; omega), ei, ti_2]
    have hnz : nz (nI i + (2 : Int32)) = true := by
      unfold nz
      rw [Bool.not_eq_true', decide_eq_false_iff_not]
      intro e; rw [e, ti_0] at e2; omega
    have e7 : ((7 : Int32) + nI i).toInt = ((7 + i : Nat) : Int) := by rw [i_add (by rw [ei, ti_7]; omega) (by rw [ei, ti_7]; omega), ei, ti_7]; omega
    obtain ⟨k1, k2, k3⟩ := ik i (by omega)
    have n5 : ¬ (5 : Int32) ≤ nI i := by rw [i_le, ei, ti_5]; omega
    rw [f_X0_passDay_2, f_X10_goes_2]
    unfold f_X0_passDay_2_b f_X10_goes_2_b
    rw [if_neg n5, if_neg n5, ck_0, rd_0, e0, ckb_t hnz, ckb_t hnz]
    have keep : f_X10_goes_37 (f_X10_goes_2 m) (nI i) (0 : Int32) τ = f_X10_goes_2 m (nI (i + 1)) (up τ 1 (7 + i) (σ 16 i)) := by
      have := m_goes37 (rec2 := f_X10_goes_2 m) (show i < 5 by omega) false τ
      rw [show (if false = true then (1 : Int32) else 0) = 0 from rfl, if_neg (show ¬ false = true by decide)] at this
      rw [this, k1]
    have less : f_X10_goes_37 (f_X10_goes_2 m) (nI i) (1 : Int32) τ = f_X10_goes_2 m (nI (i + 1)) (up τ 1 (7 + i) (σ 16 i - 1)) := by
      have := m_goes37 (rec2 := f_X10_goes_2 m) (show i < 5 by omega) true τ
      rw [show (if true = true then (1 : Int32) else 0) = 1 from rfl, if_pos (show true = true from rfl)] at this
      rw [this, k1]
    by_cases z : irm (σ 1 2) (nI i + 2) = 0
    · rw [if_pos z, if_pos z, ck_k ei (by omega), ck_k ei (by omega), rd_k ei, tn_k ei, lt_a, lt_a, nI_1, ck_k e7 (by omega), rd_k e7, k1, keep, less]
      have e1 : (σ 16 i - (1 : Int32)).toInt = (σ 16 i).toInt - 1 := by rw [i_sub (by rw [ti_1]; omega) (by rw [ti_1]; omega), ti_1]
      have go : ∀ v : Int32, 0 ≤ v.toInt → v.toInt ≤ 99 → mx (0 : Int32) (σ 16 i - 1) = v → ∃ σ' τ', f_X0_passDay_2 n (nI (i + 1)) (up σ 16 i (mx (0 : Int32) (σ 16 i - 1))) = some ((), σ') ∧ f_X10_goes_2 m (nI (i + 1)) (up τ 1 (7 + i) v) = some ((), τ') ∧ (∀ k, k ≠ 1 → k ≠ 16 → σ' k = σ k) ∧ (∀ k, k ≠ 1 → τ' k = τ k) ∧ (∀ j, j ≠ 2 → σ' 1 j = σ 1 j) ∧ σ' 1 2 = σ 1 2 + 1 ∧ τ' 1 0 = σ 1 2 + 1 ∧ (∀ j, j ≠ 0 → (j < 7 ∨ 12 ≤ j) → τ' 1 j = τ 1 j) ∧ Ik (σ' 16) (τ' 1) := by
        intro v v0 v1 ev
        rw [ev]
        obtain ⟨σ', τ', w1, w2, w3, w4, w5, w6, w7, w8, w9⟩ := ih (i + 1) n m (up σ 16 i v) (up τ 1 (7 + i) v) (by omega) (by omega) (by omega) (by rw [up_i (by omega), up_k (by decide)]; exact e0) (by rw [up_rs, up_rs]; exact Ik_s ik v0 v1)
        refine ⟨σ', τ', w1, w2, fun k a b => by rw [w3 k a b, up_row b], fun k a => by rw [w4 k a, up_row a], fun j a => by rw [w5 j a, up_k (by decide)], by rw [w6, up_k (by decide)], by rw [w7, up_k (by decide)], fun j a b => by rw [w8 j a b, up_i (by omega)], w9⟩
      by_cases s : σ 16 i ≤ 0
      · rw [if_pos s]
        rw [i_le, ti_0] at s
        exact go (σ 16 i) k2 k3 (by rw [i_eq, i_mx, e1, ti_0]; split <;> omega)
      · rw [if_neg s]
        rw [i_le, ti_0] at s
        exact go (σ 16 i - 1) (by omega) (by omega) (by rw [i_eq, i_mx, e1, ti_0]; split <;> omega)
    · rw [if_neg z, if_neg z, lt_a, nI_1, keep]
      obtain ⟨σ', τ', w1, w2, w3, w4, w5, w6, w7, w8, w9⟩ := ih (i + 1) n m σ (up τ 1 (7 + i) (σ 16 i)) (by omega) (by omega) (by omega) (by rw [up_i (by omega)]; exact e0) (by rw [up_rs]; exact Ik_k ik)
      exact ⟨σ', τ', w1, w2, w3, fun k a => by rw [w4 k a, up_row a], w5, w6, w7, fun j a b => by rw [w8 j a b, up_i (by omega)], w9⟩
theorem pass_eq {σ τ : Sg} (h : Sim σ τ) (hd : (σ 1 2).toInt < 9999) : ∃ σ' τ', f_X0_passDay σ = some ((), σ') ∧ f_X10_goes τ = some ((), τ') ∧ Sim σ' τ' ∧ σ' 1 2 = σ 1 2 + 1 ∧ σ' 1 1 = σ 1 1 := by
  have hh := h.1.1
  obtain ⟨σ', τ', w1, w2, w3, w4, w5, w6, w7, w8, w9⟩ := pass_loop 5 0 fuN fuN σ τ (by omega) (by have := fu_le; omega) (by have := fu_le; omega) hh.1 h.1.2.1
  rw [nI_0] at w1 w2
  have ed : (σ 1 2 + 1).toInt = (σ 1 2).toInt + 1 := by rw [i_add (by rw [ti_1]; have := hh.2.1; omega) (by rw [ti_1]; omega), ti_1]
  refine ⟨σ', τ', w1, w2, ?_, w6, w5 1 (by decide)⟩
  refine h.hi w3 w4 (w5 1 (by decide)) (fun j hj => w8 j (by omega) (by omega)) ?_ w9 (by rw [w6, ed]; omega)
  unfold Hd at hh ⊢
  rw [w7, w6, w8 3 (by decide) (by omega), w8 4 (by decide) (by omega), w8 1 (by decide) (by omega), w5 3 (by decide), w5 4 (by decide), w5 6 (by decide), ed]
  exact ⟨rfl, by have := hh.2.1; omega, by omega, hh.2.2.2⟩
theorem days_loop {N : Nat} (hN : N ≤ 90) : ∀ (d i n m : Nat) (σ τ : Sg), i + d = N → d < n → d < m → Sim σ τ → (σ 1 2).toInt + (d : Int) ≤ 9999 → Ok (f_X9_days_39 n (nI N) (nI i) σ) (f_X10_days_40 m (nI N) (nI i) τ) := by
  intro d
  induction d with
  | zero =>
    intro i n m σ τ hi hn hm h hd
    obtain ⟨n, rfl⟩ : ∃ j, n = j + 1 := ⟨n - 1, by omega⟩
    obtain ⟨m, rfl⟩ : ∃ j, m = j + 1 := ⟨m - 1, by omega⟩
    obtain rfl : i = N := by omega
    rw [f_X9_days_39, f_X10_days_40]
    unfold f_X9_days_39_b f_X10_days_40_b
    rw [if_pos (nI_le (Nat.le_refl _) (by omega)), if_pos (nI_le (Nat.le_refl _) (by omega)), ck_0, rd_0, h.1.1.1]
    exact Ok.mk h
  | succ d ih =>
    intro i n m σ τ hi hn hm h hd
    obtain ⟨n, rfl⟩ : ∃ j, n = j + 1 := ⟨n - 1, by omega⟩
    obtain ⟨m, rfl⟩ : ∃ j, m = j + 1 := ⟨m - 1, by omega⟩
    have nle := nI_ge (show i < N by omega) (show N < 2 ^ 31 by omega)
    obtain ⟨σ', τ', w1, w2, w3, w4, _⟩ := pass_eq h (by omega)
    have ed : (σ 1 2 + 1).toInt = (σ 1 2).toInt + 1 := by rw [i_add (by rw [ti_1]; have := h.1.1.2.1; omega) (by rw [ti_1]; omega), ti_1]
    rw [f_X9_days_39, f_X10_days_40]
    unfold f_X9_days_39_b f_X10_days_40_b
    rw [if_neg nle, if_neg nle, w1, w2, bnd_s, bnd_s, lt_a, lt_a, nI_1]
    exact ih (i + 1) n m σ' τ' (by omega) (by omega) (by omega) w3 (by rw [w4, ed]; omega)
theorem eq_days {σ τ : Sg} (h : Sim σ τ) (a : Int32) : Ok (f_X9_days a σ) (f_X10_days a τ) := by
  have d0 := h.1.1.1
  have d1 := h.1.1.2.1
  have d2 := h.1.1.2.2.1
  have t90 : (90 : Int32).toInt = 90 := rfl
  have t9 : (9999 : Int32).toInt = 9999 := rfl
  unfold f_X9_days f_X10_days
  simp only [x_isIn, m_in, x_err1, m_err1, x_err3, m_err3, bnd_s, if01]
  by_cases c1 : 1 ≤ a ∧ a ≤ 90
  · rw [if_pos c1, if_pos c1, ck_0, rd_0, d0]
    simp only [i_le, ti_1, t90] at c1
    obtain ⟨N, hN, rfl⟩ := nI_ofi (a := a) (n := 91) (by omega) (by omega)
    have eN : (nI N).toInt = (N : Int) := i_nI (by omega)
    by_cases c2 : σ 1 2 + nI N ≤ 9999
    · rw [if_pos c2, if_pos c2]
      rw [i_le, i_add (by rw [eN]; omega) (by rw [eN]; omega), eN, t9] at c2
      rw [← nI_0]
      exact days_loop (by omega) N 0 fuN fuN σ τ (by omega) (by have := fu_le; omega) (by have := fu_le; omega) h (by omega)
    · rw [if_neg c2, if_neg c2]
      exact Ok.err h 3 (by decide)
  · rw [if_neg c1, if_neg c1]
    exact Ok.err h 1 (by decide)
end
section
theorem draw_eq {σ τ : Sg} (h : Sim σ τ) : ∃ r σ' τ', f_X0_draw σ = some (r, σ') ∧ f_X10_draw τ = some (r, τ') ∧ Sim σ' τ' ∧ 0 ≤ r.toInt ∧ σ' 1 2 = σ 1 2 ∧ σ' 1 1 = σ 1 1 := by
  have hh := h.1.1
  have z : τ 1 1 = σ 1 6 := hh.2.2.2.2.2.2.2.2
  refine ⟨ius (σ 1 6 * 1103515245 + 12345) 8, up σ 1 6 (σ 1 6 * 1103515245 + 12345), up τ 1 1 (σ 1 6 * 1103515245 + 12345), ?_, ?_, ?_, ius8 _, up_i (by decide), up_i (by decide)⟩
  · unfold f_X0_draw
    rw [lt_a, up_s]
  · unfold f_X10_draw
    rw [ck_1, ck_1, lt_a, ck_1, rd_1, rd_1, tn_1, z, up_s]
  · refine h.hi (fun k a _ => up_row a) (fun k a => up_row a) (up_i (by decide)) (fun j hj => up_i (by omega)) ?_ ?_ (by rw [up_i (by decide)]; exact Int.le_refl _)
    · rw [up_rs, up_rs]
      unfold Hd at hh ⊢
      simp (disch := omega) only [upd_n, upd_e]
      exact ⟨hh.1, hh.2.1, hh.2.2.1, hh.2.2.2.1, hh.2.2.2.2.1, hh.2.2.2.2.2.1, hh.2.2.2.2.2.2.1, hh.2.2.2.2.2.2.2.1, trivial⟩
    · rw [up_row (by decide), up_rs]; exact Ik_r h.1.2.1 (by omega)
theorem ten_k : ∀ k, k < 7 → (10 : Int32) * nI k / 10 = nI k ∧ irm ((10 : Int32) * nI k) 10 = 0 := by decide +kernel
theorem Sim.n {σ τ : Sg} (h : Sim σ τ) : ∃ n, n ≤ 10 ∧ σ 1 1 = nI n ∧ τ 1 2 = nI n := by
  obtain ⟨a1, a2, ⟨n, hn, e1, e2, a3⟩, a4, a5, a6, a7⟩ := h.1
  exact ⟨n, hn, e1, e2⟩
theorem and_two {T c : Nat} (hT : T < 4096) (hc : c < 12) : nI (2 ^ c) &&& nI T = 0 ↔ ¬ bt (nI T) c = true := by
  have p : 2 ^ c < 2 ^ 12 := Nat.pow_lt_pow_right (by decide) hc
  rw [and_0]
  constructor
  · intro h q
    exact h c (by omega) ⟨by rw [bt_nI (by omega), Nat.testBit_two_pow_self], q⟩
  · rintro h l hl ⟨q1, q2⟩
    rw [bt_nI (by omega), Nat.testBit_two_pow, decide_eq_true_eq] at q1
    subst q1
    exact h q2
theorem drawn39 {σ τ : Sg} (h : Sim σ τ) (hd : (σ 1 2).toInt < 9999) (a : Int32) : ∃ σ' τ', f_X0_passDayByDraws_39 a σ = some (a, σ') ∧ f_X10_drawn_38 a τ = some (a, τ') ∧ Sim σ' τ' ∧ σ' 1 2 = σ 1 2 + 1 := by
  obtain ⟨r, σ1, τ1, p1, p2, h1, r0, dd1, nn1⟩ := draw_eq h
  obtain ⟨n, hv⟩ := h1.vw
  have n10 := hv.1
  have e1 := hv.2.1
  have e2 := hv.2.2.1
  obtain ⟨T, t1, t2, t3⟩ := taken_eq hv
  have q12 := i_rem_b (a := r) (b := 12) r0 (by decide)
  obtain ⟨c, hc, ec⟩ := nI_ofi (a := irm r 12) (n := 12) q12.1 q12.2
  unfold f_X0_passDayByDraws_39 f_X10_drawn_38
  rw [p1, p2, bnd_s, bnd_s, lt_a, lt_a, t2, t3, bnd_s, bnd_s, ec, x_isOf (by omega), bnd_s, shl1 c (by omega)]
  have fin : ∃ σ' τ', bnd (f_X0_passDay σ1) (fun _ s8 => some (a, s8)) = some (a, σ') ∧ bnd (f_X10_goes τ1) (fun _ s6 => some (a, s6)) = some (a, τ') ∧ Sim σ' τ' ∧ σ' 1 2 = σ 1 2 + 1 := by
    obtain ⟨σ2, τ2, w1, w2, w3, w4, _⟩ := pass_eq h1 (by rw [dd1]; exact hd)
    exact ⟨σ2, τ2, by rw [w1, bnd_s], by rw [w2, bnd_s], w3, by rw [w4, dd1]⟩
  have en : (nI n).toInt = (n : Int) := i_nI (by omega)
  by_cases hb : bt (nI T) c = true
  · rw [if_pos hb, if_neg (show ¬ (1 : Int32) = 0 by decide), if_neg (fun e => (and_two t1 hc).mp e hb)]
    exact fin
  · rw [if_neg hb, if_pos rfl, if_pos ((and_two t1 hc).mpr hb), ck_2, rd_2, e1, e2]
    by_cases n9 : n < 10
    · have nle : ¬ (10 : Int32) ≤ nI n := by rw [i_le, en, ti_10]; omega
      rw [if_neg nle, if_neg nle]
      obtain ⟨r2, σ2, τ2, u1, u2, h2, r20, dd2, nn2⟩ := draw_eq h1
      obtain ⟨r3, σ3, τ3, v1, v2, h3, r30, dd3, nn3⟩ := draw_eq h2
      have q7 := i_rem_b (a := r2) (b := 7) r20 (by decide)
      have q6 := i_rem_b (a := r3) (b := 6) r30 (by decide)
      obtain ⟨k, hk, ek⟩ := nI_ofi (a := irm r2 7) (n := 7) q7.1 q7.2
      have p : 2 ^ c < 2 ^ 12 := Nat.pow_lt_pow_right (by decide) hc
      have pI : (nI (2 ^ c)).toInt = ((2 ^ c : Nat) : Int) := i_nI (by omega)
      have ekk : (nI k).toInt = (k : Int) := i_nI (by omega)
      have q6' : (irm r3 6).toInt < 6 := q6.2
      obtain ⟨σ4, τ4, x1, x2, h4, dd4, _⟩ := h3.add n9 (by rw [nn3, nn2]; exact e1) (km := 10 * nI k) (c := nI (2 ^ c)) (w := irm r3 6) (ten_k k hk).1 (ten_k k hk).2 (by omega) (by omega) (by decide) (by decide) (by rw [pI]; exact Int.natCast_nonneg _) (by rw [pI]; exact Int.ofNat_lt.mpr p) q6.1 (by omega)
      obtain ⟨σ5, τ5, w1, w2, w3, w4, _⟩ := pass_eq h4 (by rw [dd4, dd3, dd2, dd1]; exact hd)
      rw [u1, u2, bnd_s, bnd_s, lt_a, lt_a, v1, v2, bnd_s, bnd_s, lt_a, ek, x1, x2, bnd_s, bnd_s, w1, w2, bnd_s, bnd_s]
      exact ⟨σ5, τ5, rfl, rfl, w3, by rw [w4, dd4, dd3, dd2, dd1]⟩
    · have le : (10 : Int32) ≤ nI n := by rw [i_le, en, ti_10]; omega
      rw [if_pos le, if_pos le]
      exact fin
theorem wipe_day {n l : Nat} {σ σ' : Sg} {v : Int32} (hl : l < 10) (D : ∃ σ1, f_X0_lossOf (nI l) (σ 1 2) σ = some (v, σ1) ∧ σ1 1 = σ 1) (w : f_X0_wipeLine (nI l) σ = some (v, σ')) : σ' 1 2 = σ 1 2 ∧ σ' 1 1 = σ 1 1 := by
  obtain ⟨σ1, d1, d2⟩ := D
  have el : (nI l).toInt = (l : Int) := i_nI (by omega)
  unfold f_X0_wipeLine at w
  rw [d1, bnd_s, ck_k el hl, tn_k el, lt_a, lt_a, lt_a] at w
  cases w
  rw [up_i (by decide), up_i (by decide), up_k (by omega), up_k (by omega), d2]
  exact ⟨rfl, rfl⟩
theorem wipe_eq2 {σ τ : Sg} (h : Sim σ τ) {n l : Nat} (hv : Vw n (σ 1 2) σ τ) (hl : l < n) : ∃ v σ' τ', f_X0_wipeLine (nI l) σ = some (v, σ') ∧ f_X10_isWiped (nI l) τ = some ((), τ') ∧ Sim σ' τ' ∧ σ' 1 2 = σ 1 2 ∧ σ' 1 1 = σ 1 1 := by
  obtain ⟨v, σ1, τ1, σ', τ', w1, w2, w3, w4, w5, w6⟩ := wipe_eq h hv hl
  have h10 := hv.1
  obtain ⟨v', σ1', τ1', z1, z2, z3, _⟩ := loss_eq hv hl
  rw [w1] at z1
  cases z1
  obtain ⟨q1, q2⟩ := wipe_day (n := n) (by omega) ⟨σ1, w1, z3 1 rfl⟩ w3
  exact ⟨v, σ', τ', w3, w4, w5, q1, q2⟩
theorem drawn_eq {σ τ : Sg} (h : Sim σ τ) (hd : (σ 1 2).toInt < 9999) : ∃ r σ' τ', f_X0_passDayByDraws σ = some (r, σ') ∧ f_X10_drawn τ = some (r, τ') ∧ Sim σ' τ' ∧ σ' 1 2 = σ 1 2 + 1 := by
  obtain ⟨n, hv⟩ := h.vw
  have n10 := hv.1
  have e1 := hv.2.1
  have e2 := hv.2.2.1
  have en : (nI n).toInt = (n : Int) := i_nI (by omega)
  unfold f_X0_passDayByDraws f_X10_drawn
  rw [ck_2, rd_2, e1, e2]
  by_cases n0 : n = 0
  · have le : nI n ≤ 0 := by rw [i_le, en, ti_0]; omega
    rw [if_pos le, if_pos le]
    obtain ⟨σ', τ', w⟩ := drawn39 h hd 0
    exact ⟨0, σ', τ', w⟩
  · have nle : ¬ nI n ≤ 0 := by rw [i_le, en, ti_0]; omega
    rw [if_neg nle, if_neg nle]
    obtain ⟨r, σ1, τ1, p1, p2, h1, r0, dd1, nn1⟩ := draw_eq h
    obtain ⟨n', hv1⟩ := h1.vw
    have f1 := hv1.2.1
    have f2 := hv1.2.2.1
    have h10' := hv1.1
    obtain rfl : n' = n := m_same_n (by omega) (by omega) (f1.symm.trans (nn1.trans e1))
    have hnz : nz (nI n') = true := by
      unfold nz
      rw [Bool.not_eq_true', decide_eq_false_iff_not]
      intro e; rw [e, ti_0] at en; omega
    have qn := i_rem_b (a := r) (b := nI n') r0 (by omega)
    obtain ⟨l, hl, el⟩ := nI_ofi (a := irm r (nI n')) (n := n') qn.1 (by omega)
    rw [p1, p2, bnd_s, bnd_s, ck_2, f1, rd_2, f2, ckb_t hnz, ckb_t hnz, lt_a, lt_a, el, (mayGo_eq hv1 hl).1, (mayGo_eq hv1 hl).2, bnd_s, bnd_s, if01, if01]
    by_cases g : gbI (σ1 (20 + l)) (σ1 1 2) (σ1 1 3) = 0
    · rw [if_pos g, if_pos g]
      obtain ⟨v, σ2, τ2, w1, w2, h2, dd2, _⟩ := wipe_eq2 h1 hv1 hl
      rw [w1, w2, bnd_s, bnd_s]
      obtain ⟨σ', τ', x1, x2, x3, x4⟩ := drawn39 h2 (by rw [dd2, dd1]; exact hd) 1
      exact ⟨1, σ', τ', x1, x2, x3, by rw [x4, dd2, dd1]⟩
    · rw [if_neg g, if_neg g]
      obtain ⟨σ', τ', x1, x2, x3, x4⟩ := drawn39 h1 (by rw [dd1]; exact hd) 0
      exact ⟨0, σ', τ', x1, x2, x3, by rw [x4, dd1]⟩
theorem loose_loop {N : Nat} (hN : N ≤ 30) : ∀ (d i n m : Nat) (acc : Int32) (σ τ : Sg), i + d = N → d < n → d < m → Sim σ τ → (σ 1 2).toInt + (d : Int) ≤ 9999 → Ok (f_X9_loose_41 n (nI N) acc (nI i) σ) (f_X10_loose_42 m (nI N) acc (nI i) τ) := by
  intro d
  induction d with
  | zero =>
    intro i n m acc σ τ hi hn hm h hd
    obtain ⟨n, rfl⟩ : ∃ j, n = j + 1 := ⟨n - 1, by omega⟩
    obtain ⟨m, rfl⟩ : ∃ j, m = j + 1 := ⟨m - 1, by omega⟩
    obtain rfl : i = N := by omega
    rw [f_X9_loose_41, f_X10_loose_42]
    unfold f_X9_loose_41_b f_X10_loose_42_b
    rw [if_pos (nI_le (Nat.le_refl _) (by omega)), if_pos (nI_le (Nat.le_refl _) (by omega))]
    exact Ok.mk h
  | succ d ih =>
    intro i n m acc σ τ hi hn hm h hd
    obtain ⟨n, rfl⟩ : ∃ j, n = j + 1 := ⟨n - 1, by omega⟩
    obtain ⟨m, rfl⟩ : ∃ j, m = j + 1 := ⟨m - 1, by omega⟩
    have nle := nI_ge (show i < N by omega) (show N < 2 ^ 31 by omega)
    obtain ⟨r, σ', τ', w1, w2, w3, w4⟩ := drawn_eq h (by omega)
    have ed : (σ 1 2 + 1).toInt = (σ 1 2).toInt + 1 := by rw [i_add (by rw [ti_1]; have := h.1.1.2.1; omega) (by rw [ti_1]; omega), ti_1]
    rw [f_X9_loose_41, f_X10_loose_42]
    unfold f_X9_loose_41_b f_X10_loose_42_b
    rw [if_neg nle, if_neg nle, w1, w2, bnd_s, bnd_s, lt_a, lt_a, lt_a, lt_a, nI_1]
    exact ih (i + 1) n m (acc + r) σ' τ' (by omega) (by omega) (by omega) w3 (by rw [w4, ed]; omega)
theorem eq_loose {σ τ : Sg} (h : Sim σ τ) (a : Int32) : Ok (f_X9_loose a σ) (f_X10_loose a τ) := by
  have d0 := h.1.1.1
  have d1 := h.1.1.2.1
  have d2 := h.1.1.2.2.1
  have t30 : (30 : Int32).toInt = 30 := rfl
  have t9 : (9999 : Int32).toInt = 9999 := rfl
  unfold f_X9_loose f_X10_loose
  simp only [x_isIn, m_in, x_err1, m_err1, x_err3, m_err3, bnd_s, if01]
  by_cases c1 : 1 ≤ a ∧ a ≤ 30
  · rw [if_pos c1, if_pos c1, ck_0, rd_0, d0]
    simp only [i_le, ti_1, t30] at c1
    obtain ⟨N, hN, rfl⟩ := nI_ofi (a := a) (n := 31) (by omega) (by omega)
    have eN : (nI N).toInt = (N : Int) := i_nI (by omega)
    by_cases c2 : σ 1 2 + nI N ≤ 9999
    · rw [if_pos c2, if_pos c2]
      rw [i_le, i_add (by rw [eN]; omega) (by rw [eN]; omega), eN, t9] at c2
      have := loose_loop (show N ≤ 30 by omega) N 0 fuN fuN 0 σ τ (by omega) (by have := fu_le; omega) (by have := fu_le; omega) h (by omega)
      rwa [nI_0] at this
    · rw [if_neg c2, if_neg c2]
      exact Ok.err h 3 (by decide)
  · rw [if_neg c1, if_neg c1]
    exact Ok.err h 1 (by decide)
/-! write -/
theorem i_div_n {a b : Int32} (h : a.toInt < 0) (hb : 0 < b.toInt) : (a / b).toInt = -(-a.toInt / b.toInt) := by
  rw [Int32.toInt_div]
  have h0 : 0 ≤ -a.toInt := by omega
  have h1 := i_lo a
  have e : a.toInt.tdiv b.toInt = -(-a.toInt / b.toInt) := by
    have := Int.neg_tdiv (-a.toInt) b.toInt
    rw [Int.neg_neg] at this
    rw [this, Int.tdiv_eq_ediv_of_nonneg h0]
  have h2 := Int.ediv_nonneg h0 (Int.le_of_lt hb)
  have h3 := Int.ediv_le_self b.toInt h0
  rw [e]
  by_cases q : -a.toInt / b.toInt ≤ 2147483648
  · by_cases q2 : -a.toInt / b.toInt = 2147483648
    · exact bm (by omega) (by omega)
    · exact bm (by omega) (by omega)
  · omega
theorem rem_n {a : Int32} (h : a.toInt < 0) : (irm a (100 : Int32)).toInt ≤ 0 := by
  have t100 : (100 : Int32).toInt = 100 := rfl
  have h1 := i_div_n h (b := 100) (by rw [t100]; omega)
  rw [t100] at h1
  have h2 := i_lo a
  unfold irm
  have h3 : (a / (100 : Int32) * 100).toInt = (a / (100 : Int32)).toInt * 100 := by rw [i_mul (by rw [h1, t100]; omega) (by rw [h1, t100]; omega), t100]
  rw [i_sub (by rw [h3, h1]; omega) (by rw [h3, h1]; omega), h3, h1]
  omega
theorem range_w {a : Int32} : (((0 : Int32) ≤ a / 100 ∧ a / 100 ≤ 11) ∧ ((1 : Int32) ≤ irm a 100 ∧ irm a 100 ≤ 12 - a / 100)) ↔ (((1 : Int32) ≤ a ∧ a ≤ 1199) ∧ ((1 : Int32) ≤ irm a 100 ∧ irm a 100 ≤ 12 - a / 100)) := by
  have t100 : (100 : Int32).toInt = 100 := rfl
  have t11 : (1199 : Int32).toInt = 1199 := rfl
  by_cases h : 0 ≤ a.toInt
  · have h1 := i_div h (b := 100) (by rw [t100]; omega)
    have h2 := i_rem h (b := 100) (by rw [t100]; omega)
    rw [t100] at h1 h2
    simp only [i_le, h1, h2, ti_0, ti_1, ti_11, t11]
    constructor
    · rintro ⟨⟨p1, p2⟩, p3, p4⟩; exact ⟨⟨by omega, by omega⟩, p3, p4⟩
    · rintro ⟨⟨p1, p2⟩, p3, p4⟩; exact ⟨⟨by omega, by omega⟩, p3, p4⟩
  · have h1 := rem_n (a := a) (by omega)
    constructor
    · rintro ⟨_, p3, _⟩; rw [i_le, ti_1] at p3; omega
    · rintro ⟨_, p3, _⟩; rw [i_le, ti_1] at p3; omega
theorem ink_less {σ τ : Sg} (h : Sim σ τ) {p : Nat} (hp : p < 5) {v : Int32} (v0 : 0 ≤ v.toInt) (v1 : v.toInt ≤ 99) : Sim (up σ 16 p v) (up τ 1 (7 + p) v) := by
  refine h.hi (fun k _ b => up_row b) (fun k a => up_row a) (by rw [up_k (by decide)]) (fun j hj => up_i (by omega)) ?_ ?_ (by rw [up_k (by decide)]; exact Int.le_refl _)
  · rw [up_row (by decide), up_rs]; exact Hd_r h.1.1 (by omega)
  · rw [up_rs, up_rs]; exact Ik_s h.1.2.1 v0 v1
theorem i_quot {a : Int32} (h0 : 0 ≤ a.toInt) (h1 : a.toInt ≤ 69) : (0 ≤ (a / (10 : Int32)).toInt ∧ (a / (10 : Int32)).toInt ≤ 6) ∧ 0 ≤ (irm a (10 : Int32)).toInt ∧ (irm a (10 : Int32)).toInt ≤ 9 := by
  have hd := i_div10 h0
  have hr := i_rem10 h0
  omega
theorem eq_write {σ τ : Sg} (h : Sim σ τ) (a b c d : Int32) : Ok (f_X9_write a b c d σ) (f_X10_write a b c d τ) := by
  obtain ⟨n, hv⟩ := h.vw
  have n10 := hv.1
  have e1 := hv.2.1
  have e2 := hv.2.2.1
  have en : (nI n).toInt = (n : Int) := i_nI (by omega)
  have t69 : (69 : Int32).toInt = 69 := rfl
  obtain ⟨T, t1, t2, t3⟩ := taken_eq hv
  unfold f_X9_write f_X10_write f_X10_write_41
  simp only [x_isIn, m_in, x_isKm, m_isKm, x_err1, m_err1, x_err3, m_err3, x_err4, m_err4, bnd_s, if01, lt_a]
  by_cases c1 : 0 ≤ a ∧ a ≤ 69
  · rw [if_pos c1, if_pos c1]
    have rw_ := range_w (a := b)
    by_cases c2 : ((0 : Int32) ≤ b / 100 ∧ b / 100 ≤ 11) ∧ ((1 : Int32) ≤ irm b 100 ∧ irm b 100 ≤ 12 - b / 100)
    · have c2' := rw_.mp c2
      rw [if_pos c2.1, if_pos c2.2, if_pos c2'.1, if_pos c2'.2, if_neg (show ¬ (1 : Int32) = 0 by decide)]
      by_cases c3 : 0 ≤ c ∧ c ≤ 5
      · rw [if_pos c3, if_pos c3]
        by_cases c4 : 0 ≤ d ∧ d ≤ 4
        · rw [if_pos c4, if_pos c4, ck_2, rd_2, e1, e2]
          by_cases n9 : n < 10
          · have lt10 : nI n < (10 : Int32) := by rw [i_lt, en, ti_10]; omega
            have ne10 : ¬ nI n = (10 : Int32) := by rw [i_eq, en, ti_10]; omega
            rw [if_pos lt10, if_neg ne10]
            obtain ⟨⟨f0, f1⟩, f2, f3⟩ := c2
            rw [i_le, ti_0] at f0
            rw [i_le, ti_11] at f1
            rw [i_le, ti_1] at f2
            rw [i_le, i_sub (by rw [ti_12]; omega) (by rw [ti_12]; omega), ti_12] at f3
            obtain ⟨F, hF, eF⟩ := nI_ofi (a := b / 100) (n := 12) f0 (by omega)
            obtain ⟨K, hK, eK⟩ := nI_ofi (a := irm b 100) (n := 13) (by omega) (by omega)
            have iF : (nI F).toInt = (F : Int) := i_nI (by omega)
            have iK : (nI K).toInt = (K : Int) := i_nI (by omega)
            rw [eK, eF, iK, iF] at f3
            rw [eK, iK] at f2
            rw [eF, eK]
            unfold f_X9_columnsFrom f_X10_window
            rw [win_eq K (by omega) F (by omega) (by omega), bnd_s, bnd_s, t2, t3, bnd_s, bnd_s, Int32.and_comm (nI (winN F K)) (nI T)]
            by_cases c5 : nI T &&& nI (winN F K) = 0
            · rw [if_pos c5, if_pos c5]
              have c4' := c4
              rw [i_le, i_le, ti_0, ti_4] at c4'
              obtain ⟨p, hp, rfl⟩ := nI_ofi (a := d) (n := 5) c4'.1 (by omega)
              have ep : (nI p).toInt = (p : Int) := i_nI (by omega)
              have e7 : ((7 : Int32) + nI p).toInt = ((7 + p : Nat) : Int) := by rw [i_add (by rw [ep, ti_7]; omega) (by rw [ep, ti_7]; omega), ep, ti_7]; omega
              obtain ⟨k1, k2, k3⟩ := h.1.2.1 p hp
              rw [ck_k ep hp, ck_k ep hp, ck_k ep hp, rd_k ep, tn_k ep, ck_k e7 (by omega), ck_k e7 (by omega), ck_k e7 (by omega), rd_k e7, tn_k e7, k1]
              by_cases c6 : nI K ≤ σ 16 p
              · rw [if_pos c6, if_pos c6]
                rw [i_le, iK] at c6
                have es : (σ 16 p - nI K).toInt = (σ 16 p).toInt - (K : Int) := by rw [i_sub (by rw [iK]; omega) (by rw [iK]; omega), iK]
                have h2 := ink_less h hp (v := σ 16 p - nI K) (by omega) (by omega)
                rw [i_le, i_le, ti_0, t69] at c1
                rw [i_le, i_le, ti_0, ti_5] at c3
                obtain ⟨⟨g1, g2⟩, g3, g4⟩ := i_quot c1.1 c1.2
                have wl := win_lt K (by omega) F (by omega) (by omega)
                have wI : (nI (winN F K)).toInt = ((winN F K : Nat) : Int) := i_nI (by omega)
                obtain ⟨σ4, τ4, x1, x2, h4, dd4, _⟩ := h2.add n9 (by rw [up_k (by decide)]; exact e1) (km := a) (c := nI (winN F K)) (w := c) rfl rfl g1 g2 g3 g4 (by omega) (by omega) c3.1 c3.2
                rw [x1, x2, bnd_s, bnd_s]
                exact Ok.mk h4
              · rw [if_neg c6, if_neg c6]
                exact Ok.err h 3 (by decide)
            · rw [if_neg c5, if_neg c5]
              exact Ok.err h 3 (by decide)
          · have lt10 : ¬ nI n < (10 : Int32) := by rw [i_lt, en, ti_10]; omega
            have ne10 : nI n = (10 : Int32) := by rw [i_eq, en, ti_10]; omega
            rw [if_neg lt10, if_pos ne10]
            exact Ok.err h 4 (by decide)
        · rw [if_neg c4, if_neg c4]
          exact Ok.err h 1 (by decide)
      · rw [if_neg c3, if_neg c3]
        exact Ok.err h 1 (by decide)
    · have c2' : ¬ (((1 : Int32) ≤ b ∧ b ≤ 1199) ∧ ((1 : Int32) ≤ irm b 100 ∧ irm b 100 ≤ 12 - b / 100)) := fun e => c2 (rw_.mpr e)
      have left : ∀ X : Option (Int32 × Sg), (if (0 : Int32) ≤ b / 100 ∧ b / 100 ≤ 11 then (if (1 : Int32) ≤ irm b 100 ∧ irm b 100 ≤ 12 - b / 100 then X else some (-1000000001, up σ 8 1 (σ 8 1 + 1))) else some (-1000000001, up σ 8 1 (σ 8 1 + 1))) = some (-1000000001, up σ 8 1 (σ 8 1 + 1)) := by
        intro X
        by_cases q : (0 : Int32) ≤ b / 100 ∧ b / 100 ≤ 11
        · rw [if_pos q, if_neg (fun e => c2 ⟨q, e⟩)]
        · rw [if_neg q]
      rw [left, if_pos trivial]
      by_cases q : (1 : Int32) ≤ b ∧ b ≤ 1199
      · rw [if_pos q, if_neg (fun e => c2' ⟨q, e⟩)]
        exact Ok.err h 1 (by decide)
      · rw [if_neg q]
        exact Ok.err h 1 (by decide)
  · rw [if_neg c1, if_neg c1, if_pos trivial]
    exact Ok.err h 1 (by decide)
end
section
theorem judge_loop {u t n : Nat} (hu : u < 4) (ht : t ≤ 24) {σ τ : Sg} (hv : Vw n (σ 1 2) σ τ) (s1 : σ (10 + u + 48) 1 = nI t) (s2 : τ 6 u = nI t) (s3 : ∀ j, j < t → τ 7 (24 * u + j) = σ (10 + u + 48 + 18) j) : ∀ (d i m m' : Nat), i + d = t → d < m → d < m' → ∃ r, f_X9_judge_45 m (10 + u + 48) (nI i) σ = some (r, σ) ∧ f_X10_judge_18 m' (nI u) (nI i) τ = some (r, τ) := by
  have n10 := hv.1
  have e1 := hv.2.1
  have e2 := hv.2.2.1
  have eu : (nI u).toInt = (u : Int) := i_nI (by omega)
  intro d
  induction d with
  | zero =>
    intro i m m' hi hm hm'
    obtain ⟨m, rfl⟩ : ∃ j, m = j + 1 := ⟨m - 1, by omega⟩
    obtain ⟨m', rfl⟩ : ∃ j, m' = j + 1 := ⟨m' - 1, by omega⟩
    obtain rfl : i = t := by omega
    refine ⟨nI i, ?_, ?_⟩
    · rw [f_X9_judge_45]
      unfold f_X9_judge_45_b
      rw [s1, if_pos (nI_le (Nat.le_refl _) (by omega))]
    · rw [f_X10_judge_18]
      unfold f_X10_judge_18_b
      rw [ck_k eu hu, rd_k eu, s2, if_pos (nI_le (Nat.le_refl _) (by omega))]
  | succ d ih =>
    intro i m m' hi hm hm'
    obtain ⟨m, rfl⟩ : ∃ j, m = j + 1 := ⟨m - 1, by omega⟩
    obtain ⟨m', rfl⟩ : ∃ j, m' = j + 1 := ⟨m' - 1, by omega⟩
    have ei : (nI i).toInt = (i : Int) := i_nI (by omega)
    have nle := nI_ge (show i < t by omega) (show t < 2 ^ 31 by omega)
    have e24 := i_sq hu (show i ≤ 24 by omega)
    have hc : capC (10 + u + 48 + 18) = 24 := cap_sh hu
    rw [f_X9_judge_45, f_X10_judge_18]
    unfold f_X9_judge_45_b f_X10_judge_18_b
    rw [s1, if_neg nle, x_hasLine e1, bnd_s, ck_k eu hu, rd_k eu, s2, if_neg nle, ck_2, rd_2, e2, if01]
    by_cases hl : i < n
    · have c1 : 0 ≤ nI i ∧ nI i < nI n := ⟨by rw [i_le, ei, ti_0]; omega, nI_lt hl (by omega)⟩
      obtain ⟨v, v1, v2, _⟩ := back_eq hv hl
      rw [if_pos c1, if_neg (nI_ge hl (by omega)), hc, ck_k ei (by omega), ck_k ei (by omega), tn_k ei, lt_a, v1, bnd_s, rd_k ei, ck_k e24 (by omega), v2, bnd_s, rd_k e24, s3 i (by omega)]
      by_cases z : σ (10 + u + 48 + 18) i = v
      · rw [if_pos z, if_pos z, lt_a, lt_a, nI_1]
        exact ih (i + 1) m m' (by omega) (by omega) (by omega)
      · rw [if_neg z, if_neg z]
        exact ⟨_, rfl, rfl⟩
    · have c1 : ¬ (0 ≤ nI i ∧ nI i < nI n) := fun e => hl ((nI_ltI (by omega) (by omega)).mp e.2)
      rw [if_neg c1, if_pos (nI_le (by omega) (by omega))]
      exact ⟨_, rfl, rfl⟩
theorem eq_judge {σ τ : Sg} (h : Sim σ τ) (a : Int32) : Ok (f_X9_judge a σ) (f_X10_judge a τ) := by
  unfold f_X9_judge f_X10_judge
  simp only [x_isIn, x_err1, x_err2, bnd_s, if01, x_isMissing]
  by_cases ha : 0 ≤ a ∧ a ≤ 3
  · rw [if_pos ha]
    obtain ⟨u, hu, rfl⟩ := sh_arg ha
    have eu : (nI u).toInt = (u : Int) := i_nI (by omega)
    obtain ⟨s1, s2, t, s3, s4, s5, s6⟩ := h.2.2.2.2.1 u hu
    rw [m_notThere_t hu, bnd_s, ck_k eu hu, tn_k eu, lt_a, s1]
    by_cases hz : σ (10 + u) 1 = 0
    · rw [if_pos hz, if_pos hz, if_neg (show ¬ (-1000000002 : Int32) = 0 by decide), m_err2, bnd_s]
      exact Ok.err h 2 (by decide)
    · rw [if_neg hz, if_neg hz, if_pos rfl, ck_k eu hu, lt_a]
      obtain ⟨n, hv⟩ := h.vw
      obtain ⟨r, r1, r2⟩ := judge_loop hu s3 hv (by rw [show 10 + u + 48 = 58 + u by omega]; exact s4) s5 (fun j hj => by rw [show 10 + u + 48 + 18 = 76 + u by omega]; exact s6 j hj) t 0 fuN fuN (by omega) (by have := fu_le; omega) (by have := fu_le; omega)
      rw [nI_0] at r1 r2
      rw [r1, r2]
      exact Ok.mk h
  · rw [if_neg ha, m_notThere_b ha, bnd_s, if_neg (show ¬ (-1000000001 : Int32) = 0 by decide), m_err1, bnd_s]
    exact Ok.err h 1 (by decide)
theorem dates_loop {u t : Nat} (hu : u < 4) (ht : t ≤ 24) : ∀ (d i m m' : Nat) (σ τ : Sg), i + d = t → d < m → d < m' → Sim σ τ → σ (10 + u + 48) 1 = nI t → τ 6 u = nI t → (∀ j, j < t → τ 7 (24 * u + j) = σ (10 + u + 48 + 18) j) → Ok (f_X9_dates_45 m (10 + u + 48) (nI i) σ) (f_X10_dates_18 m' (nI u) (nI i) τ) := by
  have eu : (nI u).toInt = (u : Int) := i_nI (by omega)
  intro d
  induction d with
  | zero =>
    intro i m m' σ τ hi hm hm' h s1 s2 s3
    obtain ⟨m, rfl⟩ : ∃ j, m = j + 1 := ⟨m - 1, by omega⟩
    obtain ⟨m', rfl⟩ : ∃ j, m' = j + 1 := ⟨m' - 1, by omega⟩
    obtain rfl : i = t := by omega
    rw [f_X9_dates_45, f_X10_dates_18]
    unfold f_X9_dates_45_b f_X10_dates_18_b
    rw [s1, if_pos (nI_le (Nat.le_refl _) (by omega)), ck_k eu hu, rd_k eu, s2, if_pos (nI_le (Nat.le_refl _) (by omega))]
    exact Ok.mk h
  | succ d ih =>
    intro i m m' σ τ hi hm hm' h s1 s2 s3
    obtain ⟨n, hv⟩ := h.vw
    have n10 := hv.1
    have e1 := hv.2.1
    have e2 := hv.2.2.1
    have d0 : τ 1 0 = σ 1 2 := h.1.1.1
    obtain ⟨m, rfl⟩ : ∃ j, m = j + 1 := ⟨m - 1, by omega⟩
    obtain ⟨m', rfl⟩ : ∃ j, m' = j + 1 := ⟨m' - 1, by omega⟩
    have ei : (nI i).toInt = (i : Int) := i_nI (by omega)
    have nle := nI_ge (show i < t by omega) (show t < 2 ^ 31 by omega)
    have e24 := i_sq hu (show i ≤ 24 by omega)
    have hc : capC (10 + u + 48 + 18) = 24 := cap_sh hu
    rw [f_X9_dates_45, f_X10_dates_18]
    unfold f_X9_dates_45_b f_X10_dates_18_b
    rw [s1, if_neg nle, x_hasLine e1, bnd_s, ck_k eu hu, rd_k eu, s2, if_neg nle, ck_2, rd_2, e2, if01]
    by_cases hl : i < n
    · have c1 : 0 ≤ nI i ∧ nI i < nI n := ⟨by rw [i_le, ei, ti_0]; omega, nI_lt hl (by omega)⟩
      rw [if_pos c1, if_neg (nI_ge hl (by omega)), hc, ck_k ei (by omega), ck_k e24 (by omega), ck_0, rd_0, d0, rd_k ei, rd_k e24, s3 i (by omega), x_isIn, m_in, bnd_s, bnd_s, if01, if01]
      generalize hz : σ (10 + u + 48 + 18) i = z
      by_cases c2 : 0 ≤ z ∧ z ≤ σ 1 2
      · rw [if_pos c2, if_pos c2, ck_k ei (by omega), tn_k ei, lt_a, ck_k ei (by omega), lt_a, lt_a, ck_k e24 (by omega), m_lets 4 (by omega) rfl (by decide), bnd_s, lt_a, nI_1, rd_k ei, rd_k e24, s3 i (by omega), hz]
        rw [i_le, i_le, ti_0] at c2
        refine ih (i + 1) m m' _ _ (by omega) (by omega) (by omega) ?_ (by rw [up_k (by omega)]; exact s1) (by rw [up_k (by decide)]; exact s2) (fun j hj => by rw [up_k (by decide), up_k (by omega)]; exact s3 j hj)
        refine h.line e1 n10 hl (fun k hk => up_row hk) eqM1.up (fun j hj => up_i (by omega)) ?_ ?_ (fun f hf => ?_)
        · obtain ⟨q1, q2, q3, q4, q5, q6⟩ := (hv.2.2.2.2.2.2.1 i hl).1
          unfold LnOK
          simp (disch := decide) only [up_i, up_s]
          exact ⟨q1, q2, q3, q4, c2, q6⟩
        · rw [up_i (by decide)]; exact hv.2.2.2.2.2.2.2.1 i (by omega)
        · by_cases hf4 : f = 4
          · subst hf4; rw [up_s, up_s]
          · rw [up_i (by omega), up_i hf4]; exact (hv.2.2.2.2.2.2.1 i hl).2 f hf
      · rw [if_neg c2, if_neg c2]
        exact Ok.mk h
    · have c1 : ¬ (0 ≤ nI i ∧ nI i < nI n) := fun e => hl ((nI_ltI (by omega) (by omega)).mp e.2)
      rw [if_neg c1, if_pos (nI_le (by omega) (by omega))]
      exact Ok.mk h
theorem eq_dates {σ τ : Sg} (h : Sim σ τ) (a : Int32) : Ok (f_X9_dates a σ) (f_X10_dates a τ) := by
  unfold f_X9_dates f_X10_dates
  simp only [x_isIn, x_err1, x_err2, bnd_s, if01, x_isMissing]
  by_cases ha : 0 ≤ a ∧ a ≤ 3
  · rw [if_pos ha]
    obtain ⟨u, hu, rfl⟩ := sh_arg ha
    have eu : (nI u).toInt = (u : Int) := i_nI (by omega)
    obtain ⟨s1, s2, t, s3, s4, s5, s6⟩ := h.2.2.2.2.1 u hu
    rw [m_notThere_t hu, bnd_s, ck_k eu hu, tn_k eu, lt_a, s1]
    by_cases hz : σ (10 + u) 1 = 0
    · rw [if_pos hz, if_pos hz, if_neg (show ¬ (-1000000002 : Int32) = 0 by decide), m_err2, bnd_s]
      exact Ok.err h 2 (by decide)
    · rw [if_neg hz, if_neg hz, if_pos rfl, ck_k eu hu, lt_a]
      have := dates_loop hu s3 t 0 fuN fuN σ τ (by omega) (by have := fu_le; omega) (by have := fu_le; omega) h (by rw [show 10 + u + 48 = 58 + u by omega]; exact s4) s5 (fun j hj => by rw [show 10 + u + 48 + 18 = 76 + u by omega]; exact s6 j hj)
      rwa [nI_0] at this
  · rw [if_neg ha, m_notThere_b ha, bnd_s, if_neg (show ¬ (-1000000001 : Int32) = 0 by decide), m_err1, bnd_s]
    exact Ok.err h 1 (by decide)
/-! bytes -/
theorem am_s : ∀ i, i < 8 → (((8 : Int32) * nI i).toInt64 &&& 63).toBitVec.smod 64 = BitVec.ofNat 64 (8 * i) := by decide +kernel
theorem am_u : ∀ i, i < 8 → ((((8 : Int32) * nI i).toInt64.toUInt64 &&& Int64.toUInt64 63).toBitVec % 64).toNat = 8 * i := by decide +kernel
theorem b255 : ∀ l, l < 32 → (255 : Int32).toBitVec.getLsbD l = decide (l < 8) ∧ (255 : Int64).toBitVec.getLsbD l = decide (l < 8) := by decide +kernel
theorem byte_eq (x : Int64) {i : Nat} (hi : i < 8) : ((lus x ((8 : Int32) * nI i)).toInt32 &&& (255 : Int32)) = ((lsr x ((8 : Int32) * nI i)) &&& (255 : Int64)).toInt32 := by
  refine bt_ext fun l hl => ?_
  have q := b255 l hl
  have e1 : bt (lus x ((8 : Int32) * nI i)).toInt32 l = x.toBitVec.getLsbD (8 * i + l) := by
    unfold bt lus
    rw [Int64.toBitVec_toInt32, BitVec.signExtend_eq_setWidth_of_le _ (by decide), BitVec.getLsbD_setWidth]
    show (decide (l < 32) && (x.toUInt64 >>> (((8 : Int32) * nI i).toInt64.toUInt64 &&& Int64.toUInt64 63)).toBitVec.getLsbD l) = _
    rw [UInt64.toBitVec_shiftRight, BitVec.ushiftRight_eq', BitVec.getLsbD_ushiftRight, am_u i hi]
    simp [hl]
  have e2 : bt ((lsr x ((8 : Int32) * nI i)) &&& (255 : Int64)).toInt32 l = (x.toBitVec.getLsbD (8 * i + l) && decide (l < 8)) := by
    unfold bt lsr
    rw [Int64.toBitVec_toInt32, BitVec.signExtend_eq_setWidth_of_le _ (by decide), BitVec.getLsbD_setWidth, Int64.toBitVec_and, BitVec.getLsbD_and, q.2, Int64.toBitVec_shiftRight, am_s i hi, BitVec.getLsbD_sshiftRight']
    by_cases h8 : l < 8
    · have : (BitVec.ofNat 64 (8 * i)).toNat = 8 * i := by rw [BitVec.toNat_ofNat]; omega
      rw [this, if_pos (by omega)]
      simp [hl, h8]
      intro; omega
    · simp [h8]
  rw [bt_and, e1, e2]
  show (_ && (255 : Int32).toBitVec.getLsbD l) = _
  rw [q.1]
end
section
theorem Sim.tape {σ τ : Sg} (h : Sim σ τ) {t : Nat} (ht : t < 60) (q1 : σ 44 1 = nI t) (v : Int32) : Sim (up (up σ 62 t v) 44 1 (nI (t + 1))) (up (up τ 1 (82 + t) v) 1 5 (nI (t + 1))) := by
  obtain ⟨a1, a2, ⟨n, hn, e1, e2, a3⟩, a4, ⟨t', ht', p1, p2, p3⟩, a6, a7⟩ := h.1
  obtain rfl : t' = t := m_same_n (by omega) (by omega) (p1.symm.trans q1)
  refine h.bd ?_ ((eqX1.up rfl).tr (eqX1.up rfl)) (eqM1.up.tr eqM1.up)
  refine Bd1.of (ln := fun l => σ (20 + l)) (th := fun u => σ (40 + u) 0) (cn := fun u => σ (48 + u) 1) (cs := fun u => σ (66 + u)) ?_ (fun l hl => by simp (disch := omega) only [up_row]) (fun u hu => by simp (disch := omega) only [up_row]) (fun u hu => by simp (disch := omega) only [up_row]) (fun u hu => by simp (disch := omega) only [up_row])
  simp (disch := omega) only [up_row, up_rs]
  refine ⟨Hd_r (Hd_r a1 (by omega)) (by omega), Ik_r (Ik_r a2 (by omega)) (by omega), ⟨n, hn, e1, ?_, Lns_r (Lns_r a3 (by omega)) (by omega)⟩, a4, ?_, Sq_r (c0 := 6) (o := 142) (Sq_r a6 (by omega) (by omega)) (by omega) (by omega), fun u hu => Cd_r (Cd_r (a7 u hu) (by omega)) (by omega)⟩
  · rw [upd_n (by omega), upd_n (by omega)]; exact e2
  · refine ⟨t' + 1, by omega, ?_, ?_, fun j hj => ?_⟩
    · rw [upd_e]
    · rw [upd_e]
    · show upd (upd (τ 1) (82 + t') v) 5 _ (82 + j) = upd (σ 62) t' v j
      rw [upd_n (by omega)]
      by_cases hjt : j = t'
      · subst hjt; rw [upd_e, upd_e]
      · rw [upd_n (by omega), upd_n hjt]; exact p3 j (by omega)
theorem feed_loop (w : Int64) {N : Nat} (hN : N ≤ 8) : ∀ (d i t m m' : Nat) (σ τ : Sg), i + d = N → d < m → d < m' → Sim σ τ → σ 44 1 = nI t → t + d ≤ 60 → Ok (f_X9_feed_39 m w (nI N) (nI i) σ) (f_X10_feed_40 m' w (nI N) (nI i) τ) := by
  intro d
  induction d with
  | zero =>
    intro i t m m' σ τ hi hm hm' h s1 s2
    obtain ⟨m, rfl⟩ : ∃ j, m = j + 1 := ⟨m - 1, by omega⟩
    obtain ⟨m', rfl⟩ : ∃ j, m' = j + 1 := ⟨m' - 1, by omega⟩
    obtain rfl : i = N := by omega
    obtain ⟨a1, a2, a3, a4, ⟨t', ht', p1, p2, p3⟩, a6, a7⟩ := h.1
    rw [f_X9_feed_39, f_X10_feed_40]
    unfold f_X9_feed_39_b f_X10_feed_40_b
    rw [if_pos (nI_le (Nat.le_refl _) (by omega)), if_pos (nI_le (Nat.le_refl _) (by omega)), ck_5, rd_5, p1, p2]
    exact Ok.mk h
  | succ d ih =>
    intro i t m m' σ τ hi hm hm' h s1 s2
    obtain ⟨m, rfl⟩ : ∃ j, m = j + 1 := ⟨m - 1, by omega⟩
    obtain ⟨m', rfl⟩ : ∃ j, m' = j + 1 := ⟨m' - 1, by omega⟩
    obtain ⟨a1, a2, a3, a4, ⟨t', ht', p1, p2, p3⟩, a6, a7⟩ := h.1
    obtain rfl : t' = t := m_same_n (by omega) (by omega) (p1.symm.trans s1)
    have nle := nI_ge (show i < N by omega) (show N < 2 ^ 31 by omega)
    have et : (nI t').toInt = (t' : Int) := i_nI (by omega)
    have t82 : (82 : Int32).toInt = 82 := rfl
    have e82 : ((82 : Int32) + nI t').toInt = ((82 + t' : Nat) : Int) := by
      rw [i_add (by rw [et, t82]; omega) (by rw [et, t82]; omega), et, t82]; omega
    rw [f_X9_feed_39, f_X10_feed_40]
    unfold f_X9_feed_39_b f_X10_feed_40_b
    rw [if_neg nle, if_neg nle, x_add s1 (show t' < capC (44 + 18) by show t' < 60; omega), bnd_s, lt_a, nI_1, byte_eq w (by omega), ck_5, rd_5, p2, ck_k e82 (by omega), tn_k e82, lt_a, ck_5, ck_5, rd_5, tn_5, up_i (by omega), p2, nI_1, lt_a, lt_a]
    exact ih (i + 1) (t' + 1) m m' _ _ (by omega) (by omega) (by omega) (h.tape (by omega) s1 _) up_s (by omega)
theorem eq_feed {σ τ : Sg} (h : Sim σ τ) (w : Int64) (a : Int32) : Ok (f_X9_feed w a σ) (f_X10_feed w a τ) := by
  obtain ⟨a1, a2, a3, a4, ⟨t, ht, p1, p2, p3⟩, a6, a7⟩ := h.1
  have et : (nI t).toInt = (t : Int) := i_nI (by omega)
  have t60 : (60 : Int32).toInt = 60 := rfl
  unfold f_X9_feed f_X10_feed f_X6_hasRoomFor
  simp only [x_isIn, m_in, x_err1, m_err1, x_err4, m_err4, bnd_s, if01]
  by_cases c1 : 1 ≤ a ∧ a ≤ 8
  · rw [if_pos c1, if_pos c1, ck_5, rd_5, p2, p1]
    simp only [i_le, ti_1, ti_8] at c1
    obtain ⟨N, hN, rfl⟩ := nI_ofi (a := a) (n := 9) (by omega) (by omega)
    have eN : (nI N).toInt = (N : Int) := i_nI (by omega)
    have es : (Int32.ofNat (capC (44 + 18)) - nI t).toInt = 60 - (t : Int) := by
      rw [show Int32.ofNat (capC (44 + 18)) = (60 : Int32) from rfl, i_sub (by rw [et, t60]; omega) (by rw [et, t60]; omega), et, t60]
    have ea : (nI t + nI N).toInt = (t : Int) + (N : Int) := by rw [i_add (by rw [et, eN]; omega) (by rw [et, eN]; omega), et, eN]
    by_cases c2 : t + N ≤ 60
    · rw [if_neg (by rw [i_lt, es, eN]; omega), if_pos (by rw [i_le, ea, t60]; omega), bnd_s, if_neg (show ¬ (1 : Int32) = 0 by decide)]
      have := feed_loop w (show N ≤ 8 by omega) N 0 t fuN fuN σ τ (by omega) (by have := fu_le; omega) (by have := fu_le; omega) h p1 c2
      rwa [nI_0] at this
    · rw [if_pos (by rw [i_lt, es, eN]; omega), if_neg (by rw [i_le, ea, t60]; omega), bnd_s, if_pos rfl]
      exact Ok.err h 4 (by decide)
  · rw [if_neg c1, if_neg c1]
    exact Ok.err h 1 (by decide)
/-! odds -/
theorem if11 {α : Type} {c : Prop} [Decidable c] {A B : α} : (if (if c then (1 : Int32) else 0) = 1 then A else B) = if c then A else B := by
  by_cases h : c
  · rw [if_pos h, if_pos h, if_pos rfl]
  · rw [if_neg h, if_neg h, if_neg (by decide)]
theorem cmp0 {a : Nat} (ha : a < 2 ^ 63) : lg_cmp (lN a) (0 : Int64) = 0 ↔ a = 0 := by
  rw [lg_cmp_eq]
  have := pk_lEQ ha (b := 0) (by decide)
  exact this
theorem nzl_p {a : Nat} (ha : a < 2 ^ 63) (h : 0 < a) : nzl (lN a) = true := by
  unfold nzl
  rw [Bool.not_eq_true', decide_eq_false_iff_not]
  intro e
  have := (pk_lEQ ha (b := 0) (by decide)).mp e
  omega
theorem half_step {r B : Nat} (hr : 0 < r) (h : r < B) : 2 * (B % r) < B := by
  have h1 := Nat.mod_lt B hr
  have h2 := Nat.mod_add_div B r
  have h3 : 1 ≤ B / r := Nat.div_pos (by omega) hr
  have h4 : r * 1 ≤ r * (B / r) := Nat.mul_le_mul_left r h3
  omega
theorem x_gcd (σ : Sg) : ∀ (k A B s n : Nat), A < 2 ^ 62 → B < 2 ^ 62 → B < 2 ^ k → s + 2 * k < 1000 → 2 * k < n → f_X9_sharedDivisor_9 n (lN A) (lN B) (nI s) σ = some (lN (Nat.gcd B A), σ) := by
  intro k
  have stop : ∀ (A s n : Nat), s < 1000 → f_X9_sharedDivisor_9 (n + 1) (lN A) (lN 0) (nI s) σ = some (lN (Nat.gcd 0 A), σ) := by
    intro A s n hs
    have es : (nI s).toInt = (s : Int) := i_nI (by omega)
    rw [f_X9_sharedDivisor_9]
    unfold f_X9_sharedDivisor_9_b
    rw [if_neg (by rw [i_le, es]; show ¬ (1000 : Int) ≤ _; omega), if_pos ((cmp0 (by decide)).mpr rfl), Nat.gcd_zero_left]
  have step : ∀ (A B s n : Nat), A < 2 ^ 62 → B < 2 ^ 62 → 0 < B → s < 1000 → f_X9_sharedDivisor_9 (n + 1) (lN A) (lN B) (nI s) σ = f_X9_sharedDivisor_9 n (lN B) (lN (A % B)) (nI (s + 1)) σ := by
    intro A B s n hA hB h0 hs
    have es : (nI s).toInt = (s : Int) := i_nI (by omega)
    have hr : lrm (lN A) (lN B) = lN (A % B) := pk_lRem (by omega) h0 (by omega)
    rw [f_X9_sharedDivisor_9]
    unfold f_X9_sharedDivisor_9_b
    rw [if_neg (by rw [i_le, es]; show ¬ (1000 : Int) ≤ _; omega), if_neg (fun e => by have := (cmp0 (by omega)).mp e; omega), ckb_t (nzl_p (by omega) h0), lt_a, lt_a, hr, nI_1]
  induction k with
  | zero =>
    intro A B s n hA hB hk hs hn
    obtain ⟨n, rfl⟩ : ∃ j, n = j + 1 := ⟨n - 1, by omega⟩
    obtain rfl : B = 0 := by omega
    exact stop A s n (by omega)
  | succ k ih =>
    intro A B s n hA hB hk hs hn
    obtain ⟨n, rfl⟩ : ∃ j, n = j + 2 := ⟨n - 2, by omega⟩
    by_cases h0 : B = 0
    · subst h0; exact stop A s (n + 1) (by omega)
    · have hr := Nat.mod_lt A (show 0 < B by omega)
      rw [show n + 2 = (n + 1) + 1 by omega, step A B s (n + 1) hA hB (by omega) (by omega)]
      rw [Nat.gcd_rec B A]
      by_cases h1 : A % B = 0
      · rw [h1]; exact stop B (s + 1) n (by omega)
      · have hh := half_step (show 0 < A % B by omega) hr
        rw [step B (A % B) (s + 1) n hB (by omega) (by omega) (by omega), Nat.gcd_rec (A % B) B]
        have p2 : 2 ^ (k + 1) = 2 * 2 ^ k := by rw [Nat.pow_succ]; omega
        exact ih (A % B) (B % (A % B)) (s + 1 + 1) n (by omega) (by omega) (by omega) (by omega) (by omega)
theorem m_gcd (τ : Sg) (w : Int32) (P Q : Int64) : ∀ (k A B n : Nat), A < 2 ^ 62 → B < 2 ^ 62 → B < 2 ^ k → 2 * k < n → 0 < Nat.gcd B A → f_X10_odds_106 n w P Q (lN B) (lN A) τ = some (if w = 0 then P / lN (Nat.gcd B A) else Q / lN (Nat.gcd B A), τ) := by
  intro k
  have stop : ∀ (A n : Nat), A < 2 ^ 62 → 0 < Nat.gcd 0 A → f_X10_odds_106 (n + 1) w P Q (lN 0) (lN A) τ = some (if w = 0 then P / lN (Nat.gcd 0 A) else Q / lN (Nat.gcd 0 A), τ) := by
    intro A n hA h0
    rw [Nat.gcd_zero_left] at h0 ⊢
    rw [f_X10_odds_106]
    unfold f_X10_odds_106_b
    rw [if_pos ((cmp0 (by decide)).mpr rfl), ckb_t (nzl_p (by omega) h0), ckb_t (nzl_p (by omega) h0)]
    by_cases hw : w = 0
    · rw [if_pos hw, if_pos hw]
    · rw [if_neg hw, if_neg hw]
  have step : ∀ (A B n : Nat), A < 2 ^ 62 → B < 2 ^ 62 → 0 < B → f_X10_odds_106 (n + 1) w P Q (lN B) (lN A) τ = f_X10_odds_106 n w P Q (lN (A % B)) (lN B) τ := by
    intro A B n hA hB h0
    have hr : lrm (lN A) (lN B) = lN (A % B) := pk_lRem (by omega) h0 (by omega)
    rw [f_X10_odds_106]
    unfold f_X10_odds_106_b
    rw [if_neg (fun e => by have := (cmp0 (by omega)).mp e; omega), ckb_t (nzl_p (by omega) h0), lt_a, hr]
  induction k with
  | zero =>
    intro A B n hA hB hk hn h0
    obtain ⟨n, rfl⟩ : ∃ j, n = j + 1 := ⟨n - 1, by omega⟩
    obtain rfl : B = 0 := by omega
    exact stop A n hA h0
  | succ k ih =>
    intro A B n hA hB hk hn hg
    obtain ⟨n, rfl⟩ : ∃ j, n = j + 2 := ⟨n - 2, by omega⟩
    by_cases h0 : B = 0
    · subst h0; exact stop A (n + 1) hA hg
    · have hr := Nat.mod_lt A (show 0 < B by omega)
      rw [show n + 2 = (n + 1) + 1 by omega, step A B (n + 1) hA hB (by omega)]
      rw [Nat.gcd_rec B A] at hg ⊢
      by_cases h1 : A % B = 0
      · rw [h1] at hg ⊢; exact stop B n hB hg
      · have hh := half_step (show 0 < A % B by omega) hr
        rw [step B (A % B) n hB (by omega) (by omega)]
        rw [Nat.gcd_rec (A % B) B] at hg ⊢
        have p2 : 2 ^ (k + 1) = 2 * 2 ^ k := by rw [Nat.pow_succ]; omega
        exact ih (A % B) (B % (A % B)) n (by omega) (by omega) (by omega) (by omega) hg
theorem p100 : ∀ k, k < 5 → 100 ^ k ≤ 100000000 ∧ 0 < 100 ^ k := by decide
theorem odds_loop {n S : Nat} (hS : S < 4096) (h4 : pcA S 12 ≤ 4) {w : Int32} {σ τ : Sg} (hv : Vw n (σ 1 2) σ τ) : ∀ (d i A m m' : Nat), i + d = n → d < m → d < m' → A ≤ 100 ^ pcA S i → ∃ r, f_X9_odds_48 m (nI S) w (lN A) (lN (100 ^ pcA S i)) (nI i) σ = some (r, σ) ∧ f_X10_odds_51 m' (nI S) w (lN A) (lN (100 ^ pcA S i)) (nI i) τ = some (r, τ) := by
  have n10 := hv.1
  have e1 := hv.2.1
  have e2 := hv.2.2.1
  have mono : ∀ (i d : Nat), pcA S i ≤ pcA S (i + d) := by
    intro i d
    induction d with
    | zero => exact Nat.le_refl _
    | succ d ih => rw [show i + (d + 1) = (i + d) + 1 by omega, pcA]; omega
  have up4 : ∀ i, i ≤ n → pcA S i ≤ 4 := fun i hi => by
    have := mono i (12 - i)
    rw [show i + (12 - i) = 12 by omega] at this
    omega
  intro d
  induction d with
  | zero =>
    intro i A m m' hi hm hm' hA
    obtain ⟨m, rfl⟩ : ∃ j, m = j + 1 := ⟨m - 1, by omega⟩
    obtain ⟨m', rfl⟩ : ∃ j, m' = j + 1 := ⟨m' - 1, by omega⟩
    obtain rfl : i = n := by omega
    obtain ⟨b1, b2⟩ := p100 (pcA S i) (by have := up4 i (by omega); omega)
    rw [f_X9_odds_48, f_X10_odds_51]
    unfold f_X9_odds_48_b f_X10_odds_51_b
    rw [e1, if_pos (nI_le (Nat.le_refl _) (by omega)), ck_2, rd_2, e2, if_pos (nI_le (Nat.le_refl _) (by omega))]
    generalize 100 ^ pcA S i = B at *
    have g0 : 0 < Nat.gcd B A := Nat.gcd_pos_of_pos_left _ b2
    have gle : Nat.gcd B A ≤ B := Nat.gcd_le_left _ b2
    have xg := x_gcd σ 62 A B 0 fuN (by omega) (by omega) (by omega) (by omega) (by have := fu_le; omega)
    have mg := m_gcd τ w (lN A) (lN B) 62 B A fuN (by omega) (by omega) (by omega) (by have := fu_le; omega) (by rw [Nat.gcd_comm]; exact g0)
    rw [nI_0] at xg
    unfold f_X9_sharedDivisor
    rw [xg, bnd_s, if_neg (fun e => by have := (cmp0 (by omega)).mp e; omega), ckb_t (nzl_p (by omega) g0), ckb_t (nzl_p (by omega) g0), mg, Nat.gcd_comm A B]
    by_cases hw : w = 0
    · rw [if_pos hw, if_pos hw]; exact ⟨_, rfl, rfl⟩
    · rw [if_neg hw, if_neg hw]; exact ⟨_, rfl, rfl⟩
  | succ d ih =>
    intro i A m m' hi hm hm' hA
    obtain ⟨m, rfl⟩ : ∃ j, m = j + 1 := ⟨m - 1, by omega⟩
    obtain ⟨m', rfl⟩ : ∃ j, m' = j + 1 := ⟨m' - 1, by omega⟩
    have ei : (nI i).toInt = (i : Int) := i_nI (by omega)
    have nle := nI_ge (show i < n by omega) (show n < 2 ^ 31 by omega)
    have up1 := up4 (i + 1) (by omega)
    rw [f_X9_odds_48, f_X10_odds_51]
    unfold f_X9_odds_48_b f_X10_odds_51_b
    rw [e1, if_neg nle, ck_2, rd_2, e2, if_neg nle, x_isOf (by omega), bnd_s, shr_1 (by omega), if01, if11, bt_nI (by omega)]
    by_cases hb : S.testBit i = true
    · obtain ⟨v, v1, v2, v3, v4⟩ := back_eq hv (show i < n by omega)
      obtain ⟨c, hc, rfl⟩ := nI_ofi (a := v) (n := 101) v3 (by omega)
      have ec : (nI c).toInt = (c : Int) := i_nI (by omega)
      have t100 : (100 : Int32).toInt = 100 := rfl
      have e100 : (100 : Int32) - nI c = nI (100 - c) := by
        rw [i_eq, i_sub (by rw [ec, t100]; omega) (by rw [ec, t100]; omega), ec, t100, i_nI (by omega)]; omega
      have pc : pcA S (i + 1) = pcA S i + 1 := by rw [pcA, if_pos hb]
      have pw : 100 ^ pcA S i * 100 = 100 ^ pcA S (i + 1) := by rw [pc, Nat.pow_succ]
      rw [if_pos hb, if_pos hb, ck_k ei (by omega), tn_k ei, lt_a, v1, v2, bnd_s, bnd_s]
      rw [e100, nI_l (by omega), lN_mul, show (100 : Int64) = lN 100 from rfl, lN_mul, pw]
      simp only [lt_a, nI_1]
      refine ih (i + 1) (A * (100 - c)) m m' (by omega) (by omega) (by omega) ?_
      rw [← pw]
      exact Nat.mul_le_mul hA (by omega)
    · have pc : pcA S (i + 1) = pcA S i := by rw [pcA, if_neg hb]; rfl
      rw [if_neg hb, if_neg hb]
      simp only [lt_a, nI_1]
      have := ih (i + 1) A m m' (by omega) (by omega) (by omega) (by rw [pc]; exact hA)
      rw [pc] at this
      exact this
theorem shr_n {n : Nat} (hn : n < 32) {v : Int32} : (shr v (nI n)).toInt = v.toInt / ((2 ^ n : Nat) : Int) := by
  unfold shr
  show (v >>> (nI n &&& 31)).toBitVec.toInt = v.toBitVec.toInt / _
  rw [Int32.toBitVec_shiftRight, BitVec.toInt_sshiftRight', sh_amt n hn, Int.shiftRight_eq_div_pow]
theorem top_n : ∀ n, n < 11 → shl (1 : Int32) (nI n) - 1 = nI (2 ^ n - 1) := by decide +kernel
theorem le_1024 : ∀ n, n < 11 → 2 ^ n ≤ 1024 := by decide
theorem eq_odds {σ τ : Sg} (h : Sim σ τ) (a w : Int32) : ∃ (r : Int64) (σ' τ' : Sg), f_X9_odds a w σ = some (r, σ') ∧ f_X10_odds a w τ = some (r, τ') ∧ Sim σ' τ' := by
  obtain ⟨n, hv⟩ := h.vw
  have n10 := hv.1
  have e1 := hv.2.1
  have e2 := hv.2.2.1
  have err : ∃ (r : Int64) (σ' τ' : Sg), some ((-1000000001 : Int32).toInt64, up σ 8 1 (σ 8 1 + 1)) = some (r, σ') ∧ some ((-1000000001 : Int32).toInt64, up τ 4 1 (τ 4 1 + 1)) = some (r, τ') ∧ Sim σ' τ' := ⟨_, _, _, rfl, rfl, h.err 1 (by decide)⟩
  have pn := le_1024 n (by omega)
  have pn0 : 0 < 2 ^ n := Nat.two_pow_pos n
  unfold f_X9_odds f_X10_odds
  simp only [x_isIn, m_in, x_err1, m_err1, bnd_s, if01]
  rw [e1, ck_2, rd_2, e2, top_n n (by omega)]
  by_cases c1 : 0 ≤ a ∧ a ≤ nI (2 ^ n - 1)
  · rw [if_pos c1]
    rw [i_le, i_le, ti_0, i_nI (by omega)] at c1
    obtain ⟨S, hS, rfl⟩ := nI_ofi (a := a) (n := 2 ^ n) c1.1 (by omega)
    have eS : (nI S).toInt = (S : Int) := i_nI (by omega)
    have s0 : shr (nI S) (nI n) = 0 := by
      rw [i_eq, shr_n (by omega), eS, ti_0]
      exact Int.ediv_eq_zero_of_lt (by omega) (by omega)
    rw [if_neg (show ¬ nI S < 0 by rw [i_lt, eS, ti_0]; omega), if_pos s0, x_bits (by omega), m_bits (by omega), bnd_s, bnd_s]
    have ple := pcA_le S 12
    have ep : (nI (pcA S 12)).toInt = (pcA S 12 : Int) := i_nI (by omega)
    by_cases c2 : pcA S 12 ≤ 4
    · have lt4 : ¬ (4 : Int32) < nI (pcA S 12) := by rw [i_lt, ep, ti_4]; omega
      rw [if_neg lt4, if_neg lt4]
      by_cases c3 : 0 ≤ w ∧ w ≤ 1
      · rw [if_pos c3, if_pos c3]
        obtain ⟨r, r1, r2⟩ := odds_loop (by omega) c2 (w := w) hv n 0 1 fuN fuN (by omega) (by have := fu_le; omega) (by have := fu_le; omega) (by rw [pcA]; decide)
        rw [nI_0, pcA] at r1 r2
        exact ⟨r, σ, τ, r1, r2, h⟩
      · rw [if_neg c3, if_neg c3]; exact err
    · have lt4 : (4 : Int32) < nI (pcA S 12) := by rw [i_lt, ep, ti_4]; omega
      rw [if_pos lt4, if_pos lt4]; exact err
  · rw [if_neg c1]
    by_cases c0 : a < 0
    · rw [if_pos c0]; exact err
    · rw [if_neg c0, if_neg (fun e => c1 ⟨?_, ?_⟩)]
      · exact err
      · rw [i_lt, ti_0] at c0; rw [i_le, ti_0]; omega
      · rw [i_lt, ti_0] at c0
        rw [i_eq, shr_n (by omega), ti_0] at e
        rw [i_le, i_nI (by omega)]
        have q := Int.lt_ediv_add_one_mul_self a.toInt (b := ((2 ^ n : Nat) : Int)) (by omega)
        rw [e, Int.zero_add, Int.one_mul] at q
        omega
end
section
def lbI (σ : Sg) (D : Int32) (P : Nat → Bool) : Nat → Int
  | 0 => 0
  | i + 1 => if P i = true then (if lbI σ D P i < gbI (σ (20 + i)) D (σ 1 3) then gbI (σ (20 + i)) D (σ 1 3) else lbI σ D P i) else lbI σ D P i
theorem lbI_le {σ : Sg} {D : Int32} {P : Nat → Bool} {k : Int} (hk : 0 ≤ k) : ∀ n, lbI σ D P n ≤ k ↔ ∀ l, l < n → P l = true → gbI (σ (20 + l)) D (σ 1 3) ≤ k := by
  intro n
  induction n with
  | zero => exact ⟨fun _ l hl => absurd hl (by omega), fun _ => hk⟩
  | succ n ih =>
    unfold lbI
    constructor
    · intro h l hl hp
      by_cases hn : l = n
      · subst hn
        rw [if_pos hp] at h
        split at h <;> omega
      · refine ih.mp ?_ l (by omega) hp
        by_cases q : P n = true
        · rw [if_pos q] at h
          split at h <;> omega
        · rw [if_neg q] at h; exact h
    · intro h
      have h1 := ih.mpr (fun l hl => h l (by omega))
      by_cases q : P n = true
      · rw [if_pos q]
        have h2 := h n (by omega) q
        split <;> omega
      · rw [if_neg q]; exact h1
theorem lbI_b {σ : Sg} {D : Int32} {P : Nat → Bool} : ∀ n, (∀ l, l < n → 0 ≤ gbI (σ (20 + l)) D (σ 1 3) ∧ gbI (σ (20 + l)) D (σ 1 3) ≤ 1000000) → 0 ≤ lbI σ D P n ∧ lbI σ D P n ≤ 1000000 := by
  intro n
  induction n with
  | zero => intro _; unfold lbI; omega
  | succ n ih =>
    intro h
    have h1 := ih (fun l hl => h l (by omega))
    have h2 := h n (by omega)
    unfold lbI
    repeat' split
    all_goals omega
theorem Vw.gb {n : Nat} {D : Int32} {σ τ : Sg} (h : Vw n D σ τ) {l : Nat} (hl : l < n) : 0 ≤ gbI (σ (20 + l)) D (σ 1 3) ∧ gbI (σ (20 + l)) D (σ 1 3) ≤ 1000000 := by
  obtain ⟨_, ⟨k1, k1'⟩, _, _, ⟨k4, k4'⟩, _⟩ := (h.2.2.2.2.2.2.1 l hl).1
  exact gb_b k1 k1' k4 k4'
theorem x_lb5 {n : Nat} {D : Int32} {σ τ : Sg} (h : Vw n D σ τ) {s : Int32} {P : Nat → Bool} (hs : ∀ l, l < n → bt s l = P l) : ∀ (d i m : Nat) (acc : Int32), i + d = n → d < m → acc.toInt = lbI σ D P i → ∃ r, f_X5_lastBehind_5 m s D acc (nI i) σ = some (r, σ) ∧ r.toInt = lbI σ D P n := by
  have h10 := h.1
  have e1 := h.2.1
  intro d
  induction d with
  | zero =>
    intro i m acc hi hm ha
    obtain ⟨m, rfl⟩ : ∃ j, m = j + 1 := ⟨m - 1, by omega⟩
    obtain rfl : i = n := by omega
    refine ⟨acc, ?_, ha⟩
    rw [f_X5_lastBehind_5]
    unfold f_X5_lastBehind_5_b
    rw [e1, if_pos (nI_le (Nat.le_refl _) (by omega))]
  | succ d ih =>
    intro i m acc hi hm ha
    obtain ⟨m, rfl⟩ : ∃ j, m = j + 1 := ⟨m - 1, by omega⟩
    have ei : (nI i).toInt = (i : Int) := i_nI (by omega)
    have nle := nI_ge (show i < n by omega) (show n < 2 ^ 31 by omega)
    rw [f_X5_lastBehind_5]
    unfold f_X5_lastBehind_5_b
    rw [e1, if_neg nle, x_isOf (by omega), bnd_s, if01, hs i (by omega)]
    by_cases hp : P i = true
    · obtain ⟨_, ⟨k1, k1'⟩, _, _, ⟨k4, k4'⟩, _⟩ := (h.2.2.2.2.2.2.1 i (by omega)).1
      obtain ⟨r, r1, r2⟩ := x_gb (20 + i) D (σ 1 3) σ k1 k1' k4 k4' h.2.2.2.2.1.2
      rw [if_pos hp, ck_k ei (by omega), tn_k ei, lt_a, r1, bnd_s, lt_a, lt_a, nI_1]
      refine ih (i + 1) m _ (by omega) (by omega) ?_
      rw [i_mx, lbI, if_pos hp, ha, r2]
    · rw [if_neg hp, lt_a, nI_1]
      refine ih (i + 1) m acc (by omega) (by omega) ?_
      rw [lbI, if_neg hp, ha]
theorem x_lastBehind {n : Nat} {D : Int32} {σ τ : Sg} (h : Vw n D σ τ) {s : Int32} {P : Nat → Bool} (hs : ∀ l, l < n → bt s l = P l) : ∃ r, f_X5_lastBehind s D σ = some (r, σ) ∧ r.toInt = lbI σ D P n := by
  have h10 := h.1
  have := x_lb5 h hs n 0 fuN 0 (by omega) (by have := fu_le; omega) rfl
  rwa [nI_0] at this
/-! what is lost on columns -/
theorem loss_all {n : Nat} {D : Int32} {s : Int32} : ∀ (d i m m' : Nat) (acc : Int32) (σ τ : Sg), Vw n D σ τ → i + d = n → d < m → d < m' → (∀ l, l < n → bt s l = true → gbI (σ (20 + l)) D (σ 1 3) = 0) → 0 ≤ acc.toInt → acc.toInt ≤ 999 * (i : Int) → ∃ v σ' τ', f_X5_lossOfAll_5 m s D acc (nI i) σ = some (v, σ') ∧ f_X10_lossOn_11 m' s acc (nI i) τ = some (v, τ') ∧ eqX σ σ' ∧ eqM τ τ' ∧ 0 ≤ v.toInt ∧ σ' 4 = σ 4 := by
  intro d
  induction d with
  | zero =>
    intro i m m' acc σ τ h hi hm hm' hg a0 a1
    obtain ⟨m, rfl⟩ : ∃ j, m = j + 1 := ⟨m - 1, by omega⟩
    obtain ⟨m', rfl⟩ : ∃ j, m' = j + 1 := ⟨m' - 1, by omega⟩
    obtain rfl : i = n := by omega
    have h10 := h.1
    refine ⟨acc, σ, τ, ?_, ?_, eqX.rf, eqM.rf, a0, rfl⟩
    · rw [f_X5_lossOfAll_5]
      unfold f_X5_lossOfAll_5_b
      rw [h.2.1, if_pos (nI_le (Nat.le_refl _) (by omega))]
    · rw [f_X10_lossOn_11]
      unfold f_X10_lossOn_11_b
      rw [ck_2, rd_2, h.2.2.1, if_pos (nI_le (Nat.le_refl _) (by omega))]
  | succ d ih =>
    intro i m m' acc σ τ h hi hm hm' hg a0 a1
    obtain ⟨m, rfl⟩ : ∃ j, m = j + 1 := ⟨m - 1, by omega⟩
    obtain ⟨m', rfl⟩ : ∃ j, m' = j + 1 := ⟨m' - 1, by omega⟩
    have h10 := h.1
    have nle := nI_ge (show i < n by omega) (show n < 2 ^ 31 by omega)
    rw [f_X5_lossOfAll_5, f_X10_lossOn_11]
    unfold f_X5_lossOfAll_5_b f_X10_lossOn_11_b
    rw [h.2.1, if_neg nle, ck_2, rd_2, h.2.2.1, if_neg nle, x_isOf (by omega), bnd_s, shr_1 (by omega), if01, if11]
    by_cases hb : bt s i = true
    · have g := hg i (by omega) hb
      obtain ⟨v, σ1, τ1, v1, v2, v3, v4, v5, v6, v7⟩ := loss_eq h (show i < n by omega)
      have es : (acc + v).toInt = acc.toInt + v.toInt := i_add (by omega) (by omega)
      rw [if_pos hb, if_pos hb, (mayGo_eq h (show i < n by omega)).2, bnd_s, if01, if_pos g, v1, v2, bnd_s, bnd_s, lt_a, lt_a, lt_a, lt_a, nI_1]
      obtain ⟨v', σ', τ', w1, w2, w3, w4, w5⟩ := ih (i + 1) m m' (acc + v) σ1 τ1 (h.eq v3 v4) (by omega) (by omega) (by omega) (fun l hl hbl => by rw [v3 _ (rlv_l (l := l) (by omega)).1, v3 1 rfl]; exact hg l hl hbl) (by omega) (by omega)
      exact ⟨v', σ', τ', w1, w2, v3.tr w3, v4.tr w4, w5.1, w5.2.trans v7⟩
    · rw [if_neg hb, if_neg hb, lt_a, lt_a, nI_1]
      exact ih (i + 1) m m' acc σ τ h (by omega) (by omega) (by omega) hg a0 (by omega)
theorem loss_not {n : Nat} {D : Int32} {s : Int32} : ∀ (d i m' : Nat) (acc : Int32) (σ τ : Sg), Vw n D σ τ → i + d = n → d < m' → (∃ l, i ≤ l ∧ l < n ∧ bt s l = true ∧ ¬ gbI (σ (20 + l)) D (σ 1 3) = 0) → ∃ τ', f_X10_lossOn_11 m' s acc (nI i) τ = some (-1, τ') ∧ eqM τ τ' := by
  intro d
  induction d with
  | zero =>
    intro i m' acc σ τ h hi hm' hg
    obtain ⟨l, l1, l2, _⟩ := hg
    omega
  | succ d ih =>
    intro i m' acc σ τ h hi hm' hg
    obtain ⟨m', rfl⟩ : ∃ j, m' = j + 1 := ⟨m' - 1, by omega⟩
    have h10 := h.1
    have nle := nI_ge (show i < n by omega) (show n < 2 ^ 31 by omega)
    rw [f_X10_lossOn_11]
    unfold f_X10_lossOn_11_b
    rw [ck_2, rd_2, h.2.2.1, if_neg nle, shr_1 (by omega), if11]
    obtain ⟨l, l1, l2, l3, l4⟩ := hg
    by_cases hb : bt s i = true
    · rw [if_pos hb, (mayGo_eq h (show i < n by omega)).2, bnd_s, if01]
      by_cases g : gbI (σ (20 + i)) D (σ 1 3) = 0
      · obtain ⟨v, σ1, τ1, v1, v2, v3, v4, v5, v6⟩ := loss_eq h (show i < n by omega)
        rw [if_pos g, v2, bnd_s, lt_a, lt_a, nI_1]
        have : l ≠ i := fun e => by subst e; exact l4 g
        obtain ⟨τ', w1, w2⟩ := ih (i + 1) m' (acc + v) σ τ1 (h.eq eqX.rf v4) (by omega) (by omega) ⟨l, by omega, l2, l3, l4⟩
        exact ⟨τ', w1, v4.tr w2⟩
      · rw [if_neg g]
        exact ⟨τ, rfl, eqM.rf⟩
    · rw [if_neg hb, lt_a, nI_1]
      have : l ≠ i := fun e => by subst e; exact hb l3
      exact ih (i + 1) m' acc σ τ h (by omega) (by omega) ⟨l, by omega, l2, l3, l4⟩
def LB (n : Nat) (σ : Sg) (D w : Int32) : Int := lbI σ D (loP σ w) n
theorem col_last {n : Nat} {D : Int32} {σ τ : Sg} (h : Vw n D σ τ) (w : Int32) : ∃ r, f_X5_lastBehind (loS σ w n) D σ = some (r, σ) ∧ r.toInt = LB n σ D w := x_lastBehind h (fun _ hl => loS_bt h.1 σ w hl)
theorem col_all {n : Nat} {D : Int32} {σ τ : Sg} (h : Vw n D σ τ) (w : Int32) (hw : LB n σ D w = 0) : ∃ v σ' τ', f_X5_lossOfAll (loS σ w n) D σ = some (v, σ') ∧ f_X10_lossOn w τ = some (v, τ') ∧ eqX σ σ' ∧ eqM τ τ' ∧ 0 ≤ v.toInt ∧ σ' 4 = σ 4 := by
  have h10 := h.1
  have g := (lbI_le (σ := σ) (D := D) (P := loP σ w) (Int.le_refl 0) n).mp (Int.le_of_eq hw)
  obtain ⟨v, σ', τ', w1, w2, w3⟩ := loss_all (s := loS σ w n) n 0 fuN fuN 0 σ τ h (by omega) (by have := fu_le; omega) (by have := fu_le; omega) (fun l hl hb => by rw [loS_bt h10 σ w hl] at hb; have q1 := g l hl hb; have q2 := (h.gb hl).1; omega) (by decide) (by decide)
  rw [nI_0] at w1 w2
  refine ⟨v, σ', τ', w1, ?_, w3⟩
  unfold f_X10_lossOn
  rw [(linesOn_eq h w).2, bnd_s]
  exact w2
theorem col_not {n : Nat} {D : Int32} {σ τ : Sg} (h : Vw n D σ τ) (w : Int32) (hw : ¬ LB n σ D w = 0) : ∃ τ', f_X10_lossOn w τ = some (-1, τ') ∧ eqM τ τ' := by
  have h10 := h.1
  have b := lbI_b (P := loP σ w) n (fun l hl => h.gb hl)
  have g : ∃ l, 0 ≤ l ∧ l < n ∧ bt (loS σ w n) l = true ∧ ¬ gbI (σ (20 + l)) D (σ 1 3) = 0 := by
    refine Classical.byContradiction fun q => hw ?_
    have : LB n σ D w ≤ 0 := by
      refine (lbI_le (Int.le_refl 0) n).mpr (fun l hl hp => ?_)
      refine Classical.byContradiction fun z => q ⟨l, by omega, hl, by rw [loS_bt h10 σ w hl]; exact hp, fun e => z (by omega)⟩
    have b1 := b.1
    unfold LB at this ⊢
    omega
  obtain ⟨τ', w1, w2⟩ := loss_not (s := loS σ w n) n 0 fuN 0 σ τ h (by omega) (by have := fu_le; omega) g
  rw [nI_0] at w1
  refine ⟨τ', ?_, w2⟩
  unfold f_X10_lossOn
  rw [(linesOn_eq h w).2, bnd_s]
  exact w1
def detL (w v : Int32) (τ : Sg) : Prop := ∀ τ1, eqM τ τ1 → ∃ τ2, f_X10_lossOn w τ1 = some (v, τ2) ∧ eqM τ1 τ2
theorem detL.tr {w v : Int32} {τ τ' : Sg} (h : detL w v τ) (e : eqM τ τ') : detL w v τ' := fun τ1 h1 => h τ1 (e.tr h1)
theorem col_det {n : Nat} {D : Int32} {σ τ : Sg} (h : Vw n D σ τ) (w : Int32) {v : Int32} {σ' : Sg} (hx : f_X5_lossOfAll (loS σ w n) D σ = some (v, σ')) (hw : LB n σ D w = 0) : detL w v τ := by
  intro τ1 e
  obtain ⟨v', σ1, τ2, w1, w2, w3, w4, _⟩ := col_all (h.eq eqX.rf e) w hw
  rw [hx] at w1
  cases w1
  exact ⟨τ2, w2, w4⟩
theorem loP_eq {σ σ' : Sg} (e : eqX σ σ') (w : Int32) {l : Nat} (hl : l < 10) : loP σ' w l = loP σ w l := by
  unfold loP
  rw [e _ (rlv_l hl).1]
theorem loS_eq {σ σ' : Sg} (e : eqX σ σ') (w : Int32) {n : Nat} (n10 : n ≤ 10) : loS σ' w n = loS σ w n := orN_congr (fun i hi => loP_eq e w (by omega)) (fun _ _ => rfl)
theorem LB_eq {σ σ' : Sg} (e : eqX σ σ') (D w : Int32) {n : Nat} (n10 : n ≤ 10) : LB n σ' D w = LB n σ D w := by
  unfold LB
  have : ∀ k, k ≤ n → lbI σ' D (loP σ' w) k = lbI σ D (loP σ w) k := by
    intro k
    induction k with
    | zero => intro _; rfl
    | succ k ih => intro hk; unfold lbI; rw [ih (by omega), loP_eq e w (by omega), e _ (rlv_l (l := k) (by omega)).1, e 1 rfl]
  exact this n (Nat.le_refl _)
def RmI (n N : Nat) (D : Int32) (c : Nat) (any best least : Int32) (σ τ : Sg) : Prop :=
  (any = 0 ∧ best = -1 ∧ ∀ c', c' < c → ¬ LB n σ D (nI (winN c' N)) = 0) ∨ (any = 1 ∧ ∃ b, b < c ∧ best = nI b ∧ σ 4 1 = nI b ∧ σ 4 0 = least ∧ σ 4 2 = loS σ (nI (winN b N)) n ∧ LB n σ D (nI (winN b N)) = 0 ∧ detL (nI (winN b N)) least τ)
theorem seek_loop {n N : Nat} (hN : 1 ≤ N) (hN2 : N ≤ 12) {D : Int32} : ∀ (d c m m' : Nat) (any best least : Int32) (σ τ : Sg), c + d = 13 - N → d < m → d < m' → Vw n D σ τ → RmI n N D c any best least σ τ → ∃ any' best' least' σ' τ', f_X5_seek_6 m (nI N) D any (nI c) σ = some (any', σ') ∧ f_X10_roomAt_7 m' (nI N) best least (nI c) τ = some (best', τ') ∧ eqX σ σ' ∧ eqM τ τ' ∧ RmI n N D (13 - N) any' best' least' σ' τ' := by
  intro d
  induction d with
  | zero =>
    intro c m m' any best least σ τ hc hm hm' h inv
    obtain ⟨m, rfl⟩ : ∃ j, m = j + 1 := ⟨m - 1, by omega⟩
    obtain ⟨m', rfl⟩ : ∃ j, m' = j + 1 := ⟨m' - 1, by omega⟩
    obtain rfl : c = 13 - N := by omega
    have lt12 : (12 : Int32) < nI (13 - N) + nI N := by
      rw [nI_add, show 13 - N + N = 13 by omega]; decide
    have isb1 : isb any = true := by
      unfold isb
      rcases inv with ⟨r, _⟩ | ⟨r, _⟩
      · rw [r]; rfl
      · rw [r]; rfl
    refine ⟨any, best, least, σ, τ, ?_, ?_, eqX.rf, eqM.rf, inv⟩
    · rw [f_X5_seek_6]
      unfold f_X5_seek_6_b
      rw [if_pos lt12, ckb_t isb1]
    · rw [f_X10_roomAt_7]
      unfold f_X10_roomAt_7_b
      rw [if_pos lt12]
  | succ d ih =>
    intro c m m' any best least σ τ hc hm hm' h inv
    obtain ⟨m, rfl⟩ : ∃ j, m = j + 1 := ⟨m - 1, by omega⟩
    obtain ⟨m', rfl⟩ : ∃ j, m' = j + 1 := ⟨m' - 1, by omega⟩
    have h10 := h.1
    have nlt12 : ¬ (12 : Int32) < nI c + nI N := by
      rw [nI_add, i_lt, i_nI (by omega), ti_12]; omega
    have ec : (nI c).toInt = (c : Int) := i_nI (by omega)
    obtain ⟨r, r1, r2⟩ := col_last h (nI (winN c N))
    rw [f_X5_seek_6, f_X10_roomAt_7]
    unfold f_X5_seek_6_b f_X10_roomAt_7_b f_X9_columnsFrom f_X10_window
    rw [if_neg nlt12, if_neg nlt12, win_eq N (by omega) c (by omega) (by omega), bnd_s, bnd_s, (linesOn_eq h _).1, bnd_s, r1, bnd_s]
    by_cases hz : LB n σ D (nI (winN c N)) = 0
    · obtain ⟨v, σ1, τ1, v1, v2, v3, v4, v5, v7⟩ := col_all h (nI (winN c N)) hz
      have det := col_det h (nI (winN c N)) v1 hz
      have row4 : ∀ k, rlv k = false → True := fun _ _ => trivial
      rw [if_pos (by rw [i_eq, r2, hz, ti_0]), v1, v2, bnd_s, bnd_s, if_neg (show ¬ v < 0 by rw [i_lt, ti_0]; omega)]
      have take : ∃ any' best' least' σ' τ', f_X5_seek_60 (f_X5_seek_6 m) (nI N) D (nI c) (loS σ (nI (winN c N)) n) v σ1 = some (any', σ') ∧ f_X10_roomAt_48 (f_X10_roomAt_7 m') (nI N) best least (nI c) v (1 : Int32) τ1 = some (best', τ') ∧ eqX σ σ' ∧ eqM τ τ' ∧ RmI n N D (13 - N) any' best' least' σ' τ' := by
        unfold f_X5_seek_60 f_X10_roomAt_48
        rw [if_neg (show ¬ (1 : Int32) = 0 by decide), if_neg (show ¬ (1 : Int32) = 0 by decide)]
        simp only [lt_a, nI_1]
        have ex : eqX σ1 (up (up (up σ1 4 0 v) 4 1 (nI c)) 4 2 (loS σ (nI (winN c N)) n)) := ((eqX.up rfl).tr (eqX.up rfl)).tr (eqX.up rfl)
        have ex2 := v3.tr ex
        obtain ⟨any', best', least', σ', τ', w1, w2, w3, w4, w5⟩ := ih (c + 1) m m' 1 (nI c) v _ τ1 (by omega) (by omega) (by omega) (h.eq ex2 v4) (Or.inr ⟨rfl, c, by omega, rfl, by rw [up_i (by decide), up_s], by rw [up_i (by decide), up_i (by decide), up_s], by rw [up_s, loS_eq ex2 _ h10], by rw [LB_eq ex2 _ _ h10]; exact hz, det.tr v4⟩)
        exact ⟨any', best', least', σ', τ', w1, w2, ex2.tr w3, v4.tr w4, w5⟩
      rcases inv with ⟨i1, i2, i3⟩ | ⟨i1, b, i2, i3, i4, i5, i6, i7, i8⟩
      · rw [i1, i2, if_pos rfl, if_pos (show (-1 : Int32) < 0 by decide)]
        rw [i2] at take
        exact take
      · have eb : (nI b).toInt = (b : Int) := i_nI (by omega)
        rw [i1, if_neg (show ¬ (1 : Int32) = 0 by decide), i3, if_neg (show ¬ nI b < 0 by rw [i_lt, eb, ti_0]; omega)]
        rw [i3] at take
        rw [v7, i5]
        by_cases hc2 : least ≤ v
        · rw [if_pos hc2, if_pos hc2, lt_a, nI_1]
          unfold f_X10_roomAt_48
          rw [if_pos rfl, if_pos rfl, lt_a, nI_1]
          obtain ⟨any', best', least', σ', τ', w1, w2, w3, w4, w5⟩ := ih (c + 1) m m' 1 (nI b) least σ1 τ1 (by omega) (by omega) (by omega) (h.eq v3 v4) (Or.inr ⟨rfl, b, by omega, rfl, by rw [v7]; exact i4, by rw [v7]; exact i5, by rw [v7, loS_eq v3 _ h10]; exact i6, by rw [LB_eq v3 _ _ h10]; exact i7, i8.tr v4⟩)
          exact ⟨any', best', least', σ', τ', w1, w2, v3.tr w3, v4.tr w4, w5⟩
        · rw [if_neg hc2, if_neg hc2]
          exact take
    · obtain ⟨τ1, v1, v2⟩ := col_not h (nI (winN c N)) hz
      have b := lbI_b (P := loP σ (nI (winN c N))) n (fun l hl => h.gb hl)
      rw [if_neg (fun e => hz (by rw [← r2, e, ti_0])), v1, bnd_s, if_pos (show (-1 : Int32) < 0 by decide), lt_a, nI_1]
      unfold f_X10_roomAt_48
      rw [if_pos rfl, if_pos rfl, lt_a, nI_1]
      obtain ⟨any', best', least', σ', τ', w1, w2, w3, w4, w5⟩ := ih (c + 1) m m' any best least σ τ1 (by omega) (by omega) (by omega) (h.eq eqX.rf v2) (by
        rcases inv with ⟨i1, i2, i3⟩ | ⟨i1, b, i2, i3, i4, i5, i6, i7, i8⟩
        · refine Or.inl ⟨i1, i2, fun c' hc' => ?_⟩
          by_cases e : c' = c
          · subst e; exact hz
          · exact i3 c' (by omega)
        · exact Or.inr ⟨i1, b, by omega, i3, i4, i5, i6, i7, i8.tr v2⟩)
      exact ⟨any', best', least', σ', τ', w1, w2, w3, v2.tr w4, w5⟩
end
section
theorem seek_eq {n N : Nat} (hN : 1 ≤ N) (hN2 : N ≤ 12) {D : Int32} {σ τ : Sg} (h : Vw n D σ τ) : ∃ any best least σ' τ', f_X5_seek (nI N) D σ = some (any, σ') ∧ f_X10_roomAt (nI N) τ = some (best, τ') ∧ eqX σ σ' ∧ eqM τ τ' ∧ RmI n N D (13 - N) any best least σ' τ' := by
  obtain ⟨any, best, least, σ', τ', w1, w2, w⟩ := seek_loop hN hN2 (13 - N) 0 fuN fuN 0 (-1) 0 σ τ (by omega) (by have := fu_le; omega) (by have := fu_le; omega) h (Or.inl ⟨rfl, rfl, fun c hc => absurd hc (by omega)⟩)
  rw [nI_0] at w1 w2
  exact ⟨any, best, least, σ', τ', w1, w2, w⟩
theorem rem7 {D : Int32} (h : 0 ≤ D.toInt) : True := trivial
theorem eq_room {σ τ : Sg} (h : Sim σ τ) (a b : Int32) : Ok (f_X9_room a b σ) (f_X10_room a b τ) := by
  unfold f_X9_room f_X10_room
  simp only [x_isIn, m_in, x_err1, m_err1, bnd_s, if01]
  by_cases c1 : 1 ≤ a ∧ a ≤ 12
  · rw [if_pos c1, if_pos c1]
    by_cases c2 : 0 ≤ b ∧ b ≤ 3
    · rw [if_pos c2, if_pos c2]
      simp only [i_le, ti_0, ti_1, ti_3, ti_12] at c1 c2
      obtain ⟨N, hN, rfl⟩ := nI_ofi (a := a) (n := 13) (by omega) (by omega)
      have eN : (nI N).toInt = (N : Int) := i_nI (by omega)
      obtain ⟨n, hv⟩ := h.vw
      have h10 := hv.1
      obtain ⟨any, best, least, σ', τ', w1, w2, w3, w4, w5⟩ := seek_eq (N := N) (by omega) (by omega) hv
      have h' := Sim_eq h w3 w4
      have hv' : Vw n (σ 1 2) σ' τ' := hv.eq w3 w4
      rw [w1, w2, bnd_s, bnd_s]
      rcases w5 with ⟨i1, i2, i3⟩ | ⟨i1, c, i2, i3, i4, i5, i6, i7, i8⟩
      · rw [i1, i2, if_pos rfl, if_neg (show ¬ (0 : Int32) ≤ -1 by decide), x_err2, m_err2, bnd_s, bnd_s]
        exact Ok.err h' 2 (by decide)
      · have ec : (nI c).toInt = (c : Int) := i_nI (by omega)
        rw [i1, i3, if_neg (show ¬ (1 : Int32) = 0 by decide), if_pos (show (0 : Int32) ≤ nI c by rw [i_le, ec, ti_0]; omega)]
        unfold f_X10_window
        rw [win_eq N (by omega) c (by omega) (by omega), bnd_s, (linesOn_eq hv' _).2, bnd_s, i4, i5, i6]
        by_cases b0 : b = 0
        · rw [if_pos b0, if_pos b0]
          obtain ⟨τ2, x1, x2⟩ := i8 τ' eqM.rf
          rw [x1, bnd_s]
          exact Ok.mk (Sim_eq h' eqX.rf x2)
        · rw [if_neg b0, if_neg b0]
          by_cases b1 : b = 1
          · rw [if_pos b1, if_pos b1]; exact Ok.mk h'
          · rw [if_neg b1, if_neg b1]
            by_cases b2 : b = 2
            · rw [if_pos b2, if_pos b2]; exact Ok.mk h'
            · rw [if_neg b2, if_neg b2, ck_0, rd_0]
              obtain ⟨S, s1, s2⟩ := loS_lt h10 σ' (nI (winN c N))
              rw [s2, x_bits s1, m_bits s1, bnd_s, bnd_s, hv'.2.2.2.1, w3 1 rfl]
              obtain ⟨v, σ2, τ2, y1, y2, y3, y4, _⟩ := gives_eq hv' (u := 1) (by omega) (nI N) (irm (σ 1 2) 7) (nI (pcA S 12))
              have e1 : nI 1 = (1 : Int32) := rfl
              rw [e1] at y1 y2
              rw [y1, y2, bnd_s, bnd_s]
              exact Ok.mk (Sim_eq h' y3 y4)
    · rw [if_neg c2, if_neg c2]; exact Ok.err h 1 (by decide)
  · rw [if_neg c1, if_neg c1]; exact Ok.err h 1 (by decide)
/-! when -/
theorem fb_loop {n N : Nat} (hN : 1 ≤ N) (hN2 : N ≤ 12) {σ τ : Sg} (h : Vw n (σ 1 2) σ τ) : ∀ (d c m : Nat) (acc : Int32), c + d = 13 - N → d < m → (0 ≤ acc.toInt ∧ (acc.toInt = 1000000 ∨ ∃ c', c' < c ∧ acc.toInt = LB n σ (σ 1 2) (nI (winN c' N))) ∧ ∀ c', c' < c → acc.toInt ≤ LB n σ (σ 1 2) (nI (winN c' N))) → ∃ r, f_X5_firstBehind_6 m (nI N) acc (nI c) σ = some (r, σ) ∧ 0 ≤ r.toInt ∧ (r.toInt = 1000000 ∨ ∃ c', c' < 13 - N ∧ r.toInt = LB n σ (σ 1 2) (nI (winN c' N))) ∧ ∀ c', c' < 13 - N → r.toInt ≤ LB n σ (σ 1 2) (nI (winN c' N)) := by
  intro d
  induction d with
  | zero =>
    intro c m acc hc hm inv
    obtain ⟨m, rfl⟩ : ∃ j, m = j + 1 := ⟨m - 1, by omega⟩
    obtain rfl : c = 13 - N := by omega
    have lt12 : (12 : Int32) < nI (13 - N) + nI N := by
      rw [nI_add, show 13 - N + N = 13 by clear inv; omega]; decide
    refine ⟨acc, ?_, inv⟩
    rw [f_X5_firstBehind_6]
    unfold f_X5_firstBehind_6_b
    rw [if_pos lt12]
  | succ d ih =>
    intro c m acc hc hm inv
    obtain ⟨m, rfl⟩ : ∃ j, m = j + 1 := ⟨m - 1, by omega⟩
    have nlt12 : ¬ (12 : Int32) < nI c + nI N := by
      rw [nI_add, i_lt, i_nI (by omega), ti_12]; omega
    obtain ⟨r, r1, r2⟩ := col_last h (nI (winN c N))
    have b := lbI_b (P := loP σ (nI (winN c N))) n (fun l hl => h.gb hl)
    rw [f_X5_firstBehind_6]
    unfold f_X5_firstBehind_6_b f_X9_columnsFrom
    rw [if_neg nlt12, win_eq N (by omega) c (by omega) (by omega), bnd_s, (linesOn_eq h _).1, bnd_s, r1, bnd_s, lt_a, lt_a, nI_1]
    refine ih (c + 1) m _ (by omega) (by omega) ?_
    obtain ⟨i1, i2, i3⟩ := inv
    have b1 : 0 ≤ LB n σ (σ 1 2) (nI (winN c N)) := b.1
    rw [i_mn, r2]
    by_cases q : LB n σ (σ 1 2) (nI (winN c N)) < acc.toInt
    · rw [if_pos q]
      refine ⟨b1, Or.inr ⟨c, by omega, rfl⟩, fun c' hc' => ?_⟩
      by_cases e : c' = c
      · subst e; exact Int.le_refl _
      · have := i3 c' (by omega); omega
    · rw [if_neg q]
      refine ⟨i1, ?_, fun c' hc' => ?_⟩
      · rcases i2 with z | ⟨c', z1, z2⟩
        · exact Or.inl z
        · exact Or.inr ⟨c', by omega, z2⟩
      · by_cases e : c' = c
        · subst e; omega
        · exact i3 c' (by omega)
theorem Vw.on {n : Nat} {D D' : Int32} {σ τ : Sg} (h : Vw n D σ τ) (h1 : D.toInt ≤ D'.toInt) (h2 : D'.toInt ≤ 20000) : Vw n D' σ (up τ 1 0 D') := by
  obtain ⟨n10, e1, e2, d0, dd, sp, a3, a4, a7⟩ := h
  refine ⟨n10, e1, by rw [up_i (by decide)]; exact e2, up_s, ⟨by omega, h2⟩, by rw [up_i (by decide)]; exact sp, fun l hl => ⟨LnOK_day (a3 l hl).1 h1, fun f hf => by rw [up_i (by omega)]; exact (a3 l hl).2 f hf⟩, a4, fun u hu => ?_⟩
  have : (fun j => up τ 1 0 D' 1 (166 + 121 * u + j)) = fun j => τ 1 (166 + 121 * u + j) := funext fun j => up_i (by omega)
  rw [this]
  exact a7 u hu
theorem LB_on {n : Nat} {D D' : Int32} {σ τ : Sg} (h : Vw n D σ τ) {k : Int} (hD : D'.toInt = D.toInt + k) (k0 : 0 ≤ k) (k1 : k ≤ 100) (w : Int32) (h2 : D'.toInt ≤ 20000) : LB n σ D' w = 0 ↔ LB n σ D w ≤ k := by
  have hon := h.on (D' := D') (by omega) h2
  have b := lbI_b (P := loP σ w) n (fun l hl => hon.gb hl)
  have e : LB n σ D' w = 0 ↔ LB n σ D' w ≤ 0 := by
    have := b.1
    unfold LB
    omega
  rw [e]
  unfold LB
  rw [lbI_le (Int.le_refl 0), lbI_le k0]
  have key : ∀ l, l < n → (gbI (σ (20 + l)) D' (σ 1 3) ≤ 0 ↔ gbI (σ (20 + l)) D (σ 1 3) ≤ k) := by
    intro l hl
    obtain ⟨_, ⟨k1', k1''⟩, _, _, ⟨k4, k4'⟩, _⟩ := (h.2.2.2.2.2.2.1 l hl).1
    have g := gb_on (sp := σ 1 3) k1' k1'' k4 k4' hD k0 k1 h.2.2.2.2.1.2
    have g2 := (hon.gb hl).1
    rw [← g]
    omega
  constructor
  · intro q l hl hp; exact (key l hl).mp (q l hl hp)
  · intro q l hl hp; exact (key l hl).mpr (q l hl hp)
theorem day_back {τ τ' : Sg} {x : Int32} (e : eqM (up τ 1 0 x) τ') : eqM τ (up τ' 1 0 (τ 1 0)) := by
  obtain ⟨m1, m2, m4, m5, m6, m7, m13, m3, m19⟩ := e
  have r : ∀ k, k ≠ 1 → up τ 1 0 x k = τ k := fun k hk => up_row hk
  refine ⟨?_, ?_, ?_, ?_, ?_, ?_, ?_, ?_, ?_⟩
  · rw [up_rs, m1, up_rs]
    funext j
    by_cases hj : j = 0
    · subst hj; rw [upd_e]
    · rw [upd_n hj, upd_n hj]
  · rw [up_row (by decide), m2, r 2 (by decide)]
  · rw [up_row (by decide), m4, r 4 (by decide)]
  · rw [up_row (by decide), m5, r 5 (by decide)]
  · rw [up_row (by decide), m6, r 6 (by decide)]
  · rw [up_row (by decide), m7, r 7 (by decide)]
  · rw [up_row (by decide), m13, r 13 (by decide)]
  · rw [up_k (by decide), m3, up_k (by decide)]
  · rw [up_k (by decide), m19, up_k (by decide)]
theorem day_next {τ τ' : Sg} {x y : Int32} (e : eqM (up τ 1 0 x) τ') : eqM (up τ 1 0 y) (up τ' 1 0 y) := by
  obtain ⟨m1, m2, m4, m5, m6, m7, m13, m3, m19⟩ := e
  have r : ∀ z k, k ≠ 1 → up τ 1 0 z k = τ k := fun z k hk => up_row hk
  refine ⟨?_, ?_, ?_, ?_, ?_, ?_, ?_, ?_, ?_⟩
  · rw [up_rs, m1, up_rs, up_rs]
    funext j
    by_cases hj : j = 0
    · subst hj; rw [upd_e, upd_e]
    · rw [upd_n hj, upd_n hj, upd_n hj]
  · rw [up_row (by decide), m2, r _ 2 (by decide), r _ 2 (by decide)]
  · rw [up_row (by decide), m4, r _ 4 (by decide), r _ 4 (by decide)]
  · rw [up_row (by decide), m5, r _ 5 (by decide), r _ 5 (by decide)]
  · rw [up_row (by decide), m6, r _ 6 (by decide), r _ 6 (by decide)]
  · rw [up_row (by decide), m7, r _ 7 (by decide), r _ 7 (by decide)]
  · rw [up_row (by decide), m13, r _ 13 (by decide), r _ 13 (by decide)]
  · rw [up_k (by decide), m3, up_k (by decide), up_k (by decide)]
  · rw [up_k (by decide), m19, up_k (by decide), up_k (by decide)]
/-- the days tried one by one -/
theorem when_loop {n N : Nat} (hN : 1 ≤ N) (hN2 : N ≤ 12) {σ τ : Sg} {w : Int32} (h : Vw n (σ 1 2) σ τ) (dl : (σ 1 2).toInt ≤ 9999) {r : Int32} (r0 : 0 ≤ r.toInt) (r1 : r.toInt = 1000000 ∨ ∃ c', c' < 13 - N ∧ r.toInt = LB n σ (σ 1 2) (nI (winN c' N))) (r2 : ∀ c', c' < 13 - N → r.toInt ≤ LB n σ (σ 1 2) (nI (winN c' N))) : ∀ (d k m : Nat) (best : Int32) (σk τk : Sg) (any least : Int32), k + d = 90 → d < m → (k : Int) ≤ r.toInt ∨ k = 0 → (∀ c', c' < 13 - N → (k : Int) ≤ LB n σ (σ 1 2) (nI (winN c' N))) → eqM (up τ 1 0 (σ 1 2 + nI k)) τk → f_X5_seek (nI N) (σ 1 2 + nI k) σ = some (any, σk) → eqX σ σk → RmI n N (σ 1 2 + nI k) (13 - N) any best least σk τk → ∃ τe, (if (90 : Int32) < r then f_X10_when_43 m (nI N) w (σ 1 2) (nI k) best τk = some (-1000000002, up τe 4 2 (τe 4 2 + 1)) else ∃ any' σe b, f_X5_seek (nI N) (σ 1 2 + r) σ = some (any', σe) ∧ eqX σ σe ∧ any' = 1 ∧ σe 4 1 = b ∧ f_X10_when_43 m (nI N) w (σ 1 2) (nI k) best τk = some (if w = 0 then r else b, τe)) ∧ eqM τ τe := by
  have d0 : τ 1 0 = σ 1 2 := h.2.2.2.1
  have dd := h.2.2.2.2.1.1
  have h10 := h.1
  have t90 : (90 : Int32).toInt = 90 := rfl
  intro d
  have eDk : ∀ k : Nat, k ≤ 90 → (σ 1 2 + nI k).toInt = (σ 1 2).toInt + (k : Int) := fun k hk => by
    have ek : (nI k).toInt = (k : Int) := i_nI (by omega)
    rw [i_add (by rw [ek]; omega) (by rw [ek]; omega), ek]
  have found : ∀ (k m : Nat) (best : Int32) (σk τk : Sg) (any least : Int32), k ≤ 90 → (∀ c', c' < 13 - N → (k : Int) ≤ LB n σ (σ 1 2) (nI (winN c' N))) → eqM (up τ 1 0 (σ 1 2 + nI k)) τk → f_X5_seek (nI N) (σ 1 2 + nI k) σ = some (any, σk) → eqX σ σk → RmI n N (σ 1 2 + nI k) (13 - N) any best least σk τk → (0 : Int32) ≤ best → ∃ τe, (if (90 : Int32) < r then f_X10_when_43 (m + 1) (nI N) w (σ 1 2) (nI k) best τk = some (-1000000002, up τe 4 2 (τe 4 2 + 1)) else ∃ any' σe b, f_X5_seek (nI N) (σ 1 2 + r) σ = some (any', σe) ∧ eqX σ σe ∧ any' = 1 ∧ σe 4 1 = b ∧ f_X10_when_43 (m + 1) (nI N) w (σ 1 2) (nI k) best τk = some (if w = 0 then r else b, τe)) ∧ eqM τ τe := by
    intro k m best σk τk any least hk90 hall em hx ex inv hb
    have ek : (nI k).toInt = (k : Int) := i_nI (by omega)
    rcases inv with ⟨i1, i2, i3⟩ | ⟨i1, c, i2, i3, i4, i5, i6, i7, i8⟩
    · rw [i2] at hb; exact absurd hb (by decide)
    · rw [LB_eq ex _ _ h10] at i7
      have i7' := (LB_on h (eDk k hk90) (by omega) (by omega) _ (by rw [eDk k hk90]; omega)).mp i7
      have a1 := r2 c i2
      have a2 := hall c i2
      have rk : r.toInt = (k : Int) := by
        rcases r1 with z | ⟨c', z1, z2⟩
        · omega
        · have := hall c' z1; omega
      have rk2 : r = nI k := by rw [i_eq, rk, ek]
      refine ⟨up τk 1 0 (σ 1 2), ?_, ?_⟩
      · rw [if_neg (show ¬ (90 : Int32) < r by rw [i_lt, rk, t90]; omega)]
        refine ⟨any, σk, nI c, by rw [rk2]; exact hx, ex, i1, i4, ?_⟩
        rw [f_X10_when_43]
        unfold f_X10_when_43_b f_X10_when_78
        rw [if_pos hb, ck_0, lt_a, tn_0, if_pos hb, rk2, i3]
        by_cases hw : w = 0
        · rw [if_pos hw, if_pos hw]
        · rw [if_neg hw, if_neg hw]
      · have := day_back em
        rw [d0] at this
        exact this
  induction d with
  | zero =>
    intro k m best σk τk any least hk hm hr hall em hx ex inv
    obtain ⟨m, rfl⟩ : ∃ j, m = j + 1 := ⟨m - 1, by omega⟩
    by_cases hb : (0 : Int32) ≤ best
    · exact found k m best σk τk any least (by omega) hall em hx ex inv hb
    · have ek : (nI k).toInt = (k : Int) := i_nI (by omega)
      rcases inv with ⟨i1, i2, i3⟩ | ⟨i1, c, i2, i3, i4, i5, i6, i7, i8⟩
      · refine ⟨up τk 1 0 (σ 1 2), ?_, ?_⟩
        · have r90 : (90 : Int) < r.toInt := by
            rcases r1 with z | ⟨c', z1, z2⟩
            · omega
            · have q1 := hall c' z1
              have q2 := i3 c' z1
              rw [LB_eq ex _ _ h10, LB_on h (eDk k (by omega)) (by omega) (by omega) _ (by rw [eDk k (by omega)]; omega)] at q2
              omega
          rw [if_pos (show (90 : Int32) < r by rw [i_lt, t90]; exact r90)]
          rw [f_X10_when_43]
          unfold f_X10_when_43_b f_X10_when_78
          rw [if_neg hb, if_pos (show (90 : Int32) ≤ nI k by rw [i_le, ek, t90]; omega), ck_0, lt_a, tn_0, if_neg hb, m_err2, bnd_s]
        · have := day_back em
          rw [d0] at this
          exact this
      · have ec : (nI c).toInt = (c : Int) := i_nI (by omega)
        exact absurd (show (0 : Int32) ≤ best by rw [i3, i_le, ec, ti_0]; omega) hb
  | succ d ih =>
    intro k m best σk τk any least hk hm hr hall em hx ex inv
    obtain ⟨m, rfl⟩ : ∃ j, m = j + 1 := ⟨m - 1, by omega⟩
    by_cases hb : (0 : Int32) ≤ best
    · exact found k m best σk τk any least (by omega) hall em hx ex inv hb
    · have ek : (nI k).toInt = (k : Int) := i_nI (by omega)
      rcases inv with ⟨i1, i2, i3⟩ | ⟨i1, c, i2, i3, i4, i5, i6, i7, i8⟩
      · have hall1 : ∀ c', c' < 13 - N → ((k + 1 : Nat) : Int) ≤ LB n σ (σ 1 2) (nI (winN c' N)) := by
          intro c' z1
          have q2 := i3 c' z1
          rw [LB_eq ex _ _ h10, LB_on h (eDk k (by omega)) (by omega) (by omega) _ (by rw [eDk k (by omega)]; omega)] at q2
          omega
        have dk : τk 1 0 = σ 1 2 + nI k := by rw [em.1, up_s]
        have dk1 : σ 1 2 + nI k + 1 = σ 1 2 + nI (k + 1) := by rw [Int32.add_assoc, nI_1]
        have hon := h.on (D' := σ 1 2 + nI (k + 1)) (by rw [eDk (k + 1) (by omega)]; omega) (by rw [eDk (k + 1) (by omega)]; omega)
        have em1 := day_next (y := σ 1 2 + nI (k + 1)) em
        obtain ⟨any', best', least', σ', τ', w1, w2, w3, w4, w5⟩ := seek_eq (N := N) hN hN2 (hon.eq eqX.rf em1)
        rw [f_X10_when_43]
        unfold f_X10_when_43_b
        rw [if_neg hb, if_neg (show ¬ (90 : Int32) ≤ nI k by rw [i_le, ek, t90]; omega), ck_0, ck_0, lt_a, tn_0, rd_0, dk, dk1, lt_a, nI_1, w2, bnd_s]
        refine ih (k + 1) m best' σ' τ' any' least' (by omega) (by omega) ?_ hall1 (em1.tr w4) w1 w3 w5
        rcases r1 with z | ⟨c', z1, z2⟩
        · left; omega
        · left; have := hall1 c' z1; omega
      · have ec : (nI c).toInt = (c : Int) := i_nI (by omega)
        exact absurd (show (0 : Int32) ≤ best by rw [i3, i_le, ec, ti_0]; omega) hb
theorem eq_when {σ τ : Sg} (h : Sim σ τ) (a b : Int32) : Ok (f_X9_when a b σ) (f_X10_when a b τ) := by
  unfold f_X9_when f_X10_when
  simp only [x_isIn, m_in, x_err1, m_err1, x_err2, bnd_s, if01]
  by_cases c1 : 1 ≤ a ∧ a ≤ 12
  · rw [if_pos c1, if_pos c1]
    by_cases c2 : 0 ≤ b ∧ b ≤ 1
    · rw [if_pos c2, if_pos c2]
      simp only [i_le, ti_1, ti_12] at c1
      obtain ⟨N, hN, rfl⟩ := nI_ofi (a := a) (n := 13) (by omega) (by omega)
      have eN : (nI N).toInt = (N : Int) := i_nI (by omega)
      obtain ⟨n, hv⟩ := h.vw
      have h10 := hv.1
      have d0 : τ 1 0 = σ 1 2 := hv.2.2.2.1
      have dl := h.1.1.2.2.1
      obtain ⟨r, f1, f2, f3, f4⟩ := fb_loop (N := N) (by omega) (by omega) hv (13 - N) 0 fuN 1000000 (by omega) (by have := fu_le; omega) ⟨by decide, Or.inl rfl, fun c hc => absurd hc (by omega)⟩
      rw [nI_0] at f1
      have fb : f_X5_firstBehind (nI N) σ = some (r, σ) := f1
      obtain ⟨any, best, least, σ', τ', w1, w2, w3, w4, w5⟩ := seek_eq (N := N) (by omega) (by omega) hv
      have e0 : σ 1 2 + nI 0 = σ 1 2 := by rw [nI_0, Int32.add_zero]
      have u0 : up τ 1 0 (σ 1 2) = τ := by
        funext k j
        by_cases hk : k = 1
        · subst hk
          by_cases hj : j = 0
          · subst hj; rw [up_s, d0]
          · rw [up_i hj]
        · rw [up_k hk]
      obtain ⟨τe, g1, g2⟩ := when_loop (w := b) (by omega) (by omega) hv dl f2 f3 f4 90 0 fuN best σ' τ' any least (by omega) (by have := fu_le; omega) (Or.inr rfl) (fun c hc => (lbI_b (P := loP σ (nI (winN c N))) n (fun l hl => hv.gb hl)).1) (by rw [e0, u0]; exact w4) (by rw [e0]; exact w1) w3 (by rw [e0]; exact w5)
      have he := Sim_eq h eqX.rf g2
      rw [fb, bnd_s, ck_0, rd_0, d0, lt_a, w2, bnd_s, ← nI_0]
      by_cases q : (90 : Int32) < r
      · rw [if_pos q] at g1
        rw [if_pos q, g1]
        exact Ok.err he 2 (by decide)
      · rw [if_neg q] at g1
        obtain ⟨any', σe, bb, s1, s2, s3, s4, s5⟩ := g1
        rw [if_neg q, s1, bnd_s, s3, if_neg (show ¬ (1 : Int32) = nI 0 by decide), s5, s4, nI_0]
        have he2 := Sim_eq h s2 g2
        by_cases hb : b = 0
        · rw [if_pos hb, if_pos hb]; exact Ok.mk he2
        · rw [if_neg hb, if_neg hb]; exact Ok.mk he2
    · rw [if_neg c2, if_neg c2]; exact Ok.err h 1 (by decide)
  · rw [if_neg c1, if_neg c1]; exact Ok.err h 1 (by decide)
end
section
theorem m_cp2 {o0 o1 : Nat} (ho : o0 ≠ o1) : ∀ (d i n : Nat) (τ : Sg), i + d = 408 → d < n → ∃ τ', f_X10_copyAll_2 n o0 o1 (nI i) τ = some ((), τ') ∧ (∀ k, k ≠ o1 → τ' k = τ k) ∧ (∀ j, τ' o1 j = if i ≤ j ∧ j < 408 then τ o0 j else τ o1 j) := by
  intro d
  induction d with
  | zero =>
    intro i n τ hi hn
    obtain ⟨n, rfl⟩ : ∃ m, n = m + 1 := ⟨n - 1, by omega⟩
    have ei : (nI i).toInt = (i : Int) := i_nI (by omega)
    refine ⟨τ, ?_, fun _ _ => rfl, fun j => by rw [if_neg (by omega)]⟩
    rw [f_X10_copyAll_2]
    unfold f_X10_copyAll_2_b
    rw [if_pos (by rw [i_le, ei]; show (408 : Int) ≤ _; omega)]
  | succ d ih =>
    intro i n τ hi hn
    obtain ⟨n, rfl⟩ : ∃ m, n = m + 1 := ⟨n - 1, by omega⟩
    have ei : (nI i).toInt = (i : Int) := i_nI (by omega)
    obtain ⟨τ', h1, h2, h3⟩ := ih (i + 1) n (up τ o1 i (τ o0 i)) (by omega) (by omega)
    refine ⟨τ', ?_, fun k hk => by rw [h2 k hk, up_row hk], fun j => ?_⟩
    · rw [f_X10_copyAll_2]
      unfold f_X10_copyAll_2_b
      rw [if_neg (by rw [i_le, ei]; show ¬ (408 : Int) ≤ _; omega), ck_k ei (by omega), ck_k ei (by omega), tn_k ei, rd_k ei, lt_a, lt_a, nI_1]
      exact h1
    · rw [h3 j]
      by_cases hj : j = i
      · subst hj; rw [if_neg (by omega), if_pos (by omega), up_s]
      · by_cases hj2 : i + 1 ≤ j ∧ j < 408
        · rw [if_pos hj2, if_pos (by omega), up_row ho]
        · rw [if_neg hj2, if_neg (by omega), up_i hj]
theorem m_cpAll2 {o0 o1 : Nat} (ho : o0 ≠ o1) (τ : Sg) : ∃ τ', f_X10_copyAll o0 o1 τ = some ((), τ') ∧ (∀ k, k ≠ o1 → τ' k = τ k) ∧ ∀ j, τ' o1 j = if j < 408 then τ o0 j else τ o1 j := by
  obtain ⟨τ', h1, h2, h3⟩ := m_cp2 ho 408 0 fuN τ (by omega) (by have := fu_le; omega)
  rw [nI_0] at h1
  refine ⟨τ', h1, h2, fun j => ?_⟩
  rw [h3 j]
  by_cases hj : j < 408
  · rw [if_pos hj, if_pos (by omega)]
  · rw [if_neg hj, if_neg (by omega)]
/-- a day in thought: who is gone by then -/
def CL (n : Nat) (σ τ0 : Sg) (D : Int32) (lim : Nat → Int) (τ : Sg) : Prop :=
  (∀ i, i < 408 → τ 3 i = τ0 1 i) ∧ (∀ k, k ≠ 1 → k ≠ 3 → τ k = τ0 k) ∧ (∀ i, 408 ≤ i → τ 1 i = τ0 1 i) ∧ τ 1 0 = D ∧ τ 1 2 = nI n ∧ τ 1 3 = σ 1 3 ∧ ∀ l, l < n → (∀ f, f < 6 → τ 1 (12 + 7 * l + f) = σ (20 + l) f) ∧ τ 1 (12 + 7 * l + 6) = if σ (20 + l) 6 = 0 ∧ lim l ≤ gbI (σ (20 + l)) (σ 1 2) (σ 1 3) then 0 else 1
theorem gbI_congr {f g : Nat → Int32} (D sp : Int32) (h : ∀ i, i < 7 → f i = g i) : gbI f D sp = gbI g D sp := by
  unfold gbI
  rw [h 0 (by decide), h 1 (by decide), h 4 (by decide), h 6 (by decide)]
theorem cd_loop {n j : Nat} {σ τ τ0 : Sg} (h : Vw n (σ 1 2) σ τ) (dl : (σ 1 2).toInt ≤ 9999) (hj : j ≤ 90) : ∀ (d i m : Nat) (τ : Sg), i + d = n → d < m → CL n σ τ0 (σ 1 2 + nI j) (fun l => if l < i then (j : Int) + 1 else (j : Int)) τ → ∃ τ', f_X10_clearsDay_2 m (nI i) τ = some ((), τ') ∧ CL n σ τ0 (σ 1 2 + nI (j + 1)) (fun _ => (j : Int) + 1) τ' := by
  have h10 := h.1
  have dd := h.2.2.2.2.1.1
  intro d
  induction d with
  | zero =>
    intro i m τ hi hm inv
    obtain ⟨m, rfl⟩ : ∃ q, m = q + 1 := ⟨m - 1, by omega⟩
    obtain rfl : i = n := by omega
    obtain ⟨c1, c2, c3, c4, c5, c6, c7⟩ := inv
    rw [f_X10_clearsDay_2]
    unfold f_X10_clearsDay_2_b
    rw [ck_2, rd_2, c5, if_pos (nI_le (Nat.le_refl _) (by omega)), ck_0, ck_0, lt_a, tn_0, rd_0, c4]
    have e : σ 1 2 + nI j + 1 = σ 1 2 + nI (j + 1) := by rw [Int32.add_assoc, nI_1]
    refine ⟨_, rfl, fun q hq => by rw [up_k (by decide)]; exact c1 q hq, fun k k1 k3 => by rw [up_row k1]; exact c2 k k1 k3, fun q hq => by rw [up_i (by omega)]; exact c3 q hq, by rw [up_s, e], by rw [up_i (by decide)]; exact c5, by rw [up_i (by decide)]; exact c6, fun l hl => ⟨fun f hf => by rw [up_i (by omega)]; exact (c7 l hl).1 f hf, ?_⟩⟩
    rw [up_i (by omega), (c7 l hl).2]
    show (if σ (20 + l) 6 = 0 ∧ (if l < i then (j : Int) + 1 else (j : Int)) ≤ gbI (σ (20 + l)) (σ 1 2) (σ 1 3) then (0 : Int32) else 1) = _
    rw [if_pos hl]
  | succ d ih =>
    intro i m τ hi hm inv
    obtain ⟨m, rfl⟩ : ∃ q, m = q + 1 := ⟨m - 1, by omega⟩
    obtain ⟨c1, c2, c3, c4, c5, c6, c7⟩ := id inv
    have nle := nI_ge (show i < n by omega) (show n < 2 ^ 31 by omega)
    obtain ⟨⟨k0, k0'⟩, ⟨k1, k1'⟩, _, _, ⟨k4, k4'⟩, _⟩ := (h.2.2.2.2.2.2.1 i (by omega)).1
    obtain ⟨f5, g6⟩ := c7 i (by omega)
    have g6' : τ 1 (12 + 7 * i + 6) = if σ (20 + i) 6 = 0 ∧ (j : Int) ≤ gbI (σ (20 + i)) (σ 1 2) (σ 1 3) then (0 : Int32) else 1 := by
      have e : (if i < i then (j : Int) + 1 else (j : Int)) = j := if_neg (by omega)
      have g : τ 1 (12 + 7 * i + 6) = if σ (20 + i) 6 = 0 ∧ (if i < i then (j : Int) + 1 else (j : Int)) ≤ gbI (σ (20 + i)) (σ 1 2) (σ 1 3) then (0 : Int32) else 1 := g6
      rw [e] at g
      exact g
    have ej : (nI j).toInt = (j : Int) := i_nI (by omega)
    have eD : (σ 1 2 + nI j).toInt = (σ 1 2).toInt + (j : Int) := by rw [i_add (by rw [ej]; omega) (by rw [ej]; omega), ej]
    have q1 : τ 1 (12 + 7 * i + 1) = σ (20 + i) 1 := f5 1 (by decide)
    have q4 : τ 1 (12 + 7 * i + 4) = σ (20 + i) 4 := f5 4 (by decide)
    have g01 : τ 1 (12 + 7 * i + 6) = 0 ∨ τ 1 (12 + 7 * i + 6) = 1 := by
      rw [g6']
      by_cases z : σ (20 + i) 6 = 0 ∧ (j : Int) ≤ gbI (σ (20 + i)) (σ 1 2) (σ 1 3)
      · rw [if_pos z]; exact Or.inl rfl
      · rw [if_neg z]; exact Or.inr rfl
    have mg := m_mayGo (l := i) (by omega) (g := fun f => τ 1 (12 + 7 * i + f)) c4 (fun f _ => rfl) (by rw [q1]; exact k1) (by rw [q1]; exact k1') (by rw [q4]; exact k4) (by rw [q4, eD]; omega) (by rw [eD]; omega) g01
    rw [c6] at mg
    have on := gb_on (f := σ (20 + i)) (sp := σ 1 3) k1 k1' k4 k4' eD (by omega) (by omega) (by omega)
    have step : ∀ τ', (∀ k, k ≠ 1 → τ' k = τ k) → (∀ q, q ≠ 12 + 7 * i + 6 → τ' 1 q = τ 1 q) → τ' 1 (12 + 7 * i + 6) = (if σ (20 + i) 6 = 0 ∧ (j : Int) + 1 ≤ gbI (σ (20 + i)) (σ 1 2) (σ 1 3) then (0 : Int32) else 1) → CL n σ τ0 (σ 1 2 + nI j) (fun l => if l < i + 1 then (j : Int) + 1 else (j : Int)) τ' := by
      intro τ' e1 e2 e3
      refine ⟨fun q hq => by rw [e1 3 (by decide)]; exact c1 q hq, fun k k1 k3 => by rw [e1 k k1]; exact c2 k k1 k3, fun q hq => by rw [e2 q (by omega)]; exact c3 q hq, by rw [e2 0 (by omega)]; exact c4, by rw [e2 2 (by omega)]; exact c5, by rw [e2 3 (by omega)]; exact c6, fun l hl => ⟨fun f hf => by rw [e2 _ (by omega)]; exact (c7 l hl).1 f hf, ?_⟩⟩
      by_cases e : l = i
      · subst e
        rw [e3]
        show _ = if σ (20 + l) 6 = 0 ∧ (if l < l + 1 then (j : Int) + 1 else (j : Int)) ≤ gbI (σ (20 + l)) (σ 1 2) (σ 1 3) then (0 : Int32) else 1
        rw [if_pos (show l < l + 1 by omega)]
      · rw [e2 _ (by omega), (c7 l hl).2]
        show (if σ (20 + l) 6 = 0 ∧ (if l < i then (j : Int) + 1 else (j : Int)) ≤ gbI (σ (20 + l)) (σ 1 2) (σ 1 3) then (0 : Int32) else 1) = if σ (20 + l) 6 = 0 ∧ (if l < i + 1 then (j : Int) + 1 else (j : Int)) ≤ gbI (σ (20 + l)) (σ 1 2) (σ 1 3) then (0 : Int32) else 1
        by_cases e' : l < i
        · rw [if_pos e', if_pos (show l < i + 1 by omega)]
        · rw [if_neg e', if_neg (show ¬ l < i + 1 by omega)]
    rw [f_X10_clearsDay_2]
    unfold f_X10_clearsDay_2_b
    rw [ck_2, rd_2, c5, if_neg nle, mg, bnd_s, if01]
    by_cases z : σ (20 + i) 6 = 0 ∧ (j : Int) ≤ gbI (σ (20 + i)) (σ 1 2) (σ 1 3)
    · rw [if_pos z] at g6'
      have gc : gbI (fun f => τ 1 (12 + 7 * i + f)) (σ 1 2 + nI j) (σ 1 3) = gbI (σ (20 + i)) (σ 1 2 + nI j) (σ 1 3) := by
        refine gbI_congr _ _ (fun f hf => ?_)
        by_cases f6 : f = 6
        · subst f6; show τ 1 (12 + 7 * i + 6) = _; rw [g6', z.1]
        · exact f5 f (by omega)
      rw [gc]
      by_cases y : gbI (σ (20 + i)) (σ 1 2 + nI j) (σ 1 3) = 0
      · rw [if_pos y, m_lets 6 (by omega) rfl (by decide), bnd_s, lt_a, nI_1]
        refine ih (i + 1) m _ (by omega) (by omega) (step _ (fun k hk => up_row hk) (fun q hq => up_i hq) ?_)
        rw [up_s, if_neg (fun e => by have := on.mp y; omega)]
      · rw [if_neg y, lt_a, nI_1]
        refine ih (i + 1) m _ (by omega) (by omega) (step _ (fun k hk => rfl) (fun q hq => rfl) ?_)
        rw [g6', if_pos]
        refine ⟨z.1, ?_⟩
        have : ¬ gbI (σ (20 + i)) (σ 1 2) (σ 1 3) ≤ (j : Int) := fun e => y (on.mpr e)
        omega
    · rw [if_neg z] at g6'
      have gc : ¬ gbI (fun f => τ 1 (12 + 7 * i + f)) (σ 1 2 + nI j) (σ 1 3) = 0 := by
        unfold gbI
        rw [if_neg (show ¬ (fun f => τ 1 (12 + 7 * i + f)) 6 = 0 from fun e => by have e' : τ 1 (12 + 7 * i + 6) = 0 := e; rw [g6'] at e'; exact absurd e' (by decide))]
        decide
      rw [if_neg gc, lt_a, nI_1]
      refine ih (i + 1) m _ (by omega) (by omega) (step _ (fun k hk => rfl) (fun q hq => rfl) ?_)
      rw [g6', if_neg]
      rintro ⟨e1, e2⟩
      exact z ⟨e1, by omega⟩
theorem cd_eq {n j : Nat} {σ τ τ0 τk : Sg} (h : Vw n (σ 1 2) σ τ) (dl : (σ 1 2).toInt ≤ 9999) (hj : j ≤ 90) (inv : CL n σ τ0 (σ 1 2 + nI j) (fun _ => (j : Int)) τk) : ∃ τ', f_X10_clearsDay τk = some ((), τ') ∧ CL n σ τ0 (σ 1 2 + nI (j + 1)) (fun _ => (j : Int) + 1) τ' := by
  have h10 := h.1
  have := cd_loop (τ0 := τ0) h dl hj n 0 fuN τk (by omega) (by have := fu_le; omega) (by
    have : (fun l => if l < 0 then (j : Int) + 1 else (j : Int)) = fun _ => (j : Int) := funext fun l => if_neg (by omega)
    rw [this]; exact inv)
  rw [nI_0] at this
  exact this
theorem cl_start {n : Nat} {σ τ : Sg} (h : Vw n (σ 1 2) σ τ) : ∃ τ', f_X10_thinks τ = some ((), τ') ∧ CL n σ τ (σ 1 2 + nI 0) (fun _ => ((0 : Nat) : Int)) τ' := by
  obtain ⟨n10, e1, e2, d0, dd, sp, a3, a4, a7⟩ := id h
  obtain ⟨τ', p1, p2, p3⟩ := m_cpAll2 (o0 := 1) (o1 := 3) (by decide) τ
  refine ⟨τ', by unfold f_X10_thinks; rw [p1, bnd_s], fun i hi => by rw [p3 i, if_pos hi], fun k k1 k3 => p2 k k3, fun i hi => by rw [p2 1 (by decide)], ?_, ?_, ?_, fun l hl => ⟨fun f hf => ?_, ?_⟩⟩
  · rw [p2 1 (by decide), d0, nI_0, Int32.add_zero]
  · rw [p2 1 (by decide)]; exact e2
  · rw [p2 1 (by decide)]; exact sp
  · rw [p2 1 (by decide)]; exact (a3 l hl).2 f (by omega)
  · rw [p2 1 (by decide), (a3 l hl).2 6 (by decide)]
    have g := (h.gb hl).1
    rcases a4 l (by omega) with z | z
    · rw [if_pos ⟨z, g⟩, z]
    · rw [if_neg (fun e => by rw [z] at e; exact absurd e.1 (by decide)), z]
theorem cl_taken {n j : Nat} {σ τ τ0 τk : Sg} (h : Vw n (σ 1 2) σ τ) (hj : j ≤ 100) {D : Int32} (inv : CL n σ τ0 D (fun _ => (j : Int)) τk) : ∃ T, T < 4096 ∧ f_X0_takenBehind (nI j) σ = some (nI T, σ) ∧ f_X10_takenBy (-1 : Int32) τk = some (nI T, τk) := by
  obtain ⟨n10, e1, e2, d0, dd, sp, a3, a4, a7⟩ := id h
  obtain ⟨c1, c2, c3, c4, c5, c6, c7⟩ := inv
  have ej : (nI j).toInt = (j : Int) := i_nI (by omega)
  obtain ⟨T, t1, t2⟩ := orN_lt (p := tkP σ (nI j).toInt) (c := fun l => σ (20 + l) 2) (n := n) (fun i hi => (a3 i hi).1.2.2.1)
  refine ⟨T, t1, ?_, ?_⟩
  · rw [x_takenBehind h.xb, t2]
  · rw [m_takenBy n10 c5, ← t2]
    congr 2
    refine orN_congr (fun i hi => ?_) (fun i hi => (c7 i hi).1 2 (by decide))
    unfold tbP tkP
    rw [(c7 i hi).2, ej]
    have m1 : (-1 : Int32) < 0 := by decide
    by_cases z : σ (20 + i) 6 = 0 ∧ (j : Int) ≤ gbI (σ (20 + i)) (σ 1 2) (σ 1 3)
    · rw [if_pos z, decide_eq_true z, decide_eq_true]
      exact ⟨rfl, Or.inl m1⟩
    · rw [if_neg z, decide_eq_false z, decide_eq_false]
      exact fun e => absurd e.1 (by decide)
theorem cl_end {n : Nat} {σ τ0 τk : Sg} {D : Int32} {lim : Nat → Int} (inv : CL n σ τ0 D lim τk) : ∃ τ', f_X10_putsBack τk = some ((), τ') ∧ eqM τ0 τ' := by
  obtain ⟨c1, c2, c3, c4, c5, c6, c7⟩ := inv
  obtain ⟨τ', p1, p2, p3⟩ := m_cpAll2 (o0 := 3) (o1 := 1) (by decide) τk
  refine ⟨τ', by unfold f_X10_putsBack; rw [p1, bnd_s], ?_⟩
  have r : ∀ k, k ≠ 1 → k ≠ 3 → τ' k = τ0 k := fun k k1 k3 => by rw [p2 k k1, c2 k k1 k3]
  refine ⟨?_, r 2 (by decide) (by decide), r 4 (by decide) (by decide), r 5 (by decide) (by decide), r 6 (by decide) (by decide), r 7 (by decide) (by decide), r 13 (by decide) (by decide), by rw [r 0 (by decide) (by decide)], by rw [r 0 (by decide) (by decide)]⟩
  funext i
  rw [p3 i]
  by_cases hi : i < 408
  · rw [if_pos hi]; exact c1 i hi
  · rw [if_neg hi]; exact c3 i (by omega)
theorem clears_loop {n N : Nat} (hN : N ≤ 90) {σ τ : Sg} (h : Vw n (σ 1 2) σ τ) (dl : (σ 1 2).toInt ≤ 9999) : ∀ (d i m : Nat) (τk : Sg), i + d = N → d < m → CL n σ τ (σ 1 2 + nI i) (fun _ => (i : Int)) τk → ∃ T τ', f_X0_takenBehind (nI N) σ = some (T, σ) ∧ f_X10_clears_23 m (nI N) (nI i) τk = some (T, τ') ∧ eqM τ τ' := by
  intro d
  induction d with
  | zero =>
    intro i m τk hi hm inv
    obtain ⟨m, rfl⟩ : ∃ q, m = q + 1 := ⟨m - 1, by omega⟩
    obtain rfl : i = N := by omega
    obtain ⟨T, t1, t2, t3⟩ := cl_taken h (by omega) inv
    obtain ⟨τ', p1, p2⟩ := cl_end inv
    refine ⟨nI T, τ', t2, ?_, p2⟩
    rw [f_X10_clears_23]
    unfold f_X10_clears_23_b
    rw [if_pos (nI_le (Nat.le_refl _) (by omega)), t3, bnd_s, p1, bnd_s]
  | succ d ih =>
    intro i m τk hi hm inv
    obtain ⟨m, rfl⟩ : ∃ q, m = q + 1 := ⟨m - 1, by omega⟩
    obtain ⟨τ1, p1, p2⟩ := cd_eq h dl (by omega) inv
    rw [f_X10_clears_23]
    unfold f_X10_clears_23_b
    rw [if_neg (nI_ge (show i < N by omega) (by omega)), p1, bnd_s, lt_a, nI_1]
    exact ih (i + 1) m τ1 (by omega) (by omega) p2
theorem eq_clears {σ τ : Sg} (h : Sim σ τ) (a : Int32) : Ok (f_X9_clears a σ) (f_X10_clears a τ) := by
  have t90 : (90 : Int32).toInt = 90 := rfl
  by_cases c1 : 0 ≤ a ∧ a ≤ 90
  · unfold f_X9_clears f_X10_clears
    simp only [x_isIn, m_in, x_err1, m_err1, bnd_s, if01]
    rw [if_pos c1, if_pos c1]
    simp only [i_le, ti_0, t90] at c1
    obtain ⟨N, hN, rfl⟩ := nI_ofi (a := a) (n := 91) c1.1 (by omega)
    obtain ⟨n, hv⟩ := h.vw
    obtain ⟨τ1, p1, p2⟩ := cl_start hv
    obtain ⟨T, τ', q1, q2, q3⟩ := clears_loop (N := N) (by omega) hv h.1.1.2.2.1 N 0 fuN τ1 (by omega) (by have := fu_le; omega) p2
    rw [nI_0] at q2
    rw [q1, p1, bnd_s, bnd_s, q2]
    exact Ok.mk (Sim_eq h eqX.rf q3)
  · exact eq_clears_err h a c1
end
section
theorem set_eq {u t T : Nat} (hu : u < 4) (ht : t ≤ 12) {σ τ : Sg} (s1 : σ (10 + u + 48) 1 = nI t) (s2 : τ 6 u = nI t) (s3 : ∀ j, j < t → τ 7 (24 * u + j) = σ (10 + u + 48 + 18) j) : ∀ (d i m m' : Nat), i + d = t → d < m → d + 1 < m' → ∃ r, (r = 0 ∨ r = 1) ∧ f_X9_isSet_2 m (10 + u + 48) (nI T) (nI i) σ = some (r, σ) ∧ f_X10_isSo_11 m' (nI u) (nI T) (1 : Int32) (nI i) τ = some (r, τ) := by
  have eu : (nI u).toInt = (u : Int) := i_nI (by omega)
  have i1 : isb (1 : Int32) = true := rfl
  have i0 : isb (0 : Int32) = true := rfl
  intro d
  induction d with
  | zero =>
    intro i m m' hi hm hm'
    obtain ⟨m, rfl⟩ : ∃ j, m = j + 1 := ⟨m - 1, by omega⟩
    obtain ⟨m', rfl⟩ : ∃ j, m' = j + 1 := ⟨m' - 1, by omega⟩
    obtain rfl : i = t := by omega
    refine ⟨1, Or.inr rfl, ?_, ?_⟩
    · rw [f_X9_isSet_2]
      unfold f_X9_isSet_2_b
      rw [s1, if_pos (nI_le (Nat.le_refl _) (by omega))]
    · rw [f_X10_isSo_11]
      unfold f_X10_isSo_11_b
      rw [ck_k eu hu, rd_k eu, s2, if_pos (nI_le (Nat.le_refl _) (by omega)), ckb_t i1]
  | succ d ih =>
    intro i m m' hi hm hm'
    obtain ⟨m, rfl⟩ : ∃ j, m = j + 1 := ⟨m - 1, by omega⟩
    obtain ⟨m', rfl⟩ : ∃ j, m' = j + 2 := ⟨m' - 2, by omega⟩
    have ei : (nI i).toInt = (i : Int) := i_nI (by omega)
    have nle := nI_ge (show i < t by omega) (show t < 2 ^ 31 by omega)
    have e24 := i_sq hu (show i ≤ 24 by omega)
    have hc : capC (10 + u + 48 + 18) = 24 := cap_sh hu
    rw [f_X9_isSet_2, show m' + 2 = (m' + 1) + 1 by omega, f_X10_isSo_11]
    unfold f_X9_isSet_2_b f_X10_isSo_11_b
    rw [s1, if_neg nle, hc, ck_k ei (by omega), rd_k ei, ck_k eu hu, rd_k eu, s2, if_neg nle, if_neg (show ¬ (1 : Int32) = 0 by decide), ck_k e24 (by omega), rd_k e24, s3 i (by omega)]
    by_cases z : σ (10 + u + 48 + 18) i = (shr (nI T) (nI i)) &&& (1 : Int32)
    · rw [if_pos z, if_pos z, lt_a, lt_a, nI_1]
      exact ih (i + 1) m (m' + 1) (by omega) (by omega) (by omega)
    · rw [if_neg z, if_neg z, lt_a, nI_1]
      refine ⟨0, Or.inl rfl, rfl, ?_⟩
      rw [f_X10_isSo_11]
      unfold f_X10_isSo_11_b
      rw [ck_k eu hu, rd_k eu, s2, if_pos (show (0 : Int32) = 0 from rfl), ckb_t i0]
      by_cases q : nI t ≤ nI (i + 1)
      · rw [if_pos q]
      · rw [if_neg q]
theorem fits_loop {n u t : Nat} (hu : u < 4) (ht : t ≤ 12) {σ τ : Sg} (h : Sim σ τ) (hv : Vw n (σ 1 2) σ τ) (s1 : σ (10 + u + 48) 1 = nI t) (s2 : τ 6 u = nI t) (s3 : ∀ j, j < t → τ 7 (24 * u + j) = σ (10 + u + 48 + 18) j) : ∀ (d i m m' : Nat) (τk : Sg), i + d = 91 → d < m → d < m' → CL n σ τ (σ 1 2 + nI i) (fun _ => (i : Int)) τk → Ok (f_X9_fits_52 m (nI u) (nI i) σ) (f_X10_fits_40 m' (nI u) (nI i) τk) := by
  have eu : (nI u).toInt = (u : Int) := i_nI (by omega)
  have t90 : (90 : Int32).toInt = 90 := rfl
  intro d
  induction d with
  | zero =>
    intro i m m' τk hi hm hm' inv
    obtain ⟨m, rfl⟩ : ∃ j, m = j + 1 := ⟨m - 1, by omega⟩
    obtain ⟨m', rfl⟩ : ∃ j, m' = j + 1 := ⟨m' - 1, by omega⟩
    obtain rfl : i = 91 := by omega
    obtain ⟨τ', p1, p2⟩ := cl_end inv
    rw [f_X9_fits_52, f_X10_fits_40]
    unfold f_X9_fits_52_b f_X10_fits_40_b f_X10_fits_64
    rw [if_pos (by decide), if_pos (by decide), x_err2, bnd_s, p1, bnd_s, if_neg (by decide), m_err2, bnd_s]
    exact Ok.err (Sim_eq h eqX.rf p2) 2 (by decide)
  | succ d ih =>
    intro i m m' τk hi hm hm' inv
    obtain ⟨m, rfl⟩ : ∃ j, m = j + 1 := ⟨m - 1, by omega⟩
    obtain ⟨m', rfl⟩ : ∃ j, m' = j + 1 := ⟨m' - 1, by omega⟩
    have ei : (nI i).toInt = (i : Int) := i_nI (by omega)
    have n90 : ¬ (90 : Int32) < nI i := by rw [i_lt, ei, t90]; omega
    obtain ⟨T, t1, t2, t3⟩ := cl_taken hv (by omega) inv
    obtain ⟨r, r0, r1, r2⟩ := set_eq (T := T) hu ht (σ := σ) (τ := τk) s1 (by rw [inv.2.1 6 (by decide) (by decide)]; exact s2) (fun j hj => by rw [inv.2.1 7 (by decide) (by decide)]; exact s3 j hj) t 0 fuN fuN (by omega) (by have := fu_le; omega) (by have := fu_le; omega)
    rw [nI_0] at r1 r2
    rw [f_X9_fits_52, f_X10_fits_40]
    unfold f_X9_fits_52_b f_X10_fits_40_b f_X10_isSo f_X9_isSet
    rw [if_neg n90, if_neg n90, ck_k eu hu, tn_k eu, lt_a, t2, bnd_s, r1, bnd_s, t3, bnd_s, r2, bnd_s]
    rcases r0 with z | z
    · obtain ⟨τ1, p1, p2⟩ := cd_eq hv h.1.1.2.2.1 (by omega) inv
      rw [z, if_pos rfl, if_pos rfl, lt_a, nI_1, p1, bnd_s, lt_a]
      exact ih (i + 1) m m' τ1 (by omega) (by omega) (by omega) p2
    · obtain ⟨τ', p1, p2⟩ := cl_end inv
      unfold f_X10_fits_64
      rw [z, if_neg (by decide), if_neg (by decide), p1, bnd_s, if_pos (show nI i ≤ (90 : Int32) by rw [i_le, ei, t90]; omega)]
      exact Ok.mk (Sim_eq h eqX.rf p2)
theorem eq_fits {σ τ : Sg} (h : Sim σ τ) (a : Int32) : Ok (f_X9_fits a σ) (f_X10_fits a τ) := by
  unfold f_X9_fits f_X10_fits
  simp only [x_isIn, x_err1, x_err2, bnd_s, if01, x_isMissing]
  by_cases ha : 0 ≤ a ∧ a ≤ 3
  · rw [if_pos ha]
    obtain ⟨u, hu, rfl⟩ := sh_arg ha
    have eu : (nI u).toInt = (u : Int) := i_nI (by omega)
    obtain ⟨s1, s2, t, s3, s4, s5, s6⟩ := h.2.2.2.2.1 u hu
    have et : (nI t).toInt = (t : Int) := i_nI (by omega)
    rw [m_notThere_t hu, bnd_s, ck_k eu hu, tn_k eu, lt_a, s1]
    by_cases hz : σ (10 + u) 1 = 0
    · rw [if_pos hz, if_pos hz, if_neg (show ¬ (-1000000002 : Int32) = 0 by decide), m_err2, bnd_s]
      exact Ok.err h 2 (by decide)
    · have s4' : σ (10 + u + 48) 1 = nI t := by rw [show 10 + u + 48 = 58 + u by omega]; exact s4
      rw [if_neg hz, if_neg hz, if_pos rfl, ck_k eu hu, lt_a, ck_k eu hu, rd_k eu, s5, s4']
      by_cases ht : t ≤ 12
      · have le : nI t ≤ (12 : Int32) := by rw [i_le, et, ti_12]; omega
        rw [if_pos le, if_pos le]
        obtain ⟨n, hv⟩ := h.vw
        obtain ⟨τ1, p1, p2⟩ := cl_start hv
        have := fits_loop hu ht h hv s4' s5 (fun j hj => by rw [show 10 + u + 48 + 18 = 76 + u by omega]; exact s6 j hj) 91 0 fuN fuN τ1 (by omega) (by have := fu_le; omega) (by have := fu_le; omega) p2
        rw [nI_0] at this
        rw [p1, bnd_s]
        exact this
      · have le : ¬ nI t ≤ (12 : Int32) := by rw [i_le, et, ti_12]; omega
        rw [if_neg le, if_neg le, m_err2, bnd_s]
        exact Ok.err h 2 (by decide)
  · rw [if_neg ha, m_notThere_b ha, bnd_s, if_neg (show ¬ (-1000000001 : Int32) = 0 by decide), m_err1, bnd_s]
    exact Ok.err h 1 (by decide)
end
section
def bdT (v f : Nat) : Int32 := ([10, 20, 10, 10, 50, 10, 70, 11, 11, 30, 11, 11, 60, 71, 12, 12, 12, 40, 51, 12, 12, 13, 21, 13, 13, 21, 13, 13] : List Int32).getD (7 * v + f) 0
theorem bd_eq (σ : Sg) (m : Nat) : ∀ v f : Nat, v < 4 → f < 7 → f_X8_bodyOf_4 (m + 8) (nI v) (nI f) (0 : Int32) σ = some (bdT v f, σ) := by
  intro v f hv hf
  have hv : v = 0 ∨ v = 1 ∨ v = 2 ∨ v = 3 := by omega
  have hf : f = 0 ∨ f = 1 ∨ f = 2 ∨ f = 3 ∨ f = 4 ∨ f = 5 ∨ f = 6 := by omega
  rcases hv with rfl | rfl | rfl | rfl <;> rcases hf with rfl | rfl | rfl | rfl | rfl | rfl | rfl <;> rfl
theorem x_bodyOf (σ : Sg) (v : Nat) {f : Nat} {vI : Int32} (ev : nI v = vI) (hv : v < 4) (hf : f < 7) : f_X8_bodyOf vI (nI f) σ = some (bdT v f, σ) := by
  obtain ⟨m, hm⟩ : ∃ m, fuN = m + 8 := ⟨fuN - 8, by have := fu_le; omega⟩
  unfold f_X8_bodyOf
  rw [hm, ← ev]; exact bd_eq σ m v f hv hf
theorem wo_10 {d f dep : Nat} (hf : f < 7) (hb : bdT 0 f = 10) (hd : dep ≤ 16) (x : Int32) {σ σ' : Sg} (ha : f_X6_add 57 (10 : Int32) σ = some ((), σ')) : G_X8_workOut (d + 1) (0 : Int32) (nI f) x (nI dep) σ = some (x + σ' 6 3, σ') := by
  have ed : (nI dep).toInt = (dep : Int) := i_nI (by omega)
  rw [G_X8_workOut]
  unfold f_X8_workOut_e
  rw [x_bodyOf σ 0 (show nI 0 = (0 : Int32) from rfl) (by decide) hf, hb, bnd_s, if_neg (show ¬ (10 : Int32) = 0 by decide), if_pos (show nI dep ≤ (16 : Int32) by rw [i_le, ed]; show _ ≤ (16 : Int); omega), ha, bnd_s, ckb_t (show inb ((10 : Int32) / (10 : Int32) - (1 : Int32)) 7 = true by decide), lt_a, lt_a, nI_1, if_pos rfl]
theorem wo_11 {d f dep : Nat} (hf : f < 7) (hb : bdT 1 f = 11) (hd : dep ≤ 16) (x : Int32) {σ σ' : Sg} (ha : f_X6_add 57 (11 : Int32) σ = some ((), σ')) : G_X8_workOut (d + 1) (1 : Int32) (nI f) x (nI dep) σ = bnd (G_X8_workOut d (0 : Int32) (σ' 6 2) x (nI (dep + 1)) σ') (fun r s => some (r * (2 : Int32), s)) := by
  have ed : (nI dep).toInt = (dep : Int) := i_nI (by omega)
  rw [G_X8_workOut]
  unfold f_X8_workOut_e
  rw [x_bodyOf σ 1 (show nI 1 = (1 : Int32) from rfl) (by decide) hf, hb, bnd_s, if_neg (show ¬ (11 : Int32) = 0 by decide), if_pos (show nI dep ≤ (16 : Int32) by rw [i_le, ed]; show _ ≤ (16 : Int); omega), ha, bnd_s, ckb_t (show inb ((11 : Int32) / (10 : Int32) - (1 : Int32)) 7 = true by decide), lt_a, lt_a, nI_1, if_neg (show ¬ (11 : Int32) = 10 by decide), if_pos rfl]
theorem wo_12 {d f dep : Nat} (hf : f < 7) (hb : bdT 2 f = 12) (hd : dep ≤ 16) (x : Int32) {σ σ' : Sg} (ha : f_X6_add 57 (12 : Int32) σ = some ((), σ')) : G_X8_workOut (d + 1) (2 : Int32) (nI f) x (nI dep) σ = bnd (G_X8_workOut d (1 : Int32) (σ' 6 2) x (nI (dep + 1)) σ') (fun r s => some (r - s 6 4, s)) := by
  have ed : (nI dep).toInt = (dep : Int) := i_nI (by omega)
  rw [G_X8_workOut]
  unfold f_X8_workOut_e
  rw [x_bodyOf σ 2 (show nI 2 = (2 : Int32) from rfl) (by decide) hf, hb, bnd_s, if_neg (show ¬ (12 : Int32) = 0 by decide), if_pos (show nI dep ≤ (16 : Int32) by rw [i_le, ed]; show _ ≤ (16 : Int); omega), ha, bnd_s, ckb_t (show inb ((12 : Int32) / (10 : Int32) - (1 : Int32)) 7 = true by decide), lt_a, lt_a, nI_1, if_neg (show ¬ (12 : Int32) = 10 by decide), if_neg (show ¬ (12 : Int32) = 11 by decide), if_pos rfl]
theorem wo_13 {d f dep : Nat} (hf : f < 7) (hb : bdT 3 f = 13) (hd : dep ≤ 16) (x : Int32) {σ σ' : Sg} (ha : f_X6_add 57 (13 : Int32) σ = some ((), σ')) : G_X8_workOut (d + 1) (3 : Int32) (nI f) x (nI dep) σ = bnd (f_X8_divided x σ') (fun r s => some (r, s)) := by
  have ed : (nI dep).toInt = (dep : Int) := i_nI (by omega)
  rw [G_X8_workOut]
  unfold f_X8_workOut_e
  rw [x_bodyOf σ 3 (show nI 3 = (3 : Int32) from rfl) (by decide) hf, hb, bnd_s, if_neg (show ¬ (13 : Int32) = 0 by decide), if_pos (show nI dep ≤ (16 : Int32) by rw [i_le, ed]; show _ ≤ (16 : Int); omega), ha, bnd_s, ckb_t (show inb ((13 : Int32) / (10 : Int32) - (1 : Int32)) 7 = true by decide), lt_a, lt_a, nI_1, if_neg (show ¬ (13 : Int32) = 10 by decide), if_neg (show ¬ (13 : Int32) = 11 by decide), if_neg (show ¬ (13 : Int32) = 12 by decide), if_pos rfl]
theorem wo_20 {d f dep : Nat} (hf : f < 7) (hb : bdT 0 f = 20) (hd : dep ≤ 16) (x : Int32) {σ σ' : Sg} (ha : f_X6_add 57 (20 : Int32) σ = some ((), σ')) : G_X8_workOut (d + 1) (0 : Int32) (nI f) x (nI dep) σ = bnd (G_X8_workOut d (0 : Int32) (nI 0) x (nI (dep + 1)) σ') (fun r s => some (r - (4 : Int32), s)) := by
  have ed : (nI dep).toInt = (dep : Int) := i_nI (by omega)
  rw [G_X8_workOut]
  unfold f_X8_workOut_e
  rw [x_bodyOf σ 0 (show nI 0 = (0 : Int32) from rfl) (by decide) hf, hb, bnd_s, if_neg (show ¬ (20 : Int32) = 0 by decide), if_pos (show nI dep ≤ (16 : Int32) by rw [i_le, ed]; show _ ≤ (16 : Int); omega), ha, bnd_s, ckb_t (show inb ((20 : Int32) / (10 : Int32) - (1 : Int32)) 7 = true by decide), lt_a, lt_a, nI_1, if_neg (show ¬ (20 : Int32) = 10 by decide), if_neg (show ¬ (20 : Int32) = 11 by decide), if_neg (show ¬ (20 : Int32) = 12 by decide), if_neg (show ¬ (20 : Int32) = 13 by decide), if_pos rfl]
  rw [show tbl lK ((20 : Int32) / (10 : Int32) - (1 : Int32)) = nI 0 by decide]
theorem wo_21 {d f dep : Nat} (hf : f < 7) (hb : bdT 3 f = 21) (hd : dep ≤ 16) (x : Int32) {σ σ' : Sg} (ha : f_X6_add 57 (21 : Int32) σ = some ((), σ')) : G_X8_workOut (d + 1) (3 : Int32) (nI f) x (nI dep) σ = bnd (G_X8_workOut d (3 : Int32) (nI 0) x (nI (dep + 1)) σ') (fun r s => if s 6 1 = 0 then bnd (G_X8_workOut d (1 : Int32) (s 6 2) (1 : Int32) (nI (dep + 1)) s) (fun r2 s2 => some (r + r2, s2)) else some ((0 : Int32), s)) := by
  have ed : (nI dep).toInt = (dep : Int) := i_nI (by omega)
  rw [G_X8_workOut]
  unfold f_X8_workOut_e
  rw [x_bodyOf σ 3 (show nI 3 = (3 : Int32) from rfl) (by decide) hf, hb, bnd_s, if_neg (show ¬ (21 : Int32) = 0 by decide), if_pos (show nI dep ≤ (16 : Int32) by rw [i_le, ed]; show _ ≤ (16 : Int); omega), ha, bnd_s, ckb_t (show inb ((21 : Int32) / (10 : Int32) - (1 : Int32)) 7 = true by decide), lt_a, lt_a, nI_1, if_neg (show ¬ (21 : Int32) = 10 by decide), if_neg (show ¬ (21 : Int32) = 11 by decide), if_neg (show ¬ (21 : Int32) = 12 by decide), if_neg (show ¬ (21 : Int32) = 13 by decide), if_neg (show ¬ (21 : Int32) = 20 by decide), if_pos rfl]
  rw [show tbl lK ((21 : Int32) / (10 : Int32) - (1 : Int32)) = nI 0 by decide]
theorem wo_30 {d f dep : Nat} (hf : f < 7) (hb : bdT 1 f = 30) (hd : dep ≤ 16) (x : Int32) {σ σ' : Sg} (ha : f_X6_add 57 (30 : Int32) σ = some ((), σ')) : G_X8_workOut (d + 1) (1 : Int32) (nI f) x (nI dep) σ = bnd (G_X8_workOut d (1 : Int32) (nI 0) x (nI (dep + 1)) σ') (fun r s => some ((0 : Int32) - r, s)) := by
  have ed : (nI dep).toInt = (dep : Int) := i_nI (by omega)
  rw [G_X8_workOut]
  unfold f_X8_workOut_e
  rw [x_bodyOf σ 1 (show nI 1 = (1 : Int32) from rfl) (by decide) hf, hb, bnd_s, if_neg (show ¬ (30 : Int32) = 0 by decide), if_pos (show nI dep ≤ (16 : Int32) by rw [i_le, ed]; show _ ≤ (16 : Int); omega), ha, bnd_s, ckb_t (show inb ((30 : Int32) / (10 : Int32) - (1 : Int32)) 7 = true by decide), lt_a, lt_a, nI_1, if_neg (show ¬ (30 : Int32) = 10 by decide), if_neg (show ¬ (30 : Int32) = 11 by decide), if_neg (show ¬ (30 : Int32) = 12 by decide), if_neg (show ¬ (30 : Int32) = 13 by decide), if_neg (show ¬ (30 : Int32) = 20 by decide), if_neg (show ¬ (30 : Int32) = 21 by decide), if_pos rfl]
  rw [show tbl lK ((30 : Int32) / (10 : Int32) - (1 : Int32)) = nI 0 by decide]
theorem wo_40 {d f dep : Nat} (hf : f < 7) (hb : bdT 2 f = 40) (hd : dep ≤ 16) (x : Int32) {σ σ' : Sg} (ha : f_X6_add 57 (40 : Int32) σ = some ((), σ')) : G_X8_workOut (d + 1) (2 : Int32) (nI f) x (nI dep) σ = bnd (G_X8_workOut d (2 : Int32) (nI 0) (x / (2 : Int32)) (nI (dep + 1)) σ') (fun r s => some (r, s)) := by
  have ed : (nI dep).toInt = (dep : Int) := i_nI (by omega)
  rw [G_X8_workOut]
  unfold f_X8_workOut_e
  rw [x_bodyOf σ 2 (show nI 2 = (2 : Int32) from rfl) (by decide) hf, hb, bnd_s, if_neg (show ¬ (40 : Int32) = 0 by decide), if_pos (show nI dep ≤ (16 : Int32) by rw [i_le, ed]; show _ ≤ (16 : Int); omega), ha, bnd_s, ckb_t (show inb ((40 : Int32) / (10 : Int32) - (1 : Int32)) 7 = true by decide), lt_a, lt_a, nI_1, if_neg (show ¬ (40 : Int32) = 10 by decide), if_neg (show ¬ (40 : Int32) = 11 by decide), if_neg (show ¬ (40 : Int32) = 12 by decide), if_neg (show ¬ (40 : Int32) = 13 by decide), if_neg (show ¬ (40 : Int32) = 20 by decide), if_neg (show ¬ (40 : Int32) = 21 by decide), if_neg (show ¬ (40 : Int32) = 30 by decide), if_pos rfl]
  rw [show tbl lK ((40 : Int32) / (10 : Int32) - (1 : Int32)) = nI 0 by decide]
theorem wo_50 {d f dep : Nat} (hf : f < 7) (hb : bdT 0 f = 50) (hd : dep ≤ 16) (x : Int32) {σ σ' : Sg} (ha : f_X6_add 57 (50 : Int32) σ = some ((), σ')) : G_X8_workOut (d + 1) (0 : Int32) (nI f) x (nI dep) σ = bnd (G_X8_workOut d (0 : Int32) (nI 1) x (nI (dep + 1)) σ') (fun r s => some (r * (3 : Int32), s)) := by
  have ed : (nI dep).toInt = (dep : Int) := i_nI (by omega)
  rw [G_X8_workOut]
  unfold f_X8_workOut_e
  rw [x_bodyOf σ 0 (show nI 0 = (0 : Int32) from rfl) (by decide) hf, hb, bnd_s, if_neg (show ¬ (50 : Int32) = 0 by decide), if_pos (show nI dep ≤ (16 : Int32) by rw [i_le, ed]; show _ ≤ (16 : Int); omega), ha, bnd_s, ckb_t (show inb ((50 : Int32) / (10 : Int32) - (1 : Int32)) 7 = true by decide), lt_a, lt_a, nI_1, if_neg (show ¬ (50 : Int32) = 10 by decide), if_neg (show ¬ (50 : Int32) = 11 by decide), if_neg (show ¬ (50 : Int32) = 12 by decide), if_neg (show ¬ (50 : Int32) = 13 by decide), if_neg (show ¬ (50 : Int32) = 20 by decide), if_neg (show ¬ (50 : Int32) = 21 by decide), if_neg (show ¬ (50 : Int32) = 30 by decide), if_neg (show ¬ (50 : Int32) = 40 by decide), if_pos rfl]
  rw [show tbl lK ((50 : Int32) / (10 : Int32) - (1 : Int32)) = nI 1 by decide]
theorem wo_51 {d f dep : Nat} (hf : f < 7) (hb : bdT 2 f = 51) (hd : dep ≤ 16) (x : Int32) {σ σ' : Sg} (ha : f_X6_add 57 (51 : Int32) σ = some ((), σ')) : G_X8_workOut (d + 1) (2 : Int32) (nI f) x (nI dep) σ = bnd (G_X8_workOut d (2 : Int32) (nI 1) x (nI (dep + 1)) σ') (fun r s => some (r ^^^ s 6 3, s)) := by
  have ed : (nI dep).toInt = (dep : Int) := i_nI (by omega)
  rw [G_X8_workOut]
  unfold f_X8_workOut_e
  rw [x_bodyOf σ 2 (show nI 2 = (2 : Int32) from rfl) (by decide) hf, hb, bnd_s, if_neg (show ¬ (51 : Int32) = 0 by decide), if_pos (show nI dep ≤ (16 : Int32) by rw [i_le, ed]; show _ ≤ (16 : Int); omega), ha, bnd_s, ckb_t (show inb ((51 : Int32) / (10 : Int32) - (1 : Int32)) 7 = true by decide), lt_a, lt_a, nI_1, if_neg (show ¬ (51 : Int32) = 10 by decide), if_neg (show ¬ (51 : Int32) = 11 by decide), if_neg (show ¬ (51 : Int32) = 12 by decide), if_neg (show ¬ (51 : Int32) = 13 by decide), if_neg (show ¬ (51 : Int32) = 20 by decide), if_neg (show ¬ (51 : Int32) = 21 by decide), if_neg (show ¬ (51 : Int32) = 30 by decide), if_neg (show ¬ (51 : Int32) = 40 by decide), if_neg (show ¬ (51 : Int32) = 50 by decide), if_pos rfl]
  rw [show tbl lK ((51 : Int32) / (10 : Int32) - (1 : Int32)) = nI 1 by decide]
theorem wo_60 {d f dep : Nat} (hf : f < 7) (hb : bdT 1 f = 60) (hd : dep ≤ 16) (x : Int32) {σ σ' : Sg} (ha : f_X6_add 57 (60 : Int32) σ = some ((), σ')) : G_X8_workOut (d + 1) (1 : Int32) (nI f) x (nI dep) σ = bnd (G_X8_workOut d (1 : Int32) (nI 2) (x + (1 : Int32)) (nI (dep + 1)) σ') (fun r s => some (r, s)) := by
  have ed : (nI dep).toInt = (dep : Int) := i_nI (by omega)
  rw [G_X8_workOut]
  unfold f_X8_workOut_e
  rw [x_bodyOf σ 1 (show nI 1 = (1 : Int32) from rfl) (by decide) hf, hb, bnd_s, if_neg (show ¬ (60 : Int32) = 0 by decide), if_pos (show nI dep ≤ (16 : Int32) by rw [i_le, ed]; show _ ≤ (16 : Int); omega), ha, bnd_s, ckb_t (show inb ((60 : Int32) / (10 : Int32) - (1 : Int32)) 7 = true by decide), lt_a, lt_a, nI_1, if_neg (show ¬ (60 : Int32) = 10 by decide), if_neg (show ¬ (60 : Int32) = 11 by decide), if_neg (show ¬ (60 : Int32) = 12 by decide), if_neg (show ¬ (60 : Int32) = 13 by decide), if_neg (show ¬ (60 : Int32) = 20 by decide), if_neg (show ¬ (60 : Int32) = 21 by decide), if_neg (show ¬ (60 : Int32) = 30 by decide), if_neg (show ¬ (60 : Int32) = 40 by decide), if_neg (show ¬ (60 : Int32) = 50 by decide), if_neg (show ¬ (60 : Int32) = 51 by decide), if_pos rfl]
  rw [show tbl lK ((60 : Int32) / (10 : Int32) - (1 : Int32)) = nI 2 by decide]
theorem wo_70 {d f dep : Nat} (hf : f < 7) (hb : bdT 0 f = 70) (hd : dep ≤ 16) (x : Int32) {σ σ' : Sg} (ha : f_X6_add 57 (70 : Int32) σ = some ((), σ')) : G_X8_workOut (d + 1) (0 : Int32) (nI f) x (nI dep) σ = some ((9 : Int32), σ') := by
  have ed : (nI dep).toInt = (dep : Int) := i_nI (by omega)
  rw [G_X8_workOut]
  unfold f_X8_workOut_e
  rw [x_bodyOf σ 0 (show nI 0 = (0 : Int32) from rfl) (by decide) hf, hb, bnd_s, if_neg (show ¬ (70 : Int32) = 0 by decide), if_pos (show nI dep ≤ (16 : Int32) by rw [i_le, ed]; show _ ≤ (16 : Int); omega), ha, bnd_s, ckb_t (show inb ((70 : Int32) / (10 : Int32) - (1 : Int32)) 7 = true by decide), lt_a, lt_a, nI_1, if_neg (show ¬ (70 : Int32) = 10 by decide), if_neg (show ¬ (70 : Int32) = 11 by decide), if_neg (show ¬ (70 : Int32) = 12 by decide), if_neg (show ¬ (70 : Int32) = 13 by decide), if_neg (show ¬ (70 : Int32) = 20 by decide), if_neg (show ¬ (70 : Int32) = 21 by decide), if_neg (show ¬ (70 : Int32) = 30 by decide), if_neg (show ¬ (70 : Int32) = 40 by decide), if_neg (show ¬ (70 : Int32) = 50 by decide), if_neg (show ¬ (70 : Int32) = 51 by decide), if_neg (show ¬ (70 : Int32) = 60 by decide), if_pos rfl]
theorem wo_71 {d f dep : Nat} (hf : f < 7) (hb : bdT 1 f = 71) (hd : dep ≤ 16) (x : Int32) {σ σ' : Sg} (ha : f_X6_add 57 (71 : Int32) σ = some ((), σ')) : G_X8_workOut (d + 1) (1 : Int32) (nI f) x (nI dep) σ = bnd (G_X8_workOut d (1 : Int32) (nI 0) x (nI (dep + 1)) σ') (fun r s => some (r + s 6 4, s)) := by
  have ed : (nI dep).toInt = (dep : Int) := i_nI (by omega)
  rw [G_X8_workOut]
  unfold f_X8_workOut_e
  rw [x_bodyOf σ 1 (show nI 1 = (1 : Int32) from rfl) (by decide) hf, hb, bnd_s, if_neg (show ¬ (71 : Int32) = 0 by decide), if_pos (show nI dep ≤ (16 : Int32) by rw [i_le, ed]; show _ ≤ (16 : Int); omega), ha, bnd_s, ckb_t (show inb ((71 : Int32) / (10 : Int32) - (1 : Int32)) 7 = true by decide), lt_a, lt_a, nI_1, if_neg (show ¬ (71 : Int32) = 10 by decide), if_neg (show ¬ (71 : Int32) = 11 by decide), if_neg (show ¬ (71 : Int32) = 12 by decide), if_neg (show ¬ (71 : Int32) = 13 by decide), if_neg (show ¬ (71 : Int32) = 20 by decide), if_neg (show ¬ (71 : Int32) = 21 by decide), if_neg (show ¬ (71 : Int32) = 30 by decide), if_neg (show ¬ (71 : Int32) = 40 by decide), if_neg (show ¬ (71 : Int32) = 50 by decide), if_neg (show ¬ (71 : Int32) = 51 by decide), if_neg (show ¬ (71 : Int32) = 60 by decide), if_neg (show ¬ (71 : Int32) = 70 by decide), if_pos rfl]
  rw [show tbl lK ((71 : Int32) / (10 : Int32) - (1 : Int32)) = nI 0 by decide]
def VR (K l : Nat) (M : Int32) (σ0 τ0 σ τ : Sg) : Prop := (∀ k, k ≠ 57 → k ≠ 75 → k ≠ 6 → σ k = σ0 k) ∧ (∀ k, k ≠ 0 → k ≠ 13 → τ k = τ0 k) ∧ (∀ j, j ≠ 19 → j ≠ 20 → τ 0 j = τ0 0 j) ∧ Sq 30 (σ 57 1) (σ 75) (τ 0 19) (τ 13) ∧ σ 6 1 = τ 0 20 ∧ σ 6 2 = nI K ∧ σ 6 3 = nI l ∧ σ 6 4 = M ∧ τ0 1 (12 + 7 * l + 0) = nI K ∧ τ0 1 (12 + 7 * l + 1) = M
theorem vr_begin {K l : Nat} {M : Int32} {σ0 τ0 σ τ : Sg} (h : VR K l M σ0 τ0 σ τ) (b : Int32) : ∃ σ' τ', f_X6_add 57 b σ = some ((), σ') ∧ f_X10_begins b τ = some ((), τ') ∧ VR K l M σ0 τ0 σ' τ' ∧ σ' 6 = σ 6 := by
  obtain ⟨h1, h2, h3, ⟨t, h4, h5, h6, h7⟩, h8, h9, h10, h11, h12, h13⟩ := h
  have et : (nI t).toInt = (t : Int) := i_nI (by omega)
  have t30 : (30 : Int32).toInt = 30 := rfl
  by_cases ht : t < 30
  · refine ⟨_, up (up τ 13 t b) 0 19 (nI (t + 1)), x_add h5 (show t < capC (57 + 18) from ht), ?_, ⟨fun k a c d => by rw [up_row a, up_row c, h1 k a c d], fun k a c => ?_, fun j a c => ?_, ⟨t + 1, by omega, up_s, ?_, fun j hj => ?_⟩, ?_, ?_, ?_, ?_, h12, h13⟩, ?_⟩
    · unfold f_X10_begins
      rw [h6, if_neg (by rw [i_le, et, t30]; omega), ck_k et ht, tn_k et, lt_a, lt_a, up_k (by decide), h6, nI_1]
    · rw [up_row a, up_row c, h2 k a c]
    · rw [up_i a, up_k (by decide), h3 j a c]
    · rw [up_s]
    · show up (up τ 13 t b) 0 19 _ 13 j = up (up σ 75 t b) 57 1 _ 75 j
      rw [up_k (σ := up τ 13 t b) (by decide), up_k (σ := up σ 75 t b) (by decide)]
      by_cases hjt : j = t
      · subst hjt; rw [up_s, up_s]
      · rw [up_i hjt, up_i hjt]; exact h7 j (by omega)
    · rw [up_k (by decide), up_k (by decide), up_i (by decide), up_k (by decide)]; exact h8
    · rw [up_k (by decide), up_k (by decide)]; exact h9
    · rw [up_k (by decide), up_k (by decide)]; exact h10
    · rw [up_k (by decide), up_k (by decide)]; exact h11
    · rw [up_row (by decide), up_row (by decide)]
  · have t3 : t = 30 := by omega
    subst t3
    refine ⟨σ, τ, ?_, ?_, ⟨h1, h2, h3, ⟨30, h4, h5, h6, h7⟩, h8, h9, h10, h11, h12, h13⟩, rfl⟩
    · unfold f_X6_add
      rw [h5, if_pos (by decide)]
    · unfold f_X10_begins
      rw [h6, if_pos (by decide)]
def Rv (K l : Nat) (M : Int32) (σ0 τ0 : Sg) (F G : Sg → Option (Int32 × Sg)) : Prop := ∀ σ τ, VR K l M σ0 τ0 σ τ → σ 6 1 = 0 → ∃ r σ' τ', F σ = some (r, σ') ∧ G τ = some (r, τ') ∧ VR K l M σ0 τ0 σ' τ' ∧ σ' 6 1 = 0
theorem vr_kind {K l : Nat} (hl : l < 10) {M : Int32} {σ0 τ0 σ τ : Sg} (h : VR K l M σ0 τ0 σ τ) : f_X10_it (nI l) (0 : Int32) τ = some (nI K, τ) := by
  rw [m_it 0 hl rfl (by decide), h.2.1 1 (by decide) (by decide), h.2.2.2.2.2.2.2.2.1]
theorem vr_m {K l : Nat} (hl : l < 10) {M : Int32} {σ0 τ0 σ τ : Sg} (h : VR K l M σ0 τ0 σ τ) : f_X10_it (nI l) (1 : Int32) τ = some (M, τ) := by
  rw [m_it 1 hl rfl (by decide), h.2.1 1 (by decide) (by decide), h.2.2.2.2.2.2.2.2.2]
theorem bid {ρ : Type} (x : Option (ρ × Sg)) : bnd x (fun r s => some (r, s)) = x := by
  cases x with
  | none => rfl
  | some y => rfl
theorem v_s0 {K l : Nat} {M : Int32} {σ0 τ0 : Sg} (d : Nat) {f dep : Nat} (hf : f < 7) (hb : bdT 0 f = 10) (hd : dep ≤ 16) (x : Int32) : Rv K l M σ0 τ0 (G_X8_workOut (d + 1) (0 : Int32) (nI f) x (nI dep)) (f_X10_plainSqueaks (nI l) x) := by
  intro σ τ h z
  obtain ⟨σ1, τ1, a1, a2, a3, a4⟩ := vr_begin h 10
  rw [wo_10 hf hb hd x a1]
  unfold f_X10_plainSqueaks
  rw [a2, bnd_s, a3.2.2.2.2.2.2.1]
  exact ⟨_, _, _, rfl, rfl, a3, by rw [a4]; exact z⟩
theorem v_s1 {K l : Nat} {M : Int32} {σ0 τ0 : Sg} (d : Nat) {dep : Nat} (hd : dep ≤ 15) (x : Int32) : Rv K l M σ0 τ0 (G_X8_workOut (d + 2) (0 : Int32) (nI 1) x (nI dep)) (f_X10_sumSqueaks (nI l) x) := by
  intro σ τ h z
  obtain ⟨σ1, τ1, a1, a2, a3, a4⟩ := vr_begin h 20
  rw [show d + 2 = (d + 1) + 1 by omega, wo_20 (by decide) (by decide) (by omega) x a1]
  unfold f_X10_sumSqueaks
  rw [a2, bnd_s]
  obtain ⟨r, σ2, τ2, b1, b2, b3, b4⟩ := v_s0 d (f := 0) (dep := dep + 1) (by decide) (by decide) (by omega) x σ1 τ1 a3 (by rw [a4]; exact z)
  rw [b1, b2, bnd_s, bnd_s]
  exact ⟨_, _, _, rfl, rfl, b3, b4⟩
theorem v_s {K l : Nat} (hl : l < 10) {M : Int32} {σ0 τ0 : Sg} (d : Nat) {dep : Nat} (hK : K < 7) (hd : dep ≤ 14) (x : Int32) : Rv K l M σ0 τ0 (G_X8_workOut (d + 3) (0 : Int32) (nI K) x (nI dep)) (f_X10_squeaks (nI l) x) := by
  intro σ τ h z
  unfold f_X10_squeaks
  rw [vr_kind hl h, bnd_s]
  simp only [bid]
  have c : K = 0 ∨ K = 1 ∨ K = 2 ∨ K = 3 ∨ K = 4 ∨ K = 5 ∨ K = 6 := by omega
  have plain : ∀ f, f < 7 → bdT 0 f = 10 → ∃ r σ' τ', G_X8_workOut (d + 3) (0 : Int32) (nI f) x (nI dep) σ = some (r, σ') ∧ f_X10_plainSqueaks (nI l) x τ = some (r, τ') ∧ VR K l M σ0 τ0 σ' τ' ∧ σ' 6 1 = 0 := fun f hf hb => v_s0 (d + 2) hf hb (by omega) x σ τ h z
  rcases c with rfl | rfl | rfl | rfl | rfl | rfl | rfl
  · rw [if_neg (by decide), if_neg (by decide), if_neg (by decide)]; exact plain 0 (by decide) (by decide)
  · rw [if_pos (by decide)]; exact v_s1 (d + 1) (by omega) x σ τ h z
  · rw [if_neg (by decide), if_neg (by decide), if_neg (by decide)]; exact plain 2 (by decide) (by decide)
  · rw [if_neg (by decide), if_neg (by decide), if_neg (by decide)]; exact plain 3 (by decide) (by decide)
  · rw [if_neg (by decide), if_pos (by decide)]
    obtain ⟨σ1, τ1, a1, a2, a3, a4⟩ := vr_begin h 50
    rw [show d + 3 = (d + 2) + 1 by omega, wo_50 (by decide) (by decide) (by omega) x a1, a2, bnd_s]
    obtain ⟨r, σ2, τ2, b1, b2, b3, b4⟩ := v_s1 d (dep := dep + 1) (by omega) x σ1 τ1 a3 (by rw [a4]; exact z)
    rw [b1, b2, bnd_s, bnd_s]
    exact ⟨_, _, _, rfl, rfl, b3, b4⟩
  · rw [if_neg (by decide), if_neg (by decide), if_neg (by decide)]; exact plain 5 (by decide) (by decide)
  · rw [if_neg (by decide), if_neg (by decide), if_pos (by decide)]
    obtain ⟨σ1, τ1, a1, a2, a3, a4⟩ := vr_begin h 70
    rw [show d + 3 = (d + 2) + 1 by omega, wo_70 (by decide) (by decide) (by omega) x a1, a2, bnd_s]
    exact ⟨_, _, _, rfl, rfl, a3, by rw [a4]; exact z⟩
theorem v_m0 {K l : Nat} (hl : l < 10) {M : Int32} {σ0 τ0 : Sg} (d : Nat) {f dep : Nat} (hK : K < 7) (hf : f < 7) (hb : bdT 1 f = 11) (hd : dep ≤ 13) (x : Int32) : Rv K l M σ0 τ0 (G_X8_workOut (d + 4) (1 : Int32) (nI f) x (nI dep)) (f_X10_plainSmears (nI l) x) := by
  intro σ τ h z
  obtain ⟨σ1, τ1, a1, a2, a3, a4⟩ := vr_begin h 11
  rw [show d + 4 = (d + 3) + 1 by omega, wo_11 hf hb (by omega) x a1]
  unfold f_X10_plainSmears
  rw [a2, bnd_s, a3.2.2.2.2.2.1]
  obtain ⟨r, σ2, τ2, b1, b2, b3, b4⟩ := v_s hl d (dep := dep + 1) hK (by omega) x σ1 τ1 a3 (by rw [a4]; exact z)
  rw [b1, b2, bnd_s, bnd_s]
  exact ⟨_, _, _, rfl, rfl, b3, b4⟩
theorem v_m2 {K l : Nat} (hl : l < 10) {M : Int32} {σ0 τ0 : Sg} (d : Nat) {dep : Nat} (hK : K < 7) (hd : dep ≤ 12) (x : Int32) : Rv K l M σ0 τ0 (G_X8_workOut (d + 5) (1 : Int32) (nI 2) x (nI dep)) (f_X10_arrowSmears (nI l) x) := by
  intro σ τ h z
  obtain ⟨σ1, τ1, a1, a2, a3, a4⟩ := vr_begin h 30
  rw [show d + 5 = (d + 4) + 1 by omega, wo_30 (by decide) (by decide) (by omega) x a1]
  unfold f_X10_arrowSmears
  rw [a2, bnd_s]
  obtain ⟨r, σ2, τ2, b1, b2, b3, b4⟩ := v_m0 hl d (f := 0) (dep := dep + 1) hK (by decide) (by decide) (by omega) x σ1 τ1 a3 (by rw [a4]; exact z)
  rw [b1, b2, bnd_s, bnd_s, Int32.zero_sub]
  exact ⟨_, _, _, rfl, rfl, b3, b4⟩
theorem v_m {K l : Nat} (hl : l < 10) {M : Int32} {σ0 τ0 : Sg} (d : Nat) {dep : Nat} (hK : K < 7) (hd : dep ≤ 11) (x : Int32) : Rv K l M σ0 τ0 (G_X8_workOut (d + 6) (1 : Int32) (nI K) x (nI dep)) (f_X10_smears (nI l) x) := by
  intro σ τ h z
  unfold f_X10_smears
  rw [vr_kind hl h, bnd_s]
  simp only [bid]
  have c : K = 0 ∨ K = 1 ∨ K = 2 ∨ K = 3 ∨ K = 4 ∨ K = 5 ∨ K = 6 := by omega
  have plain : ∀ f, f < 7 → bdT 1 f = 11 → ∃ r σ' τ', G_X8_workOut (d + 6) (1 : Int32) (nI f) x (nI dep) σ = some (r, σ') ∧ f_X10_plainSmears (nI l) x τ = some (r, τ') ∧ VR K l M σ0 τ0 σ' τ' ∧ σ' 6 1 = 0 := fun f hf hb => v_m0 hl (d + 2) hK hf hb (by omega) x σ τ h z
  rcases c with rfl | rfl | rfl | rfl | rfl | rfl | rfl
  · rw [if_neg (by decide), if_neg (by decide), if_neg (by decide), if_neg (by decide), if_neg (by decide)]; exact plain 0 (by decide) (by decide)
  · rw [if_neg (by decide), if_neg (by decide), if_neg (by decide), if_neg (by decide), if_neg (by decide)]; exact plain 1 (by decide) (by decide)
  · rw [if_pos (by decide)]; exact v_m2 hl (d + 1) (by decide) (by omega) x σ τ h z
  · rw [if_neg (by decide), if_pos (by decide)]; exact plain 3 (by decide) (by decide)
  · rw [if_neg (by decide), if_neg (by decide), if_pos (by decide)]; exact plain 4 (by decide) (by decide)
  · rw [if_neg (by decide), if_neg (by decide), if_neg (by decide), if_pos (by decide)]
    obtain ⟨σ1, τ1, a1, a2, a3, a4⟩ := vr_begin h 60
    rw [show d + 6 = (d + 5) + 1 by omega, wo_60 (by decide) (by decide) (by omega) x a1, a2, bnd_s]
    obtain ⟨r, σ2, τ2, b1, b2, b3, b4⟩ := v_m2 hl d (dep := dep + 1) (by decide) (by omega) (x + 1) σ1 τ1 a3 (by rw [a4]; exact z)
    rw [b1, b2, bnd_s]
    exact ⟨_, _, _, rfl, rfl, b3, b4⟩
  · rw [if_neg (by decide), if_neg (by decide), if_neg (by decide), if_neg (by decide), if_pos (by decide)]
    obtain ⟨σ1, τ1, a1, a2, a3, a4⟩ := vr_begin h 71
    rw [show d + 6 = (d + 5) + 1 by omega, wo_71 (by decide) (by decide) (by omega) x a1, a2, bnd_s]
    obtain ⟨r, σ2, τ2, b1, b2, b3, b4⟩ := v_m0 hl (d + 1) (f := 0) (dep := dep + 1) (by decide) (by decide) (by decide) (by omega) x σ1 τ1 a3 (by rw [a4]; exact z)
    rw [b1, b2, bnd_s, bnd_s, vr_m hl b3, bnd_s, b3.2.2.2.2.2.2.2.1]
    exact ⟨_, _, _, rfl, rfl, b3, b4⟩
theorem v_t0 {K l : Nat} (hl : l < 10) {M : Int32} {σ0 τ0 : Sg} (d : Nat) {f dep : Nat} (hK : K < 7) (hf : f < 7) (hb : bdT 2 f = 12) (hd : dep ≤ 10) (x : Int32) : Rv K l M σ0 τ0 (G_X8_workOut (d + 7) (2 : Int32) (nI f) x (nI dep)) (f_X10_plainStays (nI l) x) := by
  intro σ τ h z
  obtain ⟨σ1, τ1, a1, a2, a3, a4⟩ := vr_begin h 12
  rw [show d + 7 = (d + 6) + 1 by omega, wo_12 hf hb (by omega) x a1]
  unfold f_X10_plainStays
  rw [a2, bnd_s, a3.2.2.2.2.2.1]
  obtain ⟨r, σ2, τ2, b1, b2, b3, b4⟩ := v_m hl d (dep := dep + 1) hK (by omega) x σ1 τ1 a3 (by rw [a4]; exact z)
  rw [b1, b2, bnd_s, bnd_s, vr_m hl b3, bnd_s, b3.2.2.2.2.2.2.2.1]
  exact ⟨_, _, _, rfl, rfl, b3, b4⟩
theorem v_t {K l : Nat} (hl : l < 10) {M : Int32} {σ0 τ0 : Sg} (d : Nat) {dep : Nat} (hK : K < 7) (hd : dep ≤ 9) (x : Int32) : Rv K l M σ0 τ0 (G_X8_workOut (d + 8) (2 : Int32) (nI K) x (nI dep)) (f_X10_stays (nI l) x) := by
  intro σ τ h z
  unfold f_X10_stays
  rw [vr_kind hl h, bnd_s]
  simp only [bid]
  have c : K = 0 ∨ K = 1 ∨ K = 2 ∨ K = 3 ∨ K = 4 ∨ K = 5 ∨ K = 6 := by omega
  have plain : ∀ f, f < 7 → bdT 2 f = 12 → ∃ r σ' τ', G_X8_workOut (d + 8) (2 : Int32) (nI f) x (nI dep) σ = some (r, σ') ∧ f_X10_plainStays (nI l) x τ = some (r, τ') ∧ VR K l M σ0 τ0 σ' τ' ∧ σ' 6 1 = 0 := fun f hf hb => v_t0 hl (d + 1) hK hf hb (by omega) x σ τ h z
  rcases c with rfl | rfl | rfl | rfl | rfl | rfl | rfl
  · rw [if_neg (by decide), if_neg (by decide)]; exact plain 0 (by decide) (by decide)
  · rw [if_neg (by decide), if_neg (by decide)]; exact plain 1 (by decide) (by decide)
  · rw [if_neg (by decide), if_neg (by decide)]; exact plain 2 (by decide) (by decide)
  · rw [if_pos (by decide)]
    obtain ⟨σ1, τ1, a1, a2, a3, a4⟩ := vr_begin h 40
    rw [show d + 8 = (d + 7) + 1 by omega, wo_40 (by decide) (by decide) (by omega) x a1, a2, bnd_s]
    obtain ⟨r, σ2, τ2, b1, b2, b3, b4⟩ := v_t0 hl d (f := 0) (dep := dep + 1) (by decide) (by decide) (by decide) (by omega) (x / 2) σ1 τ1 a3 (by rw [a4]; exact z)
    rw [b1, b2, bnd_s]
    exact ⟨_, _, _, rfl, rfl, b3, b4⟩
  · rw [if_neg (by decide), if_pos (by decide)]
    obtain ⟨σ1, τ1, a1, a2, a3, a4⟩ := vr_begin h 51
    rw [show d + 8 = (d + 7) + 1 by omega, wo_51 (by decide) (by decide) (by omega) x a1, a2, bnd_s]
    obtain ⟨r, σ2, τ2, b1, b2, b3, b4⟩ := v_t0 hl d (f := 1) (dep := dep + 1) (by decide) (by decide) (by decide) (by omega) x σ1 τ1 a3 (by rw [a4]; exact z)
    rw [b1, b2, bnd_s, bnd_s, b3.2.2.2.2.2.2.1]
    exact ⟨_, _, _, rfl, rfl, b3, b4⟩
  · rw [if_neg (by decide), if_neg (by decide)]; exact plain 5 (by decide) (by decide)
  · rw [if_neg (by decide), if_neg (by decide)]; exact plain 6 (by decide) (by decide)
/-! parts: the flag may be set -/
theorem v_p0 {K l : Nat} (hl : l < 10) {M : Int32} {σ0 τ0 : Sg} (d : Nat) {f dep : Nat} (hf : f < 7) (hb : bdT 3 f = 13) (hd : dep ≤ 16) (x : Int32) {σ τ : Sg} (h : VR K l M σ0 τ0 σ τ) (z : σ 6 1 = 0) : ∃ r σ' τ', G_X8_workOut (d + 1) (3 : Int32) (nI f) x (nI dep) σ = some (r, σ') ∧ f_X10_plainParts (nI l) x τ = some (r, τ') ∧ VR K l M σ0 τ0 σ' τ' := by
  obtain ⟨σ1, τ1, a1, a2, a3, a4⟩ := vr_begin h 13
  rw [wo_13 hf hb hd x a1]
  unfold f_X10_plainParts f_X8_divided
  rw [a2, bnd_s, vr_m hl a3, bnd_s, a3.2.2.2.2.2.2.1, a3.2.2.2.2.2.2.2.1]
  simp only [lt_a]
  have z1 : σ1 6 1 = 0 := by rw [a4]; exact z
  obtain ⟨h1, h2, h3, h4, h8, h9, h10, h11, h12, h13⟩ := a3
  by_cases q : M - nI l = 0
  · rw [if_pos q, if_pos q, up_s, if_neg (show ¬ (1 : Int32) = 0 by decide), bnd_s]
    refine ⟨0, _, _, rfl, rfl, fun k a b c => by rw [up_row c]; exact h1 k a b c, fun k a b => by rw [up_row a]; exact h2 k a b, fun j a b => by rw [up_i b]; exact h3 j a b, ?_, by rw [up_s, up_s], by rw [up_i (by decide)]; exact h9, by rw [up_i (by decide)]; exact h10, by rw [up_i (by decide)]; exact h11, h12, h13⟩
    rw [up_k (by decide), up_row (by decide), up_i (by decide), up_row (by decide)]; exact h4
  · have nq : nz (M - nI l) = true := by unfold nz; rw [Bool.not_eq_true', decide_eq_false_iff_not]; exact q
    rw [if_neg q, if_neg q, up_s, if_pos rfl, ckb_t nq, ckb_t nq, bnd_s]
    refine ⟨x / (M - nI l), σ1, _, rfl, rfl, h1, fun k a b => by rw [up_row a]; exact h2 k a b, fun j a b => by rw [up_i b]; exact h3 j a b, ?_, by rw [up_s]; exact z1, h9, h10, h11, h12, h13⟩
    rw [up_i (by decide), up_row (by decide)]; exact h4
theorem v_p21 {K l : Nat} (hl : l < 10) {M : Int32} {σ0 τ0 : Sg} (d : Nat) {f dep : Nat} (hK : K < 7) (hf : f < 7) (hb : bdT 3 f = 21) (hd : dep ≤ 10) (x : Int32) {σ τ : Sg} (h : VR K l M σ0 τ0 σ τ) (z : σ 6 1 = 0) : ∃ r σ' τ', G_X8_workOut (d + 7) (3 : Int32) (nI f) x (nI dep) σ = some (r, σ') ∧ f_X10_partsBy_20 (nI l) x τ = some (r, τ') ∧ VR K l M σ0 τ0 σ' τ' := by
  obtain ⟨σ1, τ1, a1, a2, a3, a4⟩ := vr_begin h 21
  rw [show d + 7 = (d + 6) + 1 by omega, wo_21 hf hb (by omega) x a1]
  unfold f_X10_partsBy_20
  rw [a2, bnd_s]
  obtain ⟨r, σ2, τ2, b1, b2, b3⟩ := v_p0 hl (d + 5) (f := 0) (dep := dep + 1) (by decide) (by decide) (by omega) x a3 (by rw [a4]; exact z)
  rw [b1, b2, bnd_s, bnd_s, ← b3.2.2.2.2.1]
  by_cases q : σ2 6 1 = 0
  · rw [if_pos q, if_pos q, b3.2.2.2.2.2.1]
    obtain ⟨r2, σ3, τ3, c1, c2, c3, c4⟩ := v_m hl d (dep := dep + 1) hK (by omega) 1 σ2 τ2 b3 q
    rw [c1, c2, bnd_s, bnd_s]
    exact ⟨_, _, _, rfl, rfl, c3⟩
  · rw [if_neg q, if_neg q]
    exact ⟨_, _, _, rfl, rfl, b3⟩
theorem v_p {K l : Nat} (hl : l < 10) {M : Int32} {σ0 τ0 : Sg} (d : Nat) {dep : Nat} (hK : K < 7) (hd : dep ≤ 9) (x : Int32) {σ τ : Sg} (h : VR K l M σ0 τ0 σ τ) (z : σ 6 1 = 0) : ∃ r σ' τ', G_X8_workOut (d + 8) (3 : Int32) (nI K) x (nI dep) σ = some (r, σ') ∧ f_X10_partsBy (nI l) x τ = some (r, τ') ∧ VR K l M σ0 τ0 σ' τ' := by
  unfold f_X10_partsBy
  rw [vr_kind hl h, bnd_s]
  have c : K = 0 ∨ K = 1 ∨ K = 2 ∨ K = 3 ∨ K = 4 ∨ K = 5 ∨ K = 6 := by omega
  have plain : ∀ f, f < 7 → bdT 3 f = 13 → ∃ r σ' τ', G_X8_workOut (d + 8) (3 : Int32) (nI f) x (nI dep) σ = some (r, σ') ∧ f_X10_plainParts (nI l) x τ = some (r, τ') ∧ VR K l M σ0 τ0 σ' τ' := fun f hf hb => v_p0 hl (d + 7) hf hb (by omega) x h z
  have by21 : ∀ f, f < 7 → bdT 3 f = 21 → ∃ r σ' τ', G_X8_workOut (d + 8) (3 : Int32) (nI f) x (nI dep) σ = some (r, σ') ∧ f_X10_partsBy_20 (nI l) x τ = some (r, τ') ∧ VR K l M σ0 τ0 σ' τ' := fun f hf hb => v_p21 hl (d + 1) hK hf hb (by omega) x h z
  have k2 := vr_kind hl h
  rcases c with rfl | rfl | rfl | rfl | rfl | rfl | rfl
  · rw [if_neg (by decide), k2, bnd_s, if_neg (by decide), bid]; exact plain 0 (by decide) (by decide)
  · rw [if_pos (by decide)]; exact by21 1 (by decide) (by decide)
  · rw [if_neg (by decide), k2, bnd_s, if_neg (by decide), bid]; exact plain 2 (by decide) (by decide)
  · rw [if_neg (by decide), k2, bnd_s, if_neg (by decide), bid]; exact plain 3 (by decide) (by decide)
  · rw [if_neg (by decide), k2, bnd_s, if_pos (by decide)]; exact by21 4 (by decide) (by decide)
  · rw [if_neg (by decide), k2, bnd_s, if_neg (by decide), bid]; exact plain 5 (by decide) (by decide)
  · rw [if_neg (by decide), k2, bnd_s, if_neg (by decide), bid]; exact plain 6 (by decide) (by decide)
theorem Sim.vr {σ τ σ' τ' : Sg} {K l : Nat} {M : Int32} (h : Sim σ τ) (v : VR K l M σ τ σ' τ') : Sim σ' τ' := by
  obtain ⟨h1, h2, h3, h4, h5, h6⟩ := h
  obtain ⟨v1, v2, v3, v4, _⟩ := v
  refine ⟨Bd1_fr h1 (fun k hk => v1 k (by omega) (by omega) (by omega)) (v2 1 (by decide) (by decide)), ?_, fun hz => ?_, fun k a b => ?_, fun u hu => ?_, v4⟩
  · rw [v1 0 (by decide) (by decide) (by decide), v3 3 (by decide) (by decide)]; exact h2
  · rw [v1 0 (by decide) (by decide) (by decide)] at hz
    exact Bd2_fr (h3 hz) (fun k hk => v1 k (by omega) (by omega) (by omega)) (v2 2 (by decide) (by decide))
  · rw [v1 8 (by decide) (by decide) (by decide), v2 4 (by decide) (by decide)]; exact h4 k a b
  · rw [v1 (10 + u) (by omega) (by omega) (by omega), v1 (58 + u) (by omega) (by omega) (by omega), v1 (76 + u) (by omega) (by omega) (by omega), v2 5 (by decide) (by decide), v2 6 (by decide) (by decide), v2 7 (by decide) (by decide)]; exact h5 u hu
theorem eq_voice {σ τ : Sg} (h : Sim σ τ) (a b x : Int32) : Ok (f_X9_voice a b x σ) (f_X10_voice a b x τ) := by
  obtain ⟨n, hv⟩ := h.vw
  obtain ⟨n10, e1, e2, d0, dd, sp, a3, a4, a7⟩ := id hv
  unfold f_X9_voice f_X10_voice
  simp only [x_hasLine e1, m_isLine e2 n10, x_err1, m_err1, x_isIn, m_in, bnd_s, if01]
  by_cases c1 : 0 ≤ a ∧ a < nI n
  · rw [if_pos c1, if_pos c1]
    by_cases c2 : 0 ≤ b ∧ b ≤ 3
    · rw [if_pos c2, if_pos c2]
      have en : (nI n).toInt = (n : Int) := i_nI (by omega)
      simp only [i_le, i_lt, en, ti_0, ti_3] at c1 c2
      obtain ⟨l, hl, rfl⟩ := nI_ofi (a := a) (n := n) c1.1 (by omega)
      have el : (nI l).toInt = (l : Int) := i_nI (by omega)
      obtain ⟨v, hvv, rfl⟩ := nI_ofi (a := b) (n := 4) c2.1 (by omega)
      obtain ⟨⟨k0, k0'⟩, _⟩ := (a3 l hl).1
      obtain ⟨K, hK, eK⟩ := nI_ofi (a := σ (20 + l) 0) (n := 7) k0 (by omega)
      have f0 := (a3 l hl).2 0 (by decide)
      have f1 := (a3 l hl).2 1 (by decide)
      rw [ck_k el (by omega), tn_k el, lt_a, lt_a, lt_a]
      unfold f_X8_say f_X6_clear
      simp only [lt_a, bnd_s]
      simp (disch := omega) only [up_k, up_i, up_s]
      rw [eK]
      have vr : VR K l (σ (20 + l) 1) σ τ (up (up (up (up (up σ 57 1 0) 6 1 0) 6 2 (nI K)) 6 3 (nI l)) 6 4 (σ (20 + l) 1)) (up (up τ 0 19 0) 0 20 0) := by
        refine ⟨fun k p q r => by rw [up_row r, up_row r, up_row r, up_row r, up_row p], fun k p q => by rw [up_row p, up_row p], fun j p q => by rw [up_i q, up_i p], ⟨0, by omega, ?_, ?_, fun j hj => absurd hj (by omega)⟩, ?_, ?_, ?_, ?_, ?_, ?_⟩
        · simp (disch := omega) only [up_k, up_s]; rfl
        · rw [up_i (by decide), up_s]; rfl
        · rw [up_s, up_i (by decide), up_i (by decide), up_i (by decide), up_s]
        · rw [up_i (by decide), up_i (by decide), up_s]
        · rw [up_i (by decide), up_s]
        · rw [up_s]
        · rw [f0, eK]
        · exact f1
      have z1 : (up (up (up (up (up σ 57 1 0) 6 1 0) 6 2 (nI K)) 6 3 (nI l)) 6 4 (σ (20 + l) 1)) 6 1 = 0 := by
        rw [up_i (by decide), up_i (by decide), up_i (by decide), up_s]
      generalize up (up (up (up (up σ 57 1 0) 6 1 0) 6 2 (nI K)) 6 3 (nI l)) 6 4 (σ (20 + l) 1) = σ1 at vr z1 ⊢
      generalize up (up τ 0 19 0) 0 20 0 = τ1 at vr ⊢
      have fin : ∀ (r : Int32) (σ2 τ2 : Sg), VR K l (σ (20 + l) 1) σ τ σ2 τ2 → Ok (if σ2 6 1 = 0 then some (r, σ2) else some ((-1000000006 : Int32), up σ2 8 6 (σ2 8 6 + 1))) (f_X10_voice_81 r τ2) := by
        intro r σ2 τ2 w
        unfold f_X10_voice_81
        rw [← w.2.2.2.2.1]
        by_cases q : σ2 6 1 = 0
        · rw [if_pos q, if_pos q]; exact Ok.mk (h.vr w)
        · rw [if_neg q, if_neg q, m_err6, bnd_s]; exact Ok.err (h.vr w) 6 (by decide)
      simp only [x_err6, bnd_s, bid]
      have e64 : f_X8_workOut = G_X8_workOut (56 + 8) := rfl
      rw [e64]
      have c : v = 0 ∨ v = 1 ∨ v = 2 ∨ v = 3 := by omega
      rcases c with rfl | rfl | rfl | rfl
      · obtain ⟨r, σ2, τ2, b1, b2, b3, b4⟩ := v_s (by omega) 61 (dep := 0) hK (by omega) x σ1 τ1 vr z1
        rw [nI_0] at b1
        rw [show nI 0 = (0 : Int32) from rfl, if_pos rfl, b1, b2, bnd_s, bnd_s]
        exact fin _ _ _ b3
      · obtain ⟨r, σ2, τ2, b1, b2, b3, b4⟩ := v_m (by omega) 58 (dep := 0) hK (by omega) x σ1 τ1 vr z1
        rw [nI_0] at b1
        rw [show nI 1 = (1 : Int32) from rfl, if_neg (by decide), if_pos rfl, b1, b2, bnd_s, bnd_s]
        exact fin _ _ _ b3
      · obtain ⟨r, σ2, τ2, b1, b2, b3, b4⟩ := v_t (by omega) 56 (dep := 0) hK (by omega) x σ1 τ1 vr z1
        rw [nI_0] at b1
        rw [show nI 2 = (2 : Int32) from rfl, if_neg (by decide), if_neg (by decide), if_pos rfl, b1, b2, bnd_s, bnd_s]
        exact fin _ _ _ b3
      · obtain ⟨r, σ2, τ2, b1, b2, b3⟩ := v_p (by omega) 56 (dep := 0) hK (by omega) x vr z1
        rw [nI_0] at b1
        rw [show nI 3 = (3 : Int32) from rfl, if_neg (by decide), if_neg (by decide), if_neg (by decide), b1, b2, bnd_s, bnd_s]
        exact fin _ _ _ b3
    · rw [if_neg c2, if_neg c2]; exact Ok.err h 1 (by decide)
  · rw [if_neg c1, if_neg c1]; exact Ok.err h 1 (by decide)
end
section
def Fr (T c n : Nat) : Prop := ∀ l, c ≤ l → l < c + n → T.testBit l = false
theorem fr_win {T c n : Nat} (hT : T < 4096) (hc : c + n ≤ 12) : nI T &&& nI (winN c n) = 0 ↔ Fr T c n := by
  have wl := win_lt n (by omega) c (by omega) (by omega)
  rw [and_0]
  constructor
  · intro h l h1 h2
    have wb := win_b n (by omega) c (by omega) (by omega) l (by omega)
    cases q : T.testBit l
    · rfl
    · exact absurd ⟨by rw [bt_nI (by omega)]; exact q, by rw [bt_nI (by omega), wb, decide_eq_true_eq]; exact ⟨h1, h2⟩⟩ (h l (by omega))
  · rintro h l hl ⟨q1, q2⟩
    rw [bt_nI (by omega)] at q1 q2
    have l12 := tb_lt wl q2
    have wb := win_b n (by omega) c (by omega) (by omega) l l12
    rw [wb, decide_eq_true_eq] at q2
    rw [h l q2.1 q2.2] at q1
    cases q1
def FE (T f n e : Nat) : Prop := (e = 1000000 ∧ ∀ c, f ≤ c → c + n ≤ 12 → ¬ Fr T c n) ∨ (∃ c, e = c + n ∧ f ≤ c ∧ c + n ≤ 12 ∧ Fr T c n ∧ ∀ c', f ≤ c' → c' < c → ¬ Fr T c' n)
theorem fe_loop {T n : Nat} (hT : T < 4096) (hn : n ≤ 12) (σ : Sg) {f : Nat} : ∀ (d c m : Nat), (c + n + d = 13 ∨ (13 ≤ c + n ∧ d = 0)) → d < m → c ≤ 1000000 → f ≤ c → (∀ c', f ≤ c' → c' < c → c' + n ≤ 12 → ¬ Fr T c' n) → ∃ e, f_X9_freeEnd_2 m (nI T) (nI n) (nI c) σ = some (nI e, σ) ∧ FE T f n e := by
  have key : ∀ (c m : Nat), 13 ≤ c + n → c ≤ 1000000 → (∀ c', f ≤ c' → c' < c → c' + n ≤ 12 → ¬ Fr T c' n) → ∃ e, f_X9_freeEnd_2 (m + 1) (nI T) (nI n) (nI c) σ = some (nI e, σ) ∧ FE T f n e := by
    intro c m h1 h2 h3
    refine ⟨1000000, ?_, Or.inl ⟨rfl, fun c' a b => h3 c' a (by omega) b⟩⟩
    rw [f_X9_freeEnd_2]
    unfold f_X9_freeEnd_2_b
    rw [if_pos (by rw [nI_add, i_lt, i_nI (by omega), ti_12]; omega)]
    rfl
  intro d
  induction d with
  | zero =>
    intro c m hc hm h2 hf h3
    obtain ⟨m, rfl⟩ : ∃ j, m = j + 1 := ⟨m - 1, by omega⟩
    exact key c m (by omega) h2 h3
  | succ d ih =>
    intro c m hc hm h2 hf h3
    obtain ⟨m, rfl⟩ : ∃ j, m = j + 1 := ⟨m - 1, by omega⟩
    rw [f_X9_freeEnd_2]
    unfold f_X9_freeEnd_2_b f_X9_columnsFrom
    rw [if_neg (by rw [nI_add, i_lt, i_nI (by omega), ti_12]; omega), win_eq n (by omega) c (by omega) (by omega), bnd_s]
    by_cases q : Fr T c n
    · rw [if_pos ((fr_win hT (by omega)).mpr q), nI_add]
      exact ⟨c + n, rfl, Or.inr ⟨c, rfl, hf, by omega, q, fun c' a b => h3 c' a b (by omega)⟩⟩
    · rw [if_neg (fun e => q ((fr_win hT (by omega)).mp e)), lt_a, nI_1]
      refine ih (c + 1) m (by omega) (by omega) (by omega) (by omega) (fun c' a b z => ?_)
      by_cases e : c' = c
      · subst e; exact q
      · exact h3 c' a (by omega) z
theorem x_freeEnd {T n : Nat} (hT : T < 4096) (hn : n ≤ 12) (σ : Sg) {f : Nat} (hf : f ≤ 1000000) : ∃ e, f_X9_freeEnd (nI T) (nI f) (nI n) σ = some (nI e, σ) ∧ FE T f n e := by
  by_cases h : f + n ≤ 13
  · exact fe_loop hT hn σ (13 - (f + n)) f fuN (by omega) (by have := fu_le; omega) hf (Nat.le_refl _) (fun c' a b => absurd b (by omega))
  · exact fe_loop hT hn σ 0 f fuN (by omega) (by have := fu_le; omega) hf (Nat.le_refl _) (fun c' a b => absurd b (by omega))
/-! the longest run -/
def LR (T L : Nat) : Prop := L ≤ 12 ∧ (∀ n c, L < n → c + n ≤ 12 → ¬ Fr T c n) ∧ (0 < L → ∃ c, c + L ≤ 12 ∧ Fr T c L)
theorem lf_loop {T : Nat} (hT : T < 4096) (σ : Sg) : ∀ (n m : Nat), n ≤ 12 → n < m → (∀ k c, n < k → c + k ≤ 12 → ¬ Fr T c k) → ∃ L, f_X9_longestFree_3 m (nI T) (nI n) σ = some (nI L, σ) ∧ LR T L := by
  intro n
  induction n with
  | zero =>
    intro m hn hm h
    obtain ⟨m, rfl⟩ : ∃ j, m = j + 1 := ⟨m - 1, by omega⟩
    refine ⟨0, ?_, by omega, h, fun q => absurd q (by omega)⟩
    rw [f_X9_longestFree_3]
    unfold f_X9_longestFree_3_b
    rw [if_pos (by decide)]
    rfl
  | succ n ih =>
    intro m hn hm h
    obtain ⟨m, rfl⟩ : ∃ j, m = j + 1 := ⟨m - 1, by omega⟩
    obtain ⟨e, e1, e2⟩ := x_freeEnd hT hn σ (f := 0) (by omega)
    rw [nI_0] at e1
    rw [f_X9_longestFree_3]
    unfold f_X9_longestFree_3_b
    rw [if_neg (by rw [i_le, i_nI (by omega), ti_0]; omega), e1, bnd_s]
    rcases e2 with ⟨q1, q2⟩ | ⟨c, q1, q2, q3, q4, q5⟩
    · have es : nI (n + 1) + (-1 : Int32) = nI n := by
        have tm : (-1 : Int32).toInt = -1 := rfl
        have en : (nI (n + 1)).toInt = ((n + 1 : Nat) : Int) := i_nI (by omega)
        rw [i_eq, i_add (by rw [en, tm]; omega) (by rw [en, tm]; omega), en, tm, i_nI (by omega)]; omega
      rw [if_pos (by rw [q1]; rfl), lt_a, es]
      refine ih m (by omega) (by omega) (fun k c hk hc => ?_)
      by_cases z : k = n + 1
      · subst z; exact q2 c (by omega) hc
      · exact h k c (by omega) hc
    · have ne : ¬ nI e = (1000000 : Int32) := by
        rw [i_eq, i_nI (by omega)]; show ¬ _ = (1000000 : Int); omega
      rw [if_neg ne]
      exact ⟨n + 1, rfl, hn, h, fun _ => ⟨c, q3, q4⟩⟩
theorem x_longest {T : Nat} (hT : T < 4096) (σ : Sg) : ∃ L, f_X9_longestFree (nI T) σ = some (nI L, σ) ∧ LR T L := lf_loop hT σ 12 fuN (by omega) (by have := fu_le; omega) (fun k c hk hc => absurd hc (by omega))
/-- what the reference knows behind c columns -/
def RI (T c best now : Nat) (first : Int32) : Prop := (now ≤ c ∧ Fr T (c - now) now ∧ ∀ k, k ≤ c → Fr T (c - k) k → k ≤ now) ∧ (best ≤ c ∧ (∀ f k, f + k ≤ c → Fr T f k → k ≤ best) ∧ ((best = 0 ∧ first = -1) ∨ (0 < best ∧ ∃ f, first = nI f ∧ f + best ≤ c ∧ Fr T f best ∧ ∀ f', f' < f → ¬ Fr T f' best)))
theorem ri_taken {T c best now : Nat} {first : Int32} (h : RI T c best now first) (hb : T.testBit c = true) : RI T (c + 1) best 0 first := by
  obtain ⟨⟨h1, h2, h3⟩, h4, h5, h6⟩ := h
  refine ⟨⟨by omega, fun l a b => absurd b (by omega), fun k hk hf => ?_⟩, by omega, fun f k hk hf => ?_, ?_⟩
  · by_cases k0 : k = 0
    · omega
    · have := hf c (by omega) (by omega); rw [hb] at this; cases this
  · by_cases k0 : k = 0
    · omega
    · by_cases e : f + k = c + 1
      · have := hf c (by omega) (by omega); rw [hb] at this; cases this
      · exact h5 f k (by omega) hf
  · rcases h6 with q | ⟨q, f, f1, f2, f3, f4⟩
    · exact Or.inl q
    · exact Or.inr ⟨q, f, f1, by omega, f3, f4⟩
theorem ri_free {T c best now : Nat} {first : Int32} (h : RI T c best now first) (hb : T.testBit c = false) : (now + 1 ≤ best → RI T (c + 1) best (now + 1) first) ∧ (best < now + 1 → RI T (c + 1) (now + 1) (now + 1) (nI (c + 1 - (now + 1)))) := by
  obtain ⟨⟨h1, h2, h3⟩, h4, h5, h6⟩ := h
  have r1 : Fr T (c + 1 - (now + 1)) (now + 1) := by
    intro l a b
    by_cases e : l = c
    · subst e; exact hb
    · exact h2 l (by omega) (by omega)
  have r2 : ∀ k, k ≤ c + 1 → Fr T (c + 1 - k) k → k ≤ now + 1 := by
    intro k hk hf
    by_cases k0 : k = 0
    · omega
    · have := h3 (k - 1) (by omega) (fun l a b => hf l (by omega) (by omega))
      omega
  have r3 : ∀ f k, f + k ≤ c + 1 → Fr T f k → k ≤ best ∨ k ≤ now + 1 := by
    intro f k hk hf
    by_cases e : f + k = c + 1
    · right; exact r2 k (by omega) (by rw [show c + 1 - k = f by omega]; exact hf)
    · left; exact h5 f k (by omega) hf
  constructor
  · intro le
    refine ⟨⟨by omega, r1, r2⟩, by omega, fun f k hk hf => by have := r3 f k hk hf; omega, ?_⟩
    rcases h6 with q | ⟨q, f, f1, f2, f3, f4⟩
    · exact Or.inl q
    · exact Or.inr ⟨q, f, f1, by omega, f3, f4⟩
  · intro lt
    refine ⟨⟨by omega, r1, r2⟩, by omega, fun f k hk hf => by have := r3 f k hk hf; omega, Or.inr ⟨by omega, c + 1 - (now + 1), rfl, by omega, r1, fun f' hf' hfr => ?_⟩⟩
    have := h5 f' (now + 1) (by omega) hfr
    omega
theorem run_loop {T : Nat} (hT : T < 4096) (w : Int32) (τ : Sg) : ∀ (d c m best now : Nat) (first : Int32), c + d = 12 → d < m → RI T c best now first → ∃ best' now' first', f_X10_runOf_11 m (nI T) w (nI best) first (nI now) (nI c) τ = some (if w = 2 then nI best' else first', τ) ∧ RI T 12 best' now' first' := by
  intro d
  induction d with
  | zero =>
    intro c m best now first hc hm h
    obtain ⟨m, rfl⟩ : ∃ j, m = j + 1 := ⟨m - 1, by omega⟩
    obtain rfl : c = 12 := by omega
    refine ⟨best, now, first, ?_, h⟩
    rw [f_X10_runOf_11]
    unfold f_X10_runOf_11_b
    rw [if_pos (by decide)]
    by_cases hw : w = 2
    · rw [if_pos hw, if_pos hw]
    · rw [if_neg hw, if_neg hw]
  | succ d ih =>
    intro c m best now first hc hm h
    obtain ⟨m, rfl⟩ : ∃ j, m = j + 1 := ⟨m - 1, by omega⟩
    have n0 := h.1.1
    have b0 := h.2.1
    have ec : (nI c).toInt = (c : Int) := i_nI (by omega)
    have e1 : (nI (c + 1)).toInt = ((c + 1 : Nat) : Int) := i_nI (by omega)
    rw [f_X10_runOf_11]
    unfold f_X10_runOf_11_b
    rw [if_neg (by rw [i_le, ec, ti_12]; omega), shr_1 (by omega), if11, bt_nI (by omega)]
    unfold f_X10_runOf_36
    by_cases hb : T.testBit c = true
    · have z0 : (0 : Int32) ≤ nI best := by rw [i_le, i_nI (by omega), ti_0]; omega
      rw [if_pos hb, if_pos z0, if_pos z0, lt_a, nI_1]
      have := ih (c + 1) m best 0 first (by omega) (by omega) (ri_taken h hb)
      rwa [nI_0] at this
    · rw [if_neg hb]
      have hb' : T.testBit c = false := by cases q : T.testBit c; rfl; exact absurd q hb
      obtain ⟨r1, r2⟩ := ri_free h hb'
      rw [nI_1, nI_1]
      by_cases le : now + 1 ≤ best
      · have z0 : nI (now + 1) ≤ nI best := nI_le le (by omega)
        rw [if_pos z0, if_pos z0, lt_a]
        exact ih (c + 1) m best (now + 1) first (by omega) (by omega) (r1 le)
      · have z0 : ¬ nI (now + 1) ≤ nI best := nI_ge (by omega) (by omega)
        have en : (nI (now + 1)).toInt = ((now + 1 : Nat) : Int) := i_nI (by omega)
        have es : nI (c + 1) - nI (now + 1) = nI (c + 1 - (now + 1)) := by
          rw [i_eq, i_sub (by rw [e1, en]; omega) (by rw [e1, en]; omega), e1, en, i_nI (by omega)]; omega
        rw [if_neg z0, lt_a, if_neg z0, lt_a, es]
        exact ih (c + 1) m (now + 1) (now + 1) _ (by omega) (by omega) (r2 (by omega))
theorem m_runOf {T : Nat} (hT : T < 4096) (w : Int32) (τ : Sg) : ∃ best now first, f_X10_runOf (nI T) w τ = some (if w = 2 then nI best else first, τ) ∧ RI T 12 best now first := by
  have := run_loop hT w τ 12 0 fuN 0 0 (-1) (by omega) (by have := fu_le; omega) ⟨⟨by omega, fun l a b => absurd b (by omega), fun k hk _ => hk⟩, by omega, fun f k hk _ => by omega, Or.inl ⟨rfl, rfl⟩⟩
  rw [nI_0] at this
  exact this
theorem eq_free {σ τ : Sg} (h : Sim σ τ) (a : Int32) : Ok (f_X9_free a σ) (f_X10_free a τ) := by
  obtain ⟨n, hv⟩ := h.vw
  obtain ⟨T, t1, t2, t3⟩ := taken_eq hv
  unfold f_X9_free f_X10_free
  simp only [m_in, x_err1, m_err1, x_err2, m_err2, bnd_s, if01]
  rw [t2, bnd_s]
  by_cases c1 : 0 ≤ a ∧ a ≤ 3
  · rw [if_pos c1, t3, bnd_s]
    simp only [i_le, ti_0, ti_3] at c1
    obtain ⟨k, hk, rfl⟩ := nI_ofi (a := a) (n := 4) c1.1 (by omega)
    have c : k = 0 ∨ k = 1 ∨ k = 2 ∨ k = 3 := by omega
    rcases c with rfl | rfl | rfl | rfl
    · rw [if_pos (by decide), if_neg (by decide), if_pos (by decide)]; exact Ok.mk h
    · rw [if_neg (by decide), if_pos (by decide), if_neg (by decide), if_neg (by decide), x_bits t1, m_bits t1, bnd_s, bnd_s]
      exact Ok.mk h
    · obtain ⟨L, l1, l2, l3, l4⟩ := x_longest t1 σ
      obtain ⟨best, now, first, r1, r2, r3, r4, r5⟩ := m_runOf t1 (nI 2) τ
      rw [if_pos (show nI 2 = (2 : Int32) from rfl)] at r1
      have e : best = L := by
        by_cases q : L < best
        · rcases r5 with ⟨z, _⟩ | ⟨z, f, f1, f2, f3, f4⟩
          · omega
          · exact absurd f3 (l3 best f q f2)
        · by_cases q2 : best < L
          · obtain ⟨c, z1, z2⟩ := l4 (by omega)
            have := r4 c L z1 z2
            omega
          · omega
      have ee : (nI L).toInt = (L : Int) := i_nI (by omega)
      rw [if_neg (by decide), if_neg (by decide), if_pos (by decide), if_pos (by decide), l1, r1, bnd_s, bnd_s, e, if_pos (show (0 : Int32) ≤ nI L by rw [i_le, ee, ti_0]; omega)]
      exact Ok.mk h
    · obtain ⟨L, l1, l2, l3, l4⟩ := x_longest t1 σ
      obtain ⟨best, now, first, r1, r2, r3, r4, r5⟩ := m_runOf t1 (nI 3) τ
      rw [if_neg (show ¬ nI 3 = (2 : Int32) by decide)] at r1
      have e : best = L := by
        by_cases q : L < best
        · rcases r5 with ⟨z, _⟩ | ⟨z, f, f1, f2, f3, f4⟩
          · omega
          · exact absurd f3 (l3 best f q f2)
        · by_cases q2 : best < L
          · obtain ⟨c, z1, z2⟩ := l4 (by omega)
            have := r4 c L z1 z2
            omega
          · omega
      subst e
      have ee : (nI best).toInt = (best : Int) := i_nI (by omega)
      rw [if_neg (by decide), if_neg (by decide), if_neg (by decide), if_pos (by decide), if_pos (by decide), l1, r1, bnd_s, bnd_s]
      rcases r5 with ⟨z1, z2⟩ | ⟨z, f, f1, f2, f3, f4⟩
      · rw [z1, z2, if_pos nI_0, if_neg (by decide)]
        exact Ok.err h 2 (by decide)
      · obtain ⟨e, e1, e2⟩ := x_freeEnd t1 l2 σ (f := 0) (by omega)
        rw [nI_0] at e1
        have ef : (nI f).toInt = (f : Int) := i_nI (by omega)
        rw [if_neg (show ¬ nI best = 0 by rw [i_eq, ee, ti_0]; omega), e1, bnd_s, f1, if_pos (show (0 : Int32) ≤ nI f by rw [i_le, ef, ti_0]; omega)]
        rcases e2 with ⟨q1, q2⟩ | ⟨c, q1, q2, q3, q4, q5⟩
        · exact absurd f3 (q2 f (by omega) f2)
        · have cf : c = f := by
            by_cases a1 : c < f
            · exact absurd q4 (f4 c a1)
            · by_cases a2 : f < c
              · exact absurd f3 (q5 f (by omega) a2)
              · omega
          have es : nI e - nI best = nI f := by
            have e3 : (nI e).toInt = (e : Int) := i_nI (by omega)
            rw [i_eq, i_sub (by rw [e3, ee]; omega) (by rw [e3, ee]; omega), e3, ee, ef]; omega
          rw [es]
          exact Ok.mk h
  · rw [if_neg c1]
    have ne : ∀ jI : Int32, 0 ≤ jI.toInt → jI.toInt ≤ 3 → ¬ a = jI := fun jI p q e => c1 (by subst e; rw [i_le, i_le, ti_0, ti_3]; exact ⟨p, q⟩)
    rw [if_neg (ne 0 (by decide) (by decide)), if_neg (ne 1 (by decide) (by decide)), if_neg (ne 2 (by decide) (by decide)), if_neg (ne 3 (by decide) (by decide))]
    exact Ok.err h 1 (by decide)
end
section
def sR (m : Nat) (h : Nat → Nat) : Nat → Nat
  | 0 => 0
  | r + 1 => sR m h r + h (m - (r + 1))
def sF (h : Nat → Nat) : Nat → Nat
  | 0 => 0
  | k + 1 => sF h k + h k
theorem sF_sR (m : Nat) (h : Nat → Nat) : ∀ r, r ≤ m → sF h (m - r) + sR m h r = sF h m := by
  intro r
  induction r with
  | zero => intro _; rfl
  | succ r ih =>
    intro hr
    have q := ih (by omega)
    rw [show m - r = (m - (r + 1)) + 1 by omega, sF] at q
    rw [sR]
    omega
theorem sR_all (m : Nat) (h : Nat → Nat) : sR m h m = sF h m := by
  have := sF_sR m h m (Nat.le_refl m)
  rw [Nat.sub_self, sF] at this
  omega
theorem sR_congr {m : Nat} {h h' : Nat → Nat} : ∀ r, r ≤ m → (∀ i, m - r ≤ i → i < m → h i = h' i) → sR m h r = sR m h' r := by
  intro r
  induction r with
  | zero => intro _ _; rfl
  | succ r ih =>
    intro hr hh
    rw [sR, sR, ih (by omega) (fun i a b => hh i (by omega) b), hh (m - (r + 1)) (by omega) (by omega)]
theorem sF_congr {h h' : Nat → Nat} : ∀ k, (∀ i, i < k → h i = h' i) → sF h k = sF h' k := by
  intro k
  induction k with
  | zero => intro _; rfl
  | succ k ih => intro hh; rw [sF, sF, ih (fun i hi => hh i (by omega)), hh k (by omega)]
theorem sF_upd {h h' : Nat → Nat} {j : Nat} (hh : ∀ i, i ≠ j → h' i = h i) : ∀ k, j < k → sF h' k + h j = sF h k + h' j := by
  intro k
  induction k with
  | zero => intro hj; omega
  | succ k ih =>
    intro hj
    rw [sF, sF]
    by_cases e : j = k
    · subst e
      rw [sF_congr (h := h') (h' := h) j (fun i hi => hh i (by omega))]
      omega
    · have := ih (by omega)
      rw [hh k (Ne.symm e)]
      omega
theorem sF_le {h : Nat → Nat} {j : Nat} : ∀ k, j < k → h j ≤ sF h k := by
  intro k
  induction k with
  | zero => intro hj; omega
  | succ k ih =>
    intro hj
    rw [sF]
    by_cases e : j = k
    · subst e; omega
    · have := ih (by omega); omega
/-! the reference tries all -/
def sub1 (R : Nat → Nat) (c n : Nat) : Nat → Nat := fun j => if j = c then R c - n else R j
def bstN (rec : (Nat → Nat) → Nat) (n : Nat) (R : Nat → Nat) : Nat → Nat
  | 0 => rec R
  | c + 1 => if n ≤ R c then (if 1 + rec (sub1 R c n) ≤ bstN rec n R c then bstN rec n R c else 1 + rec (sub1 R c n)) else bstN rec n R c
def PB (m : Nat) (ws : Nat → Nat) : Nat → (Nat → Nat) → Nat
  | 0 => fun _ => 0
  | r + 1 => fun R => bstN (PB m ws r) (ws (m - (r + 1))) R 12
theorem PB_s (m : Nat) (ws : Nat → Nat) (r : Nat) (R : Nat → Nat) : PB m ws (r + 1) R = bstN (PB m ws r) (ws (m - (r + 1))) R 12 := rfl
theorem bst_le {rec : (Nat → Nat) → Nat} {n r : Nat} (h : ∀ R, rec R ≤ r) (R : Nat → Nat) : ∀ c, bstN rec n R c ≤ r + 1 := by
  intro c
  induction c with
  | zero => have := h R; rw [bstN]; omega
  | succ c ih =>
    have := h (sub1 R c n)
    rw [bstN]
    repeat' split
    all_goals omega
theorem PB_le {m : Nat} {ws : Nat → Nat} : ∀ r R, PB m ws r R ≤ r := by
  intro r
  induction r with
  | zero => intro R; exact Nat.le_refl _
  | succ r ih => intro R; exact bst_le ih R 12
theorem bst_up {rec : (Nat → Nat) → Nat} {n : Nat} {R : Nat → Nat} : ∀ c, rec R ≤ bstN rec n R c ∧ ∀ j, j < c → n ≤ R j → 1 + rec (sub1 R j n) ≤ bstN rec n R c := by
  intro c
  induction c with
  | zero => exact ⟨Nat.le_refl _, fun j hj => absurd hj (by omega)⟩
  | succ c ih =>
    obtain ⟨i1, i2⟩ := ih
    rw [bstN]
    refine ⟨by repeat' split
               all_goals omega, fun j hj hn => ?_⟩
    by_cases e : j = c
    · subst e
      rw [if_pos hn]
      split <;> omega
    · have := i2 j (by omega) hn
      repeat' split
      all_goals omega
theorem bst_is {rec : (Nat → Nat) → Nat} {n : Nat} {R : Nat → Nat} : ∀ c, bstN rec n R c = rec R ∨ ∃ j, j < c ∧ n ≤ R j ∧ bstN rec n R c = 1 + rec (sub1 R j n) := by
  intro c
  induction c with
  | zero => exact Or.inl rfl
  | succ c ih =>
    have old : (bstN rec n R c = rec R ∨ ∃ j, j < c + 1 ∧ n ≤ R j ∧ bstN rec n R c = 1 + rec (sub1 R j n)) := by
      rcases ih with q | ⟨j, a, b, d⟩
      · exact Or.inl q
      · exact Or.inr ⟨j, by omega, b, d⟩
    rw [bstN]
    by_cases q : n ≤ R c
    · rw [if_pos q]
      by_cases q2 : 1 + rec (sub1 R c n) ≤ bstN rec n R c
      · rw [if_pos q2]; exact old
      · rw [if_neg q2]; exact Or.inr ⟨c, by omega, q, rfl⟩
    · rw [if_neg q]; exact old
def ldF (ws g : Nat → Nat) (c i : Nat) : Nat := if g i = c then ws i else 0
def cnF (g : Nat → Nat) (i : Nat) : Nat := if g i < 12 then 1 else 0
theorem PB_ge {m : Nat} {ws : Nat → Nat} (g : Nat → Nat) : ∀ r R, r ≤ m → (∀ c, c < 12 → sR m (ldF ws g c) r ≤ R c) → sR m (cnF g) r ≤ PB m ws r R := by
  intro r
  induction r with
  | zero => intro R _ _; exact Nat.le_refl _
  | succ r ih =>
    intro R hr h
    obtain ⟨u1, u2⟩ := bst_up (rec := PB m ws r) (n := ws (m - (r + 1))) (R := R) 12
    rw [sR, PB_s]
    by_cases q : g (m - (r + 1)) < 12
    · have hc := h _ q
      rw [sR] at hc
      have e1 : ldF ws g (g (m - (r + 1))) (m - (r + 1)) = ws (m - (r + 1)) := by unfold ldF; rw [if_pos rfl]
      have e2 : cnF g (m - (r + 1)) = 1 := by unfold cnF; rw [if_pos q]
      rw [e1] at hc
      have := u2 _ q (by omega)
      have ihh := ih (sub1 R (g (m - (r + 1))) (ws (m - (r + 1)))) (by omega) (fun c hc2 => by
        have h2 := h c hc2
        rw [sR] at h2
        unfold sub1
        by_cases e : c = g (m - (r + 1))
        · rw [if_pos e]; subst e; omega
        · rw [if_neg e]; omega)
      omega
    · have e2 : cnF g (m - (r + 1)) = 0 := by unfold cnF; rw [if_neg q]
      have ihh := ih R (by omega) (fun c hc2 => by have h2 := h c hc2; rw [sR] at h2; omega)
      omega
theorem PB_is {m : Nat} {ws : Nat → Nat} : ∀ r R, r ≤ m → ∃ g : Nat → Nat, (∀ c, c < 12 → sR m (ldF ws g c) r ≤ R c) ∧ sR m (cnF g) r = PB m ws r R := by
  intro r
  induction r with
  | zero => intro R _; exact ⟨fun _ => 12, fun c _ => Nat.zero_le _, rfl⟩
  | succ r ih =>
    intro R hr
    have set : ∀ (g : Nat → Nat) (v : Nat), ∃ g' : Nat → Nat, g' (m - (r + 1)) = v ∧ (∀ c, sR m (ldF ws g' c) r = sR m (ldF ws g c) r) ∧ sR m (cnF g') r = sR m (cnF g) r := by
      intro g v
      refine ⟨fun i => if i = m - (r + 1) then v else g i, if_pos rfl, fun c => ?_, ?_⟩
      · refine sR_congr r (by omega) (fun i a b => ?_)
        unfold ldF
        simp only [if_neg (show ¬ i = m - (r + 1) by omega)]
      · refine sR_congr r (by omega) (fun i a b => ?_)
        unfold cnF
        simp only [if_neg (show ¬ i = m - (r + 1) by omega)]
    rw [PB_s]
    rcases bst_is (rec := PB m ws r) (n := ws (m - (r + 1))) (R := R) 12 with q | ⟨j, j1, j2, j3⟩
    · obtain ⟨g, g1, g2⟩ := ih R (by omega)
      obtain ⟨g', s1, s2, s3⟩ := set g 12
      refine ⟨g', fun c hc => ?_, ?_⟩
      · rw [sR, s2 c]
        have e : ldF ws g' c (m - (r + 1)) = 0 := by unfold ldF; rw [s1, if_neg (by omega)]
        have := g1 c hc
        omega
      · rw [sR, s3, q, g2]
        have e : cnF g' (m - (r + 1)) = 0 := by unfold cnF; rw [s1, if_neg (by omega)]
        omega
    · obtain ⟨g, g1, g2⟩ := ih (sub1 R j (ws (m - (r + 1)))) (by omega)
      obtain ⟨g', s1, s2, s3⟩ := set g j
      refine ⟨g', fun c hc => ?_, ?_⟩
      · rw [sR, s2 c]
        have h2 := g1 c hc
        unfold sub1 at h2
        unfold ldF at h2 ⊢
        rw [s1]
        by_cases e : c = j
        · subst e; rw [if_pos rfl] at h2 ⊢; omega
        · rw [if_neg e] at h2; rw [if_neg (fun z => e z.symm)]; omega
      · rw [sR, s3, j3, g2]
        have e : cnF g' (m - (r + 1)) = 1 := by unfold cnF; rw [s1, if_pos j1]
        omega
/-! the reference's machine does that -/
def GdR (u m : Nat) (ws : Nat → Nat) (σ : Sg) (R : Nat → Nat) : Prop := σ 6 u = nI m ∧ (∀ k, k < m → σ 7 (24 * u + k) = nI (ws k)) ∧ ∀ c, c < 12 → σ 12 c = nI (R c) ∧ R c ≤ 12
theorem up_id {σ : Sg} {k i : Nat} {a b : Int32} (h : σ k i = b) : up (up σ k i a) k i b = σ := by
  funext k' i'
  by_cases hk : k' = k
  · subst hk
    by_cases hi : i' = i
    · subst hi; rw [up_s, h]
    · rw [up_i hi, up_i hi]
  · rw [up_k hk, up_k hk]
theorem m_pf37 {u m k n r : Nat} (hu : u < 4) (hm : m ≤ 6) (hr : r ≤ 6) (hn : n ≤ 12) {ws : Nat → Nat} {rec : (Nat → Nat) → Nat} (hrec : ∀ R, rec R ≤ r) {g : Int32 → Int32 → Sg → Option (Int32 × Sg)} (hg : ∀ σ R, GdR u m ws σ R → g (nI u) (nI (k + 1)) σ = some (nI (rec R), σ)) {σ : Sg} {R : Nat → Nat} (h : GdR u m ws σ R) : ∀ (d c q : Nat), c + d = 12 → d < q → f_X10_partsFrom_37 g q (nI u) (nI k) (nI n) (nI (bstN rec n R c)) (nI c) σ = some (nI (bstN rec n R 12), σ) := by
  intro d
  induction d with
  | zero =>
    intro c q hc hq
    obtain ⟨q, rfl⟩ : ∃ j, q = j + 1 := ⟨q - 1, by omega⟩
    obtain rfl : c = 12 := by omega
    rw [f_X10_partsFrom_37]
    unfold f_X10_partsFrom_37_b
    rw [if_pos (by decide)]
  | succ d ih =>
    intro c q hc hq
    obtain ⟨q, rfl⟩ : ∃ j, q = j + 1 := ⟨q - 1, by omega⟩
    have ec : (nI c).toInt = (c : Int) := i_nI (by omega)
    obtain ⟨h1, h2, h3⟩ := h
    obtain ⟨h4, h5⟩ := h3 c (by omega)
    have nx := ih (c + 1) q (by omega) (by omega)
    have hb := bst_le (n := n) hrec R c
    have hb2 := hrec (sub1 R c n)
    rw [f_X10_partsFrom_37]
    unfold f_X10_partsFrom_37_b
    rw [if_neg (by rw [i_le, ec, ti_12]; omega), ck_k ec (by omega), rd_k ec, h4]
    by_cases z : n ≤ R c
    · have e1 : nI (R c) - nI n = nI (R c - n) := by
        rw [i_eq, i_sub (by rw [i_nI (by omega), i_nI (by omega)]; omega) (by rw [i_nI (by omega), i_nI (by omega)]; omega), i_nI (by omega), i_nI (by omega), i_nI (by omega)]; omega
      have e2 : nI (R c - n) + nI n = nI (R c) := by rw [nI_add, show R c - n + n = R c by omega]
      have gd : GdR u m ws (up σ 12 c (nI (R c - n))) (sub1 R c n) := by
        refine ⟨by rw [up_k (by decide)]; exact h1, fun k hk => by rw [up_k (by decide)]; exact h2 k hk, fun j hj => ?_⟩
        unfold sub1
        by_cases e : j = c
        · subst e; rw [up_s, if_pos rfl]; exact ⟨rfl, by omega⟩
        · rw [up_i e, if_neg e]; exact h3 j hj
      rw [if_neg (nI_nlt z (by omega)), ck_k ec (by omega), ck_k ec (by omega), lt_a, tn_k ec, e1, nI_1, hg _ _ gd, bnd_s, lt_a, ck_k ec (by omega), ck_k ec (by omega), lt_a, rd_k ec, up_s, e2, up_id h4, nI_1]
      rw [bstN, if_pos z] at nx
      rw [show (1 : Int32) = nI 1 from rfl, nI_add]
      by_cases y : 1 + rec (sub1 R c n) ≤ bstN rec n R c
      · rw [if_pos y] at nx
        rw [if_pos (nI_le y (by omega)), lt_a]; exact nx
      · rw [if_neg y] at nx
        rw [if_neg (nI_ge (by omega) (by omega)), lt_a]; exact nx
    · rw [if_pos (nI_lt (by omega) (by omega)), lt_a, nI_1]
      rw [bstN, if_neg z] at nx
      exact nx
theorem m_pf {u m : Nat} (hu : u < 4) (hm : m ≤ 6) {ws : Nat → Nat} (hw : ∀ k, k < m → ws k ≤ 12) : ∀ (r d : Nat) (σ : Sg) (R : Nat → Nat), r ≤ m → r < d → GdR u m ws σ R → G_X10_partsFrom d (nI u) (nI (m - r)) σ = some (nI (PB m ws r R), σ) := by
  have eu : (nI u).toInt = (u : Int) := i_nI (by omega)
  intro r
  induction r with
  | zero =>
    intro d σ R hr hd h
    obtain ⟨d, rfl⟩ : ∃ j, d = j + 1 := ⟨d - 1, by omega⟩
    rw [G_X10_partsFrom]
    unfold f_X10_partsFrom_e
    rw [ck_k eu hu, rd_k eu, h.1, if_pos (by rw [Nat.sub_zero])]
    rfl
  | succ r ih =>
    intro d σ R hr hd h
    obtain ⟨d, rfl⟩ : ∃ j, d = j + 1 := ⟨d - 1, by omega⟩
    have e24 := i_sq hu (show m - (r + 1) ≤ 24 by omega)
    have hg : ∀ σ R, GdR u m ws σ R → G_X10_partsFrom d (nI u) (nI (m - (r + 1) + 1)) σ = some (nI (PB m ws r R), σ) := by
      intro σ R h
      rw [show m - (r + 1) + 1 = m - r by omega]
      exact ih d σ R (by omega) (by omega) h
    rw [G_X10_partsFrom]
    unfold f_X10_partsFrom_e
    rw [ck_k eu hu, rd_k eu, h.1, if_neg (fun e => by have := m_same_n (by omega) (by omega) e; omega), ck_k e24 (by omega), rd_k e24, lt_a, h.2.1 _ (by omega), nI_1, hg σ R h, bnd_s]
    have := m_pf37 (k := m - (r + 1)) hu hm (show r ≤ 6 by omega) (hw (m - (r + 1)) (by omega)) (PB_le (m := m) (ws := ws) r) hg h 12 0 fuN (by omega) (by have := fu_le; omega)
    rw [nI_0] at this
    exact this
end
section
/-! runs of free columns, those below e -/
def stT (T : Nat) : Nat → Nat
  | 0 => 0
  | c + 1 => if T.testBit c = true then c + 1 else stT T c
def RN (T : Nat) : Nat → Nat → Nat
  | 0, _ => 0
  | c + 1, j => if T.testBit c = true then RN T c j else if j = stT T c then RN T c j + 1 else RN T c j
theorem st_le (T : Nat) : ∀ e, stT T e ≤ e := by
  intro e
  induction e with
  | zero => exact Nat.le_refl _
  | succ e ih => rw [stT]; split <;> omega
theorem rn_far (T : Nat) : ∀ e b, e ≤ b → RN T e b = 0 := by
  intro e
  induction e with
  | zero => intro b _; rfl
  | succ e ih =>
    intro b hb
    have := st_le T e
    rw [RN, ih b (by omega), if_neg (show ¬ b = stT T e by omega)]
    split <;> rfl
theorem st_fr (T : Nat) : ∀ e, (∀ l, stT T e ≤ l → l < e → T.testBit l = false) ∧ RN T e (stT T e) = e - stT T e ∧ stT T (stT T e) = stT T e := by
  intro e
  induction e with
  | zero => exact ⟨fun l _ hl => absurd hl (by omega), rfl, rfl⟩
  | succ e ih =>
    obtain ⟨i1, i2, i3⟩ := ih
    have hle := st_le T e
    by_cases h : T.testBit e = true
    · have es : stT T (e + 1) = e + 1 := by rw [stT, if_pos h]
      rw [es]
      refine ⟨fun l a b => absurd b (by omega), ?_, es⟩
      rw [RN, if_pos h, rn_far T e _ (by omega)]
      omega
    · have es : stT T (e + 1) = stT T e := by rw [stT, if_neg h]
      have h' : T.testBit e = false := by cases q : T.testBit e; rfl; exact absurd q h
      rw [es]
      refine ⟨fun l a b => ?_, ?_, i3⟩
      · by_cases q : l = e
        · subst q; exact h'
        · exact i1 l a (by omega)
      · rw [RN, if_neg h, if_pos rfl, i2]; omega
theorem rn_pos (T : Nat) : ∀ e b, 0 < RN T e b → b + RN T e b ≤ e ∧ (∀ l, b ≤ l → l < b + RN T e b → T.testBit l = false) ∧ stT T b = b := by
  intro e
  induction e with
  | zero => intro b h; exact absurd h (Nat.lt_irrefl 0)
  | succ e ih =>
    intro b h
    rw [RN] at h ⊢
    by_cases q : T.testBit e = true
    · rw [if_pos q] at h ⊢
      obtain ⟨i1, i2, i3⟩ := ih b h
      exact ⟨by omega, i2, i3⟩
    · rw [if_neg q] at h ⊢
      by_cases z : b = stT T e
      · rw [if_pos z] at h ⊢
        obtain ⟨f1, f2, f3⟩ := st_fr T e
        have hle := st_le T e
        subst z
        rw [f2]
        refine ⟨by omega, fun l a c => ?_, f3⟩
        by_cases y : l = e
        · subst y; cases q2 : T.testBit l; rfl; exact absurd q2 q
        · exact f1 l a (by omega)
      · rw [if_neg z] at h ⊢
        obtain ⟨i1, i2, i3⟩ := ih b h
        exact ⟨by omega, i2, i3⟩
theorem rn_mono (T : Nat) {b : Nat} : ∀ {e e'}, e ≤ e' → RN T e b ≤ RN T e' b := by
  intro e e' h
  induction e' with
  | zero => rw [show e = 0 by omega]; exact Nat.le_refl _
  | succ e' ih =>
    by_cases q : e = e' + 1
    · subst q; exact Nat.le_refl _
    · have := ih (by omega)
      rw [RN]
      repeat' split
      all_goals omega
theorem st_run (T : Nat) {b : Nat} (hb : stT T b = b) : ∀ j, (∀ l, b ≤ l → l < b + j → T.testBit l = false) → stT T (b + j) = b := by
  intro j
  induction j with
  | zero => intro _; exact hb
  | succ j ih =>
    intro h
    rw [show b + (j + 1) = (b + j) + 1 by omega, stT, if_neg (by rw [h (b + j) (by omega) (by omega)]; decide)]
    exact ih (fun l a c => h l a (by omega))
theorem st_ge (T : Nat) {b : Nat} (hb : stT T b = b) : ∀ k, b ≤ k → b ≤ stT T k := by
  intro k
  induction k with
  | zero => intro h; omega
  | succ k ih =>
    intro h
    by_cases q : b = k + 1
    · rw [← q, hb]; omega
    · have := ih (by omega)
      rw [stT]
      split <;> omega
theorem rn_keep (T : Nat) {b c : Nat} (hb : stT T b = b) (hc : c < b) : ∀ e, b ≤ e → RN T e c = RN T b c := by
  intro e
  induction e with
  | zero => intro h; omega
  | succ e ih =>
    intro h
    by_cases q : b = e + 1
    · rw [q]
    · have i1 := ih (by omega)
      have i2 := st_ge T hb e (by omega)
      rw [RN, i1, if_neg (show ¬ c = stT T e by omega)]
      split <;> rfl
/-- n free columns from c on: the run in which they lie grows by n -/
theorem st_add (T : Nat) {c : Nat} : ∀ n, Fr T c n → stT T (c + n) = stT T c ∧ RN T (c + n) (stT T c) = RN T c (stT T c) + n := by
  intro n
  induction n with
  | zero => intro _; exact ⟨rfl, rfl⟩
  | succ n ih =>
    intro h
    obtain ⟨i1, i2⟩ := ih (fun l a b => h l a (by omega))
    have hb : ¬ T.testBit (c + n) = true := by rw [h (c + n) (by omega) (by omega)]; decide
    refine ⟨?_, ?_⟩
    · rw [show c + (n + 1) = (c + n) + 1 by omega, stT, if_neg hb]; exact i1
    · rw [show c + (n + 1) = (c + n) + 1 by omega, RN, if_neg hb, if_pos i1.symm, i2]; omega
/-! what the table of ends says -/
def EE (T m : Nat) (ws : Nat → Nat) (ES : Nat → Nat) (s : Nat) : Prop := (∀ i, i < m → s.testBit i = true → ∃ e, FE T (ES (s ^^^ 2 ^ i)) (ws i) e ∧ ES s ≤ e) ∧ (ES s = 1000000 ∨ ∃ i, i < m ∧ s.testBit i = true ∧ FE T (ES (s ^^^ 2 ^ i)) (ws i) (ES s))
theorem xor_b {s i : Nat} (h : s.testBit i = true) : ∀ j, (s ^^^ 2 ^ i).testBit j = if j = i then false else s.testBit j := by
  intro j
  rw [Nat.testBit_xor, Nat.testBit_two_pow]
  by_cases q : j = i
  · subst q; rw [if_pos rfl, h]; simp
  · rw [if_neg q]; simp [Ne.symm q]
theorem xor_lt : ∀ s, s < 64 → ∀ i, i < 6 → s.testBit i = true → s ^^^ 2 ^ i < s := by decide +kernel
def gSet (g : Nat → Nat) (j v : Nat) : Nat → Nat := fun i => if i = j then v else g i
theorem ld_set {ws g : Nat → Nat} {j v m : Nat} (hj : j < m) (c : Nat) : sF (ldF ws (gSet g j v) c) m + (if g j = c then ws j else 0) = sF (ldF ws g c) m + (if v = c then ws j else 0) := by
  have := sF_upd (h := ldF ws g c) (h' := ldF ws (gSet g j v) c) (j := j) (fun i hi => by unfold ldF gSet; rw [if_neg hi]) m hj
  have e1 : ldF ws (gSet g j v) c j = if v = c then ws j else 0 := by unfold ldF gSet; rw [if_pos rfl]
  have e2 : ldF ws g c j = if g j = c then ws j else 0 := rfl
  rw [e1, e2] at this
  exact this
def GB (m s : Nat) (g : Nat → Nat) : Prop := ∀ i, i < m → (s.testBit i = true ↔ g i < 12)
theorem gb_off {m s i : Nat} {g : Nat → Nat} (h : GB m s g) (hs : s.testBit i = true) : GB m (s ^^^ 2 ^ i) (gSet g i 12) := by
  intro j hj
  rw [xor_b hs j]
  unfold gSet
  by_cases q : j = i
  · rw [if_pos q, if_pos q]; constructor
    · intro e; cases e
    · intro e; omega
  · rw [if_neg q, if_neg q]; exact h j hj
theorem gb_on2 {m s i v : Nat} {g : Nat → Nat} (h : GB m (s ^^^ 2 ^ i) g) (hs : s.testBit i = true) (hv : v < 12) : GB m s (gSet g i v) := by
  intro j hj
  have := h j hj
  rw [xor_b hs j] at this
  unfold gSet
  by_cases q : j = i
  · subst q; rw [if_pos rfl]; exact ⟨fun _ => hv, fun _ => hs⟩
  · rw [if_neg q] at this ⊢; exact this
theorem zero_or {m s : Nat} (hs : s < 2 ^ m) : s = 0 ∨ ∃ i, i < m ∧ s.testBit i = true := by
  by_cases h : s = 0
  · exact Or.inl h
  · obtain ⟨i, hi⟩ := Nat.exists_testBit_of_ne_zero h
    refine Or.inr ⟨i, ?_, hi⟩
    refine Classical.byContradiction fun q => ?_
    have : s.testBit i = false := Nat.testBit_lt_two_pow (Nat.lt_of_lt_of_le hs (Nat.pow_le_pow_right (by decide) (by omega)))
    rw [this] at hi; cases hi
theorem claim1 {T m : Nat} (hm : m ≤ 6) {ws : Nat → Nat} (hw : ∀ i, i < m → 1 ≤ ws i ∧ ws i ≤ 12) {ES : Nat → Nat} (h0 : ES 0 = 0) (hE : ∀ s, 0 < s → s < 2 ^ m → EE T m ws ES s) : ∀ s, s < 2 ^ m → ∀ e, e ≤ 12 → ES s ≤ e → ∃ g, GB m s g ∧ ∀ c, c < 12 → sF (ldF ws g c) m ≤ RN T e c := by
  have p64 : 2 ^ m ≤ 64 := Nat.pow_le_pow_right (by decide) hm
  intro s
  induction s using Nat.strongRecOn with
  | _ s ih =>
    intro hs e he hES
    rcases zero_or hs with z | ⟨i0, _, _⟩
    · subst z
      have gb0 : GB m 0 (fun _ => 12) := by
        intro i _
        rw [Nat.zero_testBit]
        constructor
        · intro q; cases q
        · intro q; exact absurd q (by show ¬ 12 < 12; omega)
      refine ⟨fun _ => 12, gb0, fun c hc => ?_⟩
      have : ∀ k, sF (ldF ws (fun _ => 12) c) k = 0 := by
        intro k
        induction k with
        | zero => rfl
        | succ k ih => rw [sF, ih, Nat.zero_add]; unfold ldF; exact if_neg (show ¬ 12 = c by omega)
      rw [this]; exact Nat.zero_le _
    · have s0 : 0 < s := by
        rcases Nat.eq_zero_or_pos s with q | q
        · subst q; rename_i q2; rw [Nat.zero_testBit] at q2; cases q2
        · exact q
      obtain ⟨_, q⟩ := hE s s0 hs
      rcases q with q | ⟨i, i1, i2, i3⟩
      · omega
      · rcases i3 with ⟨a, _⟩ | ⟨c, c1, c2, c3, c4, c5⟩
        · omega
        · have lt := xor_lt s (by omega) i (by omega) i2
          obtain ⟨g, g1, g2⟩ := ih (s ^^^ 2 ^ i) lt (by omega) (ES (s ^^^ 2 ^ i)) (by omega) (Nat.le_refl _)
          have w := hw i i1
          have sl := st_le T c
          obtain ⟨a1, a2⟩ := st_add T (ws i) c4
          refine ⟨gSet g i (stT T c), gb_on2 g1 i2 (by omega), fun b hb => ?_⟩
          have l1 := ld_set (ws := ws) (g := g) (v := stT T c) i1 b
          have gi : ¬ g i < 12 := fun q => by
            have := (g1 i i1).mpr q
            rw [xor_b i2 i, if_pos rfl] at this; cases this
          rw [if_neg (show ¬ g i = b by omega)] at l1
          have l2 := g2 b hb
          have r1 := rn_mono T (b := b) c2
          have r2 := rn_mono T (b := b) (show c ≤ c + ws i by omega)
          have r3 := rn_mono T (b := b) (show c + ws i ≤ e by omega)
          by_cases y : stT T c = b
          · rw [if_pos y] at l1
            rw [y] at a2
            omega
          · rw [if_neg y] at l1
            omega
theorem max_in {m s : Nat} {g : Nat → Nat} (hg : GB m s g) : ∀ k, k ≤ m → (∃ i, i < k ∧ s.testBit i = true) → ∃ i, i < k ∧ s.testBit i = true ∧ ∀ j, j < k → s.testBit j = true → g j ≤ g i := by
  intro k
  induction k with
  | zero => rintro _ ⟨i, hi, _⟩; omega
  | succ k ih =>
    rintro hk ⟨i, hi, hb⟩
    by_cases q : ∃ i, i < k ∧ s.testBit i = true
    · obtain ⟨j, j1, j2, j3⟩ := ih (by omega) q
      by_cases y : s.testBit k = true ∧ g j < g k
      · refine ⟨k, by omega, y.1, fun x hx hxb => ?_⟩
        by_cases e : x = k
        · subst e; exact Nat.le_refl _
        · have := j3 x (by omega) hxb; omega
      · refine ⟨j, by omega, j2, fun x hx hxb => ?_⟩
        by_cases e : x = k
        · subst e
          refine Classical.byContradiction fun z => y ⟨hxb, by omega⟩
        · exact j3 x (by omega) hxb
    · have e : i = k := Classical.byContradiction fun z => q ⟨i, by omega, hb⟩
      subst e
      refine ⟨i, by omega, hb, fun x hx hxb => ?_⟩
      by_cases e : x = i
      · subst e; exact Nat.le_refl _
      · exact absurd ⟨x, by omega, hxb⟩ q
theorem claim2 {T m : Nat} (hm : m ≤ 6) {ws : Nat → Nat} (hw : ∀ i, i < m → 1 ≤ ws i ∧ ws i ≤ 12) {ES : Nat → Nat} (h0 : ES 0 = 0) (hE : ∀ s, 0 < s → s < 2 ^ m → EE T m ws ES s) : ∀ s, s < 2 ^ m → ∀ e, e ≤ 12 → ∀ g, GB m s g → (∀ c, c < 12 → sF (ldF ws g c) m ≤ RN T e c) → ES s ≤ e := by
  have p64 : 2 ^ m ≤ 64 := Nat.pow_le_pow_right (by decide) hm
  intro s
  induction s using Nat.strongRecOn with
  | _ s ih =>
    intro hs e he g hg hl
    rcases zero_or hs with z | hx
    · subst z; omega
    · obtain ⟨i, i1, i2, i3⟩ := max_in hg m (Nat.le_refl m) hx
      have s0 : 0 < s := by
        rcases Nat.eq_zero_or_pos s with q | q
        · subst q; rw [Nat.zero_testBit] at i2; cases i2
        · exact q
      have gb := (hg i i1).mp i2
      have w := hw i i1
      have lt := xor_lt s (by omega) i (by omega) i2
      have ge : ws i ≤ sF (ldF ws g (g i)) m := by
        have := sF_le (h := ldF ws g (g i)) m i1
        unfold ldF at this ⊢
        rw [if_pos rfl] at this
        exact this
      have hb := hl (g i) gb
      obtain ⟨p1, p2, p3⟩ := rn_pos T e (g i) (by omega)
      have run : RN T (g i + RN T e (g i) - ws i) (g i) = RN T e (g i) - ws i := by
        have e1 := st_run T p3 (RN T e (g i) - ws i) (fun l a b => p2 l a (by omega))
        have e2 := (st_fr T (g i + (RN T e (g i) - ws i))).2.1
        rw [e1] at e2
        rw [show g i + RN T e (g i) - ws i = g i + (RN T e (g i) - ws i) by omega, e2]
        omega
      have ihh := ih (s ^^^ 2 ^ i) lt (by omega) (g i + RN T e (g i) - ws i) (by omega) (gSet g i 12) (gb_off hg i2) (fun c hc => by
        have l1 := ld_set (ws := ws) (g := g) (v := 12) i1 c
        rw [if_neg (show ¬ 12 = c by omega)] at l1
        by_cases y : g i = c
        · subst y
          rw [if_pos rfl] at l1
          rw [run]; omega
        · rw [if_neg y] at l1
          by_cases y2 : c < g i
          · have k1 := rn_keep T p3 y2 e (by omega)
            have k2 := rn_mono T (b := c) (show g i ≤ g i + RN T e (g i) - ws i by omega)
            have := hl c hc
            omega
          · have zz : ∀ k, k ≤ m → sF (ldF ws g c) k = 0 := by
              intro k
              induction k with
              | zero => intro _; rfl
              | succ k ihk =>
                intro hk
                rw [sF, ihk (by omega)]
                unfold ldF
                by_cases gk : g k = c
                · have := i3 k (by omega) ((hg k (by omega)).mpr (by omega)); omega
                · rw [if_neg gk]
            have := zz m (Nat.le_refl m)
            omega)
      obtain ⟨x, x1, x2⟩ := (hE s s0 hs).1 i i1 i2
      rcases x1 with ⟨_, x1⟩ | ⟨c, c1, c2, c3, c4, c5⟩
      · exact absurd (fun l a b => p2 l (by omega) (by omega)) (x1 (g i + RN T e (g i) - ws i) ihh (by omega))
      · by_cases y : g i + RN T e (g i) - ws i < c
        · exact absurd (fun l a b => p2 l (by omega) (by omega)) (c5 (g i + RN T e (g i) - ws i) ihh y)
        · omega
end
section
theorem fe_b {T f n e : Nat} (h : FE T f n e) : e ≤ 1000000 := by
  rcases h with ⟨a, _⟩ | ⟨c, a, b, d, _⟩ <;> omega
theorem mn_nI {a b : Nat} (ha : a < 2147483648) (hb : b < 2147483648) : mn (nI a) (nI b) = nI (if b < a then b else a) := by
  unfold mn
  by_cases h : b < a
  · rw [if_pos h, if_pos (nI_lt h ha)]
  · rw [if_neg h, if_neg (nI_nlt (by omega) hb)]
theorem nI_xor {a b : Nat} (ha : a < 2147483648) (hb : b < 2147483648) : nI a ^^^ nI b = nI (a ^^^ b) := by
  have hab : a ^^^ b < 2147483648 := Nat.xor_lt_two_pow (n := 31) ha hb
  refine bt_ext fun l _ => ?_
  have : bt (nI a ^^^ nI b) l = ((bt (nI a) l) ^^ (bt (nI b) l)) := BitVec.getLsbD_xor
  rw [this, bt_nI ha, bt_nI hb, bt_nI hab, Nat.testBit_xor]
def Rws (u m : Nat) (ws : Nat → Nat) (σ : Sg) : Prop := σ (10 + u + 48) 1 = nI m ∧ ∀ k, k < m → σ (10 + u + 48 + 18) k = nI (ws k)
theorem least_loop {T m s u : Nat} (hu : u < 4) (hT : T < 4096) (hm : m ≤ 6) (hs : s < 2 ^ m) {ws : Nat → Nat} (hw : ∀ i, i < m → 1 ≤ ws i ∧ ws i ≤ 12) {ES : Nat → Nat} {σ : Sg} (h : Rws u m ws σ) (tab : ∀ s', s' < s → σ 9 s' = nI (ES s') ∧ ES s' ≤ 1000000) : ∀ (d i q v : Nat), i + d = m → d < q → v ≤ 1000000 → (∀ j, j < i → s.testBit j = true → ∃ e, FE T (ES (s ^^^ 2 ^ j)) (ws j) e ∧ v ≤ e) → (v = 1000000 ∨ ∃ j, j < i ∧ s.testBit j = true ∧ FE T (ES (s ^^^ 2 ^ j)) (ws j) v) → ∃ v', f_X3_leastEnd_7 q (10 + u + 48) (nI T) (nI s) (nI v) (nI i) σ = some (nI v', σ) ∧ v' ≤ 1000000 ∧ (∀ j, j < m → s.testBit j = true → ∃ e, FE T (ES (s ^^^ 2 ^ j)) (ws j) e ∧ v' ≤ e) ∧ (v' = 1000000 ∨ ∃ j, j < m ∧ s.testBit j = true ∧ FE T (ES (s ^^^ 2 ^ j)) (ws j) v') := by
  have p64 : 2 ^ m ≤ 64 := Nat.pow_le_pow_right (by decide) hm
  obtain ⟨h1, h2⟩ := h
  intro d
  induction d with
  | zero =>
    intro i q v hi hq hv a1 a2
    obtain ⟨q, rfl⟩ : ∃ j, q = j + 1 := ⟨q - 1, by omega⟩
    obtain rfl : i = m := by omega
    refine ⟨v, ?_, hv, a1, a2⟩
    rw [f_X3_leastEnd_7]
    unfold f_X3_leastEnd_7_b
    rw [h1, if_pos (nI_le (Nat.le_refl _) (by omega))]
    by_cases z : (6 : Int32) ≤ nI i
    · rw [if_pos z]
    · rw [if_neg z]
  | succ d ih =>
    intro i q v hi hq hv a1 a2
    obtain ⟨q, rfl⟩ : ∃ j, q = j + 1 := ⟨q - 1, by omega⟩
    have ei : (nI i).toInt = (i : Int) := i_nI (by omega)
    have hc : capC (10 + u + 48 + 18) = 24 := cap_sh hu
    rw [f_X3_leastEnd_7]
    unfold f_X3_leastEnd_7_b
    rw [h1, if_neg (by rw [i_le, ei, ti_6]; omega), if_neg (nI_ge (show i < m by omega) (by omega)), x_isOf (by omega), bnd_s, if01, bt_nI (by omega), shl1 i (by omega), nI_xor (by omega) (by have : 2 ^ i < 2 ^ 6 := Nat.pow_lt_pow_right (by decide) (by omega); omega)]
    by_cases hb : s.testBit i = true
    · have lt := xor_lt s (by omega) i (by omega) hb
      have ex : (nI (s ^^^ 2 ^ i)).toInt = ((s ^^^ 2 ^ i : Nat) : Int) := i_nI (by omega)
      obtain ⟨t1, t2⟩ := tab _ lt
      have w := hw i (by omega)
      obtain ⟨e, e1, e2⟩ := x_freeEnd hT w.2 σ t2
      have eb := fe_b e2
      rw [if_pos hb, ck_k ex (by omega), rd_k ex, t1, lt_a, hc, ck_k ei (by omega), rd_k ei, h2 i (by omega), e1, bnd_s, mn_nI (by omega) (by omega), lt_a, lt_a, nI_1]
      refine ih (i + 1) q _ (by omega) (by omega) (by split <;> omega) (fun j hj hjb => ?_) ?_
      · by_cases z : j = i
        · subst z; exact ⟨e, e2, by split <;> omega⟩
        · obtain ⟨e', f1, f2⟩ := a1 j (by omega) hjb
          exact ⟨e', f1, by split <;> omega⟩
      · by_cases z : e < v
        · rw [if_pos z]; exact Or.inr ⟨i, by omega, hb, e2⟩
        · rw [if_neg z]
          rcases a2 with y | ⟨j, j1, j2, j3⟩
          · exact Or.inl y
          · exact Or.inr ⟨j, by omega, j2, j3⟩
    · rw [if_neg hb, lt_a, nI_1]
      refine ih (i + 1) q v (by omega) (by omega) hv (fun j hj hjb => ?_) ?_
      · by_cases z : j = i
        · subst z; exact absurd hjb hb
        · exact a1 j (by omega) hjb
      · rcases a2 with y | ⟨j, j1, j2, j3⟩
        · exact Or.inl y
        · exact Or.inr ⟨j, by omega, j2, j3⟩
def MoI (T m : Nat) (ws : Nat → Nat) (s M : Nat) (ES : Nat → Nat) : Prop := ES 0 = 0 ∧ (∀ s', 0 < s' → s' < s → EE T m ws ES s') ∧ (∀ s', 0 < s' → s' < s → ES s' ≤ 12 → pcA s' 12 ≤ M) ∧ (M = 0 ∨ ∃ s', 0 < s' ∧ s' < s ∧ ES s' ≤ 12 ∧ pcA s' 12 = M)
theorem EE_congr {T m s : Nat} (hm : m ≤ 6) (hs : s < 64) {ws ES ES' : Nat → Nat} (h : EE T m ws ES s) (e : ∀ x, x ≤ s → ES' x = ES x) : EE T m ws ES' s := by
  obtain ⟨h1, h2⟩ := h
  refine ⟨fun i hi hb => ?_, ?_⟩
  · have lt := xor_lt s hs i (by omega) hb
    rw [e _ (by omega), e _ (Nat.le_refl _)]; exact h1 i hi hb
  · rw [e _ (Nat.le_refl _)]
    rcases h2 with q | ⟨i, i1, i2, i3⟩
    · exact Or.inl q
    · have lt := xor_lt s hs i (by omega) i2
      exact Or.inr ⟨i, i1, i2, by rw [e _ (by omega)]; exact i3⟩
theorem most_loop {T m u : Nat} (hu : u < 4) (hT : T < 4096) (hm : m ≤ 6) {ws : Nat → Nat} (hw : ∀ i, i < m → 1 ≤ ws i ∧ ws i ≤ 12) : ∀ (d s q M : Nat) (σ : Sg) (ES : Nat → Nat), s + d = 2 ^ m → d < q → 0 < s → M ≤ 12 → Rws u m ws σ → (∀ s', s' < s → σ 9 s' = nI (ES s') ∧ ES s' ≤ 1000000) → MoI T m ws s M ES → ∃ M' σ' ES', f_X3_most_25 q (10 + u + 48) (nI T) (nI (2 ^ m)) (nI M) (nI s) σ = some (nI M', σ') ∧ (∀ k, k ≠ 9 → σ' k = σ k) ∧ MoI T m ws (2 ^ m) M' ES' := by
  have p64 : 2 ^ m ≤ 64 := Nat.pow_le_pow_right (by decide) hm
  intro d
  induction d with
  | zero =>
    intro s q M σ ES hs hq s0 hM h tab inv
    obtain ⟨q, rfl⟩ : ∃ j, q = j + 1 := ⟨q - 1, by omega⟩
    obtain rfl : s = 2 ^ m := by omega
    refine ⟨M, σ, ES, ?_, fun _ _ => rfl, inv⟩
    rw [f_X3_most_25]
    unfold f_X3_most_25_b
    rw [if_pos (nI_le (Nat.le_refl _) (by omega))]
  | succ d ih =>
    intro s q M σ ES hs hq s0 hM h tab inv
    obtain ⟨q, rfl⟩ : ∃ j, q = j + 1 := ⟨q - 1, by omega⟩
    have es : (nI s).toInt = (s : Int) := i_nI (by omega)
    obtain ⟨v, v1, v2, v3, v4⟩ := least_loop hu hT hm (show s < 2 ^ m by omega) hw h tab m 0 fuN 1000000 (by omega) (by have := fu_le; omega) (by omega) (fun j hj => absurd hj (by omega)) (Or.inl rfl)
    have v1' : f_X3_leastEnd (10 + u + 48) (nI T) (nI s) σ = some (nI v, σ) := by
      rw [nI_0] at v1
      exact v1
    obtain ⟨i1, i2, i3, i4⟩ := inv
    have ev : (nI v).toInt = (v : Int) := i_nI (by omega)
    have h' : Rws u m ws (up σ 9 s (nI v)) := ⟨by rw [up_k (by omega)]; exact h.1, fun k hk => by rw [up_k (by omega)]; exact h.2 k hk⟩
    have eq : ∀ x, x ≤ s → x ≠ s → (fun x => if x = s then v else ES x) x = ES x := fun x _ hx => if_neg hx
    have tab' : ∀ s', s' < s + 1 → up σ 9 s (nI v) 9 s' = nI ((fun x => if x = s then v else ES x) s') ∧ (fun x => if x = s then v else ES x) s' ≤ 1000000 := by
      intro s' hs'
      by_cases z : s' = s
      · subst z; rw [up_s]; simp only [if_true]; exact ⟨trivial, v2⟩
      · rw [up_i z, eq s' (by omega) z]; exact tab s' (by omega)
    have EEn : ∀ s', 0 < s' → s' < s + 1 → EE T m ws (fun x => if x = s then v else ES x) s' := by
      intro s' p1 p2
      by_cases z : s' = s
      · subst z
        refine ⟨fun i hi hb => ?_, ?_⟩
        · have lt := xor_lt s' (by omega) i (by omega) hb
          obtain ⟨e, e1, e2⟩ := v3 i hi hb
          refine ⟨e, ?_, ?_⟩
          · rw [eq _ (by omega) (by omega)]; exact e1
          · show (if s' = s' then v else ES s') ≤ e
            rw [if_pos rfl]; exact e2
        · show (if s' = s' then v else ES s') = 1000000 ∨ _
          rw [if_pos rfl]
          rcases v4 with y | ⟨i, y1, y2, y3⟩
          · exact Or.inl y
          · have lt := xor_lt s' (by omega) i (by omega) y2
            refine Or.inr ⟨i, y1, y2, ?_⟩
            rw [eq _ (by omega) (by omega)]
            show FE T _ (ws i) (if s' = s' then v else ES s')
            rw [if_pos rfl]; exact y3
      · exact EE_congr hm (by omega) (i2 s' p1 (by omega)) (fun x hx => eq x (by omega) (by omega))
    have n0 : (fun x => if x = s then v else ES x) 0 = 0 := by rw [eq 0 (by omega) (by omega)]; exact i1
    have pl := pcA_le s 12
    rw [f_X3_most_25]
    unfold f_X3_most_25_b
    rw [if_neg (nI_ge (show s < 2 ^ m by omega) (by omega)), v1', bnd_s, ck_k es (by omega), tn_k es, lt_a, ck_k es (by omega), rd_k es, up_s]
    by_cases z : v ≤ 12
    · rw [if_neg (by rw [i_lt, ev, ti_12]; omega), x_bits (by omega), bnd_s]
      have emx : mx (nI M) (nI (pcA s 12)) = nI (if M < pcA s 12 then pcA s 12 else M) := by
        unfold mx
        by_cases y : M < pcA s 12
        · rw [if_pos y, if_pos (nI_lt y (by omega))]
        · rw [if_neg y, if_neg (nI_nlt (by omega) (by omega))]
      rw [emx, lt_a, lt_a, nI_1]
      obtain ⟨M', σ', ES', w1, w2, w3⟩ := ih (s + 1) q (if M < pcA s 12 then pcA s 12 else M) (up σ 9 s (nI v)) (fun x => if x = s then v else ES x) (by omega) (by omega) (by omega) (by split <;> omega) h' tab' ⟨n0, EEn, fun s' p1 p2 p3 => by
        by_cases y : s' = s
        · subst y; split <;> omega
        · rw [eq s' (by omega) y] at p3
          have := i3 s' p1 (by omega) p3
          split <;> omega, by
        by_cases y : M < pcA s 12
        · rw [if_pos y]
          exact Or.inr ⟨s, s0, by omega, by show (if s = s then v else ES s) ≤ 12; rw [if_pos rfl]; exact z, rfl⟩
        · rw [if_neg y]
          rcases i4 with x | ⟨s', x1, x2, x3, x4⟩
          · exact Or.inl x
          · exact Or.inr ⟨s', x1, by omega, by rw [eq s' (by omega) (by omega)]; exact x3, x4⟩⟩
      exact ⟨M', σ', ES', w1, fun k hk => by rw [w2 k hk, up_row hk], w3⟩
    · rw [if_pos (by rw [i_lt, ev, ti_12]; omega), lt_a, nI_1]
      obtain ⟨M', σ', ES', w1, w2, w3⟩ := ih (s + 1) q M (up σ 9 s (nI v)) (fun x => if x = s then v else ES x) (by omega) (by omega) (by omega) hM h' tab' ⟨n0, EEn, fun s' p1 p2 p3 => by
        by_cases y : s' = s
        · subst y
          have p3' : (if s' = s' then v else ES s') ≤ 12 := p3
          rw [if_pos rfl] at p3'; omega
        · rw [eq s' (by omega) y] at p3
          exact i3 s' p1 (by omega) p3, by
        rcases i4 with x | ⟨s', x1, x2, x3, x4⟩
        · exact Or.inl x
        · exact Or.inr ⟨s', x1, by omega, by rw [eq s' (by omega) (by omega)]; exact x3, x4⟩⟩
      exact ⟨M', σ', ES', w1, fun k hk => by rw [w2 k hk, up_row hk], w3⟩
/-! how many: the same -/
theorem mk_s (g : Nat → Nat) : ∀ k, ∃ s, s < 2 ^ k ∧ ∀ i, i < k → (s.testBit i = true ↔ g i < 12) := by
  intro k
  induction k with
  | zero => exact ⟨0, by decide, fun i hi => absurd hi (by omega)⟩
  | succ k ih =>
    obtain ⟨s, s1, s2⟩ := ih
    have p : 2 ^ (k + 1) = 2 * 2 ^ k := by rw [Nat.pow_succ]; omega
    by_cases h : g k < 12
    · refine ⟨s ||| 2 ^ k, Nat.or_lt_two_pow (by omega) (by omega), fun i hi => ?_⟩
      rw [Nat.testBit_or, Nat.testBit_two_pow]
      by_cases e : i = k
      · subst e; simp [h]
      · have := s2 i (by omega)
        simp [Ne.symm e, this]
    · refine ⟨s, by omega, fun i hi => ?_⟩
      by_cases e : i = k
      · subst e
        have : s.testBit i = false := Nat.testBit_lt_two_pow s1
        rw [this]; constructor
        · intro q; cases q
        · intro q; exact absurd q h
      · exact s2 i (by omega)
theorem pc_cn {m s : Nat} (hm : m ≤ 6) (hs : s < 2 ^ m) {g : Nat → Nat} (h : GB m s g) : pcA s 12 = sF (cnF g) m := by
  have low : ∀ k, k ≤ m → pcA s k = sF (cnF g) k := by
    intro k
    induction k with
    | zero => intro _; rfl
    | succ k ih =>
      intro hk
      rw [pcA, sF, ih (by omega)]
      unfold cnF
      have := h k (by omega)
      by_cases q : g k < 12
      · rw [if_pos q, if_pos (this.mpr q)]
      · rw [if_neg q, if_neg (fun e => q (this.mp e))]
  have high : ∀ j, pcA s (m + j) = pcA s m := by
    intro j
    induction j with
    | zero => rfl
    | succ j ih =>
      have : s.testBit (m + j) = false := Nat.testBit_lt_two_pow (Nat.lt_of_lt_of_le hs (Nat.pow_le_pow_right (by decide) (by omega)))
      rw [show m + (j + 1) = (m + j) + 1 by omega, pcA, ih, this, if_neg (by decide)]
      omega
  have := high (12 - m)
  rw [show m + (12 - m) = 12 by omega] at this
  rw [this, low m (Nat.le_refl m)]
theorem most_is {T m M : Nat} (hm : m ≤ 6) {ws ES : Nat → Nat} (hw : ∀ i, i < m → 1 ≤ ws i ∧ ws i ≤ 12) (h : MoI T m ws (2 ^ m) M ES) : M = PB m ws m (RN T 12) := by
  obtain ⟨h1, h2, h3, h4⟩ := h
  have le : M ≤ PB m ws m (RN T 12) := by
    rcases h4 with q | ⟨s, s1, s2, s3, s4⟩
    · omega
    · obtain ⟨g, g1, g2⟩ := claim1 hm hw h1 h2 s s2 12 (Nat.le_refl _) s3
      have := PB_ge (m := m) (ws := ws) g m (RN T 12) (Nat.le_refl m) (fun c hc => by rw [sR_all]; exact g2 c hc)
      rw [sR_all, ← pc_cn hm s2 g1, s4] at this
      exact this
  have ge : PB m ws m (RN T 12) ≤ M := by
    obtain ⟨g, g1, g2⟩ := PB_is (m := m) (ws := ws) m (RN T 12) (Nat.le_refl m)
    obtain ⟨s, s1, s2⟩ := mk_s g m
    rw [sR_all, ← pc_cn hm s1 s2] at g2
    rcases Nat.eq_zero_or_pos s with z | z
    · subst z
      have : pcA 0 12 = 0 := by decide
      omega
    · have := claim2 hm hw h1 h2 s s1 12 (Nat.le_refl _) g s2 (fun c hc => by rw [← sR_all]; exact g1 c hc)
      have := h3 s z s1 this
      omega
  omega
end
section
theorem rn_12 (T c : Nat) : RN T 12 c ≤ 12 := by
  rcases Nat.eq_zero_or_pos (RN T 12 c) with q | q
  · omega
  · have := (rn_pos T 12 c q).1; omega
theorem runs_loop {T u : Nat} (hT : T < 4096) : ∀ (d c q : Nat) (first : Int32) (τ : Sg), c + d = 12 → d < q → (∀ j, j < c → τ 12 j = nI (RN T c j)) → first = (if stT T c = c then (-1 : Int32) else nI (stT T c)) → ∃ τ', f_X10_parts_91 q (nI u) (nI T) first (nI c) τ = bnd (f_X10_partsFrom (nI u) (0 : Int32) τ') (fun r s => some (r, s)) ∧ (∀ k, k ≠ 12 → τ' k = τ k) ∧ ∀ j, j < 12 → τ' 12 j = nI (RN T 12 j) := by
  intro d
  induction d with
  | zero =>
    intro c q first τ hc hq h hf
    obtain ⟨q, rfl⟩ : ∃ j, q = j + 1 := ⟨q - 1, by omega⟩
    obtain rfl : c = 12 := by omega
    refine ⟨τ, ?_, fun _ _ => rfl, h⟩
    rw [f_X10_parts_91]
    unfold f_X10_parts_91_b
    rw [if_pos (by decide)]
  | succ d ih =>
    intro c q first τ hc hq h hf
    obtain ⟨q, rfl⟩ : ∃ j, q = j + 1 := ⟨q - 1, by omega⟩
    have ec : (nI c).toInt = (c : Int) := i_nI (by omega)
    have sl := st_le T c
    have esl : (nI (stT T c)).toInt = (stT T c : Int) := i_nI (by omega)
    rw [f_X10_parts_91]
    unfold f_X10_parts_91_b
    rw [if_neg (by rw [i_le, ec, ti_12]; omega), ck_k ec (by omega), lt_a, tn_k ec, shr_1 (by omega), if01, bt_nI (by omega)]
    by_cases hb : T.testBit c = true
    · rw [if_pos hb, if_pos rfl]
      unfold f_X10_parts_143
      rw [if_pos rfl, lt_a, nI_1]
      obtain ⟨τ', w1, w2, w3⟩ := ih (c + 1) q (-1) (up τ 12 c 0) (by omega) (by omega) (fun j hj => by
        rw [RN, if_pos hb]
        by_cases e : j = c
        · subst e; rw [up_s, rn_far T j j (Nat.le_refl _)]; rfl
        · rw [up_i e]; exact h j (by omega)) (by rw [stT, if_pos hb, if_pos rfl])
      exact ⟨τ', w1, fun k hk => by rw [w2 k hk, up_row hk], w3⟩
    · have hst : stT T (c + 1) = stT T c := by rw [stT, if_neg hb]
      have key : ∃ τ', f_X10_parts_143 (f_X10_parts_91 q) (nI u) (nI T) (nI c) (1 : Int32) (nI (stT T c)) (up τ 12 c 0) = bnd (f_X10_partsFrom (nI u) (0 : Int32) τ') (fun r s => some (r, s)) ∧ (∀ k, k ≠ 12 → τ' k = τ k) ∧ ∀ j, j < 12 → τ' 12 j = nI (RN T 12 j) := by
        have val : up τ 12 c 0 12 (stT T c) = nI (RN T c (stT T c)) := by
          by_cases e : stT T c = c
          · rw [e, up_s, rn_far T c c (Nat.le_refl _)]; rfl
          · rw [up_i e]; exact h _ (by omega)
        unfold f_X10_parts_143
        rw [if_neg (show ¬ (1 : Int32) = 0 by decide), ck_k esl (by omega), ck_k esl (by omega), rd_k esl, tn_k esl, val, lt_a, nI_1, lt_a, nI_1]
        obtain ⟨τ', w1, w2, w3⟩ := ih (c + 1) q (nI (stT T c)) (up (up τ 12 c 0) 12 (stT T c) (nI (RN T c (stT T c) + 1))) (by omega) (by omega) (fun j hj => by
          rw [RN, if_neg hb]
          by_cases e : j = stT T c
          · subst e; rw [if_pos rfl, up_s]
          · rw [if_neg e, up_i e]
            by_cases e2 : j = c
            · subst e2; rw [up_s, rn_far T j j (Nat.le_refl _)]; rfl
            · rw [up_i e2]; exact h j (by omega)) (by rw [hst, if_neg (show ¬ stT T c = c + 1 by omega)])
        exact ⟨τ', w1, fun k hk => by rw [w2 k hk, up_row hk, up_row hk], w3⟩
      rw [if_neg hb, if_neg (show ¬ (1 : Int32) = 0 by decide), hf]
      by_cases e : stT T c = c
      · rw [if_pos e, if_neg (show ¬ (0 : Int32) ≤ -1 by decide)]
        rw [e] at key
        exact key
      · rw [if_neg e, if_pos (show (0 : Int32) ≤ nI (stT T c) by rw [i_le, esl, ti_0]; omega)]
        exact key
theorem parts_core {u m : Nat} (hu : u < 4) (hm : m ≤ 6) {σ τ : Sg} (h : Sim σ τ) {ws : Nat → Nat} (hw : ∀ i, i < m → 1 ≤ ws i ∧ ws i ≤ 12) (hx : Rws u m ws σ) (s2 : τ 6 u = nI m) (s3 : ∀ k, k < m → τ 7 (24 * u + k) = nI (ws k)) : Ok (bnd (f_X0_taken σ) (fun r2 s1 => bnd (f_X3_most (10 + u + 48) r2 s1) (fun r4 s3 => some (r4, s3)))) (bnd (f_X10_takenBy (-1 : Int32) τ) (fun r8 s7 => f_X10_parts_91 fuN (nI u) r8 (-1 : Int32) (0 : Int32) s7)) := by
  obtain ⟨n, hv⟩ := h.vw
  obtain ⟨T, t1, t2, t3⟩ := taken_eq hv
  have p64 : 2 ^ m ≤ 64 := Nat.pow_le_pow_right (by decide) hm
  have p1 : 0 < 2 ^ m := Nat.two_pow_pos m
  obtain ⟨M, σ', ES, w1, w2, w3⟩ := most_loop hu t1 hm hw (2 ^ m - 1) 1 fuN 0 (up σ 9 0 0) (fun _ => 0) (by omega) (by have := fu_le; omega) (by omega) (by omega) ⟨by rw [up_k (by omega)]; exact hx.1, fun k hk => by rw [up_k (by omega)]; exact hx.2 k hk⟩ (fun s' hs' => by rw [show s' = 0 by omega, up_s]; exact ⟨rfl, by omega⟩) ⟨rfl, fun s' a b => absurd b (by omega), fun s' a b => absurd b (by omega), Or.inl rfl⟩
  have hM := most_is hm hw w3
  obtain ⟨τ', r1, r2, r3⟩ := runs_loop (u := u) t1 12 0 fuN (-1) τ (by omega) (by have := fu_le; omega) (fun j hj => absurd hj (by omega)) rfl
  rw [nI_0] at r1
  have gd : GdR u m ws τ' (RN T 12) := ⟨by rw [r2 6 (by decide)]; exact s2, fun k hk => by rw [r2 7 (by decide)]; exact s3 k hk, fun c hc => ⟨r3 c hc, rn_12 T c⟩⟩
  have pf := m_pf hu hm (fun k hk => (hw k hk).2) m 64 τ' (RN T 12) (Nat.le_refl m) (by omega) gd
  rw [Nat.sub_self, nI_0] at pf
  have pf' : f_X10_partsFrom (nI u) (0 : Int32) τ' = some (nI (PB m ws m (RN T 12)), τ') := pf
  have xm : f_X3_most (10 + u + 48) (nI T) σ = some (nI M, σ') := by
    unfold f_X3_most
    have e6 : mn (nI m) (6 : Int32) = nI m := by
      have := mn_nI (a := m) (b := 6) (by omega) (by omega)
      rw [if_neg (by omega)] at this
      exact this
    have c0 : ckb (inb (0 : Int32) 64) (lt (up σ 9 (0 : Int32).toNatClampNeg (0 : Int32)) (fun s10 => f_X3_most_25 fuN (10 + u + 48) (nI T) (nI (2 ^ m)) (0 : Int32) (1 : Int32) s10)) = some (nI M, σ') := by
      rw [ckb_t (show inb (0 : Int32) 64 = true from rfl), lt_a, tn_0]
      exact w1
    rw [hx.1, e6, shl1 m (by omega), lt_a]
    exact c0
  rw [t2, t3, bnd_s, bnd_s, xm, bnd_s, r1, pf', bnd_s, hM]
  refine Ok.mk (Sim_eq h (fun k hk => ?_) ?_)
  · by_cases e : k = 9
    · subst e; exact absurd hk (by decide)
    · rw [w2 k e, up_row e]
  · exact ⟨r2 1 (by decide), r2 2 (by decide), r2 4 (by decide), r2 5 (by decide), r2 6 (by decide), r2 7 (by decide), r2 13 (by decide), by rw [r2 0 (by decide)], by rw [r2 0 (by decide)]⟩
theorem parts_loop {u m : Nat} (hu : u < 4) (hm : m ≤ 6) {σ τ : Sg} (h : Sim σ τ) (s1 : σ (10 + u + 48) 1 = nI m) (s2 : τ 6 u = nI m) (s3 : ∀ j, j < m → τ 7 (24 * u + j) = σ (10 + u + 48 + 18) j) : ∀ (d i q q' : Nat), i + d = m → d < q → d < q' → (∀ j, j < i → 1 ≤ (σ (10 + u + 48 + 18) j).toInt ∧ (σ (10 + u + 48 + 18) j).toInt ≤ 12) → Ok (f_X9_parts_49 q (10 + u) (nI i) σ) (f_X10_parts_36 q' (nI u) (nI i) τ) := by
  have eu : (nI u).toInt = (u : Int) := i_nI (by omega)
  intro d
  induction d with
  | zero =>
    intro i q q' hi hq hq' hv
    obtain ⟨q, rfl⟩ : ∃ j, q = j + 1 := ⟨q - 1, by omega⟩
    obtain ⟨q', rfl⟩ : ∃ j, q' = j + 1 := ⟨q' - 1, by omega⟩
    obtain rfl : i = m := by omega
    rw [f_X9_parts_49, f_X10_parts_36]
    unfold f_X9_parts_49_b f_X10_parts_36_b
    rw [s1, if_pos (nI_le (Nat.le_refl _) (by omega)), ck_k eu hu, rd_k eu, s2, if_pos (nI_le (Nat.le_refl _) (by omega))]
    have cell : ∀ k, k < i → σ (10 + u + 48 + 18) k = nI (σ (10 + u + 48 + 18) k).toInt.toNat := by
      intro k hk
      obtain ⟨a, b⟩ := hv k hk
      rw [i_eq, i_nI (by omega)]; omega
    exact parts_core hu hm h (ws := fun k => (σ (10 + u + 48 + 18) k).toInt.toNat) (fun k hk => by obtain ⟨a, b⟩ := hv k hk; exact ⟨by omega, by omega⟩) ⟨s1, cell⟩ s2 (fun k hk => by rw [s3 k hk]; exact cell k hk)
  | succ d ih =>
    intro i q q' hi hq hq' hv
    obtain ⟨q, rfl⟩ : ∃ j, q = j + 1 := ⟨q - 1, by omega⟩
    obtain ⟨q', rfl⟩ : ∃ j, q' = j + 1 := ⟨q' - 1, by omega⟩
    have ei : (nI i).toInt = (i : Int) := i_nI (by omega)
    have nle := nI_ge (show i < m by omega) (show m < 2 ^ 31 by omega)
    have e24 := i_sq hu (show i ≤ 24 by omega)
    have hc : capC (10 + u + 48 + 18) = 24 := cap_sh hu
    rw [f_X9_parts_49, f_X10_parts_36]
    unfold f_X9_parts_49_b f_X10_parts_36_b
    rw [s1, if_neg nle, hc, ck_k ei (by omega), rd_k ei, ck_k eu hu, rd_k eu, s2, if_neg nle, ck_k e24 (by omega), rd_k e24, s3 i (by omega), x_isIn, m_in, bnd_s, bnd_s, if01, if01]
    by_cases z : (1 : Int32) ≤ σ (10 + u + 48 + 18) i ∧ σ (10 + u + 48 + 18) i ≤ 12
    · rw [if_pos z, if_pos z, lt_a, lt_a, nI_1]
      rw [i_le, i_le, ti_1, ti_12] at z
      refine ih (i + 1) q q' (by omega) (by omega) (by omega) (fun j hj => ?_)
      by_cases e : j = i
      · subst e; exact z
      · exact hv j (by omega)
    · rw [if_neg z, if_neg z, x_err3, m_err3, bnd_s, bnd_s]
      exact Ok.err h 3 (by decide)
theorem eq_parts {σ τ : Sg} (h : Sim σ τ) (a : Int32) : Ok (f_X9_parts a σ) (f_X10_parts a τ) := by
  unfold f_X9_parts f_X10_parts
  simp only [x_isIn, x_err1, x_err2, bnd_s, if01, x_isMissing]
  by_cases ha : 0 ≤ a ∧ a ≤ 3
  · rw [if_pos ha]
    obtain ⟨u, hu, rfl⟩ := sh_arg ha
    have eu : (nI u).toInt = (u : Int) := i_nI (by omega)
    obtain ⟨s1, s2, t, s3, s4, s5, s6⟩ := h.2.2.2.2.1 u hu
    have et : (nI t).toInt = (t : Int) := i_nI (by omega)
    rw [m_notThere_t hu, bnd_s, ck_k eu hu, tn_k eu, lt_a, s1]
    by_cases hz : σ (10 + u) 1 = 0
    · rw [if_pos hz, if_pos hz, if_neg (show ¬ (-1000000002 : Int32) = 0 by decide), m_err2, bnd_s]
      exact Ok.err h 2 (by decide)
    · have s4' : σ (10 + u + 48) 1 = nI t := by rw [show 10 + u + 48 = 58 + u by omega]; exact s4
      rw [if_neg hz, if_neg hz, if_pos rfl, ck_k eu hu, rd_k eu, s5, s4']
      by_cases ht : t ≤ 6
      · have le : nI t ≤ (6 : Int32) := by rw [i_le, et, ti_6]; omega
        rw [if_pos le, if_pos le]
        have := parts_loop hu ht h s4' s5 (fun j hj => by rw [show 10 + u + 48 + 18 = 76 + u by omega]; exact s6 j hj) t 0 fuN fuN (by omega) (by have := fu_le; omega) (by have := fu_le; omega) (fun j hj => absurd hj (by omega))
        rw [nI_0] at this
        exact this
      · have le : ¬ nI t ≤ (6 : Int32) := by rw [i_le, et, ti_6]; omega
        rw [if_neg le, if_neg le, m_err2, bnd_s]
        exact Ok.err h 2 (by decide)
  · rw [if_neg ha, m_notThere_b ha, bnd_s, if_neg (show ¬ (-1000000001 : Int32) = 0 by decide), m_err1, bnd_s]
    exact Ok.err h 1 (by decide)
end
section
/-! the reading of a text -/
def BS (σ0 τ0 : Sg) (t u : Nat) : Prop := t ≤ 60 ∧ u < 2 ∧ σ0 44 1 = nI t ∧ τ0 1 5 = nI t ∧ (∀ j, j < t → τ0 1 (82 + j) = σ0 62 j) ∧ τ0 0 16 = nI u
def FrX (σ0 σ : Sg) : Prop := ∀ k, k ≠ 3 → k ≠ 56 → k ≠ 74 → σ k = σ0 k
def FrM (τ0 τ : Sg) : Prop := (∀ k, k ≠ 0 → k ≠ 8 → k ≠ 9 → τ k = τ0 k) ∧ ∀ j, (j < 12 ∨ 15 < j) → τ 0 j = τ0 0 j
def CodP (c : Nat) (x a w : Nat → Int32) : Prop := ∀ j, j < c → Cod1 (x j) (a j) (w j) ∧ (a j = 3 → 1 ≤ dp a j) ∧ (opS (a j) → 2 ≤ dp a j)
def PR (σ0 τ0 : Sg) (t u p c o : Nat) (δ : Int) (σ τ : Sg) : Prop := FrX σ0 σ ∧ FrM τ0 τ ∧ σ 3 1 = nI 44 ∧ σ 3 2 = nI u ∧ σ 3 3 = nI p ∧ τ 0 13 = nI p ∧ p ≤ t ∧ σ 56 1 = nI c ∧ τ 0 12 = nI c ∧ c ≤ p ∧ τ 0 14 = nI o ∧ τ 0 15 = 0 ∧ CodP c (σ 74) (τ 8) (τ 9) ∧ dp (τ 8) c = δ ∧ 0 ≤ δ
def PF (σ0 τ0 : Sg) (t p : Nat) (σ τ : Sg) : Prop := FrX σ0 σ ∧ FrM τ0 τ ∧ σ 3 3 = nI p ∧ τ 0 13 = nI p ∧ p ≤ t ∧ τ 0 15 = 1 ∧ ∃ c, c ≤ 60 ∧ τ 0 12 = nI c
def Sp (σ0 τ0 : Sg) (t u o : Nat) (F : Sg → Option (Int32 × Sg)) (G : Sg → Option (Unit × Sg)) : Prop := ∀ p c δ σ τ, PR σ0 τ0 t u p c o δ σ τ → (∃ p' c' σ' τ', F σ = some (1, σ') ∧ G τ = some ((), τ') ∧ PR σ0 τ0 t u p' c' o (δ + 1) σ' τ' ∧ p < p' ∧ c' + p ≤ c + p') ∨ (∃ p' σ' τ', F σ = some (0, σ') ∧ G τ = some ((), τ') ∧ PF σ0 τ0 t p' σ' τ')
def Byt (σ0 : Sg) (t p : Nat) : Int32 := if p < t then σ0 62 p else -1
theorem pr_next {σ0 τ0 σ τ : Sg} {t u p c o : Nat} {δ : Int} (b : BS σ0 τ0 t u) (h : PR σ0 τ0 t u p c o δ σ τ) : f_X4_next σ = some (Byt σ0 t p, σ) ∧ f_X10_look τ = some (Byt σ0 t p, τ) := by
  obtain ⟨b1, b2, b3, b4, b5, b6⟩ := b
  obtain ⟨h1, h2, h3, h4, h5, h6, h7, _⟩ := h
  have ep : (nI p).toInt = (p : Int) := i_nI (by omega)
  have e44 : (nI 44).toNatClampNeg = 44 := rfl
  have s44 : σ 44 = σ0 44 := h1 44 (by decide) (by decide) (by decide)
  have s62 : σ (44 + 18) = σ0 62 := h1 62 (by decide) (by decide) (by decide)
  have r1 : τ 1 = τ0 1 := h2.1 1 (by decide) (by decide) (by decide)
  have t82 : (82 : Int32).toInt = 82 := rfl
  have e82 : ((82 : Int32) + nI p).toInt = ((82 + p : Nat) : Int) := by rw [i_add (by rw [ep, t82]; omega) (by rw [ep, t82]; omega), ep, t82]; omega
  unfold Byt
  constructor
  · unfold f_X4_next
    rw [h5, if_neg (by rw [i_lt, ep, ti_0]; omega), h3, ckb_t (show rowOk (nI 44) = true from rfl), lt_a, e44, s44, b3]
    by_cases q : p < t
    · rw [if_neg (nI_ge q (by omega)), ckb_t (show rowOk (nI 44) = true from rfl), lt_a, ck_k ep (show p < capC (44 + 18) by show p < 60; omega), rd_k ep, s62, if_pos q]
    · rw [if_pos (nI_le (by omega) (by omega)), if_neg q]
  · unfold f_X10_look
    rw [ck_5, rd_5, r1, b4, h6]
    by_cases q : p < t
    · rw [if_neg (nI_ge q (by omega)), ck_k e82 (by omega), rd_k e82, b5 p q, if_pos q]
    · rw [if_pos (nI_le (by omega) (by omega)), if_neg q]
theorem pr_adv {σ0 τ0 σ τ : Sg} {t u p c o : Nat} {δ : Int} (h : PR σ0 τ0 t u p c o δ σ τ) (hp : p < t) : PR σ0 τ0 t u (p + 1) c o δ (up σ 3 3 (σ 3 3 + 1)) (up τ 0 13 (τ 0 13 + 1)) := by
  obtain ⟨h1, h2, h3, h4, h5, h6, h7, h8, h9, h10, h11, h12, h13, h14, h15⟩ := h
  refine ⟨fun k a b d => by rw [up_row a]; exact h1 k a b d, ⟨fun k a b d => by rw [up_row a]; exact h2.1 k a b d, fun j hj => by rw [up_i (by omega)]; exact h2.2 j hj⟩, ?_, ?_, ?_, ?_, by omega, ?_, ?_, by omega, ?_, ?_, ?_, ?_, h15⟩
  · rw [up_i (by decide)]; exact h3
  · rw [up_i (by decide)]; exact h4
  · rw [up_s, h5, nI_1]
  · rw [up_s, h6, nI_1]
  · rw [up_k (by decide)]; exact h8
  · rw [up_i (by decide)]; exact h9
  · rw [up_i (by decide)]; exact h11
  · rw [up_i (by decide)]; exact h12
  · rw [up_row (by decide), up_row (by decide), up_row (by decide)]; exact h13
  · rw [up_row (by decide)]; exact h14
theorem m_step {c : Nat} (hc : c < 60) {τ : Sg} (e : τ 0 12 = nI c) (a w : Int32) : f_X10_step a w τ = some ((), up (up (up τ 8 c a) 9 c w) 0 12 (nI (c + 1))) := by
  have ec : (nI c).toInt = (c : Int) := i_nI (by omega)
  unfold f_X10_step
  rw [e, if_neg (by rw [i_le, ec, i_ofNat (by omega)]; omega), ck_k ec hc, tn_k ec, lt_a, up_k (by decide), e, ck_k ec hc, tn_k ec, lt_a, up_k (by decide), up_k (by decide), e, nI_1, lt_a]
theorem pr_code {σ0 τ0 σ τ : Sg} {t u p c o : Nat} {δ δ' : Int} (b : BS σ0 τ0 t u) (h : PR σ0 τ0 t u p c o δ σ τ) (hc : c < p) {x a w : Int32} (k1 : Cod1 x a w) (k2 : a = 3 → 1 ≤ δ) (k3 : opS a → 2 ≤ δ) (hd : δ' = if a = 1 ∨ a = 2 then δ + 1 else if a = 3 then δ else δ - 1) (d0 : 0 ≤ δ') : ∃ σ' τ', f_X6_add 56 x σ = some ((), σ') ∧ f_X10_step a w τ = some ((), τ') ∧ PR σ0 τ0 t u p (c + 1) o δ' σ' τ' := by
  have b1 := b.1
  obtain ⟨h1, h2, h3, h4, h5, h6, h7, h8, h9, h10, h11, h12, h13, h14, h15⟩ := h
  refine ⟨_, _, x_add h8 (show c < capC (56 + 18) by show c < 60; omega), m_step (by omega) h9 a w, fun k p1 p2 p3 => by rw [up_row p2, up_row p3]; exact h1 k p1 p2 p3, ⟨fun k p1 p2 p3 => by rw [up_row p1, up_row p3, up_row p2]; exact h2.1 k p1 p2 p3, fun j hj => by rw [up_i (by omega), up_k (by decide), up_k (by decide)]; exact h2.2 j hj⟩, ?_, ?_, ?_, ?_, h7, up_s, up_s, by omega, ?_, ?_, ?_, ?_, d0⟩
  · rw [up_k (by decide), up_k (by decide)]; exact h3
  · rw [up_k (by decide), up_k (by decide)]; exact h4
  · rw [up_k (by decide), up_k (by decide)]; exact h5
  · rw [up_i (by decide), up_k (by decide), up_k (by decide)]; exact h6
  · rw [up_i (by decide), up_k (by decide), up_k (by decide)]; exact h11
  · rw [up_i (by decide), up_k (by decide), up_k (by decide)]; exact h12
  · have r8 : up (up (up τ 8 c a) 9 c w) 0 12 (nI (c + 1)) 8 = upd (τ 8) c a := by rw [up_row (by decide), up_row (by decide), up_rs]
    have r9 : up (up (up τ 8 c a) 9 c w) 0 12 (nI (c + 1)) 9 = upd (τ 9) c w := by rw [up_row (by decide), up_rs, up_row (by decide)]
    have r74 : up (up σ (56 + 18) c x) 56 1 (nI (c + 1)) 74 = upd (σ 74) c x := by rw [up_row (by decide), up_rs]
    rw [r8, r9, r74]
    have dpe : ∀ j, j ≤ c → dp (upd (τ 8) c a) j = dp (τ 8) j := fun j hj => dp_congr (fun i hi => upd_n (by omega)) j hj
    intro j hj
    rw [dpe j (by omega)]
    by_cases e : j = c
    · subst e
      rw [upd_e, upd_e, upd_e, h14]
      exact ⟨k1, k2, k3⟩
    · rw [upd_n e, upd_n e, upd_n e]
      exact h13 j (by omega)
  · have r8 : up (up (up τ 8 c a) 9 c w) 0 12 (nI (c + 1)) 8 = upd (τ 8) c a := by rw [up_row (by decide), up_row (by decide), up_rs]
    have dpe : dp (upd (τ 8) c a) c = dp (τ 8) c := dp_congr (fun i hi => upd_n (by omega)) c (Nat.le_refl c)
    rw [r8, dp, upd_e, dpe, h14]
    exact hd.symm
theorem pf_step {σ0 τ0 σ τ : Sg} {t p : Nat} (h : PF σ0 τ0 t p σ τ) (a w : Int32) : ∃ τ', f_X10_step a w τ = some ((), τ') ∧ PF σ0 τ0 t p σ τ' := by
  obtain ⟨h1, h2, h3, h4, h5, h6, c, h7, h8⟩ := h
  by_cases q : c < 60
  · refine ⟨_, m_step q h8 a w, h1, ⟨fun k p1 p2 p3 => by rw [up_row p1, up_row p3, up_row p2]; exact h2.1 k p1 p2 p3, fun j hj => by rw [up_i (by omega), up_k (by decide), up_k (by decide)]; exact h2.2 j hj⟩, h3, ?_, h5, ?_, c + 1, by omega, up_s⟩
    · rw [up_i (by decide), up_k (by decide), up_k (by decide)]; exact h4
    · rw [up_i (by decide), up_k (by decide), up_k (by decide)]; exact h6
  · obtain rfl : c = 60 := by omega
    refine ⟨τ, ?_, h1, h2, h3, h4, h5, h6, 60, h7, h8⟩
    unfold f_X10_step
    rw [h8, if_pos (by decide)]
/-- both stop here -/
theorem pr_bad {σ0 τ0 σ τ : Sg} {t u p c o : Nat} {δ : Int} (b : BS σ0 τ0 t u) (h : PR σ0 τ0 t u p c o δ σ τ) : PF σ0 τ0 t p σ (up τ 0 15 1) := by
  have b1 := b.1
  obtain ⟨h1, h2, h3, h4, h5, h6, h7, h8, h9, h10, h11, h12, h13, h14, h15⟩ := h
  refine ⟨h1, ⟨fun k p1 p2 p3 => by rw [up_row p1]; exact h2.1 k p1 p2 p3, fun j hj => by rw [up_i (by omega)]; exact h2.2 j hj⟩, h5, by rw [up_i (by decide)]; exact h6, h7, up_s, c, by omega, by rw [up_i (by decide)]; exact h9⟩
theorem pr_open {σ0 τ0 σ τ : Sg} {t u p c o o' : Nat} {δ : Int} (h : PR σ0 τ0 t u p c o δ σ τ) : PR σ0 τ0 t u p c o' δ σ (up τ 0 14 (nI o')) := by
  obtain ⟨h1, h2, h3, h4, h5, h6, h7, h8, h9, h10, h11, h12, h13, h14, h15⟩ := h
  refine ⟨h1, ⟨fun k p1 p2 p3 => by rw [up_row p1]; exact h2.1 k p1 p2 p3, fun j hj => by rw [up_i (by omega)]; exact h2.2 j hj⟩, h3, h4, h5, by rw [up_i (by decide)]; exact h6, h7, h8, by rw [up_i (by decide)]; exact h9, h10, up_s, by rw [up_i (by decide)]; exact h12, ?_, ?_, h15⟩
  · rw [up_row (by decide), up_row (by decide)]; exact h13
  · rw [up_row (by decide)]; exact h14
theorem pf_open {σ0 τ0 σ τ : Sg} {t p : Nat} {v : Int32} (h : PF σ0 τ0 t p σ τ) : PF σ0 τ0 t p σ (up τ 0 14 v) := by
  obtain ⟨h1, h2, h3, h4, h5, h6, c, h7, h8⟩ := h
  exact ⟨h1, ⟨fun k p1 p2 p3 => by rw [up_row p1]; exact h2.1 k p1 p2 p3, fun j hj => by rw [up_i (by omega)]; exact h2.2 j hj⟩, h3, by rw [up_i (by decide)]; exact h4, h5, by rw [up_i (by decide)]; exact h6, c, h7, by rw [up_i (by decide)]; exact h8⟩
end
section
theorem up_same {σ : Sg} {k i : Nat} {v : Int32} (h : σ k i = v) : up σ k i v = σ := by
  funext k' i'
  by_cases hk : k' = k
  · subst hk
    by_cases hi : i' = i
    · subst hi; rw [up_s, h]
    · rw [up_i hi]
  · rw [up_k hk]
theorem x_isDigit (v : Int32) (σ : Sg) : f_X4_isDigit v σ = some (if (48 : Int32) ≤ v ∧ v ≤ 57 then 1 else 0, σ) := by
  unfold f_X4_isDigit
  simp only [i_le, i_lt]
  repeat' split
  all_goals first | rfl | (exfalso; omega)
def vb : Nat → Int
  | 0 => 1
  | k + 1 => 10 * vb k
theorem vb_le : ∀ k, k < 5 → vb k ≤ 10000 := by decide
theorem byt_lt {σ0 : Sg} {t p : Nat} (h : ¬ Byt σ0 t p = -1) : p < t := by
  unfold Byt at h
  refine Classical.byContradiction fun q => h ?_
  rw [if_neg q]
theorem num_end {σ0 τ0 σ τ : Sg} {t u p c o : Nat} {δ : Int} (b : BS σ0 τ0 t u) (h : PR σ0 τ0 t u p c o δ σ τ) (hc : c < p) {v : Int32} (hv : 0 ≤ v.toInt) : ∃ σ' τ', f_X4_readsNumber_48 v σ = some (1, σ') ∧ f_X10_number_62 v (0 : Int32) τ = some ((), τ') ∧ PR σ0 τ0 t u p (c + 1) o (δ + 1) σ' τ' := by
  have h15 := h.2.2.2.2.2.2.2.2.2.2.2.1
  have h0 := h.2.2.2.2.2.2.2.2.2.2.2.2.2.2
  obtain ⟨σ', τ', w1, w2, w3⟩ := pr_code b h hc (x := v) (a := 1) (w := v) (δ' := δ + 1) (Or.inl ⟨rfl, rfl, hv⟩) (fun e => absurd e (by decide)) (fun e => by rcases e with e | e | e | e | e | e | e | e | e | e <;> exact absurd e (by decide)) (by rw [if_pos (Or.inl rfl)]) (by omega)
  refine ⟨σ', τ', ?_, ?_, w3⟩
  · unfold f_X4_readsNumber_48
    rw [w1, bnd_s]
  · unfold f_X10_number_62
    rw [ckb_t (show isb (0 : Int32) = true from rfl), lt_a, up_same h15, w2, bnd_s]
theorem num_loop {σ0 τ0 : Sg} {t u c o : Nat} {δ : Int} (b : BS σ0 τ0 t u) : ∀ (d k p n m : Nat) (v : Int32) (σ τ : Sg), k + d = 4 → d < n → d < m → 1 ≤ k → PR σ0 τ0 t u p c o δ σ τ → 0 ≤ v.toInt → v.toInt < vb k → c < p → ∃ p' σ' τ', f_X4_readsNumber_4 n v (nI k) σ = some (1, σ') ∧ f_X10_number_4 m v (nI k) τ = some ((), τ') ∧ PR σ0 τ0 t u p' (c + 1) o (δ + 1) σ' τ' ∧ p ≤ p' := by
  intro d
  induction d with
  | zero =>
    intro k p n m v σ τ hk hn hm k1 h v0 v1 hc
    obtain ⟨n, rfl⟩ : ∃ j, n = j + 1 := ⟨n - 1, by omega⟩
    obtain ⟨m, rfl⟩ : ∃ j, m = j + 1 := ⟨m - 1, by omega⟩
    obtain rfl : k = 4 := by omega
    obtain ⟨σ', τ', w1, w2, w3⟩ := num_end b h hc v0
    refine ⟨p, σ', τ', ?_, ?_, w3, Nat.le_refl _⟩
    · rw [f_X4_readsNumber_4]
      unfold f_X4_readsNumber_4_b
      rw [if_pos (by decide), w1]
    · rw [f_X10_number_4]
      unfold f_X10_number_4_b
      rw [if_pos (by decide), if_neg (by decide), w2]
  | succ d ih =>
    intro k p n m v σ τ hk hn hm k1 h v0 v1 hc
    obtain ⟨n, rfl⟩ : ∃ j, n = j + 1 := ⟨n - 1, by omega⟩
    obtain ⟨m, rfl⟩ : ∃ j, m = j + 1 := ⟨m - 1, by omega⟩
    have ek : (nI k).toInt = (k : Int) := i_nI (by omega)
    obtain ⟨n1, n2⟩ := pr_next b h
    rw [f_X4_readsNumber_4, f_X10_number_4]
    unfold f_X4_readsNumber_4_b f_X10_number_4_b
    have n4 : ¬ (4 : Int32) ≤ nI k := by rw [i_le, ek, ti_4]; omega
    have k0 : ¬ nI k = 0 := by rw [i_eq, ek, ti_0]; omega
    rw [if_neg n4, if_neg n4, n1, n2, bnd_s, bnd_s, x_isDigit, m_in, bnd_s, bnd_s, if01, if01]
    by_cases q : (48 : Int32) ≤ Byt σ0 t p ∧ Byt σ0 t p ≤ 57
    · have t48 : (48 : Int32).toInt = 48 := rfl
      have t57 : (57 : Int32).toInt = 57 := rfl
      have t10 : (10 : Int32).toInt = 10 := rfl
      have q' := q
      rw [i_le, i_le, t48, t57] at q'
      have hp : p < t := byt_lt (fun e => by rw [e] at q'; exact absurd q'.1 (by decide))
      have vl := vb_le k (by omega)
      have e1 : ((10 : Int32) * v).toInt = 10 * v.toInt := by rw [i_mul (by rw [t10]; omega) (by rw [t10]; omega), t10]
      have e2 : ((10 : Int32) * v + Byt σ0 t p).toInt = 10 * v.toInt + (Byt σ0 t p).toInt := by rw [i_add (by rw [e1]; omega) (by rw [e1]; omega), e1]
      have e3 : ((10 : Int32) * v + Byt σ0 t p - 48).toInt = 10 * v.toInt + (Byt σ0 t p).toInt - 48 := by rw [i_sub (by rw [e2, t48]; omega) (by rw [e2, t48]; omega), e2, t48]
      rw [if_pos q, if_pos q, n1, n2, bnd_s, bnd_s, lt_a, lt_a, lt_a, lt_a, lt_a, lt_a, nI_1]
      obtain ⟨p', σ', τ', w1, w2, w3, w4⟩ := ih (k + 1) (p + 1) n m ((10 : Int32) * v + Byt σ0 t p - 48) _ _ (by omega) (by omega) (by omega) (by omega) (pr_adv h hp) (by rw [e3]; omega) (by rw [e3, vb]; omega) (by omega)
      exact ⟨p', σ', τ', w1, w2, w3, by omega⟩
    · rw [if_neg q, if_neg q, if_neg k0]
      obtain ⟨σ', τ', w1, w2, w3⟩ := num_end b h hc v0
      exact ⟨p, σ', τ', w1, w2, w3, Nat.le_refl _⟩
theorem num_first {σ0 τ0 σ τ : Sg} {t u p c o : Nat} {δ : Int} (b : BS σ0 τ0 t u) (h : PR σ0 τ0 t u p c o δ σ τ) (q : (48 : Int32) ≤ Byt σ0 t p ∧ Byt σ0 t p ≤ 57) : ∃ p' σ' τ', f_X4_readsNumber σ = some (1, σ') ∧ f_X10_number τ = some ((), τ') ∧ PR σ0 τ0 t u p' (c + 1) o (δ + 1) σ' τ' ∧ p < p' := by
  obtain ⟨m, hm⟩ : ∃ m, fuN = m + 10 := ⟨fuN - 10, by have := fu_le; omega⟩
  obtain ⟨n1, n2⟩ := pr_next b h
  have h10 := h.2.2.2.2.2.2.2.2.2.1
  have t48 : (48 : Int32).toInt = 48 := rfl
  have t57 : (57 : Int32).toInt = 57 := rfl
  have q' := q
  rw [i_le, i_le, t48, t57] at q'
  have hp : p < t := byt_lt (fun e => by rw [e] at q'; exact absurd q'.1 (by decide))
  have e0 : (10 : Int32) * 0 + Byt σ0 t p - 48 = Byt σ0 t p - 48 := by rw [show (10 : Int32) * 0 = 0 from rfl, Int32.zero_add]
  have e3 : (Byt σ0 t p - 48).toInt = (Byt σ0 t p).toInt - 48 := by rw [i_sub (by rw [t48]; omega) (by rw [t48]; omega), t48]
  obtain ⟨p', σ', τ', w1, w2, w3, w4⟩ := num_loop b 3 1 (p + 1) (m + 9) (m + 9) (Byt σ0 t p - 48) _ _ (by omega) (by omega) (by omega) (by omega) (pr_adv h hp) (by rw [e3]; omega) (by rw [e3]; show _ < (10 : Int); omega) (by omega)
  refine ⟨p', σ', τ', ?_, ?_, w3, by omega⟩
  · unfold f_X4_readsNumber
    rw [hm, f_X4_readsNumber_4]
    unfold f_X4_readsNumber_4_b
    rw [if_neg (by decide), n1, bnd_s, x_isDigit, bnd_s, if01, if_pos q, n1, bnd_s, lt_a, lt_a, lt_a, e0]
    exact w1
  · unfold f_X10_number
    rw [hm, f_X10_number_4]
    unfold f_X10_number_4_b
    rw [if_neg (by decide), n2, bnd_s, m_in, bnd_s, if01, if_pos q, n2, bnd_s, lt_a, lt_a, lt_a, e0]
    exact w2
theorem num_none {σ0 τ0 σ τ : Sg} {t u p c o : Nat} {δ : Int} (b : BS σ0 τ0 t u) (h : PR σ0 τ0 t u p c o δ σ τ) (q : ¬ ((48 : Int32) ≤ Byt σ0 t p ∧ Byt σ0 t p ≤ 57)) : ∃ τ', f_X10_number τ = some ((), τ') ∧ PF σ0 τ0 t p σ τ' := by
  obtain ⟨m, hm⟩ : ∃ m, fuN = m + 1 := ⟨fuN - 1, by have := fu_le; omega⟩
  obtain ⟨n1, n2⟩ := pr_next b h
  obtain ⟨τ', w1, w2⟩ := pf_step (pr_bad b h) 1 0
  refine ⟨τ', ?_, w2⟩
  unfold f_X10_number
  rw [hm, f_X10_number_4]
  unfold f_X10_number_4_b f_X10_number_62
  rw [if_neg (by decide), n2, bnd_s, m_in, bnd_s, if01, if_neg q, if_pos rfl, ckb_t (show isb (1 : Int32) = true from rfl), lt_a, w1, bnd_s]
/-! names -/
def nmU (u i : Nat) : Int32 := tbl lN_ (nI (3 * u + i))
theorem m_nameOf {u : Nat} (hu : u < 2) {τ : Sg} (e : τ 0 16 = nI u) (v : Int32) : f_X10_nameOf v τ = some (if v = nmU u 0 then 0 else if v = nmU u 1 then 1 else if v = nmU u 2 then 2 else -1, τ) := by
  have c : u = 0 ∨ u = 1 := by omega
  unfold f_X10_nameOf f_X10_nameOf_60 f_X10_nameOf_93
  rw [e]
  by_cases h1 : v = 98
  · subst h1; rcases c with rfl | rfl <;> rfl
  by_cases h2 : v = 100
  · subst h2; rcases c with rfl | rfl <;> rfl
  by_cases h3 : v = 102
  · subst h3; rcases c with rfl | rfl <;> rfl
  by_cases h4 : v = 109
  · subst h4; rcases c with rfl | rfl <;> rfl
  by_cases h5 : v = 112
  · subst h5; rcases c with rfl | rfl <;> rfl
  by_cases h6 : v = 119
  · subst h6; rcases c with rfl | rfl <;> rfl
  rw [if_neg h1, if_neg h2, if_neg h3, if_neg h4, if_neg h5, if_neg h6]
  rcases c with rfl | rfl
  · rw [show nmU 0 0 = 98 from rfl, show nmU 0 1 = 109 from rfl, show nmU 0 2 = 112 from rfl, if_neg h1, if_neg h4, if_neg h5]
  · rw [show nmU 1 0 = 102 from rfl, show nmU 1 1 = 100 from rfl, show nmU 1 2 = 119 from rfl, if_neg h3, if_neg h2, if_neg h6]
theorem x_names {u : Nat} (hu : u < 2) {σ : Sg} (e : σ 3 2 = nI u) (g1 : Int32 → Int32 → Sg → Option (Int32 × Sg)) (g2 g3 g4 : Int32 → Sg → Option (Int32 × Sg)) (o v : Int32) : f_X4_readsQ_19 g1 g2 g3 g4 fuN o v (0 : Int32) σ = (if v = nmU u 0 then bnd (f_X6_add 56 (-1) (up σ 3 3 (σ 3 3 + 1))) (fun _ s => some ((1 : Int32), s)) else if v = nmU u 1 then bnd (f_X6_add 56 (-2) (up σ 3 3 (σ 3 3 + 1))) (fun _ s => some ((1 : Int32), s)) else if v = nmU u 2 then bnd (f_X6_add 56 (-3) (up σ 3 3 (σ 3 3 + 1))) (fun _ s => some ((1 : Int32), s)) else if o < (5 : Int32) then if v = (33 : Int32) then bnd (g3 (o + (1 : Int32)) σ) (fun r4 s3 => ckb (isb r4) (some (r4, s3))) else if v = (40 : Int32) then bnd (g4 (o + (1 : Int32)) σ) (fun r2 s1 => if r2 = 0 then some ((0 : Int32), s1) else some ((1 : Int32), s1)) else some ((0 : Int32), σ) else some ((0 : Int32), σ)) := by
  obtain ⟨m, hm⟩ : ∃ m, fuN = m + 4 := ⟨fuN - 4, by have := fu_le; omega⟩
  have c : u = 0 ∨ u = 1 := by omega
  have s0 : ∀ n, f_X4_readsQ_19 g1 g2 g3 g4 (n + 1) o v (0 : Int32) σ = if v = nmU u 0 then bnd (f_X6_add 56 (-1) (up σ 3 3 (σ 3 3 + 1))) (fun _ s => some ((1 : Int32), s)) else f_X4_readsQ_19 g1 g2 g3 g4 n o v (1 : Int32) σ := by
    intro n
    rw [f_X4_readsQ_19]
    unfold f_X4_readsQ_19_b
    rw [if_neg (by decide), e]
    rcases c with rfl | rfl <;> rfl
  have s1 : ∀ n, f_X4_readsQ_19 g1 g2 g3 g4 (n + 1) o v (1 : Int32) σ = if v = nmU u 1 then bnd (f_X6_add 56 (-2) (up σ 3 3 (σ 3 3 + 1))) (fun _ s => some ((1 : Int32), s)) else f_X4_readsQ_19 g1 g2 g3 g4 n o v (2 : Int32) σ := by
    intro n
    rw [f_X4_readsQ_19]
    unfold f_X4_readsQ_19_b
    rw [if_neg (by decide), e]
    rcases c with rfl | rfl <;> rfl
  have s2 : ∀ n, f_X4_readsQ_19 g1 g2 g3 g4 (n + 1) o v (2 : Int32) σ = if v = nmU u 2 then bnd (f_X6_add 56 (-3) (up σ 3 3 (σ 3 3 + 1))) (fun _ s => some ((1 : Int32), s)) else f_X4_readsQ_19 g1 g2 g3 g4 n o v (3 : Int32) σ := by
    intro n
    rw [f_X4_readsQ_19]
    unfold f_X4_readsQ_19_b
    rw [if_neg (by decide), e]
    rcases c with rfl | rfl <;> rfl
  rw [hm, show m + 4 = (m + 3) + 1 by omega, s0, show m + 3 = (m + 2) + 1 by omega, s1, show m + 2 = (m + 1) + 1 by omega, s2, f_X4_readsQ_19]
  unfold f_X4_readsQ_19_b
  rw [if_pos (show (3 : Int32) ≤ 3 by decide)]
end
section
theorem nm_big {u i : Nat} (hu : u < 2) (hi : i < 3) : 98 ≤ (nmU u i).toInt ∧ (nmU u i).toInt ≤ 119 := by
  have : ∀ u, u < 2 → ∀ i, i < 3 → 98 ≤ (nmU u i).toInt ∧ (nmU u i).toInt ≤ 119 := by decide +kernel
  exact this u hu i hi
theorem m_79 (g1 g2 g3 g4 g5 g6 : Sg → Option (Unit × Sg)) (g7 : Int32 → Sg → Option (Unit × Sg)) {σ0 τ0 σ τ : Sg} {t p : Nat} (h : FrX σ0 σ ∧ FrM τ0 τ ∧ σ 3 3 = nI p ∧ τ 0 13 = nI p ∧ p ≤ t ∧ ∃ c, c ≤ 60 ∧ τ 0 12 = nI c) : ∃ τ', f_X10_opens_79 g1 g2 g3 g4 g5 g6 g7 (1 : Int32) τ = some ((), τ') ∧ PF σ0 τ0 t p σ τ' := by
  obtain ⟨h1, h2, h3, h4, h5, c, h7, h8⟩ := h
  unfold f_X10_opens_79
  rw [ckb_t (show isb (1 : Int32) = true from rfl), lt_a, up_s, if_neg (show ¬ (1 : Int32) = 0 by decide), lt_a, lt_a, Int32.add_zero]
  refine ⟨_, rfl, h1, ⟨fun k p1 p2 p3 => by rw [up_row p1, up_row p1, up_row p1]; exact h2.1 k p1 p2 p3, fun j hj => by rw [up_i (by omega), up_i (by omega), up_i (by omega)]; exact h2.2 j hj⟩, h3, ?_, h5, ?_, c, h7, ?_⟩
  · rw [up_i (by decide), up_s, up_i (by decide)]; exact h4
  · rw [up_i (by decide), up_i (by decide), up_s]
  · rw [up_i (by decide), up_i (by decide), up_i (by decide)]; exact h8
theorem pr_pf {σ0 τ0 σ τ : Sg} {t u p c o : Nat} {δ : Int} (b : BS σ0 τ0 t u) (h : PR σ0 τ0 t u p c o δ σ τ) : FrX σ0 σ ∧ FrM τ0 τ ∧ σ 3 3 = nI p ∧ τ 0 13 = nI p ∧ p ≤ t ∧ ∃ c, c ≤ 60 ∧ τ 0 12 = nI c := by
  have b1 := b.1
  obtain ⟨h1, h2, h3, h4, h5, h6, h7, h8, h9, h10, h11, h12, h13, h14, h15⟩ := h
  exact ⟨h1, h2, h5, h6, h7, c, by omega, h9⟩
theorem pf_pf {σ0 τ0 σ τ : Sg} {t p : Nat} (h : PF σ0 τ0 t p σ τ) : FrX σ0 σ ∧ FrM τ0 τ ∧ σ 3 3 = nI p ∧ τ 0 13 = nI p ∧ p ≤ t ∧ ∃ c, c ≤ 60 ∧ τ 0 12 = nI c := by
  obtain ⟨h1, h2, h3, h4, h5, h6, h7⟩ := h
  exact ⟨h1, h2, h3, h4, h5, h7⟩
theorem q_spec {σ0 τ0 : Sg} {t u o : Nat} (b : BS σ0 τ0 t u) (ho : o ≤ 5) (dX dM : Nat) (hQ : o < 5 → Sp σ0 τ0 t u (o + 1) ((G_X4_readsLevel dX).2.1 (nI (o + 1))) (G_X10_any dM).2.2.2.2.2.1) (hL : o < 5 → Sp σ0 τ0 t u (o + 1) ((G_X4_readsLevel dX).1 (0 : Int32) (nI (o + 1))) (G_X10_any dM).1) : Sp σ0 τ0 t u o ((G_X4_readsLevel (dX + 2)).2.1 (nI o)) (G_X10_any (dM + 2)).2.2.2.2.2.1 := by
  intro p c δ σ τ h
  have hX : (G_X4_readsLevel (dX + 2)).2.1 (nI o) σ = f_X4_readsQ_e (G_X4_readsLevel (dX + 1)).1 (G_X4_readsLevel (dX + 1)).2.1 (f_X4_readsNot_e (G_X4_readsLevel dX).1 (G_X4_readsLevel dX).2.1 (G_X4_readsLevel dX).2.2.1 (G_X4_readsLevel dX).2.2.2) (f_X4_readsGroup_e (G_X4_readsLevel dX).1 (G_X4_readsLevel dX).2.1 (G_X4_readsLevel dX).2.2.1 (G_X4_readsLevel dX).2.2.2) (nI o) σ := rfl
  have hM : (G_X10_any (dM + 2)).2.2.2.2.2.1 τ = f_X10_one_e (G_X10_any (dM + 1)).1 (G_X10_any (dM + 1)).2.1 (G_X10_any (dM + 1)).2.2.1 (G_X10_any (dM + 1)).2.2.2.1 (G_X10_any (dM + 1)).2.2.2.2.1 (G_X10_any (dM + 1)).2.2.2.2.2.1 (f_X10_opens_e (G_X10_any dM).1 (G_X10_any dM).2.1 (G_X10_any dM).2.2.1 (G_X10_any dM).2.2.2.1 (G_X10_any dM).2.2.2.2.1 (G_X10_any dM).2.2.2.2.2.1 (G_X10_any dM).2.2.2.2.2.2) τ := rfl
  rw [hX, hM]
  generalize (G_X4_readsLevel dX).1 = gX1 at *
  generalize (G_X4_readsLevel dX).2.1 = gX2 at *
  generalize (G_X10_any dM).1 = gM1 at *
  generalize (G_X10_any dM).2.2.2.2.2.1 = gM6 at *
  have b1 := b.1
  have hu := b.2.1
  obtain ⟨n1, n2⟩ := pr_next b h
  have e16 : τ 0 16 = nI u := by rw [h.2.1.2 16 (by omega)]; exact b.2.2.2.2.2
  have h10 := h.2.2.2.2.2.2.2.2.2.1
  have h14 := h.2.2.2.2.2.2.2.2.2.2.1
  have h15 := h.2.2.2.2.2.2.2.2.2.2.2.1
  have h0 := h.2.2.2.2.2.2.2.2.2.2.2.2.2.2
  have eo : (nI o).toInt = (o : Int) := i_nI (by omega)
  have B0 := nm_big hu (show 0 < 3 by decide)
  have B1 := nm_big hu (show 1 < 3 by decide)
  have B2 := nm_big hu (show 2 < 3 by decide)
  unfold f_X4_readsQ_e f_X10_one_e
  rw [n1, n2, bnd_s, bnd_s, x_isDigit, bnd_s, if01, m_nameOf hu e16, bnd_s]
  by_cases q : (48 : Int32) ≤ Byt σ0 t p ∧ Byt σ0 t p ≤ 57
  · have t48 : (48 : Int32).toInt = 48 := rfl
    have t57 : (57 : Int32).toInt = 57 := rfl
    have q' := q
    rw [i_le, i_le, t48, t57] at q'
    have ne : ∀ v : Int32, 58 ≤ v.toInt ∨ v.toInt ≤ 47 → ¬ Byt σ0 t p = v := fun v hv e => by rw [e] at q'; omega
    rw [if_pos q, if_neg (ne _ (Or.inl (by omega))), if_neg (ne _ (Or.inl (by omega))), if_neg (ne _ (Or.inl (by omega))), if_pos (show (-1 : Int32) < 0 by decide), if_neg (ne 33 (Or.inr (by decide))), if_neg (ne 40 (Or.inr (by decide)))]
    obtain ⟨p', σ', τ', w1, w2, w3, w4⟩ := num_first b h q
    rw [w1, w2, bnd_s, bnd_s, ckb_t (show isb (1 : Int32) = true from rfl)]
    exact Or.inl ⟨p', c + 1, σ', τ', rfl, rfl, w3, w4, by omega⟩
  · rw [if_neg q, x_names hu h.2.2.2.1]
    have nm : p < t → ∀ (x w : Int32), Cod1 x 2 w → ∃ p' c' σ' τ', bnd (f_X6_add 56 x (up σ 3 3 (σ 3 3 + 1))) (fun _ s => some ((1 : Int32), s)) = some (1, σ') ∧ lt (up τ 0 13 (τ 0 13 + 1)) (fun s11 => bnd (f_X10_step (2 : Int32) w s11) (fun _ s12 => some ((), s12))) = some ((), τ') ∧ PR σ0 τ0 t u p' c' o (δ + 1) σ' τ' ∧ p < p' ∧ c' + p ≤ c + p' := by
      intro hp x w hc
      obtain ⟨σ', τ', w1, w2, w3⟩ := pr_code b (pr_adv h hp) (by omega) (x := x) (a := 2) (w := w) (δ' := δ + 1) hc (fun e => absurd e (by decide)) (fun e => by rcases e with e | e | e | e | e | e | e | e | e | e <;> exact absurd e (by decide)) (by rw [if_pos (Or.inr rfl)]) (by omega)
      rw [w1, bnd_s, lt_a, w2, bnd_s]
      exact ⟨p + 1, c + 1, σ', τ', rfl, rfl, w3, by omega, by omega⟩
    have inn : ∀ i, i < 3 → Byt σ0 t p = nmU u i → p < t := fun i hi e => byt_lt (fun e2 => by
      have := nm_big hu hi
      rw [← e, e2] at this
      exact absurd this.1 (by decide))
    by_cases z0 : Byt σ0 t p = nmU u 0
    · rw [if_pos z0, if_pos z0, if_neg (show ¬ (0 : Int32) < 0 by decide)]
      exact Or.inl (nm (inn 0 (by decide) z0) (-1) 0 (Or.inr (Or.inl ⟨rfl, Or.inl ⟨rfl, rfl⟩⟩)))
    rw [if_neg z0, if_neg z0]
    by_cases z1 : Byt σ0 t p = nmU u 1
    · rw [if_pos z1, if_pos z1, if_neg (show ¬ (1 : Int32) < 0 by decide)]
      exact Or.inl (nm (inn 1 (by decide) z1) (-2) 1 (Or.inr (Or.inl ⟨rfl, Or.inr (Or.inl ⟨rfl, rfl⟩)⟩)))
    rw [if_neg z1, if_neg z1]
    by_cases z2 : Byt σ0 t p = nmU u 2
    · rw [if_pos z2, if_pos z2, if_neg (show ¬ (2 : Int32) < 0 by decide)]
      exact Or.inl (nm (inn 2 (by decide) z2) (-3) 2 (Or.inr (Or.inl ⟨rfl, Or.inr (Or.inr ⟨rfl, rfl⟩)⟩)))
    rw [if_neg z2, if_neg z2, if_pos (show (-1 : Int32) < 0 by decide)]
    unfold f_X10_opens_e
    rw [h14]
    by_cases ho5 : o = 5
    · subst ho5
      rw [if_neg (show ¬ nI 5 < (5 : Int32) by decide), if_pos (show nI 5 = (5 : Int32) from rfl), lt_a, bnd_s]
      by_cases y : Byt σ0 t p = 33
      · rw [if_pos y]; exact Or.inr ⟨p, σ, _, rfl, rfl, pr_bad b h⟩
      · rw [if_neg y]
        by_cases y2 : Byt σ0 t p = 40
        · rw [if_pos y2]; exact Or.inr ⟨p, σ, _, rfl, rfl, pr_bad b h⟩
        · rw [if_neg y2]
          obtain ⟨τ', w1, w2⟩ := num_none b h q
          rw [w1, bnd_s]
          exact Or.inr ⟨p, σ, τ', rfl, rfl, w2⟩
    · have lt5 : nI o < (5 : Int32) := by rw [i_lt, eo, ti_5]; omega
      have ne5 : ¬ nI o = (5 : Int32) := by rw [i_eq, eo, ti_5]; omega
      rw [if_pos lt5, if_neg ne5, lt_a, lt_a, nI_1]
      by_cases y : Byt σ0 t p = 33
      · have hp : p < t := byt_lt (fun e => by rw [e] at y; exact absurd y (by decide))
        rw [if_pos y, if_pos y, y, if_pos (show (33 : Int32) = 33 from rfl)]
        unfold f_X4_readsNot_e
        rw [lt_a]
        have pr := pr_adv (pr_open (o' := o + 1) h) hp
        rcases hQ (by omega) _ _ _ _ _ pr with ⟨p', c', σ', τ', w1, w2, w3, w4, w5⟩ | ⟨p', σ', τ', w1, w2, w3⟩
        · rw [w1, w2, bnd_s, bnd_s, if_neg (show ¬ (1 : Int32) = 0 by decide)]
          obtain ⟨σ2, τ2, v1, v2, v3⟩ := pr_code b w3 (by omega) (x := -33) (a := 3) (w := 0) (δ' := δ + 1) (Or.inr (Or.inr (Or.inl ⟨rfl, rfl⟩))) (fun _ => by omega) (fun e => by rcases e with e | e | e | e | e | e | e | e | e | e <;> exact absurd e (by decide)) (by rw [if_neg (by decide), if_pos rfl]) (by omega)
          have v14 := v3.2.2.2.2.2.2.2.2.2.2.1
          rw [v1, v2]
          simp only [bnd_s, lt_a]
          rw [v14, nI_pred, ckb_t (show isb (1 : Int32) = true from rfl)]
          exact Or.inl ⟨p', c' + 1, σ2, _, rfl, rfl, pr_open v3, by omega, by omega⟩
        · rw [w1, w2, bnd_s, bnd_s, if_pos rfl]
          obtain ⟨τ2, v1, v2⟩ := pf_step w3 3 0
          rw [v1]
          simp only [bnd_s, lt_a]
          rw [ckb_t (show isb (0 : Int32) = true from rfl)]
          exact Or.inr ⟨p', σ', _, rfl, rfl, pf_open v2⟩
      · rw [if_neg y, if_neg y]
        by_cases y2 : Byt σ0 t p = 40
        · have hp : p < t := byt_lt (fun e => by rw [e] at y2; exact absurd y2 (by decide))
          rw [if_pos y2, if_pos y2, y2, if_neg (show ¬ (40 : Int32) = 33 by decide)]
          unfold f_X4_readsGroup_e
          rw [lt_a]
          have pr := pr_adv (pr_open (o' := o + 1) h) hp
          rcases hL (by omega) _ _ _ _ _ pr with ⟨p', c', σ', τ', w1, w2, w3, w4, w5⟩ | ⟨p', σ', τ', w1, w2, w3⟩
          · obtain ⟨m1, m2⟩ := pr_next b w3
            have w14 := w3.2.2.2.2.2.2.2.2.2.2.1
            have w15 := w3.2.2.2.2.2.2.2.2.2.2.2.1
            rw [w1, w2, bnd_s, bnd_s, if_neg (show ¬ (1 : Int32) = 0 by decide), m1, w15, if_pos rfl, m2, bnd_s, bnd_s]
            by_cases y3 : Byt σ0 t p' = 41
            · have hp' : p' < t := byt_lt (fun e => by rw [e] at y3; exact absurd y3 (by decide))
              have pr2 := pr_open (o' := o) (pr_adv w3 hp')
              rw [if_pos y3, if_pos y3, lt_a]
              unfold f_X10_opens_79
              rw [ckb_t (show isb (0 : Int32) = true from rfl), lt_a, up_same w15, w15, if_pos rfl, lt_a, lt_a, up_i (by decide), w14, nI_pred]
              simp only [bnd_s]
              rw [if_neg (show ¬ (1 : Int32) = 0 by decide)]
              exact Or.inl ⟨p' + 1, c', _, _, rfl, rfl, pr2, by omega, by omega⟩
            · rw [if_neg y3, if_neg y3, bnd_s, if_pos rfl]
              obtain ⟨τ2, v1, v2⟩ := m_79 gM1 (G_X10_any dM).2.1 (G_X10_any dM).2.2.1 (G_X10_any dM).2.2.2.1 (G_X10_any dM).2.2.2.2.1 gM6 (G_X10_any dM).2.2.2.2.2.2 (pr_pf b w3)
              rw [v1]
              simp only [bnd_s]
              exact Or.inr ⟨p', σ', τ2, rfl, rfl, v2⟩
          · obtain ⟨τ2, v1, v2⟩ := m_79 gM1 (G_X10_any dM).2.1 (G_X10_any dM).2.2.1 (G_X10_any dM).2.2.2.1 (G_X10_any dM).2.2.2.2.1 gM6 (G_X10_any dM).2.2.2.2.2.2 (pf_pf w3)
            have w15 := w3.2.2.2.2.2.1
            rw [w1, w2, bnd_s, bnd_s, if_pos rfl, bnd_s, if_pos rfl, w15, if_neg (show ¬ (1 : Int32) = 0 by decide), v1]
            simp only [bnd_s]
            exact Or.inr ⟨p', σ', τ2, rfl, rfl, v2⟩
        · rw [if_neg y2, if_neg y2]
          obtain ⟨τ', w1, w2⟩ := num_none b h q
          rw [w1, bnd_s]
          exact Or.inr ⟨p, σ, τ', rfl, rfl, w2⟩
end
section
def lvI (v : Int32) : Int32 := if v = 37 then 4 else if v = 38 then 1 else if v = 42 then 4 else if v = 43 then 3 else if v = 45 then 3 else if v = 47 then 4 else if v = 60 then 2 else if v = 61 then 2 else if v = 62 then 2 else if v = 124 then 0 else -1
theorem x_levelOf (v : Int32) (σ : Sg) : f_X4_levelOf v σ = some (lvI v, σ) := by
  unfold f_X4_levelOf lvI
  repeat' split
  all_goals rfl
theorem lv_iff (v : Int32) : (lvI v = 0 ↔ v = 124) ∧ (lvI v = 1 ↔ v = 38) ∧ (lvI v = 2 ↔ v = 60 ∨ v = 61 ∨ v = 62) ∧ (lvI v = 3 ↔ v = 43 ∨ v = 45) ∧ (lvI v = 4 ↔ v = 42 ∨ v = 47 ∨ v = 37) := by
  by_cases h1 : v = 37
  · subst h1; decide
  by_cases h2 : v = 38
  · subst h2; decide
  by_cases h3 : v = 42
  · subst h3; decide
  by_cases h4 : v = 43
  · subst h4; decide
  by_cases h5 : v = 45
  · subst h5; decide
  by_cases h6 : v = 47
  · subst h6; decide
  by_cases h7 : v = 60
  · subst h7; decide
  by_cases h8 : v = 61
  · subst h8; decide
  by_cases h9 : v = 62
  · subst h9; decide
  by_cases h10 : v = 124
  · subst h10; decide
  have e : lvI v = -1 := by
    unfold lvI
    rw [if_neg h1, if_neg h2, if_neg h3, if_neg h4, if_neg h5, if_neg h6, if_neg h7, if_neg h8, if_neg h9, if_neg h10]
  rw [e]
  refine ⟨⟨fun q => absurd q (by decide), fun q => absurd q h10⟩, ⟨fun q => absurd q (by decide), fun q => absurd q h2⟩, ⟨fun q => absurd q (by decide), fun q => ?_⟩, ⟨fun q => absurd q (by decide), fun q => ?_⟩, ⟨fun q => absurd q (by decide), fun q => ?_⟩⟩
  · rcases q with q | q | q
    · exact absurd q h7
    · exact absurd q h8
    · exact absurd q h9
  · rcases q with q | q
    · exact absurd q h4
    · exact absurd q h5
  · rcases q with q | q | q
    · exact absurd q h3
    · exact absurd q h6
    · exact absurd q h1
theorem lv_op {v : Int32} {l : Nat} (hl : l < 5) (h : lvI v = nI l) : opS v := by
  obtain ⟨i0, i1, i2, i3, i4⟩ := lv_iff v
  have c : l = 0 ∨ l = 1 ∨ l = 2 ∨ l = 3 ∨ l = 4 := by omega
  unfold opS
  rcases c with rfl | rfl | rfl | rfl | rfl
  · exact Or.inl (i0.mp h)
  · exact Or.inr (Or.inl (i1.mp h))
  · rcases i2.mp h with q | q | q
    · exact Or.inr (Or.inr (Or.inl q))
    · exact Or.inr (Or.inr (Or.inr (Or.inl q)))
    · exact Or.inr (Or.inr (Or.inr (Or.inr (Or.inl q))))
  · rcases i3.mp h with q | q
    · exact Or.inr (Or.inr (Or.inr (Or.inr (Or.inr (Or.inl q)))))
    · exact Or.inr (Or.inr (Or.inr (Or.inr (Or.inr (Or.inr (Or.inl q))))))
  · rcases i4.mp h with q | q | q
    · exact Or.inr (Or.inr (Or.inr (Or.inr (Or.inr (Or.inr (Or.inr (Or.inl q)))))))
    · exact Or.inr (Or.inr (Or.inr (Or.inr (Or.inr (Or.inr (Or.inr (Or.inr (Or.inl q))))))))
    · exact Or.inr (Or.inr (Or.inr (Or.inr (Or.inr (Or.inr (Or.inr (Or.inr (Or.inr q))))))))
/-- an operation's sign: its operand, then its code -/
theorem op_step {σ0 τ0 : Sg} {t u o l : Nat} (b : BS σ0 τ0 t u) (hl : l < 5) {F : Sg → Option (Int32 × Sg)} {Gm : Sg → Option (Unit × Sg)} (hop : Sp σ0 τ0 t u o F Gm) {p c : Nat} {δ : Int} {σ τ : Sg} (h : PR σ0 τ0 t u p c o δ σ τ) (d1 : 1 ≤ δ) (hb : lvI (Byt σ0 t p) = nI l) : p < t ∧ ((∃ p' c' σ1 τ1 σ' τ', F (up σ 3 3 (σ 3 3 + 1)) = some (1, σ1) ∧ Gm (up τ 0 13 (τ 0 13 + 1)) = some ((), τ1) ∧ f_X6_add 56 (-(Byt σ0 t p)) σ1 = some ((), σ') ∧ f_X10_step (Byt σ0 t p) (0 : Int32) τ1 = some ((), τ') ∧ PR σ0 τ0 t u p' c' o δ σ' τ' ∧ p + 1 < p' ∧ c' + p ≤ c + p') ∨ (∃ p' σ' τ1 τ', F (up σ 3 3 (σ 3 3 + 1)) = some (0, σ') ∧ Gm (up τ 0 13 (τ 0 13 + 1)) = some ((), τ1) ∧ f_X10_step (Byt σ0 t p) (0 : Int32) τ1 = some ((), τ') ∧ PF σ0 τ0 t p' σ' τ')) := by
  have op := lv_op hl hb
  have hp : p < t := byt_lt (fun e => by
    rw [e] at op
    rcases op with e | e | e | e | e | e | e | e | e | e <;> exact absurd e (by decide))
  have n123 : ¬ (Byt σ0 t p = 1 ∨ Byt σ0 t p = 2) ∧ ¬ Byt σ0 t p = 3 := by
    rcases op with e | e | e | e | e | e | e | e | e | e <;> rw [e] <;> decide
  have h10 := h.2.2.2.2.2.2.2.2.2.1
  refine ⟨hp, ?_⟩
  rcases hop _ _ _ _ _ (pr_adv h hp) with ⟨p', c', σ1, τ1, w1, w2, w3, w4, w5⟩ | ⟨p', σ1, τ1, w1, w2, w3⟩
  · obtain ⟨σ2, τ2, v1, v2, v3⟩ := pr_code b w3 (by omega) (x := -(Byt σ0 t p)) (a := Byt σ0 t p) (w := 0) (δ' := δ) (Or.inr (Or.inr (Or.inr ⟨op, rfl⟩))) (fun e => absurd e n123.2) (fun _ => by omega) (by rw [if_neg n123.1, if_neg n123.2]; omega) (by omega)
    exact Or.inl ⟨p', c' + 1, σ1, τ1, σ2, τ2, w1, w2, v1, v2, v3, w4, by omega⟩
  · obtain ⟨τ2, v1, v2⟩ := pf_step w3 (Byt σ0 t p) 0
    exact Or.inr ⟨p', σ1, τ1, τ2, w1, w2, v1, v2⟩
theorem lev_loop {σ0 τ0 : Sg} {t u o l : Nat} (b : BS σ0 τ0 t u) (hl : l < 5) (g1 : Int32 → Int32 → Sg → Option (Int32 × Sg)) (g2 g3 g4 : Int32 → Sg → Option (Int32 × Sg)) {Gm : Sg → Option (Unit × Sg)} (hop : Sp σ0 τ0 t u o (g1 (nI (l + 1)) (nI o)) Gm) (LM : Nat → Sg → Option (Unit × Sg)) (hLM : ∀ m τ v, τ 0 15 = 0 → f_X10_look τ = some (v, τ) → LM (m + 1) τ = if lvI v = nI l then bnd (Gm (up τ 0 13 (τ 0 13 + 1))) (fun _ s4 => bnd (f_X10_step v (0 : Int32) s4) (fun _ s6 => LM m s6)) else some ((), τ)) (hLMb : ∀ m τ, τ 0 15 = 1 → LM (m + 1) τ = some ((), τ)) {δ : Int} (d1 : 1 ≤ δ) : ∀ (d p c times n m : Nat) (σ τ : Sg), t ≤ p + d → d < n → d + 1 < m → times < p → PR σ0 τ0 t u p c o δ σ τ → (∃ p' c' σ' τ', f_X4_readsLevel_44 g1 g2 g3 g4 n (nI l) (nI o) (nI t) (nI times) σ = some (1, σ') ∧ LM m τ = some ((), τ') ∧ PR σ0 τ0 t u p' c' o δ σ' τ' ∧ p ≤ p' ∧ c' + p ≤ c + p') ∨ (∃ p' σ' τ', f_X4_readsLevel_44 g1 g2 g3 g4 n (nI l) (nI o) (nI t) (nI times) σ = some (0, σ') ∧ LM m τ = some ((), τ') ∧ PF σ0 τ0 t p' σ' τ') := by
  intro d
  induction d with
  | zero =>
    intro p c times n m σ τ hd hn hm ht h
    obtain ⟨n, rfl⟩ : ∃ j, n = j + 1 := ⟨n - 1, by omega⟩
    obtain ⟨m, rfl⟩ : ∃ j, m = j + 1 := ⟨m - 1, by omega⟩
    have h15 := h.2.2.2.2.2.2.2.2.2.2.2.1
    have hpt := h.2.2.2.2.2.2.1
    have b1 := b.1
    obtain ⟨n1, n2⟩ := pr_next b h
    have hb : ¬ lvI (Byt σ0 t p) = nI l := fun e => by
      have := (op_step b hl hop h d1 e).1
      omega
    rw [hLM m τ _ h15 n2, if_neg hb, f_X4_readsLevel_44]
    unfold f_X4_readsLevel_44_b
    rw [if_neg (nI_ge (show times < t by omega) (by omega)), n1, bnd_s, x_levelOf, bnd_s, if_neg hb]
    exact Or.inl ⟨p, c, σ, τ, rfl, rfl, h, Nat.le_refl _, Nat.le_refl _⟩
  | succ d ih =>
    intro p c times n m σ τ hd hn hm ht h
    obtain ⟨n, rfl⟩ : ∃ j, n = j + 1 := ⟨n - 1, by omega⟩
    obtain ⟨m, rfl⟩ : ∃ j, m = j + 2 := ⟨m - 2, by omega⟩
    have h15 := h.2.2.2.2.2.2.2.2.2.2.2.1
    have hpt := h.2.2.2.2.2.2.1
    have b1 := b.1
    obtain ⟨n1, n2⟩ := pr_next b h
    rw [show m + 2 = (m + 1) + 1 by omega, hLM (m + 1) τ _ h15 n2, f_X4_readsLevel_44]
    unfold f_X4_readsLevel_44_b
    rw [if_neg (nI_ge (show times < t by omega) (by omega)), n1, bnd_s, x_levelOf, bnd_s]
    by_cases hb : lvI (Byt σ0 t p) = nI l
    · rw [if_pos hb, if_pos hb, n1, bnd_s, lt_a, nI_1]
      obtain ⟨hp, q⟩ := op_step b hl hop h d1 hb
      rcases q with ⟨p', c', σ1, τ1, σ2, τ2, w1, w2, w3, w4, w5, w6, w7⟩ | ⟨p', σ1, τ1, τ2, w1, w2, w3, w4⟩
      · rw [w1, w2, bnd_s, bnd_s, if_neg (show ¬ (1 : Int32) = 0 by decide), w3, w4, bnd_s, bnd_s, lt_a, nI_1]
        rcases ih p' c' (times + 1) n (m + 1) σ2 τ2 (by omega) (by omega) (by omega) (by omega) w5 with ⟨p2, c2, σ3, τ3, v1, v2, v3, v4, v5⟩ | ⟨p2, σ3, τ3, v1, v2, v3⟩
        · exact Or.inl ⟨p2, c2, σ3, τ3, v1, v2, v3, by omega, by omega⟩
        · exact Or.inr ⟨p2, σ3, τ3, v1, v2, v3⟩
      · rw [w1, w2, bnd_s, bnd_s, if_pos rfl, w3, bnd_s, hLMb m τ2 w4.2.2.2.2.2.1]
        exact Or.inr ⟨p', σ1, τ2, rfl, rfl, w4⟩
    · rw [if_neg hb, if_neg hb]
      exact Or.inl ⟨p, c, σ, τ, rfl, rfl, h, Nat.le_refl _, Nat.le_refl _⟩
/-- a level with a loop -/
theorem lev_spec {σ0 τ0 : Sg} {t u o l : Nat} (b : BS σ0 τ0 t u) (hl : l < 5) (hl2 : l ≠ 2) (ho : o ≤ 5) (g1 : Int32 → Int32 → Sg → Option (Int32 × Sg)) (g2 g3 g4 : Int32 → Sg → Option (Int32 × Sg)) {Gm : Sg → Option (Unit × Sg)} (hop : Sp σ0 τ0 t u o (g1 (nI (l + 1)) (nI o)) Gm) (LM : Nat → Sg → Option (Unit × Sg)) (hLM : ∀ m τ v, τ 0 15 = 0 → f_X10_look τ = some (v, τ) → LM (m + 1) τ = if lvI v = nI l then bnd (Gm (up τ 0 13 (τ 0 13 + 1))) (fun _ s4 => bnd (f_X10_step v (0 : Int32) s4) (fun _ s6 => LM m s6)) else some ((), τ)) (hLMb : ∀ m τ, τ 0 15 = 1 → LM (m + 1) τ = some ((), τ)) : Sp σ0 τ0 t u o (f_X4_readsLevel_e g1 g2 g3 g4 (nI l) (nI o)) (fun τ => bnd (Gm τ) (fun _ s8 => LM fuN s8)) := by
  intro p c δ σ τ h
  have el : (nI l).toInt = (l : Int) := i_nI (by omega)
  have b1 := b.1
  have hd := h.2.2.2.2.2.2.2.2.2.2.2.2.2.2
  have e44 : (nI 44).toNatClampNeg = 44 := rfl
  unfold f_X4_readsLevel_e
  rw [if_pos (show nI l < (5 : Int32) by rw [i_lt, el, ti_5]; omega), nI_1]
  simp only []
  rcases hop _ _ _ _ _ h with ⟨p', c', σ1, τ1, w1, w2, w3, w4, w5⟩ | ⟨p', σ1, τ1, w1, w2, w3⟩
  · rw [w1, w2, bnd_s, bnd_s, if_neg (show ¬ (1 : Int32) = 0 by decide), if_neg (show ¬ nI l = (2 : Int32) by rw [i_eq, el, ti_2]; omega), w3.2.2.1, ckb_t (show rowOk (nI 44) = true from rfl), lt_a, e44, lt_a, w3.1 44 (by decide) (by decide) (by decide), b.2.2.1]
    have := lev_loop b hl g1 g2 g3 g4 hop LM hLM hLMb (show 1 ≤ δ + 1 by omega) t p' c' 0 fuN fuN σ1 τ1 (by omega) (by have := fu_le; omega) (by have := fu_le; omega) (by omega) w3
    rw [nI_0] at this
    rcases this with ⟨p2, c2, σ3, τ3, v1, v2, v3, v4, v5⟩ | ⟨p2, σ3, τ3, v1, v2, v3⟩
    · exact Or.inl ⟨p2, c2, σ3, τ3, v1, v2, v3, by omega, by omega⟩
    · exact Or.inr ⟨p2, σ3, τ3, v1, v2, v3⟩
  · obtain ⟨m, hm⟩ : ∃ m, fuN = m + 1 := ⟨fuN - 1, by have := fu_le; omega⟩
    rw [w1, w2, bnd_s, bnd_s, if_pos rfl, hm, hLMb m τ1 w3.2.2.2.2.2.1]
    exact Or.inr ⟨p', σ1, τ1, rfl, rfl, w3⟩
end
section
theorem any_lm (g1 g2 g3 g4 g5 g6 : Sg → Option (Unit × Sg)) (g7 : Int32 → Sg → Option (Unit × Sg)) : (∀ m τ v, τ 0 15 = 0 → f_X10_look τ = some (v, τ) → f_X10_any_4 g1 g2 g3 g4 g5 g6 g7 (m + 1) τ = if lvI v = nI 0 then bnd (g2 (up τ 0 13 (τ 0 13 + 1))) (fun _ s4 => bnd (f_X10_step v (0 : Int32) s4) (fun _ s6 => f_X10_any_4 g1 g2 g3 g4 g5 g6 g7 m s6)) else some ((), τ)) ∧ ∀ m τ, τ 0 15 = 1 → f_X10_any_4 g1 g2 g3 g4 g5 g6 g7 (m + 1) τ = some ((), τ) := by
  constructor
  · intro m τ v h15 hlk
    rw [f_X10_any_4]
    unfold f_X10_any_4_b
    rw [if_pos h15, hlk, bnd_s, nI_0]
    by_cases q : v = 124
    · rw [if_pos q, if_pos ((lv_iff v).1.mpr q), lt_a, q]
    · rw [if_neg q, if_neg (fun e => q ((lv_iff v).1.mp e))]
  · intro m τ h15
    rw [f_X10_any_4]
    unfold f_X10_any_4_b
    rw [h15, if_neg (by decide)]
theorem all_lm (g1 g2 g3 g4 g5 g6 : Sg → Option (Unit × Sg)) (g7 : Int32 → Sg → Option (Unit × Sg)) : (∀ m τ v, τ 0 15 = 0 → f_X10_look τ = some (v, τ) → f_X10_all_4 g1 g2 g3 g4 g5 g6 g7 (m + 1) τ = if lvI v = nI 1 then bnd (g3 (up τ 0 13 (τ 0 13 + 1))) (fun _ s4 => bnd (f_X10_step v (0 : Int32) s4) (fun _ s6 => f_X10_all_4 g1 g2 g3 g4 g5 g6 g7 m s6)) else some ((), τ)) ∧ ∀ m τ, τ 0 15 = 1 → f_X10_all_4 g1 g2 g3 g4 g5 g6 g7 (m + 1) τ = some ((), τ) := by
  have e1 : nI 1 = (1 : Int32) := rfl
  constructor
  · intro m τ v h15 hlk
    rw [f_X10_all_4]
    unfold f_X10_all_4_b
    rw [if_pos h15, hlk, bnd_s, e1]
    by_cases q : v = 38
    · rw [if_pos q, if_pos ((lv_iff v).2.1.mpr q), lt_a, q]
    · rw [if_neg q, if_neg (fun e => q ((lv_iff v).2.1.mp e))]
  · intro m τ h15
    rw [f_X10_all_4]
    unfold f_X10_all_4_b
    rw [h15, if_neg (by decide)]
theorem sum_lm (g1 g2 g3 g4 g5 g6 : Sg → Option (Unit × Sg)) (g7 : Int32 → Sg → Option (Unit × Sg)) : (∀ m τ v, τ 0 15 = 0 → f_X10_look τ = some (v, τ) → f_X10_sum_4 g1 g2 g3 g4 g5 g6 g7 (m + 1) τ = if lvI v = nI 3 then bnd (g5 (up τ 0 13 (τ 0 13 + 1))) (fun _ s4 => bnd (f_X10_step v (0 : Int32) s4) (fun _ s6 => f_X10_sum_4 g1 g2 g3 g4 g5 g6 g7 m s6)) else some ((), τ)) ∧ ∀ m τ, τ 0 15 = 1 → f_X10_sum_4 g1 g2 g3 g4 g5 g6 g7 (m + 1) τ = some ((), τ) := by
  have e1 : nI 3 = (3 : Int32) := rfl
  constructor
  · intro m τ v h15 hlk
    rw [f_X10_sum_4]
    unfold f_X10_sum_4_b f_X10_sum_29
    rw [if_pos h15, hlk, bnd_s, e1]
    by_cases q : v = 43
    · rw [if_pos q, if_pos ((lv_iff v).2.2.2.1.mpr (Or.inl q)), hlk, bnd_s, lt_a]
    · rw [if_neg q, hlk, bnd_s]
      by_cases q2 : v = 45
      · rw [if_pos q2, if_pos ((lv_iff v).2.2.2.1.mpr (Or.inr q2)), hlk, bnd_s, lt_a]
      · rw [if_neg q2, if_neg (fun e => ((lv_iff v).2.2.2.1.mp e).elim q q2)]
  · intro m τ h15
    rw [f_X10_sum_4]
    unfold f_X10_sum_4_b
    rw [h15, if_neg (by decide)]
theorem times_lm (g1 g2 g3 g4 g5 g6 : Sg → Option (Unit × Sg)) (g7 : Int32 → Sg → Option (Unit × Sg)) : (∀ m τ v, τ 0 15 = 0 → f_X10_look τ = some (v, τ) → f_X10_times_4 g1 g2 g3 g4 g5 g6 g7 (m + 1) τ = if lvI v = nI 4 then bnd (g6 (up τ 0 13 (τ 0 13 + 1))) (fun _ s4 => bnd (f_X10_step v (0 : Int32) s4) (fun _ s6 => f_X10_times_4 g1 g2 g3 g4 g5 g6 g7 m s6)) else some ((), τ)) ∧ ∀ m τ, τ 0 15 = 1 → f_X10_times_4 g1 g2 g3 g4 g5 g6 g7 (m + 1) τ = some ((), τ) := by
  have e1 : nI 4 = (4 : Int32) := rfl
  constructor
  · intro m τ v h15 hlk
    rw [f_X10_times_4]
    unfold f_X10_times_4_b f_X10_times_38
    rw [if_pos h15, hlk, bnd_s, e1]
    by_cases q : v = 42
    · rw [if_pos q, if_pos ((lv_iff v).2.2.2.2.mpr (Or.inl q)), hlk, bnd_s, lt_a]
    · rw [if_neg q, hlk, bnd_s]
      by_cases q2 : v = 47
      · rw [if_pos q2, if_pos ((lv_iff v).2.2.2.2.mpr (Or.inr (Or.inl q2))), hlk, bnd_s, lt_a]
      · rw [if_neg q2, hlk, bnd_s]
        by_cases q3 : v = 37
        · rw [if_pos q3, if_pos ((lv_iff v).2.2.2.2.mpr (Or.inr (Or.inr q3))), hlk, bnd_s, lt_a]
        · rw [if_neg q3, if_neg (fun e => ((lv_iff v).2.2.2.2.mp e).elim q (fun e => e.elim q2 q3))]
  · intro m τ h15
    rw [f_X10_times_4]
    unfold f_X10_times_4_b
    rw [h15, if_neg (by decide)]
theorem cmp_spec {σ0 τ0 : Sg} {t u o : Nat} (b : BS σ0 τ0 t u) (g1 : Int32 → Int32 → Sg → Option (Int32 × Sg)) (g2 g3 g4 : Int32 → Sg → Option (Int32 × Sg)) (k1 k2 k3 k4 k5 k6 : Sg → Option (Unit × Sg)) (k7 : Int32 → Sg → Option (Unit × Sg)) (hop : Sp σ0 τ0 t u o (g1 (nI 3) (nI o)) k4) : Sp σ0 τ0 t u o (f_X4_readsLevel_e g1 g2 g3 g4 (nI 2) (nI o)) (f_X10_compares_e k1 k2 k3 k4 k5 k6 k7) := by
  intro p c δ σ τ h
  have hd := h.2.2.2.2.2.2.2.2.2.2.2.2.2.2
  have b1 := b.1
  have e3 : nI 2 + (1 : Int32) = nI 3 := rfl
  unfold f_X4_readsLevel_e f_X10_compares_e
  rw [if_pos (show nI 2 < (5 : Int32) by decide), e3]
  rcases hop _ _ _ _ _ h with ⟨p', c', σ1, τ1, w1, w2, w3, w4, w5⟩ | ⟨p', σ1, τ1, w1, w2, w3⟩
  · obtain ⟨n1, n2⟩ := pr_next b w3
    have h15 := w3.2.2.2.2.2.2.2.2.2.2.2.1
    obtain ⟨m, hm⟩ : ∃ m, fuN = m + 2 := ⟨fuN - 2, by have := fu_le; omega⟩
    rw [w1, w2, bnd_s, bnd_s, if_neg (show ¬ (1 : Int32) = 0 by decide), if_pos (show nI 2 = (2 : Int32) from rfl), n2, bnd_s, h15, if_pos rfl, hm, show m + 2 = (m + 1) + 1 by omega, f_X4_readsLevel_44]
    unfold f_X4_readsLevel_44_b
    rw [if_neg (show ¬ (1 : Int32) ≤ 0 by decide), n1, bnd_s, x_levelOf, bnd_s]
    have e2 : nI 2 = (2 : Int32) := rfl
    by_cases hb : lvI (Byt σ0 t p') = nI 2
    · have cmp : ∀ R : Option (Unit × Sg), (if Byt σ0 t p' = (60 : Int32) then R else if Byt σ0 t p' = (61 : Int32) then R else if Byt σ0 t p' = (62 : Int32) then R else some ((), τ1)) = R := by
        intro R
        by_cases y1 : Byt σ0 t p' = 60
        · rw [if_pos y1]
        rw [if_neg y1]
        by_cases y2 : Byt σ0 t p' = 61
        · rw [if_pos y2]
        rw [if_neg y2]
        by_cases y3 : Byt σ0 t p' = 62
        · rw [if_pos y3]
        · rcases (lv_iff (Byt σ0 t p')).2.2.1.mp hb with y | y | y
          · exact absurd y y1
          · exact absurd y y2
          · exact absurd y y3
      rw [if_pos hb, cmp, n1, bnd_s, lt_a, e3]
      unfold f_X10_compares_34
      rw [lt_a]
      obtain ⟨hp, q⟩ := op_step b (by decide) hop w3 (by omega) hb
      rcases q with ⟨p2, c2, σ2, τ2, σ3, τ3, v1, v2, v3, v4, v5, v6, v7⟩ | ⟨p2, σ2, τ2, τ3, v1, v2, v3, v4⟩
      · rw [v1, v2, bnd_s, bnd_s, if_neg (show ¬ (1 : Int32) = 0 by decide), v3, v4, bnd_s, bnd_s, lt_a, f_X4_readsLevel_44]
        unfold f_X4_readsLevel_44_b
        rw [if_pos (show (1 : Int32) ≤ 0 + 1 by decide)]
        exact Or.inl ⟨p2, c2, σ3, τ3, rfl, rfl, v5, by omega, by omega⟩
      · rw [v1, v2, bnd_s, bnd_s, if_pos rfl, v3, bnd_s]
        exact Or.inr ⟨p2, σ2, τ3, rfl, rfl, v4⟩
    · have nb : ¬ Byt σ0 t p' = 60 ∧ ¬ Byt σ0 t p' = 61 ∧ ¬ Byt σ0 t p' = 62 := ⟨fun e => hb ((lv_iff _).2.2.1.mpr (Or.inl e)), fun e => hb ((lv_iff _).2.2.1.mpr (Or.inr (Or.inl e))), fun e => hb ((lv_iff _).2.2.1.mpr (Or.inr (Or.inr e)))⟩
      rw [if_neg hb, if_neg nb.1, if_neg nb.2.1, if_neg nb.2.2]
      exact Or.inl ⟨p', c', σ1, τ1, rfl, rfl, w3, w4, w5⟩
  · have h15 := w3.2.2.2.2.2.1
    obtain ⟨v, hv⟩ : ∃ v, f_X10_look τ1 = some (v, τ1) := by
      obtain ⟨h1, h2, h3, h4, h5, h6, h7⟩ := w3
      have ep : (nI p').toInt = (p' : Int) := i_nI (by omega)
      have t82 : (82 : Int32).toInt = 82 := rfl
      have e82 : ((82 : Int32) + nI p').toInt = ((82 + p' : Nat) : Int) := by rw [i_add (by rw [ep, t82]; omega) (by rw [ep, t82]; omega), ep, t82]; omega
      unfold f_X10_look
      rw [ck_5, rd_5, h4]
      by_cases q : τ1 1 5 ≤ nI p'
      · rw [if_pos q]; exact ⟨_, rfl⟩
      · rw [if_neg q, ck_k e82 (by omega)]; exact ⟨_, rfl⟩
    rw [w1, w2, bnd_s, bnd_s, if_pos rfl, hv, bnd_s, h15, if_neg (show ¬ (1 : Int32) = 0 by decide)]
    exact Or.inr ⟨p', σ1, τ1, rfl, rfl, w3⟩
theorem l5_spec {σ0 τ0 : Sg} {t u o : Nat} (g1 : Int32 → Int32 → Sg → Option (Int32 × Sg)) (g2 g3 g4 : Int32 → Sg → Option (Int32 × Sg)) {Gm : Sg → Option (Unit × Sg)} (hop : Sp σ0 τ0 t u o (g2 (nI o)) Gm) : Sp σ0 τ0 t u o (f_X4_readsLevel_e g1 g2 g3 g4 (nI 5) (nI o)) Gm := by
  intro p c δ σ τ h
  unfold f_X4_readsLevel_e
  rw [if_neg (show ¬ nI 5 < (5 : Int32) by decide)]
  rcases hop _ _ _ _ _ h with ⟨p', c', σ1, τ1, w1, w2, w3⟩ | ⟨p', σ1, τ1, w1, w2, w3⟩
  · rw [w1, bnd_s, ckb_t (show isb (1 : Int32) = true from rfl)]
    exact Or.inl ⟨p', c', σ1, τ1, rfl, w2, w3⟩
  · rw [w1, bnd_s, ckb_t (show isb (0 : Int32) = true from rfl)]
    exact Or.inr ⟨p', σ1, τ1, rfl, w2, w3⟩
theorem chain {σ0 τ0 : Sg} {t u o : Nat} (b : BS σ0 τ0 t u) (ho : o ≤ 5) (dX dM : Nat) (hQ : Sp σ0 τ0 t u o ((G_X4_readsLevel dX).2.1 (nI o)) (G_X10_any dM).2.2.2.2.2.1) : Sp σ0 τ0 t u o ((G_X4_readsLevel (dX + 6)).1 (0 : Int32) (nI o)) (G_X10_any (dM + 5)).1 := by
  have s5 : Sp σ0 τ0 t u o ((G_X4_readsLevel (dX + 1)).1 (nI 5) (nI o)) (G_X10_any dM).2.2.2.2.2.1 := l5_spec (G_X4_readsLevel (dX)).1 (G_X4_readsLevel (dX)).2.1 (G_X4_readsLevel (dX)).2.2.1 (G_X4_readsLevel (dX)).2.2.2 hQ
  have s4 : Sp σ0 τ0 t u o ((G_X4_readsLevel (dX + 2)).1 (nI 4) (nI o)) (G_X10_any (dM + 1)).2.2.2.2.1 := lev_spec b (by decide) (by decide) ho (G_X4_readsLevel (dX + 1)).1 (G_X4_readsLevel (dX + 1)).2.1 (G_X4_readsLevel (dX + 1)).2.2.1 (G_X4_readsLevel (dX + 1)).2.2.2 s5 _ (times_lm (G_X10_any (dM)).1 (G_X10_any (dM)).2.1 (G_X10_any (dM)).2.2.1 (G_X10_any (dM)).2.2.2.1 (G_X10_any (dM)).2.2.2.2.1 (G_X10_any (dM)).2.2.2.2.2.1 (G_X10_any (dM)).2.2.2.2.2.2).1 (times_lm (G_X10_any (dM)).1 (G_X10_any (dM)).2.1 (G_X10_any (dM)).2.2.1 (G_X10_any (dM)).2.2.2.1 (G_X10_any (dM)).2.2.2.2.1 (G_X10_any (dM)).2.2.2.2.2.1 (G_X10_any (dM)).2.2.2.2.2.2).2
  have s3 : Sp σ0 τ0 t u o ((G_X4_readsLevel (dX + 3)).1 (nI 3) (nI o)) (G_X10_any (dM + 2)).2.2.2.1 := lev_spec b (by decide) (by decide) ho (G_X4_readsLevel (dX + 2)).1 (G_X4_readsLevel (dX + 2)).2.1 (G_X4_readsLevel (dX + 2)).2.2.1 (G_X4_readsLevel (dX + 2)).2.2.2 s4 _ (sum_lm (G_X10_any (dM + 1)).1 (G_X10_any (dM + 1)).2.1 (G_X10_any (dM + 1)).2.2.1 (G_X10_any (dM + 1)).2.2.2.1 (G_X10_any (dM + 1)).2.2.2.2.1 (G_X10_any (dM + 1)).2.2.2.2.2.1 (G_X10_any (dM + 1)).2.2.2.2.2.2).1 (sum_lm (G_X10_any (dM + 1)).1 (G_X10_any (dM + 1)).2.1 (G_X10_any (dM + 1)).2.2.1 (G_X10_any (dM + 1)).2.2.2.1 (G_X10_any (dM + 1)).2.2.2.2.1 (G_X10_any (dM + 1)).2.2.2.2.2.1 (G_X10_any (dM + 1)).2.2.2.2.2.2).2
  have s2 : Sp σ0 τ0 t u o ((G_X4_readsLevel (dX + 4)).1 (nI 2) (nI o)) (G_X10_any (dM + 3)).2.2.1 := cmp_spec b (G_X4_readsLevel (dX + 3)).1 (G_X4_readsLevel (dX + 3)).2.1 (G_X4_readsLevel (dX + 3)).2.2.1 (G_X4_readsLevel (dX + 3)).2.2.2 (G_X10_any (dM + 2)).1 (G_X10_any (dM + 2)).2.1 (G_X10_any (dM + 2)).2.2.1 (G_X10_any (dM + 2)).2.2.2.1 (G_X10_any (dM + 2)).2.2.2.2.1 (G_X10_any (dM + 2)).2.2.2.2.2.1 (G_X10_any (dM + 2)).2.2.2.2.2.2 s3
  have s1 : Sp σ0 τ0 t u o ((G_X4_readsLevel (dX + 5)).1 (nI 1) (nI o)) (G_X10_any (dM + 4)).2.1 := lev_spec b (by decide) (by decide) ho (G_X4_readsLevel (dX + 4)).1 (G_X4_readsLevel (dX + 4)).2.1 (G_X4_readsLevel (dX + 4)).2.2.1 (G_X4_readsLevel (dX + 4)).2.2.2 s2 _ (all_lm (G_X10_any (dM + 3)).1 (G_X10_any (dM + 3)).2.1 (G_X10_any (dM + 3)).2.2.1 (G_X10_any (dM + 3)).2.2.2.1 (G_X10_any (dM + 3)).2.2.2.2.1 (G_X10_any (dM + 3)).2.2.2.2.2.1 (G_X10_any (dM + 3)).2.2.2.2.2.2).1 (all_lm (G_X10_any (dM + 3)).1 (G_X10_any (dM + 3)).2.1 (G_X10_any (dM + 3)).2.2.1 (G_X10_any (dM + 3)).2.2.2.1 (G_X10_any (dM + 3)).2.2.2.2.1 (G_X10_any (dM + 3)).2.2.2.2.2.1 (G_X10_any (dM + 3)).2.2.2.2.2.2).2
  exact lev_spec b (l := 0) (by decide) (by decide) ho (G_X4_readsLevel (dX + 5)).1 (G_X4_readsLevel (dX + 5)).2.1 (G_X4_readsLevel (dX + 5)).2.2.1 (G_X4_readsLevel (dX + 5)).2.2.2 s1 _ (any_lm (G_X10_any (dM + 4)).1 (G_X10_any (dM + 4)).2.1 (G_X10_any (dM + 4)).2.2.1 (G_X10_any (dM + 4)).2.2.2.1 (G_X10_any (dM + 4)).2.2.2.2.1 (G_X10_any (dM + 4)).2.2.2.2.2.1 (G_X10_any (dM + 4)).2.2.2.2.2.2).1 (any_lm (G_X10_any (dM + 4)).1 (G_X10_any (dM + 4)).2.1 (G_X10_any (dM + 4)).2.2.1 (G_X10_any (dM + 4)).2.2.2.1 (G_X10_any (dM + 4)).2.2.2.2.1 (G_X10_any (dM + 4)).2.2.2.2.2.1 (G_X10_any (dM + 4)).2.2.2.2.2.2).2
theorem q_all {σ0 τ0 : Sg} {t u : Nat} (b : BS σ0 τ0 t u) : ∀ (r o eX eM : Nat), o + r = 5 → Sp σ0 τ0 t u o ((G_X4_readsLevel (8 * r + 2 + eX)).2.1 (nI o)) (G_X10_any (7 * r + 2 + eM)).2.2.2.2.2.1 := by
  intro r
  induction r with
  | zero =>
    intro o eX eM ho
    have := q_spec b (show o ≤ 5 by omega) eX eM (fun h => absurd h (by omega)) (fun h => absurd h (by omega))
    rw [show 8 * 0 + 2 + eX = eX + 2 by omega, show 7 * 0 + 2 + eM = eM + 2 by omega]
    exact this
  | succ r ih =>
    intro o eX eM ho
    have h1 := ih (o + 1) (6 + eX) (5 + eM) (by omega)
    have h2 := chain b (show o + 1 ≤ 5 by omega) _ _ (ih (o + 1) eX eM (by omega))
    rw [show 8 * r + 2 + (6 + eX) = 8 * r + 8 + eX by omega, show 7 * r + 2 + (5 + eM) = 7 * r + 7 + eM by omega] at h1
    rw [show 8 * r + 2 + eX + 6 = 8 * r + 8 + eX by omega, show 7 * r + 2 + eM + 5 = 7 * r + 7 + eM by omega] at h2
    have := q_spec b (show o ≤ 5 by omega) (8 * r + 8 + eX) (7 * r + 7 + eM) (fun _ => h1) (fun _ => h2)
    rw [show 8 * (r + 1) + 2 + eX = 8 * r + 8 + eX + 2 by omega, show 7 * (r + 1) + 2 + eM = 7 * r + 7 + eM + 2 by omega]
    exact this
theorem text_spec {σ0 τ0 : Sg} {t u : Nat} (b : BS σ0 τ0 t u) : Sp σ0 τ0 t u 0 (f_X4_readsLevel (0 : Int32) (0 : Int32)) f_X10_any := by
  have h := chain b (show 0 ≤ 5 by omega) _ _ (q_all b 5 0 16 22 (by omega))
  rw [nI_0] at h
  exact h
end
section
theorem Sim.untape {σ τ : Sg} (h : Sim σ τ) : Sim (up σ 44 1 0) (up τ 1 5 0) := by
  obtain ⟨a1, a2, ⟨n, hn, e1, e2, a3⟩, a4, a5, a6, a7⟩ := h.1
  refine h.bd ?_ (eqX1.up rfl) eqM1.up
  refine Bd1.of (ln := fun l => σ (20 + l)) (th := fun u => σ (40 + u) 0) (cn := fun u => σ (48 + u) 1) (cs := fun u => σ (66 + u)) ?_ (fun l hl => by rw [up_row (by omega)]) (fun u hu => by rw [up_k (by omega)]) (fun u hu => by rw [up_k (by omega)]) (fun u hu => by rw [up_row (by omega)])
  simp (disch := omega) only [up_row, up_rs]
  refine ⟨Hd_r a1 (by omega), Ik_r a2 (by omega), ⟨n, hn, e1, ?_, Lns_r a3 (by omega)⟩, a4, ⟨0, by omega, ?_, ?_, fun j hj => absurd hj (by omega)⟩, Sq_r (c0 := 6) (o := 142) a6 (by omega) (by omega), fun u hu => Cd_r (a7 u hu) (by omega)⟩
  · rw [upd_n (by omega)]; exact e2
  · rw [upd_e]; rfl
  · rw [upd_e]; rfl
theorem Sim.law {σ τ σ' τ' : Sg} (h : Sim σ τ) {u c : Nat} (hu : u < 2) (hc : c ≤ 60) (c0 : 0 < c) (ex : ∀ k, k ≠ 40 + u → k ≠ 48 + u → k ≠ 66 + u → σ' k = σ k) (em : ∀ k, k ≠ 1 → τ' k = τ k) (er : ∀ j, (j < 166 + 121 * u ∨ 166 + 121 * u + 121 ≤ j) → τ' 1 j = τ 1 j) (x0 : σ' (40 + u) 0 = 1) (x1 : σ' (48 + u) 1 = nI c) (m0 : τ' 1 (166 + 121 * u) = nI c) (cod : Cod c (σ' (66 + u)) (fun j => τ' 1 (167 + 121 * u + j)) (fun j => τ' 1 (227 + 121 * u + j))) : Sim σ' τ' := by
  obtain ⟨a1, a2, ⟨n, hn, e1, e2, a3⟩, a4, a5, a6, a7⟩ := h.1
  have i1 : ∀ u, u < 2 → inB1 (40 + u) = true ∧ inB1 (48 + u) = true ∧ inB1 (66 + u) = true := by decide +kernel
  obtain ⟨j1, j2, j3⟩ := i1 u hu
  refine h.bd ?_ (fun k _ hk => ex k (fun e => by subst e; rw [j1] at hk; cases hk) (fun e => by subst e; rw [j2] at hk; cases hk) (fun e => by subst e; rw [j3] at hk; cases hk)) ⟨em 2 (by decide), em 4 (by decide), em 5 (by decide), em 6 (by decide), em 7 (by decide), em 13 (by decide), by rw [em 0 (by decide)], by rw [em 0 (by decide)]⟩
  unfold Bd1
  rw [ex 1 (by omega) (by omega) (by omega), ex 16 (by omega) (by omega) (by omega), ex 44 (by omega) (by omega) (by omega), ex 62 (by omega) (by omega) (by omega), ex 46 (by omega) (by omega) (by omega), ex 64 (by omega) (by omega) (by omega)]
  refine ⟨?_, fun p hp => by rw [er (7 + p) (by omega)]; exact a2 p hp, ⟨n, hn, e1, by rw [er 2 (by omega)]; exact e2, fun l hl => ?_⟩, fun l hl => ?_, ?_, ?_, fun v hv => ?_⟩
  · unfold Hd at a1 ⊢
    rw [er 0 (by omega), er 3 (by omega), er 4 (by omega), er 1 (by omega)]
    exact a1
  · show LnOK (σ' (20 + l)) (σ 1 2) ∧ ∀ f, f < 7 → τ' 1 (12 + 7 * l + f) = σ' (20 + l) f
    rw [ex (20 + l) (by omega) (by omega) (by omega)]
    exact ⟨(a3 l hl).1, fun f hf => by rw [er _ (by omega)]; exact (a3 l hl).2 f hf⟩
  · show σ' (20 + l) 6 = 0 ∨ σ' (20 + l) 6 = 1
    rw [ex (20 + l) (by omega) (by omega) (by omega)]; exact a4 l hl
  · obtain ⟨t, ht, q1, q2, q3⟩ := a5
    exact ⟨t, ht, q1, (er 5 (by omega)).trans q2, fun j hj => (er (82 + j) (by omega)).trans (q3 j hj)⟩
  · obtain ⟨t, ht, q1, q2, q3⟩ := a6
    exact ⟨t, ht, q1, (er 6 (by omega)).trans q2, fun j hj => (er (142 + j) (by omega)).trans (q3 j hj)⟩
  · show Cd (σ' (40 + v) 0) (σ' (48 + v) 1) (σ' (66 + v)) _
    by_cases e : v = u
    · subst e
      have f1 : (fun j => (fun j => τ' 1 (166 + 121 * v + j)) (1 + j)) = fun j => τ' 1 (167 + 121 * v + j) := funext fun j => congrArg (τ' 1) (by omega)
      have f2 : (fun j => (fun j => τ' 1 (166 + 121 * v + j)) (61 + j)) = fun j => τ' 1 (227 + 121 * v + j) := funext fun j => congrArg (τ' 1) (by omega)
      refine ⟨c, hc, x1, Or.inr ⟨x0, c0, m0, ?_⟩⟩
      rw [f1, f2]; exact cod
    · rw [ex (40 + v) (by omega) (by omega) (by omega), ex (48 + v) (by omega) (by omega) (by omega), ex (66 + v) (by omega) (by omega) (by omega)]
      obtain ⟨c', hc', y1, y2⟩ := a7 v hv
      refine ⟨c', hc', y1, ?_⟩
      have r : ∀ j, j ≤ 120 → τ' 1 (166 + 121 * v + j) = τ 1 (166 + 121 * v + j) := fun j hj => er _ (by omega)
      rcases y2 with ⟨z1, z2⟩ | ⟨z1, z2, z3, z4⟩
      · exact Or.inl ⟨z1, by show τ' 1 (166 + 121 * v + 0) = 0; rw [r 0 (by omega)]; exact z2⟩
      · refine Or.inr ⟨z1, z2, by show τ' 1 (166 + 121 * v + 0) = nI c'; rw [r 0 (by omega)]; exact z3, Cod_congr z4 (fun j _ => rfl) (fun j hj => r (1 + j) (by omega)) (fun j hj => r (61 + j) (by omega))⟩
theorem m_t117 {u c : Nat} (hu : u < 2) (hc : c ≤ 60) {bI : Int32} (eb : bI.toInt = ((166 + 121 * u : Nat) : Int)) : ∀ (d k n : Nat) (τ : Sg), k + d = c → d < n → τ 0 12 = nI c → ∃ τ', f_X10_text_117 n bI (nI k) τ = some (1, τ') ∧ (∀ r, r ≠ 1 → τ' r = τ r) ∧ (∀ j, (j < 167 + 121 * u ∨ 287 + 121 * u ≤ j) → τ' 1 j = τ 1 j) ∧ (∀ j, k ≤ j → j < c → τ' 1 (167 + 121 * u + j) = τ 8 j ∧ τ' 1 (227 + 121 * u + j) = τ 9 j) ∧ ∀ j, j < k → τ' 1 (167 + 121 * u + j) = τ 1 (167 + 121 * u + j) ∧ τ' 1 (227 + 121 * u + j) = τ 1 (227 + 121 * u + j) := by
  intro d
  induction d with
  | zero =>
    intro k n τ hk hn e
    obtain ⟨n, rfl⟩ : ∃ j, n = j + 1 := ⟨n - 1, by omega⟩
    obtain rfl : k = c := by omega
    refine ⟨τ, ?_, fun _ _ => rfl, fun _ _ => rfl, fun j a b => absurd b (by omega), fun _ _ => ⟨rfl, rfl⟩⟩
    rw [f_X10_text_117]
    unfold f_X10_text_117_b
    rw [e, if_pos (nI_le (Nat.le_refl _) (by omega))]
  | succ d ih =>
    intro k n τ hk hn e
    obtain ⟨n, rfl⟩ : ∃ j, n = j + 1 := ⟨n - 1, by omega⟩
    have ek : (nI k).toInt = (k : Int) := i_nI (by omega)
    have f1 := m_e1 (j := k) (k := 1) hu (by omega) eb ti_1 (by omega)
    have f61 := m_e1 (j := k) (k := 61) hu (by omega) eb ti_61 (by omega)
    have g1 : (bI + (1 : Int32) + nI k).toInt = ((167 + 121 * u + k : Nat) : Int) := by rw [f1]; congr 1; omega
    have g61 : (bI + (61 : Int32) + nI k).toInt = ((227 + 121 * u + k : Nat) : Int) := by rw [f61]; congr 1; omega
    obtain ⟨τ', w1, w2, w3, w4, w5⟩ := ih (k + 1) n (up (up τ 1 (167 + 121 * u + k) (τ 8 k)) 1 (227 + 121 * u + k) (τ 9 k)) (by omega) (by omega) (by rw [up_k (by decide), up_k (by decide)]; exact e)
    refine ⟨τ', ?_, fun r hr => by rw [w2 r hr, up_row hr, up_row hr], fun j hj => by rw [w3 j hj, up_i (by omega), up_i (by omega)], fun j a b => ?_, fun j a => ?_⟩
    · rw [f_X10_text_117]
      unfold f_X10_text_117_b
      rw [e, if_neg (nI_ge (show k < c by omega) (by omega)), ck_k ek (by omega), ck_k g1 (by omega), tn_k g1, rd_k ek, lt_a, ck_k ek (by omega), ck_k g61 (by omega), tn_k g61, rd_k ek, up_row (show 9 ≠ 1 by decide), lt_a, lt_a, nI_1]
      exact w1
    · by_cases q : j = k
      · subst q
        obtain ⟨x1, x2⟩ := w5 j (by omega)
        rw [x1, x2, up_i (by omega), up_s, up_s]
        exact ⟨rfl, rfl⟩
      · obtain ⟨x1, x2⟩ := w4 j (by omega) b
        rw [x1, x2, up_row (by decide), up_row (by decide), up_row (by decide), up_row (by decide)]
        exact ⟨rfl, rfl⟩
    · obtain ⟨x1, x2⟩ := w5 j (by omega)
      rw [x1, x2, up_i (by omega), up_i (by omega), up_i (by omega), up_i (by omega)]
      exact ⟨rfl, rfl⟩
theorem fr_sim {σ τ σ0 τ0 σ' τ' : Sg} (h : Sim σ τ) (e0 : ∀ k, k ≠ 3 → k ≠ 56 → σ0 k = σ k) (m0 : (∀ k, k ≠ 0 → τ0 k = τ k) ∧ ∀ j, (j < 12 ∨ 16 < j) → τ0 0 j = τ 0 j) (fx : FrX σ0 σ') (fm : FrM τ0 τ') : Sim σ' τ' := by
  refine Sim_eq h (fun k hk => ?_) ?_
  · have n1 : k ≠ 3 ∧ k ≠ 56 ∧ k ≠ 74 := ⟨fun e => by subst e; exact absurd hk (by decide), fun e => by subst e; exact absurd hk (by decide), fun e => by subst e; exact absurd hk (by decide)⟩
    rw [fx k n1.1 n1.2.1 n1.2.2, e0 k n1.1 n1.2.1]
  · have r : ∀ k, k ≠ 0 → k ≠ 8 → k ≠ 9 → τ' k = τ k := fun k a b c => (fm.1 k a b c).trans (m0.1 k a)
    exact ⟨r 1 (by decide) (by decide) (by decide), r 2 (by decide) (by decide) (by decide), r 4 (by decide) (by decide) (by decide), r 5 (by decide) (by decide) (by decide), r 6 (by decide) (by decide) (by decide), r 7 (by decide) (by decide) (by decide), r 13 (by decide) (by decide) (by decide), (fm.2 3 (by omega)).trans (m0.2 3 (by omega)), (fm.2 19 (by omega)).trans (m0.2 19 (by omega))⟩
theorem eq_text {σ τ : Sg} (h : Sim σ τ) (a : Int32) : Ok (f_X9_text a σ) (f_X10_text a τ) := by
  unfold f_X9_text f_X10_text
  simp only [x_isIn, m_in, x_err1, m_err1, bnd_s, if01]
  by_cases ha : 0 ≤ a ∧ a ≤ 1
  · rw [if_pos ha, if_pos ha]
    simp only [i_le, ti_0, ti_1] at ha
    obtain ⟨u, hu, rfl⟩ := nI_ofi (a := a) (n := 2) ha.1 (by omega)
    have eu : (nI u).toInt = (u : Int) := i_nI (by omega)
    obtain ⟨b1, b2, b3, b4, ⟨t, ht, t1, t2, t3⟩, b6, b7⟩ := h.1
    have e0 : ∀ k, k ≠ 3 → k ≠ 56 → up (up (up (up σ 3 1 (Int32.ofNat 44)) 3 2 (nI u)) 3 3 0) 56 1 0 k = σ k := fun k p q => by rw [up_row q, up_row p, up_row p, up_row p]
    have m0 : (∀ k, k ≠ 0 → up (up (up (up (up τ 0 16 (nI u)) 0 12 0) 0 13 0) 0 14 0) 0 15 0 k = τ k) ∧ ∀ j, (j < 12 ∨ 16 < j) → up (up (up (up (up τ 0 16 (nI u)) 0 12 0) 0 13 0) 0 14 0) 0 15 0 0 j = τ 0 j := ⟨fun k p => by rw [up_row p, up_row p, up_row p, up_row p, up_row p], fun j hj => by rw [up_i (by omega), up_i (by omega), up_i (by omega), up_i (by omega), up_i (by omega)]⟩
    have bs : BS (up (up (up (up σ 3 1 (Int32.ofNat 44)) 3 2 (nI u)) 3 3 0) 56 1 0) (up (up (up (up (up τ 0 16 (nI u)) 0 12 0) 0 13 0) 0 14 0) 0 15 0) t u := by
      refine ⟨ht, hu, by rw [e0 44 (by decide) (by decide)]; exact t1, by rw [m0.1 1 (by decide)]; exact t2, fun j hj => by rw [m0.1 1 (by decide), e0 62 (by decide) (by decide)]; exact t3 j hj, ?_⟩
      rw [up_i (by decide), up_i (by decide), up_i (by decide), up_i (by decide), up_s]
    have pr0 : PR (up (up (up (up σ 3 1 (Int32.ofNat 44)) 3 2 (nI u)) 3 3 0) 56 1 0) (up (up (up (up (up τ 0 16 (nI u)) 0 12 0) 0 13 0) 0 14 0) 0 15 0) t u 0 0 0 0 (up (up (up (up σ 3 1 (Int32.ofNat 44)) 3 2 (nI u)) 3 3 0) 56 1 0) (up (up (up (up (up τ 0 16 (nI u)) 0 12 0) 0 13 0) 0 14 0) 0 15 0) := by
      refine ⟨fun _ _ _ _ => rfl, ⟨fun _ _ _ _ => rfl, fun _ _ => rfl⟩, ?_, ?_, ?_, ?_, by omega, ?_, ?_, by omega, ?_, ?_, fun j hj => absurd hj (by omega), rfl, by omega⟩
      · rw [up_k (by decide), up_i (by decide), up_i (by decide), up_s]; rfl
      · rw [up_k (by decide), up_i (by decide), up_s]
      · rw [up_k (by decide), up_s]; rfl
      · rw [up_i (by decide), up_i (by decide), up_s]; rfl
      · rw [up_s]; rfl
      · rw [up_i (by decide), up_i (by decide), up_i (by decide), up_s]; rfl
      · rw [up_i (by decide), up_s]; rfl
      · rw [up_s]
    unfold f_X4_reads f_X6_clear
    simp only [lt_a, bnd_s]
    generalize up (up (up (up σ 3 1 (Int32.ofNat 44)) 3 2 (nI u)) 3 3 0) 56 1 0 = σ0 at *
    generalize up (up (up (up (up τ 0 16 (nI u)) 0 12 0) 0 13 0) 0 14 0) 0 15 0 = τ0 at *
    have rej : ∀ p σ' τ', FrX σ0 σ' ∧ FrM τ0 τ' ∧ σ' 3 3 = nI p ∧ τ' 0 13 = nI p → Ok (some ((-10 : Int32) - up σ' 44 1 0 3 3, up σ' 44 1 0)) (f_X10_text_71 (nI u) (1 : Int32) τ') := by
      rintro p σ' τ' ⟨f1, f2, f3, f4⟩
      unfold f_X10_text_71
      rw [ckb_t (show isb (1 : Int32) = true from rfl), lt_a, ck_5, tn_5, lt_a, up_k (by decide), f3, up_k (by decide), up_s, if_neg (show ¬ (1 : Int32) = 0 by decide), up_k (by decide), up_i (by decide), f4]
      refine Ok.mk (Sim.untape ?_)
      refine fr_sim h e0 m0 f1 ⟨fun k p1 p2 p3 => by rw [up_row p1]; exact f2.1 k p1 p2 p3, fun j hj => by rw [up_i (by omega)]; exact f2.2 j hj⟩
    rcases text_spec bs 0 0 0 _ _ pr0 with ⟨p', c', σ', τ', w1, w2, w3, w4, w5⟩ | ⟨p', σ', τ', w1, w2, w3⟩
    · obtain ⟨h1, h2, h3, h4, h5, h6, h7, h8, h9, h10, h11, h12, h13, h14, h15⟩ := w3
      have s44 : σ' 44 1 = nI t := by rw [h1 44 (by decide) (by decide) (by decide)]; exact bs.2.2.1
      have r5 : τ' 1 5 = nI t := by rw [h2.1 1 (by decide) (by decide) (by decide)]; exact bs.2.2.2.1
      rw [w1, w2, bnd_s, bnd_s, if_neg (show ¬ (1 : Int32) = 0 by decide), h12, if_pos rfl, ck_5, rd_5, r5, h5, s44, h6]
      by_cases q : p' = t
      · subst q
        rw [if_pos rfl, bnd_s, if_neg (show ¬ (1 : Int32) = 0 by decide), if_pos (nI_le (Nat.le_refl _) (by omega)), ck_k eu hu, tn_k eu]
        have c0 : 0 < c' := by
          rcases Nat.eq_zero_or_pos c' with z | z
          · subst z; rw [dp] at h14; omega
          · exact z
        have e121 : ((121 : Int32) * nI u).toInt = 121 * (u : Int) := by
          have q : (121 : Int32).toInt = 121 := rfl
          rw [i_mul (by rw [eu, q]; omega) (by rw [eu, q]; omega), eu, q]
        have eb : ((166 : Int32) + ((121 : Int32) * nI u)).toInt = ((166 + 121 * u : Nat) : Int) := by rw [i_add (by rw [e121, ti_166]; omega) (by rw [e121, ti_166]; omega), e121, ti_166]; omega
        have k60 : capC (48 + u + 18) = 60 := cap_cd hu
        obtain ⟨σ2, x1, x2, x3, x4⟩ := x_rowcopy (o0 := 48 + u) (o1 := 56) (by omega) (by omega) (by omega) (by omega) (by omega) (t := c') (by omega) (by show c' ≤ 60; omega) (up σ' 44 1 0) (by rw [up_k (by decide)]; exact h8)
        unfold f_X1_take f_X10_text_71
        rw [show 40 + u + 8 = 48 + u by omega, x1, bnd_s, lt_a, bnd_s, ckb_t (show isb (0 : Int32) = true from rfl), lt_a, up_same h12, ck_5, tn_5, lt_a, up_k (by decide), h12, if_pos rfl, lt_a, ck_k eb (by omega), tn_k eb, lt_a, up_k (by decide), h9]
        obtain ⟨τ2, y1, y2, y3, y4, y5⟩ := m_t117 hu (show c' ≤ 60 by omega) eb c' 0 fuN (up (up τ' 1 5 0) 1 (166 + 121 * u) (nI c')) (by omega) (by have := fu_le; omega) (by rw [up_k (by decide), up_k (by decide)]; exact h9)
        rw [nI_0] at y1
        rw [y1]
        have s1 : Sim (up σ' 44 1 0) (up τ' 1 5 0) := Sim.untape (fr_sim h e0 m0 h1 h2)
        refine Ok.mk (s1.law hu (show c' ≤ 60 by omega) c0 (fun k p q r => by rw [up_row p, x2 k q (by omega)]) (fun k p => by rw [y2 k p, up_row p]) (fun j hj => by rw [y3 j (by omega), up_i (by omega)]) up_s (by rw [up_k (by omega)]; exact x3) (by rw [y3 _ (by omega), up_s]) ?_)
        have cod : Cod c' (σ' 74) (τ' 8) (τ' 9) := ⟨h13, h14⟩
        refine Cod_congr cod (fun j hj => ?_) (fun j hj => ?_) (fun j hj => ?_)
        · rw [up_row (by omega), show 66 + u = 48 + u + 18 by omega, x4 j hj, up_row (by decide)]
        · have := (y4 j (by omega) hj).1
          rw [up_row (by decide), up_row (by decide)] at this
          exact this
        · have := (y4 j (by omega) hj).2
          rw [up_row (by decide), up_row (by decide)] at this
          exact this
      · have nt : ¬ nI p' = nI t := fun e => q (m_same_n (by omega) (by omega) e)
        rw [if_neg nt, bnd_s, if_pos rfl, if_neg (nI_ge (by omega) (by omega))]
        exact rej p' σ' τ' ⟨h1, h2, h5, h6⟩
    · rw [w1, w2, bnd_s, bnd_s, if_pos rfl, bnd_s, if_pos rfl, w3.2.2.2.2.2.1, if_neg (show ¬ (1 : Int32) = 0 by decide)]
      exact rej p' σ' τ' ⟨w3.1, w3.2.1, w3.2.2.1, w3.2.2.2.1⟩
  · rw [if_neg ha, if_neg ha]
    exact Ok.err h 1 (by decide)
end
section
theorem ckL {L i k : Nat} {kI : Int32} (hk : kI.toInt = (k : Int)) (h : i + 6 ≤ L) (hL : L ≤ 3072) (k5 : k ≤ 5) (x : Option (Int32 × Sg)) : ckb (inb (nI i + kI) L) x = x := by
  have ei : (nI i).toInt = (i : Int) := i_nI (by omega)
  have e : (nI i + kI).toInt = ((i + k : Nat) : Int) := by rw [i_add (by rw [ei, hk]; omega) (by rw [ei, hk]; omega), ei, hk]; omega
  exact ck_k e (by omega)
theorem ite_ex {c : Prop} [Decidable c] {A B : Option (Int32 × Sg)} (hA : ∃ σ', A = some (1, σ')) (hB : ∃ σ', B = some (1, σ')) : ∃ σ', (if c then A else B) = some (1, σ') := by
  by_cases h : c
  · rw [if_pos h]; exact hA
  · rw [if_neg h]; exact hB
theorem lfin {X M : Option (Int32 × Sg)} (h : Ok X M) {rec : Int32 → Sg → Sg → Option (Int32 × Sg)} {a : Int32} (hrec : ∀ σ τ, Sim σ τ → ∃ σ', rec (a + (6 : Int32)) σ τ = some (1, σ')) : ∃ σ', bnd X (fun r1 s2 => bnd M (fun r3 t4 => if r1 = r3 then lt (a + (6 : Int32)) (fun v => rec v s2 t4) else some ((0 : Int32), cmb s2 t4))) = some (1, σ') := by
  obtain ⟨r, σ', τ', x, m, s⟩ := h
  rw [x, m, bnd_s, bnd_s, if_pos rfl, lt_a]
  exact hrec σ' τ' s
theorem lfinO {X M : Option (Int64 × Sg)} (h : ∃ (r : Int64) (σ' τ' : Sg), X = some (r, σ') ∧ M = some (r, τ') ∧ Sim σ' τ') {rec : Int32 → Sg → Sg → Option (Int32 × Sg)} {a : Int32} (hrec : ∀ σ τ, Sim σ τ → ∃ σ', rec (a + (6 : Int32)) σ τ = some (1, σ')) : ∃ σ', bnd X (fun r1 s2 => bnd M (fun r3 t4 => if (lg_cmp r1 r3) = 0 then lt (a + (6 : Int32)) (fun v => rec v s2 t4) else some ((0 : Int32), cmb s2 t4))) = some (1, σ') := by
  obtain ⟨r, σ', τ', x, m, s⟩ := h
  rw [x, m, bnd_s, bnd_s, if_pos ((lg_cmp_eq r r).mpr rfl), lt_a]
  exact hrec σ' τ' s
theorem lc_0 {L i : Nat} (h : i + 6 ≤ L) (hL : L ≤ 3072) (xs : Nat → Int32) {rec : Int32 → Sg → Sg → Option (Int32 × Sg)} {σ τ : Sg} (s : Sim σ τ) (hrec : ∀ σ τ, Sim σ τ → ∃ σ', rec (nI i + (6 : Int32)) σ τ = some (1, σ')) : ∃ σ', f_law_c0 L xs rec (nI i) σ τ = some (1, σ') := by
  unfold f_law_c0
  simp only [ckL (kI := 1) (k := 1) rfl h hL (by decide), ckL (kI := 2) (k := 2) rfl h hL (by decide), ckL (kI := 3) (k := 3) rfl h hL (by decide), ckL (kI := 4) (k := 4) rfl h hL (by decide)]
  exact lfin (eq_write s _ _ _ _) hrec
theorem lc_1 {L i : Nat} (h : i + 6 ≤ L) (hL : L ≤ 3072) (xs : Nat → Int32) {rec : Int32 → Sg → Sg → Option (Int32 × Sg)} {σ τ : Sg} (s : Sim σ τ) (hrec : ∀ σ τ, Sim σ τ → ∃ σ', rec (nI i + (6 : Int32)) σ τ = some (1, σ')) : ∃ σ', f_law_c1 L xs rec (nI i) σ τ = some (1, σ') := by
  unfold f_law_c1
  simp only [ckL (kI := 1) (k := 1) rfl h hL (by decide), ckL (kI := 2) (k := 2) rfl h hL (by decide)]
  exact lfin (eq_lineIs s _ _) hrec
theorem lc_2 {L i : Nat} (h : i + 6 ≤ L) (hL : L ≤ 3072) (xs : Nat → Int32) {rec : Int32 → Sg → Sg → Option (Int32 × Sg)} {σ τ : Sg} (s : Sim σ τ) (hrec : ∀ σ τ, Sim σ τ → ∃ σ', rec (nI i + (6 : Int32)) σ τ = some (1, σ')) : ∃ σ', f_law_c2 L xs rec (nI i) σ τ = some (1, σ') := by
  unfold f_law_c2
  simp only [ckL (kI := 1) (k := 1) rfl h hL (by decide), ckL (kI := 2) (k := 2) rfl h hL (by decide)]
  exact lfin (eq_become s _ _) hrec
theorem lc_3 {L i : Nat} (h : i + 6 ≤ L) (hL : L ≤ 3072) (xs : Nat → Int32) {rec : Int32 → Sg → Sg → Option (Int32 × Sg)} {σ τ : Sg} (s : Sim σ τ) (hrec : ∀ σ τ, Sim σ τ → ∃ σ', rec (nI i + (6 : Int32)) σ τ = some (1, σ')) : ∃ σ', f_law_c3 L xs rec (nI i) σ τ = some (1, σ') := by
  unfold f_law_c3
  simp only [ckL (kI := 1) (k := 1) rfl h hL (by decide), ckL (kI := 2) (k := 2) rfl h hL (by decide)]
  exact lfin (eq_as s _ _) hrec
theorem lc_4 {L i : Nat} (h : i + 6 ≤ L) (hL : L ≤ 3072) (xs : Nat → Int32) {rec : Int32 → Sg → Sg → Option (Int32 × Sg)} {σ τ : Sg} (s : Sim σ τ) (hrec : ∀ σ τ, Sim σ τ → ∃ σ', rec (nI i + (6 : Int32)) σ τ = some (1, σ')) : ∃ σ', f_law_c4 L xs rec (nI i) σ τ = some (1, σ') := by
  unfold f_law_c4
  simp only [ckL (kI := 1) (k := 1) rfl h hL (by decide), ckL (kI := 2) (k := 2) rfl h hL (by decide)]
  exact lfin (eq_photo s _ _) hrec
theorem lc_5 {L i : Nat} (h : i + 6 ≤ L) (hL : L ≤ 3072) (xs : Nat → Int32) {rec : Int32 → Sg → Sg → Option (Int32 × Sg)} {σ τ : Sg} (s : Sim σ τ) (hrec : ∀ σ τ, Sim σ τ → ∃ σ', rec (nI i + (6 : Int32)) σ τ = some (1, σ')) : ∃ σ', f_law_c5 L xs rec (nI i) σ τ = some (1, σ') := by
  unfold f_law_c5
  simp only [ckL (kI := 1) (k := 1) rfl h hL (by decide)]
  exact lfin (eq_wipe s _) hrec
theorem lc_6 {L i : Nat} (h : i + 6 ≤ L) (hL : L ≤ 3072) (xs : Nat → Int32) {rec : Int32 → Sg → Sg → Option (Int32 × Sg)} {σ τ : Sg} (s : Sim σ τ) (hrec : ∀ σ τ, Sim σ τ → ∃ σ', rec (nI i + (6 : Int32)) σ τ = some (1, σ')) : ∃ σ', f_law_c6 L xs rec (nI i) σ τ = some (1, σ') := by
  unfold f_law_c6
  simp only [ckL (kI := 1) (k := 1) rfl h hL (by decide), ckL (kI := 2) (k := 2) rfl h hL (by decide)]
  exact lfin (eq_pen s _ _) hrec
theorem lc_7 {L i : Nat} (h : i + 6 ≤ L) (hL : L ≤ 3072) (xs : Nat → Int32) {rec : Int32 → Sg → Sg → Option (Int32 × Sg)} {σ τ : Sg} (s : Sim σ τ) (hrec : ∀ σ τ, Sim σ τ → ∃ σ', rec (nI i + (6 : Int32)) σ τ = some (1, σ')) : ∃ σ', f_law_c7 L xs rec (nI i) σ τ = some (1, σ') := by
  unfold f_law_c7
  simp only [ckL (kI := 1) (k := 1) rfl h hL (by decide)]
  exact lfin (eq_spirit s _) hrec
theorem lc_8 {L i : Nat} (h : i + 6 ≤ L) (hL : L ≤ 3072) (xs : Nat → Int32) {rec : Int32 → Sg → Sg → Option (Int32 × Sg)} {σ τ : Sg} (s : Sim σ τ) (hrec : ∀ σ τ, Sim σ τ → ∃ σ', rec (nI i + (6 : Int32)) σ τ = some (1, σ')) : ∃ σ', f_law_c8 L xs rec (nI i) σ τ = some (1, σ') := by
  unfold f_law_c8
  simp only [ckL (kI := 1) (k := 1) rfl h hL (by decide), ckL (kI := 2) (k := 2) rfl h hL (by decide), ckL (kI := 3) (k := 3) rfl h hL (by decide)]
  exact lfin (eq_feed s _ _) hrec
theorem lc_9 {L i : Nat} (h : i + 6 ≤ L) (hL : L ≤ 3072) (xs : Nat → Int32) {rec : Int32 → Sg → Sg → Option (Int32 × Sg)} {σ τ : Sg} (s : Sim σ τ) (hrec : ∀ σ τ, Sim σ τ → ∃ σ', rec (nI i + (6 : Int32)) σ τ = some (1, σ')) : ∃ σ', f_law_c9 L xs rec (nI i) σ τ = some (1, σ') := by
  unfold f_law_c9
  simp only [ckL (kI := 1) (k := 1) rfl h hL (by decide)]
  exact lfin (eq_text s _) hrec
theorem lc_10 {L i : Nat} (h : i + 6 ≤ L) (hL : L ≤ 3072) (xs : Nat → Int32) {rec : Int32 → Sg → Sg → Option (Int32 × Sg)} {σ τ : Sg} (s : Sim σ τ) (hrec : ∀ σ τ, Sim σ τ → ∃ σ', rec (nI i + (6 : Int32)) σ τ = some (1, σ')) : ∃ σ', f_law_c10 L xs rec (nI i) σ τ = some (1, σ') := by
  unfold f_law_c10
  simp only [ckL (kI := 1) (k := 1) rfl h hL (by decide)]
  exact lfin (eq_untell s _) hrec
theorem lc_11 {L i : Nat} (h : i + 6 ≤ L) (hL : L ≤ 3072) (xs : Nat → Int32) {rec : Int32 → Sg → Sg → Option (Int32 × Sg)} {σ τ : Sg} (s : Sim σ τ) (hrec : ∀ σ τ, Sim σ τ → ∃ σ', rec (nI i + (6 : Int32)) σ τ = some (1, σ')) : ∃ σ', f_law_c11 L xs rec (nI i) σ τ = some (1, σ') := by
  unfold f_law_c11
  simp only [ckL (kI := 1) (k := 1) rfl h hL (by decide), ckL (kI := 2) (k := 2) rfl h hL (by decide), ckL (kI := 3) (k := 3) rfl h hL (by decide), ckL (kI := 4) (k := 4) rfl h hL (by decide)]
  exact lfin (eq_law s _ _ _ _) hrec
theorem lc_12 {L i : Nat} (h : i + 6 ≤ L) (hL : L ≤ 3072) (xs : Nat → Int32) {rec : Int32 → Sg → Sg → Option (Int32 × Sg)} {σ τ : Sg} (s : Sim σ τ) (hrec : ∀ σ τ, Sim σ τ → ∃ σ', rec (nI i + (6 : Int32)) σ τ = some (1, σ')) : ∃ σ', f_law_c12 L xs rec (nI i) σ τ = some (1, σ') := by
  unfold f_law_c12
  simp only [ckL (kI := 1) (k := 1) rfl h hL (by decide)]
  exact lfin (eq_days s _) hrec
theorem lc_13 {L i : Nat} (h : i + 6 ≤ L) (hL : L ≤ 3072) (xs : Nat → Int32) {rec : Int32 → Sg → Sg → Option (Int32 × Sg)} {σ τ : Sg} (s : Sim σ τ) (hrec : ∀ σ τ, Sim σ τ → ∃ σ', rec (nI i + (6 : Int32)) σ τ = some (1, σ')) : ∃ σ', f_law_c13 L xs rec (nI i) σ τ = some (1, σ') := by
  unfold f_law_c13
  simp only [ckL (kI := 1) (k := 1) rfl h hL (by decide)]
  exact lfin (eq_loose s _) hrec
theorem lc_14 {L i : Nat} (h : i + 6 ≤ L) (hL : L ≤ 3072) (xs : Nat → Int32) {rec : Int32 → Sg → Sg → Option (Int32 × Sg)} {σ τ : Sg} (s : Sim σ τ) (hrec : ∀ σ τ, Sim σ τ → ∃ σ', rec (nI i + (6 : Int32)) σ τ = some (1, σ')) : ∃ σ', f_law_c14 L xs rec (nI i) σ τ = some (1, σ') := by
  unfold f_law_c14
  simp only [ckL (kI := 1) (k := 1) rfl h hL (by decide)]
  exact lfin (eq_seed s _) hrec
theorem lc_15 {L i : Nat} (h : i + 6 ≤ L) (hL : L ≤ 3072) (xs : Nat → Int32) {rec : Int32 → Sg → Sg → Option (Int32 × Sg)} {σ τ : Sg} (s : Sim σ τ) (hrec : ∀ σ τ, Sim σ τ → ∃ σ', rec (nI i + (6 : Int32)) σ τ = some (1, σ')) : ∃ σ', f_law_c15 L xs rec (nI i) σ τ = some (1, σ') := by
  unfold f_law_c15
  simp only [ckL (kI := 1) (k := 1) rfl h hL (by decide)]
  exact lfin (eq_free s _) hrec
theorem lc_16 {L i : Nat} (h : i + 6 ≤ L) (hL : L ≤ 3072) (xs : Nat → Int32) {rec : Int32 → Sg → Sg → Option (Int32 × Sg)} {σ τ : Sg} (s : Sim σ τ) (hrec : ∀ σ τ, Sim σ τ → ∃ σ', rec (nI i + (6 : Int32)) σ τ = some (1, σ')) : ∃ σ', f_law_c16 L xs rec (nI i) σ τ = some (1, σ') := by
  unfold f_law_c16
  simp only [ckL (kI := 1) (k := 1) rfl h hL (by decide)]
  exact lfin (eq_of s _) hrec
theorem lc_17 {L i : Nat} (h : i + 6 ≤ L) (hL : L ≤ 3072) (xs : Nat → Int32) {rec : Int32 → Sg → Sg → Option (Int32 × Sg)} {σ τ : Sg} (s : Sim σ τ) (hrec : ∀ σ τ, Sim σ τ → ∃ σ', rec (nI i + (6 : Int32)) σ τ = some (1, σ')) : ∃ σ', f_law_c17 L xs rec (nI i) σ τ = some (1, σ') := by
  unfold f_law_c17
  simp only [ckL (kI := 1) (k := 1) rfl h hL (by decide), ckL (kI := 2) (k := 2) rfl h hL (by decide)]
  exact lfin (eq_room s _ _) hrec
theorem lc_18 {L i : Nat} (h : i + 6 ≤ L) (hL : L ≤ 3072) (xs : Nat → Int32) {rec : Int32 → Sg → Sg → Option (Int32 × Sg)} {σ τ : Sg} (s : Sim σ τ) (hrec : ∀ σ τ, Sim σ τ → ∃ σ', rec (nI i + (6 : Int32)) σ τ = some (1, σ')) : ∃ σ', f_law_c18 L xs rec (nI i) σ τ = some (1, σ') := by
  unfold f_law_c18
  simp only [ckL (kI := 1) (k := 1) rfl h hL (by decide), ckL (kI := 2) (k := 2) rfl h hL (by decide)]
  exact lfin (eq_when s _ _) hrec
theorem lc_19 {L i : Nat} (h : i + 6 ≤ L) (hL : L ≤ 3072) (xs : Nat → Int32) {rec : Int32 → Sg → Sg → Option (Int32 × Sg)} {σ τ : Sg} (s : Sim σ τ) (hrec : ∀ σ τ, Sim σ τ → ∃ σ', rec (nI i + (6 : Int32)) σ τ = some (1, σ')) : ∃ σ', f_law_c19 L xs rec (nI i) σ τ = some (1, σ') := by
  unfold f_law_c19
  simp only [ckL (kI := 1) (k := 1) rfl h hL (by decide)]
  exact lfin (eq_clears s _) hrec
theorem lc_20 {L i : Nat} (h : i + 6 ≤ L) (hL : L ≤ 3072) (xs : Nat → Int32) {rec : Int32 → Sg → Sg → Option (Int32 × Sg)} {σ τ : Sg} (s : Sim σ τ) (hrec : ∀ σ τ, Sim σ τ → ∃ σ', rec (nI i + (6 : Int32)) σ τ = some (1, σ')) : ∃ σ', f_law_c20 L xs rec (nI i) σ τ = some (1, σ') := by
  unfold f_law_c20
  simp only [ckL (kI := 1) (k := 1) rfl h hL (by decide)]
  exact lfin (eq_parts s _) hrec
theorem lc_21 {L i : Nat} (h : i + 6 ≤ L) (hL : L ≤ 3072) (xs : Nat → Int32) {rec : Int32 → Sg → Sg → Option (Int32 × Sg)} {σ τ : Sg} (s : Sim σ τ) (hrec : ∀ σ τ, Sim σ τ → ∃ σ', rec (nI i + (6 : Int32)) σ τ = some (1, σ')) : ∃ σ', f_law_c21 L xs rec (nI i) σ τ = some (1, σ') := by
  unfold f_law_c21
  simp only [ckL (kI := 1) (k := 1) rfl h hL (by decide), ckL (kI := 2) (k := 2) rfl h hL (by decide)]
  exact lfinO (eq_odds s _ _) hrec
theorem lc_22 {L i : Nat} (h : i + 6 ≤ L) (hL : L ≤ 3072) (xs : Nat → Int32) {rec : Int32 → Sg → Sg → Option (Int32 × Sg)} {σ τ : Sg} (s : Sim σ τ) (hrec : ∀ σ τ, Sim σ τ → ∃ σ', rec (nI i + (6 : Int32)) σ τ = some (1, σ')) : ∃ σ', f_law_c22 L xs rec (nI i) σ τ = some (1, σ') := by
  unfold f_law_c22
  simp only [ckL (kI := 1) (k := 1) rfl h hL (by decide)]
  exact lfin (eq_fits s _) hrec
theorem lc_23 {L i : Nat} (h : i + 6 ≤ L) (hL : L ≤ 3072) (xs : Nat → Int32) {rec : Int32 → Sg → Sg → Option (Int32 × Sg)} {σ τ : Sg} (s : Sim σ τ) (hrec : ∀ σ τ, Sim σ τ → ∃ σ', rec (nI i + (6 : Int32)) σ τ = some (1, σ')) : ∃ σ', f_law_c23 L xs rec (nI i) σ τ = some (1, σ') := by
  unfold f_law_c23
  simp only [ckL (kI := 1) (k := 1) rfl h hL (by decide), ckL (kI := 2) (k := 2) rfl h hL (by decide), ckL (kI := 3) (k := 3) rfl h hL (by decide)]
  exact lfin (eq_voice s _ _ _) hrec
theorem lc_24 {L i : Nat} (h : i + 6 ≤ L) (hL : L ≤ 3072) (xs : Nat → Int32) {rec : Int32 → Sg → Sg → Option (Int32 × Sg)} {σ τ : Sg} (s : Sim σ τ) (hrec : ∀ σ τ, Sim σ τ → ∃ σ', rec (nI i + (6 : Int32)) σ τ = some (1, σ')) : ∃ σ', f_law_c24 L xs rec (nI i) σ τ = some (1, σ') := by
  unfold f_law_c24
  simp only [ckL (kI := 1) (k := 1) rfl h hL (by decide)]
  exact lfin (eq_body s _) hrec
theorem lc_25 {L i : Nat} (h : i + 6 ≤ L) (hL : L ≤ 3072) (xs : Nat → Int32) {rec : Int32 → Sg → Sg → Option (Int32 × Sg)} {σ τ : Sg} (s : Sim σ τ) (hrec : ∀ σ τ, Sim σ τ → ∃ σ', rec (nI i + (6 : Int32)) σ τ = some (1, σ')) : ∃ σ', f_law_c25 L xs rec (nI i) σ τ = some (1, σ') := by
  unfold f_law_c25
  simp only [ckL (kI := 1) (k := 1) rfl h hL (by decide), ckL (kI := 2) (k := 2) rfl h hL (by decide), ckL (kI := 3) (k := 3) rfl h hL (by decide)]
  exact lfin (eq_sheet s _ _ _) hrec
theorem lc_26 {L i : Nat} (h : i + 6 ≤ L) (hL : L ≤ 3072) (xs : Nat → Int32) {rec : Int32 → Sg → Sg → Option (Int32 × Sg)} {σ τ : Sg} (s : Sim σ τ) (hrec : ∀ σ τ, Sim σ τ → ∃ σ', rec (nI i + (6 : Int32)) σ τ = some (1, σ')) : ∃ σ', f_law_c26 L xs rec (nI i) σ τ = some (1, σ') := by
  unfold f_law_c26
  simp only [ckL (kI := 1) (k := 1) rfl h hL (by decide), ckL (kI := 2) (k := 2) rfl h hL (by decide), ckL (kI := 3) (k := 3) rfl h hL (by decide)]
  exact lfin (eq_put s _ _ _) hrec
theorem lc_27 {L i : Nat} (h : i + 6 ≤ L) (hL : L ≤ 3072) (xs : Nat → Int32) {rec : Int32 → Sg → Sg → Option (Int32 × Sg)} {σ τ : Sg} (s : Sim σ τ) (hrec : ∀ σ τ, Sim σ τ → ∃ σ', rec (nI i + (6 : Int32)) σ τ = some (1, σ')) : ∃ σ', f_law_c27 L xs rec (nI i) σ τ = some (1, σ') := by
  unfold f_law_c27
  simp only [ckL (kI := 1) (k := 1) rfl h hL (by decide), ckL (kI := 2) (k := 2) rfl h hL (by decide), ckL (kI := 3) (k := 3) rfl h hL (by decide), ckL (kI := 4) (k := 4) rfl h hL (by decide), ckL (kI := 5) (k := 5) rfl h hL (by decide)]
  exact lfin (eq_move s _ _ _ _ _) hrec
theorem lc_28 {L i : Nat} (h : i + 6 ≤ L) (hL : L ≤ 3072) (xs : Nat → Int32) {rec : Int32 → Sg → Sg → Option (Int32 × Sg)} {σ τ : Sg} (s : Sim σ τ) (hrec : ∀ σ τ, Sim σ τ → ∃ σ', rec (nI i + (6 : Int32)) σ τ = some (1, σ')) : ∃ σ', f_law_c28 L xs rec (nI i) σ τ = some (1, σ') := by
  unfold f_law_c28
  simp only [ckL (kI := 1) (k := 1) rfl h hL (by decide)]
  exact lfin (eq_dates s _) hrec
theorem lc_29 {L i : Nat} (h : i + 6 ≤ L) (hL : L ≤ 3072) (xs : Nat → Int32) {rec : Int32 → Sg → Sg → Option (Int32 × Sg)} {σ τ : Sg} (s : Sim σ τ) (hrec : ∀ σ τ, Sim σ τ → ∃ σ', rec (nI i + (6 : Int32)) σ τ = some (1, σ')) : ∃ σ', f_law_c29 L xs rec (nI i) σ τ = some (1, σ') := by
  unfold f_law_c29
  simp only [ckL (kI := 1) (k := 1) rfl h hL (by decide)]
  exact lfin (eq_judge s _) hrec
theorem lc_30 {L i : Nat} (h : i + 6 ≤ L) (hL : L ≤ 3072) (xs : Nat → Int32) {rec : Int32 → Sg → Sg → Option (Int32 × Sg)} {σ τ : Sg} (s : Sim σ τ) (hrec : ∀ σ τ, Sim σ τ → ∃ σ', rec (nI i + (6 : Int32)) σ τ = some (1, σ')) : ∃ σ', f_law_c30 L xs rec (nI i) σ τ = some (1, σ') := by
  unfold f_law_c30
  exact lfin (eq_image s) hrec
theorem lc_31 {L i : Nat} (h : i + 6 ≤ L) (hL : L ≤ 3072) (xs : Nat → Int32) {rec : Int32 → Sg → Sg → Option (Int32 × Sg)} {σ τ : Sg} (s : Sim σ τ) (hrec : ∀ σ τ, Sim σ τ → ∃ σ', rec (nI i + (6 : Int32)) σ τ = some (1, σ')) : ∃ σ', f_law_c31 L xs rec (nI i) σ τ = some (1, σ') := by
  unfold f_law_c31
  exact lfin (eq_restore s) hrec
theorem lc_32 {L i : Nat} (h : i + 6 ≤ L) (hL : L ≤ 3072) (xs : Nat → Int32) {rec : Int32 → Sg → Sg → Option (Int32 × Sg)} {σ τ : Sg} (s : Sim σ τ) (hrec : ∀ σ τ, Sim σ τ → ∃ σ', rec (nI i + (6 : Int32)) σ τ = some (1, σ')) : ∃ σ', f_law_c32 L xs rec (nI i) σ τ = some (1, σ') := by
  unfold f_law_c32
  simp only [ckL (kI := 1) (k := 1) rfl h hL (by decide)]
  exact lfin (eq_tell s _) hrec
theorem lc_33 {L i : Nat} (h : i + 6 ≤ L) (hL : L ≤ 3072) (xs : Nat → Int32) {rec : Int32 → Sg → Sg → Option (Int32 × Sg)} {σ τ : Sg} (s : Sim σ τ) (hrec : ∀ σ τ, Sim σ τ → ∃ σ', rec (nI i + (6 : Int32)) σ τ = some (1, σ')) : ∃ σ', f_law_c33 L xs rec (nI i) σ τ = some (1, σ') := by
  unfold f_law_c33
  exact lfin (eq_check s) hrec
theorem lc_34 {L i : Nat} (h : i + 6 ≤ L) (hL : L ≤ 3072) (xs : Nat → Int32) {rec : Int32 → Sg → Sg → Option (Int32 × Sg)} {σ τ : Sg} (s : Sim σ τ) (hrec : ∀ σ τ, Sim σ τ → ∃ σ', rec (nI i + (6 : Int32)) σ τ = some (1, σ')) : ∃ σ', f_law_c34 L xs rec (nI i) σ τ = some (1, σ') := by
  unfold f_law_c34
  simp only [ckL (kI := 1) (k := 1) rfl h hL (by decide)]
  exact lfin (eq_count s _) hrec
theorem lc_35 {L i : Nat} (h : i + 6 ≤ L) (hL : L ≤ 3072) (xs : Nat → Int32) {rec : Int32 → Sg → Sg → Option (Int32 × Sg)} {σ τ : Sg} (s : Sim σ τ) (hrec : ∀ σ τ, Sim σ τ → ∃ σ', rec (nI i + (6 : Int32)) σ τ = some (1, σ')) : ∃ σ', f_law_c35 L xs rec (nI i) σ τ = some (1, σ') := by
  unfold f_law_c35
  simp only [ckL (kI := 1) (k := 1) rfl h hL (by decide)]
  exact lfin (eq_told s _) hrec
theorem s0X_z {k : Nat} (h1 : k ≠ 1) (h2 : k ≠ 2) (h3 : k ≠ 3) (h4 : k ≠ 16) (h5 : k ≠ 17) : s0X k = fun _ => 0 := by
  unfold s0X
  rw [if_neg h1, if_neg h2, if_neg h3, if_neg h4, if_neg h5]
theorem s0M_z {k : Nat} (h1 : k ≠ 1) : s0M k = fun _ => 0 := by
  unfold s0M
  rw [if_neg h1]
theorem sim0 : Sim s0X s0M := by
  refine ⟨?_, ?_, fun hz => ?_, fun k a b => ?_, fun u hu => ?_, ?_⟩
  · refine ⟨?_, fun p hp => ?_, ⟨0, by omega, rfl, rfl, fun l hl => absurd hl (by omega)⟩, fun l hl => ?_, ⟨0, by omega, ?_, rfl, fun j hj => absurd hj (by omega)⟩, ⟨0, by omega, ?_, rfl, fun j hj => absurd hj (by omega)⟩, fun u hu => ?_⟩
    · refine ⟨rfl, by decide, by decide, rfl, Or.inl rfl, rfl, by decide, by decide, rfl⟩
    · have c : p = 0 ∨ p = 1 ∨ p = 2 ∨ p = 3 ∨ p = 4 := by omega
      rcases c with rfl | rfl | rfl | rfl | rfl <;> exact ⟨rfl, by decide, by decide⟩
    · left
      show s0X (20 + l) 6 = 0
      rw [s0X_z (by omega) (by omega) (by omega) (by omega) (by omega)]
    · rw [s0X_z (by omega) (by omega) (by omega) (by omega) (by omega)]; rfl
    · rw [s0X_z (by omega) (by omega) (by omega) (by omega) (by omega)]; rfl
    · refine ⟨0, by omega, ?_, Or.inl ⟨?_, ?_⟩⟩
      · show s0X (48 + u) 1 = nI 0
        rw [s0X_z (by omega) (by omega) (by omega) (by omega) (by omega)]; rfl
      · show s0X (40 + u) 0 = 0
        rw [s0X_z (by omega) (by omega) (by omega) (by omega) (by omega)]
      · have c : u = 0 ∨ u = 1 := by omega
        rcases c with rfl | rfl <;> rfl
  · rfl
  · exact absurd rfl hz
  · rw [s0X_z (by omega) (by omega) (by omega) (by omega) (by omega), s0M_z (by omega)]
  · rw [s0X_z (k := 10 + u) (by omega) (by omega) (by omega) (by omega) (by omega), s0X_z (k := 58 + u) (by omega) (by omega) (by omega) (by omega) (by omega), s0M_z (k := 5) (by omega), s0M_z (k := 6) (by omega), s0M_z (k := 7) (by omega)]
    exact ⟨rfl, Or.inl rfl, 0, by omega, rfl, rfl, fun j hj => absurd hj (by omega)⟩
  · exact ⟨0, by omega, rfl, rfl, fun j hj => absurd hj (by omega)⟩
theorem law_step {L : Nat} (hL : L ≤ 3072) (xs : Nat → Int32) : ∀ (d i n : Nat) (σ τ : Sg), L ≤ i + d → d < n → i ≤ L + 6 → Sim σ τ → ∃ σ', f_law L xs n (nI i) σ τ = some (1, σ') := by
  intro d
  have eL : (Int32.ofNat L - (6 : Int32)).toInt = (L : Int) - 6 := by
    have e : (Int32.ofNat L).toInt = (L : Int) := i_ofNat (by omega)
    rw [i_sub (by rw [e, ti_6]; omega) (by rw [e, ti_6]; omega), e, ti_6]
  have stop : ∀ (i n : Nat) (σ τ : Sg), L < i + 6 → i ≤ L + 6 → ∃ σ', f_law L xs (n + 1) (nI i) σ τ = some (1, σ') := by
    intro i n σ τ h1 h2
    rw [f_law]
    unfold f_law_b
    rw [if_pos (by rw [i_lt, eL, i_nI (by omega)]; omega)]
    exact ⟨_, rfl⟩
  induction d with
  | zero =>
    intro i n σ τ hi hn hi2 s
    obtain ⟨n, rfl⟩ : ∃ j, n = j + 1 := ⟨n - 1, by omega⟩
    exact stop i n σ τ (by omega) hi2
  | succ d ih =>
    intro i n σ τ hi hn hi2 s
    obtain ⟨n, rfl⟩ : ∃ j, n = j + 1 := ⟨n - 1, by omega⟩
    by_cases hs : L < i + 6
    · exact stop i n σ τ hs hi2
    · have h6 : i + 6 ≤ L := by omega
      have ei : (nI i).toInt = (i : Int) := i_nI (by omega)
      have e6 : nI i + (6 : Int32) = nI (i + 6) := by rw [show (6 : Int32) = nI 6 from rfl, nI_add]
      have hrec : ∀ σ τ, Sim σ τ → ∃ σ', f_law L xs n (nI i + (6 : Int32)) σ τ = some (1, σ') := by
        intro σ τ s
        rw [e6]
        exact ih (i + 6) n σ τ (by omega) (by omega) (by omega) s
      rw [f_law]
      unfold f_law_b
      rw [if_neg (by rw [i_lt, eL, ei]; omega), ck_k ei (by omega), lt_a]
      refine ite_ex (lc_0 h6 hL xs s hrec) (ite_ex (lc_1 h6 hL xs s hrec) (ite_ex (lc_2 h6 hL xs s hrec) (ite_ex (lc_3 h6 hL xs s hrec) (ite_ex (lc_4 h6 hL xs s hrec) (ite_ex (lc_5 h6 hL xs s hrec) (ite_ex (lc_6 h6 hL xs s hrec) (ite_ex (lc_7 h6 hL xs s hrec) (ite_ex (lc_8 h6 hL xs s hrec) (ite_ex (lc_9 h6 hL xs s hrec) (ite_ex (lc_10 h6 hL xs s hrec) (ite_ex (lc_11 h6 hL xs s hrec) (ite_ex (lc_12 h6 hL xs s hrec) (ite_ex (lc_13 h6 hL xs s hrec) (ite_ex (lc_14 h6 hL xs s hrec) (ite_ex (lc_15 h6 hL xs s hrec) (ite_ex (lc_16 h6 hL xs s hrec) (ite_ex (lc_17 h6 hL xs s hrec) (ite_ex (lc_18 h6 hL xs s hrec) (ite_ex (lc_19 h6 hL xs s hrec) (ite_ex (lc_20 h6 hL xs s hrec) (ite_ex (lc_21 h6 hL xs s hrec) (ite_ex (lc_22 h6 hL xs s hrec) (ite_ex (lc_23 h6 hL xs s hrec) (ite_ex (lc_24 h6 hL xs s hrec) (ite_ex (lc_25 h6 hL xs s hrec) (ite_ex (lc_26 h6 hL xs s hrec) (ite_ex (lc_27 h6 hL xs s hrec) (ite_ex (lc_28 h6 hL xs s hrec) (ite_ex (lc_29 h6 hL xs s hrec) (ite_ex (lc_30 h6 hL xs s hrec) (ite_ex (lc_31 h6 hL xs s hrec) (ite_ex (lc_32 h6 hL xs s hrec) (ite_ex (lc_33 h6 hL xs s hrec) (ite_ex (lc_34 h6 hL xs s hrec) (ite_ex (lc_35 h6 hL xs s hrec) ?_)))))))))))))))))))))))))))))))))))
      rw [lt_a]
      exact hrec σ τ s
theorem law_pure (L : Nat) (xs : Nat → Int32) (hL : L ≤ 3072) : ∃ σ', f_law L xs fuN (0 : Int32) s0X s0M = some (1, σ') := by
  have := law_step hL xs L 0 fuN s0X s0M (by omega) (by have := fu_le; omega) (by omega) sim0
  rw [nI_0] at this
  exact this
end
