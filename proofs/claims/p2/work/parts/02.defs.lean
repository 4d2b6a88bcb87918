noncomputable section
def f_J6_bitCount_0f7a4 (a0 : Int32) (σ : Sg) : Option (Int32 × Sg) :=
  lt ((a0 - ((ius a0 (1 : Int32)) &&& (1431655765 : Int32)))) (fun v1 => lt (((v1 &&& (858993459 : Int32)) + ((ius v1 (2 : Int32)) &&& (858993459 : Int32)))) (fun v2 => lt (((v2 + (ius v2 (4 : Int32))) &&& (252645135 : Int32))) (fun v3 => lt ((v3 + (ius v3 (8 : Int32)))) (fun v4 => lt ((v4 + (ius v4 (16 : Int32)))) (fun v5 => some ((v5 &&& (63 : Int32)), σ))))))
def f_X2_begin (o0 : Nat) (a1 : Int32) (a2 : Int32) (a3 : Int32) (a4 : Int32) (a5 : Int32) (σ : Sg) : Option (Unit × Sg) :=
  lt (up σ o0 0 a1) (fun s1 => lt (up s1 o0 1 a2) (fun s2 => lt (up s2 o0 2 a3) (fun s3 => lt (up s3 o0 3 a4) (fun s4 => lt (up s4 o0 4 a5) (fun s5 => lt (up s5 o0 5 (0 : Int32)) (fun s6 => lt (up s6 o0 6 (0 : Int32)) (fun s7 => some ((), s7))))))))
def f_X0_addLine (a1 : Int32) (a2 : Int32) (a3 : Int32) (a4 : Int32) (σ : Sg) : Option (Int32 × Sg) :=
  if (σ 1 1) < (10 : Int32) then ckb (inb (σ 1 1) 10) (lt (20 + (σ 1 1).toNatClampNeg) (fun p1 => bnd (f_X2_begin p1 a1 a2 a3 a4 (σ 1 2) σ) (fun _ s2 => lt (up s2 1 1 ((s2 1 1) + (1 : Int32))) (fun s4 => some (((s4 1 1) - (1 : Int32)), s4))))) else some ((σ 1 1), σ)
def f_X0_columnsOf_4_b  (rec4 : Int32 → Int32 → Int32 → Sg → Option (Int32 × Sg)) (a1 : Int32) (a2 : Int32) (a3 : Int32) (σ : Sg) : Option (Int32 × Sg) :=
  if (σ 1 1) ≤ a3 then some (a2, σ) else ckb (inb a3 10) (lt (20 + a3.toNatClampNeg) (fun p1 => if (σ p1 6) = 0 then ckb (inb a3 10) (lt (20 + a3.toNatClampNeg) (fun p3 => if (σ p3 3) = a1 then ckb (inb a3 10) (lt (20 + a3.toNatClampNeg) (fun p5 => lt ((a2 ||| (σ p5 2))) (fun v6 => lt (a3 + (1 : Int32)) (fun v7 => rec4 a1 v6 v7 σ)))) else lt (a3 + (1 : Int32)) (fun v4 => rec4 a1 a2 v4 σ))) else lt (a3 + (1 : Int32)) (fun v2 => rec4 a1 a2 v2 σ)))
def f_X0_columnsOf_4  : Nat → Int32 → Int32 → Int32 → Sg → Option (Int32 × Sg)
  | 0 => fun _ _ _ _ => none
  | n + 1 => f_X0_columnsOf_4_b   (f_X0_columnsOf_4   n)
def f_X0_columnsOf (a1 : Int32) (σ : Sg) : Option (Int32 × Sg) :=
  f_X0_columnsOf_4 fuN a1 (0 : Int32) (0 : Int32) σ
def f_X2_copyFrom (o0 : Nat) (o1 : Nat) (σ : Sg) : Option (Unit × Sg) :=
  bnd (f_X2_begin o0 (σ o1 0) (σ o1 1) (σ o1 2) (σ o1 3) (σ o1 4) σ) (fun _ s1 => lt (up s1 o0 5 (s1 o1 5)) (fun s3 => ckb (isb (s3 o1 6)) (lt (up s3 o0 6 (s3 o1 6)) (fun s4 => some ((), s4)))))
def f_X6_clear (o0 : Nat) (σ : Sg) : Option (Unit × Sg) :=
  lt (up σ o0 1 (0 : Int32)) (fun s1 => some ((), s1))
def f_X6_add (o0 : Nat) (a1 : Int32) (σ : Sg) : Option (Unit × Sg) :=
  if (Int32.ofNat (capC (o0 + 18))) ≤ (σ o0 1) then some ((), σ) else ckb (inb (σ o0 1) (capC (o0 + 18))) (lt (up σ (o0 + 18) (σ o0 1).toNatClampNeg a1) (fun s1 => lt (up s1 o0 1 ((s1 o0 1) + (1 : Int32))) (fun s2 => some ((), s2))))
def f_X6_copyFrom_6_b  (rec6 : Nat → Nat → Int32 → Sg → Option (Unit × Sg)) (o0 : Nat) (o1 : Nat) (a2 : Int32) (σ : Sg) : Option (Unit × Sg) :=
  if (σ o1 1) ≤ a2 then some ((), σ) else ckb (inb a2 (capC (o1 + 18))) (bnd (f_X6_add o0 (rd (σ (o1 + 18)) a2) σ) (fun _ s1 => lt (a2 + (1 : Int32)) (fun v3 => rec6 o0 o1 v3 s1)))
def f_X6_copyFrom_6  : Nat → Nat → Nat → Int32 → Sg → Option (Unit × Sg)
  | 0 => fun _ _ _ _ => none
  | n + 1 => f_X6_copyFrom_6_b   (f_X6_copyFrom_6   n)
def f_X6_copyFrom (o0 : Nat) (o1 : Nat) (σ : Sg) : Option (Unit × Sg) :=
  bnd (f_X6_clear o0 σ) (fun _ s4 => f_X6_copyFrom_6 fuN o0 o1 (0 : Int32) s4)
def f_X1_copyFrom (o0 : Nat) (o1 : Nat) (σ : Sg) : Option (Unit × Sg) :=
  bnd (f_X6_copyFrom (o0 + 8) (o1 + 8) σ) (fun _ s1 => ckb (isb (s1 o1 0)) (lt (up s1 o0 0 (s1 o1 0)) (fun s3 => some ((), s3))))
def f_X0_copyFrom_107_b  (rec107 : Nat → Nat → Int32 → Sg → Option (Unit × Sg)) (o0 : Nat) (o1 : Nat) (a2 : Int32) (σ : Sg) : Option (Unit × Sg) :=
  if (2 : Int32) ≤ a2 then some ((), σ) else ckb (inb a2 2) (lt ((2 * (o0 + 17) + 4) + a2.toNatClampNeg) (fun p1 => ckb (inb a2 2) (lt ((2 * (o1 + 17) + 4) + a2.toNatClampNeg) (fun p2 => bnd (f_X1_copyFrom p1 p2 σ) (fun _ s3 => lt (a2 + (1 : Int32)) (fun v5 => rec107 o0 o1 v5 s3))))))
def f_X0_copyFrom_107  : Nat → Nat → Nat → Int32 → Sg → Option (Unit × Sg)
  | 0 => fun _ _ _ _ => none
  | n + 1 => f_X0_copyFrom_107_b   (f_X0_copyFrom_107   n)
def f_X0_copyFrom_10_b  (rec10 : Nat → Nat → Int32 → Sg → Option (Unit × Sg)) (o0 : Nat) (o1 : Nat) (a2 : Int32) (σ : Sg) : Option (Unit × Sg) :=
  if (10 : Int32) ≤ a2 then lt (up σ o0 2 (σ o1 2)) (fun s6 => lt (up s6 o0 3 (s6 o1 3)) (fun s7 => lt (up s7 o0 4 (s7 o1 4)) (fun s8 => ckb (acOk (0 : Int32) (0 : Int32) (5 : Int32) 5 5) (lt (upR s8 (o0 + 15) (va_cpy (s8 (o1 + 15)) (s8 (o0 + 15)) (0 : Int32).toNatClampNeg (0 : Int32).toNatClampNeg (5 : Int32).toNatClampNeg)) (fun s9 => lt (up s9 o0 6 (s9 o1 6)) (fun s10 => bnd (f_X6_copyFrom (o0 + 43) (o1 + 43) s10) (fun _ s11 => bnd (f_X6_copyFrom (o0 + 45) (o1 + 45) s11) (fun _ s13 => f_X0_copyFrom_107 fuN o0 o1 (0 : Int32) s13)))))))) else ckb (inb a2 10) (lt ((10 * (o0 + 13) - 120) + a2.toNatClampNeg) (fun p15 => ckb (inb a2 10) (lt ((10 * (o1 + 13) - 120) + a2.toNatClampNeg) (fun p16 => bnd (f_X2_copyFrom p15 p16 σ) (fun _ s17 => lt (a2 + (1 : Int32)) (fun v19 => rec10 o0 o1 v19 s17))))))
def f_X0_copyFrom_10  : Nat → Nat → Nat → Int32 → Sg → Option (Unit × Sg)
  | 0 => fun _ _ _ _ => none
  | n + 1 => f_X0_copyFrom_10_b   (f_X0_copyFrom_10   n)
def f_X0_copyFrom (o0 : Nat) (o1 : Nat) (σ : Sg) : Option (Unit × Sg) :=
  lt (up σ o0 1 (σ o1 1)) (fun s20 => f_X0_copyFrom_10 fuN o0 o1 (0 : Int32) s20)
def f_X0_draw  (σ : Sg) : Option (Int32 × Sg) :=
  lt (up σ 1 6 (((σ 1 6) * (1103515245 : Int32)) + (12345 : Int32))) (fun s1 => some ((ius (s1 1 6) (8 : Int32)), s1))
def f_X0_hasLine (a1 : Int32) (σ : Sg) : Option (Int32 × Sg) :=
  if a1 < 0 then some ((0 : Int32), σ) else if (σ 1 1) ≤ a1 then some ((0 : Int32), σ) else some ((1 : Int32), σ)
def f_X1_pop (o0 : Nat) (σ : Sg) : Option (Int32 × Sg) :=
  if (σ (o0 + 12) 1) = 0 then some ((0 : Int32), σ) else lt (up σ (o0 + 12) 1 ((σ (o0 + 12) 1) - (1 : Int32))) (fun s1 => ckb (inb (s1 (o0 + 12) 1) (capC ((o0 + 12) + 18))) (some ((rd (s1 ((o0 + 12) + 18)) (s1 (o0 + 12) 1)), s1)))
def f_X1_join (a0 : Int32) (a1 : Int32) (a2 : Int32) (σ : Sg) : Option (Int32 × Sg) :=
  if a1 = (37 : Int32) then if a2 = 0 then some ((0 : Int32), σ) else ckb (nz a2) (some ((irm a0 a2), σ)) else if a1 = (38 : Int32) then if a0 = 0 then some ((0 : Int32), σ) else if a2 = 0 then some ((0 : Int32), σ) else some ((1 : Int32), σ) else if a1 = (42 : Int32) then some ((a0 * a2), σ) else if a1 = (43 : Int32) then some ((a0 + a2), σ) else if a1 = (45 : Int32) then some ((a0 - a2), σ) else if a1 = (47 : Int32) then if a2 = 0 then some ((0 : Int32), σ) else ckb (nz a2) (some ((a0 / a2), σ)) else if a1 = (60 : Int32) then if a2 ≤ a0 then some ((0 : Int32), σ) else some ((1 : Int32), σ) else if a1 = (61 : Int32) then if a0 = a2 then some ((1 : Int32), σ) else some ((0 : Int32), σ) else if a1 = (62 : Int32) then if a0 ≤ a2 then some ((0 : Int32), σ) else some ((1 : Int32), σ) else if a1 = (124 : Int32) then if a0 = 0 then if a2 = 0 then some ((0 : Int32), σ) else some ((1 : Int32), σ) else some ((1 : Int32), σ) else some ((0 : Int32), σ)
def f_X1_workOut_10_b  (rec10 : Nat → Int32 → Int32 → Int32 → Int32 → Sg → Option (Int32 × Sg)) (o0 : Nat) (a1 : Int32) (a2 : Int32) (a3 : Int32) (a4 : Int32) (σ : Sg) : Option (Int32 × Sg) :=
  if (σ (o0 + 8) 1) ≤ a4 then bnd (f_X1_pop o0 σ) (fun r2 s1 => some (r2, s1)) else ckb (inb a4 (capC ((o0 + 8) + 18))) (lt ((rd (σ ((o0 + 8) + 18)) a4)) (fun v3 => if v3 = (-33 : Int32) then bnd (f_X1_pop o0 σ) (fun r6 s5 => if r6 = 0 then bnd (f_X6_add (o0 + 12) (1 : Int32) s5) (fun _ s10 => lt (a4 + (1 : Int32)) (fun v12 => rec10 o0 a1 a2 a3 v12 s10)) else bnd (f_X6_add (o0 + 12) (0 : Int32) s5) (fun _ s7 => lt (a4 + (1 : Int32)) (fun v9 => rec10 o0 a1 a2 a3 v9 s7))) else if v3 = (-3 : Int32) then bnd (f_X6_add (o0 + 12) a3 σ) (fun _ s14 => lt (a4 + (1 : Int32)) (fun v16 => rec10 o0 a1 a2 a3 v16 s14)) else if v3 = (-2 : Int32) then bnd (f_X6_add (o0 + 12) a2 σ) (fun _ s18 => lt (a4 + (1 : Int32)) (fun v20 => rec10 o0 a1 a2 a3 v20 s18)) else if v3 = (-1 : Int32) then bnd (f_X6_add (o0 + 12) a1 σ) (fun _ s22 => lt (a4 + (1 : Int32)) (fun v24 => rec10 o0 a1 a2 a3 v24 s22)) else if v3 < 0 then bnd (f_X1_pop o0 σ) (fun r26 s25 => bnd (f_X1_pop o0 s25) (fun r28 s27 => bnd (f_X1_join r28 (-v3) r26 s27) (fun r30 s29 => bnd (f_X6_add (o0 + 12) r30 s29) (fun _ s31 => lt (a4 + (1 : Int32)) (fun v33 => rec10 o0 a1 a2 a3 v33 s31))))) else bnd (f_X6_add (o0 + 12) v3 σ) (fun _ s34 => lt (a4 + (1 : Int32)) (fun v36 => rec10 o0 a1 a2 a3 v36 s34))))
def f_X1_workOut_10  : Nat → Nat → Int32 → Int32 → Int32 → Int32 → Sg → Option (Int32 × Sg)
  | 0 => fun _ _ _ _ _ _ => none
  | n + 1 => f_X1_workOut_10_b   (f_X1_workOut_10   n)
def f_X1_workOut (o0 : Nat) (a1 : Int32) (a2 : Int32) (a3 : Int32) (σ : Sg) : Option (Int32 × Sg) :=
  bnd (f_X6_clear (o0 + 12) σ) (fun _ s37 => f_X1_workOut_10 fuN o0 a1 a2 a3 (0 : Int32) s37)
def f_X9_held (a0 : Int32) (a1 : Int32) (σ : Sg) : Option (Int32 × Sg) :=
  some ((mx (0 : Int32) (mn a0 a1)), σ)
def f_X0_lawGives_47  (t0 : Int32) (σ : Sg) : Option (Int32 × Sg) :=
  bnd (f_X9_held t0 (999 : Int32) σ) (fun r2 s1 => some (r2, s1))
def f_X0_lawGives (a1 : Int32) (a2 : Int32) (a3 : Int32) (a4 : Int32) (σ : Sg) : Option (Int32 × Sg) :=
  ckb (inb a1 2) (lt (40 + a1.toNatClampNeg) (fun p3 => if (σ p3 0) = 0 then if a1 = 0 then if a4 = (1 : Int32) then f_X0_lawGives_47 (a2 / (2 : Int32)) σ else f_X0_lawGives_47 a2 σ else lt (((10 : Int32) * a2)) (fun v4 => bnd (f_X9_held v4 (999 : Int32) σ) (fun r6 s5 => some (r6, s5))) else ckb (inb a1 2) (lt (40 + a1.toNatClampNeg) (fun p7 => bnd (f_X1_workOut p7 a2 a3 a4 σ) (fun r9 s8 => bnd (f_X9_held r9 (999 : Int32) s8) (fun r11 s10 => some (r11, s10)))))))
def f_X0_linesOn_4_b  (rec4 : Int32 → Int32 → Int32 → Sg → Option (Int32 × Sg)) (a1 : Int32) (a2 : Int32) (a3 : Int32) (σ : Sg) : Option (Int32 × Sg) :=
  if (σ 1 1) ≤ a3 then some (a2, σ) else ckb (inb a3 10) (lt (20 + a3.toNatClampNeg) (fun p1 => if (σ p1 6) = 0 then ckb (inb a3 10) (lt (20 + a3.toNatClampNeg) (fun p3 => if ((σ p3 2) &&& a1) = 0 then lt (a3 + (1 : Int32)) (fun v4 => rec4 a1 a2 v4 σ) else lt ((a2 ||| (shl (1 : Int32) a3))) (fun v5 => lt (a3 + (1 : Int32)) (fun v6 => rec4 a1 v5 v6 σ)))) else lt (a3 + (1 : Int32)) (fun v2 => rec4 a1 a2 v2 σ)))
def f_X0_linesOn_4  : Nat → Int32 → Int32 → Int32 → Sg → Option (Int32 × Sg)
  | 0 => fun _ _ _ _ => none
  | n + 1 => f_X0_linesOn_4_b   (f_X0_linesOn_4   n)
def f_X0_linesOn (a1 : Int32) (σ : Sg) : Option (Int32 × Sg) :=
  f_X0_linesOn_4 fuN a1 (0 : Int32) (0 : Int32) σ
def f_X2_back (o0 : Nat) (a1 : Int32) (σ : Sg) : Option (Int32 × Sg) :=
  lt (((mx (0 : Int32) ((50 : Int32) - ((5 : Int32) * (a1 - (σ o0 4))))) + (σ o0 1))) (fun v1 => lt ((σ o0 0)) (fun v2 => if v2 = (1 : Int32) then bnd (f_X9_held (v1 + (20 : Int32)) (100 : Int32) σ) (fun r5 s4 => some (r5, s4)) else if v2 = (2 : Int32) then bnd (f_X9_held (v1 / (2 : Int32)) (100 : Int32) σ) (fun r8 s7 => some (r8, s7)) else if v2 = (3 : Int32) then bnd (f_X9_held (v1 + ((20 : Int32) * (σ o0 5))) (100 : Int32) σ) (fun r11 s10 => some (r11, s10)) else if v2 = (4 : Int32) then bnd (f_X9_held (v1 + (40 : Int32)) (100 : Int32) σ) (fun r14 s13 => some (r14, s13)) else if v2 = (5 : Int32) then bnd (f_X9_held ((v1 / (2 : Int32)) - (σ o0 1)) (100 : Int32) σ) (fun r17 s16 => some (r17, s16)) else if v2 = (6 : Int32) then bnd (f_X9_held (v1 + (5 : Int32)) (100 : Int32) σ) (fun r20 s19 => some (r20, s19)) else bnd (f_X9_held v1 (100 : Int32) σ) (fun r22 s21 => some (r22, s21))))
def f_X0_lossOf (a1 : Int32) (a2 : Int32) (σ : Sg) : Option (Int32 × Sg) :=
  ckb (inb a1 10) (lt (20 + a1.toNatClampNeg) (fun p1 => bnd (f_X2_back p1 a2 σ) (fun r3 s2 => ckb (inb a1 10) (lt (20 + a1.toNatClampNeg) (fun p4 => ckb (inb a1 10) (lt (20 + a1.toNatClampNeg) (fun p5 => bnd (f_X0_lawGives (0 : Int32) r3 (s2 p4 1) (s2 p5 5) s2) (fun r7 s6 => some (r7, s6)))))))))
def f_X2_ripeAge (o0 : Nat) (a1 : Int32) (σ : Sg) : Option (Int32 × Sg) :=
  lt ((σ o0 0)) (fun v1 => if v1 = (1 : Int32) then some ((mx (7 : Int32) ((7 : Int32) * (σ o0 1))), σ) else if v1 = (2 : Int32) then some ((1 : Int32), σ) else if v1 = (3 : Int32) then some ((7 : Int32), σ) else if v1 = (4 : Int32) then if (σ o0 1) = 0 then some ((7 : Int32), σ) else some ((1000000 : Int32), σ) else if v1 = (5 : Int32) then some ((mx (1 : Int32) (σ o0 1)), σ) else if v1 = (6 : Int32) then if a1 = (1 : Int32) then some ((7 : Int32), σ) else some ((1000000 : Int32), σ) else some ((7 : Int32), σ))
def f_X2_goesBehind (o0 : Nat) (a1 : Int32) (a2 : Int32) (σ : Sg) : Option (Int32 × Sg) :=
  bnd (f_X2_ripeAge o0 a2 σ) (fun r2 s1 => if (s1 o0 6) = 0 then if r2 = (1000000 : Int32) then some ((1000000 : Int32), s1) else some ((mx (0 : Int32) (r2 - (a1 - (s1 o0 4)))), s1) else some ((1000000 : Int32), s1))
def f_X0_mayGo (a1 : Int32) (a2 : Int32) (σ : Sg) : Option (Int32 × Sg) :=
  ckb (inb a1 10) (lt (20 + a1.toNatClampNeg) (fun p1 => bnd (f_X2_goesBehind p1 a2 (σ 1 3) σ) (fun r3 s2 => if r3 = 0 then some ((1 : Int32), s2) else some ((0 : Int32), s2))))
def f_X0_passDay_2_b  (rec2 : Int32 → Sg → Option (Unit × Sg)) (a1 : Int32) (σ : Sg) : Option (Unit × Sg) :=
  if (5 : Int32) ≤ a1 then lt (up σ 1 2 ((σ 1 2) + (1 : Int32))) (fun s1 => some ((), s1)) else ckb (nz (a1 + (2 : Int32))) (if (irm (σ 1 2) (a1 + (2 : Int32))) = 0 then ckb (inb a1 5) (ckb (inb a1 5) (lt (up σ 16 a1.toNatClampNeg (mx (0 : Int32) ((rd (σ 16) a1) - (1 : Int32)))) (fun s4 => lt (a1 + (1 : Int32)) (fun v5 => rec2 v5 s4)))) else lt (a1 + (1 : Int32)) (fun v3 => rec2 v3 σ))
def f_X0_passDay_2  : Nat → Int32 → Sg → Option (Unit × Sg)
  | 0 => fun _ _ => none
  | n + 1 => f_X0_passDay_2_b   (f_X0_passDay_2   n)
def f_X0_passDay  (σ : Sg) : Option (Unit × Sg) :=
  f_X0_passDay_2 fuN (0 : Int32) σ
def f_X0_wipeLine (a1 : Int32) (σ : Sg) : Option (Int32 × Sg) :=
  bnd (f_X0_lossOf a1 (σ 1 2) σ) (fun r2 s1 => ckb (inb a1 10) (lt (20 + a1.toNatClampNeg) (fun p3 => lt (up s1 p3 6 (1 : Int32)) (fun s4 => lt (up s4 1 4 (mn (99999 : Int32) ((s4 1 4) + r2))) (fun s5 => some (r2, s5))))))
def f_X0_takenBehind_4_b  (rec4 : Int32 → Int32 → Int32 → Sg → Option (Int32 × Sg)) (a1 : Int32) (a2 : Int32) (a3 : Int32) (σ : Sg) : Option (Int32 × Sg) :=
  if (σ 1 1) ≤ a3 then some (a2, σ) else ckb (inb a3 10) (lt (20 + a3.toNatClampNeg) (fun p1 => if (σ p1 6) = 0 then ckb (inb a3 10) (lt (20 + a3.toNatClampNeg) (fun p3 => bnd (f_X2_goesBehind p3 (σ 1 2) (σ 1 3) σ) (fun r5 s4 => if r5 < a1 then lt (a3 + (1 : Int32)) (fun v6 => rec4 a1 a2 v6 s4) else ckb (inb a3 10) (lt (20 + a3.toNatClampNeg) (fun p7 => lt ((a2 ||| (s4 p7 2))) (fun v8 => lt (a3 + (1 : Int32)) (fun v9 => rec4 a1 v8 v9 s4))))))) else lt (a3 + (1 : Int32)) (fun v2 => rec4 a1 a2 v2 σ)))
def f_X0_takenBehind_4  : Nat → Int32 → Int32 → Int32 → Sg → Option (Int32 × Sg)
  | 0 => fun _ _ _ _ => none
  | n + 1 => f_X0_takenBehind_4_b   (f_X0_takenBehind_4   n)
def f_X0_takenBehind (a1 : Int32) (σ : Sg) : Option (Int32 × Sg) :=
  f_X0_takenBehind_4 fuN a1 (0 : Int32) (0 : Int32) σ
def f_X0_taken  (σ : Sg) : Option (Int32 × Sg) :=
  bnd (f_X0_takenBehind (0 : Int32) σ) (fun r2 s1 => some (r2, s1))
def f_X9_isOf (a0 : Int32) (a1 : Int32) (σ : Sg) : Option (Int32 × Sg) :=
  if ((shr a1 a0) &&& (1 : Int32)) = 0 then some ((0 : Int32), σ) else some ((1 : Int32), σ)
def f_X0_passDayByDraws_39  (a1 : Int32) (σ : Sg) : Option (Int32 × Sg) :=
  bnd (f_X0_draw σ) (fun r2 s1 => lt ((irm r2 (12 : Int32))) (fun v3 => bnd (f_X0_taken s1) (fun r5 s4 => bnd (f_X9_isOf v3 r5 s4) (fun r7 s6 => if r7 = 0 then if (10 : Int32) ≤ (s6 1 1) then bnd (f_X0_passDay s6) (fun _ s10 => some (a1, s10)) else bnd (f_X0_draw s6) (fun r13 s12 => lt ((irm r13 (7 : Int32))) (fun v14 => bnd (f_X0_draw s12) (fun r16 s15 => lt ((irm r16 (6 : Int32))) (fun v17 => bnd (f_X0_addLine v14 (0 : Int32) (shl (1 : Int32) v3) v17 s15) (fun r19 s18 => bnd (f_X0_passDay s18) (fun _ s20 => some (a1, s20))))))) else bnd (f_X0_passDay s6) (fun _ s8 => some (a1, s8))))))
def f_X0_passDayByDraws  (σ : Sg) : Option (Int32 × Sg) :=
  if (σ 1 1) ≤ 0 then f_X0_passDayByDraws_39 (0 : Int32) σ else bnd (f_X0_draw σ) (fun r23 s22 => ckb (nz (s22 1 1)) (lt ((irm r23 (s22 1 1))) (fun v25 => bnd (f_X0_mayGo v25 (s22 1 2) s22) (fun r27 s26 => if r27 = 0 then f_X0_passDayByDraws_39 (0 : Int32) s26 else bnd (f_X0_wipeLine v25 s26) (fun r29 s28 => f_X0_passDayByDraws_39 (1 : Int32) s28)))))
def f_X10_look  (σ : Sg) : Option (Int32 × Sg) :=
  ckb (inb (5 : Int32) 408) (if (rd (σ 1) (5 : Int32)) ≤ (σ 0 13) then some ((-1 : Int32), σ) else ckb (inb ((82 : Int32) + (σ 0 13)) 408) (some ((rd (σ 1) ((82 : Int32) + (σ 0 13))), σ)))
def f_X10_step (a1 : Int32) (a2 : Int32) (σ : Sg) : Option (Unit × Sg) :=
  if (Int32.ofNat 60) ≤ (σ 0 12) then some ((), σ) else ckb (inb (σ 0 12) 60) (lt (up σ 8 (σ 0 12).toNatClampNeg a1) (fun s1 => ckb (inb (s1 0 12) 60) (lt (up s1 9 (s1 0 12).toNatClampNeg a2) (fun s2 => lt (up s2 0 12 ((s2 0 12) + (1 : Int32))) (fun s3 => some ((), s3))))))
def f_X10_nameOf_60  (a1 : Int32) (σ : Sg) : Option (Int32 × Sg) :=
  if (σ 0 16) = 0 then if a1 = (98 : Int32) then some ((0 : Int32), σ) else if a1 = (109 : Int32) then some ((1 : Int32), σ) else some ((2 : Int32), σ) else some ((-1 : Int32), σ)
def f_X10_nameOf_93  (a1 : Int32) (σ : Sg) : Option (Int32 × Sg) :=
  if (σ 0 16) = (1 : Int32) then if a1 = (102 : Int32) then some ((0 : Int32), σ) else if a1 = (100 : Int32) then some ((1 : Int32), σ) else some ((2 : Int32), σ) else some ((-1 : Int32), σ)
def f_X10_nameOf (a1 : Int32) (σ : Sg) : Option (Int32 × Sg) :=
  if a1 = (98 : Int32) then f_X10_nameOf_60 a1 σ else if a1 = (100 : Int32) then f_X10_nameOf_93 a1 σ else if a1 = (102 : Int32) then f_X10_nameOf_93 a1 σ else if a1 = (109 : Int32) then f_X10_nameOf_60 a1 σ else if a1 = (112 : Int32) then f_X10_nameOf_60 a1 σ else if a1 = (119 : Int32) then f_X10_nameOf_93 a1 σ else some ((-1 : Int32), σ)
def f_X10_in (a0 : Int32) (a1 : Int32) (a2 : Int32) (σ : Sg) : Option (Int32 × Sg) :=
  if a0 < a1 then some ((0 : Int32), σ) else if a2 < a0 then some ((0 : Int32), σ) else some ((1 : Int32), σ)
def f_X10_number_62  (a1 : Int32) (t0 : Int32) (σ : Sg) : Option (Unit × Sg) :=
  ckb (isb t0) (lt (up σ 0 15 t0) (fun s1 => bnd (f_X10_step (1 : Int32) a1 s1) (fun _ s3 => some ((), s3))))
def f_X10_number_4_b  (rec4 : Int32 → Int32 → Sg → Option (Unit × Sg)) (a1 : Int32) (a2 : Int32) (σ : Sg) : Option (Unit × Sg) :=
  if (4 : Int32) ≤ a2 then if a2 = 0 then f_X10_number_62 a1 (1 : Int32) σ else f_X10_number_62 a1 (0 : Int32) σ else bnd (f_X10_look σ) (fun r6 s5 => bnd (f_X10_in r6 (48 : Int32) (57 : Int32) s5) (fun r8 s7 => if r8 = 0 then if a2 = 0 then f_X10_number_62 a1 (1 : Int32) s7 else f_X10_number_62 a1 (0 : Int32) s7 else bnd (f_X10_look s7) (fun r10 s9 => lt (((((10 : Int32) * a1) + r10) - (48 : Int32))) (fun v11 => lt (up s9 0 13 ((s9 0 13) + (1 : Int32))) (fun s12 => lt (a2 + (1 : Int32)) (fun v13 => rec4 v11 v13 s12))))))
def f_X10_number_4  : Nat → Int32 → Int32 → Sg → Option (Unit × Sg)
  | 0 => fun _ _ _ => none
  | n + 1 => f_X10_number_4_b   (f_X10_number_4   n)
def f_X10_number  (σ : Sg) : Option (Unit × Sg) :=
  f_X10_number_4 fuN (0 : Int32) (0 : Int32) σ
def f_X10_any_4_b (g_X10_any : Sg → Option (Unit × Sg)) (g_X10_all : Sg → Option (Unit × Sg)) (g_X10_compares : Sg → Option (Unit × Sg)) (g_X10_sum : Sg → Option (Unit × Sg)) (g_X10_times : Sg → Option (Unit × Sg)) (g_X10_one : Sg → Option (Unit × Sg)) (g_X10_opens : Int32 → Sg → Option (Unit × Sg))  (rec4 : Sg → Option (Unit × Sg))  (σ : Sg) : Option (Unit × Sg) :=
  if (σ 0 15) = 0 then bnd (f_X10_look σ) (fun r2 s1 => if r2 = (124 : Int32) then lt (up s1 0 13 ((s1 0 13) + (1 : Int32))) (fun s3 => bnd (g_X10_all s3) (fun _ s4 => bnd (f_X10_step (124 : Int32) (0 : Int32) s4) (fun _ s6 => rec4 s6))) else some ((), s1)) else some ((), σ)
def f_X10_any_4 (g_X10_any : Sg → Option (Unit × Sg)) (g_X10_all : Sg → Option (Unit × Sg)) (g_X10_compares : Sg → Option (Unit × Sg)) (g_X10_sum : Sg → Option (Unit × Sg)) (g_X10_times : Sg → Option (Unit × Sg)) (g_X10_one : Sg → Option (Unit × Sg)) (g_X10_opens : Int32 → Sg → Option (Unit × Sg))  : Nat → Sg → Option (Unit × Sg)
  | 0 => fun _ => none
  | n + 1 => f_X10_any_4_b g_X10_any g_X10_all g_X10_compares g_X10_sum g_X10_times g_X10_one g_X10_opens  (f_X10_any_4 g_X10_any g_X10_all g_X10_compares g_X10_sum g_X10_times g_X10_one g_X10_opens  n)
def f_X10_any_e (g_X10_any : Sg → Option (Unit × Sg)) (g_X10_all : Sg → Option (Unit × Sg)) (g_X10_compares : Sg → Option (Unit × Sg)) (g_X10_sum : Sg → Option (Unit × Sg)) (g_X10_times : Sg → Option (Unit × Sg)) (g_X10_one : Sg → Option (Unit × Sg)) (g_X10_opens : Int32 → Sg → Option (Unit × Sg))  (σ : Sg) : Option (Unit × Sg) :=
  bnd (g_X10_all σ) (fun _ s8 => f_X10_any_4 g_X10_any g_X10_all g_X10_compares g_X10_sum g_X10_times g_X10_one g_X10_opens fuN s8)
def f_X10_all_4_b (g_X10_any : Sg → Option (Unit × Sg)) (g_X10_all : Sg → Option (Unit × Sg)) (g_X10_compares : Sg → Option (Unit × Sg)) (g_X10_sum : Sg → Option (Unit × Sg)) (g_X10_times : Sg → Option (Unit × Sg)) (g_X10_one : Sg → Option (Unit × Sg)) (g_X10_opens : Int32 → Sg → Option (Unit × Sg))  (rec4 : Sg → Option (Unit × Sg))  (σ : Sg) : Option (Unit × Sg) :=
  if (σ 0 15) = 0 then bnd (f_X10_look σ) (fun r2 s1 => if r2 = (38 : Int32) then lt (up s1 0 13 ((s1 0 13) + (1 : Int32))) (fun s3 => bnd (g_X10_compares s3) (fun _ s4 => bnd (f_X10_step (38 : Int32) (0 : Int32) s4) (fun _ s6 => rec4 s6))) else some ((), s1)) else some ((), σ)
def f_X10_all_4 (g_X10_any : Sg → Option (Unit × Sg)) (g_X10_all : Sg → Option (Unit × Sg)) (g_X10_compares : Sg → Option (Unit × Sg)) (g_X10_sum : Sg → Option (Unit × Sg)) (g_X10_times : Sg → Option (Unit × Sg)) (g_X10_one : Sg → Option (Unit × Sg)) (g_X10_opens : Int32 → Sg → Option (Unit × Sg))  : Nat → Sg → Option (Unit × Sg)
  | 0 => fun _ => none
  | n + 1 => f_X10_all_4_b g_X10_any g_X10_all g_X10_compares g_X10_sum g_X10_times g_X10_one g_X10_opens  (f_X10_all_4 g_X10_any g_X10_all g_X10_compares g_X10_sum g_X10_times g_X10_one g_X10_opens  n)
def f_X10_all_e (g_X10_any : Sg → Option (Unit × Sg)) (g_X10_all : Sg → Option (Unit × Sg)) (g_X10_compares : Sg → Option (Unit × Sg)) (g_X10_sum : Sg → Option (Unit × Sg)) (g_X10_times : Sg → Option (Unit × Sg)) (g_X10_one : Sg → Option (Unit × Sg)) (g_X10_opens : Int32 → Sg → Option (Unit × Sg))  (σ : Sg) : Option (Unit × Sg) :=
  bnd (g_X10_compares σ) (fun _ s8 => f_X10_all_4 g_X10_any g_X10_all g_X10_compares g_X10_sum g_X10_times g_X10_one g_X10_opens fuN s8)
def f_X10_compares_34 (g_X10_any : Sg → Option (Unit × Sg)) (g_X10_all : Sg → Option (Unit × Sg)) (g_X10_compares : Sg → Option (Unit × Sg)) (g_X10_sum : Sg → Option (Unit × Sg)) (g_X10_times : Sg → Option (Unit × Sg)) (g_X10_one : Sg → Option (Unit × Sg)) (g_X10_opens : Int32 → Sg → Option (Unit × Sg))  (a1 : Int32) (σ : Sg) : Option (Unit × Sg) :=
  lt (up σ 0 13 ((σ 0 13) + (1 : Int32))) (fun s1 => bnd (g_X10_sum s1) (fun _ s2 => bnd (f_X10_step a1 (0 : Int32) s2) (fun _ s4 => some ((), s4))))
def f_X10_compares_e (g_X10_any : Sg → Option (Unit × Sg)) (g_X10_all : Sg → Option (Unit × Sg)) (g_X10_compares : Sg → Option (Unit × Sg)) (g_X10_sum : Sg → Option (Unit × Sg)) (g_X10_times : Sg → Option (Unit × Sg)) (g_X10_one : Sg → Option (Unit × Sg)) (g_X10_opens : Int32 → Sg → Option (Unit × Sg))  (σ : Sg) : Option (Unit × Sg) :=
  bnd (g_X10_sum σ) (fun _ s6 => bnd (f_X10_look s6) (fun r9 s8 => if (s8 0 15) = 0 then if r9 = (60 : Int32) then f_X10_compares_34 g_X10_any g_X10_all g_X10_compares g_X10_sum g_X10_times g_X10_one g_X10_opens r9 s8 else if r9 = (61 : Int32) then f_X10_compares_34 g_X10_any g_X10_all g_X10_compares g_X10_sum g_X10_times g_X10_one g_X10_opens r9 s8 else if r9 = (62 : Int32) then f_X10_compares_34 g_X10_any g_X10_all g_X10_compares g_X10_sum g_X10_times g_X10_one g_X10_opens r9 s8 else some ((), s8) else some ((), s8)))
def f_X10_sum_29 (g_X10_any : Sg → Option (Unit × Sg)) (g_X10_all : Sg → Option (Unit × Sg)) (g_X10_compares : Sg → Option (Unit × Sg)) (g_X10_sum : Sg → Option (Unit × Sg)) (g_X10_times : Sg → Option (Unit × Sg)) (g_X10_one : Sg → Option (Unit × Sg)) (g_X10_opens : Int32 → Sg → Option (Unit × Sg)) (rec4 : Sg → Option (Unit × Sg))  (σ : Sg) : Option (Unit × Sg) :=
  bnd (f_X10_look σ) (fun r2 s1 => lt (up s1 0 13 ((s1 0 13) + (1 : Int32))) (fun s3 => bnd (g_X10_times s3) (fun _ s4 => bnd (f_X10_step r2 (0 : Int32) s4) (fun _ s6 => rec4 s6))))
def f_X10_sum_4_b (g_X10_any : Sg → Option (Unit × Sg)) (g_X10_all : Sg → Option (Unit × Sg)) (g_X10_compares : Sg → Option (Unit × Sg)) (g_X10_sum : Sg → Option (Unit × Sg)) (g_X10_times : Sg → Option (Unit × Sg)) (g_X10_one : Sg → Option (Unit × Sg)) (g_X10_opens : Int32 → Sg → Option (Unit × Sg))  (rec4 : Sg → Option (Unit × Sg))  (σ : Sg) : Option (Unit × Sg) :=
  if (σ 0 15) = 0 then bnd (f_X10_look σ) (fun r9 s8 => if r9 = (43 : Int32) then f_X10_sum_29 g_X10_any g_X10_all g_X10_compares g_X10_sum g_X10_times g_X10_one g_X10_opens rec4 s8 else bnd (f_X10_look s8) (fun r11 s10 => if r11 = (45 : Int32) then f_X10_sum_29 g_X10_any g_X10_all g_X10_compares g_X10_sum g_X10_times g_X10_one g_X10_opens rec4 s10 else some ((), s10))) else some ((), σ)
def f_X10_sum_4 (g_X10_any : Sg → Option (Unit × Sg)) (g_X10_all : Sg → Option (Unit × Sg)) (g_X10_compares : Sg → Option (Unit × Sg)) (g_X10_sum : Sg → Option (Unit × Sg)) (g_X10_times : Sg → Option (Unit × Sg)) (g_X10_one : Sg → Option (Unit × Sg)) (g_X10_opens : Int32 → Sg → Option (Unit × Sg))  : Nat → Sg → Option (Unit × Sg)
  | 0 => fun _ => none
  | n + 1 => f_X10_sum_4_b g_X10_any g_X10_all g_X10_compares g_X10_sum g_X10_times g_X10_one g_X10_opens  (f_X10_sum_4 g_X10_any g_X10_all g_X10_compares g_X10_sum g_X10_times g_X10_one g_X10_opens  n)
def f_X10_sum_e (g_X10_any : Sg → Option (Unit × Sg)) (g_X10_all : Sg → Option (Unit × Sg)) (g_X10_compares : Sg → Option (Unit × Sg)) (g_X10_sum : Sg → Option (Unit × Sg)) (g_X10_times : Sg → Option (Unit × Sg)) (g_X10_one : Sg → Option (Unit × Sg)) (g_X10_opens : Int32 → Sg → Option (Unit × Sg))  (σ : Sg) : Option (Unit × Sg) :=
  bnd (g_X10_times σ) (fun _ s12 => f_X10_sum_4 g_X10_any g_X10_all g_X10_compares g_X10_sum g_X10_times g_X10_one g_X10_opens fuN s12)
def f_X10_times_38 (g_X10_any : Sg → Option (Unit × Sg)) (g_X10_all : Sg → Option (Unit × Sg)) (g_X10_compares : Sg → Option (Unit × Sg)) (g_X10_sum : Sg → Option (Unit × Sg)) (g_X10_times : Sg → Option (Unit × Sg)) (g_X10_one : Sg → Option (Unit × Sg)) (g_X10_opens : Int32 → Sg → Option (Unit × Sg)) (rec4 : Sg → Option (Unit × Sg))  (σ : Sg) : Option (Unit × Sg) :=
  bnd (f_X10_look σ) (fun r2 s1 => lt (up s1 0 13 ((s1 0 13) + (1 : Int32))) (fun s3 => bnd (g_X10_one s3) (fun _ s4 => bnd (f_X10_step r2 (0 : Int32) s4) (fun _ s6 => rec4 s6))))
def f_X10_times_4_b (g_X10_any : Sg → Option (Unit × Sg)) (g_X10_all : Sg → Option (Unit × Sg)) (g_X10_compares : Sg → Option (Unit × Sg)) (g_X10_sum : Sg → Option (Unit × Sg)) (g_X10_times : Sg → Option (Unit × Sg)) (g_X10_one : Sg → Option (Unit × Sg)) (g_X10_opens : Int32 → Sg → Option (Unit × Sg))  (rec4 : Sg → Option (Unit × Sg))  (σ : Sg) : Option (Unit × Sg) :=
  if (σ 0 15) = 0 then bnd (f_X10_look σ) (fun r9 s8 => if r9 = (42 : Int32) then f_X10_times_38 g_X10_any g_X10_all g_X10_compares g_X10_sum g_X10_times g_X10_one g_X10_opens rec4 s8 else bnd (f_X10_look s8) (fun r11 s10 => if r11 = (47 : Int32) then f_X10_times_38 g_X10_any g_X10_all g_X10_compares g_X10_sum g_X10_times g_X10_one g_X10_opens rec4 s10 else bnd (f_X10_look s10) (fun r13 s12 => if r13 = (37 : Int32) then f_X10_times_38 g_X10_any g_X10_all g_X10_compares g_X10_sum g_X10_times g_X10_one g_X10_opens rec4 s12 else some ((), s12)))) else some ((), σ)
def f_X10_times_4 (g_X10_any : Sg → Option (Unit × Sg)) (g_X10_all : Sg → Option (Unit × Sg)) (g_X10_compares : Sg → Option (Unit × Sg)) (g_X10_sum : Sg → Option (Unit × Sg)) (g_X10_times : Sg → Option (Unit × Sg)) (g_X10_one : Sg → Option (Unit × Sg)) (g_X10_opens : Int32 → Sg → Option (Unit × Sg))  : Nat → Sg → Option (Unit × Sg)
  | 0 => fun _ => none
  | n + 1 => f_X10_times_4_b g_X10_any g_X10_all g_X10_compares g_X10_sum g_X10_times g_X10_one g_X10_opens  (f_X10_times_4 g_X10_any g_X10_all g_X10_compares g_X10_sum g_X10_times g_X10_one g_X10_opens  n)
def f_X10_times_e (g_X10_any : Sg → Option (Unit × Sg)) (g_X10_all : Sg → Option (Unit × Sg)) (g_X10_compares : Sg → Option (Unit × Sg)) (g_X10_sum : Sg → Option (Unit × Sg)) (g_X10_times : Sg → Option (Unit × Sg)) (g_X10_one : Sg → Option (Unit × Sg)) (g_X10_opens : Int32 → Sg → Option (Unit × Sg))  (σ : Sg) : Option (Unit × Sg) :=
  bnd (g_X10_one σ) (fun _ s14 => f_X10_times_4 g_X10_any g_X10_all g_X10_compares g_X10_sum g_X10_times g_X10_one g_X10_opens fuN s14)
def f_X10_one_e (g_X10_any : Sg → Option (Unit × Sg)) (g_X10_all : Sg → Option (Unit × Sg)) (g_X10_compares : Sg → Option (Unit × Sg)) (g_X10_sum : Sg → Option (Unit × Sg)) (g_X10_times : Sg → Option (Unit × Sg)) (g_X10_one : Sg → Option (Unit × Sg)) (g_X10_opens : Int32 → Sg → Option (Unit × Sg))  (σ : Sg) : Option (Unit × Sg) :=
  bnd (f_X10_look σ) (fun r2 s1 => bnd (f_X10_nameOf r2 s1) (fun r4 s3 => if r4 < 0 then if r2 = (33 : Int32) then bnd (g_X10_opens r2 s3) (fun _ s5 => some ((), s5)) else if r2 = (40 : Int32) then bnd (g_X10_opens r2 s3) (fun _ s9 => some ((), s9)) else bnd (f_X10_number s3) (fun _ s7 => some ((), s7)) else lt (up s3 0 13 ((s3 0 13) + (1 : Int32))) (fun s11 => bnd (f_X10_step (2 : Int32) r4 s11) (fun _ s12 => some ((), s12)))))
def f_X10_opens_79 (g_X10_any : Sg → Option (Unit × Sg)) (g_X10_all : Sg → Option (Unit × Sg)) (g_X10_compares : Sg → Option (Unit × Sg)) (g_X10_sum : Sg → Option (Unit × Sg)) (g_X10_times : Sg → Option (Unit × Sg)) (g_X10_one : Sg → Option (Unit × Sg)) (g_X10_opens : Int32 → Sg → Option (Unit × Sg))  (t0 : Int32) (σ : Sg) : Option (Unit × Sg) :=
  ckb (isb t0) (lt (up σ 0 15 t0) (fun s1 => if (s1 0 15) = 0 then lt (up s1 0 13 ((s1 0 13) + (1 : Int32))) (fun s3 => lt (up s3 0 14 ((s3 0 14) - (1 : Int32))) (fun s4 => some ((), s4))) else lt (up s1 0 13 ((s1 0 13) + (0 : Int32))) (fun s5 => lt (up s5 0 14 ((s5 0 14) - (1 : Int32))) (fun s6 => some ((), s6)))))
def f_X10_opens_e (g_X10_any : Sg → Option (Unit × Sg)) (g_X10_all : Sg → Option (Unit × Sg)) (g_X10_compares : Sg → Option (Unit × Sg)) (g_X10_sum : Sg → Option (Unit × Sg)) (g_X10_times : Sg → Option (Unit × Sg)) (g_X10_one : Sg → Option (Unit × Sg)) (g_X10_opens : Int32 → Sg → Option (Unit × Sg)) (a1 : Int32) (σ : Sg) : Option (Unit × Sg) :=
  if (σ 0 14) = (5 : Int32) then lt (up σ 0 15 (1 : Int32)) (fun s18 => some ((), s18)) else lt (up σ 0 14 ((σ 0 14) + (1 : Int32))) (fun s7 => lt (up s7 0 13 ((s7 0 13) + (1 : Int32))) (fun s8 => if a1 = (33 : Int32) then bnd (g_X10_one s8) (fun _ s13 => bnd (f_X10_step (3 : Int32) (0 : Int32) s13) (fun _ s15 => lt (up s15 0 14 ((s15 0 14) - (1 : Int32))) (fun s17 => some ((), s17)))) else bnd (g_X10_any s8) (fun _ s9 => if (s9 0 15) = 0 then bnd (f_X10_look s9) (fun r12 s11 => if r12 = (41 : Int32) then f_X10_opens_79 g_X10_any g_X10_all g_X10_compares g_X10_sum g_X10_times g_X10_one g_X10_opens (0 : Int32) s11 else f_X10_opens_79 g_X10_any g_X10_all g_X10_compares g_X10_sum g_X10_times g_X10_one g_X10_opens (1 : Int32) s11) else f_X10_opens_79 g_X10_any g_X10_all g_X10_compares g_X10_sum g_X10_times g_X10_one g_X10_opens (1 : Int32) s9)))
def G_X10_any : Nat → (Sg → Option (Unit × Sg)) × (Sg → Option (Unit × Sg)) × (Sg → Option (Unit × Sg)) × (Sg → Option (Unit × Sg)) × (Sg → Option (Unit × Sg)) × (Sg → Option (Unit × Sg)) × (Int32 → Sg → Option (Unit × Sg))
  | 0 => (fun _ => none, fun _ => none, fun _ => none, fun _ => none, fun _ => none, fun _ => none, fun _ _ => none)
  | d + 1 => (f_X10_any_e (G_X10_any d).1 (G_X10_any d).2.1 (G_X10_any d).2.2.1 (G_X10_any d).2.2.2.1 (G_X10_any d).2.2.2.2.1 (G_X10_any d).2.2.2.2.2.1 (G_X10_any d).2.2.2.2.2.2, f_X10_all_e (G_X10_any d).1 (G_X10_any d).2.1 (G_X10_any d).2.2.1 (G_X10_any d).2.2.2.1 (G_X10_any d).2.2.2.2.1 (G_X10_any d).2.2.2.2.2.1 (G_X10_any d).2.2.2.2.2.2, f_X10_compares_e (G_X10_any d).1 (G_X10_any d).2.1 (G_X10_any d).2.2.1 (G_X10_any d).2.2.2.1 (G_X10_any d).2.2.2.2.1 (G_X10_any d).2.2.2.2.2.1 (G_X10_any d).2.2.2.2.2.2, f_X10_sum_e (G_X10_any d).1 (G_X10_any d).2.1 (G_X10_any d).2.2.1 (G_X10_any d).2.2.2.1 (G_X10_any d).2.2.2.2.1 (G_X10_any d).2.2.2.2.2.1 (G_X10_any d).2.2.2.2.2.2, f_X10_times_e (G_X10_any d).1 (G_X10_any d).2.1 (G_X10_any d).2.2.1 (G_X10_any d).2.2.2.1 (G_X10_any d).2.2.2.2.1 (G_X10_any d).2.2.2.2.2.1 (G_X10_any d).2.2.2.2.2.2, f_X10_one_e (G_X10_any d).1 (G_X10_any d).2.1 (G_X10_any d).2.2.1 (G_X10_any d).2.2.2.1 (G_X10_any d).2.2.2.2.1 (G_X10_any d).2.2.2.2.2.1 (G_X10_any d).2.2.2.2.2.2, f_X10_opens_e (G_X10_any d).1 (G_X10_any d).2.1 (G_X10_any d).2.2.1 (G_X10_any d).2.2.2.1 (G_X10_any d).2.2.2.2.1 (G_X10_any d).2.2.2.2.2.1 (G_X10_any d).2.2.2.2.2.2)
def f_X10_any : Sg → Option (Unit × Sg) := (G_X10_any 64).1
def f_X10_all : Sg → Option (Unit × Sg) := (G_X10_any 64).2.1
def f_X10_compares : Sg → Option (Unit × Sg) := (G_X10_any 64).2.2.1
def f_X10_sum : Sg → Option (Unit × Sg) := (G_X10_any 64).2.2.2.1
def f_X10_times : Sg → Option (Unit × Sg) := (G_X10_any 64).2.2.2.2.1
def f_X10_one : Sg → Option (Unit × Sg) := (G_X10_any 64).2.2.2.2.2.1
def f_X10_opens : Int32 → Sg → Option (Unit × Sg) := (G_X10_any 64).2.2.2.2.2.2
def f_X10_begins (a1 : Int32) (σ : Sg) : Option (Unit × Sg) :=
  if (30 : Int32) ≤ (σ 0 19) then some ((), σ) else ckb (inb (σ 0 19) 30) (lt (up σ 13 (σ 0 19).toNatClampNeg a1) (fun s1 => lt (up s1 0 19 ((s1 0 19) + (1 : Int32))) (fun s2 => some ((), s2))))
def f_X10_it (a1 : Int32) (a2 : Int32) (σ : Sg) : Option (Int32 × Sg) :=
  ckb (inb (((12 : Int32) + ((7 : Int32) * a1)) + a2) 408) (some ((rd (σ 1) (((12 : Int32) + ((7 : Int32) * a1)) + a2)), σ))
def f_X10_plainSqueaks (a1 : Int32) (a2 : Int32) (σ : Sg) : Option (Int32 × Sg) :=
  bnd (f_X10_begins (10 : Int32) σ) (fun _ s1 => some ((a2 + a1), s1))
def f_X10_sumSqueaks (a1 : Int32) (a2 : Int32) (σ : Sg) : Option (Int32 × Sg) :=
  bnd (f_X10_begins (20 : Int32) σ) (fun _ s1 => bnd (f_X10_plainSqueaks a1 a2 s1) (fun r4 s3 => some ((r4 - (4 : Int32)), s3)))
def f_X10_squeaks (a1 : Int32) (a2 : Int32) (σ : Sg) : Option (Int32 × Sg) :=
  bnd (f_X10_it a1 (0 : Int32) σ) (fun r2 s1 => if r2 = (1 : Int32) then bnd (f_X10_sumSqueaks a1 a2 s1) (fun r5 s4 => some (r5, s4)) else if r2 = (4 : Int32) then bnd (f_X10_begins (50 : Int32) s1) (fun _ s7 => bnd (f_X10_sumSqueaks a1 a2 s7) (fun r10 s9 => some ((r10 * (3 : Int32)), s9))) else if r2 = (6 : Int32) then bnd (f_X10_begins (70 : Int32) s1) (fun _ s12 => some ((9 : Int32), s12)) else bnd (f_X10_plainSqueaks a1 a2 s1) (fun r15 s14 => some (r15, s14)))
def f_X10_plainSmears (a1 : Int32) (a2 : Int32) (σ : Sg) : Option (Int32 × Sg) :=
  bnd (f_X10_begins (11 : Int32) σ) (fun _ s1 => bnd (f_X10_squeaks a1 a2 s1) (fun r4 s3 => some ((r4 * (2 : Int32)), s3)))
def f_X10_arrowSmears (a1 : Int32) (a2 : Int32) (σ : Sg) : Option (Int32 × Sg) :=
  bnd (f_X10_begins (30 : Int32) σ) (fun _ s1 => bnd (f_X10_plainSmears a1 a2 s1) (fun r4 s3 => some ((-r4), s3)))
def f_X10_isLine (a1 : Int32) (σ : Sg) : Option (Int32 × Sg) :=
  ckb (inb (2 : Int32) 408) (bnd (f_X10_in a1 (0 : Int32) ((rd (σ 1) (2 : Int32)) - (1 : Int32)) σ) (fun r2 s1 => ckb (isb r2) (some (r2, s1))))
def f_X10_error (a1 : Int32) (σ : Sg) : Option (Int32 × Sg) :=
  ckb (inb ((-1000000000 : Int32) - a1) 7) (ckb (inb ((-1000000000 : Int32) - a1) 7) (lt (up σ 4 ((-1000000000 : Int32) - a1).toNatClampNeg ((rd (σ 4) ((-1000000000 : Int32) - a1)) + (1 : Int32))) (fun s1 => some (a1, s1))))
def f_X10_as_66  (a1 : Int32) (t0 : Int32) (σ : Sg) : Option (Int32 × Sg) :=
  if t0 = 0 then bnd (f_X10_error (-1000000005 : Int32) σ) (fun r2 s1 => some (r2, s1)) else bnd (f_X10_it a1 (1 : Int32) σ) (fun r4 s3 => some (r4, s3))
def f_X10_as (a1 : Int32) (a2 : Int32) (σ : Sg) : Option (Int32 × Sg) :=
  bnd (f_X10_isLine a1 σ) (fun r6 s5 => if r6 = 0 then bnd (f_X10_error (-1000000001 : Int32) s5) (fun r8 s7 => some (r8, s7)) else bnd (f_X10_in a2 (0 : Int32) (6 : Int32) s5) (fun r10 s9 => if r10 = 0 then bnd (f_X10_error (-1000000001 : Int32) s9) (fun r14 s13 => some (r14, s13)) else bnd (f_X10_it a1 (0 : Int32) s9) (fun r12 s11 => if a2 = 0 then f_X10_as_66 a1 (1 : Int32) s11 else if a2 = r12 then f_X10_as_66 a1 (1 : Int32) s11 else if a2 = (1 : Int32) then if r12 = (4 : Int32) then f_X10_as_66 a1 (1 : Int32) s11 else if a2 = (2 : Int32) then if r12 = (5 : Int32) then f_X10_as_66 a1 (1 : Int32) s11 else f_X10_as_66 a1 (0 : Int32) s11 else f_X10_as_66 a1 (0 : Int32) s11 else if a2 = (2 : Int32) then if r12 = (5 : Int32) then f_X10_as_66 a1 (1 : Int32) s11 else f_X10_as_66 a1 (0 : Int32) s11 else f_X10_as_66 a1 (0 : Int32) s11)))
def f_X10_held (a0 : Int32) (a1 : Int32) (a2 : Int32) (σ : Sg) : Option (Int32 × Sg) :=
  if a1 ≤ a0 then if a0 ≤ a2 then some (a0, σ) else some (a2, σ) else some (a1, σ)
def f_X10_backOf (a1 : Int32) (σ : Sg) : Option (Int32 × Sg) :=
  bnd (f_X10_it a1 (1 : Int32) σ) (fun r2 s1 => ckb (inb (0 : Int32) 408) (bnd (f_X10_it a1 (4 : Int32) s1) (fun r4 s3 => bnd (f_X10_held ((50 : Int32) - ((5 : Int32) * ((rd (s1 1) (0 : Int32)) - r4))) (0 : Int32) (50 : Int32) s3) (fun r6 s5 => lt ((r6 + r2)) (fun v7 => bnd (f_X10_it a1 (0 : Int32) s5) (fun r9 s8 => if r9 = (1 : Int32) then bnd (f_X10_held (v7 + (20 : Int32)) (0 : Int32) (100 : Int32) s8) (fun r12 s11 => some (r12, s11)) else if r9 = (2 : Int32) then some ((v7 / (2 : Int32)), s8) else if r9 = (3 : Int32) then bnd (f_X10_it a1 (5 : Int32) s8) (fun r16 s15 => if r16 = (1 : Int32) then bnd (f_X10_held (v7 + (20 : Int32)) (0 : Int32) (100 : Int32) s15) (fun r20 s19 => some (r20, s19)) else bnd (f_X10_held v7 (0 : Int32) (100 : Int32) s15) (fun r18 s17 => some (r18, s17))) else if r9 = (4 : Int32) then bnd (f_X10_held (v7 + (40 : Int32)) (0 : Int32) (100 : Int32) s8) (fun r23 s22 => some (r23, s22)) else if r9 = (5 : Int32) then bnd (f_X10_held ((v7 / (2 : Int32)) - r2) (0 : Int32) (100 : Int32) s8) (fun r26 s25 => some (r26, s25)) else if r9 = (6 : Int32) then bnd (f_X10_held (v7 + (5 : Int32)) (0 : Int32) (100 : Int32) s8) (fun r29 s28 => some (r29, s28)) else some (v7, s8)))))))
def f_X10_isKm (a0 : Int32) (σ : Sg) : Option (Int32 × Sg) :=
  bnd (f_X10_in a0 (0 : Int32) (69 : Int32) σ) (fun r2 s1 => ckb (isb r2) (some (r2, s1)))
def f_X10_lets (a1 : Int32) (a2 : Int32) (a3 : Int32) (σ : Sg) : Option (Unit × Sg) :=
  ckb (inb (((12 : Int32) + ((7 : Int32) * a1)) + a2) 408) (lt (up σ 1 (((12 : Int32) + ((7 : Int32) * a1)) + a2).toNatClampNeg a3) (fun s1 => some ((), s1)))
def f_X10_becomes (a1 : Int32) (a2 : Int32) (σ : Sg) : Option (Int32 × Sg) :=
  ckb (inb a1 408) (lt ((rd (σ 1) a1)) (fun v1 => ckb (inb a1 408) (lt (up σ 1 a1.toNatClampNeg a2) (fun s2 => some (v1, s2)))))
def f_X10_become (a1 : Int32) (a2 : Int32) (σ : Sg) : Option (Int32 × Sg) :=
  bnd (f_X10_isLine a1 σ) (fun r2 s1 => if r2 = 0 then bnd (f_X10_error (-1000000001 : Int32) s1) (fun r4 s3 => some (r4, s3)) else bnd (f_X10_isKm a2 s1) (fun r6 s5 => if r6 = 0 then bnd (f_X10_error (-1000000001 : Int32) s5) (fun r12 s11 => some (r12, s11)) else bnd (f_X10_lets a1 (1 : Int32) (irm a2 (10 : Int32)) s5) (fun _ s7 => bnd (f_X10_becomes ((12 : Int32) + ((7 : Int32) * a1)) (a2 / (10 : Int32)) s7) (fun r10 s9 => some (r10, s9)))))
def f_X10_bits_4_b  (rec4 : Int32 → Int32 → Sg → Option (Int32 × Sg)) (a1 : Int32) (a2 : Int32) (σ : Sg) : Option (Int32 × Sg) :=
  if a2 = 0 then some (a1, σ) else lt (a1 + (1 : Int32)) (fun v1 => lt ((a2 &&& (a2 - (1 : Int32)))) (fun v2 => rec4 v1 v2 σ))
def f_X10_bits_4  : Nat → Int32 → Int32 → Sg → Option (Int32 × Sg)
  | 0 => fun _ _ _ => none
  | n + 1 => f_X10_bits_4_b   (f_X10_bits_4   n)
def f_X10_bits (a0 : Int32) (σ : Sg) : Option (Int32 × Sg) :=
  f_X10_bits_4 fuN (0 : Int32) a0 σ
def f_X10_body (a1 : Int32) (σ : Sg) : Option (Int32 × Sg) :=
  bnd (f_X10_in a1 (0 : Int32) ((σ 0 19) - (1 : Int32)) σ) (fun r2 s1 => if r2 = 0 then bnd (f_X10_error (-1000000002 : Int32) s1) (fun r4 s3 => some (r4, s3)) else ckb (inb a1 30) (some ((rd (s1 13) a1), s1)))
def f_X10_check_18_b  (rec18 : Int32 → Int32 → Sg → Option (Int32 × Sg)) (a1 : Int32) (a2 : Int32) (σ : Sg) : Option (Int32 × Sg) :=
  if a1 ≤ a2 then some ((0 : Int32), σ) else if (5 : Int32) ≤ a2 then some (((1 : Int32) + a2), σ) else ckb (inb ((142 : Int32) + a2) 408) (ckb (inb ((7 : Int32) + a2) 408) (if (rd (σ 1) ((142 : Int32) + a2)) = (rd (σ 1) ((7 : Int32) + a2)) then lt (a2 + (1 : Int32)) (fun v1 => rec18 a1 v1 σ) else some (((1 : Int32) + a2), σ)))
def f_X10_check_18  : Nat → Int32 → Int32 → Sg → Option (Int32 × Sg)
  | 0 => fun _ _ _ => none
  | n + 1 => f_X10_check_18_b   (f_X10_check_18   n)
def f_X10_check  (σ : Sg) : Option (Int32 × Sg) :=
  ckb (inb (6 : Int32) 408) (lt ((rd (σ 1) (6 : Int32))) (fun v2 => ckb (inb (6 : Int32) 408) (lt (up σ 1 (6 : Int32).toNatClampNeg (0 : Int32)) (fun s3 => f_X10_check_18 fuN v2 (0 : Int32) s3))))
def f_X10_copyAll_2_b  (rec2 : Nat → Nat → Int32 → Sg → Option (Unit × Sg)) (o0 : Nat) (o1 : Nat) (a2 : Int32) (σ : Sg) : Option (Unit × Sg) :=
  if (408 : Int32) ≤ a2 then some ((), σ) else ckb (inb a2 408) (ckb (inb a2 408) (lt (up σ o1 a2.toNatClampNeg (rd (σ o0) a2)) (fun s1 => lt (a2 + (1 : Int32)) (fun v2 => rec2 o0 o1 v2 s1))))
def f_X10_copyAll_2  : Nat → Nat → Nat → Int32 → Sg → Option (Unit × Sg)
  | 0 => fun _ _ _ _ => none
  | n + 1 => f_X10_copyAll_2_b   (f_X10_copyAll_2   n)
def f_X10_copyAll (o0 : Nat) (o1 : Nat) (σ : Sg) : Option (Unit × Sg) :=
  f_X10_copyAll_2 fuN o0 o1 (0 : Int32) σ
def f_X10_thinks  (σ : Sg) : Option (Unit × Sg) :=
  bnd (f_X10_copyAll 1 3 σ) (fun _ s1 => some ((), s1))
def f_X10_mayGo (a1 : Int32) (σ : Sg) : Option (Int32 × Sg) :=
  bnd (f_X10_it a1 (1 : Int32) σ) (fun r2 s1 => ckb (inb (0 : Int32) 408) (bnd (f_X10_it a1 (4 : Int32) s1) (fun r4 s3 => lt (((rd (s1 1) (0 : Int32)) - r4)) (fun v5 => bnd (f_X10_it a1 (6 : Int32) s3) (fun r7 s6 => if r7 = (1 : Int32) then some ((0 : Int32), s6) else bnd (f_X10_it a1 (0 : Int32) s6) (fun r9 s8 => if r9 = (1 : Int32) then if v5 < (7 : Int32) then some ((0 : Int32), s8) else if v5 < ((7 : Int32) * r2) then some ((0 : Int32), s8) else some ((1 : Int32), s8) else if r9 = (2 : Int32) then if v5 < (1 : Int32) then some ((0 : Int32), s8) else some ((1 : Int32), s8) else if r9 = (3 : Int32) then if v5 < (7 : Int32) then some ((0 : Int32), s8) else some ((1 : Int32), s8) else if r9 = (4 : Int32) then if r2 = 0 then if v5 < (7 : Int32) then some ((0 : Int32), s8) else some ((1 : Int32), s8) else some ((0 : Int32), s8) else if r9 = (5 : Int32) then if v5 < (1 : Int32) then some ((0 : Int32), s8) else if v5 < r2 then some ((0 : Int32), s8) else some ((1 : Int32), s8) else if r9 = (6 : Int32) then if v5 < (7 : Int32) then some ((0 : Int32), s8) else ckb (inb (3 : Int32) 408) (if (rd (s8 1) (3 : Int32)) = (1 : Int32) then some ((1 : Int32), s8) else some ((0 : Int32), s8)) else if v5 < (7 : Int32) then some ((0 : Int32), s8) else some ((1 : Int32), s8)))))))
def f_X10_clearsDay_2_b  (rec2 : Int32 → Sg → Option (Unit × Sg)) (a1 : Int32) (σ : Sg) : Option (Unit × Sg) :=
  ckb (inb (2 : Int32) 408) (if (rd (σ 1) (2 : Int32)) ≤ a1 then ckb (inb (0 : Int32) 408) (ckb (inb (0 : Int32) 408) (lt (up σ 1 (0 : Int32).toNatClampNeg ((rd (σ 1) (0 : Int32)) + (1 : Int32))) (fun s1 => some ((), s1)))) else bnd (f_X10_mayGo a1 σ) (fun r3 s2 => if r3 = 0 then lt (a1 + (1 : Int32)) (fun v4 => rec2 v4 s2) else bnd (f_X10_lets a1 (6 : Int32) (1 : Int32) s2) (fun _ s5 => lt (a1 + (1 : Int32)) (fun v7 => rec2 v7 s5))))
def f_X10_clearsDay_2  : Nat → Int32 → Sg → Option (Unit × Sg)
  | 0 => fun _ _ => none
  | n + 1 => f_X10_clearsDay_2_b   (f_X10_clearsDay_2   n)
def f_X10_clearsDay  (σ : Sg) : Option (Unit × Sg) :=
  f_X10_clearsDay_2 fuN (0 : Int32) σ
def f_X10_takenBy_43 (rec4 : Int32 → Int32 → Int32 → Sg → Option (Int32 × Sg)) (a1 : Int32) (a2 : Int32) (a3 : Int32) (t0 : Int32) (σ : Sg) : Option (Int32 × Sg) :=
  if t0 = 0 then lt ((a2 ||| (0 : Int32))) (fun v1 => lt (a3 + (1 : Int32)) (fun v2 => rec4 a1 v1 v2 σ)) else bnd (f_X10_it a3 (2 : Int32) σ) (fun r4 s3 => lt ((a2 ||| r4)) (fun v5 => lt (a3 + (1 : Int32)) (fun v6 => rec4 a1 v5 v6 s3)))
def f_X10_takenBy_4_b  (rec4 : Int32 → Int32 → Int32 → Sg → Option (Int32 × Sg)) (a1 : Int32) (a2 : Int32) (a3 : Int32) (σ : Sg) : Option (Int32 × Sg) :=
  ckb (inb (2 : Int32) 408) (if (rd (σ 1) (2 : Int32)) ≤ a3 then some (a2, σ) else bnd (f_X10_it a3 (6 : Int32) σ) (fun r8 s7 => if r8 = 0 then if a1 < 0 then f_X10_takenBy_43 rec4 a1 a2 a3 (1 : Int32) s7 else bnd (f_X10_it a3 (3 : Int32) s7) (fun r10 s9 => if r10 = a1 then f_X10_takenBy_43 rec4 a1 a2 a3 (1 : Int32) s9 else f_X10_takenBy_43 rec4 a1 a2 a3 (0 : Int32) s9) else f_X10_takenBy_43 rec4 a1 a2 a3 (0 : Int32) s7))
def f_X10_takenBy_4  : Nat → Int32 → Int32 → Int32 → Sg → Option (Int32 × Sg)
  | 0 => fun _ _ _ _ => none
  | n + 1 => f_X10_takenBy_4_b   (f_X10_takenBy_4   n)
def f_X10_takenBy (a1 : Int32) (σ : Sg) : Option (Int32 × Sg) :=
  f_X10_takenBy_4 fuN a1 (0 : Int32) (0 : Int32) σ
def f_X10_putsBack  (σ : Sg) : Option (Unit × Sg) :=
  bnd (f_X10_copyAll 3 1 σ) (fun _ s1 => some ((), s1))
def f_X10_clears_23_b  (rec23 : Int32 → Int32 → Sg → Option (Int32 × Sg)) (a1 : Int32) (a2 : Int32) (σ : Sg) : Option (Int32 × Sg) :=
  if a1 ≤ a2 then bnd (f_X10_takenBy (-1 : Int32) σ) (fun r2 s1 => bnd (f_X10_putsBack s1) (fun _ s3 => some (r2, s3))) else bnd (f_X10_clearsDay σ) (fun _ s5 => lt (a2 + (1 : Int32)) (fun v7 => rec23 a1 v7 s5))
def f_X10_clears_23  : Nat → Int32 → Int32 → Sg → Option (Int32 × Sg)
  | 0 => fun _ _ _ => none
  | n + 1 => f_X10_clears_23_b   (f_X10_clears_23   n)
def f_X10_clears (a1 : Int32) (σ : Sg) : Option (Int32 × Sg) :=
  bnd (f_X10_in a1 (0 : Int32) (90 : Int32) σ) (fun r9 s8 => if r9 = 0 then bnd (f_X10_error (-1000000001 : Int32) s8) (fun r13 s12 => some (r13, s12)) else bnd (f_X10_thinks s8) (fun _ s10 => f_X10_clears_23 fuN a1 (0 : Int32) s10))
def f_X10_comes (a1 : Int32) (a2 : Int32) (a3 : Int32) (σ : Sg) : Option (Int32 × Sg) :=
  ckb (inb (2 : Int32) 408) (lt ((rd (σ 1) (2 : Int32))) (fun v1 => ckb (inb (2 : Int32) 408) (ckb (inb (2 : Int32) 408) (lt (up σ 1 (2 : Int32).toNatClampNeg ((rd (σ 1) (2 : Int32)) + (1 : Int32))) (fun s2 => bnd (f_X10_lets v1 (0 : Int32) (a1 / (10 : Int32)) s2) (fun _ s3 => bnd (f_X10_lets v1 (1 : Int32) (irm a1 (10 : Int32)) s3) (fun _ s5 => bnd (f_X10_lets v1 (2 : Int32) a2 s5) (fun _ s7 => bnd (f_X10_lets v1 (3 : Int32) a3 s7) (fun _ s9 => ckb (inb (0 : Int32) 408) (bnd (f_X10_lets v1 (4 : Int32) (rd (s9 1) (0 : Int32)) s9) (fun _ s11 => bnd (f_X10_lets v1 (5 : Int32) (0 : Int32) s11) (fun _ s13 => bnd (f_X10_lets v1 (6 : Int32) (0 : Int32) s13) (fun _ s15 => some (v1, s15))))))))))))))
def f_X10_count (a1 : Int32) (σ : Sg) : Option (Int32 × Sg) :=
  if a1 = (0 : Int32) then ckb (inb (2 : Int32) 408) (some ((rd (σ 1) (2 : Int32)), σ)) else if a1 = (1 : Int32) then ckb (inb (0 : Int32) 408) (some ((rd (σ 1) (0 : Int32)), σ)) else if a1 = (2 : Int32) then ckb (inb (3 : Int32) 408) (some ((rd (σ 1) (3 : Int32)), σ)) else if a1 = (3 : Int32) then ckb (inb (4 : Int32) 408) (some ((rd (σ 1) (4 : Int32)), σ)) else if a1 = (4 : Int32) then ckb (inb (5 : Int32) 408) (some ((rd (σ 1) (5 : Int32)), σ)) else if a1 = (5 : Int32) then ckb (inb (6 : Int32) 408) (some ((rd (σ 1) (6 : Int32)), σ)) else if a1 = (6 : Int32) then some ((σ 0 19), σ) else if a1 = (7 : Int32) then ckb (inb (1 : Int32) 408) (some ((rd (σ 1) (1 : Int32)), σ)) else bnd (f_X10_error (-1000000001 : Int32) σ) (fun r10 s9 => some (r10, s9))
def f_X10_isSheet (a0 : Int32) (σ : Sg) : Option (Int32 × Sg) :=
  bnd (f_X10_in a0 (0 : Int32) (3 : Int32) σ) (fun r2 s1 => ckb (isb r2) (some (r2, s1)))
def f_X10_notThere (a1 : Int32) (σ : Sg) : Option (Int32 × Sg) :=
  bnd (f_X10_isSheet a1 σ) (fun r2 s1 => if r2 = 0 then some ((-1000000001 : Int32), s1) else ckb (inb a1 4) (if (rd (s1 5) a1) = 0 then some ((-1000000002 : Int32), s1) else some ((0 : Int32), s1)))
def f_X10_dates_18_b  (rec18 : Int32 → Int32 → Sg → Option (Int32 × Sg)) (a1 : Int32) (a3 : Int32) (σ : Sg) : Option (Int32 × Sg) :=
  ckb (inb a1 4) (if (rd (σ 6) a1) ≤ a3 then some (a3, σ) else ckb (inb (2 : Int32) 408) (if (rd (σ 1) (2 : Int32)) ≤ a3 then some (a3, σ) else ckb (inb (((24 : Int32) * a1) + a3) 96) (ckb (inb (0 : Int32) 408) (bnd (f_X10_in (rd (σ 7) (((24 : Int32) * a1) + a3)) (0 : Int32) (rd (σ 1) (0 : Int32)) σ) (fun r2 s1 => if r2 = 0 then some (a3, s1) else ckb (inb (((24 : Int32) * a1) + a3) 96) (bnd (f_X10_lets a3 (4 : Int32) (rd (s1 7) (((24 : Int32) * a1) + a3)) s1) (fun _ s3 => lt (a3 + (1 : Int32)) (fun v5 => rec18 a1 v5 s3))))))))
def f_X10_dates_18  : Nat → Int32 → Int32 → Sg → Option (Int32 × Sg)
  | 0 => fun _ _ _ => none
  | n + 1 => f_X10_dates_18_b   (f_X10_dates_18   n)
def f_X10_dates (a1 : Int32) (σ : Sg) : Option (Int32 × Sg) :=
  bnd (f_X10_notThere a1 σ) (fun r7 s6 => if r7 = 0 then f_X10_dates_18 fuN a1 (0 : Int32) s6 else bnd (f_X10_error r7 s6) (fun r9 s8 => some (r9, s8)))
def f_X10_goes_37 (rec2 : Int32 → Sg → Option (Unit × Sg)) (a1 : Int32) (t0 : Int32) (σ : Sg) : Option (Unit × Sg) :=
  ckb (inb ((7 : Int32) + a1) 408) (if t0 = 0 then ckb (inb ((7 : Int32) + a1) 408) (lt (up σ 1 ((7 : Int32) + a1).toNatClampNeg ((rd (σ 1) ((7 : Int32) + a1)) - (0 : Int32))) (fun s1 => lt (a1 + (1 : Int32)) (fun v2 => rec2 v2 s1))) else ckb (inb ((7 : Int32) + a1) 408) (lt (up σ 1 ((7 : Int32) + a1).toNatClampNeg ((rd (σ 1) ((7 : Int32) + a1)) - (1 : Int32))) (fun s3 => lt (a1 + (1 : Int32)) (fun v4 => rec2 v4 s3))))
def f_X10_goes_2_b  (rec2 : Int32 → Sg → Option (Unit × Sg)) (a1 : Int32) (σ : Sg) : Option (Unit × Sg) :=
  if (5 : Int32) ≤ a1 then ckb (inb (0 : Int32) 408) (ckb (inb (0 : Int32) 408) (lt (up σ 1 (0 : Int32).toNatClampNeg ((rd (σ 1) (0 : Int32)) + (1 : Int32))) (fun s5 => some ((), s5)))) else ckb (inb (0 : Int32) 408) (ckb (nz (a1 + (2 : Int32))) (if (irm (rd (σ 1) (0 : Int32)) (a1 + (2 : Int32))) = 0 then ckb (inb ((7 : Int32) + a1) 408) (if (rd (σ 1) ((7 : Int32) + a1)) ≤ 0 then f_X10_goes_37 rec2 a1 (0 : Int32) σ else f_X10_goes_37 rec2 a1 (1 : Int32) σ) else f_X10_goes_37 rec2 a1 (0 : Int32) σ))
def f_X10_goes_2  : Nat → Int32 → Sg → Option (Unit × Sg)
  | 0 => fun _ _ => none
  | n + 1 => f_X10_goes_2_b   (f_X10_goes_2   n)
def f_X10_goes  (σ : Sg) : Option (Unit × Sg) :=
  f_X10_goes_2 fuN (0 : Int32) σ
def f_X10_days_40_b  (rec40 : Int32 → Int32 → Sg → Option (Int32 × Sg)) (a1 : Int32) (a2 : Int32) (σ : Sg) : Option (Int32 × Sg) :=
  if a1 ≤ a2 then ckb (inb (0 : Int32) 408) (some ((rd (σ 1) (0 : Int32)), σ)) else bnd (f_X10_goes σ) (fun _ s1 => lt (a2 + (1 : Int32)) (fun v3 => rec40 a1 v3 s1))
def f_X10_days_40  : Nat → Int32 → Int32 → Sg → Option (Int32 × Sg)
  | 0 => fun _ _ _ => none
  | n + 1 => f_X10_days_40_b   (f_X10_days_40   n)
def f_X10_days (a1 : Int32) (σ : Sg) : Option (Int32 × Sg) :=
  bnd (f_X10_in a1 (1 : Int32) (90 : Int32) σ) (fun r5 s4 => if r5 = 0 then bnd (f_X10_error (-1000000001 : Int32) s4) (fun r9 s8 => some (r9, s8)) else ckb (inb (0 : Int32) 408) (if ((rd (s4 1) (0 : Int32)) + a1) ≤ (9999 : Int32) then f_X10_days_40 fuN a1 (0 : Int32) s4 else bnd (f_X10_error (-1000000003 : Int32) s4) (fun r7 s6 => some (r7, s6))))
def f_X10_draw  (σ : Sg) : Option (Int32 × Sg) :=
  ckb (inb (1 : Int32) 408) (ckb (inb (1 : Int32) 408) (lt (up σ 1 (1 : Int32).toNatClampNeg (((rd (σ 1) (1 : Int32)) * (1103515245 : Int32)) + (12345 : Int32))) (fun s1 => ckb (inb (1 : Int32) 408) (some ((ius (rd (s1 1) (1 : Int32)) (8 : Int32)), s1)))))
def f_X10_twoOf (a0 : Int32) (a1 : Int32) (a2 : Int32) (σ : Sg) : Option (Int32 × Sg) :=
  if a0 = (37 : Int32) then if a2 = 0 then some ((0 : Int32), σ) else ckb (nz a2) (some ((irm a1 a2), σ)) else if a0 = (38 : Int32) then if a1 = 0 then some ((0 : Int32), σ) else if a2 = 0 then some ((0 : Int32), σ) else some ((1 : Int32), σ) else if a0 = (39 : Int32) then if a1 = 0 then if a2 = 0 then some ((0 : Int32), σ) else some ((1 : Int32), σ) else some ((1 : Int32), σ) else if a0 = (40 : Int32) then if a1 = 0 then if a2 = 0 then some ((0 : Int32), σ) else some ((1 : Int32), σ) else some ((1 : Int32), σ) else if a0 = (41 : Int32) then if a1 = 0 then if a2 = 0 then some ((0 : Int32), σ) else some ((1 : Int32), σ) else some ((1 : Int32), σ) else if a0 = (42 : Int32) then some ((a1 * a2), σ) else if a0 = (43 : Int32) then some ((a1 + a2), σ) else if a0 = (44 : Int32) then if a1 = 0 then if a2 = 0 then some ((0 : Int32), σ) else some ((1 : Int32), σ) else some ((1 : Int32), σ) else if a0 = (45 : Int32) then some ((a1 - a2), σ) else if a0 = (46 : Int32) then if a1 = 0 then if a2 = 0 then some ((0 : Int32), σ) else some ((1 : Int32), σ) else some ((1 : Int32), σ) else if a0 = (47 : Int32) then if a2 = 0 then some ((0 : Int32), σ) else ckb (nz a2) (some ((a1 / a2), σ)) else if a0 = (48 : Int32) then if a1 = 0 then if a2 = 0 then some ((0 : Int32), σ) else some ((1 : Int32), σ) else some ((1 : Int32), σ) else if a0 = (49 : Int32) then if a1 = 0 then if a2 = 0 then some ((0 : Int32), σ) else some ((1 : Int32), σ) else some ((1 : Int32), σ) else if a0 = (50 : Int32) then if a1 = 0 then if a2 = 0 then some ((0 : Int32), σ) else some ((1 : Int32), σ) else some ((1 : Int32), σ) else if a0 = (51 : Int32) then if a1 = 0 then if a2 = 0 then some ((0 : Int32), σ) else some ((1 : Int32), σ) else some ((1 : Int32), σ) else if a0 = (52 : Int32) then if a1 = 0 then if a2 = 0 then some ((0 : Int32), σ) else some ((1 : Int32), σ) else some ((1 : Int32), σ) else if a0 = (53 : Int32) then if a1 = 0 then if a2 = 0 then some ((0 : Int32), σ) else some ((1 : Int32), σ) else some ((1 : Int32), σ) else if a0 = (54 : Int32) then if a1 = 0 then if a2 = 0 then some ((0 : Int32), σ) else some ((1 : Int32), σ) else some ((1 : Int32), σ) else if a0 = (55 : Int32) then if a1 = 0 then if a2 = 0 then some ((0 : Int32), σ) else some ((1 : Int32), σ) else some ((1 : Int32), σ) else if a0 = (56 : Int32) then if a1 = 0 then if a2 = 0 then some ((0 : Int32), σ) else some ((1 : Int32), σ) else some ((1 : Int32), σ) else if a0 = (57 : Int32) then if a1 = 0 then if a2 = 0 then some ((0 : Int32), σ) else some ((1 : Int32), σ) else some ((1 : Int32), σ) else if a0 = (58 : Int32) then if a1 = 0 then if a2 = 0 then some ((0 : Int32), σ) else some ((1 : Int32), σ) else some ((1 : Int32), σ) else if a0 = (59 : Int32) then if a1 = 0 then if a2 = 0 then some ((0 : Int32), σ) else some ((1 : Int32), σ) else some ((1 : Int32), σ) else if a0 = (60 : Int32) then if a2 ≤ a1 then some ((0 : Int32), σ) else some ((1 : Int32), σ) else if a0 = (61 : Int32) then if a1 = a2 then some ((1 : Int32), σ) else some ((0 : Int32), σ) else if a0 = (62 : Int32) then if a1 ≤ a2 then some ((0 : Int32), σ) else some ((1 : Int32), σ) else if a1 = 0 then if a2 = 0 then some ((0 : Int32), σ) else some ((1 : Int32), σ) else some ((1 : Int32), σ)
def f_X10_works_38 (rec4 : Int32 → Int32 → Int32 → Sg → Option (Int32 × Sg)) (a1 : Int32) (a2 : Int32) (a3 : Int32) (a4 : Int32) (σ : Sg) : Option (Int32 × Sg) :=
  if a4 = (1 : Int32) then ckb (inb ((a1 + (61 : Int32)) + a3) 408) (ckb (inb a2 60) (lt (up σ 11 a2.toNatClampNeg (rd (σ 1) ((a1 + (61 : Int32)) + a3))) (fun s4 => lt (a2 + (1 : Int32)) (fun v5 => lt (a3 + (1 : Int32)) (fun v6 => rec4 a1 v5 v6 s4))))) else ckb (inb ((a1 + (61 : Int32)) + a3) 408) (ckb (inb (rd (σ 1) ((a1 + (61 : Int32)) + a3)) 3) (ckb (inb a2 60) (lt (up σ 11 a2.toNatClampNeg (rd (σ 10) (rd (σ 1) ((a1 + (61 : Int32)) + a3)))) (fun s1 => lt (a2 + (1 : Int32)) (fun v2 => lt (a3 + (1 : Int32)) (fun v3 => rec4 a1 v2 v3 s1))))))
def f_X10_works_4_b  (rec4 : Int32 → Int32 → Int32 → Sg → Option (Int32 × Sg)) (a1 : Int32) (a2 : Int32) (a3 : Int32) (σ : Sg) : Option (Int32 × Sg) :=
  ckb (inb a1 408) (if (rd (σ 1) a1) ≤ a3 then ckb (inb (0 : Int32) 60) (some ((rd (σ 11) (0 : Int32)), σ)) else ckb (inb ((a1 + (1 : Int32)) + a3) 408) (lt ((rd (σ 1) ((a1 + (1 : Int32)) + a3))) (fun v7 => if v7 = (1 : Int32) then f_X10_works_38 rec4 a1 a2 a3 v7 σ else if v7 = (2 : Int32) then f_X10_works_38 rec4 a1 a2 a3 v7 σ else if v7 = (3 : Int32) then ckb (inb (a2 - (1 : Int32)) 60) (if (rd (σ 11) (a2 - (1 : Int32))) = 0 then ckb (inb (a2 - (1 : Int32)) 60) (lt (up σ 11 (a2 - (1 : Int32)).toNatClampNeg (1 : Int32)) (fun s15 => lt (a3 + (1 : Int32)) (fun v16 => rec4 a1 a2 v16 s15))) else ckb (inb (a2 - (1 : Int32)) 60) (lt (up σ 11 (a2 - (1 : Int32)).toNatClampNeg (0 : Int32)) (fun s13 => lt (a3 + (1 : Int32)) (fun v14 => rec4 a1 a2 v14 s13)))) else lt (a2 + (-1 : Int32)) (fun v8 => ckb (inb (v8 - (1 : Int32)) 60) (ckb (inb v8 60) (bnd (f_X10_twoOf v7 (rd (σ 11) (v8 - (1 : Int32))) (rd (σ 11) v8) σ) (fun r10 s9 => ckb (inb (v8 - (1 : Int32)) 60) (lt (up s9 11 (v8 - (1 : Int32)).toNatClampNeg r10) (fun s11 => lt (a3 + (1 : Int32)) (fun v12 => rec4 a1 v8 v12 s11))))))))))
def f_X10_works_4  : Nat → Int32 → Int32 → Int32 → Sg → Option (Int32 × Sg)
  | 0 => fun _ _ _ _ => none
  | n + 1 => f_X10_works_4_b   (f_X10_works_4   n)
def f_X10_works (a1 : Int32) (σ : Sg) : Option (Int32 × Sg) :=
  f_X10_works_4 fuN a1 (0 : Int32) (0 : Int32) σ
def f_X10_gives_57  (a5 : Int32) (t0 : Int32) (σ : Sg) : Option (Int32 × Sg) :=
  ckb (inb a5 408) (if (rd (σ 1) a5) ≤ 0 then bnd (f_X10_held t0 (0 : Int32) (999 : Int32) σ) (fun r2 s1 => some (r2, s1)) else bnd (f_X10_works a5 σ) (fun r4 s3 => bnd (f_X10_held r4 (0 : Int32) (999 : Int32) s3) (fun r6 s5 => some (r6, s5))))
def f_X10_gives (a1 : Int32) (a2 : Int32) (a3 : Int32) (a4 : Int32) (σ : Sg) : Option (Int32 × Sg) :=
  lt (((166 : Int32) + ((121 : Int32) * a1))) (fun v7 => ckb (inb (0 : Int32) 3) (lt (up σ 10 (0 : Int32).toNatClampNeg a2) (fun s8 => ckb (inb (1 : Int32) 3) (lt (up s8 10 (1 : Int32).toNatClampNeg a3) (fun s9 => ckb (inb (2 : Int32) 3) (lt (up s9 10 (2 : Int32).toNatClampNeg a4) (fun s10 => if a1 = (1 : Int32) then f_X10_gives_57 v7 ((10 : Int32) * a2) s10 else if a4 = (1 : Int32) then f_X10_gives_57 v7 (a2 / (2 : Int32)) s10 else f_X10_gives_57 v7 a2 s10)))))))
def f_X10_lossOf (a1 : Int32) (σ : Sg) : Option (Int32 × Sg) :=
  bnd (f_X10_backOf a1 σ) (fun r2 s1 => bnd (f_X10_it a1 (1 : Int32) s1) (fun r4 s3 => bnd (f_X10_it a1 (5 : Int32) s3) (fun r6 s5 => bnd (f_X10_gives (0 : Int32) r2 r4 r6 s5) (fun r8 s7 => some (r8, s7)))))
def f_X10_isWiped (a1 : Int32) (σ : Sg) : Option (Unit × Sg) :=
  ckb (inb (4 : Int32) 408) (bnd (f_X10_lossOf a1 σ) (fun r2 s1 => bnd (f_X10_held ((rd (σ 1) (4 : Int32)) + r2) (0 : Int32) (99999 : Int32) s1) (fun r4 s3 => ckb (inb (4 : Int32) 408) (lt (up s3 1 (4 : Int32).toNatClampNeg r4) (fun s5 => bnd (f_X10_lets a1 (6 : Int32) (1 : Int32) s5) (fun _ s6 => some ((), s6)))))))
def f_X10_drawn_38  (a1 : Int32) (σ : Sg) : Option (Int32 × Sg) :=
  bnd (f_X10_draw σ) (fun r2 s1 => lt ((shl (1 : Int32) (irm r2 (12 : Int32)))) (fun v3 => bnd (f_X10_takenBy (-1 : Int32) s1) (fun r5 s4 => if (v3 &&& r5) = 0 then ckb (inb (2 : Int32) 408) (if (10 : Int32) ≤ (rd (s4 1) (2 : Int32)) then bnd (f_X10_goes s4) (fun _ s8 => some (a1, s8)) else bnd (f_X10_draw s4) (fun r11 s10 => lt ((irm r11 (7 : Int32))) (fun v12 => bnd (f_X10_draw s10) (fun r14 s13 => bnd (f_X10_comes ((10 : Int32) * v12) v3 (irm r14 (6 : Int32)) s13) (fun r16 s15 => bnd (f_X10_goes s15) (fun _ s17 => some (a1, s17))))))) else bnd (f_X10_goes s4) (fun _ s6 => some (a1, s6)))))
def f_X10_drawn  (σ : Sg) : Option (Int32 × Sg) :=
  ckb (inb (2 : Int32) 408) (if (rd (σ 1) (2 : Int32)) ≤ 0 then f_X10_drawn_38 (0 : Int32) σ else bnd (f_X10_draw σ) (fun r20 s19 => ckb (inb (2 : Int32) 408) (ckb (nz (rd (s19 1) (2 : Int32))) (lt ((irm r20 (rd (s19 1) (2 : Int32)))) (fun v22 => bnd (f_X10_mayGo v22 s19) (fun r24 s23 => if r24 = 0 then f_X10_drawn_38 (0 : Int32) s23 else bnd (f_X10_isWiped v22 s23) (fun _ s25 => f_X10_drawn_38 (1 : Int32) s25)))))))
def f_X10_feed_40_b  (rec40 : Int64 → Int32 → Int32 → Sg → Option (Int32 × Sg)) (a1 : Int64) (a3 : Int32) (a4 : Int32) (σ : Sg) : Option (Int32 × Sg) :=
  if a3 ≤ a4 then ckb (inb (5 : Int32) 408) (some ((rd (σ 1) (5 : Int32)), σ)) else ckb (inb (5 : Int32) 408) (ckb (inb ((82 : Int32) + (rd (σ 1) (5 : Int32))) 408) (lt (up σ 1 ((82 : Int32) + (rd (σ 1) (5 : Int32))).toNatClampNeg (((lsr a1 ((8 : Int32) * a4)) &&& (255 : Int64)).toInt32)) (fun s1 => ckb (inb (5 : Int32) 408) (ckb (inb (5 : Int32) 408) (lt (up s1 1 (5 : Int32).toNatClampNeg ((rd (s1 1) (5 : Int32)) + (1 : Int32))) (fun s2 => lt (a4 + (1 : Int32)) (fun v3 => rec40 a1 a3 v3 s2)))))))
def f_X10_feed_40  : Nat → Int64 → Int32 → Int32 → Sg → Option (Int32 × Sg)
  | 0 => fun _ _ _ _ => none
  | n + 1 => f_X10_feed_40_b   (f_X10_feed_40   n)
def f_X10_feed (a1 : Int64) (a3 : Int32) (σ : Sg) : Option (Int32 × Sg) :=
  bnd (f_X10_in a3 (1 : Int32) (8 : Int32) σ) (fun r5 s4 => if r5 = 0 then bnd (f_X10_error (-1000000001 : Int32) s4) (fun r9 s8 => some (r9, s8)) else ckb (inb (5 : Int32) 408) (if ((rd (s4 1) (5 : Int32)) + a3) ≤ (60 : Int32) then f_X10_feed_40 fuN a1 a3 (0 : Int32) s4 else bnd (f_X10_error (-1000000004 : Int32) s4) (fun r7 s6 => some (r7, s6))))
def f_X10_isSo_11_b  (rec11 : Int32 → Int32 → Int32 → Int32 → Sg → Option (Int32 × Sg)) (a1 : Int32) (a2 : Int32) (a3 : Int32) (a4 : Int32) (σ : Sg) : Option (Int32 × Sg) :=
  ckb (inb a1 4) (if (rd (σ 6) a1) ≤ a4 then ckb (isb a3) (some (a3, σ)) else if a3 = 0 then ckb (isb a3) (some (a3, σ)) else ckb (inb (((24 : Int32) * a1) + a4) 96) (if (rd (σ 7) (((24 : Int32) * a1) + a4)) = ((shr a2 a4) &&& (1 : Int32)) then lt (a4 + (1 : Int32)) (fun v4 => rec11 a1 a2 (1 : Int32) v4 σ) else lt (a4 + (1 : Int32)) (fun v3 => rec11 a1 a2 (0 : Int32) v3 σ)))
def f_X10_isSo_11  : Nat → Int32 → Int32 → Int32 → Int32 → Sg → Option (Int32 × Sg)
  | 0 => fun _ _ _ _ _ => none
  | n + 1 => f_X10_isSo_11_b   (f_X10_isSo_11   n)
def f_X10_isSo (a1 : Int32) (σ : Sg) : Option (Int32 × Sg) :=
  bnd (f_X10_takenBy (-1 : Int32) σ) (fun r6 s5 => f_X10_isSo_11 fuN a1 r6 (1 : Int32) (0 : Int32) s5)
def f_X10_fits_64  (a3 : Int32) (σ : Sg) : Option (Int32 × Sg) :=
  bnd (f_X10_putsBack σ) (fun _ s1 => if a3 ≤ (90 : Int32) then some (a3, s1) else bnd (f_X10_error (-1000000002 : Int32) s1) (fun r4 s3 => some (r4, s3)))
def f_X10_fits_40_b  (rec40 : Int32 → Int32 → Sg → Option (Int32 × Sg)) (a1 : Int32) (a3 : Int32) (σ : Sg) : Option (Int32 × Sg) :=
  if (90 : Int32) < a3 then f_X10_fits_64 a3 σ else bnd (f_X10_isSo a1 σ) (fun r6 s5 => if r6 = 0 then bnd (f_X10_clearsDay s5) (fun _ s7 => lt (a3 + (1 : Int32)) (fun v9 => rec40 a1 v9 s7)) else f_X10_fits_64 a3 s5)
def f_X10_fits_40  : Nat → Int32 → Int32 → Sg → Option (Int32 × Sg)
  | 0 => fun _ _ _ => none
  | n + 1 => f_X10_fits_40_b   (f_X10_fits_40   n)
def f_X10_fits (a1 : Int32) (σ : Sg) : Option (Int32 × Sg) :=
  bnd (f_X10_notThere a1 σ) (fun r11 s10 => if r11 = 0 then ckb (inb a1 4) (if (rd (s10 6) a1) ≤ (12 : Int32) then bnd (f_X10_thinks s10) (fun _ s12 => f_X10_fits_40 fuN a1 (0 : Int32) s12) else bnd (f_X10_error (-1000000002 : Int32) s10) (fun r15 s14 => some (r15, s14))) else bnd (f_X10_error r11 s10) (fun r17 s16 => some (r17, s16)))
def f_X10_runOf_36 (rec11 : Int32 → Int32 → Int32 → Int32 → Int32 → Int32 → Sg → Option (Int32 × Sg)) (a1 : Int32) (a2 : Int32) (a3 : Int32) (a4 : Int32) (a6 : Int32) (t0 : Int32) (σ : Sg) : Option (Int32 × Sg) :=
  if t0 ≤ a3 then if t0 ≤ a3 then lt (a6 + (1 : Int32)) (fun v1 => rec11 a1 a2 a3 a4 t0 v1 σ) else lt (a6 + (1 : Int32)) (fun v2 => rec11 a1 a2 t0 a4 t0 v2 σ) else lt (((a6 + (1 : Int32)) - t0)) (fun v3 => if t0 ≤ a3 then lt (a6 + (1 : Int32)) (fun v4 => rec11 a1 a2 a3 v3 t0 v4 σ) else lt (a6 + (1 : Int32)) (fun v5 => rec11 a1 a2 t0 v3 t0 v5 σ))
def f_X10_runOf_11_b  (rec11 : Int32 → Int32 → Int32 → Int32 → Int32 → Int32 → Sg → Option (Int32 × Sg)) (a1 : Int32) (a2 : Int32) (a3 : Int32) (a4 : Int32) (a5 : Int32) (a6 : Int32) (σ : Sg) : Option (Int32 × Sg) :=
  if (12 : Int32) ≤ a6 then if a2 = (2 : Int32) then some (a3, σ) else some (a4, σ) else if ((shr a1 a6) &&& (1 : Int32)) = (1 : Int32) then f_X10_runOf_36 rec11 a1 a2 a3 a4 a6 (0 : Int32) σ else f_X10_runOf_36 rec11 a1 a2 a3 a4 a6 (a5 + (1 : Int32)) σ
def f_X10_runOf_11  : Nat → Int32 → Int32 → Int32 → Int32 → Int32 → Int32 → Sg → Option (Int32 × Sg)
  | 0 => fun _ _ _ _ _ _ _ => none
  | n + 1 => f_X10_runOf_11_b   (f_X10_runOf_11   n)
def f_X10_runOf (a1 : Int32) (a2 : Int32) (σ : Sg) : Option (Int32 × Sg) :=
  f_X10_runOf_11 fuN a1 a2 (0 : Int32) (-1 : Int32) (0 : Int32) (0 : Int32) σ
def f_X10_free (a1 : Int32) (σ : Sg) : Option (Int32 × Sg) :=
  bnd (f_X10_in a1 (0 : Int32) (3 : Int32) σ) (fun r2 s1 => if r2 = 0 then bnd (f_X10_error (-1000000001 : Int32) s1) (fun r12 s11 => some (r12, s11)) else bnd (f_X10_takenBy (-1 : Int32) s1) (fun r4 s3 => if (2 : Int32) ≤ a1 then bnd (f_X10_runOf r4 a1 s3) (fun r6 s5 => if 0 ≤ r6 then some (r6, s5) else bnd (f_X10_error (-1000000002 : Int32) s5) (fun r8 s7 => some (r8, s7))) else if a1 = 0 then some (r4, s3) else bnd (f_X10_bits r4 s3) (fun r10 s9 => some (((12 : Int32) - r10), s9))))
def f_X10_image  (σ : Sg) : Option (Int32 × Sg) :=
  bnd (f_X10_copyAll 1 2 σ) (fun _ s1 => lt (up s1 0 3 ((s1 0 3) + (1 : Int32))) (fun s3 => some ((s3 0 3), s3)))
def f_X10_judge_18_b  (rec18 : Int32 → Int32 → Sg → Option (Int32 × Sg)) (a1 : Int32) (a3 : Int32) (σ : Sg) : Option (Int32 × Sg) :=
  ckb (inb a1 4) (if (rd (σ 6) a1) ≤ a3 then some (a3, σ) else ckb (inb (2 : Int32) 408) (if (rd (σ 1) (2 : Int32)) ≤ a3 then some (a3, σ) else ckb (inb (((24 : Int32) * a1) + a3) 96) (bnd (f_X10_backOf a3 σ) (fun r2 s1 => if (rd (σ 7) (((24 : Int32) * a1) + a3)) = r2 then lt (a3 + (1 : Int32)) (fun v3 => rec18 a1 v3 s1) else some (a3, s1)))))
def f_X10_judge_18  : Nat → Int32 → Int32 → Sg → Option (Int32 × Sg)
  | 0 => fun _ _ _ => none
  | n + 1 => f_X10_judge_18_b   (f_X10_judge_18   n)
def f_X10_judge (a1 : Int32) (σ : Sg) : Option (Int32 × Sg) :=
  bnd (f_X10_notThere a1 σ) (fun r5 s4 => if r5 = 0 then f_X10_judge_18 fuN a1 (0 : Int32) s4 else bnd (f_X10_error r5 s4) (fun r7 s6 => some (r7, s6)))
def f_X10_law (a1 : Int32) (a2 : Int32) (a3 : Int32) (a4 : Int32) (σ : Sg) : Option (Int32 × Sg) :=
  bnd (f_X10_in a1 (0 : Int32) (1 : Int32) σ) (fun r2 s1 => if r2 = 0 then bnd (f_X10_error (-1000000001 : Int32) s1) (fun r4 s3 => some (r4, s3)) else bnd (f_X10_gives a1 a2 a3 a4 s1) (fun r6 s5 => some (r6, s5)))
def f_X10_lineIs (a1 : Int32) (a2 : Int32) (σ : Sg) : Option (Int32 × Sg) :=
  bnd (f_X10_isLine a1 σ) (fun r2 s1 => if r2 = 0 then bnd (f_X10_error (-1000000001 : Int32) s1) (fun r4 s3 => some (r4, s3)) else bnd (f_X10_in a2 (0 : Int32) (9 : Int32) s1) (fun r6 s5 => if r6 = 0 then bnd (f_X10_error (-1000000001 : Int32) s5) (fun r16 s15 => some (r16, s15)) else if (7 : Int32) ≤ a2 then if a2 = (7 : Int32) then bnd (f_X10_mayGo a1 s5) (fun r12 s11 => if r12 = 0 then some ((0 : Int32), s11) else some ((1 : Int32), s11)) else if a2 = (8 : Int32) then bnd (f_X10_backOf a1 s5) (fun r10 s9 => some (r10, s9)) else bnd (f_X10_lossOf a1 s5) (fun r8 s7 => some (r8, s7)) else bnd (f_X10_it a1 a2 s5) (fun r14 s13 => some (r14, s13))))
def f_X10_linesOn_4_b  (rec4 : Int32 → Int32 → Int32 → Sg → Option (Int32 × Sg)) (a1 : Int32) (a2 : Int32) (a3 : Int32) (σ : Sg) : Option (Int32 × Sg) :=
  ckb (inb (2 : Int32) 408) (if (rd (σ 1) (2 : Int32)) ≤ a3 then some (a2, σ) else bnd (f_X10_it a3 (6 : Int32) σ) (fun r2 s1 => if r2 = 0 then bnd (f_X10_it a3 (2 : Int32) s1) (fun r6 s5 => if (r6 &&& a1) = 0 then lt ((a2 ||| (0 : Int32))) (fun v7 => lt (a3 + (1 : Int32)) (fun v8 => rec4 a1 v7 v8 s5)) else lt ((a2 ||| (shl (1 : Int32) a3))) (fun v9 => lt (a3 + (1 : Int32)) (fun v10 => rec4 a1 v9 v10 s5))) else lt ((a2 ||| (0 : Int32))) (fun v3 => lt (a3 + (1 : Int32)) (fun v4 => rec4 a1 v3 v4 s1))))
def f_X10_linesOn_4  : Nat → Int32 → Int32 → Int32 → Sg → Option (Int32 × Sg)
  | 0 => fun _ _ _ _ => none
  | n + 1 => f_X10_linesOn_4_b   (f_X10_linesOn_4   n)
def f_X10_linesOn (a1 : Int32) (σ : Sg) : Option (Int32 × Sg) :=
  f_X10_linesOn_4 fuN a1 (0 : Int32) (0 : Int32) σ
def f_X10_loose_42_b  (rec42 : Int32 → Int32 → Int32 → Sg → Option (Int32 × Sg)) (a1 : Int32) (a2 : Int32) (a3 : Int32) (σ : Sg) : Option (Int32 × Sg) :=
  if a1 ≤ a3 then some (a2, σ) else bnd (f_X10_drawn σ) (fun r2 s1 => lt ((a2 + r2)) (fun v3 => lt (a3 + (1 : Int32)) (fun v4 => rec42 a1 v3 v4 s1)))
def f_X10_loose_42  : Nat → Int32 → Int32 → Int32 → Sg → Option (Int32 × Sg)
  | 0 => fun _ _ _ _ => none
  | n + 1 => f_X10_loose_42_b   (f_X10_loose_42   n)
def f_X10_loose (a1 : Int32) (σ : Sg) : Option (Int32 × Sg) :=
  bnd (f_X10_in a1 (1 : Int32) (30 : Int32) σ) (fun r6 s5 => if r6 = 0 then bnd (f_X10_error (-1000000001 : Int32) s5) (fun r10 s9 => some (r10, s9)) else ckb (inb (0 : Int32) 408) (if ((rd (s5 1) (0 : Int32)) + a1) ≤ (9999 : Int32) then f_X10_loose_42 fuN a1 (0 : Int32) (0 : Int32) s5 else bnd (f_X10_error (-1000000003 : Int32) s5) (fun r8 s7 => some (r8, s7))))
def f_X10_lossOn_11_b  (rec11 : Int32 → Int32 → Int32 → Sg → Option (Int32 × Sg)) (a2 : Int32) (a3 : Int32) (a4 : Int32) (σ : Sg) : Option (Int32 × Sg) :=
  ckb (inb (2 : Int32) 408) (if (rd (σ 1) (2 : Int32)) ≤ a4 then some (a3, σ) else if ((shr a2 a4) &&& (1 : Int32)) = (1 : Int32) then bnd (f_X10_mayGo a4 σ) (fun r3 s2 => if r3 = 0 then some ((-1 : Int32), s2) else bnd (f_X10_lossOf a4 s2) (fun r5 s4 => lt ((a3 + r5)) (fun v6 => lt (a4 + (1 : Int32)) (fun v7 => rec11 a2 v6 v7 s4)))) else lt (a4 + (1 : Int32)) (fun v1 => rec11 a2 a3 v1 σ))
def f_X10_lossOn_11  : Nat → Int32 → Int32 → Int32 → Sg → Option (Int32 × Sg)
  | 0 => fun _ _ _ _ => none
  | n + 1 => f_X10_lossOn_11_b   (f_X10_lossOn_11   n)
def f_X10_lossOn (a1 : Int32) (σ : Sg) : Option (Int32 × Sg) :=
  bnd (f_X10_linesOn a1 σ) (fun r9 s8 => f_X10_lossOn_11 fuN r9 (0 : Int32) (0 : Int32) s8)
def f_X10_notMoved (a1 : Int32) (a2 : Int32) (a3 : Int32) (a4 : Int32) (a5 : Int32) (σ : Sg) : Option (Int32 × Sg) :=
  bnd (f_X10_isSheet a1 σ) (fun r2 s1 => if r2 = 0 then some ((-1000000001 : Int32), s1) else bnd (f_X10_isSheet a3 s1) (fun r4 s3 => if r4 = 0 then some ((-1000000001 : Int32), s3) else ckb (inb a1 4) (if (rd (s3 5) a1) = 0 then some ((-1000000002 : Int32), s3) else ckb (inb a3 4) (if (rd (s3 5) a3) = 0 then some ((-1000000002 : Int32), s3) else ckb (inb a1 4) (ckb (inb a3 4) (if (rd (s3 5) a1) = (rd (s3 5) a3) then if a5 < 0 then if (0 : Int32) = 0 then some ((-1000000001 : Int32), s3) else some ((0 : Int32), s3) else if a2 < 0 then if (0 : Int32) = 0 then some ((-1000000001 : Int32), s3) else some ((0 : Int32), s3) else if a4 < 0 then if (0 : Int32) = 0 then some ((-1000000001 : Int32), s3) else some ((0 : Int32), s3) else ckb (inb a1 4) (if ((rd (s3 6) a1) - a2) < a5 then if (0 : Int32) = 0 then some ((-1000000001 : Int32), s3) else some ((0 : Int32), s3) else ckb (inb a3 4) (if ((rd (s3 6) a3) - a4) < a5 then if (0 : Int32) = 0 then some ((-1000000001 : Int32), s3) else some ((0 : Int32), s3) else if (1 : Int32) = 0 then some ((-1000000001 : Int32), s3) else some ((0 : Int32), s3))) else some ((-1000000005 : Int32), s3)))))))
def f_X10_move_53 (rec28 : Int32 → Int32 → Int32 → Int32 → Int32 → Int32 → Sg → Option (Int32 × Sg)) (a1 : Int32) (a2 : Int32) (a3 : Int32) (a4 : Int32) (a5 : Int32) (a7 : Int32) (t0 : Int32) (σ : Sg) : Option (Int32 × Sg) :=
  ckb (inb ((((24 : Int32) * a1) + a2) + t0) 96) (ckb (inb ((((24 : Int32) * a3) + a4) + t0) 96) (lt (up σ 7 ((((24 : Int32) * a3) + a4) + t0).toNatClampNeg (rd (σ 7) ((((24 : Int32) * a1) + a2) + t0))) (fun s1 => lt (a7 + (1 : Int32)) (fun v2 => rec28 a1 a2 a3 a4 a5 v2 s1))))
def f_X10_move_28_b  (rec28 : Int32 → Int32 → Int32 → Int32 → Int32 → Int32 → Sg → Option (Int32 × Sg)) (a1 : Int32) (a2 : Int32) (a3 : Int32) (a4 : Int32) (a5 : Int32) (a7 : Int32) (σ : Sg) : Option (Int32 × Sg) :=
  if a5 ≤ a7 then some (a5, σ) else if a4 ≤ a2 then f_X10_move_53 rec28 a1 a2 a3 a4 a5 a7 a7 σ else f_X10_move_53 rec28 a1 a2 a3 a4 a5 a7 ((a5 - (1 : Int32)) - a7) σ
def f_X10_move_28  : Nat → Int32 → Int32 → Int32 → Int32 → Int32 → Int32 → Sg → Option (Int32 × Sg)
  | 0 => fun _ _ _ _ _ _ _ => none
  | n + 1 => f_X10_move_28_b   (f_X10_move_28   n)
def f_X10_move (a1 : Int32) (a2 : Int32) (a3 : Int32) (a4 : Int32) (a5 : Int32) (σ : Sg) : Option (Int32 × Sg) :=
  bnd (f_X10_notMoved a1 a2 a3 a4 a5 σ) (fun r4 s3 => if r4 = 0 then f_X10_move_28 fuN a1 a2 a3 a4 a5 (0 : Int32) s3 else bnd (f_X10_error r4 s3) (fun r6 s5 => some (r6, s5)))
def f_X10_odds_106_b  (rec106 : Int32 → Int64 → Int64 → Int64 → Int64 → Sg → Option (Int64 × Sg)) (a2 : Int32) (a3 : Int64) (a5 : Int64) (a7 : Int64) (a9 : Int64) (σ : Sg) : Option (Int64 × Sg) :=
  if (lg_cmp a7 (0 : Int64)) = 0 then if a2 = 0 then ckb (nzl a9) (some ((a3 / a9), σ)) else ckb (nzl a9) (some ((a5 / a9), σ)) else ckb (nzl a7) (lt ((lrm a9 a7)) (fun v4 => rec106 a2 a3 a5 v4 a7 σ))
def f_X10_odds_106  : Nat → Int32 → Int64 → Int64 → Int64 → Int64 → Sg → Option (Int64 × Sg)
  | 0 => fun _ _ _ _ _ _ => none
  | n + 1 => f_X10_odds_106_b   (f_X10_odds_106   n)
def f_X10_odds_51_b  (rec51 : Int32 → Int32 → Int64 → Int64 → Int32 → Sg → Option (Int64 × Sg)) (a1 : Int32) (a2 : Int32) (a3 : Int64) (a5 : Int64) (a7 : Int32) (σ : Sg) : Option (Int64 × Sg) :=
  ckb (inb (2 : Int32) 408) (if (rd (σ 1) (2 : Int32)) ≤ a7 then f_X10_odds_106 fuN a2 a3 a5 a3 a5 σ else if ((shr a1 a7) &&& (1 : Int32)) = (1 : Int32) then bnd (f_X10_backOf a7 σ) (fun r7 s6 => lt ((a3 * (((100 : Int32) - r7).toInt64))) (fun v8 => lt ((a5 * (100 : Int64))) (fun v9 => lt (a7 + (1 : Int32)) (fun v10 => rec51 a1 a2 v8 v9 v10 s6)))) else lt (a7 + (1 : Int32)) (fun v5 => rec51 a1 a2 a3 a5 v5 σ))
def f_X10_odds_51  : Nat → Int32 → Int32 → Int64 → Int64 → Int32 → Sg → Option (Int64 × Sg)
  | 0 => fun _ _ _ _ _ _ => none
  | n + 1 => f_X10_odds_51_b   (f_X10_odds_51   n)
def f_X10_odds (a1 : Int32) (a2 : Int32) (σ : Sg) : Option (Int64 × Sg) :=
  ckb (inb (2 : Int32) 408) (bnd (f_X10_in a1 (0 : Int32) ((shl (1 : Int32) (rd (σ 1) (2 : Int32))) - (1 : Int32)) σ) (fun r12 s11 => if r12 = 0 then bnd (f_X10_error (-1000000001 : Int32) s11) (fun r14 s13 => some (r14.toInt64, s13)) else bnd (f_X10_bits a1 s11) (fun r16 s15 => if (4 : Int32) < r16 then bnd (f_X10_error (-1000000001 : Int32) s15) (fun r18 s17 => some (r18.toInt64, s17)) else bnd (f_X10_in a2 (0 : Int32) (1 : Int32) s15) (fun r20 s19 => if r20 = 0 then bnd (f_X10_error (-1000000001 : Int32) s19) (fun r22 s21 => some (r22.toInt64, s21)) else f_X10_odds_51 fuN a1 a2 (1 : Int64) (1 : Int64) (0 : Int32) s19))))
def f_X10_of (a1 : Int32) (σ : Sg) : Option (Int32 × Sg) :=
  bnd (f_X10_in a1 (0 : Int32) (5 : Int32) σ) (fun r2 s1 => if r2 = 0 then bnd (f_X10_error (-1000000001 : Int32) s1) (fun r4 s3 => some (r4, s3)) else bnd (f_X10_takenBy a1 s1) (fun r6 s5 => bnd (f_X10_bits r6 s5) (fun r8 s7 => some (r8, s7))))
def f_X10_partsFrom_37_b (g_X10_partsFrom : Int32 → Int32 → Sg → Option (Int32 × Sg))  (rec37 : Int32 → Int32 → Int32 → Int32 → Int32 → Sg → Option (Int32 × Sg)) (a1 : Int32) (a2 : Int32) (a3 : Int32) (a4 : Int32) (a5 : Int32) (σ : Sg) : Option (Int32 × Sg) :=
  if (12 : Int32) ≤ a5 then some (a4, σ) else ckb (inb a5 12) (if (rd (σ 12) a5) < a3 then lt (a5 + (1 : Int32)) (fun v1 => rec37 a1 a2 a3 a4 v1 σ) else ckb (inb a5 12) (ckb (inb a5 12) (lt (up σ 12 a5.toNatClampNeg ((rd (σ 12) a5) - a3)) (fun s2 => bnd (g_X10_partsFrom a1 (a2 + (1 : Int32)) s2) (fun r4 s3 => lt (((1 : Int32) + r4)) (fun v5 => ckb (inb a5 12) (ckb (inb a5 12) (lt (up s3 12 a5.toNatClampNeg ((rd (s3 12) a5) + a3)) (fun s6 => if v5 ≤ a4 then lt (a5 + (1 : Int32)) (fun v7 => rec37 a1 a2 a3 a4 v7 s6) else lt (a5 + (1 : Int32)) (fun v8 => rec37 a1 a2 a3 v5 v8 s6))))))))))
def f_X10_partsFrom_37 (g_X10_partsFrom : Int32 → Int32 → Sg → Option (Int32 × Sg))  : Nat → Int32 → Int32 → Int32 → Int32 → Int32 → Sg → Option (Int32 × Sg)
  | 0 => fun _ _ _ _ _ _ => none
  | n + 1 => f_X10_partsFrom_37_b g_X10_partsFrom  (f_X10_partsFrom_37 g_X10_partsFrom  n)
def f_X10_partsFrom_e (g_X10_partsFrom : Int32 → Int32 → Sg → Option (Int32 × Sg)) (a1 : Int32) (a2 : Int32) (σ : Sg) : Option (Int32 × Sg) :=
  ckb (inb a1 4) (if a2 = (rd (σ 6) a1) then some ((0 : Int32), σ) else ckb (inb (((24 : Int32) * a1) + a2) 96) (lt ((rd (σ 7) (((24 : Int32) * a1) + a2))) (fun v9 => bnd (g_X10_partsFrom a1 (a2 + (1 : Int32)) σ) (fun r11 s10 => f_X10_partsFrom_37 g_X10_partsFrom fuN a1 a2 v9 r11 (0 : Int32) s10))))
def G_X10_partsFrom : Nat → (Int32 → Int32 → Sg → Option (Int32 × Sg))
  | 0 => (fun _ _ _ => none)
  | d + 1 => (f_X10_partsFrom_e (G_X10_partsFrom d))
def f_X10_partsFrom : Int32 → Int32 → Sg → Option (Int32 × Sg) := (G_X10_partsFrom 64)
def f_X10_parts_143 (rec91 : Int32 → Int32 → Int32 → Int32 → Sg → Option (Int32 × Sg)) (a1 : Int32) (a3 : Int32) (a5 : Int32) (a6 : Int32) (t0 : Int32) (σ : Sg) : Option (Int32 × Sg) :=
  if a6 = 0 then lt (a5 + (1 : Int32)) (fun v1 => rec91 a1 a3 t0 v1 σ) else ckb (inb t0 12) (ckb (inb t0 12) (lt (up σ 12 t0.toNatClampNeg ((rd (σ 12) t0) + (1 : Int32))) (fun s2 => lt (a5 + (1 : Int32)) (fun v3 => rec91 a1 a3 t0 v3 s2))))
def f_X10_parts_91_b  (rec91 : Int32 → Int32 → Int32 → Int32 → Sg → Option (Int32 × Sg)) (a1 : Int32) (a3 : Int32) (a4 : Int32) (a5 : Int32) (σ : Sg) : Option (Int32 × Sg) :=
  if (12 : Int32) ≤ a5 then bnd (f_X10_partsFrom a1 (0 : Int32) σ) (fun r5 s4 => some (r5, s4)) else ckb (inb a5 12) (lt (up σ 12 a5.toNatClampNeg (0 : Int32)) (fun s6 => if ((shr a3 a5) &&& (1 : Int32)) = 0 then if (1 : Int32) = 0 then f_X10_parts_143 rec91 a1 a3 a5 (1 : Int32) (-1 : Int32) s6 else if 0 ≤ a4 then f_X10_parts_143 rec91 a1 a3 a5 (1 : Int32) a4 s6 else f_X10_parts_143 rec91 a1 a3 a5 (1 : Int32) a5 s6 else if (0 : Int32) = 0 then f_X10_parts_143 rec91 a1 a3 a5 (0 : Int32) (-1 : Int32) s6 else if 0 ≤ a4 then f_X10_parts_143 rec91 a1 a3 a5 (0 : Int32) a4 s6 else f_X10_parts_143 rec91 a1 a3 a5 (0 : Int32) a5 s6))
def f_X10_parts_91  : Nat → Int32 → Int32 → Int32 → Int32 → Sg → Option (Int32 × Sg)
  | 0 => fun _ _ _ _ _ => none
  | n + 1 => f_X10_parts_91_b   (f_X10_parts_91   n)
def f_X10_parts_36_b  (rec36 : Int32 → Int32 → Sg → Option (Int32 × Sg)) (a1 : Int32) (a3 : Int32) (σ : Sg) : Option (Int32 × Sg) :=
  ckb (inb a1 4) (if (rd (σ 6) a1) ≤ a3 then bnd (f_X10_takenBy (-1 : Int32) σ) (fun r8 s7 => f_X10_parts_91 fuN a1 r8 (-1 : Int32) (0 : Int32) s7) else ckb (inb (((24 : Int32) * a1) + a3) 96) (bnd (f_X10_in (rd (σ 7) (((24 : Int32) * a1) + a3)) (1 : Int32) (12 : Int32) σ) (fun r10 s9 => if r10 = 0 then bnd (f_X10_error (-1000000003 : Int32) s9) (fun r13 s12 => some (r13, s12)) else lt (a3 + (1 : Int32)) (fun v11 => rec36 a1 v11 s9))))
def f_X10_parts_36  : Nat → Int32 → Int32 → Sg → Option (Int32 × Sg)
  | 0 => fun _ _ _ => none
  | n + 1 => f_X10_parts_36_b   (f_X10_parts_36   n)
def f_X10_parts (a1 : Int32) (σ : Sg) : Option (Int32 × Sg) :=
  bnd (f_X10_notThere a1 σ) (fun r15 s14 => if r15 = 0 then ckb (inb a1 4) (if (rd (s14 6) a1) ≤ (6 : Int32) then f_X10_parts_36 fuN a1 (0 : Int32) s14 else bnd (f_X10_error (-1000000002 : Int32) s14) (fun r17 s16 => some (r17, s16))) else bnd (f_X10_error r15 s14) (fun r19 s18 => some (r19, s18)))
def f_X10_plainParts (a1 : Int32) (a2 : Int32) (σ : Sg) : Option (Int32 × Sg) :=
  bnd (f_X10_begins (13 : Int32) σ) (fun _ s1 => bnd (f_X10_it a1 (1 : Int32) s1) (fun r4 s3 => lt ((r4 - a1)) (fun v5 => if v5 = 0 then lt (up s3 0 20 (1 : Int32)) (fun s8 => if (s8 0 20) = 0 then ckb (nz v5) (some ((a2 / v5), s8)) else some ((0 : Int32), s8)) else lt (up s3 0 20 (0 : Int32)) (fun s6 => if (s6 0 20) = 0 then ckb (nz v5) (some ((a2 / v5), s6)) else some ((0 : Int32), s6)))))
def f_X10_smears (a1 : Int32) (a2 : Int32) (σ : Sg) : Option (Int32 × Sg) :=
  bnd (f_X10_it a1 (0 : Int32) σ) (fun r2 s1 => if r2 = (2 : Int32) then bnd (f_X10_arrowSmears a1 a2 s1) (fun r5 s4 => some (r5, s4)) else if r2 = (3 : Int32) then bnd (f_X10_plainSmears a1 a2 s1) (fun r8 s7 => some (r8, s7)) else if r2 = (4 : Int32) then bnd (f_X10_plainSmears a1 a2 s1) (fun r11 s10 => some (r11, s10)) else if r2 = (5 : Int32) then bnd (f_X10_begins (60 : Int32) s1) (fun _ s13 => bnd (f_X10_arrowSmears a1 (a2 + (1 : Int32)) s13) (fun r16 s15 => some (r16, s15))) else if r2 = (6 : Int32) then bnd (f_X10_begins (71 : Int32) s1) (fun _ s18 => bnd (f_X10_plainSmears a1 a2 s18) (fun r21 s20 => bnd (f_X10_it a1 (1 : Int32) s20) (fun r23 s22 => some ((r21 + r23), s22)))) else bnd (f_X10_plainSmears a1 a2 s1) (fun r25 s24 => some (r25, s24)))
def f_X10_partsBy_20  (a1 : Int32) (a2 : Int32) (σ : Sg) : Option (Int32 × Sg) :=
  bnd (f_X10_begins (21 : Int32) σ) (fun _ s1 => bnd (f_X10_plainParts a1 a2 s1) (fun r4 s3 => if (s3 0 20) = 0 then bnd (f_X10_smears a1 (1 : Int32) s3) (fun r6 s5 => some ((r4 + r6), s5)) else some ((0 : Int32), s3)))
def f_X10_partsBy (a1 : Int32) (a2 : Int32) (σ : Sg) : Option (Int32 × Sg) :=
  bnd (f_X10_it a1 (0 : Int32) σ) (fun r8 s7 => if r8 = (1 : Int32) then f_X10_partsBy_20 a1 a2 s7 else bnd (f_X10_it a1 (0 : Int32) s7) (fun r10 s9 => if r10 = (4 : Int32) then f_X10_partsBy_20 a1 a2 s9 else bnd (f_X10_plainParts a1 a2 s9) (fun r12 s11 => some (r12, s11))))
def f_X10_pen (a1 : Int32) (a2 : Int32) (σ : Sg) : Option (Int32 × Sg) :=
  bnd (f_X10_in a1 (0 : Int32) (4 : Int32) σ) (fun r2 s1 => if r2 = 0 then bnd (f_X10_error (-1000000001 : Int32) s1) (fun r4 s3 => some (r4, s3)) else bnd (f_X10_in a2 (0 : Int32) (99 : Int32) s1) (fun r6 s5 => if r6 = 0 then bnd (f_X10_error (-1000000001 : Int32) s5) (fun r8 s7 => some (r8, s7)) else bnd (f_X10_becomes ((7 : Int32) + a1) a2 s5) (fun r10 s9 => some (r10, s9))))
def f_X10_photo (a1 : Int32) (a2 : Int32) (σ : Sg) : Option (Int32 × Sg) :=
  bnd (f_X10_isLine a1 σ) (fun r2 s1 => if r2 = 0 then bnd (f_X10_error (-1000000001 : Int32) s1) (fun r4 s3 => some (r4, s3)) else bnd (f_X10_in a2 (0 : Int32) (1 : Int32) s1) (fun r6 s5 => if r6 = 0 then bnd (f_X10_error (-1000000001 : Int32) s5) (fun r8 s7 => some (r8, s7)) else bnd (f_X10_becomes (((12 : Int32) + ((7 : Int32) * a1)) + (5 : Int32)) a2 s5) (fun r10 s9 => some (r10, s9))))
def f_X10_plainStays (a1 : Int32) (a2 : Int32) (σ : Sg) : Option (Int32 × Sg) :=
  bnd (f_X10_begins (12 : Int32) σ) (fun _ s1 => bnd (f_X10_smears a1 a2 s1) (fun r4 s3 => bnd (f_X10_it a1 (1 : Int32) s3) (fun r6 s5 => some ((r4 - r6), s5))))
def f_X10_put_35  (a1 : Int32) (a2 : Int32) (a3 : Int32) (t0 : Int32) (σ : Sg) : Option (Int32 × Sg) :=
  if t0 = 0 then ckb (inb a1 4) (if (rd (σ 5) a1) = (8 : Int32) then ckb (inb (((24 : Int32) * a1) + a2) 96) (lt (up σ 7 (((24 : Int32) * a1) + a2).toNatClampNeg a3.toInt8.toInt32) (fun s3 => some ((1 : Int32), s3))) else ckb (inb a1 4) (if (rd (σ 5) a1) = (16 : Int32) then ckb (inb (((24 : Int32) * a1) + a2) 96) (lt (up σ 7 (((24 : Int32) * a1) + a2).toNatClampNeg a3.toInt16.toInt32) (fun s2 => some ((1 : Int32), s2))) else ckb (inb (((24 : Int32) * a1) + a2) 96) (lt (up σ 7 (((24 : Int32) * a1) + a2).toNatClampNeg a3) (fun s1 => some ((1 : Int32), s1))))) else bnd (f_X10_error t0 σ) (fun r5 s4 => some (r5, s4))
def f_X10_put (a1 : Int32) (a2 : Int32) (a3 : Int32) (σ : Sg) : Option (Int32 × Sg) :=
  bnd (f_X10_notThere a1 σ) (fun r7 s6 => if r7 = 0 then ckb (inb a1 4) (bnd (f_X10_in a2 (0 : Int32) ((rd (s6 6) a1) - (1 : Int32)) s6) (fun r9 s8 => if r9 = 0 then f_X10_put_35 a1 a2 a3 (-1000000001 : Int32) s8 else f_X10_put_35 a1 a2 a3 r7 s8)) else f_X10_put_35 a1 a2 a3 r7 s6)
def f_X10_restore  (σ : Sg) : Option (Int32 × Sg) :=
  if (σ 0 3) = 0 then bnd (f_X10_error (-1000000002 : Int32) σ) (fun r4 s3 => some (r4, s3)) else bnd (f_X10_copyAll 2 1 σ) (fun _ s1 => ckb (inb (0 : Int32) 408) (some ((rd (s1 1) (0 : Int32)), s1)))
def f_X10_window (a0 : Int32) (a1 : Int32) (σ : Sg) : Option (Int32 × Sg) :=
  some ((shl ((shl (1 : Int32) a1) - (1 : Int32)) a0), σ)
def f_X10_roomAt_48 (rec7 : Int32 → Int32 → Int32 → Int32 → Sg → Option (Int32 × Sg)) (a1 : Int32) (a2 : Int32) (a3 : Int32) (a4 : Int32) (a5 : Int32) (t0 : Int32) (σ : Sg) : Option (Int32 × Sg) :=
  if t0 = 0 then if t0 = 0 then lt (a4 + (1 : Int32)) (fun v1 => rec7 a1 a2 a3 v1 σ) else lt (a4 + (1 : Int32)) (fun v2 => rec7 a1 a2 a5 v2 σ) else if t0 = 0 then lt (a4 + (1 : Int32)) (fun v3 => rec7 a1 a4 a3 v3 σ) else lt (a4 + (1 : Int32)) (fun v4 => rec7 a1 a4 a5 v4 σ)
def f_X10_roomAt_7_b  (rec7 : Int32 → Int32 → Int32 → Int32 → Sg → Option (Int32 × Sg)) (a1 : Int32) (a2 : Int32) (a3 : Int32) (a4 : Int32) (σ : Sg) : Option (Int32 × Sg) :=
  if (12 : Int32) < (a4 + a1) then some (a2, σ) else bnd (f_X10_window a4 a1 σ) (fun r6 s5 => bnd (f_X10_lossOn r6 s5) (fun r8 s7 => if r8 < 0 then f_X10_roomAt_48 rec7 a1 a2 a3 a4 r8 (0 : Int32) s7 else if a2 < 0 then f_X10_roomAt_48 rec7 a1 a2 a3 a4 r8 (1 : Int32) s7 else if a3 ≤ r8 then f_X10_roomAt_48 rec7 a1 a2 a3 a4 r8 (0 : Int32) s7 else f_X10_roomAt_48 rec7 a1 a2 a3 a4 r8 (1 : Int32) s7))
def f_X10_roomAt_7  : Nat → Int32 → Int32 → Int32 → Int32 → Sg → Option (Int32 × Sg)
  | 0 => fun _ _ _ _ _ => none
  | n + 1 => f_X10_roomAt_7_b   (f_X10_roomAt_7   n)
def f_X10_roomAt (a1 : Int32) (σ : Sg) : Option (Int32 × Sg) :=
  f_X10_roomAt_7 fuN a1 (-1 : Int32) (0 : Int32) (0 : Int32) σ
def f_X10_room (a1 : Int32) (a2 : Int32) (σ : Sg) : Option (Int32 × Sg) :=
  bnd (f_X10_in a1 (1 : Int32) (12 : Int32) σ) (fun r2 s1 => if r2 = 0 then bnd (f_X10_error (-1000000001 : Int32) s1) (fun r4 s3 => some (r4, s3)) else bnd (f_X10_in a2 (0 : Int32) (3 : Int32) s1) (fun r6 s5 => if r6 = 0 then bnd (f_X10_error (-1000000001 : Int32) s5) (fun r22 s21 => some (r22, s21)) else bnd (f_X10_roomAt a1 s5) (fun r8 s7 => if 0 ≤ r8 then bnd (f_X10_window r8 a1 s7) (fun r10 s9 => bnd (f_X10_linesOn r10 s9) (fun r12 s11 => if a2 = 0 then bnd (f_X10_lossOn r10 s11) (fun r18 s17 => some (r18, s17)) else if a2 = (1 : Int32) then some (r8, s11) else if a2 = (2 : Int32) then some (r12, s11) else ckb (inb (0 : Int32) 408) (bnd (f_X10_bits r12 s11) (fun r14 s13 => bnd (f_X10_gives (1 : Int32) a1 (irm (rd (s11 1) (0 : Int32)) (7 : Int32)) r14 s13) (fun r16 s15 => some (r16, s15)))))) else bnd (f_X10_error (-1000000002 : Int32) s7) (fun r20 s19 => some (r20, s19)))))
def f_X10_seed (a1 : Int32) (σ : Sg) : Option (Int32 × Sg) :=
  bnd (f_X10_becomes (1 : Int32) a1 σ) (fun r2 s1 => some (r2, s1))
def f_X10_sheet_93_b  (rec93 : Int32 → Int32 → Sg → Option (Int32 × Sg)) (a1 : Int32) (a4 : Int32) (σ : Sg) : Option (Int32 × Sg) :=
  if (24 : Int32) ≤ a4 then some ((1 : Int32), σ) else ckb (inb (((24 : Int32) * a1) + a4) 96) (lt (up σ 7 (((24 : Int32) * a1) + a4).toNatClampNeg (0 : Int32)) (fun s1 => lt (a4 + (1 : Int32)) (fun v2 => rec93 a1 v2 s1)))
def f_X10_sheet_93  : Nat → Int32 → Int32 → Sg → Option (Int32 × Sg)
  | 0 => fun _ _ _ => none
  | n + 1 => f_X10_sheet_93_b   (f_X10_sheet_93   n)
def f_X10_sheet_68  (a1 : Int32) (a2 : Int32) (a3 : Int32) (σ : Sg) : Option (Int32 × Sg) :=
  ckb (inb a1 4) (lt (up σ 5 a1.toNatClampNeg a2) (fun s3 => if a2 = 0 then ckb (inb a1 4) (lt (up s3 6 a1.toNatClampNeg (0 : Int32)) (fun s5 => f_X10_sheet_93 fuN a1 (0 : Int32) s5)) else ckb (inb a1 4) (lt (up s3 6 a1.toNatClampNeg a3) (fun s4 => f_X10_sheet_93 fuN a1 (0 : Int32) s4))))
def f_X10_sheet_51  (a1 : Int32) (a2 : Int32) (a3 : Int32) (σ : Sg) : Option (Int32 × Sg) :=
  if a2 ≤ 0 then f_X10_sheet_68 a1 a2 a3 σ else if a3 ≤ (24 : Int32) then f_X10_sheet_68 a1 a2 a3 σ else bnd (f_X10_error (-1000000001 : Int32) σ) (fun r7 s6 => some (r7, s6))
def f_X10_sheet_36  (a1 : Int32) (a2 : Int32) (a3 : Int32) (σ : Sg) : Option (Int32 × Sg) :=
  if a2 ≤ 0 then f_X10_sheet_51 a1 a2 a3 σ else if 0 ≤ a3 then f_X10_sheet_51 a1 a2 a3 σ else bnd (f_X10_error (-1000000003 : Int32) σ) (fun r9 s8 => some (r9, s8))
def f_X10_sheet (a1 : Int32) (a2 : Int32) (a3 : Int32) (σ : Sg) : Option (Int32 × Sg) :=
  bnd (f_X10_isSheet a1 σ) (fun r11 s10 => if r11 = 0 then bnd (f_X10_error (-1000000001 : Int32) s10) (fun r13 s12 => some (r13, s12)) else if a2 = 0 then f_X10_sheet_36 a1 a2 a3 s10 else if a2 = (8 : Int32) then f_X10_sheet_36 a1 a2 a3 s10 else if a2 = (16 : Int32) then f_X10_sheet_36 a1 a2 a3 s10 else if a2 = (32 : Int32) then f_X10_sheet_36 a1 a2 a3 s10 else bnd (f_X10_error (-1000000001 : Int32) s10) (fun r15 s14 => some (r15, s14)))
def f_X10_spirit (a1 : Int32) (σ : Sg) : Option (Int32 × Sg) :=
  bnd (f_X10_in a1 (0 : Int32) (1 : Int32) σ) (fun r2 s1 => if r2 = 0 then bnd (f_X10_error (-1000000001 : Int32) s1) (fun r4 s3 => some (r4, s3)) else bnd (f_X10_becomes (3 : Int32) a1 s1) (fun r6 s5 => some (r6, s5)))
def f_X10_stays (a1 : Int32) (a2 : Int32) (σ : Sg) : Option (Int32 × Sg) :=
  bnd (f_X10_it a1 (0 : Int32) σ) (fun r2 s1 => if r2 = (3 : Int32) then bnd (f_X10_begins (40 : Int32) s1) (fun _ s4 => bnd (f_X10_plainStays a1 (a2 / (2 : Int32)) s4) (fun r7 s6 => some (r7, s6))) else if r2 = (4 : Int32) then bnd (f_X10_begins (51 : Int32) s1) (fun _ s9 => bnd (f_X10_plainStays a1 a2 s9) (fun r12 s11 => some ((r12 ^^^ a1), s11))) else bnd (f_X10_plainStays a1 a2 s1) (fun r14 s13 => some (r14, s13)))
def f_X10_tell (a1 : Int32) (σ : Sg) : Option (Int32 × Sg) :=
  ckb (inb (6 : Int32) 408) (if (rd (σ 1) (6 : Int32)) = (24 : Int32) then bnd (f_X10_error (-1000000004 : Int32) σ) (fun r4 s3 => some (r4, s3)) else ckb (inb (6 : Int32) 408) (ckb (inb ((142 : Int32) + (rd (σ 1) (6 : Int32))) 408) (lt (up σ 1 ((142 : Int32) + (rd (σ 1) (6 : Int32))).toNatClampNeg a1) (fun s1 => ckb (inb (6 : Int32) 408) (ckb (inb (6 : Int32) 408) (lt (up s1 1 (6 : Int32).toNatClampNeg ((rd (s1 1) (6 : Int32)) + (1 : Int32))) (fun s2 => ckb (inb (6 : Int32) 408) (some ((rd (s2 1) (6 : Int32)), s2)))))))))
def f_X10_text_117_b  (rec117 : Int32 → Int32 → Sg → Option (Int32 × Sg)) (a2 : Int32) (a3 : Int32) (σ : Sg) : Option (Int32 × Sg) :=
  if (σ 0 12) ≤ a3 then some ((1 : Int32), σ) else ckb (inb a3 60) (ckb (inb ((a2 + (1 : Int32)) + a3) 408) (lt (up σ 1 ((a2 + (1 : Int32)) + a3).toNatClampNeg (rd (σ 8) a3)) (fun s1 => ckb (inb a3 60) (ckb (inb ((a2 + (61 : Int32)) + a3) 408) (lt (up s1 1 ((a2 + (61 : Int32)) + a3).toNatClampNeg (rd (s1 9) a3)) (fun s2 => lt (a3 + (1 : Int32)) (fun v3 => rec117 a2 v3 s2)))))))
def f_X10_text_117  : Nat → Int32 → Int32 → Sg → Option (Int32 × Sg)
  | 0 => fun _ _ _ => none
  | n + 1 => f_X10_text_117_b   (f_X10_text_117   n)
def f_X10_text_71  (a1 : Int32) (t0 : Int32) (σ : Sg) : Option (Int32 × Sg) :=
  ckb (isb t0) (lt (up σ 0 15 t0) (fun s4 => ckb (inb (5 : Int32) 408) (lt (up s4 1 (5 : Int32).toNatClampNeg (0 : Int32)) (fun s6 => if (s6 0 15) = 0 then lt (((166 : Int32) + ((121 : Int32) * a1))) (fun v7 => ckb (inb v7 408) (lt (up s6 1 v7.toNatClampNeg (s6 0 12)) (fun s8 => f_X10_text_117 fuN v7 (0 : Int32) s8))) else some (((-10 : Int32) - (s6 0 13)), s6)))))
def f_X10_text (a1 : Int32) (σ : Sg) : Option (Int32 × Sg) :=
  bnd (f_X10_in a1 (0 : Int32) (1 : Int32) σ) (fun r10 s9 => if r10 = 0 then bnd (f_X10_error (-1000000001 : Int32) s9) (fun r19 s18 => some (r19, s18)) else lt (up s9 0 16 a1) (fun s11 => lt (up s11 0 12 (0 : Int32)) (fun s12 => lt (up s12 0 13 (0 : Int32)) (fun s13 => lt (up s13 0 14 (0 : Int32)) (fun s14 => lt (up s14 0 15 (0 : Int32)) (fun s15 => bnd (f_X10_any s15) (fun _ s16 => if (s16 0 15) = 0 then ckb (inb (5 : Int32) 408) (if (rd (s16 1) (5 : Int32)) ≤ (s16 0 13) then f_X10_text_71 a1 (0 : Int32) s16 else f_X10_text_71 a1 (1 : Int32) s16) else f_X10_text_71 a1 (1 : Int32) s16)))))))
def f_X10_told (a1 : Int32) (σ : Sg) : Option (Int32 × Sg) :=
  bnd (f_X10_in a1 (1 : Int32) (6 : Int32) σ) (fun r2 s1 => if r2 = 0 then bnd (f_X10_error (-1000000001 : Int32) s1) (fun r4 s3 => some (r4, s3)) else ckb (inb a1 7) (some ((rd (s1 4) a1), s1)))
def f_X10_untell (a1 : Int32) (σ : Sg) : Option (Int32 × Sg) :=
  bnd (f_X10_in a1 (0 : Int32) (1 : Int32) σ) (fun r2 s1 => if r2 = 0 then bnd (f_X10_error (-1000000001 : Int32) s1) (fun r6 s5 => some (r6, s5)) else bnd (f_X10_becomes ((166 : Int32) + ((121 : Int32) * a1)) (0 : Int32) s1) (fun r4 s3 => if r4 ≤ 0 then some ((0 : Int32), s3) else some ((1 : Int32), s3)))
def f_X10_voice_81  (t0 : Int32) (σ : Sg) : Option (Int32 × Sg) :=
  if (σ 0 20) = 0 then some (t0, σ) else bnd (f_X10_error (-1000000006 : Int32) σ) (fun r2 s1 => some (r2, s1))
def f_X10_voice (a1 : Int32) (a2 : Int32) (a3 : Int32) (σ : Sg) : Option (Int32 × Sg) :=
  bnd (f_X10_isLine a1 σ) (fun r4 s3 => if r4 = 0 then bnd (f_X10_error (-1000000001 : Int32) s3) (fun r6 s5 => some (r6, s5)) else bnd (f_X10_in a2 (0 : Int32) (3 : Int32) s3) (fun r8 s7 => if r8 = 0 then bnd (f_X10_error (-1000000001 : Int32) s7) (fun r20 s19 => some (r20, s19)) else lt (up s7 0 19 (0 : Int32)) (fun s9 => lt (up s9 0 20 (0 : Int32)) (fun s10 => if a2 = 0 then bnd (f_X10_squeaks a1 a3 s10) (fun r18 s17 => f_X10_voice_81 r18 s17) else if a2 = (1 : Int32) then bnd (f_X10_smears a1 a3 s10) (fun r16 s15 => f_X10_voice_81 r16 s15) else if a2 = (2 : Int32) then bnd (f_X10_stays a1 a3 s10) (fun r14 s13 => f_X10_voice_81 r14 s13) else bnd (f_X10_partsBy a1 a3 s10) (fun r12 s11 => f_X10_voice_81 r12 s11)))))
def f_X10_when_78  (a2 : Int32) (a3 : Int32) (a4 : Int32) (a5 : Int32) (σ : Sg) : Option (Int32 × Sg) :=
  ckb (inb (0 : Int32) 408) (lt (up σ 1 (0 : Int32).toNatClampNeg a3) (fun s1 => if 0 ≤ a5 then if a2 = 0 then some (a4, s1) else some (a5, s1) else bnd (f_X10_error (-1000000002 : Int32) s1) (fun r3 s2 => some (r3, s2))))
def f_X10_when_43_b  (rec43 : Int32 → Int32 → Int32 → Int32 → Int32 → Sg → Option (Int32 × Sg)) (a1 : Int32) (a2 : Int32) (a3 : Int32) (a4 : Int32) (a5 : Int32) (σ : Sg) : Option (Int32 × Sg) :=
  if 0 ≤ a5 then f_X10_when_78 a2 a3 a4 a5 σ else if (90 : Int32) ≤ a4 then f_X10_when_78 a2 a3 a4 a5 σ else ckb (inb (0 : Int32) 408) (ckb (inb (0 : Int32) 408) (lt (up σ 1 (0 : Int32).toNatClampNeg ((rd (σ 1) (0 : Int32)) + (1 : Int32))) (fun s4 => lt (a4 + (1 : Int32)) (fun v5 => bnd (f_X10_roomAt a1 s4) (fun r7 s6 => rec43 a1 a2 a3 v5 r7 s6)))))
def f_X10_when_43  : Nat → Int32 → Int32 → Int32 → Int32 → Int32 → Sg → Option (Int32 × Sg)
  | 0 => fun _ _ _ _ _ _ => none
  | n + 1 => f_X10_when_43_b   (f_X10_when_43   n)
def f_X10_when (a1 : Int32) (a2 : Int32) (σ : Sg) : Option (Int32 × Sg) :=
  bnd (f_X10_in a1 (1 : Int32) (12 : Int32) σ) (fun r9 s8 => if r9 = 0 then bnd (f_X10_error (-1000000001 : Int32) s8) (fun r11 s10 => some (r11, s10)) else bnd (f_X10_in a2 (0 : Int32) (1 : Int32) s8) (fun r13 s12 => if r13 = 0 then bnd (f_X10_error (-1000000001 : Int32) s12) (fun r18 s17 => some (r18, s17)) else ckb (inb (0 : Int32) 408) (lt ((rd (s12 1) (0 : Int32))) (fun v14 => bnd (f_X10_roomAt a1 s12) (fun r16 s15 => f_X10_when_43 fuN a1 a2 v14 (0 : Int32) r16 s15)))))
def f_X10_wipe (a1 : Int32) (σ : Sg) : Option (Int32 × Sg) :=
  bnd (f_X10_isLine a1 σ) (fun r2 s1 => if r2 = 0 then bnd (f_X10_error (-1000000001 : Int32) s1) (fun r12 s11 => some (r12, s11)) else bnd (f_X10_mayGo a1 s1) (fun r4 s3 => if r4 = 0 then bnd (f_X10_error (-1000000003 : Int32) s3) (fun r10 s9 => some (r10, s9)) else bnd (f_X10_lossOf a1 s3) (fun r6 s5 => bnd (f_X10_isWiped a1 s5) (fun _ s7 => some (r6, s7)))))
def f_X10_write_41  (a1 : Int32) (a2 : Int32) (a3 : Int32) (a4 : Int32) (t0 : Int32) (σ : Sg) : Option (Int32 × Sg) :=
  if t0 = 0 then bnd (f_X10_error (-1000000001 : Int32) σ) (fun r2 s1 => some (r2, s1)) else bnd (f_X10_in a3 (0 : Int32) (5 : Int32) σ) (fun r4 s3 => if r4 = 0 then bnd (f_X10_error (-1000000001 : Int32) s3) (fun r6 s5 => some (r6, s5)) else bnd (f_X10_in a4 (0 : Int32) (4 : Int32) s3) (fun r8 s7 => if r8 = 0 then bnd (f_X10_error (-1000000001 : Int32) s7) (fun r24 s23 => some (r24, s23)) else ckb (inb (2 : Int32) 408) (if (rd (s7 1) (2 : Int32)) = (10 : Int32) then bnd (f_X10_error (-1000000004 : Int32) s7) (fun r22 s21 => some (r22, s21)) else lt ((irm a2 (100 : Int32))) (fun v9 => bnd (f_X10_window (a2 / (100 : Int32)) v9 s7) (fun r11 s10 => bnd (f_X10_takenBy (-1 : Int32) s10) (fun r13 s12 => if (r11 &&& r13) = 0 then ckb (inb ((7 : Int32) + a4) 408) (if v9 ≤ (rd (s12 1) ((7 : Int32) + a4)) then ckb (inb ((7 : Int32) + a4) 408) (ckb (inb ((7 : Int32) + a4) 408) (lt (up s12 1 ((7 : Int32) + a4).toNatClampNeg ((rd (s12 1) ((7 : Int32) + a4)) - v9)) (fun s16 => bnd (f_X10_comes a1 r11 a3 s16) (fun r18 s17 => some (r18, s17))))) else bnd (f_X10_error (-1000000003 : Int32) s12) (fun r20 s19 => some (r20, s19))) else bnd (f_X10_error (-1000000003 : Int32) s12) (fun r15 s14 => some (r15, s14))))))))
def f_X10_write (a1 : Int32) (a2 : Int32) (a3 : Int32) (a4 : Int32) (σ : Sg) : Option (Int32 × Sg) :=
  bnd (f_X10_isKm a1 σ) (fun r26 s25 => if r26 = 0 then f_X10_write_41 a1 a2 a3 a4 (0 : Int32) s25 else bnd (f_X10_in a2 (1 : Int32) (1199 : Int32) s25) (fun r28 s27 => if r28 = 0 then f_X10_write_41 a1 a2 a3 a4 (0 : Int32) s27 else bnd (f_X10_in (irm a2 (100 : Int32)) (1 : Int32) ((12 : Int32) - (a2 / (100 : Int32))) s27) (fun r30 s29 => if r30 = 0 then f_X10_write_41 a1 a2 a3 a4 (0 : Int32) s29 else f_X10_write_41 a1 a2 a3 a4 (1 : Int32) s29)))
def f_X1_take (o0 : Nat) (o1 : Nat) (σ : Sg) : Option (Unit × Sg) :=
  bnd (f_X6_copyFrom (o0 + 8) o1 σ) (fun _ s1 => lt (up s1 o0 0 (1 : Int32)) (fun s3 => some ((), s3)))
def f_X9_columnsFrom (a0 : Int32) (a1 : Int32) (σ : Sg) : Option (Int32 × Sg) :=
  some ((shl ((shl (1 : Int32) a1) - (1 : Int32)) a0), σ)
def f_X9_freeEnd_2_b  (rec2 : Int32 → Int32 → Int32 → Sg → Option (Int32 × Sg)) (a0 : Int32) (a2 : Int32) (a3 : Int32) (σ : Sg) : Option (Int32 × Sg) :=
  if (12 : Int32) < (a3 + a2) then some ((1000000 : Int32), σ) else bnd (f_X9_columnsFrom a3 a2 σ) (fun r2 s1 => if (a0 &&& r2) = 0 then some ((a3 + a2), s1) else lt (a3 + (1 : Int32)) (fun v3 => rec2 a0 a2 v3 s1))
def f_X9_freeEnd_2  : Nat → Int32 → Int32 → Int32 → Sg → Option (Int32 × Sg)
  | 0 => fun _ _ _ _ => none
  | n + 1 => f_X9_freeEnd_2_b   (f_X9_freeEnd_2   n)
def f_X9_freeEnd (a0 : Int32) (a1 : Int32) (a2 : Int32) (σ : Sg) : Option (Int32 × Sg) :=
  f_X9_freeEnd_2 fuN a0 a2 a1 σ
def f_X3_leastEnd_7_b  (rec7 : Nat → Int32 → Int32 → Int32 → Int32 → Sg → Option (Int32 × Sg)) (o1 : Nat) (a2 : Int32) (a3 : Int32) (a4 : Int32) (a5 : Int32) (σ : Sg) : Option (Int32 × Sg) :=
  if (6 : Int32) ≤ a5 then some (a4, σ) else if (σ o1 1) ≤ a5 then some (a4, σ) else bnd (f_X9_isOf a5 a3 σ) (fun r2 s1 => if r2 = 0 then lt (a5 + (1 : Int32)) (fun v3 => rec7 o1 a2 a3 a4 v3 s1) else ckb (inb (a3 ^^^ (shl (1 : Int32) a5)) 64) (lt ((rd (s1 9) (a3 ^^^ (shl (1 : Int32) a5)))) (fun v4 => ckb (inb a5 (capC (o1 + 18))) (bnd (f_X9_freeEnd a2 v4 (rd (s1 (o1 + 18)) a5) s1) (fun r6 s5 => lt ((mn a4 r6)) (fun v7 => lt (a5 + (1 : Int32)) (fun v8 => rec7 o1 a2 a3 v7 v8 s5)))))))
def f_X3_leastEnd_7  : Nat → Nat → Int32 → Int32 → Int32 → Int32 → Sg → Option (Int32 × Sg)
  | 0 => fun _ _ _ _ _ _ => none
  | n + 1 => f_X3_leastEnd_7_b   (f_X3_leastEnd_7   n)
def f_X3_leastEnd (o1 : Nat) (a2 : Int32) (a3 : Int32) (σ : Sg) : Option (Int32 × Sg) :=
  f_X3_leastEnd_7 fuN o1 a2 a3 (1000000 : Int32) (0 : Int32) σ
def f_X3_most_25_b  (rec25 : Nat → Int32 → Int32 → Int32 → Int32 → Sg → Option (Int32 × Sg)) (o1 : Nat) (a2 : Int32) (a3 : Int32) (a4 : Int32) (a5 : Int32) (σ : Sg) : Option (Int32 × Sg) :=
  if a3 ≤ a5 then some (a4, σ) else bnd (f_X3_leastEnd o1 a2 a5 σ) (fun r2 s1 => ckb (inb a5 64) (lt (up s1 9 a5.toNatClampNeg r2) (fun s3 => ckb (inb a5 64) (if (12 : Int32) < (rd (s3 9) a5) then lt (a5 + (1 : Int32)) (fun v4 => rec25 o1 a2 a3 a4 v4 s3) else bnd (f_J6_bitCount_0f7a4 a5 s3) (fun r6 s5 => lt ((mx a4 r6)) (fun v7 => lt (a5 + (1 : Int32)) (fun v8 => rec25 o1 a2 a3 v7 v8 s5)))))))
def f_X3_most_25  : Nat → Nat → Int32 → Int32 → Int32 → Int32 → Sg → Option (Int32 × Sg)
  | 0 => fun _ _ _ _ _ _ => none
  | n + 1 => f_X3_most_25_b   (f_X3_most_25   n)
def f_X3_most (o1 : Nat) (a2 : Int32) (σ : Sg) : Option (Int32 × Sg) :=
  lt ((shl (1 : Int32) (mn (σ o1 1) (6 : Int32)))) (fun v9 => ckb (inb (0 : Int32) 64) (lt (up σ 9 (0 : Int32).toNatClampNeg (0 : Int32)) (fun s10 => f_X3_most_25 fuN o1 a2 v9 (0 : Int32) (1 : Int32) s10)))
def f_X4_isDigit (a0 : Int32) (σ : Sg) : Option (Int32 × Sg) :=
  if a0 < (48 : Int32) then some ((0 : Int32), σ) else if (57 : Int32) < a0 then some ((0 : Int32), σ) else some ((1 : Int32), σ)
def f_X4_levelOf (a0 : Int32) (σ : Sg) : Option (Int32 × Sg) :=
  if a0 = (37 : Int32) then some ((4 : Int32), σ) else if a0 = (38 : Int32) then some ((1 : Int32), σ) else if a0 = (42 : Int32) then some ((4 : Int32), σ) else if a0 = (43 : Int32) then some ((3 : Int32), σ) else if a0 = (45 : Int32) then some ((3 : Int32), σ) else if a0 = (47 : Int32) then some ((4 : Int32), σ) else if a0 = (60 : Int32) then some ((2 : Int32), σ) else if a0 = (61 : Int32) then some ((2 : Int32), σ) else if a0 = (62 : Int32) then some ((2 : Int32), σ) else if a0 = (124 : Int32) then some ((0 : Int32), σ) else some ((-1 : Int32), σ)
def f_X4_next  (σ : Sg) : Option (Int32 × Sg) :=
  if (σ 3 3) < 0 then some ((-1 : Int32), σ) else ckb (rowOk (σ 3 1)) (lt (σ 3 1).toNatClampNeg (fun p1 => if (σ p1 1) ≤ (σ 3 3) then some ((-1 : Int32), σ) else ckb (rowOk (σ 3 1)) (lt (σ 3 1).toNatClampNeg (fun p2 => ckb (inb (σ 3 3) (capC (p2 + 18))) (some ((rd (σ (p2 + 18)) (σ 3 3)), σ))))))
def f_X4_readsNumber_48  (a1 : Int32) (σ : Sg) : Option (Int32 × Sg) :=
  bnd (f_X6_add 56 a1 σ) (fun _ s1 => some ((1 : Int32), s1))
def f_X4_readsNumber_4_b  (rec4 : Int32 → Int32 → Sg → Option (Int32 × Sg)) (a1 : Int32) (a2 : Int32) (σ : Sg) : Option (Int32 × Sg) :=
  if (4 : Int32) ≤ a2 then f_X4_readsNumber_48 a1 σ else bnd (f_X4_next σ) (fun r4 s3 => bnd (f_X4_isDigit r4 s3) (fun r6 s5 => if r6 = 0 then f_X4_readsNumber_48 a1 s5 else bnd (f_X4_next s5) (fun r8 s7 => lt (((((10 : Int32) * a1) + r8) - (48 : Int32))) (fun v9 => lt (up s7 3 3 ((s7 3 3) + (1 : Int32))) (fun s10 => lt (a2 + (1 : Int32)) (fun v11 => rec4 v9 v11 s10))))))
def f_X4_readsNumber_4  : Nat → Int32 → Int32 → Sg → Option (Int32 × Sg)
  | 0 => fun _ _ _ => none
  | n + 1 => f_X4_readsNumber_4_b   (f_X4_readsNumber_4   n)
def f_X4_readsNumber  (σ : Sg) : Option (Int32 × Sg) :=
  f_X4_readsNumber_4 fuN (0 : Int32) (0 : Int32) σ
def f_X4_readsLevel_44_b (g_X4_readsLevel : Int32 → Int32 → Sg → Option (Int32 × Sg)) (g_X4_readsQ : Int32 → Sg → Option (Int32 × Sg)) (g_X4_readsNot : Int32 → Sg → Option (Int32 × Sg)) (g_X4_readsGroup : Int32 → Sg → Option (Int32 × Sg))  (rec44 : Int32 → Int32 → Int32 → Int32 → Sg → Option (Int32 × Sg)) (a1 : Int32) (a2 : Int32) (a3 : Int32) (a4 : Int32) (σ : Sg) : Option (Int32 × Sg) :=
  if a3 ≤ a4 then some ((1 : Int32), σ) else bnd (f_X4_next σ) (fun r2 s1 => bnd (f_X4_levelOf r2 s1) (fun r4 s3 => if r4 = a1 then bnd (f_X4_next s3) (fun r6 s5 => lt (up s5 3 3 ((s5 3 3) + (1 : Int32))) (fun s7 => bnd (g_X4_readsLevel (a1 + (1 : Int32)) a2 s7) (fun r9 s8 => if r9 = 0 then some ((0 : Int32), s8) else bnd (f_X6_add 56 (-r6) s8) (fun _ s10 => lt (a4 + (1 : Int32)) (fun v12 => rec44 a1 a2 a3 v12 s10))))) else some ((1 : Int32), s3)))
def f_X4_readsLevel_44 (g_X4_readsLevel : Int32 → Int32 → Sg → Option (Int32 × Sg)) (g_X4_readsQ : Int32 → Sg → Option (Int32 × Sg)) (g_X4_readsNot : Int32 → Sg → Option (Int32 × Sg)) (g_X4_readsGroup : Int32 → Sg → Option (Int32 × Sg))  : Nat → Int32 → Int32 → Int32 → Int32 → Sg → Option (Int32 × Sg)
  | 0 => fun _ _ _ _ _ => none
  | n + 1 => f_X4_readsLevel_44_b g_X4_readsLevel g_X4_readsQ g_X4_readsNot g_X4_readsGroup  (f_X4_readsLevel_44 g_X4_readsLevel g_X4_readsQ g_X4_readsNot g_X4_readsGroup  n)
def f_X4_readsLevel_e (g_X4_readsLevel : Int32 → Int32 → Sg → Option (Int32 × Sg)) (g_X4_readsQ : Int32 → Sg → Option (Int32 × Sg)) (g_X4_readsNot : Int32 → Sg → Option (Int32 × Sg)) (g_X4_readsGroup : Int32 → Sg → Option (Int32 × Sg)) (a1 : Int32) (a2 : Int32) (σ : Sg) : Option (Int32 × Sg) :=
  if a1 < (5 : Int32) then bnd (g_X4_readsLevel (a1 + (1 : Int32)) a2 σ) (fun r14 s13 => if r14 = 0 then some ((0 : Int32), s13) else if a1 = (2 : Int32) then f_X4_readsLevel_44 g_X4_readsLevel g_X4_readsQ g_X4_readsNot g_X4_readsGroup fuN a1 a2 (1 : Int32) (0 : Int32) s13 else ckb (rowOk (s13 3 1)) (lt (s13 3 1).toNatClampNeg (fun p15 => lt ((s13 p15 1)) (fun v16 => f_X4_readsLevel_44 g_X4_readsLevel g_X4_readsQ g_X4_readsNot g_X4_readsGroup fuN a1 a2 v16 (0 : Int32) s13)))) else bnd (g_X4_readsQ a2 σ) (fun r18 s17 => ckb (isb r18) (some (r18, s17)))
def f_X4_readsQ_19_b (g_X4_readsLevel : Int32 → Int32 → Sg → Option (Int32 × Sg)) (g_X4_readsQ : Int32 → Sg → Option (Int32 × Sg)) (g_X4_readsNot : Int32 → Sg → Option (Int32 × Sg)) (g_X4_readsGroup : Int32 → Sg → Option (Int32 × Sg))  (rec19 : Int32 → Int32 → Int32 → Sg → Option (Int32 × Sg)) (a1 : Int32) (a2 : Int32) (a3 : Int32) (σ : Sg) : Option (Int32 × Sg) :=
  if (3 : Int32) ≤ a3 then if a1 < (5 : Int32) then if a2 = (33 : Int32) then bnd (g_X4_readsNot (a1 + (1 : Int32)) σ) (fun r4 s3 => ckb (isb r4) (some (r4, s3))) else if a2 = (40 : Int32) then bnd (g_X4_readsGroup (a1 + (1 : Int32)) σ) (fun r2 s1 => if r2 = 0 then some ((0 : Int32), s1) else some ((1 : Int32), s1)) else some ((0 : Int32), σ) else some ((0 : Int32), σ) else ckb (inb (((3 : Int32) * (σ 3 2)) + a3) 6) (if a2 = (tbl lN_ (((3 : Int32) * (σ 3 2)) + a3)) then lt (up σ 3 3 ((σ 3 3) + (1 : Int32))) (fun s7 => bnd (f_X6_add 56 ((-1 : Int32) - a3) s7) (fun _ s8 => some ((1 : Int32), s8))) else lt (a3 + (1 : Int32)) (fun v6 => rec19 a1 a2 v6 σ))
def f_X4_readsQ_19 (g_X4_readsLevel : Int32 → Int32 → Sg → Option (Int32 × Sg)) (g_X4_readsQ : Int32 → Sg → Option (Int32 × Sg)) (g_X4_readsNot : Int32 → Sg → Option (Int32 × Sg)) (g_X4_readsGroup : Int32 → Sg → Option (Int32 × Sg))  : Nat → Int32 → Int32 → Int32 → Sg → Option (Int32 × Sg)
  | 0 => fun _ _ _ _ => none
  | n + 1 => f_X4_readsQ_19_b g_X4_readsLevel g_X4_readsQ g_X4_readsNot g_X4_readsGroup  (f_X4_readsQ_19 g_X4_readsLevel g_X4_readsQ g_X4_readsNot g_X4_readsGroup  n)
def f_X4_readsQ_e (g_X4_readsLevel : Int32 → Int32 → Sg → Option (Int32 × Sg)) (g_X4_readsQ : Int32 → Sg → Option (Int32 × Sg)) (g_X4_readsNot : Int32 → Sg → Option (Int32 × Sg)) (g_X4_readsGroup : Int32 → Sg → Option (Int32 × Sg)) (a1 : Int32) (σ : Sg) : Option (Int32 × Sg) :=
  bnd (f_X4_next σ) (fun r11 s10 => bnd (f_X4_isDigit r11 s10) (fun r13 s12 => if r13 = 0 then f_X4_readsQ_19 g_X4_readsLevel g_X4_readsQ g_X4_readsNot g_X4_readsGroup fuN a1 r11 (0 : Int32) s12 else bnd (f_X4_readsNumber s12) (fun r15 s14 => ckb (isb r15) (some (r15, s14)))))
def f_X4_readsNot_e (g_X4_readsLevel : Int32 → Int32 → Sg → Option (Int32 × Sg)) (g_X4_readsQ : Int32 → Sg → Option (Int32 × Sg)) (g_X4_readsNot : Int32 → Sg → Option (Int32 × Sg)) (g_X4_readsGroup : Int32 → Sg → Option (Int32 × Sg)) (a1 : Int32) (σ : Sg) : Option (Int32 × Sg) :=
  lt (up σ 3 3 ((σ 3 3) + (1 : Int32))) (fun s1 => bnd (g_X4_readsQ a1 s1) (fun r3 s2 => if r3 = 0 then some ((0 : Int32), s2) else bnd (f_X6_add 56 (-33 : Int32) s2) (fun _ s4 => some ((1 : Int32), s4))))
def f_X4_readsGroup_e (g_X4_readsLevel : Int32 → Int32 → Sg → Option (Int32 × Sg)) (g_X4_readsQ : Int32 → Sg → Option (Int32 × Sg)) (g_X4_readsNot : Int32 → Sg → Option (Int32 × Sg)) (g_X4_readsGroup : Int32 → Sg → Option (Int32 × Sg)) (a1 : Int32) (σ : Sg) : Option (Int32 × Sg) :=
  lt (up σ 3 3 ((σ 3 3) + (1 : Int32))) (fun s1 => bnd (g_X4_readsLevel (0 : Int32) a1 s1) (fun r3 s2 => if r3 = 0 then some ((0 : Int32), s2) else bnd (f_X4_next s2) (fun r5 s4 => if r5 = (41 : Int32) then lt (up s4 3 3 ((s4 3 3) + (1 : Int32))) (fun s6 => some ((1 : Int32), s6)) else some ((0 : Int32), s4))))
def G_X4_readsLevel : Nat → (Int32 → Int32 → Sg → Option (Int32 × Sg)) × (Int32 → Sg → Option (Int32 × Sg)) × (Int32 → Sg → Option (Int32 × Sg)) × (Int32 → Sg → Option (Int32 × Sg))
  | 0 => (fun _ _ _ => none, fun _ _ => none, fun _ _ => none, fun _ _ => none)
  | d + 1 => (f_X4_readsLevel_e (G_X4_readsLevel d).1 (G_X4_readsLevel d).2.1 (G_X4_readsLevel d).2.2.1 (G_X4_readsLevel d).2.2.2, f_X4_readsQ_e (G_X4_readsLevel d).1 (G_X4_readsLevel d).2.1 (G_X4_readsLevel d).2.2.1 (G_X4_readsLevel d).2.2.2, f_X4_readsNot_e (G_X4_readsLevel d).1 (G_X4_readsLevel d).2.1 (G_X4_readsLevel d).2.2.1 (G_X4_readsLevel d).2.2.2, f_X4_readsGroup_e (G_X4_readsLevel d).1 (G_X4_readsLevel d).2.1 (G_X4_readsLevel d).2.2.1 (G_X4_readsLevel d).2.2.2)
def f_X4_readsLevel : Int32 → Int32 → Sg → Option (Int32 × Sg) := (G_X4_readsLevel 64).1
def f_X4_readsQ : Int32 → Sg → Option (Int32 × Sg) := (G_X4_readsLevel 64).2.1
def f_X4_readsNot : Int32 → Sg → Option (Int32 × Sg) := (G_X4_readsLevel 64).2.2.1
def f_X4_readsGroup : Int32 → Sg → Option (Int32 × Sg) := (G_X4_readsLevel 64).2.2.2
def f_X4_reads (a2 : Int32) (σ : Sg) : Option (Int32 × Sg) :=
  lt (up σ 3 1 (Int32.ofNat 44)) (fun s1 => lt (up s1 3 2 a2) (fun s2 => lt (up s2 3 3 (0 : Int32)) (fun s3 => bnd (f_X6_clear 56 s3) (fun _ s4 => bnd (f_X4_readsLevel (0 : Int32) (0 : Int32) s4) (fun r7 s6 => if r7 = 0 then some ((0 : Int32), s6) else if (s6 3 3) = (s6 44 1) then some ((1 : Int32), s6) else some ((0 : Int32), s6))))))
def f_X5_lastBehind_5_b  (rec5 : Int32 → Int32 → Int32 → Int32 → Sg → Option (Int32 × Sg)) (a1 : Int32) (a2 : Int32) (a3 : Int32) (a4 : Int32) (σ : Sg) : Option (Int32 × Sg) :=
  if (σ 1 1) ≤ a4 then some (a3, σ) else bnd (f_X9_isOf a4 a1 σ) (fun r2 s1 => if r2 = 0 then lt (a4 + (1 : Int32)) (fun v3 => rec5 a1 a2 a3 v3 s1) else ckb (inb a4 10) (lt (20 + a4.toNatClampNeg) (fun p4 => bnd (f_X2_goesBehind p4 a2 (s1 1 3) s1) (fun r6 s5 => lt ((mx a3 r6)) (fun v7 => lt (a4 + (1 : Int32)) (fun v8 => rec5 a1 a2 v7 v8 s5))))))
def f_X5_lastBehind_5  : Nat → Int32 → Int32 → Int32 → Int32 → Sg → Option (Int32 × Sg)
  | 0 => fun _ _ _ _ _ => none
  | n + 1 => f_X5_lastBehind_5_b   (f_X5_lastBehind_5   n)
def f_X5_lastBehind (a1 : Int32) (a2 : Int32) (σ : Sg) : Option (Int32 × Sg) :=
  f_X5_lastBehind_5 fuN a1 a2 (0 : Int32) (0 : Int32) σ
def f_X5_firstBehind_6_b  (rec6 : Int32 → Int32 → Int32 → Sg → Option (Int32 × Sg)) (a2 : Int32) (a3 : Int32) (a4 : Int32) (σ : Sg) : Option (Int32 × Sg) :=
  if (12 : Int32) < (a4 + a2) then some (a3, σ) else bnd (f_X9_columnsFrom a4 a2 σ) (fun r2 s1 => bnd (f_X0_linesOn r2 s1) (fun r4 s3 => bnd (f_X5_lastBehind r4 (s3 1 2) s3) (fun r6 s5 => lt ((mn a3 r6)) (fun v7 => lt (a4 + (1 : Int32)) (fun v8 => rec6 a2 v7 v8 s5)))))
def f_X5_firstBehind_6  : Nat → Int32 → Int32 → Int32 → Sg → Option (Int32 × Sg)
  | 0 => fun _ _ _ _ => none
  | n + 1 => f_X5_firstBehind_6_b   (f_X5_firstBehind_6   n)
def f_X5_firstBehind (a2 : Int32) (σ : Sg) : Option (Int32 × Sg) :=
  f_X5_firstBehind_6 fuN a2 (1000000 : Int32) (0 : Int32) σ
def f_X5_lossOfAll_5_b  (rec5 : Int32 → Int32 → Int32 → Int32 → Sg → Option (Int32 × Sg)) (a1 : Int32) (a2 : Int32) (a3 : Int32) (a4 : Int32) (σ : Sg) : Option (Int32 × Sg) :=
  if (σ 1 1) ≤ a4 then some (a3, σ) else bnd (f_X9_isOf a4 a1 σ) (fun r2 s1 => if r2 = 0 then lt (a4 + (1 : Int32)) (fun v3 => rec5 a1 a2 a3 v3 s1) else bnd (f_X0_lossOf a4 a2 s1) (fun r5 s4 => lt ((a3 + r5)) (fun v6 => lt (a4 + (1 : Int32)) (fun v7 => rec5 a1 a2 v6 v7 s4))))
def f_X5_lossOfAll_5  : Nat → Int32 → Int32 → Int32 → Int32 → Sg → Option (Int32 × Sg)
  | 0 => fun _ _ _ _ _ => none
  | n + 1 => f_X5_lossOfAll_5_b   (f_X5_lossOfAll_5   n)
def f_X5_lossOfAll (a1 : Int32) (a2 : Int32) (σ : Sg) : Option (Int32 × Sg) :=
  f_X5_lossOfAll_5 fuN a1 a2 (0 : Int32) (0 : Int32) σ
def f_X5_seek_60 (rec6 : Int32 → Int32 → Int32 → Int32 → Sg → Option (Int32 × Sg)) (a2 : Int32) (a3 : Int32) (a5 : Int32) (a6 : Int32) (a7 : Int32) (σ : Sg) : Option (Int32 × Sg) :=
  lt (up σ 4 0 a7) (fun s1 => lt (up s1 4 1 a5) (fun s2 => lt (up s2 4 2 a6) (fun s3 => lt (a5 + (1 : Int32)) (fun v4 => rec6 a2 a3 (1 : Int32) v4 s3))))
def f_X5_seek_6_b  (rec6 : Int32 → Int32 → Int32 → Int32 → Sg → Option (Int32 × Sg)) (a2 : Int32) (a3 : Int32) (a4 : Int32) (a5 : Int32) (σ : Sg) : Option (Int32 × Sg) :=
  if (12 : Int32) < (a5 + a2) then ckb (isb a4) (some (a4, σ)) else bnd (f_X9_columnsFrom a5 a2 σ) (fun r7 s6 => bnd (f_X0_linesOn r7 s6) (fun r9 s8 => bnd (f_X5_lastBehind r9 a3 s8) (fun r11 s10 => if r11 = 0 then bnd (f_X5_lossOfAll r9 a3 s10) (fun r14 s13 => if a4 = 0 then f_X5_seek_60 rec6 a2 a3 a5 r9 r14 s13 else if (s13 4 0) ≤ r14 then lt (a5 + (1 : Int32)) (fun v15 => rec6 a2 a3 a4 v15 s13) else f_X5_seek_60 rec6 a2 a3 a5 r9 r14 s13) else lt (a5 + (1 : Int32)) (fun v12 => rec6 a2 a3 a4 v12 s10))))
def f_X5_seek_6  : Nat → Int32 → Int32 → Int32 → Int32 → Sg → Option (Int32 × Sg)
  | 0 => fun _ _ _ _ _ => none
  | n + 1 => f_X5_seek_6_b   (f_X5_seek_6   n)
def f_X5_seek (a2 : Int32) (a3 : Int32) (σ : Sg) : Option (Int32 × Sg) :=
  f_X5_seek_6 fuN a2 a3 (0 : Int32) (0 : Int32) σ
def f_X6_hasRoomFor (o0 : Nat) (a1 : Int32) (σ : Sg) : Option (Int32 × Sg) :=
  if ((Int32.ofNat (capC (o0 + 18))) - (σ o0 1)) < a1 then some ((0 : Int32), σ) else some ((1 : Int32), σ)
def f_X6_stands (o0 : Nat) (a1 : Int32) (a2 : Int32) (σ : Sg) : Option (Int32 × Sg) :=
  if a1 < 0 then some ((0 : Int32), σ) else if a2 < 0 then some ((0 : Int32), σ) else if (σ o0 1) < a2 then some ((0 : Int32), σ) else if ((σ o0 1) - a2) < a1 then some ((0 : Int32), σ) else some ((1 : Int32), σ)
def f_X7_begin_14_b  (rec14 : Nat → Int32 → Int32 → Sg → Option (Unit × Sg)) (o0 : Nat) (a2 : Int32) (a3 : Int32) (σ : Sg) : Option (Unit × Sg) :=
  if a2 ≤ a3 then some ((), σ) else bnd (f_X6_add (o0 + 48) (0 : Int32) σ) (fun _ s1 => lt (a3 + (1 : Int32)) (fun v3 => rec14 o0 a2 v3 s1))
def f_X7_begin_14  : Nat → Nat → Int32 → Int32 → Sg → Option (Unit × Sg)
  | 0 => fun _ _ _ _ => none
  | n + 1 => f_X7_begin_14_b   (f_X7_begin_14   n)
def f_X7_begin (o0 : Nat) (a1 : Int32) (a2 : Int32) (σ : Sg) : Option (Unit × Sg) :=
  lt (up σ o0 1 a1) (fun s4 => bnd (f_X6_clear (o0 + 48) s4) (fun _ s5 => f_X7_begin_14 fuN o0 a2 (0 : Int32) s5))
def f_X7_isMissing (o0 : Nat) (σ : Sg) : Option (Int32 × Sg) :=
  if (σ o0 1) = 0 then some ((1 : Int32), σ) else some ((0 : Int32), σ)
def f_X7_lowestBits (o0 : Nat) (a1 : Int32) (σ : Sg) : Option (Int32 × Sg) :=
  lt ((σ o0 1)) (fun v1 => if v1 = (8 : Int32) then some (a1.toInt8.toInt32, σ) else if v1 = (16 : Int32) then some (a1.toInt16.toInt32, σ) else some (a1, σ))
def f_X8_bodyOf_4_b  (rec4 : Int32 → Int32 → Int32 → Sg → Option (Int32 × Sg)) (a0 : Int32) (a2 : Int32) (a3 : Int32) (σ : Sg) : Option (Int32 × Sg) :=
  if (7 : Int32) ≤ a3 then some ((0 : Int32), σ) else if a2 = (-1 : Int32) then some ((0 : Int32), σ) else ckb (inb (((7 : Int32) * a0) + a2) 28) (lt ((tbl lB (((7 : Int32) * a0) + a2))) (fun v1 => if v1 = 0 then ckb (inb a2 7) (lt ((tbl lK a2)) (fun v2 => lt (a3 + (1 : Int32)) (fun v3 => rec4 a0 v2 v3 σ))) else some (v1, σ)))
def f_X8_bodyOf_4  : Nat → Int32 → Int32 → Int32 → Sg → Option (Int32 × Sg)
  | 0 => fun _ _ _ _ => none
  | n + 1 => f_X8_bodyOf_4_b   (f_X8_bodyOf_4   n)
def f_X8_bodyOf (a0 : Int32) (a1 : Int32) (σ : Sg) : Option (Int32 × Sg) :=
  f_X8_bodyOf_4 fuN a0 a1 (0 : Int32) σ
def f_X8_divided (a1 : Int32) (σ : Sg) : Option (Int32 × Sg) :=
  lt (((σ 6 4) - (σ 6 3))) (fun v1 => if v1 = 0 then lt (up σ 6 1 (1 : Int32)) (fun s3 => some ((0 : Int32), s3)) else ckb (nz v1) (some ((a1 / v1), σ)))
def f_X8_workOut_e (g_X8_workOut : Int32 → Int32 → Int32 → Int32 → Sg → Option (Int32 × Sg)) (a1 : Int32) (a2 : Int32) (a3 : Int32) (a4 : Int32) (σ : Sg) : Option (Int32 × Sg) :=
  bnd (f_X8_bodyOf a1 a2 σ) (fun r2 s1 => if r2 = 0 then some ((0 : Int32), s1) else if a4 ≤ (16 : Int32) then bnd (f_X6_add 57 r2 s1) (fun _ s3 => ckb (inb ((r2 / (10 : Int32)) - (1 : Int32)) 7) (lt ((tbl lK ((r2 / (10 : Int32)) - (1 : Int32)))) (fun v5 => lt ((a4 + (1 : Int32))) (fun v6 => if r2 = (10 : Int32) then some ((a3 + (s3 6 3)), s3) else if r2 = (11 : Int32) then bnd (g_X8_workOut (0 : Int32) (s3 6 2) a3 v6 s3) (fun r10 s9 => some ((r10 * (2 : Int32)), s9)) else if r2 = (12 : Int32) then bnd (g_X8_workOut (1 : Int32) (s3 6 2) a3 v6 s3) (fun r13 s12 => some ((r13 - (s12 6 4)), s12)) else if r2 = (13 : Int32) then bnd (f_X8_divided a3 s3) (fun r16 s15 => some (r16, s15)) else if r2 = (20 : Int32) then bnd (g_X8_workOut (0 : Int32) v5 a3 v6 s3) (fun r19 s18 => some ((r19 - (4 : Int32)), s18)) else if r2 = (21 : Int32) then bnd (g_X8_workOut (3 : Int32) v5 a3 v6 s3) (fun r22 s21 => if (s21 6 1) = 0 then bnd (g_X8_workOut (1 : Int32) (s21 6 2) (1 : Int32) v6 s21) (fun r24 s23 => some ((r22 + r24), s23)) else some ((0 : Int32), s21)) else if r2 = (30 : Int32) then bnd (g_X8_workOut (1 : Int32) v5 a3 v6 s3) (fun r27 s26 => some (((0 : Int32) - r27), s26)) else if r2 = (40 : Int32) then bnd (g_X8_workOut (2 : Int32) v5 (a3 / (2 : Int32)) v6 s3) (fun r30 s29 => some (r30, s29)) else if r2 = (50 : Int32) then bnd (g_X8_workOut (0 : Int32) v5 a3 v6 s3) (fun r33 s32 => some ((r33 * (3 : Int32)), s32)) else if r2 = (51 : Int32) then bnd (g_X8_workOut (2 : Int32) v5 a3 v6 s3) (fun r36 s35 => some ((r36 ^^^ (s35 6 3)), s35)) else if r2 = (60 : Int32) then bnd (g_X8_workOut (1 : Int32) v5 (a3 + (1 : Int32)) v6 s3) (fun r39 s38 => some (r39, s38)) else if r2 = (70 : Int32) then some ((9 : Int32), s3) else if r2 = (71 : Int32) then bnd (g_X8_workOut (1 : Int32) v5 a3 v6 s3) (fun r43 s42 => some ((r43 + (s42 6 4)), s42)) else some ((0 : Int32), s3))))) else some ((0 : Int32), s1))
def G_X8_workOut : Nat → (Int32 → Int32 → Int32 → Int32 → Sg → Option (Int32 × Sg))
  | 0 => (fun _ _ _ _ _ => none)
  | d + 1 => (f_X8_workOut_e (G_X8_workOut d))
def f_X8_workOut : Int32 → Int32 → Int32 → Int32 → Sg → Option (Int32 × Sg) := (G_X8_workOut 64)
def f_X8_say (o1 : Nat) (a2 : Int32) (a3 : Int32) (a4 : Int32) (σ : Sg) : Option (Int32 × Sg) :=
  bnd (f_X6_clear 57 σ) (fun _ s1 => lt (up s1 6 1 (0 : Int32)) (fun s3 => lt (up s3 6 2 (s3 o1 0)) (fun s4 => lt (up s4 6 3 a2) (fun s5 => lt (up s5 6 4 (s5 o1 1)) (fun s6 => bnd (f_X8_workOut a3 (s6 6 2) a4 (0 : Int32) s6) (fun r8 s7 => some (r8, s7)))))))
def f_X9_isIn (a0 : Int32) (a1 : Int32) (a2 : Int32) (σ : Sg) : Option (Int32 × Sg) :=
  if a0 < a1 then some ((0 : Int32), σ) else if a2 < a0 then some ((0 : Int32), σ) else some ((1 : Int32), σ)
def f_X9_error (a1 : Int32) (σ : Sg) : Option (Int32 × Sg) :=
  ckb (inb a1 7) (ckb (inb a1 7) (lt (up σ 8 a1.toNatClampNeg ((rd (σ 8) a1) + (1 : Int32))) (fun s1 => some (((-1000000000 : Int32) - a1), s1))))
def f_X9_isUnder_4_b  (rec4 : Int32 → Int32 → Int32 → Sg → Option (Int32 × Sg)) (a1 : Int32) (a2 : Int32) (a3 : Int32) (σ : Sg) : Option (Int32 × Sg) :=
  if (7 : Int32) ≤ a3 then some ((0 : Int32), σ) else if a2 = (-1 : Int32) then some ((0 : Int32), σ) else if a2 = a1 then some ((1 : Int32), σ) else ckb (inb a2 7) (lt ((tbl lK a2)) (fun v1 => lt (a3 + (1 : Int32)) (fun v2 => rec4 a1 v1 v2 σ)))
def f_X9_isUnder_4  : Nat → Int32 → Int32 → Int32 → Sg → Option (Int32 × Sg)
  | 0 => fun _ _ _ _ => none
  | n + 1 => f_X9_isUnder_4_b   (f_X9_isUnder_4   n)
def f_X9_isUnder (a0 : Int32) (a1 : Int32) (σ : Sg) : Option (Int32 × Sg) :=
  f_X9_isUnder_4 fuN a1 a0 (0 : Int32) σ
def f_X9_as (a1 : Int32) (a2 : Int32) (σ : Sg) : Option (Int32 × Sg) :=
  bnd (f_X0_hasLine a1 σ) (fun r2 s1 => if r2 = 0 then bnd (f_X9_error (1 : Int32) s1) (fun r4 s3 => some (r4, s3)) else bnd (f_X9_isIn a2 (0 : Int32) (6 : Int32) s1) (fun r6 s5 => if r6 = 0 then bnd (f_X9_error (1 : Int32) s5) (fun r13 s12 => some (r13, s12)) else ckb (inb a1 10) (lt (20 + a1.toNatClampNeg) (fun p7 => bnd (f_X9_isUnder (s5 p7 0) a2 s5) (fun r9 s8 => if r9 = 0 then bnd (f_X9_error (5 : Int32) s8) (fun r11 s10 => some (r11, s10)) else some ((s8 p7 1), s8))))))
def f_X9_isKm (a0 : Int32) (σ : Sg) : Option (Int32 × Sg) :=
  bnd (f_X9_isIn a0 (0 : Int32) (69 : Int32) σ) (fun r2 s1 => ckb (isb r2) (some (r2, s1)))
def f_X9_become (a1 : Int32) (a2 : Int32) (σ : Sg) : Option (Int32 × Sg) :=
  bnd (f_X0_hasLine a1 σ) (fun r2 s1 => if r2 = 0 then bnd (f_X9_error (1 : Int32) s1) (fun r4 s3 => some (r4, s3)) else bnd (f_X9_isKm a2 s1) (fun r6 s5 => if r6 = 0 then bnd (f_X9_error (1 : Int32) s5) (fun r12 s11 => some (r12, s11)) else ckb (inb a1 10) (lt (20 + a1.toNatClampNeg) (fun p7 => lt ((s5 p7 0)) (fun v8 => lt (up s5 p7 0 (a2 / (10 : Int32))) (fun s9 => lt (up s9 p7 1 (irm a2 (10 : Int32))) (fun s10 => some (v8, s10))))))))
def f_X9_body (a1 : Int32) (σ : Sg) : Option (Int32 × Sg) :=
  bnd (f_X9_isIn a1 (0 : Int32) ((σ 57 1) - (1 : Int32)) σ) (fun r2 s1 => if r2 = 0 then bnd (f_X9_error (2 : Int32) s1) (fun r4 s3 => some (r4, s3)) else ckb (inb a1 30) (some ((rd (s1 75) a1), s1)))
def f_X9_firstWrongInk_10_b  (rec10 : Int32 → Sg → Option (Int32 × Sg)) (a2 : Int32) (σ : Sg) : Option (Int32 × Sg) :=
  if (σ 46 1) ≤ a2 then some ((0 : Int32), σ) else if (5 : Int32) ≤ a2 then some (((1 : Int32) + a2), σ) else ckb (inb a2 24) (ckb (inb a2 5) (if (rd (σ 64) a2) = (rd (σ 16) a2) then lt (a2 + (1 : Int32)) (fun v1 => rec10 v1 σ) else some (((1 : Int32) + a2), σ)))
def f_X9_firstWrongInk_10  : Nat → Int32 → Sg → Option (Int32 × Sg)
  | 0 => fun _ _ => none
  | n + 1 => f_X9_firstWrongInk_10_b   (f_X9_firstWrongInk_10   n)
def f_X9_firstWrongInk  (σ : Sg) : Option (Int32 × Sg) :=
  f_X9_firstWrongInk_10 fuN (0 : Int32) σ
def f_X9_check  (σ : Sg) : Option (Int32 × Sg) :=
  bnd (f_X9_firstWrongInk σ) (fun r2 s1 => bnd (f_X6_clear 46 s1) (fun _ s3 => some (r2, s3)))
def f_X9_clears (a1 : Int32) (σ : Sg) : Option (Int32 × Sg) :=
  bnd (f_X9_isIn a1 (0 : Int32) (90 : Int32) σ) (fun r2 s1 => if r2 = 0 then bnd (f_X9_error (1 : Int32) s1) (fun r4 s3 => some (r4, s3)) else bnd (f_X0_takenBehind a1 s1) (fun r6 s5 => some (r6, s5)))
def f_X9_count (a1 : Int32) (σ : Sg) : Option (Int32 × Sg) :=
  if a1 = (0 : Int32) then some ((σ 1 1), σ) else if a1 = (1 : Int32) then some ((σ 1 2), σ) else if a1 = (2 : Int32) then some ((σ 1 3), σ) else if a1 = (3 : Int32) then some ((σ 1 4), σ) else if a1 = (4 : Int32) then some ((σ 44 1), σ) else if a1 = (5 : Int32) then some ((σ 46 1), σ) else if a1 = (6 : Int32) then some ((σ 57 1), σ) else if a1 = (7 : Int32) then some ((σ 1 6), σ) else bnd (f_X9_error (1 : Int32) σ) (fun r10 s9 => some (r10, s9))
def f_X9_dates_45_b  (rec45 : Nat → Int32 → Sg → Option (Int32 × Sg)) (o2 : Nat) (a3 : Int32) (σ : Sg) : Option (Int32 × Sg) :=
  if (σ o2 1) ≤ a3 then some ((σ o2 1), σ) else bnd (f_X0_hasLine a3 σ) (fun r2 s1 => if r2 = 0 then some (a3, s1) else ckb (inb a3 (capC (o2 + 18))) (bnd (f_X9_isIn (rd (s1 (o2 + 18)) a3) (0 : Int32) (s1 1 2) s1) (fun r4 s3 => if r4 = 0 then some (a3, s3) else ckb (inb a3 10) (lt (20 + a3.toNatClampNeg) (fun p5 => ckb (inb a3 (capC (o2 + 18))) (lt (up s3 p5 4 (rd (s3 (o2 + 18)) a3)) (fun s6 => lt (a3 + (1 : Int32)) (fun v7 => rec45 o2 v7 s6))))))))
def f_X9_dates_45  : Nat → Nat → Int32 → Sg → Option (Int32 × Sg)
  | 0 => fun _ _ _ => none
  | n + 1 => f_X9_dates_45_b   (f_X9_dates_45   n)
def f_X9_dates (a1 : Int32) (σ : Sg) : Option (Int32 × Sg) :=
  bnd (f_X9_isIn a1 (0 : Int32) (3 : Int32) σ) (fun r9 s8 => if r9 = 0 then bnd (f_X9_error (1 : Int32) s8) (fun r17 s16 => some (r17, s16)) else ckb (inb a1 4) (lt (10 + a1.toNatClampNeg) (fun p10 => bnd (f_X7_isMissing p10 s8) (fun r12 s11 => if r12 = 0 then ckb (inb a1 4) (lt (10 + a1.toNatClampNeg) (fun p13 => f_X9_dates_45 fuN (p13 + 48) (0 : Int32) s11)) else bnd (f_X9_error (2 : Int32) s11) (fun r15 s14 => some (r15, s14))))))
def f_X9_days_39_b  (rec39 : Int32 → Int32 → Sg → Option (Int32 × Sg)) (a1 : Int32) (a2 : Int32) (σ : Sg) : Option (Int32 × Sg) :=
  if a1 ≤ a2 then some ((σ 1 2), σ) else bnd (f_X0_passDay σ) (fun _ s1 => lt (a2 + (1 : Int32)) (fun v3 => rec39 a1 v3 s1))
def f_X9_days_39  : Nat → Int32 → Int32 → Sg → Option (Int32 × Sg)
  | 0 => fun _ _ _ => none
  | n + 1 => f_X9_days_39_b   (f_X9_days_39   n)
def f_X9_days (a1 : Int32) (σ : Sg) : Option (Int32 × Sg) :=
  bnd (f_X9_isIn a1 (1 : Int32) (90 : Int32) σ) (fun r5 s4 => if r5 = 0 then bnd (f_X9_error (1 : Int32) s4) (fun r9 s8 => some (r9, s8)) else if ((s4 1 2) + a1) ≤ (9999 : Int32) then f_X9_days_39 fuN a1 (0 : Int32) s4 else bnd (f_X9_error (3 : Int32) s4) (fun r7 s6 => some (r7, s6)))
def f_X9_feed_39_b  (rec39 : Int64 → Int32 → Int32 → Sg → Option (Int32 × Sg)) (a1 : Int64) (a3 : Int32) (a4 : Int32) (σ : Sg) : Option (Int32 × Sg) :=
  if a3 ≤ a4 then some ((σ 44 1), σ) else bnd (f_X6_add 44 (((lus a1 ((8 : Int32) * a4)).toInt32) &&& (255 : Int32)) σ) (fun _ s1 => lt (a4 + (1 : Int32)) (fun v3 => rec39 a1 a3 v3 s1))
def f_X9_feed_39  : Nat → Int64 → Int32 → Int32 → Sg → Option (Int32 × Sg)
  | 0 => fun _ _ _ _ => none
  | n + 1 => f_X9_feed_39_b   (f_X9_feed_39   n)
def f_X9_feed (a1 : Int64) (a3 : Int32) (σ : Sg) : Option (Int32 × Sg) :=
  bnd (f_X9_isIn a3 (1 : Int32) (8 : Int32) σ) (fun r5 s4 => if r5 = 0 then bnd (f_X9_error (1 : Int32) s4) (fun r11 s10 => some (r11, s10)) else bnd (f_X6_hasRoomFor 44 a3 s4) (fun r7 s6 => if r7 = 0 then bnd (f_X9_error (4 : Int32) s6) (fun r9 s8 => some (r9, s8)) else f_X9_feed_39 fuN a1 a3 (0 : Int32) s6))
def f_X9_isSet_2_b  (rec2 : Nat → Int32 → Int32 → Sg → Option (Int32 × Sg)) (o0 : Nat) (a1 : Int32) (a2 : Int32) (σ : Sg) : Option (Int32 × Sg) :=
  if (σ o0 1) ≤ a2 then some ((1 : Int32), σ) else ckb (inb a2 (capC (o0 + 18))) (if (rd (σ (o0 + 18)) a2) = ((shr a1 a2) &&& (1 : Int32)) then lt (a2 + (1 : Int32)) (fun v1 => rec2 o0 a1 v1 σ) else some ((0 : Int32), σ))
def f_X9_isSet_2  : Nat → Nat → Int32 → Int32 → Sg → Option (Int32 × Sg)
  | 0 => fun _ _ _ _ => none
  | n + 1 => f_X9_isSet_2_b   (f_X9_isSet_2   n)
def f_X9_isSet (o0 : Nat) (a1 : Int32) (σ : Sg) : Option (Int32 × Sg) :=
  f_X9_isSet_2 fuN o0 a1 (0 : Int32) σ
def f_X9_fits_52_b  (rec52 : Int32 → Int32 → Sg → Option (Int32 × Sg)) (a1 : Int32) (a2 : Int32) (σ : Sg) : Option (Int32 × Sg) :=
  if (90 : Int32) < a2 then bnd (f_X9_error (2 : Int32) σ) (fun r2 s1 => some (r2, s1)) else ckb (inb a1 4) (lt (10 + a1.toNatClampNeg) (fun p3 => bnd (f_X0_takenBehind a2 σ) (fun r5 s4 => bnd (f_X9_isSet (p3 + 48) r5 s4) (fun r7 s6 => if r7 = 0 then lt (a2 + (1 : Int32)) (fun v8 => rec52 a1 v8 s6) else some (a2, s6)))))
def f_X9_fits_52  : Nat → Int32 → Int32 → Sg → Option (Int32 × Sg)
  | 0 => fun _ _ _ => none
  | n + 1 => f_X9_fits_52_b   (f_X9_fits_52   n)
def f_X9_fits (a1 : Int32) (σ : Sg) : Option (Int32 × Sg) :=
  bnd (f_X9_isIn a1 (0 : Int32) (3 : Int32) σ) (fun r10 s9 => if r10 = 0 then bnd (f_X9_error (1 : Int32) s9) (fun r20 s19 => some (r20, s19)) else ckb (inb a1 4) (lt (10 + a1.toNatClampNeg) (fun p11 => bnd (f_X7_isMissing p11 s9) (fun r13 s12 => if r13 = 0 then ckb (inb a1 4) (lt (10 + a1.toNatClampNeg) (fun p16 => if (s12 (p16 + 48) 1) ≤ (12 : Int32) then f_X9_fits_52 fuN a1 (0 : Int32) s12 else bnd (f_X9_error (2 : Int32) s12) (fun r18 s17 => some (r18, s17)))) else bnd (f_X9_error (2 : Int32) s12) (fun r15 s14 => some (r15, s14))))))
def f_X9_longestFree_3_b  (rec3 : Int32 → Int32 → Sg → Option (Int32 × Sg)) (a0 : Int32) (a1 : Int32) (σ : Sg) : Option (Int32 × Sg) :=
  if a1 ≤ 0 then some ((0 : Int32), σ) else bnd (f_X9_freeEnd a0 (0 : Int32) a1 σ) (fun r2 s1 => if r2 = (1000000 : Int32) then lt (a1 + (-1 : Int32)) (fun v3 => rec3 a0 v3 s1) else some (a1, s1))
def f_X9_longestFree_3  : Nat → Int32 → Int32 → Sg → Option (Int32 × Sg)
  | 0 => fun _ _ _ => none
  | n + 1 => f_X9_longestFree_3_b   (f_X9_longestFree_3   n)
def f_X9_longestFree (a0 : Int32) (σ : Sg) : Option (Int32 × Sg) :=
  f_X9_longestFree_3 fuN a0 (12 : Int32) σ
def f_X9_free (a1 : Int32) (σ : Sg) : Option (Int32 × Sg) :=
  bnd (f_X0_taken σ) (fun r2 s1 => if a1 = (0 : Int32) then some (r2, s1) else if a1 = (1 : Int32) then bnd (f_J6_bitCount_0f7a4 r2 s1) (fun r6 s5 => some (((12 : Int32) - r6), s5)) else if a1 = (2 : Int32) then bnd (f_X9_longestFree r2 s1) (fun r9 s8 => some (r9, s8)) else if a1 = (3 : Int32) then bnd (f_X9_longestFree r2 s1) (fun r12 s11 => if r12 = 0 then bnd (f_X9_error (2 : Int32) s11) (fun r16 s15 => some (r16, s15)) else bnd (f_X9_freeEnd r2 (0 : Int32) r12 s11) (fun r14 s13 => some ((r14 - r12), s13))) else bnd (f_X9_error (1 : Int32) s1) (fun r18 s17 => some (r18, s17)))
def f_X9_image  (σ : Sg) : Option (Int32 × Sg) :=
  bnd (f_X0_copyFrom 2 1 σ) (fun _ s1 => lt (up s1 0 2 ((s1 0 2) + (1 : Int32))) (fun s3 => some ((s3 0 2), s3)))
def f_X9_judge_45_b  (rec45 : Nat → Int32 → Sg → Option (Int32 × Sg)) (o2 : Nat) (a3 : Int32) (σ : Sg) : Option (Int32 × Sg) :=
  if (σ o2 1) ≤ a3 then some ((σ o2 1), σ) else bnd (f_X0_hasLine a3 σ) (fun r2 s1 => if r2 = 0 then some (a3, s1) else ckb (inb a3 (capC (o2 + 18))) (ckb (inb a3 10) (lt (20 + a3.toNatClampNeg) (fun p3 => bnd (f_X2_back p3 (s1 1 2) s1) (fun r5 s4 => if (rd (s1 (o2 + 18)) a3) = r5 then lt (a3 + (1 : Int32)) (fun v6 => rec45 o2 v6 s4) else some (a3, s4))))))
def f_X9_judge_45  : Nat → Nat → Int32 → Sg → Option (Int32 × Sg)
  | 0 => fun _ _ _ => none
  | n + 1 => f_X9_judge_45_b   (f_X9_judge_45   n)
def f_X9_judge (a1 : Int32) (σ : Sg) : Option (Int32 × Sg) :=
  bnd (f_X9_isIn a1 (0 : Int32) (3 : Int32) σ) (fun r8 s7 => if r8 = 0 then bnd (f_X9_error (1 : Int32) s7) (fun r16 s15 => some (r16, s15)) else ckb (inb a1 4) (lt (10 + a1.toNatClampNeg) (fun p9 => bnd (f_X7_isMissing p9 s7) (fun r11 s10 => if r11 = 0 then ckb (inb a1 4) (lt (10 + a1.toNatClampNeg) (fun p12 => f_X9_judge_45 fuN (p12 + 48) (0 : Int32) s10)) else bnd (f_X9_error (2 : Int32) s10) (fun r14 s13 => some (r14, s13))))))
def f_X9_law (a1 : Int32) (a2 : Int32) (a3 : Int32) (a4 : Int32) (σ : Sg) : Option (Int32 × Sg) :=
  bnd (f_X9_isIn a1 (0 : Int32) (1 : Int32) σ) (fun r2 s1 => if r2 = 0 then bnd (f_X9_error (1 : Int32) s1) (fun r4 s3 => some (r4, s3)) else bnd (f_X0_lawGives a1 a2 a3 a4 s1) (fun r6 s5 => some (r6, s5)))
def f_X9_lineIs (a1 : Int32) (a2 : Int32) (σ : Sg) : Option (Int32 × Sg) :=
  bnd (f_X0_hasLine a1 σ) (fun r2 s1 => if r2 = 0 then bnd (f_X9_error (1 : Int32) s1) (fun r23 s22 => some (r23, s22)) else ckb (inb a1 10) (lt (20 + a1.toNatClampNeg) (fun p3 => if a2 = (0 : Int32) then some ((s1 p3 0), s1) else if a2 = (1 : Int32) then some ((s1 p3 1), s1) else if a2 = (2 : Int32) then some ((s1 p3 2), s1) else if a2 = (3 : Int32) then some ((s1 p3 3), s1) else if a2 = (4 : Int32) then some ((s1 p3 4), s1) else if a2 = (5 : Int32) then some ((s1 p3 5), s1) else if a2 = (6 : Int32) then if (s1 p3 6) = 0 then some ((0 : Int32), s1) else some ((1 : Int32), s1) else if a2 = (7 : Int32) then bnd (f_X0_mayGo a1 (s1 1 2) s1) (fun r13 s12 => if r13 = 0 then some ((0 : Int32), s12) else some ((1 : Int32), s12)) else if a2 = (8 : Int32) then bnd (f_X2_back p3 (s1 1 2) s1) (fun r16 s15 => some (r16, s15)) else if a2 = (9 : Int32) then bnd (f_X0_lossOf a1 (s1 1 2) s1) (fun r19 s18 => some (r19, s18)) else bnd (f_X9_error (1 : Int32) s1) (fun r21 s20 => some (r21, s20)))))
def f_X9_loose_41_b  (rec41 : Int32 → Int32 → Int32 → Sg → Option (Int32 × Sg)) (a1 : Int32) (a2 : Int32) (a3 : Int32) (σ : Sg) : Option (Int32 × Sg) :=
  if a1 ≤ a3 then some (a2, σ) else bnd (f_X0_passDayByDraws σ) (fun r2 s1 => lt ((a2 + r2)) (fun v3 => lt (a3 + (1 : Int32)) (fun v4 => rec41 a1 v3 v4 s1)))
def f_X9_loose_41  : Nat → Int32 → Int32 → Int32 → Sg → Option (Int32 × Sg)
  | 0 => fun _ _ _ _ => none
  | n + 1 => f_X9_loose_41_b   (f_X9_loose_41   n)
def f_X9_loose (a1 : Int32) (σ : Sg) : Option (Int32 × Sg) :=
  bnd (f_X9_isIn a1 (1 : Int32) (30 : Int32) σ) (fun r6 s5 => if r6 = 0 then bnd (f_X9_error (1 : Int32) s5) (fun r10 s9 => some (r10, s9)) else if ((s5 1 2) + a1) ≤ (9999 : Int32) then f_X9_loose_41 fuN a1 (0 : Int32) (0 : Int32) s5 else bnd (f_X9_error (3 : Int32) s5) (fun r8 s7 => some (r8, s7)))
def f_X9_move (a1 : Int32) (a2 : Int32) (a3 : Int32) (a4 : Int32) (a5 : Int32) (σ : Sg) : Option (Int32 × Sg) :=
  bnd (f_X9_isIn a1 (0 : Int32) (3 : Int32) σ) (fun r2 s1 => if r2 = 0 then bnd (f_X9_error (1 : Int32) s1) (fun r4 s3 => some (r4, s3)) else bnd (f_X9_isIn a3 (0 : Int32) (3 : Int32) s1) (fun r6 s5 => if r6 = 0 then bnd (f_X9_error (1 : Int32) s5) (fun r29 s28 => some (r29, s28)) else ckb (inb a1 4) (lt (10 + a1.toNatClampNeg) (fun p7 => ckb (inb a3 4) (lt (10 + a3.toNatClampNeg) (fun p8 => bnd (f_X7_isMissing p7 s5) (fun r10 s9 => if r10 = 0 then bnd (f_X7_isMissing p8 s9) (fun r14 s13 => if r14 = 0 then if (s13 p7 1) = (s13 p8 1) then bnd (f_X6_stands (p7 + 48) a2 a5 s13) (fun r16 s15 => if r16 = 0 then bnd (f_X9_error (1 : Int32) s15) (fun r18 s17 => some (r18, s17)) else bnd (f_X6_stands (p8 + 48) a4 a5 s15) (fun r20 s19 => if r20 = 0 then bnd (f_X9_error (1 : Int32) s19) (fun r23 s22 => some (r23, s22)) else ckb (acOk a2 a4 a5 (capC ((p7 + 48) + 18)) (capC ((p8 + 48) + 18))) (lt (upR s19 ((p8 + 48) + 18) (va_cpy (s19 ((p7 + 48) + 18)) (s19 ((p8 + 48) + 18)) a2.toNatClampNeg a4.toNatClampNeg a5.toNatClampNeg)) (fun s21 => some (a5, s21))))) else bnd (f_X9_error (5 : Int32) s13) (fun r25 s24 => some (r25, s24)) else bnd (f_X9_error (2 : Int32) s13) (fun r27 s26 => some (r27, s26))) else bnd (f_X9_error (2 : Int32) s9) (fun r12 s11 => some (r12, s11)))))))))
def f_X9_sharedDivisor_9_b  (rec9 : Int64 → Int64 → Int32 → Sg → Option (Int64 × Sg)) (a4 : Int64) (a6 : Int64) (a8 : Int32) (σ : Sg) : Option (Int64 × Sg) :=
  if (1000 : Int32) ≤ a8 then some (a4, σ) else if (lg_cmp a6 (0 : Int64)) = 0 then some (a4, σ) else ckb (nzl a6) (lt ((lrm a4 a6)) (fun v2 => lt (a8 + (1 : Int32)) (fun v3 => rec9 a6 v2 v3 σ)))
def f_X9_sharedDivisor_9  : Nat → Int64 → Int64 → Int32 → Sg → Option (Int64 × Sg)
  | 0 => fun _ _ _ _ => none
  | n + 1 => f_X9_sharedDivisor_9_b   (f_X9_sharedDivisor_9   n)
def f_X9_sharedDivisor (a0 : Int64) (a2 : Int64) (σ : Sg) : Option (Int64 × Sg) :=
  f_X9_sharedDivisor_9 fuN a0 a2 (0 : Int32) σ
def f_X9_odds_48_b  (rec48 : Int32 → Int32 → Int64 → Int64 → Int32 → Sg → Option (Int64 × Sg)) (a1 : Int32) (a2 : Int32) (a3 : Int64) (a5 : Int64) (a7 : Int32) (σ : Sg) : Option (Int64 × Sg) :=
  if (σ 1 1) ≤ a7 then bnd (f_X9_sharedDivisor a3 a5 σ) (fun r2 s1 => if (lg_cmp r2 (0 : Int64)) = 0 then if a2 = 0 then some ((a3 / (1 : Int64)), s1) else some ((a5 / (1 : Int64)), s1) else if a2 = 0 then ckb (nzl r2) (some ((a3 / r2), s1)) else ckb (nzl r2) (some ((a5 / r2), s1))) else bnd (f_X9_isOf a7 a1 σ) (fun r6 s5 => if r6 = 0 then lt (a7 + (1 : Int32)) (fun v7 => rec48 a1 a2 a3 a5 v7 s5) else ckb (inb a7 10) (lt (20 + a7.toNatClampNeg) (fun p8 => bnd (f_X2_back p8 (s5 1 2) s5) (fun r10 s9 => lt ((a3 * (((100 : Int32) - r10).toInt64))) (fun v11 => lt ((a5 * (100 : Int64))) (fun v12 => lt (a7 + (1 : Int32)) (fun v13 => rec48 a1 a2 v11 v12 v13 s9)))))))
def f_X9_odds_48  : Nat → Int32 → Int32 → Int64 → Int64 → Int32 → Sg → Option (Int64 × Sg)
  | 0 => fun _ _ _ _ _ _ => none
  | n + 1 => f_X9_odds_48_b   (f_X9_odds_48   n)
def f_X9_odds (a1 : Int32) (a2 : Int32) (σ : Sg) : Option (Int64 × Sg) :=
  if a1 < 0 then bnd (f_X9_error (1 : Int32) σ) (fun r15 s14 => some (r15.toInt64, s14)) else if (shr a1 (σ 1 1)) = 0 then bnd (f_J6_bitCount_0f7a4 a1 σ) (fun r19 s18 => if (4 : Int32) < r19 then bnd (f_X9_error (1 : Int32) s18) (fun r21 s20 => some (r21.toInt64, s20)) else bnd (f_X9_isIn a2 (0 : Int32) (1 : Int32) s18) (fun r23 s22 => if r23 = 0 then bnd (f_X9_error (1 : Int32) s22) (fun r25 s24 => some (r25.toInt64, s24)) else f_X9_odds_48 fuN a1 a2 (1 : Int64) (1 : Int64) (0 : Int32) s22)) else bnd (f_X9_error (1 : Int32) σ) (fun r17 s16 => some (r17.toInt64, s16))
def f_X9_of (a1 : Int32) (σ : Sg) : Option (Int32 × Sg) :=
  bnd (f_X9_isIn a1 (0 : Int32) (5 : Int32) σ) (fun r2 s1 => if r2 = 0 then bnd (f_X9_error (1 : Int32) s1) (fun r4 s3 => some (r4, s3)) else bnd (f_X0_columnsOf a1 s1) (fun r6 s5 => bnd (f_J6_bitCount_0f7a4 r6 s5) (fun r8 s7 => some (r8, s7))))
def f_X9_parts_49_b  (rec49 : Nat → Int32 → Sg → Option (Int32 × Sg)) (o2 : Nat) (a3 : Int32) (σ : Sg) : Option (Int32 × Sg) :=
  if (σ (o2 + 48) 1) ≤ a3 then bnd (f_X0_taken σ) (fun r2 s1 => bnd (f_X3_most (o2 + 48) r2 s1) (fun r4 s3 => some (r4, s3))) else ckb (inb a3 (capC ((o2 + 48) + 18))) (bnd (f_X9_isIn (rd (σ ((o2 + 48) + 18)) a3) (1 : Int32) (12 : Int32) σ) (fun r6 s5 => if r6 = 0 then bnd (f_X9_error (3 : Int32) s5) (fun r9 s8 => some (r9, s8)) else lt (a3 + (1 : Int32)) (fun v7 => rec49 o2 v7 s5)))
def f_X9_parts_49  : Nat → Nat → Int32 → Sg → Option (Int32 × Sg)
  | 0 => fun _ _ _ => none
  | n + 1 => f_X9_parts_49_b   (f_X9_parts_49   n)
def f_X9_parts (a1 : Int32) (σ : Sg) : Option (Int32 × Sg) :=
  bnd (f_X9_isIn a1 (0 : Int32) (3 : Int32) σ) (fun r11 s10 => if r11 = 0 then bnd (f_X9_error (1 : Int32) s10) (fun r20 s19 => some (r20, s19)) else ckb (inb a1 4) (lt (10 + a1.toNatClampNeg) (fun p12 => bnd (f_X7_isMissing p12 s10) (fun r14 s13 => if r14 = 0 then if (s13 (p12 + 48) 1) ≤ (6 : Int32) then f_X9_parts_49 fuN p12 (0 : Int32) s13 else bnd (f_X9_error (2 : Int32) s13) (fun r18 s17 => some (r18, s17)) else bnd (f_X9_error (2 : Int32) s13) (fun r16 s15 => some (r16, s15))))))
def f_X9_pen (a1 : Int32) (a2 : Int32) (σ : Sg) : Option (Int32 × Sg) :=
  bnd (f_X9_isIn a1 (0 : Int32) (4 : Int32) σ) (fun r2 s1 => if r2 = 0 then bnd (f_X9_error (1 : Int32) s1) (fun r4 s3 => some (r4, s3)) else bnd (f_X9_isIn a2 (0 : Int32) (99 : Int32) s1) (fun r6 s5 => if r6 = 0 then bnd (f_X9_error (1 : Int32) s5) (fun r10 s9 => some (r10, s9)) else ckb (inb a1 5) (lt ((rd (s5 16) a1)) (fun v7 => ckb (inb a1 5) (lt (up s5 16 a1.toNatClampNeg a2) (fun s8 => some (v7, s8)))))))
def f_X9_photo (a1 : Int32) (a2 : Int32) (σ : Sg) : Option (Int32 × Sg) :=
  bnd (f_X0_hasLine a1 σ) (fun r2 s1 => if r2 = 0 then bnd (f_X9_error (1 : Int32) s1) (fun r4 s3 => some (r4, s3)) else bnd (f_X9_isIn a2 (0 : Int32) (1 : Int32) s1) (fun r6 s5 => if r6 = 0 then bnd (f_X9_error (1 : Int32) s5) (fun r12 s11 => some (r12, s11)) else ckb (inb a1 10) (lt (20 + a1.toNatClampNeg) (fun p7 => lt ((s5 p7 5)) (fun v8 => ckb (inb a1 10) (lt (20 + a1.toNatClampNeg) (fun p9 => lt (up s5 p9 5 a2) (fun s10 => some (v8, s10)))))))))
def f_X9_put (a1 : Int32) (a2 : Int32) (a3 : Int32) (σ : Sg) : Option (Int32 × Sg) :=
  bnd (f_X9_isIn a1 (0 : Int32) (3 : Int32) σ) (fun r2 s1 => if r2 = 0 then bnd (f_X9_error (1 : Int32) s1) (fun r19 s18 => some (r19, s18)) else ckb (inb a1 4) (lt (10 + a1.toNatClampNeg) (fun p3 => bnd (f_X7_isMissing p3 s1) (fun r5 s4 => if r5 = 0 then ckb (inb a1 4) (lt (10 + a1.toNatClampNeg) (fun p6 => bnd (f_X9_isIn a2 (0 : Int32) ((s4 (p6 + 48) 1) - (1 : Int32)) s4) (fun r8 s7 => if r8 = 0 then bnd (f_X9_error (1 : Int32) s7) (fun r15 s14 => some (r15, s14)) else ckb (inb a1 4) (lt (10 + a1.toNatClampNeg) (fun p9 => ckb (inb a1 4) (lt (10 + a1.toNatClampNeg) (fun p10 => bnd (f_X7_lowestBits p10 a3 s7) (fun r12 s11 => ckb (inb a2 (capC ((p9 + 48) + 18))) (lt (up s11 ((p9 + 48) + 18) a2.toNatClampNeg r12) (fun s13 => some ((1 : Int32), s13))))))))))) else bnd (f_X9_error (2 : Int32) s4) (fun r17 s16 => some (r17, s16))))))
def f_X9_restore  (σ : Sg) : Option (Int32 × Sg) :=
  if (σ 0 2) = 0 then bnd (f_X9_error (2 : Int32) σ) (fun r4 s3 => some (r4, s3)) else bnd (f_X0_copyFrom 1 2 σ) (fun _ s1 => some ((s1 1 2), s1))
def f_X9_room (a1 : Int32) (a2 : Int32) (σ : Sg) : Option (Int32 × Sg) :=
  bnd (f_X9_isIn a1 (1 : Int32) (12 : Int32) σ) (fun r2 s1 => if r2 = 0 then bnd (f_X9_error (1 : Int32) s1) (fun r4 s3 => some (r4, s3)) else bnd (f_X9_isIn a2 (0 : Int32) (3 : Int32) s1) (fun r6 s5 => if r6 = 0 then bnd (f_X9_error (1 : Int32) s5) (fun r19 s18 => some (r19, s18)) else bnd (f_X5_seek a1 (s5 1 2) s5) (fun r8 s7 => if r8 = 0 then bnd (f_X9_error (2 : Int32) s7) (fun r17 s16 => some (r17, s16)) else if a2 = (0 : Int32) then some ((s7 4 0), s7) else if a2 = (1 : Int32) then some ((s7 4 1), s7) else if a2 = (2 : Int32) then some ((s7 4 2), s7) else bnd (f_J6_bitCount_0f7a4 (s7 4 2) s7) (fun r13 s12 => bnd (f_X0_lawGives (1 : Int32) a1 (irm (s7 1 2) (7 : Int32)) r13 s12) (fun r15 s14 => some (r15, s14))))))
def f_X9_seed (a1 : Int32) (σ : Sg) : Option (Int32 × Sg) :=
  lt ((σ 1 6)) (fun v1 => lt (up σ 1 6 a1) (fun s2 => some (v1, s2)))
def f_X9_sheet_67  (a1 : Int32) (a2 : Int32) (a3 : Int32) (σ : Sg) : Option (Int32 × Sg) :=
  ckb (inb a1 4) (lt (10 + a1.toNatClampNeg) (fun p1 => if a2 = 0 then bnd (f_X7_begin p1 a2 (0 : Int32) σ) (fun _ s4 => some ((1 : Int32), s4)) else bnd (f_X7_begin p1 a2 a3 σ) (fun _ s2 => some ((1 : Int32), s2))))
def f_X9_sheet_51  (a1 : Int32) (a2 : Int32) (a3 : Int32) (σ : Sg) : Option (Int32 × Sg) :=
  if a2 = 0 then f_X9_sheet_67 a1 a2 a3 σ else if a3 ≤ (24 : Int32) then f_X9_sheet_67 a1 a2 a3 σ else bnd (f_X9_error (1 : Int32) σ) (fun r7 s6 => some (r7, s6))
def f_X9_sheet_37  (a1 : Int32) (a2 : Int32) (a3 : Int32) (σ : Sg) : Option (Int32 × Sg) :=
  if a2 = 0 then f_X9_sheet_51 a1 a2 a3 σ else if 0 ≤ a3 then f_X9_sheet_51 a1 a2 a3 σ else bnd (f_X9_error (3 : Int32) σ) (fun r9 s8 => some (r9, s8))
def f_X9_sheet (a1 : Int32) (a2 : Int32) (a3 : Int32) (σ : Sg) : Option (Int32 × Sg) :=
  bnd (f_X9_isIn a1 (0 : Int32) (3 : Int32) σ) (fun r11 s10 => if r11 = 0 then bnd (f_X9_error (1 : Int32) s10) (fun r13 s12 => some (r13, s12)) else if a2 = 0 then f_X9_sheet_37 a1 a2 a3 s10 else if a2 = (8 : Int32) then f_X9_sheet_37 a1 a2 a3 s10 else if a2 = (16 : Int32) then f_X9_sheet_37 a1 a2 a3 s10 else if a2 = (32 : Int32) then f_X9_sheet_37 a1 a2 a3 s10 else bnd (f_X9_error (1 : Int32) s10) (fun r15 s14 => some (r15, s14)))
def f_X9_spirit (a1 : Int32) (σ : Sg) : Option (Int32 × Sg) :=
  bnd (f_X9_isIn a1 (0 : Int32) (1 : Int32) σ) (fun r2 s1 => if r2 = 0 then bnd (f_X9_error (1 : Int32) s1) (fun r6 s5 => some (r6, s5)) else lt ((s1 1 3)) (fun v3 => lt (up s1 1 3 a1) (fun s4 => some (v3, s4))))
def f_X9_tell (a1 : Int32) (σ : Sg) : Option (Int32 × Sg) :=
  bnd (f_X6_hasRoomFor 46 (1 : Int32) σ) (fun r2 s1 => if r2 = 0 then bnd (f_X9_error (4 : Int32) s1) (fun r6 s5 => some (r6, s5)) else bnd (f_X6_add 46 a1 s1) (fun _ s3 => some ((s3 46 1), s3)))
def f_X9_text (a1 : Int32) (σ : Sg) : Option (Int32 × Sg) :=
  bnd (f_X9_isIn a1 (0 : Int32) (1 : Int32) σ) (fun r2 s1 => if r2 = 0 then bnd (f_X9_error (1 : Int32) s1) (fun r11 s10 => some (r11, s10)) else bnd (f_X4_reads a1 s1) (fun r4 s3 => bnd (f_X6_clear 44 s3) (fun _ s5 => if r4 = 0 then some (((-10 : Int32) - (s5 3 3)), s5) else ckb (inb a1 2) (lt (40 + a1.toNatClampNeg) (fun p7 => bnd (f_X1_take p7 56 s5) (fun _ s8 => some ((1 : Int32), s8)))))))
def f_X9_told (a1 : Int32) (σ : Sg) : Option (Int32 × Sg) :=
  bnd (f_X9_isIn a1 (1 : Int32) (6 : Int32) σ) (fun r2 s1 => if r2 = 0 then bnd (f_X9_error (1 : Int32) s1) (fun r4 s3 => some (r4, s3)) else ckb (inb a1 7) (some ((rd (s1 8) a1), s1)))
def f_X9_untell (a1 : Int32) (σ : Sg) : Option (Int32 × Sg) :=
  bnd (f_X9_isIn a1 (0 : Int32) (1 : Int32) σ) (fun r2 s1 => if r2 = 0 then bnd (f_X9_error (1 : Int32) s1) (fun r8 s7 => some (r8, s7)) else ckb (inb a1 2) (lt (40 + a1.toNatClampNeg) (fun p3 => lt ((s1 p3 0)) (fun v4 => ckb (inb a1 2) (lt (40 + a1.toNatClampNeg) (fun p5 => lt (up s1 p5 0 (0 : Int32)) (fun s6 => if v4 = 0 then some ((0 : Int32), s6) else some ((1 : Int32), s6))))))))
def f_X9_voice (a1 : Int32) (a2 : Int32) (a3 : Int32) (σ : Sg) : Option (Int32 × Sg) :=
  bnd (f_X0_hasLine a1 σ) (fun r2 s1 => if r2 = 0 then bnd (f_X9_error (1 : Int32) s1) (fun r4 s3 => some (r4, s3)) else bnd (f_X9_isIn a2 (0 : Int32) (3 : Int32) s1) (fun r6 s5 => if r6 = 0 then bnd (f_X9_error (1 : Int32) s5) (fun r13 s12 => some (r13, s12)) else ckb (inb a1 10) (lt (20 + a1.toNatClampNeg) (fun p7 => bnd (f_X8_say p7 a1 a2 a3 s5) (fun r9 s8 => if (s8 6 1) = 0 then some (r9, s8) else bnd (f_X9_error (6 : Int32) s8) (fun r11 s10 => some (r11, s10)))))))
def f_X9_when (a1 : Int32) (a2 : Int32) (σ : Sg) : Option (Int32 × Sg) :=
  bnd (f_X9_isIn a1 (1 : Int32) (12 : Int32) σ) (fun r2 s1 => if r2 = 0 then bnd (f_X9_error (1 : Int32) s1) (fun r4 s3 => some (r4, s3)) else bnd (f_X9_isIn a2 (0 : Int32) (1 : Int32) s1) (fun r6 s5 => if r6 = 0 then bnd (f_X9_error (1 : Int32) s5) (fun r16 s15 => some (r16, s15)) else bnd (f_X5_firstBehind a1 s5) (fun r8 s7 => if (90 : Int32) < r8 then bnd (f_X9_error (2 : Int32) s7) (fun r10 s9 => some (r10, s9)) else bnd (f_X5_seek a1 ((s7 1 2) + r8) s7) (fun r12 s11 => if r12 = 0 then bnd (f_X9_error (2 : Int32) s11) (fun r14 s13 => some (r14, s13)) else if a2 = 0 then some (r8, s11) else some ((s11 4 1), s11)))))
def f_X9_wipe (a1 : Int32) (σ : Sg) : Option (Int32 × Sg) :=
  bnd (f_X0_hasLine a1 σ) (fun r2 s1 => if r2 = 0 then bnd (f_X9_error (1 : Int32) s1) (fun r10 s9 => some (r10, s9)) else bnd (f_X0_mayGo a1 (s1 1 2) s1) (fun r4 s3 => if r4 = 0 then bnd (f_X9_error (3 : Int32) s3) (fun r6 s5 => some (r6, s5)) else bnd (f_X0_wipeLine a1 s3) (fun r8 s7 => some (r8, s7))))
def f_X9_write (a1 : Int32) (a2 : Int32) (a3 : Int32) (a4 : Int32) (σ : Sg) : Option (Int32 × Sg) :=
  lt ((a2 / (100 : Int32))) (fun v1 => lt ((irm a2 (100 : Int32))) (fun v2 => bnd (f_X9_isKm a1 σ) (fun r4 s3 => if r4 = 0 then bnd (f_X9_error (1 : Int32) s3) (fun r6 s5 => some (r6, s5)) else bnd (f_X9_isIn v1 (0 : Int32) (11 : Int32) s3) (fun r8 s7 => if r8 = 0 then bnd (f_X9_error (1 : Int32) s7) (fun r10 s9 => some (r10, s9)) else bnd (f_X9_isIn v2 (1 : Int32) ((12 : Int32) - v1) s7) (fun r12 s11 => if r12 = 0 then bnd (f_X9_error (1 : Int32) s11) (fun r35 s34 => some (r35, s34)) else bnd (f_X9_isIn a3 (0 : Int32) (5 : Int32) s11) (fun r14 s13 => if r14 = 0 then bnd (f_X9_error (1 : Int32) s13) (fun r16 s15 => some (r16, s15)) else bnd (f_X9_isIn a4 (0 : Int32) (4 : Int32) s13) (fun r18 s17 => if r18 = 0 then bnd (f_X9_error (1 : Int32) s17) (fun r33 s32 => some (r33, s32)) else if (s17 1 1) < (10 : Int32) then bnd (f_X9_columnsFrom v1 v2 s17) (fun r20 s19 => bnd (f_X0_taken s19) (fun r22 s21 => if (r22 &&& r20) = 0 then ckb (inb a4 5) (if v2 ≤ (rd (s21 16) a4) then ckb (inb a4 5) (ckb (inb a4 5) (lt (up s21 16 a4.toNatClampNeg ((rd (s21 16) a4) - v2)) (fun s25 => bnd (f_X0_addLine (a1 / (10 : Int32)) (irm a1 (10 : Int32)) r20 a3 s25) (fun r27 s26 => some (r27, s26))))) else bnd (f_X9_error (3 : Int32) s21) (fun r29 s28 => some (r29, s28))) else bnd (f_X9_error (3 : Int32) s21) (fun r24 s23 => some (r24, s23)))) else bnd (f_X9_error (4 : Int32) s17) (fun r31 s30 => some (r31, s30)))))))))
end
