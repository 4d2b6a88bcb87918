theorem i_le {a b : Int32} : a ≤ b ↔ a.toInt ≤ b.toInt := Int32.le_iff_toInt_le
theorem i_lt {a b : Int32} : a < b ↔ a.toInt < b.toInt := Int32.lt_iff_toInt_lt
theorem i_eq {a b : Int32} : a = b ↔ a.toInt = b.toInt := Int32.toInt_inj.symm
theorem i_lo (a : Int32) : -2147483648 ≤ a.toInt := Int32.le_toInt a
theorem i_hi (a : Int32) : a.toInt < 2147483648 := Int32.toInt_lt a
theorem bm {x : Int} (h1 : -2147483648 ≤ x) (h2 : x < 2147483648) : x.bmod (2 ^ 32) = x := by
  apply Int.bmod_eq_of_le <;> omega
theorem i_add {a b : Int32} (h1 : -2147483648 ≤ a.toInt + b.toInt) (h2 : a.toInt + b.toInt < 2147483648) : (a + b).toInt = a.toInt + b.toInt := by
  rw [Int32.toInt_add, bm h1 h2]
theorem i_sub {a b : Int32} (h1 : -2147483648 ≤ a.toInt - b.toInt) (h2 : a.toInt - b.toInt < 2147483648) : (a - b).toInt = a.toInt - b.toInt := by
  rw [Int32.toInt_sub, bm h1 h2]
theorem i_mul {a b : Int32} (h1 : -2147483648 ≤ a.toInt * b.toInt) (h2 : a.toInt * b.toInt < 2147483648) : (a * b).toInt = a.toInt * b.toInt := by
  rw [Int32.toInt_mul, bm h1 h2]
theorem i_nI {n : Nat} (h : n < 2147483648) : (nI n).toInt = (n : Int) := nI_toInt h
theorem i_cl {a : Int32} : a.toNatClampNeg = a.toInt.toNat := rfl
theorem i_ofNat {n : Nat} (h : n < 2147483648) : (Int32.ofNat n).toInt = (n : Int) := nI_toInt h
theorem inb_iff {i : Int32} {n : Nat} : inb i n = true ↔ 0 ≤ i.toInt ∧ i.toInt < (n : Int) := by
  simp [inb]
theorem ckb_t {β : Type} {b : Bool} {x : Option β} (h : b = true) : ckb b x = x := by unfold ckb; rw [if_pos h]
theorem ckb_in {β : Type} {i : Int32} {n : Nat} {x : Option β} (h1 : 0 ≤ i.toInt) (h2 : i.toInt < (n : Int)) : ckb (inb i n) x = x := ckb_t (inb_iff.mpr ⟨h1, h2⟩)
theorem bnd_s {ρ β : Type} {r : ρ} {s : Sg} {f : ρ → Sg → Option β} : bnd (some (r, s)) f = f r s := Eq.symm (Eq.symm (by unfold bnd; exact rfl))
theorem lt_a {α β : Type} {v : α} {f : α → Option β} : lt v f = f v := rfl
theorem up_s {σ : Sg} {k i : Nat} {v : Int32} : up σ k i v k i = v := by simp [up, upd]
theorem up_k {σ : Sg} {k i : Nat} {v : Int32} {k' i' : Nat} (h : k' ≠ k) : up σ k i v k' i' = σ k' i' := by simp [up, h]
theorem up_i {σ : Sg} {k i : Nat} {v : Int32} {i' : Nat} (h : i' ≠ i) : up σ k i v k i' = σ k i' := by simp [up, upd, h]
theorem up_a {σ : Sg} {k i : Nat} {v : Int32} {k' i' : Nat} : up σ k i v k' i' = if k' = k ∧ i' = i then v else σ k' i' := by
  unfold up upd
  by_cases h : k' = k
  · subst h
    by_cases h2 : i' = i <;> simp [h2]
  · simp [h]
theorem up_row {σ : Sg} {k i : Nat} {v : Int32} {k' : Nat} (h : k' ≠ k) : up σ k i v k' = σ k' := by simp [up, h]
theorem upd_e {f : Nat → Int32} {k : Nat} {v : Int32} : upd f k v k = v := by simp [upd]
theorem upd_n {f : Nat → Int32} {k : Nat} {v : Int32} {j : Nat} (h : j ≠ k) : upd f k v j = f j := by simp [upd, h]
theorem up_rs {σ : Sg} {k i : Nat} {v : Int32} : up σ k i v k = upd (σ k) i v := by simp [up]
theorem if01 {α : Type} {c : Prop} [Decidable c] {A B : α} : (if (if c then (1 : Int32) else 0) = 0 then A else B) = if c then B else A := by
  by_cases h : c
  · rw [if_pos h, if_pos h, if_neg (by decide)]
  · rw [if_neg h, if_neg h, if_pos rfl]
theorem ckb_01 {β : Type} {c : Prop} [Decidable c] {x : Option β} : ckb (isb (if c then (1 : Int32) else 0)) x = x := by
  by_cases h : c
  · rw [if_pos h]; rfl
  · rw [if_neg h]; rfl
theorem nI_ofi {a : Int32} {n : Nat} (h0 : 0 ≤ a.toInt) (h1 : a.toInt < (n : Int)) : ∃ l : Nat, l < n ∧ a = nI l := by
  refine ⟨a.toInt.toNat, by omega, ?_⟩
  have := i_hi a
  rw [i_eq, i_nI (by omega)]
  omega
theorem tn_0 : (0 : Int32).toNatClampNeg = 0 := rfl
theorem ti_0 : (0 : Int32).toInt = 0 := rfl
theorem tn_1 : (1 : Int32).toNatClampNeg = 1 := rfl
theorem ti_1 : (1 : Int32).toInt = 1 := rfl
theorem tn_2 : (2 : Int32).toNatClampNeg = 2 := rfl
theorem ti_2 : (2 : Int32).toInt = 2 := rfl
theorem tn_3 : (3 : Int32).toNatClampNeg = 3 := rfl
theorem ti_3 : (3 : Int32).toInt = 3 := rfl
theorem tn_4 : (4 : Int32).toNatClampNeg = 4 := rfl
theorem ti_4 : (4 : Int32).toInt = 4 := rfl
theorem tn_5 : (5 : Int32).toNatClampNeg = 5 := rfl
theorem ti_5 : (5 : Int32).toInt = 5 := rfl
theorem tn_6 : (6 : Int32).toNatClampNeg = 6 := rfl
theorem ti_6 : (6 : Int32).toInt = 6 := rfl
theorem tn_7 : (7 : Int32).toNatClampNeg = 7 := rfl
theorem ti_7 : (7 : Int32).toInt = 7 := rfl
theorem tn_8 : (8 : Int32).toNatClampNeg = 8 := rfl
theorem ti_8 : (8 : Int32).toInt = 8 := rfl
theorem tn_9 : (9 : Int32).toNatClampNeg = 9 := rfl
theorem ti_9 : (9 : Int32).toInt = 9 := rfl
theorem tn_10 : (10 : Int32).toNatClampNeg = 10 := rfl
theorem ti_10 : (10 : Int32).toInt = 10 := rfl
theorem tn_11 : (11 : Int32).toNatClampNeg = 11 := rfl
theorem ti_11 : (11 : Int32).toInt = 11 := rfl
theorem tn_12 : (12 : Int32).toNatClampNeg = 12 := rfl
theorem ti_12 : (12 : Int32).toInt = 12 := rfl
theorem tn_13 : (13 : Int32).toNatClampNeg = 13 := rfl
theorem ti_13 : (13 : Int32).toInt = 13 := rfl
theorem tn_14 : (14 : Int32).toNatClampNeg = 14 := rfl
theorem ti_14 : (14 : Int32).toInt = 14 := rfl
theorem tn_15 : (15 : Int32).toNatClampNeg = 15 := rfl
theorem ti_15 : (15 : Int32).toInt = 15 := rfl
theorem tn_166 : (166 : Int32).toNatClampNeg = 166 := rfl
theorem ti_166 : (166 : Int32).toInt = 166 := rfl
theorem tn_167 : (167 : Int32).toNatClampNeg = 167 := rfl
theorem ti_167 : (167 : Int32).toInt = 167 := rfl
theorem tn_227 : (227 : Int32).toNatClampNeg = 227 := rfl
theorem ti_227 : (227 : Int32).toInt = 227 := rfl
theorem tn_61 : (61 : Int32).toNatClampNeg = 61 := rfl
theorem ti_61 : (61 : Int32).toInt = 61 := rfl
theorem rd_0 {f : Nat → Int32} : rd f (0 : Int32) = f 0 := rfl
theorem ck_0 {β : Type} {x : Option β} : ckb (inb (0 : Int32) 408) x = x := rfl
theorem rd_1 {f : Nat → Int32} : rd f (1 : Int32) = f 1 := rfl
theorem ck_1 {β : Type} {x : Option β} : ckb (inb (1 : Int32) 408) x = x := rfl
theorem rd_2 {f : Nat → Int32} : rd f (2 : Int32) = f 2 := rfl
theorem ck_2 {β : Type} {x : Option β} : ckb (inb (2 : Int32) 408) x = x := rfl
theorem rd_3 {f : Nat → Int32} : rd f (3 : Int32) = f 3 := rfl
theorem ck_3 {β : Type} {x : Option β} : ckb (inb (3 : Int32) 408) x = x := rfl
theorem rd_4 {f : Nat → Int32} : rd f (4 : Int32) = f 4 := rfl
theorem ck_4 {β : Type} {x : Option β} : ckb (inb (4 : Int32) 408) x = x := rfl
theorem rd_5 {f : Nat → Int32} : rd f (5 : Int32) = f 5 := rfl
theorem ck_5 {β : Type} {x : Option β} : ckb (inb (5 : Int32) 408) x = x := rfl
theorem rd_6 {f : Nat → Int32} : rd f (6 : Int32) = f 6 := rfl
theorem ck_6 {β : Type} {x : Option β} : ckb (inb (6 : Int32) 408) x = x := rfl
theorem rd_7 {f : Nat → Int32} : rd f (7 : Int32) = f 7 := rfl
theorem ck_7 {β : Type} {x : Option β} : ckb (inb (7 : Int32) 408) x = x := rfl
theorem rd_8 {f : Nat → Int32} : rd f (8 : Int32) = f 8 := rfl
theorem ck_8 {β : Type} {x : Option β} : ckb (inb (8 : Int32) 408) x = x := rfl
theorem rd_9 {f : Nat → Int32} : rd f (9 : Int32) = f 9 := rfl
theorem ck_9 {β : Type} {x : Option β} : ckb (inb (9 : Int32) 408) x = x := rfl
theorem rd_10 {f : Nat → Int32} : rd f (10 : Int32) = f 10 := rfl
theorem ck_10 {β : Type} {x : Option β} : ckb (inb (10 : Int32) 408) x = x := rfl
theorem rd_11 {f : Nat → Int32} : rd f (11 : Int32) = f 11 := rfl
theorem ck_11 {β : Type} {x : Option β} : ckb (inb (11 : Int32) 408) x = x := rfl
theorem rd_12 {f : Nat → Int32} : rd f (12 : Int32) = f 12 := rfl
theorem ck_12 {β : Type} {x : Option β} : ckb (inb (12 : Int32) 408) x = x := rfl
theorem rd_13 {f : Nat → Int32} : rd f (13 : Int32) = f 13 := rfl
theorem ck_13 {β : Type} {x : Option β} : ckb (inb (13 : Int32) 408) x = x := rfl
theorem rd_14 {f : Nat → Int32} : rd f (14 : Int32) = f 14 := rfl
theorem ck_14 {β : Type} {x : Option β} : ckb (inb (14 : Int32) 408) x = x := rfl
theorem rd_15 {f : Nat → Int32} : rd f (15 : Int32) = f 15 := rfl
theorem ck_15 {β : Type} {x : Option β} : ckb (inb (15 : Int32) 408) x = x := rfl
/-! small methods -/
theorem x_isIn (v a b : Int32) (σ : Sg) : f_X9_isIn v a b σ = some (if a ≤ v ∧ v ≤ b then 1 else 0, σ) := by
  unfold f_X9_isIn
  simp only [i_le, i_lt]
  repeat' split
  all_goals first | rfl | (exfalso; omega)
theorem m_in (v a b : Int32) (σ : Sg) : f_X10_in v a b σ = some (if a ≤ v ∧ v ≤ b then 1 else 0, σ) := by
  unfold f_X10_in
  simp only [i_le, i_lt]
  repeat' split
  all_goals first | rfl | (exfalso; omega)
theorem x_err1 (σ : Sg) : f_X9_error (1 : Int32) σ = some ((-1000000001 : Int32), up σ 8 1 (σ 8 1 + 1)) := rfl
theorem m_err1 (σ : Sg) : f_X10_error (-1000000001 : Int32) σ = some ((-1000000001 : Int32), up σ 4 1 (σ 4 1 + 1)) := rfl
theorem x_err2 (σ : Sg) : f_X9_error (2 : Int32) σ = some ((-1000000002 : Int32), up σ 8 2 (σ 8 2 + 1)) := rfl
theorem m_err2 (σ : Sg) : f_X10_error (-1000000002 : Int32) σ = some ((-1000000002 : Int32), up σ 4 2 (σ 4 2 + 1)) := rfl
theorem x_err3 (σ : Sg) : f_X9_error (3 : Int32) σ = some ((-1000000003 : Int32), up σ 8 3 (σ 8 3 + 1)) := rfl
theorem m_err3 (σ : Sg) : f_X10_error (-1000000003 : Int32) σ = some ((-1000000003 : Int32), up σ 4 3 (σ 4 3 + 1)) := rfl
theorem x_err4 (σ : Sg) : f_X9_error (4 : Int32) σ = some ((-1000000004 : Int32), up σ 8 4 (σ 8 4 + 1)) := rfl
theorem m_err4 (σ : Sg) : f_X10_error (-1000000004 : Int32) σ = some ((-1000000004 : Int32), up σ 4 4 (σ 4 4 + 1)) := rfl
theorem x_err5 (σ : Sg) : f_X9_error (5 : Int32) σ = some ((-1000000005 : Int32), up σ 8 5 (σ 8 5 + 1)) := rfl
theorem m_err5 (σ : Sg) : f_X10_error (-1000000005 : Int32) σ = some ((-1000000005 : Int32), up σ 4 5 (σ 4 5 + 1)) := rfl
theorem x_err6 (σ : Sg) : f_X9_error (6 : Int32) σ = some ((-1000000006 : Int32), up σ 8 6 (σ 8 6 + 1)) := rfl
theorem m_err6 (σ : Sg) : f_X10_error (-1000000006 : Int32) σ = some ((-1000000006 : Int32), up σ 4 6 (σ 4 6 + 1)) := rfl
