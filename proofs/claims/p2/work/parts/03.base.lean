theorem i_le {a b : Int32} : a ≤ b ↔ a.toInt ≤ b.toInt := Int32.le_iff_toInt_le
theorem i_lt {a b : Int32} : a < b ↔ a.toInt < b.toInt := Int32.lt_iff_toInt_lt
theorem i_eq {a b : Int32} : a = b ↔ a.toInt = b.toInt := Int32.toInt_inj.symm
theorem i_lo (a : Int32) : -2147483648 ≤ a.toInt := Int32.le_toInt a
theorem i_hi (a : Int32) : a.toInt < 2147483648 := Int32.toInt_lt a
theorem bm {x : Int} (h1 : -2147483648 ≤ x) (h2 : x < 2147483648) : x.bmod (2 ^ 32) = x := by
  apply Int.bmod_eq_of_le <;> omega
theorem i_add {a b : Int32} (h1 : -2147483648 ≤ a.toInt + b.toInt) (h2 : a.toInt + b.toInt < 2147483648) : (a + b).toInt = a.toInt + b.toInt := by
  rw [Int32.toInt_add, bm h1 h2]
theorem i_sub {a b : Int32} (h1 : -2147483648 ≤ a.toInt - b.toInt) (h2 : a.toInt - b.toInt < 2147483648) : (a - b).toInt = a.toInt - b.toInt := by
  rw [Int32.toInt_sub, bm h1 h2]
theorem i_mul {a b : Int32} (h1 : -2147483648 ≤ a.toInt * b.toInt) (h2 : a.toInt * b.toInt < 2147483648) : (a * b).toInt = a.toInt * b.toInt := by
  rw [Int32.toInt_mul, bm h1 h2]
theorem i_nI {n : Nat} (h : n < 2147483648) : (nI n).toInt = (n : Int) := nI_toInt h
theorem i_cl {a : Int32} : a.toNatClampNeg = a.toInt.toNat := rfl
theorem i_ofNat {n : Nat} (h : n < 2147483648) : (Int32.ofNat n).toInt = (n : Int) := nI_toInt h
theorem inb_iff {i : Int32} {n : Nat} : inb i n = true ↔ 0 ≤ i.toInt ∧ i.toInt < (n : Int) := by
  simp [inb]
theorem ckb_t {β : Type} {b : Bool} {x : Option β} (h : b = true) : ckb b x = x := by unfold ckb; rw [if_pos h]
theorem ckb_in {β : Type} {i : Int32} {n : Nat} {x : Option β} (h1 : 0 ≤ i.toInt) (h2 : i.toInt < (n : Int)) : ckb (inb i n) x = x := ckb_t (inb_iff.mpr ⟨h1, h2⟩)
theorem bnd_s {ρ β : Type} {r : ρ} {s : Sg} {f : ρ → Sg → Option β} : bnd (some (r, s)) f = f r s := rfl
theorem lt_a {α β : Type} {v : α} {f : α → Option β} : lt v f = f v := rfl
theorem up_s {σ : Sg} {k i : Nat} {v : Int32} : up σ k i v k i = v := by simp [up, upd]
theorem up_k {σ : Sg} {k i : Nat} {v : Int32} {k' i' : Nat} (h : k' ≠ k) : up σ k i v k' i' = σ k' i' := by simp [up, h]
theorem up_i {σ : Sg} {k i : Nat} {v : Int32} {i' : Nat} (h : i' ≠ i) : up σ k i v k i' = σ k i' := by simp [up, upd, h]
theorem up_a {σ : Sg} {k i : Nat} {v : Int32} {k' i' : Nat} : up σ k i v k' i' = if k' = k ∧ i' = i then v else σ k' i' := by
  unfold up upd
  by_cases h : k' = k
  · subst h
    by_cases h2 : i' = i <;> simp [h2]
  · simp [h]
theorem up_row {σ : Sg} {k i : Nat} {v : Int32} {k' : Nat} (h : k' ≠ k) : up σ k i v k' = σ k' := by simp [up, h]
/-! small methods -/
theorem x_isIn (v a b : Int32) (σ : Sg) : f_X9_isIn v a b σ = some (if a ≤ v ∧ v ≤ b then 1 else 0, σ) := by
  unfold f_X9_isIn
  simp only [i_le, i_lt]
  repeat' split
  all_goals first | rfl | (exfalso; omega)
theorem m_in (v a b : Int32) (σ : Sg) : f_X10_in v a b σ = some (if a ≤ v ∧ v ≤ b then 1 else 0, σ) := by
  unfold f_X10_in
  simp only [i_le, i_lt]
  repeat' split
  all_goals first | rfl | (exfalso; omega)
