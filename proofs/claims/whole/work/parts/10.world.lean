/-! the two worlds: the system (80 objects) and the reference (14), by their numbers -/
abbrev oXp : Type := va_G × ClassId × ClassId × ClassId × ClassId × (Nat → Nat) × Nat × Nat × Nat
abbrev xa (x : oXp) : Nat → Nat := x.2.2.2.2.2.1
abbrev rfs (f : Nat → Option Nat) : (Nat → Int32) ⊕ (Nat → Int64) ⊕ (Nat → UInt32) ⊕ (Nat → UInt64) ⊕ (Nat → Option Nat) := .inr (.inr (.inr (.inr f)))
def EX (x : oXp) (k : Nat) (f : Nat → Int32) : va_E :=
  if 62 ≤ k then .inl (x.2.1, capC k, .inl f)
  else if 44 ≤ k then .inr (6, [.ref (xa x (k + 18)), .int (f 1)])
  else if 40 ≤ k then .inr (1, [.int (f 0), .ref (xa x (k + 8)), .ref (xa x (k + 12))])
  else if 20 ≤ k then .inr (2, [.int (f 0), .int (f 1), .int (f 2), .int (f 3), .int (f 4), .int (f 5), .int (f 6)])
  else if 18 ≤ k then .inl (x.2.2.2.1, 2, rfs fun j => some (xa x (2 * k + 4 + j)))
  else if 16 ≤ k then .inl (x.2.1, 5, .inl f)
  else if 14 ≤ k then .inl (x.2.2.1, 10, rfs fun j => some (xa x (10 * k - 120 + j)))
  else if 10 ≤ k then .inr (7, [.ref (xa x (k + 48)), .int (f 1)])
  else if 9 ≤ k then .inl (x.2.1, 64, .inl f)
  else if 8 ≤ k then .inl (x.2.1, 7, .inl f)
  else if 7 ≤ k then .inl (x.2.2.2.2.1, 4, rfs fun j => some (xa x (10 + j)))
  else if 6 ≤ k then .inr (8, [.ref (xa x 57), .int (f 1), .int (f 2), .int (f 3), .int (f 4)])
  else if 5 ≤ k then .inr (3, [.ref (xa x 9)])
  else if 4 ≤ k then .inr (5, [.int (f 0), .int (f 1), .int (f 2)])
  else if 3 ≤ k then .inr (4, [.ref (xa x 56), .ref (xa x (f 1).toNatClampNeg), .int (f 2), .int (f 3)])
  else if 1 ≤ k then .inr (0, [.ref (xa x (k + 13)), .int (f 1), .int (f 2), .int (f 3), .int (f 4), .ref (xa x (k + 15)), .int (f 6), .ref (xa x (k + 43)), .ref (xa x (k + 45)), .ref (xa x (k + 17))])
  else .inr (9, [.ref (xa x 1), .ref (xa x 2), .int (f 2), .ref (xa x 3), .ref (xa x 4), .ref (xa x 5), .ref (xa x 6), .ref (xa x 7), .ref (xa x 8)])
def lenM (k : Nat) : Nat := if k < 4 then 408 else if k < 5 then 7 else if k < 7 then 4 else if k < 8 then 96 else if k < 10 then 60 else if k < 11 then 3 else if k < 12 then 60 else if k < 13 then 12 else 30
def EM (x : oXp) (k : Nat) (f : Nat → Int32) : va_E :=
  if 1 ≤ k then .inl (x.2.1, lenM k, .inl f)
  else .inr (10, [.ref (xa x 1), .ref (xa x 2), .ref (xa x 3), .int (f 3), .ref (xa x 4), .ref (xa x 5), .ref (xa x 6), .ref (xa x 7), .ref (xa x 8), .ref (xa x 9), .ref (xa x 10), .ref (xa x 11), .int (f 12), .int (f 13), .int (f 14), .int (f 15), .int (f 16), .ref (xa x 12), .ref (xa x 13), .int (f 19), .int (f 20)])
abbrev oX (x : oXp) : oT := (x.1, [(x.2.1, .int), (x.2.2.1, .object "BoardKeep$Line"), (x.2.2.2.1, .object "BoardKeep$Law"), (x.2.2.2.2.1, .object "BoardKeep$Sheet")], 80, xa x, EX x, x.2.2.2.2.2.2)
abbrev oM (x : oXp) : oT := (x.1, [(x.2.1, .int), (x.2.2.1, .object "BoardKeep$Line"), (x.2.2.2.1, .object "BoardKeep$Law"), (x.2.2.2.2.1, .object "BoardKeep$Sheet")], 14, xa x, EM x, x.2.2.2.2.2.2)
theorem eX0 (x : oXp) {k : Nat} (h1 : 1 ≤ k) (h2 : k < 3) (f : Nat → Int32) : EX x k f = .inr (0, [.ref (xa x (k + 13)), .int (f 1), .int (f 2), .int (f 3), .int (f 4), .ref (xa x (k + 15)), .int (f 6), .ref (xa x (k + 43)), .ref (xa x (k + 45)), .ref (xa x (k + 17))]) := by
  have : k = 1 ∨ k = 2 := by omega
  rcases this with rfl | rfl <;> rfl
theorem eX1 (x : oXp) {k : Nat} (h1 : 40 ≤ k) (h2 : k < 44) (f : Nat → Int32) : EX x k f = .inr (1, [.int (f 0), .ref (xa x (k + 8)), .ref (xa x (k + 12))]) := by
  unfold EX
  rw [if_neg (by omega), if_neg (by omega), if_pos (by omega)]
theorem eX2 (x : oXp) {k : Nat} (h1 : 20 ≤ k) (h2 : k < 40) (f : Nat → Int32) : EX x k f = .inr (2, [.int (f 0), .int (f 1), .int (f 2), .int (f 3), .int (f 4), .int (f 5), .int (f 6)]) := by
  unfold EX
  rw [if_neg (by omega), if_neg (by omega), if_neg (by omega), if_pos (by omega)]
theorem eX6 (x : oXp) {k : Nat} (h1 : 44 ≤ k) (h2 : k < 62) (f : Nat → Int32) : EX x k f = .inr (6, [.ref (xa x (k + 18)), .int (f 1)]) := by
  unfold EX
  rw [if_neg (by omega), if_pos (by omega)]
theorem eX7 (x : oXp) {k : Nat} (h1 : 10 ≤ k) (h2 : k < 14) (f : Nat → Int32) : EX x k f = .inr (7, [.ref (xa x (k + 48)), .int (f 1)]) := by
  have : k = 10 ∨ k = 11 ∨ k = 12 ∨ k = 13 := by omega
  rcases this with rfl | rfl | rfl | rfl <;> rfl
theorem eoX_cells (x : oXp) {k : Nat} (h1 : 62 ≤ k) (h2 : k < 80) (f : Nat → Int32) : EX x k f = .inl (x.2.1, capC k, .inl f) := by
  unfold EX
  rw [if_pos (by omega)]
theorem eoX_ink (x : oXp) {k : Nat} (h1 : 16 ≤ k) (h2 : k < 18) (f : Nat → Int32) : EX x k f = .inl (x.2.1, 5, .inl f) := by
  have : k = 16 ∨ k = 17 := by omega
  rcases this with rfl | rfl <;> rfl
theorem eX_Ln (x : oXp) {k : Nat} (h1 : 14 ≤ k) (h2 : k < 16) (f : Nat → Int32) : EX x k f = .inl (x.2.2.1, 10, rfs fun j => some (xa x (10 * k - 120 + j))) := by
  have : k = 14 ∨ k = 15 := by omega
  rcases this with rfl | rfl <;> rfl
theorem eX_Lw (x : oXp) {k : Nat} (h1 : 18 ≤ k) (h2 : k < 20) (f : Nat → Int32) : EX x k f = .inl (x.2.2.2.1, 2, rfs fun j => some (xa x (2 * k + 4 + j))) := by
  have : k = 18 ∨ k = 19 := by omega
  rcases this with rfl | rfl <;> rfl
theorem eoM_row (x : oXp) {k : Nat} (h1 : 1 ≤ k) (h2 : k < 4) (f : Nat → Int32) : EM x k f = .inl (x.2.1, 408, .inl f) := by
  have : k = 1 ∨ k = 2 ∨ k = 3 := by omega
  rcases this with rfl | rfl | rfl <;> rfl
theorem oC_I {κ : oK} {w : oT} {nL : Nat} {cc : ByteArray} {own : String} {Ts : List Cond} {n : Nat} {ret : Option FieldType} (C : oC κ w nL cc own Ts n ret) : oI w := by
  obtain ⟨p, l, e, R, s, m, args, below, meth, c, mc, ms⟩ := κ
  exact C.2.2.2.2.2.2.2.2.1
theorem gf_tape {κ : oK} {nL : Nat} {cc : ByteArray} {own : String} {Ts : List Cond} {n : Nat} {ret : Option FieldType} {α : Type} {Q : α → Sg → State → Prop} {σ : Sg} {pc : Nat} {lv : List (Nat × Value)} {st : List Value} {x : oXp} {K : Nat → Option (α × Sg)} (C : oC κ (oX x) nL cc own Ts n ret) (hin : ∀ c ∈ wsX40, c ∈ Ts) {idx : Nat} (hl : Cond.fieldLink own idx "BoardKeep$Reader" "tape" "LBoardKeep$Row;" ∈ Ts) (hd : decode cc pc = .ok (.getfield idx, 3)) (k : ∀ o, 44 ≤ o → o < 62 → oV κ (oX x) nL Q σ (pc + 3) lv (.ref (xa x o) :: st) (K o)) : oV κ (oX x) nL Q σ pc lv (.ref (xa x 3) :: st) (ckb (rowOk (σ 3 1)) (lt (σ 3 1).toNatClampNeg K)) := by
  refine r_ckb (fun h => ?_)
  simp only [rowOk, Bool.and_eq_true, decide_eq_true_eq] at h
  exact r_get (k0 := 3) (Cn := RX4) (T := TX4) (N := 4) (ci := 4) C hin (by show 3 < 80; decide) rfl rfl 1 (by decide) hl rfl hd (k _ h.1 h.2)
theorem pf_tape {κ : oK} {nL : Nat} {cc : ByteArray} {own : String} {Ts : List Cond} {n : Nat} {ret : Option FieldType} {α : Type} {Q : α → Sg → State → Prop} {σ : Sg} {pc : Nat} {lv : List (Nat × Value)} {st : List Value} {x : oXp} {K : Sg → Option (α × Sg)} {o : Nat} (C : oC κ (oX x) nL cc own Ts n ret) (h1 : 44 ≤ o) (h2 : o < 62) (hin : ∀ c ∈ wsX40, c ∈ Ts) {idx : Nat} (hl : Cond.fieldLink own idx "BoardKeep$Reader" "tape" "LBoardKeep$Row;" ∈ Ts) (hd : decode cc pc = .ok (.putfield idx, 3)) (k : ∀ σ1 : Sg, oV κ (oX x) nL Q σ1 (pc + 3) lv st (K σ1)) : oV κ (oX x) nL Q σ pc lv (.ref (xa x o) :: .ref (xa x 3) :: st) (lt (up σ 3 1 (Int32.ofNat o)) K) := by
  have e : (upd (σ 3) 1 (Int32.ofNat o) 1).toNatClampNeg = o := by
    show (nI o).toNatClampNeg = o
    exact nI_clamp (by omega)
  refine r_put (k0 := 3) (Cn := RX4) (T := TX4) (N := 4) (ci := 4) (ty := .object "BoardKeep$Row") (z := Int32.ofNat o) (v := .ref (xa x o)) C hin tyX4 tyX4_ok nmX4 (by show 3 < 80; decide) rfl rfl 1 (by decide) hl rfl (by decide +kernel) ⟨rfl, rfl⟩ (Nat.le_of_ble_eq_true rfl) ?_ hd k
  show (Sum.inr (4, [.ref (xa x 56), .ref (xa x (upd (σ 3) 1 (Int32.ofNat o) 1).toNatClampNeg), .int (σ 3 2), .int (σ 3 3)]) : va_E) = _
  rw [e]
  rfl
