theorem rn_12 (T c : Nat) : RN T 12 c ≤ 12 := by
  rcases Nat.eq_zero_or_pos (RN T 12 c) with q | q
  · omega
  · have := (rn_pos T 12 c q).1; omega
theorem runs_loop {T u : Nat} : ∀ (d c q : Nat) (first : Int32) (τ : Sg), c + d = 12 → d < q → (∀ j, j < c → τ 12 j = nI (RN T c j)) → first = (if stT T c = c then (-1 : Int32) else nI (stT T c)) → ∃ τ', f_X10_parts_91 q (nI u) (nI T) first (nI c) τ = bnd (f_X10_partsFrom (nI u) (0 : Int32) τ') (fun r s => some (r, s)) ∧ (∀ k, k ≠ 12 → τ' k = τ k) ∧ ∀ j, j < 12 → τ' 12 j = nI (RN T 12 j) := by
  sorry
