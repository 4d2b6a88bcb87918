theorem m_move53 {rec28 : Int32 → Int32 → Int32 → Int32 → Int32 → Int32 → Sg → Option (Int32 × Sg)} {u w i j q r : Nat} (hu : u < 4) (hw : w < 4) (hi : i + r < 24) (hj : j + r < 24) (t0 c a7 : Int32) (et : t0.toInt = (r : Int)) (τ : Sg) : f_X10_move_53 rec28 (nI u) (nI i) (nI w) (nI j) c (nI q) t0 τ = rec28 (nI u) (nI i) (nI w) (nI j) c (nI (q + 1)) (up τ 7 (24 * w + j + r) (τ 7 (24 * u + i + r))) := by
  have e1 := i_sq hu (show i ≤ 24 by omega)
  have e2 := i_sq hw (show j ≤ 24 by omega)
  have f1 : (((24 : Int32) * nI u) + nI i + t0).toInt = ((24 * u + i + r : Nat) : Int) := by rw [i_add (by rw [e1, et]; omega) (by rw [e1, et]; omega), e1, et]; omega
  have f2 : (((24 : Int32) * nI w) + nI j + t0).toInt = ((24 * w + j + r : Nat) : Int) := by rw [i_add (by rw [e2, et]; omega) (by rw [e2, et]; omega), e2, et]; omega
  unfold f_X10_move_53
  rw [ck_k f1 (by omega), ck_k f2 (by omega), tn_k f2, rd_k f1]
  simp only [lt_a, nI_1]
theorem m_move28 {u w i j c : Nat} (hu : u < 4) (hw : w < 4) (hi : i + c ≤ 24) (hj : j + c ≤ 24) (τ0 : Sg) : ∀ (d q n : Nat) (τ : Sg), q + d = c → d < n → (∀ k, k ≠ 7 → τ k = τ0 k) → (∀ x, (x < 24 * w + j ∨ 24 * w + j + c ≤ x) → τ 7 x = τ0 7 x) → (∀ p, p < c → τ 7 (24 * w + j + p) = if (j ≤ i ∧ p < q) ∨ (i < j ∧ c ≤ p + q) then τ0 7 (24 * u + i + p) else τ0 7 (24 * w + j + p)) → ∃ τ', f_X10_move_28 n (nI u) (nI i) (nI w) (nI j) (nI c) (nI q) τ = some (nI c, τ') ∧ (∀ k, k ≠ 7 → τ' k = τ0 k) ∧ (∀ x, (x < 24 * w + j ∨ 24 * w + j + c ≤ x) → τ' 7 x = τ0 7 x) ∧ (∀ p, p < c → τ' 7 (24 * w + j + p) = τ0 7 (24 * u + i + p)) := by
  intro d
  have ec : (nI c).toInt = (c : Int) := i_nI (by omega)
  have eI : (nI i).toInt = (i : Int) := i_nI (by omega)
  have eJ : (nI j).toInt = (j : Int) := i_nI (by omega)
  induction d with
  | zero =>
    intro q n τ hq hn g1 g2 g3
    obtain ⟨n, rfl⟩ : ∃ m, n = m + 1 := ⟨n - 1, by omega⟩
    have eq : (nI q).toInt = (q : Int) := i_nI (by omega)
    refine ⟨τ, ?_, g1, g2, fun p hp => ?_⟩
    · simp only [f_X10_move_28, f_X10_move_28_b]
      rw [if_pos (by rw [i_le, eq, ec]; omega)]
    · rw [g3 p hp, if_pos (by omega)]
  | succ d ih =>
    intro q n τ hq hn g1 g2 g3
    obtain ⟨n, rfl⟩ : ∃ m, n = m + 1 := ⟨n - 1, by omega⟩
    have eq : (nI q).toInt = (q : Int) := i_nI (by omega)
    have step : ∀ r : Nat, r < c → ((j ≤ i ∧ r = q) ∨ (i < j ∧ r + 1 + q = c)) → ∃ τ', f_X10_move_28 n (nI u) (nI i) (nI w) (nI j) (nI c) (nI (q + 1)) (up τ 7 (24 * w + j + r) (τ 7 (24 * u + i + r))) = some (nI c, τ') ∧ (∀ k, k ≠ 7 → τ' k = τ0 k) ∧ (∀ x, (x < 24 * w + j ∨ 24 * w + j + c ≤ x) → τ' 7 x = τ0 7 x) ∧ (∀ p, p < c → τ' 7 (24 * w + j + p) = τ0 7 (24 * u + i + p)) := by
      intro r hr hd
      refine ih (q + 1) n _ (by omega) (by omega) (fun k hk => by rw [up_row hk, g1 k hk]) (fun x hx => by rw [up_i (by omega), g2 x hx]) (fun p hp => ?_)
      by_cases hpr : p = r
      · subst hpr
        rw [up_s, if_pos (by omega)]
        by_cases hx : 24 * u + i + p < 24 * w + j ∨ 24 * w + j + c ≤ 24 * u + i + p
        · exact g2 _ hx
        · obtain ⟨p', hp', e⟩ : ∃ p', p' < c ∧ 24 * u + i + p = 24 * w + j + p' := ⟨24 * u + i + p - (24 * w + j), by omega, by omega⟩
          rw [e, g3 p' hp', if_neg (by omega)]
      · rw [up_i (by omega), g3 p hp]
        by_cases hz : (j ≤ i ∧ p < q) ∨ (i < j ∧ c ≤ p + q)
        · rw [if_pos hz, if_pos (by omega)]
        · rw [if_neg hz, if_neg (by omega)]
    simp only [f_X10_move_28, f_X10_move_28_b]
    rw [if_neg (by rw [i_le, eq, ec]; omega)]
    by_cases hji : j ≤ i
    · rw [if_pos (by rw [i_le, eI, eJ]; omega), m_move53 (r := q) hu hw (by omega) (by omega) _ _ 0 eq]
      exact step q (by omega) (by omega)
    · have e1 : (nI c - (1 : Int32)).toInt = (c : Int) - 1 := by rw [i_sub (by rw [ec, ti_1]; omega) (by rw [ec, ti_1]; omega), ec, ti_1]
      have e2 : (nI c - (1 : Int32) - nI q).toInt = ((c - 1 - q : Nat) : Int) := by rw [i_sub (by rw [e1, eq]; omega) (by rw [e1, eq]; omega), e1, eq]; omega
      rw [if_neg (by rw [i_le, eI, eJ]; omega), m_move53 (r := c - 1 - q) hu hw (by omega) (by omega) _ _ 0 e2]
      exact step (c - 1 - q) (by omega) (by omega)
