theorem x_begin14 {u : Nat} (hu : u < 4) {t : Nat} (ht : t ≤ 24) : ∀ (d i n : Nat) (σ : Sg), i + d = t → d < n → σ (58 + u) 1 = nI i → (∀ j, j < i → σ (76 + u) j = 0) → ∃ σ', f_X7_begin_14 n (10 + u) (nI t) (nI i) σ = some ((), σ') ∧ (∀ k, k ≠ 58 + u → k ≠ 76 + u → σ' k = σ k) ∧ σ' (58 + u) 1 = nI t ∧ ∀ j, j < t → σ' (76 + u) j = 0 := by
  intro d
  have et : (nI t).toInt = (t : Int) := i_nI (by omega)
  have hc : capC (58 + u + 18) = 24 := by rw [← cap_sh hu]; congr 1; omega
  induction d with
  | zero =>
    intro i n σ hi hn e0 z
    obtain ⟨n, rfl⟩ : ∃ m, n = m + 1 := ⟨n - 1, by omega⟩
    have ei : (nI i).toInt = (i : Int) := i_nI (by omega)
    refine ⟨σ, ?_, fun _ _ _ => rfl, ?_, fun j a => z j (by omega)⟩
    · simp only [f_X7_begin_14, f_X7_begin_14_b]
      rw [if_pos (by rw [i_le, ei, et]; omega)]
    · rw [e0, show i = t by omega]
  | succ d ih =>
    intro i n σ hi hn e0 z
    obtain ⟨n, rfl⟩ : ∃ m, n = m + 1 := ⟨n - 1, by omega⟩
    have ei : (nI i).toInt = (i : Int) := i_nI (by omega)
    obtain ⟨σ', q1, q2, q3, q4⟩ := ih (i + 1) n (up (up σ (58 + u + 18) i 0) (58 + u) 1 (nI (i + 1))) (by omega) (by omega) (by rw [up_s]) (fun j hj => by
      rw [up_k (by omega), show 58 + u + 18 = 76 + u by omega]
      by_cases h : j = i
      · subst h; rw [up_s]
      · rw [up_i h]; exact z j (by omega))
    refine ⟨σ', ?_, fun k a b => by rw [q2 k a b, up_row a, up_row (by omega)], q3, q4⟩
    simp only [f_X7_begin_14, f_X7_begin_14_b]
    rw [if_neg (by rw [i_le, ei, et]; omega), show 10 + u + 48 = 58 + u by omega, x_add e0 (by rw [hc]; omega)]
    simp only [bnd_s, lt_a, nI_1]
    exact q1
theorem x_begin {u : Nat} (hu : u < 4) {t : Nat} (ht : t ≤ 24) (b : Int32) (σ : Sg) : ∃ σ', f_X7_begin (10 + u) b (nI t) σ = some ((), σ') ∧ (∀ k, k ≠ 10 + u → k ≠ 58 + u → k ≠ 76 + u → σ' k = σ k) ∧ σ' (10 + u) 1 = b ∧ σ' (58 + u) 1 = nI t ∧ ∀ j, j < t → σ' (76 + u) j = 0 := by
  obtain ⟨σ', q1, q2, q3, q4⟩ := x_begin14 hu ht t 0 fuN (up (up σ (10 + u) 1 b) (58 + u) 1 0) (by omega) (by have := fu_le; omega) (by rw [up_s]; rfl) (fun j hj => absurd hj (by omega))
  refine ⟨σ', ?_, fun k a c d => by rw [q2 k c d, up_row c, up_row a], by rw [q2 _ (by omega) (by omega), up_k (by omega), up_s], q3, q4⟩
  unfold f_X7_begin f_X6_clear
  simp only [lt_a, bnd_s]
  rw [show 10 + u + 48 = 58 + u by omega]
  exact q1
theorem m_sheet93 {u : Nat} (hu : u < 4) : ∀ (d i n : Nat) (τ : Sg), i + d = 24 → d < n → ∃ τ', f_X10_sheet_93 n (nI u) (nI i) τ = some (1, τ') ∧ (∀ k, k ≠ 7 → τ' k = τ k) ∧ (∀ j, i ≤ j → j < 24 → τ' 7 (24 * u + j) = 0) ∧ (∀ q, (q < 24 * u + i ∨ 24 * u + 24 ≤ q) → τ' 7 q = τ 7 q) := by
  intro d
  induction d with
  | zero =>
    intro i n τ hi hn
    obtain ⟨n, rfl⟩ : ∃ m, n = m + 1 := ⟨n - 1, by omega⟩
    have ei : (nI i).toInt = (i : Int) := i_nI (by omega)
    refine ⟨τ, ?_, fun _ _ => rfl, fun j a b => absurd b (by omega), fun _ _ => rfl⟩
    simp only [f_X10_sheet_93, f_X10_sheet_93_b]
    rw [if_pos (by rw [i_le, ei]; show (24 : Int) ≤ _; omega)]
  | succ d ih =>
    intro i n τ hi hn
    obtain ⟨n, rfl⟩ : ∃ m, n = m + 1 := ⟨n - 1, by omega⟩
    have ei : (nI i).toInt = (i : Int) := i_nI (by omega)
    have e24 := i_sq hu (show i ≤ 24 by omega)
    obtain ⟨τ', q1, q2, q3, q4⟩ := ih (i + 1) n (up τ 7 (24 * u + i) 0) (by omega) (by omega)
    refine ⟨τ', ?_, fun k a => by rw [q2 k a, up_row a], fun j a b => ?_, fun q h => by rw [q4 q (by omega), up_i (by omega)]⟩
    · simp only [f_X10_sheet_93, f_X10_sheet_93_b]
      rw [if_neg (by rw [i_le, ei]; show ¬ (24 : Int) ≤ _; omega), ck_k e24 (by omega), tn_k e24]
      simp only [lt_a, nI_1]
      exact q1
    · by_cases h : j = i
      · subst h; rw [q4 _ (by omega), up_s]
      · exact q3 j (by omega) b
theorem sheet_core {σ τ : Sg} (h : Sim σ τ) {u : Nat} (hu : u < 4) {t : Nat} (ht : t ≤ 24) {b : Int32} (hb : b = 0 ∨ b = 8 ∨ b = 16 ∨ b = 32) : Ok (bnd (f_X7_begin (10 + u) b (nI t) σ) (fun _ s4 => some ((1 : Int32), s4))) (f_X10_sheet_93 fuN (nI u) (0 : Int32) (up (up τ 5 u b) 6 u (nI t))) := by
  obtain ⟨σ', q1, q2, q3, q4, q5⟩ := x_begin hu ht b σ
  obtain ⟨τ', p1, p2, p3, p4⟩ := m_sheet93 hu 24 0 fuN (up (up τ 5 u b) 6 u (nI t)) (by omega) (by have := fu_le; omega)
  rw [q1, ← nI_0, p1]
  simp only [bnd_s]
  refine Ok.mk (h.sheet hu q2 (fun k a c d => by rw [p2 k d, up_row c, up_row a]) ?_ (fun v hv hvu => ⟨?_, ?_, fun j hj => ?_⟩))
  · rw [p2 5 (by decide), p2 6 (by decide), up_s, up_row (by decide), up_s, q3, q4]
    exact ⟨rfl, hb, t, ht, rfl, rfl, fun j hj => by rw [q5 j hj]; exact p3 j (by omega) (by omega)⟩
  · rw [p2 5 (by decide), up_row (by decide), up_i hvu]
  · rw [p2 6 (by decide), up_i hvu, up_row (by decide)]
  · rw [p4 _ (by omega), up_row (by decide), up_row (by decide)]
theorem eq_sheet {σ τ : Sg} (h : Sim σ τ) (a b c : Int32) : Ok (f_X9_sheet a b c σ) (f_X10_sheet a b c τ) := by
  unfold f_X9_sheet f_X10_sheet
  simp only [x_isIn, m_isSheet, x_err1, m_err1, bnd_s, lt_a, if01, ckb_01, rd_0, rd_1, rd_2, rd_3, rd_4, rd_5, rd_6, rd_7, rd_8, rd_9, rd_10, rd_11, rd_12, rd_13, rd_14, rd_15, ck_0, ck_1, ck_2, ck_3, ck_4, ck_5, ck_6, ck_7, ck_8, ck_9, ck_10, ck_11, ck_12, ck_13, ck_14, ck_15, tn_0, tn_1, tn_2, tn_3, tn_4, tn_5, tn_6, tn_7, tn_8, tn_9, tn_10, tn_11, tn_12, tn_13, tn_14, tn_15]
  by_cases ha : 0 ≤ a ∧ a ≤ 3
  · rw [if_pos ha, if_pos ha]
    obtain ⟨u, hu, rfl⟩ := sh_arg ha
    have eu : (nI u).toInt = (u : Int) := i_nI (by omega)
    have z0 : ∀ c, Ok (f_X9_sheet_37 (nI u) 0 c σ) (f_X10_sheet_36 (nI u) 0 c τ) := by
      intro c
      unfold f_X9_sheet_37 f_X9_sheet_51 f_X9_sheet_67 f_X10_sheet_36 f_X10_sheet_51 f_X10_sheet_68
      rw [if_pos rfl, if_pos rfl, if_pos (by decide), if_pos (by decide)]
      simp only [ck_k eu hu, tn_k eu, lt_a]
      rw [if_pos trivial, if_pos trivial]
      exact sheet_core h hu (t := 0) (by omega) (Or.inl rfl)
    have z1 : ∀ k c, (k = 8 ∨ k = 16 ∨ k = 32) → Ok (f_X9_sheet_37 (nI u) k c σ) (f_X10_sheet_36 (nI u) k c τ) := by
      intro k c hk
      have k0 : k ≠ 0 := by rcases hk with rfl | rfl | rfl <;> decide
      have k1 : ¬ k ≤ 0 := by rcases hk with rfl | rfl | rfl <;> decide
      unfold f_X9_sheet_37 f_X9_sheet_51 f_X9_sheet_67 f_X10_sheet_36 f_X10_sheet_51 f_X10_sheet_68
      simp only [if_neg k0, if_neg k1, ck_k eu hu, tn_k eu, lt_a, x_err1, m_err1, x_err3, m_err3, bnd_s]
      by_cases c0 : 0 ≤ c
      · rw [if_pos c0, if_pos c0]
        by_cases c1 : c ≤ 24
        · rw [if_pos c1, if_pos c1]
          have c0' := c0
          have c1' := c1
          simp only [i_le, ti_0, ti_1, ti_2, ti_3, ti_4, ti_5, ti_6, ti_7, ti_8, ti_9, ti_10, ti_11, ti_12, ti_13, ti_14, ti_15] at c0' c1'
          rw [show (24 : Int32).toInt = 24 from rfl] at c1'
          obtain ⟨t, ht, rfl⟩ := nI_ofi (a := c) (n := 25) c0' (by omega)
          exact sheet_core h hu (by omega) (Or.inr hk)
        · rw [if_neg c1, if_neg c1]
          exact Ok.err h 1 (by decide)
      · rw [if_neg c0, if_neg c0]
        exact Ok.err h 3 (by decide)
    by_cases b0 : b = 0
    · subst b0; rw [if_pos rfl, if_pos rfl]; exact z0 c
    · rw [if_neg b0, if_neg b0]
      by_cases b1 : b = 8
      · subst b1; rw [if_pos rfl, if_pos rfl]; exact z1 8 c (by decide)
      · rw [if_neg b1, if_neg b1]
        by_cases b2 : b = 16
        · subst b2; rw [if_pos rfl, if_pos rfl]; exact z1 16 c (by decide)
        · rw [if_neg b2, if_neg b2]
          by_cases b3 : b = 32
          · subst b3; rw [if_pos rfl, if_pos rfl]; exact z1 32 c (by decide)
          · rw [if_neg b3, if_neg b3]
            exact Ok.err h 1 (by decide)
  · rw [if_neg ha, if_neg ha]
    exact Ok.err h 1 (by decide)
