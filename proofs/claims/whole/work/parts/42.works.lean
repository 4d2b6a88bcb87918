theorem join_eq {o : Int32} (ho : opS o) (p q : Int32) (σ τ : Sg) : ∃ r, f_X1_join p o q σ = some (r, σ) ∧ f_X10_twoOf o p q τ = some (r, τ) := by
  rcases ho with rfl | rfl | rfl | rfl | rfl | rfl | rfl | rfl | rfl | rfl <;> simp (decide := true) only [f_X1_join, f_X10_twoOf, reduceIte]
  · by_cases h : p = 0
    · by_cases h2 : q = 0
      · simp only [h, h2, if_true]; exact ⟨_, rfl, rfl⟩
      · simp only [h, h2, if_true, if_false]; exact ⟨_, rfl, rfl⟩
    · simp only [h, if_false]; exact ⟨_, rfl, rfl⟩
  · by_cases h : p = 0
    · simp only [h, if_true]; exact ⟨_, rfl, rfl⟩
    · by_cases h2 : q = 0
      · simp only [h, h2, if_true, if_false]; exact ⟨_, rfl, rfl⟩
      · simp only [h, h2, if_false]; exact ⟨_, rfl, rfl⟩
  · by_cases h : q ≤ p
    · rw [if_pos h, if_pos h]; exact ⟨_, rfl, rfl⟩
    · rw [if_neg h, if_neg h]; exact ⟨_, rfl, rfl⟩
  · by_cases h : p = q
    · rw [if_pos h, if_pos h]; exact ⟨_, rfl, rfl⟩
    · rw [if_neg h, if_neg h]; exact ⟨_, rfl, rfl⟩
  · by_cases h : p ≤ q
    · rw [if_pos h, if_pos h]; exact ⟨_, rfl, rfl⟩
    · rw [if_neg h, if_neg h]; exact ⟨_, rfl, rfl⟩
  · exact ⟨_, rfl, rfl⟩
  · exact ⟨_, rfl, rfl⟩
  · exact ⟨_, rfl, rfl⟩
  · by_cases h : q = 0
    · rw [if_pos h, if_pos h]; exact ⟨_, rfl, rfl⟩
    · have hq : nz q = true := by simp [nz, h]
      rw [if_neg h, if_neg h, ckb_t hq, ckb_t hq]; exact ⟨_, rfl, rfl⟩
  · by_cases h : q = 0
    · rw [if_pos h, if_pos h]; exact ⟨_, rfl, rfl⟩
    · have hq : nz q = true := by simp [nz, h]
      rw [if_neg h, if_neg h, ckb_t hq, ckb_t hq]; exact ⟨_, rfl, rfl⟩
theorem cap_st {u : Nat} (hu : u < 2) : capC (70 + u) = 60 := by
  have : u = 0 ∨ u = 1 := by omega
  rcases this with rfl | rfl <;> rfl
theorem x_pop {u s : Nat} (hu : u < 2) (hs : s < 60) {σ : Sg} (e : σ (52 + u) 1 = nI (s + 1)) : f_X1_pop (40 + u) σ = some (σ (70 + u) s, up σ (52 + u) 1 (nI s)) := by
  have es : (nI s).toInt = (s : Int) := i_nI (by omega)
  have es1 : (nI (s + 1)).toInt = ((s + 1 : Nat) : Int) := i_nI (by omega)
  have e2 : nI (s + 1) - (1 : Int32) = nI s := by rw [i_eq, i_sub (by rw [es1, ti_1]; omega) (by rw [es1, ti_1]; omega), es1, es, ti_1]; omega
  unfold f_X1_pop
  rw [show 40 + u + 12 = 52 + u by omega, e, if_neg (by rw [i_eq, es1, ti_0]; omega), e2]
  simp only [lt_a]
  rw [up_s, show 52 + u + 18 = 70 + u by omega, cap_st hu, ck_k es hs, rd_k es, up_k (by omega)]
theorem x_push {u s : Nat} (hu : u < 2) (hs : s < 60) {σ : Sg} (e : σ (52 + u) 1 = nI s) (v : Int32) : f_X6_add (40 + u + 12) v σ = some ((), up (up σ (70 + u) s v) (52 + u) 1 (nI (s + 1))) := by
  rw [show 40 + u + 12 = 52 + u by omega, x_add e (by rw [show 52 + u + 18 = 70 + u by omega, cap_st hu]; omega), show 52 + u + 18 = 70 + u by omega]
