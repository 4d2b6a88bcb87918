theorem gives_eq0 {m : Nat} {D : Int32} {σ τ : Sg} (h : Vw m D σ τ) (p q r : Int32) : ∃ v σ' τ', f_X0_lawGives (0 : Int32) p q r σ = some (v, σ') ∧ f_X10_gives (0 : Int32) p q r τ = some (v, τ') ∧ eqX σ σ' ∧ eqM τ τ' ∧ 0 ≤ v.toInt ∧ v.toInt ≤ 999 ∧ σ' 4 = σ 4 := by
  have := gives_eq h (u := 0) (by omega) p q r
  rwa [nI_0] at this
theorem x_lossOf {l : Nat} (hl : l < 10) {D b v : Int32} {σ σ' : Sg} (h1 : f_X2_back (20 + l) D σ = some (b, σ)) (h2 : f_X0_lawGives (0 : Int32) b (σ (20 + l) 1) (σ (20 + l) 5) σ = some (v, σ')) : f_X0_lossOf (nI l) D σ = some (v, σ') := by
  have el : (nI l).toInt = (l : Int) := i_nI (by omega)
  unfold f_X0_lossOf
  rw [ck_k el (by omega), tn_k el, lt_a, h1, bnd_s, ck_k el (by omega), lt_a, ck_k el (by omega), lt_a, h2, bnd_s]
theorem m_lossOf {l : Nat} (hl : l < 10) {b m p v : Int32} {τ τ' : Sg} (h1 : f_X10_backOf (nI l) τ = some (b, τ)) (q1 : τ 1 (12 + 7 * l + 1) = m) (q5 : τ 1 (12 + 7 * l + 5) = p) (h2 : f_X10_gives (0 : Int32) b m p τ = some (v, τ')) : f_X10_lossOf (nI l) τ = some (v, τ') := by
  unfold f_X10_lossOf
  rw [h1, bnd_s, m_it 1 hl rfl (by omega), bnd_s, m_it 5 hl rfl (by omega), bnd_s, q1, q5, h2, bnd_s]
theorem loss_eq {n : Nat} {D : Int32} {σ τ : Sg} (h : Vw n D σ τ) {l : Nat} (hl : l < n) : ∃ v σ' τ', f_X0_lossOf (nI l) D σ = some (v, σ') ∧ f_X10_lossOf (nI l) τ = some (v, τ') ∧ eqX σ σ' ∧ eqM τ τ' ∧ 0 ≤ v.toInt ∧ v.toInt ≤ 999 ∧ σ' 4 = σ 4 := by
  obtain ⟨b, b1, b2, _, _⟩ := back_eq h hl
  have k2 := (h.2.2.2.2.2.2.1 l hl).2
  have n10 := h.1
  have q1 : τ 1 (12 + 7 * l + 1) = σ (20 + l) 1 := k2 1 (by omega)
  have q5 : τ 1 (12 + 7 * l + 5) = σ (20 + l) 5 := k2 5 (by omega)
  obtain ⟨v, σ', τ', p1, p2, p3⟩ := gives_eq0 h b (σ (20 + l) 1) (σ (20 + l) 5)
  exact ⟨v, σ', τ', x_lossOf (by omega) b1 p1, m_lossOf (by omega) b2 q1 q5 p2, p3⟩
