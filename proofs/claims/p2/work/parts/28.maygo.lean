theorem mayGo_eq {σ τ : Sg} (h : Sim σ τ) {n l : Nat} (e1 : σ 1 1 = nI n) (n10 : n ≤ 10) (hl : l < n) : f_X0_mayGo (nI l) (σ 1 2) σ = some (if gbI (σ (20 + l)) (σ 1 2) (σ 1 3) = 0 then 1 else 0, σ) ∧ f_X10_mayGo (nI l) τ = some (if gbI (σ (20 + l)) (σ 1 2) (σ 1 3) = 0 then 1 else 0, τ) := by
  obtain ⟨a1, a2, ⟨n', hn, e1', e2, a3⟩, a4, a5, a6, a7⟩ := h.1
  have nn : n' = n := m_same_n (by omega) (by omega) (e1'.symm.trans e1)
  subst nn
  obtain ⟨⟨⟨k0, k0'⟩, ⟨k1, k1'⟩, _, _, ⟨k4, k4'⟩, k5⟩, k2⟩ := a3 l hl
  have q0 : τ 1 (12 + 7 * l + 0) = σ (20 + l) 0 := k2 0 (by omega)
  have q1 : τ 1 (12 + 7 * l + 1) = σ (20 + l) 1 := k2 1 (by omega)
  have q4 : τ 1 (12 + 7 * l + 4) = σ (20 + l) 4 := k2 4 (by omega)
  have q6 : τ 1 (12 + 7 * l + 6) = σ (20 + l) 6 := k2 6 (by omega)
  have d0 : τ 1 0 = σ 1 2 := a1.1
  have d3 : τ 1 3 = σ 1 3 := a1.2.2.2.1
  have j0 : 0 ≤ (σ (20 + l) 0).toInt := k0
  have j0' : (σ (20 + l) 0).toInt ≤ 6 := k0'
  have j1 : 0 ≤ (σ (20 + l) 1).toInt := k1
  have j1' : (σ (20 + l) 1).toInt ≤ 9 := k1'
  have j4 : 0 ≤ (σ (20 + l) 4).toInt := k4
  have j4' : (σ (20 + l) 4).toInt ≤ (σ 1 2).toInt := k4'
  have j6 : σ (20 + l) 6 = 0 ∨ σ (20 + l) 6 = 1 := a4 l (by omega)
  have j2 := a1.2.2.1
  have el : (nI l).toInt = (l : Int) := i_nI (by omega)
  constructor
  · obtain ⟨r, r1, r2⟩ := x_gb (20 + l) (σ 1 2) (σ 1 3) σ j1 j1' j4 j4' j2
    unfold f_X0_mayGo
    rw [ck_k el (by omega), tn_k el, lt_a, r1, bnd_s]
    by_cases z : gbI (σ (20 + l)) (σ 1 2) (σ 1 3) = 0
    · rw [if_pos z, if_pos (by rw [i_eq, r2, z, ti_0])]
    · rw [if_neg z, if_neg (fun e => z (by rw [← r2, e, ti_0]))]
  · have ea : (σ 1 2 - σ (20 + l) 4).toInt = (σ 1 2).toInt - (σ (20 + l) 4).toInt := i_sub (by omega) (by omega)
    have e7 : ((7 : Int32) * σ (20 + l) 1).toInt = 7 * (σ (20 + l) 1).toInt := by rw [i_mul (by rw [ti_7]; omega) (by rw [ti_7]; omega), ti_7]
    have t4 : (4 : Int32).toInt = 4 := rfl
    unfold f_X10_mayGo
    rw [m_it 1 (by omega) rfl (by omega), bnd_s, ck_0, m_it 4 (by omega) rfl (by omega), bnd_s, rd_0, d0, q4, q1, lt_a, m_it 6 (by omega) rfl (by omega), bnd_s, q6]
    unfold gbI ripeI
    rcases j6 with j | j
    · rw [j, if_neg (show ¬ (0 : Int32) = 1 by decide), if_pos (show (0 : Int32) = 0 from rfl), m_it 0 (by omega) rfl (by omega), bnd_s, q0, ck_3, rd_3, d3]
      simp only [i_eq, i_lt, ea, e7, ti_0, ti_1, ti_2, ti_3, ti_4, ti_5, ti_6, ti_7, ti_8, ti_9, ti_10, ti_11, ti_12, ti_13, ti_14, ti_15]
      generalize (σ (20 + l) 0).toInt = K at *
      generalize (σ (20 + l) 1).toInt = W at *
      generalize (σ 1 3).toInt = P at *
      generalize (σ 1 2).toInt - (σ (20 + l) 4).toInt = A at *
      repeat' split
      all_goals first | rfl | (exfalso; omega)
    · rw [j, if_pos rfl, if_neg (show ¬ (1 : Int32) = 0 by decide), if_neg (by decide)]
