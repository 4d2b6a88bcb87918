theorem m_mayGo {l : Nat} (hl : l < 10) {g : Nat → Int32} {D : Int32} {τ : Sg} (d0 : τ 1 0 = D) (hg : ∀ f, f < 7 → τ 1 (12 + 7 * l + f) = g f) (j1 : 0 ≤ (g 1).toInt) (j1' : (g 1).toInt ≤ 9) (j4 : 0 ≤ (g 4).toInt) (j4' : (g 4).toInt ≤ D.toInt) (j2 : D.toInt ≤ 20000) (j6 : g 6 = 0 ∨ g 6 = 1) : f_X10_mayGo (nI l) τ = some (if gbI g D (τ 1 3) = 0 then 1 else 0, τ) := by
  have q0 : τ 1 (12 + 7 * l + 0) = g 0 := hg 0 (by omega)
  have q1 : τ 1 (12 + 7 * l + 1) = g 1 := hg 1 (by omega)
  have q4 : τ 1 (12 + 7 * l + 4) = g 4 := hg 4 (by omega)
  have q6 : τ 1 (12 + 7 * l + 6) = g 6 := hg 6 (by omega)
  have ea : (D - g 4).toInt = D.toInt - (g 4).toInt := i_sub (by omega) (by omega)
  have e7 : ((7 : Int32) * g 1).toInt = 7 * (g 1).toInt := by rw [i_mul (by rw [ti_7]; omega) (by rw [ti_7]; omega), ti_7]
  have t4 : (4 : Int32).toInt = 4 := rfl
  unfold f_X10_mayGo
  rw [m_it 1 (by omega) rfl (by omega), bnd_s, ck_0, m_it 4 (by omega) rfl (by omega), bnd_s, rd_0, d0, q4, q1, lt_a, m_it 6 (by omega) rfl (by omega), bnd_s, q6]
  unfold gbI ripeI
  rcases j6 with j | j
  · rw [j, if_neg (show ¬ (0 : Int32) = 1 by decide), if_pos (show (0 : Int32) = 0 from rfl), m_it 0 (by omega) rfl (by omega), bnd_s, q0, ck_3, rd_3]
    simp only [i_eq, i_lt, ea, e7, ti_0, ti_1, ti_2, ti_3, ti_4, ti_5, ti_6, ti_7, ti_8, ti_9, ti_10, ti_11, ti_12, ti_13, ti_14, ti_15]
    generalize (g 0).toInt = K at *
    generalize (g 1).toInt = W at *
    generalize (τ 1 3).toInt = P at *
    generalize D.toInt - (g 4).toInt = A at *
    repeat' split
    all_goals first | rfl | (exfalso; omega)
  · rw [j, if_pos rfl, if_neg (show ¬ (1 : Int32) = 0 by decide), if_neg (by decide)]
theorem x_mayGo {n : Nat} {D : Int32} {σ τ : Sg} (h : Vw n D σ τ) {l : Nat} (hl : l < n) : f_X0_mayGo (nI l) D σ = some (if gbI (σ (20 + l)) D (σ 1 3) = 0 then 1 else 0, σ) := by
  obtain ⟨n10, e1, e2, d0, ⟨dl, dh⟩, sp, a3, a4, a7⟩ := h
  obtain ⟨⟨⟨k0, k0'⟩, ⟨k1, k1'⟩, _, _, ⟨k4, k4'⟩, k5⟩, k2⟩ := a3 l hl
  have el : (nI l).toInt = (l : Int) := i_nI (by omega)
  obtain ⟨r, r1, r2⟩ := x_gb (20 + l) D (σ 1 3) σ k1 k1' k4 k4' dh
  unfold f_X0_mayGo
  rw [ck_k el (by omega), tn_k el, lt_a, r1, bnd_s]
  by_cases z : gbI (σ (20 + l)) D (σ 1 3) = 0
  · rw [if_pos z, if_pos (by rw [i_eq, r2, z, ti_0])]
  · rw [if_neg z, if_neg (fun e => z (by rw [← r2, e, ti_0]))]
theorem mayGo_eq {n : Nat} {D : Int32} {σ τ : Sg} (h : Vw n D σ τ) {l : Nat} (hl : l < n) : f_X0_mayGo (nI l) D σ = some (if gbI (σ (20 + l)) D (σ 1 3) = 0 then 1 else 0, σ) ∧ f_X10_mayGo (nI l) τ = some (if gbI (σ (20 + l)) D (σ 1 3) = 0 then 1 else 0, τ) := by
  refine ⟨x_mayGo h hl, ?_⟩
  obtain ⟨n10, e1, e2, d0, ⟨dl, dh⟩, sp, a3, a4, a7⟩ := h
  obtain ⟨⟨⟨k0, k0'⟩, ⟨k1, k1'⟩, _, _, ⟨k4, k4'⟩, k5⟩, k2⟩ := a3 l hl
  rw [← sp]
  exact m_mayGo (by omega) d0 k2 k1 k1' k4 k4' dh (a4 l (by omega))
