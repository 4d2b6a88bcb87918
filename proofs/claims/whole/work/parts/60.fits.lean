theorem set_eq {u t T : Nat} (hu : u < 4) (ht : t ≤ 12) {σ τ : Sg} (s1 : σ (10 + u + 48) 1 = nI t) (s2 : τ 6 u = nI t) (s3 : ∀ j, j < t → τ 7 (24 * u + j) = σ (10 + u + 48 + 18) j) : ∀ (d i m m' : Nat), i + d = t → d < m → d + 1 < m' → ∃ r, (r = 0 ∨ r = 1) ∧ f_X9_isSet_2 m (10 + u + 48) (nI T) (nI i) σ = some (r, σ) ∧ f_X10_isSo_11 m' (nI u) (nI T) (1 : Int32) (nI i) τ = some (r, τ) := by
  have eu : (nI u).toInt = (u : Int) := i_nI (by omega)
  have i1 : isb (1 : Int32) = true := rfl
  have i0 : isb (0 : Int32) = true := rfl
  intro d
  induction d with
  | zero =>
    intro i m m' hi hm hm'
    obtain ⟨m, rfl⟩ : ∃ j, m = j + 1 := ⟨m - 1, by omega⟩
    obtain ⟨m', rfl⟩ : ∃ j, m' = j + 1 := ⟨m' - 1, by omega⟩
    obtain rfl : i = t := by omega
    refine ⟨1, Or.inr rfl, ?_, ?_⟩
    · rw [f_X9_isSet_2]
      unfold f_X9_isSet_2_b
      rw [s1, if_pos (nI_le (Nat.le_refl _) (by omega))]
    · rw [f_X10_isSo_11]
      unfold f_X10_isSo_11_b
      rw [ck_k eu hu, rd_k eu, s2, if_pos (nI_le (Nat.le_refl _) (by omega)), ckb_t i1]
  | succ d ih =>
    intro i m m' hi hm hm'
    obtain ⟨m, rfl⟩ : ∃ j, m = j + 1 := ⟨m - 1, by omega⟩
    obtain ⟨m', rfl⟩ : ∃ j, m' = j + 2 := ⟨m' - 2, by omega⟩
    have ei : (nI i).toInt = (i : Int) := i_nI (by omega)
    have nle := nI_ge (show i < t by omega) (show t < 2 ^ 31 by omega)
    have e24 := i_sq hu (show i ≤ 24 by omega)
    have hc : capC (10 + u + 48 + 18) = 24 := cap_sh hu
    rw [f_X9_isSet_2, show m' + 2 = (m' + 1) + 1 by omega, f_X10_isSo_11]
    unfold f_X9_isSet_2_b f_X10_isSo_11_b
    rw [s1, if_neg nle, hc, ck_k ei (by omega), rd_k ei, ck_k eu hu, rd_k eu, s2, if_neg nle, if_neg (show ¬ (1 : Int32) = 0 by decide), ck_k e24 (by omega), rd_k e24, s3 i (by omega)]
    by_cases z : σ (10 + u + 48 + 18) i = (shr (nI T) (nI i)) &&& (1 : Int32)
    · rw [if_pos z, if_pos z, lt_a, lt_a, nI_1]
      exact ih (i + 1) m (m' + 1) (by omega) (by omega) (by omega)
    · rw [if_neg z, if_neg z, lt_a, nI_1]
      refine ⟨0, Or.inl rfl, rfl, ?_⟩
      rw [f_X10_isSo_11]
      unfold f_X10_isSo_11_b
      rw [ck_k eu hu, rd_k eu, s2, if_pos (show (0 : Int32) = 0 from rfl), ckb_t i0]
      by_cases q : nI t ≤ nI (i + 1)
      · rw [if_pos q]
      · rw [if_neg q]
theorem fits_loop {n u t : Nat} (hu : u < 4) (ht : t ≤ 12) {σ τ : Sg} (h : Sim σ τ) (hv : Vw n (σ 1 2) σ τ) (s1 : σ (10 + u + 48) 1 = nI t) (s2 : τ 6 u = nI t) (s3 : ∀ j, j < t → τ 7 (24 * u + j) = σ (10 + u + 48 + 18) j) : ∀ (d i m m' : Nat) (τk : Sg), i + d = 91 → d < m → d < m' → CL n σ τ (σ 1 2 + nI i) (fun _ => (i : Int)) τk → Ok (f_X9_fits_52 m (nI u) (nI i) σ) (f_X10_fits_40 m' (nI u) (nI i) τk) := by
  have eu : (nI u).toInt = (u : Int) := i_nI (by omega)
  have t90 : (90 : Int32).toInt = 90 := rfl
  intro d
  induction d with
  | zero =>
    intro i m m' τk hi hm hm' inv
    obtain ⟨m, rfl⟩ : ∃ j, m = j + 1 := ⟨m - 1, by omega⟩
    obtain ⟨m', rfl⟩ : ∃ j, m' = j + 1 := ⟨m' - 1, by omega⟩
    obtain rfl : i = 91 := by omega
    obtain ⟨τ', p1, p2⟩ := cl_end inv
    rw [f_X9_fits_52, f_X10_fits_40]
    unfold f_X9_fits_52_b f_X10_fits_40_b f_X10_fits_64
    rw [if_pos (by decide), if_pos (by decide), x_err2, bnd_s, p1, bnd_s, if_neg (by decide), m_err2, bnd_s]
    exact Ok.err (Sim_eq h eqX.rf p2) 2 (by decide)
  | succ d ih =>
    intro i m m' τk hi hm hm' inv
    obtain ⟨m, rfl⟩ : ∃ j, m = j + 1 := ⟨m - 1, by omega⟩
    obtain ⟨m', rfl⟩ : ∃ j, m' = j + 1 := ⟨m' - 1, by omega⟩
    have ei : (nI i).toInt = (i : Int) := i_nI (by omega)
    have n90 : ¬ (90 : Int32) < nI i := by rw [i_lt, ei, t90]; omega
    obtain ⟨T, t1, t2, t3⟩ := cl_taken hv (by omega) inv
    obtain ⟨r, r0, r1, r2⟩ := set_eq (T := T) hu ht (σ := σ) (τ := τk) s1 (by rw [inv.2.1 6 (by decide) (by decide)]; exact s2) (fun j hj => by rw [inv.2.1 7 (by decide) (by decide)]; exact s3 j hj) t 0 fuN fuN (by omega) (by have := fu_le; omega) (by have := fu_le; omega)
    rw [nI_0] at r1 r2
    rw [f_X9_fits_52, f_X10_fits_40]
    unfold f_X9_fits_52_b f_X10_fits_40_b f_X10_isSo f_X9_isSet
    rw [if_neg n90, if_neg n90, ck_k eu hu, tn_k eu, lt_a, t2, bnd_s, r1, bnd_s, t3, bnd_s, r2, bnd_s]
    rcases r0 with z | z
    · obtain ⟨τ1, p1, p2⟩ := cd_eq hv h.1.1.2.2.1 (by omega) inv
      rw [z, if_pos rfl, if_pos rfl, lt_a, nI_1, p1, bnd_s, lt_a]
      exact ih (i + 1) m m' τ1 (by omega) (by omega) (by omega) p2
    · obtain ⟨τ', p1, p2⟩ := cl_end inv
      unfold f_X10_fits_64
      rw [z, if_neg (by decide), if_neg (by decide), p1, bnd_s, if_pos (show nI i ≤ (90 : Int32) by rw [i_le, ei, t90]; omega)]
      exact Ok.mk (Sim_eq h eqX.rf p2)
theorem eq_fits {σ τ : Sg} (h : Sim σ τ) (a : Int32) : Ok (f_X9_fits a σ) (f_X10_fits a τ) := by
  unfold f_X9_fits f_X10_fits
  simp only [x_isIn, x_err1, x_err2, bnd_s, if01, x_isMissing]
  by_cases ha : 0 ≤ a ∧ a ≤ 3
  · rw [if_pos ha]
    obtain ⟨u, hu, rfl⟩ := sh_arg ha
    have eu : (nI u).toInt = (u : Int) := i_nI (by omega)
    obtain ⟨s1, s2, t, s3, s4, s5, s6⟩ := h.2.2.2.2.1 u hu
    have et : (nI t).toInt = (t : Int) := i_nI (by omega)
    rw [m_notThere_t hu, bnd_s, ck_k eu hu, tn_k eu, lt_a, s1]
    by_cases hz : σ (10 + u) 1 = 0
    · rw [if_pos hz, if_pos hz, if_neg (show ¬ (-1000000002 : Int32) = 0 by decide), m_err2, bnd_s]
      exact Ok.err h 2 (by decide)
    · have s4' : σ (10 + u + 48) 1 = nI t := by rw [show 10 + u + 48 = 58 + u by omega]; exact s4
      rw [if_neg hz, if_neg hz, if_pos rfl, ck_k eu hu, lt_a, ck_k eu hu, rd_k eu, s5, s4']
      by_cases ht : t ≤ 12
      · have le : nI t ≤ (12 : Int32) := by rw [i_le, et, ti_12]; omega
        rw [if_pos le, if_pos le]
        obtain ⟨n, hv⟩ := h.vw
        obtain ⟨τ1, p1, p2⟩ := cl_start hv
        have := fits_loop hu ht h hv s4' s5 (fun j hj => by rw [show 10 + u + 48 + 18 = 76 + u by omega]; exact s6 j hj) 91 0 fuN fuN τ1 (by omega) (by have := fu_le; omega) (by have := fu_le; omega) p2
        rw [nI_0] at this
        rw [p1, bnd_s]
        exact this
      · have le : ¬ nI t ≤ (12 : Int32) := by rw [i_le, et, ti_12]; omega
        rw [if_neg le, if_neg le, m_err2, bnd_s]
        exact Ok.err h 2 (by decide)
  · rw [if_neg ha, m_notThere_b ha, bnd_s, if_neg (show ¬ (-1000000001 : Int32) = 0 by decide), m_err1, bnd_s]
    exact Ok.err h 1 (by decide)
