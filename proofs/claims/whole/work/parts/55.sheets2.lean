theorem judge_loop {u t n : Nat} (hu : u < 4) (ht : t ≤ 24) {σ τ : Sg} (hv : Vw n (σ 1 2) σ τ) (s1 : σ (10 + u + 48) 1 = nI t) (s2 : τ 6 u = nI t) (s3 : ∀ j, j < t → τ 7 (24 * u + j) = σ (10 + u + 48 + 18) j) : ∀ (d i m m' : Nat), i + d = t → d < m → d < m' → ∃ r, f_X9_judge_45 m (10 + u + 48) (nI i) σ = some (r, σ) ∧ f_X10_judge_18 m' (nI u) (nI i) τ = some (r, τ) := by
  have n10 := hv.1
  have e1 := hv.2.1
  have e2 := hv.2.2.1
  have eu : (nI u).toInt = (u : Int) := i_nI (by omega)
  intro d
  induction d with
  | zero =>
    intro i m m' hi hm hm'
    obtain ⟨m, rfl⟩ : ∃ j, m = j + 1 := ⟨m - 1, by omega⟩
    obtain ⟨m', rfl⟩ : ∃ j, m' = j + 1 := ⟨m' - 1, by omega⟩
    obtain rfl : i = t := by omega
    refine ⟨nI i, ?_, ?_⟩
    · rw [f_X9_judge_45]
      unfold f_X9_judge_45_b
      rw [s1, if_pos (nI_le (Nat.le_refl _) (by omega))]
    · rw [f_X10_judge_18]
      unfold f_X10_judge_18_b
      rw [ck_k eu hu, rd_k eu, s2, if_pos (nI_le (Nat.le_refl _) (by omega))]
  | succ d ih =>
    intro i m m' hi hm hm'
    obtain ⟨m, rfl⟩ : ∃ j, m = j + 1 := ⟨m - 1, by omega⟩
    obtain ⟨m', rfl⟩ : ∃ j, m' = j + 1 := ⟨m' - 1, by omega⟩
    have ei : (nI i).toInt = (i : Int) := i_nI (by omega)
    have nle := nI_ge (show i < t by omega) (show t < 2 ^ 31 by omega)
    have e24 := i_sq hu (show i ≤ 24 by omega)
    have hc : capC (10 + u + 48 + 18) = 24 := cap_sh hu
    rw [f_X9_judge_45, f_X10_judge_18]
    unfold f_X9_judge_45_b f_X10_judge_18_b
    rw [s1, if_neg nle, x_hasLine e1, bnd_s, ck_k eu hu, rd_k eu, s2, if_neg nle, ck_2, rd_2, e2, if01]
    by_cases hl : i < n
    · have c1 : 0 ≤ nI i ∧ nI i < nI n := ⟨by rw [i_le, ei, ti_0]; omega, nI_lt hl (by omega)⟩
      obtain ⟨v, v1, v2, _⟩ := back_eq hv hl
      rw [if_pos c1, if_neg (nI_ge hl (by omega)), hc, ck_k ei (by omega), ck_k ei (by omega), tn_k ei, lt_a, v1, bnd_s, rd_k ei, ck_k e24 (by omega), v2, bnd_s, rd_k e24, s3 i (by omega)]
      by_cases z : σ (10 + u + 48 + 18) i = v
      · rw [if_pos z, if_pos z, lt_a, lt_a, nI_1]
        exact ih (i + 1) m m' (by omega) (by omega) (by omega)
      · rw [if_neg z, if_neg z]
        exact ⟨_, rfl, rfl⟩
    · have c1 : ¬ (0 ≤ nI i ∧ nI i < nI n) := fun e => hl ((nI_ltI (by omega) (by omega)).mp e.2)
      rw [if_neg c1, if_pos (nI_le (by omega) (by omega))]
      exact ⟨_, rfl, rfl⟩
theorem eq_judge {σ τ : Sg} (h : Sim σ τ) (a : Int32) : Ok (f_X9_judge a σ) (f_X10_judge a τ) := by
  unfold f_X9_judge f_X10_judge
  simp only [x_isIn, x_err1, x_err2, bnd_s, if01, x_isMissing]
  by_cases ha : 0 ≤ a ∧ a ≤ 3
  · rw [if_pos ha]
    obtain ⟨u, hu, rfl⟩ := sh_arg ha
    have eu : (nI u).toInt = (u : Int) := i_nI (by omega)
    obtain ⟨s1, s2, t, s3, s4, s5, s6⟩ := h.2.2.2.2.1 u hu
    rw [m_notThere_t hu, bnd_s, ck_k eu hu, tn_k eu, lt_a, s1]
    by_cases hz : σ (10 + u) 1 = 0
    · rw [if_pos hz, if_pos hz, if_neg (show ¬ (-1000000002 : Int32) = 0 by decide), m_err2, bnd_s]
      exact Ok.err h 2 (by decide)
    · rw [if_neg hz, if_neg hz, if_pos rfl, ck_k eu hu, lt_a]
      obtain ⟨n, hv⟩ := h.vw
      obtain ⟨r, r1, r2⟩ := judge_loop hu s3 hv (by rw [show 10 + u + 48 = 58 + u by omega]; exact s4) s5 (fun j hj => by rw [show 10 + u + 48 + 18 = 76 + u by omega]; exact s6 j hj) t 0 fuN fuN (by omega) (by have := fu_le; omega) (by have := fu_le; omega)
      rw [nI_0] at r1 r2
      rw [r1, r2]
      exact Ok.mk h
  · rw [if_neg ha, m_notThere_b ha, bnd_s, if_neg (show ¬ (-1000000001 : Int32) = 0 by decide), m_err1, bnd_s]
    exact Ok.err h 1 (by decide)
theorem dates_loop {u t : Nat} (hu : u < 4) (ht : t ≤ 24) : ∀ (d i m m' : Nat) (σ τ : Sg), i + d = t → d < m → d < m' → Sim σ τ → σ (10 + u + 48) 1 = nI t → τ 6 u = nI t → (∀ j, j < t → τ 7 (24 * u + j) = σ (10 + u + 48 + 18) j) → Ok (f_X9_dates_45 m (10 + u + 48) (nI i) σ) (f_X10_dates_18 m' (nI u) (nI i) τ) := by
  have eu : (nI u).toInt = (u : Int) := i_nI (by omega)
  intro d
  induction d with
  | zero =>
    intro i m m' σ τ hi hm hm' h s1 s2 s3
    obtain ⟨m, rfl⟩ : ∃ j, m = j + 1 := ⟨m - 1, by omega⟩
    obtain ⟨m', rfl⟩ : ∃ j, m' = j + 1 := ⟨m' - 1, by omega⟩
    obtain rfl : i = t := by omega
    rw [f_X9_dates_45, f_X10_dates_18]
    unfold f_X9_dates_45_b f_X10_dates_18_b
    rw [s1, if_pos (nI_le (Nat.le_refl _) (by omega)), ck_k eu hu, rd_k eu, s2, if_pos (nI_le (Nat.le_refl _) (by omega))]
    exact Ok.mk h
  | succ d ih =>
    intro i m m' σ τ hi hm hm' h s1 s2 s3
    obtain ⟨n, hv⟩ := h.vw
    have n10 := hv.1
    have e1 := hv.2.1
    have e2 := hv.2.2.1
    have d0 : τ 1 0 = σ 1 2 := h.1.1.1
    obtain ⟨m, rfl⟩ : ∃ j, m = j + 1 := ⟨m - 1, by omega⟩
    obtain ⟨m', rfl⟩ : ∃ j, m' = j + 1 := ⟨m' - 1, by omega⟩
    have ei : (nI i).toInt = (i : Int) := i_nI (by omega)
    have nle := nI_ge (show i < t by omega) (show t < 2 ^ 31 by omega)
    have e24 := i_sq hu (show i ≤ 24 by omega)
    have hc : capC (10 + u + 48 + 18) = 24 := cap_sh hu
    rw [f_X9_dates_45, f_X10_dates_18]
    unfold f_X9_dates_45_b f_X10_dates_18_b
    rw [s1, if_neg nle, x_hasLine e1, bnd_s, ck_k eu hu, rd_k eu, s2, if_neg nle, ck_2, rd_2, e2, if01]
    by_cases hl : i < n
    · have c1 : 0 ≤ nI i ∧ nI i < nI n := ⟨by rw [i_le, ei, ti_0]; omega, nI_lt hl (by omega)⟩
      rw [if_pos c1, if_neg (nI_ge hl (by omega)), hc, ck_k ei (by omega), ck_k e24 (by omega), ck_0, rd_0, d0, rd_k ei, rd_k e24, s3 i (by omega), x_isIn, m_in, bnd_s, bnd_s, if01, if01]
      generalize hz : σ (10 + u + 48 + 18) i = z
      by_cases c2 : 0 ≤ z ∧ z ≤ σ 1 2
      · rw [if_pos c2, if_pos c2, ck_k ei (by omega), tn_k ei, lt_a, ck_k ei (by omega), lt_a, lt_a, ck_k e24 (by omega), m_lets 4 (by omega) rfl (by decide), bnd_s, lt_a, nI_1, rd_k ei, rd_k e24, s3 i (by omega), hz]
        rw [i_le, i_le, ti_0] at c2
        refine ih (i + 1) m m' _ _ (by omega) (by omega) (by omega) ?_ (by rw [up_k (by omega)]; exact s1) (by rw [up_k (by decide)]; exact s2) (fun j hj => by rw [up_k (by decide), up_k (by omega)]; exact s3 j hj)
        refine h.line e1 n10 hl (fun k hk => up_row hk) eqM1.up (fun j hj => up_i (by omega)) ?_ ?_ (fun f hf => ?_)
        · obtain ⟨q1, q2, q3, q4, q5, q6⟩ := (hv.2.2.2.2.2.2.1 i hl).1
          unfold LnOK
          simp (disch := decide) only [up_i, up_s]
          exact ⟨q1, q2, q3, q4, c2, q6⟩
        · rw [up_i (by decide)]; exact hv.2.2.2.2.2.2.2.1 i (by omega)
        · by_cases hf4 : f = 4
          · subst hf4; rw [up_s, up_s]
          · rw [up_i (by omega), up_i hf4]; exact (hv.2.2.2.2.2.2.1 i hl).2 f hf
      · rw [if_neg c2, if_neg c2]
        exact Ok.mk h
    · have c1 : ¬ (0 ≤ nI i ∧ nI i < nI n) := fun e => hl ((nI_ltI (by omega) (by omega)).mp e.2)
      rw [if_neg c1, if_pos (nI_le (by omega) (by omega))]
      exact Ok.mk h
theorem eq_dates {σ τ : Sg} (h : Sim σ τ) (a : Int32) : Ok (f_X9_dates a σ) (f_X10_dates a τ) := by
  unfold f_X9_dates f_X10_dates
  simp only [x_isIn, x_err1, x_err2, bnd_s, if01, x_isMissing]
  by_cases ha : 0 ≤ a ∧ a ≤ 3
  · rw [if_pos ha]
    obtain ⟨u, hu, rfl⟩ := sh_arg ha
    have eu : (nI u).toInt = (u : Int) := i_nI (by omega)
    obtain ⟨s1, s2, t, s3, s4, s5, s6⟩ := h.2.2.2.2.1 u hu
    rw [m_notThere_t hu, bnd_s, ck_k eu hu, tn_k eu, lt_a, s1]
    by_cases hz : σ (10 + u) 1 = 0
    · rw [if_pos hz, if_pos hz, if_neg (show ¬ (-1000000002 : Int32) = 0 by decide), m_err2, bnd_s]
      exact Ok.err h 2 (by decide)
    · rw [if_neg hz, if_neg hz, if_pos rfl, ck_k eu hu, lt_a]
      have := dates_loop hu s3 t 0 fuN fuN σ τ (by omega) (by have := fu_le; omega) (by have := fu_le; omega) h (by rw [show 10 + u + 48 = 58 + u by omega]; exact s4) s5 (fun j hj => by rw [show 10 + u + 48 + 18 = 76 + u by omega]; exact s6 j hj)
      rwa [nI_0] at this
  · rw [if_neg ha, m_notThere_b ha, bnd_s, if_neg (show ¬ (-1000000001 : Int32) = 0 by decide), m_err1, bnd_s]
    exact Ok.err h 1 (by decide)
/-! bytes -/
theorem am_s : ∀ i, i < 8 → (((8 : Int32) * nI i).toInt64 &&& 63).toBitVec.smod 64 = BitVec.ofNat 64 (8 * i) := by decide +kernel
theorem am_u : ∀ i, i < 8 → ((((8 : Int32) * nI i).toInt64.toUInt64 &&& Int64.toUInt64 63).toBitVec % 64).toNat = 8 * i := by decide +kernel
theorem b255 : ∀ l, l < 32 → (255 : Int32).toBitVec.getLsbD l = decide (l < 8) ∧ (255 : Int64).toBitVec.getLsbD l = decide (l < 8) := by decide +kernel
theorem byte_eq (x : Int64) {i : Nat} (hi : i < 8) : ((lus x ((8 : Int32) * nI i)).toInt32 &&& (255 : Int32)) = ((lsr x ((8 : Int32) * nI i)) &&& (255 : Int64)).toInt32 := by
  refine bt_ext fun l hl => ?_
  have q := b255 l hl
  have e1 : bt (lus x ((8 : Int32) * nI i)).toInt32 l = x.toBitVec.getLsbD (8 * i + l) := by
    unfold bt lus
    rw [Int64.toBitVec_toInt32, BitVec.signExtend_eq_setWidth_of_le _ (by decide), BitVec.getLsbD_setWidth]
    show (decide (l < 32) && (x.toUInt64 >>> (((8 : Int32) * nI i).toInt64.toUInt64 &&& Int64.toUInt64 63)).toBitVec.getLsbD l) = _
    rw [UInt64.toBitVec_shiftRight, BitVec.ushiftRight_eq', BitVec.getLsbD_ushiftRight, am_u i hi]
    simp [hl]
  have e2 : bt ((lsr x ((8 : Int32) * nI i)) &&& (255 : Int64)).toInt32 l = (x.toBitVec.getLsbD (8 * i + l) && decide (l < 8)) := by
    unfold bt lsr
    rw [Int64.toBitVec_toInt32, BitVec.signExtend_eq_setWidth_of_le _ (by decide), BitVec.getLsbD_setWidth, Int64.toBitVec_and, BitVec.getLsbD_and, q.2, Int64.toBitVec_shiftRight, am_s i hi, BitVec.getLsbD_sshiftRight']
    by_cases h8 : l < 8
    · have : (BitVec.ofNat 64 (8 * i)).toNat = 8 * i := by rw [BitVec.toNat_ofNat]; omega
      rw [this, if_pos (by omega)]
      simp [hl, h8]
      intro; omega
    · simp [h8]
  rw [bt_and, e1, e2]
  show (_ && (255 : Int32).toBitVec.getLsbD l) = _
  rw [q.1]
