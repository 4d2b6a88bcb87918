theorem Bd1_fr {σ σ' τ τ' : Sg} (h : Bd1 σ τ) (e : ∀ k, (k = 1 ∨ k = 16 ∨ (20 ≤ k ∧ k < 30) ∨ k = 40 ∨ k = 41 ∨ k = 44 ∨ k = 46 ∨ k = 48 ∨ k = 49 ∨ k = 62 ∨ k = 64 ∨ k = 66 ∨ k = 67) → σ' k = σ k) (em : τ' 1 = τ 1) : Bd1 σ' τ' := by
  refine Bd1.of (ln := fun l => σ (20 + l)) (th := fun u => σ (40 + u) 0) (cn := fun u => σ (48 + u) 1) (cs := fun u => σ (66 + u)) ?_ (fun l hl => e _ (by omega)) (fun u hu => by rw [e _ (by omega)]) (fun u hu => by rw [e _ (by omega)]) (fun u hu => e _ (by omega))
  rw [e 1 (by omega), e 16 (by omega), e 44 (by omega), e 62 (by omega), e 46 (by omega), e 64 (by omega), em]
  exact h
theorem Bd2_fr {σ σ' τ τ' : Sg} (h : Bd2 σ τ) (e : ∀ k, (k = 2 ∨ k = 17 ∨ (30 ≤ k ∧ k < 40) ∨ k = 42 ∨ k = 43 ∨ k = 45 ∨ k = 47 ∨ k = 50 ∨ k = 51 ∨ k = 63 ∨ k = 65 ∨ k = 68 ∨ k = 69) → σ' k = σ k) (em : τ' 2 = τ 2) : Bd2 σ' τ' := by
  unfold Bd2
  rw [e 2 (by omega), e 17 (by omega), e 45 (by omega), e 63 (by omega), e 47 (by omega), e 65 (by omega), em]
  exact BdR_congr h (fun l hl => e _ (by omega)) (fun u hu => by rw [e _ (by omega)]) (fun u hu => by rw [e _ (by omega)]) (fun u hu => e _ (by omega))
theorem Sim.sheet {σ τ σ' τ' : Sg} (h : Sim σ τ) {u : Nat} (hu : u < 4) (ex : ∀ k, k ≠ 10 + u → k ≠ 58 + u → k ≠ 76 + u → σ' k = σ k) (em : ∀ k, k ≠ 5 → k ≠ 6 → k ≠ 7 → τ' k = τ k) (new : τ' 5 u = σ' (10 + u) 1 ∧ (σ' (10 + u) 1 = 0 ∨ σ' (10 + u) 1 = 8 ∨ σ' (10 + u) 1 = 16 ∨ σ' (10 + u) 1 = 32) ∧ Sq 24 (σ' (58 + u) 1) (σ' (76 + u)) (τ' 6 u) (fun j => τ' 7 (24 * u + j))) (ot : ∀ v, v < 4 → v ≠ u → τ' 5 v = τ 5 v ∧ τ' 6 v = τ 6 v ∧ ∀ j, j < 24 → τ' 7 (24 * v + j) = τ 7 (24 * v + j)) : Sim σ' τ' := by
  obtain ⟨h1, h2, h3, h4, h5, h6⟩ := h
  refine ⟨Bd1_fr h1 (fun k hk => ex k (by omega) (by omega) (by omega)) (em 1 (by decide) (by decide) (by decide)), ?_, fun hz => Bd2_fr (h3 ?_) (fun k hk => ex k (by omega) (by omega) (by omega)) (em 2 (by decide) (by decide) (by decide)), fun k a b => ?_, fun v hv => ?_, ?_⟩
  · rw [ex 0 (by omega) (by omega) (by omega), em 0 (by decide) (by decide) (by decide)]; exact h2
  · rw [ex 0 (by omega) (by omega) (by omega)] at hz; exact hz
  · rw [ex 8 (by omega) (by omega) (by omega), em 4 (by decide) (by decide) (by decide)]; exact h4 k a b
  · by_cases hvu : v = u
    · subst hvu; exact new
    · obtain ⟨o1, o2, o3⟩ := ot v hv hvu
      obtain ⟨q1, q2, t, q3, q4, q5, q6⟩ := h5 v hv
      rw [ex (10 + v) (by omega) (by omega) (by omega), ex (58 + v) (by omega) (by omega) (by omega), ex (76 + v) (by omega) (by omega) (by omega), o1, o2]
      exact ⟨q1, q2, t, q3, q4, q5, fun j hj => by show τ' 7 _ = _; rw [o3 j (by omega)]; exact q6 j hj⟩
  · unfold Tr
    rw [ex 57 (by omega) (by omega) (by omega), ex 75 (by omega) (by omega) (by omega), em 0 (by decide) (by decide) (by decide), em 13 (by decide) (by decide) (by decide)]
    exact h6
theorem i_sq {u i : Nat} (hu : u < 4) (hi : i ≤ 24) : (((24 : Int32) * nI u) + nI i).toInt = ((24 * u + i : Nat) : Int) := by
  have eu : (nI u).toInt = (u : Int) := i_nI (by omega)
  have ei : (nI i).toInt = (i : Int) := i_nI (by omega)
  have e24 : (24 : Int32).toInt = 24 := rfl
  have h1 : ((24 : Int32) * nI u).toInt = 24 * (u : Int) := by rw [i_mul (by rw [eu, e24]; omega) (by rw [eu, e24]; omega), eu, e24]
  rw [i_add (by rw [h1, ei]; omega) (by rw [h1, ei]; omega), h1, ei]; omega
theorem cap_sh {u : Nat} (hu : u < 4) : capC (((10 + u) + 48) + 18) = 24 := by
  have : u = 0 ∨ u = 1 ∨ u = 2 ∨ u = 3 := by omega
  rcases this with rfl | rfl | rfl | rfl <;> rfl
theorem x_isMissing (o : Nat) (σ : Sg) : f_X7_isMissing o σ = some (if σ o 1 = 0 then 1 else 0, σ) := by
  unfold f_X7_isMissing; split <;> rfl
theorem m_isSheet (a : Int32) (τ : Sg) : f_X10_isSheet a τ = some (if 0 ≤ a ∧ a ≤ 3 then 1 else 0, τ) := by
  unfold f_X10_isSheet; simp only [m_in, bnd_s, lt_a, if01, ckb_01, rd_0, rd_1, rd_2, rd_3, rd_4, rd_5, rd_6, rd_7, rd_8, rd_9, rd_10, rd_11, rd_12, rd_13, rd_14, rd_15, ck_0, ck_1, ck_2, ck_3, ck_4, ck_5, ck_6, ck_7, ck_8, ck_9, ck_10, ck_11, ck_12, ck_13, ck_14, ck_15, tn_0, tn_1, tn_2, tn_3, tn_4, tn_5, tn_6, tn_7, tn_8, tn_9, tn_10, tn_11, tn_12, tn_13, tn_14, tn_15]
theorem m_notThere_b {a : Int32} (h : ¬ (0 ≤ a ∧ a ≤ 3)) (τ : Sg) : f_X10_notThere a τ = some ((-1000000001 : Int32), τ) := by
  unfold f_X10_notThere
  simp only [m_isSheet, bnd_s, lt_a, if01, ckb_01, rd_0, rd_1, rd_2, rd_3, rd_4, rd_5, rd_6, rd_7, rd_8, rd_9, rd_10, rd_11, rd_12, rd_13, rd_14, rd_15, ck_0, ck_1, ck_2, ck_3, ck_4, ck_5, ck_6, ck_7, ck_8, ck_9, ck_10, ck_11, ck_12, ck_13, ck_14, ck_15, tn_0, tn_1, tn_2, tn_3, tn_4, tn_5, tn_6, tn_7, tn_8, tn_9, tn_10, tn_11, tn_12, tn_13, tn_14, tn_15]
  rw [if_neg h]
theorem m_notThere_t {u : Nat} (hu : u < 4) (τ : Sg) : f_X10_notThere (nI u) τ = some (if τ 5 u = 0 then (-1000000002 : Int32) else 0, τ) := by
  have eu : (nI u).toInt = (u : Int) := i_nI (by omega)
  unfold f_X10_notThere
  simp only [m_isSheet, bnd_s, lt_a, if01, ckb_01, rd_0, rd_1, rd_2, rd_3, rd_4, rd_5, rd_6, rd_7, rd_8, rd_9, rd_10, rd_11, rd_12, rd_13, rd_14, rd_15, ck_0, ck_1, ck_2, ck_3, ck_4, ck_5, ck_6, ck_7, ck_8, ck_9, ck_10, ck_11, ck_12, ck_13, ck_14, ck_15, tn_0, tn_1, tn_2, tn_3, tn_4, tn_5, tn_6, tn_7, tn_8, tn_9, tn_10, tn_11, tn_12, tn_13, tn_14, tn_15]
  rw [if_pos (by simp only [i_le, eu, ti_0, ti_1, ti_2, ti_3, ti_4, ti_5, ti_6, ti_7, ti_8, ti_9, ti_10, ti_11, ti_12, ti_13, ti_14, ti_15]; omega), ck_k eu hu, rd_k eu]
  split <;> rfl
theorem sh_arg {a : Int32} (h : 0 ≤ a ∧ a ≤ 3) : ∃ u : Nat, u < 4 ∧ a = nI u := by
  simp only [i_le, ti_0, ti_1, ti_2, ti_3, ti_4, ti_5, ti_6, ti_7, ti_8, ti_9, ti_10, ti_11, ti_12, ti_13, ti_14, ti_15] at h
  exact nI_ofi (n := 4) h.1 (by omega)
theorem eq_put {σ τ : Sg} (h : Sim σ τ) (a b c : Int32) : Ok (f_X9_put a b c σ) (f_X10_put a b c τ) := by
  unfold f_X9_put f_X10_put
  simp only [x_isIn, x_isMissing, x_err1, x_err2, bnd_s, lt_a, if01, ckb_01, rd_0, rd_1, rd_2, rd_3, rd_4, rd_5, rd_6, rd_7, rd_8, rd_9, rd_10, rd_11, rd_12, rd_13, rd_14, rd_15, ck_0, ck_1, ck_2, ck_3, ck_4, ck_5, ck_6, ck_7, ck_8, ck_9, ck_10, ck_11, ck_12, ck_13, ck_14, ck_15, tn_0, tn_1, tn_2, tn_3, tn_4, tn_5, tn_6, tn_7, tn_8, tn_9, tn_10, tn_11, tn_12, tn_13, tn_14, tn_15]
  by_cases ha : 0 ≤ a ∧ a ≤ 3
  · rw [if_pos ha]
    obtain ⟨u, hu, rfl⟩ := sh_arg ha
    have eu : (nI u).toInt = (u : Int) := i_nI (by omega)
    obtain ⟨s1, s2, t, s3, s4, s5, s6⟩ := h.2.2.2.2.1 u hu
    rw [m_notThere_t hu, ck_k eu hu, tn_k eu, s1]
    simp only [bnd_s, lt_a, if01, ckb_01, rd_0, rd_1, rd_2, rd_3, rd_4, rd_5, rd_6, rd_7, rd_8, rd_9, rd_10, rd_11, rd_12, rd_13, rd_14, rd_15, ck_0, ck_1, ck_2, ck_3, ck_4, ck_5, ck_6, ck_7, ck_8, ck_9, ck_10, ck_11, ck_12, ck_13, ck_14, ck_15, tn_0, tn_1, tn_2, tn_3, tn_4, tn_5, tn_6, tn_7, tn_8, tn_9, tn_10, tn_11, tn_12, tn_13, tn_14, tn_15]
    by_cases hz : σ (10 + u) 1 = 0
    · rw [if_pos hz, if_pos hz, if_neg (by decide)]
      simp only [f_X10_put_35, m_err2, bnd_s, lt_a, if01, ckb_01, rd_0, rd_1, rd_2, rd_3, rd_4, rd_5, rd_6, rd_7, rd_8, rd_9, rd_10, rd_11, rd_12, rd_13, rd_14, rd_15, ck_0, ck_1, ck_2, ck_3, ck_4, ck_5, ck_6, ck_7, ck_8, ck_9, ck_10, ck_11, ck_12, ck_13, ck_14, ck_15, tn_0, tn_1, tn_2, tn_3, tn_4, tn_5, tn_6, tn_7, tn_8, tn_9, tn_10, tn_11, tn_12, tn_13, tn_14, tn_15]
      rw [if_neg (by decide)]
      exact Ok.err h 2 (by decide)
    · rw [if_neg hz, if_neg hz, if_pos rfl]
      simp only [ck_k eu hu, tn_k eu, rd_k eu, m_in, bnd_s, lt_a, if01, ckb_01, rd_0, rd_1, rd_2, rd_3, rd_4, rd_5, rd_6, rd_7, rd_8, rd_9, rd_10, rd_11, rd_12, rd_13, rd_14, rd_15, ck_0, ck_1, ck_2, ck_3, ck_4, ck_5, ck_6, ck_7, ck_8, ck_9, ck_10, ck_11, ck_12, ck_13, ck_14, ck_15, tn_0, tn_1, tn_2, tn_3, tn_4, tn_5, tn_6, tn_7, tn_8, tn_9, tn_10, tn_11, tn_12, tn_13, tn_14, tn_15]
      rw [s5, show 10 + u + 48 = 58 + u by omega, s4]
      by_cases hb : 0 ≤ b ∧ b ≤ nI t - 1
      · rw [if_pos hb, if_pos hb]
        have et : (nI t).toInt = (t : Int) := i_nI (by omega)
        have e3 : (nI t - (1 : Int32)).toInt = (t : Int) - 1 := by rw [i_sub (by rw [et, ti_1]; omega) (by rw [et, ti_1]; omega), et, ti_1]
        simp only [i_le, ti_0, ti_1, ti_2, ti_3, ti_4, ti_5, ti_6, ti_7, ti_8, ti_9, ti_10, ti_11, ti_12, ti_13, ti_14, ti_15, e3] at hb
        obtain ⟨i, hi, rfl⟩ := nI_ofi (a := b) (n := t) (by omega) (by omega)
        have ei : (nI i).toInt = (i : Int) := i_nI (by omega)
        have e24 := i_sq hu (show i ≤ 24 by omega)
        have fin : ∀ z : Int32, Sim (up σ (58 + u + 18) i z) (up τ 7 (24 * u + i) z) := by
          intro z
          refine h.sheet hu (fun k h1 h2 h3 => up_row (by omega)) (fun k h1 h2 h3 => up_row h3) ?_ (fun v hv hvu => ?_)
          · have n1 : up τ 7 (24 * u + i) z 5 = τ 5 := up_row (by decide)
            have n2 : up τ 7 (24 * u + i) z 6 = τ 6 := up_row (by decide)
            have n3 : up σ (58 + u + 18) i z (10 + u) = σ (10 + u) := up_row (by omega)
            have n4 : up σ (58 + u + 18) i z (58 + u) = σ (58 + u) := up_row (by omega)
            rw [n1, n2, n3, n4]
            refine ⟨s1, s2, t, s3, s4, s5, fun j hj => ?_⟩
            show up τ 7 (24 * u + i) z 7 (24 * u + j) = _
            rw [show 76 + u = 58 + u + 18 by omega]
            by_cases hji : j = i
            · subst hji; rw [up_s, up_s]
            · rw [up_i (by omega), up_i hji, show 58 + u + 18 = 76 + u by omega]; exact s6 j hj
          · exact ⟨congrFun (up_row (by decide)) v, congrFun (up_row (by decide)) v, fun j hj => up_i (by omega)⟩
        have hc : capC (58 + u + 18) = 24 := by rw [← cap_sh hu]; congr 1; omega
        simp only [f_X10_put_35, f_X7_lowestBits, bnd_s, lt_a, if01, ckb_01, rd_0, rd_1, rd_2, rd_3, rd_4, rd_5, rd_6, rd_7, rd_8, rd_9, rd_10, rd_11, rd_12, rd_13, rd_14, rd_15, ck_0, ck_1, ck_2, ck_3, ck_4, ck_5, ck_6, ck_7, ck_8, ck_9, ck_10, ck_11, ck_12, ck_13, ck_14, ck_15, tn_0, tn_1, tn_2, tn_3, tn_4, tn_5, tn_6, tn_7, tn_8, tn_9, tn_10, tn_11, tn_12, tn_13, tn_14, tn_15]
        rw [if_pos trivial]
        simp only [ck_k eu hu, rd_k eu, s1, bnd_s, lt_a, if01, ckb_01, rd_0, rd_1, rd_2, rd_3, rd_4, rd_5, rd_6, rd_7, rd_8, rd_9, rd_10, rd_11, rd_12, rd_13, rd_14, rd_15, ck_0, ck_1, ck_2, ck_3, ck_4, ck_5, ck_6, ck_7, ck_8, ck_9, ck_10, ck_11, ck_12, ck_13, ck_14, ck_15, tn_0, tn_1, tn_2, tn_3, tn_4, tn_5, tn_6, tn_7, tn_8, tn_9, tn_10, tn_11, tn_12, tn_13, tn_14, tn_15]
        simp only [ck_k e24 (show 24 * u + i < 96 by omega), tn_k e24, tn_k ei, bnd_s, lt_a, if01, ckb_01, rd_0, rd_1, rd_2, rd_3, rd_4, rd_5, rd_6, rd_7, rd_8, rd_9, rd_10, rd_11, rd_12, rd_13, rd_14, rd_15, ck_0, ck_1, ck_2, ck_3, ck_4, ck_5, ck_6, ck_7, ck_8, ck_9, ck_10, ck_11, ck_12, ck_13, ck_14, ck_15, tn_0, tn_1, tn_2, tn_3, tn_4, tn_5, tn_6, tn_7, tn_8, tn_9, tn_10, tn_11, tn_12, tn_13, tn_14, tn_15]
        split
        · simp only [bnd_s, hc, ck_k ei (show i < 24 by omega)]; exact Ok.mk (fin _)
        · split
          · simp only [bnd_s, hc, ck_k ei (show i < 24 by omega)]; exact Ok.mk (fin _)
          · simp only [bnd_s, hc, ck_k ei (show i < 24 by omega)]; exact Ok.mk (fin _)
      · rw [if_neg hb, if_neg hb]
        simp only [f_X10_put_35, m_err1, bnd_s, lt_a, if01, ckb_01, rd_0, rd_1, rd_2, rd_3, rd_4, rd_5, rd_6, rd_7, rd_8, rd_9, rd_10, rd_11, rd_12, rd_13, rd_14, rd_15, ck_0, ck_1, ck_2, ck_3, ck_4, ck_5, ck_6, ck_7, ck_8, ck_9, ck_10, ck_11, ck_12, ck_13, ck_14, ck_15, tn_0, tn_1, tn_2, tn_3, tn_4, tn_5, tn_6, tn_7, tn_8, tn_9, tn_10, tn_11, tn_12, tn_13, tn_14, tn_15]
        rw [if_neg (by decide)]
        exact Ok.err h 1 (by decide)
  · rw [if_neg ha, m_notThere_b ha]
    simp only [f_X10_put_35, m_err1, bnd_s, lt_a, if01, ckb_01, rd_0, rd_1, rd_2, rd_3, rd_4, rd_5, rd_6, rd_7, rd_8, rd_9, rd_10, rd_11, rd_12, rd_13, rd_14, rd_15, ck_0, ck_1, ck_2, ck_3, ck_4, ck_5, ck_6, ck_7, ck_8, ck_9, ck_10, ck_11, ck_12, ck_13, ck_14, ck_15, tn_0, tn_1, tn_2, tn_3, tn_4, tn_5, tn_6, tn_7, tn_8, tn_9, tn_10, tn_11, tn_12, tn_13, tn_14, tn_15]
    rw [if_neg (by decide), if_neg (by decide)]
    exact Ok.err h 1 (by decide)
