theorem x_stands {o : Nat} {t : Nat} (ht : t ≤ 24) {σ : Sg} (e : σ o 1 = nI t) (a b : Int32) : f_X6_stands o a b σ = some (if 0 ≤ a.toInt ∧ 0 ≤ b.toInt ∧ a.toInt + b.toInt ≤ (t : Int) then 1 else 0, σ) := by
  have et : (nI t).toInt = (t : Int) := i_nI (by omega)
  have ha := i_lo a; have hb := i_lo b; have ha' := i_hi a; have hb' := i_hi b
  unfold f_X6_stands
  rw [e]
  simp only [i_le, i_lt, ti_0, ti_1, ti_2, ti_3, ti_4, ti_5, ti_6, ti_7, ti_8, ti_9, ti_10, ti_11, ti_12, ti_13, ti_14, ti_15, et]
  by_cases h1 : a.toInt < 0
  · rw [if_pos h1, if_neg (by omega)]
  · rw [if_neg h1]
    by_cases h2 : b.toInt < 0
    · rw [if_pos h2, if_neg (by omega)]
    · rw [if_neg h2]
      by_cases h3 : (t : Int) < b.toInt
      · rw [if_pos h3, if_neg (by omega)]
      · rw [if_neg h3, i_sub (by rw [et]; omega) (by rw [et]; omega), et]
        by_cases h4 : (t : Int) - b.toInt < a.toInt
        · rw [if_pos h4, if_neg (by omega)]
        · rw [if_neg h4, if_pos (by omega)]
theorem m_notMoved {u w t t' : Nat} (hu : u < 4) (hw : w < 4) (ht : t ≤ 24) (ht' : t' ≤ 24) {τ : Sg} (e6 : τ 6 u = nI t) (e6' : τ 6 w = nI t') (a2 a4 a5 : Int32) : f_X10_notMoved (nI u) a2 (nI w) a4 a5 τ = some (if τ 5 u = 0 then (-1000000002 : Int32) else if τ 5 w = 0 then (-1000000002 : Int32) else if τ 5 u = τ 5 w then (if (0 ≤ a2.toInt ∧ 0 ≤ a5.toInt ∧ a2.toInt + a5.toInt ≤ (t : Int)) ∧ (0 ≤ a4.toInt ∧ 0 ≤ a5.toInt ∧ a4.toInt + a5.toInt ≤ (t' : Int)) then 0 else (-1000000001 : Int32)) else (-1000000005 : Int32), τ) := by
  have eu : (nI u).toInt = (u : Int) := i_nI (by omega)
  have ew : (nI w).toInt = (w : Int) := i_nI (by omega)
  have et : (nI t).toInt = (t : Int) := i_nI (by omega)
  have et' : (nI t').toInt = (t' : Int) := i_nI (by omega)
  have h2 := i_lo a2; have h4 := i_lo a4; have h5 := i_lo a5; have h2' := i_hi a2; have h4' := i_hi a4; have h5' := i_hi a5
  have su : 0 ≤ nI u ∧ nI u ≤ 3 := by simp only [i_le, eu, ti_0, ti_1, ti_2, ti_3, ti_4, ti_5, ti_6, ti_7, ti_8, ti_9, ti_10, ti_11, ti_12, ti_13, ti_14, ti_15]; omega
  have sw : 0 ≤ nI w ∧ nI w ≤ 3 := by simp only [i_le, ew, ti_0, ti_1, ti_2, ti_3, ti_4, ti_5, ti_6, ti_7, ti_8, ti_9, ti_10, ti_11, ti_12, ti_13, ti_14, ti_15]; omega
  unfold f_X10_notMoved
  simp only [m_isSheet, bnd_s, lt_a, if01, ckb_01, rd_0, rd_1, rd_2, rd_3, rd_4, rd_5, rd_6, rd_7, rd_8, rd_9, rd_10, rd_11, rd_12, rd_13, rd_14, rd_15, ck_0, ck_1, ck_2, ck_3, ck_4, ck_5, ck_6, ck_7, ck_8, ck_9, ck_10, ck_11, ck_12, ck_13, ck_14, ck_15, tn_0, tn_1, tn_2, tn_3, tn_4, tn_5, tn_6, tn_7, tn_8, tn_9, tn_10, tn_11, tn_12, tn_13, tn_14, tn_15]
  rw [if_pos su, if_pos sw]
  simp only [ck_k eu hu, ck_k ew hw, rd_k eu, rd_k ew, e6, e6', bnd_s, lt_a, if01, ckb_01, rd_0, rd_1, rd_2, rd_3, rd_4, rd_5, rd_6, rd_7, rd_8, rd_9, rd_10, rd_11, rd_12, rd_13, rd_14, rd_15, ck_0, ck_1, ck_2, ck_3, ck_4, ck_5, ck_6, ck_7, ck_8, ck_9, ck_10, ck_11, ck_12, ck_13, ck_14, ck_15, tn_0, tn_1, tn_2, tn_3, tn_4, tn_5, tn_6, tn_7, tn_8, tn_9, tn_10, tn_11, tn_12, tn_13, tn_14, tn_15]
  by_cases z1 : τ 5 u = 0
  · rw [if_pos z1, if_pos z1]
  · rw [if_neg z1, if_neg z1]
    by_cases z2 : τ 5 w = 0
    · rw [if_pos z2, if_pos z2]
    · rw [if_neg z2, if_neg z2]
      by_cases z3 : τ 5 u = τ 5 w
      · rw [if_pos z3, if_pos z3]
        simp only [i_lt, ti_0, ti_1, ti_2, ti_3, ti_4, ti_5, ti_6, ti_7, ti_8, ti_9, ti_10, ti_11, ti_12, ti_13, ti_14, ti_15]
        by_cases c1 : a5.toInt < 0
        · rw [if_pos c1]; first | rw [if_pos trivial, if_neg (by omega)] | rw [if_pos rfl, if_neg (by omega)]
        · rw [if_neg c1]
          by_cases c2 : a2.toInt < 0
          · rw [if_pos c2]; first | rw [if_pos trivial, if_neg (by omega)] | rw [if_pos rfl, if_neg (by omega)]
          · rw [if_neg c2]
            by_cases c3 : a4.toInt < 0
            · rw [if_pos c3]; first | rw [if_pos trivial, if_neg (by omega)] | rw [if_pos rfl, if_neg (by omega)]
            · rw [if_neg c3, i_sub (by rw [et]; omega) (by rw [et]; omega), et, i_sub (by rw [et']; omega) (by rw [et']; omega), et']
              by_cases c4 : (t : Int) - a2.toInt < a5.toInt
              · rw [if_pos c4]; first | rw [if_pos trivial, if_neg (by omega)] | rw [if_pos rfl, if_neg (by omega)]
              · rw [if_neg c4]
                by_cases c5 : (t' : Int) - a4.toInt < a5.toInt
                · rw [if_pos c5]; first | rw [if_pos trivial, if_neg (by omega)] | rw [if_pos rfl, if_neg (by omega)]
                · rw [if_neg c5]; first | rw [if_neg not_false, if_pos (by omega)] | rw [if_neg (by decide), if_pos (by omega)]
      · rw [if_neg z3, if_neg z3]
theorem eq_move {σ τ : Sg} (h : Sim σ τ) (a1 a2 a3 a4 a5 : Int32) : Ok (f_X9_move a1 a2 a3 a4 a5 σ) (f_X10_move a1 a2 a3 a4 a5 τ) := by
  unfold f_X9_move f_X10_move
  simp only [x_isIn, x_err1, x_err2, x_err5, x_isMissing, bnd_s, lt_a, if01, ckb_01, rd_0, rd_1, rd_2, rd_3, rd_4, rd_5, rd_6, rd_7, rd_8, rd_9, rd_10, rd_11, rd_12, rd_13, rd_14, rd_15, ck_0, ck_1, ck_2, ck_3, ck_4, ck_5, ck_6, ck_7, ck_8, ck_9, ck_10, ck_11, ck_12, ck_13, ck_14, ck_15, tn_0, tn_1, tn_2, tn_3, tn_4, tn_5, tn_6, tn_7, tn_8, tn_9, tn_10, tn_11, tn_12, tn_13, tn_14, tn_15]
  by_cases ha : 0 ≤ a1 ∧ a1 ≤ 3
  · rw [if_pos ha]
    by_cases hb : 0 ≤ a3 ∧ a3 ≤ 3
    · rw [if_pos hb]
      obtain ⟨u, hu, rfl⟩ := sh_arg ha
      obtain ⟨w, hw, rfl⟩ := sh_arg hb
      have eu : (nI u).toInt = (u : Int) := i_nI (by omega)
      have ew : (nI w).toInt = (w : Int) := i_nI (by omega)
      obtain ⟨s1, s2, t, s3, s4, s5, s6⟩ := h.2.2.2.2.1 u hu
      obtain ⟨r1, r2, t', r3, r4, r5, r6⟩ := h.2.2.2.2.1 w hw
      rw [m_notMoved hu hw s3 r3 s5 r5, s1, r1]
      simp only [ck_k eu hu, ck_k ew hw, tn_k eu, tn_k ew, bnd_s, lt_a, if01, ckb_01, rd_0, rd_1, rd_2, rd_3, rd_4, rd_5, rd_6, rd_7, rd_8, rd_9, rd_10, rd_11, rd_12, rd_13, rd_14, rd_15, ck_0, ck_1, ck_2, ck_3, ck_4, ck_5, ck_6, ck_7, ck_8, ck_9, ck_10, ck_11, ck_12, ck_13, ck_14, ck_15, tn_0, tn_1, tn_2, tn_3, tn_4, tn_5, tn_6, tn_7, tn_8, tn_9, tn_10, tn_11, tn_12, tn_13, tn_14, tn_15]
      by_cases z1 : σ (10 + u) 1 = 0
      · rw [if_pos z1, if_pos z1, if_neg (by decide), m_err2]
        exact Ok.err h 2 (by decide)
      · rw [if_neg z1, if_neg z1]
        by_cases z2 : σ (10 + w) 1 = 0
        · rw [if_pos z2, if_pos z2, if_neg (by decide), m_err2]
          exact Ok.err h 2 (by decide)
        · rw [if_neg z2, if_neg z2]
          by_cases z3 : σ (10 + u) 1 = σ (10 + w) 1
          · rw [if_pos z3, if_pos z3, show 10 + u + 48 = 58 + u by omega, show 10 + w + 48 = 58 + w by omega, x_stands s3 s4]
            simp only [bnd_s, x_stands r3 r4, if01, bnd_s, lt_a, if01, ckb_01, rd_0, rd_1, rd_2, rd_3, rd_4, rd_5, rd_6, rd_7, rd_8, rd_9, rd_10, rd_11, rd_12, rd_13, rd_14, rd_15, ck_0, ck_1, ck_2, ck_3, ck_4, ck_5, ck_6, ck_7, ck_8, ck_9, ck_10, ck_11, ck_12, ck_13, ck_14, ck_15, tn_0, tn_1, tn_2, tn_3, tn_4, tn_5, tn_6, tn_7, tn_8, tn_9, tn_10, tn_11, tn_12, tn_13, tn_14, tn_15]
            by_cases c1 : 0 ≤ a2.toInt ∧ 0 ≤ a5.toInt ∧ a2.toInt + a5.toInt ≤ (t : Int)
            · rw [if_pos c1]
              by_cases c2 : 0 ≤ a4.toInt ∧ 0 ≤ a5.toInt ∧ a4.toInt + a5.toInt ≤ (t' : Int)
              · rw [if_pos c2, if_pos (show (0 ≤ a2.toInt ∧ 0 ≤ a5.toInt ∧ a2.toInt + a5.toInt ≤ (t : Int)) ∧ (0 ≤ a4.toInt ∧ 0 ≤ a5.toInt ∧ a4.toInt + a5.toInt ≤ (t' : Int)) from ⟨c1, c2⟩), if_pos rfl]
                obtain ⟨i, hi, rfl⟩ := nI_ofi (a := a2) (n := 25) (by omega) (by omega)
                obtain ⟨j, hj, rfl⟩ := nI_ofi (a := a4) (n := 25) (by omega) (by omega)
                obtain ⟨c, hc, rfl⟩ := nI_ofi (a := a5) (n := 25) (by omega) (by omega)
                have ei : (nI i).toInt = (i : Int) := i_nI (by omega)
                have ej : (nI j).toInt = (j : Int) := i_nI (by omega)
                have ec : (nI c).toInt = (c : Int) := i_nI (by omega)
                rw [ei, ec] at c1
                rw [ej, ec] at c2
                have cu : capC (58 + u + 18) = 24 := by rw [← cap_sh hu]; congr 1; omega
                have cw : capC (58 + w + 18) = 24 := by rw [← cap_sh hw]; congr 1; omega
                obtain ⟨τ', p1, p2, p3, p4⟩ := m_move28 hu hw (i := i) (j := j) (c := c) (by omega) (by omega) τ c 0 fuN τ (by omega) (by have := fu_le; omega) (fun _ _ => rfl) (fun _ _ => rfl) (fun p hp => by rw [if_neg (by omega)])
                rw [← nI_0, p1, cu, cw, show acOk (nI i) (nI j) (nI c) 24 24 = true by unfold acOk; simp only [i_lt, ei, ej, ec, tn_k ei, tn_k ej, tn_k ec, ti_0, ti_1, ti_2, ti_3, ti_4, ti_5, ti_6, ti_7, ti_8, ti_9, ti_10, ti_11, ti_12, ti_13, ti_14, ti_15]; simp only [Bool.and_eq_true, Bool.not_eq_true', decide_eq_false_iff_not, decide_eq_true_eq]; omega]
                simp only [tn_k ei, tn_k ej, tn_k ec]
                refine Ok.mk (h.sheet hw (fun k k1 k2 k3 => upR_n (by omega)) (fun k k5 k6 k7 => p2 k k7) ?_ (fun v hv hvu => ?_))
                · rw [p2 5 (by decide), p2 6 (by decide), upR_n (by omega), upR_n (by omega)]
                  refine ⟨r1, r2, t', r3, r4, r5, fun x hx => ?_⟩
                  show τ' 7 (24 * w + x) = _
                  rw [show 58 + w + 18 = 76 + w by omega, upR_s, show 58 + u + 18 = 76 + u by omega]
                  unfold va_cpy
                  by_cases hx2 : j ≤ x ∧ x < j + c
                  · rw [if_pos hx2]
                    have q := p4 (x - j) (by omega)
                    rw [show 24 * w + j + (x - j) = 24 * w + x by omega, show 24 * u + i + (x - j) = 24 * u + (i + (x - j)) by omega] at q
                    rw [q]; exact s6 (i + (x - j)) (by omega)
                  · rw [if_neg hx2, p3 _ (by omega)]; exact r6 x hx
                · rw [p2 5 (by decide), p2 6 (by decide)]
                  exact ⟨rfl, rfl, fun x hx => p3 _ (by omega)⟩
              · rw [if_neg c2, if_neg (show ¬ ((0 ≤ a2.toInt ∧ 0 ≤ a5.toInt ∧ a2.toInt + a5.toInt ≤ (t : Int)) ∧ (0 ≤ a4.toInt ∧ 0 ≤ a5.toInt ∧ a4.toInt + a5.toInt ≤ (t' : Int))) from fun x => c2 x.2), if_neg (by decide), m_err1]
                exact Ok.err h 1 (by decide)
            · rw [if_neg c1, if_neg (show ¬ ((0 ≤ a2.toInt ∧ 0 ≤ a5.toInt ∧ a2.toInt + a5.toInt ≤ (t : Int)) ∧ (0 ≤ a4.toInt ∧ 0 ≤ a5.toInt ∧ a4.toInt + a5.toInt ≤ (t' : Int))) from fun x => c1 x.1), if_neg (by decide), m_err1]
              exact Ok.err h 1 (by decide)
          · rw [if_neg z3, if_neg z3, if_neg (by decide), m_err5]
            exact Ok.err h 5 (by decide)
    · rw [if_neg hb]
      unfold f_X10_notMoved
      simp only [m_isSheet, bnd_s, lt_a, if01, ckb_01, rd_0, rd_1, rd_2, rd_3, rd_4, rd_5, rd_6, rd_7, rd_8, rd_9, rd_10, rd_11, rd_12, rd_13, rd_14, rd_15, ck_0, ck_1, ck_2, ck_3, ck_4, ck_5, ck_6, ck_7, ck_8, ck_9, ck_10, ck_11, ck_12, ck_13, ck_14, ck_15, tn_0, tn_1, tn_2, tn_3, tn_4, tn_5, tn_6, tn_7, tn_8, tn_9, tn_10, tn_11, tn_12, tn_13, tn_14, tn_15]
      rw [if_pos ha, if_neg hb]
      simp only [m_err1, bnd_s, lt_a, if01, ckb_01, rd_0, rd_1, rd_2, rd_3, rd_4, rd_5, rd_6, rd_7, rd_8, rd_9, rd_10, rd_11, rd_12, rd_13, rd_14, rd_15, ck_0, ck_1, ck_2, ck_3, ck_4, ck_5, ck_6, ck_7, ck_8, ck_9, ck_10, ck_11, ck_12, ck_13, ck_14, ck_15, tn_0, tn_1, tn_2, tn_3, tn_4, tn_5, tn_6, tn_7, tn_8, tn_9, tn_10, tn_11, tn_12, tn_13, tn_14, tn_15]
      rw [if_neg (by decide)]
      exact Ok.err h 1 (by decide)
  · rw [if_neg ha]
    unfold f_X10_notMoved
    simp only [m_isSheet, bnd_s, lt_a, if01, ckb_01, rd_0, rd_1, rd_2, rd_3, rd_4, rd_5, rd_6, rd_7, rd_8, rd_9, rd_10, rd_11, rd_12, rd_13, rd_14, rd_15, ck_0, ck_1, ck_2, ck_3, ck_4, ck_5, ck_6, ck_7, ck_8, ck_9, ck_10, ck_11, ck_12, ck_13, ck_14, ck_15, tn_0, tn_1, tn_2, tn_3, tn_4, tn_5, tn_6, tn_7, tn_8, tn_9, tn_10, tn_11, tn_12, tn_13, tn_14, tn_15]
    rw [if_neg ha]
    simp only [m_err1, bnd_s, lt_a, if01, ckb_01, rd_0, rd_1, rd_2, rd_3, rd_4, rd_5, rd_6, rd_7, rd_8, rd_9, rd_10, rd_11, rd_12, rd_13, rd_14, rd_15, ck_0, ck_1, ck_2, ck_3, ck_4, ck_5, ck_6, ck_7, ck_8, ck_9, ck_10, ck_11, ck_12, ck_13, ck_14, ck_15, tn_0, tn_1, tn_2, tn_3, tn_4, tn_5, tn_6, tn_7, tn_8, tn_9, tn_10, tn_11, tn_12, tn_13, tn_14, tn_15]
    rw [if_neg (by decide)]
    exact Ok.err h 1 (by decide)
