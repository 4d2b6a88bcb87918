theorem i0 : ((0 : Int32) : Int32).toInt = 0 := rfl
/-- what a board of the relation says, taken apart -/
theorem eq_pen {σ τ : Sg} (h : Sim σ τ) (a b : Int32) : Ok (f_X9_pen a b σ) (f_X10_pen a b τ) := by
  unfold f_X9_pen f_X10_pen
  simp only [x_isIn, m_in, x_err1, m_err1, bnd_s, lt_a, if01, ckb_01, rd_0, rd_1, rd_2, rd_3, rd_4, rd_5, rd_6, rd_7, rd_8, rd_9, rd_10, rd_11, rd_12, rd_13, rd_14, rd_15, ck_0, ck_1, ck_2, ck_3, ck_4, ck_5, ck_6, ck_7, ck_8, ck_9, ck_10, ck_11, ck_12, ck_13, ck_14, ck_15, tn_0, tn_1, tn_2, tn_3, tn_4, tn_5, tn_6, tn_7, tn_8, tn_9, tn_10, tn_11, tn_12, tn_13, tn_14, tn_15]
  split
  · rename_i c1
    split
    · rename_i c2
      obtain ⟨a1, a2, ⟨n, hn, e1, e2, a3⟩, a4, a5, a6, a7⟩ := h.1
      simp only [i_le, ti_0, ti_1, ti_2, ti_3, ti_4, ti_5, ti_6, ti_7, ti_8, ti_9, ti_10, ti_11, ti_12, ti_13, ti_14, ti_15, show (4 : Int32).toInt = 4 from rfl, show (99 : Int32).toInt = 99 from rfl] at c1 c2
      obtain ⟨p, hp, rfl⟩ := nI_ofi (a := a) (n := 5) c1.1 (by omega)
      have ep : (nI p).toInt = (p : Int) := i_nI (by omega)
      have e7 : ((7 : Int32) + nI p).toInt = ((7 + p : Nat) : Int) := by rw [i_add (by rw [ep, ti_7]; omega) (by rw [ep, ti_7]; omega), ep, ti_7]; omega
      rw [ck_k ep hp, ck_k ep hp, rd_k ep, tn_k ep, m_becomes e7 (by omega)]
      simp only [bnd_s, lt_a, if01, ckb_01, rd_0, rd_1, rd_2, rd_3, rd_4, rd_5, rd_6, rd_7, rd_8, rd_9, rd_10, rd_11, rd_12, rd_13, rd_14, rd_15, ck_0, ck_1, ck_2, ck_3, ck_4, ck_5, ck_6, ck_7, ck_8, ck_9, ck_10, ck_11, ck_12, ck_13, ck_14, ck_15, tn_0, tn_1, tn_2, tn_3, tn_4, tn_5, tn_6, tn_7, tn_8, tn_9, tn_10, tn_11, tn_12, tn_13, tn_14, tn_15]
      rw [(a2 p hp).1]
      refine Ok.mk (h.bd ?_ (eqX1.up rfl) eqM1.up)
      unfold Bd1
      simp (disch := omega) only [up_row, up_rs]
      refine ⟨Hd_r a1 (by omega), ?_, ⟨n, hn, e1, ?_, ?_⟩, a4, Sq_r a5 (by omega) (by omega), Sq_r a6 (by omega) (by omega), fun u hu => Cd_r (a7 u hu) (by omega)⟩
      · intro q hq
        by_cases hqp : q = p
        · subst hqp; rw [upd_e, upd_e]; exact ⟨rfl, c2.1, c2.2⟩
        · rw [upd_n (by omega), upd_n hqp]; exact a2 q hq
      · rw [upd_n (by omega)]; exact e2
      · exact Lns_r a3 (by omega)
    · exact Ok.err h 1 (by decide)
  · exact Ok.err h 1 (by decide)
theorem eq_spirit {σ τ : Sg} (h : Sim σ τ) (a : Int32) : Ok (f_X9_spirit a σ) (f_X10_spirit a τ) := by
  unfold f_X9_spirit f_X10_spirit
  simp only [x_isIn, m_in, x_err1, m_err1, bnd_s, lt_a, if01, ckb_01, rd_0, rd_1, rd_2, rd_3, rd_4, rd_5, rd_6, rd_7, rd_8, rd_9, rd_10, rd_11, rd_12, rd_13, rd_14, rd_15, ck_0, ck_1, ck_2, ck_3, ck_4, ck_5, ck_6, ck_7, ck_8, ck_9, ck_10, ck_11, ck_12, ck_13, ck_14, ck_15, tn_0, tn_1, tn_2, tn_3, tn_4, tn_5, tn_6, tn_7, tn_8, tn_9, tn_10, tn_11, tn_12, tn_13, tn_14, tn_15]
  split
  · rename_i c1
    obtain ⟨a1, a2, ⟨n, hn, e1, e2, a3⟩, a4, a5, a6, a7⟩ := h.1
    simp only [i_le, ti_0, ti_1, ti_2, ti_3, ti_4, ti_5, ti_6, ti_7, ti_8, ti_9, ti_10, ti_11, ti_12, ti_13, ti_14, ti_15] at c1
    rw [m_becomes (k := 3) rfl (by decide)]
    simp only [bnd_s, lt_a, if01, ckb_01, rd_0, rd_1, rd_2, rd_3, rd_4, rd_5, rd_6, rd_7, rd_8, rd_9, rd_10, rd_11, rd_12, rd_13, rd_14, rd_15, ck_0, ck_1, ck_2, ck_3, ck_4, ck_5, ck_6, ck_7, ck_8, ck_9, ck_10, ck_11, ck_12, ck_13, ck_14, ck_15, tn_0, tn_1, tn_2, tn_3, tn_4, tn_5, tn_6, tn_7, tn_8, tn_9, tn_10, tn_11, tn_12, tn_13, tn_14, tn_15]
    rw [a1.2.2.2.1]
    refine Ok.mk (h.bd ?_ (eqX1.up rfl) eqM1.up)
    unfold Bd1
    simp (disch := omega) only [up_row, up_rs]
    refine ⟨?_, Ik_r a2 (by omega), ⟨n, hn, ?_, ?_, ?_⟩, a4, Sq_r a5 (by omega) (by omega), Sq_r a6 (by omega) (by omega), fun u hu => Cd_r (a7 u hu) (by omega)⟩
    · unfold Hd at a1 ⊢
      simp (disch := omega) only [upd_n, upd_e]
      exact ⟨a1.1, a1.2.1, a1.2.2.1, trivial, by rw [i_eq, i_eq, ti_0, ti_1]; omega, a1.2.2.2.2.2.1, a1.2.2.2.2.2.2.1, a1.2.2.2.2.2.2.2.1, a1.2.2.2.2.2.2.2.2⟩
    · rw [upd_n (by decide)]; exact e1
    · rw [upd_n (by decide)]; exact e2
    · rw [upd_n (by decide)]; exact Lns_r a3 (by omega)
  · exact Ok.err h 1 (by decide)
theorem eq_told {σ τ : Sg} (h : Sim σ τ) (a : Int32) : Ok (f_X9_told a σ) (f_X10_told a τ) := by
  unfold f_X9_told f_X10_told
  simp only [x_isIn, m_in, x_err1, m_err1, bnd_s, lt_a, if01, ckb_01, rd_0, rd_1, rd_2, rd_3, rd_4, rd_5, rd_6, rd_7, rd_8, rd_9, rd_10, rd_11, rd_12, rd_13, rd_14, rd_15, ck_0, ck_1, ck_2, ck_3, ck_4, ck_5, ck_6, ck_7, ck_8, ck_9, ck_10, ck_11, ck_12, ck_13, ck_14, ck_15, tn_0, tn_1, tn_2, tn_3, tn_4, tn_5, tn_6, tn_7, tn_8, tn_9, tn_10, tn_11, tn_12, tn_13, tn_14, tn_15]
  split
  · rename_i c1
    simp only [i_le, ti_0, ti_1, ti_2, ti_3, ti_4, ti_5, ti_6, ti_7, ti_8, ti_9, ti_10, ti_11, ti_12, ti_13, ti_14, ti_15] at c1
    obtain ⟨p, hp, rfl⟩ := nI_ofi (a := a) (n := 7) (by omega) (by omega)
    have ep : (nI p).toInt = (p : Int) := i_nI (by omega)
    rw [ck_k ep hp, ck_k ep hp, rd_k ep, rd_k ep, h.2.2.2.1 p (by omega) (by omega)]
    exact Ok.mk h
  · exact Ok.err h 1 (by decide)
theorem eq_body {σ τ : Sg} (h : Sim σ τ) (a : Int32) : Ok (f_X9_body a σ) (f_X10_body a τ) := by
  unfold f_X9_body f_X10_body
  simp only [x_isIn, m_in, x_err2, m_err2, bnd_s, lt_a, if01, ckb_01, rd_0, rd_1, rd_2, rd_3, rd_4, rd_5, rd_6, rd_7, rd_8, rd_9, rd_10, rd_11, rd_12, rd_13, rd_14, rd_15, ck_0, ck_1, ck_2, ck_3, ck_4, ck_5, ck_6, ck_7, ck_8, ck_9, ck_10, ck_11, ck_12, ck_13, ck_14, ck_15, tn_0, tn_1, tn_2, tn_3, tn_4, tn_5, tn_6, tn_7, tn_8, tn_9, tn_10, tn_11, tn_12, tn_13, tn_14, tn_15]
  obtain ⟨t, ht, e1, e2, h3⟩ := h.2.2.2.2.2
  rw [e1, e2]
  split
  · rename_i c1
    have et : (nI t).toInt = (t : Int) := i_nI (by omega)
    have e3 : (nI t - (1 : Int32)).toInt = (t : Int) - 1 := by rw [i_sub (by rw [et, ti_1]; omega) (by rw [et, ti_1]; omega), et, ti_1]
    simp only [i_le, ti_0, ti_1, ti_2, ti_3, ti_4, ti_5, ti_6, ti_7, ti_8, ti_9, ti_10, ti_11, ti_12, ti_13, ti_14, ti_15, e3] at c1
    obtain ⟨p, hp, rfl⟩ := nI_ofi (a := a) (n := t) (by omega) (by omega)
    have ep : (nI p).toInt = (p : Int) := i_nI (by omega)
    rw [ck_k ep (by omega), ck_k ep (by omega), rd_k ep, rd_k ep, h3 p hp]
    exact Ok.mk h
  · exact Ok.err h 2 (by decide)
theorem eq_count {σ τ : Sg} (h : Sim σ τ) (a : Int32) : Ok (f_X9_count a σ) (f_X10_count a τ) := by
  unfold f_X9_count f_X10_count
  simp only [x_err1, m_err1, bnd_s, lt_a, if01, ckb_01, rd_0, rd_1, rd_2, rd_3, rd_4, rd_5, rd_6, rd_7, rd_8, rd_9, rd_10, rd_11, rd_12, rd_13, rd_14, rd_15, ck_0, ck_1, ck_2, ck_3, ck_4, ck_5, ck_6, ck_7, ck_8, ck_9, ck_10, ck_11, ck_12, ck_13, ck_14, ck_15, tn_0, tn_1, tn_2, tn_3, tn_4, tn_5, tn_6, tn_7, tn_8, tn_9, tn_10, tn_11, tn_12, tn_13, tn_14, tn_15]
  obtain ⟨a1, a2, ⟨n, hn, e1, e2, a3⟩, a4, ⟨t1, q1, q2, q3, q4⟩, ⟨t2, p1, p2, p3, p4⟩, a7⟩ := h.1
  obtain ⟨t, ht, b1, b2, b3⟩ := h.2.2.2.2.2
  rw [e1, e2, a1.1, a1.2.2.2.1, a1.2.2.2.2.2.1, a1.2.2.2.2.2.2.2.2, q2, q3, p2, p3, b1, b2]
  repeat' split
  all_goals first | exact Ok.mk h | exact Ok.err h 1 (by decide)
theorem eq_photo {σ τ : Sg} (h : Sim σ τ) (a b : Int32) : Ok (f_X9_photo a b σ) (f_X10_photo a b τ) := by
  obtain ⟨a1, a2, ⟨n, hn, e1, e2, a3⟩, a4, a5, a6, a7⟩ := h.1
  unfold f_X9_photo f_X10_photo
  simp only [x_isIn, m_in, x_err1, m_err1, x_hasLine e1, m_isLine e2 hn, bnd_s, lt_a, if01, ckb_01, rd_0, rd_1, rd_2, rd_3, rd_4, rd_5, rd_6, rd_7, rd_8, rd_9, rd_10, rd_11, rd_12, rd_13, rd_14, rd_15, ck_0, ck_1, ck_2, ck_3, ck_4, ck_5, ck_6, ck_7, ck_8, ck_9, ck_10, ck_11, ck_12, ck_13, ck_14, ck_15, tn_0, tn_1, tn_2, tn_3, tn_4, tn_5, tn_6, tn_7, tn_8, tn_9, tn_10, tn_11, tn_12, tn_13, tn_14, tn_15]
  split
  · rename_i c1
    split
    · rename_i c2
      have en : (nI n).toInt = (n : Int) := i_nI (by omega)
      simp only [i_le, i_lt, en, ti_0, ti_1, ti_2, ti_3, ti_4, ti_5, ti_6, ti_7, ti_8, ti_9, ti_10, ti_11, ti_12, ti_13, ti_14, ti_15] at c1 c2
      obtain ⟨l, hl, rfl⟩ := nI_ofi (a := a) (n := n) c1.1 (by omega)
      have el : (nI l).toInt = (l : Int) := i_nI (by omega)
      rw [ck_k el (by omega), ck_k el (by omega), tn_k el, m_becomes (ml_i (f := 5) (by omega) rfl (by decide)) (by omega), (a3 l hl).2 5 (by decide)]
      simp only [bnd_s, lt_a, if01, ckb_01, rd_0, rd_1, rd_2, rd_3, rd_4, rd_5, rd_6, rd_7, rd_8, rd_9, rd_10, rd_11, rd_12, rd_13, rd_14, rd_15, ck_0, ck_1, ck_2, ck_3, ck_4, ck_5, ck_6, ck_7, ck_8, ck_9, ck_10, ck_11, ck_12, ck_13, ck_14, ck_15, tn_0, tn_1, tn_2, tn_3, tn_4, tn_5, tn_6, tn_7, tn_8, tn_9, tn_10, tn_11, tn_12, tn_13, tn_14, tn_15]
      refine Ok.mk (h.bd ?_ (eqX1.up ?_) eqM1.up)
      · unfold Bd1
        simp (disch := omega) only [up_row]
        rw [up_rs]
        refine ⟨Hd_r a1 (by omega), Ik_r a2 (by omega), ⟨n, hn, e1, ?_, ?_⟩, ?_, Sq_r a5 (by omega) (by omega), Sq_r a6 (by omega) (by omega), fun u hu => Cd_r (a7 u hu) (by omega)⟩
        · rw [upd_n (by omega)]; exact e2
        · intro k hk
          by_cases hkl : k = l
          · subst hkl
            show LnOK (up σ (20 + k) 5 b (20 + k)) (σ 1 2) ∧ _
            rw [up_rs]
            refine ⟨?_, fun f hf => ?_⟩
            · have q := (a3 k hk).1
              unfold LnOK at q ⊢
              simp (disch := omega) only [upd_n, upd_e]
              exact ⟨q.1, q.2.1, q.2.2.1, q.2.2.2.1, q.2.2.2.2.1, by rw [i_eq, i_eq, ti_0, ti_1]; omega⟩
            · by_cases hf5 : f = 5
              · subst hf5; rw [upd_e]; show b = up σ (20 + k) 5 b (20 + k) 5; rw [up_s]
              · rw [upd_n (by omega)]; show _ = up σ (20 + k) 5 b (20 + k) f; rw [up_i hf5]; exact (a3 k hk).2 f hf
          · show LnOK (up σ (20 + l) 5 b (20 + k)) (σ 1 2) ∧ _
            rw [up_row (by omega)]
            refine ⟨(a3 k hk).1, fun f hf => ?_⟩
            rw [upd_n (by omega)]
            show _ = up σ (20 + l) 5 b (20 + k) f
            rw [up_row (by omega)]
            exact (a3 k hk).2 f hf
        · intro k hk
          show up σ (20 + l) 5 b (20 + k) 6 = 0 ∨ up σ (20 + l) 5 b (20 + k) 6 = 1
          have := a4 k hk
          by_cases hkl : k = l
          · subst hkl; rw [up_i (by decide)]; exact this
          · rw [up_row (by omega)]; exact this
      · have : ∀ l, l < 10 → inB1 (20 + l) = true := by decide +kernel
        exact this l (by omega)
    · exact Ok.err h 1 (by decide)
  · exact Ok.err h 1 (by decide)
