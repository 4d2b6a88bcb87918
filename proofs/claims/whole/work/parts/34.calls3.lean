theorem dp_congr {a a' : Nat → Int32} {c : Nat} (h : ∀ j, j < c → a' j = a j) : ∀ k, k ≤ c → dp a' k = dp a k := by
  intro k
  induction k with
  | zero => intro _; rfl
  | succ k ih =>
    intro hk
    unfold dp
    rw [ih (by omega), h k (by omega)]
theorem Cod_congr {c : Nat} {x x' a a' w w' : Nat → Int32} (h : Cod c x a w) (hx : ∀ j, j < c → x' j = x j) (ha : ∀ j, j < c → a' j = a j) (hw : ∀ j, j < c → w' j = w j) : Cod c x' a' w' := by
  refine ⟨fun j hj => ?_, by rw [dp_congr ha c (Nat.le_refl c)]; exact h.2⟩
  rw [hx j hj, ha j hj, hw j hj, dp_congr ha j (by omega)]
  exact h.1 j hj
theorem Bd1.of {σ' τ' : Sg} {ln : Nat → Nat → Int32} {th cn : Nat → Int32} {cs : Nat → Nat → Int32} (h : BdR (σ' 1) ln (σ' 16) (σ' 44 1) (σ' 62) (σ' 46 1) (σ' 64) th cn cs (τ' 1)) (hl : ∀ l, l < 10 → σ' (20 + l) = ln l) (h1 : ∀ u, u < 2 → σ' (40 + u) 0 = th u) (h2 : ∀ u, u < 2 → σ' (48 + u) 1 = cn u) (h3 : ∀ u, u < 2 → σ' (66 + u) = cs u) : Bd1 σ' τ' := BdR_congr h hl h1 h2 h3
theorem Sim.line {σ τ σ' τ' : Sg} (h : Sim σ τ) {n l : Nat} (hn : σ 1 1 = nI n) (n10 : n ≤ 10) (hl : l < n) (ex : ∀ k, k ≠ 20 + l → σ' k = σ k) (em : eqM1 τ τ') (er : ∀ j, j < 12 + 7 * l ∨ 12 + 7 * l + 7 ≤ j → τ' 1 j = τ 1 j) (ok : LnOK (σ' (20 + l)) (σ 1 2)) (g : σ' (20 + l) 6 = 0 ∨ σ' (20 + l) 6 = 1) (eq : ∀ f, f < 7 → τ' 1 (12 + 7 * l + f) = σ' (20 + l) f) : Sim σ' τ' := by
  have q : ∀ k, k ≠ 20 + l → σ' k = σ k := ex
  refine h.bd ?_ (fun k _ hk => ex k (fun e => ?_)) em
  · obtain ⟨a1, a2, ⟨m, hm, e1, e2, a3⟩, a4, a5, a6, a7⟩ := h.1
    have hmn : m = n := by
      have := e1.symm.trans hn
      rw [i_eq, i_nI (by omega), i_nI (by omega)] at this
      omega
    subst hmn
    unfold Bd1
    rw [ex 1 (by omega), ex 16 (by omega), ex 44 (by omega), ex 62 (by omega), ex 46 (by omega), ex 64 (by omega)]
    refine ⟨?_, ?_, ⟨m, hm, e1, by rw [er 2 (by omega)]; exact e2, ?_⟩, ?_, ?_, ?_, ?_⟩
    · unfold Hd at a1 ⊢
      rw [er 0 (by omega), er 3 (by omega), er 4 (by omega), er 1 (by omega)]
      exact a1
    · intro p hp; rw [er (7 + p) (by omega)]; exact a2 p hp
    · intro k hk
      by_cases hkl : k = l
      · subst hkl; exact ⟨ok, eq⟩
      · refine ⟨?_, fun f hf => ?_⟩
        · show LnOK (σ' (20 + k)) _
          rw [ex (20 + k) (by omega)]; exact (a3 k hk).1
        · show _ = σ' (20 + k) f
          rw [ex (20 + k) (by omega), er _ (by omega)]; exact (a3 k hk).2 f hf
    · intro k hk
      show σ' (20 + k) 6 = 0 ∨ σ' (20 + k) 6 = 1
      by_cases hkl : k = l
      · subst hkl; exact g
      · rw [ex (20 + k) (by omega)]; exact a4 k hk
    · obtain ⟨t, h1, q1, q2, h3⟩ := a5
      exact ⟨t, h1, q1, by rw [er 5 (by omega)]; exact q2, fun i hi => by show τ' 1 (82 + i) = _; rw [er _ (by omega)]; exact h3 i hi⟩
    · obtain ⟨t, h1, q1, q2, h3⟩ := a6
      exact ⟨t, h1, q1, by rw [er 6 (by omega)]; exact q2, fun i hi => by show τ' 1 (142 + i) = _; rw [er _ (by omega)]; exact h3 i hi⟩
    · intro u hu
      have e1 : (fun j => τ' 1 (166 + 121 * u + j)) = (fun j => τ 1 (166 + 121 * u + j)) := by funext j; exact er _ (by omega)
      rw [e1]
      show Cd (σ' (40 + u) 0) (σ' (48 + u) 1) (σ' (66 + u)) _
      rw [ex (40 + u) (by omega), ex (48 + u) (by omega), ex (66 + u) (by omega)]
      exact a7 u hu
  · subst e
    have : ∀ l, l < 10 → inB1 (20 + l) = true := by decide +kernel
    rw [this l (by omega)] at hk
    cases hk
theorem td (a b : Int) : (a.tdiv b) = a.tdiv b := rfl
theorem i_div10 {a : Int32} (h : 0 ≤ a.toInt) : (a / (10 : Int32)).toInt = a.toInt / 10 := by
  rw [Int32.toInt_div, show (10 : Int32).toInt = 10 from rfl, Int.tdiv_eq_ediv_of_nonneg h]
  have := i_hi a
  exact bm (by omega) (by omega)
theorem i_rem10 {a : Int32} (h : 0 ≤ a.toInt) : (irm a (10 : Int32)).toInt = a.toInt % 10 := by
  unfold irm
  have h1 := i_div10 h
  have h2 := i_hi a
  have h3 : (a / (10 : Int32) * 10).toInt = a.toInt / 10 * 10 := by rw [i_mul (by rw [h1, ti_10]; omega) (by rw [h1, ti_10]; omega), h1, ti_10]
  rw [i_sub (by rw [h3]; omega) (by rw [h3]; omega), h3]
  omega
theorem eq_become {σ τ : Sg} (h : Sim σ τ) (a b : Int32) : Ok (f_X9_become a b σ) (f_X10_become a b τ) := by
  obtain ⟨a1, a2, ⟨n, hn, e1, e2, a3⟩, a4, a5, a6, a7⟩ := h.1
  unfold f_X9_become f_X10_become
  simp only [x_isKm, m_isKm, x_err1, m_err1, x_hasLine e1, m_isLine e2 hn, bnd_s, lt_a, if01, ckb_01, rd_0, rd_1, rd_2, rd_3, rd_4, rd_5, rd_6, rd_7, rd_8, rd_9, rd_10, rd_11, rd_12, rd_13, rd_14, rd_15, ck_0, ck_1, ck_2, ck_3, ck_4, ck_5, ck_6, ck_7, ck_8, ck_9, ck_10, ck_11, ck_12, ck_13, ck_14, ck_15, tn_0, tn_1, tn_2, tn_3, tn_4, tn_5, tn_6, tn_7, tn_8, tn_9, tn_10, tn_11, tn_12, tn_13, tn_14, tn_15]
  split
  · rename_i c1
    split
    · rename_i c2
      have en : (nI n).toInt = (n : Int) := i_nI (by omega)
      simp only [i_le, i_lt, en, ti_0, ti_1, ti_2, ti_3, ti_4, ti_5, ti_6, ti_7, ti_8, ti_9, ti_10, ti_11, ti_12, ti_13, ti_14, ti_15, show (69 : Int32).toInt = 69 from rfl] at c1 c2
      obtain ⟨l, hl, rfl⟩ := nI_ofi (a := a) (n := n) c1.1 (by omega)
      have el : (nI l).toInt = (l : Int) := i_nI (by omega)
      rw [ck_k el (by omega), tn_k el, m_lets 1 (by omega) rfl (by decide)]
      simp only [bnd_s, lt_a, if01, ckb_01, rd_0, rd_1, rd_2, rd_3, rd_4, rd_5, rd_6, rd_7, rd_8, rd_9, rd_10, rd_11, rd_12, rd_13, rd_14, rd_15, ck_0, ck_1, ck_2, ck_3, ck_4, ck_5, ck_6, ck_7, ck_8, ck_9, ck_10, ck_11, ck_12, ck_13, ck_14, ck_15, tn_0, tn_1, tn_2, tn_3, tn_4, tn_5, tn_6, tn_7, tn_8, tn_9, tn_10, tn_11, tn_12, tn_13, tn_14, tn_15]
      rw [m_becomes (ml_0 (by omega)) (by omega)]
      simp only [bnd_s, lt_a, if01, ckb_01, rd_0, rd_1, rd_2, rd_3, rd_4, rd_5, rd_6, rd_7, rd_8, rd_9, rd_10, rd_11, rd_12, rd_13, rd_14, rd_15, ck_0, ck_1, ck_2, ck_3, ck_4, ck_5, ck_6, ck_7, ck_8, ck_9, ck_10, ck_11, ck_12, ck_13, ck_14, ck_15, tn_0, tn_1, tn_2, tn_3, tn_4, tn_5, tn_6, tn_7, tn_8, tn_9, tn_10, tn_11, tn_12, tn_13, tn_14, tn_15]
      have hd := i_div10 (a := b) c2.1
      have hr := i_rem10 (a := b) c2.1
      rw [up_i (by omega), show τ 1 (12 + 7 * l) = σ (20 + l) 0 from (a3 l hl).2 0 (by decide)]
      refine Ok.mk (h.line e1 hn hl (fun k hk => by rw [up_row hk, up_row hk]) (eqM1.up.tr eqM1.up) (fun j hj => by rw [up_i (by omega), up_i (by omega)]) ?_ ?_ ?_)
      · have q := (a3 l hl).1
        unfold LnOK at q ⊢
        simp (disch := omega) only [up_s, up_i]
        exact ⟨by omega, by omega, q.2.2.1, q.2.2.2.1, q.2.2.2.2.1, q.2.2.2.2.2⟩
      · simp (disch := omega) only [up_i]; exact a4 l (by omega)
      · intro f hf
        have q := (a3 l hl).2 f hf
        by_cases h0 : f = 0
        · subst h0; simp (disch := omega) only [Nat.add_zero, up_s, up_i]
        · by_cases h1 : f = 1
          · subst h1; simp (disch := omega) only [up_s, up_i]
          · simp (disch := omega) only [up_i]; exact q
    · exact Ok.err h 1 (by decide)
  · exact Ok.err h 1 (by decide)
theorem eq_tell {σ τ : Sg} (h : Sim σ τ) (a : Int32) : Ok (f_X9_tell a σ) (f_X10_tell a τ) := by
  obtain ⟨a1, a2, ⟨n, hn, e1, e2, a3⟩, a4, a5, ⟨t, ht, q1, q2, q3⟩, a7⟩ := h.1
  have et : (nI t).toInt = (t : Int) := i_nI (by omega)
  have e24 : (24 : Int32).toInt = 24 := rfl
  have es : (Int32.ofNat (capC (46 + 18)) - nI t).toInt = 24 - (t : Int) := by
    rw [show Int32.ofNat (capC (46 + 18)) = (24 : Int32) from rfl, i_sub (by rw [et, e24]; omega) (by rw [et, e24]; omega), et, e24]
  have e142 : ((142 : Int32) + nI t).toInt = ((142 + t : Nat) : Int) := by
    rw [i_add (by rw [et]; show _ ≤ (142 : Int) + _; omega) (by rw [et]; show (142 : Int) + _ < _; omega), et]; rfl
  unfold f_X9_tell f_X10_tell f_X6_hasRoomFor
  simp only [q1, q2, bnd_s, lt_a, if01, ckb_01, rd_0, rd_1, rd_2, rd_3, rd_4, rd_5, rd_6, rd_7, rd_8, rd_9, rd_10, rd_11, rd_12, rd_13, rd_14, rd_15, ck_0, ck_1, ck_2, ck_3, ck_4, ck_5, ck_6, ck_7, ck_8, ck_9, ck_10, ck_11, ck_12, ck_13, ck_14, ck_15, tn_0, tn_1, tn_2, tn_3, tn_4, tn_5, tn_6, tn_7, tn_8, tn_9, tn_10, tn_11, tn_12, tn_13, tn_14, tn_15, x_err4, m_err4]
  by_cases hf : t = 24
  · subst hf
    rw [if_pos (by rw [i_lt, es, ti_1]; omega), if_pos (show nI 24 = (24 : Int32) from rfl)]
    simp only [bnd_s, lt_a, if01, ckb_01, rd_0, rd_1, rd_2, rd_3, rd_4, rd_5, rd_6, rd_7, rd_8, rd_9, rd_10, rd_11, rd_12, rd_13, rd_14, rd_15, ck_0, ck_1, ck_2, ck_3, ck_4, ck_5, ck_6, ck_7, ck_8, ck_9, ck_10, ck_11, ck_12, ck_13, ck_14, ck_15, tn_0, tn_1, tn_2, tn_3, tn_4, tn_5, tn_6, tn_7, tn_8, tn_9, tn_10, tn_11, tn_12, tn_13, tn_14, tn_15, if_true]
    exact Ok.err h 4 (by decide)
  · rw [if_neg (by rw [i_lt, es, ti_1]; omega), if_neg (by rw [i_eq, et, e24]; omega)]
    simp only [bnd_s, lt_a, if01, ckb_01, rd_0, rd_1, rd_2, rd_3, rd_4, rd_5, rd_6, rd_7, rd_8, rd_9, rd_10, rd_11, rd_12, rd_13, rd_14, rd_15, ck_0, ck_1, ck_2, ck_3, ck_4, ck_5, ck_6, ck_7, ck_8, ck_9, ck_10, ck_11, ck_12, ck_13, ck_14, ck_15, tn_0, tn_1, tn_2, tn_3, tn_4, tn_5, tn_6, tn_7, tn_8, tn_9, tn_10, tn_11, tn_12, tn_13, tn_14, tn_15, if_neg (show ¬ (1 : Int32) = 0 by decide)]
    unfold f_X6_add
    rw [q1, if_neg (by rw [i_le, et]; show ¬ (24 : Int) ≤ _; omega), ck_k et (show t < capC (46 + 18) by show t < 24; omega), tn_k et, ck_k e142 (by omega), tn_k e142]
    simp only [bnd_s, lt_a, if01, ckb_01, rd_0, rd_1, rd_2, rd_3, rd_4, rd_5, rd_6, rd_7, rd_8, rd_9, rd_10, rd_11, rd_12, rd_13, rd_14, rd_15, ck_0, ck_1, ck_2, ck_3, ck_4, ck_5, ck_6, ck_7, ck_8, ck_9, ck_10, ck_11, ck_12, ck_13, ck_14, ck_15, tn_0, tn_1, tn_2, tn_3, tn_4, tn_5, tn_6, tn_7, tn_8, tn_9, tn_10, tn_11, tn_12, tn_13, tn_14, tn_15]
    simp (disch := omega) only [up_s, up_i, up_k]
    rw [q1, q2]
    simp only [nI_1]
    refine Ok.mk (h.bd ?_ ((eqX1.up rfl).tr (eqX1.up rfl)) (eqM1.up.tr eqM1.up))
    refine Bd1.of (ln := fun l => σ (20 + l)) (th := fun u => σ (40 + u) 0) (cn := fun u => σ (48 + u) 1) (cs := fun u => σ (66 + u)) ?_ (fun l hl => by simp (disch := omega) only [up_row]) (fun u hu => by simp (disch := omega) only [up_row]) (fun u hu => by simp (disch := omega) only [up_row]) (fun u hu => by simp (disch := omega) only [up_row])
    simp (disch := omega) only [up_row, up_rs]
    refine ⟨Hd_r (Hd_r a1 (by omega)) (by omega), Ik_r (Ik_r a2 (by omega)) (by omega), ⟨n, hn, e1, ?_, Lns_r (Lns_r a3 (by omega)) (by omega)⟩, a4, Sq_r (c0 := 5) (o := 82) (Sq_r a5 (by omega) (by omega)) (by omega) (by omega), ?_, fun u hu => Cd_r (Cd_r (a7 u hu) (by omega)) (by omega)⟩
    · rw [upd_n (by omega), upd_n (by omega)]; exact e2
    · refine ⟨t + 1, by omega, ?_, ?_, fun j hj => ?_⟩
      · rw [upd_e]
      · rw [upd_e]
      · show upd (upd (τ 1) (142 + t) a) 6 _ (142 + j) = upd (σ 64) t a j
        rw [upd_n (by omega)]
        by_cases hjt : j = t
        · subst hjt; rw [upd_e, upd_e]
        · rw [upd_n (by omega), upd_n hjt]; exact q3 j (by omega)
theorem eq_untell {σ τ : Sg} (h : Sim σ τ) (a : Int32) : Ok (f_X9_untell a σ) (f_X10_untell a τ) := by
  obtain ⟨a1, a2, ⟨n, hn, e1, e2, a3⟩, a4, a5, a6, a7⟩ := h.1
  unfold f_X9_untell f_X10_untell
  simp only [x_isIn, m_in, x_err1, m_err1, bnd_s, lt_a, if01, ckb_01, rd_0, rd_1, rd_2, rd_3, rd_4, rd_5, rd_6, rd_7, rd_8, rd_9, rd_10, rd_11, rd_12, rd_13, rd_14, rd_15, ck_0, ck_1, ck_2, ck_3, ck_4, ck_5, ck_6, ck_7, ck_8, ck_9, ck_10, ck_11, ck_12, ck_13, ck_14, ck_15, tn_0, tn_1, tn_2, tn_3, tn_4, tn_5, tn_6, tn_7, tn_8, tn_9, tn_10, tn_11, tn_12, tn_13, tn_14, tn_15]
  split
  · rename_i c1
    simp only [i_le, ti_0, ti_1, ti_2, ti_3, ti_4, ti_5, ti_6, ti_7, ti_8, ti_9, ti_10, ti_11, ti_12, ti_13, ti_14, ti_15] at c1
    obtain ⟨u, hu, rfl⟩ := nI_ofi (a := a) (n := 2) c1.1 (by omega)
    have eu : (nI u).toInt = (u : Int) := i_nI (by omega)
    have e166 : ((166 : Int32) + (121 : Int32) * nI u).toInt = ((166 + 121 * u : Nat) : Int) := by
      have : ((121 : Int32) * nI u).toInt = 121 * (u : Int) := by rw [i_mul (by rw [eu]; show _ ≤ (121 : Int) * _; omega) (by rw [eu]; show (121 : Int) * _ < _; omega), eu]; rfl
      rw [i_add (by rw [this]; show _ ≤ (166 : Int) + _; omega) (by rw [this]; show (166 : Int) + _ < _; omega), this]; show (166 : Int) + _ = _; omega
    rw [ck_k eu hu, ck_k eu hu, tn_k eu, m_becomes e166 (by omega)]
    simp only [bnd_s, lt_a, if01, ckb_01, rd_0, rd_1, rd_2, rd_3, rd_4, rd_5, rd_6, rd_7, rd_8, rd_9, rd_10, rd_11, rd_12, rd_13, rd_14, rd_15, ck_0, ck_1, ck_2, ck_3, ck_4, ck_5, ck_6, ck_7, ck_8, ck_9, ck_10, ck_11, ck_12, ck_13, ck_14, ck_15, tn_0, tn_1, tn_2, tn_3, tn_4, tn_5, tn_6, tn_7, tn_8, tn_9, tn_10, tn_11, tn_12, tn_13, tn_14, tn_15]
    have key : Sim (up σ (40 + u) 0 0) (up τ 1 (166 + 121 * u) 0) := by
      refine h.bd ?_ (eqX1.up ?_) eqM1.up
      · refine Bd1.of (ln := fun l => σ (20 + l)) (th := fun v => up σ (40 + u) 0 0 (40 + v) 0) (cn := fun u => σ (48 + u) 1) (cs := fun u => σ (66 + u)) ?_ (fun l hl => by simp (disch := omega) only [up_row]) (fun u hu => rfl) (fun u hu => by simp (disch := omega) only [up_row]) (fun u hu => by simp (disch := omega) only [up_row])
        simp (disch := omega) only [up_row, up_rs]
        refine ⟨Hd_r a1 (by omega), Ik_r a2 (by omega), ⟨n, hn, e1, ?_, Lns_r a3 (by omega)⟩, a4, Sq_r a5 (by omega) (by omega), Sq_r a6 (by omega) (by omega), fun v hv => ?_⟩
        · rw [upd_n (by omega)]; exact e2
        · obtain ⟨c, hc, q1, q2⟩ := a7 v hv
          refine ⟨c, hc, q1, ?_⟩
          show (up σ (40 + u) 0 0 (40 + v) 0 = 0 ∧ upd (τ 1) (166 + 121 * u) 0 (166 + 121 * v + 0) = 0) ∨ (up σ (40 + u) 0 0 (40 + v) 0 = 1 ∧ 0 < c ∧ upd (τ 1) (166 + 121 * u) 0 (166 + 121 * v + 0) = nI c ∧ Cod c (σ (66 + v)) (fun j => upd (τ 1) (166 + 121 * u) 0 (166 + 121 * v + (1 + j))) (fun j => upd (τ 1) (166 + 121 * u) 0 (166 + 121 * v + (61 + j))))
          by_cases huv : u = v
          · subst huv
            left
            rw [up_s, Nat.add_zero, upd_e]
            exact ⟨rfl, rfl⟩
          · rw [up_k (by omega), upd_n (by omega)]
            rcases q2 with q | ⟨b1, b2, b3, b4⟩
            · left; exact q
            · right
              exact ⟨b1, b2, b3, Cod_congr b4 (fun _ _ => rfl) (fun j hj => upd_n (by omega)) (fun j hj => upd_n (by omega))⟩
      · have : ∀ u, u < 2 → inB1 (40 + u) = true := by decide +kernel
        exact this u hu
    obtain ⟨c, hc, q1, q2⟩ := a7 u hu
    have q2 : (σ (40 + u) 0 = 0 ∧ τ 1 (166 + 121 * u) = 0) ∨ (σ (40 + u) 0 = 1 ∧ 0 < c ∧ τ 1 (166 + 121 * u) = nI c ∧ _) := q2
    rcases q2 with ⟨b1, b2⟩ | ⟨b1, b2, b3, -⟩
    · rw [b1, b2, if_pos rfl, if_pos (by decide)]; exact Ok.mk key
    · rw [b1, b3, if_neg (by decide), if_neg (by rw [i_le, i_nI (by omega), ti_0]; omega)]; exact Ok.mk key
  · exact Ok.err h 1 (by decide)
