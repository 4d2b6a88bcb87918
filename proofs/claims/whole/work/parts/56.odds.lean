theorem Sim.tape {σ τ : Sg} (h : Sim σ τ) {t : Nat} (ht : t < 60) (q1 : σ 44 1 = nI t) (v : Int32) : Sim (up (up σ 62 t v) 44 1 (nI (t + 1))) (up (up τ 1 (82 + t) v) 1 5 (nI (t + 1))) := by
  obtain ⟨a1, a2, ⟨n, hn, e1, e2, a3⟩, a4, ⟨t', ht', p1, p2, p3⟩, a6, a7⟩ := h.1
  obtain rfl : t' = t := m_same_n (by omega) (by omega) (p1.symm.trans q1)
  refine h.bd ?_ ((eqX1.up rfl).tr (eqX1.up rfl)) (eqM1.up.tr eqM1.up)
  refine Bd1.of (ln := fun l => σ (20 + l)) (th := fun u => σ (40 + u) 0) (cn := fun u => σ (48 + u) 1) (cs := fun u => σ (66 + u)) ?_ (fun l hl => by simp (disch := omega) only [up_row]) (fun u hu => by simp (disch := omega) only [up_row]) (fun u hu => by simp (disch := omega) only [up_row]) (fun u hu => by simp (disch := omega) only [up_row])
  simp (disch := omega) only [up_row, up_rs]
  refine ⟨Hd_r (Hd_r a1 (by omega)) (by omega), Ik_r (Ik_r a2 (by omega)) (by omega), ⟨n, hn, e1, ?_, Lns_r (Lns_r a3 (by omega)) (by omega)⟩, a4, ?_, Sq_r (c0 := 6) (o := 142) (Sq_r a6 (by omega) (by omega)) (by omega) (by omega), fun u hu => Cd_r (Cd_r (a7 u hu) (by omega)) (by omega)⟩
  · rw [upd_n (by omega), upd_n (by omega)]; exact e2
  · refine ⟨t' + 1, by omega, ?_, ?_, fun j hj => ?_⟩
    · rw [upd_e]
    · rw [upd_e]
    · show upd (upd (τ 1) (82 + t') v) 5 _ (82 + j) = upd (σ 62) t' v j
      rw [upd_n (by omega)]
      by_cases hjt : j = t'
      · subst hjt; rw [upd_e, upd_e]
      · rw [upd_n (by omega), upd_n hjt]; exact p3 j (by omega)
theorem feed_loop (w : Int64) {N : Nat} (hN : N ≤ 8) : ∀ (d i t m m' : Nat) (σ τ : Sg), i + d = N → d < m → d < m' → Sim σ τ → σ 44 1 = nI t → t + d ≤ 60 → Ok (f_X9_feed_39 m w (nI N) (nI i) σ) (f_X10_feed_40 m' w (nI N) (nI i) τ) := by
  intro d
  induction d with
  | zero =>
    intro i t m m' σ τ hi hm hm' h s1 s2
    obtain ⟨m, rfl⟩ : ∃ j, m = j + 1 := ⟨m - 1, by omega⟩
    obtain ⟨m', rfl⟩ : ∃ j, m' = j + 1 := ⟨m' - 1, by omega⟩
    obtain rfl : i = N := by omega
    obtain ⟨a1, a2, a3, a4, ⟨t', ht', p1, p2, p3⟩, a6, a7⟩ := h.1
    rw [f_X9_feed_39, f_X10_feed_40]
    unfold f_X9_feed_39_b f_X10_feed_40_b
    rw [if_pos (nI_le (Nat.le_refl _) (by omega)), if_pos (nI_le (Nat.le_refl _) (by omega)), ck_5, rd_5, p1, p2]
    exact Ok.mk h
  | succ d ih =>
    intro i t m m' σ τ hi hm hm' h s1 s2
    obtain ⟨m, rfl⟩ : ∃ j, m = j + 1 := ⟨m - 1, by omega⟩
    obtain ⟨m', rfl⟩ : ∃ j, m' = j + 1 := ⟨m' - 1, by omega⟩
    obtain ⟨a1, a2, a3, a4, ⟨t', ht', p1, p2, p3⟩, a6, a7⟩ := h.1
    obtain rfl : t' = t := m_same_n (by omega) (by omega) (p1.symm.trans s1)
    have nle := nI_ge (show i < N by omega) (show N < 2 ^ 31 by omega)
    have et : (nI t').toInt = (t' : Int) := i_nI (by omega)
    have t82 : (82 : Int32).toInt = 82 := rfl
    have e82 : ((82 : Int32) + nI t').toInt = ((82 + t' : Nat) : Int) := by
      rw [i_add (by rw [et, t82]; omega) (by rw [et, t82]; omega), et, t82]; omega
    rw [f_X9_feed_39, f_X10_feed_40]
    unfold f_X9_feed_39_b f_X10_feed_40_b
    rw [if_neg nle, if_neg nle, x_add s1 (show t' < capC (44 + 18) by show t' < 60; omega), bnd_s, lt_a, nI_1, byte_eq w (by omega), ck_5, rd_5, p2, ck_k e82 (by omega), tn_k e82, lt_a, ck_5, ck_5, rd_5, tn_5, up_i (by omega), p2, nI_1, lt_a, lt_a]
    exact ih (i + 1) (t' + 1) m m' _ _ (by omega) (by omega) (by omega) (h.tape (by omega) s1 _) up_s (by omega)
theorem eq_feed {σ τ : Sg} (h : Sim σ τ) (w : Int64) (a : Int32) : Ok (f_X9_feed w a σ) (f_X10_feed w a τ) := by
  obtain ⟨a1, a2, a3, a4, ⟨t, ht, p1, p2, p3⟩, a6, a7⟩ := h.1
  have et : (nI t).toInt = (t : Int) := i_nI (by omega)
  have t60 : (60 : Int32).toInt = 60 := rfl
  unfold f_X9_feed f_X10_feed f_X6_hasRoomFor
  simp only [x_isIn, m_in, x_err1, m_err1, x_err4, m_err4, bnd_s, if01]
  by_cases c1 : 1 ≤ a ∧ a ≤ 8
  · rw [if_pos c1, if_pos c1, ck_5, rd_5, p2, p1]
    simp only [i_le, ti_1, ti_8] at c1
    obtain ⟨N, hN, rfl⟩ := nI_ofi (a := a) (n := 9) (by omega) (by omega)
    have eN : (nI N).toInt = (N : Int) := i_nI (by omega)
    have es : (Int32.ofNat (capC (44 + 18)) - nI t).toInt = 60 - (t : Int) := by
      rw [show Int32.ofNat (capC (44 + 18)) = (60 : Int32) from rfl, i_sub (by rw [et, t60]; omega) (by rw [et, t60]; omega), et, t60]
    have ea : (nI t + nI N).toInt = (t : Int) + (N : Int) := by rw [i_add (by rw [et, eN]; omega) (by rw [et, eN]; omega), et, eN]
    by_cases c2 : t + N ≤ 60
    · rw [if_neg (by rw [i_lt, es, eN]; omega), if_pos (by rw [i_le, ea, t60]; omega), bnd_s, if_neg (show ¬ (1 : Int32) = 0 by decide)]
      have := feed_loop w (show N ≤ 8 by omega) N 0 t fuN fuN σ τ (by omega) (by have := fu_le; omega) (by have := fu_le; omega) h p1 c2
      rwa [nI_0] at this
    · rw [if_pos (by rw [i_lt, es, eN]; omega), if_neg (by rw [i_le, ea, t60]; omega), bnd_s, if_pos rfl]
      exact Ok.err h 4 (by decide)
  · rw [if_neg c1, if_neg c1]
    exact Ok.err h 1 (by decide)
/-! odds -/
theorem if11 {α : Type} {c : Prop} [Decidable c] {A B : α} : (if (if c then (1 : Int32) else 0) = 1 then A else B) = if c then A else B := by
  by_cases h : c
  · rw [if_pos h, if_pos h, if_pos rfl]
  · rw [if_neg h, if_neg h, if_neg (by decide)]
theorem cmp0 {a : Nat} (ha : a < 2 ^ 63) : lg_cmp (lN a) (0 : Int64) = 0 ↔ a = 0 := by
  rw [lg_cmp_eq]
  have := pk_lEQ ha (b := 0) (by decide)
  exact this
theorem nzl_p {a : Nat} (ha : a < 2 ^ 63) (h : 0 < a) : nzl (lN a) = true := by
  unfold nzl
  rw [Bool.not_eq_true', decide_eq_false_iff_not]
  intro e
  have := (pk_lEQ ha (b := 0) (by decide)).mp e
  omega
theorem half_step {r B : Nat} (hr : 0 < r) (h : r < B) : 2 * (B % r) < B := by
  have h1 := Nat.mod_lt B hr
  have h2 := Nat.mod_add_div B r
  have h3 : 1 ≤ B / r := Nat.div_pos (by omega) hr
  have h4 : r * 1 ≤ r * (B / r) := Nat.mul_le_mul_left r h3
  omega
theorem x_gcd (σ : Sg) : ∀ (k A B s n : Nat), A < 2 ^ 62 → B < 2 ^ 62 → B < 2 ^ k → s + 2 * k < 1000 → 2 * k < n → f_X9_sharedDivisor_9 n (lN A) (lN B) (nI s) σ = some (lN (Nat.gcd B A), σ) := by
  intro k
  have stop : ∀ (A s n : Nat), s < 1000 → f_X9_sharedDivisor_9 (n + 1) (lN A) (lN 0) (nI s) σ = some (lN (Nat.gcd 0 A), σ) := by
    intro A s n hs
    have es : (nI s).toInt = (s : Int) := i_nI (by omega)
    rw [f_X9_sharedDivisor_9]
    unfold f_X9_sharedDivisor_9_b
    rw [if_neg (by rw [i_le, es]; show ¬ (1000 : Int) ≤ _; omega), if_pos ((cmp0 (by decide)).mpr rfl), Nat.gcd_zero_left]
  have step : ∀ (A B s n : Nat), A < 2 ^ 62 → B < 2 ^ 62 → 0 < B → s < 1000 → f_X9_sharedDivisor_9 (n + 1) (lN A) (lN B) (nI s) σ = f_X9_sharedDivisor_9 n (lN B) (lN (A % B)) (nI (s + 1)) σ := by
    intro A B s n hA hB h0 hs
    have es : (nI s).toInt = (s : Int) := i_nI (by omega)
    have hr : lrm (lN A) (lN B) = lN (A % B) := pk_lRem (by omega) h0 (by omega)
    rw [f_X9_sharedDivisor_9]
    unfold f_X9_sharedDivisor_9_b
    rw [if_neg (by rw [i_le, es]; show ¬ (1000 : Int) ≤ _; omega), if_neg (fun e => by have := (cmp0 (by omega)).mp e; omega), ckb_t (nzl_p (by omega) h0), lt_a, lt_a, hr, nI_1]
  induction k with
  | zero =>
    intro A B s n hA hB hk hs hn
    obtain ⟨n, rfl⟩ : ∃ j, n = j + 1 := ⟨n - 1, by omega⟩
    obtain rfl : B = 0 := by omega
    exact stop A s n (by omega)
  | succ k ih =>
    intro A B s n hA hB hk hs hn
    obtain ⟨n, rfl⟩ : ∃ j, n = j + 2 := ⟨n - 2, by omega⟩
    by_cases h0 : B = 0
    · subst h0; exact stop A s (n + 1) (by omega)
    · have hr := Nat.mod_lt A (show 0 < B by omega)
      rw [show n + 2 = (n + 1) + 1 by omega, step A B s (n + 1) hA hB (by omega) (by omega)]
      rw [Nat.gcd_rec B A]
      by_cases h1 : A % B = 0
      · rw [h1]; exact stop B (s + 1) n (by omega)
      · have hh := half_step (show 0 < A % B by omega) hr
        rw [step B (A % B) (s + 1) n hB (by omega) (by omega) (by omega), Nat.gcd_rec (A % B) B]
        have p2 : 2 ^ (k + 1) = 2 * 2 ^ k := by rw [Nat.pow_succ]; omega
        exact ih (A % B) (B % (A % B)) (s + 1 + 1) n (by omega) (by omega) (by omega) (by omega) (by omega)
theorem m_gcd (τ : Sg) (w : Int32) (P Q : Int64) : ∀ (k A B n : Nat), A < 2 ^ 62 → B < 2 ^ 62 → B < 2 ^ k → 2 * k < n → 0 < Nat.gcd B A → f_X10_odds_106 n w P Q (lN B) (lN A) τ = some (if w = 0 then P / lN (Nat.gcd B A) else Q / lN (Nat.gcd B A), τ) := by
  intro k
  have stop : ∀ (A n : Nat), A < 2 ^ 62 → 0 < Nat.gcd 0 A → f_X10_odds_106 (n + 1) w P Q (lN 0) (lN A) τ = some (if w = 0 then P / lN (Nat.gcd 0 A) else Q / lN (Nat.gcd 0 A), τ) := by
    intro A n hA h0
    rw [Nat.gcd_zero_left] at h0 ⊢
    rw [f_X10_odds_106]
    unfold f_X10_odds_106_b
    rw [if_pos ((cmp0 (by decide)).mpr rfl), ckb_t (nzl_p (by omega) h0), ckb_t (nzl_p (by omega) h0)]
    by_cases hw : w = 0
    · rw [if_pos hw, if_pos hw]
    · rw [if_neg hw, if_neg hw]
  have step : ∀ (A B n : Nat), A < 2 ^ 62 → B < 2 ^ 62 → 0 < B → f_X10_odds_106 (n + 1) w P Q (lN B) (lN A) τ = f_X10_odds_106 n w P Q (lN (A % B)) (lN B) τ := by
    intro A B n hA hB h0
    have hr : lrm (lN A) (lN B) = lN (A % B) := pk_lRem (by omega) h0 (by omega)
    rw [f_X10_odds_106]
    unfold f_X10_odds_106_b
    rw [if_neg (fun e => by have := (cmp0 (by omega)).mp e; omega), ckb_t (nzl_p (by omega) h0), lt_a, hr]
  induction k with
  | zero =>
    intro A B n hA hB hk hn h0
    obtain ⟨n, rfl⟩ : ∃ j, n = j + 1 := ⟨n - 1, by omega⟩
    obtain rfl : B = 0 := by omega
    exact stop A n hA h0
  | succ k ih =>
    intro A B n hA hB hk hn hg
    obtain ⟨n, rfl⟩ : ∃ j, n = j + 2 := ⟨n - 2, by omega⟩
    by_cases h0 : B = 0
    · subst h0; exact stop A (n + 1) hA hg
    · have hr := Nat.mod_lt A (show 0 < B by omega)
      rw [show n + 2 = (n + 1) + 1 by omega, step A B (n + 1) hA hB (by omega)]
      rw [Nat.gcd_rec B A] at hg ⊢
      by_cases h1 : A % B = 0
      · rw [h1] at hg ⊢; exact stop B n hB hg
      · have hh := half_step (show 0 < A % B by omega) hr
        rw [step B (A % B) n hB (by omega) (by omega)]
        rw [Nat.gcd_rec (A % B) B] at hg ⊢
        have p2 : 2 ^ (k + 1) = 2 * 2 ^ k := by rw [Nat.pow_succ]; omega
        exact ih (A % B) (B % (A % B)) n (by omega) (by omega) (by omega) (by omega) hg
theorem p100 : ∀ k, k < 5 → 100 ^ k ≤ 100000000 ∧ 0 < 100 ^ k := by decide
theorem odds_loop {n S : Nat} (hS : S < 4096) (h4 : pcA S 12 ≤ 4) {w : Int32} {σ τ : Sg} (hv : Vw n (σ 1 2) σ τ) : ∀ (d i A m m' : Nat), i + d = n → d < m → d < m' → A ≤ 100 ^ pcA S i → ∃ r, f_X9_odds_48 m (nI S) w (lN A) (lN (100 ^ pcA S i)) (nI i) σ = some (r, σ) ∧ f_X10_odds_51 m' (nI S) w (lN A) (lN (100 ^ pcA S i)) (nI i) τ = some (r, τ) := by
  have n10 := hv.1
  have e1 := hv.2.1
  have e2 := hv.2.2.1
  have mono : ∀ (i d : Nat), pcA S i ≤ pcA S (i + d) := by
    intro i d
    induction d with
    | zero => exact Nat.le_refl _
    | succ d ih => rw [show i + (d + 1) = (i + d) + 1 by omega, pcA]; omega
  have up4 : ∀ i, i ≤ n → pcA S i ≤ 4 := fun i hi => by
    have := mono i (12 - i)
    rw [show i + (12 - i) = 12 by omega] at this
    omega
  intro d
  induction d with
  | zero =>
    intro i A m m' hi hm hm' hA
    obtain ⟨m, rfl⟩ : ∃ j, m = j + 1 := ⟨m - 1, by omega⟩
    obtain ⟨m', rfl⟩ : ∃ j, m' = j + 1 := ⟨m' - 1, by omega⟩
    obtain rfl : i = n := by omega
    obtain ⟨b1, b2⟩ := p100 (pcA S i) (by have := up4 i (by omega); omega)
    rw [f_X9_odds_48, f_X10_odds_51]
    unfold f_X9_odds_48_b f_X10_odds_51_b
    rw [e1, if_pos (nI_le (Nat.le_refl _) (by omega)), ck_2, rd_2, e2, if_pos (nI_le (Nat.le_refl _) (by omega))]
    generalize 100 ^ pcA S i = B at *
    have g0 : 0 < Nat.gcd B A := Nat.gcd_pos_of_pos_left _ b2
    have gle : Nat.gcd B A ≤ B := Nat.gcd_le_left _ b2
    have xg := x_gcd σ 62 A B 0 fuN (by omega) (by omega) (by omega) (by omega) (by have := fu_le; omega)
    have mg := m_gcd τ w (lN A) (lN B) 62 B A fuN (by omega) (by omega) (by omega) (by have := fu_le; omega) (by rw [Nat.gcd_comm]; exact g0)
    rw [nI_0] at xg
    unfold f_X9_sharedDivisor
    rw [xg, bnd_s, if_neg (fun e => by have := (cmp0 (by omega)).mp e; omega), ckb_t (nzl_p (by omega) g0), ckb_t (nzl_p (by omega) g0), mg, Nat.gcd_comm A B]
    by_cases hw : w = 0
    · rw [if_pos hw, if_pos hw]; exact ⟨_, rfl, rfl⟩
    · rw [if_neg hw, if_neg hw]; exact ⟨_, rfl, rfl⟩
  | succ d ih =>
    intro i A m m' hi hm hm' hA
    obtain ⟨m, rfl⟩ : ∃ j, m = j + 1 := ⟨m - 1, by omega⟩
    obtain ⟨m', rfl⟩ : ∃ j, m' = j + 1 := ⟨m' - 1, by omega⟩
    have ei : (nI i).toInt = (i : Int) := i_nI (by omega)
    have nle := nI_ge (show i < n by omega) (show n < 2 ^ 31 by omega)
    have up1 := up4 (i + 1) (by omega)
    rw [f_X9_odds_48, f_X10_odds_51]
    unfold f_X9_odds_48_b f_X10_odds_51_b
    rw [e1, if_neg nle, ck_2, rd_2, e2, if_neg nle, x_isOf (by omega), bnd_s, shr_1 (by omega), if01, if11, bt_nI (by omega)]
    by_cases hb : S.testBit i = true
    · obtain ⟨v, v1, v2, v3, v4⟩ := back_eq hv (show i < n by omega)
      obtain ⟨c, hc, rfl⟩ := nI_ofi (a := v) (n := 101) v3 (by omega)
      have ec : (nI c).toInt = (c : Int) := i_nI (by omega)
      have t100 : (100 : Int32).toInt = 100 := rfl
      have e100 : (100 : Int32) - nI c = nI (100 - c) := by
        rw [i_eq, i_sub (by rw [ec, t100]; omega) (by rw [ec, t100]; omega), ec, t100, i_nI (by omega)]; omega
      have pc : pcA S (i + 1) = pcA S i + 1 := by rw [pcA, if_pos hb]
      have pw : 100 ^ pcA S i * 100 = 100 ^ pcA S (i + 1) := by rw [pc, Nat.pow_succ]
      rw [if_pos hb, if_pos hb, ck_k ei (by omega), tn_k ei, lt_a, v1, v2, bnd_s, bnd_s]
      rw [e100, nI_l (by omega), lN_mul, show (100 : Int64) = lN 100 from rfl, lN_mul, pw]
      simp only [lt_a, nI_1]
      refine ih (i + 1) (A * (100 - c)) m m' (by omega) (by omega) (by omega) ?_
      rw [← pw]
      exact Nat.mul_le_mul hA (by omega)
    · have pc : pcA S (i + 1) = pcA S i := by rw [pcA, if_neg hb]; rfl
      rw [if_neg hb, if_neg hb]
      simp only [lt_a, nI_1]
      have := ih (i + 1) A m m' (by omega) (by omega) (by omega) (by rw [pc]; exact hA)
      rw [pc] at this
      exact this
theorem shr_n {n : Nat} (hn : n < 32) {v : Int32} : (shr v (nI n)).toInt = v.toInt / ((2 ^ n : Nat) : Int) := by
  unfold shr
  show (v >>> (nI n &&& 31)).toBitVec.toInt = v.toBitVec.toInt / _
  rw [Int32.toBitVec_shiftRight, BitVec.toInt_sshiftRight', sh_amt n hn, Int.shiftRight_eq_div_pow]
theorem top_n : ∀ n, n < 11 → shl (1 : Int32) (nI n) - 1 = nI (2 ^ n - 1) := by decide +kernel
theorem le_1024 : ∀ n, n < 11 → 2 ^ n ≤ 1024 := by decide
theorem eq_odds {σ τ : Sg} (h : Sim σ τ) (a w : Int32) : ∃ (r : Int64) (σ' τ' : Sg), f_X9_odds a w σ = some (r, σ') ∧ f_X10_odds a w τ = some (r, τ') ∧ Sim σ' τ' := by
  obtain ⟨n, hv⟩ := h.vw
  have n10 := hv.1
  have e1 := hv.2.1
  have e2 := hv.2.2.1
  have err : ∃ (r : Int64) (σ' τ' : Sg), some ((-1000000001 : Int32).toInt64, up σ 8 1 (σ 8 1 + 1)) = some (r, σ') ∧ some ((-1000000001 : Int32).toInt64, up τ 4 1 (τ 4 1 + 1)) = some (r, τ') ∧ Sim σ' τ' := ⟨_, _, _, rfl, rfl, h.err 1 (by decide)⟩
  have pn := le_1024 n (by omega)
  have pn0 : 0 < 2 ^ n := Nat.two_pow_pos n
  unfold f_X9_odds f_X10_odds
  simp only [x_isIn, m_in, x_err1, m_err1, bnd_s, if01]
  rw [e1, ck_2, rd_2, e2, top_n n (by omega)]
  by_cases c1 : 0 ≤ a ∧ a ≤ nI (2 ^ n - 1)
  · rw [if_pos c1]
    rw [i_le, i_le, ti_0, i_nI (by omega)] at c1
    obtain ⟨S, hS, rfl⟩ := nI_ofi (a := a) (n := 2 ^ n) c1.1 (by omega)
    have eS : (nI S).toInt = (S : Int) := i_nI (by omega)
    have s0 : shr (nI S) (nI n) = 0 := by
      rw [i_eq, shr_n (by omega), eS, ti_0]
      exact Int.ediv_eq_zero_of_lt (by omega) (by omega)
    rw [if_neg (show ¬ nI S < 0 by rw [i_lt, eS, ti_0]; omega), if_pos s0, x_bits (by omega), m_bits (by omega), bnd_s, bnd_s]
    have ple := pcA_le S 12
    have ep : (nI (pcA S 12)).toInt = (pcA S 12 : Int) := i_nI (by omega)
    by_cases c2 : pcA S 12 ≤ 4
    · have lt4 : ¬ (4 : Int32) < nI (pcA S 12) := by rw [i_lt, ep, ti_4]; omega
      rw [if_neg lt4, if_neg lt4]
      by_cases c3 : 0 ≤ w ∧ w ≤ 1
      · rw [if_pos c3, if_pos c3]
        obtain ⟨r, r1, r2⟩ := odds_loop (by omega) c2 (w := w) hv n 0 1 fuN fuN (by omega) (by have := fu_le; omega) (by have := fu_le; omega) (by rw [pcA]; decide)
        rw [nI_0, pcA] at r1 r2
        exact ⟨r, σ, τ, r1, r2, h⟩
      · rw [if_neg c3, if_neg c3]; exact err
    · have lt4 : (4 : Int32) < nI (pcA S 12) := by rw [i_lt, ep, ti_4]; omega
      rw [if_pos lt4, if_pos lt4]; exact err
  · rw [if_neg c1]
    by_cases c0 : a < 0
    · rw [if_pos c0]; exact err
    · rw [if_neg c0, if_neg (fun e => c1 ⟨?_, ?_⟩)]
      · exact err
      · rw [i_lt, ti_0] at c0; rw [i_le, ti_0]; omega
      · rw [i_lt, ti_0] at c0
        rw [i_eq, shr_n (by omega), ti_0] at e
        rw [i_le, i_nI (by omega)]
        have q := Int.lt_ediv_add_one_mul_self a.toInt (b := ((2 ^ n : Nat) : Int)) (by omega)
        rw [e, Int.zero_add, Int.one_mul] at q
        omega
