theorem draw_eq {σ τ : Sg} (h : Sim σ τ) : ∃ r σ' τ', f_X0_draw σ = some (r, σ') ∧ f_X10_draw τ = some (r, τ') ∧ Sim σ' τ' ∧ 0 ≤ r.toInt ∧ σ' 1 2 = σ 1 2 ∧ σ' 1 1 = σ 1 1 := by
  have hh := h.1.1
  have z : τ 1 1 = σ 1 6 := hh.2.2.2.2.2.2.2.2
  refine ⟨ius (σ 1 6 * 1103515245 + 12345) 8, up σ 1 6 (σ 1 6 * 1103515245 + 12345), up τ 1 1 (σ 1 6 * 1103515245 + 12345), ?_, ?_, ?_, ius8 _, up_i (by decide), up_i (by decide)⟩
  · unfold f_X0_draw
    rw [lt_a, up_s]
  · unfold f_X10_draw
    rw [ck_1, ck_1, lt_a, ck_1, rd_1, rd_1, tn_1, z, up_s]
  · refine h.hi (fun k a _ => up_row a) (fun k a => up_row a) (up_i (by decide)) (fun j hj => up_i (by omega)) ?_ ?_ (by rw [up_i (by decide)]; exact Int.le_refl _)
    · rw [up_rs, up_rs]
      unfold Hd at hh ⊢
      simp (disch := omega) only [upd_n, upd_e]
      exact ⟨hh.1, hh.2.1, hh.2.2.1, hh.2.2.2.1, hh.2.2.2.2.1, hh.2.2.2.2.2.1, hh.2.2.2.2.2.2.1, hh.2.2.2.2.2.2.2.1, trivial⟩
    · rw [up_row (by decide), up_rs]; exact Ik_r h.1.2.1 (by omega)
theorem ten_k : ∀ k, k < 7 → (10 : Int32) * nI k / 10 = nI k ∧ irm ((10 : Int32) * nI k) 10 = 0 := by decide +kernel
theorem Sim.n {σ τ : Sg} (h : Sim σ τ) : ∃ n, n ≤ 10 ∧ σ 1 1 = nI n ∧ τ 1 2 = nI n := by
  obtain ⟨a1, a2, ⟨n, hn, e1, e2, a3⟩, a4, a5, a6, a7⟩ := h.1
  exact ⟨n, hn, e1, e2⟩
theorem and_two {T c : Nat} (hT : T < 4096) (hc : c < 12) : nI (2 ^ c) &&& nI T = 0 ↔ ¬ bt (nI T) c = true := by
  have p : 2 ^ c < 2 ^ 12 := Nat.pow_lt_pow_right (by decide) hc
  rw [and_0]
  constructor
  · intro h q
    exact h c (by omega) ⟨by rw [bt_nI (by omega), Nat.testBit_two_pow_self], q⟩
  · rintro h l hl ⟨q1, q2⟩
    rw [bt_nI (by omega), Nat.testBit_two_pow, decide_eq_true_eq] at q1
    subst q1
    exact h q2
theorem drawn39 {σ τ : Sg} (h : Sim σ τ) (hd : (σ 1 2).toInt < 9999) (a : Int32) : ∃ σ' τ', f_X0_passDayByDraws_39 a σ = some (a, σ') ∧ f_X10_drawn_38 a τ = some (a, τ') ∧ Sim σ' τ' ∧ σ' 1 2 = σ 1 2 + 1 := by
  obtain ⟨r, σ1, τ1, p1, p2, h1, r0, dd1, nn1⟩ := draw_eq h
  obtain ⟨n, hv⟩ := h1.vw
  have n10 := hv.1
  have e1 := hv.2.1
  have e2 := hv.2.2.1
  obtain ⟨T, t1, t2, t3⟩ := taken_eq hv
  have q12 := i_rem_b (a := r) (b := 12) r0 (by decide)
  obtain ⟨c, hc, ec⟩ := nI_ofi (a := irm r 12) (n := 12) q12.1 q12.2
  unfold f_X0_passDayByDraws_39 f_X10_drawn_38
  rw [p1, p2, bnd_s, bnd_s, lt_a, lt_a, t2, t3, bnd_s, bnd_s, ec, x_isOf (by omega), bnd_s, shl1 c (by omega)]
  have fin : ∃ σ' τ', bnd (f_X0_passDay σ1) (fun _ s8 => some (a, s8)) = some (a, σ') ∧ bnd (f_X10_goes τ1) (fun _ s6 => some (a, s6)) = some (a, τ') ∧ Sim σ' τ' ∧ σ' 1 2 = σ 1 2 + 1 := by
    obtain ⟨σ2, τ2, w1, w2, w3, w4, _⟩ := pass_eq h1 (by rw [dd1]; exact hd)
    exact ⟨σ2, τ2, by rw [w1, bnd_s], by rw [w2, bnd_s], w3, by rw [w4, dd1]⟩
  have en : (nI n).toInt = (n : Int) := i_nI (by omega)
  by_cases hb : bt (nI T) c = true
  · rw [if_pos hb, if_neg (show ¬ (1 : Int32) = 0 by decide), if_neg (fun e => (and_two t1 hc).mp e hb)]
    exact fin
  · rw [if_neg hb, if_pos rfl, if_pos ((and_two t1 hc).mpr hb), ck_2, rd_2, e1, e2]
    by_cases n9 : n < 10
    · have nle : ¬ (10 : Int32) ≤ nI n := by rw [i_le, en, ti_10]; omega
      rw [if_neg nle, if_neg nle]
      obtain ⟨r2, σ2, τ2, u1, u2, h2, r20, dd2, nn2⟩ := draw_eq h1
      obtain ⟨r3, σ3, τ3, v1, v2, h3, r30, dd3, nn3⟩ := draw_eq h2
      have q7 := i_rem_b (a := r2) (b := 7) r20 (by decide)
      have q6 := i_rem_b (a := r3) (b := 6) r30 (by decide)
      obtain ⟨k, hk, ek⟩ := nI_ofi (a := irm r2 7) (n := 7) q7.1 q7.2
      have p : 2 ^ c < 2 ^ 12 := Nat.pow_lt_pow_right (by decide) hc
      have pI : (nI (2 ^ c)).toInt = ((2 ^ c : Nat) : Int) := i_nI (by omega)
      have ekk : (nI k).toInt = (k : Int) := i_nI (by omega)
      have q6' : (irm r3 6).toInt < 6 := q6.2
      obtain ⟨σ4, τ4, x1, x2, h4, dd4, _⟩ := h3.add n9 (by rw [nn3, nn2]; exact e1) (km := 10 * nI k) (c := nI (2 ^ c)) (w := irm r3 6) (ten_k k hk).1 (ten_k k hk).2 (by omega) (by omega) (by decide) (by decide) (by rw [pI]; exact Int.natCast_nonneg _) (by rw [pI]; exact Int.ofNat_lt.mpr p) q6.1 (by omega)
      obtain ⟨σ5, τ5, w1, w2, w3, w4, _⟩ := pass_eq h4 (by rw [dd4, dd3, dd2, dd1]; exact hd)
      rw [u1, u2, bnd_s, bnd_s, lt_a, lt_a, v1, v2, bnd_s, bnd_s, lt_a, ek, x1, x2, bnd_s, bnd_s, w1, w2, bnd_s, bnd_s]
      exact ⟨σ5, τ5, rfl, rfl, w3, by rw [w4, dd4, dd3, dd2, dd1]⟩
    · have le : (10 : Int32) ≤ nI n := by rw [i_le, en, ti_10]; omega
      rw [if_pos le, if_pos le]
      exact fin
theorem wipe_day {n l : Nat} {σ σ' : Sg} {v : Int32} (hl : l < 10) (D : ∃ σ1, f_X0_lossOf (nI l) (σ 1 2) σ = some (v, σ1) ∧ σ1 1 = σ 1) (w : f_X0_wipeLine (nI l) σ = some (v, σ')) : σ' 1 2 = σ 1 2 ∧ σ' 1 1 = σ 1 1 := by
  obtain ⟨σ1, d1, d2⟩ := D
  have el : (nI l).toInt = (l : Int) := i_nI (by omega)
  unfold f_X0_wipeLine at w
  rw [d1, bnd_s, ck_k el hl, tn_k el, lt_a, lt_a, lt_a] at w
  cases w
  rw [up_i (by decide), up_i (by decide), up_k (by omega), up_k (by omega), d2]
  exact ⟨rfl, rfl⟩
theorem wipe_eq2 {σ τ : Sg} (h : Sim σ τ) {n l : Nat} (hv : Vw n (σ 1 2) σ τ) (hl : l < n) : ∃ v σ' τ', f_X0_wipeLine (nI l) σ = some (v, σ') ∧ f_X10_isWiped (nI l) τ = some ((), τ') ∧ Sim σ' τ' ∧ σ' 1 2 = σ 1 2 ∧ σ' 1 1 = σ 1 1 := by
  obtain ⟨v, σ1, τ1, σ', τ', w1, w2, w3, w4, w5, w6⟩ := wipe_eq h hv hl
  have h10 := hv.1
  obtain ⟨v', σ1', τ1', z1, z2, z3, _⟩ := loss_eq hv hl
  rw [w1] at z1
  cases z1
  obtain ⟨q1, q2⟩ := wipe_day (n := n) (by omega) ⟨σ1, w1, z3 1 rfl⟩ w3
  exact ⟨v, σ', τ', w3, w4, w5, q1, q2⟩
theorem drawn_eq {σ τ : Sg} (h : Sim σ τ) (hd : (σ 1 2).toInt < 9999) : ∃ r σ' τ', f_X0_passDayByDraws σ = some (r, σ') ∧ f_X10_drawn τ = some (r, τ') ∧ Sim σ' τ' ∧ σ' 1 2 = σ 1 2 + 1 := by
  obtain ⟨n, hv⟩ := h.vw
  have n10 := hv.1
  have e1 := hv.2.1
  have e2 := hv.2.2.1
  have en : (nI n).toInt = (n : Int) := i_nI (by omega)
  unfold f_X0_passDayByDraws f_X10_drawn
  rw [ck_2, rd_2, e1, e2]
  by_cases n0 : n = 0
  · have le : nI n ≤ 0 := by rw [i_le, en, ti_0]; omega
    rw [if_pos le, if_pos le]
    obtain ⟨σ', τ', w⟩ := drawn39 h hd 0
    exact ⟨0, σ', τ', w⟩
  · have nle : ¬ nI n ≤ 0 := by rw [i_le, en, ti_0]; omega
    rw [if_neg nle, if_neg nle]
    obtain ⟨r, σ1, τ1, p1, p2, h1, r0, dd1, nn1⟩ := draw_eq h
    obtain ⟨n', hv1⟩ := h1.vw
    have f1 := hv1.2.1
    have f2 := hv1.2.2.1
    have h10' := hv1.1
    obtain rfl : n' = n := m_same_n (by omega) (by omega) (f1.symm.trans (nn1.trans e1))
    have hnz : nz (nI n') = true := by
      unfold nz
      rw [Bool.not_eq_true', decide_eq_false_iff_not]
      intro e; rw [e, ti_0] at en; omega
    have qn := i_rem_b (a := r) (b := nI n') r0 (by omega)
    obtain ⟨l, hl, el⟩ := nI_ofi (a := irm r (nI n')) (n := n') qn.1 (by omega)
    rw [p1, p2, bnd_s, bnd_s, ck_2, f1, rd_2, f2, ckb_t hnz, ckb_t hnz, lt_a, lt_a, el, (mayGo_eq hv1 hl).1, (mayGo_eq hv1 hl).2, bnd_s, bnd_s, if01, if01]
    by_cases g : gbI (σ1 (20 + l)) (σ1 1 2) (σ1 1 3) = 0
    · rw [if_pos g, if_pos g]
      obtain ⟨v, σ2, τ2, w1, w2, h2, dd2, _⟩ := wipe_eq2 h1 hv1 hl
      rw [w1, w2, bnd_s, bnd_s]
      obtain ⟨σ', τ', x1, x2, x3, x4⟩ := drawn39 h2 (by rw [dd2, dd1]; exact hd) 1
      exact ⟨1, σ', τ', x1, x2, x3, by rw [x4, dd2, dd1]⟩
    · rw [if_neg g, if_neg g]
      obtain ⟨σ', τ', x1, x2, x3, x4⟩ := drawn39 h1 (by rw [dd1]; exact hd) 0
      exact ⟨0, σ', τ', x1, x2, x3, by rw [x4, dd1]⟩
theorem loose_loop {N : Nat} (hN : N ≤ 30) : ∀ (d i n m : Nat) (acc : Int32) (σ τ : Sg), i + d = N → d < n → d < m → Sim σ τ → (σ 1 2).toInt + (d : Int) ≤ 9999 → Ok (f_X9_loose_41 n (nI N) acc (nI i) σ) (f_X10_loose_42 m (nI N) acc (nI i) τ) := by
  intro d
  induction d with
  | zero =>
    intro i n m acc σ τ hi hn hm h hd
    obtain ⟨n, rfl⟩ : ∃ j, n = j + 1 := ⟨n - 1, by omega⟩
    obtain ⟨m, rfl⟩ : ∃ j, m = j + 1 := ⟨m - 1, by omega⟩
    obtain rfl : i = N := by omega
    rw [f_X9_loose_41, f_X10_loose_42]
    unfold f_X9_loose_41_b f_X10_loose_42_b
    rw [if_pos (nI_le (Nat.le_refl _) (by omega)), if_pos (nI_le (Nat.le_refl _) (by omega))]
    exact Ok.mk h
  | succ d ih =>
    intro i n m acc σ τ hi hn hm h hd
    obtain ⟨n, rfl⟩ : ∃ j, n = j + 1 := ⟨n - 1, by omega⟩
    obtain ⟨m, rfl⟩ : ∃ j, m = j + 1 := ⟨m - 1, by omega⟩
    have nle := nI_ge (show i < N by omega) (show N < 2 ^ 31 by omega)
    obtain ⟨r, σ', τ', w1, w2, w3, w4⟩ := drawn_eq h (by omega)
    have ed : (σ 1 2 + 1).toInt = (σ 1 2).toInt + 1 := by rw [i_add (by rw [ti_1]; have := h.1.1.2.1; omega) (by rw [ti_1]; omega), ti_1]
    rw [f_X9_loose_41, f_X10_loose_42]
    unfold f_X9_loose_41_b f_X10_loose_42_b
    rw [if_neg nle, if_neg nle, w1, w2, bnd_s, bnd_s, lt_a, lt_a, lt_a, lt_a, nI_1]
    exact ih (i + 1) n m (acc + r) σ' τ' (by omega) (by omega) (by omega) w3 (by rw [w4, ed]; omega)
theorem eq_loose {σ τ : Sg} (h : Sim σ τ) (a : Int32) : Ok (f_X9_loose a σ) (f_X10_loose a τ) := by
  have d0 := h.1.1.1
  have d1 := h.1.1.2.1
  have d2 := h.1.1.2.2.1
  have t30 : (30 : Int32).toInt = 30 := rfl
  have t9 : (9999 : Int32).toInt = 9999 := rfl
  unfold f_X9_loose f_X10_loose
  simp only [x_isIn, m_in, x_err1, m_err1, x_err3, m_err3, bnd_s, if01]
  by_cases c1 : 1 ≤ a ∧ a ≤ 30
  · rw [if_pos c1, if_pos c1, ck_0, rd_0, d0]
    simp only [i_le, ti_1, t30] at c1
    obtain ⟨N, hN, rfl⟩ := nI_ofi (a := a) (n := 31) (by omega) (by omega)
    have eN : (nI N).toInt = (N : Int) := i_nI (by omega)
    by_cases c2 : σ 1 2 + nI N ≤ 9999
    · rw [if_pos c2, if_pos c2]
      rw [i_le, i_add (by rw [eN]; omega) (by rw [eN]; omega), eN, t9] at c2
      have := loose_loop (show N ≤ 30 by omega) N 0 fuN fuN 0 σ τ (by omega) (by have := fu_le; omega) (by have := fu_le; omega) h (by omega)
      rwa [nI_0] at this
    · rw [if_neg c2, if_neg c2]
      exact Ok.err h 3 (by decide)
  · rw [if_neg c1, if_neg c1]
    exact Ok.err h 1 (by decide)
/-! write -/
theorem i_div_n {a b : Int32} (h : a.toInt < 0) (hb : 0 < b.toInt) : (a / b).toInt = -(-a.toInt / b.toInt) := by
  rw [Int32.toInt_div]
  have h0 : 0 ≤ -a.toInt := by omega
  have h1 := i_lo a
  have e : a.toInt.tdiv b.toInt = -(-a.toInt / b.toInt) := by
    have := Int.neg_tdiv (-a.toInt) b.toInt
    rw [Int.neg_neg] at this
    rw [this, Int.tdiv_eq_ediv_of_nonneg h0]
  have h2 := Int.ediv_nonneg h0 (Int.le_of_lt hb)
  have h3 := Int.ediv_le_self b.toInt h0
  rw [e]
  by_cases q : -a.toInt / b.toInt ≤ 2147483648
  · by_cases q2 : -a.toInt / b.toInt = 2147483648
    · exact bm (by omega) (by omega)
    · exact bm (by omega) (by omega)
  · omega
theorem rem_n {a : Int32} (h : a.toInt < 0) : (irm a (100 : Int32)).toInt ≤ 0 := by
  have t100 : (100 : Int32).toInt = 100 := rfl
  have h1 := i_div_n h (b := 100) (by rw [t100]; omega)
  rw [t100] at h1
  have h2 := i_lo a
  unfold irm
  have h3 : (a / (100 : Int32) * 100).toInt = (a / (100 : Int32)).toInt * 100 := by rw [i_mul (by rw [h1, t100]; omega) (by rw [h1, t100]; omega), t100]
  rw [i_sub (by rw [h3, h1]; omega) (by rw [h3, h1]; omega), h3, h1]
  omega
theorem range_w {a : Int32} : (((0 : Int32) ≤ a / 100 ∧ a / 100 ≤ 11) ∧ ((1 : Int32) ≤ irm a 100 ∧ irm a 100 ≤ 12 - a / 100)) ↔ (((1 : Int32) ≤ a ∧ a ≤ 1199) ∧ ((1 : Int32) ≤ irm a 100 ∧ irm a 100 ≤ 12 - a / 100)) := by
  have t100 : (100 : Int32).toInt = 100 := rfl
  have t11 : (1199 : Int32).toInt = 1199 := rfl
  by_cases h : 0 ≤ a.toInt
  · have h1 := i_div h (b := 100) (by rw [t100]; omega)
    have h2 := i_rem h (b := 100) (by rw [t100]; omega)
    rw [t100] at h1 h2
    simp only [i_le, h1, h2, ti_0, ti_1, ti_11, t11]
    constructor
    · rintro ⟨⟨p1, p2⟩, p3, p4⟩; exact ⟨⟨by omega, by omega⟩, p3, p4⟩
    · rintro ⟨⟨p1, p2⟩, p3, p4⟩; exact ⟨⟨by omega, by omega⟩, p3, p4⟩
  · have h1 := rem_n (a := a) (by omega)
    constructor
    · rintro ⟨_, p3, _⟩; rw [i_le, ti_1] at p3; omega
    · rintro ⟨_, p3, _⟩; rw [i_le, ti_1] at p3; omega
theorem ink_less {σ τ : Sg} (h : Sim σ τ) {p : Nat} (hp : p < 5) {v : Int32} (v0 : 0 ≤ v.toInt) (v1 : v.toInt ≤ 99) : Sim (up σ 16 p v) (up τ 1 (7 + p) v) := by
  refine h.hi (fun k _ b => up_row b) (fun k a => up_row a) (by rw [up_k (by decide)]) (fun j hj => up_i (by omega)) ?_ ?_ (by rw [up_k (by decide)]; exact Int.le_refl _)
  · rw [up_row (by decide), up_rs]; exact Hd_r h.1.1 (by omega)
  · rw [up_rs, up_rs]; exact Ik_s h.1.2.1 v0 v1
theorem i_quot {a : Int32} (h0 : 0 ≤ a.toInt) (h1 : a.toInt ≤ 69) : (0 ≤ (a / (10 : Int32)).toInt ∧ (a / (10 : Int32)).toInt ≤ 6) ∧ 0 ≤ (irm a (10 : Int32)).toInt ∧ (irm a (10 : Int32)).toInt ≤ 9 := by
  have hd := i_div10 h0
  have hr := i_rem10 h0
  omega
theorem eq_write {σ τ : Sg} (h : Sim σ τ) (a b c d : Int32) : Ok (f_X9_write a b c d σ) (f_X10_write a b c d τ) := by
  obtain ⟨n, hv⟩ := h.vw
  have n10 := hv.1
  have e1 := hv.2.1
  have e2 := hv.2.2.1
  have en : (nI n).toInt = (n : Int) := i_nI (by omega)
  have t69 : (69 : Int32).toInt = 69 := rfl
  obtain ⟨T, t1, t2, t3⟩ := taken_eq hv
  unfold f_X9_write f_X10_write f_X10_write_41
  simp only [x_isIn, m_in, x_isKm, m_isKm, x_err1, m_err1, x_err3, m_err3, x_err4, m_err4, bnd_s, if01, lt_a]
  by_cases c1 : 0 ≤ a ∧ a ≤ 69
  · rw [if_pos c1, if_pos c1]
    have rw_ := range_w (a := b)
    by_cases c2 : ((0 : Int32) ≤ b / 100 ∧ b / 100 ≤ 11) ∧ ((1 : Int32) ≤ irm b 100 ∧ irm b 100 ≤ 12 - b / 100)
    · have c2' := rw_.mp c2
      rw [if_pos c2.1, if_pos c2.2, if_pos c2'.1, if_pos c2'.2, if_neg (show ¬ (1 : Int32) = 0 by decide)]
      by_cases c3 : 0 ≤ c ∧ c ≤ 5
      · rw [if_pos c3, if_pos c3]
        by_cases c4 : 0 ≤ d ∧ d ≤ 4
        · rw [if_pos c4, if_pos c4, ck_2, rd_2, e1, e2]
          by_cases n9 : n < 10
          · have lt10 : nI n < (10 : Int32) := by rw [i_lt, en, ti_10]; omega
            have ne10 : ¬ nI n = (10 : Int32) := by rw [i_eq, en, ti_10]; omega
            rw [if_pos lt10, if_neg ne10]
            obtain ⟨⟨f0, f1⟩, f2, f3⟩ := c2
            rw [i_le, ti_0] at f0
            rw [i_le, ti_11] at f1
            rw [i_le, ti_1] at f2
            rw [i_le, i_sub (by rw [ti_12]; omega) (by rw [ti_12]; omega), ti_12] at f3
            obtain ⟨F, hF, eF⟩ := nI_ofi (a := b / 100) (n := 12) f0 (by omega)
            obtain ⟨K, hK, eK⟩ := nI_ofi (a := irm b 100) (n := 13) (by omega) (by omega)
            have iF : (nI F).toInt = (F : Int) := i_nI (by omega)
            have iK : (nI K).toInt = (K : Int) := i_nI (by omega)
            rw [eK, eF, iK, iF] at f3
            rw [eK, iK] at f2
            rw [eF, eK]
            unfold f_X9_columnsFrom f_X10_window
            rw [win_eq K (by omega) F (by omega) (by omega), bnd_s, bnd_s, t2, t3, bnd_s, bnd_s, Int32.and_comm (nI (winN F K)) (nI T)]
            by_cases c5 : nI T &&& nI (winN F K) = 0
            · rw [if_pos c5, if_pos c5]
              have c4' := c4
              rw [i_le, i_le, ti_0, ti_4] at c4'
              obtain ⟨p, hp, rfl⟩ := nI_ofi (a := d) (n := 5) c4'.1 (by omega)
              have ep : (nI p).toInt = (p : Int) := i_nI (by omega)
              have e7 : ((7 : Int32) + nI p).toInt = ((7 + p : Nat) : Int) := by rw [i_add (by rw [ep, ti_7]; omega) (by rw [ep, ti_7]; omega), ep, ti_7]; omega
              obtain ⟨k1, k2, k3⟩ := h.1.2.1 p hp
              rw [ck_k ep hp, ck_k ep hp, ck_k ep hp, rd_k ep, tn_k ep, ck_k e7 (by omega), ck_k e7 (by omega), ck_k e7 (by omega), rd_k e7, tn_k e7, k1]
              by_cases c6 : nI K ≤ σ 16 p
              · rw [if_pos c6, if_pos c6]
                rw [i_le, iK] at c6
                have es : (σ 16 p - nI K).toInt = (σ 16 p).toInt - (K : Int) := by rw [i_sub (by rw [iK]; omega) (by rw [iK]; omega), iK]
                have h2 := ink_less h hp (v := σ 16 p - nI K) (by omega) (by omega)
                rw [i_le, i_le, ti_0, t69] at c1
                rw [i_le, i_le, ti_0, ti_5] at c3
                obtain ⟨⟨g1, g2⟩, g3, g4⟩ := i_quot c1.1 c1.2
                have wl := win_lt K (by omega) F (by omega) (by omega)
                have wI : (nI (winN F K)).toInt = ((winN F K : Nat) : Int) := i_nI (by omega)
                obtain ⟨σ4, τ4, x1, x2, h4, dd4, _⟩ := h2.add n9 (by rw [up_k (by decide)]; exact e1) (km := a) (c := nI (winN F K)) (w := c) rfl rfl g1 g2 g3 g4 (by omega) (by omega) c3.1 c3.2
                rw [x1, x2, bnd_s, bnd_s]
                exact Ok.mk h4
              · rw [if_neg c6, if_neg c6]
                exact Ok.err h 3 (by decide)
            · rw [if_neg c5, if_neg c5]
              exact Ok.err h 3 (by decide)
          · have lt10 : ¬ nI n < (10 : Int32) := by rw [i_lt, en, ti_10]; omega
            have ne10 : nI n = (10 : Int32) := by rw [i_eq, en, ti_10]; omega
            rw [if_neg lt10, if_pos ne10]
            exact Ok.err h 4 (by decide)
        · rw [if_neg c4, if_neg c4]
          exact Ok.err h 1 (by decide)
      · rw [if_neg c3, if_neg c3]
        exact Ok.err h 1 (by decide)
    · have c2' : ¬ (((1 : Int32) ≤ b ∧ b ≤ 1199) ∧ ((1 : Int32) ≤ irm b 100 ∧ irm b 100 ≤ 12 - b / 100)) := fun e => c2 (rw_.mpr e)
      have left : ∀ X : Option (Int32 × Sg), (if (0 : Int32) ≤ b / 100 ∧ b / 100 ≤ 11 then (if (1 : Int32) ≤ irm b 100 ∧ irm b 100 ≤ 12 - b / 100 then X else some (-1000000001, up σ 8 1 (σ 8 1 + 1))) else some (-1000000001, up σ 8 1 (σ 8 1 + 1))) = some (-1000000001, up σ 8 1 (σ 8 1 + 1)) := by
        intro X
        by_cases q : (0 : Int32) ≤ b / 100 ∧ b / 100 ≤ 11
        · rw [if_pos q, if_neg (fun e => c2 ⟨q, e⟩)]
        · rw [if_neg q]
      rw [left, if_pos trivial]
      by_cases q : (1 : Int32) ≤ b ∧ b ≤ 1199
      · rw [if_pos q, if_neg (fun e => c2' ⟨q, e⟩)]
        exact Ok.err h 1 (by decide)
      · rw [if_neg q]
        exact Ok.err h 1 (by decide)
  · rw [if_neg c1, if_neg c1, if_pos trivial]
    exact Ok.err h 1 (by decide)
