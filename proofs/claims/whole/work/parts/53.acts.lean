theorem i_div {a b : Int32} (h : 0 ≤ a.toInt) (hb : 0 < b.toInt) : (a / b).toInt = a.toInt / b.toInt := by
  rw [Int32.toInt_div, Int.tdiv_eq_ediv_of_nonneg h]
  have h1 := i_hi a
  have h2 := Int.ediv_nonneg h (Int.le_of_lt hb)
  have h3 := Int.ediv_le_self b.toInt h
  exact bm (by omega) (by omega)
theorem i_rem {a b : Int32} (h : 0 ≤ a.toInt) (hb : 0 < b.toInt) : (irm a b).toInt = a.toInt % b.toInt := by
  unfold irm
  have h1 := i_div h hb
  have h2 := i_hi a
  have h3 := Int.ediv_nonneg h (Int.le_of_lt hb)
  have h4 := Int.ediv_mul_le a.toInt (Int.ne_of_gt hb)
  have h5 := Int.mul_nonneg h3 (Int.le_of_lt hb)
  have h6 : (a / b * b).toInt = a.toInt / b.toInt * b.toInt := by rw [i_mul (by rw [h1]; omega) (by rw [h1]; omega), h1]
  rw [i_sub (by rw [h6]; omega) (by rw [h6]; omega), h6, Int.emod_def, Int.mul_comm]
theorem i_rem_b {a b : Int32} (h : 0 ≤ a.toInt) (hb : 0 < b.toInt) : 0 ≤ (irm a b).toInt ∧ (irm a b).toInt < b.toInt := by
  rw [i_rem h hb]
  exact ⟨Int.emod_nonneg _ (Int.ne_of_gt hb), Int.emod_lt_of_pos _ hb⟩
theorem ius8 (v : Int32) : 0 ≤ (ius v (8 : Int32)).toInt := by
  have q : (ius v (8 : Int32)).toUInt32 = v.toUInt32 >>> 8 := rfl
  have q2 : (v.toUInt32 >>> 8).toNat < 2 ^ 24 := by
    rw [UInt32.toNat_shiftRight]
    have := v.toUInt32.toNat_lt
    show v.toUInt32.toNat >>> 8 < _
    rw [Nat.shiftRight_eq_div_pow]
    omega
  have q3 : (ius v (8 : Int32)).toBitVec.toNat < 2 ^ 24 := by
    have : (ius v (8 : Int32)).toBitVec.toNat = (ius v (8 : Int32)).toUInt32.toNat := rfl
    rw [this, q]; exact q2
  show 0 ≤ (ius v (8 : Int32)).toBitVec.toInt
  rw [BitVec.toInt_eq_toNat_of_lt (by omega)]
  omega
/-! a line more -/
theorem x_addLine {n : Nat} {σ : Sg} (n9 : n < 10) (e1 : σ 1 1 = nI n) (a b c w : Int32) : ∃ σ', f_X0_addLine a b c w σ = some (nI n, σ') ∧ (∀ k, k ≠ 1 → k ≠ 20 + n → σ' k = σ k) ∧ σ' 1 1 = nI (n + 1) ∧ (∀ j, j ≠ 1 → σ' 1 j = σ 1 j) ∧ σ' (20 + n) 0 = a ∧ σ' (20 + n) 1 = b ∧ σ' (20 + n) 2 = c ∧ σ' (20 + n) 3 = w ∧ σ' (20 + n) 4 = σ 1 2 ∧ σ' (20 + n) 5 = 0 ∧ σ' (20 + n) 6 = 0 := by
  have en : (nI n).toInt = (n : Int) := i_nI (by omega)
  have lt10 : nI n < (10 : Int32) := by rw [i_lt, en, ti_10]; omega
  unfold f_X0_addLine f_X2_begin
  rw [e1, if_pos lt10, ck_k en n9, tn_k en, lt_a]
  simp only [lt_a, bnd_s]
  simp (disch := omega) only [up_k, up_s, e1, nI_1, nI_pred]
  refine ⟨_, rfl, fun k h1 h2 => ?_, ?_, fun j hj => ?_, ?_, ?_, ?_, ?_, ?_, ?_, ?_⟩
  · simp (disch := omega) only [up_row]
  · rw [up_s]
  · rw [up_i hj]; simp (disch := omega) only [up_k]
  all_goals simp (disch := omega) only [up_k, up_i, up_s]
theorem m_comes {n : Nat} {τ : Sg} (n9 : n < 10) (e2 : τ 1 2 = nI n) (km c w : Int32) : ∃ τ', f_X10_comes km c w τ = some (nI n, τ') ∧ (∀ k, k ≠ 1 → τ' k = τ k) ∧ τ' 1 2 = nI (n + 1) ∧ (∀ j, j ≠ 2 → (j < 12 + 7 * n ∨ 12 + 7 * n + 7 ≤ j) → τ' 1 j = τ 1 j) ∧ τ' 1 (12 + 7 * n + 0) = km / 10 ∧ τ' 1 (12 + 7 * n + 1) = irm km 10 ∧ τ' 1 (12 + 7 * n + 2) = c ∧ τ' 1 (12 + 7 * n + 3) = w ∧ τ' 1 (12 + 7 * n + 4) = τ 1 0 ∧ τ' 1 (12 + 7 * n + 5) = 0 ∧ τ' 1 (12 + 7 * n + 6) = 0 := by
  unfold f_X10_comes
  rw [ck_2, rd_2, e2, lt_a, ck_2, ck_2, lt_a, tn_2, nI_1, m_lets 0 n9 rfl (by decide), bnd_s, m_lets 1 n9 rfl (by decide), bnd_s, m_lets 2 n9 rfl (by decide), bnd_s, m_lets 3 n9 rfl (by decide), bnd_s, ck_0, m_lets 4 n9 rfl (by decide), bnd_s, m_lets 5 n9 rfl (by decide), bnd_s, m_lets 6 n9 rfl (by decide), bnd_s, rd_0]
  simp (disch := omega) only [up_i]
  refine ⟨_, rfl, fun k h1 => ?_, ?_, fun j hj hj2 => ?_, ?_, ?_, ?_, ?_, ?_, ?_, ?_⟩
  · simp (disch := omega) only [up_row]
  all_goals simp (disch := omega) only [up_i, up_s]
theorem Sim.add {σ τ : Sg} (h : Sim σ τ) {n : Nat} (n9 : n < 10) (e1 : σ 1 1 = nI n) {km c w a b : Int32} (ha : km / 10 = a) (hb : irm km 10 = b) (a0 : 0 ≤ a.toInt) (a1 : a.toInt ≤ 6) (b0 : 0 ≤ b.toInt) (b1 : b.toInt ≤ 9) (c0 : 0 ≤ c.toInt) (c1 : c.toInt < 4096) (w0 : 0 ≤ w.toInt) (w1 : w.toInt ≤ 5) : ∃ σ' τ', f_X0_addLine a b c w σ = some (nI n, σ') ∧ f_X10_comes km c w τ = some (nI n, τ') ∧ Sim σ' τ' ∧ σ' 1 2 = σ 1 2 ∧ σ' 1 1 = nI (n + 1) := by
  obtain ⟨p1, p2, ⟨n', hn, q1, q2, p3⟩, p4, p5, p6, p7⟩ := h.1
  obtain rfl : n' = n := m_same_n (by omega) (by omega) (q1.symm.trans e1)
  obtain ⟨σ', x0, x1, x2, x3, y0, y1, y2, y3, y4, y5, y6⟩ := x_addLine n9 q1 a b c w
  obtain ⟨τ', m0, m1, m2, m3, z0, z1, z2, z3, z4, z5, z6⟩ := m_comes n9 q2 km c w
  refine ⟨σ', τ', x0, m0, ?_, x3 2 (by decide), x2⟩
  have r : ∀ j, j ≠ 2 → (j < 12 + 7 * n' ∨ 12 + 7 * n' + 7 ≤ j) → τ' 1 j = τ 1 j := m3
  have iN : inB1 (20 + n') = true := by
    have : ∀ l, l < 10 → inB1 (20 + l) = true := by decide +kernel
    exact this n' n9
  refine h.bd ?_ (fun k _ hk => x1 k (fun e => by subst e; exact absurd hk (by decide)) (fun e => by subst e; rw [iN] at hk; cases hk)) ⟨m1 2 (by decide), m1 4 (by decide), m1 5 (by decide), m1 6 (by decide), m1 7 (by decide), m1 13 (by decide), by rw [m1 0 (by decide)], by rw [m1 0 (by decide)]⟩
  unfold Bd1
  rw [x1 16 (by decide) (by omega), x1 44 (by decide) (by omega), x1 62 (by decide) (by omega), x1 46 (by decide) (by omega), x1 64 (by decide) (by omega)]
  refine ⟨?_, fun p hp => ?_, ⟨n' + 1, by omega, x2, m2, fun l hl => ?_⟩, fun l hl => ?_, ?_, ?_, fun u hu => ?_⟩
  · unfold Hd at p1 ⊢
    rw [r 0 (by decide) (by omega), r 3 (by decide) (by omega), r 4 (by decide) (by omega), r 1 (by decide) (by omega), x3 2 (by decide), x3 3 (by decide), x3 4 (by decide), x3 6 (by decide)]
    exact p1
  · rw [r (7 + p) (by omega) (by omega)]; exact p2 p hp
  · show LnOK (σ' (20 + l)) (σ' 1 2) ∧ ∀ f, f < 7 → τ' 1 (12 + 7 * l + f) = σ' (20 + l) f
    rw [x3 2 (by decide)]
    by_cases hln : l = n'
    · subst hln
      have d0 : τ 1 0 = σ 1 2 := p1.1
      refine ⟨⟨by rw [y0]; exact ⟨a0, a1⟩, by rw [y1]; exact ⟨b0, b1⟩, by rw [y2]; exact ⟨c0, c1⟩, by rw [y3]; exact ⟨w0, w1⟩, by rw [y4]; exact ⟨p1.2.1, Int.le_refl _⟩, by rw [y5]; exact Or.inl rfl⟩, fun f hf => ?_⟩
      have : f = 0 ∨ f = 1 ∨ f = 2 ∨ f = 3 ∨ f = 4 ∨ f = 5 ∨ f = 6 := by omega
      rcases this with rfl | rfl | rfl | rfl | rfl | rfl | rfl
      · rw [z0, y0, ha]
      · rw [z1, y1, hb]
      · rw [z2, y2]
      · rw [z3, y3]
      · rw [z4, y4, d0]
      · rw [z5, y5]
      · rw [z6, y6]
    · rw [x1 (20 + l) (by omega) (by omega)]
      refine ⟨(p3 l (by omega)).1, fun f hf => ?_⟩
      rw [r _ (by omega) (by omega)]; exact (p3 l (by omega)).2 f hf
  · show σ' (20 + l) 6 = 0 ∨ σ' (20 + l) 6 = 1
    by_cases hln : l = n'
    · subst hln; exact Or.inl y6
    · rw [x1 (20 + l) (by omega) (by omega)]; exact p4 l hl
  · rw [r 5 (by decide) (by omega), show (fun j => τ' 1 (82 + j)) = fun j => τ 1 (82 + j) from funext fun j => r _ (by omega) (by omega)]; exact p5
  · rw [r 6 (by decide) (by omega), show (fun j => τ' 1 (142 + j)) = fun j => τ 1 (142 + j) from funext fun j => r _ (by omega) (by omega)]; exact p6
  · show Cd (σ' (40 + u) 0) (σ' (48 + u) 1) (σ' (66 + u)) _
    rw [x1 _ (by omega) (by omega), x1 _ (by omega) (by omega), x1 _ (by omega) (by omega), show (fun j => τ' 1 (166 + 121 * u + j)) = fun j => τ 1 (166 + 121 * u + j) from funext fun j => r _ (by omega) (by omega)]
    exact p7 u hu
/-! a day goes by -/
theorem Ik_s {ink r : Nat → Int32} (h : Ik ink r) {p : Nat} {v : Int32} (v0 : 0 ≤ v.toInt) (v1 : v.toInt ≤ 99) : Ik (upd ink p v) (upd r (7 + p) v) := by
  intro q hq
  by_cases e : q = p
  · subst e; rw [upd_e, upd_e]; exact ⟨rfl, v0, v1⟩
  · rw [upd_n e, upd_n (by omega)]; exact h q hq
theorem Ik_k {ink r : Nat → Int32} (h : Ik ink r) {p : Nat} : Ik ink (upd r (7 + p) (ink p)) := by
  intro q hq
  by_cases e : q = p
  · subst e; rw [upd_e]; exact ⟨rfl, (h q hq).2⟩
  · rw [upd_n (by omega)]; exact h q hq
theorem m_goes37 {rec2 : Int32 → Sg → Option (Unit × Sg)} {i : Nat} (hi : i < 5) (b : Bool) (τ : Sg) : f_X10_goes_37 rec2 (nI i) (if b = true then 1 else 0) τ = rec2 (nI (i + 1)) (up τ 1 (7 + i) (if b = true then τ 1 (7 + i) - 1 else τ 1 (7 + i))) := by
  have ei : (nI i).toInt = (i : Int) := i_nI (by omega)
  have e7 : ((7 : Int32) + nI i).toInt = ((7 + i : Nat) : Int) := by rw [i_add (by rw [ei, ti_7]; omega) (by rw [ei, ti_7]; omega), ei, ti_7]; omega
  unfold f_X10_goes_37
  rw [ck_k e7 (by omega), ck_k e7 (by omega), ck_k e7 (by omega), rd_k e7, tn_k e7]
  cases b
  · rw [show (if false = true then (1 : Int32) else 0) = 0 from rfl, if_pos rfl, if_neg (show ¬ false = true by decide), lt_a, lt_a, nI_1, Int32.sub_zero]
  · rw [show (if true = true then (1 : Int32) else 0) = 1 from rfl, if_neg (show ¬ (1 : Int32) = 0 by decide), if_pos (show true = true from rfl), lt_a, lt_a, nI_1]
theorem pass_loop : ∀ (d i n m : Nat) (σ τ : Sg), i + d = 5 → d < n → d < m → τ 1 0 = σ 1 2 → Ik (σ 16) (τ 1) → ∃ σ' τ', f_X0_passDay_2 n (nI i) σ = some ((), σ') ∧ f_X10_goes_2 m (nI i) τ = some ((), τ') ∧ (∀ k, k ≠ 1 → k ≠ 16 → σ' k = σ k) ∧ (∀ k, k ≠ 1 → τ' k = τ k) ∧ (∀ j, j ≠ 2 → σ' 1 j = σ 1 j) ∧ σ' 1 2 = σ 1 2 + 1 ∧ τ' 1 0 = σ 1 2 + 1 ∧ (∀ j, j ≠ 0 → (j < 7 ∨ 12 ≤ j) → τ' 1 j = τ 1 j) ∧ Ik (σ' 16) (τ' 1) := by
  intro d
  induction d with
  | zero =>
    intro i n m σ τ hi hn hm e0 ik
    obtain ⟨n, rfl⟩ : ∃ j, n = j + 1 := ⟨n - 1, by omega⟩
    obtain ⟨m, rfl⟩ : ∃ j, m = j + 1 := ⟨m - 1, by omega⟩
    obtain rfl : i = 5 := by omega
    rw [f_X0_passDay_2, f_X10_goes_2]
    unfold f_X0_passDay_2_b f_X10_goes_2_b
    rw [if_pos (by decide), if_pos (by decide), ck_0, ck_0, rd_0, tn_0, lt_a, lt_a, e0]
    refine ⟨_, _, rfl, rfl, fun k h1 _ => up_row h1, fun k h1 => up_row h1, fun j hj => up_i hj, up_s, up_s, fun j hj _ => up_i hj, ?_⟩
    rw [up_row (by decide), up_rs]; exact Ik_r ik (by omega)
  | succ d ih =>
    intro i n m σ τ hi hn hm e0 ik
    obtain ⟨n, rfl⟩ : ∃ j, n = j + 1 := ⟨n - 1, by omega⟩
    obtain ⟨m, rfl⟩ : ∃ j, m = j + 1 := ⟨m - 1, by omega⟩
    have ei : (nI i).toInt = (i : Int) := i_nI (by omega)
    have e2 : (nI i + (2 : Int32)).toInt = (i : Int) + 2 := by rw [i_add (by rw [ei, ti_2]; omega) (by rw [ei, ti_2]; omega), ei, ti_2]
    have hnz : nz (nI i + (2 : Int32)) = true := by
      unfold nz
      rw [Bool.not_eq_true', decide_eq_false_iff_not]
      intro e; rw [e, ti_0] at e2; omega
    have e7 : ((7 : Int32) + nI i).toInt = ((7 + i : Nat) : Int) := by rw [i_add (by rw [ei, ti_7]; omega) (by rw [ei, ti_7]; omega), ei, ti_7]; omega
    obtain ⟨k1, k2, k3⟩ := ik i (by omega)
    have n5 : ¬ (5 : Int32) ≤ nI i := by rw [i_le, ei, ti_5]; omega
    rw [f_X0_passDay_2, f_X10_goes_2]
    unfold f_X0_passDay_2_b f_X10_goes_2_b
    rw [if_neg n5, if_neg n5, ck_0, rd_0, e0, ckb_t hnz, ckb_t hnz]
    have keep : f_X10_goes_37 (f_X10_goes_2 m) (nI i) (0 : Int32) τ = f_X10_goes_2 m (nI (i + 1)) (up τ 1 (7 + i) (σ 16 i)) := by
      have := m_goes37 (rec2 := f_X10_goes_2 m) (show i < 5 by omega) false τ
      rw [show (if false = true then (1 : Int32) else 0) = 0 from rfl, if_neg (show ¬ false = true by decide)] at this
      rw [this, k1]
    have less : f_X10_goes_37 (f_X10_goes_2 m) (nI i) (1 : Int32) τ = f_X10_goes_2 m (nI (i + 1)) (up τ 1 (7 + i) (σ 16 i - 1)) := by
      have := m_goes37 (rec2 := f_X10_goes_2 m) (show i < 5 by omega) true τ
      rw [show (if true = true then (1 : Int32) else 0) = 1 from rfl, if_pos (show true = true from rfl)] at this
      rw [this, k1]
    by_cases z : irm (σ 1 2) (nI i + 2) = 0
    · rw [if_pos z, if_pos z, ck_k ei (by omega), ck_k ei (by omega), rd_k ei, tn_k ei, lt_a, lt_a, nI_1, ck_k e7 (by omega), rd_k e7, k1, keep, less]
      have e1 : (σ 16 i - (1 : Int32)).toInt = (σ 16 i).toInt - 1 := by rw [i_sub (by rw [ti_1]; omega) (by rw [ti_1]; omega), ti_1]
      have go : ∀ v : Int32, 0 ≤ v.toInt → v.toInt ≤ 99 → mx (0 : Int32) (σ 16 i - 1) = v → ∃ σ' τ', f_X0_passDay_2 n (nI (i + 1)) (up σ 16 i (mx (0 : Int32) (σ 16 i - 1))) = some ((), σ') ∧ f_X10_goes_2 m (nI (i + 1)) (up τ 1 (7 + i) v) = some ((), τ') ∧ (∀ k, k ≠ 1 → k ≠ 16 → σ' k = σ k) ∧ (∀ k, k ≠ 1 → τ' k = τ k) ∧ (∀ j, j ≠ 2 → σ' 1 j = σ 1 j) ∧ σ' 1 2 = σ 1 2 + 1 ∧ τ' 1 0 = σ 1 2 + 1 ∧ (∀ j, j ≠ 0 → (j < 7 ∨ 12 ≤ j) → τ' 1 j = τ 1 j) ∧ Ik (σ' 16) (τ' 1) := by
        intro v v0 v1 ev
        rw [ev]
        obtain ⟨σ', τ', w1, w2, w3, w4, w5, w6, w7, w8, w9⟩ := ih (i + 1) n m (up σ 16 i v) (up τ 1 (7 + i) v) (by omega) (by omega) (by omega) (by rw [up_i (by omega), up_k (by decide)]; exact e0) (by rw [up_rs, up_rs]; exact Ik_s ik v0 v1)
        refine ⟨σ', τ', w1, w2, fun k a b => by rw [w3 k a b, up_row b], fun k a => by rw [w4 k a, up_row a], fun j a => by rw [w5 j a, up_k (by decide)], by rw [w6, up_k (by decide)], by rw [w7, up_k (by decide)], fun j a b => by rw [w8 j a b, up_i (by omega)], w9⟩
      by_cases s : σ 16 i ≤ 0
      · rw [if_pos s]
        rw [i_le, ti_0] at s
        exact go (σ 16 i) k2 k3 (by rw [i_eq, i_mx, e1, ti_0]; split <;> omega)
      · rw [if_neg s]
        rw [i_le, ti_0] at s
        exact go (σ 16 i - 1) (by omega) (by omega) (by rw [i_eq, i_mx, e1, ti_0]; split <;> omega)
    · rw [if_neg z, if_neg z, lt_a, nI_1, keep]
      obtain ⟨σ', τ', w1, w2, w3, w4, w5, w6, w7, w8, w9⟩ := ih (i + 1) n m σ (up τ 1 (7 + i) (σ 16 i)) (by omega) (by omega) (by omega) (by rw [up_i (by omega)]; exact e0) (by rw [up_rs]; exact Ik_k ik)
      exact ⟨σ', τ', w1, w2, w3, fun k a => by rw [w4 k a, up_row a], w5, w6, w7, fun j a b => by rw [w8 j a b, up_i (by omega)], w9⟩
theorem pass_eq {σ τ : Sg} (h : Sim σ τ) (hd : (σ 1 2).toInt < 9999) : ∃ σ' τ', f_X0_passDay σ = some ((), σ') ∧ f_X10_goes τ = some ((), τ') ∧ Sim σ' τ' ∧ σ' 1 2 = σ 1 2 + 1 ∧ σ' 1 1 = σ 1 1 := by
  have hh := h.1.1
  obtain ⟨σ', τ', w1, w2, w3, w4, w5, w6, w7, w8, w9⟩ := pass_loop 5 0 fuN fuN σ τ (by omega) (by have := fu_le; omega) (by have := fu_le; omega) hh.1 h.1.2.1
  rw [nI_0] at w1 w2
  have ed : (σ 1 2 + 1).toInt = (σ 1 2).toInt + 1 := by rw [i_add (by rw [ti_1]; have := hh.2.1; omega) (by rw [ti_1]; omega), ti_1]
  refine ⟨σ', τ', w1, w2, ?_, w6, w5 1 (by decide)⟩
  refine h.hi w3 w4 (w5 1 (by decide)) (fun j hj => w8 j (by omega) (by omega)) ?_ w9 (by rw [w6, ed]; omega)
  unfold Hd at hh ⊢
  rw [w7, w6, w8 3 (by decide) (by omega), w8 4 (by decide) (by omega), w8 1 (by decide) (by omega), w5 3 (by decide), w5 4 (by decide), w5 6 (by decide), ed]
  exact ⟨rfl, by have := hh.2.1; omega, by omega, hh.2.2.2⟩
theorem days_loop {N : Nat} (hN : N ≤ 90) : ∀ (d i n m : Nat) (σ τ : Sg), i + d = N → d < n → d < m → Sim σ τ → (σ 1 2).toInt + (d : Int) ≤ 9999 → Ok (f_X9_days_39 n (nI N) (nI i) σ) (f_X10_days_40 m (nI N) (nI i) τ) := by
  intro d
  induction d with
  | zero =>
    intro i n m σ τ hi hn hm h hd
    obtain ⟨n, rfl⟩ : ∃ j, n = j + 1 := ⟨n - 1, by omega⟩
    obtain ⟨m, rfl⟩ : ∃ j, m = j + 1 := ⟨m - 1, by omega⟩
    obtain rfl : i = N := by omega
    rw [f_X9_days_39, f_X10_days_40]
    unfold f_X9_days_39_b f_X10_days_40_b
    rw [if_pos (nI_le (Nat.le_refl _) (by omega)), if_pos (nI_le (Nat.le_refl _) (by omega)), ck_0, rd_0, h.1.1.1]
    exact Ok.mk h
  | succ d ih =>
    intro i n m σ τ hi hn hm h hd
    obtain ⟨n, rfl⟩ : ∃ j, n = j + 1 := ⟨n - 1, by omega⟩
    obtain ⟨m, rfl⟩ : ∃ j, m = j + 1 := ⟨m - 1, by omega⟩
    have nle := nI_ge (show i < N by omega) (show N < 2 ^ 31 by omega)
    obtain ⟨σ', τ', w1, w2, w3, w4, _⟩ := pass_eq h (by omega)
    have ed : (σ 1 2 + 1).toInt = (σ 1 2).toInt + 1 := by rw [i_add (by rw [ti_1]; have := h.1.1.2.1; omega) (by rw [ti_1]; omega), ti_1]
    rw [f_X9_days_39, f_X10_days_40]
    unfold f_X9_days_39_b f_X10_days_40_b
    rw [if_neg nle, if_neg nle, w1, w2, bnd_s, bnd_s, lt_a, lt_a, nI_1]
    exact ih (i + 1) n m σ' τ' (by omega) (by omega) (by omega) w3 (by rw [w4, ed]; omega)
theorem eq_days {σ τ : Sg} (h : Sim σ τ) (a : Int32) : Ok (f_X9_days a σ) (f_X10_days a τ) := by
  have d0 := h.1.1.1
  have d1 := h.1.1.2.1
  have d2 := h.1.1.2.2.1
  have t90 : (90 : Int32).toInt = 90 := rfl
  have t9 : (9999 : Int32).toInt = 9999 := rfl
  unfold f_X9_days f_X10_days
  simp only [x_isIn, m_in, x_err1, m_err1, x_err3, m_err3, bnd_s, if01]
  by_cases c1 : 1 ≤ a ∧ a ≤ 90
  · rw [if_pos c1, if_pos c1, ck_0, rd_0, d0]
    simp only [i_le, ti_1, t90] at c1
    obtain ⟨N, hN, rfl⟩ := nI_ofi (a := a) (n := 91) (by omega) (by omega)
    have eN : (nI N).toInt = (N : Int) := i_nI (by omega)
    by_cases c2 : σ 1 2 + nI N ≤ 9999
    · rw [if_pos c2, if_pos c2]
      rw [i_le, i_add (by rw [eN]; omega) (by rw [eN]; omega), eN, t9] at c2
      rw [← nI_0]
      exact days_loop (by omega) N 0 fuN fuN σ τ (by omega) (by have := fu_le; omega) (by have := fu_le; omega) h (by omega)
    · rw [if_neg c2, if_neg c2]
      exact Ok.err h 3 (by decide)
  · rw [if_neg c1, if_neg c1]
    exact Ok.err h 1 (by decide)
