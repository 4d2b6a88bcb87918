theorem rd_k {f : Nat → Int32} {i : Int32} {k : Nat} (h : i.toInt = (k : Int)) : rd f i = f k := by
  unfold rd; rw [i_cl, h]; rfl
theorem tn_k {i : Int32} {k : Nat} (h : i.toInt = (k : Int)) : i.toNatClampNeg = k := by rw [i_cl, h]; rfl
theorem ck_k {β : Type} {i : Int32} {k n : Nat} {x : Option β} (h : i.toInt = (k : Int)) (hk : k < n) : ckb (inb i n) x = x := ckb_in (by omega) (by omega)
theorem ml_i {l f : Nat} {b : Int32} (hl : l < 10) (hb : b.toInt = (f : Int)) (hf : f < 7) : (((12 : Int32) + ((7 : Int32) * nI l)) + b).toInt = ((12 + 7 * l + f : Nat) : Int) := by
  have h1 : (nI l).toInt = (l : Int) := i_nI (by omega)
  have h2 : ((7 : Int32) * nI l).toInt = 7 * (l : Int) := by rw [i_mul (by rw [h1, ti_7]; omega) (by rw [h1, ti_7]; omega), h1, ti_7]
  have h3 : ((12 : Int32) + (7 : Int32) * nI l).toInt = 12 + 7 * (l : Int) := by rw [i_add (by rw [h2, ti_12]; omega) (by rw [h2, ti_12]; omega), h2, ti_12]
  rw [i_add (by omega) (by omega), h3, hb]
  omega
theorem ml_0 {l : Nat} (hl : l < 10) : ((12 : Int32) + ((7 : Int32) * nI l)).toInt = ((12 + 7 * l : Nat) : Int) := by
  have h1 : (nI l).toInt = (l : Int) := i_nI (by omega)
  have h2 : ((7 : Int32) * nI l).toInt = 7 * (l : Int) := by rw [i_mul (by rw [h1, ti_7]; omega) (by rw [h1, ti_7]; omega), h1, ti_7]
  rw [i_add (by rw [h2, ti_12]; omega) (by rw [h2, ti_12]; omega), h2, ti_12]
  omega
theorem m_it {l : Nat} (f : Nat) {b : Int32} (hl : l < 10) (hb : b.toInt = (f : Int)) (hf : f < 7) (τ : Sg) : f_X10_it (nI l) b τ = some (τ 1 (12 + 7 * l + f), τ) := by
  unfold f_X10_it
  have e := ml_i hl hb hf
  rw [ck_k e (by omega), rd_k e]
theorem m_lets {l : Nat} (f : Nat) {b v : Int32} (hl : l < 10) (hb : b.toInt = (f : Int)) (hf : f < 7) (τ : Sg) : f_X10_lets (nI l) b v τ = some ((), up τ 1 (12 + 7 * l + f) v) := by
  unfold f_X10_lets
  have e := ml_i hl hb hf
  rw [ck_k e (by omega), tn_k e]
  rfl
theorem m_becomes {i v : Int32} {k : Nat} (h : i.toInt = (k : Int)) (hk : k < 408) (τ : Sg) : f_X10_becomes i v τ = some (τ 1 k, up τ 1 k v) := by
  unfold f_X10_becomes
  simp only [lt_a]
  rw [ck_k h hk, ck_k h hk, rd_k h, tn_k h]
theorem m_isLine {n : Nat} {τ : Sg} (h : τ 1 2 = nI n) (hn : n ≤ 10) (a : Int32) : f_X10_isLine a τ = some (if 0 ≤ a ∧ a < nI n then 1 else 0, τ) := by
  unfold f_X10_isLine
  simp only [m_in, bnd_s, lt_a, if01, ckb_01, rd_0, rd_1, rd_2, rd_3, rd_4, rd_5, rd_6, rd_7, rd_8, rd_9, rd_10, rd_11, rd_12, rd_13, rd_14, rd_15, ck_0, ck_1, ck_2, ck_3, ck_4, ck_5, ck_6, ck_7, ck_8, ck_9, ck_10, ck_11, ck_12, ck_13, ck_14, ck_15, tn_0, tn_1, tn_2, tn_3, tn_4, tn_5, tn_6, tn_7, tn_8, tn_9, tn_10, tn_11, tn_12, tn_13, tn_14, tn_15, h]
  have e1 : (nI n).toInt = (n : Int) := i_nI (by omega)
  have e2 : (nI n - (1 : Int32)).toInt = (n : Int) - 1 := by rw [i_sub (by rw [e1, ti_1]; omega) (by rw [e1, ti_1]; omega), e1, ti_1]
  have : (0 ≤ a ∧ a ≤ nI n - 1) ↔ (0 ≤ a ∧ a < nI n) := by simp only [i_le, i_lt, e1, e2]; omega
  simp only [this]
theorem x_hasLine {n : Nat} {σ : Sg} (h : σ 1 1 = nI n) (a : Int32) : f_X0_hasLine a σ = some (if 0 ≤ a ∧ a < nI n then 1 else 0, σ) := by
  unfold f_X0_hasLine
  rw [h]
  simp only [i_le, i_lt, ti_0, ti_1, ti_2, ti_3, ti_4, ti_5, ti_6, ti_7, ti_8, ti_9, ti_10, ti_11, ti_12, ti_13, ti_14, ti_15]
  repeat' split
  all_goals first | rfl | (exfalso; omega)
theorem x_isKm (a : Int32) (σ : Sg) : f_X9_isKm a σ = some (if 0 ≤ a ∧ a ≤ 69 then 1 else 0, σ) := by
  unfold f_X9_isKm; simp only [x_isIn, bnd_s, lt_a, if01, ckb_01, rd_0, rd_1, rd_2, rd_3, rd_4, rd_5, rd_6, rd_7, rd_8, rd_9, rd_10, rd_11, rd_12, rd_13, rd_14, rd_15, ck_0, ck_1, ck_2, ck_3, ck_4, ck_5, ck_6, ck_7, ck_8, ck_9, ck_10, ck_11, ck_12, ck_13, ck_14, ck_15, tn_0, tn_1, tn_2, tn_3, tn_4, tn_5, tn_6, tn_7, tn_8, tn_9, tn_10, tn_11, tn_12, tn_13, tn_14, tn_15]
theorem m_isKm (a : Int32) (σ : Sg) : f_X10_isKm a σ = some (if 0 ≤ a ∧ a ≤ 69 then 1 else 0, σ) := by
  unfold f_X10_isKm; simp only [m_in, bnd_s, lt_a, if01, ckb_01, rd_0, rd_1, rd_2, rd_3, rd_4, rd_5, rd_6, rd_7, rd_8, rd_9, rd_10, rd_11, rd_12, rd_13, rd_14, rd_15, ck_0, ck_1, ck_2, ck_3, ck_4, ck_5, ck_6, ck_7, ck_8, ck_9, ck_10, ck_11, ck_12, ck_13, ck_14, ck_15, tn_0, tn_1, tn_2, tn_3, tn_4, tn_5, tn_6, tn_7, tn_8, tn_9, tn_10, tn_11, tn_12, tn_13, tn_14, tn_15]
/-! the relation behind a change -/
theorem Sim.err {σ τ : Sg} (h : Sim σ τ) (k : Nat) (hk : 1 ≤ k ∧ k ≤ 6) : Sim (up σ 8 k (σ 8 k + 1)) (up τ 4 k (τ 4 k + 1)) := by
  obtain ⟨h1, h2, h3, h4, h5, h6⟩ := h
  refine ⟨?_, ?_, ?_, ?_, ?_, ?_⟩
  · unfold Bd1; simp (disch := omega) only [up_row]; exact h1
  · rw [up_k (by decide), up_k (by decide)]; exact h2
  · rw [up_k (by decide)]; intro hz; have := h3 hz; unfold Bd2 at this ⊢; simp (disch := omega) only [up_row]; exact this
  · intro j a b
    by_cases hj : j = k
    · subst hj; rw [up_s, up_s, h4 j a b]
    · rw [up_i hj, up_i hj]; exact h4 j a b
  · intro u hu; simp (disch := omega) only [up_row, up_k]; exact h5 u hu
  · unfold Tr; simp (disch := omega) only [up_row]; exact h6
theorem Ok.err {σ τ : Sg} (h : Sim σ τ) {r : Int32} (k : Nat) (hk : 1 ≤ k ∧ k ≤ 6) : Ok (some (r, up σ 8 k (σ 8 k + 1))) (some (r, up τ 4 k (τ 4 k + 1))) := Ok.mk (h.err k hk)
def inB1 (k : Nat) : Bool := k == 1 || k == 16 || (Nat.ble 20 k && Nat.blt k 30) || k == 40 || k == 41 || k == 44 || k == 46 || k == 48 || k == 49 || k == 62 || k == 64 || k == 66 || k == 67
def eqX1 (σ σ' : Sg) : Prop := ∀ k, rlv k = true → inB1 k = false → σ' k = σ k
def eqM1 (τ τ' : Sg) : Prop := τ' 2 = τ 2 ∧ τ' 4 = τ 4 ∧ τ' 5 = τ 5 ∧ τ' 6 = τ 6 ∧ τ' 7 = τ 7 ∧ τ' 13 = τ 13 ∧ τ' 0 3 = τ 0 3 ∧ τ' 0 19 = τ 0 19
theorem eqX1.rf {σ : Sg} : eqX1 σ σ := fun _ _ _ => rfl
theorem eqX1.tr {σ σ1 σ2 : Sg} (h1 : eqX1 σ σ1) (h2 : eqX1 σ1 σ2) : eqX1 σ σ2 := fun k h h' => (h2 k h h').trans (h1 k h h')
theorem eqX1.of {σ σ1 : Sg} (h1 : eqX σ σ1) : eqX1 σ σ1 := fun k h _ => h1 k h
theorem eqX1.up {σ : Sg} {k i : Nat} {v : Int32} (h : inB1 k = true) : eqX1 σ (up σ k i v) := by
  intro j _ hj
  exact up_row (fun e => by subst e; rw [h] at hj; cases hj)
theorem eqM1.rf {τ : Sg} : eqM1 τ τ := ⟨rfl, rfl, rfl, rfl, rfl, rfl, rfl, rfl⟩
theorem eqM1.tr {τ τ1 τ2 : Sg} (h1 : eqM1 τ τ1) (h2 : eqM1 τ1 τ2) : eqM1 τ τ2 := by
  obtain ⟨a2, a3, a4, a5, a6, a7, a8, a9⟩ := h1
  obtain ⟨b2, b3, b4, b5, b6, b7, b8, b9⟩ := h2
  exact ⟨b2.trans a2, b3.trans a3, b4.trans a4, b5.trans a5, b6.trans a6, b7.trans a7, b8.trans a8, b9.trans a9⟩
theorem eqM1.of {τ τ1 : Sg} (h1 : eqM τ τ1) : eqM1 τ τ1 := h1.2
theorem eqM1.up {τ : Sg} {i : Nat} {v : Int32} : eqM1 τ (up τ 1 i v) := by
  refine ⟨?_, ?_, ?_, ?_, ?_, ?_, ?_, ?_⟩ <;> simp (disch := omega) only [up_row, up_k]
theorem Sim.bd {σ τ σ' τ' : Sg} (h : Sim σ τ) (b : Bd1 σ' τ') (e : eqX1 σ σ') (em : eqM1 τ τ') : Sim σ' τ' := by
  obtain ⟨h1, h2, h3, h4, h5, h6⟩ := h
  obtain ⟨m2, m4, m5, m6, m7, m13, m3, m19⟩ := em
  refine ⟨b, by rw [e 0 rfl rfl, m3]; exact h2, fun hz => ?_, fun k a b => ?_, fun u hu => ?_, ?_⟩
  · have q := h3 (by rw [e 0 rfl rfl] at hz; exact hz)
    unfold Bd2
    rw [m2, e 2 rfl rfl, e 17 rfl rfl, e 45 rfl rfl, e 63 rfl rfl, e 47 rfl rfl, e 65 rfl rfl]
    have i1 : ∀ l, l < 10 → inB1 (30 + l) = false := by decide +kernel
    have i2 : ∀ u, u < 2 → inB1 (42 + u) = false ∧ inB1 (50 + u) = false ∧ inB1 (68 + u) = false ∧ rlv (42 + u) = true ∧ rlv (50 + u) = true ∧ rlv (68 + u) = true := by decide +kernel
    exact BdR_congr q (fun l hl => e _ (rlv_l hl).2 (i1 l hl)) (fun u hu => by rw [e _ (i2 u hu).2.2.2.1 (i2 u hu).1]) (fun u hu => by rw [e _ (i2 u hu).2.2.2.2.1 (i2 u hu).2.1]) (fun u hu => by rw [e _ (i2 u hu).2.2.2.2.2 (i2 u hu).2.2.1])
  · rw [e 8 rfl rfl, m4]; exact h4 k a b
  · have i3 : ∀ u, u < 4 → inB1 (10 + u) = false ∧ inB1 (58 + u) = false ∧ inB1 (76 + u) = false := by decide +kernel
    have q := rlv_u hu
    have q2 := i3 u hu
    rw [m5, m6, m7, e _ q.1 q2.1, e _ q.2.2.2.2.1 q2.2.1, e _ q.2.2.2.2.2 q2.2.2]
    exact h5 u hu
  · unfold Tr; rw [e 57 rfl rfl, e 75 rfl rfl, m19, m13]; exact h6
/-! pieces of a board, behind a change of the reference's row -/
theorem Hd_r {g r : Nat → Int32} {j : Nat} {v : Int32} (h : Hd g r) (hj : 5 ≤ j ∨ j = 2) : Hd g (upd r j v) := by
  unfold Hd at h ⊢
  simp (disch := omega) only [upd_n]
  exact h
theorem Ik_r {ink r : Nat → Int32} {j : Nat} {v : Int32} (h : Ik ink r) (hj : j < 7 ∨ 12 ≤ j) : Ik ink (upd r j v) := by
  intro p hp
  rw [upd_n (by omega)]
  exact h p hp
theorem Lns_r {n : Nat} {ln : Nat → Nat → Int32} {d : Int32} {r : Nat → Int32} {j : Nat} {v : Int32} (h : Lns n ln d r) (hj : j < 12 ∨ 12 + 7 * n ≤ j) : Lns n ln d (upd r j v) := by
  intro l hl
  refine ⟨(h l hl).1, fun f hf => ?_⟩
  rw [upd_n (by omega)]
  exact (h l hl).2 f hf
theorem Sq_r {cap o c0 : Nat} {n : Int32} {f r : Nat → Int32} {j : Nat} {v : Int32} (h : Sq cap n f (r c0) (fun i => r (o + i))) (hj : j ≠ c0) (h2 : j < o ∨ o + cap ≤ j) : Sq cap n f (upd r j v c0) (fun i => upd r j v (o + i)) := by
  obtain ⟨t, h1, e1, e2, h3⟩ := h
  refine ⟨t, h1, e1, by rw [upd_n (Ne.symm hj)]; exact e2, fun i hi => ?_⟩
  show upd r j v (o + i) = f i
  rw [upd_n (by omega)]
  exact h3 i hi
theorem Cd_r {th cn : Int32} {cs r : Nat → Int32} {u j : Nat} {v : Int32} (h : Cd th cn cs (fun i => r (166 + 121 * u + i))) (hj : j < 166) : Cd th cn cs (fun i => upd r j v (166 + 121 * u + i)) := by
  have : (fun i => upd r j v (166 + 121 * u + i)) = (fun i => r (166 + 121 * u + i)) := by
    funext i; exact upd_n (by omega)
  rw [this]
  exact h
/-! calls of one number -/
theorem eq_seed {σ τ : Sg} (h : Sim σ τ) (a : Int32) : Ok (f_X9_seed a σ) (f_X10_seed a τ) := by
  have hb := h.1
  obtain ⟨a1, a2, ⟨n, hn, e1, e2, a3⟩, a4, a5, a6, a7⟩ := hb
  have e : f_X10_seed a τ = some (τ 1 1, up τ 1 1 a) := by
    unfold f_X10_seed; rw [m_becomes (k := 1) rfl (by decide)]; rfl
  rw [e, show τ 1 1 = σ 1 6 from a1.2.2.2.2.2.2.2.2]
  refine Ok.mk (h.bd ?_ (eqX1.up rfl) eqM1.up)
  unfold Bd1
  simp (disch := omega) only [up_row, up_rs]
  refine ⟨?_, Ik_r a2 (by omega), ⟨n, hn, ?_, ?_, ?_⟩, a4, Sq_r a5 (by omega) (by omega), Sq_r a6 (by omega) (by omega), fun u hu => Cd_r (a7 u hu) (by omega)⟩
  · unfold Hd at a1 ⊢
    simp (disch := omega) only [upd_n, upd_e]
    exact ⟨a1.1, a1.2.1, a1.2.2.1, a1.2.2.2.1, a1.2.2.2.2.1, a1.2.2.2.2.2.1, a1.2.2.2.2.2.2.1, a1.2.2.2.2.2.2.2.1, trivial⟩
  · rw [upd_n (by decide)]; exact e1
  · rw [upd_n (by decide)]; exact e2
  · rw [upd_n (by decide)]; exact Lns_r a3 (by omega)
