theorem wrong_eq {t : Nat} (ht : t ≤ 24) {σ τ : Sg} (e : σ 46 1 = nI t) (hw : ∀ j, j < t → τ 1 (142 + j) = σ 64 j) (hk : ∀ p, p < 5 → τ 1 (7 + p) = σ 16 p) : ∀ (d i n m : Nat), i + d = 5 → d < n → d < m → ∃ r, f_X9_firstWrongInk_10 n (nI i) σ = some (r, σ) ∧ f_X10_check_18 m (nI t) (nI i) τ = some (r, τ) := by
  intro d
  have et : (nI t).toInt = (t : Int) := i_nI (by omega)
  induction d with
  | zero =>
    intro i n m hi hn hm
    obtain ⟨n, rfl⟩ : ∃ m, n = m + 1 := ⟨n - 1, by omega⟩
    obtain ⟨m, rfl⟩ : ∃ k, m = k + 1 := ⟨m - 1, by omega⟩
    have ei : (nI i).toInt = (i : Int) := i_nI (by omega)
    simp only [f_X9_firstWrongInk_10, f_X9_firstWrongInk_10_b, f_X10_check_18, f_X10_check_18_b, e]
    by_cases c : nI t ≤ nI i
    · rw [if_pos c, if_pos c]; exact ⟨_, rfl, rfl⟩
    · have c5 : (5 : Int32) ≤ nI i := by rw [i_le, ei, ti_5]; omega
      rw [if_neg c, if_neg c, if_pos c5, if_pos c5]; exact ⟨_, rfl, rfl⟩
  | succ d ih =>
    intro i n m hi hn hm
    obtain ⟨n, rfl⟩ : ∃ m, n = m + 1 := ⟨n - 1, by omega⟩
    obtain ⟨m, rfl⟩ : ∃ k, m = k + 1 := ⟨m - 1, by omega⟩
    have ei : (nI i).toInt = (i : Int) := i_nI (by omega)
    simp only [f_X9_firstWrongInk_10, f_X9_firstWrongInk_10_b, f_X10_check_18, f_X10_check_18_b, e]
    by_cases c : nI t ≤ nI i
    · rw [if_pos c, if_pos c]; exact ⟨_, rfl, rfl⟩
    · have c5 : ¬ (5 : Int32) ≤ nI i := by rw [i_le, ei, ti_5]; omega
      rw [if_neg c, if_neg c, if_neg c5, if_neg c5]
      rw [i_le, et, ei] at c
      have e142 : ((142 : Int32) + nI i).toInt = ((142 + i : Nat) : Int) := by
        have q : (142 : Int32).toInt = 142 := rfl
        rw [i_add (by rw [ei, q]; omega) (by rw [ei, q]; omega), ei, q]; omega
      have e7 : ((7 : Int32) + nI i).toInt = ((7 + i : Nat) : Int) := by rw [i_add (by rw [ei, ti_7]; omega) (by rw [ei, ti_7]; omega), ei, ti_7]; omega
      rw [ck_k ei (by omega), ck_k ei (by omega), rd_k ei, rd_k ei, ck_k e142 (by omega), ck_k e7 (by omega), rd_k e142, rd_k e7, hw i (by omega), hk i (by omega)]
      by_cases z : σ 64 i = σ 16 i
      · rw [if_pos z, if_pos z]
        simp only [lt_a, nI_1]
        exact ih (i + 1) n m (by omega) (by omega) (by omega)
      · rw [if_neg z, if_neg z]; exact ⟨_, rfl, rfl⟩
theorem eq_check {σ τ : Sg} (h : Sim σ τ) : Ok (f_X9_check σ) (f_X10_check τ) := by
  obtain ⟨a1, a2, ⟨n, hn, e1, e2, a3⟩, a4, a5, ⟨t, t1, t2, t3, t4⟩, a7⟩ := h.1
  have up6 : ∀ j, j ≠ 6 → up τ 1 6 0 1 j = τ 1 j := fun j hj => up_i hj
  obtain ⟨r, p1, p2⟩ := wrong_eq t1 (σ := σ) (τ := up τ 1 6 0) t2 (fun j hj => by rw [up6 _ (by omega)]; exact t4 j hj) (fun p hp => by rw [up6 _ (by omega)]; exact (a2 p hp).1) 5 0 fuN fuN (by omega) (by have := fu_le; omega) (by have := fu_le; omega)
  unfold f_X9_check f_X10_check f_X9_firstWrongInk f_X6_clear
  rw [nI_0] at p1 p2
  rw [p1]
  simp only [bnd_s, lt_a, if01, ckb_01, rd_0, rd_1, rd_2, rd_3, rd_4, rd_5, rd_6, rd_7, rd_8, rd_9, rd_10, rd_11, rd_12, rd_13, rd_14, rd_15, ck_0, ck_1, ck_2, ck_3, ck_4, ck_5, ck_6, ck_7, ck_8, ck_9, ck_10, ck_11, ck_12, ck_13, ck_14, ck_15, tn_0, tn_1, tn_2, tn_3, tn_4, tn_5, tn_6, tn_7, tn_8, tn_9, tn_10, tn_11, tn_12, tn_13, tn_14, tn_15]
  rw [t3, p2]
  refine Ok.mk (h.bd ?_ (eqX1.up rfl) eqM1.up)
  refine Bd1.of (ln := fun l => σ (20 + l)) (th := fun u => σ (40 + u) 0) (cn := fun u => σ (48 + u) 1) (cs := fun u => σ (66 + u)) ?_ (fun l hl => up_row (by omega)) (fun u hu => by rw [up_row (by omega)]) (fun u hu => by rw [up_row (by omega)]) (fun u hu => up_row (by omega))
  simp (disch := omega) only [up_row, up_rs]
  refine ⟨Hd_r a1 (by omega), Ik_r a2 (by omega), ⟨n, hn, e1, ?_, Lns_r a3 (by omega)⟩, a4, Sq_r a5 (by omega) (by omega), ⟨0, by omega, ?_, ?_, fun j hj => absurd hj (by omega)⟩, fun u hu => Cd_r (a7 u hu) (by omega)⟩
  · rw [upd_n (by decide)]; exact e2
  · rw [upd_e]; rfl
  · rw [upd_e]; rfl
theorem under_eq (σ : Sg) (m : Nat) : ∀ a b : Nat, a < 7 → b < 7 → f_X9_isUnder_4 (m + 8) (nI b) (nI a) (0 : Int32) σ = some (if b = 0 ∨ b = a ∨ (b = 1 ∧ a = 4) ∨ (b = 2 ∧ a = 5) then 1 else 0, σ) := by
  intro a b ha hb
  have ha : a = 0 ∨ a = 1 ∨ a = 2 ∨ a = 3 ∨ a = 4 ∨ a = 5 ∨ a = 6 := by omega
  have hb : b = 0 ∨ b = 1 ∨ b = 2 ∨ b = 3 ∨ b = 4 ∨ b = 5 ∨ b = 6 := by omega
  rcases ha with rfl | rfl | rfl | rfl | rfl | rfl | rfl <;> rcases hb with rfl | rfl | rfl | rfl | rfl | rfl | rfl <;> rfl
theorem x_under (σ : Sg) {a b : Nat} (ha : a < 7) (hb : b < 7) : f_X9_isUnder (nI a) (nI b) σ = some (if b = 0 ∨ b = a ∨ (b = 1 ∧ a = 4) ∨ (b = 2 ∧ a = 5) then 1 else 0, σ) := by
  obtain ⟨m, hm⟩ : ∃ m, fuN = m + 8 := ⟨fuN - 8, by have := fu_le; omega⟩
  unfold f_X9_isUnder
  rw [hm]; exact under_eq σ m a b ha hb
theorem eq_as {σ τ : Sg} (h : Sim σ τ) (a b : Int32) : Ok (f_X9_as a b σ) (f_X10_as a b τ) := by
  obtain ⟨a1, a2, ⟨n, hn, e1, e2, a3⟩, a4, a5, a6, a7⟩ := h.1
  unfold f_X9_as f_X10_as
  simp only [x_hasLine e1, m_isLine e2 hn, x_isIn, m_in, x_err1, m_err1, bnd_s, lt_a, if01, ckb_01, rd_0, rd_1, rd_2, rd_3, rd_4, rd_5, rd_6, rd_7, rd_8, rd_9, rd_10, rd_11, rd_12, rd_13, rd_14, rd_15, ck_0, ck_1, ck_2, ck_3, ck_4, ck_5, ck_6, ck_7, ck_8, ck_9, ck_10, ck_11, ck_12, ck_13, ck_14, ck_15, tn_0, tn_1, tn_2, tn_3, tn_4, tn_5, tn_6, tn_7, tn_8, tn_9, tn_10, tn_11, tn_12, tn_13, tn_14, tn_15]
  by_cases c1 : 0 ≤ a ∧ a < nI n
  · rw [if_pos c1, if_pos c1]
    by_cases c2 : 0 ≤ b ∧ b ≤ 6
    · rw [if_pos c2, if_pos c2]
      have en : (nI n).toInt = (n : Int) := i_nI (by omega)
      simp only [i_le, i_lt, en, ti_0, ti_1, ti_2, ti_3, ti_4, ti_5, ti_6, ti_7, ti_8, ti_9, ti_10, ti_11, ti_12, ti_13, ti_14, ti_15] at c1 c2
      obtain ⟨l, hl, rfl⟩ := nI_ofi (a := a) (n := n) c1.1 c1.2
      obtain ⟨k, hk, rfl⟩ := nI_ofi (a := b) (n := 7) c2.1 (by omega)
      have el : (nI l).toInt = (l : Int) := i_nI (by omega)
      obtain ⟨⟨⟨k0, k1⟩, _⟩, k2⟩ := a3 l hl
      have q0 := k2 0 (by omega)
      have q1 := k2 1 (by omega)
      rw [Nat.add_zero] at q0
      have k1' : (σ (20 + l) 0).toInt ≤ 6 := k1
      obtain ⟨s, hs, es⟩ := nI_ofi (a := σ (20 + l) 0) (n := 7) k0 (by omega)
      rw [ck_k el (by omega), tn_k el, m_it 0 (by omega) rfl (by omega), Nat.add_zero, q0]
      simp only [bnd_s, lt_a]
      rw [es, x_under σ hs hk]
      simp only [bnd_s, lt_a, if01, ckb_01, rd_0, rd_1, rd_2, rd_3, rd_4, rd_5, rd_6, rd_7, rd_8, rd_9, rd_10, rd_11, rd_12, rd_13, rd_14, rd_15, ck_0, ck_1, ck_2, ck_3, ck_4, ck_5, ck_6, ck_7, ck_8, ck_9, ck_10, ck_11, ck_12, ck_13, ck_14, ck_15, tn_0, tn_1, tn_2, tn_3, tn_4, tn_5, tn_6, tn_7, tn_8, tn_9, tn_10, tn_11, tn_12, tn_13, tn_14, tn_15, if01]
      have nq : ∀ x y : Nat, x < 7 → y < 7 → (nI x = nI y) = (x = y) := fun x y hx hy => propext ⟨fun q => m_same_n (by omega) (by omega) q, fun q => by rw [q]⟩
      have f0 : (nI k = (0 : Int32)) = (k = 0) := nq k 0 hk (by omega)
      have f1 : (nI k = (1 : Int32)) = (k = 1) := nq k 1 hk (by omega)
      have f2 : (nI k = (2 : Int32)) = (k = 2) := nq k 2 hk (by omega)
      have f4 : (nI s = (4 : Int32)) = (s = 4) := nq s 4 hs (by omega)
      have f5 : (nI s = (5 : Int32)) = (s = 5) := nq s 5 hs (by omega)
      have fs : (nI k = nI s) = (k = s) := nq k s hk hs
      simp only [f0, f1, f2, f4, f5, fs]
      have yes : Ok (some (σ (20 + l) 1, σ)) (f_X10_as_66 (nI l) 1 τ) := by
        unfold f_X10_as_66
        rw [if_neg (by decide), m_it 1 (by omega) rfl (by omega), q1]
        exact Ok.mk h
      have no : Ok (bnd (f_X9_error (5 : Int32) σ) (fun r11 s10 => some (r11, s10))) (f_X10_as_66 (nI l) 0 τ) := by
        unfold f_X10_as_66
        rw [if_pos rfl, x_err5, m_err5]
        exact Ok.err h 5 (by decide)
      repeat' split
      all_goals first | exact yes | exact no | (exfalso; omega)
    · rw [if_neg c2, if_neg c2]; exact Ok.err h 1 (by decide)
  · rw [if_neg c1, if_neg c1]; exact Ok.err h 1 (by decide)
