theorem rn_12 (T c : Nat) : RN T 12 c ≤ 12 := by
  rcases Nat.eq_zero_or_pos (RN T 12 c) with q | q
  · omega
  · have := (rn_pos T 12 c q).1; omega
theorem runs_loop {T u : Nat} (hT : T < 4096) : ∀ (d c q : Nat) (first : Int32) (τ : Sg), c + d = 12 → d < q → (∀ j, j < c → τ 12 j = nI (RN T c j)) → first = (if stT T c = c then (-1 : Int32) else nI (stT T c)) → ∃ τ', f_X10_parts_91 q (nI u) (nI T) first (nI c) τ = bnd (f_X10_partsFrom (nI u) (0 : Int32) τ') (fun r s => some (r, s)) ∧ (∀ k, k ≠ 12 → τ' k = τ k) ∧ ∀ j, j < 12 → τ' 12 j = nI (RN T 12 j) := by
  intro d
  induction d with
  | zero =>
    intro c q first τ hc hq h hf
    obtain ⟨q, rfl⟩ : ∃ j, q = j + 1 := ⟨q - 1, by omega⟩
    obtain rfl : c = 12 := by omega
    refine ⟨τ, ?_, fun _ _ => rfl, h⟩
    rw [f_X10_parts_91]
    unfold f_X10_parts_91_b
    rw [if_pos (by decide)]
  | succ d ih =>
    intro c q first τ hc hq h hf
    obtain ⟨q, rfl⟩ : ∃ j, q = j + 1 := ⟨q - 1, by omega⟩
    have ec : (nI c).toInt = (c : Int) := i_nI (by omega)
    have sl := st_le T c
    have esl : (nI (stT T c)).toInt = (stT T c : Int) := i_nI (by omega)
    rw [f_X10_parts_91]
    unfold f_X10_parts_91_b
    rw [if_neg (by rw [i_le, ec, ti_12]; omega), ck_k ec (by omega), lt_a, tn_k ec, shr_1 (by omega), if01, bt_nI (by omega)]
    by_cases hb : T.testBit c = true
    · rw [if_pos hb, if_pos rfl]
      unfold f_X10_parts_143
      rw [if_pos rfl, lt_a, nI_1]
      obtain ⟨τ', w1, w2, w3⟩ := ih (c + 1) q (-1) (up τ 12 c 0) (by omega) (by omega) (fun j hj => by
        rw [RN, if_pos hb]
        by_cases e : j = c
        · subst e; rw [up_s, rn_far T j j (Nat.le_refl _)]; rfl
        · rw [up_i e]; exact h j (by omega)) (by rw [stT, if_pos hb, if_pos rfl])
      exact ⟨τ', w1, fun k hk => by rw [w2 k hk, up_row hk], w3⟩
    · have hst : stT T (c + 1) = stT T c := by rw [stT, if_neg hb]
      have key : ∃ τ', f_X10_parts_143 (f_X10_parts_91 q) (nI u) (nI T) (nI c) (1 : Int32) (nI (stT T c)) (up τ 12 c 0) = bnd (f_X10_partsFrom (nI u) (0 : Int32) τ') (fun r s => some (r, s)) ∧ (∀ k, k ≠ 12 → τ' k = τ k) ∧ ∀ j, j < 12 → τ' 12 j = nI (RN T 12 j) := by
        have val : up τ 12 c 0 12 (stT T c) = nI (RN T c (stT T c)) := by
          by_cases e : stT T c = c
          · rw [e, up_s, rn_far T c c (Nat.le_refl _)]; rfl
          · rw [up_i e]; exact h _ (by omega)
        unfold f_X10_parts_143
        rw [if_neg (show ¬ (1 : Int32) = 0 by decide), ck_k esl (by omega), ck_k esl (by omega), rd_k esl, tn_k esl, val, lt_a, nI_1, lt_a, nI_1]
        obtain ⟨τ', w1, w2, w3⟩ := ih (c + 1) q (nI (stT T c)) (up (up τ 12 c 0) 12 (stT T c) (nI (RN T c (stT T c) + 1))) (by omega) (by omega) (fun j hj => by
          rw [RN, if_neg hb]
          by_cases e : j = stT T c
          · subst e; rw [if_pos rfl, up_s]
          · rw [if_neg e, up_i e]
            by_cases e2 : j = c
            · subst e2; rw [up_s, rn_far T j j (Nat.le_refl _)]; rfl
            · rw [up_i e2]; exact h j (by omega)) (by rw [hst, if_neg (show ¬ stT T c = c + 1 by omega)])
        exact ⟨τ', w1, fun k hk => by rw [w2 k hk, up_row hk, up_row hk], w3⟩
      rw [if_neg hb, if_neg (show ¬ (1 : Int32) = 0 by decide), hf]
      by_cases e : stT T c = c
      · rw [if_pos e, if_neg (show ¬ (0 : Int32) ≤ -1 by decide)]
        rw [e] at key
        exact key
      · rw [if_neg e, if_pos (show (0 : Int32) ≤ nI (stT T c) by rw [i_le, esl, ti_0]; omega)]
        exact key
theorem parts_core {u m : Nat} (hu : u < 4) (hm : m ≤ 6) {σ τ : Sg} (h : Sim σ τ) {ws : Nat → Nat} (hw : ∀ i, i < m → 1 ≤ ws i ∧ ws i ≤ 12) (hx : Rws u m ws σ) (s2 : τ 6 u = nI m) (s3 : ∀ k, k < m → τ 7 (24 * u + k) = nI (ws k)) : Ok (bnd (f_X0_taken σ) (fun r2 s1 => bnd (f_X3_most (10 + u + 48) r2 s1) (fun r4 s3 => some (r4, s3)))) (bnd (f_X10_takenBy (-1 : Int32) τ) (fun r8 s7 => f_X10_parts_91 fuN (nI u) r8 (-1 : Int32) (0 : Int32) s7)) := by
  obtain ⟨n, hv⟩ := h.vw
  obtain ⟨T, t1, t2, t3⟩ := taken_eq hv
  have p64 : 2 ^ m ≤ 64 := Nat.pow_le_pow_right (by decide) hm
  have p1 : 0 < 2 ^ m := Nat.two_pow_pos m
  obtain ⟨M, σ', ES, w1, w2, w3⟩ := most_loop hu t1 hm hw (2 ^ m - 1) 1 fuN 0 (up σ 9 0 0) (fun _ => 0) (by omega) (by have := fu_le; omega) (by omega) (by omega) ⟨by rw [up_k (by omega)]; exact hx.1, fun k hk => by rw [up_k (by omega)]; exact hx.2 k hk⟩ (fun s' hs' => by rw [show s' = 0 by omega, up_s]; exact ⟨rfl, by omega⟩) ⟨rfl, fun s' a b => absurd b (by omega), fun s' a b => absurd b (by omega), Or.inl rfl⟩
  have hM := most_is hm hw w3
  obtain ⟨τ', r1, r2, r3⟩ := runs_loop (u := u) t1 12 0 fuN (-1) τ (by omega) (by have := fu_le; omega) (fun j hj => absurd hj (by omega)) rfl
  rw [nI_0] at r1
  have gd : GdR u m ws τ' (RN T 12) := ⟨by rw [r2 6 (by decide)]; exact s2, fun k hk => by rw [r2 7 (by decide)]; exact s3 k hk, fun c hc => ⟨r3 c hc, rn_12 T c⟩⟩
  have pf := m_pf hu hm (fun k hk => (hw k hk).2) m 64 τ' (RN T 12) (Nat.le_refl m) (by omega) gd
  rw [Nat.sub_self, nI_0] at pf
  have pf' : f_X10_partsFrom (nI u) (0 : Int32) τ' = some (nI (PB m ws m (RN T 12)), τ') := pf
  have xm : f_X3_most (10 + u + 48) (nI T) σ = some (nI M, σ') := by
    unfold f_X3_most
    have e6 : mn (nI m) (6 : Int32) = nI m := by
      have := mn_nI (a := m) (b := 6) (by omega) (by omega)
      rw [if_neg (by omega)] at this
      exact this
    have c0 : ckb (inb (0 : Int32) 64) (lt (up σ 9 (0 : Int32).toNatClampNeg (0 : Int32)) (fun s10 => f_X3_most_25 fuN (10 + u + 48) (nI T) (nI (2 ^ m)) (0 : Int32) (1 : Int32) s10)) = some (nI M, σ') := by
      rw [ckb_t (show inb (0 : Int32) 64 = true from rfl), lt_a, tn_0]
      exact w1
    rw [hx.1, e6, shl1 m (by omega), lt_a]
    exact c0
  rw [t2, t3, bnd_s, bnd_s, xm, bnd_s, r1, pf', bnd_s, hM]
  refine Ok.mk (Sim_eq h (fun k hk => ?_) ?_)
  · by_cases e : k = 9
    · subst e; exact absurd hk (by decide)
    · rw [w2 k e, up_row e]
  · exact ⟨r2 1 (by decide), r2 2 (by decide), r2 4 (by decide), r2 5 (by decide), r2 6 (by decide), r2 7 (by decide), r2 13 (by decide), by rw [r2 0 (by decide)], by rw [r2 0 (by decide)]⟩
theorem parts_loop {u m : Nat} (hu : u < 4) (hm : m ≤ 6) {σ τ : Sg} (h : Sim σ τ) (s1 : σ (10 + u + 48) 1 = nI m) (s2 : τ 6 u = nI m) (s3 : ∀ j, j < m → τ 7 (24 * u + j) = σ (10 + u + 48 + 18) j) : ∀ (d i q q' : Nat), i + d = m → d < q → d < q' → (∀ j, j < i → 1 ≤ (σ (10 + u + 48 + 18) j).toInt ∧ (σ (10 + u + 48 + 18) j).toInt ≤ 12) → Ok (f_X9_parts_49 q (10 + u) (nI i) σ) (f_X10_parts_36 q' (nI u) (nI i) τ) := by
  have eu : (nI u).toInt = (u : Int) := i_nI (by omega)
  intro d
  induction d with
  | zero =>
    intro i q q' hi hq hq' hv
    obtain ⟨q, rfl⟩ : ∃ j, q = j + 1 := ⟨q - 1, by omega⟩
    obtain ⟨q', rfl⟩ : ∃ j, q' = j + 1 := ⟨q' - 1, by omega⟩
    obtain rfl : i = m := by omega
    rw [f_X9_parts_49, f_X10_parts_36]
    unfold f_X9_parts_49_b f_X10_parts_36_b
    rw [s1, if_pos (nI_le (Nat.le_refl _) (by omega)), ck_k eu hu, rd_k eu, s2, if_pos (nI_le (Nat.le_refl _) (by omega))]
    have cell : ∀ k, k < i → σ (10 + u + 48 + 18) k = nI (σ (10 + u + 48 + 18) k).toInt.toNat := by
      intro k hk
      obtain ⟨a, b⟩ := hv k hk
      rw [i_eq, i_nI (by omega)]; omega
    exact parts_core hu hm h (ws := fun k => (σ (10 + u + 48 + 18) k).toInt.toNat) (fun k hk => by obtain ⟨a, b⟩ := hv k hk; exact ⟨by omega, by omega⟩) ⟨s1, cell⟩ s2 (fun k hk => by rw [s3 k hk]; exact cell k hk)
  | succ d ih =>
    intro i q q' hi hq hq' hv
    obtain ⟨q, rfl⟩ : ∃ j, q = j + 1 := ⟨q - 1, by omega⟩
    obtain ⟨q', rfl⟩ : ∃ j, q' = j + 1 := ⟨q' - 1, by omega⟩
    have ei : (nI i).toInt = (i : Int) := i_nI (by omega)
    have nle := nI_ge (show i < m by omega) (show m < 2 ^ 31 by omega)
    have e24 := i_sq hu (show i ≤ 24 by omega)
    have hc : capC (10 + u + 48 + 18) = 24 := cap_sh hu
    rw [f_X9_parts_49, f_X10_parts_36]
    unfold f_X9_parts_49_b f_X10_parts_36_b
    rw [s1, if_neg nle, hc, ck_k ei (by omega), rd_k ei, ck_k eu hu, rd_k eu, s2, if_neg nle, ck_k e24 (by omega), rd_k e24, s3 i (by omega), x_isIn, m_in, bnd_s, bnd_s, if01, if01]
    by_cases z : (1 : Int32) ≤ σ (10 + u + 48 + 18) i ∧ σ (10 + u + 48 + 18) i ≤ 12
    · rw [if_pos z, if_pos z, lt_a, lt_a, nI_1]
      rw [i_le, i_le, ti_1, ti_12] at z
      refine ih (i + 1) q q' (by omega) (by omega) (by omega) (fun j hj => ?_)
      by_cases e : j = i
      · subst e; exact z
      · exact hv j (by omega)
    · rw [if_neg z, if_neg z, x_err3, m_err3, bnd_s, bnd_s]
      exact Ok.err h 3 (by decide)
theorem eq_parts {σ τ : Sg} (h : Sim σ τ) (a : Int32) : Ok (f_X9_parts a σ) (f_X10_parts a τ) := by
  unfold f_X9_parts f_X10_parts
  simp only [x_isIn, x_err1, x_err2, bnd_s, if01, x_isMissing]
  by_cases ha : 0 ≤ a ∧ a ≤ 3
  · rw [if_pos ha]
    obtain ⟨u, hu, rfl⟩ := sh_arg ha
    have eu : (nI u).toInt = (u : Int) := i_nI (by omega)
    obtain ⟨s1, s2, t, s3, s4, s5, s6⟩ := h.2.2.2.2.1 u hu
    have et : (nI t).toInt = (t : Int) := i_nI (by omega)
    rw [m_notThere_t hu, bnd_s, ck_k eu hu, tn_k eu, lt_a, s1]
    by_cases hz : σ (10 + u) 1 = 0
    · rw [if_pos hz, if_pos hz, if_neg (show ¬ (-1000000002 : Int32) = 0 by decide), m_err2, bnd_s]
      exact Ok.err h 2 (by decide)
    · have s4' : σ (10 + u + 48) 1 = nI t := by rw [show 10 + u + 48 = 58 + u by omega]; exact s4
      rw [if_neg hz, if_neg hz, if_pos rfl, ck_k eu hu, rd_k eu, s5, s4']
      by_cases ht : t ≤ 6
      · have le : nI t ≤ (6 : Int32) := by rw [i_le, et, ti_6]; omega
        rw [if_pos le, if_pos le]
        have := parts_loop hu ht h s4' s5 (fun j hj => by rw [show 10 + u + 48 + 18 = 76 + u by omega]; exact s6 j hj) t 0 fuN fuN (by omega) (by have := fu_le; omega) (by have := fu_le; omega) (fun j hj => absurd hj (by omega))
        rw [nI_0] at this
        exact this
      · have le : ¬ nI t ≤ (6 : Int32) := by rw [i_le, et, ti_6]; omega
        rw [if_neg le, if_neg le, m_err2, bnd_s]
        exact Ok.err h 2 (by decide)
  · rw [if_neg ha, m_notThere_b ha, bnd_s, if_neg (show ¬ (-1000000001 : Int32) = 0 by decide), m_err1, bnd_s]
    exact Ok.err h 1 (by decide)
