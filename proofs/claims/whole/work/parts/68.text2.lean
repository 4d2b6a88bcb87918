theorem up_same {σ : Sg} {k i : Nat} {v : Int32} (h : σ k i = v) : up σ k i v = σ := by
  funext k' i'
  by_cases hk : k' = k
  · subst hk
    by_cases hi : i' = i
    · subst hi; rw [up_s, h]
    · rw [up_i hi]
  · rw [up_k hk]
theorem x_isDigit (v : Int32) (σ : Sg) : f_X4_isDigit v σ = some (if (48 : Int32) ≤ v ∧ v ≤ 57 then 1 else 0, σ) := by
  unfold f_X4_isDigit
  simp only [i_le, i_lt]
  repeat' split
  all_goals first | rfl | (exfalso; omega)
def vb : Nat → Int
  | 0 => 1
  | k + 1 => 10 * vb k
theorem vb_le : ∀ k, k < 5 → vb k ≤ 10000 := by decide
theorem byt_lt {σ0 : Sg} {t p : Nat} (h : ¬ Byt σ0 t p = -1) : p < t := by
  unfold Byt at h
  refine Classical.byContradiction fun q => h ?_
  rw [if_neg q]
theorem num_end {σ0 τ0 σ τ : Sg} {t u p c o : Nat} {δ : Int} (b : BS σ0 τ0 t u) (h : PR σ0 τ0 t u p c o δ σ τ) (hc : c < p) {v : Int32} (hv : 0 ≤ v.toInt) : ∃ σ' τ', f_X4_readsNumber_48 v σ = some (1, σ') ∧ f_X10_number_62 v (0 : Int32) τ = some ((), τ') ∧ PR σ0 τ0 t u p (c + 1) o (δ + 1) σ' τ' := by
  have h15 := h.2.2.2.2.2.2.2.2.2.2.2.1
  have h0 := h.2.2.2.2.2.2.2.2.2.2.2.2.2.2
  obtain ⟨σ', τ', w1, w2, w3⟩ := pr_code b h hc (x := v) (a := 1) (w := v) (δ' := δ + 1) (Or.inl ⟨rfl, rfl, hv⟩) (fun e => absurd e (by decide)) (fun e => by rcases e with e | e | e | e | e | e | e | e | e | e <;> exact absurd e (by decide)) (by rw [if_pos (Or.inl rfl)]) (by omega)
  refine ⟨σ', τ', ?_, ?_, w3⟩
  · unfold f_X4_readsNumber_48
    rw [w1, bnd_s]
  · unfold f_X10_number_62
    rw [ckb_t (show isb (0 : Int32) = true from rfl), lt_a, up_same h15, w2, bnd_s]
theorem num_loop {σ0 τ0 : Sg} {t u c o : Nat} {δ : Int} (b : BS σ0 τ0 t u) : ∀ (d k p n m : Nat) (v : Int32) (σ τ : Sg), k + d = 4 → d < n → d < m → 1 ≤ k → PR σ0 τ0 t u p c o δ σ τ → 0 ≤ v.toInt → v.toInt < vb k → c < p → ∃ p' σ' τ', f_X4_readsNumber_4 n v (nI k) σ = some (1, σ') ∧ f_X10_number_4 m v (nI k) τ = some ((), τ') ∧ PR σ0 τ0 t u p' (c + 1) o (δ + 1) σ' τ' ∧ p ≤ p' := by
  intro d
  induction d with
  | zero =>
    intro k p n m v σ τ hk hn hm k1 h v0 v1 hc
    obtain ⟨n, rfl⟩ : ∃ j, n = j + 1 := ⟨n - 1, by omega⟩
    obtain ⟨m, rfl⟩ : ∃ j, m = j + 1 := ⟨m - 1, by omega⟩
    obtain rfl : k = 4 := by omega
    obtain ⟨σ', τ', w1, w2, w3⟩ := num_end b h hc v0
    refine ⟨p, σ', τ', ?_, ?_, w3, Nat.le_refl _⟩
    · rw [f_X4_readsNumber_4]
      unfold f_X4_readsNumber_4_b
      rw [if_pos (by decide), w1]
    · rw [f_X10_number_4]
      unfold f_X10_number_4_b
      rw [if_pos (by decide), if_neg (by decide), w2]
  | succ d ih =>
    intro k p n m v σ τ hk hn hm k1 h v0 v1 hc
    obtain ⟨n, rfl⟩ : ∃ j, n = j + 1 := ⟨n - 1, by omega⟩
    obtain ⟨m, rfl⟩ : ∃ j, m = j + 1 := ⟨m - 1, by omega⟩
    have ek : (nI k).toInt = (k : Int) := i_nI (by omega)
    obtain ⟨n1, n2⟩ := pr_next b h
    rw [f_X4_readsNumber_4, f_X10_number_4]
    unfold f_X4_readsNumber_4_b f_X10_number_4_b
    have n4 : ¬ (4 : Int32) ≤ nI k := by rw [i_le, ek, ti_4]; omega
    have k0 : ¬ nI k = 0 := by rw [i_eq, ek, ti_0]; omega
    rw [if_neg n4, if_neg n4, n1, n2, bnd_s, bnd_s, x_isDigit, m_in, bnd_s, bnd_s, if01, if01]
    by_cases q : (48 : Int32) ≤ Byt σ0 t p ∧ Byt σ0 t p ≤ 57
    · have t48 : (48 : Int32).toInt = 48 := rfl
      have t57 : (57 : Int32).toInt = 57 := rfl
      have t10 : (10 : Int32).toInt = 10 := rfl
      have q' := q
      rw [i_le, i_le, t48, t57] at q'
      have hp : p < t := byt_lt (fun e => by rw [e] at q'; exact absurd q'.1 (by decide))
      have vl := vb_le k (by omega)
      have e1 : ((10 : Int32) * v).toInt = 10 * v.toInt := by rw [i_mul (by rw [t10]; omega) (by rw [t10]; omega), t10]
      have e2 : ((10 : Int32) * v + Byt σ0 t p).toInt = 10 * v.toInt + (Byt σ0 t p).toInt := by rw [i_add (by rw [e1]; omega) (by rw [e1]; omega), e1]
      have e3 : ((10 : Int32) * v + Byt σ0 t p - 48).toInt = 10 * v.toInt + (Byt σ0 t p).toInt - 48 := by rw [i_sub (by rw [e2, t48]; omega) (by rw [e2, t48]; omega), e2, t48]
      rw [if_pos q, if_pos q, n1, n2, bnd_s, bnd_s, lt_a, lt_a, lt_a, lt_a, lt_a, lt_a, nI_1]
      obtain ⟨p', σ', τ', w1, w2, w3, w4⟩ := ih (k + 1) (p + 1) n m ((10 : Int32) * v + Byt σ0 t p - 48) _ _ (by omega) (by omega) (by omega) (by omega) (pr_adv h hp) (by rw [e3]; omega) (by rw [e3, vb]; omega) (by omega)
      exact ⟨p', σ', τ', w1, w2, w3, by omega⟩
    · rw [if_neg q, if_neg q, if_neg k0]
      obtain ⟨σ', τ', w1, w2, w3⟩ := num_end b h hc v0
      exact ⟨p, σ', τ', w1, w2, w3, Nat.le_refl _⟩
theorem num_first {σ0 τ0 σ τ : Sg} {t u p c o : Nat} {δ : Int} (b : BS σ0 τ0 t u) (h : PR σ0 τ0 t u p c o δ σ τ) (q : (48 : Int32) ≤ Byt σ0 t p ∧ Byt σ0 t p ≤ 57) : ∃ p' σ' τ', f_X4_readsNumber σ = some (1, σ') ∧ f_X10_number τ = some ((), τ') ∧ PR σ0 τ0 t u p' (c + 1) o (δ + 1) σ' τ' ∧ p < p' := by
  obtain ⟨m, hm⟩ : ∃ m, fuN = m + 10 := ⟨fuN - 10, by have := fu_le; omega⟩
  obtain ⟨n1, n2⟩ := pr_next b h
  have h10 := h.2.2.2.2.2.2.2.2.2.1
  have t48 : (48 : Int32).toInt = 48 := rfl
  have t57 : (57 : Int32).toInt = 57 := rfl
  have q' := q
  rw [i_le, i_le, t48, t57] at q'
  have hp : p < t := byt_lt (fun e => by rw [e] at q'; exact absurd q'.1 (by decide))
  have e0 : (10 : Int32) * 0 + Byt σ0 t p - 48 = Byt σ0 t p - 48 := by rw [show (10 : Int32) * 0 = 0 from rfl, Int32.zero_add]
  have e3 : (Byt σ0 t p - 48).toInt = (Byt σ0 t p).toInt - 48 := by rw [i_sub (by rw [t48]; omega) (by rw [t48]; omega), t48]
  obtain ⟨p', σ', τ', w1, w2, w3, w4⟩ := num_loop b 3 1 (p + 1) (m + 9) (m + 9) (Byt σ0 t p - 48) _ _ (by omega) (by omega) (by omega) (by omega) (pr_adv h hp) (by rw [e3]; omega) (by rw [e3]; show _ < (10 : Int); omega) (by omega)
  refine ⟨p', σ', τ', ?_, ?_, w3, by omega⟩
  · unfold f_X4_readsNumber
    rw [hm, f_X4_readsNumber_4]
    unfold f_X4_readsNumber_4_b
    rw [if_neg (by decide), n1, bnd_s, x_isDigit, bnd_s, if01, if_pos q, n1, bnd_s, lt_a, lt_a, lt_a, e0]
    exact w1
  · unfold f_X10_number
    rw [hm, f_X10_number_4]
    unfold f_X10_number_4_b
    rw [if_neg (by decide), n2, bnd_s, m_in, bnd_s, if01, if_pos q, n2, bnd_s, lt_a, lt_a, lt_a, e0]
    exact w2
theorem num_none {σ0 τ0 σ τ : Sg} {t u p c o : Nat} {δ : Int} (b : BS σ0 τ0 t u) (h : PR σ0 τ0 t u p c o δ σ τ) (q : ¬ ((48 : Int32) ≤ Byt σ0 t p ∧ Byt σ0 t p ≤ 57)) : ∃ τ', f_X10_number τ = some ((), τ') ∧ PF σ0 τ0 t p σ τ' := by
  obtain ⟨m, hm⟩ : ∃ m, fuN = m + 1 := ⟨fuN - 1, by have := fu_le; omega⟩
  obtain ⟨n1, n2⟩ := pr_next b h
  obtain ⟨τ', w1, w2⟩ := pf_step (pr_bad b h) 1 0
  refine ⟨τ', ?_, w2⟩
  unfold f_X10_number
  rw [hm, f_X10_number_4]
  unfold f_X10_number_4_b f_X10_number_62
  rw [if_neg (by decide), n2, bnd_s, m_in, bnd_s, if01, if_neg q, if_pos rfl, ckb_t (show isb (1 : Int32) = true from rfl), lt_a, w1, bnd_s]
/-! names -/
def nmU (u i : Nat) : Int32 := tbl lN_ (nI (3 * u + i))
theorem m_nameOf {u : Nat} (hu : u < 2) {τ : Sg} (e : τ 0 16 = nI u) (v : Int32) : f_X10_nameOf v τ = some (if v = nmU u 0 then 0 else if v = nmU u 1 then 1 else if v = nmU u 2 then 2 else -1, τ) := by
  have c : u = 0 ∨ u = 1 := by omega
  unfold f_X10_nameOf f_X10_nameOf_60 f_X10_nameOf_93
  rw [e]
  by_cases h1 : v = 98
  · subst h1; rcases c with rfl | rfl <;> rfl
  by_cases h2 : v = 100
  · subst h2; rcases c with rfl | rfl <;> rfl
  by_cases h3 : v = 102
  · subst h3; rcases c with rfl | rfl <;> rfl
  by_cases h4 : v = 109
  · subst h4; rcases c with rfl | rfl <;> rfl
  by_cases h5 : v = 112
  · subst h5; rcases c with rfl | rfl <;> rfl
  by_cases h6 : v = 119
  · subst h6; rcases c with rfl | rfl <;> rfl
  rw [if_neg h1, if_neg h2, if_neg h3, if_neg h4, if_neg h5, if_neg h6]
  rcases c with rfl | rfl
  · rw [show nmU 0 0 = 98 from rfl, show nmU 0 1 = 109 from rfl, show nmU 0 2 = 112 from rfl, if_neg h1, if_neg h4, if_neg h5]
  · rw [show nmU 1 0 = 102 from rfl, show nmU 1 1 = 100 from rfl, show nmU 1 2 = 119 from rfl, if_neg h3, if_neg h2, if_neg h6]
theorem x_names {u : Nat} (hu : u < 2) {σ : Sg} (e : σ 3 2 = nI u) (g1 : Int32 → Int32 → Sg → Option (Int32 × Sg)) (g2 g3 g4 : Int32 → Sg → Option (Int32 × Sg)) (o v : Int32) : f_X4_readsQ_19 g1 g2 g3 g4 fuN o v (0 : Int32) σ = (if v = nmU u 0 then bnd (f_X6_add 56 (-1) (up σ 3 3 (σ 3 3 + 1))) (fun _ s => some ((1 : Int32), s)) else if v = nmU u 1 then bnd (f_X6_add 56 (-2) (up σ 3 3 (σ 3 3 + 1))) (fun _ s => some ((1 : Int32), s)) else if v = nmU u 2 then bnd (f_X6_add 56 (-3) (up σ 3 3 (σ 3 3 + 1))) (fun _ s => some ((1 : Int32), s)) else if o < (5 : Int32) then if v = (33 : Int32) then bnd (g3 (o + (1 : Int32)) σ) (fun r4 s3 => ckb (isb r4) (some (r4, s3))) else if v = (40 : Int32) then bnd (g4 (o + (1 : Int32)) σ) (fun r2 s1 => if r2 = 0 then some ((0 : Int32), s1) else some ((1 : Int32), s1)) else some ((0 : Int32), σ) else some ((0 : Int32), σ)) := by
  obtain ⟨m, hm⟩ : ∃ m, fuN = m + 4 := ⟨fuN - 4, by have := fu_le; omega⟩
  have c : u = 0 ∨ u = 1 := by omega
  have s0 : ∀ n, f_X4_readsQ_19 g1 g2 g3 g4 (n + 1) o v (0 : Int32) σ = if v = nmU u 0 then bnd (f_X6_add 56 (-1) (up σ 3 3 (σ 3 3 + 1))) (fun _ s => some ((1 : Int32), s)) else f_X4_readsQ_19 g1 g2 g3 g4 n o v (1 : Int32) σ := by
    intro n
    rw [f_X4_readsQ_19]
    unfold f_X4_readsQ_19_b
    rw [if_neg (by decide), e]
    rcases c with rfl | rfl <;> rfl
  have s1 : ∀ n, f_X4_readsQ_19 g1 g2 g3 g4 (n + 1) o v (1 : Int32) σ = if v = nmU u 1 then bnd (f_X6_add 56 (-2) (up σ 3 3 (σ 3 3 + 1))) (fun _ s => some ((1 : Int32), s)) else f_X4_readsQ_19 g1 g2 g3 g4 n o v (2 : Int32) σ := by
    intro n
    rw [f_X4_readsQ_19]
    unfold f_X4_readsQ_19_b
    rw [if_neg (by decide), e]
    rcases c with rfl | rfl <;> rfl
  have s2 : ∀ n, f_X4_readsQ_19 g1 g2 g3 g4 (n + 1) o v (2 : Int32) σ = if v = nmU u 2 then bnd (f_X6_add 56 (-3) (up σ 3 3 (σ 3 3 + 1))) (fun _ s => some ((1 : Int32), s)) else f_X4_readsQ_19 g1 g2 g3 g4 n o v (3 : Int32) σ := by
    intro n
    rw [f_X4_readsQ_19]
    unfold f_X4_readsQ_19_b
    rw [if_neg (by decide), e]
    rcases c with rfl | rfl <;> rfl
  rw [hm, show m + 4 = (m + 3) + 1 by omega, s0, show m + 3 = (m + 2) + 1 by omega, s1, show m + 2 = (m + 1) + 1 by omega, s2, f_X4_readsQ_19]
  unfold f_X4_readsQ_19_b
  rw [if_pos (show (3 : Int32) ≤ 3 by decide)]
