/-! copies -/
theorem m_copy {o0 o1 : Nat} (ho : o0 ≠ o1) : ∀ (d i n : Nat) (τ : Sg), i + d = 408 → d < n → ∃ τ', f_X10_copyAll_2 n o0 o1 (nI i) τ = some ((), τ') ∧ (∀ k, k ≠ o1 → τ' k = τ k) ∧ (∀ j, i ≤ j → j < 408 → τ' o1 j = τ o0 j) ∧ (∀ j, j < i → τ' o1 j = τ o1 j) := by
  intro d
  induction d with
  | zero =>
    intro i n τ hi hn
    obtain ⟨n, rfl⟩ : ∃ m, n = m + 1 := ⟨n - 1, by omega⟩
    have ei : (nI i).toInt = (i : Int) := i_nI (by omega)
    refine ⟨τ, ?_, fun _ _ => rfl, fun j h1 h2 => absurd h2 (by omega), fun _ _ => rfl⟩
    simp only [f_X10_copyAll_2, f_X10_copyAll_2_b]
    rw [if_pos (by rw [i_le, ei]; show (408 : Int) ≤ _; omega)]
  | succ d ih =>
    intro i n τ hi hn
    obtain ⟨n, rfl⟩ : ∃ m, n = m + 1 := ⟨n - 1, by omega⟩
    have ei : (nI i).toInt = (i : Int) := i_nI (by omega)
    obtain ⟨τ', h1, h2, h3, h4⟩ := ih (i + 1) n (up τ o1 i (τ o0 i)) (by omega) (by omega)
    refine ⟨τ', ?_, fun k hk => by rw [h2 k hk, up_row hk], fun j a b => ?_, fun j a => ?_⟩
    · simp only [f_X10_copyAll_2, f_X10_copyAll_2_b]
      rw [if_neg (by rw [i_le, ei]; show ¬ (408 : Int) ≤ _; omega), ck_k ei (by omega), ck_k ei (by omega), tn_k ei, rd_k ei]
      simp only [lt_a, nI_1]
      exact h1
    · by_cases hj : j = i
      · subst hj; rw [h4 j (by omega), up_s]
      · rw [h3 j (by omega) b, up_row ho]
    · rw [h4 j (by omega), up_i (by omega)]
theorem m_copyAll {o0 o1 : Nat} (ho : o0 ≠ o1) (τ : Sg) : ∃ τ', f_X10_copyAll o0 o1 τ = some ((), τ') ∧ (∀ k, k ≠ o1 → τ' k = τ k) ∧ ∀ j, j < 408 → τ' o1 j = τ o0 j := by
  obtain ⟨τ', h1, h2, h3, h4⟩ := m_copy ho 408 0 fuN τ (by omega) (by have := fu_le; omega)
  exact ⟨τ', h1, h2, fun j hj => h3 j (by omega) hj⟩
theorem capC_le (k : Nat) : capC k ≤ 60 := by
  unfold capC; repeat' split
  all_goals omega
theorem x_add {o t : Nat} {v : Int32} {σ : Sg} (h : σ o 1 = nI t) (ht : t < capC (o + 18)) : f_X6_add o v σ = some ((), up (up σ (o + 18) t v) o 1 (nI (t + 1))) := by
  have hc := capC_le (o + 18)
  have et : (nI t).toInt = (t : Int) := i_nI (by omega)
  unfold f_X6_add
  rw [h, if_neg (by rw [i_le, et, i_ofNat (by omega)]; omega), ck_k et ht, tn_k et]
  simp only [lt_a]
  rw [up_k (by omega), h, nI_1]
theorem x_rcopy {o0 o1 : Nat} (h0 : 44 ≤ o0) (h00 : o0 < 62) (h1 : 44 ≤ o1) (h11 : o1 < 62) (ho : o0 ≠ o1) {t : Nat} (c0 : t ≤ capC (o0 + 18)) (c1 : t ≤ capC (o1 + 18)) : ∀ (d i n : Nat) (σ : Sg), i + d = t → d < n → σ o1 1 = nI t → σ o0 1 = nI i → ∃ σ', f_X6_copyFrom_6 n o0 o1 (nI i) σ = some ((), σ') ∧ (∀ k, k ≠ o0 → k ≠ o0 + 18 → σ' k = σ k) ∧ σ' o0 1 = nI t ∧ (∀ j, i ≤ j → j < t → σ' (o0 + 18) j = σ (o1 + 18) j) ∧ (∀ j, j < i → σ' (o0 + 18) j = σ (o0 + 18) j) := by
  intro d
  have hc := capC_le (o0 + 18)
  have et : (nI t).toInt = (t : Int) := i_nI (by omega)
  induction d with
  | zero =>
    intro i n σ hi hn e1 e0
    obtain ⟨n, rfl⟩ : ∃ m, n = m + 1 := ⟨n - 1, by omega⟩
    have ei : (nI i).toInt = (i : Int) := i_nI (by omega)
    refine ⟨σ, ?_, fun _ _ _ => rfl, ?_, fun j a b => absurd b (by omega), fun _ _ => rfl⟩
    · simp only [f_X6_copyFrom_6, f_X6_copyFrom_6_b]
      rw [e1, if_pos (by rw [i_le, ei, et]; omega)]
    · rw [e0, show i = t by omega]
  | succ d ih =>
    intro i n σ hi hn e1 e0
    obtain ⟨n, rfl⟩ : ∃ m, n = m + 1 := ⟨n - 1, by omega⟩
    have ei : (nI i).toInt = (i : Int) := i_nI (by omega)
    obtain ⟨σ', q1, q2, q3, q4, q5⟩ := ih (i + 1) n (up (up σ (o0 + 18) i (σ (o1 + 18) i)) o0 1 (nI (i + 1))) (by omega) (by omega) (by rw [up_k (by omega), up_k (by omega)]; exact e1) (by rw [up_s])
    refine ⟨σ', ?_, fun k a b => by rw [q2 k a b, up_row a, up_row b], q3, fun j a b => ?_, fun j a => ?_⟩
    · simp only [f_X6_copyFrom_6, f_X6_copyFrom_6_b]
      rw [e1, if_neg (by rw [i_le, ei, et]; omega), ck_k ei (by omega), rd_k ei, x_add e0 (by omega)]
      simp only [bnd_s, lt_a, nI_1]
      exact q1
    · by_cases hj : j = i
      · subst hj; rw [q5 j (by omega), up_k (by omega), up_s]
      · rw [q4 j (by omega) b, up_k (by omega), up_k (by omega)]
    · rw [q5 j (by omega), up_k (by omega), up_i (by omega)]
theorem x_rowcopy {o0 o1 : Nat} (h0 : 44 ≤ o0) (h00 : o0 < 62) (h1 : 44 ≤ o1) (h11 : o1 < 62) (ho : o0 ≠ o1) {t : Nat} (c0 : t ≤ capC (o0 + 18)) (c1 : t ≤ capC (o1 + 18)) (σ : Sg) (e1 : σ o1 1 = nI t) : ∃ σ', f_X6_copyFrom o0 o1 σ = some ((), σ') ∧ (∀ k, k ≠ o0 → k ≠ o0 + 18 → σ' k = σ k) ∧ σ' o0 1 = nI t ∧ (∀ j, j < t → σ' (o0 + 18) j = σ (o1 + 18) j) := by
  have hc := capC_le (o0 + 18)
  obtain ⟨σ', q1, q2, q3, q4, q5⟩ := x_rcopy h0 h00 h1 h11 ho c0 c1 t 0 fuN (up σ o0 1 0) (by omega) (by have := fu_le; omega) (by rw [up_k (by omega)]; exact e1) (by rw [up_s]; rfl)
  refine ⟨σ', ?_, fun k a b => by rw [q2 k a b, up_row a], q3, fun j hj => by rw [q4 j (by omega) hj, up_k (by omega)]⟩
  unfold f_X6_copyFrom f_X6_clear
  simp only [lt_a, bnd_s]
  exact q1
theorem x_lcopy {o0 o1 : Nat} (ho : o0 ≠ o1) (σ : Sg) (hg : σ o1 6 = 0 ∨ σ o1 6 = 1) : ∃ σ', f_X2_copyFrom o0 o1 σ = some ((), σ') ∧ (∀ k, k ≠ o0 → σ' k = σ k) ∧ ∀ f, f < 7 → σ' o0 f = σ o1 f := by
  have hg2 : isb (σ o1 6) = true := by simp only [isb, Bool.or_eq_true, decide_eq_true_eq]; exact hg
  unfold f_X2_copyFrom f_X2_begin
  simp only [lt_a, bnd_s]
  simp only [up_k (Ne.symm ho), up_s]
  rw [ckb_t hg2]
  refine ⟨_, rfl, fun k hk => by simp only [up_row hk], fun f hf => ?_⟩
  have : f = 0 ∨ f = 1 ∨ f = 2 ∨ f = 3 ∨ f = 4 ∨ f = 5 ∨ f = 6 := by omega
  rcases this with rfl | rfl | rfl | rfl | rfl | rfl | rfl <;> simp (disch := decide) only [up_s, up_i]
theorem x_bl {o0 o1 : Nat} (ho : (o0 = 1 ∧ o1 = 2) ∨ (o0 = 2 ∧ o1 = 1)) (m : Nat) : ∀ (d i : Nat) (σ : Sg), i + d = 10 → (∀ l, l < 10 → σ (10 + 10 * o1 + l) 6 = 0 ∨ σ (10 + 10 * o1 + l) 6 = 1) → ∃ σ', f_X0_copyFrom_10 (m + d + 1) o0 o1 (nI i) σ = f_X0_copyFrom_10 (m + 1) o0 o1 (nI 10) σ' ∧ (∀ k, (k < 10 + 10 * o0 ∨ 10 + 10 * o0 + 10 ≤ k) → σ' k = σ k) ∧ (∀ l, i ≤ l → l < 10 → ∀ f, f < 7 → σ' (10 + 10 * o0 + l) f = σ (10 + 10 * o1 + l) f) ∧ (∀ l, l < i → σ' (10 + 10 * o0 + l) = σ (10 + 10 * o0 + l)) := by
  intro d
  induction d with
  | zero =>
    intro i σ hi hg
    obtain rfl : i = 10 := by omega
    exact ⟨σ, rfl, fun _ _ => rfl, fun l a b => absurd b (by omega), fun _ _ => rfl⟩
  | succ d ih =>
    intro i σ hi hg
    have ei : (nI i).toInt = (i : Int) := i_nI (by omega)
    have a0 : 10 * (o0 + 13) - 120 + i = 10 + 10 * o0 + i := by omega
    have a1 : 10 * (o1 + 13) - 120 + i = 10 + 10 * o1 + i := by omega
    obtain ⟨σ1, r1, r2, r3⟩ := x_lcopy (o0 := 10 + 10 * o0 + i) (o1 := 10 + 10 * o1 + i) (by omega) σ (hg i (by omega))
    obtain ⟨σ', q1, q2, q3, q4⟩ := ih (i + 1) σ1 (by omega) (fun l hl => by rw [r2 _ (by omega)]; exact hg l hl)
    refine ⟨σ', ?_, fun k hk => by rw [q2 k hk, r2 k (by omega)], fun l a b f hf => ?_, fun l a => ?_⟩
    · rw [← q1, show m + (d + 1) + 1 = (m + d + 1) + 1 by omega]
      show f_X0_copyFrom_10_b (f_X0_copyFrom_10 (m + d + 1)) o0 o1 (nI i) σ = _
      unfold f_X0_copyFrom_10_b
      rw [if_neg (by rw [i_le, ei]; show ¬ (10 : Int) ≤ _; omega)]
      simp only [lt_a]
      rw [ck_k ei (by omega), ck_k ei (by omega), tn_k ei, a0, a1, r1]
      simp only [bnd_s, nI_1]
    · by_cases hl : l = i
      · subst hl; rw [q4 l (by omega)]; exact r3 f hf
      · rw [q3 l (by omega) b f hf, r2 _ (by omega)]
    · rw [q4 l (by omega), r2 _ (by omega)]
theorem x_wcopy {o0 o1 : Nat} (h0 : 40 ≤ o0) (h00 : o0 < 44) (h1 : 40 ≤ o1) (h11 : o1 < 44) (ho : o0 ≠ o1) {c : Nat} (hc : c ≤ 60) (σ : Sg) (e1 : σ (o1 + 8) 1 = nI c) (hb : σ o1 0 = 0 ∨ σ o1 0 = 1) : ∃ σ', f_X1_copyFrom o0 o1 σ = some ((), σ') ∧ (∀ k, k ≠ o0 → k ≠ o0 + 8 → k ≠ o0 + 26 → σ' k = σ k) ∧ σ' o0 0 = σ o1 0 ∧ σ' (o0 + 8) 1 = nI c ∧ (∀ j, j < c → σ' (o0 + 26) j = σ (o1 + 26) j) := by
  have k0 : capC (o0 + 8 + 18) = 60 := by
    have : o0 = 40 ∨ o0 = 41 ∨ o0 = 42 ∨ o0 = 43 := by omega
    rcases this with rfl | rfl | rfl | rfl <;> rfl
  have k1 : capC (o1 + 8 + 18) = 60 := by
    have : o1 = 40 ∨ o1 = 41 ∨ o1 = 42 ∨ o1 = 43 := by omega
    rcases this with rfl | rfl | rfl | rfl <;> rfl
  obtain ⟨σ1, q1, q2, q3, q4⟩ := x_rowcopy (o0 := o0 + 8) (o1 := o1 + 8) (by omega) (by omega) (by omega) (by omega) (by omega) (t := c) (by omega) (by omega) σ e1
  unfold f_X1_copyFrom
  rw [q1]
  simp only [bnd_s, lt_a]
  have hb2 : isb (σ1 o1 0) = true := by rw [q2 _ (by omega) (by omega)]; simp only [isb, Bool.or_eq_true, decide_eq_true_eq]; exact hb
  rw [ckb_t hb2]
  refine ⟨_, rfl, fun k a b d => by rw [up_row a, q2 k b (by omega)], ?_, ?_, fun j hj => ?_⟩
  · rw [up_s, q2 _ (by omega) (by omega)]
  · rw [up_k (by omega)]; exact q3
  · rw [up_k (by omega)]; exact q4 j hj

theorem x_laws {o0 o1 : Nat} (ho : (o0 = 1 ∧ o1 = 2) ∨ (o0 = 2 ∧ o1 = 1)) (σ : Sg) (hs : ∀ u, u < 2 → ∃ c : Nat, c ≤ 60 ∧ σ (46 + 2 * o1 + u) 1 = nI c ∧ (σ (38 + 2 * o1 + u) 0 = 0 ∨ σ (38 + 2 * o1 + u) 0 = 1)) : ∃ σ', f_X0_copyFrom_107 fuN o0 o1 (0 : Int32) σ = some ((), σ') ∧ (∀ k, ¬ (k = 38 + 2 * o0 ∨ k = 39 + 2 * o0 ∨ k = 46 + 2 * o0 ∨ k = 47 + 2 * o0 ∨ k = 64 + 2 * o0 ∨ k = 65 + 2 * o0) → σ' k = σ k) ∧ ∀ u, u < 2 → σ' (38 + 2 * o0 + u) 0 = σ (38 + 2 * o1 + u) 0 ∧ σ' (46 + 2 * o0 + u) 1 = σ (46 + 2 * o1 + u) 1 ∧ ∀ c : Nat, c ≤ 60 → σ (46 + 2 * o1 + u) 1 = nI c → ∀ j, j < c → σ' (64 + 2 * o0 + u) j = σ (64 + 2 * o1 + u) j := by
  obtain ⟨c0, hc0, s0, t0⟩ := hs 0 (by omega)
  obtain ⟨c1, hc1, s1, t1⟩ := hs 1 (by omega)
  obtain ⟨σ1, q1, q2, q3, q4, q5⟩ := x_wcopy (o0 := 38 + 2 * o0 + 0) (o1 := 38 + 2 * o1 + 0) (by omega) (by omega) (by omega) (by omega) (by omega) hc0 σ (by rw [← s0, show 38 + 2 * o1 + 0 + 8 = 46 + 2 * o1 + 0 by omega]) t0
  obtain ⟨σ2, r1, r2, r3, r4, r5⟩ := x_wcopy (o0 := 38 + 2 * o0 + 1) (o1 := 38 + 2 * o1 + 1) (by omega) (by omega) (by omega) (by omega) (by omega) hc1 σ1 (by rw [q2 _ (by omega) (by omega) (by omega), ← s1, show 38 + 2 * o1 + 1 + 8 = 46 + 2 * o1 + 1 by omega]) (by rw [q2 _ (by omega) (by omega) (by omega)]; exact t1)
  have e0 : (2 * (o0 + 17) + 4) + (0 : Int32).toNatClampNeg = 38 + 2 * o0 + 0 := by rw [tn_0]; omega
  have e0' : (2 * (o1 + 17) + 4) + (0 : Int32).toNatClampNeg = 38 + 2 * o1 + 0 := by rw [tn_0]; omega
  have e1 : (2 * (o0 + 17) + 4) + (1 : Int32).toNatClampNeg = 38 + 2 * o0 + 1 := by rw [tn_1]; omega
  have e1' : (2 * (o1 + 17) + 4) + (1 : Int32).toNatClampNeg = 38 + 2 * o1 + 1 := by rw [tn_1]; omega
  refine ⟨σ2, ?_, fun k hk => by rw [r2 k (by omega) (by omega) (by omega), q2 k (by omega) (by omega) (by omega)], fun u hu => ?_⟩
  · obtain ⟨m, hm⟩ : ∃ m, fuN = m + 3 := ⟨fuN - 3, by have := fu_le; omega⟩
    rw [hm]
    show f_X0_copyFrom_107_b (f_X0_copyFrom_107 (m + 2)) o0 o1 (0 : Int32) σ = _
    unfold f_X0_copyFrom_107_b
    rw [if_neg (by decide)]
    simp only [lt_a]
    rw [ckb_t (show inb (0 : Int32) 2 = true from rfl), ckb_t (show inb (0 : Int32) 2 = true from rfl), e0, e0', q1]
    simp only [bnd_s]
    show f_X0_copyFrom_107_b (f_X0_copyFrom_107 (m + 1)) o0 o1 (1 : Int32) σ1 = _
    unfold f_X0_copyFrom_107_b
    rw [if_neg (by decide)]
    simp only [lt_a]
    rw [ckb_t (show inb (1 : Int32) 2 = true from rfl), ckb_t (show inb (1 : Int32) 2 = true from rfl), e1, e1', r1]
    simp only [bnd_s]
    show f_X0_copyFrom_107_b (f_X0_copyFrom_107 m) o0 o1 (2 : Int32) σ2 = _
    unfold f_X0_copyFrom_107_b
    rw [if_pos (by decide)]
  · have hu2 : u = 0 ∨ u = 1 := by omega
    rcases hu2 with rfl | rfl
    · refine ⟨by rw [r2 _ (by omega) (by omega) (by omega)]; exact q3, ?_, fun c hc hcc j hj => ?_⟩
      · rw [r2 _ (by omega) (by omega) (by omega), s0, ← q4, show 38 + 2 * o0 + 0 + 8 = 46 + 2 * o0 + 0 by omega]
      · have : c = c0 := by
          have := hcc.symm.trans s0
          rw [i_eq, i_nI (by omega), i_nI (by omega)] at this; omega
        subst this
        rw [r2 _ (by omega) (by omega) (by omega)]
        have := q5 j hj
        rw [show 38 + 2 * o0 + 0 + 26 = 64 + 2 * o0 + 0 by omega, show 38 + 2 * o1 + 0 + 26 = 64 + 2 * o1 + 0 by omega] at this
        exact this
    · refine ⟨by rw [r3, q2 _ (by omega) (by omega) (by omega)], ?_, fun c hc hcc j hj => ?_⟩
      · rw [s1, ← r4, show 38 + 2 * o0 + 1 + 8 = 46 + 2 * o0 + 1 by omega]
      · have : c = c1 := by
          have := hcc.symm.trans s1
          rw [i_eq, i_nI (by omega), i_nI (by omega)] at this; omega
        subst this
        have := r5 j hj
        rw [show 38 + 2 * o0 + 1 + 26 = 64 + 2 * o0 + 1 by omega, show 38 + 2 * o1 + 1 + 26 = 64 + 2 * o1 + 1 by omega, q2 (64 + 2 * o1 + 1) (by omega) (by omega) (by omega)] at this
        exact this
theorem cpy5 {f g : Nat → Int32} {p : Nat} (hp : p < 5) : va_cpy f g (0 : Int32).toNatClampNeg (0 : Int32).toNatClampNeg (5 : Int32).toNatClampNeg p = f p := by
  unfold va_cpy
  rw [tn_0, tn_5, if_pos (by omega)]
  congr 1
  omega
theorem upR_s {σ : Sg} {k : Nat} {f : Nat → Int32} : upR σ k f k = f := by simp [upR]
theorem upR_n {σ : Sg} {k : Nat} {f : Nat → Int32} {j : Nat} (h : j ≠ k) : upR σ k f j = σ j := by simp [upR, h]
theorem ac5 : acOk (0 : Int32) (0 : Int32) (5 : Int32) 5 5 = true := by decide +kernel
theorem x_bexit {o0 o1 : Nat} (ho : o0 ≠ o1) (h15 : o1 ≠ o0 + 15) (h15' : o1 + 15 ≠ o0) (h0 : o0 + 15 ≠ o0) (m : Nat) (σ1 : Sg) : f_X0_copyFrom_10 (m + 1) o0 o1 (nI 10) σ1 = bnd (f_X6_copyFrom (o0 + 43) (o1 + 43) (up (upR (up (up (up σ1 o0 2 (σ1 o1 2)) o0 3 (σ1 o1 3)) o0 4 (σ1 o1 4)) (o0 + 15) (va_cpy (σ1 (o1 + 15)) (σ1 (o0 + 15)) (0 : Int32).toNatClampNeg (0 : Int32).toNatClampNeg (5 : Int32).toNatClampNeg)) o0 6 (σ1 o1 6))) (fun _ s11 => bnd (f_X6_copyFrom (o0 + 45) (o1 + 45) s11) (fun _ s13 => f_X0_copyFrom_107 fuN o0 o1 (0 : Int32) s13)) := by
  simp only [f_X0_copyFrom_10, f_X0_copyFrom_10_b]
  rw [if_pos (show (10 : Int32) ≤ nI 10 from by decide)]
  simp only [lt_a]
  rw [ckb_t ac5]
  have n1 : o1 ≠ o0 := Ne.symm ho
  simp only [up_k n1, upR_n h15, up_row n1, up_row h15', up_row h0]
/-- a board's copy -/
theorem x_bcopy {o0 o1 : Nat} (ho : (o0 = 1 ∧ o1 = 2) ∨ (o0 = 2 ∧ o1 = 1)) (σ : Sg) (hg : ∀ l, l < 10 → σ (10 + 10 * o1 + l) 6 = 0 ∨ σ (10 + 10 * o1 + l) 6 = 1) {tp wt : Nat} (ht : tp ≤ 60) (hw : wt ≤ 24) (e1 : σ (43 + o1) 1 = nI tp) (e2 : σ (45 + o1) 1 = nI wt) (hs : ∀ u, u < 2 → ∃ c : Nat, c ≤ 60 ∧ σ (46 + 2 * o1 + u) 1 = nI c ∧ (σ (38 + 2 * o1 + u) 0 = 0 ∨ σ (38 + 2 * o1 + u) 0 = 1)) : ∃ σ', f_X0_copyFrom o0 o1 σ = some ((), σ') ∧ (∀ k, (k ≠ o0 ∧ (k < 10 + 10 * o0 ∨ 10 + 10 * o0 + 10 ≤ k) ∧ k ≠ 15 + o0 ∧ k ≠ 43 + o0 ∧ k ≠ 61 + o0 ∧ k ≠ 45 + o0 ∧ k ≠ 63 + o0 ∧ ¬ (k = 38 + 2 * o0 ∨ k = 39 + 2 * o0 ∨ k = 46 + 2 * o0 ∨ k = 47 + 2 * o0 ∨ k = 64 + 2 * o0 ∨ k = 65 + 2 * o0)) → σ' k = σ k) ∧ (σ' o0 1 = σ o1 1 ∧ σ' o0 2 = σ o1 2 ∧ σ' o0 3 = σ o1 3 ∧ σ' o0 4 = σ o1 4 ∧ σ' o0 6 = σ o1 6) ∧ (∀ l, l < 10 → ∀ f, f < 7 → σ' (10 + 10 * o0 + l) f = σ (10 + 10 * o1 + l) f) ∧ (∀ p, p < 5 → σ' (15 + o0) p = σ (15 + o1) p) ∧ (σ' (43 + o0) 1 = nI tp ∧ ∀ j, j < tp → σ' (61 + o0) j = σ (61 + o1) j) ∧ (σ' (45 + o0) 1 = nI wt ∧ ∀ j, j < wt → σ' (63 + o0) j = σ (63 + o1) j) ∧ (∀ u, u < 2 → σ' (38 + 2 * o0 + u) 0 = σ (38 + 2 * o1 + u) 0 ∧ σ' (46 + 2 * o0 + u) 1 = σ (46 + 2 * o1 + u) 1 ∧ ∀ c : Nat, c ≤ 60 → σ (46 + 2 * o1 + u) 1 = nI c → ∀ j, j < c → σ' (64 + 2 * o0 + u) j = σ (64 + 2 * o1 + u) j) := by
  obtain ⟨m, hm⟩ : ∃ m, fuN = m + 10 + 1 := ⟨fuN - 11, by have := fu_le; omega⟩
  obtain ⟨σ1, a1, a2, a3, -⟩ := x_bl ho m 10 0 (up σ o0 1 (σ o1 1)) (by omega) (fun l hl => by rw [up_row (by omega)]; exact hg l hl)
  obtain ⟨σ2, hσ2⟩ : ∃ s, s = up (upR (up (up (up σ1 o0 2 (σ1 o1 2)) o0 3 (σ1 o1 3)) o0 4 (σ1 o1 4)) (o0 + 15) (va_cpy (σ1 (o1 + 15)) (σ1 (o0 + 15)) (0 : Int32).toNatClampNeg (0 : Int32).toNatClampNeg (5 : Int32).toNatClampNeg)) o0 6 (σ1 o1 6) := ⟨_, rfl⟩
  have k0 : capC (o0 + 43 + 18) = 60 := by rcases ho with ⟨rfl, rfl⟩ | ⟨rfl, rfl⟩ <;> rfl
  have k1 : capC (o1 + 43 + 18) = 60 := by rcases ho with ⟨rfl, rfl⟩ | ⟨rfl, rfl⟩ <;> rfl
  have k2 : capC (o0 + 45 + 18) = 24 := by rcases ho with ⟨rfl, rfl⟩ | ⟨rfl, rfl⟩ <;> rfl
  have k3 : capC (o1 + 45 + 18) = 24 := by rcases ho with ⟨rfl, rfl⟩ | ⟨rfl, rfl⟩ <;> rfl
  have f2 : ∀ k, k ≠ o0 → k ≠ o0 + 15 → σ2 k = σ1 k := by
    intro k b c
    rw [hσ2, up_row b, upR_n c, up_row b, up_row b, up_row b]
  have g1 : ∀ k, k ≠ o0 → (k < 10 + 10 * o0 ∨ 10 + 10 * o0 + 10 ≤ k) → σ1 k = σ k := by
    intro k b c
    rw [a2 k c, up_row b]
  obtain ⟨σ3, b1, b2, b3, b4⟩ := x_rowcopy (o0 := o0 + 43) (o1 := o1 + 43) (by omega) (by omega) (by omega) (by omega) (by omega) (t := tp) (by omega) (by omega) σ2 (by rw [f2 _ (by omega) (by omega), g1 _ (by omega) (by omega), ← e1, show o1 + 43 = 43 + o1 by omega])
  obtain ⟨σ4, c1, c2, c3, c4⟩ := x_rowcopy (o0 := o0 + 45) (o1 := o1 + 45) (by omega) (by omega) (by omega) (by omega) (by omega) (t := wt) (by omega) (by omega) σ3 (by rw [b2 _ (by omega) (by omega), f2 _ (by omega) (by omega), g1 _ (by omega) (by omega), ← e2, show o1 + 45 = 45 + o1 by omega])
  have old : ∀ k, k ≠ o0 → (k < 10 + 10 * o0 ∨ 10 + 10 * o0 + 10 ≤ k) → k ≠ o0 + 15 → k ≠ o0 + 43 → k ≠ o0 + 43 + 18 → k ≠ o0 + 45 → k ≠ o0 + 45 + 18 → σ4 k = σ k := by
    intro k b c d e f g i
    rw [c2 k g i, b2 k e f, f2 k b d, g1 k b c]
  obtain ⟨σ5, d1, d2, d3⟩ := x_laws ho σ4 (fun u hu => by
    obtain ⟨c, h1, h2, h3⟩ := hs u hu
    exact ⟨c, h1, by rw [old _ (by omega) (by omega) (by omega) (by omega) (by omega) (by omega) (by omega)]; exact h2, by rw [old _ (by omega) (by omega) (by omega) (by omega) (by omega) (by omega) (by omega)]; exact h3⟩)
  refine ⟨σ5, ?_, ?_, ?_, ?_, ?_, ?_, ?_, ?_⟩
  · unfold f_X0_copyFrom
    simp only [lt_a]
    have a1' : f_X0_copyFrom_10 fuN o0 o1 (0 : Int32) (up σ o0 1 (σ o1 1)) = f_X0_copyFrom_10 (m + 1) o0 o1 (nI 10) σ1 := by
      rw [hm, ← a1, nI_0]
    rw [a1', x_bexit (by omega) (by omega) (by omega) (by omega), ← hσ2, b1]
    simp only [bnd_s]
    rw [c1]
    simp only [bnd_s]
    exact d1
  · rintro k ⟨h1, h2, h3, h4, h5, h6, h7, h8⟩
    rw [d2 k h8, old k h1 h2 (by omega) (by omega) (by omega) (by omega) (by omega)]
  · have w : σ5 o0 = σ2 o0 := by rw [d2 _ (by omega), c2 _ (by omega) (by omega), b2 _ (by omega) (by omega)]
    have v : σ1 o1 = σ o1 := g1 o1 (by omega) (by omega)
    rw [w, hσ2]
    refine ⟨?_, ?_, ?_, ?_, ?_⟩
    · rw [up_i (by decide), upR_n (by omega), up_i (by decide), up_i (by decide), up_i (by decide), a2 _ (by omega), up_s]
    · rw [up_i (by decide), upR_n (by omega), up_i (by decide), up_i (by decide), up_s, v]
    · rw [up_i (by decide), upR_n (by omega), up_i (by decide), up_s, v]
    · rw [up_i (by decide), upR_n (by omega), up_s, v]
    · rw [up_s, v]
  · intro l hl f hf
    rw [d2 _ (by omega), c2 _ (by omega) (by omega), b2 _ (by omega) (by omega), f2 _ (by omega) (by omega), a3 l (by omega) hl f hf, up_row (by omega)]
  · intro p hp
    rw [d2 _ (by omega), c2 _ (by omega) (by omega), b2 _ (by omega) (by omega), hσ2, up_row (by omega), show 15 + o0 = o0 + 15 by omega, upR_s, cpy5 hp, g1 _ (by omega) (by omega), show o1 + 15 = 15 + o1 by omega]
  · refine ⟨?_, fun j hj => ?_⟩
    · rw [d2 _ (by omega), c2 _ (by omega) (by omega), ← b3, show o0 + 43 = 43 + o0 by omega]
    · have := b4 j hj
      rw [f2 _ (by omega) (by omega), g1 _ (by omega) (by omega), show o0 + 43 + 18 = 61 + o0 by omega, show o1 + 43 + 18 = 61 + o1 by omega] at this
      rw [d2 _ (by omega), c2 _ (by omega) (by omega)]
      exact this
  · refine ⟨?_, fun j hj => ?_⟩
    · rw [d2 _ (by omega), ← c3, show o0 + 45 = 45 + o0 by omega]
    · have := c4 j hj
      rw [b2 _ (by omega) (by omega), f2 _ (by omega) (by omega), g1 _ (by omega) (by omega), show o0 + 45 + 18 = 63 + o0 by omega, show o1 + 45 + 18 = 63 + o1 by omega] at this
      rw [d2 _ (by omega)]
      exact this
  · intro u hu
    obtain ⟨q1, q2, q3⟩ := d3 u hu
    have e1 := old (38 + 2 * o1 + u) (by omega) (by omega) (by omega) (by omega) (by omega) (by omega) (by omega)
    have e2 := old (46 + 2 * o1 + u) (by omega) (by omega) (by omega) (by omega) (by omega) (by omega) (by omega)
    have e3 := old (64 + 2 * o1 + u) (by omega) (by omega) (by omega) (by omega) (by omega) (by omega) (by omega)
    rw [e1] at q1
    rw [e2] at q2 q3
    rw [e3] at q3
    exact ⟨q1, q2, q3⟩
