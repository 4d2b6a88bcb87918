theorem held_eq (a b : Int32) (hb : 0 ≤ b.toInt) (σ τ : Sg) : ∃ v, f_X9_held a b σ = some (v, σ) ∧ f_X10_held a (0 : Int32) b τ = some (v, τ) ∧ 0 ≤ v.toInt ∧ v.toInt ≤ b.toInt := by
  refine ⟨mx (0 : Int32) (mn a b), rfl, ?_, by (unfold mx mn; simp only [i_lt, ti_0]; repeat' split) <;> (first | omega | (rw [ti_0]; omega)), by (unfold mx mn; simp only [i_lt, ti_0]; repeat' split) <;> (first | omega | (rw [ti_0]; omega))⟩
  unfold f_X10_held mx mn
  simp only [i_le, i_lt, ti_0]
  by_cases h : 0 ≤ a.toInt
  · rw [if_pos h]
    by_cases h2 : a.toInt ≤ b.toInt
    · rw [if_pos h2, if_neg (show ¬ b.toInt < a.toInt by omega)]
      by_cases h3 : 0 < a.toInt
      · rw [if_pos h3]
      · rw [if_neg h3, show a = 0 by rw [i_eq, ti_0]; omega]
    · rw [if_neg h2, if_pos (show b.toInt < a.toInt by omega)]
      by_cases h3 : 0 < b.toInt
      · rw [if_pos h3]
      · rw [if_neg h3, show b = 0 by rw [i_eq, ti_0]; omega]
  · rw [if_neg h, if_neg (show ¬ b.toInt < a.toInt by omega), if_neg (by omega)]
theorem eqX_W {u : Nat} (hu : u < 2) {σ σ' : Sg} (h : ∀ k, k ≠ 52 + u → k ≠ 70 + u → σ' k = σ k) : eqX σ σ' := by
  intro k hk
  refine h k ?_ ?_
  · rintro rfl
    have : u = 0 ∨ u = 1 := by omega
    rcases this with rfl | rfl <;> exact absurd hk (by decide)
  · rintro rfl
    have : u = 0 ∨ u = 1 := by omega
    rcases this with rfl | rfl <;> exact absurd hk (by decide)
theorem eqM_W {τ τ' : Sg} (h : ∀ k, k ≠ 10 → k ≠ 11 → τ' k = τ k) : eqM τ τ' := by
  unfold eqM
  rw [h 1 (by decide) (by decide), h 2 (by decide) (by decide), h 4 (by decide) (by decide), h 5 (by decide) (by decide), h 6 (by decide) (by decide), h 7 (by decide) (by decide), h 13 (by decide) (by decide), h 0 (by decide) (by decide)]
  exact ⟨rfl, rfl, rfl, rfl, rfl, rfl, rfl, rfl, rfl⟩
theorem m_gives {u : Nat} (hu : u < 2) (p q r : Int32) (τ : Sg) : f_X10_gives (nI u) p q r τ = f_X10_gives_57 ((166 : Int32) + ((121 : Int32) * nI u)) (if u = 0 then (if r = 1 then p / 2 else p) else 10 * p) (up (up (up τ 10 0 p) 10 1 q) 10 2 r) := by
  unfold f_X10_gives
  have : u = 0 ∨ u = 1 := by omega
  simp only [lt_a, bnd_s, lt_a, if01, ckb_01, rd_0, rd_1, rd_2, rd_3, rd_4, rd_5, rd_6, rd_7, rd_8, rd_9, rd_10, rd_11, rd_12, rd_13, rd_14, rd_15, ck_0, ck_1, ck_2, ck_3, ck_4, ck_5, ck_6, ck_7, ck_8, ck_9, ck_10, ck_11, ck_12, ck_13, ck_14, ck_15, tn_0, tn_1, tn_2, tn_3, tn_4, tn_5, tn_6, tn_7, tn_8, tn_9, tn_10, tn_11, tn_12, tn_13, tn_14, tn_15]
  rw [ck_k (k := 0) ti_0 (by omega), ck_k (k := 1) ti_1 (by omega), ck_k (k := 2) ti_2 (by omega)]
  rcases this with rfl | rfl
  · rw [if_neg (show ¬ nI 0 = (1 : Int32) by decide), if_pos (show (0 : Nat) = 0 from rfl)]
    by_cases h : r = 1
    · rw [if_pos h, if_pos h]
    · rw [if_neg h, if_neg h]
  · rw [if_pos (show nI 1 = (1 : Int32) from rfl), if_neg (show ¬ (1 : Nat) = 0 by decide)]
/-! what is only thought: the day of M may be another one than that of X -/
def Vw (n : Nat) (D : Int32) (σ τ : Sg) : Prop := n ≤ 10 ∧ σ 1 1 = nI n ∧ τ 1 2 = nI n ∧ τ 1 0 = D ∧ (0 ≤ D.toInt ∧ D.toInt ≤ 20000) ∧ τ 1 3 = σ 1 3 ∧ (∀ l, l < n → LnOK (σ (20 + l)) D ∧ ∀ f, f < 7 → τ 1 (12 + 7 * l + f) = σ (20 + l) f) ∧ (∀ l, l < 10 → σ (20 + l) 6 = 0 ∨ σ (20 + l) 6 = 1) ∧ ∀ u, u < 2 → Cd (σ (40 + u) 0) (σ (48 + u) 1) (σ (66 + u)) (fun j => τ 1 (166 + 121 * u + j))
theorem Sim.vw {σ τ : Sg} (h : Sim σ τ) : ∃ n, Vw n (σ 1 2) σ τ := by
  obtain ⟨a1, a2, ⟨n, hn, e1, e2, a3⟩, a4, a5, a6, a7⟩ := h.1
  have h2 := a1.2.2.1
  exact ⟨n, hn, e1, e2, a1.1, ⟨a1.2.1, by omega⟩, a1.2.2.2.1, a3, a4, a7⟩
theorem Vw.eq {n : Nat} {D : Int32} {σ τ σ' τ' : Sg} (h : Vw n D σ τ) (e : eqX σ σ') (em : eqM τ τ') : Vw n D σ' τ' := by
  obtain ⟨h1, h2, h3, h4, h5, h6, h7, h8, h9⟩ := h
  refine ⟨h1, by rw [e 1 rfl]; exact h2, by rw [em.1]; exact h3, by rw [em.1]; exact h4, h5, by rw [em.1, e 1 rfl]; exact h6, fun l hl => ?_, fun l hl => ?_, fun u hu => ?_⟩
  · rw [em.1, e _ (rlv_l (l := l) (by omega)).1]; exact h7 l hl
  · rw [e _ (rlv_l hl).1]; exact h8 l hl
  · have q := rlv_u (u := u) (by omega)
    rw [em.1, e _ q.2.1, e _ q.2.2.1, e _ q.2.2.2.1]; exact h9 u hu
theorem gives_eq {m : Nat} {D : Int32} {σ τ : Sg} (h : Vw m D σ τ) {u : Nat} (hu : u < 2) (p q r : Int32) : ∃ v σ' τ', f_X0_lawGives (nI u) p q r σ = some (v, σ') ∧ f_X10_gives (nI u) p q r τ = some (v, τ') ∧ eqX σ σ' ∧ eqM τ τ' ∧ 0 ≤ v.toInt ∧ v.toInt ≤ 999 ∧ σ' 4 = σ 4 := by
  have eu : (nI u).toInt = (u : Int) := i_nI (by omega)
  have e121 : ((121 : Int32) * nI u).toInt = 121 * (u : Int) := by
    have q : (121 : Int32).toInt = 121 := rfl
    rw [i_mul (by rw [eu, q]; omega) (by rw [eu, q]; omega), eu, q]
  have eb : ((166 : Int32) + ((121 : Int32) * nI u)).toInt = ((166 + 121 * u : Nat) : Int) := by rw [i_add (by rw [e121, ti_166]; omega) (by rw [e121, ti_166]; omega), e121, ti_166]; omega
  obtain ⟨c, hc, k1, k2⟩ := h.2.2.2.2.2.2.2.2 u hu
  have k1' : σ (48 + u) 1 = nI c := k1
  have e999 : 0 ≤ (999 : Int32).toInt := by decide
  have mM : ∀ k, k ≠ 10 → k ≠ 11 → up (up (up τ 10 0 p) 10 1 q) 10 2 r k = τ k := fun k b _ => by rw [up_row b, up_row b, up_row b]
  rw [m_gives hu]
  unfold f_X0_lawGives f_X10_gives_57
  rw [ck_k eu hu, ck_k eb (by omega), rd_k eb, mM 1 (by decide) (by decide), lt_a, tn_k eu]
  rcases k2 with ⟨t0, t1⟩ | ⟨t0, t1, t2, t3⟩
  · have t0' : σ (40 + u) 0 = 0 := t0
    have t1' : τ 1 (166 + 121 * u) = 0 := t1
    rw [t0', t1', if_pos rfl, if_pos (show (0 : Int32) ≤ 0 by decide)]
    have fin : ∀ z : Int32, ∃ v σ' τ', f_X9_held z (999 : Int32) σ = some (v, σ') ∧ f_X10_held z (0 : Int32) (999 : Int32) (up (up (up τ 10 0 p) 10 1 q) 10 2 r) = some (v, τ') ∧ eqX σ σ' ∧ eqM τ τ' ∧ 0 ≤ v.toInt ∧ v.toInt ≤ 999 ∧ σ' 4 = σ 4 := by
      intro z
      obtain ⟨v, v1, v2, v3⟩ := held_eq z 999 e999 σ (up (up (up τ 10 0 p) 10 1 q) 10 2 r)
      exact ⟨v, _, _, v1, v2, eqX.rf, eqM_W mM, v3.1, v3.2, rfl⟩
    have xx : ∀ (x : Option (Int32 × Sg)), bnd x (fun r2 s1 => some (r2, s1)) = x := by
      intro x; cases x with
      | none => rfl
      | some y => rfl
    simp only [f_X0_lawGives_47, xx, lt_a]
    have hu' : u = 0 ∨ u = 1 := by omega
    rcases hu' with rfl | rfl
    · rw [if_pos (show nI 0 = (0 : Int32) from rfl), if_pos (show (0 : Nat) = 0 from rfl)]
      by_cases hr : r = 1
      · rw [if_pos hr, if_pos hr]; exact fin _
      · rw [if_neg hr, if_neg hr]; exact fin _
    · rw [if_neg (show ¬ nI 1 = (0 : Int32) by decide), if_neg (show ¬ (1 : Nat) = 0 by decide)]; exact fin _
  · have t0' : σ (40 + u) 0 = 1 := t0
    have t2' : τ 1 (166 + 121 * u) = nI c := t2
    have ec : (nI c).toInt = (c : Int) := i_nI (by omega)
    rw [t0', t2', if_neg (show ¬ ((1 : Int32) = 0) by decide), if_neg (show ¬ nI c ≤ 0 by rw [i_le, ec, ti_0]; omega), ck_k eu hu, lt_a]
    unfold f_X1_workOut f_X10_works f_X6_clear
    rw [lt_a, bnd_s, show 40 + u + 12 = 52 + u by omega]
    obtain ⟨v, σ', τ', p1, p2, p3⟩ := works_eq hu hc eb t3 p q r c 0 fuN fuN 0 (up σ (52 + u) 1 0) (up (up (up τ 10 0 p) 10 1 q) 10 2 r) (by omega) (by have := fu_le; omega) (by have := fu_le; omega) ⟨by rw [up_k (by omega)]; exact k1', fun i hi => by rw [up_k (by omega)], by rw [mM 1 (by decide) (by decide)]; exact t2', fun i hi => by rw [mM 1 (by decide) (by decide)]; exact ⟨congrArg (τ 1) (by omega), congrArg (τ 1) (by omega)⟩, by rw [up_i (by decide), up_i (by decide), up_s], by rw [up_i (by decide), up_s], up_s, by rw [up_s]; rfl, rfl, by omega, fun i hi => absurd hi (by omega)⟩
    rw [nI_0] at p1 p2
    rw [p1, p2, bnd_s, bnd_s]
    obtain ⟨y, y1, y2, y3⟩ := held_eq v 999 e999 σ' τ'
    rw [y1, y2, bnd_s, bnd_s]
    refine ⟨y, σ', τ', rfl, rfl, eqX_W hu (fun k b d => by rw [p3.1 k b d, up_row b]), eqM_W (fun k b d => by rw [p3.2 k d, mM k b d]), y3.1, y3.2, (p3.1 4 (by omega) (by omega)).trans (up_row (by omega))⟩
theorem eq_law {σ τ : Sg} (h : Sim σ τ) (a b c d : Int32) : Ok (f_X9_law a b c d σ) (f_X10_law a b c d τ) := by
  unfold f_X9_law f_X10_law
  simp only [x_isIn, m_in, x_err1, m_err1, bnd_s, lt_a, if01, ckb_01, rd_0, rd_1, rd_2, rd_3, rd_4, rd_5, rd_6, rd_7, rd_8, rd_9, rd_10, rd_11, rd_12, rd_13, rd_14, rd_15, ck_0, ck_1, ck_2, ck_3, ck_4, ck_5, ck_6, ck_7, ck_8, ck_9, ck_10, ck_11, ck_12, ck_13, ck_14, ck_15, tn_0, tn_1, tn_2, tn_3, tn_4, tn_5, tn_6, tn_7, tn_8, tn_9, tn_10, tn_11, tn_12, tn_13, tn_14, tn_15]
  by_cases ha : 0 ≤ a ∧ a ≤ 1
  · rw [if_pos ha, if_pos ha]
    simp only [i_le, ti_0, ti_1, ti_2, ti_3, ti_4, ti_5, ti_6, ti_7, ti_8, ti_9, ti_10, ti_11, ti_12, ti_13, ti_14, ti_15] at ha
    obtain ⟨u, hu, rfl⟩ := nI_ofi (a := a) (n := 2) ha.1 (by omega)
    obtain ⟨m, hv⟩ := h.vw
    obtain ⟨v, σ', τ', p1, p2, p3, p4⟩ := gives_eq hv hu b c d
    rw [p1, p2, bnd_s, bnd_s]
    exact Ok.mk (Sim_eq h p3 p4.1)
  · rw [if_neg ha, if_neg ha]; exact Ok.err h 1 (by decide)
