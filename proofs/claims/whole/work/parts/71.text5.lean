theorem any_lm (g1 g2 g3 g4 g5 g6 : Sg → Option (Unit × Sg)) (g7 : Int32 → Sg → Option (Unit × Sg)) : (∀ m τ v, τ 0 15 = 0 → f_X10_look τ = some (v, τ) → f_X10_any_4 g1 g2 g3 g4 g5 g6 g7 (m + 1) τ = if lvI v = nI 0 then bnd (g2 (up τ 0 13 (τ 0 13 + 1))) (fun _ s4 => bnd (f_X10_step v (0 : Int32) s4) (fun _ s6 => f_X10_any_4 g1 g2 g3 g4 g5 g6 g7 m s6)) else some ((), τ)) ∧ ∀ m τ, τ 0 15 = 1 → f_X10_any_4 g1 g2 g3 g4 g5 g6 g7 (m + 1) τ = some ((), τ) := by
  constructor
  · intro m τ v h15 hlk
    rw [f_X10_any_4]
    unfold f_X10_any_4_b
    rw [if_pos h15, hlk, bnd_s, nI_0]
    by_cases q : v = 124
    · rw [if_pos q, if_pos ((lv_iff v).1.mpr q), lt_a, q]
    · rw [if_neg q, if_neg (fun e => q ((lv_iff v).1.mp e))]
  · intro m τ h15
    rw [f_X10_any_4]
    unfold f_X10_any_4_b
    rw [h15, if_neg (by decide)]
theorem all_lm (g1 g2 g3 g4 g5 g6 : Sg → Option (Unit × Sg)) (g7 : Int32 → Sg → Option (Unit × Sg)) : (∀ m τ v, τ 0 15 = 0 → f_X10_look τ = some (v, τ) → f_X10_all_4 g1 g2 g3 g4 g5 g6 g7 (m + 1) τ = if lvI v = nI 1 then bnd (g3 (up τ 0 13 (τ 0 13 + 1))) (fun _ s4 => bnd (f_X10_step v (0 : Int32) s4) (fun _ s6 => f_X10_all_4 g1 g2 g3 g4 g5 g6 g7 m s6)) else some ((), τ)) ∧ ∀ m τ, τ 0 15 = 1 → f_X10_all_4 g1 g2 g3 g4 g5 g6 g7 (m + 1) τ = some ((), τ) := by
  have e1 : nI 1 = (1 : Int32) := rfl
  constructor
  · intro m τ v h15 hlk
    rw [f_X10_all_4]
    unfold f_X10_all_4_b
    rw [if_pos h15, hlk, bnd_s, e1]
    by_cases q : v = 38
    · rw [if_pos q, if_pos ((lv_iff v).2.1.mpr q), lt_a, q]
    · rw [if_neg q, if_neg (fun e => q ((lv_iff v).2.1.mp e))]
  · intro m τ h15
    rw [f_X10_all_4]
    unfold f_X10_all_4_b
    rw [h15, if_neg (by decide)]
theorem sum_lm (g1 g2 g3 g4 g5 g6 : Sg → Option (Unit × Sg)) (g7 : Int32 → Sg → Option (Unit × Sg)) : (∀ m τ v, τ 0 15 = 0 → f_X10_look τ = some (v, τ) → f_X10_sum_4 g1 g2 g3 g4 g5 g6 g7 (m + 1) τ = if lvI v = nI 3 then bnd (g5 (up τ 0 13 (τ 0 13 + 1))) (fun _ s4 => bnd (f_X10_step v (0 : Int32) s4) (fun _ s6 => f_X10_sum_4 g1 g2 g3 g4 g5 g6 g7 m s6)) else some ((), τ)) ∧ ∀ m τ, τ 0 15 = 1 → f_X10_sum_4 g1 g2 g3 g4 g5 g6 g7 (m + 1) τ = some ((), τ) := by
  have e1 : nI 3 = (3 : Int32) := rfl
  constructor
  · intro m τ v h15 hlk
    rw [f_X10_sum_4]
    unfold f_X10_sum_4_b f_X10_sum_29
    rw [if_pos h15, hlk, bnd_s, e1]
    by_cases q : v = 43
    · rw [if_pos q, if_pos ((lv_iff v).2.2.2.1.mpr (Or.inl q)), hlk, bnd_s, lt_a]
    · rw [if_neg q, hlk, bnd_s]
      by_cases q2 : v = 45
      · rw [if_pos q2, if_pos ((lv_iff v).2.2.2.1.mpr (Or.inr q2)), hlk, bnd_s, lt_a]
      · rw [if_neg q2, if_neg (fun e => ((lv_iff v).2.2.2.1.mp e).elim q q2)]
  · intro m τ h15
    rw [f_X10_sum_4]
    unfold f_X10_sum_4_b
    rw [h15, if_neg (by decide)]
theorem times_lm (g1 g2 g3 g4 g5 g6 : Sg → Option (Unit × Sg)) (g7 : Int32 → Sg → Option (Unit × Sg)) : (∀ m τ v, τ 0 15 = 0 → f_X10_look τ = some (v, τ) → f_X10_times_4 g1 g2 g3 g4 g5 g6 g7 (m + 1) τ = if lvI v = nI 4 then bnd (g6 (up τ 0 13 (τ 0 13 + 1))) (fun _ s4 => bnd (f_X10_step v (0 : Int32) s4) (fun _ s6 => f_X10_times_4 g1 g2 g3 g4 g5 g6 g7 m s6)) else some ((), τ)) ∧ ∀ m τ, τ 0 15 = 1 → f_X10_times_4 g1 g2 g3 g4 g5 g6 g7 (m + 1) τ = some ((), τ) := by
  have e1 : nI 4 = (4 : Int32) := rfl
  constructor
  · intro m τ v h15 hlk
    rw [f_X10_times_4]
    unfold f_X10_times_4_b f_X10_times_38
    rw [if_pos h15, hlk, bnd_s, e1]
    by_cases q : v = 42
    · rw [if_pos q, if_pos ((lv_iff v).2.2.2.2.mpr (Or.inl q)), hlk, bnd_s, lt_a]
    · rw [if_neg q, hlk, bnd_s]
      by_cases q2 : v = 47
      · rw [if_pos q2, if_pos ((lv_iff v).2.2.2.2.mpr (Or.inr (Or.inl q2))), hlk, bnd_s, lt_a]
      · rw [if_neg q2, hlk, bnd_s]
        by_cases q3 : v = 37
        · rw [if_pos q3, if_pos ((lv_iff v).2.2.2.2.mpr (Or.inr (Or.inr q3))), hlk, bnd_s, lt_a]
        · rw [if_neg q3, if_neg (fun e => ((lv_iff v).2.2.2.2.mp e).elim q (fun e => e.elim q2 q3))]
  · intro m τ h15
    rw [f_X10_times_4]
    unfold f_X10_times_4_b
    rw [h15, if_neg (by decide)]
theorem cmp_spec {σ0 τ0 : Sg} {t u o : Nat} (b : BS σ0 τ0 t u) (g1 : Int32 → Int32 → Sg → Option (Int32 × Sg)) (g2 g3 g4 : Int32 → Sg → Option (Int32 × Sg)) (k1 k2 k3 k4 k5 k6 : Sg → Option (Unit × Sg)) (k7 : Int32 → Sg → Option (Unit × Sg)) (hop : Sp σ0 τ0 t u o (g1 (nI 3) (nI o)) k4) : Sp σ0 τ0 t u o (f_X4_readsLevel_e g1 g2 g3 g4 (nI 2) (nI o)) (f_X10_compares_e k1 k2 k3 k4 k5 k6 k7) := by
  intro p c δ σ τ h
  have hd := h.2.2.2.2.2.2.2.2.2.2.2.2.2.2
  have b1 := b.1
  have e3 : nI 2 + (1 : Int32) = nI 3 := rfl
  unfold f_X4_readsLevel_e f_X10_compares_e
  rw [if_pos (show nI 2 < (5 : Int32) by decide), e3]
  rcases hop _ _ _ _ _ h with ⟨p', c', σ1, τ1, w1, w2, w3, w4, w5⟩ | ⟨p', σ1, τ1, w1, w2, w3⟩
  · obtain ⟨n1, n2⟩ := pr_next b w3
    have h15 := w3.2.2.2.2.2.2.2.2.2.2.2.1
    obtain ⟨m, hm⟩ : ∃ m, fuN = m + 2 := ⟨fuN - 2, by have := fu_le; omega⟩
    rw [w1, w2, bnd_s, bnd_s, if_neg (show ¬ (1 : Int32) = 0 by decide), if_pos (show nI 2 = (2 : Int32) from rfl), n2, bnd_s, h15, if_pos rfl, hm, show m + 2 = (m + 1) + 1 by omega, f_X4_readsLevel_44]
    unfold f_X4_readsLevel_44_b
    rw [if_neg (show ¬ (1 : Int32) ≤ 0 by decide), n1, bnd_s, x_levelOf, bnd_s]
    have e2 : nI 2 = (2 : Int32) := rfl
    by_cases hb : lvI (Byt σ0 t p') = nI 2
    · have cmp : ∀ R : Option (Unit × Sg), (if Byt σ0 t p' = (60 : Int32) then R else if Byt σ0 t p' = (61 : Int32) then R else if Byt σ0 t p' = (62 : Int32) then R else some ((), τ1)) = R := by
        intro R
        by_cases y1 : Byt σ0 t p' = 60
        · rw [if_pos y1]
        rw [if_neg y1]
        by_cases y2 : Byt σ0 t p' = 61
        · rw [if_pos y2]
        rw [if_neg y2]
        by_cases y3 : Byt σ0 t p' = 62
        · rw [if_pos y3]
        · rcases (lv_iff (Byt σ0 t p')).2.2.1.mp hb with y | y | y
          · exact absurd y y1
          · exact absurd y y2
          · exact absurd y y3
      rw [if_pos hb, cmp, n1, bnd_s, lt_a, e3]
      unfold f_X10_compares_34
      rw [lt_a]
      obtain ⟨hp, q⟩ := op_step b (by decide) hop w3 (by omega) hb
      rcases q with ⟨p2, c2, σ2, τ2, σ3, τ3, v1, v2, v3, v4, v5, v6, v7⟩ | ⟨p2, σ2, τ2, τ3, v1, v2, v3, v4⟩
      · rw [v1, v2, bnd_s, bnd_s, if_neg (show ¬ (1 : Int32) = 0 by decide), v3, v4, bnd_s, bnd_s, lt_a, f_X4_readsLevel_44]
        unfold f_X4_readsLevel_44_b
        rw [if_pos (show (1 : Int32) ≤ 0 + 1 by decide)]
        exact Or.inl ⟨p2, c2, σ3, τ3, rfl, rfl, v5, by omega, by omega⟩
      · rw [v1, v2, bnd_s, bnd_s, if_pos rfl, v3, bnd_s]
        exact Or.inr ⟨p2, σ2, τ3, rfl, rfl, v4⟩
    · have nb : ¬ Byt σ0 t p' = 60 ∧ ¬ Byt σ0 t p' = 61 ∧ ¬ Byt σ0 t p' = 62 := ⟨fun e => hb ((lv_iff _).2.2.1.mpr (Or.inl e)), fun e => hb ((lv_iff _).2.2.1.mpr (Or.inr (Or.inl e))), fun e => hb ((lv_iff _).2.2.1.mpr (Or.inr (Or.inr e)))⟩
      rw [if_neg hb, if_neg nb.1, if_neg nb.2.1, if_neg nb.2.2]
      exact Or.inl ⟨p', c', σ1, τ1, rfl, rfl, w3, w4, w5⟩
  · have h15 := w3.2.2.2.2.2.1
    obtain ⟨v, hv⟩ : ∃ v, f_X10_look τ1 = some (v, τ1) := by
      obtain ⟨h1, h2, h3, h4, h5, h6, h7⟩ := w3
      have ep : (nI p').toInt = (p' : Int) := i_nI (by omega)
      have t82 : (82 : Int32).toInt = 82 := rfl
      have e82 : ((82 : Int32) + nI p').toInt = ((82 + p' : Nat) : Int) := by rw [i_add (by rw [ep, t82]; omega) (by rw [ep, t82]; omega), ep, t82]; omega
      unfold f_X10_look
      rw [ck_5, rd_5, h4]
      by_cases q : τ1 1 5 ≤ nI p'
      · rw [if_pos q]; exact ⟨_, rfl⟩
      · rw [if_neg q, ck_k e82 (by omega)]; exact ⟨_, rfl⟩
    rw [w1, w2, bnd_s, bnd_s, if_pos rfl, hv, bnd_s, h15, if_neg (show ¬ (1 : Int32) = 0 by decide)]
    exact Or.inr ⟨p', σ1, τ1, rfl, rfl, w3⟩
theorem l5_spec {σ0 τ0 : Sg} {t u o : Nat} (g1 : Int32 → Int32 → Sg → Option (Int32 × Sg)) (g2 g3 g4 : Int32 → Sg → Option (Int32 × Sg)) {Gm : Sg → Option (Unit × Sg)} (hop : Sp σ0 τ0 t u o (g2 (nI o)) Gm) : Sp σ0 τ0 t u o (f_X4_readsLevel_e g1 g2 g3 g4 (nI 5) (nI o)) Gm := by
  intro p c δ σ τ h
  unfold f_X4_readsLevel_e
  rw [if_neg (show ¬ nI 5 < (5 : Int32) by decide)]
  rcases hop _ _ _ _ _ h with ⟨p', c', σ1, τ1, w1, w2, w3⟩ | ⟨p', σ1, τ1, w1, w2, w3⟩
  · rw [w1, bnd_s, ckb_t (show isb (1 : Int32) = true from rfl)]
    exact Or.inl ⟨p', c', σ1, τ1, rfl, w2, w3⟩
  · rw [w1, bnd_s, ckb_t (show isb (0 : Int32) = true from rfl)]
    exact Or.inr ⟨p', σ1, τ1, rfl, w2, w3⟩
theorem chain {σ0 τ0 : Sg} {t u o : Nat} (b : BS σ0 τ0 t u) (ho : o ≤ 5) (dX dM : Nat) (hQ : Sp σ0 τ0 t u o ((G_X4_readsLevel dX).2.1 (nI o)) (G_X10_any dM).2.2.2.2.2.1) : Sp σ0 τ0 t u o ((G_X4_readsLevel (dX + 6)).1 (0 : Int32) (nI o)) (G_X10_any (dM + 5)).1 := by
  have s5 : Sp σ0 τ0 t u o ((G_X4_readsLevel (dX + 1)).1 (nI 5) (nI o)) (G_X10_any dM).2.2.2.2.2.1 := l5_spec (G_X4_readsLevel (dX)).1 (G_X4_readsLevel (dX)).2.1 (G_X4_readsLevel (dX)).2.2.1 (G_X4_readsLevel (dX)).2.2.2 hQ
  have s4 : Sp σ0 τ0 t u o ((G_X4_readsLevel (dX + 2)).1 (nI 4) (nI o)) (G_X10_any (dM + 1)).2.2.2.2.1 := lev_spec b (by decide) (by decide) ho (G_X4_readsLevel (dX + 1)).1 (G_X4_readsLevel (dX + 1)).2.1 (G_X4_readsLevel (dX + 1)).2.2.1 (G_X4_readsLevel (dX + 1)).2.2.2 s5 _ (times_lm (G_X10_any (dM)).1 (G_X10_any (dM)).2.1 (G_X10_any (dM)).2.2.1 (G_X10_any (dM)).2.2.2.1 (G_X10_any (dM)).2.2.2.2.1 (G_X10_any (dM)).2.2.2.2.2.1 (G_X10_any (dM)).2.2.2.2.2.2).1 (times_lm (G_X10_any (dM)).1 (G_X10_any (dM)).2.1 (G_X10_any (dM)).2.2.1 (G_X10_any (dM)).2.2.2.1 (G_X10_any (dM)).2.2.2.2.1 (G_X10_any (dM)).2.2.2.2.2.1 (G_X10_any (dM)).2.2.2.2.2.2).2
  have s3 : Sp σ0 τ0 t u o ((G_X4_readsLevel (dX + 3)).1 (nI 3) (nI o)) (G_X10_any (dM + 2)).2.2.2.1 := lev_spec b (by decide) (by decide) ho (G_X4_readsLevel (dX + 2)).1 (G_X4_readsLevel (dX + 2)).2.1 (G_X4_readsLevel (dX + 2)).2.2.1 (G_X4_readsLevel (dX + 2)).2.2.2 s4 _ (sum_lm (G_X10_any (dM + 1)).1 (G_X10_any (dM + 1)).2.1 (G_X10_any (dM + 1)).2.2.1 (G_X10_any (dM + 1)).2.2.2.1 (G_X10_any (dM + 1)).2.2.2.2.1 (G_X10_any (dM + 1)).2.2.2.2.2.1 (G_X10_any (dM + 1)).2.2.2.2.2.2).1 (sum_lm (G_X10_any (dM + 1)).1 (G_X10_any (dM + 1)).2.1 (G_X10_any (dM + 1)).2.2.1 (G_X10_any (dM + 1)).2.2.2.1 (G_X10_any (dM + 1)).2.2.2.2.1 (G_X10_any (dM + 1)).2.2.2.2.2.1 (G_X10_any (dM + 1)).2.2.2.2.2.2).2
  have s2 : Sp σ0 τ0 t u o ((G_X4_readsLevel (dX + 4)).1 (nI 2) (nI o)) (G_X10_any (dM + 3)).2.2.1 := cmp_spec b (G_X4_readsLevel (dX + 3)).1 (G_X4_readsLevel (dX + 3)).2.1 (G_X4_readsLevel (dX + 3)).2.2.1 (G_X4_readsLevel (dX + 3)).2.2.2 (G_X10_any (dM + 2)).1 (G_X10_any (dM + 2)).2.1 (G_X10_any (dM + 2)).2.2.1 (G_X10_any (dM + 2)).2.2.2.1 (G_X10_any (dM + 2)).2.2.2.2.1 (G_X10_any (dM + 2)).2.2.2.2.2.1 (G_X10_any (dM + 2)).2.2.2.2.2.2 s3
  have s1 : Sp σ0 τ0 t u o ((G_X4_readsLevel (dX + 5)).1 (nI 1) (nI o)) (G_X10_any (dM + 4)).2.1 := lev_spec b (by decide) (by decide) ho (G_X4_readsLevel (dX + 4)).1 (G_X4_readsLevel (dX + 4)).2.1 (G_X4_readsLevel (dX + 4)).2.2.1 (G_X4_readsLevel (dX + 4)).2.2.2 s2 _ (all_lm (G_X10_any (dM + 3)).1 (G_X10_any (dM + 3)).2.1 (G_X10_any (dM + 3)).2.2.1 (G_X10_any (dM + 3)).2.2.2.1 (G_X10_any (dM + 3)).2.2.2.2.1 (G_X10_any (dM + 3)).2.2.2.2.2.1 (G_X10_any (dM + 3)).2.2.2.2.2.2).1 (all_lm (G_X10_any (dM + 3)).1 (G_X10_any (dM + 3)).2.1 (G_X10_any (dM + 3)).2.2.1 (G_X10_any (dM + 3)).2.2.2.1 (G_X10_any (dM + 3)).2.2.2.2.1 (G_X10_any (dM + 3)).2.2.2.2.2.1 (G_X10_any (dM + 3)).2.2.2.2.2.2).2
  exact lev_spec b (l := 0) (by decide) (by decide) ho (G_X4_readsLevel (dX + 5)).1 (G_X4_readsLevel (dX + 5)).2.1 (G_X4_readsLevel (dX + 5)).2.2.1 (G_X4_readsLevel (dX + 5)).2.2.2 s1 _ (any_lm (G_X10_any (dM + 4)).1 (G_X10_any (dM + 4)).2.1 (G_X10_any (dM + 4)).2.2.1 (G_X10_any (dM + 4)).2.2.2.1 (G_X10_any (dM + 4)).2.2.2.2.1 (G_X10_any (dM + 4)).2.2.2.2.2.1 (G_X10_any (dM + 4)).2.2.2.2.2.2).1 (any_lm (G_X10_any (dM + 4)).1 (G_X10_any (dM + 4)).2.1 (G_X10_any (dM + 4)).2.2.1 (G_X10_any (dM + 4)).2.2.2.1 (G_X10_any (dM + 4)).2.2.2.2.1 (G_X10_any (dM + 4)).2.2.2.2.2.1 (G_X10_any (dM + 4)).2.2.2.2.2.2).2
theorem q_all {σ0 τ0 : Sg} {t u : Nat} (b : BS σ0 τ0 t u) : ∀ (r o eX eM : Nat), o + r = 5 → Sp σ0 τ0 t u o ((G_X4_readsLevel (8 * r + 2 + eX)).2.1 (nI o)) (G_X10_any (7 * r + 2 + eM)).2.2.2.2.2.1 := by
  intro r
  induction r with
  | zero =>
    intro o eX eM ho
    have := q_spec b (show o ≤ 5 by omega) eX eM (fun h => absurd h (by omega)) (fun h => absurd h (by omega))
    rw [show 8 * 0 + 2 + eX = eX + 2 by omega, show 7 * 0 + 2 + eM = eM + 2 by omega]
    exact this
  | succ r ih =>
    intro o eX eM ho
    have h1 := ih (o + 1) (6 + eX) (5 + eM) (by omega)
    have h2 := chain b (show o + 1 ≤ 5 by omega) _ _ (ih (o + 1) eX eM (by omega))
    rw [show 8 * r + 2 + (6 + eX) = 8 * r + 8 + eX by omega, show 7 * r + 2 + (5 + eM) = 7 * r + 7 + eM by omega] at h1
    rw [show 8 * r + 2 + eX + 6 = 8 * r + 8 + eX by omega, show 7 * r + 2 + eM + 5 = 7 * r + 7 + eM by omega] at h2
    have := q_spec b (show o ≤ 5 by omega) (8 * r + 8 + eX) (7 * r + 7 + eM) (fun _ => h1) (fun _ => h2)
    rw [show 8 * (r + 1) + 2 + eX = 8 * r + 8 + eX + 2 by omega, show 7 * (r + 1) + 2 + eM = 7 * r + 7 + eM + 2 by omega]
    exact this
theorem text_spec {σ0 τ0 : Sg} {t u : Nat} (b : BS σ0 τ0 t u) : Sp σ0 τ0 t u 0 (f_X4_readsLevel (0 : Int32) (0 : Int32)) f_X10_any := by
  have h := chain b (show 0 ≤ 5 by omega) _ _ (q_all b 5 0 16 22 (by omega))
  rw [nI_0] at h
  exact h
