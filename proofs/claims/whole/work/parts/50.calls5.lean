theorem LnOK_day {f : Nat → Int32} {d d' : Int32} (h : LnOK f d) (hd : d.toInt ≤ d'.toInt) : LnOK f d' := by
  obtain ⟨h1, h2, h3, h4, ⟨h5, h6⟩, h7⟩ := h
  exact ⟨h1, h2, h3, h4, ⟨h5, by omega⟩, h7⟩
theorem Sim.hi {σ τ σ' τ' : Sg} (h : Sim σ τ) (ex : ∀ k, k ≠ 1 → k ≠ 16 → σ' k = σ k) (em : ∀ k, k ≠ 1 → τ' k = τ k) (e1 : σ' 1 1 = σ 1 1) (er : ∀ j, (12 ≤ j ∨ j = 2 ∨ j = 5 ∨ j = 6) → τ' 1 j = τ 1 j) (hd : Hd (σ' 1) (τ' 1)) (ik : Ik (σ' 16) (τ' 1)) (dm : (σ 1 2).toInt ≤ (σ' 1 2).toInt) : Sim σ' τ' := by
  obtain ⟨a1, a2, ⟨n, hn, q1, q2, a3⟩, a4, a5, a6, a7⟩ := h.1
  refine h.bd ?_ (fun k _ hk => ex k (fun e => by subst e; exact absurd hk (by decide)) (fun e => by subst e; exact absurd hk (by decide))) ⟨em 2 (by decide), em 4 (by decide), em 5 (by decide), em 6 (by decide), em 7 (by decide), em 13 (by decide), by rw [em 0 (by decide)], by rw [em 0 (by decide)]⟩
  refine Bd1.of (ln := fun l => σ (20 + l)) (th := fun u => σ (40 + u) 0) (cn := fun u => σ (48 + u) 1) (cs := fun u => σ (66 + u)) ?_ (fun l hl => ex _ (by omega) (by omega)) (fun u hu => by rw [ex _ (by omega) (by omega)]) (fun u hu => by rw [ex _ (by omega) (by omega)]) (fun u hu => by rw [ex _ (by omega) (by omega)])
  rw [ex 44 (by decide) (by decide), ex 62 (by decide) (by decide), ex 46 (by decide) (by decide), ex 64 (by decide) (by decide)]
  refine ⟨hd, ik, ⟨n, hn, e1.trans q1, (er 2 (by omega)).trans q2, fun l hl => ⟨LnOK_day (a3 l hl).1 dm, fun f hf => (er _ (by omega)).trans ((a3 l hl).2 f hf)⟩⟩, a4, ?_, ?_, fun u hu => ?_⟩
  · rw [er 5 (by omega), show (fun j => τ' 1 (82 + j)) = fun j => τ 1 (82 + j) from funext fun j => er _ (by omega)]; exact a5
  · rw [er 6 (by omega), show (fun j => τ' 1 (142 + j)) = fun j => τ 1 (142 + j) from funext fun j => er _ (by omega)]; exact a6
  · rw [show (fun j => τ' 1 (166 + 121 * u + j)) = fun j => τ 1 (166 + 121 * u + j) from funext fun j => er _ (by omega)]; exact a7 u hu
theorem eq_lineIs {σ τ : Sg} (h : Sim σ τ) (a b : Int32) : Ok (f_X9_lineIs a b σ) (f_X10_lineIs a b τ) := by
  obtain ⟨n, hv⟩ := h.vw
  obtain ⟨n10, e1, e2, d0, dd, sp, a3, a4, a7⟩ := id hv
  unfold f_X9_lineIs f_X10_lineIs
  simp only [x_hasLine e1, m_isLine e2 n10, x_err1, m_err1, m_in, bnd_s, if01]
  by_cases c1 : 0 ≤ a ∧ a < nI n
  · rw [if_pos c1, if_pos c1]
    have en : (nI n).toInt = (n : Int) := i_nI (by omega)
    simp only [i_le, i_lt, en, ti_0] at c1
    obtain ⟨l, hl, rfl⟩ := nI_ofi (a := a) (n := n) c1.1 (by omega)
    have el : (nI l).toInt = (l : Int) := i_nI (by omega)
    rw [ck_k el (by omega), tn_k el, lt_a]
    have k2 := (a3 l hl).2
    by_cases c2 : 0 ≤ b ∧ b ≤ 9
    · rw [if_pos c2]
      simp only [i_le, ti_0, ti_9] at c2
      obtain ⟨k, hk, rfl⟩ := nI_ofi (a := b) (n := 10) c2.1 (by omega)
      have ek : (nI k).toInt = (k : Int) := i_nI (by omega)
      have c7 : (7 : Int32) ≤ nI k ↔ 7 ≤ k := by rw [i_le, ek, ti_7]; omega
      have cs : ∀ (j : Nat) (jI : Int32), jI.toInt = (j : Int) → (nI k = jI ↔ k = j) := fun j jI hj => by rw [i_eq, ek, hj]; omega
      simp only [cs 0 0 rfl, cs 1 1 rfl, cs 2 2 rfl, cs 3 3 rfl, cs 4 4 rfl, cs 5 5 rfl, cs 6 6 rfl, cs 7 7 rfl, cs 8 8 rfl, cs 9 9 rfl]
      by_cases h7 : 7 ≤ k
      · rw [if_pos (c7.mpr h7), if_neg (show ¬ k = 0 by omega), if_neg (show ¬ k = 1 by omega), if_neg (show ¬ k = 2 by omega), if_neg (show ¬ k = 3 by omega), if_neg (show ¬ k = 4 by omega), if_neg (show ¬ k = 5 by omega), if_neg (show ¬ k = 6 by omega)]
        by_cases h77 : k = 7
        · rw [if_pos h77, if_pos h77, (mayGo_eq hv hl).1, (mayGo_eq hv hl).2, bnd_s, bnd_s, if01, if01]
          by_cases g : gbI (σ (20 + l)) (σ 1 2) (σ 1 3) = 0
          · rw [if_pos g, if_pos g]; exact Ok.mk h
          · rw [if_neg g, if_neg g]; exact Ok.mk h
        · rw [if_neg h77, if_neg h77]
          by_cases h88 : k = 8
          · obtain ⟨v, v1, v2, _⟩ := back_eq hv hl
            rw [if_pos h88, if_pos h88, v1, v2, bnd_s, bnd_s]; exact Ok.mk h
          · obtain ⟨v, σ', τ', v1, v2, v3, v4, _⟩ := loss_eq hv hl
            rw [if_neg h88, if_neg h88, if_pos (show k = 9 by omega), v1, v2, bnd_s, bnd_s]
            exact Ok.mk (Sim_eq h v3 v4)
      · rw [if_neg (fun e => h7 (c7.mp e)), m_it k (by omega) ek (by omega), bnd_s, k2 k (by omega)]
        have : k = 0 ∨ k = 1 ∨ k = 2 ∨ k = 3 ∨ k = 4 ∨ k = 5 ∨ k = 6 := by omega
        rcases this with rfl | rfl | rfl | rfl | rfl | rfl | rfl
        · rw [if_pos rfl]; exact Ok.mk h
        · rw [if_neg (by decide), if_pos rfl]; exact Ok.mk h
        · rw [if_neg (by decide), if_neg (by decide), if_pos rfl]; exact Ok.mk h
        · rw [if_neg (by decide), if_neg (by decide), if_neg (by decide), if_pos rfl]; exact Ok.mk h
        · rw [if_neg (by decide), if_neg (by decide), if_neg (by decide), if_neg (by decide), if_pos rfl]; exact Ok.mk h
        · rw [if_neg (by decide), if_neg (by decide), if_neg (by decide), if_neg (by decide), if_neg (by decide), if_pos rfl]; exact Ok.mk h
        · rw [if_neg (by decide), if_neg (by decide), if_neg (by decide), if_neg (by decide), if_neg (by decide), if_neg (by decide), if_pos rfl]
          rcases a4 l (by omega) with g | g
          · rw [g, if_pos rfl]; exact Ok.mk h
          · rw [g, if_neg (by decide)]; exact Ok.mk h
    · rw [if_neg c2]
      have cs : ∀ jI : Int32, 0 ≤ jI.toInt → jI.toInt ≤ 9 → ¬ b = jI := fun jI p q e => c2 (by subst e; rw [i_le, i_le, ti_0, ti_9]; exact ⟨p, q⟩)
      rw [if_neg (cs 0 (by decide) (by decide)), if_neg (cs 1 (by decide) (by decide)), if_neg (cs 2 (by decide) (by decide)), if_neg (cs 3 (by decide) (by decide)), if_neg (cs 4 (by decide) (by decide)), if_neg (cs 5 (by decide) (by decide)), if_neg (cs 6 (by decide) (by decide)), if_neg (cs 7 (by decide) (by decide)), if_neg (cs 8 (by decide) (by decide)), if_neg (cs 9 (by decide) (by decide))]
      exact Ok.err h 1 (by decide)
  · rw [if_neg c1, if_neg c1]
    exact Ok.err h 1 (by decide)
theorem wipe_eq {σ τ : Sg} (h : Sim σ τ) {n l : Nat} (hv : Vw n (σ 1 2) σ τ) (hl : l < n) : ∃ v σ1 τ1 σ' τ', f_X0_lossOf (nI l) (σ 1 2) σ = some (v, σ1) ∧ f_X10_lossOf (nI l) τ = some (v, τ1) ∧ f_X0_wipeLine (nI l) σ = some (v, σ') ∧ f_X10_isWiped (nI l) τ = some ((), τ') ∧ Sim σ' τ' ∧ eqM τ τ1 := by
  obtain ⟨v, σ1, τ1, v1, v2, v3, v4, v5, v6⟩ := loss_eq hv hl
  obtain ⟨n10, e1, e2, d0, dd, sp, a3, a4, a7⟩ := id hv
  have el : (nI l).toInt = (l : Int) := i_nI (by omega)
  have hd := h.1.1
  have r4 : τ 1 4 = σ 1 4 := hd.2.2.2.2.2.1
  have l0 : 0 ≤ (σ 1 4).toInt := hd.2.2.2.2.2.2.1
  have l1 : (σ 1 4).toInt ≤ 99999 := hd.2.2.2.2.2.2.2.1
  have t9 : (99999 : Int32).toInt = 99999 := rfl
  have s1 := Sim_eq h v3 v4
  have r41 : τ1 1 4 = σ 1 4 := by rw [v4.1]; exact r4
  have c41 : σ1 1 4 = σ 1 4 := by rw [v3 1 rfl]
  have es : (σ 1 4 + v).toInt = (σ 1 4).toInt + v.toInt := i_add (by omega) (by omega)
  have ew : mx (0 : Int32) (mn (σ 1 4 + v) 99999) = mn (99999 : Int32) (σ 1 4 + v) := by
    rw [i_eq, i_mx, i_mn, i_mn, es, t9, ti_0]
    repeat' split
    all_goals omega
  have ew1 : 0 ≤ (mn (99999 : Int32) (σ 1 4 + v)).toInt ∧ (mn (99999 : Int32) (σ 1 4 + v)).toInt ≤ 99999 := by
    rw [i_mn, es, t9]
    split <;> omega
  have s2 : Sim (up σ1 1 4 (mn (99999 : Int32) (σ 1 4 + v))) (up τ1 1 4 (mn (99999 : Int32) (σ 1 4 + v))) := by
    have b1 := s1.1.1
    refine s1.hi (fun k q _ => up_row q) (fun k q => up_row q) (up_i (by decide)) (fun j hj => up_i (by omega)) ?_ ?_ (by rw [up_i (by decide)]; omega)
    · rw [up_rs, up_rs]
      unfold Hd at b1 ⊢
      simp (disch := omega) only [upd_n, upd_e]
      exact ⟨b1.1, b1.2.1, b1.2.2.1, b1.2.2.2.1, b1.2.2.2.2.1, trivial, ew1.1, ew1.2, b1.2.2.2.2.2.2.2.2⟩
    · rw [up_row (by decide), up_rs]; exact Ik_r s1.1.2.1 (by omega)
  generalize hW : mn (99999 : Int32) (σ 1 4 + v) = W at *
  have hv2 : Vw n (σ 1 2) σ1 τ1 := hv.eq v3 v4
  refine ⟨v, σ1, τ1, up (up σ1 (20 + l) 6 1) 1 4 W, up (up τ1 1 4 W) 1 (12 + 7 * l + 6) 1, v1, v2, ?_, ?_, ?_, v4⟩
  · unfold f_X0_wipeLine
    rw [v1, bnd_s, ck_k el (by omega), tn_k el, lt_a, lt_a, lt_a, up_k (by omega), c41, hW]
  · unfold f_X10_isWiped
    rw [ck_4, v2, bnd_s, rd_4, r4, m_held (by decide), bnd_s, ck_4, lt_a, tn_4, ew, m_lets 6 (by omega) rfl (by omega), bnd_s]
  · refine s2.line (n := n) (l := l) (by rw [up_i (by decide), v3 1 rfl]; exact e1) n10 hl (fun k hk => ?_) eqM1.up (fun j hj => up_i (by omega)) ?_ (Or.inr (by rw [up_k (by omega), up_s])) (fun f hf => ?_)
    · by_cases hk1 : k = 1
      · subst hk1; rw [up_rs, up_rs, up_row (by omega)]
      · rw [up_row hk1, up_row hk, up_row hk1]
    · rw [up_row (by omega), up_i (by decide), v3 1 rfl]
      obtain ⟨q1, q2, q3, q4, q5, q6⟩ := (hv2.2.2.2.2.2.2.1 l hl).1
      unfold LnOK
      simp (disch := decide) only [up_i]
      exact ⟨q1, q2, q3, q4, q5, q6⟩
    · by_cases hf6 : f = 6
      · subst hf6; rw [up_s, up_k (by omega), up_s]
      · rw [up_i (by omega), up_i (by omega), up_k (by omega), up_i hf6]
        exact (hv2.2.2.2.2.2.2.1 l hl).2 f hf
theorem eq_wipe {σ τ : Sg} (h : Sim σ τ) (a : Int32) : Ok (f_X9_wipe a σ) (f_X10_wipe a τ) := by
  obtain ⟨n, hv⟩ := h.vw
  obtain ⟨n10, e1, e2, d0, dd, sp, a3, a4, a7⟩ := id hv
  unfold f_X9_wipe f_X10_wipe
  simp only [x_hasLine e1, m_isLine e2 n10, x_err1, m_err1, x_err3, m_err3, bnd_s, if01]
  by_cases c1 : 0 ≤ a ∧ a < nI n
  · rw [if_pos c1, if_pos c1]
    have en : (nI n).toInt = (n : Int) := i_nI (by omega)
    simp only [i_le, i_lt, en, ti_0] at c1
    obtain ⟨l, hl, rfl⟩ := nI_ofi (a := a) (n := n) c1.1 (by omega)
    rw [(mayGo_eq hv hl).1, (mayGo_eq hv hl).2, bnd_s, bnd_s, if01, if01]
    by_cases g : gbI (σ (20 + l)) (σ 1 2) (σ 1 3) = 0
    · rw [if_pos g, if_pos g]
      obtain ⟨v, σ1, τ1, σ', τ', w1, w2, w3, w4, w5, w6⟩ := wipe_eq h hv hl
      have h' : Sim σ τ1 := Sim_eq h eqX.rf w6
      obtain ⟨v', σ1', τ1', σ'', τ'', z1, z2, z3, z4, z5, z6⟩ := wipe_eq h' (hv.eq eqX.rf w6) hl
      have hvv : v' = v := by rw [w1] at z1; cases z1; rfl
      subst hvv
      rw [z3, bnd_s, w2, bnd_s, z4, bnd_s]
      exact Ok.mk z5
    · rw [if_neg g, if_neg g]
      exact Ok.err h 3 (by decide)
  · rw [if_neg c1, if_neg c1]
    exact Ok.err h 1 (by decide)
