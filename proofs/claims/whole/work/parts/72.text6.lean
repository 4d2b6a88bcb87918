theorem Sim.untape {σ τ : Sg} (h : Sim σ τ) : Sim (up σ 44 1 0) (up τ 1 5 0) := by
  obtain ⟨a1, a2, ⟨n, hn, e1, e2, a3⟩, a4, a5, a6, a7⟩ := h.1
  refine h.bd ?_ (eqX1.up rfl) eqM1.up
  refine Bd1.of (ln := fun l => σ (20 + l)) (th := fun u => σ (40 + u) 0) (cn := fun u => σ (48 + u) 1) (cs := fun u => σ (66 + u)) ?_ (fun l hl => by rw [up_row (by omega)]) (fun u hu => by rw [up_k (by omega)]) (fun u hu => by rw [up_k (by omega)]) (fun u hu => by rw [up_row (by omega)])
  simp (disch := omega) only [up_row, up_rs]
  refine ⟨Hd_r a1 (by omega), Ik_r a2 (by omega), ⟨n, hn, e1, ?_, Lns_r a3 (by omega)⟩, a4, ⟨0, by omega, ?_, ?_, fun j hj => absurd hj (by omega)⟩, Sq_r (c0 := 6) (o := 142) a6 (by omega) (by omega), fun u hu => Cd_r (a7 u hu) (by omega)⟩
  · rw [upd_n (by omega)]; exact e2
  · rw [upd_e]; rfl
  · rw [upd_e]; rfl
theorem Sim.law {σ τ σ' τ' : Sg} (h : Sim σ τ) {u c : Nat} (hu : u < 2) (hc : c ≤ 60) (c0 : 0 < c) (ex : ∀ k, k ≠ 40 + u → k ≠ 48 + u → k ≠ 66 + u → σ' k = σ k) (em : ∀ k, k ≠ 1 → τ' k = τ k) (er : ∀ j, (j < 166 + 121 * u ∨ 166 + 121 * u + 121 ≤ j) → τ' 1 j = τ 1 j) (x0 : σ' (40 + u) 0 = 1) (x1 : σ' (48 + u) 1 = nI c) (m0 : τ' 1 (166 + 121 * u) = nI c) (cod : Cod c (σ' (66 + u)) (fun j => τ' 1 (167 + 121 * u + j)) (fun j => τ' 1 (227 + 121 * u + j))) : Sim σ' τ' := by
  obtain ⟨a1, a2, ⟨n, hn, e1, e2, a3⟩, a4, a5, a6, a7⟩ := h.1
  have i1 : ∀ u, u < 2 → inB1 (40 + u) = true ∧ inB1 (48 + u) = true ∧ inB1 (66 + u) = true := by decide +kernel
  obtain ⟨j1, j2, j3⟩ := i1 u hu
  refine h.bd ?_ (fun k _ hk => ex k (fun e => by subst e; rw [j1] at hk; cases hk) (fun e => by subst e; rw [j2] at hk; cases hk) (fun e => by subst e; rw [j3] at hk; cases hk)) ⟨em 2 (by decide), em 4 (by decide), em 5 (by decide), em 6 (by decide), em 7 (by decide), em 13 (by decide), by rw [em 0 (by decide)], by rw [em 0 (by decide)]⟩
  unfold Bd1
  rw [ex 1 (by omega) (by omega) (by omega), ex 16 (by omega) (by omega) (by omega), ex 44 (by omega) (by omega) (by omega), ex 62 (by omega) (by omega) (by omega), ex 46 (by omega) (by omega) (by omega), ex 64 (by omega) (by omega) (by omega)]
  refine ⟨?_, fun p hp => by rw [er (7 + p) (by omega)]; exact a2 p hp, ⟨n, hn, e1, by rw [er 2 (by omega)]; exact e2, fun l hl => ?_⟩, fun l hl => ?_, ?_, ?_, fun v hv => ?_⟩
  · unfold Hd at a1 ⊢
    rw [er 0 (by omega), er 3 (by omega), er 4 (by omega), er 1 (by omega)]
    exact a1
  · show LnOK (σ' (20 + l)) (σ 1 2) ∧ ∀ f, f < 7 → τ' 1 (12 + 7 * l + f) = σ' (20 + l) f
    rw [ex (20 + l) (by omega) (by omega) (by omega)]
    exact ⟨(a3 l hl).1, fun f hf => by rw [er _ (by omega)]; exact (a3 l hl).2 f hf⟩
  · show σ' (20 + l) 6 = 0 ∨ σ' (20 + l) 6 = 1
    rw [ex (20 + l) (by omega) (by omega) (by omega)]; exact a4 l hl
  · obtain ⟨t, ht, q1, q2, q3⟩ := a5
    exact ⟨t, ht, q1, (er 5 (by omega)).trans q2, fun j hj => (er (82 + j) (by omega)).trans (q3 j hj)⟩
  · obtain ⟨t, ht, q1, q2, q3⟩ := a6
    exact ⟨t, ht, q1, (er 6 (by omega)).trans q2, fun j hj => (er (142 + j) (by omega)).trans (q3 j hj)⟩
  · show Cd (σ' (40 + v) 0) (σ' (48 + v) 1) (σ' (66 + v)) _
    by_cases e : v = u
    · subst e
      have f1 : (fun j => (fun j => τ' 1 (166 + 121 * v + j)) (1 + j)) = fun j => τ' 1 (167 + 121 * v + j) := funext fun j => congrArg (τ' 1) (by omega)
      have f2 : (fun j => (fun j => τ' 1 (166 + 121 * v + j)) (61 + j)) = fun j => τ' 1 (227 + 121 * v + j) := funext fun j => congrArg (τ' 1) (by omega)
      refine ⟨c, hc, x1, Or.inr ⟨x0, c0, m0, ?_⟩⟩
      rw [f1, f2]; exact cod
    · rw [ex (40 + v) (by omega) (by omega) (by omega), ex (48 + v) (by omega) (by omega) (by omega), ex (66 + v) (by omega) (by omega) (by omega)]
      obtain ⟨c', hc', y1, y2⟩ := a7 v hv
      refine ⟨c', hc', y1, ?_⟩
      have r : ∀ j, j ≤ 120 → τ' 1 (166 + 121 * v + j) = τ 1 (166 + 121 * v + j) := fun j hj => er _ (by omega)
      rcases y2 with ⟨z1, z2⟩ | ⟨z1, z2, z3, z4⟩
      · exact Or.inl ⟨z1, by show τ' 1 (166 + 121 * v + 0) = 0; rw [r 0 (by omega)]; exact z2⟩
      · refine Or.inr ⟨z1, z2, by show τ' 1 (166 + 121 * v + 0) = nI c'; rw [r 0 (by omega)]; exact z3, Cod_congr z4 (fun j _ => rfl) (fun j hj => r (1 + j) (by omega)) (fun j hj => r (61 + j) (by omega))⟩
theorem m_t117 {u c : Nat} (hu : u < 2) (hc : c ≤ 60) {bI : Int32} (eb : bI.toInt = ((166 + 121 * u : Nat) : Int)) : ∀ (d k n : Nat) (τ : Sg), k + d = c → d < n → τ 0 12 = nI c → ∃ τ', f_X10_text_117 n bI (nI k) τ = some (1, τ') ∧ (∀ r, r ≠ 1 → τ' r = τ r) ∧ (∀ j, (j < 167 + 121 * u ∨ 287 + 121 * u ≤ j) → τ' 1 j = τ 1 j) ∧ (∀ j, k ≤ j → j < c → τ' 1 (167 + 121 * u + j) = τ 8 j ∧ τ' 1 (227 + 121 * u + j) = τ 9 j) ∧ ∀ j, j < k → τ' 1 (167 + 121 * u + j) = τ 1 (167 + 121 * u + j) ∧ τ' 1 (227 + 121 * u + j) = τ 1 (227 + 121 * u + j) := by
  intro d
  induction d with
  | zero =>
    intro k n τ hk hn e
    obtain ⟨n, rfl⟩ : ∃ j, n = j + 1 := ⟨n - 1, by omega⟩
    obtain rfl : k = c := by omega
    refine ⟨τ, ?_, fun _ _ => rfl, fun _ _ => rfl, fun j a b => absurd b (by omega), fun _ _ => ⟨rfl, rfl⟩⟩
    rw [f_X10_text_117]
    unfold f_X10_text_117_b
    rw [e, if_pos (nI_le (Nat.le_refl _) (by omega))]
  | succ d ih =>
    intro k n τ hk hn e
    obtain ⟨n, rfl⟩ : ∃ j, n = j + 1 := ⟨n - 1, by omega⟩
    have ek : (nI k).toInt = (k : Int) := i_nI (by omega)
    have f1 := m_e1 (j := k) (k := 1) hu (by omega) eb ti_1 (by omega)
    have f61 := m_e1 (j := k) (k := 61) hu (by omega) eb ti_61 (by omega)
    have g1 : (bI + (1 : Int32) + nI k).toInt = ((167 + 121 * u + k : Nat) : Int) := by rw [f1]; congr 1; omega
    have g61 : (bI + (61 : Int32) + nI k).toInt = ((227 + 121 * u + k : Nat) : Int) := by rw [f61]; congr 1; omega
    obtain ⟨τ', w1, w2, w3, w4, w5⟩ := ih (k + 1) n (up (up τ 1 (167 + 121 * u + k) (τ 8 k)) 1 (227 + 121 * u + k) (τ 9 k)) (by omega) (by omega) (by rw [up_k (by decide), up_k (by decide)]; exact e)
    refine ⟨τ', ?_, fun r hr => by rw [w2 r hr, up_row hr, up_row hr], fun j hj => by rw [w3 j hj, up_i (by omega), up_i (by omega)], fun j a b => ?_, fun j a => ?_⟩
    · rw [f_X10_text_117]
      unfold f_X10_text_117_b
      rw [e, if_neg (nI_ge (show k < c by omega) (by omega)), ck_k ek (by omega), ck_k g1 (by omega), tn_k g1, rd_k ek, lt_a, ck_k ek (by omega), ck_k g61 (by omega), tn_k g61, rd_k ek, up_row (show 9 ≠ 1 by decide), lt_a, lt_a, nI_1]
      exact w1
    · by_cases q : j = k
      · subst q
        obtain ⟨x1, x2⟩ := w5 j (by omega)
        rw [x1, x2, up_i (by omega), up_s, up_s]
        exact ⟨rfl, rfl⟩
      · obtain ⟨x1, x2⟩ := w4 j (by omega) b
        rw [x1, x2, up_row (by decide), up_row (by decide), up_row (by decide), up_row (by decide)]
        exact ⟨rfl, rfl⟩
    · obtain ⟨x1, x2⟩ := w5 j (by omega)
      rw [x1, x2, up_i (by omega), up_i (by omega), up_i (by omega), up_i (by omega)]
      exact ⟨rfl, rfl⟩
theorem fr_sim {σ τ σ0 τ0 σ' τ' : Sg} (h : Sim σ τ) (e0 : ∀ k, k ≠ 3 → k ≠ 56 → σ0 k = σ k) (m0 : (∀ k, k ≠ 0 → τ0 k = τ k) ∧ ∀ j, (j < 12 ∨ 16 < j) → τ0 0 j = τ 0 j) (fx : FrX σ0 σ') (fm : FrM τ0 τ') : Sim σ' τ' := by
  refine Sim_eq h (fun k hk => ?_) ?_
  · have n1 : k ≠ 3 ∧ k ≠ 56 ∧ k ≠ 74 := ⟨fun e => by subst e; exact absurd hk (by decide), fun e => by subst e; exact absurd hk (by decide), fun e => by subst e; exact absurd hk (by decide)⟩
    rw [fx k n1.1 n1.2.1 n1.2.2, e0 k n1.1 n1.2.1]
  · have r : ∀ k, k ≠ 0 → k ≠ 8 → k ≠ 9 → τ' k = τ k := fun k a b c => (fm.1 k a b c).trans (m0.1 k a)
    exact ⟨r 1 (by decide) (by decide) (by decide), r 2 (by decide) (by decide) (by decide), r 4 (by decide) (by decide) (by decide), r 5 (by decide) (by decide) (by decide), r 6 (by decide) (by decide) (by decide), r 7 (by decide) (by decide) (by decide), r 13 (by decide) (by decide) (by decide), (fm.2 3 (by omega)).trans (m0.2 3 (by omega)), (fm.2 19 (by omega)).trans (m0.2 19 (by omega))⟩
theorem eq_text {σ τ : Sg} (h : Sim σ τ) (a : Int32) : Ok (f_X9_text a σ) (f_X10_text a τ) := by
  unfold f_X9_text f_X10_text
  simp only [x_isIn, m_in, x_err1, m_err1, bnd_s, if01]
  by_cases ha : 0 ≤ a ∧ a ≤ 1
  · rw [if_pos ha, if_pos ha]
    simp only [i_le, ti_0, ti_1] at ha
    obtain ⟨u, hu, rfl⟩ := nI_ofi (a := a) (n := 2) ha.1 (by omega)
    have eu : (nI u).toInt = (u : Int) := i_nI (by omega)
    obtain ⟨b1, b2, b3, b4, ⟨t, ht, t1, t2, t3⟩, b6, b7⟩ := h.1
    have e0 : ∀ k, k ≠ 3 → k ≠ 56 → up (up (up (up σ 3 1 (Int32.ofNat 44)) 3 2 (nI u)) 3 3 0) 56 1 0 k = σ k := fun k p q => by rw [up_row q, up_row p, up_row p, up_row p]
    have m0 : (∀ k, k ≠ 0 → up (up (up (up (up τ 0 16 (nI u)) 0 12 0) 0 13 0) 0 14 0) 0 15 0 k = τ k) ∧ ∀ j, (j < 12 ∨ 16 < j) → up (up (up (up (up τ 0 16 (nI u)) 0 12 0) 0 13 0) 0 14 0) 0 15 0 0 j = τ 0 j := ⟨fun k p => by rw [up_row p, up_row p, up_row p, up_row p, up_row p], fun j hj => by rw [up_i (by omega), up_i (by omega), up_i (by omega), up_i (by omega), up_i (by omega)]⟩
    have bs : BS (up (up (up (up σ 3 1 (Int32.ofNat 44)) 3 2 (nI u)) 3 3 0) 56 1 0) (up (up (up (up (up τ 0 16 (nI u)) 0 12 0) 0 13 0) 0 14 0) 0 15 0) t u := by
      refine ⟨ht, hu, by rw [e0 44 (by decide) (by decide)]; exact t1, by rw [m0.1 1 (by decide)]; exact t2, fun j hj => by rw [m0.1 1 (by decide), e0 62 (by decide) (by decide)]; exact t3 j hj, ?_⟩
      rw [up_i (by decide), up_i (by decide), up_i (by decide), up_i (by decide), up_s]
    have pr0 : PR (up (up (up (up σ 3 1 (Int32.ofNat 44)) 3 2 (nI u)) 3 3 0) 56 1 0) (up (up (up (up (up τ 0 16 (nI u)) 0 12 0) 0 13 0) 0 14 0) 0 15 0) t u 0 0 0 0 (up (up (up (up σ 3 1 (Int32.ofNat 44)) 3 2 (nI u)) 3 3 0) 56 1 0) (up (up (up (up (up τ 0 16 (nI u)) 0 12 0) 0 13 0) 0 14 0) 0 15 0) := by
      refine ⟨fun _ _ _ _ => rfl, ⟨fun _ _ _ _ => rfl, fun _ _ => rfl⟩, ?_, ?_, ?_, ?_, by omega, ?_, ?_, by omega, ?_, ?_, fun j hj => absurd hj (by omega), rfl, by omega⟩
      · rw [up_k (by decide), up_i (by decide), up_i (by decide), up_s]; rfl
      · rw [up_k (by decide), up_i (by decide), up_s]
      · rw [up_k (by decide), up_s]; rfl
      · rw [up_i (by decide), up_i (by decide), up_s]; rfl
      · rw [up_s]; rfl
      · rw [up_i (by decide), up_i (by decide), up_i (by decide), up_s]; rfl
      · rw [up_i (by decide), up_s]; rfl
      · rw [up_s]
    unfold f_X4_reads f_X6_clear
    simp only [lt_a, bnd_s]
    generalize up (up (up (up σ 3 1 (Int32.ofNat 44)) 3 2 (nI u)) 3 3 0) 56 1 0 = σ0 at *
    generalize up (up (up (up (up τ 0 16 (nI u)) 0 12 0) 0 13 0) 0 14 0) 0 15 0 = τ0 at *
    have rej : ∀ p σ' τ', FrX σ0 σ' ∧ FrM τ0 τ' ∧ σ' 3 3 = nI p ∧ τ' 0 13 = nI p → Ok (some ((-10 : Int32) - up σ' 44 1 0 3 3, up σ' 44 1 0)) (f_X10_text_71 (nI u) (1 : Int32) τ') := by
      rintro p σ' τ' ⟨f1, f2, f3, f4⟩
      unfold f_X10_text_71
      rw [ckb_t (show isb (1 : Int32) = true from rfl), lt_a, ck_5, tn_5, lt_a, up_k (by decide), f3, up_k (by decide), up_s, if_neg (show ¬ (1 : Int32) = 0 by decide), up_k (by decide), up_i (by decide), f4]
      refine Ok.mk (Sim.untape ?_)
      refine fr_sim h e0 m0 f1 ⟨fun k p1 p2 p3 => by rw [up_row p1]; exact f2.1 k p1 p2 p3, fun j hj => by rw [up_i (by omega)]; exact f2.2 j hj⟩
    rcases text_spec bs 0 0 0 _ _ pr0 with ⟨p', c', σ', τ', w1, w2, w3, w4, w5⟩ | ⟨p', σ', τ', w1, w2, w3⟩
    · obtain ⟨h1, h2, h3, h4, h5, h6, h7, h8, h9, h10, h11, h12, h13, h14, h15⟩ := w3
      have s44 : σ' 44 1 = nI t := by rw [h1 44 (by decide) (by decide) (by decide)]; exact bs.2.2.1
      have r5 : τ' 1 5 = nI t := by rw [h2.1 1 (by decide) (by decide) (by decide)]; exact bs.2.2.2.1
      rw [w1, w2, bnd_s, bnd_s, if_neg (show ¬ (1 : Int32) = 0 by decide), h12, if_pos rfl, ck_5, rd_5, r5, h5, s44, h6]
      by_cases q : p' = t
      · subst q
        rw [if_pos rfl, bnd_s, if_neg (show ¬ (1 : Int32) = 0 by decide), if_pos (nI_le (Nat.le_refl _) (by omega)), ck_k eu hu, tn_k eu]
        have c0 : 0 < c' := by
          rcases Nat.eq_zero_or_pos c' with z | z
          · subst z; rw [dp] at h14; omega
          · exact z
        have e121 : ((121 : Int32) * nI u).toInt = 121 * (u : Int) := by
          have q : (121 : Int32).toInt = 121 := rfl
          rw [i_mul (by rw [eu, q]; omega) (by rw [eu, q]; omega), eu, q]
        have eb : ((166 : Int32) + ((121 : Int32) * nI u)).toInt = ((166 + 121 * u : Nat) : Int) := by rw [i_add (by rw [e121, ti_166]; omega) (by rw [e121, ti_166]; omega), e121, ti_166]; omega
        have k60 : capC (48 + u + 18) = 60 := cap_cd hu
        obtain ⟨σ2, x1, x2, x3, x4⟩ := x_rowcopy (o0 := 48 + u) (o1 := 56) (by omega) (by omega) (by omega) (by omega) (by omega) (t := c') (by omega) (by show c' ≤ 60; omega) (up σ' 44 1 0) (by rw [up_k (by decide)]; exact h8)
        unfold f_X1_take f_X10_text_71
        rw [show 40 + u + 8 = 48 + u by omega, x1, bnd_s, lt_a, bnd_s, ckb_t (show isb (0 : Int32) = true from rfl), lt_a, up_same h12, ck_5, tn_5, lt_a, up_k (by decide), h12, if_pos rfl, lt_a, ck_k eb (by omega), tn_k eb, lt_a, up_k (by decide), h9]
        obtain ⟨τ2, y1, y2, y3, y4, y5⟩ := m_t117 hu (show c' ≤ 60 by omega) eb c' 0 fuN (up (up τ' 1 5 0) 1 (166 + 121 * u) (nI c')) (by omega) (by have := fu_le; omega) (by rw [up_k (by decide), up_k (by decide)]; exact h9)
        rw [nI_0] at y1
        rw [y1]
        have s1 : Sim (up σ' 44 1 0) (up τ' 1 5 0) := Sim.untape (fr_sim h e0 m0 h1 h2)
        refine Ok.mk (s1.law hu (show c' ≤ 60 by omega) c0 (fun k p q r => by rw [up_row p, x2 k q (by omega)]) (fun k p => by rw [y2 k p, up_row p]) (fun j hj => by rw [y3 j (by omega), up_i (by omega)]) up_s (by rw [up_k (by omega)]; exact x3) (by rw [y3 _ (by omega), up_s]) ?_)
        have cod : Cod c' (σ' 74) (τ' 8) (τ' 9) := ⟨h13, h14⟩
        refine Cod_congr cod (fun j hj => ?_) (fun j hj => ?_) (fun j hj => ?_)
        · rw [up_row (by omega), show 66 + u = 48 + u + 18 by omega, x4 j hj, up_row (by decide)]
        · have := (y4 j (by omega) hj).1
          rw [up_row (by decide), up_row (by decide)] at this
          exact this
        · have := (y4 j (by omega) hj).2
          rw [up_row (by decide), up_row (by decide)] at this
          exact this
      · have nt : ¬ nI p' = nI t := fun e => q (m_same_n (by omega) (by omega) e)
        rw [if_neg nt, bnd_s, if_pos rfl, if_neg (nI_ge (by omega) (by omega))]
        exact rej p' σ' τ' ⟨h1, h2, h5, h6⟩
    · rw [w1, w2, bnd_s, bnd_s, if_pos rfl, bnd_s, if_pos rfl, w3.2.2.2.2.2.1, if_neg (show ¬ (1 : Int32) = 0 by decide)]
      exact rej p' σ' τ' ⟨w3.1, w3.2.1, w3.2.2.1, w3.2.2.2.1⟩
  · rw [if_neg ha, if_neg ha]
    exact Ok.err h 1 (by decide)
