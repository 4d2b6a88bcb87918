theorem nm_big {u i : Nat} (hu : u < 2) (hi : i < 3) : 98 ≤ (nmU u i).toInt ∧ (nmU u i).toInt ≤ 119 := by
  have : ∀ u, u < 2 → ∀ i, i < 3 → 98 ≤ (nmU u i).toInt ∧ (nmU u i).toInt ≤ 119 := by decide +kernel
  exact this u hu i hi
theorem m_79 (g1 g2 g3 g4 g5 g6 : Sg → Option (Unit × Sg)) (g7 : Int32 → Sg → Option (Unit × Sg)) {σ0 τ0 σ τ : Sg} {t p : Nat} (h : FrX σ0 σ ∧ FrM τ0 τ ∧ σ 3 3 = nI p ∧ τ 0 13 = nI p ∧ p ≤ t ∧ ∃ c, c ≤ 60 ∧ τ 0 12 = nI c) : ∃ τ', f_X10_opens_79 g1 g2 g3 g4 g5 g6 g7 (1 : Int32) τ = some ((), τ') ∧ PF σ0 τ0 t p σ τ' := by
  obtain ⟨h1, h2, h3, h4, h5, c, h7, h8⟩ := h
  unfold f_X10_opens_79
  rw [ckb_t (show isb (1 : Int32) = true from rfl), lt_a, up_s, if_neg (show ¬ (1 : Int32) = 0 by decide), lt_a, lt_a, Int32.add_zero]
  refine ⟨_, rfl, h1, ⟨fun k p1 p2 p3 => by rw [up_row p1, up_row p1, up_row p1]; exact h2.1 k p1 p2 p3, fun j hj => by rw [up_i (by omega), up_i (by omega), up_i (by omega)]; exact h2.2 j hj⟩, h3, ?_, h5, ?_, c, h7, ?_⟩
  · rw [up_i (by decide), up_s, up_i (by decide)]; exact h4
  · rw [up_i (by decide), up_i (by decide), up_s]
  · rw [up_i (by decide), up_i (by decide), up_i (by decide)]; exact h8
theorem pr_pf {σ0 τ0 σ τ : Sg} {t u p c o : Nat} {δ : Int} (b : BS σ0 τ0 t u) (h : PR σ0 τ0 t u p c o δ σ τ) : FrX σ0 σ ∧ FrM τ0 τ ∧ σ 3 3 = nI p ∧ τ 0 13 = nI p ∧ p ≤ t ∧ ∃ c, c ≤ 60 ∧ τ 0 12 = nI c := by
  have b1 := b.1
  obtain ⟨h1, h2, h3, h4, h5, h6, h7, h8, h9, h10, h11, h12, h13, h14, h15⟩ := h
  exact ⟨h1, h2, h5, h6, h7, c, by omega, h9⟩
theorem pf_pf {σ0 τ0 σ τ : Sg} {t p : Nat} (h : PF σ0 τ0 t p σ τ) : FrX σ0 σ ∧ FrM τ0 τ ∧ σ 3 3 = nI p ∧ τ 0 13 = nI p ∧ p ≤ t ∧ ∃ c, c ≤ 60 ∧ τ 0 12 = nI c := by
  obtain ⟨h1, h2, h3, h4, h5, h6, h7⟩ := h
  exact ⟨h1, h2, h3, h4, h5, h7⟩
theorem q_spec {σ0 τ0 : Sg} {t u o : Nat} (b : BS σ0 τ0 t u) (ho : o ≤ 5) (dX dM : Nat) (hQ : o < 5 → Sp σ0 τ0 t u (o + 1) ((G_X4_readsLevel dX).2.1 (nI (o + 1))) (G_X10_any dM).2.2.2.2.2.1) (hL : o < 5 → Sp σ0 τ0 t u (o + 1) ((G_X4_readsLevel dX).1 (0 : Int32) (nI (o + 1))) (G_X10_any dM).1) : Sp σ0 τ0 t u o ((G_X4_readsLevel (dX + 2)).2.1 (nI o)) (G_X10_any (dM + 2)).2.2.2.2.2.1 := by
  intro p c δ σ τ h
  have hX : (G_X4_readsLevel (dX + 2)).2.1 (nI o) σ = f_X4_readsQ_e (G_X4_readsLevel (dX + 1)).1 (G_X4_readsLevel (dX + 1)).2.1 (f_X4_readsNot_e (G_X4_readsLevel dX).1 (G_X4_readsLevel dX).2.1 (G_X4_readsLevel dX).2.2.1 (G_X4_readsLevel dX).2.2.2) (f_X4_readsGroup_e (G_X4_readsLevel dX).1 (G_X4_readsLevel dX).2.1 (G_X4_readsLevel dX).2.2.1 (G_X4_readsLevel dX).2.2.2) (nI o) σ := rfl
  have hM : (G_X10_any (dM + 2)).2.2.2.2.2.1 τ = f_X10_one_e (G_X10_any (dM + 1)).1 (G_X10_any (dM + 1)).2.1 (G_X10_any (dM + 1)).2.2.1 (G_X10_any (dM + 1)).2.2.2.1 (G_X10_any (dM + 1)).2.2.2.2.1 (G_X10_any (dM + 1)).2.2.2.2.2.1 (f_X10_opens_e (G_X10_any dM).1 (G_X10_any dM).2.1 (G_X10_any dM).2.2.1 (G_X10_any dM).2.2.2.1 (G_X10_any dM).2.2.2.2.1 (G_X10_any dM).2.2.2.2.2.1 (G_X10_any dM).2.2.2.2.2.2) τ := rfl
  rw [hX, hM]
  generalize (G_X4_readsLevel dX).1 = gX1 at *
  generalize (G_X4_readsLevel dX).2.1 = gX2 at *
  generalize (G_X10_any dM).1 = gM1 at *
  generalize (G_X10_any dM).2.2.2.2.2.1 = gM6 at *
  have b1 := b.1
  have hu := b.2.1
  obtain ⟨n1, n2⟩ := pr_next b h
  have e16 : τ 0 16 = nI u := by rw [h.2.1.2 16 (by omega)]; exact b.2.2.2.2.2
  have h10 := h.2.2.2.2.2.2.2.2.2.1
  have h14 := h.2.2.2.2.2.2.2.2.2.2.1
  have h15 := h.2.2.2.2.2.2.2.2.2.2.2.1
  have h0 := h.2.2.2.2.2.2.2.2.2.2.2.2.2.2
  have eo : (nI o).toInt = (o : Int) := i_nI (by omega)
  have B0 := nm_big hu (show 0 < 3 by decide)
  have B1 := nm_big hu (show 1 < 3 by decide)
  have B2 := nm_big hu (show 2 < 3 by decide)
  unfold f_X4_readsQ_e f_X10_one_e
  rw [n1, n2, bnd_s, bnd_s, x_isDigit, bnd_s, if01, m_nameOf hu e16, bnd_s]
  by_cases q : (48 : Int32) ≤ Byt σ0 t p ∧ Byt σ0 t p ≤ 57
  · have t48 : (48 : Int32).toInt = 48 := rfl
    have t57 : (57 : Int32).toInt = 57 := rfl
    have q' := q
    rw [i_le, i_le, t48, t57] at q'
    have ne : ∀ v : Int32, 58 ≤ v.toInt ∨ v.toInt ≤ 47 → ¬ Byt σ0 t p = v := fun v hv e => by rw [e] at q'; omega
    rw [if_pos q, if_neg (ne _ (Or.inl (by omega))), if_neg (ne _ (Or.inl (by omega))), if_neg (ne _ (Or.inl (by omega))), if_pos (show (-1 : Int32) < 0 by decide), if_neg (ne 33 (Or.inr (by decide))), if_neg (ne 40 (Or.inr (by decide)))]
    obtain ⟨p', σ', τ', w1, w2, w3, w4⟩ := num_first b h q
    rw [w1, w2, bnd_s, bnd_s, ckb_t (show isb (1 : Int32) = true from rfl)]
    exact Or.inl ⟨p', c + 1, σ', τ', rfl, rfl, w3, w4, by omega⟩
  · rw [if_neg q, x_names hu h.2.2.2.1]
    have nm : p < t → ∀ (x w : Int32), Cod1 x 2 w → ∃ p' c' σ' τ', bnd (f_X6_add 56 x (up σ 3 3 (σ 3 3 + 1))) (fun _ s => some ((1 : Int32), s)) = some (1, σ') ∧ lt (up τ 0 13 (τ 0 13 + 1)) (fun s11 => bnd (f_X10_step (2 : Int32) w s11) (fun _ s12 => some ((), s12))) = some ((), τ') ∧ PR σ0 τ0 t u p' c' o (δ + 1) σ' τ' ∧ p < p' ∧ c' + p ≤ c + p' := by
      intro hp x w hc
      obtain ⟨σ', τ', w1, w2, w3⟩ := pr_code b (pr_adv h hp) (by omega) (x := x) (a := 2) (w := w) (δ' := δ + 1) hc (fun e => absurd e (by decide)) (fun e => by rcases e with e | e | e | e | e | e | e | e | e | e <;> exact absurd e (by decide)) (by rw [if_pos (Or.inr rfl)]) (by omega)
      rw [w1, bnd_s, lt_a, w2, bnd_s]
      exact ⟨p + 1, c + 1, σ', τ', rfl, rfl, w3, by omega, by omega⟩
    have inn : ∀ i, i < 3 → Byt σ0 t p = nmU u i → p < t := fun i hi e => byt_lt (fun e2 => by
      have := nm_big hu hi
      rw [← e, e2] at this
      exact absurd this.1 (by decide))
    by_cases z0 : Byt σ0 t p = nmU u 0
    · rw [if_pos z0, if_pos z0, if_neg (show ¬ (0 : Int32) < 0 by decide)]
      exact Or.inl (nm (inn 0 (by decide) z0) (-1) 0 (Or.inr (Or.inl ⟨rfl, Or.inl ⟨rfl, rfl⟩⟩)))
    rw [if_neg z0, if_neg z0]
    by_cases z1 : Byt σ0 t p = nmU u 1
    · rw [if_pos z1, if_pos z1, if_neg (show ¬ (1 : Int32) < 0 by decide)]
      exact Or.inl (nm (inn 1 (by decide) z1) (-2) 1 (Or.inr (Or.inl ⟨rfl, Or.inr (Or.inl ⟨rfl, rfl⟩)⟩)))
    rw [if_neg z1, if_neg z1]
    by_cases z2 : Byt σ0 t p = nmU u 2
    · rw [if_pos z2, if_pos z2, if_neg (show ¬ (2 : Int32) < 0 by decide)]
      exact Or.inl (nm (inn 2 (by decide) z2) (-3) 2 (Or.inr (Or.inl ⟨rfl, Or.inr (Or.inr ⟨rfl, rfl⟩)⟩)))
    rw [if_neg z2, if_neg z2, if_pos (show (-1 : Int32) < 0 by decide)]
    unfold f_X10_opens_e
    rw [h14]
    by_cases ho5 : o = 5
    · subst ho5
      rw [if_neg (show ¬ nI 5 < (5 : Int32) by decide), if_pos (show nI 5 = (5 : Int32) from rfl), lt_a, bnd_s]
      by_cases y : Byt σ0 t p = 33
      · rw [if_pos y]; exact Or.inr ⟨p, σ, _, rfl, rfl, pr_bad b h⟩
      · rw [if_neg y]
        by_cases y2 : Byt σ0 t p = 40
        · rw [if_pos y2]; exact Or.inr ⟨p, σ, _, rfl, rfl, pr_bad b h⟩
        · rw [if_neg y2]
          obtain ⟨τ', w1, w2⟩ := num_none b h q
          rw [w1, bnd_s]
          exact Or.inr ⟨p, σ, τ', rfl, rfl, w2⟩
    · have lt5 : nI o < (5 : Int32) := by rw [i_lt, eo, ti_5]; omega
      have ne5 : ¬ nI o = (5 : Int32) := by rw [i_eq, eo, ti_5]; omega
      rw [if_pos lt5, if_neg ne5, lt_a, lt_a, nI_1]
      by_cases y : Byt σ0 t p = 33
      · have hp : p < t := byt_lt (fun e => by rw [e] at y; exact absurd y (by decide))
        rw [if_pos y, if_pos y, y, if_pos (show (33 : Int32) = 33 from rfl)]
        unfold f_X4_readsNot_e
        rw [lt_a]
        have pr := pr_adv (pr_open (o' := o + 1) h) hp
        rcases hQ (by omega) _ _ _ _ _ pr with ⟨p', c', σ', τ', w1, w2, w3, w4, w5⟩ | ⟨p', σ', τ', w1, w2, w3⟩
        · rw [w1, w2, bnd_s, bnd_s, if_neg (show ¬ (1 : Int32) = 0 by decide)]
          obtain ⟨σ2, τ2, v1, v2, v3⟩ := pr_code b w3 (by omega) (x := -33) (a := 3) (w := 0) (δ' := δ + 1) (Or.inr (Or.inr (Or.inl ⟨rfl, rfl⟩))) (fun _ => by omega) (fun e => by rcases e with e | e | e | e | e | e | e | e | e | e <;> exact absurd e (by decide)) (by rw [if_neg (by decide), if_pos rfl]) (by omega)
          have v14 := v3.2.2.2.2.2.2.2.2.2.2.1
          rw [v1, v2]
          simp only [bnd_s, lt_a]
          rw [v14, nI_pred, ckb_t (show isb (1 : Int32) = true from rfl)]
          exact Or.inl ⟨p', c' + 1, σ2, _, rfl, rfl, pr_open v3, by omega, by omega⟩
        · rw [w1, w2, bnd_s, bnd_s, if_pos rfl]
          obtain ⟨τ2, v1, v2⟩ := pf_step w3 3 0
          rw [v1]
          simp only [bnd_s, lt_a]
          rw [ckb_t (show isb (0 : Int32) = true from rfl)]
          exact Or.inr ⟨p', σ', _, rfl, rfl, pf_open v2⟩
      · rw [if_neg y, if_neg y]
        by_cases y2 : Byt σ0 t p = 40
        · have hp : p < t := byt_lt (fun e => by rw [e] at y2; exact absurd y2 (by decide))
          rw [if_pos y2, if_pos y2, y2, if_neg (show ¬ (40 : Int32) = 33 by decide)]
          unfold f_X4_readsGroup_e
          rw [lt_a]
          have pr := pr_adv (pr_open (o' := o + 1) h) hp
          rcases hL (by omega) _ _ _ _ _ pr with ⟨p', c', σ', τ', w1, w2, w3, w4, w5⟩ | ⟨p', σ', τ', w1, w2, w3⟩
          · obtain ⟨m1, m2⟩ := pr_next b w3
            have w14 := w3.2.2.2.2.2.2.2.2.2.2.1
            have w15 := w3.2.2.2.2.2.2.2.2.2.2.2.1
            rw [w1, w2, bnd_s, bnd_s, if_neg (show ¬ (1 : Int32) = 0 by decide), m1, w15, if_pos rfl, m2, bnd_s, bnd_s]
            by_cases y3 : Byt σ0 t p' = 41
            · have hp' : p' < t := byt_lt (fun e => by rw [e] at y3; exact absurd y3 (by decide))
              have pr2 := pr_open (o' := o) (pr_adv w3 hp')
              rw [if_pos y3, if_pos y3, lt_a]
              unfold f_X10_opens_79
              rw [ckb_t (show isb (0 : Int32) = true from rfl), lt_a, up_same w15, w15, if_pos rfl, lt_a, lt_a, up_i (by decide), w14, nI_pred]
              simp only [bnd_s]
              rw [if_neg (show ¬ (1 : Int32) = 0 by decide)]
              exact Or.inl ⟨p' + 1, c', _, _, rfl, rfl, pr2, by omega, by omega⟩
            · rw [if_neg y3, if_neg y3, bnd_s, if_pos rfl]
              obtain ⟨τ2, v1, v2⟩ := m_79 gM1 (G_X10_any dM).2.1 (G_X10_any dM).2.2.1 (G_X10_any dM).2.2.2.1 (G_X10_any dM).2.2.2.2.1 gM6 (G_X10_any dM).2.2.2.2.2.2 (pr_pf b w3)
              rw [v1]
              simp only [bnd_s]
              exact Or.inr ⟨p', σ', τ2, rfl, rfl, v2⟩
          · obtain ⟨τ2, v1, v2⟩ := m_79 gM1 (G_X10_any dM).2.1 (G_X10_any dM).2.2.1 (G_X10_any dM).2.2.2.1 (G_X10_any dM).2.2.2.2.1 gM6 (G_X10_any dM).2.2.2.2.2.2 (pf_pf w3)
            have w15 := w3.2.2.2.2.2.1
            rw [w1, w2, bnd_s, bnd_s, if_pos rfl, bnd_s, if_pos rfl, w15, if_neg (show ¬ (1 : Int32) = 0 by decide), v1]
            simp only [bnd_s]
            exact Or.inr ⟨p', σ', τ2, rfl, rfl, v2⟩
        · rw [if_neg y2, if_neg y2]
          obtain ⟨τ', w1, w2⟩ := num_none b h q
          rw [w1, bnd_s]
          exact Or.inr ⟨p, σ, τ', rfl, rfl, w2⟩
