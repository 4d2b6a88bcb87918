theorem m_held {a b : Int32} (hb : 0 ≤ b.toInt) (τ : Sg) : f_X10_held a (0 : Int32) b τ = some (mx (0 : Int32) (mn a b), τ) := by
  obtain ⟨v, v1, v2, _⟩ := held_eq a b hb τ τ
  have e : f_X9_held a b τ = some (mx (0 : Int32) (mn a b), τ) := rfl
  rw [v1] at e
  rw [v2, e]
theorem i_mx {a b : Int32} : (mx a b).toInt = if a.toInt < b.toInt then b.toInt else a.toInt := by
  unfold mx
  simp only [i_lt]
  split <;> rfl
theorem i_mn {a b : Int32} : (mn a b).toInt = if b.toInt < a.toInt then b.toInt else a.toInt := by
  unfold mn
  simp only [i_lt]
  split <;> rfl
theorem i_div2 {a : Int32} (h : 0 ≤ a.toInt) : (a / (2 : Int32)).toInt = a.toInt / 2 := by
  have h1 := i_hi a
  rw [Int32.toInt_div, ti_2, Int.tdiv_eq_ediv_of_nonneg h, bm (by omega) (by omega)]
theorem mxmn_id {a b : Int32} (h0 : 0 ≤ a.toInt) (h1 : a.toInt ≤ b.toInt) : mx (0 : Int32) (mn a b) = a := by
  rw [i_eq, i_mx, i_mn, ti_0]
  rw [if_neg (show ¬ b.toInt < a.toInt by omega)]
  split <;> omega
theorem base_eq {day since : Int32} (h0 : 0 ≤ since.toInt) (h1 : since.toInt ≤ day.toInt) (h2 : day.toInt ≤ 20000) : mx (0 : Int32) ((50 : Int32) - ((5 : Int32) * (day - since))) = mx (0 : Int32) (mn ((50 : Int32) - ((5 : Int32) * (day - since))) 50) ∧ 0 ≤ (mx (0 : Int32) ((50 : Int32) - ((5 : Int32) * (day - since)))).toInt ∧ (mx (0 : Int32) ((50 : Int32) - ((5 : Int32) * (day - since)))).toInt ≤ 50 := by
  have t50 : (50 : Int32).toInt = 50 := rfl
  have e1 : (day - since).toInt = day.toInt - since.toInt := i_sub (by omega) (by omega)
  have e2 : ((5 : Int32) * (day - since)).toInt = 5 * (day.toInt - since.toInt) := by rw [i_mul (by rw [e1, ti_5]; omega) (by rw [e1, ti_5]; omega), e1, ti_5]
  have e3 : ((50 : Int32) - ((5 : Int32) * (day - since))).toInt = 50 - 5 * (day.toInt - since.toInt) := by rw [i_sub (by rw [e2, t50]; omega) (by rw [e2, t50]; omega), e2, t50]
  refine ⟨?_, ?_, ?_⟩
  · rw [i_eq, i_mx, i_mx, i_mn, e3, t50, ti_0]
    rw [if_neg (show ¬ (50 : Int) < 50 - 5 * (day.toInt - since.toInt) by omega)]
  · rw [i_mx, e3, ti_0]; split <;> omega
  · rw [i_mx, e3, ti_0]; split <;> omega
theorem x_held (a b : Int32) (σ : Sg) : f_X9_held a b σ = some (mx (0 : Int32) (mn a b), σ) := rfl
theorem back_eq {n : Nat} {D : Int32} {σ τ : Sg} (h : Vw n D σ τ) {l : Nat} (hl : l < n) : ∃ v, f_X2_back (20 + l) D σ = some (v, σ) ∧ f_X10_backOf (nI l) τ = some (v, τ) ∧ 0 ≤ v.toInt ∧ v.toInt ≤ 100 := by
  obtain ⟨n10, e1, e2, d0, ⟨dl, dh⟩, sp, a3, a4, a7⟩ := h
  obtain ⟨⟨⟨k0, k0'⟩, ⟨k1, k1'⟩, _, _, ⟨k4, k4'⟩, k5⟩, k2⟩ := a3 l hl
  have q0 : τ 1 (12 + 7 * l + 0) = σ (20 + l) 0 := k2 0 (by omega)
  have q1 : τ 1 (12 + 7 * l + 1) = σ (20 + l) 1 := k2 1 (by omega)
  have q4 : τ 1 (12 + 7 * l + 4) = σ (20 + l) 4 := k2 4 (by omega)
  have q5 : τ 1 (12 + 7 * l + 5) = σ (20 + l) 5 := k2 5 (by omega)
  have j1 : 0 ≤ (σ (20 + l) 1).toInt := k1
  have j1' : (σ (20 + l) 1).toInt ≤ 9 := k1'
  have j4 : 0 ≤ (σ (20 + l) 4).toInt := k4
  have j4' : (σ (20 + l) 4).toInt ≤ D.toInt := k4'
  have j5 : σ (20 + l) 5 = 0 ∨ σ (20 + l) 5 = 1 := k5
  obtain ⟨b1, b2, b3⟩ := base_eq j4 j4' dh
  have t100 : 0 ≤ (100 : Int32).toInt := by decide
  have t50 : 0 ≤ (50 : Int32).toInt := by decide
  have v100 : (100 : Int32).toInt = 100 := rfl
  unfold f_X2_back f_X10_backOf
  rw [m_it 1 (by omega) rfl (by omega), bnd_s, ck_0, m_it 4 (by omega) rfl (by omega), bnd_s, rd_0, d0, q4, q1, m_held t50, bnd_s, lt_a, lt_a, lt_a, ← b1, m_it 0 (by omega) rfl (by omega), bnd_s, q0]
  have ev := i_add (a := mx (0 : Int32) ((50 : Int32) - ((5 : Int32) * (D - σ (20 + l) 4)))) (b := σ (20 + l) 1) (by omega) (by omega)
  generalize mx (0 : Int32) ((50 : Int32) - ((5 : Int32) * (D - σ (20 + l) 4))) + σ (20 + l) 1 = V at *
  have V0 : 0 ≤ V.toInt := by omega
  have V1 : V.toInt ≤ 59 := by omega
  have hV : mx (0 : Int32) (mn V 100) = V := mxmn_id V0 (by rw [v100]; omega)
  have d2 := i_div2 V0
  have hV2 : mx (0 : Int32) (mn (V / 2) 100) = V / 2 := mxmn_id (by omega) (by rw [v100]; omega)
  simp only [x_held, m_held t100, bnd_s]
  have mm : ∀ a : Int32, 0 ≤ (mx (0 : Int32) (mn a 100)).toInt ∧ (mx (0 : Int32) (mn a 100)).toInt ≤ 100 := by
    intro a
    rw [i_mx, i_mn, ti_0, v100]
    repeat' split
    all_goals omega
  have mm2 : 0 ≤ (V / 2).toInt ∧ (V / 2).toInt ≤ 100 := by constructor <;> omega
  have mmV : 0 ≤ V.toInt ∧ V.toInt ≤ 100 := ⟨V0, by omega⟩
  have fin : ∀ w : Int32, 0 ≤ w.toInt ∧ w.toInt ≤ 100 → ∃ v, some (w, σ) = some (v, σ) ∧ some (w, τ) = some (v, τ) ∧ 0 ≤ v.toInt ∧ v.toInt ≤ 100 := fun w hw => ⟨w, rfl, rfl, hw⟩
  by_cases z1 : σ (20 + l) 0 = 1
  · rw [if_pos z1, if_pos z1]; exact fin _ (mm _)
  rw [if_neg z1, if_neg z1]
  by_cases z2 : σ (20 + l) 0 = 2
  · rw [if_pos z2, if_pos z2, hV2]; exact fin _ mm2
  rw [if_neg z2, if_neg z2]
  by_cases z3 : σ (20 + l) 0 = 3
  · rw [if_pos z3, if_pos z3, m_it 5 (by omega) rfl (by omega), bnd_s, q5]
    rcases j5 with j | j
    · rw [j, if_neg (show ¬ (0 : Int32) = 1 by decide), show V + (20 : Int32) * 0 = V by rw [i_eq, i_add (by rw [show ((20 : Int32) * 0).toInt = 0 from rfl]; omega) (by rw [show ((20 : Int32) * 0).toInt = 0 from rfl]; omega), show ((20 : Int32) * 0).toInt = 0 from rfl]; omega]
      exact fin _ (mm _)
    · rw [j, if_pos rfl, show (20 : Int32) * 1 = 20 from rfl]
      exact fin _ (mm _)
  rw [if_neg z3, if_neg z3]
  by_cases z4 : σ (20 + l) 0 = 4
  · rw [if_pos z4, if_pos z4]; exact fin _ (mm _)
  rw [if_neg z4, if_neg z4]
  by_cases z5 : σ (20 + l) 0 = 5
  · rw [if_pos z5, if_pos z5]; exact fin _ (mm _)
  rw [if_neg z5, if_neg z5]
  by_cases z6 : σ (20 + l) 0 = 6
  · rw [if_pos z6, if_pos z6]; exact fin _ (mm _)
  rw [if_neg z6, if_neg z6, hV]
  exact fin _ mmV
