theorem cap_cd {u : Nat} (hu : u < 2) : capC (48 + u + 18) = 60 := by
  have : u = 0 ∨ u = 1 := by omega
  rcases this with rfl | rfl <;> rfl
theorem x_wo_num {u s c j : Nat} (hu : u < 2) (hs : s < 60) (hj : j < c) (hc : c ≤ 60) {σ : Sg} (n : Nat) (y0 y1 y2 v : Int32) (g1 : σ (48 + u) 1 = nI c) (g2 : σ (66 + u) j = v) (e1 : σ (52 + u) 1 = nI s) (hv : 0 ≤ v.toInt) : f_X1_workOut_10 (n + 1) (40 + u) y0 y1 y2 (nI j) σ = f_X1_workOut_10 n (40 + u) y0 y1 y2 (nI (j + 1)) (up (up σ (70 + u) s v) (52 + u) 1 (nI (s + 1))) := by
  have ec : (nI c).toInt = (c : Int) := i_nI (by omega)
  have ej : (nI j).toInt = (j : Int) := i_nI (by omega)
  have nle : ¬ nI c ≤ nI j := by rw [i_le, ec, ej]; omega
  have m1 : v ≠ -33 := fun e => by rw [e] at hv; exact absurd hv (by decide)
  have m2 : v ≠ -3 := fun e => by rw [e] at hv; exact absurd hv (by decide)
  have m3 : v ≠ -2 := fun e => by rw [e] at hv; exact absurd hv (by decide)
  have m4 : v ≠ -1 := fun e => by rw [e] at hv; exact absurd hv (by decide)
  have m5 : ¬ v < 0 := by rw [i_lt, ti_0]; omega
  rw [f_X1_workOut_10]
  unfold f_X1_workOut_10_b
  rw [show 40 + u + 8 = 48 + u by omega, g1, if_neg nle, cap_cd hu, ck_k ej (by omega), rd_k ej, show 48 + u + 18 = 66 + u by omega, g2]
  simp only [lt_a]
  rw [if_neg m1, if_neg m2, if_neg m3, if_neg m4, if_neg m5, x_push hu hs e1]
  simp only [bnd_s, nI_1]
theorem x_wo_arg {u s c j : Nat} (hu : u < 2) (hs : s < 60) (hj : j < c) (hc : c ≤ 60) {σ : Sg} (n : Nat) (y0 y1 y2 v w : Int32) (g1 : σ (48 + u) 1 = nI c) (g2 : σ (66 + u) j = v) (e1 : σ (52 + u) 1 = nI s) (hv : (w = y0 ∧ v = -1) ∨ (w = y1 ∧ v = -2) ∨ (w = y2 ∧ v = -3)) : f_X1_workOut_10 (n + 1) (40 + u) y0 y1 y2 (nI j) σ = f_X1_workOut_10 n (40 + u) y0 y1 y2 (nI (j + 1)) (up (up σ (70 + u) s w) (52 + u) 1 (nI (s + 1))) := by
  have ec : (nI c).toInt = (c : Int) := i_nI (by omega)
  have ej : (nI j).toInt = (j : Int) := i_nI (by omega)
  have nle : ¬ nI c ≤ nI j := by rw [i_le, ec, ej]; omega
  rw [f_X1_workOut_10]
  unfold f_X1_workOut_10_b
  rw [show 40 + u + 8 = 48 + u by omega, g1, if_neg nle, cap_cd hu, ck_k ej (by omega), rd_k ej, show 48 + u + 18 = 66 + u by omega, g2]
  simp only [lt_a]
  rcases hv with ⟨rfl, rfl⟩ | ⟨rfl, rfl⟩ | ⟨rfl, rfl⟩
  · rw [if_neg (by decide), if_neg (by decide), if_neg (by decide), if_pos rfl, x_push hu hs e1]
    simp only [bnd_s, nI_1]
  · rw [if_neg (by decide), if_neg (by decide), if_pos rfl, x_push hu hs e1]
    simp only [bnd_s, nI_1]
  · rw [if_neg (by decide), if_pos rfl, x_push hu hs e1]
    simp only [bnd_s, nI_1]
theorem x_wo_not {u s c j : Nat} (hu : u < 2) (hs : s < 60) (hj : j < c) (hc : c ≤ 60) {σ : Sg} (n : Nat) (y0 y1 y2 : Int32) (g1 : σ (48 + u) 1 = nI c) (g2 : σ (66 + u) j = -33) (e1 : σ (52 + u) 1 = nI (s + 1)) : f_X1_workOut_10 (n + 1) (40 + u) y0 y1 y2 (nI j) σ = f_X1_workOut_10 n (40 + u) y0 y1 y2 (nI (j + 1)) (up (up (up σ (52 + u) 1 (nI s)) (70 + u) s (if σ (70 + u) s = 0 then 1 else 0)) (52 + u) 1 (nI (s + 1))) := by
  have ec : (nI c).toInt = (c : Int) := i_nI (by omega)
  have ej : (nI j).toInt = (j : Int) := i_nI (by omega)
  have nle : ¬ nI c ≤ nI j := by rw [i_le, ec, ej]; omega
  rw [f_X1_workOut_10]
  unfold f_X1_workOut_10_b
  rw [show 40 + u + 8 = 48 + u by omega, g1, if_neg nle, cap_cd hu, ck_k ej (by omega), rd_k ej, show 48 + u + 18 = 66 + u by omega, g2]
  simp only [lt_a]
  rw [if_pos trivial, x_pop hu hs e1]
  simp only [bnd_s]
  by_cases h : σ (70 + u) s = 0
  · rw [if_pos h, if_pos h, x_push hu hs up_s]
    simp only [bnd_s, nI_1]
  · rw [if_neg h, if_neg h, x_push hu hs up_s]
    simp only [bnd_s, nI_1]
theorem x_wo_op {u s c j : Nat} (hu : u < 2) (hs : s + 1 < 60) (hj : j < c) (hc : c ≤ 60) {σ : Sg} (n : Nat) (y0 y1 y2 o r : Int32) (ho : opS o) (g1 : σ (48 + u) 1 = nI c) (g2 : σ (66 + u) j = -o) (e1 : σ (52 + u) 1 = nI (s + 2)) (hr : ∀ σ1, f_X1_join (σ (70 + u) s) o (σ (70 + u) (s + 1)) σ1 = some (r, σ1)) : f_X1_workOut_10 (n + 1) (40 + u) y0 y1 y2 (nI j) σ = f_X1_workOut_10 n (40 + u) y0 y1 y2 (nI (j + 1)) (up (up (up (up σ (52 + u) 1 (nI (s + 1))) (52 + u) 1 (nI s)) (70 + u) s r) (52 + u) 1 (nI (s + 1))) := by
  have ec : (nI c).toInt = (c : Int) := i_nI (by omega)
  have ej : (nI j).toInt = (j : Int) := i_nI (by omega)
  have nle : ¬ nI c ≤ nI j := by rw [i_le, ec, ej]; omega
  have m : -o ≠ (-33 : Int32) ∧ -o ≠ (-3 : Int32) ∧ -o ≠ (-2 : Int32) ∧ -o ≠ (-1 : Int32) ∧ -o < (0 : Int32) ∧ - -o = o := by
    rcases ho with rfl | rfl | rfl | rfl | rfl | rfl | rfl | rfl | rfl | rfl <;> decide
  obtain ⟨m1, m2, m3, m4, m5, m6⟩ := m
  rw [f_X1_workOut_10]
  unfold f_X1_workOut_10_b
  rw [show 40 + u + 8 = 48 + u by omega, g1, if_neg nle, cap_cd hu, ck_k ej (by omega), rd_k ej, show 48 + u + 18 = 66 + u by omega, g2]
  simp only [lt_a]
  rw [if_neg m1, if_neg m2, if_neg m3, if_neg m4, if_pos m5, m6, x_pop hu hs e1]
  simp only [bnd_s]
  rw [x_pop hu (by omega) up_s]
  simp only [bnd_s]
  rw [up_k (by omega), hr]
  simp only [bnd_s]
  rw [x_push hu (by omega) up_s]
  simp only [bnd_s, nI_1]
theorem m_e1 {u j k : Nat} (hu : u < 2) (hj : j < 60) {b kI : Int32} (eb : b.toInt = ((166 + 121 * u : Nat) : Int)) (ek : kI.toInt = (k : Int)) (hk : k ≤ 61) : (b + kI + nI j).toInt = ((166 + 121 * u + k + j : Nat) : Int) := by
  have ej : (nI j).toInt = (j : Int) := i_nI (by omega)
  have q : (b + kI).toInt = ((166 + 121 * u + k : Nat) : Int) := by rw [i_add (by rw [eb, ek]; omega) (by rw [eb, ek]; omega), eb, ek]; omega
  rw [i_add (by rw [q, ej]; omega) (by rw [q, ej]; omega), q, ej]; omega
theorem m_wo_not {u s c j : Nat} (hu : u < 2) (hs : s < 60) (hj : j < c) (hc : c ≤ 60) {bI : Int32} (eb : bI.toInt = ((166 + 121 * u : Nat) : Int)) {τ : Sg} (m : Nat) (g3 : τ 1 (166 + 121 * u) = nI c) (q1 : τ 1 (166 + 121 * u + 1 + j) = 3) : f_X10_works_4 (m + 1) bI (nI (s + 1)) (nI j) τ = f_X10_works_4 m bI (nI (s + 1)) (nI (j + 1)) (up τ 11 s (if τ 11 s = 0 then 1 else 0)) := by
  have ec : (nI c).toInt = (c : Int) := i_nI (by omega)
  have ej : (nI j).toInt = (j : Int) := i_nI (by omega)
  have es1 : (nI (s + 1)).toInt = ((s + 1 : Nat) : Int) := i_nI (by omega)
  have es : (nI (s + 1) - (1 : Int32)).toInt = (s : Int) := by rw [i_sub (by rw [es1, ti_1]; omega) (by rw [es1, ti_1]; omega), es1, ti_1]; omega
  have nle : ¬ nI c ≤ nI j := by rw [i_le, ec, ej]; omega
  have f1 := m_e1 (j := j) (k := 1) hu (by omega) eb ti_1 (by omega)
  rw [f_X10_works_4]
  unfold f_X10_works_4_b
  rw [ck_k eb (by omega), rd_k eb, g3, if_neg nle, ck_k f1 (by omega), rd_k f1, lt_a]
  rw [q1, if_neg (show ¬ ((3 : Int32) = 1) by decide), if_neg (show ¬ ((3 : Int32) = 2) by decide), if_pos rfl]
  rw [ck_k es hs, rd_k es]
  by_cases h : τ 11 s = 0
  · rw [if_pos h, if_pos h, ck_k es hs, tn_k es, lt_a, lt_a, nI_1]
  · rw [if_neg h, if_neg h, ck_k es hs, tn_k es, lt_a, lt_a, nI_1]
theorem m_wo_op {u s c j : Nat} (hu : u < 2) (hs : s + 1 < 60) (hj : j < c) (hc : c ≤ 60) {bI : Int32} (eb : bI.toInt = ((166 + 121 * u : Nat) : Int)) {τ : Sg} (m : Nat) (o r : Int32) (ho : opS o) (g3 : τ 1 (166 + 121 * u) = nI c) (q1 : τ 1 (166 + 121 * u + 1 + j) = o) (hr : f_X10_twoOf o (τ 11 s) (τ 11 (s + 1)) τ = some (r, τ)) : f_X10_works_4 (m + 1) bI (nI (s + 2)) (nI j) τ = f_X10_works_4 m bI (nI (s + 1)) (nI (j + 1)) (up τ 11 s r) := by
  have ec : (nI c).toInt = (c : Int) := i_nI (by omega)
  have ej : (nI j).toInt = (j : Int) := i_nI (by omega)
  have es2 : (nI (s + 2)).toInt = ((s + 2 : Nat) : Int) := i_nI (by omega)
  have es1 : (nI (s + 1)).toInt = ((s + 1 : Nat) : Int) := i_nI (by omega)
  have tm : (-1 : Int32).toInt = -1 := rfl
  have e1 : nI (s + 2) + (-1 : Int32) = nI (s + 1) := by rw [i_eq, i_add (by rw [es2, tm]; omega) (by rw [es2, tm]; omega), es2, es1, tm]; omega
  have es : (nI (s + 1) - (1 : Int32)).toInt = (s : Int) := by rw [i_sub (by rw [es1, ti_1]; omega) (by rw [es1, ti_1]; omega), es1, ti_1]; omega
  have nle : ¬ nI c ≤ nI j := by rw [i_le, ec, ej]; omega
  have f1 := m_e1 (j := j) (k := 1) hu (by omega) eb ti_1 (by omega)
  have om : o ≠ (1 : Int32) ∧ o ≠ (2 : Int32) ∧ o ≠ (3 : Int32) := by
    rcases ho with rfl | rfl | rfl | rfl | rfl | rfl | rfl | rfl | rfl | rfl <;> decide
  rw [f_X10_works_4]
  unfold f_X10_works_4_b
  rw [ck_k eb (by omega), rd_k eb, g3, if_neg nle, ck_k f1 (by omega), rd_k f1, lt_a]
  rw [q1, if_neg om.1, if_neg om.2.1, if_neg om.2.2, lt_a, e1, ck_k es (show s < 60 by omega), ck_k es1 (show s + 1 < 60 by omega), rd_k es, rd_k es1, hr, bnd_s, ck_k es (show s < 60 by omega), tn_k es, lt_a, lt_a, nI_1]
theorem m_wo_push {u s c j : Nat} (hu : u < 2) (hs : s < 60) (hj : j < c) (hc : c ≤ 60) {bI : Int32} (eb : bI.toInt = ((166 + 121 * u : Nat) : Int)) {τ : Sg} (m : Nat) (v : Int32) (g3 : τ 1 (166 + 121 * u) = nI c) (hv : (τ 1 (166 + 121 * u + 1 + j) = 1 ∧ τ 1 (166 + 121 * u + 61 + j) = v) ∨ (τ 1 (166 + 121 * u + 1 + j) = 2 ∧ ∃ k : Nat, k < 3 ∧ τ 1 (166 + 121 * u + 61 + j) = nI k ∧ τ 10 k = v)) : f_X10_works_4 (m + 1) bI (nI s) (nI j) τ = f_X10_works_4 m bI (nI (s + 1)) (nI (j + 1)) (up τ 11 s v) := by
  have ec : (nI c).toInt = (c : Int) := i_nI (by omega)
  have ej : (nI j).toInt = (j : Int) := i_nI (by omega)
  have es : (nI s).toInt = (s : Int) := i_nI (by omega)
  have nle : ¬ nI c ≤ nI j := by rw [i_le, ec, ej]; omega
  have f1 := m_e1 (j := j) (k := 1) hu (by omega) eb ti_1 (by omega)
  have f61 := m_e1 (j := j) (k := 61) hu (by omega) eb ti_61 (by omega)
  rw [f_X10_works_4]
  unfold f_X10_works_4_b
  rw [ck_k eb (by omega), rd_k eb, g3, if_neg nle, ck_k f1 (by omega), rd_k f1, lt_a]
  rcases hv with ⟨q1, q2⟩ | ⟨q1, k, q2, q3, q4⟩
  · rw [q1, if_pos rfl]
    unfold f_X10_works_38
    rw [if_pos rfl, ck_k f61 (by omega), ck_k es hs, tn_k es, rd_k f61, q2]
    rw [lt_a, lt_a, nI_1, lt_a, nI_1]
  · have ek : (nI k).toInt = (k : Int) := i_nI (by omega)
    rw [q1, if_neg (show ¬ ((2 : Int32) = 1) by decide), if_pos rfl]
    unfold f_X10_works_38
    rw [if_neg (show ¬ ((2 : Int32) = 1) by decide), ck_k f61 (by omega), rd_k f61, q3, ck_k ek q2, ck_k es hs, tn_k es, rd_k ek, q4]
    rw [lt_a, lt_a, nI_1, lt_a, nI_1]
