theorem cap_cd {u : Nat} (hu : u < 2) : capC (48 + u + 18) = 60 := by
  have : u = 0 ∨ u = 1 := by omega
  rcases this with rfl | rfl <;> rfl
theorem x_wo_num {u s c j : Nat} (hu : u < 2) (hs : s < 60) (hj : j < c) (hc : c ≤ 60) {σ : Sg} (n : Nat) (y0 y1 y2 v : Int32) (g1 : σ (48 + u) 1 = nI c) (g2 : σ (66 + u) j = v) (e1 : σ (52 + u) 1 = nI s) (hv : 0 ≤ v.toInt) : f_X1_workOut_10 (n + 1) (40 + u) y0 y1 y2 (nI j) σ = f_X1_workOut_10 n (40 + u) y0 y1 y2 (nI (j + 1)) (up (up σ (70 + u) s v) (52 + u) 1 (nI (s + 1))) := by
  have ec : (nI c).toInt = (c : Int) := i_nI (by omega)
  have ej : (nI j).toInt = (j : Int) := i_nI (by omega)
  have nle : ¬ nI c ≤ nI j := by rw [i_le, ec, ej]; omega
  have m1 : v ≠ -33 := fun e => by rw [e] at hv; exact absurd hv (by decide)
  have m2 : v ≠ -3 := fun e => by rw [e] at hv; exact absurd hv (by decide)
  have m3 : v ≠ -2 := fun e => by rw [e] at hv; exact absurd hv (by decide)
  have m4 : v ≠ -1 := fun e => by rw [e] at hv; exact absurd hv (by decide)
  have m5 : ¬ v < 0 := by rw [i_lt, ti_0]; omega
  rw [f_X1_workOut_10]
  unfold f_X1_workOut_10_b
  rw [show 40 + u + 8 = 48 + u by omega, g1, if_neg nle, cap_cd hu, ck_k ej (by omega), rd_k ej, show 48 + u + 18 = 66 + u by omega, g2]
  simp only [lt_a]
  rw [if_neg m1, if_neg m2, if_neg m3, if_neg m4, if_neg m5, x_push hu hs e1]
  simp only [bnd_s, nI_1]
