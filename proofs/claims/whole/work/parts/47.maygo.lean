def ripeI (k v sp : Int) : Int := if k = 1 then (if 7 < 7 * v then 7 * v else 7) else if k = 2 then 1 else if k = 3 then 7 else if k = 4 then (if v = 0 then 7 else 1000000) else if k = 5 then (if 1 < v then v else 1) else if k = 6 then (if sp = 1 then 7 else 1000000) else 7
def gbI (f : Nat → Int32) (day sp : Int32) : Int := if f 6 = 0 then (if ripeI (f 0).toInt (f 1).toInt sp.toInt = 1000000 then 1000000 else if 0 < ripeI (f 0).toInt (f 1).toInt sp.toInt - (day.toInt - (f 4).toInt) then ripeI (f 0).toInt (f 1).toInt sp.toInt - (day.toInt - (f 4).toInt) else 0) else 1000000
theorem x_ripe (o : Nat) (sp : Int32) (σ : Sg) (h1 : 0 ≤ (σ o 1).toInt) (h2 : (σ o 1).toInt ≤ 9) : ∃ r, f_X2_ripeAge o sp σ = some (r, σ) ∧ r.toInt = ripeI (σ o 0).toInt (σ o 1).toInt sp.toInt := by
  have t4 : (4 : Int32).toInt = 4 := rfl
  have tM : (1000000 : Int32).toInt = 1000000 := rfl
  have e7 : ((7 : Int32) * σ o 1).toInt = 7 * (σ o 1).toInt := by rw [i_mul (by rw [ti_7]; omega) (by rw [ti_7]; omega), ti_7]
  unfold f_X2_ripeAge ripeI
  rw [lt_a]
  simp only [i_eq, ti_0, ti_1, ti_2, ti_3, ti_4, ti_5, ti_6, ti_7, ti_8, ti_9, ti_10, ti_11, ti_12, ti_13, ti_14, ti_15]
  by_cases z1 : (σ o 0).toInt = 1
  · rw [if_pos z1, if_pos z1]; exact ⟨_, rfl, by rw [i_mx, e7, ti_7]⟩
  rw [if_neg z1, if_neg z1]
  by_cases z2 : (σ o 0).toInt = 2
  · rw [if_pos z2, if_pos z2]; exact ⟨_, rfl, ti_1⟩
  rw [if_neg z2, if_neg z2]
  by_cases z3 : (σ o 0).toInt = 3
  · rw [if_pos z3, if_pos z3]; exact ⟨_, rfl, ti_7⟩
  rw [if_neg z3, if_neg z3]
  by_cases z4 : (σ o 0).toInt = 4
  · rw [if_pos z4, if_pos z4]
    by_cases v0 : (σ o 1).toInt = 0
    · rw [if_pos v0, if_pos v0]; exact ⟨_, rfl, ti_7⟩
    · rw [if_neg v0, if_neg v0]; exact ⟨_, rfl, tM⟩
  rw [if_neg z4, if_neg z4]
  by_cases z5 : (σ o 0).toInt = 5
  · rw [if_pos z5, if_pos z5]; exact ⟨_, rfl, by rw [i_mx, ti_1]⟩
  rw [if_neg z5, if_neg z5]
  by_cases z6 : (σ o 0).toInt = 6
  · rw [if_pos z6, if_pos z6]
    by_cases v0 : sp.toInt = 1
    · rw [if_pos v0, if_pos v0]; exact ⟨_, rfl, ti_7⟩
    · rw [if_neg v0, if_neg v0]; exact ⟨_, rfl, tM⟩
  rw [if_neg z6, if_neg z6]
  exact ⟨_, rfl, ti_7⟩
theorem ripe_b {k v sp : Int} (h1 : 0 ≤ v) (h2 : v ≤ 9) : 1 ≤ ripeI k v sp ∧ ripeI k v sp ≤ 1000000 := by
  unfold ripeI
  repeat' split
  all_goals omega
theorem x_gb (o : Nat) (day sp : Int32) (σ : Sg) (h1 : 0 ≤ (σ o 1).toInt) (h2 : (σ o 1).toInt ≤ 9) (h3 : 0 ≤ (σ o 4).toInt) (h4 : (σ o 4).toInt ≤ day.toInt) (h5 : day.toInt ≤ 20000) : ∃ r, f_X2_goesBehind o day sp σ = some (r, σ) ∧ r.toInt = gbI (σ o) day sp := by
  obtain ⟨r, r1, r2⟩ := x_ripe o sp σ h1 h2
  have rb := ripe_b (k := (σ o 0).toInt) (sp := sp.toInt) h1 h2
  have tM : (1000000 : Int32).toInt = 1000000 := rfl
  have ea : (day - σ o 4).toInt = day.toInt - (σ o 4).toInt := i_sub (by omega) (by omega)
  have er : (r - (day - σ o 4)).toInt = r.toInt - (day.toInt - (σ o 4).toInt) := by rw [i_sub (by rw [ea, r2]; omega) (by rw [ea, r2]; omega), ea]
  unfold f_X2_goesBehind gbI
  rw [r1, bnd_s]
  by_cases z : σ o 6 = 0
  · rw [if_pos z, if_pos z]
    by_cases y : r = 1000000
    · rw [if_pos y, if_pos (by rw [← r2, y, tM])]
      exact ⟨_, rfl, tM⟩
    · rw [if_neg y, if_neg (show ¬ ripeI (σ o 0).toInt (σ o 1).toInt sp.toInt = 1000000 from fun e => y (by rw [i_eq, r2, e, tM]))]
      exact ⟨_, rfl, by rw [i_mx, er, r2, ti_0]⟩
  · rw [if_neg z, if_neg z]
    exact ⟨_, rfl, tM⟩
theorem gb_b {f : Nat → Int32} {D sp : Int32} (h1 : 0 ≤ (f 1).toInt) (h2 : (f 1).toInt ≤ 9) (h3 : 0 ≤ (f 4).toInt) (h4 : (f 4).toInt ≤ D.toInt) : 0 ≤ gbI f D sp ∧ gbI f D sp ≤ 1000000 := by
  have rb := ripe_b (k := (f 0).toInt) (sp := sp.toInt) h1 h2
  unfold gbI
  repeat' split
  all_goals omega
/-- so many days on -/
theorem gb_on {f : Nat → Int32} {D D' sp : Int32} {k : Int} (h1 : 0 ≤ (f 1).toInt) (h2 : (f 1).toInt ≤ 9) (h3 : 0 ≤ (f 4).toInt) (h4 : (f 4).toInt ≤ D.toInt) (hD : D'.toInt = D.toInt + k) (k0 : 0 ≤ k) (k1 : k ≤ 100) (hD2 : D.toInt ≤ 20000) : gbI f D' sp = 0 ↔ gbI f D sp ≤ k := by
  have rb : ripeI (f 0).toInt (f 1).toInt sp.toInt = 1000000 ∨ ripeI (f 0).toInt (f 1).toInt sp.toInt ≤ 63 := by
    unfold ripeI
    repeat' split
    all_goals omega
  have rb2 := (ripe_b (k := (f 0).toInt) (sp := sp.toInt) h1 h2).1
  unfold gbI
  generalize ripeI (f 0).toInt (f 1).toInt sp.toInt = R at *
  rw [hD]
  repeat' split
  all_goals omega
