def bdT (v f : Nat) : Int32 := ([10, 20, 10, 10, 50, 10, 70, 11, 11, 30, 11, 11, 60, 71, 12, 12, 12, 40, 51, 12, 12, 13, 21, 13, 13, 21, 13, 13] : List Int32).getD (7 * v + f) 0
theorem bd_eq (σ : Sg) (m : Nat) : ∀ v f : Nat, v < 4 → f < 7 → f_X8_bodyOf_4 (m + 8) (nI v) (nI f) (0 : Int32) σ = some (bdT v f, σ) := by
  intro v f hv hf
  have hv : v = 0 ∨ v = 1 ∨ v = 2 ∨ v = 3 := by omega
  have hf : f = 0 ∨ f = 1 ∨ f = 2 ∨ f = 3 ∨ f = 4 ∨ f = 5 ∨ f = 6 := by omega
  rcases hv with rfl | rfl | rfl | rfl <;> rcases hf with rfl | rfl | rfl | rfl | rfl | rfl | rfl <;> rfl
theorem x_bodyOf (σ : Sg) (v : Nat) {f : Nat} {vI : Int32} (ev : nI v = vI) (hv : v < 4) (hf : f < 7) : f_X8_bodyOf vI (nI f) σ = some (bdT v f, σ) := by
  obtain ⟨m, hm⟩ : ∃ m, fuN = m + 8 := ⟨fuN - 8, by have := fu_le; omega⟩
  unfold f_X8_bodyOf
  rw [hm, ← ev]; exact bd_eq σ m v f hv hf
theorem wo_10 {d f dep : Nat} (hf : f < 7) (hb : bdT 0 f = 10) (hd : dep ≤ 16) (x : Int32) {σ σ' : Sg} (ha : f_X6_add 57 (10 : Int32) σ = some ((), σ')) : G_X8_workOut (d + 1) (0 : Int32) (nI f) x (nI dep) σ = some (x + σ' 6 3, σ') := by
  have ed : (nI dep).toInt = (dep : Int) := i_nI (by omega)
  rw [G_X8_workOut]
  unfold f_X8_workOut_e
  rw [x_bodyOf σ 0 (show nI 0 = (0 : Int32) from rfl) (by decide) hf, hb, bnd_s, if_neg (show ¬ (10 : Int32) = 0 by decide), if_pos (show nI dep ≤ (16 : Int32) by rw [i_le, ed]; show _ ≤ (16 : Int); omega), ha, bnd_s, ckb_t (show inb ((10 : Int32) / (10 : Int32) - (1 : Int32)) 7 = true by decide), lt_a, lt_a, nI_1, if_pos rfl]
theorem wo_11 {d f dep : Nat} (hf : f < 7) (hb : bdT 1 f = 11) (hd : dep ≤ 16) (x : Int32) {σ σ' : Sg} (ha : f_X6_add 57 (11 : Int32) σ = some ((), σ')) : G_X8_workOut (d + 1) (1 : Int32) (nI f) x (nI dep) σ = bnd (G_X8_workOut d (0 : Int32) (σ' 6 2) x (nI (dep + 1)) σ') (fun r s => some (r * (2 : Int32), s)) := by
  have ed : (nI dep).toInt = (dep : Int) := i_nI (by omega)
  rw [G_X8_workOut]
  unfold f_X8_workOut_e
  rw [x_bodyOf σ 1 (show nI 1 = (1 : Int32) from rfl) (by decide) hf, hb, bnd_s, if_neg (show ¬ (11 : Int32) = 0 by decide), if_pos (show nI dep ≤ (16 : Int32) by rw [i_le, ed]; show _ ≤ (16 : Int); omega), ha, bnd_s, ckb_t (show inb ((11 : Int32) / (10 : Int32) - (1 : Int32)) 7 = true by decide), lt_a, lt_a, nI_1, if_neg (show ¬ (11 : Int32) = 10 by decide), if_pos rfl]
theorem wo_12 {d f dep : Nat} (hf : f < 7) (hb : bdT 2 f = 12) (hd : dep ≤ 16) (x : Int32) {σ σ' : Sg} (ha : f_X6_add 57 (12 : Int32) σ = some ((), σ')) : G_X8_workOut (d + 1) (2 : Int32) (nI f) x (nI dep) σ = bnd (G_X8_workOut d (1 : Int32) (σ' 6 2) x (nI (dep + 1)) σ') (fun r s => some (r - s 6 4, s)) := by
  have ed : (nI dep).toInt = (dep : Int) := i_nI (by omega)
  rw [G_X8_workOut]
  unfold f_X8_workOut_e
  rw [x_bodyOf σ 2 (show nI 2 = (2 : Int32) from rfl) (by decide) hf, hb, bnd_s, if_neg (show ¬ (12 : Int32) = 0 by decide), if_pos (show nI dep ≤ (16 : Int32) by rw [i_le, ed]; show _ ≤ (16 : Int); omega), ha, bnd_s, ckb_t (show inb ((12 : Int32) / (10 : Int32) - (1 : Int32)) 7 = true by decide), lt_a, lt_a, nI_1, if_neg (show ¬ (12 : Int32) = 10 by decide), if_neg (show ¬ (12 : Int32) = 11 by decide), if_pos rfl]
theorem wo_13 {d f dep : Nat} (hf : f < 7) (hb : bdT 3 f = 13) (hd : dep ≤ 16) (x : Int32) {σ σ' : Sg} (ha : f_X6_add 57 (13 : Int32) σ = some ((), σ')) : G_X8_workOut (d + 1) (3 : Int32) (nI f) x (nI dep) σ = bnd (f_X8_divided x σ') (fun r s => some (r, s)) := by
  have ed : (nI dep).toInt = (dep : Int) := i_nI (by omega)
  rw [G_X8_workOut]
  unfold f_X8_workOut_e
  rw [x_bodyOf σ 3 (show nI 3 = (3 : Int32) from rfl) (by decide) hf, hb, bnd_s, if_neg (show ¬ (13 : Int32) = 0 by decide), if_pos (show nI dep ≤ (16 : Int32) by rw [i_le, ed]; show _ ≤ (16 : Int); omega), ha, bnd_s, ckb_t (show inb ((13 : Int32) / (10 : Int32) - (1 : Int32)) 7 = true by decide), lt_a, lt_a, nI_1, if_neg (show ¬ (13 : Int32) = 10 by decide), if_neg (show ¬ (13 : Int32) = 11 by decide), if_neg (show ¬ (13 : Int32) = 12 by decide), if_pos rfl]
theorem wo_20 {d f dep : Nat} (hf : f < 7) (hb : bdT 0 f = 20) (hd : dep ≤ 16) (x : Int32) {σ σ' : Sg} (ha : f_X6_add 57 (20 : Int32) σ = some ((), σ')) : G_X8_workOut (d + 1) (0 : Int32) (nI f) x (nI dep) σ = bnd (G_X8_workOut d (0 : Int32) (nI 0) x (nI (dep + 1)) σ') (fun r s => some (r - (4 : Int32), s)) := by
  have ed : (nI dep).toInt = (dep : Int) := i_nI (by omega)
  rw [G_X8_workOut]
  unfold f_X8_workOut_e
  rw [x_bodyOf σ 0 (show nI 0 = (0 : Int32) from rfl) (by decide) hf, hb, bnd_s, if_neg (show ¬ (20 : Int32) = 0 by decide), if_pos (show nI dep ≤ (16 : Int32) by rw [i_le, ed]; show _ ≤ (16 : Int); omega), ha, bnd_s, ckb_t (show inb ((20 : Int32) / (10 : Int32) - (1 : Int32)) 7 = true by decide), lt_a, lt_a, nI_1, if_neg (show ¬ (20 : Int32) = 10 by decide), if_neg (show ¬ (20 : Int32) = 11 by decide), if_neg (show ¬ (20 : Int32) = 12 by decide), if_neg (show ¬ (20 : Int32) = 13 by decide), if_pos rfl]
  rw [show tbl lK ((20 : Int32) / (10 : Int32) - (1 : Int32)) = nI 0 by decide]
theorem wo_21 {d f dep : Nat} (hf : f < 7) (hb : bdT 3 f = 21) (hd : dep ≤ 16) (x : Int32) {σ σ' : Sg} (ha : f_X6_add 57 (21 : Int32) σ = some ((), σ')) : G_X8_workOut (d + 1) (3 : Int32) (nI f) x (nI dep) σ = bnd (G_X8_workOut d (3 : Int32) (nI 0) x (nI (dep + 1)) σ') (fun r s => if s 6 1 = 0 then bnd (G_X8_workOut d (1 : Int32) (s 6 2) (1 : Int32) (nI (dep + 1)) s) (fun r2 s2 => some (r + r2, s2)) else some ((0 : Int32), s)) := by
  have ed : (nI dep).toInt = (dep : Int) := i_nI (by omega)
  rw [G_X8_workOut]
  unfold f_X8_workOut_e
  rw [x_bodyOf σ 3 (show nI 3 = (3 : Int32) from rfl) (by decide) hf, hb, bnd_s, if_neg (show ¬ (21 : Int32) = 0 by decide), if_pos (show nI dep ≤ (16 : Int32) by rw [i_le, ed]; show _ ≤ (16 : Int); omega), ha, bnd_s, ckb_t (show inb ((21 : Int32) / (10 : Int32) - (1 : Int32)) 7 = true by decide), lt_a, lt_a, nI_1, if_neg (show ¬ (21 : Int32) = 10 by decide), if_neg (show ¬ (21 : Int32) = 11 by decide), if_neg (show ¬ (21 : Int32) = 12 by decide), if_neg (show ¬ (21 : Int32) = 13 by decide), if_neg (show ¬ (21 : Int32) = 20 by decide), if_pos rfl]
  rw [show tbl lK ((21 : Int32) / (10 : Int32) - (1 : Int32)) = nI 0 by decide]
theorem wo_30 {d f dep : Nat} (hf : f < 7) (hb : bdT 1 f = 30) (hd : dep ≤ 16) (x : Int32) {σ σ' : Sg} (ha : f_X6_add 57 (30 : Int32) σ = some ((), σ')) : G_X8_workOut (d + 1) (1 : Int32) (nI f) x (nI dep) σ = bnd (G_X8_workOut d (1 : Int32) (nI 0) x (nI (dep + 1)) σ') (fun r s => some ((0 : Int32) - r, s)) := by
  have ed : (nI dep).toInt = (dep : Int) := i_nI (by omega)
  rw [G_X8_workOut]
  unfold f_X8_workOut_e
  rw [x_bodyOf σ 1 (show nI 1 = (1 : Int32) from rfl) (by decide) hf, hb, bnd_s, if_neg (show ¬ (30 : Int32) = 0 by decide), if_pos (show nI dep ≤ (16 : Int32) by rw [i_le, ed]; show _ ≤ (16 : Int); omega), ha, bnd_s, ckb_t (show inb ((30 : Int32) / (10 : Int32) - (1 : Int32)) 7 = true by decide), lt_a, lt_a, nI_1, if_neg (show ¬ (30 : Int32) = 10 by decide), if_neg (show ¬ (30 : Int32) = 11 by decide), if_neg (show ¬ (30 : Int32) = 12 by decide), if_neg (show ¬ (30 : Int32) = 13 by decide), if_neg (show ¬ (30 : Int32) = 20 by decide), if_neg (show ¬ (30 : Int32) = 21 by decide), if_pos rfl]
  rw [show tbl lK ((30 : Int32) / (10 : Int32) - (1 : Int32)) = nI 0 by decide]
theorem wo_40 {d f dep : Nat} (hf : f < 7) (hb : bdT 2 f = 40) (hd : dep ≤ 16) (x : Int32) {σ σ' : Sg} (ha : f_X6_add 57 (40 : Int32) σ = some ((), σ')) : G_X8_workOut (d + 1) (2 : Int32) (nI f) x (nI dep) σ = bnd (G_X8_workOut d (2 : Int32) (nI 0) (x / (2 : Int32)) (nI (dep + 1)) σ') (fun r s => some (r, s)) := by
  have ed : (nI dep).toInt = (dep : Int) := i_nI (by omega)
  rw [G_X8_workOut]
  unfold f_X8_workOut_e
  rw [x_bodyOf σ 2 (show nI 2 = (2 : Int32) from rfl) (by decide) hf, hb, bnd_s, if_neg (show ¬ (40 : Int32) = 0 by decide), if_pos (show nI dep ≤ (16 : Int32) by rw [i_le, ed]; show _ ≤ (16 : Int); omega), ha, bnd_s, ckb_t (show inb ((40 : Int32) / (10 : Int32) - (1 : Int32)) 7 = true by decide), lt_a, lt_a, nI_1, if_neg (show ¬ (40 : Int32) = 10 by decide), if_neg (show ¬ (40 : Int32) = 11 by decide), if_neg (show ¬ (40 : Int32) = 12 by decide), if_neg (show ¬ (40 : Int32) = 13 by decide), if_neg (show ¬ (40 : Int32) = 20 by decide), if_neg (show ¬ (40 : Int32) = 21 by decide), if_neg (show ¬ (40 : Int32) = 30 by decide), if_pos rfl]
  rw [show tbl lK ((40 : Int32) / (10 : Int32) - (1 : Int32)) = nI 0 by decide]
theorem wo_50 {d f dep : Nat} (hf : f < 7) (hb : bdT 0 f = 50) (hd : dep ≤ 16) (x : Int32) {σ σ' : Sg} (ha : f_X6_add 57 (50 : Int32) σ = some ((), σ')) : G_X8_workOut (d + 1) (0 : Int32) (nI f) x (nI dep) σ = bnd (G_X8_workOut d (0 : Int32) (nI 1) x (nI (dep + 1)) σ') (fun r s => some (r * (3 : Int32), s)) := by
  have ed : (nI dep).toInt = (dep : Int) := i_nI (by omega)
  rw [G_X8_workOut]
  unfold f_X8_workOut_e
  rw [x_bodyOf σ 0 (show nI 0 = (0 : Int32) from rfl) (by decide) hf, hb, bnd_s, if_neg (show ¬ (50 : Int32) = 0 by decide), if_pos (show nI dep ≤ (16 : Int32) by rw [i_le, ed]; show _ ≤ (16 : Int); omega), ha, bnd_s, ckb_t (show inb ((50 : Int32) / (10 : Int32) - (1 : Int32)) 7 = true by decide), lt_a, lt_a, nI_1, if_neg (show ¬ (50 : Int32) = 10 by decide), if_neg (show ¬ (50 : Int32) = 11 by decide), if_neg (show ¬ (50 : Int32) = 12 by decide), if_neg (show ¬ (50 : Int32) = 13 by decide), if_neg (show ¬ (50 : Int32) = 20 by decide), if_neg (show ¬ (50 : Int32) = 21 by decide), if_neg (show ¬ (50 : Int32) = 30 by decide), if_neg (show ¬ (50 : Int32) = 40 by decide), if_pos rfl]
  rw [show tbl lK ((50 : Int32) / (10 : Int32) - (1 : Int32)) = nI 1 by decide]
theorem wo_51 {d f dep : Nat} (hf : f < 7) (hb : bdT 2 f = 51) (hd : dep ≤ 16) (x : Int32) {σ σ' : Sg} (ha : f_X6_add 57 (51 : Int32) σ = some ((), σ')) : G_X8_workOut (d + 1) (2 : Int32) (nI f) x (nI dep) σ = bnd (G_X8_workOut d (2 : Int32) (nI 1) x (nI (dep + 1)) σ') (fun r s => some (r ^^^ s 6 3, s)) := by
  have ed : (nI dep).toInt = (dep : Int) := i_nI (by omega)
  rw [G_X8_workOut]
  unfold f_X8_workOut_e
  rw [x_bodyOf σ 2 (show nI 2 = (2 : Int32) from rfl) (by decide) hf, hb, bnd_s, if_neg (show ¬ (51 : Int32) = 0 by decide), if_pos (show nI dep ≤ (16 : Int32) by rw [i_le, ed]; show _ ≤ (16 : Int); omega), ha, bnd_s, ckb_t (show inb ((51 : Int32) / (10 : Int32) - (1 : Int32)) 7 = true by decide), lt_a, lt_a, nI_1, if_neg (show ¬ (51 : Int32) = 10 by decide), if_neg (show ¬ (51 : Int32) = 11 by decide), if_neg (show ¬ (51 : Int32) = 12 by decide), if_neg (show ¬ (51 : Int32) = 13 by decide), if_neg (show ¬ (51 : Int32) = 20 by decide), if_neg (show ¬ (51 : Int32) = 21 by decide), if_neg (show ¬ (51 : Int32) = 30 by decide), if_neg (show ¬ (51 : Int32) = 40 by decide), if_neg (show ¬ (51 : Int32) = 50 by decide), if_pos rfl]
  rw [show tbl lK ((51 : Int32) / (10 : Int32) - (1 : Int32)) = nI 1 by decide]
theorem wo_60 {d f dep : Nat} (hf : f < 7) (hb : bdT 1 f = 60) (hd : dep ≤ 16) (x : Int32) {σ σ' : Sg} (ha : f_X6_add 57 (60 : Int32) σ = some ((), σ')) : G_X8_workOut (d + 1) (1 : Int32) (nI f) x (nI dep) σ = bnd (G_X8_workOut d (1 : Int32) (nI 2) (x + (1 : Int32)) (nI (dep + 1)) σ') (fun r s => some (r, s)) := by
  have ed : (nI dep).toInt = (dep : Int) := i_nI (by omega)
  rw [G_X8_workOut]
  unfold f_X8_workOut_e
  rw [x_bodyOf σ 1 (show nI 1 = (1 : Int32) from rfl) (by decide) hf, hb, bnd_s, if_neg (show ¬ (60 : Int32) = 0 by decide), if_pos (show nI dep ≤ (16 : Int32) by rw [i_le, ed]; show _ ≤ (16 : Int); omega), ha, bnd_s, ckb_t (show inb ((60 : Int32) / (10 : Int32) - (1 : Int32)) 7 = true by decide), lt_a, lt_a, nI_1, if_neg (show ¬ (60 : Int32) = 10 by decide), if_neg (show ¬ (60 : Int32) = 11 by decide), if_neg (show ¬ (60 : Int32) = 12 by decide), if_neg (show ¬ (60 : Int32) = 13 by decide), if_neg (show ¬ (60 : Int32) = 20 by decide), if_neg (show ¬ (60 : Int32) = 21 by decide), if_neg (show ¬ (60 : Int32) = 30 by decide), if_neg (show ¬ (60 : Int32) = 40 by decide), if_neg (show ¬ (60 : Int32) = 50 by decide), if_neg (show ¬ (60 : Int32) = 51 by decide), if_pos rfl]
  rw [show tbl lK ((60 : Int32) / (10 : Int32) - (1 : Int32)) = nI 2 by decide]
theorem wo_70 {d f dep : Nat} (hf : f < 7) (hb : bdT 0 f = 70) (hd : dep ≤ 16) (x : Int32) {σ σ' : Sg} (ha : f_X6_add 57 (70 : Int32) σ = some ((), σ')) : G_X8_workOut (d + 1) (0 : Int32) (nI f) x (nI dep) σ = some ((9 : Int32), σ') := by
  have ed : (nI dep).toInt = (dep : Int) := i_nI (by omega)
  rw [G_X8_workOut]
  unfold f_X8_workOut_e
  rw [x_bodyOf σ 0 (show nI 0 = (0 : Int32) from rfl) (by decide) hf, hb, bnd_s, if_neg (show ¬ (70 : Int32) = 0 by decide), if_pos (show nI dep ≤ (16 : Int32) by rw [i_le, ed]; show _ ≤ (16 : Int); omega), ha, bnd_s, ckb_t (show inb ((70 : Int32) / (10 : Int32) - (1 : Int32)) 7 = true by decide), lt_a, lt_a, nI_1, if_neg (show ¬ (70 : Int32) = 10 by decide), if_neg (show ¬ (70 : Int32) = 11 by decide), if_neg (show ¬ (70 : Int32) = 12 by decide), if_neg (show ¬ (70 : Int32) = 13 by decide), if_neg (show ¬ (70 : Int32) = 20 by decide), if_neg (show ¬ (70 : Int32) = 21 by decide), if_neg (show ¬ (70 : Int32) = 30 by decide), if_neg (show ¬ (70 : Int32) = 40 by decide), if_neg (show ¬ (70 : Int32) = 50 by decide), if_neg (show ¬ (70 : Int32) = 51 by decide), if_neg (show ¬ (70 : Int32) = 60 by decide), if_pos rfl]
theorem wo_71 {d f dep : Nat} (hf : f < 7) (hb : bdT 1 f = 71) (hd : dep ≤ 16) (x : Int32) {σ σ' : Sg} (ha : f_X6_add 57 (71 : Int32) σ = some ((), σ')) : G_X8_workOut (d + 1) (1 : Int32) (nI f) x (nI dep) σ = bnd (G_X8_workOut d (1 : Int32) (nI 0) x (nI (dep + 1)) σ') (fun r s => some (r + s 6 4, s)) := by
  have ed : (nI dep).toInt = (dep : Int) := i_nI (by omega)
  rw [G_X8_workOut]
  unfold f_X8_workOut_e
  rw [x_bodyOf σ 1 (show nI 1 = (1 : Int32) from rfl) (by decide) hf, hb, bnd_s, if_neg (show ¬ (71 : Int32) = 0 by decide), if_pos (show nI dep ≤ (16 : Int32) by rw [i_le, ed]; show _ ≤ (16 : Int); omega), ha, bnd_s, ckb_t (show inb ((71 : Int32) / (10 : Int32) - (1 : Int32)) 7 = true by decide), lt_a, lt_a, nI_1, if_neg (show ¬ (71 : Int32) = 10 by decide), if_neg (show ¬ (71 : Int32) = 11 by decide), if_neg (show ¬ (71 : Int32) = 12 by decide), if_neg (show ¬ (71 : Int32) = 13 by decide), if_neg (show ¬ (71 : Int32) = 20 by decide), if_neg (show ¬ (71 : Int32) = 21 by decide), if_neg (show ¬ (71 : Int32) = 30 by decide), if_neg (show ¬ (71 : Int32) = 40 by decide), if_neg (show ¬ (71 : Int32) = 50 by decide), if_neg (show ¬ (71 : Int32) = 51 by decide), if_neg (show ¬ (71 : Int32) = 60 by decide), if_neg (show ¬ (71 : Int32) = 70 by decide), if_pos rfl]
  rw [show tbl lK ((71 : Int32) / (10 : Int32) - (1 : Int32)) = nI 0 by decide]
def VR (K l : Nat) (M : Int32) (σ0 τ0 σ τ : Sg) : Prop := (∀ k, k ≠ 57 → k ≠ 75 → k ≠ 6 → σ k = σ0 k) ∧ (∀ k, k ≠ 0 → k ≠ 13 → τ k = τ0 k) ∧ (∀ j, j ≠ 19 → j ≠ 20 → τ 0 j = τ0 0 j) ∧ Sq 30 (σ 57 1) (σ 75) (τ 0 19) (τ 13) ∧ σ 6 1 = τ 0 20 ∧ σ 6 2 = nI K ∧ σ 6 3 = nI l ∧ σ 6 4 = M ∧ τ0 1 (12 + 7 * l + 0) = nI K ∧ τ0 1 (12 + 7 * l + 1) = M
theorem vr_begin {K l : Nat} {M : Int32} {σ0 τ0 σ τ : Sg} (h : VR K l M σ0 τ0 σ τ) (b : Int32) : ∃ σ' τ', f_X6_add 57 b σ = some ((), σ') ∧ f_X10_begins b τ = some ((), τ') ∧ VR K l M σ0 τ0 σ' τ' ∧ σ' 6 = σ 6 := by
  obtain ⟨h1, h2, h3, ⟨t, h4, h5, h6, h7⟩, h8, h9, h10, h11, h12, h13⟩ := h
  have et : (nI t).toInt = (t : Int) := i_nI (by omega)
  have t30 : (30 : Int32).toInt = 30 := rfl
  by_cases ht : t < 30
  · refine ⟨_, up (up τ 13 t b) 0 19 (nI (t + 1)), x_add h5 (show t < capC (57 + 18) from ht), ?_, ⟨fun k a c d => by rw [up_row a, up_row c, h1 k a c d], fun k a c => ?_, fun j a c => ?_, ⟨t + 1, by omega, up_s, ?_, fun j hj => ?_⟩, ?_, ?_, ?_, ?_, h12, h13⟩, ?_⟩
    · unfold f_X10_begins
      rw [h6, if_neg (by rw [i_le, et, t30]; omega), ck_k et ht, tn_k et, lt_a, lt_a, up_k (by decide), h6, nI_1]
    · rw [up_row a, up_row c, h2 k a c]
    · rw [up_i a, up_k (by decide), h3 j a c]
    · rw [up_s]
    · show up (up τ 13 t b) 0 19 _ 13 j = up (up σ 75 t b) 57 1 _ 75 j
      rw [up_k (σ := up τ 13 t b) (by decide), up_k (σ := up σ 75 t b) (by decide)]
      by_cases hjt : j = t
      · subst hjt; rw [up_s, up_s]
      · rw [up_i hjt, up_i hjt]; exact h7 j (by omega)
    · rw [up_k (by decide), up_k (by decide), up_i (by decide), up_k (by decide)]; exact h8
    · rw [up_k (by decide), up_k (by decide)]; exact h9
    · rw [up_k (by decide), up_k (by decide)]; exact h10
    · rw [up_k (by decide), up_k (by decide)]; exact h11
    · rw [up_row (by decide), up_row (by decide)]
  · have t3 : t = 30 := by omega
    subst t3
    refine ⟨σ, τ, ?_, ?_, ⟨h1, h2, h3, ⟨30, h4, h5, h6, h7⟩, h8, h9, h10, h11, h12, h13⟩, rfl⟩
    · unfold f_X6_add
      rw [h5, if_pos (by decide)]
    · unfold f_X10_begins
      rw [h6, if_pos (by decide)]
def Rv (K l : Nat) (M : Int32) (σ0 τ0 : Sg) (F G : Sg → Option (Int32 × Sg)) : Prop := ∀ σ τ, VR K l M σ0 τ0 σ τ → σ 6 1 = 0 → ∃ r σ' τ', F σ = some (r, σ') ∧ G τ = some (r, τ') ∧ VR K l M σ0 τ0 σ' τ' ∧ σ' 6 1 = 0
theorem vr_kind {K l : Nat} (hl : l < 10) {M : Int32} {σ0 τ0 σ τ : Sg} (h : VR K l M σ0 τ0 σ τ) : f_X10_it (nI l) (0 : Int32) τ = some (nI K, τ) := by
  rw [m_it 0 hl rfl (by decide), h.2.1 1 (by decide) (by decide), h.2.2.2.2.2.2.2.2.1]
theorem vr_m {K l : Nat} (hl : l < 10) {M : Int32} {σ0 τ0 σ τ : Sg} (h : VR K l M σ0 τ0 σ τ) : f_X10_it (nI l) (1 : Int32) τ = some (M, τ) := by
  rw [m_it 1 hl rfl (by decide), h.2.1 1 (by decide) (by decide), h.2.2.2.2.2.2.2.2.2]
theorem bid {ρ : Type} (x : Option (ρ × Sg)) : bnd x (fun r s => some (r, s)) = x := by
  cases x with
  | none => rfl
  | some y => rfl
theorem v_s0 {K l : Nat} {M : Int32} {σ0 τ0 : Sg} (d : Nat) {f dep : Nat} (hf : f < 7) (hb : bdT 0 f = 10) (hd : dep ≤ 16) (x : Int32) : Rv K l M σ0 τ0 (G_X8_workOut (d + 1) (0 : Int32) (nI f) x (nI dep)) (f_X10_plainSqueaks (nI l) x) := by
  intro σ τ h z
  obtain ⟨σ1, τ1, a1, a2, a3, a4⟩ := vr_begin h 10
  rw [wo_10 hf hb hd x a1]
  unfold f_X10_plainSqueaks
  rw [a2, bnd_s, a3.2.2.2.2.2.2.1]
  exact ⟨_, _, _, rfl, rfl, a3, by rw [a4]; exact z⟩
theorem v_s1 {K l : Nat} {M : Int32} {σ0 τ0 : Sg} (d : Nat) {dep : Nat} (hd : dep ≤ 15) (x : Int32) : Rv K l M σ0 τ0 (G_X8_workOut (d + 2) (0 : Int32) (nI 1) x (nI dep)) (f_X10_sumSqueaks (nI l) x) := by
  intro σ τ h z
  obtain ⟨σ1, τ1, a1, a2, a3, a4⟩ := vr_begin h 20
  rw [show d + 2 = (d + 1) + 1 by omega, wo_20 (by decide) (by decide) (by omega) x a1]
  unfold f_X10_sumSqueaks
  rw [a2, bnd_s]
  obtain ⟨r, σ2, τ2, b1, b2, b3, b4⟩ := v_s0 d (f := 0) (dep := dep + 1) (by decide) (by decide) (by omega) x σ1 τ1 a3 (by rw [a4]; exact z)
  rw [b1, b2, bnd_s, bnd_s]
  exact ⟨_, _, _, rfl, rfl, b3, b4⟩
theorem v_s {K l : Nat} (hl : l < 10) {M : Int32} {σ0 τ0 : Sg} (d : Nat) {dep : Nat} (hK : K < 7) (hd : dep ≤ 14) (x : Int32) : Rv K l M σ0 τ0 (G_X8_workOut (d + 3) (0 : Int32) (nI K) x (nI dep)) (f_X10_squeaks (nI l) x) := by
  intro σ τ h z
  unfold f_X10_squeaks
  rw [vr_kind hl h, bnd_s]
  simp only [bid]
  have c : K = 0 ∨ K = 1 ∨ K = 2 ∨ K = 3 ∨ K = 4 ∨ K = 5 ∨ K = 6 := by omega
  have plain : ∀ f, f < 7 → bdT 0 f = 10 → ∃ r σ' τ', G_X8_workOut (d + 3) (0 : Int32) (nI f) x (nI dep) σ = some (r, σ') ∧ f_X10_plainSqueaks (nI l) x τ = some (r, τ') ∧ VR K l M σ0 τ0 σ' τ' ∧ σ' 6 1 = 0 := fun f hf hb => v_s0 (d + 2) hf hb (by omega) x σ τ h z
  rcases c with rfl | rfl | rfl | rfl | rfl | rfl | rfl
  · rw [if_neg (by decide), if_neg (by decide), if_neg (by decide)]; exact plain 0 (by decide) (by decide)
  · rw [if_pos (by decide)]; exact v_s1 (d + 1) (by omega) x σ τ h z
  · rw [if_neg (by decide), if_neg (by decide), if_neg (by decide)]; exact plain 2 (by decide) (by decide)
  · rw [if_neg (by decide), if_neg (by decide), if_neg (by decide)]; exact plain 3 (by decide) (by decide)
  · rw [if_neg (by decide), if_pos (by decide)]
    obtain ⟨σ1, τ1, a1, a2, a3, a4⟩ := vr_begin h 50
    rw [show d + 3 = (d + 2) + 1 by omega, wo_50 (by decide) (by decide) (by omega) x a1, a2, bnd_s]
    obtain ⟨r, σ2, τ2, b1, b2, b3, b4⟩ := v_s1 d (dep := dep + 1) (by omega) x σ1 τ1 a3 (by rw [a4]; exact z)
    rw [b1, b2, bnd_s, bnd_s]
    exact ⟨_, _, _, rfl, rfl, b3, b4⟩
  · rw [if_neg (by decide), if_neg (by decide), if_neg (by decide)]; exact plain 5 (by decide) (by decide)
  · rw [if_neg (by decide), if_neg (by decide), if_pos (by decide)]
    obtain ⟨σ1, τ1, a1, a2, a3, a4⟩ := vr_begin h 70
    rw [show d + 3 = (d + 2) + 1 by omega, wo_70 (by decide) (by decide) (by omega) x a1, a2, bnd_s]
    exact ⟨_, _, _, rfl, rfl, a3, by rw [a4]; exact z⟩
theorem v_m0 {K l : Nat} (hl : l < 10) {M : Int32} {σ0 τ0 : Sg} (d : Nat) {f dep : Nat} (hK : K < 7) (hf : f < 7) (hb : bdT 1 f = 11) (hd : dep ≤ 13) (x : Int32) : Rv K l M σ0 τ0 (G_X8_workOut (d + 4) (1 : Int32) (nI f) x (nI dep)) (f_X10_plainSmears (nI l) x) := by
  intro σ τ h z
  obtain ⟨σ1, τ1, a1, a2, a3, a4⟩ := vr_begin h 11
  rw [show d + 4 = (d + 3) + 1 by omega, wo_11 hf hb (by omega) x a1]
  unfold f_X10_plainSmears
  rw [a2, bnd_s, a3.2.2.2.2.2.1]
  obtain ⟨r, σ2, τ2, b1, b2, b3, b4⟩ := v_s hl d (dep := dep + 1) hK (by omega) x σ1 τ1 a3 (by rw [a4]; exact z)
  rw [b1, b2, bnd_s, bnd_s]
  exact ⟨_, _, _, rfl, rfl, b3, b4⟩
theorem v_m2 {K l : Nat} (hl : l < 10) {M : Int32} {σ0 τ0 : Sg} (d : Nat) {dep : Nat} (hK : K < 7) (hd : dep ≤ 12) (x : Int32) : Rv K l M σ0 τ0 (G_X8_workOut (d + 5) (1 : Int32) (nI 2) x (nI dep)) (f_X10_arrowSmears (nI l) x) := by
  intro σ τ h z
  obtain ⟨σ1, τ1, a1, a2, a3, a4⟩ := vr_begin h 30
  rw [show d + 5 = (d + 4) + 1 by omega, wo_30 (by decide) (by decide) (by omega) x a1]
  unfold f_X10_arrowSmears
  rw [a2, bnd_s]
  obtain ⟨r, σ2, τ2, b1, b2, b3, b4⟩ := v_m0 hl d (f := 0) (dep := dep + 1) hK (by decide) (by decide) (by omega) x σ1 τ1 a3 (by rw [a4]; exact z)
  rw [b1, b2, bnd_s, bnd_s, Int32.zero_sub]
  exact ⟨_, _, _, rfl, rfl, b3, b4⟩
theorem v_m {K l : Nat} (hl : l < 10) {M : Int32} {σ0 τ0 : Sg} (d : Nat) {dep : Nat} (hK : K < 7) (hd : dep ≤ 11) (x : Int32) : Rv K l M σ0 τ0 (G_X8_workOut (d + 6) (1 : Int32) (nI K) x (nI dep)) (f_X10_smears (nI l) x) := by
  intro σ τ h z
  unfold f_X10_smears
  rw [vr_kind hl h, bnd_s]
  simp only [bid]
  have c : K = 0 ∨ K = 1 ∨ K = 2 ∨ K = 3 ∨ K = 4 ∨ K = 5 ∨ K = 6 := by omega
  have plain : ∀ f, f < 7 → bdT 1 f = 11 → ∃ r σ' τ', G_X8_workOut (d + 6) (1 : Int32) (nI f) x (nI dep) σ = some (r, σ') ∧ f_X10_plainSmears (nI l) x τ = some (r, τ') ∧ VR K l M σ0 τ0 σ' τ' ∧ σ' 6 1 = 0 := fun f hf hb => v_m0 hl (d + 2) hK hf hb (by omega) x σ τ h z
  rcases c with rfl | rfl | rfl | rfl | rfl | rfl | rfl
  · rw [if_neg (by decide), if_neg (by decide), if_neg (by decide), if_neg (by decide), if_neg (by decide)]; exact plain 0 (by decide) (by decide)
  · rw [if_neg (by decide), if_neg (by decide), if_neg (by decide), if_neg (by decide), if_neg (by decide)]; exact plain 1 (by decide) (by decide)
  · rw [if_pos (by decide)]; exact v_m2 hl (d + 1) (by decide) (by omega) x σ τ h z
  · rw [if_neg (by decide), if_pos (by decide)]; exact plain 3 (by decide) (by decide)
  · rw [if_neg (by decide), if_neg (by decide), if_pos (by decide)]; exact plain 4 (by decide) (by decide)
  · rw [if_neg (by decide), if_neg (by decide), if_neg (by decide), if_pos (by decide)]
    obtain ⟨σ1, τ1, a1, a2, a3, a4⟩ := vr_begin h 60
    rw [show d + 6 = (d + 5) + 1 by omega, wo_60 (by decide) (by decide) (by omega) x a1, a2, bnd_s]
    obtain ⟨r, σ2, τ2, b1, b2, b3, b4⟩ := v_m2 hl d (dep := dep + 1) (by decide) (by omega) (x + 1) σ1 τ1 a3 (by rw [a4]; exact z)
    rw [b1, b2, bnd_s]
    exact ⟨_, _, _, rfl, rfl, b3, b4⟩
  · rw [if_neg (by decide), if_neg (by decide), if_neg (by decide), if_neg (by decide), if_pos (by decide)]
    obtain ⟨σ1, τ1, a1, a2, a3, a4⟩ := vr_begin h 71
    rw [show d + 6 = (d + 5) + 1 by omega, wo_71 (by decide) (by decide) (by omega) x a1, a2, bnd_s]
    obtain ⟨r, σ2, τ2, b1, b2, b3, b4⟩ := v_m0 hl (d + 1) (f := 0) (dep := dep + 1) (by decide) (by decide) (by decide) (by omega) x σ1 τ1 a3 (by rw [a4]; exact z)
    rw [b1, b2, bnd_s, bnd_s, vr_m hl b3, bnd_s, b3.2.2.2.2.2.2.2.1]
    exact ⟨_, _, _, rfl, rfl, b3, b4⟩
theorem v_t0 {K l : Nat} (hl : l < 10) {M : Int32} {σ0 τ0 : Sg} (d : Nat) {f dep : Nat} (hK : K < 7) (hf : f < 7) (hb : bdT 2 f = 12) (hd : dep ≤ 10) (x : Int32) : Rv K l M σ0 τ0 (G_X8_workOut (d + 7) (2 : Int32) (nI f) x (nI dep)) (f_X10_plainStays (nI l) x) := by
  intro σ τ h z
  obtain ⟨σ1, τ1, a1, a2, a3, a4⟩ := vr_begin h 12
  rw [show d + 7 = (d + 6) + 1 by omega, wo_12 hf hb (by omega) x a1]
  unfold f_X10_plainStays
  rw [a2, bnd_s, a3.2.2.2.2.2.1]
  obtain ⟨r, σ2, τ2, b1, b2, b3, b4⟩ := v_m hl d (dep := dep + 1) hK (by omega) x σ1 τ1 a3 (by rw [a4]; exact z)
  rw [b1, b2, bnd_s, bnd_s, vr_m hl b3, bnd_s, b3.2.2.2.2.2.2.2.1]
  exact ⟨_, _, _, rfl, rfl, b3, b4⟩
theorem v_t {K l : Nat} (hl : l < 10) {M : Int32} {σ0 τ0 : Sg} (d : Nat) {dep : Nat} (hK : K < 7) (hd : dep ≤ 9) (x : Int32) : Rv K l M σ0 τ0 (G_X8_workOut (d + 8) (2 : Int32) (nI K) x (nI dep)) (f_X10_stays (nI l) x) := by
  intro σ τ h z
  unfold f_X10_stays
  rw [vr_kind hl h, bnd_s]
  simp only [bid]
  have c : K = 0 ∨ K = 1 ∨ K = 2 ∨ K = 3 ∨ K = 4 ∨ K = 5 ∨ K = 6 := by omega
  have plain : ∀ f, f < 7 → bdT 2 f = 12 → ∃ r σ' τ', G_X8_workOut (d + 8) (2 : Int32) (nI f) x (nI dep) σ = some (r, σ') ∧ f_X10_plainStays (nI l) x τ = some (r, τ') ∧ VR K l M σ0 τ0 σ' τ' ∧ σ' 6 1 = 0 := fun f hf hb => v_t0 hl (d + 1) hK hf hb (by omega) x σ τ h z
  rcases c with rfl | rfl | rfl | rfl | rfl | rfl | rfl
  · rw [if_neg (by decide), if_neg (by decide)]; exact plain 0 (by decide) (by decide)
  · rw [if_neg (by decide), if_neg (by decide)]; exact plain 1 (by decide) (by decide)
  · rw [if_neg (by decide), if_neg (by decide)]; exact plain 2 (by decide) (by decide)
  · rw [if_pos (by decide)]
    obtain ⟨σ1, τ1, a1, a2, a3, a4⟩ := vr_begin h 40
    rw [show d + 8 = (d + 7) + 1 by omega, wo_40 (by decide) (by decide) (by omega) x a1, a2, bnd_s]
    obtain ⟨r, σ2, τ2, b1, b2, b3, b4⟩ := v_t0 hl d (f := 0) (dep := dep + 1) (by decide) (by decide) (by decide) (by omega) (x / 2) σ1 τ1 a3 (by rw [a4]; exact z)
    rw [b1, b2, bnd_s]
    exact ⟨_, _, _, rfl, rfl, b3, b4⟩
  · rw [if_neg (by decide), if_pos (by decide)]
    obtain ⟨σ1, τ1, a1, a2, a3, a4⟩ := vr_begin h 51
    rw [show d + 8 = (d + 7) + 1 by omega, wo_51 (by decide) (by decide) (by omega) x a1, a2, bnd_s]
    obtain ⟨r, σ2, τ2, b1, b2, b3, b4⟩ := v_t0 hl d (f := 1) (dep := dep + 1) (by decide) (by decide) (by decide) (by omega) x σ1 τ1 a3 (by rw [a4]; exact z)
    rw [b1, b2, bnd_s, bnd_s, b3.2.2.2.2.2.2.1]
    exact ⟨_, _, _, rfl, rfl, b3, b4⟩
  · rw [if_neg (by decide), if_neg (by decide)]; exact plain 5 (by decide) (by decide)
  · rw [if_neg (by decide), if_neg (by decide)]; exact plain 6 (by decide) (by decide)
/-! parts: the flag may be set -/
theorem v_p0 {K l : Nat} (hl : l < 10) {M : Int32} {σ0 τ0 : Sg} (d : Nat) {f dep : Nat} (hf : f < 7) (hb : bdT 3 f = 13) (hd : dep ≤ 16) (x : Int32) {σ τ : Sg} (h : VR K l M σ0 τ0 σ τ) (z : σ 6 1 = 0) : ∃ r σ' τ', G_X8_workOut (d + 1) (3 : Int32) (nI f) x (nI dep) σ = some (r, σ') ∧ f_X10_plainParts (nI l) x τ = some (r, τ') ∧ VR K l M σ0 τ0 σ' τ' := by
  obtain ⟨σ1, τ1, a1, a2, a3, a4⟩ := vr_begin h 13
  rw [wo_13 hf hb hd x a1]
  unfold f_X10_plainParts f_X8_divided
  rw [a2, bnd_s, vr_m hl a3, bnd_s, a3.2.2.2.2.2.2.1, a3.2.2.2.2.2.2.2.1]
  simp only [lt_a]
  have z1 : σ1 6 1 = 0 := by rw [a4]; exact z
  obtain ⟨h1, h2, h3, h4, h8, h9, h10, h11, h12, h13⟩ := a3
  by_cases q : M - nI l = 0
  · rw [if_pos q, if_pos q, up_s, if_neg (show ¬ (1 : Int32) = 0 by decide), bnd_s]
    refine ⟨0, _, _, rfl, rfl, fun k a b c => by rw [up_row c]; exact h1 k a b c, fun k a b => by rw [up_row a]; exact h2 k a b, fun j a b => by rw [up_i b]; exact h3 j a b, ?_, by rw [up_s, up_s], by rw [up_i (by decide)]; exact h9, by rw [up_i (by decide)]; exact h10, by rw [up_i (by decide)]; exact h11, h12, h13⟩
    rw [up_k (by decide), up_row (by decide), up_i (by decide), up_row (by decide)]; exact h4
  · have nq : nz (M - nI l) = true := by unfold nz; rw [Bool.not_eq_true', decide_eq_false_iff_not]; exact q
    rw [if_neg q, if_neg q, up_s, if_pos rfl, ckb_t nq, ckb_t nq, bnd_s]
    refine ⟨x / (M - nI l), σ1, _, rfl, rfl, h1, fun k a b => by rw [up_row a]; exact h2 k a b, fun j a b => by rw [up_i b]; exact h3 j a b, ?_, by rw [up_s]; exact z1, h9, h10, h11, h12, h13⟩
    rw [up_i (by decide), up_row (by decide)]; exact h4
theorem v_p21 {K l : Nat} (hl : l < 10) {M : Int32} {σ0 τ0 : Sg} (d : Nat) {f dep : Nat} (hK : K < 7) (hf : f < 7) (hb : bdT 3 f = 21) (hd : dep ≤ 10) (x : Int32) {σ τ : Sg} (h : VR K l M σ0 τ0 σ τ) (z : σ 6 1 = 0) : ∃ r σ' τ', G_X8_workOut (d + 7) (3 : Int32) (nI f) x (nI dep) σ = some (r, σ') ∧ f_X10_partsBy_20 (nI l) x τ = some (r, τ') ∧ VR K l M σ0 τ0 σ' τ' := by
  obtain ⟨σ1, τ1, a1, a2, a3, a4⟩ := vr_begin h 21
  rw [show d + 7 = (d + 6) + 1 by omega, wo_21 hf hb (by omega) x a1]
  unfold f_X10_partsBy_20
  rw [a2, bnd_s]
  obtain ⟨r, σ2, τ2, b1, b2, b3⟩ := v_p0 hl (d + 5) (f := 0) (dep := dep + 1) (by decide) (by decide) (by omega) x a3 (by rw [a4]; exact z)
  rw [b1, b2, bnd_s, bnd_s, ← b3.2.2.2.2.1]
  by_cases q : σ2 6 1 = 0
  · rw [if_pos q, if_pos q, b3.2.2.2.2.2.1]
    obtain ⟨r2, σ3, τ3, c1, c2, c3, c4⟩ := v_m hl d (dep := dep + 1) hK (by omega) 1 σ2 τ2 b3 q
    rw [c1, c2, bnd_s, bnd_s]
    exact ⟨_, _, _, rfl, rfl, c3⟩
  · rw [if_neg q, if_neg q]
    exact ⟨_, _, _, rfl, rfl, b3⟩
theorem v_p {K l : Nat} (hl : l < 10) {M : Int32} {σ0 τ0 : Sg} (d : Nat) {dep : Nat} (hK : K < 7) (hd : dep ≤ 9) (x : Int32) {σ τ : Sg} (h : VR K l M σ0 τ0 σ τ) (z : σ 6 1 = 0) : ∃ r σ' τ', G_X8_workOut (d + 8) (3 : Int32) (nI K) x (nI dep) σ = some (r, σ') ∧ f_X10_partsBy (nI l) x τ = some (r, τ') ∧ VR K l M σ0 τ0 σ' τ' := by
  unfold f_X10_partsBy
  rw [vr_kind hl h, bnd_s]
  have c : K = 0 ∨ K = 1 ∨ K = 2 ∨ K = 3 ∨ K = 4 ∨ K = 5 ∨ K = 6 := by omega
  have plain : ∀ f, f < 7 → bdT 3 f = 13 → ∃ r σ' τ', G_X8_workOut (d + 8) (3 : Int32) (nI f) x (nI dep) σ = some (r, σ') ∧ f_X10_plainParts (nI l) x τ = some (r, τ') ∧ VR K l M σ0 τ0 σ' τ' := fun f hf hb => v_p0 hl (d + 7) hf hb (by omega) x h z
  have by21 : ∀ f, f < 7 → bdT 3 f = 21 → ∃ r σ' τ', G_X8_workOut (d + 8) (3 : Int32) (nI f) x (nI dep) σ = some (r, σ') ∧ f_X10_partsBy_20 (nI l) x τ = some (r, τ') ∧ VR K l M σ0 τ0 σ' τ' := fun f hf hb => v_p21 hl (d + 1) hK hf hb (by omega) x h z
  have k2 := vr_kind hl h
  rcases c with rfl | rfl | rfl | rfl | rfl | rfl | rfl
  · rw [if_neg (by decide), k2, bnd_s, if_neg (by decide), bid]; exact plain 0 (by decide) (by decide)
  · rw [if_pos (by decide)]; exact by21 1 (by decide) (by decide)
  · rw [if_neg (by decide), k2, bnd_s, if_neg (by decide), bid]; exact plain 2 (by decide) (by decide)
  · rw [if_neg (by decide), k2, bnd_s, if_neg (by decide), bid]; exact plain 3 (by decide) (by decide)
  · rw [if_neg (by decide), k2, bnd_s, if_pos (by decide)]; exact by21 4 (by decide) (by decide)
  · rw [if_neg (by decide), k2, bnd_s, if_neg (by decide), bid]; exact plain 5 (by decide) (by decide)
  · rw [if_neg (by decide), k2, bnd_s, if_neg (by decide), bid]; exact plain 6 (by decide) (by decide)
theorem Sim.vr {σ τ σ' τ' : Sg} {K l : Nat} {M : Int32} (h : Sim σ τ) (v : VR K l M σ τ σ' τ') : Sim σ' τ' := by
  obtain ⟨h1, h2, h3, h4, h5, h6⟩ := h
  obtain ⟨v1, v2, v3, v4, _⟩ := v
  refine ⟨Bd1_fr h1 (fun k hk => v1 k (by omega) (by omega) (by omega)) (v2 1 (by decide) (by decide)), ?_, fun hz => ?_, fun k a b => ?_, fun u hu => ?_, v4⟩
  · rw [v1 0 (by decide) (by decide) (by decide), v3 3 (by decide) (by decide)]; exact h2
  · rw [v1 0 (by decide) (by decide) (by decide)] at hz
    exact Bd2_fr (h3 hz) (fun k hk => v1 k (by omega) (by omega) (by omega)) (v2 2 (by decide) (by decide))
  · rw [v1 8 (by decide) (by decide) (by decide), v2 4 (by decide) (by decide)]; exact h4 k a b
  · rw [v1 (10 + u) (by omega) (by omega) (by omega), v1 (58 + u) (by omega) (by omega) (by omega), v1 (76 + u) (by omega) (by omega) (by omega), v2 5 (by decide) (by decide), v2 6 (by decide) (by decide), v2 7 (by decide) (by decide)]; exact h5 u hu
theorem eq_voice {σ τ : Sg} (h : Sim σ τ) (a b x : Int32) : Ok (f_X9_voice a b x σ) (f_X10_voice a b x τ) := by
  obtain ⟨n, hv⟩ := h.vw
  obtain ⟨n10, e1, e2, d0, dd, sp, a3, a4, a7⟩ := id hv
  unfold f_X9_voice f_X10_voice
  simp only [x_hasLine e1, m_isLine e2 n10, x_err1, m_err1, x_isIn, m_in, bnd_s, if01]
  by_cases c1 : 0 ≤ a ∧ a < nI n
  · rw [if_pos c1, if_pos c1]
    by_cases c2 : 0 ≤ b ∧ b ≤ 3
    · rw [if_pos c2, if_pos c2]
      have en : (nI n).toInt = (n : Int) := i_nI (by omega)
      simp only [i_le, i_lt, en, ti_0, ti_3] at c1 c2
      obtain ⟨l, hl, rfl⟩ := nI_ofi (a := a) (n := n) c1.1 (by omega)
      have el : (nI l).toInt = (l : Int) := i_nI (by omega)
      obtain ⟨v, hvv, rfl⟩ := nI_ofi (a := b) (n := 4) c2.1 (by omega)
      obtain ⟨⟨k0, k0'⟩, _⟩ := (a3 l hl).1
      obtain ⟨K, hK, eK⟩ := nI_ofi (a := σ (20 + l) 0) (n := 7) k0 (by omega)
      have f0 := (a3 l hl).2 0 (by decide)
      have f1 := (a3 l hl).2 1 (by decide)
      rw [ck_k el (by omega), tn_k el, lt_a, lt_a, lt_a]
      unfold f_X8_say f_X6_clear
      simp only [lt_a, bnd_s]
      simp (disch := omega) only [up_k, up_i, up_s]
      rw [eK]
      have vr : VR K l (σ (20 + l) 1) σ τ (up (up (up (up (up σ 57 1 0) 6 1 0) 6 2 (nI K)) 6 3 (nI l)) 6 4 (σ (20 + l) 1)) (up (up τ 0 19 0) 0 20 0) := by
        refine ⟨fun k p q r => by rw [up_row r, up_row r, up_row r, up_row r, up_row p], fun k p q => by rw [up_row p, up_row p], fun j p q => by rw [up_i q, up_i p], ⟨0, by omega, ?_, ?_, fun j hj => absurd hj (by omega)⟩, ?_, ?_, ?_, ?_, ?_, ?_⟩
        · simp (disch := omega) only [up_k, up_s]; rfl
        · rw [up_i (by decide), up_s]; rfl
        · rw [up_s, up_i (by decide), up_i (by decide), up_i (by decide), up_s]
        · rw [up_i (by decide), up_i (by decide), up_s]
        · rw [up_i (by decide), up_s]
        · rw [up_s]
        · rw [f0, eK]
        · exact f1
      have z1 : (up (up (up (up (up σ 57 1 0) 6 1 0) 6 2 (nI K)) 6 3 (nI l)) 6 4 (σ (20 + l) 1)) 6 1 = 0 := by
        rw [up_i (by decide), up_i (by decide), up_i (by decide), up_s]
      generalize up (up (up (up (up σ 57 1 0) 6 1 0) 6 2 (nI K)) 6 3 (nI l)) 6 4 (σ (20 + l) 1) = σ1 at vr z1 ⊢
      generalize up (up τ 0 19 0) 0 20 0 = τ1 at vr ⊢
      have fin : ∀ (r : Int32) (σ2 τ2 : Sg), VR K l (σ (20 + l) 1) σ τ σ2 τ2 → Ok (if σ2 6 1 = 0 then some (r, σ2) else some ((-1000000006 : Int32), up σ2 8 6 (σ2 8 6 + 1))) (f_X10_voice_81 r τ2) := by
        intro r σ2 τ2 w
        unfold f_X10_voice_81
        rw [← w.2.2.2.2.1]
        by_cases q : σ2 6 1 = 0
        · rw [if_pos q, if_pos q]; exact Ok.mk (h.vr w)
        · rw [if_neg q, if_neg q, m_err6, bnd_s]; exact Ok.err (h.vr w) 6 (by decide)
      simp only [x_err6, bnd_s, bid]
      have e64 : f_X8_workOut = G_X8_workOut (56 + 8) := rfl
      rw [e64]
      have c : v = 0 ∨ v = 1 ∨ v = 2 ∨ v = 3 := by omega
      rcases c with rfl | rfl | rfl | rfl
      · obtain ⟨r, σ2, τ2, b1, b2, b3, b4⟩ := v_s (by omega) 61 (dep := 0) hK (by omega) x σ1 τ1 vr z1
        rw [nI_0] at b1
        rw [show nI 0 = (0 : Int32) from rfl, if_pos rfl, b1, b2, bnd_s, bnd_s]
        exact fin _ _ _ b3
      · obtain ⟨r, σ2, τ2, b1, b2, b3, b4⟩ := v_m (by omega) 58 (dep := 0) hK (by omega) x σ1 τ1 vr z1
        rw [nI_0] at b1
        rw [show nI 1 = (1 : Int32) from rfl, if_neg (by decide), if_pos rfl, b1, b2, bnd_s, bnd_s]
        exact fin _ _ _ b3
      · obtain ⟨r, σ2, τ2, b1, b2, b3, b4⟩ := v_t (by omega) 56 (dep := 0) hK (by omega) x σ1 τ1 vr z1
        rw [nI_0] at b1
        rw [show nI 2 = (2 : Int32) from rfl, if_neg (by decide), if_neg (by decide), if_pos rfl, b1, b2, bnd_s, bnd_s]
        exact fin _ _ _ b3
      · obtain ⟨r, σ2, τ2, b1, b2, b3⟩ := v_p (by omega) 56 (dep := 0) hK (by omega) x vr z1
        rw [nI_0] at b1
        rw [show nI 3 = (3 : Int32) from rfl, if_neg (by decide), if_neg (by decide), if_neg (by decide), b1, b2, bnd_s, bnd_s]
        exact fin _ _ _ b3
    · rw [if_neg c2, if_neg c2]; exact Ok.err h 1 (by decide)
  · rw [if_neg c1, if_neg c1]; exact Ok.err h 1 (by decide)
