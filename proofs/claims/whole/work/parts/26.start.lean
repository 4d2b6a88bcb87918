abbrev cwX (k0 k1 k2 k3 : ClassId) (h0 : Nat) (ad : Nat → Nat) : va_W := [(h0, .inr (9, [.ref (ad 0), .ref (ad 28), .int 0, .ref (ad 56), .ref (ad 59), .ref (ad 60), .ref (ad 62), .ref (ad 65), .ref (ad 66)])), ((ad 0), .inr (0, [.ref (ad 1), .int 0, .int 0, .int 0, .int 0, .ref (ad 2), .int 1, .ref (ad 3), .ref (ad 5), .ref (ad 7)])), ((ad 1), .inl (k0, 10, rfs (va_up (va_up (va_up (va_up (va_up (va_up (va_up (va_up (va_up (va_up (fun _ => none) 0 (some (ad 18))) 1 (some (ad 19))) 2 (some (ad 20))) 3 (some (ad 21))) 4 (some (ad 22))) 5 (some (ad 23))) 6 (some (ad 24))) 7 (some (ad 25))) 8 (some (ad 26))) 9 (some (ad 27))))), ((ad 2), .inl (k1, 5, .inl (upd (upd (upd (upd (upd (fun _ => 0) 0 40) 1 40) 2 40) 3 40) 4 40))), ((ad 3), .inr (6, [.ref (ad 4), .int 0])), ((ad 4), .inl (k1, 60, .inl (fun _ => 0))), ((ad 5), .inr (6, [.ref (ad 6), .int 0])), ((ad 6), .inl (k1, 24, .inl (fun _ => 0))), ((ad 7), .inl (k2, 2, rfs (va_up (va_up (fun _ => none) 0 (some (ad 8))) 1 (some (ad 13))))), ((ad 8), .inr (1, [.int 0, .ref (ad 9), .ref (ad 11)])), ((ad 9), .inr (6, [.ref (ad 10), .int 0])), ((ad 10), .inl (k1, 60, .inl (fun _ => 0))), ((ad 11), .inr (6, [.ref (ad 12), .int 0])), ((ad 12), .inl (k1, 60, .inl (fun _ => 0))), ((ad 13), .inr (1, [.int 0, .ref (ad 14), .ref (ad 16)])), ((ad 14), .inr (6, [.ref (ad 15), .int 0])), ((ad 15), .inl (k1, 60, .inl (fun _ => 0))), ((ad 16), .inr (6, [.ref (ad 17), .int 0])), ((ad 17), .inl (k1, 60, .inl (fun _ => 0))), ((ad 18), .inr (2, [.int 0, .int 0, .int 0, .int 0, .int 0, .int 0, .int 0])), ((ad 19), .inr (2, [.int 0, .int 0, .int 0, .int 0, .int 0, .int 0, .int 0])), ((ad 20), .inr (2, [.int 0, .int 0, .int 0, .int 0, .int 0, .int 0, .int 0])), ((ad 21), .inr (2, [.int 0, .int 0, .int 0, .int 0, .int 0, .int 0, .int 0])), ((ad 22), .inr (2, [.int 0, .int 0, .int 0, .int 0, .int 0, .int 0, .int 0])), ((ad 23), .inr (2, [.int 0, .int 0, .int 0, .int 0, .int 0, .int 0, .int 0])), ((ad 24), .inr (2, [.int 0, .int 0, .int 0, .int 0, .int 0, .int 0, .int 0])), ((ad 25), .inr (2, [.int 0, .int 0, .int 0, .int 0, .int 0, .int 0, .int 0])), ((ad 26), .inr (2, [.int 0, .int 0, .int 0, .int 0, .int 0, .int 0, .int 0])), ((ad 27), .inr (2, [.int 0, .int 0, .int 0, .int 0, .int 0, .int 0, .int 0])), ((ad 28), .inr (0, [.ref (ad 29), .int 0, .int 0, .int 0, .int 0, .ref (ad 30), .int 1, .ref (ad 31), .ref (ad 33), .ref (ad 35)])), ((ad 29), .inl (k0, 10, rfs (va_up (va_up (va_up (va_up (va_up (va_up (va_up (va_up (va_up (va_up (fun _ => none) 0 (some (ad 46))) 1 (some (ad 47))) 2 (some (ad 48))) 3 (some (ad 49))) 4 (some (ad 50))) 5 (some (ad 51))) 6 (some (ad 52))) 7 (some (ad 53))) 8 (some (ad 54))) 9 (some (ad 55))))), ((ad 30), .inl (k1, 5, .inl (upd (upd (upd (upd (upd (fun _ => 0) 0 40) 1 40) 2 40) 3 40) 4 40))), ((ad 31), .inr (6, [.ref (ad 32), .int 0])), ((ad 32), .inl (k1, 60, .inl (fun _ => 0))), ((ad 33), .inr (6, [.ref (ad 34), .int 0])), ((ad 34), .inl (k1, 24, .inl (fun _ => 0))), ((ad 35), .inl (k2, 2, rfs (va_up (va_up (fun _ => none) 0 (some (ad 36))) 1 (some (ad 41))))), ((ad 36), .inr (1, [.int 0, .ref (ad 37), .ref (ad 39)])), ((ad 37), .inr (6, [.ref (ad 38), .int 0])), ((ad 38), .inl (k1, 60, .inl (fun _ => 0))), ((ad 39), .inr (6, [.ref (ad 40), .int 0])), ((ad 40), .inl (k1, 60, .inl (fun _ => 0))), ((ad 41), .inr (1, [.int 0, .ref (ad 42), .ref (ad 44)])), ((ad 42), .inr (6, [.ref (ad 43), .int 0])), ((ad 43), .inl (k1, 60, .inl (fun _ => 0))), ((ad 44), .inr (6, [.ref (ad 45), .int 0])), ((ad 45), .inl (k1, 60, .inl (fun _ => 0))), ((ad 46), .inr (2, [.int 0, .int 0, .int 0, .int 0, .int 0, .int 0, .int 0])), ((ad 47), .inr (2, [.int 0, .int 0, .int 0, .int 0, .int 0, .int 0, .int 0])), ((ad 48), .inr (2, [.int 0, .int 0, .int 0, .int 0, .int 0, .int 0, .int 0])), ((ad 49), .inr (2, [.int 0, .int 0, .int 0, .int 0, .int 0, .int 0, .int 0])), ((ad 50), .inr (2, [.int 0, .int 0, .int 0, .int 0, .int 0, .int 0, .int 0])), ((ad 51), .inr (2, [.int 0, .int 0, .int 0, .int 0, .int 0, .int 0, .int 0])), ((ad 52), .inr (2, [.int 0, .int 0, .int 0, .int 0, .int 0, .int 0, .int 0])), ((ad 53), .inr (2, [.int 0, .int 0, .int 0, .int 0, .int 0, .int 0, .int 0])), ((ad 54), .inr (2, [.int 0, .int 0, .int 0, .int 0, .int 0, .int 0, .int 0])), ((ad 55), .inr (2, [.int 0, .int 0, .int 0, .int 0, .int 0, .int 0, .int 0])), ((ad 56), .inr (4, [.ref (ad 57), .ref (ad 57), .int 0, .int 0])), ((ad 57), .inr (6, [.ref (ad 58), .int 0])), ((ad 58), .inl (k1, 60, .inl (fun _ => 0))), ((ad 59), .inr (5, [.int 0, .int 0, .int 0])), ((ad 60), .inr (3, [.ref (ad 61)])), ((ad 61), .inl (k1, 64, .inl (fun _ => 0))), ((ad 62), .inr (8, [.ref (ad 63), .int 0, .int 0, .int 0, .int 0])), ((ad 63), .inr (6, [.ref (ad 64), .int 0])), ((ad 64), .inl (k1, 30, .inl (fun _ => 0))), ((ad 65), .inl (k3, 4, rfs (va_up (va_up (va_up (va_up (fun _ => none) 0 (some (ad 67))) 1 (some (ad 70))) 2 (some (ad 73))) 3 (some (ad 76))))), ((ad 66), .inl (k1, 7, .inl (fun _ => 0))), ((ad 67), .inr (7, [.ref (ad 68), .int 0])), ((ad 68), .inr (6, [.ref (ad 69), .int 0])), ((ad 69), .inl (k1, 24, .inl (fun _ => 0))), ((ad 70), .inr (7, [.ref (ad 71), .int 0])), ((ad 71), .inr (6, [.ref (ad 72), .int 0])), ((ad 72), .inl (k1, 24, .inl (fun _ => 0))), ((ad 73), .inr (7, [.ref (ad 74), .int 0])), ((ad 74), .inr (6, [.ref (ad 75), .int 0])), ((ad 75), .inl (k1, 24, .inl (fun _ => 0))), ((ad 76), .inr (7, [.ref (ad 77), .int 0])), ((ad 77), .inr (6, [.ref (ad 78), .int 0])), ((ad 78), .inl (k1, 24, .inl (fun _ => 0)))]
abbrev cwM (k0 : ClassId) (h0 : Nat) (ad : Nat → Nat) : va_W := [(h0, .inr (10, [.ref (ad 0), .ref (ad 1), .ref (ad 2), .int 0, .ref (ad 3), .ref (ad 4), .ref (ad 5), .ref (ad 6), .ref (ad 7), .ref (ad 8), .ref (ad 9), .ref (ad 10), .int 0, .int 0, .int 0, .int 0, .int 0, .ref (ad 11), .ref (ad 12), .int 0, .int 0])), ((ad 0), .inl (k0, 408, .inl (upd (upd (upd (upd (upd (upd (fun _ => 0) 1 1) 7 40) 8 40) 9 40) 10 40) 11 40))), ((ad 1), .inl (k0, 408, .inl (fun _ => 0))), ((ad 2), .inl (k0, 408, .inl (fun _ => 0))), ((ad 3), .inl (k0, 7, .inl (fun _ => 0))), ((ad 4), .inl (k0, 4, .inl (fun _ => 0))), ((ad 5), .inl (k0, 4, .inl (fun _ => 0))), ((ad 6), .inl (k0, 96, .inl (fun _ => 0))), ((ad 7), .inl (k0, 60, .inl (fun _ => 0))), ((ad 8), .inl (k0, 60, .inl (fun _ => 0))), ((ad 9), .inl (k0, 3, .inl (fun _ => 0))), ((ad 10), .inl (k0, 60, .inl (fun _ => 0))), ((ad 11), .inl (k0, 12, .inl (fun _ => 0))), ((ad 12), .inl (k0, 30, .inl (fun _ => 0)))]
def adX (h0 : Nat) (ad : Nat → Nat) (k : Nat) : Nat := ([h0, (ad 0), (ad 28), (ad 56), (ad 59), (ad 60), (ad 62), (ad 65), (ad 66), (ad 61), (ad 67), (ad 70), (ad 73), (ad 76), (ad 1), (ad 29), (ad 2), (ad 30), (ad 7), (ad 35), (ad 18), (ad 19), (ad 20), (ad 21), (ad 22), (ad 23), (ad 24), (ad 25), (ad 26), (ad 27), (ad 46), (ad 47), (ad 48), (ad 49), (ad 50), (ad 51), (ad 52), (ad 53), (ad 54), (ad 55), (ad 8), (ad 13), (ad 36), (ad 41), (ad 3), (ad 31), (ad 5), (ad 33), (ad 9), (ad 14), (ad 37), (ad 42), (ad 11), (ad 16), (ad 39), (ad 44), (ad 57), (ad 63), (ad 68), (ad 71), (ad 74), (ad 77), (ad 4), (ad 32), (ad 6), (ad 34), (ad 10), (ad 15), (ad 38), (ad 43), (ad 12), (ad 17), (ad 40), (ad 45), (ad 58), (ad 64), (ad 69), (ad 72), (ad 75), (ad 78)] : List Nat).getD k 0
def adM (h0 : Nat) (ad : Nat → Nat) (k : Nat) : Nat := ([h0, (ad 0), (ad 1), (ad 2), (ad 3), (ad 4), (ad 5), (ad 6), (ad 7), (ad 8), (ad 9), (ad 10), (ad 11), (ad 12)] : List Nat).getD k 0
def ink0 : Nat → Int32 := upd (upd (upd (upd (upd (fun _ => 0) 0 40) 1 40) 2 40) 3 40) 4 40
def row0 : Nat → Int32 := upd (upd (upd (upd (upd (upd (fun _ => 0) 1 1) 7 40) 8 40) 9 40) 10 40) 11 40
def s0X : Sg := fun k => if k = 1 then upd (fun _ => 0) 6 1 else if k = 2 then upd (fun _ => 0) 6 1 else if k = 3 then upd (fun _ => 0) 1 56 else if k = 16 then ink0 else if k = 17 then ink0 else fun _ => 0
def s0M : Sg := fun k => if k = 1 then row0 else fun _ => 0
theorem at_q {D : va_G} {cl : List vw_C} {H : Heap} {a n : Nat} {c : ClassId} {f g : Nat → Option Nat} (h : va_at D cl (a, .inl (c, n, rfs f)) H) (hfg : ∀ j, j < n → f j = g j) : va_at D cl (a, .inl (c, n, rfs g)) H := by
  have h1 : H[a]? = some (vp_cell c (n, rfs f)) := h
  show H[a]? = some (vp_cell c (n, rfs g))
  rw [h1, vp_cell_q, vp_cell_q]
  congr 1
  unfold arrV
  congr 1
  congr 1
  funext j
  show va_rf (f j.val) = va_rf (g j.val)
  rw [hfg j.val j.isLt]
set_option maxHeartbeats 8000000 in
set_option maxRecDepth 100000 in
theorem cv_X {D : va_G} {k0 k1 k2 k3 : ClassId} {h0 : Nat} {ad : Nat → Nat} {tz : Nat × Nat × Nat} {H : Heap} (hP : va_P D vwCl (cwX k0 k1 k2 k3 h0 ad) H) : va_P D vwCl (oW (oX ((D, k1, k0, k2, k3, adX h0 ad, tz) : oXp)) s0X) H := by
  intro k q hq
  obtain ⟨hk, rfl⟩ := oW_at hq
  exact match k, hk with
  | 0, _ => hP 0 _ rfl
  | 1, _ => hP 1 _ rfl
  | 2, _ => hP 29 _ rfl
  | 3, _ => hP 57 _ rfl
  | 4, _ => hP 60 _ rfl
  | 5, _ => hP 61 _ rfl
  | 6, _ => hP 63 _ rfl
  | 7, _ => at_q (hP 66 _ rfl) (by intro j hj; rcases (show j = 0 ∨ j = 1 ∨ j = 2 ∨ j = 3 by omega) with rfl | rfl | rfl | rfl <;> rfl)
  | 8, _ => hP 67 _ rfl
  | 9, _ => hP 62 _ rfl
  | 10, _ => hP 68 _ rfl
  | 11, _ => hP 71 _ rfl
  | 12, _ => hP 74 _ rfl
  | 13, _ => hP 77 _ rfl
  | 14, _ => at_q (hP 2 _ rfl) (by intro j hj; rcases (show j = 0 ∨ j = 1 ∨ j = 2 ∨ j = 3 ∨ j = 4 ∨ j = 5 ∨ j = 6 ∨ j = 7 ∨ j = 8 ∨ j = 9 by omega) with rfl | rfl | rfl | rfl | rfl | rfl | rfl | rfl | rfl | rfl <;> rfl)
  | 15, _ => at_q (hP 30 _ rfl) (by intro j hj; rcases (show j = 0 ∨ j = 1 ∨ j = 2 ∨ j = 3 ∨ j = 4 ∨ j = 5 ∨ j = 6 ∨ j = 7 ∨ j = 8 ∨ j = 9 by omega) with rfl | rfl | rfl | rfl | rfl | rfl | rfl | rfl | rfl | rfl <;> rfl)
  | 16, _ => hP 3 _ rfl
  | 17, _ => hP 31 _ rfl
  | 18, _ => at_q (hP 8 _ rfl) (by intro j hj; rcases (show j = 0 ∨ j = 1 by omega) with rfl | rfl <;> rfl)
  | 19, _ => at_q (hP 36 _ rfl) (by intro j hj; rcases (show j = 0 ∨ j = 1 by omega) with rfl | rfl <;> rfl)
  | 20, _ => hP 19 _ rfl
  | 21, _ => hP 20 _ rfl
  | 22, _ => hP 21 _ rfl
  | 23, _ => hP 22 _ rfl
  | 24, _ => hP 23 _ rfl
  | 25, _ => hP 24 _ rfl
  | 26, _ => hP 25 _ rfl
  | 27, _ => hP 26 _ rfl
  | 28, _ => hP 27 _ rfl
  | 29, _ => hP 28 _ rfl
  | 30, _ => hP 47 _ rfl
  | 31, _ => hP 48 _ rfl
  | 32, _ => hP 49 _ rfl
  | 33, _ => hP 50 _ rfl
  | 34, _ => hP 51 _ rfl
  | 35, _ => hP 52 _ rfl
  | 36, _ => hP 53 _ rfl
  | 37, _ => hP 54 _ rfl
  | 38, _ => hP 55 _ rfl
  | 39, _ => hP 56 _ rfl
  | 40, _ => hP 9 _ rfl
  | 41, _ => hP 14 _ rfl
  | 42, _ => hP 37 _ rfl
  | 43, _ => hP 42 _ rfl
  | 44, _ => hP 4 _ rfl
  | 45, _ => hP 32 _ rfl
  | 46, _ => hP 6 _ rfl
  | 47, _ => hP 34 _ rfl
  | 48, _ => hP 10 _ rfl
  | 49, _ => hP 15 _ rfl
  | 50, _ => hP 38 _ rfl
  | 51, _ => hP 43 _ rfl
  | 52, _ => hP 12 _ rfl
  | 53, _ => hP 17 _ rfl
  | 54, _ => hP 40 _ rfl
  | 55, _ => hP 45 _ rfl
  | 56, _ => hP 58 _ rfl
  | 57, _ => hP 64 _ rfl
  | 58, _ => hP 69 _ rfl
  | 59, _ => hP 72 _ rfl
  | 60, _ => hP 75 _ rfl
  | 61, _ => hP 78 _ rfl
  | 62, _ => hP 5 _ rfl
  | 63, _ => hP 33 _ rfl
  | 64, _ => hP 7 _ rfl
  | 65, _ => hP 35 _ rfl
  | 66, _ => hP 11 _ rfl
  | 67, _ => hP 16 _ rfl
  | 68, _ => hP 39 _ rfl
  | 69, _ => hP 44 _ rfl
  | 70, _ => hP 13 _ rfl
  | 71, _ => hP 18 _ rfl
  | 72, _ => hP 41 _ rfl
  | 73, _ => hP 46 _ rfl
  | 74, _ => hP 59 _ rfl
  | 75, _ => hP 65 _ rfl
  | 76, _ => hP 70 _ rfl
  | 77, _ => hP 73 _ rfl
  | 78, _ => hP 76 _ rfl
  | 79, _ => hP 79 _ rfl
  | n + 80, h => absurd (show n + 80 < 80 from h) (by omega)
set_option maxHeartbeats 8000000 in
set_option maxRecDepth 100000 in
theorem cv_M {D : va_G} {k0 c1 c2 c3 : ClassId} {h0 : Nat} {ad : Nat → Nat} {tz : Nat × Nat × Nat} {H : Heap} (hP : va_P D vwCl (cwM k0 h0 ad) H) : va_P D vwCl (oW (oM ((D, k0, c1, c2, c3, adM h0 ad, tz) : oXp)) s0M) H := by
  intro k q hq
  obtain ⟨hk, rfl⟩ := oW_at hq
  exact match k, hk with
  | 0, _ => hP 0 _ rfl
  | 1, _ => hP 1 _ rfl
  | 2, _ => hP 2 _ rfl
  | 3, _ => hP 3 _ rfl
  | 4, _ => hP 4 _ rfl
  | 5, _ => hP 5 _ rfl
  | 6, _ => hP 6 _ rfl
  | 7, _ => hP 7 _ rfl
  | 8, _ => hP 8 _ rfl
  | 9, _ => hP 9 _ rfl
  | 10, _ => hP 10 _ rfl
  | 11, _ => hP 11 _ rfl
  | 12, _ => hP 12 _ rfl
  | 13, _ => hP 13 _ rfl
  | n + 14, h => absurd (show n + 14 < 14 from h) (by omega)
abbrev plL : List Nat := [0, 1, 29, 57, 60, 61, 63, 66, 67, 62, 68, 71, 74, 77, 2, 30, 3, 31, 8, 36, 19, 20, 21, 22, 23, 24, 25, 26, 27, 28, 47, 48, 49, 50, 51, 52, 53, 54, 55, 56, 9, 14, 37, 42, 4, 32, 6, 34, 10, 15, 38, 43, 12, 17, 40, 45, 58, 64, 69, 72, 75, 78, 5, 33, 7, 35, 11, 16, 39, 44, 13, 18, 41, 46, 59, 65, 70, 73, 76, 79, 80, 81, 82, 83, 84, 85, 86, 87, 88, 89, 90, 91, 92, 93]
theorem pl_inj : ∀ i, i < 94 → ∀ j, j < 94 → plL.getD i 0 = plL.getD j 0 → i = j := by decide +kernel
set_option maxHeartbeats 8000000 in
set_option maxRecDepth 100000 in
theorem pl_at {D : va_G} {k0 k1 k2 k3 : ClassId} {h0 m0 : Nat} {ad am : Nat → Nat} {tz : Nat × Nat × Nat} : ∀ i, i < 94 → ∃ e, (cwX k0 k1 k2 k3 h0 ad ++ cwM k1 m0 am)[plL.getD i 0]? = some (aC ((D, k1, k0, k2, k3, adX h0 ad, tz) : oXp) (adM m0 am) i, e) := by
  intro i hi
  exact match i, hi with
  | 0, _ => ⟨_, rfl⟩
  | 1, _ => ⟨_, rfl⟩
  | 2, _ => ⟨_, rfl⟩
  | 3, _ => ⟨_, rfl⟩
  | 4, _ => ⟨_, rfl⟩
  | 5, _ => ⟨_, rfl⟩
  | 6, _ => ⟨_, rfl⟩
  | 7, _ => ⟨_, rfl⟩
  | 8, _ => ⟨_, rfl⟩
  | 9, _ => ⟨_, rfl⟩
  | 10, _ => ⟨_, rfl⟩
  | 11, _ => ⟨_, rfl⟩
  | 12, _ => ⟨_, rfl⟩
  | 13, _ => ⟨_, rfl⟩
  | 14, _ => ⟨_, rfl⟩
  | 15, _ => ⟨_, rfl⟩
  | 16, _ => ⟨_, rfl⟩
  | 17, _ => ⟨_, rfl⟩
  | 18, _ => ⟨_, rfl⟩
  | 19, _ => ⟨_, rfl⟩
  | 20, _ => ⟨_, rfl⟩
  | 21, _ => ⟨_, rfl⟩
  | 22, _ => ⟨_, rfl⟩
  | 23, _ => ⟨_, rfl⟩
  | 24, _ => ⟨_, rfl⟩
  | 25, _ => ⟨_, rfl⟩
  | 26, _ => ⟨_, rfl⟩
  | 27, _ => ⟨_, rfl⟩
  | 28, _ => ⟨_, rfl⟩
  | 29, _ => ⟨_, rfl⟩
  | 30, _ => ⟨_, rfl⟩
  | 31, _ => ⟨_, rfl⟩
  | 32, _ => ⟨_, rfl⟩
  | 33, _ => ⟨_, rfl⟩
  | 34, _ => ⟨_, rfl⟩
  | 35, _ => ⟨_, rfl⟩
  | 36, _ => ⟨_, rfl⟩
  | 37, _ => ⟨_, rfl⟩
  | 38, _ => ⟨_, rfl⟩
  | 39, _ => ⟨_, rfl⟩
  | 40, _ => ⟨_, rfl⟩
  | 41, _ => ⟨_, rfl⟩
  | 42, _ => ⟨_, rfl⟩
  | 43, _ => ⟨_, rfl⟩
  | 44, _ => ⟨_, rfl⟩
  | 45, _ => ⟨_, rfl⟩
  | 46, _ => ⟨_, rfl⟩
  | 47, _ => ⟨_, rfl⟩
  | 48, _ => ⟨_, rfl⟩
  | 49, _ => ⟨_, rfl⟩
  | 50, _ => ⟨_, rfl⟩
  | 51, _ => ⟨_, rfl⟩
  | 52, _ => ⟨_, rfl⟩
  | 53, _ => ⟨_, rfl⟩
  | 54, _ => ⟨_, rfl⟩
  | 55, _ => ⟨_, rfl⟩
  | 56, _ => ⟨_, rfl⟩
  | 57, _ => ⟨_, rfl⟩
  | 58, _ => ⟨_, rfl⟩
  | 59, _ => ⟨_, rfl⟩
  | 60, _ => ⟨_, rfl⟩
  | 61, _ => ⟨_, rfl⟩
  | 62, _ => ⟨_, rfl⟩
  | 63, _ => ⟨_, rfl⟩
  | 64, _ => ⟨_, rfl⟩
  | 65, _ => ⟨_, rfl⟩
  | 66, _ => ⟨_, rfl⟩
  | 67, _ => ⟨_, rfl⟩
  | 68, _ => ⟨_, rfl⟩
  | 69, _ => ⟨_, rfl⟩
  | 70, _ => ⟨_, rfl⟩
  | 71, _ => ⟨_, rfl⟩
  | 72, _ => ⟨_, rfl⟩
  | 73, _ => ⟨_, rfl⟩
  | 74, _ => ⟨_, rfl⟩
  | 75, _ => ⟨_, rfl⟩
  | 76, _ => ⟨_, rfl⟩
  | 77, _ => ⟨_, rfl⟩
  | 78, _ => ⟨_, rfl⟩
  | 79, _ => ⟨_, rfl⟩
  | 80, _ => ⟨_, rfl⟩
  | 81, _ => ⟨_, rfl⟩
  | 82, _ => ⟨_, rfl⟩
  | 83, _ => ⟨_, rfl⟩
  | 84, _ => ⟨_, rfl⟩
  | 85, _ => ⟨_, rfl⟩
  | 86, _ => ⟨_, rfl⟩
  | 87, _ => ⟨_, rfl⟩
  | 88, _ => ⟨_, rfl⟩
  | 89, _ => ⟨_, rfl⟩
  | 90, _ => ⟨_, rfl⟩
  | 91, _ => ⟨_, rfl⟩
  | 92, _ => ⟨_, rfl⟩
  | 93, _ => ⟨_, rfl⟩
  | n + 94, h => absurd h (by omega)
theorem cw_I {A : Nat → Prop} {D : va_G} {k0 k1 k2 k3 : ClassId} {h0 m0 : Nat} {ad am : Nat → Nat} {tz : Nat × Nat × Nat} (hD : va_D A (cwX k0 k1 k2 k3 h0 ad ++ cwM k1 m0 am)) : oI (oL ((D, k1, k0, k2, k3, adX h0 ad, tz) : oXp) (adM m0 am)) ∧ ∀ q, oA (oL ((D, k1, k0, k2, k3, adX h0 ad, tz) : oXp) (adM m0 am)) q → A q := by
  constructor
  · intro i j hi hj e
    obtain ⟨e1, h1⟩ := pl_at (D := D) (k0 := k0) (k1 := k1) (k2 := k2) (k3 := k3) (tz := tz) (h0 := h0) (m0 := m0) (ad := ad) (am := am) i hi
    obtain ⟨e2, h2⟩ := pl_at (D := D) (k0 := k0) (k1 := k1) (k2 := k2) (k3 := k3) (tz := tz) (h0 := h0) (m0 := m0) (ad := ad) (am := am) j hj
    exact pl_inj i hi j hj (hD.1 _ _ _ _ h1 h2 e)
  · rintro q ⟨k, hk, rfl⟩
    obtain ⟨e1, h1⟩ := pl_at (D := D) (k0 := k0) (k1 := k1) (k2 := k2) (k3 := k3) (tz := tz) (h0 := h0) (m0 := m0) (ad := ad) (am := am) k hk
    exact hD.2 _ _ h1
set_option maxHeartbeats 8000000 in
set_option maxRecDepth 100000 in
theorem whole_open (hpure : ∀ (L : Nat) (xs : Nat → Int32), L ≤ 3072 → ∃ σ', f_law L xs fuN 0 s0X s0M = some (1, σ')) {p : Program} {e : Env} {s : State} {m : MethodId} {below : List Frame} {meth : Method} {c : Code} (l : Launch) {b L : Nat} {xs : Nat → Int32} (hL : L ≤ 3072) (C0 : lw_At p s m meth c b L xs) : W p l e room_1 s m #[Value.ref b] below meth c s.heap [] 0 0 (lw_Z below #[Value.ref b] s) (entryFrame m ([Value.ref b] : List Value).toArray 4) := by
  obtain ⟨hx, hb, hr, hml, hown, hts0, hX, hbl, hlocks, hgv⟩ := id C0
  have hts : ∀ w ∈ wsL_law, w.before #[Value.ref b] s = true := fun w h => hts0 w (wsL_law_in w h)
  have hg := flat_of_before _ hgv
  have hA : ∀ q : Nat, s.heap.size ≤ q → (fun q : Nat => s.heap.size ≤ q) q := fun _ h => h
  have hbA : ¬ (fun q : Nat => s.heap.size ≤ q) b := Nat.not_le.mpr hbl
  have hnA : ∀ a : Nat, a < s.heap.size → ¬ (fun q : Nat => s.heap.size ≤ q) a := fun a h => Nat.not_le.mpr h
  obtain ⟨c0, iS0, hKn0⟩ := u_known (C := RX0) (T := TX0) (N := 10) (n := 10) hts0 inX0 (hts0 _ (show Cond.instantiable RX0 10 ∈ lw_tbl from List.mem_of_getElem? (i := 87) (by decide +kernel)))
  obtain ⟨c1, iS1, hKn1⟩ := u_known (C := RX1) (T := TX1) (N := 3) (n := 3) hts0 inX1 (hts0 _ (show Cond.instantiable RX1 3 ∈ lw_tbl from List.mem_of_getElem? (i := 121) (by decide +kernel)))
  obtain ⟨c2, iS2, hKn2⟩ := u_known (C := RX2) (T := TX2) (N := 7) (n := 7) hts0 inX2 (hts0 _ (show Cond.instantiable RX2 7 ∈ lw_tbl from List.mem_of_getElem? (i := 140) (by decide +kernel)))
  obtain ⟨c3, iS3, hKn3⟩ := u_known (C := RX3) (T := TX3) (N := 1) (n := 1) hts0 inX3 (hts0 _ (show Cond.instantiable RX3 1 ∈ lw_tbl from List.mem_of_getElem? (i := 269) (by decide +kernel)))
  obtain ⟨c4, iS4, hKn4⟩ := u_known (C := RX4) (T := TX4) (N := 4) (n := 4) hts0 inX4 (hts0 _ (show Cond.instantiable RX4 4 ∈ lw_tbl from List.mem_of_getElem? (i := 227) (by decide +kernel)))
  obtain ⟨c5, iS5, hKn5⟩ := u_known (C := RX5) (T := TX5) (N := 3) (n := 3) hts0 inX5 (hts0 _ (show Cond.instantiable RX5 3 ∈ lw_tbl from List.mem_of_getElem? (i := 250) (by decide +kernel)))
  obtain ⟨c6, iS6, hKn6⟩ := u_known (C := RX6) (T := TX6) (N := 2) (n := 2) hts0 inX6 (hts0 _ (show Cond.instantiable RX6 2 ∈ lw_tbl from List.mem_of_getElem? (i := 95) (by decide +kernel)))
  obtain ⟨c7, iS7, hKn7⟩ := u_known (C := RX7) (T := TX7) (N := 2) (n := 2) hts0 inX7 (hts0 _ (show Cond.instantiable RX7 2 ∈ lw_tbl from List.mem_of_getElem? (i := 306) (by decide +kernel)))
  obtain ⟨c8, iS8, hKn8⟩ := u_known (C := RX8) (T := TX8) (N := 5) (n := 5) hts0 inX8 (hts0 _ (show Cond.instantiable RX8 5 ∈ lw_tbl from List.mem_of_getElem? (i := 279) (by decide +kernel)))
  obtain ⟨c9, iS9, hKn9⟩ := u_known (C := RX9) (T := TX9) (N := 9) (n := 9) hts0 inX9 (hts0 _ (show Cond.instantiable RX9 9 ∈ lw_tbl from List.mem_of_getElem? (i := 79) (by decide +kernel)))
  obtain ⟨c10, iS10, hKn10⟩ := u_known (C := RX10) (T := TX10) (N := 21) (n := 21) hts0 inX10 (hts0 _ (show Cond.instantiable RX10 21 ∈ lw_tbl from List.mem_of_getElem? (i := 797) (by decide +kernel)))
  obtain ⟨dC, dI, hKc⟩ : ∃ (dC : Nat → ClassId) (dI : Nat → Nat → Nat), ∀ (k : Nat) (q : vw_C), vwCl[k]? = some q → u_Kn s q.1 q.2.1 q.2.2 (dC k) (dI k) := by
    refine ⟨fun k => if k = 0 then c0 else if k = 1 then c1 else if k = 2 then c2 else if k = 3 then c3 else if k = 4 then c4 else if k = 5 then c5 else if k = 6 then c6 else if k = 7 then c7 else if k = 8 then c8 else if k = 9 then c9 else c10, fun k => if k = 0 then iS0 else if k = 1 then iS1 else if k = 2 then iS2 else if k = 3 then iS3 else if k = 4 then iS4 else if k = 5 then iS5 else if k = 6 then iS6 else if k = 7 then iS7 else if k = 8 then iS8 else if k = 9 then iS9 else iS10, ?_⟩
    intro k q hq
    match k, hq with
    | 0, hq => cases hq; exact hKn0
    | 1, hq => cases hq; exact hKn1
    | 2, hq => cases hq; exact hKn2
    | 3, hq => cases hq; exact hKn3
    | 4, hq => cases hq; exact hKn4
    | 5, hq => cases hq; exact hKn5
    | 6, hq => cases hq; exact hKn6
    | 7, hq => cases hq; exact hKn7
    | 8, hq => cases hq; exact hKn8
    | 9, hq => cases hq; exact hKn9
    | 10, hq => cases hq; exact hKn10
    | k + 11, hq => simp [vwCl] at hq
  obtain ⟨tK, htK, hTK⟩ := va_Tof (s := s) (args := #[Value.ref b]) (tm := .static "BoardKeep" "KIND_ABOVE" "[I") (ty := .int) (N := 7) (f := fun j => .int (lK.getD j 0)) (A := fun q : Nat => s.heap.size ≤ q) (by decide) (hg _ (by decide +kernel)) (va_eqt (hg _ (show Cond.eq (.length (.static "BoardKeep" "KIND_ABOVE" "[I")) (.int 7) ∈ _ by decide +kernel))) (by
    intro j hj
    have : j = 0 ∨ j = 1 ∨ j = 2 ∨ j = 3 ∨ j = 4 ∨ j = 5 ∨ j = 6 := by omega
    rcases this with rfl | rfl | rfl | rfl | rfl | rfl | rfl
    all_goals exact va_eqt (hg _ (by decide +kernel))) hnA
  have hZK : va_Z "BoardKeep" "KIND_ABOVE" "[I" (.ref tK) (fun q : Nat => s.heap.size ≤ q) s s.heap := va_Zref (hts0 _ (show Cond.laysStatic "BoardKeep" "KIND_ABOVE" "[I" ∈ lw_tbl from List.mem_of_getElem? (i := 458) (by decide +kernel))) (hts0 _ (show Cond.initialized "BoardKeep" ∈ lw_tbl from List.mem_of_getElem? (i := 64) (by decide +kernel))) htK hnA
  obtain ⟨tN, htN, hTN⟩ := va_Tof (s := s) (args := #[Value.ref b]) (tm := .static "BoardKeep$Reader" "NAMES" "[C") (ty := .char) (N := 6) (f := fun j => .int (lN_.getD j 0)) (A := fun q : Nat => s.heap.size ≤ q) (by decide) (hg _ (by decide +kernel)) (va_eqt (hg _ (show Cond.eq (.length (.static "BoardKeep$Reader" "NAMES" "[C")) (.int 6) ∈ _ by decide +kernel))) (by
    intro j hj
    have : j = 0 ∨ j = 1 ∨ j = 2 ∨ j = 3 ∨ j = 4 ∨ j = 5 := by omega
    rcases this with rfl | rfl | rfl | rfl | rfl | rfl
    all_goals exact va_eqt (hg _ (by decide +kernel))) hnA
  have hZN : va_Z "BoardKeep$Reader" "NAMES" "[C" (.ref tN) (fun q : Nat => s.heap.size ≤ q) s s.heap := va_Zref (hts0 _ (show Cond.laysStatic "BoardKeep$Reader" "NAMES" "[C" ∈ lw_tbl from List.mem_of_getElem? (i := 521) (by decide +kernel))) (hts0 _ (show Cond.initialized "BoardKeep$Reader" ∈ lw_tbl from List.mem_of_getElem? (i := 70) (by decide +kernel))) htN hnA
  obtain ⟨tB, htB, hTB⟩ := va_Tof (s := s) (args := #[Value.ref b]) (tm := .static "BoardKeep$Voices" "BODIES" "[I") (ty := .int) (N := 28) (f := fun j => .int (lB.getD j 0)) (A := fun q : Nat => s.heap.size ≤ q) (by decide) (hg _ (by decide +kernel)) (va_eqt (hg _ (show Cond.eq (.length (.static "BoardKeep$Voices" "BODIES" "[I")) (.int 28) ∈ _ by decide +kernel))) (by
    intro j hj
    have : j = 0 ∨ j = 1 ∨ j = 2 ∨ j = 3 ∨ j = 4 ∨ j = 5 ∨ j = 6 ∨ j = 7 ∨ j = 8 ∨ j = 9 ∨ j = 10 ∨ j = 11 ∨ j = 12 ∨ j = 13 ∨ j = 14 ∨ j = 15 ∨ j = 16 ∨ j = 17 ∨ j = 18 ∨ j = 19 ∨ j = 20 ∨ j = 21 ∨ j = 22 ∨ j = 23 ∨ j = 24 ∨ j = 25 ∨ j = 26 ∨ j = 27 := by omega
    rcases this with rfl | rfl | rfl | rfl | rfl | rfl | rfl | rfl | rfl | rfl | rfl | rfl | rfl | rfl | rfl | rfl | rfl | rfl | rfl | rfl | rfl | rfl | rfl | rfl | rfl | rfl | rfl | rfl
    all_goals exact va_eqt (hg _ (by decide +kernel))) hnA
  have hZB : va_Z "BoardKeep$Voices" "BODIES" "[I" (.ref tB) (fun q : Nat => s.heap.size ≤ q) s s.heap := va_Zref (hts0 _ (show Cond.laysStatic "BoardKeep$Voices" "BODIES" "[I" ∈ lw_tbl from List.mem_of_getElem? (i := 705) (by decide +kernel))) (hts0 _ (show Cond.initialized "BoardKeep$Voices" ∈ lw_tbl from List.mem_of_getElem? (i := 73) (by decide +kernel))) htB hnA
  have hN : oN s := by
    intro w hw
    have h1 := oNw_ok w hw
    have h2 := hts0 w (oNw_in w hw)
    match w, h1, h2 with
    | .fieldLinkNest _ _ _ _ _ _, _, h2 => exact va_Nw.of rfl h2
    | .methodLinkNest _ _ _ _, _, h2 => exact va_Nw.of rfl h2
  have hAO : oAO s := ⟨va_AO.of (hts0 _ (show Cond.arrayOver (.object "BoardKeep$Line") ∈ lw_tbl from List.mem_of_getElem? (i := 93) (by decide +kernel))), va_AO.of (hts0 _ (show Cond.arrayOver (.object "BoardKeep$Law") ∈ lw_tbl from List.mem_of_getElem? (i := 120) (by decide +kernel))), va_AO.of (hts0 _ (show Cond.arrayOver (.object "BoardKeep$Sheet") ∈ lw_tbl from List.mem_of_getElem? (i := 305) (by decide +kernel)))⟩
  have hS : va_S (fun q : Nat => s.heap.size ≤ q) s.heap s.heap [] := va_S.rf
  have hK : va_K (dC, dI) vwCl [] s := ⟨hKc, fun k q h => by simp at h⟩
  have hP : va_P (dC, dI) vwCl [] s.heap := fun k q h => by simp at h
  have hD : va_D (fun q : Nat => s.heap.size ≤ q) [] := ⟨fun i j p q h => by simp at h, fun k q h => by simp at h⟩
  have hl := lv_entry ([.ref b]) (n := 4) (Nat.le_of_ble_eq_true rfl)
  rw [lg_entry_eq]
  generalize (lg_sl ([.ref b]) ++ List.replicate (4 - (lg_sl ([.ref b])).length) Slot.unset).toArray = ls at hl ⊢
  have hl : lv_has ls 4 [(0, .ref b)] := hl
  have hb : c.code = cL_law := hb
  refine va_new (pc := 0) (ci := 9) (fs := [.null, .null, .int 0, .null, .null, .null, .null, .null, .null]) (C := RX9) (T := TX9) (N := 9) hx hb hts0 inX9 tyX9 tyX9_ok hown (hts _ wd_L_law_0) (hts _ wd_L_law_1) (hts _ wd_L_law_2) hK hP hD hS hA rfl (fun j hj => by rcases (show j = 0 ∨ j = 1 ∨ j = 2 ∨ j = 3 ∨ j = 4 ∨ j = 5 ∨ j = 6 ∨ j = 7 ∨ j = 8 by omega) with rfl | rfl | rfl | rfl | rfl | rfl | rfl | rfl | rfl <;> rfl) (Nat.le_of_ble_eq_true rfl) (Nat.le_of_ble_eq_true rfl) dL_law_0 (fun q0 H hP hD hS => ?_)
  have hP : va_P (dC, dI) vwCl [(q0, .inr (9, [.null, .null, .int 0, .null, .null, .null, .null, .null, .null]))] H := hP
  have hD : va_D (fun q : Nat => s.heap.size ≤ q) [(q0, .inr (9, [.null, .null, .int 0, .null, .null, .null, .null, .null, .null]))] := hD
  refine W.widen (k := 1) (n := 9) (Nat.le_of_ble_eq_true rfl) (Nat.le_of_ble_eq_true rfl) ?_
  refine lv_dup (pc := 3) hx hb dL_law_3 rfl ?_
  have hPc := hP.sub (ws' := [(q0, .inr (9, [.null, .null, .int 0, .null, .null, .null, .null, .null, .null]))]) [0] rfl
  have hDc := hD.sub (ws' := [(q0, .inr (9, [.null, .null, .int 0, .null, .null, .null, .null, .null, .null]))]) [0] (by decide) rfl
  have hKc' := hK
  have hKc := hK.sub (tys' := []) [] rfl
  have hFc := va_free (wc := [(q0, .inr (9, [.null, .null, .int 0, .null, .null, .null, .null, .null, .null]))]) hD hS hA [0] rfl
  refine va_callv (va_runI (As := []) (rest := [.ref q0]) ⟨hx, hb, hml, hown, hts⟩ (n_X9_init l ((dC, dI), 0, 0, 0, 0, fun _ => 0, 0, 0, 0) q0 H.size) (cwI 0 hts gL_law_X9_init rfl rfl rfl (hts _ wd_L_law_2) (hts _ wd_L_law_7) (hts _ wd_L_law_8) rfl (by decide +kernel) ⟨Nat.le_of_ble_eq_true rfl, Nat.le_of_ble_eq_true rfl⟩) ⟨fun a U g mk q => ⟨q.1, q.2.1, q.2.2.1, va_K.moved (u := U) (U := U.calling g mk a) (Vm.Alike.refl U.vm) q.2.2.2.1, oN.same (u := U) (U := U.calling g mk a) rfl q.2.2.2.2.1, oAO.moved (u := U) (U := U.calling g mk a) (Vm.Alike.refl U.vm) q.2.2.2.2.2.1, q.2.2.2.2.2.2⟩, fun U hU hW => ⟨rfl, by rw [hU], by rw [hU]; exact hPc, va_K.moved hW.alike hKc, hN.warm hW, hAO.moved hW.alike, hDc.weaken (fun _ _ _ _ => trivial)⟩⟩ rfl rfl hl.1 rfl (lv_room (Nat.le_of_ble_eq_true rfl)) dL_law_4 ⟨Nat.le_of_ble_eq_true rfl, Nat.le_of_ble_eq_true rfl⟩) hS (fun q _ h => hFc q h) hFc (fun u t H1 locs ht hvm hw hB hz1 hk1 hS => ?_)
  obtain ⟨a0, e0, e1, e2, e3⟩ := u
  obtain ⟨hP1, hK1, hD1⟩ := hB
  rw [ht] at hP1
  have hK1 := va_K.moved hvm.symm hK1
  have hP1 : va_P (dC, dI) vwCl (cwX e0 e1 e2 e3 q0 a0) H1 := hP1
  obtain ⟨hP, hD⟩ := va_join (wr := []) (w1 := cwX e0 e1 e2 e3 q0 a0) hP hD [0] [] rfl rfl (by decide +kernel) (by decide +kernel) hk1 hFc hP1 hD1
  have hK := hK.app hK1
  generalize H1 = H at hP hS ⊢
  refine W.widen (k := 80) (n := 1181) (Nat.le_of_ble_eq_true rfl) (Nat.le_of_ble_eq_true rfl) ?_
  have hP : va_P (dC, dI) vwCl (cwX e0 e1 e2 e3 q0 a0) H := hP
  have hD : va_D (fun q : Nat => s.heap.size ≤ q) (cwX e0 e1 e2 e3 q0 a0) := hD
  have hK : va_K (dC, dI) vwCl [(e0, .object "BoardKeep$Line"), (e1, .int), (e2, .object "BoardKeep$Law"), (e3, .object "BoardKeep$Sheet")] s := hK
  refine lv_astore_n (pc := 7) (lv' := [(1, .ref q0), (0, .ref b)]) hx hb dL_law_7 rfl hl (by decide) rfl (fun ls hl => ?_)
  refine va_new (pc := 8) (ci := 10) (fs := [.null, .null, .null, .int 0, .null, .null, .null, .null, .null, .null, .null, .null, .int 0, .int 0, .int 0, .int 0, .int 0, .null, .null, .int 0, .int 0]) (C := RX10) (T := TX10) (N := 21) hx hb hts0 inX10 tyX10 tyX10_ok hown (hts _ wd_L_law_3) (hts _ wd_L_law_4) (hts _ wd_L_law_5) hK hP hD hS hA rfl (fun j hj => by rcases (show j = 0 ∨ j = 1 ∨ j = 2 ∨ j = 3 ∨ j = 4 ∨ j = 5 ∨ j = 6 ∨ j = 7 ∨ j = 8 ∨ j = 9 ∨ j = 10 ∨ j = 11 ∨ j = 12 ∨ j = 13 ∨ j = 14 ∨ j = 15 ∨ j = 16 ∨ j = 17 ∨ j = 18 ∨ j = 19 ∨ j = 20 by omega) with rfl | rfl | rfl | rfl | rfl | rfl | rfl | rfl | rfl | rfl | rfl | rfl | rfl | rfl | rfl | rfl | rfl | rfl | rfl | rfl | rfl <;> rfl) (Nat.le_of_ble_eq_true rfl) (Nat.le_of_ble_eq_true rfl) dL_law_8 (fun q1 H hP hD hS => ?_)
  have hP : va_P (dC, dI) vwCl (cwX e0 e1 e2 e3 q0 a0 ++ [(q1, .inr (10, [.null, .null, .null, .int 0, .null, .null, .null, .null, .null, .null, .null, .null, .int 0, .int 0, .int 0, .int 0, .int 0, .null, .null, .int 0, .int 0]))]) H := hP
  have hD : va_D (fun q : Nat => s.heap.size ≤ q) (cwX e0 e1 e2 e3 q0 a0 ++ [(q1, .inr (10, [.null, .null, .null, .int 0, .null, .null, .null, .null, .null, .null, .null, .null, .int 0, .int 0, .int 0, .int 0, .int 0, .null, .null, .int 0, .int 0]))]) := hD
  refine W.widen (k := 81) (n := 1202) (Nat.le_of_ble_eq_true rfl) (Nat.le_of_ble_eq_true rfl) ?_
  refine lv_dup (pc := 11) hx hb dL_law_11 rfl ?_
  have hPc := hP.sub (ws' := [(q1, .inr (10, [.null, .null, .null, .int 0, .null, .null, .null, .null, .null, .null, .null, .null, .int 0, .int 0, .int 0, .int 0, .int 0, .null, .null, .int 0, .int 0]))]) [80] rfl
  have hDc := hD.sub (ws' := [(q1, .inr (10, [.null, .null, .null, .int 0, .null, .null, .null, .null, .null, .null, .null, .null, .int 0, .int 0, .int 0, .int 0, .int 0, .null, .null, .int 0, .int 0]))]) [80] (by decide) rfl
  have hKc' := hK
  have hKc := hK.sub (tys' := []) [] rfl
  have hFc := va_free (wc := [(q1, .inr (10, [.null, .null, .null, .int 0, .null, .null, .null, .null, .null, .null, .null, .null, .int 0, .int 0, .int 0, .int 0, .int 0, .null, .null, .int 0, .int 0]))]) hD hS hA [80] rfl
  refine va_callv (va_runI (As := []) (rest := [.ref q1]) ⟨hx, hb, hml, hown, hts⟩ (n_X10_init l ((dC, dI), 0, 0, 0, 0, fun _ => 0, 0, 0, 0) q1 H.size) (cwI 0 hts gL_law_X10_init rfl rfl rfl (hts _ wd_L_law_5) (hts _ wd_L_law_104) (hts _ wd_L_law_105) rfl (by decide +kernel) ⟨Nat.le_of_ble_eq_true rfl, Nat.le_of_ble_eq_true rfl⟩) ⟨fun a U g mk q => ⟨q.1, q.2.1, q.2.2.1, va_K.moved (u := U) (U := U.calling g mk a) (Vm.Alike.refl U.vm) q.2.2.2.1, oN.same (u := U) (U := U.calling g mk a) rfl q.2.2.2.2.1, oAO.moved (u := U) (U := U.calling g mk a) (Vm.Alike.refl U.vm) q.2.2.2.2.2.1, q.2.2.2.2.2.2⟩, fun U hU hW => ⟨rfl, by rw [hU], by rw [hU]; exact hPc, va_K.moved hW.alike hKc, hN.warm hW, hAO.moved hW.alike, hDc.weaken (fun _ _ _ _ => trivial)⟩⟩ rfl rfl hl.1 rfl (lv_room (Nat.le_of_ble_eq_true rfl)) dL_law_12 ⟨Nat.le_of_ble_eq_true rfl, Nat.le_of_ble_eq_true rfl⟩) hS (fun q _ h => hFc q h) hFc (fun u t H1 locs ht hvm hw hB hz1 hk1 hS => ?_)
  obtain ⟨a1, f0⟩ := u
  obtain ⟨hP1, hK1, hD1⟩ := hB
  rw [ht] at hP1
  have hK1 := va_K.moved hvm.symm hK1
  have hP1 : va_P (dC, dI) vwCl (cwM f0 q1 a1) H1 := hP1
  obtain ⟨hP, hD⟩ := va_join (wr := (cwX e0 e1 e2 e3 q0 a0)) (w1 := cwM f0 q1 a1) hP hD [80] [0, 1, 2, 3, 4, 5, 6, 7, 8, 9, 10, 11, 12, 13, 14, 15, 16, 17, 18, 19, 20, 21, 22, 23, 24, 25, 26, 27, 28, 29, 30, 31, 32, 33, 34, 35, 36, 37, 38, 39, 40, 41, 42, 43, 44, 45, 46, 47, 48, 49, 50, 51, 52, 53, 54, 55, 56, 57, 58, 59, 60, 61, 62, 63, 64, 65, 66, 67, 68, 69, 70, 71, 72, 73, 74, 75, 76, 77, 78, 79] rfl rfl (by decide +kernel) (by decide +kernel) hk1 hFc hP1 hD1
  have hK := hK.app hK1
  generalize H1 = H at hP hS ⊢
  refine W.widen (k := 94) (n := 2762) (Nat.le_of_ble_eq_true rfl) (Nat.le_of_ble_eq_true rfl) ?_
  have hK : va_K (dC, dI) vwCl [(e0, .object "BoardKeep$Line"), (e1, .int), (e2, .object "BoardKeep$Law"), (e3, .object "BoardKeep$Sheet"), (f0, .int)] s := hK
  obtain rfl : e1 = f0 := (va_uni hK (i := 1) (j := 4) rfl rfl).symm
  have hK := hK.sub (tys' := [(e1, .int), (e0, .object "BoardKeep$Line"), (e2, .object "BoardKeep$Law"), (e3, .object "BoardKeep$Sheet")]) [1, 0, 2, 3] rfl
  have hP : va_P (dC, dI) vwCl (cwX e0 e1 e2 e3 q0 a0 ++ cwM e1 q1 a1) H := hP
  have hD : va_D (fun q : Nat => s.heap.size ≤ q) (cwX e0 e1 e2 e3 q0 a0 ++ cwM e1 q1 a1) := hD
  refine lv_astore_n (pc := 15) (lv' := [(2, .ref q1), (1, .ref q0), (0, .ref b)]) hx hb dL_law_15 rfl hl (by decide) rfl (fun ls hl => ?_)
  refine lv_iconst (pc := 16) (v := 0) hx hb dL_law_16 ic_0 ?_
  refine lv_istore_n (pc := 17) (lv' := [(3, .int 0), (2, .ref q1), (1, .ref q0), (0, .ref b)]) hx hb dL_law_17 rfl hl (by decide) rfl (fun ls hl => ?_)
  have hl := lv_sub hl (l' := [(0, .ref b), (1, .ref q0), (2, .ref q1), (3, .int 0)]) [3, 2, 1, 0] rfl
  obtain ⟨x, hxe⟩ : ∃ x : oXp, x = ((dC, dI), e1, e0, e2, e3, adX q0 a0, (tK, tN, tB)) := ⟨_, rfl⟩
  obtain ⟨hI, hAA⟩ : oI (oL x (adM q1 a1)) ∧ ∀ q, oA (oL x (adM q1 a1)) q → s.heap.size ≤ q := by rw [hxe]; exact cw_I hD
  have hPx : va_P x.1 vwCl (oW (oL x (adM q1 a1)) (cmb s0X s0M)) H := by
    rw [hxe]
    refine cmb_P.mpr ⟨cv_X (va_P.sub hP [0, 1, 2, 3, 4, 5, 6, 7, 8, 9, 10, 11, 12, 13, 14, 15, 16, 17, 18, 19, 20, 21, 22, 23, 24, 25, 26, 27, 28, 29, 30, 31, 32, 33, 34, 35, 36, 37, 38, 39, 40, 41, 42, 43, 44, 45, 46, 47, 48, 49, 50, 51, 52, 53, 54, 55, 56, 57, 58, 59, 60, 61, 62, 63, 64, 65, 66, 67, 68, 69, 70, 71, 72, 73, 74, 75, 76, 77, 78, 79] rfl), ?_⟩
    exact cv_M (va_P.sub hP [80, 81, 82, 83, 84, 85, 86, 87, 88, 89, 90, 91, 92, 93] rfl)
  have hKx : va_K x.1 vwCl (oL x (adM q1 a1)).2.1 s := by rw [hxe]; exact hK
  have hZx : oZ (oL x (adM q1 a1)) s s.heap := by
    have h1 : ∀ q, oA (oL x (adM q1 a1)) q → (fun q : Nat => s.heap.size ≤ q) q := hAA
    have e1 : (oL x (adM q1 a1)).2.2.2.2.2 = (tK, tN, tB) := by rw [hxe]
    unfold oZ
    rw [e1]
    exact ⟨⟨hZK.narrow h1, hTK.narrow h1⟩, ⟨hZN.narrow h1, hTN.narrow h1⟩, ⟨hZB.narrow h1, hTB.narrow h1⟩⟩
  have e0 : xa x 0 = q0 := by rw [hxe]; rfl
  have e1 : adM q1 a1 0 = q1 := rfl
  obtain ⟨σ', hpu⟩ := hpure L xs hL
  have C : oC (p, l, e, room_1, s, m, #[Value.ref b], below, meth, c, 94, 2762) (oL x (adM q1 a1)) 4 cL_law RL wsL_law 2000 (some .boolean) := ⟨hx, hb, hml, hown, hts, hKx, hZx, hN, hI, ⟨Nat.le_of_ble_eq_true rfl, Nat.le_of_ble_eq_true rfl, Nat.le_of_ble_eq_true rfl, Nat.le_of_ble_eq_true rfl⟩, hr, hlocks⟩
  have S : oS (p, l, e, room_1, s, m, #[Value.ref b], below, meth, c, 94, 2762) (oL x (adM q1 a1)) b L xs := ⟨hX, hbl, fun h => hbA (hAA _ h)⟩
  have hz : lwK (p, l, e, room_1, s, m, #[Value.ref b], below, meth, c, 94, 2762) b (oL x (adM q1 a1)) := ⟨rfl, rfl, hb, hr, Nat.le_of_ble_eq_true rfl, Nat.le_of_ble_eq_true rfl, hAA⟩
  have hS0 : va_S (oA (oL x (adM q1 a1))) s.heap H [] := ⟨hS.1, fun q h1 h2 => hS.2.1 q h1 (hnA q h1), fun q h => by cases h⟩
  refine va_forget (fun q hq => hS.2.2 q hq) ?_
  have key := v_law C S hz fuN 0 s0X s0M 1 σ' hpu H [] ls hPx hS0 (by rw [e0, e1]; exact hl)
  intro T hT X
  obtain ⟨t, h1, h2⟩ := key T hT X
  exact ⟨t, h1, h2 rfl⟩
