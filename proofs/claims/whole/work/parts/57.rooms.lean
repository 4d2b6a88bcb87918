def lbI (σ : Sg) (D : Int32) (P : Nat → Bool) : Nat → Int
  | 0 => 0
  | i + 1 => if P i = true then (if lbI σ D P i < gbI (σ (20 + i)) D (σ 1 3) then gbI (σ (20 + i)) D (σ 1 3) else lbI σ D P i) else lbI σ D P i
theorem lbI_le {σ : Sg} {D : Int32} {P : Nat → Bool} {k : Int} (hk : 0 ≤ k) : ∀ n, lbI σ D P n ≤ k ↔ ∀ l, l < n → P l = true → gbI (σ (20 + l)) D (σ 1 3) ≤ k := by
  intro n
  induction n with
  | zero => exact ⟨fun _ l hl => absurd hl (by omega), fun _ => hk⟩
  | succ n ih =>
    unfold lbI
    constructor
    · intro h l hl hp
      by_cases hn : l = n
      · subst hn
        rw [if_pos hp] at h
        split at h <;> omega
      · refine ih.mp ?_ l (by omega) hp
        by_cases q : P n = true
        · rw [if_pos q] at h
          split at h <;> omega
        · rw [if_neg q] at h; exact h
    · intro h
      have h1 := ih.mpr (fun l hl => h l (by omega))
      by_cases q : P n = true
      · rw [if_pos q]
        have h2 := h n (by omega) q
        split <;> omega
      · rw [if_neg q]; exact h1
theorem lbI_b {σ : Sg} {D : Int32} {P : Nat → Bool} : ∀ n, (∀ l, l < n → 0 ≤ gbI (σ (20 + l)) D (σ 1 3) ∧ gbI (σ (20 + l)) D (σ 1 3) ≤ 1000000) → 0 ≤ lbI σ D P n ∧ lbI σ D P n ≤ 1000000 := by
  intro n
  induction n with
  | zero => intro _; unfold lbI; omega
  | succ n ih =>
    intro h
    have h1 := ih (fun l hl => h l (by omega))
    have h2 := h n (by omega)
    unfold lbI
    repeat' split
    all_goals omega
theorem Vw.gb {n : Nat} {D : Int32} {σ τ : Sg} (h : Vw n D σ τ) {l : Nat} (hl : l < n) : 0 ≤ gbI (σ (20 + l)) D (σ 1 3) ∧ gbI (σ (20 + l)) D (σ 1 3) ≤ 1000000 := by
  obtain ⟨_, ⟨k1, k1'⟩, _, _, ⟨k4, k4'⟩, _⟩ := (h.2.2.2.2.2.2.1 l hl).1
  exact gb_b k1 k1' k4 k4'
theorem x_lb5 {n : Nat} {D : Int32} {σ τ : Sg} (h : Vw n D σ τ) {s : Int32} {P : Nat → Bool} (hs : ∀ l, l < n → bt s l = P l) : ∀ (d i m : Nat) (acc : Int32), i + d = n → d < m → acc.toInt = lbI σ D P i → ∃ r, f_X5_lastBehind_5 m s D acc (nI i) σ = some (r, σ) ∧ r.toInt = lbI σ D P n := by
  have h10 := h.1
  have e1 := h.2.1
  intro d
  induction d with
  | zero =>
    intro i m acc hi hm ha
    obtain ⟨m, rfl⟩ : ∃ j, m = j + 1 := ⟨m - 1, by omega⟩
    obtain rfl : i = n := by omega
    refine ⟨acc, ?_, ha⟩
    rw [f_X5_lastBehind_5]
    unfold f_X5_lastBehind_5_b
    rw [e1, if_pos (nI_le (Nat.le_refl _) (by omega))]
  | succ d ih =>
    intro i m acc hi hm ha
    obtain ⟨m, rfl⟩ : ∃ j, m = j + 1 := ⟨m - 1, by omega⟩
    have ei : (nI i).toInt = (i : Int) := i_nI (by omega)
    have nle := nI_ge (show i < n by omega) (show n < 2 ^ 31 by omega)
    rw [f_X5_lastBehind_5]
    unfold f_X5_lastBehind_5_b
    rw [e1, if_neg nle, x_isOf (by omega), bnd_s, if01, hs i (by omega)]
    by_cases hp : P i = true
    · obtain ⟨_, ⟨k1, k1'⟩, _, _, ⟨k4, k4'⟩, _⟩ := (h.2.2.2.2.2.2.1 i (by omega)).1
      obtain ⟨r, r1, r2⟩ := x_gb (20 + i) D (σ 1 3) σ k1 k1' k4 k4' h.2.2.2.2.1.2
      rw [if_pos hp, ck_k ei (by omega), tn_k ei, lt_a, r1, bnd_s, lt_a, lt_a, nI_1]
      refine ih (i + 1) m _ (by omega) (by omega) ?_
      rw [i_mx, lbI, if_pos hp, ha, r2]
    · rw [if_neg hp, lt_a, nI_1]
      refine ih (i + 1) m acc (by omega) (by omega) ?_
      rw [lbI, if_neg hp, ha]
theorem x_lastBehind {n : Nat} {D : Int32} {σ τ : Sg} (h : Vw n D σ τ) {s : Int32} {P : Nat → Bool} (hs : ∀ l, l < n → bt s l = P l) : ∃ r, f_X5_lastBehind s D σ = some (r, σ) ∧ r.toInt = lbI σ D P n := by
  have h10 := h.1
  have := x_lb5 h hs n 0 fuN 0 (by omega) (by have := fu_le; omega) rfl
  rwa [nI_0] at this
/-! what is lost on columns -/
theorem loss_all {n : Nat} {D : Int32} {s : Int32} : ∀ (d i m m' : Nat) (acc : Int32) (σ τ : Sg), Vw n D σ τ → i + d = n → d < m → d < m' → (∀ l, l < n → bt s l = true → gbI (σ (20 + l)) D (σ 1 3) = 0) → 0 ≤ acc.toInt → acc.toInt ≤ 999 * (i : Int) → ∃ v σ' τ', f_X5_lossOfAll_5 m s D acc (nI i) σ = some (v, σ') ∧ f_X10_lossOn_11 m' s acc (nI i) τ = some (v, τ') ∧ eqX σ σ' ∧ eqM τ τ' ∧ 0 ≤ v.toInt ∧ σ' 4 = σ 4 := by
  intro d
  induction d with
  | zero =>
    intro i m m' acc σ τ h hi hm hm' hg a0 a1
    obtain ⟨m, rfl⟩ : ∃ j, m = j + 1 := ⟨m - 1, by omega⟩
    obtain ⟨m', rfl⟩ : ∃ j, m' = j + 1 := ⟨m' - 1, by omega⟩
    obtain rfl : i = n := by omega
    have h10 := h.1
    refine ⟨acc, σ, τ, ?_, ?_, eqX.rf, eqM.rf, a0, rfl⟩
    · rw [f_X5_lossOfAll_5]
      unfold f_X5_lossOfAll_5_b
      rw [h.2.1, if_pos (nI_le (Nat.le_refl _) (by omega))]
    · rw [f_X10_lossOn_11]
      unfold f_X10_lossOn_11_b
      rw [ck_2, rd_2, h.2.2.1, if_pos (nI_le (Nat.le_refl _) (by omega))]
  | succ d ih =>
    intro i m m' acc σ τ h hi hm hm' hg a0 a1
    obtain ⟨m, rfl⟩ : ∃ j, m = j + 1 := ⟨m - 1, by omega⟩
    obtain ⟨m', rfl⟩ : ∃ j, m' = j + 1 := ⟨m' - 1, by omega⟩
    have h10 := h.1
    have nle := nI_ge (show i < n by omega) (show n < 2 ^ 31 by omega)
    rw [f_X5_lossOfAll_5, f_X10_lossOn_11]
    unfold f_X5_lossOfAll_5_b f_X10_lossOn_11_b
    rw [h.2.1, if_neg nle, ck_2, rd_2, h.2.2.1, if_neg nle, x_isOf (by omega), bnd_s, shr_1 (by omega), if01, if11]
    by_cases hb : bt s i = true
    · have g := hg i (by omega) hb
      obtain ⟨v, σ1, τ1, v1, v2, v3, v4, v5, v6, v7⟩ := loss_eq h (show i < n by omega)
      have es : (acc + v).toInt = acc.toInt + v.toInt := i_add (by omega) (by omega)
      rw [if_pos hb, if_pos hb, (mayGo_eq h (show i < n by omega)).2, bnd_s, if01, if_pos g, v1, v2, bnd_s, bnd_s, lt_a, lt_a, lt_a, lt_a, nI_1]
      obtain ⟨v', σ', τ', w1, w2, w3, w4, w5⟩ := ih (i + 1) m m' (acc + v) σ1 τ1 (h.eq v3 v4) (by omega) (by omega) (by omega) (fun l hl hbl => by rw [v3 _ (rlv_l (l := l) (by omega)).1, v3 1 rfl]; exact hg l hl hbl) (by omega) (by omega)
      exact ⟨v', σ', τ', w1, w2, v3.tr w3, v4.tr w4, w5.1, w5.2.trans v7⟩
    · rw [if_neg hb, if_neg hb, lt_a, lt_a, nI_1]
      exact ih (i + 1) m m' acc σ τ h (by omega) (by omega) (by omega) hg a0 (by omega)
theorem loss_not {n : Nat} {D : Int32} {s : Int32} : ∀ (d i m' : Nat) (acc : Int32) (σ τ : Sg), Vw n D σ τ → i + d = n → d < m' → (∃ l, i ≤ l ∧ l < n ∧ bt s l = true ∧ ¬ gbI (σ (20 + l)) D (σ 1 3) = 0) → ∃ τ', f_X10_lossOn_11 m' s acc (nI i) τ = some (-1, τ') ∧ eqM τ τ' := by
  intro d
  induction d with
  | zero =>
    intro i m' acc σ τ h hi hm' hg
    obtain ⟨l, l1, l2, _⟩ := hg
    omega
  | succ d ih =>
    intro i m' acc σ τ h hi hm' hg
    obtain ⟨m', rfl⟩ : ∃ j, m' = j + 1 := ⟨m' - 1, by omega⟩
    have h10 := h.1
    have nle := nI_ge (show i < n by omega) (show n < 2 ^ 31 by omega)
    rw [f_X10_lossOn_11]
    unfold f_X10_lossOn_11_b
    rw [ck_2, rd_2, h.2.2.1, if_neg nle, shr_1 (by omega), if11]
    obtain ⟨l, l1, l2, l3, l4⟩ := hg
    by_cases hb : bt s i = true
    · rw [if_pos hb, (mayGo_eq h (show i < n by omega)).2, bnd_s, if01]
      by_cases g : gbI (σ (20 + i)) D (σ 1 3) = 0
      · obtain ⟨v, σ1, τ1, v1, v2, v3, v4, v5, v6⟩ := loss_eq h (show i < n by omega)
        rw [if_pos g, v2, bnd_s, lt_a, lt_a, nI_1]
        have : l ≠ i := fun e => by subst e; exact l4 g
        obtain ⟨τ', w1, w2⟩ := ih (i + 1) m' (acc + v) σ τ1 (h.eq eqX.rf v4) (by omega) (by omega) ⟨l, by omega, l2, l3, l4⟩
        exact ⟨τ', w1, v4.tr w2⟩
      · rw [if_neg g]
        exact ⟨τ, rfl, eqM.rf⟩
    · rw [if_neg hb, lt_a, nI_1]
      have : l ≠ i := fun e => by subst e; exact hb l3
      exact ih (i + 1) m' acc σ τ h (by omega) (by omega) ⟨l, by omega, l2, l3, l4⟩
def LB (n : Nat) (σ : Sg) (D w : Int32) : Int := lbI σ D (loP σ w) n
theorem col_last {n : Nat} {D : Int32} {σ τ : Sg} (h : Vw n D σ τ) (w : Int32) : ∃ r, f_X5_lastBehind (loS σ w n) D σ = some (r, σ) ∧ r.toInt = LB n σ D w := x_lastBehind h (fun _ hl => loS_bt h.1 σ w hl)
theorem col_all {n : Nat} {D : Int32} {σ τ : Sg} (h : Vw n D σ τ) (w : Int32) (hw : LB n σ D w = 0) : ∃ v σ' τ', f_X5_lossOfAll (loS σ w n) D σ = some (v, σ') ∧ f_X10_lossOn w τ = some (v, τ') ∧ eqX σ σ' ∧ eqM τ τ' ∧ 0 ≤ v.toInt ∧ σ' 4 = σ 4 := by
  have h10 := h.1
  have g := (lbI_le (σ := σ) (D := D) (P := loP σ w) (Int.le_refl 0) n).mp (Int.le_of_eq hw)
  obtain ⟨v, σ', τ', w1, w2, w3⟩ := loss_all (s := loS σ w n) n 0 fuN fuN 0 σ τ h (by omega) (by have := fu_le; omega) (by have := fu_le; omega) (fun l hl hb => by rw [loS_bt h10 σ w hl] at hb; have q1 := g l hl hb; have q2 := (h.gb hl).1; omega) (by decide) (by decide)
  rw [nI_0] at w1 w2
  refine ⟨v, σ', τ', w1, ?_, w3⟩
  unfold f_X10_lossOn
  rw [(linesOn_eq h w).2, bnd_s]
  exact w2
theorem col_not {n : Nat} {D : Int32} {σ τ : Sg} (h : Vw n D σ τ) (w : Int32) (hw : ¬ LB n σ D w = 0) : ∃ τ', f_X10_lossOn w τ = some (-1, τ') ∧ eqM τ τ' := by
  have h10 := h.1
  have b := lbI_b (P := loP σ w) n (fun l hl => h.gb hl)
  have g : ∃ l, 0 ≤ l ∧ l < n ∧ bt (loS σ w n) l = true ∧ ¬ gbI (σ (20 + l)) D (σ 1 3) = 0 := by
    refine Classical.byContradiction fun q => hw ?_
    have : LB n σ D w ≤ 0 := by
      refine (lbI_le (Int.le_refl 0) n).mpr (fun l hl hp => ?_)
      refine Classical.byContradiction fun z => q ⟨l, by omega, hl, by rw [loS_bt h10 σ w hl]; exact hp, fun e => z (by omega)⟩
    have b1 := b.1
    unfold LB at this ⊢
    omega
  obtain ⟨τ', w1, w2⟩ := loss_not (s := loS σ w n) n 0 fuN 0 σ τ h (by omega) (by have := fu_le; omega) g
  rw [nI_0] at w1
  refine ⟨τ', ?_, w2⟩
  unfold f_X10_lossOn
  rw [(linesOn_eq h w).2, bnd_s]
  exact w1
def detL (w v : Int32) (τ : Sg) : Prop := ∀ τ1, eqM τ τ1 → ∃ τ2, f_X10_lossOn w τ1 = some (v, τ2) ∧ eqM τ1 τ2
theorem detL.tr {w v : Int32} {τ τ' : Sg} (h : detL w v τ) (e : eqM τ τ') : detL w v τ' := fun τ1 h1 => h τ1 (e.tr h1)
theorem col_det {n : Nat} {D : Int32} {σ τ : Sg} (h : Vw n D σ τ) (w : Int32) {v : Int32} {σ' : Sg} (hx : f_X5_lossOfAll (loS σ w n) D σ = some (v, σ')) (hw : LB n σ D w = 0) : detL w v τ := by
  intro τ1 e
  obtain ⟨v', σ1, τ2, w1, w2, w3, w4, _⟩ := col_all (h.eq eqX.rf e) w hw
  rw [hx] at w1
  cases w1
  exact ⟨τ2, w2, w4⟩
theorem loP_eq {σ σ' : Sg} (e : eqX σ σ') (w : Int32) {l : Nat} (hl : l < 10) : loP σ' w l = loP σ w l := by
  unfold loP
  rw [e _ (rlv_l hl).1]
theorem loS_eq {σ σ' : Sg} (e : eqX σ σ') (w : Int32) {n : Nat} (n10 : n ≤ 10) : loS σ' w n = loS σ w n := orN_congr (fun i hi => loP_eq e w (by omega)) (fun _ _ => rfl)
theorem LB_eq {σ σ' : Sg} (e : eqX σ σ') (D w : Int32) {n : Nat} (n10 : n ≤ 10) : LB n σ' D w = LB n σ D w := by
  unfold LB
  have : ∀ k, k ≤ n → lbI σ' D (loP σ' w) k = lbI σ D (loP σ w) k := by
    intro k
    induction k with
    | zero => intro _; rfl
    | succ k ih => intro hk; unfold lbI; rw [ih (by omega), loP_eq e w (by omega), e _ (rlv_l (l := k) (by omega)).1, e 1 rfl]
  exact this n (Nat.le_refl _)
def RmI (n N : Nat) (D : Int32) (c : Nat) (any best least : Int32) (σ τ : Sg) : Prop :=
  (any = 0 ∧ best = -1 ∧ ∀ c', c' < c → ¬ LB n σ D (nI (winN c' N)) = 0) ∨ (any = 1 ∧ ∃ b, b < c ∧ best = nI b ∧ σ 4 1 = nI b ∧ σ 4 0 = least ∧ σ 4 2 = loS σ (nI (winN b N)) n ∧ LB n σ D (nI (winN b N)) = 0 ∧ detL (nI (winN b N)) least τ)
theorem seek_loop {n N : Nat} (hN : 1 ≤ N) (hN2 : N ≤ 12) {D : Int32} : ∀ (d c m m' : Nat) (any best least : Int32) (σ τ : Sg), c + d = 13 - N → d < m → d < m' → Vw n D σ τ → RmI n N D c any best least σ τ → ∃ any' best' least' σ' τ', f_X5_seek_6 m (nI N) D any (nI c) σ = some (any', σ') ∧ f_X10_roomAt_7 m' (nI N) best least (nI c) τ = some (best', τ') ∧ eqX σ σ' ∧ eqM τ τ' ∧ RmI n N D (13 - N) any' best' least' σ' τ' := by
  intro d
  induction d with
  | zero =>
    intro c m m' any best least σ τ hc hm hm' h inv
    obtain ⟨m, rfl⟩ : ∃ j, m = j + 1 := ⟨m - 1, by omega⟩
    obtain ⟨m', rfl⟩ : ∃ j, m' = j + 1 := ⟨m' - 1, by omega⟩
    obtain rfl : c = 13 - N := by omega
    have lt12 : (12 : Int32) < nI (13 - N) + nI N := by
      rw [nI_add, show 13 - N + N = 13 by omega]; decide
    have isb1 : isb any = true := by
      unfold isb
      rcases inv with ⟨r, _⟩ | ⟨r, _⟩
      · rw [r]; rfl
      · rw [r]; rfl
    refine ⟨any, best, least, σ, τ, ?_, ?_, eqX.rf, eqM.rf, inv⟩
    · rw [f_X5_seek_6]
      unfold f_X5_seek_6_b
      rw [if_pos lt12, ckb_t isb1]
    · rw [f_X10_roomAt_7]
      unfold f_X10_roomAt_7_b
      rw [if_pos lt12]
  | succ d ih =>
    intro c m m' any best least σ τ hc hm hm' h inv
    obtain ⟨m, rfl⟩ : ∃ j, m = j + 1 := ⟨m - 1, by omega⟩
    obtain ⟨m', rfl⟩ : ∃ j, m' = j + 1 := ⟨m' - 1, by omega⟩
    have h10 := h.1
    have nlt12 : ¬ (12 : Int32) < nI c + nI N := by
      rw [nI_add, i_lt, i_nI (by omega), ti_12]; omega
    have ec : (nI c).toInt = (c : Int) := i_nI (by omega)
    obtain ⟨r, r1, r2⟩ := col_last h (nI (winN c N))
    rw [f_X5_seek_6, f_X10_roomAt_7]
    unfold f_X5_seek_6_b f_X10_roomAt_7_b f_X9_columnsFrom f_X10_window
    rw [if_neg nlt12, if_neg nlt12, win_eq N (by omega) c (by omega) (by omega), bnd_s, bnd_s, (linesOn_eq h _).1, bnd_s, r1, bnd_s]
    by_cases hz : LB n σ D (nI (winN c N)) = 0
    · obtain ⟨v, σ1, τ1, v1, v2, v3, v4, v5, v7⟩ := col_all h (nI (winN c N)) hz
      have det := col_det h (nI (winN c N)) v1 hz
      have row4 : ∀ k, rlv k = false → True := fun _ _ => trivial
      rw [if_pos (by rw [i_eq, r2, hz, ti_0]), v1, v2, bnd_s, bnd_s, if_neg (show ¬ v < 0 by rw [i_lt, ti_0]; omega)]
      have take : ∃ any' best' least' σ' τ', f_X5_seek_60 (f_X5_seek_6 m) (nI N) D (nI c) (loS σ (nI (winN c N)) n) v σ1 = some (any', σ') ∧ f_X10_roomAt_48 (f_X10_roomAt_7 m') (nI N) best least (nI c) v (1 : Int32) τ1 = some (best', τ') ∧ eqX σ σ' ∧ eqM τ τ' ∧ RmI n N D (13 - N) any' best' least' σ' τ' := by
        unfold f_X5_seek_60 f_X10_roomAt_48
        rw [if_neg (show ¬ (1 : Int32) = 0 by decide), if_neg (show ¬ (1 : Int32) = 0 by decide)]
        simp only [lt_a, nI_1]
        have ex : eqX σ1 (up (up (up σ1 4 0 v) 4 1 (nI c)) 4 2 (loS σ (nI (winN c N)) n)) := ((eqX.up rfl).tr (eqX.up rfl)).tr (eqX.up rfl)
        have ex2 := v3.tr ex
        obtain ⟨any', best', least', σ', τ', w1, w2, w3, w4, w5⟩ := ih (c + 1) m m' 1 (nI c) v _ τ1 (by omega) (by omega) (by omega) (h.eq ex2 v4) (Or.inr ⟨rfl, c, by omega, rfl, by rw [up_i (by decide), up_s], by rw [up_i (by decide), up_i (by decide), up_s], by rw [up_s, loS_eq ex2 _ h10], by rw [LB_eq ex2 _ _ h10]; exact hz, det.tr v4⟩)
        exact ⟨any', best', least', σ', τ', w1, w2, ex2.tr w3, v4.tr w4, w5⟩
      rcases inv with ⟨i1, i2, i3⟩ | ⟨i1, b, i2, i3, i4, i5, i6, i7, i8⟩
      · rw [i1, i2, if_pos rfl, if_pos (show (-1 : Int32) < 0 by decide)]
        rw [i2] at take
        exact take
      · have eb : (nI b).toInt = (b : Int) := i_nI (by omega)
        rw [i1, if_neg (show ¬ (1 : Int32) = 0 by decide), i3, if_neg (show ¬ nI b < 0 by rw [i_lt, eb, ti_0]; omega)]
        rw [i3] at take
        rw [v7, i5]
        by_cases hc2 : least ≤ v
        · rw [if_pos hc2, if_pos hc2, lt_a, nI_1]
          unfold f_X10_roomAt_48
          rw [if_pos rfl, if_pos rfl, lt_a, nI_1]
          obtain ⟨any', best', least', σ', τ', w1, w2, w3, w4, w5⟩ := ih (c + 1) m m' 1 (nI b) least σ1 τ1 (by omega) (by omega) (by omega) (h.eq v3 v4) (Or.inr ⟨rfl, b, by omega, rfl, by rw [v7]; exact i4, by rw [v7]; exact i5, by rw [v7, loS_eq v3 _ h10]; exact i6, by rw [LB_eq v3 _ _ h10]; exact i7, i8.tr v4⟩)
          exact ⟨any', best', least', σ', τ', w1, w2, v3.tr w3, v4.tr w4, w5⟩
        · rw [if_neg hc2, if_neg hc2]
          exact take
    · obtain ⟨τ1, v1, v2⟩ := col_not h (nI (winN c N)) hz
      have b := lbI_b (P := loP σ (nI (winN c N))) n (fun l hl => h.gb hl)
      rw [if_neg (fun e => hz (by rw [← r2, e, ti_0])), v1, bnd_s, if_pos (show (-1 : Int32) < 0 by decide), lt_a, nI_1]
      unfold f_X10_roomAt_48
      rw [if_pos rfl, if_pos rfl, lt_a, nI_1]
      obtain ⟨any', best', least', σ', τ', w1, w2, w3, w4, w5⟩ := ih (c + 1) m m' any best least σ τ1 (by omega) (by omega) (by omega) (h.eq eqX.rf v2) (by
        rcases inv with ⟨i1, i2, i3⟩ | ⟨i1, b, i2, i3, i4, i5, i6, i7, i8⟩
        · refine Or.inl ⟨i1, i2, fun c' hc' => ?_⟩
          by_cases e : c' = c
          · subst e; exact hz
          · exact i3 c' (by omega)
        · exact Or.inr ⟨i1, b, by omega, i3, i4, i5, i6, i7, i8.tr v2⟩)
      exact ⟨any', best', least', σ', τ', w1, w2, w3, v2.tr w4, w5⟩
