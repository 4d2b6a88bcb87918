theorem m_cp2 {o0 o1 : Nat} (ho : o0 ≠ o1) : ∀ (d i n : Nat) (τ : Sg), i + d = 408 → d < n → ∃ τ', f_X10_copyAll_2 n o0 o1 (nI i) τ = some ((), τ') ∧ (∀ k, k ≠ o1 → τ' k = τ k) ∧ (∀ j, τ' o1 j = if i ≤ j ∧ j < 408 then τ o0 j else τ o1 j) := by
  intro d
  induction d with
  | zero =>
    intro i n τ hi hn
    obtain ⟨n, rfl⟩ : ∃ m, n = m + 1 := ⟨n - 1, by omega⟩
    have ei : (nI i).toInt = (i : Int) := i_nI (by omega)
    refine ⟨τ, ?_, fun _ _ => rfl, fun j => by rw [if_neg (by omega)]⟩
    rw [f_X10_copyAll_2]
    unfold f_X10_copyAll_2_b
    rw [if_pos (by rw [i_le, ei]; show (408 : Int) ≤ _; omega)]
  | succ d ih =>
    intro i n τ hi hn
    obtain ⟨n, rfl⟩ : ∃ m, n = m + 1 := ⟨n - 1, by omega⟩
    have ei : (nI i).toInt = (i : Int) := i_nI (by omega)
    obtain ⟨τ', h1, h2, h3⟩ := ih (i + 1) n (up τ o1 i (τ o0 i)) (by omega) (by omega)
    refine ⟨τ', ?_, fun k hk => by rw [h2 k hk, up_row hk], fun j => ?_⟩
    · rw [f_X10_copyAll_2]
      unfold f_X10_copyAll_2_b
      rw [if_neg (by rw [i_le, ei]; show ¬ (408 : Int) ≤ _; omega), ck_k ei (by omega), ck_k ei (by omega), tn_k ei, rd_k ei, lt_a, lt_a, nI_1]
      exact h1
    · rw [h3 j]
      by_cases hj : j = i
      · subst hj; rw [if_neg (by omega), if_pos (by omega), up_s]
      · by_cases hj2 : i + 1 ≤ j ∧ j < 408
        · rw [if_pos hj2, if_pos (by omega), up_row ho]
        · rw [if_neg hj2, if_neg (by omega), up_i hj]
theorem m_cpAll2 {o0 o1 : Nat} (ho : o0 ≠ o1) (τ : Sg) : ∃ τ', f_X10_copyAll o0 o1 τ = some ((), τ') ∧ (∀ k, k ≠ o1 → τ' k = τ k) ∧ ∀ j, τ' o1 j = if j < 408 then τ o0 j else τ o1 j := by
  obtain ⟨τ', h1, h2, h3⟩ := m_cp2 ho 408 0 fuN τ (by omega) (by have := fu_le; omega)
  rw [nI_0] at h1
  refine ⟨τ', h1, h2, fun j => ?_⟩
  rw [h3 j]
  by_cases hj : j < 408
  · rw [if_pos hj, if_pos (by omega)]
  · rw [if_neg hj, if_neg (by omega)]
/-- a day in thought: who is gone by then -/
def CL (n : Nat) (σ τ0 : Sg) (D : Int32) (lim : Nat → Int) (τ : Sg) : Prop :=
  (∀ i, i < 408 → τ 3 i = τ0 1 i) ∧ (∀ k, k ≠ 1 → k ≠ 3 → τ k = τ0 k) ∧ (∀ i, 408 ≤ i → τ 1 i = τ0 1 i) ∧ τ 1 0 = D ∧ τ 1 2 = nI n ∧ τ 1 3 = σ 1 3 ∧ ∀ l, l < n → (∀ f, f < 6 → τ 1 (12 + 7 * l + f) = σ (20 + l) f) ∧ τ 1 (12 + 7 * l + 6) = if σ (20 + l) 6 = 0 ∧ lim l ≤ gbI (σ (20 + l)) (σ 1 2) (σ 1 3) then 0 else 1
theorem gbI_congr {f g : Nat → Int32} (D sp : Int32) (h : ∀ i, i < 7 → f i = g i) : gbI f D sp = gbI g D sp := by
  unfold gbI
  rw [h 0 (by decide), h 1 (by decide), h 4 (by decide), h 6 (by decide)]
theorem cd_loop {n j : Nat} {σ τ τ0 : Sg} (h : Vw n (σ 1 2) σ τ) (dl : (σ 1 2).toInt ≤ 9999) (hj : j ≤ 90) : ∀ (d i m : Nat) (τ : Sg), i + d = n → d < m → CL n σ τ0 (σ 1 2 + nI j) (fun l => if l < i then (j : Int) + 1 else (j : Int)) τ → ∃ τ', f_X10_clearsDay_2 m (nI i) τ = some ((), τ') ∧ CL n σ τ0 (σ 1 2 + nI (j + 1)) (fun _ => (j : Int) + 1) τ' := by
  have h10 := h.1
  have dd := h.2.2.2.2.1.1
  intro d
  induction d with
  | zero =>
    intro i m τ hi hm inv
    obtain ⟨m, rfl⟩ : ∃ q, m = q + 1 := ⟨m - 1, by omega⟩
    obtain rfl : i = n := by omega
    obtain ⟨c1, c2, c3, c4, c5, c6, c7⟩ := inv
    rw [f_X10_clearsDay_2]
    unfold f_X10_clearsDay_2_b
    rw [ck_2, rd_2, c5, if_pos (nI_le (Nat.le_refl _) (by omega)), ck_0, ck_0, lt_a, tn_0, rd_0, c4]
    have e : σ 1 2 + nI j + 1 = σ 1 2 + nI (j + 1) := by rw [Int32.add_assoc, nI_1]
    refine ⟨_, rfl, fun q hq => by rw [up_k (by decide)]; exact c1 q hq, fun k k1 k3 => by rw [up_row k1]; exact c2 k k1 k3, fun q hq => by rw [up_i (by omega)]; exact c3 q hq, by rw [up_s, e], by rw [up_i (by decide)]; exact c5, by rw [up_i (by decide)]; exact c6, fun l hl => ⟨fun f hf => by rw [up_i (by omega)]; exact (c7 l hl).1 f hf, ?_⟩⟩
    rw [up_i (by omega), (c7 l hl).2]
    show (if σ (20 + l) 6 = 0 ∧ (if l < i then (j : Int) + 1 else (j : Int)) ≤ gbI (σ (20 + l)) (σ 1 2) (σ 1 3) then (0 : Int32) else 1) = _
    rw [if_pos hl]
  | succ d ih =>
    intro i m τ hi hm inv
    obtain ⟨m, rfl⟩ : ∃ q, m = q + 1 := ⟨m - 1, by omega⟩
    obtain ⟨c1, c2, c3, c4, c5, c6, c7⟩ := id inv
    have nle := nI_ge (show i < n by omega) (show n < 2 ^ 31 by omega)
    obtain ⟨⟨k0, k0'⟩, ⟨k1, k1'⟩, _, _, ⟨k4, k4'⟩, _⟩ := (h.2.2.2.2.2.2.1 i (by omega)).1
    obtain ⟨f5, g6⟩ := c7 i (by omega)
    have g6' : τ 1 (12 + 7 * i + 6) = if σ (20 + i) 6 = 0 ∧ (j : Int) ≤ gbI (σ (20 + i)) (σ 1 2) (σ 1 3) then (0 : Int32) else 1 := by
      have e : (if i < i then (j : Int) + 1 else (j : Int)) = j := if_neg (by omega)
      have g : τ 1 (12 + 7 * i + 6) = if σ (20 + i) 6 = 0 ∧ (if i < i then (j : Int) + 1 else (j : Int)) ≤ gbI (σ (20 + i)) (σ 1 2) (σ 1 3) then (0 : Int32) else 1 := g6
      rw [e] at g
      exact g
    have ej : (nI j).toInt = (j : Int) := i_nI (by omega)
    have eD : (σ 1 2 + nI j).toInt = (σ 1 2).toInt + (j : Int) := by rw [i_add (by rw [ej]; omega) (by rw [ej]; omega), ej]
    have q1 : τ 1 (12 + 7 * i + 1) = σ (20 + i) 1 := f5 1 (by decide)
    have q4 : τ 1 (12 + 7 * i + 4) = σ (20 + i) 4 := f5 4 (by decide)
    have g01 : τ 1 (12 + 7 * i + 6) = 0 ∨ τ 1 (12 + 7 * i + 6) = 1 := by
      rw [g6']
      by_cases z : σ (20 + i) 6 = 0 ∧ (j : Int) ≤ gbI (σ (20 + i)) (σ 1 2) (σ 1 3)
      · rw [if_pos z]; exact Or.inl rfl
      · rw [if_neg z]; exact Or.inr rfl
    have mg := m_mayGo (l := i) (by omega) (g := fun f => τ 1 (12 + 7 * i + f)) c4 (fun f _ => rfl) (by rw [q1]; exact k1) (by rw [q1]; exact k1') (by rw [q4]; exact k4) (by rw [q4, eD]; omega) (by rw [eD]; omega) g01
    rw [c6] at mg
    have on := gb_on (f := σ (20 + i)) (sp := σ 1 3) k1 k1' k4 k4' eD (by omega) (by omega) (by omega)
    have step : ∀ τ', (∀ k, k ≠ 1 → τ' k = τ k) → (∀ q, q ≠ 12 + 7 * i + 6 → τ' 1 q = τ 1 q) → τ' 1 (12 + 7 * i + 6) = (if σ (20 + i) 6 = 0 ∧ (j : Int) + 1 ≤ gbI (σ (20 + i)) (σ 1 2) (σ 1 3) then (0 : Int32) else 1) → CL n σ τ0 (σ 1 2 + nI j) (fun l => if l < i + 1 then (j : Int) + 1 else (j : Int)) τ' := by
      intro τ' e1 e2 e3
      refine ⟨fun q hq => by rw [e1 3 (by decide)]; exact c1 q hq, fun k k1 k3 => by rw [e1 k k1]; exact c2 k k1 k3, fun q hq => by rw [e2 q (by omega)]; exact c3 q hq, by rw [e2 0 (by omega)]; exact c4, by rw [e2 2 (by omega)]; exact c5, by rw [e2 3 (by omega)]; exact c6, fun l hl => ⟨fun f hf => by rw [e2 _ (by omega)]; exact (c7 l hl).1 f hf, ?_⟩⟩
      by_cases e : l = i
      · subst e
        rw [e3]
        show _ = if σ (20 + l) 6 = 0 ∧ (if l < l + 1 then (j : Int) + 1 else (j : Int)) ≤ gbI (σ (20 + l)) (σ 1 2) (σ 1 3) then (0 : Int32) else 1
        rw [if_pos (show l < l + 1 by omega)]
      · rw [e2 _ (by omega), (c7 l hl).2]
        show (if σ (20 + l) 6 = 0 ∧ (if l < i then (j : Int) + 1 else (j : Int)) ≤ gbI (σ (20 + l)) (σ 1 2) (σ 1 3) then (0 : Int32) else 1) = if σ (20 + l) 6 = 0 ∧ (if l < i + 1 then (j : Int) + 1 else (j : Int)) ≤ gbI (σ (20 + l)) (σ 1 2) (σ 1 3) then (0 : Int32) else 1
        by_cases e' : l < i
        · rw [if_pos e', if_pos (show l < i + 1 by omega)]
        · rw [if_neg e', if_neg (show ¬ l < i + 1 by omega)]
    rw [f_X10_clearsDay_2]
    unfold f_X10_clearsDay_2_b
    rw [ck_2, rd_2, c5, if_neg nle, mg, bnd_s, if01]
    by_cases z : σ (20 + i) 6 = 0 ∧ (j : Int) ≤ gbI (σ (20 + i)) (σ 1 2) (σ 1 3)
    · rw [if_pos z] at g6'
      have gc : gbI (fun f => τ 1 (12 + 7 * i + f)) (σ 1 2 + nI j) (σ 1 3) = gbI (σ (20 + i)) (σ 1 2 + nI j) (σ 1 3) := by
        refine gbI_congr _ _ (fun f hf => ?_)
        by_cases f6 : f = 6
        · subst f6; show τ 1 (12 + 7 * i + 6) = _; rw [g6', z.1]
        · exact f5 f (by omega)
      rw [gc]
      by_cases y : gbI (σ (20 + i)) (σ 1 2 + nI j) (σ 1 3) = 0
      · rw [if_pos y, m_lets 6 (by omega) rfl (by decide), bnd_s, lt_a, nI_1]
        refine ih (i + 1) m _ (by omega) (by omega) (step _ (fun k hk => up_row hk) (fun q hq => up_i hq) ?_)
        rw [up_s, if_neg (fun e => by have := on.mp y; omega)]
      · rw [if_neg y, lt_a, nI_1]
        refine ih (i + 1) m _ (by omega) (by omega) (step _ (fun k hk => rfl) (fun q hq => rfl) ?_)
        rw [g6', if_pos]
        refine ⟨z.1, ?_⟩
        have : ¬ gbI (σ (20 + i)) (σ 1 2) (σ 1 3) ≤ (j : Int) := fun e => y (on.mpr e)
        omega
    · rw [if_neg z] at g6'
      have gc : ¬ gbI (fun f => τ 1 (12 + 7 * i + f)) (σ 1 2 + nI j) (σ 1 3) = 0 := by
        unfold gbI
        rw [if_neg (show ¬ (fun f => τ 1 (12 + 7 * i + f)) 6 = 0 from fun e => by have e' : τ 1 (12 + 7 * i + 6) = 0 := e; rw [g6'] at e'; exact absurd e' (by decide))]
        decide
      rw [if_neg gc, lt_a, nI_1]
      refine ih (i + 1) m _ (by omega) (by omega) (step _ (fun k hk => rfl) (fun q hq => rfl) ?_)
      rw [g6', if_neg]
      rintro ⟨e1, e2⟩
      exact z ⟨e1, by omega⟩
theorem cd_eq {n j : Nat} {σ τ τ0 τk : Sg} (h : Vw n (σ 1 2) σ τ) (dl : (σ 1 2).toInt ≤ 9999) (hj : j ≤ 90) (inv : CL n σ τ0 (σ 1 2 + nI j) (fun _ => (j : Int)) τk) : ∃ τ', f_X10_clearsDay τk = some ((), τ') ∧ CL n σ τ0 (σ 1 2 + nI (j + 1)) (fun _ => (j : Int) + 1) τ' := by
  have h10 := h.1
  have := cd_loop (τ0 := τ0) h dl hj n 0 fuN τk (by omega) (by have := fu_le; omega) (by
    have : (fun l => if l < 0 then (j : Int) + 1 else (j : Int)) = fun _ => (j : Int) := funext fun l => if_neg (by omega)
    rw [this]; exact inv)
  rw [nI_0] at this
  exact this
theorem cl_start {n : Nat} {σ τ : Sg} (h : Vw n (σ 1 2) σ τ) : ∃ τ', f_X10_thinks τ = some ((), τ') ∧ CL n σ τ (σ 1 2 + nI 0) (fun _ => ((0 : Nat) : Int)) τ' := by
  obtain ⟨n10, e1, e2, d0, dd, sp, a3, a4, a7⟩ := id h
  obtain ⟨τ', p1, p2, p3⟩ := m_cpAll2 (o0 := 1) (o1 := 3) (by decide) τ
  refine ⟨τ', by unfold f_X10_thinks; rw [p1, bnd_s], fun i hi => by rw [p3 i, if_pos hi], fun k k1 k3 => p2 k k3, fun i hi => by rw [p2 1 (by decide)], ?_, ?_, ?_, fun l hl => ⟨fun f hf => ?_, ?_⟩⟩
  · rw [p2 1 (by decide), d0, nI_0, Int32.add_zero]
  · rw [p2 1 (by decide)]; exact e2
  · rw [p2 1 (by decide)]; exact sp
  · rw [p2 1 (by decide)]; exact (a3 l hl).2 f (by omega)
  · rw [p2 1 (by decide), (a3 l hl).2 6 (by decide)]
    have g := (h.gb hl).1
    rcases a4 l (by omega) with z | z
    · rw [if_pos ⟨z, g⟩, z]
    · rw [if_neg (fun e => by rw [z] at e; exact absurd e.1 (by decide)), z]
theorem cl_taken {n j : Nat} {σ τ τ0 τk : Sg} (h : Vw n (σ 1 2) σ τ) (hj : j ≤ 100) {D : Int32} (inv : CL n σ τ0 D (fun _ => (j : Int)) τk) : ∃ T, T < 4096 ∧ f_X0_takenBehind (nI j) σ = some (nI T, σ) ∧ f_X10_takenBy (-1 : Int32) τk = some (nI T, τk) := by
  obtain ⟨n10, e1, e2, d0, dd, sp, a3, a4, a7⟩ := id h
  obtain ⟨c1, c2, c3, c4, c5, c6, c7⟩ := inv
  have ej : (nI j).toInt = (j : Int) := i_nI (by omega)
  obtain ⟨T, t1, t2⟩ := orN_lt (p := tkP σ (nI j).toInt) (c := fun l => σ (20 + l) 2) (n := n) (fun i hi => (a3 i hi).1.2.2.1)
  refine ⟨T, t1, ?_, ?_⟩
  · rw [x_takenBehind h.xb, t2]
  · rw [m_takenBy n10 c5, ← t2]
    congr 2
    refine orN_congr (fun i hi => ?_) (fun i hi => (c7 i hi).1 2 (by decide))
    unfold tbP tkP
    rw [(c7 i hi).2, ej]
    have m1 : (-1 : Int32) < 0 := by decide
    by_cases z : σ (20 + i) 6 = 0 ∧ (j : Int) ≤ gbI (σ (20 + i)) (σ 1 2) (σ 1 3)
    · rw [if_pos z, decide_eq_true z, decide_eq_true]
      exact ⟨rfl, Or.inl m1⟩
    · rw [if_neg z, decide_eq_false z, decide_eq_false]
      exact fun e => absurd e.1 (by decide)
theorem cl_end {n : Nat} {σ τ0 τk : Sg} {D : Int32} {lim : Nat → Int} (inv : CL n σ τ0 D lim τk) : ∃ τ', f_X10_putsBack τk = some ((), τ') ∧ eqM τ0 τ' := by
  obtain ⟨c1, c2, c3, c4, c5, c6, c7⟩ := inv
  obtain ⟨τ', p1, p2, p3⟩ := m_cpAll2 (o0 := 3) (o1 := 1) (by decide) τk
  refine ⟨τ', by unfold f_X10_putsBack; rw [p1, bnd_s], ?_⟩
  have r : ∀ k, k ≠ 1 → k ≠ 3 → τ' k = τ0 k := fun k k1 k3 => by rw [p2 k k1, c2 k k1 k3]
  refine ⟨?_, r 2 (by decide) (by decide), r 4 (by decide) (by decide), r 5 (by decide) (by decide), r 6 (by decide) (by decide), r 7 (by decide) (by decide), r 13 (by decide) (by decide), by rw [r 0 (by decide) (by decide)], by rw [r 0 (by decide) (by decide)]⟩
  funext i
  rw [p3 i]
  by_cases hi : i < 408
  · rw [if_pos hi]; exact c1 i hi
  · rw [if_neg hi]; exact c3 i (by omega)
theorem clears_loop {n N : Nat} (hN : N ≤ 90) {σ τ : Sg} (h : Vw n (σ 1 2) σ τ) (dl : (σ 1 2).toInt ≤ 9999) : ∀ (d i m : Nat) (τk : Sg), i + d = N → d < m → CL n σ τ (σ 1 2 + nI i) (fun _ => (i : Int)) τk → ∃ T τ', f_X0_takenBehind (nI N) σ = some (T, σ) ∧ f_X10_clears_23 m (nI N) (nI i) τk = some (T, τ') ∧ eqM τ τ' := by
  intro d
  induction d with
  | zero =>
    intro i m τk hi hm inv
    obtain ⟨m, rfl⟩ : ∃ q, m = q + 1 := ⟨m - 1, by omega⟩
    obtain rfl : i = N := by omega
    obtain ⟨T, t1, t2, t3⟩ := cl_taken h (by omega) inv
    obtain ⟨τ', p1, p2⟩ := cl_end inv
    refine ⟨nI T, τ', t2, ?_, p2⟩
    rw [f_X10_clears_23]
    unfold f_X10_clears_23_b
    rw [if_pos (nI_le (Nat.le_refl _) (by omega)), t3, bnd_s, p1, bnd_s]
  | succ d ih =>
    intro i m τk hi hm inv
    obtain ⟨m, rfl⟩ : ∃ q, m = q + 1 := ⟨m - 1, by omega⟩
    obtain ⟨τ1, p1, p2⟩ := cd_eq h dl (by omega) inv
    rw [f_X10_clears_23]
    unfold f_X10_clears_23_b
    rw [if_neg (nI_ge (show i < N by omega) (by omega)), p1, bnd_s, lt_a, nI_1]
    exact ih (i + 1) m τ1 (by omega) (by omega) p2
theorem eq_clears {σ τ : Sg} (h : Sim σ τ) (a : Int32) : Ok (f_X9_clears a σ) (f_X10_clears a τ) := by
  have t90 : (90 : Int32).toInt = 90 := rfl
  by_cases c1 : 0 ≤ a ∧ a ≤ 90
  · unfold f_X9_clears f_X10_clears
    simp only [x_isIn, m_in, x_err1, m_err1, bnd_s, if01]
    rw [if_pos c1, if_pos c1]
    simp only [i_le, ti_0, t90] at c1
    obtain ⟨N, hN, rfl⟩ := nI_ofi (a := a) (n := 91) c1.1 (by omega)
    obtain ⟨n, hv⟩ := h.vw
    obtain ⟨τ1, p1, p2⟩ := cl_start hv
    obtain ⟨T, τ', q1, q2, q3⟩ := clears_loop (N := N) (by omega) hv h.1.1.2.2.1 N 0 fuN τ1 (by omega) (by have := fu_le; omega) p2
    rw [nI_0] at q2
    rw [q1, p1, bnd_s, bnd_s, q2]
    exact Ok.mk (Sim_eq h eqX.rf q3)
  · exact eq_clears_err h a c1
