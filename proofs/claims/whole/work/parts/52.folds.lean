def XB (n : Nat) (σ : Sg) : Prop := n ≤ 10 ∧ σ 1 1 = nI n ∧ (0 ≤ (σ 1 2).toInt ∧ (σ 1 2).toInt ≤ 20000) ∧ ∀ l, l < n → LnOK (σ (20 + l)) (σ 1 2)
theorem Vw.xb {n : Nat} {σ τ : Sg} (h : Vw n (σ 1 2) σ τ) : XB n σ := ⟨h.1, h.2.1, h.2.2.2.2.1, fun l hl => (h.2.2.2.2.2.2.1 l hl).1⟩
def tkP (σ : Sg) (k : Int) (l : Nat) : Bool := decide (σ (20 + l) 6 = 0 ∧ k ≤ gbI (σ (20 + l)) (σ 1 2) (σ 1 3))
theorem x_tb4 {n : Nat} {σ : Sg} (h : XB n σ) (k : Int32) : ∀ (d i m : Nat), i + d = n → d < m → f_X0_takenBehind_4 m k (orN (tkP σ k.toInt) (fun l => σ (20 + l) 2) i) (nI i) σ = some (orN (tkP σ k.toInt) (fun l => σ (20 + l) 2) n, σ) := by
  obtain ⟨n10, e1, ⟨d0, d1⟩, a3⟩ := h
  intro d
  induction d with
  | zero =>
    intro i m hi hm
    obtain ⟨m, rfl⟩ : ∃ j, m = j + 1 := ⟨m - 1, by omega⟩
    obtain rfl : i = n := by omega
    rw [f_X0_takenBehind_4]
    unfold f_X0_takenBehind_4_b
    rw [e1, if_pos (nI_le (Nat.le_refl _) (by omega))]
  | succ d ih =>
    intro i m hi hm
    obtain ⟨m, rfl⟩ : ∃ j, m = j + 1 := ⟨m - 1, by omega⟩
    have ei : (nI i).toInt = (i : Int) := i_nI (by omega)
    have q := ih (i + 1) m (by omega) (by omega)
    rw [f_X0_takenBehind_4]
    unfold f_X0_takenBehind_4_b
    rw [e1, if_neg (nI_ge (show i < n by omega) (by omega)), ck_k ei (by omega), tn_k ei, lt_a]
    by_cases z : σ (20 + i) 6 = 0
    · obtain ⟨⟨k0, k0'⟩, ⟨k1, k1'⟩, _, _, ⟨k4, k4'⟩, k5⟩ := a3 i (by omega)
      obtain ⟨r, r1, r2⟩ := x_gb (20 + i) (σ 1 2) (σ 1 3) σ k1 k1' k4 k4' d1
      rw [if_pos z, ck_k ei (by omega), lt_a, r1, bnd_s]
      by_cases g : r < k
      · have hp : ¬ tkP σ k.toInt i = true := by
          unfold tkP; rw [decide_eq_true_eq]; rw [i_lt, r2] at g; omega
        rw [orN, if_neg hp] at q
        rw [if_pos g, lt_a, nI_1]; exact q
      · have hp : tkP σ k.toInt i = true := by
          unfold tkP; rw [decide_eq_true_eq]; rw [i_lt, r2] at g; exact ⟨z, by omega⟩
        rw [orN, if_pos hp] at q
        rw [if_neg g, ck_k ei (by omega), lt_a, lt_a, lt_a, nI_1]; exact q
    · have hp : ¬ tkP σ k.toInt i = true := by
        unfold tkP; rw [decide_eq_true_eq]; exact fun e => z e.1
      rw [orN, if_neg hp] at q
      rw [if_neg z, lt_a, nI_1]; exact q
theorem x_takenBehind {n : Nat} {σ : Sg} (h : XB n σ) (k : Int32) : f_X0_takenBehind k σ = some (orN (tkP σ k.toInt) (fun l => σ (20 + l) 2) n, σ) := by
  have h10 := h.1
  have := x_tb4 h k n 0 fuN (by omega) (by have := fu_le; omega)
  rwa [nI_0] at this
def tbP (τ : Sg) (who : Int32) (l : Nat) : Bool := decide (τ 1 (12 + 7 * l + 6) = 0 ∧ (who < 0 ∨ τ 1 (12 + 7 * l + 3) = who))
theorem m_tb43 {rec4 : Int32 → Int32 → Int32 → Sg → Option (Int32 × Sg)} {who acc : Int32} {i : Nat} (hi : i < 10) (τ : Sg) (b : Bool) : f_X10_takenBy_43 rec4 who acc (nI i) (if b = true then 1 else 0) τ = rec4 who (if b = true then acc ||| τ 1 (12 + 7 * i + 2) else acc) (nI (i + 1)) τ := by
  unfold f_X10_takenBy_43
  cases b
  · rw [show (if false = true then (1 : Int32) else 0) = 0 from rfl, if_pos rfl, if_neg (show ¬ false = true by decide), lt_a, lt_a, nI_1, Int32.or_zero]
  · rw [show (if true = true then (1 : Int32) else 0) = 1 from rfl, if_neg (show ¬ (1 : Int32) = 0 by decide), if_pos (show true = true from rfl), m_it 2 hi rfl (by decide), bnd_s, lt_a, lt_a, nI_1]
theorem m_tb4 {n : Nat} {τ : Sg} (n10 : n ≤ 10) (e2 : τ 1 2 = nI n) (who : Int32) : ∀ (d i m : Nat), i + d = n → d < m → f_X10_takenBy_4 m who (orN (tbP τ who) (fun l => τ 1 (12 + 7 * l + 2)) i) (nI i) τ = some (orN (tbP τ who) (fun l => τ 1 (12 + 7 * l + 2)) n, τ) := by
  intro d
  induction d with
  | zero =>
    intro i m hi hm
    obtain ⟨m, rfl⟩ : ∃ j, m = j + 1 := ⟨m - 1, by omega⟩
    obtain rfl : i = n := by omega
    rw [f_X10_takenBy_4]
    unfold f_X10_takenBy_4_b
    rw [ck_2, rd_2, e2, if_pos (nI_le (Nat.le_refl _) (by omega))]
  | succ d ih =>
    intro i m hi hm
    obtain ⟨m, rfl⟩ : ∃ j, m = j + 1 := ⟨m - 1, by omega⟩
    have q := ih (i + 1) m (by omega) (by omega)
    have key : ∀ b : Bool, tbP τ who i = b → f_X10_takenBy_43 (f_X10_takenBy_4 m) who (orN (tbP τ who) (fun l => τ 1 (12 + 7 * l + 2)) i) (nI i) (if b = true then 1 else 0) τ = some (orN (tbP τ who) (fun l => τ 1 (12 + 7 * l + 2)) n, τ) := by
      intro b hb
      rw [m_tb43 (by omega), ← q, orN, hb]
    rw [f_X10_takenBy_4]
    unfold f_X10_takenBy_4_b
    rw [ck_2, rd_2, e2, if_neg (nI_ge (show i < n by omega) (by omega)), m_it 6 (by omega) rfl (by decide), bnd_s]
    by_cases z : τ 1 (12 + 7 * i + 6) = 0
    · rw [if_pos z]
      by_cases w : who < 0
      · rw [if_pos w]
        exact key true (by unfold tbP; rw [decide_eq_true_eq]; exact ⟨z, Or.inl w⟩)
      · rw [if_neg w, m_it 3 (by omega) rfl (by decide), bnd_s]
        by_cases v : τ 1 (12 + 7 * i + 3) = who
        · rw [if_pos v]
          exact key true (by unfold tbP; rw [decide_eq_true_eq]; exact ⟨z, Or.inr v⟩)
        · rw [if_neg v]
          exact key false (by unfold tbP; rw [decide_eq_false_iff_not]; exact fun e => e.2.elim w v)
    · rw [if_neg z]
      exact key false (by unfold tbP; rw [decide_eq_false_iff_not]; exact fun e => z e.1)
theorem m_takenBy {n : Nat} {τ : Sg} (n10 : n ≤ 10) (e2 : τ 1 2 = nI n) (who : Int32) : f_X10_takenBy who τ = some (orN (tbP τ who) (fun l => τ 1 (12 + 7 * l + 2)) n, τ) := by
  have := m_tb4 n10 e2 who n 0 fuN (by omega) (by have := fu_le; omega)
  rwa [nI_0] at this
def cwP (σ : Sg) (who : Int32) (l : Nat) : Bool := decide (σ (20 + l) 6 = 0 ∧ σ (20 + l) 3 = who)
theorem x_co4 {n : Nat} {σ : Sg} (n10 : n ≤ 10) (e1 : σ 1 1 = nI n) (who : Int32) : ∀ (d i m : Nat), i + d = n → d < m → f_X0_columnsOf_4 m who (orN (cwP σ who) (fun l => σ (20 + l) 2) i) (nI i) σ = some (orN (cwP σ who) (fun l => σ (20 + l) 2) n, σ) := by
  intro d
  induction d with
  | zero =>
    intro i m hi hm
    obtain ⟨m, rfl⟩ : ∃ j, m = j + 1 := ⟨m - 1, by omega⟩
    obtain rfl : i = n := by omega
    rw [f_X0_columnsOf_4]
    unfold f_X0_columnsOf_4_b
    rw [e1, if_pos (nI_le (Nat.le_refl _) (by omega))]
  | succ d ih =>
    intro i m hi hm
    obtain ⟨m, rfl⟩ : ∃ j, m = j + 1 := ⟨m - 1, by omega⟩
    have ei : (nI i).toInt = (i : Int) := i_nI (by omega)
    have q := ih (i + 1) m (by omega) (by omega)
    rw [f_X0_columnsOf_4]
    unfold f_X0_columnsOf_4_b
    rw [e1, if_neg (nI_ge (show i < n by omega) (by omega)), ck_k ei (by omega), tn_k ei, lt_a]
    by_cases z : σ (20 + i) 6 = 0
    · rw [if_pos z, ck_k ei (by omega), lt_a]
      by_cases g : σ (20 + i) 3 = who
      · have hp : cwP σ who i = true := by unfold cwP; rw [decide_eq_true_eq]; exact ⟨z, g⟩
        rw [orN, if_pos hp] at q
        rw [if_pos g, ck_k ei (by omega), lt_a, lt_a, lt_a, nI_1]; exact q
      · have hp : ¬ cwP σ who i = true := by unfold cwP; rw [decide_eq_true_eq]; exact fun e => g e.2
        rw [orN, if_neg hp] at q
        rw [if_neg g, lt_a, nI_1]; exact q
    · have hp : ¬ cwP σ who i = true := by unfold cwP; rw [decide_eq_true_eq]; exact fun e => z e.1
      rw [orN, if_neg hp] at q
      rw [if_neg z, lt_a, nI_1]; exact q
theorem x_columnsOf {n : Nat} {σ : Sg} (n10 : n ≤ 10) (e1 : σ 1 1 = nI n) (who : Int32) : f_X0_columnsOf who σ = some (orN (cwP σ who) (fun l => σ (20 + l) 2) n, σ) := by
  have := x_co4 n10 e1 who n 0 fuN (by omega) (by have := fu_le; omega)
  rwa [nI_0] at this
theorem taken_eq {n : Nat} {σ τ : Sg} (h : Vw n (σ 1 2) σ τ) : ∃ T, T < 4096 ∧ f_X0_taken σ = some (nI T, σ) ∧ f_X10_takenBy (-1 : Int32) τ = some (nI T, τ) := by
  obtain ⟨n10, e1, e2, d0, dd, sp, a3, a4, a7⟩ := id h
  obtain ⟨T, t1, t2⟩ := orN_lt (p := tkP σ (0 : Int32).toInt) (c := fun l => σ (20 + l) 2) (n := n) (fun i hi => (a3 i hi).1.2.2.1)
  refine ⟨T, t1, ?_, ?_⟩
  · unfold f_X0_taken
    rw [x_takenBehind h.xb, bnd_s, t2]
  · rw [m_takenBy n10 e2, ← t2]
    congr 2
    refine orN_congr (fun i hi => ?_) (fun i hi => (a3 i hi).2 2 (by decide))
    unfold tbP tkP
    rw [(a3 i hi).2 6 (by decide)]
    obtain ⟨_, ⟨k1, k1'⟩, _, _, ⟨k4, k4'⟩, _⟩ := (a3 i hi).1
    have g := (gb_b (f := σ (20 + i)) (D := σ 1 2) (sp := σ 1 3) k1 k1' k4 k4').1
    have m1 : (-1 : Int32) < 0 := by decide
    rw [ti_0]
    simp only [m1, true_or, and_true, g]
theorem eq_of {σ τ : Sg} (h : Sim σ τ) (a : Int32) : Ok (f_X9_of a σ) (f_X10_of a τ) := by
  obtain ⟨n, hv⟩ := h.vw
  obtain ⟨n10, e1, e2, d0, dd, sp, a3, a4, a7⟩ := id hv
  unfold f_X9_of f_X10_of
  simp only [x_isIn, m_in, x_err1, m_err1, bnd_s, if01]
  by_cases c1 : 0 ≤ a ∧ a ≤ 5
  · rw [if_pos c1, if_pos c1, x_columnsOf n10 e1, m_takenBy n10 e2, bnd_s, bnd_s]
    obtain ⟨T, t1, t2⟩ := orN_lt (p := cwP σ a) (c := fun l => σ (20 + l) 2) (n := n) (fun i hi => (a3 i hi).1.2.2.1)
    have : orN (tbP τ a) (fun l => τ 1 (12 + 7 * l + 2)) n = nI T := by
      rw [← t2]
      refine orN_congr (fun i hi => ?_) (fun i hi => (a3 i hi).2 2 (by decide))
      unfold tbP cwP
      rw [(a3 i hi).2 6 (by decide), (a3 i hi).2 3 (by decide)]
      have m1 : ¬ a < 0 := by have := c1.1; rw [i_le, ti_0] at this; rw [i_lt, ti_0]; omega
      simp only [m1, false_or]
    rw [this, t2, x_bits t1, m_bits t1, bnd_s, bnd_s]
    exact Ok.mk h
  · rw [if_neg c1, if_neg c1]
    exact Ok.err h 1 (by decide)
theorem eq_clears_err {σ τ : Sg} (h : Sim σ τ) (a : Int32) (c : ¬ (0 ≤ a ∧ a ≤ 90)) : Ok (f_X9_clears a σ) (f_X10_clears a τ) := by
  unfold f_X9_clears f_X10_clears
  simp only [x_isIn, m_in, x_err1, m_err1, bnd_s, if01]
  rw [if_neg c, if_neg c]
  exact Ok.err h 1 (by decide)
/-! lines on columns -/
def loP (σ : Sg) (w : Int32) (l : Nat) : Bool := decide (σ (20 + l) 6 = 0 ∧ ¬ (σ (20 + l) 2 &&& w) = 0)
def loS (σ : Sg) (w : Int32) (n : Nat) : Int32 := orN (loP σ w) (fun l => shl (1 : Int32) (nI l)) n
theorem lines_eq {n : Nat} {D : Int32} {σ τ : Sg} (h : Vw n D σ τ) (w : Int32) : ∀ (d i m m' : Nat), i + d = n → d < m → d < m' → f_X0_linesOn_4 m w (loS σ w i) (nI i) σ = some (loS σ w n, σ) ∧ f_X10_linesOn_4 m' w (loS σ w i) (nI i) τ = some (loS σ w n, τ) := by
  obtain ⟨n10, e1, e2, d0, dd, sp, a3, a4, a7⟩ := h
  intro d
  induction d with
  | zero =>
    intro i m m' hi hm hm'
    obtain ⟨m, rfl⟩ : ∃ j, m = j + 1 := ⟨m - 1, by omega⟩
    obtain ⟨m', rfl⟩ : ∃ j, m' = j + 1 := ⟨m' - 1, by omega⟩
    obtain rfl : i = n := by omega
    rw [f_X0_linesOn_4, f_X10_linesOn_4]
    unfold f_X0_linesOn_4_b f_X10_linesOn_4_b
    rw [e1, if_pos (nI_le (Nat.le_refl _) (by omega)), ck_2, rd_2, e2, if_pos (nI_le (Nat.le_refl _) (by omega))]
    exact ⟨rfl, rfl⟩
  | succ d ih =>
    intro i m m' hi hm hm'
    obtain ⟨m, rfl⟩ : ∃ j, m = j + 1 := ⟨m - 1, by omega⟩
    obtain ⟨m', rfl⟩ : ∃ j, m' = j + 1 := ⟨m' - 1, by omega⟩
    have ei : (nI i).toInt = (i : Int) := i_nI (by omega)
    have k2 := (a3 i (by omega)).2
    obtain ⟨q1, q2⟩ := ih (i + 1) m m' (by omega) (by omega) (by omega)
    have nle := nI_ge (show i < n by omega) (show n < 2 ^ 31 by omega)
    rw [f_X0_linesOn_4, f_X10_linesOn_4]
    unfold f_X0_linesOn_4_b f_X10_linesOn_4_b
    rw [e1, if_neg nle, ck_k ei (by omega), tn_k ei, lt_a, ck_2, rd_2, e2, if_neg nle, m_it 6 (by omega) rfl (by decide), bnd_s, k2 6 (by decide)]
    by_cases z : σ (20 + i) 6 = 0
    · rw [if_pos z, if_pos z, ck_k ei (by omega), lt_a, m_it 2 (by omega) rfl (by decide), bnd_s, k2 2 (by decide)]
      by_cases g : σ (20 + i) 2 &&& w = 0
      · have hp : ¬ loP σ w i = true := by unfold loP; rw [decide_eq_true_eq]; exact fun e => e.2 g
        unfold loS at q1 q2 ⊢
        rw [orN, if_neg hp] at q1 q2
        rw [if_pos g, if_pos g, lt_a, lt_a, lt_a, nI_1, Int32.or_zero]; exact ⟨q1, q2⟩
      · have hp : loP σ w i = true := by unfold loP; rw [decide_eq_true_eq]; exact ⟨z, g⟩
        unfold loS at q1 q2 ⊢
        rw [orN, if_pos hp] at q1 q2
        rw [if_neg g, if_neg g, lt_a, lt_a, lt_a, lt_a, nI_1]; exact ⟨q1, q2⟩
    · have hp : ¬ loP σ w i = true := by unfold loP; rw [decide_eq_true_eq]; exact fun e => z e.1
      unfold loS at q1 q2 ⊢
      rw [orN, if_neg hp] at q1 q2
      rw [if_neg z, if_neg z, lt_a, lt_a, lt_a, nI_1, Int32.or_zero]; exact ⟨q1, q2⟩
theorem linesOn_eq {n : Nat} {D : Int32} {σ τ : Sg} (h : Vw n D σ τ) (w : Int32) : f_X0_linesOn w σ = some (loS σ w n, σ) ∧ f_X10_linesOn w τ = some (loS σ w n, τ) := by
  have h10 := h.1
  have := lines_eq h w n 0 fuN fuN (by omega) (by have := fu_le; omega) (by have := fu_le; omega)
  rwa [nI_0] at this
theorem loS_bt {n : Nat} (n10 : n ≤ 10) (σ : Sg) (w : Int32) {l : Nat} (hl : l < n) : bt (loS σ w n) l = loP σ w l := by
  have q : ∀ i, i < n → bt (shl (1 : Int32) (nI i)) l = decide (i = l) := by
    intro i hi
    rw [shl1 i (by omega), bt_nI (Nat.lt_of_lt_of_le (Nat.pow_lt_pow_right (by decide) (show i < 11 by omega)) (by decide)), Nat.testBit_two_pow]
  cases hp : loP σ w l
  · cases hb : bt (loS σ w n) l
    · rfl
    · obtain ⟨i, hi, p1, p2⟩ := bt_orN.mp hb
      rw [q i hi, decide_eq_true_eq] at p2
      subst p2
      rw [hp] at p1; cases p1
  · exact bt_orN.mpr ⟨l, hl, hp, by rw [q l hl]; simp⟩
theorem loS_lt {n : Nat} (n10 : n ≤ 10) (σ : Sg) (w : Int32) : ∃ k, k < 4096 ∧ loS σ w n = nI k := by
  refine orN_lt (fun i hi => ?_)
  have : 2 ^ i < 2 ^ 11 := Nat.pow_lt_pow_right (by decide) (by omega)
  show 0 ≤ (shl (1 : Int32) (nI i)).toInt ∧ (shl (1 : Int32) (nI i)).toInt < 4096
  rw [shl1 i (by omega)]
  generalize 2 ^ i = z at this ⊢
  rw [i_nI (by omega)]
  omega
