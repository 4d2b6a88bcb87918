def bt (v : Int32) (l : Nat) : Bool := v.toBitVec.getLsbD l
theorem bt_or {a b : Int32} {l : Nat} : bt (a ||| b) l = (bt a l || bt b l) := BitVec.getLsbD_or
theorem bt_and {a b : Int32} {l : Nat} : bt (a &&& b) l = (bt a l && bt b l) := BitVec.getLsbD_and
theorem bt_ext {a b : Int32} (h : ∀ l, l < 32 → bt a l = bt b l) : a = b := Int32.toBitVec_inj.1 (BitVec.eq_of_getLsbD_eq h)
theorem bt_nI {v l : Nat} (hv : v < 2147483648) : bt (nI v) l = v.testBit l := by
  unfold bt
  show (BitVec.ofNat 32 v).getLsbD l = _
  rw [BitVec.getLsbD_ofNat]
  by_cases h : l < 32
  · simp [h]
  · have q : v.testBit l = false := Nat.testBit_lt_two_pow (Nat.lt_of_lt_of_le (show v < 2 ^ 31 by omega) (Nat.pow_le_pow_right (by decide) (by omega)))
    rw [q]; simp [h]
theorem bt_z {l : Nat} : bt 0 l = false := by
  have := bt_nI (v := 0) (l := l) (by decide)
  rw [nI_0] at this
  rw [this]; exact Nat.zero_testBit l
theorem bt_1 {l : Nat} : bt 1 l = decide (l = 0) := by
  have := bt_nI (v := 1) (l := l) (by decide)
  rw [show nI 1 = (1 : Int32) from rfl] at this
  rw [this]
  cases l with
  | zero => rfl
  | succ l => rw [Nat.testBit_succ]; simp
theorem and_0 {a b : Int32} : a &&& b = 0 ↔ ∀ l, l < 32 → ¬ (bt a l = true ∧ bt b l = true) := by
  constructor
  · intro h l hl ⟨p, q⟩
    have : bt (a &&& b) l = false := by rw [h]; exact bt_z
    rw [bt_and, p, q] at this
    cases this
  · intro h
    refine bt_ext fun l hl => ?_
    rw [bt_and, bt_z]
    have := h l hl
    cases p : bt a l
    · rfl
    · cases q : bt b l
      · rfl
      · exact absurd ⟨p, q⟩ this
theorem sh_amt : ∀ l, l < 32 → ((nI l &&& 31).toBitVec.smod 32).toNat = l := by decide +kernel
theorem shr_1 {v : Int32} {l : Nat} (hl : l < 32) : (shr v (nI l)) &&& (1 : Int32) = if bt v l = true then 1 else 0 := by
  have q : bt (shr v (nI l)) 0 = bt v l := by
    unfold shr bt
    rw [Int32.toBitVec_shiftRight, BitVec.getLsbD_sshiftRight', sh_amt l hl]
    simp [hl]
  refine bt_ext fun i hi => ?_
  rw [bt_and, bt_1]
  cases i with
  | zero =>
    rw [q]
    cases bt v l <;> simp [bt_1, bt_z]
  | succ i =>
    cases bt v l <;> simp [bt_1, bt_z]
theorem x_isOf {v : Int32} {l : Nat} (hl : l < 32) (σ : Sg) : f_X9_isOf (nI l) v σ = some (if bt v l = true then 1 else 0, σ) := by
  unfold f_X9_isOf
  rw [shr_1 hl, if01]
  by_cases h : bt v l = true
  · rw [if_pos h, if_pos h]
  · rw [if_neg h, if_neg h]
theorem nI_or {a b : Nat} (ha : a < 2147483648) (hb : b < 2147483648) : nI a ||| nI b = nI (a ||| b) := by
  have hab : a ||| b < 2147483648 := Nat.or_lt_two_pow (n := 31) ha hb
  refine bt_ext fun l _ => ?_
  rw [bt_or, bt_nI ha, bt_nI hb, bt_nI hab, Nat.testBit_or]
theorem shl1 : ∀ l, l < 31 → shl (1 : Int32) (nI l) = nI (2 ^ l) := by decide +kernel
/-! sets of columns or lines -/
def orN (p : Nat → Bool) (c : Nat → Int32) : Nat → Int32
  | 0 => 0
  | i + 1 => if p i = true then orN p c i ||| c i else orN p c i
theorem orN_congr {p p' : Nat → Bool} {c c' : Nat → Int32} : ∀ {n : Nat}, (∀ i, i < n → p i = p' i) → (∀ i, i < n → c i = c' i) → orN p c n = orN p' c' n := by
  intro n
  induction n with
  | zero => intro _ _; rfl
  | succ n ih =>
    intro h1 h2
    unfold orN
    rw [ih (fun i hi => h1 i (by omega)) (fun i hi => h2 i (by omega)), h1 n (by omega), h2 n (by omega)]
theorem bt_orN {p : Nat → Bool} {c : Nat → Int32} {b : Nat} : ∀ {n : Nat}, bt (orN p c n) b = true ↔ ∃ i, i < n ∧ p i = true ∧ bt (c i) b = true := by
  intro n
  induction n with
  | zero =>
    constructor
    · intro h; rw [show orN p c 0 = 0 from rfl, bt_z] at h; cases h
    · rintro ⟨i, hi, _⟩; omega
  | succ n ih =>
    unfold orN
    by_cases h : p n = true
    · rw [if_pos h, bt_or, Bool.or_eq_true, ih]
      constructor
      · rintro (⟨i, hi, q⟩ | q)
        · exact ⟨i, by omega, q⟩
        · exact ⟨n, by omega, h, q⟩
      · rintro ⟨i, hi, q1, q2⟩
        by_cases hn : i = n
        · subst hn; exact Or.inr q2
        · exact Or.inl ⟨i, by omega, q1, q2⟩
    · rw [if_neg h, ih]
      constructor
      · rintro ⟨i, hi, q⟩; exact ⟨i, by omega, q⟩
      · rintro ⟨i, hi, q1, q2⟩
        by_cases hn : i = n
        · subst hn; exact absurd q1 h
        · exact ⟨i, by omega, q1, q2⟩
theorem orN_lt {p : Nat → Bool} {c : Nat → Int32} : ∀ {n : Nat}, (∀ i, i < n → 0 ≤ (c i).toInt ∧ (c i).toInt < 4096) → ∃ k, k < 4096 ∧ orN p c n = nI k := by
  intro n
  induction n with
  | zero => intro _; exact ⟨0, by decide, rfl⟩
  | succ n ih =>
    intro h
    obtain ⟨k, k1, k2⟩ := ih (fun i hi => h i (by omega))
    unfold orN
    by_cases hp : p n = true
    · obtain ⟨j, j1, j2⟩ := nI_ofi (a := c n) (n := 4096) (h n (by omega)).1 (h n (by omega)).2
      rw [if_pos hp, k2, j2, nI_or (by omega) (by omega)]
      exact ⟨k ||| j, Nat.or_lt_two_pow (n := 12) k1 j1, rfl⟩
    · rw [if_neg hp]; exact ⟨k, k1, k2⟩
/-! how many -/
def pcA (v : Nat) : Nat → Nat
  | 0 => 0
  | l + 1 => pcA v l + (if v.testBit l = true then 1 else 0)
def bcE (a0 : Int32) : Int32 :=
  (fun v1 => (fun v2 => (fun v3 => (fun v4 => (fun v5 => v5 &&& (63 : Int32)) (v4 + (ius v4 (16 : Int32)))) (v3 + (ius v3 (8 : Int32)))) ((v2 + (ius v2 (4 : Int32))) &&& (252645135 : Int32))) ((v1 &&& (858993459 : Int32)) + ((ius v1 (2 : Int32)) &&& (858993459 : Int32)))) (a0 - ((ius a0 (1 : Int32)) &&& (1431655765 : Int32)))
theorem x_bc (a : Int32) (σ : Sg) : f_J6_bitCount_0f7a4 a σ = some (bcE a, σ) := rfl
theorem bc_al2 : ∀ a, a < 64 → ∀ b, b < 64 → bcE (nI (64 * a + b)) = nI (pcA (64 * a + b) 12) := by decide +kernel
theorem bc_all (v : Nat) (hv : v < 4096) : bcE (nI v) = nI (pcA v 12) := by
  have := bc_al2 (v / 64) (by omega) (v % 64) (by omega)
  rwa [Nat.div_add_mod] at this
def btP : Nat → Int32 → Int32 → Option Int32
  | 0, _, _ => none
  | n + 1, a, b => if b = 0 then some a else btP n (a + 1) (b &&& (b - 1))
theorem m_bits4 (τ : Sg) : ∀ (n m : Nat) (a b r : Int32), btP n a b = some r → f_X10_bits_4 (n + m) a b τ = some (r, τ) := by
  intro n
  induction n with
  | zero => intro m a b r h; cases h
  | succ n ih =>
    intro m a b r h
    rw [show n + 1 + m = (n + m) + 1 by omega, f_X10_bits_4]
    unfold f_X10_bits_4_b
    unfold btP at h
    by_cases hb : b = 0
    · rw [if_pos hb] at h ⊢; cases h; rfl
    · rw [if_neg hb] at h ⊢; rw [lt_a, lt_a]; exact ih m _ _ r h
theorem bt_al2 : ∀ a, a < 64 → ∀ b, b < 64 → btP 13 0 (nI (64 * a + b)) = some (nI (pcA (64 * a + b) 12)) := by decide +kernel
theorem bt_all (v : Nat) (hv : v < 4096) : btP 13 0 (nI v) = some (nI (pcA v 12)) := by
  have := bt_al2 (v / 64) (by omega) (v % 64) (by omega)
  rwa [Nat.div_add_mod] at this
theorem m_bits {v : Nat} (hv : v < 4096) (τ : Sg) : f_X10_bits (nI v) τ = some (nI (pcA v 12), τ) := by
  have := m_bits4 τ 13 (fuN - 13) 0 (nI v) _ (bt_all v hv)
  rw [show 13 + (fuN - 13) = fuN by have := fu_le; omega] at this
  exact this
theorem x_bits {v : Nat} (hv : v < 4096) (σ : Sg) : f_J6_bitCount_0f7a4 (nI v) σ = some (nI (pcA v 12), σ) := by
  rw [x_bc, bc_all v hv]
theorem pcA_le (v : Nat) : ∀ n, pcA v n ≤ n := by
  intro n
  induction n with
  | zero => exact Nat.le_refl _
  | succ n ih => unfold pcA; split <;> omega
/-! columns beside one another -/
def winN (c n : Nat) : Nat := 2 ^ c * (2 ^ n - 1)
theorem win_eq : ∀ n, n < 13 → ∀ c, c < 13 → c + n < 13 → shl (shl (1 : Int32) (nI n) - 1) (nI c) = nI (winN c n) := by decide +kernel
theorem win_lt : ∀ n, n < 13 → ∀ c, c < 13 → c + n < 13 → winN c n < 4096 := by decide +kernel
theorem win_b : ∀ n, n < 13 → ∀ c, c < 13 → c + n < 13 → ∀ l, l < 12 → (winN c n).testBit l = decide (c ≤ l ∧ l < c + n) := by decide +kernel
theorem tb_lt {v l : Nat} (hv : v < 4096) (h : v.testBit l = true) : l < 12 := by
  by_cases hl : l < 12
  · exact hl
  · have q : v.testBit l = false := Nat.testBit_lt_two_pow (Nat.lt_of_lt_of_le (show v < 2 ^ 12 from hv) (Nat.pow_le_pow_right (by decide) (by omega)))
    rw [h] at q; cases q
