/-! runs of free columns, those below e -/
def stT (T : Nat) : Nat → Nat
  | 0 => 0
  | c + 1 => if T.testBit c = true then c + 1 else stT T c
def RN (T : Nat) : Nat → Nat → Nat
  | 0, _ => 0
  | c + 1, j => if T.testBit c = true then RN T c j else if j = stT T c then RN T c j + 1 else RN T c j
theorem st_le (T : Nat) : ∀ e, stT T e ≤ e := by
  intro e
  induction e with
  | zero => exact Nat.le_refl _
  | succ e ih => rw [stT]; split <;> omega
theorem rn_far (T : Nat) : ∀ e b, e ≤ b → RN T e b = 0 := by
  intro e
  induction e with
  | zero => intro b _; rfl
  | succ e ih =>
    intro b hb
    have := st_le T e
    rw [RN, ih b (by omega), if_neg (show ¬ b = stT T e by omega)]
    split <;> rfl
theorem st_fr (T : Nat) : ∀ e, (∀ l, stT T e ≤ l → l < e → T.testBit l = false) ∧ RN T e (stT T e) = e - stT T e ∧ stT T (stT T e) = stT T e := by
  intro e
  induction e with
  | zero => exact ⟨fun l _ hl => absurd hl (by omega), rfl, rfl⟩
  | succ e ih =>
    obtain ⟨i1, i2, i3⟩ := ih
    have hle := st_le T e
    by_cases h : T.testBit e = true
    · have es : stT T (e + 1) = e + 1 := by rw [stT, if_pos h]
      rw [es]
      refine ⟨fun l a b => absurd b (by omega), ?_, es⟩
      rw [RN, if_pos h, rn_far T e _ (by omega)]
      omega
    · have es : stT T (e + 1) = stT T e := by rw [stT, if_neg h]
      have h' : T.testBit e = false := by cases q : T.testBit e; rfl; exact absurd q h
      rw [es]
      refine ⟨fun l a b => ?_, ?_, i3⟩
      · by_cases q : l = e
        · subst q; exact h'
        · exact i1 l a (by omega)
      · rw [RN, if_neg h, if_pos rfl, i2]; omega
theorem rn_pos (T : Nat) : ∀ e b, 0 < RN T e b → b + RN T e b ≤ e ∧ (∀ l, b ≤ l → l < b + RN T e b → T.testBit l = false) ∧ stT T b = b := by
  intro e
  induction e with
  | zero => intro b h; exact absurd h (Nat.lt_irrefl 0)
  | succ e ih =>
    intro b h
    rw [RN] at h ⊢
    by_cases q : T.testBit e = true
    · rw [if_pos q] at h ⊢
      obtain ⟨i1, i2, i3⟩ := ih b h
      exact ⟨by omega, i2, i3⟩
    · rw [if_neg q] at h ⊢
      by_cases z : b = stT T e
      · rw [if_pos z] at h ⊢
        obtain ⟨f1, f2, f3⟩ := st_fr T e
        have hle := st_le T e
        subst z
        rw [f2]
        refine ⟨by omega, fun l a c => ?_, f3⟩
        by_cases y : l = e
        · subst y; cases q2 : T.testBit l; rfl; exact absurd q2 q
        · exact f1 l a (by omega)
      · rw [if_neg z] at h ⊢
        obtain ⟨i1, i2, i3⟩ := ih b h
        exact ⟨by omega, i2, i3⟩
theorem rn_mono (T : Nat) {b : Nat} : ∀ {e e'}, e ≤ e' → RN T e b ≤ RN T e' b := by
  intro e e' h
  induction e' with
  | zero => rw [show e = 0 by omega]; exact Nat.le_refl _
  | succ e' ih =>
    by_cases q : e = e' + 1
    · subst q; exact Nat.le_refl _
    · have := ih (by omega)
      rw [RN]
      repeat' split
      all_goals omega
theorem st_run (T : Nat) {b : Nat} (hb : stT T b = b) : ∀ j, (∀ l, b ≤ l → l < b + j → T.testBit l = false) → stT T (b + j) = b := by
  intro j
  induction j with
  | zero => intro _; exact hb
  | succ j ih =>
    intro h
    rw [show b + (j + 1) = (b + j) + 1 by omega, stT, if_neg (by rw [h (b + j) (by omega) (by omega)]; decide)]
    exact ih (fun l a c => h l a (by omega))
theorem st_ge (T : Nat) {b : Nat} (hb : stT T b = b) : ∀ k, b ≤ k → b ≤ stT T k := by
  intro k
  induction k with
  | zero => intro h; omega
  | succ k ih =>
    intro h
    by_cases q : b = k + 1
    · rw [← q, hb]; omega
    · have := ih (by omega)
      rw [stT]
      split <;> omega
theorem rn_keep (T : Nat) {b c : Nat} (hb : stT T b = b) (hc : c < b) : ∀ e, b ≤ e → RN T e c = RN T b c := by
  intro e
  induction e with
  | zero => intro h; omega
  | succ e ih =>
    intro h
    by_cases q : b = e + 1
    · rw [q]
    · have i1 := ih (by omega)
      have i2 := st_ge T hb e (by omega)
      rw [RN, i1, if_neg (show ¬ c = stT T e by omega)]
      split <;> rfl
/-- n free columns from c on: the run in which they lie grows by n -/
theorem st_add (T : Nat) {c : Nat} : ∀ n, Fr T c n → stT T (c + n) = stT T c ∧ RN T (c + n) (stT T c) = RN T c (stT T c) + n := by
  intro n
  induction n with
  | zero => intro _; exact ⟨rfl, rfl⟩
  | succ n ih =>
    intro h
    obtain ⟨i1, i2⟩ := ih (fun l a b => h l a (by omega))
    have hb : ¬ T.testBit (c + n) = true := by rw [h (c + n) (by omega) (by omega)]; decide
    refine ⟨?_, ?_⟩
    · rw [show c + (n + 1) = (c + n) + 1 by omega, stT, if_neg hb]; exact i1
    · rw [show c + (n + 1) = (c + n) + 1 by omega, RN, if_neg hb, if_pos i1.symm, i2]; omega
/-! what the table of ends says -/
def EE (T m : Nat) (ws : Nat → Nat) (ES : Nat → Nat) (s : Nat) : Prop := (∀ i, i < m → s.testBit i = true → ∃ e, FE T (ES (s ^^^ 2 ^ i)) (ws i) e ∧ ES s ≤ e) ∧ (ES s = 1000000 ∨ ∃ i, i < m ∧ s.testBit i = true ∧ FE T (ES (s ^^^ 2 ^ i)) (ws i) (ES s))
theorem xor_b {s i : Nat} (h : s.testBit i = true) : ∀ j, (s ^^^ 2 ^ i).testBit j = if j = i then false else s.testBit j := by
  intro j
  rw [Nat.testBit_xor, Nat.testBit_two_pow]
  by_cases q : j = i
  · subst q; rw [if_pos rfl, h]; simp
  · rw [if_neg q]; simp [Ne.symm q]
theorem xor_lt : ∀ s, s < 64 → ∀ i, i < 6 → s.testBit i = true → s ^^^ 2 ^ i < s := by decide +kernel
def gSet (g : Nat → Nat) (j v : Nat) : Nat → Nat := fun i => if i = j then v else g i
theorem ld_set {ws g : Nat → Nat} {j v m : Nat} (hj : j < m) (c : Nat) : sF (ldF ws (gSet g j v) c) m + (if g j = c then ws j else 0) = sF (ldF ws g c) m + (if v = c then ws j else 0) := by
  have := sF_upd (h := ldF ws g c) (h' := ldF ws (gSet g j v) c) (j := j) (fun i hi => by unfold ldF gSet; rw [if_neg hi]) m hj
  have e1 : ldF ws (gSet g j v) c j = if v = c then ws j else 0 := by unfold ldF gSet; rw [if_pos rfl]
  have e2 : ldF ws g c j = if g j = c then ws j else 0 := rfl
  rw [e1, e2] at this
  exact this
def GB (m s : Nat) (g : Nat → Nat) : Prop := ∀ i, i < m → (s.testBit i = true ↔ g i < 12)
theorem gb_off {m s i : Nat} {g : Nat → Nat} (h : GB m s g) (hs : s.testBit i = true) : GB m (s ^^^ 2 ^ i) (gSet g i 12) := by
  intro j hj
  rw [xor_b hs j]
  unfold gSet
  by_cases q : j = i
  · rw [if_pos q, if_pos q]; constructor
    · intro e; cases e
    · intro e; omega
  · rw [if_neg q, if_neg q]; exact h j hj
theorem gb_on2 {m s i v : Nat} {g : Nat → Nat} (h : GB m (s ^^^ 2 ^ i) g) (hs : s.testBit i = true) (hv : v < 12) : GB m s (gSet g i v) := by
  intro j hj
  have := h j hj
  rw [xor_b hs j] at this
  unfold gSet
  by_cases q : j = i
  · subst q; rw [if_pos rfl]; exact ⟨fun _ => hv, fun _ => hs⟩
  · rw [if_neg q] at this ⊢; exact this
theorem zero_or {m s : Nat} (hs : s < 2 ^ m) : s = 0 ∨ ∃ i, i < m ∧ s.testBit i = true := by
  by_cases h : s = 0
  · exact Or.inl h
  · obtain ⟨i, hi⟩ := Nat.exists_testBit_of_ne_zero h
    refine Or.inr ⟨i, ?_, hi⟩
    refine Classical.byContradiction fun q => ?_
    have : s.testBit i = false := Nat.testBit_lt_two_pow (Nat.lt_of_lt_of_le hs (Nat.pow_le_pow_right (by decide) (by omega)))
    rw [this] at hi; cases hi
theorem claim1 {T m : Nat} (hm : m ≤ 6) {ws : Nat → Nat} (hw : ∀ i, i < m → 1 ≤ ws i ∧ ws i ≤ 12) {ES : Nat → Nat} (h0 : ES 0 = 0) (hE : ∀ s, 0 < s → s < 2 ^ m → EE T m ws ES s) : ∀ s, s < 2 ^ m → ∀ e, e ≤ 12 → ES s ≤ e → ∃ g, GB m s g ∧ ∀ c, c < 12 → sF (ldF ws g c) m ≤ RN T e c := by
  have p64 : 2 ^ m ≤ 64 := Nat.pow_le_pow_right (by decide) hm
  intro s
  induction s using Nat.strongRecOn with
  | _ s ih =>
    intro hs e he hES
    rcases zero_or hs with z | ⟨i0, _, _⟩
    · subst z
      have gb0 : GB m 0 (fun _ => 12) := by
        intro i _
        rw [Nat.zero_testBit]
        constructor
        · intro q; cases q
        · intro q; exact absurd q (by show ¬ 12 < 12; omega)
      refine ⟨fun _ => 12, gb0, fun c hc => ?_⟩
      have : ∀ k, sF (ldF ws (fun _ => 12) c) k = 0 := by
        intro k
        induction k with
        | zero => rfl
        | succ k ih => rw [sF, ih, Nat.zero_add]; unfold ldF; exact if_neg (show ¬ 12 = c by omega)
      rw [this]; exact Nat.zero_le _
    · have s0 : 0 < s := by
        rcases Nat.eq_zero_or_pos s with q | q
        · subst q; rename_i q2; rw [Nat.zero_testBit] at q2; cases q2
        · exact q
      obtain ⟨_, q⟩ := hE s s0 hs
      rcases q with q | ⟨i, i1, i2, i3⟩
      · omega
      · rcases i3 with ⟨a, _⟩ | ⟨c, c1, c2, c3, c4, c5⟩
        · omega
        · have lt := xor_lt s (by omega) i (by omega) i2
          obtain ⟨g, g1, g2⟩ := ih (s ^^^ 2 ^ i) lt (by omega) (ES (s ^^^ 2 ^ i)) (by omega) (Nat.le_refl _)
          have w := hw i i1
          have sl := st_le T c
          obtain ⟨a1, a2⟩ := st_add T (ws i) c4
          refine ⟨gSet g i (stT T c), gb_on2 g1 i2 (by omega), fun b hb => ?_⟩
          have l1 := ld_set (ws := ws) (g := g) (v := stT T c) i1 b
          have gi : ¬ g i < 12 := fun q => by
            have := (g1 i i1).mpr q
            rw [xor_b i2 i, if_pos rfl] at this; cases this
          rw [if_neg (show ¬ g i = b by omega)] at l1
          have l2 := g2 b hb
          have r1 := rn_mono T (b := b) c2
          have r2 := rn_mono T (b := b) (show c ≤ c + ws i by omega)
          have r3 := rn_mono T (b := b) (show c + ws i ≤ e by omega)
          by_cases y : stT T c = b
          · rw [if_pos y] at l1
            rw [y] at a2
            omega
          · rw [if_neg y] at l1
            omega
theorem max_in {m s : Nat} {g : Nat → Nat} (hg : GB m s g) : ∀ k, k ≤ m → (∃ i, i < k ∧ s.testBit i = true) → ∃ i, i < k ∧ s.testBit i = true ∧ ∀ j, j < k → s.testBit j = true → g j ≤ g i := by
  intro k
  induction k with
  | zero => rintro _ ⟨i, hi, _⟩; omega
  | succ k ih =>
    rintro hk ⟨i, hi, hb⟩
    by_cases q : ∃ i, i < k ∧ s.testBit i = true
    · obtain ⟨j, j1, j2, j3⟩ := ih (by omega) q
      by_cases y : s.testBit k = true ∧ g j < g k
      · refine ⟨k, by omega, y.1, fun x hx hxb => ?_⟩
        by_cases e : x = k
        · subst e; exact Nat.le_refl _
        · have := j3 x (by omega) hxb; omega
      · refine ⟨j, by omega, j2, fun x hx hxb => ?_⟩
        by_cases e : x = k
        · subst e
          refine Classical.byContradiction fun z => y ⟨hxb, by omega⟩
        · exact j3 x (by omega) hxb
    · have e : i = k := Classical.byContradiction fun z => q ⟨i, by omega, hb⟩
      subst e
      refine ⟨i, by omega, hb, fun x hx hxb => ?_⟩
      by_cases e : x = i
      · subst e; exact Nat.le_refl _
      · exact absurd ⟨x, by omega, hxb⟩ q
theorem claim2 {T m : Nat} (hm : m ≤ 6) {ws : Nat → Nat} (hw : ∀ i, i < m → 1 ≤ ws i ∧ ws i ≤ 12) {ES : Nat → Nat} (h0 : ES 0 = 0) (hE : ∀ s, 0 < s → s < 2 ^ m → EE T m ws ES s) : ∀ s, s < 2 ^ m → ∀ e, e ≤ 12 → ∀ g, GB m s g → (∀ c, c < 12 → sF (ldF ws g c) m ≤ RN T e c) → ES s ≤ e := by
  have p64 : 2 ^ m ≤ 64 := Nat.pow_le_pow_right (by decide) hm
  intro s
  induction s using Nat.strongRecOn with
  | _ s ih =>
    intro hs e he g hg hl
    rcases zero_or hs with z | hx
    · subst z; omega
    · obtain ⟨i, i1, i2, i3⟩ := max_in hg m (Nat.le_refl m) hx
      have s0 : 0 < s := by
        rcases Nat.eq_zero_or_pos s with q | q
        · subst q; rw [Nat.zero_testBit] at i2; cases i2
        · exact q
      have gb := (hg i i1).mp i2
      have w := hw i i1
      have lt := xor_lt s (by omega) i (by omega) i2
      have ge : ws i ≤ sF (ldF ws g (g i)) m := by
        have := sF_le (h := ldF ws g (g i)) m i1
        unfold ldF at this ⊢
        rw [if_pos rfl] at this
        exact this
      have hb := hl (g i) gb
      obtain ⟨p1, p2, p3⟩ := rn_pos T e (g i) (by omega)
      have run : RN T (g i + RN T e (g i) - ws i) (g i) = RN T e (g i) - ws i := by
        have e1 := st_run T p3 (RN T e (g i) - ws i) (fun l a b => p2 l a (by omega))
        have e2 := (st_fr T (g i + (RN T e (g i) - ws i))).2.1
        rw [e1] at e2
        rw [show g i + RN T e (g i) - ws i = g i + (RN T e (g i) - ws i) by omega, e2]
        omega
      have ihh := ih (s ^^^ 2 ^ i) lt (by omega) (g i + RN T e (g i) - ws i) (by omega) (gSet g i 12) (gb_off hg i2) (fun c hc => by
        have l1 := ld_set (ws := ws) (g := g) (v := 12) i1 c
        rw [if_neg (show ¬ 12 = c by omega)] at l1
        by_cases y : g i = c
        · subst y
          rw [if_pos rfl] at l1
          rw [run]; omega
        · rw [if_neg y] at l1
          by_cases y2 : c < g i
          · have k1 := rn_keep T p3 y2 e (by omega)
            have k2 := rn_mono T (b := c) (show g i ≤ g i + RN T e (g i) - ws i by omega)
            have := hl c hc
            omega
          · have zz : ∀ k, k ≤ m → sF (ldF ws g c) k = 0 := by
              intro k
              induction k with
              | zero => intro _; rfl
              | succ k ihk =>
                intro hk
                rw [sF, ihk (by omega)]
                unfold ldF
                by_cases gk : g k = c
                · have := i3 k (by omega) ((hg k (by omega)).mpr (by omega)); omega
                · rw [if_neg gk]
            have := zz m (Nat.le_refl m)
            omega)
      obtain ⟨x, x1, x2⟩ := (hE s s0 hs).1 i i1 i2
      rcases x1 with ⟨_, x1⟩ | ⟨c, c1, c2, c3, c4, c5⟩
      · exact absurd (fun l a b => p2 l (by omega) (by omega)) (x1 (g i + RN T e (g i) - ws i) ihh (by omega))
      · by_cases y : g i + RN T e (g i) - ws i < c
        · exact absurd (fun l a b => p2 l (by omega) (by omega)) (c5 (g i + RN T e (g i) - ws i) ihh y)
        · omega
