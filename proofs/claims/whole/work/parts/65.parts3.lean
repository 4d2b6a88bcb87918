theorem fe_b {T f n e : Nat} (h : FE T f n e) : e ≤ 1000000 := by
  rcases h with ⟨a, _⟩ | ⟨c, a, b, d, _⟩ <;> omega
theorem mn_nI {a b : Nat} (ha : a < 2147483648) (hb : b < 2147483648) : mn (nI a) (nI b) = nI (if b < a then b else a) := by
  unfold mn
  by_cases h : b < a
  · rw [if_pos h, if_pos (nI_lt h ha)]
  · rw [if_neg h, if_neg (nI_nlt (by omega) hb)]
theorem nI_xor {a b : Nat} (ha : a < 2147483648) (hb : b < 2147483648) : nI a ^^^ nI b = nI (a ^^^ b) := by
  have hab : a ^^^ b < 2147483648 := Nat.xor_lt_two_pow (n := 31) ha hb
  refine bt_ext fun l _ => ?_
  have : bt (nI a ^^^ nI b) l = ((bt (nI a) l) ^^ (bt (nI b) l)) := BitVec.getLsbD_xor
  rw [this, bt_nI ha, bt_nI hb, bt_nI hab, Nat.testBit_xor]
def Rws (u m : Nat) (ws : Nat → Nat) (σ : Sg) : Prop := σ (10 + u + 48) 1 = nI m ∧ ∀ k, k < m → σ (10 + u + 48 + 18) k = nI (ws k)
theorem least_loop {T m s u : Nat} (hu : u < 4) (hT : T < 4096) (hm : m ≤ 6) (hs : s < 2 ^ m) {ws : Nat → Nat} (hw : ∀ i, i < m → 1 ≤ ws i ∧ ws i ≤ 12) {ES : Nat → Nat} {σ : Sg} (h : Rws u m ws σ) (tab : ∀ s', s' < s → σ 9 s' = nI (ES s') ∧ ES s' ≤ 1000000) : ∀ (d i q v : Nat), i + d = m → d < q → v ≤ 1000000 → (∀ j, j < i → s.testBit j = true → ∃ e, FE T (ES (s ^^^ 2 ^ j)) (ws j) e ∧ v ≤ e) → (v = 1000000 ∨ ∃ j, j < i ∧ s.testBit j = true ∧ FE T (ES (s ^^^ 2 ^ j)) (ws j) v) → ∃ v', f_X3_leastEnd_7 q (10 + u + 48) (nI T) (nI s) (nI v) (nI i) σ = some (nI v', σ) ∧ v' ≤ 1000000 ∧ (∀ j, j < m → s.testBit j = true → ∃ e, FE T (ES (s ^^^ 2 ^ j)) (ws j) e ∧ v' ≤ e) ∧ (v' = 1000000 ∨ ∃ j, j < m ∧ s.testBit j = true ∧ FE T (ES (s ^^^ 2 ^ j)) (ws j) v') := by
  have p64 : 2 ^ m ≤ 64 := Nat.pow_le_pow_right (by decide) hm
  obtain ⟨h1, h2⟩ := h
  intro d
  induction d with
  | zero =>
    intro i q v hi hq hv a1 a2
    obtain ⟨q, rfl⟩ : ∃ j, q = j + 1 := ⟨q - 1, by omega⟩
    obtain rfl : i = m := by omega
    refine ⟨v, ?_, hv, a1, a2⟩
    rw [f_X3_leastEnd_7]
    unfold f_X3_leastEnd_7_b
    rw [h1, if_pos (nI_le (Nat.le_refl _) (by omega))]
    by_cases z : (6 : Int32) ≤ nI i
    · rw [if_pos z]
    · rw [if_neg z]
  | succ d ih =>
    intro i q v hi hq hv a1 a2
    obtain ⟨q, rfl⟩ : ∃ j, q = j + 1 := ⟨q - 1, by omega⟩
    have ei : (nI i).toInt = (i : Int) := i_nI (by omega)
    have hc : capC (10 + u + 48 + 18) = 24 := cap_sh hu
    rw [f_X3_leastEnd_7]
    unfold f_X3_leastEnd_7_b
    rw [h1, if_neg (by rw [i_le, ei, ti_6]; omega), if_neg (nI_ge (show i < m by omega) (by omega)), x_isOf (by omega), bnd_s, if01, bt_nI (by omega), shl1 i (by omega), nI_xor (by omega) (by have : 2 ^ i < 2 ^ 6 := Nat.pow_lt_pow_right (by decide) (by omega); omega)]
    by_cases hb : s.testBit i = true
    · have lt := xor_lt s (by omega) i (by omega) hb
      have ex : (nI (s ^^^ 2 ^ i)).toInt = ((s ^^^ 2 ^ i : Nat) : Int) := i_nI (by omega)
      obtain ⟨t1, t2⟩ := tab _ lt
      have w := hw i (by omega)
      obtain ⟨e, e1, e2⟩ := x_freeEnd hT w.2 σ t2
      have eb := fe_b e2
      rw [if_pos hb, ck_k ex (by omega), rd_k ex, t1, lt_a, hc, ck_k ei (by omega), rd_k ei, h2 i (by omega), e1, bnd_s, mn_nI (by omega) (by omega), lt_a, lt_a, nI_1]
      refine ih (i + 1) q _ (by omega) (by omega) (by split <;> omega) (fun j hj hjb => ?_) ?_
      · by_cases z : j = i
        · subst z; exact ⟨e, e2, by split <;> omega⟩
        · obtain ⟨e', f1, f2⟩ := a1 j (by omega) hjb
          exact ⟨e', f1, by split <;> omega⟩
      · by_cases z : e < v
        · rw [if_pos z]; exact Or.inr ⟨i, by omega, hb, e2⟩
        · rw [if_neg z]
          rcases a2 with y | ⟨j, j1, j2, j3⟩
          · exact Or.inl y
          · exact Or.inr ⟨j, by omega, j2, j3⟩
    · rw [if_neg hb, lt_a, nI_1]
      refine ih (i + 1) q v (by omega) (by omega) hv (fun j hj hjb => ?_) ?_
      · by_cases z : j = i
        · subst z; exact absurd hjb hb
        · exact a1 j (by omega) hjb
      · rcases a2 with y | ⟨j, j1, j2, j3⟩
        · exact Or.inl y
        · exact Or.inr ⟨j, by omega, j2, j3⟩
def MoI (T m : Nat) (ws : Nat → Nat) (s M : Nat) (ES : Nat → Nat) : Prop := ES 0 = 0 ∧ (∀ s', 0 < s' → s' < s → EE T m ws ES s') ∧ (∀ s', 0 < s' → s' < s → ES s' ≤ 12 → pcA s' 12 ≤ M) ∧ (M = 0 ∨ ∃ s', 0 < s' ∧ s' < s ∧ ES s' ≤ 12 ∧ pcA s' 12 = M)
theorem EE_congr {T m s : Nat} (hm : m ≤ 6) (hs : s < 64) {ws ES ES' : Nat → Nat} (h : EE T m ws ES s) (e : ∀ x, x ≤ s → ES' x = ES x) : EE T m ws ES' s := by
  obtain ⟨h1, h2⟩ := h
  refine ⟨fun i hi hb => ?_, ?_⟩
  · have lt := xor_lt s hs i (by omega) hb
    rw [e _ (by omega), e _ (Nat.le_refl _)]; exact h1 i hi hb
  · rw [e _ (Nat.le_refl _)]
    rcases h2 with q | ⟨i, i1, i2, i3⟩
    · exact Or.inl q
    · have lt := xor_lt s hs i (by omega) i2
      exact Or.inr ⟨i, i1, i2, by rw [e _ (by omega)]; exact i3⟩
theorem most_loop {T m u : Nat} (hu : u < 4) (hT : T < 4096) (hm : m ≤ 6) {ws : Nat → Nat} (hw : ∀ i, i < m → 1 ≤ ws i ∧ ws i ≤ 12) : ∀ (d s q M : Nat) (σ : Sg) (ES : Nat → Nat), s + d = 2 ^ m → d < q → 0 < s → M ≤ 12 → Rws u m ws σ → (∀ s', s' < s → σ 9 s' = nI (ES s') ∧ ES s' ≤ 1000000) → MoI T m ws s M ES → ∃ M' σ' ES', f_X3_most_25 q (10 + u + 48) (nI T) (nI (2 ^ m)) (nI M) (nI s) σ = some (nI M', σ') ∧ (∀ k, k ≠ 9 → σ' k = σ k) ∧ MoI T m ws (2 ^ m) M' ES' := by
  have p64 : 2 ^ m ≤ 64 := Nat.pow_le_pow_right (by decide) hm
  intro d
  induction d with
  | zero =>
    intro s q M σ ES hs hq s0 hM h tab inv
    obtain ⟨q, rfl⟩ : ∃ j, q = j + 1 := ⟨q - 1, by omega⟩
    obtain rfl : s = 2 ^ m := by omega
    refine ⟨M, σ, ES, ?_, fun _ _ => rfl, inv⟩
    rw [f_X3_most_25]
    unfold f_X3_most_25_b
    rw [if_pos (nI_le (Nat.le_refl _) (by omega))]
  | succ d ih =>
    intro s q M σ ES hs hq s0 hM h tab inv
    obtain ⟨q, rfl⟩ : ∃ j, q = j + 1 := ⟨q - 1, by omega⟩
    have es : (nI s).toInt = (s : Int) := i_nI (by omega)
    obtain ⟨v, v1, v2, v3, v4⟩ := least_loop hu hT hm (show s < 2 ^ m by omega) hw h tab m 0 fuN 1000000 (by omega) (by have := fu_le; omega) (by omega) (fun j hj => absurd hj (by omega)) (Or.inl rfl)
    have v1' : f_X3_leastEnd (10 + u + 48) (nI T) (nI s) σ = some (nI v, σ) := by
      rw [nI_0] at v1
      exact v1
    obtain ⟨i1, i2, i3, i4⟩ := inv
    have ev : (nI v).toInt = (v : Int) := i_nI (by omega)
    have h' : Rws u m ws (up σ 9 s (nI v)) := ⟨by rw [up_k (by omega)]; exact h.1, fun k hk => by rw [up_k (by omega)]; exact h.2 k hk⟩
    have eq : ∀ x, x ≤ s → x ≠ s → (fun x => if x = s then v else ES x) x = ES x := fun x _ hx => if_neg hx
    have tab' : ∀ s', s' < s + 1 → up σ 9 s (nI v) 9 s' = nI ((fun x => if x = s then v else ES x) s') ∧ (fun x => if x = s then v else ES x) s' ≤ 1000000 := by
      intro s' hs'
      by_cases z : s' = s
      · subst z; rw [up_s]; simp only [if_true]; exact ⟨trivial, v2⟩
      · rw [up_i z, eq s' (by omega) z]; exact tab s' (by omega)
    have EEn : ∀ s', 0 < s' → s' < s + 1 → EE T m ws (fun x => if x = s then v else ES x) s' := by
      intro s' p1 p2
      by_cases z : s' = s
      · subst z
        refine ⟨fun i hi hb => ?_, ?_⟩
        · have lt := xor_lt s' (by omega) i (by omega) hb
          obtain ⟨e, e1, e2⟩ := v3 i hi hb
          refine ⟨e, ?_, ?_⟩
          · rw [eq _ (by omega) (by omega)]; exact e1
          · show (if s' = s' then v else ES s') ≤ e
            rw [if_pos rfl]; exact e2
        · show (if s' = s' then v else ES s') = 1000000 ∨ _
          rw [if_pos rfl]
          rcases v4 with y | ⟨i, y1, y2, y3⟩
          · exact Or.inl y
          · have lt := xor_lt s' (by omega) i (by omega) y2
            refine Or.inr ⟨i, y1, y2, ?_⟩
            rw [eq _ (by omega) (by omega)]
            show FE T _ (ws i) (if s' = s' then v else ES s')
            rw [if_pos rfl]; exact y3
      · exact EE_congr hm (by omega) (i2 s' p1 (by omega)) (fun x hx => eq x (by omega) (by omega))
    have n0 : (fun x => if x = s then v else ES x) 0 = 0 := by rw [eq 0 (by omega) (by omega)]; exact i1
    have pl := pcA_le s 12
    rw [f_X3_most_25]
    unfold f_X3_most_25_b
    rw [if_neg (nI_ge (show s < 2 ^ m by omega) (by omega)), v1', bnd_s, ck_k es (by omega), tn_k es, lt_a, ck_k es (by omega), rd_k es, up_s]
    by_cases z : v ≤ 12
    · rw [if_neg (by rw [i_lt, ev, ti_12]; omega), x_bits (by omega), bnd_s]
      have emx : mx (nI M) (nI (pcA s 12)) = nI (if M < pcA s 12 then pcA s 12 else M) := by
        unfold mx
        by_cases y : M < pcA s 12
        · rw [if_pos y, if_pos (nI_lt y (by omega))]
        · rw [if_neg y, if_neg (nI_nlt (by omega) (by omega))]
      rw [emx, lt_a, lt_a, nI_1]
      obtain ⟨M', σ', ES', w1, w2, w3⟩ := ih (s + 1) q (if M < pcA s 12 then pcA s 12 else M) (up σ 9 s (nI v)) (fun x => if x = s then v else ES x) (by omega) (by omega) (by omega) (by split <;> omega) h' tab' ⟨n0, EEn, fun s' p1 p2 p3 => by
        by_cases y : s' = s
        · subst y; split <;> omega
        · rw [eq s' (by omega) y] at p3
          have := i3 s' p1 (by omega) p3
          split <;> omega, by
        by_cases y : M < pcA s 12
        · rw [if_pos y]
          exact Or.inr ⟨s, s0, by omega, by show (if s = s then v else ES s) ≤ 12; rw [if_pos rfl]; exact z, rfl⟩
        · rw [if_neg y]
          rcases i4 with x | ⟨s', x1, x2, x3, x4⟩
          · exact Or.inl x
          · exact Or.inr ⟨s', x1, by omega, by rw [eq s' (by omega) (by omega)]; exact x3, x4⟩⟩
      exact ⟨M', σ', ES', w1, fun k hk => by rw [w2 k hk, up_row hk], w3⟩
    · rw [if_pos (by rw [i_lt, ev, ti_12]; omega), lt_a, nI_1]
      obtain ⟨M', σ', ES', w1, w2, w3⟩ := ih (s + 1) q M (up σ 9 s (nI v)) (fun x => if x = s then v else ES x) (by omega) (by omega) (by omega) hM h' tab' ⟨n0, EEn, fun s' p1 p2 p3 => by
        by_cases y : s' = s
        · subst y
          have p3' : (if s' = s' then v else ES s') ≤ 12 := p3
          rw [if_pos rfl] at p3'; omega
        · rw [eq s' (by omega) y] at p3
          exact i3 s' p1 (by omega) p3, by
        rcases i4 with x | ⟨s', x1, x2, x3, x4⟩
        · exact Or.inl x
        · exact Or.inr ⟨s', x1, by omega, by rw [eq s' (by omega) (by omega)]; exact x3, x4⟩⟩
      exact ⟨M', σ', ES', w1, fun k hk => by rw [w2 k hk, up_row hk], w3⟩
/-! how many: the same -/
theorem mk_s (g : Nat → Nat) : ∀ k, ∃ s, s < 2 ^ k ∧ ∀ i, i < k → (s.testBit i = true ↔ g i < 12) := by
  intro k
  induction k with
  | zero => exact ⟨0, by decide, fun i hi => absurd hi (by omega)⟩
  | succ k ih =>
    obtain ⟨s, s1, s2⟩ := ih
    have p : 2 ^ (k + 1) = 2 * 2 ^ k := by rw [Nat.pow_succ]; omega
    by_cases h : g k < 12
    · refine ⟨s ||| 2 ^ k, Nat.or_lt_two_pow (by omega) (by omega), fun i hi => ?_⟩
      rw [Nat.testBit_or, Nat.testBit_two_pow]
      by_cases e : i = k
      · subst e; simp [h]
      · have := s2 i (by omega)
        simp [Ne.symm e, this]
    · refine ⟨s, by omega, fun i hi => ?_⟩
      by_cases e : i = k
      · subst e
        have : s.testBit i = false := Nat.testBit_lt_two_pow s1
        rw [this]; constructor
        · intro q; cases q
        · intro q; exact absurd q h
      · exact s2 i (by omega)
theorem pc_cn {m s : Nat} (hm : m ≤ 6) (hs : s < 2 ^ m) {g : Nat → Nat} (h : GB m s g) : pcA s 12 = sF (cnF g) m := by
  have low : ∀ k, k ≤ m → pcA s k = sF (cnF g) k := by
    intro k
    induction k with
    | zero => intro _; rfl
    | succ k ih =>
      intro hk
      rw [pcA, sF, ih (by omega)]
      unfold cnF
      have := h k (by omega)
      by_cases q : g k < 12
      · rw [if_pos q, if_pos (this.mpr q)]
      · rw [if_neg q, if_neg (fun e => q (this.mp e))]
  have high : ∀ j, pcA s (m + j) = pcA s m := by
    intro j
    induction j with
    | zero => rfl
    | succ j ih =>
      have : s.testBit (m + j) = false := Nat.testBit_lt_two_pow (Nat.lt_of_lt_of_le hs (Nat.pow_le_pow_right (by decide) (by omega)))
      rw [show m + (j + 1) = (m + j) + 1 by omega, pcA, ih, this, if_neg (by decide)]
      omega
  have := high (12 - m)
  rw [show m + (12 - m) = 12 by omega] at this
  rw [this, low m (Nat.le_refl m)]
theorem most_is {T m M : Nat} (hm : m ≤ 6) {ws ES : Nat → Nat} (hw : ∀ i, i < m → 1 ≤ ws i ∧ ws i ≤ 12) (h : MoI T m ws (2 ^ m) M ES) : M = PB m ws m (RN T 12) := by
  obtain ⟨h1, h2, h3, h4⟩ := h
  have le : M ≤ PB m ws m (RN T 12) := by
    rcases h4 with q | ⟨s, s1, s2, s3, s4⟩
    · omega
    · obtain ⟨g, g1, g2⟩ := claim1 hm hw h1 h2 s s2 12 (Nat.le_refl _) s3
      have := PB_ge (m := m) (ws := ws) g m (RN T 12) (Nat.le_refl m) (fun c hc => by rw [sR_all]; exact g2 c hc)
      rw [sR_all, ← pc_cn hm s2 g1, s4] at this
      exact this
  have ge : PB m ws m (RN T 12) ≤ M := by
    obtain ⟨g, g1, g2⟩ := PB_is (m := m) (ws := ws) m (RN T 12) (Nat.le_refl m)
    obtain ⟨s, s1, s2⟩ := mk_s g m
    rw [sR_all, ← pc_cn hm s1 s2] at g2
    rcases Nat.eq_zero_or_pos s with z | z
    · subst z
      have : pcA 0 12 = 0 := by decide
      omega
    · have := claim2 hm hw h1 h2 s s1 12 (Nat.le_refl _) g s2 (fun c hc => by rw [← sR_all]; exact g1 c hc)
      have := h3 s z s1 this
      omega
  omega
