def Fr (T c n : Nat) : Prop := ∀ l, c ≤ l → l < c + n → T.testBit l = false
theorem fr_win {T c n : Nat} (hT : T < 4096) (hc : c + n ≤ 12) : nI T &&& nI (winN c n) = 0 ↔ Fr T c n := by
  have wl := win_lt n (by omega) c (by omega) (by omega)
  rw [and_0]
  constructor
  · intro h l h1 h2
    have wb := win_b n (by omega) c (by omega) (by omega) l (by omega)
    cases q : T.testBit l
    · rfl
    · exact absurd ⟨by rw [bt_nI (by omega)]; exact q, by rw [bt_nI (by omega), wb, decide_eq_true_eq]; exact ⟨h1, h2⟩⟩ (h l (by omega))
  · rintro h l hl ⟨q1, q2⟩
    rw [bt_nI (by omega)] at q1 q2
    have l12 := tb_lt wl q2
    have wb := win_b n (by omega) c (by omega) (by omega) l l12
    rw [wb, decide_eq_true_eq] at q2
    rw [h l q2.1 q2.2] at q1
    cases q1
def FE (T f n e : Nat) : Prop := (e = 1000000 ∧ ∀ c, f ≤ c → c + n ≤ 12 → ¬ Fr T c n) ∨ (∃ c, e = c + n ∧ f ≤ c ∧ c + n ≤ 12 ∧ Fr T c n ∧ ∀ c', f ≤ c' → c' < c → ¬ Fr T c' n)
theorem fe_loop {T n : Nat} (hT : T < 4096) (hn : n ≤ 12) (σ : Sg) {f : Nat} : ∀ (d c m : Nat), (c + n + d = 13 ∨ (13 ≤ c + n ∧ d = 0)) → d < m → c ≤ 1000000 → f ≤ c → (∀ c', f ≤ c' → c' < c → c' + n ≤ 12 → ¬ Fr T c' n) → ∃ e, f_X9_freeEnd_2 m (nI T) (nI n) (nI c) σ = some (nI e, σ) ∧ FE T f n e := by
  have key : ∀ (c m : Nat), 13 ≤ c + n → c ≤ 1000000 → (∀ c', f ≤ c' → c' < c → c' + n ≤ 12 → ¬ Fr T c' n) → ∃ e, f_X9_freeEnd_2 (m + 1) (nI T) (nI n) (nI c) σ = some (nI e, σ) ∧ FE T f n e := by
    intro c m h1 h2 h3
    refine ⟨1000000, ?_, Or.inl ⟨rfl, fun c' a b => h3 c' a (by omega) b⟩⟩
    rw [f_X9_freeEnd_2]
    unfold f_X9_freeEnd_2_b
    rw [if_pos (by rw [nI_add, i_lt, i_nI (by omega), ti_12]; omega)]
    rfl
  intro d
  induction d with
  | zero =>
    intro c m hc hm h2 hf h3
    obtain ⟨m, rfl⟩ : ∃ j, m = j + 1 := ⟨m - 1, by omega⟩
    exact key c m (by omega) h2 h3
  | succ d ih =>
    intro c m hc hm h2 hf h3
    obtain ⟨m, rfl⟩ : ∃ j, m = j + 1 := ⟨m - 1, by omega⟩
    rw [f_X9_freeEnd_2]
    unfold f_X9_freeEnd_2_b f_X9_columnsFrom
    rw [if_neg (by rw [nI_add, i_lt, i_nI (by omega), ti_12]; omega), win_eq n (by omega) c (by omega) (by omega), bnd_s]
    by_cases q : Fr T c n
    · rw [if_pos ((fr_win hT (by omega)).mpr q), nI_add]
      exact ⟨c + n, rfl, Or.inr ⟨c, rfl, hf, by omega, q, fun c' a b => h3 c' a b (by omega)⟩⟩
    · rw [if_neg (fun e => q ((fr_win hT (by omega)).mp e)), lt_a, nI_1]
      refine ih (c + 1) m (by omega) (by omega) (by omega) (by omega) (fun c' a b z => ?_)
      by_cases e : c' = c
      · subst e; exact q
      · exact h3 c' a (by omega) z
theorem x_freeEnd {T n : Nat} (hT : T < 4096) (hn : n ≤ 12) (σ : Sg) {f : Nat} (hf : f ≤ 1000000) : ∃ e, f_X9_freeEnd (nI T) (nI f) (nI n) σ = some (nI e, σ) ∧ FE T f n e := by
  by_cases h : f + n ≤ 13
  · exact fe_loop hT hn σ (13 - (f + n)) f fuN (by omega) (by have := fu_le; omega) hf (Nat.le_refl _) (fun c' a b => absurd b (by omega))
  · exact fe_loop hT hn σ 0 f fuN (by omega) (by have := fu_le; omega) hf (Nat.le_refl _) (fun c' a b => absurd b (by omega))
/-! the longest run -/
def LR (T L : Nat) : Prop := L ≤ 12 ∧ (∀ n c, L < n → c + n ≤ 12 → ¬ Fr T c n) ∧ (0 < L → ∃ c, c + L ≤ 12 ∧ Fr T c L)
theorem lf_loop {T : Nat} (hT : T < 4096) (σ : Sg) : ∀ (n m : Nat), n ≤ 12 → n < m → (∀ k c, n < k → c + k ≤ 12 → ¬ Fr T c k) → ∃ L, f_X9_longestFree_3 m (nI T) (nI n) σ = some (nI L, σ) ∧ LR T L := by
  intro n
  induction n with
  | zero =>
    intro m hn hm h
    obtain ⟨m, rfl⟩ : ∃ j, m = j + 1 := ⟨m - 1, by omega⟩
    refine ⟨0, ?_, by omega, h, fun q => absurd q (by omega)⟩
    rw [f_X9_longestFree_3]
    unfold f_X9_longestFree_3_b
    rw [if_pos (by decide)]
    rfl
  | succ n ih =>
    intro m hn hm h
    obtain ⟨m, rfl⟩ : ∃ j, m = j + 1 := ⟨m - 1, by omega⟩
    obtain ⟨e, e1, e2⟩ := x_freeEnd hT hn σ (f := 0) (by omega)
    rw [nI_0] at e1
    rw [f_X9_longestFree_3]
    unfold f_X9_longestFree_3_b
    rw [if_neg (by rw [i_le, i_nI (by omega), ti_0]; omega), e1, bnd_s]
    rcases e2 with ⟨q1, q2⟩ | ⟨c, q1, q2, q3, q4, q5⟩
    · have es : nI (n + 1) + (-1 : Int32) = nI n := by
        have tm : (-1 : Int32).toInt = -1 := rfl
        have en : (nI (n + 1)).toInt = ((n + 1 : Nat) : Int) := i_nI (by omega)
        rw [i_eq, i_add (by rw [en, tm]; omega) (by rw [en, tm]; omega), en, tm, i_nI (by omega)]; omega
      rw [if_pos (by rw [q1]; rfl), lt_a, es]
      refine ih m (by omega) (by omega) (fun k c hk hc => ?_)
      by_cases z : k = n + 1
      · subst z; exact q2 c (by omega) hc
      · exact h k c (by omega) hc
    · have ne : ¬ nI e = (1000000 : Int32) := by
        rw [i_eq, i_nI (by omega)]; show ¬ _ = (1000000 : Int); omega
      rw [if_neg ne]
      exact ⟨n + 1, rfl, hn, h, fun _ => ⟨c, q3, q4⟩⟩
theorem x_longest {T : Nat} (hT : T < 4096) (σ : Sg) : ∃ L, f_X9_longestFree (nI T) σ = some (nI L, σ) ∧ LR T L := lf_loop hT σ 12 fuN (by omega) (by have := fu_le; omega) (fun k c hk hc => absurd hc (by omega))
/-- what the reference knows behind c columns -/
def RI (T c best now : Nat) (first : Int32) : Prop := (now ≤ c ∧ Fr T (c - now) now ∧ ∀ k, k ≤ c → Fr T (c - k) k → k ≤ now) ∧ (best ≤ c ∧ (∀ f k, f + k ≤ c → Fr T f k → k ≤ best) ∧ ((best = 0 ∧ first = -1) ∨ (0 < best ∧ ∃ f, first = nI f ∧ f + best ≤ c ∧ Fr T f best ∧ ∀ f', f' < f → ¬ Fr T f' best)))
theorem ri_taken {T c best now : Nat} {first : Int32} (h : RI T c best now first) (hb : T.testBit c = true) : RI T (c + 1) best 0 first := by
  obtain ⟨⟨h1, h2, h3⟩, h4, h5, h6⟩ := h
  refine ⟨⟨by omega, fun l a b => absurd b (by omega), fun k hk hf => ?_⟩, by omega, fun f k hk hf => ?_, ?_⟩
  · by_cases k0 : k = 0
    · omega
    · have := hf c (by omega) (by omega); rw [hb] at this; cases this
  · by_cases k0 : k = 0
    · omega
    · by_cases e : f + k = c + 1
      · have := hf c (by omega) (by omega); rw [hb] at this; cases this
      · exact h5 f k (by omega) hf
  · rcases h6 with q | ⟨q, f, f1, f2, f3, f4⟩
    · exact Or.inl q
    · exact Or.inr ⟨q, f, f1, by omega, f3, f4⟩
theorem ri_free {T c best now : Nat} {first : Int32} (h : RI T c best now first) (hb : T.testBit c = false) : (now + 1 ≤ best → RI T (c + 1) best (now + 1) first) ∧ (best < now + 1 → RI T (c + 1) (now + 1) (now + 1) (nI (c + 1 - (now + 1)))) := by
  obtain ⟨⟨h1, h2, h3⟩, h4, h5, h6⟩ := h
  have r1 : Fr T (c + 1 - (now + 1)) (now + 1) := by
    intro l a b
    by_cases e : l = c
    · subst e; exact hb
    · exact h2 l (by omega) (by omega)
  have r2 : ∀ k, k ≤ c + 1 → Fr T (c + 1 - k) k → k ≤ now + 1 := by
    intro k hk hf
    by_cases k0 : k = 0
    · omega
    · have := h3 (k - 1) (by omega) (fun l a b => hf l (by omega) (by omega))
      omega
  have r3 : ∀ f k, f + k ≤ c + 1 → Fr T f k → k ≤ best ∨ k ≤ now + 1 := by
    intro f k hk hf
    by_cases e : f + k = c + 1
    · right; exact r2 k (by omega) (by rw [show c + 1 - k = f by omega]; exact hf)
    · left; exact h5 f k (by omega) hf
  constructor
  · intro le
    refine ⟨⟨by omega, r1, r2⟩, by omega, fun f k hk hf => by have := r3 f k hk hf; omega, ?_⟩
    rcases h6 with q | ⟨q, f, f1, f2, f3, f4⟩
    · exact Or.inl q
    · exact Or.inr ⟨q, f, f1, by omega, f3, f4⟩
  · intro lt
    refine ⟨⟨by omega, r1, r2⟩, by omega, fun f k hk hf => by have := r3 f k hk hf; omega, Or.inr ⟨by omega, c + 1 - (now + 1), rfl, by omega, r1, fun f' hf' hfr => ?_⟩⟩
    have := h5 f' (now + 1) (by omega) hfr
    omega
theorem run_loop {T : Nat} (hT : T < 4096) (w : Int32) (τ : Sg) : ∀ (d c m best now : Nat) (first : Int32), c + d = 12 → d < m → RI T c best now first → ∃ best' now' first', f_X10_runOf_11 m (nI T) w (nI best) first (nI now) (nI c) τ = some (if w = 2 then nI best' else first', τ) ∧ RI T 12 best' now' first' := by
  intro d
  induction d with
  | zero =>
    intro c m best now first hc hm h
    obtain ⟨m, rfl⟩ : ∃ j, m = j + 1 := ⟨m - 1, by omega⟩
    obtain rfl : c = 12 := by omega
    refine ⟨best, now, first, ?_, h⟩
    rw [f_X10_runOf_11]
    unfold f_X10_runOf_11_b
    rw [if_pos (by decide)]
    by_cases hw : w = 2
    · rw [if_pos hw, if_pos hw]
    · rw [if_neg hw, if_neg hw]
  | succ d ih =>
    intro c m best now first hc hm h
    obtain ⟨m, rfl⟩ : ∃ j, m = j + 1 := ⟨m - 1, by omega⟩
    have n0 := h.1.1
    have b0 := h.2.1
    have ec : (nI c).toInt = (c : Int) := i_nI (by omega)
    have e1 : (nI (c + 1)).toInt = ((c + 1 : Nat) : Int) := i_nI (by omega)
    rw [f_X10_runOf_11]
    unfold f_X10_runOf_11_b
    rw [if_neg (by rw [i_le, ec, ti_12]; omega), shr_1 (by omega), if11, bt_nI (by omega)]
    unfold f_X10_runOf_36
    by_cases hb : T.testBit c = true
    · have z0 : (0 : Int32) ≤ nI best := by rw [i_le, i_nI (by omega), ti_0]; omega
      rw [if_pos hb, if_pos z0, if_pos z0, lt_a, nI_1]
      have := ih (c + 1) m best 0 first (by omega) (by omega) (ri_taken h hb)
      rwa [nI_0] at this
    · rw [if_neg hb]
      have hb' : T.testBit c = false := by cases q : T.testBit c; rfl; exact absurd q hb
      obtain ⟨r1, r2⟩ := ri_free h hb'
      rw [nI_1, nI_1]
      by_cases le : now + 1 ≤ best
      · have z0 : nI (now + 1) ≤ nI best := nI_le le (by omega)
        rw [if_pos z0, if_pos z0, lt_a]
        exact ih (c + 1) m best (now + 1) first (by omega) (by omega) (r1 le)
      · have z0 : ¬ nI (now + 1) ≤ nI best := nI_ge (by omega) (by omega)
        have en : (nI (now + 1)).toInt = ((now + 1 : Nat) : Int) := i_nI (by omega)
        have es : nI (c + 1) - nI (now + 1) = nI (c + 1 - (now + 1)) := by
          rw [i_eq, i_sub (by rw [e1, en]; omega) (by rw [e1, en]; omega), e1, en, i_nI (by omega)]; omega
        rw [if_neg z0, lt_a, if_neg z0, lt_a, es]
        exact ih (c + 1) m (now + 1) (now + 1) _ (by omega) (by omega) (r2 (by omega))
theorem m_runOf {T : Nat} (hT : T < 4096) (w : Int32) (τ : Sg) : ∃ best now first, f_X10_runOf (nI T) w τ = some (if w = 2 then nI best else first, τ) ∧ RI T 12 best now first := by
  have := run_loop hT w τ 12 0 fuN 0 0 (-1) (by omega) (by have := fu_le; omega) ⟨⟨by omega, fun l a b => absurd b (by omega), fun k hk _ => hk⟩, by omega, fun f k hk _ => by omega, Or.inl ⟨rfl, rfl⟩⟩
  rw [nI_0] at this
  exact this
theorem eq_free {σ τ : Sg} (h : Sim σ τ) (a : Int32) : Ok (f_X9_free a σ) (f_X10_free a τ) := by
  obtain ⟨n, hv⟩ := h.vw
  obtain ⟨T, t1, t2, t3⟩ := taken_eq hv
  unfold f_X9_free f_X10_free
  simp only [m_in, x_err1, m_err1, x_err2, m_err2, bnd_s, if01]
  rw [t2, bnd_s]
  by_cases c1 : 0 ≤ a ∧ a ≤ 3
  · rw [if_pos c1, t3, bnd_s]
    simp only [i_le, ti_0, ti_3] at c1
    obtain ⟨k, hk, rfl⟩ := nI_ofi (a := a) (n := 4) c1.1 (by omega)
    have c : k = 0 ∨ k = 1 ∨ k = 2 ∨ k = 3 := by omega
    rcases c with rfl | rfl | rfl | rfl
    · rw [if_pos (by decide), if_neg (by decide), if_pos (by decide)]; exact Ok.mk h
    · rw [if_neg (by decide), if_pos (by decide), if_neg (by decide), if_neg (by decide), x_bits t1, m_bits t1, bnd_s, bnd_s]
      exact Ok.mk h
    · obtain ⟨L, l1, l2, l3, l4⟩ := x_longest t1 σ
      obtain ⟨best, now, first, r1, r2, r3, r4, r5⟩ := m_runOf t1 (nI 2) τ
      rw [if_pos (show nI 2 = (2 : Int32) from rfl)] at r1
      have e : best = L := by
        by_cases q : L < best
        · rcases r5 with ⟨z, _⟩ | ⟨z, f, f1, f2, f3, f4⟩
          · omega
          · exact absurd f3 (l3 best f q f2)
        · by_cases q2 : best < L
          · obtain ⟨c, z1, z2⟩ := l4 (by omega)
            have := r4 c L z1 z2
            omega
          · omega
      have ee : (nI L).toInt = (L : Int) := i_nI (by omega)
      rw [if_neg (by decide), if_neg (by decide), if_pos (by decide), if_pos (by decide), l1, r1, bnd_s, bnd_s, e, if_pos (show (0 : Int32) ≤ nI L by rw [i_le, ee, ti_0]; omega)]
      exact Ok.mk h
    · obtain ⟨L, l1, l2, l3, l4⟩ := x_longest t1 σ
      obtain ⟨best, now, first, r1, r2, r3, r4, r5⟩ := m_runOf t1 (nI 3) τ
      rw [if_neg (show ¬ nI 3 = (2 : Int32) by decide)] at r1
      have e : best = L := by
        by_cases q : L < best
        · rcases r5 with ⟨z, _⟩ | ⟨z, f, f1, f2, f3, f4⟩
          · omega
          · exact absurd f3 (l3 best f q f2)
        · by_cases q2 : best < L
          · obtain ⟨c, z1, z2⟩ := l4 (by omega)
            have := r4 c L z1 z2
            omega
          · omega
      subst e
      have ee : (nI best).toInt = (best : Int) := i_nI (by omega)
      rw [if_neg (by decide), if_neg (by decide), if_neg (by decide), if_pos (by decide), if_pos (by decide), l1, r1, bnd_s, bnd_s]
      rcases r5 with ⟨z1, z2⟩ | ⟨z, f, f1, f2, f3, f4⟩
      · rw [z1, z2, if_pos nI_0, if_neg (by decide)]
        exact Ok.err h 2 (by decide)
      · obtain ⟨e, e1, e2⟩ := x_freeEnd t1 l2 σ (f := 0) (by omega)
        rw [nI_0] at e1
        have ef : (nI f).toInt = (f : Int) := i_nI (by omega)
        rw [if_neg (show ¬ nI best = 0 by rw [i_eq, ee, ti_0]; omega), e1, bnd_s, f1, if_pos (show (0 : Int32) ≤ nI f by rw [i_le, ef, ti_0]; omega)]
        rcases e2 with ⟨q1, q2⟩ | ⟨c, q1, q2, q3, q4, q5⟩
        · exact absurd f3 (q2 f (by omega) f2)
        · have cf : c = f := by
            by_cases a1 : c < f
            · exact absurd q4 (f4 c a1)
            · by_cases a2 : f < c
              · exact absurd f3 (q5 f (by omega) a2)
              · omega
          have es : nI e - nI best = nI f := by
            have e3 : (nI e).toInt = (e : Int) := i_nI (by omega)
            rw [i_eq, i_sub (by rw [e3, ee]; omega) (by rw [e3, ee]; omega), e3, ee, ef]; omega
          rw [es]
          exact Ok.mk h
  · rw [if_neg c1]
    have ne : ∀ jI : Int32, 0 ≤ jI.toInt → jI.toInt ≤ 3 → ¬ a = jI := fun jI p q e => c1 (by subst e; rw [i_le, i_le, ti_0, ti_3]; exact ⟨p, q⟩)
    rw [if_neg (ne 0 (by decide) (by decide)), if_neg (ne 1 (by decide) (by decide)), if_neg (ne 2 (by decide) (by decide)), if_neg (ne 3 (by decide) (by decide))]
    exact Ok.err h 1 (by decide)
