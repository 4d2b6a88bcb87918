def lvI (v : Int32) : Int32 := if v = 37 then 4 else if v = 38 then 1 else if v = 42 then 4 else if v = 43 then 3 else if v = 45 then 3 else if v = 47 then 4 else if v = 60 then 2 else if v = 61 then 2 else if v = 62 then 2 else if v = 124 then 0 else -1
theorem x_levelOf (v : Int32) (σ : Sg) : f_X4_levelOf v σ = some (lvI v, σ) := by
  unfold f_X4_levelOf lvI
  repeat' split
  all_goals rfl
theorem lv_iff (v : Int32) : (lvI v = 0 ↔ v = 124) ∧ (lvI v = 1 ↔ v = 38) ∧ (lvI v = 2 ↔ v = 60 ∨ v = 61 ∨ v = 62) ∧ (lvI v = 3 ↔ v = 43 ∨ v = 45) ∧ (lvI v = 4 ↔ v = 42 ∨ v = 47 ∨ v = 37) := by
  by_cases h1 : v = 37
  · subst h1; decide
  by_cases h2 : v = 38
  · subst h2; decide
  by_cases h3 : v = 42
  · subst h3; decide
  by_cases h4 : v = 43
  · subst h4; decide
  by_cases h5 : v = 45
  · subst h5; decide
  by_cases h6 : v = 47
  · subst h6; decide
  by_cases h7 : v = 60
  · subst h7; decide
  by_cases h8 : v = 61
  · subst h8; decide
  by_cases h9 : v = 62
  · subst h9; decide
  by_cases h10 : v = 124
  · subst h10; decide
  have e : lvI v = -1 := by
    unfold lvI
    rw [if_neg h1, if_neg h2, if_neg h3, if_neg h4, if_neg h5, if_neg h6, if_neg h7, if_neg h8, if_neg h9, if_neg h10]
  rw [e]
  refine ⟨⟨fun q => absurd q (by decide), fun q => absurd q h10⟩, ⟨fun q => absurd q (by decide), fun q => absurd q h2⟩, ⟨fun q => absurd q (by decide), fun q => ?_⟩, ⟨fun q => absurd q (by decide), fun q => ?_⟩, ⟨fun q => absurd q (by decide), fun q => ?_⟩⟩
  · rcases q with q | q | q
    · exact absurd q h7
    · exact absurd q h8
    · exact absurd q h9
  · rcases q with q | q
    · exact absurd q h4
    · exact absurd q h5
  · rcases q with q | q | q
    · exact absurd q h3
    · exact absurd q h6
    · exact absurd q h1
theorem lv_op {v : Int32} {l : Nat} (hl : l < 5) (h : lvI v = nI l) : opS v := by
  obtain ⟨i0, i1, i2, i3, i4⟩ := lv_iff v
  have c : l = 0 ∨ l = 1 ∨ l = 2 ∨ l = 3 ∨ l = 4 := by omega
  unfold opS
  rcases c with rfl | rfl | rfl | rfl | rfl
  · exact Or.inl (i0.mp h)
  · exact Or.inr (Or.inl (i1.mp h))
  · rcases i2.mp h with q | q | q
    · exact Or.inr (Or.inr (Or.inl q))
    · exact Or.inr (Or.inr (Or.inr (Or.inl q)))
    · exact Or.inr (Or.inr (Or.inr (Or.inr (Or.inl q))))
  · rcases i3.mp h with q | q
    · exact Or.inr (Or.inr (Or.inr (Or.inr (Or.inr (Or.inl q)))))
    · exact Or.inr (Or.inr (Or.inr (Or.inr (Or.inr (Or.inr (Or.inl q))))))
  · rcases i4.mp h with q | q | q
    · exact Or.inr (Or.inr (Or.inr (Or.inr (Or.inr (Or.inr (Or.inr (Or.inl q)))))))
    · exact Or.inr (Or.inr (Or.inr (Or.inr (Or.inr (Or.inr (Or.inr (Or.inr (Or.inl q))))))))
    · exact Or.inr (Or.inr (Or.inr (Or.inr (Or.inr (Or.inr (Or.inr (Or.inr (Or.inr q))))))))
/-- an operation's sign: its operand, then its code -/
theorem op_step {σ0 τ0 : Sg} {t u o l : Nat} (b : BS σ0 τ0 t u) (hl : l < 5) {F : Sg → Option (Int32 × Sg)} {Gm : Sg → Option (Unit × Sg)} (hop : Sp σ0 τ0 t u o F Gm) {p c : Nat} {δ : Int} {σ τ : Sg} (h : PR σ0 τ0 t u p c o δ σ τ) (d1 : 1 ≤ δ) (hb : lvI (Byt σ0 t p) = nI l) : p < t ∧ ((∃ p' c' σ1 τ1 σ' τ', F (up σ 3 3 (σ 3 3 + 1)) = some (1, σ1) ∧ Gm (up τ 0 13 (τ 0 13 + 1)) = some ((), τ1) ∧ f_X6_add 56 (-(Byt σ0 t p)) σ1 = some ((), σ') ∧ f_X10_step (Byt σ0 t p) (0 : Int32) τ1 = some ((), τ') ∧ PR σ0 τ0 t u p' c' o δ σ' τ' ∧ p + 1 < p' ∧ c' + p ≤ c + p') ∨ (∃ p' σ' τ1 τ', F (up σ 3 3 (σ 3 3 + 1)) = some (0, σ') ∧ Gm (up τ 0 13 (τ 0 13 + 1)) = some ((), τ1) ∧ f_X10_step (Byt σ0 t p) (0 : Int32) τ1 = some ((), τ') ∧ PF σ0 τ0 t p' σ' τ')) := by
  have op := lv_op hl hb
  have hp : p < t := byt_lt (fun e => by
    rw [e] at op
    rcases op with e | e | e | e | e | e | e | e | e | e <;> exact absurd e (by decide))
  have n123 : ¬ (Byt σ0 t p = 1 ∨ Byt σ0 t p = 2) ∧ ¬ Byt σ0 t p = 3 := by
    rcases op with e | e | e | e | e | e | e | e | e | e <;> rw [e] <;> decide
  have h10 := h.2.2.2.2.2.2.2.2.2.1
  refine ⟨hp, ?_⟩
  rcases hop _ _ _ _ _ (pr_adv h hp) with ⟨p', c', σ1, τ1, w1, w2, w3, w4, w5⟩ | ⟨p', σ1, τ1, w1, w2, w3⟩
  · obtain ⟨σ2, τ2, v1, v2, v3⟩ := pr_code b w3 (by omega) (x := -(Byt σ0 t p)) (a := Byt σ0 t p) (w := 0) (δ' := δ) (Or.inr (Or.inr (Or.inr ⟨op, rfl⟩))) (fun e => absurd e n123.2) (fun _ => by omega) (by rw [if_neg n123.1, if_neg n123.2]; omega) (by omega)
    exact Or.inl ⟨p', c' + 1, σ1, τ1, σ2, τ2, w1, w2, v1, v2, v3, w4, by omega⟩
  · obtain ⟨τ2, v1, v2⟩ := pf_step w3 (Byt σ0 t p) 0
    exact Or.inr ⟨p', σ1, τ1, τ2, w1, w2, v1, v2⟩
theorem lev_loop {σ0 τ0 : Sg} {t u o l : Nat} (b : BS σ0 τ0 t u) (hl : l < 5) (g1 : Int32 → Int32 → Sg → Option (Int32 × Sg)) (g2 g3 g4 : Int32 → Sg → Option (Int32 × Sg)) {Gm : Sg → Option (Unit × Sg)} (hop : Sp σ0 τ0 t u o (g1 (nI (l + 1)) (nI o)) Gm) (LM : Nat → Sg → Option (Unit × Sg)) (hLM : ∀ m τ v, τ 0 15 = 0 → f_X10_look τ = some (v, τ) → LM (m + 1) τ = if lvI v = nI l then bnd (Gm (up τ 0 13 (τ 0 13 + 1))) (fun _ s4 => bnd (f_X10_step v (0 : Int32) s4) (fun _ s6 => LM m s6)) else some ((), τ)) (hLMb : ∀ m τ, τ 0 15 = 1 → LM (m + 1) τ = some ((), τ)) {δ : Int} (d1 : 1 ≤ δ) : ∀ (d p c times n m : Nat) (σ τ : Sg), t ≤ p + d → d < n → d + 1 < m → times < p → PR σ0 τ0 t u p c o δ σ τ → (∃ p' c' σ' τ', f_X4_readsLevel_44 g1 g2 g3 g4 n (nI l) (nI o) (nI t) (nI times) σ = some (1, σ') ∧ LM m τ = some ((), τ') ∧ PR σ0 τ0 t u p' c' o δ σ' τ' ∧ p ≤ p' ∧ c' + p ≤ c + p') ∨ (∃ p' σ' τ', f_X4_readsLevel_44 g1 g2 g3 g4 n (nI l) (nI o) (nI t) (nI times) σ = some (0, σ') ∧ LM m τ = some ((), τ') ∧ PF σ0 τ0 t p' σ' τ') := by
  intro d
  induction d with
  | zero =>
    intro p c times n m σ τ hd hn hm ht h
    obtain ⟨n, rfl⟩ : ∃ j, n = j + 1 := ⟨n - 1, by omega⟩
    obtain ⟨m, rfl⟩ : ∃ j, m = j + 1 := ⟨m - 1, by omega⟩
    have h15 := h.2.2.2.2.2.2.2.2.2.2.2.1
    have hpt := h.2.2.2.2.2.2.1
    have b1 := b.1
    obtain ⟨n1, n2⟩ := pr_next b h
    have hb : ¬ lvI (Byt σ0 t p) = nI l := fun e => by
      have := (op_step b hl hop h d1 e).1
      omega
    rw [hLM m τ _ h15 n2, if_neg hb, f_X4_readsLevel_44]
    unfold f_X4_readsLevel_44_b
    rw [if_neg (nI_ge (show times < t by omega) (by omega)), n1, bnd_s, x_levelOf, bnd_s, if_neg hb]
    exact Or.inl ⟨p, c, σ, τ, rfl, rfl, h, Nat.le_refl _, Nat.le_refl _⟩
  | succ d ih =>
    intro p c times n m σ τ hd hn hm ht h
    obtain ⟨n, rfl⟩ : ∃ j, n = j + 1 := ⟨n - 1, by omega⟩
    obtain ⟨m, rfl⟩ : ∃ j, m = j + 2 := ⟨m - 2, by omega⟩
    have h15 := h.2.2.2.2.2.2.2.2.2.2.2.1
    have hpt := h.2.2.2.2.2.2.1
    have b1 := b.1
    obtain ⟨n1, n2⟩ := pr_next b h
    rw [show m + 2 = (m + 1) + 1 by omega, hLM (m + 1) τ _ h15 n2, f_X4_readsLevel_44]
    unfold f_X4_readsLevel_44_b
    rw [if_neg (nI_ge (show times < t by omega) (by omega)), n1, bnd_s, x_levelOf, bnd_s]
    by_cases hb : lvI (Byt σ0 t p) = nI l
    · rw [if_pos hb, if_pos hb, n1, bnd_s, lt_a, nI_1]
      obtain ⟨hp, q⟩ := op_step b hl hop h d1 hb
      rcases q with ⟨p', c', σ1, τ1, σ2, τ2, w1, w2, w3, w4, w5, w6, w7⟩ | ⟨p', σ1, τ1, τ2, w1, w2, w3, w4⟩
      · rw [w1, w2, bnd_s, bnd_s, if_neg (show ¬ (1 : Int32) = 0 by decide), w3, w4, bnd_s, bnd_s, lt_a, nI_1]
        rcases ih p' c' (times + 1) n (m + 1) σ2 τ2 (by omega) (by omega) (by omega) (by omega) w5 with ⟨p2, c2, σ3, τ3, v1, v2, v3, v4, v5⟩ | ⟨p2, σ3, τ3, v1, v2, v3⟩
        · exact Or.inl ⟨p2, c2, σ3, τ3, v1, v2, v3, by omega, by omega⟩
        · exact Or.inr ⟨p2, σ3, τ3, v1, v2, v3⟩
      · rw [w1, w2, bnd_s, bnd_s, if_pos rfl, w3, bnd_s, hLMb m τ2 w4.2.2.2.2.2.1]
        exact Or.inr ⟨p', σ1, τ2, rfl, rfl, w4⟩
    · rw [if_neg hb, if_neg hb]
      exact Or.inl ⟨p, c, σ, τ, rfl, rfl, h, Nat.le_refl _, Nat.le_refl _⟩
/-- a level with a loop -/
theorem lev_spec {σ0 τ0 : Sg} {t u o l : Nat} (b : BS σ0 τ0 t u) (hl : l < 5) (hl2 : l ≠ 2) (ho : o ≤ 5) (g1 : Int32 → Int32 → Sg → Option (Int32 × Sg)) (g2 g3 g4 : Int32 → Sg → Option (Int32 × Sg)) {Gm : Sg → Option (Unit × Sg)} (hop : Sp σ0 τ0 t u o (g1 (nI (l + 1)) (nI o)) Gm) (LM : Nat → Sg → Option (Unit × Sg)) (hLM : ∀ m τ v, τ 0 15 = 0 → f_X10_look τ = some (v, τ) → LM (m + 1) τ = if lvI v = nI l then bnd (Gm (up τ 0 13 (τ 0 13 + 1))) (fun _ s4 => bnd (f_X10_step v (0 : Int32) s4) (fun _ s6 => LM m s6)) else some ((), τ)) (hLMb : ∀ m τ, τ 0 15 = 1 → LM (m + 1) τ = some ((), τ)) : Sp σ0 τ0 t u o (f_X4_readsLevel_e g1 g2 g3 g4 (nI l) (nI o)) (fun τ => bnd (Gm τ) (fun _ s8 => LM fuN s8)) := by
  intro p c δ σ τ h
  have el : (nI l).toInt = (l : Int) := i_nI (by omega)
  have b1 := b.1
  have hd := h.2.2.2.2.2.2.2.2.2.2.2.2.2.2
  have e44 : (nI 44).toNatClampNeg = 44 := rfl
  unfold f_X4_readsLevel_e
  rw [if_pos (show nI l < (5 : Int32) by rw [i_lt, el, ti_5]; omega), nI_1]
  simp only []
  rcases hop _ _ _ _ _ h with ⟨p', c', σ1, τ1, w1, w2, w3, w4, w5⟩ | ⟨p', σ1, τ1, w1, w2, w3⟩
  · rw [w1, w2, bnd_s, bnd_s, if_neg (show ¬ (1 : Int32) = 0 by decide), if_neg (show ¬ nI l = (2 : Int32) by rw [i_eq, el, ti_2]; omega), w3.2.2.1, ckb_t (show rowOk (nI 44) = true from rfl), lt_a, e44, lt_a, w3.1 44 (by decide) (by decide) (by decide), b.2.2.1]
    have := lev_loop b hl g1 g2 g3 g4 hop LM hLM hLMb (show 1 ≤ δ + 1 by omega) t p' c' 0 fuN fuN σ1 τ1 (by omega) (by have := fu_le; omega) (by have := fu_le; omega) (by omega) w3
    rw [nI_0] at this
    rcases this with ⟨p2, c2, σ3, τ3, v1, v2, v3, v4, v5⟩ | ⟨p2, σ3, τ3, v1, v2, v3⟩
    · exact Or.inl ⟨p2, c2, σ3, τ3, v1, v2, v3, by omega, by omega⟩
    · exact Or.inr ⟨p2, σ3, τ3, v1, v2, v3⟩
  · obtain ⟨m, hm⟩ : ∃ m, fuN = m + 1 := ⟨fuN - 1, by have := fu_le; omega⟩
    rw [w1, w2, bnd_s, bnd_s, if_pos rfl, hm, hLMb m τ1 w3.2.2.2.2.2.1]
    exact Or.inr ⟨p', σ1, τ1, rfl, rfl, w3⟩
