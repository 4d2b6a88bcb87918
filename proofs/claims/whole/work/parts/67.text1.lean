/-! the reading of a text -/
def BS (σ0 τ0 : Sg) (t u : Nat) : Prop := t ≤ 60 ∧ u < 2 ∧ σ0 44 1 = nI t ∧ τ0 1 5 = nI t ∧ (∀ j, j < t → τ0 1 (82 + j) = σ0 62 j) ∧ τ0 0 16 = nI u
def FrX (σ0 σ : Sg) : Prop := ∀ k, k ≠ 3 → k ≠ 56 → k ≠ 74 → σ k = σ0 k
def FrM (τ0 τ : Sg) : Prop := (∀ k, k ≠ 0 → k ≠ 8 → k ≠ 9 → τ k = τ0 k) ∧ ∀ j, (j < 12 ∨ 15 < j) → τ 0 j = τ0 0 j
def CodP (c : Nat) (x a w : Nat → Int32) : Prop := ∀ j, j < c → Cod1 (x j) (a j) (w j) ∧ (a j = 3 → 1 ≤ dp a j) ∧ (opS (a j) → 2 ≤ dp a j)
def PR (σ0 τ0 : Sg) (t u p c o : Nat) (δ : Int) (σ τ : Sg) : Prop := FrX σ0 σ ∧ FrM τ0 τ ∧ σ 3 1 = nI 44 ∧ σ 3 2 = nI u ∧ σ 3 3 = nI p ∧ τ 0 13 = nI p ∧ p ≤ t ∧ σ 56 1 = nI c ∧ τ 0 12 = nI c ∧ c ≤ p ∧ τ 0 14 = nI o ∧ τ 0 15 = 0 ∧ CodP c (σ 74) (τ 8) (τ 9) ∧ dp (τ 8) c = δ ∧ 0 ≤ δ
def PF (σ0 τ0 : Sg) (t p : Nat) (σ τ : Sg) : Prop := FrX σ0 σ ∧ FrM τ0 τ ∧ σ 3 3 = nI p ∧ τ 0 13 = nI p ∧ p ≤ t ∧ τ 0 15 = 1 ∧ ∃ c, c ≤ 60 ∧ τ 0 12 = nI c
def Sp (σ0 τ0 : Sg) (t u o : Nat) (F : Sg → Option (Int32 × Sg)) (G : Sg → Option (Unit × Sg)) : Prop := ∀ p c δ σ τ, PR σ0 τ0 t u p c o δ σ τ → (∃ p' c' σ' τ', F σ = some (1, σ') ∧ G τ = some ((), τ') ∧ PR σ0 τ0 t u p' c' o (δ + 1) σ' τ' ∧ p < p' ∧ c' + p ≤ c + p') ∨ (∃ p' σ' τ', F σ = some (0, σ') ∧ G τ = some ((), τ') ∧ PF σ0 τ0 t p' σ' τ')
def Byt (σ0 : Sg) (t p : Nat) : Int32 := if p < t then σ0 62 p else -1
theorem pr_next {σ0 τ0 σ τ : Sg} {t u p c o : Nat} {δ : Int} (b : BS σ0 τ0 t u) (h : PR σ0 τ0 t u p c o δ σ τ) : f_X4_next σ = some (Byt σ0 t p, σ) ∧ f_X10_look τ = some (Byt σ0 t p, τ) := by
  obtain ⟨b1, b2, b3, b4, b5, b6⟩ := b
  obtain ⟨h1, h2, h3, h4, h5, h6, h7, _⟩ := h
  have ep : (nI p).toInt = (p : Int) := i_nI (by omega)
  have e44 : (nI 44).toNatClampNeg = 44 := rfl
  have s44 : σ 44 = σ0 44 := h1 44 (by decide) (by decide) (by decide)
  have s62 : σ (44 + 18) = σ0 62 := h1 62 (by decide) (by decide) (by decide)
  have r1 : τ 1 = τ0 1 := h2.1 1 (by decide) (by decide) (by decide)
  have t82 : (82 : Int32).toInt = 82 := rfl
  have e82 : ((82 : Int32) + nI p).toInt = ((82 + p : Nat) : Int) := by rw [i_add (by rw [ep, t82]; omega) (by rw [ep, t82]; omega), ep, t82]; omega
  unfold Byt
  constructor
  · unfold f_X4_next
    rw [h5, if_neg (by rw [i_lt, ep, ti_0]; omega), h3, ckb_t (show rowOk (nI 44) = true from rfl), lt_a, e44, s44, b3]
    by_cases q : p < t
    · rw [if_neg (nI_ge q (by omega)), ckb_t (show rowOk (nI 44) = true from rfl), lt_a, ck_k ep (show p < capC (44 + 18) by show p < 60; omega), rd_k ep, s62, if_pos q]
    · rw [if_pos (nI_le (by omega) (by omega)), if_neg q]
  · unfold f_X10_look
    rw [ck_5, rd_5, r1, b4, h6]
    by_cases q : p < t
    · rw [if_neg (nI_ge q (by omega)), ck_k e82 (by omega), rd_k e82, b5 p q, if_pos q]
    · rw [if_pos (nI_le (by omega) (by omega)), if_neg q]
theorem pr_adv {σ0 τ0 σ τ : Sg} {t u p c o : Nat} {δ : Int} (h : PR σ0 τ0 t u p c o δ σ τ) (hp : p < t) : PR σ0 τ0 t u (p + 1) c o δ (up σ 3 3 (σ 3 3 + 1)) (up τ 0 13 (τ 0 13 + 1)) := by
  obtain ⟨h1, h2, h3, h4, h5, h6, h7, h8, h9, h10, h11, h12, h13, h14, h15⟩ := h
  refine ⟨fun k a b d => by rw [up_row a]; exact h1 k a b d, ⟨fun k a b d => by rw [up_row a]; exact h2.1 k a b d, fun j hj => by rw [up_i (by omega)]; exact h2.2 j hj⟩, ?_, ?_, ?_, ?_, by omega, ?_, ?_, by omega, ?_, ?_, ?_, ?_, h15⟩
  · rw [up_i (by decide)]; exact h3
  · rw [up_i (by decide)]; exact h4
  · rw [up_s, h5, nI_1]
  · rw [up_s, h6, nI_1]
  · rw [up_k (by decide)]; exact h8
  · rw [up_i (by decide)]; exact h9
  · rw [up_i (by decide)]; exact h11
  · rw [up_i (by decide)]; exact h12
  · rw [up_row (by decide), up_row (by decide), up_row (by decide)]; exact h13
  · rw [up_row (by decide)]; exact h14
theorem m_step {c : Nat} (hc : c < 60) {τ : Sg} (e : τ 0 12 = nI c) (a w : Int32) : f_X10_step a w τ = some ((), up (up (up τ 8 c a) 9 c w) 0 12 (nI (c + 1))) := by
  have ec : (nI c).toInt = (c : Int) := i_nI (by omega)
  unfold f_X10_step
  rw [e, if_neg (by rw [i_le, ec, i_ofNat (by omega)]; omega), ck_k ec hc, tn_k ec, lt_a, up_k (by decide), e, ck_k ec hc, tn_k ec, lt_a, up_k (by decide), up_k (by decide), e, nI_1, lt_a]
theorem pr_code {σ0 τ0 σ τ : Sg} {t u p c o : Nat} {δ δ' : Int} (b : BS σ0 τ0 t u) (h : PR σ0 τ0 t u p c o δ σ τ) (hc : c < p) {x a w : Int32} (k1 : Cod1 x a w) (k2 : a = 3 → 1 ≤ δ) (k3 : opS a → 2 ≤ δ) (hd : δ' = if a = 1 ∨ a = 2 then δ + 1 else if a = 3 then δ else δ - 1) (d0 : 0 ≤ δ') : ∃ σ' τ', f_X6_add 56 x σ = some ((), σ') ∧ f_X10_step a w τ = some ((), τ') ∧ PR σ0 τ0 t u p (c + 1) o δ' σ' τ' := by
  have b1 := b.1
  obtain ⟨h1, h2, h3, h4, h5, h6, h7, h8, h9, h10, h11, h12, h13, h14, h15⟩ := h
  refine ⟨_, _, x_add h8 (show c < capC (56 + 18) by show c < 60; omega), m_step (by omega) h9 a w, fun k p1 p2 p3 => by rw [up_row p2, up_row p3]; exact h1 k p1 p2 p3, ⟨fun k p1 p2 p3 => by rw [up_row p1, up_row p3, up_row p2]; exact h2.1 k p1 p2 p3, fun j hj => by rw [up_i (by omega), up_k (by decide), up_k (by decide)]; exact h2.2 j hj⟩, ?_, ?_, ?_, ?_, h7, up_s, up_s, by omega, ?_, ?_, ?_, ?_, d0⟩
  · rw [up_k (by decide), up_k (by decide)]; exact h3
  · rw [up_k (by decide), up_k (by decide)]; exact h4
  · rw [up_k (by decide), up_k (by decide)]; exact h5
  · rw [up_i (by decide), up_k (by decide), up_k (by decide)]; exact h6
  · rw [up_i (by decide), up_k (by decide), up_k (by decide)]; exact h11
  · rw [up_i (by decide), up_k (by decide), up_k (by decide)]; exact h12
  · have r8 : up (up (up τ 8 c a) 9 c w) 0 12 (nI (c + 1)) 8 = upd (τ 8) c a := by rw [up_row (by decide), up_row (by decide), up_rs]
    have r9 : up (up (up τ 8 c a) 9 c w) 0 12 (nI (c + 1)) 9 = upd (τ 9) c w := by rw [up_row (by decide), up_rs, up_row (by decide)]
    have r74 : up (up σ (56 + 18) c x) 56 1 (nI (c + 1)) 74 = upd (σ 74) c x := by rw [up_row (by decide), up_rs]
    rw [r8, r9, r74]
    have dpe : ∀ j, j ≤ c → dp (upd (τ 8) c a) j = dp (τ 8) j := fun j hj => dp_congr (fun i hi => upd_n (by omega)) j hj
    intro j hj
    rw [dpe j (by omega)]
    by_cases e : j = c
    · subst e
      rw [upd_e, upd_e, upd_e, h14]
      exact ⟨k1, k2, k3⟩
    · rw [upd_n e, upd_n e, upd_n e]
      exact h13 j (by omega)
  · have r8 : up (up (up τ 8 c a) 9 c w) 0 12 (nI (c + 1)) 8 = upd (τ 8) c a := by rw [up_row (by decide), up_row (by decide), up_rs]
    have dpe : dp (upd (τ 8) c a) c = dp (τ 8) c := dp_congr (fun i hi => upd_n (by omega)) c (Nat.le_refl c)
    rw [r8, dp, upd_e, dpe, h14]
    exact hd.symm
theorem pf_step {σ0 τ0 σ τ : Sg} {t p : Nat} (h : PF σ0 τ0 t p σ τ) (a w : Int32) : ∃ τ', f_X10_step a w τ = some ((), τ') ∧ PF σ0 τ0 t p σ τ' := by
  obtain ⟨h1, h2, h3, h4, h5, h6, c, h7, h8⟩ := h
  by_cases q : c < 60
  · refine ⟨_, m_step q h8 a w, h1, ⟨fun k p1 p2 p3 => by rw [up_row p1, up_row p3, up_row p2]; exact h2.1 k p1 p2 p3, fun j hj => by rw [up_i (by omega), up_k (by decide), up_k (by decide)]; exact h2.2 j hj⟩, h3, ?_, h5, ?_, c + 1, by omega, up_s⟩
    · rw [up_i (by decide), up_k (by decide), up_k (by decide)]; exact h4
    · rw [up_i (by decide), up_k (by decide), up_k (by decide)]; exact h6
  · obtain rfl : c = 60 := by omega
    refine ⟨τ, ?_, h1, h2, h3, h4, h5, h6, 60, h7, h8⟩
    unfold f_X10_step
    rw [h8, if_pos (by decide)]
/-- both stop here -/
theorem pr_bad {σ0 τ0 σ τ : Sg} {t u p c o : Nat} {δ : Int} (b : BS σ0 τ0 t u) (h : PR σ0 τ0 t u p c o δ σ τ) : PF σ0 τ0 t p σ (up τ 0 15 1) := by
  have b1 := b.1
  obtain ⟨h1, h2, h3, h4, h5, h6, h7, h8, h9, h10, h11, h12, h13, h14, h15⟩ := h
  refine ⟨h1, ⟨fun k p1 p2 p3 => by rw [up_row p1]; exact h2.1 k p1 p2 p3, fun j hj => by rw [up_i (by omega)]; exact h2.2 j hj⟩, h5, by rw [up_i (by decide)]; exact h6, h7, up_s, c, by omega, by rw [up_i (by decide)]; exact h9⟩
theorem pr_open {σ0 τ0 σ τ : Sg} {t u p c o o' : Nat} {δ : Int} (h : PR σ0 τ0 t u p c o δ σ τ) : PR σ0 τ0 t u p c o' δ σ (up τ 0 14 (nI o')) := by
  obtain ⟨h1, h2, h3, h4, h5, h6, h7, h8, h9, h10, h11, h12, h13, h14, h15⟩ := h
  refine ⟨h1, ⟨fun k p1 p2 p3 => by rw [up_row p1]; exact h2.1 k p1 p2 p3, fun j hj => by rw [up_i (by omega)]; exact h2.2 j hj⟩, h3, h4, h5, by rw [up_i (by decide)]; exact h6, h7, h8, by rw [up_i (by decide)]; exact h9, h10, up_s, by rw [up_i (by decide)]; exact h12, ?_, ?_, h15⟩
  · rw [up_row (by decide), up_row (by decide)]; exact h13
  · rw [up_row (by decide)]; exact h14
theorem pf_open {σ0 τ0 σ τ : Sg} {t p : Nat} {v : Int32} (h : PF σ0 τ0 t p σ τ) : PF σ0 τ0 t p σ (up τ 0 14 v) := by
  obtain ⟨h1, h2, h3, h4, h5, h6, c, h7, h8⟩ := h
  exact ⟨h1, ⟨fun k p1 p2 p3 => by rw [up_row p1]; exact h2.1 k p1 p2 p3, fun j hj => by rw [up_i (by omega)]; exact h2.2 j hj⟩, h3, by rw [up_i (by decide)]; exact h4, h5, by rw [up_i (by decide)]; exact h6, c, h7, by rw [up_i (by decide)]; exact h8⟩
