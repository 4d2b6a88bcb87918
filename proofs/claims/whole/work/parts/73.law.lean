theorem ckL {L i k : Nat} {kI : Int32} (hk : kI.toInt = (k : Int)) (h : i + 6 ≤ L) (hL : L ≤ 3072) (k5 : k ≤ 5) (x : Option (Int32 × Sg)) : ckb (inb (nI i + kI) L) x = x := by
  have ei : (nI i).toInt = (i : Int) := i_nI (by omega)
  have e : (nI i + kI).toInt = ((i + k : Nat) : Int) := by rw [i_add (by rw [ei, hk]; omega) (by rw [ei, hk]; omega), ei, hk]; omega
  exact ck_k e (by omega)
theorem ite_ex {c : Prop} [Decidable c] {A B : Option (Int32 × Sg)} (hA : ∃ σ', A = some (1, σ')) (hB : ∃ σ', B = some (1, σ')) : ∃ σ', (if c then A else B) = some (1, σ') := by
  by_cases h : c
  · rw [if_pos h]; exact hA
  · rw [if_neg h]; exact hB
theorem lfin {X M : Option (Int32 × Sg)} (h : Ok X M) {rec : Int32 → Sg → Sg → Option (Int32 × Sg)} {a : Int32} (hrec : ∀ σ τ, Sim σ τ → ∃ σ', rec (a + (6 : Int32)) σ τ = some (1, σ')) : ∃ σ', bnd X (fun r1 s2 => bnd M (fun r3 t4 => if r1 = r3 then lt (a + (6 : Int32)) (fun v => rec v s2 t4) else some ((0 : Int32), cmb s2 t4))) = some (1, σ') := by
  obtain ⟨r, σ', τ', x, m, s⟩ := h
  rw [x, m, bnd_s, bnd_s, if_pos rfl, lt_a]
  exact hrec σ' τ' s
theorem lfinO {X M : Option (Int64 × Sg)} (h : ∃ (r : Int64) (σ' τ' : Sg), X = some (r, σ') ∧ M = some (r, τ') ∧ Sim σ' τ') {rec : Int32 → Sg → Sg → Option (Int32 × Sg)} {a : Int32} (hrec : ∀ σ τ, Sim σ τ → ∃ σ', rec (a + (6 : Int32)) σ τ = some (1, σ')) : ∃ σ', bnd X (fun r1 s2 => bnd M (fun r3 t4 => if (lg_cmp r1 r3) = 0 then lt (a + (6 : Int32)) (fun v => rec v s2 t4) else some ((0 : Int32), cmb s2 t4))) = some (1, σ') := by
  obtain ⟨r, σ', τ', x, m, s⟩ := h
  rw [x, m, bnd_s, bnd_s, if_pos ((lg_cmp_eq r r).mpr rfl), lt_a]
  exact hrec σ' τ' s
theorem lc_0 {L i : Nat} (h : i + 6 ≤ L) (hL : L ≤ 3072) (xs : Nat → Int32) {rec : Int32 → Sg → Sg → Option (Int32 × Sg)} {σ τ : Sg} (s : Sim σ τ) (hrec : ∀ σ τ, Sim σ τ → ∃ σ', rec (nI i + (6 : Int32)) σ τ = some (1, σ')) : ∃ σ', f_law_c0 L xs rec (nI i) σ τ = some (1, σ') := by
  unfold f_law_c0
  simp only [ckL (kI := 1) (k := 1) rfl h hL (by decide), ckL (kI := 2) (k := 2) rfl h hL (by decide), ckL (kI := 3) (k := 3) rfl h hL (by decide), ckL (kI := 4) (k := 4) rfl h hL (by decide)]
  exact lfin (eq_write s _ _ _ _) hrec
theorem lc_1 {L i : Nat} (h : i + 6 ≤ L) (hL : L ≤ 3072) (xs : Nat → Int32) {rec : Int32 → Sg → Sg → Option (Int32 × Sg)} {σ τ : Sg} (s : Sim σ τ) (hrec : ∀ σ τ, Sim σ τ → ∃ σ', rec (nI i + (6 : Int32)) σ τ = some (1, σ')) : ∃ σ', f_law_c1 L xs rec (nI i) σ τ = some (1, σ') := by
  unfold f_law_c1
  simp only [ckL (kI := 1) (k := 1) rfl h hL (by decide), ckL (kI := 2) (k := 2) rfl h hL (by decide)]
  exact lfin (eq_lineIs s _ _) hrec
theorem lc_2 {L i : Nat} (h : i + 6 ≤ L) (hL : L ≤ 3072) (xs : Nat → Int32) {rec : Int32 → Sg → Sg → Option (Int32 × Sg)} {σ τ : Sg} (s : Sim σ τ) (hrec : ∀ σ τ, Sim σ τ → ∃ σ', rec (nI i + (6 : Int32)) σ τ = some (1, σ')) : ∃ σ', f_law_c2 L xs rec (nI i) σ τ = some (1, σ') := by
  unfold f_law_c2
  simp only [ckL (kI := 1) (k := 1) rfl h hL (by decide), ckL (kI := 2) (k := 2) rfl h hL (by decide)]
  exact lfin (eq_become s _ _) hrec
theorem lc_3 {L i : Nat} (h : i + 6 ≤ L) (hL : L ≤ 3072) (xs : Nat → Int32) {rec : Int32 → Sg → Sg → Option (Int32 × Sg)} {σ τ : Sg} (s : Sim σ τ) (hrec : ∀ σ τ, Sim σ τ → ∃ σ', rec (nI i + (6 : Int32)) σ τ = some (1, σ')) : ∃ σ', f_law_c3 L xs rec (nI i) σ τ = some (1, σ') := by
  unfold f_law_c3
  simp only [ckL (kI := 1) (k := 1) rfl h hL (by decide), ckL (kI := 2) (k := 2) rfl h hL (by decide)]
  exact lfin (eq_as s _ _) hrec
theorem lc_4 {L i : Nat} (h : i + 6 ≤ L) (hL : L ≤ 3072) (xs : Nat → Int32) {rec : Int32 → Sg → Sg → Option (Int32 × Sg)} {σ τ : Sg} (s : Sim σ τ) (hrec : ∀ σ τ, Sim σ τ → ∃ σ', rec (nI i + (6 : Int32)) σ τ = some (1, σ')) : ∃ σ', f_law_c4 L xs rec (nI i) σ τ = some (1, σ') := by
  unfold f_law_c4
  simp only [ckL (kI := 1) (k := 1) rfl h hL (by decide), ckL (kI := 2) (k := 2) rfl h hL (by decide)]
  exact lfin (eq_photo s _ _) hrec
theorem lc_5 {L i : Nat} (h : i + 6 ≤ L) (hL : L ≤ 3072) (xs : Nat → Int32) {rec : Int32 → Sg → Sg → Option (Int32 × Sg)} {σ τ : Sg} (s : Sim σ τ) (hrec : ∀ σ τ, Sim σ τ → ∃ σ', rec (nI i + (6 : Int32)) σ τ = some (1, σ')) : ∃ σ', f_law_c5 L xs rec (nI i) σ τ = some (1, σ') := by
  unfold f_law_c5
  simp only [ckL (kI := 1) (k := 1) rfl h hL (by decide)]
  exact lfin (eq_wipe s _) hrec
theorem lc_6 {L i : Nat} (h : i + 6 ≤ L) (hL : L ≤ 3072) (xs : Nat → Int32) {rec : Int32 → Sg → Sg → Option (Int32 × Sg)} {σ τ : Sg} (s : Sim σ τ) (hrec : ∀ σ τ, Sim σ τ → ∃ σ', rec (nI i + (6 : Int32)) σ τ = some (1, σ')) : ∃ σ', f_law_c6 L xs rec (nI i) σ τ = some (1, σ') := by
  unfold f_law_c6
  simp only [ckL (kI := 1) (k := 1) rfl h hL (by decide), ckL (kI := 2) (k := 2) rfl h hL (by decide)]
  exact lfin (eq_pen s _ _) hrec
theorem lc_7 {L i : Nat} (h : i + 6 ≤ L) (hL : L ≤ 3072) (xs : Nat → Int32) {rec : Int32 → Sg → Sg → Option (Int32 × Sg)} {σ τ : Sg} (s : Sim σ τ) (hrec : ∀ σ τ, Sim σ τ → ∃ σ', rec (nI i + (6 : Int32)) σ τ = some (1, σ')) : ∃ σ', f_law_c7 L xs rec (nI i) σ τ = some (1, σ') := by
  unfold f_law_c7
  simp only [ckL (kI := 1) (k := 1) rfl h hL (by decide)]
  exact lfin (eq_spirit s _) hrec
theorem lc_8 {L i : Nat} (h : i + 6 ≤ L) (hL : L ≤ 3072) (xs : Nat → Int32) {rec : Int32 → Sg → Sg → Option (Int32 × Sg)} {σ τ : Sg} (s : Sim σ τ) (hrec : ∀ σ τ, Sim σ τ → ∃ σ', rec (nI i + (6 : Int32)) σ τ = some (1, σ')) : ∃ σ', f_law_c8 L xs rec (nI i) σ τ = some (1, σ') := by
  unfold f_law_c8
  simp only [ckL (kI := 1) (k := 1) rfl h hL (by decide), ckL (kI := 2) (k := 2) rfl h hL (by decide), ckL (kI := 3) (k := 3) rfl h hL (by decide)]
  exact lfin (eq_feed s _ _) hrec
theorem lc_9 {L i : Nat} (h : i + 6 ≤ L) (hL : L ≤ 3072) (xs : Nat → Int32) {rec : Int32 → Sg → Sg → Option (Int32 × Sg)} {σ τ : Sg} (s : Sim σ τ) (hrec : ∀ σ τ, Sim σ τ → ∃ σ', rec (nI i + (6 : Int32)) σ τ = some (1, σ')) : ∃ σ', f_law_c9 L xs rec (nI i) σ τ = some (1, σ') := by
  unfold f_law_c9
  simp only [ckL (kI := 1) (k := 1) rfl h hL (by decide)]
  exact lfin (eq_text s _) hrec
theorem lc_10 {L i : Nat} (h : i + 6 ≤ L) (hL : L ≤ 3072) (xs : Nat → Int32) {rec : Int32 → Sg → Sg → Option (Int32 × Sg)} {σ τ : Sg} (s : Sim σ τ) (hrec : ∀ σ τ, Sim σ τ → ∃ σ', rec (nI i + (6 : Int32)) σ τ = some (1, σ')) : ∃ σ', f_law_c10 L xs rec (nI i) σ τ = some (1, σ') := by
  unfold f_law_c10
  simp only [ckL (kI := 1) (k := 1) rfl h hL (by decide)]
  exact lfin (eq_untell s _) hrec
theorem lc_11 {L i : Nat} (h : i + 6 ≤ L) (hL : L ≤ 3072) (xs : Nat → Int32) {rec : Int32 → Sg → Sg → Option (Int32 × Sg)} {σ τ : Sg} (s : Sim σ τ) (hrec : ∀ σ τ, Sim σ τ → ∃ σ', rec (nI i + (6 : Int32)) σ τ = some (1, σ')) : ∃ σ', f_law_c11 L xs rec (nI i) σ τ = some (1, σ') := by
  unfold f_law_c11
  simp only [ckL (kI := 1) (k := 1) rfl h hL (by decide), ckL (kI := 2) (k := 2) rfl h hL (by decide), ckL (kI := 3) (k := 3) rfl h hL (by decide), ckL (kI := 4) (k := 4) rfl h hL (by decide)]
  exact lfin (eq_law s _ _ _ _) hrec
theorem lc_12 {L i : Nat} (h : i + 6 ≤ L) (hL : L ≤ 3072) (xs : Nat → Int32) {rec : Int32 → Sg → Sg → Option (Int32 × Sg)} {σ τ : Sg} (s : Sim σ τ) (hrec : ∀ σ τ, Sim σ τ → ∃ σ', rec (nI i + (6 : Int32)) σ τ = some (1, σ')) : ∃ σ', f_law_c12 L xs rec (nI i) σ τ = some (1, σ') := by
  unfold f_law_c12
  simp only [ckL (kI := 1) (k := 1) rfl h hL (by decide)]
  exact lfin (eq_days s _) hrec
theorem lc_13 {L i : Nat} (h : i + 6 ≤ L) (hL : L ≤ 3072) (xs : Nat → Int32) {rec : Int32 → Sg → Sg → Option (Int32 × Sg)} {σ τ : Sg} (s : Sim σ τ) (hrec : ∀ σ τ, Sim σ τ → ∃ σ', rec (nI i + (6 : Int32)) σ τ = some (1, σ')) : ∃ σ', f_law_c13 L xs rec (nI i) σ τ = some (1, σ') := by
  unfold f_law_c13
  simp only [ckL (kI := 1) (k := 1) rfl h hL (by decide)]
  exact lfin (eq_loose s _) hrec
theorem lc_14 {L i : Nat} (h : i + 6 ≤ L) (hL : L ≤ 3072) (xs : Nat → Int32) {rec : Int32 → Sg → Sg → Option (Int32 × Sg)} {σ τ : Sg} (s : Sim σ τ) (hrec : ∀ σ τ, Sim σ τ → ∃ σ', rec (nI i + (6 : Int32)) σ τ = some (1, σ')) : ∃ σ', f_law_c14 L xs rec (nI i) σ τ = some (1, σ') := by
  unfold f_law_c14
  simp only [ckL (kI := 1) (k := 1) rfl h hL (by decide)]
  exact lfin (eq_seed s _) hrec
theorem lc_15 {L i : Nat} (h : i + 6 ≤ L) (hL : L ≤ 3072) (xs : Nat → Int32) {rec : Int32 → Sg → Sg → Option (Int32 × Sg)} {σ τ : Sg} (s : Sim σ τ) (hrec : ∀ σ τ, Sim σ τ → ∃ σ', rec (nI i + (6 : Int32)) σ τ = some (1, σ')) : ∃ σ', f_law_c15 L xs rec (nI i) σ τ = some (1, σ') := by
  unfold f_law_c15
  simp only [ckL (kI := 1) (k := 1) rfl h hL (by decide)]
  exact lfin (eq_free s _) hrec
theorem lc_16 {L i : Nat} (h : i + 6 ≤ L) (hL : L ≤ 3072) (xs : Nat → Int32) {rec : Int32 → Sg → Sg → Option (Int32 × Sg)} {σ τ : Sg} (s : Sim σ τ) (hrec : ∀ σ τ, Sim σ τ → ∃ σ', rec (nI i + (6 : Int32)) σ τ = some (1, σ')) : ∃ σ', f_law_c16 L xs rec (nI i) σ τ = some (1, σ') := by
  unfold f_law_c16
  simp only [ckL (kI := 1) (k := 1) rfl h hL (by decide)]
  exact lfin (eq_of s _) hrec
theorem lc_17 {L i : Nat} (h : i + 6 ≤ L) (hL : L ≤ 3072) (xs : Nat → Int32) {rec : Int32 → Sg → Sg → Option (Int32 × Sg)} {σ τ : Sg} (s : Sim σ τ) (hrec : ∀ σ τ, Sim σ τ → ∃ σ', rec (nI i + (6 : Int32)) σ τ = some (1, σ')) : ∃ σ', f_law_c17 L xs rec (nI i) σ τ = some (1, σ') := by
  unfold f_law_c17
  simp only [ckL (kI := 1) (k := 1) rfl h hL (by decide), ckL (kI := 2) (k := 2) rfl h hL (by decide)]
  exact lfin (eq_room s _ _) hrec
theorem lc_18 {L i : Nat} (h : i + 6 ≤ L) (hL : L ≤ 3072) (xs : Nat → Int32) {rec : Int32 → Sg → Sg → Option (Int32 × Sg)} {σ τ : Sg} (s : Sim σ τ) (hrec : ∀ σ τ, Sim σ τ → ∃ σ', rec (nI i + (6 : Int32)) σ τ = some (1, σ')) : ∃ σ', f_law_c18 L xs rec (nI i) σ τ = some (1, σ') := by
  unfold f_law_c18
  simp only [ckL (kI := 1) (k := 1) rfl h hL (by decide), ckL (kI := 2) (k := 2) rfl h hL (by decide)]
  exact lfin (eq_when s _ _) hrec
theorem lc_19 {L i : Nat} (h : i + 6 ≤ L) (hL : L ≤ 3072) (xs : Nat → Int32) {rec : Int32 → Sg → Sg → Option (Int32 × Sg)} {σ τ : Sg} (s : Sim σ τ) (hrec : ∀ σ τ, Sim σ τ → ∃ σ', rec (nI i + (6 : Int32)) σ τ = some (1, σ')) : ∃ σ', f_law_c19 L xs rec (nI i) σ τ = some (1, σ') := by
  unfold f_law_c19
  simp only [ckL (kI := 1) (k := 1) rfl h hL (by decide)]
  exact lfin (eq_clears s _) hrec
theorem lc_20 {L i : Nat} (h : i + 6 ≤ L) (hL : L ≤ 3072) (xs : Nat → Int32) {rec : Int32 → Sg → Sg → Option (Int32 × Sg)} {σ τ : Sg} (s : Sim σ τ) (hrec : ∀ σ τ, Sim σ τ → ∃ σ', rec (nI i + (6 : Int32)) σ τ = some (1, σ')) : ∃ σ', f_law_c20 L xs rec (nI i) σ τ = some (1, σ') := by
  unfold f_law_c20
  simp only [ckL (kI := 1) (k := 1) rfl h hL (by decide)]
  exact lfin (eq_parts s _) hrec
theorem lc_21 {L i : Nat} (h : i + 6 ≤ L) (hL : L ≤ 3072) (xs : Nat → Int32) {rec : Int32 → Sg → Sg → Option (Int32 × Sg)} {σ τ : Sg} (s : Sim σ τ) (hrec : ∀ σ τ, Sim σ τ → ∃ σ', rec (nI i + (6 : Int32)) σ τ = some (1, σ')) : ∃ σ', f_law_c21 L xs rec (nI i) σ τ = some (1, σ') := by
  unfold f_law_c21
  simp only [ckL (kI := 1) (k := 1) rfl h hL (by decide), ckL (kI := 2) (k := 2) rfl h hL (by decide)]
  exact lfinO (eq_odds s _ _) hrec
theorem lc_22 {L i : Nat} (h : i + 6 ≤ L) (hL : L ≤ 3072) (xs : Nat → Int32) {rec : Int32 → Sg → Sg → Option (Int32 × Sg)} {σ τ : Sg} (s : Sim σ τ) (hrec : ∀ σ τ, Sim σ τ → ∃ σ', rec (nI i + (6 : Int32)) σ τ = some (1, σ')) : ∃ σ', f_law_c22 L xs rec (nI i) σ τ = some (1, σ') := by
  unfold f_law_c22
  simp only [ckL (kI := 1) (k := 1) rfl h hL (by decide)]
  exact lfin (eq_fits s _) hrec
theorem lc_23 {L i : Nat} (h : i + 6 ≤ L) (hL : L ≤ 3072) (xs : Nat → Int32) {rec : Int32 → Sg → Sg → Option (Int32 × Sg)} {σ τ : Sg} (s : Sim σ τ) (hrec : ∀ σ τ, Sim σ τ → ∃ σ', rec (nI i + (6 : Int32)) σ τ = some (1, σ')) : ∃ σ', f_law_c23 L xs rec (nI i) σ τ = some (1, σ') := by
  unfold f_law_c23
  simp only [ckL (kI := 1) (k := 1) rfl h hL (by decide), ckL (kI := 2) (k := 2) rfl h hL (by decide), ckL (kI := 3) (k := 3) rfl h hL (by decide)]
  exact lfin (eq_voice s _ _ _) hrec
theorem lc_24 {L i : Nat} (h : i + 6 ≤ L) (hL : L ≤ 3072) (xs : Nat → Int32) {rec : Int32 → Sg → Sg → Option (Int32 × Sg)} {σ τ : Sg} (s : Sim σ τ) (hrec : ∀ σ τ, Sim σ τ → ∃ σ', rec (nI i + (6 : Int32)) σ τ = some (1, σ')) : ∃ σ', f_law_c24 L xs rec (nI i) σ τ = some (1, σ') := by
  unfold f_law_c24
  simp only [ckL (kI := 1) (k := 1) rfl h hL (by decide)]
  exact lfin (eq_body s _) hrec
theorem lc_25 {L i : Nat} (h : i + 6 ≤ L) (hL : L ≤ 3072) (xs : Nat → Int32) {rec : Int32 → Sg → Sg → Option (Int32 × Sg)} {σ τ : Sg} (s : Sim σ τ) (hrec : ∀ σ τ, Sim σ τ → ∃ σ', rec (nI i + (6 : Int32)) σ τ = some (1, σ')) : ∃ σ', f_law_c25 L xs rec (nI i) σ τ = some (1, σ') := by
  unfold f_law_c25
  simp only [ckL (kI := 1) (k := 1) rfl h hL (by decide), ckL (kI := 2) (k := 2) rfl h hL (by decide), ckL (kI := 3) (k := 3) rfl h hL (by decide)]
  exact lfin (eq_sheet s _ _ _) hrec
theorem lc_26 {L i : Nat} (h : i + 6 ≤ L) (hL : L ≤ 3072) (xs : Nat → Int32) {rec : Int32 → Sg → Sg → Option (Int32 × Sg)} {σ τ : Sg} (s : Sim σ τ) (hrec : ∀ σ τ, Sim σ τ → ∃ σ', rec (nI i + (6 : Int32)) σ τ = some (1, σ')) : ∃ σ', f_law_c26 L xs rec (nI i) σ τ = some (1, σ') := by
  unfold f_law_c26
  simp only [ckL (kI := 1) (k := 1) rfl h hL (by decide), ckL (kI := 2) (k := 2) rfl h hL (by decide), ckL (kI := 3) (k := 3) rfl h hL (by decide)]
  exact lfin (eq_put s _ _ _) hrec
theorem lc_27 {L i : Nat} (h : i + 6 ≤ L) (hL : L ≤ 3072) (xs : Nat → Int32) {rec : Int32 → Sg → Sg → Option (Int32 × Sg)} {σ τ : Sg} (s : Sim σ τ) (hrec : ∀ σ τ, Sim σ τ → ∃ σ', rec (nI i + (6 : Int32)) σ τ = some (1, σ')) : ∃ σ', f_law_c27 L xs rec (nI i) σ τ = some (1, σ') := by
  unfold f_law_c27
  simp only [ckL (kI := 1) (k := 1) rfl h hL (by decide), ckL (kI := 2) (k := 2) rfl h hL (by decide), ckL (kI := 3) (k := 3) rfl h hL (by decide), ckL (kI := 4) (k := 4) rfl h hL (by decide), ckL (kI := 5) (k := 5) rfl h hL (by decide)]
  exact lfin (eq_move s _ _ _ _ _) hrec
theorem lc_28 {L i : Nat} (h : i + 6 ≤ L) (hL : L ≤ 3072) (xs : Nat → Int32) {rec : Int32 → Sg → Sg → Option (Int32 × Sg)} {σ τ : Sg} (s : Sim σ τ) (hrec : ∀ σ τ, Sim σ τ → ∃ σ', rec (nI i + (6 : Int32)) σ τ = some (1, σ')) : ∃ σ', f_law_c28 L xs rec (nI i) σ τ = some (1, σ') := by
  unfold f_law_c28
  simp only [ckL (kI := 1) (k := 1) rfl h hL (by decide)]
  exact lfin (eq_dates s _) hrec
theorem lc_29 {L i : Nat} (h : i + 6 ≤ L) (hL : L ≤ 3072) (xs : Nat → Int32) {rec : Int32 → Sg → Sg → Option (Int32 × Sg)} {σ τ : Sg} (s : Sim σ τ) (hrec : ∀ σ τ, Sim σ τ → ∃ σ', rec (nI i + (6 : Int32)) σ τ = some (1, σ')) : ∃ σ', f_law_c29 L xs rec (nI i) σ τ = some (1, σ') := by
  unfold f_law_c29
  simp only [ckL (kI := 1) (k := 1) rfl h hL (by decide)]
  exact lfin (eq_judge s _) hrec
theorem lc_30 {L i : Nat} (h : i + 6 ≤ L) (hL : L ≤ 3072) (xs : Nat → Int32) {rec : Int32 → Sg → Sg → Option (Int32 × Sg)} {σ τ : Sg} (s : Sim σ τ) (hrec : ∀ σ τ, Sim σ τ → ∃ σ', rec (nI i + (6 : Int32)) σ τ = some (1, σ')) : ∃ σ', f_law_c30 L xs rec (nI i) σ τ = some (1, σ') := by
  unfold f_law_c30
  exact lfin (eq_image s) hrec
theorem lc_31 {L i : Nat} (h : i + 6 ≤ L) (hL : L ≤ 3072) (xs : Nat → Int32) {rec : Int32 → Sg → Sg → Option (Int32 × Sg)} {σ τ : Sg} (s : Sim σ τ) (hrec : ∀ σ τ, Sim σ τ → ∃ σ', rec (nI i + (6 : Int32)) σ τ = some (1, σ')) : ∃ σ', f_law_c31 L xs rec (nI i) σ τ = some (1, σ') := by
  unfold f_law_c31
  exact lfin (eq_restore s) hrec
theorem lc_32 {L i : Nat} (h : i + 6 ≤ L) (hL : L ≤ 3072) (xs : Nat → Int32) {rec : Int32 → Sg → Sg → Option (Int32 × Sg)} {σ τ : Sg} (s : Sim σ τ) (hrec : ∀ σ τ, Sim σ τ → ∃ σ', rec (nI i + (6 : Int32)) σ τ = some (1, σ')) : ∃ σ', f_law_c32 L xs rec (nI i) σ τ = some (1, σ') := by
  unfold f_law_c32
  simp only [ckL (kI := 1) (k := 1) rfl h hL (by decide)]
  exact lfin (eq_tell s _) hrec
theorem lc_33 {L i : Nat} (h : i + 6 ≤ L) (hL : L ≤ 3072) (xs : Nat → Int32) {rec : Int32 → Sg → Sg → Option (Int32 × Sg)} {σ τ : Sg} (s : Sim σ τ) (hrec : ∀ σ τ, Sim σ τ → ∃ σ', rec (nI i + (6 : Int32)) σ τ = some (1, σ')) : ∃ σ', f_law_c33 L xs rec (nI i) σ τ = some (1, σ') := by
  unfold f_law_c33
  exact lfin (eq_check s) hrec
theorem lc_34 {L i : Nat} (h : i + 6 ≤ L) (hL : L ≤ 3072) (xs : Nat → Int32) {rec : Int32 → Sg → Sg → Option (Int32 × Sg)} {σ τ : Sg} (s : Sim σ τ) (hrec : ∀ σ τ, Sim σ τ → ∃ σ', rec (nI i + (6 : Int32)) σ τ = some (1, σ')) : ∃ σ', f_law_c34 L xs rec (nI i) σ τ = some (1, σ') := by
  unfold f_law_c34
  simp only [ckL (kI := 1) (k := 1) rfl h hL (by decide)]
  exact lfin (eq_count s _) hrec
theorem lc_35 {L i : Nat} (h : i + 6 ≤ L) (hL : L ≤ 3072) (xs : Nat → Int32) {rec : Int32 → Sg → Sg → Option (Int32 × Sg)} {σ τ : Sg} (s : Sim σ τ) (hrec : ∀ σ τ, Sim σ τ → ∃ σ', rec (nI i + (6 : Int32)) σ τ = some (1, σ')) : ∃ σ', f_law_c35 L xs rec (nI i) σ τ = some (1, σ') := by
  unfold f_law_c35
  simp only [ckL (kI := 1) (k := 1) rfl h hL (by decide)]
  exact lfin (eq_told s _) hrec
theorem s0X_z {k : Nat} (h1 : k ≠ 1) (h2 : k ≠ 2) (h3 : k ≠ 3) (h4 : k ≠ 16) (h5 : k ≠ 17) : s0X k = fun _ => 0 := by
  unfold s0X
  rw [if_neg h1, if_neg h2, if_neg h3, if_neg h4, if_neg h5]
theorem s0M_z {k : Nat} (h1 : k ≠ 1) : s0M k = fun _ => 0 := by
  unfold s0M
  rw [if_neg h1]
theorem sim0 : Sim s0X s0M := by
  refine ⟨?_, ?_, fun hz => ?_, fun k a b => ?_, fun u hu => ?_, ?_⟩
  · refine ⟨?_, fun p hp => ?_, ⟨0, by omega, rfl, rfl, fun l hl => absurd hl (by omega)⟩, fun l hl => ?_, ⟨0, by omega, ?_, rfl, fun j hj => absurd hj (by omega)⟩, ⟨0, by omega, ?_, rfl, fun j hj => absurd hj (by omega)⟩, fun u hu => ?_⟩
    · refine ⟨rfl, by decide, by decide, rfl, Or.inl rfl, rfl, by decide, by decide, rfl⟩
    · have c : p = 0 ∨ p = 1 ∨ p = 2 ∨ p = 3 ∨ p = 4 := by omega
      rcases c with rfl | rfl | rfl | rfl | rfl <;> exact ⟨rfl, by decide, by decide⟩
    · left
      show s0X (20 + l) 6 = 0
      rw [s0X_z (by omega) (by omega) (by omega) (by omega) (by omega)]
    · rw [s0X_z (by omega) (by omega) (by omega) (by omega) (by omega)]; rfl
    · rw [s0X_z (by omega) (by omega) (by omega) (by omega) (by omega)]; rfl
    · refine ⟨0, by omega, ?_, Or.inl ⟨?_, ?_⟩⟩
      · show s0X (48 + u) 1 = nI 0
        rw [s0X_z (by omega) (by omega) (by omega) (by omega) (by omega)]; rfl
      · show s0X (40 + u) 0 = 0
        rw [s0X_z (by omega) (by omega) (by omega) (by omega) (by omega)]
      · have c : u = 0 ∨ u = 1 := by omega
        rcases c with rfl | rfl <;> rfl
  · rfl
  · exact absurd rfl hz
  · rw [s0X_z (by omega) (by omega) (by omega) (by omega) (by omega), s0M_z (by omega)]
  · rw [s0X_z (k := 10 + u) (by omega) (by omega) (by omega) (by omega) (by omega), s0X_z (k := 58 + u) (by omega) (by omega) (by omega) (by omega) (by omega), s0M_z (k := 5) (by omega), s0M_z (k := 6) (by omega), s0M_z (k := 7) (by omega)]
    exact ⟨rfl, Or.inl rfl, 0, by omega, rfl, rfl, fun j hj => absurd hj (by omega)⟩
  · exact ⟨0, by omega, rfl, rfl, fun j hj => absurd hj (by omega)⟩
theorem law_step {L : Nat} (hL : L ≤ 3072) (xs : Nat → Int32) : ∀ (d i n : Nat) (σ τ : Sg), L ≤ i + d → d < n → i ≤ L + 6 → Sim σ τ → ∃ σ', f_law L xs n (nI i) σ τ = some (1, σ') := by
  intro d
  have eL : (Int32.ofNat L - (6 : Int32)).toInt = (L : Int) - 6 := by
    have e : (Int32.ofNat L).toInt = (L : Int) := i_ofNat (by omega)
    rw [i_sub (by rw [e, ti_6]; omega) (by rw [e, ti_6]; omega), e, ti_6]
  have stop : ∀ (i n : Nat) (σ τ : Sg), L < i + 6 → i ≤ L + 6 → ∃ σ', f_law L xs (n + 1) (nI i) σ τ = some (1, σ') := by
    intro i n σ τ h1 h2
    rw [f_law]
    unfold f_law_b
    rw [if_pos (by rw [i_lt, eL, i_nI (by omega)]; omega)]
    exact ⟨_, rfl⟩
  induction d with
  | zero =>
    intro i n σ τ hi hn hi2 s
    obtain ⟨n, rfl⟩ : ∃ j, n = j + 1 := ⟨n - 1, by omega⟩
    exact stop i n σ τ (by omega) hi2
  | succ d ih =>
    intro i n σ τ hi hn hi2 s
    obtain ⟨n, rfl⟩ : ∃ j, n = j + 1 := ⟨n - 1, by omega⟩
    by_cases hs : L < i + 6
    · exact stop i n σ τ hs hi2
    · have h6 : i + 6 ≤ L := by omega
      have ei : (nI i).toInt = (i : Int) := i_nI (by omega)
      have e6 : nI i + (6 : Int32) = nI (i + 6) := by rw [show (6 : Int32) = nI 6 from rfl, nI_add]
      have hrec : ∀ σ τ, Sim σ τ → ∃ σ', f_law L xs n (nI i + (6 : Int32)) σ τ = some (1, σ') := by
        intro σ τ s
        rw [e6]
        exact ih (i + 6) n σ τ (by omega) (by omega) (by omega) s
      rw [f_law]
      unfold f_law_b
      rw [if_neg (by rw [i_lt, eL, ei]; omega), ck_k ei (by omega), lt_a]
      refine ite_ex (lc_0 h6 hL xs s hrec) (ite_ex (lc_1 h6 hL xs s hrec) (ite_ex (lc_2 h6 hL xs s hrec) (ite_ex (lc_3 h6 hL xs s hrec) (ite_ex (lc_4 h6 hL xs s hrec) (ite_ex (lc_5 h6 hL xs s hrec) (ite_ex (lc_6 h6 hL xs s hrec) (ite_ex (lc_7 h6 hL xs s hrec) (ite_ex (lc_8 h6 hL xs s hrec) (ite_ex (lc_9 h6 hL xs s hrec) (ite_ex (lc_10 h6 hL xs s hrec) (ite_ex (lc_11 h6 hL xs s hrec) (ite_ex (lc_12 h6 hL xs s hrec) (ite_ex (lc_13 h6 hL xs s hrec) (ite_ex (lc_14 h6 hL xs s hrec) (ite_ex (lc_15 h6 hL xs s hrec) (ite_ex (lc_16 h6 hL xs s hrec) (ite_ex (lc_17 h6 hL xs s hrec) (ite_ex (lc_18 h6 hL xs s hrec) (ite_ex (lc_19 h6 hL xs s hrec) (ite_ex (lc_20 h6 hL xs s hrec) (ite_ex (lc_21 h6 hL xs s hrec) (ite_ex (lc_22 h6 hL xs s hrec) (ite_ex (lc_23 h6 hL xs s hrec) (ite_ex (lc_24 h6 hL xs s hrec) (ite_ex (lc_25 h6 hL xs s hrec) (ite_ex (lc_26 h6 hL xs s hrec) (ite_ex (lc_27 h6 hL xs s hrec) (ite_ex (lc_28 h6 hL xs s hrec) (ite_ex (lc_29 h6 hL xs s hrec) (ite_ex (lc_30 h6 hL xs s hrec) (ite_ex (lc_31 h6 hL xs s hrec) (ite_ex (lc_32 h6 hL xs s hrec) (ite_ex (lc_33 h6 hL xs s hrec) (ite_ex (lc_34 h6 hL xs s hrec) (ite_ex (lc_35 h6 hL xs s hrec) ?_)))))))))))))))))))))))))))))))))))
      rw [lt_a]
      exact hrec σ τ s
theorem law_pure (L : Nat) (xs : Nat → Int32) (hL : L ≤ 3072) : ∃ σ', f_law L xs fuN (0 : Int32) s0X s0M = some (1, σ') := by
  have := law_step hL xs L 0 fuN s0X s0M (by omega) (by have := fu_le; omega) (by omega) sim0
  rw [nI_0] at this
  exact this
