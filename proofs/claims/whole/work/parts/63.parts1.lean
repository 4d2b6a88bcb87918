def sR (m : Nat) (h : Nat → Nat) : Nat → Nat
  | 0 => 0
  | r + 1 => sR m h r + h (m - (r + 1))
def sF (h : Nat → Nat) : Nat → Nat
  | 0 => 0
  | k + 1 => sF h k + h k
theorem sF_sR (m : Nat) (h : Nat → Nat) : ∀ r, r ≤ m → sF h (m - r) + sR m h r = sF h m := by
  intro r
  induction r with
  | zero => intro _; rfl
  | succ r ih =>
    intro hr
    have q := ih (by omega)
    rw [show m - r = (m - (r + 1)) + 1 by omega, sF] at q
    rw [sR]
    omega
theorem sR_all (m : Nat) (h : Nat → Nat) : sR m h m = sF h m := by
  have := sF_sR m h m (Nat.le_refl m)
  rw [Nat.sub_self, sF] at this
  omega
theorem sR_congr {m : Nat} {h h' : Nat → Nat} : ∀ r, r ≤ m → (∀ i, m - r ≤ i → i < m → h i = h' i) → sR m h r = sR m h' r := by
  intro r
  induction r with
  | zero => intro _ _; rfl
  | succ r ih =>
    intro hr hh
    rw [sR, sR, ih (by omega) (fun i a b => hh i (by omega) b), hh (m - (r + 1)) (by omega) (by omega)]
theorem sF_congr {h h' : Nat → Nat} : ∀ k, (∀ i, i < k → h i = h' i) → sF h k = sF h' k := by
  intro k
  induction k with
  | zero => intro _; rfl
  | succ k ih => intro hh; rw [sF, sF, ih (fun i hi => hh i (by omega)), hh k (by omega)]
theorem sF_upd {h h' : Nat → Nat} {j : Nat} (hh : ∀ i, i ≠ j → h' i = h i) : ∀ k, j < k → sF h' k + h j = sF h k + h' j := by
  intro k
  induction k with
  | zero => intro hj; omega
  | succ k ih =>
    intro hj
    rw [sF, sF]
    by_cases e : j = k
    · subst e
      rw [sF_congr (h := h') (h' := h) j (fun i hi => hh i (by omega))]
      omega
    · have := ih (by omega)
      rw [hh k (Ne.symm e)]
      omega
theorem sF_le {h : Nat → Nat} {j : Nat} : ∀ k, j < k → h j ≤ sF h k := by
  intro k
  induction k with
  | zero => intro hj; omega
  | succ k ih =>
    intro hj
    rw [sF]
    by_cases e : j = k
    · subst e; omega
    · have := ih (by omega); omega
/-! the reference tries all -/
def sub1 (R : Nat → Nat) (c n : Nat) : Nat → Nat := fun j => if j = c then R c - n else R j
def bstN (rec : (Nat → Nat) → Nat) (n : Nat) (R : Nat → Nat) : Nat → Nat
  | 0 => rec R
  | c + 1 => if n ≤ R c then (if 1 + rec (sub1 R c n) ≤ bstN rec n R c then bstN rec n R c else 1 + rec (sub1 R c n)) else bstN rec n R c
def PB (m : Nat) (ws : Nat → Nat) : Nat → (Nat → Nat) → Nat
  | 0 => fun _ => 0
  | r + 1 => fun R => bstN (PB m ws r) (ws (m - (r + 1))) R 12
theorem PB_s (m : Nat) (ws : Nat → Nat) (r : Nat) (R : Nat → Nat) : PB m ws (r + 1) R = bstN (PB m ws r) (ws (m - (r + 1))) R 12 := rfl
theorem bst_le {rec : (Nat → Nat) → Nat} {n r : Nat} (h : ∀ R, rec R ≤ r) (R : Nat → Nat) : ∀ c, bstN rec n R c ≤ r + 1 := by
  intro c
  induction c with
  | zero => have := h R; rw [bstN]; omega
  | succ c ih =>
    have := h (sub1 R c n)
    rw [bstN]
    repeat' split
    all_goals omega
theorem PB_le {m : Nat} {ws : Nat → Nat} : ∀ r R, PB m ws r R ≤ r := by
  intro r
  induction r with
  | zero => intro R; exact Nat.le_refl _
  | succ r ih => intro R; exact bst_le ih R 12
theorem bst_up {rec : (Nat → Nat) → Nat} {n : Nat} {R : Nat → Nat} : ∀ c, rec R ≤ bstN rec n R c ∧ ∀ j, j < c → n ≤ R j → 1 + rec (sub1 R j n) ≤ bstN rec n R c := by
  intro c
  induction c with
  | zero => exact ⟨Nat.le_refl _, fun j hj => absurd hj (by omega)⟩
  | succ c ih =>
    obtain ⟨i1, i2⟩ := ih
    rw [bstN]
    refine ⟨by repeat' split
               all_goals omega, fun j hj hn => ?_⟩
    by_cases e : j = c
    · subst e
      rw [if_pos hn]
      split <;> omega
    · have := i2 j (by omega) hn
      repeat' split
      all_goals omega
theorem bst_is {rec : (Nat → Nat) → Nat} {n : Nat} {R : Nat → Nat} : ∀ c, bstN rec n R c = rec R ∨ ∃ j, j < c ∧ n ≤ R j ∧ bstN rec n R c = 1 + rec (sub1 R j n) := by
  intro c
  induction c with
  | zero => exact Or.inl rfl
  | succ c ih =>
    have old : (bstN rec n R c = rec R ∨ ∃ j, j < c + 1 ∧ n ≤ R j ∧ bstN rec n R c = 1 + rec (sub1 R j n)) := by
      rcases ih with q | ⟨j, a, b, d⟩
      · exact Or.inl q
      · exact Or.inr ⟨j, by omega, b, d⟩
    rw [bstN]
    by_cases q : n ≤ R c
    · rw [if_pos q]
      by_cases q2 : 1 + rec (sub1 R c n) ≤ bstN rec n R c
      · rw [if_pos q2]; exact old
      · rw [if_neg q2]; exact Or.inr ⟨c, by omega, q, rfl⟩
    · rw [if_neg q]; exact old
def ldF (ws g : Nat → Nat) (c i : Nat) : Nat := if g i = c then ws i else 0
def cnF (g : Nat → Nat) (i : Nat) : Nat := if g i < 12 then 1 else 0
theorem PB_ge {m : Nat} {ws : Nat → Nat} (g : Nat → Nat) : ∀ r R, r ≤ m → (∀ c, c < 12 → sR m (ldF ws g c) r ≤ R c) → sR m (cnF g) r ≤ PB m ws r R := by
  intro r
  induction r with
  | zero => intro R _ _; exact Nat.le_refl _
  | succ r ih =>
    intro R hr h
    obtain ⟨u1, u2⟩ := bst_up (rec := PB m ws r) (n := ws (m - (r + 1))) (R := R) 12
    rw [sR, PB_s]
    by_cases q : g (m - (r + 1)) < 12
    · have hc := h _ q
      rw [sR] at hc
      have e1 : ldF ws g (g (m - (r + 1))) (m - (r + 1)) = ws (m - (r + 1)) := by unfold ldF; rw [if_pos rfl]
      have e2 : cnF g (m - (r + 1)) = 1 := by unfold cnF; rw [if_pos q]
      rw [e1] at hc
      have := u2 _ q (by omega)
      have ihh := ih (sub1 R (g (m - (r + 1))) (ws (m - (r + 1)))) (by omega) (fun c hc2 => by
        have h2 := h c hc2
        rw [sR] at h2
        unfold sub1
        by_cases e : c = g (m - (r + 1))
        · rw [if_pos e]; subst e; omega
        · rw [if_neg e]; omega)
      omega
    · have e2 : cnF g (m - (r + 1)) = 0 := by unfold cnF; rw [if_neg q]
      have ihh := ih R (by omega) (fun c hc2 => by have h2 := h c hc2; rw [sR] at h2; omega)
      omega
theorem PB_is {m : Nat} {ws : Nat → Nat} : ∀ r R, r ≤ m → ∃ g : Nat → Nat, (∀ c, c < 12 → sR m (ldF ws g c) r ≤ R c) ∧ sR m (cnF g) r = PB m ws r R := by
  intro r
  induction r with
  | zero => intro R _; exact ⟨fun _ => 12, fun c _ => Nat.zero_le _, rfl⟩
  | succ r ih =>
    intro R hr
    have set : ∀ (g : Nat → Nat) (v : Nat), ∃ g' : Nat → Nat, g' (m - (r + 1)) = v ∧ (∀ c, sR m (ldF ws g' c) r = sR m (ldF ws g c) r) ∧ sR m (cnF g') r = sR m (cnF g) r := by
      intro g v
      refine ⟨fun i => if i = m - (r + 1) then v else g i, if_pos rfl, fun c => ?_, ?_⟩
      · refine sR_congr r (by omega) (fun i a b => ?_)
        unfold ldF
        simp only [if_neg (show ¬ i = m - (r + 1) by omega)]
      · refine sR_congr r (by omega) (fun i a b => ?_)
        unfold cnF
        simp only [if_neg (show ¬ i = m - (r + 1) by omega)]
    rw [PB_s]
    rcases bst_is (rec := PB m ws r) (n := ws (m - (r + 1))) (R := R) 12 with q | ⟨j, j1, j2, j3⟩
    · obtain ⟨g, g1, g2⟩ := ih R (by omega)
      obtain ⟨g', s1, s2, s3⟩ := set g 12
      refine ⟨g', fun c hc => ?_, ?_⟩
      · rw [sR, s2 c]
        have e : ldF ws g' c (m - (r + 1)) = 0 := by unfold ldF; rw [s1, if_neg (by omega)]
        have := g1 c hc
        omega
      · rw [sR, s3, q, g2]
        have e : cnF g' (m - (r + 1)) = 0 := by unfold cnF; rw [s1, if_neg (by omega)]
        omega
    · obtain ⟨g, g1, g2⟩ := ih (sub1 R j (ws (m - (r + 1)))) (by omega)
      obtain ⟨g', s1, s2, s3⟩ := set g j
      refine ⟨g', fun c hc => ?_, ?_⟩
      · rw [sR, s2 c]
        have h2 := g1 c hc
        unfold sub1 at h2
        unfold ldF at h2 ⊢
        rw [s1]
        by_cases e : c = j
        · subst e; rw [if_pos rfl] at h2 ⊢; omega
        · rw [if_neg e] at h2; rw [if_neg (fun z => e z.symm)]; omega
      · rw [sR, s3, j3, g2]
        have e : cnF g' (m - (r + 1)) = 1 := by unfold cnF; rw [s1, if_pos j1]
        omega
/-! the reference's machine does that -/
def GdR (u m : Nat) (ws : Nat → Nat) (σ : Sg) (R : Nat → Nat) : Prop := σ 6 u = nI m ∧ (∀ k, k < m → σ 7 (24 * u + k) = nI (ws k)) ∧ ∀ c, c < 12 → σ 12 c = nI (R c) ∧ R c ≤ 12
theorem up_id {σ : Sg} {k i : Nat} {a b : Int32} (h : σ k i = b) : up (up σ k i a) k i b = σ := by
  funext k' i'
  by_cases hk : k' = k
  · subst hk
    by_cases hi : i' = i
    · subst hi; rw [up_s, h]
    · rw [up_i hi, up_i hi]
  · rw [up_k hk, up_k hk]
theorem m_pf37 {u m k n r : Nat} (hu : u < 4) (hm : m ≤ 6) (hr : r ≤ 6) (hn : n ≤ 12) {ws : Nat → Nat} {rec : (Nat → Nat) → Nat} (hrec : ∀ R, rec R ≤ r) {g : Int32 → Int32 → Sg → Option (Int32 × Sg)} (hg : ∀ σ R, GdR u m ws σ R → g (nI u) (nI (k + 1)) σ = some (nI (rec R), σ)) {σ : Sg} {R : Nat → Nat} (h : GdR u m ws σ R) : ∀ (d c q : Nat), c + d = 12 → d < q → f_X10_partsFrom_37 g q (nI u) (nI k) (nI n) (nI (bstN rec n R c)) (nI c) σ = some (nI (bstN rec n R 12), σ) := by
  intro d
  induction d with
  | zero =>
    intro c q hc hq
    obtain ⟨q, rfl⟩ : ∃ j, q = j + 1 := ⟨q - 1, by omega⟩
    obtain rfl : c = 12 := by omega
    rw [f_X10_partsFrom_37]
    unfold f_X10_partsFrom_37_b
    rw [if_pos (by decide)]
  | succ d ih =>
    intro c q hc hq
    obtain ⟨q, rfl⟩ : ∃ j, q = j + 1 := ⟨q - 1, by omega⟩
    have ec : (nI c).toInt = (c : Int) := i_nI (by omega)
    obtain ⟨h1, h2, h3⟩ := h
    obtain ⟨h4, h5⟩ := h3 c (by omega)
    have nx := ih (c + 1) q (by omega) (by omega)
    have hb := bst_le (n := n) hrec R c
    have hb2 := hrec (sub1 R c n)
    rw [f_X10_partsFrom_37]
    unfold f_X10_partsFrom_37_b
    rw [if_neg (by rw [i_le, ec, ti_12]; omega), ck_k ec (by omega), rd_k ec, h4]
    by_cases z : n ≤ R c
    · have e1 : nI (R c) - nI n = nI (R c - n) := by
        rw [i_eq, i_sub (by rw [i_nI (by omega), i_nI (by omega)]; omega) (by rw [i_nI (by omega), i_nI (by omega)]; omega), i_nI (by omega), i_nI (by omega), i_nI (by omega)]; omega
      have e2 : nI (R c - n) + nI n = nI (R c) := by rw [nI_add, show R c - n + n = R c by omega]
      have gd : GdR u m ws (up σ 12 c (nI (R c - n))) (sub1 R c n) := by
        refine ⟨by rw [up_k (by decide)]; exact h1, fun k hk => by rw [up_k (by decide)]; exact h2 k hk, fun j hj => ?_⟩
        unfold sub1
        by_cases e : j = c
        · subst e; rw [up_s, if_pos rfl]; exact ⟨rfl, by omega⟩
        · rw [up_i e, if_neg e]; exact h3 j hj
      rw [if_neg (nI_nlt z (by omega)), ck_k ec (by omega), ck_k ec (by omega), lt_a, tn_k ec, e1, nI_1, hg _ _ gd, bnd_s, lt_a, ck_k ec (by omega), ck_k ec (by omega), lt_a, rd_k ec, up_s, e2, up_id h4, nI_1]
      rw [bstN, if_pos z] at nx
      rw [show (1 : Int32) = nI 1 from rfl, nI_add]
      by_cases y : 1 + rec (sub1 R c n) ≤ bstN rec n R c
      · rw [if_pos y] at nx
        rw [if_pos (nI_le y (by omega)), lt_a]; exact nx
      · rw [if_neg y] at nx
        rw [if_neg (nI_ge (by omega) (by omega)), lt_a]; exact nx
    · rw [if_pos (nI_lt (by omega) (by omega)), lt_a, nI_1]
      rw [bstN, if_neg z] at nx
      exact nx
theorem m_pf {u m : Nat} (hu : u < 4) (hm : m ≤ 6) {ws : Nat → Nat} (hw : ∀ k, k < m → ws k ≤ 12) : ∀ (r d : Nat) (σ : Sg) (R : Nat → Nat), r ≤ m → r < d → GdR u m ws σ R → G_X10_partsFrom d (nI u) (nI (m - r)) σ = some (nI (PB m ws r R), σ) := by
  have eu : (nI u).toInt = (u : Int) := i_nI (by omega)
  intro r
  induction r with
  | zero =>
    intro d σ R hr hd h
    obtain ⟨d, rfl⟩ : ∃ j, d = j + 1 := ⟨d - 1, by omega⟩
    rw [G_X10_partsFrom]
    unfold f_X10_partsFrom_e
    rw [ck_k eu hu, rd_k eu, h.1, if_pos (by rw [Nat.sub_zero])]
    rfl
  | succ r ih =>
    intro d σ R hr hd h
    obtain ⟨d, rfl⟩ : ∃ j, d = j + 1 := ⟨d - 1, by omega⟩
    have e24 := i_sq hu (show m - (r + 1) ≤ 24 by omega)
    have hg : ∀ σ R, GdR u m ws σ R → G_X10_partsFrom d (nI u) (nI (m - (r + 1) + 1)) σ = some (nI (PB m ws r R), σ) := by
      intro σ R h
      rw [show m - (r + 1) + 1 = m - r by omega]
      exact ih d σ R (by omega) (by omega) h
    rw [G_X10_partsFrom]
    unfold f_X10_partsFrom_e
    rw [ck_k eu hu, rd_k eu, h.1, if_neg (fun e => by have := m_same_n (by omega) (by omega) e; omega), ck_k e24 (by omega), rd_k e24, lt_a, h.2.1 _ (by omega), nI_1, hg σ R h, bnd_s]
    have := m_pf37 (k := m - (r + 1)) hu hm (show r ≤ 6 by omega) (hw (m - (r + 1)) (by omega)) (PB_le (m := m) (ws := ws) r) hg h 12 0 fuN (by omega) (by have := fu_le; omega)
    rw [nI_0] at this
    exact this
