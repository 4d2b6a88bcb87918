def WR (u : Nat) (σ τ σ' τ' : Sg) : Prop := (∀ k, k ≠ 52 + u → k ≠ 70 + u → σ' k = σ k) ∧ (∀ k, k ≠ 11 → τ' k = τ k)
theorem WR.tr {u : Nat} {σ τ σ1 τ1 σ2 τ2 : Sg} (h1 : WR u σ τ σ1 τ1) (h2 : WR u σ1 τ1 σ2 τ2) : WR u σ τ σ2 τ2 :=
  ⟨fun k a b => (h2.1 k a b).trans (h1.1 k a b), fun k a => (h2.2 k a).trans (h1.2 k a)⟩
def WS (u c j s : Nat) (xs a w : Nat → Int32) (y0 y1 y2 : Int32) (σ τ : Sg) : Prop :=
  σ (48 + u) 1 = nI c ∧ (∀ i, i < c → σ (66 + u) i = xs i) ∧ τ 1 (166 + 121 * u) = nI c ∧ (∀ i, i < c → τ 1 (166 + 121 * u + 1 + i) = a i ∧ τ 1 (166 + 121 * u + 61 + i) = w i) ∧ τ 10 0 = y0 ∧ τ 10 1 = y1 ∧ τ 10 2 = y2 ∧ σ (52 + u) 1 = nI s ∧ (s : Int) = dp a j ∧ s ≤ j ∧ (∀ i, i < s → σ (70 + u) i = τ 11 i)
theorem WS.next {u c j s s' : Nat} (hu : u < 2) {xs a w : Nat → Int32} {y0 y1 y2 : Int32} {σ τ : Sg} (h : WS u c j s xs a w y0 y1 y2 σ τ) (v : Int32) {σ1 : Sg} (hσ : ∀ k, k ≠ 52 + u → σ1 k = σ k) (hs : s' ≤ s) (hd : ((s' + 1 : Nat) : Int) = dp a (j + 1)) : WS u c (j + 1) (s' + 1) xs a w y0 y1 y2 (up (up σ1 (70 + u) s' v) (52 + u) 1 (nI (s' + 1))) (up τ 11 s' v) ∧ WR u σ τ (up (up σ1 (70 + u) s' v) (52 + u) 1 (nI (s' + 1))) (up τ 11 s' v) := by
  obtain ⟨g1, g2, g3, g4, z0, z1, z2, e1, e2, e3, e4⟩ := h
  refine ⟨⟨?_, fun i hi => ?_, ?_, fun i hi => ?_, ?_, ?_, ?_, up_s, hd, by omega, fun i hi => ?_⟩, fun k p q => by rw [up_row p, up_row q, hσ k p], fun k p => up_row p⟩
  · rw [up_k (by omega), up_k (by omega), hσ _ (by omega)]; exact g1
  · rw [up_k (by omega), up_k (by omega), hσ _ (by omega)]; exact g2 i hi
  · rw [up_k (by decide)]; exact g3
  · rw [up_k (by decide), up_k (by decide)]; exact g4 i hi
  · rw [up_k (by decide)]; exact z0
  · rw [up_k (by decide)]; exact z1
  · rw [up_k (by decide)]; exact z2
  · rw [up_k (by omega)]
    by_cases h : i = s'
    · subst h; rw [up_s, up_s]
    · rw [up_i h, up_i h, hσ _ (by omega)]; exact e4 i (by omega)
theorem works_zero {u c : Nat} (hu : u < 2) (hc : c ≤ 60) {bI : Int32} (eb : bI.toInt = ((166 + 121 * u : Nat) : Int)) {xs a w : Nat → Int32} (H : dp a c = 1) (y0 y1 y2 : Int32) (n m s : Nat) (σ τ : Sg) (h : WS u c c s xs a w y0 y1 y2 σ τ) : ∃ r σ' τ', f_X1_workOut_10 (n + 1) (40 + u) y0 y1 y2 (nI c) σ = some (r, σ') ∧ f_X10_works_4 (m + 1) bI (nI s) (nI c) τ = some (r, τ') ∧ WR u σ τ σ' τ' := by
  obtain ⟨g1, g2, g3, g4, z0, z1, z2, e1, e2, e3, e4⟩ := h
  have ec : (nI c).toInt = (c : Int) := i_nI (by omega)
  have s1 : s = 0 + 1 := by omega
  rw [s1] at e1 e4
  have le : nI c ≤ nI c := by rw [i_le]; omega
  refine ⟨σ (70 + u) 0, up σ (52 + u) 1 (nI 0), τ, ?_, ?_, ?_⟩
  · rw [f_X1_workOut_10]
    unfold f_X1_workOut_10_b
    rw [show 40 + u + 8 = 48 + u by omega, g1, if_pos le, x_pop hu (s := 0) (by omega) e1, bnd_s]
  · rw [f_X10_works_4]
    unfold f_X10_works_4_b
    rw [ck_k eb (by omega), rd_k eb, g3, if_pos le, ck_k (k := 0) ti_0 (by omega), rd_k (k := 0) ti_0, e4 0 (by omega)]
  · exact ⟨fun k p q => up_row p, fun _ _ => rfl⟩
theorem works_eq {u c : Nat} (hu : u < 2) (hc : c ≤ 60) {bI : Int32} (eb : bI.toInt = ((166 + 121 * u : Nat) : Int)) {xs a w : Nat → Int32} (H : Cod c xs a w) (y0 y1 y2 : Int32) : ∀ (d j n m s : Nat) (σ τ : Sg), j + d = c → d < n → d < m → WS u c j s xs a w y0 y1 y2 σ τ → ∃ r σ' τ', f_X1_workOut_10 n (40 + u) y0 y1 y2 (nI j) σ = some (r, σ') ∧ f_X10_works_4 m bI (nI s) (nI j) τ = some (r, τ') ∧ WR u σ τ σ' τ' := by
  intro d
  induction d with
  | zero =>
    intro j n m s σ τ hj hn hm h
    obtain ⟨n, rfl⟩ : ∃ k, n = k + 1 := ⟨n - 1, by omega⟩
    obtain ⟨m, rfl⟩ : ∃ k, m = k + 1 := ⟨m - 1, by omega⟩
    have hjc : j = c := by omega
    subst hjc
    exact works_zero hu hc eb H.2 y0 y1 y2 n m s σ τ h
  | succ d ih =>
    intro j n m s σ τ hj hn hm h
    obtain ⟨n, rfl⟩ : ∃ k, n = k + 1 := ⟨n - 1, by omega⟩
    obtain ⟨m, rfl⟩ : ∃ k, m = k + 1 := ⟨m - 1, by omega⟩
    obtain ⟨g1, g2, g3, g4, z0, z1, z2, e1, e2, e3, e4⟩ := id h
    obtain ⟨c1, c2, c3⟩ := H.1 j (by omega)
    have dpj : dp a (j + 1) = if a j = 1 ∨ a j = 2 then dp a j + 1 else if a j = 3 then dp a j else dp a j - 1 := by rw [dp]
    have G2 := g2 j (by omega)
    have G4 := g4 j (by omega)
    have go : ∀ (s' : Nat) (v : Int32) (σ1 : Sg), (∀ k, k ≠ 52 + u → σ1 k = σ k) → s' ≤ s → ((s' + 1 : Nat) : Int) = dp a (j + 1) → ∃ r σ' τ', f_X1_workOut_10 n (40 + u) y0 y1 y2 (nI (j + 1)) (up (up σ1 (70 + u) s' v) (52 + u) 1 (nI (s' + 1))) = some (r, σ') ∧ f_X10_works_4 m bI (nI (s' + 1)) (nI (j + 1)) (up τ 11 s' v) = some (r, τ') ∧ WR u σ τ σ' τ' := by
      intro s' v σ1 q1 q2 q3
      obtain ⟨w1, w2⟩ := h.next hu v q1 q2 q3
      obtain ⟨r, σ', τ', p1, p2, p3⟩ := ih (j + 1) n m (s' + 1) _ _ (by omega) (by omega) (by omega) w1
      exact ⟨r, σ', τ', p1, p2, w2.tr p3⟩
    rcases c1 with ⟨q1, q2, q3⟩ | ⟨q1, q2⟩ | ⟨q1, q2⟩ | ⟨q1, q2⟩
    · rw [x_wo_num hu (by omega) (by omega) hc n y0 y1 y2 (xs j) g1 G2 e1 q3, m_wo_push hu (by omega) (by omega) hc eb m (xs j) g3 (Or.inl ⟨by rw [G4.1, q1], by rw [G4.2, q2]⟩)]
      exact go s (xs j) σ (fun _ _ => rfl) (by omega) (by rw [dpj, if_pos (Or.inl q1), ← e2]; omega)
    · have key : ∀ (k : Nat) (v : Int32), k < 3 → w j = nI k → τ 10 k = v → ((v = y0 ∧ xs j = -1) ∨ (v = y1 ∧ xs j = -2) ∨ (v = y2 ∧ xs j = -3)) → ∃ r σ' τ', f_X1_workOut_10 (n + 1) (40 + u) y0 y1 y2 (nI j) σ = some (r, σ') ∧ f_X10_works_4 (m + 1) bI (nI s) (nI j) τ = some (r, τ') ∧ WR u σ τ σ' τ' := by
        intro k v k1 k2 k3 k4
        rw [x_wo_arg hu (by omega) (by omega) hc n y0 y1 y2 (xs j) v g1 G2 e1 k4, m_wo_push hu (by omega) (by omega) hc eb m v g3 (Or.inr ⟨by rw [G4.1, q1], k, k1, by rw [G4.2, k2], k3⟩)]
        exact go s v σ (fun _ _ => rfl) (by omega) (by rw [dpj, if_pos (Or.inr q1), ← e2]; omega)
      rcases q2 with ⟨r1, r2⟩ | ⟨r1, r2⟩ | ⟨r1, r2⟩
      · exact key 0 y0 (by omega) r1 z0 (Or.inl ⟨rfl, r2⟩)
      · exact key 1 y1 (by omega) r1 z1 (Or.inr (Or.inl ⟨rfl, r2⟩))
      · exact key 2 y2 (by omega) r1 z2 (Or.inr (Or.inr ⟨rfl, r2⟩))
    · have d1 := c2 q1
      obtain ⟨s', rfl⟩ : ∃ k, s = k + 1 := ⟨s - 1, by omega⟩
      have n12 : ¬ (a j = 1 ∨ a j = 2) := by rw [q1]; decide
      rw [x_wo_not hu (s := s') (by omega) (by omega) hc n y0 y1 y2 g1 (by rw [G2, q2]) e1, m_wo_not hu (s := s') (by omega) (by omega) hc eb m g3 (by rw [G4.1, q1]), e4 s' (by omega)]
      exact go s' _ _ (fun k hk => up_row hk) (by omega) (by rw [dpj, if_neg n12, if_pos q1, ← e2])
    · have d2 := c3 q1
      obtain ⟨s', rfl⟩ : ∃ k, s = k + 2 := ⟨s - 2, by omega⟩
      have n12 : ¬ (a j = 1 ∨ a j = 2) ∧ a j ≠ 3 := by
        rcases q1 with q | q | q | q | q | q | q | q | q | q <;> rw [q] <;> decide
      obtain ⟨r, _, jr2⟩ := join_eq q1 (σ (70 + u) s') (σ (70 + u) (s' + 1)) σ τ
      have jr1 : ∀ σ1, f_X1_join (σ (70 + u) s') (a j) (σ (70 + u) (s' + 1)) σ1 = some (r, σ1) := by
        intro σ1
        obtain ⟨r', A, B⟩ := join_eq q1 (σ (70 + u) s') (σ (70 + u) (s' + 1)) σ1 τ
        rw [A]; rw [jr2] at B; cases B; rfl
      rw [x_wo_op hu (s := s') (by omega) (by omega) hc n y0 y1 y2 (a j) r q1 g1 (by rw [G2, q2]) e1 jr1, m_wo_op hu (s := s') (by omega) (by omega) hc eb m (a j) r q1 g3 G4.1 (by rw [← e4 s' (by omega), ← e4 (s' + 1) (by omega)]; exact jr2)]
      exact go s' r _ (fun k hk => by rw [up_row hk, up_row hk]) (by omega) (by rw [dpj, if_neg n12.1, if_neg n12.2, ← e2]; omega)
