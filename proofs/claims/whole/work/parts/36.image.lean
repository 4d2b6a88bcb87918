theorem LnOK_congr {f g : Nat → Int32} {d : Int32} (h : LnOK f d) (e : ∀ i, i < 7 → g i = f i) : LnOK g d := by
  unfold LnOK at h ⊢
  rw [e 0 (by decide), e 1 (by decide), e 2 (by decide), e 3 (by decide), e 4 (by decide), e 5 (by decide)]
  exact h
/-- a board's data elsewhere -/
theorem BdR_copy {g g' : Nat → Int32} {ln ln' : Nat → Nat → Int32} {ink ink' : Nat → Int32} {tn tn' : Int32} {tp tp' : Nat → Int32} {wn wn' : Int32} {wt wt' : Nat → Int32} {th cn th' cn' : Nat → Int32} {cs cs' : Nat → Nat → Int32} {r r' : Nat → Int32} (h : BdR g ln ink tn tp wn wt th cn cs r) (hg : g' 1 = g 1 ∧ g' 2 = g 2 ∧ g' 3 = g 3 ∧ g' 4 = g 4 ∧ g' 6 = g 6) (hl : ∀ l, l < 10 → ∀ f, f < 7 → ln' l f = ln l f) (hi : ∀ p, p < 5 → ink' p = ink p) (ht : ∀ t : Nat, t ≤ 60 → tn = nI t → tn' = nI t ∧ ∀ j, j < t → tp' j = tp j) (hw : ∀ t : Nat, t ≤ 24 → wn = nI t → wn' = nI t ∧ ∀ j, j < t → wt' j = wt j) (hc : ∀ u, u < 2 → th' u = th u ∧ cn' u = cn u ∧ ∀ c : Nat, c ≤ 60 → cn u = nI c → ∀ j, j < c → cs' u j = cs u j) (hr : ∀ j, j < 408 → r' j = r j) : BdR g' ln' ink' tn' tp' wn' wt' th' cn' cs' r' := by
  obtain ⟨a1, a2, ⟨n, hn, e1, e2, a3⟩, a4, ⟨t, b1, b2, b3, b4⟩, ⟨v, d1, d2, d3, d4⟩, a7⟩ := h
  obtain ⟨g1, g2, g3, g4, g6⟩ := hg
  obtain ⟨t1, t2⟩ := ht t b1 b2
  obtain ⟨w1, w2⟩ := hw v d1 d2
  refine ⟨?_, ?_, ⟨n, hn, by rw [g1]; exact e1, by rw [hr 2 (by decide)]; exact e2, ?_⟩, ?_, ⟨t, b1, t1, by rw [hr 5 (by decide)]; exact b3, fun j hj => ?_⟩, ⟨v, d1, w1, by rw [hr 6 (by decide)]; exact d3, fun j hj => ?_⟩, fun u hu => ?_⟩
  · unfold Hd at a1 ⊢
    rw [g2, g3, g4, g6, hr 0 (by decide), hr 3 (by decide), hr 4 (by decide), hr 1 (by decide)]
    exact a1
  · intro p hp; rw [hr _ (by omega), hi p hp]; exact a2 p hp
  · intro l hl2
    refine ⟨?_, fun f hf => ?_⟩
    · rw [g2]; exact LnOK_congr (a3 l hl2).1 (fun i hi => hl l (by omega) i hi)
    · rw [hr _ (by omega), hl l (by omega) f hf]; exact (a3 l hl2).2 f hf
  · intro l hl2; rw [hl l hl2 6 (by decide)]; exact a4 l hl2
  · show r' (82 + j) = _; rw [hr _ (by omega), t2 j hj]; exact b4 j hj
  · show r' (142 + j) = _; rw [hr _ (by omega), w2 j hj]; exact d4 j hj
  · obtain ⟨c, c1, c2, c3⟩ := a7 u hu
    obtain ⟨k1, k2, k3⟩ := hc u hu
    refine ⟨c, c1, k2.trans c2, ?_⟩
    rw [k1]
    rcases c3 with ⟨q1, q2⟩ | ⟨q1, q2, q3, q4⟩
    · left; exact ⟨q1, by show r' _ = 0; rw [hr _ (by omega)]; exact q2⟩
    · right
      refine ⟨q1, q2, by show r' _ = _; rw [hr _ (by omega)]; exact q3, Cod_congr q4 (fun j hj => k3 c c1 c2 j hj) (fun j hj => hr _ (by omega)) (fun j hj => hr _ (by omega))⟩
theorem m_same_n {a b : Nat} (ha : a < 2147483648) (hb : b < 2147483648) (h : nI a = nI b) : a = b := by
  rw [i_eq, i_nI ha, i_nI hb] at h; omega
theorem eq_image {σ τ : Sg} (h : Sim σ τ) : Ok (f_X9_image σ) (f_X10_image τ) := by
  obtain ⟨h1, h2, h3, h4, h5, h6⟩ := id h
  obtain ⟨a1, a2, ⟨n, hn, e1, e2, a3⟩, a4, ⟨t, b1, b2, b3, b4⟩, ⟨v, d1, d2, d3, d4⟩, a7⟩ := id h1
  obtain ⟨σ', q1, q2, q3, q4, q5, q6, q7, q8⟩ := x_bcopy (o0 := 2) (o1 := 1) (Or.inr ⟨rfl, rfl⟩) σ (fun l hl => a4 l hl) b1 d1 b2 d2 (fun u hu => by
    obtain ⟨c, c1, c2, c3⟩ := a7 u hu
    refine ⟨c, c1, c2, ?_⟩
    rcases c3 with c3 | c3
    · exact Or.inl c3.1
    · exact Or.inr c3.1)
  obtain ⟨τ', m1, m2, m3⟩ := m_copyAll (o0 := 1) (o1 := 2) (by decide) τ
  unfold f_X9_image f_X10_image
  rw [q1, m1]
  simp only [bnd_s, lt_a, up_s]
  rw [q2 0 (by omega), m2 0 (by decide), h2]
  refine Ok.mk ⟨?_, ?_, fun _ => ?_, fun k a b => ?_, fun u hu => ?_, ?_⟩
  · refine Bd1.of (ln := fun l => σ (20 + l)) (th := fun u => σ (40 + u) 0) (cn := fun u => σ (48 + u) 1) (cs := fun u => σ (66 + u)) ?_ (fun l hl => by rw [up_row (by omega), q2 _ (by omega)]) (fun u hu => by rw [up_row (by omega), q2 _ (by omega)]) (fun u hu => by rw [up_row (by omega), q2 _ (by omega)]) (fun u hu => by rw [up_row (by omega), q2 _ (by omega)])
    simp (disch := omega) only [up_row]
    rw [q2 1 (by omega), q2 16 (by omega), q2 44 (by omega), q2 62 (by omega), q2 46 (by omega), q2 64 (by omega), m2 1 (by decide)]
    exact h1
  · rw [up_s, up_s]
  · unfold Bd2
    simp (disch := omega) only [up_row]
    refine BdR_copy h1 q3 (fun l hl f hf => ?_) q5 (fun t' ht' e => ?_) (fun t' ht' e => ?_) (fun u hu => ?_) m3
    · exact q4 l hl f hf
    · obtain rfl : t' = t := m_same_n (by omega) (by omega) (e.symm.trans b2)
      exact q6
    · obtain rfl : t' = v := m_same_n (by omega) (by omega) (e.symm.trans d2)
      exact q7
    · exact q8 u hu
  · rw [up_row (by decide), up_row (by decide), q2 8 (by omega), m2 4 (by decide)]; exact h4 k a b
  · rw [up_row (by omega), up_row (by omega), up_row (by omega), up_row (by omega), up_row (by omega), up_row (by omega), q2 _ (by omega), q2 _ (by omega), q2 _ (by omega), m2 5 (by decide), m2 6 (by decide), m2 7 (by decide)]
    exact h5 u hu
  · unfold Tr
    rw [up_row (by decide), up_row (by decide), up_i (by decide), up_row (by decide), q2 57 (by omega), q2 75 (by omega), m2 0 (by decide), m2 13 (by decide)]
    exact h6
theorem eq_restore {σ τ : Sg} (h : Sim σ τ) : Ok (f_X9_restore σ) (f_X10_restore τ) := by
  obtain ⟨h1, h2, h3, h4, h5, h6⟩ := id h
  unfold f_X9_restore f_X10_restore
  simp only [x_err2, m_err2, bnd_s]
  rw [h2]
  by_cases hz : τ 0 3 = 0
  · rw [if_pos hz, if_pos hz]
    exact Ok.err h 2 (by decide)
  rw [if_neg hz, if_neg hz]
  have h3 := h3 (by rw [h2]; exact hz)
  obtain ⟨a1, a2, ⟨n, hn, e1, e2, a3⟩, a4, ⟨t, b1, b2, b3, b4⟩, ⟨v, d1, d2, d3, d4⟩, a7⟩ := id h3
  obtain ⟨σ', q1, q2, q3, q4, q5, q6, q7, q8⟩ := x_bcopy (o0 := 1) (o1 := 2) (Or.inl ⟨rfl, rfl⟩) σ (fun l hl => a4 l hl) b1 d1 b2 d2 (fun u hu => by
    obtain ⟨c, c1, c2, c3⟩ := a7 u hu
    refine ⟨c, c1, c2, ?_⟩
    rcases c3 with c3 | c3
    · exact Or.inl c3.1
    · exact Or.inr c3.1)
  obtain ⟨τ', m1, m2, m3⟩ := m_copyAll (o0 := 2) (o1 := 1) (by decide) τ
  rw [q1, m1]
  simp only [bnd_s, bnd_s, lt_a, if01, ckb_01, rd_0, rd_1, rd_2, rd_3, rd_4, rd_5, rd_6, rd_7, rd_8, rd_9, rd_10, rd_11, rd_12, rd_13, rd_14, rd_15, ck_0, ck_1, ck_2, ck_3, ck_4, ck_5, ck_6, ck_7, ck_8, ck_9, ck_10, ck_11, ck_12, ck_13, ck_14, ck_15, tn_0, tn_1, tn_2, tn_3, tn_4, tn_5, tn_6, tn_7, tn_8, tn_9, tn_10, tn_11, tn_12, tn_13, tn_14, tn_15]
  have hb : Bd1 σ' τ' := by
    unfold Bd1
    refine BdR_copy h3 q3 (fun l hl f hf => q4 l hl f hf) q5 (fun t' ht' e => ?_) (fun t' ht' e => ?_) (fun u hu => q8 u hu) m3
    · obtain rfl : t' = t := m_same_n (by omega) (by omega) (e.symm.trans b2)
      exact q6
    · obtain rfl : t' = v := m_same_n (by omega) (by omega) (e.symm.trans d2)
      exact q7
  rw [hb.1.1]
  refine Ok.mk ⟨hb, by rw [q2 0 (by omega), m2 0 (by decide)]; exact h2, fun _ => ?_, fun k a b => ?_, fun u hu => ?_, ?_⟩
  · unfold Bd2
    rw [q2 2 (by omega), q2 17 (by omega), q2 45 (by omega), q2 63 (by omega), q2 47 (by omega), q2 65 (by omega), m2 2 (by decide)]
    exact BdR_congr h3 (fun l hl => q2 _ (by omega)) (fun u hu => by rw [q2 _ (by omega)]) (fun u hu => by rw [q2 _ (by omega)]) (fun u hu => by rw [q2 _ (by omega)])
  · rw [q2 8 (by omega), m2 4 (by decide)]; exact h4 k a b
  · rw [q2 _ (by omega), q2 _ (by omega), q2 _ (by omega), m2 5 (by decide), m2 6 (by decide), m2 7 (by decide)]
    exact h5 u hu
  · unfold Tr
    rw [q2 57 (by omega), q2 75 (by omega), m2 0 (by decide), m2 13 (by decide)]
    exact h6
