theorem seek_eq {n N : Nat} (hN : 1 ≤ N) (hN2 : N ≤ 12) {D : Int32} {σ τ : Sg} (h : Vw n D σ τ) : ∃ any best least σ' τ', f_X5_seek (nI N) D σ = some (any, σ') ∧ f_X10_roomAt (nI N) τ = some (best, τ') ∧ eqX σ σ' ∧ eqM τ τ' ∧ RmI n N D (13 - N) any best least σ' τ' := by
  obtain ⟨any, best, least, σ', τ', w1, w2, w⟩ := seek_loop hN hN2 (13 - N) 0 fuN fuN 0 (-1) 0 σ τ (by omega) (by have := fu_le; omega) (by have := fu_le; omega) h (Or.inl ⟨rfl, rfl, fun c hc => absurd hc (by omega)⟩)
  rw [nI_0] at w1 w2
  exact ⟨any, best, least, σ', τ', w1, w2, w⟩
theorem rem7 {D : Int32} (h : 0 ≤ D.toInt) : True := trivial
theorem eq_room {σ τ : Sg} (h : Sim σ τ) (a b : Int32) : Ok (f_X9_room a b σ) (f_X10_room a b τ) := by
  unfold f_X9_room f_X10_room
  simp only [x_isIn, m_in, x_err1, m_err1, bnd_s, if01]
  by_cases c1 : 1 ≤ a ∧ a ≤ 12
  · rw [if_pos c1, if_pos c1]
    by_cases c2 : 0 ≤ b ∧ b ≤ 3
    · rw [if_pos c2, if_pos c2]
      simp only [i_le, ti_0, ti_1, ti_3, ti_12] at c1 c2
      obtain ⟨N, hN, rfl⟩ := nI_ofi (a := a) (n := 13) (by omega) (by omega)
      have eN : (nI N).toInt = (N : Int) := i_nI (by omega)
      obtain ⟨n, hv⟩ := h.vw
      have h10 := hv.1
      obtain ⟨any, best, least, σ', τ', w1, w2, w3, w4, w5⟩ := seek_eq (N := N) (by omega) (by omega) hv
      have h' := Sim_eq h w3 w4
      have hv' : Vw n (σ 1 2) σ' τ' := hv.eq w3 w4
      rw [w1, w2, bnd_s, bnd_s]
      rcases w5 with ⟨i1, i2, i3⟩ | ⟨i1, c, i2, i3, i4, i5, i6, i7, i8⟩
      · rw [i1, i2, if_pos rfl, if_neg (show ¬ (0 : Int32) ≤ -1 by decide), x_err2, m_err2, bnd_s, bnd_s]
        exact Ok.err h' 2 (by decide)
      · have ec : (nI c).toInt = (c : Int) := i_nI (by omega)
        rw [i1, i3, if_neg (show ¬ (1 : Int32) = 0 by decide), if_pos (show (0 : Int32) ≤ nI c by rw [i_le, ec, ti_0]; omega)]
        unfold f_X10_window
        rw [win_eq N (by omega) c (by omega) (by omega), bnd_s, (linesOn_eq hv' _).2, bnd_s, i4, i5, i6]
        by_cases b0 : b = 0
        · rw [if_pos b0, if_pos b0]
          obtain ⟨τ2, x1, x2⟩ := i8 τ' eqM.rf
          rw [x1, bnd_s]
          exact Ok.mk (Sim_eq h' eqX.rf x2)
        · rw [if_neg b0, if_neg b0]
          by_cases b1 : b = 1
          · rw [if_pos b1, if_pos b1]; exact Ok.mk h'
          · rw [if_neg b1, if_neg b1]
            by_cases b2 : b = 2
            · rw [if_pos b2, if_pos b2]; exact Ok.mk h'
            · rw [if_neg b2, if_neg b2, ck_0, rd_0]
              obtain ⟨S, s1, s2⟩ := loS_lt h10 σ' (nI (winN c N))
              rw [s2, x_bits s1, m_bits s1, bnd_s, bnd_s, hv'.2.2.2.1, w3 1 rfl]
              obtain ⟨v, σ2, τ2, y1, y2, y3, y4, _⟩ := gives_eq hv' (u := 1) (by omega) (nI N) (irm (σ 1 2) 7) (nI (pcA S 12))
              have e1 : nI 1 = (1 : Int32) := rfl
              rw [e1] at y1 y2
              rw [y1, y2, bnd_s, bnd_s]
              exact Ok.mk (Sim_eq h' y3 y4)
    · rw [if_neg c2, if_neg c2]; exact Ok.err h 1 (by decide)
  · rw [if_neg c1, if_neg c1]; exact Ok.err h 1 (by decide)
/-! when -/
theorem fb_loop {n N : Nat} (hN : 1 ≤ N) (hN2 : N ≤ 12) {σ τ : Sg} (h : Vw n (σ 1 2) σ τ) : ∀ (d c m : Nat) (acc : Int32), c + d = 13 - N → d < m → (0 ≤ acc.toInt ∧ (acc.toInt = 1000000 ∨ ∃ c', c' < c ∧ acc.toInt = LB n σ (σ 1 2) (nI (winN c' N))) ∧ ∀ c', c' < c → acc.toInt ≤ LB n σ (σ 1 2) (nI (winN c' N))) → ∃ r, f_X5_firstBehind_6 m (nI N) acc (nI c) σ = some (r, σ) ∧ 0 ≤ r.toInt ∧ (r.toInt = 1000000 ∨ ∃ c', c' < 13 - N ∧ r.toInt = LB n σ (σ 1 2) (nI (winN c' N))) ∧ ∀ c', c' < 13 - N → r.toInt ≤ LB n σ (σ 1 2) (nI (winN c' N)) := by
  intro d
  induction d with
  | zero =>
    intro c m acc hc hm inv
    obtain ⟨m, rfl⟩ : ∃ j, m = j + 1 := ⟨m - 1, by omega⟩
    obtain rfl : c = 13 - N := by omega
    have lt12 : (12 : Int32) < nI (13 - N) + nI N := by
      rw [nI_add, show 13 - N + N = 13 by clear inv; omega]; decide
    refine ⟨acc, ?_, inv⟩
    rw [f_X5_firstBehind_6]
    unfold f_X5_firstBehind_6_b
    rw [if_pos lt12]
  | succ d ih =>
    intro c m acc hc hm inv
    obtain ⟨m, rfl⟩ : ∃ j, m = j + 1 := ⟨m - 1, by omega⟩
    have nlt12 : ¬ (12 : Int32) < nI c + nI N := by
      rw [nI_add, i_lt, i_nI (by omega), ti_12]; omega
    obtain ⟨r, r1, r2⟩ := col_last h (nI (winN c N))
    have b := lbI_b (P := loP σ (nI (winN c N))) n (fun l hl => h.gb hl)
    rw [f_X5_firstBehind_6]
    unfold f_X5_firstBehind_6_b f_X9_columnsFrom
    rw [if_neg nlt12, win_eq N (by omega) c (by omega) (by omega), bnd_s, (linesOn_eq h _).1, bnd_s, r1, bnd_s, lt_a, lt_a, nI_1]
    refine ih (c + 1) m _ (by omega) (by omega) ?_
    obtain ⟨i1, i2, i3⟩ := inv
    have b1 : 0 ≤ LB n σ (σ 1 2) (nI (winN c N)) := b.1
    rw [i_mn, r2]
    by_cases q : LB n σ (σ 1 2) (nI (winN c N)) < acc.toInt
    · rw [if_pos q]
      refine ⟨b1, Or.inr ⟨c, by omega, rfl⟩, fun c' hc' => ?_⟩
      by_cases e : c' = c
      · subst e; exact Int.le_refl _
      · have := i3 c' (by omega); omega
    · rw [if_neg q]
      refine ⟨i1, ?_, fun c' hc' => ?_⟩
      · rcases i2 with z | ⟨c', z1, z2⟩
        · exact Or.inl z
        · exact Or.inr ⟨c', by omega, z2⟩
      · by_cases e : c' = c
        · subst e; omega
        · exact i3 c' (by omega)
theorem Vw.on {n : Nat} {D D' : Int32} {σ τ : Sg} (h : Vw n D σ τ) (h1 : D.toInt ≤ D'.toInt) (h2 : D'.toInt ≤ 20000) : Vw n D' σ (up τ 1 0 D') := by
  obtain ⟨n10, e1, e2, d0, dd, sp, a3, a4, a7⟩ := h
  refine ⟨n10, e1, by rw [up_i (by decide)]; exact e2, up_s, ⟨by omega, h2⟩, by rw [up_i (by decide)]; exact sp, fun l hl => ⟨LnOK_day (a3 l hl).1 h1, fun f hf => by rw [up_i (by omega)]; exact (a3 l hl).2 f hf⟩, a4, fun u hu => ?_⟩
  have : (fun j => up τ 1 0 D' 1 (166 + 121 * u + j)) = fun j => τ 1 (166 + 121 * u + j) := funext fun j => up_i (by omega)
  rw [this]
  exact a7 u hu
theorem LB_on {n : Nat} {D D' : Int32} {σ τ : Sg} (h : Vw n D σ τ) {k : Int} (hD : D'.toInt = D.toInt + k) (k0 : 0 ≤ k) (k1 : k ≤ 100) (w : Int32) (h2 : D'.toInt ≤ 20000) : LB n σ D' w = 0 ↔ LB n σ D w ≤ k := by
  have hon := h.on (D' := D') (by omega) h2
  have b := lbI_b (P := loP σ w) n (fun l hl => hon.gb hl)
  have e : LB n σ D' w = 0 ↔ LB n σ D' w ≤ 0 := by
    have := b.1
    unfold LB
    omega
  rw [e]
  unfold LB
  rw [lbI_le (Int.le_refl 0), lbI_le k0]
  have key : ∀ l, l < n → (gbI (σ (20 + l)) D' (σ 1 3) ≤ 0 ↔ gbI (σ (20 + l)) D (σ 1 3) ≤ k) := by
    intro l hl
    obtain ⟨_, ⟨k1', k1''⟩, _, _, ⟨k4, k4'⟩, _⟩ := (h.2.2.2.2.2.2.1 l hl).1
    have g := gb_on (sp := σ 1 3) k1' k1'' k4 k4' hD k0 k1 h.2.2.2.2.1.2
    have g2 := (hon.gb hl).1
    rw [← g]
    omega
  constructor
  · intro q l hl hp; exact (key l hl).mp (q l hl hp)
  · intro q l hl hp; exact (key l hl).mpr (q l hl hp)
theorem day_back {τ τ' : Sg} {x : Int32} (e : eqM (up τ 1 0 x) τ') : eqM τ (up τ' 1 0 (τ 1 0)) := by
  obtain ⟨m1, m2, m4, m5, m6, m7, m13, m3, m19⟩ := e
  have r : ∀ k, k ≠ 1 → up τ 1 0 x k = τ k := fun k hk => up_row hk
  refine ⟨?_, ?_, ?_, ?_, ?_, ?_, ?_, ?_, ?_⟩
  · rw [up_rs, m1, up_rs]
    funext j
    by_cases hj : j = 0
    · subst hj; rw [upd_e]
    · rw [upd_n hj, upd_n hj]
  · rw [up_row (by decide), m2, r 2 (by decide)]
  · rw [up_row (by decide), m4, r 4 (by decide)]
  · rw [up_row (by decide), m5, r 5 (by decide)]
  · rw [up_row (by decide), m6, r 6 (by decide)]
  · rw [up_row (by decide), m7, r 7 (by decide)]
  · rw [up_row (by decide), m13, r 13 (by decide)]
  · rw [up_k (by decide), m3, up_k (by decide)]
  · rw [up_k (by decide), m19, up_k (by decide)]
theorem day_next {τ τ' : Sg} {x y : Int32} (e : eqM (up τ 1 0 x) τ') : eqM (up τ 1 0 y) (up τ' 1 0 y) := by
  obtain ⟨m1, m2, m4, m5, m6, m7, m13, m3, m19⟩ := e
  have r : ∀ z k, k ≠ 1 → up τ 1 0 z k = τ k := fun z k hk => up_row hk
  refine ⟨?_, ?_, ?_, ?_, ?_, ?_, ?_, ?_, ?_⟩
  · rw [up_rs, m1, up_rs, up_rs]
    funext j
    by_cases hj : j = 0
    · subst hj; rw [upd_e, upd_e]
    · rw [upd_n hj, upd_n hj, upd_n hj]
  · rw [up_row (by decide), m2, r _ 2 (by decide), r _ 2 (by decide)]
  · rw [up_row (by decide), m4, r _ 4 (by decide), r _ 4 (by decide)]
  · rw [up_row (by decide), m5, r _ 5 (by decide), r _ 5 (by decide)]
  · rw [up_row (by decide), m6, r _ 6 (by decide), r _ 6 (by decide)]
  · rw [up_row (by decide), m7, r _ 7 (by decide), r _ 7 (by decide)]
  · rw [up_row (by decide), m13, r _ 13 (by decide), r _ 13 (by decide)]
  · rw [up_k (by decide), m3, up_k (by decide), up_k (by decide)]
  · rw [up_k (by decide), m19, up_k (by decide), up_k (by decide)]
/-- the days tried one by one -/
theorem when_loop {n N : Nat} (hN : 1 ≤ N) (hN2 : N ≤ 12) {σ τ : Sg} {w : Int32} (h : Vw n (σ 1 2) σ τ) (dl : (σ 1 2).toInt ≤ 9999) {r : Int32} (r0 : 0 ≤ r.toInt) (r1 : r.toInt = 1000000 ∨ ∃ c', c' < 13 - N ∧ r.toInt = LB n σ (σ 1 2) (nI (winN c' N))) (r2 : ∀ c', c' < 13 - N → r.toInt ≤ LB n σ (σ 1 2) (nI (winN c' N))) : ∀ (d k m : Nat) (best : Int32) (σk τk : Sg) (any least : Int32), k + d = 90 → d < m → (k : Int) ≤ r.toInt ∨ k = 0 → (∀ c', c' < 13 - N → (k : Int) ≤ LB n σ (σ 1 2) (nI (winN c' N))) → eqM (up τ 1 0 (σ 1 2 + nI k)) τk → f_X5_seek (nI N) (σ 1 2 + nI k) σ = some (any, σk) → eqX σ σk → RmI n N (σ 1 2 + nI k) (13 - N) any best least σk τk → ∃ τe, (if (90 : Int32) < r then f_X10_when_43 m (nI N) w (σ 1 2) (nI k) best τk = some (-1000000002, up τe 4 2 (τe 4 2 + 1)) else ∃ any' σe b, f_X5_seek (nI N) (σ 1 2 + r) σ = some (any', σe) ∧ eqX σ σe ∧ any' = 1 ∧ σe 4 1 = b ∧ f_X10_when_43 m (nI N) w (σ 1 2) (nI k) best τk = some (if w = 0 then r else b, τe)) ∧ eqM τ τe := by
  have d0 : τ 1 0 = σ 1 2 := h.2.2.2.1
  have dd := h.2.2.2.2.1.1
  have h10 := h.1
  have t90 : (90 : Int32).toInt = 90 := rfl
  intro d
  have eDk : ∀ k : Nat, k ≤ 90 → (σ 1 2 + nI k).toInt = (σ 1 2).toInt + (k : Int) := fun k hk => by
    have ek : (nI k).toInt = (k : Int) := i_nI (by omega)
    rw [i_add (by rw [ek]; omega) (by rw [ek]; omega), ek]
  have found : ∀ (k m : Nat) (best : Int32) (σk τk : Sg) (any least : Int32), k ≤ 90 → (∀ c', c' < 13 - N → (k : Int) ≤ LB n σ (σ 1 2) (nI (winN c' N))) → eqM (up τ 1 0 (σ 1 2 + nI k)) τk → f_X5_seek (nI N) (σ 1 2 + nI k) σ = some (any, σk) → eqX σ σk → RmI n N (σ 1 2 + nI k) (13 - N) any best least σk τk → (0 : Int32) ≤ best → ∃ τe, (if (90 : Int32) < r then f_X10_when_43 (m + 1) (nI N) w (σ 1 2) (nI k) best τk = some (-1000000002, up τe 4 2 (τe 4 2 + 1)) else ∃ any' σe b, f_X5_seek (nI N) (σ 1 2 + r) σ = some (any', σe) ∧ eqX σ σe ∧ any' = 1 ∧ σe 4 1 = b ∧ f_X10_when_43 (m + 1) (nI N) w (σ 1 2) (nI k) best τk = some (if w = 0 then r else b, τe)) ∧ eqM τ τe := by
    intro k m best σk τk any least hk90 hall em hx ex inv hb
    have ek : (nI k).toInt = (k : Int) := i_nI (by omega)
    rcases inv with ⟨i1, i2, i3⟩ | ⟨i1, c, i2, i3, i4, i5, i6, i7, i8⟩
    · rw [i2] at hb; exact absurd hb (by decide)
    · rw [LB_eq ex _ _ h10] at i7
      have i7' := (LB_on h (eDk k hk90) (by omega) (by omega) _ (by rw [eDk k hk90]; omega)).mp i7
      have a1 := r2 c i2
      have a2 := hall c i2
      have rk : r.toInt = (k : Int) := by
        rcases r1 with z | ⟨c', z1, z2⟩
        · omega
        · have := hall c' z1; omega
      have rk2 : r = nI k := by rw [i_eq, rk, ek]
      refine ⟨up τk 1 0 (σ 1 2), ?_, ?_⟩
      · rw [if_neg (show ¬ (90 : Int32) < r by rw [i_lt, rk, t90]; omega)]
        refine ⟨any, σk, nI c, by rw [rk2]; exact hx, ex, i1, i4, ?_⟩
        rw [f_X10_when_43]
        unfold f_X10_when_43_b f_X10_when_78
        rw [if_pos hb, ck_0, lt_a, tn_0, if_pos hb, rk2, i3]
        by_cases hw : w = 0
        · rw [if_pos hw, if_pos hw]
        · rw [if_neg hw, if_neg hw]
      · have := day_back em
        rw [d0] at this
        exact this
  induction d with
  | zero =>
    intro k m best σk τk any least hk hm hr hall em hx ex inv
    obtain ⟨m, rfl⟩ : ∃ j, m = j + 1 := ⟨m - 1, by omega⟩
    by_cases hb : (0 : Int32) ≤ best
    · exact found k m best σk τk any least (by omega) hall em hx ex inv hb
    · have ek : (nI k).toInt = (k : Int) := i_nI (by omega)
      rcases inv with ⟨i1, i2, i3⟩ | ⟨i1, c, i2, i3, i4, i5, i6, i7, i8⟩
      · refine ⟨up τk 1 0 (σ 1 2), ?_, ?_⟩
        · have r90 : (90 : Int) < r.toInt := by
            rcases r1 with z | ⟨c', z1, z2⟩
            · omega
            · have q1 := hall c' z1
              have q2 := i3 c' z1
              rw [LB_eq ex _ _ h10, LB_on h (eDk k (by omega)) (by omega) (by omega) _ (by rw [eDk k (by omega)]; omega)] at q2
              omega
          rw [if_pos (show (90 : Int32) < r by rw [i_lt, t90]; exact r90)]
          rw [f_X10_when_43]
          unfold f_X10_when_43_b f_X10_when_78
          rw [if_neg hb, if_pos (show (90 : Int32) ≤ nI k by rw [i_le, ek, t90]; omega), ck_0, lt_a, tn_0, if_neg hb, m_err2, bnd_s]
        · have := day_back em
          rw [d0] at this
          exact this
      · have ec : (nI c).toInt = (c : Int) := i_nI (by omega)
        exact absurd (show (0 : Int32) ≤ best by rw [i3, i_le, ec, ti_0]; omega) hb
  | succ d ih =>
    intro k m best σk τk any least hk hm hr hall em hx ex inv
    obtain ⟨m, rfl⟩ : ∃ j, m = j + 1 := ⟨m - 1, by omega⟩
    by_cases hb : (0 : Int32) ≤ best
    · exact found k m best σk τk any least (by omega) hall em hx ex inv hb
    · have ek : (nI k).toInt = (k : Int) := i_nI (by omega)
      rcases inv with ⟨i1, i2, i3⟩ | ⟨i1, c, i2, i3, i4, i5, i6, i7, i8⟩
      · have hall1 : ∀ c', c' < 13 - N → ((k + 1 : Nat) : Int) ≤ LB n σ (σ 1 2) (nI (winN c' N)) := by
          intro c' z1
          have q2 := i3 c' z1
          rw [LB_eq ex _ _ h10, LB_on h (eDk k (by omega)) (by omega) (by omega) _ (by rw [eDk k (by omega)]; omega)] at q2
          omega
        have dk : τk 1 0 = σ 1 2 + nI k := by rw [em.1, up_s]
        have dk1 : σ 1 2 + nI k + 1 = σ 1 2 + nI (k + 1) := by rw [Int32.add_assoc, nI_1]
        have hon := h.on (D' := σ 1 2 + nI (k + 1)) (by rw [eDk (k + 1) (by omega)]; omega) (by rw [eDk (k + 1) (by omega)]; omega)
        have em1 := day_next (y := σ 1 2 + nI (k + 1)) em
        obtain ⟨any', best', least', σ', τ', w1, w2, w3, w4, w5⟩ := seek_eq (N := N) hN hN2 (hon.eq eqX.rf em1)
        rw [f_X10_when_43]
        unfold f_X10_when_43_b
        rw [if_neg hb, if_neg (show ¬ (90 : Int32) ≤ nI k by rw [i_le, ek, t90]; omega), ck_0, ck_0, lt_a, tn_0, rd_0, dk, dk1, lt_a, nI_1, w2, bnd_s]
        refine ih (k + 1) m best' σ' τ' any' least' (by omega) (by omega) ?_ hall1 (em1.tr w4) w1 w3 w5
        rcases r1 with z | ⟨c', z1, z2⟩
        · left; omega
        · left; have := hall1 c' z1; omega
      · have ec : (nI c).toInt = (c : Int) := i_nI (by omega)
        exact absurd (show (0 : Int32) ≤ best by rw [i3, i_le, ec, ti_0]; omega) hb
theorem eq_when {σ τ : Sg} (h : Sim σ τ) (a b : Int32) : Ok (f_X9_when a b σ) (f_X10_when a b τ) := by
  unfold f_X9_when f_X10_when
  simp only [x_isIn, m_in, x_err1, m_err1, x_err2, bnd_s, if01]
  by_cases c1 : 1 ≤ a ∧ a ≤ 12
  · rw [if_pos c1, if_pos c1]
    by_cases c2 : 0 ≤ b ∧ b ≤ 1
    · rw [if_pos c2, if_pos c2]
      simp only [i_le, ti_1, ti_12] at c1
      obtain ⟨N, hN, rfl⟩ := nI_ofi (a := a) (n := 13) (by omega) (by omega)
      have eN : (nI N).toInt = (N : Int) := i_nI (by omega)
      obtain ⟨n, hv⟩ := h.vw
      have h10 := hv.1
      have d0 : τ 1 0 = σ 1 2 := hv.2.2.2.1
      have dl := h.1.1.2.2.1
      obtain ⟨r, f1, f2, f3, f4⟩ := fb_loop (N := N) (by omega) (by omega) hv (13 - N) 0 fuN 1000000 (by omega) (by have := fu_le; omega) ⟨by decide, Or.inl rfl, fun c hc => absurd hc (by omega)⟩
      rw [nI_0] at f1
      have fb : f_X5_firstBehind (nI N) σ = some (r, σ) := f1
      obtain ⟨any, best, least, σ', τ', w1, w2, w3, w4, w5⟩ := seek_eq (N := N) (by omega) (by omega) hv
      have e0 : σ 1 2 + nI 0 = σ 1 2 := by rw [nI_0, Int32.add_zero]
      have u0 : up τ 1 0 (σ 1 2) = τ := by
        funext k j
        by_cases hk : k = 1
        · subst hk
          by_cases hj : j = 0
          · subst hj; rw [up_s, d0]
          · rw [up_i hj]
        · rw [up_k hk]
      obtain ⟨τe, g1, g2⟩ := when_loop (w := b) (by omega) (by omega) hv dl f2 f3 f4 90 0 fuN best σ' τ' any least (by omega) (by have := fu_le; omega) (Or.inr rfl) (fun c hc => (lbI_b (P := loP σ (nI (winN c N))) n (fun l hl => hv.gb hl)).1) (by rw [e0, u0]; exact w4) (by rw [e0]; exact w1) w3 (by rw [e0]; exact w5)
      have he := Sim_eq h eqX.rf g2
      rw [fb, bnd_s, ck_0, rd_0, d0, lt_a, w2, bnd_s, ← nI_0]
      by_cases q : (90 : Int32) < r
      · rw [if_pos q] at g1
        rw [if_pos q, g1]
        exact Ok.err he 2 (by decide)
      · rw [if_neg q] at g1
        obtain ⟨any', σe, bb, s1, s2, s3, s4, s5⟩ := g1
        rw [if_neg q, s1, bnd_s, s3, if_neg (show ¬ (1 : Int32) = nI 0 by decide), s5, s4, nI_0]
        have he2 := Sim_eq h s2 g2
        by_cases hb : b = 0
        · rw [if_pos hb, if_pos hb]; exact Ok.mk he2
        · rw [if_neg hb, if_neg hb]; exact Ok.mk he2
    · rw [if_neg c2, if_neg c2]; exact Ok.err h 1 (by decide)
  · rw [if_neg c1, if_neg c1]; exact Ok.err h 1 (by decide)
