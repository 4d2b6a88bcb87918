/-! the relation of the two states -/
def Sq (cap : Nat) (n : Int32) (f : Nat → Int32) (n' : Int32) (f' : Nat → Int32) : Prop := ∃ t : Nat, t ≤ cap ∧ n = nI t ∧ n' = nI t ∧ ∀ j, j < t → f' j = f j
def Hd (g r : Nat → Int32) : Prop := r 0 = g 2 ∧ 0 ≤ (g 2).toInt ∧ (g 2).toInt ≤ 9999 ∧ r 3 = g 3 ∧ (g 3 = 0 ∨ g 3 = 1) ∧ r 4 = g 4 ∧ 0 ≤ (g 4).toInt ∧ (g 4).toInt ≤ 99999 ∧ r 1 = g 6
def LnOK (f : Nat → Int32) (day : Int32) : Prop := (0 ≤ (f 0).toInt ∧ (f 0).toInt ≤ 6) ∧ (0 ≤ (f 1).toInt ∧ (f 1).toInt ≤ 9) ∧ (0 ≤ (f 2).toInt ∧ (f 2).toInt < 4096) ∧ (0 ≤ (f 3).toInt ∧ (f 3).toInt ≤ 5) ∧ (0 ≤ (f 4).toInt ∧ (f 4).toInt ≤ day.toInt) ∧ (f 5 = 0 ∨ f 5 = 1)
def Lns (n : Nat) (ln : Nat → Nat → Int32) (day : Int32) (r : Nat → Int32) : Prop := ∀ l, l < n → LnOK (ln l) day ∧ ∀ f, f < 7 → r (12 + 7 * l + f) = ln l f
def Gn (ln : Nat → Nat → Int32) : Prop := ∀ l, l < 10 → (ln l 6 = 0 ∨ ln l 6 = 1)
def Ik (ink r : Nat → Int32) : Prop := ∀ p, p < 5 → r (7 + p) = ink p ∧ 0 ≤ (ink p).toInt ∧ (ink p).toInt ≤ 99
def opS (a : Int32) : Prop := a = 124 ∨ a = 38 ∨ a = 60 ∨ a = 61 ∨ a = 62 ∨ a = 43 ∨ a = 45 ∨ a = 42 ∨ a = 47 ∨ a = 37
def Cod1 (x a w : Int32) : Prop := (a = 1 ∧ x = w ∧ 0 ≤ x.toInt) ∨ (a = 2 ∧ ((w = 0 ∧ x = -1) ∨ (w = 1 ∧ x = -2) ∨ (w = 2 ∧ x = -3))) ∨ (a = 3 ∧ x = -33) ∨ (opS a ∧ x = -a)
def dp (a : Nat → Int32) : Nat → Int
  | 0 => 0
  | j + 1 => if a j = 1 ∨ a j = 2 then dp a j + 1 else if a j = 3 then dp a j else dp a j - 1
def Cod (c : Nat) (x a w : Nat → Int32) : Prop := (∀ j, j < c → Cod1 (x j) (a j) (w j) ∧ (a j = 3 → 1 ≤ dp a j) ∧ (opS (a j) → 2 ≤ dp a j)) ∧ dp a c = 1
def Cd (th cn : Int32) (cs r : Nat → Int32) : Prop := ∃ c : Nat, c ≤ 60 ∧ cn = nI c ∧ ((th = 0 ∧ r 0 = 0) ∨ (th = 1 ∧ 0 < c ∧ r 0 = nI c ∧ Cod c cs (fun j => r (1 + j)) (fun j => r (61 + j))))
def BdR (g : Nat → Int32) (ln : Nat → Nat → Int32) (ink : Nat → Int32) (tn : Int32) (tp : Nat → Int32) (wn : Int32) (wt : Nat → Int32) (th cn : Nat → Int32) (cs : Nat → Nat → Int32) (r : Nat → Int32) : Prop :=
  Hd g r ∧ Ik ink r ∧ (∃ n : Nat, n ≤ 10 ∧ g 1 = nI n ∧ r 2 = nI n ∧ Lns n ln (g 2) r) ∧ Gn ln ∧ Sq 60 tn tp (r 5) (fun j => r (82 + j)) ∧ Sq 24 wn wt (r 6) (fun j => r (142 + j)) ∧ ∀ u, u < 2 → Cd (th u) (cn u) (cs u) (fun j => r (166 + 121 * u + j))
def Bd1 (σ τ : Sg) : Prop := BdR (σ 1) (fun l => σ (20 + l)) (σ 16) (σ 44 1) (σ 62) (σ 46 1) (σ 64) (fun u => σ (40 + u) 0) (fun u => σ (48 + u) 1) (fun u => σ (66 + u)) (τ 1)
def Bd2 (σ τ : Sg) : Prop := BdR (σ 2) (fun l => σ (30 + l)) (σ 17) (σ 45 1) (σ 63) (σ 47 1) (σ 65) (fun u => σ (42 + u) 0) (fun u => σ (50 + u) 1) (fun u => σ (68 + u)) (τ 2)
def Er (σ τ : Sg) : Prop := ∀ k, 1 ≤ k → k ≤ 6 → σ 8 k = τ 4 k
def Sh (σ τ : Sg) : Prop := ∀ u, u < 4 → τ 5 u = σ (10 + u) 1 ∧ (σ (10 + u) 1 = 0 ∨ σ (10 + u) 1 = 8 ∨ σ (10 + u) 1 = 16 ∨ σ (10 + u) 1 = 32) ∧ Sq 24 (σ (58 + u) 1) (σ (76 + u)) (τ 6 u) (fun j => τ 7 (24 * u + j))
def Tr (σ τ : Sg) : Prop := Sq 30 (σ 57 1) (σ 75) (τ 0 19) (τ 13)
def Sim (σ τ : Sg) : Prop := Bd1 σ τ ∧ σ 0 2 = τ 0 3 ∧ (σ 0 2 ≠ 0 → Bd2 σ τ) ∧ Er σ τ ∧ Sh σ τ ∧ Tr σ τ
/-- both calls answer alike, and the states are related again -/
def Ok (x m : Option (Int32 × Sg)) : Prop := ∃ (r : Int32) (σ' τ' : Sg), x = some (r, σ') ∧ m = some (r, τ') ∧ Sim σ' τ'
theorem Ok.mk {r : Int32} {σ' τ' : Sg} (h : Sim σ' τ') : Ok (some (r, σ')) (some (r, τ')) := ⟨r, σ', τ', rfl, rfl, h⟩
/-! rows that are not in the relation may change -/
def rlv (k : Nat) : Bool := k == 0 || k == 1 || k == 2 || k == 8 || (Nat.ble 10 k && Nat.blt k 14) || (Nat.ble 16 k && Nat.blt k 18) || (Nat.ble 20 k && Nat.blt k 52) || (Nat.ble 57 k && Nat.blt k 70) || (Nat.ble 75 k && Nat.blt k 80)
def eqX (σ σ' : Sg) : Prop := ∀ k, rlv k = true → σ' k = σ k
def eqM (τ τ' : Sg) : Prop := τ' 1 = τ 1 ∧ τ' 2 = τ 2 ∧ τ' 4 = τ 4 ∧ τ' 5 = τ 5 ∧ τ' 6 = τ 6 ∧ τ' 7 = τ 7 ∧ τ' 13 = τ 13 ∧ τ' 0 3 = τ 0 3 ∧ τ' 0 19 = τ 0 19
theorem eqX.rf {σ : Sg} : eqX σ σ := fun _ _ => rfl
theorem eqM.rf {τ : Sg} : eqM τ τ := ⟨rfl, rfl, rfl, rfl, rfl, rfl, rfl, rfl, rfl⟩
theorem eqX.tr {σ σ1 σ2 : Sg} (h1 : eqX σ σ1) (h2 : eqX σ1 σ2) : eqX σ σ2 := fun k h => (h2 k h).trans (h1 k h)
theorem eqM.tr {τ τ1 τ2 : Sg} (h1 : eqM τ τ1) (h2 : eqM τ1 τ2) : eqM τ τ2 := by
  obtain ⟨a1, a2, a3, a4, a5, a6, a7, a8, a9⟩ := h1
  obtain ⟨b1, b2, b3, b4, b5, b6, b7, b8, b9⟩ := h2
  exact ⟨b1.trans a1, b2.trans a2, b3.trans a3, b4.trans a4, b5.trans a5, b6.trans a6, b7.trans a7, b8.trans a8, b9.trans a9⟩
theorem eqX.up {σ : Sg} {k i : Nat} {v : Int32} (h : rlv k = false) : eqX σ (up σ k i v) := by
  intro j hj
  exact up_row (fun e => by subst e; rw [h] at hj; cases hj)
theorem rlv_r {k lo hi : Nat} (h1 : lo ≤ k) (h2 : k < hi) (h : ∀ j, j < hi - lo → rlv (lo + j) = true) : rlv k = true := by
  have := h (k - lo) (by omega)
  rwa [show lo + (k - lo) = k by omega] at this
theorem rlv_l {l : Nat} (h : l < 10) : rlv (20 + l) = true ∧ rlv (30 + l) = true := by
  have : ∀ l, l < 10 → rlv (20 + l) = true ∧ rlv (30 + l) = true := by decide +kernel
  exact this l h
theorem rlv_u {u : Nat} (h : u < 4) : rlv (10 + u) = true ∧ rlv (40 + u) = true ∧ rlv (48 + u) = true ∧ rlv (66 + u) = true ∧ rlv (58 + u) = true ∧ rlv (76 + u) = true := by
  have : ∀ u, u < 4 → rlv (10 + u) = true ∧ rlv (40 + u) = true ∧ rlv (48 + u) = true ∧ rlv (66 + u) = true ∧ rlv (58 + u) = true ∧ rlv (76 + u) = true := by decide +kernel
  exact this u h
theorem BdR_congr {g : Nat → Int32} {ln ln' : Nat → Nat → Int32} {ink : Nat → Int32} {tn : Int32} {tp : Nat → Int32} {wn : Int32} {wt : Nat → Int32} {th cn th' cn' : Nat → Int32} {cs cs' : Nat → Nat → Int32} {r : Nat → Int32} (h : BdR g ln ink tn tp wn wt th cn cs r) (hl : ∀ l, l < 10 → ln' l = ln l) (h1 : ∀ u, u < 2 → th' u = th u) (h2 : ∀ u, u < 2 → cn' u = cn u) (h3 : ∀ u, u < 2 → cs' u = cs u) : BdR g ln' ink tn tp wn wt th' cn' cs' r := by
  obtain ⟨a1, a2, ⟨n, hn, e1, e2, a3⟩, a4, a5, a6, a7⟩ := h
  refine ⟨a1, a2, ⟨n, hn, e1, e2, fun l hl2 => ?_⟩, fun l hl2 => ?_, a5, a6, fun u hu => ?_⟩
  · rw [hl l (by omega)]; exact a3 l hl2
  · rw [hl l hl2]; exact a4 l hl2
  · rw [h1 u hu, h2 u hu, h3 u hu]; exact a7 u hu
theorem Bd1_congr {σ σ' τ τ' : Sg} (h : Bd1 σ τ) (e : eqX σ σ') (em : τ' 1 = τ 1) : Bd1 σ' τ' := by
  unfold Bd1
  rw [em, e 1 rfl, e 16 rfl, e 44 rfl, e 62 rfl, e 46 rfl, e 64 rfl]
  exact BdR_congr h (fun l hl => e _ (rlv_l hl).1) (fun u hu => by rw [e _ (rlv_u (u := u) (by omega)).2.1]) (fun u hu => by rw [e _ (rlv_u (u := u) (by omega)).2.2.1]) (fun u hu => by rw [e _ (rlv_u (u := u) (by omega)).2.2.2.1])
theorem Bd2_congr {σ σ' τ τ' : Sg} (h : Bd2 σ τ) (e : eqX σ σ') (em : τ' 2 = τ 2) : Bd2 σ' τ' := by
  unfold Bd2
  rw [em, e 2 rfl, e 17 rfl, e 45 rfl, e 63 rfl, e 47 rfl, e 65 rfl]
  exact BdR_congr h (fun l hl => e _ (rlv_l hl).2) (fun u hu => by rw [show 42 + u = 40 + (u + 2) by omega, e _ (rlv_u (u := u + 2) (by omega)).2.1]) (fun u hu => by rw [show 50 + u = 48 + (u + 2) by omega, e _ (rlv_u (u := u + 2) (by omega)).2.2.1]) (fun u hu => by rw [show 68 + u = 66 + (u + 2) by omega, e _ (rlv_u (u := u + 2) (by omega)).2.2.2.1])
theorem Sh_congr {σ σ' τ τ' : Sg} (h : Sh σ τ) (e : eqX σ σ') (e5 : τ' 5 = τ 5) (e6 : τ' 6 = τ 6) (e7 : τ' 7 = τ 7) : Sh σ' τ' := by
  intro u hu
  have q := rlv_u hu
  rw [e5, e6, e7, e _ q.1, e _ q.2.2.2.2.1, e _ q.2.2.2.2.2]
  exact h u hu
theorem Sim_eq {σ σ' τ τ' : Sg} (h : Sim σ τ) (e : eqX σ σ') (em : eqM τ τ') : Sim σ' τ' := by
  obtain ⟨h1, h2, h3, h4, h5, h6⟩ := h
  obtain ⟨m1, m2, m4, m5, m6, m7, m13, m3, m19⟩ := em
  refine ⟨Bd1_congr h1 e m1, by rw [e 0 rfl, m3]; exact h2, fun hz => Bd2_congr (h3 (by rw [e 0 rfl] at hz; exact hz)) e m2, fun k a b => ?_, Sh_congr h5 e m5 m6 m7, ?_⟩
  · rw [e 8 rfl, m4]; exact h4 k a b
  · unfold Tr; rw [e 57 rfl, e 75 rfl, m19, m13]; exact h6
