abbrev oT : Type := va_G × List (ClassId × FieldType) × Nat × (Nat → Nat) × (Nat → (Nat → Int32) → va_E) × (Nat × Nat × Nat)
def oW (w : oT) (σ : Sg) : va_W := (List.range w.2.2.1).map fun k => (w.2.2.2.1 k, w.2.2.2.2.1 k (σ k))
def oA (w : oT) : Nat → Prop := fun q => ∃ k, k < w.2.2.1 ∧ q = w.2.2.2.1 k
def oI (w : oT) : Prop := ∀ i j, i < w.2.2.1 → j < w.2.2.1 → w.2.2.2.1 i = w.2.2.2.1 j → i = j
def oZ (w : oT) (U : State) (H : Heap) : Prop :=
  (va_Z "BoardKeep" "KIND_ABOVE" "[I" (.ref w.2.2.2.2.2.1) (oA w) U H ∧ va_T .int w.2.2.2.2.2.1 7 (fun j => .int (lK.getD j 0)) (oA w) U H) ∧
  (va_Z "BoardKeep$Reader" "NAMES" "[C" (.ref w.2.2.2.2.2.2.1) (oA w) U H ∧ va_T .char w.2.2.2.2.2.2.1 6 (fun j => .int (lN_.getD j 0)) (oA w) U H) ∧
  (va_Z "BoardKeep$Voices" "BODIES" "[I" (.ref w.2.2.2.2.2.2.2) (oA w) U H ∧ va_T .int w.2.2.2.2.2.2.2 28 (fun j => .int (lB.getD j 0)) (oA w) U H)
def oNw : List Cond := [
  .fieldLinkNest RX3 45 "BoardKeep$Row" "cells" "[I" "BoardKeep",
  .fieldLinkNest RX1 36 "BoardKeep$Row" "cells" "[I" "BoardKeep",
  .fieldLinkNest RX4 72 "BoardKeep$Row" "cells" "[I" "BoardKeep",
  .fieldLinkNest RX9 235 "BoardKeep$Row" "cells" "[I" "BoardKeep",
  .fieldLinkNest RX3 15 "BoardKeep$Row" "many" "I" "BoardKeep",
  .fieldLinkNest RX4 37 "BoardKeep$Row" "many" "I" "BoardKeep",
  .fieldLinkNest RX1 32 "BoardKeep$Row" "many" "I" "BoardKeep",
  .fieldLinkNest RX9 155 "BoardKeep$Row" "many" "I" "BoardKeep",
  .fieldLinkNest RX0 117 "BoardKeep$Law" "there" "Z" "BoardKeep",
  .fieldLinkNest RX9 179 "BoardKeep$Law" "there" "Z" "BoardKeep",
  .fieldLinkNest RX8 27 "BoardKeep$Line" "kind" "I" "BoardKeep",
  .fieldLinkNest RX9 96 "BoardKeep$Line" "kind" "I" "BoardKeep",
  .fieldLinkNest RX8 37 "BoardKeep$Line" "m" "I" "BoardKeep",
  .fieldLinkNest RX9 101 "BoardKeep$Line" "m" "I" "BoardKeep",
  .fieldLinkNest RX0 85 "BoardKeep$Line" "m" "I" "BoardKeep",
  .fieldLinkNest RX9 104 "BoardKeep$Line" "columns" "I" "BoardKeep",
  .fieldLinkNest RX0 111 "BoardKeep$Line" "columns" "I" "BoardKeep",
  .fieldLinkNest RX9 107 "BoardKeep$Line" "who" "I" "BoardKeep",
  .fieldLinkNest RX0 114 "BoardKeep$Line" "who" "I" "BoardKeep",
  .fieldLinkNest RX9 110 "BoardKeep$Line" "dated" "I" "BoardKeep",
  .fieldLinkNest RX9 113 "BoardKeep$Line" "photo" "I" "BoardKeep",
  .fieldLinkNest RX0 88 "BoardKeep$Line" "photo" "I" "BoardKeep",
  .fieldLinkNest RX9 116 "BoardKeep$Line" "gone" "Z" "BoardKeep",
  .fieldLinkNest RX0 98 "BoardKeep$Line" "gone" "Z" "BoardKeep",
  .fieldLinkNest RX9 92 "BoardKeep$Board" "lines" "[LBoardKeep$Line;" "BoardKeep",
  .fieldLinkNest RX5 54 "BoardKeep$Board" "lines" "[LBoardKeep$Line;" "BoardKeep",
  .fieldLinkNest RX9 70 "BoardKeep$Board" "many" "I" "BoardKeep",
  .fieldLinkNest RX5 47 "BoardKeep$Board" "many" "I" "BoardKeep",
  .fieldLinkNest RX5 39 "BoardKeep$Board" "day" "I" "BoardKeep",
  .fieldLinkNest RX9 120 "BoardKeep$Board" "day" "I" "BoardKeep",
  .fieldLinkNest RX5 57 "BoardKeep$Board" "spirit" "I" "BoardKeep",
  .fieldLinkNest RX9 139 "BoardKeep$Board" "spirit" "I" "BoardKeep",
  .fieldLinkNest RX9 296 "BoardKeep$Board" "lost" "I" "BoardKeep",
  .fieldLinkNest RX9 82 "BoardKeep$Board" "ink" "[I" "BoardKeep",
  .fieldLinkNest RX9 191 "BoardKeep$Board" "z" "I" "BoardKeep",
  .fieldLinkNest RX9 142 "BoardKeep$Board" "tape" "LBoardKeep$Row;" "BoardKeep",
  .fieldLinkNest RX9 290 "BoardKeep$Board" "waiting" "LBoardKeep$Row;" "BoardKeep",
  .fieldLinkNest RX9 166 "BoardKeep$Board" "laws" "[LBoardKeep$Law;" "BoardKeep",
  .fieldLinkNest RX9 170 "BoardKeep$Reader" "code" "LBoardKeep$Row;" "BoardKeep",
  .fieldLinkNest RX9 163 "BoardKeep$Reader" "at" "I" "BoardKeep",
  .fieldLinkNest RX9 213 "BoardKeep$Room" "loss" "I" "BoardKeep",
  .fieldLinkNest RX9 216 "BoardKeep$Room" "first" "I" "BoardKeep",
  .fieldLinkNest RX9 219 "BoardKeep$Room" "lines" "I" "BoardKeep",
  .fieldLinkNest RX9 261 "BoardKeep$Voices" "trace" "LBoardKeep$Row;" "BoardKeep",
  .fieldLinkNest RX9 258 "BoardKeep$Voices" "parted" "Z" "BoardKeep",
  .fieldLinkNest RX9 232 "BoardKeep$Sheet" "row" "LBoardKeep$Row;" "BoardKeep",
  .fieldLinkNest RX9 271 "BoardKeep$Sheet" "bits" "I" "BoardKeep",
  .fieldLinkNest RX8 52 "BoardKeep" "KIND_ABOVE" "[I" "BoardKeep",
  .methodLinkNest RX2 49 yX9_held "BoardKeep",
  .methodLinkNest RX0 124 yX9_held "BoardKeep",
  .methodLinkNest RX0 144 yX9_isOf "BoardKeep",
  .methodLinkNest RX5 9 yX9_columnsFrom "BoardKeep",
  .methodLinkNest RX5 50 yX9_isOf "BoardKeep",
  .methodLinkNest RX3 41 yX9_isOf "BoardKeep",
  .methodLinkNest RX3 48 yX9_freeEnd "BoardKeep",
  .methodLinkNest RX0 39 yX1_init "BoardKeep",
  .methodLinkNest RX0 44 yX2_init "BoardKeep",
  .methodLinkNest RX9 21 yX4_init "BoardKeep",
  .methodLinkNest RX9 28 yX5_init "BoardKeep",
  .methodLinkNest RX9 35 yX3_init "BoardKeep",
  .methodLinkNest RX9 42 yX8_init "BoardKeep",
  .methodLinkNest RX9 57 yX7_init "BoardKeep"]
def isNest : Cond → Bool
  | .fieldLinkNest _ _ _ _ _ _ => true
  | .methodLinkNest _ _ _ _ => true
  | _ => false
theorem oNw_ok : ∀ c ∈ oNw, isNest c = true := by decide +kernel
def oN (U : State) : Prop := ∀ c ∈ oNw, va_Nw c U
theorem oN.warm {s U : State} (hW : s.WarmedH U.vm) (h : oN s) : oN U := by
  intro c hc
  have h1 := oNw_ok c hc
  have h2 := h c hc
  match c, h1, h2 with
  | .fieldLinkNest _ _ _ _ _ _, _, h2 => exact va_Nw.warmF hW h2
  | .methodLinkNest _ _ _ _, _, h2 => exact va_Nw.warmM hW h2
theorem oN.same {u U : State} (hv : u.vm = U.vm) (h : oN u) : oN U := by
  intro c hc
  have h1 := oNw_ok c hc
  have h2 := h c hc
  match c, h1, h2 with
  | .fieldLinkNest _ _ _ _ _ _, _, h2 => exact va_Nw.same rfl hv h2
  | .methodLinkNest _ _ _ _, _, h2 => exact va_Nw.same rfl hv h2
def oWd (w : oT) (σ : Sg) (U : State) : Prop := va_P w.1 vwCl (oW w σ) U.heap ∧ va_K w.1 vwCl w.2.1 U ∧ oZ w U U.heap ∧ oN U
theorem oZ.moved {w : oT} {u U : State} {H : Heap} (hv : u.vm.Alike U.vm) (h : oZ w u H) : oZ w U H :=
  ⟨⟨h.1.1.moved hv, h.1.2.moved hv⟩, ⟨h.2.1.1.moved hv, h.2.1.2.moved hv⟩, ⟨h.2.2.1.moved hv, h.2.2.2.moved hv⟩⟩
theorem oZ.kept {w : oT} {U : State} {H H1 : Heap} (h : oZ w U H) (hq : ∀ a : Nat, a < H.size → ¬ oA w a → H1[a]? = H[a]?) : oZ w U H1 :=
  ⟨⟨h.1.1.kept hq, h.1.2.kept hq⟩, ⟨h.2.1.1.kept hq, h.2.1.2.kept hq⟩, ⟨h.2.2.1.kept hq, h.2.2.2.kept hq⟩⟩
theorem oW_get {w : oT} {σ : Sg} {k : Nat} (hk : k < w.2.2.1) : (oW w σ)[k]? = some (w.2.2.2.1 k, w.2.2.2.2.1 k (σ k)) := by
  simp [oW, hk]
theorem oW_at {w : oT} {σ : Sg} {k : Nat} {q : Nat × va_E} (h : (oW w σ)[k]? = some q) : k < w.2.2.1 ∧ q = (w.2.2.2.1 k, w.2.2.2.2.1 k (σ k)) := by
  by_cases hk : k < w.2.2.1
  · rw [oW_get hk] at h
    exact ⟨hk, (Option.some.inj h).symm⟩
  · simp [oW, hk] at h
theorem oW_set {w : oT} {σ σ' : Sg} {k : Nat} {e : va_E} (he : w.2.2.2.2.1 k (σ' k) = e) (ho : ∀ j, j ≠ k → σ' j = σ j) : (oW w σ).set k (w.2.2.2.1 k, e) = oW w σ' := by
  apply List.ext_getElem?
  intro j
  rw [List.getElem?_set]
  by_cases hj : k = j
  · subst hj
    by_cases hk : k < w.2.2.1
    · rw [oW_get hk, ← he]
      simp [oW, hk]
    · simp [oW, hk]
  · rw [if_neg hj]
    by_cases hk : j < w.2.2.1
    · rw [oW_get hk, oW_get hk, ho j (fun q => hj q.symm)]
    · simp [oW, hk]
theorem oI.D {w : oT} (hI : oI w) (σ : Sg) : va_D (oA w) (oW w σ) := by
  refine ⟨fun i j p q hp hq hpq => ?_, fun k q hq => ?_⟩
  · obtain ⟨h1, rfl⟩ := oW_at hp
    obtain ⟨h2, rfl⟩ := oW_at hq
    exact hI i j h1 h2 hpq
  · obtain ⟨h1, rfl⟩ := oW_at hq
    exact ⟨k, h1, rfl⟩
theorem up_at (σ : Sg) (k i : Nat) (v : Int32) : up σ k i v k = upd (σ k) i v := by simp [up]
theorem up_ne {σ : Sg} {k i : Nat} {v : Int32} {j : Nat} (h : j ≠ k) : up σ k i v j = σ j := by simp [up, h]
theorem upR_at (σ : Sg) (k : Nat) (f : Nat → Int32) : upR σ k f k = f := by simp [upR]
theorem upR_ne {σ : Sg} {k : Nat} {f : Nat → Int32} {j : Nat} (h : j ≠ k) : upR σ k f j = σ j := by simp [upR, h]
/-! contracts: a pure function's answer is the method's -/
def oRm (n : Nat) : Room := { frames := n, cells := 0, slots := 0, locals := 40 * n }
abbrev oPc (w : oT) (av : List Value) (σ : Sg) : Array Value → State → Prop := va_Pc av (fun U => oWd w σ U)
def oMI (l : Launch) (y : MethodName) (ws : List Cond) (n : Nat) (w : oT) (av : List Value) (σ : Sg) (res : Option (Int32 × Sg)) : Prop :=
  ∀ (r : Int32) (σ' : Sg), res = some (r, σ') → Met l y ws (oRm n) (oPc w av σ) (va_Qi (fun (r' : Int32) (u : Sg) => r' = r ∧ u = σ') (fun u t => va_P w.1 vwCl (oW w u) t.heap) (oA w)) 0 0 (oA w)
def oML (l : Launch) (y : MethodName) (ws : List Cond) (n : Nat) (w : oT) (av : List Value) (σ : Sg) (res : Option (Int64 × Sg)) : Prop :=
  ∀ (r : Int64) (σ' : Sg), res = some (r, σ') → Met l y ws (oRm n) (oPc w av σ) (va_Ql (fun (r' : Int64) (u : Sg) => r' = r ∧ u = σ') (fun u t => va_P w.1 vwCl (oW w u) t.heap) (oA w)) 0 0 (oA w)
def oMV (l : Launch) (y : MethodName) (ws : List Cond) (n : Nat) (w : oT) (av : List Value) (σ : Sg) (res : Option (Unit × Sg)) : Prop :=
  ∀ (r : Unit) (σ' : Sg), res = some (r, σ') → Met l y ws (oRm n) (oPc w av σ) (va_Qv (fun (u : Sg) => u = σ') (fun u t => va_P w.1 vwCl (oW w u) t.heap) (oA w)) 0 0 (oA w)
theorem ckb_some {β : Type} {b : Bool} {x : Option β} {v : β} (h : ckb b x = some v) : b = true ∧ x = some v := by
  unfold ckb at h
  by_cases hb : b = true
  · rw [if_pos hb] at h
    exact ⟨hb, h⟩
  · rw [if_neg hb] at h
    cases h
theorem inb_in {i : Int32} {n : Nat} (h : inb i n = true) : vp_in i n := by
  simp [inb] at h
  exact vp_in_iff.mpr h
theorem isb_nar {v : Int32} (h : isb v = true) : narrow .boolean (.int v) = .int v ∧ fits .boolean (.int v) = true := by
  simp [isb] at h
  rcases h with rfl | rfl <;> exact ⟨by decide, by decide⟩
theorem nz_ne {v : Int32} (h : nz v = true) : ¬ v = 0 := by simpa [nz] using h
theorem nzl_ne {v : Int64} (h : nzl v = true) : ¬ v = 0 := by simpa [nzl] using h
/-! the pure walk -/
abbrev oK : Type := Program × Launch × Env × Room × State × MethodId × Array Value × List Frame × Method × Code × Nat × Nat
def oC (κ : oK) (w : oT) (nL : Nat) (cc : ByteArray) (own : String) (Ts : List Cond) (n : Nat) (ret : Option FieldType) : Prop := match κ with
  | (p, l, e, R, s, m, args, below, meth, c, mc, ms) => p.tables.exec = Jvm.exec ∧ c.code = cc ∧ c.maxLocals = nL ∧ s.vm.findClass own = some m.cls ∧ (∀ w ∈ Ts, w.before args s = true) ∧ va_K w.1 vwCl w.2.1 s ∧ oZ w s s.heap ∧ oN s ∧ oI w ∧ (n ≤ R.frames ∧ 40 * n ≤ R.locals ∧ mc ≤ R.cells ∧ ms ≤ R.slots) ∧ meth.sig.returnType = ret ∧ meth.locks = false
def oV {α : Type} (κ : oK) (w : oT) (nL : Nat) (Q : α → Sg → State → Prop) (σ : Sg) (pc : Nat) (lv : List (Nat × Value)) (st : List Value) (res : Option (α × Sg)) : Prop := match κ with
  | (p, l, e, R, s, m, args, below, meth, c, mc, ms) => ∀ (r : α) (σ' : Sg), res = some (r, σ') → ∀ (H : Heap) (locs : List Loc) (ls : Array Slot), va_P w.1 vwCl (oW w σ) H → va_S (oA w) s.heap H locs → lv_has ls nL lv → W p l e R s m args below meth c H locs mc ms (Q r σ') (F0 m pc ls st)
def oQi (κ : oK) (w : oT) (r : Int32) (σ' : Sg) : State → Prop := match κ with
  | (p, l, e, R, s, m, args, below, meth, c, mc, ms) => MQ below (va_Qi (fun (r' : Int32) (u : Sg) => r' = r ∧ u = σ') (fun u t => va_P w.1 vwCl (oW w u) t.heap) (oA w)) args s mc ms (oA w)
def oQl (κ : oK) (w : oT) (r : Int64) (σ' : Sg) : State → Prop := match κ with
  | (p, l, e, R, s, m, args, below, meth, c, mc, ms) => MQ below (va_Ql (fun (r' : Int64) (u : Sg) => r' = r ∧ u = σ') (fun u t => va_P w.1 vwCl (oW w u) t.heap) (oA w)) args s mc ms (oA w)
def oQv (κ : oK) (w : oT) (r : Unit) (σ' : Sg) : State → Prop := match κ with
  | (p, l, e, R, s, m, args, below, meth, c, mc, ms) => MQ below (va_Qv (fun (u : Sg) => u = σ') (fun u t => va_P w.1 vwCl (oW w u) t.heap) (oA w)) args s mc ms (oA w)
section OV
variable {α : Type} {κ : oK} {w : oT} {nL : Nat} {cc : ByteArray} {own : String} {Ts : List Cond} {n : Nat} {ret : Option FieldType} {Q : α → Sg → State → Prop} {σ : Sg} {pc : Nat} {lv lv' : List (Nat × Value)} {st : List Value} {res : Option (α × Sg)}
theorem r_none : oV κ w nL Q σ pc lv st (none : Option (α × Sg)) := by
  obtain ⟨p, l, e, R, s, m, args, below, meth, c, mc, ms⟩ := κ
  intro r σ' h
  cases h
theorem r_sub (ks : List Nat) (hl : lv_pick lv ks = lv') (k : oV κ w nL Q σ pc lv' st res) : oV κ w nL Q σ pc lv st res := by
  obtain ⟨p, l, e, R, s, m, args, below, meth, c, mc, ms⟩ := κ
  intro r σ' h H locs ls hP hS hl'
  exact k r σ' h H locs ls hP hS (lv_sub hl' ks hl)
theorem r_nm {x : Int32} {K : Int32 → Option (α × Sg)} (k : ∀ y : Int32, oV κ w nL Q σ pc lv (.int y :: st) (K y)) : oV κ w nL Q σ pc lv (.int x :: st) (lt x K) := k x
theorem r_nml {x : Int64} {K : Int64 → Option (α × Sg)} (k : ∀ y : Int64, oV κ w nL Q σ pc lv (.long y :: st) (K y)) : oV κ w nL Q σ pc lv (.long x :: st) (lt x K) := k x
theorem r_ckb {b : Bool} {X : Option (α × Sg)} (k : b = true → oV κ w nL Q σ pc lv st X) : oV κ w nL Q σ pc lv st (ckb b X) := by
  obtain ⟨p, l, e, R, s, m, args, below, meth, c, mc, ms⟩ := κ
  intro r σ' h
  obtain ⟨hb, h⟩ := ckb_some h
  exact k hb r σ' h
theorem r_ite {c : Prop} [Decidable c] {A B : Option (α × Sg)} (kt : c → oV κ w nL Q σ pc lv st A) (kf : ¬ c → oV κ w nL Q σ pc lv st B) : oV κ w nL Q σ pc lv st (if c then A else B) := by
  by_cases hc : c
  · rw [if_pos hc]; exact kt hc
  · rw [if_neg hc]; exact kf hc
theorem r_iconst {j : Int} {v : Int32} (C : oC κ w nL cc own Ts n ret) (hd : decode cc pc = .ok (.iconst j, 1)) (hv : Int32.ofInt j = v) (k : oV κ w nL Q σ (pc + 1) lv (.int v :: st) res) : oV κ w nL Q σ pc lv st res := by
  obtain ⟨p, l, e, R, s, m, args, below, meth, c, mc, ms⟩ := κ
  obtain ⟨hx, hb, hml, hown, hts, hK, hZ, hN, hI, hR, hret, hlk⟩ := C
  intro r σ' h H locs ls hP hS hl
  exact lv_iconst hx hb hd hv (k r σ' h H locs ls hP hS hl)
theorem r_bipush {j : Int} {v : Int32} (C : oC κ w nL cc own Ts n ret) (hd : decode cc pc = .ok (.bipush j, 2)) (hv : (Int8.ofInt j).toInt32 = v) (k : oV κ w nL Q σ (pc + 2) lv (.int v :: st) res) : oV κ w nL Q σ pc lv st res := by
  obtain ⟨p, l, e, R, s, m, args, below, meth, c, mc, ms⟩ := κ
  obtain ⟨hx, hb, hml, hown, hts, hK, hZ, hN, hI, hR, hret, hlk⟩ := C
  intro r σ' h H locs ls hP hS hl
  exact lv_bipush hx hb hd hv (k r σ' h H locs ls hP hS hl)
theorem r_sipush {j : Int} {v : Int32} (C : oC κ w nL cc own Ts n ret) (hd : decode cc pc = .ok (.sipush j, 3)) (hv : (Int16.ofInt j).toInt32 = v) (k : oV κ w nL Q σ (pc + 3) lv (.int v :: st) res) : oV κ w nL Q σ pc lv st res := by
  obtain ⟨p, l, e, R, s, m, args, below, meth, c, mc, ms⟩ := κ
  obtain ⟨hx, hb, hml, hown, hts, hK, hZ, hN, hI, hR, hret, hlk⟩ := C
  intro r σ' h H locs ls hP hS hl
  exact lv_sipush hx hb hd hv (k r σ' h H locs ls hP hS hl)
theorem r_lconst {j : Fin 2} {v : Int64} (C : oC κ w nL cc own Ts n ret) (hd : decode cc pc = .ok (.lconst j, 1)) (hv : Int64.ofNat (j : Nat) = v) (k : oV κ w nL Q σ (pc + 1) lv (.long v :: st) res) : oV κ w nL Q σ pc lv st res := by
  obtain ⟨p, l, e, R, s, m, args, below, meth, c, mc, ms⟩ := κ
  obtain ⟨hx, hb, hml, hown, hts, hK, hZ, hN, hI, hR, hret, hlk⟩ := C
  intro r σ' h H locs ls hP hS hl
  exact lv_lconst hx hb hd hv (k r σ' h H locs ls hP hS hl)
theorem r_ldc {idx : Nat} {v : Int32} (C : oC κ w nL cc own Ts n ret) (hd : decode cc pc = .ok (.ldc idx, 2)) (hc : Jvm.Cond.constant own idx v ∈ Ts) (k : oV κ w nL Q σ (pc + 2) lv (.int v :: st) res) : oV κ w nL Q σ pc lv st res := by
  obtain ⟨p, l, e, R, s, m, args, below, meth, c, mc, ms⟩ := κ
  obtain ⟨hx, hb, hml, hown, hts, hK, hZ, hN, hI, hR, hret, hlk⟩ := C
  intro r σ' h H locs ls hP hS hl
  exact lv_ldc hx hb hown (hts _ hc) hd (k r σ' h H locs ls hP hS hl)
theorem r_ldcw {idx : Nat} {v : Int32} (C : oC κ w nL cc own Ts n ret) (hd : decode cc pc = .ok (.ldc_w idx, 3)) (hc : Jvm.Cond.constant own idx v ∈ Ts) (k : oV κ w nL Q σ (pc + 3) lv (.int v :: st) res) : oV κ w nL Q σ pc lv st res := by
  obtain ⟨p, l, e, R, s, m, args, below, meth, c, mc, ms⟩ := κ
  obtain ⟨hx, hb, hml, hown, hts, hK, hZ, hN, hI, hR, hret, hlk⟩ := C
  intro r σ' h H locs ls hP hS hl
  exact lv_ldcw hx hb hown (hts _ hc) hd (k r σ' h H locs ls hP hS hl)
theorem r_ldc2 {idx : Nat} {v : Int64} (C : oC κ w nL cc own Ts n ret) (hd : decode cc pc = .ok (.ldc2_w idx, 3)) (hc : Jvm.Cond.constantLong own idx v ∈ Ts) (k : oV κ w nL Q σ (pc + 3) lv (.long v :: st) res) : oV κ w nL Q σ pc lv st res := by
  obtain ⟨p, l, e, R, s, m, args, below, meth, c, mc, ms⟩ := κ
  obtain ⟨hx, hb, hml, hown, hts, hK, hZ, hN, hI, hR, hret, hlk⟩ := C
  intro r σ' h H locs ls hP hS hl
  exact lv_ldc2 hx hb hown (hts _ hc) hd (k r σ' h H locs ls hP hS hl)
theorem r_ildn {k0 : Fin 4} {x : Int32} (C : oC κ w nL cc own Ts n ret) (hd : decode cc pc = .ok (.iload_n k0, 1)) (j : Nat) (hj : lv[j]? = some ((k0 : Nat), .int x)) (k : oV κ w nL Q σ (pc + 1) lv (.int x :: st) res) : oV κ w nL Q σ pc lv st res := by
  obtain ⟨p, l, e, R, s, m, args, below, meth, c, mc, ms⟩ := κ
  obtain ⟨hx, hb, hml, hown, hts, hK, hZ, hN, hI, hR, hret, hlk⟩ := C
  intro r σ' h H locs ls hP hS hl
  exact lv_iload_n hx hb hd rfl (lv_at hl j hj) (k r σ' h H locs ls hP hS hl)
theorem r_ild {i : Nat} {x : Int32} (C : oC κ w nL cc own Ts n ret) (hd : decode cc pc = .ok (.iload i, 2)) (j : Nat) (hj : lv[j]? = some (i, .int x)) (k : oV κ w nL Q σ (pc + 2) lv (.int x :: st) res) : oV κ w nL Q σ pc lv st res := by
  obtain ⟨p, l, e, R, s, m, args, below, meth, c, mc, ms⟩ := κ
  obtain ⟨hx, hb, hml, hown, hts, hK, hZ, hN, hI, hR, hret, hlk⟩ := C
  intro r σ' h H locs ls hP hS hl
  exact lv_iload hx hb hd (lv_at hl j hj) (k r σ' h H locs ls hP hS hl)
theorem r_lldn {k0 : Fin 4} {x : Int64} (C : oC κ w nL cc own Ts n ret) (hd : decode cc pc = .ok (.lload_n k0, 1)) (j : Nat) (hj : lv[j]? = some ((k0 : Nat), .long x)) (k : oV κ w nL Q σ (pc + 1) lv (.long x :: st) res) : oV κ w nL Q σ pc lv st res := by
  obtain ⟨p, l, e, R, s, m, args, below, meth, c, mc, ms⟩ := κ
  obtain ⟨hx, hb, hml, hown, hts, hK, hZ, hN, hI, hR, hret, hlk⟩ := C
  intro r σ' h H locs ls hP hS hl
  exact lv_lload_n hx hb hd rfl (lv_at hl j hj) (k r σ' h H locs ls hP hS hl)
theorem r_lld {i : Nat} {x : Int64} (C : oC κ w nL cc own Ts n ret) (hd : decode cc pc = .ok (.lload i, 2)) (j : Nat) (hj : lv[j]? = some (i, .long x)) (k : oV κ w nL Q σ (pc + 2) lv (.long x :: st) res) : oV κ w nL Q σ pc lv st res := by
  obtain ⟨p, l, e, R, s, m, args, below, meth, c, mc, ms⟩ := κ
  obtain ⟨hx, hb, hml, hown, hts, hK, hZ, hN, hI, hR, hret, hlk⟩ := C
  intro r σ' h H locs ls hP hS hl
  exact lv_lload hx hb hd (lv_at hl j hj) (k r σ' h H locs ls hP hS hl)
theorem r_aldn {k0 : Fin 4} {x : Nat} (C : oC κ w nL cc own Ts n ret) (hd : decode cc pc = .ok (.aload_n k0, 1)) (j : Nat) (hj : lv[j]? = some ((k0 : Nat), .ref x)) (k : oV κ w nL Q σ (pc + 1) lv (.ref x :: st) res) : oV κ w nL Q σ pc lv st res := by
  obtain ⟨p, l, e, R, s, m, args, below, meth, c, mc, ms⟩ := κ
  obtain ⟨hx, hb, hml, hown, hts, hK, hZ, hN, hI, hR, hret, hlk⟩ := C
  intro r σ' h H locs ls hP hS hl
  exact lv_aload_n hx hb hd rfl (lv_at hl j hj) (k r σ' h H locs ls hP hS hl)
theorem r_ald {i : Nat} {x : Nat} (C : oC κ w nL cc own Ts n ret) (hd : decode cc pc = .ok (.aload i, 2)) (j : Nat) (hj : lv[j]? = some (i, .ref x)) (k : oV κ w nL Q σ (pc + 2) lv (.ref x :: st) res) : oV κ w nL Q σ pc lv st res := by
  obtain ⟨p, l, e, R, s, m, args, below, meth, c, mc, ms⟩ := κ
  obtain ⟨hx, hb, hml, hown, hts, hK, hZ, hN, hI, hR, hret, hlk⟩ := C
  intro r σ' h H locs ls hP hS hl
  exact lv_aload hx hb hd (lv_at hl j hj) (k r σ' h H locs ls hP hS hl)
theorem r_istn {k0 : Fin 4} {x : Int32} (C : oC κ w nL cc own Ts n ret) (hd : decode cc pc = .ok (.istore_n k0, 1)) (hn : (k0 : Nat) < nL) (ks : List Nat) (hl0 : lv_pick (((k0 : Nat), Value.int x) :: lv.filter (fun q => !(q.1 == (k0 : Nat)) && !(q.1 + 1 == (k0 : Nat) && q.2.category == 2))) ks = lv') (k : oV κ w nL Q σ (pc + 1) lv' st res) : oV κ w nL Q σ pc lv (.int x :: st) res := by
  obtain ⟨p, l, e, R, s, m, args, below, meth, c, mc, ms⟩ := κ
  obtain ⟨hx, hb, hml, hown, hts, hK, hZ, hN, hI, hR, hret, hlk⟩ := C
  intro r σ' h H locs ls hP hS hl
  exact lv_istore_n hx hb hd rfl hl hn rfl (fun ls1 hl1 => k r σ' h H locs ls1 hP hS (lv_sub hl1 ks hl0))
theorem r_ist {i : Nat} {x : Int32} (C : oC κ w nL cc own Ts n ret) (hd : decode cc pc = .ok (.istore i, 2)) (hn : i < nL) (ks : List Nat) (hl0 : lv_pick ((i, Value.int x) :: lv.filter (fun q => !(q.1 == i) && !(q.1 + 1 == i && q.2.category == 2))) ks = lv') (k : oV κ w nL Q σ (pc + 2) lv' st res) : oV κ w nL Q σ pc lv (.int x :: st) res := by
  obtain ⟨p, l, e, R, s, m, args, below, meth, c, mc, ms⟩ := κ
  obtain ⟨hx, hb, hml, hown, hts, hK, hZ, hN, hI, hR, hret, hlk⟩ := C
  intro r σ' h H locs ls hP hS hl
  exact lv_istore hx hb hd hl hn rfl (fun ls1 hl1 => k r σ' h H locs ls1 hP hS (lv_sub hl1 ks hl0))
theorem r_lstn {k0 : Fin 4} {x : Int64} (C : oC κ w nL cc own Ts n ret) (hd : decode cc pc = .ok (.lstore_n k0, 1)) (hn : (k0 : Nat) + 1 < nL) (ks : List Nat) (hl0 : lv_pick (((k0 : Nat), Value.long x) :: lv.filter (fun q => !(q.1 == (k0 : Nat)) && (!(q.1 == (k0 : Nat) + 1) && !(q.1 + 1 == (k0 : Nat) && q.2.category == 2)))) ks = lv') (k : oV κ w nL Q σ (pc + 1) lv' st res) : oV κ w nL Q σ pc lv (.long x :: st) res := by
  obtain ⟨p, l, e, R, s, m, args, below, meth, c, mc, ms⟩ := κ
  obtain ⟨hx, hb, hml, hown, hts, hK, hZ, hN, hI, hR, hret, hlk⟩ := C
  intro r σ' h H locs ls hP hS hl
  exact lv_lstore_n hx hb hd rfl hl hn rfl (fun ls1 hl1 => k r σ' h H locs ls1 hP hS (lv_sub hl1 ks hl0))
theorem r_lst {i : Nat} {x : Int64} (C : oC κ w nL cc own Ts n ret) (hd : decode cc pc = .ok (.lstore i, 2)) (hn : i + 1 < nL) (ks : List Nat) (hl0 : lv_pick ((i, Value.long x) :: lv.filter (fun q => !(q.1 == i) && (!(q.1 == i + 1) && !(q.1 + 1 == i && q.2.category == 2)))) ks = lv') (k : oV κ w nL Q σ (pc + 2) lv' st res) : oV κ w nL Q σ pc lv (.long x :: st) res := by
  obtain ⟨p, l, e, R, s, m, args, below, meth, c, mc, ms⟩ := κ
  obtain ⟨hx, hb, hml, hown, hts, hK, hZ, hN, hI, hR, hret, hlk⟩ := C
  intro r σ' h H locs ls hP hS hl
  exact lv_lstore hx hb hd hl hn rfl (fun ls1 hl1 => k r σ' h H locs ls1 hP hS (lv_sub hl1 ks hl0))
theorem r_astn {k0 : Fin 4} {x : Nat} (C : oC κ w nL cc own Ts n ret) (hd : decode cc pc = .ok (.astore_n k0, 1)) (hn : (k0 : Nat) < nL) (ks : List Nat) (hl0 : lv_pick (((k0 : Nat), Value.ref x) :: lv.filter (fun q => !(q.1 == (k0 : Nat)) && !(q.1 + 1 == (k0 : Nat) && q.2.category == 2))) ks = lv') (k : oV κ w nL Q σ (pc + 1) lv' st res) : oV κ w nL Q σ pc lv (.ref x :: st) res := by
  obtain ⟨p, l, e, R, s, m, args, below, meth, c, mc, ms⟩ := κ
  obtain ⟨hx, hb, hml, hown, hts, hK, hZ, hN, hI, hR, hret, hlk⟩ := C
  intro r σ' h H locs ls hP hS hl
  exact lv_astore_n hx hb hd rfl hl hn rfl (fun ls1 hl1 => k r σ' h H locs ls1 hP hS (lv_sub hl1 ks hl0))
theorem r_ast {i : Nat} {x : Nat} (C : oC κ w nL cc own Ts n ret) (hd : decode cc pc = .ok (.astore i, 2)) (hn : i < nL) (ks : List Nat) (hl0 : lv_pick ((i, Value.ref x) :: lv.filter (fun q => !(q.1 == i) && !(q.1 + 1 == i && q.2.category == 2))) ks = lv') (k : oV κ w nL Q σ (pc + 2) lv' st res) : oV κ w nL Q σ pc lv (.ref x :: st) res := by
  obtain ⟨p, l, e, R, s, m, args, below, meth, c, mc, ms⟩ := κ
  obtain ⟨hx, hb, hml, hown, hts, hK, hZ, hN, hI, hR, hret, hlk⟩ := C
  intro r σ' h H locs ls hP hS hl
  exact lv_astore hx hb hd hl hn rfl (fun ls1 hl1 => k r σ' h H locs ls1 hP hS (lv_sub hl1 ks hl0))
theorem r_iinc {i : Nat} {j : Int} {x v : Int32} {lv1 : Int32 → List (Nat × Value)} {K : Int32 → Option (α × Sg)} (C : oC κ w nL cc own Ts n ret) (hd : decode cc pc = .ok (.iinc i j, 3)) (hj : Int32.ofInt j = v) (q : Nat) (hq : lv[q]? = some (i, .int x)) (hn : i < nL) (ks : List Nat) (hl0 : ∀ y : Int32, lv_pick ((i, Value.int y) :: lv.filter (fun q => !(q.1 == i) && !(q.1 + 1 == i && q.2.category == 2))) ks = lv1 y) (k : ∀ y : Int32, oV κ w nL Q σ (pc + 3) (lv1 y) st (K y)) : oV κ w nL Q σ pc lv st (lt (x + v) K) := by
  obtain ⟨p, l, e, R, s, m, args, below, meth, c, mc, ms⟩ := κ
  obtain ⟨hx, hb, hml, hown, hts, hK, hZ, hN, hI, hR, hret, hlk⟩ := C
  intro r σ' h H locs ls hP hS hl
  exact lv_iinc (v := x + v) hx hb hd hl hq (by rw [hj]) hn rfl (fun ls1 hl1 => k _ r σ' h H locs ls1 hP hS (lv_sub hl1 ks (hl0 _)))
theorem r_iadd {x y : Int32} (C : oC κ w nL cc own Ts n ret) (hd : decode cc pc = .ok (.iadd, 1))  (k : oV κ w nL Q σ (pc + 1) lv (.int (x + y) :: st) res) : oV κ w nL Q σ pc lv (.int y :: .int x :: st) res := by
  obtain ⟨p, l, e, R, s, m, args, below, meth, c, mc, ms⟩ := κ
  obtain ⟨hx, hb, hml, hown, hts, hK, hZ, hN, hI, hR, hret, hlk⟩ := C
  intro r σ' h H locs ls hP hS hl
  exact lv_iadd hx hb hd (k r σ' h H locs ls hP hS hl)
theorem r_isub {x y : Int32} (C : oC κ w nL cc own Ts n ret) (hd : decode cc pc = .ok (.isub, 1))  (k : oV κ w nL Q σ (pc + 1) lv (.int (x - y) :: st) res) : oV κ w nL Q σ pc lv (.int y :: .int x :: st) res := by
  obtain ⟨p, l, e, R, s, m, args, below, meth, c, mc, ms⟩ := κ
  obtain ⟨hx, hb, hml, hown, hts, hK, hZ, hN, hI, hR, hret, hlk⟩ := C
  intro r σ' h H locs ls hP hS hl
  exact lv_isub hx hb hd (k r σ' h H locs ls hP hS hl)
theorem r_imul {x y : Int32} (C : oC κ w nL cc own Ts n ret) (hd : decode cc pc = .ok (.imul, 1))  (k : oV κ w nL Q σ (pc + 1) lv (.int (x * y) :: st) res) : oV κ w nL Q σ pc lv (.int y :: .int x :: st) res := by
  obtain ⟨p, l, e, R, s, m, args, below, meth, c, mc, ms⟩ := κ
  obtain ⟨hx, hb, hml, hown, hts, hK, hZ, hN, hI, hR, hret, hlk⟩ := C
  intro r σ' h H locs ls hP hS hl
  exact lv_imul hx hb hd (k r σ' h H locs ls hP hS hl)
theorem r_iand {x y : Int32} (C : oC κ w nL cc own Ts n ret) (hd : decode cc pc = .ok (.iand, 1))  (k : oV κ w nL Q σ (pc + 1) lv (.int (x &&& y) :: st) res) : oV κ w nL Q σ pc lv (.int y :: .int x :: st) res := by
  obtain ⟨p, l, e, R, s, m, args, below, meth, c, mc, ms⟩ := κ
  obtain ⟨hx, hb, hml, hown, hts, hK, hZ, hN, hI, hR, hret, hlk⟩ := C
  intro r σ' h H locs ls hP hS hl
  exact lv_iand hx hb hd (k r σ' h H locs ls hP hS hl)
theorem r_ior {x y : Int32} (C : oC κ w nL cc own Ts n ret) (hd : decode cc pc = .ok (.ior, 1))  (k : oV κ w nL Q σ (pc + 1) lv (.int (x ||| y) :: st) res) : oV κ w nL Q σ pc lv (.int y :: .int x :: st) res := by
  obtain ⟨p, l, e, R, s, m, args, below, meth, c, mc, ms⟩ := κ
  obtain ⟨hx, hb, hml, hown, hts, hK, hZ, hN, hI, hR, hret, hlk⟩ := C
  intro r σ' h H locs ls hP hS hl
  exact lv_ior hx hb hd (k r σ' h H locs ls hP hS hl)
theorem r_ixor {x y : Int32} (C : oC κ w nL cc own Ts n ret) (hd : decode cc pc = .ok (.ixor, 1))  (k : oV κ w nL Q σ (pc + 1) lv (.int (x ^^^ y) :: st) res) : oV κ w nL Q σ pc lv (.int y :: .int x :: st) res := by
  obtain ⟨p, l, e, R, s, m, args, below, meth, c, mc, ms⟩ := κ
  obtain ⟨hx, hb, hml, hown, hts, hK, hZ, hN, hI, hR, hret, hlk⟩ := C
  intro r σ' h H locs ls hP hS hl
  exact lv_ixor hx hb hd (k r σ' h H locs ls hP hS hl)
theorem r_ishl {x y : Int32} (C : oC κ w nL cc own Ts n ret) (hd : decode cc pc = .ok (.ishl, 1))  (k : oV κ w nL Q σ (pc + 1) lv (.int (shl x y) :: st) res) : oV κ w nL Q σ pc lv (.int y :: .int x :: st) res := by
  obtain ⟨p, l, e, R, s, m, args, below, meth, c, mc, ms⟩ := κ
  obtain ⟨hx, hb, hml, hown, hts, hK, hZ, hN, hI, hR, hret, hlk⟩ := C
  intro r σ' h H locs ls hP hS hl
  exact lv_ishl hx hb hd (k r σ' h H locs ls hP hS hl)
theorem r_ishr {x y : Int32} (C : oC κ w nL cc own Ts n ret) (hd : decode cc pc = .ok (.ishr, 1))  (k : oV κ w nL Q σ (pc + 1) lv (.int (shr x y) :: st) res) : oV κ w nL Q σ pc lv (.int y :: .int x :: st) res := by
  obtain ⟨p, l, e, R, s, m, args, below, meth, c, mc, ms⟩ := κ
  obtain ⟨hx, hb, hml, hown, hts, hK, hZ, hN, hI, hR, hret, hlk⟩ := C
  intro r σ' h H locs ls hP hS hl
  exact lv_ishr hx hb hd (k r σ' h H locs ls hP hS hl)
theorem r_iushr {x y : Int32} (C : oC κ w nL cc own Ts n ret) (hd : decode cc pc = .ok (.iushr, 1))  (k : oV κ w nL Q σ (pc + 1) lv (.int (ius x y) :: st) res) : oV κ w nL Q σ pc lv (.int y :: .int x :: st) res := by
  obtain ⟨p, l, e, R, s, m, args, below, meth, c, mc, ms⟩ := κ
  obtain ⟨hx, hb, hml, hown, hts, hK, hZ, hN, hI, hR, hret, hlk⟩ := C
  intro r σ' h H locs ls hP hS hl
  exact lv_iushr hx hb hd rfl (k r σ' h H locs ls hP hS hl)
theorem r_ineg {x : Int32} (C : oC κ w nL cc own Ts n ret) (hd : decode cc pc = .ok (.ineg, 1))  (k : oV κ w nL Q σ (pc + 1) lv (.int (-x) :: st) res) : oV κ w nL Q σ pc lv (.int x :: st) res := by
  obtain ⟨p, l, e, R, s, m, args, below, meth, c, mc, ms⟩ := κ
  obtain ⟨hx, hb, hml, hown, hts, hK, hZ, hN, hI, hR, hret, hlk⟩ := C
  intro r σ' h H locs ls hP hS hl
  exact lv_ineg hx hb hd (k r σ' h H locs ls hP hS hl)
theorem r_ladd {x y : Int64} (C : oC κ w nL cc own Ts n ret) (hd : decode cc pc = .ok (.ladd, 1))  (k : oV κ w nL Q σ (pc + 1) lv (.long (x + y) :: st) res) : oV κ w nL Q σ pc lv (.long y :: .long x :: st) res := by
  obtain ⟨p, l, e, R, s, m, args, below, meth, c, mc, ms⟩ := κ
  obtain ⟨hx, hb, hml, hown, hts, hK, hZ, hN, hI, hR, hret, hlk⟩ := C
  intro r σ' h H locs ls hP hS hl
  exact lv_ladd hx hb hd (k r σ' h H locs ls hP hS hl)
theorem r_lsub {x y : Int64} (C : oC κ w nL cc own Ts n ret) (hd : decode cc pc = .ok (.lsub, 1))  (k : oV κ w nL Q σ (pc + 1) lv (.long (x - y) :: st) res) : oV κ w nL Q σ pc lv (.long y :: .long x :: st) res := by
  obtain ⟨p, l, e, R, s, m, args, below, meth, c, mc, ms⟩ := κ
  obtain ⟨hx, hb, hml, hown, hts, hK, hZ, hN, hI, hR, hret, hlk⟩ := C
  intro r σ' h H locs ls hP hS hl
  exact lv_lsub hx hb hd (k r σ' h H locs ls hP hS hl)
theorem r_lmul {x y : Int64} (C : oC κ w nL cc own Ts n ret) (hd : decode cc pc = .ok (.lmul, 1))  (k : oV κ w nL Q σ (pc + 1) lv (.long (x * y) :: st) res) : oV κ w nL Q σ pc lv (.long y :: .long x :: st) res := by
  obtain ⟨p, l, e, R, s, m, args, below, meth, c, mc, ms⟩ := κ
  obtain ⟨hx, hb, hml, hown, hts, hK, hZ, hN, hI, hR, hret, hlk⟩ := C
  intro r σ' h H locs ls hP hS hl
  exact lv_lmul hx hb hd (k r σ' h H locs ls hP hS hl)
theorem r_land {x y : Int64} (C : oC κ w nL cc own Ts n ret) (hd : decode cc pc = .ok (.land, 1))  (k : oV κ w nL Q σ (pc + 1) lv (.long (x &&& y) :: st) res) : oV κ w nL Q σ pc lv (.long y :: .long x :: st) res := by
  obtain ⟨p, l, e, R, s, m, args, below, meth, c, mc, ms⟩ := κ
  obtain ⟨hx, hb, hml, hown, hts, hK, hZ, hN, hI, hR, hret, hlk⟩ := C
  intro r σ' h H locs ls hP hS hl
  exact lv_land hx hb hd (k r σ' h H locs ls hP hS hl)
theorem r_lor {x y : Int64} (C : oC κ w nL cc own Ts n ret) (hd : decode cc pc = .ok (.lor, 1))  (k : oV κ w nL Q σ (pc + 1) lv (.long (x ||| y) :: st) res) : oV κ w nL Q σ pc lv (.long y :: .long x :: st) res := by
  obtain ⟨p, l, e, R, s, m, args, below, meth, c, mc, ms⟩ := κ
  obtain ⟨hx, hb, hml, hown, hts, hK, hZ, hN, hI, hR, hret, hlk⟩ := C
  intro r σ' h H locs ls hP hS hl
  exact lv_lor hx hb hd (k r σ' h H locs ls hP hS hl)
theorem r_lxor {x y : Int64} (C : oC κ w nL cc own Ts n ret) (hd : decode cc pc = .ok (.lxor, 1))  (k : oV κ w nL Q σ (pc + 1) lv (.long (x ^^^ y) :: st) res) : oV κ w nL Q σ pc lv (.long y :: .long x :: st) res := by
  obtain ⟨p, l, e, R, s, m, args, below, meth, c, mc, ms⟩ := κ
  obtain ⟨hx, hb, hml, hown, hts, hK, hZ, hN, hI, hR, hret, hlk⟩ := C
  intro r σ' h H locs ls hP hS hl
  exact lv_lxor hx hb hd (k r σ' h H locs ls hP hS hl)
theorem r_lushr {x : Int64} {y : Int32} (C : oC κ w nL cc own Ts n ret) (hd : decode cc pc = .ok (.lushr, 1))  (k : oV κ w nL Q σ (pc + 1) lv (.long (lus x y) :: st) res) : oV κ w nL Q σ pc lv (.int y :: .long x :: st) res := by
  obtain ⟨p, l, e, R, s, m, args, below, meth, c, mc, ms⟩ := κ
  obtain ⟨hx, hb, hml, hown, hts, hK, hZ, hN, hI, hR, hret, hlk⟩ := C
  intro r σ' h H locs ls hP hS hl
  exact lv_lushr hx hb hd rfl (k r σ' h H locs ls hP hS hl)
theorem r_lshl {x : Int64} {y : Int32} (C : oC κ w nL cc own Ts n ret) (hd : decode cc pc = .ok (.lshl, 1))  (k : oV κ w nL Q σ (pc + 1) lv (.long (lsl x y) :: st) res) : oV κ w nL Q σ pc lv (.int y :: .long x :: st) res := by
  obtain ⟨p, l, e, R, s, m, args, below, meth, c, mc, ms⟩ := κ
  obtain ⟨hx, hb, hml, hown, hts, hK, hZ, hN, hI, hR, hret, hlk⟩ := C
  intro r σ' h H locs ls hP hS hl
  exact lv_lshl hx hb hd rfl (k r σ' h H locs ls hP hS hl)
theorem r_lshr {x : Int64} {y : Int32} (C : oC κ w nL cc own Ts n ret) (hd : decode cc pc = .ok (.lshr, 1))  (k : oV κ w nL Q σ (pc + 1) lv (.long (lsr x y) :: st) res) : oV κ w nL Q σ pc lv (.int y :: .long x :: st) res := by
  obtain ⟨p, l, e, R, s, m, args, below, meth, c, mc, ms⟩ := κ
  obtain ⟨hx, hb, hml, hown, hts, hK, hZ, hN, hI, hR, hret, hlk⟩ := C
  intro r σ' h H locs ls hP hS hl
  exact lv_lshr hx hb hd rfl (k r σ' h H locs ls hP hS hl)
theorem r_lcmp {x y : Int64} (C : oC κ w nL cc own Ts n ret) (hd : decode cc pc = .ok (.lcmp, 1))  (k : oV κ w nL Q σ (pc + 1) lv (.int (lg_cmp x y) :: st) res) : oV κ w nL Q σ pc lv (.long y :: .long x :: st) res := by
  obtain ⟨p, l, e, R, s, m, args, below, meth, c, mc, ms⟩ := κ
  obtain ⟨hx, hb, hml, hown, hts, hK, hZ, hN, hI, hR, hret, hlk⟩ := C
  intro r σ' h H locs ls hP hS hl
  exact W.lcmp hx hb hd (k r σ' h H locs ls hP hS hl)
theorem r_i2l {x : Int32} (C : oC κ w nL cc own Ts n ret) (hd : decode cc pc = .ok (.i2l, 1))  (k : oV κ w nL Q σ (pc + 1) lv (.long x.toInt64 :: st) res) : oV κ w nL Q σ pc lv (.int x :: st) res := by
  obtain ⟨p, l, e, R, s, m, args, below, meth, c, mc, ms⟩ := κ
  obtain ⟨hx, hb, hml, hown, hts, hK, hZ, hN, hI, hR, hret, hlk⟩ := C
  intro r σ' h H locs ls hP hS hl
  exact lv_i2l hx hb hd rfl (k r σ' h H locs ls hP hS hl)
theorem r_l2i {x : Int64} (C : oC κ w nL cc own Ts n ret) (hd : decode cc pc = .ok (.l2i, 1))  (k : oV κ w nL Q σ (pc + 1) lv (.int x.toInt32 :: st) res) : oV κ w nL Q σ pc lv (.long x :: st) res := by
  obtain ⟨p, l, e, R, s, m, args, below, meth, c, mc, ms⟩ := κ
  obtain ⟨hx, hb, hml, hown, hts, hK, hZ, hN, hI, hR, hret, hlk⟩ := C
  intro r σ' h H locs ls hP hS hl
  exact lv_l2i hx hb hd rfl (k r σ' h H locs ls hP hS hl)
theorem r_i2b {x : Int32} (C : oC κ w nL cc own Ts n ret) (hd : decode cc pc = .ok (.i2b, 1))  (k : oV κ w nL Q σ (pc + 1) lv (.int x.toInt8.toInt32 :: st) res) : oV κ w nL Q σ pc lv (.int x :: st) res := by
  obtain ⟨p, l, e, R, s, m, args, below, meth, c, mc, ms⟩ := κ
  obtain ⟨hx, hb, hml, hown, hts, hK, hZ, hN, hI, hR, hret, hlk⟩ := C
  intro r σ' h H locs ls hP hS hl
  exact lv_i2b hx hb hd rfl (k r σ' h H locs ls hP hS hl)
theorem r_i2s {x : Int32} (C : oC κ w nL cc own Ts n ret) (hd : decode cc pc = .ok (.i2s, 1))  (k : oV κ w nL Q σ (pc + 1) lv (.int x.toInt16.toInt32 :: st) res) : oV κ w nL Q σ pc lv (.int x :: st) res := by
  obtain ⟨p, l, e, R, s, m, args, below, meth, c, mc, ms⟩ := κ
  obtain ⟨hx, hb, hml, hown, hts, hK, hZ, hN, hI, hR, hret, hlk⟩ := C
  intro r σ' h H locs ls hP hS hl
  exact lv_i2s hx hb hd rfl (k r σ' h H locs ls hP hS hl)
theorem r_idiv {x y : Int32} (C : oC κ w nL cc own Ts n ret) (hd : decode cc pc = .ok (.idiv, 1)) (hne : ¬ y = 0) (k : oV κ w nL Q σ (pc + 1) lv (.int (x / y) :: st) res) : oV κ w nL Q σ pc lv (.int y :: .int x :: st) res := by
  obtain ⟨p, l, e, R, s, m, args, below, meth, c, mc, ms⟩ := κ
  obtain ⟨hx, hb, hml, hown, hts, hK, hZ, hN, hI, hR, hret, hlk⟩ := C
  intro r σ' h H locs ls hP hS hl
  exact lv_idiv hx hb hd hne (k r σ' h H locs ls hP hS hl)
theorem r_irem {x y : Int32} (C : oC κ w nL cc own Ts n ret) (hd : decode cc pc = .ok (.irem, 1)) (hne : ¬ y = 0) (k : oV κ w nL Q σ (pc + 1) lv (.int (irm x y) :: st) res) : oV κ w nL Q σ pc lv (.int y :: .int x :: st) res := by
  obtain ⟨p, l, e, R, s, m, args, below, meth, c, mc, ms⟩ := κ
  obtain ⟨hx, hb, hml, hown, hts, hK, hZ, hN, hI, hR, hret, hlk⟩ := C
  intro r σ' h H locs ls hP hS hl
  exact lv_irem hx hb hd hne (k r σ' h H locs ls hP hS hl)
theorem r_ldiv {x y : Int64} (C : oC κ w nL cc own Ts n ret) (hd : decode cc pc = .ok (.ldiv, 1)) (hne : ¬ y = 0) (k : oV κ w nL Q σ (pc + 1) lv (.long (x / y) :: st) res) : oV κ w nL Q σ pc lv (.long y :: .long x :: st) res := by
  obtain ⟨p, l, e, R, s, m, args, below, meth, c, mc, ms⟩ := κ
  obtain ⟨hx, hb, hml, hown, hts, hK, hZ, hN, hI, hR, hret, hlk⟩ := C
  intro r σ' h H locs ls hP hS hl
  exact lv_ldiv hx hb hd hne (k r σ' h H locs ls hP hS hl)
theorem r_lrem {x y : Int64} (C : oC κ w nL cc own Ts n ret) (hd : decode cc pc = .ok (.lrem, 1)) (hne : ¬ y = 0) (k : oV κ w nL Q σ (pc + 1) lv (.long (lrm x y) :: st) res) : oV κ w nL Q σ pc lv (.long y :: .long x :: st) res := by
  obtain ⟨p, l, e, R, s, m, args, below, meth, c, mc, ms⟩ := κ
  obtain ⟨hx, hb, hml, hown, hts, hK, hZ, hN, hI, hR, hret, hlk⟩ := C
  intro r σ' h H locs ls hP hS hl
  exact lv_lrem hx hb hd hne (k r σ' h H locs ls hP hS hl)
theorem r_dup {va : Value} (C : oC κ w nL cc own Ts n ret) (hd : decode cc pc = .ok (.dup, 1)) (hva : va.category = 1) (k : oV κ w nL Q σ (pc + 1) lv (va :: va :: st) res) : oV κ w nL Q σ pc lv (va :: st) res := by
  obtain ⟨p, l, e, R, s, m, args, below, meth, c, mc, ms⟩ := κ
  obtain ⟨hx, hb, hml, hown, hts, hK, hZ, hN, hI, hR, hret, hlk⟩ := C
  intro r σ' h H locs ls hP hS hl
  exact lv_dup hx hb hd hva (k r σ' h H locs ls hP hS hl)
theorem r_pop {va : Value} (C : oC κ w nL cc own Ts n ret) (hd : decode cc pc = .ok (.pop, 1)) (hva : va.category = 1) (k : oV κ w nL Q σ (pc + 1) lv st res) : oV κ w nL Q σ pc lv (va :: st) res := by
  obtain ⟨p, l, e, R, s, m, args, below, meth, c, mc, ms⟩ := κ
  obtain ⟨hx, hb, hml, hown, hts, hK, hZ, hN, hI, hR, hret, hlk⟩ := C
  intro r σ' h H locs ls hP hS hl
  exact lv_pop hx hb hd hva (k r σ' h H locs ls hP hS hl)
theorem r_dup2 {va vb : Value} (C : oC κ w nL cc own Ts n ret) (hd : decode cc pc = .ok (.dup2, 1)) (hva : va.category = 1) (hvb : vb.category = 1) (k : oV κ w nL Q σ (pc + 1) lv (va :: vb :: va :: vb :: st) res) : oV κ w nL Q σ pc lv (va :: vb :: st) res := by
  obtain ⟨p, l, e, R, s, m, args, below, meth, c, mc, ms⟩ := κ
  obtain ⟨hx, hb, hml, hown, hts, hK, hZ, hN, hI, hR, hret, hlk⟩ := C
  intro r σ' h H locs ls hP hS hl
  exact lv_dup2_11 hx hb hd hva hvb (k r σ' h H locs ls hP hS hl)
theorem r_goto {off : Int} {tgt : Nat} (C : oC κ w nL cc own Ts n ret) (hd : decode cc pc = .ok (.goto off, 3)) (ht : (pc : Int) + off = (tgt : Int)) (k : oV κ w nL Q σ tgt lv st res) : oV κ w nL Q σ pc lv st res := by
  obtain ⟨p, l, e, R, s, m, args, below, meth, c, mc, ms⟩ := κ
  obtain ⟨hx, hb, hml, hown, hts, hK, hZ, hN, hI, hR, hret, hlk⟩ := C
  intro r σ' h H locs ls hP hS hl
  exact lv_goto hx hb hd ht (k r σ' h H locs ls hP hS hl)
theorem r_ifeq {x : Int32} {off : Int} {tgt : Nat} {A B : Option (α × Sg)} (C : oC κ w nL cc own Ts n ret) (hd : decode cc pc = .ok (.ifCond .eq off, 3)) (ht : (pc : Int) + off = (tgt : Int)) (kt : oV κ w nL Q σ tgt lv st A) (kf : oV κ w nL Q σ (pc + 3) lv st B) : oV κ w nL Q σ pc lv (.int x :: st) (if x = 0 then A else B) := by
  obtain ⟨p, l, e, R, s, m, args, below, meth, c, mc, ms⟩ := κ
  obtain ⟨hx, hb, hml, hown, hts, hK, hZ, hN, hI, hR, hret, hlk⟩ := C
  intro r σ' h H locs ls hP hS hl
  exact lv_if_eq hx hb hd ht (fun hc => kt r σ' (by rw [if_pos hc] at h; exact h) H locs ls hP hS hl) (fun hc => kf r σ' (by rw [if_neg hc] at h; exact h) H locs ls hP hS hl)
theorem r_iflt {x : Int32} {off : Int} {tgt : Nat} {A B : Option (α × Sg)} (C : oC κ w nL cc own Ts n ret) (hd : decode cc pc = .ok (.ifCond .lt off, 3)) (ht : (pc : Int) + off = (tgt : Int)) (kt : oV κ w nL Q σ tgt lv st A) (kf : oV κ w nL Q σ (pc + 3) lv st B) : oV κ w nL Q σ pc lv (.int x :: st) (if x < 0 then A else B) := by
  obtain ⟨p, l, e, R, s, m, args, below, meth, c, mc, ms⟩ := κ
  obtain ⟨hx, hb, hml, hown, hts, hK, hZ, hN, hI, hR, hret, hlk⟩ := C
  intro r σ' h H locs ls hP hS hl
  exact lv_if_lt hx hb hd ht (fun hc => kt r σ' (by rw [if_pos hc] at h; exact h) H locs ls hP hS hl) (fun hc => kf r σ' (by rw [if_neg hc] at h; exact h) H locs ls hP hS hl)
theorem r_ifge {x : Int32} {off : Int} {tgt : Nat} {A B : Option (α × Sg)} (C : oC κ w nL cc own Ts n ret) (hd : decode cc pc = .ok (.ifCond .ge off, 3)) (ht : (pc : Int) + off = (tgt : Int)) (kt : oV κ w nL Q σ tgt lv st A) (kf : oV κ w nL Q σ (pc + 3) lv st B) : oV κ w nL Q σ pc lv (.int x :: st) (if 0 ≤ x then A else B) := by
  obtain ⟨p, l, e, R, s, m, args, below, meth, c, mc, ms⟩ := κ
  obtain ⟨hx, hb, hml, hown, hts, hK, hZ, hN, hI, hR, hret, hlk⟩ := C
  intro r σ' h H locs ls hP hS hl
  exact lv_if_ge hx hb hd ht (fun hc => kt r σ' (by rw [if_pos hc] at h; exact h) H locs ls hP hS hl) (fun hc => kf r σ' (by rw [if_neg hc] at h; exact h) H locs ls hP hS hl)
theorem r_ifgt {x : Int32} {off : Int} {tgt : Nat} {A B : Option (α × Sg)} (C : oC κ w nL cc own Ts n ret) (hd : decode cc pc = .ok (.ifCond .gt off, 3)) (ht : (pc : Int) + off = (tgt : Int)) (kt : oV κ w nL Q σ tgt lv st A) (kf : oV κ w nL Q σ (pc + 3) lv st B) : oV κ w nL Q σ pc lv (.int x :: st) (if 0 < x then A else B) := by
  obtain ⟨p, l, e, R, s, m, args, below, meth, c, mc, ms⟩ := κ
  obtain ⟨hx, hb, hml, hown, hts, hK, hZ, hN, hI, hR, hret, hlk⟩ := C
  intro r σ' h H locs ls hP hS hl
  exact lv_if_gt hx hb hd ht (fun hc => kt r σ' (by rw [if_pos hc] at h; exact h) H locs ls hP hS hl) (fun hc => kf r σ' (by rw [if_neg hc] at h; exact h) H locs ls hP hS hl)
theorem r_ifle {x : Int32} {off : Int} {tgt : Nat} {A B : Option (α × Sg)} (C : oC κ w nL cc own Ts n ret) (hd : decode cc pc = .ok (.ifCond .le off, 3)) (ht : (pc : Int) + off = (tgt : Int)) (kt : oV κ w nL Q σ tgt lv st A) (kf : oV κ w nL Q σ (pc + 3) lv st B) : oV κ w nL Q σ pc lv (.int x :: st) (if x ≤ 0 then A else B) := by
  obtain ⟨p, l, e, R, s, m, args, below, meth, c, mc, ms⟩ := κ
  obtain ⟨hx, hb, hml, hown, hts, hK, hZ, hN, hI, hR, hret, hlk⟩ := C
  intro r σ' h H locs ls hP hS hl
  exact lv_if_le hx hb hd ht (fun hc => kt r σ' (by rw [if_pos hc] at h; exact h) H locs ls hP hS hl) (fun hc => kf r σ' (by rw [if_neg hc] at h; exact h) H locs ls hP hS hl)
theorem r_iceq {x y : Int32} {off : Int} {tgt : Nat} {A B : Option (α × Sg)} (C : oC κ w nL cc own Ts n ret) (hd : decode cc pc = .ok (.if_icmp .eq off, 3)) (ht : (pc : Int) + off = (tgt : Int)) (kt : oV κ w nL Q σ tgt lv st A) (kf : oV κ w nL Q σ (pc + 3) lv st B) : oV κ w nL Q σ pc lv (.int y :: .int x :: st) (if x = y then A else B) := by
  obtain ⟨p, l, e, R, s, m, args, below, meth, c, mc, ms⟩ := κ
  obtain ⟨hx, hb, hml, hown, hts, hK, hZ, hN, hI, hR, hret, hlk⟩ := C
  intro r σ' h H locs ls hP hS hl
  exact lv_icmp_eq hx hb hd ht (fun hc => kt r σ' (by rw [if_pos hc] at h; exact h) H locs ls hP hS hl) (fun hc => kf r σ' (by rw [if_neg hc] at h; exact h) H locs ls hP hS hl)
theorem r_iclt {x y : Int32} {off : Int} {tgt : Nat} {A B : Option (α × Sg)} (C : oC κ w nL cc own Ts n ret) (hd : decode cc pc = .ok (.if_icmp .lt off, 3)) (ht : (pc : Int) + off = (tgt : Int)) (kt : oV κ w nL Q σ tgt lv st A) (kf : oV κ w nL Q σ (pc + 3) lv st B) : oV κ w nL Q σ pc lv (.int y :: .int x :: st) (if x < y then A else B) := by
  obtain ⟨p, l, e, R, s, m, args, below, meth, c, mc, ms⟩ := κ
  obtain ⟨hx, hb, hml, hown, hts, hK, hZ, hN, hI, hR, hret, hlk⟩ := C
  intro r σ' h H locs ls hP hS hl
  exact lv_icmp_lt hx hb hd ht (fun hc => kt r σ' (by rw [if_pos hc] at h; exact h) H locs ls hP hS hl) (fun hc => kf r σ' (by rw [if_neg hc] at h; exact h) H locs ls hP hS hl)
theorem r_icge {x y : Int32} {off : Int} {tgt : Nat} {A B : Option (α × Sg)} (C : oC κ w nL cc own Ts n ret) (hd : decode cc pc = .ok (.if_icmp .ge off, 3)) (ht : (pc : Int) + off = (tgt : Int)) (kt : oV κ w nL Q σ tgt lv st A) (kf : oV κ w nL Q σ (pc + 3) lv st B) : oV κ w nL Q σ pc lv (.int y :: .int x :: st) (if y ≤ x then A else B) := by
  obtain ⟨p, l, e, R, s, m, args, below, meth, c, mc, ms⟩ := κ
  obtain ⟨hx, hb, hml, hown, hts, hK, hZ, hN, hI, hR, hret, hlk⟩ := C
  intro r σ' h H locs ls hP hS hl
  exact lv_icmp_ge hx hb hd ht (fun hc => kt r σ' (by rw [if_pos hc] at h; exact h) H locs ls hP hS hl) (fun hc => kf r σ' (by rw [if_neg hc] at h; exact h) H locs ls hP hS hl)
theorem r_icgt {x y : Int32} {off : Int} {tgt : Nat} {A B : Option (α × Sg)} (C : oC κ w nL cc own Ts n ret) (hd : decode cc pc = .ok (.if_icmp .gt off, 3)) (ht : (pc : Int) + off = (tgt : Int)) (kt : oV κ w nL Q σ tgt lv st A) (kf : oV κ w nL Q σ (pc + 3) lv st B) : oV κ w nL Q σ pc lv (.int y :: .int x :: st) (if y < x then A else B) := by
  obtain ⟨p, l, e, R, s, m, args, below, meth, c, mc, ms⟩ := κ
  obtain ⟨hx, hb, hml, hown, hts, hK, hZ, hN, hI, hR, hret, hlk⟩ := C
  intro r σ' h H locs ls hP hS hl
  exact lv_icmp_gt hx hb hd ht (fun hc => kt r σ' (by rw [if_pos hc] at h; exact h) H locs ls hP hS hl) (fun hc => kf r σ' (by rw [if_neg hc] at h; exact h) H locs ls hP hS hl)
theorem r_icle {x y : Int32} {off : Int} {tgt : Nat} {A B : Option (α × Sg)} (C : oC κ w nL cc own Ts n ret) (hd : decode cc pc = .ok (.if_icmp .le off, 3)) (ht : (pc : Int) + off = (tgt : Int)) (kt : oV κ w nL Q σ tgt lv st A) (kf : oV κ w nL Q σ (pc + 3) lv st B) : oV κ w nL Q σ pc lv (.int y :: .int x :: st) (if x ≤ y then A else B) := by
  obtain ⟨p, l, e, R, s, m, args, below, meth, c, mc, ms⟩ := κ
  obtain ⟨hx, hb, hml, hown, hts, hK, hZ, hN, hI, hR, hret, hlk⟩ := C
  intro r σ' h H locs ls hP hS hl
  exact lv_icmp_le hx hb hd ht (fun hc => kt r σ' (by rw [if_pos hc] at h; exact h) H locs ls hP hS hl) (fun hc => kf r σ' (by rw [if_neg hc] at h; exact h) H locs ls hP hS hl)
theorem r_ifne {x : Int32} {off : Int} {tgt : Nat} {A B : Option (α × Sg)} (C : oC κ w nL cc own Ts n ret) (hd : decode cc pc = .ok (.ifCond .ne off, 3)) (ht : (pc : Int) + off = (tgt : Int)) (kt : oV κ w nL Q σ tgt lv st B) (kf : oV κ w nL Q σ (pc + 3) lv st A) : oV κ w nL Q σ pc lv (.int x :: st) (if x = 0 then A else B) := by
  obtain ⟨p, l, e, R, s, m, args, below, meth, c, mc, ms⟩ := κ
  obtain ⟨hx, hb, hml, hown, hts, hK, hZ, hN, hI, hR, hret, hlk⟩ := C
  intro r σ' h H locs ls hP hS hl
  exact lv_if_ne hx hb hd ht (fun hc => kt r σ' (by rw [if_neg hc] at h; exact h) H locs ls hP hS hl) (fun hc => kf r σ' (by rw [if_pos hc] at h; exact h) H locs ls hP hS hl)
theorem r_icne {x y : Int32} {off : Int} {tgt : Nat} {A B : Option (α × Sg)} (C : oC κ w nL cc own Ts n ret) (hd : decode cc pc = .ok (.if_icmp .ne off, 3)) (ht : (pc : Int) + off = (tgt : Int)) (kt : oV κ w nL Q σ tgt lv st B) (kf : oV κ w nL Q σ (pc + 3) lv st A) : oV κ w nL Q σ pc lv (.int y :: .int x :: st) (if x = y then A else B) := by
  obtain ⟨p, l, e, R, s, m, args, below, meth, c, mc, ms⟩ := κ
  obtain ⟨hx, hb, hml, hown, hts, hK, hZ, hN, hI, hR, hret, hlk⟩ := C
  intro r σ' h H locs ls hP hS hl
  exact lv_icmp_ne hx hb hd ht (fun hc => kt r σ' (by rw [if_neg hc] at h; exact h) H locs ls hP hS hl) (fun hc => kf r σ' (by rw [if_pos hc] at h; exact h) H locs ls hP hS hl)
theorem r_lookE {dflt : Int} {ps : Array (Int × Int)} {len : Nat} {x v : Int32} {off : Int} {tgt : Nat} (C : oC κ w nL cc own Ts n ret) (hd : decode cc pc = .ok (.lookupswitch dflt ps, len)) (hp : (ps.toList.zip (ps.toList.drop 1)).all (fun (a, next) => a.1 < next.1) = true) (hv : x = v) (ho : Op.lookupswitch.offset ps.toList dflt v.toInt = off) (ht : (pc : Int) + off = (tgt : Int)) (k : oV κ w nL Q σ tgt lv st res) : oV κ w nL Q σ pc lv (.int x :: st) res := by
  obtain ⟨p, l, e, R, s, m, args, below, meth, c, mc, ms⟩ := κ
  obtain ⟨hx, hb, hml, hown, hts, hK, hZ, hN, hI, hR, hret, hlk⟩ := C
  intro r σ' h H locs ls hP hS hl
  exact lv_lookup hx hb hd hp (by rw [hv]; exact ho) ht (k r σ' h H locs ls hP hS hl)
theorem r_lookO {dflt : Int} {ps : Array (Int × Int)} {len : Nat} {x : Int32} {off : Int} {tgt : Nat} (C : oC κ w nL cc own Ts n ret) (hd : decode cc pc = .ok (.lookupswitch dflt ps, len)) (hp : (ps.toList.zip (ps.toList.drop 1)).all (fun (a, next) => a.1 < next.1) = true) (ho : Op.lookupswitch.offset ps.toList dflt x.toInt = off) (ht : (pc : Int) + off = (tgt : Int)) (k : oV κ w nL Q σ tgt lv st res) : oV κ w nL Q σ pc lv (.int x :: st) res := by
  obtain ⟨p, l, e, R, s, m, args, below, meth, c, mc, ms⟩ := κ
  obtain ⟨hx, hb, hml, hown, hts, hK, hZ, hN, hI, hR, hret, hlk⟩ := C
  intro r σ' h H locs ls hP hS hl
  exact lv_lookup hx hb hd hp ho ht (k r σ' h H locs ls hP hS hl)
theorem r_tabE {dflt lo hi : Int} {offs : Array Int} {len : Nat} {x v : Int32} {off : Int} {tgt : Nat} (C : oC κ w nL cc own Ts n ret) (hd : decode cc pc = .ok (.tableswitch dflt lo hi offs, len)) (hv : x = v) (h1 : ¬ v.toInt < lo) (h2 : ¬ hi < v.toInt) (ho : offs[(v.toInt - lo).toNat]? = some off) (ht : (pc : Int) + off = (tgt : Int)) (k : oV κ w nL Q σ tgt lv st res) : oV κ w nL Q σ pc lv (.int x :: st) res := by
  obtain ⟨p, l, e, R, s, m, args, below, meth, c, mc, ms⟩ := κ
  obtain ⟨hx, hb, hml, hown, hts, hK, hZ, hN, hI, hR, hret, hlk⟩ := C
  intro r σ' h H locs ls hP hS hl
  exact lv_tableIn hx hb hd (by rw [hv]; exact h1) (by rw [hv]; exact h2) (by rw [hv]; exact ho) ht (k r σ' h H locs ls hP hS hl)
theorem r_tabO {dflt lo hi : Int} {offs : Array Int} {len : Nat} {x : Int32} {tgt : Nat} (C : oC κ w nL cc own Ts n ret) (hd : decode cc pc = .ok (.tableswitch dflt lo hi offs, len)) (hv : x.toInt < lo ∨ hi < x.toInt) (ht : (pc : Int) + dflt = (tgt : Int)) (k : oV κ w nL Q σ tgt lv st res) : oV κ w nL Q σ pc lv (.int x :: st) res := by
  obtain ⟨p, l, e, R, s, m, args, below, meth, c, mc, ms⟩ := κ
  obtain ⟨hx, hb, hml, hown, hts, hK, hZ, hN, hI, hR, hret, hlk⟩ := C
  intro r σ' h H locs ls hP hS hl
  exact lv_tableOut hx hb hd hv ht (k r σ' h H locs ls hP hS hl)
theorem r_get {Cn : String} {T : u_T} {N ci idx : Nat} {fs : List Value} {v : Value} {k0 : Nat} (C : oC κ w nL cc own Ts n ret) (hin : ∀ c ∈ u_ws Cn T N, c ∈ Ts) (hk : k0 < w.2.2.1) (he : w.2.2.2.2.1 k0 (σ k0) = .inr (ci, fs)) (hc : vwCl[ci]? = some (Cn, T, N)) (i : Nat) (hi : i < N) (hlink : Cond.fieldLink own idx (T i).1 (T i).2.1 (T i).2.2.1 ∈ Ts) (hv : fs[i]? = some v) (hd : decode cc pc = .ok (.getfield idx, 3)) (k : oV κ w nL Q σ (pc + 3) lv (v :: st) res) : oV κ w nL Q σ pc lv (.ref (w.2.2.2.1 k0) :: st) res := by
  obtain ⟨p, l, e, R, s, m, args, below, meth, c, mc, ms⟩ := κ
  obtain ⟨hx, hb, hml, hown, hts, hK, hZ, hN, hI, hR, hret, hlk⟩ := C
  intro r σ' h H locs ls hP hS hl
  exact va_get hx hb hts hin hown hK hP k0 (by rw [oW_get hk, he]) hc i hi (hts _ hlink) (fun _ h9 => h9) hv hd (k r σ' h H locs ls hP hS hl)
theorem r_getN {Cn : String} {T : u_T} {N ci idx : Nat} {fs : List Value} {v : Value} {k0 : Nat} (C : oC κ w nL cc own Ts n ret) (hin : ∀ c ∈ u_ws Cn T N, c ∈ Ts) (hk : k0 < w.2.2.1) (he : w.2.2.2.2.1 k0 (σ k0) = .inr (ci, fs)) (hc : vwCl[ci]? = some (Cn, T, N)) (i : Nat) (hi : i < N) {host : String} (hlink : Cond.fieldLinkNest own idx (T i).1 (T i).2.1 (T i).2.2.1 host ∈ oNw) (hv : fs[i]? = some v) (hd : decode cc pc = .ok (.getfield idx, 3)) (k : oV κ w nL Q σ (pc + 3) lv (v :: st) res) : oV κ w nL Q σ pc lv (.ref (w.2.2.2.1 k0) :: st) res := by
  obtain ⟨p, l, e, R, s, m, args, below, meth, c, mc, ms⟩ := κ
  obtain ⟨hx, hb, hml, hown, hts, hK, hZ, hN, hI, hR, hret, hlk⟩ := C
  intro r σ' h H locs ls hP hS hl
  exact va_getN (host := host) hx hb hts hin hown hK hP k0 (by rw [oW_get hk, he]) hc i hi (va_Nw.use rfl (hN _ hlink)) (fun _ h9 => h9) hv hd (k r σ' h H locs ls hP hS hl)
theorem r_put {Cn : String} {T : u_T} {N ci idx : Nat} {fs : List Value} {v : Value} {k0 : Nat} {z : Int32} {ty : FieldType} {K : Sg → Option (α × Sg)} (C : oC κ w nL cc own Ts n ret) (hin : ∀ c ∈ u_ws Cn T N, c ∈ Ts) (ty0 : Nat → FieldType) (hty : ∀ k, k < N → parseFieldDescriptor (T k).2.2.1 = some (ty0 k)) (hnm : ∀ a, a < N → ∀ b, b < N → a ≠ b → (T a).2.1 ≠ (T b).2.1) (hk : k0 < w.2.2.1) (he : w.2.2.2.2.1 k0 (σ k0) = .inr (ci, fs)) (hc : vwCl[ci]? = some (Cn, T, N)) (i : Nat) (hi : i < N) (hlink : Cond.fieldLink own idx (T i).1 (T i).2.1 (T i).2.2.1 ∈ Ts) (hfin : (T i).2.2.2 = false) (hdsc : parseFieldDescriptor (T i).2.2.1 = some ty) (hnf : narrow ty v = v ∧ fits ty v = true) (hlen : i < fs.length) (he2 : w.2.2.2.2.1 k0 (upd (σ k0) i z) = .inr (ci, fs.set i v)) (hd : decode cc pc = .ok (.putfield idx, 3)) (k : ∀ σ1 : Sg, oV κ w nL Q σ1 (pc + 3) lv st (K σ1)) : oV κ w nL Q σ pc lv (v :: .ref (w.2.2.2.1 k0) :: st) (lt (up σ k0 i z) K) := by
  obtain ⟨p, l, e, R, s, m, args, below, meth, c, mc, ms⟩ := κ
  obtain ⟨hx, hb, hml, hown, hts, hK, hZ, hN, hI, hR, hret, hlk⟩ := C
  intro r σ' h H locs ls hP hS hl
  refine va_put hx hb hts hin ty0 hty hnm hown hK hP (hI.D σ) hS k0 (by rw [oW_get hk, he]) hc i hi (hts _ hlink) (fun _ h9 => h9) hfin hdsc hnf.1 hnf.2 hlen hd (fun H1 locs1 hP1 hD1 hS1 => ?_)
  refine k (up σ k0 i z) r σ' h H1 locs1 ls ?_ hS1 hl
  rw [oW_set (σ' := up σ k0 i z) (by rw [up_at, he2]) (fun j hj => up_ne hj)] at hP1
  exact hP1
theorem r_putN {Cn : String} {T : u_T} {N ci idx : Nat} {fs : List Value} {v : Value} {k0 : Nat} {z : Int32} {ty : FieldType} {K : Sg → Option (α × Sg)} (C : oC κ w nL cc own Ts n ret) (hin : ∀ c ∈ u_ws Cn T N, c ∈ Ts) (ty0 : Nat → FieldType) (hty : ∀ k, k < N → parseFieldDescriptor (T k).2.2.1 = some (ty0 k)) (hnm : ∀ a, a < N → ∀ b, b < N → a ≠ b → (T a).2.1 ≠ (T b).2.1) (hk : k0 < w.2.2.1) (he : w.2.2.2.2.1 k0 (σ k0) = .inr (ci, fs)) (hc : vwCl[ci]? = some (Cn, T, N)) (i : Nat) (hi : i < N) {host : String} (hlink : Cond.fieldLinkNest own idx (T i).1 (T i).2.1 (T i).2.2.1 host ∈ oNw) (hfin : (T i).2.2.2 = false) (hdsc : parseFieldDescriptor (T i).2.2.1 = some ty) (hnf : narrow ty v = v ∧ fits ty v = true) (hlen : i < fs.length) (he2 : w.2.2.2.2.1 k0 (upd (σ k0) i z) = .inr (ci, fs.set i v)) (hd : decode cc pc = .ok (.putfield idx, 3)) (k : ∀ σ1 : Sg, oV κ w nL Q σ1 (pc + 3) lv st (K σ1)) : oV κ w nL Q σ pc lv (v :: .ref (w.2.2.2.1 k0) :: st) (lt (up σ k0 i z) K) := by
  obtain ⟨p, l, e, R, s, m, args, below, meth, c, mc, ms⟩ := κ
  obtain ⟨hx, hb, hml, hown, hts, hK, hZ, hN, hI, hR, hret, hlk⟩ := C
  intro r σ' h H locs ls hP hS hl
  refine va_putN (host := host) hx hb hts hin ty0 hty hnm hown hK hP (hI.D σ) hS k0 (by rw [oW_get hk, he]) hc i hi (va_Nw.use rfl (hN _ hlink)) (fun _ h9 => h9) hfin hdsc hnf.1 hnf.2 hlen hd (fun H1 locs1 hP1 hD1 hS1 => ?_)
  refine k (up σ k0 i z) r σ' h H1 locs1 ls ?_ hS1 hl
  rw [oW_set (σ' := up σ k0 i z) (by rw [up_at, he2]) (fun j hj => up_ne hj)] at hP1
  exact hP1
theorem r_iald {nA k0 : Nat} {cA : ClassId} {i : Int32} {X : Option (α × Sg)} (C : oC κ w nL cc own Ts n ret) (hk : k0 < w.2.2.1) (he : w.2.2.2.2.1 k0 (σ k0) = .inl (cA, nA, .inl (σ k0))) (ht : w.2.1[0]? = some (cA, .int)) (hd : decode cc pc = .ok (.iaload, 1)) (k : oV κ w nL Q σ (pc + 1) lv (.int (rd (σ k0) i) :: st) X) : oV κ w nL Q σ pc lv (.int i :: .ref (w.2.2.2.1 k0) :: st) (ckb (inb i nA) X) := by
  obtain ⟨p, l, e, R, s, m, args, below, meth, c, mc, ms⟩ := κ
  obtain ⟨hx, hb, hml, hown, hts, hK, hZ, hN, hI, hR, hret, hlk⟩ := C
  intro r σ' h H locs ls hP hS hl
  obtain ⟨hb0, h⟩ := ckb_some h
  exact va_iald hx hb hK hP k0 0 (by rw [oW_get hk, he]) ht (inb_in hb0) hd (k r σ' h H locs ls hP hS hl)
theorem r_iast {nA k0 : Nat} {cA : ClassId} {i x : Int32} {K : Sg → Option (α × Sg)} (C : oC κ w nL cc own Ts n ret) (hk : k0 < w.2.2.1) (he : w.2.2.2.2.1 k0 (σ k0) = .inl (cA, nA, .inl (σ k0))) (ht : w.2.1[0]? = some (cA, .int)) (he2 : w.2.2.2.2.1 k0 (upd (σ k0) i.toNatClampNeg x) = .inl (cA, nA, .inl (upd (σ k0) i.toNatClampNeg x))) (hd : decode cc pc = .ok (.iastore, 1)) (k : ∀ σ1 : Sg, oV κ w nL Q σ1 (pc + 1) lv st (K σ1)) : oV κ w nL Q σ pc lv (.int x :: .int i :: .ref (w.2.2.2.1 k0) :: st) (ckb (inb i nA) (lt (up σ k0 i.toNatClampNeg x) K)) := by
  obtain ⟨p, l, e, R, s, m, args, below, meth, c, mc, ms⟩ := κ
  obtain ⟨hx, hb, hml, hown, hts, hK, hZ, hN, hI, hR, hret, hlk⟩ := C
  intro r σ' h H locs ls hP hS hl
  obtain ⟨hb0, h⟩ := ckb_some h
  refine va_iast hx hb hK hP (hI.D σ) hS k0 0 (by rw [oW_get hk, he]) ht (inb_in hb0) hd (fun H1 locs1 hP1 hD1 hS1 => ?_)
  refine k (up σ k0 i.toNatClampNeg x) r σ' h H1 locs1 ls ?_ hS1 hl
  rw [oW_set (σ' := up σ k0 i.toNatClampNeg x) (by rw [up_at, he2]) (fun j hj => up_ne hj)] at hP1
  exact hP1
theorem r_alen {nA k0 : Nat} {cA : ClassId} {v : Int32} (C : oC κ w nL cc own Ts n ret) (hk : k0 < w.2.2.1) (he : w.2.2.2.2.1 k0 (σ k0) = .inl (cA, nA, .inl (σ k0))) (ht : w.2.1[0]? = some (cA, .int)) (hv : Int32.ofNat nA = v) (hd : decode cc pc = .ok (.arraylength, 1)) (k : oV κ w nL Q σ (pc + 1) lv (.int v :: st) res) : oV κ w nL Q σ pc lv (.ref (w.2.2.2.1 k0) :: st) res := by
  obtain ⟨p, l, e, R, s, m, args, below, meth, c, mc, ms⟩ := κ
  obtain ⟨hx, hb, hml, hown, hts, hK, hZ, hN, hI, hR, hret, hlk⟩ := C
  intro r σ' h H locs ls hP hS hl
  exact va_alen hx hb hK hP k0 0 (by rw [oW_get hk, he]) ht hv hd (k r σ' h H locs ls hP hS hl)
theorem r_aald {nA k0 t0 : Nat} {cA : ClassId} {Cn : String} {f : Nat → Option Nat} {g : Nat → Nat} {i : Int32} {K : Nat → Option (α × Sg)} (C : oC κ w nL cc own Ts n ret) (hk : k0 < w.2.2.1) (he : w.2.2.2.2.1 k0 (σ k0) = .inl (cA, nA, .inr (.inr (.inr (.inr f))))) (ht : w.2.1[t0]? = some (cA, .object Cn)) (hf : ∀ j, j < nA → f j = some (w.2.2.2.1 (g j))) (hd : decode cc pc = .ok (.aaload, 1)) (k : ∀ j, j < nA → oV κ w nL Q σ (pc + 1) lv (.ref (w.2.2.2.1 (g j)) :: st) (K (g j))) : oV κ w nL Q σ pc lv (.int i :: .ref (w.2.2.2.1 k0) :: st) (ckb (inb i nA) (lt (g i.toNatClampNeg) K)) := by
  obtain ⟨p, l, e, R, s, m, args, below, meth, c, mc, ms⟩ := κ
  obtain ⟨hx, hb, hml, hown, hts, hK, hZ, hN, hI, hR, hret, hlk⟩ := C
  intro r σ' h H locs ls hP hS hl
  obtain ⟨hb0, h⟩ := ckb_some h
  have hlt : i.toNatClampNeg < nA := Nat.not_le.mp fun q => (inb_in hb0) (Or.inr q)
  refine va_aldq hx hb hK hP k0 t0 (by rw [oW_get hk, he]) ht (inb_in hb0) hd ?_
  rw [hf _ hlt]
  exact k _ hlt r σ' h H locs ls hP hS hl
theorem r_gsK {idx : Nat} (C : oC κ w nL cc own Ts n ret) (hlink : Cond.fieldLink own idx "BoardKeep" "KIND_ABOVE" "[I" ∈ Ts) (hd : decode cc pc = .ok (.getstatic idx, 3)) (k : oV κ w nL Q σ (pc + 3) lv (.ref w.2.2.2.2.2.1 :: st) res) : oV κ w nL Q σ pc lv st res := by
  obtain ⟨p, l, e, R, s, m, args, below, meth, c, mc, ms⟩ := κ
  obtain ⟨hx, hb, hml, hown, hts, hK, hZ, hN, hI, hR, hret, hlk⟩ := C
  intro r σ' h H locs ls hP hS hl
  exact va_gets hx hb hZ.1.1 hS hown (hts _ hlink) (fun _ h9 => h9) hd (k r σ' h H locs ls hP hS hl)
theorem r_gsKN {idx : Nat} {host : String} (C : oC κ w nL cc own Ts n ret) (hlink : Cond.fieldLinkNest own idx "BoardKeep" "KIND_ABOVE" "[I" host ∈ oNw) (hd : decode cc pc = .ok (.getstatic idx, 3)) (k : oV κ w nL Q σ (pc + 3) lv (.ref w.2.2.2.2.2.1 :: st) res) : oV κ w nL Q σ pc lv st res := by
  obtain ⟨p, l, e, R, s, m, args, below, meth, c, mc, ms⟩ := κ
  obtain ⟨hx, hb, hml, hown, hts, hK, hZ, hN, hI, hR, hret, hlk⟩ := C
  intro r σ' h H locs ls hP hS hl
  exact va_getsN (host := host) hx hb hZ.1.1 hS hown (va_Nw.use rfl (hN _ hlink)) (fun _ h9 => h9) hd (k r σ' h H locs ls hP hS hl)
theorem r_ldK {i : Int32} {X : Option (α × Sg)} (C : oC κ w nL cc own Ts n ret) (hd : decode cc pc = .ok (.iaload, 1)) (k : oV κ w nL Q σ (pc + 1) lv (.int (tbl lK i) :: st) X) : oV κ w nL Q σ pc lv (.int i :: .ref w.2.2.2.2.2.1 :: st) (ckb (inb i 7) X) := by
  obtain ⟨p, l, e, R, s, m, args, below, meth, c, mc, ms⟩ := κ
  obtain ⟨hx, hb, hml, hown, hts, hK, hZ, hN, hI, hR, hret, hlk⟩ := C
  intro r σ' h H locs ls hP hS hl
  obtain ⟨hb0, h⟩ := ckb_some h
  exact va_ti hx hb hZ.1.2 hS (inb_in hb0) rfl hd (k r σ' h H locs ls hP hS hl)
theorem r_gsN {idx : Nat} (C : oC κ w nL cc own Ts n ret) (hlink : Cond.fieldLink own idx "BoardKeep$Reader" "NAMES" "[C" ∈ Ts) (hd : decode cc pc = .ok (.getstatic idx, 3)) (k : oV κ w nL Q σ (pc + 3) lv (.ref w.2.2.2.2.2.2.1 :: st) res) : oV κ w nL Q σ pc lv st res := by
  obtain ⟨p, l, e, R, s, m, args, below, meth, c, mc, ms⟩ := κ
  obtain ⟨hx, hb, hml, hown, hts, hK, hZ, hN, hI, hR, hret, hlk⟩ := C
  intro r σ' h H locs ls hP hS hl
  exact va_gets hx hb hZ.2.1.1 hS hown (hts _ hlink) (fun _ h9 => h9) hd (k r σ' h H locs ls hP hS hl)
theorem r_gsNN {idx : Nat} {host : String} (C : oC κ w nL cc own Ts n ret) (hlink : Cond.fieldLinkNest own idx "BoardKeep$Reader" "NAMES" "[C" host ∈ oNw) (hd : decode cc pc = .ok (.getstatic idx, 3)) (k : oV κ w nL Q σ (pc + 3) lv (.ref w.2.2.2.2.2.2.1 :: st) res) : oV κ w nL Q σ pc lv st res := by
  obtain ⟨p, l, e, R, s, m, args, below, meth, c, mc, ms⟩ := κ
  obtain ⟨hx, hb, hml, hown, hts, hK, hZ, hN, hI, hR, hret, hlk⟩ := C
  intro r σ' h H locs ls hP hS hl
  exact va_getsN (host := host) hx hb hZ.2.1.1 hS hown (va_Nw.use rfl (hN _ hlink)) (fun _ h9 => h9) hd (k r σ' h H locs ls hP hS hl)
theorem r_ldN {i : Int32} {X : Option (α × Sg)} (C : oC κ w nL cc own Ts n ret) (hd : decode cc pc = .ok (.caload, 1)) (k : oV κ w nL Q σ (pc + 1) lv (.int (tbl lN_ i) :: st) X) : oV κ w nL Q σ pc lv (.int i :: .ref w.2.2.2.2.2.2.1 :: st) (ckb (inb i 6) X) := by
  obtain ⟨p, l, e, R, s, m, args, below, meth, c, mc, ms⟩ := κ
  obtain ⟨hx, hb, hml, hown, hts, hK, hZ, hN, hI, hR, hret, hlk⟩ := C
  intro r σ' h H locs ls hP hS hl
  obtain ⟨hb0, h⟩ := ckb_some h
  exact va_tc hx hb hZ.2.1.2 hS (inb_in hb0) rfl hd (k r σ' h H locs ls hP hS hl)
theorem r_gsB {idx : Nat} (C : oC κ w nL cc own Ts n ret) (hlink : Cond.fieldLink own idx "BoardKeep$Voices" "BODIES" "[I" ∈ Ts) (hd : decode cc pc = .ok (.getstatic idx, 3)) (k : oV κ w nL Q σ (pc + 3) lv (.ref w.2.2.2.2.2.2.2 :: st) res) : oV κ w nL Q σ pc lv st res := by
  obtain ⟨p, l, e, R, s, m, args, below, meth, c, mc, ms⟩ := κ
  obtain ⟨hx, hb, hml, hown, hts, hK, hZ, hN, hI, hR, hret, hlk⟩ := C
  intro r σ' h H locs ls hP hS hl
  exact va_gets hx hb hZ.2.2.1 hS hown (hts _ hlink) (fun _ h9 => h9) hd (k r σ' h H locs ls hP hS hl)
theorem r_gsBN {idx : Nat} {host : String} (C : oC κ w nL cc own Ts n ret) (hlink : Cond.fieldLinkNest own idx "BoardKeep$Voices" "BODIES" "[I" host ∈ oNw) (hd : decode cc pc = .ok (.getstatic idx, 3)) (k : oV κ w nL Q σ (pc + 3) lv (.ref w.2.2.2.2.2.2.2 :: st) res) : oV κ w nL Q σ pc lv st res := by
  obtain ⟨p, l, e, R, s, m, args, below, meth, c, mc, ms⟩ := κ
  obtain ⟨hx, hb, hml, hown, hts, hK, hZ, hN, hI, hR, hret, hlk⟩ := C
  intro r σ' h H locs ls hP hS hl
  exact va_getsN (host := host) hx hb hZ.2.2.1 hS hown (va_Nw.use rfl (hN _ hlink)) (fun _ h9 => h9) hd (k r σ' h H locs ls hP hS hl)
theorem r_ldB {i : Int32} {X : Option (α × Sg)} (C : oC κ w nL cc own Ts n ret) (hd : decode cc pc = .ok (.iaload, 1)) (k : oV κ w nL Q σ (pc + 1) lv (.int (tbl lB i) :: st) X) : oV κ w nL Q σ pc lv (.int i :: .ref w.2.2.2.2.2.2.2 :: st) (ckb (inb i 28) X) := by
  obtain ⟨p, l, e, R, s, m, args, below, meth, c, mc, ms⟩ := κ
  obtain ⟨hx, hb, hml, hown, hts, hK, hZ, hN, hI, hR, hret, hlk⟩ := C
  intro r σ' h H locs ls hP hS hl
  obtain ⟨hb0, h⟩ := ckb_some h
  exact va_ti hx hb hZ.2.2.2 hS (inb_in hb0) rfl hd (k r σ' h H locs ls hP hS hl)
theorem r_mx {idx : Nat} {x y : Int32} (C : oC κ w nL cc own Ts n ret) (h1 : Cond.methodLink own idx Lib.Math.max.name ∈ Ts) (h2 : Cond.static Lib.Math.max.name ∈ Ts) (h3 : Cond.initialized "java/lang/Math" ∈ Ts) (h4 : Cond.code Lib.Math.max.name Lib.Math.max.code 2 (some .int) ∈ Ts) (hn1 : 1 ≤ n) (hst : (st.map fun v => v.category).sum ≤ 20) (hd : decode cc pc = .ok (.invokestatic idx, 3)) (k : oV κ w nL Q σ (pc + 3) lv (.int (mx x y) :: st) res) : oV κ w nL Q σ pc lv (.int y :: .int x :: st) res := by
  obtain ⟨p, l, e, R, s, m, args, below, meth, c, mc, ms⟩ := κ
  obtain ⟨hx, hb, hml, hown, hts, hK, hZ, hN, hI, hR, hret, hlk⟩ := C
  intro r σ' h H locs ls hP hS hl
  obtain ⟨hR1, hR2, hR3, hR4⟩ := hR
  exact va_mmax hx hb (hml.trans hl.1.symm) hown (hts _ h1) (hts _ h2) (hts _ h3) (hts _ h4) (by omega) (by omega) hR3 hR4 hd (k r σ' h H locs ls hP hS hl)
theorem r_mn {idx : Nat} {x y : Int32} (C : oC κ w nL cc own Ts n ret) (h1 : Cond.methodLink own idx Lib.Math.min.name ∈ Ts) (h2 : Cond.static Lib.Math.min.name ∈ Ts) (h3 : Cond.initialized "java/lang/Math" ∈ Ts) (h4 : Cond.code Lib.Math.min.name Lib.Math.min.code 2 (some .int) ∈ Ts) (hn1 : 1 ≤ n) (hst : (st.map fun v => v.category).sum ≤ 20) (hd : decode cc pc = .ok (.invokestatic idx, 3)) (k : oV κ w nL Q σ (pc + 3) lv (.int (mn x y) :: st) res) : oV κ w nL Q σ pc lv (.int y :: .int x :: st) res := by
  obtain ⟨p, l, e, R, s, m, args, below, meth, c, mc, ms⟩ := κ
  obtain ⟨hx, hb, hml, hown, hts, hK, hZ, hN, hI, hR, hret, hlk⟩ := C
  intro r σ' h H locs ls hP hS hl
  obtain ⟨hR1, hR2, hR3, hR4⟩ := hR
  exact va_mmin hx hb (hml.trans hl.1.symm) hown (hts _ h1) (hts _ h2) (hts _ h3) (hts _ h4) (by omega) (by omega) hR3 hR4 hd (k r σ' h H locs ls hP hS hl)
theorem r_acopy {idx : Nat} {k0 k1 n0 n1 : Nat} {cA : ClassId} {sp dp j : Int32} {K : Sg → Option (α × Sg)} (C : oC κ w nL cc own Ts n ret) (h1 : Cond.methodLink own idx arraycopyName ∈ Ts) (h2 : Cond.native arraycopyName ∈ Ts) (h3 : Cond.static arraycopyName ∈ Ts) (h4 : Cond.initialized "java/lang/System" ∈ Ts) (hk0 : k0 < w.2.2.1) (hk1 : k1 < w.2.2.1) (he0 : w.2.2.2.2.1 k0 (σ k0) = .inl (cA, n0, .inl (σ k0))) (he1 : w.2.2.2.2.1 k1 (σ k1) = .inl (cA, n1, .inl (σ k1))) (he2 : w.2.2.2.2.1 k1 (va_cpy (σ k0) (σ k1) sp.toNatClampNeg dp.toNatClampNeg j.toNatClampNeg) = .inl (cA, n1, .inl (va_cpy (σ k0) (σ k1) sp.toNatClampNeg dp.toNatClampNeg j.toNatClampNeg))) (ht : w.2.1[0]? = some (cA, .int)) (hn1 : 2 ≤ n) (hst : (st.map fun v => v.category).sum ≤ 20) (hd : decode cc pc = .ok (.invokestatic idx, 3)) (k : ∀ σ1 : Sg, oV κ w nL Q σ1 (pc + 3) lv st (K σ1)) : oV κ w nL Q σ pc lv (.int j :: .int dp :: .ref (w.2.2.2.1 k1) :: .int sp :: .ref (w.2.2.2.1 k0) :: st) (ckb (acOk sp dp j n0 n1) (lt (upR σ k1 (va_cpy (σ k0) (σ k1) sp.toNatClampNeg dp.toNatClampNeg j.toNatClampNeg)) K)) := by
  obtain ⟨p, l, e, R, s, m, args, below, meth, c, mc, ms⟩ := κ
  obtain ⟨hx, hb, hml, hown, hts, hK, hZ, hN, hI, hR, hret, hlk⟩ := C
  intro r σ' h H locs ls hP hS hl
  obtain ⟨hR1, hR2, hR3, hR4⟩ := hR
  obtain ⟨hb0, h⟩ := ckb_some h
  simp only [acOk, Bool.and_eq_true, Bool.not_eq_true', decide_eq_false_iff_not, decide_eq_true_eq] at hb0
  obtain ⟨⟨⟨⟨q1, q2⟩, q3⟩, q4⟩, q5⟩ := hb0
  have hnw : nativeFrameWords "java/lang/System" "arraycopy" 5 ≤ 40 := by decide +kernel
  refine va_copyi hx hb (hml.trans hl.1.symm) hown (hts _ h1) (hts _ h2) (hts _ h3) (hts _ h4) hK hP (hI.D σ) hS k0 k1 0 0 (by rw [oW_get hk0, he0]) (by rw [oW_get hk1, he1]) ht ht rfl q1 q2 q3 q4 q5 (fun _ _ => rfl) (by omega) (by omega) hd (fun H1 locs1 hP1 hD1 hS1 => ?_)
  refine k _ r σ' h H1 locs1 ls ?_ hS1 hl
  rw [oW_set (σ' := upR σ k1 (va_cpy (σ k0) (σ k1) sp.toNatClampNeg dp.toNatClampNeg j.toNatClampNeg)) (by rw [upR_at, he2]) (fun j hj => upR_ne hj)] at hP1
  exact hP1
theorem r_cVi {y : MethodName} {ws ws' : List Cond} {n' maxL idx : Nat} {bytes : ByteArray} {ty : FieldType} {F : Option (Int32 × Sg)} {K : Int32 → Sg → Option (α × Sg)} {b j ci na : Nat} {As : List Value} {fs : List Value} {qc : vw_C} (C : oC κ w nL cc own Ts n ret) (hM : ∀ l, oMI l y ws n' w (.ref b :: As) σ F) (hG : GoodIn Ts (wsV own idx y.cls y ws)) (hw : ws = Cond.code y bytes maxL (some ty) :: ws') (hd0 : y.cls ≠ "java/lang/invoke/MethodHandle" ∧ y.cls ≠ "java/lang/invoke/VarHandle" ∧ (parseMethodDescriptor y.desc).map (fun d => d.parameters.length) = some na) (hna : As.length = na) (hmx : maxL ≤ 21) (hn' : n' + 1 ≤ n) (hj : j < w.2.2.1) (hbj : b = w.2.2.2.1 j) (he : w.2.2.2.2.1 j (σ j) = .inr (ci, fs)) (hc : vwCl[ci]? = some qc) (hq : qc.1 = y.cls) (hst : (st.map fun v => v.category).sum ≤ 8) (hd : decode cc pc = .ok (.invokevirtual idx, 3)) (kk : ∀ (r1 : Int32) (σ1 : Sg), oV κ w nL Q σ1 (pc + 3) lv (.int r1 :: st) (K r1 σ1)) : oV κ w nL Q σ pc lv (As.reverse ++ .ref b :: st) (bnd F K) := by
  obtain ⟨p, l, e, R, s, m, args, below, meth, c, mc, ms⟩ := κ
  obtain ⟨hx, hb, hml, hown, hts, hK, hZ, hN, hI, hR, hret, hlk⟩ := C
  intro r σ' h H locs ls hP hS hl
  obtain ⟨hR1, hR2, hR3, hR4⟩ := hR
  cases hF : F with
  | none => rw [hF] at h; cases h
  | some q =>
  obtain ⟨r1, σ1⟩ := q
  rw [hF] at h
  subst hbj
  refine va_calli (va_runV (As := As) (rest := st) ⟨hx, hb, hml, hown, hts⟩ (hM l r1 σ1 hF) (cwV na hts hG hw rfl rfl ⟨rfl, hd0⟩ ⟨by show n' + 1 ≤ R.frames; omega, by show 8 + (maxL + 11) + 40 * n' ≤ R.locals; omega⟩) ⟨fun a U g mk q => ⟨q.1, q.2.1, va_K.moved (u := U) (U := U.calling g mk a) (Vm.Alike.refl U.vm) q.2.2.1, oZ.moved (u := U) (U := U.calling g mk a) (Vm.Alike.refl U.vm) q.2.2.2.1, oN.same (u := U) (U := U.calling g mk a) rfl q.2.2.2.2⟩, (by have q9 := va_recv hK hP hc (q0 := j) (fs := fs) (by rw [oW_get hj, he]); rw [hq] at q9; exact q9), fun U hU hW => ⟨rfl, by rw [hU]; exact hP, va_K.moved hW.alike hK, by rw [hU]; exact (hZ.kept (fun a h1 h2 => hS.2.1 a h1 h2)).moved hW.alike, hN.warm hW⟩⟩ rfl hna hl.1 rfl (lv_room hst) hd ⟨hR3, hR4⟩) hS (fun q _ h => h) (fun q h => h) (fun r2 u t H1 locs1 ht hvm hw hB hz1 hk1 hS1 => by
    obtain ⟨rfl, rfl⟩ := hw
    exact kk _ _ r σ' h H1 locs1 ls (by rw [ht] at hB; exact hB) hS1 hl)
theorem r_cSi {y : MethodName} {ws ws' : List Cond} {n' maxL idx : Nat} {bytes : ByteArray} {ty : FieldType} {F : Option (Int32 × Sg)} {K : Int32 → Sg → Option (α × Sg)} {na : Nat} {As : List Value} (C : oC κ w nL cc own Ts n ret) (hM : ∀ l, oMI l y ws n' w As σ F) (hG : GoodIn Ts (va_wsS own idx y ws)) (hw : ws = Cond.code y bytes maxL (some ty) :: ws') (hd0 : y.cls ≠ "java/lang/invoke/MethodHandle" ∧ y.cls ≠ "java/lang/invoke/VarHandle" ∧ (parseMethodDescriptor y.desc).map (fun d => d.parameters.length) = some na) (hna : As.length = na) (hmx : maxL ≤ 21) (hn' : n' + 1 ≤ n) (hst : (st.map fun v => v.category).sum ≤ 8) (hd : decode cc pc = .ok (.invokestatic idx, 3)) (kk : ∀ (r1 : Int32) (σ1 : Sg), oV κ w nL Q σ1 (pc + 3) lv (.int r1 :: st) (K r1 σ1)) : oV κ w nL Q σ pc lv (As.reverse ++ st) (bnd F K) := by
  obtain ⟨p, l, e, R, s, m, args, below, meth, c, mc, ms⟩ := κ
  obtain ⟨hx, hb, hml, hown, hts, hK, hZ, hN, hI, hR, hret, hlk⟩ := C
  intro r σ' h H locs ls hP hS hl
  obtain ⟨hR1, hR2, hR3, hR4⟩ := hR
  cases hF : F with
  | none => rw [hF] at h; cases h
  | some q =>
  obtain ⟨r1, σ1⟩ := q
  rw [hF] at h
  refine va_calli (va_runS (As := As) (rest := st) ⟨hx, hb, hml, hown, hts⟩ (hM l r1 σ1 hF) (va_cwS na hts hG hw rfl rfl hd0 ⟨by show n' + 1 ≤ R.frames; omega, by show 8 + (maxL + 11) + 40 * n' ≤ R.locals; omega⟩) ⟨fun a U g mk q => ⟨q.1, q.2.1, va_K.moved (u := U) (U := U.calling g mk a) (Vm.Alike.refl U.vm) q.2.2.1, oZ.moved (u := U) (U := U.calling g mk a) (Vm.Alike.refl U.vm) q.2.2.2.1, oN.same (u := U) (U := U.calling g mk a) rfl q.2.2.2.2⟩, fun U hU hW => ⟨rfl, by rw [hU]; exact hP, va_K.moved hW.alike hK, by rw [hU]; exact (hZ.kept (fun a h1 h2 => hS.2.1 a h1 h2)).moved hW.alike, hN.warm hW⟩⟩ rfl hna hl.1 rfl (lv_room hst) hd ⟨hR3, hR4⟩) hS (fun q _ h => h) (fun q h => h) (fun r2 u t H1 locs1 ht hvm hw hB hz1 hk1 hS1 => by
    obtain ⟨rfl, rfl⟩ := hw
    exact kk _ _ r σ' h H1 locs1 ls (by rw [ht] at hB; exact hB) hS1 hl)
theorem r_cNi {y : MethodName} {ws ws' : List Cond} {n' maxL idx : Nat} {bytes : ByteArray} {ty : FieldType} {F : Option (Int32 × Sg)} {K : Int32 → Sg → Option (α × Sg)} {na : Nat} {As : List Value} {host : String} (C : oC κ w nL cc own Ts n ret) (hM : ∀ l, oMI l y ws n' w As σ F) (hG : GoodIn Ts ws) (hlk1 : Cond.methodLinkNest own idx y host ∈ oNw) (hlk2 : Cond.initialized y.cls ∈ Ts) (hlk3 : Cond.static y ∈ Ts) (hw : ws = Cond.code y bytes maxL (some ty) :: ws') (hd0 : y.cls ≠ "java/lang/invoke/MethodHandle" ∧ y.cls ≠ "java/lang/invoke/VarHandle" ∧ (parseMethodDescriptor y.desc).map (fun d => d.parameters.length) = some na) (hna : As.length = na) (hmx : maxL ≤ 21) (hn' : n' + 1 ≤ n) (hst : (st.map fun v => v.category).sum ≤ 8) (hd : decode cc pc = .ok (.invokestatic idx, 3)) (kk : ∀ (r1 : Int32) (σ1 : Sg), oV κ w nL Q σ1 (pc + 3) lv (.int r1 :: st) (K r1 σ1)) : oV κ w nL Q σ pc lv (As.reverse ++ st) (bnd F K) := by
  obtain ⟨p, l, e, R, s, m, args, below, meth, c, mc, ms⟩ := κ
  obtain ⟨hx, hb, hml, hown, hts, hK, hZ, hN, hI, hR, hret, hlk⟩ := C
  intro r σ' h H locs ls hP hS hl
  obtain ⟨hR1, hR2, hR3, hR4⟩ := hR
  cases hF : F with
  | none => rw [hF] at h; cases h
  | some q =>
  obtain ⟨r1, σ1⟩ := q
  rw [hF] at h
  refine va_calli (va_runSN (As := As) (rest := st) ⟨hx, hb, hml, hown, hts⟩ (hM l r1 σ1 hF) ⟨va_cnB na hts hG hw rfl rfl (hN _ hlk1) (hts _ hlk2) hd0 ⟨by show n' + 1 ≤ R.frames; omega, by show 8 + (maxL + 11) + 40 * n' ≤ R.locals; omega⟩, hts _ hlk3, trivial⟩ ⟨fun a U g mk q => ⟨q.1, q.2.1, va_K.moved (u := U) (U := U.calling g mk a) (Vm.Alike.refl U.vm) q.2.2.1, oZ.moved (u := U) (U := U.calling g mk a) (Vm.Alike.refl U.vm) q.2.2.2.1, oN.same (u := U) (U := U.calling g mk a) rfl q.2.2.2.2⟩, fun U hU hW => ⟨rfl, by rw [hU]; exact hP, va_K.moved hW.alike hK, by rw [hU]; exact (hZ.kept (fun a h1 h2 => hS.2.1 a h1 h2)).moved hW.alike, hN.warm hW⟩⟩ rfl hna hl.1 rfl (lv_room hst) hd ⟨hR3, hR4⟩) hS (fun q _ h => h) (fun q h => h) (fun r2 u t H1 locs1 ht hvm hw hB hz1 hk1 hS1 => by
    obtain ⟨rfl, rfl⟩ := hw
    exact kk _ _ r σ' h H1 locs1 ls (by rw [ht] at hB; exact hB) hS1 hl)
theorem r_cVl {y : MethodName} {ws ws' : List Cond} {n' maxL idx : Nat} {bytes : ByteArray} {ty : FieldType} {F : Option (Int64 × Sg)} {K : Int64 → Sg → Option (α × Sg)} {b j ci na : Nat} {As : List Value} {fs : List Value} {qc : vw_C} (C : oC κ w nL cc own Ts n ret) (hM : ∀ l, oML l y ws n' w (.ref b :: As) σ F) (hG : GoodIn Ts (wsV own idx y.cls y ws)) (hw : ws = Cond.code y bytes maxL (some ty) :: ws') (hd0 : y.cls ≠ "java/lang/invoke/MethodHandle" ∧ y.cls ≠ "java/lang/invoke/VarHandle" ∧ (parseMethodDescriptor y.desc).map (fun d => d.parameters.length) = some na) (hna : As.length = na) (hmx : maxL ≤ 21) (hn' : n' + 1 ≤ n) (hj : j < w.2.2.1) (hbj : b = w.2.2.2.1 j) (he : w.2.2.2.2.1 j (σ j) = .inr (ci, fs)) (hc : vwCl[ci]? = some qc) (hq : qc.1 = y.cls) (hst : (st.map fun v => v.category).sum ≤ 8) (hd : decode cc pc = .ok (.invokevirtual idx, 3)) (kk : ∀ (r1 : Int64) (σ1 : Sg), oV κ w nL Q σ1 (pc + 3) lv (.long r1 :: st) (K r1 σ1)) : oV κ w nL Q σ pc lv (As.reverse ++ .ref b :: st) (bnd F K) := by
  obtain ⟨p, l, e, R, s, m, args, below, meth, c, mc, ms⟩ := κ
  obtain ⟨hx, hb, hml, hown, hts, hK, hZ, hN, hI, hR, hret, hlk⟩ := C
  intro r σ' h H locs ls hP hS hl
  obtain ⟨hR1, hR2, hR3, hR4⟩ := hR
  cases hF : F with
  | none => rw [hF] at h; cases h
  | some q =>
  obtain ⟨r1, σ1⟩ := q
  rw [hF] at h
  subst hbj
  refine va_calll (va_runV (As := As) (rest := st) ⟨hx, hb, hml, hown, hts⟩ (hM l r1 σ1 hF) (cwV na hts hG hw rfl rfl ⟨rfl, hd0⟩ ⟨by show n' + 1 ≤ R.frames; omega, by show 8 + (maxL + 11) + 40 * n' ≤ R.locals; omega⟩) ⟨fun a U g mk q => ⟨q.1, q.2.1, va_K.moved (u := U) (U := U.calling g mk a) (Vm.Alike.refl U.vm) q.2.2.1, oZ.moved (u := U) (U := U.calling g mk a) (Vm.Alike.refl U.vm) q.2.2.2.1, oN.same (u := U) (U := U.calling g mk a) rfl q.2.2.2.2⟩, (by have q9 := va_recv hK hP hc (q0 := j) (fs := fs) (by rw [oW_get hj, he]); rw [hq] at q9; exact q9), fun U hU hW => ⟨rfl, by rw [hU]; exact hP, va_K.moved hW.alike hK, by rw [hU]; exact (hZ.kept (fun a h1 h2 => hS.2.1 a h1 h2)).moved hW.alike, hN.warm hW⟩⟩ rfl hna hl.1 rfl (lv_room hst) hd ⟨hR3, hR4⟩) hS (fun q _ h => h) (fun q h => h) (fun r2 u t H1 locs1 ht hvm hw hB hz1 hk1 hS1 => by
    obtain ⟨rfl, rfl⟩ := hw
    exact kk _ _ r σ' h H1 locs1 ls (by rw [ht] at hB; exact hB) hS1 hl)
theorem r_cSl {y : MethodName} {ws ws' : List Cond} {n' maxL idx : Nat} {bytes : ByteArray} {ty : FieldType} {F : Option (Int64 × Sg)} {K : Int64 → Sg → Option (α × Sg)} {na : Nat} {As : List Value} (C : oC κ w nL cc own Ts n ret) (hM : ∀ l, oML l y ws n' w As σ F) (hG : GoodIn Ts (va_wsS own idx y ws)) (hw : ws = Cond.code y bytes maxL (some ty) :: ws') (hd0 : y.cls ≠ "java/lang/invoke/MethodHandle" ∧ y.cls ≠ "java/lang/invoke/VarHandle" ∧ (parseMethodDescriptor y.desc).map (fun d => d.parameters.length) = some na) (hna : As.length = na) (hmx : maxL ≤ 21) (hn' : n' + 1 ≤ n) (hst : (st.map fun v => v.category).sum ≤ 8) (hd : decode cc pc = .ok (.invokestatic idx, 3)) (kk : ∀ (r1 : Int64) (σ1 : Sg), oV κ w nL Q σ1 (pc + 3) lv (.long r1 :: st) (K r1 σ1)) : oV κ w nL Q σ pc lv (As.reverse ++ st) (bnd F K) := by
  obtain ⟨p, l, e, R, s, m, args, below, meth, c, mc, ms⟩ := κ
  obtain ⟨hx, hb, hml, hown, hts, hK, hZ, hN, hI, hR, hret, hlk⟩ := C
  intro r σ' h H locs ls hP hS hl
  obtain ⟨hR1, hR2, hR3, hR4⟩ := hR
  cases hF : F with
  | none => rw [hF] at h; cases h
  | some q =>
  obtain ⟨r1, σ1⟩ := q
  rw [hF] at h
  refine va_calll (va_runS (As := As) (rest := st) ⟨hx, hb, hml, hown, hts⟩ (hM l r1 σ1 hF) (va_cwS na hts hG hw rfl rfl hd0 ⟨by show n' + 1 ≤ R.frames; omega, by show 8 + (maxL + 11) + 40 * n' ≤ R.locals; omega⟩) ⟨fun a U g mk q => ⟨q.1, q.2.1, va_K.moved (u := U) (U := U.calling g mk a) (Vm.Alike.refl U.vm) q.2.2.1, oZ.moved (u := U) (U := U.calling g mk a) (Vm.Alike.refl U.vm) q.2.2.2.1, oN.same (u := U) (U := U.calling g mk a) rfl q.2.2.2.2⟩, fun U hU hW => ⟨rfl, by rw [hU]; exact hP, va_K.moved hW.alike hK, by rw [hU]; exact (hZ.kept (fun a h1 h2 => hS.2.1 a h1 h2)).moved hW.alike, hN.warm hW⟩⟩ rfl hna hl.1 rfl (lv_room hst) hd ⟨hR3, hR4⟩) hS (fun q _ h => h) (fun q h => h) (fun r2 u t H1 locs1 ht hvm hw hB hz1 hk1 hS1 => by
    obtain ⟨rfl, rfl⟩ := hw
    exact kk _ _ r σ' h H1 locs1 ls (by rw [ht] at hB; exact hB) hS1 hl)
theorem r_cNl {y : MethodName} {ws ws' : List Cond} {n' maxL idx : Nat} {bytes : ByteArray} {ty : FieldType} {F : Option (Int64 × Sg)} {K : Int64 → Sg → Option (α × Sg)} {na : Nat} {As : List Value} {host : String} (C : oC κ w nL cc own Ts n ret) (hM : ∀ l, oML l y ws n' w As σ F) (hG : GoodIn Ts ws) (hlk1 : Cond.methodLinkNest own idx y host ∈ oNw) (hlk2 : Cond.initialized y.cls ∈ Ts) (hlk3 : Cond.static y ∈ Ts) (hw : ws = Cond.code y bytes maxL (some ty) :: ws') (hd0 : y.cls ≠ "java/lang/invoke/MethodHandle" ∧ y.cls ≠ "java/lang/invoke/VarHandle" ∧ (parseMethodDescriptor y.desc).map (fun d => d.parameters.length) = some na) (hna : As.length = na) (hmx : maxL ≤ 21) (hn' : n' + 1 ≤ n) (hst : (st.map fun v => v.category).sum ≤ 8) (hd : decode cc pc = .ok (.invokestatic idx, 3)) (kk : ∀ (r1 : Int64) (σ1 : Sg), oV κ w nL Q σ1 (pc + 3) lv (.long r1 :: st) (K r1 σ1)) : oV κ w nL Q σ pc lv (As.reverse ++ st) (bnd F K) := by
  obtain ⟨p, l, e, R, s, m, args, below, meth, c, mc, ms⟩ := κ
  obtain ⟨hx, hb, hml, hown, hts, hK, hZ, hN, hI, hR, hret, hlk⟩ := C
  intro r σ' h H locs ls hP hS hl
  obtain ⟨hR1, hR2, hR3, hR4⟩ := hR
  cases hF : F with
  | none => rw [hF] at h; cases h
  | some q =>
  obtain ⟨r1, σ1⟩ := q
  rw [hF] at h
  refine va_calll (va_runSN (As := As) (rest := st) ⟨hx, hb, hml, hown, hts⟩ (hM l r1 σ1 hF) ⟨va_cnB na hts hG hw rfl rfl (hN _ hlk1) (hts _ hlk2) hd0 ⟨by show n' + 1 ≤ R.frames; omega, by show 8 + (maxL + 11) + 40 * n' ≤ R.locals; omega⟩, hts _ hlk3, trivial⟩ ⟨fun a U g mk q => ⟨q.1, q.2.1, va_K.moved (u := U) (U := U.calling g mk a) (Vm.Alike.refl U.vm) q.2.2.1, oZ.moved (u := U) (U := U.calling g mk a) (Vm.Alike.refl U.vm) q.2.2.2.1, oN.same (u := U) (U := U.calling g mk a) rfl q.2.2.2.2⟩, fun U hU hW => ⟨rfl, by rw [hU]; exact hP, va_K.moved hW.alike hK, by rw [hU]; exact (hZ.kept (fun a h1 h2 => hS.2.1 a h1 h2)).moved hW.alike, hN.warm hW⟩⟩ rfl hna hl.1 rfl (lv_room hst) hd ⟨hR3, hR4⟩) hS (fun q _ h => h) (fun q h => h) (fun r2 u t H1 locs1 ht hvm hw hB hz1 hk1 hS1 => by
    obtain ⟨rfl, rfl⟩ := hw
    exact kk _ _ r σ' h H1 locs1 ls (by rw [ht] at hB; exact hB) hS1 hl)
theorem r_cVv {y : MethodName} {ws ws' : List Cond} {n' maxL idx : Nat} {bytes : ByteArray}  {F : Option (Unit × Sg)} {K : Unit → Sg → Option (α × Sg)} {b j ci na : Nat} {As : List Value} {fs : List Value} {qc : vw_C} (C : oC κ w nL cc own Ts n ret) (hM : ∀ l, oMV l y ws n' w (.ref b :: As) σ F) (hG : GoodIn Ts (wsV own idx y.cls y ws)) (hw : ws = Cond.code y bytes maxL (none) :: ws') (hd0 : y.cls ≠ "java/lang/invoke/MethodHandle" ∧ y.cls ≠ "java/lang/invoke/VarHandle" ∧ (parseMethodDescriptor y.desc).map (fun d => d.parameters.length) = some na) (hna : As.length = na) (hmx : maxL ≤ 21) (hn' : n' + 1 ≤ n) (hj : j < w.2.2.1) (hbj : b = w.2.2.2.1 j) (he : w.2.2.2.2.1 j (σ j) = .inr (ci, fs)) (hc : vwCl[ci]? = some qc) (hq : qc.1 = y.cls) (hst : (st.map fun v => v.category).sum ≤ 8) (hd : decode cc pc = .ok (.invokevirtual idx, 3)) (kk : ∀ (r1 : Unit) (σ1 : Sg), oV κ w nL Q σ1 (pc + 3) lv st (K r1 σ1)) : oV κ w nL Q σ pc lv (As.reverse ++ .ref b :: st) (bnd F K) := by
  obtain ⟨p, l, e, R, s, m, args, below, meth, c, mc, ms⟩ := κ
  obtain ⟨hx, hb, hml, hown, hts, hK, hZ, hN, hI, hR, hret, hlk⟩ := C
  intro r σ' h H locs ls hP hS hl
  obtain ⟨hR1, hR2, hR3, hR4⟩ := hR
  cases hF : F with
  | none => rw [hF] at h; cases h
  | some q =>
  obtain ⟨r1, σ1⟩ := q
  rw [hF] at h
  subst hbj
  refine va_callv (va_runV (As := As) (rest := st) ⟨hx, hb, hml, hown, hts⟩ (hM l r1 σ1 hF) (cwV na hts hG hw rfl rfl ⟨rfl, hd0⟩ ⟨by show n' + 1 ≤ R.frames; omega, by show 8 + (maxL + 11) + 40 * n' ≤ R.locals; omega⟩) ⟨fun a U g mk q => ⟨q.1, q.2.1, va_K.moved (u := U) (U := U.calling g mk a) (Vm.Alike.refl U.vm) q.2.2.1, oZ.moved (u := U) (U := U.calling g mk a) (Vm.Alike.refl U.vm) q.2.2.2.1, oN.same (u := U) (U := U.calling g mk a) rfl q.2.2.2.2⟩, (by have q9 := va_recv hK hP hc (q0 := j) (fs := fs) (by rw [oW_get hj, he]); rw [hq] at q9; exact q9), fun U hU hW => ⟨rfl, by rw [hU]; exact hP, va_K.moved hW.alike hK, by rw [hU]; exact (hZ.kept (fun a h1 h2 => hS.2.1 a h1 h2)).moved hW.alike, hN.warm hW⟩⟩ rfl hna hl.1 rfl (lv_room hst) hd ⟨hR3, hR4⟩) hS (fun q _ h => h) (fun q h => h) (fun u t H1 locs1 ht hvm hw hB hz1 hk1 hS1 => by
    obtain rfl := hw
    exact kk _ _ r σ' h H1 locs1 ls (by rw [ht] at hB; exact hB) hS1 hl)
theorem r_cSv {y : MethodName} {ws ws' : List Cond} {n' maxL idx : Nat} {bytes : ByteArray}  {F : Option (Unit × Sg)} {K : Unit → Sg → Option (α × Sg)} {na : Nat} {As : List Value} (C : oC κ w nL cc own Ts n ret) (hM : ∀ l, oMV l y ws n' w As σ F) (hG : GoodIn Ts (va_wsS own idx y ws)) (hw : ws = Cond.code y bytes maxL (none) :: ws') (hd0 : y.cls ≠ "java/lang/invoke/MethodHandle" ∧ y.cls ≠ "java/lang/invoke/VarHandle" ∧ (parseMethodDescriptor y.desc).map (fun d => d.parameters.length) = some na) (hna : As.length = na) (hmx : maxL ≤ 21) (hn' : n' + 1 ≤ n) (hst : (st.map fun v => v.category).sum ≤ 8) (hd : decode cc pc = .ok (.invokestatic idx, 3)) (kk : ∀ (r1 : Unit) (σ1 : Sg), oV κ w nL Q σ1 (pc + 3) lv st (K r1 σ1)) : oV κ w nL Q σ pc lv (As.reverse ++ st) (bnd F K) := by
  obtain ⟨p, l, e, R, s, m, args, below, meth, c, mc, ms⟩ := κ
  obtain ⟨hx, hb, hml, hown, hts, hK, hZ, hN, hI, hR, hret, hlk⟩ := C
  intro r σ' h H locs ls hP hS hl
  obtain ⟨hR1, hR2, hR3, hR4⟩ := hR
  cases hF : F with
  | none => rw [hF] at h; cases h
  | some q =>
  obtain ⟨r1, σ1⟩ := q
  rw [hF] at h
  refine va_callv (va_runS (As := As) (rest := st) ⟨hx, hb, hml, hown, hts⟩ (hM l r1 σ1 hF) (va_cwS na hts hG hw rfl rfl hd0 ⟨by show n' + 1 ≤ R.frames; omega, by show 8 + (maxL + 11) + 40 * n' ≤ R.locals; omega⟩) ⟨fun a U g mk q => ⟨q.1, q.2.1, va_K.moved (u := U) (U := U.calling g mk a) (Vm.Alike.refl U.vm) q.2.2.1, oZ.moved (u := U) (U := U.calling g mk a) (Vm.Alike.refl U.vm) q.2.2.2.1, oN.same (u := U) (U := U.calling g mk a) rfl q.2.2.2.2⟩, fun U hU hW => ⟨rfl, by rw [hU]; exact hP, va_K.moved hW.alike hK, by rw [hU]; exact (hZ.kept (fun a h1 h2 => hS.2.1 a h1 h2)).moved hW.alike, hN.warm hW⟩⟩ rfl hna hl.1 rfl (lv_room hst) hd ⟨hR3, hR4⟩) hS (fun q _ h => h) (fun q h => h) (fun u t H1 locs1 ht hvm hw hB hz1 hk1 hS1 => by
    obtain rfl := hw
    exact kk _ _ r σ' h H1 locs1 ls (by rw [ht] at hB; exact hB) hS1 hl)
theorem r_cNv {y : MethodName} {ws ws' : List Cond} {n' maxL idx : Nat} {bytes : ByteArray}  {F : Option (Unit × Sg)} {K : Unit → Sg → Option (α × Sg)} {na : Nat} {As : List Value} {host : String} (C : oC κ w nL cc own Ts n ret) (hM : ∀ l, oMV l y ws n' w As σ F) (hG : GoodIn Ts ws) (hlk1 : Cond.methodLinkNest own idx y host ∈ oNw) (hlk2 : Cond.initialized y.cls ∈ Ts) (hlk3 : Cond.static y ∈ Ts) (hw : ws = Cond.code y bytes maxL (none) :: ws') (hd0 : y.cls ≠ "java/lang/invoke/MethodHandle" ∧ y.cls ≠ "java/lang/invoke/VarHandle" ∧ (parseMethodDescriptor y.desc).map (fun d => d.parameters.length) = some na) (hna : As.length = na) (hmx : maxL ≤ 21) (hn' : n' + 1 ≤ n) (hst : (st.map fun v => v.category).sum ≤ 8) (hd : decode cc pc = .ok (.invokestatic idx, 3)) (kk : ∀ (r1 : Unit) (σ1 : Sg), oV κ w nL Q σ1 (pc + 3) lv st (K r1 σ1)) : oV κ w nL Q σ pc lv (As.reverse ++ st) (bnd F K) := by
  obtain ⟨p, l, e, R, s, m, args, below, meth, c, mc, ms⟩ := κ
  obtain ⟨hx, hb, hml, hown, hts, hK, hZ, hN, hI, hR, hret, hlk⟩ := C
  intro r σ' h H locs ls hP hS hl
  obtain ⟨hR1, hR2, hR3, hR4⟩ := hR
  cases hF : F with
  | none => rw [hF] at h; cases h
  | some q =>
  obtain ⟨r1, σ1⟩ := q
  rw [hF] at h
  refine va_callv (va_runSN (As := As) (rest := st) ⟨hx, hb, hml, hown, hts⟩ (hM l r1 σ1 hF) ⟨va_cnB na hts hG hw rfl rfl (hN _ hlk1) (hts _ hlk2) hd0 ⟨by show n' + 1 ≤ R.frames; omega, by show 8 + (maxL + 11) + 40 * n' ≤ R.locals; omega⟩, hts _ hlk3, trivial⟩ ⟨fun a U g mk q => ⟨q.1, q.2.1, va_K.moved (u := U) (U := U.calling g mk a) (Vm.Alike.refl U.vm) q.2.2.1, oZ.moved (u := U) (U := U.calling g mk a) (Vm.Alike.refl U.vm) q.2.2.2.1, oN.same (u := U) (U := U.calling g mk a) rfl q.2.2.2.2⟩, fun U hU hW => ⟨rfl, by rw [hU]; exact hP, va_K.moved hW.alike hK, by rw [hU]; exact (hZ.kept (fun a h1 h2 => hS.2.1 a h1 h2)).moved hW.alike, hN.warm hW⟩⟩ rfl hna hl.1 rfl (lv_room hst) hd ⟨hR3, hR4⟩) hS (fun q _ h => h) (fun q h => h) (fun u t H1 locs1 ht hvm hw hB hz1 hk1 hS1 => by
    obtain rfl := hw
    exact kk _ _ r σ' h H1 locs1 ls (by rw [ht] at hB; exact hB) hS1 hl)
theorem r_iret {v : Int32} (C : oC κ w nL cc own Ts n (some .int))  (hd : decode cc pc = .ok (.ireturn, 1)) : oV κ w nL (oQi κ w) σ pc lv [.int v] (some (v, σ)) := by
  obtain ⟨p, l, e, R, s, m, args, below, meth, c, mc, ms⟩ := κ
  obtain ⟨hx, hb, hml, hown, hts, hK, hZ, hN, hI, hR, hret, hlk⟩ := C
  intro r σ' h H locs ls hP hS hl
  cases h
  exact W.iret hx hb hret (fun t ht hW => ⟨⟨v, σ, rfl, ⟨rfl, rfl⟩, by show va_P w.1 vwCl (oW w σ) t.heap; rw [ht]; exact hP⟩, hS.F ht⟩) hS.2.2 hd hlk
theorem r_zret {v : Int32} (C : oC κ w nL cc own Ts n (some .boolean)) (hnar : narrow .boolean (.int v) = .int v) (hd : decode cc pc = .ok (.ireturn, 1)) : oV κ w nL (oQi κ w) σ pc lv [.int v] (some (v, σ)) := by
  obtain ⟨p, l, e, R, s, m, args, below, meth, c, mc, ms⟩ := κ
  obtain ⟨hx, hb, hml, hown, hts, hK, hZ, hN, hI, hR, hret, hlk⟩ := C
  intro r σ' h H locs ls hP hS hl
  cases h
  exact W.zret hx hb hret hnar (fun t ht hW => ⟨⟨v, σ, rfl, ⟨rfl, rfl⟩, by show va_P w.1 vwCl (oW w σ) t.heap; rw [ht]; exact hP⟩, hS.F ht⟩) hS.2.2 hd hlk
theorem r_lret {v : Int64} (C : oC κ w nL cc own Ts n (some .long))  (hd : decode cc pc = .ok (.lreturn, 1)) : oV κ w nL (oQl κ w) σ pc lv [.long v] (some (v, σ)) := by
  obtain ⟨p, l, e, R, s, m, args, below, meth, c, mc, ms⟩ := κ
  obtain ⟨hx, hb, hml, hown, hts, hK, hZ, hN, hI, hR, hret, hlk⟩ := C
  intro r σ' h H locs ls hP hS hl
  cases h
  exact W.lret hx hb hret (fun t ht hW => ⟨⟨v, σ, rfl, ⟨rfl, rfl⟩, by show va_P w.1 vwCl (oW w σ) t.heap; rw [ht]; exact hP⟩, hS.F ht⟩) hS.2.2 hd hlk
theorem r_vret (C : oC κ w nL cc own Ts n none) (hd : decode cc pc = .ok (.return_, 1)) : oV κ w nL (oQv κ w) σ pc lv [] (some ((), σ)) := by
  obtain ⟨p, l, e, R, s, m, args, below, meth, c, mc, ms⟩ := κ
  obtain ⟨hx, hb, hml, hown, hts, hK, hZ, hN, hI, hR, hret, hlk⟩ := C
  intro r σ' h H locs ls hP hS hl
  cases h
  exact W.vret hx hb hret (fun t ht hW => ⟨⟨σ, rfl, rfl, by show va_P w.1 vwCl (oW w σ) t.heap; rw [ht]; exact hP⟩, hS.F ht⟩) hS.2.2 hd hlk
end OV
section OM
variable {l : Launch} {y : MethodName} {ws ws' : List Cond} {n nL : Nat} {cc : ByteArray} {w : oT} {av : List Value} {σ : Sg}
theorem oMI_of {ty : FieldType} {res : Option (Int32 × Sg)} (hI : oI w) (hy : plainName y.cls = true) (hw : ws = Cond.code y cc nL (some ty) :: ws') (hlen : (lg_sl av).length ≤ nL) (h : ∀ κ : oK, oC κ w nL cc y.cls ws n (some ty) → oV κ w nL (oQi κ w) σ 0 (lv_args 0 av) [] res) : oMI l y ws n w av σ res := by
  intro r σ' hr
  refine Met.ofW (cc := cc) (maxL := nL) (ret := some ty) hy hw ?_
  intro p e s m args below meth c s₁ B hml hv
  obtain ⟨rfl, hP, hK, hZ, hN⟩ := hv
  have hts := atoms_spec (ws := ws) B.pre
  have hown : s.vm.findClass y.cls = some m.cls := findClass_of_methodNamed B.named
  have hl := lv_entry av (n := nL) hlen
  rw [lg_entry_eq]
  generalize (lg_sl av ++ List.replicate (nL - (lg_sl av).length) Slot.unset).toArray = ls at hl ⊢
  exact h (p, l, e, _, s, m, _, below, meth, c, 0, 0) ⟨B.exec, B.bytes, hml, hown, hts, hK, hZ, hN, hI, ⟨Nat.le_refl _, Nat.le_refl _, Nat.le_refl _, Nat.le_refl _⟩, B.returns, B.notSynchronized⟩ r σ' hr s.heap [] ls hP va_S.rf hl
theorem oML_of {ty : FieldType} {res : Option (Int64 × Sg)} (hI : oI w) (hy : plainName y.cls = true) (hw : ws = Cond.code y cc nL (some ty) :: ws') (hlen : (lg_sl av).length ≤ nL) (h : ∀ κ : oK, oC κ w nL cc y.cls ws n (some ty) → oV κ w nL (oQl κ w) σ 0 (lv_args 0 av) [] res) : oML l y ws n w av σ res := by
  intro r σ' hr
  refine Met.ofW (cc := cc) (maxL := nL) (ret := some ty) hy hw ?_
  intro p e s m args below meth c s₁ B hml hv
  obtain ⟨rfl, hP, hK, hZ, hN⟩ := hv
  have hts := atoms_spec (ws := ws) B.pre
  have hown : s.vm.findClass y.cls = some m.cls := findClass_of_methodNamed B.named
  have hl := lv_entry av (n := nL) hlen
  rw [lg_entry_eq]
  generalize (lg_sl av ++ List.replicate (nL - (lg_sl av).length) Slot.unset).toArray = ls at hl ⊢
  exact h (p, l, e, _, s, m, _, below, meth, c, 0, 0) ⟨B.exec, B.bytes, hml, hown, hts, hK, hZ, hN, hI, ⟨Nat.le_refl _, Nat.le_refl _, Nat.le_refl _, Nat.le_refl _⟩, B.returns, B.notSynchronized⟩ r σ' hr s.heap [] ls hP va_S.rf hl
theorem oMV_of  {res : Option (Unit × Sg)} (hI : oI w) (hy : plainName y.cls = true) (hw : ws = Cond.code y cc nL (none) :: ws') (hlen : (lg_sl av).length ≤ nL) (h : ∀ κ : oK, oC κ w nL cc y.cls ws n (none) → oV κ w nL (oQv κ w) σ 0 (lv_args 0 av) [] res) : oMV l y ws n w av σ res := by
  intro r σ' hr
  refine Met.ofW (cc := cc) (maxL := nL) (ret := none) hy hw ?_
  intro p e s m args below meth c s₁ B hml hv
  obtain ⟨rfl, hP, hK, hZ, hN⟩ := hv
  have hts := atoms_spec (ws := ws) B.pre
  have hown : s.vm.findClass y.cls = some m.cls := findClass_of_methodNamed B.named
  have hl := lv_entry av (n := nL) hlen
  rw [lg_entry_eq]
  generalize (lg_sl av ++ List.replicate (nL - (lg_sl av).length) Slot.unset).toArray = ls at hl ⊢
  exact h (p, l, e, _, s, m, _, below, meth, c, 0, 0) ⟨B.exec, B.bytes, hml, hown, hts, hK, hZ, hN, hI, ⟨Nat.le_refl _, Nat.le_refl _, Nat.le_refl _, Nat.le_refl _⟩, B.returns, B.notSynchronized⟩ r σ' hr s.heap [] ls hP va_S.rf hl
end OM
