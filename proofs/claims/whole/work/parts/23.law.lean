theorem wd_L_law_6 : Cond.constantLong RL 48 (4294967295) ∈ wsL_law := List.mem_of_getElem? (i := 6) rfl
theorem ic_6 : Int32.ofInt (6) = (6 : Int32) := by decide
theorem wd_L_law_0 : Cond.classLink RL 7 RX9 ∈ wsL_law := List.mem_of_getElem? (i := 0) rfl
theorem wd_L_law_1 : Cond.instantiable RX9 9 ∈ wsL_law := List.mem_of_getElem? (i := 1) rfl
theorem wd_L_law_2 : Cond.initialized RX9 ∈ wsL_law := List.mem_of_getElem? (i := 2) rfl
theorem wd_L_law_7 : Cond.methodLink RL 9 yX9_init ∈ wsL_law := List.mem_of_getElem? (i := 7) rfl
theorem wd_L_law_8 : Cond.instanceMethod yX9_init ∈ wsL_law := List.mem_of_getElem? (i := 8) rfl
theorem wd_L_law_3 : Cond.classLink RL 10 RX10 ∈ wsL_law := List.mem_of_getElem? (i := 3) rfl
theorem wd_L_law_4 : Cond.instantiable RX10 21 ∈ wsL_law := List.mem_of_getElem? (i := 4) rfl
theorem wd_L_law_5 : Cond.initialized RX10 ∈ wsL_law := List.mem_of_getElem? (i := 5) rfl
theorem wd_L_law_104 : Cond.methodLink RL 12 yX10_init ∈ wsL_law := List.mem_of_getElem? (i := 104) rfl
theorem wd_L_law_105 : Cond.instanceMethod yX10_init ∈ wsL_law := List.mem_of_getElem? (i := 105) rfl
/-! the law's world: the system's rows, then the reference's -/
def cmb (σ τ : Sg) : Sg := fun k => if k < 80 then σ k else τ (k - 80)
abbrev ym (x : oXp) (b : Nat → Nat) : oXp := (x.1, x.2.1, x.2.2.1, x.2.2.2.1, x.2.2.2.2.1, b, x.2.2.2.2.2.2)
def EC (x : oXp) (b : Nat → Nat) (k : Nat) (f : Nat → Int32) : va_E := if k < 80 then EX x k f else EM (ym x b) (k - 80) f
def aC (x : oXp) (b : Nat → Nat) (k : Nat) : Nat := if k < 80 then xa x k else b (k - 80)
abbrev oL (x : oXp) (b : Nat → Nat) : oT := (x.1, [(x.2.1, .int), (x.2.2.1, .object "BoardKeep$Line"), (x.2.2.2.1, .object "BoardKeep$Law"), (x.2.2.2.2.1, .object "BoardKeep$Sheet")], 94, aC x b, EC x b, x.2.2.2.2.2.2)
theorem cmb_P {x : oXp} {b : Nat → Nat} {σ τ : Sg} {H : Heap} : va_P x.1 vwCl (oW (oL x b) (cmb σ τ)) H ↔ va_P x.1 vwCl (oW (oX x) σ) H ∧ va_P x.1 vwCl (oW (oM (ym x b)) τ) H := by
  constructor
  · intro h
    refine ⟨fun k q hq => ?_, fun k q hq => ?_⟩
    · obtain ⟨h1, rfl⟩ := oW_at hq
      have h1 : k < 80 := h1
      have h2 := h k _ (oW_get (w := oL x b) (σ := cmb σ τ) (show k < 94 by omega))
      have e1 : (oL x b).2.2.2.1 k = xa x k := by show aC x b k = _; unfold aC; rw [if_pos h1]
      have e2 : (oL x b).2.2.2.2.1 k (cmb σ τ k) = EX x k (σ k) := by show EC x b k (cmb σ τ k) = _; unfold EC cmb; rw [if_pos h1, if_pos h1]
      rw [e1, e2] at h2
      exact h2
    · obtain ⟨h1, rfl⟩ := oW_at hq
      have h1 : k < 14 := h1
      have h2 := h (k + 80) _ (oW_get (w := oL x b) (σ := cmb σ τ) (show k + 80 < 94 by omega))
      have e1 : (oL x b).2.2.2.1 (k + 80) = b k := by show aC x b (k + 80) = _; unfold aC; rw [if_neg (by omega), Nat.add_sub_cancel]
      have e2 : (oL x b).2.2.2.2.1 (k + 80) (cmb σ τ (k + 80)) = EM (ym x b) k (τ k) := by show EC x b (k + 80) (cmb σ τ (k + 80)) = _; unfold EC cmb; rw [if_neg (by omega), if_neg (by omega), Nat.add_sub_cancel]
      rw [e1, e2] at h2
      exact h2
  · rintro ⟨hx, hm⟩ k q hq
    obtain ⟨h1, rfl⟩ := oW_at hq
    have h1 : k < 94 := h1
    by_cases h : k < 80
    · have h2 := hx k _ (oW_get (w := oX x) (σ := σ) h)
      have e1 : (oL x b).2.2.2.1 k = xa x k := by show aC x b k = _; unfold aC; rw [if_pos h]
      have e2 : (oL x b).2.2.2.2.1 k (cmb σ τ k) = EX x k (σ k) := by show EC x b k (cmb σ τ k) = _; unfold EC cmb; rw [if_pos h, if_pos h]
      rw [e1, e2]
      exact h2
    · have h2 := hm (k - 80) _ (oW_get (w := oM (ym x b)) (σ := τ) (show k - 80 < 14 by omega))
      have e1 : (oL x b).2.2.2.1 k = b (k - 80) := by show aC x b k = _; unfold aC; rw [if_neg h]
      have e2 : (oL x b).2.2.2.2.1 k (cmb σ τ k) = EM (ym x b) (k - 80) (τ (k - 80)) := by show EC x b k (cmb σ τ k) = _; unfold EC cmb; rw [if_neg h, if_neg h]
      rw [e1, e2]
      exact h2
theorem oA_LX {x : oXp} {b : Nat → Nat} {q : Nat} (h : oA (oX x) q) : oA (oL x b) q := by
  obtain ⟨k, hk, rfl⟩ := h
  have hk : k < 80 := hk
  exact ⟨k, show k < 94 by omega, by show xa x k = aC x b k; unfold aC; rw [if_pos hk]⟩
theorem oA_LM {x : oXp} {b : Nat → Nat} {q : Nat} (h : oA (oM (ym x b)) q) : oA (oL x b) q := by
  obtain ⟨k, hk, rfl⟩ := h
  have hk : k < 14 := hk
  exact ⟨k + 80, show k + 80 < 94 by omega, by show b k = aC x b (k + 80); unfold aC; rw [if_neg (by omega), Nat.add_sub_cancel]⟩
theorem oI_LX {x : oXp} {b : Nat → Nat} (h : oI (oL x b)) : oI (oX x) := by
  intro i j hi hj e
  have hi : i < 80 := hi
  have hj : j < 80 := hj
  refine h i j (show i < 94 by omega) (show j < 94 by omega) ?_
  show aC x b i = aC x b j
  unfold aC
  rw [if_pos hi, if_pos hj]
  exact e
theorem oI_LM {x : oXp} {b : Nat → Nat} (h : oI (oL x b)) : oI (oM (ym x b)) := by
  intro i j hi hj e
  have hi : i < 14 := hi
  have hj : j < 14 := hj
  have := h (i + 80) (j + 80) (show i + 80 < 94 by omega) (show j + 80 < 94 by omega) (by
    show aC x b (i + 80) = aC x b (j + 80)
    unfold aC
    rw [if_neg (by omega), if_neg (by omega), Nat.add_sub_cancel, Nat.add_sub_cancel]
    exact e)
  omega
theorem oI_ne {x : oXp} {b : Nat → Nat} (h : oI (oL x b)) {i j : Nat} (hi : i < 80) (hj : j < 14) : xa x i ≠ b j := by
  intro e
  have := h i (j + 80) (show i < 94 by omega) (show j + 80 < 94 by omega) (by
    show aC x b i = aC x b (j + 80)
    unfold aC
    rw [if_pos hi, if_neg (by omega), Nat.add_sub_cancel]
    exact e)
  omega
theorem oZ_nar {w w' : oT} {U : State} {H : Heap} (ht : w.2.2.2.2.2 = w'.2.2.2.2.2) (h : oZ w U H) (hA : ∀ q, oA w' q → oA w q) : oZ w' U H := by
  unfold oZ at h ⊢
  rw [← ht]
  exact ⟨⟨h.1.1.narrow hA, h.1.2.narrow hA⟩, ⟨h.2.1.1.narrow hA, h.2.1.2.narrow hA⟩, ⟨h.2.2.1.narrow hA, h.2.2.2.narrow hA⟩⟩
def oS (κ : oK) (w : oT) (b0 L : Nat) (xs : Nat → Int32) : Prop := match κ with
  | (p, l, e, R, s, m, args, below, meth, c, mc, ms) => va_X b0 L xs s s.heap ∧ b0 < s.heap.size ∧ ¬ oA w b0
section OL
variable {α : Type} {κ : oK} {w : oT} {nL : Nat} {cc : ByteArray} {own : String} {Ts : List Cond} {n : Nat} {ret : Option FieldType} {Q : α → Sg → State → Prop} {σ : Sg} {pc : Nat} {lv lv' : List (Nat × Value)} {st : List Value} {res : Option (α × Sg)}
theorem r_sld {b0 L : Nat} {xs : Nat → Int32} {i : Int32} {X : Option (α × Sg)} (C : oC κ w nL cc own Ts n ret) (S : oS κ w b0 L xs) (hd : decode cc pc = .ok (.iaload, 1)) (k : oV κ w nL Q σ (pc + 1) lv (.int (xs i.toNatClampNeg) :: st) X) : oV κ w nL Q σ pc lv (.int i :: .ref b0 :: st) (ckb (inb i L) X) := by
  obtain ⟨p, l, e, R, s, m, args, below, meth, c, mc, ms⟩ := κ
  obtain ⟨hx, hb, hml, hown, hts, hK, hZ, hN, hI, hR, hret, hlk⟩ := C
  intro r σ' h H locs ls hP hS hl
  obtain ⟨hb0, h⟩ := ckb_some h
  exact va_sld hx hb S.1 S.2.1 S.2.2 hS (inb_in hb0) hd (k r σ' h H locs ls hP hS hl)
theorem r_slen {b0 L : Nat} {xs : Nat → Int32} (C : oC κ w nL cc own Ts n ret) (S : oS κ w b0 L xs) (hd : decode cc pc = .ok (.arraylength, 1)) (k : oV κ w nL Q σ (pc + 1) lv (.int (Int32.ofNat L) :: st) res) : oV κ w nL Q σ pc lv (.ref b0 :: st) res := by
  obtain ⟨p, l, e, R, s, m, args, below, meth, c, mc, ms⟩ := κ
  obtain ⟨hx, hb, hml, hown, hts, hK, hZ, hN, hI, hR, hret, hlk⟩ := C
  intro r σ' h H locs ls hP hS hl
  exact va_slen hx hb S.1 S.2.1 S.2.2 hS hd (k r σ' h H locs ls hP hS hl)
end OL
theorem r_LXi {α : Type} {κ : oK} {x : oXp} {b : Nat → Nat} {nL : Nat} {cc : ByteArray} {own : String} {Ts : List Cond} {n : Nat} {ret : Option FieldType} {Q : α → Sg → State → Prop} {σ τ : Sg} {pc : Nat} {lv : List (Nat × Value)} {st : List Value} {y : MethodName} {ws ws' : List Cond} {n' maxL idx na : Nat} {bytes : ByteArray} {ty : FieldType} {F : Option (Int32 × Sg)} {K : Int32 → Sg → Option (α × Sg)} {As : List Value} (C : oC κ (oL x b) nL cc own Ts n ret) (hM : ∀ l, oI (oX x) → oMI l y ws n' (oX x) (.ref (xa x 0) :: As) σ F) (hG : GoodIn Ts (wsV own idx y.cls y ws)) (hw : ws = Cond.code y bytes maxL (some ty) :: ws') (hd0 : y.cls ≠ "java/lang/invoke/MethodHandle" ∧ y.cls ≠ "java/lang/invoke/VarHandle" ∧ (parseMethodDescriptor y.desc).map (fun d => d.parameters.length) = some na) (hna : As.length = na) (hmx : maxL ≤ 21) (hn' : n' + 1 ≤ n) (hq : RX9 = y.cls) (hst : (st.map fun v => v.category).sum ≤ 8) (hd : decode cc pc = .ok (.invokevirtual idx, 3)) (kk : ∀ (r1 : Int32) (σ1 : Sg), oV κ (oL x b) nL Q (cmb σ1 τ) (pc + 3) lv (.int r1 :: st) (K r1 σ1)) : oV κ (oL x b) nL Q (cmb σ τ) pc lv (As.reverse ++ .ref (xa x 0) :: st) (bnd F K) := by
  obtain ⟨p, l, e, R, s, m, args, below, meth, c, mc, ms⟩ := κ
  obtain ⟨hx, hb, hml, hown, hts, hK, hZ, hN, hI, hR, hret, hlk⟩ := C
  intro r σ' h H locs ls hP hS hl
  obtain ⟨hR1, hR2, hR3, hR4⟩ := hR
  have hP := cmb_P.mp hP
  cases hF : F with
  | none => rw [hF] at h; cases h
  | some q =>
  obtain ⟨r1, σ1⟩ := q
  rw [hF] at h
  refine va_calli (va_runV (As := As) (rest := st) ⟨hx, hb, hml, hown, hts⟩ (hM l (oI_LX hI) r1 σ1 hF) (cwV na hts hG hw rfl rfl ⟨rfl, hd0⟩ ⟨by show n' + 1 ≤ R.frames; omega, by show 8 + (maxL + 11) + 40 * n' ≤ R.locals; omega⟩) ⟨fun a U g mk q => ⟨q.1, q.2.1, va_K.moved (u := U) (U := U.calling g mk a) (Vm.Alike.refl U.vm) q.2.2.1, oZ.moved (u := U) (U := U.calling g mk a) (Vm.Alike.refl U.vm) q.2.2.2.1, oN.same (u := U) (U := U.calling g mk a) rfl q.2.2.2.2⟩, (by have q9 := va_recv hK hP.1 (ci := 9) (q := (RX9, TX9, 9)) rfl (q0 := 0) (oW_get (w := (oX x)) (σ := σ) (k := 0) (by show 0 < 80; decide)); rw [← hq]; exact q9), fun U hU hW => ⟨rfl, by rw [hU]; exact hP.1, va_K.moved hW.alike hK, by rw [hU]; exact (oZ_nar (w := oL x b) (w' := (oX x)) rfl (hZ.kept (fun a h1 h2 => hS.2.1 a h1 h2)) (fun q h => oA_LX h)).moved hW.alike, hN.warm hW⟩⟩ rfl hna hl.1 rfl (lv_room hst) hd ⟨hR3, hR4⟩) hS (fun q _ h => oA_LX h) (fun q h => oA_LX h) (fun r2 u t H1 locs1 ht hvm hw hB hz1 hk1 hS1 => ?_)
  obtain ⟨rfl, rfl⟩ := hw
  refine kk _ _ r σ' h H1 locs1 ls (cmb_P.mpr ⟨by rw [ht] at hB; exact hB, hP.2.kept (fun k q hk => ?_)⟩) hS1 hl
  obtain ⟨h1, rfl⟩ := oW_at hk
  exact hk1 _ (hP.2 k _ hk).lt (fun ⟨j, hj, hjq⟩ => oI_ne hI hj h1 hjq.symm)

theorem r_LXl {α : Type} {κ : oK} {x : oXp} {b : Nat → Nat} {nL : Nat} {cc : ByteArray} {own : String} {Ts : List Cond} {n : Nat} {ret : Option FieldType} {Q : α → Sg → State → Prop} {σ τ : Sg} {pc : Nat} {lv : List (Nat × Value)} {st : List Value} {y : MethodName} {ws ws' : List Cond} {n' maxL idx na : Nat} {bytes : ByteArray} {ty : FieldType} {F : Option (Int64 × Sg)} {K : Int64 → Sg → Option (α × Sg)} {As : List Value} (C : oC κ (oL x b) nL cc own Ts n ret) (hM : ∀ l, oI (oX x) → oML l y ws n' (oX x) (.ref (xa x 0) :: As) σ F) (hG : GoodIn Ts (wsV own idx y.cls y ws)) (hw : ws = Cond.code y bytes maxL (some ty) :: ws') (hd0 : y.cls ≠ "java/lang/invoke/MethodHandle" ∧ y.cls ≠ "java/lang/invoke/VarHandle" ∧ (parseMethodDescriptor y.desc).map (fun d => d.parameters.length) = some na) (hna : As.length = na) (hmx : maxL ≤ 21) (hn' : n' + 1 ≤ n) (hq : RX9 = y.cls) (hst : (st.map fun v => v.category).sum ≤ 8) (hd : decode cc pc = .ok (.invokevirtual idx, 3)) (kk : ∀ (r1 : Int64) (σ1 : Sg), oV κ (oL x b) nL Q (cmb σ1 τ) (pc + 3) lv (.long r1 :: st) (K r1 σ1)) : oV κ (oL x b) nL Q (cmb σ τ) pc lv (As.reverse ++ .ref (xa x 0) :: st) (bnd F K) := by
  obtain ⟨p, l, e, R, s, m, args, below, meth, c, mc, ms⟩ := κ
  obtain ⟨hx, hb, hml, hown, hts, hK, hZ, hN, hI, hR, hret, hlk⟩ := C
  intro r σ' h H locs ls hP hS hl
  obtain ⟨hR1, hR2, hR3, hR4⟩ := hR
  have hP := cmb_P.mp hP
  cases hF : F with
  | none => rw [hF] at h; cases h
  | some q =>
  obtain ⟨r1, σ1⟩ := q
  rw [hF] at h
  refine va_calll (va_runV (As := As) (rest := st) ⟨hx, hb, hml, hown, hts⟩ (hM l (oI_LX hI) r1 σ1 hF) (cwV na hts hG hw rfl rfl ⟨rfl, hd0⟩ ⟨by show n' + 1 ≤ R.frames; omega, by show 8 + (maxL + 11) + 40 * n' ≤ R.locals; omega⟩) ⟨fun a U g mk q => ⟨q.1, q.2.1, va_K.moved (u := U) (U := U.calling g mk a) (Vm.Alike.refl U.vm) q.2.2.1, oZ.moved (u := U) (U := U.calling g mk a) (Vm.Alike.refl U.vm) q.2.2.2.1, oN.same (u := U) (U := U.calling g mk a) rfl q.2.2.2.2⟩, (by have q9 := va_recv hK hP.1 (ci := 9) (q := (RX9, TX9, 9)) rfl (q0 := 0) (oW_get (w := (oX x)) (σ := σ) (k := 0) (by show 0 < 80; decide)); rw [← hq]; exact q9), fun U hU hW => ⟨rfl, by rw [hU]; exact hP.1, va_K.moved hW.alike hK, by rw [hU]; exact (oZ_nar (w := oL x b) (w' := (oX x)) rfl (hZ.kept (fun a h1 h2 => hS.2.1 a h1 h2)) (fun q h => oA_LX h)).moved hW.alike, hN.warm hW⟩⟩ rfl hna hl.1 rfl (lv_room hst) hd ⟨hR3, hR4⟩) hS (fun q _ h => oA_LX h) (fun q h => oA_LX h) (fun r2 u t H1 locs1 ht hvm hw hB hz1 hk1 hS1 => ?_)
  obtain ⟨rfl, rfl⟩ := hw
  refine kk _ _ r σ' h H1 locs1 ls (cmb_P.mpr ⟨by rw [ht] at hB; exact hB, hP.2.kept (fun k q hk => ?_)⟩) hS1 hl
  obtain ⟨h1, rfl⟩ := oW_at hk
  exact hk1 _ (hP.2 k _ hk).lt (fun ⟨j, hj, hjq⟩ => oI_ne hI hj h1 hjq.symm)

theorem r_LMi {α : Type} {κ : oK} {x : oXp} {b : Nat → Nat} {nL : Nat} {cc : ByteArray} {own : String} {Ts : List Cond} {n : Nat} {ret : Option FieldType} {Q : α → Sg → State → Prop} {σ τ : Sg} {pc : Nat} {lv : List (Nat × Value)} {st : List Value} {y : MethodName} {ws ws' : List Cond} {n' maxL idx na : Nat} {bytes : ByteArray} {ty : FieldType} {F : Option (Int32 × Sg)} {K : Int32 → Sg → Option (α × Sg)} {As : List Value} (C : oC κ (oL x b) nL cc own Ts n ret) (hM : ∀ l, oI (oM (ym x b)) → oMI l y ws n' (oM (ym x b)) (.ref (b 0) :: As) τ F) (hG : GoodIn Ts (wsV own idx y.cls y ws)) (hw : ws = Cond.code y bytes maxL (some ty) :: ws') (hd0 : y.cls ≠ "java/lang/invoke/MethodHandle" ∧ y.cls ≠ "java/lang/invoke/VarHandle" ∧ (parseMethodDescriptor y.desc).map (fun d => d.parameters.length) = some na) (hna : As.length = na) (hmx : maxL ≤ 21) (hn' : n' + 1 ≤ n) (hq : RX10 = y.cls) (hst : (st.map fun v => v.category).sum ≤ 8) (hd : decode cc pc = .ok (.invokevirtual idx, 3)) (kk : ∀ (r1 : Int32) (τ1 : Sg), oV κ (oL x b) nL Q (cmb σ τ1) (pc + 3) lv (.int r1 :: st) (K r1 τ1)) : oV κ (oL x b) nL Q (cmb σ τ) pc lv (As.reverse ++ .ref (b 0) :: st) (bnd F K) := by
  obtain ⟨p, l, e, R, s, m, args, below, meth, c, mc, ms⟩ := κ
  obtain ⟨hx, hb, hml, hown, hts, hK, hZ, hN, hI, hR, hret, hlk⟩ := C
  intro r σ' h H locs ls hP hS hl
  obtain ⟨hR1, hR2, hR3, hR4⟩ := hR
  have hP := cmb_P.mp hP
  cases hF : F with
  | none => rw [hF] at h; cases h
  | some q =>
  obtain ⟨r1, τ1⟩ := q
  rw [hF] at h
  refine va_calli (va_runV (As := As) (rest := st) ⟨hx, hb, hml, hown, hts⟩ (hM l (oI_LM hI) r1 τ1 hF) (cwV na hts hG hw rfl rfl ⟨rfl, hd0⟩ ⟨by show n' + 1 ≤ R.frames; omega, by show 8 + (maxL + 11) + 40 * n' ≤ R.locals; omega⟩) ⟨fun a U g mk q => ⟨q.1, q.2.1, va_K.moved (u := U) (U := U.calling g mk a) (Vm.Alike.refl U.vm) q.2.2.1, oZ.moved (u := U) (U := U.calling g mk a) (Vm.Alike.refl U.vm) q.2.2.2.1, oN.same (u := U) (U := U.calling g mk a) rfl q.2.2.2.2⟩, (by have q9 := va_recv hK hP.2 (ci := 10) (q := (RX10, TX10, 21)) rfl (q0 := 0) (oW_get (w := (oM (ym x b))) (σ := τ) (k := 0) (by show 0 < 14; decide)); rw [← hq]; exact q9), fun U hU hW => ⟨rfl, by rw [hU]; exact hP.2, va_K.moved hW.alike hK, by rw [hU]; exact (oZ_nar (w := oL x b) (w' := (oM (ym x b))) rfl (hZ.kept (fun a h1 h2 => hS.2.1 a h1 h2)) (fun q h => oA_LM h)).moved hW.alike, hN.warm hW⟩⟩ rfl hna hl.1 rfl (lv_room hst) hd ⟨hR3, hR4⟩) hS (fun q _ h => oA_LM h) (fun q h => oA_LM h) (fun r2 u t H1 locs1 ht hvm hw hB hz1 hk1 hS1 => ?_)
  obtain ⟨rfl, rfl⟩ := hw
  refine kk _ _ r σ' h H1 locs1 ls (cmb_P.mpr ⟨hP.1.kept (fun k q hk => ?_), by rw [ht] at hB; exact hB⟩) hS1 hl
  obtain ⟨h1, rfl⟩ := oW_at hk
  exact hk1 _ (hP.1 k _ hk).lt (fun ⟨j, hj, hjq⟩ => oI_ne hI h1 hj hjq)

theorem r_LMl {α : Type} {κ : oK} {x : oXp} {b : Nat → Nat} {nL : Nat} {cc : ByteArray} {own : String} {Ts : List Cond} {n : Nat} {ret : Option FieldType} {Q : α → Sg → State → Prop} {σ τ : Sg} {pc : Nat} {lv : List (Nat × Value)} {st : List Value} {y : MethodName} {ws ws' : List Cond} {n' maxL idx na : Nat} {bytes : ByteArray} {ty : FieldType} {F : Option (Int64 × Sg)} {K : Int64 → Sg → Option (α × Sg)} {As : List Value} (C : oC κ (oL x b) nL cc own Ts n ret) (hM : ∀ l, oI (oM (ym x b)) → oML l y ws n' (oM (ym x b)) (.ref (b 0) :: As) τ F) (hG : GoodIn Ts (wsV own idx y.cls y ws)) (hw : ws = Cond.code y bytes maxL (some ty) :: ws') (hd0 : y.cls ≠ "java/lang/invoke/MethodHandle" ∧ y.cls ≠ "java/lang/invoke/VarHandle" ∧ (parseMethodDescriptor y.desc).map (fun d => d.parameters.length) = some na) (hna : As.length = na) (hmx : maxL ≤ 21) (hn' : n' + 1 ≤ n) (hq : RX10 = y.cls) (hst : (st.map fun v => v.category).sum ≤ 8) (hd : decode cc pc = .ok (.invokevirtual idx, 3)) (kk : ∀ (r1 : Int64) (τ1 : Sg), oV κ (oL x b) nL Q (cmb σ τ1) (pc + 3) lv (.long r1 :: st) (K r1 τ1)) : oV κ (oL x b) nL Q (cmb σ τ) pc lv (As.reverse ++ .ref (b 0) :: st) (bnd F K) := by
  obtain ⟨p, l, e, R, s, m, args, below, meth, c, mc, ms⟩ := κ
  obtain ⟨hx, hb, hml, hown, hts, hK, hZ, hN, hI, hR, hret, hlk⟩ := C
  intro r σ' h H locs ls hP hS hl
  obtain ⟨hR1, hR2, hR3, hR4⟩ := hR
  have hP := cmb_P.mp hP
  cases hF : F with
  | none => rw [hF] at h; cases h
  | some q =>
  obtain ⟨r1, τ1⟩ := q
  rw [hF] at h
  refine va_calll (va_runV (As := As) (rest := st) ⟨hx, hb, hml, hown, hts⟩ (hM l (oI_LM hI) r1 τ1 hF) (cwV na hts hG hw rfl rfl ⟨rfl, hd0⟩ ⟨by show n' + 1 ≤ R.frames; omega, by show 8 + (maxL + 11) + 40 * n' ≤ R.locals; omega⟩) ⟨fun a U g mk q => ⟨q.1, q.2.1, va_K.moved (u := U) (U := U.calling g mk a) (Vm.Alike.refl U.vm) q.2.2.1, oZ.moved (u := U) (U := U.calling g mk a) (Vm.Alike.refl U.vm) q.2.2.2.1, oN.same (u := U) (U := U.calling g mk a) rfl q.2.2.2.2⟩, (by have q9 := va_recv hK hP.2 (ci := 10) (q := (RX10, TX10, 21)) rfl (q0 := 0) (oW_get (w := (oM (ym x b))) (σ := τ) (k := 0) (by show 0 < 14; decide)); rw [← hq]; exact q9), fun U hU hW => ⟨rfl, by rw [hU]; exact hP.2, va_K.moved hW.alike hK, by rw [hU]; exact (oZ_nar (w := oL x b) (w' := (oM (ym x b))) rfl (hZ.kept (fun a h1 h2 => hS.2.1 a h1 h2)) (fun q h => oA_LM h)).moved hW.alike, hN.warm hW⟩⟩ rfl hna hl.1 rfl (lv_room hst) hd ⟨hR3, hR4⟩) hS (fun q _ h => oA_LM h) (fun q h => oA_LM h) (fun r2 u t H1 locs1 ht hvm hw hB hz1 hk1 hS1 => ?_)
  obtain ⟨rfl, rfl⟩ := hw
  refine kk _ _ r σ' h H1 locs1 ls (cmb_P.mpr ⟨hP.1.kept (fun k q hk => ?_), by rw [ht] at hB; exact hB⟩) hS1 hl
  obtain ⟨h1, rfl⟩ := oW_at hk
  exact hk1 _ (hP.1 k _ hk).lt (fun ⟨j, hj, hjq⟩ => oI_ne hI h1 hj hjq)

/-! THE CLAIM OUT OF ONE WALK OF THE LAW'S BODY. Your part is whole_start (and what it stands on); all else here is the same for every law, but numbers. -/
def R_law : String := "BoardKeepLaw"
def lw_P (b : Addr) (xs : List Int32) (args : Array Value) (s : State) : Prop := args = #[.ref b] ∧ s.IntsAt b xs ∧ xs.length ≤ 3072 ∧ (Jvm.Cond.and given_1 narrow_1).before args s = true
def lw_Q (_ : Array Value) (s : State) (o : Outcome) (t : State) : Prop := o = .returned (some (.int 1)) ∧ Framed s o t [] 600000 7302250
def lw_Z (below : List Frame) (a : Array Value) (s : State) : State → Prop := fun t => ∃ o, t.status = .running ∧ Ended t below o ∧ lw_Q a s o t
/-- the law's own end, with 1 on the stack, nothing written that was there before, its room as the claim has it -/
theorem lw_ret {p : Program} {l : Launch} {e : Env} {s : State} {m : MethodId} {below : List Frame} {meth : Method} {c : Code} {b : Nat} (hx : p.tables.exec = Jvm.exec) (hb : c.code = code) (hr : meth.sig.returnType = ret) (hlocks : meth.locks = false) {pc : Nat} {H : Heap} {ls : Array Slot} (hdg : decode code pc = .ok (.ireturn, 1)) : W p l e room_1 s m #[Value.ref b] below meth c H [] 600000 7302250 (lw_Z below #[Value.ref b] s) (F0 m pc ls [.int 1]) := by
  intro T hT X
  obtain ⟨fs, hret, hrun, hended, hW, hframe⟩ := X.leave (v := some (.int 1)) (hlocks := hlocks) (fun h => by rw [hr] at h; cases h)
  have hmeth' : T.vm.method? m = some meth := X.method'
  refine ⟨T.setFrames fs, ?_, .returned (some (.int 1)), hrun, hended, rfl, ⟨_, rfl⟩, hW, hframe⟩
  jvm_step X.here [X.here.top, hx, hb, hdg, hmeth', hr, ret, narrow_b1]
  (try refine ⟨rfl, ?_⟩); (try refine ⟨rfl, ?_⟩)
  first | (intro acts; rw [hret _ acts rfl rfl rfl]) | rw [hret _ _ rfl rfl rfl]
  exact Steps.refl _
/-- what holds at the law's entry: the machine, the code, the tables' words (any of lw_tbl by 'hts w (by decide +kernel)'), the script of L ints xs at the cell b, what the Statement gives of the start (any of its parts by flat_of_before) -/
def lw_At (p : Program) (s : State) (m : MethodId) (meth : Method) (c : Code) (b L : Nat) (xs : Nat → Int32) : Prop :=
  p.tables.exec = Jvm.exec ∧ c.code = code ∧ meth.sig.returnType = ret ∧ c.maxLocals = 4 ∧ s.vm.findClass R_law = some m.cls ∧ (∀ w ∈ lw_tbl, w.before #[Value.ref b] s = true) ∧ va_X b L xs s s.heap ∧ b < s.heap.size ∧ meth.locks = false ∧ (Jvm.Cond.and given_1 narrow_1).before #[Value.ref b] s = true
def oQL (κ : oK) (r : Int32) (_ : Sg) : State → Prop := match κ with
  | (p, l, e, R, s, m, args, below, meth, c, mc, ms) => fun t => r = 1 → lw_Z below args s t
def lwK (κ : oK) (b0 : Nat) (w : oT) : Prop := match κ with
  | (p, l, e, R, s, m, args, below, meth, c, mc, ms) => R = room_1 ∧ args = #[Value.ref b0] ∧ c.code = code ∧ meth.sig.returnType = ret ∧ mc ≤ 600000 ∧ ms ≤ 7302250 ∧ ∀ q, oA w q → s.heap.size ≤ q
theorem r_Lret0 {κ : oK} {w : oT} {nL : Nat} {cc : ByteArray} {own : String} {Ts : List Cond} {n : Nat} {rt : Option FieldType} {σ : Sg} {pc : Nat} {lv : List (Nat × Value)} (C : oC κ w nL cc own Ts n rt) (hd : decode cc pc = .ok (.ireturn, 1)) : oV κ w nL (oQL κ) σ pc lv [.int 0] (some (0, σ)) := by
  obtain ⟨p, l, e, R, s, m, args, below, meth, c, mc, ms⟩ := κ
  intro r σ' h H locs ls hP hS hl
  cases h
  intro T hT X
  exact ⟨_, Steps.refl _, fun h => absurd h (by decide)⟩
theorem r_Lret1 {κ : oK} {w : oT} {nL b0 : Nat} {own : String} {Ts : List Cond} {n : Nat} {rt : Option FieldType} {σ : Sg} {pc : Nat} {lv : List (Nat × Value)} (C : oC κ w nL cL_law own Ts n rt) (hz : lwK κ b0 w) (hd : decode cL_law pc = .ok (.ireturn, 1)) : oV κ w nL (oQL κ) σ pc lv [.int 1] (some (1, σ)) := by
  obtain ⟨p, l, e, R, s, m, args, below, meth, c, mc, ms⟩ := κ
  obtain ⟨hx, hb, hml, hown, hts, hK, hZ, hN, hI, hR, hret, hlk⟩ := C
  obtain ⟨rfl, rfl, hcc, hrr, hm1, hm2, hA⟩ := hz
  intro r σ' h H locs ls hP hS hl
  cases h
  refine va_forget (fun q hq => hA _ (hS.2.2 q hq)) ?_
  refine W.widen (k := 600000) (n := 7302250) hm1 hm2 ?_
  intro T hT X
  obtain ⟨t, h1, h2⟩ := lw_ret hx hcc hrr hlk hd T hT X
  exact ⟨t, h1, fun _ => h2⟩
theorem oNw_in : ∀ w ∈ oNw, w ∈ lw_tbl := wl_in _ [104, 105, 106, 107, 108, 110, 111, 112, 129, 130, 146, 147, 149, 150, 151, 153, 154, 156, 157, 159, 161, 162, 164, 165, 182, 183, 185, 186, 188, 189, 191, 192, 194, 196, 198, 200, 202, 204, 235, 239, 256, 258, 260, 287, 289, 314, 316, 706, 410, 445, 578, 620, 628, 668, 669, 122, 141, 228, 251, 270, 280, 307] (by decide +kernel)
