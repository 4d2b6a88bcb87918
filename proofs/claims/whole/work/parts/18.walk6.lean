set_option maxHeartbeats 4000000 in
set_option maxRecDepth 100000 in
theorem m_X6_stands (l : Launch) (x : oXp) (hI : oI (oX x)) (o0 : Nat) (a1 : Int32) (a2 : Int32) (h1_o0 : 44 ≤ o0) (h2_o0 : o0 < 62) (σ : Sg) : oMI l yX6_stands wsX6_stands 3 (oX x) [.ref (xa x o0), .int a1, .int a2] σ (f_X6_stands  o0 a1 a2 σ) := by
  refine oMI_of (nL := 3) (cc := cX6_stands) hI (by decide +kernel) rfl (Nat.le_of_ble_eq_true rfl) ?_
  intro κ C
  have C : oC κ (oX x) 3 cX6_stands RX6 wsX6_stands 3 (some .boolean) := C
  unfold f_X6_stands
  show oV κ (oX x) 3 (oQi κ (oX x)) σ 0 [(0, .ref (xa x o0)), (1, .int a1), (2, .int a2)] [] _
  refine r_ildn (pc := 0) C dX6_stands_0 1 rfl ?_
  refine r_iflt (pc := 1) (tgt := 30) C dX6_stands_1 (by decide) ?_ ?_
  · refine r_iconst (pc := 30) (v := (0 : Int32)) C dX6_stands_30 ic_0 ?_
    exact r_zret (pc := 31) C (by decide) dX6_stands_31
  · refine r_ildn (pc := 4) C dX6_stands_4 2 rfl ?_
    refine r_iflt (pc := 5) (tgt := 30) C dX6_stands_5 (by decide) ?_ ?_
    · refine r_iconst (pc := 30) (v := (0 : Int32)) C dX6_stands_30 ic_0 ?_
      exact r_zret (pc := 31) C (by decide) dX6_stands_31
    · refine r_ildn (pc := 8) C dX6_stands_8 2 rfl ?_
      refine r_aldn (pc := 9) C dX6_stands_9 0 rfl ?_
      refine gf_X6_1 (pc := 10) C (o := o0) (by omega) (by omega) hi_X6_stands_X6 wd_X6_stands_1 dX6_stands_10 ?_
      refine r_icgt (pc := 13) (tgt := 30) C dX6_stands_13 (by decide) ?_ ?_
      · refine r_iconst (pc := 30) (v := (0 : Int32)) C dX6_stands_30 ic_0 ?_
        exact r_zret (pc := 31) C (by decide) dX6_stands_31
      · refine r_ildn (pc := 16) C dX6_stands_16 1 rfl ?_
        refine r_aldn (pc := 17) C dX6_stands_17 0 rfl ?_
        refine gf_X6_1 (pc := 18) C (o := o0) (by omega) (by omega) hi_X6_stands_X6 wd_X6_stands_1 dX6_stands_18 ?_
        refine r_ildn (pc := 21) C dX6_stands_21 2 rfl ?_
        refine r_isub (pc := 22) C dX6_stands_22 ?_
        refine r_icgt (pc := 23) (tgt := 30) C dX6_stands_23 (by decide) ?_ ?_
        · refine r_iconst (pc := 30) (v := (0 : Int32)) C dX6_stands_30 ic_0 ?_
          exact r_zret (pc := 31) C (by decide) dX6_stands_31
        · refine r_iconst (pc := 26) (v := (1 : Int32)) C dX6_stands_26 ic_1 ?_
          refine r_goto (pc := 27) (tgt := 31) C dX6_stands_27 (by decide) ?_
          exact r_zret (pc := 31) C (by decide) dX6_stands_31
theorem k_X6_stands {κ : oK} {nL : Nat} {cc : ByteArray} {own : String} {Ts : List Cond} {n : Nat} {ret : Option FieldType} {α : Type} {Q : α → Sg → State → Prop} {σ : Sg} {pc : Nat} {lv : List (Nat × Value)} {st : List Value} {x : oXp} {idx : Nat} {o0 : Nat} {a1 : Int32} {a2 : Int32} {K : Int32 → Sg → Option (α × Sg)} (C : oC κ (oX x) nL cc own Ts n ret) (hG : GoodIn Ts (wsV own idx RX6 yX6_stands wsX6_stands)) (hn : 3 + 1 ≤ n) (h1_o0 : 44 ≤ o0) (h2_o0 : o0 < 62) (hst : (st.map fun v => v.category).sum ≤ 8) (hd : decode cc pc = .ok (.invokevirtual idx, 3)) (kk : ∀ (r1 : Int32) (σ1 : Sg), oV κ (oX x) nL Q σ1 (pc + 3) lv (.int r1 :: st) (K r1 σ1)) : oV κ (oX x) nL Q σ pc lv (.int a2 :: .int a1 :: .ref (xa x o0) :: st) (bnd (f_X6_stands o0 a1 a2 σ) K) := by
  have hI : oI (oX x) := oC_I C
  exact r_cVi (As := [.int a1, .int a2]) (na := 2) (j := o0) (ci := 6) C (fun l => m_X6_stands l x hI o0 a1 a2 h1_o0 h2_o0 σ) hG rfl (by decide +kernel) rfl (by decide) hn (by show o0 < 80; omega) rfl (eX6 x h1_o0 h2_o0 _) rfl rfl hst hd kk
set_option maxHeartbeats 4000000 in
set_option maxRecDepth 100000 in
theorem v_X7_begin_14_b {κ : oK} {x : oXp} (C : oC κ (oX x) 4 cX7_begin RX7 wsX7_begin 4 none)  (rec14 : Nat → Int32 → Int32 → Sg → Option (Unit × Sg)) (hrec14 : ∀ (o0 : Nat) (a2 : Int32) (a3 : Int32) (h1_o0 : 10 ≤ o0) (h2_o0 : o0 < 14) (σ : Sg), oV κ (oX x) 4 (oQv κ (oX x)) σ 14 [(0, .ref (xa x o0)), (2, .int a2), (3, .int a3)] [] (rec14 o0 a2 a3 σ)) (o0 : Nat) (a2 : Int32) (a3 : Int32) (h1_o0 : 10 ≤ o0) (h2_o0 : o0 < 14) (σ : Sg) : oV κ (oX x) 4 (oQv κ (oX x)) σ 14 [(0, .ref (xa x o0)), (2, .int a2), (3, .int a3)] [] (f_X7_begin_14_b   rec14 o0 a2 a3 σ) := by
  unfold f_X7_begin_14_b
  refine r_ildn (pc := 14) C dX7_begin_14 2 rfl ?_
  refine r_ildn (pc := 15) C dX7_begin_15 1 rfl ?_
  refine r_icge (pc := 16) (tgt := 33) C dX7_begin_16 (by decide) ?_ ?_
  · exact r_vret (pc := 33) C dX7_begin_33
  · refine r_aldn (pc := 19) C dX7_begin_19 0 rfl ?_
    refine gf_X7_0 (pc := 20) C (o := o0) (by omega) (by omega) hi_X7_begin_X7 wd_X7_begin_2 dX7_begin_20 ?_
    refine r_iconst (pc := 23) (v := (0 : Int32)) C dX7_begin_23 ic_0 ?_
    refine k_X6_add (x := x) (pc := 24) (o0 := (o0 + 48)) (a1 := (0 : Int32)) C gX7_begin_X6_add (by omega) (by omega) (by omega) (Nat.le_of_ble_eq_true rfl) dX7_begin_24 (fun _ s1 => ?_)
    refine r_iinc (pc := 27) (v := (1 : Int32)) (lv1 := fun y => [(0, _), (2, _), (3, .int y)]) C dX7_begin_27 ic_1 2 rfl (by decide) [1, 2, 0] (fun _ => rfl) (fun v3 => ?_)
    refine r_goto (pc := 30) (tgt := 14) C dX7_begin_30 (by decide) ?_
    exact hrec14 o0 a2 v3 (by omega) (by omega) s1
theorem v_X7_begin_14 {κ : oK} {x : oXp} (C : oC κ (oX x) 4 cX7_begin RX7 wsX7_begin 4 none)  : ∀ (n : Nat) (o0 : Nat) (a2 : Int32) (a3 : Int32) (h1_o0 : 10 ≤ o0) (h2_o0 : o0 < 14) (σ : Sg), oV κ (oX x) 4 (oQv κ (oX x)) σ 14 [(0, .ref (xa x o0)), (2, .int a2), (3, .int a3)] [] (f_X7_begin_14   n o0 a2 a3 σ) := by
  intro n
  induction n with
  | zero => intros; exact r_none
  | succ n ih => exact v_X7_begin_14_b C  _ ih
set_option maxHeartbeats 4000000 in
set_option maxRecDepth 100000 in
theorem m_X7_begin (l : Launch) (x : oXp) (hI : oI (oX x)) (o0 : Nat) (a1 : Int32) (a2 : Int32) (h1_o0 : 10 ≤ o0) (h2_o0 : o0 < 14) (σ : Sg) : oMV l yX7_begin wsX7_begin 4 (oX x) [.ref (xa x o0), .int a1, .int a2] σ (f_X7_begin  o0 a1 a2 σ) := by
  refine oMV_of (nL := 4) (cc := cX7_begin) hI (by decide +kernel) rfl (Nat.le_of_ble_eq_true rfl) ?_
  intro κ C
  have C : oC κ (oX x) 4 cX7_begin RX7 wsX7_begin 4 none := C
  unfold f_X7_begin
  show oV κ (oX x) 4 (oQv κ (oX x)) σ 0 [(0, .ref (xa x o0)), (1, .int a1), (2, .int a2)] [] _
  refine r_aldn (pc := 0) C dX7_begin_0 0 rfl ?_
  refine r_ildn (pc := 1) C dX7_begin_1 1 rfl ?_
  refine pf_X7_1 (pc := 2) C (o := o0) (by omega) (by omega) hi_X7_begin_X7 wd_X7_begin_1 dX7_begin_2 (fun s4 => ?_)
  refine r_aldn (pc := 5) C dX7_begin_5 0 rfl ?_
  refine gf_X7_0 (pc := 6) C (o := o0) (by omega) (by omega) hi_X7_begin_X7 wd_X7_begin_2 dX7_begin_6 ?_
  refine k_X6_clear (x := x) (pc := 9) (o0 := (o0 + 48)) C gX7_begin_X6_clear (by omega) (by omega) (by omega) (Nat.le_of_ble_eq_true rfl) dX7_begin_9 (fun _ s5 => ?_)
  refine r_iconst (pc := 12) (v := (0 : Int32)) C dX7_begin_12 ic_0 ?_
  refine r_istn (pc := 13) (lv' := [(0, _), (2, _), (3, _)]) C dX7_begin_13 (by decide) [1, 3, 0] rfl ?_
  exact v_X7_begin_14 (x := x) C fuN o0 a2 (0 : Int32) (by omega) (by omega) s5
theorem k_X7_begin {κ : oK} {nL : Nat} {cc : ByteArray} {own : String} {Ts : List Cond} {n : Nat} {ret : Option FieldType} {α : Type} {Q : α → Sg → State → Prop} {σ : Sg} {pc : Nat} {lv : List (Nat × Value)} {st : List Value} {x : oXp} {idx : Nat} {o0 : Nat} {a1 : Int32} {a2 : Int32} {K : Unit → Sg → Option (α × Sg)} (C : oC κ (oX x) nL cc own Ts n ret) (hG : GoodIn Ts (wsV own idx RX7 yX7_begin wsX7_begin)) (hn : 4 + 1 ≤ n) (h1_o0 : 10 ≤ o0) (h2_o0 : o0 < 14) (hst : (st.map fun v => v.category).sum ≤ 8) (hd : decode cc pc = .ok (.invokevirtual idx, 3)) (kk : ∀ (r1 : Unit) (σ1 : Sg), oV κ (oX x) nL Q σ1 (pc + 3) lv (st) (K r1 σ1)) : oV κ (oX x) nL Q σ pc lv (.int a2 :: .int a1 :: .ref (xa x o0) :: st) (bnd (f_X7_begin o0 a1 a2 σ) K) := by
  have hI : oI (oX x) := oC_I C
  exact r_cVv (As := [.int a1, .int a2]) (na := 2) (j := o0) (ci := 7) C (fun l => m_X7_begin l x hI o0 a1 a2 h1_o0 h2_o0 σ) hG rfl (by decide +kernel) rfl (by decide) hn (by show o0 < 80; omega) rfl (eX7 x h1_o0 h2_o0 _) rfl rfl hst hd kk
set_option maxHeartbeats 4000000 in
set_option maxRecDepth 100000 in
theorem m_X7_isMissing (l : Launch) (x : oXp) (hI : oI (oX x)) (o0 : Nat) (h1_o0 : 10 ≤ o0) (h2_o0 : o0 < 14) (σ : Sg) : oMI l yX7_isMissing wsX7_isMissing 3 (oX x) [.ref (xa x o0)] σ (f_X7_isMissing  o0 σ) := by
  refine oMI_of (nL := 1) (cc := cX7_isMissing) hI (by decide +kernel) rfl (Nat.le_of_ble_eq_true rfl) ?_
  intro κ C
  have C : oC κ (oX x) 1 cX7_isMissing RX7 wsX7_isMissing 3 (some .boolean) := C
  unfold f_X7_isMissing
  show oV κ (oX x) 1 (oQi κ (oX x)) σ 0 [(0, .ref (xa x o0))] [] _
  refine r_aldn (pc := 0) C dX7_isMissing_0 0 rfl ?_
  refine gf_X7_1 (pc := 1) C (o := o0) (by omega) (by omega) hi_X7_isMissing_X7 wd_X7_isMissing_1 dX7_isMissing_1 ?_
  refine r_ifne (pc := 4) (tgt := 11) C dX7_isMissing_4 (by decide) ?_ ?_
  · refine r_iconst (pc := 11) (v := (0 : Int32)) C dX7_isMissing_11 ic_0 ?_
    exact r_zret (pc := 12) C (by decide) dX7_isMissing_12
  · refine r_iconst (pc := 7) (v := (1 : Int32)) C dX7_isMissing_7 ic_1 ?_
    refine r_goto (pc := 8) (tgt := 12) C dX7_isMissing_8 (by decide) ?_
    exact r_zret (pc := 12) C (by decide) dX7_isMissing_12
theorem k_X7_isMissing {κ : oK} {nL : Nat} {cc : ByteArray} {own : String} {Ts : List Cond} {n : Nat} {ret : Option FieldType} {α : Type} {Q : α → Sg → State → Prop} {σ : Sg} {pc : Nat} {lv : List (Nat × Value)} {st : List Value} {x : oXp} {idx : Nat} {o0 : Nat} {K : Int32 → Sg → Option (α × Sg)} (C : oC κ (oX x) nL cc own Ts n ret) (hG : GoodIn Ts (wsV own idx RX7 yX7_isMissing wsX7_isMissing)) (hn : 3 + 1 ≤ n) (h1_o0 : 10 ≤ o0) (h2_o0 : o0 < 14) (hst : (st.map fun v => v.category).sum ≤ 8) (hd : decode cc pc = .ok (.invokevirtual idx, 3)) (kk : ∀ (r1 : Int32) (σ1 : Sg), oV κ (oX x) nL Q σ1 (pc + 3) lv (.int r1 :: st) (K r1 σ1)) : oV κ (oX x) nL Q σ pc lv (.ref (xa x o0) :: st) (bnd (f_X7_isMissing o0 σ) K) := by
  have hI : oI (oX x) := oC_I C
  exact r_cVi (As := []) (na := 0) (j := o0) (ci := 7) C (fun l => m_X7_isMissing l x hI o0 h1_o0 h2_o0 σ) hG rfl (by decide +kernel) rfl (by decide) hn (by show o0 < 80; omega) rfl (eX7 x h1_o0 h2_o0 _) rfl rfl hst hd kk
set_option maxHeartbeats 4000000 in
set_option maxRecDepth 100000 in
theorem m_X7_lowestBits (l : Launch) (x : oXp) (hI : oI (oX x)) (o0 : Nat) (a1 : Int32) (h1_o0 : 10 ≤ o0) (h2_o0 : o0 < 14) (σ : Sg) : oMI l yX7_lowestBits wsX7_lowestBits 3 (oX x) [.ref (xa x o0), .int a1] σ (f_X7_lowestBits  o0 a1 σ) := by
  refine oMI_of (nL := 2) (cc := cX7_lowestBits) hI (by decide +kernel) rfl (Nat.le_of_ble_eq_true rfl) ?_
  intro κ C
  have C : oC κ (oX x) 2 cX7_lowestBits RX7 wsX7_lowestBits 3 (some .int) := C
  unfold f_X7_lowestBits
  show oV κ (oX x) 2 (oQi κ (oX x)) σ 0 [(0, .ref (xa x o0)), (1, .int a1)] [] _
  refine r_aldn (pc := 0) C dX7_lowestBits_0 0 rfl ?_
  refine gf_X7_1 (pc := 1) C (o := o0) (by omega) (by omega) hi_X7_lowestBits_X7 wd_X7_lowestBits_1 dX7_lowestBits_1 ?_
  refine r_nm (fun v1 => ?_)
  refine r_ite (fun c2 => ?_) (fun c2 => ?_)
  · refine r_lookE (pc := 4) (v := (8 : Int32)) (off := 28) (tgt := 32) C dX7_lowestBits_4 (by decide) c2 (by decide) (by decide) ?_
    refine r_ildn (pc := 32) C dX7_lowestBits_32 1 rfl ?_
    refine r_i2b (pc := 33) C dX7_lowestBits_33 ?_
    exact r_iret (pc := 34) C dX7_lowestBits_34
  · refine r_ite (fun c3 => ?_) (fun c3 => ?_)
    · refine r_lookE (pc := 4) (v := (16 : Int32)) (off := 31) (tgt := 35) C dX7_lowestBits_4 (by decide) c3 (by decide) (by decide) ?_
      refine r_ildn (pc := 35) C dX7_lowestBits_35 1 rfl ?_
      refine r_i2s (pc := 36) C dX7_lowestBits_36 ?_
      exact r_iret (pc := 37) C dX7_lowestBits_37
    · refine r_lookO (pc := 4) (off := 34) (tgt := 38) C dX7_lowestBits_4 (by decide) ((lv_osw (k := (8 : Int32)) c2 (by decide)).trans ((lv_osw (k := (16 : Int32)) c3 (by decide)).trans rfl)) (by decide) ?_
      refine r_ildn (pc := 38) C dX7_lowestBits_38 1 rfl ?_
      exact r_iret (pc := 39) C dX7_lowestBits_39
theorem k_X7_lowestBits {κ : oK} {nL : Nat} {cc : ByteArray} {own : String} {Ts : List Cond} {n : Nat} {ret : Option FieldType} {α : Type} {Q : α → Sg → State → Prop} {σ : Sg} {pc : Nat} {lv : List (Nat × Value)} {st : List Value} {x : oXp} {idx : Nat} {o0 : Nat} {a1 : Int32} {K : Int32 → Sg → Option (α × Sg)} (C : oC κ (oX x) nL cc own Ts n ret) (hG : GoodIn Ts (wsV own idx RX7 yX7_lowestBits wsX7_lowestBits)) (hn : 3 + 1 ≤ n) (h1_o0 : 10 ≤ o0) (h2_o0 : o0 < 14) (hst : (st.map fun v => v.category).sum ≤ 8) (hd : decode cc pc = .ok (.invokevirtual idx, 3)) (kk : ∀ (r1 : Int32) (σ1 : Sg), oV κ (oX x) nL Q σ1 (pc + 3) lv (.int r1 :: st) (K r1 σ1)) : oV κ (oX x) nL Q σ pc lv (.int a1 :: .ref (xa x o0) :: st) (bnd (f_X7_lowestBits o0 a1 σ) K) := by
  have hI : oI (oX x) := oC_I C
  exact r_cVi (As := [.int a1]) (na := 1) (j := o0) (ci := 7) C (fun l => m_X7_lowestBits l x hI o0 a1 h1_o0 h2_o0 σ) hG rfl (by decide +kernel) rfl (by decide) hn (by show o0 < 80; omega) rfl (eX7 x h1_o0 h2_o0 _) rfl rfl hst hd kk
set_option maxHeartbeats 4000000 in
set_option maxRecDepth 100000 in
theorem v_X8_bodyOf_4_b {κ : oK} {x : oXp} (C : oC κ (oX x) 5 cX8_bodyOf RX8 wsX8_bodyOf 3 (some .int))  (rec4 : Int32 → Int32 → Int32 → Sg → Option (Int32 × Sg)) (hrec4 : ∀ (a0 : Int32) (a2 : Int32) (a3 : Int32) (σ : Sg), oV κ (oX x) 5 (oQi κ (oX x)) σ 4 [(0, .int a0), (2, .int a2), (3, .int a3)] [] (rec4 a0 a2 a3 σ)) (a0 : Int32) (a2 : Int32) (a3 : Int32) (σ : Sg) : oV κ (oX x) 5 (oQi κ (oX x)) σ 4 [(0, .int a0), (2, .int a2), (3, .int a3)] [] (f_X8_bodyOf_4_b   rec4 a0 a2 a3 σ) := by
  unfold f_X8_bodyOf_4_b
  refine r_ildn (pc := 4) C dX8_bodyOf_4 2 rfl ?_
  refine r_bipush (pc := 5) (v := (7 : Int32)) C dX8_bodyOf_5 bp_7 ?_
  refine r_icge (pc := 7) (tgt := 47) C dX8_bodyOf_7 (by decide) ?_ ?_
  · refine r_iconst (pc := 47) (v := (0 : Int32)) C dX8_bodyOf_47 ic_0 ?_
    exact r_iret (pc := 48) C dX8_bodyOf_48
  · refine r_ildn (pc := 10) C dX8_bodyOf_10 1 rfl ?_
    refine r_iconst (pc := 11) (v := (-1 : Int32)) C dX8_bodyOf_11 ic_m1 ?_
    refine r_iceq (pc := 12) (tgt := 47) C dX8_bodyOf_12 (by decide) ?_ ?_
    · refine r_iconst (pc := 47) (v := (0 : Int32)) C dX8_bodyOf_47 ic_0 ?_
      exact r_iret (pc := 48) C dX8_bodyOf_48
    · refine r_gsB (pc := 15) C wd_X8_bodyOf_1 dX8_bodyOf_15 ?_
      refine r_bipush (pc := 18) (v := (7 : Int32)) C dX8_bodyOf_18 bp_7 ?_
      refine r_ildn (pc := 20) C dX8_bodyOf_20 0 rfl ?_
      refine r_imul (pc := 21) C dX8_bodyOf_21 ?_
      refine r_ildn (pc := 22) C dX8_bodyOf_22 1 rfl ?_
      refine r_iadd (pc := 23) C dX8_bodyOf_23 ?_
      refine r_ldB (pc := 24) C dX8_bodyOf_24 ?_
      refine r_nm (fun v1 => ?_)
      refine r_ist (pc := 25) (lv' := [(0, _), (2, _), (3, _), (4, _)]) C dX8_bodyOf_25 (by decide) [1, 2, 3, 0] rfl ?_
      refine r_ild (pc := 27) C dX8_bodyOf_27 3 rfl ?_
      refine r_ifeq (pc := 29) (tgt := 35) C dX8_bodyOf_29 (by decide) ?_ ?_
      · refine r_gsKN (pc := 35) C nw_47 dX8_bodyOf_35 ?_
        refine r_ildn (pc := 38) C dX8_bodyOf_38 1 rfl ?_
        refine r_ldK (pc := 39) C dX8_bodyOf_39 ?_
        refine r_nm (fun v2 => ?_)
        refine r_istn (pc := 40) (lv' := [(0, _), (2, _), (3, _)]) C dX8_bodyOf_40 (by decide) [1, 0, 2] rfl ?_
        refine r_iinc (pc := 41) (v := (1 : Int32)) (lv1 := fun y => [(0, _), (2, _), (3, .int y)]) C dX8_bodyOf_41 ic_1 2 rfl (by decide) [1, 2, 0] (fun _ => rfl) (fun v3 => ?_)
        refine r_goto (pc := 44) (tgt := 4) C dX8_bodyOf_44 (by decide) ?_
        exact hrec4 a0 v2 v3 σ
      · refine r_ild (pc := 32) C dX8_bodyOf_32 3 rfl ?_
        exact r_iret (pc := 34) C dX8_bodyOf_34
theorem v_X8_bodyOf_4 {κ : oK} {x : oXp} (C : oC κ (oX x) 5 cX8_bodyOf RX8 wsX8_bodyOf 3 (some .int))  : ∀ (n : Nat) (a0 : Int32) (a2 : Int32) (a3 : Int32) (σ : Sg), oV κ (oX x) 5 (oQi κ (oX x)) σ 4 [(0, .int a0), (2, .int a2), (3, .int a3)] [] (f_X8_bodyOf_4   n a0 a2 a3 σ) := by
  intro n
  induction n with
  | zero => intros; exact r_none
  | succ n ih => exact v_X8_bodyOf_4_b C  _ ih
set_option maxHeartbeats 4000000 in
set_option maxRecDepth 100000 in
theorem m_X8_bodyOf (l : Launch) (x : oXp) (hI : oI (oX x)) (a0 : Int32) (a1 : Int32) (σ : Sg) : oMI l yX8_bodyOf wsX8_bodyOf 3 (oX x) [.int a0, .int a1] σ (f_X8_bodyOf  a0 a1 σ) := by
  refine oMI_of (nL := 5) (cc := cX8_bodyOf) hI (by decide +kernel) rfl (Nat.le_of_ble_eq_true rfl) ?_
  intro κ C
  have C : oC κ (oX x) 5 cX8_bodyOf RX8 wsX8_bodyOf 3 (some .int) := C
  unfold f_X8_bodyOf
  show oV κ (oX x) 5 (oQi κ (oX x)) σ 0 [(0, .int a0), (1, .int a1)] [] _
  refine r_ildn (pc := 0) C dX8_bodyOf_0 1 rfl ?_
  refine r_istn (pc := 1) (lv' := [(0, _), (2, _)]) C dX8_bodyOf_1 (by decide) [1, 0] rfl ?_
  refine r_iconst (pc := 2) (v := (0 : Int32)) C dX8_bodyOf_2 ic_0 ?_
  refine r_istn (pc := 3) (lv' := [(0, _), (2, _), (3, _)]) C dX8_bodyOf_3 (by decide) [1, 2, 0] rfl ?_
  exact v_X8_bodyOf_4 (x := x) C fuN a0 a1 (0 : Int32) σ
theorem kS_X8_bodyOf {κ : oK} {nL : Nat} {cc : ByteArray} {own : String} {Ts : List Cond} {n : Nat} {ret : Option FieldType} {α : Type} {Q : α → Sg → State → Prop} {σ : Sg} {pc : Nat} {lv : List (Nat × Value)} {st : List Value} {x : oXp} {idx : Nat} {a0 : Int32} {a1 : Int32} {K : Int32 → Sg → Option (α × Sg)} (C : oC κ (oX x) nL cc own Ts n ret) (hG : GoodIn Ts (va_wsS own idx yX8_bodyOf wsX8_bodyOf)) (hn : 3 + 1 ≤ n) (hst : (st.map fun v => v.category).sum ≤ 8) (hd : decode cc pc = .ok (.invokestatic idx, 3)) (kk : ∀ (r1 : Int32) (σ1 : Sg), oV κ (oX x) nL Q σ1 (pc + 3) lv (.int r1 :: st) (K r1 σ1)) : oV κ (oX x) nL Q σ pc lv (.int a1 :: .int a0 :: st) (bnd (f_X8_bodyOf a0 a1 σ) K) := by
  have hI : oI (oX x) := oC_I C
  exact r_cSi (As := [.int a0, .int a1]) (na := 2) C (fun l => m_X8_bodyOf l x hI a0 a1 σ) hG rfl (by decide +kernel) rfl (by decide) hn hst hd kk
set_option maxHeartbeats 4000000 in
set_option maxRecDepth 100000 in
theorem m_X8_divided (l : Launch) (x : oXp) (hI : oI (oX x)) (a1 : Int32) (σ : Sg) : oMI l yX8_divided wsX8_divided 3 (oX x) [.ref (xa x 6), .int a1] σ (f_X8_divided  a1 σ) := by
  refine oMI_of (nL := 3) (cc := cX8_divided) hI (by decide +kernel) rfl (Nat.le_of_ble_eq_true rfl) ?_
  intro κ C
  have C : oC κ (oX x) 3 cX8_divided RX8 wsX8_divided 3 (some .int) := C
  unfold f_X8_divided
  show oV κ (oX x) 3 (oQi κ (oX x)) σ 0 [(0, .ref (xa x 6)), (1, .int a1)] [] _
  refine r_aldn (pc := 0) C dX8_divided_0 0 rfl ?_
  refine gf_X8_4_6 (pc := 1) C hi_X8_divided_X8 wd_X8_divided_1 dX8_divided_1 ?_
  refine r_aldn (pc := 4) C dX8_divided_4 0 rfl ?_
  refine gf_X8_3_6 (pc := 5) C hi_X8_divided_X8 wd_X8_divided_2 dX8_divided_5 ?_
  refine r_isub (pc := 8) C dX8_divided_8 ?_
  refine r_nm (fun v1 => ?_)
  refine r_istn (pc := 9) (lv' := [(0, _), (1, _), (2, _)]) C dX8_divided_9 (by decide) [1, 2, 0] rfl ?_
  refine r_ildn (pc := 10) C dX8_divided_10 2 rfl ?_
  refine r_ifne (pc := 11) (tgt := 21) C dX8_divided_11 (by decide) ?_ ?_
  · refine r_ildn (pc := 21) C dX8_divided_21 1 rfl ?_
    refine r_ildn (pc := 22) C dX8_divided_22 2 rfl ?_
    refine r_ckb (fun h2 => ?_)
    refine r_idiv (pc := 23) C dX8_divided_23 (nz_ne h2) ?_
    exact r_iret (pc := 24) C dX8_divided_24
  · refine r_aldn (pc := 14) C dX8_divided_14 0 rfl ?_
    refine r_iconst (pc := 15) (v := (1 : Int32)) C dX8_divided_15 ic_1 ?_
    refine pf_X8_1_6 (pc := 16) C hi_X8_divided_X8 wd_X8_divided_3 (isb_nar (by decide)) dX8_divided_16 (fun s3 => ?_)
    refine r_iconst (pc := 19) (v := (0 : Int32)) C dX8_divided_19 ic_0 ?_
    exact r_iret (pc := 20) C dX8_divided_20
theorem k_X8_divided {κ : oK} {nL : Nat} {cc : ByteArray} {own : String} {Ts : List Cond} {n : Nat} {ret : Option FieldType} {α : Type} {Q : α → Sg → State → Prop} {σ : Sg} {pc : Nat} {lv : List (Nat × Value)} {st : List Value} {x : oXp} {idx : Nat} {a1 : Int32} {K : Int32 → Sg → Option (α × Sg)} (C : oC κ (oX x) nL cc own Ts n ret) (hG : GoodIn Ts (wsV own idx RX8 yX8_divided wsX8_divided)) (hn : 3 + 1 ≤ n) (hst : (st.map fun v => v.category).sum ≤ 8) (hd : decode cc pc = .ok (.invokevirtual idx, 3)) (kk : ∀ (r1 : Int32) (σ1 : Sg), oV κ (oX x) nL Q σ1 (pc + 3) lv (.int r1 :: st) (K r1 σ1)) : oV κ (oX x) nL Q σ pc lv (.int a1 :: .ref (xa x 6) :: st) (bnd (f_X8_divided a1 σ) K) := by
  have hI : oI (oX x) := oC_I C
  exact r_cVi (As := [.int a1]) (na := 1) (j := 6) (ci := 8) C (fun l => m_X8_divided l x hI a1 σ) hG rfl (by decide +kernel) rfl (by decide) hn (by show 6 < 80; decide) rfl rfl rfl rfl hst hd kk
set_option maxHeartbeats 4000000 in
set_option maxRecDepth 100000 in
theorem m_X8_workOut (l : Launch) (x : oXp) (hI : oI (oX x)) (d : Nat) (g_X8_workOut : Int32 → Int32 → Int32 → Int32 → Sg → Option (Int32 × Sg)) (hg_X8_workOut : ∀ (l : Launch) (a1 : Int32) (a2 : Int32) (a3 : Int32) (a4 : Int32) (σ : Sg), oMI l yX8_workOut wsX8_workOut (4 + d) (oX x) [.ref (xa x 6), .int a1, .int a2, .int a3, .int a4] σ (g_X8_workOut a1 a2 a3 a4 σ)) (a1 : Int32) (a2 : Int32) (a3 : Int32) (a4 : Int32) (σ : Sg) : oMI l yX8_workOut wsX8_workOut (4 + (d + 1)) (oX x) [.ref (xa x 6), .int a1, .int a2, .int a3, .int a4] σ (f_X8_workOut_e g_X8_workOut a1 a2 a3 a4 σ) := by
  refine oMI_of (nL := 9) (cc := cX8_workOut) hI (by decide +kernel) rfl (Nat.le_of_ble_eq_true rfl) ?_
  intro κ C
  have C : oC κ (oX x) 9 cX8_workOut RX8 wsX8_workOut (4 + (d + 1)) (some .int) := C
  unfold f_X8_workOut_e
  show oV κ (oX x) 9 (oQi κ (oX x)) σ 0 [(0, .ref (xa x 6)), (1, .int a1), (2, .int a2), (3, .int a3), (4, .int a4)] [] _
  refine r_ildn (pc := 0) C dX8_workOut_0 1 rfl ?_
  refine r_ildn (pc := 1) C dX8_workOut_1 2 rfl ?_
  refine kS_X8_bodyOf (x := x) (pc := 2) (a0 := a1) (a1 := a2) C gX8_workOut_X8_bodyOf (by omega)  (Nat.le_of_ble_eq_true rfl) dX8_workOut_2 (fun r2 s1 => ?_)
  refine r_ist (pc := 5) (lv' := [(0, _), (3, _), (4, _), (5, _)]) C dX8_workOut_5 (by decide) [1, 4, 5, 0] rfl ?_
  refine r_ild (pc := 7) C dX8_workOut_7 3 rfl ?_
  refine r_ifeq (pc := 9) (tgt := 19) C dX8_workOut_9 (by decide) ?_ ?_
  · refine r_iconst (pc := 19) (v := (0 : Int32)) C dX8_workOut_19 ic_0 ?_
    exact r_iret (pc := 20) C dX8_workOut_20
  · refine r_ild (pc := 12) C dX8_workOut_12 2 rfl ?_
    refine r_bipush (pc := 14) (v := (16 : Int32)) C dX8_workOut_14 bp_16 ?_
    refine r_icle (pc := 16) (tgt := 21) C dX8_workOut_16 (by decide) ?_ ?_
    · refine r_aldn (pc := 21) C dX8_workOut_21 0 rfl ?_
      refine gf_X8_0_6 (pc := 22) C hi_X8_workOut_X8 wd_X8_workOut_1 dX8_workOut_22 ?_
      refine r_ild (pc := 25) C dX8_workOut_25 3 rfl ?_
      refine k_X6_add (x := x) (pc := 27) (o0 := 57) (a1 := r2) C gX8_workOut_X6_add (by omega) (by omega) (by omega) (Nat.le_of_ble_eq_true rfl) dX8_workOut_27 (fun _ s3 => ?_)
      refine r_gsKN (pc := 30) C nw_47 dX8_workOut_30 ?_
      refine r_ild (pc := 33) C dX8_workOut_33 3 rfl ?_
      refine r_bipush (pc := 35) (v := (10 : Int32)) C dX8_workOut_35 bp_10 ?_
      refine r_idiv (pc := 37) C dX8_workOut_37 (by decide) ?_
      refine r_iconst (pc := 38) (v := (1 : Int32)) C dX8_workOut_38 ic_1 ?_
      refine r_isub (pc := 39) C dX8_workOut_39 ?_
      refine r_ldK (pc := 40) C dX8_workOut_40 ?_
      refine r_nm (fun v5 => ?_)
      refine r_ist (pc := 41) (lv' := [(0, _), (3, _), (4, _), (5, _), (6, _)]) C dX8_workOut_41 (by decide) [1, 2, 3, 4, 0] rfl ?_
      refine r_ild (pc := 43) C dX8_workOut_43 2 rfl ?_
      refine r_iconst (pc := 45) (v := (1 : Int32)) C dX8_workOut_45 ic_1 ?_
      refine r_iadd (pc := 46) C dX8_workOut_46 ?_
      refine r_nm (fun v6 => ?_)
      refine r_ist (pc := 47) (lv' := [(0, _), (3, _), (5, _), (6, _), (7, _)]) C dX8_workOut_47 (by decide) [1, 2, 4, 5, 0] rfl ?_
      refine r_ild (pc := 49) C dX8_workOut_49 2 rfl ?_
      refine r_ite (fun c7 => ?_) (fun c7 => ?_)
      · refine r_lookE (pc := 51) (v := (10 : Int32)) (off := 113) (tgt := 164) C dX8_workOut_51 (by decide) c7 (by decide) (by decide) ?_
        refine r_ildn (pc := 164) C dX8_workOut_164 1 rfl ?_
        refine r_aldn (pc := 165) C dX8_workOut_165 0 rfl ?_
        refine gf_X8_3_6 (pc := 166) C hi_X8_workOut_X8 wd_X8_workOut_2 dX8_workOut_166 ?_
        refine r_iadd (pc := 169) C dX8_workOut_169 ?_
        exact r_iret (pc := 170) C dX8_workOut_170
      · refine r_ite (fun c8 => ?_) (fun c8 => ?_)
        · refine r_lookE (pc := 51) (v := (11 : Int32)) (off := 120) (tgt := 171) C dX8_workOut_51 (by decide) c8 (by decide) (by decide) ?_
          refine r_aldn (pc := 171) C dX8_workOut_171 0 rfl ?_
          refine r_iconst (pc := 172) (v := (0 : Int32)) C dX8_workOut_172 ic_0 ?_
          refine r_aldn (pc := 173) C dX8_workOut_173 0 rfl ?_
          refine gf_X8_2_6 (pc := 174) C hi_X8_workOut_X8 wd_X8_workOut_3 dX8_workOut_174 ?_
          refine r_ildn (pc := 177) C dX8_workOut_177 1 rfl ?_
          refine r_ild (pc := 178) C dX8_workOut_178 4 rfl ?_
          refine r_cVi (pc := 180) (As := [.int (0 : Int32), .int (s3 6 2), .int a3, .int v6]) (na := 4) (j := 6) (ci := 8) C (fun l => hg_X8_workOut l (0 : Int32) (s3 6 2) a3 v6 s3) gX8_workOut_X8_workOut rfl (by decide +kernel) rfl (by decide) (by omega) (by show 6 < 80; decide) rfl rfl rfl rfl (Nat.le_of_ble_eq_true rfl) dX8_workOut_180 (fun r10 s9 => ?_)
          refine r_iconst (pc := 183) (v := (2 : Int32)) C dX8_workOut_183 ic_2 ?_
          refine r_imul (pc := 184) C dX8_workOut_184 ?_
          exact r_iret (pc := 185) C dX8_workOut_185
        · refine r_ite (fun c11 => ?_) (fun c11 => ?_)
          · refine r_lookE (pc := 51) (v := (12 : Int32)) (off := 135) (tgt := 186) C dX8_workOut_51 (by decide) c11 (by decide) (by decide) ?_
            refine r_aldn (pc := 186) C dX8_workOut_186 0 rfl ?_
            refine r_iconst (pc := 187) (v := (1 : Int32)) C dX8_workOut_187 ic_1 ?_
            refine r_aldn (pc := 188) C dX8_workOut_188 0 rfl ?_
            refine gf_X8_2_6 (pc := 189) C hi_X8_workOut_X8 wd_X8_workOut_3 dX8_workOut_189 ?_
            refine r_ildn (pc := 192) C dX8_workOut_192 1 rfl ?_
            refine r_ild (pc := 193) C dX8_workOut_193 4 rfl ?_
            refine r_cVi (pc := 195) (As := [.int (1 : Int32), .int (s3 6 2), .int a3, .int v6]) (na := 4) (j := 6) (ci := 8) C (fun l => hg_X8_workOut l (1 : Int32) (s3 6 2) a3 v6 s3) gX8_workOut_X8_workOut rfl (by decide +kernel) rfl (by decide) (by omega) (by show 6 < 80; decide) rfl rfl rfl rfl (Nat.le_of_ble_eq_true rfl) dX8_workOut_195 (fun r13 s12 => ?_)
            refine r_aldn (pc := 198) C dX8_workOut_198 0 rfl ?_
            refine gf_X8_4_6 (pc := 199) C hi_X8_workOut_X8 wd_X8_workOut_4 dX8_workOut_199 ?_
            refine r_isub (pc := 202) C dX8_workOut_202 ?_
            exact r_iret (pc := 203) C dX8_workOut_203
          · refine r_ite (fun c14 => ?_) (fun c14 => ?_)
            · refine r_lookE (pc := 51) (v := (13 : Int32)) (off := 153) (tgt := 204) C dX8_workOut_51 (by decide) c14 (by decide) (by decide) ?_
              refine r_aldn (pc := 204) C dX8_workOut_204 0 rfl ?_
              refine r_ildn (pc := 205) C dX8_workOut_205 1 rfl ?_
              refine k_X8_divided (x := x) (pc := 206) (a1 := a3) C gX8_workOut_X8_divided (by omega)  (Nat.le_of_ble_eq_true rfl) dX8_workOut_206 (fun r16 s15 => ?_)
              exact r_iret (pc := 209) C dX8_workOut_209
            · refine r_ite (fun c17 => ?_) (fun c17 => ?_)
              · refine r_lookE (pc := 51) (v := (20 : Int32)) (off := 159) (tgt := 210) C dX8_workOut_51 (by decide) c17 (by decide) (by decide) ?_
                refine r_aldn (pc := 210) C dX8_workOut_210 0 rfl ?_
                refine r_iconst (pc := 211) (v := (0 : Int32)) C dX8_workOut_211 ic_0 ?_
                refine r_ild (pc := 212) C dX8_workOut_212 3 rfl ?_
                refine r_ildn (pc := 214) C dX8_workOut_214 1 rfl ?_
                refine r_ild (pc := 215) C dX8_workOut_215 4 rfl ?_
                refine r_cVi (pc := 217) (As := [.int (0 : Int32), .int v5, .int a3, .int v6]) (na := 4) (j := 6) (ci := 8) C (fun l => hg_X8_workOut l (0 : Int32) v5 a3 v6 s3) gX8_workOut_X8_workOut rfl (by decide +kernel) rfl (by decide) (by omega) (by show 6 < 80; decide) rfl rfl rfl rfl (Nat.le_of_ble_eq_true rfl) dX8_workOut_217 (fun r19 s18 => ?_)
                refine r_iconst (pc := 220) (v := (4 : Int32)) C dX8_workOut_220 ic_4 ?_
                refine r_isub (pc := 221) C dX8_workOut_221 ?_
                exact r_iret (pc := 222) C dX8_workOut_222
              · refine r_ite (fun c20 => ?_) (fun c20 => ?_)
                · refine r_lookE (pc := 51) (v := (21 : Int32)) (off := 172) (tgt := 223) C dX8_workOut_51 (by decide) c20 (by decide) (by decide) ?_
                  refine r_aldn (pc := 223) C dX8_workOut_223 0 rfl ?_
                  refine r_iconst (pc := 224) (v := (3 : Int32)) C dX8_workOut_224 ic_3 ?_
                  refine r_ild (pc := 225) C dX8_workOut_225 3 rfl ?_
                  refine r_ildn (pc := 227) C dX8_workOut_227 1 rfl ?_
                  refine r_ild (pc := 228) C dX8_workOut_228 4 rfl ?_
                  refine r_cVi (pc := 230) (As := [.int (3 : Int32), .int v5, .int a3, .int v6]) (na := 4) (j := 6) (ci := 8) C (fun l => hg_X8_workOut l (3 : Int32) v5 a3 v6 s3) gX8_workOut_X8_workOut rfl (by decide +kernel) rfl (by decide) (by omega) (by show 6 < 80; decide) rfl rfl rfl rfl (Nat.le_of_ble_eq_true rfl) dX8_workOut_230 (fun r22 s21 => ?_)
                  refine r_ist (pc := 233) (lv' := [(0, _), (7, _), (8, _)]) C dX8_workOut_233 (by decide) [1, 5, 0] rfl ?_
                  refine r_aldn (pc := 235) C dX8_workOut_235 0 rfl ?_
                  refine gf_X8_1_6 (pc := 236) C hi_X8_workOut_X8 wd_X8_workOut_5 dX8_workOut_236 ?_
                  refine r_ifeq (pc := 239) (tgt := 246) C dX8_workOut_239 (by decide) ?_ ?_
                  · refine r_ild (pc := 246) C dX8_workOut_246 2 rfl ?_
                    refine r_aldn (pc := 248) C dX8_workOut_248 0 rfl ?_
                    refine r_iconst (pc := 249) (v := (1 : Int32)) C dX8_workOut_249 ic_1 ?_
                    refine r_aldn (pc := 250) C dX8_workOut_250 0 rfl ?_
                    refine gf_X8_2_6 (pc := 251) C hi_X8_workOut_X8 wd_X8_workOut_3 dX8_workOut_251 ?_
                    refine r_iconst (pc := 254) (v := (1 : Int32)) C dX8_workOut_254 ic_1 ?_
                    refine r_ild (pc := 255) C dX8_workOut_255 1 rfl ?_
                    refine r_cVi (pc := 257) (As := [.int (1 : Int32), .int (s21 6 2), .int (1 : Int32), .int v6]) (na := 4) (j := 6) (ci := 8) C (fun l => hg_X8_workOut l (1 : Int32) (s21 6 2) (1 : Int32) v6 s21) gX8_workOut_X8_workOut rfl (by decide +kernel) rfl (by decide) (by omega) (by show 6 < 80; decide) rfl rfl rfl rfl (Nat.le_of_ble_eq_true rfl) dX8_workOut_257 (fun r24 s23 => ?_)
                    refine r_iadd (pc := 260) C dX8_workOut_260 ?_
                    exact r_iret (pc := 261) C dX8_workOut_261
                  · refine r_iconst (pc := 242) (v := (0 : Int32)) C dX8_workOut_242 ic_0 ?_
                    refine r_goto (pc := 243) (tgt := 261) C dX8_workOut_243 (by decide) ?_
                    exact r_iret (pc := 261) C dX8_workOut_261
                · refine r_ite (fun c25 => ?_) (fun c25 => ?_)
                  · refine r_lookE (pc := 51) (v := (30 : Int32)) (off := 211) (tgt := 262) C dX8_workOut_51 (by decide) c25 (by decide) (by decide) ?_
                    refine r_iconst (pc := 262) (v := (0 : Int32)) C dX8_workOut_262 ic_0 ?_
                    refine r_aldn (pc := 263) C dX8_workOut_263 0 rfl ?_
                    refine r_iconst (pc := 264) (v := (1 : Int32)) C dX8_workOut_264 ic_1 ?_
                    refine r_ild (pc := 265) C dX8_workOut_265 3 rfl ?_
                    refine r_ildn (pc := 267) C dX8_workOut_267 1 rfl ?_
                    refine r_ild (pc := 268) C dX8_workOut_268 4 rfl ?_
                    refine r_cVi (pc := 270) (As := [.int (1 : Int32), .int v5, .int a3, .int v6]) (na := 4) (j := 6) (ci := 8) C (fun l => hg_X8_workOut l (1 : Int32) v5 a3 v6 s3) gX8_workOut_X8_workOut rfl (by decide +kernel) rfl (by decide) (by omega) (by show 6 < 80; decide) rfl rfl rfl rfl (Nat.le_of_ble_eq_true rfl) dX8_workOut_270 (fun r27 s26 => ?_)
                    refine r_isub (pc := 273) C dX8_workOut_273 ?_
                    exact r_iret (pc := 274) C dX8_workOut_274
                  · refine r_ite (fun c28 => ?_) (fun c28 => ?_)
                    · refine r_lookE (pc := 51) (v := (40 : Int32)) (off := 224) (tgt := 275) C dX8_workOut_51 (by decide) c28 (by decide) (by decide) ?_
                      refine r_aldn (pc := 275) C dX8_workOut_275 0 rfl ?_
                      refine r_iconst (pc := 276) (v := (2 : Int32)) C dX8_workOut_276 ic_2 ?_
                      refine r_ild (pc := 277) C dX8_workOut_277 3 rfl ?_
                      refine r_ildn (pc := 279) C dX8_workOut_279 1 rfl ?_
                      refine r_iconst (pc := 280) (v := (2 : Int32)) C dX8_workOut_280 ic_2 ?_
                      refine r_idiv (pc := 281) C dX8_workOut_281 (by decide) ?_
                      refine r_ild (pc := 282) C dX8_workOut_282 4 rfl ?_
                      refine r_cVi (pc := 284) (As := [.int (2 : Int32), .int v5, .int (a3 / (2 : Int32)), .int v6]) (na := 4) (j := 6) (ci := 8) C (fun l => hg_X8_workOut l (2 : Int32) v5 (a3 / (2 : Int32)) v6 s3) gX8_workOut_X8_workOut rfl (by decide +kernel) rfl (by decide) (by omega) (by show 6 < 80; decide) rfl rfl rfl rfl (Nat.le_of_ble_eq_true rfl) dX8_workOut_284 (fun r30 s29 => ?_)
                      exact r_iret (pc := 287) C dX8_workOut_287
                    · refine r_ite (fun c31 => ?_) (fun c31 => ?_)
                      · refine r_lookE (pc := 51) (v := (50 : Int32)) (off := 237) (tgt := 288) C dX8_workOut_51 (by decide) c31 (by decide) (by decide) ?_
                        refine r_aldn (pc := 288) C dX8_workOut_288 0 rfl ?_
                        refine r_iconst (pc := 289) (v := (0 : Int32)) C dX8_workOut_289 ic_0 ?_
                        refine r_ild (pc := 290) C dX8_workOut_290 3 rfl ?_
                        refine r_ildn (pc := 292) C dX8_workOut_292 1 rfl ?_
                        refine r_ild (pc := 293) C dX8_workOut_293 4 rfl ?_
                        refine r_cVi (pc := 295) (As := [.int (0 : Int32), .int v5, .int a3, .int v6]) (na := 4) (j := 6) (ci := 8) C (fun l => hg_X8_workOut l (0 : Int32) v5 a3 v6 s3) gX8_workOut_X8_workOut rfl (by decide +kernel) rfl (by decide) (by omega) (by show 6 < 80; decide) rfl rfl rfl rfl (Nat.le_of_ble_eq_true rfl) dX8_workOut_295 (fun r33 s32 => ?_)
                        refine r_iconst (pc := 298) (v := (3 : Int32)) C dX8_workOut_298 ic_3 ?_
                        refine r_imul (pc := 299) C dX8_workOut_299 ?_
                        exact r_iret (pc := 300) C dX8_workOut_300
                      · refine r_ite (fun c34 => ?_) (fun c34 => ?_)
                        · refine r_lookE (pc := 51) (v := (51 : Int32)) (off := 250) (tgt := 301) C dX8_workOut_51 (by decide) c34 (by decide) (by decide) ?_
                          refine r_aldn (pc := 301) C dX8_workOut_301 0 rfl ?_
                          refine r_iconst (pc := 302) (v := (2 : Int32)) C dX8_workOut_302 ic_2 ?_
                          refine r_ild (pc := 303) C dX8_workOut_303 3 rfl ?_
                          refine r_ildn (pc := 305) C dX8_workOut_305 1 rfl ?_
                          refine r_ild (pc := 306) C dX8_workOut_306 4 rfl ?_
                          refine r_cVi (pc := 308) (As := [.int (2 : Int32), .int v5, .int a3, .int v6]) (na := 4) (j := 6) (ci := 8) C (fun l => hg_X8_workOut l (2 : Int32) v5 a3 v6 s3) gX8_workOut_X8_workOut rfl (by decide +kernel) rfl (by decide) (by omega) (by show 6 < 80; decide) rfl rfl rfl rfl (Nat.le_of_ble_eq_true rfl) dX8_workOut_308 (fun r36 s35 => ?_)
                          refine r_aldn (pc := 311) C dX8_workOut_311 0 rfl ?_
                          refine gf_X8_3_6 (pc := 312) C hi_X8_workOut_X8 wd_X8_workOut_2 dX8_workOut_312 ?_
                          refine r_ixor (pc := 315) C dX8_workOut_315 ?_
                          exact r_iret (pc := 316) C dX8_workOut_316
                        · refine r_ite (fun c37 => ?_) (fun c37 => ?_)
                          · refine r_lookE (pc := 51) (v := (60 : Int32)) (off := 266) (tgt := 317) C dX8_workOut_51 (by decide) c37 (by decide) (by decide) ?_
                            refine r_aldn (pc := 317) C dX8_workOut_317 0 rfl ?_
                            refine r_iconst (pc := 318) (v := (1 : Int32)) C dX8_workOut_318 ic_1 ?_
                            refine r_ild (pc := 319) C dX8_workOut_319 3 rfl ?_
                            refine r_ildn (pc := 321) C dX8_workOut_321 1 rfl ?_
                            refine r_iconst (pc := 322) (v := (1 : Int32)) C dX8_workOut_322 ic_1 ?_
                            refine r_iadd (pc := 323) C dX8_workOut_323 ?_
                            refine r_ild (pc := 324) C dX8_workOut_324 4 rfl ?_
                            refine r_cVi (pc := 326) (As := [.int (1 : Int32), .int v5, .int (a3 + (1 : Int32)), .int v6]) (na := 4) (j := 6) (ci := 8) C (fun l => hg_X8_workOut l (1 : Int32) v5 (a3 + (1 : Int32)) v6 s3) gX8_workOut_X8_workOut rfl (by decide +kernel) rfl (by decide) (by omega) (by show 6 < 80; decide) rfl rfl rfl rfl (Nat.le_of_ble_eq_true rfl) dX8_workOut_326 (fun r39 s38 => ?_)
                            exact r_iret (pc := 329) C dX8_workOut_329
                          · refine r_ite (fun c40 => ?_) (fun c40 => ?_)
                            · refine r_lookE (pc := 51) (v := (70 : Int32)) (off := 279) (tgt := 330) C dX8_workOut_51 (by decide) c40 (by decide) (by decide) ?_
                              refine r_bipush (pc := 330) (v := (9 : Int32)) C dX8_workOut_330 bp_9 ?_
                              exact r_iret (pc := 332) C dX8_workOut_332
                            · refine r_ite (fun c41 => ?_) (fun c41 => ?_)
                              · refine r_lookE (pc := 51) (v := (71 : Int32)) (off := 282) (tgt := 333) C dX8_workOut_51 (by decide) c41 (by decide) (by decide) ?_
                                refine r_aldn (pc := 333) C dX8_workOut_333 0 rfl ?_
                                refine r_iconst (pc := 334) (v := (1 : Int32)) C dX8_workOut_334 ic_1 ?_
                                refine r_ild (pc := 335) C dX8_workOut_335 3 rfl ?_
                                refine r_ildn (pc := 337) C dX8_workOut_337 1 rfl ?_
                                refine r_ild (pc := 338) C dX8_workOut_338 4 rfl ?_
                                refine r_cVi (pc := 340) (As := [.int (1 : Int32), .int v5, .int a3, .int v6]) (na := 4) (j := 6) (ci := 8) C (fun l => hg_X8_workOut l (1 : Int32) v5 a3 v6 s3) gX8_workOut_X8_workOut rfl (by decide +kernel) rfl (by decide) (by omega) (by show 6 < 80; decide) rfl rfl rfl rfl (Nat.le_of_ble_eq_true rfl) dX8_workOut_340 (fun r43 s42 => ?_)
                                refine r_aldn (pc := 343) C dX8_workOut_343 0 rfl ?_
                                refine gf_X8_4_6 (pc := 344) C hi_X8_workOut_X8 wd_X8_workOut_4 dX8_workOut_344 ?_
                                refine r_iadd (pc := 347) C dX8_workOut_347 ?_
                                exact r_iret (pc := 348) C dX8_workOut_348
                              · refine r_lookO (pc := 51) (off := 298) (tgt := 349) C dX8_workOut_51 (by decide) ((lv_osw (k := (10 : Int32)) c7 (by decide)).trans ((lv_osw (k := (11 : Int32)) c8 (by decide)).trans ((lv_osw (k := (12 : Int32)) c11 (by decide)).trans ((lv_osw (k := (13 : Int32)) c14 (by decide)).trans ((lv_osw (k := (20 : Int32)) c17 (by decide)).trans ((lv_osw (k := (21 : Int32)) c20 (by decide)).trans ((lv_osw (k := (30 : Int32)) c25 (by decide)).trans ((lv_osw (k := (40 : Int32)) c28 (by decide)).trans ((lv_osw (k := (50 : Int32)) c31 (by decide)).trans ((lv_osw (k := (51 : Int32)) c34 (by decide)).trans ((lv_osw (k := (60 : Int32)) c37 (by decide)).trans ((lv_osw (k := (70 : Int32)) c40 (by decide)).trans ((lv_osw (k := (71 : Int32)) c41 (by decide)).trans rfl))))))))))))) (by decide) ?_
                                refine r_iconst (pc := 349) (v := (0 : Int32)) C dX8_workOut_349 ic_0 ?_
                                exact r_iret (pc := 350) C dX8_workOut_350
    · refine r_iconst (pc := 19) (v := (0 : Int32)) C dX8_workOut_19 ic_0 ?_
      exact r_iret (pc := 20) C dX8_workOut_20
theorem mg_X8_workOut (x : oXp) (hI : oI (oX x)) : ∀ d : Nat, (∀ (l : Launch) (a1 : Int32) (a2 : Int32) (a3 : Int32) (a4 : Int32) (σ : Sg), oMI l yX8_workOut wsX8_workOut (4 + d) (oX x) [.ref (xa x 6), .int a1, .int a2, .int a3, .int a4] σ ((G_X8_workOut d) a1 a2 a3 a4 σ)) := by
  intro d
  induction d with
  | zero => exact (by intros; intro _ _ h; cases h)
  | succ d ih => exact (fun l => m_X8_workOut l x hI d _ ih)
theorem mm_X8_workOut (l : Launch) (x : oXp) (hI : oI (oX x)) (a1 : Int32) (a2 : Int32) (a3 : Int32) (a4 : Int32) (σ : Sg) : oMI l yX8_workOut wsX8_workOut 68 (oX x) [.ref (xa x 6), .int a1, .int a2, .int a3, .int a4] σ (f_X8_workOut a1 a2 a3 a4 σ) := (mg_X8_workOut x hI 64) l a1 a2 a3 a4 σ
theorem k_X8_workOut {κ : oK} {nL : Nat} {cc : ByteArray} {own : String} {Ts : List Cond} {n : Nat} {ret : Option FieldType} {α : Type} {Q : α → Sg → State → Prop} {σ : Sg} {pc : Nat} {lv : List (Nat × Value)} {st : List Value} {x : oXp} {idx : Nat} {a1 : Int32} {a2 : Int32} {a3 : Int32} {a4 : Int32} {K : Int32 → Sg → Option (α × Sg)} (C : oC κ (oX x) nL cc own Ts n ret) (hG : GoodIn Ts (wsV own idx RX8 yX8_workOut wsX8_workOut)) (hn : 68 + 1 ≤ n) (hst : (st.map fun v => v.category).sum ≤ 8) (hd : decode cc pc = .ok (.invokevirtual idx, 3)) (kk : ∀ (r1 : Int32) (σ1 : Sg), oV κ (oX x) nL Q σ1 (pc + 3) lv (.int r1 :: st) (K r1 σ1)) : oV κ (oX x) nL Q σ pc lv (.int a4 :: .int a3 :: .int a2 :: .int a1 :: .ref (xa x 6) :: st) (bnd (f_X8_workOut a1 a2 a3 a4 σ) K) := by
  have hI : oI (oX x) := oC_I C
  exact r_cVi (As := [.int a1, .int a2, .int a3, .int a4]) (na := 4) (j := 6) (ci := 8) C (fun l => mm_X8_workOut l x hI a1 a2 a3 a4 σ) hG rfl (by decide +kernel) rfl (by decide) hn (by show 6 < 80; decide) rfl rfl rfl rfl hst hd kk
set_option maxHeartbeats 4000000 in
set_option maxRecDepth 100000 in
theorem m_X8_say (l : Launch) (x : oXp) (hI : oI (oX x)) (o1 : Nat) (a2 : Int32) (a3 : Int32) (a4 : Int32) (h1_o1 : 20 ≤ o1) (h2_o1 : o1 < 40) (σ : Sg) : oMI l yX8_say wsX8_say 69 (oX x) [.ref (xa x 6), .ref (xa x o1), .int a2, .int a3, .int a4] σ (f_X8_say  o1 a2 a3 a4 σ) := by
  refine oMI_of (nL := 5) (cc := cX8_say) hI (by decide +kernel) rfl (Nat.le_of_ble_eq_true rfl) ?_
  intro κ C
  have C : oC κ (oX x) 5 cX8_say RX8 wsX8_say 69 (some .int) := C
  unfold f_X8_say
  show oV κ (oX x) 5 (oQi κ (oX x)) σ 0 [(0, .ref (xa x 6)), (1, .ref (xa x o1)), (2, .int a2), (3, .int a3), (4, .int a4)] [] _
  refine r_aldn (pc := 0) C dX8_say_0 0 rfl ?_
  refine gf_X8_0_6 (pc := 1) C hi_X8_say_X8 wd_X8_say_1 dX8_say_1 ?_
  refine k_X6_clear (x := x) (pc := 4) (o0 := 57) C gX8_say_X6_clear (by omega) (by omega) (by omega) (Nat.le_of_ble_eq_true rfl) dX8_say_4 (fun _ s1 => ?_)
  refine r_aldn (pc := 7) C dX8_say_7 0 rfl ?_
  refine r_iconst (pc := 8) (v := (0 : Int32)) C dX8_say_8 ic_0 ?_
  refine pf_X8_1_6 (pc := 9) C hi_X8_say_X8 wd_X8_say_2 (isb_nar (by decide)) dX8_say_9 (fun s3 => ?_)
  refine r_aldn (pc := 12) C dX8_say_12 0 rfl ?_
  refine r_aldn (pc := 13) C dX8_say_13 1 rfl ?_
  refine gfN_X2_0 (pc := 14) C (o := o1) (by omega) (by omega) hi_X8_say_X2 nw_10 dX8_say_14 ?_
  refine pf_X8_2_6 (pc := 17) C hi_X8_say_X8 wd_X8_say_3 dX8_say_17 (fun s4 => ?_)
  refine r_aldn (pc := 20) C dX8_say_20 0 rfl ?_
  refine r_ildn (pc := 21) C dX8_say_21 2 rfl ?_
  refine pf_X8_3_6 (pc := 22) C hi_X8_say_X8 wd_X8_say_4 dX8_say_22 (fun s5 => ?_)
  refine r_aldn (pc := 25) C dX8_say_25 0 rfl ?_
  refine r_aldn (pc := 26) C dX8_say_26 1 rfl ?_
  refine gfN_X2_1 (pc := 27) C (o := o1) (by omega) (by omega) hi_X8_say_X2 nw_12 dX8_say_27 ?_
  refine pf_X8_4_6 (pc := 30) C hi_X8_say_X8 wd_X8_say_5 dX8_say_30 (fun s6 => ?_)
  refine r_aldn (pc := 33) C dX8_say_33 0 rfl ?_
  refine r_ildn (pc := 34) C dX8_say_34 3 rfl ?_
  refine r_aldn (pc := 35) C dX8_say_35 0 rfl ?_
  refine gf_X8_2_6 (pc := 36) C hi_X8_say_X8 wd_X8_say_3 dX8_say_36 ?_
  refine r_ild (pc := 39) C dX8_say_39 4 rfl ?_
  refine r_iconst (pc := 41) (v := (0 : Int32)) C dX8_say_41 ic_0 ?_
  refine k_X8_workOut (x := x) (pc := 42) (a1 := a3) (a2 := (s6 6 2)) (a3 := a4) (a4 := (0 : Int32)) C gX8_say_X8_workOut (by omega)  (Nat.le_of_ble_eq_true rfl) dX8_say_42 (fun r8 s7 => ?_)
  exact r_iret (pc := 45) C dX8_say_45
theorem k_X8_say {κ : oK} {nL : Nat} {cc : ByteArray} {own : String} {Ts : List Cond} {n : Nat} {ret : Option FieldType} {α : Type} {Q : α → Sg → State → Prop} {σ : Sg} {pc : Nat} {lv : List (Nat × Value)} {st : List Value} {x : oXp} {idx : Nat} {o1 : Nat} {a2 : Int32} {a3 : Int32} {a4 : Int32} {K : Int32 → Sg → Option (α × Sg)} (C : oC κ (oX x) nL cc own Ts n ret) (hG : GoodIn Ts (wsV own idx RX8 yX8_say wsX8_say)) (hn : 69 + 1 ≤ n) (h1_o1 : 20 ≤ o1) (h2_o1 : o1 < 40) (hst : (st.map fun v => v.category).sum ≤ 8) (hd : decode cc pc = .ok (.invokevirtual idx, 3)) (kk : ∀ (r1 : Int32) (σ1 : Sg), oV κ (oX x) nL Q σ1 (pc + 3) lv (.int r1 :: st) (K r1 σ1)) : oV κ (oX x) nL Q σ pc lv (.int a4 :: .int a3 :: .int a2 :: .ref (xa x o1) :: .ref (xa x 6) :: st) (bnd (f_X8_say o1 a2 a3 a4 σ) K) := by
  have hI : oI (oX x) := oC_I C
  exact r_cVi (As := [.ref (xa x o1), .int a2, .int a3, .int a4]) (na := 4) (j := 6) (ci := 8) C (fun l => m_X8_say l x hI o1 a2 a3 a4 h1_o1 h2_o1 σ) hG rfl (by decide +kernel) rfl (by decide) hn (by show 6 < 80; decide) rfl rfl rfl rfl hst hd kk
set_option maxHeartbeats 4000000 in
set_option maxRecDepth 100000 in
theorem m_X9_isIn (l : Launch) (x : oXp) (hI : oI (oX x)) (a0 : Int32) (a1 : Int32) (a2 : Int32) (σ : Sg) : oMI l yX9_isIn wsX9_isIn 3 (oX x) [.int a0, .int a1, .int a2] σ (f_X9_isIn  a0 a1 a2 σ) := by
  refine oMI_of (nL := 3) (cc := cX9_isIn) hI (by decide +kernel) rfl (Nat.le_of_ble_eq_true rfl) ?_
  intro κ C
  have C : oC κ (oX x) 3 cX9_isIn RX9 wsX9_isIn 3 (some .boolean) := C
  unfold f_X9_isIn
  show oV κ (oX x) 3 (oQi κ (oX x)) σ 0 [(0, .int a0), (1, .int a1), (2, .int a2)] [] _
  refine r_ildn (pc := 0) C dX9_isIn_0 0 rfl ?_
  refine r_ildn (pc := 1) C dX9_isIn_1 1 rfl ?_
  refine r_iclt (pc := 2) (tgt := 14) C dX9_isIn_2 (by decide) ?_ ?_
  · refine r_iconst (pc := 14) (v := (0 : Int32)) C dX9_isIn_14 ic_0 ?_
    exact r_zret (pc := 15) C (by decide) dX9_isIn_15
  · refine r_ildn (pc := 5) C dX9_isIn_5 0 rfl ?_
    refine r_ildn (pc := 6) C dX9_isIn_6 2 rfl ?_
    refine r_icgt (pc := 7) (tgt := 14) C dX9_isIn_7 (by decide) ?_ ?_
    · refine r_iconst (pc := 14) (v := (0 : Int32)) C dX9_isIn_14 ic_0 ?_
      exact r_zret (pc := 15) C (by decide) dX9_isIn_15
    · refine r_iconst (pc := 10) (v := (1 : Int32)) C dX9_isIn_10 ic_1 ?_
      refine r_goto (pc := 11) (tgt := 15) C dX9_isIn_11 (by decide) ?_
      exact r_zret (pc := 15) C (by decide) dX9_isIn_15
theorem kS_X9_isIn {κ : oK} {nL : Nat} {cc : ByteArray} {own : String} {Ts : List Cond} {n : Nat} {ret : Option FieldType} {α : Type} {Q : α → Sg → State → Prop} {σ : Sg} {pc : Nat} {lv : List (Nat × Value)} {st : List Value} {x : oXp} {idx : Nat} {a0 : Int32} {a1 : Int32} {a2 : Int32} {K : Int32 → Sg → Option (α × Sg)} (C : oC κ (oX x) nL cc own Ts n ret) (hG : GoodIn Ts (va_wsS own idx yX9_isIn wsX9_isIn)) (hn : 3 + 1 ≤ n) (hst : (st.map fun v => v.category).sum ≤ 8) (hd : decode cc pc = .ok (.invokestatic idx, 3)) (kk : ∀ (r1 : Int32) (σ1 : Sg), oV κ (oX x) nL Q σ1 (pc + 3) lv (.int r1 :: st) (K r1 σ1)) : oV κ (oX x) nL Q σ pc lv (.int a2 :: .int a1 :: .int a0 :: st) (bnd (f_X9_isIn a0 a1 a2 σ) K) := by
  have hI : oI (oX x) := oC_I C
  exact r_cSi (As := [.int a0, .int a1, .int a2]) (na := 3) C (fun l => m_X9_isIn l x hI a0 a1 a2 σ) hG rfl (by decide +kernel) rfl (by decide) hn hst hd kk
set_option maxHeartbeats 4000000 in
set_option maxRecDepth 100000 in
theorem m_X9_error (l : Launch) (x : oXp) (hI : oI (oX x)) (a1 : Int32) (σ : Sg) : oMI l yX9_error wsX9_error 3 (oX x) [.ref (xa x 0), .int a1] σ (f_X9_error  a1 σ) := by
  refine oMI_of (nL := 2) (cc := cX9_error) hI (by decide +kernel) rfl (Nat.le_of_ble_eq_true rfl) ?_
  intro κ C
  have C : oC κ (oX x) 2 cX9_error RX9 wsX9_error 3 (some .int) := C
  unfold f_X9_error
  show oV κ (oX x) 2 (oQi κ (oX x)) σ 0 [(0, .ref (xa x 0)), (1, .int a1)] [] _
  refine r_aldn (pc := 0) C dX9_error_0 0 rfl ?_
  refine gf_X9_8_0 (pc := 1) C hi_X9_error_X9 wd_X9_error_1 dX9_error_1 ?_
  refine r_ildn (pc := 4) C dX9_error_4 1 rfl ?_
  refine r_dup2 (pc := 5) C dX9_error_5 rfl rfl ?_
  refine iald_oX_8 (pc := 6) C dX9_error_6 ?_
  refine r_iconst (pc := 7) (v := (1 : Int32)) C dX9_error_7 ic_1 ?_
  refine r_iadd (pc := 8) C dX9_error_8 ?_
  refine iast_oX_8 (pc := 9) C dX9_error_9 (fun s1 => ?_)
  refine r_ldcw (pc := 10) (v := (-1000000000 : Int32)) C dX9_error_10 wd_X9_error_2 ?_
  refine r_ildn (pc := 13) C dX9_error_13 1 rfl ?_
  refine r_isub (pc := 14) C dX9_error_14 ?_
  exact r_iret (pc := 15) C dX9_error_15
theorem k_X9_error {κ : oK} {nL : Nat} {cc : ByteArray} {own : String} {Ts : List Cond} {n : Nat} {ret : Option FieldType} {α : Type} {Q : α → Sg → State → Prop} {σ : Sg} {pc : Nat} {lv : List (Nat × Value)} {st : List Value} {x : oXp} {idx : Nat} {a1 : Int32} {K : Int32 → Sg → Option (α × Sg)} (C : oC κ (oX x) nL cc own Ts n ret) (hG : GoodIn Ts (wsV own idx RX9 yX9_error wsX9_error)) (hn : 3 + 1 ≤ n) (hst : (st.map fun v => v.category).sum ≤ 8) (hd : decode cc pc = .ok (.invokevirtual idx, 3)) (kk : ∀ (r1 : Int32) (σ1 : Sg), oV κ (oX x) nL Q σ1 (pc + 3) lv (.int r1 :: st) (K r1 σ1)) : oV κ (oX x) nL Q σ pc lv (.int a1 :: .ref (xa x 0) :: st) (bnd (f_X9_error a1 σ) K) := by
  have hI : oI (oX x) := oC_I C
  exact r_cVi (As := [.int a1]) (na := 1) (j := 0) (ci := 9) C (fun l => m_X9_error l x hI a1 σ) hG rfl (by decide +kernel) rfl (by decide) hn (by show 0 < 80; decide) rfl rfl rfl rfl hst hd kk
set_option maxHeartbeats 4000000 in
set_option maxRecDepth 100000 in
theorem v_X9_isUnder_4_b {κ : oK} {x : oXp} (C : oC κ (oX x) 4 cX9_isUnder RX9 wsX9_isUnder 3 (some .boolean))  (rec4 : Int32 → Int32 → Int32 → Sg → Option (Int32 × Sg)) (hrec4 : ∀ (a1 : Int32) (a2 : Int32) (a3 : Int32) (σ : Sg), oV κ (oX x) 4 (oQi κ (oX x)) σ 4 [(1, .int a1), (2, .int a2), (3, .int a3)] [] (rec4 a1 a2 a3 σ)) (a1 : Int32) (a2 : Int32) (a3 : Int32) (σ : Sg) : oV κ (oX x) 4 (oQi κ (oX x)) σ 4 [(1, .int a1), (2, .int a2), (3, .int a3)] [] (f_X9_isUnder_4_b   rec4 a1 a2 a3 σ) := by
  unfold f_X9_isUnder_4_b
  refine r_ildn (pc := 4) C dX9_isUnder_4 2 rfl ?_
  refine r_bipush (pc := 5) (v := (7 : Int32)) C dX9_isUnder_5 bp_7 ?_
  refine r_icge (pc := 7) (tgt := 34) C dX9_isUnder_7 (by decide) ?_ ?_
  · refine r_iconst (pc := 34) (v := (0 : Int32)) C dX9_isUnder_34 ic_0 ?_
    exact r_zret (pc := 35) C (by decide) dX9_isUnder_35
  · refine r_ildn (pc := 10) C dX9_isUnder_10 1 rfl ?_
    refine r_iconst (pc := 11) (v := (-1 : Int32)) C dX9_isUnder_11 ic_m1 ?_
    refine r_iceq (pc := 12) (tgt := 34) C dX9_isUnder_12 (by decide) ?_ ?_
    · refine r_iconst (pc := 34) (v := (0 : Int32)) C dX9_isUnder_34 ic_0 ?_
      exact r_zret (pc := 35) C (by decide) dX9_isUnder_35
    · refine r_ildn (pc := 15) C dX9_isUnder_15 1 rfl ?_
      refine r_ildn (pc := 16) C dX9_isUnder_16 0 rfl ?_
      refine r_icne (pc := 17) (tgt := 22) C dX9_isUnder_17 (by decide) ?_ ?_
      · refine r_gsK (pc := 22) C wd_X9_isUnder_1 dX9_isUnder_22 ?_
        refine r_ildn (pc := 25) C dX9_isUnder_25 1 rfl ?_
        refine r_ldK (pc := 26) C dX9_isUnder_26 ?_
        refine r_nm (fun v1 => ?_)
        refine r_istn (pc := 27) (lv' := [(1, _), (2, _), (3, _)]) C dX9_isUnder_27 (by decide) [1, 0, 2] rfl ?_
        refine r_iinc (pc := 28) (v := (1 : Int32)) (lv1 := fun y => [(1, _), (2, _), (3, .int y)]) C dX9_isUnder_28 ic_1 2 rfl (by decide) [1, 2, 0] (fun _ => rfl) (fun v2 => ?_)
        refine r_goto (pc := 31) (tgt := 4) C dX9_isUnder_31 (by decide) ?_
        exact hrec4 a1 v1 v2 σ
      · refine r_iconst (pc := 20) (v := (1 : Int32)) C dX9_isUnder_20 ic_1 ?_
        exact r_zret (pc := 21) C (by decide) dX9_isUnder_21
theorem v_X9_isUnder_4 {κ : oK} {x : oXp} (C : oC κ (oX x) 4 cX9_isUnder RX9 wsX9_isUnder 3 (some .boolean))  : ∀ (n : Nat) (a1 : Int32) (a2 : Int32) (a3 : Int32) (σ : Sg), oV κ (oX x) 4 (oQi κ (oX x)) σ 4 [(1, .int a1), (2, .int a2), (3, .int a3)] [] (f_X9_isUnder_4   n a1 a2 a3 σ) := by
  intro n
  induction n with
  | zero => intros; exact r_none
  | succ n ih => exact v_X9_isUnder_4_b C  _ ih
set_option maxHeartbeats 4000000 in
set_option maxRecDepth 100000 in
theorem m_X9_isUnder (l : Launch) (x : oXp) (hI : oI (oX x)) (a0 : Int32) (a1 : Int32) (σ : Sg) : oMI l yX9_isUnder wsX9_isUnder 3 (oX x) [.int a0, .int a1] σ (f_X9_isUnder  a0 a1 σ) := by
  refine oMI_of (nL := 4) (cc := cX9_isUnder) hI (by decide +kernel) rfl (Nat.le_of_ble_eq_true rfl) ?_
  intro κ C
  have C : oC κ (oX x) 4 cX9_isUnder RX9 wsX9_isUnder 3 (some .boolean) := C
  unfold f_X9_isUnder
  show oV κ (oX x) 4 (oQi κ (oX x)) σ 0 [(0, .int a0), (1, .int a1)] [] _
  refine r_ildn (pc := 0) C dX9_isUnder_0 0 rfl ?_
  refine r_istn (pc := 1) (lv' := [(1, _), (2, _)]) C dX9_isUnder_1 (by decide) [2, 0] rfl ?_
  refine r_iconst (pc := 2) (v := (0 : Int32)) C dX9_isUnder_2 ic_0 ?_
  refine r_istn (pc := 3) (lv' := [(1, _), (2, _), (3, _)]) C dX9_isUnder_3 (by decide) [1, 2, 0] rfl ?_
  exact v_X9_isUnder_4 (x := x) C fuN a1 a0 (0 : Int32) σ
theorem kS_X9_isUnder {κ : oK} {nL : Nat} {cc : ByteArray} {own : String} {Ts : List Cond} {n : Nat} {ret : Option FieldType} {α : Type} {Q : α → Sg → State → Prop} {σ : Sg} {pc : Nat} {lv : List (Nat × Value)} {st : List Value} {x : oXp} {idx : Nat} {a0 : Int32} {a1 : Int32} {K : Int32 → Sg → Option (α × Sg)} (C : oC κ (oX x) nL cc own Ts n ret) (hG : GoodIn Ts (va_wsS own idx yX9_isUnder wsX9_isUnder)) (hn : 3 + 1 ≤ n) (hst : (st.map fun v => v.category).sum ≤ 8) (hd : decode cc pc = .ok (.invokestatic idx, 3)) (kk : ∀ (r1 : Int32) (σ1 : Sg), oV κ (oX x) nL Q σ1 (pc + 3) lv (.int r1 :: st) (K r1 σ1)) : oV κ (oX x) nL Q σ pc lv (.int a1 :: .int a0 :: st) (bnd (f_X9_isUnder a0 a1 σ) K) := by
  have hI : oI (oX x) := oC_I C
  exact r_cSi (As := [.int a0, .int a1]) (na := 2) C (fun l => m_X9_isUnder l x hI a0 a1 σ) hG rfl (by decide +kernel) rfl (by decide) hn hst hd kk
set_option maxHeartbeats 4000000 in
set_option maxRecDepth 100000 in
theorem m_X9_as (l : Launch) (x : oXp) (hI : oI (oX x)) (a1 : Int32) (a2 : Int32) (σ : Sg) : oMI l yX9_as wsX9_as 4 (oX x) [.ref (xa x 0), .int a1, .int a2] σ (f_X9_as  a1 a2 σ) := by
  refine oMI_of (nL := 4) (cc := cX9_as) hI (by decide +kernel) rfl (Nat.le_of_ble_eq_true rfl) ?_
  intro κ C
  have C : oC κ (oX x) 4 cX9_as RX9 wsX9_as 4 (some .int) := C
  unfold f_X9_as
  show oV κ (oX x) 4 (oQi κ (oX x)) σ 0 [(0, .ref (xa x 0)), (1, .int a1), (2, .int a2)] [] _
  refine r_aldn (pc := 0) C dX9_as_0 0 rfl ?_
  refine gf_X9_0_0 (pc := 1) C hi_X9_as_X9 wd_X9_as_1 dX9_as_1 ?_
  refine r_ildn (pc := 4) C dX9_as_4 1 rfl ?_
  refine k_X0_hasLine (x := x) (pc := 5) (a1 := a1) C gX9_as_X0_hasLine (by omega)  (Nat.le_of_ble_eq_true rfl) dX9_as_5 (fun r2 s1 => ?_)
  refine r_ifeq (pc := 8) (tgt := 21) C dX9_as_8 (by decide) ?_ ?_
  · refine r_aldn (pc := 21) C dX9_as_21 0 rfl ?_
    refine r_iconst (pc := 22) (v := (1 : Int32)) C dX9_as_22 ic_1 ?_
    refine k_X9_error (x := x) (pc := 23) (a1 := (1 : Int32)) C gX9_as_X9_error (by omega)  (Nat.le_of_ble_eq_true rfl) dX9_as_23 (fun r4 s3 => ?_)
    exact r_iret (pc := 26) C dX9_as_26
  · refine r_ildn (pc := 11) C dX9_as_11 2 rfl ?_
    refine r_iconst (pc := 12) (v := (0 : Int32)) C dX9_as_12 ic_0 ?_
    refine r_bipush (pc := 13) (v := (6 : Int32)) C dX9_as_13 bp_6 ?_
    refine kS_X9_isIn (x := x) (pc := 15) (a0 := a2) (a1 := (0 : Int32)) (a2 := (6 : Int32)) C gX9_as_X9_isIn (by omega)  (Nat.le_of_ble_eq_true rfl) dX9_as_15 (fun r6 s5 => ?_)
    refine r_ifne (pc := 18) (tgt := 27) C dX9_as_18 (by decide) ?_ ?_
    · refine r_aldn (pc := 27) C dX9_as_27 0 rfl ?_
      refine gf_X9_0_0 (pc := 28) C hi_X9_as_X9 wd_X9_as_1 dX9_as_28 ?_
      refine gfN_X0_0_1 (pc := 31) C hi_X9_as_X0 nw_24 dX9_as_31 ?_
      refine r_ildn (pc := 34) C dX9_as_34 1 rfl ?_
      refine qa_Ln_14 (pc := 35) C dX9_as_35 (fun p7 h1_p7 h2_p7 => ?_)
      refine r_astn (pc := 36) (lv' := [(0, _), (2, _), (3, _)]) C dX9_as_36 (by decide) [1, 3, 0] rfl ?_
      refine r_aldn (pc := 37) C dX9_as_37 2 rfl ?_
      refine gfN_X2_0 (pc := 38) C (o := p7) (by omega) (by omega) hi_X9_as_X2 nw_11 dX9_as_38 ?_
      refine r_ildn (pc := 41) C dX9_as_41 1 rfl ?_
      refine kS_X9_isUnder (x := x) (pc := 42) (a0 := (s5 p7 0)) (a1 := a2) C gX9_as_X9_isUnder (by omega)  (Nat.le_of_ble_eq_true rfl) dX9_as_42 (fun r9 s8 => ?_)
      refine r_ifeq (pc := 45) (tgt := 55) C dX9_as_45 (by decide) ?_ ?_
      · refine r_aldn (pc := 55) C dX9_as_55 0 rfl ?_
        refine r_iconst (pc := 56) (v := (5 : Int32)) C dX9_as_56 ic_5 ?_
        refine k_X9_error (x := x) (pc := 57) (a1 := (5 : Int32)) C gX9_as_X9_error (by omega)  (Nat.le_of_ble_eq_true rfl) dX9_as_57 (fun r11 s10 => ?_)
        exact r_iret (pc := 60) C dX9_as_60
      · refine r_aldn (pc := 48) C dX9_as_48 2 rfl ?_
        refine gfN_X2_1 (pc := 49) C (o := p7) (by omega) (by omega) hi_X9_as_X2 nw_13 dX9_as_49 ?_
        refine r_goto (pc := 52) (tgt := 60) C dX9_as_52 (by decide) ?_
        exact r_iret (pc := 60) C dX9_as_60
    · refine r_aldn (pc := 21) C dX9_as_21 0 rfl ?_
      refine r_iconst (pc := 22) (v := (1 : Int32)) C dX9_as_22 ic_1 ?_
      refine k_X9_error (x := x) (pc := 23) (a1 := (1 : Int32)) C gX9_as_X9_error (by omega)  (Nat.le_of_ble_eq_true rfl) dX9_as_23 (fun r13 s12 => ?_)
      exact r_iret (pc := 26) C dX9_as_26
set_option maxHeartbeats 4000000 in
set_option maxRecDepth 100000 in
theorem m_X9_isKm (l : Launch) (x : oXp) (hI : oI (oX x)) (a0 : Int32) (σ : Sg) : oMI l yX9_isKm wsX9_isKm 4 (oX x) [.int a0] σ (f_X9_isKm  a0 σ) := by
  refine oMI_of (nL := 1) (cc := cX9_isKm) hI (by decide +kernel) rfl (Nat.le_of_ble_eq_true rfl) ?_
  intro κ C
  have C : oC κ (oX x) 1 cX9_isKm RX9 wsX9_isKm 4 (some .boolean) := C
  unfold f_X9_isKm
  show oV κ (oX x) 1 (oQi κ (oX x)) σ 0 [(0, .int a0)] [] _
  refine r_ildn (pc := 0) C dX9_isKm_0 0 rfl ?_
  refine r_iconst (pc := 1) (v := (0 : Int32)) C dX9_isKm_1 ic_0 ?_
  refine r_bipush (pc := 2) (v := (69 : Int32)) C dX9_isKm_2 bp_69 ?_
  refine kS_X9_isIn (x := x) (pc := 4) (a0 := a0) (a1 := (0 : Int32)) (a2 := (69 : Int32)) C gX9_isKm_X9_isIn (by omega)  (Nat.le_of_ble_eq_true rfl) dX9_isKm_4 (fun r2 s1 => ?_)
  refine r_ckb (fun h3 => ?_)
  exact r_zret (pc := 7) C (isb_nar h3).1 dX9_isKm_7
theorem kS_X9_isKm {κ : oK} {nL : Nat} {cc : ByteArray} {own : String} {Ts : List Cond} {n : Nat} {ret : Option FieldType} {α : Type} {Q : α → Sg → State → Prop} {σ : Sg} {pc : Nat} {lv : List (Nat × Value)} {st : List Value} {x : oXp} {idx : Nat} {a0 : Int32} {K : Int32 → Sg → Option (α × Sg)} (C : oC κ (oX x) nL cc own Ts n ret) (hG : GoodIn Ts (va_wsS own idx yX9_isKm wsX9_isKm)) (hn : 4 + 1 ≤ n) (hst : (st.map fun v => v.category).sum ≤ 8) (hd : decode cc pc = .ok (.invokestatic idx, 3)) (kk : ∀ (r1 : Int32) (σ1 : Sg), oV κ (oX x) nL Q σ1 (pc + 3) lv (.int r1 :: st) (K r1 σ1)) : oV κ (oX x) nL Q σ pc lv (.int a0 :: st) (bnd (f_X9_isKm a0 σ) K) := by
  have hI : oI (oX x) := oC_I C
  exact r_cSi (As := [.int a0]) (na := 1) C (fun l => m_X9_isKm l x hI a0 σ) hG rfl (by decide +kernel) rfl (by decide) hn hst hd kk
set_option maxHeartbeats 4000000 in
set_option maxRecDepth 100000 in
theorem m_X9_become (l : Launch) (x : oXp) (hI : oI (oX x)) (a1 : Int32) (a2 : Int32) (σ : Sg) : oMI l yX9_become wsX9_become 5 (oX x) [.ref (xa x 0), .int a1, .int a2] σ (f_X9_become  a1 a2 σ) := by
  refine oMI_of (nL := 5) (cc := cX9_become) hI (by decide +kernel) rfl (Nat.le_of_ble_eq_true rfl) ?_
  intro κ C
  have C : oC κ (oX x) 5 cX9_become RX9 wsX9_become 5 (some .int) := C
  unfold f_X9_become
  show oV κ (oX x) 5 (oQi κ (oX x)) σ 0 [(0, .ref (xa x 0)), (1, .int a1), (2, .int a2)] [] _
  refine r_aldn (pc := 0) C dX9_become_0 0 rfl ?_
  refine gf_X9_0_0 (pc := 1) C hi_X9_become_X9 wd_X9_become_1 dX9_become_1 ?_
  refine r_ildn (pc := 4) C dX9_become_4 1 rfl ?_
  refine k_X0_hasLine (x := x) (pc := 5) (a1 := a1) C gX9_become_X0_hasLine (by omega)  (Nat.le_of_ble_eq_true rfl) dX9_become_5 (fun r2 s1 => ?_)
  refine r_ifeq (pc := 8) (tgt := 18) C dX9_become_8 (by decide) ?_ ?_
  · refine r_aldn (pc := 18) C dX9_become_18 0 rfl ?_
    refine r_iconst (pc := 19) (v := (1 : Int32)) C dX9_become_19 ic_1 ?_
    refine k_X9_error (x := x) (pc := 20) (a1 := (1 : Int32)) C gX9_become_X9_error (by omega)  (Nat.le_of_ble_eq_true rfl) dX9_become_20 (fun r4 s3 => ?_)
    exact r_iret (pc := 23) C dX9_become_23
  · refine r_ildn (pc := 11) C dX9_become_11 2 rfl ?_
    refine kS_X9_isKm (x := x) (pc := 12) (a0 := a2) C gX9_become_X9_isKm (by omega)  (Nat.le_of_ble_eq_true rfl) dX9_become_12 (fun r6 s5 => ?_)
    refine r_ifne (pc := 15) (tgt := 24) C dX9_become_15 (by decide) ?_ ?_
    · refine r_aldn (pc := 24) C dX9_become_24 0 rfl ?_
      refine gf_X9_0_0 (pc := 25) C hi_X9_become_X9 wd_X9_become_1 dX9_become_25 ?_
      refine gfN_X0_0_1 (pc := 28) C hi_X9_become_X0 nw_24 dX9_become_28 ?_
      refine r_ildn (pc := 31) C dX9_become_31 1 rfl ?_
      refine qa_Ln_14 (pc := 32) C dX9_become_32 (fun p7 h1_p7 h2_p7 => ?_)
      refine r_astn (pc := 33) (lv' := [(2, _), (3, _)]) C dX9_become_33 (by decide) [3, 0] rfl ?_
      refine r_aldn (pc := 34) C dX9_become_34 1 rfl ?_
      refine gfN_X2_0 (pc := 35) C (o := p7) (by omega) (by omega) hi_X9_become_X2 nw_11 dX9_become_35 ?_
      refine r_nm (fun v8 => ?_)
      refine r_ist (pc := 38) (lv' := [(2, _), (3, _), (4, _)]) C dX9_become_38 (by decide) [1, 2, 0] rfl ?_
      refine r_aldn (pc := 40) C dX9_become_40 1 rfl ?_
      refine r_ildn (pc := 41) C dX9_become_41 0 rfl ?_
      refine r_bipush (pc := 42) (v := (10 : Int32)) C dX9_become_42 bp_10 ?_
      refine r_idiv (pc := 44) C dX9_become_44 (by decide) ?_
      refine pfN_X2_0 (pc := 45) C (o := p7) (by omega) (by omega) hi_X9_become_X2 nw_11 dX9_become_45 (fun s9 => ?_)
      refine r_aldn (pc := 48) C dX9_become_48 1 rfl ?_
      refine r_ildn (pc := 49) C dX9_become_49 0 rfl ?_
      refine r_bipush (pc := 50) (v := (10 : Int32)) C dX9_become_50 bp_10 ?_
      refine r_irem (pc := 52) C dX9_become_52 (by decide) ?_
      refine pfN_X2_1 (pc := 53) C (o := p7) (by omega) (by omega) hi_X9_become_X2 nw_13 dX9_become_53 (fun s10 => ?_)
      refine r_ild (pc := 56) C dX9_become_56 2 rfl ?_
      exact r_iret (pc := 58) C dX9_become_58
    · refine r_aldn (pc := 18) C dX9_become_18 0 rfl ?_
      refine r_iconst (pc := 19) (v := (1 : Int32)) C dX9_become_19 ic_1 ?_
      refine k_X9_error (x := x) (pc := 20) (a1 := (1 : Int32)) C gX9_become_X9_error (by omega)  (Nat.le_of_ble_eq_true rfl) dX9_become_20 (fun r12 s11 => ?_)
      exact r_iret (pc := 23) C dX9_become_23
set_option maxHeartbeats 4000000 in
set_option maxRecDepth 100000 in
theorem m_X9_body (l : Launch) (x : oXp) (hI : oI (oX x)) (a1 : Int32) (σ : Sg) : oMI l yX9_body wsX9_body 4 (oX x) [.ref (xa x 0), .int a1] σ (f_X9_body  a1 σ) := by
  refine oMI_of (nL := 2) (cc := cX9_body) hI (by decide +kernel) rfl (Nat.le_of_ble_eq_true rfl) ?_
  intro κ C
  have C : oC κ (oX x) 2 cX9_body RX9 wsX9_body 4 (some .int) := C
  unfold f_X9_body
  show oV κ (oX x) 2 (oQi κ (oX x)) σ 0 [(0, .ref (xa x 0)), (1, .int a1)] [] _
  refine r_ildn (pc := 0) C dX9_body_0 1 rfl ?_
  refine r_iconst (pc := 1) (v := (0 : Int32)) C dX9_body_1 ic_0 ?_
  refine r_aldn (pc := 2) C dX9_body_2 0 rfl ?_
  refine gf_X9_6_0 (pc := 3) C hi_X9_body_X9 wd_X9_body_1 dX9_body_3 ?_
  refine gfN_X8_0_6 (pc := 6) C hi_X9_body_X8 nw_43 dX9_body_6 ?_
  refine gfN_X6_1_57 (pc := 9) C hi_X9_body_X6 nw_7 dX9_body_9 ?_
  refine r_iconst (pc := 12) (v := (1 : Int32)) C dX9_body_12 ic_1 ?_
  refine r_isub (pc := 13) C dX9_body_13 ?_
  refine kS_X9_isIn (x := x) (pc := 14) (a0 := a1) (a1 := (0 : Int32)) (a2 := ((σ 57 1) - (1 : Int32))) C gX9_body_X9_isIn (by omega)  (Nat.le_of_ble_eq_true rfl) dX9_body_14 (fun r2 s1 => ?_)
  refine r_ifeq (pc := 17) (tgt := 35) C dX9_body_17 (by decide) ?_ ?_
  · refine r_aldn (pc := 35) C dX9_body_35 0 rfl ?_
    refine r_iconst (pc := 36) (v := (2 : Int32)) C dX9_body_36 ic_2 ?_
    refine k_X9_error (x := x) (pc := 37) (a1 := (2 : Int32)) C gX9_body_X9_error (by omega)  (Nat.le_of_ble_eq_true rfl) dX9_body_37 (fun r4 s3 => ?_)
    exact r_iret (pc := 40) C dX9_body_40
  · refine r_aldn (pc := 20) C dX9_body_20 0 rfl ?_
    refine gf_X9_6_0 (pc := 21) C hi_X9_body_X9 wd_X9_body_1 dX9_body_21 ?_
    refine gfN_X8_0_6 (pc := 24) C hi_X9_body_X8 nw_43 dX9_body_24 ?_
    refine gfN_X6_0_57 (pc := 27) C hi_X9_body_X6 nw_3 dX9_body_27 ?_
    refine r_ildn (pc := 30) C dX9_body_30 1 rfl ?_
    refine iald_oX_75 (pc := 31) C dX9_body_31 ?_
    refine r_goto (pc := 32) (tgt := 40) C dX9_body_32 (by decide) ?_
    exact r_iret (pc := 40) C dX9_body_40
set_option maxHeartbeats 4000000 in
set_option maxRecDepth 100000 in
theorem v_X9_firstWrongInk_10_b {κ : oK} {x : oXp} (C : oC κ (oX x) 3 cX9_firstWrongInk RX9 wsX9_firstWrongInk 3 (some .int))  (rec10 : Int32 → Sg → Option (Int32 × Sg)) (hrec10 : ∀ (a2 : Int32) (σ : Sg), oV κ (oX x) 3 (oQi κ (oX x)) σ 10 [(0, .ref (xa x 0)), (1, .ref (xa x 46)), (2, .int a2)] [] (rec10 a2 σ)) (a2 : Int32) (σ : Sg) : oV κ (oX x) 3 (oQi κ (oX x)) σ 10 [(0, .ref (xa x 0)), (1, .ref (xa x 46)), (2, .int a2)] [] (f_X9_firstWrongInk_10_b   rec10 a2 σ) := by
  unfold f_X9_firstWrongInk_10_b
  refine r_ildn (pc := 10) C dX9_firstWrongInk_10 2 rfl ?_
  refine r_aldn (pc := 11) C dX9_firstWrongInk_11 1 rfl ?_
  refine gfN_X6_1_46 (pc := 12) C hi_X9_firstWrongInk_X6 nw_7 dX9_firstWrongInk_12 ?_
  refine r_icge (pc := 15) (tgt := 51) C dX9_firstWrongInk_15 (by decide) ?_ ?_
  · refine r_iconst (pc := 51) (v := (0 : Int32)) C dX9_firstWrongInk_51 ic_0 ?_
    exact r_iret (pc := 52) C dX9_firstWrongInk_52
  · refine r_ildn (pc := 18) C dX9_firstWrongInk_18 2 rfl ?_
    refine r_iconst (pc := 19) (v := (5 : Int32)) C dX9_firstWrongInk_19 ic_5 ?_
    refine r_icge (pc := 20) (tgt := 41) C dX9_firstWrongInk_20 (by decide) ?_ ?_
    · refine r_iconst (pc := 41) (v := (1 : Int32)) C dX9_firstWrongInk_41 ic_1 ?_
      refine r_ildn (pc := 42) C dX9_firstWrongInk_42 2 rfl ?_
      refine r_iadd (pc := 43) C dX9_firstWrongInk_43 ?_
      exact r_iret (pc := 44) C dX9_firstWrongInk_44
    · refine r_aldn (pc := 23) C dX9_firstWrongInk_23 1 rfl ?_
      refine gfN_X6_0_46 (pc := 24) C hi_X9_firstWrongInk_X6 nw_3 dX9_firstWrongInk_24 ?_
      refine r_ildn (pc := 27) C dX9_firstWrongInk_27 2 rfl ?_
      refine iald_oX_64 (pc := 28) C dX9_firstWrongInk_28 ?_
      refine r_aldn (pc := 29) C dX9_firstWrongInk_29 0 rfl ?_
      refine gf_X9_0_0 (pc := 30) C hi_X9_firstWrongInk_X9 wd_X9_firstWrongInk_1 dX9_firstWrongInk_30 ?_
      refine gfN_X0_5_1 (pc := 33) C hi_X9_firstWrongInk_X0 nw_33 dX9_firstWrongInk_33 ?_
      refine r_ildn (pc := 36) C dX9_firstWrongInk_36 2 rfl ?_
      refine iald_oX_16 (pc := 37) C dX9_firstWrongInk_37 ?_
      refine r_iceq (pc := 38) (tgt := 45) C dX9_firstWrongInk_38 (by decide) ?_ ?_
      · refine r_iinc (pc := 45) (v := (1 : Int32)) (lv1 := fun y => [(0, _), (1, _), (2, .int y)]) C dX9_firstWrongInk_45 ic_1 2 rfl (by decide) [1, 2, 0] (fun _ => rfl) (fun v1 => ?_)
        refine r_goto (pc := 48) (tgt := 10) C dX9_firstWrongInk_48 (by decide) ?_
        exact hrec10 v1 σ
      · refine r_iconst (pc := 41) (v := (1 : Int32)) C dX9_firstWrongInk_41 ic_1 ?_
        refine r_ildn (pc := 42) C dX9_firstWrongInk_42 2 rfl ?_
        refine r_iadd (pc := 43) C dX9_firstWrongInk_43 ?_
        exact r_iret (pc := 44) C dX9_firstWrongInk_44
theorem v_X9_firstWrongInk_10 {κ : oK} {x : oXp} (C : oC κ (oX x) 3 cX9_firstWrongInk RX9 wsX9_firstWrongInk 3 (some .int))  : ∀ (n : Nat) (a2 : Int32) (σ : Sg), oV κ (oX x) 3 (oQi κ (oX x)) σ 10 [(0, .ref (xa x 0)), (1, .ref (xa x 46)), (2, .int a2)] [] (f_X9_firstWrongInk_10   n a2 σ) := by
  intro n
  induction n with
  | zero => intros; exact r_none
  | succ n ih => exact v_X9_firstWrongInk_10_b C  _ ih
set_option maxHeartbeats 4000000 in
set_option maxRecDepth 100000 in
theorem m_X9_firstWrongInk (l : Launch) (x : oXp) (hI : oI (oX x))  (σ : Sg) : oMI l yX9_firstWrongInk wsX9_firstWrongInk 3 (oX x) [.ref (xa x 0)] σ (f_X9_firstWrongInk   σ) := by
  refine oMI_of (nL := 3) (cc := cX9_firstWrongInk) hI (by decide +kernel) rfl (Nat.le_of_ble_eq_true rfl) ?_
  intro κ C
  have C : oC κ (oX x) 3 cX9_firstWrongInk RX9 wsX9_firstWrongInk 3 (some .int) := C
  unfold f_X9_firstWrongInk
  show oV κ (oX x) 3 (oQi κ (oX x)) σ 0 [(0, .ref (xa x 0))] [] _
  refine r_aldn (pc := 0) C dX9_firstWrongInk_0 0 rfl ?_
  refine gf_X9_0_0 (pc := 1) C hi_X9_firstWrongInk_X9 wd_X9_firstWrongInk_1 dX9_firstWrongInk_1 ?_
  refine gfN_X0_8_1 (pc := 4) C hi_X9_firstWrongInk_X0 nw_36 dX9_firstWrongInk_4 ?_
  refine r_astn (pc := 7) (lv' := [(0, _), (1, _)]) C dX9_firstWrongInk_7 (by decide) [1, 0] rfl ?_
  refine r_iconst (pc := 8) (v := (0 : Int32)) C dX9_firstWrongInk_8 ic_0 ?_
  refine r_istn (pc := 9) (lv' := [(0, _), (1, _), (2, _)]) C dX9_firstWrongInk_9 (by decide) [1, 2, 0] rfl ?_
  exact v_X9_firstWrongInk_10 (x := x) C fuN (0 : Int32) σ
theorem k_X9_firstWrongInk {κ : oK} {nL : Nat} {cc : ByteArray} {own : String} {Ts : List Cond} {n : Nat} {ret : Option FieldType} {α : Type} {Q : α → Sg → State → Prop} {σ : Sg} {pc : Nat} {lv : List (Nat × Value)} {st : List Value} {x : oXp} {idx : Nat}  {K : Int32 → Sg → Option (α × Sg)} (C : oC κ (oX x) nL cc own Ts n ret) (hG : GoodIn Ts (wsV own idx RX9 yX9_firstWrongInk wsX9_firstWrongInk)) (hn : 3 + 1 ≤ n) (hst : (st.map fun v => v.category).sum ≤ 8) (hd : decode cc pc = .ok (.invokevirtual idx, 3)) (kk : ∀ (r1 : Int32) (σ1 : Sg), oV κ (oX x) nL Q σ1 (pc + 3) lv (.int r1 :: st) (K r1 σ1)) : oV κ (oX x) nL Q σ pc lv (.ref (xa x 0) :: st) (bnd (f_X9_firstWrongInk  σ) K) := by
  have hI : oI (oX x) := oC_I C
  exact r_cVi (As := []) (na := 0) (j := 0) (ci := 9) C (fun l => m_X9_firstWrongInk l x hI  σ) hG rfl (by decide +kernel) rfl (by decide) hn (by show 0 < 80; decide) rfl rfl rfl rfl hst hd kk
set_option maxHeartbeats 4000000 in
set_option maxRecDepth 100000 in
theorem m_X9_check (l : Launch) (x : oXp) (hI : oI (oX x))  (σ : Sg) : oMI l yX9_check wsX9_check 4 (oX x) [.ref (xa x 0)] σ (f_X9_check   σ) := by
  refine oMI_of (nL := 2) (cc := cX9_check) hI (by decide +kernel) rfl (Nat.le_of_ble_eq_true rfl) ?_
  intro κ C
  have C : oC κ (oX x) 2 cX9_check RX9 wsX9_check 4 (some .int) := C
  unfold f_X9_check
  show oV κ (oX x) 2 (oQi κ (oX x)) σ 0 [(0, .ref (xa x 0))] [] _
  refine r_aldn (pc := 0) C dX9_check_0 0 rfl ?_
  refine k_X9_firstWrongInk (x := x) (pc := 1)  C gX9_check_X9_firstWrongInk (by omega)  (Nat.le_of_ble_eq_true rfl) dX9_check_1 (fun r2 s1 => ?_)
  refine r_istn (pc := 4) (lv' := [(0, _), (1, _)]) C dX9_check_4 (by decide) [1, 0] rfl ?_
  refine r_aldn (pc := 5) C dX9_check_5 0 rfl ?_
  refine gf_X9_0_0 (pc := 6) C hi_X9_check_X9 wd_X9_check_1 dX9_check_6 ?_
  refine gfN_X0_8_1 (pc := 9) C hi_X9_check_X0 nw_36 dX9_check_9 ?_
  refine k_X6_clear (x := x) (pc := 12) (o0 := 46) C gX9_check_X6_clear (by omega) (by omega) (by omega) (Nat.le_of_ble_eq_true rfl) dX9_check_12 (fun _ s3 => ?_)
  refine r_ildn (pc := 15) C dX9_check_15 1 rfl ?_
  exact r_iret (pc := 16) C dX9_check_16
set_option maxHeartbeats 4000000 in
set_option maxRecDepth 100000 in
theorem m_X9_clears (l : Launch) (x : oXp) (hI : oI (oX x)) (a1 : Int32) (σ : Sg) : oMI l yX9_clears wsX9_clears 6 (oX x) [.ref (xa x 0), .int a1] σ (f_X9_clears  a1 σ) := by
  refine oMI_of (nL := 2) (cc := cX9_clears) hI (by decide +kernel) rfl (Nat.le_of_ble_eq_true rfl) ?_
  intro κ C
  have C : oC κ (oX x) 2 cX9_clears RX9 wsX9_clears 6 (some .int) := C
  unfold f_X9_clears
  show oV κ (oX x) 2 (oQi κ (oX x)) σ 0 [(0, .ref (xa x 0)), (1, .int a1)] [] _
  refine r_ildn (pc := 0) C dX9_clears_0 1 rfl ?_
  refine r_iconst (pc := 1) (v := (0 : Int32)) C dX9_clears_1 ic_0 ?_
  refine r_bipush (pc := 2) (v := (90 : Int32)) C dX9_clears_2 bp_90 ?_
  refine kS_X9_isIn (x := x) (pc := 4) (a0 := a1) (a1 := (0 : Int32)) (a2 := (90 : Int32)) C gX9_clears_X9_isIn (by omega)  (Nat.le_of_ble_eq_true rfl) dX9_clears_4 (fun r2 s1 => ?_)
  refine r_ifeq (pc := 7) (tgt := 21) C dX9_clears_7 (by decide) ?_ ?_
  · refine r_aldn (pc := 21) C dX9_clears_21 0 rfl ?_
    refine r_iconst (pc := 22) (v := (1 : Int32)) C dX9_clears_22 ic_1 ?_
    refine k_X9_error (x := x) (pc := 23) (a1 := (1 : Int32)) C gX9_clears_X9_error (by omega)  (Nat.le_of_ble_eq_true rfl) dX9_clears_23 (fun r4 s3 => ?_)
    exact r_iret (pc := 26) C dX9_clears_26
  · refine r_aldn (pc := 10) C dX9_clears_10 0 rfl ?_
    refine gf_X9_0_0 (pc := 11) C hi_X9_clears_X9 wd_X9_clears_1 dX9_clears_11 ?_
    refine r_ildn (pc := 14) C dX9_clears_14 1 rfl ?_
    refine k_X0_takenBehind (x := x) (pc := 15) (a1 := a1) C gX9_clears_X0_takenBehind (by omega)  (Nat.le_of_ble_eq_true rfl) dX9_clears_15 (fun r6 s5 => ?_)
    refine r_goto (pc := 18) (tgt := 26) C dX9_clears_18 (by decide) ?_
    exact r_iret (pc := 26) C dX9_clears_26
set_option maxHeartbeats 4000000 in
set_option maxRecDepth 100000 in
theorem m_X9_count (l : Launch) (x : oXp) (hI : oI (oX x)) (a1 : Int32) (σ : Sg) : oMI l yX9_count wsX9_count 4 (oX x) [.ref (xa x 0), .int a1] σ (f_X9_count  a1 σ) := by
  refine oMI_of (nL := 2) (cc := cX9_count) hI (by decide +kernel) rfl (Nat.le_of_ble_eq_true rfl) ?_
  intro κ C
  have C : oC κ (oX x) 2 cX9_count RX9 wsX9_count 4 (some .int) := C
  unfold f_X9_count
  show oV κ (oX x) 2 (oQi κ (oX x)) σ 0 [(0, .ref (xa x 0)), (1, .int a1)] [] _
  refine r_ildn (pc := 0) C dX9_count_0 1 rfl ?_
  refine r_ite (fun c1 => ?_) (fun c1 => ?_)
  · refine r_tabE (pc := 1) (v := (0 : Int32)) (off := 47) (tgt := 48) C dX9_count_1 c1 (by decide) (by decide) (by decide) (by decide) ?_
    refine r_aldn (pc := 48) C dX9_count_48 0 rfl ?_
    refine gf_X9_0_0 (pc := 49) C hi_X9_count_X9 wd_X9_count_1 dX9_count_49 ?_
    refine gfN_X0_1_1 (pc := 52) C hi_X9_count_X0 nw_26 dX9_count_52 ?_
    exact r_iret (pc := 55) C dX9_count_55
  · refine r_ite (fun c2 => ?_) (fun c2 => ?_)
    · refine r_tabE (pc := 1) (v := (1 : Int32)) (off := 55) (tgt := 56) C dX9_count_1 c2 (by decide) (by decide) (by decide) (by decide) ?_
      refine r_aldn (pc := 56) C dX9_count_56 0 rfl ?_
      refine gf_X9_0_0 (pc := 57) C hi_X9_count_X9 wd_X9_count_1 dX9_count_57 ?_
      refine gfN_X0_2_1 (pc := 60) C hi_X9_count_X0 nw_29 dX9_count_60 ?_
      exact r_iret (pc := 63) C dX9_count_63
    · refine r_ite (fun c3 => ?_) (fun c3 => ?_)
      · refine r_tabE (pc := 1) (v := (2 : Int32)) (off := 63) (tgt := 64) C dX9_count_1 c3 (by decide) (by decide) (by decide) (by decide) ?_
        refine r_aldn (pc := 64) C dX9_count_64 0 rfl ?_
        refine gf_X9_0_0 (pc := 65) C hi_X9_count_X9 wd_X9_count_1 dX9_count_65 ?_
        refine gfN_X0_3_1 (pc := 68) C hi_X9_count_X0 nw_31 dX9_count_68 ?_
        exact r_iret (pc := 71) C dX9_count_71
      · refine r_ite (fun c4 => ?_) (fun c4 => ?_)
        · refine r_tabE (pc := 1) (v := (3 : Int32)) (off := 71) (tgt := 72) C dX9_count_1 c4 (by decide) (by decide) (by decide) (by decide) ?_
          refine r_aldn (pc := 72) C dX9_count_72 0 rfl ?_
          refine gf_X9_0_0 (pc := 73) C hi_X9_count_X9 wd_X9_count_1 dX9_count_73 ?_
          refine gfN_X0_4_1 (pc := 76) C hi_X9_count_X0 nw_32 dX9_count_76 ?_
          exact r_iret (pc := 79) C dX9_count_79
        · refine r_ite (fun c5 => ?_) (fun c5 => ?_)
          · refine r_tabE (pc := 1) (v := (4 : Int32)) (off := 79) (tgt := 80) C dX9_count_1 c5 (by decide) (by decide) (by decide) (by decide) ?_
            refine r_aldn (pc := 80) C dX9_count_80 0 rfl ?_
            refine gf_X9_0_0 (pc := 81) C hi_X9_count_X9 wd_X9_count_1 dX9_count_81 ?_
            refine gfN_X0_7_1 (pc := 84) C hi_X9_count_X0 nw_35 dX9_count_84 ?_
            refine gfN_X6_1_44 (pc := 87) C hi_X9_count_X6 nw_7 dX9_count_87 ?_
            exact r_iret (pc := 90) C dX9_count_90
          · refine r_ite (fun c6 => ?_) (fun c6 => ?_)
            · refine r_tabE (pc := 1) (v := (5 : Int32)) (off := 90) (tgt := 91) C dX9_count_1 c6 (by decide) (by decide) (by decide) (by decide) ?_
              refine r_aldn (pc := 91) C dX9_count_91 0 rfl ?_
              refine gf_X9_0_0 (pc := 92) C hi_X9_count_X9 wd_X9_count_1 dX9_count_92 ?_
              refine gfN_X0_8_1 (pc := 95) C hi_X9_count_X0 nw_36 dX9_count_95 ?_
              refine gfN_X6_1_46 (pc := 98) C hi_X9_count_X6 nw_7 dX9_count_98 ?_
              exact r_iret (pc := 101) C dX9_count_101
            · refine r_ite (fun c7 => ?_) (fun c7 => ?_)
              · refine r_tabE (pc := 1) (v := (6 : Int32)) (off := 101) (tgt := 102) C dX9_count_1 c7 (by decide) (by decide) (by decide) (by decide) ?_
                refine r_aldn (pc := 102) C dX9_count_102 0 rfl ?_
                refine gf_X9_6_0 (pc := 103) C hi_X9_count_X9 wd_X9_count_2 dX9_count_103 ?_
                refine gfN_X8_0_6 (pc := 106) C hi_X9_count_X8 nw_43 dX9_count_106 ?_
                refine gfN_X6_1_57 (pc := 109) C hi_X9_count_X6 nw_7 dX9_count_109 ?_
                exact r_iret (pc := 112) C dX9_count_112
              · refine r_ite (fun c8 => ?_) (fun c8 => ?_)
                · refine r_tabE (pc := 1) (v := (7 : Int32)) (off := 112) (tgt := 113) C dX9_count_1 c8 (by decide) (by decide) (by decide) (by decide) ?_
                  refine r_aldn (pc := 113) C dX9_count_113 0 rfl ?_
                  refine gf_X9_0_0 (pc := 114) C hi_X9_count_X9 wd_X9_count_1 dX9_count_114 ?_
                  refine gfN_X0_6_1 (pc := 117) C hi_X9_count_X0 nw_34 dX9_count_117 ?_
                  exact r_iret (pc := 120) C dX9_count_120
                · refine r_tabO (pc := 1) (tgt := 121) C dX9_count_1 (by have q0 := lv_neT (k := (0 : Int32)) (a := 0) c1 (by decide); have q1 := lv_neT (k := (1 : Int32)) (a := 1) c2 (by decide); have q2 := lv_neT (k := (2 : Int32)) (a := 2) c3 (by decide); have q3 := lv_neT (k := (3 : Int32)) (a := 3) c4 (by decide); have q4 := lv_neT (k := (4 : Int32)) (a := 4) c5 (by decide); have q5 := lv_neT (k := (5 : Int32)) (a := 5) c6 (by decide); have q6 := lv_neT (k := (6 : Int32)) (a := 6) c7 (by decide); have q7 := lv_neT (k := (7 : Int32)) (a := 7) c8 (by decide); omega) (by decide) ?_
                  refine r_aldn (pc := 121) C dX9_count_121 0 rfl ?_
                  refine r_iconst (pc := 122) (v := (1 : Int32)) C dX9_count_122 ic_1 ?_
                  refine k_X9_error (x := x) (pc := 123) (a1 := (1 : Int32)) C gX9_count_X9_error (by omega)  (Nat.le_of_ble_eq_true rfl) dX9_count_123 (fun r10 s9 => ?_)
                  exact r_iret (pc := 126) C dX9_count_126
set_option maxHeartbeats 4000000 in
set_option maxRecDepth 100000 in
theorem v_X9_dates_45_b {κ : oK} {x : oXp} (C : oC κ (oX x) 4 cX9_dates RX9 wsX9_dates 4 (some .int))  (rec45 : Nat → Int32 → Sg → Option (Int32 × Sg)) (hrec45 : ∀ (o2 : Nat) (a3 : Int32) (h1_o2 : 44 ≤ o2) (h2_o2 : o2 < 62) (σ : Sg), oV κ (oX x) 4 (oQi κ (oX x)) σ 45 [(0, .ref (xa x 0)), (2, .ref (xa x o2)), (3, .int a3)] [] (rec45 o2 a3 σ)) (o2 : Nat) (a3 : Int32) (h1_o2 : 44 ≤ o2) (h2_o2 : o2 < 62) (σ : Sg) : oV κ (oX x) 4 (oQi κ (oX x)) σ 45 [(0, .ref (xa x 0)), (2, .ref (xa x o2)), (3, .int a3)] [] (f_X9_dates_45_b   rec45 o2 a3 σ) := by
  unfold f_X9_dates_45_b
  refine r_ildn (pc := 45) C dX9_dates_45 2 rfl ?_
  refine r_aldn (pc := 46) C dX9_dates_46 1 rfl ?_
  refine gfN_X6_1 (pc := 47) C (o := o2) (by omega) (by omega) hi_X9_dates_X6 nw_7 dX9_dates_47 ?_
  refine r_icge (pc := 50) (tgt := 110) C dX9_dates_50 (by decide) ?_ ?_
  · refine r_aldn (pc := 110) C dX9_dates_110 1 rfl ?_
    refine gfN_X6_1 (pc := 111) C (o := o2) (by omega) (by omega) hi_X9_dates_X6 nw_7 dX9_dates_111 ?_
    exact r_iret (pc := 114) C dX9_dates_114
  · refine r_aldn (pc := 53) C dX9_dates_53 0 rfl ?_
    refine gf_X9_0_0 (pc := 54) C hi_X9_dates_X9 wd_X9_dates_2 dX9_dates_54 ?_
    refine r_ildn (pc := 57) C dX9_dates_57 2 rfl ?_
    refine k_X0_hasLine (x := x) (pc := 58) (a1 := a3) C gX9_dates_X0_hasLine (by omega)  (Nat.le_of_ble_eq_true rfl) dX9_dates_58 (fun r2 s1 => ?_)
    refine r_ifeq (pc := 61) (tgt := 84) C dX9_dates_61 (by decide) ?_ ?_
    · refine r_ildn (pc := 84) C dX9_dates_84 2 rfl ?_
      exact r_iret (pc := 85) C dX9_dates_85
    · refine r_aldn (pc := 64) C dX9_dates_64 1 rfl ?_
      refine gfN_X6_0 (pc := 65) C (o := o2) (by omega) (by omega) hi_X9_dates_X6 nw_3 dX9_dates_65 ?_
      refine r_ildn (pc := 68) C dX9_dates_68 2 rfl ?_
      refine iald_oX_cells (pc := 69) C (o := (o2 + 18)) (by omega) (by omega) dX9_dates_69 ?_
      refine r_iconst (pc := 70) (v := (0 : Int32)) C dX9_dates_70 ic_0 ?_
      refine r_aldn (pc := 71) C dX9_dates_71 0 rfl ?_
      refine gf_X9_0_0 (pc := 72) C hi_X9_dates_X9 wd_X9_dates_2 dX9_dates_72 ?_
      refine gfN_X0_2_1 (pc := 75) C hi_X9_dates_X0 nw_29 dX9_dates_75 ?_
      refine kS_X9_isIn (x := x) (pc := 78) (a0 := (rd (s1 (o2 + 18)) a3)) (a1 := (0 : Int32)) (a2 := (s1 1 2)) C gX9_dates_X9_isIn (by omega)  (Nat.le_of_ble_eq_true rfl) dX9_dates_78 (fun r4 s3 => ?_)
      refine r_ifne (pc := 81) (tgt := 86) C dX9_dates_81 (by decide) ?_ ?_
      · refine r_aldn (pc := 86) C dX9_dates_86 0 rfl ?_
        refine gf_X9_0_0 (pc := 87) C hi_X9_dates_X9 wd_X9_dates_2 dX9_dates_87 ?_
        refine gfN_X0_0_1 (pc := 90) C hi_X9_dates_X0 nw_24 dX9_dates_90 ?_
        refine r_ildn (pc := 93) C dX9_dates_93 2 rfl ?_
        refine qa_Ln_14 (pc := 94) C dX9_dates_94 (fun p5 h1_p5 h2_p5 => ?_)
        refine r_aldn (pc := 95) C dX9_dates_95 1 rfl ?_
        refine gfN_X6_0 (pc := 96) C (o := o2) (by omega) (by omega) hi_X9_dates_X6 nw_3 dX9_dates_96 ?_
        refine r_ildn (pc := 99) C dX9_dates_99 2 rfl ?_
        refine iald_oX_cells (pc := 100) C (o := (o2 + 18)) (by omega) (by omega) dX9_dates_100 ?_
        refine pfN_X2_4 (pc := 101) C (o := p5) (by omega) (by omega) hi_X9_dates_X2 nw_19 dX9_dates_101 (fun s6 => ?_)
        refine r_iinc (pc := 104) (v := (1 : Int32)) (lv1 := fun y => [(0, _), (2, _), (3, .int y)]) C dX9_dates_104 ic_1 2 rfl (by decide) [1, 2, 0] (fun _ => rfl) (fun v7 => ?_)
        refine r_goto (pc := 107) (tgt := 45) C dX9_dates_107 (by decide) ?_
        exact hrec45 o2 v7 (by omega) (by omega) s6
      · refine r_ildn (pc := 84) C dX9_dates_84 2 rfl ?_
        exact r_iret (pc := 85) C dX9_dates_85
theorem v_X9_dates_45 {κ : oK} {x : oXp} (C : oC κ (oX x) 4 cX9_dates RX9 wsX9_dates 4 (some .int))  : ∀ (n : Nat) (o2 : Nat) (a3 : Int32) (h1_o2 : 44 ≤ o2) (h2_o2 : o2 < 62) (σ : Sg), oV κ (oX x) 4 (oQi κ (oX x)) σ 45 [(0, .ref (xa x 0)), (2, .ref (xa x o2)), (3, .int a3)] [] (f_X9_dates_45   n o2 a3 σ) := by
  intro n
  induction n with
  | zero => intros; exact r_none
  | succ n ih => exact v_X9_dates_45_b C  _ ih
set_option maxHeartbeats 4000000 in
set_option maxRecDepth 100000 in
theorem m_X9_dates (l : Launch) (x : oXp) (hI : oI (oX x)) (a1 : Int32) (σ : Sg) : oMI l yX9_dates wsX9_dates 4 (oX x) [.ref (xa x 0), .int a1] σ (f_X9_dates  a1 σ) := by
  refine oMI_of (nL := 4) (cc := cX9_dates) hI (by decide +kernel) rfl (Nat.le_of_ble_eq_true rfl) ?_
  intro κ C
  have C : oC κ (oX x) 4 cX9_dates RX9 wsX9_dates 4 (some .int) := C
  unfold f_X9_dates
  show oV κ (oX x) 4 (oQi κ (oX x)) σ 0 [(0, .ref (xa x 0)), (1, .int a1)] [] _
  refine r_ildn (pc := 0) C dX9_dates_0 1 rfl ?_
  refine r_iconst (pc := 1) (v := (0 : Int32)) C dX9_dates_1 ic_0 ?_
  refine r_iconst (pc := 2) (v := (3 : Int32)) C dX9_dates_2 ic_3 ?_
  refine kS_X9_isIn (x := x) (pc := 3) (a0 := a1) (a1 := (0 : Int32)) (a2 := (3 : Int32)) C gX9_dates_X9_isIn (by omega)  (Nat.le_of_ble_eq_true rfl) dX9_dates_3 (fun r9 s8 => ?_)
  refine r_ifne (pc := 6) (tgt := 15) C dX9_dates_6 (by decide) ?_ ?_
  · refine r_aldn (pc := 15) C dX9_dates_15 0 rfl ?_
    refine gf_X9_7_0 (pc := 16) C hi_X9_dates_X9 wd_X9_dates_1 dX9_dates_16 ?_
    refine r_ildn (pc := 19) C dX9_dates_19 1 rfl ?_
    refine qa_Sh_7 (pc := 20) C dX9_dates_20 (fun p10 h1_p10 h2_p10 => ?_)
    refine k_X7_isMissing (x := x) (pc := 21) (o0 := p10) C gX9_dates_X7_isMissing (by omega) (by omega) (by omega) (Nat.le_of_ble_eq_true rfl) dX9_dates_21 (fun r12 s11 => ?_)
    refine r_ifeq (pc := 24) (tgt := 33) C dX9_dates_24 (by decide) ?_ ?_
    · refine r_aldn (pc := 33) C dX9_dates_33 0 rfl ?_
      refine gf_X9_7_0 (pc := 34) C hi_X9_dates_X9 wd_X9_dates_1 dX9_dates_34 ?_
      refine r_ildn (pc := 37) C dX9_dates_37 1 rfl ?_
      refine qa_Sh_7 (pc := 38) C dX9_dates_38 (fun p13 h1_p13 h2_p13 => ?_)
      refine gfN_X7_0 (pc := 39) C (o := p13) (by omega) (by omega) hi_X9_dates_X7 nw_45 dX9_dates_39 ?_
      refine r_astn (pc := 42) (lv' := [(0, _), (2, _)]) C dX9_dates_42 (by decide) [1, 0] rfl ?_
      refine r_iconst (pc := 43) (v := (0 : Int32)) C dX9_dates_43 ic_0 ?_
      refine r_istn (pc := 44) (lv' := [(0, _), (2, _), (3, _)]) C dX9_dates_44 (by decide) [1, 2, 0] rfl ?_
      exact v_X9_dates_45 (x := x) C fuN (p13 + 48) (0 : Int32) (by omega) (by omega) s11
    · refine r_aldn (pc := 27) C dX9_dates_27 0 rfl ?_
      refine r_iconst (pc := 28) (v := (2 : Int32)) C dX9_dates_28 ic_2 ?_
      refine k_X9_error (x := x) (pc := 29) (a1 := (2 : Int32)) C gX9_dates_X9_error (by omega)  (Nat.le_of_ble_eq_true rfl) dX9_dates_29 (fun r15 s14 => ?_)
      exact r_iret (pc := 32) C dX9_dates_32
  · refine r_aldn (pc := 9) C dX9_dates_9 0 rfl ?_
    refine r_iconst (pc := 10) (v := (1 : Int32)) C dX9_dates_10 ic_1 ?_
    refine k_X9_error (x := x) (pc := 11) (a1 := (1 : Int32)) C gX9_dates_X9_error (by omega)  (Nat.le_of_ble_eq_true rfl) dX9_dates_11 (fun r17 s16 => ?_)
    exact r_iret (pc := 14) C dX9_dates_14
set_option maxHeartbeats 4000000 in
set_option maxRecDepth 100000 in
theorem v_X9_days_39_b {κ : oK} {x : oXp} (C : oC κ (oX x) 3 cX9_days RX9 wsX9_days 4 (some .int))  (rec39 : Int32 → Int32 → Sg → Option (Int32 × Sg)) (hrec39 : ∀ (a1 : Int32) (a2 : Int32) (σ : Sg), oV κ (oX x) 3 (oQi κ (oX x)) σ 39 [(0, .ref (xa x 0)), (1, .int a1), (2, .int a2)] [] (rec39 a1 a2 σ)) (a1 : Int32) (a2 : Int32) (σ : Sg) : oV κ (oX x) 3 (oQi κ (oX x)) σ 39 [(0, .ref (xa x 0)), (1, .int a1), (2, .int a2)] [] (f_X9_days_39_b   rec39 a1 a2 σ) := by
  unfold f_X9_days_39_b
  refine r_ildn (pc := 39) C dX9_days_39 2 rfl ?_
  refine r_ildn (pc := 40) C dX9_days_40 1 rfl ?_
  refine r_icge (pc := 41) (tgt := 57) C dX9_days_41 (by decide) ?_ ?_
  · refine r_aldn (pc := 57) C dX9_days_57 0 rfl ?_
    refine gf_X9_0_0 (pc := 58) C hi_X9_days_X9 wd_X9_days_1 dX9_days_58 ?_
    refine gfN_X0_2_1 (pc := 61) C hi_X9_days_X0 nw_29 dX9_days_61 ?_
    exact r_iret (pc := 64) C dX9_days_64
  · refine r_aldn (pc := 44) C dX9_days_44 0 rfl ?_
    refine gf_X9_0_0 (pc := 45) C hi_X9_days_X9 wd_X9_days_1 dX9_days_45 ?_
    refine k_X0_passDay (x := x) (pc := 48)  C gX9_days_X0_passDay (by omega)  (Nat.le_of_ble_eq_true rfl) dX9_days_48 (fun _ s1 => ?_)
    refine r_iinc (pc := 51) (v := (1 : Int32)) (lv1 := fun y => [(0, _), (1, _), (2, .int y)]) C dX9_days_51 ic_1 2 rfl (by decide) [1, 2, 0] (fun _ => rfl) (fun v3 => ?_)
    refine r_goto (pc := 54) (tgt := 39) C dX9_days_54 (by decide) ?_
    exact hrec39 a1 v3 s1
theorem v_X9_days_39 {κ : oK} {x : oXp} (C : oC κ (oX x) 3 cX9_days RX9 wsX9_days 4 (some .int))  : ∀ (n : Nat) (a1 : Int32) (a2 : Int32) (σ : Sg), oV κ (oX x) 3 (oQi κ (oX x)) σ 39 [(0, .ref (xa x 0)), (1, .int a1), (2, .int a2)] [] (f_X9_days_39   n a1 a2 σ) := by
  intro n
  induction n with
  | zero => intros; exact r_none
  | succ n ih => exact v_X9_days_39_b C  _ ih
set_option maxHeartbeats 4000000 in
set_option maxRecDepth 100000 in
theorem m_X9_days (l : Launch) (x : oXp) (hI : oI (oX x)) (a1 : Int32) (σ : Sg) : oMI l yX9_days wsX9_days 4 (oX x) [.ref (xa x 0), .int a1] σ (f_X9_days  a1 σ) := by
  refine oMI_of (nL := 3) (cc := cX9_days) hI (by decide +kernel) rfl (Nat.le_of_ble_eq_true rfl) ?_
  intro κ C
  have C : oC κ (oX x) 3 cX9_days RX9 wsX9_days 4 (some .int) := C
  unfold f_X9_days
  show oV κ (oX x) 3 (oQi κ (oX x)) σ 0 [(0, .ref (xa x 0)), (1, .int a1)] [] _
  refine r_ildn (pc := 0) C dX9_days_0 1 rfl ?_
  refine r_iconst (pc := 1) (v := (1 : Int32)) C dX9_days_1 ic_1 ?_
  refine r_bipush (pc := 2) (v := (90 : Int32)) C dX9_days_2 bp_90 ?_
  refine kS_X9_isIn (x := x) (pc := 4) (a0 := a1) (a1 := (1 : Int32)) (a2 := (90 : Int32)) C gX9_days_X9_isIn (by omega)  (Nat.le_of_ble_eq_true rfl) dX9_days_4 (fun r5 s4 => ?_)
  refine r_ifne (pc := 7) (tgt := 16) C dX9_days_7 (by decide) ?_ ?_
  · refine r_aldn (pc := 16) C dX9_days_16 0 rfl ?_
    refine gf_X9_0_0 (pc := 17) C hi_X9_days_X9 wd_X9_days_1 dX9_days_17 ?_
    refine gfN_X0_2_1 (pc := 20) C hi_X9_days_X0 nw_29 dX9_days_20 ?_
    refine r_ildn (pc := 23) C dX9_days_23 1 rfl ?_
    refine r_iadd (pc := 24) C dX9_days_24 ?_
    refine r_sipush (pc := 25) (v := (9999 : Int32)) C dX9_days_25 sp_9999 ?_
    refine r_icle (pc := 28) (tgt := 37) C dX9_days_28 (by decide) ?_ ?_
    · refine r_iconst (pc := 37) (v := (0 : Int32)) C dX9_days_37 ic_0 ?_
      refine r_istn (pc := 38) (lv' := [(0, _), (1, _), (2, _)]) C dX9_days_38 (by decide) [1, 2, 0] rfl ?_
      exact v_X9_days_39 (x := x) C fuN a1 (0 : Int32) s4
    · refine r_aldn (pc := 31) C dX9_days_31 0 rfl ?_
      refine r_iconst (pc := 32) (v := (3 : Int32)) C dX9_days_32 ic_3 ?_
      refine k_X9_error (x := x) (pc := 33) (a1 := (3 : Int32)) C gX9_days_X9_error (by omega)  (Nat.le_of_ble_eq_true rfl) dX9_days_33 (fun r7 s6 => ?_)
      exact r_iret (pc := 36) C dX9_days_36
  · refine r_aldn (pc := 10) C dX9_days_10 0 rfl ?_
    refine r_iconst (pc := 11) (v := (1 : Int32)) C dX9_days_11 ic_1 ?_
    refine k_X9_error (x := x) (pc := 12) (a1 := (1 : Int32)) C gX9_days_X9_error (by omega)  (Nat.le_of_ble_eq_true rfl) dX9_days_12 (fun r9 s8 => ?_)
    exact r_iret (pc := 15) C dX9_days_15
set_option maxHeartbeats 4000000 in
set_option maxRecDepth 100000 in
theorem v_X9_feed_39_b {κ : oK} {x : oXp} (C : oC κ (oX x) 5 cX9_feed RX9 wsX9_feed 4 (some .int))  (rec39 : Int64 → Int32 → Int32 → Sg → Option (Int32 × Sg)) (hrec39 : ∀ (a1 : Int64) (a3 : Int32) (a4 : Int32) (σ : Sg), oV κ (oX x) 5 (oQi κ (oX x)) σ 39 [(0, .ref (xa x 0)), (1, .long a1), (3, .int a3), (4, .int a4)] [] (rec39 a1 a3 a4 σ)) (a1 : Int64) (a3 : Int32) (a4 : Int32) (σ : Sg) : oV κ (oX x) 5 (oQi κ (oX x)) σ 39 [(0, .ref (xa x 0)), (1, .long a1), (3, .int a3), (4, .int a4)] [] (f_X9_feed_39_b   rec39 a1 a3 a4 σ) := by
  unfold f_X9_feed_39_b
  refine r_ild (pc := 39) C dX9_feed_39 3 rfl ?_
  refine r_ildn (pc := 41) C dX9_feed_41 2 rfl ?_
  refine r_icge (pc := 42) (tgt := 73) C dX9_feed_42 (by decide) ?_ ?_
  · refine r_aldn (pc := 73) C dX9_feed_73 0 rfl ?_
    refine gf_X9_0_0 (pc := 74) C hi_X9_feed_X9 wd_X9_feed_1 dX9_feed_74 ?_
    refine gfN_X0_7_1 (pc := 77) C hi_X9_feed_X0 nw_35 dX9_feed_77 ?_
    refine gfN_X6_1_44 (pc := 80) C hi_X9_feed_X6 nw_7 dX9_feed_80 ?_
    exact r_iret (pc := 83) C dX9_feed_83
  · refine r_aldn (pc := 45) C dX9_feed_45 0 rfl ?_
    refine gf_X9_0_0 (pc := 46) C hi_X9_feed_X9 wd_X9_feed_1 dX9_feed_46 ?_
    refine gfN_X0_7_1 (pc := 49) C hi_X9_feed_X0 nw_35 dX9_feed_49 ?_
    refine r_lldn (pc := 52) C dX9_feed_52 1 rfl ?_
    refine r_bipush (pc := 53) (v := (8 : Int32)) C dX9_feed_53 bp_8 ?_
    refine r_ild (pc := 55) C dX9_feed_55 3 rfl ?_
    refine r_imul (pc := 57) C dX9_feed_57 ?_
    refine r_lushr (pc := 58) C dX9_feed_58 ?_
    refine r_l2i (pc := 59) C dX9_feed_59 ?_
    refine r_sipush (pc := 60) (v := (255 : Int32)) C dX9_feed_60 sp_255 ?_
    refine r_iand (pc := 63) C dX9_feed_63 ?_
    refine k_X6_add (x := x) (pc := 64) (o0 := 44) (a1 := (((lus a1 ((8 : Int32) * a4)).toInt32) &&& (255 : Int32))) C gX9_feed_X6_add (by omega) (by omega) (by omega) (Nat.le_of_ble_eq_true rfl) dX9_feed_64 (fun _ s1 => ?_)
    refine r_iinc (pc := 67) (v := (1 : Int32)) (lv1 := fun y => [(0, _), (1, _), (3, _), (4, .int y)]) C dX9_feed_67 ic_1 3 rfl (by decide) [1, 2, 3, 0] (fun _ => rfl) (fun v3 => ?_)
    refine r_goto (pc := 70) (tgt := 39) C dX9_feed_70 (by decide) ?_
    exact hrec39 a1 a3 v3 s1
theorem v_X9_feed_39 {κ : oK} {x : oXp} (C : oC κ (oX x) 5 cX9_feed RX9 wsX9_feed 4 (some .int))  : ∀ (n : Nat) (a1 : Int64) (a3 : Int32) (a4 : Int32) (σ : Sg), oV κ (oX x) 5 (oQi κ (oX x)) σ 39 [(0, .ref (xa x 0)), (1, .long a1), (3, .int a3), (4, .int a4)] [] (f_X9_feed_39   n a1 a3 a4 σ) := by
  intro n
  induction n with
  | zero => intros; exact r_none
  | succ n ih => exact v_X9_feed_39_b C  _ ih
set_option maxHeartbeats 4000000 in
set_option maxRecDepth 100000 in
theorem m_X9_feed (l : Launch) (x : oXp) (hI : oI (oX x)) (a1 : Int64) (a3 : Int32) (σ : Sg) : oMI l yX9_feed wsX9_feed 4 (oX x) [.ref (xa x 0), .long a1, .int a3] σ (f_X9_feed  a1 a3 σ) := by
  refine oMI_of (nL := 5) (cc := cX9_feed) hI (by decide +kernel) rfl (Nat.le_of_ble_eq_true rfl) ?_
  intro κ C
  have C : oC κ (oX x) 5 cX9_feed RX9 wsX9_feed 4 (some .int) := C
  unfold f_X9_feed
  show oV κ (oX x) 5 (oQi κ (oX x)) σ 0 [(0, .ref (xa x 0)), (1, .long a1), (3, .int a3)] [] _
  refine r_ildn (pc := 0) C dX9_feed_0 2 rfl ?_
  refine r_iconst (pc := 1) (v := (1 : Int32)) C dX9_feed_1 ic_1 ?_
  refine r_bipush (pc := 2) (v := (8 : Int32)) C dX9_feed_2 bp_8 ?_
  refine kS_X9_isIn (x := x) (pc := 4) (a0 := a3) (a1 := (1 : Int32)) (a2 := (8 : Int32)) C gX9_feed_X9_isIn (by omega)  (Nat.le_of_ble_eq_true rfl) dX9_feed_4 (fun r5 s4 => ?_)
  refine r_ifne (pc := 7) (tgt := 16) C dX9_feed_7 (by decide) ?_ ?_
  · refine r_aldn (pc := 16) C dX9_feed_16 0 rfl ?_
    refine gf_X9_0_0 (pc := 17) C hi_X9_feed_X9 wd_X9_feed_1 dX9_feed_17 ?_
    refine gfN_X0_7_1 (pc := 20) C hi_X9_feed_X0 nw_35 dX9_feed_20 ?_
    refine r_ildn (pc := 23) C dX9_feed_23 2 rfl ?_
    refine k_X6_hasRoomFor (x := x) (pc := 24) (o0 := 44) (a1 := a3) C gX9_feed_X6_hasRoomFor (by omega) (by omega) (by omega) (Nat.le_of_ble_eq_true rfl) dX9_feed_24 (fun r7 s6 => ?_)
    refine r_ifne (pc := 27) (tgt := 36) C dX9_feed_27 (by decide) ?_ ?_
    · refine r_iconst (pc := 36) (v := (0 : Int32)) C dX9_feed_36 ic_0 ?_
      refine r_ist (pc := 37) (lv' := [(0, _), (1, _), (3, _), (4, _)]) C dX9_feed_37 (by decide) [1, 2, 3, 0] rfl ?_
      exact v_X9_feed_39 (x := x) C fuN a1 a3 (0 : Int32) s6
    · refine r_aldn (pc := 30) C dX9_feed_30 0 rfl ?_
      refine r_iconst (pc := 31) (v := (4 : Int32)) C dX9_feed_31 ic_4 ?_
      refine k_X9_error (x := x) (pc := 32) (a1 := (4 : Int32)) C gX9_feed_X9_error (by omega)  (Nat.le_of_ble_eq_true rfl) dX9_feed_32 (fun r9 s8 => ?_)
      exact r_iret (pc := 35) C dX9_feed_35
  · refine r_aldn (pc := 10) C dX9_feed_10 0 rfl ?_
    refine r_iconst (pc := 11) (v := (1 : Int32)) C dX9_feed_11 ic_1 ?_
    refine k_X9_error (x := x) (pc := 12) (a1 := (1 : Int32)) C gX9_feed_X9_error (by omega)  (Nat.le_of_ble_eq_true rfl) dX9_feed_12 (fun r11 s10 => ?_)
    exact r_iret (pc := 15) C dX9_feed_15
set_option maxHeartbeats 4000000 in
set_option maxRecDepth 100000 in
theorem v_X9_isSet_2_b {κ : oK} {x : oXp} (C : oC κ (oX x) 3 cX9_isSet RX9 wsX9_isSet 3 (some .boolean))  (rec2 : Nat → Int32 → Int32 → Sg → Option (Int32 × Sg)) (hrec2 : ∀ (o0 : Nat) (a1 : Int32) (a2 : Int32) (h1_o0 : 44 ≤ o0) (h2_o0 : o0 < 62) (σ : Sg), oV κ (oX x) 3 (oQi κ (oX x)) σ 2 [(0, .ref (xa x o0)), (1, .int a1), (2, .int a2)] [] (rec2 o0 a1 a2 σ)) (o0 : Nat) (a1 : Int32) (a2 : Int32) (h1_o0 : 44 ≤ o0) (h2_o0 : o0 < 62) (σ : Sg) : oV κ (oX x) 3 (oQi κ (oX x)) σ 2 [(0, .ref (xa x o0)), (1, .int a1), (2, .int a2)] [] (f_X9_isSet_2_b   rec2 o0 a1 a2 σ) := by
  unfold f_X9_isSet_2_b
  refine r_ildn (pc := 2) C dX9_isSet_2 2 rfl ?_
  refine r_aldn (pc := 3) C dX9_isSet_3 0 rfl ?_
  refine gfN_X6_1 (pc := 4) C (o := o0) (by omega) (by omega) hi_X9_isSet_X6 nw_7 dX9_isSet_4 ?_
  refine r_icge (pc := 7) (tgt := 32) C dX9_isSet_7 (by decide) ?_ ?_
  · refine r_iconst (pc := 32) (v := (1 : Int32)) C dX9_isSet_32 ic_1 ?_
    exact r_zret (pc := 33) C (by decide) dX9_isSet_33
  · refine r_aldn (pc := 10) C dX9_isSet_10 0 rfl ?_
    refine gfN_X6_0 (pc := 11) C (o := o0) (by omega) (by omega) hi_X9_isSet_X6 nw_3 dX9_isSet_11 ?_
    refine r_ildn (pc := 14) C dX9_isSet_14 2 rfl ?_
    refine iald_oX_cells (pc := 15) C (o := (o0 + 18)) (by omega) (by omega) dX9_isSet_15 ?_
    refine r_ildn (pc := 16) C dX9_isSet_16 1 rfl ?_
    refine r_ildn (pc := 17) C dX9_isSet_17 2 rfl ?_
    refine r_ishr (pc := 18) C dX9_isSet_18 ?_
    refine r_iconst (pc := 19) (v := (1 : Int32)) C dX9_isSet_19 ic_1 ?_
    refine r_iand (pc := 20) C dX9_isSet_20 ?_
    refine r_iceq (pc := 21) (tgt := 26) C dX9_isSet_21 (by decide) ?_ ?_
    · refine r_iinc (pc := 26) (v := (1 : Int32)) (lv1 := fun y => [(0, _), (1, _), (2, .int y)]) C dX9_isSet_26 ic_1 2 rfl (by decide) [1, 2, 0] (fun _ => rfl) (fun v1 => ?_)
      refine r_goto (pc := 29) (tgt := 2) C dX9_isSet_29 (by decide) ?_
      exact hrec2 o0 a1 v1 (by omega) (by omega) σ
    · refine r_iconst (pc := 24) (v := (0 : Int32)) C dX9_isSet_24 ic_0 ?_
      exact r_zret (pc := 25) C (by decide) dX9_isSet_25
theorem v_X9_isSet_2 {κ : oK} {x : oXp} (C : oC κ (oX x) 3 cX9_isSet RX9 wsX9_isSet 3 (some .boolean))  : ∀ (n : Nat) (o0 : Nat) (a1 : Int32) (a2 : Int32) (h1_o0 : 44 ≤ o0) (h2_o0 : o0 < 62) (σ : Sg), oV κ (oX x) 3 (oQi κ (oX x)) σ 2 [(0, .ref (xa x o0)), (1, .int a1), (2, .int a2)] [] (f_X9_isSet_2   n o0 a1 a2 σ) := by
  intro n
  induction n with
  | zero => intros; exact r_none
  | succ n ih => exact v_X9_isSet_2_b C  _ ih
set_option maxHeartbeats 4000000 in
set_option maxRecDepth 100000 in
theorem m_X9_isSet (l : Launch) (x : oXp) (hI : oI (oX x)) (o0 : Nat) (a1 : Int32) (h1_o0 : 44 ≤ o0) (h2_o0 : o0 < 62) (σ : Sg) : oMI l yX9_isSet wsX9_isSet 3 (oX x) [.ref (xa x o0), .int a1] σ (f_X9_isSet  o0 a1 σ) := by
  refine oMI_of (nL := 3) (cc := cX9_isSet) hI (by decide +kernel) rfl (Nat.le_of_ble_eq_true rfl) ?_
  intro κ C
  have C : oC κ (oX x) 3 cX9_isSet RX9 wsX9_isSet 3 (some .boolean) := C
  unfold f_X9_isSet
  show oV κ (oX x) 3 (oQi κ (oX x)) σ 0 [(0, .ref (xa x o0)), (1, .int a1)] [] _
  refine r_iconst (pc := 0) (v := (0 : Int32)) C dX9_isSet_0 ic_0 ?_
  refine r_istn (pc := 1) (lv' := [(0, _), (1, _), (2, _)]) C dX9_isSet_1 (by decide) [1, 2, 0] rfl ?_
  exact v_X9_isSet_2 (x := x) C fuN o0 a1 (0 : Int32) (by omega) (by omega) σ
theorem kS_X9_isSet {κ : oK} {nL : Nat} {cc : ByteArray} {own : String} {Ts : List Cond} {n : Nat} {ret : Option FieldType} {α : Type} {Q : α → Sg → State → Prop} {σ : Sg} {pc : Nat} {lv : List (Nat × Value)} {st : List Value} {x : oXp} {idx : Nat} {o0 : Nat} {a1 : Int32} {K : Int32 → Sg → Option (α × Sg)} (C : oC κ (oX x) nL cc own Ts n ret) (hG : GoodIn Ts (va_wsS own idx yX9_isSet wsX9_isSet)) (hn : 3 + 1 ≤ n) (h1_o0 : 44 ≤ o0) (h2_o0 : o0 < 62) (hst : (st.map fun v => v.category).sum ≤ 8) (hd : decode cc pc = .ok (.invokestatic idx, 3)) (kk : ∀ (r1 : Int32) (σ1 : Sg), oV κ (oX x) nL Q σ1 (pc + 3) lv (.int r1 :: st) (K r1 σ1)) : oV κ (oX x) nL Q σ pc lv (.int a1 :: .ref (xa x o0) :: st) (bnd (f_X9_isSet o0 a1 σ) K) := by
  have hI : oI (oX x) := oC_I C
  exact r_cSi (As := [.ref (xa x o0), .int a1]) (na := 2) C (fun l => m_X9_isSet l x hI o0 a1 h1_o0 h2_o0 σ) hG rfl (by decide +kernel) rfl (by decide) hn hst hd kk
set_option maxHeartbeats 4000000 in
set_option maxRecDepth 100000 in
theorem v_X9_fits_52_b {κ : oK} {x : oXp} (C : oC κ (oX x) 3 cX9_fits RX9 wsX9_fits 6 (some .int))  (rec52 : Int32 → Int32 → Sg → Option (Int32 × Sg)) (hrec52 : ∀ (a1 : Int32) (a2 : Int32) (σ : Sg), oV κ (oX x) 3 (oQi κ (oX x)) σ 52 [(0, .ref (xa x 0)), (1, .int a1), (2, .int a2)] [] (rec52 a1 a2 σ)) (a1 : Int32) (a2 : Int32) (σ : Sg) : oV κ (oX x) 3 (oQi κ (oX x)) σ 52 [(0, .ref (xa x 0)), (1, .int a1), (2, .int a2)] [] (f_X9_fits_52_b   rec52 a1 a2 σ) := by
  unfold f_X9_fits_52_b
  refine r_ildn (pc := 52) C dX9_fits_52 2 rfl ?_
  refine r_bipush (pc := 53) (v := (90 : Int32)) C dX9_fits_53 bp_90 ?_
  refine r_icgt (pc := 55) (tgt := 89) C dX9_fits_55 (by decide) ?_ ?_
  · refine r_aldn (pc := 89) C dX9_fits_89 0 rfl ?_
    refine r_iconst (pc := 90) (v := (2 : Int32)) C dX9_fits_90 ic_2 ?_
    refine k_X9_error (x := x) (pc := 91) (a1 := (2 : Int32)) C gX9_fits_X9_error (by omega)  (Nat.le_of_ble_eq_true rfl) dX9_fits_91 (fun r2 s1 => ?_)
    exact r_iret (pc := 94) C dX9_fits_94
  · refine r_aldn (pc := 58) C dX9_fits_58 0 rfl ?_
    refine gf_X9_7_0 (pc := 59) C hi_X9_fits_X9 wd_X9_fits_1 dX9_fits_59 ?_
    refine r_ildn (pc := 62) C dX9_fits_62 1 rfl ?_
    refine qa_Sh_7 (pc := 63) C dX9_fits_63 (fun p3 h1_p3 h2_p3 => ?_)
    refine gfN_X7_0 (pc := 64) C (o := p3) (by omega) (by omega) hi_X9_fits_X7 nw_45 dX9_fits_64 ?_
    refine r_aldn (pc := 67) C dX9_fits_67 0 rfl ?_
    refine gf_X9_0_0 (pc := 68) C hi_X9_fits_X9 wd_X9_fits_2 dX9_fits_68 ?_
    refine r_ildn (pc := 71) C dX9_fits_71 2 rfl ?_
    refine k_X0_takenBehind (x := x) (pc := 72) (a1 := a2) C gX9_fits_X0_takenBehind (by omega)  (Nat.le_of_ble_eq_true rfl) dX9_fits_72 (fun r5 s4 => ?_)
    refine kS_X9_isSet (x := x) (pc := 75) (o0 := (p3 + 48)) (a1 := r5) C gX9_fits_X9_isSet (by omega) (by omega) (by omega) (Nat.le_of_ble_eq_true rfl) dX9_fits_75 (fun r7 s6 => ?_)
    refine r_ifeq (pc := 78) (tgt := 83) C dX9_fits_78 (by decide) ?_ ?_
    · refine r_iinc (pc := 83) (v := (1 : Int32)) (lv1 := fun y => [(0, _), (1, _), (2, .int y)]) C dX9_fits_83 ic_1 2 rfl (by decide) [1, 2, 0] (fun _ => rfl) (fun v8 => ?_)
      refine r_goto (pc := 86) (tgt := 52) C dX9_fits_86 (by decide) ?_
      exact hrec52 a1 v8 s6
    · refine r_ildn (pc := 81) C dX9_fits_81 2 rfl ?_
      exact r_iret (pc := 82) C dX9_fits_82
theorem v_X9_fits_52 {κ : oK} {x : oXp} (C : oC κ (oX x) 3 cX9_fits RX9 wsX9_fits 6 (some .int))  : ∀ (n : Nat) (a1 : Int32) (a2 : Int32) (σ : Sg), oV κ (oX x) 3 (oQi κ (oX x)) σ 52 [(0, .ref (xa x 0)), (1, .int a1), (2, .int a2)] [] (f_X9_fits_52   n a1 a2 σ) := by
  intro n
  induction n with
  | zero => intros; exact r_none
  | succ n ih => exact v_X9_fits_52_b C  _ ih
set_option maxHeartbeats 4000000 in
set_option maxRecDepth 100000 in
theorem m_X9_fits (l : Launch) (x : oXp) (hI : oI (oX x)) (a1 : Int32) (σ : Sg) : oMI l yX9_fits wsX9_fits 6 (oX x) [.ref (xa x 0), .int a1] σ (f_X9_fits  a1 σ) := by
  refine oMI_of (nL := 3) (cc := cX9_fits) hI (by decide +kernel) rfl (Nat.le_of_ble_eq_true rfl) ?_
  intro κ C
  have C : oC κ (oX x) 3 cX9_fits RX9 wsX9_fits 6 (some .int) := C
  unfold f_X9_fits
  show oV κ (oX x) 3 (oQi κ (oX x)) σ 0 [(0, .ref (xa x 0)), (1, .int a1)] [] _
  refine r_ildn (pc := 0) C dX9_fits_0 1 rfl ?_
  refine r_iconst (pc := 1) (v := (0 : Int32)) C dX9_fits_1 ic_0 ?_
  refine r_iconst (pc := 2) (v := (3 : Int32)) C dX9_fits_2 ic_3 ?_
  refine kS_X9_isIn (x := x) (pc := 3) (a0 := a1) (a1 := (0 : Int32)) (a2 := (3 : Int32)) C gX9_fits_X9_isIn (by omega)  (Nat.le_of_ble_eq_true rfl) dX9_fits_3 (fun r10 s9 => ?_)
  refine r_ifne (pc := 6) (tgt := 15) C dX9_fits_6 (by decide) ?_ ?_
  · refine r_aldn (pc := 15) C dX9_fits_15 0 rfl ?_
    refine gf_X9_7_0 (pc := 16) C hi_X9_fits_X9 wd_X9_fits_1 dX9_fits_16 ?_
    refine r_ildn (pc := 19) C dX9_fits_19 1 rfl ?_
    refine qa_Sh_7 (pc := 20) C dX9_fits_20 (fun p11 h1_p11 h2_p11 => ?_)
    refine k_X7_isMissing (x := x) (pc := 21) (o0 := p11) C gX9_fits_X7_isMissing (by omega) (by omega) (by omega) (Nat.le_of_ble_eq_true rfl) dX9_fits_21 (fun r13 s12 => ?_)
    refine r_ifne (pc := 24) (tgt := 44) C dX9_fits_24 (by decide) ?_ ?_
    · refine r_aldn (pc := 44) C dX9_fits_44 0 rfl ?_
      refine r_iconst (pc := 45) (v := (2 : Int32)) C dX9_fits_45 ic_2 ?_
      refine k_X9_error (x := x) (pc := 46) (a1 := (2 : Int32)) C gX9_fits_X9_error (by omega)  (Nat.le_of_ble_eq_true rfl) dX9_fits_46 (fun r15 s14 => ?_)
      exact r_iret (pc := 49) C dX9_fits_49
    · refine r_aldn (pc := 27) C dX9_fits_27 0 rfl ?_
      refine gf_X9_7_0 (pc := 28) C hi_X9_fits_X9 wd_X9_fits_1 dX9_fits_28 ?_
      refine r_ildn (pc := 31) C dX9_fits_31 1 rfl ?_
      refine qa_Sh_7 (pc := 32) C dX9_fits_32 (fun p16 h1_p16 h2_p16 => ?_)
      refine gfN_X7_0 (pc := 33) C (o := p16) (by omega) (by omega) hi_X9_fits_X7 nw_45 dX9_fits_33 ?_
      refine gfN_X6_1 (pc := 36) C (o := (p16 + 48)) (by omega) (by omega) hi_X9_fits_X6 nw_7 dX9_fits_36 ?_
      refine r_bipush (pc := 39) (v := (12 : Int32)) C dX9_fits_39 bp_12 ?_
      refine r_icle (pc := 41) (tgt := 50) C dX9_fits_41 (by decide) ?_ ?_
      · refine r_iconst (pc := 50) (v := (0 : Int32)) C dX9_fits_50 ic_0 ?_
        refine r_istn (pc := 51) (lv' := [(0, _), (1, _), (2, _)]) C dX9_fits_51 (by decide) [1, 2, 0] rfl ?_
        exact v_X9_fits_52 (x := x) C fuN a1 (0 : Int32) s12
      · refine r_aldn (pc := 44) C dX9_fits_44 0 rfl ?_
        refine r_iconst (pc := 45) (v := (2 : Int32)) C dX9_fits_45 ic_2 ?_
        refine k_X9_error (x := x) (pc := 46) (a1 := (2 : Int32)) C gX9_fits_X9_error (by omega)  (Nat.le_of_ble_eq_true rfl) dX9_fits_46 (fun r18 s17 => ?_)
        exact r_iret (pc := 49) C dX9_fits_49
  · refine r_aldn (pc := 9) C dX9_fits_9 0 rfl ?_
    refine r_iconst (pc := 10) (v := (1 : Int32)) C dX9_fits_10 ic_1 ?_
    refine k_X9_error (x := x) (pc := 11) (a1 := (1 : Int32)) C gX9_fits_X9_error (by omega)  (Nat.le_of_ble_eq_true rfl) dX9_fits_11 (fun r20 s19 => ?_)
    exact r_iret (pc := 14) C dX9_fits_14
set_option maxHeartbeats 4000000 in
set_option maxRecDepth 100000 in
theorem v_X9_longestFree_3_b {κ : oK} {x : oXp} (C : oC κ (oX x) 2 cX9_longestFree RX9 wsX9_longestFree 5 (some .int))  (rec3 : Int32 → Int32 → Sg → Option (Int32 × Sg)) (hrec3 : ∀ (a0 : Int32) (a1 : Int32) (σ : Sg), oV κ (oX x) 2 (oQi κ (oX x)) σ 3 [(0, .int a0), (1, .int a1)] [] (rec3 a0 a1 σ)) (a0 : Int32) (a1 : Int32) (σ : Sg) : oV κ (oX x) 2 (oQi κ (oX x)) σ 3 [(0, .int a0), (1, .int a1)] [] (f_X9_longestFree_3_b   rec3 a0 a1 σ) := by
  unfold f_X9_longestFree_3_b
  refine r_ildn (pc := 3) C dX9_longestFree_3 1 rfl ?_
  refine r_ifle (pc := 4) (tgt := 27) C dX9_longestFree_4 (by decide) ?_ ?_
  · refine r_iconst (pc := 27) (v := (0 : Int32)) C dX9_longestFree_27 ic_0 ?_
    exact r_iret (pc := 28) C dX9_longestFree_28
  · refine r_ildn (pc := 7) C dX9_longestFree_7 0 rfl ?_
    refine r_iconst (pc := 8) (v := (0 : Int32)) C dX9_longestFree_8 ic_0 ?_
    refine r_ildn (pc := 9) C dX9_longestFree_9 1 rfl ?_
    refine kS_X9_freeEnd (x := x) (pc := 10) (a0 := a0) (a1 := (0 : Int32)) (a2 := a1) C gX9_longestFree_X9_freeEnd (by omega)  (Nat.le_of_ble_eq_true rfl) dX9_longestFree_10 (fun r2 s1 => ?_)
    refine r_ldcw (pc := 13) (v := (1000000 : Int32)) C dX9_longestFree_13 wd_X9_longestFree_1 ?_
    refine r_iceq (pc := 16) (tgt := 21) C dX9_longestFree_16 (by decide) ?_ ?_
    · refine r_iinc (pc := 21) (v := (-1 : Int32)) (lv1 := fun y => [(0, _), (1, .int y)]) C dX9_longestFree_21 ic_m1 1 rfl (by decide) [1, 0] (fun _ => rfl) (fun v3 => ?_)
      refine r_goto (pc := 24) (tgt := 3) C dX9_longestFree_24 (by decide) ?_
      exact hrec3 a0 v3 s1
    · refine r_ildn (pc := 19) C dX9_longestFree_19 1 rfl ?_
      exact r_iret (pc := 20) C dX9_longestFree_20
theorem v_X9_longestFree_3 {κ : oK} {x : oXp} (C : oC κ (oX x) 2 cX9_longestFree RX9 wsX9_longestFree 5 (some .int))  : ∀ (n : Nat) (a0 : Int32) (a1 : Int32) (σ : Sg), oV κ (oX x) 2 (oQi κ (oX x)) σ 3 [(0, .int a0), (1, .int a1)] [] (f_X9_longestFree_3   n a0 a1 σ) := by
  intro n
  induction n with
  | zero => intros; exact r_none
  | succ n ih => exact v_X9_longestFree_3_b C  _ ih
set_option maxHeartbeats 4000000 in
set_option maxRecDepth 100000 in
theorem m_X9_longestFree (l : Launch) (x : oXp) (hI : oI (oX x)) (a0 : Int32) (σ : Sg) : oMI l yX9_longestFree wsX9_longestFree 5 (oX x) [.int a0] σ (f_X9_longestFree  a0 σ) := by
  refine oMI_of (nL := 2) (cc := cX9_longestFree) hI (by decide +kernel) rfl (Nat.le_of_ble_eq_true rfl) ?_
  intro κ C
  have C : oC κ (oX x) 2 cX9_longestFree RX9 wsX9_longestFree 5 (some .int) := C
  unfold f_X9_longestFree
  show oV κ (oX x) 2 (oQi κ (oX x)) σ 0 [(0, .int a0)] [] _
  refine r_bipush (pc := 0) (v := (12 : Int32)) C dX9_longestFree_0 bp_12 ?_
  refine r_istn (pc := 2) (lv' := [(0, _), (1, _)]) C dX9_longestFree_2 (by decide) [1, 0] rfl ?_
  exact v_X9_longestFree_3 (x := x) C fuN a0 (12 : Int32) σ
theorem kS_X9_longestFree {κ : oK} {nL : Nat} {cc : ByteArray} {own : String} {Ts : List Cond} {n : Nat} {ret : Option FieldType} {α : Type} {Q : α → Sg → State → Prop} {σ : Sg} {pc : Nat} {lv : List (Nat × Value)} {st : List Value} {x : oXp} {idx : Nat} {a0 : Int32} {K : Int32 → Sg → Option (α × Sg)} (C : oC κ (oX x) nL cc own Ts n ret) (hG : GoodIn Ts (va_wsS own idx yX9_longestFree wsX9_longestFree)) (hn : 5 + 1 ≤ n) (hst : (st.map fun v => v.category).sum ≤ 8) (hd : decode cc pc = .ok (.invokestatic idx, 3)) (kk : ∀ (r1 : Int32) (σ1 : Sg), oV κ (oX x) nL Q σ1 (pc + 3) lv (.int r1 :: st) (K r1 σ1)) : oV κ (oX x) nL Q σ pc lv (.int a0 :: st) (bnd (f_X9_longestFree a0 σ) K) := by
  have hI : oI (oX x) := oC_I C
  exact r_cSi (As := [.int a0]) (na := 1) C (fun l => m_X9_longestFree l x hI a0 σ) hG rfl (by decide +kernel) rfl (by decide) hn hst hd kk
set_option maxHeartbeats 4000000 in
set_option maxRecDepth 100000 in
theorem m_X9_free (l : Launch) (x : oXp) (hI : oI (oX x)) (a1 : Int32) (σ : Sg) : oMI l yX9_free wsX9_free 7 (oX x) [.ref (xa x 0), .int a1] σ (f_X9_free  a1 σ) := by
  refine oMI_of (nL := 4) (cc := cX9_free) hI (by decide +kernel) rfl (Nat.le_of_ble_eq_true rfl) ?_
  intro κ C
  have C : oC κ (oX x) 4 cX9_free RX9 wsX9_free 7 (some .int) := C
  unfold f_X9_free
  show oV κ (oX x) 4 (oQi κ (oX x)) σ 0 [(0, .ref (xa x 0)), (1, .int a1)] [] _
  refine r_aldn (pc := 0) C dX9_free_0 0 rfl ?_
  refine gf_X9_0_0 (pc := 1) C hi_X9_free_X9 wd_X9_free_1 dX9_free_1 ?_
  refine k_X0_taken (x := x) (pc := 4)  C gX9_free_X0_taken (by omega)  (Nat.le_of_ble_eq_true rfl) dX9_free_4 (fun r2 s1 => ?_)
  refine r_istn (pc := 7) (lv' := [(0, _), (1, _), (2, _)]) C dX9_free_7 (by decide) [1, 2, 0] rfl ?_
  refine r_ildn (pc := 8) C dX9_free_8 1 rfl ?_
  refine r_ite (fun c3 => ?_) (fun c3 => ?_)
  · refine r_tabE (pc := 9) (v := (0 : Int32)) (off := 31) (tgt := 40) C dX9_free_9 c3 (by decide) (by decide) (by decide) (by decide) ?_
    refine r_ildn (pc := 40) C dX9_free_40 2 rfl ?_
    exact r_iret (pc := 41) C dX9_free_41
  · refine r_ite (fun c4 => ?_) (fun c4 => ?_)
    · refine r_tabE (pc := 9) (v := (1 : Int32)) (off := 33) (tgt := 42) C dX9_free_9 c4 (by decide) (by decide) (by decide) (by decide) ?_
      refine r_bipush (pc := 42) (v := (12 : Int32)) C dX9_free_42 bp_12 ?_
      refine r_ildn (pc := 44) C dX9_free_44 2 rfl ?_
      refine kS_J6_bitCount_0f7a4 (x := x) (pc := 45) (a0 := r2) C gX9_free_J6_bitCount_0f7a4 (by omega)  (Nat.le_of_ble_eq_true rfl) dX9_free_45 (fun r6 s5 => ?_)
      refine r_isub (pc := 48) C dX9_free_48 ?_
      exact r_iret (pc := 49) C dX9_free_49
    · refine r_ite (fun c7 => ?_) (fun c7 => ?_)
      · refine r_tabE (pc := 9) (v := (2 : Int32)) (off := 41) (tgt := 50) C dX9_free_9 c7 (by decide) (by decide) (by decide) (by decide) ?_
        refine r_ildn (pc := 50) C dX9_free_50 2 rfl ?_
        refine kS_X9_longestFree (x := x) (pc := 51) (a0 := r2) C gX9_free_X9_longestFree (by omega)  (Nat.le_of_ble_eq_true rfl) dX9_free_51 (fun r9 s8 => ?_)
        exact r_iret (pc := 54) C dX9_free_54
      · refine r_ite (fun c10 => ?_) (fun c10 => ?_)
        · refine r_tabE (pc := 9) (v := (3 : Int32)) (off := 46) (tgt := 55) C dX9_free_9 c10 (by decide) (by decide) (by decide) (by decide) ?_
          refine r_ildn (pc := 55) C dX9_free_55 2 rfl ?_
          refine kS_X9_longestFree (x := x) (pc := 56) (a0 := r2) C gX9_free_X9_longestFree (by omega)  (Nat.le_of_ble_eq_true rfl) dX9_free_56 (fun r12 s11 => ?_)
          refine r_istn (pc := 59) (lv' := [(0, _), (2, _), (3, _)]) C dX9_free_59 (by decide) [1, 3, 0] rfl ?_
          refine r_ildn (pc := 60) C dX9_free_60 2 rfl ?_
          refine r_ifne (pc := 61) (tgt := 72) C dX9_free_61 (by decide) ?_ ?_
          · refine r_ildn (pc := 72) C dX9_free_72 1 rfl ?_
            refine r_iconst (pc := 73) (v := (0 : Int32)) C dX9_free_73 ic_0 ?_
            refine r_ildn (pc := 74) C dX9_free_74 2 rfl ?_
            refine kS_X9_freeEnd (x := x) (pc := 75) (a0 := r2) (a1 := (0 : Int32)) (a2 := r12) C gX9_free_X9_freeEnd (by omega)  (Nat.le_of_ble_eq_true rfl) dX9_free_75 (fun r14 s13 => ?_)
            refine r_ildn (pc := 78) C dX9_free_78 2 rfl ?_
            refine r_isub (pc := 79) C dX9_free_79 ?_
            exact r_iret (pc := 80) C dX9_free_80
          · refine r_aldn (pc := 64) C dX9_free_64 0 rfl ?_
            refine r_iconst (pc := 65) (v := (2 : Int32)) C dX9_free_65 ic_2 ?_
            refine k_X9_error (x := x) (pc := 66) (a1 := (2 : Int32)) C gX9_free_X9_error (by omega)  (Nat.le_of_ble_eq_true rfl) dX9_free_66 (fun r16 s15 => ?_)
            refine r_goto (pc := 69) (tgt := 80) C dX9_free_69 (by decide) ?_
            exact r_iret (pc := 80) C dX9_free_80
        · refine r_tabO (pc := 9) (tgt := 81) C dX9_free_9 (by have q0 := lv_neT (k := (0 : Int32)) (a := 0) c3 (by decide); have q1 := lv_neT (k := (1 : Int32)) (a := 1) c4 (by decide); have q2 := lv_neT (k := (2 : Int32)) (a := 2) c7 (by decide); have q3 := lv_neT (k := (3 : Int32)) (a := 3) c10 (by decide); omega) (by decide) ?_
          refine r_aldn (pc := 81) C dX9_free_81 0 rfl ?_
          refine r_iconst (pc := 82) (v := (1 : Int32)) C dX9_free_82 ic_1 ?_
          refine k_X9_error (x := x) (pc := 83) (a1 := (1 : Int32)) C gX9_free_X9_error (by omega)  (Nat.le_of_ble_eq_true rfl) dX9_free_83 (fun r18 s17 => ?_)
          exact r_iret (pc := 86) C dX9_free_86
set_option maxHeartbeats 4000000 in
set_option maxRecDepth 100000 in
theorem m_X9_image (l : Launch) (x : oXp) (hI : oI (oX x))  (σ : Sg) : oMI l yX9_image wsX9_image 7 (oX x) [.ref (xa x 0)] σ (f_X9_image   σ) := by
  refine oMI_of (nL := 1) (cc := cX9_image) hI (by decide +kernel) rfl (Nat.le_of_ble_eq_true rfl) ?_
  intro κ C
  have C : oC κ (oX x) 1 cX9_image RX9 wsX9_image 7 (some .int) := C
  unfold f_X9_image
  show oV κ (oX x) 1 (oQi κ (oX x)) σ 0 [(0, .ref (xa x 0))] [] _
  refine r_aldn (pc := 0) C dX9_image_0 0 rfl ?_
  refine gf_X9_1_0 (pc := 1) C hi_X9_image_X9 wd_X9_image_1 dX9_image_1 ?_
  refine r_aldn (pc := 4) C dX9_image_4 0 rfl ?_
  refine gf_X9_0_0 (pc := 5) C hi_X9_image_X9 wd_X9_image_2 dX9_image_5 ?_
  refine k_X0_copyFrom (x := x) (pc := 8) (o0 := 2) (o1 := 1) C gX9_image_X0_copyFrom (by omega) (by omega) (by omega) (by omega) (by omega) (Nat.le_of_ble_eq_true rfl) dX9_image_8 (fun _ s1 => ?_)
  refine r_aldn (pc := 11) C dX9_image_11 0 rfl ?_
  refine r_dup (pc := 12) C dX9_image_12 rfl ?_
  refine gf_X9_2_0 (pc := 13) C hi_X9_image_X9 wd_X9_image_3 dX9_image_13 ?_
  refine r_iconst (pc := 16) (v := (1 : Int32)) C dX9_image_16 ic_1 ?_
  refine r_iadd (pc := 17) C dX9_image_17 ?_
  refine pf_X9_2_0 (pc := 18) C hi_X9_image_X9 wd_X9_image_3 dX9_image_18 (fun s3 => ?_)
  refine r_aldn (pc := 21) C dX9_image_21 0 rfl ?_
  refine gf_X9_2_0 (pc := 22) C hi_X9_image_X9 wd_X9_image_3 dX9_image_22 ?_
  exact r_iret (pc := 25) C dX9_image_25
set_option maxHeartbeats 4000000 in
set_option maxRecDepth 100000 in
theorem v_X9_judge_45_b {κ : oK} {x : oXp} (C : oC κ (oX x) 4 cX9_judge RX9 wsX9_judge 5 (some .int))  (rec45 : Nat → Int32 → Sg → Option (Int32 × Sg)) (hrec45 : ∀ (o2 : Nat) (a3 : Int32) (h1_o2 : 44 ≤ o2) (h2_o2 : o2 < 62) (σ : Sg), oV κ (oX x) 4 (oQi κ (oX x)) σ 45 [(0, .ref (xa x 0)), (2, .ref (xa x o2)), (3, .int a3)] [] (rec45 o2 a3 σ)) (o2 : Nat) (a3 : Int32) (h1_o2 : 44 ≤ o2) (h2_o2 : o2 < 62) (σ : Sg) : oV κ (oX x) 4 (oQi κ (oX x)) σ 45 [(0, .ref (xa x 0)), (2, .ref (xa x o2)), (3, .int a3)] [] (f_X9_judge_45_b   rec45 o2 a3 σ) := by
  unfold f_X9_judge_45_b
  refine r_ildn (pc := 45) C dX9_judge_45 2 rfl ?_
  refine r_aldn (pc := 46) C dX9_judge_46 1 rfl ?_
  refine gfN_X6_1 (pc := 47) C (o := o2) (by omega) (by omega) hi_X9_judge_X6 nw_7 dX9_judge_47 ?_
  refine r_icge (pc := 50) (tgt := 100) C dX9_judge_50 (by decide) ?_ ?_
  · refine r_aldn (pc := 100) C dX9_judge_100 1 rfl ?_
    refine gfN_X6_1 (pc := 101) C (o := o2) (by omega) (by omega) hi_X9_judge_X6 nw_7 dX9_judge_101 ?_
    exact r_iret (pc := 104) C dX9_judge_104
  · refine r_aldn (pc := 53) C dX9_judge_53 0 rfl ?_
    refine gf_X9_0_0 (pc := 54) C hi_X9_judge_X9 wd_X9_judge_2 dX9_judge_54 ?_
    refine r_ildn (pc := 57) C dX9_judge_57 2 rfl ?_
    refine k_X0_hasLine (x := x) (pc := 58) (a1 := a3) C gX9_judge_X0_hasLine (by omega)  (Nat.le_of_ble_eq_true rfl) dX9_judge_58 (fun r2 s1 => ?_)
    refine r_ifeq (pc := 61) (tgt := 92) C dX9_judge_61 (by decide) ?_ ?_
    · refine r_ildn (pc := 92) C dX9_judge_92 2 rfl ?_
      exact r_iret (pc := 93) C dX9_judge_93
    · refine r_aldn (pc := 64) C dX9_judge_64 1 rfl ?_
      refine gfN_X6_0 (pc := 65) C (o := o2) (by omega) (by omega) hi_X9_judge_X6 nw_3 dX9_judge_65 ?_
      refine r_ildn (pc := 68) C dX9_judge_68 2 rfl ?_
      refine iald_oX_cells (pc := 69) C (o := (o2 + 18)) (by omega) (by omega) dX9_judge_69 ?_
      refine r_aldn (pc := 70) C dX9_judge_70 0 rfl ?_
      refine gf_X9_0_0 (pc := 71) C hi_X9_judge_X9 wd_X9_judge_2 dX9_judge_71 ?_
      refine gfN_X0_0_1 (pc := 74) C hi_X9_judge_X0 nw_24 dX9_judge_74 ?_
      refine r_ildn (pc := 77) C dX9_judge_77 2 rfl ?_
      refine qa_Ln_14 (pc := 78) C dX9_judge_78 (fun p3 h1_p3 h2_p3 => ?_)
      refine r_aldn (pc := 79) C dX9_judge_79 0 rfl ?_
      refine gf_X9_0_0 (pc := 80) C hi_X9_judge_X9 wd_X9_judge_2 dX9_judge_80 ?_
      refine gfN_X0_2_1 (pc := 83) C hi_X9_judge_X0 nw_29 dX9_judge_83 ?_
      refine k_X2_back (x := x) (pc := 86) (o0 := p3) (a1 := (s1 1 2)) C gX9_judge_X2_back (by omega) (by omega) (by omega) (Nat.le_of_ble_eq_true rfl) dX9_judge_86 (fun r5 s4 => ?_)
      refine r_iceq (pc := 89) (tgt := 94) C dX9_judge_89 (by decide) ?_ ?_
      · refine r_iinc (pc := 94) (v := (1 : Int32)) (lv1 := fun y => [(0, _), (2, _), (3, .int y)]) C dX9_judge_94 ic_1 2 rfl (by decide) [1, 2, 0] (fun _ => rfl) (fun v6 => ?_)
        refine r_goto (pc := 97) (tgt := 45) C dX9_judge_97 (by decide) ?_
        exact hrec45 o2 v6 (by omega) (by omega) s4
      · refine r_ildn (pc := 92) C dX9_judge_92 2 rfl ?_
        exact r_iret (pc := 93) C dX9_judge_93
theorem v_X9_judge_45 {κ : oK} {x : oXp} (C : oC κ (oX x) 4 cX9_judge RX9 wsX9_judge 5 (some .int))  : ∀ (n : Nat) (o2 : Nat) (a3 : Int32) (h1_o2 : 44 ≤ o2) (h2_o2 : o2 < 62) (σ : Sg), oV κ (oX x) 4 (oQi κ (oX x)) σ 45 [(0, .ref (xa x 0)), (2, .ref (xa x o2)), (3, .int a3)] [] (f_X9_judge_45   n o2 a3 σ) := by
  intro n
  induction n with
  | zero => intros; exact r_none
  | succ n ih => exact v_X9_judge_45_b C  _ ih
set_option maxHeartbeats 4000000 in
set_option maxRecDepth 100000 in
theorem m_X9_judge (l : Launch) (x : oXp) (hI : oI (oX x)) (a1 : Int32) (σ : Sg) : oMI l yX9_judge wsX9_judge 5 (oX x) [.ref (xa x 0), .int a1] σ (f_X9_judge  a1 σ) := by
  refine oMI_of (nL := 4) (cc := cX9_judge) hI (by decide +kernel) rfl (Nat.le_of_ble_eq_true rfl) ?_
  intro κ C
  have C : oC κ (oX x) 4 cX9_judge RX9 wsX9_judge 5 (some .int) := C
  unfold f_X9_judge
  show oV κ (oX x) 4 (oQi κ (oX x)) σ 0 [(0, .ref (xa x 0)), (1, .int a1)] [] _
  refine r_ildn (pc := 0) C dX9_judge_0 1 rfl ?_
  refine r_iconst (pc := 1) (v := (0 : Int32)) C dX9_judge_1 ic_0 ?_
  refine r_iconst (pc := 2) (v := (3 : Int32)) C dX9_judge_2 ic_3 ?_
  refine kS_X9_isIn (x := x) (pc := 3) (a0 := a1) (a1 := (0 : Int32)) (a2 := (3 : Int32)) C gX9_judge_X9_isIn (by omega)  (Nat.le_of_ble_eq_true rfl) dX9_judge_3 (fun r8 s7 => ?_)
  refine r_ifne (pc := 6) (tgt := 15) C dX9_judge_6 (by decide) ?_ ?_
  · refine r_aldn (pc := 15) C dX9_judge_15 0 rfl ?_
    refine gf_X9_7_0 (pc := 16) C hi_X9_judge_X9 wd_X9_judge_1 dX9_judge_16 ?_
    refine r_ildn (pc := 19) C dX9_judge_19 1 rfl ?_
    refine qa_Sh_7 (pc := 20) C dX9_judge_20 (fun p9 h1_p9 h2_p9 => ?_)
    refine k_X7_isMissing (x := x) (pc := 21) (o0 := p9) C gX9_judge_X7_isMissing (by omega) (by omega) (by omega) (Nat.le_of_ble_eq_true rfl) dX9_judge_21 (fun r11 s10 => ?_)
    refine r_ifeq (pc := 24) (tgt := 33) C dX9_judge_24 (by decide) ?_ ?_
    · refine r_aldn (pc := 33) C dX9_judge_33 0 rfl ?_
      refine gf_X9_7_0 (pc := 34) C hi_X9_judge_X9 wd_X9_judge_1 dX9_judge_34 ?_
      refine r_ildn (pc := 37) C dX9_judge_37 1 rfl ?_
      refine qa_Sh_7 (pc := 38) C dX9_judge_38 (fun p12 h1_p12 h2_p12 => ?_)
      refine gfN_X7_0 (pc := 39) C (o := p12) (by omega) (by omega) hi_X9_judge_X7 nw_45 dX9_judge_39 ?_
      refine r_astn (pc := 42) (lv' := [(0, _), (2, _)]) C dX9_judge_42 (by decide) [1, 0] rfl ?_
      refine r_iconst (pc := 43) (v := (0 : Int32)) C dX9_judge_43 ic_0 ?_
      refine r_istn (pc := 44) (lv' := [(0, _), (2, _), (3, _)]) C dX9_judge_44 (by decide) [1, 2, 0] rfl ?_
      exact v_X9_judge_45 (x := x) C fuN (p12 + 48) (0 : Int32) (by omega) (by omega) s10
    · refine r_aldn (pc := 27) C dX9_judge_27 0 rfl ?_
      refine r_iconst (pc := 28) (v := (2 : Int32)) C dX9_judge_28 ic_2 ?_
      refine k_X9_error (x := x) (pc := 29) (a1 := (2 : Int32)) C gX9_judge_X9_error (by omega)  (Nat.le_of_ble_eq_true rfl) dX9_judge_29 (fun r14 s13 => ?_)
      exact r_iret (pc := 32) C dX9_judge_32
  · refine r_aldn (pc := 9) C dX9_judge_9 0 rfl ?_
    refine r_iconst (pc := 10) (v := (1 : Int32)) C dX9_judge_10 ic_1 ?_
    refine k_X9_error (x := x) (pc := 11) (a1 := (1 : Int32)) C gX9_judge_X9_error (by omega)  (Nat.le_of_ble_eq_true rfl) dX9_judge_11 (fun r16 s15 => ?_)
    exact r_iret (pc := 14) C dX9_judge_14
set_option maxHeartbeats 4000000 in
set_option maxRecDepth 100000 in
theorem m_X9_law (l : Launch) (x : oXp) (hI : oI (oX x)) (a1 : Int32) (a2 : Int32) (a3 : Int32) (a4 : Int32) (σ : Sg) : oMI l yX9_law wsX9_law 6 (oX x) [.ref (xa x 0), .int a1, .int a2, .int a3, .int a4] σ (f_X9_law  a1 a2 a3 a4 σ) := by
  refine oMI_of (nL := 5) (cc := cX9_law) hI (by decide +kernel) rfl (Nat.le_of_ble_eq_true rfl) ?_
  intro κ C
  have C : oC κ (oX x) 5 cX9_law RX9 wsX9_law 6 (some .int) := C
  unfold f_X9_law
  show oV κ (oX x) 5 (oQi κ (oX x)) σ 0 [(0, .ref (xa x 0)), (1, .int a1), (2, .int a2), (3, .int a3), (4, .int a4)] [] _
  refine r_ildn (pc := 0) C dX9_law_0 1 rfl ?_
  refine r_iconst (pc := 1) (v := (0 : Int32)) C dX9_law_1 ic_0 ?_
  refine r_iconst (pc := 2) (v := (1 : Int32)) C dX9_law_2 ic_1 ?_
  refine kS_X9_isIn (x := x) (pc := 3) (a0 := a1) (a1 := (0 : Int32)) (a2 := (1 : Int32)) C gX9_law_X9_isIn (by omega)  (Nat.le_of_ble_eq_true rfl) dX9_law_3 (fun r2 s1 => ?_)
  refine r_ifeq (pc := 6) (tgt := 24) C dX9_law_6 (by decide) ?_ ?_
  · refine r_aldn (pc := 24) C dX9_law_24 0 rfl ?_
    refine r_iconst (pc := 25) (v := (1 : Int32)) C dX9_law_25 ic_1 ?_
    refine k_X9_error (x := x) (pc := 26) (a1 := (1 : Int32)) C gX9_law_X9_error (by omega)  (Nat.le_of_ble_eq_true rfl) dX9_law_26 (fun r4 s3 => ?_)
    exact r_iret (pc := 29) C dX9_law_29
  · refine r_aldn (pc := 9) C dX9_law_9 0 rfl ?_
    refine gf_X9_0_0 (pc := 10) C hi_X9_law_X9 wd_X9_law_1 dX9_law_10 ?_
    refine r_ildn (pc := 13) C dX9_law_13 1 rfl ?_
    refine r_ildn (pc := 14) C dX9_law_14 2 rfl ?_
    refine r_ildn (pc := 15) C dX9_law_15 3 rfl ?_
    refine r_ild (pc := 16) C dX9_law_16 4 rfl ?_
    refine k_X0_lawGives (x := x) (pc := 18) (a1 := a1) (a2 := a2) (a3 := a3) (a4 := a4) C gX9_law_X0_lawGives (by omega)  (Nat.le_of_ble_eq_true rfl) dX9_law_18 (fun r6 s5 => ?_)
    refine r_goto (pc := 21) (tgt := 29) C dX9_law_21 (by decide) ?_
    exact r_iret (pc := 29) C dX9_law_29
set_option maxHeartbeats 4000000 in
set_option maxRecDepth 100000 in
theorem m_X9_lineIs (l : Launch) (x : oXp) (hI : oI (oX x)) (a1 : Int32) (a2 : Int32) (σ : Sg) : oMI l yX9_lineIs wsX9_lineIs 7 (oX x) [.ref (xa x 0), .int a1, .int a2] σ (f_X9_lineIs  a1 a2 σ) := by
  refine oMI_of (nL := 4) (cc := cX9_lineIs) hI (by decide +kernel) rfl (Nat.le_of_ble_eq_true rfl) ?_
  intro κ C
  have C : oC κ (oX x) 4 cX9_lineIs RX9 wsX9_lineIs 7 (some .int) := C
  unfold f_X9_lineIs
  show oV κ (oX x) 4 (oQi κ (oX x)) σ 0 [(0, .ref (xa x 0)), (1, .int a1), (2, .int a2)] [] _
  refine r_aldn (pc := 0) C dX9_lineIs_0 0 rfl ?_
  refine gf_X9_0_0 (pc := 1) C hi_X9_lineIs_X9 wd_X9_lineIs_1 dX9_lineIs_1 ?_
  refine r_ildn (pc := 4) C dX9_lineIs_4 1 rfl ?_
  refine k_X0_hasLine (x := x) (pc := 5) (a1 := a1) C gX9_lineIs_X0_hasLine (by omega)  (Nat.le_of_ble_eq_true rfl) dX9_lineIs_5 (fun r2 s1 => ?_)
  refine r_ifne (pc := 8) (tgt := 17) C dX9_lineIs_8 (by decide) ?_ ?_
  · refine r_aldn (pc := 17) C dX9_lineIs_17 0 rfl ?_
    refine gf_X9_0_0 (pc := 18) C hi_X9_lineIs_X9 wd_X9_lineIs_1 dX9_lineIs_18 ?_
    refine gfN_X0_0_1 (pc := 21) C hi_X9_lineIs_X0 nw_24 dX9_lineIs_21 ?_
    refine r_ildn (pc := 24) C dX9_lineIs_24 1 rfl ?_
    refine qa_Ln_14 (pc := 25) C dX9_lineIs_25 (fun p3 h1_p3 h2_p3 => ?_)
    refine r_astn (pc := 26) (lv' := [(0, _), (1, _), (2, _), (3, _)]) C dX9_lineIs_26 (by decide) [1, 2, 3, 0] rfl ?_
    refine r_ildn (pc := 27) C dX9_lineIs_27 2 rfl ?_
    refine r_ite (fun c4 => ?_) (fun c4 => ?_)
    · refine r_tabE (pc := 28) (v := (0 : Int32)) (off := 56) (tgt := 84) C dX9_lineIs_28 c4 (by decide) (by decide) (by decide) (by decide) ?_
      refine r_aldn (pc := 84) C dX9_lineIs_84 3 rfl ?_
      refine gfN_X2_0 (pc := 85) C (o := p3) (by omega) (by omega) hi_X9_lineIs_X2 nw_11 dX9_lineIs_85 ?_
      exact r_iret (pc := 88) C dX9_lineIs_88
    · refine r_ite (fun c5 => ?_) (fun c5 => ?_)
      · refine r_tabE (pc := 28) (v := (1 : Int32)) (off := 61) (tgt := 89) C dX9_lineIs_28 c5 (by decide) (by decide) (by decide) (by decide) ?_
        refine r_aldn (pc := 89) C dX9_lineIs_89 3 rfl ?_
        refine gfN_X2_1 (pc := 90) C (o := p3) (by omega) (by omega) hi_X9_lineIs_X2 nw_13 dX9_lineIs_90 ?_
        exact r_iret (pc := 93) C dX9_lineIs_93
      · refine r_ite (fun c6 => ?_) (fun c6 => ?_)
        · refine r_tabE (pc := 28) (v := (2 : Int32)) (off := 66) (tgt := 94) C dX9_lineIs_28 c6 (by decide) (by decide) (by decide) (by decide) ?_
          refine r_aldn (pc := 94) C dX9_lineIs_94 3 rfl ?_
          refine gfN_X2_2 (pc := 95) C (o := p3) (by omega) (by omega) hi_X9_lineIs_X2 nw_15 dX9_lineIs_95 ?_
          exact r_iret (pc := 98) C dX9_lineIs_98
        · refine r_ite (fun c7 => ?_) (fun c7 => ?_)
          · refine r_tabE (pc := 28) (v := (3 : Int32)) (off := 71) (tgt := 99) C dX9_lineIs_28 c7 (by decide) (by decide) (by decide) (by decide) ?_
            refine r_aldn (pc := 99) C dX9_lineIs_99 3 rfl ?_
            refine gfN_X2_3 (pc := 100) C (o := p3) (by omega) (by omega) hi_X9_lineIs_X2 nw_17 dX9_lineIs_100 ?_
            exact r_iret (pc := 103) C dX9_lineIs_103
          · refine r_ite (fun c8 => ?_) (fun c8 => ?_)
            · refine r_tabE (pc := 28) (v := (4 : Int32)) (off := 76) (tgt := 104) C dX9_lineIs_28 c8 (by decide) (by decide) (by decide) (by decide) ?_
              refine r_aldn (pc := 104) C dX9_lineIs_104 3 rfl ?_
              refine gfN_X2_4 (pc := 105) C (o := p3) (by omega) (by omega) hi_X9_lineIs_X2 nw_19 dX9_lineIs_105 ?_
              exact r_iret (pc := 108) C dX9_lineIs_108
            · refine r_ite (fun c9 => ?_) (fun c9 => ?_)
              · refine r_tabE (pc := 28) (v := (5 : Int32)) (off := 81) (tgt := 109) C dX9_lineIs_28 c9 (by decide) (by decide) (by decide) (by decide) ?_
                refine r_aldn (pc := 109) C dX9_lineIs_109 3 rfl ?_
                refine gfN_X2_5 (pc := 110) C (o := p3) (by omega) (by omega) hi_X9_lineIs_X2 nw_20 dX9_lineIs_110 ?_
                exact r_iret (pc := 113) C dX9_lineIs_113
              · refine r_ite (fun c10 => ?_) (fun c10 => ?_)
                · refine r_tabE (pc := 28) (v := (6 : Int32)) (off := 86) (tgt := 114) C dX9_lineIs_28 c10 (by decide) (by decide) (by decide) (by decide) ?_
                  refine r_aldn (pc := 114) C dX9_lineIs_114 3 rfl ?_
                  refine gfN_X2_6 (pc := 115) C (o := p3) (by omega) (by omega) hi_X9_lineIs_X2 nw_22 dX9_lineIs_115 ?_
                  refine r_ifeq (pc := 118) (tgt := 125) C dX9_lineIs_118 (by decide) ?_ ?_
                  · refine r_iconst (pc := 125) (v := (0 : Int32)) C dX9_lineIs_125 ic_0 ?_
                    exact r_iret (pc := 126) C dX9_lineIs_126
                  · refine r_iconst (pc := 121) (v := (1 : Int32)) C dX9_lineIs_121 ic_1 ?_
                    refine r_goto (pc := 122) (tgt := 126) C dX9_lineIs_122 (by decide) ?_
                    exact r_iret (pc := 126) C dX9_lineIs_126
                · refine r_ite (fun c11 => ?_) (fun c11 => ?_)
                  · refine r_tabE (pc := 28) (v := (7 : Int32)) (off := 99) (tgt := 127) C dX9_lineIs_28 c11 (by decide) (by decide) (by decide) (by decide) ?_
                    refine r_aldn (pc := 127) C dX9_lineIs_127 0 rfl ?_
                    refine gf_X9_0_0 (pc := 128) C hi_X9_lineIs_X9 wd_X9_lineIs_1 dX9_lineIs_128 ?_
                    refine r_ildn (pc := 131) C dX9_lineIs_131 1 rfl ?_
                    refine r_aldn (pc := 132) C dX9_lineIs_132 0 rfl ?_
                    refine gf_X9_0_0 (pc := 133) C hi_X9_lineIs_X9 wd_X9_lineIs_1 dX9_lineIs_133 ?_
                    refine gfN_X0_2_1 (pc := 136) C hi_X9_lineIs_X0 nw_29 dX9_lineIs_136 ?_
                    refine k_X0_mayGo (x := x) (pc := 139) (a1 := a1) (a2 := (s1 1 2)) C gX9_lineIs_X0_mayGo (by omega)  (Nat.le_of_ble_eq_true rfl) dX9_lineIs_139 (fun r13 s12 => ?_)
                    refine r_ifeq (pc := 142) (tgt := 149) C dX9_lineIs_142 (by decide) ?_ ?_
                    · refine r_iconst (pc := 149) (v := (0 : Int32)) C dX9_lineIs_149 ic_0 ?_
                      exact r_iret (pc := 150) C dX9_lineIs_150
                    · refine r_iconst (pc := 145) (v := (1 : Int32)) C dX9_lineIs_145 ic_1 ?_
                      refine r_goto (pc := 146) (tgt := 150) C dX9_lineIs_146 (by decide) ?_
                      exact r_iret (pc := 150) C dX9_lineIs_150
                  · refine r_ite (fun c14 => ?_) (fun c14 => ?_)
                    · refine r_tabE (pc := 28) (v := (8 : Int32)) (off := 123) (tgt := 151) C dX9_lineIs_28 c14 (by decide) (by decide) (by decide) (by decide) ?_
                      refine r_aldn (pc := 151) C dX9_lineIs_151 3 rfl ?_
                      refine r_aldn (pc := 152) C dX9_lineIs_152 0 rfl ?_
                      refine gf_X9_0_0 (pc := 153) C hi_X9_lineIs_X9 wd_X9_lineIs_1 dX9_lineIs_153 ?_
                      refine gfN_X0_2_1 (pc := 156) C hi_X9_lineIs_X0 nw_29 dX9_lineIs_156 ?_
                      refine k_X2_back (x := x) (pc := 159) (o0 := p3) (a1 := (s1 1 2)) C gX9_lineIs_X2_back (by omega) (by omega) (by omega) (Nat.le_of_ble_eq_true rfl) dX9_lineIs_159 (fun r16 s15 => ?_)
                      exact r_iret (pc := 162) C dX9_lineIs_162
                    · refine r_ite (fun c17 => ?_) (fun c17 => ?_)
                      · refine r_tabE (pc := 28) (v := (9 : Int32)) (off := 135) (tgt := 163) C dX9_lineIs_28 c17 (by decide) (by decide) (by decide) (by decide) ?_
                        refine r_aldn (pc := 163) C dX9_lineIs_163 0 rfl ?_
                        refine gf_X9_0_0 (pc := 164) C hi_X9_lineIs_X9 wd_X9_lineIs_1 dX9_lineIs_164 ?_
                        refine r_ildn (pc := 167) C dX9_lineIs_167 1 rfl ?_
                        refine r_aldn (pc := 168) C dX9_lineIs_168 0 rfl ?_
                        refine gf_X9_0_0 (pc := 169) C hi_X9_lineIs_X9 wd_X9_lineIs_1 dX9_lineIs_169 ?_
                        refine gfN_X0_2_1 (pc := 172) C hi_X9_lineIs_X0 nw_29 dX9_lineIs_172 ?_
                        refine k_X0_lossOf (x := x) (pc := 175) (a1 := a1) (a2 := (s1 1 2)) C gX9_lineIs_X0_lossOf (by omega)  (Nat.le_of_ble_eq_true rfl) dX9_lineIs_175 (fun r19 s18 => ?_)
                        exact r_iret (pc := 178) C dX9_lineIs_178
                      · refine r_tabO (pc := 28) (tgt := 179) C dX9_lineIs_28 (by have q0 := lv_neT (k := (0 : Int32)) (a := 0) c4 (by decide); have q1 := lv_neT (k := (1 : Int32)) (a := 1) c5 (by decide); have q2 := lv_neT (k := (2 : Int32)) (a := 2) c6 (by decide); have q3 := lv_neT (k := (3 : Int32)) (a := 3) c7 (by decide); have q4 := lv_neT (k := (4 : Int32)) (a := 4) c8 (by decide); have q5 := lv_neT (k := (5 : Int32)) (a := 5) c9 (by decide); have q6 := lv_neT (k := (6 : Int32)) (a := 6) c10 (by decide); have q7 := lv_neT (k := (7 : Int32)) (a := 7) c11 (by decide); have q8 := lv_neT (k := (8 : Int32)) (a := 8) c14 (by decide); have q9 := lv_neT (k := (9 : Int32)) (a := 9) c17 (by decide); omega) (by decide) ?_
                        refine r_aldn (pc := 179) C dX9_lineIs_179 0 rfl ?_
                        refine r_iconst (pc := 180) (v := (1 : Int32)) C dX9_lineIs_180 ic_1 ?_
                        refine k_X9_error (x := x) (pc := 181) (a1 := (1 : Int32)) C gX9_lineIs_X9_error (by omega)  (Nat.le_of_ble_eq_true rfl) dX9_lineIs_181 (fun r21 s20 => ?_)
                        exact r_iret (pc := 184) C dX9_lineIs_184
  · refine r_aldn (pc := 11) C dX9_lineIs_11 0 rfl ?_
    refine r_iconst (pc := 12) (v := (1 : Int32)) C dX9_lineIs_12 ic_1 ?_
    refine k_X9_error (x := x) (pc := 13) (a1 := (1 : Int32)) C gX9_lineIs_X9_error (by omega)  (Nat.le_of_ble_eq_true rfl) dX9_lineIs_13 (fun r23 s22 => ?_)
    exact r_iret (pc := 16) C dX9_lineIs_16
set_option maxHeartbeats 4000000 in
set_option maxRecDepth 100000 in
theorem v_X9_loose_41_b {κ : oK} {x : oXp} (C : oC κ (oX x) 4 cX9_loose RX9 wsX9_loose 9 (some .int))  (rec41 : Int32 → Int32 → Int32 → Sg → Option (Int32 × Sg)) (hrec41 : ∀ (a1 : Int32) (a2 : Int32) (a3 : Int32) (σ : Sg), oV κ (oX x) 4 (oQi κ (oX x)) σ 41 [(0, .ref (xa x 0)), (1, .int a1), (2, .int a2), (3, .int a3)] [] (rec41 a1 a2 a3 σ)) (a1 : Int32) (a2 : Int32) (a3 : Int32) (σ : Sg) : oV κ (oX x) 4 (oQi κ (oX x)) σ 41 [(0, .ref (xa x 0)), (1, .int a1), (2, .int a2), (3, .int a3)] [] (f_X9_loose_41_b   rec41 a1 a2 a3 σ) := by
  unfold f_X9_loose_41_b
  refine r_ildn (pc := 41) C dX9_loose_41 3 rfl ?_
  refine r_ildn (pc := 42) C dX9_loose_42 1 rfl ?_
  refine r_icge (pc := 43) (tgt := 62) C dX9_loose_43 (by decide) ?_ ?_
  · refine r_ildn (pc := 62) C dX9_loose_62 2 rfl ?_
    exact r_iret (pc := 63) C dX9_loose_63
  · refine r_ildn (pc := 46) C dX9_loose_46 2 rfl ?_
    refine r_aldn (pc := 47) C dX9_loose_47 0 rfl ?_
    refine gf_X9_0_0 (pc := 48) C hi_X9_loose_X9 wd_X9_loose_1 dX9_loose_48 ?_
    refine k_X0_passDayByDraws (x := x) (pc := 51)  C gX9_loose_X0_passDayByDraws (by omega)  (Nat.le_of_ble_eq_true rfl) dX9_loose_51 (fun r2 s1 => ?_)
    refine r_iadd (pc := 54) C dX9_loose_54 ?_
    refine r_nm (fun v3 => ?_)
    refine r_istn (pc := 55) (lv' := [(0, _), (1, _), (2, _), (3, _)]) C dX9_loose_55 (by decide) [1, 2, 0, 3] rfl ?_
    refine r_iinc (pc := 56) (v := (1 : Int32)) (lv1 := fun y => [(0, _), (1, _), (2, _), (3, .int y)]) C dX9_loose_56 ic_1 3 rfl (by decide) [1, 2, 3, 0] (fun _ => rfl) (fun v4 => ?_)
    refine r_goto (pc := 59) (tgt := 41) C dX9_loose_59 (by decide) ?_
    exact hrec41 a1 v3 v4 s1
theorem v_X9_loose_41 {κ : oK} {x : oXp} (C : oC κ (oX x) 4 cX9_loose RX9 wsX9_loose 9 (some .int))  : ∀ (n : Nat) (a1 : Int32) (a2 : Int32) (a3 : Int32) (σ : Sg), oV κ (oX x) 4 (oQi κ (oX x)) σ 41 [(0, .ref (xa x 0)), (1, .int a1), (2, .int a2), (3, .int a3)] [] (f_X9_loose_41   n a1 a2 a3 σ) := by
  intro n
  induction n with
  | zero => intros; exact r_none
  | succ n ih => exact v_X9_loose_41_b C  _ ih
set_option maxHeartbeats 4000000 in
set_option maxRecDepth 100000 in
theorem m_X9_loose (l : Launch) (x : oXp) (hI : oI (oX x)) (a1 : Int32) (σ : Sg) : oMI l yX9_loose wsX9_loose 9 (oX x) [.ref (xa x 0), .int a1] σ (f_X9_loose  a1 σ) := by
  refine oMI_of (nL := 4) (cc := cX9_loose) hI (by decide +kernel) rfl (Nat.le_of_ble_eq_true rfl) ?_
  intro κ C
  have C : oC κ (oX x) 4 cX9_loose RX9 wsX9_loose 9 (some .int) := C
  unfold f_X9_loose
  show oV κ (oX x) 4 (oQi κ (oX x)) σ 0 [(0, .ref (xa x 0)), (1, .int a1)] [] _
  refine r_ildn (pc := 0) C dX9_loose_0 1 rfl ?_
  refine r_iconst (pc := 1) (v := (1 : Int32)) C dX9_loose_1 ic_1 ?_
  refine r_bipush (pc := 2) (v := (30 : Int32)) C dX9_loose_2 bp_30 ?_
  refine kS_X9_isIn (x := x) (pc := 4) (a0 := a1) (a1 := (1 : Int32)) (a2 := (30 : Int32)) C gX9_loose_X9_isIn (by omega)  (Nat.le_of_ble_eq_true rfl) dX9_loose_4 (fun r6 s5 => ?_)
  refine r_ifne (pc := 7) (tgt := 16) C dX9_loose_7 (by decide) ?_ ?_
  · refine r_aldn (pc := 16) C dX9_loose_16 0 rfl ?_
    refine gf_X9_0_0 (pc := 17) C hi_X9_loose_X9 wd_X9_loose_1 dX9_loose_17 ?_
    refine gfN_X0_2_1 (pc := 20) C hi_X9_loose_X0 nw_29 dX9_loose_20 ?_
    refine r_ildn (pc := 23) C dX9_loose_23 1 rfl ?_
    refine r_iadd (pc := 24) C dX9_loose_24 ?_
    refine r_sipush (pc := 25) (v := (9999 : Int32)) C dX9_loose_25 sp_9999 ?_
    refine r_icle (pc := 28) (tgt := 37) C dX9_loose_28 (by decide) ?_ ?_
    · refine r_iconst (pc := 37) (v := (0 : Int32)) C dX9_loose_37 ic_0 ?_
      refine r_istn (pc := 38) (lv' := [(0, _), (1, _), (2, _)]) C dX9_loose_38 (by decide) [1, 2, 0] rfl ?_
      refine r_iconst (pc := 39) (v := (0 : Int32)) C dX9_loose_39 ic_0 ?_
      refine r_istn (pc := 40) (lv' := [(0, _), (1, _), (2, _), (3, _)]) C dX9_loose_40 (by decide) [1, 2, 3, 0] rfl ?_
      exact v_X9_loose_41 (x := x) C fuN a1 (0 : Int32) (0 : Int32) s5
    · refine r_aldn (pc := 31) C dX9_loose_31 0 rfl ?_
      refine r_iconst (pc := 32) (v := (3 : Int32)) C dX9_loose_32 ic_3 ?_
      refine k_X9_error (x := x) (pc := 33) (a1 := (3 : Int32)) C gX9_loose_X9_error (by omega)  (Nat.le_of_ble_eq_true rfl) dX9_loose_33 (fun r8 s7 => ?_)
      exact r_iret (pc := 36) C dX9_loose_36
  · refine r_aldn (pc := 10) C dX9_loose_10 0 rfl ?_
    refine r_iconst (pc := 11) (v := (1 : Int32)) C dX9_loose_11 ic_1 ?_
    refine k_X9_error (x := x) (pc := 12) (a1 := (1 : Int32)) C gX9_loose_X9_error (by omega)  (Nat.le_of_ble_eq_true rfl) dX9_loose_12 (fun r10 s9 => ?_)
    exact r_iret (pc := 15) C dX9_loose_15
set_option maxHeartbeats 4000000 in
set_option maxRecDepth 100000 in
theorem m_X9_move (l : Launch) (x : oXp) (hI : oI (oX x)) (a1 : Int32) (a2 : Int32) (a3 : Int32) (a4 : Int32) (a5 : Int32) (σ : Sg) : oMI l yX9_move wsX9_move 4 (oX x) [.ref (xa x 0), .int a1, .int a2, .int a3, .int a4, .int a5] σ (f_X9_move  a1 a2 a3 a4 a5 σ) := by
  refine oMI_of (nL := 8) (cc := cX9_move) hI (by decide +kernel) rfl (Nat.le_of_ble_eq_true rfl) ?_
  intro κ C
  have C : oC κ (oX x) 8 cX9_move RX9 wsX9_move 4 (some .int) := C
  unfold f_X9_move
  show oV κ (oX x) 8 (oQi κ (oX x)) σ 0 [(0, .ref (xa x 0)), (1, .int a1), (2, .int a2), (3, .int a3), (4, .int a4), (5, .int a5)] [] _
  refine r_ildn (pc := 0) C dX9_move_0 1 rfl ?_
  refine r_iconst (pc := 1) (v := (0 : Int32)) C dX9_move_1 ic_0 ?_
  refine r_iconst (pc := 2) (v := (3 : Int32)) C dX9_move_2 ic_3 ?_
  refine kS_X9_isIn (x := x) (pc := 3) (a0 := a1) (a1 := (0 : Int32)) (a2 := (3 : Int32)) C gX9_move_X9_isIn (by omega)  (Nat.le_of_ble_eq_true rfl) dX9_move_3 (fun r2 s1 => ?_)
  refine r_ifeq (pc := 6) (tgt := 18) C dX9_move_6 (by decide) ?_ ?_
  · refine r_aldn (pc := 18) C dX9_move_18 0 rfl ?_
    refine r_iconst (pc := 19) (v := (1 : Int32)) C dX9_move_19 ic_1 ?_
    refine k_X9_error (x := x) (pc := 20) (a1 := (1 : Int32)) C gX9_move_X9_error (by omega)  (Nat.le_of_ble_eq_true rfl) dX9_move_20 (fun r4 s3 => ?_)
    exact r_iret (pc := 23) C dX9_move_23
  · refine r_ildn (pc := 9) C dX9_move_9 3 rfl ?_
    refine r_iconst (pc := 10) (v := (0 : Int32)) C dX9_move_10 ic_0 ?_
    refine r_iconst (pc := 11) (v := (3 : Int32)) C dX9_move_11 ic_3 ?_
    refine kS_X9_isIn (x := x) (pc := 12) (a0 := a3) (a1 := (0 : Int32)) (a2 := (3 : Int32)) C gX9_move_X9_isIn (by omega)  (Nat.le_of_ble_eq_true rfl) dX9_move_12 (fun r6 s5 => ?_)
    refine r_ifne (pc := 15) (tgt := 24) C dX9_move_15 (by decide) ?_ ?_
    · refine r_aldn (pc := 24) C dX9_move_24 0 rfl ?_
      refine gf_X9_7_0 (pc := 25) C hi_X9_move_X9 wd_X9_move_1 dX9_move_25 ?_
      refine r_ildn (pc := 28) C dX9_move_28 1 rfl ?_
      refine qa_Sh_7 (pc := 29) C dX9_move_29 (fun p7 h1_p7 h2_p7 => ?_)
      refine r_ast (pc := 30) (lv' := [(0, _), (2, _), (3, _), (4, _), (5, _), (6, _)]) C dX9_move_30 (by decide) [1, 3, 4, 5, 6, 0] rfl ?_
      refine r_aldn (pc := 32) C dX9_move_32 0 rfl ?_
      refine gf_X9_7_0 (pc := 33) C hi_X9_move_X9 wd_X9_move_1 dX9_move_33 ?_
      refine r_ildn (pc := 36) C dX9_move_36 2 rfl ?_
      refine qa_Sh_7 (pc := 37) C dX9_move_37 (fun p8 h1_p8 h2_p8 => ?_)
      refine r_ast (pc := 38) (lv' := [(0, _), (2, _), (4, _), (5, _), (6, _), (7, _)]) C dX9_move_38 (by decide) [1, 2, 4, 5, 6, 0] rfl ?_
      refine r_ald (pc := 40) C dX9_move_40 4 rfl ?_
      refine k_X7_isMissing (x := x) (pc := 42) (o0 := p7) C gX9_move_X7_isMissing (by omega) (by omega) (by omega) (Nat.le_of_ble_eq_true rfl) dX9_move_42 (fun r10 s9 => ?_)
      refine r_ifne (pc := 45) (tgt := 56) C dX9_move_45 (by decide) ?_ ?_
      · refine r_aldn (pc := 56) C dX9_move_56 0 rfl ?_
        refine r_iconst (pc := 57) (v := (2 : Int32)) C dX9_move_57 ic_2 ?_
        refine k_X9_error (x := x) (pc := 58) (a1 := (2 : Int32)) C gX9_move_X9_error (by omega)  (Nat.le_of_ble_eq_true rfl) dX9_move_58 (fun r12 s11 => ?_)
        exact r_iret (pc := 61) C dX9_move_61
      · refine r_ald (pc := 48) C dX9_move_48 5 rfl ?_
        refine k_X7_isMissing (x := x) (pc := 50) (o0 := p8) C gX9_move_X7_isMissing (by omega) (by omega) (by omega) (Nat.le_of_ble_eq_true rfl) dX9_move_50 (fun r14 s13 => ?_)
        refine r_ifeq (pc := 53) (tgt := 62) C dX9_move_53 (by decide) ?_ ?_
        · refine r_ald (pc := 62) C dX9_move_62 4 rfl ?_
          refine gfN_X7_1 (pc := 64) C (o := p7) (by omega) (by omega) hi_X9_move_X7 nw_46 dX9_move_64 ?_
          refine r_ald (pc := 67) C dX9_move_67 5 rfl ?_
          refine gfN_X7_1 (pc := 69) C (o := p8) (by omega) (by omega) hi_X9_move_X7 nw_46 dX9_move_69 ?_
          refine r_iceq (pc := 72) (tgt := 81) C dX9_move_72 (by decide) ?_ ?_
          · refine r_ald (pc := 81) C dX9_move_81 4 rfl ?_
            refine gfN_X7_0 (pc := 83) C (o := p7) (by omega) (by omega) hi_X9_move_X7 nw_45 dX9_move_83 ?_
            refine r_ildn (pc := 86) C dX9_move_86 1 rfl ?_
            refine r_ild (pc := 87) C dX9_move_87 3 rfl ?_
            refine k_X6_stands (x := x) (pc := 89) (o0 := (p7 + 48)) (a1 := a2) (a2 := a5) C gX9_move_X6_stands (by omega) (by omega) (by omega) (Nat.le_of_ble_eq_true rfl) dX9_move_89 (fun r16 s15 => ?_)
            refine r_ifeq (pc := 92) (tgt := 110) C dX9_move_92 (by decide) ?_ ?_
            · refine r_aldn (pc := 110) C dX9_move_110 0 rfl ?_
              refine r_iconst (pc := 111) (v := (1 : Int32)) C dX9_move_111 ic_1 ?_
              refine k_X9_error (x := x) (pc := 112) (a1 := (1 : Int32)) C gX9_move_X9_error (by omega)  (Nat.le_of_ble_eq_true rfl) dX9_move_112 (fun r18 s17 => ?_)
              exact r_iret (pc := 115) C dX9_move_115
            · refine r_ald (pc := 95) C dX9_move_95 5 rfl ?_
              refine gfN_X7_0 (pc := 97) C (o := p8) (by omega) (by omega) hi_X9_move_X7 nw_45 dX9_move_97 ?_
              refine r_ild (pc := 100) C dX9_move_100 2 rfl ?_
              refine r_ild (pc := 102) C dX9_move_102 3 rfl ?_
              refine k_X6_stands (x := x) (pc := 104) (o0 := (p8 + 48)) (a1 := a4) (a2 := a5) C gX9_move_X6_stands (by omega) (by omega) (by omega) (Nat.le_of_ble_eq_true rfl) dX9_move_104 (fun r20 s19 => ?_)
              refine r_ifne (pc := 107) (tgt := 116) C dX9_move_107 (by decide) ?_ ?_
              · refine r_ald (pc := 116) C dX9_move_116 4 rfl ?_
                refine gfN_X7_0 (pc := 118) C (o := p7) (by omega) (by omega) hi_X9_move_X7 nw_45 dX9_move_118 ?_
                refine gfN_X6_0 (pc := 121) C (o := (p7 + 48)) (by omega) (by omega) hi_X9_move_X6 nw_3 dX9_move_121 ?_
                refine r_ildn (pc := 124) C dX9_move_124 1 rfl ?_
                refine r_ald (pc := 125) C dX9_move_125 5 rfl ?_
                refine gfN_X7_0 (pc := 127) C (o := p8) (by omega) (by omega) hi_X9_move_X7 nw_45 dX9_move_127 ?_
                refine gfN_X6_0 (pc := 130) C (o := (p8 + 48)) (by omega) (by omega) hi_X9_move_X6 nw_3 dX9_move_130 ?_
                refine r_ild (pc := 133) C dX9_move_133 2 rfl ?_
                refine r_ild (pc := 135) C dX9_move_135 3 rfl ?_
                refine r_acopy (pc := 137) (k0 := ((p7 + 48) + 18)) (k1 := ((p8 + 48) + 18)) C wd_X9_move_2 wd_X9_move_3 wd_X9_move_4 wd_X9_move_5 (by show _ < 80; omega) (by show _ < 80; omega) (eoX_cells x (k := ((p7 + 48) + 18)) (by omega) (by omega) _) (eoX_cells x (k := ((p8 + 48) + 18)) (by omega) (by omega) _) (eoX_cells x (k := ((p8 + 48) + 18)) (by omega) (by omega) _) rfl (by omega) (Nat.le_of_ble_eq_true rfl) dX9_move_137 (fun s21 => ?_)
                refine r_ild (pc := 140) C dX9_move_140 3 rfl ?_
                exact r_iret (pc := 142) C dX9_move_142
              · refine r_aldn (pc := 110) C dX9_move_110 0 rfl ?_
                refine r_iconst (pc := 111) (v := (1 : Int32)) C dX9_move_111 ic_1 ?_
                refine k_X9_error (x := x) (pc := 112) (a1 := (1 : Int32)) C gX9_move_X9_error (by omega)  (Nat.le_of_ble_eq_true rfl) dX9_move_112 (fun r23 s22 => ?_)
                exact r_iret (pc := 115) C dX9_move_115
          · refine r_aldn (pc := 75) C dX9_move_75 0 rfl ?_
            refine r_iconst (pc := 76) (v := (5 : Int32)) C dX9_move_76 ic_5 ?_
            refine k_X9_error (x := x) (pc := 77) (a1 := (5 : Int32)) C gX9_move_X9_error (by omega)  (Nat.le_of_ble_eq_true rfl) dX9_move_77 (fun r25 s24 => ?_)
            exact r_iret (pc := 80) C dX9_move_80
        · refine r_aldn (pc := 56) C dX9_move_56 0 rfl ?_
          refine r_iconst (pc := 57) (v := (2 : Int32)) C dX9_move_57 ic_2 ?_
          refine k_X9_error (x := x) (pc := 58) (a1 := (2 : Int32)) C gX9_move_X9_error (by omega)  (Nat.le_of_ble_eq_true rfl) dX9_move_58 (fun r27 s26 => ?_)
          exact r_iret (pc := 61) C dX9_move_61
    · refine r_aldn (pc := 18) C dX9_move_18 0 rfl ?_
      refine r_iconst (pc := 19) (v := (1 : Int32)) C dX9_move_19 ic_1 ?_
      refine k_X9_error (x := x) (pc := 20) (a1 := (1 : Int32)) C gX9_move_X9_error (by omega)  (Nat.le_of_ble_eq_true rfl) dX9_move_20 (fun r29 s28 => ?_)
      exact r_iret (pc := 23) C dX9_move_23
set_option maxHeartbeats 4000000 in
set_option maxRecDepth 100000 in
theorem v_X9_sharedDivisor_9_b {κ : oK} {x : oXp} (C : oC κ (oX x) 11 cX9_sharedDivisor RX9 wsX9_sharedDivisor 3 (some .long))  (rec9 : Int64 → Int64 → Int32 → Sg → Option (Int64 × Sg)) (hrec9 : ∀ (a4 : Int64) (a6 : Int64) (a8 : Int32) (σ : Sg), oV κ (oX x) 11 (oQl κ (oX x)) σ 9 [(4, .long a4), (6, .long a6), (8, .int a8)] [] (rec9 a4 a6 a8 σ)) (a4 : Int64) (a6 : Int64) (a8 : Int32) (σ : Sg) : oV κ (oX x) 11 (oQl κ (oX x)) σ 9 [(4, .long a4), (6, .long a6), (8, .int a8)] [] (f_X9_sharedDivisor_9_b   rec9 a4 a6 a8 σ) := by
  unfold f_X9_sharedDivisor_9_b
  refine r_ild (pc := 9) C dX9_sharedDivisor_9 2 rfl ?_
  refine r_sipush (pc := 11) (v := (1000 : Int32)) C dX9_sharedDivisor_11 sp_1000 ?_
  refine r_icge (pc := 14) (tgt := 45) C dX9_sharedDivisor_14 (by decide) ?_ ?_
  · refine r_lld (pc := 45) C dX9_sharedDivisor_45 0 rfl ?_
    exact r_lret (pc := 47) C dX9_sharedDivisor_47
  · refine r_lld (pc := 17) C dX9_sharedDivisor_17 1 rfl ?_
    refine r_lconst (pc := 19) (v := (0 : Int64)) C dX9_sharedDivisor_19 (by decide) ?_
    refine r_lcmp (pc := 20) C dX9_sharedDivisor_20 ?_
    refine r_ifeq (pc := 21) (tgt := 45) C dX9_sharedDivisor_21 (by decide) ?_ ?_
    · refine r_lld (pc := 45) C dX9_sharedDivisor_45 0 rfl ?_
      exact r_lret (pc := 47) C dX9_sharedDivisor_47
    · refine r_lld (pc := 24) C dX9_sharedDivisor_24 0 rfl ?_
      refine r_lld (pc := 26) C dX9_sharedDivisor_26 1 rfl ?_
      refine r_ckb (fun h1 => ?_)
      refine r_lrem (pc := 28) C dX9_sharedDivisor_28 (nzl_ne h1) ?_
      refine r_nml (fun v2 => ?_)
      refine r_lst (pc := 29) (lv' := [(6, _), (8, _), (9, _)]) C dX9_sharedDivisor_29 (by decide) [2, 3, 0] rfl ?_
      refine r_lld (pc := 31) C dX9_sharedDivisor_31 0 rfl ?_
      refine r_lst (pc := 33) (lv' := [(4, _), (8, _), (9, _)]) C dX9_sharedDivisor_33 (by decide) [0, 2, 3] rfl ?_
      refine r_lld (pc := 35) C dX9_sharedDivisor_35 2 rfl ?_
      refine r_lst (pc := 37) (lv' := [(4, _), (6, _), (8, _)]) C dX9_sharedDivisor_37 (by decide) [1, 0, 2] rfl ?_
      refine r_iinc (pc := 39) (v := (1 : Int32)) (lv1 := fun y => [(4, _), (6, _), (8, .int y)]) C dX9_sharedDivisor_39 ic_1 2 rfl (by decide) [1, 2, 0] (fun _ => rfl) (fun v3 => ?_)
      refine r_goto (pc := 42) (tgt := 9) C dX9_sharedDivisor_42 (by decide) ?_
      exact hrec9 a6 v2 v3 σ
theorem v_X9_sharedDivisor_9 {κ : oK} {x : oXp} (C : oC κ (oX x) 11 cX9_sharedDivisor RX9 wsX9_sharedDivisor 3 (some .long))  : ∀ (n : Nat) (a4 : Int64) (a6 : Int64) (a8 : Int32) (σ : Sg), oV κ (oX x) 11 (oQl κ (oX x)) σ 9 [(4, .long a4), (6, .long a6), (8, .int a8)] [] (f_X9_sharedDivisor_9   n a4 a6 a8 σ) := by
  intro n
  induction n with
  | zero => intros; exact r_none
  | succ n ih => exact v_X9_sharedDivisor_9_b C  _ ih
set_option maxHeartbeats 4000000 in
set_option maxRecDepth 100000 in
theorem m_X9_sharedDivisor (l : Launch) (x : oXp) (hI : oI (oX x)) (a0 : Int64) (a2 : Int64) (σ : Sg) : oML l yX9_sharedDivisor wsX9_sharedDivisor 3 (oX x) [.long a0, .long a2] σ (f_X9_sharedDivisor  a0 a2 σ) := by
  refine oML_of (nL := 11) (cc := cX9_sharedDivisor) hI (by decide +kernel) rfl (Nat.le_of_ble_eq_true rfl) ?_
  intro κ C
  have C : oC κ (oX x) 11 cX9_sharedDivisor RX9 wsX9_sharedDivisor 3 (some .long) := C
  unfold f_X9_sharedDivisor
  show oV κ (oX x) 11 (oQl κ (oX x)) σ 0 [(0, .long a0), (2, .long a2)] [] _
  refine r_lldn (pc := 0) C dX9_sharedDivisor_0 0 rfl ?_
  refine r_lst (pc := 1) (lv' := [(2, _), (4, _)]) C dX9_sharedDivisor_1 (by decide) [2, 0] rfl ?_
  refine r_lldn (pc := 3) C dX9_sharedDivisor_3 0 rfl ?_
  refine r_lst (pc := 4) (lv' := [(4, _), (6, _)]) C dX9_sharedDivisor_4 (by decide) [2, 0] rfl ?_
  refine r_iconst (pc := 6) (v := (0 : Int32)) C dX9_sharedDivisor_6 ic_0 ?_
  refine r_ist (pc := 7) (lv' := [(4, _), (6, _), (8, _)]) C dX9_sharedDivisor_7 (by decide) [1, 2, 0] rfl ?_
  exact v_X9_sharedDivisor_9 (x := x) C fuN a0 a2 (0 : Int32) σ
theorem kS_X9_sharedDivisor {κ : oK} {nL : Nat} {cc : ByteArray} {own : String} {Ts : List Cond} {n : Nat} {ret : Option FieldType} {α : Type} {Q : α → Sg → State → Prop} {σ : Sg} {pc : Nat} {lv : List (Nat × Value)} {st : List Value} {x : oXp} {idx : Nat} {a0 : Int64} {a2 : Int64} {K : Int64 → Sg → Option (α × Sg)} (C : oC κ (oX x) nL cc own Ts n ret) (hG : GoodIn Ts (va_wsS own idx yX9_sharedDivisor wsX9_sharedDivisor)) (hn : 3 + 1 ≤ n) (hst : (st.map fun v => v.category).sum ≤ 8) (hd : decode cc pc = .ok (.invokestatic idx, 3)) (kk : ∀ (r1 : Int64) (σ1 : Sg), oV κ (oX x) nL Q σ1 (pc + 3) lv (.long r1 :: st) (K r1 σ1)) : oV κ (oX x) nL Q σ pc lv (.long a2 :: .long a0 :: st) (bnd (f_X9_sharedDivisor a0 a2 σ) K) := by
  have hI : oI (oX x) := oC_I C
  exact r_cSl (As := [.long a0, .long a2]) (na := 2) C (fun l => m_X9_sharedDivisor l x hI a0 a2 σ) hG rfl (by decide +kernel) rfl (by decide) hn hst hd kk
