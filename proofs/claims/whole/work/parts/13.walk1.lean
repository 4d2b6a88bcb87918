set_option maxHeartbeats 4000000 in
set_option maxRecDepth 100000 in
theorem m_J6_bitCount_0f7a4 (l : Launch) (x : oXp) (hI : oI (oX x)) (a0 : Int32) (σ : Sg) : oMI l yJ6_bitCount_0f7a4 wsJ6_bitCount_0f7a4 3 (oX x) [.int a0] σ (f_J6_bitCount_0f7a4  a0 σ) := by
  refine oMI_of (nL := 1) (cc := cJ6_bitCount_0f7a4) hI (by decide +kernel) rfl (Nat.le_of_ble_eq_true rfl) ?_
  intro κ C
  have C : oC κ (oX x) 1 cJ6_bitCount_0f7a4 RJ6 wsJ6_bitCount_0f7a4 3 (some .int) := C
  unfold f_J6_bitCount_0f7a4
  show oV κ (oX x) 1 (oQi κ (oX x)) σ 0 [(0, .int a0)] [] _
  refine r_ildn (pc := 0) C dJ6_bitCount_0f7a4_0 0 rfl ?_
  refine r_ildn (pc := 1) C dJ6_bitCount_0f7a4_1 0 rfl ?_
  refine r_iconst (pc := 2) (v := (1 : Int32)) C dJ6_bitCount_0f7a4_2 ic_1 ?_
  refine r_iushr (pc := 3) C dJ6_bitCount_0f7a4_3 ?_
  refine r_ldcw (pc := 4) (v := (1431655765 : Int32)) C dJ6_bitCount_0f7a4_4 wd_J6_bitCount_0f7a4_1 ?_
  refine r_iand (pc := 7) C dJ6_bitCount_0f7a4_7 ?_
  refine r_isub (pc := 8) C dJ6_bitCount_0f7a4_8 ?_
  refine r_nm (fun v1 => ?_)
  refine r_istn (pc := 9) (lv' := [(0, _)]) C dJ6_bitCount_0f7a4_9 (by decide) [0] rfl ?_
  refine r_ildn (pc := 10) C dJ6_bitCount_0f7a4_10 0 rfl ?_
  refine r_ldcw (pc := 11) (v := (858993459 : Int32)) C dJ6_bitCount_0f7a4_11 wd_J6_bitCount_0f7a4_2 ?_
  refine r_iand (pc := 14) C dJ6_bitCount_0f7a4_14 ?_
  refine r_ildn (pc := 15) C dJ6_bitCount_0f7a4_15 0 rfl ?_
  refine r_iconst (pc := 16) (v := (2 : Int32)) C dJ6_bitCount_0f7a4_16 ic_2 ?_
  refine r_iushr (pc := 17) C dJ6_bitCount_0f7a4_17 ?_
  refine r_ldcw (pc := 18) (v := (858993459 : Int32)) C dJ6_bitCount_0f7a4_18 wd_J6_bitCount_0f7a4_2 ?_
  refine r_iand (pc := 21) C dJ6_bitCount_0f7a4_21 ?_
  refine r_iadd (pc := 22) C dJ6_bitCount_0f7a4_22 ?_
  refine r_nm (fun v2 => ?_)
  refine r_istn (pc := 23) (lv' := [(0, _)]) C dJ6_bitCount_0f7a4_23 (by decide) [0] rfl ?_
  refine r_ildn (pc := 24) C dJ6_bitCount_0f7a4_24 0 rfl ?_
  refine r_ildn (pc := 25) C dJ6_bitCount_0f7a4_25 0 rfl ?_
  refine r_iconst (pc := 26) (v := (4 : Int32)) C dJ6_bitCount_0f7a4_26 ic_4 ?_
  refine r_iushr (pc := 27) C dJ6_bitCount_0f7a4_27 ?_
  refine r_iadd (pc := 28) C dJ6_bitCount_0f7a4_28 ?_
  refine r_ldcw (pc := 29) (v := (252645135 : Int32)) C dJ6_bitCount_0f7a4_29 wd_J6_bitCount_0f7a4_3 ?_
  refine r_iand (pc := 32) C dJ6_bitCount_0f7a4_32 ?_
  refine r_nm (fun v3 => ?_)
  refine r_istn (pc := 33) (lv' := [(0, _)]) C dJ6_bitCount_0f7a4_33 (by decide) [0] rfl ?_
  refine r_ildn (pc := 34) C dJ6_bitCount_0f7a4_34 0 rfl ?_
  refine r_ildn (pc := 35) C dJ6_bitCount_0f7a4_35 0 rfl ?_
  refine r_bipush (pc := 36) (v := (8 : Int32)) C dJ6_bitCount_0f7a4_36 bp_8 ?_
  refine r_iushr (pc := 38) C dJ6_bitCount_0f7a4_38 ?_
  refine r_iadd (pc := 39) C dJ6_bitCount_0f7a4_39 ?_
  refine r_nm (fun v4 => ?_)
  refine r_istn (pc := 40) (lv' := [(0, _)]) C dJ6_bitCount_0f7a4_40 (by decide) [0] rfl ?_
  refine r_ildn (pc := 41) C dJ6_bitCount_0f7a4_41 0 rfl ?_
  refine r_ildn (pc := 42) C dJ6_bitCount_0f7a4_42 0 rfl ?_
  refine r_bipush (pc := 43) (v := (16 : Int32)) C dJ6_bitCount_0f7a4_43 bp_16 ?_
  refine r_iushr (pc := 45) C dJ6_bitCount_0f7a4_45 ?_
  refine r_iadd (pc := 46) C dJ6_bitCount_0f7a4_46 ?_
  refine r_nm (fun v5 => ?_)
  refine r_istn (pc := 47) (lv' := [(0, _)]) C dJ6_bitCount_0f7a4_47 (by decide) [0] rfl ?_
  refine r_ildn (pc := 48) C dJ6_bitCount_0f7a4_48 0 rfl ?_
  refine r_bipush (pc := 49) (v := (63 : Int32)) C dJ6_bitCount_0f7a4_49 bp_63 ?_
  refine r_iand (pc := 51) C dJ6_bitCount_0f7a4_51 ?_
  exact r_iret (pc := 52) C dJ6_bitCount_0f7a4_52
theorem kS_J6_bitCount_0f7a4 {κ : oK} {nL : Nat} {cc : ByteArray} {own : String} {Ts : List Cond} {n : Nat} {ret : Option FieldType} {α : Type} {Q : α → Sg → State → Prop} {σ : Sg} {pc : Nat} {lv : List (Nat × Value)} {st : List Value} {x : oXp} {idx : Nat} {a0 : Int32} {K : Int32 → Sg → Option (α × Sg)} (C : oC κ (oX x) nL cc own Ts n ret) (hG : GoodIn Ts (va_wsS own idx yJ6_bitCount_0f7a4 wsJ6_bitCount_0f7a4)) (hn : 3 + 1 ≤ n) (hst : (st.map fun v => v.category).sum ≤ 8) (hd : decode cc pc = .ok (.invokestatic idx, 3)) (kk : ∀ (r1 : Int32) (σ1 : Sg), oV κ (oX x) nL Q σ1 (pc + 3) lv (.int r1 :: st) (K r1 σ1)) : oV κ (oX x) nL Q σ pc lv (.int a0 :: st) (bnd (f_J6_bitCount_0f7a4 a0 σ) K) := by
  have hI : oI (oX x) := oC_I C
  exact r_cSi (As := [.int a0]) (na := 1) C (fun l => m_J6_bitCount_0f7a4 l x hI a0 σ) hG rfl (by decide +kernel) rfl (by decide) hn hst hd kk
set_option maxHeartbeats 4000000 in
set_option maxRecDepth 100000 in
theorem m_X2_begin (l : Launch) (x : oXp) (hI : oI (oX x)) (o0 : Nat) (a1 : Int32) (a2 : Int32) (a3 : Int32) (a4 : Int32) (a5 : Int32) (h1_o0 : 20 ≤ o0) (h2_o0 : o0 < 40) (σ : Sg) : oMV l yX2_begin wsX2_begin 3 (oX x) [.ref (xa x o0), .int a1, .int a2, .int a3, .int a4, .int a5] σ (f_X2_begin  o0 a1 a2 a3 a4 a5 σ) := by
  refine oMV_of (nL := 6) (cc := cX2_begin) hI (by decide +kernel) rfl (Nat.le_of_ble_eq_true rfl) ?_
  intro κ C
  have C : oC κ (oX x) 6 cX2_begin RX2 wsX2_begin 3 none := C
  unfold f_X2_begin
  show oV κ (oX x) 6 (oQv κ (oX x)) σ 0 [(0, .ref (xa x o0)), (1, .int a1), (2, .int a2), (3, .int a3), (4, .int a4), (5, .int a5)] [] _
  refine r_aldn (pc := 0) C dX2_begin_0 0 rfl ?_
  refine r_ildn (pc := 1) C dX2_begin_1 1 rfl ?_
  refine pf_X2_0 (pc := 2) C (o := o0) (by omega) (by omega) hi_X2_begin_X2 wd_X2_begin_1 dX2_begin_2 (fun s1 => ?_)
  refine r_aldn (pc := 5) C dX2_begin_5 0 rfl ?_
  refine r_ildn (pc := 6) C dX2_begin_6 2 rfl ?_
  refine pf_X2_1 (pc := 7) C (o := o0) (by omega) (by omega) hi_X2_begin_X2 wd_X2_begin_2 dX2_begin_7 (fun s2 => ?_)
  refine r_aldn (pc := 10) C dX2_begin_10 0 rfl ?_
  refine r_ildn (pc := 11) C dX2_begin_11 3 rfl ?_
  refine pf_X2_2 (pc := 12) C (o := o0) (by omega) (by omega) hi_X2_begin_X2 wd_X2_begin_3 dX2_begin_12 (fun s3 => ?_)
  refine r_aldn (pc := 15) C dX2_begin_15 0 rfl ?_
  refine r_ild (pc := 16) C dX2_begin_16 4 rfl ?_
  refine pf_X2_3 (pc := 18) C (o := o0) (by omega) (by omega) hi_X2_begin_X2 wd_X2_begin_4 dX2_begin_18 (fun s4 => ?_)
  refine r_aldn (pc := 21) C dX2_begin_21 0 rfl ?_
  refine r_ild (pc := 22) C dX2_begin_22 5 rfl ?_
  refine pf_X2_4 (pc := 24) C (o := o0) (by omega) (by omega) hi_X2_begin_X2 wd_X2_begin_5 dX2_begin_24 (fun s5 => ?_)
  refine r_aldn (pc := 27) C dX2_begin_27 0 rfl ?_
  refine r_iconst (pc := 28) (v := (0 : Int32)) C dX2_begin_28 ic_0 ?_
  refine pf_X2_5 (pc := 29) C (o := o0) (by omega) (by omega) hi_X2_begin_X2 wd_X2_begin_6 dX2_begin_29 (fun s6 => ?_)
  refine r_aldn (pc := 32) C dX2_begin_32 0 rfl ?_
  refine r_iconst (pc := 33) (v := (0 : Int32)) C dX2_begin_33 ic_0 ?_
  refine pf_X2_6 (pc := 34) C (o := o0) (by omega) (by omega) hi_X2_begin_X2 wd_X2_begin_7 (isb_nar (by decide)) dX2_begin_34 (fun s7 => ?_)
  exact r_vret (pc := 37) C dX2_begin_37
theorem k_X2_begin {κ : oK} {nL : Nat} {cc : ByteArray} {own : String} {Ts : List Cond} {n : Nat} {ret : Option FieldType} {α : Type} {Q : α → Sg → State → Prop} {σ : Sg} {pc : Nat} {lv : List (Nat × Value)} {st : List Value} {x : oXp} {idx : Nat} {o0 : Nat} {a1 : Int32} {a2 : Int32} {a3 : Int32} {a4 : Int32} {a5 : Int32} {K : Unit → Sg → Option (α × Sg)} (C : oC κ (oX x) nL cc own Ts n ret) (hG : GoodIn Ts (wsV own idx RX2 yX2_begin wsX2_begin)) (hn : 3 + 1 ≤ n) (h1_o0 : 20 ≤ o0) (h2_o0 : o0 < 40) (hst : (st.map fun v => v.category).sum ≤ 8) (hd : decode cc pc = .ok (.invokevirtual idx, 3)) (kk : ∀ (r1 : Unit) (σ1 : Sg), oV κ (oX x) nL Q σ1 (pc + 3) lv (st) (K r1 σ1)) : oV κ (oX x) nL Q σ pc lv (.int a5 :: .int a4 :: .int a3 :: .int a2 :: .int a1 :: .ref (xa x o0) :: st) (bnd (f_X2_begin o0 a1 a2 a3 a4 a5 σ) K) := by
  have hI : oI (oX x) := oC_I C
  exact r_cVv (As := [.int a1, .int a2, .int a3, .int a4, .int a5]) (na := 5) (j := o0) (ci := 2) C (fun l => m_X2_begin l x hI o0 a1 a2 a3 a4 a5 h1_o0 h2_o0 σ) hG rfl (by decide +kernel) rfl (by decide) hn (by show o0 < 80; omega) rfl (eX2 x h1_o0 h2_o0 _) rfl rfl hst hd kk
set_option maxHeartbeats 4000000 in
set_option maxRecDepth 100000 in
theorem m_X0_addLine (l : Launch) (x : oXp) (hI : oI (oX x)) (a1 : Int32) (a2 : Int32) (a3 : Int32) (a4 : Int32) (σ : Sg) : oMI l yX0_addLine wsX0_addLine 4 (oX x) [.ref (xa x 1), .int a1, .int a2, .int a3, .int a4] σ (f_X0_addLine  a1 a2 a3 a4 σ) := by
  refine oMI_of (nL := 5) (cc := cX0_addLine) hI (by decide +kernel) rfl (Nat.le_of_ble_eq_true rfl) ?_
  intro κ C
  have C : oC κ (oX x) 5 cX0_addLine RX0 wsX0_addLine 4 (some .int) := C
  unfold f_X0_addLine
  show oV κ (oX x) 5 (oQi κ (oX x)) σ 0 [(0, .ref (xa x 1)), (1, .int a1), (2, .int a2), (3, .int a3), (4, .int a4)] [] _
  refine r_aldn (pc := 0) C dX0_addLine_0 0 rfl ?_
  refine gf_X0_1_1 (pc := 1) C hi_X0_addLine_X0 wd_X0_addLine_1 dX0_addLine_1 ?_
  refine r_bipush (pc := 4) (v := (10 : Int32)) C dX0_addLine_4 bp_10 ?_
  refine r_iclt (pc := 6) (tgt := 14) C dX0_addLine_6 (by decide) ?_ ?_
  · refine r_aldn (pc := 14) C dX0_addLine_14 0 rfl ?_
    refine gf_X0_0_1 (pc := 15) C hi_X0_addLine_X0 wd_X0_addLine_2 dX0_addLine_15 ?_
    refine r_aldn (pc := 18) C dX0_addLine_18 0 rfl ?_
    refine gf_X0_1_1 (pc := 19) C hi_X0_addLine_X0 wd_X0_addLine_1 dX0_addLine_19 ?_
    refine qa_Ln_14 (pc := 22) C dX0_addLine_22 (fun p1 h1_p1 h2_p1 => ?_)
    refine r_ildn (pc := 23) C dX0_addLine_23 1 rfl ?_
    refine r_ildn (pc := 24) C dX0_addLine_24 2 rfl ?_
    refine r_ildn (pc := 25) C dX0_addLine_25 3 rfl ?_
    refine r_ild (pc := 26) C dX0_addLine_26 4 rfl ?_
    refine r_aldn (pc := 28) C dX0_addLine_28 0 rfl ?_
    refine gf_X0_2_1 (pc := 29) C hi_X0_addLine_X0 wd_X0_addLine_3 dX0_addLine_29 ?_
    refine k_X2_begin (x := x) (pc := 32) (o0 := p1) (a1 := a1) (a2 := a2) (a3 := a3) (a4 := a4) (a5 := (σ 1 2)) C gX0_addLine_X2_begin (by omega) (by omega) (by omega) (Nat.le_of_ble_eq_true rfl) dX0_addLine_32 (fun _ s2 => ?_)
    refine r_aldn (pc := 35) C dX0_addLine_35 0 rfl ?_
    refine r_dup (pc := 36) C dX0_addLine_36 rfl ?_
    refine gf_X0_1_1 (pc := 37) C hi_X0_addLine_X0 wd_X0_addLine_1 dX0_addLine_37 ?_
    refine r_iconst (pc := 40) (v := (1 : Int32)) C dX0_addLine_40 ic_1 ?_
    refine r_iadd (pc := 41) C dX0_addLine_41 ?_
    refine pf_X0_1_1 (pc := 42) C hi_X0_addLine_X0 wd_X0_addLine_1 dX0_addLine_42 (fun s4 => ?_)
    refine r_aldn (pc := 45) C dX0_addLine_45 0 rfl ?_
    refine gf_X0_1_1 (pc := 46) C hi_X0_addLine_X0 wd_X0_addLine_1 dX0_addLine_46 ?_
    refine r_iconst (pc := 49) (v := (1 : Int32)) C dX0_addLine_49 ic_1 ?_
    refine r_isub (pc := 50) C dX0_addLine_50 ?_
    exact r_iret (pc := 51) C dX0_addLine_51
  · refine r_aldn (pc := 9) C dX0_addLine_9 0 rfl ?_
    refine gf_X0_1_1 (pc := 10) C hi_X0_addLine_X0 wd_X0_addLine_1 dX0_addLine_10 ?_
    exact r_iret (pc := 13) C dX0_addLine_13
theorem k_X0_addLine {κ : oK} {nL : Nat} {cc : ByteArray} {own : String} {Ts : List Cond} {n : Nat} {ret : Option FieldType} {α : Type} {Q : α → Sg → State → Prop} {σ : Sg} {pc : Nat} {lv : List (Nat × Value)} {st : List Value} {x : oXp} {idx : Nat} {a1 : Int32} {a2 : Int32} {a3 : Int32} {a4 : Int32} {K : Int32 → Sg → Option (α × Sg)} (C : oC κ (oX x) nL cc own Ts n ret) (hG : GoodIn Ts (wsV own idx RX0 yX0_addLine wsX0_addLine)) (hn : 4 + 1 ≤ n) (hst : (st.map fun v => v.category).sum ≤ 8) (hd : decode cc pc = .ok (.invokevirtual idx, 3)) (kk : ∀ (r1 : Int32) (σ1 : Sg), oV κ (oX x) nL Q σ1 (pc + 3) lv (.int r1 :: st) (K r1 σ1)) : oV κ (oX x) nL Q σ pc lv (.int a4 :: .int a3 :: .int a2 :: .int a1 :: .ref (xa x 1) :: st) (bnd (f_X0_addLine a1 a2 a3 a4 σ) K) := by
  have hI : oI (oX x) := oC_I C
  exact r_cVi (As := [.int a1, .int a2, .int a3, .int a4]) (na := 4) (j := 1) (ci := 0) C (fun l => m_X0_addLine l x hI a1 a2 a3 a4 σ) hG rfl (by decide +kernel) rfl (by decide) hn (by show 1 < 80; decide) rfl rfl rfl rfl hst hd kk
set_option maxHeartbeats 4000000 in
set_option maxRecDepth 100000 in
theorem v_X0_columnsOf_4_b {κ : oK} {x : oXp} (C : oC κ (oX x) 4 cX0_columnsOf RX0 wsX0_columnsOf 3 (some .int))  (rec4 : Int32 → Int32 → Int32 → Sg → Option (Int32 × Sg)) (hrec4 : ∀ (a1 : Int32) (a2 : Int32) (a3 : Int32) (σ : Sg), oV κ (oX x) 4 (oQi κ (oX x)) σ 4 [(0, .ref (xa x 1)), (1, .int a1), (2, .int a2), (3, .int a3)] [] (rec4 a1 a2 a3 σ)) (a1 : Int32) (a2 : Int32) (a3 : Int32) (σ : Sg) : oV κ (oX x) 4 (oQi κ (oX x)) σ 4 [(0, .ref (xa x 1)), (1, .int a1), (2, .int a2), (3, .int a3)] [] (f_X0_columnsOf_4_b   rec4 a1 a2 a3 σ) := by
  unfold f_X0_columnsOf_4_b
  refine r_ildn (pc := 4) C dX0_columnsOf_4 3 rfl ?_
  refine r_aldn (pc := 5) C dX0_columnsOf_5 0 rfl ?_
  refine gf_X0_1_1 (pc := 6) C hi_X0_columnsOf_X0 wd_X0_columnsOf_1 dX0_columnsOf_6 ?_
  refine r_icge (pc := 9) (tgt := 55) C dX0_columnsOf_9 (by decide) ?_ ?_
  · refine r_ildn (pc := 55) C dX0_columnsOf_55 2 rfl ?_
    exact r_iret (pc := 56) C dX0_columnsOf_56
  · refine r_aldn (pc := 12) C dX0_columnsOf_12 0 rfl ?_
    refine gf_X0_0_1 (pc := 13) C hi_X0_columnsOf_X0 wd_X0_columnsOf_2 dX0_columnsOf_13 ?_
    refine r_ildn (pc := 16) C dX0_columnsOf_16 3 rfl ?_
    refine qa_Ln_14 (pc := 17) C dX0_columnsOf_17 (fun p1 h1_p1 h2_p1 => ?_)
    refine gfN_X2_6 (pc := 18) C (o := p1) (by omega) (by omega) hi_X0_columnsOf_X2 nw_23 dX0_columnsOf_18 ?_
    refine r_ifne (pc := 21) (tgt := 49) C dX0_columnsOf_21 (by decide) ?_ ?_
    · refine r_iinc (pc := 49) (v := (1 : Int32)) (lv1 := fun y => [(0, _), (1, _), (2, _), (3, .int y)]) C dX0_columnsOf_49 ic_1 3 rfl (by decide) [1, 2, 3, 0] (fun _ => rfl) (fun v2 => ?_)
      refine r_goto (pc := 52) (tgt := 4) C dX0_columnsOf_52 (by decide) ?_
      exact hrec4 a1 a2 v2 σ
    · refine r_aldn (pc := 24) C dX0_columnsOf_24 0 rfl ?_
      refine gf_X0_0_1 (pc := 25) C hi_X0_columnsOf_X0 wd_X0_columnsOf_2 dX0_columnsOf_25 ?_
      refine r_ildn (pc := 28) C dX0_columnsOf_28 3 rfl ?_
      refine qa_Ln_14 (pc := 29) C dX0_columnsOf_29 (fun p3 h1_p3 h2_p3 => ?_)
      refine gfN_X2_3 (pc := 30) C (o := p3) (by omega) (by omega) hi_X0_columnsOf_X2 nw_18 dX0_columnsOf_30 ?_
      refine r_ildn (pc := 33) C dX0_columnsOf_33 1 rfl ?_
      refine r_icne (pc := 34) (tgt := 49) C dX0_columnsOf_34 (by decide) ?_ ?_
      · refine r_iinc (pc := 49) (v := (1 : Int32)) (lv1 := fun y => [(0, _), (1, _), (2, _), (3, .int y)]) C dX0_columnsOf_49 ic_1 3 rfl (by decide) [1, 2, 3, 0] (fun _ => rfl) (fun v4 => ?_)
        refine r_goto (pc := 52) (tgt := 4) C dX0_columnsOf_52 (by decide) ?_
        exact hrec4 a1 a2 v4 σ
      · refine r_ildn (pc := 37) C dX0_columnsOf_37 2 rfl ?_
        refine r_aldn (pc := 38) C dX0_columnsOf_38 0 rfl ?_
        refine gf_X0_0_1 (pc := 39) C hi_X0_columnsOf_X0 wd_X0_columnsOf_2 dX0_columnsOf_39 ?_
        refine r_ildn (pc := 42) C dX0_columnsOf_42 3 rfl ?_
        refine qa_Ln_14 (pc := 43) C dX0_columnsOf_43 (fun p5 h1_p5 h2_p5 => ?_)
        refine gfN_X2_2 (pc := 44) C (o := p5) (by omega) (by omega) hi_X0_columnsOf_X2 nw_16 dX0_columnsOf_44 ?_
        refine r_ior (pc := 47) C dX0_columnsOf_47 ?_
        refine r_nm (fun v6 => ?_)
        refine r_istn (pc := 48) (lv' := [(0, _), (1, _), (2, _), (3, _)]) C dX0_columnsOf_48 (by decide) [1, 2, 0, 3] rfl ?_
        refine r_iinc (pc := 49) (v := (1 : Int32)) (lv1 := fun y => [(0, _), (1, _), (2, _), (3, .int y)]) C dX0_columnsOf_49 ic_1 3 rfl (by decide) [1, 2, 3, 0] (fun _ => rfl) (fun v7 => ?_)
        refine r_goto (pc := 52) (tgt := 4) C dX0_columnsOf_52 (by decide) ?_
        exact hrec4 a1 v6 v7 σ
theorem v_X0_columnsOf_4 {κ : oK} {x : oXp} (C : oC κ (oX x) 4 cX0_columnsOf RX0 wsX0_columnsOf 3 (some .int))  : ∀ (n : Nat) (a1 : Int32) (a2 : Int32) (a3 : Int32) (σ : Sg), oV κ (oX x) 4 (oQi κ (oX x)) σ 4 [(0, .ref (xa x 1)), (1, .int a1), (2, .int a2), (3, .int a3)] [] (f_X0_columnsOf_4   n a1 a2 a3 σ) := by
  intro n
  induction n with
  | zero => intros; exact r_none
  | succ n ih => exact v_X0_columnsOf_4_b C  _ ih
set_option maxHeartbeats 4000000 in
set_option maxRecDepth 100000 in
theorem m_X0_columnsOf (l : Launch) (x : oXp) (hI : oI (oX x)) (a1 : Int32) (σ : Sg) : oMI l yX0_columnsOf wsX0_columnsOf 3 (oX x) [.ref (xa x 1), .int a1] σ (f_X0_columnsOf  a1 σ) := by
  refine oMI_of (nL := 4) (cc := cX0_columnsOf) hI (by decide +kernel) rfl (Nat.le_of_ble_eq_true rfl) ?_
  intro κ C
  have C : oC κ (oX x) 4 cX0_columnsOf RX0 wsX0_columnsOf 3 (some .int) := C
  unfold f_X0_columnsOf
  show oV κ (oX x) 4 (oQi κ (oX x)) σ 0 [(0, .ref (xa x 1)), (1, .int a1)] [] _
  refine r_iconst (pc := 0) (v := (0 : Int32)) C dX0_columnsOf_0 ic_0 ?_
  refine r_istn (pc := 1) (lv' := [(0, _), (1, _), (2, _)]) C dX0_columnsOf_1 (by decide) [1, 2, 0] rfl ?_
  refine r_iconst (pc := 2) (v := (0 : Int32)) C dX0_columnsOf_2 ic_0 ?_
  refine r_istn (pc := 3) (lv' := [(0, _), (1, _), (2, _), (3, _)]) C dX0_columnsOf_3 (by decide) [1, 2, 3, 0] rfl ?_
  exact v_X0_columnsOf_4 (x := x) C fuN a1 (0 : Int32) (0 : Int32) σ
theorem k_X0_columnsOf {κ : oK} {nL : Nat} {cc : ByteArray} {own : String} {Ts : List Cond} {n : Nat} {ret : Option FieldType} {α : Type} {Q : α → Sg → State → Prop} {σ : Sg} {pc : Nat} {lv : List (Nat × Value)} {st : List Value} {x : oXp} {idx : Nat} {a1 : Int32} {K : Int32 → Sg → Option (α × Sg)} (C : oC κ (oX x) nL cc own Ts n ret) (hG : GoodIn Ts (wsV own idx RX0 yX0_columnsOf wsX0_columnsOf)) (hn : 3 + 1 ≤ n) (hst : (st.map fun v => v.category).sum ≤ 8) (hd : decode cc pc = .ok (.invokevirtual idx, 3)) (kk : ∀ (r1 : Int32) (σ1 : Sg), oV κ (oX x) nL Q σ1 (pc + 3) lv (.int r1 :: st) (K r1 σ1)) : oV κ (oX x) nL Q σ pc lv (.int a1 :: .ref (xa x 1) :: st) (bnd (f_X0_columnsOf a1 σ) K) := by
  have hI : oI (oX x) := oC_I C
  exact r_cVi (As := [.int a1]) (na := 1) (j := 1) (ci := 0) C (fun l => m_X0_columnsOf l x hI a1 σ) hG rfl (by decide +kernel) rfl (by decide) hn (by show 1 < 80; decide) rfl rfl rfl rfl hst hd kk
set_option maxHeartbeats 4000000 in
set_option maxRecDepth 100000 in
theorem m_X2_copyFrom (l : Launch) (x : oXp) (hI : oI (oX x)) (o0 : Nat) (o1 : Nat) (h1_o0 : 20 ≤ o0) (h2_o0 : o0 < 40) (h1_o1 : 20 ≤ o1) (h2_o1 : o1 < 40) (σ : Sg) : oMV l yX2_copyFrom wsX2_copyFrom 4 (oX x) [.ref (xa x o0), .ref (xa x o1)] σ (f_X2_copyFrom  o0 o1 σ) := by
  refine oMV_of (nL := 2) (cc := cX2_copyFrom) hI (by decide +kernel) rfl (Nat.le_of_ble_eq_true rfl) ?_
  intro κ C
  have C : oC κ (oX x) 2 cX2_copyFrom RX2 wsX2_copyFrom 4 none := C
  unfold f_X2_copyFrom
  show oV κ (oX x) 2 (oQv κ (oX x)) σ 0 [(0, .ref (xa x o0)), (1, .ref (xa x o1))] [] _
  refine r_aldn (pc := 0) C dX2_copyFrom_0 0 rfl ?_
  refine r_aldn (pc := 1) C dX2_copyFrom_1 1 rfl ?_
  refine gf_X2_0 (pc := 2) C (o := o1) (by omega) (by omega) hi_X2_copyFrom_X2 wd_X2_copyFrom_1 dX2_copyFrom_2 ?_
  refine r_aldn (pc := 5) C dX2_copyFrom_5 1 rfl ?_
  refine gf_X2_1 (pc := 6) C (o := o1) (by omega) (by omega) hi_X2_copyFrom_X2 wd_X2_copyFrom_2 dX2_copyFrom_6 ?_
  refine r_aldn (pc := 9) C dX2_copyFrom_9 1 rfl ?_
  refine gf_X2_2 (pc := 10) C (o := o1) (by omega) (by omega) hi_X2_copyFrom_X2 wd_X2_copyFrom_3 dX2_copyFrom_10 ?_
  refine r_aldn (pc := 13) C dX2_copyFrom_13 1 rfl ?_
  refine gf_X2_3 (pc := 14) C (o := o1) (by omega) (by omega) hi_X2_copyFrom_X2 wd_X2_copyFrom_4 dX2_copyFrom_14 ?_
  refine r_aldn (pc := 17) C dX2_copyFrom_17 1 rfl ?_
  refine gf_X2_4 (pc := 18) C (o := o1) (by omega) (by omega) hi_X2_copyFrom_X2 wd_X2_copyFrom_5 dX2_copyFrom_18 ?_
  refine k_X2_begin (x := x) (pc := 21) (o0 := o0) (a1 := (σ o1 0)) (a2 := (σ o1 1)) (a3 := (σ o1 2)) (a4 := (σ o1 3)) (a5 := (σ o1 4)) C gX2_copyFrom_X2_begin (by omega) (by omega) (by omega) (Nat.le_of_ble_eq_true rfl) dX2_copyFrom_21 (fun _ s1 => ?_)
  refine r_aldn (pc := 24) C dX2_copyFrom_24 0 rfl ?_
  refine r_aldn (pc := 25) C dX2_copyFrom_25 1 rfl ?_
  refine gf_X2_5 (pc := 26) C (o := o1) (by omega) (by omega) hi_X2_copyFrom_X2 wd_X2_copyFrom_6 dX2_copyFrom_26 ?_
  refine pf_X2_5 (pc := 29) C (o := o0) (by omega) (by omega) hi_X2_copyFrom_X2 wd_X2_copyFrom_6 dX2_copyFrom_29 (fun s3 => ?_)
  refine r_aldn (pc := 32) C dX2_copyFrom_32 0 rfl ?_
  refine r_aldn (pc := 33) C dX2_copyFrom_33 1 rfl ?_
  refine gf_X2_6 (pc := 34) C (o := o1) (by omega) (by omega) hi_X2_copyFrom_X2 wd_X2_copyFrom_7 dX2_copyFrom_34 ?_
  refine r_ckb (fun h5 => ?_)
  refine pf_X2_6 (pc := 37) C (o := o0) (by omega) (by omega) hi_X2_copyFrom_X2 wd_X2_copyFrom_7 (isb_nar h5) dX2_copyFrom_37 (fun s4 => ?_)
  exact r_vret (pc := 40) C dX2_copyFrom_40
theorem k_X2_copyFrom {κ : oK} {nL : Nat} {cc : ByteArray} {own : String} {Ts : List Cond} {n : Nat} {ret : Option FieldType} {α : Type} {Q : α → Sg → State → Prop} {σ : Sg} {pc : Nat} {lv : List (Nat × Value)} {st : List Value} {x : oXp} {idx : Nat} {o0 : Nat} {o1 : Nat} {K : Unit → Sg → Option (α × Sg)} (C : oC κ (oX x) nL cc own Ts n ret) (hG : GoodIn Ts (wsV own idx RX2 yX2_copyFrom wsX2_copyFrom)) (hn : 4 + 1 ≤ n) (h1_o0 : 20 ≤ o0) (h2_o0 : o0 < 40) (h1_o1 : 20 ≤ o1) (h2_o1 : o1 < 40) (hst : (st.map fun v => v.category).sum ≤ 8) (hd : decode cc pc = .ok (.invokevirtual idx, 3)) (kk : ∀ (r1 : Unit) (σ1 : Sg), oV κ (oX x) nL Q σ1 (pc + 3) lv (st) (K r1 σ1)) : oV κ (oX x) nL Q σ pc lv (.ref (xa x o1) :: .ref (xa x o0) :: st) (bnd (f_X2_copyFrom o0 o1 σ) K) := by
  have hI : oI (oX x) := oC_I C
  exact r_cVv (As := [.ref (xa x o1)]) (na := 1) (j := o0) (ci := 2) C (fun l => m_X2_copyFrom l x hI o0 o1 h1_o0 h2_o0 h1_o1 h2_o1 σ) hG rfl (by decide +kernel) rfl (by decide) hn (by show o0 < 80; omega) rfl (eX2 x h1_o0 h2_o0 _) rfl rfl hst hd kk
set_option maxHeartbeats 4000000 in
set_option maxRecDepth 100000 in
theorem m_X6_clear (l : Launch) (x : oXp) (hI : oI (oX x)) (o0 : Nat) (h1_o0 : 44 ≤ o0) (h2_o0 : o0 < 62) (σ : Sg) : oMV l yX6_clear wsX6_clear 3 (oX x) [.ref (xa x o0)] σ (f_X6_clear  o0 σ) := by
  refine oMV_of (nL := 1) (cc := cX6_clear) hI (by decide +kernel) rfl (Nat.le_of_ble_eq_true rfl) ?_
  intro κ C
  have C : oC κ (oX x) 1 cX6_clear RX6 wsX6_clear 3 none := C
  unfold f_X6_clear
  show oV κ (oX x) 1 (oQv κ (oX x)) σ 0 [(0, .ref (xa x o0))] [] _
  refine r_aldn (pc := 0) C dX6_clear_0 0 rfl ?_
  refine r_iconst (pc := 1) (v := (0 : Int32)) C dX6_clear_1 ic_0 ?_
  refine pf_X6_1 (pc := 2) C (o := o0) (by omega) (by omega) hi_X6_clear_X6 wd_X6_clear_1 dX6_clear_2 (fun s1 => ?_)
  exact r_vret (pc := 5) C dX6_clear_5
theorem k_X6_clear {κ : oK} {nL : Nat} {cc : ByteArray} {own : String} {Ts : List Cond} {n : Nat} {ret : Option FieldType} {α : Type} {Q : α → Sg → State → Prop} {σ : Sg} {pc : Nat} {lv : List (Nat × Value)} {st : List Value} {x : oXp} {idx : Nat} {o0 : Nat} {K : Unit → Sg → Option (α × Sg)} (C : oC κ (oX x) nL cc own Ts n ret) (hG : GoodIn Ts (wsV own idx RX6 yX6_clear wsX6_clear)) (hn : 3 + 1 ≤ n) (h1_o0 : 44 ≤ o0) (h2_o0 : o0 < 62) (hst : (st.map fun v => v.category).sum ≤ 8) (hd : decode cc pc = .ok (.invokevirtual idx, 3)) (kk : ∀ (r1 : Unit) (σ1 : Sg), oV κ (oX x) nL Q σ1 (pc + 3) lv (st) (K r1 σ1)) : oV κ (oX x) nL Q σ pc lv (.ref (xa x o0) :: st) (bnd (f_X6_clear o0 σ) K) := by
  have hI : oI (oX x) := oC_I C
  exact r_cVv (As := []) (na := 0) (j := o0) (ci := 6) C (fun l => m_X6_clear l x hI o0 h1_o0 h2_o0 σ) hG rfl (by decide +kernel) rfl (by decide) hn (by show o0 < 80; omega) rfl (eX6 x h1_o0 h2_o0 _) rfl rfl hst hd kk
set_option maxHeartbeats 4000000 in
set_option maxRecDepth 100000 in
theorem m_X6_add (l : Launch) (x : oXp) (hI : oI (oX x)) (o0 : Nat) (a1 : Int32) (h1_o0 : 44 ≤ o0) (h2_o0 : o0 < 62) (σ : Sg) : oMV l yX6_add wsX6_add 3 (oX x) [.ref (xa x o0), .int a1] σ (f_X6_add  o0 a1 σ) := by
  refine oMV_of (nL := 2) (cc := cX6_add) hI (by decide +kernel) rfl (Nat.le_of_ble_eq_true rfl) ?_
  intro κ C
  have C : oC κ (oX x) 2 cX6_add RX6 wsX6_add 3 none := C
  unfold f_X6_add
  show oV κ (oX x) 2 (oQv κ (oX x)) σ 0 [(0, .ref (xa x o0)), (1, .int a1)] [] _
  refine r_aldn (pc := 0) C dX6_add_0 0 rfl ?_
  refine gf_X6_1 (pc := 1) C (o := o0) (by omega) (by omega) hi_X6_add_X6 wd_X6_add_1 dX6_add_1 ?_
  refine r_aldn (pc := 4) C dX6_add_4 0 rfl ?_
  refine gf_X6_0 (pc := 5) C (o := o0) (by omega) (by omega) hi_X6_add_X6 wd_X6_add_2 dX6_add_5 ?_
  refine ialen_oX_cells (pc := 8) C (o := (o0 + 18)) (by omega) (by omega) dX6_add_8 ?_
  refine r_icge (pc := 9) (tgt := 32) C dX6_add_9 (by decide) ?_ ?_
  · exact r_vret (pc := 32) C dX6_add_32
  · refine r_aldn (pc := 12) C dX6_add_12 0 rfl ?_
    refine gf_X6_0 (pc := 13) C (o := o0) (by omega) (by omega) hi_X6_add_X6 wd_X6_add_2 dX6_add_13 ?_
    refine r_aldn (pc := 16) C dX6_add_16 0 rfl ?_
    refine gf_X6_1 (pc := 17) C (o := o0) (by omega) (by omega) hi_X6_add_X6 wd_X6_add_1 dX6_add_17 ?_
    refine r_ildn (pc := 20) C dX6_add_20 1 rfl ?_
    refine iast_oX_cells (pc := 21) C (o := (o0 + 18)) (by omega) (by omega) dX6_add_21 (fun s1 => ?_)
    refine r_aldn (pc := 22) C dX6_add_22 0 rfl ?_
    refine r_dup (pc := 23) C dX6_add_23 rfl ?_
    refine gf_X6_1 (pc := 24) C (o := o0) (by omega) (by omega) hi_X6_add_X6 wd_X6_add_1 dX6_add_24 ?_
    refine r_iconst (pc := 27) (v := (1 : Int32)) C dX6_add_27 ic_1 ?_
    refine r_iadd (pc := 28) C dX6_add_28 ?_
    refine pf_X6_1 (pc := 29) C (o := o0) (by omega) (by omega) hi_X6_add_X6 wd_X6_add_1 dX6_add_29 (fun s2 => ?_)
    exact r_vret (pc := 32) C dX6_add_32
theorem k_X6_add {κ : oK} {nL : Nat} {cc : ByteArray} {own : String} {Ts : List Cond} {n : Nat} {ret : Option FieldType} {α : Type} {Q : α → Sg → State → Prop} {σ : Sg} {pc : Nat} {lv : List (Nat × Value)} {st : List Value} {x : oXp} {idx : Nat} {o0 : Nat} {a1 : Int32} {K : Unit → Sg → Option (α × Sg)} (C : oC κ (oX x) nL cc own Ts n ret) (hG : GoodIn Ts (wsV own idx RX6 yX6_add wsX6_add)) (hn : 3 + 1 ≤ n) (h1_o0 : 44 ≤ o0) (h2_o0 : o0 < 62) (hst : (st.map fun v => v.category).sum ≤ 8) (hd : decode cc pc = .ok (.invokevirtual idx, 3)) (kk : ∀ (r1 : Unit) (σ1 : Sg), oV κ (oX x) nL Q σ1 (pc + 3) lv (st) (K r1 σ1)) : oV κ (oX x) nL Q σ pc lv (.int a1 :: .ref (xa x o0) :: st) (bnd (f_X6_add o0 a1 σ) K) := by
  have hI : oI (oX x) := oC_I C
  exact r_cVv (As := [.int a1]) (na := 1) (j := o0) (ci := 6) C (fun l => m_X6_add l x hI o0 a1 h1_o0 h2_o0 σ) hG rfl (by decide +kernel) rfl (by decide) hn (by show o0 < 80; omega) rfl (eX6 x h1_o0 h2_o0 _) rfl rfl hst hd kk
set_option maxHeartbeats 4000000 in
set_option maxRecDepth 100000 in
theorem v_X6_copyFrom_6_b {κ : oK} {x : oXp} (C : oC κ (oX x) 3 cX6_copyFrom RX6 wsX6_copyFrom 4 none)  (rec6 : Nat → Nat → Int32 → Sg → Option (Unit × Sg)) (hrec6 : ∀ (o0 : Nat) (o1 : Nat) (a2 : Int32) (h1_o0 : 44 ≤ o0) (h2_o0 : o0 < 62) (h1_o1 : 44 ≤ o1) (h2_o1 : o1 < 62) (σ : Sg), oV κ (oX x) 3 (oQv κ (oX x)) σ 6 [(0, .ref (xa x o0)), (1, .ref (xa x o1)), (2, .int a2)] [] (rec6 o0 o1 a2 σ)) (o0 : Nat) (o1 : Nat) (a2 : Int32) (h1_o0 : 44 ≤ o0) (h2_o0 : o0 < 62) (h1_o1 : 44 ≤ o1) (h2_o1 : o1 < 62) (σ : Sg) : oV κ (oX x) 3 (oQv κ (oX x)) σ 6 [(0, .ref (xa x o0)), (1, .ref (xa x o1)), (2, .int a2)] [] (f_X6_copyFrom_6_b   rec6 o0 o1 a2 σ) := by
  unfold f_X6_copyFrom_6_b
  refine r_ildn (pc := 6) C dX6_copyFrom_6 2 rfl ?_
  refine r_aldn (pc := 7) C dX6_copyFrom_7 1 rfl ?_
  refine gf_X6_1 (pc := 8) C (o := o1) (by omega) (by omega) hi_X6_copyFrom_X6 wd_X6_copyFrom_1 dX6_copyFrom_8 ?_
  refine r_icge (pc := 11) (tgt := 30) C dX6_copyFrom_11 (by decide) ?_ ?_
  · exact r_vret (pc := 30) C dX6_copyFrom_30
  · refine r_aldn (pc := 14) C dX6_copyFrom_14 0 rfl ?_
    refine r_aldn (pc := 15) C dX6_copyFrom_15 1 rfl ?_
    refine gf_X6_0 (pc := 16) C (o := o1) (by omega) (by omega) hi_X6_copyFrom_X6 wd_X6_copyFrom_2 dX6_copyFrom_16 ?_
    refine r_ildn (pc := 19) C dX6_copyFrom_19 2 rfl ?_
    refine iald_oX_cells (pc := 20) C (o := (o1 + 18)) (by omega) (by omega) dX6_copyFrom_20 ?_
    refine k_X6_add (x := x) (pc := 21) (o0 := o0) (a1 := (rd (σ (o1 + 18)) a2)) C gX6_copyFrom_X6_add (by omega) (by omega) (by omega) (Nat.le_of_ble_eq_true rfl) dX6_copyFrom_21 (fun _ s1 => ?_)
    refine r_iinc (pc := 24) (v := (1 : Int32)) (lv1 := fun y => [(0, _), (1, _), (2, .int y)]) C dX6_copyFrom_24 ic_1 2 rfl (by decide) [1, 2, 0] (fun _ => rfl) (fun v3 => ?_)
    refine r_goto (pc := 27) (tgt := 6) C dX6_copyFrom_27 (by decide) ?_
    exact hrec6 o0 o1 v3 (by omega) (by omega) (by omega) (by omega) s1
theorem v_X6_copyFrom_6 {κ : oK} {x : oXp} (C : oC κ (oX x) 3 cX6_copyFrom RX6 wsX6_copyFrom 4 none)  : ∀ (n : Nat) (o0 : Nat) (o1 : Nat) (a2 : Int32) (h1_o0 : 44 ≤ o0) (h2_o0 : o0 < 62) (h1_o1 : 44 ≤ o1) (h2_o1 : o1 < 62) (σ : Sg), oV κ (oX x) 3 (oQv κ (oX x)) σ 6 [(0, .ref (xa x o0)), (1, .ref (xa x o1)), (2, .int a2)] [] (f_X6_copyFrom_6   n o0 o1 a2 σ) := by
  intro n
  induction n with
  | zero => intros; exact r_none
  | succ n ih => exact v_X6_copyFrom_6_b C  _ ih
set_option maxHeartbeats 4000000 in
set_option maxRecDepth 100000 in
theorem m_X6_copyFrom (l : Launch) (x : oXp) (hI : oI (oX x)) (o0 : Nat) (o1 : Nat) (h1_o0 : 44 ≤ o0) (h2_o0 : o0 < 62) (h1_o1 : 44 ≤ o1) (h2_o1 : o1 < 62) (σ : Sg) : oMV l yX6_copyFrom wsX6_copyFrom 4 (oX x) [.ref (xa x o0), .ref (xa x o1)] σ (f_X6_copyFrom  o0 o1 σ) := by
  refine oMV_of (nL := 3) (cc := cX6_copyFrom) hI (by decide +kernel) rfl (Nat.le_of_ble_eq_true rfl) ?_
  intro κ C
  have C : oC κ (oX x) 3 cX6_copyFrom RX6 wsX6_copyFrom 4 none := C
  unfold f_X6_copyFrom
  show oV κ (oX x) 3 (oQv κ (oX x)) σ 0 [(0, .ref (xa x o0)), (1, .ref (xa x o1))] [] _
  refine r_aldn (pc := 0) C dX6_copyFrom_0 0 rfl ?_
  refine k_X6_clear (x := x) (pc := 1) (o0 := o0) C gX6_copyFrom_X6_clear (by omega) (by omega) (by omega) (Nat.le_of_ble_eq_true rfl) dX6_copyFrom_1 (fun _ s4 => ?_)
  refine r_iconst (pc := 4) (v := (0 : Int32)) C dX6_copyFrom_4 ic_0 ?_
  refine r_istn (pc := 5) (lv' := [(0, _), (1, _), (2, _)]) C dX6_copyFrom_5 (by decide) [1, 2, 0] rfl ?_
  exact v_X6_copyFrom_6 (x := x) C fuN o0 o1 (0 : Int32) (by omega) (by omega) (by omega) (by omega) s4
theorem k_X6_copyFrom {κ : oK} {nL : Nat} {cc : ByteArray} {own : String} {Ts : List Cond} {n : Nat} {ret : Option FieldType} {α : Type} {Q : α → Sg → State → Prop} {σ : Sg} {pc : Nat} {lv : List (Nat × Value)} {st : List Value} {x : oXp} {idx : Nat} {o0 : Nat} {o1 : Nat} {K : Unit → Sg → Option (α × Sg)} (C : oC κ (oX x) nL cc own Ts n ret) (hG : GoodIn Ts (wsV own idx RX6 yX6_copyFrom wsX6_copyFrom)) (hn : 4 + 1 ≤ n) (h1_o0 : 44 ≤ o0) (h2_o0 : o0 < 62) (h1_o1 : 44 ≤ o1) (h2_o1 : o1 < 62) (hst : (st.map fun v => v.category).sum ≤ 8) (hd : decode cc pc = .ok (.invokevirtual idx, 3)) (kk : ∀ (r1 : Unit) (σ1 : Sg), oV κ (oX x) nL Q σ1 (pc + 3) lv (st) (K r1 σ1)) : oV κ (oX x) nL Q σ pc lv (.ref (xa x o1) :: .ref (xa x o0) :: st) (bnd (f_X6_copyFrom o0 o1 σ) K) := by
  have hI : oI (oX x) := oC_I C
  exact r_cVv (As := [.ref (xa x o1)]) (na := 1) (j := o0) (ci := 6) C (fun l => m_X6_copyFrom l x hI o0 o1 h1_o0 h2_o0 h1_o1 h2_o1 σ) hG rfl (by decide +kernel) rfl (by decide) hn (by show o0 < 80; omega) rfl (eX6 x h1_o0 h2_o0 _) rfl rfl hst hd kk
set_option maxHeartbeats 4000000 in
set_option maxRecDepth 100000 in
theorem m_X1_copyFrom (l : Launch) (x : oXp) (hI : oI (oX x)) (o0 : Nat) (o1 : Nat) (h1_o0 : 40 ≤ o0) (h2_o0 : o0 < 44) (h1_o1 : 40 ≤ o1) (h2_o1 : o1 < 44) (σ : Sg) : oMV l yX1_copyFrom wsX1_copyFrom 5 (oX x) [.ref (xa x o0), .ref (xa x o1)] σ (f_X1_copyFrom  o0 o1 σ) := by
  refine oMV_of (nL := 2) (cc := cX1_copyFrom) hI (by decide +kernel) rfl (Nat.le_of_ble_eq_true rfl) ?_
  intro κ C
  have C : oC κ (oX x) 2 cX1_copyFrom RX1 wsX1_copyFrom 5 none := C
  unfold f_X1_copyFrom
  show oV κ (oX x) 2 (oQv κ (oX x)) σ 0 [(0, .ref (xa x o0)), (1, .ref (xa x o1))] [] _
  refine r_aldn (pc := 0) C dX1_copyFrom_0 0 rfl ?_
  refine gf_X1_1 (pc := 1) C (o := o0) (by omega) (by omega) hi_X1_copyFrom_X1 wd_X1_copyFrom_1 dX1_copyFrom_1 ?_
  refine r_aldn (pc := 4) C dX1_copyFrom_4 1 rfl ?_
  refine gf_X1_1 (pc := 5) C (o := o1) (by omega) (by omega) hi_X1_copyFrom_X1 wd_X1_copyFrom_1 dX1_copyFrom_5 ?_
  refine k_X6_copyFrom (x := x) (pc := 8) (o0 := (o0 + 8)) (o1 := (o1 + 8)) C gX1_copyFrom_X6_copyFrom (by omega) (by omega) (by omega) (by omega) (by omega) (Nat.le_of_ble_eq_true rfl) dX1_copyFrom_8 (fun _ s1 => ?_)
  refine r_aldn (pc := 11) C dX1_copyFrom_11 0 rfl ?_
  refine r_aldn (pc := 12) C dX1_copyFrom_12 1 rfl ?_
  refine gf_X1_0 (pc := 13) C (o := o1) (by omega) (by omega) hi_X1_copyFrom_X1 wd_X1_copyFrom_2 dX1_copyFrom_13 ?_
  refine r_ckb (fun h4 => ?_)
  refine pf_X1_0 (pc := 16) C (o := o0) (by omega) (by omega) hi_X1_copyFrom_X1 wd_X1_copyFrom_2 (isb_nar h4) dX1_copyFrom_16 (fun s3 => ?_)
  exact r_vret (pc := 19) C dX1_copyFrom_19
theorem k_X1_copyFrom {κ : oK} {nL : Nat} {cc : ByteArray} {own : String} {Ts : List Cond} {n : Nat} {ret : Option FieldType} {α : Type} {Q : α → Sg → State → Prop} {σ : Sg} {pc : Nat} {lv : List (Nat × Value)} {st : List Value} {x : oXp} {idx : Nat} {o0 : Nat} {o1 : Nat} {K : Unit → Sg → Option (α × Sg)} (C : oC κ (oX x) nL cc own Ts n ret) (hG : GoodIn Ts (wsV own idx RX1 yX1_copyFrom wsX1_copyFrom)) (hn : 5 + 1 ≤ n) (h1_o0 : 40 ≤ o0) (h2_o0 : o0 < 44) (h1_o1 : 40 ≤ o1) (h2_o1 : o1 < 44) (hst : (st.map fun v => v.category).sum ≤ 8) (hd : decode cc pc = .ok (.invokevirtual idx, 3)) (kk : ∀ (r1 : Unit) (σ1 : Sg), oV κ (oX x) nL Q σ1 (pc + 3) lv (st) (K r1 σ1)) : oV κ (oX x) nL Q σ pc lv (.ref (xa x o1) :: .ref (xa x o0) :: st) (bnd (f_X1_copyFrom o0 o1 σ) K) := by
  have hI : oI (oX x) := oC_I C
  exact r_cVv (As := [.ref (xa x o1)]) (na := 1) (j := o0) (ci := 1) C (fun l => m_X1_copyFrom l x hI o0 o1 h1_o0 h2_o0 h1_o1 h2_o1 σ) hG rfl (by decide +kernel) rfl (by decide) hn (by show o0 < 80; omega) rfl (eX1 x h1_o0 h2_o0 _) rfl rfl hst hd kk
set_option maxHeartbeats 4000000 in
set_option maxRecDepth 100000 in
theorem v_X0_copyFrom_107_b {κ : oK} {x : oXp} (C : oC κ (oX x) 3 cX0_copyFrom RX0 wsX0_copyFrom 6 none)  (rec107 : Nat → Nat → Int32 → Sg → Option (Unit × Sg)) (hrec107 : ∀ (o0 : Nat) (o1 : Nat) (a2 : Int32) (h1_o0 : 1 ≤ o0) (h2_o0 : o0 < 3) (h1_o1 : 1 ≤ o1) (h2_o1 : o1 < 3) (σ : Sg), oV κ (oX x) 3 (oQv κ (oX x)) σ 107 [(0, .ref (xa x o0)), (1, .ref (xa x o1)), (2, .int a2)] [] (rec107 o0 o1 a2 σ)) (o0 : Nat) (o1 : Nat) (a2 : Int32) (h1_o0 : 1 ≤ o0) (h2_o0 : o0 < 3) (h1_o1 : 1 ≤ o1) (h2_o1 : o1 < 3) (σ : Sg) : oV κ (oX x) 3 (oQv κ (oX x)) σ 107 [(0, .ref (xa x o0)), (1, .ref (xa x o1)), (2, .int a2)] [] (f_X0_copyFrom_107_b   rec107 o0 o1 a2 σ) := by
  unfold f_X0_copyFrom_107_b
  refine r_ildn (pc := 107) C dX0_copyFrom_107 2 rfl ?_
  refine r_iconst (pc := 108) (v := (2 : Int32)) C dX0_copyFrom_108 ic_2 ?_
  refine r_icge (pc := 109) (tgt := 133) C dX0_copyFrom_109 (by decide) ?_ ?_
  · exact r_vret (pc := 133) C dX0_copyFrom_133
  · refine r_aldn (pc := 112) C dX0_copyFrom_112 0 rfl ?_
    refine gf_X0_9 (pc := 113) C (o := o0) (by omega) (by omega) hi_X0_copyFrom_X0 wd_X0_copyFrom_14 dX0_copyFrom_113 ?_
    refine r_ildn (pc := 116) C dX0_copyFrom_116 2 rfl ?_
    refine qa_Lw (pc := 117) C (o := (o0 + 17)) (by omega) (by omega) dX0_copyFrom_117 (fun p1 h1_p1 h2_p1 => ?_)
    refine r_aldn (pc := 118) C dX0_copyFrom_118 1 rfl ?_
    refine gf_X0_9 (pc := 119) C (o := o1) (by omega) (by omega) hi_X0_copyFrom_X0 wd_X0_copyFrom_14 dX0_copyFrom_119 ?_
    refine r_ildn (pc := 122) C dX0_copyFrom_122 2 rfl ?_
    refine qa_Lw (pc := 123) C (o := (o1 + 17)) (by omega) (by omega) dX0_copyFrom_123 (fun p2 h1_p2 h2_p2 => ?_)
    refine k_X1_copyFrom (x := x) (pc := 124) (o0 := p1) (o1 := p2) C gX0_copyFrom_X1_copyFrom (by omega) (by omega) (by omega) (by omega) (by omega) (Nat.le_of_ble_eq_true rfl) dX0_copyFrom_124 (fun _ s3 => ?_)
    refine r_iinc (pc := 127) (v := (1 : Int32)) (lv1 := fun y => [(0, _), (1, _), (2, .int y)]) C dX0_copyFrom_127 ic_1 2 rfl (by decide) [1, 2, 0] (fun _ => rfl) (fun v5 => ?_)
    refine r_goto (pc := 130) (tgt := 107) C dX0_copyFrom_130 (by decide) ?_
    exact hrec107 o0 o1 v5 (by omega) (by omega) (by omega) (by omega) s3
theorem v_X0_copyFrom_107 {κ : oK} {x : oXp} (C : oC κ (oX x) 3 cX0_copyFrom RX0 wsX0_copyFrom 6 none)  : ∀ (n : Nat) (o0 : Nat) (o1 : Nat) (a2 : Int32) (h1_o0 : 1 ≤ o0) (h2_o0 : o0 < 3) (h1_o1 : 1 ≤ o1) (h2_o1 : o1 < 3) (σ : Sg), oV κ (oX x) 3 (oQv κ (oX x)) σ 107 [(0, .ref (xa x o0)), (1, .ref (xa x o1)), (2, .int a2)] [] (f_X0_copyFrom_107   n o0 o1 a2 σ) := by
  intro n
  induction n with
  | zero => intros; exact r_none
  | succ n ih => exact v_X0_copyFrom_107_b C  _ ih
set_option maxHeartbeats 4000000 in
set_option maxRecDepth 100000 in
theorem v_X0_copyFrom_10_b {κ : oK} {x : oXp} (C : oC κ (oX x) 3 cX0_copyFrom RX0 wsX0_copyFrom 6 none)  (rec10 : Nat → Nat → Int32 → Sg → Option (Unit × Sg)) (hrec10 : ∀ (o0 : Nat) (o1 : Nat) (a2 : Int32) (h1_o0 : 1 ≤ o0) (h2_o0 : o0 < 3) (h1_o1 : 1 ≤ o1) (h2_o1 : o1 < 3) (σ : Sg), oV κ (oX x) 3 (oQv κ (oX x)) σ 10 [(0, .ref (xa x o0)), (1, .ref (xa x o1)), (2, .int a2)] [] (rec10 o0 o1 a2 σ)) (o0 : Nat) (o1 : Nat) (a2 : Int32) (h1_o0 : 1 ≤ o0) (h2_o0 : o0 < 3) (h1_o1 : 1 ≤ o1) (h2_o1 : o1 < 3) (σ : Sg) : oV κ (oX x) 3 (oQv κ (oX x)) σ 10 [(0, .ref (xa x o0)), (1, .ref (xa x o1)), (2, .int a2)] [] (f_X0_copyFrom_10_b   rec10 o0 o1 a2 σ) := by
  unfold f_X0_copyFrom_10_b
  refine r_ildn (pc := 10) C dX0_copyFrom_10 2 rfl ?_
  refine r_bipush (pc := 11) (v := (10 : Int32)) C dX0_copyFrom_11 bp_10 ?_
  refine r_icge (pc := 13) (tgt := 37) C dX0_copyFrom_13 (by decide) ?_ ?_
  · refine r_aldn (pc := 37) C dX0_copyFrom_37 0 rfl ?_
    refine r_aldn (pc := 38) C dX0_copyFrom_38 1 rfl ?_
    refine gf_X0_2 (pc := 39) C (o := o1) (by omega) (by omega) hi_X0_copyFrom_X0 wd_X0_copyFrom_3 dX0_copyFrom_39 ?_
    refine pf_X0_2 (pc := 42) C (o := o0) (by omega) (by omega) hi_X0_copyFrom_X0 wd_X0_copyFrom_3 dX0_copyFrom_42 (fun s6 => ?_)
    refine r_aldn (pc := 45) C dX0_copyFrom_45 0 rfl ?_
    refine r_aldn (pc := 46) C dX0_copyFrom_46 1 rfl ?_
    refine gf_X0_3 (pc := 47) C (o := o1) (by omega) (by omega) hi_X0_copyFrom_X0 wd_X0_copyFrom_4 dX0_copyFrom_47 ?_
    refine pf_X0_3 (pc := 50) C (o := o0) (by omega) (by omega) hi_X0_copyFrom_X0 wd_X0_copyFrom_4 dX0_copyFrom_50 (fun s7 => ?_)
    refine r_aldn (pc := 53) C dX0_copyFrom_53 0 rfl ?_
    refine r_aldn (pc := 54) C dX0_copyFrom_54 1 rfl ?_
    refine gf_X0_4 (pc := 55) C (o := o1) (by omega) (by omega) hi_X0_copyFrom_X0 wd_X0_copyFrom_5 dX0_copyFrom_55 ?_
    refine pf_X0_4 (pc := 58) C (o := o0) (by omega) (by omega) hi_X0_copyFrom_X0 wd_X0_copyFrom_5 dX0_copyFrom_58 (fun s8 => ?_)
    refine r_aldn (pc := 61) C dX0_copyFrom_61 1 rfl ?_
    refine gf_X0_5 (pc := 62) C (o := o1) (by omega) (by omega) hi_X0_copyFrom_X0 wd_X0_copyFrom_6 dX0_copyFrom_62 ?_
    refine r_iconst (pc := 65) (v := (0 : Int32)) C dX0_copyFrom_65 ic_0 ?_
    refine r_aldn (pc := 66) C dX0_copyFrom_66 0 rfl ?_
    refine gf_X0_5 (pc := 67) C (o := o0) (by omega) (by omega) hi_X0_copyFrom_X0 wd_X0_copyFrom_6 dX0_copyFrom_67 ?_
    refine r_iconst (pc := 70) (v := (0 : Int32)) C dX0_copyFrom_70 ic_0 ?_
    refine r_iconst (pc := 71) (v := (5 : Int32)) C dX0_copyFrom_71 ic_5 ?_
    refine r_acopy (pc := 72) (k0 := (o1 + 15)) (k1 := (o0 + 15)) C wd_X0_copyFrom_7 wd_X0_copyFrom_8 wd_X0_copyFrom_9 wd_X0_copyFrom_10 (by show _ < 80; omega) (by show _ < 80; omega) (eoX_ink x (k := (o1 + 15)) (by omega) (by omega) _) (eoX_ink x (k := (o0 + 15)) (by omega) (by omega) _) (eoX_ink x (k := (o0 + 15)) (by omega) (by omega) _) rfl (by omega) (Nat.le_of_ble_eq_true rfl) dX0_copyFrom_72 (fun s9 => ?_)
    refine r_aldn (pc := 75) C dX0_copyFrom_75 0 rfl ?_
    refine r_aldn (pc := 76) C dX0_copyFrom_76 1 rfl ?_
    refine gf_X0_6 (pc := 77) C (o := o1) (by omega) (by omega) hi_X0_copyFrom_X0 wd_X0_copyFrom_11 dX0_copyFrom_77 ?_
    refine pf_X0_6 (pc := 80) C (o := o0) (by omega) (by omega) hi_X0_copyFrom_X0 wd_X0_copyFrom_11 dX0_copyFrom_80 (fun s10 => ?_)
    refine r_aldn (pc := 83) C dX0_copyFrom_83 0 rfl ?_
    refine gf_X0_7 (pc := 84) C (o := o0) (by omega) (by omega) hi_X0_copyFrom_X0 wd_X0_copyFrom_12 dX0_copyFrom_84 ?_
    refine r_aldn (pc := 87) C dX0_copyFrom_87 1 rfl ?_
    refine gf_X0_7 (pc := 88) C (o := o1) (by omega) (by omega) hi_X0_copyFrom_X0 wd_X0_copyFrom_12 dX0_copyFrom_88 ?_
    refine k_X6_copyFrom (x := x) (pc := 91) (o0 := (o0 + 43)) (o1 := (o1 + 43)) C gX0_copyFrom_X6_copyFrom (by omega) (by omega) (by omega) (by omega) (by omega) (Nat.le_of_ble_eq_true rfl) dX0_copyFrom_91 (fun _ s11 => ?_)
    refine r_aldn (pc := 94) C dX0_copyFrom_94 0 rfl ?_
    refine gf_X0_8 (pc := 95) C (o := o0) (by omega) (by omega) hi_X0_copyFrom_X0 wd_X0_copyFrom_13 dX0_copyFrom_95 ?_
    refine r_aldn (pc := 98) C dX0_copyFrom_98 1 rfl ?_
    refine gf_X0_8 (pc := 99) C (o := o1) (by omega) (by omega) hi_X0_copyFrom_X0 wd_X0_copyFrom_13 dX0_copyFrom_99 ?_
    refine k_X6_copyFrom (x := x) (pc := 102) (o0 := (o0 + 45)) (o1 := (o1 + 45)) C gX0_copyFrom_X6_copyFrom (by omega) (by omega) (by omega) (by omega) (by omega) (Nat.le_of_ble_eq_true rfl) dX0_copyFrom_102 (fun _ s13 => ?_)
    refine r_iconst (pc := 105) (v := (0 : Int32)) C dX0_copyFrom_105 ic_0 ?_
    refine r_istn (pc := 106) (lv' := [(0, _), (1, _), (2, _)]) C dX0_copyFrom_106 (by decide) [1, 2, 0] rfl ?_
    exact v_X0_copyFrom_107 (x := x) C fuN o0 o1 (0 : Int32) (by omega) (by omega) (by omega) (by omega) s13
  · refine r_aldn (pc := 16) C dX0_copyFrom_16 0 rfl ?_
    refine gf_X0_0 (pc := 17) C (o := o0) (by omega) (by omega) hi_X0_copyFrom_X0 wd_X0_copyFrom_2 dX0_copyFrom_17 ?_
    refine r_ildn (pc := 20) C dX0_copyFrom_20 2 rfl ?_
    refine qa_Ln (pc := 21) C (o := (o0 + 13)) (by omega) (by omega) dX0_copyFrom_21 (fun p15 h1_p15 h2_p15 => ?_)
    refine r_aldn (pc := 22) C dX0_copyFrom_22 1 rfl ?_
    refine gf_X0_0 (pc := 23) C (o := o1) (by omega) (by omega) hi_X0_copyFrom_X0 wd_X0_copyFrom_2 dX0_copyFrom_23 ?_
    refine r_ildn (pc := 26) C dX0_copyFrom_26 2 rfl ?_
    refine qa_Ln (pc := 27) C (o := (o1 + 13)) (by omega) (by omega) dX0_copyFrom_27 (fun p16 h1_p16 h2_p16 => ?_)
    refine k_X2_copyFrom (x := x) (pc := 28) (o0 := p15) (o1 := p16) C gX0_copyFrom_X2_copyFrom (by omega) (by omega) (by omega) (by omega) (by omega) (Nat.le_of_ble_eq_true rfl) dX0_copyFrom_28 (fun _ s17 => ?_)
    refine r_iinc (pc := 31) (v := (1 : Int32)) (lv1 := fun y => [(0, _), (1, _), (2, .int y)]) C dX0_copyFrom_31 ic_1 2 rfl (by decide) [1, 2, 0] (fun _ => rfl) (fun v19 => ?_)
    refine r_goto (pc := 34) (tgt := 10) C dX0_copyFrom_34 (by decide) ?_
    exact hrec10 o0 o1 v19 (by omega) (by omega) (by omega) (by omega) s17
theorem v_X0_copyFrom_10 {κ : oK} {x : oXp} (C : oC κ (oX x) 3 cX0_copyFrom RX0 wsX0_copyFrom 6 none)  : ∀ (n : Nat) (o0 : Nat) (o1 : Nat) (a2 : Int32) (h1_o0 : 1 ≤ o0) (h2_o0 : o0 < 3) (h1_o1 : 1 ≤ o1) (h2_o1 : o1 < 3) (σ : Sg), oV κ (oX x) 3 (oQv κ (oX x)) σ 10 [(0, .ref (xa x o0)), (1, .ref (xa x o1)), (2, .int a2)] [] (f_X0_copyFrom_10   n o0 o1 a2 σ) := by
  intro n
  induction n with
  | zero => intros; exact r_none
  | succ n ih => exact v_X0_copyFrom_10_b C  _ ih
set_option maxHeartbeats 4000000 in
set_option maxRecDepth 100000 in
theorem m_X0_copyFrom (l : Launch) (x : oXp) (hI : oI (oX x)) (o0 : Nat) (o1 : Nat) (h1_o0 : 1 ≤ o0) (h2_o0 : o0 < 3) (h1_o1 : 1 ≤ o1) (h2_o1 : o1 < 3) (σ : Sg) : oMV l yX0_copyFrom wsX0_copyFrom 6 (oX x) [.ref (xa x o0), .ref (xa x o1)] σ (f_X0_copyFrom  o0 o1 σ) := by
  refine oMV_of (nL := 3) (cc := cX0_copyFrom) hI (by decide +kernel) rfl (Nat.le_of_ble_eq_true rfl) ?_
  intro κ C
  have C : oC κ (oX x) 3 cX0_copyFrom RX0 wsX0_copyFrom 6 none := C
  unfold f_X0_copyFrom
  show oV κ (oX x) 3 (oQv κ (oX x)) σ 0 [(0, .ref (xa x o0)), (1, .ref (xa x o1))] [] _
  refine r_aldn (pc := 0) C dX0_copyFrom_0 0 rfl ?_
  refine r_aldn (pc := 1) C dX0_copyFrom_1 1 rfl ?_
  refine gf_X0_1 (pc := 2) C (o := o1) (by omega) (by omega) hi_X0_copyFrom_X0 wd_X0_copyFrom_1 dX0_copyFrom_2 ?_
  refine pf_X0_1 (pc := 5) C (o := o0) (by omega) (by omega) hi_X0_copyFrom_X0 wd_X0_copyFrom_1 dX0_copyFrom_5 (fun s20 => ?_)
  refine r_iconst (pc := 8) (v := (0 : Int32)) C dX0_copyFrom_8 ic_0 ?_
  refine r_istn (pc := 9) (lv' := [(0, _), (1, _), (2, _)]) C dX0_copyFrom_9 (by decide) [1, 2, 0] rfl ?_
  exact v_X0_copyFrom_10 (x := x) C fuN o0 o1 (0 : Int32) (by omega) (by omega) (by omega) (by omega) s20
theorem k_X0_copyFrom {κ : oK} {nL : Nat} {cc : ByteArray} {own : String} {Ts : List Cond} {n : Nat} {ret : Option FieldType} {α : Type} {Q : α → Sg → State → Prop} {σ : Sg} {pc : Nat} {lv : List (Nat × Value)} {st : List Value} {x : oXp} {idx : Nat} {o0 : Nat} {o1 : Nat} {K : Unit → Sg → Option (α × Sg)} (C : oC κ (oX x) nL cc own Ts n ret) (hG : GoodIn Ts (wsV own idx RX0 yX0_copyFrom wsX0_copyFrom)) (hn : 6 + 1 ≤ n) (h1_o0 : 1 ≤ o0) (h2_o0 : o0 < 3) (h1_o1 : 1 ≤ o1) (h2_o1 : o1 < 3) (hst : (st.map fun v => v.category).sum ≤ 8) (hd : decode cc pc = .ok (.invokevirtual idx, 3)) (kk : ∀ (r1 : Unit) (σ1 : Sg), oV κ (oX x) nL Q σ1 (pc + 3) lv (st) (K r1 σ1)) : oV κ (oX x) nL Q σ pc lv (.ref (xa x o1) :: .ref (xa x o0) :: st) (bnd (f_X0_copyFrom o0 o1 σ) K) := by
  have hI : oI (oX x) := oC_I C
  exact r_cVv (As := [.ref (xa x o1)]) (na := 1) (j := o0) (ci := 0) C (fun l => m_X0_copyFrom l x hI o0 o1 h1_o0 h2_o0 h1_o1 h2_o1 σ) hG rfl (by decide +kernel) rfl (by decide) hn (by show o0 < 80; omega) rfl (eX0 x h1_o0 h2_o0 _) rfl rfl hst hd kk
set_option maxHeartbeats 4000000 in
set_option maxRecDepth 100000 in
theorem m_X0_draw (l : Launch) (x : oXp) (hI : oI (oX x))  (σ : Sg) : oMI l yX0_draw wsX0_draw 3 (oX x) [.ref (xa x 1)] σ (f_X0_draw   σ) := by
  refine oMI_of (nL := 1) (cc := cX0_draw) hI (by decide +kernel) rfl (Nat.le_of_ble_eq_true rfl) ?_
  intro κ C
  have C : oC κ (oX x) 1 cX0_draw RX0 wsX0_draw 3 (some .int) := C
  unfold f_X0_draw
  show oV κ (oX x) 1 (oQi κ (oX x)) σ 0 [(0, .ref (xa x 1))] [] _
  refine r_aldn (pc := 0) C dX0_draw_0 0 rfl ?_
  refine r_aldn (pc := 1) C dX0_draw_1 0 rfl ?_
  refine gf_X0_6_1 (pc := 2) C hi_X0_draw_X0 wd_X0_draw_1 dX0_draw_2 ?_
  refine r_ldc (pc := 5) (v := (1103515245 : Int32)) C dX0_draw_5 wd_X0_draw_2 ?_
  refine r_imul (pc := 7) C dX0_draw_7 ?_
  refine r_sipush (pc := 8) (v := (12345 : Int32)) C dX0_draw_8 sp_12345 ?_
  refine r_iadd (pc := 11) C dX0_draw_11 ?_
  refine pf_X0_6_1 (pc := 12) C hi_X0_draw_X0 wd_X0_draw_1 dX0_draw_12 (fun s1 => ?_)
  refine r_aldn (pc := 15) C dX0_draw_15 0 rfl ?_
  refine gf_X0_6_1 (pc := 16) C hi_X0_draw_X0 wd_X0_draw_1 dX0_draw_16 ?_
  refine r_bipush (pc := 19) (v := (8 : Int32)) C dX0_draw_19 bp_8 ?_
  refine r_iushr (pc := 21) C dX0_draw_21 ?_
  exact r_iret (pc := 22) C dX0_draw_22
theorem k_X0_draw {κ : oK} {nL : Nat} {cc : ByteArray} {own : String} {Ts : List Cond} {n : Nat} {ret : Option FieldType} {α : Type} {Q : α → Sg → State → Prop} {σ : Sg} {pc : Nat} {lv : List (Nat × Value)} {st : List Value} {x : oXp} {idx : Nat}  {K : Int32 → Sg → Option (α × Sg)} (C : oC κ (oX x) nL cc own Ts n ret) (hG : GoodIn Ts (wsV own idx RX0 yX0_draw wsX0_draw)) (hn : 3 + 1 ≤ n) (hst : (st.map fun v => v.category).sum ≤ 8) (hd : decode cc pc = .ok (.invokevirtual idx, 3)) (kk : ∀ (r1 : Int32) (σ1 : Sg), oV κ (oX x) nL Q σ1 (pc + 3) lv (.int r1 :: st) (K r1 σ1)) : oV κ (oX x) nL Q σ pc lv (.ref (xa x 1) :: st) (bnd (f_X0_draw  σ) K) := by
  have hI : oI (oX x) := oC_I C
  exact r_cVi (As := []) (na := 0) (j := 1) (ci := 0) C (fun l => m_X0_draw l x hI  σ) hG rfl (by decide +kernel) rfl (by decide) hn (by show 1 < 80; decide) rfl rfl rfl rfl hst hd kk
set_option maxHeartbeats 4000000 in
set_option maxRecDepth 100000 in
theorem m_X0_hasLine (l : Launch) (x : oXp) (hI : oI (oX x)) (a1 : Int32) (σ : Sg) : oMI l yX0_hasLine wsX0_hasLine 3 (oX x) [.ref (xa x 1), .int a1] σ (f_X0_hasLine  a1 σ) := by
  refine oMI_of (nL := 2) (cc := cX0_hasLine) hI (by decide +kernel) rfl (Nat.le_of_ble_eq_true rfl) ?_
  intro κ C
  have C : oC κ (oX x) 2 cX0_hasLine RX0 wsX0_hasLine 3 (some .boolean) := C
  unfold f_X0_hasLine
  show oV κ (oX x) 2 (oQi κ (oX x)) σ 0 [(0, .ref (xa x 1)), (1, .int a1)] [] _
  refine r_ildn (pc := 0) C dX0_hasLine_0 1 rfl ?_
  refine r_iflt (pc := 1) (tgt := 16) C dX0_hasLine_1 (by decide) ?_ ?_
  · refine r_iconst (pc := 16) (v := (0 : Int32)) C dX0_hasLine_16 ic_0 ?_
    exact r_zret (pc := 17) C (by decide) dX0_hasLine_17
  · refine r_ildn (pc := 4) C dX0_hasLine_4 1 rfl ?_
    refine r_aldn (pc := 5) C dX0_hasLine_5 0 rfl ?_
    refine gf_X0_1_1 (pc := 6) C hi_X0_hasLine_X0 wd_X0_hasLine_1 dX0_hasLine_6 ?_
    refine r_icge (pc := 9) (tgt := 16) C dX0_hasLine_9 (by decide) ?_ ?_
    · refine r_iconst (pc := 16) (v := (0 : Int32)) C dX0_hasLine_16 ic_0 ?_
      exact r_zret (pc := 17) C (by decide) dX0_hasLine_17
    · refine r_iconst (pc := 12) (v := (1 : Int32)) C dX0_hasLine_12 ic_1 ?_
      refine r_goto (pc := 13) (tgt := 17) C dX0_hasLine_13 (by decide) ?_
      exact r_zret (pc := 17) C (by decide) dX0_hasLine_17
theorem k_X0_hasLine {κ : oK} {nL : Nat} {cc : ByteArray} {own : String} {Ts : List Cond} {n : Nat} {ret : Option FieldType} {α : Type} {Q : α → Sg → State → Prop} {σ : Sg} {pc : Nat} {lv : List (Nat × Value)} {st : List Value} {x : oXp} {idx : Nat} {a1 : Int32} {K : Int32 → Sg → Option (α × Sg)} (C : oC κ (oX x) nL cc own Ts n ret) (hG : GoodIn Ts (wsV own idx RX0 yX0_hasLine wsX0_hasLine)) (hn : 3 + 1 ≤ n) (hst : (st.map fun v => v.category).sum ≤ 8) (hd : decode cc pc = .ok (.invokevirtual idx, 3)) (kk : ∀ (r1 : Int32) (σ1 : Sg), oV κ (oX x) nL Q σ1 (pc + 3) lv (.int r1 :: st) (K r1 σ1)) : oV κ (oX x) nL Q σ pc lv (.int a1 :: .ref (xa x 1) :: st) (bnd (f_X0_hasLine a1 σ) K) := by
  have hI : oI (oX x) := oC_I C
  exact r_cVi (As := [.int a1]) (na := 1) (j := 1) (ci := 0) C (fun l => m_X0_hasLine l x hI a1 σ) hG rfl (by decide +kernel) rfl (by decide) hn (by show 1 < 80; decide) rfl rfl rfl rfl hst hd kk
set_option maxHeartbeats 4000000 in
set_option maxRecDepth 100000 in
theorem m_X1_pop (l : Launch) (x : oXp) (hI : oI (oX x)) (o0 : Nat) (h1_o0 : 40 ≤ o0) (h2_o0 : o0 < 44) (σ : Sg) : oMI l yX1_pop wsX1_pop 3 (oX x) [.ref (xa x o0)] σ (f_X1_pop  o0 σ) := by
  refine oMI_of (nL := 1) (cc := cX1_pop) hI (by decide +kernel) rfl (Nat.le_of_ble_eq_true rfl) ?_
  intro κ C
  have C : oC κ (oX x) 1 cX1_pop RX1 wsX1_pop 3 (some .int) := C
  unfold f_X1_pop
  show oV κ (oX x) 1 (oQi κ (oX x)) σ 0 [(0, .ref (xa x o0))] [] _
  refine r_aldn (pc := 0) C dX1_pop_0 0 rfl ?_
  refine gf_X1_2 (pc := 1) C (o := o0) (by omega) (by omega) hi_X1_pop_X1 wd_X1_pop_1 dX1_pop_1 ?_
  refine gfN_X6_1 (pc := 4) C (o := (o0 + 12)) (by omega) (by omega) hi_X1_pop_X6 nw_6 dX1_pop_4 ?_
  refine r_ifne (pc := 7) (tgt := 12) C dX1_pop_7 (by decide) ?_ ?_
  · refine r_aldn (pc := 12) C dX1_pop_12 0 rfl ?_
    refine gf_X1_2 (pc := 13) C (o := o0) (by omega) (by omega) hi_X1_pop_X1 wd_X1_pop_1 dX1_pop_13 ?_
    refine r_dup (pc := 16) C dX1_pop_16 rfl ?_
    refine gfN_X6_1 (pc := 17) C (o := (o0 + 12)) (by omega) (by omega) hi_X1_pop_X6 nw_6 dX1_pop_17 ?_
    refine r_iconst (pc := 20) (v := (1 : Int32)) C dX1_pop_20 ic_1 ?_
    refine r_isub (pc := 21) C dX1_pop_21 ?_
    refine pfN_X6_1 (pc := 22) C (o := (o0 + 12)) (by omega) (by omega) hi_X1_pop_X6 nw_6 dX1_pop_22 (fun s1 => ?_)
    refine r_aldn (pc := 25) C dX1_pop_25 0 rfl ?_
    refine gf_X1_2 (pc := 26) C (o := o0) (by omega) (by omega) hi_X1_pop_X1 wd_X1_pop_1 dX1_pop_26 ?_
    refine gfN_X6_0 (pc := 29) C (o := (o0 + 12)) (by omega) (by omega) hi_X1_pop_X6 nw_1 dX1_pop_29 ?_
    refine r_aldn (pc := 32) C dX1_pop_32 0 rfl ?_
    refine gf_X1_2 (pc := 33) C (o := o0) (by omega) (by omega) hi_X1_pop_X1 wd_X1_pop_1 dX1_pop_33 ?_
    refine gfN_X6_1 (pc := 36) C (o := (o0 + 12)) (by omega) (by omega) hi_X1_pop_X6 nw_6 dX1_pop_36 ?_
    refine iald_oX_cells (pc := 39) C (o := ((o0 + 12) + 18)) (by omega) (by omega) dX1_pop_39 ?_
    exact r_iret (pc := 40) C dX1_pop_40
  · refine r_iconst (pc := 10) (v := (0 : Int32)) C dX1_pop_10 ic_0 ?_
    exact r_iret (pc := 11) C dX1_pop_11
theorem k_X1_pop {κ : oK} {nL : Nat} {cc : ByteArray} {own : String} {Ts : List Cond} {n : Nat} {ret : Option FieldType} {α : Type} {Q : α → Sg → State → Prop} {σ : Sg} {pc : Nat} {lv : List (Nat × Value)} {st : List Value} {x : oXp} {idx : Nat} {o0 : Nat} {K : Int32 → Sg → Option (α × Sg)} (C : oC κ (oX x) nL cc own Ts n ret) (hG : GoodIn Ts (wsV own idx RX1 yX1_pop wsX1_pop)) (hn : 3 + 1 ≤ n) (h1_o0 : 40 ≤ o0) (h2_o0 : o0 < 44) (hst : (st.map fun v => v.category).sum ≤ 8) (hd : decode cc pc = .ok (.invokevirtual idx, 3)) (kk : ∀ (r1 : Int32) (σ1 : Sg), oV κ (oX x) nL Q σ1 (pc + 3) lv (.int r1 :: st) (K r1 σ1)) : oV κ (oX x) nL Q σ pc lv (.ref (xa x o0) :: st) (bnd (f_X1_pop o0 σ) K) := by
  have hI : oI (oX x) := oC_I C
  exact r_cVi (As := []) (na := 0) (j := o0) (ci := 1) C (fun l => m_X1_pop l x hI o0 h1_o0 h2_o0 σ) hG rfl (by decide +kernel) rfl (by decide) hn (by show o0 < 80; omega) rfl (eX1 x h1_o0 h2_o0 _) rfl rfl hst hd kk
set_option maxHeartbeats 4000000 in
set_option maxRecDepth 100000 in
theorem m_X1_join (l : Launch) (x : oXp) (hI : oI (oX x)) (a0 : Int32) (a1 : Int32) (a2 : Int32) (σ : Sg) : oMI l yX1_join wsX1_join 3 (oX x) [.int a0, .int a1, .int a2] σ (f_X1_join  a0 a1 a2 σ) := by
  refine oMI_of (nL := 3) (cc := cX1_join) hI (by decide +kernel) rfl (Nat.le_of_ble_eq_true rfl) ?_
  intro κ C
  have C : oC κ (oX x) 3 cX1_join RX1 wsX1_join 3 (some .int) := C
  unfold f_X1_join
  show oV κ (oX x) 3 (oQi κ (oX x)) σ 0 [(0, .int a0), (1, .int a1), (2, .int a2)] [] _
  refine r_ildn (pc := 0) C dX1_join_0 1 rfl ?_
  refine r_ite (fun c1 => ?_) (fun c1 => ?_)
  · refine r_lookE (pc := 1) (v := (37 : Int32)) (off := 176) (tgt := 177) C dX1_join_1 (by decide) c1 (by decide) (by decide) ?_
    refine r_ildn (pc := 177) C dX1_join_177 2 rfl ?_
    refine r_ifne (pc := 178) (tgt := 185) C dX1_join_178 (by decide) ?_ ?_
    · refine r_ildn (pc := 185) C dX1_join_185 0 rfl ?_
      refine r_ildn (pc := 186) C dX1_join_186 2 rfl ?_
      refine r_ckb (fun h2 => ?_)
      refine r_irem (pc := 187) C dX1_join_187 (nz_ne h2) ?_
      exact r_iret (pc := 188) C dX1_join_188
    · refine r_iconst (pc := 181) (v := (0 : Int32)) C dX1_join_181 ic_0 ?_
      refine r_goto (pc := 182) (tgt := 188) C dX1_join_182 (by decide) ?_
      exact r_iret (pc := 188) C dX1_join_188
  · refine r_ite (fun c3 => ?_) (fun c3 => ?_)
    · refine r_lookE (pc := 1) (v := (38 : Int32)) (off := 105) (tgt := 106) C dX1_join_1 (by decide) c3 (by decide) (by decide) ?_
      refine r_ildn (pc := 106) C dX1_join_106 0 rfl ?_
      refine r_ifeq (pc := 107) (tgt := 118) C dX1_join_107 (by decide) ?_ ?_
      · refine r_iconst (pc := 118) (v := (0 : Int32)) C dX1_join_118 ic_0 ?_
        exact r_iret (pc := 119) C dX1_join_119
      · refine r_ildn (pc := 110) C dX1_join_110 2 rfl ?_
        refine r_ifeq (pc := 111) (tgt := 118) C dX1_join_111 (by decide) ?_ ?_
        · refine r_iconst (pc := 118) (v := (0 : Int32)) C dX1_join_118 ic_0 ?_
          exact r_iret (pc := 119) C dX1_join_119
        · refine r_iconst (pc := 114) (v := (1 : Int32)) C dX1_join_114 ic_1 ?_
          refine r_goto (pc := 115) (tgt := 119) C dX1_join_115 (by decide) ?_
          exact r_iret (pc := 119) C dX1_join_119
    · refine r_ite (fun c4 => ?_) (fun c4 => ?_)
      · refine r_lookE (pc := 1) (v := (42 : Int32)) (off := 160) (tgt := 161) C dX1_join_1 (by decide) c4 (by decide) (by decide) ?_
        refine r_ildn (pc := 161) C dX1_join_161 0 rfl ?_
        refine r_ildn (pc := 162) C dX1_join_162 2 rfl ?_
        refine r_imul (pc := 163) C dX1_join_163 ?_
        exact r_iret (pc := 164) C dX1_join_164
      · refine r_ite (fun c5 => ?_) (fun c5 => ?_)
        · refine r_lookE (pc := 1) (v := (43 : Int32)) (off := 152) (tgt := 153) C dX1_join_1 (by decide) c5 (by decide) (by decide) ?_
          refine r_ildn (pc := 153) C dX1_join_153 0 rfl ?_
          refine r_ildn (pc := 154) C dX1_join_154 2 rfl ?_
          refine r_iadd (pc := 155) C dX1_join_155 ?_
          exact r_iret (pc := 156) C dX1_join_156
        · refine r_ite (fun c6 => ?_) (fun c6 => ?_)
          · refine r_lookE (pc := 1) (v := (45 : Int32)) (off := 156) (tgt := 157) C dX1_join_1 (by decide) c6 (by decide) (by decide) ?_
            refine r_ildn (pc := 157) C dX1_join_157 0 rfl ?_
            refine r_ildn (pc := 158) C dX1_join_158 2 rfl ?_
            refine r_isub (pc := 159) C dX1_join_159 ?_
            exact r_iret (pc := 160) C dX1_join_160
          · refine r_ite (fun c7 => ?_) (fun c7 => ?_)
            · refine r_lookE (pc := 1) (v := (47 : Int32)) (off := 164) (tgt := 165) C dX1_join_1 (by decide) c7 (by decide) (by decide) ?_
              refine r_ildn (pc := 165) C dX1_join_165 2 rfl ?_
              refine r_ifne (pc := 166) (tgt := 173) C dX1_join_166 (by decide) ?_ ?_
              · refine r_ildn (pc := 173) C dX1_join_173 0 rfl ?_
                refine r_ildn (pc := 174) C dX1_join_174 2 rfl ?_
                refine r_ckb (fun h8 => ?_)
                refine r_idiv (pc := 175) C dX1_join_175 (nz_ne h8) ?_
                exact r_iret (pc := 176) C dX1_join_176
              · refine r_iconst (pc := 169) (v := (0 : Int32)) C dX1_join_169 ic_0 ?_
                refine r_goto (pc := 170) (tgt := 176) C dX1_join_170 (by decide) ?_
                exact r_iret (pc := 176) C dX1_join_176
            · refine r_ite (fun c9 => ?_) (fun c9 => ?_)
              · refine r_lookE (pc := 1) (v := (60 : Int32)) (off := 119) (tgt := 120) C dX1_join_1 (by decide) c9 (by decide) (by decide) ?_
                refine r_ildn (pc := 120) C dX1_join_120 0 rfl ?_
                refine r_ildn (pc := 121) C dX1_join_121 2 rfl ?_
                refine r_icge (pc := 122) (tgt := 129) C dX1_join_122 (by decide) ?_ ?_
                · refine r_iconst (pc := 129) (v := (0 : Int32)) C dX1_join_129 ic_0 ?_
                  exact r_iret (pc := 130) C dX1_join_130
                · refine r_iconst (pc := 125) (v := (1 : Int32)) C dX1_join_125 ic_1 ?_
                  refine r_goto (pc := 126) (tgt := 130) C dX1_join_126 (by decide) ?_
                  exact r_iret (pc := 130) C dX1_join_130
              · refine r_ite (fun c10 => ?_) (fun c10 => ?_)
                · refine r_lookE (pc := 1) (v := (61 : Int32)) (off := 130) (tgt := 131) C dX1_join_1 (by decide) c10 (by decide) (by decide) ?_
                  refine r_ildn (pc := 131) C dX1_join_131 0 rfl ?_
                  refine r_ildn (pc := 132) C dX1_join_132 2 rfl ?_
                  refine r_icne (pc := 133) (tgt := 140) C dX1_join_133 (by decide) ?_ ?_
                  · refine r_iconst (pc := 140) (v := (0 : Int32)) C dX1_join_140 ic_0 ?_
                    exact r_iret (pc := 141) C dX1_join_141
                  · refine r_iconst (pc := 136) (v := (1 : Int32)) C dX1_join_136 ic_1 ?_
                    refine r_goto (pc := 137) (tgt := 141) C dX1_join_137 (by decide) ?_
                    exact r_iret (pc := 141) C dX1_join_141
                · refine r_ite (fun c11 => ?_) (fun c11 => ?_)
                  · refine r_lookE (pc := 1) (v := (62 : Int32)) (off := 141) (tgt := 142) C dX1_join_1 (by decide) c11 (by decide) (by decide) ?_
                    refine r_ildn (pc := 142) C dX1_join_142 0 rfl ?_
                    refine r_ildn (pc := 143) C dX1_join_143 2 rfl ?_
                    refine r_icle (pc := 144) (tgt := 151) C dX1_join_144 (by decide) ?_ ?_
                    · refine r_iconst (pc := 151) (v := (0 : Int32)) C dX1_join_151 ic_0 ?_
                      exact r_iret (pc := 152) C dX1_join_152
                    · refine r_iconst (pc := 147) (v := (1 : Int32)) C dX1_join_147 ic_1 ?_
                      refine r_goto (pc := 148) (tgt := 152) C dX1_join_148 (by decide) ?_
                      exact r_iret (pc := 152) C dX1_join_152
                  · refine r_ite (fun c12 => ?_) (fun c12 => ?_)
                    · refine r_lookE (pc := 1) (v := (124 : Int32)) (off := 91) (tgt := 92) C dX1_join_1 (by decide) c12 (by decide) (by decide) ?_
                      refine r_ildn (pc := 92) C dX1_join_92 0 rfl ?_
                      refine r_ifne (pc := 93) (tgt := 100) C dX1_join_93 (by decide) ?_ ?_
                      · refine r_iconst (pc := 100) (v := (1 : Int32)) C dX1_join_100 ic_1 ?_
                        refine r_goto (pc := 101) (tgt := 105) C dX1_join_101 (by decide) ?_
                        exact r_iret (pc := 105) C dX1_join_105
                      · refine r_ildn (pc := 96) C dX1_join_96 2 rfl ?_
                        refine r_ifeq (pc := 97) (tgt := 104) C dX1_join_97 (by decide) ?_ ?_
                        · refine r_iconst (pc := 104) (v := (0 : Int32)) C dX1_join_104 ic_0 ?_
                          exact r_iret (pc := 105) C dX1_join_105
                        · refine r_iconst (pc := 100) (v := (1 : Int32)) C dX1_join_100 ic_1 ?_
                          refine r_goto (pc := 101) (tgt := 105) C dX1_join_101 (by decide) ?_
                          exact r_iret (pc := 105) C dX1_join_105
                    · refine r_lookO (pc := 1) (off := 188) (tgt := 189) C dX1_join_1 (by decide) ((lv_osw (k := (37 : Int32)) c1 (by decide)).trans ((lv_osw (k := (38 : Int32)) c3 (by decide)).trans ((lv_osw (k := (42 : Int32)) c4 (by decide)).trans ((lv_osw (k := (43 : Int32)) c5 (by decide)).trans ((lv_osw (k := (45 : Int32)) c6 (by decide)).trans ((lv_osw (k := (47 : Int32)) c7 (by decide)).trans ((lv_osw (k := (60 : Int32)) c9 (by decide)).trans ((lv_osw (k := (61 : Int32)) c10 (by decide)).trans ((lv_osw (k := (62 : Int32)) c11 (by decide)).trans ((lv_osw (k := (124 : Int32)) c12 (by decide)).trans rfl)))))))))) (by decide) ?_
                      refine r_iconst (pc := 189) (v := (0 : Int32)) C dX1_join_189 ic_0 ?_
                      exact r_iret (pc := 190) C dX1_join_190
theorem kS_X1_join {κ : oK} {nL : Nat} {cc : ByteArray} {own : String} {Ts : List Cond} {n : Nat} {ret : Option FieldType} {α : Type} {Q : α → Sg → State → Prop} {σ : Sg} {pc : Nat} {lv : List (Nat × Value)} {st : List Value} {x : oXp} {idx : Nat} {a0 : Int32} {a1 : Int32} {a2 : Int32} {K : Int32 → Sg → Option (α × Sg)} (C : oC κ (oX x) nL cc own Ts n ret) (hG : GoodIn Ts (va_wsS own idx yX1_join wsX1_join)) (hn : 3 + 1 ≤ n) (hst : (st.map fun v => v.category).sum ≤ 8) (hd : decode cc pc = .ok (.invokestatic idx, 3)) (kk : ∀ (r1 : Int32) (σ1 : Sg), oV κ (oX x) nL Q σ1 (pc + 3) lv (.int r1 :: st) (K r1 σ1)) : oV κ (oX x) nL Q σ pc lv (.int a2 :: .int a1 :: .int a0 :: st) (bnd (f_X1_join a0 a1 a2 σ) K) := by
  have hI : oI (oX x) := oC_I C
  exact r_cSi (As := [.int a0, .int a1, .int a2]) (na := 3) C (fun l => m_X1_join l x hI a0 a1 a2 σ) hG rfl (by decide +kernel) rfl (by decide) hn hst hd kk
set_option maxHeartbeats 4000000 in
set_option maxRecDepth 100000 in
theorem v_X1_workOut_10_b {κ : oK} {x : oXp} (C : oC κ (oX x) 8 cX1_workOut RX1 wsX1_workOut 4 (some .int))  (rec10 : Nat → Int32 → Int32 → Int32 → Int32 → Sg → Option (Int32 × Sg)) (hrec10 : ∀ (o0 : Nat) (a1 : Int32) (a2 : Int32) (a3 : Int32) (a4 : Int32) (h1_o0 : 40 ≤ o0) (h2_o0 : o0 < 44) (σ : Sg), oV κ (oX x) 8 (oQi κ (oX x)) σ 10 [(0, .ref (xa x o0)), (1, .int a1), (2, .int a2), (3, .int a3), (4, .int a4)] [] (rec10 o0 a1 a2 a3 a4 σ)) (o0 : Nat) (a1 : Int32) (a2 : Int32) (a3 : Int32) (a4 : Int32) (h1_o0 : 40 ≤ o0) (h2_o0 : o0 < 44) (σ : Sg) : oV κ (oX x) 8 (oQi κ (oX x)) σ 10 [(0, .ref (xa x o0)), (1, .int a1), (2, .int a2), (3, .int a3), (4, .int a4)] [] (f_X1_workOut_10_b   rec10 o0 a1 a2 a3 a4 σ) := by
  unfold f_X1_workOut_10_b
  refine r_ild (pc := 10) C dX1_workOut_10 4 rfl ?_
  refine r_aldn (pc := 12) C dX1_workOut_12 0 rfl ?_
  refine gf_X1_1 (pc := 13) C (o := o0) (by omega) (by omega) hi_X1_workOut_X1 wd_X1_workOut_2 dX1_workOut_13 ?_
  refine gfN_X6_1 (pc := 16) C (o := (o0 + 8)) (by omega) (by omega) hi_X1_workOut_X6 nw_6 dX1_workOut_16 ?_
  refine r_icge (pc := 19) (tgt := 187) C dX1_workOut_19 (by decide) ?_ ?_
  · refine r_aldn (pc := 187) C dX1_workOut_187 0 rfl ?_
    refine k_X1_pop (x := x) (pc := 188) (o0 := o0) C gX1_workOut_X1_pop (by omega) (by omega) (by omega) (Nat.le_of_ble_eq_true rfl) dX1_workOut_188 (fun r2 s1 => ?_)
    exact r_iret (pc := 191) C dX1_workOut_191
  · refine r_aldn (pc := 22) C dX1_workOut_22 0 rfl ?_
    refine gf_X1_1 (pc := 23) C (o := o0) (by omega) (by omega) hi_X1_workOut_X1 wd_X1_workOut_2 dX1_workOut_23 ?_
    refine gfN_X6_0 (pc := 26) C (o := (o0 + 8)) (by omega) (by omega) hi_X1_workOut_X6 nw_1 dX1_workOut_26 ?_
    refine r_ild (pc := 29) C dX1_workOut_29 4 rfl ?_
    refine iald_oX_cells (pc := 31) C (o := ((o0 + 8) + 18)) (by omega) (by omega) dX1_workOut_31 ?_
    refine r_nm (fun v3 => ?_)
    refine r_ist (pc := 32) (lv' := [(0, _), (1, _), (2, _), (3, _), (4, _), (5, _)]) C dX1_workOut_32 (by decide) [1, 2, 3, 4, 5, 0] rfl ?_
    refine r_ild (pc := 34) C dX1_workOut_34 5 rfl ?_
    refine r_ite (fun c4 => ?_) (fun c4 => ?_)
    · refine r_lookE (pc := 36) (v := (-33 : Int32)) (off := 77) (tgt := 113) C dX1_workOut_36 (by decide) c4 (by decide) (by decide) ?_
      refine r_aldn (pc := 113) C dX1_workOut_113 0 rfl ?_
      refine gf_X1_2 (pc := 114) C (o := o0) (by omega) (by omega) hi_X1_workOut_X1 wd_X1_workOut_1 dX1_workOut_114 ?_
      refine r_aldn (pc := 117) C dX1_workOut_117 0 rfl ?_
      refine k_X1_pop (x := x) (pc := 118) (o0 := o0) C gX1_workOut_X1_pop (by omega) (by omega) (by omega) (Nat.le_of_ble_eq_true rfl) dX1_workOut_118 (fun r6 s5 => ?_)
      refine r_ifne (pc := 121) (tgt := 128) C dX1_workOut_121 (by decide) ?_ ?_
      · refine r_iconst (pc := 128) (v := (0 : Int32)) C dX1_workOut_128 ic_0 ?_
        refine k_X6_add (x := x) (pc := 129) (o0 := (o0 + 12)) (a1 := (0 : Int32)) C gX1_workOut_X6_add (by omega) (by omega) (by omega) (Nat.le_of_ble_eq_true rfl) dX1_workOut_129 (fun _ s7 => ?_)
        refine r_goto (pc := 132) (tgt := 181) C dX1_workOut_132 (by decide) ?_
        refine r_iinc (pc := 181) (v := (1 : Int32)) (lv1 := fun y => [(0, _), (1, _), (2, _), (3, _), (4, .int y)]) C dX1_workOut_181 ic_1 4 rfl (by decide) [1, 2, 3, 4, 0] (fun _ => rfl) (fun v9 => ?_)
        refine r_goto (pc := 184) (tgt := 10) C dX1_workOut_184 (by decide) ?_
        exact hrec10 o0 a1 a2 a3 v9 (by omega) (by omega) s7
      · refine r_iconst (pc := 124) (v := (1 : Int32)) C dX1_workOut_124 ic_1 ?_
        refine r_goto (pc := 125) (tgt := 129) C dX1_workOut_125 (by decide) ?_
        refine k_X6_add (x := x) (pc := 129) (o0 := (o0 + 12)) (a1 := (1 : Int32)) C gX1_workOut_X6_add (by omega) (by omega) (by omega) (Nat.le_of_ble_eq_true rfl) dX1_workOut_129 (fun _ s10 => ?_)
        refine r_goto (pc := 132) (tgt := 181) C dX1_workOut_132 (by decide) ?_
        refine r_iinc (pc := 181) (v := (1 : Int32)) (lv1 := fun y => [(0, _), (1, _), (2, _), (3, _), (4, .int y)]) C dX1_workOut_181 ic_1 4 rfl (by decide) [1, 2, 3, 4, 0] (fun _ => rfl) (fun v12 => ?_)
        refine r_goto (pc := 184) (tgt := 10) C dX1_workOut_184 (by decide) ?_
        exact hrec10 o0 a1 a2 a3 v12 (by omega) (by omega) s10
    · refine r_ite (fun c13 => ?_) (fun c13 => ?_)
      · refine r_lookE (pc := 36) (v := (-3 : Int32)) (off := 66) (tgt := 102) C dX1_workOut_36 (by decide) c13 (by decide) (by decide) ?_
        refine r_aldn (pc := 102) C dX1_workOut_102 0 rfl ?_
        refine gf_X1_2 (pc := 103) C (o := o0) (by omega) (by omega) hi_X1_workOut_X1 wd_X1_workOut_1 dX1_workOut_103 ?_
        refine r_ildn (pc := 106) C dX1_workOut_106 3 rfl ?_
        refine k_X6_add (x := x) (pc := 107) (o0 := (o0 + 12)) (a1 := a3) C gX1_workOut_X6_add (by omega) (by omega) (by omega) (Nat.le_of_ble_eq_true rfl) dX1_workOut_107 (fun _ s14 => ?_)
        refine r_goto (pc := 110) (tgt := 181) C dX1_workOut_110 (by decide) ?_
        refine r_iinc (pc := 181) (v := (1 : Int32)) (lv1 := fun y => [(0, _), (1, _), (2, _), (3, _), (4, .int y)]) C dX1_workOut_181 ic_1 4 rfl (by decide) [1, 2, 3, 4, 0] (fun _ => rfl) (fun v16 => ?_)
        refine r_goto (pc := 184) (tgt := 10) C dX1_workOut_184 (by decide) ?_
        exact hrec10 o0 a1 a2 a3 v16 (by omega) (by omega) s14
      · refine r_ite (fun c17 => ?_) (fun c17 => ?_)
        · refine r_lookE (pc := 36) (v := (-2 : Int32)) (off := 55) (tgt := 91) C dX1_workOut_36 (by decide) c17 (by decide) (by decide) ?_
          refine r_aldn (pc := 91) C dX1_workOut_91 0 rfl ?_
          refine gf_X1_2 (pc := 92) C (o := o0) (by omega) (by omega) hi_X1_workOut_X1 wd_X1_workOut_1 dX1_workOut_92 ?_
          refine r_ildn (pc := 95) C dX1_workOut_95 2 rfl ?_
          refine k_X6_add (x := x) (pc := 96) (o0 := (o0 + 12)) (a1 := a2) C gX1_workOut_X6_add (by omega) (by omega) (by omega) (Nat.le_of_ble_eq_true rfl) dX1_workOut_96 (fun _ s18 => ?_)
          refine r_goto (pc := 99) (tgt := 181) C dX1_workOut_99 (by decide) ?_
          refine r_iinc (pc := 181) (v := (1 : Int32)) (lv1 := fun y => [(0, _), (1, _), (2, _), (3, _), (4, .int y)]) C dX1_workOut_181 ic_1 4 rfl (by decide) [1, 2, 3, 4, 0] (fun _ => rfl) (fun v20 => ?_)
          refine r_goto (pc := 184) (tgt := 10) C dX1_workOut_184 (by decide) ?_
          exact hrec10 o0 a1 a2 a3 v20 (by omega) (by omega) s18
        · refine r_ite (fun c21 => ?_) (fun c21 => ?_)
          · refine r_lookE (pc := 36) (v := (-1 : Int32)) (off := 44) (tgt := 80) C dX1_workOut_36 (by decide) c21 (by decide) (by decide) ?_
            refine r_aldn (pc := 80) C dX1_workOut_80 0 rfl ?_
            refine gf_X1_2 (pc := 81) C (o := o0) (by omega) (by omega) hi_X1_workOut_X1 wd_X1_workOut_1 dX1_workOut_81 ?_
            refine r_ildn (pc := 84) C dX1_workOut_84 1 rfl ?_
            refine k_X6_add (x := x) (pc := 85) (o0 := (o0 + 12)) (a1 := a1) C gX1_workOut_X6_add (by omega) (by omega) (by omega) (Nat.le_of_ble_eq_true rfl) dX1_workOut_85 (fun _ s22 => ?_)
            refine r_goto (pc := 88) (tgt := 181) C dX1_workOut_88 (by decide) ?_
            refine r_iinc (pc := 181) (v := (1 : Int32)) (lv1 := fun y => [(0, _), (1, _), (2, _), (3, _), (4, .int y)]) C dX1_workOut_181 ic_1 4 rfl (by decide) [1, 2, 3, 4, 0] (fun _ => rfl) (fun v24 => ?_)
            refine r_goto (pc := 184) (tgt := 10) C dX1_workOut_184 (by decide) ?_
            exact hrec10 o0 a1 a2 a3 v24 (by omega) (by omega) s22
          · refine r_lookO (pc := 36) (off := 99) (tgt := 135) C dX1_workOut_36 (by decide) ((lv_osw (k := (-33 : Int32)) c4 (by decide)).trans ((lv_osw (k := (-3 : Int32)) c13 (by decide)).trans ((lv_osw (k := (-2 : Int32)) c17 (by decide)).trans ((lv_osw (k := (-1 : Int32)) c21 (by decide)).trans rfl)))) (by decide) ?_
            refine r_ild (pc := 135) C dX1_workOut_135 5 rfl ?_
            refine r_iflt (pc := 137) (tgt := 152) C dX1_workOut_137 (by decide) ?_ ?_
            · refine r_aldn (pc := 152) C dX1_workOut_152 0 rfl ?_
              refine k_X1_pop (x := x) (pc := 153) (o0 := o0) C gX1_workOut_X1_pop (by omega) (by omega) (by omega) (Nat.le_of_ble_eq_true rfl) dX1_workOut_153 (fun r26 s25 => ?_)
              refine r_ist (pc := 156) (lv' := [(0, _), (1, _), (2, _), (3, _), (4, _), (5, _), (6, _)]) C dX1_workOut_156 (by decide) [1, 2, 3, 4, 5, 6, 0] rfl ?_
              refine r_aldn (pc := 158) C dX1_workOut_158 0 rfl ?_
              refine k_X1_pop (x := x) (pc := 159) (o0 := o0) C gX1_workOut_X1_pop (by omega) (by omega) (by omega) (Nat.le_of_ble_eq_true rfl) dX1_workOut_159 (fun r28 s27 => ?_)
              refine r_ist (pc := 162) (lv' := [(0, _), (1, _), (2, _), (3, _), (4, _), (5, _), (6, _), (7, _)]) C dX1_workOut_162 (by decide) [1, 2, 3, 4, 5, 6, 7, 0] rfl ?_
              refine r_aldn (pc := 164) C dX1_workOut_164 0 rfl ?_
              refine gf_X1_2 (pc := 165) C (o := o0) (by omega) (by omega) hi_X1_workOut_X1 wd_X1_workOut_1 dX1_workOut_165 ?_
              refine r_ild (pc := 168) C dX1_workOut_168 7 rfl ?_
              refine r_ild (pc := 170) C dX1_workOut_170 5 rfl ?_
              refine r_ineg (pc := 172) C dX1_workOut_172 ?_
              refine r_ild (pc := 173) C dX1_workOut_173 6 rfl ?_
              refine kS_X1_join (x := x) (pc := 175) (a0 := r28) (a1 := (-v3)) (a2 := r26) C gX1_workOut_X1_join (by omega)  (Nat.le_of_ble_eq_true rfl) dX1_workOut_175 (fun r30 s29 => ?_)
              refine k_X6_add (x := x) (pc := 178) (o0 := (o0 + 12)) (a1 := r30) C gX1_workOut_X6_add (by omega) (by omega) (by omega) (Nat.le_of_ble_eq_true rfl) dX1_workOut_178 (fun _ s31 => ?_)
              refine r_iinc (pc := 181) (v := (1 : Int32)) (lv1 := fun y => [(0, _), (1, _), (2, _), (3, _), (4, .int y)]) C dX1_workOut_181 ic_1 4 rfl (by decide) [1, 2, 3, 4, 0] (fun _ => rfl) (fun v33 => ?_)
              refine r_goto (pc := 184) (tgt := 10) C dX1_workOut_184 (by decide) ?_
              exact hrec10 o0 a1 a2 a3 v33 (by omega) (by omega) s31
            · refine r_aldn (pc := 140) C dX1_workOut_140 0 rfl ?_
              refine gf_X1_2 (pc := 141) C (o := o0) (by omega) (by omega) hi_X1_workOut_X1 wd_X1_workOut_1 dX1_workOut_141 ?_
              refine r_ild (pc := 144) C dX1_workOut_144 5 rfl ?_
              refine k_X6_add (x := x) (pc := 146) (o0 := (o0 + 12)) (a1 := v3) C gX1_workOut_X6_add (by omega) (by omega) (by omega) (Nat.le_of_ble_eq_true rfl) dX1_workOut_146 (fun _ s34 => ?_)
              refine r_goto (pc := 149) (tgt := 181) C dX1_workOut_149 (by decide) ?_
              refine r_iinc (pc := 181) (v := (1 : Int32)) (lv1 := fun y => [(0, _), (1, _), (2, _), (3, _), (4, .int y)]) C dX1_workOut_181 ic_1 4 rfl (by decide) [1, 2, 3, 4, 0] (fun _ => rfl) (fun v36 => ?_)
              refine r_goto (pc := 184) (tgt := 10) C dX1_workOut_184 (by decide) ?_
              exact hrec10 o0 a1 a2 a3 v36 (by omega) (by omega) s34
theorem v_X1_workOut_10 {κ : oK} {x : oXp} (C : oC κ (oX x) 8 cX1_workOut RX1 wsX1_workOut 4 (some .int))  : ∀ (n : Nat) (o0 : Nat) (a1 : Int32) (a2 : Int32) (a3 : Int32) (a4 : Int32) (h1_o0 : 40 ≤ o0) (h2_o0 : o0 < 44) (σ : Sg), oV κ (oX x) 8 (oQi κ (oX x)) σ 10 [(0, .ref (xa x o0)), (1, .int a1), (2, .int a2), (3, .int a3), (4, .int a4)] [] (f_X1_workOut_10   n o0 a1 a2 a3 a4 σ) := by
  intro n
  induction n with
  | zero => intros; exact r_none
  | succ n ih => exact v_X1_workOut_10_b C  _ ih
set_option maxHeartbeats 4000000 in
set_option maxRecDepth 100000 in
theorem m_X1_workOut (l : Launch) (x : oXp) (hI : oI (oX x)) (o0 : Nat) (a1 : Int32) (a2 : Int32) (a3 : Int32) (h1_o0 : 40 ≤ o0) (h2_o0 : o0 < 44) (σ : Sg) : oMI l yX1_workOut wsX1_workOut 4 (oX x) [.ref (xa x o0), .int a1, .int a2, .int a3] σ (f_X1_workOut  o0 a1 a2 a3 σ) := by
  refine oMI_of (nL := 8) (cc := cX1_workOut) hI (by decide +kernel) rfl (Nat.le_of_ble_eq_true rfl) ?_
  intro κ C
  have C : oC κ (oX x) 8 cX1_workOut RX1 wsX1_workOut 4 (some .int) := C
  unfold f_X1_workOut
  show oV κ (oX x) 8 (oQi κ (oX x)) σ 0 [(0, .ref (xa x o0)), (1, .int a1), (2, .int a2), (3, .int a3)] [] _
  refine r_aldn (pc := 0) C dX1_workOut_0 0 rfl ?_
  refine gf_X1_2 (pc := 1) C (o := o0) (by omega) (by omega) hi_X1_workOut_X1 wd_X1_workOut_1 dX1_workOut_1 ?_
  refine k_X6_clear (x := x) (pc := 4) (o0 := (o0 + 12)) C gX1_workOut_X6_clear (by omega) (by omega) (by omega) (Nat.le_of_ble_eq_true rfl) dX1_workOut_4 (fun _ s37 => ?_)
  refine r_iconst (pc := 7) (v := (0 : Int32)) C dX1_workOut_7 ic_0 ?_
  refine r_ist (pc := 8) (lv' := [(0, _), (1, _), (2, _), (3, _), (4, _)]) C dX1_workOut_8 (by decide) [1, 2, 3, 4, 0] rfl ?_
  exact v_X1_workOut_10 (x := x) C fuN o0 a1 a2 a3 (0 : Int32) (by omega) (by omega) s37
theorem k_X1_workOut {κ : oK} {nL : Nat} {cc : ByteArray} {own : String} {Ts : List Cond} {n : Nat} {ret : Option FieldType} {α : Type} {Q : α → Sg → State → Prop} {σ : Sg} {pc : Nat} {lv : List (Nat × Value)} {st : List Value} {x : oXp} {idx : Nat} {o0 : Nat} {a1 : Int32} {a2 : Int32} {a3 : Int32} {K : Int32 → Sg → Option (α × Sg)} (C : oC κ (oX x) nL cc own Ts n ret) (hG : GoodIn Ts (wsV own idx RX1 yX1_workOut wsX1_workOut)) (hn : 4 + 1 ≤ n) (h1_o0 : 40 ≤ o0) (h2_o0 : o0 < 44) (hst : (st.map fun v => v.category).sum ≤ 8) (hd : decode cc pc = .ok (.invokevirtual idx, 3)) (kk : ∀ (r1 : Int32) (σ1 : Sg), oV κ (oX x) nL Q σ1 (pc + 3) lv (.int r1 :: st) (K r1 σ1)) : oV κ (oX x) nL Q σ pc lv (.int a3 :: .int a2 :: .int a1 :: .ref (xa x o0) :: st) (bnd (f_X1_workOut o0 a1 a2 a3 σ) K) := by
  have hI : oI (oX x) := oC_I C
  exact r_cVi (As := [.int a1, .int a2, .int a3]) (na := 3) (j := o0) (ci := 1) C (fun l => m_X1_workOut l x hI o0 a1 a2 a3 h1_o0 h2_o0 σ) hG rfl (by decide +kernel) rfl (by decide) hn (by show o0 < 80; omega) rfl (eX1 x h1_o0 h2_o0 _) rfl rfl hst hd kk
set_option maxHeartbeats 4000000 in
set_option maxRecDepth 100000 in
theorem m_X9_held (l : Launch) (x : oXp) (hI : oI (oX x)) (a0 : Int32) (a1 : Int32) (σ : Sg) : oMI l yX9_held wsX9_held 3 (oX x) [.int a0, .int a1] σ (f_X9_held  a0 a1 σ) := by
  refine oMI_of (nL := 2) (cc := cX9_held) hI (by decide +kernel) rfl (Nat.le_of_ble_eq_true rfl) ?_
  intro κ C
  have C : oC κ (oX x) 2 cX9_held RX9 wsX9_held 3 (some .int) := C
  unfold f_X9_held
  show oV κ (oX x) 2 (oQi κ (oX x)) σ 0 [(0, .int a0), (1, .int a1)] [] _
  refine r_iconst (pc := 0) (v := (0 : Int32)) C dX9_held_0 ic_0 ?_
  refine r_ildn (pc := 1) C dX9_held_1 0 rfl ?_
  refine r_ildn (pc := 2) C dX9_held_2 1 rfl ?_
  refine r_mn (pc := 3) C wd_X9_held_1 wd_X9_held_2 wd_X9_held_3 wd_X9_held_4 (by omega) (Nat.le_of_ble_eq_true rfl) dX9_held_3 ?_
  refine r_mx (pc := 6) C wd_X9_held_5 wd_X9_held_6 wd_X9_held_3 wd_X9_held_7 (by omega) (Nat.le_of_ble_eq_true rfl) dX9_held_6 ?_
  exact r_iret (pc := 9) C dX9_held_9
theorem kN_X9_held {κ : oK} {nL : Nat} {cc : ByteArray} {own : String} {Ts : List Cond} {n : Nat} {ret : Option FieldType} {α : Type} {Q : α → Sg → State → Prop} {σ : Sg} {pc : Nat} {lv : List (Nat × Value)} {st : List Value} {x : oXp} {idx : Nat} {a0 : Int32} {a1 : Int32} {K : Int32 → Sg → Option (α × Sg)} (C : oC κ (oX x) nL cc own Ts n ret) (hG : GoodIn Ts wsX9_held) {host : String} (w1 : Cond.methodLinkNest own idx yX9_held host ∈ oNw) (w2 : Cond.initialized RX9 ∈ Ts) (w3 : Cond.static yX9_held ∈ Ts) (hn : 3 + 1 ≤ n) (hst : (st.map fun v => v.category).sum ≤ 8) (hd : decode cc pc = .ok (.invokestatic idx, 3)) (kk : ∀ (r1 : Int32) (σ1 : Sg), oV κ (oX x) nL Q σ1 (pc + 3) lv (.int r1 :: st) (K r1 σ1)) : oV κ (oX x) nL Q σ pc lv (.int a1 :: .int a0 :: st) (bnd (f_X9_held a0 a1 σ) K) := by
  have hI : oI (oX x) := oC_I C
  exact r_cNi (As := [.int a0, .int a1]) (na := 2) C (fun l => m_X9_held l x hI a0 a1 σ) hG w1 w2 w3 rfl (by decide +kernel) rfl (by decide) hn hst hd kk
set_option maxHeartbeats 4000000 in
set_option maxRecDepth 100000 in
theorem v_X0_lawGives_47 {κ : oK} {x : oXp} (C : oC κ (oX x) 6 cX0_lawGives RX0 wsX0_lawGives 5 (some .int))  (t0 : Int32) (σ : Sg) : oV κ (oX x) 6 (oQi κ (oX x)) σ 47 [] [.int t0] (f_X0_lawGives_47   t0 σ) := by
  unfold f_X0_lawGives_47
  refine r_ist (pc := 47) (lv' := [(5, _)]) C dX0_lawGives_47 (by decide) [0] rfl ?_
  refine r_goto (pc := 49) (tgt := 58) C dX0_lawGives_49 (by decide) ?_
  refine r_ild (pc := 58) C dX0_lawGives_58 0 rfl ?_
  refine r_sipush (pc := 60) (v := (999 : Int32)) C dX0_lawGives_60 sp_999 ?_
  refine kN_X9_held (x := x) (pc := 63) (a0 := t0) (a1 := (999 : Int32)) C gX0_lawGives_X9_held_n124 nw_49 wd_X0_lawGives_28 wd_X0_lawGives_27 (by omega)  (Nat.le_of_ble_eq_true rfl) dX0_lawGives_63 (fun r2 s1 => ?_)
  exact r_iret (pc := 66) C dX0_lawGives_66
set_option maxHeartbeats 4000000 in
set_option maxRecDepth 100000 in
theorem m_X0_lawGives (l : Launch) (x : oXp) (hI : oI (oX x)) (a1 : Int32) (a2 : Int32) (a3 : Int32) (a4 : Int32) (σ : Sg) : oMI l yX0_lawGives wsX0_lawGives 5 (oX x) [.ref (xa x 1), .int a1, .int a2, .int a3, .int a4] σ (f_X0_lawGives  a1 a2 a3 a4 σ) := by
  refine oMI_of (nL := 6) (cc := cX0_lawGives) hI (by decide +kernel) rfl (Nat.le_of_ble_eq_true rfl) ?_
  intro κ C
  have C : oC κ (oX x) 6 cX0_lawGives RX0 wsX0_lawGives 5 (some .int) := C
  unfold f_X0_lawGives
  show oV κ (oX x) 6 (oQi κ (oX x)) σ 0 [(0, .ref (xa x 1)), (1, .int a1), (2, .int a2), (3, .int a3), (4, .int a4)] [] _
  refine r_aldn (pc := 0) C dX0_lawGives_0 0 rfl ?_
  refine gf_X0_9_1 (pc := 1) C hi_X0_lawGives_X0 wd_X0_lawGives_1 dX0_lawGives_1 ?_
  refine r_ildn (pc := 4) C dX0_lawGives_4 1 rfl ?_
  refine qa_Lw_18 (pc := 5) C dX0_lawGives_5 (fun p3 h1_p3 h2_p3 => ?_)
  refine gfN_X1_0 (pc := 6) C (o := p3) (by omega) (by omega) hi_X0_lawGives_X1 nw_8 dX0_lawGives_6 ?_
  refine r_ifeq (pc := 9) (tgt := 30) C dX0_lawGives_9 (by decide) ?_ ?_
  · refine r_ildn (pc := 30) C dX0_lawGives_30 1 rfl ?_
    refine r_ifne (pc := 31) (tgt := 52) C dX0_lawGives_31 (by decide) ?_ ?_
    · refine r_bipush (pc := 52) (v := (10 : Int32)) C dX0_lawGives_52 bp_10 ?_
      refine r_ildn (pc := 54) C dX0_lawGives_54 2 rfl ?_
      refine r_imul (pc := 55) C dX0_lawGives_55 ?_
      refine r_nm (fun v4 => ?_)
      refine r_ist (pc := 56) (lv' := [(5, _)]) C dX0_lawGives_56 (by decide) [0] rfl ?_
      refine r_ild (pc := 58) C dX0_lawGives_58 0 rfl ?_
      refine r_sipush (pc := 60) (v := (999 : Int32)) C dX0_lawGives_60 sp_999 ?_
      refine kN_X9_held (x := x) (pc := 63) (a0 := v4) (a1 := (999 : Int32)) C gX0_lawGives_X9_held_n124 nw_49 wd_X0_lawGives_28 wd_X0_lawGives_27 (by omega)  (Nat.le_of_ble_eq_true rfl) dX0_lawGives_63 (fun r6 s5 => ?_)
      exact r_iret (pc := 66) C dX0_lawGives_66
    · refine r_ild (pc := 34) C dX0_lawGives_34 4 rfl ?_
      refine r_iconst (pc := 36) (v := (1 : Int32)) C dX0_lawGives_36 ic_1 ?_
      refine r_icne (pc := 37) (tgt := 46) C dX0_lawGives_37 (by decide) ?_ ?_
      · refine r_ildn (pc := 46) C dX0_lawGives_46 2 rfl ?_
        refine r_sub (lv' := []) [] rfl ?_
        exact v_X0_lawGives_47 (x := x) C a2 σ
      · refine r_ildn (pc := 40) C dX0_lawGives_40 2 rfl ?_
        refine r_iconst (pc := 41) (v := (2 : Int32)) C dX0_lawGives_41 ic_2 ?_
        refine r_idiv (pc := 42) C dX0_lawGives_42 (by decide) ?_
        refine r_goto (pc := 43) (tgt := 47) C dX0_lawGives_43 (by decide) ?_
        refine r_sub (lv' := []) [] rfl ?_
        exact v_X0_lawGives_47 (x := x) C (a2 / (2 : Int32)) σ
  · refine r_aldn (pc := 12) C dX0_lawGives_12 0 rfl ?_
    refine gf_X0_9_1 (pc := 13) C hi_X0_lawGives_X0 wd_X0_lawGives_1 dX0_lawGives_13 ?_
    refine r_ildn (pc := 16) C dX0_lawGives_16 1 rfl ?_
    refine qa_Lw_18 (pc := 17) C dX0_lawGives_17 (fun p7 h1_p7 h2_p7 => ?_)
    refine r_ildn (pc := 18) C dX0_lawGives_18 2 rfl ?_
    refine r_ildn (pc := 19) C dX0_lawGives_19 3 rfl ?_
    refine r_ild (pc := 20) C dX0_lawGives_20 4 rfl ?_
    refine k_X1_workOut (x := x) (pc := 22) (o0 := p7) (a1 := a2) (a2 := a3) (a3 := a4) C gX0_lawGives_X1_workOut (by omega) (by omega) (by omega) (Nat.le_of_ble_eq_true rfl) dX0_lawGives_22 (fun r9 s8 => ?_)
    refine r_ist (pc := 25) (lv' := [(5, _)]) C dX0_lawGives_25 (by decide) [0] rfl ?_
    refine r_goto (pc := 27) (tgt := 58) C dX0_lawGives_27 (by decide) ?_
    refine r_ild (pc := 58) C dX0_lawGives_58 0 rfl ?_
    refine r_sipush (pc := 60) (v := (999 : Int32)) C dX0_lawGives_60 sp_999 ?_
    refine kN_X9_held (x := x) (pc := 63) (a0 := r9) (a1 := (999 : Int32)) C gX0_lawGives_X9_held_n124 nw_49 wd_X0_lawGives_28 wd_X0_lawGives_27 (by omega)  (Nat.le_of_ble_eq_true rfl) dX0_lawGives_63 (fun r11 s10 => ?_)
    exact r_iret (pc := 66) C dX0_lawGives_66
theorem k_X0_lawGives {κ : oK} {nL : Nat} {cc : ByteArray} {own : String} {Ts : List Cond} {n : Nat} {ret : Option FieldType} {α : Type} {Q : α → Sg → State → Prop} {σ : Sg} {pc : Nat} {lv : List (Nat × Value)} {st : List Value} {x : oXp} {idx : Nat} {a1 : Int32} {a2 : Int32} {a3 : Int32} {a4 : Int32} {K : Int32 → Sg → Option (α × Sg)} (C : oC κ (oX x) nL cc own Ts n ret) (hG : GoodIn Ts (wsV own idx RX0 yX0_lawGives wsX0_lawGives)) (hn : 5 + 1 ≤ n) (hst : (st.map fun v => v.category).sum ≤ 8) (hd : decode cc pc = .ok (.invokevirtual idx, 3)) (kk : ∀ (r1 : Int32) (σ1 : Sg), oV κ (oX x) nL Q σ1 (pc + 3) lv (.int r1 :: st) (K r1 σ1)) : oV κ (oX x) nL Q σ pc lv (.int a4 :: .int a3 :: .int a2 :: .int a1 :: .ref (xa x 1) :: st) (bnd (f_X0_lawGives a1 a2 a3 a4 σ) K) := by
  have hI : oI (oX x) := oC_I C
  exact r_cVi (As := [.int a1, .int a2, .int a3, .int a4]) (na := 4) (j := 1) (ci := 0) C (fun l => m_X0_lawGives l x hI a1 a2 a3 a4 σ) hG rfl (by decide +kernel) rfl (by decide) hn (by show 1 < 80; decide) rfl rfl rfl rfl hst hd kk
set_option maxHeartbeats 4000000 in
set_option maxRecDepth 100000 in
theorem v_X0_linesOn_4_b {κ : oK} {x : oXp} (C : oC κ (oX x) 4 cX0_linesOn RX0 wsX0_linesOn 3 (some .int))  (rec4 : Int32 → Int32 → Int32 → Sg → Option (Int32 × Sg)) (hrec4 : ∀ (a1 : Int32) (a2 : Int32) (a3 : Int32) (σ : Sg), oV κ (oX x) 4 (oQi κ (oX x)) σ 4 [(0, .ref (xa x 1)), (1, .int a1), (2, .int a2), (3, .int a3)] [] (rec4 a1 a2 a3 σ)) (a1 : Int32) (a2 : Int32) (a3 : Int32) (σ : Sg) : oV κ (oX x) 4 (oQi κ (oX x)) σ 4 [(0, .ref (xa x 1)), (1, .int a1), (2, .int a2), (3, .int a3)] [] (f_X0_linesOn_4_b   rec4 a1 a2 a3 σ) := by
  unfold f_X0_linesOn_4_b
  refine r_ildn (pc := 4) C dX0_linesOn_4 3 rfl ?_
  refine r_aldn (pc := 5) C dX0_linesOn_5 0 rfl ?_
  refine gf_X0_1_1 (pc := 6) C hi_X0_linesOn_X0 wd_X0_linesOn_1 dX0_linesOn_6 ?_
  refine r_icge (pc := 9) (tgt := 50) C dX0_linesOn_9 (by decide) ?_ ?_
  · refine r_ildn (pc := 50) C dX0_linesOn_50 2 rfl ?_
    exact r_iret (pc := 51) C dX0_linesOn_51
  · refine r_aldn (pc := 12) C dX0_linesOn_12 0 rfl ?_
    refine gf_X0_0_1 (pc := 13) C hi_X0_linesOn_X0 wd_X0_linesOn_2 dX0_linesOn_13 ?_
    refine r_ildn (pc := 16) C dX0_linesOn_16 3 rfl ?_
    refine qa_Ln_14 (pc := 17) C dX0_linesOn_17 (fun p1 h1_p1 h2_p1 => ?_)
    refine gfN_X2_6 (pc := 18) C (o := p1) (by omega) (by omega) hi_X0_linesOn_X2 nw_23 dX0_linesOn_18 ?_
    refine r_ifne (pc := 21) (tgt := 44) C dX0_linesOn_21 (by decide) ?_ ?_
    · refine r_iinc (pc := 44) (v := (1 : Int32)) (lv1 := fun y => [(0, _), (1, _), (2, _), (3, .int y)]) C dX0_linesOn_44 ic_1 3 rfl (by decide) [1, 2, 3, 0] (fun _ => rfl) (fun v2 => ?_)
      refine r_goto (pc := 47) (tgt := 4) C dX0_linesOn_47 (by decide) ?_
      exact hrec4 a1 a2 v2 σ
    · refine r_aldn (pc := 24) C dX0_linesOn_24 0 rfl ?_
      refine gf_X0_0_1 (pc := 25) C hi_X0_linesOn_X0 wd_X0_linesOn_2 dX0_linesOn_25 ?_
      refine r_ildn (pc := 28) C dX0_linesOn_28 3 rfl ?_
      refine qa_Ln_14 (pc := 29) C dX0_linesOn_29 (fun p3 h1_p3 h2_p3 => ?_)
      refine gfN_X2_2 (pc := 30) C (o := p3) (by omega) (by omega) hi_X0_linesOn_X2 nw_16 dX0_linesOn_30 ?_
      refine r_ildn (pc := 33) C dX0_linesOn_33 1 rfl ?_
      refine r_iand (pc := 34) C dX0_linesOn_34 ?_
      refine r_ifeq (pc := 35) (tgt := 44) C dX0_linesOn_35 (by decide) ?_ ?_
      · refine r_iinc (pc := 44) (v := (1 : Int32)) (lv1 := fun y => [(0, _), (1, _), (2, _), (3, .int y)]) C dX0_linesOn_44 ic_1 3 rfl (by decide) [1, 2, 3, 0] (fun _ => rfl) (fun v4 => ?_)
        refine r_goto (pc := 47) (tgt := 4) C dX0_linesOn_47 (by decide) ?_
        exact hrec4 a1 a2 v4 σ
      · refine r_ildn (pc := 38) C dX0_linesOn_38 2 rfl ?_
        refine r_iconst (pc := 39) (v := (1 : Int32)) C dX0_linesOn_39 ic_1 ?_
        refine r_ildn (pc := 40) C dX0_linesOn_40 3 rfl ?_
        refine r_ishl (pc := 41) C dX0_linesOn_41 ?_
        refine r_ior (pc := 42) C dX0_linesOn_42 ?_
        refine r_nm (fun v5 => ?_)
        refine r_istn (pc := 43) (lv' := [(0, _), (1, _), (2, _), (3, _)]) C dX0_linesOn_43 (by decide) [1, 2, 0, 3] rfl ?_
        refine r_iinc (pc := 44) (v := (1 : Int32)) (lv1 := fun y => [(0, _), (1, _), (2, _), (3, .int y)]) C dX0_linesOn_44 ic_1 3 rfl (by decide) [1, 2, 3, 0] (fun _ => rfl) (fun v6 => ?_)
        refine r_goto (pc := 47) (tgt := 4) C dX0_linesOn_47 (by decide) ?_
        exact hrec4 a1 v5 v6 σ
theorem v_X0_linesOn_4 {κ : oK} {x : oXp} (C : oC κ (oX x) 4 cX0_linesOn RX0 wsX0_linesOn 3 (some .int))  : ∀ (n : Nat) (a1 : Int32) (a2 : Int32) (a3 : Int32) (σ : Sg), oV κ (oX x) 4 (oQi κ (oX x)) σ 4 [(0, .ref (xa x 1)), (1, .int a1), (2, .int a2), (3, .int a3)] [] (f_X0_linesOn_4   n a1 a2 a3 σ) := by
  intro n
  induction n with
  | zero => intros; exact r_none
  | succ n ih => exact v_X0_linesOn_4_b C  _ ih
set_option maxHeartbeats 4000000 in
set_option maxRecDepth 100000 in
theorem m_X0_linesOn (l : Launch) (x : oXp) (hI : oI (oX x)) (a1 : Int32) (σ : Sg) : oMI l yX0_linesOn wsX0_linesOn 3 (oX x) [.ref (xa x 1), .int a1] σ (f_X0_linesOn  a1 σ) := by
  refine oMI_of (nL := 4) (cc := cX0_linesOn) hI (by decide +kernel) rfl (Nat.le_of_ble_eq_true rfl) ?_
  intro κ C
  have C : oC κ (oX x) 4 cX0_linesOn RX0 wsX0_linesOn 3 (some .int) := C
  unfold f_X0_linesOn
  show oV κ (oX x) 4 (oQi κ (oX x)) σ 0 [(0, .ref (xa x 1)), (1, .int a1)] [] _
  refine r_iconst (pc := 0) (v := (0 : Int32)) C dX0_linesOn_0 ic_0 ?_
  refine r_istn (pc := 1) (lv' := [(0, _), (1, _), (2, _)]) C dX0_linesOn_1 (by decide) [1, 2, 0] rfl ?_
  refine r_iconst (pc := 2) (v := (0 : Int32)) C dX0_linesOn_2 ic_0 ?_
  refine r_istn (pc := 3) (lv' := [(0, _), (1, _), (2, _), (3, _)]) C dX0_linesOn_3 (by decide) [1, 2, 3, 0] rfl ?_
  exact v_X0_linesOn_4 (x := x) C fuN a1 (0 : Int32) (0 : Int32) σ
theorem k_X0_linesOn {κ : oK} {nL : Nat} {cc : ByteArray} {own : String} {Ts : List Cond} {n : Nat} {ret : Option FieldType} {α : Type} {Q : α → Sg → State → Prop} {σ : Sg} {pc : Nat} {lv : List (Nat × Value)} {st : List Value} {x : oXp} {idx : Nat} {a1 : Int32} {K : Int32 → Sg → Option (α × Sg)} (C : oC κ (oX x) nL cc own Ts n ret) (hG : GoodIn Ts (wsV own idx RX0 yX0_linesOn wsX0_linesOn)) (hn : 3 + 1 ≤ n) (hst : (st.map fun v => v.category).sum ≤ 8) (hd : decode cc pc = .ok (.invokevirtual idx, 3)) (kk : ∀ (r1 : Int32) (σ1 : Sg), oV κ (oX x) nL Q σ1 (pc + 3) lv (.int r1 :: st) (K r1 σ1)) : oV κ (oX x) nL Q σ pc lv (.int a1 :: .ref (xa x 1) :: st) (bnd (f_X0_linesOn a1 σ) K) := by
  have hI : oI (oX x) := oC_I C
  exact r_cVi (As := [.int a1]) (na := 1) (j := 1) (ci := 0) C (fun l => m_X0_linesOn l x hI a1 σ) hG rfl (by decide +kernel) rfl (by decide) hn (by show 1 < 80; decide) rfl rfl rfl rfl hst hd kk
set_option maxHeartbeats 4000000 in
set_option maxRecDepth 100000 in
theorem m_X2_back (l : Launch) (x : oXp) (hI : oI (oX x)) (o0 : Nat) (a1 : Int32) (h1_o0 : 20 ≤ o0) (h2_o0 : o0 < 40) (σ : Sg) : oMI l yX2_back wsX2_back 4 (oX x) [.ref (xa x o0), .int a1] σ (f_X2_back  o0 a1 σ) := by
  refine oMI_of (nL := 3) (cc := cX2_back) hI (by decide +kernel) rfl (Nat.le_of_ble_eq_true rfl) ?_
  intro κ C
  have C : oC κ (oX x) 3 cX2_back RX2 wsX2_back 4 (some .int) := C
  unfold f_X2_back
  show oV κ (oX x) 3 (oQi κ (oX x)) σ 0 [(0, .ref (xa x o0)), (1, .int a1)] [] _
  refine r_iconst (pc := 0) (v := (0 : Int32)) C dX2_back_0 ic_0 ?_
  refine r_bipush (pc := 1) (v := (50 : Int32)) C dX2_back_1 bp_50 ?_
  refine r_iconst (pc := 3) (v := (5 : Int32)) C dX2_back_3 ic_5 ?_
  refine r_ildn (pc := 4) C dX2_back_4 1 rfl ?_
  refine r_aldn (pc := 5) C dX2_back_5 0 rfl ?_
  refine gf_X2_4 (pc := 6) C (o := o0) (by omega) (by omega) hi_X2_back_X2 wd_X2_back_1 dX2_back_6 ?_
  refine r_isub (pc := 9) C dX2_back_9 ?_
  refine r_imul (pc := 10) C dX2_back_10 ?_
  refine r_isub (pc := 11) C dX2_back_11 ?_
  refine r_mx (pc := 12) C wd_X2_back_2 wd_X2_back_3 wd_X2_back_4 wd_X2_back_5 (by omega) (Nat.le_of_ble_eq_true rfl) dX2_back_12 ?_
  refine r_aldn (pc := 15) C dX2_back_15 0 rfl ?_
  refine gf_X2_1 (pc := 16) C (o := o0) (by omega) (by omega) hi_X2_back_X2 wd_X2_back_6 dX2_back_16 ?_
  refine r_iadd (pc := 19) C dX2_back_19 ?_
  refine r_nm (fun v1 => ?_)
  refine r_istn (pc := 20) (lv' := [(0, _), (2, _)]) C dX2_back_20 (by decide) [1, 0] rfl ?_
  refine r_aldn (pc := 21) C dX2_back_21 0 rfl ?_
  refine gf_X2_0 (pc := 22) C (o := o0) (by omega) (by omega) hi_X2_back_X2 wd_X2_back_7 dX2_back_22 ?_
  refine r_nm (fun v2 => ?_)
  refine r_ite (fun c3 => ?_) (fun c3 => ?_)
  · refine r_tabE (pc := 25) (v := (1 : Int32)) (off := 39) (tgt := 64) C dX2_back_25 c3 (by decide) (by decide) (by decide) (by decide) ?_
    refine r_ildn (pc := 64) C dX2_back_64 1 rfl ?_
    refine r_bipush (pc := 65) (v := (20 : Int32)) C dX2_back_65 bp_20 ?_
    refine r_iadd (pc := 67) C dX2_back_67 ?_
    refine r_bipush (pc := 68) (v := (100 : Int32)) C dX2_back_68 bp_100 ?_
    refine kN_X9_held (x := x) (pc := 70) (a0 := (v1 + (20 : Int32))) (a1 := (100 : Int32)) C gX2_back_X9_held_n49 nw_48 wd_X2_back_10 wd_X2_back_9 (by omega)  (Nat.le_of_ble_eq_true rfl) dX2_back_70 (fun r5 s4 => ?_)
    exact r_iret (pc := 73) C dX2_back_73
  · refine r_ite (fun c6 => ?_) (fun c6 => ?_)
    · refine r_tabE (pc := 25) (v := (2 : Int32)) (off := 49) (tgt := 74) C dX2_back_25 c6 (by decide) (by decide) (by decide) (by decide) ?_
      refine r_ildn (pc := 74) C dX2_back_74 1 rfl ?_
      refine r_iconst (pc := 75) (v := (2 : Int32)) C dX2_back_75 ic_2 ?_
      refine r_idiv (pc := 76) C dX2_back_76 (by decide) ?_
      refine r_bipush (pc := 77) (v := (100 : Int32)) C dX2_back_77 bp_100 ?_
      refine kN_X9_held (x := x) (pc := 79) (a0 := (v1 / (2 : Int32))) (a1 := (100 : Int32)) C gX2_back_X9_held_n49 nw_48 wd_X2_back_10 wd_X2_back_9 (by omega)  (Nat.le_of_ble_eq_true rfl) dX2_back_79 (fun r8 s7 => ?_)
      exact r_iret (pc := 82) C dX2_back_82
    · refine r_ite (fun c9 => ?_) (fun c9 => ?_)
      · refine r_tabE (pc := 25) (v := (3 : Int32)) (off := 58) (tgt := 83) C dX2_back_25 c9 (by decide) (by decide) (by decide) (by decide) ?_
        refine r_ildn (pc := 83) C dX2_back_83 1 rfl ?_
        refine r_bipush (pc := 84) (v := (20 : Int32)) C dX2_back_84 bp_20 ?_
        refine r_aldn (pc := 86) C dX2_back_86 0 rfl ?_
        refine gf_X2_5 (pc := 87) C (o := o0) (by omega) (by omega) hi_X2_back_X2 wd_X2_back_8 dX2_back_87 ?_
        refine r_imul (pc := 90) C dX2_back_90 ?_
        refine r_iadd (pc := 91) C dX2_back_91 ?_
        refine r_bipush (pc := 92) (v := (100 : Int32)) C dX2_back_92 bp_100 ?_
        refine kN_X9_held (x := x) (pc := 94) (a0 := (v1 + ((20 : Int32) * (σ o0 5)))) (a1 := (100 : Int32)) C gX2_back_X9_held_n49 nw_48 wd_X2_back_10 wd_X2_back_9 (by omega)  (Nat.le_of_ble_eq_true rfl) dX2_back_94 (fun r11 s10 => ?_)
        exact r_iret (pc := 97) C dX2_back_97
      · refine r_ite (fun c12 => ?_) (fun c12 => ?_)
        · refine r_tabE (pc := 25) (v := (4 : Int32)) (off := 73) (tgt := 98) C dX2_back_25 c12 (by decide) (by decide) (by decide) (by decide) ?_
          refine r_ildn (pc := 98) C dX2_back_98 1 rfl ?_
          refine r_bipush (pc := 99) (v := (40 : Int32)) C dX2_back_99 bp_40 ?_
          refine r_iadd (pc := 101) C dX2_back_101 ?_
          refine r_bipush (pc := 102) (v := (100 : Int32)) C dX2_back_102 bp_100 ?_
          refine kN_X9_held (x := x) (pc := 104) (a0 := (v1 + (40 : Int32))) (a1 := (100 : Int32)) C gX2_back_X9_held_n49 nw_48 wd_X2_back_10 wd_X2_back_9 (by omega)  (Nat.le_of_ble_eq_true rfl) dX2_back_104 (fun r14 s13 => ?_)
          exact r_iret (pc := 107) C dX2_back_107
        · refine r_ite (fun c15 => ?_) (fun c15 => ?_)
          · refine r_tabE (pc := 25) (v := (5 : Int32)) (off := 83) (tgt := 108) C dX2_back_25 c15 (by decide) (by decide) (by decide) (by decide) ?_
            refine r_ildn (pc := 108) C dX2_back_108 1 rfl ?_
            refine r_iconst (pc := 109) (v := (2 : Int32)) C dX2_back_109 ic_2 ?_
            refine r_idiv (pc := 110) C dX2_back_110 (by decide) ?_
            refine r_aldn (pc := 111) C dX2_back_111 0 rfl ?_
            refine gf_X2_1 (pc := 112) C (o := o0) (by omega) (by omega) hi_X2_back_X2 wd_X2_back_6 dX2_back_112 ?_
            refine r_isub (pc := 115) C dX2_back_115 ?_
            refine r_bipush (pc := 116) (v := (100 : Int32)) C dX2_back_116 bp_100 ?_
            refine kN_X9_held (x := x) (pc := 118) (a0 := ((v1 / (2 : Int32)) - (σ o0 1))) (a1 := (100 : Int32)) C gX2_back_X9_held_n49 nw_48 wd_X2_back_10 wd_X2_back_9 (by omega)  (Nat.le_of_ble_eq_true rfl) dX2_back_118 (fun r17 s16 => ?_)
            exact r_iret (pc := 121) C dX2_back_121
          · refine r_ite (fun c18 => ?_) (fun c18 => ?_)
            · refine r_tabE (pc := 25) (v := (6 : Int32)) (off := 97) (tgt := 122) C dX2_back_25 c18 (by decide) (by decide) (by decide) (by decide) ?_
              refine r_ildn (pc := 122) C dX2_back_122 1 rfl ?_
              refine r_iconst (pc := 123) (v := (5 : Int32)) C dX2_back_123 ic_5 ?_
              refine r_iadd (pc := 124) C dX2_back_124 ?_
              refine r_bipush (pc := 125) (v := (100 : Int32)) C dX2_back_125 bp_100 ?_
              refine kN_X9_held (x := x) (pc := 127) (a0 := (v1 + (5 : Int32))) (a1 := (100 : Int32)) C gX2_back_X9_held_n49 nw_48 wd_X2_back_10 wd_X2_back_9 (by omega)  (Nat.le_of_ble_eq_true rfl) dX2_back_127 (fun r20 s19 => ?_)
              exact r_iret (pc := 130) C dX2_back_130
            · refine r_tabO (pc := 25) (tgt := 131) C dX2_back_25 (by have q0 := lv_neT (k := (1 : Int32)) (a := 1) c3 (by decide); have q1 := lv_neT (k := (2 : Int32)) (a := 2) c6 (by decide); have q2 := lv_neT (k := (3 : Int32)) (a := 3) c9 (by decide); have q3 := lv_neT (k := (4 : Int32)) (a := 4) c12 (by decide); have q4 := lv_neT (k := (5 : Int32)) (a := 5) c15 (by decide); have q5 := lv_neT (k := (6 : Int32)) (a := 6) c18 (by decide); omega) (by decide) ?_
              refine r_ildn (pc := 131) C dX2_back_131 1 rfl ?_
              refine r_bipush (pc := 132) (v := (100 : Int32)) C dX2_back_132 bp_100 ?_
              refine kN_X9_held (x := x) (pc := 134) (a0 := v1) (a1 := (100 : Int32)) C gX2_back_X9_held_n49 nw_48 wd_X2_back_10 wd_X2_back_9 (by omega)  (Nat.le_of_ble_eq_true rfl) dX2_back_134 (fun r22 s21 => ?_)
              exact r_iret (pc := 137) C dX2_back_137
theorem k_X2_back {κ : oK} {nL : Nat} {cc : ByteArray} {own : String} {Ts : List Cond} {n : Nat} {ret : Option FieldType} {α : Type} {Q : α → Sg → State → Prop} {σ : Sg} {pc : Nat} {lv : List (Nat × Value)} {st : List Value} {x : oXp} {idx : Nat} {o0 : Nat} {a1 : Int32} {K : Int32 → Sg → Option (α × Sg)} (C : oC κ (oX x) nL cc own Ts n ret) (hG : GoodIn Ts (wsV own idx RX2 yX2_back wsX2_back)) (hn : 4 + 1 ≤ n) (h1_o0 : 20 ≤ o0) (h2_o0 : o0 < 40) (hst : (st.map fun v => v.category).sum ≤ 8) (hd : decode cc pc = .ok (.invokevirtual idx, 3)) (kk : ∀ (r1 : Int32) (σ1 : Sg), oV κ (oX x) nL Q σ1 (pc + 3) lv (.int r1 :: st) (K r1 σ1)) : oV κ (oX x) nL Q σ pc lv (.int a1 :: .ref (xa x o0) :: st) (bnd (f_X2_back o0 a1 σ) K) := by
  have hI : oI (oX x) := oC_I C
  exact r_cVi (As := [.int a1]) (na := 1) (j := o0) (ci := 2) C (fun l => m_X2_back l x hI o0 a1 h1_o0 h2_o0 σ) hG rfl (by decide +kernel) rfl (by decide) hn (by show o0 < 80; omega) rfl (eX2 x h1_o0 h2_o0 _) rfl rfl hst hd kk
set_option maxHeartbeats 4000000 in
set_option maxRecDepth 100000 in
theorem m_X0_lossOf (l : Launch) (x : oXp) (hI : oI (oX x)) (a1 : Int32) (a2 : Int32) (σ : Sg) : oMI l yX0_lossOf wsX0_lossOf 6 (oX x) [.ref (xa x 1), .int a1, .int a2] σ (f_X0_lossOf  a1 a2 σ) := by
  refine oMI_of (nL := 3) (cc := cX0_lossOf) hI (by decide +kernel) rfl (Nat.le_of_ble_eq_true rfl) ?_
  intro κ C
  have C : oC κ (oX x) 3 cX0_lossOf RX0 wsX0_lossOf 6 (some .int) := C
  unfold f_X0_lossOf
  show oV κ (oX x) 3 (oQi κ (oX x)) σ 0 [(0, .ref (xa x 1)), (1, .int a1), (2, .int a2)] [] _
  refine r_aldn (pc := 0) C dX0_lossOf_0 0 rfl ?_
  refine r_iconst (pc := 1) (v := (0 : Int32)) C dX0_lossOf_1 ic_0 ?_
  refine r_aldn (pc := 2) C dX0_lossOf_2 0 rfl ?_
  refine gf_X0_0_1 (pc := 3) C hi_X0_lossOf_X0 wd_X0_lossOf_1 dX0_lossOf_3 ?_
  refine r_ildn (pc := 6) C dX0_lossOf_6 1 rfl ?_
  refine qa_Ln_14 (pc := 7) C dX0_lossOf_7 (fun p1 h1_p1 h2_p1 => ?_)
  refine r_ildn (pc := 8) C dX0_lossOf_8 2 rfl ?_
  refine k_X2_back (x := x) (pc := 9) (o0 := p1) (a1 := a2) C gX0_lossOf_X2_back (by omega) (by omega) (by omega) (Nat.le_of_ble_eq_true rfl) dX0_lossOf_9 (fun r3 s2 => ?_)
  refine r_aldn (pc := 12) C dX0_lossOf_12 0 rfl ?_
  refine gf_X0_0_1 (pc := 13) C hi_X0_lossOf_X0 wd_X0_lossOf_1 dX0_lossOf_13 ?_
  refine r_ildn (pc := 16) C dX0_lossOf_16 1 rfl ?_
  refine qa_Ln_14 (pc := 17) C dX0_lossOf_17 (fun p4 h1_p4 h2_p4 => ?_)
  refine gfN_X2_1 (pc := 18) C (o := p4) (by omega) (by omega) hi_X0_lossOf_X2 nw_14 dX0_lossOf_18 ?_
  refine r_aldn (pc := 21) C dX0_lossOf_21 0 rfl ?_
  refine gf_X0_0_1 (pc := 22) C hi_X0_lossOf_X0 wd_X0_lossOf_1 dX0_lossOf_22 ?_
  refine r_ildn (pc := 25) C dX0_lossOf_25 1 rfl ?_
  refine qa_Ln_14 (pc := 26) C dX0_lossOf_26 (fun p5 h1_p5 h2_p5 => ?_)
  refine gfN_X2_5 (pc := 27) C (o := p5) (by omega) (by omega) hi_X0_lossOf_X2 nw_21 dX0_lossOf_27 ?_
  refine k_X0_lawGives (x := x) (pc := 30) (a1 := (0 : Int32)) (a2 := r3) (a3 := (s2 p4 1)) (a4 := (s2 p5 5)) C gX0_lossOf_X0_lawGives (by omega)  (Nat.le_of_ble_eq_true rfl) dX0_lossOf_30 (fun r7 s6 => ?_)
  exact r_iret (pc := 33) C dX0_lossOf_33
theorem k_X0_lossOf {κ : oK} {nL : Nat} {cc : ByteArray} {own : String} {Ts : List Cond} {n : Nat} {ret : Option FieldType} {α : Type} {Q : α → Sg → State → Prop} {σ : Sg} {pc : Nat} {lv : List (Nat × Value)} {st : List Value} {x : oXp} {idx : Nat} {a1 : Int32} {a2 : Int32} {K : Int32 → Sg → Option (α × Sg)} (C : oC κ (oX x) nL cc own Ts n ret) (hG : GoodIn Ts (wsV own idx RX0 yX0_lossOf wsX0_lossOf)) (hn : 6 + 1 ≤ n) (hst : (st.map fun v => v.category).sum ≤ 8) (hd : decode cc pc = .ok (.invokevirtual idx, 3)) (kk : ∀ (r1 : Int32) (σ1 : Sg), oV κ (oX x) nL Q σ1 (pc + 3) lv (.int r1 :: st) (K r1 σ1)) : oV κ (oX x) nL Q σ pc lv (.int a2 :: .int a1 :: .ref (xa x 1) :: st) (bnd (f_X0_lossOf a1 a2 σ) K) := by
  have hI : oI (oX x) := oC_I C
  exact r_cVi (As := [.int a1, .int a2]) (na := 2) (j := 1) (ci := 0) C (fun l => m_X0_lossOf l x hI a1 a2 σ) hG rfl (by decide +kernel) rfl (by decide) hn (by show 1 < 80; decide) rfl rfl rfl rfl hst hd kk
set_option maxHeartbeats 4000000 in
set_option maxRecDepth 100000 in
theorem m_X2_ripeAge (l : Launch) (x : oXp) (hI : oI (oX x)) (o0 : Nat) (a1 : Int32) (h1_o0 : 20 ≤ o0) (h2_o0 : o0 < 40) (σ : Sg) : oMI l yX2_ripeAge wsX2_ripeAge 3 (oX x) [.ref (xa x o0), .int a1] σ (f_X2_ripeAge  o0 a1 σ) := by
  refine oMI_of (nL := 2) (cc := cX2_ripeAge) hI (by decide +kernel) rfl (Nat.le_of_ble_eq_true rfl) ?_
  intro κ C
  have C : oC κ (oX x) 2 cX2_ripeAge RX2 wsX2_ripeAge 3 (some .int) := C
  unfold f_X2_ripeAge
  show oV κ (oX x) 2 (oQi κ (oX x)) σ 0 [(0, .ref (xa x o0)), (1, .int a1)] [] _
  refine r_aldn (pc := 0) C dX2_ripeAge_0 0 rfl ?_
  refine gf_X2_0 (pc := 1) C (o := o0) (by omega) (by omega) hi_X2_ripeAge_X2 wd_X2_ripeAge_1 dX2_ripeAge_1 ?_
  refine r_nm (fun v1 => ?_)
  refine r_ite (fun c2 => ?_) (fun c2 => ?_)
  · refine r_tabE (pc := 4) (v := (1 : Int32)) (off := 40) (tgt := 44) C dX2_ripeAge_4 c2 (by decide) (by decide) (by decide) (by decide) ?_
    refine r_bipush (pc := 44) (v := (7 : Int32)) C dX2_ripeAge_44 bp_7 ?_
    refine r_bipush (pc := 46) (v := (7 : Int32)) C dX2_ripeAge_46 bp_7 ?_
    refine r_aldn (pc := 48) C dX2_ripeAge_48 0 rfl ?_
    refine gf_X2_1 (pc := 49) C (o := o0) (by omega) (by omega) hi_X2_ripeAge_X2 wd_X2_ripeAge_2 dX2_ripeAge_49 ?_
    refine r_imul (pc := 52) C dX2_ripeAge_52 ?_
    refine r_mx (pc := 53) C wd_X2_ripeAge_3 wd_X2_ripeAge_4 wd_X2_ripeAge_5 wd_X2_ripeAge_6 (by omega) (Nat.le_of_ble_eq_true rfl) dX2_ripeAge_53 ?_
    exact r_iret (pc := 56) C dX2_ripeAge_56
  · refine r_ite (fun c3 => ?_) (fun c3 => ?_)
    · refine r_tabE (pc := 4) (v := (2 : Int32)) (off := 53) (tgt := 57) C dX2_ripeAge_4 c3 (by decide) (by decide) (by decide) (by decide) ?_
      refine r_iconst (pc := 57) (v := (1 : Int32)) C dX2_ripeAge_57 ic_1 ?_
      exact r_iret (pc := 58) C dX2_ripeAge_58
    · refine r_ite (fun c4 => ?_) (fun c4 => ?_)
      · refine r_tabE (pc := 4) (v := (3 : Int32)) (off := 92) (tgt := 96) C dX2_ripeAge_4 c4 (by decide) (by decide) (by decide) (by decide) ?_
        refine r_bipush (pc := 96) (v := (7 : Int32)) C dX2_ripeAge_96 bp_7 ?_
        exact r_iret (pc := 98) C dX2_ripeAge_98
      · refine r_ite (fun c5 => ?_) (fun c5 => ?_)
        · refine r_tabE (pc := 4) (v := (4 : Int32)) (off := 55) (tgt := 59) C dX2_ripeAge_4 c5 (by decide) (by decide) (by decide) (by decide) ?_
          refine r_aldn (pc := 59) C dX2_ripeAge_59 0 rfl ?_
          refine gf_X2_1 (pc := 60) C (o := o0) (by omega) (by omega) hi_X2_ripeAge_X2 wd_X2_ripeAge_2 dX2_ripeAge_60 ?_
          refine r_ifne (pc := 63) (tgt := 71) C dX2_ripeAge_63 (by decide) ?_ ?_
          · refine r_ldc (pc := 71) (v := (1000000 : Int32)) C dX2_ripeAge_71 wd_X2_ripeAge_7 ?_
            exact r_iret (pc := 73) C dX2_ripeAge_73
          · refine r_bipush (pc := 66) (v := (7 : Int32)) C dX2_ripeAge_66 bp_7 ?_
            refine r_goto (pc := 68) (tgt := 73) C dX2_ripeAge_68 (by decide) ?_
            exact r_iret (pc := 73) C dX2_ripeAge_73
        · refine r_ite (fun c6 => ?_) (fun c6 => ?_)
          · refine r_tabE (pc := 4) (v := (5 : Int32)) (off := 70) (tgt := 74) C dX2_ripeAge_4 c6 (by decide) (by decide) (by decide) (by decide) ?_
            refine r_iconst (pc := 74) (v := (1 : Int32)) C dX2_ripeAge_74 ic_1 ?_
            refine r_aldn (pc := 75) C dX2_ripeAge_75 0 rfl ?_
            refine gf_X2_1 (pc := 76) C (o := o0) (by omega) (by omega) hi_X2_ripeAge_X2 wd_X2_ripeAge_2 dX2_ripeAge_76 ?_
            refine r_mx (pc := 79) C wd_X2_ripeAge_3 wd_X2_ripeAge_4 wd_X2_ripeAge_5 wd_X2_ripeAge_6 (by omega) (Nat.le_of_ble_eq_true rfl) dX2_ripeAge_79 ?_
            exact r_iret (pc := 82) C dX2_ripeAge_82
          · refine r_ite (fun c7 => ?_) (fun c7 => ?_)
            · refine r_tabE (pc := 4) (v := (6 : Int32)) (off := 79) (tgt := 83) C dX2_ripeAge_4 c7 (by decide) (by decide) (by decide) (by decide) ?_
              refine r_ildn (pc := 83) C dX2_ripeAge_83 1 rfl ?_
              refine r_iconst (pc := 84) (v := (1 : Int32)) C dX2_ripeAge_84 ic_1 ?_
              refine r_icne (pc := 85) (tgt := 93) C dX2_ripeAge_85 (by decide) ?_ ?_
              · refine r_ldc (pc := 93) (v := (1000000 : Int32)) C dX2_ripeAge_93 wd_X2_ripeAge_7 ?_
                exact r_iret (pc := 95) C dX2_ripeAge_95
              · refine r_bipush (pc := 88) (v := (7 : Int32)) C dX2_ripeAge_88 bp_7 ?_
                refine r_goto (pc := 90) (tgt := 95) C dX2_ripeAge_90 (by decide) ?_
                exact r_iret (pc := 95) C dX2_ripeAge_95
            · refine r_tabO (pc := 4) (tgt := 96) C dX2_ripeAge_4 (by have q0 := lv_neT (k := (1 : Int32)) (a := 1) c2 (by decide); have q1 := lv_neT (k := (2 : Int32)) (a := 2) c3 (by decide); have q2 := lv_neT (k := (3 : Int32)) (a := 3) c4 (by decide); have q3 := lv_neT (k := (4 : Int32)) (a := 4) c5 (by decide); have q4 := lv_neT (k := (5 : Int32)) (a := 5) c6 (by decide); have q5 := lv_neT (k := (6 : Int32)) (a := 6) c7 (by decide); omega) (by decide) ?_
              refine r_bipush (pc := 96) (v := (7 : Int32)) C dX2_ripeAge_96 bp_7 ?_
              exact r_iret (pc := 98) C dX2_ripeAge_98
theorem k_X2_ripeAge {κ : oK} {nL : Nat} {cc : ByteArray} {own : String} {Ts : List Cond} {n : Nat} {ret : Option FieldType} {α : Type} {Q : α → Sg → State → Prop} {σ : Sg} {pc : Nat} {lv : List (Nat × Value)} {st : List Value} {x : oXp} {idx : Nat} {o0 : Nat} {a1 : Int32} {K : Int32 → Sg → Option (α × Sg)} (C : oC κ (oX x) nL cc own Ts n ret) (hG : GoodIn Ts (wsV own idx RX2 yX2_ripeAge wsX2_ripeAge)) (hn : 3 + 1 ≤ n) (h1_o0 : 20 ≤ o0) (h2_o0 : o0 < 40) (hst : (st.map fun v => v.category).sum ≤ 8) (hd : decode cc pc = .ok (.invokevirtual idx, 3)) (kk : ∀ (r1 : Int32) (σ1 : Sg), oV κ (oX x) nL Q σ1 (pc + 3) lv (.int r1 :: st) (K r1 σ1)) : oV κ (oX x) nL Q σ pc lv (.int a1 :: .ref (xa x o0) :: st) (bnd (f_X2_ripeAge o0 a1 σ) K) := by
  have hI : oI (oX x) := oC_I C
  exact r_cVi (As := [.int a1]) (na := 1) (j := o0) (ci := 2) C (fun l => m_X2_ripeAge l x hI o0 a1 h1_o0 h2_o0 σ) hG rfl (by decide +kernel) rfl (by decide) hn (by show o0 < 80; omega) rfl (eX2 x h1_o0 h2_o0 _) rfl rfl hst hd kk
set_option maxHeartbeats 4000000 in
set_option maxRecDepth 100000 in
theorem m_X2_goesBehind (l : Launch) (x : oXp) (hI : oI (oX x)) (o0 : Nat) (a1 : Int32) (a2 : Int32) (h1_o0 : 20 ≤ o0) (h2_o0 : o0 < 40) (σ : Sg) : oMI l yX2_goesBehind wsX2_goesBehind 4 (oX x) [.ref (xa x o0), .int a1, .int a2] σ (f_X2_goesBehind  o0 a1 a2 σ) := by
  refine oMI_of (nL := 4) (cc := cX2_goesBehind) hI (by decide +kernel) rfl (Nat.le_of_ble_eq_true rfl) ?_
  intro κ C
  have C : oC κ (oX x) 4 cX2_goesBehind RX2 wsX2_goesBehind 4 (some .int) := C
  unfold f_X2_goesBehind
  show oV κ (oX x) 4 (oQi κ (oX x)) σ 0 [(0, .ref (xa x o0)), (1, .int a1), (2, .int a2)] [] _
  refine r_aldn (pc := 0) C dX2_goesBehind_0 0 rfl ?_
  refine r_ildn (pc := 1) C dX2_goesBehind_1 2 rfl ?_
  refine k_X2_ripeAge (x := x) (pc := 2) (o0 := o0) (a1 := a2) C gX2_goesBehind_X2_ripeAge (by omega) (by omega) (by omega) (Nat.le_of_ble_eq_true rfl) dX2_goesBehind_2 (fun r2 s1 => ?_)
  refine r_istn (pc := 5) (lv' := [(0, _), (1, _), (3, _)]) C dX2_goesBehind_5 (by decide) [1, 2, 0] rfl ?_
  refine r_aldn (pc := 6) C dX2_goesBehind_6 0 rfl ?_
  refine gf_X2_6 (pc := 7) C (o := o0) (by omega) (by omega) hi_X2_goesBehind_X2 wd_X2_goesBehind_1 dX2_goesBehind_7 ?_
  refine r_ifne (pc := 10) (tgt := 19) C dX2_goesBehind_10 (by decide) ?_ ?_
  · refine r_ldc (pc := 19) (v := (1000000 : Int32)) C dX2_goesBehind_19 wd_X2_goesBehind_2 ?_
    refine r_goto (pc := 21) (tgt := 36) C dX2_goesBehind_21 (by decide) ?_
    exact r_iret (pc := 36) C dX2_goesBehind_36
  · refine r_ildn (pc := 13) C dX2_goesBehind_13 2 rfl ?_
    refine r_ldc (pc := 14) (v := (1000000 : Int32)) C dX2_goesBehind_14 wd_X2_goesBehind_2 ?_
    refine r_icne (pc := 16) (tgt := 24) C dX2_goesBehind_16 (by decide) ?_ ?_
    · refine r_iconst (pc := 24) (v := (0 : Int32)) C dX2_goesBehind_24 ic_0 ?_
      refine r_ildn (pc := 25) C dX2_goesBehind_25 2 rfl ?_
      refine r_ildn (pc := 26) C dX2_goesBehind_26 1 rfl ?_
      refine r_aldn (pc := 27) C dX2_goesBehind_27 0 rfl ?_
      refine gf_X2_4 (pc := 28) C (o := o0) (by omega) (by omega) hi_X2_goesBehind_X2 wd_X2_goesBehind_3 dX2_goesBehind_28 ?_
      refine r_isub (pc := 31) C dX2_goesBehind_31 ?_
      refine r_isub (pc := 32) C dX2_goesBehind_32 ?_
      refine r_mx (pc := 33) C wd_X2_goesBehind_4 wd_X2_goesBehind_5 wd_X2_goesBehind_6 wd_X2_goesBehind_7 (by omega) (Nat.le_of_ble_eq_true rfl) dX2_goesBehind_33 ?_
      exact r_iret (pc := 36) C dX2_goesBehind_36
    · refine r_ldc (pc := 19) (v := (1000000 : Int32)) C dX2_goesBehind_19 wd_X2_goesBehind_2 ?_
      refine r_goto (pc := 21) (tgt := 36) C dX2_goesBehind_21 (by decide) ?_
      exact r_iret (pc := 36) C dX2_goesBehind_36
theorem k_X2_goesBehind {κ : oK} {nL : Nat} {cc : ByteArray} {own : String} {Ts : List Cond} {n : Nat} {ret : Option FieldType} {α : Type} {Q : α → Sg → State → Prop} {σ : Sg} {pc : Nat} {lv : List (Nat × Value)} {st : List Value} {x : oXp} {idx : Nat} {o0 : Nat} {a1 : Int32} {a2 : Int32} {K : Int32 → Sg → Option (α × Sg)} (C : oC κ (oX x) nL cc own Ts n ret) (hG : GoodIn Ts (wsV own idx RX2 yX2_goesBehind wsX2_goesBehind)) (hn : 4 + 1 ≤ n) (h1_o0 : 20 ≤ o0) (h2_o0 : o0 < 40) (hst : (st.map fun v => v.category).sum ≤ 8) (hd : decode cc pc = .ok (.invokevirtual idx, 3)) (kk : ∀ (r1 : Int32) (σ1 : Sg), oV κ (oX x) nL Q σ1 (pc + 3) lv (.int r1 :: st) (K r1 σ1)) : oV κ (oX x) nL Q σ pc lv (.int a2 :: .int a1 :: .ref (xa x o0) :: st) (bnd (f_X2_goesBehind o0 a1 a2 σ) K) := by
  have hI : oI (oX x) := oC_I C
  exact r_cVi (As := [.int a1, .int a2]) (na := 2) (j := o0) (ci := 2) C (fun l => m_X2_goesBehind l x hI o0 a1 a2 h1_o0 h2_o0 σ) hG rfl (by decide +kernel) rfl (by decide) hn (by show o0 < 80; omega) rfl (eX2 x h1_o0 h2_o0 _) rfl rfl hst hd kk
set_option maxHeartbeats 4000000 in
set_option maxRecDepth 100000 in
theorem m_X0_mayGo (l : Launch) (x : oXp) (hI : oI (oX x)) (a1 : Int32) (a2 : Int32) (σ : Sg) : oMI l yX0_mayGo wsX0_mayGo 5 (oX x) [.ref (xa x 1), .int a1, .int a2] σ (f_X0_mayGo  a1 a2 σ) := by
  refine oMI_of (nL := 3) (cc := cX0_mayGo) hI (by decide +kernel) rfl (Nat.le_of_ble_eq_true rfl) ?_
  intro κ C
  have C : oC κ (oX x) 3 cX0_mayGo RX0 wsX0_mayGo 5 (some .boolean) := C
  unfold f_X0_mayGo
  show oV κ (oX x) 3 (oQi κ (oX x)) σ 0 [(0, .ref (xa x 1)), (1, .int a1), (2, .int a2)] [] _
  refine r_aldn (pc := 0) C dX0_mayGo_0 0 rfl ?_
  refine gf_X0_0_1 (pc := 1) C hi_X0_mayGo_X0 wd_X0_mayGo_1 dX0_mayGo_1 ?_
  refine r_ildn (pc := 4) C dX0_mayGo_4 1 rfl ?_
  refine qa_Ln_14 (pc := 5) C dX0_mayGo_5 (fun p1 h1_p1 h2_p1 => ?_)
  refine r_ildn (pc := 6) C dX0_mayGo_6 2 rfl ?_
  refine r_aldn (pc := 7) C dX0_mayGo_7 0 rfl ?_
  refine gf_X0_3_1 (pc := 8) C hi_X0_mayGo_X0 wd_X0_mayGo_2 dX0_mayGo_8 ?_
  refine k_X2_goesBehind (x := x) (pc := 11) (o0 := p1) (a1 := a2) (a2 := (σ 1 3)) C gX0_mayGo_X2_goesBehind (by omega) (by omega) (by omega) (Nat.le_of_ble_eq_true rfl) dX0_mayGo_11 (fun r3 s2 => ?_)
  refine r_ifne (pc := 14) (tgt := 21) C dX0_mayGo_14 (by decide) ?_ ?_
  · refine r_iconst (pc := 21) (v := (0 : Int32)) C dX0_mayGo_21 ic_0 ?_
    exact r_zret (pc := 22) C (by decide) dX0_mayGo_22
  · refine r_iconst (pc := 17) (v := (1 : Int32)) C dX0_mayGo_17 ic_1 ?_
    refine r_goto (pc := 18) (tgt := 22) C dX0_mayGo_18 (by decide) ?_
    exact r_zret (pc := 22) C (by decide) dX0_mayGo_22
theorem k_X0_mayGo {κ : oK} {nL : Nat} {cc : ByteArray} {own : String} {Ts : List Cond} {n : Nat} {ret : Option FieldType} {α : Type} {Q : α → Sg → State → Prop} {σ : Sg} {pc : Nat} {lv : List (Nat × Value)} {st : List Value} {x : oXp} {idx : Nat} {a1 : Int32} {a2 : Int32} {K : Int32 → Sg → Option (α × Sg)} (C : oC κ (oX x) nL cc own Ts n ret) (hG : GoodIn Ts (wsV own idx RX0 yX0_mayGo wsX0_mayGo)) (hn : 5 + 1 ≤ n) (hst : (st.map fun v => v.category).sum ≤ 8) (hd : decode cc pc = .ok (.invokevirtual idx, 3)) (kk : ∀ (r1 : Int32) (σ1 : Sg), oV κ (oX x) nL Q σ1 (pc + 3) lv (.int r1 :: st) (K r1 σ1)) : oV κ (oX x) nL Q σ pc lv (.int a2 :: .int a1 :: .ref (xa x 1) :: st) (bnd (f_X0_mayGo a1 a2 σ) K) := by
  have hI : oI (oX x) := oC_I C
  exact r_cVi (As := [.int a1, .int a2]) (na := 2) (j := 1) (ci := 0) C (fun l => m_X0_mayGo l x hI a1 a2 σ) hG rfl (by decide +kernel) rfl (by decide) hn (by show 1 < 80; decide) rfl rfl rfl rfl hst hd kk
set_option maxHeartbeats 4000000 in
set_option maxRecDepth 100000 in
theorem v_X0_passDay_2_b {κ : oK} {x : oXp} (C : oC κ (oX x) 2 cX0_passDay RX0 wsX0_passDay 3 none)  (rec2 : Int32 → Sg → Option (Unit × Sg)) (hrec2 : ∀ (a1 : Int32) (σ : Sg), oV κ (oX x) 2 (oQv κ (oX x)) σ 2 [(0, .ref (xa x 1)), (1, .int a1)] [] (rec2 a1 σ)) (a1 : Int32) (σ : Sg) : oV κ (oX x) 2 (oQv κ (oX x)) σ 2 [(0, .ref (xa x 1)), (1, .int a1)] [] (f_X0_passDay_2_b   rec2 a1 σ) := by
  unfold f_X0_passDay_2_b
  refine r_ildn (pc := 2) C dX0_passDay_2 1 rfl ?_
  refine r_iconst (pc := 3) (v := (5 : Int32)) C dX0_passDay_3 ic_5 ?_
  refine r_icge (pc := 4) (tgt := 42) C dX0_passDay_4 (by decide) ?_ ?_
  · refine r_aldn (pc := 42) C dX0_passDay_42 0 rfl ?_
    refine r_dup (pc := 43) C dX0_passDay_43 rfl ?_
    refine gf_X0_2_1 (pc := 44) C hi_X0_passDay_X0 wd_X0_passDay_1 dX0_passDay_44 ?_
    refine r_iconst (pc := 47) (v := (1 : Int32)) C dX0_passDay_47 ic_1 ?_
    refine r_iadd (pc := 48) C dX0_passDay_48 ?_
    refine pf_X0_2_1 (pc := 49) C hi_X0_passDay_X0 wd_X0_passDay_1 dX0_passDay_49 (fun s1 => ?_)
    exact r_vret (pc := 52) C dX0_passDay_52
  · refine r_aldn (pc := 7) C dX0_passDay_7 0 rfl ?_
    refine gf_X0_2_1 (pc := 8) C hi_X0_passDay_X0 wd_X0_passDay_1 dX0_passDay_8 ?_
    refine r_ildn (pc := 11) C dX0_passDay_11 1 rfl ?_
    refine r_iconst (pc := 12) (v := (2 : Int32)) C dX0_passDay_12 ic_2 ?_
    refine r_iadd (pc := 13) C dX0_passDay_13 ?_
    refine r_ckb (fun h2 => ?_)
    refine r_irem (pc := 14) C dX0_passDay_14 (nz_ne h2) ?_
    refine r_ifne (pc := 15) (tgt := 36) C dX0_passDay_15 (by decide) ?_ ?_
    · refine r_iinc (pc := 36) (v := (1 : Int32)) (lv1 := fun y => [(0, _), (1, .int y)]) C dX0_passDay_36 ic_1 1 rfl (by decide) [1, 0] (fun _ => rfl) (fun v3 => ?_)
      refine r_goto (pc := 39) (tgt := 2) C dX0_passDay_39 (by decide) ?_
      exact hrec2 v3 σ
    · refine r_aldn (pc := 18) C dX0_passDay_18 0 rfl ?_
      refine gf_X0_5_1 (pc := 19) C hi_X0_passDay_X0 wd_X0_passDay_2 dX0_passDay_19 ?_
      refine r_ildn (pc := 22) C dX0_passDay_22 1 rfl ?_
      refine r_iconst (pc := 23) (v := (0 : Int32)) C dX0_passDay_23 ic_0 ?_
      refine r_aldn (pc := 24) C dX0_passDay_24 0 rfl ?_
      refine gf_X0_5_1 (pc := 25) C hi_X0_passDay_X0 wd_X0_passDay_2 dX0_passDay_25 ?_
      refine r_ildn (pc := 28) C dX0_passDay_28 1 rfl ?_
      refine iald_oX_16 (pc := 29) C dX0_passDay_29 ?_
      refine r_iconst (pc := 30) (v := (1 : Int32)) C dX0_passDay_30 ic_1 ?_
      refine r_isub (pc := 31) C dX0_passDay_31 ?_
      refine r_mx (pc := 32) C wd_X0_passDay_3 wd_X0_passDay_4 wd_X0_passDay_5 wd_X0_passDay_6 (by omega) (Nat.le_of_ble_eq_true rfl) dX0_passDay_32 ?_
      refine iast_oX_16 (pc := 35) C dX0_passDay_35 (fun s4 => ?_)
      refine r_iinc (pc := 36) (v := (1 : Int32)) (lv1 := fun y => [(0, _), (1, .int y)]) C dX0_passDay_36 ic_1 1 rfl (by decide) [1, 0] (fun _ => rfl) (fun v5 => ?_)
      refine r_goto (pc := 39) (tgt := 2) C dX0_passDay_39 (by decide) ?_
      exact hrec2 v5 s4
theorem v_X0_passDay_2 {κ : oK} {x : oXp} (C : oC κ (oX x) 2 cX0_passDay RX0 wsX0_passDay 3 none)  : ∀ (n : Nat) (a1 : Int32) (σ : Sg), oV κ (oX x) 2 (oQv κ (oX x)) σ 2 [(0, .ref (xa x 1)), (1, .int a1)] [] (f_X0_passDay_2   n a1 σ) := by
  intro n
  induction n with
  | zero => intros; exact r_none
  | succ n ih => exact v_X0_passDay_2_b C  _ ih
set_option maxHeartbeats 4000000 in
set_option maxRecDepth 100000 in
theorem m_X0_passDay (l : Launch) (x : oXp) (hI : oI (oX x))  (σ : Sg) : oMV l yX0_passDay wsX0_passDay 3 (oX x) [.ref (xa x 1)] σ (f_X0_passDay   σ) := by
  refine oMV_of (nL := 2) (cc := cX0_passDay) hI (by decide +kernel) rfl (Nat.le_of_ble_eq_true rfl) ?_
  intro κ C
  have C : oC κ (oX x) 2 cX0_passDay RX0 wsX0_passDay 3 none := C
  unfold f_X0_passDay
  show oV κ (oX x) 2 (oQv κ (oX x)) σ 0 [(0, .ref (xa x 1))] [] _
  refine r_iconst (pc := 0) (v := (0 : Int32)) C dX0_passDay_0 ic_0 ?_
  refine r_istn (pc := 1) (lv' := [(0, _), (1, _)]) C dX0_passDay_1 (by decide) [1, 0] rfl ?_
  exact v_X0_passDay_2 (x := x) C fuN (0 : Int32) σ
theorem k_X0_passDay {κ : oK} {nL : Nat} {cc : ByteArray} {own : String} {Ts : List Cond} {n : Nat} {ret : Option FieldType} {α : Type} {Q : α → Sg → State → Prop} {σ : Sg} {pc : Nat} {lv : List (Nat × Value)} {st : List Value} {x : oXp} {idx : Nat}  {K : Unit → Sg → Option (α × Sg)} (C : oC κ (oX x) nL cc own Ts n ret) (hG : GoodIn Ts (wsV own idx RX0 yX0_passDay wsX0_passDay)) (hn : 3 + 1 ≤ n) (hst : (st.map fun v => v.category).sum ≤ 8) (hd : decode cc pc = .ok (.invokevirtual idx, 3)) (kk : ∀ (r1 : Unit) (σ1 : Sg), oV κ (oX x) nL Q σ1 (pc + 3) lv (st) (K r1 σ1)) : oV κ (oX x) nL Q σ pc lv (.ref (xa x 1) :: st) (bnd (f_X0_passDay  σ) K) := by
  have hI : oI (oX x) := oC_I C
  exact r_cVv (As := []) (na := 0) (j := 1) (ci := 0) C (fun l => m_X0_passDay l x hI  σ) hG rfl (by decide +kernel) rfl (by decide) hn (by show 1 < 80; decide) rfl rfl rfl rfl hst hd kk
set_option maxHeartbeats 4000000 in
set_option maxRecDepth 100000 in
theorem m_X0_wipeLine (l : Launch) (x : oXp) (hI : oI (oX x)) (a1 : Int32) (σ : Sg) : oMI l yX0_wipeLine wsX0_wipeLine 7 (oX x) [.ref (xa x 1), .int a1] σ (f_X0_wipeLine  a1 σ) := by
  refine oMI_of (nL := 3) (cc := cX0_wipeLine) hI (by decide +kernel) rfl (Nat.le_of_ble_eq_true rfl) ?_
  intro κ C
  have C : oC κ (oX x) 3 cX0_wipeLine RX0 wsX0_wipeLine 7 (some .int) := C
  unfold f_X0_wipeLine
  show oV κ (oX x) 3 (oQi κ (oX x)) σ 0 [(0, .ref (xa x 1)), (1, .int a1)] [] _
  refine r_aldn (pc := 0) C dX0_wipeLine_0 0 rfl ?_
  refine r_ildn (pc := 1) C dX0_wipeLine_1 1 rfl ?_
  refine r_aldn (pc := 2) C dX0_wipeLine_2 0 rfl ?_
  refine gf_X0_2_1 (pc := 3) C hi_X0_wipeLine_X0 wd_X0_wipeLine_1 dX0_wipeLine_3 ?_
  refine k_X0_lossOf (x := x) (pc := 6) (a1 := a1) (a2 := (σ 1 2)) C gX0_wipeLine_X0_lossOf (by omega)  (Nat.le_of_ble_eq_true rfl) dX0_wipeLine_6 (fun r2 s1 => ?_)
  refine r_istn (pc := 9) (lv' := [(0, _), (1, _), (2, _)]) C dX0_wipeLine_9 (by decide) [1, 2, 0] rfl ?_
  refine r_aldn (pc := 10) C dX0_wipeLine_10 0 rfl ?_
  refine gf_X0_0_1 (pc := 11) C hi_X0_wipeLine_X0 wd_X0_wipeLine_2 dX0_wipeLine_11 ?_
  refine r_ildn (pc := 14) C dX0_wipeLine_14 1 rfl ?_
  refine qa_Ln_14 (pc := 15) C dX0_wipeLine_15 (fun p3 h1_p3 h2_p3 => ?_)
  refine r_iconst (pc := 16) (v := (1 : Int32)) C dX0_wipeLine_16 ic_1 ?_
  refine pfN_X2_6 (pc := 17) C (o := p3) (by omega) (by omega) hi_X0_wipeLine_X2 nw_23 (isb_nar (by decide)) dX0_wipeLine_17 (fun s4 => ?_)
  refine r_aldn (pc := 20) C dX0_wipeLine_20 0 rfl ?_
  refine r_ldc (pc := 21) (v := (99999 : Int32)) C dX0_wipeLine_21 wd_X0_wipeLine_3 ?_
  refine r_aldn (pc := 23) C dX0_wipeLine_23 0 rfl ?_
  refine gf_X0_4_1 (pc := 24) C hi_X0_wipeLine_X0 wd_X0_wipeLine_4 dX0_wipeLine_24 ?_
  refine r_ildn (pc := 27) C dX0_wipeLine_27 2 rfl ?_
  refine r_iadd (pc := 28) C dX0_wipeLine_28 ?_
  refine r_mn (pc := 29) C wd_X0_wipeLine_5 wd_X0_wipeLine_6 wd_X0_wipeLine_7 wd_X0_wipeLine_8 (by omega) (Nat.le_of_ble_eq_true rfl) dX0_wipeLine_29 ?_
  refine pf_X0_4_1 (pc := 32) C hi_X0_wipeLine_X0 wd_X0_wipeLine_4 dX0_wipeLine_32 (fun s5 => ?_)
  refine r_ildn (pc := 35) C dX0_wipeLine_35 2 rfl ?_
  exact r_iret (pc := 36) C dX0_wipeLine_36
theorem k_X0_wipeLine {κ : oK} {nL : Nat} {cc : ByteArray} {own : String} {Ts : List Cond} {n : Nat} {ret : Option FieldType} {α : Type} {Q : α → Sg → State → Prop} {σ : Sg} {pc : Nat} {lv : List (Nat × Value)} {st : List Value} {x : oXp} {idx : Nat} {a1 : Int32} {K : Int32 → Sg → Option (α × Sg)} (C : oC κ (oX x) nL cc own Ts n ret) (hG : GoodIn Ts (wsV own idx RX0 yX0_wipeLine wsX0_wipeLine)) (hn : 7 + 1 ≤ n) (hst : (st.map fun v => v.category).sum ≤ 8) (hd : decode cc pc = .ok (.invokevirtual idx, 3)) (kk : ∀ (r1 : Int32) (σ1 : Sg), oV κ (oX x) nL Q σ1 (pc + 3) lv (.int r1 :: st) (K r1 σ1)) : oV κ (oX x) nL Q σ pc lv (.int a1 :: .ref (xa x 1) :: st) (bnd (f_X0_wipeLine a1 σ) K) := by
  have hI : oI (oX x) := oC_I C
  exact r_cVi (As := [.int a1]) (na := 1) (j := 1) (ci := 0) C (fun l => m_X0_wipeLine l x hI a1 σ) hG rfl (by decide +kernel) rfl (by decide) hn (by show 1 < 80; decide) rfl rfl rfl rfl hst hd kk
set_option maxHeartbeats 4000000 in
set_option maxRecDepth 100000 in
theorem v_X0_takenBehind_4_b {κ : oK} {x : oXp} (C : oC κ (oX x) 4 cX0_takenBehind RX0 wsX0_takenBehind 5 (some .int))  (rec4 : Int32 → Int32 → Int32 → Sg → Option (Int32 × Sg)) (hrec4 : ∀ (a1 : Int32) (a2 : Int32) (a3 : Int32) (σ : Sg), oV κ (oX x) 4 (oQi κ (oX x)) σ 4 [(0, .ref (xa x 1)), (1, .int a1), (2, .int a2), (3, .int a3)] [] (rec4 a1 a2 a3 σ)) (a1 : Int32) (a2 : Int32) (a3 : Int32) (σ : Sg) : oV κ (oX x) 4 (oQi κ (oX x)) σ 4 [(0, .ref (xa x 1)), (1, .int a1), (2, .int a2), (3, .int a3)] [] (f_X0_takenBehind_4_b   rec4 a1 a2 a3 σ) := by
  unfold f_X0_takenBehind_4_b
  refine r_ildn (pc := 4) C dX0_takenBehind_4 3 rfl ?_
  refine r_aldn (pc := 5) C dX0_takenBehind_5 0 rfl ?_
  refine gf_X0_1_1 (pc := 6) C hi_X0_takenBehind_X0 wd_X0_takenBehind_1 dX0_takenBehind_6 ?_
  refine r_icge (pc := 9) (tgt := 63) C dX0_takenBehind_9 (by decide) ?_ ?_
  · refine r_ildn (pc := 63) C dX0_takenBehind_63 2 rfl ?_
    exact r_iret (pc := 64) C dX0_takenBehind_64
  · refine r_aldn (pc := 12) C dX0_takenBehind_12 0 rfl ?_
    refine gf_X0_0_1 (pc := 13) C hi_X0_takenBehind_X0 wd_X0_takenBehind_2 dX0_takenBehind_13 ?_
    refine r_ildn (pc := 16) C dX0_takenBehind_16 3 rfl ?_
    refine qa_Ln_14 (pc := 17) C dX0_takenBehind_17 (fun p1 h1_p1 h2_p1 => ?_)
    refine gfN_X2_6 (pc := 18) C (o := p1) (by omega) (by omega) hi_X0_takenBehind_X2 nw_23 dX0_takenBehind_18 ?_
    refine r_ifne (pc := 21) (tgt := 57) C dX0_takenBehind_21 (by decide) ?_ ?_
    · refine r_iinc (pc := 57) (v := (1 : Int32)) (lv1 := fun y => [(0, _), (1, _), (2, _), (3, .int y)]) C dX0_takenBehind_57 ic_1 3 rfl (by decide) [1, 2, 3, 0] (fun _ => rfl) (fun v2 => ?_)
      refine r_goto (pc := 60) (tgt := 4) C dX0_takenBehind_60 (by decide) ?_
      exact hrec4 a1 a2 v2 σ
    · refine r_aldn (pc := 24) C dX0_takenBehind_24 0 rfl ?_
      refine gf_X0_0_1 (pc := 25) C hi_X0_takenBehind_X0 wd_X0_takenBehind_2 dX0_takenBehind_25 ?_
      refine r_ildn (pc := 28) C dX0_takenBehind_28 3 rfl ?_
      refine qa_Ln_14 (pc := 29) C dX0_takenBehind_29 (fun p3 h1_p3 h2_p3 => ?_)
      refine r_aldn (pc := 30) C dX0_takenBehind_30 0 rfl ?_
      refine gf_X0_2_1 (pc := 31) C hi_X0_takenBehind_X0 wd_X0_takenBehind_3 dX0_takenBehind_31 ?_
      refine r_aldn (pc := 34) C dX0_takenBehind_34 0 rfl ?_
      refine gf_X0_3_1 (pc := 35) C hi_X0_takenBehind_X0 wd_X0_takenBehind_4 dX0_takenBehind_35 ?_
      refine k_X2_goesBehind (x := x) (pc := 38) (o0 := p3) (a1 := (σ 1 2)) (a2 := (σ 1 3)) C gX0_takenBehind_X2_goesBehind (by omega) (by omega) (by omega) (Nat.le_of_ble_eq_true rfl) dX0_takenBehind_38 (fun r5 s4 => ?_)
      refine r_ildn (pc := 41) C dX0_takenBehind_41 1 rfl ?_
      refine r_iclt (pc := 42) (tgt := 57) C dX0_takenBehind_42 (by decide) ?_ ?_
      · refine r_iinc (pc := 57) (v := (1 : Int32)) (lv1 := fun y => [(0, _), (1, _), (2, _), (3, .int y)]) C dX0_takenBehind_57 ic_1 3 rfl (by decide) [1, 2, 3, 0] (fun _ => rfl) (fun v6 => ?_)
        refine r_goto (pc := 60) (tgt := 4) C dX0_takenBehind_60 (by decide) ?_
        exact hrec4 a1 a2 v6 s4
      · refine r_ildn (pc := 45) C dX0_takenBehind_45 2 rfl ?_
        refine r_aldn (pc := 46) C dX0_takenBehind_46 0 rfl ?_
        refine gf_X0_0_1 (pc := 47) C hi_X0_takenBehind_X0 wd_X0_takenBehind_2 dX0_takenBehind_47 ?_
        refine r_ildn (pc := 50) C dX0_takenBehind_50 3 rfl ?_
        refine qa_Ln_14 (pc := 51) C dX0_takenBehind_51 (fun p7 h1_p7 h2_p7 => ?_)
        refine gfN_X2_2 (pc := 52) C (o := p7) (by omega) (by omega) hi_X0_takenBehind_X2 nw_16 dX0_takenBehind_52 ?_
        refine r_ior (pc := 55) C dX0_takenBehind_55 ?_
        refine r_nm (fun v8 => ?_)
        refine r_istn (pc := 56) (lv' := [(0, _), (1, _), (2, _), (3, _)]) C dX0_takenBehind_56 (by decide) [1, 2, 0, 3] rfl ?_
        refine r_iinc (pc := 57) (v := (1 : Int32)) (lv1 := fun y => [(0, _), (1, _), (2, _), (3, .int y)]) C dX0_takenBehind_57 ic_1 3 rfl (by decide) [1, 2, 3, 0] (fun _ => rfl) (fun v9 => ?_)
        refine r_goto (pc := 60) (tgt := 4) C dX0_takenBehind_60 (by decide) ?_
        exact hrec4 a1 v8 v9 s4
theorem v_X0_takenBehind_4 {κ : oK} {x : oXp} (C : oC κ (oX x) 4 cX0_takenBehind RX0 wsX0_takenBehind 5 (some .int))  : ∀ (n : Nat) (a1 : Int32) (a2 : Int32) (a3 : Int32) (σ : Sg), oV κ (oX x) 4 (oQi κ (oX x)) σ 4 [(0, .ref (xa x 1)), (1, .int a1), (2, .int a2), (3, .int a3)] [] (f_X0_takenBehind_4   n a1 a2 a3 σ) := by
  intro n
  induction n with
  | zero => intros; exact r_none
  | succ n ih => exact v_X0_takenBehind_4_b C  _ ih
set_option maxHeartbeats 4000000 in
set_option maxRecDepth 100000 in
theorem m_X0_takenBehind (l : Launch) (x : oXp) (hI : oI (oX x)) (a1 : Int32) (σ : Sg) : oMI l yX0_takenBehind wsX0_takenBehind 5 (oX x) [.ref (xa x 1), .int a1] σ (f_X0_takenBehind  a1 σ) := by
  refine oMI_of (nL := 4) (cc := cX0_takenBehind) hI (by decide +kernel) rfl (Nat.le_of_ble_eq_true rfl) ?_
  intro κ C
  have C : oC κ (oX x) 4 cX0_takenBehind RX0 wsX0_takenBehind 5 (some .int) := C
  unfold f_X0_takenBehind
  show oV κ (oX x) 4 (oQi κ (oX x)) σ 0 [(0, .ref (xa x 1)), (1, .int a1)] [] _
  refine r_iconst (pc := 0) (v := (0 : Int32)) C dX0_takenBehind_0 ic_0 ?_
  refine r_istn (pc := 1) (lv' := [(0, _), (1, _), (2, _)]) C dX0_takenBehind_1 (by decide) [1, 2, 0] rfl ?_
  refine r_iconst (pc := 2) (v := (0 : Int32)) C dX0_takenBehind_2 ic_0 ?_
  refine r_istn (pc := 3) (lv' := [(0, _), (1, _), (2, _), (3, _)]) C dX0_takenBehind_3 (by decide) [1, 2, 3, 0] rfl ?_
  exact v_X0_takenBehind_4 (x := x) C fuN a1 (0 : Int32) (0 : Int32) σ
theorem k_X0_takenBehind {κ : oK} {nL : Nat} {cc : ByteArray} {own : String} {Ts : List Cond} {n : Nat} {ret : Option FieldType} {α : Type} {Q : α → Sg → State → Prop} {σ : Sg} {pc : Nat} {lv : List (Nat × Value)} {st : List Value} {x : oXp} {idx : Nat} {a1 : Int32} {K : Int32 → Sg → Option (α × Sg)} (C : oC κ (oX x) nL cc own Ts n ret) (hG : GoodIn Ts (wsV own idx RX0 yX0_takenBehind wsX0_takenBehind)) (hn : 5 + 1 ≤ n) (hst : (st.map fun v => v.category).sum ≤ 8) (hd : decode cc pc = .ok (.invokevirtual idx, 3)) (kk : ∀ (r1 : Int32) (σ1 : Sg), oV κ (oX x) nL Q σ1 (pc + 3) lv (.int r1 :: st) (K r1 σ1)) : oV κ (oX x) nL Q σ pc lv (.int a1 :: .ref (xa x 1) :: st) (bnd (f_X0_takenBehind a1 σ) K) := by
  have hI : oI (oX x) := oC_I C
  exact r_cVi (As := [.int a1]) (na := 1) (j := 1) (ci := 0) C (fun l => m_X0_takenBehind l x hI a1 σ) hG rfl (by decide +kernel) rfl (by decide) hn (by show 1 < 80; decide) rfl rfl rfl rfl hst hd kk
set_option maxHeartbeats 4000000 in
set_option maxRecDepth 100000 in
theorem m_X0_taken (l : Launch) (x : oXp) (hI : oI (oX x))  (σ : Sg) : oMI l yX0_taken wsX0_taken 6 (oX x) [.ref (xa x 1)] σ (f_X0_taken   σ) := by
  refine oMI_of (nL := 1) (cc := cX0_taken) hI (by decide +kernel) rfl (Nat.le_of_ble_eq_true rfl) ?_
  intro κ C
  have C : oC κ (oX x) 1 cX0_taken RX0 wsX0_taken 6 (some .int) := C
  unfold f_X0_taken
  show oV κ (oX x) 1 (oQi κ (oX x)) σ 0 [(0, .ref (xa x 1))] [] _
  refine r_aldn (pc := 0) C dX0_taken_0 0 rfl ?_
  refine r_iconst (pc := 1) (v := (0 : Int32)) C dX0_taken_1 ic_0 ?_
  refine k_X0_takenBehind (x := x) (pc := 2) (a1 := (0 : Int32)) C gX0_taken_X0_takenBehind (by omega)  (Nat.le_of_ble_eq_true rfl) dX0_taken_2 (fun r2 s1 => ?_)
  exact r_iret (pc := 5) C dX0_taken_5
theorem k_X0_taken {κ : oK} {nL : Nat} {cc : ByteArray} {own : String} {Ts : List Cond} {n : Nat} {ret : Option FieldType} {α : Type} {Q : α → Sg → State → Prop} {σ : Sg} {pc : Nat} {lv : List (Nat × Value)} {st : List Value} {x : oXp} {idx : Nat}  {K : Int32 → Sg → Option (α × Sg)} (C : oC κ (oX x) nL cc own Ts n ret) (hG : GoodIn Ts (wsV own idx RX0 yX0_taken wsX0_taken)) (hn : 6 + 1 ≤ n) (hst : (st.map fun v => v.category).sum ≤ 8) (hd : decode cc pc = .ok (.invokevirtual idx, 3)) (kk : ∀ (r1 : Int32) (σ1 : Sg), oV κ (oX x) nL Q σ1 (pc + 3) lv (.int r1 :: st) (K r1 σ1)) : oV κ (oX x) nL Q σ pc lv (.ref (xa x 1) :: st) (bnd (f_X0_taken  σ) K) := by
  have hI : oI (oX x) := oC_I C
  exact r_cVi (As := []) (na := 0) (j := 1) (ci := 0) C (fun l => m_X0_taken l x hI  σ) hG rfl (by decide +kernel) rfl (by decide) hn (by show 1 < 80; decide) rfl rfl rfl rfl hst hd kk
set_option maxHeartbeats 4000000 in
set_option maxRecDepth 100000 in
theorem m_X9_isOf (l : Launch) (x : oXp) (hI : oI (oX x)) (a0 : Int32) (a1 : Int32) (σ : Sg) : oMI l yX9_isOf wsX9_isOf 3 (oX x) [.int a0, .int a1] σ (f_X9_isOf  a0 a1 σ) := by
  refine oMI_of (nL := 2) (cc := cX9_isOf) hI (by decide +kernel) rfl (Nat.le_of_ble_eq_true rfl) ?_
  intro κ C
  have C : oC κ (oX x) 2 cX9_isOf RX9 wsX9_isOf 3 (some .boolean) := C
  unfold f_X9_isOf
  show oV κ (oX x) 2 (oQi κ (oX x)) σ 0 [(0, .int a0), (1, .int a1)] [] _
  refine r_ildn (pc := 0) C dX9_isOf_0 1 rfl ?_
  refine r_ildn (pc := 1) C dX9_isOf_1 0 rfl ?_
  refine r_ishr (pc := 2) C dX9_isOf_2 ?_
  refine r_iconst (pc := 3) (v := (1 : Int32)) C dX9_isOf_3 ic_1 ?_
  refine r_iand (pc := 4) C dX9_isOf_4 ?_
  refine r_ifeq (pc := 5) (tgt := 12) C dX9_isOf_5 (by decide) ?_ ?_
  · refine r_iconst (pc := 12) (v := (0 : Int32)) C dX9_isOf_12 ic_0 ?_
    exact r_zret (pc := 13) C (by decide) dX9_isOf_13
  · refine r_iconst (pc := 8) (v := (1 : Int32)) C dX9_isOf_8 ic_1 ?_
    refine r_goto (pc := 9) (tgt := 13) C dX9_isOf_9 (by decide) ?_
    exact r_zret (pc := 13) C (by decide) dX9_isOf_13
theorem kN_X9_isOf {κ : oK} {nL : Nat} {cc : ByteArray} {own : String} {Ts : List Cond} {n : Nat} {ret : Option FieldType} {α : Type} {Q : α → Sg → State → Prop} {σ : Sg} {pc : Nat} {lv : List (Nat × Value)} {st : List Value} {x : oXp} {idx : Nat} {a0 : Int32} {a1 : Int32} {K : Int32 → Sg → Option (α × Sg)} (C : oC κ (oX x) nL cc own Ts n ret) (hG : GoodIn Ts wsX9_isOf) {host : String} (w1 : Cond.methodLinkNest own idx yX9_isOf host ∈ oNw) (w2 : Cond.initialized RX9 ∈ Ts) (w3 : Cond.static yX9_isOf ∈ Ts) (hn : 3 + 1 ≤ n) (hst : (st.map fun v => v.category).sum ≤ 8) (hd : decode cc pc = .ok (.invokestatic idx, 3)) (kk : ∀ (r1 : Int32) (σ1 : Sg), oV κ (oX x) nL Q σ1 (pc + 3) lv (.int r1 :: st) (K r1 σ1)) : oV κ (oX x) nL Q σ pc lv (.int a1 :: .int a0 :: st) (bnd (f_X9_isOf a0 a1 σ) K) := by
  have hI : oI (oX x) := oC_I C
  exact r_cNi (As := [.int a0, .int a1]) (na := 2) C (fun l => m_X9_isOf l x hI a0 a1 σ) hG w1 w2 w3 rfl (by decide +kernel) rfl (by decide) hn hst hd kk
theorem kS_X9_isOf {κ : oK} {nL : Nat} {cc : ByteArray} {own : String} {Ts : List Cond} {n : Nat} {ret : Option FieldType} {α : Type} {Q : α → Sg → State → Prop} {σ : Sg} {pc : Nat} {lv : List (Nat × Value)} {st : List Value} {x : oXp} {idx : Nat} {a0 : Int32} {a1 : Int32} {K : Int32 → Sg → Option (α × Sg)} (C : oC κ (oX x) nL cc own Ts n ret) (hG : GoodIn Ts (va_wsS own idx yX9_isOf wsX9_isOf)) (hn : 3 + 1 ≤ n) (hst : (st.map fun v => v.category).sum ≤ 8) (hd : decode cc pc = .ok (.invokestatic idx, 3)) (kk : ∀ (r1 : Int32) (σ1 : Sg), oV κ (oX x) nL Q σ1 (pc + 3) lv (.int r1 :: st) (K r1 σ1)) : oV κ (oX x) nL Q σ pc lv (.int a1 :: .int a0 :: st) (bnd (f_X9_isOf a0 a1 σ) K) := by
  have hI : oI (oX x) := oC_I C
  exact r_cSi (As := [.int a0, .int a1]) (na := 2) C (fun l => m_X9_isOf l x hI a0 a1 σ) hG rfl (by decide +kernel) rfl (by decide) hn hst hd kk
set_option maxHeartbeats 4000000 in
set_option maxRecDepth 100000 in
theorem v_X0_passDayByDraws_39 {κ : oK} {x : oXp} (C : oC κ (oX x) 5 cX0_passDayByDraws RX0 wsX0_passDayByDraws 8 (some .int))  (a1 : Int32) (σ : Sg) : oV κ (oX x) 5 (oQi κ (oX x)) σ 39 [(0, .ref (xa x 1)), (1, .int a1)] [] (f_X0_passDayByDraws_39   a1 σ) := by
  unfold f_X0_passDayByDraws_39
  refine r_aldn (pc := 39) C dX0_passDayByDraws_39 0 rfl ?_
  refine k_X0_draw (x := x) (pc := 40)  C gX0_passDayByDraws_X0_draw (by omega)  (Nat.le_of_ble_eq_true rfl) dX0_passDayByDraws_40 (fun r2 s1 => ?_)
  refine r_bipush (pc := 43) (v := (12 : Int32)) C dX0_passDayByDraws_43 bp_12 ?_
  refine r_irem (pc := 45) C dX0_passDayByDraws_45 (by decide) ?_
  refine r_nm (fun v3 => ?_)
  refine r_istn (pc := 46) (lv' := [(0, _), (1, _), (2, _)]) C dX0_passDayByDraws_46 (by decide) [1, 2, 0] rfl ?_
  refine r_ildn (pc := 47) C dX0_passDayByDraws_47 2 rfl ?_
  refine r_aldn (pc := 48) C dX0_passDayByDraws_48 0 rfl ?_
  refine k_X0_taken (x := x) (pc := 49)  C gX0_passDayByDraws_X0_taken (by omega)  (Nat.le_of_ble_eq_true rfl) dX0_passDayByDraws_49 (fun r5 s4 => ?_)
  refine kN_X9_isOf (x := x) (pc := 52) (a0 := v3) (a1 := r5) C gX0_passDayByDraws_X9_isOf_n144 nw_50 wd_X0_passDayByDraws_53 wd_X0_passDayByDraws_95 (by omega)  (Nat.le_of_ble_eq_true rfl) dX0_passDayByDraws_52 (fun r7 s6 => ?_)
  refine r_ifne (pc := 55) (tgt := 96) C dX0_passDayByDraws_55 (by decide) ?_ ?_
  · refine r_aldn (pc := 96) C dX0_passDayByDraws_96 0 rfl ?_
    refine k_X0_passDay (x := x) (pc := 97)  C gX0_passDayByDraws_X0_passDay (by omega)  (Nat.le_of_ble_eq_true rfl) dX0_passDayByDraws_97 (fun _ s8 => ?_)
    refine r_ildn (pc := 100) C dX0_passDayByDraws_100 1 rfl ?_
    exact r_iret (pc := 101) C dX0_passDayByDraws_101
  · refine r_aldn (pc := 58) C dX0_passDayByDraws_58 0 rfl ?_
    refine gf_X0_1_1 (pc := 59) C hi_X0_passDayByDraws_X0 wd_X0_passDayByDraws_1 dX0_passDayByDraws_59 ?_
    refine r_bipush (pc := 62) (v := (10 : Int32)) C dX0_passDayByDraws_62 bp_10 ?_
    refine r_icge (pc := 64) (tgt := 96) C dX0_passDayByDraws_64 (by decide) ?_ ?_
    · refine r_aldn (pc := 96) C dX0_passDayByDraws_96 0 rfl ?_
      refine k_X0_passDay (x := x) (pc := 97)  C gX0_passDayByDraws_X0_passDay (by omega)  (Nat.le_of_ble_eq_true rfl) dX0_passDayByDraws_97 (fun _ s10 => ?_)
      refine r_ildn (pc := 100) C dX0_passDayByDraws_100 1 rfl ?_
      exact r_iret (pc := 101) C dX0_passDayByDraws_101
    · refine r_aldn (pc := 67) C dX0_passDayByDraws_67 0 rfl ?_
      refine k_X0_draw (x := x) (pc := 68)  C gX0_passDayByDraws_X0_draw (by omega)  (Nat.le_of_ble_eq_true rfl) dX0_passDayByDraws_68 (fun r13 s12 => ?_)
      refine r_bipush (pc := 71) (v := (7 : Int32)) C dX0_passDayByDraws_71 bp_7 ?_
      refine r_irem (pc := 73) C dX0_passDayByDraws_73 (by decide) ?_
      refine r_nm (fun v14 => ?_)
      refine r_istn (pc := 74) (lv' := [(0, _), (1, _), (2, _), (3, _)]) C dX0_passDayByDraws_74 (by decide) [1, 2, 3, 0] rfl ?_
      refine r_aldn (pc := 75) C dX0_passDayByDraws_75 0 rfl ?_
      refine k_X0_draw (x := x) (pc := 76)  C gX0_passDayByDraws_X0_draw (by omega)  (Nat.le_of_ble_eq_true rfl) dX0_passDayByDraws_76 (fun r16 s15 => ?_)
      refine r_bipush (pc := 79) (v := (6 : Int32)) C dX0_passDayByDraws_79 bp_6 ?_
      refine r_irem (pc := 81) C dX0_passDayByDraws_81 (by decide) ?_
      refine r_nm (fun v17 => ?_)
      refine r_ist (pc := 82) (lv' := [(0, _), (1, _), (2, _), (3, _), (4, _)]) C dX0_passDayByDraws_82 (by decide) [1, 2, 3, 4, 0] rfl ?_
      refine r_aldn (pc := 84) C dX0_passDayByDraws_84 0 rfl ?_
      refine r_ildn (pc := 85) C dX0_passDayByDraws_85 3 rfl ?_
      refine r_iconst (pc := 86) (v := (0 : Int32)) C dX0_passDayByDraws_86 ic_0 ?_
      refine r_iconst (pc := 87) (v := (1 : Int32)) C dX0_passDayByDraws_87 ic_1 ?_
      refine r_ildn (pc := 88) C dX0_passDayByDraws_88 2 rfl ?_
      refine r_ishl (pc := 89) C dX0_passDayByDraws_89 ?_
      refine r_ild (pc := 90) C dX0_passDayByDraws_90 4 rfl ?_
      refine k_X0_addLine (x := x) (pc := 92) (a1 := v14) (a2 := (0 : Int32)) (a3 := (shl (1 : Int32) v3)) (a4 := v17) C gX0_passDayByDraws_X0_addLine (by omega)  (Nat.le_of_ble_eq_true rfl) dX0_passDayByDraws_92 (fun r19 s18 => ?_)
      refine r_pop (pc := 95) C dX0_passDayByDraws_95 rfl ?_
      refine r_aldn (pc := 96) C dX0_passDayByDraws_96 0 rfl ?_
      refine k_X0_passDay (x := x) (pc := 97)  C gX0_passDayByDraws_X0_passDay (by omega)  (Nat.le_of_ble_eq_true rfl) dX0_passDayByDraws_97 (fun _ s20 => ?_)
      refine r_ildn (pc := 100) C dX0_passDayByDraws_100 1 rfl ?_
      exact r_iret (pc := 101) C dX0_passDayByDraws_101
set_option maxHeartbeats 4000000 in
set_option maxRecDepth 100000 in
theorem m_X0_passDayByDraws (l : Launch) (x : oXp) (hI : oI (oX x))  (σ : Sg) : oMI l yX0_passDayByDraws wsX0_passDayByDraws 8 (oX x) [.ref (xa x 1)] σ (f_X0_passDayByDraws   σ) := by
  refine oMI_of (nL := 5) (cc := cX0_passDayByDraws) hI (by decide +kernel) rfl (Nat.le_of_ble_eq_true rfl) ?_
  intro κ C
  have C : oC κ (oX x) 5 cX0_passDayByDraws RX0 wsX0_passDayByDraws 8 (some .int) := C
  unfold f_X0_passDayByDraws
  show oV κ (oX x) 5 (oQi κ (oX x)) σ 0 [(0, .ref (xa x 1))] [] _
  refine r_iconst (pc := 0) (v := (0 : Int32)) C dX0_passDayByDraws_0 ic_0 ?_
  refine r_istn (pc := 1) (lv' := [(0, _), (1, _)]) C dX0_passDayByDraws_1 (by decide) [1, 0] rfl ?_
  refine r_aldn (pc := 2) C dX0_passDayByDraws_2 0 rfl ?_
  refine gf_X0_1_1 (pc := 3) C hi_X0_passDayByDraws_X0 wd_X0_passDayByDraws_1 dX0_passDayByDraws_3 ?_
  refine r_ifle (pc := 6) (tgt := 39) C dX0_passDayByDraws_6 (by decide) ?_ ?_
  · exact v_X0_passDayByDraws_39 (x := x) C (0 : Int32) σ
  · refine r_aldn (pc := 9) C dX0_passDayByDraws_9 0 rfl ?_
    refine k_X0_draw (x := x) (pc := 10)  C gX0_passDayByDraws_X0_draw (by omega)  (Nat.le_of_ble_eq_true rfl) dX0_passDayByDraws_10 (fun r23 s22 => ?_)
    refine r_aldn (pc := 13) C dX0_passDayByDraws_13 0 rfl ?_
    refine gf_X0_1_1 (pc := 14) C hi_X0_passDayByDraws_X0 wd_X0_passDayByDraws_1 dX0_passDayByDraws_14 ?_
    refine r_ckb (fun h24 => ?_)
    refine r_irem (pc := 17) C dX0_passDayByDraws_17 (nz_ne h24) ?_
    refine r_nm (fun v25 => ?_)
    refine r_istn (pc := 18) (lv' := [(0, _), (1, _), (2, _)]) C dX0_passDayByDraws_18 (by decide) [1, 2, 0] rfl ?_
    refine r_aldn (pc := 19) C dX0_passDayByDraws_19 0 rfl ?_
    refine r_ildn (pc := 20) C dX0_passDayByDraws_20 2 rfl ?_
    refine r_aldn (pc := 21) C dX0_passDayByDraws_21 0 rfl ?_
    refine gf_X0_2_1 (pc := 22) C hi_X0_passDayByDraws_X0 wd_X0_passDayByDraws_2 dX0_passDayByDraws_22 ?_
    refine k_X0_mayGo (x := x) (pc := 25) (a1 := v25) (a2 := (s22 1 2)) C gX0_passDayByDraws_X0_mayGo (by omega)  (Nat.le_of_ble_eq_true rfl) dX0_passDayByDraws_25 (fun r27 s26 => ?_)
    refine r_ifeq (pc := 28) (tgt := 39) C dX0_passDayByDraws_28 (by decide) ?_ ?_
    · refine r_sub (lv' := [(0, _), (1, _)]) [0, 1] rfl ?_
      exact v_X0_passDayByDraws_39 (x := x) C (0 : Int32) s26
    · refine r_aldn (pc := 31) C dX0_passDayByDraws_31 0 rfl ?_
      refine r_ildn (pc := 32) C dX0_passDayByDraws_32 2 rfl ?_
      refine k_X0_wipeLine (x := x) (pc := 33) (a1 := v25) C gX0_passDayByDraws_X0_wipeLine (by omega)  (Nat.le_of_ble_eq_true rfl) dX0_passDayByDraws_33 (fun r29 s28 => ?_)
      refine r_pop (pc := 36) C dX0_passDayByDraws_36 rfl ?_
      refine r_iconst (pc := 37) (v := (1 : Int32)) C dX0_passDayByDraws_37 ic_1 ?_
      refine r_istn (pc := 38) (lv' := [(0, _), (1, _)]) C dX0_passDayByDraws_38 (by decide) [1, 0] rfl ?_
      exact v_X0_passDayByDraws_39 (x := x) C (1 : Int32) s28
theorem k_X0_passDayByDraws {κ : oK} {nL : Nat} {cc : ByteArray} {own : String} {Ts : List Cond} {n : Nat} {ret : Option FieldType} {α : Type} {Q : α → Sg → State → Prop} {σ : Sg} {pc : Nat} {lv : List (Nat × Value)} {st : List Value} {x : oXp} {idx : Nat}  {K : Int32 → Sg → Option (α × Sg)} (C : oC κ (oX x) nL cc own Ts n ret) (hG : GoodIn Ts (wsV own idx RX0 yX0_passDayByDraws wsX0_passDayByDraws)) (hn : 8 + 1 ≤ n) (hst : (st.map fun v => v.category).sum ≤ 8) (hd : decode cc pc = .ok (.invokevirtual idx, 3)) (kk : ∀ (r1 : Int32) (σ1 : Sg), oV κ (oX x) nL Q σ1 (pc + 3) lv (.int r1 :: st) (K r1 σ1)) : oV κ (oX x) nL Q σ pc lv (.ref (xa x 1) :: st) (bnd (f_X0_passDayByDraws  σ) K) := by
  have hI : oI (oX x) := oC_I C
  exact r_cVi (As := []) (na := 0) (j := 1) (ci := 0) C (fun l => m_X0_passDayByDraws l x hI  σ) hG rfl (by decide +kernel) rfl (by decide) hn (by show 1 < 80; decide) rfl rfl rfl rfl hst hd kk
set_option maxHeartbeats 4000000 in
set_option maxRecDepth 100000 in
theorem m_X10_look (l : Launch) (x : oXp) (hI : oI (oM x))  (σ : Sg) : oMI l yX10_look wsX10_look 3 (oM x) [.ref (xa x 0)] σ (f_X10_look   σ) := by
  refine oMI_of (nL := 1) (cc := cX10_look) hI (by decide +kernel) rfl (Nat.le_of_ble_eq_true rfl) ?_
  intro κ C
  have C : oC κ (oM x) 1 cX10_look RX10 wsX10_look 3 (some .int) := C
  unfold f_X10_look
  show oV κ (oM x) 1 (oQi κ (oM x)) σ 0 [(0, .ref (xa x 0))] [] _
  refine r_aldn (pc := 0) C dX10_look_0 0 rfl ?_
  refine gf_X10_13_0 (pc := 1) C hi_X10_look_X10 wd_X10_look_1 dX10_look_1 ?_
  refine r_aldn (pc := 4) C dX10_look_4 0 rfl ?_
  refine gf_X10_0_0 (pc := 5) C hi_X10_look_X10 wd_X10_look_2 dX10_look_5 ?_
  refine r_iconst (pc := 8) (v := (5 : Int32)) C dX10_look_8 ic_5 ?_
  refine iald_oM_1 (pc := 9) C dX10_look_9 ?_
  refine r_icge (pc := 10) (tgt := 28) C dX10_look_10 (by decide) ?_ ?_
  · refine r_iconst (pc := 28) (v := (-1 : Int32)) C dX10_look_28 ic_m1 ?_
    exact r_iret (pc := 29) C dX10_look_29
  · refine r_aldn (pc := 13) C dX10_look_13 0 rfl ?_
    refine gf_X10_0_0 (pc := 14) C hi_X10_look_X10 wd_X10_look_2 dX10_look_14 ?_
    refine r_bipush (pc := 17) (v := (82 : Int32)) C dX10_look_17 bp_82 ?_
    refine r_aldn (pc := 19) C dX10_look_19 0 rfl ?_
    refine gf_X10_13_0 (pc := 20) C hi_X10_look_X10 wd_X10_look_1 dX10_look_20 ?_
    refine r_iadd (pc := 23) C dX10_look_23 ?_
    refine iald_oM_1 (pc := 24) C dX10_look_24 ?_
    refine r_goto (pc := 25) (tgt := 29) C dX10_look_25 (by decide) ?_
    exact r_iret (pc := 29) C dX10_look_29
theorem k_X10_look {κ : oK} {nL : Nat} {cc : ByteArray} {own : String} {Ts : List Cond} {n : Nat} {ret : Option FieldType} {α : Type} {Q : α → Sg → State → Prop} {σ : Sg} {pc : Nat} {lv : List (Nat × Value)} {st : List Value} {x : oXp} {idx : Nat}  {K : Int32 → Sg → Option (α × Sg)} (C : oC κ (oM x) nL cc own Ts n ret) (hG : GoodIn Ts (wsV own idx RX10 yX10_look wsX10_look)) (hn : 3 + 1 ≤ n) (hst : (st.map fun v => v.category).sum ≤ 8) (hd : decode cc pc = .ok (.invokevirtual idx, 3)) (kk : ∀ (r1 : Int32) (σ1 : Sg), oV κ (oM x) nL Q σ1 (pc + 3) lv (.int r1 :: st) (K r1 σ1)) : oV κ (oM x) nL Q σ pc lv (.ref (xa x 0) :: st) (bnd (f_X10_look  σ) K) := by
  have hI : oI (oM x) := oC_I C
  exact r_cVi (As := []) (na := 0) (j := 0) (ci := 10) C (fun l => m_X10_look l x hI  σ) hG rfl (by decide +kernel) rfl (by decide) hn (by show 0 < 14; decide) rfl rfl rfl rfl hst hd kk
set_option maxHeartbeats 4000000 in
set_option maxRecDepth 100000 in
theorem m_X10_step (l : Launch) (x : oXp) (hI : oI (oM x)) (a1 : Int32) (a2 : Int32) (σ : Sg) : oMV l yX10_step wsX10_step 3 (oM x) [.ref (xa x 0), .int a1, .int a2] σ (f_X10_step  a1 a2 σ) := by
  refine oMV_of (nL := 3) (cc := cX10_step) hI (by decide +kernel) rfl (Nat.le_of_ble_eq_true rfl) ?_
  intro κ C
  have C : oC κ (oM x) 3 cX10_step RX10 wsX10_step 3 none := C
  unfold f_X10_step
  show oV κ (oM x) 3 (oQv κ (oM x)) σ 0 [(0, .ref (xa x 0)), (1, .int a1), (2, .int a2)] [] _
  refine r_aldn (pc := 0) C dX10_step_0 0 rfl ?_
  refine gf_X10_12_0 (pc := 1) C hi_X10_step_X10 wd_X10_step_1 dX10_step_1 ?_
  refine r_aldn (pc := 4) C dX10_step_4 0 rfl ?_
  refine gf_X10_8_0 (pc := 5) C hi_X10_step_X10 wd_X10_step_2 dX10_step_5 ?_
  refine ialen_oM_8 (pc := 8) C dX10_step_8 ?_
  refine r_icge (pc := 9) (tgt := 42) C dX10_step_9 (by decide) ?_ ?_
  · exact r_vret (pc := 42) C dX10_step_42
  · refine r_aldn (pc := 12) C dX10_step_12 0 rfl ?_
    refine gf_X10_8_0 (pc := 13) C hi_X10_step_X10 wd_X10_step_2 dX10_step_13 ?_
    refine r_aldn (pc := 16) C dX10_step_16 0 rfl ?_
    refine gf_X10_12_0 (pc := 17) C hi_X10_step_X10 wd_X10_step_1 dX10_step_17 ?_
    refine r_ildn (pc := 20) C dX10_step_20 1 rfl ?_
    refine iast_oM_8 (pc := 21) C dX10_step_21 (fun s1 => ?_)
    refine r_aldn (pc := 22) C dX10_step_22 0 rfl ?_
    refine gf_X10_9_0 (pc := 23) C hi_X10_step_X10 wd_X10_step_3 dX10_step_23 ?_
    refine r_aldn (pc := 26) C dX10_step_26 0 rfl ?_
    refine gf_X10_12_0 (pc := 27) C hi_X10_step_X10 wd_X10_step_1 dX10_step_27 ?_
    refine r_ildn (pc := 30) C dX10_step_30 2 rfl ?_
    refine iast_oM_9 (pc := 31) C dX10_step_31 (fun s2 => ?_)
    refine r_aldn (pc := 32) C dX10_step_32 0 rfl ?_
    refine r_dup (pc := 33) C dX10_step_33 rfl ?_
    refine gf_X10_12_0 (pc := 34) C hi_X10_step_X10 wd_X10_step_1 dX10_step_34 ?_
    refine r_iconst (pc := 37) (v := (1 : Int32)) C dX10_step_37 ic_1 ?_
    refine r_iadd (pc := 38) C dX10_step_38 ?_
    refine pf_X10_12_0 (pc := 39) C hi_X10_step_X10 wd_X10_step_1 dX10_step_39 (fun s3 => ?_)
    exact r_vret (pc := 42) C dX10_step_42
theorem k_X10_step {κ : oK} {nL : Nat} {cc : ByteArray} {own : String} {Ts : List Cond} {n : Nat} {ret : Option FieldType} {α : Type} {Q : α → Sg → State → Prop} {σ : Sg} {pc : Nat} {lv : List (Nat × Value)} {st : List Value} {x : oXp} {idx : Nat} {a1 : Int32} {a2 : Int32} {K : Unit → Sg → Option (α × Sg)} (C : oC κ (oM x) nL cc own Ts n ret) (hG : GoodIn Ts (wsV own idx RX10 yX10_step wsX10_step)) (hn : 3 + 1 ≤ n) (hst : (st.map fun v => v.category).sum ≤ 8) (hd : decode cc pc = .ok (.invokevirtual idx, 3)) (kk : ∀ (r1 : Unit) (σ1 : Sg), oV κ (oM x) nL Q σ1 (pc + 3) lv (st) (K r1 σ1)) : oV κ (oM x) nL Q σ pc lv (.int a2 :: .int a1 :: .ref (xa x 0) :: st) (bnd (f_X10_step a1 a2 σ) K) := by
  have hI : oI (oM x) := oC_I C
  exact r_cVv (As := [.int a1, .int a2]) (na := 2) (j := 0) (ci := 10) C (fun l => m_X10_step l x hI a1 a2 σ) hG rfl (by decide +kernel) rfl (by decide) hn (by show 0 < 14; decide) rfl rfl rfl rfl hst hd kk
set_option maxHeartbeats 4000000 in
set_option maxRecDepth 100000 in
theorem v_X10_nameOf_60 {κ : oK} {x : oXp} (C : oC κ (oM x) 2 cX10_nameOf RX10 wsX10_nameOf 3 (some .int))  (a1 : Int32) (σ : Sg) : oV κ (oM x) 2 (oQi κ (oM x)) σ 60 [(0, .ref (xa x 0)), (1, .int a1)] [] (f_X10_nameOf_60   a1 σ) := by
  unfold f_X10_nameOf_60
  refine r_aldn (pc := 60) C dX10_nameOf_60 0 rfl ?_
  refine gf_X10_16_0 (pc := 61) C hi_X10_nameOf_X10 wd_X10_nameOf_1 dX10_nameOf_61 ?_
  refine r_ifeq (pc := 64) (tgt := 71) C dX10_nameOf_64 (by decide) ?_ ?_
  · refine r_ildn (pc := 71) C dX10_nameOf_71 1 rfl ?_
    refine r_bipush (pc := 72) (v := (98 : Int32)) C dX10_nameOf_72 bp_98 ?_
    refine r_icne (pc := 74) (tgt := 81) C dX10_nameOf_74 (by decide) ?_ ?_
    · refine r_ildn (pc := 81) C dX10_nameOf_81 1 rfl ?_
      refine r_bipush (pc := 82) (v := (109 : Int32)) C dX10_nameOf_82 bp_109 ?_
      refine r_icne (pc := 84) (tgt := 91) C dX10_nameOf_84 (by decide) ?_ ?_
      · refine r_iconst (pc := 91) (v := (2 : Int32)) C dX10_nameOf_91 ic_2 ?_
        exact r_iret (pc := 92) C dX10_nameOf_92
      · refine r_iconst (pc := 87) (v := (1 : Int32)) C dX10_nameOf_87 ic_1 ?_
        refine r_goto (pc := 88) (tgt := 92) C dX10_nameOf_88 (by decide) ?_
        exact r_iret (pc := 92) C dX10_nameOf_92
    · refine r_iconst (pc := 77) (v := (0 : Int32)) C dX10_nameOf_77 ic_0 ?_
      refine r_goto (pc := 78) (tgt := 92) C dX10_nameOf_78 (by decide) ?_
      exact r_iret (pc := 92) C dX10_nameOf_92
  · refine r_iconst (pc := 67) (v := (-1 : Int32)) C dX10_nameOf_67 ic_m1 ?_
    refine r_goto (pc := 68) (tgt := 92) C dX10_nameOf_68 (by decide) ?_
    exact r_iret (pc := 92) C dX10_nameOf_92
set_option maxHeartbeats 4000000 in
set_option maxRecDepth 100000 in
theorem v_X10_nameOf_93 {κ : oK} {x : oXp} (C : oC κ (oM x) 2 cX10_nameOf RX10 wsX10_nameOf 3 (some .int))  (a1 : Int32) (σ : Sg) : oV κ (oM x) 2 (oQi κ (oM x)) σ 93 [(0, .ref (xa x 0)), (1, .int a1)] [] (f_X10_nameOf_93   a1 σ) := by
  unfold f_X10_nameOf_93
  refine r_aldn (pc := 93) C dX10_nameOf_93 0 rfl ?_
  refine gf_X10_16_0 (pc := 94) C hi_X10_nameOf_X10 wd_X10_nameOf_1 dX10_nameOf_94 ?_
  refine r_iconst (pc := 97) (v := (1 : Int32)) C dX10_nameOf_97 ic_1 ?_
  refine r_iceq (pc := 98) (tgt := 105) C dX10_nameOf_98 (by decide) ?_ ?_
  · refine r_ildn (pc := 105) C dX10_nameOf_105 1 rfl ?_
    refine r_bipush (pc := 106) (v := (102 : Int32)) C dX10_nameOf_106 bp_102 ?_
    refine r_icne (pc := 108) (tgt := 115) C dX10_nameOf_108 (by decide) ?_ ?_
    · refine r_ildn (pc := 115) C dX10_nameOf_115 1 rfl ?_
      refine r_bipush (pc := 116) (v := (100 : Int32)) C dX10_nameOf_116 bp_100 ?_
      refine r_icne (pc := 118) (tgt := 125) C dX10_nameOf_118 (by decide) ?_ ?_
      · refine r_iconst (pc := 125) (v := (2 : Int32)) C dX10_nameOf_125 ic_2 ?_
        exact r_iret (pc := 126) C dX10_nameOf_126
      · refine r_iconst (pc := 121) (v := (1 : Int32)) C dX10_nameOf_121 ic_1 ?_
        refine r_goto (pc := 122) (tgt := 126) C dX10_nameOf_122 (by decide) ?_
        exact r_iret (pc := 126) C dX10_nameOf_126
    · refine r_iconst (pc := 111) (v := (0 : Int32)) C dX10_nameOf_111 ic_0 ?_
      refine r_goto (pc := 112) (tgt := 126) C dX10_nameOf_112 (by decide) ?_
      exact r_iret (pc := 126) C dX10_nameOf_126
  · refine r_iconst (pc := 101) (v := (-1 : Int32)) C dX10_nameOf_101 ic_m1 ?_
    refine r_goto (pc := 102) (tgt := 126) C dX10_nameOf_102 (by decide) ?_
    exact r_iret (pc := 126) C dX10_nameOf_126
set_option maxHeartbeats 4000000 in
set_option maxRecDepth 100000 in
theorem m_X10_nameOf (l : Launch) (x : oXp) (hI : oI (oM x)) (a1 : Int32) (σ : Sg) : oMI l yX10_nameOf wsX10_nameOf 3 (oM x) [.ref (xa x 0), .int a1] σ (f_X10_nameOf  a1 σ) := by
  refine oMI_of (nL := 2) (cc := cX10_nameOf) hI (by decide +kernel) rfl (Nat.le_of_ble_eq_true rfl) ?_
  intro κ C
  have C : oC κ (oM x) 2 cX10_nameOf RX10 wsX10_nameOf 3 (some .int) := C
  unfold f_X10_nameOf
  show oV κ (oM x) 2 (oQi κ (oM x)) σ 0 [(0, .ref (xa x 0)), (1, .int a1)] [] _
  refine r_ildn (pc := 0) C dX10_nameOf_0 1 rfl ?_
  refine r_ite (fun c1 => ?_) (fun c1 => ?_)
  · refine r_lookE (pc := 1) (v := (98 : Int32)) (off := 59) (tgt := 60) C dX10_nameOf_1 (by decide) c1 (by decide) (by decide) ?_
    exact v_X10_nameOf_60 (x := x) C a1 σ
  · refine r_ite (fun c2 => ?_) (fun c2 => ?_)
    · refine r_lookE (pc := 1) (v := (100 : Int32)) (off := 92) (tgt := 93) C dX10_nameOf_1 (by decide) c2 (by decide) (by decide) ?_
      exact v_X10_nameOf_93 (x := x) C a1 σ
    · refine r_ite (fun c3 => ?_) (fun c3 => ?_)
      · refine r_lookE (pc := 1) (v := (102 : Int32)) (off := 92) (tgt := 93) C dX10_nameOf_1 (by decide) c3 (by decide) (by decide) ?_
        exact v_X10_nameOf_93 (x := x) C a1 σ
      · refine r_ite (fun c4 => ?_) (fun c4 => ?_)
        · refine r_lookE (pc := 1) (v := (109 : Int32)) (off := 59) (tgt := 60) C dX10_nameOf_1 (by decide) c4 (by decide) (by decide) ?_
          exact v_X10_nameOf_60 (x := x) C a1 σ
        · refine r_ite (fun c5 => ?_) (fun c5 => ?_)
          · refine r_lookE (pc := 1) (v := (112 : Int32)) (off := 59) (tgt := 60) C dX10_nameOf_1 (by decide) c5 (by decide) (by decide) ?_
            exact v_X10_nameOf_60 (x := x) C a1 σ
          · refine r_ite (fun c6 => ?_) (fun c6 => ?_)
            · refine r_lookE (pc := 1) (v := (119 : Int32)) (off := 92) (tgt := 93) C dX10_nameOf_1 (by decide) c6 (by decide) (by decide) ?_
              exact v_X10_nameOf_93 (x := x) C a1 σ
            · refine r_lookO (pc := 1) (off := 126) (tgt := 127) C dX10_nameOf_1 (by decide) ((lv_osw (k := (98 : Int32)) c1 (by decide)).trans ((lv_osw (k := (100 : Int32)) c2 (by decide)).trans ((lv_osw (k := (102 : Int32)) c3 (by decide)).trans ((lv_osw (k := (109 : Int32)) c4 (by decide)).trans ((lv_osw (k := (112 : Int32)) c5 (by decide)).trans ((lv_osw (k := (119 : Int32)) c6 (by decide)).trans rfl)))))) (by decide) ?_
              refine r_iconst (pc := 127) (v := (-1 : Int32)) C dX10_nameOf_127 ic_m1 ?_
              exact r_iret (pc := 128) C dX10_nameOf_128
theorem k_X10_nameOf {κ : oK} {nL : Nat} {cc : ByteArray} {own : String} {Ts : List Cond} {n : Nat} {ret : Option FieldType} {α : Type} {Q : α → Sg → State → Prop} {σ : Sg} {pc : Nat} {lv : List (Nat × Value)} {st : List Value} {x : oXp} {idx : Nat} {a1 : Int32} {K : Int32 → Sg → Option (α × Sg)} (C : oC κ (oM x) nL cc own Ts n ret) (hG : GoodIn Ts (wsV own idx RX10 yX10_nameOf wsX10_nameOf)) (hn : 3 + 1 ≤ n) (hst : (st.map fun v => v.category).sum ≤ 8) (hd : decode cc pc = .ok (.invokevirtual idx, 3)) (kk : ∀ (r1 : Int32) (σ1 : Sg), oV κ (oM x) nL Q σ1 (pc + 3) lv (.int r1 :: st) (K r1 σ1)) : oV κ (oM x) nL Q σ pc lv (.int a1 :: .ref (xa x 0) :: st) (bnd (f_X10_nameOf a1 σ) K) := by
  have hI : oI (oM x) := oC_I C
  exact r_cVi (As := [.int a1]) (na := 1) (j := 0) (ci := 10) C (fun l => m_X10_nameOf l x hI a1 σ) hG rfl (by decide +kernel) rfl (by decide) hn (by show 0 < 14; decide) rfl rfl rfl rfl hst hd kk
