set_option maxHeartbeats 4000000 in
set_option maxRecDepth 100000 in
theorem m_X10_stays (l : Launch) (x : oXp) (hI : oI (oM x)) (a1 : Int32) (a2 : Int32) (σ : Sg) : oMI l yX10_stays wsX10_stays 11 (oM x) [.ref (xa x 0), .int a1, .int a2] σ (f_X10_stays  a1 a2 σ) := by
  refine oMI_of (nL := 3) (cc := cX10_stays) hI (by decide +kernel) rfl (Nat.le_of_ble_eq_true rfl) ?_
  intro κ C
  have C : oC κ (oM x) 3 cX10_stays RX10 wsX10_stays 11 (some .int) := C
  unfold f_X10_stays
  show oV κ (oM x) 3 (oQi κ (oM x)) σ 0 [(0, .ref (xa x 0)), (1, .int a1), (2, .int a2)] [] _
  refine r_aldn (pc := 0) C dX10_stays_0 0 rfl ?_
  refine r_ildn (pc := 1) C dX10_stays_1 1 rfl ?_
  refine r_iconst (pc := 2) (v := (0 : Int32)) C dX10_stays_2 ic_0 ?_
  refine k_X10_it (x := x) (pc := 3) (a1 := a1) (a2 := (0 : Int32)) C gX10_stays_X10_it (by omega)  (Nat.le_of_ble_eq_true rfl) dX10_stays_3 (fun r2 s1 => ?_)
  refine r_ite (fun c3 => ?_) (fun c3 => ?_)
  · refine r_lookE (pc := 6) (v := (3 : Int32)) (off := 26) (tgt := 32) C dX10_stays_6 (by decide) c3 (by decide) (by decide) ?_
    refine r_aldn (pc := 32) C dX10_stays_32 0 rfl ?_
    refine r_bipush (pc := 33) (v := (40 : Int32)) C dX10_stays_33 bp_40 ?_
    refine k_X10_begins (x := x) (pc := 35) (a1 := (40 : Int32)) C gX10_stays_X10_begins (by omega)  (Nat.le_of_ble_eq_true rfl) dX10_stays_35 (fun _ s4 => ?_)
    refine r_aldn (pc := 38) C dX10_stays_38 0 rfl ?_
    refine r_ildn (pc := 39) C dX10_stays_39 1 rfl ?_
    refine r_ildn (pc := 40) C dX10_stays_40 2 rfl ?_
    refine r_iconst (pc := 41) (v := (2 : Int32)) C dX10_stays_41 ic_2 ?_
    refine r_idiv (pc := 42) C dX10_stays_42 (by decide) ?_
    refine k_X10_plainStays (x := x) (pc := 43) (a1 := a1) (a2 := (a2 / (2 : Int32))) C gX10_stays_X10_plainStays (by omega)  (Nat.le_of_ble_eq_true rfl) dX10_stays_43 (fun r7 s6 => ?_)
    exact r_iret (pc := 46) C dX10_stays_46
  · refine r_ite (fun c8 => ?_) (fun c8 => ?_)
    · refine r_lookE (pc := 6) (v := (4 : Int32)) (off := 41) (tgt := 47) C dX10_stays_6 (by decide) c8 (by decide) (by decide) ?_
      refine r_aldn (pc := 47) C dX10_stays_47 0 rfl ?_
      refine r_bipush (pc := 48) (v := (51 : Int32)) C dX10_stays_48 bp_51 ?_
      refine k_X10_begins (x := x) (pc := 50) (a1 := (51 : Int32)) C gX10_stays_X10_begins (by omega)  (Nat.le_of_ble_eq_true rfl) dX10_stays_50 (fun _ s9 => ?_)
      refine r_aldn (pc := 53) C dX10_stays_53 0 rfl ?_
      refine r_ildn (pc := 54) C dX10_stays_54 1 rfl ?_
      refine r_ildn (pc := 55) C dX10_stays_55 2 rfl ?_
      refine k_X10_plainStays (x := x) (pc := 56) (a1 := a1) (a2 := a2) C gX10_stays_X10_plainStays (by omega)  (Nat.le_of_ble_eq_true rfl) dX10_stays_56 (fun r12 s11 => ?_)
      refine r_ildn (pc := 59) C dX10_stays_59 1 rfl ?_
      refine r_ixor (pc := 60) C dX10_stays_60 ?_
      exact r_iret (pc := 61) C dX10_stays_61
    · refine r_lookO (pc := 6) (off := 56) (tgt := 62) C dX10_stays_6 (by decide) ((lv_osw (k := (3 : Int32)) c3 (by decide)).trans ((lv_osw (k := (4 : Int32)) c8 (by decide)).trans rfl)) (by decide) ?_
      refine r_aldn (pc := 62) C dX10_stays_62 0 rfl ?_
      refine r_ildn (pc := 63) C dX10_stays_63 1 rfl ?_
      refine r_ildn (pc := 64) C dX10_stays_64 2 rfl ?_
      refine k_X10_plainStays (x := x) (pc := 65) (a1 := a1) (a2 := a2) C gX10_stays_X10_plainStays (by omega)  (Nat.le_of_ble_eq_true rfl) dX10_stays_65 (fun r14 s13 => ?_)
      exact r_iret (pc := 68) C dX10_stays_68
theorem k_X10_stays {κ : oK} {nL : Nat} {cc : ByteArray} {own : String} {Ts : List Cond} {n : Nat} {ret : Option FieldType} {α : Type} {Q : α → Sg → State → Prop} {σ : Sg} {pc : Nat} {lv : List (Nat × Value)} {st : List Value} {x : oXp} {idx : Nat} {a1 : Int32} {a2 : Int32} {K : Int32 → Sg → Option (α × Sg)} (C : oC κ (oM x) nL cc own Ts n ret) (hG : GoodIn Ts (wsV own idx RX10 yX10_stays wsX10_stays)) (hn : 11 + 1 ≤ n) (hst : (st.map fun v => v.category).sum ≤ 8) (hd : decode cc pc = .ok (.invokevirtual idx, 3)) (kk : ∀ (r1 : Int32) (σ1 : Sg), oV κ (oM x) nL Q σ1 (pc + 3) lv (.int r1 :: st) (K r1 σ1)) : oV κ (oM x) nL Q σ pc lv (.int a2 :: .int a1 :: .ref (xa x 0) :: st) (bnd (f_X10_stays a1 a2 σ) K) := by
  have hI : oI (oM x) := oC_I C
  exact r_cVi (As := [.int a1, .int a2]) (na := 2) (j := 0) (ci := 10) C (fun l => m_X10_stays l x hI a1 a2 σ) hG rfl (by decide +kernel) rfl (by decide) hn (by show 0 < 14; decide) rfl rfl rfl rfl hst hd kk
set_option maxHeartbeats 4000000 in
set_option maxRecDepth 100000 in
theorem m_X10_tell (l : Launch) (x : oXp) (hI : oI (oM x)) (a1 : Int32) (σ : Sg) : oMI l yX10_tell wsX10_tell 4 (oM x) [.ref (xa x 0), .int a1] σ (f_X10_tell  a1 σ) := by
  refine oMI_of (nL := 2) (cc := cX10_tell) hI (by decide +kernel) rfl (Nat.le_of_ble_eq_true rfl) ?_
  intro κ C
  have C : oC κ (oM x) 2 cX10_tell RX10 wsX10_tell 4 (some .int) := C
  unfold f_X10_tell
  show oV κ (oM x) 2 (oQi κ (oM x)) σ 0 [(0, .ref (xa x 0)), (1, .int a1)] [] _
  refine r_aldn (pc := 0) C dX10_tell_0 0 rfl ?_
  refine gf_X10_0_0 (pc := 1) C hi_X10_tell_X10 wd_X10_tell_1 dX10_tell_1 ?_
  refine r_bipush (pc := 4) (v := (6 : Int32)) C dX10_tell_4 bp_6 ?_
  refine iald_oM_1 (pc := 6) C dX10_tell_6 ?_
  refine r_bipush (pc := 7) (v := (24 : Int32)) C dX10_tell_7 bp_24 ?_
  refine r_icne (pc := 9) (tgt := 19) C dX10_tell_9 (by decide) ?_ ?_
  · refine r_aldn (pc := 19) C dX10_tell_19 0 rfl ?_
    refine gf_X10_0_0 (pc := 20) C hi_X10_tell_X10 wd_X10_tell_1 dX10_tell_20 ?_
    refine r_sipush (pc := 23) (v := (142 : Int32)) C dX10_tell_23 sp_142 ?_
    refine r_aldn (pc := 26) C dX10_tell_26 0 rfl ?_
    refine gf_X10_0_0 (pc := 27) C hi_X10_tell_X10 wd_X10_tell_1 dX10_tell_27 ?_
    refine r_bipush (pc := 30) (v := (6 : Int32)) C dX10_tell_30 bp_6 ?_
    refine iald_oM_1 (pc := 32) C dX10_tell_32 ?_
    refine r_iadd (pc := 33) C dX10_tell_33 ?_
    refine r_ildn (pc := 34) C dX10_tell_34 1 rfl ?_
    refine iast_oM_1 (pc := 35) C dX10_tell_35 (fun s1 => ?_)
    refine r_aldn (pc := 36) C dX10_tell_36 0 rfl ?_
    refine gf_X10_0_0 (pc := 37) C hi_X10_tell_X10 wd_X10_tell_1 dX10_tell_37 ?_
    refine r_bipush (pc := 40) (v := (6 : Int32)) C dX10_tell_40 bp_6 ?_
    refine r_dup2 (pc := 42) C dX10_tell_42 rfl rfl ?_
    refine iald_oM_1 (pc := 43) C dX10_tell_43 ?_
    refine r_iconst (pc := 44) (v := (1 : Int32)) C dX10_tell_44 ic_1 ?_
    refine r_iadd (pc := 45) C dX10_tell_45 ?_
    refine iast_oM_1 (pc := 46) C dX10_tell_46 (fun s2 => ?_)
    refine r_aldn (pc := 47) C dX10_tell_47 0 rfl ?_
    refine gf_X10_0_0 (pc := 48) C hi_X10_tell_X10 wd_X10_tell_1 dX10_tell_48 ?_
    refine r_bipush (pc := 51) (v := (6 : Int32)) C dX10_tell_51 bp_6 ?_
    refine iald_oM_1 (pc := 53) C dX10_tell_53 ?_
    exact r_iret (pc := 54) C dX10_tell_54
  · refine r_aldn (pc := 12) C dX10_tell_12 0 rfl ?_
    refine r_ldc (pc := 13) (v := (-1000000004 : Int32)) C dX10_tell_13 wd_X10_tell_2 ?_
    refine k_X10_error (x := x) (pc := 15) (a1 := (-1000000004 : Int32)) C gX10_tell_X10_error (by omega)  (Nat.le_of_ble_eq_true rfl) dX10_tell_15 (fun r4 s3 => ?_)
    exact r_iret (pc := 18) C dX10_tell_18
set_option maxHeartbeats 4000000 in
set_option maxRecDepth 100000 in
theorem v_X10_text_117_b {κ : oK} {x : oXp} (C : oC κ (oM x) 4 cX10_text RX10 wsX10_text 70 (some .int))  (rec117 : Int32 → Int32 → Sg → Option (Int32 × Sg)) (hrec117 : ∀ (a2 : Int32) (a3 : Int32) (σ : Sg), oV κ (oM x) 4 (oQi κ (oM x)) σ 117 [(0, .ref (xa x 0)), (2, .int a2), (3, .int a3)] [] (rec117 a2 a3 σ)) (a2 : Int32) (a3 : Int32) (σ : Sg) : oV κ (oM x) 4 (oQi κ (oM x)) σ 117 [(0, .ref (xa x 0)), (2, .int a2), (3, .int a3)] [] (f_X10_text_117_b   rec117 a2 a3 σ) := by
  unfold f_X10_text_117_b
  refine r_ildn (pc := 117) C dX10_text_117 2 rfl ?_
  refine r_aldn (pc := 118) C dX10_text_118 0 rfl ?_
  refine gf_X10_12_0 (pc := 119) C hi_X10_text_X10 wd_X10_text_3 dX10_text_119 ?_
  refine r_icge (pc := 122) (tgt := 164) C dX10_text_122 (by decide) ?_ ?_
  · refine r_iconst (pc := 164) (v := (1 : Int32)) C dX10_text_164 ic_1 ?_
    exact r_iret (pc := 165) C dX10_text_165
  · refine r_aldn (pc := 125) C dX10_text_125 0 rfl ?_
    refine gf_X10_0_0 (pc := 126) C hi_X10_text_X10 wd_X10_text_7 dX10_text_126 ?_
    refine r_ildn (pc := 129) C dX10_text_129 1 rfl ?_
    refine r_iconst (pc := 130) (v := (1 : Int32)) C dX10_text_130 ic_1 ?_
    refine r_iadd (pc := 131) C dX10_text_131 ?_
    refine r_ildn (pc := 132) C dX10_text_132 2 rfl ?_
    refine r_iadd (pc := 133) C dX10_text_133 ?_
    refine r_aldn (pc := 134) C dX10_text_134 0 rfl ?_
    refine gf_X10_8_0 (pc := 135) C hi_X10_text_X10 wd_X10_text_8 dX10_text_135 ?_
    refine r_ildn (pc := 138) C dX10_text_138 2 rfl ?_
    refine iald_oM_8 (pc := 139) C dX10_text_139 ?_
    refine iast_oM_1 (pc := 140) C dX10_text_140 (fun s1 => ?_)
    refine r_aldn (pc := 141) C dX10_text_141 0 rfl ?_
    refine gf_X10_0_0 (pc := 142) C hi_X10_text_X10 wd_X10_text_7 dX10_text_142 ?_
    refine r_ildn (pc := 145) C dX10_text_145 1 rfl ?_
    refine r_bipush (pc := 146) (v := (61 : Int32)) C dX10_text_146 bp_61 ?_
    refine r_iadd (pc := 148) C dX10_text_148 ?_
    refine r_ildn (pc := 149) C dX10_text_149 2 rfl ?_
    refine r_iadd (pc := 150) C dX10_text_150 ?_
    refine r_aldn (pc := 151) C dX10_text_151 0 rfl ?_
    refine gf_X10_9_0 (pc := 152) C hi_X10_text_X10 wd_X10_text_9 dX10_text_152 ?_
    refine r_ildn (pc := 155) C dX10_text_155 2 rfl ?_
    refine iald_oM_9 (pc := 156) C dX10_text_156 ?_
    refine iast_oM_1 (pc := 157) C dX10_text_157 (fun s2 => ?_)
    refine r_iinc (pc := 158) (v := (1 : Int32)) (lv1 := fun y => [(0, _), (2, _), (3, .int y)]) C dX10_text_158 ic_1 2 rfl (by decide) [1, 2, 0] (fun _ => rfl) (fun v3 => ?_)
    refine r_goto (pc := 161) (tgt := 117) C dX10_text_161 (by decide) ?_
    exact hrec117 a2 v3 s2
theorem v_X10_text_117 {κ : oK} {x : oXp} (C : oC κ (oM x) 4 cX10_text RX10 wsX10_text 70 (some .int))  : ∀ (n : Nat) (a2 : Int32) (a3 : Int32) (σ : Sg), oV κ (oM x) 4 (oQi κ (oM x)) σ 117 [(0, .ref (xa x 0)), (2, .int a2), (3, .int a3)] [] (f_X10_text_117   n a2 a3 σ) := by
  intro n
  induction n with
  | zero => intros; exact r_none
  | succ n ih => exact v_X10_text_117_b C  _ ih
set_option maxHeartbeats 4000000 in
set_option maxRecDepth 100000 in
theorem v_X10_text_71 {κ : oK} {x : oXp} (C : oC κ (oM x) 4 cX10_text RX10 wsX10_text 70 (some .int))  (a1 : Int32) (t0 : Int32) (σ : Sg) : oV κ (oM x) 4 (oQi κ (oM x)) σ 71 [(0, .ref (xa x 0)), (1, .int a1)] [.int t0, .ref (xa x 0)] (f_X10_text_71   a1 t0 σ) := by
  unfold f_X10_text_71
  refine r_ckb (fun h5 => ?_)
  refine pf_X10_15_0 (pc := 71) C hi_X10_text_X10 wd_X10_text_6 (isb_nar h5) dX10_text_71 (fun s4 => ?_)
  refine r_aldn (pc := 74) C dX10_text_74 0 rfl ?_
  refine gf_X10_0_0 (pc := 75) C hi_X10_text_X10 wd_X10_text_7 dX10_text_75 ?_
  refine r_iconst (pc := 78) (v := (5 : Int32)) C dX10_text_78 ic_5 ?_
  refine r_iconst (pc := 79) (v := (0 : Int32)) C dX10_text_79 ic_0 ?_
  refine iast_oM_1 (pc := 80) C dX10_text_80 (fun s6 => ?_)
  refine r_aldn (pc := 81) C dX10_text_81 0 rfl ?_
  refine gf_X10_15_0 (pc := 82) C hi_X10_text_X10 wd_X10_text_6 dX10_text_82 ?_
  refine r_ifeq (pc := 85) (tgt := 96) C dX10_text_85 (by decide) ?_ ?_
  · refine r_sipush (pc := 96) (v := (166 : Int32)) C dX10_text_96 sp_166 ?_
    refine r_bipush (pc := 99) (v := (121 : Int32)) C dX10_text_99 bp_121 ?_
    refine r_ildn (pc := 101) C dX10_text_101 1 rfl ?_
    refine r_imul (pc := 102) C dX10_text_102 ?_
    refine r_iadd (pc := 103) C dX10_text_103 ?_
    refine r_nm (fun v7 => ?_)
    refine r_istn (pc := 104) (lv' := [(0, _), (2, _)]) C dX10_text_104 (by decide) [1, 0] rfl ?_
    refine r_aldn (pc := 105) C dX10_text_105 0 rfl ?_
    refine gf_X10_0_0 (pc := 106) C hi_X10_text_X10 wd_X10_text_7 dX10_text_106 ?_
    refine r_ildn (pc := 109) C dX10_text_109 1 rfl ?_
    refine r_aldn (pc := 110) C dX10_text_110 0 rfl ?_
    refine gf_X10_12_0 (pc := 111) C hi_X10_text_X10 wd_X10_text_3 dX10_text_111 ?_
    refine iast_oM_1 (pc := 114) C dX10_text_114 (fun s8 => ?_)
    refine r_iconst (pc := 115) (v := (0 : Int32)) C dX10_text_115 ic_0 ?_
    refine r_istn (pc := 116) (lv' := [(0, _), (2, _), (3, _)]) C dX10_text_116 (by decide) [1, 2, 0] rfl ?_
    exact v_X10_text_117 (x := x) C fuN v7 (0 : Int32) s8
  · refine r_bipush (pc := 88) (v := (-10 : Int32)) C dX10_text_88 bp_m10 ?_
    refine r_aldn (pc := 90) C dX10_text_90 0 rfl ?_
    refine gf_X10_13_0 (pc := 91) C hi_X10_text_X10 wd_X10_text_4 dX10_text_91 ?_
    refine r_isub (pc := 94) C dX10_text_94 ?_
    exact r_iret (pc := 95) C dX10_text_95
set_option maxHeartbeats 4000000 in
set_option maxRecDepth 100000 in
theorem m_X10_text (l : Launch) (x : oXp) (hI : oI (oM x)) (a1 : Int32) (σ : Sg) : oMI l yX10_text wsX10_text 70 (oM x) [.ref (xa x 0), .int a1] σ (f_X10_text  a1 σ) := by
  refine oMI_of (nL := 4) (cc := cX10_text) hI (by decide +kernel) rfl (Nat.le_of_ble_eq_true rfl) ?_
  intro κ C
  have C : oC κ (oM x) 4 cX10_text RX10 wsX10_text 70 (some .int) := C
  unfold f_X10_text
  show oV κ (oM x) 4 (oQi κ (oM x)) σ 0 [(0, .ref (xa x 0)), (1, .int a1)] [] _
  refine r_ildn (pc := 0) C dX10_text_0 1 rfl ?_
  refine r_iconst (pc := 1) (v := (0 : Int32)) C dX10_text_1 ic_0 ?_
  refine r_iconst (pc := 2) (v := (1 : Int32)) C dX10_text_2 ic_1 ?_
  refine kS_X10_in (x := x) (pc := 3) (a0 := a1) (a1 := (0 : Int32)) (a2 := (1 : Int32)) C gX10_text_X10_in (by omega)  (Nat.le_of_ble_eq_true rfl) dX10_text_3 (fun r10 s9 => ?_)
  refine r_ifne (pc := 6) (tgt := 16) C dX10_text_6 (by decide) ?_ ?_
  · refine r_aldn (pc := 16) C dX10_text_16 0 rfl ?_
    refine r_ildn (pc := 17) C dX10_text_17 1 rfl ?_
    refine pf_X10_16_0 (pc := 18) C hi_X10_text_X10 wd_X10_text_2 dX10_text_18 (fun s11 => ?_)
    refine r_aldn (pc := 21) C dX10_text_21 0 rfl ?_
    refine r_iconst (pc := 22) (v := (0 : Int32)) C dX10_text_22 ic_0 ?_
    refine pf_X10_12_0 (pc := 23) C hi_X10_text_X10 wd_X10_text_3 dX10_text_23 (fun s12 => ?_)
    refine r_aldn (pc := 26) C dX10_text_26 0 rfl ?_
    refine r_iconst (pc := 27) (v := (0 : Int32)) C dX10_text_27 ic_0 ?_
    refine pf_X10_13_0 (pc := 28) C hi_X10_text_X10 wd_X10_text_4 dX10_text_28 (fun s13 => ?_)
    refine r_aldn (pc := 31) C dX10_text_31 0 rfl ?_
    refine r_iconst (pc := 32) (v := (0 : Int32)) C dX10_text_32 ic_0 ?_
    refine pf_X10_14_0 (pc := 33) C hi_X10_text_X10 wd_X10_text_5 dX10_text_33 (fun s14 => ?_)
    refine r_aldn (pc := 36) C dX10_text_36 0 rfl ?_
    refine r_iconst (pc := 37) (v := (0 : Int32)) C dX10_text_37 ic_0 ?_
    refine pf_X10_15_0 (pc := 38) C hi_X10_text_X10 wd_X10_text_6 (isb_nar (by decide)) dX10_text_38 (fun s15 => ?_)
    refine r_aldn (pc := 41) C dX10_text_41 0 rfl ?_
    refine k_X10_any (x := x) (pc := 42)  C gX10_text_X10_any (by omega)  (Nat.le_of_ble_eq_true rfl) dX10_text_42 (fun _ s16 => ?_)
    refine r_aldn (pc := 45) C dX10_text_45 0 rfl ?_
    refine r_aldn (pc := 46) C dX10_text_46 0 rfl ?_
    refine gf_X10_15_0 (pc := 47) C hi_X10_text_X10 wd_X10_text_6 dX10_text_47 ?_
    refine r_ifne (pc := 50) (tgt := 66) C dX10_text_50 (by decide) ?_ ?_
    · refine r_iconst (pc := 66) (v := (1 : Int32)) C dX10_text_66 ic_1 ?_
      refine r_goto (pc := 67) (tgt := 71) C dX10_text_67 (by decide) ?_
      exact v_X10_text_71 (x := x) C a1 (1 : Int32) s16
    · refine r_aldn (pc := 53) C dX10_text_53 0 rfl ?_
      refine gf_X10_13_0 (pc := 54) C hi_X10_text_X10 wd_X10_text_4 dX10_text_54 ?_
      refine r_aldn (pc := 57) C dX10_text_57 0 rfl ?_
      refine gf_X10_0_0 (pc := 58) C hi_X10_text_X10 wd_X10_text_7 dX10_text_58 ?_
      refine r_iconst (pc := 61) (v := (5 : Int32)) C dX10_text_61 ic_5 ?_
      refine iald_oM_1 (pc := 62) C dX10_text_62 ?_
      refine r_icge (pc := 63) (tgt := 70) C dX10_text_63 (by decide) ?_ ?_
      · refine r_iconst (pc := 70) (v := (0 : Int32)) C dX10_text_70 ic_0 ?_
        exact v_X10_text_71 (x := x) C a1 (0 : Int32) s16
      · refine r_iconst (pc := 66) (v := (1 : Int32)) C dX10_text_66 ic_1 ?_
        refine r_goto (pc := 67) (tgt := 71) C dX10_text_67 (by decide) ?_
        exact v_X10_text_71 (x := x) C a1 (1 : Int32) s16
  · refine r_aldn (pc := 9) C dX10_text_9 0 rfl ?_
    refine r_ldc (pc := 10) (v := (-1000000001 : Int32)) C dX10_text_10 wd_X10_text_1 ?_
    refine k_X10_error (x := x) (pc := 12) (a1 := (-1000000001 : Int32)) C gX10_text_X10_error (by omega)  (Nat.le_of_ble_eq_true rfl) dX10_text_12 (fun r19 s18 => ?_)
    exact r_iret (pc := 15) C dX10_text_15
set_option maxHeartbeats 4000000 in
set_option maxRecDepth 100000 in
theorem m_X10_told (l : Launch) (x : oXp) (hI : oI (oM x)) (a1 : Int32) (σ : Sg) : oMI l yX10_told wsX10_told 4 (oM x) [.ref (xa x 0), .int a1] σ (f_X10_told  a1 σ) := by
  refine oMI_of (nL := 2) (cc := cX10_told) hI (by decide +kernel) rfl (Nat.le_of_ble_eq_true rfl) ?_
  intro κ C
  have C : oC κ (oM x) 2 cX10_told RX10 wsX10_told 4 (some .int) := C
  unfold f_X10_told
  show oV κ (oM x) 2 (oQi κ (oM x)) σ 0 [(0, .ref (xa x 0)), (1, .int a1)] [] _
  refine r_ildn (pc := 0) C dX10_told_0 1 rfl ?_
  refine r_iconst (pc := 1) (v := (1 : Int32)) C dX10_told_1 ic_1 ?_
  refine r_bipush (pc := 2) (v := (6 : Int32)) C dX10_told_2 bp_6 ?_
  refine kS_X10_in (x := x) (pc := 4) (a0 := a1) (a1 := (1 : Int32)) (a2 := (6 : Int32)) C gX10_told_X10_in (by omega)  (Nat.le_of_ble_eq_true rfl) dX10_told_4 (fun r2 s1 => ?_)
  refine r_ifeq (pc := 7) (tgt := 19) C dX10_told_7 (by decide) ?_ ?_
  · refine r_aldn (pc := 19) C dX10_told_19 0 rfl ?_
    refine r_ldc (pc := 20) (v := (-1000000001 : Int32)) C dX10_told_20 wd_X10_told_2 ?_
    refine k_X10_error (x := x) (pc := 22) (a1 := (-1000000001 : Int32)) C gX10_told_X10_error (by omega)  (Nat.le_of_ble_eq_true rfl) dX10_told_22 (fun r4 s3 => ?_)
    exact r_iret (pc := 25) C dX10_told_25
  · refine r_aldn (pc := 10) C dX10_told_10 0 rfl ?_
    refine gf_X10_4_0 (pc := 11) C hi_X10_told_X10 wd_X10_told_1 dX10_told_11 ?_
    refine r_ildn (pc := 14) C dX10_told_14 1 rfl ?_
    refine iald_oM_4 (pc := 15) C dX10_told_15 ?_
    refine r_goto (pc := 16) (tgt := 25) C dX10_told_16 (by decide) ?_
    exact r_iret (pc := 25) C dX10_told_25
set_option maxHeartbeats 4000000 in
set_option maxRecDepth 100000 in
theorem m_X10_untell (l : Launch) (x : oXp) (hI : oI (oM x)) (a1 : Int32) (σ : Sg) : oMI l yX10_untell wsX10_untell 4 (oM x) [.ref (xa x 0), .int a1] σ (f_X10_untell  a1 σ) := by
  refine oMI_of (nL := 2) (cc := cX10_untell) hI (by decide +kernel) rfl (Nat.le_of_ble_eq_true rfl) ?_
  intro κ C
  have C : oC κ (oM x) 2 cX10_untell RX10 wsX10_untell 4 (some .int) := C
  unfold f_X10_untell
  show oV κ (oM x) 2 (oQi κ (oM x)) σ 0 [(0, .ref (xa x 0)), (1, .int a1)] [] _
  refine r_ildn (pc := 0) C dX10_untell_0 1 rfl ?_
  refine r_iconst (pc := 1) (v := (0 : Int32)) C dX10_untell_1 ic_0 ?_
  refine r_iconst (pc := 2) (v := (1 : Int32)) C dX10_untell_2 ic_1 ?_
  refine kS_X10_in (x := x) (pc := 3) (a0 := a1) (a1 := (0 : Int32)) (a2 := (1 : Int32)) C gX10_untell_X10_in (by omega)  (Nat.le_of_ble_eq_true rfl) dX10_untell_3 (fun r2 s1 => ?_)
  refine r_ifne (pc := 6) (tgt := 16) C dX10_untell_6 (by decide) ?_ ?_
  · refine r_aldn (pc := 16) C dX10_untell_16 0 rfl ?_
    refine r_sipush (pc := 17) (v := (166 : Int32)) C dX10_untell_17 sp_166 ?_
    refine r_bipush (pc := 20) (v := (121 : Int32)) C dX10_untell_20 bp_121 ?_
    refine r_ildn (pc := 22) C dX10_untell_22 1 rfl ?_
    refine r_imul (pc := 23) C dX10_untell_23 ?_
    refine r_iadd (pc := 24) C dX10_untell_24 ?_
    refine r_iconst (pc := 25) (v := (0 : Int32)) C dX10_untell_25 ic_0 ?_
    refine k_X10_becomes (x := x) (pc := 26) (a1 := ((166 : Int32) + ((121 : Int32) * a1))) (a2 := (0 : Int32)) C gX10_untell_X10_becomes (by omega)  (Nat.le_of_ble_eq_true rfl) dX10_untell_26 (fun r4 s3 => ?_)
    refine r_ifle (pc := 29) (tgt := 36) C dX10_untell_29 (by decide) ?_ ?_
    · refine r_iconst (pc := 36) (v := (0 : Int32)) C dX10_untell_36 ic_0 ?_
      exact r_iret (pc := 37) C dX10_untell_37
    · refine r_iconst (pc := 32) (v := (1 : Int32)) C dX10_untell_32 ic_1 ?_
      refine r_goto (pc := 33) (tgt := 37) C dX10_untell_33 (by decide) ?_
      exact r_iret (pc := 37) C dX10_untell_37
  · refine r_aldn (pc := 9) C dX10_untell_9 0 rfl ?_
    refine r_ldc (pc := 10) (v := (-1000000001 : Int32)) C dX10_untell_10 wd_X10_untell_1 ?_
    refine k_X10_error (x := x) (pc := 12) (a1 := (-1000000001 : Int32)) C gX10_untell_X10_error (by omega)  (Nat.le_of_ble_eq_true rfl) dX10_untell_12 (fun r6 s5 => ?_)
    exact r_iret (pc := 15) C dX10_untell_15
set_option maxHeartbeats 4000000 in
set_option maxRecDepth 100000 in
theorem v_X10_voice_81 {κ : oK} {x : oXp} (C : oC κ (oM x) 5 cX10_voice RX10 wsX10_voice 12 (some .int))  (t0 : Int32) (σ : Sg) : oV κ (oM x) 5 (oQi κ (oM x)) σ 81 [(0, .ref (xa x 0))] [.int t0] (f_X10_voice_81   t0 σ) := by
  unfold f_X10_voice_81
  refine r_ist (pc := 81) (lv' := [(0, _), (4, _)]) C dX10_voice_81 (by decide) [1, 0] rfl ?_
  refine r_aldn (pc := 83) C dX10_voice_83 0 rfl ?_
  refine gf_X10_20_0 (pc := 84) C hi_X10_voice_X10 wd_X10_voice_3 dX10_voice_84 ?_
  refine r_ifeq (pc := 87) (tgt := 100) C dX10_voice_87 (by decide) ?_ ?_
  · refine r_ild (pc := 100) C dX10_voice_100 1 rfl ?_
    exact r_iret (pc := 102) C dX10_voice_102
  · refine r_aldn (pc := 90) C dX10_voice_90 0 rfl ?_
    refine r_ldcw (pc := 91) (v := (-1000000006 : Int32)) C dX10_voice_91 wd_X10_voice_4 ?_
    refine k_X10_error (x := x) (pc := 94) (a1 := (-1000000006 : Int32)) C gX10_voice_X10_error (by omega)  (Nat.le_of_ble_eq_true rfl) dX10_voice_94 (fun r2 s1 => ?_)
    refine r_goto (pc := 97) (tgt := 102) C dX10_voice_97 (by decide) ?_
    exact r_iret (pc := 102) C dX10_voice_102
set_option maxHeartbeats 4000000 in
set_option maxRecDepth 100000 in
theorem m_X10_voice (l : Launch) (x : oXp) (hI : oI (oM x)) (a1 : Int32) (a2 : Int32) (a3 : Int32) (σ : Sg) : oMI l yX10_voice wsX10_voice 12 (oM x) [.ref (xa x 0), .int a1, .int a2, .int a3] σ (f_X10_voice  a1 a2 a3 σ) := by
  refine oMI_of (nL := 5) (cc := cX10_voice) hI (by decide +kernel) rfl (Nat.le_of_ble_eq_true rfl) ?_
  intro κ C
  have C : oC κ (oM x) 5 cX10_voice RX10 wsX10_voice 12 (some .int) := C
  unfold f_X10_voice
  show oV κ (oM x) 5 (oQi κ (oM x)) σ 0 [(0, .ref (xa x 0)), (1, .int a1), (2, .int a2), (3, .int a3)] [] _
  refine r_aldn (pc := 0) C dX10_voice_0 0 rfl ?_
  refine r_ildn (pc := 1) C dX10_voice_1 1 rfl ?_
  refine k_X10_isLine (x := x) (pc := 2) (a1 := a1) C gX10_voice_X10_isLine (by omega)  (Nat.le_of_ble_eq_true rfl) dX10_voice_2 (fun r4 s3 => ?_)
  refine r_ifeq (pc := 5) (tgt := 17) C dX10_voice_5 (by decide) ?_ ?_
  · refine r_aldn (pc := 17) C dX10_voice_17 0 rfl ?_
    refine r_ldc (pc := 18) (v := (-1000000001 : Int32)) C dX10_voice_18 wd_X10_voice_1 ?_
    refine k_X10_error (x := x) (pc := 20) (a1 := (-1000000001 : Int32)) C gX10_voice_X10_error (by omega)  (Nat.le_of_ble_eq_true rfl) dX10_voice_20 (fun r6 s5 => ?_)
    exact r_iret (pc := 23) C dX10_voice_23
  · refine r_ildn (pc := 8) C dX10_voice_8 2 rfl ?_
    refine r_iconst (pc := 9) (v := (0 : Int32)) C dX10_voice_9 ic_0 ?_
    refine r_iconst (pc := 10) (v := (3 : Int32)) C dX10_voice_10 ic_3 ?_
    refine kS_X10_in (x := x) (pc := 11) (a0 := a2) (a1 := (0 : Int32)) (a2 := (3 : Int32)) C gX10_voice_X10_in (by omega)  (Nat.le_of_ble_eq_true rfl) dX10_voice_11 (fun r8 s7 => ?_)
    refine r_ifne (pc := 14) (tgt := 24) C dX10_voice_14 (by decide) ?_ ?_
    · refine r_aldn (pc := 24) C dX10_voice_24 0 rfl ?_
      refine r_iconst (pc := 25) (v := (0 : Int32)) C dX10_voice_25 ic_0 ?_
      refine pf_X10_19_0 (pc := 26) C hi_X10_voice_X10 wd_X10_voice_2 dX10_voice_26 (fun s9 => ?_)
      refine r_aldn (pc := 29) C dX10_voice_29 0 rfl ?_
      refine r_iconst (pc := 30) (v := (0 : Int32)) C dX10_voice_30 ic_0 ?_
      refine pf_X10_20_0 (pc := 31) C hi_X10_voice_X10 wd_X10_voice_3 (isb_nar (by decide)) dX10_voice_31 (fun s10 => ?_)
      refine r_ildn (pc := 34) C dX10_voice_34 2 rfl ?_
      refine r_ifne (pc := 35) (tgt := 47) C dX10_voice_35 (by decide) ?_ ?_
      · refine r_ildn (pc := 47) C dX10_voice_47 2 rfl ?_
        refine r_iconst (pc := 48) (v := (1 : Int32)) C dX10_voice_48 ic_1 ?_
        refine r_icne (pc := 49) (tgt := 61) C dX10_voice_49 (by decide) ?_ ?_
        · refine r_ildn (pc := 61) C dX10_voice_61 2 rfl ?_
          refine r_iconst (pc := 62) (v := (2 : Int32)) C dX10_voice_62 ic_2 ?_
          refine r_icne (pc := 63) (tgt := 75) C dX10_voice_63 (by decide) ?_ ?_
          · refine r_aldn (pc := 75) C dX10_voice_75 0 rfl ?_
            refine r_ildn (pc := 76) C dX10_voice_76 1 rfl ?_
            refine r_ildn (pc := 77) C dX10_voice_77 3 rfl ?_
            refine k_X10_partsBy (x := x) (pc := 78) (a1 := a1) (a2 := a3) C gX10_voice_X10_partsBy (by omega)  (Nat.le_of_ble_eq_true rfl) dX10_voice_78 (fun r12 s11 => ?_)
            refine r_sub (lv' := [(0, _)]) [0] rfl ?_
            exact v_X10_voice_81 (x := x) C r12 s11
          · refine r_aldn (pc := 66) C dX10_voice_66 0 rfl ?_
            refine r_ildn (pc := 67) C dX10_voice_67 1 rfl ?_
            refine r_ildn (pc := 68) C dX10_voice_68 3 rfl ?_
            refine k_X10_stays (x := x) (pc := 69) (a1 := a1) (a2 := a3) C gX10_voice_X10_stays (by omega)  (Nat.le_of_ble_eq_true rfl) dX10_voice_69 (fun r14 s13 => ?_)
            refine r_goto (pc := 72) (tgt := 81) C dX10_voice_72 (by decide) ?_
            refine r_sub (lv' := [(0, _)]) [0] rfl ?_
            exact v_X10_voice_81 (x := x) C r14 s13
        · refine r_aldn (pc := 52) C dX10_voice_52 0 rfl ?_
          refine r_ildn (pc := 53) C dX10_voice_53 1 rfl ?_
          refine r_ildn (pc := 54) C dX10_voice_54 3 rfl ?_
          refine k_X10_smears (x := x) (pc := 55) (a1 := a1) (a2 := a3) C gX10_voice_X10_smears (by omega)  (Nat.le_of_ble_eq_true rfl) dX10_voice_55 (fun r16 s15 => ?_)
          refine r_goto (pc := 58) (tgt := 81) C dX10_voice_58 (by decide) ?_
          refine r_sub (lv' := [(0, _)]) [0] rfl ?_
          exact v_X10_voice_81 (x := x) C r16 s15
      · refine r_aldn (pc := 38) C dX10_voice_38 0 rfl ?_
        refine r_ildn (pc := 39) C dX10_voice_39 1 rfl ?_
        refine r_ildn (pc := 40) C dX10_voice_40 3 rfl ?_
        refine k_X10_squeaks (x := x) (pc := 41) (a1 := a1) (a2 := a3) C gX10_voice_X10_squeaks (by omega)  (Nat.le_of_ble_eq_true rfl) dX10_voice_41 (fun r18 s17 => ?_)
        refine r_goto (pc := 44) (tgt := 81) C dX10_voice_44 (by decide) ?_
        refine r_sub (lv' := [(0, _)]) [0] rfl ?_
        exact v_X10_voice_81 (x := x) C r18 s17
    · refine r_aldn (pc := 17) C dX10_voice_17 0 rfl ?_
      refine r_ldc (pc := 18) (v := (-1000000001 : Int32)) C dX10_voice_18 wd_X10_voice_1 ?_
      refine k_X10_error (x := x) (pc := 20) (a1 := (-1000000001 : Int32)) C gX10_voice_X10_error (by omega)  (Nat.le_of_ble_eq_true rfl) dX10_voice_20 (fun r20 s19 => ?_)
      exact r_iret (pc := 23) C dX10_voice_23
set_option maxHeartbeats 4000000 in
set_option maxRecDepth 100000 in
theorem v_X10_when_78 {κ : oK} {x : oXp} (C : oC κ (oM x) 6 cX10_when RX10 wsX10_when 9 (some .int))  (a2 : Int32) (a3 : Int32) (a4 : Int32) (a5 : Int32) (σ : Sg) : oV κ (oM x) 6 (oQi κ (oM x)) σ 78 [(0, .ref (xa x 0)), (2, .int a2), (3, .int a3), (4, .int a4), (5, .int a5)] [] (f_X10_when_78   a2 a3 a4 a5 σ) := by
  unfold f_X10_when_78
  refine r_aldn (pc := 78) C dX10_when_78 0 rfl ?_
  refine gf_X10_0_0 (pc := 79) C hi_X10_when_X10 wd_X10_when_2 dX10_when_79 ?_
  refine r_iconst (pc := 82) (v := (0 : Int32)) C dX10_when_82 ic_0 ?_
  refine r_ildn (pc := 83) C dX10_when_83 2 rfl ?_
  refine iast_oM_1 (pc := 84) C dX10_when_84 (fun s1 => ?_)
  refine r_ild (pc := 85) C dX10_when_85 4 rfl ?_
  refine r_ifge (pc := 87) (tgt := 99) C dX10_when_87 (by decide) ?_ ?_
  · refine r_ildn (pc := 99) C dX10_when_99 1 rfl ?_
    refine r_ifne (pc := 100) (tgt := 108) C dX10_when_100 (by decide) ?_ ?_
    · refine r_ild (pc := 108) C dX10_when_108 4 rfl ?_
      exact r_iret (pc := 110) C dX10_when_110
    · refine r_ild (pc := 103) C dX10_when_103 3 rfl ?_
      refine r_goto (pc := 105) (tgt := 110) C dX10_when_105 (by decide) ?_
      exact r_iret (pc := 110) C dX10_when_110
  · refine r_aldn (pc := 90) C dX10_when_90 0 rfl ?_
    refine r_ldc (pc := 91) (v := (-1000000002 : Int32)) C dX10_when_91 wd_X10_when_3 ?_
    refine k_X10_error (x := x) (pc := 93) (a1 := (-1000000002 : Int32)) C gX10_when_X10_error (by omega)  (Nat.le_of_ble_eq_true rfl) dX10_when_93 (fun r3 s2 => ?_)
    refine r_goto (pc := 96) (tgt := 110) C dX10_when_96 (by decide) ?_
    exact r_iret (pc := 110) C dX10_when_110
set_option maxHeartbeats 4000000 in
set_option maxRecDepth 100000 in
theorem v_X10_when_43_b {κ : oK} {x : oXp} (C : oC κ (oM x) 6 cX10_when RX10 wsX10_when 9 (some .int))  (rec43 : Int32 → Int32 → Int32 → Int32 → Int32 → Sg → Option (Int32 × Sg)) (hrec43 : ∀ (a1 : Int32) (a2 : Int32) (a3 : Int32) (a4 : Int32) (a5 : Int32) (σ : Sg), oV κ (oM x) 6 (oQi κ (oM x)) σ 43 [(0, .ref (xa x 0)), (1, .int a1), (2, .int a2), (3, .int a3), (4, .int a4), (5, .int a5)] [] (rec43 a1 a2 a3 a4 a5 σ)) (a1 : Int32) (a2 : Int32) (a3 : Int32) (a4 : Int32) (a5 : Int32) (σ : Sg) : oV κ (oM x) 6 (oQi κ (oM x)) σ 43 [(0, .ref (xa x 0)), (1, .int a1), (2, .int a2), (3, .int a3), (4, .int a4), (5, .int a5)] [] (f_X10_when_43_b   rec43 a1 a2 a3 a4 a5 σ) := by
  unfold f_X10_when_43_b
  refine r_ild (pc := 43) C dX10_when_43 5 rfl ?_
  refine r_ifge (pc := 45) (tgt := 78) C dX10_when_45 (by decide) ?_ ?_
  · refine r_sub (lv' := [(0, _), (2, _), (3, _), (4, _), (5, _)]) [0, 2, 3, 4, 5] rfl ?_
    exact v_X10_when_78 (x := x) C a2 a3 a4 a5 σ
  · refine r_ild (pc := 48) C dX10_when_48 4 rfl ?_
    refine r_bipush (pc := 50) (v := (90 : Int32)) C dX10_when_50 bp_90 ?_
    refine r_icge (pc := 52) (tgt := 78) C dX10_when_52 (by decide) ?_ ?_
    · refine r_sub (lv' := [(0, _), (2, _), (3, _), (4, _), (5, _)]) [0, 2, 3, 4, 5] rfl ?_
      exact v_X10_when_78 (x := x) C a2 a3 a4 a5 σ
    · refine r_aldn (pc := 55) C dX10_when_55 0 rfl ?_
      refine gf_X10_0_0 (pc := 56) C hi_X10_when_X10 wd_X10_when_2 dX10_when_56 ?_
      refine r_iconst (pc := 59) (v := (0 : Int32)) C dX10_when_59 ic_0 ?_
      refine r_dup2 (pc := 60) C dX10_when_60 rfl rfl ?_
      refine iald_oM_1 (pc := 61) C dX10_when_61 ?_
      refine r_iconst (pc := 62) (v := (1 : Int32)) C dX10_when_62 ic_1 ?_
      refine r_iadd (pc := 63) C dX10_when_63 ?_
      refine iast_oM_1 (pc := 64) C dX10_when_64 (fun s4 => ?_)
      refine r_iinc (pc := 65) (v := (1 : Int32)) (lv1 := fun y => [(0, _), (1, _), (2, _), (3, _), (4, .int y)]) C dX10_when_65 ic_1 4 rfl (by decide) [1, 2, 3, 4, 0] (fun _ => rfl) (fun v5 => ?_)
      refine r_aldn (pc := 68) C dX10_when_68 0 rfl ?_
      refine r_ildn (pc := 69) C dX10_when_69 1 rfl ?_
      refine k_X10_roomAt (x := x) (pc := 70) (a1 := a1) C gX10_when_X10_roomAt (by omega)  (Nat.le_of_ble_eq_true rfl) dX10_when_70 (fun r7 s6 => ?_)
      refine r_ist (pc := 73) (lv' := [(0, _), (1, _), (2, _), (3, _), (4, _), (5, _)]) C dX10_when_73 (by decide) [1, 2, 3, 4, 5, 0] rfl ?_
      refine r_goto (pc := 75) (tgt := 43) C dX10_when_75 (by decide) ?_
      exact hrec43 a1 a2 a3 v5 r7 s6
theorem v_X10_when_43 {κ : oK} {x : oXp} (C : oC κ (oM x) 6 cX10_when RX10 wsX10_when 9 (some .int))  : ∀ (n : Nat) (a1 : Int32) (a2 : Int32) (a3 : Int32) (a4 : Int32) (a5 : Int32) (σ : Sg), oV κ (oM x) 6 (oQi κ (oM x)) σ 43 [(0, .ref (xa x 0)), (1, .int a1), (2, .int a2), (3, .int a3), (4, .int a4), (5, .int a5)] [] (f_X10_when_43   n a1 a2 a3 a4 a5 σ) := by
  intro n
  induction n with
  | zero => intros; exact r_none
  | succ n ih => exact v_X10_when_43_b C  _ ih
set_option maxHeartbeats 4000000 in
set_option maxRecDepth 100000 in
theorem m_X10_when (l : Launch) (x : oXp) (hI : oI (oM x)) (a1 : Int32) (a2 : Int32) (σ : Sg) : oMI l yX10_when wsX10_when 9 (oM x) [.ref (xa x 0), .int a1, .int a2] σ (f_X10_when  a1 a2 σ) := by
  refine oMI_of (nL := 6) (cc := cX10_when) hI (by decide +kernel) rfl (Nat.le_of_ble_eq_true rfl) ?_
  intro κ C
  have C : oC κ (oM x) 6 cX10_when RX10 wsX10_when 9 (some .int) := C
  unfold f_X10_when
  show oV κ (oM x) 6 (oQi κ (oM x)) σ 0 [(0, .ref (xa x 0)), (1, .int a1), (2, .int a2)] [] _
  refine r_ildn (pc := 0) C dX10_when_0 1 rfl ?_
  refine r_iconst (pc := 1) (v := (1 : Int32)) C dX10_when_1 ic_1 ?_
  refine r_bipush (pc := 2) (v := (12 : Int32)) C dX10_when_2 bp_12 ?_
  refine kS_X10_in (x := x) (pc := 4) (a0 := a1) (a1 := (1 : Int32)) (a2 := (12 : Int32)) C gX10_when_X10_in (by omega)  (Nat.le_of_ble_eq_true rfl) dX10_when_4 (fun r9 s8 => ?_)
  refine r_ifeq (pc := 7) (tgt := 19) C dX10_when_7 (by decide) ?_ ?_
  · refine r_aldn (pc := 19) C dX10_when_19 0 rfl ?_
    refine r_ldc (pc := 20) (v := (-1000000001 : Int32)) C dX10_when_20 wd_X10_when_1 ?_
    refine k_X10_error (x := x) (pc := 22) (a1 := (-1000000001 : Int32)) C gX10_when_X10_error (by omega)  (Nat.le_of_ble_eq_true rfl) dX10_when_22 (fun r11 s10 => ?_)
    exact r_iret (pc := 25) C dX10_when_25
  · refine r_ildn (pc := 10) C dX10_when_10 2 rfl ?_
    refine r_iconst (pc := 11) (v := (0 : Int32)) C dX10_when_11 ic_0 ?_
    refine r_iconst (pc := 12) (v := (1 : Int32)) C dX10_when_12 ic_1 ?_
    refine kS_X10_in (x := x) (pc := 13) (a0 := a2) (a1 := (0 : Int32)) (a2 := (1 : Int32)) C gX10_when_X10_in (by omega)  (Nat.le_of_ble_eq_true rfl) dX10_when_13 (fun r13 s12 => ?_)
    refine r_ifne (pc := 16) (tgt := 26) C dX10_when_16 (by decide) ?_ ?_
    · refine r_aldn (pc := 26) C dX10_when_26 0 rfl ?_
      refine gf_X10_0_0 (pc := 27) C hi_X10_when_X10 wd_X10_when_2 dX10_when_27 ?_
      refine r_iconst (pc := 30) (v := (0 : Int32)) C dX10_when_30 ic_0 ?_
      refine iald_oM_1 (pc := 31) C dX10_when_31 ?_
      refine r_nm (fun v14 => ?_)
      refine r_istn (pc := 32) (lv' := [(0, _), (1, _), (2, _), (3, _)]) C dX10_when_32 (by decide) [1, 2, 3, 0] rfl ?_
      refine r_iconst (pc := 33) (v := (0 : Int32)) C dX10_when_33 ic_0 ?_
      refine r_ist (pc := 34) (lv' := [(0, _), (1, _), (2, _), (3, _), (4, _)]) C dX10_when_34 (by decide) [1, 2, 3, 4, 0] rfl ?_
      refine r_aldn (pc := 36) C dX10_when_36 0 rfl ?_
      refine r_ildn (pc := 37) C dX10_when_37 1 rfl ?_
      refine k_X10_roomAt (x := x) (pc := 38) (a1 := a1) C gX10_when_X10_roomAt (by omega)  (Nat.le_of_ble_eq_true rfl) dX10_when_38 (fun r16 s15 => ?_)
      refine r_ist (pc := 41) (lv' := [(0, _), (1, _), (2, _), (3, _), (4, _), (5, _)]) C dX10_when_41 (by decide) [1, 2, 3, 4, 5, 0] rfl ?_
      exact v_X10_when_43 (x := x) C fuN a1 a2 v14 (0 : Int32) r16 s15
    · refine r_aldn (pc := 19) C dX10_when_19 0 rfl ?_
      refine r_ldc (pc := 20) (v := (-1000000001 : Int32)) C dX10_when_20 wd_X10_when_1 ?_
      refine k_X10_error (x := x) (pc := 22) (a1 := (-1000000001 : Int32)) C gX10_when_X10_error (by omega)  (Nat.le_of_ble_eq_true rfl) dX10_when_22 (fun r18 s17 => ?_)
      exact r_iret (pc := 25) C dX10_when_25
set_option maxHeartbeats 4000000 in
set_option maxRecDepth 100000 in
theorem m_X10_wipe (l : Launch) (x : oXp) (hI : oI (oM x)) (a1 : Int32) (σ : Sg) : oMI l yX10_wipe wsX10_wipe 8 (oM x) [.ref (xa x 0), .int a1] σ (f_X10_wipe  a1 σ) := by
  refine oMI_of (nL := 3) (cc := cX10_wipe) hI (by decide +kernel) rfl (Nat.le_of_ble_eq_true rfl) ?_
  intro κ C
  have C : oC κ (oM x) 3 cX10_wipe RX10 wsX10_wipe 8 (some .int) := C
  unfold f_X10_wipe
  show oV κ (oM x) 3 (oQi κ (oM x)) σ 0 [(0, .ref (xa x 0)), (1, .int a1)] [] _
  refine r_aldn (pc := 0) C dX10_wipe_0 0 rfl ?_
  refine r_ildn (pc := 1) C dX10_wipe_1 1 rfl ?_
  refine k_X10_isLine (x := x) (pc := 2) (a1 := a1) C gX10_wipe_X10_isLine (by omega)  (Nat.le_of_ble_eq_true rfl) dX10_wipe_2 (fun r2 s1 => ?_)
  refine r_ifne (pc := 5) (tgt := 15) C dX10_wipe_5 (by decide) ?_ ?_
  · refine r_aldn (pc := 15) C dX10_wipe_15 0 rfl ?_
    refine r_ildn (pc := 16) C dX10_wipe_16 1 rfl ?_
    refine k_X10_mayGo (x := x) (pc := 17) (a1 := a1) C gX10_wipe_X10_mayGo (by omega)  (Nat.le_of_ble_eq_true rfl) dX10_wipe_17 (fun r4 s3 => ?_)
    refine r_ifne (pc := 20) (tgt := 30) C dX10_wipe_20 (by decide) ?_ ?_
    · refine r_aldn (pc := 30) C dX10_wipe_30 0 rfl ?_
      refine r_ildn (pc := 31) C dX10_wipe_31 1 rfl ?_
      refine k_X10_lossOf (x := x) (pc := 32) (a1 := a1) C gX10_wipe_X10_lossOf (by omega)  (Nat.le_of_ble_eq_true rfl) dX10_wipe_32 (fun r6 s5 => ?_)
      refine r_istn (pc := 35) (lv' := [(0, _), (1, _), (2, _)]) C dX10_wipe_35 (by decide) [1, 2, 0] rfl ?_
      refine r_aldn (pc := 36) C dX10_wipe_36 0 rfl ?_
      refine r_ildn (pc := 37) C dX10_wipe_37 1 rfl ?_
      refine k_X10_isWiped (x := x) (pc := 38) (a1 := a1) C gX10_wipe_X10_isWiped (by omega)  (Nat.le_of_ble_eq_true rfl) dX10_wipe_38 (fun _ s7 => ?_)
      refine r_ildn (pc := 41) C dX10_wipe_41 2 rfl ?_
      exact r_iret (pc := 42) C dX10_wipe_42
    · refine r_aldn (pc := 23) C dX10_wipe_23 0 rfl ?_
      refine r_ldc (pc := 24) (v := (-1000000003 : Int32)) C dX10_wipe_24 wd_X10_wipe_2 ?_
      refine k_X10_error (x := x) (pc := 26) (a1 := (-1000000003 : Int32)) C gX10_wipe_X10_error (by omega)  (Nat.le_of_ble_eq_true rfl) dX10_wipe_26 (fun r10 s9 => ?_)
      exact r_iret (pc := 29) C dX10_wipe_29
  · refine r_aldn (pc := 8) C dX10_wipe_8 0 rfl ?_
    refine r_ldc (pc := 9) (v := (-1000000001 : Int32)) C dX10_wipe_9 wd_X10_wipe_1 ?_
    refine k_X10_error (x := x) (pc := 11) (a1 := (-1000000001 : Int32)) C gX10_wipe_X10_error (by omega)  (Nat.le_of_ble_eq_true rfl) dX10_wipe_11 (fun r12 s11 => ?_)
    exact r_iret (pc := 14) C dX10_wipe_14
set_option maxHeartbeats 4000000 in
set_option maxRecDepth 100000 in
theorem v_X10_write_41 {κ : oK} {x : oXp} (C : oC κ (oM x) 8 cX10_write RX10 wsX10_write 5 (some .int))  (a1 : Int32) (a2 : Int32) (a3 : Int32) (a4 : Int32) (t0 : Int32) (σ : Sg) : oV κ (oM x) 8 (oQi κ (oM x)) σ 41 [(0, .ref (xa x 0)), (1, .int a1), (2, .int a2), (3, .int a3), (4, .int a4)] [.int t0] (f_X10_write_41   a1 a2 a3 a4 t0 σ) := by
  unfold f_X10_write_41
  refine r_ist (pc := 41) (lv' := [(0, _), (1, _), (2, _), (3, _), (4, _), (5, _)]) C dX10_write_41 (by decide) [1, 2, 3, 4, 5, 0] rfl ?_
  refine r_ild (pc := 43) C dX10_write_43 5 rfl ?_
  refine r_ifeq (pc := 45) (tgt := 67) C dX10_write_45 (by decide) ?_ ?_
  · refine r_aldn (pc := 67) C dX10_write_67 0 rfl ?_
    refine r_ldc (pc := 68) (v := (-1000000001 : Int32)) C dX10_write_68 wd_X10_write_1 ?_
    refine k_X10_error (x := x) (pc := 70) (a1 := (-1000000001 : Int32)) C gX10_write_X10_error (by omega)  (Nat.le_of_ble_eq_true rfl) dX10_write_70 (fun r2 s1 => ?_)
    exact r_iret (pc := 73) C dX10_write_73
  · refine r_ildn (pc := 48) C dX10_write_48 3 rfl ?_
    refine r_iconst (pc := 49) (v := (0 : Int32)) C dX10_write_49 ic_0 ?_
    refine r_iconst (pc := 50) (v := (5 : Int32)) C dX10_write_50 ic_5 ?_
    refine kS_X10_in (x := x) (pc := 51) (a0 := a3) (a1 := (0 : Int32)) (a2 := (5 : Int32)) C gX10_write_X10_in (by omega)  (Nat.le_of_ble_eq_true rfl) dX10_write_51 (fun r4 s3 => ?_)
    refine r_ifeq (pc := 54) (tgt := 67) C dX10_write_54 (by decide) ?_ ?_
    · refine r_aldn (pc := 67) C dX10_write_67 0 rfl ?_
      refine r_ldc (pc := 68) (v := (-1000000001 : Int32)) C dX10_write_68 wd_X10_write_1 ?_
      refine k_X10_error (x := x) (pc := 70) (a1 := (-1000000001 : Int32)) C gX10_write_X10_error (by omega)  (Nat.le_of_ble_eq_true rfl) dX10_write_70 (fun r6 s5 => ?_)
      exact r_iret (pc := 73) C dX10_write_73
    · refine r_ild (pc := 57) C dX10_write_57 4 rfl ?_
      refine r_iconst (pc := 59) (v := (0 : Int32)) C dX10_write_59 ic_0 ?_
      refine r_iconst (pc := 60) (v := (4 : Int32)) C dX10_write_60 ic_4 ?_
      refine kS_X10_in (x := x) (pc := 61) (a0 := a4) (a1 := (0 : Int32)) (a2 := (4 : Int32)) C gX10_write_X10_in (by omega)  (Nat.le_of_ble_eq_true rfl) dX10_write_61 (fun r8 s7 => ?_)
      refine r_ifne (pc := 64) (tgt := 74) C dX10_write_64 (by decide) ?_ ?_
      · refine r_aldn (pc := 74) C dX10_write_74 0 rfl ?_
        refine gf_X10_0_0 (pc := 75) C hi_X10_write_X10 wd_X10_write_2 dX10_write_75 ?_
        refine r_iconst (pc := 78) (v := (2 : Int32)) C dX10_write_78 ic_2 ?_
        refine iald_oM_1 (pc := 79) C dX10_write_79 ?_
        refine r_bipush (pc := 80) (v := (10 : Int32)) C dX10_write_80 bp_10 ?_
        refine r_icne (pc := 82) (tgt := 92) C dX10_write_82 (by decide) ?_ ?_
        · refine r_ildn (pc := 92) C dX10_write_92 2 rfl ?_
          refine r_bipush (pc := 93) (v := (100 : Int32)) C dX10_write_93 bp_100 ?_
          refine r_irem (pc := 95) C dX10_write_95 (by decide) ?_
          refine r_nm (fun v9 => ?_)
          refine r_ist (pc := 96) (lv' := [(0, _), (1, _), (2, _), (3, _), (4, _), (6, _)]) C dX10_write_96 (by decide) [1, 2, 3, 4, 5, 0] rfl ?_
          refine r_ildn (pc := 98) C dX10_write_98 2 rfl ?_
          refine r_bipush (pc := 99) (v := (100 : Int32)) C dX10_write_99 bp_100 ?_
          refine r_idiv (pc := 101) C dX10_write_101 (by decide) ?_
          refine r_ild (pc := 102) C dX10_write_102 5 rfl ?_
          refine kS_X10_window (x := x) (pc := 104) (a0 := (a2 / (100 : Int32))) (a1 := v9) C gX10_write_X10_window (by omega)  (Nat.le_of_ble_eq_true rfl) dX10_write_104 (fun r11 s10 => ?_)
          refine r_ist (pc := 107) (lv' := [(0, _), (1, _), (3, _), (4, _), (6, _), (7, _)]) C dX10_write_107 (by decide) [1, 2, 4, 5, 6, 0] rfl ?_
          refine r_ild (pc := 109) C dX10_write_109 5 rfl ?_
          refine r_aldn (pc := 111) C dX10_write_111 0 rfl ?_
          refine r_iconst (pc := 112) (v := (-1 : Int32)) C dX10_write_112 ic_m1 ?_
          refine k_X10_takenBy (x := x) (pc := 113) (a1 := (-1 : Int32)) C gX10_write_X10_takenBy (by omega)  (Nat.le_of_ble_eq_true rfl) dX10_write_113 (fun r13 s12 => ?_)
          refine r_iand (pc := 116) C dX10_write_116 ?_
          refine r_ifne (pc := 117) (tgt := 135) C dX10_write_117 (by decide) ?_ ?_
          · refine r_aldn (pc := 135) C dX10_write_135 0 rfl ?_
            refine r_ldc (pc := 136) (v := (-1000000003 : Int32)) C dX10_write_136 wd_X10_write_4 ?_
            refine k_X10_error (x := x) (pc := 138) (a1 := (-1000000003 : Int32)) C gX10_write_X10_error (by omega)  (Nat.le_of_ble_eq_true rfl) dX10_write_138 (fun r15 s14 => ?_)
            exact r_iret (pc := 141) C dX10_write_141
          · refine r_aldn (pc := 120) C dX10_write_120 0 rfl ?_
            refine gf_X10_0_0 (pc := 121) C hi_X10_write_X10 wd_X10_write_2 dX10_write_121 ?_
            refine r_bipush (pc := 124) (v := (7 : Int32)) C dX10_write_124 bp_7 ?_
            refine r_ild (pc := 126) C dX10_write_126 3 rfl ?_
            refine r_iadd (pc := 128) C dX10_write_128 ?_
            refine iald_oM_1 (pc := 129) C dX10_write_129 ?_
            refine r_ild (pc := 130) C dX10_write_130 4 rfl ?_
            refine r_icge (pc := 132) (tgt := 142) C dX10_write_132 (by decide) ?_ ?_
            · refine r_aldn (pc := 142) C dX10_write_142 0 rfl ?_
              refine gf_X10_0_0 (pc := 143) C hi_X10_write_X10 wd_X10_write_2 dX10_write_143 ?_
              refine r_bipush (pc := 146) (v := (7 : Int32)) C dX10_write_146 bp_7 ?_
              refine r_ild (pc := 148) C dX10_write_148 3 rfl ?_
              refine r_iadd (pc := 150) C dX10_write_150 ?_
              refine r_dup2 (pc := 151) C dX10_write_151 rfl rfl ?_
              refine iald_oM_1 (pc := 152) C dX10_write_152 ?_
              refine r_ild (pc := 153) C dX10_write_153 4 rfl ?_
              refine r_isub (pc := 155) C dX10_write_155 ?_
              refine iast_oM_1 (pc := 156) C dX10_write_156 (fun s16 => ?_)
              refine r_aldn (pc := 157) C dX10_write_157 0 rfl ?_
              refine r_ildn (pc := 158) C dX10_write_158 1 rfl ?_
              refine r_ild (pc := 159) C dX10_write_159 5 rfl ?_
              refine r_ildn (pc := 161) C dX10_write_161 2 rfl ?_
              refine k_X10_comes (x := x) (pc := 162) (a1 := a1) (a2 := r11) (a3 := a3) C gX10_write_X10_comes (by omega)  (Nat.le_of_ble_eq_true rfl) dX10_write_162 (fun r18 s17 => ?_)
              exact r_iret (pc := 165) C dX10_write_165
            · refine r_aldn (pc := 135) C dX10_write_135 0 rfl ?_
              refine r_ldc (pc := 136) (v := (-1000000003 : Int32)) C dX10_write_136 wd_X10_write_4 ?_
              refine k_X10_error (x := x) (pc := 138) (a1 := (-1000000003 : Int32)) C gX10_write_X10_error (by omega)  (Nat.le_of_ble_eq_true rfl) dX10_write_138 (fun r20 s19 => ?_)
              exact r_iret (pc := 141) C dX10_write_141
        · refine r_aldn (pc := 85) C dX10_write_85 0 rfl ?_
          refine r_ldc (pc := 86) (v := (-1000000004 : Int32)) C dX10_write_86 wd_X10_write_3 ?_
          refine k_X10_error (x := x) (pc := 88) (a1 := (-1000000004 : Int32)) C gX10_write_X10_error (by omega)  (Nat.le_of_ble_eq_true rfl) dX10_write_88 (fun r22 s21 => ?_)
          exact r_iret (pc := 91) C dX10_write_91
      · refine r_aldn (pc := 67) C dX10_write_67 0 rfl ?_
        refine r_ldc (pc := 68) (v := (-1000000001 : Int32)) C dX10_write_68 wd_X10_write_1 ?_
        refine k_X10_error (x := x) (pc := 70) (a1 := (-1000000001 : Int32)) C gX10_write_X10_error (by omega)  (Nat.le_of_ble_eq_true rfl) dX10_write_70 (fun r24 s23 => ?_)
        exact r_iret (pc := 73) C dX10_write_73
set_option maxHeartbeats 4000000 in
set_option maxRecDepth 100000 in
theorem m_X10_write (l : Launch) (x : oXp) (hI : oI (oM x)) (a1 : Int32) (a2 : Int32) (a3 : Int32) (a4 : Int32) (σ : Sg) : oMI l yX10_write wsX10_write 5 (oM x) [.ref (xa x 0), .int a1, .int a2, .int a3, .int a4] σ (f_X10_write  a1 a2 a3 a4 σ) := by
  refine oMI_of (nL := 8) (cc := cX10_write) hI (by decide +kernel) rfl (Nat.le_of_ble_eq_true rfl) ?_
  intro κ C
  have C : oC κ (oM x) 8 cX10_write RX10 wsX10_write 5 (some .int) := C
  unfold f_X10_write
  show oV κ (oM x) 8 (oQi κ (oM x)) σ 0 [(0, .ref (xa x 0)), (1, .int a1), (2, .int a2), (3, .int a3), (4, .int a4)] [] _
  refine r_ildn (pc := 0) C dX10_write_0 1 rfl ?_
  refine kS_X10_isKm (x := x) (pc := 1) (a0 := a1) C gX10_write_X10_isKm (by omega)  (Nat.le_of_ble_eq_true rfl) dX10_write_1 (fun r26 s25 => ?_)
  refine r_ifeq (pc := 4) (tgt := 40) C dX10_write_4 (by decide) ?_ ?_
  · refine r_iconst (pc := 40) (v := (0 : Int32)) C dX10_write_40 ic_0 ?_
    exact v_X10_write_41 (x := x) C a1 a2 a3 a4 (0 : Int32) s25
  · refine r_ildn (pc := 7) C dX10_write_7 2 rfl ?_
    refine r_iconst (pc := 8) (v := (1 : Int32)) C dX10_write_8 ic_1 ?_
    refine r_sipush (pc := 9) (v := (1199 : Int32)) C dX10_write_9 sp_1199 ?_
    refine kS_X10_in (x := x) (pc := 12) (a0 := a2) (a1 := (1 : Int32)) (a2 := (1199 : Int32)) C gX10_write_X10_in (by omega)  (Nat.le_of_ble_eq_true rfl) dX10_write_12 (fun r28 s27 => ?_)
    refine r_ifeq (pc := 15) (tgt := 40) C dX10_write_15 (by decide) ?_ ?_
    · refine r_iconst (pc := 40) (v := (0 : Int32)) C dX10_write_40 ic_0 ?_
      exact v_X10_write_41 (x := x) C a1 a2 a3 a4 (0 : Int32) s27
    · refine r_ildn (pc := 18) C dX10_write_18 2 rfl ?_
      refine r_bipush (pc := 19) (v := (100 : Int32)) C dX10_write_19 bp_100 ?_
      refine r_irem (pc := 21) C dX10_write_21 (by decide) ?_
      refine r_iconst (pc := 22) (v := (1 : Int32)) C dX10_write_22 ic_1 ?_
      refine r_bipush (pc := 23) (v := (12 : Int32)) C dX10_write_23 bp_12 ?_
      refine r_ildn (pc := 25) C dX10_write_25 2 rfl ?_
      refine r_bipush (pc := 26) (v := (100 : Int32)) C dX10_write_26 bp_100 ?_
      refine r_idiv (pc := 28) C dX10_write_28 (by decide) ?_
      refine r_isub (pc := 29) C dX10_write_29 ?_
      refine kS_X10_in (x := x) (pc := 30) (a0 := (irm a2 (100 : Int32))) (a1 := (1 : Int32)) (a2 := ((12 : Int32) - (a2 / (100 : Int32)))) C gX10_write_X10_in (by omega)  (Nat.le_of_ble_eq_true rfl) dX10_write_30 (fun r30 s29 => ?_)
      refine r_ifeq (pc := 33) (tgt := 40) C dX10_write_33 (by decide) ?_ ?_
      · refine r_iconst (pc := 40) (v := (0 : Int32)) C dX10_write_40 ic_0 ?_
        exact v_X10_write_41 (x := x) C a1 a2 a3 a4 (0 : Int32) s29
      · refine r_iconst (pc := 36) (v := (1 : Int32)) C dX10_write_36 ic_1 ?_
        refine r_goto (pc := 37) (tgt := 41) C dX10_write_37 (by decide) ?_
        exact v_X10_write_41 (x := x) C a1 a2 a3 a4 (1 : Int32) s29
set_option maxHeartbeats 4000000 in
set_option maxRecDepth 100000 in
theorem m_X1_take (l : Launch) (x : oXp) (hI : oI (oX x)) (o0 : Nat) (o1 : Nat) (h1_o0 : 40 ≤ o0) (h2_o0 : o0 < 44) (h1_o1 : 44 ≤ o1) (h2_o1 : o1 < 62) (σ : Sg) : oMV l yX1_take wsX1_take 5 (oX x) [.ref (xa x o0), .ref (xa x o1)] σ (f_X1_take  o0 o1 σ) := by
  refine oMV_of (nL := 2) (cc := cX1_take) hI (by decide +kernel) rfl (Nat.le_of_ble_eq_true rfl) ?_
  intro κ C
  have C : oC κ (oX x) 2 cX1_take RX1 wsX1_take 5 none := C
  unfold f_X1_take
  show oV κ (oX x) 2 (oQv κ (oX x)) σ 0 [(0, .ref (xa x o0)), (1, .ref (xa x o1))] [] _
  refine r_aldn (pc := 0) C dX1_take_0 0 rfl ?_
  refine gf_X1_1 (pc := 1) C (o := o0) (by omega) (by omega) hi_X1_take_X1 wd_X1_take_1 dX1_take_1 ?_
  refine r_aldn (pc := 4) C dX1_take_4 1 rfl ?_
  refine k_X6_copyFrom (x := x) (pc := 5) (o0 := (o0 + 8)) (o1 := o1) C gX1_take_X6_copyFrom (by omega) (by omega) (by omega) (by omega) (by omega) (Nat.le_of_ble_eq_true rfl) dX1_take_5 (fun _ s1 => ?_)
  refine r_aldn (pc := 8) C dX1_take_8 0 rfl ?_
  refine r_iconst (pc := 9) (v := (1 : Int32)) C dX1_take_9 ic_1 ?_
  refine pf_X1_0 (pc := 10) C (o := o0) (by omega) (by omega) hi_X1_take_X1 wd_X1_take_2 (isb_nar (by decide)) dX1_take_10 (fun s3 => ?_)
  exact r_vret (pc := 13) C dX1_take_13
theorem k_X1_take {κ : oK} {nL : Nat} {cc : ByteArray} {own : String} {Ts : List Cond} {n : Nat} {ret : Option FieldType} {α : Type} {Q : α → Sg → State → Prop} {σ : Sg} {pc : Nat} {lv : List (Nat × Value)} {st : List Value} {x : oXp} {idx : Nat} {o0 : Nat} {o1 : Nat} {K : Unit → Sg → Option (α × Sg)} (C : oC κ (oX x) nL cc own Ts n ret) (hG : GoodIn Ts (wsV own idx RX1 yX1_take wsX1_take)) (hn : 5 + 1 ≤ n) (h1_o0 : 40 ≤ o0) (h2_o0 : o0 < 44) (h1_o1 : 44 ≤ o1) (h2_o1 : o1 < 62) (hst : (st.map fun v => v.category).sum ≤ 8) (hd : decode cc pc = .ok (.invokevirtual idx, 3)) (kk : ∀ (r1 : Unit) (σ1 : Sg), oV κ (oX x) nL Q σ1 (pc + 3) lv (st) (K r1 σ1)) : oV κ (oX x) nL Q σ pc lv (.ref (xa x o1) :: .ref (xa x o0) :: st) (bnd (f_X1_take o0 o1 σ) K) := by
  have hI : oI (oX x) := oC_I C
  exact r_cVv (As := [.ref (xa x o1)]) (na := 1) (j := o0) (ci := 1) C (fun l => m_X1_take l x hI o0 o1 h1_o0 h2_o0 h1_o1 h2_o1 σ) hG rfl (by decide +kernel) rfl (by decide) hn (by show o0 < 80; omega) rfl (eX1 x h1_o0 h2_o0 _) rfl rfl hst hd kk
set_option maxHeartbeats 4000000 in
set_option maxRecDepth 100000 in
theorem m_X9_columnsFrom (l : Launch) (x : oXp) (hI : oI (oX x)) (a0 : Int32) (a1 : Int32) (σ : Sg) : oMI l yX9_columnsFrom wsX9_columnsFrom 3 (oX x) [.int a0, .int a1] σ (f_X9_columnsFrom  a0 a1 σ) := by
  refine oMI_of (nL := 2) (cc := cX9_columnsFrom) hI (by decide +kernel) rfl (Nat.le_of_ble_eq_true rfl) ?_
  intro κ C
  have C : oC κ (oX x) 2 cX9_columnsFrom RX9 wsX9_columnsFrom 3 (some .int) := C
  unfold f_X9_columnsFrom
  show oV κ (oX x) 2 (oQi κ (oX x)) σ 0 [(0, .int a0), (1, .int a1)] [] _
  refine r_iconst (pc := 0) (v := (1 : Int32)) C dX9_columnsFrom_0 ic_1 ?_
  refine r_ildn (pc := 1) C dX9_columnsFrom_1 1 rfl ?_
  refine r_ishl (pc := 2) C dX9_columnsFrom_2 ?_
  refine r_iconst (pc := 3) (v := (1 : Int32)) C dX9_columnsFrom_3 ic_1 ?_
  refine r_isub (pc := 4) C dX9_columnsFrom_4 ?_
  refine r_ildn (pc := 5) C dX9_columnsFrom_5 0 rfl ?_
  refine r_ishl (pc := 6) C dX9_columnsFrom_6 ?_
  exact r_iret (pc := 7) C dX9_columnsFrom_7
theorem kN_X9_columnsFrom {κ : oK} {nL : Nat} {cc : ByteArray} {own : String} {Ts : List Cond} {n : Nat} {ret : Option FieldType} {α : Type} {Q : α → Sg → State → Prop} {σ : Sg} {pc : Nat} {lv : List (Nat × Value)} {st : List Value} {x : oXp} {idx : Nat} {a0 : Int32} {a1 : Int32} {K : Int32 → Sg → Option (α × Sg)} (C : oC κ (oX x) nL cc own Ts n ret) (hG : GoodIn Ts wsX9_columnsFrom) {host : String} (w1 : Cond.methodLinkNest own idx yX9_columnsFrom host ∈ oNw) (w2 : Cond.initialized RX9 ∈ Ts) (w3 : Cond.static yX9_columnsFrom ∈ Ts) (hn : 3 + 1 ≤ n) (hst : (st.map fun v => v.category).sum ≤ 8) (hd : decode cc pc = .ok (.invokestatic idx, 3)) (kk : ∀ (r1 : Int32) (σ1 : Sg), oV κ (oX x) nL Q σ1 (pc + 3) lv (.int r1 :: st) (K r1 σ1)) : oV κ (oX x) nL Q σ pc lv (.int a1 :: .int a0 :: st) (bnd (f_X9_columnsFrom a0 a1 σ) K) := by
  have hI : oI (oX x) := oC_I C
  exact r_cNi (As := [.int a0, .int a1]) (na := 2) C (fun l => m_X9_columnsFrom l x hI a0 a1 σ) hG w1 w2 w3 rfl (by decide +kernel) rfl (by decide) hn hst hd kk
theorem kS_X9_columnsFrom {κ : oK} {nL : Nat} {cc : ByteArray} {own : String} {Ts : List Cond} {n : Nat} {ret : Option FieldType} {α : Type} {Q : α → Sg → State → Prop} {σ : Sg} {pc : Nat} {lv : List (Nat × Value)} {st : List Value} {x : oXp} {idx : Nat} {a0 : Int32} {a1 : Int32} {K : Int32 → Sg → Option (α × Sg)} (C : oC κ (oX x) nL cc own Ts n ret) (hG : GoodIn Ts (va_wsS own idx yX9_columnsFrom wsX9_columnsFrom)) (hn : 3 + 1 ≤ n) (hst : (st.map fun v => v.category).sum ≤ 8) (hd : decode cc pc = .ok (.invokestatic idx, 3)) (kk : ∀ (r1 : Int32) (σ1 : Sg), oV κ (oX x) nL Q σ1 (pc + 3) lv (.int r1 :: st) (K r1 σ1)) : oV κ (oX x) nL Q σ pc lv (.int a1 :: .int a0 :: st) (bnd (f_X9_columnsFrom a0 a1 σ) K) := by
  have hI : oI (oX x) := oC_I C
  exact r_cSi (As := [.int a0, .int a1]) (na := 2) C (fun l => m_X9_columnsFrom l x hI a0 a1 σ) hG rfl (by decide +kernel) rfl (by decide) hn hst hd kk
set_option maxHeartbeats 4000000 in
set_option maxRecDepth 100000 in
theorem v_X9_freeEnd_2_b {κ : oK} {x : oXp} (C : oC κ (oX x) 4 cX9_freeEnd RX9 wsX9_freeEnd 4 (some .int))  (rec2 : Int32 → Int32 → Int32 → Sg → Option (Int32 × Sg)) (hrec2 : ∀ (a0 : Int32) (a2 : Int32) (a3 : Int32) (σ : Sg), oV κ (oX x) 4 (oQi κ (oX x)) σ 2 [(0, .int a0), (2, .int a2), (3, .int a3)] [] (rec2 a0 a2 a3 σ)) (a0 : Int32) (a2 : Int32) (a3 : Int32) (σ : Sg) : oV κ (oX x) 4 (oQi κ (oX x)) σ 2 [(0, .int a0), (2, .int a2), (3, .int a3)] [] (f_X9_freeEnd_2_b   rec2 a0 a2 a3 σ) := by
  unfold f_X9_freeEnd_2_b
  refine r_ildn (pc := 2) C dX9_freeEnd_2 2 rfl ?_
  refine r_ildn (pc := 3) C dX9_freeEnd_3 1 rfl ?_
  refine r_iadd (pc := 4) C dX9_freeEnd_4 ?_
  refine r_bipush (pc := 5) (v := (12 : Int32)) C dX9_freeEnd_5 bp_12 ?_
  refine r_icgt (pc := 7) (tgt := 30) C dX9_freeEnd_7 (by decide) ?_ ?_
  · refine r_ldcw (pc := 30) (v := (1000000 : Int32)) C dX9_freeEnd_30 wd_X9_freeEnd_1 ?_
    exact r_iret (pc := 33) C dX9_freeEnd_33
  · refine r_ildn (pc := 10) C dX9_freeEnd_10 0 rfl ?_
    refine r_ildn (pc := 11) C dX9_freeEnd_11 2 rfl ?_
    refine r_ildn (pc := 12) C dX9_freeEnd_12 1 rfl ?_
    refine kS_X9_columnsFrom (x := x) (pc := 13) (a0 := a3) (a1 := a2) C gX9_freeEnd_X9_columnsFrom (by omega)  (Nat.le_of_ble_eq_true rfl) dX9_freeEnd_13 (fun r2 s1 => ?_)
    refine r_iand (pc := 16) C dX9_freeEnd_16 ?_
    refine r_ifne (pc := 17) (tgt := 24) C dX9_freeEnd_17 (by decide) ?_ ?_
    · refine r_iinc (pc := 24) (v := (1 : Int32)) (lv1 := fun y => [(0, _), (2, _), (3, .int y)]) C dX9_freeEnd_24 ic_1 2 rfl (by decide) [1, 2, 0] (fun _ => rfl) (fun v3 => ?_)
      refine r_goto (pc := 27) (tgt := 2) C dX9_freeEnd_27 (by decide) ?_
      exact hrec2 a0 a2 v3 s1
    · refine r_ildn (pc := 20) C dX9_freeEnd_20 2 rfl ?_
      refine r_ildn (pc := 21) C dX9_freeEnd_21 1 rfl ?_
      refine r_iadd (pc := 22) C dX9_freeEnd_22 ?_
      exact r_iret (pc := 23) C dX9_freeEnd_23
theorem v_X9_freeEnd_2 {κ : oK} {x : oXp} (C : oC κ (oX x) 4 cX9_freeEnd RX9 wsX9_freeEnd 4 (some .int))  : ∀ (n : Nat) (a0 : Int32) (a2 : Int32) (a3 : Int32) (σ : Sg), oV κ (oX x) 4 (oQi κ (oX x)) σ 2 [(0, .int a0), (2, .int a2), (3, .int a3)] [] (f_X9_freeEnd_2   n a0 a2 a3 σ) := by
  intro n
  induction n with
  | zero => intros; exact r_none
  | succ n ih => exact v_X9_freeEnd_2_b C  _ ih
set_option maxHeartbeats 4000000 in
set_option maxRecDepth 100000 in
theorem m_X9_freeEnd (l : Launch) (x : oXp) (hI : oI (oX x)) (a0 : Int32) (a1 : Int32) (a2 : Int32) (σ : Sg) : oMI l yX9_freeEnd wsX9_freeEnd 4 (oX x) [.int a0, .int a1, .int a2] σ (f_X9_freeEnd  a0 a1 a2 σ) := by
  refine oMI_of (nL := 4) (cc := cX9_freeEnd) hI (by decide +kernel) rfl (Nat.le_of_ble_eq_true rfl) ?_
  intro κ C
  have C : oC κ (oX x) 4 cX9_freeEnd RX9 wsX9_freeEnd 4 (some .int) := C
  unfold f_X9_freeEnd
  show oV κ (oX x) 4 (oQi κ (oX x)) σ 0 [(0, .int a0), (1, .int a1), (2, .int a2)] [] _
  refine r_ildn (pc := 0) C dX9_freeEnd_0 1 rfl ?_
  refine r_istn (pc := 1) (lv' := [(0, _), (2, _), (3, _)]) C dX9_freeEnd_1 (by decide) [1, 3, 0] rfl ?_
  exact v_X9_freeEnd_2 (x := x) C fuN a0 a2 a1 σ
theorem kN_X9_freeEnd {κ : oK} {nL : Nat} {cc : ByteArray} {own : String} {Ts : List Cond} {n : Nat} {ret : Option FieldType} {α : Type} {Q : α → Sg → State → Prop} {σ : Sg} {pc : Nat} {lv : List (Nat × Value)} {st : List Value} {x : oXp} {idx : Nat} {a0 : Int32} {a1 : Int32} {a2 : Int32} {K : Int32 → Sg → Option (α × Sg)} (C : oC κ (oX x) nL cc own Ts n ret) (hG : GoodIn Ts wsX9_freeEnd) {host : String} (w1 : Cond.methodLinkNest own idx yX9_freeEnd host ∈ oNw) (w2 : Cond.initialized RX9 ∈ Ts) (w3 : Cond.static yX9_freeEnd ∈ Ts) (hn : 4 + 1 ≤ n) (hst : (st.map fun v => v.category).sum ≤ 8) (hd : decode cc pc = .ok (.invokestatic idx, 3)) (kk : ∀ (r1 : Int32) (σ1 : Sg), oV κ (oX x) nL Q σ1 (pc + 3) lv (.int r1 :: st) (K r1 σ1)) : oV κ (oX x) nL Q σ pc lv (.int a2 :: .int a1 :: .int a0 :: st) (bnd (f_X9_freeEnd a0 a1 a2 σ) K) := by
  have hI : oI (oX x) := oC_I C
  exact r_cNi (As := [.int a0, .int a1, .int a2]) (na := 3) C (fun l => m_X9_freeEnd l x hI a0 a1 a2 σ) hG w1 w2 w3 rfl (by decide +kernel) rfl (by decide) hn hst hd kk
theorem kS_X9_freeEnd {κ : oK} {nL : Nat} {cc : ByteArray} {own : String} {Ts : List Cond} {n : Nat} {ret : Option FieldType} {α : Type} {Q : α → Sg → State → Prop} {σ : Sg} {pc : Nat} {lv : List (Nat × Value)} {st : List Value} {x : oXp} {idx : Nat} {a0 : Int32} {a1 : Int32} {a2 : Int32} {K : Int32 → Sg → Option (α × Sg)} (C : oC κ (oX x) nL cc own Ts n ret) (hG : GoodIn Ts (va_wsS own idx yX9_freeEnd wsX9_freeEnd)) (hn : 4 + 1 ≤ n) (hst : (st.map fun v => v.category).sum ≤ 8) (hd : decode cc pc = .ok (.invokestatic idx, 3)) (kk : ∀ (r1 : Int32) (σ1 : Sg), oV κ (oX x) nL Q σ1 (pc + 3) lv (.int r1 :: st) (K r1 σ1)) : oV κ (oX x) nL Q σ pc lv (.int a2 :: .int a1 :: .int a0 :: st) (bnd (f_X9_freeEnd a0 a1 a2 σ) K) := by
  have hI : oI (oX x) := oC_I C
  exact r_cSi (As := [.int a0, .int a1, .int a2]) (na := 3) C (fun l => m_X9_freeEnd l x hI a0 a1 a2 σ) hG rfl (by decide +kernel) rfl (by decide) hn hst hd kk
set_option maxHeartbeats 4000000 in
set_option maxRecDepth 100000 in
theorem v_X3_leastEnd_7_b {κ : oK} {x : oXp} (C : oC κ (oX x) 7 cX3_leastEnd RX3 wsX3_leastEnd 5 (some .int))  (rec7 : Nat → Int32 → Int32 → Int32 → Int32 → Sg → Option (Int32 × Sg)) (hrec7 : ∀ (o1 : Nat) (a2 : Int32) (a3 : Int32) (a4 : Int32) (a5 : Int32) (h1_o1 : 44 ≤ o1) (h2_o1 : o1 < 62) (σ : Sg), oV κ (oX x) 7 (oQi κ (oX x)) σ 7 [(0, .ref (xa x 5)), (1, .ref (xa x o1)), (2, .int a2), (3, .int a3), (4, .int a4), (5, .int a5)] [] (rec7 o1 a2 a3 a4 a5 σ)) (o1 : Nat) (a2 : Int32) (a3 : Int32) (a4 : Int32) (a5 : Int32) (h1_o1 : 44 ≤ o1) (h2_o1 : o1 < 62) (σ : Sg) : oV κ (oX x) 7 (oQi κ (oX x)) σ 7 [(0, .ref (xa x 5)), (1, .ref (xa x o1)), (2, .int a2), (3, .int a3), (4, .int a4), (5, .int a5)] [] (f_X3_leastEnd_7_b   rec7 o1 a2 a3 a4 a5 σ) := by
  unfold f_X3_leastEnd_7_b
  refine r_ild (pc := 7) C dX3_leastEnd_7 5 rfl ?_
  refine r_bipush (pc := 9) (v := (6 : Int32)) C dX3_leastEnd_9 bp_6 ?_
  refine r_icge (pc := 11) (tgt := 71) C dX3_leastEnd_11 (by decide) ?_ ?_
  · refine r_ild (pc := 71) C dX3_leastEnd_71 4 rfl ?_
    exact r_iret (pc := 73) C dX3_leastEnd_73
  · refine r_ild (pc := 14) C dX3_leastEnd_14 5 rfl ?_
    refine r_aldn (pc := 16) C dX3_leastEnd_16 1 rfl ?_
    refine gfN_X6_1 (pc := 17) C (o := o1) (by omega) (by omega) hi_X3_leastEnd_X6 nw_4 dX3_leastEnd_17 ?_
    refine r_icge (pc := 20) (tgt := 71) C dX3_leastEnd_20 (by decide) ?_ ?_
    · refine r_ild (pc := 71) C dX3_leastEnd_71 4 rfl ?_
      exact r_iret (pc := 73) C dX3_leastEnd_73
    · refine r_ild (pc := 23) C dX3_leastEnd_23 5 rfl ?_
      refine r_ildn (pc := 25) C dX3_leastEnd_25 3 rfl ?_
      refine kN_X9_isOf (x := x) (pc := 26) (a0 := a5) (a1 := a3) C gX3_leastEnd_X9_isOf_n41 nw_53 wd_X3_leastEnd_8 wd_X3_leastEnd_7 (by omega)  (Nat.le_of_ble_eq_true rfl) dX3_leastEnd_26 (fun r2 s1 => ?_)
      refine r_ifeq (pc := 29) (tgt := 65) C dX3_leastEnd_29 (by decide) ?_ ?_
      · refine r_iinc (pc := 65) (v := (1 : Int32)) (lv1 := fun y => [(0, _), (1, _), (2, _), (3, _), (4, _), (5, .int y)]) C dX3_leastEnd_65 ic_1 5 rfl (by decide) [1, 2, 3, 4, 5, 0] (fun _ => rfl) (fun v3 => ?_)
        refine r_goto (pc := 68) (tgt := 7) C dX3_leastEnd_68 (by decide) ?_
        exact hrec7 o1 a2 a3 a4 v3 (by omega) (by omega) s1
      · refine r_aldn (pc := 32) C dX3_leastEnd_32 0 rfl ?_
        refine gf_X3_0_5 (pc := 33) C hi_X3_leastEnd_X3 wd_X3_leastEnd_2 dX3_leastEnd_33 ?_
        refine r_ildn (pc := 36) C dX3_leastEnd_36 3 rfl ?_
        refine r_iconst (pc := 37) (v := (1 : Int32)) C dX3_leastEnd_37 ic_1 ?_
        refine r_ild (pc := 38) C dX3_leastEnd_38 5 rfl ?_
        refine r_ishl (pc := 40) C dX3_leastEnd_40 ?_
        refine r_ixor (pc := 41) C dX3_leastEnd_41 ?_
        refine iald_oX_9 (pc := 42) C dX3_leastEnd_42 ?_
        refine r_nm (fun v4 => ?_)
        refine r_ist (pc := 43) (lv' := [(0, _), (1, _), (2, _), (3, _), (4, _), (5, _), (6, _)]) C dX3_leastEnd_43 (by decide) [1, 2, 3, 4, 5, 6, 0] rfl ?_
        refine r_ild (pc := 45) C dX3_leastEnd_45 4 rfl ?_
        refine r_ildn (pc := 47) C dX3_leastEnd_47 2 rfl ?_
        refine r_ild (pc := 48) C dX3_leastEnd_48 6 rfl ?_
        refine r_aldn (pc := 50) C dX3_leastEnd_50 1 rfl ?_
        refine gfN_X6_0 (pc := 51) C (o := o1) (by omega) (by omega) hi_X3_leastEnd_X6 nw_0 dX3_leastEnd_51 ?_
        refine r_ild (pc := 54) C dX3_leastEnd_54 5 rfl ?_
        refine iald_oX_cells (pc := 56) C (o := (o1 + 18)) (by omega) (by omega) dX3_leastEnd_56 ?_
        refine kN_X9_freeEnd (x := x) (pc := 57) (a0 := a2) (a1 := v4) (a2 := (rd (s1 (o1 + 18)) a5)) C gX3_leastEnd_X9_freeEnd_n48 nw_54 wd_X3_leastEnd_8 wd_X3_leastEnd_10 (by omega)  (Nat.le_of_ble_eq_true rfl) dX3_leastEnd_57 (fun r6 s5 => ?_)
        refine r_mn (pc := 60) C wd_X3_leastEnd_3 wd_X3_leastEnd_4 wd_X3_leastEnd_5 wd_X3_leastEnd_6 (by omega) (Nat.le_of_ble_eq_true rfl) dX3_leastEnd_60 ?_
        refine r_nm (fun v7 => ?_)
        refine r_ist (pc := 63) (lv' := [(0, _), (1, _), (2, _), (3, _), (4, _), (5, _)]) C dX3_leastEnd_63 (by decide) [1, 2, 3, 4, 0, 5] rfl ?_
        refine r_iinc (pc := 65) (v := (1 : Int32)) (lv1 := fun y => [(0, _), (1, _), (2, _), (3, _), (4, _), (5, .int y)]) C dX3_leastEnd_65 ic_1 5 rfl (by decide) [1, 2, 3, 4, 5, 0] (fun _ => rfl) (fun v8 => ?_)
        refine r_goto (pc := 68) (tgt := 7) C dX3_leastEnd_68 (by decide) ?_
        exact hrec7 o1 a2 a3 v7 v8 (by omega) (by omega) s5
theorem v_X3_leastEnd_7 {κ : oK} {x : oXp} (C : oC κ (oX x) 7 cX3_leastEnd RX3 wsX3_leastEnd 5 (some .int))  : ∀ (n : Nat) (o1 : Nat) (a2 : Int32) (a3 : Int32) (a4 : Int32) (a5 : Int32) (h1_o1 : 44 ≤ o1) (h2_o1 : o1 < 62) (σ : Sg), oV κ (oX x) 7 (oQi κ (oX x)) σ 7 [(0, .ref (xa x 5)), (1, .ref (xa x o1)), (2, .int a2), (3, .int a3), (4, .int a4), (5, .int a5)] [] (f_X3_leastEnd_7   n o1 a2 a3 a4 a5 σ) := by
  intro n
  induction n with
  | zero => intros; exact r_none
  | succ n ih => exact v_X3_leastEnd_7_b C  _ ih
set_option maxHeartbeats 4000000 in
set_option maxRecDepth 100000 in
theorem m_X3_leastEnd (l : Launch) (x : oXp) (hI : oI (oX x)) (o1 : Nat) (a2 : Int32) (a3 : Int32) (h1_o1 : 44 ≤ o1) (h2_o1 : o1 < 62) (σ : Sg) : oMI l yX3_leastEnd wsX3_leastEnd 5 (oX x) [.ref (xa x 5), .ref (xa x o1), .int a2, .int a3] σ (f_X3_leastEnd  o1 a2 a3 σ) := by
  refine oMI_of (nL := 7) (cc := cX3_leastEnd) hI (by decide +kernel) rfl (Nat.le_of_ble_eq_true rfl) ?_
  intro κ C
  have C : oC κ (oX x) 7 cX3_leastEnd RX3 wsX3_leastEnd 5 (some .int) := C
  unfold f_X3_leastEnd
  show oV κ (oX x) 7 (oQi κ (oX x)) σ 0 [(0, .ref (xa x 5)), (1, .ref (xa x o1)), (2, .int a2), (3, .int a3)] [] _
  refine r_ldc (pc := 0) (v := (1000000 : Int32)) C dX3_leastEnd_0 wd_X3_leastEnd_1 ?_
  refine r_ist (pc := 2) (lv' := [(0, _), (1, _), (2, _), (3, _), (4, _)]) C dX3_leastEnd_2 (by decide) [1, 2, 3, 4, 0] rfl ?_
  refine r_iconst (pc := 4) (v := (0 : Int32)) C dX3_leastEnd_4 ic_0 ?_
  refine r_ist (pc := 5) (lv' := [(0, _), (1, _), (2, _), (3, _), (4, _), (5, _)]) C dX3_leastEnd_5 (by decide) [1, 2, 3, 4, 5, 0] rfl ?_
  exact v_X3_leastEnd_7 (x := x) C fuN o1 a2 a3 (1000000 : Int32) (0 : Int32) (by omega) (by omega) σ
theorem k_X3_leastEnd {κ : oK} {nL : Nat} {cc : ByteArray} {own : String} {Ts : List Cond} {n : Nat} {ret : Option FieldType} {α : Type} {Q : α → Sg → State → Prop} {σ : Sg} {pc : Nat} {lv : List (Nat × Value)} {st : List Value} {x : oXp} {idx : Nat} {o1 : Nat} {a2 : Int32} {a3 : Int32} {K : Int32 → Sg → Option (α × Sg)} (C : oC κ (oX x) nL cc own Ts n ret) (hG : GoodIn Ts (wsV own idx RX3 yX3_leastEnd wsX3_leastEnd)) (hn : 5 + 1 ≤ n) (h1_o1 : 44 ≤ o1) (h2_o1 : o1 < 62) (hst : (st.map fun v => v.category).sum ≤ 8) (hd : decode cc pc = .ok (.invokevirtual idx, 3)) (kk : ∀ (r1 : Int32) (σ1 : Sg), oV κ (oX x) nL Q σ1 (pc + 3) lv (.int r1 :: st) (K r1 σ1)) : oV κ (oX x) nL Q σ pc lv (.int a3 :: .int a2 :: .ref (xa x o1) :: .ref (xa x 5) :: st) (bnd (f_X3_leastEnd o1 a2 a3 σ) K) := by
  have hI : oI (oX x) := oC_I C
  exact r_cVi (As := [.ref (xa x o1), .int a2, .int a3]) (na := 3) (j := 5) (ci := 3) C (fun l => m_X3_leastEnd l x hI o1 a2 a3 h1_o1 h2_o1 σ) hG rfl (by decide +kernel) rfl (by decide) hn (by show 5 < 80; decide) rfl rfl rfl rfl hst hd kk
set_option maxHeartbeats 4000000 in
set_option maxRecDepth 100000 in
theorem v_X3_most_25_b {κ : oK} {x : oXp} (C : oC κ (oX x) 6 cX3_most RX3 wsX3_most 6 (some .int))  (rec25 : Nat → Int32 → Int32 → Int32 → Int32 → Sg → Option (Int32 × Sg)) (hrec25 : ∀ (o1 : Nat) (a2 : Int32) (a3 : Int32) (a4 : Int32) (a5 : Int32) (h1_o1 : 44 ≤ o1) (h2_o1 : o1 < 62) (σ : Sg), oV κ (oX x) 6 (oQi κ (oX x)) σ 25 [(0, .ref (xa x 5)), (1, .ref (xa x o1)), (2, .int a2), (3, .int a3), (4, .int a4), (5, .int a5)] [] (rec25 o1 a2 a3 a4 a5 σ)) (o1 : Nat) (a2 : Int32) (a3 : Int32) (a4 : Int32) (a5 : Int32) (h1_o1 : 44 ≤ o1) (h2_o1 : o1 < 62) (σ : Sg) : oV κ (oX x) 6 (oQi κ (oX x)) σ 25 [(0, .ref (xa x 5)), (1, .ref (xa x o1)), (2, .int a2), (3, .int a3), (4, .int a4), (5, .int a5)] [] (f_X3_most_25_b   rec25 o1 a2 a3 a4 a5 σ) := by
  unfold f_X3_most_25_b
  refine r_ild (pc := 25) C dX3_most_25 5 rfl ?_
  refine r_ildn (pc := 27) C dX3_most_27 3 rfl ?_
  refine r_icge (pc := 28) (tgt := 76) C dX3_most_28 (by decide) ?_ ?_
  · refine r_ild (pc := 76) C dX3_most_76 4 rfl ?_
    exact r_iret (pc := 78) C dX3_most_78
  · refine r_aldn (pc := 31) C dX3_most_31 0 rfl ?_
    refine gf_X3_0_5 (pc := 32) C hi_X3_most_X3 wd_X3_most_5 dX3_most_32 ?_
    refine r_ild (pc := 35) C dX3_most_35 5 rfl ?_
    refine r_aldn (pc := 37) C dX3_most_37 0 rfl ?_
    refine r_aldn (pc := 38) C dX3_most_38 1 rfl ?_
    refine r_ildn (pc := 39) C dX3_most_39 2 rfl ?_
    refine r_ild (pc := 40) C dX3_most_40 5 rfl ?_
    refine k_X3_leastEnd (x := x) (pc := 42) (o1 := o1) (a2 := a2) (a3 := a5) C gX3_most_X3_leastEnd (by omega) (by omega) (by omega) (Nat.le_of_ble_eq_true rfl) dX3_most_42 (fun r2 s1 => ?_)
    refine iast_oX_9 (pc := 45) C dX3_most_45 (fun s3 => ?_)
    refine r_aldn (pc := 46) C dX3_most_46 0 rfl ?_
    refine gf_X3_0_5 (pc := 47) C hi_X3_most_X3 wd_X3_most_5 dX3_most_47 ?_
    refine r_ild (pc := 50) C dX3_most_50 5 rfl ?_
    refine iald_oX_9 (pc := 52) C dX3_most_52 ?_
    refine r_bipush (pc := 53) (v := (12 : Int32)) C dX3_most_53 bp_12 ?_
    refine r_icgt (pc := 55) (tgt := 70) C dX3_most_55 (by decide) ?_ ?_
    · refine r_iinc (pc := 70) (v := (1 : Int32)) (lv1 := fun y => [(0, _), (1, _), (2, _), (3, _), (4, _), (5, .int y)]) C dX3_most_70 ic_1 5 rfl (by decide) [1, 2, 3, 4, 5, 0] (fun _ => rfl) (fun v4 => ?_)
      refine r_goto (pc := 73) (tgt := 25) C dX3_most_73 (by decide) ?_
      exact hrec25 o1 a2 a3 a4 v4 (by omega) (by omega) s3
    · refine r_ild (pc := 58) C dX3_most_58 4 rfl ?_
      refine r_ild (pc := 60) C dX3_most_60 5 rfl ?_
      refine kS_J6_bitCount_0f7a4 (x := x) (pc := 62) (a0 := a5) C gX3_most_J6_bitCount_0f7a4 (by omega)  (Nat.le_of_ble_eq_true rfl) dX3_most_62 (fun r6 s5 => ?_)
      refine r_mx (pc := 65) C wd_X3_most_6 wd_X3_most_7 wd_X3_most_3 wd_X3_most_8 (by omega) (Nat.le_of_ble_eq_true rfl) dX3_most_65 ?_
      refine r_nm (fun v7 => ?_)
      refine r_ist (pc := 68) (lv' := [(0, _), (1, _), (2, _), (3, _), (4, _), (5, _)]) C dX3_most_68 (by decide) [1, 2, 3, 4, 0, 5] rfl ?_
      refine r_iinc (pc := 70) (v := (1 : Int32)) (lv1 := fun y => [(0, _), (1, _), (2, _), (3, _), (4, _), (5, .int y)]) C dX3_most_70 ic_1 5 rfl (by decide) [1, 2, 3, 4, 5, 0] (fun _ => rfl) (fun v8 => ?_)
      refine r_goto (pc := 73) (tgt := 25) C dX3_most_73 (by decide) ?_
      exact hrec25 o1 a2 a3 v7 v8 (by omega) (by omega) s5
theorem v_X3_most_25 {κ : oK} {x : oXp} (C : oC κ (oX x) 6 cX3_most RX3 wsX3_most 6 (some .int))  : ∀ (n : Nat) (o1 : Nat) (a2 : Int32) (a3 : Int32) (a4 : Int32) (a5 : Int32) (h1_o1 : 44 ≤ o1) (h2_o1 : o1 < 62) (σ : Sg), oV κ (oX x) 6 (oQi κ (oX x)) σ 25 [(0, .ref (xa x 5)), (1, .ref (xa x o1)), (2, .int a2), (3, .int a3), (4, .int a4), (5, .int a5)] [] (f_X3_most_25   n o1 a2 a3 a4 a5 σ) := by
  intro n
  induction n with
  | zero => intros; exact r_none
  | succ n ih => exact v_X3_most_25_b C  _ ih
set_option maxHeartbeats 4000000 in
set_option maxRecDepth 100000 in
theorem m_X3_most (l : Launch) (x : oXp) (hI : oI (oX x)) (o1 : Nat) (a2 : Int32) (h1_o1 : 44 ≤ o1) (h2_o1 : o1 < 62) (σ : Sg) : oMI l yX3_most wsX3_most 6 (oX x) [.ref (xa x 5), .ref (xa x o1), .int a2] σ (f_X3_most  o1 a2 σ) := by
  refine oMI_of (nL := 6) (cc := cX3_most) hI (by decide +kernel) rfl (Nat.le_of_ble_eq_true rfl) ?_
  intro κ C
  have C : oC κ (oX x) 6 cX3_most RX3 wsX3_most 6 (some .int) := C
  unfold f_X3_most
  show oV κ (oX x) 6 (oQi κ (oX x)) σ 0 [(0, .ref (xa x 5)), (1, .ref (xa x o1)), (2, .int a2)] [] _
  refine r_iconst (pc := 0) (v := (1 : Int32)) C dX3_most_0 ic_1 ?_
  refine r_aldn (pc := 1) C dX3_most_1 1 rfl ?_
  refine gfN_X6_1 (pc := 2) C (o := o1) (by omega) (by omega) hi_X3_most_X6 nw_4 dX3_most_2 ?_
  refine r_bipush (pc := 5) (v := (6 : Int32)) C dX3_most_5 bp_6 ?_
  refine r_mn (pc := 7) C wd_X3_most_1 wd_X3_most_2 wd_X3_most_3 wd_X3_most_4 (by omega) (Nat.le_of_ble_eq_true rfl) dX3_most_7 ?_
  refine r_ishl (pc := 10) C dX3_most_10 ?_
  refine r_nm (fun v9 => ?_)
  refine r_istn (pc := 11) (lv' := [(0, _), (1, _), (2, _), (3, _)]) C dX3_most_11 (by decide) [1, 2, 3, 0] rfl ?_
  refine r_iconst (pc := 12) (v := (0 : Int32)) C dX3_most_12 ic_0 ?_
  refine r_ist (pc := 13) (lv' := [(0, _), (1, _), (2, _), (3, _), (4, _)]) C dX3_most_13 (by decide) [1, 2, 3, 4, 0] rfl ?_
  refine r_aldn (pc := 15) C dX3_most_15 0 rfl ?_
  refine gf_X3_0_5 (pc := 16) C hi_X3_most_X3 wd_X3_most_5 dX3_most_16 ?_
  refine r_iconst (pc := 19) (v := (0 : Int32)) C dX3_most_19 ic_0 ?_
  refine r_iconst (pc := 20) (v := (0 : Int32)) C dX3_most_20 ic_0 ?_
  refine iast_oX_9 (pc := 21) C dX3_most_21 (fun s10 => ?_)
  refine r_iconst (pc := 22) (v := (1 : Int32)) C dX3_most_22 ic_1 ?_
  refine r_ist (pc := 23) (lv' := [(0, _), (1, _), (2, _), (3, _), (4, _), (5, _)]) C dX3_most_23 (by decide) [1, 2, 3, 4, 5, 0] rfl ?_
  exact v_X3_most_25 (x := x) C fuN o1 a2 v9 (0 : Int32) (1 : Int32) (by omega) (by omega) s10
theorem k_X3_most {κ : oK} {nL : Nat} {cc : ByteArray} {own : String} {Ts : List Cond} {n : Nat} {ret : Option FieldType} {α : Type} {Q : α → Sg → State → Prop} {σ : Sg} {pc : Nat} {lv : List (Nat × Value)} {st : List Value} {x : oXp} {idx : Nat} {o1 : Nat} {a2 : Int32} {K : Int32 → Sg → Option (α × Sg)} (C : oC κ (oX x) nL cc own Ts n ret) (hG : GoodIn Ts (wsV own idx RX3 yX3_most wsX3_most)) (hn : 6 + 1 ≤ n) (h1_o1 : 44 ≤ o1) (h2_o1 : o1 < 62) (hst : (st.map fun v => v.category).sum ≤ 8) (hd : decode cc pc = .ok (.invokevirtual idx, 3)) (kk : ∀ (r1 : Int32) (σ1 : Sg), oV κ (oX x) nL Q σ1 (pc + 3) lv (.int r1 :: st) (K r1 σ1)) : oV κ (oX x) nL Q σ pc lv (.int a2 :: .ref (xa x o1) :: .ref (xa x 5) :: st) (bnd (f_X3_most o1 a2 σ) K) := by
  have hI : oI (oX x) := oC_I C
  exact r_cVi (As := [.ref (xa x o1), .int a2]) (na := 2) (j := 5) (ci := 3) C (fun l => m_X3_most l x hI o1 a2 h1_o1 h2_o1 σ) hG rfl (by decide +kernel) rfl (by decide) hn (by show 5 < 80; decide) rfl rfl rfl rfl hst hd kk
set_option maxHeartbeats 4000000 in
set_option maxRecDepth 100000 in
theorem m_X4_isDigit (l : Launch) (x : oXp) (hI : oI (oX x)) (a0 : Int32) (σ : Sg) : oMI l yX4_isDigit wsX4_isDigit 3 (oX x) [.int a0] σ (f_X4_isDigit  a0 σ) := by
  refine oMI_of (nL := 1) (cc := cX4_isDigit) hI (by decide +kernel) rfl (Nat.le_of_ble_eq_true rfl) ?_
  intro κ C
  have C : oC κ (oX x) 1 cX4_isDigit RX4 wsX4_isDigit 3 (some .boolean) := C
  unfold f_X4_isDigit
  show oV κ (oX x) 1 (oQi κ (oX x)) σ 0 [(0, .int a0)] [] _
  refine r_ildn (pc := 0) C dX4_isDigit_0 0 rfl ?_
  refine r_bipush (pc := 1) (v := (48 : Int32)) C dX4_isDigit_1 bp_48 ?_
  refine r_iclt (pc := 3) (tgt := 16) C dX4_isDigit_3 (by decide) ?_ ?_
  · refine r_iconst (pc := 16) (v := (0 : Int32)) C dX4_isDigit_16 ic_0 ?_
    exact r_zret (pc := 17) C (by decide) dX4_isDigit_17
  · refine r_ildn (pc := 6) C dX4_isDigit_6 0 rfl ?_
    refine r_bipush (pc := 7) (v := (57 : Int32)) C dX4_isDigit_7 bp_57 ?_
    refine r_icgt (pc := 9) (tgt := 16) C dX4_isDigit_9 (by decide) ?_ ?_
    · refine r_iconst (pc := 16) (v := (0 : Int32)) C dX4_isDigit_16 ic_0 ?_
      exact r_zret (pc := 17) C (by decide) dX4_isDigit_17
    · refine r_iconst (pc := 12) (v := (1 : Int32)) C dX4_isDigit_12 ic_1 ?_
      refine r_goto (pc := 13) (tgt := 17) C dX4_isDigit_13 (by decide) ?_
      exact r_zret (pc := 17) C (by decide) dX4_isDigit_17
theorem kS_X4_isDigit {κ : oK} {nL : Nat} {cc : ByteArray} {own : String} {Ts : List Cond} {n : Nat} {ret : Option FieldType} {α : Type} {Q : α → Sg → State → Prop} {σ : Sg} {pc : Nat} {lv : List (Nat × Value)} {st : List Value} {x : oXp} {idx : Nat} {a0 : Int32} {K : Int32 → Sg → Option (α × Sg)} (C : oC κ (oX x) nL cc own Ts n ret) (hG : GoodIn Ts (va_wsS own idx yX4_isDigit wsX4_isDigit)) (hn : 3 + 1 ≤ n) (hst : (st.map fun v => v.category).sum ≤ 8) (hd : decode cc pc = .ok (.invokestatic idx, 3)) (kk : ∀ (r1 : Int32) (σ1 : Sg), oV κ (oX x) nL Q σ1 (pc + 3) lv (.int r1 :: st) (K r1 σ1)) : oV κ (oX x) nL Q σ pc lv (.int a0 :: st) (bnd (f_X4_isDigit a0 σ) K) := by
  have hI : oI (oX x) := oC_I C
  exact r_cSi (As := [.int a0]) (na := 1) C (fun l => m_X4_isDigit l x hI a0 σ) hG rfl (by decide +kernel) rfl (by decide) hn hst hd kk
set_option maxHeartbeats 4000000 in
set_option maxRecDepth 100000 in
theorem m_X4_levelOf (l : Launch) (x : oXp) (hI : oI (oX x)) (a0 : Int32) (σ : Sg) : oMI l yX4_levelOf wsX4_levelOf 3 (oX x) [.int a0] σ (f_X4_levelOf  a0 σ) := by
  refine oMI_of (nL := 1) (cc := cX4_levelOf) hI (by decide +kernel) rfl (Nat.le_of_ble_eq_true rfl) ?_
  intro κ C
  have C : oC κ (oX x) 1 cX4_levelOf RX4 wsX4_levelOf 3 (some .int) := C
  unfold f_X4_levelOf
  show oV κ (oX x) 1 (oQi κ (oX x)) σ 0 [(0, .int a0)] [] _
  refine r_ildn (pc := 0) C dX4_levelOf_0 0 rfl ?_
  refine r_ite (fun c1 => ?_) (fun c1 => ?_)
  · refine r_lookE (pc := 1) (v := (37 : Int32)) (off := 99) (tgt := 100) C dX4_levelOf_1 (by decide) c1 (by decide) (by decide) ?_
    refine r_iconst (pc := 100) (v := (4 : Int32)) C dX4_levelOf_100 ic_4 ?_
    exact r_iret (pc := 101) C dX4_levelOf_101
  · refine r_ite (fun c2 => ?_) (fun c2 => ?_)
    · refine r_lookE (pc := 1) (v := (38 : Int32)) (off := 93) (tgt := 94) C dX4_levelOf_1 (by decide) c2 (by decide) (by decide) ?_
      refine r_iconst (pc := 94) (v := (1 : Int32)) C dX4_levelOf_94 ic_1 ?_
      exact r_iret (pc := 95) C dX4_levelOf_95
    · refine r_ite (fun c3 => ?_) (fun c3 => ?_)
      · refine r_lookE (pc := 1) (v := (42 : Int32)) (off := 99) (tgt := 100) C dX4_levelOf_1 (by decide) c3 (by decide) (by decide) ?_
        refine r_iconst (pc := 100) (v := (4 : Int32)) C dX4_levelOf_100 ic_4 ?_
        exact r_iret (pc := 101) C dX4_levelOf_101
      · refine r_ite (fun c4 => ?_) (fun c4 => ?_)
        · refine r_lookE (pc := 1) (v := (43 : Int32)) (off := 97) (tgt := 98) C dX4_levelOf_1 (by decide) c4 (by decide) (by decide) ?_
          refine r_iconst (pc := 98) (v := (3 : Int32)) C dX4_levelOf_98 ic_3 ?_
          exact r_iret (pc := 99) C dX4_levelOf_99
        · refine r_ite (fun c5 => ?_) (fun c5 => ?_)
          · refine r_lookE (pc := 1) (v := (45 : Int32)) (off := 97) (tgt := 98) C dX4_levelOf_1 (by decide) c5 (by decide) (by decide) ?_
            refine r_iconst (pc := 98) (v := (3 : Int32)) C dX4_levelOf_98 ic_3 ?_
            exact r_iret (pc := 99) C dX4_levelOf_99
          · refine r_ite (fun c6 => ?_) (fun c6 => ?_)
            · refine r_lookE (pc := 1) (v := (47 : Int32)) (off := 99) (tgt := 100) C dX4_levelOf_1 (by decide) c6 (by decide) (by decide) ?_
              refine r_iconst (pc := 100) (v := (4 : Int32)) C dX4_levelOf_100 ic_4 ?_
              exact r_iret (pc := 101) C dX4_levelOf_101
            · refine r_ite (fun c7 => ?_) (fun c7 => ?_)
              · refine r_lookE (pc := 1) (v := (60 : Int32)) (off := 95) (tgt := 96) C dX4_levelOf_1 (by decide) c7 (by decide) (by decide) ?_
                refine r_iconst (pc := 96) (v := (2 : Int32)) C dX4_levelOf_96 ic_2 ?_
                exact r_iret (pc := 97) C dX4_levelOf_97
              · refine r_ite (fun c8 => ?_) (fun c8 => ?_)
                · refine r_lookE (pc := 1) (v := (61 : Int32)) (off := 95) (tgt := 96) C dX4_levelOf_1 (by decide) c8 (by decide) (by decide) ?_
                  refine r_iconst (pc := 96) (v := (2 : Int32)) C dX4_levelOf_96 ic_2 ?_
                  exact r_iret (pc := 97) C dX4_levelOf_97
                · refine r_ite (fun c9 => ?_) (fun c9 => ?_)
                  · refine r_lookE (pc := 1) (v := (62 : Int32)) (off := 95) (tgt := 96) C dX4_levelOf_1 (by decide) c9 (by decide) (by decide) ?_
                    refine r_iconst (pc := 96) (v := (2 : Int32)) C dX4_levelOf_96 ic_2 ?_
                    exact r_iret (pc := 97) C dX4_levelOf_97
                  · refine r_ite (fun c10 => ?_) (fun c10 => ?_)
                    · refine r_lookE (pc := 1) (v := (124 : Int32)) (off := 91) (tgt := 92) C dX4_levelOf_1 (by decide) c10 (by decide) (by decide) ?_
                      refine r_iconst (pc := 92) (v := (0 : Int32)) C dX4_levelOf_92 ic_0 ?_
                      exact r_iret (pc := 93) C dX4_levelOf_93
                    · refine r_lookO (pc := 1) (off := 101) (tgt := 102) C dX4_levelOf_1 (by decide) ((lv_osw (k := (37 : Int32)) c1 (by decide)).trans ((lv_osw (k := (38 : Int32)) c2 (by decide)).trans ((lv_osw (k := (42 : Int32)) c3 (by decide)).trans ((lv_osw (k := (43 : Int32)) c4 (by decide)).trans ((lv_osw (k := (45 : Int32)) c5 (by decide)).trans ((lv_osw (k := (47 : Int32)) c6 (by decide)).trans ((lv_osw (k := (60 : Int32)) c7 (by decide)).trans ((lv_osw (k := (61 : Int32)) c8 (by decide)).trans ((lv_osw (k := (62 : Int32)) c9 (by decide)).trans ((lv_osw (k := (124 : Int32)) c10 (by decide)).trans rfl)))))))))) (by decide) ?_
                      refine r_iconst (pc := 102) (v := (-1 : Int32)) C dX4_levelOf_102 ic_m1 ?_
                      exact r_iret (pc := 103) C dX4_levelOf_103
theorem kS_X4_levelOf {κ : oK} {nL : Nat} {cc : ByteArray} {own : String} {Ts : List Cond} {n : Nat} {ret : Option FieldType} {α : Type} {Q : α → Sg → State → Prop} {σ : Sg} {pc : Nat} {lv : List (Nat × Value)} {st : List Value} {x : oXp} {idx : Nat} {a0 : Int32} {K : Int32 → Sg → Option (α × Sg)} (C : oC κ (oX x) nL cc own Ts n ret) (hG : GoodIn Ts (va_wsS own idx yX4_levelOf wsX4_levelOf)) (hn : 3 + 1 ≤ n) (hst : (st.map fun v => v.category).sum ≤ 8) (hd : decode cc pc = .ok (.invokestatic idx, 3)) (kk : ∀ (r1 : Int32) (σ1 : Sg), oV κ (oX x) nL Q σ1 (pc + 3) lv (.int r1 :: st) (K r1 σ1)) : oV κ (oX x) nL Q σ pc lv (.int a0 :: st) (bnd (f_X4_levelOf a0 σ) K) := by
  have hI : oI (oX x) := oC_I C
  exact r_cSi (As := [.int a0]) (na := 1) C (fun l => m_X4_levelOf l x hI a0 σ) hG rfl (by decide +kernel) rfl (by decide) hn hst hd kk
set_option maxHeartbeats 4000000 in
set_option maxRecDepth 100000 in
theorem m_X4_next (l : Launch) (x : oXp) (hI : oI (oX x))  (σ : Sg) : oMI l yX4_next wsX4_next 3 (oX x) [.ref (xa x 3)] σ (f_X4_next   σ) := by
  refine oMI_of (nL := 1) (cc := cX4_next) hI (by decide +kernel) rfl (Nat.le_of_ble_eq_true rfl) ?_
  intro κ C
  have C : oC κ (oX x) 1 cX4_next RX4 wsX4_next 3 (some .int) := C
  unfold f_X4_next
  show oV κ (oX x) 1 (oQi κ (oX x)) σ 0 [(0, .ref (xa x 3))] [] _
  refine r_aldn (pc := 0) C dX4_next_0 0 rfl ?_
  refine gf_X4_3_3 (pc := 1) C hi_X4_next_X4 wd_X4_next_1 dX4_next_1 ?_
  refine r_iflt (pc := 4) (tgt := 36) C dX4_next_4 (by decide) ?_ ?_
  · refine r_iconst (pc := 36) (v := (-1 : Int32)) C dX4_next_36 ic_m1 ?_
    exact r_iret (pc := 37) C dX4_next_37
  · refine r_aldn (pc := 7) C dX4_next_7 0 rfl ?_
    refine gf_X4_3_3 (pc := 8) C hi_X4_next_X4 wd_X4_next_1 dX4_next_8 ?_
    refine r_aldn (pc := 11) C dX4_next_11 0 rfl ?_
    refine gf_tape (pc := 12) C hi_X4_next_X4 wd_X4_next_2 dX4_next_12 (fun p1 h1_p1 h2_p1 => ?_)
    refine gfN_X6_1 (pc := 15) C (o := p1) (by omega) (by omega) hi_X4_next_X6 nw_5 dX4_next_15 ?_
    refine r_icge (pc := 18) (tgt := 36) C dX4_next_18 (by decide) ?_ ?_
    · refine r_iconst (pc := 36) (v := (-1 : Int32)) C dX4_next_36 ic_m1 ?_
      exact r_iret (pc := 37) C dX4_next_37
    · refine r_aldn (pc := 21) C dX4_next_21 0 rfl ?_
      refine gf_tape (pc := 22) C hi_X4_next_X4 wd_X4_next_2 dX4_next_22 (fun p2 h1_p2 h2_p2 => ?_)
      refine gfN_X6_0 (pc := 25) C (o := p2) (by omega) (by omega) hi_X4_next_X6 nw_2 dX4_next_25 ?_
      refine r_aldn (pc := 28) C dX4_next_28 0 rfl ?_
      refine gf_X4_3_3 (pc := 29) C hi_X4_next_X4 wd_X4_next_1 dX4_next_29 ?_
      refine iald_oX_cells (pc := 32) C (o := (p2 + 18)) (by omega) (by omega) dX4_next_32 ?_
      refine r_goto (pc := 33) (tgt := 37) C dX4_next_33 (by decide) ?_
      exact r_iret (pc := 37) C dX4_next_37
theorem k_X4_next {κ : oK} {nL : Nat} {cc : ByteArray} {own : String} {Ts : List Cond} {n : Nat} {ret : Option FieldType} {α : Type} {Q : α → Sg → State → Prop} {σ : Sg} {pc : Nat} {lv : List (Nat × Value)} {st : List Value} {x : oXp} {idx : Nat}  {K : Int32 → Sg → Option (α × Sg)} (C : oC κ (oX x) nL cc own Ts n ret) (hG : GoodIn Ts (wsV own idx RX4 yX4_next wsX4_next)) (hn : 3 + 1 ≤ n) (hst : (st.map fun v => v.category).sum ≤ 8) (hd : decode cc pc = .ok (.invokevirtual idx, 3)) (kk : ∀ (r1 : Int32) (σ1 : Sg), oV κ (oX x) nL Q σ1 (pc + 3) lv (.int r1 :: st) (K r1 σ1)) : oV κ (oX x) nL Q σ pc lv (.ref (xa x 3) :: st) (bnd (f_X4_next  σ) K) := by
  have hI : oI (oX x) := oC_I C
  exact r_cVi (As := []) (na := 0) (j := 3) (ci := 4) C (fun l => m_X4_next l x hI  σ) hG rfl (by decide +kernel) rfl (by decide) hn (by show 3 < 80; decide) rfl rfl rfl rfl hst hd kk
set_option maxHeartbeats 4000000 in
set_option maxRecDepth 100000 in
theorem v_X4_readsNumber_48 {κ : oK} {x : oXp} (C : oC κ (oX x) 3 cX4_readsNumber RX4 wsX4_readsNumber 4 (some .boolean))  (a1 : Int32) (σ : Sg) : oV κ (oX x) 3 (oQi κ (oX x)) σ 48 [(0, .ref (xa x 3)), (1, .int a1)] [] (f_X4_readsNumber_48   a1 σ) := by
  unfold f_X4_readsNumber_48
  refine r_aldn (pc := 48) C dX4_readsNumber_48 0 rfl ?_
  refine gf_X4_0_3 (pc := 49) C hi_X4_readsNumber_X4 wd_X4_readsNumber_2 dX4_readsNumber_49 ?_
  refine r_ildn (pc := 52) C dX4_readsNumber_52 1 rfl ?_
  refine k_X6_add (x := x) (pc := 53) (o0 := 56) (a1 := a1) C gX4_readsNumber_X6_add (by omega) (by omega) (by omega) (Nat.le_of_ble_eq_true rfl) dX4_readsNumber_53 (fun _ s1 => ?_)
  refine r_iconst (pc := 56) (v := (1 : Int32)) C dX4_readsNumber_56 ic_1 ?_
  exact r_zret (pc := 57) C (by decide) dX4_readsNumber_57
set_option maxHeartbeats 4000000 in
set_option maxRecDepth 100000 in
theorem v_X4_readsNumber_4_b {κ : oK} {x : oXp} (C : oC κ (oX x) 3 cX4_readsNumber RX4 wsX4_readsNumber 4 (some .boolean))  (rec4 : Int32 → Int32 → Sg → Option (Int32 × Sg)) (hrec4 : ∀ (a1 : Int32) (a2 : Int32) (σ : Sg), oV κ (oX x) 3 (oQi κ (oX x)) σ 4 [(0, .ref (xa x 3)), (1, .int a1), (2, .int a2)] [] (rec4 a1 a2 σ)) (a1 : Int32) (a2 : Int32) (σ : Sg) : oV κ (oX x) 3 (oQi κ (oX x)) σ 4 [(0, .ref (xa x 3)), (1, .int a1), (2, .int a2)] [] (f_X4_readsNumber_4_b   rec4 a1 a2 σ) := by
  unfold f_X4_readsNumber_4_b
  refine r_ildn (pc := 4) C dX4_readsNumber_4 2 rfl ?_
  refine r_iconst (pc := 5) (v := (4 : Int32)) C dX4_readsNumber_5 ic_4 ?_
  refine r_icge (pc := 6) (tgt := 48) C dX4_readsNumber_6 (by decide) ?_ ?_
  · refine r_sub (lv' := [(0, _), (1, _)]) [0, 1] rfl ?_
    exact v_X4_readsNumber_48 (x := x) C a1 σ
  · refine r_aldn (pc := 9) C dX4_readsNumber_9 0 rfl ?_
    refine k_X4_next (x := x) (pc := 10)  C gX4_readsNumber_X4_next (by omega)  (Nat.le_of_ble_eq_true rfl) dX4_readsNumber_10 (fun r4 s3 => ?_)
    refine kS_X4_isDigit (x := x) (pc := 13) (a0 := r4) C gX4_readsNumber_X4_isDigit (by omega)  (Nat.le_of_ble_eq_true rfl) dX4_readsNumber_13 (fun r6 s5 => ?_)
    refine r_ifeq (pc := 16) (tgt := 48) C dX4_readsNumber_16 (by decide) ?_ ?_
    · refine r_sub (lv' := [(0, _), (1, _)]) [0, 1] rfl ?_
      exact v_X4_readsNumber_48 (x := x) C a1 s5
    · refine r_bipush (pc := 19) (v := (10 : Int32)) C dX4_readsNumber_19 bp_10 ?_
      refine r_ildn (pc := 21) C dX4_readsNumber_21 1 rfl ?_
      refine r_imul (pc := 22) C dX4_readsNumber_22 ?_
      refine r_aldn (pc := 23) C dX4_readsNumber_23 0 rfl ?_
      refine k_X4_next (x := x) (pc := 24)  C gX4_readsNumber_X4_next (by omega)  (Nat.le_of_ble_eq_true rfl) dX4_readsNumber_24 (fun r8 s7 => ?_)
      refine r_iadd (pc := 27) C dX4_readsNumber_27 ?_
      refine r_bipush (pc := 28) (v := (48 : Int32)) C dX4_readsNumber_28 bp_48 ?_
      refine r_isub (pc := 30) C dX4_readsNumber_30 ?_
      refine r_nm (fun v9 => ?_)
      refine r_istn (pc := 31) (lv' := [(0, _), (1, _), (2, _)]) C dX4_readsNumber_31 (by decide) [1, 0, 2] rfl ?_
      refine r_aldn (pc := 32) C dX4_readsNumber_32 0 rfl ?_
      refine r_dup (pc := 33) C dX4_readsNumber_33 rfl ?_
      refine gf_X4_3_3 (pc := 34) C hi_X4_readsNumber_X4 wd_X4_readsNumber_1 dX4_readsNumber_34 ?_
      refine r_iconst (pc := 37) (v := (1 : Int32)) C dX4_readsNumber_37 ic_1 ?_
      refine r_iadd (pc := 38) C dX4_readsNumber_38 ?_
      refine pf_X4_3_3 (pc := 39) C hi_X4_readsNumber_X4 wd_X4_readsNumber_1 dX4_readsNumber_39 (fun s10 => ?_)
      refine r_iinc (pc := 42) (v := (1 : Int32)) (lv1 := fun y => [(0, _), (1, _), (2, .int y)]) C dX4_readsNumber_42 ic_1 2 rfl (by decide) [1, 2, 0] (fun _ => rfl) (fun v11 => ?_)
      refine r_goto (pc := 45) (tgt := 4) C dX4_readsNumber_45 (by decide) ?_
      exact hrec4 v9 v11 s10
theorem v_X4_readsNumber_4 {κ : oK} {x : oXp} (C : oC κ (oX x) 3 cX4_readsNumber RX4 wsX4_readsNumber 4 (some .boolean))  : ∀ (n : Nat) (a1 : Int32) (a2 : Int32) (σ : Sg), oV κ (oX x) 3 (oQi κ (oX x)) σ 4 [(0, .ref (xa x 3)), (1, .int a1), (2, .int a2)] [] (f_X4_readsNumber_4   n a1 a2 σ) := by
  intro n
  induction n with
  | zero => intros; exact r_none
  | succ n ih => exact v_X4_readsNumber_4_b C  _ ih
set_option maxHeartbeats 4000000 in
set_option maxRecDepth 100000 in
theorem m_X4_readsNumber (l : Launch) (x : oXp) (hI : oI (oX x))  (σ : Sg) : oMI l yX4_readsNumber wsX4_readsNumber 4 (oX x) [.ref (xa x 3)] σ (f_X4_readsNumber   σ) := by
  refine oMI_of (nL := 3) (cc := cX4_readsNumber) hI (by decide +kernel) rfl (Nat.le_of_ble_eq_true rfl) ?_
  intro κ C
  have C : oC κ (oX x) 3 cX4_readsNumber RX4 wsX4_readsNumber 4 (some .boolean) := C
  unfold f_X4_readsNumber
  show oV κ (oX x) 3 (oQi κ (oX x)) σ 0 [(0, .ref (xa x 3))] [] _
  refine r_iconst (pc := 0) (v := (0 : Int32)) C dX4_readsNumber_0 ic_0 ?_
  refine r_istn (pc := 1) (lv' := [(0, _), (1, _)]) C dX4_readsNumber_1 (by decide) [1, 0] rfl ?_
  refine r_iconst (pc := 2) (v := (0 : Int32)) C dX4_readsNumber_2 ic_0 ?_
  refine r_istn (pc := 3) (lv' := [(0, _), (1, _), (2, _)]) C dX4_readsNumber_3 (by decide) [1, 2, 0] rfl ?_
  exact v_X4_readsNumber_4 (x := x) C fuN (0 : Int32) (0 : Int32) σ
theorem k_X4_readsNumber {κ : oK} {nL : Nat} {cc : ByteArray} {own : String} {Ts : List Cond} {n : Nat} {ret : Option FieldType} {α : Type} {Q : α → Sg → State → Prop} {σ : Sg} {pc : Nat} {lv : List (Nat × Value)} {st : List Value} {x : oXp} {idx : Nat}  {K : Int32 → Sg → Option (α × Sg)} (C : oC κ (oX x) nL cc own Ts n ret) (hG : GoodIn Ts (wsV own idx RX4 yX4_readsNumber wsX4_readsNumber)) (hn : 4 + 1 ≤ n) (hst : (st.map fun v => v.category).sum ≤ 8) (hd : decode cc pc = .ok (.invokevirtual idx, 3)) (kk : ∀ (r1 : Int32) (σ1 : Sg), oV κ (oX x) nL Q σ1 (pc + 3) lv (.int r1 :: st) (K r1 σ1)) : oV κ (oX x) nL Q σ pc lv (.ref (xa x 3) :: st) (bnd (f_X4_readsNumber  σ) K) := by
  have hI : oI (oX x) := oC_I C
  exact r_cVi (As := []) (na := 0) (j := 3) (ci := 4) C (fun l => m_X4_readsNumber l x hI  σ) hG rfl (by decide +kernel) rfl (by decide) hn (by show 3 < 80; decide) rfl rfl rfl rfl hst hd kk
set_option maxHeartbeats 4000000 in
set_option maxRecDepth 100000 in
theorem v_X4_readsLevel_44_b {κ : oK} {x : oXp} (d : Nat) (g_X4_readsLevel : Int32 → Int32 → Sg → Option (Int32 × Sg)) (g_X4_readsQ : Int32 → Sg → Option (Int32 × Sg)) (g_X4_readsNot : Int32 → Sg → Option (Int32 × Sg)) (g_X4_readsGroup : Int32 → Sg → Option (Int32 × Sg)) (hg_X4_readsLevel : ∀ (l : Launch) (a1 : Int32) (a2 : Int32) (σ : Sg), oMI l yX4_readsLevel wsX4_readsLevel (5 + d) (oX x) [.ref (xa x 3), .int a1, .int a2] σ (g_X4_readsLevel a1 a2 σ)) (hg_X4_readsQ : ∀ (l : Launch) (a1 : Int32) (σ : Sg), oMI l yX4_readsQ wsX4_readsQ (5 + d) (oX x) [.ref (xa x 3), .int a1] σ (g_X4_readsQ a1 σ)) (hg_X4_readsNot : ∀ (l : Launch) (a1 : Int32) (σ : Sg), oMI l yX4_readsNot wsX4_readsNot (5 + d) (oX x) [.ref (xa x 3), .int a1] σ (g_X4_readsNot a1 σ)) (hg_X4_readsGroup : ∀ (l : Launch) (a1 : Int32) (σ : Sg), oMI l yX4_readsGroup wsX4_readsGroup (5 + d) (oX x) [.ref (xa x 3), .int a1] σ (g_X4_readsGroup a1 σ)) (C : oC κ (oX x) 6 cX4_readsLevel RX4 wsX4_readsLevel (5 + (d + 1)) (some .boolean))  (rec44 : Int32 → Int32 → Int32 → Int32 → Sg → Option (Int32 × Sg)) (hrec44 : ∀ (a1 : Int32) (a2 : Int32) (a3 : Int32) (a4 : Int32) (σ : Sg), oV κ (oX x) 6 (oQi κ (oX x)) σ 44 [(0, .ref (xa x 3)), (1, .int a1), (2, .int a2), (3, .int a3), (4, .int a4)] [] (rec44 a1 a2 a3 a4 σ)) (a1 : Int32) (a2 : Int32) (a3 : Int32) (a4 : Int32) (σ : Sg) : oV κ (oX x) 6 (oQi κ (oX x)) σ 44 [(0, .ref (xa x 3)), (1, .int a1), (2, .int a2), (3, .int a3), (4, .int a4)] [] (f_X4_readsLevel_44_b g_X4_readsLevel g_X4_readsQ g_X4_readsNot g_X4_readsGroup  rec44 a1 a2 a3 a4 σ) := by
  unfold f_X4_readsLevel_44_b
  refine r_ild (pc := 44) C dX4_readsLevel_44 4 rfl ?_
  refine r_ildn (pc := 46) C dX4_readsLevel_46 3 rfl ?_
  refine r_icge (pc := 47) (tgt := 106) C dX4_readsLevel_47 (by decide) ?_ ?_
  · refine r_iconst (pc := 106) (v := (1 : Int32)) C dX4_readsLevel_106 ic_1 ?_
    exact r_zret (pc := 107) C (by decide) dX4_readsLevel_107
  · refine r_aldn (pc := 50) C dX4_readsLevel_50 0 rfl ?_
    refine k_X4_next (x := x) (pc := 51)  C gX4_readsLevel_X4_next (by omega)  (Nat.le_of_ble_eq_true rfl) dX4_readsLevel_51 (fun r2 s1 => ?_)
    refine kS_X4_levelOf (x := x) (pc := 54) (a0 := r2) C gX4_readsLevel_X4_levelOf (by omega)  (Nat.le_of_ble_eq_true rfl) dX4_readsLevel_54 (fun r4 s3 => ?_)
    refine r_ildn (pc := 57) C dX4_readsLevel_57 1 rfl ?_
    refine r_icne (pc := 58) (tgt := 106) C dX4_readsLevel_58 (by decide) ?_ ?_
    · refine r_iconst (pc := 106) (v := (1 : Int32)) C dX4_readsLevel_106 ic_1 ?_
      exact r_zret (pc := 107) C (by decide) dX4_readsLevel_107
    · refine r_aldn (pc := 61) C dX4_readsLevel_61 0 rfl ?_
      refine k_X4_next (x := x) (pc := 62)  C gX4_readsLevel_X4_next (by omega)  (Nat.le_of_ble_eq_true rfl) dX4_readsLevel_62 (fun r6 s5 => ?_)
      refine r_ist (pc := 65) (lv' := [(0, _), (1, _), (2, _), (3, _), (4, _), (5, _)]) C dX4_readsLevel_65 (by decide) [1, 2, 3, 4, 5, 0] rfl ?_
      refine r_aldn (pc := 67) C dX4_readsLevel_67 0 rfl ?_
      refine r_dup (pc := 68) C dX4_readsLevel_68 rfl ?_
      refine gf_X4_3_3 (pc := 69) C hi_X4_readsLevel_X4 wd_X4_readsLevel_2 dX4_readsLevel_69 ?_
      refine r_iconst (pc := 72) (v := (1 : Int32)) C dX4_readsLevel_72 ic_1 ?_
      refine r_iadd (pc := 73) C dX4_readsLevel_73 ?_
      refine pf_X4_3_3 (pc := 74) C hi_X4_readsLevel_X4 wd_X4_readsLevel_2 dX4_readsLevel_74 (fun s7 => ?_)
      refine r_aldn (pc := 77) C dX4_readsLevel_77 0 rfl ?_
      refine r_ildn (pc := 78) C dX4_readsLevel_78 1 rfl ?_
      refine r_iconst (pc := 79) (v := (1 : Int32)) C dX4_readsLevel_79 ic_1 ?_
      refine r_iadd (pc := 80) C dX4_readsLevel_80 ?_
      refine r_ildn (pc := 81) C dX4_readsLevel_81 2 rfl ?_
      refine r_cVi (pc := 82) (As := [.int (a1 + (1 : Int32)), .int a2]) (na := 2) (j := 3) (ci := 4) C (fun l => hg_X4_readsLevel l (a1 + (1 : Int32)) a2 s7) gX4_readsLevel_X4_readsLevel rfl (by decide +kernel) rfl (by decide) (by omega) (by show 3 < 80; decide) rfl rfl rfl rfl (Nat.le_of_ble_eq_true rfl) dX4_readsLevel_82 (fun r9 s8 => ?_)
      refine r_ifne (pc := 85) (tgt := 90) C dX4_readsLevel_85 (by decide) ?_ ?_
      · refine r_aldn (pc := 90) C dX4_readsLevel_90 0 rfl ?_
        refine gf_X4_0_3 (pc := 91) C hi_X4_readsLevel_X4 wd_X4_readsLevel_3 dX4_readsLevel_91 ?_
        refine r_ild (pc := 94) C dX4_readsLevel_94 5 rfl ?_
        refine r_ineg (pc := 96) C dX4_readsLevel_96 ?_
        refine k_X6_add (x := x) (pc := 97) (o0 := 56) (a1 := (-r6)) C gX4_readsLevel_X6_add (by omega) (by omega) (by omega) (Nat.le_of_ble_eq_true rfl) dX4_readsLevel_97 (fun _ s10 => ?_)
        refine r_iinc (pc := 100) (v := (1 : Int32)) (lv1 := fun y => [(0, _), (1, _), (2, _), (3, _), (4, .int y)]) C dX4_readsLevel_100 ic_1 4 rfl (by decide) [1, 2, 3, 4, 0] (fun _ => rfl) (fun v12 => ?_)
        refine r_goto (pc := 103) (tgt := 44) C dX4_readsLevel_103 (by decide) ?_
        exact hrec44 a1 a2 a3 v12 s10
      · refine r_iconst (pc := 88) (v := (0 : Int32)) C dX4_readsLevel_88 ic_0 ?_
        exact r_zret (pc := 89) C (by decide) dX4_readsLevel_89
theorem v_X4_readsLevel_44 {κ : oK} {x : oXp} (d : Nat) (g_X4_readsLevel : Int32 → Int32 → Sg → Option (Int32 × Sg)) (g_X4_readsQ : Int32 → Sg → Option (Int32 × Sg)) (g_X4_readsNot : Int32 → Sg → Option (Int32 × Sg)) (g_X4_readsGroup : Int32 → Sg → Option (Int32 × Sg)) (hg_X4_readsLevel : ∀ (l : Launch) (a1 : Int32) (a2 : Int32) (σ : Sg), oMI l yX4_readsLevel wsX4_readsLevel (5 + d) (oX x) [.ref (xa x 3), .int a1, .int a2] σ (g_X4_readsLevel a1 a2 σ)) (hg_X4_readsQ : ∀ (l : Launch) (a1 : Int32) (σ : Sg), oMI l yX4_readsQ wsX4_readsQ (5 + d) (oX x) [.ref (xa x 3), .int a1] σ (g_X4_readsQ a1 σ)) (hg_X4_readsNot : ∀ (l : Launch) (a1 : Int32) (σ : Sg), oMI l yX4_readsNot wsX4_readsNot (5 + d) (oX x) [.ref (xa x 3), .int a1] σ (g_X4_readsNot a1 σ)) (hg_X4_readsGroup : ∀ (l : Launch) (a1 : Int32) (σ : Sg), oMI l yX4_readsGroup wsX4_readsGroup (5 + d) (oX x) [.ref (xa x 3), .int a1] σ (g_X4_readsGroup a1 σ)) (C : oC κ (oX x) 6 cX4_readsLevel RX4 wsX4_readsLevel (5 + (d + 1)) (some .boolean))  : ∀ (n : Nat) (a1 : Int32) (a2 : Int32) (a3 : Int32) (a4 : Int32) (σ : Sg), oV κ (oX x) 6 (oQi κ (oX x)) σ 44 [(0, .ref (xa x 3)), (1, .int a1), (2, .int a2), (3, .int a3), (4, .int a4)] [] (f_X4_readsLevel_44 g_X4_readsLevel g_X4_readsQ g_X4_readsNot g_X4_readsGroup  n a1 a2 a3 a4 σ) := by
  intro n
  induction n with
  | zero => intros; exact r_none
  | succ n ih => exact v_X4_readsLevel_44_b d g_X4_readsLevel g_X4_readsQ g_X4_readsNot g_X4_readsGroup hg_X4_readsLevel hg_X4_readsQ hg_X4_readsNot hg_X4_readsGroup C  _ ih
set_option maxHeartbeats 4000000 in
set_option maxRecDepth 100000 in
theorem m_X4_readsLevel (l : Launch) (x : oXp) (hI : oI (oX x)) (d : Nat) (g_X4_readsLevel : Int32 → Int32 → Sg → Option (Int32 × Sg)) (g_X4_readsQ : Int32 → Sg → Option (Int32 × Sg)) (g_X4_readsNot : Int32 → Sg → Option (Int32 × Sg)) (g_X4_readsGroup : Int32 → Sg → Option (Int32 × Sg)) (hg_X4_readsLevel : ∀ (l : Launch) (a1 : Int32) (a2 : Int32) (σ : Sg), oMI l yX4_readsLevel wsX4_readsLevel (5 + d) (oX x) [.ref (xa x 3), .int a1, .int a2] σ (g_X4_readsLevel a1 a2 σ)) (hg_X4_readsQ : ∀ (l : Launch) (a1 : Int32) (σ : Sg), oMI l yX4_readsQ wsX4_readsQ (5 + d) (oX x) [.ref (xa x 3), .int a1] σ (g_X4_readsQ a1 σ)) (hg_X4_readsNot : ∀ (l : Launch) (a1 : Int32) (σ : Sg), oMI l yX4_readsNot wsX4_readsNot (5 + d) (oX x) [.ref (xa x 3), .int a1] σ (g_X4_readsNot a1 σ)) (hg_X4_readsGroup : ∀ (l : Launch) (a1 : Int32) (σ : Sg), oMI l yX4_readsGroup wsX4_readsGroup (5 + d) (oX x) [.ref (xa x 3), .int a1] σ (g_X4_readsGroup a1 σ)) (a1 : Int32) (a2 : Int32) (σ : Sg) : oMI l yX4_readsLevel wsX4_readsLevel (5 + (d + 1)) (oX x) [.ref (xa x 3), .int a1, .int a2] σ (f_X4_readsLevel_e g_X4_readsLevel g_X4_readsQ g_X4_readsNot g_X4_readsGroup a1 a2 σ) := by
  refine oMI_of (nL := 6) (cc := cX4_readsLevel) hI (by decide +kernel) rfl (Nat.le_of_ble_eq_true rfl) ?_
  intro κ C
  have C : oC κ (oX x) 6 cX4_readsLevel RX4 wsX4_readsLevel (5 + (d + 1)) (some .boolean) := C
  unfold f_X4_readsLevel_e
  show oV κ (oX x) 6 (oQi κ (oX x)) σ 0 [(0, .ref (xa x 3)), (1, .int a1), (2, .int a2)] [] _
  refine r_ildn (pc := 0) C dX4_readsLevel_0 1 rfl ?_
  refine r_iconst (pc := 1) (v := (5 : Int32)) C dX4_readsLevel_1 ic_5 ?_
  refine r_iclt (pc := 2) (tgt := 11) C dX4_readsLevel_2 (by decide) ?_ ?_
  · refine r_aldn (pc := 11) C dX4_readsLevel_11 0 rfl ?_
    refine r_ildn (pc := 12) C dX4_readsLevel_12 1 rfl ?_
    refine r_iconst (pc := 13) (v := (1 : Int32)) C dX4_readsLevel_13 ic_1 ?_
    refine r_iadd (pc := 14) C dX4_readsLevel_14 ?_
    refine r_ildn (pc := 15) C dX4_readsLevel_15 2 rfl ?_
    refine r_cVi (pc := 16) (As := [.int (a1 + (1 : Int32)), .int a2]) (na := 2) (j := 3) (ci := 4) C (fun l => hg_X4_readsLevel l (a1 + (1 : Int32)) a2 σ) gX4_readsLevel_X4_readsLevel rfl (by decide +kernel) rfl (by decide) (by omega) (by show 3 < 80; decide) rfl rfl rfl rfl (Nat.le_of_ble_eq_true rfl) dX4_readsLevel_16 (fun r14 s13 => ?_)
    refine r_ifne (pc := 19) (tgt := 24) C dX4_readsLevel_19 (by decide) ?_ ?_
    · refine r_ildn (pc := 24) C dX4_readsLevel_24 1 rfl ?_
      refine r_iconst (pc := 25) (v := (2 : Int32)) C dX4_readsLevel_25 ic_2 ?_
      refine r_icne (pc := 26) (tgt := 33) C dX4_readsLevel_26 (by decide) ?_ ?_
      · refine r_aldn (pc := 33) C dX4_readsLevel_33 0 rfl ?_
        refine gf_tape (pc := 34) C hi_X4_readsLevel_X4 wd_X4_readsLevel_1 dX4_readsLevel_34 (fun p15 h1_p15 h2_p15 => ?_)
        refine gfN_X6_1 (pc := 37) C (o := p15) (by omega) (by omega) hi_X4_readsLevel_X6 nw_5 dX4_readsLevel_37 ?_
        refine r_nm (fun v16 => ?_)
        refine r_istn (pc := 40) (lv' := [(0, _), (1, _), (2, _), (3, _)]) C dX4_readsLevel_40 (by decide) [1, 2, 3, 0] rfl ?_
        refine r_iconst (pc := 41) (v := (0 : Int32)) C dX4_readsLevel_41 ic_0 ?_
        refine r_ist (pc := 42) (lv' := [(0, _), (1, _), (2, _), (3, _), (4, _)]) C dX4_readsLevel_42 (by decide) [1, 2, 3, 4, 0] rfl ?_
        exact v_X4_readsLevel_44 (x := x) d g_X4_readsLevel g_X4_readsQ g_X4_readsNot g_X4_readsGroup hg_X4_readsLevel hg_X4_readsQ hg_X4_readsNot hg_X4_readsGroup C fuN a1 a2 v16 (0 : Int32) s13
      · refine r_iconst (pc := 29) (v := (1 : Int32)) C dX4_readsLevel_29 ic_1 ?_
        refine r_goto (pc := 30) (tgt := 40) C dX4_readsLevel_30 (by decide) ?_
        refine r_istn (pc := 40) (lv' := [(0, _), (1, _), (2, _), (3, _)]) C dX4_readsLevel_40 (by decide) [1, 2, 3, 0] rfl ?_
        refine r_iconst (pc := 41) (v := (0 : Int32)) C dX4_readsLevel_41 ic_0 ?_
        refine r_ist (pc := 42) (lv' := [(0, _), (1, _), (2, _), (3, _), (4, _)]) C dX4_readsLevel_42 (by decide) [1, 2, 3, 4, 0] rfl ?_
        exact v_X4_readsLevel_44 (x := x) d g_X4_readsLevel g_X4_readsQ g_X4_readsNot g_X4_readsGroup hg_X4_readsLevel hg_X4_readsQ hg_X4_readsNot hg_X4_readsGroup C fuN a1 a2 (1 : Int32) (0 : Int32) s13
    · refine r_iconst (pc := 22) (v := (0 : Int32)) C dX4_readsLevel_22 ic_0 ?_
      exact r_zret (pc := 23) C (by decide) dX4_readsLevel_23
  · refine r_aldn (pc := 5) C dX4_readsLevel_5 0 rfl ?_
    refine r_ildn (pc := 6) C dX4_readsLevel_6 2 rfl ?_
    refine r_cVi (pc := 7) (As := [.int a2]) (na := 1) (j := 3) (ci := 4) C (fun l => hg_X4_readsQ l a2 σ) gX4_readsLevel_X4_readsQ rfl (by decide +kernel) rfl (by decide) (by omega) (by show 3 < 80; decide) rfl rfl rfl rfl (Nat.le_of_ble_eq_true rfl) dX4_readsLevel_7 (fun r18 s17 => ?_)
    refine r_ckb (fun h19 => ?_)
    exact r_zret (pc := 10) C (isb_nar h19).1 dX4_readsLevel_10
set_option maxHeartbeats 4000000 in
set_option maxRecDepth 100000 in
theorem v_X4_readsQ_19_b {κ : oK} {x : oXp} (d : Nat) (g_X4_readsLevel : Int32 → Int32 → Sg → Option (Int32 × Sg)) (g_X4_readsQ : Int32 → Sg → Option (Int32 × Sg)) (g_X4_readsNot : Int32 → Sg → Option (Int32 × Sg)) (g_X4_readsGroup : Int32 → Sg → Option (Int32 × Sg)) (hg_X4_readsLevel : ∀ (l : Launch) (a1 : Int32) (a2 : Int32) (σ : Sg), oMI l yX4_readsLevel wsX4_readsLevel (5 + d) (oX x) [.ref (xa x 3), .int a1, .int a2] σ (g_X4_readsLevel a1 a2 σ)) (hg_X4_readsQ : ∀ (l : Launch) (a1 : Int32) (σ : Sg), oMI l yX4_readsQ wsX4_readsQ (5 + d) (oX x) [.ref (xa x 3), .int a1] σ (g_X4_readsQ a1 σ)) (hg_X4_readsNot : ∀ (l : Launch) (a1 : Int32) (σ : Sg), oMI l yX4_readsNot wsX4_readsNot (5 + d) (oX x) [.ref (xa x 3), .int a1] σ (g_X4_readsNot a1 σ)) (hg_X4_readsGroup : ∀ (l : Launch) (a1 : Int32) (σ : Sg), oMI l yX4_readsGroup wsX4_readsGroup (5 + d) (oX x) [.ref (xa x 3), .int a1] σ (g_X4_readsGroup a1 σ)) (C : oC κ (oX x) 4 cX4_readsQ RX4 wsX4_readsQ (5 + (d + 1)) (some .boolean))  (rec19 : Int32 → Int32 → Int32 → Sg → Option (Int32 × Sg)) (hrec19 : ∀ (a1 : Int32) (a2 : Int32) (a3 : Int32) (σ : Sg), oV κ (oX x) 4 (oQi κ (oX x)) σ 19 [(0, .ref (xa x 3)), (1, .int a1), (2, .int a2), (3, .int a3)] [] (rec19 a1 a2 a3 σ)) (a1 : Int32) (a2 : Int32) (a3 : Int32) (σ : Sg) : oV κ (oX x) 4 (oQi κ (oX x)) σ 19 [(0, .ref (xa x 3)), (1, .int a1), (2, .int a2), (3, .int a3)] [] (f_X4_readsQ_19_b g_X4_readsLevel g_X4_readsQ g_X4_readsNot g_X4_readsGroup  rec19 a1 a2 a3 σ) := by
  unfold f_X4_readsQ_19_b
  refine r_ildn (pc := 19) C dX4_readsQ_19 3 rfl ?_
  refine r_iconst (pc := 20) (v := (3 : Int32)) C dX4_readsQ_20 ic_3 ?_
  refine r_icge (pc := 21) (tgt := 68) C dX4_readsQ_21 (by decide) ?_ ?_
  · refine r_ildn (pc := 68) C dX4_readsQ_68 1 rfl ?_
    refine r_iconst (pc := 69) (v := (5 : Int32)) C dX4_readsQ_69 ic_5 ?_
    refine r_iclt (pc := 70) (tgt := 75) C dX4_readsQ_70 (by decide) ?_ ?_
    · refine r_ildn (pc := 75) C dX4_readsQ_75 2 rfl ?_
      refine r_bipush (pc := 76) (v := (33 : Int32)) C dX4_readsQ_76 bp_33 ?_
      refine r_icne (pc := 78) (tgt := 89) C dX4_readsQ_78 (by decide) ?_ ?_
      · refine r_ildn (pc := 89) C dX4_readsQ_89 2 rfl ?_
        refine r_bipush (pc := 90) (v := (40 : Int32)) C dX4_readsQ_90 bp_40 ?_
        refine r_icne (pc := 92) (tgt := 109) C dX4_readsQ_92 (by decide) ?_ ?_
        · refine r_iconst (pc := 109) (v := (0 : Int32)) C dX4_readsQ_109 ic_0 ?_
          exact r_zret (pc := 110) C (by decide) dX4_readsQ_110
        · refine r_aldn (pc := 95) C dX4_readsQ_95 0 rfl ?_
          refine r_ildn (pc := 96) C dX4_readsQ_96 1 rfl ?_
          refine r_iconst (pc := 97) (v := (1 : Int32)) C dX4_readsQ_97 ic_1 ?_
          refine r_iadd (pc := 98) C dX4_readsQ_98 ?_
          refine r_cVi (pc := 99) (As := [.int (a1 + (1 : Int32))]) (na := 1) (j := 3) (ci := 4) C (fun l => hg_X4_readsGroup l (a1 + (1 : Int32)) σ) gX4_readsQ_X4_readsGroup rfl (by decide +kernel) rfl (by decide) (by omega) (by show 3 < 80; decide) rfl rfl rfl rfl (Nat.le_of_ble_eq_true rfl) dX4_readsQ_99 (fun r2 s1 => ?_)
          refine r_ifeq (pc := 102) (tgt := 109) C dX4_readsQ_102 (by decide) ?_ ?_
          · refine r_iconst (pc := 109) (v := (0 : Int32)) C dX4_readsQ_109 ic_0 ?_
            exact r_zret (pc := 110) C (by decide) dX4_readsQ_110
          · refine r_iconst (pc := 105) (v := (1 : Int32)) C dX4_readsQ_105 ic_1 ?_
            refine r_goto (pc := 106) (tgt := 110) C dX4_readsQ_106 (by decide) ?_
            exact r_zret (pc := 110) C (by decide) dX4_readsQ_110
      · refine r_aldn (pc := 81) C dX4_readsQ_81 0 rfl ?_
        refine r_ildn (pc := 82) C dX4_readsQ_82 1 rfl ?_
        refine r_iconst (pc := 83) (v := (1 : Int32)) C dX4_readsQ_83 ic_1 ?_
        refine r_iadd (pc := 84) C dX4_readsQ_84 ?_
        refine r_cVi (pc := 85) (As := [.int (a1 + (1 : Int32))]) (na := 1) (j := 3) (ci := 4) C (fun l => hg_X4_readsNot l (a1 + (1 : Int32)) σ) gX4_readsQ_X4_readsNot rfl (by decide +kernel) rfl (by decide) (by omega) (by show 3 < 80; decide) rfl rfl rfl rfl (Nat.le_of_ble_eq_true rfl) dX4_readsQ_85 (fun r4 s3 => ?_)
        refine r_ckb (fun h5 => ?_)
        exact r_zret (pc := 88) C (isb_nar h5).1 dX4_readsQ_88
    · refine r_iconst (pc := 73) (v := (0 : Int32)) C dX4_readsQ_73 ic_0 ?_
      exact r_zret (pc := 74) C (by decide) dX4_readsQ_74
  · refine r_ildn (pc := 24) C dX4_readsQ_24 2 rfl ?_
    refine r_gsN (pc := 25) C wd_X4_readsQ_1 dX4_readsQ_25 ?_
    refine r_iconst (pc := 28) (v := (3 : Int32)) C dX4_readsQ_28 ic_3 ?_
    refine r_aldn (pc := 29) C dX4_readsQ_29 0 rfl ?_
    refine gf_X4_2_3 (pc := 30) C hi_X4_readsQ_X4 wd_X4_readsQ_2 dX4_readsQ_30 ?_
    refine r_imul (pc := 33) C dX4_readsQ_33 ?_
    refine r_ildn (pc := 34) C dX4_readsQ_34 3 rfl ?_
    refine r_iadd (pc := 35) C dX4_readsQ_35 ?_
    refine r_ldN (pc := 36) C dX4_readsQ_36 ?_
    refine r_icne (pc := 37) (tgt := 62) C dX4_readsQ_37 (by decide) ?_ ?_
    · refine r_iinc (pc := 62) (v := (1 : Int32)) (lv1 := fun y => [(0, _), (1, _), (2, _), (3, .int y)]) C dX4_readsQ_62 ic_1 3 rfl (by decide) [1, 2, 3, 0] (fun _ => rfl) (fun v6 => ?_)
      refine r_goto (pc := 65) (tgt := 19) C dX4_readsQ_65 (by decide) ?_
      exact hrec19 a1 a2 v6 σ
    · refine r_aldn (pc := 40) C dX4_readsQ_40 0 rfl ?_
      refine r_dup (pc := 41) C dX4_readsQ_41 rfl ?_
      refine gf_X4_3_3 (pc := 42) C hi_X4_readsQ_X4 wd_X4_readsQ_3 dX4_readsQ_42 ?_
      refine r_iconst (pc := 45) (v := (1 : Int32)) C dX4_readsQ_45 ic_1 ?_
      refine r_iadd (pc := 46) C dX4_readsQ_46 ?_
      refine pf_X4_3_3 (pc := 47) C hi_X4_readsQ_X4 wd_X4_readsQ_3 dX4_readsQ_47 (fun s7 => ?_)
      refine r_aldn (pc := 50) C dX4_readsQ_50 0 rfl ?_
      refine gf_X4_0_3 (pc := 51) C hi_X4_readsQ_X4 wd_X4_readsQ_4 dX4_readsQ_51 ?_
      refine r_iconst (pc := 54) (v := (-1 : Int32)) C dX4_readsQ_54 ic_m1 ?_
      refine r_ildn (pc := 55) C dX4_readsQ_55 3 rfl ?_
      refine r_isub (pc := 56) C dX4_readsQ_56 ?_
      refine k_X6_add (x := x) (pc := 57) (o0 := 56) (a1 := ((-1 : Int32) - a3)) C gX4_readsQ_X6_add (by omega) (by omega) (by omega) (Nat.le_of_ble_eq_true rfl) dX4_readsQ_57 (fun _ s8 => ?_)
      refine r_iconst (pc := 60) (v := (1 : Int32)) C dX4_readsQ_60 ic_1 ?_
      exact r_zret (pc := 61) C (by decide) dX4_readsQ_61
theorem v_X4_readsQ_19 {κ : oK} {x : oXp} (d : Nat) (g_X4_readsLevel : Int32 → Int32 → Sg → Option (Int32 × Sg)) (g_X4_readsQ : Int32 → Sg → Option (Int32 × Sg)) (g_X4_readsNot : Int32 → Sg → Option (Int32 × Sg)) (g_X4_readsGroup : Int32 → Sg → Option (Int32 × Sg)) (hg_X4_readsLevel : ∀ (l : Launch) (a1 : Int32) (a2 : Int32) (σ : Sg), oMI l yX4_readsLevel wsX4_readsLevel (5 + d) (oX x) [.ref (xa x 3), .int a1, .int a2] σ (g_X4_readsLevel a1 a2 σ)) (hg_X4_readsQ : ∀ (l : Launch) (a1 : Int32) (σ : Sg), oMI l yX4_readsQ wsX4_readsQ (5 + d) (oX x) [.ref (xa x 3), .int a1] σ (g_X4_readsQ a1 σ)) (hg_X4_readsNot : ∀ (l : Launch) (a1 : Int32) (σ : Sg), oMI l yX4_readsNot wsX4_readsNot (5 + d) (oX x) [.ref (xa x 3), .int a1] σ (g_X4_readsNot a1 σ)) (hg_X4_readsGroup : ∀ (l : Launch) (a1 : Int32) (σ : Sg), oMI l yX4_readsGroup wsX4_readsGroup (5 + d) (oX x) [.ref (xa x 3), .int a1] σ (g_X4_readsGroup a1 σ)) (C : oC κ (oX x) 4 cX4_readsQ RX4 wsX4_readsQ (5 + (d + 1)) (some .boolean))  : ∀ (n : Nat) (a1 : Int32) (a2 : Int32) (a3 : Int32) (σ : Sg), oV κ (oX x) 4 (oQi κ (oX x)) σ 19 [(0, .ref (xa x 3)), (1, .int a1), (2, .int a2), (3, .int a3)] [] (f_X4_readsQ_19 g_X4_readsLevel g_X4_readsQ g_X4_readsNot g_X4_readsGroup  n a1 a2 a3 σ) := by
  intro n
  induction n with
  | zero => intros; exact r_none
  | succ n ih => exact v_X4_readsQ_19_b d g_X4_readsLevel g_X4_readsQ g_X4_readsNot g_X4_readsGroup hg_X4_readsLevel hg_X4_readsQ hg_X4_readsNot hg_X4_readsGroup C  _ ih
set_option maxHeartbeats 4000000 in
set_option maxRecDepth 100000 in
theorem m_X4_readsQ (l : Launch) (x : oXp) (hI : oI (oX x)) (d : Nat) (g_X4_readsLevel : Int32 → Int32 → Sg → Option (Int32 × Sg)) (g_X4_readsQ : Int32 → Sg → Option (Int32 × Sg)) (g_X4_readsNot : Int32 → Sg → Option (Int32 × Sg)) (g_X4_readsGroup : Int32 → Sg → Option (Int32 × Sg)) (hg_X4_readsLevel : ∀ (l : Launch) (a1 : Int32) (a2 : Int32) (σ : Sg), oMI l yX4_readsLevel wsX4_readsLevel (5 + d) (oX x) [.ref (xa x 3), .int a1, .int a2] σ (g_X4_readsLevel a1 a2 σ)) (hg_X4_readsQ : ∀ (l : Launch) (a1 : Int32) (σ : Sg), oMI l yX4_readsQ wsX4_readsQ (5 + d) (oX x) [.ref (xa x 3), .int a1] σ (g_X4_readsQ a1 σ)) (hg_X4_readsNot : ∀ (l : Launch) (a1 : Int32) (σ : Sg), oMI l yX4_readsNot wsX4_readsNot (5 + d) (oX x) [.ref (xa x 3), .int a1] σ (g_X4_readsNot a1 σ)) (hg_X4_readsGroup : ∀ (l : Launch) (a1 : Int32) (σ : Sg), oMI l yX4_readsGroup wsX4_readsGroup (5 + d) (oX x) [.ref (xa x 3), .int a1] σ (g_X4_readsGroup a1 σ)) (a1 : Int32) (σ : Sg) : oMI l yX4_readsQ wsX4_readsQ (5 + (d + 1)) (oX x) [.ref (xa x 3), .int a1] σ (f_X4_readsQ_e g_X4_readsLevel g_X4_readsQ g_X4_readsNot g_X4_readsGroup a1 σ) := by
  refine oMI_of (nL := 4) (cc := cX4_readsQ) hI (by decide +kernel) rfl (Nat.le_of_ble_eq_true rfl) ?_
  intro κ C
  have C : oC κ (oX x) 4 cX4_readsQ RX4 wsX4_readsQ (5 + (d + 1)) (some .boolean) := C
  unfold f_X4_readsQ_e
  show oV κ (oX x) 4 (oQi κ (oX x)) σ 0 [(0, .ref (xa x 3)), (1, .int a1)] [] _
  refine r_aldn (pc := 0) C dX4_readsQ_0 0 rfl ?_
  refine k_X4_next (x := x) (pc := 1)  C gX4_readsQ_X4_next (by omega)  (Nat.le_of_ble_eq_true rfl) dX4_readsQ_1 (fun r11 s10 => ?_)
  refine r_istn (pc := 4) (lv' := [(0, _), (1, _), (2, _)]) C dX4_readsQ_4 (by decide) [1, 2, 0] rfl ?_
  refine r_ildn (pc := 5) C dX4_readsQ_5 2 rfl ?_
  refine kS_X4_isDigit (x := x) (pc := 6) (a0 := r11) C gX4_readsQ_X4_isDigit (by omega)  (Nat.le_of_ble_eq_true rfl) dX4_readsQ_6 (fun r13 s12 => ?_)
  refine r_ifeq (pc := 9) (tgt := 17) C dX4_readsQ_9 (by decide) ?_ ?_
  · refine r_iconst (pc := 17) (v := (0 : Int32)) C dX4_readsQ_17 ic_0 ?_
    refine r_istn (pc := 18) (lv' := [(0, _), (1, _), (2, _), (3, _)]) C dX4_readsQ_18 (by decide) [1, 2, 3, 0] rfl ?_
    exact v_X4_readsQ_19 (x := x) d g_X4_readsLevel g_X4_readsQ g_X4_readsNot g_X4_readsGroup hg_X4_readsLevel hg_X4_readsQ hg_X4_readsNot hg_X4_readsGroup C fuN a1 r11 (0 : Int32) s12
  · refine r_aldn (pc := 12) C dX4_readsQ_12 0 rfl ?_
    refine k_X4_readsNumber (x := x) (pc := 13)  C gX4_readsQ_X4_readsNumber (by omega)  (Nat.le_of_ble_eq_true rfl) dX4_readsQ_13 (fun r15 s14 => ?_)
    refine r_ckb (fun h16 => ?_)
    exact r_zret (pc := 16) C (isb_nar h16).1 dX4_readsQ_16
set_option maxHeartbeats 4000000 in
set_option maxRecDepth 100000 in
theorem m_X4_readsNot (l : Launch) (x : oXp) (hI : oI (oX x)) (d : Nat) (g_X4_readsLevel : Int32 → Int32 → Sg → Option (Int32 × Sg)) (g_X4_readsQ : Int32 → Sg → Option (Int32 × Sg)) (g_X4_readsNot : Int32 → Sg → Option (Int32 × Sg)) (g_X4_readsGroup : Int32 → Sg → Option (Int32 × Sg)) (hg_X4_readsLevel : ∀ (l : Launch) (a1 : Int32) (a2 : Int32) (σ : Sg), oMI l yX4_readsLevel wsX4_readsLevel (5 + d) (oX x) [.ref (xa x 3), .int a1, .int a2] σ (g_X4_readsLevel a1 a2 σ)) (hg_X4_readsQ : ∀ (l : Launch) (a1 : Int32) (σ : Sg), oMI l yX4_readsQ wsX4_readsQ (5 + d) (oX x) [.ref (xa x 3), .int a1] σ (g_X4_readsQ a1 σ)) (hg_X4_readsNot : ∀ (l : Launch) (a1 : Int32) (σ : Sg), oMI l yX4_readsNot wsX4_readsNot (5 + d) (oX x) [.ref (xa x 3), .int a1] σ (g_X4_readsNot a1 σ)) (hg_X4_readsGroup : ∀ (l : Launch) (a1 : Int32) (σ : Sg), oMI l yX4_readsGroup wsX4_readsGroup (5 + d) (oX x) [.ref (xa x 3), .int a1] σ (g_X4_readsGroup a1 σ)) (a1 : Int32) (σ : Sg) : oMI l yX4_readsNot wsX4_readsNot (5 + (d + 1)) (oX x) [.ref (xa x 3), .int a1] σ (f_X4_readsNot_e g_X4_readsLevel g_X4_readsQ g_X4_readsNot g_X4_readsGroup a1 σ) := by
  refine oMI_of (nL := 2) (cc := cX4_readsNot) hI (by decide +kernel) rfl (Nat.le_of_ble_eq_true rfl) ?_
  intro κ C
  have C : oC κ (oX x) 2 cX4_readsNot RX4 wsX4_readsNot (5 + (d + 1)) (some .boolean) := C
  unfold f_X4_readsNot_e
  show oV κ (oX x) 2 (oQi κ (oX x)) σ 0 [(0, .ref (xa x 3)), (1, .int a1)] [] _
  refine r_aldn (pc := 0) C dX4_readsNot_0 0 rfl ?_
  refine r_dup (pc := 1) C dX4_readsNot_1 rfl ?_
  refine gf_X4_3_3 (pc := 2) C hi_X4_readsNot_X4 wd_X4_readsNot_1 dX4_readsNot_2 ?_
  refine r_iconst (pc := 5) (v := (1 : Int32)) C dX4_readsNot_5 ic_1 ?_
  refine r_iadd (pc := 6) C dX4_readsNot_6 ?_
  refine pf_X4_3_3 (pc := 7) C hi_X4_readsNot_X4 wd_X4_readsNot_1 dX4_readsNot_7 (fun s1 => ?_)
  refine r_aldn (pc := 10) C dX4_readsNot_10 0 rfl ?_
  refine r_ildn (pc := 11) C dX4_readsNot_11 1 rfl ?_
  refine r_cVi (pc := 12) (As := [.int a1]) (na := 1) (j := 3) (ci := 4) C (fun l => hg_X4_readsQ l a1 s1) gX4_readsNot_X4_readsQ rfl (by decide +kernel) rfl (by decide) (by omega) (by show 3 < 80; decide) rfl rfl rfl rfl (Nat.le_of_ble_eq_true rfl) dX4_readsNot_12 (fun r3 s2 => ?_)
  refine r_ifne (pc := 15) (tgt := 20) C dX4_readsNot_15 (by decide) ?_ ?_
  · refine r_aldn (pc := 20) C dX4_readsNot_20 0 rfl ?_
    refine gf_X4_0_3 (pc := 21) C hi_X4_readsNot_X4 wd_X4_readsNot_2 dX4_readsNot_21 ?_
    refine r_bipush (pc := 24) (v := (-33 : Int32)) C dX4_readsNot_24 bp_m33 ?_
    refine k_X6_add (x := x) (pc := 26) (o0 := 56) (a1 := (-33 : Int32)) C gX4_readsNot_X6_add (by omega) (by omega) (by omega) (Nat.le_of_ble_eq_true rfl) dX4_readsNot_26 (fun _ s4 => ?_)
    refine r_iconst (pc := 29) (v := (1 : Int32)) C dX4_readsNot_29 ic_1 ?_
    exact r_zret (pc := 30) C (by decide) dX4_readsNot_30
  · refine r_iconst (pc := 18) (v := (0 : Int32)) C dX4_readsNot_18 ic_0 ?_
    exact r_zret (pc := 19) C (by decide) dX4_readsNot_19
set_option maxHeartbeats 4000000 in
set_option maxRecDepth 100000 in
theorem m_X4_readsGroup (l : Launch) (x : oXp) (hI : oI (oX x)) (d : Nat) (g_X4_readsLevel : Int32 → Int32 → Sg → Option (Int32 × Sg)) (g_X4_readsQ : Int32 → Sg → Option (Int32 × Sg)) (g_X4_readsNot : Int32 → Sg → Option (Int32 × Sg)) (g_X4_readsGroup : Int32 → Sg → Option (Int32 × Sg)) (hg_X4_readsLevel : ∀ (l : Launch) (a1 : Int32) (a2 : Int32) (σ : Sg), oMI l yX4_readsLevel wsX4_readsLevel (5 + d) (oX x) [.ref (xa x 3), .int a1, .int a2] σ (g_X4_readsLevel a1 a2 σ)) (hg_X4_readsQ : ∀ (l : Launch) (a1 : Int32) (σ : Sg), oMI l yX4_readsQ wsX4_readsQ (5 + d) (oX x) [.ref (xa x 3), .int a1] σ (g_X4_readsQ a1 σ)) (hg_X4_readsNot : ∀ (l : Launch) (a1 : Int32) (σ : Sg), oMI l yX4_readsNot wsX4_readsNot (5 + d) (oX x) [.ref (xa x 3), .int a1] σ (g_X4_readsNot a1 σ)) (hg_X4_readsGroup : ∀ (l : Launch) (a1 : Int32) (σ : Sg), oMI l yX4_readsGroup wsX4_readsGroup (5 + d) (oX x) [.ref (xa x 3), .int a1] σ (g_X4_readsGroup a1 σ)) (a1 : Int32) (σ : Sg) : oMI l yX4_readsGroup wsX4_readsGroup (5 + (d + 1)) (oX x) [.ref (xa x 3), .int a1] σ (f_X4_readsGroup_e g_X4_readsLevel g_X4_readsQ g_X4_readsNot g_X4_readsGroup a1 σ) := by
  refine oMI_of (nL := 2) (cc := cX4_readsGroup) hI (by decide +kernel) rfl (Nat.le_of_ble_eq_true rfl) ?_
  intro κ C
  have C : oC κ (oX x) 2 cX4_readsGroup RX4 wsX4_readsGroup (5 + (d + 1)) (some .boolean) := C
  unfold f_X4_readsGroup_e
  show oV κ (oX x) 2 (oQi κ (oX x)) σ 0 [(0, .ref (xa x 3)), (1, .int a1)] [] _
  refine r_aldn (pc := 0) C dX4_readsGroup_0 0 rfl ?_
  refine r_dup (pc := 1) C dX4_readsGroup_1 rfl ?_
  refine gf_X4_3_3 (pc := 2) C hi_X4_readsGroup_X4 wd_X4_readsGroup_1 dX4_readsGroup_2 ?_
  refine r_iconst (pc := 5) (v := (1 : Int32)) C dX4_readsGroup_5 ic_1 ?_
  refine r_iadd (pc := 6) C dX4_readsGroup_6 ?_
  refine pf_X4_3_3 (pc := 7) C hi_X4_readsGroup_X4 wd_X4_readsGroup_1 dX4_readsGroup_7 (fun s1 => ?_)
  refine r_aldn (pc := 10) C dX4_readsGroup_10 0 rfl ?_
  refine r_iconst (pc := 11) (v := (0 : Int32)) C dX4_readsGroup_11 ic_0 ?_
  refine r_ildn (pc := 12) C dX4_readsGroup_12 1 rfl ?_
  refine r_cVi (pc := 13) (As := [.int (0 : Int32), .int a1]) (na := 2) (j := 3) (ci := 4) C (fun l => hg_X4_readsLevel l (0 : Int32) a1 s1) gX4_readsGroup_X4_readsLevel rfl (by decide +kernel) rfl (by decide) (by omega) (by show 3 < 80; decide) rfl rfl rfl rfl (Nat.le_of_ble_eq_true rfl) dX4_readsGroup_13 (fun r3 s2 => ?_)
  refine r_ifeq (pc := 16) (tgt := 28) C dX4_readsGroup_16 (by decide) ?_ ?_
  · refine r_iconst (pc := 28) (v := (0 : Int32)) C dX4_readsGroup_28 ic_0 ?_
    exact r_zret (pc := 29) C (by decide) dX4_readsGroup_29
  · refine r_aldn (pc := 19) C dX4_readsGroup_19 0 rfl ?_
    refine k_X4_next (x := x) (pc := 20)  C gX4_readsGroup_X4_next (by omega)  (Nat.le_of_ble_eq_true rfl) dX4_readsGroup_20 (fun r5 s4 => ?_)
    refine r_bipush (pc := 23) (v := (41 : Int32)) C dX4_readsGroup_23 bp_41 ?_
    refine r_iceq (pc := 25) (tgt := 30) C dX4_readsGroup_25 (by decide) ?_ ?_
    · refine r_aldn (pc := 30) C dX4_readsGroup_30 0 rfl ?_
      refine r_dup (pc := 31) C dX4_readsGroup_31 rfl ?_
      refine gf_X4_3_3 (pc := 32) C hi_X4_readsGroup_X4 wd_X4_readsGroup_1 dX4_readsGroup_32 ?_
      refine r_iconst (pc := 35) (v := (1 : Int32)) C dX4_readsGroup_35 ic_1 ?_
      refine r_iadd (pc := 36) C dX4_readsGroup_36 ?_
      refine pf_X4_3_3 (pc := 37) C hi_X4_readsGroup_X4 wd_X4_readsGroup_1 dX4_readsGroup_37 (fun s6 => ?_)
      refine r_iconst (pc := 40) (v := (1 : Int32)) C dX4_readsGroup_40 ic_1 ?_
      exact r_zret (pc := 41) C (by decide) dX4_readsGroup_41
    · refine r_iconst (pc := 28) (v := (0 : Int32)) C dX4_readsGroup_28 ic_0 ?_
      exact r_zret (pc := 29) C (by decide) dX4_readsGroup_29
theorem mg_X4_readsLevel (x : oXp) (hI : oI (oX x)) : ∀ d : Nat, (∀ (l : Launch) (a1 : Int32) (a2 : Int32) (σ : Sg), oMI l yX4_readsLevel wsX4_readsLevel (5 + d) (oX x) [.ref (xa x 3), .int a1, .int a2] σ ((G_X4_readsLevel d).1 a1 a2 σ)) ∧ (∀ (l : Launch) (a1 : Int32) (σ : Sg), oMI l yX4_readsQ wsX4_readsQ (5 + d) (oX x) [.ref (xa x 3), .int a1] σ ((G_X4_readsLevel d).2.1 a1 σ)) ∧ (∀ (l : Launch) (a1 : Int32) (σ : Sg), oMI l yX4_readsNot wsX4_readsNot (5 + d) (oX x) [.ref (xa x 3), .int a1] σ ((G_X4_readsLevel d).2.2.1 a1 σ)) ∧ (∀ (l : Launch) (a1 : Int32) (σ : Sg), oMI l yX4_readsGroup wsX4_readsGroup (5 + d) (oX x) [.ref (xa x 3), .int a1] σ ((G_X4_readsLevel d).2.2.2 a1 σ)) := by
  intro d
  induction d with
  | zero => exact ⟨(by intros; intro _ _ h; cases h), (by intros; intro _ _ h; cases h), (by intros; intro _ _ h; cases h), (by intros; intro _ _ h; cases h)⟩
  | succ d ih => exact ⟨(fun l => m_X4_readsLevel l x hI d _ _ _ _ ih.1 ih.2.1 ih.2.2.1 ih.2.2.2), (fun l => m_X4_readsQ l x hI d _ _ _ _ ih.1 ih.2.1 ih.2.2.1 ih.2.2.2), (fun l => m_X4_readsNot l x hI d _ _ _ _ ih.1 ih.2.1 ih.2.2.1 ih.2.2.2), (fun l => m_X4_readsGroup l x hI d _ _ _ _ ih.1 ih.2.1 ih.2.2.1 ih.2.2.2)⟩
theorem mm_X4_readsLevel (l : Launch) (x : oXp) (hI : oI (oX x)) (a1 : Int32) (a2 : Int32) (σ : Sg) : oMI l yX4_readsLevel wsX4_readsLevel 69 (oX x) [.ref (xa x 3), .int a1, .int a2] σ (f_X4_readsLevel a1 a2 σ) := (mg_X4_readsLevel x hI 64).1 l a1 a2 σ
theorem mm_X4_readsQ (l : Launch) (x : oXp) (hI : oI (oX x)) (a1 : Int32) (σ : Sg) : oMI l yX4_readsQ wsX4_readsQ 69 (oX x) [.ref (xa x 3), .int a1] σ (f_X4_readsQ a1 σ) := (mg_X4_readsLevel x hI 64).2.1 l a1 σ
theorem mm_X4_readsNot (l : Launch) (x : oXp) (hI : oI (oX x)) (a1 : Int32) (σ : Sg) : oMI l yX4_readsNot wsX4_readsNot 69 (oX x) [.ref (xa x 3), .int a1] σ (f_X4_readsNot a1 σ) := (mg_X4_readsLevel x hI 64).2.2.1 l a1 σ
theorem mm_X4_readsGroup (l : Launch) (x : oXp) (hI : oI (oX x)) (a1 : Int32) (σ : Sg) : oMI l yX4_readsGroup wsX4_readsGroup 69 (oX x) [.ref (xa x 3), .int a1] σ (f_X4_readsGroup a1 σ) := (mg_X4_readsLevel x hI 64).2.2.2 l a1 σ
theorem k_X4_readsLevel {κ : oK} {nL : Nat} {cc : ByteArray} {own : String} {Ts : List Cond} {n : Nat} {ret : Option FieldType} {α : Type} {Q : α → Sg → State → Prop} {σ : Sg} {pc : Nat} {lv : List (Nat × Value)} {st : List Value} {x : oXp} {idx : Nat} {a1 : Int32} {a2 : Int32} {K : Int32 → Sg → Option (α × Sg)} (C : oC κ (oX x) nL cc own Ts n ret) (hG : GoodIn Ts (wsV own idx RX4 yX4_readsLevel wsX4_readsLevel)) (hn : 69 + 1 ≤ n) (hst : (st.map fun v => v.category).sum ≤ 8) (hd : decode cc pc = .ok (.invokevirtual idx, 3)) (kk : ∀ (r1 : Int32) (σ1 : Sg), oV κ (oX x) nL Q σ1 (pc + 3) lv (.int r1 :: st) (K r1 σ1)) : oV κ (oX x) nL Q σ pc lv (.int a2 :: .int a1 :: .ref (xa x 3) :: st) (bnd (f_X4_readsLevel a1 a2 σ) K) := by
  have hI : oI (oX x) := oC_I C
  exact r_cVi (As := [.int a1, .int a2]) (na := 2) (j := 3) (ci := 4) C (fun l => mm_X4_readsLevel l x hI a1 a2 σ) hG rfl (by decide +kernel) rfl (by decide) hn (by show 3 < 80; decide) rfl rfl rfl rfl hst hd kk
set_option maxHeartbeats 4000000 in
set_option maxRecDepth 100000 in
theorem m_X4_reads (l : Launch) (x : oXp) (hI : oI (oX x)) (a2 : Int32) (σ : Sg) : oMI l yX4_reads wsX4_reads 70 (oX x) [.ref (xa x 3), .ref (xa x 44), .int a2] σ (f_X4_reads  a2 σ) := by
  refine oMI_of (nL := 3) (cc := cX4_reads) hI (by decide +kernel) rfl (Nat.le_of_ble_eq_true rfl) ?_
  intro κ C
  have C : oC κ (oX x) 3 cX4_reads RX4 wsX4_reads 70 (some .boolean) := C
  unfold f_X4_reads
  show oV κ (oX x) 3 (oQi κ (oX x)) σ 0 [(0, .ref (xa x 3)), (1, .ref (xa x 44)), (2, .int a2)] [] _
  refine r_aldn (pc := 0) C dX4_reads_0 0 rfl ?_
  refine r_aldn (pc := 1) C dX4_reads_1 1 rfl ?_
  refine pf_tape (pc := 2) (o := 44) C (by omega) (by omega) hi_X4_reads_X4 wd_X4_reads_1 dX4_reads_2 (fun s1 => ?_)
  refine r_aldn (pc := 5) C dX4_reads_5 0 rfl ?_
  refine r_ildn (pc := 6) C dX4_reads_6 2 rfl ?_
  refine pf_X4_2_3 (pc := 7) C hi_X4_reads_X4 wd_X4_reads_2 dX4_reads_7 (fun s2 => ?_)
  refine r_aldn (pc := 10) C dX4_reads_10 0 rfl ?_
  refine r_iconst (pc := 11) (v := (0 : Int32)) C dX4_reads_11 ic_0 ?_
  refine pf_X4_3_3 (pc := 12) C hi_X4_reads_X4 wd_X4_reads_3 dX4_reads_12 (fun s3 => ?_)
  refine r_aldn (pc := 15) C dX4_reads_15 0 rfl ?_
  refine gf_X4_0_3 (pc := 16) C hi_X4_reads_X4 wd_X4_reads_4 dX4_reads_16 ?_
  refine k_X6_clear (x := x) (pc := 19) (o0 := 56) C gX4_reads_X6_clear (by omega) (by omega) (by omega) (Nat.le_of_ble_eq_true rfl) dX4_reads_19 (fun _ s4 => ?_)
  refine r_aldn (pc := 22) C dX4_reads_22 0 rfl ?_
  refine r_iconst (pc := 23) (v := (0 : Int32)) C dX4_reads_23 ic_0 ?_
  refine r_iconst (pc := 24) (v := (0 : Int32)) C dX4_reads_24 ic_0 ?_
  refine k_X4_readsLevel (x := x) (pc := 25) (a1 := (0 : Int32)) (a2 := (0 : Int32)) C gX4_reads_X4_readsLevel (by omega)  (Nat.le_of_ble_eq_true rfl) dX4_reads_25 (fun r7 s6 => ?_)
  refine r_ifeq (pc := 28) (tgt := 46) C dX4_reads_28 (by decide) ?_ ?_
  · refine r_iconst (pc := 46) (v := (0 : Int32)) C dX4_reads_46 ic_0 ?_
    exact r_zret (pc := 47) C (by decide) dX4_reads_47
  · refine r_aldn (pc := 31) C dX4_reads_31 0 rfl ?_
    refine gf_X4_3_3 (pc := 32) C hi_X4_reads_X4 wd_X4_reads_3 dX4_reads_32 ?_
    refine r_aldn (pc := 35) C dX4_reads_35 1 rfl ?_
    refine gfN_X6_1_44 (pc := 36) C hi_X4_reads_X6 nw_5 dX4_reads_36 ?_
    refine r_icne (pc := 39) (tgt := 46) C dX4_reads_39 (by decide) ?_ ?_
    · refine r_iconst (pc := 46) (v := (0 : Int32)) C dX4_reads_46 ic_0 ?_
      exact r_zret (pc := 47) C (by decide) dX4_reads_47
    · refine r_iconst (pc := 42) (v := (1 : Int32)) C dX4_reads_42 ic_1 ?_
      refine r_goto (pc := 43) (tgt := 47) C dX4_reads_43 (by decide) ?_
      exact r_zret (pc := 47) C (by decide) dX4_reads_47
theorem k_X4_reads {κ : oK} {nL : Nat} {cc : ByteArray} {own : String} {Ts : List Cond} {n : Nat} {ret : Option FieldType} {α : Type} {Q : α → Sg → State → Prop} {σ : Sg} {pc : Nat} {lv : List (Nat × Value)} {st : List Value} {x : oXp} {idx : Nat} {a2 : Int32} {K : Int32 → Sg → Option (α × Sg)} (C : oC κ (oX x) nL cc own Ts n ret) (hG : GoodIn Ts (wsV own idx RX4 yX4_reads wsX4_reads)) (hn : 70 + 1 ≤ n) (hst : (st.map fun v => v.category).sum ≤ 8) (hd : decode cc pc = .ok (.invokevirtual idx, 3)) (kk : ∀ (r1 : Int32) (σ1 : Sg), oV κ (oX x) nL Q σ1 (pc + 3) lv (.int r1 :: st) (K r1 σ1)) : oV κ (oX x) nL Q σ pc lv (.int a2 :: .ref (xa x 44) :: .ref (xa x 3) :: st) (bnd (f_X4_reads a2 σ) K) := by
  have hI : oI (oX x) := oC_I C
  exact r_cVi (As := [.ref (xa x 44), .int a2]) (na := 2) (j := 3) (ci := 4) C (fun l => m_X4_reads l x hI a2 σ) hG rfl (by decide +kernel) rfl (by decide) hn (by show 3 < 80; decide) rfl rfl rfl rfl hst hd kk
set_option maxHeartbeats 4000000 in
set_option maxRecDepth 100000 in
theorem v_X5_lastBehind_5_b {κ : oK} {x : oXp} (C : oC κ (oX x) 5 cX5_lastBehind RX5 wsX5_lastBehind 5 (some .int))  (rec5 : Int32 → Int32 → Int32 → Int32 → Sg → Option (Int32 × Sg)) (hrec5 : ∀ (a1 : Int32) (a2 : Int32) (a3 : Int32) (a4 : Int32) (σ : Sg), oV κ (oX x) 5 (oQi κ (oX x)) σ 5 [(0, .ref (xa x 1)), (1, .int a1), (2, .int a2), (3, .int a3), (4, .int a4)] [] (rec5 a1 a2 a3 a4 σ)) (a1 : Int32) (a2 : Int32) (a3 : Int32) (a4 : Int32) (σ : Sg) : oV κ (oX x) 5 (oQi κ (oX x)) σ 5 [(0, .ref (xa x 1)), (1, .int a1), (2, .int a2), (3, .int a3), (4, .int a4)] [] (f_X5_lastBehind_5_b   rec5 a1 a2 a3 a4 σ) := by
  unfold f_X5_lastBehind_5_b
  refine r_ild (pc := 5) C dX5_lastBehind_5 4 rfl ?_
  refine r_aldn (pc := 7) C dX5_lastBehind_7 0 rfl ?_
  refine gfN_X0_1_1 (pc := 8) C hi_X5_lastBehind_X0 nw_27 dX5_lastBehind_8 ?_
  refine r_icge (pc := 11) (tgt := 49) C dX5_lastBehind_11 (by decide) ?_ ?_
  · refine r_ildn (pc := 49) C dX5_lastBehind_49 3 rfl ?_
    exact r_iret (pc := 50) C dX5_lastBehind_50
  · refine r_ild (pc := 14) C dX5_lastBehind_14 4 rfl ?_
    refine r_ildn (pc := 16) C dX5_lastBehind_16 1 rfl ?_
    refine kN_X9_isOf (x := x) (pc := 17) (a0 := a4) (a1 := a1) C gX5_lastBehind_X9_isOf_n50 nw_52 wd_X5_lastBehind_6 wd_X5_lastBehind_5 (by omega)  (Nat.le_of_ble_eq_true rfl) dX5_lastBehind_17 (fun r2 s1 => ?_)
    refine r_ifeq (pc := 20) (tgt := 43) C dX5_lastBehind_20 (by decide) ?_ ?_
    · refine r_iinc (pc := 43) (v := (1 : Int32)) (lv1 := fun y => [(0, _), (1, _), (2, _), (3, _), (4, .int y)]) C dX5_lastBehind_43 ic_1 4 rfl (by decide) [1, 2, 3, 4, 0] (fun _ => rfl) (fun v3 => ?_)
      refine r_goto (pc := 46) (tgt := 5) C dX5_lastBehind_46 (by decide) ?_
      exact hrec5 a1 a2 a3 v3 s1
    · refine r_ildn (pc := 23) C dX5_lastBehind_23 3 rfl ?_
      refine r_aldn (pc := 24) C dX5_lastBehind_24 0 rfl ?_
      refine gfN_X0_0_1 (pc := 25) C hi_X5_lastBehind_X0 nw_25 dX5_lastBehind_25 ?_
      refine r_ild (pc := 28) C dX5_lastBehind_28 4 rfl ?_
      refine qa_Ln_14 (pc := 30) C dX5_lastBehind_30 (fun p4 h1_p4 h2_p4 => ?_)
      refine r_ildn (pc := 31) C dX5_lastBehind_31 2 rfl ?_
      refine r_aldn (pc := 32) C dX5_lastBehind_32 0 rfl ?_
      refine gfN_X0_3_1 (pc := 33) C hi_X5_lastBehind_X0 nw_30 dX5_lastBehind_33 ?_
      refine k_X2_goesBehind (x := x) (pc := 36) (o0 := p4) (a1 := a2) (a2 := (s1 1 3)) C gX5_lastBehind_X2_goesBehind (by omega) (by omega) (by omega) (Nat.le_of_ble_eq_true rfl) dX5_lastBehind_36 (fun r6 s5 => ?_)
      refine r_mx (pc := 39) C wd_X5_lastBehind_1 wd_X5_lastBehind_2 wd_X5_lastBehind_3 wd_X5_lastBehind_4 (by omega) (Nat.le_of_ble_eq_true rfl) dX5_lastBehind_39 ?_
      refine r_nm (fun v7 => ?_)
      refine r_istn (pc := 42) (lv' := [(0, _), (1, _), (2, _), (3, _), (4, _)]) C dX5_lastBehind_42 (by decide) [1, 2, 3, 0, 4] rfl ?_
      refine r_iinc (pc := 43) (v := (1 : Int32)) (lv1 := fun y => [(0, _), (1, _), (2, _), (3, _), (4, .int y)]) C dX5_lastBehind_43 ic_1 4 rfl (by decide) [1, 2, 3, 4, 0] (fun _ => rfl) (fun v8 => ?_)
      refine r_goto (pc := 46) (tgt := 5) C dX5_lastBehind_46 (by decide) ?_
      exact hrec5 a1 a2 v7 v8 s5
theorem v_X5_lastBehind_5 {κ : oK} {x : oXp} (C : oC κ (oX x) 5 cX5_lastBehind RX5 wsX5_lastBehind 5 (some .int))  : ∀ (n : Nat) (a1 : Int32) (a2 : Int32) (a3 : Int32) (a4 : Int32) (σ : Sg), oV κ (oX x) 5 (oQi κ (oX x)) σ 5 [(0, .ref (xa x 1)), (1, .int a1), (2, .int a2), (3, .int a3), (4, .int a4)] [] (f_X5_lastBehind_5   n a1 a2 a3 a4 σ) := by
  intro n
  induction n with
  | zero => intros; exact r_none
  | succ n ih => exact v_X5_lastBehind_5_b C  _ ih
set_option maxHeartbeats 4000000 in
set_option maxRecDepth 100000 in
theorem m_X5_lastBehind (l : Launch) (x : oXp) (hI : oI (oX x)) (a1 : Int32) (a2 : Int32) (σ : Sg) : oMI l yX5_lastBehind wsX5_lastBehind 5 (oX x) [.ref (xa x 1), .int a1, .int a2] σ (f_X5_lastBehind  a1 a2 σ) := by
  refine oMI_of (nL := 5) (cc := cX5_lastBehind) hI (by decide +kernel) rfl (Nat.le_of_ble_eq_true rfl) ?_
  intro κ C
  have C : oC κ (oX x) 5 cX5_lastBehind RX5 wsX5_lastBehind 5 (some .int) := C
  unfold f_X5_lastBehind
  show oV κ (oX x) 5 (oQi κ (oX x)) σ 0 [(0, .ref (xa x 1)), (1, .int a1), (2, .int a2)] [] _
  refine r_iconst (pc := 0) (v := (0 : Int32)) C dX5_lastBehind_0 ic_0 ?_
  refine r_istn (pc := 1) (lv' := [(0, _), (1, _), (2, _), (3, _)]) C dX5_lastBehind_1 (by decide) [1, 2, 3, 0] rfl ?_
  refine r_iconst (pc := 2) (v := (0 : Int32)) C dX5_lastBehind_2 ic_0 ?_
  refine r_ist (pc := 3) (lv' := [(0, _), (1, _), (2, _), (3, _), (4, _)]) C dX5_lastBehind_3 (by decide) [1, 2, 3, 4, 0] rfl ?_
  exact v_X5_lastBehind_5 (x := x) C fuN a1 a2 (0 : Int32) (0 : Int32) σ
theorem kS_X5_lastBehind {κ : oK} {nL : Nat} {cc : ByteArray} {own : String} {Ts : List Cond} {n : Nat} {ret : Option FieldType} {α : Type} {Q : α → Sg → State → Prop} {σ : Sg} {pc : Nat} {lv : List (Nat × Value)} {st : List Value} {x : oXp} {idx : Nat} {a1 : Int32} {a2 : Int32} {K : Int32 → Sg → Option (α × Sg)} (C : oC κ (oX x) nL cc own Ts n ret) (hG : GoodIn Ts (va_wsS own idx yX5_lastBehind wsX5_lastBehind)) (hn : 5 + 1 ≤ n) (hst : (st.map fun v => v.category).sum ≤ 8) (hd : decode cc pc = .ok (.invokestatic idx, 3)) (kk : ∀ (r1 : Int32) (σ1 : Sg), oV κ (oX x) nL Q σ1 (pc + 3) lv (.int r1 :: st) (K r1 σ1)) : oV κ (oX x) nL Q σ pc lv (.int a2 :: .int a1 :: .ref (xa x 1) :: st) (bnd (f_X5_lastBehind a1 a2 σ) K) := by
  have hI : oI (oX x) := oC_I C
  exact r_cSi (As := [.ref (xa x 1), .int a1, .int a2]) (na := 3) C (fun l => m_X5_lastBehind l x hI a1 a2 σ) hG rfl (by decide +kernel) rfl (by decide) hn hst hd kk
set_option maxHeartbeats 4000000 in
set_option maxRecDepth 100000 in
theorem v_X5_firstBehind_6_b {κ : oK} {x : oXp} (C : oC κ (oX x) 6 cX5_firstBehind RX5 wsX5_firstBehind 6 (some .int))  (rec6 : Int32 → Int32 → Int32 → Sg → Option (Int32 × Sg)) (hrec6 : ∀ (a2 : Int32) (a3 : Int32) (a4 : Int32) (σ : Sg), oV κ (oX x) 6 (oQi κ (oX x)) σ 6 [(1, .ref (xa x 1)), (2, .int a2), (3, .int a3), (4, .int a4)] [] (rec6 a2 a3 a4 σ)) (a2 : Int32) (a3 : Int32) (a4 : Int32) (σ : Sg) : oV κ (oX x) 6 (oQi κ (oX x)) σ 6 [(1, .ref (xa x 1)), (2, .int a2), (3, .int a3), (4, .int a4)] [] (f_X5_firstBehind_6_b   rec6 a2 a3 a4 σ) := by
  unfold f_X5_firstBehind_6_b
  refine r_ild (pc := 6) C dX5_firstBehind_6 3 rfl ?_
  refine r_ildn (pc := 8) C dX5_firstBehind_8 1 rfl ?_
  refine r_iadd (pc := 9) C dX5_firstBehind_9 ?_
  refine r_bipush (pc := 10) (v := (12 : Int32)) C dX5_firstBehind_10 bp_12 ?_
  refine r_icgt (pc := 12) (tgt := 48) C dX5_firstBehind_12 (by decide) ?_ ?_
  · refine r_ildn (pc := 48) C dX5_firstBehind_48 2 rfl ?_
    exact r_iret (pc := 49) C dX5_firstBehind_49
  · refine r_aldn (pc := 15) C dX5_firstBehind_15 0 rfl ?_
    refine r_ild (pc := 16) C dX5_firstBehind_16 3 rfl ?_
    refine r_ildn (pc := 18) C dX5_firstBehind_18 1 rfl ?_
    refine kN_X9_columnsFrom (x := x) (pc := 19) (a0 := a4) (a1 := a2) C gX5_firstBehind_X9_columnsFrom_n9 nw_51 wd_X5_firstBehind_7 wd_X5_firstBehind_6 (by omega)  (Nat.le_of_ble_eq_true rfl) dX5_firstBehind_19 (fun r2 s1 => ?_)
    refine k_X0_linesOn (x := x) (pc := 22) (a1 := r2) C gX5_firstBehind_X0_linesOn (by omega)  (Nat.le_of_ble_eq_true rfl) dX5_firstBehind_22 (fun r4 s3 => ?_)
    refine r_ist (pc := 25) (lv' := [(1, _), (2, _), (3, _), (4, _), (5, _)]) C dX5_firstBehind_25 (by decide) [1, 2, 3, 4, 0] rfl ?_
    refine r_ildn (pc := 27) C dX5_firstBehind_27 2 rfl ?_
    refine r_aldn (pc := 28) C dX5_firstBehind_28 0 rfl ?_
    refine r_ild (pc := 29) C dX5_firstBehind_29 4 rfl ?_
    refine r_aldn (pc := 31) C dX5_firstBehind_31 0 rfl ?_
    refine gfN_X0_2_1 (pc := 32) C hi_X5_firstBehind_X0 nw_28 dX5_firstBehind_32 ?_
    refine kS_X5_lastBehind (x := x) (pc := 35) (a1 := r4) (a2 := (s3 1 2)) C gX5_firstBehind_X5_lastBehind (by omega)  (Nat.le_of_ble_eq_true rfl) dX5_firstBehind_35 (fun r6 s5 => ?_)
    refine r_mn (pc := 38) C wd_X5_firstBehind_2 wd_X5_firstBehind_3 wd_X5_firstBehind_4 wd_X5_firstBehind_5 (by omega) (Nat.le_of_ble_eq_true rfl) dX5_firstBehind_38 ?_
    refine r_nm (fun v7 => ?_)
    refine r_istn (pc := 41) (lv' := [(1, _), (2, _), (3, _), (4, _)]) C dX5_firstBehind_41 (by decide) [1, 2, 0, 3] rfl ?_
    refine r_iinc (pc := 42) (v := (1 : Int32)) (lv1 := fun y => [(1, _), (2, _), (3, _), (4, .int y)]) C dX5_firstBehind_42 ic_1 3 rfl (by decide) [1, 2, 3, 0] (fun _ => rfl) (fun v8 => ?_)
    refine r_goto (pc := 45) (tgt := 6) C dX5_firstBehind_45 (by decide) ?_
    exact hrec6 a2 v7 v8 s5
theorem v_X5_firstBehind_6 {κ : oK} {x : oXp} (C : oC κ (oX x) 6 cX5_firstBehind RX5 wsX5_firstBehind 6 (some .int))  : ∀ (n : Nat) (a2 : Int32) (a3 : Int32) (a4 : Int32) (σ : Sg), oV κ (oX x) 6 (oQi κ (oX x)) σ 6 [(1, .ref (xa x 1)), (2, .int a2), (3, .int a3), (4, .int a4)] [] (f_X5_firstBehind_6   n a2 a3 a4 σ) := by
  intro n
  induction n with
  | zero => intros; exact r_none
  | succ n ih => exact v_X5_firstBehind_6_b C  _ ih
set_option maxHeartbeats 4000000 in
set_option maxRecDepth 100000 in
theorem m_X5_firstBehind (l : Launch) (x : oXp) (hI : oI (oX x)) (a2 : Int32) (σ : Sg) : oMI l yX5_firstBehind wsX5_firstBehind 6 (oX x) [.ref (xa x 4), .ref (xa x 1), .int a2] σ (f_X5_firstBehind  a2 σ) := by
  refine oMI_of (nL := 6) (cc := cX5_firstBehind) hI (by decide +kernel) rfl (Nat.le_of_ble_eq_true rfl) ?_
  intro κ C
  have C : oC κ (oX x) 6 cX5_firstBehind RX5 wsX5_firstBehind 6 (some .int) := C
  unfold f_X5_firstBehind
  show oV κ (oX x) 6 (oQi κ (oX x)) σ 0 [(0, .ref (xa x 4)), (1, .ref (xa x 1)), (2, .int a2)] [] _
  refine r_ldc (pc := 0) (v := (1000000 : Int32)) C dX5_firstBehind_0 wd_X5_firstBehind_1 ?_
  refine r_istn (pc := 2) (lv' := [(1, _), (2, _), (3, _)]) C dX5_firstBehind_2 (by decide) [2, 3, 0] rfl ?_
  refine r_iconst (pc := 3) (v := (0 : Int32)) C dX5_firstBehind_3 ic_0 ?_
  refine r_ist (pc := 4) (lv' := [(1, _), (2, _), (3, _), (4, _)]) C dX5_firstBehind_4 (by decide) [1, 2, 3, 0] rfl ?_
  exact v_X5_firstBehind_6 (x := x) C fuN a2 (1000000 : Int32) (0 : Int32) σ
theorem k_X5_firstBehind {κ : oK} {nL : Nat} {cc : ByteArray} {own : String} {Ts : List Cond} {n : Nat} {ret : Option FieldType} {α : Type} {Q : α → Sg → State → Prop} {σ : Sg} {pc : Nat} {lv : List (Nat × Value)} {st : List Value} {x : oXp} {idx : Nat} {a2 : Int32} {K : Int32 → Sg → Option (α × Sg)} (C : oC κ (oX x) nL cc own Ts n ret) (hG : GoodIn Ts (wsV own idx RX5 yX5_firstBehind wsX5_firstBehind)) (hn : 6 + 1 ≤ n) (hst : (st.map fun v => v.category).sum ≤ 8) (hd : decode cc pc = .ok (.invokevirtual idx, 3)) (kk : ∀ (r1 : Int32) (σ1 : Sg), oV κ (oX x) nL Q σ1 (pc + 3) lv (.int r1 :: st) (K r1 σ1)) : oV κ (oX x) nL Q σ pc lv (.int a2 :: .ref (xa x 1) :: .ref (xa x 4) :: st) (bnd (f_X5_firstBehind a2 σ) K) := by
  have hI : oI (oX x) := oC_I C
  exact r_cVi (As := [.ref (xa x 1), .int a2]) (na := 2) (j := 4) (ci := 5) C (fun l => m_X5_firstBehind l x hI a2 σ) hG rfl (by decide +kernel) rfl (by decide) hn (by show 4 < 80; decide) rfl rfl rfl rfl hst hd kk
set_option maxHeartbeats 4000000 in
set_option maxRecDepth 100000 in
theorem v_X5_lossOfAll_5_b {κ : oK} {x : oXp} (C : oC κ (oX x) 5 cX5_lossOfAll RX5 wsX5_lossOfAll 7 (some .int))  (rec5 : Int32 → Int32 → Int32 → Int32 → Sg → Option (Int32 × Sg)) (hrec5 : ∀ (a1 : Int32) (a2 : Int32) (a3 : Int32) (a4 : Int32) (σ : Sg), oV κ (oX x) 5 (oQi κ (oX x)) σ 5 [(0, .ref (xa x 1)), (1, .int a1), (2, .int a2), (3, .int a3), (4, .int a4)] [] (rec5 a1 a2 a3 a4 σ)) (a1 : Int32) (a2 : Int32) (a3 : Int32) (a4 : Int32) (σ : Sg) : oV κ (oX x) 5 (oQi κ (oX x)) σ 5 [(0, .ref (xa x 1)), (1, .int a1), (2, .int a2), (3, .int a3), (4, .int a4)] [] (f_X5_lossOfAll_5_b   rec5 a1 a2 a3 a4 σ) := by
  unfold f_X5_lossOfAll_5_b
  refine r_ild (pc := 5) C dX5_lossOfAll_5 4 rfl ?_
  refine r_aldn (pc := 7) C dX5_lossOfAll_7 0 rfl ?_
  refine gfN_X0_1_1 (pc := 8) C hi_X5_lossOfAll_X0 nw_27 dX5_lossOfAll_8 ?_
  refine r_icge (pc := 11) (tgt := 39) C dX5_lossOfAll_11 (by decide) ?_ ?_
  · refine r_ildn (pc := 39) C dX5_lossOfAll_39 3 rfl ?_
    exact r_iret (pc := 40) C dX5_lossOfAll_40
  · refine r_ild (pc := 14) C dX5_lossOfAll_14 4 rfl ?_
    refine r_ildn (pc := 16) C dX5_lossOfAll_16 1 rfl ?_
    refine kN_X9_isOf (x := x) (pc := 17) (a0 := a4) (a1 := a1) C gX5_lossOfAll_X9_isOf_n50 nw_52 wd_X5_lossOfAll_2 wd_X5_lossOfAll_1 (by omega)  (Nat.le_of_ble_eq_true rfl) dX5_lossOfAll_17 (fun r2 s1 => ?_)
    refine r_ifeq (pc := 20) (tgt := 33) C dX5_lossOfAll_20 (by decide) ?_ ?_
    · refine r_iinc (pc := 33) (v := (1 : Int32)) (lv1 := fun y => [(0, _), (1, _), (2, _), (3, _), (4, .int y)]) C dX5_lossOfAll_33 ic_1 4 rfl (by decide) [1, 2, 3, 4, 0] (fun _ => rfl) (fun v3 => ?_)
      refine r_goto (pc := 36) (tgt := 5) C dX5_lossOfAll_36 (by decide) ?_
      exact hrec5 a1 a2 a3 v3 s1
    · refine r_ildn (pc := 23) C dX5_lossOfAll_23 3 rfl ?_
      refine r_aldn (pc := 24) C dX5_lossOfAll_24 0 rfl ?_
      refine r_ild (pc := 25) C dX5_lossOfAll_25 4 rfl ?_
      refine r_ildn (pc := 27) C dX5_lossOfAll_27 2 rfl ?_
      refine k_X0_lossOf (x := x) (pc := 28) (a1 := a4) (a2 := a2) C gX5_lossOfAll_X0_lossOf (by omega)  (Nat.le_of_ble_eq_true rfl) dX5_lossOfAll_28 (fun r5 s4 => ?_)
      refine r_iadd (pc := 31) C dX5_lossOfAll_31 ?_
      refine r_nm (fun v6 => ?_)
      refine r_istn (pc := 32) (lv' := [(0, _), (1, _), (2, _), (3, _), (4, _)]) C dX5_lossOfAll_32 (by decide) [1, 2, 3, 0, 4] rfl ?_
      refine r_iinc (pc := 33) (v := (1 : Int32)) (lv1 := fun y => [(0, _), (1, _), (2, _), (3, _), (4, .int y)]) C dX5_lossOfAll_33 ic_1 4 rfl (by decide) [1, 2, 3, 4, 0] (fun _ => rfl) (fun v7 => ?_)
      refine r_goto (pc := 36) (tgt := 5) C dX5_lossOfAll_36 (by decide) ?_
      exact hrec5 a1 a2 v6 v7 s4
theorem v_X5_lossOfAll_5 {κ : oK} {x : oXp} (C : oC κ (oX x) 5 cX5_lossOfAll RX5 wsX5_lossOfAll 7 (some .int))  : ∀ (n : Nat) (a1 : Int32) (a2 : Int32) (a3 : Int32) (a4 : Int32) (σ : Sg), oV κ (oX x) 5 (oQi κ (oX x)) σ 5 [(0, .ref (xa x 1)), (1, .int a1), (2, .int a2), (3, .int a3), (4, .int a4)] [] (f_X5_lossOfAll_5   n a1 a2 a3 a4 σ) := by
  intro n
  induction n with
  | zero => intros; exact r_none
  | succ n ih => exact v_X5_lossOfAll_5_b C  _ ih
set_option maxHeartbeats 4000000 in
set_option maxRecDepth 100000 in
theorem m_X5_lossOfAll (l : Launch) (x : oXp) (hI : oI (oX x)) (a1 : Int32) (a2 : Int32) (σ : Sg) : oMI l yX5_lossOfAll wsX5_lossOfAll 7 (oX x) [.ref (xa x 1), .int a1, .int a2] σ (f_X5_lossOfAll  a1 a2 σ) := by
  refine oMI_of (nL := 5) (cc := cX5_lossOfAll) hI (by decide +kernel) rfl (Nat.le_of_ble_eq_true rfl) ?_
  intro κ C
  have C : oC κ (oX x) 5 cX5_lossOfAll RX5 wsX5_lossOfAll 7 (some .int) := C
  unfold f_X5_lossOfAll
  show oV κ (oX x) 5 (oQi κ (oX x)) σ 0 [(0, .ref (xa x 1)), (1, .int a1), (2, .int a2)] [] _
  refine r_iconst (pc := 0) (v := (0 : Int32)) C dX5_lossOfAll_0 ic_0 ?_
  refine r_istn (pc := 1) (lv' := [(0, _), (1, _), (2, _), (3, _)]) C dX5_lossOfAll_1 (by decide) [1, 2, 3, 0] rfl ?_
  refine r_iconst (pc := 2) (v := (0 : Int32)) C dX5_lossOfAll_2 ic_0 ?_
  refine r_ist (pc := 3) (lv' := [(0, _), (1, _), (2, _), (3, _), (4, _)]) C dX5_lossOfAll_3 (by decide) [1, 2, 3, 4, 0] rfl ?_
  exact v_X5_lossOfAll_5 (x := x) C fuN a1 a2 (0 : Int32) (0 : Int32) σ
theorem kS_X5_lossOfAll {κ : oK} {nL : Nat} {cc : ByteArray} {own : String} {Ts : List Cond} {n : Nat} {ret : Option FieldType} {α : Type} {Q : α → Sg → State → Prop} {σ : Sg} {pc : Nat} {lv : List (Nat × Value)} {st : List Value} {x : oXp} {idx : Nat} {a1 : Int32} {a2 : Int32} {K : Int32 → Sg → Option (α × Sg)} (C : oC κ (oX x) nL cc own Ts n ret) (hG : GoodIn Ts (va_wsS own idx yX5_lossOfAll wsX5_lossOfAll)) (hn : 7 + 1 ≤ n) (hst : (st.map fun v => v.category).sum ≤ 8) (hd : decode cc pc = .ok (.invokestatic idx, 3)) (kk : ∀ (r1 : Int32) (σ1 : Sg), oV κ (oX x) nL Q σ1 (pc + 3) lv (.int r1 :: st) (K r1 σ1)) : oV κ (oX x) nL Q σ pc lv (.int a2 :: .int a1 :: .ref (xa x 1) :: st) (bnd (f_X5_lossOfAll a1 a2 σ) K) := by
  have hI : oI (oX x) := oC_I C
  exact r_cSi (As := [.ref (xa x 1), .int a1, .int a2]) (na := 3) C (fun l => m_X5_lossOfAll l x hI a1 a2 σ) hG rfl (by decide +kernel) rfl (by decide) hn hst hd kk
set_option maxHeartbeats 4000000 in
set_option maxRecDepth 100000 in
theorem v_X5_seek_60 {κ : oK} {x : oXp} (C : oC κ (oX x) 8 cX5_seek RX5 wsX5_seek 8 (some .boolean)) (rec6 : Int32 → Int32 → Int32 → Int32 → Sg → Option (Int32 × Sg)) (hrec6 : ∀ (a2 : Int32) (a3 : Int32) (a4 : Int32) (a5 : Int32) (σ : Sg), oV κ (oX x) 8 (oQi κ (oX x)) σ 6 [(0, .ref (xa x 4)), (1, .ref (xa x 1)), (2, .int a2), (3, .int a3), (4, .int a4), (5, .int a5)] [] (rec6 a2 a3 a4 a5 σ)) (a2 : Int32) (a3 : Int32) (a5 : Int32) (a6 : Int32) (a7 : Int32) (σ : Sg) : oV κ (oX x) 8 (oQi κ (oX x)) σ 60 [(0, .ref (xa x 4)), (1, .ref (xa x 1)), (2, .int a2), (3, .int a3), (5, .int a5), (6, .int a6), (7, .int a7)] [] (f_X5_seek_60  rec6 a2 a3 a5 a6 a7 σ) := by
  unfold f_X5_seek_60
  refine r_iconst (pc := 60) (v := (1 : Int32)) C dX5_seek_60 ic_1 ?_
  refine r_ist (pc := 61) (lv' := [(0, _), (1, _), (2, _), (3, _), (4, _), (5, _), (6, _), (7, _)]) C dX5_seek_61 (by decide) [1, 2, 3, 4, 0, 5, 6, 7] rfl ?_
  refine r_aldn (pc := 63) C dX5_seek_63 0 rfl ?_
  refine r_ild (pc := 64) C dX5_seek_64 7 rfl ?_
  refine pf_X5_0_4 (pc := 66) C hi_X5_seek_X5 wd_X5_seek_1 dX5_seek_66 (fun s1 => ?_)
  refine r_aldn (pc := 69) C dX5_seek_69 0 rfl ?_
  refine r_ild (pc := 70) C dX5_seek_70 5 rfl ?_
  refine pf_X5_1_4 (pc := 72) C hi_X5_seek_X5 wd_X5_seek_2 dX5_seek_72 (fun s2 => ?_)
  refine r_aldn (pc := 75) C dX5_seek_75 0 rfl ?_
  refine r_ild (pc := 76) C dX5_seek_76 6 rfl ?_
  refine pf_X5_2_4 (pc := 78) C hi_X5_seek_X5 wd_X5_seek_3 dX5_seek_78 (fun s3 => ?_)
  refine r_iinc (pc := 81) (v := (1 : Int32)) (lv1 := fun y => [(0, _), (1, _), (2, _), (3, _), (4, _), (5, .int y)]) C dX5_seek_81 ic_1 5 rfl (by decide) [1, 2, 3, 4, 5, 0] (fun _ => rfl) (fun v4 => ?_)
  refine r_goto (pc := 84) (tgt := 6) C dX5_seek_84 (by decide) ?_
  exact hrec6 a2 a3 (1 : Int32) v4 s3
set_option maxHeartbeats 4000000 in
set_option maxRecDepth 100000 in
theorem v_X5_seek_6_b {κ : oK} {x : oXp} (C : oC κ (oX x) 8 cX5_seek RX5 wsX5_seek 8 (some .boolean))  (rec6 : Int32 → Int32 → Int32 → Int32 → Sg → Option (Int32 × Sg)) (hrec6 : ∀ (a2 : Int32) (a3 : Int32) (a4 : Int32) (a5 : Int32) (σ : Sg), oV κ (oX x) 8 (oQi κ (oX x)) σ 6 [(0, .ref (xa x 4)), (1, .ref (xa x 1)), (2, .int a2), (3, .int a3), (4, .int a4), (5, .int a5)] [] (rec6 a2 a3 a4 a5 σ)) (a2 : Int32) (a3 : Int32) (a4 : Int32) (a5 : Int32) (σ : Sg) : oV κ (oX x) 8 (oQi κ (oX x)) σ 6 [(0, .ref (xa x 4)), (1, .ref (xa x 1)), (2, .int a2), (3, .int a3), (4, .int a4), (5, .int a5)] [] (f_X5_seek_6_b   rec6 a2 a3 a4 a5 σ) := by
  unfold f_X5_seek_6_b
  refine r_ild (pc := 6) C dX5_seek_6 5 rfl ?_
  refine r_ildn (pc := 8) C dX5_seek_8 2 rfl ?_
  refine r_iadd (pc := 9) C dX5_seek_9 ?_
  refine r_bipush (pc := 10) (v := (12 : Int32)) C dX5_seek_10 bp_12 ?_
  refine r_icgt (pc := 12) (tgt := 87) C dX5_seek_12 (by decide) ?_ ?_
  · refine r_ild (pc := 87) C dX5_seek_87 4 rfl ?_
    refine r_ckb (fun h5 => ?_)
    exact r_zret (pc := 89) C (isb_nar h5).1 dX5_seek_89
  · refine r_aldn (pc := 15) C dX5_seek_15 1 rfl ?_
    refine r_ild (pc := 16) C dX5_seek_16 5 rfl ?_
    refine r_ildn (pc := 18) C dX5_seek_18 2 rfl ?_
    refine kN_X9_columnsFrom (x := x) (pc := 19) (a0 := a5) (a1 := a2) C gX5_seek_X9_columnsFrom_n9 nw_51 wd_X5_seek_5 wd_X5_seek_4 (by omega)  (Nat.le_of_ble_eq_true rfl) dX5_seek_19 (fun r7 s6 => ?_)
    refine k_X0_linesOn (x := x) (pc := 22) (a1 := r7) C gX5_seek_X0_linesOn (by omega)  (Nat.le_of_ble_eq_true rfl) dX5_seek_22 (fun r9 s8 => ?_)
    refine r_ist (pc := 25) (lv' := [(0, _), (1, _), (2, _), (3, _), (4, _), (5, _), (6, _)]) C dX5_seek_25 (by decide) [1, 2, 3, 4, 5, 6, 0] rfl ?_
    refine r_aldn (pc := 27) C dX5_seek_27 1 rfl ?_
    refine r_ild (pc := 28) C dX5_seek_28 6 rfl ?_
    refine r_ildn (pc := 30) C dX5_seek_30 3 rfl ?_
    refine kS_X5_lastBehind (x := x) (pc := 31) (a1 := r9) (a2 := a3) C gX5_seek_X5_lastBehind (by omega)  (Nat.le_of_ble_eq_true rfl) dX5_seek_31 (fun r11 s10 => ?_)
    refine r_ifne (pc := 34) (tgt := 81) C dX5_seek_34 (by decide) ?_ ?_
    · refine r_iinc (pc := 81) (v := (1 : Int32)) (lv1 := fun y => [(0, _), (1, _), (2, _), (3, _), (4, _), (5, .int y)]) C dX5_seek_81 ic_1 5 rfl (by decide) [1, 2, 3, 4, 5, 0] (fun _ => rfl) (fun v12 => ?_)
      refine r_goto (pc := 84) (tgt := 6) C dX5_seek_84 (by decide) ?_
      exact hrec6 a2 a3 a4 v12 s10
    · refine r_aldn (pc := 37) C dX5_seek_37 1 rfl ?_
      refine r_ild (pc := 38) C dX5_seek_38 6 rfl ?_
      refine r_ildn (pc := 40) C dX5_seek_40 3 rfl ?_
      refine kS_X5_lossOfAll (x := x) (pc := 41) (a1 := r9) (a2 := a3) C gX5_seek_X5_lossOfAll (by omega)  (Nat.le_of_ble_eq_true rfl) dX5_seek_41 (fun r14 s13 => ?_)
      refine r_ist (pc := 44) (lv' := [(0, _), (1, _), (2, _), (3, _), (4, _), (5, _), (6, _), (7, _)]) C dX5_seek_44 (by decide) [1, 2, 3, 4, 5, 6, 7, 0] rfl ?_
      refine r_ild (pc := 46) C dX5_seek_46 4 rfl ?_
      refine r_ifeq (pc := 48) (tgt := 60) C dX5_seek_48 (by decide) ?_ ?_
      · refine r_sub (lv' := [(0, _), (1, _), (2, _), (3, _), (5, _), (6, _), (7, _)]) [0, 1, 2, 3, 5, 6, 7] rfl ?_
        exact v_X5_seek_60 (x := x) C _ hrec6 a2 a3 a5 r9 r14 s13
      · refine r_ild (pc := 51) C dX5_seek_51 7 rfl ?_
        refine r_aldn (pc := 53) C dX5_seek_53 0 rfl ?_
        refine gf_X5_0_4 (pc := 54) C hi_X5_seek_X5 wd_X5_seek_1 dX5_seek_54 ?_
        refine r_icge (pc := 57) (tgt := 81) C dX5_seek_57 (by decide) ?_ ?_
        · refine r_iinc (pc := 81) (v := (1 : Int32)) (lv1 := fun y => [(0, _), (1, _), (2, _), (3, _), (4, _), (5, .int y)]) C dX5_seek_81 ic_1 5 rfl (by decide) [1, 2, 3, 4, 5, 0] (fun _ => rfl) (fun v15 => ?_)
          refine r_goto (pc := 84) (tgt := 6) C dX5_seek_84 (by decide) ?_
          exact hrec6 a2 a3 a4 v15 s13
        · refine r_sub (lv' := [(0, _), (1, _), (2, _), (3, _), (5, _), (6, _), (7, _)]) [0, 1, 2, 3, 5, 6, 7] rfl ?_
          exact v_X5_seek_60 (x := x) C _ hrec6 a2 a3 a5 r9 r14 s13
theorem v_X5_seek_6 {κ : oK} {x : oXp} (C : oC κ (oX x) 8 cX5_seek RX5 wsX5_seek 8 (some .boolean))  : ∀ (n : Nat) (a2 : Int32) (a3 : Int32) (a4 : Int32) (a5 : Int32) (σ : Sg), oV κ (oX x) 8 (oQi κ (oX x)) σ 6 [(0, .ref (xa x 4)), (1, .ref (xa x 1)), (2, .int a2), (3, .int a3), (4, .int a4), (5, .int a5)] [] (f_X5_seek_6   n a2 a3 a4 a5 σ) := by
  intro n
  induction n with
  | zero => intros; exact r_none
  | succ n ih => exact v_X5_seek_6_b C  _ ih
set_option maxHeartbeats 4000000 in
set_option maxRecDepth 100000 in
theorem m_X5_seek (l : Launch) (x : oXp) (hI : oI (oX x)) (a2 : Int32) (a3 : Int32) (σ : Sg) : oMI l yX5_seek wsX5_seek 8 (oX x) [.ref (xa x 4), .ref (xa x 1), .int a2, .int a3] σ (f_X5_seek  a2 a3 σ) := by
  refine oMI_of (nL := 8) (cc := cX5_seek) hI (by decide +kernel) rfl (Nat.le_of_ble_eq_true rfl) ?_
  intro κ C
  have C : oC κ (oX x) 8 cX5_seek RX5 wsX5_seek 8 (some .boolean) := C
  unfold f_X5_seek
  show oV κ (oX x) 8 (oQi κ (oX x)) σ 0 [(0, .ref (xa x 4)), (1, .ref (xa x 1)), (2, .int a2), (3, .int a3)] [] _
  refine r_iconst (pc := 0) (v := (0 : Int32)) C dX5_seek_0 ic_0 ?_
  refine r_ist (pc := 1) (lv' := [(0, _), (1, _), (2, _), (3, _), (4, _)]) C dX5_seek_1 (by decide) [1, 2, 3, 4, 0] rfl ?_
  refine r_iconst (pc := 3) (v := (0 : Int32)) C dX5_seek_3 ic_0 ?_
  refine r_ist (pc := 4) (lv' := [(0, _), (1, _), (2, _), (3, _), (4, _), (5, _)]) C dX5_seek_4 (by decide) [1, 2, 3, 4, 5, 0] rfl ?_
  exact v_X5_seek_6 (x := x) C fuN a2 a3 (0 : Int32) (0 : Int32) σ
theorem k_X5_seek {κ : oK} {nL : Nat} {cc : ByteArray} {own : String} {Ts : List Cond} {n : Nat} {ret : Option FieldType} {α : Type} {Q : α → Sg → State → Prop} {σ : Sg} {pc : Nat} {lv : List (Nat × Value)} {st : List Value} {x : oXp} {idx : Nat} {a2 : Int32} {a3 : Int32} {K : Int32 → Sg → Option (α × Sg)} (C : oC κ (oX x) nL cc own Ts n ret) (hG : GoodIn Ts (wsV own idx RX5 yX5_seek wsX5_seek)) (hn : 8 + 1 ≤ n) (hst : (st.map fun v => v.category).sum ≤ 8) (hd : decode cc pc = .ok (.invokevirtual idx, 3)) (kk : ∀ (r1 : Int32) (σ1 : Sg), oV κ (oX x) nL Q σ1 (pc + 3) lv (.int r1 :: st) (K r1 σ1)) : oV κ (oX x) nL Q σ pc lv (.int a3 :: .int a2 :: .ref (xa x 1) :: .ref (xa x 4) :: st) (bnd (f_X5_seek a2 a3 σ) K) := by
  have hI : oI (oX x) := oC_I C
  exact r_cVi (As := [.ref (xa x 1), .int a2, .int a3]) (na := 3) (j := 4) (ci := 5) C (fun l => m_X5_seek l x hI a2 a3 σ) hG rfl (by decide +kernel) rfl (by decide) hn (by show 4 < 80; decide) rfl rfl rfl rfl hst hd kk
set_option maxHeartbeats 4000000 in
set_option maxRecDepth 100000 in
theorem m_X6_hasRoomFor (l : Launch) (x : oXp) (hI : oI (oX x)) (o0 : Nat) (a1 : Int32) (h1_o0 : 44 ≤ o0) (h2_o0 : o0 < 62) (σ : Sg) : oMI l yX6_hasRoomFor wsX6_hasRoomFor 3 (oX x) [.ref (xa x o0), .int a1] σ (f_X6_hasRoomFor  o0 a1 σ) := by
  refine oMI_of (nL := 2) (cc := cX6_hasRoomFor) hI (by decide +kernel) rfl (Nat.le_of_ble_eq_true rfl) ?_
  intro κ C
  have C : oC κ (oX x) 2 cX6_hasRoomFor RX6 wsX6_hasRoomFor 3 (some .boolean) := C
  unfold f_X6_hasRoomFor
  show oV κ (oX x) 2 (oQi κ (oX x)) σ 0 [(0, .ref (xa x o0)), (1, .int a1)] [] _
  refine r_ildn (pc := 0) C dX6_hasRoomFor_0 1 rfl ?_
  refine r_aldn (pc := 1) C dX6_hasRoomFor_1 0 rfl ?_
  refine gf_X6_0 (pc := 2) C (o := o0) (by omega) (by omega) hi_X6_hasRoomFor_X6 wd_X6_hasRoomFor_1 dX6_hasRoomFor_2 ?_
  refine ialen_oX_cells (pc := 5) C (o := (o0 + 18)) (by omega) (by omega) dX6_hasRoomFor_5 ?_
  refine r_aldn (pc := 6) C dX6_hasRoomFor_6 0 rfl ?_
  refine gf_X6_1 (pc := 7) C (o := o0) (by omega) (by omega) hi_X6_hasRoomFor_X6 wd_X6_hasRoomFor_2 dX6_hasRoomFor_7 ?_
  refine r_isub (pc := 10) C dX6_hasRoomFor_10 ?_
  refine r_icgt (pc := 11) (tgt := 18) C dX6_hasRoomFor_11 (by decide) ?_ ?_
  · refine r_iconst (pc := 18) (v := (0 : Int32)) C dX6_hasRoomFor_18 ic_0 ?_
    exact r_zret (pc := 19) C (by decide) dX6_hasRoomFor_19
  · refine r_iconst (pc := 14) (v := (1 : Int32)) C dX6_hasRoomFor_14 ic_1 ?_
    refine r_goto (pc := 15) (tgt := 19) C dX6_hasRoomFor_15 (by decide) ?_
    exact r_zret (pc := 19) C (by decide) dX6_hasRoomFor_19
theorem k_X6_hasRoomFor {κ : oK} {nL : Nat} {cc : ByteArray} {own : String} {Ts : List Cond} {n : Nat} {ret : Option FieldType} {α : Type} {Q : α → Sg → State → Prop} {σ : Sg} {pc : Nat} {lv : List (Nat × Value)} {st : List Value} {x : oXp} {idx : Nat} {o0 : Nat} {a1 : Int32} {K : Int32 → Sg → Option (α × Sg)} (C : oC κ (oX x) nL cc own Ts n ret) (hG : GoodIn Ts (wsV own idx RX6 yX6_hasRoomFor wsX6_hasRoomFor)) (hn : 3 + 1 ≤ n) (h1_o0 : 44 ≤ o0) (h2_o0 : o0 < 62) (hst : (st.map fun v => v.category).sum ≤ 8) (hd : decode cc pc = .ok (.invokevirtual idx, 3)) (kk : ∀ (r1 : Int32) (σ1 : Sg), oV κ (oX x) nL Q σ1 (pc + 3) lv (.int r1 :: st) (K r1 σ1)) : oV κ (oX x) nL Q σ pc lv (.int a1 :: .ref (xa x o0) :: st) (bnd (f_X6_hasRoomFor o0 a1 σ) K) := by
  have hI : oI (oX x) := oC_I C
  exact r_cVi (As := [.int a1]) (na := 1) (j := o0) (ci := 6) C (fun l => m_X6_hasRoomFor l x hI o0 a1 h1_o0 h2_o0 σ) hG rfl (by decide +kernel) rfl (by decide) hn (by show o0 < 80; omega) rfl (eX6 x h1_o0 h2_o0 _) rfl rfl hst hd kk
