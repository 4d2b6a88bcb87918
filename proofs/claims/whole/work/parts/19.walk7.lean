set_option maxHeartbeats 4000000 in
set_option maxRecDepth 100000 in
theorem v_X9_odds_48_b {κ : oK} {x : oXp} (C : oC κ (oX x) 9 cX9_odds RX9 wsX9_odds 5 (some .long))  (rec48 : Int32 → Int32 → Int64 → Int64 → Int32 → Sg → Option (Int64 × Sg)) (hrec48 : ∀ (a1 : Int32) (a2 : Int32) (a3 : Int64) (a5 : Int64) (a7 : Int32) (σ : Sg), oV κ (oX x) 9 (oQl κ (oX x)) σ 48 [(0, .ref (xa x 0)), (1, .int a1), (2, .int a2), (3, .long a3), (5, .long a5), (7, .int a7)] [] (rec48 a1 a2 a3 a5 a7 σ)) (a1 : Int32) (a2 : Int32) (a3 : Int64) (a5 : Int64) (a7 : Int32) (σ : Sg) : oV κ (oX x) 9 (oQl κ (oX x)) σ 48 [(0, .ref (xa x 0)), (1, .int a1), (2, .int a2), (3, .long a3), (5, .long a5), (7, .int a7)] [] (f_X9_odds_48_b   rec48 a1 a2 a3 a5 a7 σ) := by
  unfold f_X9_odds_48_b
  refine r_ild (pc := 48) C dX9_odds_48 5 rfl ?_
  refine r_aldn (pc := 50) C dX9_odds_50 0 rfl ?_
  refine gf_X9_0_0 (pc := 51) C hi_X9_odds_X9 wd_X9_odds_1 dX9_odds_51 ?_
  refine gfN_X0_1_1 (pc := 54) C hi_X9_odds_X0 nw_26 dX9_odds_54 ?_
  refine r_icge (pc := 57) (tgt := 110) C dX9_odds_57 (by decide) ?_ ?_
  · refine r_lldn (pc := 110) C dX9_odds_110 3 rfl ?_
    refine r_lld (pc := 111) C dX9_odds_111 4 rfl ?_
    refine kS_X9_sharedDivisor (x := x) (pc := 113) (a0 := a3) (a2 := a5) C gX9_odds_X9_sharedDivisor (by omega)  (Nat.le_of_ble_eq_true rfl) dX9_odds_113 (fun r2 s1 => ?_)
    refine r_lst (pc := 116) (lv' := [(2, _), (3, _), (5, _), (7, _)]) C dX9_odds_116 (by decide) [3, 4, 5, 0] rfl ?_
    refine r_lld (pc := 118) C dX9_odds_118 3 rfl ?_
    refine r_lconst (pc := 120) (v := (0 : Int64)) C dX9_odds_120 (by decide) ?_
    refine r_lcmp (pc := 121) C dX9_odds_121 ?_
    refine r_ifne (pc := 122) (tgt := 128) C dX9_odds_122 (by decide) ?_ ?_
    · refine r_ildn (pc := 128) C dX9_odds_128 0 rfl ?_
      refine r_ifne (pc := 129) (tgt := 139) C dX9_odds_129 (by decide) ?_ ?_
      · refine r_lld (pc := 139) C dX9_odds_139 2 rfl ?_
        refine r_lld (pc := 141) C dX9_odds_141 3 rfl ?_
        refine r_ckb (fun h3 => ?_)
        refine r_ldiv (pc := 143) C dX9_odds_143 (nzl_ne h3) ?_
        exact r_lret (pc := 144) C dX9_odds_144
      · refine r_lldn (pc := 132) C dX9_odds_132 1 rfl ?_
        refine r_lld (pc := 133) C dX9_odds_133 3 rfl ?_
        refine r_ckb (fun h4 => ?_)
        refine r_ldiv (pc := 135) C dX9_odds_135 (nzl_ne h4) ?_
        refine r_goto (pc := 136) (tgt := 144) C dX9_odds_136 (by decide) ?_
        exact r_lret (pc := 144) C dX9_odds_144
    · refine r_lconst (pc := 125) (v := (1 : Int64)) C dX9_odds_125 (by decide) ?_
      refine r_lst (pc := 126) (lv' := [(2, _), (3, _), (5, _), (7, _)]) C dX9_odds_126 (by decide) [1, 2, 3, 0] rfl ?_
      refine r_ildn (pc := 128) C dX9_odds_128 0 rfl ?_
      refine r_ifne (pc := 129) (tgt := 139) C dX9_odds_129 (by decide) ?_ ?_
      · refine r_lld (pc := 139) C dX9_odds_139 2 rfl ?_
        refine r_lld (pc := 141) C dX9_odds_141 3 rfl ?_
        refine r_ldiv (pc := 143) C dX9_odds_143 (by decide) ?_
        exact r_lret (pc := 144) C dX9_odds_144
      · refine r_lldn (pc := 132) C dX9_odds_132 1 rfl ?_
        refine r_lld (pc := 133) C dX9_odds_133 3 rfl ?_
        refine r_ldiv (pc := 135) C dX9_odds_135 (by decide) ?_
        refine r_goto (pc := 136) (tgt := 144) C dX9_odds_136 (by decide) ?_
        exact r_lret (pc := 144) C dX9_odds_144
  · refine r_ild (pc := 60) C dX9_odds_60 5 rfl ?_
    refine r_ildn (pc := 62) C dX9_odds_62 1 rfl ?_
    refine kS_X9_isOf (x := x) (pc := 63) (a0 := a7) (a1 := a1) C gX9_odds_X9_isOf (by omega)  (Nat.le_of_ble_eq_true rfl) dX9_odds_63 (fun r6 s5 => ?_)
    refine r_ifeq (pc := 66) (tgt := 104) C dX9_odds_66 (by decide) ?_ ?_
    · refine r_iinc (pc := 104) (v := (1 : Int32)) (lv1 := fun y => [(0, _), (1, _), (2, _), (3, _), (5, _), (7, .int y)]) C dX9_odds_104 ic_1 5 rfl (by decide) [1, 2, 3, 4, 5, 0] (fun _ => rfl) (fun v7 => ?_)
      refine r_goto (pc := 107) (tgt := 48) C dX9_odds_107 (by decide) ?_
      exact hrec48 a1 a2 a3 a5 v7 s5
    · refine r_lldn (pc := 69) C dX9_odds_69 3 rfl ?_
      refine r_bipush (pc := 70) (v := (100 : Int32)) C dX9_odds_70 bp_100 ?_
      refine r_aldn (pc := 72) C dX9_odds_72 0 rfl ?_
      refine gf_X9_0_0 (pc := 73) C hi_X9_odds_X9 wd_X9_odds_1 dX9_odds_73 ?_
      refine gfN_X0_0_1 (pc := 76) C hi_X9_odds_X0 nw_24 dX9_odds_76 ?_
      refine r_ild (pc := 79) C dX9_odds_79 5 rfl ?_
      refine qa_Ln_14 (pc := 81) C dX9_odds_81 (fun p8 h1_p8 h2_p8 => ?_)
      refine r_aldn (pc := 82) C dX9_odds_82 0 rfl ?_
      refine gf_X9_0_0 (pc := 83) C hi_X9_odds_X9 wd_X9_odds_1 dX9_odds_83 ?_
      refine gfN_X0_2_1 (pc := 86) C hi_X9_odds_X0 nw_29 dX9_odds_86 ?_
      refine k_X2_back (x := x) (pc := 89) (o0 := p8) (a1 := (s5 1 2)) C gX9_odds_X2_back (by omega) (by omega) (by omega) (Nat.le_of_ble_eq_true rfl) dX9_odds_89 (fun r10 s9 => ?_)
      refine r_isub (pc := 92) C dX9_odds_92 ?_
      refine r_i2l (pc := 93) C dX9_odds_93 ?_
      refine r_lmul (pc := 94) C dX9_odds_94 ?_
      refine r_nml (fun v11 => ?_)
      refine r_lstn (pc := 95) (lv' := [(0, _), (1, _), (2, _), (3, _), (5, _), (7, _)]) C dX9_odds_95 (by decide) [1, 2, 3, 0, 4, 5] rfl ?_
      refine r_lld (pc := 96) C dX9_odds_96 4 rfl ?_
      refine r_ldc2 (pc := 98) (v := (100 : Int64)) C dX9_odds_98 wd_X9_odds_2 ?_
      refine r_lmul (pc := 101) C dX9_odds_101 ?_
      refine r_nml (fun v12 => ?_)
      refine r_lst (pc := 102) (lv' := [(0, _), (1, _), (2, _), (3, _), (5, _), (7, _)]) C dX9_odds_102 (by decide) [1, 2, 3, 4, 0, 5] rfl ?_
      refine r_iinc (pc := 104) (v := (1 : Int32)) (lv1 := fun y => [(0, _), (1, _), (2, _), (3, _), (5, _), (7, .int y)]) C dX9_odds_104 ic_1 5 rfl (by decide) [1, 2, 3, 4, 5, 0] (fun _ => rfl) (fun v13 => ?_)
      refine r_goto (pc := 107) (tgt := 48) C dX9_odds_107 (by decide) ?_
      exact hrec48 a1 a2 v11 v12 v13 s9
theorem v_X9_odds_48 {κ : oK} {x : oXp} (C : oC κ (oX x) 9 cX9_odds RX9 wsX9_odds 5 (some .long))  : ∀ (n : Nat) (a1 : Int32) (a2 : Int32) (a3 : Int64) (a5 : Int64) (a7 : Int32) (σ : Sg), oV κ (oX x) 9 (oQl κ (oX x)) σ 48 [(0, .ref (xa x 0)), (1, .int a1), (2, .int a2), (3, .long a3), (5, .long a5), (7, .int a7)] [] (f_X9_odds_48   n a1 a2 a3 a5 a7 σ) := by
  intro n
  induction n with
  | zero => intros; exact r_none
  | succ n ih => exact v_X9_odds_48_b C  _ ih
set_option maxHeartbeats 4000000 in
set_option maxRecDepth 100000 in
theorem m_X9_odds (l : Launch) (x : oXp) (hI : oI (oX x)) (a1 : Int32) (a2 : Int32) (σ : Sg) : oML l yX9_odds wsX9_odds 5 (oX x) [.ref (xa x 0), .int a1, .int a2] σ (f_X9_odds  a1 a2 σ) := by
  refine oML_of (nL := 9) (cc := cX9_odds) hI (by decide +kernel) rfl (Nat.le_of_ble_eq_true rfl) ?_
  intro κ C
  have C : oC κ (oX x) 9 cX9_odds RX9 wsX9_odds 5 (some .long) := C
  unfold f_X9_odds
  show oV κ (oX x) 9 (oQl κ (oX x)) σ 0 [(0, .ref (xa x 0)), (1, .int a1), (2, .int a2)] [] _
  refine r_ildn (pc := 0) C dX9_odds_0 1 rfl ?_
  refine r_iflt (pc := 1) (tgt := 33) C dX9_odds_1 (by decide) ?_ ?_
  · refine r_aldn (pc := 33) C dX9_odds_33 0 rfl ?_
    refine r_iconst (pc := 34) (v := (1 : Int32)) C dX9_odds_34 ic_1 ?_
    refine k_X9_error (x := x) (pc := 35) (a1 := (1 : Int32)) C gX9_odds_X9_error (by omega)  (Nat.le_of_ble_eq_true rfl) dX9_odds_35 (fun r15 s14 => ?_)
    refine r_i2l (pc := 38) C dX9_odds_38 ?_
    exact r_lret (pc := 39) C dX9_odds_39
  · refine r_ildn (pc := 4) C dX9_odds_4 1 rfl ?_
    refine r_aldn (pc := 5) C dX9_odds_5 0 rfl ?_
    refine gf_X9_0_0 (pc := 6) C hi_X9_odds_X9 wd_X9_odds_1 dX9_odds_6 ?_
    refine gfN_X0_1_1 (pc := 9) C hi_X9_odds_X0 nw_26 dX9_odds_9 ?_
    refine r_ishr (pc := 12) C dX9_odds_12 ?_
    refine r_ifne (pc := 13) (tgt := 33) C dX9_odds_13 (by decide) ?_ ?_
    · refine r_aldn (pc := 33) C dX9_odds_33 0 rfl ?_
      refine r_iconst (pc := 34) (v := (1 : Int32)) C dX9_odds_34 ic_1 ?_
      refine k_X9_error (x := x) (pc := 35) (a1 := (1 : Int32)) C gX9_odds_X9_error (by omega)  (Nat.le_of_ble_eq_true rfl) dX9_odds_35 (fun r17 s16 => ?_)
      refine r_i2l (pc := 38) C dX9_odds_38 ?_
      exact r_lret (pc := 39) C dX9_odds_39
    · refine r_ildn (pc := 16) C dX9_odds_16 1 rfl ?_
      refine kS_J6_bitCount_0f7a4 (x := x) (pc := 17) (a0 := a1) C gX9_odds_J6_bitCount_0f7a4 (by omega)  (Nat.le_of_ble_eq_true rfl) dX9_odds_17 (fun r19 s18 => ?_)
      refine r_iconst (pc := 20) (v := (4 : Int32)) C dX9_odds_20 ic_4 ?_
      refine r_icgt (pc := 21) (tgt := 33) C dX9_odds_21 (by decide) ?_ ?_
      · refine r_aldn (pc := 33) C dX9_odds_33 0 rfl ?_
        refine r_iconst (pc := 34) (v := (1 : Int32)) C dX9_odds_34 ic_1 ?_
        refine k_X9_error (x := x) (pc := 35) (a1 := (1 : Int32)) C gX9_odds_X9_error (by omega)  (Nat.le_of_ble_eq_true rfl) dX9_odds_35 (fun r21 s20 => ?_)
        refine r_i2l (pc := 38) C dX9_odds_38 ?_
        exact r_lret (pc := 39) C dX9_odds_39
      · refine r_ildn (pc := 24) C dX9_odds_24 2 rfl ?_
        refine r_iconst (pc := 25) (v := (0 : Int32)) C dX9_odds_25 ic_0 ?_
        refine r_iconst (pc := 26) (v := (1 : Int32)) C dX9_odds_26 ic_1 ?_
        refine kS_X9_isIn (x := x) (pc := 27) (a0 := a2) (a1 := (0 : Int32)) (a2 := (1 : Int32)) C gX9_odds_X9_isIn (by omega)  (Nat.le_of_ble_eq_true rfl) dX9_odds_27 (fun r23 s22 => ?_)
        refine r_ifne (pc := 30) (tgt := 40) C dX9_odds_30 (by decide) ?_ ?_
        · refine r_lconst (pc := 40) (v := (1 : Int64)) C dX9_odds_40 (by decide) ?_
          refine r_lstn (pc := 41) (lv' := [(0, _), (1, _), (2, _), (3, _)]) C dX9_odds_41 (by decide) [1, 2, 3, 0] rfl ?_
          refine r_lconst (pc := 42) (v := (1 : Int64)) C dX9_odds_42 (by decide) ?_
          refine r_lst (pc := 43) (lv' := [(0, _), (1, _), (2, _), (3, _), (5, _)]) C dX9_odds_43 (by decide) [1, 2, 3, 4, 0] rfl ?_
          refine r_iconst (pc := 45) (v := (0 : Int32)) C dX9_odds_45 ic_0 ?_
          refine r_ist (pc := 46) (lv' := [(0, _), (1, _), (2, _), (3, _), (5, _), (7, _)]) C dX9_odds_46 (by decide) [1, 2, 3, 4, 5, 0] rfl ?_
          exact v_X9_odds_48 (x := x) C fuN a1 a2 (1 : Int64) (1 : Int64) (0 : Int32) s22
        · refine r_aldn (pc := 33) C dX9_odds_33 0 rfl ?_
          refine r_iconst (pc := 34) (v := (1 : Int32)) C dX9_odds_34 ic_1 ?_
          refine k_X9_error (x := x) (pc := 35) (a1 := (1 : Int32)) C gX9_odds_X9_error (by omega)  (Nat.le_of_ble_eq_true rfl) dX9_odds_35 (fun r25 s24 => ?_)
          refine r_i2l (pc := 38) C dX9_odds_38 ?_
          exact r_lret (pc := 39) C dX9_odds_39
set_option maxHeartbeats 4000000 in
set_option maxRecDepth 100000 in
theorem m_X9_of (l : Launch) (x : oXp) (hI : oI (oX x)) (a1 : Int32) (σ : Sg) : oMI l yX9_of wsX9_of 4 (oX x) [.ref (xa x 0), .int a1] σ (f_X9_of  a1 σ) := by
  refine oMI_of (nL := 2) (cc := cX9_of) hI (by decide +kernel) rfl (Nat.le_of_ble_eq_true rfl) ?_
  intro κ C
  have C : oC κ (oX x) 2 cX9_of RX9 wsX9_of 4 (some .int) := C
  unfold f_X9_of
  show oV κ (oX x) 2 (oQi κ (oX x)) σ 0 [(0, .ref (xa x 0)), (1, .int a1)] [] _
  refine r_ildn (pc := 0) C dX9_of_0 1 rfl ?_
  refine r_iconst (pc := 1) (v := (0 : Int32)) C dX9_of_1 ic_0 ?_
  refine r_iconst (pc := 2) (v := (5 : Int32)) C dX9_of_2 ic_5 ?_
  refine kS_X9_isIn (x := x) (pc := 3) (a0 := a1) (a1 := (0 : Int32)) (a2 := (5 : Int32)) C gX9_of_X9_isIn (by omega)  (Nat.le_of_ble_eq_true rfl) dX9_of_3 (fun r2 s1 => ?_)
  refine r_ifeq (pc := 6) (tgt := 23) C dX9_of_6 (by decide) ?_ ?_
  · refine r_aldn (pc := 23) C dX9_of_23 0 rfl ?_
    refine r_iconst (pc := 24) (v := (1 : Int32)) C dX9_of_24 ic_1 ?_
    refine k_X9_error (x := x) (pc := 25) (a1 := (1 : Int32)) C gX9_of_X9_error (by omega)  (Nat.le_of_ble_eq_true rfl) dX9_of_25 (fun r4 s3 => ?_)
    exact r_iret (pc := 28) C dX9_of_28
  · refine r_aldn (pc := 9) C dX9_of_9 0 rfl ?_
    refine gf_X9_0_0 (pc := 10) C hi_X9_of_X9 wd_X9_of_1 dX9_of_10 ?_
    refine r_ildn (pc := 13) C dX9_of_13 1 rfl ?_
    refine k_X0_columnsOf (x := x) (pc := 14) (a1 := a1) C gX9_of_X0_columnsOf (by omega)  (Nat.le_of_ble_eq_true rfl) dX9_of_14 (fun r6 s5 => ?_)
    refine kS_J6_bitCount_0f7a4 (x := x) (pc := 17) (a0 := r6) C gX9_of_J6_bitCount_0f7a4 (by omega)  (Nat.le_of_ble_eq_true rfl) dX9_of_17 (fun r8 s7 => ?_)
    refine r_goto (pc := 20) (tgt := 28) C dX9_of_20 (by decide) ?_
    exact r_iret (pc := 28) C dX9_of_28
set_option maxHeartbeats 4000000 in
set_option maxRecDepth 100000 in
theorem v_X9_parts_49_b {κ : oK} {x : oXp} (C : oC κ (oX x) 4 cX9_parts RX9 wsX9_parts 7 (some .int))  (rec49 : Nat → Int32 → Sg → Option (Int32 × Sg)) (hrec49 : ∀ (o2 : Nat) (a3 : Int32) (h1_o2 : 10 ≤ o2) (h2_o2 : o2 < 14) (σ : Sg), oV κ (oX x) 4 (oQi κ (oX x)) σ 49 [(0, .ref (xa x 0)), (2, .ref (xa x o2)), (3, .int a3)] [] (rec49 o2 a3 σ)) (o2 : Nat) (a3 : Int32) (h1_o2 : 10 ≤ o2) (h2_o2 : o2 < 14) (σ : Sg) : oV κ (oX x) 4 (oQi κ (oX x)) σ 49 [(0, .ref (xa x 0)), (2, .ref (xa x o2)), (3, .int a3)] [] (f_X9_parts_49_b   rec49 o2 a3 σ) := by
  unfold f_X9_parts_49_b
  refine r_ildn (pc := 49) C dX9_parts_49 2 rfl ?_
  refine r_aldn (pc := 50) C dX9_parts_50 1 rfl ?_
  refine gfN_X7_0 (pc := 51) C (o := o2) (by omega) (by omega) hi_X9_parts_X7 nw_45 dX9_parts_51 ?_
  refine gfN_X6_1 (pc := 54) C (o := (o2 + 48)) (by omega) (by omega) hi_X9_parts_X6 nw_7 dX9_parts_54 ?_
  refine r_icge (pc := 57) (tgt := 90) C dX9_parts_57 (by decide) ?_ ?_
  · refine r_aldn (pc := 90) C dX9_parts_90 0 rfl ?_
    refine gf_X9_5_0 (pc := 91) C hi_X9_parts_X9 wd_X9_parts_2 dX9_parts_91 ?_
    refine r_aldn (pc := 94) C dX9_parts_94 1 rfl ?_
    refine gfN_X7_0 (pc := 95) C (o := o2) (by omega) (by omega) hi_X9_parts_X7 nw_45 dX9_parts_95 ?_
    refine r_aldn (pc := 98) C dX9_parts_98 0 rfl ?_
    refine gf_X9_0_0 (pc := 99) C hi_X9_parts_X9 wd_X9_parts_3 dX9_parts_99 ?_
    refine k_X0_taken (x := x) (pc := 102)  C gX9_parts_X0_taken (by omega)  (Nat.le_of_ble_eq_true rfl) dX9_parts_102 (fun r2 s1 => ?_)
    refine k_X3_most (x := x) (pc := 105) (o1 := (o2 + 48)) (a2 := r2) C gX9_parts_X3_most (by omega) (by omega) (by omega) (Nat.le_of_ble_eq_true rfl) dX9_parts_105 (fun r4 s3 => ?_)
    exact r_iret (pc := 108) C dX9_parts_108
  · refine r_aldn (pc := 60) C dX9_parts_60 1 rfl ?_
    refine gfN_X7_0 (pc := 61) C (o := o2) (by omega) (by omega) hi_X9_parts_X7 nw_45 dX9_parts_61 ?_
    refine gfN_X6_0 (pc := 64) C (o := (o2 + 48)) (by omega) (by omega) hi_X9_parts_X6 nw_3 dX9_parts_64 ?_
    refine r_ildn (pc := 67) C dX9_parts_67 2 rfl ?_
    refine iald_oX_cells (pc := 68) C (o := ((o2 + 48) + 18)) (by omega) (by omega) dX9_parts_68 ?_
    refine r_iconst (pc := 69) (v := (1 : Int32)) C dX9_parts_69 ic_1 ?_
    refine r_bipush (pc := 70) (v := (12 : Int32)) C dX9_parts_70 bp_12 ?_
    refine kS_X9_isIn (x := x) (pc := 72) (a0 := (rd (σ ((o2 + 48) + 18)) a3)) (a1 := (1 : Int32)) (a2 := (12 : Int32)) C gX9_parts_X9_isIn (by omega)  (Nat.le_of_ble_eq_true rfl) dX9_parts_72 (fun r6 s5 => ?_)
    refine r_ifne (pc := 75) (tgt := 84) C dX9_parts_75 (by decide) ?_ ?_
    · refine r_iinc (pc := 84) (v := (1 : Int32)) (lv1 := fun y => [(0, _), (2, _), (3, .int y)]) C dX9_parts_84 ic_1 2 rfl (by decide) [1, 2, 0] (fun _ => rfl) (fun v7 => ?_)
      refine r_goto (pc := 87) (tgt := 49) C dX9_parts_87 (by decide) ?_
      exact hrec49 o2 v7 (by omega) (by omega) s5
    · refine r_aldn (pc := 78) C dX9_parts_78 0 rfl ?_
      refine r_iconst (pc := 79) (v := (3 : Int32)) C dX9_parts_79 ic_3 ?_
      refine k_X9_error (x := x) (pc := 80) (a1 := (3 : Int32)) C gX9_parts_X9_error (by omega)  (Nat.le_of_ble_eq_true rfl) dX9_parts_80 (fun r9 s8 => ?_)
      exact r_iret (pc := 83) C dX9_parts_83
theorem v_X9_parts_49 {κ : oK} {x : oXp} (C : oC κ (oX x) 4 cX9_parts RX9 wsX9_parts 7 (some .int))  : ∀ (n : Nat) (o2 : Nat) (a3 : Int32) (h1_o2 : 10 ≤ o2) (h2_o2 : o2 < 14) (σ : Sg), oV κ (oX x) 4 (oQi κ (oX x)) σ 49 [(0, .ref (xa x 0)), (2, .ref (xa x o2)), (3, .int a3)] [] (f_X9_parts_49   n o2 a3 σ) := by
  intro n
  induction n with
  | zero => intros; exact r_none
  | succ n ih => exact v_X9_parts_49_b C  _ ih
set_option maxHeartbeats 4000000 in
set_option maxRecDepth 100000 in
theorem m_X9_parts (l : Launch) (x : oXp) (hI : oI (oX x)) (a1 : Int32) (σ : Sg) : oMI l yX9_parts wsX9_parts 7 (oX x) [.ref (xa x 0), .int a1] σ (f_X9_parts  a1 σ) := by
  refine oMI_of (nL := 4) (cc := cX9_parts) hI (by decide +kernel) rfl (Nat.le_of_ble_eq_true rfl) ?_
  intro κ C
  have C : oC κ (oX x) 4 cX9_parts RX9 wsX9_parts 7 (some .int) := C
  unfold f_X9_parts
  show oV κ (oX x) 4 (oQi κ (oX x)) σ 0 [(0, .ref (xa x 0)), (1, .int a1)] [] _
  refine r_ildn (pc := 0) C dX9_parts_0 1 rfl ?_
  refine r_iconst (pc := 1) (v := (0 : Int32)) C dX9_parts_1 ic_0 ?_
  refine r_iconst (pc := 2) (v := (3 : Int32)) C dX9_parts_2 ic_3 ?_
  refine kS_X9_isIn (x := x) (pc := 3) (a0 := a1) (a1 := (0 : Int32)) (a2 := (3 : Int32)) C gX9_parts_X9_isIn (by omega)  (Nat.le_of_ble_eq_true rfl) dX9_parts_3 (fun r11 s10 => ?_)
  refine r_ifne (pc := 6) (tgt := 15) C dX9_parts_6 (by decide) ?_ ?_
  · refine r_aldn (pc := 15) C dX9_parts_15 0 rfl ?_
    refine gf_X9_7_0 (pc := 16) C hi_X9_parts_X9 wd_X9_parts_1 dX9_parts_16 ?_
    refine r_ildn (pc := 19) C dX9_parts_19 1 rfl ?_
    refine qa_Sh_7 (pc := 20) C dX9_parts_20 (fun p12 h1_p12 h2_p12 => ?_)
    refine r_astn (pc := 21) (lv' := [(0, _), (2, _)]) C dX9_parts_21 (by decide) [1, 0] rfl ?_
    refine r_aldn (pc := 22) C dX9_parts_22 1 rfl ?_
    refine k_X7_isMissing (x := x) (pc := 23) (o0 := p12) C gX9_parts_X7_isMissing (by omega) (by omega) (by omega) (Nat.le_of_ble_eq_true rfl) dX9_parts_23 (fun r14 s13 => ?_)
    refine r_ifne (pc := 26) (tgt := 41) C dX9_parts_26 (by decide) ?_ ?_
    · refine r_aldn (pc := 41) C dX9_parts_41 0 rfl ?_
      refine r_iconst (pc := 42) (v := (2 : Int32)) C dX9_parts_42 ic_2 ?_
      refine k_X9_error (x := x) (pc := 43) (a1 := (2 : Int32)) C gX9_parts_X9_error (by omega)  (Nat.le_of_ble_eq_true rfl) dX9_parts_43 (fun r16 s15 => ?_)
      exact r_iret (pc := 46) C dX9_parts_46
    · refine r_aldn (pc := 29) C dX9_parts_29 1 rfl ?_
      refine gfN_X7_0 (pc := 30) C (o := p12) (by omega) (by omega) hi_X9_parts_X7 nw_45 dX9_parts_30 ?_
      refine gfN_X6_1 (pc := 33) C (o := (p12 + 48)) (by omega) (by omega) hi_X9_parts_X6 nw_7 dX9_parts_33 ?_
      refine r_bipush (pc := 36) (v := (6 : Int32)) C dX9_parts_36 bp_6 ?_
      refine r_icle (pc := 38) (tgt := 47) C dX9_parts_38 (by decide) ?_ ?_
      · refine r_iconst (pc := 47) (v := (0 : Int32)) C dX9_parts_47 ic_0 ?_
        refine r_istn (pc := 48) (lv' := [(0, _), (2, _), (3, _)]) C dX9_parts_48 (by decide) [1, 2, 0] rfl ?_
        exact v_X9_parts_49 (x := x) C fuN p12 (0 : Int32) (by omega) (by omega) s13
      · refine r_aldn (pc := 41) C dX9_parts_41 0 rfl ?_
        refine r_iconst (pc := 42) (v := (2 : Int32)) C dX9_parts_42 ic_2 ?_
        refine k_X9_error (x := x) (pc := 43) (a1 := (2 : Int32)) C gX9_parts_X9_error (by omega)  (Nat.le_of_ble_eq_true rfl) dX9_parts_43 (fun r18 s17 => ?_)
        exact r_iret (pc := 46) C dX9_parts_46
  · refine r_aldn (pc := 9) C dX9_parts_9 0 rfl ?_
    refine r_iconst (pc := 10) (v := (1 : Int32)) C dX9_parts_10 ic_1 ?_
    refine k_X9_error (x := x) (pc := 11) (a1 := (1 : Int32)) C gX9_parts_X9_error (by omega)  (Nat.le_of_ble_eq_true rfl) dX9_parts_11 (fun r20 s19 => ?_)
    exact r_iret (pc := 14) C dX9_parts_14
set_option maxHeartbeats 4000000 in
set_option maxRecDepth 100000 in
theorem m_X9_pen (l : Launch) (x : oXp) (hI : oI (oX x)) (a1 : Int32) (a2 : Int32) (σ : Sg) : oMI l yX9_pen wsX9_pen 4 (oX x) [.ref (xa x 0), .int a1, .int a2] σ (f_X9_pen  a1 a2 σ) := by
  refine oMI_of (nL := 4) (cc := cX9_pen) hI (by decide +kernel) rfl (Nat.le_of_ble_eq_true rfl) ?_
  intro κ C
  have C : oC κ (oX x) 4 cX9_pen RX9 wsX9_pen 4 (some .int) := C
  unfold f_X9_pen
  show oV κ (oX x) 4 (oQi κ (oX x)) σ 0 [(0, .ref (xa x 0)), (1, .int a1), (2, .int a2)] [] _
  refine r_ildn (pc := 0) C dX9_pen_0 1 rfl ?_
  refine r_iconst (pc := 1) (v := (0 : Int32)) C dX9_pen_1 ic_0 ?_
  refine r_iconst (pc := 2) (v := (4 : Int32)) C dX9_pen_2 ic_4 ?_
  refine kS_X9_isIn (x := x) (pc := 3) (a0 := a1) (a1 := (0 : Int32)) (a2 := (4 : Int32)) C gX9_pen_X9_isIn (by omega)  (Nat.le_of_ble_eq_true rfl) dX9_pen_3 (fun r2 s1 => ?_)
  refine r_ifeq (pc := 6) (tgt := 19) C dX9_pen_6 (by decide) ?_ ?_
  · refine r_aldn (pc := 19) C dX9_pen_19 0 rfl ?_
    refine r_iconst (pc := 20) (v := (1 : Int32)) C dX9_pen_20 ic_1 ?_
    refine k_X9_error (x := x) (pc := 21) (a1 := (1 : Int32)) C gX9_pen_X9_error (by omega)  (Nat.le_of_ble_eq_true rfl) dX9_pen_21 (fun r4 s3 => ?_)
    exact r_iret (pc := 24) C dX9_pen_24
  · refine r_ildn (pc := 9) C dX9_pen_9 2 rfl ?_
    refine r_iconst (pc := 10) (v := (0 : Int32)) C dX9_pen_10 ic_0 ?_
    refine r_bipush (pc := 11) (v := (99 : Int32)) C dX9_pen_11 bp_99 ?_
    refine kS_X9_isIn (x := x) (pc := 13) (a0 := a2) (a1 := (0 : Int32)) (a2 := (99 : Int32)) C gX9_pen_X9_isIn (by omega)  (Nat.le_of_ble_eq_true rfl) dX9_pen_13 (fun r6 s5 => ?_)
    refine r_ifne (pc := 16) (tgt := 25) C dX9_pen_16 (by decide) ?_ ?_
    · refine r_aldn (pc := 25) C dX9_pen_25 0 rfl ?_
      refine gf_X9_0_0 (pc := 26) C hi_X9_pen_X9 wd_X9_pen_1 dX9_pen_26 ?_
      refine gfN_X0_5_1 (pc := 29) C hi_X9_pen_X0 nw_33 dX9_pen_29 ?_
      refine r_ildn (pc := 32) C dX9_pen_32 1 rfl ?_
      refine iald_oX_16 (pc := 33) C dX9_pen_33 ?_
      refine r_nm (fun v7 => ?_)
      refine r_istn (pc := 34) (lv' := [(0, _), (1, _), (2, _), (3, _)]) C dX9_pen_34 (by decide) [1, 2, 3, 0] rfl ?_
      refine r_aldn (pc := 35) C dX9_pen_35 0 rfl ?_
      refine gf_X9_0_0 (pc := 36) C hi_X9_pen_X9 wd_X9_pen_1 dX9_pen_36 ?_
      refine gfN_X0_5_1 (pc := 39) C hi_X9_pen_X0 nw_33 dX9_pen_39 ?_
      refine r_ildn (pc := 42) C dX9_pen_42 1 rfl ?_
      refine r_ildn (pc := 43) C dX9_pen_43 2 rfl ?_
      refine iast_oX_16 (pc := 44) C dX9_pen_44 (fun s8 => ?_)
      refine r_ildn (pc := 45) C dX9_pen_45 3 rfl ?_
      exact r_iret (pc := 46) C dX9_pen_46
    · refine r_aldn (pc := 19) C dX9_pen_19 0 rfl ?_
      refine r_iconst (pc := 20) (v := (1 : Int32)) C dX9_pen_20 ic_1 ?_
      refine k_X9_error (x := x) (pc := 21) (a1 := (1 : Int32)) C gX9_pen_X9_error (by omega)  (Nat.le_of_ble_eq_true rfl) dX9_pen_21 (fun r10 s9 => ?_)
      exact r_iret (pc := 24) C dX9_pen_24
set_option maxHeartbeats 4000000 in
set_option maxRecDepth 100000 in
theorem m_X9_photo (l : Launch) (x : oXp) (hI : oI (oX x)) (a1 : Int32) (a2 : Int32) (σ : Sg) : oMI l yX9_photo wsX9_photo 4 (oX x) [.ref (xa x 0), .int a1, .int a2] σ (f_X9_photo  a1 a2 σ) := by
  refine oMI_of (nL := 4) (cc := cX9_photo) hI (by decide +kernel) rfl (Nat.le_of_ble_eq_true rfl) ?_
  intro κ C
  have C : oC κ (oX x) 4 cX9_photo RX9 wsX9_photo 4 (some .int) := C
  unfold f_X9_photo
  show oV κ (oX x) 4 (oQi κ (oX x)) σ 0 [(0, .ref (xa x 0)), (1, .int a1), (2, .int a2)] [] _
  refine r_aldn (pc := 0) C dX9_photo_0 0 rfl ?_
  refine gf_X9_0_0 (pc := 1) C hi_X9_photo_X9 wd_X9_photo_1 dX9_photo_1 ?_
  refine r_ildn (pc := 4) C dX9_photo_4 1 rfl ?_
  refine k_X0_hasLine (x := x) (pc := 5) (a1 := a1) C gX9_photo_X0_hasLine (by omega)  (Nat.le_of_ble_eq_true rfl) dX9_photo_5 (fun r2 s1 => ?_)
  refine r_ifeq (pc := 8) (tgt := 20) C dX9_photo_8 (by decide) ?_ ?_
  · refine r_aldn (pc := 20) C dX9_photo_20 0 rfl ?_
    refine r_iconst (pc := 21) (v := (1 : Int32)) C dX9_photo_21 ic_1 ?_
    refine k_X9_error (x := x) (pc := 22) (a1 := (1 : Int32)) C gX9_photo_X9_error (by omega)  (Nat.le_of_ble_eq_true rfl) dX9_photo_22 (fun r4 s3 => ?_)
    exact r_iret (pc := 25) C dX9_photo_25
  · refine r_ildn (pc := 11) C dX9_photo_11 2 rfl ?_
    refine r_iconst (pc := 12) (v := (0 : Int32)) C dX9_photo_12 ic_0 ?_
    refine r_iconst (pc := 13) (v := (1 : Int32)) C dX9_photo_13 ic_1 ?_
    refine kS_X9_isIn (x := x) (pc := 14) (a0 := a2) (a1 := (0 : Int32)) (a2 := (1 : Int32)) C gX9_photo_X9_isIn (by omega)  (Nat.le_of_ble_eq_true rfl) dX9_photo_14 (fun r6 s5 => ?_)
    refine r_ifne (pc := 17) (tgt := 26) C dX9_photo_17 (by decide) ?_ ?_
    · refine r_aldn (pc := 26) C dX9_photo_26 0 rfl ?_
      refine gf_X9_0_0 (pc := 27) C hi_X9_photo_X9 wd_X9_photo_1 dX9_photo_27 ?_
      refine gfN_X0_0_1 (pc := 30) C hi_X9_photo_X0 nw_24 dX9_photo_30 ?_
      refine r_ildn (pc := 33) C dX9_photo_33 1 rfl ?_
      refine qa_Ln_14 (pc := 34) C dX9_photo_34 (fun p7 h1_p7 h2_p7 => ?_)
      refine gfN_X2_5 (pc := 35) C (o := p7) (by omega) (by omega) hi_X9_photo_X2 nw_20 dX9_photo_35 ?_
      refine r_nm (fun v8 => ?_)
      refine r_istn (pc := 38) (lv' := [(0, _), (1, _), (2, _), (3, _)]) C dX9_photo_38 (by decide) [1, 2, 3, 0] rfl ?_
      refine r_aldn (pc := 39) C dX9_photo_39 0 rfl ?_
      refine gf_X9_0_0 (pc := 40) C hi_X9_photo_X9 wd_X9_photo_1 dX9_photo_40 ?_
      refine gfN_X0_0_1 (pc := 43) C hi_X9_photo_X0 nw_24 dX9_photo_43 ?_
      refine r_ildn (pc := 46) C dX9_photo_46 1 rfl ?_
      refine qa_Ln_14 (pc := 47) C dX9_photo_47 (fun p9 h1_p9 h2_p9 => ?_)
      refine r_ildn (pc := 48) C dX9_photo_48 2 rfl ?_
      refine pfN_X2_5 (pc := 49) C (o := p9) (by omega) (by omega) hi_X9_photo_X2 nw_20 dX9_photo_49 (fun s10 => ?_)
      refine r_ildn (pc := 52) C dX9_photo_52 3 rfl ?_
      exact r_iret (pc := 53) C dX9_photo_53
    · refine r_aldn (pc := 20) C dX9_photo_20 0 rfl ?_
      refine r_iconst (pc := 21) (v := (1 : Int32)) C dX9_photo_21 ic_1 ?_
      refine k_X9_error (x := x) (pc := 22) (a1 := (1 : Int32)) C gX9_photo_X9_error (by omega)  (Nat.le_of_ble_eq_true rfl) dX9_photo_22 (fun r12 s11 => ?_)
      exact r_iret (pc := 25) C dX9_photo_25
set_option maxHeartbeats 4000000 in
set_option maxRecDepth 100000 in
theorem m_X9_put (l : Launch) (x : oXp) (hI : oI (oX x)) (a1 : Int32) (a2 : Int32) (a3 : Int32) (σ : Sg) : oMI l yX9_put wsX9_put 4 (oX x) [.ref (xa x 0), .int a1, .int a2, .int a3] σ (f_X9_put  a1 a2 a3 σ) := by
  refine oMI_of (nL := 4) (cc := cX9_put) hI (by decide +kernel) rfl (Nat.le_of_ble_eq_true rfl) ?_
  intro κ C
  have C : oC κ (oX x) 4 cX9_put RX9 wsX9_put 4 (some .int) := C
  unfold f_X9_put
  show oV κ (oX x) 4 (oQi κ (oX x)) σ 0 [(0, .ref (xa x 0)), (1, .int a1), (2, .int a2), (3, .int a3)] [] _
  refine r_ildn (pc := 0) C dX9_put_0 1 rfl ?_
  refine r_iconst (pc := 1) (v := (0 : Int32)) C dX9_put_1 ic_0 ?_
  refine r_iconst (pc := 2) (v := (3 : Int32)) C dX9_put_2 ic_3 ?_
  refine kS_X9_isIn (x := x) (pc := 3) (a0 := a1) (a1 := (0 : Int32)) (a2 := (3 : Int32)) C gX9_put_X9_isIn (by omega)  (Nat.le_of_ble_eq_true rfl) dX9_put_3 (fun r2 s1 => ?_)
  refine r_ifne (pc := 6) (tgt := 15) C dX9_put_6 (by decide) ?_ ?_
  · refine r_aldn (pc := 15) C dX9_put_15 0 rfl ?_
    refine gf_X9_7_0 (pc := 16) C hi_X9_put_X9 wd_X9_put_1 dX9_put_16 ?_
    refine r_ildn (pc := 19) C dX9_put_19 1 rfl ?_
    refine qa_Sh_7 (pc := 20) C dX9_put_20 (fun p3 h1_p3 h2_p3 => ?_)
    refine k_X7_isMissing (x := x) (pc := 21) (o0 := p3) C gX9_put_X7_isMissing (by omega) (by omega) (by omega) (Nat.le_of_ble_eq_true rfl) dX9_put_21 (fun r5 s4 => ?_)
    refine r_ifeq (pc := 24) (tgt := 33) C dX9_put_24 (by decide) ?_ ?_
    · refine r_ildn (pc := 33) C dX9_put_33 2 rfl ?_
      refine r_iconst (pc := 34) (v := (0 : Int32)) C dX9_put_34 ic_0 ?_
      refine r_aldn (pc := 35) C dX9_put_35 0 rfl ?_
      refine gf_X9_7_0 (pc := 36) C hi_X9_put_X9 wd_X9_put_1 dX9_put_36 ?_
      refine r_ildn (pc := 39) C dX9_put_39 1 rfl ?_
      refine qa_Sh_7 (pc := 40) C dX9_put_40 (fun p6 h1_p6 h2_p6 => ?_)
      refine gfN_X7_0 (pc := 41) C (o := p6) (by omega) (by omega) hi_X9_put_X7 nw_45 dX9_put_41 ?_
      refine gfN_X6_1 (pc := 44) C (o := (p6 + 48)) (by omega) (by omega) hi_X9_put_X6 nw_7 dX9_put_44 ?_
      refine r_iconst (pc := 47) (v := (1 : Int32)) C dX9_put_47 ic_1 ?_
      refine r_isub (pc := 48) C dX9_put_48 ?_
      refine kS_X9_isIn (x := x) (pc := 49) (a0 := a2) (a1 := (0 : Int32)) (a2 := ((s4 (p6 + 48) 1) - (1 : Int32))) C gX9_put_X9_isIn (by omega)  (Nat.le_of_ble_eq_true rfl) dX9_put_49 (fun r8 s7 => ?_)
      refine r_ifne (pc := 52) (tgt := 61) C dX9_put_52 (by decide) ?_ ?_
      · refine r_aldn (pc := 61) C dX9_put_61 0 rfl ?_
        refine gf_X9_7_0 (pc := 62) C hi_X9_put_X9 wd_X9_put_1 dX9_put_62 ?_
        refine r_ildn (pc := 65) C dX9_put_65 1 rfl ?_
        refine qa_Sh_7 (pc := 66) C dX9_put_66 (fun p9 h1_p9 h2_p9 => ?_)
        refine gfN_X7_0 (pc := 67) C (o := p9) (by omega) (by omega) hi_X9_put_X7 nw_45 dX9_put_67 ?_
        refine gfN_X6_0 (pc := 70) C (o := (p9 + 48)) (by omega) (by omega) hi_X9_put_X6 nw_3 dX9_put_70 ?_
        refine r_ildn (pc := 73) C dX9_put_73 2 rfl ?_
        refine r_aldn (pc := 74) C dX9_put_74 0 rfl ?_
        refine gf_X9_7_0 (pc := 75) C hi_X9_put_X9 wd_X9_put_1 dX9_put_75 ?_
        refine r_ildn (pc := 78) C dX9_put_78 1 rfl ?_
        refine qa_Sh_7 (pc := 79) C dX9_put_79 (fun p10 h1_p10 h2_p10 => ?_)
        refine r_ildn (pc := 80) C dX9_put_80 3 rfl ?_
        refine k_X7_lowestBits (x := x) (pc := 81) (o0 := p10) (a1 := a3) C gX9_put_X7_lowestBits (by omega) (by omega) (by omega) (Nat.le_of_ble_eq_true rfl) dX9_put_81 (fun r12 s11 => ?_)
        refine iast_oX_cells (pc := 84) C (o := ((p9 + 48) + 18)) (by omega) (by omega) dX9_put_84 (fun s13 => ?_)
        refine r_iconst (pc := 85) (v := (1 : Int32)) C dX9_put_85 ic_1 ?_
        exact r_iret (pc := 86) C dX9_put_86
      · refine r_aldn (pc := 55) C dX9_put_55 0 rfl ?_
        refine r_iconst (pc := 56) (v := (1 : Int32)) C dX9_put_56 ic_1 ?_
        refine k_X9_error (x := x) (pc := 57) (a1 := (1 : Int32)) C gX9_put_X9_error (by omega)  (Nat.le_of_ble_eq_true rfl) dX9_put_57 (fun r15 s14 => ?_)
        exact r_iret (pc := 60) C dX9_put_60
    · refine r_aldn (pc := 27) C dX9_put_27 0 rfl ?_
      refine r_iconst (pc := 28) (v := (2 : Int32)) C dX9_put_28 ic_2 ?_
      refine k_X9_error (x := x) (pc := 29) (a1 := (2 : Int32)) C gX9_put_X9_error (by omega)  (Nat.le_of_ble_eq_true rfl) dX9_put_29 (fun r17 s16 => ?_)
      exact r_iret (pc := 32) C dX9_put_32
  · refine r_aldn (pc := 9) C dX9_put_9 0 rfl ?_
    refine r_iconst (pc := 10) (v := (1 : Int32)) C dX9_put_10 ic_1 ?_
    refine k_X9_error (x := x) (pc := 11) (a1 := (1 : Int32)) C gX9_put_X9_error (by omega)  (Nat.le_of_ble_eq_true rfl) dX9_put_11 (fun r19 s18 => ?_)
    exact r_iret (pc := 14) C dX9_put_14
set_option maxHeartbeats 4000000 in
set_option maxRecDepth 100000 in
theorem m_X9_restore (l : Launch) (x : oXp) (hI : oI (oX x))  (σ : Sg) : oMI l yX9_restore wsX9_restore 7 (oX x) [.ref (xa x 0)] σ (f_X9_restore   σ) := by
  refine oMI_of (nL := 1) (cc := cX9_restore) hI (by decide +kernel) rfl (Nat.le_of_ble_eq_true rfl) ?_
  intro κ C
  have C : oC κ (oX x) 1 cX9_restore RX9 wsX9_restore 7 (some .int) := C
  unfold f_X9_restore
  show oV κ (oX x) 1 (oQi κ (oX x)) σ 0 [(0, .ref (xa x 0))] [] _
  refine r_aldn (pc := 0) C dX9_restore_0 0 rfl ?_
  refine gf_X9_2_0 (pc := 1) C hi_X9_restore_X9 wd_X9_restore_1 dX9_restore_1 ?_
  refine r_ifne (pc := 4) (tgt := 13) C dX9_restore_4 (by decide) ?_ ?_
  · refine r_aldn (pc := 13) C dX9_restore_13 0 rfl ?_
    refine gf_X9_0_0 (pc := 14) C hi_X9_restore_X9 wd_X9_restore_2 dX9_restore_14 ?_
    refine r_aldn (pc := 17) C dX9_restore_17 0 rfl ?_
    refine gf_X9_1_0 (pc := 18) C hi_X9_restore_X9 wd_X9_restore_3 dX9_restore_18 ?_
    refine k_X0_copyFrom (x := x) (pc := 21) (o0 := 1) (o1 := 2) C gX9_restore_X0_copyFrom (by omega) (by omega) (by omega) (by omega) (by omega) (Nat.le_of_ble_eq_true rfl) dX9_restore_21 (fun _ s1 => ?_)
    refine r_aldn (pc := 24) C dX9_restore_24 0 rfl ?_
    refine gf_X9_0_0 (pc := 25) C hi_X9_restore_X9 wd_X9_restore_2 dX9_restore_25 ?_
    refine gfN_X0_2_1 (pc := 28) C hi_X9_restore_X0 nw_29 dX9_restore_28 ?_
    exact r_iret (pc := 31) C dX9_restore_31
  · refine r_aldn (pc := 7) C dX9_restore_7 0 rfl ?_
    refine r_iconst (pc := 8) (v := (2 : Int32)) C dX9_restore_8 ic_2 ?_
    refine k_X9_error (x := x) (pc := 9) (a1 := (2 : Int32)) C gX9_restore_X9_error (by omega)  (Nat.le_of_ble_eq_true rfl) dX9_restore_9 (fun r4 s3 => ?_)
    exact r_iret (pc := 12) C dX9_restore_12
set_option maxHeartbeats 4000000 in
set_option maxRecDepth 100000 in
theorem m_X9_room (l : Launch) (x : oXp) (hI : oI (oX x)) (a1 : Int32) (a2 : Int32) (σ : Sg) : oMI l yX9_room wsX9_room 9 (oX x) [.ref (xa x 0), .int a1, .int a2] σ (f_X9_room  a1 a2 σ) := by
  refine oMI_of (nL := 3) (cc := cX9_room) hI (by decide +kernel) rfl (Nat.le_of_ble_eq_true rfl) ?_
  intro κ C
  have C : oC κ (oX x) 3 cX9_room RX9 wsX9_room 9 (some .int) := C
  unfold f_X9_room
  show oV κ (oX x) 3 (oQi κ (oX x)) σ 0 [(0, .ref (xa x 0)), (1, .int a1), (2, .int a2)] [] _
  refine r_ildn (pc := 0) C dX9_room_0 1 rfl ?_
  refine r_iconst (pc := 1) (v := (1 : Int32)) C dX9_room_1 ic_1 ?_
  refine r_bipush (pc := 2) (v := (12 : Int32)) C dX9_room_2 bp_12 ?_
  refine kS_X9_isIn (x := x) (pc := 4) (a0 := a1) (a1 := (1 : Int32)) (a2 := (12 : Int32)) C gX9_room_X9_isIn (by omega)  (Nat.le_of_ble_eq_true rfl) dX9_room_4 (fun r2 s1 => ?_)
  refine r_ifeq (pc := 7) (tgt := 19) C dX9_room_7 (by decide) ?_ ?_
  · refine r_aldn (pc := 19) C dX9_room_19 0 rfl ?_
    refine r_iconst (pc := 20) (v := (1 : Int32)) C dX9_room_20 ic_1 ?_
    refine k_X9_error (x := x) (pc := 21) (a1 := (1 : Int32)) C gX9_room_X9_error (by omega)  (Nat.le_of_ble_eq_true rfl) dX9_room_21 (fun r4 s3 => ?_)
    exact r_iret (pc := 24) C dX9_room_24
  · refine r_ildn (pc := 10) C dX9_room_10 2 rfl ?_
    refine r_iconst (pc := 11) (v := (0 : Int32)) C dX9_room_11 ic_0 ?_
    refine r_iconst (pc := 12) (v := (3 : Int32)) C dX9_room_12 ic_3 ?_
    refine kS_X9_isIn (x := x) (pc := 13) (a0 := a2) (a1 := (0 : Int32)) (a2 := (3 : Int32)) C gX9_room_X9_isIn (by omega)  (Nat.le_of_ble_eq_true rfl) dX9_room_13 (fun r6 s5 => ?_)
    refine r_ifne (pc := 16) (tgt := 25) C dX9_room_16 (by decide) ?_ ?_
    · refine r_aldn (pc := 25) C dX9_room_25 0 rfl ?_
      refine gf_X9_4_0 (pc := 26) C hi_X9_room_X9 wd_X9_room_1 dX9_room_26 ?_
      refine r_aldn (pc := 29) C dX9_room_29 0 rfl ?_
      refine gf_X9_0_0 (pc := 30) C hi_X9_room_X9 wd_X9_room_2 dX9_room_30 ?_
      refine r_ildn (pc := 33) C dX9_room_33 1 rfl ?_
      refine r_aldn (pc := 34) C dX9_room_34 0 rfl ?_
      refine gf_X9_0_0 (pc := 35) C hi_X9_room_X9 wd_X9_room_2 dX9_room_35 ?_
      refine gfN_X0_2_1 (pc := 38) C hi_X9_room_X0 nw_29 dX9_room_38 ?_
      refine k_X5_seek (x := x) (pc := 41) (a2 := a1) (a3 := (s5 1 2)) C gX9_room_X5_seek (by omega)  (Nat.le_of_ble_eq_true rfl) dX9_room_41 (fun r8 s7 => ?_)
      refine r_ifne (pc := 44) (tgt := 53) C dX9_room_44 (by decide) ?_ ?_
      · refine r_ildn (pc := 53) C dX9_room_53 2 rfl ?_
        refine r_ite (fun c9 => ?_) (fun c9 => ?_)
        · refine r_tabE (pc := 54) (v := (0 : Int32)) (off := 26) (tgt := 80) C dX9_room_54 c9 (by decide) (by decide) (by decide) (by decide) ?_
          refine r_aldn (pc := 80) C dX9_room_80 0 rfl ?_
          refine gf_X9_4_0 (pc := 81) C hi_X9_room_X9 wd_X9_room_1 dX9_room_81 ?_
          refine gfN_X5_0_4 (pc := 84) C hi_X9_room_X5 nw_40 dX9_room_84 ?_
          exact r_iret (pc := 87) C dX9_room_87
        · refine r_ite (fun c10 => ?_) (fun c10 => ?_)
          · refine r_tabE (pc := 54) (v := (1 : Int32)) (off := 34) (tgt := 88) C dX9_room_54 c10 (by decide) (by decide) (by decide) (by decide) ?_
            refine r_aldn (pc := 88) C dX9_room_88 0 rfl ?_
            refine gf_X9_4_0 (pc := 89) C hi_X9_room_X9 wd_X9_room_1 dX9_room_89 ?_
            refine gfN_X5_1_4 (pc := 92) C hi_X9_room_X5 nw_41 dX9_room_92 ?_
            exact r_iret (pc := 95) C dX9_room_95
          · refine r_ite (fun c11 => ?_) (fun c11 => ?_)
            · refine r_tabE (pc := 54) (v := (2 : Int32)) (off := 42) (tgt := 96) C dX9_room_54 c11 (by decide) (by decide) (by decide) (by decide) ?_
              refine r_aldn (pc := 96) C dX9_room_96 0 rfl ?_
              refine gf_X9_4_0 (pc := 97) C hi_X9_room_X9 wd_X9_room_1 dX9_room_97 ?_
              refine gfN_X5_2_4 (pc := 100) C hi_X9_room_X5 nw_42 dX9_room_100 ?_
              exact r_iret (pc := 103) C dX9_room_103
            · refine r_tabO (pc := 54) (tgt := 104) C dX9_room_54 (by have q0 := lv_neT (k := (0 : Int32)) (a := 0) c9 (by decide); have q1 := lv_neT (k := (1 : Int32)) (a := 1) c10 (by decide); have q2 := lv_neT (k := (2 : Int32)) (a := 2) c11 (by decide); omega) (by decide) ?_
              refine r_aldn (pc := 104) C dX9_room_104 0 rfl ?_
              refine gf_X9_0_0 (pc := 105) C hi_X9_room_X9 wd_X9_room_2 dX9_room_105 ?_
              refine r_iconst (pc := 108) (v := (1 : Int32)) C dX9_room_108 ic_1 ?_
              refine r_ildn (pc := 109) C dX9_room_109 1 rfl ?_
              refine r_aldn (pc := 110) C dX9_room_110 0 rfl ?_
              refine gf_X9_0_0 (pc := 111) C hi_X9_room_X9 wd_X9_room_2 dX9_room_111 ?_
              refine gfN_X0_2_1 (pc := 114) C hi_X9_room_X0 nw_29 dX9_room_114 ?_
              refine r_bipush (pc := 117) (v := (7 : Int32)) C dX9_room_117 bp_7 ?_
              refine r_irem (pc := 119) C dX9_room_119 (by decide) ?_
              refine r_aldn (pc := 120) C dX9_room_120 0 rfl ?_
              refine gf_X9_4_0 (pc := 121) C hi_X9_room_X9 wd_X9_room_1 dX9_room_121 ?_
              refine gfN_X5_2_4 (pc := 124) C hi_X9_room_X5 nw_42 dX9_room_124 ?_
              refine kS_J6_bitCount_0f7a4 (x := x) (pc := 127) (a0 := (s7 4 2)) C gX9_room_J6_bitCount_0f7a4 (by omega)  (Nat.le_of_ble_eq_true rfl) dX9_room_127 (fun r13 s12 => ?_)
              refine k_X0_lawGives (x := x) (pc := 130) (a1 := (1 : Int32)) (a2 := a1) (a3 := (irm (s7 1 2) (7 : Int32))) (a4 := r13) C gX9_room_X0_lawGives (by omega)  (Nat.le_of_ble_eq_true rfl) dX9_room_130 (fun r15 s14 => ?_)
              exact r_iret (pc := 133) C dX9_room_133
      · refine r_aldn (pc := 47) C dX9_room_47 0 rfl ?_
        refine r_iconst (pc := 48) (v := (2 : Int32)) C dX9_room_48 ic_2 ?_
        refine k_X9_error (x := x) (pc := 49) (a1 := (2 : Int32)) C gX9_room_X9_error (by omega)  (Nat.le_of_ble_eq_true rfl) dX9_room_49 (fun r17 s16 => ?_)
        exact r_iret (pc := 52) C dX9_room_52
    · refine r_aldn (pc := 19) C dX9_room_19 0 rfl ?_
      refine r_iconst (pc := 20) (v := (1 : Int32)) C dX9_room_20 ic_1 ?_
      refine k_X9_error (x := x) (pc := 21) (a1 := (1 : Int32)) C gX9_room_X9_error (by omega)  (Nat.le_of_ble_eq_true rfl) dX9_room_21 (fun r19 s18 => ?_)
      exact r_iret (pc := 24) C dX9_room_24
set_option maxHeartbeats 4000000 in
set_option maxRecDepth 100000 in
theorem m_X9_seed (l : Launch) (x : oXp) (hI : oI (oX x)) (a1 : Int32) (σ : Sg) : oMI l yX9_seed wsX9_seed 3 (oX x) [.ref (xa x 0), .int a1] σ (f_X9_seed  a1 σ) := by
  refine oMI_of (nL := 3) (cc := cX9_seed) hI (by decide +kernel) rfl (Nat.le_of_ble_eq_true rfl) ?_
  intro κ C
  have C : oC κ (oX x) 3 cX9_seed RX9 wsX9_seed 3 (some .int) := C
  unfold f_X9_seed
  show oV κ (oX x) 3 (oQi κ (oX x)) σ 0 [(0, .ref (xa x 0)), (1, .int a1)] [] _
  refine r_aldn (pc := 0) C dX9_seed_0 0 rfl ?_
  refine gf_X9_0_0 (pc := 1) C hi_X9_seed_X9 wd_X9_seed_1 dX9_seed_1 ?_
  refine gfN_X0_6_1 (pc := 4) C hi_X9_seed_X0 nw_34 dX9_seed_4 ?_
  refine r_nm (fun v1 => ?_)
  refine r_istn (pc := 7) (lv' := [(0, _), (1, _), (2, _)]) C dX9_seed_7 (by decide) [1, 2, 0] rfl ?_
  refine r_aldn (pc := 8) C dX9_seed_8 0 rfl ?_
  refine gf_X9_0_0 (pc := 9) C hi_X9_seed_X9 wd_X9_seed_1 dX9_seed_9 ?_
  refine r_ildn (pc := 12) C dX9_seed_12 1 rfl ?_
  refine pfN_X0_6_1 (pc := 13) C hi_X9_seed_X0 nw_34 dX9_seed_13 (fun s2 => ?_)
  refine r_ildn (pc := 16) C dX9_seed_16 2 rfl ?_
  exact r_iret (pc := 17) C dX9_seed_17
set_option maxHeartbeats 4000000 in
set_option maxRecDepth 100000 in
theorem v_X9_sheet_67 {κ : oK} {x : oXp} (C : oC κ (oX x) 4 cX9_sheet RX9 wsX9_sheet 5 (some .int))  (a1 : Int32) (a2 : Int32) (a3 : Int32) (σ : Sg) : oV κ (oX x) 4 (oQi κ (oX x)) σ 67 [(0, .ref (xa x 0)), (1, .int a1), (2, .int a2), (3, .int a3)] [] (f_X9_sheet_67   a1 a2 a3 σ) := by
  unfold f_X9_sheet_67
  refine r_aldn (pc := 67) C dX9_sheet_67 0 rfl ?_
  refine gf_X9_7_0 (pc := 68) C hi_X9_sheet_X9 wd_X9_sheet_1 dX9_sheet_68 ?_
  refine r_ildn (pc := 71) C dX9_sheet_71 1 rfl ?_
  refine qa_Sh_7 (pc := 72) C dX9_sheet_72 (fun p1 h1_p1 h2_p1 => ?_)
  refine r_ildn (pc := 73) C dX9_sheet_73 2 rfl ?_
  refine r_ildn (pc := 74) C dX9_sheet_74 2 rfl ?_
  refine r_ifne (pc := 75) (tgt := 82) C dX9_sheet_75 (by decide) ?_ ?_
  · refine r_ildn (pc := 82) C dX9_sheet_82 3 rfl ?_
    refine k_X7_begin (x := x) (pc := 83) (o0 := p1) (a1 := a2) (a2 := a3) C gX9_sheet_X7_begin (by omega) (by omega) (by omega) (Nat.le_of_ble_eq_true rfl) dX9_sheet_83 (fun _ s2 => ?_)
    refine r_iconst (pc := 86) (v := (1 : Int32)) C dX9_sheet_86 ic_1 ?_
    exact r_iret (pc := 87) C dX9_sheet_87
  · refine r_iconst (pc := 78) (v := (0 : Int32)) C dX9_sheet_78 ic_0 ?_
    refine r_goto (pc := 79) (tgt := 83) C dX9_sheet_79 (by decide) ?_
    refine k_X7_begin (x := x) (pc := 83) (o0 := p1) (a1 := a2) (a2 := (0 : Int32)) C gX9_sheet_X7_begin (by omega) (by omega) (by omega) (Nat.le_of_ble_eq_true rfl) dX9_sheet_83 (fun _ s4 => ?_)
    refine r_iconst (pc := 86) (v := (1 : Int32)) C dX9_sheet_86 ic_1 ?_
    exact r_iret (pc := 87) C dX9_sheet_87
set_option maxHeartbeats 4000000 in
set_option maxRecDepth 100000 in
theorem v_X9_sheet_51 {κ : oK} {x : oXp} (C : oC κ (oX x) 4 cX9_sheet RX9 wsX9_sheet 5 (some .int))  (a1 : Int32) (a2 : Int32) (a3 : Int32) (σ : Sg) : oV κ (oX x) 4 (oQi κ (oX x)) σ 51 [(0, .ref (xa x 0)), (1, .int a1), (2, .int a2), (3, .int a3)] [] (f_X9_sheet_51   a1 a2 a3 σ) := by
  unfold f_X9_sheet_51
  refine r_ildn (pc := 51) C dX9_sheet_51 2 rfl ?_
  refine r_ifeq (pc := 52) (tgt := 67) C dX9_sheet_52 (by decide) ?_ ?_
  · exact v_X9_sheet_67 (x := x) C a1 a2 a3 σ
  · refine r_ildn (pc := 55) C dX9_sheet_55 3 rfl ?_
    refine r_bipush (pc := 56) (v := (24 : Int32)) C dX9_sheet_56 bp_24 ?_
    refine r_icle (pc := 58) (tgt := 67) C dX9_sheet_58 (by decide) ?_ ?_
    · exact v_X9_sheet_67 (x := x) C a1 a2 a3 σ
    · refine r_aldn (pc := 61) C dX9_sheet_61 0 rfl ?_
      refine r_iconst (pc := 62) (v := (1 : Int32)) C dX9_sheet_62 ic_1 ?_
      refine k_X9_error (x := x) (pc := 63) (a1 := (1 : Int32)) C gX9_sheet_X9_error (by omega)  (Nat.le_of_ble_eq_true rfl) dX9_sheet_63 (fun r7 s6 => ?_)
      exact r_iret (pc := 66) C dX9_sheet_66
set_option maxHeartbeats 4000000 in
set_option maxRecDepth 100000 in
theorem v_X9_sheet_37 {κ : oK} {x : oXp} (C : oC κ (oX x) 4 cX9_sheet RX9 wsX9_sheet 5 (some .int))  (a1 : Int32) (a2 : Int32) (a3 : Int32) (σ : Sg) : oV κ (oX x) 4 (oQi κ (oX x)) σ 37 [(0, .ref (xa x 0)), (1, .int a1), (2, .int a2), (3, .int a3)] [] (f_X9_sheet_37   a1 a2 a3 σ) := by
  unfold f_X9_sheet_37
  refine r_ildn (pc := 37) C dX9_sheet_37 2 rfl ?_
  refine r_ifeq (pc := 38) (tgt := 51) C dX9_sheet_38 (by decide) ?_ ?_
  · exact v_X9_sheet_51 (x := x) C a1 a2 a3 σ
  · refine r_ildn (pc := 41) C dX9_sheet_41 3 rfl ?_
    refine r_ifge (pc := 42) (tgt := 51) C dX9_sheet_42 (by decide) ?_ ?_
    · exact v_X9_sheet_51 (x := x) C a1 a2 a3 σ
    · refine r_aldn (pc := 45) C dX9_sheet_45 0 rfl ?_
      refine r_iconst (pc := 46) (v := (3 : Int32)) C dX9_sheet_46 ic_3 ?_
      refine k_X9_error (x := x) (pc := 47) (a1 := (3 : Int32)) C gX9_sheet_X9_error (by omega)  (Nat.le_of_ble_eq_true rfl) dX9_sheet_47 (fun r9 s8 => ?_)
      exact r_iret (pc := 50) C dX9_sheet_50
set_option maxHeartbeats 4000000 in
set_option maxRecDepth 100000 in
theorem m_X9_sheet (l : Launch) (x : oXp) (hI : oI (oX x)) (a1 : Int32) (a2 : Int32) (a3 : Int32) (σ : Sg) : oMI l yX9_sheet wsX9_sheet 5 (oX x) [.ref (xa x 0), .int a1, .int a2, .int a3] σ (f_X9_sheet  a1 a2 a3 σ) := by
  refine oMI_of (nL := 4) (cc := cX9_sheet) hI (by decide +kernel) rfl (Nat.le_of_ble_eq_true rfl) ?_
  intro κ C
  have C : oC κ (oX x) 4 cX9_sheet RX9 wsX9_sheet 5 (some .int) := C
  unfold f_X9_sheet
  show oV κ (oX x) 4 (oQi κ (oX x)) σ 0 [(0, .ref (xa x 0)), (1, .int a1), (2, .int a2), (3, .int a3)] [] _
  refine r_ildn (pc := 0) C dX9_sheet_0 1 rfl ?_
  refine r_iconst (pc := 1) (v := (0 : Int32)) C dX9_sheet_1 ic_0 ?_
  refine r_iconst (pc := 2) (v := (3 : Int32)) C dX9_sheet_2 ic_3 ?_
  refine kS_X9_isIn (x := x) (pc := 3) (a0 := a1) (a1 := (0 : Int32)) (a2 := (3 : Int32)) C gX9_sheet_X9_isIn (by omega)  (Nat.le_of_ble_eq_true rfl) dX9_sheet_3 (fun r11 s10 => ?_)
  refine r_ifeq (pc := 6) (tgt := 31) C dX9_sheet_6 (by decide) ?_ ?_
  · refine r_aldn (pc := 31) C dX9_sheet_31 0 rfl ?_
    refine r_iconst (pc := 32) (v := (1 : Int32)) C dX9_sheet_32 ic_1 ?_
    refine k_X9_error (x := x) (pc := 33) (a1 := (1 : Int32)) C gX9_sheet_X9_error (by omega)  (Nat.le_of_ble_eq_true rfl) dX9_sheet_33 (fun r13 s12 => ?_)
    exact r_iret (pc := 36) C dX9_sheet_36
  · refine r_ildn (pc := 9) C dX9_sheet_9 2 rfl ?_
    refine r_ifeq (pc := 10) (tgt := 37) C dX9_sheet_10 (by decide) ?_ ?_
    · exact v_X9_sheet_37 (x := x) C a1 a2 a3 s10
    · refine r_ildn (pc := 13) C dX9_sheet_13 2 rfl ?_
      refine r_bipush (pc := 14) (v := (8 : Int32)) C dX9_sheet_14 bp_8 ?_
      refine r_iceq (pc := 16) (tgt := 37) C dX9_sheet_16 (by decide) ?_ ?_
      · exact v_X9_sheet_37 (x := x) C a1 a2 a3 s10
      · refine r_ildn (pc := 19) C dX9_sheet_19 2 rfl ?_
        refine r_bipush (pc := 20) (v := (16 : Int32)) C dX9_sheet_20 bp_16 ?_
        refine r_iceq (pc := 22) (tgt := 37) C dX9_sheet_22 (by decide) ?_ ?_
        · exact v_X9_sheet_37 (x := x) C a1 a2 a3 s10
        · refine r_ildn (pc := 25) C dX9_sheet_25 2 rfl ?_
          refine r_bipush (pc := 26) (v := (32 : Int32)) C dX9_sheet_26 bp_32 ?_
          refine r_iceq (pc := 28) (tgt := 37) C dX9_sheet_28 (by decide) ?_ ?_
          · exact v_X9_sheet_37 (x := x) C a1 a2 a3 s10
          · refine r_aldn (pc := 31) C dX9_sheet_31 0 rfl ?_
            refine r_iconst (pc := 32) (v := (1 : Int32)) C dX9_sheet_32 ic_1 ?_
            refine k_X9_error (x := x) (pc := 33) (a1 := (1 : Int32)) C gX9_sheet_X9_error (by omega)  (Nat.le_of_ble_eq_true rfl) dX9_sheet_33 (fun r15 s14 => ?_)
            exact r_iret (pc := 36) C dX9_sheet_36
set_option maxHeartbeats 4000000 in
set_option maxRecDepth 100000 in
theorem m_X9_spirit (l : Launch) (x : oXp) (hI : oI (oX x)) (a1 : Int32) (σ : Sg) : oMI l yX9_spirit wsX9_spirit 4 (oX x) [.ref (xa x 0), .int a1] σ (f_X9_spirit  a1 σ) := by
  refine oMI_of (nL := 3) (cc := cX9_spirit) hI (by decide +kernel) rfl (Nat.le_of_ble_eq_true rfl) ?_
  intro κ C
  have C : oC κ (oX x) 3 cX9_spirit RX9 wsX9_spirit 4 (some .int) := C
  unfold f_X9_spirit
  show oV κ (oX x) 3 (oQi κ (oX x)) σ 0 [(0, .ref (xa x 0)), (1, .int a1)] [] _
  refine r_ildn (pc := 0) C dX9_spirit_0 1 rfl ?_
  refine r_iconst (pc := 1) (v := (0 : Int32)) C dX9_spirit_1 ic_0 ?_
  refine r_iconst (pc := 2) (v := (1 : Int32)) C dX9_spirit_2 ic_1 ?_
  refine kS_X9_isIn (x := x) (pc := 3) (a0 := a1) (a1 := (0 : Int32)) (a2 := (1 : Int32)) C gX9_spirit_X9_isIn (by omega)  (Nat.le_of_ble_eq_true rfl) dX9_spirit_3 (fun r2 s1 => ?_)
  refine r_ifne (pc := 6) (tgt := 15) C dX9_spirit_6 (by decide) ?_ ?_
  · refine r_aldn (pc := 15) C dX9_spirit_15 0 rfl ?_
    refine gf_X9_0_0 (pc := 16) C hi_X9_spirit_X9 wd_X9_spirit_1 dX9_spirit_16 ?_
    refine gfN_X0_3_1 (pc := 19) C hi_X9_spirit_X0 nw_31 dX9_spirit_19 ?_
    refine r_nm (fun v3 => ?_)
    refine r_istn (pc := 22) (lv' := [(0, _), (1, _), (2, _)]) C dX9_spirit_22 (by decide) [1, 2, 0] rfl ?_
    refine r_aldn (pc := 23) C dX9_spirit_23 0 rfl ?_
    refine gf_X9_0_0 (pc := 24) C hi_X9_spirit_X9 wd_X9_spirit_1 dX9_spirit_24 ?_
    refine r_ildn (pc := 27) C dX9_spirit_27 1 rfl ?_
    refine pfN_X0_3_1 (pc := 28) C hi_X9_spirit_X0 nw_31 dX9_spirit_28 (fun s4 => ?_)
    refine r_ildn (pc := 31) C dX9_spirit_31 2 rfl ?_
    exact r_iret (pc := 32) C dX9_spirit_32
  · refine r_aldn (pc := 9) C dX9_spirit_9 0 rfl ?_
    refine r_iconst (pc := 10) (v := (1 : Int32)) C dX9_spirit_10 ic_1 ?_
    refine k_X9_error (x := x) (pc := 11) (a1 := (1 : Int32)) C gX9_spirit_X9_error (by omega)  (Nat.le_of_ble_eq_true rfl) dX9_spirit_11 (fun r6 s5 => ?_)
    exact r_iret (pc := 14) C dX9_spirit_14
set_option maxHeartbeats 4000000 in
set_option maxRecDepth 100000 in
theorem m_X9_tell (l : Launch) (x : oXp) (hI : oI (oX x)) (a1 : Int32) (σ : Sg) : oMI l yX9_tell wsX9_tell 4 (oX x) [.ref (xa x 0), .int a1] σ (f_X9_tell  a1 σ) := by
  refine oMI_of (nL := 2) (cc := cX9_tell) hI (by decide +kernel) rfl (Nat.le_of_ble_eq_true rfl) ?_
  intro κ C
  have C : oC κ (oX x) 2 cX9_tell RX9 wsX9_tell 4 (some .int) := C
  unfold f_X9_tell
  show oV κ (oX x) 2 (oQi κ (oX x)) σ 0 [(0, .ref (xa x 0)), (1, .int a1)] [] _
  refine r_aldn (pc := 0) C dX9_tell_0 0 rfl ?_
  refine gf_X9_0_0 (pc := 1) C hi_X9_tell_X9 wd_X9_tell_1 dX9_tell_1 ?_
  refine gfN_X0_8_1 (pc := 4) C hi_X9_tell_X0 nw_36 dX9_tell_4 ?_
  refine r_iconst (pc := 7) (v := (1 : Int32)) C dX9_tell_7 ic_1 ?_
  refine k_X6_hasRoomFor (x := x) (pc := 8) (o0 := 46) (a1 := (1 : Int32)) C gX9_tell_X6_hasRoomFor (by omega) (by omega) (by omega) (Nat.le_of_ble_eq_true rfl) dX9_tell_8 (fun r2 s1 => ?_)
  refine r_ifne (pc := 11) (tgt := 20) C dX9_tell_11 (by decide) ?_ ?_
  · refine r_aldn (pc := 20) C dX9_tell_20 0 rfl ?_
    refine gf_X9_0_0 (pc := 21) C hi_X9_tell_X9 wd_X9_tell_1 dX9_tell_21 ?_
    refine gfN_X0_8_1 (pc := 24) C hi_X9_tell_X0 nw_36 dX9_tell_24 ?_
    refine r_ildn (pc := 27) C dX9_tell_27 1 rfl ?_
    refine k_X6_add (x := x) (pc := 28) (o0 := 46) (a1 := a1) C gX9_tell_X6_add (by omega) (by omega) (by omega) (Nat.le_of_ble_eq_true rfl) dX9_tell_28 (fun _ s3 => ?_)
    refine r_aldn (pc := 31) C dX9_tell_31 0 rfl ?_
    refine gf_X9_0_0 (pc := 32) C hi_X9_tell_X9 wd_X9_tell_1 dX9_tell_32 ?_
    refine gfN_X0_8_1 (pc := 35) C hi_X9_tell_X0 nw_36 dX9_tell_35 ?_
    refine gfN_X6_1_46 (pc := 38) C hi_X9_tell_X6 nw_7 dX9_tell_38 ?_
    exact r_iret (pc := 41) C dX9_tell_41
  · refine r_aldn (pc := 14) C dX9_tell_14 0 rfl ?_
    refine r_iconst (pc := 15) (v := (4 : Int32)) C dX9_tell_15 ic_4 ?_
    refine k_X9_error (x := x) (pc := 16) (a1 := (4 : Int32)) C gX9_tell_X9_error (by omega)  (Nat.le_of_ble_eq_true rfl) dX9_tell_16 (fun r6 s5 => ?_)
    exact r_iret (pc := 19) C dX9_tell_19
set_option maxHeartbeats 4000000 in
set_option maxRecDepth 100000 in
theorem m_X9_text (l : Launch) (x : oXp) (hI : oI (oX x)) (a1 : Int32) (σ : Sg) : oMI l yX9_text wsX9_text 71 (oX x) [.ref (xa x 0), .int a1] σ (f_X9_text  a1 σ) := by
  refine oMI_of (nL := 3) (cc := cX9_text) hI (by decide +kernel) rfl (Nat.le_of_ble_eq_true rfl) ?_
  intro κ C
  have C : oC κ (oX x) 3 cX9_text RX9 wsX9_text 71 (some .int) := C
  unfold f_X9_text
  show oV κ (oX x) 3 (oQi κ (oX x)) σ 0 [(0, .ref (xa x 0)), (1, .int a1)] [] _
  refine r_ildn (pc := 0) C dX9_text_0 1 rfl ?_
  refine r_iconst (pc := 1) (v := (0 : Int32)) C dX9_text_1 ic_0 ?_
  refine r_iconst (pc := 2) (v := (1 : Int32)) C dX9_text_2 ic_1 ?_
  refine kS_X9_isIn (x := x) (pc := 3) (a0 := a1) (a1 := (0 : Int32)) (a2 := (1 : Int32)) C gX9_text_X9_isIn (by omega)  (Nat.le_of_ble_eq_true rfl) dX9_text_3 (fun r2 s1 => ?_)
  refine r_ifne (pc := 6) (tgt := 15) C dX9_text_6 (by decide) ?_ ?_
  · refine r_aldn (pc := 15) C dX9_text_15 0 rfl ?_
    refine gf_X9_3_0 (pc := 16) C hi_X9_text_X9 wd_X9_text_1 dX9_text_16 ?_
    refine r_aldn (pc := 19) C dX9_text_19 0 rfl ?_
    refine gf_X9_0_0 (pc := 20) C hi_X9_text_X9 wd_X9_text_2 dX9_text_20 ?_
    refine gfN_X0_7_1 (pc := 23) C hi_X9_text_X0 nw_35 dX9_text_23 ?_
    refine r_ildn (pc := 26) C dX9_text_26 1 rfl ?_
    refine k_X4_reads (x := x) (pc := 27) (a2 := a1) C gX9_text_X4_reads (by omega)  (Nat.le_of_ble_eq_true rfl) dX9_text_27 (fun r4 s3 => ?_)
    refine r_istn (pc := 30) (lv' := [(0, _), (1, _), (2, _)]) C dX9_text_30 (by decide) [1, 2, 0] rfl ?_
    refine r_aldn (pc := 31) C dX9_text_31 0 rfl ?_
    refine gf_X9_0_0 (pc := 32) C hi_X9_text_X9 wd_X9_text_2 dX9_text_32 ?_
    refine gfN_X0_7_1 (pc := 35) C hi_X9_text_X0 nw_35 dX9_text_35 ?_
    refine k_X6_clear (x := x) (pc := 38) (o0 := 44) C gX9_text_X6_clear (by omega) (by omega) (by omega) (Nat.le_of_ble_eq_true rfl) dX9_text_38 (fun _ s5 => ?_)
    refine r_ildn (pc := 41) C dX9_text_41 2 rfl ?_
    refine r_ifne (pc := 42) (tgt := 56) C dX9_text_42 (by decide) ?_ ?_
    · refine r_aldn (pc := 56) C dX9_text_56 0 rfl ?_
      refine gf_X9_0_0 (pc := 57) C hi_X9_text_X9 wd_X9_text_2 dX9_text_57 ?_
      refine gfN_X0_9_1 (pc := 60) C hi_X9_text_X0 nw_37 dX9_text_60 ?_
      refine r_ildn (pc := 63) C dX9_text_63 1 rfl ?_
      refine qa_Lw_18 (pc := 64) C dX9_text_64 (fun p7 h1_p7 h2_p7 => ?_)
      refine r_aldn (pc := 65) C dX9_text_65 0 rfl ?_
      refine gf_X9_3_0 (pc := 66) C hi_X9_text_X9 wd_X9_text_1 dX9_text_66 ?_
      refine gfN_X4_0_3 (pc := 69) C hi_X9_text_X4 nw_38 dX9_text_69 ?_
      refine k_X1_take (x := x) (pc := 72) (o0 := p7) (o1 := 56) C gX9_text_X1_take (by omega) (by omega) (by omega) (by omega) (by omega) (Nat.le_of_ble_eq_true rfl) dX9_text_72 (fun _ s8 => ?_)
      refine r_iconst (pc := 75) (v := (1 : Int32)) C dX9_text_75 ic_1 ?_
      exact r_iret (pc := 76) C dX9_text_76
    · refine r_bipush (pc := 45) (v := (-10 : Int32)) C dX9_text_45 bp_m10 ?_
      refine r_aldn (pc := 47) C dX9_text_47 0 rfl ?_
      refine gf_X9_3_0 (pc := 48) C hi_X9_text_X9 wd_X9_text_1 dX9_text_48 ?_
      refine gfN_X4_3_3 (pc := 51) C hi_X9_text_X4 nw_39 dX9_text_51 ?_
      refine r_isub (pc := 54) C dX9_text_54 ?_
      exact r_iret (pc := 55) C dX9_text_55
  · refine r_aldn (pc := 9) C dX9_text_9 0 rfl ?_
    refine r_iconst (pc := 10) (v := (1 : Int32)) C dX9_text_10 ic_1 ?_
    refine k_X9_error (x := x) (pc := 11) (a1 := (1 : Int32)) C gX9_text_X9_error (by omega)  (Nat.le_of_ble_eq_true rfl) dX9_text_11 (fun r11 s10 => ?_)
    exact r_iret (pc := 14) C dX9_text_14
set_option maxHeartbeats 4000000 in
set_option maxRecDepth 100000 in
theorem m_X9_told (l : Launch) (x : oXp) (hI : oI (oX x)) (a1 : Int32) (σ : Sg) : oMI l yX9_told wsX9_told 4 (oX x) [.ref (xa x 0), .int a1] σ (f_X9_told  a1 σ) := by
  refine oMI_of (nL := 2) (cc := cX9_told) hI (by decide +kernel) rfl (Nat.le_of_ble_eq_true rfl) ?_
  intro κ C
  have C : oC κ (oX x) 2 cX9_told RX9 wsX9_told 4 (some .int) := C
  unfold f_X9_told
  show oV κ (oX x) 2 (oQi κ (oX x)) σ 0 [(0, .ref (xa x 0)), (1, .int a1)] [] _
  refine r_ildn (pc := 0) C dX9_told_0 1 rfl ?_
  refine r_iconst (pc := 1) (v := (1 : Int32)) C dX9_told_1 ic_1 ?_
  refine r_bipush (pc := 2) (v := (6 : Int32)) C dX9_told_2 bp_6 ?_
  refine kS_X9_isIn (x := x) (pc := 4) (a0 := a1) (a1 := (1 : Int32)) (a2 := (6 : Int32)) C gX9_told_X9_isIn (by omega)  (Nat.le_of_ble_eq_true rfl) dX9_told_4 (fun r2 s1 => ?_)
  refine r_ifeq (pc := 7) (tgt := 19) C dX9_told_7 (by decide) ?_ ?_
  · refine r_aldn (pc := 19) C dX9_told_19 0 rfl ?_
    refine r_iconst (pc := 20) (v := (1 : Int32)) C dX9_told_20 ic_1 ?_
    refine k_X9_error (x := x) (pc := 21) (a1 := (1 : Int32)) C gX9_told_X9_error (by omega)  (Nat.le_of_ble_eq_true rfl) dX9_told_21 (fun r4 s3 => ?_)
    exact r_iret (pc := 24) C dX9_told_24
  · refine r_aldn (pc := 10) C dX9_told_10 0 rfl ?_
    refine gf_X9_8_0 (pc := 11) C hi_X9_told_X9 wd_X9_told_1 dX9_told_11 ?_
    refine r_ildn (pc := 14) C dX9_told_14 1 rfl ?_
    refine iald_oX_8 (pc := 15) C dX9_told_15 ?_
    refine r_goto (pc := 16) (tgt := 24) C dX9_told_16 (by decide) ?_
    exact r_iret (pc := 24) C dX9_told_24
set_option maxHeartbeats 4000000 in
set_option maxRecDepth 100000 in
theorem m_X9_untell (l : Launch) (x : oXp) (hI : oI (oX x)) (a1 : Int32) (σ : Sg) : oMI l yX9_untell wsX9_untell 4 (oX x) [.ref (xa x 0), .int a1] σ (f_X9_untell  a1 σ) := by
  refine oMI_of (nL := 3) (cc := cX9_untell) hI (by decide +kernel) rfl (Nat.le_of_ble_eq_true rfl) ?_
  intro κ C
  have C : oC κ (oX x) 3 cX9_untell RX9 wsX9_untell 4 (some .int) := C
  unfold f_X9_untell
  show oV κ (oX x) 3 (oQi κ (oX x)) σ 0 [(0, .ref (xa x 0)), (1, .int a1)] [] _
  refine r_ildn (pc := 0) C dX9_untell_0 1 rfl ?_
  refine r_iconst (pc := 1) (v := (0 : Int32)) C dX9_untell_1 ic_0 ?_
  refine r_iconst (pc := 2) (v := (1 : Int32)) C dX9_untell_2 ic_1 ?_
  refine kS_X9_isIn (x := x) (pc := 3) (a0 := a1) (a1 := (0 : Int32)) (a2 := (1 : Int32)) C gX9_untell_X9_isIn (by omega)  (Nat.le_of_ble_eq_true rfl) dX9_untell_3 (fun r2 s1 => ?_)
  refine r_ifne (pc := 6) (tgt := 15) C dX9_untell_6 (by decide) ?_ ?_
  · refine r_aldn (pc := 15) C dX9_untell_15 0 rfl ?_
    refine gf_X9_0_0 (pc := 16) C hi_X9_untell_X9 wd_X9_untell_1 dX9_untell_16 ?_
    refine gfN_X0_9_1 (pc := 19) C hi_X9_untell_X0 nw_37 dX9_untell_19 ?_
    refine r_ildn (pc := 22) C dX9_untell_22 1 rfl ?_
    refine qa_Lw_18 (pc := 23) C dX9_untell_23 (fun p3 h1_p3 h2_p3 => ?_)
    refine gfN_X1_0 (pc := 24) C (o := p3) (by omega) (by omega) hi_X9_untell_X1 nw_9 dX9_untell_24 ?_
    refine r_nm (fun v4 => ?_)
    refine r_istn (pc := 27) (lv' := [(0, _), (1, _), (2, _)]) C dX9_untell_27 (by decide) [1, 2, 0] rfl ?_
    refine r_aldn (pc := 28) C dX9_untell_28 0 rfl ?_
    refine gf_X9_0_0 (pc := 29) C hi_X9_untell_X9 wd_X9_untell_1 dX9_untell_29 ?_
    refine gfN_X0_9_1 (pc := 32) C hi_X9_untell_X0 nw_37 dX9_untell_32 ?_
    refine r_ildn (pc := 35) C dX9_untell_35 1 rfl ?_
    refine qa_Lw_18 (pc := 36) C dX9_untell_36 (fun p5 h1_p5 h2_p5 => ?_)
    refine r_iconst (pc := 37) (v := (0 : Int32)) C dX9_untell_37 ic_0 ?_
    refine pfN_X1_0 (pc := 38) C (o := p5) (by omega) (by omega) hi_X9_untell_X1 nw_9 (isb_nar (by decide)) dX9_untell_38 (fun s6 => ?_)
    refine r_ildn (pc := 41) C dX9_untell_41 2 rfl ?_
    refine r_ifeq (pc := 42) (tgt := 49) C dX9_untell_42 (by decide) ?_ ?_
    · refine r_iconst (pc := 49) (v := (0 : Int32)) C dX9_untell_49 ic_0 ?_
      exact r_iret (pc := 50) C dX9_untell_50
    · refine r_iconst (pc := 45) (v := (1 : Int32)) C dX9_untell_45 ic_1 ?_
      refine r_goto (pc := 46) (tgt := 50) C dX9_untell_46 (by decide) ?_
      exact r_iret (pc := 50) C dX9_untell_50
  · refine r_aldn (pc := 9) C dX9_untell_9 0 rfl ?_
    refine r_iconst (pc := 10) (v := (1 : Int32)) C dX9_untell_10 ic_1 ?_
    refine k_X9_error (x := x) (pc := 11) (a1 := (1 : Int32)) C gX9_untell_X9_error (by omega)  (Nat.le_of_ble_eq_true rfl) dX9_untell_11 (fun r8 s7 => ?_)
    exact r_iret (pc := 14) C dX9_untell_14
set_option maxHeartbeats 4000000 in
set_option maxRecDepth 100000 in
theorem m_X9_voice (l : Launch) (x : oXp) (hI : oI (oX x)) (a1 : Int32) (a2 : Int32) (a3 : Int32) (σ : Sg) : oMI l yX9_voice wsX9_voice 70 (oX x) [.ref (xa x 0), .int a1, .int a2, .int a3] σ (f_X9_voice  a1 a2 a3 σ) := by
  refine oMI_of (nL := 5) (cc := cX9_voice) hI (by decide +kernel) rfl (Nat.le_of_ble_eq_true rfl) ?_
  intro κ C
  have C : oC κ (oX x) 5 cX9_voice RX9 wsX9_voice 70 (some .int) := C
  unfold f_X9_voice
  show oV κ (oX x) 5 (oQi κ (oX x)) σ 0 [(0, .ref (xa x 0)), (1, .int a1), (2, .int a2), (3, .int a3)] [] _
  refine r_aldn (pc := 0) C dX9_voice_0 0 rfl ?_
  refine gf_X9_0_0 (pc := 1) C hi_X9_voice_X9 wd_X9_voice_1 dX9_voice_1 ?_
  refine r_ildn (pc := 4) C dX9_voice_4 1 rfl ?_
  refine k_X0_hasLine (x := x) (pc := 5) (a1 := a1) C gX9_voice_X0_hasLine (by omega)  (Nat.le_of_ble_eq_true rfl) dX9_voice_5 (fun r2 s1 => ?_)
  refine r_ifeq (pc := 8) (tgt := 20) C dX9_voice_8 (by decide) ?_ ?_
  · refine r_aldn (pc := 20) C dX9_voice_20 0 rfl ?_
    refine r_iconst (pc := 21) (v := (1 : Int32)) C dX9_voice_21 ic_1 ?_
    refine k_X9_error (x := x) (pc := 22) (a1 := (1 : Int32)) C gX9_voice_X9_error (by omega)  (Nat.le_of_ble_eq_true rfl) dX9_voice_22 (fun r4 s3 => ?_)
    exact r_iret (pc := 25) C dX9_voice_25
  · refine r_ildn (pc := 11) C dX9_voice_11 2 rfl ?_
    refine r_iconst (pc := 12) (v := (0 : Int32)) C dX9_voice_12 ic_0 ?_
    refine r_iconst (pc := 13) (v := (3 : Int32)) C dX9_voice_13 ic_3 ?_
    refine kS_X9_isIn (x := x) (pc := 14) (a0 := a2) (a1 := (0 : Int32)) (a2 := (3 : Int32)) C gX9_voice_X9_isIn (by omega)  (Nat.le_of_ble_eq_true rfl) dX9_voice_14 (fun r6 s5 => ?_)
    refine r_ifne (pc := 17) (tgt := 26) C dX9_voice_17 (by decide) ?_ ?_
    · refine r_aldn (pc := 26) C dX9_voice_26 0 rfl ?_
      refine gf_X9_6_0 (pc := 27) C hi_X9_voice_X9 wd_X9_voice_2 dX9_voice_27 ?_
      refine r_aldn (pc := 30) C dX9_voice_30 0 rfl ?_
      refine gf_X9_0_0 (pc := 31) C hi_X9_voice_X9 wd_X9_voice_1 dX9_voice_31 ?_
      refine gfN_X0_0_1 (pc := 34) C hi_X9_voice_X0 nw_24 dX9_voice_34 ?_
      refine r_ildn (pc := 37) C dX9_voice_37 1 rfl ?_
      refine qa_Ln_14 (pc := 38) C dX9_voice_38 (fun p7 h1_p7 h2_p7 => ?_)
      refine r_ildn (pc := 39) C dX9_voice_39 1 rfl ?_
      refine r_ildn (pc := 40) C dX9_voice_40 2 rfl ?_
      refine r_ildn (pc := 41) C dX9_voice_41 3 rfl ?_
      refine k_X8_say (x := x) (pc := 42) (o1 := p7) (a2 := a1) (a3 := a2) (a4 := a3) C gX9_voice_X8_say (by omega) (by omega) (by omega) (Nat.le_of_ble_eq_true rfl) dX9_voice_42 (fun r9 s8 => ?_)
      refine r_ist (pc := 45) (lv' := [(0, _), (4, _)]) C dX9_voice_45 (by decide) [1, 0] rfl ?_
      refine r_aldn (pc := 47) C dX9_voice_47 0 rfl ?_
      refine gf_X9_6_0 (pc := 48) C hi_X9_voice_X9 wd_X9_voice_2 dX9_voice_48 ?_
      refine gfN_X8_1_6 (pc := 51) C hi_X9_voice_X8 nw_44 dX9_voice_51 ?_
      refine r_ifeq (pc := 54) (tgt := 66) C dX9_voice_54 (by decide) ?_ ?_
      · refine r_ild (pc := 66) C dX9_voice_66 1 rfl ?_
        exact r_iret (pc := 68) C dX9_voice_68
      · refine r_aldn (pc := 57) C dX9_voice_57 0 rfl ?_
        refine r_bipush (pc := 58) (v := (6 : Int32)) C dX9_voice_58 bp_6 ?_
        refine k_X9_error (x := x) (pc := 60) (a1 := (6 : Int32)) C gX9_voice_X9_error (by omega)  (Nat.le_of_ble_eq_true rfl) dX9_voice_60 (fun r11 s10 => ?_)
        refine r_goto (pc := 63) (tgt := 68) C dX9_voice_63 (by decide) ?_
        exact r_iret (pc := 68) C dX9_voice_68
    · refine r_aldn (pc := 20) C dX9_voice_20 0 rfl ?_
      refine r_iconst (pc := 21) (v := (1 : Int32)) C dX9_voice_21 ic_1 ?_
      refine k_X9_error (x := x) (pc := 22) (a1 := (1 : Int32)) C gX9_voice_X9_error (by omega)  (Nat.le_of_ble_eq_true rfl) dX9_voice_22 (fun r13 s12 => ?_)
      exact r_iret (pc := 25) C dX9_voice_25
set_option maxHeartbeats 4000000 in
set_option maxRecDepth 100000 in
theorem m_X9_when (l : Launch) (x : oXp) (hI : oI (oX x)) (a1 : Int32) (a2 : Int32) (σ : Sg) : oMI l yX9_when wsX9_when 9 (oX x) [.ref (xa x 0), .int a1, .int a2] σ (f_X9_when  a1 a2 σ) := by
  refine oMI_of (nL := 4) (cc := cX9_when) hI (by decide +kernel) rfl (Nat.le_of_ble_eq_true rfl) ?_
  intro κ C
  have C : oC κ (oX x) 4 cX9_when RX9 wsX9_when 9 (some .int) := C
  unfold f_X9_when
  show oV κ (oX x) 4 (oQi κ (oX x)) σ 0 [(0, .ref (xa x 0)), (1, .int a1), (2, .int a2)] [] _
  refine r_ildn (pc := 0) C dX9_when_0 1 rfl ?_
  refine r_iconst (pc := 1) (v := (1 : Int32)) C dX9_when_1 ic_1 ?_
  refine r_bipush (pc := 2) (v := (12 : Int32)) C dX9_when_2 bp_12 ?_
  refine kS_X9_isIn (x := x) (pc := 4) (a0 := a1) (a1 := (1 : Int32)) (a2 := (12 : Int32)) C gX9_when_X9_isIn (by omega)  (Nat.le_of_ble_eq_true rfl) dX9_when_4 (fun r2 s1 => ?_)
  refine r_ifeq (pc := 7) (tgt := 19) C dX9_when_7 (by decide) ?_ ?_
  · refine r_aldn (pc := 19) C dX9_when_19 0 rfl ?_
    refine r_iconst (pc := 20) (v := (1 : Int32)) C dX9_when_20 ic_1 ?_
    refine k_X9_error (x := x) (pc := 21) (a1 := (1 : Int32)) C gX9_when_X9_error (by omega)  (Nat.le_of_ble_eq_true rfl) dX9_when_21 (fun r4 s3 => ?_)
    exact r_iret (pc := 24) C dX9_when_24
  · refine r_ildn (pc := 10) C dX9_when_10 2 rfl ?_
    refine r_iconst (pc := 11) (v := (0 : Int32)) C dX9_when_11 ic_0 ?_
    refine r_iconst (pc := 12) (v := (1 : Int32)) C dX9_when_12 ic_1 ?_
    refine kS_X9_isIn (x := x) (pc := 13) (a0 := a2) (a1 := (0 : Int32)) (a2 := (1 : Int32)) C gX9_when_X9_isIn (by omega)  (Nat.le_of_ble_eq_true rfl) dX9_when_13 (fun r6 s5 => ?_)
    refine r_ifne (pc := 16) (tgt := 25) C dX9_when_16 (by decide) ?_ ?_
    · refine r_aldn (pc := 25) C dX9_when_25 0 rfl ?_
      refine gf_X9_4_0 (pc := 26) C hi_X9_when_X9 wd_X9_when_1 dX9_when_26 ?_
      refine r_aldn (pc := 29) C dX9_when_29 0 rfl ?_
      refine gf_X9_0_0 (pc := 30) C hi_X9_when_X9 wd_X9_when_2 dX9_when_30 ?_
      refine r_ildn (pc := 33) C dX9_when_33 1 rfl ?_
      refine k_X5_firstBehind (x := x) (pc := 34) (a2 := a1) C gX9_when_X5_firstBehind (by omega)  (Nat.le_of_ble_eq_true rfl) dX9_when_34 (fun r8 s7 => ?_)
      refine r_istn (pc := 37) (lv' := [(0, _), (1, _), (2, _), (3, _)]) C dX9_when_37 (by decide) [1, 2, 3, 0] rfl ?_
      refine r_ildn (pc := 38) C dX9_when_38 3 rfl ?_
      refine r_bipush (pc := 39) (v := (90 : Int32)) C dX9_when_39 bp_90 ?_
      refine r_icgt (pc := 41) (tgt := 68) C dX9_when_41 (by decide) ?_ ?_
      · refine r_aldn (pc := 68) C dX9_when_68 0 rfl ?_
        refine r_iconst (pc := 69) (v := (2 : Int32)) C dX9_when_69 ic_2 ?_
        refine k_X9_error (x := x) (pc := 70) (a1 := (2 : Int32)) C gX9_when_X9_error (by omega)  (Nat.le_of_ble_eq_true rfl) dX9_when_70 (fun r10 s9 => ?_)
        exact r_iret (pc := 73) C dX9_when_73
      · refine r_aldn (pc := 44) C dX9_when_44 0 rfl ?_
        refine gf_X9_4_0 (pc := 45) C hi_X9_when_X9 wd_X9_when_1 dX9_when_45 ?_
        refine r_aldn (pc := 48) C dX9_when_48 0 rfl ?_
        refine gf_X9_0_0 (pc := 49) C hi_X9_when_X9 wd_X9_when_2 dX9_when_49 ?_
        refine r_ildn (pc := 52) C dX9_when_52 1 rfl ?_
        refine r_aldn (pc := 53) C dX9_when_53 0 rfl ?_
        refine gf_X9_0_0 (pc := 54) C hi_X9_when_X9 wd_X9_when_2 dX9_when_54 ?_
        refine gfN_X0_2_1 (pc := 57) C hi_X9_when_X0 nw_29 dX9_when_57 ?_
        refine r_ildn (pc := 60) C dX9_when_60 3 rfl ?_
        refine r_iadd (pc := 61) C dX9_when_61 ?_
        refine k_X5_seek (x := x) (pc := 62) (a2 := a1) (a3 := ((s7 1 2) + r8)) C gX9_when_X5_seek (by omega)  (Nat.le_of_ble_eq_true rfl) dX9_when_62 (fun r12 s11 => ?_)
        refine r_ifne (pc := 65) (tgt := 74) C dX9_when_65 (by decide) ?_ ?_
        · refine r_ildn (pc := 74) C dX9_when_74 2 rfl ?_
          refine r_ifne (pc := 75) (tgt := 82) C dX9_when_75 (by decide) ?_ ?_
          · refine r_aldn (pc := 82) C dX9_when_82 0 rfl ?_
            refine gf_X9_4_0 (pc := 83) C hi_X9_when_X9 wd_X9_when_1 dX9_when_83 ?_
            refine gfN_X5_1_4 (pc := 86) C hi_X9_when_X5 nw_41 dX9_when_86 ?_
            exact r_iret (pc := 89) C dX9_when_89
          · refine r_ildn (pc := 78) C dX9_when_78 3 rfl ?_
            refine r_goto (pc := 79) (tgt := 89) C dX9_when_79 (by decide) ?_
            exact r_iret (pc := 89) C dX9_when_89
        · refine r_aldn (pc := 68) C dX9_when_68 0 rfl ?_
          refine r_iconst (pc := 69) (v := (2 : Int32)) C dX9_when_69 ic_2 ?_
          refine k_X9_error (x := x) (pc := 70) (a1 := (2 : Int32)) C gX9_when_X9_error (by omega)  (Nat.le_of_ble_eq_true rfl) dX9_when_70 (fun r14 s13 => ?_)
          exact r_iret (pc := 73) C dX9_when_73
    · refine r_aldn (pc := 19) C dX9_when_19 0 rfl ?_
      refine r_iconst (pc := 20) (v := (1 : Int32)) C dX9_when_20 ic_1 ?_
      refine k_X9_error (x := x) (pc := 21) (a1 := (1 : Int32)) C gX9_when_X9_error (by omega)  (Nat.le_of_ble_eq_true rfl) dX9_when_21 (fun r16 s15 => ?_)
      exact r_iret (pc := 24) C dX9_when_24
set_option maxHeartbeats 4000000 in
set_option maxRecDepth 100000 in
theorem m_X9_wipe (l : Launch) (x : oXp) (hI : oI (oX x)) (a1 : Int32) (σ : Sg) : oMI l yX9_wipe wsX9_wipe 8 (oX x) [.ref (xa x 0), .int a1] σ (f_X9_wipe  a1 σ) := by
  refine oMI_of (nL := 2) (cc := cX9_wipe) hI (by decide +kernel) rfl (Nat.le_of_ble_eq_true rfl) ?_
  intro κ C
  have C : oC κ (oX x) 2 cX9_wipe RX9 wsX9_wipe 8 (some .int) := C
  unfold f_X9_wipe
  show oV κ (oX x) 2 (oQi κ (oX x)) σ 0 [(0, .ref (xa x 0)), (1, .int a1)] [] _
  refine r_aldn (pc := 0) C dX9_wipe_0 0 rfl ?_
  refine gf_X9_0_0 (pc := 1) C hi_X9_wipe_X9 wd_X9_wipe_1 dX9_wipe_1 ?_
  refine r_ildn (pc := 4) C dX9_wipe_4 1 rfl ?_
  refine k_X0_hasLine (x := x) (pc := 5) (a1 := a1) C gX9_wipe_X0_hasLine (by omega)  (Nat.le_of_ble_eq_true rfl) dX9_wipe_5 (fun r2 s1 => ?_)
  refine r_ifne (pc := 8) (tgt := 17) C dX9_wipe_8 (by decide) ?_ ?_
  · refine r_aldn (pc := 17) C dX9_wipe_17 0 rfl ?_
    refine gf_X9_0_0 (pc := 18) C hi_X9_wipe_X9 wd_X9_wipe_1 dX9_wipe_18 ?_
    refine r_ildn (pc := 21) C dX9_wipe_21 1 rfl ?_
    refine r_aldn (pc := 22) C dX9_wipe_22 0 rfl ?_
    refine gf_X9_0_0 (pc := 23) C hi_X9_wipe_X9 wd_X9_wipe_1 dX9_wipe_23 ?_
    refine gfN_X0_2_1 (pc := 26) C hi_X9_wipe_X0 nw_29 dX9_wipe_26 ?_
    refine k_X0_mayGo (x := x) (pc := 29) (a1 := a1) (a2 := (s1 1 2)) C gX9_wipe_X0_mayGo (by omega)  (Nat.le_of_ble_eq_true rfl) dX9_wipe_29 (fun r4 s3 => ?_)
    refine r_ifeq (pc := 32) (tgt := 46) C dX9_wipe_32 (by decide) ?_ ?_
    · refine r_aldn (pc := 46) C dX9_wipe_46 0 rfl ?_
      refine r_iconst (pc := 47) (v := (3 : Int32)) C dX9_wipe_47 ic_3 ?_
      refine k_X9_error (x := x) (pc := 48) (a1 := (3 : Int32)) C gX9_wipe_X9_error (by omega)  (Nat.le_of_ble_eq_true rfl) dX9_wipe_48 (fun r6 s5 => ?_)
      exact r_iret (pc := 51) C dX9_wipe_51
    · refine r_aldn (pc := 35) C dX9_wipe_35 0 rfl ?_
      refine gf_X9_0_0 (pc := 36) C hi_X9_wipe_X9 wd_X9_wipe_1 dX9_wipe_36 ?_
      refine r_ildn (pc := 39) C dX9_wipe_39 1 rfl ?_
      refine k_X0_wipeLine (x := x) (pc := 40) (a1 := a1) C gX9_wipe_X0_wipeLine (by omega)  (Nat.le_of_ble_eq_true rfl) dX9_wipe_40 (fun r8 s7 => ?_)
      refine r_goto (pc := 43) (tgt := 51) C dX9_wipe_43 (by decide) ?_
      exact r_iret (pc := 51) C dX9_wipe_51
  · refine r_aldn (pc := 11) C dX9_wipe_11 0 rfl ?_
    refine r_iconst (pc := 12) (v := (1 : Int32)) C dX9_wipe_12 ic_1 ?_
    refine k_X9_error (x := x) (pc := 13) (a1 := (1 : Int32)) C gX9_wipe_X9_error (by omega)  (Nat.le_of_ble_eq_true rfl) dX9_wipe_13 (fun r10 s9 => ?_)
    exact r_iret (pc := 16) C dX9_wipe_16
set_option maxHeartbeats 4000000 in
set_option maxRecDepth 100000 in
theorem m_X9_write (l : Launch) (x : oXp) (hI : oI (oX x)) (a1 : Int32) (a2 : Int32) (a3 : Int32) (a4 : Int32) (σ : Sg) : oMI l yX9_write wsX9_write 7 (oX x) [.ref (xa x 0), .int a1, .int a2, .int a3, .int a4] σ (f_X9_write  a1 a2 a3 a4 σ) := by
  refine oMI_of (nL := 8) (cc := cX9_write) hI (by decide +kernel) rfl (Nat.le_of_ble_eq_true rfl) ?_
  intro κ C
  have C : oC κ (oX x) 8 cX9_write RX9 wsX9_write 7 (some .int) := C
  unfold f_X9_write
  show oV κ (oX x) 8 (oQi κ (oX x)) σ 0 [(0, .ref (xa x 0)), (1, .int a1), (2, .int a2), (3, .int a3), (4, .int a4)] [] _
  refine r_ildn (pc := 0) C dX9_write_0 2 rfl ?_
  refine r_bipush (pc := 1) (v := (100 : Int32)) C dX9_write_1 bp_100 ?_
  refine r_idiv (pc := 3) C dX9_write_3 (by decide) ?_
  refine r_nm (fun v1 => ?_)
  refine r_ist (pc := 4) (lv' := [(0, _), (1, _), (2, _), (3, _), (4, _), (5, _)]) C dX9_write_4 (by decide) [1, 2, 3, 4, 5, 0] rfl ?_
  refine r_ildn (pc := 6) C dX9_write_6 2 rfl ?_
  refine r_bipush (pc := 7) (v := (100 : Int32)) C dX9_write_7 bp_100 ?_
  refine r_irem (pc := 9) C dX9_write_9 (by decide) ?_
  refine r_nm (fun v2 => ?_)
  refine r_ist (pc := 10) (lv' := [(0, _), (1, _), (3, _), (4, _), (5, _), (6, _)]) C dX9_write_10 (by decide) [1, 2, 4, 5, 6, 0] rfl ?_
  refine r_ildn (pc := 12) C dX9_write_12 1 rfl ?_
  refine kS_X9_isKm (x := x) (pc := 13) (a0 := a1) C gX9_write_X9_isKm (by omega)  (Nat.le_of_ble_eq_true rfl) dX9_write_13 (fun r4 s3 => ?_)
  refine r_ifeq (pc := 16) (tgt := 44) C dX9_write_16 (by decide) ?_ ?_
  · refine r_aldn (pc := 44) C dX9_write_44 0 rfl ?_
    refine r_iconst (pc := 45) (v := (1 : Int32)) C dX9_write_45 ic_1 ?_
    refine k_X9_error (x := x) (pc := 46) (a1 := (1 : Int32)) C gX9_write_X9_error (by omega)  (Nat.le_of_ble_eq_true rfl) dX9_write_46 (fun r6 s5 => ?_)
    exact r_iret (pc := 49) C dX9_write_49
  · refine r_ild (pc := 19) C dX9_write_19 4 rfl ?_
    refine r_iconst (pc := 21) (v := (0 : Int32)) C dX9_write_21 ic_0 ?_
    refine r_bipush (pc := 22) (v := (11 : Int32)) C dX9_write_22 bp_11 ?_
    refine kS_X9_isIn (x := x) (pc := 24) (a0 := v1) (a1 := (0 : Int32)) (a2 := (11 : Int32)) C gX9_write_X9_isIn (by omega)  (Nat.le_of_ble_eq_true rfl) dX9_write_24 (fun r8 s7 => ?_)
    refine r_ifeq (pc := 27) (tgt := 44) C dX9_write_27 (by decide) ?_ ?_
    · refine r_aldn (pc := 44) C dX9_write_44 0 rfl ?_
      refine r_iconst (pc := 45) (v := (1 : Int32)) C dX9_write_45 ic_1 ?_
      refine k_X9_error (x := x) (pc := 46) (a1 := (1 : Int32)) C gX9_write_X9_error (by omega)  (Nat.le_of_ble_eq_true rfl) dX9_write_46 (fun r10 s9 => ?_)
      exact r_iret (pc := 49) C dX9_write_49
    · refine r_ild (pc := 30) C dX9_write_30 5 rfl ?_
      refine r_iconst (pc := 32) (v := (1 : Int32)) C dX9_write_32 ic_1 ?_
      refine r_bipush (pc := 33) (v := (12 : Int32)) C dX9_write_33 bp_12 ?_
      refine r_ild (pc := 35) C dX9_write_35 4 rfl ?_
      refine r_isub (pc := 37) C dX9_write_37 ?_
      refine kS_X9_isIn (x := x) (pc := 38) (a0 := v2) (a1 := (1 : Int32)) (a2 := ((12 : Int32) - v1)) C gX9_write_X9_isIn (by omega)  (Nat.le_of_ble_eq_true rfl) dX9_write_38 (fun r12 s11 => ?_)
      refine r_ifne (pc := 41) (tgt := 50) C dX9_write_41 (by decide) ?_ ?_
      · refine r_ildn (pc := 50) C dX9_write_50 2 rfl ?_
        refine r_iconst (pc := 51) (v := (0 : Int32)) C dX9_write_51 ic_0 ?_
        refine r_iconst (pc := 52) (v := (5 : Int32)) C dX9_write_52 ic_5 ?_
        refine kS_X9_isIn (x := x) (pc := 53) (a0 := a3) (a1 := (0 : Int32)) (a2 := (5 : Int32)) C gX9_write_X9_isIn (by omega)  (Nat.le_of_ble_eq_true rfl) dX9_write_53 (fun r14 s13 => ?_)
        refine r_ifeq (pc := 56) (tgt := 69) C dX9_write_56 (by decide) ?_ ?_
        · refine r_aldn (pc := 69) C dX9_write_69 0 rfl ?_
          refine r_iconst (pc := 70) (v := (1 : Int32)) C dX9_write_70 ic_1 ?_
          refine k_X9_error (x := x) (pc := 71) (a1 := (1 : Int32)) C gX9_write_X9_error (by omega)  (Nat.le_of_ble_eq_true rfl) dX9_write_71 (fun r16 s15 => ?_)
          exact r_iret (pc := 74) C dX9_write_74
        · refine r_ild (pc := 59) C dX9_write_59 3 rfl ?_
          refine r_iconst (pc := 61) (v := (0 : Int32)) C dX9_write_61 ic_0 ?_
          refine r_iconst (pc := 62) (v := (4 : Int32)) C dX9_write_62 ic_4 ?_
          refine kS_X9_isIn (x := x) (pc := 63) (a0 := a4) (a1 := (0 : Int32)) (a2 := (4 : Int32)) C gX9_write_X9_isIn (by omega)  (Nat.le_of_ble_eq_true rfl) dX9_write_63 (fun r18 s17 => ?_)
          refine r_ifne (pc := 66) (tgt := 75) C dX9_write_66 (by decide) ?_ ?_
          · refine r_aldn (pc := 75) C dX9_write_75 0 rfl ?_
            refine gf_X9_0_0 (pc := 76) C hi_X9_write_X9 wd_X9_write_1 dX9_write_76 ?_
            refine gfN_X0_1_1 (pc := 79) C hi_X9_write_X0 nw_26 dX9_write_79 ?_
            refine r_bipush (pc := 82) (v := (10 : Int32)) C dX9_write_82 bp_10 ?_
            refine r_iclt (pc := 84) (tgt := 93) C dX9_write_84 (by decide) ?_ ?_
            · refine r_ild (pc := 93) C dX9_write_93 4 rfl ?_
              refine r_ild (pc := 95) C dX9_write_95 5 rfl ?_
              refine kS_X9_columnsFrom (x := x) (pc := 97) (a0 := v1) (a1 := v2) C gX9_write_X9_columnsFrom (by omega)  (Nat.le_of_ble_eq_true rfl) dX9_write_97 (fun r20 s19 => ?_)
              refine r_ist (pc := 100) (lv' := [(0, _), (1, _), (3, _), (4, _), (6, _), (7, _)]) C dX9_write_100 (by decide) [1, 2, 3, 4, 6, 0] rfl ?_
              refine r_aldn (pc := 102) C dX9_write_102 0 rfl ?_
              refine gf_X9_0_0 (pc := 103) C hi_X9_write_X9 wd_X9_write_1 dX9_write_103 ?_
              refine k_X0_taken (x := x) (pc := 106)  C gX9_write_X0_taken (by omega)  (Nat.le_of_ble_eq_true rfl) dX9_write_106 (fun r22 s21 => ?_)
              refine r_ild (pc := 109) C dX9_write_109 5 rfl ?_
              refine r_iand (pc := 111) C dX9_write_111 ?_
              refine r_ifne (pc := 112) (tgt := 130) C dX9_write_112 (by decide) ?_ ?_
              · refine r_aldn (pc := 130) C dX9_write_130 0 rfl ?_
                refine r_iconst (pc := 131) (v := (3 : Int32)) C dX9_write_131 ic_3 ?_
                refine k_X9_error (x := x) (pc := 132) (a1 := (3 : Int32)) C gX9_write_X9_error (by omega)  (Nat.le_of_ble_eq_true rfl) dX9_write_132 (fun r24 s23 => ?_)
                exact r_iret (pc := 135) C dX9_write_135
              · refine r_aldn (pc := 115) C dX9_write_115 0 rfl ?_
                refine gf_X9_0_0 (pc := 116) C hi_X9_write_X9 wd_X9_write_1 dX9_write_116 ?_
                refine gfN_X0_5_1 (pc := 119) C hi_X9_write_X0 nw_33 dX9_write_119 ?_
                refine r_ild (pc := 122) C dX9_write_122 3 rfl ?_
                refine iald_oX_16 (pc := 124) C dX9_write_124 ?_
                refine r_ild (pc := 125) C dX9_write_125 4 rfl ?_
                refine r_icge (pc := 127) (tgt := 136) C dX9_write_127 (by decide) ?_ ?_
                · refine r_aldn (pc := 136) C dX9_write_136 0 rfl ?_
                  refine gf_X9_0_0 (pc := 137) C hi_X9_write_X9 wd_X9_write_1 dX9_write_137 ?_
                  refine gfN_X0_5_1 (pc := 140) C hi_X9_write_X0 nw_33 dX9_write_140 ?_
                  refine r_ild (pc := 143) C dX9_write_143 3 rfl ?_
                  refine r_dup2 (pc := 145) C dX9_write_145 rfl rfl ?_
                  refine iald_oX_16 (pc := 146) C dX9_write_146 ?_
                  refine r_ild (pc := 147) C dX9_write_147 4 rfl ?_
                  refine r_isub (pc := 149) C dX9_write_149 ?_
                  refine iast_oX_16 (pc := 150) C dX9_write_150 (fun s25 => ?_)
                  refine r_aldn (pc := 151) C dX9_write_151 0 rfl ?_
                  refine gf_X9_0_0 (pc := 152) C hi_X9_write_X9 wd_X9_write_1 dX9_write_152 ?_
                  refine r_ildn (pc := 155) C dX9_write_155 1 rfl ?_
                  refine r_bipush (pc := 156) (v := (10 : Int32)) C dX9_write_156 bp_10 ?_
                  refine r_idiv (pc := 158) C dX9_write_158 (by decide) ?_
                  refine r_ildn (pc := 159) C dX9_write_159 1 rfl ?_
                  refine r_bipush (pc := 160) (v := (10 : Int32)) C dX9_write_160 bp_10 ?_
                  refine r_irem (pc := 162) C dX9_write_162 (by decide) ?_
                  refine r_ild (pc := 163) C dX9_write_163 5 rfl ?_
                  refine r_ildn (pc := 165) C dX9_write_165 2 rfl ?_
                  refine k_X0_addLine (x := x) (pc := 166) (a1 := (a1 / (10 : Int32))) (a2 := (irm a1 (10 : Int32))) (a3 := r20) (a4 := a3) C gX9_write_X0_addLine (by omega)  (Nat.le_of_ble_eq_true rfl) dX9_write_166 (fun r27 s26 => ?_)
                  exact r_iret (pc := 169) C dX9_write_169
                · refine r_aldn (pc := 130) C dX9_write_130 0 rfl ?_
                  refine r_iconst (pc := 131) (v := (3 : Int32)) C dX9_write_131 ic_3 ?_
                  refine k_X9_error (x := x) (pc := 132) (a1 := (3 : Int32)) C gX9_write_X9_error (by omega)  (Nat.le_of_ble_eq_true rfl) dX9_write_132 (fun r29 s28 => ?_)
                  exact r_iret (pc := 135) C dX9_write_135
            · refine r_aldn (pc := 87) C dX9_write_87 0 rfl ?_
              refine r_iconst (pc := 88) (v := (4 : Int32)) C dX9_write_88 ic_4 ?_
              refine k_X9_error (x := x) (pc := 89) (a1 := (4 : Int32)) C gX9_write_X9_error (by omega)  (Nat.le_of_ble_eq_true rfl) dX9_write_89 (fun r31 s30 => ?_)
              exact r_iret (pc := 92) C dX9_write_92
          · refine r_aldn (pc := 69) C dX9_write_69 0 rfl ?_
            refine r_iconst (pc := 70) (v := (1 : Int32)) C dX9_write_70 ic_1 ?_
            refine k_X9_error (x := x) (pc := 71) (a1 := (1 : Int32)) C gX9_write_X9_error (by omega)  (Nat.le_of_ble_eq_true rfl) dX9_write_71 (fun r33 s32 => ?_)
            exact r_iret (pc := 74) C dX9_write_74
      · refine r_aldn (pc := 44) C dX9_write_44 0 rfl ?_
        refine r_iconst (pc := 45) (v := (1 : Int32)) C dX9_write_45 ic_1 ?_
        refine k_X9_error (x := x) (pc := 46) (a1 := (1 : Int32)) C gX9_write_X9_error (by omega)  (Nat.le_of_ble_eq_true rfl) dX9_write_46 (fun r35 s34 => ?_)
        exact r_iret (pc := 49) C dX9_write_49
