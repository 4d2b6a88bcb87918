set_option maxHeartbeats 4000000 in
set_option maxRecDepth 100000 in
theorem m_X10_free (l : Launch) (x : oXp) (hI : oI (oM x)) (a1 : Int32) (σ : Sg) : oMI l yX10_free wsX10_free 5 (oM x) [.ref (xa x 0), .int a1] σ (f_X10_free  a1 σ) := by
  refine oMI_of (nL := 4) (cc := cX10_free) hI (by decide +kernel) rfl (Nat.le_of_ble_eq_true rfl) ?_
  intro κ C
  have C : oC κ (oM x) 4 cX10_free RX10 wsX10_free 5 (some .int) := C
  unfold f_X10_free
  show oV κ (oM x) 4 (oQi κ (oM x)) σ 0 [(0, .ref (xa x 0)), (1, .int a1)] [] _
  refine r_ildn (pc := 0) C dX10_free_0 1 rfl ?_
  refine r_iconst (pc := 1) (v := (0 : Int32)) C dX10_free_1 ic_0 ?_
  refine r_iconst (pc := 2) (v := (3 : Int32)) C dX10_free_2 ic_3 ?_
  refine kS_X10_in (x := x) (pc := 3) (a0 := a1) (a1 := (0 : Int32)) (a2 := (3 : Int32)) C gX10_free_X10_in (by omega)  (Nat.le_of_ble_eq_true rfl) dX10_free_3 (fun r2 s1 => ?_)
  refine r_ifne (pc := 6) (tgt := 16) C dX10_free_6 (by decide) ?_ ?_
  · refine r_aldn (pc := 16) C dX10_free_16 0 rfl ?_
    refine r_iconst (pc := 17) (v := (-1 : Int32)) C dX10_free_17 ic_m1 ?_
    refine k_X10_takenBy (x := x) (pc := 18) (a1 := (-1 : Int32)) C gX10_free_X10_takenBy (by omega)  (Nat.le_of_ble_eq_true rfl) dX10_free_18 (fun r4 s3 => ?_)
    refine r_istn (pc := 21) (lv' := [(0, _), (1, _), (2, _)]) C dX10_free_21 (by decide) [1, 2, 0] rfl ?_
    refine r_ildn (pc := 22) C dX10_free_22 1 rfl ?_
    refine r_iconst (pc := 23) (v := (2 : Int32)) C dX10_free_23 ic_2 ?_
    refine r_icge (pc := 24) (tgt := 43) C dX10_free_24 (by decide) ?_ ?_
    · refine r_aldn (pc := 43) C dX10_free_43 0 rfl ?_
      refine r_ildn (pc := 44) C dX10_free_44 2 rfl ?_
      refine r_ildn (pc := 45) C dX10_free_45 1 rfl ?_
      refine k_X10_runOf (x := x) (pc := 46) (a1 := r4) (a2 := a1) C gX10_free_X10_runOf (by omega)  (Nat.le_of_ble_eq_true rfl) dX10_free_46 (fun r6 s5 => ?_)
      refine r_istn (pc := 49) (lv' := [(0, _), (3, _)]) C dX10_free_49 (by decide) [1, 0] rfl ?_
      refine r_ildn (pc := 50) C dX10_free_50 1 rfl ?_
      refine r_ifge (pc := 51) (tgt := 63) C dX10_free_51 (by decide) ?_ ?_
      · refine r_ildn (pc := 63) C dX10_free_63 1 rfl ?_
        exact r_iret (pc := 64) C dX10_free_64
      · refine r_aldn (pc := 54) C dX10_free_54 0 rfl ?_
        refine r_ldc (pc := 55) (v := (-1000000002 : Int32)) C dX10_free_55 wd_X10_free_2 ?_
        refine k_X10_error (x := x) (pc := 57) (a1 := (-1000000002 : Int32)) C gX10_free_X10_error (by omega)  (Nat.le_of_ble_eq_true rfl) dX10_free_57 (fun r8 s7 => ?_)
        refine r_goto (pc := 60) (tgt := 64) C dX10_free_60 (by decide) ?_
        exact r_iret (pc := 64) C dX10_free_64
    · refine r_ildn (pc := 27) C dX10_free_27 1 rfl ?_
      refine r_ifne (pc := 28) (tgt := 35) C dX10_free_28 (by decide) ?_ ?_
      · refine r_bipush (pc := 35) (v := (12 : Int32)) C dX10_free_35 bp_12 ?_
        refine r_ildn (pc := 37) C dX10_free_37 2 rfl ?_
        refine kS_X10_bits (x := x) (pc := 38) (a0 := r4) C gX10_free_X10_bits (by omega)  (Nat.le_of_ble_eq_true rfl) dX10_free_38 (fun r10 s9 => ?_)
        refine r_isub (pc := 41) C dX10_free_41 ?_
        exact r_iret (pc := 42) C dX10_free_42
      · refine r_ildn (pc := 31) C dX10_free_31 2 rfl ?_
        refine r_goto (pc := 32) (tgt := 42) C dX10_free_32 (by decide) ?_
        exact r_iret (pc := 42) C dX10_free_42
  · refine r_aldn (pc := 9) C dX10_free_9 0 rfl ?_
    refine r_ldc (pc := 10) (v := (-1000000001 : Int32)) C dX10_free_10 wd_X10_free_1 ?_
    refine k_X10_error (x := x) (pc := 12) (a1 := (-1000000001 : Int32)) C gX10_free_X10_error (by omega)  (Nat.le_of_ble_eq_true rfl) dX10_free_12 (fun r12 s11 => ?_)
    exact r_iret (pc := 15) C dX10_free_15
set_option maxHeartbeats 4000000 in
set_option maxRecDepth 100000 in
theorem m_X10_image (l : Launch) (x : oXp) (hI : oI (oM x))  (σ : Sg) : oMI l yX10_image wsX10_image 4 (oM x) [.ref (xa x 0)] σ (f_X10_image   σ) := by
  refine oMI_of (nL := 1) (cc := cX10_image) hI (by decide +kernel) rfl (Nat.le_of_ble_eq_true rfl) ?_
  intro κ C
  have C : oC κ (oM x) 1 cX10_image RX10 wsX10_image 4 (some .int) := C
  unfold f_X10_image
  show oV κ (oM x) 1 (oQi κ (oM x)) σ 0 [(0, .ref (xa x 0))] [] _
  refine r_aldn (pc := 0) C dX10_image_0 0 rfl ?_
  refine gf_X10_0_0 (pc := 1) C hi_X10_image_X10 wd_X10_image_1 dX10_image_1 ?_
  refine r_aldn (pc := 4) C dX10_image_4 0 rfl ?_
  refine gf_X10_1_0 (pc := 5) C hi_X10_image_X10 wd_X10_image_2 dX10_image_5 ?_
  refine kS_X10_copyAll (x := x) (pc := 8) (o0 := 1) (o1 := 2) C gX10_image_X10_copyAll (by omega) (by omega) (by omega) (by omega) (by omega) (Nat.le_of_ble_eq_true rfl) dX10_image_8 (fun _ s1 => ?_)
  refine r_aldn (pc := 11) C dX10_image_11 0 rfl ?_
  refine r_dup (pc := 12) C dX10_image_12 rfl ?_
  refine gf_X10_3_0 (pc := 13) C hi_X10_image_X10 wd_X10_image_3 dX10_image_13 ?_
  refine r_iconst (pc := 16) (v := (1 : Int32)) C dX10_image_16 ic_1 ?_
  refine r_iadd (pc := 17) C dX10_image_17 ?_
  refine pf_X10_3_0 (pc := 18) C hi_X10_image_X10 wd_X10_image_3 dX10_image_18 (fun s3 => ?_)
  refine r_aldn (pc := 21) C dX10_image_21 0 rfl ?_
  refine gf_X10_3_0 (pc := 22) C hi_X10_image_X10 wd_X10_image_3 dX10_image_22 ?_
  exact r_iret (pc := 25) C dX10_image_25
set_option maxHeartbeats 4000000 in
set_option maxRecDepth 100000 in
theorem v_X10_judge_18_b {κ : oK} {x : oXp} (C : oC κ (oM x) 4 cX10_judge RX10 wsX10_judge 6 (some .int))  (rec18 : Int32 → Int32 → Sg → Option (Int32 × Sg)) (hrec18 : ∀ (a1 : Int32) (a3 : Int32) (σ : Sg), oV κ (oM x) 4 (oQi κ (oM x)) σ 18 [(0, .ref (xa x 0)), (1, .int a1), (3, .int a3)] [] (rec18 a1 a3 σ)) (a1 : Int32) (a3 : Int32) (σ : Sg) : oV κ (oM x) 4 (oQi κ (oM x)) σ 18 [(0, .ref (xa x 0)), (1, .int a1), (3, .int a3)] [] (f_X10_judge_18_b   rec18 a1 a3 σ) := by
  unfold f_X10_judge_18_b
  refine r_ildn (pc := 18) C dX10_judge_18 2 rfl ?_
  refine r_aldn (pc := 19) C dX10_judge_19 0 rfl ?_
  refine gf_X10_6_0 (pc := 20) C hi_X10_judge_X10 wd_X10_judge_1 dX10_judge_20 ?_
  refine r_ildn (pc := 23) C dX10_judge_23 1 rfl ?_
  refine iald_oM_6 (pc := 24) C dX10_judge_24 ?_
  refine r_icge (pc := 25) (tgt := 63) C dX10_judge_25 (by decide) ?_ ?_
  · refine r_ildn (pc := 63) C dX10_judge_63 2 rfl ?_
    exact r_iret (pc := 64) C dX10_judge_64
  · refine r_ildn (pc := 28) C dX10_judge_28 2 rfl ?_
    refine r_aldn (pc := 29) C dX10_judge_29 0 rfl ?_
    refine gf_X10_0_0 (pc := 30) C hi_X10_judge_X10 wd_X10_judge_2 dX10_judge_30 ?_
    refine r_iconst (pc := 33) (v := (2 : Int32)) C dX10_judge_33 ic_2 ?_
    refine iald_oM_1 (pc := 34) C dX10_judge_34 ?_
    refine r_icge (pc := 35) (tgt := 63) C dX10_judge_35 (by decide) ?_ ?_
    · refine r_ildn (pc := 63) C dX10_judge_63 2 rfl ?_
      exact r_iret (pc := 64) C dX10_judge_64
    · refine r_aldn (pc := 38) C dX10_judge_38 0 rfl ?_
      refine gf_X10_7_0 (pc := 39) C hi_X10_judge_X10 wd_X10_judge_3 dX10_judge_39 ?_
      refine r_bipush (pc := 42) (v := (24 : Int32)) C dX10_judge_42 bp_24 ?_
      refine r_ildn (pc := 44) C dX10_judge_44 1 rfl ?_
      refine r_imul (pc := 45) C dX10_judge_45 ?_
      refine r_ildn (pc := 46) C dX10_judge_46 2 rfl ?_
      refine r_iadd (pc := 47) C dX10_judge_47 ?_
      refine iald_oM_7 (pc := 48) C dX10_judge_48 ?_
      refine r_aldn (pc := 49) C dX10_judge_49 0 rfl ?_
      refine r_ildn (pc := 50) C dX10_judge_50 2 rfl ?_
      refine k_X10_backOf (x := x) (pc := 51) (a1 := a3) C gX10_judge_X10_backOf (by omega)  (Nat.le_of_ble_eq_true rfl) dX10_judge_51 (fun r2 s1 => ?_)
      refine r_icne (pc := 54) (tgt := 63) C dX10_judge_54 (by decide) ?_ ?_
      · refine r_ildn (pc := 63) C dX10_judge_63 2 rfl ?_
        exact r_iret (pc := 64) C dX10_judge_64
      · refine r_iinc (pc := 57) (v := (1 : Int32)) (lv1 := fun y => [(0, _), (1, _), (3, .int y)]) C dX10_judge_57 ic_1 2 rfl (by decide) [1, 2, 0] (fun _ => rfl) (fun v3 => ?_)
        refine r_goto (pc := 60) (tgt := 18) C dX10_judge_60 (by decide) ?_
        exact hrec18 a1 v3 s1
theorem v_X10_judge_18 {κ : oK} {x : oXp} (C : oC κ (oM x) 4 cX10_judge RX10 wsX10_judge 6 (some .int))  : ∀ (n : Nat) (a1 : Int32) (a3 : Int32) (σ : Sg), oV κ (oM x) 4 (oQi κ (oM x)) σ 18 [(0, .ref (xa x 0)), (1, .int a1), (3, .int a3)] [] (f_X10_judge_18   n a1 a3 σ) := by
  intro n
  induction n with
  | zero => intros; exact r_none
  | succ n ih => exact v_X10_judge_18_b C  _ ih
set_option maxHeartbeats 4000000 in
set_option maxRecDepth 100000 in
theorem m_X10_judge (l : Launch) (x : oXp) (hI : oI (oM x)) (a1 : Int32) (σ : Sg) : oMI l yX10_judge wsX10_judge 6 (oM x) [.ref (xa x 0), .int a1] σ (f_X10_judge  a1 σ) := by
  refine oMI_of (nL := 4) (cc := cX10_judge) hI (by decide +kernel) rfl (Nat.le_of_ble_eq_true rfl) ?_
  intro κ C
  have C : oC κ (oM x) 4 cX10_judge RX10 wsX10_judge 6 (some .int) := C
  unfold f_X10_judge
  show oV κ (oM x) 4 (oQi κ (oM x)) σ 0 [(0, .ref (xa x 0)), (1, .int a1)] [] _
  refine r_aldn (pc := 0) C dX10_judge_0 0 rfl ?_
  refine r_ildn (pc := 1) C dX10_judge_1 1 rfl ?_
  refine k_X10_notThere (x := x) (pc := 2) (a1 := a1) C gX10_judge_X10_notThere (by omega)  (Nat.le_of_ble_eq_true rfl) dX10_judge_2 (fun r5 s4 => ?_)
  refine r_istn (pc := 5) (lv' := [(0, _), (1, _), (2, _)]) C dX10_judge_5 (by decide) [1, 2, 0] rfl ?_
  refine r_ildn (pc := 6) C dX10_judge_6 2 rfl ?_
  refine r_ifeq (pc := 7) (tgt := 16) C dX10_judge_7 (by decide) ?_ ?_
  · refine r_iconst (pc := 16) (v := (0 : Int32)) C dX10_judge_16 ic_0 ?_
    refine r_istn (pc := 17) (lv' := [(0, _), (1, _), (3, _)]) C dX10_judge_17 (by decide) [1, 2, 0] rfl ?_
    exact v_X10_judge_18 (x := x) C fuN a1 (0 : Int32) s4
  · refine r_aldn (pc := 10) C dX10_judge_10 0 rfl ?_
    refine r_ildn (pc := 11) C dX10_judge_11 2 rfl ?_
    refine k_X10_error (x := x) (pc := 12) (a1 := r5) C gX10_judge_X10_error (by omega)  (Nat.le_of_ble_eq_true rfl) dX10_judge_12 (fun r7 s6 => ?_)
    exact r_iret (pc := 15) C dX10_judge_15
set_option maxHeartbeats 4000000 in
set_option maxRecDepth 100000 in
theorem m_X10_law (l : Launch) (x : oXp) (hI : oI (oM x)) (a1 : Int32) (a2 : Int32) (a3 : Int32) (a4 : Int32) (σ : Sg) : oMI l yX10_law wsX10_law 6 (oM x) [.ref (xa x 0), .int a1, .int a2, .int a3, .int a4] σ (f_X10_law  a1 a2 a3 a4 σ) := by
  refine oMI_of (nL := 5) (cc := cX10_law) hI (by decide +kernel) rfl (Nat.le_of_ble_eq_true rfl) ?_
  intro κ C
  have C : oC κ (oM x) 5 cX10_law RX10 wsX10_law 6 (some .int) := C
  unfold f_X10_law
  show oV κ (oM x) 5 (oQi κ (oM x)) σ 0 [(0, .ref (xa x 0)), (1, .int a1), (2, .int a2), (3, .int a3), (4, .int a4)] [] _
  refine r_ildn (pc := 0) C dX10_law_0 1 rfl ?_
  refine r_iconst (pc := 1) (v := (0 : Int32)) C dX10_law_1 ic_0 ?_
  refine r_iconst (pc := 2) (v := (1 : Int32)) C dX10_law_2 ic_1 ?_
  refine kS_X10_in (x := x) (pc := 3) (a0 := a1) (a1 := (0 : Int32)) (a2 := (1 : Int32)) C gX10_law_X10_in (by omega)  (Nat.le_of_ble_eq_true rfl) dX10_law_3 (fun r2 s1 => ?_)
  refine r_ifeq (pc := 6) (tgt := 21) C dX10_law_6 (by decide) ?_ ?_
  · refine r_aldn (pc := 21) C dX10_law_21 0 rfl ?_
    refine r_ldc (pc := 22) (v := (-1000000001 : Int32)) C dX10_law_22 wd_X10_law_1 ?_
    refine k_X10_error (x := x) (pc := 24) (a1 := (-1000000001 : Int32)) C gX10_law_X10_error (by omega)  (Nat.le_of_ble_eq_true rfl) dX10_law_24 (fun r4 s3 => ?_)
    exact r_iret (pc := 27) C dX10_law_27
  · refine r_aldn (pc := 9) C dX10_law_9 0 rfl ?_
    refine r_ildn (pc := 10) C dX10_law_10 1 rfl ?_
    refine r_ildn (pc := 11) C dX10_law_11 2 rfl ?_
    refine r_ildn (pc := 12) C dX10_law_12 3 rfl ?_
    refine r_ild (pc := 13) C dX10_law_13 4 rfl ?_
    refine k_X10_gives (x := x) (pc := 15) (a1 := a1) (a2 := a2) (a3 := a3) (a4 := a4) C gX10_law_X10_gives (by omega)  (Nat.le_of_ble_eq_true rfl) dX10_law_15 (fun r6 s5 => ?_)
    refine r_goto (pc := 18) (tgt := 27) C dX10_law_18 (by decide) ?_
    exact r_iret (pc := 27) C dX10_law_27
set_option maxHeartbeats 4000000 in
set_option maxRecDepth 100000 in
theorem m_X10_lineIs (l : Launch) (x : oXp) (hI : oI (oM x)) (a1 : Int32) (a2 : Int32) (σ : Sg) : oMI l yX10_lineIs wsX10_lineIs 7 (oM x) [.ref (xa x 0), .int a1, .int a2] σ (f_X10_lineIs  a1 a2 σ) := by
  refine oMI_of (nL := 3) (cc := cX10_lineIs) hI (by decide +kernel) rfl (Nat.le_of_ble_eq_true rfl) ?_
  intro κ C
  have C : oC κ (oM x) 3 cX10_lineIs RX10 wsX10_lineIs 7 (some .int) := C
  unfold f_X10_lineIs
  show oV κ (oM x) 3 (oQi κ (oM x)) σ 0 [(0, .ref (xa x 0)), (1, .int a1), (2, .int a2)] [] _
  refine r_aldn (pc := 0) C dX10_lineIs_0 0 rfl ?_
  refine r_ildn (pc := 1) C dX10_lineIs_1 1 rfl ?_
  refine k_X10_isLine (x := x) (pc := 2) (a1 := a1) C gX10_lineIs_X10_isLine (by omega)  (Nat.le_of_ble_eq_true rfl) dX10_lineIs_2 (fun r2 s1 => ?_)
  refine r_ifeq (pc := 5) (tgt := 18) C dX10_lineIs_5 (by decide) ?_ ?_
  · refine r_aldn (pc := 18) C dX10_lineIs_18 0 rfl ?_
    refine r_ldc (pc := 19) (v := (-1000000001 : Int32)) C dX10_lineIs_19 wd_X10_lineIs_1 ?_
    refine k_X10_error (x := x) (pc := 21) (a1 := (-1000000001 : Int32)) C gX10_lineIs_X10_error (by omega)  (Nat.le_of_ble_eq_true rfl) dX10_lineIs_21 (fun r4 s3 => ?_)
    exact r_iret (pc := 24) C dX10_lineIs_24
  · refine r_ildn (pc := 8) C dX10_lineIs_8 2 rfl ?_
    refine r_iconst (pc := 9) (v := (0 : Int32)) C dX10_lineIs_9 ic_0 ?_
    refine r_bipush (pc := 10) (v := (9 : Int32)) C dX10_lineIs_10 bp_9 ?_
    refine kS_X10_in (x := x) (pc := 12) (a0 := a2) (a1 := (0 : Int32)) (a2 := (9 : Int32)) C gX10_lineIs_X10_in (by omega)  (Nat.le_of_ble_eq_true rfl) dX10_lineIs_12 (fun r6 s5 => ?_)
    refine r_ifne (pc := 15) (tgt := 25) C dX10_lineIs_15 (by decide) ?_ ?_
    · refine r_ildn (pc := 25) C dX10_lineIs_25 2 rfl ?_
      refine r_bipush (pc := 26) (v := (7 : Int32)) C dX10_lineIs_26 bp_7 ?_
      refine r_icge (pc := 28) (tgt := 38) C dX10_lineIs_28 (by decide) ?_ ?_
      · refine r_ildn (pc := 38) C dX10_lineIs_38 2 rfl ?_
        refine r_bipush (pc := 39) (v := (7 : Int32)) C dX10_lineIs_39 bp_7 ?_
        refine r_icne (pc := 41) (tgt := 60) C dX10_lineIs_41 (by decide) ?_ ?_
        · refine r_ildn (pc := 60) C dX10_lineIs_60 2 rfl ?_
          refine r_bipush (pc := 61) (v := (8 : Int32)) C dX10_lineIs_61 bp_8 ?_
          refine r_icne (pc := 63) (tgt := 74) C dX10_lineIs_63 (by decide) ?_ ?_
          · refine r_aldn (pc := 74) C dX10_lineIs_74 0 rfl ?_
            refine r_ildn (pc := 75) C dX10_lineIs_75 1 rfl ?_
            refine k_X10_lossOf (x := x) (pc := 76) (a1 := a1) C gX10_lineIs_X10_lossOf (by omega)  (Nat.le_of_ble_eq_true rfl) dX10_lineIs_76 (fun r8 s7 => ?_)
            exact r_iret (pc := 79) C dX10_lineIs_79
          · refine r_aldn (pc := 66) C dX10_lineIs_66 0 rfl ?_
            refine r_ildn (pc := 67) C dX10_lineIs_67 1 rfl ?_
            refine k_X10_backOf (x := x) (pc := 68) (a1 := a1) C gX10_lineIs_X10_backOf (by omega)  (Nat.le_of_ble_eq_true rfl) dX10_lineIs_68 (fun r10 s9 => ?_)
            refine r_goto (pc := 71) (tgt := 79) C dX10_lineIs_71 (by decide) ?_
            exact r_iret (pc := 79) C dX10_lineIs_79
        · refine r_aldn (pc := 44) C dX10_lineIs_44 0 rfl ?_
          refine r_ildn (pc := 45) C dX10_lineIs_45 1 rfl ?_
          refine k_X10_mayGo (x := x) (pc := 46) (a1 := a1) C gX10_lineIs_X10_mayGo (by omega)  (Nat.le_of_ble_eq_true rfl) dX10_lineIs_46 (fun r12 s11 => ?_)
          refine r_ifeq (pc := 49) (tgt := 56) C dX10_lineIs_49 (by decide) ?_ ?_
          · refine r_iconst (pc := 56) (v := (0 : Int32)) C dX10_lineIs_56 ic_0 ?_
            refine r_goto (pc := 57) (tgt := 79) C dX10_lineIs_57 (by decide) ?_
            exact r_iret (pc := 79) C dX10_lineIs_79
          · refine r_iconst (pc := 52) (v := (1 : Int32)) C dX10_lineIs_52 ic_1 ?_
            refine r_goto (pc := 53) (tgt := 79) C dX10_lineIs_53 (by decide) ?_
            exact r_iret (pc := 79) C dX10_lineIs_79
      · refine r_aldn (pc := 31) C dX10_lineIs_31 0 rfl ?_
        refine r_ildn (pc := 32) C dX10_lineIs_32 1 rfl ?_
        refine r_ildn (pc := 33) C dX10_lineIs_33 2 rfl ?_
        refine k_X10_it (x := x) (pc := 34) (a1 := a1) (a2 := a2) C gX10_lineIs_X10_it (by omega)  (Nat.le_of_ble_eq_true rfl) dX10_lineIs_34 (fun r14 s13 => ?_)
        exact r_iret (pc := 37) C dX10_lineIs_37
    · refine r_aldn (pc := 18) C dX10_lineIs_18 0 rfl ?_
      refine r_ldc (pc := 19) (v := (-1000000001 : Int32)) C dX10_lineIs_19 wd_X10_lineIs_1 ?_
      refine k_X10_error (x := x) (pc := 21) (a1 := (-1000000001 : Int32)) C gX10_lineIs_X10_error (by omega)  (Nat.le_of_ble_eq_true rfl) dX10_lineIs_21 (fun r16 s15 => ?_)
      exact r_iret (pc := 24) C dX10_lineIs_24
set_option maxHeartbeats 4000000 in
set_option maxRecDepth 100000 in
theorem v_X10_linesOn_4_b {κ : oK} {x : oXp} (C : oC κ (oM x) 4 cX10_linesOn RX10 wsX10_linesOn 4 (some .int))  (rec4 : Int32 → Int32 → Int32 → Sg → Option (Int32 × Sg)) (hrec4 : ∀ (a1 : Int32) (a2 : Int32) (a3 : Int32) (σ : Sg), oV κ (oM x) 4 (oQi κ (oM x)) σ 4 [(0, .ref (xa x 0)), (1, .int a1), (2, .int a2), (3, .int a3)] [] (rec4 a1 a2 a3 σ)) (a1 : Int32) (a2 : Int32) (a3 : Int32) (σ : Sg) : oV κ (oM x) 4 (oQi κ (oM x)) σ 4 [(0, .ref (xa x 0)), (1, .int a1), (2, .int a2), (3, .int a3)] [] (f_X10_linesOn_4_b   rec4 a1 a2 a3 σ) := by
  unfold f_X10_linesOn_4_b
  refine r_ildn (pc := 4) C dX10_linesOn_4 3 rfl ?_
  refine r_aldn (pc := 5) C dX10_linesOn_5 0 rfl ?_
  refine gf_X10_0_0 (pc := 6) C hi_X10_linesOn_X10 wd_X10_linesOn_1 dX10_linesOn_6 ?_
  refine r_iconst (pc := 9) (v := (2 : Int32)) C dX10_linesOn_9 ic_2 ?_
  refine iald_oM_1 (pc := 10) C dX10_linesOn_10 ?_
  refine r_icge (pc := 11) (tgt := 51) C dX10_linesOn_11 (by decide) ?_ ?_
  · refine r_ildn (pc := 51) C dX10_linesOn_51 2 rfl ?_
    exact r_iret (pc := 52) C dX10_linesOn_52
  · refine r_ildn (pc := 14) C dX10_linesOn_14 2 rfl ?_
    refine r_aldn (pc := 15) C dX10_linesOn_15 0 rfl ?_
    refine r_ildn (pc := 16) C dX10_linesOn_16 3 rfl ?_
    refine r_bipush (pc := 17) (v := (6 : Int32)) C dX10_linesOn_17 bp_6 ?_
    refine k_X10_it (x := x) (pc := 19) (a1 := a3) (a2 := (6 : Int32)) C gX10_linesOn_X10_it (by omega)  (Nat.le_of_ble_eq_true rfl) dX10_linesOn_19 (fun r2 s1 => ?_)
    refine r_ifne (pc := 22) (tgt := 42) C dX10_linesOn_22 (by decide) ?_ ?_
    · refine r_iconst (pc := 42) (v := (0 : Int32)) C dX10_linesOn_42 ic_0 ?_
      refine r_ior (pc := 43) C dX10_linesOn_43 ?_
      refine r_nm (fun v3 => ?_)
      refine r_istn (pc := 44) (lv' := [(0, _), (1, _), (2, _), (3, _)]) C dX10_linesOn_44 (by decide) [1, 2, 0, 3] rfl ?_
      refine r_iinc (pc := 45) (v := (1 : Int32)) (lv1 := fun y => [(0, _), (1, _), (2, _), (3, .int y)]) C dX10_linesOn_45 ic_1 3 rfl (by decide) [1, 2, 3, 0] (fun _ => rfl) (fun v4 => ?_)
      refine r_goto (pc := 48) (tgt := 4) C dX10_linesOn_48 (by decide) ?_
      exact hrec4 a1 v3 v4 s1
    · refine r_aldn (pc := 25) C dX10_linesOn_25 0 rfl ?_
      refine r_ildn (pc := 26) C dX10_linesOn_26 3 rfl ?_
      refine r_iconst (pc := 27) (v := (2 : Int32)) C dX10_linesOn_27 ic_2 ?_
      refine k_X10_it (x := x) (pc := 28) (a1 := a3) (a2 := (2 : Int32)) C gX10_linesOn_X10_it (by omega)  (Nat.le_of_ble_eq_true rfl) dX10_linesOn_28 (fun r6 s5 => ?_)
      refine r_ildn (pc := 31) C dX10_linesOn_31 1 rfl ?_
      refine r_iand (pc := 32) C dX10_linesOn_32 ?_
      refine r_ifeq (pc := 33) (tgt := 42) C dX10_linesOn_33 (by decide) ?_ ?_
      · refine r_iconst (pc := 42) (v := (0 : Int32)) C dX10_linesOn_42 ic_0 ?_
        refine r_ior (pc := 43) C dX10_linesOn_43 ?_
        refine r_nm (fun v7 => ?_)
        refine r_istn (pc := 44) (lv' := [(0, _), (1, _), (2, _), (3, _)]) C dX10_linesOn_44 (by decide) [1, 2, 0, 3] rfl ?_
        refine r_iinc (pc := 45) (v := (1 : Int32)) (lv1 := fun y => [(0, _), (1, _), (2, _), (3, .int y)]) C dX10_linesOn_45 ic_1 3 rfl (by decide) [1, 2, 3, 0] (fun _ => rfl) (fun v8 => ?_)
        refine r_goto (pc := 48) (tgt := 4) C dX10_linesOn_48 (by decide) ?_
        exact hrec4 a1 v7 v8 s5
      · refine r_iconst (pc := 36) (v := (1 : Int32)) C dX10_linesOn_36 ic_1 ?_
        refine r_ildn (pc := 37) C dX10_linesOn_37 3 rfl ?_
        refine r_ishl (pc := 38) C dX10_linesOn_38 ?_
        refine r_goto (pc := 39) (tgt := 43) C dX10_linesOn_39 (by decide) ?_
        refine r_ior (pc := 43) C dX10_linesOn_43 ?_
        refine r_nm (fun v9 => ?_)
        refine r_istn (pc := 44) (lv' := [(0, _), (1, _), (2, _), (3, _)]) C dX10_linesOn_44 (by decide) [1, 2, 0, 3] rfl ?_
        refine r_iinc (pc := 45) (v := (1 : Int32)) (lv1 := fun y => [(0, _), (1, _), (2, _), (3, .int y)]) C dX10_linesOn_45 ic_1 3 rfl (by decide) [1, 2, 3, 0] (fun _ => rfl) (fun v10 => ?_)
        refine r_goto (pc := 48) (tgt := 4) C dX10_linesOn_48 (by decide) ?_
        exact hrec4 a1 v9 v10 s5
theorem v_X10_linesOn_4 {κ : oK} {x : oXp} (C : oC κ (oM x) 4 cX10_linesOn RX10 wsX10_linesOn 4 (some .int))  : ∀ (n : Nat) (a1 : Int32) (a2 : Int32) (a3 : Int32) (σ : Sg), oV κ (oM x) 4 (oQi κ (oM x)) σ 4 [(0, .ref (xa x 0)), (1, .int a1), (2, .int a2), (3, .int a3)] [] (f_X10_linesOn_4   n a1 a2 a3 σ) := by
  intro n
  induction n with
  | zero => intros; exact r_none
  | succ n ih => exact v_X10_linesOn_4_b C  _ ih
set_option maxHeartbeats 4000000 in
set_option maxRecDepth 100000 in
theorem m_X10_linesOn (l : Launch) (x : oXp) (hI : oI (oM x)) (a1 : Int32) (σ : Sg) : oMI l yX10_linesOn wsX10_linesOn 4 (oM x) [.ref (xa x 0), .int a1] σ (f_X10_linesOn  a1 σ) := by
  refine oMI_of (nL := 4) (cc := cX10_linesOn) hI (by decide +kernel) rfl (Nat.le_of_ble_eq_true rfl) ?_
  intro κ C
  have C : oC κ (oM x) 4 cX10_linesOn RX10 wsX10_linesOn 4 (some .int) := C
  unfold f_X10_linesOn
  show oV κ (oM x) 4 (oQi κ (oM x)) σ 0 [(0, .ref (xa x 0)), (1, .int a1)] [] _
  refine r_iconst (pc := 0) (v := (0 : Int32)) C dX10_linesOn_0 ic_0 ?_
  refine r_istn (pc := 1) (lv' := [(0, _), (1, _), (2, _)]) C dX10_linesOn_1 (by decide) [1, 2, 0] rfl ?_
  refine r_iconst (pc := 2) (v := (0 : Int32)) C dX10_linesOn_2 ic_0 ?_
  refine r_istn (pc := 3) (lv' := [(0, _), (1, _), (2, _), (3, _)]) C dX10_linesOn_3 (by decide) [1, 2, 3, 0] rfl ?_
  exact v_X10_linesOn_4 (x := x) C fuN a1 (0 : Int32) (0 : Int32) σ
theorem k_X10_linesOn {κ : oK} {nL : Nat} {cc : ByteArray} {own : String} {Ts : List Cond} {n : Nat} {ret : Option FieldType} {α : Type} {Q : α → Sg → State → Prop} {σ : Sg} {pc : Nat} {lv : List (Nat × Value)} {st : List Value} {x : oXp} {idx : Nat} {a1 : Int32} {K : Int32 → Sg → Option (α × Sg)} (C : oC κ (oM x) nL cc own Ts n ret) (hG : GoodIn Ts (wsV own idx RX10 yX10_linesOn wsX10_linesOn)) (hn : 4 + 1 ≤ n) (hst : (st.map fun v => v.category).sum ≤ 8) (hd : decode cc pc = .ok (.invokevirtual idx, 3)) (kk : ∀ (r1 : Int32) (σ1 : Sg), oV κ (oM x) nL Q σ1 (pc + 3) lv (.int r1 :: st) (K r1 σ1)) : oV κ (oM x) nL Q σ pc lv (.int a1 :: .ref (xa x 0) :: st) (bnd (f_X10_linesOn a1 σ) K) := by
  have hI : oI (oM x) := oC_I C
  exact r_cVi (As := [.int a1]) (na := 1) (j := 0) (ci := 10) C (fun l => m_X10_linesOn l x hI a1 σ) hG rfl (by decide +kernel) rfl (by decide) hn (by show 0 < 14; decide) rfl rfl rfl rfl hst hd kk
set_option maxHeartbeats 4000000 in
set_option maxRecDepth 100000 in
theorem v_X10_loose_42_b {κ : oK} {x : oXp} (C : oC κ (oM x) 4 cX10_loose RX10 wsX10_loose 9 (some .int))  (rec42 : Int32 → Int32 → Int32 → Sg → Option (Int32 × Sg)) (hrec42 : ∀ (a1 : Int32) (a2 : Int32) (a3 : Int32) (σ : Sg), oV κ (oM x) 4 (oQi κ (oM x)) σ 42 [(0, .ref (xa x 0)), (1, .int a1), (2, .int a2), (3, .int a3)] [] (rec42 a1 a2 a3 σ)) (a1 : Int32) (a2 : Int32) (a3 : Int32) (σ : Sg) : oV κ (oM x) 4 (oQi κ (oM x)) σ 42 [(0, .ref (xa x 0)), (1, .int a1), (2, .int a2), (3, .int a3)] [] (f_X10_loose_42_b   rec42 a1 a2 a3 σ) := by
  unfold f_X10_loose_42_b
  refine r_ildn (pc := 42) C dX10_loose_42 3 rfl ?_
  refine r_ildn (pc := 43) C dX10_loose_43 1 rfl ?_
  refine r_icge (pc := 44) (tgt := 60) C dX10_loose_44 (by decide) ?_ ?_
  · refine r_ildn (pc := 60) C dX10_loose_60 2 rfl ?_
    exact r_iret (pc := 61) C dX10_loose_61
  · refine r_ildn (pc := 47) C dX10_loose_47 2 rfl ?_
    refine r_aldn (pc := 48) C dX10_loose_48 0 rfl ?_
    refine k_X10_drawn (x := x) (pc := 49)  C gX10_loose_X10_drawn (by omega)  (Nat.le_of_ble_eq_true rfl) dX10_loose_49 (fun r2 s1 => ?_)
    refine r_iadd (pc := 52) C dX10_loose_52 ?_
    refine r_nm (fun v3 => ?_)
    refine r_istn (pc := 53) (lv' := [(0, _), (1, _), (2, _), (3, _)]) C dX10_loose_53 (by decide) [1, 2, 0, 3] rfl ?_
    refine r_iinc (pc := 54) (v := (1 : Int32)) (lv1 := fun y => [(0, _), (1, _), (2, _), (3, .int y)]) C dX10_loose_54 ic_1 3 rfl (by decide) [1, 2, 3, 0] (fun _ => rfl) (fun v4 => ?_)
    refine r_goto (pc := 57) (tgt := 42) C dX10_loose_57 (by decide) ?_
    exact hrec42 a1 v3 v4 s1
theorem v_X10_loose_42 {κ : oK} {x : oXp} (C : oC κ (oM x) 4 cX10_loose RX10 wsX10_loose 9 (some .int))  : ∀ (n : Nat) (a1 : Int32) (a2 : Int32) (a3 : Int32) (σ : Sg), oV κ (oM x) 4 (oQi κ (oM x)) σ 42 [(0, .ref (xa x 0)), (1, .int a1), (2, .int a2), (3, .int a3)] [] (f_X10_loose_42   n a1 a2 a3 σ) := by
  intro n
  induction n with
  | zero => intros; exact r_none
  | succ n ih => exact v_X10_loose_42_b C  _ ih
set_option maxHeartbeats 4000000 in
set_option maxRecDepth 100000 in
theorem m_X10_loose (l : Launch) (x : oXp) (hI : oI (oM x)) (a1 : Int32) (σ : Sg) : oMI l yX10_loose wsX10_loose 9 (oM x) [.ref (xa x 0), .int a1] σ (f_X10_loose  a1 σ) := by
  refine oMI_of (nL := 4) (cc := cX10_loose) hI (by decide +kernel) rfl (Nat.le_of_ble_eq_true rfl) ?_
  intro κ C
  have C : oC κ (oM x) 4 cX10_loose RX10 wsX10_loose 9 (some .int) := C
  unfold f_X10_loose
  show oV κ (oM x) 4 (oQi κ (oM x)) σ 0 [(0, .ref (xa x 0)), (1, .int a1)] [] _
  refine r_ildn (pc := 0) C dX10_loose_0 1 rfl ?_
  refine r_iconst (pc := 1) (v := (1 : Int32)) C dX10_loose_1 ic_1 ?_
  refine r_bipush (pc := 2) (v := (30 : Int32)) C dX10_loose_2 bp_30 ?_
  refine kS_X10_in (x := x) (pc := 4) (a0 := a1) (a1 := (1 : Int32)) (a2 := (30 : Int32)) C gX10_loose_X10_in (by omega)  (Nat.le_of_ble_eq_true rfl) dX10_loose_4 (fun r6 s5 => ?_)
  refine r_ifne (pc := 7) (tgt := 17) C dX10_loose_7 (by decide) ?_ ?_
  · refine r_aldn (pc := 17) C dX10_loose_17 0 rfl ?_
    refine gf_X10_0_0 (pc := 18) C hi_X10_loose_X10 wd_X10_loose_2 dX10_loose_18 ?_
    refine r_iconst (pc := 21) (v := (0 : Int32)) C dX10_loose_21 ic_0 ?_
    refine iald_oM_1 (pc := 22) C dX10_loose_22 ?_
    refine r_ildn (pc := 23) C dX10_loose_23 1 rfl ?_
    refine r_iadd (pc := 24) C dX10_loose_24 ?_
    refine r_sipush (pc := 25) (v := (9999 : Int32)) C dX10_loose_25 sp_9999 ?_
    refine r_icle (pc := 28) (tgt := 38) C dX10_loose_28 (by decide) ?_ ?_
    · refine r_iconst (pc := 38) (v := (0 : Int32)) C dX10_loose_38 ic_0 ?_
      refine r_istn (pc := 39) (lv' := [(0, _), (1, _), (2, _)]) C dX10_loose_39 (by decide) [1, 2, 0] rfl ?_
      refine r_iconst (pc := 40) (v := (0 : Int32)) C dX10_loose_40 ic_0 ?_
      refine r_istn (pc := 41) (lv' := [(0, _), (1, _), (2, _), (3, _)]) C dX10_loose_41 (by decide) [1, 2, 3, 0] rfl ?_
      exact v_X10_loose_42 (x := x) C fuN a1 (0 : Int32) (0 : Int32) s5
    · refine r_aldn (pc := 31) C dX10_loose_31 0 rfl ?_
      refine r_ldc (pc := 32) (v := (-1000000003 : Int32)) C dX10_loose_32 wd_X10_loose_3 ?_
      refine k_X10_error (x := x) (pc := 34) (a1 := (-1000000003 : Int32)) C gX10_loose_X10_error (by omega)  (Nat.le_of_ble_eq_true rfl) dX10_loose_34 (fun r8 s7 => ?_)
      exact r_iret (pc := 37) C dX10_loose_37
  · refine r_aldn (pc := 10) C dX10_loose_10 0 rfl ?_
    refine r_ldc (pc := 11) (v := (-1000000001 : Int32)) C dX10_loose_11 wd_X10_loose_1 ?_
    refine k_X10_error (x := x) (pc := 13) (a1 := (-1000000001 : Int32)) C gX10_loose_X10_error (by omega)  (Nat.le_of_ble_eq_true rfl) dX10_loose_13 (fun r10 s9 => ?_)
    exact r_iret (pc := 16) C dX10_loose_16
set_option maxHeartbeats 4000000 in
set_option maxRecDepth 100000 in
theorem v_X10_lossOn_11_b {κ : oK} {x : oXp} (C : oC κ (oM x) 5 cX10_lossOn RX10 wsX10_lossOn 7 (some .int))  (rec11 : Int32 → Int32 → Int32 → Sg → Option (Int32 × Sg)) (hrec11 : ∀ (a2 : Int32) (a3 : Int32) (a4 : Int32) (σ : Sg), oV κ (oM x) 5 (oQi κ (oM x)) σ 11 [(0, .ref (xa x 0)), (2, .int a2), (3, .int a3), (4, .int a4)] [] (rec11 a2 a3 a4 σ)) (a2 : Int32) (a3 : Int32) (a4 : Int32) (σ : Sg) : oV κ (oM x) 5 (oQi κ (oM x)) σ 11 [(0, .ref (xa x 0)), (2, .int a2), (3, .int a3), (4, .int a4)] [] (f_X10_lossOn_11_b   rec11 a2 a3 a4 σ) := by
  unfold f_X10_lossOn_11_b
  refine r_ild (pc := 11) C dX10_lossOn_11 3 rfl ?_
  refine r_aldn (pc := 13) C dX10_lossOn_13 0 rfl ?_
  refine gf_X10_0_0 (pc := 14) C hi_X10_lossOn_X10 wd_X10_lossOn_1 dX10_lossOn_14 ?_
  refine r_iconst (pc := 17) (v := (2 : Int32)) C dX10_lossOn_17 ic_2 ?_
  refine iald_oM_1 (pc := 18) C dX10_lossOn_18 ?_
  refine r_icge (pc := 19) (tgt := 58) C dX10_lossOn_19 (by decide) ?_ ?_
  · refine r_ildn (pc := 58) C dX10_lossOn_58 2 rfl ?_
    exact r_iret (pc := 59) C dX10_lossOn_59
  · refine r_ildn (pc := 22) C dX10_lossOn_22 1 rfl ?_
    refine r_ild (pc := 23) C dX10_lossOn_23 3 rfl ?_
    refine r_ishr (pc := 25) C dX10_lossOn_25 ?_
    refine r_iconst (pc := 26) (v := (1 : Int32)) C dX10_lossOn_26 ic_1 ?_
    refine r_iand (pc := 27) C dX10_lossOn_27 ?_
    refine r_iconst (pc := 28) (v := (1 : Int32)) C dX10_lossOn_28 ic_1 ?_
    refine r_icne (pc := 29) (tgt := 52) C dX10_lossOn_29 (by decide) ?_ ?_
    · refine r_iinc (pc := 52) (v := (1 : Int32)) (lv1 := fun y => [(0, _), (2, _), (3, _), (4, .int y)]) C dX10_lossOn_52 ic_1 3 rfl (by decide) [1, 2, 3, 0] (fun _ => rfl) (fun v1 => ?_)
      refine r_goto (pc := 55) (tgt := 11) C dX10_lossOn_55 (by decide) ?_
      exact hrec11 a2 a3 v1 σ
    · refine r_aldn (pc := 32) C dX10_lossOn_32 0 rfl ?_
      refine r_ild (pc := 33) C dX10_lossOn_33 3 rfl ?_
      refine k_X10_mayGo (x := x) (pc := 35) (a1 := a4) C gX10_lossOn_X10_mayGo (by omega)  (Nat.le_of_ble_eq_true rfl) dX10_lossOn_35 (fun r3 s2 => ?_)
      refine r_ifne (pc := 38) (tgt := 43) C dX10_lossOn_38 (by decide) ?_ ?_
      · refine r_ildn (pc := 43) C dX10_lossOn_43 2 rfl ?_
        refine r_aldn (pc := 44) C dX10_lossOn_44 0 rfl ?_
        refine r_ild (pc := 45) C dX10_lossOn_45 3 rfl ?_
        refine k_X10_lossOf (x := x) (pc := 47) (a1 := a4) C gX10_lossOn_X10_lossOf (by omega)  (Nat.le_of_ble_eq_true rfl) dX10_lossOn_47 (fun r5 s4 => ?_)
        refine r_iadd (pc := 50) C dX10_lossOn_50 ?_
        refine r_nm (fun v6 => ?_)
        refine r_istn (pc := 51) (lv' := [(0, _), (2, _), (3, _), (4, _)]) C dX10_lossOn_51 (by decide) [1, 2, 0, 3] rfl ?_
        refine r_iinc (pc := 52) (v := (1 : Int32)) (lv1 := fun y => [(0, _), (2, _), (3, _), (4, .int y)]) C dX10_lossOn_52 ic_1 3 rfl (by decide) [1, 2, 3, 0] (fun _ => rfl) (fun v7 => ?_)
        refine r_goto (pc := 55) (tgt := 11) C dX10_lossOn_55 (by decide) ?_
        exact hrec11 a2 v6 v7 s4
      · refine r_iconst (pc := 41) (v := (-1 : Int32)) C dX10_lossOn_41 ic_m1 ?_
        exact r_iret (pc := 42) C dX10_lossOn_42
theorem v_X10_lossOn_11 {κ : oK} {x : oXp} (C : oC κ (oM x) 5 cX10_lossOn RX10 wsX10_lossOn 7 (some .int))  : ∀ (n : Nat) (a2 : Int32) (a3 : Int32) (a4 : Int32) (σ : Sg), oV κ (oM x) 5 (oQi κ (oM x)) σ 11 [(0, .ref (xa x 0)), (2, .int a2), (3, .int a3), (4, .int a4)] [] (f_X10_lossOn_11   n a2 a3 a4 σ) := by
  intro n
  induction n with
  | zero => intros; exact r_none
  | succ n ih => exact v_X10_lossOn_11_b C  _ ih
set_option maxHeartbeats 4000000 in
set_option maxRecDepth 100000 in
theorem m_X10_lossOn (l : Launch) (x : oXp) (hI : oI (oM x)) (a1 : Int32) (σ : Sg) : oMI l yX10_lossOn wsX10_lossOn 7 (oM x) [.ref (xa x 0), .int a1] σ (f_X10_lossOn  a1 σ) := by
  refine oMI_of (nL := 5) (cc := cX10_lossOn) hI (by decide +kernel) rfl (Nat.le_of_ble_eq_true rfl) ?_
  intro κ C
  have C : oC κ (oM x) 5 cX10_lossOn RX10 wsX10_lossOn 7 (some .int) := C
  unfold f_X10_lossOn
  show oV κ (oM x) 5 (oQi κ (oM x)) σ 0 [(0, .ref (xa x 0)), (1, .int a1)] [] _
  refine r_aldn (pc := 0) C dX10_lossOn_0 0 rfl ?_
  refine r_ildn (pc := 1) C dX10_lossOn_1 1 rfl ?_
  refine k_X10_linesOn (x := x) (pc := 2) (a1 := a1) C gX10_lossOn_X10_linesOn (by omega)  (Nat.le_of_ble_eq_true rfl) dX10_lossOn_2 (fun r9 s8 => ?_)
  refine r_istn (pc := 5) (lv' := [(0, _), (2, _)]) C dX10_lossOn_5 (by decide) [1, 0] rfl ?_
  refine r_iconst (pc := 6) (v := (0 : Int32)) C dX10_lossOn_6 ic_0 ?_
  refine r_istn (pc := 7) (lv' := [(0, _), (2, _), (3, _)]) C dX10_lossOn_7 (by decide) [1, 2, 0] rfl ?_
  refine r_iconst (pc := 8) (v := (0 : Int32)) C dX10_lossOn_8 ic_0 ?_
  refine r_ist (pc := 9) (lv' := [(0, _), (2, _), (3, _), (4, _)]) C dX10_lossOn_9 (by decide) [1, 2, 3, 0] rfl ?_
  exact v_X10_lossOn_11 (x := x) C fuN r9 (0 : Int32) (0 : Int32) s8
theorem k_X10_lossOn {κ : oK} {nL : Nat} {cc : ByteArray} {own : String} {Ts : List Cond} {n : Nat} {ret : Option FieldType} {α : Type} {Q : α → Sg → State → Prop} {σ : Sg} {pc : Nat} {lv : List (Nat × Value)} {st : List Value} {x : oXp} {idx : Nat} {a1 : Int32} {K : Int32 → Sg → Option (α × Sg)} (C : oC κ (oM x) nL cc own Ts n ret) (hG : GoodIn Ts (wsV own idx RX10 yX10_lossOn wsX10_lossOn)) (hn : 7 + 1 ≤ n) (hst : (st.map fun v => v.category).sum ≤ 8) (hd : decode cc pc = .ok (.invokevirtual idx, 3)) (kk : ∀ (r1 : Int32) (σ1 : Sg), oV κ (oM x) nL Q σ1 (pc + 3) lv (.int r1 :: st) (K r1 σ1)) : oV κ (oM x) nL Q σ pc lv (.int a1 :: .ref (xa x 0) :: st) (bnd (f_X10_lossOn a1 σ) K) := by
  have hI : oI (oM x) := oC_I C
  exact r_cVi (As := [.int a1]) (na := 1) (j := 0) (ci := 10) C (fun l => m_X10_lossOn l x hI a1 σ) hG rfl (by decide +kernel) rfl (by decide) hn (by show 0 < 14; decide) rfl rfl rfl rfl hst hd kk
set_option maxHeartbeats 4000000 in
set_option maxRecDepth 100000 in
theorem m_X10_notMoved (l : Launch) (x : oXp) (hI : oI (oM x)) (a1 : Int32) (a2 : Int32) (a3 : Int32) (a4 : Int32) (a5 : Int32) (σ : Sg) : oMI l yX10_notMoved wsX10_notMoved 5 (oM x) [.ref (xa x 0), .int a1, .int a2, .int a3, .int a4, .int a5] σ (f_X10_notMoved  a1 a2 a3 a4 a5 σ) := by
  refine oMI_of (nL := 7) (cc := cX10_notMoved) hI (by decide +kernel) rfl (Nat.le_of_ble_eq_true rfl) ?_
  intro κ C
  have C : oC κ (oM x) 7 cX10_notMoved RX10 wsX10_notMoved 5 (some .int) := C
  unfold f_X10_notMoved
  show oV κ (oM x) 7 (oQi κ (oM x)) σ 0 [(0, .ref (xa x 0)), (1, .int a1), (2, .int a2), (3, .int a3), (4, .int a4), (5, .int a5)] [] _
  refine r_ildn (pc := 0) C dX10_notMoved_0 1 rfl ?_
  refine kS_X10_isSheet (x := x) (pc := 1) (a0 := a1) C gX10_notMoved_X10_isSheet (by omega)  (Nat.le_of_ble_eq_true rfl) dX10_notMoved_1 (fun r2 s1 => ?_)
  refine r_ifeq (pc := 4) (tgt := 14) C dX10_notMoved_4 (by decide) ?_ ?_
  · refine r_ldc (pc := 14) (v := (-1000000001 : Int32)) C dX10_notMoved_14 wd_X10_notMoved_1 ?_
    exact r_iret (pc := 16) C dX10_notMoved_16
  · refine r_ildn (pc := 7) C dX10_notMoved_7 3 rfl ?_
    refine kS_X10_isSheet (x := x) (pc := 8) (a0 := a3) C gX10_notMoved_X10_isSheet (by omega)  (Nat.le_of_ble_eq_true rfl) dX10_notMoved_8 (fun r4 s3 => ?_)
    refine r_ifne (pc := 11) (tgt := 17) C dX10_notMoved_11 (by decide) ?_ ?_
    · refine r_aldn (pc := 17) C dX10_notMoved_17 0 rfl ?_
      refine gf_X10_5_0 (pc := 18) C hi_X10_notMoved_X10 wd_X10_notMoved_2 dX10_notMoved_18 ?_
      refine r_ildn (pc := 21) C dX10_notMoved_21 1 rfl ?_
      refine iald_oM_5 (pc := 22) C dX10_notMoved_22 ?_
      refine r_ifeq (pc := 23) (tgt := 35) C dX10_notMoved_23 (by decide) ?_ ?_
      · refine r_ldc (pc := 35) (v := (-1000000002 : Int32)) C dX10_notMoved_35 wd_X10_notMoved_3 ?_
        exact r_iret (pc := 37) C dX10_notMoved_37
      · refine r_aldn (pc := 26) C dX10_notMoved_26 0 rfl ?_
        refine gf_X10_5_0 (pc := 27) C hi_X10_notMoved_X10 wd_X10_notMoved_2 dX10_notMoved_27 ?_
        refine r_ildn (pc := 30) C dX10_notMoved_30 3 rfl ?_
        refine iald_oM_5 (pc := 31) C dX10_notMoved_31 ?_
        refine r_ifne (pc := 32) (tgt := 38) C dX10_notMoved_32 (by decide) ?_ ?_
        · refine r_aldn (pc := 38) C dX10_notMoved_38 0 rfl ?_
          refine gf_X10_5_0 (pc := 39) C hi_X10_notMoved_X10 wd_X10_notMoved_2 dX10_notMoved_39 ?_
          refine r_ildn (pc := 42) C dX10_notMoved_42 1 rfl ?_
          refine iald_oM_5 (pc := 43) C dX10_notMoved_43 ?_
          refine r_aldn (pc := 44) C dX10_notMoved_44 0 rfl ?_
          refine gf_X10_5_0 (pc := 45) C hi_X10_notMoved_X10 wd_X10_notMoved_2 dX10_notMoved_45 ?_
          refine r_ildn (pc := 48) C dX10_notMoved_48 3 rfl ?_
          refine iald_oM_5 (pc := 49) C dX10_notMoved_49 ?_
          refine r_iceq (pc := 50) (tgt := 56) C dX10_notMoved_50 (by decide) ?_ ?_
          · refine r_ild (pc := 56) C dX10_notMoved_56 5 rfl ?_
            refine r_iflt (pc := 58) (tgt := 101) C dX10_notMoved_58 (by decide) ?_ ?_
            · refine r_iconst (pc := 101) (v := (0 : Int32)) C dX10_notMoved_101 ic_0 ?_
              refine r_ist (pc := 102) (lv' := [(6, _)]) C dX10_notMoved_102 (by decide) [0] rfl ?_
              refine r_ild (pc := 104) C dX10_notMoved_104 0 rfl ?_
              refine r_ifeq (pc := 106) (tgt := 113) C dX10_notMoved_106 (by decide) ?_ ?_
              · refine r_ldc (pc := 113) (v := (-1000000001 : Int32)) C dX10_notMoved_113 wd_X10_notMoved_1 ?_
                exact r_iret (pc := 115) C dX10_notMoved_115
              · refine r_iconst (pc := 109) (v := (0 : Int32)) C dX10_notMoved_109 ic_0 ?_
                refine r_goto (pc := 110) (tgt := 115) C dX10_notMoved_110 (by decide) ?_
                exact r_iret (pc := 115) C dX10_notMoved_115
            · refine r_ildn (pc := 61) C dX10_notMoved_61 2 rfl ?_
              refine r_iflt (pc := 62) (tgt := 101) C dX10_notMoved_62 (by decide) ?_ ?_
              · refine r_iconst (pc := 101) (v := (0 : Int32)) C dX10_notMoved_101 ic_0 ?_
                refine r_ist (pc := 102) (lv' := [(6, _)]) C dX10_notMoved_102 (by decide) [0] rfl ?_
                refine r_ild (pc := 104) C dX10_notMoved_104 0 rfl ?_
                refine r_ifeq (pc := 106) (tgt := 113) C dX10_notMoved_106 (by decide) ?_ ?_
                · refine r_ldc (pc := 113) (v := (-1000000001 : Int32)) C dX10_notMoved_113 wd_X10_notMoved_1 ?_
                  exact r_iret (pc := 115) C dX10_notMoved_115
                · refine r_iconst (pc := 109) (v := (0 : Int32)) C dX10_notMoved_109 ic_0 ?_
                  refine r_goto (pc := 110) (tgt := 115) C dX10_notMoved_110 (by decide) ?_
                  exact r_iret (pc := 115) C dX10_notMoved_115
              · refine r_ild (pc := 65) C dX10_notMoved_65 4 rfl ?_
                refine r_iflt (pc := 67) (tgt := 101) C dX10_notMoved_67 (by decide) ?_ ?_
                · refine r_iconst (pc := 101) (v := (0 : Int32)) C dX10_notMoved_101 ic_0 ?_
                  refine r_ist (pc := 102) (lv' := [(6, _)]) C dX10_notMoved_102 (by decide) [0] rfl ?_
                  refine r_ild (pc := 104) C dX10_notMoved_104 0 rfl ?_
                  refine r_ifeq (pc := 106) (tgt := 113) C dX10_notMoved_106 (by decide) ?_ ?_
                  · refine r_ldc (pc := 113) (v := (-1000000001 : Int32)) C dX10_notMoved_113 wd_X10_notMoved_1 ?_
                    exact r_iret (pc := 115) C dX10_notMoved_115
                  · refine r_iconst (pc := 109) (v := (0 : Int32)) C dX10_notMoved_109 ic_0 ?_
                    refine r_goto (pc := 110) (tgt := 115) C dX10_notMoved_110 (by decide) ?_
                    exact r_iret (pc := 115) C dX10_notMoved_115
                · refine r_ild (pc := 70) C dX10_notMoved_70 5 rfl ?_
                  refine r_aldn (pc := 72) C dX10_notMoved_72 0 rfl ?_
                  refine gf_X10_6_0 (pc := 73) C hi_X10_notMoved_X10 wd_X10_notMoved_5 dX10_notMoved_73 ?_
                  refine r_ildn (pc := 76) C dX10_notMoved_76 1 rfl ?_
                  refine iald_oM_6 (pc := 77) C dX10_notMoved_77 ?_
                  refine r_ildn (pc := 78) C dX10_notMoved_78 2 rfl ?_
                  refine r_isub (pc := 79) C dX10_notMoved_79 ?_
                  refine r_icgt (pc := 80) (tgt := 101) C dX10_notMoved_80 (by decide) ?_ ?_
                  · refine r_iconst (pc := 101) (v := (0 : Int32)) C dX10_notMoved_101 ic_0 ?_
                    refine r_ist (pc := 102) (lv' := [(6, _)]) C dX10_notMoved_102 (by decide) [0] rfl ?_
                    refine r_ild (pc := 104) C dX10_notMoved_104 0 rfl ?_
                    refine r_ifeq (pc := 106) (tgt := 113) C dX10_notMoved_106 (by decide) ?_ ?_
                    · refine r_ldc (pc := 113) (v := (-1000000001 : Int32)) C dX10_notMoved_113 wd_X10_notMoved_1 ?_
                      exact r_iret (pc := 115) C dX10_notMoved_115
                    · refine r_iconst (pc := 109) (v := (0 : Int32)) C dX10_notMoved_109 ic_0 ?_
                      refine r_goto (pc := 110) (tgt := 115) C dX10_notMoved_110 (by decide) ?_
                      exact r_iret (pc := 115) C dX10_notMoved_115
                  · refine r_ild (pc := 83) C dX10_notMoved_83 5 rfl ?_
                    refine r_aldn (pc := 85) C dX10_notMoved_85 0 rfl ?_
                    refine gf_X10_6_0 (pc := 86) C hi_X10_notMoved_X10 wd_X10_notMoved_5 dX10_notMoved_86 ?_
                    refine r_ildn (pc := 89) C dX10_notMoved_89 3 rfl ?_
                    refine iald_oM_6 (pc := 90) C dX10_notMoved_90 ?_
                    refine r_ild (pc := 91) C dX10_notMoved_91 4 rfl ?_
                    refine r_isub (pc := 93) C dX10_notMoved_93 ?_
                    refine r_icgt (pc := 94) (tgt := 101) C dX10_notMoved_94 (by decide) ?_ ?_
                    · refine r_iconst (pc := 101) (v := (0 : Int32)) C dX10_notMoved_101 ic_0 ?_
                      refine r_ist (pc := 102) (lv' := [(6, _)]) C dX10_notMoved_102 (by decide) [0] rfl ?_
                      refine r_ild (pc := 104) C dX10_notMoved_104 0 rfl ?_
                      refine r_ifeq (pc := 106) (tgt := 113) C dX10_notMoved_106 (by decide) ?_ ?_
                      · refine r_ldc (pc := 113) (v := (-1000000001 : Int32)) C dX10_notMoved_113 wd_X10_notMoved_1 ?_
                        exact r_iret (pc := 115) C dX10_notMoved_115
                      · refine r_iconst (pc := 109) (v := (0 : Int32)) C dX10_notMoved_109 ic_0 ?_
                        refine r_goto (pc := 110) (tgt := 115) C dX10_notMoved_110 (by decide) ?_
                        exact r_iret (pc := 115) C dX10_notMoved_115
                    · refine r_iconst (pc := 97) (v := (1 : Int32)) C dX10_notMoved_97 ic_1 ?_
                      refine r_goto (pc := 98) (tgt := 102) C dX10_notMoved_98 (by decide) ?_
                      refine r_ist (pc := 102) (lv' := [(6, _)]) C dX10_notMoved_102 (by decide) [0] rfl ?_
                      refine r_ild (pc := 104) C dX10_notMoved_104 0 rfl ?_
                      refine r_ifeq (pc := 106) (tgt := 113) C dX10_notMoved_106 (by decide) ?_ ?_
                      · refine r_ldc (pc := 113) (v := (-1000000001 : Int32)) C dX10_notMoved_113 wd_X10_notMoved_1 ?_
                        exact r_iret (pc := 115) C dX10_notMoved_115
                      · refine r_iconst (pc := 109) (v := (0 : Int32)) C dX10_notMoved_109 ic_0 ?_
                        refine r_goto (pc := 110) (tgt := 115) C dX10_notMoved_110 (by decide) ?_
                        exact r_iret (pc := 115) C dX10_notMoved_115
          · refine r_ldc (pc := 53) (v := (-1000000005 : Int32)) C dX10_notMoved_53 wd_X10_notMoved_4 ?_
            exact r_iret (pc := 55) C dX10_notMoved_55
        · refine r_ldc (pc := 35) (v := (-1000000002 : Int32)) C dX10_notMoved_35 wd_X10_notMoved_3 ?_
          exact r_iret (pc := 37) C dX10_notMoved_37
    · refine r_ldc (pc := 14) (v := (-1000000001 : Int32)) C dX10_notMoved_14 wd_X10_notMoved_1 ?_
      exact r_iret (pc := 16) C dX10_notMoved_16
theorem k_X10_notMoved {κ : oK} {nL : Nat} {cc : ByteArray} {own : String} {Ts : List Cond} {n : Nat} {ret : Option FieldType} {α : Type} {Q : α → Sg → State → Prop} {σ : Sg} {pc : Nat} {lv : List (Nat × Value)} {st : List Value} {x : oXp} {idx : Nat} {a1 : Int32} {a2 : Int32} {a3 : Int32} {a4 : Int32} {a5 : Int32} {K : Int32 → Sg → Option (α × Sg)} (C : oC κ (oM x) nL cc own Ts n ret) (hG : GoodIn Ts (wsV own idx RX10 yX10_notMoved wsX10_notMoved)) (hn : 5 + 1 ≤ n) (hst : (st.map fun v => v.category).sum ≤ 8) (hd : decode cc pc = .ok (.invokevirtual idx, 3)) (kk : ∀ (r1 : Int32) (σ1 : Sg), oV κ (oM x) nL Q σ1 (pc + 3) lv (.int r1 :: st) (K r1 σ1)) : oV κ (oM x) nL Q σ pc lv (.int a5 :: .int a4 :: .int a3 :: .int a2 :: .int a1 :: .ref (xa x 0) :: st) (bnd (f_X10_notMoved a1 a2 a3 a4 a5 σ) K) := by
  have hI : oI (oM x) := oC_I C
  exact r_cVi (As := [.int a1, .int a2, .int a3, .int a4, .int a5]) (na := 5) (j := 0) (ci := 10) C (fun l => m_X10_notMoved l x hI a1 a2 a3 a4 a5 σ) hG rfl (by decide +kernel) rfl (by decide) hn (by show 0 < 14; decide) rfl rfl rfl rfl hst hd kk
set_option maxHeartbeats 4000000 in
set_option maxRecDepth 100000 in
theorem v_X10_move_53 {κ : oK} {x : oXp} (C : oC κ (oM x) 9 cX10_move RX10 wsX10_move 6 (some .int)) (rec28 : Int32 → Int32 → Int32 → Int32 → Int32 → Int32 → Sg → Option (Int32 × Sg)) (hrec28 : ∀ (a1 : Int32) (a2 : Int32) (a3 : Int32) (a4 : Int32) (a5 : Int32) (a7 : Int32) (σ : Sg), oV κ (oM x) 9 (oQi κ (oM x)) σ 28 [(0, .ref (xa x 0)), (1, .int a1), (2, .int a2), (3, .int a3), (4, .int a4), (5, .int a5), (7, .int a7)] [] (rec28 a1 a2 a3 a4 a5 a7 σ)) (a1 : Int32) (a2 : Int32) (a3 : Int32) (a4 : Int32) (a5 : Int32) (a7 : Int32) (t0 : Int32) (σ : Sg) : oV κ (oM x) 9 (oQi κ (oM x)) σ 53 [(0, .ref (xa x 0)), (1, .int a1), (2, .int a2), (3, .int a3), (4, .int a4), (5, .int a5), (7, .int a7)] [.int t0] (f_X10_move_53  rec28 a1 a2 a3 a4 a5 a7 t0 σ) := by
  unfold f_X10_move_53
  refine r_ist (pc := 53) (lv' := [(0, _), (1, _), (2, _), (3, _), (4, _), (5, _), (7, _), (8, _)]) C dX10_move_53 (by decide) [1, 2, 3, 4, 5, 6, 7, 0] rfl ?_
  refine r_aldn (pc := 55) C dX10_move_55 0 rfl ?_
  refine gf_X10_7_0 (pc := 56) C hi_X10_move_X10 wd_X10_move_1 dX10_move_56 ?_
  refine r_bipush (pc := 59) (v := (24 : Int32)) C dX10_move_59 bp_24 ?_
  refine r_ildn (pc := 61) C dX10_move_61 3 rfl ?_
  refine r_imul (pc := 62) C dX10_move_62 ?_
  refine r_ild (pc := 63) C dX10_move_63 4 rfl ?_
  refine r_iadd (pc := 65) C dX10_move_65 ?_
  refine r_ild (pc := 66) C dX10_move_66 7 rfl ?_
  refine r_iadd (pc := 68) C dX10_move_68 ?_
  refine r_aldn (pc := 69) C dX10_move_69 0 rfl ?_
  refine gf_X10_7_0 (pc := 70) C hi_X10_move_X10 wd_X10_move_1 dX10_move_70 ?_
  refine r_bipush (pc := 73) (v := (24 : Int32)) C dX10_move_73 bp_24 ?_
  refine r_ildn (pc := 75) C dX10_move_75 1 rfl ?_
  refine r_imul (pc := 76) C dX10_move_76 ?_
  refine r_ildn (pc := 77) C dX10_move_77 2 rfl ?_
  refine r_iadd (pc := 78) C dX10_move_78 ?_
  refine r_ild (pc := 79) C dX10_move_79 7 rfl ?_
  refine r_iadd (pc := 81) C dX10_move_81 ?_
  refine iald_oM_7 (pc := 82) C dX10_move_82 ?_
  refine iast_oM_7 (pc := 83) C dX10_move_83 (fun s1 => ?_)
  refine r_iinc (pc := 84) (v := (1 : Int32)) (lv1 := fun y => [(0, _), (1, _), (2, _), (3, _), (4, _), (5, _), (7, .int y)]) C dX10_move_84 ic_1 6 rfl (by decide) [1, 2, 3, 4, 5, 6, 0] (fun _ => rfl) (fun v2 => ?_)
  refine r_goto (pc := 87) (tgt := 28) C dX10_move_87 (by decide) ?_
  exact hrec28 a1 a2 a3 a4 a5 v2 s1
set_option maxHeartbeats 4000000 in
set_option maxRecDepth 100000 in
theorem v_X10_move_28_b {κ : oK} {x : oXp} (C : oC κ (oM x) 9 cX10_move RX10 wsX10_move 6 (some .int))  (rec28 : Int32 → Int32 → Int32 → Int32 → Int32 → Int32 → Sg → Option (Int32 × Sg)) (hrec28 : ∀ (a1 : Int32) (a2 : Int32) (a3 : Int32) (a4 : Int32) (a5 : Int32) (a7 : Int32) (σ : Sg), oV κ (oM x) 9 (oQi κ (oM x)) σ 28 [(0, .ref (xa x 0)), (1, .int a1), (2, .int a2), (3, .int a3), (4, .int a4), (5, .int a5), (7, .int a7)] [] (rec28 a1 a2 a3 a4 a5 a7 σ)) (a1 : Int32) (a2 : Int32) (a3 : Int32) (a4 : Int32) (a5 : Int32) (a7 : Int32) (σ : Sg) : oV κ (oM x) 9 (oQi κ (oM x)) σ 28 [(0, .ref (xa x 0)), (1, .int a1), (2, .int a2), (3, .int a3), (4, .int a4), (5, .int a5), (7, .int a7)] [] (f_X10_move_28_b   rec28 a1 a2 a3 a4 a5 a7 σ) := by
  unfold f_X10_move_28_b
  refine r_ild (pc := 28) C dX10_move_28 6 rfl ?_
  refine r_ild (pc := 30) C dX10_move_30 5 rfl ?_
  refine r_icge (pc := 32) (tgt := 90) C dX10_move_32 (by decide) ?_ ?_
  · refine r_ild (pc := 90) C dX10_move_90 5 rfl ?_
    exact r_iret (pc := 92) C dX10_move_92
  · refine r_ildn (pc := 35) C dX10_move_35 2 rfl ?_
    refine r_ild (pc := 36) C dX10_move_36 4 rfl ?_
    refine r_icge (pc := 38) (tgt := 51) C dX10_move_38 (by decide) ?_ ?_
    · refine r_ild (pc := 51) C dX10_move_51 6 rfl ?_
      exact v_X10_move_53 (x := x) C _ hrec28 a1 a2 a3 a4 a5 a7 a7 σ
    · refine r_ild (pc := 41) C dX10_move_41 5 rfl ?_
      refine r_iconst (pc := 43) (v := (1 : Int32)) C dX10_move_43 ic_1 ?_
      refine r_isub (pc := 44) C dX10_move_44 ?_
      refine r_ild (pc := 45) C dX10_move_45 6 rfl ?_
      refine r_isub (pc := 47) C dX10_move_47 ?_
      refine r_goto (pc := 48) (tgt := 53) C dX10_move_48 (by decide) ?_
      exact v_X10_move_53 (x := x) C _ hrec28 a1 a2 a3 a4 a5 a7 ((a5 - (1 : Int32)) - a7) σ
theorem v_X10_move_28 {κ : oK} {x : oXp} (C : oC κ (oM x) 9 cX10_move RX10 wsX10_move 6 (some .int))  : ∀ (n : Nat) (a1 : Int32) (a2 : Int32) (a3 : Int32) (a4 : Int32) (a5 : Int32) (a7 : Int32) (σ : Sg), oV κ (oM x) 9 (oQi κ (oM x)) σ 28 [(0, .ref (xa x 0)), (1, .int a1), (2, .int a2), (3, .int a3), (4, .int a4), (5, .int a5), (7, .int a7)] [] (f_X10_move_28   n a1 a2 a3 a4 a5 a7 σ) := by
  intro n
  induction n with
  | zero => intros; exact r_none
  | succ n ih => exact v_X10_move_28_b C  _ ih
set_option maxHeartbeats 4000000 in
set_option maxRecDepth 100000 in
theorem m_X10_move (l : Launch) (x : oXp) (hI : oI (oM x)) (a1 : Int32) (a2 : Int32) (a3 : Int32) (a4 : Int32) (a5 : Int32) (σ : Sg) : oMI l yX10_move wsX10_move 6 (oM x) [.ref (xa x 0), .int a1, .int a2, .int a3, .int a4, .int a5] σ (f_X10_move  a1 a2 a3 a4 a5 σ) := by
  refine oMI_of (nL := 9) (cc := cX10_move) hI (by decide +kernel) rfl (Nat.le_of_ble_eq_true rfl) ?_
  intro κ C
  have C : oC κ (oM x) 9 cX10_move RX10 wsX10_move 6 (some .int) := C
  unfold f_X10_move
  show oV κ (oM x) 9 (oQi κ (oM x)) σ 0 [(0, .ref (xa x 0)), (1, .int a1), (2, .int a2), (3, .int a3), (4, .int a4), (5, .int a5)] [] _
  refine r_aldn (pc := 0) C dX10_move_0 0 rfl ?_
  refine r_ildn (pc := 1) C dX10_move_1 1 rfl ?_
  refine r_ildn (pc := 2) C dX10_move_2 2 rfl ?_
  refine r_ildn (pc := 3) C dX10_move_3 3 rfl ?_
  refine r_ild (pc := 4) C dX10_move_4 4 rfl ?_
  refine r_ild (pc := 6) C dX10_move_6 5 rfl ?_
  refine k_X10_notMoved (x := x) (pc := 8) (a1 := a1) (a2 := a2) (a3 := a3) (a4 := a4) (a5 := a5) C gX10_move_X10_notMoved (by omega)  (Nat.le_of_ble_eq_true rfl) dX10_move_8 (fun r4 s3 => ?_)
  refine r_ist (pc := 11) (lv' := [(0, _), (1, _), (2, _), (3, _), (4, _), (5, _), (6, _)]) C dX10_move_11 (by decide) [1, 2, 3, 4, 5, 6, 0] rfl ?_
  refine r_ild (pc := 13) C dX10_move_13 6 rfl ?_
  refine r_ifeq (pc := 15) (tgt := 25) C dX10_move_15 (by decide) ?_ ?_
  · refine r_iconst (pc := 25) (v := (0 : Int32)) C dX10_move_25 ic_0 ?_
    refine r_ist (pc := 26) (lv' := [(0, _), (1, _), (2, _), (3, _), (4, _), (5, _), (7, _)]) C dX10_move_26 (by decide) [1, 2, 3, 4, 5, 6, 0] rfl ?_
    exact v_X10_move_28 (x := x) C fuN a1 a2 a3 a4 a5 (0 : Int32) s3
  · refine r_aldn (pc := 18) C dX10_move_18 0 rfl ?_
    refine r_ild (pc := 19) C dX10_move_19 6 rfl ?_
    refine k_X10_error (x := x) (pc := 21) (a1 := r4) C gX10_move_X10_error (by omega)  (Nat.le_of_ble_eq_true rfl) dX10_move_21 (fun r6 s5 => ?_)
    exact r_iret (pc := 24) C dX10_move_24
set_option maxHeartbeats 4000000 in
set_option maxRecDepth 100000 in
theorem v_X10_odds_106_b {κ : oK} {x : oXp} (C : oC κ (oM x) 13 cX10_odds RX10 wsX10_odds 5 (some .long))  (rec106 : Int32 → Int64 → Int64 → Int64 → Int64 → Sg → Option (Int64 × Sg)) (hrec106 : ∀ (a2 : Int32) (a3 : Int64) (a5 : Int64) (a7 : Int64) (a9 : Int64) (σ : Sg), oV κ (oM x) 13 (oQl κ (oM x)) σ 106 [(2, .int a2), (3, .long a3), (5, .long a5), (7, .long a7), (9, .long a9)] [] (rec106 a2 a3 a5 a7 a9 σ)) (a2 : Int32) (a3 : Int64) (a5 : Int64) (a7 : Int64) (a9 : Int64) (σ : Sg) : oV κ (oM x) 13 (oQl κ (oM x)) σ 106 [(2, .int a2), (3, .long a3), (5, .long a5), (7, .long a7), (9, .long a9)] [] (f_X10_odds_106_b   rec106 a2 a3 a5 a7 a9 σ) := by
  unfold f_X10_odds_106_b
  refine r_lld (pc := 106) C dX10_odds_106 3 rfl ?_
  refine r_lconst (pc := 108) (v := (0 : Int64)) C dX10_odds_108 (by decide) ?_
  refine r_lcmp (pc := 109) C dX10_odds_109 ?_
  refine r_ifeq (pc := 110) (tgt := 131) C dX10_odds_110 (by decide) ?_ ?_
  · refine r_ildn (pc := 131) C dX10_odds_131 0 rfl ?_
    refine r_ifne (pc := 132) (tgt := 142) C dX10_odds_132 (by decide) ?_ ?_
    · refine r_lld (pc := 142) C dX10_odds_142 2 rfl ?_
      refine r_lld (pc := 144) C dX10_odds_144 4 rfl ?_
      refine r_ckb (fun h1 => ?_)
      refine r_ldiv (pc := 146) C dX10_odds_146 (nzl_ne h1) ?_
      exact r_lret (pc := 147) C dX10_odds_147
    · refine r_lldn (pc := 135) C dX10_odds_135 1 rfl ?_
      refine r_lld (pc := 136) C dX10_odds_136 4 rfl ?_
      refine r_ckb (fun h2 => ?_)
      refine r_ldiv (pc := 138) C dX10_odds_138 (nzl_ne h2) ?_
      refine r_goto (pc := 139) (tgt := 147) C dX10_odds_139 (by decide) ?_
      exact r_lret (pc := 147) C dX10_odds_147
  · refine r_lld (pc := 113) C dX10_odds_113 4 rfl ?_
    refine r_lld (pc := 115) C dX10_odds_115 3 rfl ?_
    refine r_ckb (fun h3 => ?_)
    refine r_lrem (pc := 117) C dX10_odds_117 (nzl_ne h3) ?_
    refine r_nml (fun v4 => ?_)
    refine r_lst (pc := 118) (lv' := [(2, _), (3, _), (5, _), (7, _), (11, _)]) C dX10_odds_118 (by decide) [1, 2, 3, 4, 0] rfl ?_
    refine r_lld (pc := 120) C dX10_odds_120 3 rfl ?_
    refine r_lst (pc := 122) (lv' := [(2, _), (3, _), (5, _), (9, _), (11, _)]) C dX10_odds_122 (by decide) [1, 2, 3, 0, 5] rfl ?_
    refine r_lld (pc := 124) C dX10_odds_124 4 rfl ?_
    refine r_lst (pc := 126) (lv' := [(2, _), (3, _), (5, _), (7, _), (9, _)]) C dX10_odds_126 (by decide) [1, 2, 3, 0, 4] rfl ?_
    refine r_goto (pc := 128) (tgt := 106) C dX10_odds_128 (by decide) ?_
    exact hrec106 a2 a3 a5 v4 a7 σ
theorem v_X10_odds_106 {κ : oK} {x : oXp} (C : oC κ (oM x) 13 cX10_odds RX10 wsX10_odds 5 (some .long))  : ∀ (n : Nat) (a2 : Int32) (a3 : Int64) (a5 : Int64) (a7 : Int64) (a9 : Int64) (σ : Sg), oV κ (oM x) 13 (oQl κ (oM x)) σ 106 [(2, .int a2), (3, .long a3), (5, .long a5), (7, .long a7), (9, .long a9)] [] (f_X10_odds_106   n a2 a3 a5 a7 a9 σ) := by
  intro n
  induction n with
  | zero => intros; exact r_none
  | succ n ih => exact v_X10_odds_106_b C  _ ih
set_option maxHeartbeats 4000000 in
set_option maxRecDepth 100000 in
theorem v_X10_odds_51_b {κ : oK} {x : oXp} (C : oC κ (oM x) 13 cX10_odds RX10 wsX10_odds 5 (some .long))  (rec51 : Int32 → Int32 → Int64 → Int64 → Int32 → Sg → Option (Int64 × Sg)) (hrec51 : ∀ (a1 : Int32) (a2 : Int32) (a3 : Int64) (a5 : Int64) (a7 : Int32) (σ : Sg), oV κ (oM x) 13 (oQl κ (oM x)) σ 51 [(0, .ref (xa x 0)), (1, .int a1), (2, .int a2), (3, .long a3), (5, .long a5), (7, .int a7)] [] (rec51 a1 a2 a3 a5 a7 σ)) (a1 : Int32) (a2 : Int32) (a3 : Int64) (a5 : Int64) (a7 : Int32) (σ : Sg) : oV κ (oM x) 13 (oQl κ (oM x)) σ 51 [(0, .ref (xa x 0)), (1, .int a1), (2, .int a2), (3, .long a3), (5, .long a5), (7, .int a7)] [] (f_X10_odds_51_b   rec51 a1 a2 a3 a5 a7 σ) := by
  unfold f_X10_odds_51_b
  refine r_ild (pc := 51) C dX10_odds_51 5 rfl ?_
  refine r_aldn (pc := 53) C dX10_odds_53 0 rfl ?_
  refine gf_X10_0_0 (pc := 54) C hi_X10_odds_X10 wd_X10_odds_1 dX10_odds_54 ?_
  refine r_iconst (pc := 57) (v := (2 : Int32)) C dX10_odds_57 ic_2 ?_
  refine iald_oM_1 (pc := 58) C dX10_odds_58 ?_
  refine r_icge (pc := 59) (tgt := 99) C dX10_odds_59 (by decide) ?_ ?_
  · refine r_lldn (pc := 99) C dX10_odds_99 3 rfl ?_
    refine r_lst (pc := 100) (lv' := [(2, _), (3, _), (5, _), (7, _)]) C dX10_odds_100 (by decide) [3, 4, 5, 0] rfl ?_
    refine r_lld (pc := 102) C dX10_odds_102 2 rfl ?_
    refine r_lst (pc := 104) (lv' := [(2, _), (3, _), (5, _), (7, _), (9, _)]) C dX10_odds_104 (by decide) [1, 2, 3, 4, 0] rfl ?_
    exact v_X10_odds_106 (x := x) C fuN a2 a3 a5 a3 a5 σ
  · refine r_ildn (pc := 62) C dX10_odds_62 1 rfl ?_
    refine r_ild (pc := 63) C dX10_odds_63 5 rfl ?_
    refine r_ishr (pc := 65) C dX10_odds_65 ?_
    refine r_iconst (pc := 66) (v := (1 : Int32)) C dX10_odds_66 ic_1 ?_
    refine r_iand (pc := 67) C dX10_odds_67 ?_
    refine r_iconst (pc := 68) (v := (1 : Int32)) C dX10_odds_68 ic_1 ?_
    refine r_icne (pc := 69) (tgt := 93) C dX10_odds_69 (by decide) ?_ ?_
    · refine r_iinc (pc := 93) (v := (1 : Int32)) (lv1 := fun y => [(0, _), (1, _), (2, _), (3, _), (5, _), (7, .int y)]) C dX10_odds_93 ic_1 5 rfl (by decide) [1, 2, 3, 4, 5, 0] (fun _ => rfl) (fun v5 => ?_)
      refine r_goto (pc := 96) (tgt := 51) C dX10_odds_96 (by decide) ?_
      exact hrec51 a1 a2 a3 a5 v5 σ
    · refine r_lldn (pc := 72) C dX10_odds_72 3 rfl ?_
      refine r_bipush (pc := 73) (v := (100 : Int32)) C dX10_odds_73 bp_100 ?_
      refine r_aldn (pc := 75) C dX10_odds_75 0 rfl ?_
      refine r_ild (pc := 76) C dX10_odds_76 5 rfl ?_
      refine k_X10_backOf (x := x) (pc := 78) (a1 := a7) C gX10_odds_X10_backOf (by omega)  (Nat.le_of_ble_eq_true rfl) dX10_odds_78 (fun r7 s6 => ?_)
      refine r_isub (pc := 81) C dX10_odds_81 ?_
      refine r_i2l (pc := 82) C dX10_odds_82 ?_
      refine r_lmul (pc := 83) C dX10_odds_83 ?_
      refine r_nml (fun v8 => ?_)
      refine r_lstn (pc := 84) (lv' := [(0, _), (1, _), (2, _), (3, _), (5, _), (7, _)]) C dX10_odds_84 (by decide) [1, 2, 3, 0, 4, 5] rfl ?_
      refine r_lld (pc := 85) C dX10_odds_85 4 rfl ?_
      refine r_ldc2 (pc := 87) (v := (100 : Int64)) C dX10_odds_87 wd_X10_odds_3 ?_
      refine r_lmul (pc := 90) C dX10_odds_90 ?_
      refine r_nml (fun v9 => ?_)
      refine r_lst (pc := 91) (lv' := [(0, _), (1, _), (2, _), (3, _), (5, _), (7, _)]) C dX10_odds_91 (by decide) [1, 2, 3, 4, 0, 5] rfl ?_
      refine r_iinc (pc := 93) (v := (1 : Int32)) (lv1 := fun y => [(0, _), (1, _), (2, _), (3, _), (5, _), (7, .int y)]) C dX10_odds_93 ic_1 5 rfl (by decide) [1, 2, 3, 4, 5, 0] (fun _ => rfl) (fun v10 => ?_)
      refine r_goto (pc := 96) (tgt := 51) C dX10_odds_96 (by decide) ?_
      exact hrec51 a1 a2 v8 v9 v10 s6
theorem v_X10_odds_51 {κ : oK} {x : oXp} (C : oC κ (oM x) 13 cX10_odds RX10 wsX10_odds 5 (some .long))  : ∀ (n : Nat) (a1 : Int32) (a2 : Int32) (a3 : Int64) (a5 : Int64) (a7 : Int32) (σ : Sg), oV κ (oM x) 13 (oQl κ (oM x)) σ 51 [(0, .ref (xa x 0)), (1, .int a1), (2, .int a2), (3, .long a3), (5, .long a5), (7, .int a7)] [] (f_X10_odds_51   n a1 a2 a3 a5 a7 σ) := by
  intro n
  induction n with
  | zero => intros; exact r_none
  | succ n ih => exact v_X10_odds_51_b C  _ ih
set_option maxHeartbeats 4000000 in
set_option maxRecDepth 100000 in
theorem m_X10_odds (l : Launch) (x : oXp) (hI : oI (oM x)) (a1 : Int32) (a2 : Int32) (σ : Sg) : oML l yX10_odds wsX10_odds 5 (oM x) [.ref (xa x 0), .int a1, .int a2] σ (f_X10_odds  a1 a2 σ) := by
  refine oML_of (nL := 13) (cc := cX10_odds) hI (by decide +kernel) rfl (Nat.le_of_ble_eq_true rfl) ?_
  intro κ C
  have C : oC κ (oM x) 13 cX10_odds RX10 wsX10_odds 5 (some .long) := C
  unfold f_X10_odds
  show oV κ (oM x) 13 (oQl κ (oM x)) σ 0 [(0, .ref (xa x 0)), (1, .int a1), (2, .int a2)] [] _
  refine r_ildn (pc := 0) C dX10_odds_0 1 rfl ?_
  refine r_iconst (pc := 1) (v := (0 : Int32)) C dX10_odds_1 ic_0 ?_
  refine r_iconst (pc := 2) (v := (1 : Int32)) C dX10_odds_2 ic_1 ?_
  refine r_aldn (pc := 3) C dX10_odds_3 0 rfl ?_
  refine gf_X10_0_0 (pc := 4) C hi_X10_odds_X10 wd_X10_odds_1 dX10_odds_4 ?_
  refine r_iconst (pc := 7) (v := (2 : Int32)) C dX10_odds_7 ic_2 ?_
  refine iald_oM_1 (pc := 8) C dX10_odds_8 ?_
  refine r_ishl (pc := 9) C dX10_odds_9 ?_
  refine r_iconst (pc := 10) (v := (1 : Int32)) C dX10_odds_10 ic_1 ?_
  refine r_isub (pc := 11) C dX10_odds_11 ?_
  refine kS_X10_in (x := x) (pc := 12) (a0 := a1) (a1 := (0 : Int32)) (a2 := ((shl (1 : Int32) (rd (σ 1) (2 : Int32))) - (1 : Int32))) C gX10_odds_X10_in (by omega)  (Nat.le_of_ble_eq_true rfl) dX10_odds_12 (fun r12 s11 => ?_)
  refine r_ifeq (pc := 15) (tgt := 35) C dX10_odds_15 (by decide) ?_ ?_
  · refine r_aldn (pc := 35) C dX10_odds_35 0 rfl ?_
    refine r_ldc (pc := 36) (v := (-1000000001 : Int32)) C dX10_odds_36 wd_X10_odds_2 ?_
    refine k_X10_error (x := x) (pc := 38) (a1 := (-1000000001 : Int32)) C gX10_odds_X10_error (by omega)  (Nat.le_of_ble_eq_true rfl) dX10_odds_38 (fun r14 s13 => ?_)
    refine r_i2l (pc := 41) C dX10_odds_41 ?_
    exact r_lret (pc := 42) C dX10_odds_42
  · refine r_ildn (pc := 18) C dX10_odds_18 1 rfl ?_
    refine kS_X10_bits (x := x) (pc := 19) (a0 := a1) C gX10_odds_X10_bits (by omega)  (Nat.le_of_ble_eq_true rfl) dX10_odds_19 (fun r16 s15 => ?_)
    refine r_iconst (pc := 22) (v := (4 : Int32)) C dX10_odds_22 ic_4 ?_
    refine r_icgt (pc := 23) (tgt := 35) C dX10_odds_23 (by decide) ?_ ?_
    · refine r_aldn (pc := 35) C dX10_odds_35 0 rfl ?_
      refine r_ldc (pc := 36) (v := (-1000000001 : Int32)) C dX10_odds_36 wd_X10_odds_2 ?_
      refine k_X10_error (x := x) (pc := 38) (a1 := (-1000000001 : Int32)) C gX10_odds_X10_error (by omega)  (Nat.le_of_ble_eq_true rfl) dX10_odds_38 (fun r18 s17 => ?_)
      refine r_i2l (pc := 41) C dX10_odds_41 ?_
      exact r_lret (pc := 42) C dX10_odds_42
    · refine r_ildn (pc := 26) C dX10_odds_26 2 rfl ?_
      refine r_iconst (pc := 27) (v := (0 : Int32)) C dX10_odds_27 ic_0 ?_
      refine r_iconst (pc := 28) (v := (1 : Int32)) C dX10_odds_28 ic_1 ?_
      refine kS_X10_in (x := x) (pc := 29) (a0 := a2) (a1 := (0 : Int32)) (a2 := (1 : Int32)) C gX10_odds_X10_in (by omega)  (Nat.le_of_ble_eq_true rfl) dX10_odds_29 (fun r20 s19 => ?_)
      refine r_ifne (pc := 32) (tgt := 43) C dX10_odds_32 (by decide) ?_ ?_
      · refine r_lconst (pc := 43) (v := (1 : Int64)) C dX10_odds_43 (by decide) ?_
        refine r_lstn (pc := 44) (lv' := [(0, _), (1, _), (2, _), (3, _)]) C dX10_odds_44 (by decide) [1, 2, 3, 0] rfl ?_
        refine r_lconst (pc := 45) (v := (1 : Int64)) C dX10_odds_45 (by decide) ?_
        refine r_lst (pc := 46) (lv' := [(0, _), (1, _), (2, _), (3, _), (5, _)]) C dX10_odds_46 (by decide) [1, 2, 3, 4, 0] rfl ?_
        refine r_iconst (pc := 48) (v := (0 : Int32)) C dX10_odds_48 ic_0 ?_
        refine r_ist (pc := 49) (lv' := [(0, _), (1, _), (2, _), (3, _), (5, _), (7, _)]) C dX10_odds_49 (by decide) [1, 2, 3, 4, 5, 0] rfl ?_
        exact v_X10_odds_51 (x := x) C fuN a1 a2 (1 : Int64) (1 : Int64) (0 : Int32) s19
      · refine r_aldn (pc := 35) C dX10_odds_35 0 rfl ?_
        refine r_ldc (pc := 36) (v := (-1000000001 : Int32)) C dX10_odds_36 wd_X10_odds_2 ?_
        refine k_X10_error (x := x) (pc := 38) (a1 := (-1000000001 : Int32)) C gX10_odds_X10_error (by omega)  (Nat.le_of_ble_eq_true rfl) dX10_odds_38 (fun r22 s21 => ?_)
        refine r_i2l (pc := 41) C dX10_odds_41 ?_
        exact r_lret (pc := 42) C dX10_odds_42
set_option maxHeartbeats 4000000 in
set_option maxRecDepth 100000 in
theorem m_X10_of (l : Launch) (x : oXp) (hI : oI (oM x)) (a1 : Int32) (σ : Sg) : oMI l yX10_of wsX10_of 5 (oM x) [.ref (xa x 0), .int a1] σ (f_X10_of  a1 σ) := by
  refine oMI_of (nL := 2) (cc := cX10_of) hI (by decide +kernel) rfl (Nat.le_of_ble_eq_true rfl) ?_
  intro κ C
  have C : oC κ (oM x) 2 cX10_of RX10 wsX10_of 5 (some .int) := C
  unfold f_X10_of
  show oV κ (oM x) 2 (oQi κ (oM x)) σ 0 [(0, .ref (xa x 0)), (1, .int a1)] [] _
  refine r_ildn (pc := 0) C dX10_of_0 1 rfl ?_
  refine r_iconst (pc := 1) (v := (0 : Int32)) C dX10_of_1 ic_0 ?_
  refine r_iconst (pc := 2) (v := (5 : Int32)) C dX10_of_2 ic_5 ?_
  refine kS_X10_in (x := x) (pc := 3) (a0 := a1) (a1 := (0 : Int32)) (a2 := (5 : Int32)) C gX10_of_X10_in (by omega)  (Nat.le_of_ble_eq_true rfl) dX10_of_3 (fun r2 s1 => ?_)
  refine r_ifeq (pc := 6) (tgt := 20) C dX10_of_6 (by decide) ?_ ?_
  · refine r_aldn (pc := 20) C dX10_of_20 0 rfl ?_
    refine r_ldc (pc := 21) (v := (-1000000001 : Int32)) C dX10_of_21 wd_X10_of_1 ?_
    refine k_X10_error (x := x) (pc := 23) (a1 := (-1000000001 : Int32)) C gX10_of_X10_error (by omega)  (Nat.le_of_ble_eq_true rfl) dX10_of_23 (fun r4 s3 => ?_)
    exact r_iret (pc := 26) C dX10_of_26
  · refine r_aldn (pc := 9) C dX10_of_9 0 rfl ?_
    refine r_ildn (pc := 10) C dX10_of_10 1 rfl ?_
    refine k_X10_takenBy (x := x) (pc := 11) (a1 := a1) C gX10_of_X10_takenBy (by omega)  (Nat.le_of_ble_eq_true rfl) dX10_of_11 (fun r6 s5 => ?_)
    refine kS_X10_bits (x := x) (pc := 14) (a0 := r6) C gX10_of_X10_bits (by omega)  (Nat.le_of_ble_eq_true rfl) dX10_of_14 (fun r8 s7 => ?_)
    refine r_goto (pc := 17) (tgt := 26) C dX10_of_17 (by decide) ?_
    exact r_iret (pc := 26) C dX10_of_26
set_option maxHeartbeats 4000000 in
set_option maxRecDepth 100000 in
theorem v_X10_partsFrom_37_b {κ : oK} {x : oXp} (d : Nat) (g_X10_partsFrom : Int32 → Int32 → Sg → Option (Int32 × Sg)) (hg_X10_partsFrom : ∀ (l : Launch) (a1 : Int32) (a2 : Int32) (σ : Sg), oMI l yX10_partsFrom wsX10_partsFrom (2 + d) (oM x) [.ref (xa x 0), .int a1, .int a2] σ (g_X10_partsFrom a1 a2 σ)) (C : oC κ (oM x) 7 cX10_partsFrom RX10 wsX10_partsFrom (2 + (d + 1)) (some .int))  (rec37 : Int32 → Int32 → Int32 → Int32 → Int32 → Sg → Option (Int32 × Sg)) (hrec37 : ∀ (a1 : Int32) (a2 : Int32) (a3 : Int32) (a4 : Int32) (a5 : Int32) (σ : Sg), oV κ (oM x) 7 (oQi κ (oM x)) σ 37 [(0, .ref (xa x 0)), (1, .int a1), (2, .int a2), (3, .int a3), (4, .int a4), (5, .int a5)] [] (rec37 a1 a2 a3 a4 a5 σ)) (a1 : Int32) (a2 : Int32) (a3 : Int32) (a4 : Int32) (a5 : Int32) (σ : Sg) : oV κ (oM x) 7 (oQi κ (oM x)) σ 37 [(0, .ref (xa x 0)), (1, .int a1), (2, .int a2), (3, .int a3), (4, .int a4), (5, .int a5)] [] (f_X10_partsFrom_37_b g_X10_partsFrom  rec37 a1 a2 a3 a4 a5 σ) := by
  unfold f_X10_partsFrom_37_b
  refine r_ild (pc := 37) C dX10_partsFrom_37 5 rfl ?_
  refine r_bipush (pc := 39) (v := (12 : Int32)) C dX10_partsFrom_39 bp_12 ?_
  refine r_icge (pc := 41) (tgt := 111) C dX10_partsFrom_41 (by decide) ?_ ?_
  · refine r_ild (pc := 111) C dX10_partsFrom_111 4 rfl ?_
    exact r_iret (pc := 113) C dX10_partsFrom_113
  · refine r_aldn (pc := 44) C dX10_partsFrom_44 0 rfl ?_
    refine gf_X10_17_0 (pc := 45) C hi_X10_partsFrom_X10 wd_X10_partsFrom_3 dX10_partsFrom_45 ?_
    refine r_ild (pc := 48) C dX10_partsFrom_48 5 rfl ?_
    refine iald_oM_12 (pc := 50) C dX10_partsFrom_50 ?_
    refine r_ildn (pc := 51) C dX10_partsFrom_51 3 rfl ?_
    refine r_iclt (pc := 52) (tgt := 105) C dX10_partsFrom_52 (by decide) ?_ ?_
    · refine r_iinc (pc := 105) (v := (1 : Int32)) (lv1 := fun y => [(0, _), (1, _), (2, _), (3, _), (4, _), (5, .int y)]) C dX10_partsFrom_105 ic_1 5 rfl (by decide) [1, 2, 3, 4, 5, 0] (fun _ => rfl) (fun v1 => ?_)
      refine r_goto (pc := 108) (tgt := 37) C dX10_partsFrom_108 (by decide) ?_
      exact hrec37 a1 a2 a3 a4 v1 σ
    · refine r_aldn (pc := 55) C dX10_partsFrom_55 0 rfl ?_
      refine gf_X10_17_0 (pc := 56) C hi_X10_partsFrom_X10 wd_X10_partsFrom_3 dX10_partsFrom_56 ?_
      refine r_ild (pc := 59) C dX10_partsFrom_59 5 rfl ?_
      refine r_dup2 (pc := 61) C dX10_partsFrom_61 rfl rfl ?_
      refine iald_oM_12 (pc := 62) C dX10_partsFrom_62 ?_
      refine r_ildn (pc := 63) C dX10_partsFrom_63 3 rfl ?_
      refine r_isub (pc := 64) C dX10_partsFrom_64 ?_
      refine iast_oM_12 (pc := 65) C dX10_partsFrom_65 (fun s2 => ?_)
      refine r_iconst (pc := 66) (v := (1 : Int32)) C dX10_partsFrom_66 ic_1 ?_
      refine r_aldn (pc := 67) C dX10_partsFrom_67 0 rfl ?_
      refine r_ildn (pc := 68) C dX10_partsFrom_68 1 rfl ?_
      refine r_ildn (pc := 69) C dX10_partsFrom_69 2 rfl ?_
      refine r_iconst (pc := 70) (v := (1 : Int32)) C dX10_partsFrom_70 ic_1 ?_
      refine r_iadd (pc := 71) C dX10_partsFrom_71 ?_
      refine r_cVi (pc := 72) (As := [.int a1, .int (a2 + (1 : Int32))]) (na := 2) (j := 0) (ci := 10) C (fun l => hg_X10_partsFrom l a1 (a2 + (1 : Int32)) s2) gX10_partsFrom_X10_partsFrom rfl (by decide +kernel) rfl (by decide) (by omega) (by show 0 < 14; decide) rfl rfl rfl rfl (Nat.le_of_ble_eq_true rfl) dX10_partsFrom_72 (fun r4 s3 => ?_)
      refine r_iadd (pc := 75) C dX10_partsFrom_75 ?_
      refine r_nm (fun v5 => ?_)
      refine r_ist (pc := 76) (lv' := [(0, _), (1, _), (2, _), (3, _), (4, _), (5, _), (6, _)]) C dX10_partsFrom_76 (by decide) [1, 2, 3, 4, 5, 6, 0] rfl ?_
      refine r_aldn (pc := 78) C dX10_partsFrom_78 0 rfl ?_
      refine gf_X10_17_0 (pc := 79) C hi_X10_partsFrom_X10 wd_X10_partsFrom_3 dX10_partsFrom_79 ?_
      refine r_ild (pc := 82) C dX10_partsFrom_82 5 rfl ?_
      refine r_dup2 (pc := 84) C dX10_partsFrom_84 rfl rfl ?_
      refine iald_oM_12 (pc := 85) C dX10_partsFrom_85 ?_
      refine r_ildn (pc := 86) C dX10_partsFrom_86 3 rfl ?_
      refine r_iadd (pc := 87) C dX10_partsFrom_87 ?_
      refine iast_oM_12 (pc := 88) C dX10_partsFrom_88 (fun s6 => ?_)
      refine r_ild (pc := 89) C dX10_partsFrom_89 6 rfl ?_
      refine r_ild (pc := 91) C dX10_partsFrom_91 4 rfl ?_
      refine r_icle (pc := 93) (tgt := 101) C dX10_partsFrom_93 (by decide) ?_ ?_
      · refine r_ild (pc := 101) C dX10_partsFrom_101 4 rfl ?_
        refine r_ist (pc := 103) (lv' := [(0, _), (1, _), (2, _), (3, _), (4, _), (5, _)]) C dX10_partsFrom_103 (by decide) [1, 2, 3, 4, 0, 5] rfl ?_
        refine r_iinc (pc := 105) (v := (1 : Int32)) (lv1 := fun y => [(0, _), (1, _), (2, _), (3, _), (4, _), (5, .int y)]) C dX10_partsFrom_105 ic_1 5 rfl (by decide) [1, 2, 3, 4, 5, 0] (fun _ => rfl) (fun v7 => ?_)
        refine r_goto (pc := 108) (tgt := 37) C dX10_partsFrom_108 (by decide) ?_
        exact hrec37 a1 a2 a3 a4 v7 s6
      · refine r_ild (pc := 96) C dX10_partsFrom_96 6 rfl ?_
        refine r_goto (pc := 98) (tgt := 103) C dX10_partsFrom_98 (by decide) ?_
        refine r_ist (pc := 103) (lv' := [(0, _), (1, _), (2, _), (3, _), (4, _), (5, _)]) C dX10_partsFrom_103 (by decide) [1, 2, 3, 4, 0, 5] rfl ?_
        refine r_iinc (pc := 105) (v := (1 : Int32)) (lv1 := fun y => [(0, _), (1, _), (2, _), (3, _), (4, _), (5, .int y)]) C dX10_partsFrom_105 ic_1 5 rfl (by decide) [1, 2, 3, 4, 5, 0] (fun _ => rfl) (fun v8 => ?_)
        refine r_goto (pc := 108) (tgt := 37) C dX10_partsFrom_108 (by decide) ?_
        exact hrec37 a1 a2 a3 v5 v8 s6
theorem v_X10_partsFrom_37 {κ : oK} {x : oXp} (d : Nat) (g_X10_partsFrom : Int32 → Int32 → Sg → Option (Int32 × Sg)) (hg_X10_partsFrom : ∀ (l : Launch) (a1 : Int32) (a2 : Int32) (σ : Sg), oMI l yX10_partsFrom wsX10_partsFrom (2 + d) (oM x) [.ref (xa x 0), .int a1, .int a2] σ (g_X10_partsFrom a1 a2 σ)) (C : oC κ (oM x) 7 cX10_partsFrom RX10 wsX10_partsFrom (2 + (d + 1)) (some .int))  : ∀ (n : Nat) (a1 : Int32) (a2 : Int32) (a3 : Int32) (a4 : Int32) (a5 : Int32) (σ : Sg), oV κ (oM x) 7 (oQi κ (oM x)) σ 37 [(0, .ref (xa x 0)), (1, .int a1), (2, .int a2), (3, .int a3), (4, .int a4), (5, .int a5)] [] (f_X10_partsFrom_37 g_X10_partsFrom  n a1 a2 a3 a4 a5 σ) := by
  intro n
  induction n with
  | zero => intros; exact r_none
  | succ n ih => exact v_X10_partsFrom_37_b d g_X10_partsFrom hg_X10_partsFrom C  _ ih
set_option maxHeartbeats 4000000 in
set_option maxRecDepth 100000 in
theorem m_X10_partsFrom (l : Launch) (x : oXp) (hI : oI (oM x)) (d : Nat) (g_X10_partsFrom : Int32 → Int32 → Sg → Option (Int32 × Sg)) (hg_X10_partsFrom : ∀ (l : Launch) (a1 : Int32) (a2 : Int32) (σ : Sg), oMI l yX10_partsFrom wsX10_partsFrom (2 + d) (oM x) [.ref (xa x 0), .int a1, .int a2] σ (g_X10_partsFrom a1 a2 σ)) (a1 : Int32) (a2 : Int32) (σ : Sg) : oMI l yX10_partsFrom wsX10_partsFrom (2 + (d + 1)) (oM x) [.ref (xa x 0), .int a1, .int a2] σ (f_X10_partsFrom_e g_X10_partsFrom a1 a2 σ) := by
  refine oMI_of (nL := 7) (cc := cX10_partsFrom) hI (by decide +kernel) rfl (Nat.le_of_ble_eq_true rfl) ?_
  intro κ C
  have C : oC κ (oM x) 7 cX10_partsFrom RX10 wsX10_partsFrom (2 + (d + 1)) (some .int) := C
  unfold f_X10_partsFrom_e
  show oV κ (oM x) 7 (oQi κ (oM x)) σ 0 [(0, .ref (xa x 0)), (1, .int a1), (2, .int a2)] [] _
  refine r_ildn (pc := 0) C dX10_partsFrom_0 2 rfl ?_
  refine r_aldn (pc := 1) C dX10_partsFrom_1 0 rfl ?_
  refine gf_X10_6_0 (pc := 2) C hi_X10_partsFrom_X10 wd_X10_partsFrom_1 dX10_partsFrom_2 ?_
  refine r_ildn (pc := 5) C dX10_partsFrom_5 1 rfl ?_
  refine iald_oM_6 (pc := 6) C dX10_partsFrom_6 ?_
  refine r_icne (pc := 7) (tgt := 12) C dX10_partsFrom_7 (by decide) ?_ ?_
  · refine r_aldn (pc := 12) C dX10_partsFrom_12 0 rfl ?_
    refine gf_X10_7_0 (pc := 13) C hi_X10_partsFrom_X10 wd_X10_partsFrom_2 dX10_partsFrom_13 ?_
    refine r_bipush (pc := 16) (v := (24 : Int32)) C dX10_partsFrom_16 bp_24 ?_
    refine r_ildn (pc := 18) C dX10_partsFrom_18 1 rfl ?_
    refine r_imul (pc := 19) C dX10_partsFrom_19 ?_
    refine r_ildn (pc := 20) C dX10_partsFrom_20 2 rfl ?_
    refine r_iadd (pc := 21) C dX10_partsFrom_21 ?_
    refine iald_oM_7 (pc := 22) C dX10_partsFrom_22 ?_
    refine r_nm (fun v9 => ?_)
    refine r_istn (pc := 23) (lv' := [(0, _), (1, _), (2, _), (3, _)]) C dX10_partsFrom_23 (by decide) [1, 2, 3, 0] rfl ?_
    refine r_aldn (pc := 24) C dX10_partsFrom_24 0 rfl ?_
    refine r_ildn (pc := 25) C dX10_partsFrom_25 1 rfl ?_
    refine r_ildn (pc := 26) C dX10_partsFrom_26 2 rfl ?_
    refine r_iconst (pc := 27) (v := (1 : Int32)) C dX10_partsFrom_27 ic_1 ?_
    refine r_iadd (pc := 28) C dX10_partsFrom_28 ?_
    refine r_cVi (pc := 29) (As := [.int a1, .int (a2 + (1 : Int32))]) (na := 2) (j := 0) (ci := 10) C (fun l => hg_X10_partsFrom l a1 (a2 + (1 : Int32)) σ) gX10_partsFrom_X10_partsFrom rfl (by decide +kernel) rfl (by decide) (by omega) (by show 0 < 14; decide) rfl rfl rfl rfl (Nat.le_of_ble_eq_true rfl) dX10_partsFrom_29 (fun r11 s10 => ?_)
    refine r_ist (pc := 32) (lv' := [(0, _), (1, _), (2, _), (3, _), (4, _)]) C dX10_partsFrom_32 (by decide) [1, 2, 3, 4, 0] rfl ?_
    refine r_iconst (pc := 34) (v := (0 : Int32)) C dX10_partsFrom_34 ic_0 ?_
    refine r_ist (pc := 35) (lv' := [(0, _), (1, _), (2, _), (3, _), (4, _), (5, _)]) C dX10_partsFrom_35 (by decide) [1, 2, 3, 4, 5, 0] rfl ?_
    exact v_X10_partsFrom_37 (x := x) d g_X10_partsFrom hg_X10_partsFrom C fuN a1 a2 v9 r11 (0 : Int32) s10
  · refine r_iconst (pc := 10) (v := (0 : Int32)) C dX10_partsFrom_10 ic_0 ?_
    exact r_iret (pc := 11) C dX10_partsFrom_11
theorem mg_X10_partsFrom (x : oXp) (hI : oI (oM x)) : ∀ d : Nat, (∀ (l : Launch) (a1 : Int32) (a2 : Int32) (σ : Sg), oMI l yX10_partsFrom wsX10_partsFrom (2 + d) (oM x) [.ref (xa x 0), .int a1, .int a2] σ ((G_X10_partsFrom d) a1 a2 σ)) := by
  intro d
  induction d with
  | zero => exact (by intros; intro _ _ h; cases h)
  | succ d ih => exact (fun l => m_X10_partsFrom l x hI d _ ih)
theorem mm_X10_partsFrom (l : Launch) (x : oXp) (hI : oI (oM x)) (a1 : Int32) (a2 : Int32) (σ : Sg) : oMI l yX10_partsFrom wsX10_partsFrom 66 (oM x) [.ref (xa x 0), .int a1, .int a2] σ (f_X10_partsFrom a1 a2 σ) := (mg_X10_partsFrom x hI 64) l a1 a2 σ
theorem k_X10_partsFrom {κ : oK} {nL : Nat} {cc : ByteArray} {own : String} {Ts : List Cond} {n : Nat} {ret : Option FieldType} {α : Type} {Q : α → Sg → State → Prop} {σ : Sg} {pc : Nat} {lv : List (Nat × Value)} {st : List Value} {x : oXp} {idx : Nat} {a1 : Int32} {a2 : Int32} {K : Int32 → Sg → Option (α × Sg)} (C : oC κ (oM x) nL cc own Ts n ret) (hG : GoodIn Ts (wsV own idx RX10 yX10_partsFrom wsX10_partsFrom)) (hn : 66 + 1 ≤ n) (hst : (st.map fun v => v.category).sum ≤ 8) (hd : decode cc pc = .ok (.invokevirtual idx, 3)) (kk : ∀ (r1 : Int32) (σ1 : Sg), oV κ (oM x) nL Q σ1 (pc + 3) lv (.int r1 :: st) (K r1 σ1)) : oV κ (oM x) nL Q σ pc lv (.int a2 :: .int a1 :: .ref (xa x 0) :: st) (bnd (f_X10_partsFrom a1 a2 σ) K) := by
  have hI : oI (oM x) := oC_I C
  exact r_cVi (As := [.int a1, .int a2]) (na := 2) (j := 0) (ci := 10) C (fun l => mm_X10_partsFrom l x hI a1 a2 σ) hG rfl (by decide +kernel) rfl (by decide) hn (by show 0 < 14; decide) rfl rfl rfl rfl hst hd kk
set_option maxHeartbeats 4000000 in
set_option maxRecDepth 100000 in
theorem v_X10_parts_143 {κ : oK} {x : oXp} (C : oC κ (oM x) 7 cX10_parts RX10 wsX10_parts 67 (some .int)) (rec91 : Int32 → Int32 → Int32 → Int32 → Sg → Option (Int32 × Sg)) (hrec91 : ∀ (a1 : Int32) (a3 : Int32) (a4 : Int32) (a5 : Int32) (σ : Sg), oV κ (oM x) 7 (oQi κ (oM x)) σ 91 [(0, .ref (xa x 0)), (1, .int a1), (3, .int a3), (4, .int a4), (5, .int a5)] [] (rec91 a1 a3 a4 a5 σ)) (a1 : Int32) (a3 : Int32) (a5 : Int32) (a6 : Int32) (t0 : Int32) (σ : Sg) : oV κ (oM x) 7 (oQi κ (oM x)) σ 143 [(0, .ref (xa x 0)), (1, .int a1), (3, .int a3), (5, .int a5), (6, .int a6)] [.int t0] (f_X10_parts_143  rec91 a1 a3 a5 a6 t0 σ) := by
  unfold f_X10_parts_143
  refine r_ist (pc := 143) (lv' := [(0, _), (1, _), (3, _), (4, _), (5, _), (6, _)]) C dX10_parts_143 (by decide) [1, 2, 3, 0, 4, 5] rfl ?_
  refine r_ild (pc := 145) C dX10_parts_145 5 rfl ?_
  refine r_ifeq (pc := 147) (tgt := 161) C dX10_parts_147 (by decide) ?_ ?_
  · refine r_iinc (pc := 161) (v := (1 : Int32)) (lv1 := fun y => [(0, _), (1, _), (3, _), (4, _), (5, .int y)]) C dX10_parts_161 ic_1 4 rfl (by decide) [1, 2, 3, 4, 0] (fun _ => rfl) (fun v1 => ?_)
    refine r_goto (pc := 164) (tgt := 91) C dX10_parts_164 (by decide) ?_
    exact hrec91 a1 a3 t0 v1 σ
  · refine r_aldn (pc := 150) C dX10_parts_150 0 rfl ?_
    refine gf_X10_17_0 (pc := 151) C hi_X10_parts_X10 wd_X10_parts_5 dX10_parts_151 ?_
    refine r_ild (pc := 154) C dX10_parts_154 3 rfl ?_
    refine r_dup2 (pc := 156) C dX10_parts_156 rfl rfl ?_
    refine iald_oM_12 (pc := 157) C dX10_parts_157 ?_
    refine r_iconst (pc := 158) (v := (1 : Int32)) C dX10_parts_158 ic_1 ?_
    refine r_iadd (pc := 159) C dX10_parts_159 ?_
    refine iast_oM_12 (pc := 160) C dX10_parts_160 (fun s2 => ?_)
    refine r_iinc (pc := 161) (v := (1 : Int32)) (lv1 := fun y => [(0, _), (1, _), (3, _), (4, _), (5, .int y)]) C dX10_parts_161 ic_1 4 rfl (by decide) [1, 2, 3, 4, 0] (fun _ => rfl) (fun v3 => ?_)
    refine r_goto (pc := 164) (tgt := 91) C dX10_parts_164 (by decide) ?_
    exact hrec91 a1 a3 t0 v3 s2
set_option maxHeartbeats 4000000 in
set_option maxRecDepth 100000 in
theorem v_X10_parts_91_b {κ : oK} {x : oXp} (C : oC κ (oM x) 7 cX10_parts RX10 wsX10_parts 67 (some .int))  (rec91 : Int32 → Int32 → Int32 → Int32 → Sg → Option (Int32 × Sg)) (hrec91 : ∀ (a1 : Int32) (a3 : Int32) (a4 : Int32) (a5 : Int32) (σ : Sg), oV κ (oM x) 7 (oQi κ (oM x)) σ 91 [(0, .ref (xa x 0)), (1, .int a1), (3, .int a3), (4, .int a4), (5, .int a5)] [] (rec91 a1 a3 a4 a5 σ)) (a1 : Int32) (a3 : Int32) (a4 : Int32) (a5 : Int32) (σ : Sg) : oV κ (oM x) 7 (oQi κ (oM x)) σ 91 [(0, .ref (xa x 0)), (1, .int a1), (3, .int a3), (4, .int a4), (5, .int a5)] [] (f_X10_parts_91_b   rec91 a1 a3 a4 a5 σ) := by
  unfold f_X10_parts_91_b
  refine r_ild (pc := 91) C dX10_parts_91 4 rfl ?_
  refine r_bipush (pc := 93) (v := (12 : Int32)) C dX10_parts_93 bp_12 ?_
  refine r_icge (pc := 95) (tgt := 167) C dX10_parts_95 (by decide) ?_ ?_
  · refine r_aldn (pc := 167) C dX10_parts_167 0 rfl ?_
    refine r_ildn (pc := 168) C dX10_parts_168 1 rfl ?_
    refine r_iconst (pc := 169) (v := (0 : Int32)) C dX10_parts_169 ic_0 ?_
    refine k_X10_partsFrom (x := x) (pc := 170) (a1 := a1) (a2 := (0 : Int32)) C gX10_parts_X10_partsFrom (by omega)  (Nat.le_of_ble_eq_true rfl) dX10_parts_170 (fun r5 s4 => ?_)
    exact r_iret (pc := 173) C dX10_parts_173
  · refine r_aldn (pc := 98) C dX10_parts_98 0 rfl ?_
    refine gf_X10_17_0 (pc := 99) C hi_X10_parts_X10 wd_X10_parts_5 dX10_parts_99 ?_
    refine r_ild (pc := 102) C dX10_parts_102 4 rfl ?_
    refine r_iconst (pc := 104) (v := (0 : Int32)) C dX10_parts_104 ic_0 ?_
    refine iast_oM_12 (pc := 105) C dX10_parts_105 (fun s6 => ?_)
    refine r_ildn (pc := 106) C dX10_parts_106 2 rfl ?_
    refine r_ild (pc := 107) C dX10_parts_107 4 rfl ?_
    refine r_ishr (pc := 109) C dX10_parts_109 ?_
    refine r_iconst (pc := 110) (v := (1 : Int32)) C dX10_parts_110 ic_1 ?_
    refine r_iand (pc := 111) C dX10_parts_111 ?_
    refine r_ifne (pc := 112) (tgt := 119) C dX10_parts_112 (by decide) ?_ ?_
    · refine r_iconst (pc := 119) (v := (0 : Int32)) C dX10_parts_119 ic_0 ?_
      refine r_ist (pc := 120) (lv' := [(0, _), (1, _), (3, _), (4, _), (5, _), (6, _)]) C dX10_parts_120 (by decide) [1, 2, 3, 4, 5, 0] rfl ?_
      refine r_ild (pc := 122) C dX10_parts_122 5 rfl ?_
      refine r_ifne (pc := 124) (tgt := 131) C dX10_parts_124 (by decide) ?_ ?_
      · refine r_ild (pc := 131) C dX10_parts_131 3 rfl ?_
        refine r_ifge (pc := 133) (tgt := 141) C dX10_parts_133 (by decide) ?_ ?_
        · refine r_ild (pc := 141) C dX10_parts_141 3 rfl ?_
          refine r_sub (lv' := [(0, _), (1, _), (3, _), (5, _), (6, _)]) [0, 1, 2, 4, 5] rfl ?_
          exact v_X10_parts_143 (x := x) C _ hrec91 a1 a3 a5 (0 : Int32) a4 s6
        · refine r_ild (pc := 136) C dX10_parts_136 4 rfl ?_
          refine r_goto (pc := 138) (tgt := 143) C dX10_parts_138 (by decide) ?_
          refine r_sub (lv' := [(0, _), (1, _), (3, _), (5, _), (6, _)]) [0, 1, 2, 4, 5] rfl ?_
          exact v_X10_parts_143 (x := x) C _ hrec91 a1 a3 a5 (0 : Int32) a5 s6
      · refine r_iconst (pc := 127) (v := (-1 : Int32)) C dX10_parts_127 ic_m1 ?_
        refine r_goto (pc := 128) (tgt := 143) C dX10_parts_128 (by decide) ?_
        refine r_sub (lv' := [(0, _), (1, _), (3, _), (5, _), (6, _)]) [0, 1, 2, 4, 5] rfl ?_
        exact v_X10_parts_143 (x := x) C _ hrec91 a1 a3 a5 (0 : Int32) (-1 : Int32) s6
    · refine r_iconst (pc := 115) (v := (1 : Int32)) C dX10_parts_115 ic_1 ?_
      refine r_goto (pc := 116) (tgt := 120) C dX10_parts_116 (by decide) ?_
      refine r_ist (pc := 120) (lv' := [(0, _), (1, _), (3, _), (4, _), (5, _), (6, _)]) C dX10_parts_120 (by decide) [1, 2, 3, 4, 5, 0] rfl ?_
      refine r_ild (pc := 122) C dX10_parts_122 5 rfl ?_
      refine r_ifne (pc := 124) (tgt := 131) C dX10_parts_124 (by decide) ?_ ?_
      · refine r_ild (pc := 131) C dX10_parts_131 3 rfl ?_
        refine r_ifge (pc := 133) (tgt := 141) C dX10_parts_133 (by decide) ?_ ?_
        · refine r_ild (pc := 141) C dX10_parts_141 3 rfl ?_
          refine r_sub (lv' := [(0, _), (1, _), (3, _), (5, _), (6, _)]) [0, 1, 2, 4, 5] rfl ?_
          exact v_X10_parts_143 (x := x) C _ hrec91 a1 a3 a5 (1 : Int32) a4 s6
        · refine r_ild (pc := 136) C dX10_parts_136 4 rfl ?_
          refine r_goto (pc := 138) (tgt := 143) C dX10_parts_138 (by decide) ?_
          refine r_sub (lv' := [(0, _), (1, _), (3, _), (5, _), (6, _)]) [0, 1, 2, 4, 5] rfl ?_
          exact v_X10_parts_143 (x := x) C _ hrec91 a1 a3 a5 (1 : Int32) a5 s6
      · refine r_iconst (pc := 127) (v := (-1 : Int32)) C dX10_parts_127 ic_m1 ?_
        refine r_goto (pc := 128) (tgt := 143) C dX10_parts_128 (by decide) ?_
        refine r_sub (lv' := [(0, _), (1, _), (3, _), (5, _), (6, _)]) [0, 1, 2, 4, 5] rfl ?_
        exact v_X10_parts_143 (x := x) C _ hrec91 a1 a3 a5 (1 : Int32) (-1 : Int32) s6
theorem v_X10_parts_91 {κ : oK} {x : oXp} (C : oC κ (oM x) 7 cX10_parts RX10 wsX10_parts 67 (some .int))  : ∀ (n : Nat) (a1 : Int32) (a3 : Int32) (a4 : Int32) (a5 : Int32) (σ : Sg), oV κ (oM x) 7 (oQi κ (oM x)) σ 91 [(0, .ref (xa x 0)), (1, .int a1), (3, .int a3), (4, .int a4), (5, .int a5)] [] (f_X10_parts_91   n a1 a3 a4 a5 σ) := by
  intro n
  induction n with
  | zero => intros; exact r_none
  | succ n ih => exact v_X10_parts_91_b C  _ ih
set_option maxHeartbeats 4000000 in
set_option maxRecDepth 100000 in
theorem v_X10_parts_36_b {κ : oK} {x : oXp} (C : oC κ (oM x) 7 cX10_parts RX10 wsX10_parts 67 (some .int))  (rec36 : Int32 → Int32 → Sg → Option (Int32 × Sg)) (hrec36 : ∀ (a1 : Int32) (a3 : Int32) (σ : Sg), oV κ (oM x) 7 (oQi κ (oM x)) σ 36 [(0, .ref (xa x 0)), (1, .int a1), (3, .int a3)] [] (rec36 a1 a3 σ)) (a1 : Int32) (a3 : Int32) (σ : Sg) : oV κ (oM x) 7 (oQi κ (oM x)) σ 36 [(0, .ref (xa x 0)), (1, .int a1), (3, .int a3)] [] (f_X10_parts_36_b   rec36 a1 a3 σ) := by
  unfold f_X10_parts_36_b
  refine r_ildn (pc := 36) C dX10_parts_36 2 rfl ?_
  refine r_aldn (pc := 37) C dX10_parts_37 0 rfl ?_
  refine gf_X10_6_0 (pc := 38) C hi_X10_parts_X10 wd_X10_parts_1 dX10_parts_38 ?_
  refine r_ildn (pc := 41) C dX10_parts_41 1 rfl ?_
  refine iald_oM_6 (pc := 42) C dX10_parts_42 ?_
  refine r_icge (pc := 43) (tgt := 79) C dX10_parts_43 (by decide) ?_ ?_
  · refine r_aldn (pc := 79) C dX10_parts_79 0 rfl ?_
    refine r_iconst (pc := 80) (v := (-1 : Int32)) C dX10_parts_80 ic_m1 ?_
    refine k_X10_takenBy (x := x) (pc := 81) (a1 := (-1 : Int32)) C gX10_parts_X10_takenBy (by omega)  (Nat.le_of_ble_eq_true rfl) dX10_parts_81 (fun r8 s7 => ?_)
    refine r_istn (pc := 84) (lv' := [(0, _), (1, _), (3, _)]) C dX10_parts_84 (by decide) [1, 2, 0] rfl ?_
    refine r_iconst (pc := 85) (v := (-1 : Int32)) C dX10_parts_85 ic_m1 ?_
    refine r_ist (pc := 86) (lv' := [(0, _), (1, _), (3, _), (4, _)]) C dX10_parts_86 (by decide) [1, 2, 3, 0] rfl ?_
    refine r_iconst (pc := 88) (v := (0 : Int32)) C dX10_parts_88 ic_0 ?_
    refine r_ist (pc := 89) (lv' := [(0, _), (1, _), (3, _), (4, _), (5, _)]) C dX10_parts_89 (by decide) [1, 2, 3, 4, 0] rfl ?_
    exact v_X10_parts_91 (x := x) C fuN a1 r8 (-1 : Int32) (0 : Int32) s7
  · refine r_aldn (pc := 46) C dX10_parts_46 0 rfl ?_
    refine gf_X10_7_0 (pc := 47) C hi_X10_parts_X10 wd_X10_parts_3 dX10_parts_47 ?_
    refine r_bipush (pc := 50) (v := (24 : Int32)) C dX10_parts_50 bp_24 ?_
    refine r_ildn (pc := 52) C dX10_parts_52 1 rfl ?_
    refine r_imul (pc := 53) C dX10_parts_53 ?_
    refine r_ildn (pc := 54) C dX10_parts_54 2 rfl ?_
    refine r_iadd (pc := 55) C dX10_parts_55 ?_
    refine iald_oM_7 (pc := 56) C dX10_parts_56 ?_
    refine r_iconst (pc := 57) (v := (1 : Int32)) C dX10_parts_57 ic_1 ?_
    refine r_bipush (pc := 58) (v := (12 : Int32)) C dX10_parts_58 bp_12 ?_
    refine kS_X10_in (x := x) (pc := 60) (a0 := (rd (σ 7) (((24 : Int32) * a1) + a3))) (a1 := (1 : Int32)) (a2 := (12 : Int32)) C gX10_parts_X10_in (by omega)  (Nat.le_of_ble_eq_true rfl) dX10_parts_60 (fun r10 s9 => ?_)
    refine r_ifne (pc := 63) (tgt := 73) C dX10_parts_63 (by decide) ?_ ?_
    · refine r_iinc (pc := 73) (v := (1 : Int32)) (lv1 := fun y => [(0, _), (1, _), (3, .int y)]) C dX10_parts_73 ic_1 2 rfl (by decide) [1, 2, 0] (fun _ => rfl) (fun v11 => ?_)
      refine r_goto (pc := 76) (tgt := 36) C dX10_parts_76 (by decide) ?_
      exact hrec36 a1 v11 s9
    · refine r_aldn (pc := 66) C dX10_parts_66 0 rfl ?_
      refine r_ldc (pc := 67) (v := (-1000000003 : Int32)) C dX10_parts_67 wd_X10_parts_4 ?_
      refine k_X10_error (x := x) (pc := 69) (a1 := (-1000000003 : Int32)) C gX10_parts_X10_error (by omega)  (Nat.le_of_ble_eq_true rfl) dX10_parts_69 (fun r13 s12 => ?_)
      exact r_iret (pc := 72) C dX10_parts_72
theorem v_X10_parts_36 {κ : oK} {x : oXp} (C : oC κ (oM x) 7 cX10_parts RX10 wsX10_parts 67 (some .int))  : ∀ (n : Nat) (a1 : Int32) (a3 : Int32) (σ : Sg), oV κ (oM x) 7 (oQi κ (oM x)) σ 36 [(0, .ref (xa x 0)), (1, .int a1), (3, .int a3)] [] (f_X10_parts_36   n a1 a3 σ) := by
  intro n
  induction n with
  | zero => intros; exact r_none
  | succ n ih => exact v_X10_parts_36_b C  _ ih
set_option maxHeartbeats 4000000 in
set_option maxRecDepth 100000 in
theorem m_X10_parts (l : Launch) (x : oXp) (hI : oI (oM x)) (a1 : Int32) (σ : Sg) : oMI l yX10_parts wsX10_parts 67 (oM x) [.ref (xa x 0), .int a1] σ (f_X10_parts  a1 σ) := by
  refine oMI_of (nL := 7) (cc := cX10_parts) hI (by decide +kernel) rfl (Nat.le_of_ble_eq_true rfl) ?_
  intro κ C
  have C : oC κ (oM x) 7 cX10_parts RX10 wsX10_parts 67 (some .int) := C
  unfold f_X10_parts
  show oV κ (oM x) 7 (oQi κ (oM x)) σ 0 [(0, .ref (xa x 0)), (1, .int a1)] [] _
  refine r_aldn (pc := 0) C dX10_parts_0 0 rfl ?_
  refine r_ildn (pc := 1) C dX10_parts_1 1 rfl ?_
  refine k_X10_notThere (x := x) (pc := 2) (a1 := a1) C gX10_parts_X10_notThere (by omega)  (Nat.le_of_ble_eq_true rfl) dX10_parts_2 (fun r15 s14 => ?_)
  refine r_istn (pc := 5) (lv' := [(0, _), (1, _), (2, _)]) C dX10_parts_5 (by decide) [1, 2, 0] rfl ?_
  refine r_ildn (pc := 6) C dX10_parts_6 2 rfl ?_
  refine r_ifeq (pc := 7) (tgt := 16) C dX10_parts_7 (by decide) ?_ ?_
  · refine r_aldn (pc := 16) C dX10_parts_16 0 rfl ?_
    refine gf_X10_6_0 (pc := 17) C hi_X10_parts_X10 wd_X10_parts_1 dX10_parts_17 ?_
    refine r_ildn (pc := 20) C dX10_parts_20 1 rfl ?_
    refine iald_oM_6 (pc := 21) C dX10_parts_21 ?_
    refine r_bipush (pc := 22) (v := (6 : Int32)) C dX10_parts_22 bp_6 ?_
    refine r_icle (pc := 24) (tgt := 34) C dX10_parts_24 (by decide) ?_ ?_
    · refine r_iconst (pc := 34) (v := (0 : Int32)) C dX10_parts_34 ic_0 ?_
      refine r_istn (pc := 35) (lv' := [(0, _), (1, _), (3, _)]) C dX10_parts_35 (by decide) [1, 2, 0] rfl ?_
      exact v_X10_parts_36 (x := x) C fuN a1 (0 : Int32) s14
    · refine r_aldn (pc := 27) C dX10_parts_27 0 rfl ?_
      refine r_ldc (pc := 28) (v := (-1000000002 : Int32)) C dX10_parts_28 wd_X10_parts_2 ?_
      refine k_X10_error (x := x) (pc := 30) (a1 := (-1000000002 : Int32)) C gX10_parts_X10_error (by omega)  (Nat.le_of_ble_eq_true rfl) dX10_parts_30 (fun r17 s16 => ?_)
      exact r_iret (pc := 33) C dX10_parts_33
  · refine r_aldn (pc := 10) C dX10_parts_10 0 rfl ?_
    refine r_ildn (pc := 11) C dX10_parts_11 2 rfl ?_
    refine k_X10_error (x := x) (pc := 12) (a1 := r15) C gX10_parts_X10_error (by omega)  (Nat.le_of_ble_eq_true rfl) dX10_parts_12 (fun r19 s18 => ?_)
    exact r_iret (pc := 15) C dX10_parts_15
set_option maxHeartbeats 4000000 in
set_option maxRecDepth 100000 in
theorem m_X10_plainParts (l : Launch) (x : oXp) (hI : oI (oM x)) (a1 : Int32) (a2 : Int32) (σ : Sg) : oMI l yX10_plainParts wsX10_plainParts 4 (oM x) [.ref (xa x 0), .int a1, .int a2] σ (f_X10_plainParts  a1 a2 σ) := by
  refine oMI_of (nL := 4) (cc := cX10_plainParts) hI (by decide +kernel) rfl (Nat.le_of_ble_eq_true rfl) ?_
  intro κ C
  have C : oC κ (oM x) 4 cX10_plainParts RX10 wsX10_plainParts 4 (some .int) := C
  unfold f_X10_plainParts
  show oV κ (oM x) 4 (oQi κ (oM x)) σ 0 [(0, .ref (xa x 0)), (1, .int a1), (2, .int a2)] [] _
  refine r_aldn (pc := 0) C dX10_plainParts_0 0 rfl ?_
  refine r_bipush (pc := 1) (v := (13 : Int32)) C dX10_plainParts_1 bp_13 ?_
  refine k_X10_begins (x := x) (pc := 3) (a1 := (13 : Int32)) C gX10_plainParts_X10_begins (by omega)  (Nat.le_of_ble_eq_true rfl) dX10_plainParts_3 (fun _ s1 => ?_)
  refine r_aldn (pc := 6) C dX10_plainParts_6 0 rfl ?_
  refine r_ildn (pc := 7) C dX10_plainParts_7 1 rfl ?_
  refine r_iconst (pc := 8) (v := (1 : Int32)) C dX10_plainParts_8 ic_1 ?_
  refine k_X10_it (x := x) (pc := 9) (a1 := a1) (a2 := (1 : Int32)) C gX10_plainParts_X10_it (by omega)  (Nat.le_of_ble_eq_true rfl) dX10_plainParts_9 (fun r4 s3 => ?_)
  refine r_ildn (pc := 12) C dX10_plainParts_12 1 rfl ?_
  refine r_isub (pc := 13) C dX10_plainParts_13 ?_
  refine r_nm (fun v5 => ?_)
  refine r_istn (pc := 14) (lv' := [(0, _), (2, _), (3, _)]) C dX10_plainParts_14 (by decide) [1, 3, 0] rfl ?_
  refine r_aldn (pc := 15) C dX10_plainParts_15 0 rfl ?_
  refine r_ildn (pc := 16) C dX10_plainParts_16 2 rfl ?_
  refine r_ifne (pc := 17) (tgt := 24) C dX10_plainParts_17 (by decide) ?_ ?_
  · refine r_iconst (pc := 24) (v := (0 : Int32)) C dX10_plainParts_24 ic_0 ?_
    refine pf_X10_20_0 (pc := 25) C hi_X10_plainParts_X10 wd_X10_plainParts_1 (isb_nar (by decide)) dX10_plainParts_25 (fun s6 => ?_)
    refine r_aldn (pc := 28) C dX10_plainParts_28 0 rfl ?_
    refine gf_X10_20_0 (pc := 29) C hi_X10_plainParts_X10 wd_X10_plainParts_1 dX10_plainParts_29 ?_
    refine r_ifeq (pc := 32) (tgt := 39) C dX10_plainParts_32 (by decide) ?_ ?_
    · refine r_ildn (pc := 39) C dX10_plainParts_39 1 rfl ?_
      refine r_ildn (pc := 40) C dX10_plainParts_40 2 rfl ?_
      refine r_ckb (fun h7 => ?_)
      refine r_idiv (pc := 41) C dX10_plainParts_41 (nz_ne h7) ?_
      exact r_iret (pc := 42) C dX10_plainParts_42
    · refine r_iconst (pc := 35) (v := (0 : Int32)) C dX10_plainParts_35 ic_0 ?_
      refine r_goto (pc := 36) (tgt := 42) C dX10_plainParts_36 (by decide) ?_
      exact r_iret (pc := 42) C dX10_plainParts_42
  · refine r_iconst (pc := 20) (v := (1 : Int32)) C dX10_plainParts_20 ic_1 ?_
    refine r_goto (pc := 21) (tgt := 25) C dX10_plainParts_21 (by decide) ?_
    refine pf_X10_20_0 (pc := 25) C hi_X10_plainParts_X10 wd_X10_plainParts_1 (isb_nar (by decide)) dX10_plainParts_25 (fun s8 => ?_)
    refine r_aldn (pc := 28) C dX10_plainParts_28 0 rfl ?_
    refine gf_X10_20_0 (pc := 29) C hi_X10_plainParts_X10 wd_X10_plainParts_1 dX10_plainParts_29 ?_
    refine r_ifeq (pc := 32) (tgt := 39) C dX10_plainParts_32 (by decide) ?_ ?_
    · refine r_ildn (pc := 39) C dX10_plainParts_39 1 rfl ?_
      refine r_ildn (pc := 40) C dX10_plainParts_40 2 rfl ?_
      refine r_ckb (fun h9 => ?_)
      refine r_idiv (pc := 41) C dX10_plainParts_41 (nz_ne h9) ?_
      exact r_iret (pc := 42) C dX10_plainParts_42
    · refine r_iconst (pc := 35) (v := (0 : Int32)) C dX10_plainParts_35 ic_0 ?_
      refine r_goto (pc := 36) (tgt := 42) C dX10_plainParts_36 (by decide) ?_
      exact r_iret (pc := 42) C dX10_plainParts_42
theorem k_X10_plainParts {κ : oK} {nL : Nat} {cc : ByteArray} {own : String} {Ts : List Cond} {n : Nat} {ret : Option FieldType} {α : Type} {Q : α → Sg → State → Prop} {σ : Sg} {pc : Nat} {lv : List (Nat × Value)} {st : List Value} {x : oXp} {idx : Nat} {a1 : Int32} {a2 : Int32} {K : Int32 → Sg → Option (α × Sg)} (C : oC κ (oM x) nL cc own Ts n ret) (hG : GoodIn Ts (wsV own idx RX10 yX10_plainParts wsX10_plainParts)) (hn : 4 + 1 ≤ n) (hst : (st.map fun v => v.category).sum ≤ 8) (hd : decode cc pc = .ok (.invokevirtual idx, 3)) (kk : ∀ (r1 : Int32) (σ1 : Sg), oV κ (oM x) nL Q σ1 (pc + 3) lv (.int r1 :: st) (K r1 σ1)) : oV κ (oM x) nL Q σ pc lv (.int a2 :: .int a1 :: .ref (xa x 0) :: st) (bnd (f_X10_plainParts a1 a2 σ) K) := by
  have hI : oI (oM x) := oC_I C
  exact r_cVi (As := [.int a1, .int a2]) (na := 2) (j := 0) (ci := 10) C (fun l => m_X10_plainParts l x hI a1 a2 σ) hG rfl (by decide +kernel) rfl (by decide) hn (by show 0 < 14; decide) rfl rfl rfl rfl hst hd kk
set_option maxHeartbeats 4000000 in
set_option maxRecDepth 100000 in
theorem m_X10_smears (l : Launch) (x : oXp) (hI : oI (oM x)) (a1 : Int32) (a2 : Int32) (σ : Sg) : oMI l yX10_smears wsX10_smears 9 (oM x) [.ref (xa x 0), .int a1, .int a2] σ (f_X10_smears  a1 a2 σ) := by
  refine oMI_of (nL := 3) (cc := cX10_smears) hI (by decide +kernel) rfl (Nat.le_of_ble_eq_true rfl) ?_
  intro κ C
  have C : oC κ (oM x) 3 cX10_smears RX10 wsX10_smears 9 (some .int) := C
  unfold f_X10_smears
  show oV κ (oM x) 3 (oQi κ (oM x)) σ 0 [(0, .ref (xa x 0)), (1, .int a1), (2, .int a2)] [] _
  refine r_aldn (pc := 0) C dX10_smears_0 0 rfl ?_
  refine r_ildn (pc := 1) C dX10_smears_1 1 rfl ?_
  refine r_iconst (pc := 2) (v := (0 : Int32)) C dX10_smears_2 ic_0 ?_
  refine k_X10_it (x := x) (pc := 3) (a1 := a1) (a2 := (0 : Int32)) C gX10_smears_X10_it (by omega)  (Nat.le_of_ble_eq_true rfl) dX10_smears_3 (fun r2 s1 => ?_)
  refine r_ite (fun c3 => ?_) (fun c3 => ?_)
  · refine r_tabE (pc := 6) (v := (2 : Int32)) (off := 34) (tgt := 40) C dX10_smears_6 c3 (by decide) (by decide) (by decide) (by decide) ?_
    refine r_aldn (pc := 40) C dX10_smears_40 0 rfl ?_
    refine r_ildn (pc := 41) C dX10_smears_41 1 rfl ?_
    refine r_ildn (pc := 42) C dX10_smears_42 2 rfl ?_
    refine k_X10_arrowSmears (x := x) (pc := 43) (a1 := a1) (a2 := a2) C gX10_smears_X10_arrowSmears (by omega)  (Nat.le_of_ble_eq_true rfl) dX10_smears_43 (fun r5 s4 => ?_)
    exact r_iret (pc := 46) C dX10_smears_46
  · refine r_ite (fun c6 => ?_) (fun c6 => ?_)
    · refine r_tabE (pc := 6) (v := (3 : Int32)) (off := 76) (tgt := 82) C dX10_smears_6 c6 (by decide) (by decide) (by decide) (by decide) ?_
      refine r_aldn (pc := 82) C dX10_smears_82 0 rfl ?_
      refine r_ildn (pc := 83) C dX10_smears_83 1 rfl ?_
      refine r_ildn (pc := 84) C dX10_smears_84 2 rfl ?_
      refine k_X10_plainSmears (x := x) (pc := 85) (a1 := a1) (a2 := a2) C gX10_smears_X10_plainSmears (by omega)  (Nat.le_of_ble_eq_true rfl) dX10_smears_85 (fun r8 s7 => ?_)
      exact r_iret (pc := 88) C dX10_smears_88
    · refine r_ite (fun c9 => ?_) (fun c9 => ?_)
      · refine r_tabE (pc := 6) (v := (4 : Int32)) (off := 76) (tgt := 82) C dX10_smears_6 c9 (by decide) (by decide) (by decide) (by decide) ?_
        refine r_aldn (pc := 82) C dX10_smears_82 0 rfl ?_
        refine r_ildn (pc := 83) C dX10_smears_83 1 rfl ?_
        refine r_ildn (pc := 84) C dX10_smears_84 2 rfl ?_
        refine k_X10_plainSmears (x := x) (pc := 85) (a1 := a1) (a2 := a2) C gX10_smears_X10_plainSmears (by omega)  (Nat.le_of_ble_eq_true rfl) dX10_smears_85 (fun r11 s10 => ?_)
        exact r_iret (pc := 88) C dX10_smears_88
      · refine r_ite (fun c12 => ?_) (fun c12 => ?_)
        · refine r_tabE (pc := 6) (v := (5 : Int32)) (off := 41) (tgt := 47) C dX10_smears_6 c12 (by decide) (by decide) (by decide) (by decide) ?_
          refine r_aldn (pc := 47) C dX10_smears_47 0 rfl ?_
          refine r_bipush (pc := 48) (v := (60 : Int32)) C dX10_smears_48 bp_60 ?_
          refine k_X10_begins (x := x) (pc := 50) (a1 := (60 : Int32)) C gX10_smears_X10_begins (by omega)  (Nat.le_of_ble_eq_true rfl) dX10_smears_50 (fun _ s13 => ?_)
          refine r_aldn (pc := 53) C dX10_smears_53 0 rfl ?_
          refine r_ildn (pc := 54) C dX10_smears_54 1 rfl ?_
          refine r_ildn (pc := 55) C dX10_smears_55 2 rfl ?_
          refine r_iconst (pc := 56) (v := (1 : Int32)) C dX10_smears_56 ic_1 ?_
          refine r_iadd (pc := 57) C dX10_smears_57 ?_
          refine k_X10_arrowSmears (x := x) (pc := 58) (a1 := a1) (a2 := (a2 + (1 : Int32))) C gX10_smears_X10_arrowSmears (by omega)  (Nat.le_of_ble_eq_true rfl) dX10_smears_58 (fun r16 s15 => ?_)
          exact r_iret (pc := 61) C dX10_smears_61
        · refine r_ite (fun c17 => ?_) (fun c17 => ?_)
          · refine r_tabE (pc := 6) (v := (6 : Int32)) (off := 56) (tgt := 62) C dX10_smears_6 c17 (by decide) (by decide) (by decide) (by decide) ?_
            refine r_aldn (pc := 62) C dX10_smears_62 0 rfl ?_
            refine r_bipush (pc := 63) (v := (71 : Int32)) C dX10_smears_63 bp_71 ?_
            refine k_X10_begins (x := x) (pc := 65) (a1 := (71 : Int32)) C gX10_smears_X10_begins (by omega)  (Nat.le_of_ble_eq_true rfl) dX10_smears_65 (fun _ s18 => ?_)
            refine r_aldn (pc := 68) C dX10_smears_68 0 rfl ?_
            refine r_ildn (pc := 69) C dX10_smears_69 1 rfl ?_
            refine r_ildn (pc := 70) C dX10_smears_70 2 rfl ?_
            refine k_X10_plainSmears (x := x) (pc := 71) (a1 := a1) (a2 := a2) C gX10_smears_X10_plainSmears (by omega)  (Nat.le_of_ble_eq_true rfl) dX10_smears_71 (fun r21 s20 => ?_)
            refine r_aldn (pc := 74) C dX10_smears_74 0 rfl ?_
            refine r_ildn (pc := 75) C dX10_smears_75 1 rfl ?_
            refine r_iconst (pc := 76) (v := (1 : Int32)) C dX10_smears_76 ic_1 ?_
            refine k_X10_it (x := x) (pc := 77) (a1 := a1) (a2 := (1 : Int32)) C gX10_smears_X10_it (by omega)  (Nat.le_of_ble_eq_true rfl) dX10_smears_77 (fun r23 s22 => ?_)
            refine r_iadd (pc := 80) C dX10_smears_80 ?_
            exact r_iret (pc := 81) C dX10_smears_81
          · refine r_tabO (pc := 6) (tgt := 82) C dX10_smears_6 (by have q0 := lv_neT (k := (2 : Int32)) (a := 2) c3 (by decide); have q1 := lv_neT (k := (3 : Int32)) (a := 3) c6 (by decide); have q2 := lv_neT (k := (4 : Int32)) (a := 4) c9 (by decide); have q3 := lv_neT (k := (5 : Int32)) (a := 5) c12 (by decide); have q4 := lv_neT (k := (6 : Int32)) (a := 6) c17 (by decide); omega) (by decide) ?_
            refine r_aldn (pc := 82) C dX10_smears_82 0 rfl ?_
            refine r_ildn (pc := 83) C dX10_smears_83 1 rfl ?_
            refine r_ildn (pc := 84) C dX10_smears_84 2 rfl ?_
            refine k_X10_plainSmears (x := x) (pc := 85) (a1 := a1) (a2 := a2) C gX10_smears_X10_plainSmears (by omega)  (Nat.le_of_ble_eq_true rfl) dX10_smears_85 (fun r25 s24 => ?_)
            exact r_iret (pc := 88) C dX10_smears_88
theorem k_X10_smears {κ : oK} {nL : Nat} {cc : ByteArray} {own : String} {Ts : List Cond} {n : Nat} {ret : Option FieldType} {α : Type} {Q : α → Sg → State → Prop} {σ : Sg} {pc : Nat} {lv : List (Nat × Value)} {st : List Value} {x : oXp} {idx : Nat} {a1 : Int32} {a2 : Int32} {K : Int32 → Sg → Option (α × Sg)} (C : oC κ (oM x) nL cc own Ts n ret) (hG : GoodIn Ts (wsV own idx RX10 yX10_smears wsX10_smears)) (hn : 9 + 1 ≤ n) (hst : (st.map fun v => v.category).sum ≤ 8) (hd : decode cc pc = .ok (.invokevirtual idx, 3)) (kk : ∀ (r1 : Int32) (σ1 : Sg), oV κ (oM x) nL Q σ1 (pc + 3) lv (.int r1 :: st) (K r1 σ1)) : oV κ (oM x) nL Q σ pc lv (.int a2 :: .int a1 :: .ref (xa x 0) :: st) (bnd (f_X10_smears a1 a2 σ) K) := by
  have hI : oI (oM x) := oC_I C
  exact r_cVi (As := [.int a1, .int a2]) (na := 2) (j := 0) (ci := 10) C (fun l => m_X10_smears l x hI a1 a2 σ) hG rfl (by decide +kernel) rfl (by decide) hn (by show 0 < 14; decide) rfl rfl rfl rfl hst hd kk
set_option maxHeartbeats 4000000 in
set_option maxRecDepth 100000 in
theorem v_X10_partsBy_20 {κ : oK} {x : oXp} (C : oC κ (oM x) 4 cX10_partsBy RX10 wsX10_partsBy 10 (some .int))  (a1 : Int32) (a2 : Int32) (σ : Sg) : oV κ (oM x) 4 (oQi κ (oM x)) σ 20 [(0, .ref (xa x 0)), (1, .int a1), (2, .int a2)] [] (f_X10_partsBy_20   a1 a2 σ) := by
  unfold f_X10_partsBy_20
  refine r_aldn (pc := 20) C dX10_partsBy_20 0 rfl ?_
  refine r_bipush (pc := 21) (v := (21 : Int32)) C dX10_partsBy_21 bp_21 ?_
  refine k_X10_begins (x := x) (pc := 23) (a1 := (21 : Int32)) C gX10_partsBy_X10_begins (by omega)  (Nat.le_of_ble_eq_true rfl) dX10_partsBy_23 (fun _ s1 => ?_)
  refine r_aldn (pc := 26) C dX10_partsBy_26 0 rfl ?_
  refine r_ildn (pc := 27) C dX10_partsBy_27 1 rfl ?_
  refine r_ildn (pc := 28) C dX10_partsBy_28 2 rfl ?_
  refine k_X10_plainParts (x := x) (pc := 29) (a1 := a1) (a2 := a2) C gX10_partsBy_X10_plainParts (by omega)  (Nat.le_of_ble_eq_true rfl) dX10_partsBy_29 (fun r4 s3 => ?_)
  refine r_istn (pc := 32) (lv' := [(0, _), (1, _), (3, _)]) C dX10_partsBy_32 (by decide) [1, 2, 0] rfl ?_
  refine r_aldn (pc := 33) C dX10_partsBy_33 0 rfl ?_
  refine gf_X10_20_0 (pc := 34) C hi_X10_partsBy_X10 wd_X10_partsBy_1 dX10_partsBy_34 ?_
  refine r_ifeq (pc := 37) (tgt := 44) C dX10_partsBy_37 (by decide) ?_ ?_
  · refine r_ildn (pc := 44) C dX10_partsBy_44 2 rfl ?_
    refine r_aldn (pc := 45) C dX10_partsBy_45 0 rfl ?_
    refine r_ildn (pc := 46) C dX10_partsBy_46 1 rfl ?_
    refine r_iconst (pc := 47) (v := (1 : Int32)) C dX10_partsBy_47 ic_1 ?_
    refine k_X10_smears (x := x) (pc := 48) (a1 := a1) (a2 := (1 : Int32)) C gX10_partsBy_X10_smears (by omega)  (Nat.le_of_ble_eq_true rfl) dX10_partsBy_48 (fun r6 s5 => ?_)
    refine r_iadd (pc := 51) C dX10_partsBy_51 ?_
    exact r_iret (pc := 52) C dX10_partsBy_52
  · refine r_iconst (pc := 40) (v := (0 : Int32)) C dX10_partsBy_40 ic_0 ?_
    refine r_goto (pc := 41) (tgt := 52) C dX10_partsBy_41 (by decide) ?_
    exact r_iret (pc := 52) C dX10_partsBy_52
set_option maxHeartbeats 4000000 in
set_option maxRecDepth 100000 in
theorem m_X10_partsBy (l : Launch) (x : oXp) (hI : oI (oM x)) (a1 : Int32) (a2 : Int32) (σ : Sg) : oMI l yX10_partsBy wsX10_partsBy 10 (oM x) [.ref (xa x 0), .int a1, .int a2] σ (f_X10_partsBy  a1 a2 σ) := by
  refine oMI_of (nL := 4) (cc := cX10_partsBy) hI (by decide +kernel) rfl (Nat.le_of_ble_eq_true rfl) ?_
  intro κ C
  have C : oC κ (oM x) 4 cX10_partsBy RX10 wsX10_partsBy 10 (some .int) := C
  unfold f_X10_partsBy
  show oV κ (oM x) 4 (oQi κ (oM x)) σ 0 [(0, .ref (xa x 0)), (1, .int a1), (2, .int a2)] [] _
  refine r_aldn (pc := 0) C dX10_partsBy_0 0 rfl ?_
  refine r_ildn (pc := 1) C dX10_partsBy_1 1 rfl ?_
  refine r_iconst (pc := 2) (v := (0 : Int32)) C dX10_partsBy_2 ic_0 ?_
  refine k_X10_it (x := x) (pc := 3) (a1 := a1) (a2 := (0 : Int32)) C gX10_partsBy_X10_it (by omega)  (Nat.le_of_ble_eq_true rfl) dX10_partsBy_3 (fun r8 s7 => ?_)
  refine r_iconst (pc := 6) (v := (1 : Int32)) C dX10_partsBy_6 ic_1 ?_
  refine r_iceq (pc := 7) (tgt := 20) C dX10_partsBy_7 (by decide) ?_ ?_
  · exact v_X10_partsBy_20 (x := x) C a1 a2 s7
  · refine r_aldn (pc := 10) C dX10_partsBy_10 0 rfl ?_
    refine r_ildn (pc := 11) C dX10_partsBy_11 1 rfl ?_
    refine r_iconst (pc := 12) (v := (0 : Int32)) C dX10_partsBy_12 ic_0 ?_
    refine k_X10_it (x := x) (pc := 13) (a1 := a1) (a2 := (0 : Int32)) C gX10_partsBy_X10_it (by omega)  (Nat.le_of_ble_eq_true rfl) dX10_partsBy_13 (fun r10 s9 => ?_)
    refine r_iconst (pc := 16) (v := (4 : Int32)) C dX10_partsBy_16 ic_4 ?_
    refine r_icne (pc := 17) (tgt := 53) C dX10_partsBy_17 (by decide) ?_ ?_
    · refine r_aldn (pc := 53) C dX10_partsBy_53 0 rfl ?_
      refine r_ildn (pc := 54) C dX10_partsBy_54 1 rfl ?_
      refine r_ildn (pc := 55) C dX10_partsBy_55 2 rfl ?_
      refine k_X10_plainParts (x := x) (pc := 56) (a1 := a1) (a2 := a2) C gX10_partsBy_X10_plainParts (by omega)  (Nat.le_of_ble_eq_true rfl) dX10_partsBy_56 (fun r12 s11 => ?_)
      exact r_iret (pc := 59) C dX10_partsBy_59
    · exact v_X10_partsBy_20 (x := x) C a1 a2 s9
theorem k_X10_partsBy {κ : oK} {nL : Nat} {cc : ByteArray} {own : String} {Ts : List Cond} {n : Nat} {ret : Option FieldType} {α : Type} {Q : α → Sg → State → Prop} {σ : Sg} {pc : Nat} {lv : List (Nat × Value)} {st : List Value} {x : oXp} {idx : Nat} {a1 : Int32} {a2 : Int32} {K : Int32 → Sg → Option (α × Sg)} (C : oC κ (oM x) nL cc own Ts n ret) (hG : GoodIn Ts (wsV own idx RX10 yX10_partsBy wsX10_partsBy)) (hn : 10 + 1 ≤ n) (hst : (st.map fun v => v.category).sum ≤ 8) (hd : decode cc pc = .ok (.invokevirtual idx, 3)) (kk : ∀ (r1 : Int32) (σ1 : Sg), oV κ (oM x) nL Q σ1 (pc + 3) lv (.int r1 :: st) (K r1 σ1)) : oV κ (oM x) nL Q σ pc lv (.int a2 :: .int a1 :: .ref (xa x 0) :: st) (bnd (f_X10_partsBy a1 a2 σ) K) := by
  have hI : oI (oM x) := oC_I C
  exact r_cVi (As := [.int a1, .int a2]) (na := 2) (j := 0) (ci := 10) C (fun l => m_X10_partsBy l x hI a1 a2 σ) hG rfl (by decide +kernel) rfl (by decide) hn (by show 0 < 14; decide) rfl rfl rfl rfl hst hd kk
set_option maxHeartbeats 4000000 in
set_option maxRecDepth 100000 in
theorem m_X10_pen (l : Launch) (x : oXp) (hI : oI (oM x)) (a1 : Int32) (a2 : Int32) (σ : Sg) : oMI l yX10_pen wsX10_pen 4 (oM x) [.ref (xa x 0), .int a1, .int a2] σ (f_X10_pen  a1 a2 σ) := by
  refine oMI_of (nL := 3) (cc := cX10_pen) hI (by decide +kernel) rfl (Nat.le_of_ble_eq_true rfl) ?_
  intro κ C
  have C : oC κ (oM x) 3 cX10_pen RX10 wsX10_pen 4 (some .int) := C
  unfold f_X10_pen
  show oV κ (oM x) 3 (oQi κ (oM x)) σ 0 [(0, .ref (xa x 0)), (1, .int a1), (2, .int a2)] [] _
  refine r_ildn (pc := 0) C dX10_pen_0 1 rfl ?_
  refine r_iconst (pc := 1) (v := (0 : Int32)) C dX10_pen_1 ic_0 ?_
  refine r_iconst (pc := 2) (v := (4 : Int32)) C dX10_pen_2 ic_4 ?_
  refine kS_X10_in (x := x) (pc := 3) (a0 := a1) (a1 := (0 : Int32)) (a2 := (4 : Int32)) C gX10_pen_X10_in (by omega)  (Nat.le_of_ble_eq_true rfl) dX10_pen_3 (fun r2 s1 => ?_)
  refine r_ifeq (pc := 6) (tgt := 31) C dX10_pen_6 (by decide) ?_ ?_
  · refine r_aldn (pc := 31) C dX10_pen_31 0 rfl ?_
    refine r_ldc (pc := 32) (v := (-1000000001 : Int32)) C dX10_pen_32 wd_X10_pen_1 ?_
    refine k_X10_error (x := x) (pc := 34) (a1 := (-1000000001 : Int32)) C gX10_pen_X10_error (by omega)  (Nat.le_of_ble_eq_true rfl) dX10_pen_34 (fun r4 s3 => ?_)
    exact r_iret (pc := 37) C dX10_pen_37
  · refine r_ildn (pc := 9) C dX10_pen_9 2 rfl ?_
    refine r_iconst (pc := 10) (v := (0 : Int32)) C dX10_pen_10 ic_0 ?_
    refine r_bipush (pc := 11) (v := (99 : Int32)) C dX10_pen_11 bp_99 ?_
    refine kS_X10_in (x := x) (pc := 13) (a0 := a2) (a1 := (0 : Int32)) (a2 := (99 : Int32)) C gX10_pen_X10_in (by omega)  (Nat.le_of_ble_eq_true rfl) dX10_pen_13 (fun r6 s5 => ?_)
    refine r_ifeq (pc := 16) (tgt := 31) C dX10_pen_16 (by decide) ?_ ?_
    · refine r_aldn (pc := 31) C dX10_pen_31 0 rfl ?_
      refine r_ldc (pc := 32) (v := (-1000000001 : Int32)) C dX10_pen_32 wd_X10_pen_1 ?_
      refine k_X10_error (x := x) (pc := 34) (a1 := (-1000000001 : Int32)) C gX10_pen_X10_error (by omega)  (Nat.le_of_ble_eq_true rfl) dX10_pen_34 (fun r8 s7 => ?_)
      exact r_iret (pc := 37) C dX10_pen_37
    · refine r_aldn (pc := 19) C dX10_pen_19 0 rfl ?_
      refine r_bipush (pc := 20) (v := (7 : Int32)) C dX10_pen_20 bp_7 ?_
      refine r_ildn (pc := 22) C dX10_pen_22 1 rfl ?_
      refine r_iadd (pc := 23) C dX10_pen_23 ?_
      refine r_ildn (pc := 24) C dX10_pen_24 2 rfl ?_
      refine k_X10_becomes (x := x) (pc := 25) (a1 := ((7 : Int32) + a1)) (a2 := a2) C gX10_pen_X10_becomes (by omega)  (Nat.le_of_ble_eq_true rfl) dX10_pen_25 (fun r10 s9 => ?_)
      refine r_goto (pc := 28) (tgt := 37) C dX10_pen_28 (by decide) ?_
      exact r_iret (pc := 37) C dX10_pen_37
set_option maxHeartbeats 4000000 in
set_option maxRecDepth 100000 in
theorem m_X10_photo (l : Launch) (x : oXp) (hI : oI (oM x)) (a1 : Int32) (a2 : Int32) (σ : Sg) : oMI l yX10_photo wsX10_photo 5 (oM x) [.ref (xa x 0), .int a1, .int a2] σ (f_X10_photo  a1 a2 σ) := by
  refine oMI_of (nL := 3) (cc := cX10_photo) hI (by decide +kernel) rfl (Nat.le_of_ble_eq_true rfl) ?_
  intro κ C
  have C : oC κ (oM x) 3 cX10_photo RX10 wsX10_photo 5 (some .int) := C
  unfold f_X10_photo
  show oV κ (oM x) 3 (oQi κ (oM x)) σ 0 [(0, .ref (xa x 0)), (1, .int a1), (2, .int a2)] [] _
  refine r_aldn (pc := 0) C dX10_photo_0 0 rfl ?_
  refine r_ildn (pc := 1) C dX10_photo_1 1 rfl ?_
  refine k_X10_isLine (x := x) (pc := 2) (a1 := a1) C gX10_photo_X10_isLine (by omega)  (Nat.le_of_ble_eq_true rfl) dX10_photo_2 (fun r2 s1 => ?_)
  refine r_ifeq (pc := 5) (tgt := 34) C dX10_photo_5 (by decide) ?_ ?_
  · refine r_aldn (pc := 34) C dX10_photo_34 0 rfl ?_
    refine r_ldc (pc := 35) (v := (-1000000001 : Int32)) C dX10_photo_35 wd_X10_photo_1 ?_
    refine k_X10_error (x := x) (pc := 37) (a1 := (-1000000001 : Int32)) C gX10_photo_X10_error (by omega)  (Nat.le_of_ble_eq_true rfl) dX10_photo_37 (fun r4 s3 => ?_)
    exact r_iret (pc := 40) C dX10_photo_40
  · refine r_ildn (pc := 8) C dX10_photo_8 2 rfl ?_
    refine r_iconst (pc := 9) (v := (0 : Int32)) C dX10_photo_9 ic_0 ?_
    refine r_iconst (pc := 10) (v := (1 : Int32)) C dX10_photo_10 ic_1 ?_
    refine kS_X10_in (x := x) (pc := 11) (a0 := a2) (a1 := (0 : Int32)) (a2 := (1 : Int32)) C gX10_photo_X10_in (by omega)  (Nat.le_of_ble_eq_true rfl) dX10_photo_11 (fun r6 s5 => ?_)
    refine r_ifeq (pc := 14) (tgt := 34) C dX10_photo_14 (by decide) ?_ ?_
    · refine r_aldn (pc := 34) C dX10_photo_34 0 rfl ?_
      refine r_ldc (pc := 35) (v := (-1000000001 : Int32)) C dX10_photo_35 wd_X10_photo_1 ?_
      refine k_X10_error (x := x) (pc := 37) (a1 := (-1000000001 : Int32)) C gX10_photo_X10_error (by omega)  (Nat.le_of_ble_eq_true rfl) dX10_photo_37 (fun r8 s7 => ?_)
      exact r_iret (pc := 40) C dX10_photo_40
    · refine r_aldn (pc := 17) C dX10_photo_17 0 rfl ?_
      refine r_bipush (pc := 18) (v := (12 : Int32)) C dX10_photo_18 bp_12 ?_
      refine r_bipush (pc := 20) (v := (7 : Int32)) C dX10_photo_20 bp_7 ?_
      refine r_ildn (pc := 22) C dX10_photo_22 1 rfl ?_
      refine r_imul (pc := 23) C dX10_photo_23 ?_
      refine r_iadd (pc := 24) C dX10_photo_24 ?_
      refine r_iconst (pc := 25) (v := (5 : Int32)) C dX10_photo_25 ic_5 ?_
      refine r_iadd (pc := 26) C dX10_photo_26 ?_
      refine r_ildn (pc := 27) C dX10_photo_27 2 rfl ?_
      refine k_X10_becomes (x := x) (pc := 28) (a1 := (((12 : Int32) + ((7 : Int32) * a1)) + (5 : Int32))) (a2 := a2) C gX10_photo_X10_becomes (by omega)  (Nat.le_of_ble_eq_true rfl) dX10_photo_28 (fun r10 s9 => ?_)
      refine r_goto (pc := 31) (tgt := 40) C dX10_photo_31 (by decide) ?_
      exact r_iret (pc := 40) C dX10_photo_40
set_option maxHeartbeats 4000000 in
set_option maxRecDepth 100000 in
theorem m_X10_plainStays (l : Launch) (x : oXp) (hI : oI (oM x)) (a1 : Int32) (a2 : Int32) (σ : Sg) : oMI l yX10_plainStays wsX10_plainStays 10 (oM x) [.ref (xa x 0), .int a1, .int a2] σ (f_X10_plainStays  a1 a2 σ) := by
  refine oMI_of (nL := 3) (cc := cX10_plainStays) hI (by decide +kernel) rfl (Nat.le_of_ble_eq_true rfl) ?_
  intro κ C
  have C : oC κ (oM x) 3 cX10_plainStays RX10 wsX10_plainStays 10 (some .int) := C
  unfold f_X10_plainStays
  show oV κ (oM x) 3 (oQi κ (oM x)) σ 0 [(0, .ref (xa x 0)), (1, .int a1), (2, .int a2)] [] _
  refine r_aldn (pc := 0) C dX10_plainStays_0 0 rfl ?_
  refine r_bipush (pc := 1) (v := (12 : Int32)) C dX10_plainStays_1 bp_12 ?_
  refine k_X10_begins (x := x) (pc := 3) (a1 := (12 : Int32)) C gX10_plainStays_X10_begins (by omega)  (Nat.le_of_ble_eq_true rfl) dX10_plainStays_3 (fun _ s1 => ?_)
  refine r_aldn (pc := 6) C dX10_plainStays_6 0 rfl ?_
  refine r_ildn (pc := 7) C dX10_plainStays_7 1 rfl ?_
  refine r_ildn (pc := 8) C dX10_plainStays_8 2 rfl ?_
  refine k_X10_smears (x := x) (pc := 9) (a1 := a1) (a2 := a2) C gX10_plainStays_X10_smears (by omega)  (Nat.le_of_ble_eq_true rfl) dX10_plainStays_9 (fun r4 s3 => ?_)
  refine r_aldn (pc := 12) C dX10_plainStays_12 0 rfl ?_
  refine r_ildn (pc := 13) C dX10_plainStays_13 1 rfl ?_
  refine r_iconst (pc := 14) (v := (1 : Int32)) C dX10_plainStays_14 ic_1 ?_
  refine k_X10_it (x := x) (pc := 15) (a1 := a1) (a2 := (1 : Int32)) C gX10_plainStays_X10_it (by omega)  (Nat.le_of_ble_eq_true rfl) dX10_plainStays_15 (fun r6 s5 => ?_)
  refine r_isub (pc := 18) C dX10_plainStays_18 ?_
  exact r_iret (pc := 19) C dX10_plainStays_19
theorem k_X10_plainStays {κ : oK} {nL : Nat} {cc : ByteArray} {own : String} {Ts : List Cond} {n : Nat} {ret : Option FieldType} {α : Type} {Q : α → Sg → State → Prop} {σ : Sg} {pc : Nat} {lv : List (Nat × Value)} {st : List Value} {x : oXp} {idx : Nat} {a1 : Int32} {a2 : Int32} {K : Int32 → Sg → Option (α × Sg)} (C : oC κ (oM x) nL cc own Ts n ret) (hG : GoodIn Ts (wsV own idx RX10 yX10_plainStays wsX10_plainStays)) (hn : 10 + 1 ≤ n) (hst : (st.map fun v => v.category).sum ≤ 8) (hd : decode cc pc = .ok (.invokevirtual idx, 3)) (kk : ∀ (r1 : Int32) (σ1 : Sg), oV κ (oM x) nL Q σ1 (pc + 3) lv (.int r1 :: st) (K r1 σ1)) : oV κ (oM x) nL Q σ pc lv (.int a2 :: .int a1 :: .ref (xa x 0) :: st) (bnd (f_X10_plainStays a1 a2 σ) K) := by
  have hI : oI (oM x) := oC_I C
  exact r_cVi (As := [.int a1, .int a2]) (na := 2) (j := 0) (ci := 10) C (fun l => m_X10_plainStays l x hI a1 a2 σ) hG rfl (by decide +kernel) rfl (by decide) hn (by show 0 < 14; decide) rfl rfl rfl rfl hst hd kk
set_option maxHeartbeats 4000000 in
set_option maxRecDepth 100000 in
theorem v_X10_put_35 {κ : oK} {x : oXp} (C : oC κ (oM x) 5 cX10_put RX10 wsX10_put 6 (some .int))  (a1 : Int32) (a2 : Int32) (a3 : Int32) (t0 : Int32) (σ : Sg) : oV κ (oM x) 5 (oQi κ (oM x)) σ 35 [(0, .ref (xa x 0)), (1, .int a1), (2, .int a2), (3, .int a3)] [.int t0] (f_X10_put_35   a1 a2 a3 t0 σ) := by
  unfold f_X10_put_35
  refine r_ist (pc := 35) (lv' := [(0, _), (1, _), (2, _), (3, _), (4, _)]) C dX10_put_35 (by decide) [1, 2, 3, 4, 0] rfl ?_
  refine r_ild (pc := 37) C dX10_put_37 4 rfl ?_
  refine r_ifeq (pc := 39) (tgt := 49) C dX10_put_39 (by decide) ?_ ?_
  · refine r_aldn (pc := 49) C dX10_put_49 0 rfl ?_
    refine gf_X10_7_0 (pc := 50) C hi_X10_put_X10 wd_X10_put_3 dX10_put_50 ?_
    refine r_bipush (pc := 53) (v := (24 : Int32)) C dX10_put_53 bp_24 ?_
    refine r_ildn (pc := 55) C dX10_put_55 1 rfl ?_
    refine r_imul (pc := 56) C dX10_put_56 ?_
    refine r_ildn (pc := 57) C dX10_put_57 2 rfl ?_
    refine r_iadd (pc := 58) C dX10_put_58 ?_
    refine r_aldn (pc := 59) C dX10_put_59 0 rfl ?_
    refine gf_X10_5_0 (pc := 60) C hi_X10_put_X10 wd_X10_put_4 dX10_put_60 ?_
    refine r_ildn (pc := 63) C dX10_put_63 1 rfl ?_
    refine iald_oM_5 (pc := 64) C dX10_put_64 ?_
    refine r_bipush (pc := 65) (v := (8 : Int32)) C dX10_put_65 bp_8 ?_
    refine r_icne (pc := 67) (tgt := 75) C dX10_put_67 (by decide) ?_ ?_
    · refine r_aldn (pc := 75) C dX10_put_75 0 rfl ?_
      refine gf_X10_5_0 (pc := 76) C hi_X10_put_X10 wd_X10_put_4 dX10_put_76 ?_
      refine r_ildn (pc := 79) C dX10_put_79 1 rfl ?_
      refine iald_oM_5 (pc := 80) C dX10_put_80 ?_
      refine r_bipush (pc := 81) (v := (16 : Int32)) C dX10_put_81 bp_16 ?_
      refine r_icne (pc := 83) (tgt := 91) C dX10_put_83 (by decide) ?_ ?_
      · refine r_ildn (pc := 91) C dX10_put_91 3 rfl ?_
        refine iast_oM_7 (pc := 92) C dX10_put_92 (fun s1 => ?_)
        refine r_iconst (pc := 93) (v := (1 : Int32)) C dX10_put_93 ic_1 ?_
        exact r_iret (pc := 94) C dX10_put_94
      · refine r_ildn (pc := 86) C dX10_put_86 3 rfl ?_
        refine r_i2s (pc := 87) C dX10_put_87 ?_
        refine r_goto (pc := 88) (tgt := 92) C dX10_put_88 (by decide) ?_
        refine iast_oM_7 (pc := 92) C dX10_put_92 (fun s2 => ?_)
        refine r_iconst (pc := 93) (v := (1 : Int32)) C dX10_put_93 ic_1 ?_
        exact r_iret (pc := 94) C dX10_put_94
    · refine r_ildn (pc := 70) C dX10_put_70 3 rfl ?_
      refine r_i2b (pc := 71) C dX10_put_71 ?_
      refine r_goto (pc := 72) (tgt := 92) C dX10_put_72 (by decide) ?_
      refine iast_oM_7 (pc := 92) C dX10_put_92 (fun s3 => ?_)
      refine r_iconst (pc := 93) (v := (1 : Int32)) C dX10_put_93 ic_1 ?_
      exact r_iret (pc := 94) C dX10_put_94
  · refine r_aldn (pc := 42) C dX10_put_42 0 rfl ?_
    refine r_ild (pc := 43) C dX10_put_43 4 rfl ?_
    refine k_X10_error (x := x) (pc := 45) (a1 := t0) C gX10_put_X10_error (by omega)  (Nat.le_of_ble_eq_true rfl) dX10_put_45 (fun r5 s4 => ?_)
    exact r_iret (pc := 48) C dX10_put_48
set_option maxHeartbeats 4000000 in
set_option maxRecDepth 100000 in
theorem m_X10_put (l : Launch) (x : oXp) (hI : oI (oM x)) (a1 : Int32) (a2 : Int32) (a3 : Int32) (σ : Sg) : oMI l yX10_put wsX10_put 6 (oM x) [.ref (xa x 0), .int a1, .int a2, .int a3] σ (f_X10_put  a1 a2 a3 σ) := by
  refine oMI_of (nL := 5) (cc := cX10_put) hI (by decide +kernel) rfl (Nat.le_of_ble_eq_true rfl) ?_
  intro κ C
  have C : oC κ (oM x) 5 cX10_put RX10 wsX10_put 6 (some .int) := C
  unfold f_X10_put
  show oV κ (oM x) 5 (oQi κ (oM x)) σ 0 [(0, .ref (xa x 0)), (1, .int a1), (2, .int a2), (3, .int a3)] [] _
  refine r_aldn (pc := 0) C dX10_put_0 0 rfl ?_
  refine r_ildn (pc := 1) C dX10_put_1 1 rfl ?_
  refine k_X10_notThere (x := x) (pc := 2) (a1 := a1) C gX10_put_X10_notThere (by omega)  (Nat.le_of_ble_eq_true rfl) dX10_put_2 (fun r7 s6 => ?_)
  refine r_ist (pc := 5) (lv' := [(0, _), (1, _), (2, _), (3, _), (4, _)]) C dX10_put_5 (by decide) [1, 2, 3, 4, 0] rfl ?_
  refine r_ild (pc := 7) C dX10_put_7 4 rfl ?_
  refine r_ifne (pc := 9) (tgt := 33) C dX10_put_9 (by decide) ?_ ?_
  · refine r_ild (pc := 33) C dX10_put_33 4 rfl ?_
    refine r_sub (lv' := [(0, _), (1, _), (2, _), (3, _)]) [0, 1, 2, 3] rfl ?_
    exact v_X10_put_35 (x := x) C a1 a2 a3 r7 s6
  · refine r_ildn (pc := 12) C dX10_put_12 2 rfl ?_
    refine r_iconst (pc := 13) (v := (0 : Int32)) C dX10_put_13 ic_0 ?_
    refine r_aldn (pc := 14) C dX10_put_14 0 rfl ?_
    refine gf_X10_6_0 (pc := 15) C hi_X10_put_X10 wd_X10_put_1 dX10_put_15 ?_
    refine r_ildn (pc := 18) C dX10_put_18 1 rfl ?_
    refine iald_oM_6 (pc := 19) C dX10_put_19 ?_
    refine r_iconst (pc := 20) (v := (1 : Int32)) C dX10_put_20 ic_1 ?_
    refine r_isub (pc := 21) C dX10_put_21 ?_
    refine kS_X10_in (x := x) (pc := 22) (a0 := a2) (a1 := (0 : Int32)) (a2 := ((rd (s6 6) a1) - (1 : Int32))) C gX10_put_X10_in (by omega)  (Nat.le_of_ble_eq_true rfl) dX10_put_22 (fun r9 s8 => ?_)
    refine r_ifne (pc := 25) (tgt := 33) C dX10_put_25 (by decide) ?_ ?_
    · refine r_ild (pc := 33) C dX10_put_33 4 rfl ?_
      refine r_sub (lv' := [(0, _), (1, _), (2, _), (3, _)]) [0, 1, 2, 3] rfl ?_
      exact v_X10_put_35 (x := x) C a1 a2 a3 r7 s8
    · refine r_ldc (pc := 28) (v := (-1000000001 : Int32)) C dX10_put_28 wd_X10_put_2 ?_
      refine r_goto (pc := 30) (tgt := 35) C dX10_put_30 (by decide) ?_
      refine r_sub (lv' := [(0, _), (1, _), (2, _), (3, _)]) [0, 1, 2, 3] rfl ?_
      exact v_X10_put_35 (x := x) C a1 a2 a3 (-1000000001 : Int32) s8
set_option maxHeartbeats 4000000 in
set_option maxRecDepth 100000 in
theorem m_X10_restore (l : Launch) (x : oXp) (hI : oI (oM x))  (σ : Sg) : oMI l yX10_restore wsX10_restore 4 (oM x) [.ref (xa x 0)] σ (f_X10_restore   σ) := by
  refine oMI_of (nL := 1) (cc := cX10_restore) hI (by decide +kernel) rfl (Nat.le_of_ble_eq_true rfl) ?_
  intro κ C
  have C : oC κ (oM x) 1 cX10_restore RX10 wsX10_restore 4 (some .int) := C
  unfold f_X10_restore
  show oV κ (oM x) 1 (oQi κ (oM x)) σ 0 [(0, .ref (xa x 0))] [] _
  refine r_aldn (pc := 0) C dX10_restore_0 0 rfl ?_
  refine gf_X10_3_0 (pc := 1) C hi_X10_restore_X10 wd_X10_restore_1 dX10_restore_1 ?_
  refine r_ifne (pc := 4) (tgt := 14) C dX10_restore_4 (by decide) ?_ ?_
  · refine r_aldn (pc := 14) C dX10_restore_14 0 rfl ?_
    refine gf_X10_1_0 (pc := 15) C hi_X10_restore_X10 wd_X10_restore_3 dX10_restore_15 ?_
    refine r_aldn (pc := 18) C dX10_restore_18 0 rfl ?_
    refine gf_X10_0_0 (pc := 19) C hi_X10_restore_X10 wd_X10_restore_4 dX10_restore_19 ?_
    refine kS_X10_copyAll (x := x) (pc := 22) (o0 := 2) (o1 := 1) C gX10_restore_X10_copyAll (by omega) (by omega) (by omega) (by omega) (by omega) (Nat.le_of_ble_eq_true rfl) dX10_restore_22 (fun _ s1 => ?_)
    refine r_aldn (pc := 25) C dX10_restore_25 0 rfl ?_
    refine gf_X10_0_0 (pc := 26) C hi_X10_restore_X10 wd_X10_restore_4 dX10_restore_26 ?_
    refine r_iconst (pc := 29) (v := (0 : Int32)) C dX10_restore_29 ic_0 ?_
    refine iald_oM_1 (pc := 30) C dX10_restore_30 ?_
    exact r_iret (pc := 31) C dX10_restore_31
  · refine r_aldn (pc := 7) C dX10_restore_7 0 rfl ?_
    refine r_ldc (pc := 8) (v := (-1000000002 : Int32)) C dX10_restore_8 wd_X10_restore_2 ?_
    refine k_X10_error (x := x) (pc := 10) (a1 := (-1000000002 : Int32)) C gX10_restore_X10_error (by omega)  (Nat.le_of_ble_eq_true rfl) dX10_restore_10 (fun r4 s3 => ?_)
    exact r_iret (pc := 13) C dX10_restore_13
set_option maxHeartbeats 4000000 in
set_option maxRecDepth 100000 in
theorem m_X10_window (l : Launch) (x : oXp) (hI : oI (oM x)) (a0 : Int32) (a1 : Int32) (σ : Sg) : oMI l yX10_window wsX10_window 3 (oM x) [.int a0, .int a1] σ (f_X10_window  a0 a1 σ) := by
  refine oMI_of (nL := 2) (cc := cX10_window) hI (by decide +kernel) rfl (Nat.le_of_ble_eq_true rfl) ?_
  intro κ C
  have C : oC κ (oM x) 2 cX10_window RX10 wsX10_window 3 (some .int) := C
  unfold f_X10_window
  show oV κ (oM x) 2 (oQi κ (oM x)) σ 0 [(0, .int a0), (1, .int a1)] [] _
  refine r_iconst (pc := 0) (v := (1 : Int32)) C dX10_window_0 ic_1 ?_
  refine r_ildn (pc := 1) C dX10_window_1 1 rfl ?_
  refine r_ishl (pc := 2) C dX10_window_2 ?_
  refine r_iconst (pc := 3) (v := (1 : Int32)) C dX10_window_3 ic_1 ?_
  refine r_isub (pc := 4) C dX10_window_4 ?_
  refine r_ildn (pc := 5) C dX10_window_5 0 rfl ?_
  refine r_ishl (pc := 6) C dX10_window_6 ?_
  exact r_iret (pc := 7) C dX10_window_7
theorem kS_X10_window {κ : oK} {nL : Nat} {cc : ByteArray} {own : String} {Ts : List Cond} {n : Nat} {ret : Option FieldType} {α : Type} {Q : α → Sg → State → Prop} {σ : Sg} {pc : Nat} {lv : List (Nat × Value)} {st : List Value} {x : oXp} {idx : Nat} {a0 : Int32} {a1 : Int32} {K : Int32 → Sg → Option (α × Sg)} (C : oC κ (oM x) nL cc own Ts n ret) (hG : GoodIn Ts (va_wsS own idx yX10_window wsX10_window)) (hn : 3 + 1 ≤ n) (hst : (st.map fun v => v.category).sum ≤ 8) (hd : decode cc pc = .ok (.invokestatic idx, 3)) (kk : ∀ (r1 : Int32) (σ1 : Sg), oV κ (oM x) nL Q σ1 (pc + 3) lv (.int r1 :: st) (K r1 σ1)) : oV κ (oM x) nL Q σ pc lv (.int a1 :: .int a0 :: st) (bnd (f_X10_window a0 a1 σ) K) := by
  have hI : oI (oM x) := oC_I C
  exact r_cSi (As := [.int a0, .int a1]) (na := 2) C (fun l => m_X10_window l x hI a0 a1 σ) hG rfl (by decide +kernel) rfl (by decide) hn hst hd kk
set_option maxHeartbeats 4000000 in
set_option maxRecDepth 100000 in
theorem v_X10_roomAt_48 {κ : oK} {x : oXp} (C : oC κ (oM x) 7 cX10_roomAt RX10 wsX10_roomAt 8 (some .int)) (rec7 : Int32 → Int32 → Int32 → Int32 → Sg → Option (Int32 × Sg)) (hrec7 : ∀ (a1 : Int32) (a2 : Int32) (a3 : Int32) (a4 : Int32) (σ : Sg), oV κ (oM x) 7 (oQi κ (oM x)) σ 7 [(0, .ref (xa x 0)), (1, .int a1), (2, .int a2), (3, .int a3), (4, .int a4)] [] (rec7 a1 a2 a3 a4 σ)) (a1 : Int32) (a2 : Int32) (a3 : Int32) (a4 : Int32) (a5 : Int32) (t0 : Int32) (σ : Sg) : oV κ (oM x) 7 (oQi κ (oM x)) σ 48 [(0, .ref (xa x 0)), (1, .int a1), (2, .int a2), (3, .int a3), (4, .int a4), (5, .int a5)] [.int t0] (f_X10_roomAt_48  rec7 a1 a2 a3 a4 a5 t0 σ) := by
  unfold f_X10_roomAt_48
  refine r_ist (pc := 48) (lv' := [(0, _), (1, _), (2, _), (3, _), (4, _), (5, _), (6, _)]) C dX10_roomAt_48 (by decide) [1, 2, 3, 4, 5, 6, 0] rfl ?_
  refine r_ild (pc := 50) C dX10_roomAt_50 6 rfl ?_
  refine r_ifeq (pc := 52) (tgt := 60) C dX10_roomAt_52 (by decide) ?_ ?_
  · refine r_ildn (pc := 60) C dX10_roomAt_60 2 rfl ?_
    refine r_istn (pc := 61) (lv' := [(0, _), (1, _), (2, _), (3, _), (4, _), (5, _), (6, _)]) C dX10_roomAt_61 (by decide) [1, 2, 0, 3, 4, 5, 6] rfl ?_
    refine r_ild (pc := 62) C dX10_roomAt_62 6 rfl ?_
    refine r_ifeq (pc := 64) (tgt := 72) C dX10_roomAt_64 (by decide) ?_ ?_
    · refine r_ildn (pc := 72) C dX10_roomAt_72 3 rfl ?_
      refine r_istn (pc := 73) (lv' := [(0, _), (1, _), (2, _), (3, _), (4, _)]) C dX10_roomAt_73 (by decide) [1, 2, 3, 0, 4] rfl ?_
      refine r_iinc (pc := 74) (v := (1 : Int32)) (lv1 := fun y => [(0, _), (1, _), (2, _), (3, _), (4, .int y)]) C dX10_roomAt_74 ic_1 4 rfl (by decide) [1, 2, 3, 4, 0] (fun _ => rfl) (fun v1 => ?_)
      refine r_goto (pc := 77) (tgt := 7) C dX10_roomAt_77 (by decide) ?_
      exact hrec7 a1 a2 a3 v1 σ
    · refine r_ild (pc := 67) C dX10_roomAt_67 5 rfl ?_
      refine r_goto (pc := 69) (tgt := 73) C dX10_roomAt_69 (by decide) ?_
      refine r_istn (pc := 73) (lv' := [(0, _), (1, _), (2, _), (3, _), (4, _)]) C dX10_roomAt_73 (by decide) [1, 2, 3, 0, 4] rfl ?_
      refine r_iinc (pc := 74) (v := (1 : Int32)) (lv1 := fun y => [(0, _), (1, _), (2, _), (3, _), (4, .int y)]) C dX10_roomAt_74 ic_1 4 rfl (by decide) [1, 2, 3, 4, 0] (fun _ => rfl) (fun v2 => ?_)
      refine r_goto (pc := 77) (tgt := 7) C dX10_roomAt_77 (by decide) ?_
      exact hrec7 a1 a2 a5 v2 σ
  · refine r_ild (pc := 55) C dX10_roomAt_55 4 rfl ?_
    refine r_goto (pc := 57) (tgt := 61) C dX10_roomAt_57 (by decide) ?_
    refine r_istn (pc := 61) (lv' := [(0, _), (1, _), (2, _), (3, _), (4, _), (5, _), (6, _)]) C dX10_roomAt_61 (by decide) [1, 2, 0, 3, 4, 5, 6] rfl ?_
    refine r_ild (pc := 62) C dX10_roomAt_62 6 rfl ?_
    refine r_ifeq (pc := 64) (tgt := 72) C dX10_roomAt_64 (by decide) ?_ ?_
    · refine r_ildn (pc := 72) C dX10_roomAt_72 3 rfl ?_
      refine r_istn (pc := 73) (lv' := [(0, _), (1, _), (2, _), (3, _), (4, _)]) C dX10_roomAt_73 (by decide) [1, 2, 3, 0, 4] rfl ?_
      refine r_iinc (pc := 74) (v := (1 : Int32)) (lv1 := fun y => [(0, _), (1, _), (2, _), (3, _), (4, .int y)]) C dX10_roomAt_74 ic_1 4 rfl (by decide) [1, 2, 3, 4, 0] (fun _ => rfl) (fun v3 => ?_)
      refine r_goto (pc := 77) (tgt := 7) C dX10_roomAt_77 (by decide) ?_
      exact hrec7 a1 a4 a3 v3 σ
    · refine r_ild (pc := 67) C dX10_roomAt_67 5 rfl ?_
      refine r_goto (pc := 69) (tgt := 73) C dX10_roomAt_69 (by decide) ?_
      refine r_istn (pc := 73) (lv' := [(0, _), (1, _), (2, _), (3, _), (4, _)]) C dX10_roomAt_73 (by decide) [1, 2, 3, 0, 4] rfl ?_
      refine r_iinc (pc := 74) (v := (1 : Int32)) (lv1 := fun y => [(0, _), (1, _), (2, _), (3, _), (4, .int y)]) C dX10_roomAt_74 ic_1 4 rfl (by decide) [1, 2, 3, 4, 0] (fun _ => rfl) (fun v4 => ?_)
      refine r_goto (pc := 77) (tgt := 7) C dX10_roomAt_77 (by decide) ?_
      exact hrec7 a1 a4 a5 v4 σ
set_option maxHeartbeats 4000000 in
set_option maxRecDepth 100000 in
theorem v_X10_roomAt_7_b {κ : oK} {x : oXp} (C : oC κ (oM x) 7 cX10_roomAt RX10 wsX10_roomAt 8 (some .int))  (rec7 : Int32 → Int32 → Int32 → Int32 → Sg → Option (Int32 × Sg)) (hrec7 : ∀ (a1 : Int32) (a2 : Int32) (a3 : Int32) (a4 : Int32) (σ : Sg), oV κ (oM x) 7 (oQi κ (oM x)) σ 7 [(0, .ref (xa x 0)), (1, .int a1), (2, .int a2), (3, .int a3), (4, .int a4)] [] (rec7 a1 a2 a3 a4 σ)) (a1 : Int32) (a2 : Int32) (a3 : Int32) (a4 : Int32) (σ : Sg) : oV κ (oM x) 7 (oQi κ (oM x)) σ 7 [(0, .ref (xa x 0)), (1, .int a1), (2, .int a2), (3, .int a3), (4, .int a4)] [] (f_X10_roomAt_7_b   rec7 a1 a2 a3 a4 σ) := by
  unfold f_X10_roomAt_7_b
  refine r_ild (pc := 7) C dX10_roomAt_7 4 rfl ?_
  refine r_ildn (pc := 9) C dX10_roomAt_9 1 rfl ?_
  refine r_iadd (pc := 10) C dX10_roomAt_10 ?_
  refine r_bipush (pc := 11) (v := (12 : Int32)) C dX10_roomAt_11 bp_12 ?_
  refine r_icgt (pc := 13) (tgt := 80) C dX10_roomAt_13 (by decide) ?_ ?_
  · refine r_ildn (pc := 80) C dX10_roomAt_80 2 rfl ?_
    exact r_iret (pc := 81) C dX10_roomAt_81
  · refine r_aldn (pc := 16) C dX10_roomAt_16 0 rfl ?_
    refine r_ild (pc := 17) C dX10_roomAt_17 4 rfl ?_
    refine r_ildn (pc := 19) C dX10_roomAt_19 1 rfl ?_
    refine kS_X10_window (x := x) (pc := 20) (a0 := a4) (a1 := a1) C gX10_roomAt_X10_window (by omega)  (Nat.le_of_ble_eq_true rfl) dX10_roomAt_20 (fun r6 s5 => ?_)
    refine k_X10_lossOn (x := x) (pc := 23) (a1 := r6) C gX10_roomAt_X10_lossOn (by omega)  (Nat.le_of_ble_eq_true rfl) dX10_roomAt_23 (fun r8 s7 => ?_)
    refine r_ist (pc := 26) (lv' := [(0, _), (1, _), (2, _), (3, _), (4, _), (5, _)]) C dX10_roomAt_26 (by decide) [1, 2, 3, 4, 5, 0] rfl ?_
    refine r_ild (pc := 28) C dX10_roomAt_28 5 rfl ?_
    refine r_iflt (pc := 30) (tgt := 47) C dX10_roomAt_30 (by decide) ?_ ?_
    · refine r_iconst (pc := 47) (v := (0 : Int32)) C dX10_roomAt_47 ic_0 ?_
      exact v_X10_roomAt_48 (x := x) C _ hrec7 a1 a2 a3 a4 r8 (0 : Int32) s7
    · refine r_ildn (pc := 33) C dX10_roomAt_33 2 rfl ?_
      refine r_iflt (pc := 34) (tgt := 43) C dX10_roomAt_34 (by decide) ?_ ?_
      · refine r_iconst (pc := 43) (v := (1 : Int32)) C dX10_roomAt_43 ic_1 ?_
        refine r_goto (pc := 44) (tgt := 48) C dX10_roomAt_44 (by decide) ?_
        exact v_X10_roomAt_48 (x := x) C _ hrec7 a1 a2 a3 a4 r8 (1 : Int32) s7
      · refine r_ild (pc := 37) C dX10_roomAt_37 5 rfl ?_
        refine r_ildn (pc := 39) C dX10_roomAt_39 3 rfl ?_
        refine r_icge (pc := 40) (tgt := 47) C dX10_roomAt_40 (by decide) ?_ ?_
        · refine r_iconst (pc := 47) (v := (0 : Int32)) C dX10_roomAt_47 ic_0 ?_
          exact v_X10_roomAt_48 (x := x) C _ hrec7 a1 a2 a3 a4 r8 (0 : Int32) s7
        · refine r_iconst (pc := 43) (v := (1 : Int32)) C dX10_roomAt_43 ic_1 ?_
          refine r_goto (pc := 44) (tgt := 48) C dX10_roomAt_44 (by decide) ?_
          exact v_X10_roomAt_48 (x := x) C _ hrec7 a1 a2 a3 a4 r8 (1 : Int32) s7
theorem v_X10_roomAt_7 {κ : oK} {x : oXp} (C : oC κ (oM x) 7 cX10_roomAt RX10 wsX10_roomAt 8 (some .int))  : ∀ (n : Nat) (a1 : Int32) (a2 : Int32) (a3 : Int32) (a4 : Int32) (σ : Sg), oV κ (oM x) 7 (oQi κ (oM x)) σ 7 [(0, .ref (xa x 0)), (1, .int a1), (2, .int a2), (3, .int a3), (4, .int a4)] [] (f_X10_roomAt_7   n a1 a2 a3 a4 σ) := by
  intro n
  induction n with
  | zero => intros; exact r_none
  | succ n ih => exact v_X10_roomAt_7_b C  _ ih
set_option maxHeartbeats 4000000 in
set_option maxRecDepth 100000 in
theorem m_X10_roomAt (l : Launch) (x : oXp) (hI : oI (oM x)) (a1 : Int32) (σ : Sg) : oMI l yX10_roomAt wsX10_roomAt 8 (oM x) [.ref (xa x 0), .int a1] σ (f_X10_roomAt  a1 σ) := by
  refine oMI_of (nL := 7) (cc := cX10_roomAt) hI (by decide +kernel) rfl (Nat.le_of_ble_eq_true rfl) ?_
  intro κ C
  have C : oC κ (oM x) 7 cX10_roomAt RX10 wsX10_roomAt 8 (some .int) := C
  unfold f_X10_roomAt
  show oV κ (oM x) 7 (oQi κ (oM x)) σ 0 [(0, .ref (xa x 0)), (1, .int a1)] [] _
  refine r_iconst (pc := 0) (v := (-1 : Int32)) C dX10_roomAt_0 ic_m1 ?_
  refine r_istn (pc := 1) (lv' := [(0, _), (1, _), (2, _)]) C dX10_roomAt_1 (by decide) [1, 2, 0] rfl ?_
  refine r_iconst (pc := 2) (v := (0 : Int32)) C dX10_roomAt_2 ic_0 ?_
  refine r_istn (pc := 3) (lv' := [(0, _), (1, _), (2, _), (3, _)]) C dX10_roomAt_3 (by decide) [1, 2, 3, 0] rfl ?_
  refine r_iconst (pc := 4) (v := (0 : Int32)) C dX10_roomAt_4 ic_0 ?_
  refine r_ist (pc := 5) (lv' := [(0, _), (1, _), (2, _), (3, _), (4, _)]) C dX10_roomAt_5 (by decide) [1, 2, 3, 4, 0] rfl ?_
  exact v_X10_roomAt_7 (x := x) C fuN a1 (-1 : Int32) (0 : Int32) (0 : Int32) σ
theorem k_X10_roomAt {κ : oK} {nL : Nat} {cc : ByteArray} {own : String} {Ts : List Cond} {n : Nat} {ret : Option FieldType} {α : Type} {Q : α → Sg → State → Prop} {σ : Sg} {pc : Nat} {lv : List (Nat × Value)} {st : List Value} {x : oXp} {idx : Nat} {a1 : Int32} {K : Int32 → Sg → Option (α × Sg)} (C : oC κ (oM x) nL cc own Ts n ret) (hG : GoodIn Ts (wsV own idx RX10 yX10_roomAt wsX10_roomAt)) (hn : 8 + 1 ≤ n) (hst : (st.map fun v => v.category).sum ≤ 8) (hd : decode cc pc = .ok (.invokevirtual idx, 3)) (kk : ∀ (r1 : Int32) (σ1 : Sg), oV κ (oM x) nL Q σ1 (pc + 3) lv (.int r1 :: st) (K r1 σ1)) : oV κ (oM x) nL Q σ pc lv (.int a1 :: .ref (xa x 0) :: st) (bnd (f_X10_roomAt a1 σ) K) := by
  have hI : oI (oM x) := oC_I C
  exact r_cVi (As := [.int a1]) (na := 1) (j := 0) (ci := 10) C (fun l => m_X10_roomAt l x hI a1 σ) hG rfl (by decide +kernel) rfl (by decide) hn (by show 0 < 14; decide) rfl rfl rfl rfl hst hd kk
set_option maxHeartbeats 4000000 in
set_option maxRecDepth 100000 in
theorem m_X10_room (l : Launch) (x : oXp) (hI : oI (oM x)) (a1 : Int32) (a2 : Int32) (σ : Sg) : oMI l yX10_room wsX10_room 9 (oM x) [.ref (xa x 0), .int a1, .int a2] σ (f_X10_room  a1 a2 σ) := by
  refine oMI_of (nL := 6) (cc := cX10_room) hI (by decide +kernel) rfl (Nat.le_of_ble_eq_true rfl) ?_
  intro κ C
  have C : oC κ (oM x) 6 cX10_room RX10 wsX10_room 9 (some .int) := C
  unfold f_X10_room
  show oV κ (oM x) 6 (oQi κ (oM x)) σ 0 [(0, .ref (xa x 0)), (1, .int a1), (2, .int a2)] [] _
  refine r_ildn (pc := 0) C dX10_room_0 1 rfl ?_
  refine r_iconst (pc := 1) (v := (1 : Int32)) C dX10_room_1 ic_1 ?_
  refine r_bipush (pc := 2) (v := (12 : Int32)) C dX10_room_2 bp_12 ?_
  refine kS_X10_in (x := x) (pc := 4) (a0 := a1) (a1 := (1 : Int32)) (a2 := (12 : Int32)) C gX10_room_X10_in (by omega)  (Nat.le_of_ble_eq_true rfl) dX10_room_4 (fun r2 s1 => ?_)
  refine r_ifeq (pc := 7) (tgt := 19) C dX10_room_7 (by decide) ?_ ?_
  · refine r_aldn (pc := 19) C dX10_room_19 0 rfl ?_
    refine r_ldc (pc := 20) (v := (-1000000001 : Int32)) C dX10_room_20 wd_X10_room_1 ?_
    refine k_X10_error (x := x) (pc := 22) (a1 := (-1000000001 : Int32)) C gX10_room_X10_error (by omega)  (Nat.le_of_ble_eq_true rfl) dX10_room_22 (fun r4 s3 => ?_)
    exact r_iret (pc := 25) C dX10_room_25
  · refine r_ildn (pc := 10) C dX10_room_10 2 rfl ?_
    refine r_iconst (pc := 11) (v := (0 : Int32)) C dX10_room_11 ic_0 ?_
    refine r_iconst (pc := 12) (v := (3 : Int32)) C dX10_room_12 ic_3 ?_
    refine kS_X10_in (x := x) (pc := 13) (a0 := a2) (a1 := (0 : Int32)) (a2 := (3 : Int32)) C gX10_room_X10_in (by omega)  (Nat.le_of_ble_eq_true rfl) dX10_room_13 (fun r6 s5 => ?_)
    refine r_ifne (pc := 16) (tgt := 26) C dX10_room_16 (by decide) ?_ ?_
    · refine r_aldn (pc := 26) C dX10_room_26 0 rfl ?_
      refine r_ildn (pc := 27) C dX10_room_27 1 rfl ?_
      refine k_X10_roomAt (x := x) (pc := 28) (a1 := a1) C gX10_room_X10_roomAt (by omega)  (Nat.le_of_ble_eq_true rfl) dX10_room_28 (fun r8 s7 => ?_)
      refine r_istn (pc := 31) (lv' := [(0, _), (1, _), (2, _), (3, _)]) C dX10_room_31 (by decide) [1, 2, 3, 0] rfl ?_
      refine r_ildn (pc := 32) C dX10_room_32 3 rfl ?_
      refine r_ifge (pc := 33) (tgt := 43) C dX10_room_33 (by decide) ?_ ?_
      · refine r_ildn (pc := 43) C dX10_room_43 3 rfl ?_
        refine r_ildn (pc := 44) C dX10_room_44 1 rfl ?_
        refine kS_X10_window (x := x) (pc := 45) (a0 := r8) (a1 := a1) C gX10_room_X10_window (by omega)  (Nat.le_of_ble_eq_true rfl) dX10_room_45 (fun r10 s9 => ?_)
        refine r_ist (pc := 48) (lv' := [(0, _), (1, _), (2, _), (3, _), (4, _)]) C dX10_room_48 (by decide) [1, 2, 3, 4, 0] rfl ?_
        refine r_aldn (pc := 50) C dX10_room_50 0 rfl ?_
        refine r_ild (pc := 51) C dX10_room_51 4 rfl ?_
        refine k_X10_linesOn (x := x) (pc := 53) (a1 := r10) C gX10_room_X10_linesOn (by omega)  (Nat.le_of_ble_eq_true rfl) dX10_room_53 (fun r12 s11 => ?_)
        refine r_ist (pc := 56) (lv' := [(0, _), (1, _), (2, _), (3, _), (4, _), (5, _)]) C dX10_room_56 (by decide) [1, 2, 3, 4, 5, 0] rfl ?_
        refine r_ildn (pc := 58) C dX10_room_58 2 rfl ?_
        refine r_ifne (pc := 59) (tgt := 71) C dX10_room_59 (by decide) ?_ ?_
        · refine r_ildn (pc := 71) C dX10_room_71 2 rfl ?_
          refine r_iconst (pc := 72) (v := (1 : Int32)) C dX10_room_72 ic_1 ?_
          refine r_icne (pc := 73) (tgt := 80) C dX10_room_73 (by decide) ?_ ?_
          · refine r_ildn (pc := 80) C dX10_room_80 2 rfl ?_
            refine r_iconst (pc := 81) (v := (2 : Int32)) C dX10_room_81 ic_2 ?_
            refine r_icne (pc := 82) (tgt := 90) C dX10_room_82 (by decide) ?_ ?_
            · refine r_aldn (pc := 90) C dX10_room_90 0 rfl ?_
              refine r_iconst (pc := 91) (v := (1 : Int32)) C dX10_room_91 ic_1 ?_
              refine r_ildn (pc := 92) C dX10_room_92 1 rfl ?_
              refine r_aldn (pc := 93) C dX10_room_93 0 rfl ?_
              refine gf_X10_0_0 (pc := 94) C hi_X10_room_X10 wd_X10_room_3 dX10_room_94 ?_
              refine r_iconst (pc := 97) (v := (0 : Int32)) C dX10_room_97 ic_0 ?_
              refine iald_oM_1 (pc := 98) C dX10_room_98 ?_
              refine r_bipush (pc := 99) (v := (7 : Int32)) C dX10_room_99 bp_7 ?_
              refine r_irem (pc := 101) C dX10_room_101 (by decide) ?_
              refine r_ild (pc := 102) C dX10_room_102 5 rfl ?_
              refine kS_X10_bits (x := x) (pc := 104) (a0 := r12) C gX10_room_X10_bits (by omega)  (Nat.le_of_ble_eq_true rfl) dX10_room_104 (fun r14 s13 => ?_)
              refine k_X10_gives (x := x) (pc := 107) (a1 := (1 : Int32)) (a2 := a1) (a3 := (irm (rd (s11 1) (0 : Int32)) (7 : Int32))) (a4 := r14) C gX10_room_X10_gives (by omega)  (Nat.le_of_ble_eq_true rfl) dX10_room_107 (fun r16 s15 => ?_)
              exact r_iret (pc := 110) C dX10_room_110
            · refine r_ild (pc := 85) C dX10_room_85 5 rfl ?_
              refine r_goto (pc := 87) (tgt := 110) C dX10_room_87 (by decide) ?_
              exact r_iret (pc := 110) C dX10_room_110
          · refine r_ildn (pc := 76) C dX10_room_76 3 rfl ?_
            refine r_goto (pc := 77) (tgt := 110) C dX10_room_77 (by decide) ?_
            exact r_iret (pc := 110) C dX10_room_110
        · refine r_aldn (pc := 62) C dX10_room_62 0 rfl ?_
          refine r_ild (pc := 63) C dX10_room_63 4 rfl ?_
          refine k_X10_lossOn (x := x) (pc := 65) (a1 := r10) C gX10_room_X10_lossOn (by omega)  (Nat.le_of_ble_eq_true rfl) dX10_room_65 (fun r18 s17 => ?_)
          refine r_goto (pc := 68) (tgt := 110) C dX10_room_68 (by decide) ?_
          exact r_iret (pc := 110) C dX10_room_110
      · refine r_aldn (pc := 36) C dX10_room_36 0 rfl ?_
        refine r_ldc (pc := 37) (v := (-1000000002 : Int32)) C dX10_room_37 wd_X10_room_2 ?_
        refine k_X10_error (x := x) (pc := 39) (a1 := (-1000000002 : Int32)) C gX10_room_X10_error (by omega)  (Nat.le_of_ble_eq_true rfl) dX10_room_39 (fun r20 s19 => ?_)
        exact r_iret (pc := 42) C dX10_room_42
    · refine r_aldn (pc := 19) C dX10_room_19 0 rfl ?_
      refine r_ldc (pc := 20) (v := (-1000000001 : Int32)) C dX10_room_20 wd_X10_room_1 ?_
      refine k_X10_error (x := x) (pc := 22) (a1 := (-1000000001 : Int32)) C gX10_room_X10_error (by omega)  (Nat.le_of_ble_eq_true rfl) dX10_room_22 (fun r22 s21 => ?_)
      exact r_iret (pc := 25) C dX10_room_25
set_option maxHeartbeats 4000000 in
set_option maxRecDepth 100000 in
theorem m_X10_seed (l : Launch) (x : oXp) (hI : oI (oM x)) (a1 : Int32) (σ : Sg) : oMI l yX10_seed wsX10_seed 4 (oM x) [.ref (xa x 0), .int a1] σ (f_X10_seed  a1 σ) := by
  refine oMI_of (nL := 2) (cc := cX10_seed) hI (by decide +kernel) rfl (Nat.le_of_ble_eq_true rfl) ?_
  intro κ C
  have C : oC κ (oM x) 2 cX10_seed RX10 wsX10_seed 4 (some .int) := C
  unfold f_X10_seed
  show oV κ (oM x) 2 (oQi κ (oM x)) σ 0 [(0, .ref (xa x 0)), (1, .int a1)] [] _
  refine r_aldn (pc := 0) C dX10_seed_0 0 rfl ?_
  refine r_iconst (pc := 1) (v := (1 : Int32)) C dX10_seed_1 ic_1 ?_
  refine r_ildn (pc := 2) C dX10_seed_2 1 rfl ?_
  refine k_X10_becomes (x := x) (pc := 3) (a1 := (1 : Int32)) (a2 := a1) C gX10_seed_X10_becomes (by omega)  (Nat.le_of_ble_eq_true rfl) dX10_seed_3 (fun r2 s1 => ?_)
  exact r_iret (pc := 6) C dX10_seed_6
set_option maxHeartbeats 4000000 in
set_option maxRecDepth 100000 in
theorem v_X10_sheet_93_b {κ : oK} {x : oXp} (C : oC κ (oM x) 5 cX10_sheet RX10 wsX10_sheet 5 (some .int))  (rec93 : Int32 → Int32 → Sg → Option (Int32 × Sg)) (hrec93 : ∀ (a1 : Int32) (a4 : Int32) (σ : Sg), oV κ (oM x) 5 (oQi κ (oM x)) σ 93 [(0, .ref (xa x 0)), (1, .int a1), (4, .int a4)] [] (rec93 a1 a4 σ)) (a1 : Int32) (a4 : Int32) (σ : Sg) : oV κ (oM x) 5 (oQi κ (oM x)) σ 93 [(0, .ref (xa x 0)), (1, .int a1), (4, .int a4)] [] (f_X10_sheet_93_b   rec93 a1 a4 σ) := by
  unfold f_X10_sheet_93_b
  refine r_ild (pc := 93) C dX10_sheet_93 2 rfl ?_
  refine r_bipush (pc := 95) (v := (24 : Int32)) C dX10_sheet_95 bp_24 ?_
  refine r_icge (pc := 97) (tgt := 119) C dX10_sheet_97 (by decide) ?_ ?_
  · refine r_iconst (pc := 119) (v := (1 : Int32)) C dX10_sheet_119 ic_1 ?_
    exact r_iret (pc := 120) C dX10_sheet_120
  · refine r_aldn (pc := 100) C dX10_sheet_100 0 rfl ?_
    refine gf_X10_7_0 (pc := 101) C hi_X10_sheet_X10 wd_X10_sheet_5 dX10_sheet_101 ?_
    refine r_bipush (pc := 104) (v := (24 : Int32)) C dX10_sheet_104 bp_24 ?_
    refine r_ildn (pc := 106) C dX10_sheet_106 1 rfl ?_
    refine r_imul (pc := 107) C dX10_sheet_107 ?_
    refine r_ild (pc := 108) C dX10_sheet_108 2 rfl ?_
    refine r_iadd (pc := 110) C dX10_sheet_110 ?_
    refine r_iconst (pc := 111) (v := (0 : Int32)) C dX10_sheet_111 ic_0 ?_
    refine iast_oM_7 (pc := 112) C dX10_sheet_112 (fun s1 => ?_)
    refine r_iinc (pc := 113) (v := (1 : Int32)) (lv1 := fun y => [(0, _), (1, _), (4, .int y)]) C dX10_sheet_113 ic_1 2 rfl (by decide) [1, 2, 0] (fun _ => rfl) (fun v2 => ?_)
    refine r_goto (pc := 116) (tgt := 93) C dX10_sheet_116 (by decide) ?_
    exact hrec93 a1 v2 s1
theorem v_X10_sheet_93 {κ : oK} {x : oXp} (C : oC κ (oM x) 5 cX10_sheet RX10 wsX10_sheet 5 (some .int))  : ∀ (n : Nat) (a1 : Int32) (a4 : Int32) (σ : Sg), oV κ (oM x) 5 (oQi κ (oM x)) σ 93 [(0, .ref (xa x 0)), (1, .int a1), (4, .int a4)] [] (f_X10_sheet_93   n a1 a4 σ) := by
  intro n
  induction n with
  | zero => intros; exact r_none
  | succ n ih => exact v_X10_sheet_93_b C  _ ih
set_option maxHeartbeats 4000000 in
set_option maxRecDepth 100000 in
theorem v_X10_sheet_68 {κ : oK} {x : oXp} (C : oC κ (oM x) 5 cX10_sheet RX10 wsX10_sheet 5 (some .int))  (a1 : Int32) (a2 : Int32) (a3 : Int32) (σ : Sg) : oV κ (oM x) 5 (oQi κ (oM x)) σ 68 [(0, .ref (xa x 0)), (1, .int a1), (2, .int a2), (3, .int a3)] [] (f_X10_sheet_68   a1 a2 a3 σ) := by
  unfold f_X10_sheet_68
  refine r_aldn (pc := 68) C dX10_sheet_68 0 rfl ?_
  refine gf_X10_5_0 (pc := 69) C hi_X10_sheet_X10 wd_X10_sheet_3 dX10_sheet_69 ?_
  refine r_ildn (pc := 72) C dX10_sheet_72 1 rfl ?_
  refine r_ildn (pc := 73) C dX10_sheet_73 2 rfl ?_
  refine iast_oM_5 (pc := 74) C dX10_sheet_74 (fun s3 => ?_)
  refine r_aldn (pc := 75) C dX10_sheet_75 0 rfl ?_
  refine gf_X10_6_0 (pc := 76) C hi_X10_sheet_X10 wd_X10_sheet_4 dX10_sheet_76 ?_
  refine r_ildn (pc := 79) C dX10_sheet_79 1 rfl ?_
  refine r_ildn (pc := 80) C dX10_sheet_80 2 rfl ?_
  refine r_ifne (pc := 81) (tgt := 88) C dX10_sheet_81 (by decide) ?_ ?_
  · refine r_ildn (pc := 88) C dX10_sheet_88 3 rfl ?_
    refine iast_oM_6 (pc := 89) C dX10_sheet_89 (fun s4 => ?_)
    refine r_iconst (pc := 90) (v := (0 : Int32)) C dX10_sheet_90 ic_0 ?_
    refine r_ist (pc := 91) (lv' := [(0, _), (1, _), (4, _)]) C dX10_sheet_91 (by decide) [1, 2, 0] rfl ?_
    exact v_X10_sheet_93 (x := x) C fuN a1 (0 : Int32) s4
  · refine r_iconst (pc := 84) (v := (0 : Int32)) C dX10_sheet_84 ic_0 ?_
    refine r_goto (pc := 85) (tgt := 89) C dX10_sheet_85 (by decide) ?_
    refine iast_oM_6 (pc := 89) C dX10_sheet_89 (fun s5 => ?_)
    refine r_iconst (pc := 90) (v := (0 : Int32)) C dX10_sheet_90 ic_0 ?_
    refine r_ist (pc := 91) (lv' := [(0, _), (1, _), (4, _)]) C dX10_sheet_91 (by decide) [1, 2, 0] rfl ?_
    exact v_X10_sheet_93 (x := x) C fuN a1 (0 : Int32) s5
set_option maxHeartbeats 4000000 in
set_option maxRecDepth 100000 in
theorem v_X10_sheet_51 {κ : oK} {x : oXp} (C : oC κ (oM x) 5 cX10_sheet RX10 wsX10_sheet 5 (some .int))  (a1 : Int32) (a2 : Int32) (a3 : Int32) (σ : Sg) : oV κ (oM x) 5 (oQi κ (oM x)) σ 51 [(0, .ref (xa x 0)), (1, .int a1), (2, .int a2), (3, .int a3)] [] (f_X10_sheet_51   a1 a2 a3 σ) := by
  unfold f_X10_sheet_51
  refine r_ildn (pc := 51) C dX10_sheet_51 2 rfl ?_
  refine r_ifle (pc := 52) (tgt := 68) C dX10_sheet_52 (by decide) ?_ ?_
  · exact v_X10_sheet_68 (x := x) C a1 a2 a3 σ
  · refine r_ildn (pc := 55) C dX10_sheet_55 3 rfl ?_
    refine r_bipush (pc := 56) (v := (24 : Int32)) C dX10_sheet_56 bp_24 ?_
    refine r_icle (pc := 58) (tgt := 68) C dX10_sheet_58 (by decide) ?_ ?_
    · exact v_X10_sheet_68 (x := x) C a1 a2 a3 σ
    · refine r_aldn (pc := 61) C dX10_sheet_61 0 rfl ?_
      refine r_ldc (pc := 62) (v := (-1000000001 : Int32)) C dX10_sheet_62 wd_X10_sheet_1 ?_
      refine k_X10_error (x := x) (pc := 64) (a1 := (-1000000001 : Int32)) C gX10_sheet_X10_error (by omega)  (Nat.le_of_ble_eq_true rfl) dX10_sheet_64 (fun r7 s6 => ?_)
      exact r_iret (pc := 67) C dX10_sheet_67
set_option maxHeartbeats 4000000 in
set_option maxRecDepth 100000 in
theorem v_X10_sheet_36 {κ : oK} {x : oXp} (C : oC κ (oM x) 5 cX10_sheet RX10 wsX10_sheet 5 (some .int))  (a1 : Int32) (a2 : Int32) (a3 : Int32) (σ : Sg) : oV κ (oM x) 5 (oQi κ (oM x)) σ 36 [(0, .ref (xa x 0)), (1, .int a1), (2, .int a2), (3, .int a3)] [] (f_X10_sheet_36   a1 a2 a3 σ) := by
  unfold f_X10_sheet_36
  refine r_ildn (pc := 36) C dX10_sheet_36 2 rfl ?_
  refine r_ifle (pc := 37) (tgt := 51) C dX10_sheet_37 (by decide) ?_ ?_
  · exact v_X10_sheet_51 (x := x) C a1 a2 a3 σ
  · refine r_ildn (pc := 40) C dX10_sheet_40 3 rfl ?_
    refine r_ifge (pc := 41) (tgt := 51) C dX10_sheet_41 (by decide) ?_ ?_
    · exact v_X10_sheet_51 (x := x) C a1 a2 a3 σ
    · refine r_aldn (pc := 44) C dX10_sheet_44 0 rfl ?_
      refine r_ldc (pc := 45) (v := (-1000000003 : Int32)) C dX10_sheet_45 wd_X10_sheet_2 ?_
      refine k_X10_error (x := x) (pc := 47) (a1 := (-1000000003 : Int32)) C gX10_sheet_X10_error (by omega)  (Nat.le_of_ble_eq_true rfl) dX10_sheet_47 (fun r9 s8 => ?_)
      exact r_iret (pc := 50) C dX10_sheet_50
set_option maxHeartbeats 4000000 in
set_option maxRecDepth 100000 in
theorem m_X10_sheet (l : Launch) (x : oXp) (hI : oI (oM x)) (a1 : Int32) (a2 : Int32) (a3 : Int32) (σ : Sg) : oMI l yX10_sheet wsX10_sheet 5 (oM x) [.ref (xa x 0), .int a1, .int a2, .int a3] σ (f_X10_sheet  a1 a2 a3 σ) := by
  refine oMI_of (nL := 5) (cc := cX10_sheet) hI (by decide +kernel) rfl (Nat.le_of_ble_eq_true rfl) ?_
  intro κ C
  have C : oC κ (oM x) 5 cX10_sheet RX10 wsX10_sheet 5 (some .int) := C
  unfold f_X10_sheet
  show oV κ (oM x) 5 (oQi κ (oM x)) σ 0 [(0, .ref (xa x 0)), (1, .int a1), (2, .int a2), (3, .int a3)] [] _
  refine r_ildn (pc := 0) C dX10_sheet_0 1 rfl ?_
  refine kS_X10_isSheet (x := x) (pc := 1) (a0 := a1) C gX10_sheet_X10_isSheet (by omega)  (Nat.le_of_ble_eq_true rfl) dX10_sheet_1 (fun r11 s10 => ?_)
  refine r_ifeq (pc := 4) (tgt := 29) C dX10_sheet_4 (by decide) ?_ ?_
  · refine r_aldn (pc := 29) C dX10_sheet_29 0 rfl ?_
    refine r_ldc (pc := 30) (v := (-1000000001 : Int32)) C dX10_sheet_30 wd_X10_sheet_1 ?_
    refine k_X10_error (x := x) (pc := 32) (a1 := (-1000000001 : Int32)) C gX10_sheet_X10_error (by omega)  (Nat.le_of_ble_eq_true rfl) dX10_sheet_32 (fun r13 s12 => ?_)
    exact r_iret (pc := 35) C dX10_sheet_35
  · refine r_ildn (pc := 7) C dX10_sheet_7 2 rfl ?_
    refine r_ifeq (pc := 8) (tgt := 36) C dX10_sheet_8 (by decide) ?_ ?_
    · exact v_X10_sheet_36 (x := x) C a1 a2 a3 s10
    · refine r_ildn (pc := 11) C dX10_sheet_11 2 rfl ?_
      refine r_bipush (pc := 12) (v := (8 : Int32)) C dX10_sheet_12 bp_8 ?_
      refine r_iceq (pc := 14) (tgt := 36) C dX10_sheet_14 (by decide) ?_ ?_
      · exact v_X10_sheet_36 (x := x) C a1 a2 a3 s10
      · refine r_ildn (pc := 17) C dX10_sheet_17 2 rfl ?_
        refine r_bipush (pc := 18) (v := (16 : Int32)) C dX10_sheet_18 bp_16 ?_
        refine r_iceq (pc := 20) (tgt := 36) C dX10_sheet_20 (by decide) ?_ ?_
        · exact v_X10_sheet_36 (x := x) C a1 a2 a3 s10
        · refine r_ildn (pc := 23) C dX10_sheet_23 2 rfl ?_
          refine r_bipush (pc := 24) (v := (32 : Int32)) C dX10_sheet_24 bp_32 ?_
          refine r_iceq (pc := 26) (tgt := 36) C dX10_sheet_26 (by decide) ?_ ?_
          · exact v_X10_sheet_36 (x := x) C a1 a2 a3 s10
          · refine r_aldn (pc := 29) C dX10_sheet_29 0 rfl ?_
            refine r_ldc (pc := 30) (v := (-1000000001 : Int32)) C dX10_sheet_30 wd_X10_sheet_1 ?_
            refine k_X10_error (x := x) (pc := 32) (a1 := (-1000000001 : Int32)) C gX10_sheet_X10_error (by omega)  (Nat.le_of_ble_eq_true rfl) dX10_sheet_32 (fun r15 s14 => ?_)
            exact r_iret (pc := 35) C dX10_sheet_35
set_option maxHeartbeats 4000000 in
set_option maxRecDepth 100000 in
theorem m_X10_spirit (l : Launch) (x : oXp) (hI : oI (oM x)) (a1 : Int32) (σ : Sg) : oMI l yX10_spirit wsX10_spirit 4 (oM x) [.ref (xa x 0), .int a1] σ (f_X10_spirit  a1 σ) := by
  refine oMI_of (nL := 2) (cc := cX10_spirit) hI (by decide +kernel) rfl (Nat.le_of_ble_eq_true rfl) ?_
  intro κ C
  have C : oC κ (oM x) 2 cX10_spirit RX10 wsX10_spirit 4 (some .int) := C
  unfold f_X10_spirit
  show oV κ (oM x) 2 (oQi κ (oM x)) σ 0 [(0, .ref (xa x 0)), (1, .int a1)] [] _
  refine r_ildn (pc := 0) C dX10_spirit_0 1 rfl ?_
  refine r_iconst (pc := 1) (v := (0 : Int32)) C dX10_spirit_1 ic_0 ?_
  refine r_iconst (pc := 2) (v := (1 : Int32)) C dX10_spirit_2 ic_1 ?_
  refine kS_X10_in (x := x) (pc := 3) (a0 := a1) (a1 := (0 : Int32)) (a2 := (1 : Int32)) C gX10_spirit_X10_in (by omega)  (Nat.le_of_ble_eq_true rfl) dX10_spirit_3 (fun r2 s1 => ?_)
  refine r_ifeq (pc := 6) (tgt := 18) C dX10_spirit_6 (by decide) ?_ ?_
  · refine r_aldn (pc := 18) C dX10_spirit_18 0 rfl ?_
    refine r_ldc (pc := 19) (v := (-1000000001 : Int32)) C dX10_spirit_19 wd_X10_spirit_1 ?_
    refine k_X10_error (x := x) (pc := 21) (a1 := (-1000000001 : Int32)) C gX10_spirit_X10_error (by omega)  (Nat.le_of_ble_eq_true rfl) dX10_spirit_21 (fun r4 s3 => ?_)
    exact r_iret (pc := 24) C dX10_spirit_24
  · refine r_aldn (pc := 9) C dX10_spirit_9 0 rfl ?_
    refine r_iconst (pc := 10) (v := (3 : Int32)) C dX10_spirit_10 ic_3 ?_
    refine r_ildn (pc := 11) C dX10_spirit_11 1 rfl ?_
    refine k_X10_becomes (x := x) (pc := 12) (a1 := (3 : Int32)) (a2 := a1) C gX10_spirit_X10_becomes (by omega)  (Nat.le_of_ble_eq_true rfl) dX10_spirit_12 (fun r6 s5 => ?_)
    refine r_goto (pc := 15) (tgt := 24) C dX10_spirit_15 (by decide) ?_
    exact r_iret (pc := 24) C dX10_spirit_24
