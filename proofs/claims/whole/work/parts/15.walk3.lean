set_option maxHeartbeats 4000000 in
set_option maxRecDepth 100000 in
theorem v_X10_clearsDay_2_b {κ : oK} {x : oXp} (C : oC κ (oM x) 2 cX10_clearsDay RX10 wsX10_clearsDay 5 none)  (rec2 : Int32 → Sg → Option (Unit × Sg)) (hrec2 : ∀ (a1 : Int32) (σ : Sg), oV κ (oM x) 2 (oQv κ (oM x)) σ 2 [(0, .ref (xa x 0)), (1, .int a1)] [] (rec2 a1 σ)) (a1 : Int32) (σ : Sg) : oV κ (oM x) 2 (oQv κ (oM x)) σ 2 [(0, .ref (xa x 0)), (1, .int a1)] [] (f_X10_clearsDay_2_b   rec2 a1 σ) := by
  unfold f_X10_clearsDay_2_b
  refine r_ildn (pc := 2) C dX10_clearsDay_2 1 rfl ?_
  refine r_aldn (pc := 3) C dX10_clearsDay_3 0 rfl ?_
  refine gf_X10_0_0 (pc := 4) C hi_X10_clearsDay_X10 wd_X10_clearsDay_1 dX10_clearsDay_4 ?_
  refine r_iconst (pc := 7) (v := (2 : Int32)) C dX10_clearsDay_7 ic_2 ?_
  refine iald_oM_1 (pc := 8) C dX10_clearsDay_8 ?_
  refine r_icge (pc := 9) (tgt := 34) C dX10_clearsDay_9 (by decide) ?_ ?_
  · refine r_aldn (pc := 34) C dX10_clearsDay_34 0 rfl ?_
    refine gf_X10_0_0 (pc := 35) C hi_X10_clearsDay_X10 wd_X10_clearsDay_1 dX10_clearsDay_35 ?_
    refine r_iconst (pc := 38) (v := (0 : Int32)) C dX10_clearsDay_38 ic_0 ?_
    refine r_dup2 (pc := 39) C dX10_clearsDay_39 rfl rfl ?_
    refine iald_oM_1 (pc := 40) C dX10_clearsDay_40 ?_
    refine r_iconst (pc := 41) (v := (1 : Int32)) C dX10_clearsDay_41 ic_1 ?_
    refine r_iadd (pc := 42) C dX10_clearsDay_42 ?_
    refine iast_oM_1 (pc := 43) C dX10_clearsDay_43 (fun s1 => ?_)
    exact r_vret (pc := 44) C dX10_clearsDay_44
  · refine r_aldn (pc := 12) C dX10_clearsDay_12 0 rfl ?_
    refine r_ildn (pc := 13) C dX10_clearsDay_13 1 rfl ?_
    refine k_X10_mayGo (x := x) (pc := 14) (a1 := a1) C gX10_clearsDay_X10_mayGo (by omega)  (Nat.le_of_ble_eq_true rfl) dX10_clearsDay_14 (fun r3 s2 => ?_)
    refine r_ifeq (pc := 17) (tgt := 28) C dX10_clearsDay_17 (by decide) ?_ ?_
    · refine r_iinc (pc := 28) (v := (1 : Int32)) (lv1 := fun y => [(0, _), (1, .int y)]) C dX10_clearsDay_28 ic_1 1 rfl (by decide) [1, 0] (fun _ => rfl) (fun v4 => ?_)
      refine r_goto (pc := 31) (tgt := 2) C dX10_clearsDay_31 (by decide) ?_
      exact hrec2 v4 s2
    · refine r_aldn (pc := 20) C dX10_clearsDay_20 0 rfl ?_
      refine r_ildn (pc := 21) C dX10_clearsDay_21 1 rfl ?_
      refine r_bipush (pc := 22) (v := (6 : Int32)) C dX10_clearsDay_22 bp_6 ?_
      refine r_iconst (pc := 24) (v := (1 : Int32)) C dX10_clearsDay_24 ic_1 ?_
      refine k_X10_lets (x := x) (pc := 25) (a1 := a1) (a2 := (6 : Int32)) (a3 := (1 : Int32)) C gX10_clearsDay_X10_lets (by omega)  (Nat.le_of_ble_eq_true rfl) dX10_clearsDay_25 (fun _ s5 => ?_)
      refine r_iinc (pc := 28) (v := (1 : Int32)) (lv1 := fun y => [(0, _), (1, .int y)]) C dX10_clearsDay_28 ic_1 1 rfl (by decide) [1, 0] (fun _ => rfl) (fun v7 => ?_)
      refine r_goto (pc := 31) (tgt := 2) C dX10_clearsDay_31 (by decide) ?_
      exact hrec2 v7 s5
theorem v_X10_clearsDay_2 {κ : oK} {x : oXp} (C : oC κ (oM x) 2 cX10_clearsDay RX10 wsX10_clearsDay 5 none)  : ∀ (n : Nat) (a1 : Int32) (σ : Sg), oV κ (oM x) 2 (oQv κ (oM x)) σ 2 [(0, .ref (xa x 0)), (1, .int a1)] [] (f_X10_clearsDay_2   n a1 σ) := by
  intro n
  induction n with
  | zero => intros; exact r_none
  | succ n ih => exact v_X10_clearsDay_2_b C  _ ih
set_option maxHeartbeats 4000000 in
set_option maxRecDepth 100000 in
theorem m_X10_clearsDay (l : Launch) (x : oXp) (hI : oI (oM x))  (σ : Sg) : oMV l yX10_clearsDay wsX10_clearsDay 5 (oM x) [.ref (xa x 0)] σ (f_X10_clearsDay   σ) := by
  refine oMV_of (nL := 2) (cc := cX10_clearsDay) hI (by decide +kernel) rfl (Nat.le_of_ble_eq_true rfl) ?_
  intro κ C
  have C : oC κ (oM x) 2 cX10_clearsDay RX10 wsX10_clearsDay 5 none := C
  unfold f_X10_clearsDay
  show oV κ (oM x) 2 (oQv κ (oM x)) σ 0 [(0, .ref (xa x 0))] [] _
  refine r_iconst (pc := 0) (v := (0 : Int32)) C dX10_clearsDay_0 ic_0 ?_
  refine r_istn (pc := 1) (lv' := [(0, _), (1, _)]) C dX10_clearsDay_1 (by decide) [1, 0] rfl ?_
  exact v_X10_clearsDay_2 (x := x) C fuN (0 : Int32) σ
theorem k_X10_clearsDay {κ : oK} {nL : Nat} {cc : ByteArray} {own : String} {Ts : List Cond} {n : Nat} {ret : Option FieldType} {α : Type} {Q : α → Sg → State → Prop} {σ : Sg} {pc : Nat} {lv : List (Nat × Value)} {st : List Value} {x : oXp} {idx : Nat}  {K : Unit → Sg → Option (α × Sg)} (C : oC κ (oM x) nL cc own Ts n ret) (hG : GoodIn Ts (wsV own idx RX10 yX10_clearsDay wsX10_clearsDay)) (hn : 5 + 1 ≤ n) (hst : (st.map fun v => v.category).sum ≤ 8) (hd : decode cc pc = .ok (.invokevirtual idx, 3)) (kk : ∀ (r1 : Unit) (σ1 : Sg), oV κ (oM x) nL Q σ1 (pc + 3) lv (st) (K r1 σ1)) : oV κ (oM x) nL Q σ pc lv (.ref (xa x 0) :: st) (bnd (f_X10_clearsDay  σ) K) := by
  have hI : oI (oM x) := oC_I C
  exact r_cVv (As := []) (na := 0) (j := 0) (ci := 10) C (fun l => m_X10_clearsDay l x hI  σ) hG rfl (by decide +kernel) rfl (by decide) hn (by show 0 < 14; decide) rfl rfl rfl rfl hst hd kk
set_option maxHeartbeats 4000000 in
set_option maxRecDepth 100000 in
theorem v_X10_takenBy_43 {κ : oK} {x : oXp} (C : oC κ (oM x) 5 cX10_takenBy RX10 wsX10_takenBy 4 (some .int)) (rec4 : Int32 → Int32 → Int32 → Sg → Option (Int32 × Sg)) (hrec4 : ∀ (a1 : Int32) (a2 : Int32) (a3 : Int32) (σ : Sg), oV κ (oM x) 5 (oQi κ (oM x)) σ 4 [(0, .ref (xa x 0)), (1, .int a1), (2, .int a2), (3, .int a3)] [] (rec4 a1 a2 a3 σ)) (a1 : Int32) (a2 : Int32) (a3 : Int32) (t0 : Int32) (σ : Sg) : oV κ (oM x) 5 (oQi κ (oM x)) σ 43 [(0, .ref (xa x 0)), (1, .int a1), (2, .int a2), (3, .int a3)] [.int t0] (f_X10_takenBy_43  rec4 a1 a2 a3 t0 σ) := by
  unfold f_X10_takenBy_43
  refine r_ist (pc := 43) (lv' := [(0, _), (1, _), (2, _), (3, _), (4, _)]) C dX10_takenBy_43 (by decide) [1, 2, 3, 4, 0] rfl ?_
  refine r_ildn (pc := 45) C dX10_takenBy_45 2 rfl ?_
  refine r_ild (pc := 46) C dX10_takenBy_46 4 rfl ?_
  refine r_ifeq (pc := 48) (tgt := 60) C dX10_takenBy_48 (by decide) ?_ ?_
  · refine r_iconst (pc := 60) (v := (0 : Int32)) C dX10_takenBy_60 ic_0 ?_
    refine r_ior (pc := 61) C dX10_takenBy_61 ?_
    refine r_nm (fun v1 => ?_)
    refine r_istn (pc := 62) (lv' := [(0, _), (1, _), (2, _), (3, _)]) C dX10_takenBy_62 (by decide) [1, 2, 0, 3] rfl ?_
    refine r_iinc (pc := 63) (v := (1 : Int32)) (lv1 := fun y => [(0, _), (1, _), (2, _), (3, .int y)]) C dX10_takenBy_63 ic_1 3 rfl (by decide) [1, 2, 3, 0] (fun _ => rfl) (fun v2 => ?_)
    refine r_goto (pc := 66) (tgt := 4) C dX10_takenBy_66 (by decide) ?_
    exact hrec4 a1 v1 v2 σ
  · refine r_aldn (pc := 51) C dX10_takenBy_51 0 rfl ?_
    refine r_ildn (pc := 52) C dX10_takenBy_52 3 rfl ?_
    refine r_iconst (pc := 53) (v := (2 : Int32)) C dX10_takenBy_53 ic_2 ?_
    refine k_X10_it (x := x) (pc := 54) (a1 := a3) (a2 := (2 : Int32)) C gX10_takenBy_X10_it (by omega)  (Nat.le_of_ble_eq_true rfl) dX10_takenBy_54 (fun r4 s3 => ?_)
    refine r_goto (pc := 57) (tgt := 61) C dX10_takenBy_57 (by decide) ?_
    refine r_ior (pc := 61) C dX10_takenBy_61 ?_
    refine r_nm (fun v5 => ?_)
    refine r_istn (pc := 62) (lv' := [(0, _), (1, _), (2, _), (3, _)]) C dX10_takenBy_62 (by decide) [1, 2, 0, 3] rfl ?_
    refine r_iinc (pc := 63) (v := (1 : Int32)) (lv1 := fun y => [(0, _), (1, _), (2, _), (3, .int y)]) C dX10_takenBy_63 ic_1 3 rfl (by decide) [1, 2, 3, 0] (fun _ => rfl) (fun v6 => ?_)
    refine r_goto (pc := 66) (tgt := 4) C dX10_takenBy_66 (by decide) ?_
    exact hrec4 a1 v5 v6 s3
set_option maxHeartbeats 4000000 in
set_option maxRecDepth 100000 in
theorem v_X10_takenBy_4_b {κ : oK} {x : oXp} (C : oC κ (oM x) 5 cX10_takenBy RX10 wsX10_takenBy 4 (some .int))  (rec4 : Int32 → Int32 → Int32 → Sg → Option (Int32 × Sg)) (hrec4 : ∀ (a1 : Int32) (a2 : Int32) (a3 : Int32) (σ : Sg), oV κ (oM x) 5 (oQi κ (oM x)) σ 4 [(0, .ref (xa x 0)), (1, .int a1), (2, .int a2), (3, .int a3)] [] (rec4 a1 a2 a3 σ)) (a1 : Int32) (a2 : Int32) (a3 : Int32) (σ : Sg) : oV κ (oM x) 5 (oQi κ (oM x)) σ 4 [(0, .ref (xa x 0)), (1, .int a1), (2, .int a2), (3, .int a3)] [] (f_X10_takenBy_4_b   rec4 a1 a2 a3 σ) := by
  unfold f_X10_takenBy_4_b
  refine r_ildn (pc := 4) C dX10_takenBy_4 3 rfl ?_
  refine r_aldn (pc := 5) C dX10_takenBy_5 0 rfl ?_
  refine gf_X10_0_0 (pc := 6) C hi_X10_takenBy_X10 wd_X10_takenBy_1 dX10_takenBy_6 ?_
  refine r_iconst (pc := 9) (v := (2 : Int32)) C dX10_takenBy_9 ic_2 ?_
  refine iald_oM_1 (pc := 10) C dX10_takenBy_10 ?_
  refine r_icge (pc := 11) (tgt := 69) C dX10_takenBy_11 (by decide) ?_ ?_
  · refine r_ildn (pc := 69) C dX10_takenBy_69 2 rfl ?_
    exact r_iret (pc := 70) C dX10_takenBy_70
  · refine r_aldn (pc := 14) C dX10_takenBy_14 0 rfl ?_
    refine r_ildn (pc := 15) C dX10_takenBy_15 3 rfl ?_
    refine r_bipush (pc := 16) (v := (6 : Int32)) C dX10_takenBy_16 bp_6 ?_
    refine k_X10_it (x := x) (pc := 18) (a1 := a3) (a2 := (6 : Int32)) C gX10_takenBy_X10_it (by omega)  (Nat.le_of_ble_eq_true rfl) dX10_takenBy_18 (fun r8 s7 => ?_)
    refine r_ifne (pc := 21) (tgt := 42) C dX10_takenBy_21 (by decide) ?_ ?_
    · refine r_iconst (pc := 42) (v := (0 : Int32)) C dX10_takenBy_42 ic_0 ?_
      exact v_X10_takenBy_43 (x := x) C _ hrec4 a1 a2 a3 (0 : Int32) s7
    · refine r_ildn (pc := 24) C dX10_takenBy_24 1 rfl ?_
      refine r_iflt (pc := 25) (tgt := 38) C dX10_takenBy_25 (by decide) ?_ ?_
      · refine r_iconst (pc := 38) (v := (1 : Int32)) C dX10_takenBy_38 ic_1 ?_
        refine r_goto (pc := 39) (tgt := 43) C dX10_takenBy_39 (by decide) ?_
        exact v_X10_takenBy_43 (x := x) C _ hrec4 a1 a2 a3 (1 : Int32) s7
      · refine r_aldn (pc := 28) C dX10_takenBy_28 0 rfl ?_
        refine r_ildn (pc := 29) C dX10_takenBy_29 3 rfl ?_
        refine r_iconst (pc := 30) (v := (3 : Int32)) C dX10_takenBy_30 ic_3 ?_
        refine k_X10_it (x := x) (pc := 31) (a1 := a3) (a2 := (3 : Int32)) C gX10_takenBy_X10_it (by omega)  (Nat.le_of_ble_eq_true rfl) dX10_takenBy_31 (fun r10 s9 => ?_)
        refine r_ildn (pc := 34) C dX10_takenBy_34 1 rfl ?_
        refine r_icne (pc := 35) (tgt := 42) C dX10_takenBy_35 (by decide) ?_ ?_
        · refine r_iconst (pc := 42) (v := (0 : Int32)) C dX10_takenBy_42 ic_0 ?_
          exact v_X10_takenBy_43 (x := x) C _ hrec4 a1 a2 a3 (0 : Int32) s9
        · refine r_iconst (pc := 38) (v := (1 : Int32)) C dX10_takenBy_38 ic_1 ?_
          refine r_goto (pc := 39) (tgt := 43) C dX10_takenBy_39 (by decide) ?_
          exact v_X10_takenBy_43 (x := x) C _ hrec4 a1 a2 a3 (1 : Int32) s9
theorem v_X10_takenBy_4 {κ : oK} {x : oXp} (C : oC κ (oM x) 5 cX10_takenBy RX10 wsX10_takenBy 4 (some .int))  : ∀ (n : Nat) (a1 : Int32) (a2 : Int32) (a3 : Int32) (σ : Sg), oV κ (oM x) 5 (oQi κ (oM x)) σ 4 [(0, .ref (xa x 0)), (1, .int a1), (2, .int a2), (3, .int a3)] [] (f_X10_takenBy_4   n a1 a2 a3 σ) := by
  intro n
  induction n with
  | zero => intros; exact r_none
  | succ n ih => exact v_X10_takenBy_4_b C  _ ih
set_option maxHeartbeats 4000000 in
set_option maxRecDepth 100000 in
theorem m_X10_takenBy (l : Launch) (x : oXp) (hI : oI (oM x)) (a1 : Int32) (σ : Sg) : oMI l yX10_takenBy wsX10_takenBy 4 (oM x) [.ref (xa x 0), .int a1] σ (f_X10_takenBy  a1 σ) := by
  refine oMI_of (nL := 5) (cc := cX10_takenBy) hI (by decide +kernel) rfl (Nat.le_of_ble_eq_true rfl) ?_
  intro κ C
  have C : oC κ (oM x) 5 cX10_takenBy RX10 wsX10_takenBy 4 (some .int) := C
  unfold f_X10_takenBy
  show oV κ (oM x) 5 (oQi κ (oM x)) σ 0 [(0, .ref (xa x 0)), (1, .int a1)] [] _
  refine r_iconst (pc := 0) (v := (0 : Int32)) C dX10_takenBy_0 ic_0 ?_
  refine r_istn (pc := 1) (lv' := [(0, _), (1, _), (2, _)]) C dX10_takenBy_1 (by decide) [1, 2, 0] rfl ?_
  refine r_iconst (pc := 2) (v := (0 : Int32)) C dX10_takenBy_2 ic_0 ?_
  refine r_istn (pc := 3) (lv' := [(0, _), (1, _), (2, _), (3, _)]) C dX10_takenBy_3 (by decide) [1, 2, 3, 0] rfl ?_
  exact v_X10_takenBy_4 (x := x) C fuN a1 (0 : Int32) (0 : Int32) σ
theorem k_X10_takenBy {κ : oK} {nL : Nat} {cc : ByteArray} {own : String} {Ts : List Cond} {n : Nat} {ret : Option FieldType} {α : Type} {Q : α → Sg → State → Prop} {σ : Sg} {pc : Nat} {lv : List (Nat × Value)} {st : List Value} {x : oXp} {idx : Nat} {a1 : Int32} {K : Int32 → Sg → Option (α × Sg)} (C : oC κ (oM x) nL cc own Ts n ret) (hG : GoodIn Ts (wsV own idx RX10 yX10_takenBy wsX10_takenBy)) (hn : 4 + 1 ≤ n) (hst : (st.map fun v => v.category).sum ≤ 8) (hd : decode cc pc = .ok (.invokevirtual idx, 3)) (kk : ∀ (r1 : Int32) (σ1 : Sg), oV κ (oM x) nL Q σ1 (pc + 3) lv (.int r1 :: st) (K r1 σ1)) : oV κ (oM x) nL Q σ pc lv (.int a1 :: .ref (xa x 0) :: st) (bnd (f_X10_takenBy a1 σ) K) := by
  have hI : oI (oM x) := oC_I C
  exact r_cVi (As := [.int a1]) (na := 1) (j := 0) (ci := 10) C (fun l => m_X10_takenBy l x hI a1 σ) hG rfl (by decide +kernel) rfl (by decide) hn (by show 0 < 14; decide) rfl rfl rfl rfl hst hd kk
set_option maxHeartbeats 4000000 in
set_option maxRecDepth 100000 in
theorem m_X10_putsBack (l : Launch) (x : oXp) (hI : oI (oM x))  (σ : Sg) : oMV l yX10_putsBack wsX10_putsBack 4 (oM x) [.ref (xa x 0)] σ (f_X10_putsBack   σ) := by
  refine oMV_of (nL := 1) (cc := cX10_putsBack) hI (by decide +kernel) rfl (Nat.le_of_ble_eq_true rfl) ?_
  intro κ C
  have C : oC κ (oM x) 1 cX10_putsBack RX10 wsX10_putsBack 4 none := C
  unfold f_X10_putsBack
  show oV κ (oM x) 1 (oQv κ (oM x)) σ 0 [(0, .ref (xa x 0))] [] _
  refine r_aldn (pc := 0) C dX10_putsBack_0 0 rfl ?_
  refine gf_X10_2_0 (pc := 1) C hi_X10_putsBack_X10 wd_X10_putsBack_1 dX10_putsBack_1 ?_
  refine r_aldn (pc := 4) C dX10_putsBack_4 0 rfl ?_
  refine gf_X10_0_0 (pc := 5) C hi_X10_putsBack_X10 wd_X10_putsBack_2 dX10_putsBack_5 ?_
  refine kS_X10_copyAll (x := x) (pc := 8) (o0 := 3) (o1 := 1) C gX10_putsBack_X10_copyAll (by omega) (by omega) (by omega) (by omega) (by omega) (Nat.le_of_ble_eq_true rfl) dX10_putsBack_8 (fun _ s1 => ?_)
  exact r_vret (pc := 11) C dX10_putsBack_11
theorem k_X10_putsBack {κ : oK} {nL : Nat} {cc : ByteArray} {own : String} {Ts : List Cond} {n : Nat} {ret : Option FieldType} {α : Type} {Q : α → Sg → State → Prop} {σ : Sg} {pc : Nat} {lv : List (Nat × Value)} {st : List Value} {x : oXp} {idx : Nat}  {K : Unit → Sg → Option (α × Sg)} (C : oC κ (oM x) nL cc own Ts n ret) (hG : GoodIn Ts (wsV own idx RX10 yX10_putsBack wsX10_putsBack)) (hn : 4 + 1 ≤ n) (hst : (st.map fun v => v.category).sum ≤ 8) (hd : decode cc pc = .ok (.invokevirtual idx, 3)) (kk : ∀ (r1 : Unit) (σ1 : Sg), oV κ (oM x) nL Q σ1 (pc + 3) lv (st) (K r1 σ1)) : oV κ (oM x) nL Q σ pc lv (.ref (xa x 0) :: st) (bnd (f_X10_putsBack  σ) K) := by
  have hI : oI (oM x) := oC_I C
  exact r_cVv (As := []) (na := 0) (j := 0) (ci := 10) C (fun l => m_X10_putsBack l x hI  σ) hG rfl (by decide +kernel) rfl (by decide) hn (by show 0 < 14; decide) rfl rfl rfl rfl hst hd kk
set_option maxHeartbeats 4000000 in
set_option maxRecDepth 100000 in
theorem v_X10_clears_23_b {κ : oK} {x : oXp} (C : oC κ (oM x) 3 cX10_clears RX10 wsX10_clears 6 (some .int))  (rec23 : Int32 → Int32 → Sg → Option (Int32 × Sg)) (hrec23 : ∀ (a1 : Int32) (a2 : Int32) (σ : Sg), oV κ (oM x) 3 (oQi κ (oM x)) σ 23 [(0, .ref (xa x 0)), (1, .int a1), (2, .int a2)] [] (rec23 a1 a2 σ)) (a1 : Int32) (a2 : Int32) (σ : Sg) : oV κ (oM x) 3 (oQi κ (oM x)) σ 23 [(0, .ref (xa x 0)), (1, .int a1), (2, .int a2)] [] (f_X10_clears_23_b   rec23 a1 a2 σ) := by
  unfold f_X10_clears_23_b
  refine r_ildn (pc := 23) C dX10_clears_23 2 rfl ?_
  refine r_ildn (pc := 24) C dX10_clears_24 1 rfl ?_
  refine r_icge (pc := 25) (tgt := 38) C dX10_clears_25 (by decide) ?_ ?_
  · refine r_aldn (pc := 38) C dX10_clears_38 0 rfl ?_
    refine r_iconst (pc := 39) (v := (-1 : Int32)) C dX10_clears_39 ic_m1 ?_
    refine k_X10_takenBy (x := x) (pc := 40) (a1 := (-1 : Int32)) C gX10_clears_X10_takenBy (by omega)  (Nat.le_of_ble_eq_true rfl) dX10_clears_40 (fun r2 s1 => ?_)
    refine r_istn (pc := 43) (lv' := [(0, _), (2, _)]) C dX10_clears_43 (by decide) [1, 0] rfl ?_
    refine r_aldn (pc := 44) C dX10_clears_44 0 rfl ?_
    refine k_X10_putsBack (x := x) (pc := 45)  C gX10_clears_X10_putsBack (by omega)  (Nat.le_of_ble_eq_true rfl) dX10_clears_45 (fun _ s3 => ?_)
    refine r_ildn (pc := 48) C dX10_clears_48 1 rfl ?_
    exact r_iret (pc := 49) C dX10_clears_49
  · refine r_aldn (pc := 28) C dX10_clears_28 0 rfl ?_
    refine k_X10_clearsDay (x := x) (pc := 29)  C gX10_clears_X10_clearsDay (by omega)  (Nat.le_of_ble_eq_true rfl) dX10_clears_29 (fun _ s5 => ?_)
    refine r_iinc (pc := 32) (v := (1 : Int32)) (lv1 := fun y => [(0, _), (1, _), (2, .int y)]) C dX10_clears_32 ic_1 2 rfl (by decide) [1, 2, 0] (fun _ => rfl) (fun v7 => ?_)
    refine r_goto (pc := 35) (tgt := 23) C dX10_clears_35 (by decide) ?_
    exact hrec23 a1 v7 s5
theorem v_X10_clears_23 {κ : oK} {x : oXp} (C : oC κ (oM x) 3 cX10_clears RX10 wsX10_clears 6 (some .int))  : ∀ (n : Nat) (a1 : Int32) (a2 : Int32) (σ : Sg), oV κ (oM x) 3 (oQi κ (oM x)) σ 23 [(0, .ref (xa x 0)), (1, .int a1), (2, .int a2)] [] (f_X10_clears_23   n a1 a2 σ) := by
  intro n
  induction n with
  | zero => intros; exact r_none
  | succ n ih => exact v_X10_clears_23_b C  _ ih
set_option maxHeartbeats 4000000 in
set_option maxRecDepth 100000 in
theorem m_X10_clears (l : Launch) (x : oXp) (hI : oI (oM x)) (a1 : Int32) (σ : Sg) : oMI l yX10_clears wsX10_clears 6 (oM x) [.ref (xa x 0), .int a1] σ (f_X10_clears  a1 σ) := by
  refine oMI_of (nL := 3) (cc := cX10_clears) hI (by decide +kernel) rfl (Nat.le_of_ble_eq_true rfl) ?_
  intro κ C
  have C : oC κ (oM x) 3 cX10_clears RX10 wsX10_clears 6 (some .int) := C
  unfold f_X10_clears
  show oV κ (oM x) 3 (oQi κ (oM x)) σ 0 [(0, .ref (xa x 0)), (1, .int a1)] [] _
  refine r_ildn (pc := 0) C dX10_clears_0 1 rfl ?_
  refine r_iconst (pc := 1) (v := (0 : Int32)) C dX10_clears_1 ic_0 ?_
  refine r_bipush (pc := 2) (v := (90 : Int32)) C dX10_clears_2 bp_90 ?_
  refine kS_X10_in (x := x) (pc := 4) (a0 := a1) (a1 := (0 : Int32)) (a2 := (90 : Int32)) C gX10_clears_X10_in (by omega)  (Nat.le_of_ble_eq_true rfl) dX10_clears_4 (fun r9 s8 => ?_)
  refine r_ifne (pc := 7) (tgt := 17) C dX10_clears_7 (by decide) ?_ ?_
  · refine r_aldn (pc := 17) C dX10_clears_17 0 rfl ?_
    refine k_X10_thinks (x := x) (pc := 18)  C gX10_clears_X10_thinks (by omega)  (Nat.le_of_ble_eq_true rfl) dX10_clears_18 (fun _ s10 => ?_)
    refine r_iconst (pc := 21) (v := (0 : Int32)) C dX10_clears_21 ic_0 ?_
    refine r_istn (pc := 22) (lv' := [(0, _), (1, _), (2, _)]) C dX10_clears_22 (by decide) [1, 2, 0] rfl ?_
    exact v_X10_clears_23 (x := x) C fuN a1 (0 : Int32) s10
  · refine r_aldn (pc := 10) C dX10_clears_10 0 rfl ?_
    refine r_ldc (pc := 11) (v := (-1000000001 : Int32)) C dX10_clears_11 wd_X10_clears_1 ?_
    refine k_X10_error (x := x) (pc := 13) (a1 := (-1000000001 : Int32)) C gX10_clears_X10_error (by omega)  (Nat.le_of_ble_eq_true rfl) dX10_clears_13 (fun r13 s12 => ?_)
    exact r_iret (pc := 16) C dX10_clears_16
set_option maxHeartbeats 4000000 in
set_option maxRecDepth 100000 in
theorem m_X10_comes (l : Launch) (x : oXp) (hI : oI (oM x)) (a1 : Int32) (a2 : Int32) (a3 : Int32) (σ : Sg) : oMI l yX10_comes wsX10_comes 4 (oM x) [.ref (xa x 0), .int a1, .int a2, .int a3] σ (f_X10_comes  a1 a2 a3 σ) := by
  refine oMI_of (nL := 5) (cc := cX10_comes) hI (by decide +kernel) rfl (Nat.le_of_ble_eq_true rfl) ?_
  intro κ C
  have C : oC κ (oM x) 5 cX10_comes RX10 wsX10_comes 4 (some .int) := C
  unfold f_X10_comes
  show oV κ (oM x) 5 (oQi κ (oM x)) σ 0 [(0, .ref (xa x 0)), (1, .int a1), (2, .int a2), (3, .int a3)] [] _
  refine r_aldn (pc := 0) C dX10_comes_0 0 rfl ?_
  refine gf_X10_0_0 (pc := 1) C hi_X10_comes_X10 wd_X10_comes_1 dX10_comes_1 ?_
  refine r_iconst (pc := 4) (v := (2 : Int32)) C dX10_comes_4 ic_2 ?_
  refine iald_oM_1 (pc := 5) C dX10_comes_5 ?_
  refine r_nm (fun v1 => ?_)
  refine r_ist (pc := 6) (lv' := [(0, _), (1, _), (2, _), (3, _), (4, _)]) C dX10_comes_6 (by decide) [1, 2, 3, 4, 0] rfl ?_
  refine r_aldn (pc := 8) C dX10_comes_8 0 rfl ?_
  refine gf_X10_0_0 (pc := 9) C hi_X10_comes_X10 wd_X10_comes_1 dX10_comes_9 ?_
  refine r_iconst (pc := 12) (v := (2 : Int32)) C dX10_comes_12 ic_2 ?_
  refine r_dup2 (pc := 13) C dX10_comes_13 rfl rfl ?_
  refine iald_oM_1 (pc := 14) C dX10_comes_14 ?_
  refine r_iconst (pc := 15) (v := (1 : Int32)) C dX10_comes_15 ic_1 ?_
  refine r_iadd (pc := 16) C dX10_comes_16 ?_
  refine iast_oM_1 (pc := 17) C dX10_comes_17 (fun s2 => ?_)
  refine r_aldn (pc := 18) C dX10_comes_18 0 rfl ?_
  refine r_ild (pc := 19) C dX10_comes_19 4 rfl ?_
  refine r_iconst (pc := 21) (v := (0 : Int32)) C dX10_comes_21 ic_0 ?_
  refine r_ildn (pc := 22) C dX10_comes_22 1 rfl ?_
  refine r_bipush (pc := 23) (v := (10 : Int32)) C dX10_comes_23 bp_10 ?_
  refine r_idiv (pc := 25) C dX10_comes_25 (by decide) ?_
  refine k_X10_lets (x := x) (pc := 26) (a1 := v1) (a2 := (0 : Int32)) (a3 := (a1 / (10 : Int32))) C gX10_comes_X10_lets (by omega)  (Nat.le_of_ble_eq_true rfl) dX10_comes_26 (fun _ s3 => ?_)
  refine r_aldn (pc := 29) C dX10_comes_29 0 rfl ?_
  refine r_ild (pc := 30) C dX10_comes_30 4 rfl ?_
  refine r_iconst (pc := 32) (v := (1 : Int32)) C dX10_comes_32 ic_1 ?_
  refine r_ildn (pc := 33) C dX10_comes_33 1 rfl ?_
  refine r_bipush (pc := 34) (v := (10 : Int32)) C dX10_comes_34 bp_10 ?_
  refine r_irem (pc := 36) C dX10_comes_36 (by decide) ?_
  refine k_X10_lets (x := x) (pc := 37) (a1 := v1) (a2 := (1 : Int32)) (a3 := (irm a1 (10 : Int32))) C gX10_comes_X10_lets (by omega)  (Nat.le_of_ble_eq_true rfl) dX10_comes_37 (fun _ s5 => ?_)
  refine r_aldn (pc := 40) C dX10_comes_40 0 rfl ?_
  refine r_ild (pc := 41) C dX10_comes_41 4 rfl ?_
  refine r_iconst (pc := 43) (v := (2 : Int32)) C dX10_comes_43 ic_2 ?_
  refine r_ildn (pc := 44) C dX10_comes_44 2 rfl ?_
  refine k_X10_lets (x := x) (pc := 45) (a1 := v1) (a2 := (2 : Int32)) (a3 := a2) C gX10_comes_X10_lets (by omega)  (Nat.le_of_ble_eq_true rfl) dX10_comes_45 (fun _ s7 => ?_)
  refine r_aldn (pc := 48) C dX10_comes_48 0 rfl ?_
  refine r_ild (pc := 49) C dX10_comes_49 4 rfl ?_
  refine r_iconst (pc := 51) (v := (3 : Int32)) C dX10_comes_51 ic_3 ?_
  refine r_ildn (pc := 52) C dX10_comes_52 3 rfl ?_
  refine k_X10_lets (x := x) (pc := 53) (a1 := v1) (a2 := (3 : Int32)) (a3 := a3) C gX10_comes_X10_lets (by omega)  (Nat.le_of_ble_eq_true rfl) dX10_comes_53 (fun _ s9 => ?_)
  refine r_aldn (pc := 56) C dX10_comes_56 0 rfl ?_
  refine r_ild (pc := 57) C dX10_comes_57 4 rfl ?_
  refine r_iconst (pc := 59) (v := (4 : Int32)) C dX10_comes_59 ic_4 ?_
  refine r_aldn (pc := 60) C dX10_comes_60 0 rfl ?_
  refine gf_X10_0_0 (pc := 61) C hi_X10_comes_X10 wd_X10_comes_1 dX10_comes_61 ?_
  refine r_iconst (pc := 64) (v := (0 : Int32)) C dX10_comes_64 ic_0 ?_
  refine iald_oM_1 (pc := 65) C dX10_comes_65 ?_
  refine k_X10_lets (x := x) (pc := 66) (a1 := v1) (a2 := (4 : Int32)) (a3 := (rd (s9 1) (0 : Int32))) C gX10_comes_X10_lets (by omega)  (Nat.le_of_ble_eq_true rfl) dX10_comes_66 (fun _ s11 => ?_)
  refine r_aldn (pc := 69) C dX10_comes_69 0 rfl ?_
  refine r_ild (pc := 70) C dX10_comes_70 4 rfl ?_
  refine r_iconst (pc := 72) (v := (5 : Int32)) C dX10_comes_72 ic_5 ?_
  refine r_iconst (pc := 73) (v := (0 : Int32)) C dX10_comes_73 ic_0 ?_
  refine k_X10_lets (x := x) (pc := 74) (a1 := v1) (a2 := (5 : Int32)) (a3 := (0 : Int32)) C gX10_comes_X10_lets (by omega)  (Nat.le_of_ble_eq_true rfl) dX10_comes_74 (fun _ s13 => ?_)
  refine r_aldn (pc := 77) C dX10_comes_77 0 rfl ?_
  refine r_ild (pc := 78) C dX10_comes_78 4 rfl ?_
  refine r_bipush (pc := 80) (v := (6 : Int32)) C dX10_comes_80 bp_6 ?_
  refine r_iconst (pc := 82) (v := (0 : Int32)) C dX10_comes_82 ic_0 ?_
  refine k_X10_lets (x := x) (pc := 83) (a1 := v1) (a2 := (6 : Int32)) (a3 := (0 : Int32)) C gX10_comes_X10_lets (by omega)  (Nat.le_of_ble_eq_true rfl) dX10_comes_83 (fun _ s15 => ?_)
  refine r_ild (pc := 86) C dX10_comes_86 4 rfl ?_
  exact r_iret (pc := 88) C dX10_comes_88
theorem k_X10_comes {κ : oK} {nL : Nat} {cc : ByteArray} {own : String} {Ts : List Cond} {n : Nat} {ret : Option FieldType} {α : Type} {Q : α → Sg → State → Prop} {σ : Sg} {pc : Nat} {lv : List (Nat × Value)} {st : List Value} {x : oXp} {idx : Nat} {a1 : Int32} {a2 : Int32} {a3 : Int32} {K : Int32 → Sg → Option (α × Sg)} (C : oC κ (oM x) nL cc own Ts n ret) (hG : GoodIn Ts (wsV own idx RX10 yX10_comes wsX10_comes)) (hn : 4 + 1 ≤ n) (hst : (st.map fun v => v.category).sum ≤ 8) (hd : decode cc pc = .ok (.invokevirtual idx, 3)) (kk : ∀ (r1 : Int32) (σ1 : Sg), oV κ (oM x) nL Q σ1 (pc + 3) lv (.int r1 :: st) (K r1 σ1)) : oV κ (oM x) nL Q σ pc lv (.int a3 :: .int a2 :: .int a1 :: .ref (xa x 0) :: st) (bnd (f_X10_comes a1 a2 a3 σ) K) := by
  have hI : oI (oM x) := oC_I C
  exact r_cVi (As := [.int a1, .int a2, .int a3]) (na := 3) (j := 0) (ci := 10) C (fun l => m_X10_comes l x hI a1 a2 a3 σ) hG rfl (by decide +kernel) rfl (by decide) hn (by show 0 < 14; decide) rfl rfl rfl rfl hst hd kk
set_option maxHeartbeats 4000000 in
set_option maxRecDepth 100000 in
theorem m_X10_count (l : Launch) (x : oXp) (hI : oI (oM x)) (a1 : Int32) (σ : Sg) : oMI l yX10_count wsX10_count 4 (oM x) [.ref (xa x 0), .int a1] σ (f_X10_count  a1 σ) := by
  refine oMI_of (nL := 2) (cc := cX10_count) hI (by decide +kernel) rfl (Nat.le_of_ble_eq_true rfl) ?_
  intro κ C
  have C : oC κ (oM x) 2 cX10_count RX10 wsX10_count 4 (some .int) := C
  unfold f_X10_count
  show oV κ (oM x) 2 (oQi κ (oM x)) σ 0 [(0, .ref (xa x 0)), (1, .int a1)] [] _
  refine r_ildn (pc := 0) C dX10_count_0 1 rfl ?_
  refine r_ite (fun c1 => ?_) (fun c1 => ?_)
  · refine r_tabE (pc := 1) (v := (0 : Int32)) (off := 47) (tgt := 48) C dX10_count_1 c1 (by decide) (by decide) (by decide) (by decide) ?_
    refine r_aldn (pc := 48) C dX10_count_48 0 rfl ?_
    refine gf_X10_0_0 (pc := 49) C hi_X10_count_X10 wd_X10_count_1 dX10_count_49 ?_
    refine r_iconst (pc := 52) (v := (2 : Int32)) C dX10_count_52 ic_2 ?_
    refine iald_oM_1 (pc := 53) C dX10_count_53 ?_
    exact r_iret (pc := 54) C dX10_count_54
  · refine r_ite (fun c2 => ?_) (fun c2 => ?_)
    · refine r_tabE (pc := 1) (v := (1 : Int32)) (off := 54) (tgt := 55) C dX10_count_1 c2 (by decide) (by decide) (by decide) (by decide) ?_
      refine r_aldn (pc := 55) C dX10_count_55 0 rfl ?_
      refine gf_X10_0_0 (pc := 56) C hi_X10_count_X10 wd_X10_count_1 dX10_count_56 ?_
      refine r_iconst (pc := 59) (v := (0 : Int32)) C dX10_count_59 ic_0 ?_
      refine iald_oM_1 (pc := 60) C dX10_count_60 ?_
      exact r_iret (pc := 61) C dX10_count_61
    · refine r_ite (fun c3 => ?_) (fun c3 => ?_)
      · refine r_tabE (pc := 1) (v := (2 : Int32)) (off := 61) (tgt := 62) C dX10_count_1 c3 (by decide) (by decide) (by decide) (by decide) ?_
        refine r_aldn (pc := 62) C dX10_count_62 0 rfl ?_
        refine gf_X10_0_0 (pc := 63) C hi_X10_count_X10 wd_X10_count_1 dX10_count_63 ?_
        refine r_iconst (pc := 66) (v := (3 : Int32)) C dX10_count_66 ic_3 ?_
        refine iald_oM_1 (pc := 67) C dX10_count_67 ?_
        exact r_iret (pc := 68) C dX10_count_68
      · refine r_ite (fun c4 => ?_) (fun c4 => ?_)
        · refine r_tabE (pc := 1) (v := (3 : Int32)) (off := 68) (tgt := 69) C dX10_count_1 c4 (by decide) (by decide) (by decide) (by decide) ?_
          refine r_aldn (pc := 69) C dX10_count_69 0 rfl ?_
          refine gf_X10_0_0 (pc := 70) C hi_X10_count_X10 wd_X10_count_1 dX10_count_70 ?_
          refine r_iconst (pc := 73) (v := (4 : Int32)) C dX10_count_73 ic_4 ?_
          refine iald_oM_1 (pc := 74) C dX10_count_74 ?_
          exact r_iret (pc := 75) C dX10_count_75
        · refine r_ite (fun c5 => ?_) (fun c5 => ?_)
          · refine r_tabE (pc := 1) (v := (4 : Int32)) (off := 75) (tgt := 76) C dX10_count_1 c5 (by decide) (by decide) (by decide) (by decide) ?_
            refine r_aldn (pc := 76) C dX10_count_76 0 rfl ?_
            refine gf_X10_0_0 (pc := 77) C hi_X10_count_X10 wd_X10_count_1 dX10_count_77 ?_
            refine r_iconst (pc := 80) (v := (5 : Int32)) C dX10_count_80 ic_5 ?_
            refine iald_oM_1 (pc := 81) C dX10_count_81 ?_
            exact r_iret (pc := 82) C dX10_count_82
          · refine r_ite (fun c6 => ?_) (fun c6 => ?_)
            · refine r_tabE (pc := 1) (v := (5 : Int32)) (off := 82) (tgt := 83) C dX10_count_1 c6 (by decide) (by decide) (by decide) (by decide) ?_
              refine r_aldn (pc := 83) C dX10_count_83 0 rfl ?_
              refine gf_X10_0_0 (pc := 84) C hi_X10_count_X10 wd_X10_count_1 dX10_count_84 ?_
              refine r_bipush (pc := 87) (v := (6 : Int32)) C dX10_count_87 bp_6 ?_
              refine iald_oM_1 (pc := 89) C dX10_count_89 ?_
              exact r_iret (pc := 90) C dX10_count_90
            · refine r_ite (fun c7 => ?_) (fun c7 => ?_)
              · refine r_tabE (pc := 1) (v := (6 : Int32)) (off := 90) (tgt := 91) C dX10_count_1 c7 (by decide) (by decide) (by decide) (by decide) ?_
                refine r_aldn (pc := 91) C dX10_count_91 0 rfl ?_
                refine gf_X10_19_0 (pc := 92) C hi_X10_count_X10 wd_X10_count_2 dX10_count_92 ?_
                exact r_iret (pc := 95) C dX10_count_95
              · refine r_ite (fun c8 => ?_) (fun c8 => ?_)
                · refine r_tabE (pc := 1) (v := (7 : Int32)) (off := 95) (tgt := 96) C dX10_count_1 c8 (by decide) (by decide) (by decide) (by decide) ?_
                  refine r_aldn (pc := 96) C dX10_count_96 0 rfl ?_
                  refine gf_X10_0_0 (pc := 97) C hi_X10_count_X10 wd_X10_count_1 dX10_count_97 ?_
                  refine r_iconst (pc := 100) (v := (1 : Int32)) C dX10_count_100 ic_1 ?_
                  refine iald_oM_1 (pc := 101) C dX10_count_101 ?_
                  exact r_iret (pc := 102) C dX10_count_102
                · refine r_tabO (pc := 1) (tgt := 103) C dX10_count_1 (by have q0 := lv_neT (k := (0 : Int32)) (a := 0) c1 (by decide); have q1 := lv_neT (k := (1 : Int32)) (a := 1) c2 (by decide); have q2 := lv_neT (k := (2 : Int32)) (a := 2) c3 (by decide); have q3 := lv_neT (k := (3 : Int32)) (a := 3) c4 (by decide); have q4 := lv_neT (k := (4 : Int32)) (a := 4) c5 (by decide); have q5 := lv_neT (k := (5 : Int32)) (a := 5) c6 (by decide); have q6 := lv_neT (k := (6 : Int32)) (a := 6) c7 (by decide); have q7 := lv_neT (k := (7 : Int32)) (a := 7) c8 (by decide); omega) (by decide) ?_
                  refine r_aldn (pc := 103) C dX10_count_103 0 rfl ?_
                  refine r_ldc (pc := 104) (v := (-1000000001 : Int32)) C dX10_count_104 wd_X10_count_3 ?_
                  refine k_X10_error (x := x) (pc := 106) (a1 := (-1000000001 : Int32)) C gX10_count_X10_error (by omega)  (Nat.le_of_ble_eq_true rfl) dX10_count_106 (fun r10 s9 => ?_)
                  exact r_iret (pc := 109) C dX10_count_109
set_option maxHeartbeats 4000000 in
set_option maxRecDepth 100000 in
theorem m_X10_isSheet (l : Launch) (x : oXp) (hI : oI (oM x)) (a0 : Int32) (σ : Sg) : oMI l yX10_isSheet wsX10_isSheet 4 (oM x) [.int a0] σ (f_X10_isSheet  a0 σ) := by
  refine oMI_of (nL := 1) (cc := cX10_isSheet) hI (by decide +kernel) rfl (Nat.le_of_ble_eq_true rfl) ?_
  intro κ C
  have C : oC κ (oM x) 1 cX10_isSheet RX10 wsX10_isSheet 4 (some .boolean) := C
  unfold f_X10_isSheet
  show oV κ (oM x) 1 (oQi κ (oM x)) σ 0 [(0, .int a0)] [] _
  refine r_ildn (pc := 0) C dX10_isSheet_0 0 rfl ?_
  refine r_iconst (pc := 1) (v := (0 : Int32)) C dX10_isSheet_1 ic_0 ?_
  refine r_iconst (pc := 2) (v := (3 : Int32)) C dX10_isSheet_2 ic_3 ?_
  refine kS_X10_in (x := x) (pc := 3) (a0 := a0) (a1 := (0 : Int32)) (a2 := (3 : Int32)) C gX10_isSheet_X10_in (by omega)  (Nat.le_of_ble_eq_true rfl) dX10_isSheet_3 (fun r2 s1 => ?_)
  refine r_ckb (fun h3 => ?_)
  exact r_zret (pc := 6) C (isb_nar h3).1 dX10_isSheet_6
theorem kS_X10_isSheet {κ : oK} {nL : Nat} {cc : ByteArray} {own : String} {Ts : List Cond} {n : Nat} {ret : Option FieldType} {α : Type} {Q : α → Sg → State → Prop} {σ : Sg} {pc : Nat} {lv : List (Nat × Value)} {st : List Value} {x : oXp} {idx : Nat} {a0 : Int32} {K : Int32 → Sg → Option (α × Sg)} (C : oC κ (oM x) nL cc own Ts n ret) (hG : GoodIn Ts (va_wsS own idx yX10_isSheet wsX10_isSheet)) (hn : 4 + 1 ≤ n) (hst : (st.map fun v => v.category).sum ≤ 8) (hd : decode cc pc = .ok (.invokestatic idx, 3)) (kk : ∀ (r1 : Int32) (σ1 : Sg), oV κ (oM x) nL Q σ1 (pc + 3) lv (.int r1 :: st) (K r1 σ1)) : oV κ (oM x) nL Q σ pc lv (.int a0 :: st) (bnd (f_X10_isSheet a0 σ) K) := by
  have hI : oI (oM x) := oC_I C
  exact r_cSi (As := [.int a0]) (na := 1) C (fun l => m_X10_isSheet l x hI a0 σ) hG rfl (by decide +kernel) rfl (by decide) hn hst hd kk
set_option maxHeartbeats 4000000 in
set_option maxRecDepth 100000 in
theorem m_X10_notThere (l : Launch) (x : oXp) (hI : oI (oM x)) (a1 : Int32) (σ : Sg) : oMI l yX10_notThere wsX10_notThere 5 (oM x) [.ref (xa x 0), .int a1] σ (f_X10_notThere  a1 σ) := by
  refine oMI_of (nL := 2) (cc := cX10_notThere) hI (by decide +kernel) rfl (Nat.le_of_ble_eq_true rfl) ?_
  intro κ C
  have C : oC κ (oM x) 2 cX10_notThere RX10 wsX10_notThere 5 (some .int) := C
  unfold f_X10_notThere
  show oV κ (oM x) 2 (oQi κ (oM x)) σ 0 [(0, .ref (xa x 0)), (1, .int a1)] [] _
  refine r_ildn (pc := 0) C dX10_notThere_0 1 rfl ?_
  refine kS_X10_isSheet (x := x) (pc := 1) (a0 := a1) C gX10_notThere_X10_isSheet (by omega)  (Nat.le_of_ble_eq_true rfl) dX10_notThere_1 (fun r2 s1 => ?_)
  refine r_ifne (pc := 4) (tgt := 12) C dX10_notThere_4 (by decide) ?_ ?_
  · refine r_aldn (pc := 12) C dX10_notThere_12 0 rfl ?_
    refine gf_X10_5_0 (pc := 13) C hi_X10_notThere_X10 wd_X10_notThere_2 dX10_notThere_13 ?_
    refine r_ildn (pc := 16) C dX10_notThere_16 1 rfl ?_
    refine iald_oM_5 (pc := 17) C dX10_notThere_17 ?_
    refine r_ifne (pc := 18) (tgt := 26) C dX10_notThere_18 (by decide) ?_ ?_
    · refine r_iconst (pc := 26) (v := (0 : Int32)) C dX10_notThere_26 ic_0 ?_
      exact r_iret (pc := 27) C dX10_notThere_27
    · refine r_ldc (pc := 21) (v := (-1000000002 : Int32)) C dX10_notThere_21 wd_X10_notThere_3 ?_
      refine r_goto (pc := 23) (tgt := 27) C dX10_notThere_23 (by decide) ?_
      exact r_iret (pc := 27) C dX10_notThere_27
  · refine r_ldc (pc := 7) (v := (-1000000001 : Int32)) C dX10_notThere_7 wd_X10_notThere_1 ?_
    refine r_goto (pc := 9) (tgt := 27) C dX10_notThere_9 (by decide) ?_
    exact r_iret (pc := 27) C dX10_notThere_27
theorem k_X10_notThere {κ : oK} {nL : Nat} {cc : ByteArray} {own : String} {Ts : List Cond} {n : Nat} {ret : Option FieldType} {α : Type} {Q : α → Sg → State → Prop} {σ : Sg} {pc : Nat} {lv : List (Nat × Value)} {st : List Value} {x : oXp} {idx : Nat} {a1 : Int32} {K : Int32 → Sg → Option (α × Sg)} (C : oC κ (oM x) nL cc own Ts n ret) (hG : GoodIn Ts (wsV own idx RX10 yX10_notThere wsX10_notThere)) (hn : 5 + 1 ≤ n) (hst : (st.map fun v => v.category).sum ≤ 8) (hd : decode cc pc = .ok (.invokevirtual idx, 3)) (kk : ∀ (r1 : Int32) (σ1 : Sg), oV κ (oM x) nL Q σ1 (pc + 3) lv (.int r1 :: st) (K r1 σ1)) : oV κ (oM x) nL Q σ pc lv (.int a1 :: .ref (xa x 0) :: st) (bnd (f_X10_notThere a1 σ) K) := by
  have hI : oI (oM x) := oC_I C
  exact r_cVi (As := [.int a1]) (na := 1) (j := 0) (ci := 10) C (fun l => m_X10_notThere l x hI a1 σ) hG rfl (by decide +kernel) rfl (by decide) hn (by show 0 < 14; decide) rfl rfl rfl rfl hst hd kk
set_option maxHeartbeats 4000000 in
set_option maxRecDepth 100000 in
theorem v_X10_dates_18_b {κ : oK} {x : oXp} (C : oC κ (oM x) 4 cX10_dates RX10 wsX10_dates 6 (some .int))  (rec18 : Int32 → Int32 → Sg → Option (Int32 × Sg)) (hrec18 : ∀ (a1 : Int32) (a3 : Int32) (σ : Sg), oV κ (oM x) 4 (oQi κ (oM x)) σ 18 [(0, .ref (xa x 0)), (1, .int a1), (3, .int a3)] [] (rec18 a1 a3 σ)) (a1 : Int32) (a3 : Int32) (σ : Sg) : oV κ (oM x) 4 (oQi κ (oM x)) σ 18 [(0, .ref (xa x 0)), (1, .int a1), (3, .int a3)] [] (f_X10_dates_18_b   rec18 a1 a3 σ) := by
  unfold f_X10_dates_18_b
  refine r_ildn (pc := 18) C dX10_dates_18 2 rfl ?_
  refine r_aldn (pc := 19) C dX10_dates_19 0 rfl ?_
  refine gf_X10_6_0 (pc := 20) C hi_X10_dates_X10 wd_X10_dates_1 dX10_dates_20 ?_
  refine r_ildn (pc := 23) C dX10_dates_23 1 rfl ?_
  refine iald_oM_6 (pc := 24) C dX10_dates_24 ?_
  refine r_icge (pc := 25) (tgt := 85) C dX10_dates_25 (by decide) ?_ ?_
  · refine r_ildn (pc := 85) C dX10_dates_85 2 rfl ?_
    exact r_iret (pc := 86) C dX10_dates_86
  · refine r_ildn (pc := 28) C dX10_dates_28 2 rfl ?_
    refine r_aldn (pc := 29) C dX10_dates_29 0 rfl ?_
    refine gf_X10_0_0 (pc := 30) C hi_X10_dates_X10 wd_X10_dates_2 dX10_dates_30 ?_
    refine r_iconst (pc := 33) (v := (2 : Int32)) C dX10_dates_33 ic_2 ?_
    refine iald_oM_1 (pc := 34) C dX10_dates_34 ?_
    refine r_icge (pc := 35) (tgt := 85) C dX10_dates_35 (by decide) ?_ ?_
    · refine r_ildn (pc := 85) C dX10_dates_85 2 rfl ?_
      exact r_iret (pc := 86) C dX10_dates_86
    · refine r_aldn (pc := 38) C dX10_dates_38 0 rfl ?_
      refine gf_X10_7_0 (pc := 39) C hi_X10_dates_X10 wd_X10_dates_3 dX10_dates_39 ?_
      refine r_bipush (pc := 42) (v := (24 : Int32)) C dX10_dates_42 bp_24 ?_
      refine r_ildn (pc := 44) C dX10_dates_44 1 rfl ?_
      refine r_imul (pc := 45) C dX10_dates_45 ?_
      refine r_ildn (pc := 46) C dX10_dates_46 2 rfl ?_
      refine r_iadd (pc := 47) C dX10_dates_47 ?_
      refine iald_oM_7 (pc := 48) C dX10_dates_48 ?_
      refine r_iconst (pc := 49) (v := (0 : Int32)) C dX10_dates_49 ic_0 ?_
      refine r_aldn (pc := 50) C dX10_dates_50 0 rfl ?_
      refine gf_X10_0_0 (pc := 51) C hi_X10_dates_X10 wd_X10_dates_2 dX10_dates_51 ?_
      refine r_iconst (pc := 54) (v := (0 : Int32)) C dX10_dates_54 ic_0 ?_
      refine iald_oM_1 (pc := 55) C dX10_dates_55 ?_
      refine kS_X10_in (x := x) (pc := 56) (a0 := (rd (σ 7) (((24 : Int32) * a1) + a3))) (a1 := (0 : Int32)) (a2 := (rd (σ 1) (0 : Int32))) C gX10_dates_X10_in (by omega)  (Nat.le_of_ble_eq_true rfl) dX10_dates_56 (fun r2 s1 => ?_)
      refine r_ifeq (pc := 59) (tgt := 85) C dX10_dates_59 (by decide) ?_ ?_
      · refine r_ildn (pc := 85) C dX10_dates_85 2 rfl ?_
        exact r_iret (pc := 86) C dX10_dates_86
      · refine r_aldn (pc := 62) C dX10_dates_62 0 rfl ?_
        refine r_ildn (pc := 63) C dX10_dates_63 2 rfl ?_
        refine r_iconst (pc := 64) (v := (4 : Int32)) C dX10_dates_64 ic_4 ?_
        refine r_aldn (pc := 65) C dX10_dates_65 0 rfl ?_
        refine gf_X10_7_0 (pc := 66) C hi_X10_dates_X10 wd_X10_dates_3 dX10_dates_66 ?_
        refine r_bipush (pc := 69) (v := (24 : Int32)) C dX10_dates_69 bp_24 ?_
        refine r_ildn (pc := 71) C dX10_dates_71 1 rfl ?_
        refine r_imul (pc := 72) C dX10_dates_72 ?_
        refine r_ildn (pc := 73) C dX10_dates_73 2 rfl ?_
        refine r_iadd (pc := 74) C dX10_dates_74 ?_
        refine iald_oM_7 (pc := 75) C dX10_dates_75 ?_
        refine k_X10_lets (x := x) (pc := 76) (a1 := a3) (a2 := (4 : Int32)) (a3 := (rd (s1 7) (((24 : Int32) * a1) + a3))) C gX10_dates_X10_lets (by omega)  (Nat.le_of_ble_eq_true rfl) dX10_dates_76 (fun _ s3 => ?_)
        refine r_iinc (pc := 79) (v := (1 : Int32)) (lv1 := fun y => [(0, _), (1, _), (3, .int y)]) C dX10_dates_79 ic_1 2 rfl (by decide) [1, 2, 0] (fun _ => rfl) (fun v5 => ?_)
        refine r_goto (pc := 82) (tgt := 18) C dX10_dates_82 (by decide) ?_
        exact hrec18 a1 v5 s3
theorem v_X10_dates_18 {κ : oK} {x : oXp} (C : oC κ (oM x) 4 cX10_dates RX10 wsX10_dates 6 (some .int))  : ∀ (n : Nat) (a1 : Int32) (a3 : Int32) (σ : Sg), oV κ (oM x) 4 (oQi κ (oM x)) σ 18 [(0, .ref (xa x 0)), (1, .int a1), (3, .int a3)] [] (f_X10_dates_18   n a1 a3 σ) := by
  intro n
  induction n with
  | zero => intros; exact r_none
  | succ n ih => exact v_X10_dates_18_b C  _ ih
set_option maxHeartbeats 4000000 in
set_option maxRecDepth 100000 in
theorem m_X10_dates (l : Launch) (x : oXp) (hI : oI (oM x)) (a1 : Int32) (σ : Sg) : oMI l yX10_dates wsX10_dates 6 (oM x) [.ref (xa x 0), .int a1] σ (f_X10_dates  a1 σ) := by
  refine oMI_of (nL := 4) (cc := cX10_dates) hI (by decide +kernel) rfl (Nat.le_of_ble_eq_true rfl) ?_
  intro κ C
  have C : oC κ (oM x) 4 cX10_dates RX10 wsX10_dates 6 (some .int) := C
  unfold f_X10_dates
  show oV κ (oM x) 4 (oQi κ (oM x)) σ 0 [(0, .ref (xa x 0)), (1, .int a1)] [] _
  refine r_aldn (pc := 0) C dX10_dates_0 0 rfl ?_
  refine r_ildn (pc := 1) C dX10_dates_1 1 rfl ?_
  refine k_X10_notThere (x := x) (pc := 2) (a1 := a1) C gX10_dates_X10_notThere (by omega)  (Nat.le_of_ble_eq_true rfl) dX10_dates_2 (fun r7 s6 => ?_)
  refine r_istn (pc := 5) (lv' := [(0, _), (1, _), (2, _)]) C dX10_dates_5 (by decide) [1, 2, 0] rfl ?_
  refine r_ildn (pc := 6) C dX10_dates_6 2 rfl ?_
  refine r_ifeq (pc := 7) (tgt := 16) C dX10_dates_7 (by decide) ?_ ?_
  · refine r_iconst (pc := 16) (v := (0 : Int32)) C dX10_dates_16 ic_0 ?_
    refine r_istn (pc := 17) (lv' := [(0, _), (1, _), (3, _)]) C dX10_dates_17 (by decide) [1, 2, 0] rfl ?_
    exact v_X10_dates_18 (x := x) C fuN a1 (0 : Int32) s6
  · refine r_aldn (pc := 10) C dX10_dates_10 0 rfl ?_
    refine r_ildn (pc := 11) C dX10_dates_11 2 rfl ?_
    refine k_X10_error (x := x) (pc := 12) (a1 := r7) C gX10_dates_X10_error (by omega)  (Nat.le_of_ble_eq_true rfl) dX10_dates_12 (fun r9 s8 => ?_)
    exact r_iret (pc := 15) C dX10_dates_15
set_option maxHeartbeats 4000000 in
set_option maxRecDepth 100000 in
theorem v_X10_goes_37 {κ : oK} {x : oXp} (C : oC κ (oM x) 3 cX10_goes RX10 wsX10_goes 3 none) (rec2 : Int32 → Sg → Option (Unit × Sg)) (hrec2 : ∀ (a1 : Int32) (σ : Sg), oV κ (oM x) 3 (oQv κ (oM x)) σ 2 [(0, .ref (xa x 0)), (1, .int a1)] [] (rec2 a1 σ)) (a1 : Int32) (t0 : Int32) (σ : Sg) : oV κ (oM x) 3 (oQv κ (oM x)) σ 37 [(0, .ref (xa x 0)), (1, .int a1)] [.int t0] (f_X10_goes_37  rec2 a1 t0 σ) := by
  unfold f_X10_goes_37
  refine r_istn (pc := 37) (lv' := [(0, _), (1, _), (2, _)]) C dX10_goes_37 (by decide) [1, 2, 0] rfl ?_
  refine r_aldn (pc := 38) C dX10_goes_38 0 rfl ?_
  refine gf_X10_0_0 (pc := 39) C hi_X10_goes_X10 wd_X10_goes_1 dX10_goes_39 ?_
  refine r_bipush (pc := 42) (v := (7 : Int32)) C dX10_goes_42 bp_7 ?_
  refine r_ildn (pc := 44) C dX10_goes_44 1 rfl ?_
  refine r_iadd (pc := 45) C dX10_goes_45 ?_
  refine r_dup2 (pc := 46) C dX10_goes_46 rfl rfl ?_
  refine iald_oM_1 (pc := 47) C dX10_goes_47 ?_
  refine r_ildn (pc := 48) C dX10_goes_48 2 rfl ?_
  refine r_ifeq (pc := 49) (tgt := 56) C dX10_goes_49 (by decide) ?_ ?_
  · refine r_iconst (pc := 56) (v := (0 : Int32)) C dX10_goes_56 ic_0 ?_
    refine r_isub (pc := 57) C dX10_goes_57 ?_
    refine iast_oM_1 (pc := 58) C dX10_goes_58 (fun s1 => ?_)
    refine r_iinc (pc := 59) (v := (1 : Int32)) (lv1 := fun y => [(0, _), (1, .int y)]) C dX10_goes_59 ic_1 1 rfl (by decide) [1, 0] (fun _ => rfl) (fun v2 => ?_)
    refine r_goto (pc := 62) (tgt := 2) C dX10_goes_62 (by decide) ?_
    exact hrec2 v2 s1
  · refine r_iconst (pc := 52) (v := (1 : Int32)) C dX10_goes_52 ic_1 ?_
    refine r_goto (pc := 53) (tgt := 57) C dX10_goes_53 (by decide) ?_
    refine r_isub (pc := 57) C dX10_goes_57 ?_
    refine iast_oM_1 (pc := 58) C dX10_goes_58 (fun s3 => ?_)
    refine r_iinc (pc := 59) (v := (1 : Int32)) (lv1 := fun y => [(0, _), (1, .int y)]) C dX10_goes_59 ic_1 1 rfl (by decide) [1, 0] (fun _ => rfl) (fun v4 => ?_)
    refine r_goto (pc := 62) (tgt := 2) C dX10_goes_62 (by decide) ?_
    exact hrec2 v4 s3
set_option maxHeartbeats 4000000 in
set_option maxRecDepth 100000 in
theorem v_X10_goes_2_b {κ : oK} {x : oXp} (C : oC κ (oM x) 3 cX10_goes RX10 wsX10_goes 3 none)  (rec2 : Int32 → Sg → Option (Unit × Sg)) (hrec2 : ∀ (a1 : Int32) (σ : Sg), oV κ (oM x) 3 (oQv κ (oM x)) σ 2 [(0, .ref (xa x 0)), (1, .int a1)] [] (rec2 a1 σ)) (a1 : Int32) (σ : Sg) : oV κ (oM x) 3 (oQv κ (oM x)) σ 2 [(0, .ref (xa x 0)), (1, .int a1)] [] (f_X10_goes_2_b   rec2 a1 σ) := by
  unfold f_X10_goes_2_b
  refine r_ildn (pc := 2) C dX10_goes_2 1 rfl ?_
  refine r_iconst (pc := 3) (v := (5 : Int32)) C dX10_goes_3 ic_5 ?_
  refine r_icge (pc := 4) (tgt := 65) C dX10_goes_4 (by decide) ?_ ?_
  · refine r_aldn (pc := 65) C dX10_goes_65 0 rfl ?_
    refine gf_X10_0_0 (pc := 66) C hi_X10_goes_X10 wd_X10_goes_1 dX10_goes_66 ?_
    refine r_iconst (pc := 69) (v := (0 : Int32)) C dX10_goes_69 ic_0 ?_
    refine r_dup2 (pc := 70) C dX10_goes_70 rfl rfl ?_
    refine iald_oM_1 (pc := 71) C dX10_goes_71 ?_
    refine r_iconst (pc := 72) (v := (1 : Int32)) C dX10_goes_72 ic_1 ?_
    refine r_iadd (pc := 73) C dX10_goes_73 ?_
    refine iast_oM_1 (pc := 74) C dX10_goes_74 (fun s5 => ?_)
    exact r_vret (pc := 75) C dX10_goes_75
  · refine r_aldn (pc := 7) C dX10_goes_7 0 rfl ?_
    refine gf_X10_0_0 (pc := 8) C hi_X10_goes_X10 wd_X10_goes_1 dX10_goes_8 ?_
    refine r_iconst (pc := 11) (v := (0 : Int32)) C dX10_goes_11 ic_0 ?_
    refine iald_oM_1 (pc := 12) C dX10_goes_12 ?_
    refine r_ildn (pc := 13) C dX10_goes_13 1 rfl ?_
    refine r_iconst (pc := 14) (v := (2 : Int32)) C dX10_goes_14 ic_2 ?_
    refine r_iadd (pc := 15) C dX10_goes_15 ?_
    refine r_ckb (fun h6 => ?_)
    refine r_irem (pc := 16) C dX10_goes_16 (nz_ne h6) ?_
    refine r_ifne (pc := 17) (tgt := 36) C dX10_goes_17 (by decide) ?_ ?_
    · refine r_iconst (pc := 36) (v := (0 : Int32)) C dX10_goes_36 ic_0 ?_
      exact v_X10_goes_37 (x := x) C _ hrec2 a1 (0 : Int32) σ
    · refine r_aldn (pc := 20) C dX10_goes_20 0 rfl ?_
      refine gf_X10_0_0 (pc := 21) C hi_X10_goes_X10 wd_X10_goes_1 dX10_goes_21 ?_
      refine r_bipush (pc := 24) (v := (7 : Int32)) C dX10_goes_24 bp_7 ?_
      refine r_ildn (pc := 26) C dX10_goes_26 1 rfl ?_
      refine r_iadd (pc := 27) C dX10_goes_27 ?_
      refine iald_oM_1 (pc := 28) C dX10_goes_28 ?_
      refine r_ifle (pc := 29) (tgt := 36) C dX10_goes_29 (by decide) ?_ ?_
      · refine r_iconst (pc := 36) (v := (0 : Int32)) C dX10_goes_36 ic_0 ?_
        exact v_X10_goes_37 (x := x) C _ hrec2 a1 (0 : Int32) σ
      · refine r_iconst (pc := 32) (v := (1 : Int32)) C dX10_goes_32 ic_1 ?_
        refine r_goto (pc := 33) (tgt := 37) C dX10_goes_33 (by decide) ?_
        exact v_X10_goes_37 (x := x) C _ hrec2 a1 (1 : Int32) σ
theorem v_X10_goes_2 {κ : oK} {x : oXp} (C : oC κ (oM x) 3 cX10_goes RX10 wsX10_goes 3 none)  : ∀ (n : Nat) (a1 : Int32) (σ : Sg), oV κ (oM x) 3 (oQv κ (oM x)) σ 2 [(0, .ref (xa x 0)), (1, .int a1)] [] (f_X10_goes_2   n a1 σ) := by
  intro n
  induction n with
  | zero => intros; exact r_none
  | succ n ih => exact v_X10_goes_2_b C  _ ih
set_option maxHeartbeats 4000000 in
set_option maxRecDepth 100000 in
theorem m_X10_goes (l : Launch) (x : oXp) (hI : oI (oM x))  (σ : Sg) : oMV l yX10_goes wsX10_goes 3 (oM x) [.ref (xa x 0)] σ (f_X10_goes   σ) := by
  refine oMV_of (nL := 3) (cc := cX10_goes) hI (by decide +kernel) rfl (Nat.le_of_ble_eq_true rfl) ?_
  intro κ C
  have C : oC κ (oM x) 3 cX10_goes RX10 wsX10_goes 3 none := C
  unfold f_X10_goes
  show oV κ (oM x) 3 (oQv κ (oM x)) σ 0 [(0, .ref (xa x 0))] [] _
  refine r_iconst (pc := 0) (v := (0 : Int32)) C dX10_goes_0 ic_0 ?_
  refine r_istn (pc := 1) (lv' := [(0, _), (1, _)]) C dX10_goes_1 (by decide) [1, 0] rfl ?_
  exact v_X10_goes_2 (x := x) C fuN (0 : Int32) σ
theorem k_X10_goes {κ : oK} {nL : Nat} {cc : ByteArray} {own : String} {Ts : List Cond} {n : Nat} {ret : Option FieldType} {α : Type} {Q : α → Sg → State → Prop} {σ : Sg} {pc : Nat} {lv : List (Nat × Value)} {st : List Value} {x : oXp} {idx : Nat}  {K : Unit → Sg → Option (α × Sg)} (C : oC κ (oM x) nL cc own Ts n ret) (hG : GoodIn Ts (wsV own idx RX10 yX10_goes wsX10_goes)) (hn : 3 + 1 ≤ n) (hst : (st.map fun v => v.category).sum ≤ 8) (hd : decode cc pc = .ok (.invokevirtual idx, 3)) (kk : ∀ (r1 : Unit) (σ1 : Sg), oV κ (oM x) nL Q σ1 (pc + 3) lv (st) (K r1 σ1)) : oV κ (oM x) nL Q σ pc lv (.ref (xa x 0) :: st) (bnd (f_X10_goes  σ) K) := by
  have hI : oI (oM x) := oC_I C
  exact r_cVv (As := []) (na := 0) (j := 0) (ci := 10) C (fun l => m_X10_goes l x hI  σ) hG rfl (by decide +kernel) rfl (by decide) hn (by show 0 < 14; decide) rfl rfl rfl rfl hst hd kk
set_option maxHeartbeats 4000000 in
set_option maxRecDepth 100000 in
theorem v_X10_days_40_b {κ : oK} {x : oXp} (C : oC κ (oM x) 3 cX10_days RX10 wsX10_days 4 (some .int))  (rec40 : Int32 → Int32 → Sg → Option (Int32 × Sg)) (hrec40 : ∀ (a1 : Int32) (a2 : Int32) (σ : Sg), oV κ (oM x) 3 (oQi κ (oM x)) σ 40 [(0, .ref (xa x 0)), (1, .int a1), (2, .int a2)] [] (rec40 a1 a2 σ)) (a1 : Int32) (a2 : Int32) (σ : Sg) : oV κ (oM x) 3 (oQi κ (oM x)) σ 40 [(0, .ref (xa x 0)), (1, .int a1), (2, .int a2)] [] (f_X10_days_40_b   rec40 a1 a2 σ) := by
  unfold f_X10_days_40_b
  refine r_ildn (pc := 40) C dX10_days_40 2 rfl ?_
  refine r_ildn (pc := 41) C dX10_days_41 1 rfl ?_
  refine r_icge (pc := 42) (tgt := 55) C dX10_days_42 (by decide) ?_ ?_
  · refine r_aldn (pc := 55) C dX10_days_55 0 rfl ?_
    refine gf_X10_0_0 (pc := 56) C hi_X10_days_X10 wd_X10_days_2 dX10_days_56 ?_
    refine r_iconst (pc := 59) (v := (0 : Int32)) C dX10_days_59 ic_0 ?_
    refine iald_oM_1 (pc := 60) C dX10_days_60 ?_
    exact r_iret (pc := 61) C dX10_days_61
  · refine r_aldn (pc := 45) C dX10_days_45 0 rfl ?_
    refine k_X10_goes (x := x) (pc := 46)  C gX10_days_X10_goes (by omega)  (Nat.le_of_ble_eq_true rfl) dX10_days_46 (fun _ s1 => ?_)
    refine r_iinc (pc := 49) (v := (1 : Int32)) (lv1 := fun y => [(0, _), (1, _), (2, .int y)]) C dX10_days_49 ic_1 2 rfl (by decide) [1, 2, 0] (fun _ => rfl) (fun v3 => ?_)
    refine r_goto (pc := 52) (tgt := 40) C dX10_days_52 (by decide) ?_
    exact hrec40 a1 v3 s1
theorem v_X10_days_40 {κ : oK} {x : oXp} (C : oC κ (oM x) 3 cX10_days RX10 wsX10_days 4 (some .int))  : ∀ (n : Nat) (a1 : Int32) (a2 : Int32) (σ : Sg), oV κ (oM x) 3 (oQi κ (oM x)) σ 40 [(0, .ref (xa x 0)), (1, .int a1), (2, .int a2)] [] (f_X10_days_40   n a1 a2 σ) := by
  intro n
  induction n with
  | zero => intros; exact r_none
  | succ n ih => exact v_X10_days_40_b C  _ ih
set_option maxHeartbeats 4000000 in
set_option maxRecDepth 100000 in
theorem m_X10_days (l : Launch) (x : oXp) (hI : oI (oM x)) (a1 : Int32) (σ : Sg) : oMI l yX10_days wsX10_days 4 (oM x) [.ref (xa x 0), .int a1] σ (f_X10_days  a1 σ) := by
  refine oMI_of (nL := 3) (cc := cX10_days) hI (by decide +kernel) rfl (Nat.le_of_ble_eq_true rfl) ?_
  intro κ C
  have C : oC κ (oM x) 3 cX10_days RX10 wsX10_days 4 (some .int) := C
  unfold f_X10_days
  show oV κ (oM x) 3 (oQi κ (oM x)) σ 0 [(0, .ref (xa x 0)), (1, .int a1)] [] _
  refine r_ildn (pc := 0) C dX10_days_0 1 rfl ?_
  refine r_iconst (pc := 1) (v := (1 : Int32)) C dX10_days_1 ic_1 ?_
  refine r_bipush (pc := 2) (v := (90 : Int32)) C dX10_days_2 bp_90 ?_
  refine kS_X10_in (x := x) (pc := 4) (a0 := a1) (a1 := (1 : Int32)) (a2 := (90 : Int32)) C gX10_days_X10_in (by omega)  (Nat.le_of_ble_eq_true rfl) dX10_days_4 (fun r5 s4 => ?_)
  refine r_ifne (pc := 7) (tgt := 17) C dX10_days_7 (by decide) ?_ ?_
  · refine r_aldn (pc := 17) C dX10_days_17 0 rfl ?_
    refine gf_X10_0_0 (pc := 18) C hi_X10_days_X10 wd_X10_days_2 dX10_days_18 ?_
    refine r_iconst (pc := 21) (v := (0 : Int32)) C dX10_days_21 ic_0 ?_
    refine iald_oM_1 (pc := 22) C dX10_days_22 ?_
    refine r_ildn (pc := 23) C dX10_days_23 1 rfl ?_
    refine r_iadd (pc := 24) C dX10_days_24 ?_
    refine r_sipush (pc := 25) (v := (9999 : Int32)) C dX10_days_25 sp_9999 ?_
    refine r_icle (pc := 28) (tgt := 38) C dX10_days_28 (by decide) ?_ ?_
    · refine r_iconst (pc := 38) (v := (0 : Int32)) C dX10_days_38 ic_0 ?_
      refine r_istn (pc := 39) (lv' := [(0, _), (1, _), (2, _)]) C dX10_days_39 (by decide) [1, 2, 0] rfl ?_
      exact v_X10_days_40 (x := x) C fuN a1 (0 : Int32) s4
    · refine r_aldn (pc := 31) C dX10_days_31 0 rfl ?_
      refine r_ldc (pc := 32) (v := (-1000000003 : Int32)) C dX10_days_32 wd_X10_days_3 ?_
      refine k_X10_error (x := x) (pc := 34) (a1 := (-1000000003 : Int32)) C gX10_days_X10_error (by omega)  (Nat.le_of_ble_eq_true rfl) dX10_days_34 (fun r7 s6 => ?_)
      exact r_iret (pc := 37) C dX10_days_37
  · refine r_aldn (pc := 10) C dX10_days_10 0 rfl ?_
    refine r_ldc (pc := 11) (v := (-1000000001 : Int32)) C dX10_days_11 wd_X10_days_1 ?_
    refine k_X10_error (x := x) (pc := 13) (a1 := (-1000000001 : Int32)) C gX10_days_X10_error (by omega)  (Nat.le_of_ble_eq_true rfl) dX10_days_13 (fun r9 s8 => ?_)
    exact r_iret (pc := 16) C dX10_days_16
set_option maxHeartbeats 4000000 in
set_option maxRecDepth 100000 in
theorem m_X10_draw (l : Launch) (x : oXp) (hI : oI (oM x))  (σ : Sg) : oMI l yX10_draw wsX10_draw 3 (oM x) [.ref (xa x 0)] σ (f_X10_draw   σ) := by
  refine oMI_of (nL := 1) (cc := cX10_draw) hI (by decide +kernel) rfl (Nat.le_of_ble_eq_true rfl) ?_
  intro κ C
  have C : oC κ (oM x) 1 cX10_draw RX10 wsX10_draw 3 (some .int) := C
  unfold f_X10_draw
  show oV κ (oM x) 1 (oQi κ (oM x)) σ 0 [(0, .ref (xa x 0))] [] _
  refine r_aldn (pc := 0) C dX10_draw_0 0 rfl ?_
  refine gf_X10_0_0 (pc := 1) C hi_X10_draw_X10 wd_X10_draw_1 dX10_draw_1 ?_
  refine r_iconst (pc := 4) (v := (1 : Int32)) C dX10_draw_4 ic_1 ?_
  refine r_aldn (pc := 5) C dX10_draw_5 0 rfl ?_
  refine gf_X10_0_0 (pc := 6) C hi_X10_draw_X10 wd_X10_draw_1 dX10_draw_6 ?_
  refine r_iconst (pc := 9) (v := (1 : Int32)) C dX10_draw_9 ic_1 ?_
  refine iald_oM_1 (pc := 10) C dX10_draw_10 ?_
  refine r_ldc (pc := 11) (v := (1103515245 : Int32)) C dX10_draw_11 wd_X10_draw_2 ?_
  refine r_imul (pc := 13) C dX10_draw_13 ?_
  refine r_sipush (pc := 14) (v := (12345 : Int32)) C dX10_draw_14 sp_12345 ?_
  refine r_iadd (pc := 17) C dX10_draw_17 ?_
  refine iast_oM_1 (pc := 18) C dX10_draw_18 (fun s1 => ?_)
  refine r_aldn (pc := 19) C dX10_draw_19 0 rfl ?_
  refine gf_X10_0_0 (pc := 20) C hi_X10_draw_X10 wd_X10_draw_1 dX10_draw_20 ?_
  refine r_iconst (pc := 23) (v := (1 : Int32)) C dX10_draw_23 ic_1 ?_
  refine iald_oM_1 (pc := 24) C dX10_draw_24 ?_
  refine r_bipush (pc := 25) (v := (8 : Int32)) C dX10_draw_25 bp_8 ?_
  refine r_iushr (pc := 27) C dX10_draw_27 ?_
  exact r_iret (pc := 28) C dX10_draw_28
theorem k_X10_draw {κ : oK} {nL : Nat} {cc : ByteArray} {own : String} {Ts : List Cond} {n : Nat} {ret : Option FieldType} {α : Type} {Q : α → Sg → State → Prop} {σ : Sg} {pc : Nat} {lv : List (Nat × Value)} {st : List Value} {x : oXp} {idx : Nat}  {K : Int32 → Sg → Option (α × Sg)} (C : oC κ (oM x) nL cc own Ts n ret) (hG : GoodIn Ts (wsV own idx RX10 yX10_draw wsX10_draw)) (hn : 3 + 1 ≤ n) (hst : (st.map fun v => v.category).sum ≤ 8) (hd : decode cc pc = .ok (.invokevirtual idx, 3)) (kk : ∀ (r1 : Int32) (σ1 : Sg), oV κ (oM x) nL Q σ1 (pc + 3) lv (.int r1 :: st) (K r1 σ1)) : oV κ (oM x) nL Q σ pc lv (.ref (xa x 0) :: st) (bnd (f_X10_draw  σ) K) := by
  have hI : oI (oM x) := oC_I C
  exact r_cVi (As := []) (na := 0) (j := 0) (ci := 10) C (fun l => m_X10_draw l x hI  σ) hG rfl (by decide +kernel) rfl (by decide) hn (by show 0 < 14; decide) rfl rfl rfl rfl hst hd kk
set_option maxHeartbeats 4000000 in
set_option maxRecDepth 100000 in
theorem m_X10_twoOf (l : Launch) (x : oXp) (hI : oI (oM x)) (a0 : Int32) (a1 : Int32) (a2 : Int32) (σ : Sg) : oMI l yX10_twoOf wsX10_twoOf 3 (oM x) [.int a0, .int a1, .int a2] σ (f_X10_twoOf  a0 a1 a2 σ) := by
  refine oMI_of (nL := 3) (cc := cX10_twoOf) hI (by decide +kernel) rfl (Nat.le_of_ble_eq_true rfl) ?_
  intro κ C
  have C : oC κ (oM x) 3 cX10_twoOf RX10 wsX10_twoOf 3 (some .int) := C
  unfold f_X10_twoOf
  show oV κ (oM x) 3 (oQi κ (oM x)) σ 0 [(0, .int a0), (1, .int a1), (2, .int a2)] [] _
  refine r_ildn (pc := 0) C dX10_twoOf_0 0 rfl ?_
  refine r_ite (fun c1 => ?_) (fun c1 => ?_)
  · refine r_tabE (pc := 1) (v := (37 : Int32)) (off := 143) (tgt := 144) C dX10_twoOf_1 c1 (by decide) (by decide) (by decide) (by decide) ?_
    refine r_ildn (pc := 144) C dX10_twoOf_144 2 rfl ?_
    refine r_ifne (pc := 145) (tgt := 152) C dX10_twoOf_145 (by decide) ?_ ?_
    · refine r_ildn (pc := 152) C dX10_twoOf_152 1 rfl ?_
      refine r_ildn (pc := 153) C dX10_twoOf_153 2 rfl ?_
      refine r_ckb (fun h2 => ?_)
      refine r_irem (pc := 154) C dX10_twoOf_154 (nz_ne h2) ?_
      exact r_iret (pc := 155) C dX10_twoOf_155
    · refine r_iconst (pc := 148) (v := (0 : Int32)) C dX10_twoOf_148 ic_0 ?_
      refine r_goto (pc := 149) (tgt := 155) C dX10_twoOf_149 (by decide) ?_
      exact r_iret (pc := 155) C dX10_twoOf_155
  · refine r_ite (fun c3 => ?_) (fun c3 => ?_)
    · refine r_tabE (pc := 1) (v := (38 : Int32)) (off := 188) (tgt := 189) C dX10_twoOf_1 c3 (by decide) (by decide) (by decide) (by decide) ?_
      refine r_ildn (pc := 189) C dX10_twoOf_189 1 rfl ?_
      refine r_ifeq (pc := 190) (tgt := 201) C dX10_twoOf_190 (by decide) ?_ ?_
      · refine r_iconst (pc := 201) (v := (0 : Int32)) C dX10_twoOf_201 ic_0 ?_
        exact r_iret (pc := 202) C dX10_twoOf_202
      · refine r_ildn (pc := 193) C dX10_twoOf_193 2 rfl ?_
        refine r_ifeq (pc := 194) (tgt := 201) C dX10_twoOf_194 (by decide) ?_ ?_
        · refine r_iconst (pc := 201) (v := (0 : Int32)) C dX10_twoOf_201 ic_0 ?_
          exact r_iret (pc := 202) C dX10_twoOf_202
        · refine r_iconst (pc := 197) (v := (1 : Int32)) C dX10_twoOf_197 ic_1 ?_
          refine r_goto (pc := 198) (tgt := 202) C dX10_twoOf_198 (by decide) ?_
          exact r_iret (pc := 202) C dX10_twoOf_202
    · refine r_ite (fun c4 => ?_) (fun c4 => ?_)
      · refine r_tabE (pc := 1) (v := (39 : Int32)) (off := 202) (tgt := 203) C dX10_twoOf_1 c4 (by decide) (by decide) (by decide) (by decide) ?_
        refine r_ildn (pc := 203) C dX10_twoOf_203 1 rfl ?_
        refine r_ifne (pc := 204) (tgt := 211) C dX10_twoOf_204 (by decide) ?_ ?_
        · refine r_iconst (pc := 211) (v := (1 : Int32)) C dX10_twoOf_211 ic_1 ?_
          refine r_goto (pc := 212) (tgt := 216) C dX10_twoOf_212 (by decide) ?_
          exact r_iret (pc := 216) C dX10_twoOf_216
        · refine r_ildn (pc := 207) C dX10_twoOf_207 2 rfl ?_
          refine r_ifeq (pc := 208) (tgt := 215) C dX10_twoOf_208 (by decide) ?_ ?_
          · refine r_iconst (pc := 215) (v := (0 : Int32)) C dX10_twoOf_215 ic_0 ?_
            exact r_iret (pc := 216) C dX10_twoOf_216
          · refine r_iconst (pc := 211) (v := (1 : Int32)) C dX10_twoOf_211 ic_1 ?_
            refine r_goto (pc := 212) (tgt := 216) C dX10_twoOf_212 (by decide) ?_
            exact r_iret (pc := 216) C dX10_twoOf_216
      · refine r_ite (fun c5 => ?_) (fun c5 => ?_)
        · refine r_tabE (pc := 1) (v := (40 : Int32)) (off := 202) (tgt := 203) C dX10_twoOf_1 c5 (by decide) (by decide) (by decide) (by decide) ?_
          refine r_ildn (pc := 203) C dX10_twoOf_203 1 rfl ?_
          refine r_ifne (pc := 204) (tgt := 211) C dX10_twoOf_204 (by decide) ?_ ?_
          · refine r_iconst (pc := 211) (v := (1 : Int32)) C dX10_twoOf_211 ic_1 ?_
            refine r_goto (pc := 212) (tgt := 216) C dX10_twoOf_212 (by decide) ?_
            exact r_iret (pc := 216) C dX10_twoOf_216
          · refine r_ildn (pc := 207) C dX10_twoOf_207 2 rfl ?_
            refine r_ifeq (pc := 208) (tgt := 215) C dX10_twoOf_208 (by decide) ?_ ?_
            · refine r_iconst (pc := 215) (v := (0 : Int32)) C dX10_twoOf_215 ic_0 ?_
              exact r_iret (pc := 216) C dX10_twoOf_216
            · refine r_iconst (pc := 211) (v := (1 : Int32)) C dX10_twoOf_211 ic_1 ?_
              refine r_goto (pc := 212) (tgt := 216) C dX10_twoOf_212 (by decide) ?_
              exact r_iret (pc := 216) C dX10_twoOf_216
        · refine r_ite (fun c6 => ?_) (fun c6 => ?_)
          · refine r_tabE (pc := 1) (v := (41 : Int32)) (off := 202) (tgt := 203) C dX10_twoOf_1 c6 (by decide) (by decide) (by decide) (by decide) ?_
            refine r_ildn (pc := 203) C dX10_twoOf_203 1 rfl ?_
            refine r_ifne (pc := 204) (tgt := 211) C dX10_twoOf_204 (by decide) ?_ ?_
            · refine r_iconst (pc := 211) (v := (1 : Int32)) C dX10_twoOf_211 ic_1 ?_
              refine r_goto (pc := 212) (tgt := 216) C dX10_twoOf_212 (by decide) ?_
              exact r_iret (pc := 216) C dX10_twoOf_216
            · refine r_ildn (pc := 207) C dX10_twoOf_207 2 rfl ?_
              refine r_ifeq (pc := 208) (tgt := 215) C dX10_twoOf_208 (by decide) ?_ ?_
              · refine r_iconst (pc := 215) (v := (0 : Int32)) C dX10_twoOf_215 ic_0 ?_
                exact r_iret (pc := 216) C dX10_twoOf_216
              · refine r_iconst (pc := 211) (v := (1 : Int32)) C dX10_twoOf_211 ic_1 ?_
                refine r_goto (pc := 212) (tgt := 216) C dX10_twoOf_212 (by decide) ?_
                exact r_iret (pc := 216) C dX10_twoOf_216
          · refine r_ite (fun c7 => ?_) (fun c7 => ?_)
            · refine r_tabE (pc := 1) (v := (42 : Int32)) (off := 127) (tgt := 128) C dX10_twoOf_1 c7 (by decide) (by decide) (by decide) (by decide) ?_
              refine r_ildn (pc := 128) C dX10_twoOf_128 1 rfl ?_
              refine r_ildn (pc := 129) C dX10_twoOf_129 2 rfl ?_
              refine r_imul (pc := 130) C dX10_twoOf_130 ?_
              exact r_iret (pc := 131) C dX10_twoOf_131
            · refine r_ite (fun c8 => ?_) (fun c8 => ?_)
              · refine r_tabE (pc := 1) (v := (43 : Int32)) (off := 119) (tgt := 120) C dX10_twoOf_1 c8 (by decide) (by decide) (by decide) (by decide) ?_
                refine r_ildn (pc := 120) C dX10_twoOf_120 1 rfl ?_
                refine r_ildn (pc := 121) C dX10_twoOf_121 2 rfl ?_
                refine r_iadd (pc := 122) C dX10_twoOf_122 ?_
                exact r_iret (pc := 123) C dX10_twoOf_123
              · refine r_ite (fun c9 => ?_) (fun c9 => ?_)
                · refine r_tabE (pc := 1) (v := (44 : Int32)) (off := 202) (tgt := 203) C dX10_twoOf_1 c9 (by decide) (by decide) (by decide) (by decide) ?_
                  refine r_ildn (pc := 203) C dX10_twoOf_203 1 rfl ?_
                  refine r_ifne (pc := 204) (tgt := 211) C dX10_twoOf_204 (by decide) ?_ ?_
                  · refine r_iconst (pc := 211) (v := (1 : Int32)) C dX10_twoOf_211 ic_1 ?_
                    refine r_goto (pc := 212) (tgt := 216) C dX10_twoOf_212 (by decide) ?_
                    exact r_iret (pc := 216) C dX10_twoOf_216
                  · refine r_ildn (pc := 207) C dX10_twoOf_207 2 rfl ?_
                    refine r_ifeq (pc := 208) (tgt := 215) C dX10_twoOf_208 (by decide) ?_ ?_
                    · refine r_iconst (pc := 215) (v := (0 : Int32)) C dX10_twoOf_215 ic_0 ?_
                      exact r_iret (pc := 216) C dX10_twoOf_216
                    · refine r_iconst (pc := 211) (v := (1 : Int32)) C dX10_twoOf_211 ic_1 ?_
                      refine r_goto (pc := 212) (tgt := 216) C dX10_twoOf_212 (by decide) ?_
                      exact r_iret (pc := 216) C dX10_twoOf_216
                · refine r_ite (fun c10 => ?_) (fun c10 => ?_)
                  · refine r_tabE (pc := 1) (v := (45 : Int32)) (off := 123) (tgt := 124) C dX10_twoOf_1 c10 (by decide) (by decide) (by decide) (by decide) ?_
                    refine r_ildn (pc := 124) C dX10_twoOf_124 1 rfl ?_
                    refine r_ildn (pc := 125) C dX10_twoOf_125 2 rfl ?_
                    refine r_isub (pc := 126) C dX10_twoOf_126 ?_
                    exact r_iret (pc := 127) C dX10_twoOf_127
                  · refine r_ite (fun c11 => ?_) (fun c11 => ?_)
                    · refine r_tabE (pc := 1) (v := (46 : Int32)) (off := 202) (tgt := 203) C dX10_twoOf_1 c11 (by decide) (by decide) (by decide) (by decide) ?_
                      refine r_ildn (pc := 203) C dX10_twoOf_203 1 rfl ?_
                      refine r_ifne (pc := 204) (tgt := 211) C dX10_twoOf_204 (by decide) ?_ ?_
                      · refine r_iconst (pc := 211) (v := (1 : Int32)) C dX10_twoOf_211 ic_1 ?_
                        refine r_goto (pc := 212) (tgt := 216) C dX10_twoOf_212 (by decide) ?_
                        exact r_iret (pc := 216) C dX10_twoOf_216
                      · refine r_ildn (pc := 207) C dX10_twoOf_207 2 rfl ?_
                        refine r_ifeq (pc := 208) (tgt := 215) C dX10_twoOf_208 (by decide) ?_ ?_
                        · refine r_iconst (pc := 215) (v := (0 : Int32)) C dX10_twoOf_215 ic_0 ?_
                          exact r_iret (pc := 216) C dX10_twoOf_216
                        · refine r_iconst (pc := 211) (v := (1 : Int32)) C dX10_twoOf_211 ic_1 ?_
                          refine r_goto (pc := 212) (tgt := 216) C dX10_twoOf_212 (by decide) ?_
                          exact r_iret (pc := 216) C dX10_twoOf_216
                    · refine r_ite (fun c12 => ?_) (fun c12 => ?_)
                      · refine r_tabE (pc := 1) (v := (47 : Int32)) (off := 131) (tgt := 132) C dX10_twoOf_1 c12 (by decide) (by decide) (by decide) (by decide) ?_
                        refine r_ildn (pc := 132) C dX10_twoOf_132 2 rfl ?_
                        refine r_ifne (pc := 133) (tgt := 140) C dX10_twoOf_133 (by decide) ?_ ?_
                        · refine r_ildn (pc := 140) C dX10_twoOf_140 1 rfl ?_
                          refine r_ildn (pc := 141) C dX10_twoOf_141 2 rfl ?_
                          refine r_ckb (fun h13 => ?_)
                          refine r_idiv (pc := 142) C dX10_twoOf_142 (nz_ne h13) ?_
                          exact r_iret (pc := 143) C dX10_twoOf_143
                        · refine r_iconst (pc := 136) (v := (0 : Int32)) C dX10_twoOf_136 ic_0 ?_
                          refine r_goto (pc := 137) (tgt := 143) C dX10_twoOf_137 (by decide) ?_
                          exact r_iret (pc := 143) C dX10_twoOf_143
                      · refine r_ite (fun c14 => ?_) (fun c14 => ?_)
                        · refine r_tabE (pc := 1) (v := (48 : Int32)) (off := 202) (tgt := 203) C dX10_twoOf_1 c14 (by decide) (by decide) (by decide) (by decide) ?_
                          refine r_ildn (pc := 203) C dX10_twoOf_203 1 rfl ?_
                          refine r_ifne (pc := 204) (tgt := 211) C dX10_twoOf_204 (by decide) ?_ ?_
                          · refine r_iconst (pc := 211) (v := (1 : Int32)) C dX10_twoOf_211 ic_1 ?_
                            refine r_goto (pc := 212) (tgt := 216) C dX10_twoOf_212 (by decide) ?_
                            exact r_iret (pc := 216) C dX10_twoOf_216
                          · refine r_ildn (pc := 207) C dX10_twoOf_207 2 rfl ?_
                            refine r_ifeq (pc := 208) (tgt := 215) C dX10_twoOf_208 (by decide) ?_ ?_
                            · refine r_iconst (pc := 215) (v := (0 : Int32)) C dX10_twoOf_215 ic_0 ?_
                              exact r_iret (pc := 216) C dX10_twoOf_216
                            · refine r_iconst (pc := 211) (v := (1 : Int32)) C dX10_twoOf_211 ic_1 ?_
                              refine r_goto (pc := 212) (tgt := 216) C dX10_twoOf_212 (by decide) ?_
                              exact r_iret (pc := 216) C dX10_twoOf_216
                        · refine r_ite (fun c15 => ?_) (fun c15 => ?_)
                          · refine r_tabE (pc := 1) (v := (49 : Int32)) (off := 202) (tgt := 203) C dX10_twoOf_1 c15 (by decide) (by decide) (by decide) (by decide) ?_
                            refine r_ildn (pc := 203) C dX10_twoOf_203 1 rfl ?_
                            refine r_ifne (pc := 204) (tgt := 211) C dX10_twoOf_204 (by decide) ?_ ?_
                            · refine r_iconst (pc := 211) (v := (1 : Int32)) C dX10_twoOf_211 ic_1 ?_
                              refine r_goto (pc := 212) (tgt := 216) C dX10_twoOf_212 (by decide) ?_
                              exact r_iret (pc := 216) C dX10_twoOf_216
                            · refine r_ildn (pc := 207) C dX10_twoOf_207 2 rfl ?_
                              refine r_ifeq (pc := 208) (tgt := 215) C dX10_twoOf_208 (by decide) ?_ ?_
                              · refine r_iconst (pc := 215) (v := (0 : Int32)) C dX10_twoOf_215 ic_0 ?_
                                exact r_iret (pc := 216) C dX10_twoOf_216
                              · refine r_iconst (pc := 211) (v := (1 : Int32)) C dX10_twoOf_211 ic_1 ?_
                                refine r_goto (pc := 212) (tgt := 216) C dX10_twoOf_212 (by decide) ?_
                                exact r_iret (pc := 216) C dX10_twoOf_216
                          · refine r_ite (fun c16 => ?_) (fun c16 => ?_)
                            · refine r_tabE (pc := 1) (v := (50 : Int32)) (off := 202) (tgt := 203) C dX10_twoOf_1 c16 (by decide) (by decide) (by decide) (by decide) ?_
                              refine r_ildn (pc := 203) C dX10_twoOf_203 1 rfl ?_
                              refine r_ifne (pc := 204) (tgt := 211) C dX10_twoOf_204 (by decide) ?_ ?_
                              · refine r_iconst (pc := 211) (v := (1 : Int32)) C dX10_twoOf_211 ic_1 ?_
                                refine r_goto (pc := 212) (tgt := 216) C dX10_twoOf_212 (by decide) ?_
                                exact r_iret (pc := 216) C dX10_twoOf_216
                              · refine r_ildn (pc := 207) C dX10_twoOf_207 2 rfl ?_
                                refine r_ifeq (pc := 208) (tgt := 215) C dX10_twoOf_208 (by decide) ?_ ?_
                                · refine r_iconst (pc := 215) (v := (0 : Int32)) C dX10_twoOf_215 ic_0 ?_
                                  exact r_iret (pc := 216) C dX10_twoOf_216
                                · refine r_iconst (pc := 211) (v := (1 : Int32)) C dX10_twoOf_211 ic_1 ?_
                                  refine r_goto (pc := 212) (tgt := 216) C dX10_twoOf_212 (by decide) ?_
                                  exact r_iret (pc := 216) C dX10_twoOf_216
                            · refine r_ite (fun c17 => ?_) (fun c17 => ?_)
                              · refine r_tabE (pc := 1) (v := (51 : Int32)) (off := 202) (tgt := 203) C dX10_twoOf_1 c17 (by decide) (by decide) (by decide) (by decide) ?_
                                refine r_ildn (pc := 203) C dX10_twoOf_203 1 rfl ?_
                                refine r_ifne (pc := 204) (tgt := 211) C dX10_twoOf_204 (by decide) ?_ ?_
                                · refine r_iconst (pc := 211) (v := (1 : Int32)) C dX10_twoOf_211 ic_1 ?_
                                  refine r_goto (pc := 212) (tgt := 216) C dX10_twoOf_212 (by decide) ?_
                                  exact r_iret (pc := 216) C dX10_twoOf_216
                                · refine r_ildn (pc := 207) C dX10_twoOf_207 2 rfl ?_
                                  refine r_ifeq (pc := 208) (tgt := 215) C dX10_twoOf_208 (by decide) ?_ ?_
                                  · refine r_iconst (pc := 215) (v := (0 : Int32)) C dX10_twoOf_215 ic_0 ?_
                                    exact r_iret (pc := 216) C dX10_twoOf_216
                                  · refine r_iconst (pc := 211) (v := (1 : Int32)) C dX10_twoOf_211 ic_1 ?_
                                    refine r_goto (pc := 212) (tgt := 216) C dX10_twoOf_212 (by decide) ?_
                                    exact r_iret (pc := 216) C dX10_twoOf_216
                              · refine r_ite (fun c18 => ?_) (fun c18 => ?_)
                                · refine r_tabE (pc := 1) (v := (52 : Int32)) (off := 202) (tgt := 203) C dX10_twoOf_1 c18 (by decide) (by decide) (by decide) (by decide) ?_
                                  refine r_ildn (pc := 203) C dX10_twoOf_203 1 rfl ?_
                                  refine r_ifne (pc := 204) (tgt := 211) C dX10_twoOf_204 (by decide) ?_ ?_
                                  · refine r_iconst (pc := 211) (v := (1 : Int32)) C dX10_twoOf_211 ic_1 ?_
                                    refine r_goto (pc := 212) (tgt := 216) C dX10_twoOf_212 (by decide) ?_
                                    exact r_iret (pc := 216) C dX10_twoOf_216
                                  · refine r_ildn (pc := 207) C dX10_twoOf_207 2 rfl ?_
                                    refine r_ifeq (pc := 208) (tgt := 215) C dX10_twoOf_208 (by decide) ?_ ?_
                                    · refine r_iconst (pc := 215) (v := (0 : Int32)) C dX10_twoOf_215 ic_0 ?_
                                      exact r_iret (pc := 216) C dX10_twoOf_216
                                    · refine r_iconst (pc := 211) (v := (1 : Int32)) C dX10_twoOf_211 ic_1 ?_
                                      refine r_goto (pc := 212) (tgt := 216) C dX10_twoOf_212 (by decide) ?_
                                      exact r_iret (pc := 216) C dX10_twoOf_216
                                · refine r_ite (fun c19 => ?_) (fun c19 => ?_)
                                  · refine r_tabE (pc := 1) (v := (53 : Int32)) (off := 202) (tgt := 203) C dX10_twoOf_1 c19 (by decide) (by decide) (by decide) (by decide) ?_
                                    refine r_ildn (pc := 203) C dX10_twoOf_203 1 rfl ?_
                                    refine r_ifne (pc := 204) (tgt := 211) C dX10_twoOf_204 (by decide) ?_ ?_
                                    · refine r_iconst (pc := 211) (v := (1 : Int32)) C dX10_twoOf_211 ic_1 ?_
                                      refine r_goto (pc := 212) (tgt := 216) C dX10_twoOf_212 (by decide) ?_
                                      exact r_iret (pc := 216) C dX10_twoOf_216
                                    · refine r_ildn (pc := 207) C dX10_twoOf_207 2 rfl ?_
                                      refine r_ifeq (pc := 208) (tgt := 215) C dX10_twoOf_208 (by decide) ?_ ?_
                                      · refine r_iconst (pc := 215) (v := (0 : Int32)) C dX10_twoOf_215 ic_0 ?_
                                        exact r_iret (pc := 216) C dX10_twoOf_216
                                      · refine r_iconst (pc := 211) (v := (1 : Int32)) C dX10_twoOf_211 ic_1 ?_
                                        refine r_goto (pc := 212) (tgt := 216) C dX10_twoOf_212 (by decide) ?_
                                        exact r_iret (pc := 216) C dX10_twoOf_216
                                  · refine r_ite (fun c20 => ?_) (fun c20 => ?_)
                                    · refine r_tabE (pc := 1) (v := (54 : Int32)) (off := 202) (tgt := 203) C dX10_twoOf_1 c20 (by decide) (by decide) (by decide) (by decide) ?_
                                      refine r_ildn (pc := 203) C dX10_twoOf_203 1 rfl ?_
                                      refine r_ifne (pc := 204) (tgt := 211) C dX10_twoOf_204 (by decide) ?_ ?_
                                      · refine r_iconst (pc := 211) (v := (1 : Int32)) C dX10_twoOf_211 ic_1 ?_
                                        refine r_goto (pc := 212) (tgt := 216) C dX10_twoOf_212 (by decide) ?_
                                        exact r_iret (pc := 216) C dX10_twoOf_216
                                      · refine r_ildn (pc := 207) C dX10_twoOf_207 2 rfl ?_
                                        refine r_ifeq (pc := 208) (tgt := 215) C dX10_twoOf_208 (by decide) ?_ ?_
                                        · refine r_iconst (pc := 215) (v := (0 : Int32)) C dX10_twoOf_215 ic_0 ?_
                                          exact r_iret (pc := 216) C dX10_twoOf_216
                                        · refine r_iconst (pc := 211) (v := (1 : Int32)) C dX10_twoOf_211 ic_1 ?_
                                          refine r_goto (pc := 212) (tgt := 216) C dX10_twoOf_212 (by decide) ?_
                                          exact r_iret (pc := 216) C dX10_twoOf_216
                                    · refine r_ite (fun c21 => ?_) (fun c21 => ?_)
                                      · refine r_tabE (pc := 1) (v := (55 : Int32)) (off := 202) (tgt := 203) C dX10_twoOf_1 c21 (by decide) (by decide) (by decide) (by decide) ?_
                                        refine r_ildn (pc := 203) C dX10_twoOf_203 1 rfl ?_
                                        refine r_ifne (pc := 204) (tgt := 211) C dX10_twoOf_204 (by decide) ?_ ?_
                                        · refine r_iconst (pc := 211) (v := (1 : Int32)) C dX10_twoOf_211 ic_1 ?_
                                          refine r_goto (pc := 212) (tgt := 216) C dX10_twoOf_212 (by decide) ?_
                                          exact r_iret (pc := 216) C dX10_twoOf_216
                                        · refine r_ildn (pc := 207) C dX10_twoOf_207 2 rfl ?_
                                          refine r_ifeq (pc := 208) (tgt := 215) C dX10_twoOf_208 (by decide) ?_ ?_
                                          · refine r_iconst (pc := 215) (v := (0 : Int32)) C dX10_twoOf_215 ic_0 ?_
                                            exact r_iret (pc := 216) C dX10_twoOf_216
                                          · refine r_iconst (pc := 211) (v := (1 : Int32)) C dX10_twoOf_211 ic_1 ?_
                                            refine r_goto (pc := 212) (tgt := 216) C dX10_twoOf_212 (by decide) ?_
                                            exact r_iret (pc := 216) C dX10_twoOf_216
                                      · refine r_ite (fun c22 => ?_) (fun c22 => ?_)
                                        · refine r_tabE (pc := 1) (v := (56 : Int32)) (off := 202) (tgt := 203) C dX10_twoOf_1 c22 (by decide) (by decide) (by decide) (by decide) ?_
                                          refine r_ildn (pc := 203) C dX10_twoOf_203 1 rfl ?_
                                          refine r_ifne (pc := 204) (tgt := 211) C dX10_twoOf_204 (by decide) ?_ ?_
                                          · refine r_iconst (pc := 211) (v := (1 : Int32)) C dX10_twoOf_211 ic_1 ?_
                                            refine r_goto (pc := 212) (tgt := 216) C dX10_twoOf_212 (by decide) ?_
                                            exact r_iret (pc := 216) C dX10_twoOf_216
                                          · refine r_ildn (pc := 207) C dX10_twoOf_207 2 rfl ?_
                                            refine r_ifeq (pc := 208) (tgt := 215) C dX10_twoOf_208 (by decide) ?_ ?_
                                            · refine r_iconst (pc := 215) (v := (0 : Int32)) C dX10_twoOf_215 ic_0 ?_
                                              exact r_iret (pc := 216) C dX10_twoOf_216
                                            · refine r_iconst (pc := 211) (v := (1 : Int32)) C dX10_twoOf_211 ic_1 ?_
                                              refine r_goto (pc := 212) (tgt := 216) C dX10_twoOf_212 (by decide) ?_
                                              exact r_iret (pc := 216) C dX10_twoOf_216
                                        · refine r_ite (fun c23 => ?_) (fun c23 => ?_)
                                          · refine r_tabE (pc := 1) (v := (57 : Int32)) (off := 202) (tgt := 203) C dX10_twoOf_1 c23 (by decide) (by decide) (by decide) (by decide) ?_
                                            refine r_ildn (pc := 203) C dX10_twoOf_203 1 rfl ?_
                                            refine r_ifne (pc := 204) (tgt := 211) C dX10_twoOf_204 (by decide) ?_ ?_
                                            · refine r_iconst (pc := 211) (v := (1 : Int32)) C dX10_twoOf_211 ic_1 ?_
                                              refine r_goto (pc := 212) (tgt := 216) C dX10_twoOf_212 (by decide) ?_
                                              exact r_iret (pc := 216) C dX10_twoOf_216
                                            · refine r_ildn (pc := 207) C dX10_twoOf_207 2 rfl ?_
                                              refine r_ifeq (pc := 208) (tgt := 215) C dX10_twoOf_208 (by decide) ?_ ?_
                                              · refine r_iconst (pc := 215) (v := (0 : Int32)) C dX10_twoOf_215 ic_0 ?_
                                                exact r_iret (pc := 216) C dX10_twoOf_216
                                              · refine r_iconst (pc := 211) (v := (1 : Int32)) C dX10_twoOf_211 ic_1 ?_
                                                refine r_goto (pc := 212) (tgt := 216) C dX10_twoOf_212 (by decide) ?_
                                                exact r_iret (pc := 216) C dX10_twoOf_216
                                          · refine r_ite (fun c24 => ?_) (fun c24 => ?_)
                                            · refine r_tabE (pc := 1) (v := (58 : Int32)) (off := 202) (tgt := 203) C dX10_twoOf_1 c24 (by decide) (by decide) (by decide) (by decide) ?_
                                              refine r_ildn (pc := 203) C dX10_twoOf_203 1 rfl ?_
                                              refine r_ifne (pc := 204) (tgt := 211) C dX10_twoOf_204 (by decide) ?_ ?_
                                              · refine r_iconst (pc := 211) (v := (1 : Int32)) C dX10_twoOf_211 ic_1 ?_
                                                refine r_goto (pc := 212) (tgt := 216) C dX10_twoOf_212 (by decide) ?_
                                                exact r_iret (pc := 216) C dX10_twoOf_216
                                              · refine r_ildn (pc := 207) C dX10_twoOf_207 2 rfl ?_
                                                refine r_ifeq (pc := 208) (tgt := 215) C dX10_twoOf_208 (by decide) ?_ ?_
                                                · refine r_iconst (pc := 215) (v := (0 : Int32)) C dX10_twoOf_215 ic_0 ?_
                                                  exact r_iret (pc := 216) C dX10_twoOf_216
                                                · refine r_iconst (pc := 211) (v := (1 : Int32)) C dX10_twoOf_211 ic_1 ?_
                                                  refine r_goto (pc := 212) (tgt := 216) C dX10_twoOf_212 (by decide) ?_
                                                  exact r_iret (pc := 216) C dX10_twoOf_216
                                            · refine r_ite (fun c25 => ?_) (fun c25 => ?_)
                                              · refine r_tabE (pc := 1) (v := (59 : Int32)) (off := 202) (tgt := 203) C dX10_twoOf_1 c25 (by decide) (by decide) (by decide) (by decide) ?_
                                                refine r_ildn (pc := 203) C dX10_twoOf_203 1 rfl ?_
                                                refine r_ifne (pc := 204) (tgt := 211) C dX10_twoOf_204 (by decide) ?_ ?_
                                                · refine r_iconst (pc := 211) (v := (1 : Int32)) C dX10_twoOf_211 ic_1 ?_
                                                  refine r_goto (pc := 212) (tgt := 216) C dX10_twoOf_212 (by decide) ?_
                                                  exact r_iret (pc := 216) C dX10_twoOf_216
                                                · refine r_ildn (pc := 207) C dX10_twoOf_207 2 rfl ?_
                                                  refine r_ifeq (pc := 208) (tgt := 215) C dX10_twoOf_208 (by decide) ?_ ?_
                                                  · refine r_iconst (pc := 215) (v := (0 : Int32)) C dX10_twoOf_215 ic_0 ?_
                                                    exact r_iret (pc := 216) C dX10_twoOf_216
                                                  · refine r_iconst (pc := 211) (v := (1 : Int32)) C dX10_twoOf_211 ic_1 ?_
                                                    refine r_goto (pc := 212) (tgt := 216) C dX10_twoOf_212 (by decide) ?_
                                                    exact r_iret (pc := 216) C dX10_twoOf_216
                                              · refine r_ite (fun c26 => ?_) (fun c26 => ?_)
                                                · refine r_tabE (pc := 1) (v := (60 : Int32)) (off := 155) (tgt := 156) C dX10_twoOf_1 c26 (by decide) (by decide) (by decide) (by decide) ?_
                                                  refine r_ildn (pc := 156) C dX10_twoOf_156 1 rfl ?_
                                                  refine r_ildn (pc := 157) C dX10_twoOf_157 2 rfl ?_
                                                  refine r_icge (pc := 158) (tgt := 165) C dX10_twoOf_158 (by decide) ?_ ?_
                                                  · refine r_iconst (pc := 165) (v := (0 : Int32)) C dX10_twoOf_165 ic_0 ?_
                                                    exact r_iret (pc := 166) C dX10_twoOf_166
                                                  · refine r_iconst (pc := 161) (v := (1 : Int32)) C dX10_twoOf_161 ic_1 ?_
                                                    refine r_goto (pc := 162) (tgt := 166) C dX10_twoOf_162 (by decide) ?_
                                                    exact r_iret (pc := 166) C dX10_twoOf_166
                                                · refine r_ite (fun c27 => ?_) (fun c27 => ?_)
                                                  · refine r_tabE (pc := 1) (v := (61 : Int32)) (off := 166) (tgt := 167) C dX10_twoOf_1 c27 (by decide) (by decide) (by decide) (by decide) ?_
                                                    refine r_ildn (pc := 167) C dX10_twoOf_167 1 rfl ?_
                                                    refine r_ildn (pc := 168) C dX10_twoOf_168 2 rfl ?_
                                                    refine r_icne (pc := 169) (tgt := 176) C dX10_twoOf_169 (by decide) ?_ ?_
                                                    · refine r_iconst (pc := 176) (v := (0 : Int32)) C dX10_twoOf_176 ic_0 ?_
                                                      exact r_iret (pc := 177) C dX10_twoOf_177
                                                    · refine r_iconst (pc := 172) (v := (1 : Int32)) C dX10_twoOf_172 ic_1 ?_
                                                      refine r_goto (pc := 173) (tgt := 177) C dX10_twoOf_173 (by decide) ?_
                                                      exact r_iret (pc := 177) C dX10_twoOf_177
                                                  · refine r_ite (fun c28 => ?_) (fun c28 => ?_)
                                                    · refine r_tabE (pc := 1) (v := (62 : Int32)) (off := 177) (tgt := 178) C dX10_twoOf_1 c28 (by decide) (by decide) (by decide) (by decide) ?_
                                                      refine r_ildn (pc := 178) C dX10_twoOf_178 1 rfl ?_
                                                      refine r_ildn (pc := 179) C dX10_twoOf_179 2 rfl ?_
                                                      refine r_icle (pc := 180) (tgt := 187) C dX10_twoOf_180 (by decide) ?_ ?_
                                                      · refine r_iconst (pc := 187) (v := (0 : Int32)) C dX10_twoOf_187 ic_0 ?_
                                                        exact r_iret (pc := 188) C dX10_twoOf_188
                                                      · refine r_iconst (pc := 183) (v := (1 : Int32)) C dX10_twoOf_183 ic_1 ?_
                                                        refine r_goto (pc := 184) (tgt := 188) C dX10_twoOf_184 (by decide) ?_
                                                        exact r_iret (pc := 188) C dX10_twoOf_188
                                                    · refine r_tabO (pc := 1) (tgt := 203) C dX10_twoOf_1 (by have q0 := lv_neT (k := (37 : Int32)) (a := 37) c1 (by decide); have q1 := lv_neT (k := (38 : Int32)) (a := 38) c3 (by decide); have q2 := lv_neT (k := (39 : Int32)) (a := 39) c4 (by decide); have q3 := lv_neT (k := (40 : Int32)) (a := 40) c5 (by decide); have q4 := lv_neT (k := (41 : Int32)) (a := 41) c6 (by decide); have q5 := lv_neT (k := (42 : Int32)) (a := 42) c7 (by decide); have q6 := lv_neT (k := (43 : Int32)) (a := 43) c8 (by decide); have q7 := lv_neT (k := (44 : Int32)) (a := 44) c9 (by decide); have q8 := lv_neT (k := (45 : Int32)) (a := 45) c10 (by decide); have q9 := lv_neT (k := (46 : Int32)) (a := 46) c11 (by decide); have q10 := lv_neT (k := (47 : Int32)) (a := 47) c12 (by decide); have q11 := lv_neT (k := (48 : Int32)) (a := 48) c14 (by decide); have q12 := lv_neT (k := (49 : Int32)) (a := 49) c15 (by decide); have q13 := lv_neT (k := (50 : Int32)) (a := 50) c16 (by decide); have q14 := lv_neT (k := (51 : Int32)) (a := 51) c17 (by decide); have q15 := lv_neT (k := (52 : Int32)) (a := 52) c18 (by decide); have q16 := lv_neT (k := (53 : Int32)) (a := 53) c19 (by decide); have q17 := lv_neT (k := (54 : Int32)) (a := 54) c20 (by decide); have q18 := lv_neT (k := (55 : Int32)) (a := 55) c21 (by decide); have q19 := lv_neT (k := (56 : Int32)) (a := 56) c22 (by decide); have q20 := lv_neT (k := (57 : Int32)) (a := 57) c23 (by decide); have q21 := lv_neT (k := (58 : Int32)) (a := 58) c24 (by decide); have q22 := lv_neT (k := (59 : Int32)) (a := 59) c25 (by decide); have q23 := lv_neT (k := (60 : Int32)) (a := 60) c26 (by decide); have q24 := lv_neT (k := (61 : Int32)) (a := 61) c27 (by decide); have q25 := lv_neT (k := (62 : Int32)) (a := 62) c28 (by decide); omega) (by decide) ?_
                                                      refine r_ildn (pc := 203) C dX10_twoOf_203 1 rfl ?_
                                                      refine r_ifne (pc := 204) (tgt := 211) C dX10_twoOf_204 (by decide) ?_ ?_
                                                      · refine r_iconst (pc := 211) (v := (1 : Int32)) C dX10_twoOf_211 ic_1 ?_
                                                        refine r_goto (pc := 212) (tgt := 216) C dX10_twoOf_212 (by decide) ?_
                                                        exact r_iret (pc := 216) C dX10_twoOf_216
                                                      · refine r_ildn (pc := 207) C dX10_twoOf_207 2 rfl ?_
                                                        refine r_ifeq (pc := 208) (tgt := 215) C dX10_twoOf_208 (by decide) ?_ ?_
                                                        · refine r_iconst (pc := 215) (v := (0 : Int32)) C dX10_twoOf_215 ic_0 ?_
                                                          exact r_iret (pc := 216) C dX10_twoOf_216
                                                        · refine r_iconst (pc := 211) (v := (1 : Int32)) C dX10_twoOf_211 ic_1 ?_
                                                          refine r_goto (pc := 212) (tgt := 216) C dX10_twoOf_212 (by decide) ?_
                                                          exact r_iret (pc := 216) C dX10_twoOf_216
theorem kS_X10_twoOf {κ : oK} {nL : Nat} {cc : ByteArray} {own : String} {Ts : List Cond} {n : Nat} {ret : Option FieldType} {α : Type} {Q : α → Sg → State → Prop} {σ : Sg} {pc : Nat} {lv : List (Nat × Value)} {st : List Value} {x : oXp} {idx : Nat} {a0 : Int32} {a1 : Int32} {a2 : Int32} {K : Int32 → Sg → Option (α × Sg)} (C : oC κ (oM x) nL cc own Ts n ret) (hG : GoodIn Ts (va_wsS own idx yX10_twoOf wsX10_twoOf)) (hn : 3 + 1 ≤ n) (hst : (st.map fun v => v.category).sum ≤ 8) (hd : decode cc pc = .ok (.invokestatic idx, 3)) (kk : ∀ (r1 : Int32) (σ1 : Sg), oV κ (oM x) nL Q σ1 (pc + 3) lv (.int r1 :: st) (K r1 σ1)) : oV κ (oM x) nL Q σ pc lv (.int a2 :: .int a1 :: .int a0 :: st) (bnd (f_X10_twoOf a0 a1 a2 σ) K) := by
  have hI : oI (oM x) := oC_I C
  exact r_cSi (As := [.int a0, .int a1, .int a2]) (na := 3) C (fun l => m_X10_twoOf l x hI a0 a1 a2 σ) hG rfl (by decide +kernel) rfl (by decide) hn hst hd kk
set_option maxHeartbeats 4000000 in
set_option maxRecDepth 100000 in
theorem v_X10_works_38 {κ : oK} {x : oXp} (C : oC κ (oM x) 5 cX10_works RX10 wsX10_works 4 (some .int)) (rec4 : Int32 → Int32 → Int32 → Sg → Option (Int32 × Sg)) (hrec4 : ∀ (a1 : Int32) (a2 : Int32) (a3 : Int32) (σ : Sg), oV κ (oM x) 5 (oQi κ (oM x)) σ 4 [(0, .ref (xa x 0)), (1, .int a1), (2, .int a2), (3, .int a3)] [] (rec4 a1 a2 a3 σ)) (a1 : Int32) (a2 : Int32) (a3 : Int32) (a4 : Int32) (σ : Sg) : oV κ (oM x) 5 (oQi κ (oM x)) σ 38 [(0, .ref (xa x 0)), (1, .int a1), (2, .int a2), (3, .int a3), (4, .int a4)] [] (f_X10_works_38  rec4 a1 a2 a3 a4 σ) := by
  unfold f_X10_works_38
  refine r_aldn (pc := 38) C dX10_works_38 0 rfl ?_
  refine gf_X10_11_0 (pc := 39) C hi_X10_works_X10 wd_X10_works_2 dX10_works_39 ?_
  refine r_ildn (pc := 42) C dX10_works_42 2 rfl ?_
  refine r_ild (pc := 43) C dX10_works_43 4 rfl ?_
  refine r_iconst (pc := 45) (v := (1 : Int32)) C dX10_works_45 ic_1 ?_
  refine r_icne (pc := 46) (tgt := 63) C dX10_works_46 (by decide) ?_ ?_
  · refine r_aldn (pc := 63) C dX10_works_63 0 rfl ?_
    refine gf_X10_10_0 (pc := 64) C hi_X10_works_X10 wd_X10_works_3 dX10_works_64 ?_
    refine r_aldn (pc := 67) C dX10_works_67 0 rfl ?_
    refine gf_X10_0_0 (pc := 68) C hi_X10_works_X10 wd_X10_works_1 dX10_works_68 ?_
    refine r_ildn (pc := 71) C dX10_works_71 1 rfl ?_
    refine r_bipush (pc := 72) (v := (61 : Int32)) C dX10_works_72 bp_61 ?_
    refine r_iadd (pc := 74) C dX10_works_74 ?_
    refine r_ildn (pc := 75) C dX10_works_75 3 rfl ?_
    refine r_iadd (pc := 76) C dX10_works_76 ?_
    refine iald_oM_1 (pc := 77) C dX10_works_77 ?_
    refine iald_oM_10 (pc := 78) C dX10_works_78 ?_
    refine iast_oM_11 (pc := 79) C dX10_works_79 (fun s1 => ?_)
    refine r_iinc (pc := 80) (v := (1 : Int32)) (lv1 := fun y => [(0, _), (1, _), (2, .int y), (3, _)]) C dX10_works_80 ic_1 2 rfl (by decide) [1, 2, 0, 3] (fun _ => rfl) (fun v2 => ?_)
    refine r_goto (pc := 83) (tgt := 149) C dX10_works_83 (by decide) ?_
    refine r_iinc (pc := 149) (v := (1 : Int32)) (lv1 := fun y => [(0, _), (1, _), (2, _), (3, .int y)]) C dX10_works_149 ic_1 3 rfl (by decide) [1, 2, 3, 0] (fun _ => rfl) (fun v3 => ?_)
    refine r_goto (pc := 152) (tgt := 4) C dX10_works_152 (by decide) ?_
    exact hrec4 a1 v2 v3 s1
  · refine r_aldn (pc := 49) C dX10_works_49 0 rfl ?_
    refine gf_X10_0_0 (pc := 50) C hi_X10_works_X10 wd_X10_works_1 dX10_works_50 ?_
    refine r_ildn (pc := 53) C dX10_works_53 1 rfl ?_
    refine r_bipush (pc := 54) (v := (61 : Int32)) C dX10_works_54 bp_61 ?_
    refine r_iadd (pc := 56) C dX10_works_56 ?_
    refine r_ildn (pc := 57) C dX10_works_57 3 rfl ?_
    refine r_iadd (pc := 58) C dX10_works_58 ?_
    refine iald_oM_1 (pc := 59) C dX10_works_59 ?_
    refine r_goto (pc := 60) (tgt := 79) C dX10_works_60 (by decide) ?_
    refine iast_oM_11 (pc := 79) C dX10_works_79 (fun s4 => ?_)
    refine r_iinc (pc := 80) (v := (1 : Int32)) (lv1 := fun y => [(0, _), (1, _), (2, .int y), (3, _)]) C dX10_works_80 ic_1 2 rfl (by decide) [1, 2, 0, 3] (fun _ => rfl) (fun v5 => ?_)
    refine r_goto (pc := 83) (tgt := 149) C dX10_works_83 (by decide) ?_
    refine r_iinc (pc := 149) (v := (1 : Int32)) (lv1 := fun y => [(0, _), (1, _), (2, _), (3, .int y)]) C dX10_works_149 ic_1 3 rfl (by decide) [1, 2, 3, 0] (fun _ => rfl) (fun v6 => ?_)
    refine r_goto (pc := 152) (tgt := 4) C dX10_works_152 (by decide) ?_
    exact hrec4 a1 v5 v6 s4
set_option maxHeartbeats 4000000 in
set_option maxRecDepth 100000 in
theorem v_X10_works_4_b {κ : oK} {x : oXp} (C : oC κ (oM x) 5 cX10_works RX10 wsX10_works 4 (some .int))  (rec4 : Int32 → Int32 → Int32 → Sg → Option (Int32 × Sg)) (hrec4 : ∀ (a1 : Int32) (a2 : Int32) (a3 : Int32) (σ : Sg), oV κ (oM x) 5 (oQi κ (oM x)) σ 4 [(0, .ref (xa x 0)), (1, .int a1), (2, .int a2), (3, .int a3)] [] (rec4 a1 a2 a3 σ)) (a1 : Int32) (a2 : Int32) (a3 : Int32) (σ : Sg) : oV κ (oM x) 5 (oQi κ (oM x)) σ 4 [(0, .ref (xa x 0)), (1, .int a1), (2, .int a2), (3, .int a3)] [] (f_X10_works_4_b   rec4 a1 a2 a3 σ) := by
  unfold f_X10_works_4_b
  refine r_ildn (pc := 4) C dX10_works_4 3 rfl ?_
  refine r_aldn (pc := 5) C dX10_works_5 0 rfl ?_
  refine gf_X10_0_0 (pc := 6) C hi_X10_works_X10 wd_X10_works_1 dX10_works_6 ?_
  refine r_ildn (pc := 9) C dX10_works_9 1 rfl ?_
  refine iald_oM_1 (pc := 10) C dX10_works_10 ?_
  refine r_icge (pc := 11) (tgt := 155) C dX10_works_11 (by decide) ?_ ?_
  · refine r_aldn (pc := 155) C dX10_works_155 0 rfl ?_
    refine gf_X10_11_0 (pc := 156) C hi_X10_works_X10 wd_X10_works_2 dX10_works_156 ?_
    refine r_iconst (pc := 159) (v := (0 : Int32)) C dX10_works_159 ic_0 ?_
    refine iald_oM_11 (pc := 160) C dX10_works_160 ?_
    exact r_iret (pc := 161) C dX10_works_161
  · refine r_aldn (pc := 14) C dX10_works_14 0 rfl ?_
    refine gf_X10_0_0 (pc := 15) C hi_X10_works_X10 wd_X10_works_1 dX10_works_15 ?_
    refine r_ildn (pc := 18) C dX10_works_18 1 rfl ?_
    refine r_iconst (pc := 19) (v := (1 : Int32)) C dX10_works_19 ic_1 ?_
    refine r_iadd (pc := 20) C dX10_works_20 ?_
    refine r_ildn (pc := 21) C dX10_works_21 3 rfl ?_
    refine r_iadd (pc := 22) C dX10_works_22 ?_
    refine iald_oM_1 (pc := 23) C dX10_works_23 ?_
    refine r_nm (fun v7 => ?_)
    refine r_ist (pc := 24) (lv' := [(0, _), (1, _), (2, _), (3, _), (4, _)]) C dX10_works_24 (by decide) [1, 2, 3, 4, 0] rfl ?_
    refine r_ild (pc := 26) C dX10_works_26 4 rfl ?_
    refine r_iconst (pc := 28) (v := (1 : Int32)) C dX10_works_28 ic_1 ?_
    refine r_iceq (pc := 29) (tgt := 38) C dX10_works_29 (by decide) ?_ ?_
    · exact v_X10_works_38 (x := x) C _ hrec4 a1 a2 a3 v7 σ
    · refine r_ild (pc := 32) C dX10_works_32 4 rfl ?_
      refine r_iconst (pc := 34) (v := (2 : Int32)) C dX10_works_34 ic_2 ?_
      refine r_icne (pc := 35) (tgt := 86) C dX10_works_35 (by decide) ?_ ?_
      · refine r_ild (pc := 86) C dX10_works_86 4 rfl ?_
        refine r_iconst (pc := 88) (v := (3 : Int32)) C dX10_works_88 ic_3 ?_
        refine r_icne (pc := 89) (tgt := 119) C dX10_works_89 (by decide) ?_ ?_
        · refine r_iinc (pc := 119) (v := (-1 : Int32)) (lv1 := fun y => [(0, _), (1, _), (2, .int y), (3, _), (4, _)]) C dX10_works_119 ic_m1 2 rfl (by decide) [1, 2, 0, 3, 4] (fun _ => rfl) (fun v8 => ?_)
          refine r_aldn (pc := 122) C dX10_works_122 0 rfl ?_
          refine gf_X10_11_0 (pc := 123) C hi_X10_works_X10 wd_X10_works_2 dX10_works_123 ?_
          refine r_ildn (pc := 126) C dX10_works_126 2 rfl ?_
          refine r_iconst (pc := 127) (v := (1 : Int32)) C dX10_works_127 ic_1 ?_
          refine r_isub (pc := 128) C dX10_works_128 ?_
          refine r_ild (pc := 129) C dX10_works_129 4 rfl ?_
          refine r_aldn (pc := 131) C dX10_works_131 0 rfl ?_
          refine gf_X10_11_0 (pc := 132) C hi_X10_works_X10 wd_X10_works_2 dX10_works_132 ?_
          refine r_ildn (pc := 135) C dX10_works_135 2 rfl ?_
          refine r_iconst (pc := 136) (v := (1 : Int32)) C dX10_works_136 ic_1 ?_
          refine r_isub (pc := 137) C dX10_works_137 ?_
          refine iald_oM_11 (pc := 138) C dX10_works_138 ?_
          refine r_aldn (pc := 139) C dX10_works_139 0 rfl ?_
          refine gf_X10_11_0 (pc := 140) C hi_X10_works_X10 wd_X10_works_2 dX10_works_140 ?_
          refine r_ildn (pc := 143) C dX10_works_143 2 rfl ?_
          refine iald_oM_11 (pc := 144) C dX10_works_144 ?_
          refine kS_X10_twoOf (x := x) (pc := 145) (a0 := v7) (a1 := (rd (σ 11) (v8 - (1 : Int32)))) (a2 := (rd (σ 11) v8)) C gX10_works_X10_twoOf (by omega)  (Nat.le_of_ble_eq_true rfl) dX10_works_145 (fun r10 s9 => ?_)
          refine iast_oM_11 (pc := 148) C dX10_works_148 (fun s11 => ?_)
          refine r_iinc (pc := 149) (v := (1 : Int32)) (lv1 := fun y => [(0, _), (1, _), (2, _), (3, .int y)]) C dX10_works_149 ic_1 3 rfl (by decide) [1, 2, 3, 0] (fun _ => rfl) (fun v12 => ?_)
          refine r_goto (pc := 152) (tgt := 4) C dX10_works_152 (by decide) ?_
          exact hrec4 a1 v8 v12 s11
        · refine r_aldn (pc := 92) C dX10_works_92 0 rfl ?_
          refine gf_X10_11_0 (pc := 93) C hi_X10_works_X10 wd_X10_works_2 dX10_works_93 ?_
          refine r_ildn (pc := 96) C dX10_works_96 2 rfl ?_
          refine r_iconst (pc := 97) (v := (1 : Int32)) C dX10_works_97 ic_1 ?_
          refine r_isub (pc := 98) C dX10_works_98 ?_
          refine r_aldn (pc := 99) C dX10_works_99 0 rfl ?_
          refine gf_X10_11_0 (pc := 100) C hi_X10_works_X10 wd_X10_works_2 dX10_works_100 ?_
          refine r_ildn (pc := 103) C dX10_works_103 2 rfl ?_
          refine r_iconst (pc := 104) (v := (1 : Int32)) C dX10_works_104 ic_1 ?_
          refine r_isub (pc := 105) C dX10_works_105 ?_
          refine iald_oM_11 (pc := 106) C dX10_works_106 ?_
          refine r_ifne (pc := 107) (tgt := 114) C dX10_works_107 (by decide) ?_ ?_
          · refine r_iconst (pc := 114) (v := (0 : Int32)) C dX10_works_114 ic_0 ?_
            refine iast_oM_11 (pc := 115) C dX10_works_115 (fun s13 => ?_)
            refine r_goto (pc := 116) (tgt := 149) C dX10_works_116 (by decide) ?_
            refine r_iinc (pc := 149) (v := (1 : Int32)) (lv1 := fun y => [(0, _), (1, _), (2, _), (3, .int y)]) C dX10_works_149 ic_1 3 rfl (by decide) [1, 2, 3, 0] (fun _ => rfl) (fun v14 => ?_)
            refine r_goto (pc := 152) (tgt := 4) C dX10_works_152 (by decide) ?_
            exact hrec4 a1 a2 v14 s13
          · refine r_iconst (pc := 110) (v := (1 : Int32)) C dX10_works_110 ic_1 ?_
            refine r_goto (pc := 111) (tgt := 115) C dX10_works_111 (by decide) ?_
            refine iast_oM_11 (pc := 115) C dX10_works_115 (fun s15 => ?_)
            refine r_goto (pc := 116) (tgt := 149) C dX10_works_116 (by decide) ?_
            refine r_iinc (pc := 149) (v := (1 : Int32)) (lv1 := fun y => [(0, _), (1, _), (2, _), (3, .int y)]) C dX10_works_149 ic_1 3 rfl (by decide) [1, 2, 3, 0] (fun _ => rfl) (fun v16 => ?_)
            refine r_goto (pc := 152) (tgt := 4) C dX10_works_152 (by decide) ?_
            exact hrec4 a1 a2 v16 s15
      · exact v_X10_works_38 (x := x) C _ hrec4 a1 a2 a3 v7 σ
theorem v_X10_works_4 {κ : oK} {x : oXp} (C : oC κ (oM x) 5 cX10_works RX10 wsX10_works 4 (some .int))  : ∀ (n : Nat) (a1 : Int32) (a2 : Int32) (a3 : Int32) (σ : Sg), oV κ (oM x) 5 (oQi κ (oM x)) σ 4 [(0, .ref (xa x 0)), (1, .int a1), (2, .int a2), (3, .int a3)] [] (f_X10_works_4   n a1 a2 a3 σ) := by
  intro n
  induction n with
  | zero => intros; exact r_none
  | succ n ih => exact v_X10_works_4_b C  _ ih
set_option maxHeartbeats 4000000 in
set_option maxRecDepth 100000 in
theorem m_X10_works (l : Launch) (x : oXp) (hI : oI (oM x)) (a1 : Int32) (σ : Sg) : oMI l yX10_works wsX10_works 4 (oM x) [.ref (xa x 0), .int a1] σ (f_X10_works  a1 σ) := by
  refine oMI_of (nL := 5) (cc := cX10_works) hI (by decide +kernel) rfl (Nat.le_of_ble_eq_true rfl) ?_
  intro κ C
  have C : oC κ (oM x) 5 cX10_works RX10 wsX10_works 4 (some .int) := C
  unfold f_X10_works
  show oV κ (oM x) 5 (oQi κ (oM x)) σ 0 [(0, .ref (xa x 0)), (1, .int a1)] [] _
  refine r_iconst (pc := 0) (v := (0 : Int32)) C dX10_works_0 ic_0 ?_
  refine r_istn (pc := 1) (lv' := [(0, _), (1, _), (2, _)]) C dX10_works_1 (by decide) [1, 2, 0] rfl ?_
  refine r_iconst (pc := 2) (v := (0 : Int32)) C dX10_works_2 ic_0 ?_
  refine r_istn (pc := 3) (lv' := [(0, _), (1, _), (2, _), (3, _)]) C dX10_works_3 (by decide) [1, 2, 3, 0] rfl ?_
  exact v_X10_works_4 (x := x) C fuN a1 (0 : Int32) (0 : Int32) σ
theorem k_X10_works {κ : oK} {nL : Nat} {cc : ByteArray} {own : String} {Ts : List Cond} {n : Nat} {ret : Option FieldType} {α : Type} {Q : α → Sg → State → Prop} {σ : Sg} {pc : Nat} {lv : List (Nat × Value)} {st : List Value} {x : oXp} {idx : Nat} {a1 : Int32} {K : Int32 → Sg → Option (α × Sg)} (C : oC κ (oM x) nL cc own Ts n ret) (hG : GoodIn Ts (wsV own idx RX10 yX10_works wsX10_works)) (hn : 4 + 1 ≤ n) (hst : (st.map fun v => v.category).sum ≤ 8) (hd : decode cc pc = .ok (.invokevirtual idx, 3)) (kk : ∀ (r1 : Int32) (σ1 : Sg), oV κ (oM x) nL Q σ1 (pc + 3) lv (.int r1 :: st) (K r1 σ1)) : oV κ (oM x) nL Q σ pc lv (.int a1 :: .ref (xa x 0) :: st) (bnd (f_X10_works a1 σ) K) := by
  have hI : oI (oM x) := oC_I C
  exact r_cVi (As := [.int a1]) (na := 1) (j := 0) (ci := 10) C (fun l => m_X10_works l x hI a1 σ) hG rfl (by decide +kernel) rfl (by decide) hn (by show 0 < 14; decide) rfl rfl rfl rfl hst hd kk
set_option maxHeartbeats 4000000 in
set_option maxRecDepth 100000 in
theorem v_X10_gives_57 {κ : oK} {x : oXp} (C : oC κ (oM x) 7 cX10_gives RX10 wsX10_gives 5 (some .int))  (a5 : Int32) (t0 : Int32) (σ : Sg) : oV κ (oM x) 7 (oQi κ (oM x)) σ 57 [(0, .ref (xa x 0)), (5, .int a5)] [.int t0] (f_X10_gives_57   a5 t0 σ) := by
  unfold f_X10_gives_57
  refine r_ist (pc := 57) (lv' := [(0, _), (5, _), (6, _)]) C dX10_gives_57 (by decide) [1, 2, 0] rfl ?_
  refine r_aldn (pc := 59) C dX10_gives_59 0 rfl ?_
  refine gf_X10_0_0 (pc := 60) C hi_X10_gives_X10 wd_X10_gives_2 dX10_gives_60 ?_
  refine r_ild (pc := 63) C dX10_gives_63 1 rfl ?_
  refine iald_oM_1 (pc := 65) C dX10_gives_65 ?_
  refine r_ifle (pc := 66) (tgt := 78) C dX10_gives_66 (by decide) ?_ ?_
  · refine r_ild (pc := 78) C dX10_gives_78 2 rfl ?_
    refine r_iconst (pc := 80) (v := (0 : Int32)) C dX10_gives_80 ic_0 ?_
    refine r_sipush (pc := 81) (v := (999 : Int32)) C dX10_gives_81 sp_999 ?_
    refine kS_X10_held (x := x) (pc := 84) (a0 := t0) (a1 := (0 : Int32)) (a2 := (999 : Int32)) C gX10_gives_X10_held (by omega)  (Nat.le_of_ble_eq_true rfl) dX10_gives_84 (fun r2 s1 => ?_)
    exact r_iret (pc := 87) C dX10_gives_87
  · refine r_aldn (pc := 69) C dX10_gives_69 0 rfl ?_
    refine r_ild (pc := 70) C dX10_gives_70 1 rfl ?_
    refine k_X10_works (x := x) (pc := 72) (a1 := a5) C gX10_gives_X10_works (by omega)  (Nat.le_of_ble_eq_true rfl) dX10_gives_72 (fun r4 s3 => ?_)
    refine r_goto (pc := 75) (tgt := 80) C dX10_gives_75 (by decide) ?_
    refine r_iconst (pc := 80) (v := (0 : Int32)) C dX10_gives_80 ic_0 ?_
    refine r_sipush (pc := 81) (v := (999 : Int32)) C dX10_gives_81 sp_999 ?_
    refine kS_X10_held (x := x) (pc := 84) (a0 := r4) (a1 := (0 : Int32)) (a2 := (999 : Int32)) C gX10_gives_X10_held (by omega)  (Nat.le_of_ble_eq_true rfl) dX10_gives_84 (fun r6 s5 => ?_)
    exact r_iret (pc := 87) C dX10_gives_87
set_option maxHeartbeats 4000000 in
set_option maxRecDepth 100000 in
theorem m_X10_gives (l : Launch) (x : oXp) (hI : oI (oM x)) (a1 : Int32) (a2 : Int32) (a3 : Int32) (a4 : Int32) (σ : Sg) : oMI l yX10_gives wsX10_gives 5 (oM x) [.ref (xa x 0), .int a1, .int a2, .int a3, .int a4] σ (f_X10_gives  a1 a2 a3 a4 σ) := by
  refine oMI_of (nL := 7) (cc := cX10_gives) hI (by decide +kernel) rfl (Nat.le_of_ble_eq_true rfl) ?_
  intro κ C
  have C : oC κ (oM x) 7 cX10_gives RX10 wsX10_gives 5 (some .int) := C
  unfold f_X10_gives
  show oV κ (oM x) 7 (oQi κ (oM x)) σ 0 [(0, .ref (xa x 0)), (1, .int a1), (2, .int a2), (3, .int a3), (4, .int a4)] [] _
  refine r_sipush (pc := 0) (v := (166 : Int32)) C dX10_gives_0 sp_166 ?_
  refine r_bipush (pc := 3) (v := (121 : Int32)) C dX10_gives_3 bp_121 ?_
  refine r_ildn (pc := 5) C dX10_gives_5 1 rfl ?_
  refine r_imul (pc := 6) C dX10_gives_6 ?_
  refine r_iadd (pc := 7) C dX10_gives_7 ?_
  refine r_nm (fun v7 => ?_)
  refine r_ist (pc := 8) (lv' := [(0, _), (1, _), (2, _), (3, _), (4, _), (5, _)]) C dX10_gives_8 (by decide) [1, 2, 3, 4, 5, 0] rfl ?_
  refine r_aldn (pc := 10) C dX10_gives_10 0 rfl ?_
  refine gf_X10_10_0 (pc := 11) C hi_X10_gives_X10 wd_X10_gives_1 dX10_gives_11 ?_
  refine r_iconst (pc := 14) (v := (0 : Int32)) C dX10_gives_14 ic_0 ?_
  refine r_ildn (pc := 15) C dX10_gives_15 2 rfl ?_
  refine iast_oM_10 (pc := 16) C dX10_gives_16 (fun s8 => ?_)
  refine r_aldn (pc := 17) C dX10_gives_17 0 rfl ?_
  refine gf_X10_10_0 (pc := 18) C hi_X10_gives_X10 wd_X10_gives_1 dX10_gives_18 ?_
  refine r_iconst (pc := 21) (v := (1 : Int32)) C dX10_gives_21 ic_1 ?_
  refine r_ildn (pc := 22) C dX10_gives_22 3 rfl ?_
  refine iast_oM_10 (pc := 23) C dX10_gives_23 (fun s9 => ?_)
  refine r_aldn (pc := 24) C dX10_gives_24 0 rfl ?_
  refine gf_X10_10_0 (pc := 25) C hi_X10_gives_X10 wd_X10_gives_1 dX10_gives_25 ?_
  refine r_iconst (pc := 28) (v := (2 : Int32)) C dX10_gives_28 ic_2 ?_
  refine r_ild (pc := 29) C dX10_gives_29 4 rfl ?_
  refine iast_oM_10 (pc := 31) C dX10_gives_31 (fun s10 => ?_)
  refine r_ildn (pc := 32) C dX10_gives_32 1 rfl ?_
  refine r_iconst (pc := 33) (v := (1 : Int32)) C dX10_gives_33 ic_1 ?_
  refine r_icne (pc := 34) (tgt := 44) C dX10_gives_34 (by decide) ?_ ?_
  · refine r_ild (pc := 44) C dX10_gives_44 4 rfl ?_
    refine r_iconst (pc := 46) (v := (1 : Int32)) C dX10_gives_46 ic_1 ?_
    refine r_icne (pc := 47) (tgt := 56) C dX10_gives_47 (by decide) ?_ ?_
    · refine r_ildn (pc := 56) C dX10_gives_56 2 rfl ?_
      refine r_sub (lv' := [(0, _), (5, _)]) [0, 5] rfl ?_
      exact v_X10_gives_57 (x := x) C v7 a2 s10
    · refine r_ildn (pc := 50) C dX10_gives_50 2 rfl ?_
      refine r_iconst (pc := 51) (v := (2 : Int32)) C dX10_gives_51 ic_2 ?_
      refine r_idiv (pc := 52) C dX10_gives_52 (by decide) ?_
      refine r_goto (pc := 53) (tgt := 57) C dX10_gives_53 (by decide) ?_
      refine r_sub (lv' := [(0, _), (5, _)]) [0, 5] rfl ?_
      exact v_X10_gives_57 (x := x) C v7 (a2 / (2 : Int32)) s10
  · refine r_bipush (pc := 37) (v := (10 : Int32)) C dX10_gives_37 bp_10 ?_
    refine r_ildn (pc := 39) C dX10_gives_39 2 rfl ?_
    refine r_imul (pc := 40) C dX10_gives_40 ?_
    refine r_goto (pc := 41) (tgt := 57) C dX10_gives_41 (by decide) ?_
    refine r_sub (lv' := [(0, _), (5, _)]) [0, 5] rfl ?_
    exact v_X10_gives_57 (x := x) C v7 ((10 : Int32) * a2) s10
theorem k_X10_gives {κ : oK} {nL : Nat} {cc : ByteArray} {own : String} {Ts : List Cond} {n : Nat} {ret : Option FieldType} {α : Type} {Q : α → Sg → State → Prop} {σ : Sg} {pc : Nat} {lv : List (Nat × Value)} {st : List Value} {x : oXp} {idx : Nat} {a1 : Int32} {a2 : Int32} {a3 : Int32} {a4 : Int32} {K : Int32 → Sg → Option (α × Sg)} (C : oC κ (oM x) nL cc own Ts n ret) (hG : GoodIn Ts (wsV own idx RX10 yX10_gives wsX10_gives)) (hn : 5 + 1 ≤ n) (hst : (st.map fun v => v.category).sum ≤ 8) (hd : decode cc pc = .ok (.invokevirtual idx, 3)) (kk : ∀ (r1 : Int32) (σ1 : Sg), oV κ (oM x) nL Q σ1 (pc + 3) lv (.int r1 :: st) (K r1 σ1)) : oV κ (oM x) nL Q σ pc lv (.int a4 :: .int a3 :: .int a2 :: .int a1 :: .ref (xa x 0) :: st) (bnd (f_X10_gives a1 a2 a3 a4 σ) K) := by
  have hI : oI (oM x) := oC_I C
  exact r_cVi (As := [.int a1, .int a2, .int a3, .int a4]) (na := 4) (j := 0) (ci := 10) C (fun l => m_X10_gives l x hI a1 a2 a3 a4 σ) hG rfl (by decide +kernel) rfl (by decide) hn (by show 0 < 14; decide) rfl rfl rfl rfl hst hd kk
set_option maxHeartbeats 4000000 in
set_option maxRecDepth 100000 in
theorem m_X10_lossOf (l : Launch) (x : oXp) (hI : oI (oM x)) (a1 : Int32) (σ : Sg) : oMI l yX10_lossOf wsX10_lossOf 6 (oM x) [.ref (xa x 0), .int a1] σ (f_X10_lossOf  a1 σ) := by
  refine oMI_of (nL := 2) (cc := cX10_lossOf) hI (by decide +kernel) rfl (Nat.le_of_ble_eq_true rfl) ?_
  intro κ C
  have C : oC κ (oM x) 2 cX10_lossOf RX10 wsX10_lossOf 6 (some .int) := C
  unfold f_X10_lossOf
  show oV κ (oM x) 2 (oQi κ (oM x)) σ 0 [(0, .ref (xa x 0)), (1, .int a1)] [] _
  refine r_aldn (pc := 0) C dX10_lossOf_0 0 rfl ?_
  refine r_iconst (pc := 1) (v := (0 : Int32)) C dX10_lossOf_1 ic_0 ?_
  refine r_aldn (pc := 2) C dX10_lossOf_2 0 rfl ?_
  refine r_ildn (pc := 3) C dX10_lossOf_3 1 rfl ?_
  refine k_X10_backOf (x := x) (pc := 4) (a1 := a1) C gX10_lossOf_X10_backOf (by omega)  (Nat.le_of_ble_eq_true rfl) dX10_lossOf_4 (fun r2 s1 => ?_)
  refine r_aldn (pc := 7) C dX10_lossOf_7 0 rfl ?_
  refine r_ildn (pc := 8) C dX10_lossOf_8 1 rfl ?_
  refine r_iconst (pc := 9) (v := (1 : Int32)) C dX10_lossOf_9 ic_1 ?_
  refine k_X10_it (x := x) (pc := 10) (a1 := a1) (a2 := (1 : Int32)) C gX10_lossOf_X10_it (by omega)  (Nat.le_of_ble_eq_true rfl) dX10_lossOf_10 (fun r4 s3 => ?_)
  refine r_aldn (pc := 13) C dX10_lossOf_13 0 rfl ?_
  refine r_ildn (pc := 14) C dX10_lossOf_14 1 rfl ?_
  refine r_iconst (pc := 15) (v := (5 : Int32)) C dX10_lossOf_15 ic_5 ?_
  refine k_X10_it (x := x) (pc := 16) (a1 := a1) (a2 := (5 : Int32)) C gX10_lossOf_X10_it (by omega)  (Nat.le_of_ble_eq_true rfl) dX10_lossOf_16 (fun r6 s5 => ?_)
  refine k_X10_gives (x := x) (pc := 19) (a1 := (0 : Int32)) (a2 := r2) (a3 := r4) (a4 := r6) C gX10_lossOf_X10_gives (by omega)  (Nat.le_of_ble_eq_true rfl) dX10_lossOf_19 (fun r8 s7 => ?_)
  exact r_iret (pc := 22) C dX10_lossOf_22
theorem k_X10_lossOf {κ : oK} {nL : Nat} {cc : ByteArray} {own : String} {Ts : List Cond} {n : Nat} {ret : Option FieldType} {α : Type} {Q : α → Sg → State → Prop} {σ : Sg} {pc : Nat} {lv : List (Nat × Value)} {st : List Value} {x : oXp} {idx : Nat} {a1 : Int32} {K : Int32 → Sg → Option (α × Sg)} (C : oC κ (oM x) nL cc own Ts n ret) (hG : GoodIn Ts (wsV own idx RX10 yX10_lossOf wsX10_lossOf)) (hn : 6 + 1 ≤ n) (hst : (st.map fun v => v.category).sum ≤ 8) (hd : decode cc pc = .ok (.invokevirtual idx, 3)) (kk : ∀ (r1 : Int32) (σ1 : Sg), oV κ (oM x) nL Q σ1 (pc + 3) lv (.int r1 :: st) (K r1 σ1)) : oV κ (oM x) nL Q σ pc lv (.int a1 :: .ref (xa x 0) :: st) (bnd (f_X10_lossOf a1 σ) K) := by
  have hI : oI (oM x) := oC_I C
  exact r_cVi (As := [.int a1]) (na := 1) (j := 0) (ci := 10) C (fun l => m_X10_lossOf l x hI a1 σ) hG rfl (by decide +kernel) rfl (by decide) hn (by show 0 < 14; decide) rfl rfl rfl rfl hst hd kk
set_option maxHeartbeats 4000000 in
set_option maxRecDepth 100000 in
theorem m_X10_isWiped (l : Launch) (x : oXp) (hI : oI (oM x)) (a1 : Int32) (σ : Sg) : oMV l yX10_isWiped wsX10_isWiped 7 (oM x) [.ref (xa x 0), .int a1] σ (f_X10_isWiped  a1 σ) := by
  refine oMV_of (nL := 2) (cc := cX10_isWiped) hI (by decide +kernel) rfl (Nat.le_of_ble_eq_true rfl) ?_
  intro κ C
  have C : oC κ (oM x) 2 cX10_isWiped RX10 wsX10_isWiped 7 none := C
  unfold f_X10_isWiped
  show oV κ (oM x) 2 (oQv κ (oM x)) σ 0 [(0, .ref (xa x 0)), (1, .int a1)] [] _
  refine r_aldn (pc := 0) C dX10_isWiped_0 0 rfl ?_
  refine gf_X10_0_0 (pc := 1) C hi_X10_isWiped_X10 wd_X10_isWiped_1 dX10_isWiped_1 ?_
  refine r_iconst (pc := 4) (v := (4 : Int32)) C dX10_isWiped_4 ic_4 ?_
  refine r_aldn (pc := 5) C dX10_isWiped_5 0 rfl ?_
  refine gf_X10_0_0 (pc := 6) C hi_X10_isWiped_X10 wd_X10_isWiped_1 dX10_isWiped_6 ?_
  refine r_iconst (pc := 9) (v := (4 : Int32)) C dX10_isWiped_9 ic_4 ?_
  refine iald_oM_1 (pc := 10) C dX10_isWiped_10 ?_
  refine r_aldn (pc := 11) C dX10_isWiped_11 0 rfl ?_
  refine r_ildn (pc := 12) C dX10_isWiped_12 1 rfl ?_
  refine k_X10_lossOf (x := x) (pc := 13) (a1 := a1) C gX10_isWiped_X10_lossOf (by omega)  (Nat.le_of_ble_eq_true rfl) dX10_isWiped_13 (fun r2 s1 => ?_)
  refine r_iadd (pc := 16) C dX10_isWiped_16 ?_
  refine r_iconst (pc := 17) (v := (0 : Int32)) C dX10_isWiped_17 ic_0 ?_
  refine r_ldc (pc := 18) (v := (99999 : Int32)) C dX10_isWiped_18 wd_X10_isWiped_2 ?_
  refine kS_X10_held (x := x) (pc := 20) (a0 := ((rd (σ 1) (4 : Int32)) + r2)) (a1 := (0 : Int32)) (a2 := (99999 : Int32)) C gX10_isWiped_X10_held (by omega)  (Nat.le_of_ble_eq_true rfl) dX10_isWiped_20 (fun r4 s3 => ?_)
  refine iast_oM_1 (pc := 23) C dX10_isWiped_23 (fun s5 => ?_)
  refine r_aldn (pc := 24) C dX10_isWiped_24 0 rfl ?_
  refine r_ildn (pc := 25) C dX10_isWiped_25 1 rfl ?_
  refine r_bipush (pc := 26) (v := (6 : Int32)) C dX10_isWiped_26 bp_6 ?_
  refine r_iconst (pc := 28) (v := (1 : Int32)) C dX10_isWiped_28 ic_1 ?_
  refine k_X10_lets (x := x) (pc := 29) (a1 := a1) (a2 := (6 : Int32)) (a3 := (1 : Int32)) C gX10_isWiped_X10_lets (by omega)  (Nat.le_of_ble_eq_true rfl) dX10_isWiped_29 (fun _ s6 => ?_)
  exact r_vret (pc := 32) C dX10_isWiped_32
theorem k_X10_isWiped {κ : oK} {nL : Nat} {cc : ByteArray} {own : String} {Ts : List Cond} {n : Nat} {ret : Option FieldType} {α : Type} {Q : α → Sg → State → Prop} {σ : Sg} {pc : Nat} {lv : List (Nat × Value)} {st : List Value} {x : oXp} {idx : Nat} {a1 : Int32} {K : Unit → Sg → Option (α × Sg)} (C : oC κ (oM x) nL cc own Ts n ret) (hG : GoodIn Ts (wsV own idx RX10 yX10_isWiped wsX10_isWiped)) (hn : 7 + 1 ≤ n) (hst : (st.map fun v => v.category).sum ≤ 8) (hd : decode cc pc = .ok (.invokevirtual idx, 3)) (kk : ∀ (r1 : Unit) (σ1 : Sg), oV κ (oM x) nL Q σ1 (pc + 3) lv (st) (K r1 σ1)) : oV κ (oM x) nL Q σ pc lv (.int a1 :: .ref (xa x 0) :: st) (bnd (f_X10_isWiped a1 σ) K) := by
  have hI : oI (oM x) := oC_I C
  exact r_cVv (As := [.int a1]) (na := 1) (j := 0) (ci := 10) C (fun l => m_X10_isWiped l x hI a1 σ) hG rfl (by decide +kernel) rfl (by decide) hn (by show 0 < 14; decide) rfl rfl rfl rfl hst hd kk
set_option maxHeartbeats 4000000 in
set_option maxRecDepth 100000 in
theorem v_X10_drawn_38 {κ : oK} {x : oXp} (C : oC κ (oM x) 5 cX10_drawn RX10 wsX10_drawn 8 (some .int))  (a1 : Int32) (σ : Sg) : oV κ (oM x) 5 (oQi κ (oM x)) σ 38 [(0, .ref (xa x 0)), (1, .int a1)] [] (f_X10_drawn_38   a1 σ) := by
  unfold f_X10_drawn_38
  refine r_iconst (pc := 38) (v := (1 : Int32)) C dX10_drawn_38 ic_1 ?_
  refine r_aldn (pc := 39) C dX10_drawn_39 0 rfl ?_
  refine k_X10_draw (x := x) (pc := 40)  C gX10_drawn_X10_draw (by omega)  (Nat.le_of_ble_eq_true rfl) dX10_drawn_40 (fun r2 s1 => ?_)
  refine r_bipush (pc := 43) (v := (12 : Int32)) C dX10_drawn_43 bp_12 ?_
  refine r_irem (pc := 45) C dX10_drawn_45 (by decide) ?_
  refine r_ishl (pc := 46) C dX10_drawn_46 ?_
  refine r_nm (fun v3 => ?_)
  refine r_istn (pc := 47) (lv' := [(0, _), (1, _), (2, _)]) C dX10_drawn_47 (by decide) [1, 2, 0] rfl ?_
  refine r_ildn (pc := 48) C dX10_drawn_48 2 rfl ?_
  refine r_aldn (pc := 49) C dX10_drawn_49 0 rfl ?_
  refine r_iconst (pc := 50) (v := (-1 : Int32)) C dX10_drawn_50 ic_m1 ?_
  refine k_X10_takenBy (x := x) (pc := 51) (a1 := (-1 : Int32)) C gX10_drawn_X10_takenBy (by omega)  (Nat.le_of_ble_eq_true rfl) dX10_drawn_51 (fun r5 s4 => ?_)
  refine r_iand (pc := 54) C dX10_drawn_54 ?_
  refine r_ifne (pc := 55) (tgt := 95) C dX10_drawn_55 (by decide) ?_ ?_
  · refine r_aldn (pc := 95) C dX10_drawn_95 0 rfl ?_
    refine k_X10_goes (x := x) (pc := 96)  C gX10_drawn_X10_goes (by omega)  (Nat.le_of_ble_eq_true rfl) dX10_drawn_96 (fun _ s6 => ?_)
    refine r_ildn (pc := 99) C dX10_drawn_99 1 rfl ?_
    exact r_iret (pc := 100) C dX10_drawn_100
  · refine r_aldn (pc := 58) C dX10_drawn_58 0 rfl ?_
    refine gf_X10_0_0 (pc := 59) C hi_X10_drawn_X10 wd_X10_drawn_1 dX10_drawn_59 ?_
    refine r_iconst (pc := 62) (v := (2 : Int32)) C dX10_drawn_62 ic_2 ?_
    refine iald_oM_1 (pc := 63) C dX10_drawn_63 ?_
    refine r_bipush (pc := 64) (v := (10 : Int32)) C dX10_drawn_64 bp_10 ?_
    refine r_icge (pc := 66) (tgt := 95) C dX10_drawn_66 (by decide) ?_ ?_
    · refine r_aldn (pc := 95) C dX10_drawn_95 0 rfl ?_
      refine k_X10_goes (x := x) (pc := 96)  C gX10_drawn_X10_goes (by omega)  (Nat.le_of_ble_eq_true rfl) dX10_drawn_96 (fun _ s8 => ?_)
      refine r_ildn (pc := 99) C dX10_drawn_99 1 rfl ?_
      exact r_iret (pc := 100) C dX10_drawn_100
    · refine r_aldn (pc := 69) C dX10_drawn_69 0 rfl ?_
      refine k_X10_draw (x := x) (pc := 70)  C gX10_drawn_X10_draw (by omega)  (Nat.le_of_ble_eq_true rfl) dX10_drawn_70 (fun r11 s10 => ?_)
      refine r_bipush (pc := 73) (v := (7 : Int32)) C dX10_drawn_73 bp_7 ?_
      refine r_irem (pc := 75) C dX10_drawn_75 (by decide) ?_
      refine r_nm (fun v12 => ?_)
      refine r_istn (pc := 76) (lv' := [(0, _), (1, _), (2, _), (3, _)]) C dX10_drawn_76 (by decide) [1, 2, 3, 0] rfl ?_
      refine r_aldn (pc := 77) C dX10_drawn_77 0 rfl ?_
      refine r_bipush (pc := 78) (v := (10 : Int32)) C dX10_drawn_78 bp_10 ?_
      refine r_ildn (pc := 80) C dX10_drawn_80 3 rfl ?_
      refine r_imul (pc := 81) C dX10_drawn_81 ?_
      refine r_ildn (pc := 82) C dX10_drawn_82 2 rfl ?_
      refine r_aldn (pc := 83) C dX10_drawn_83 0 rfl ?_
      refine k_X10_draw (x := x) (pc := 84)  C gX10_drawn_X10_draw (by omega)  (Nat.le_of_ble_eq_true rfl) dX10_drawn_84 (fun r14 s13 => ?_)
      refine r_bipush (pc := 87) (v := (6 : Int32)) C dX10_drawn_87 bp_6 ?_
      refine r_irem (pc := 89) C dX10_drawn_89 (by decide) ?_
      refine k_X10_comes (x := x) (pc := 90) (a1 := ((10 : Int32) * v12)) (a2 := v3) (a3 := (irm r14 (6 : Int32))) C gX10_drawn_X10_comes (by omega)  (Nat.le_of_ble_eq_true rfl) dX10_drawn_90 (fun r16 s15 => ?_)
      refine r_ist (pc := 93) (lv' := [(0, _), (1, _)]) C dX10_drawn_93 (by decide) [1, 2] rfl ?_
      refine r_aldn (pc := 95) C dX10_drawn_95 0 rfl ?_
      refine k_X10_goes (x := x) (pc := 96)  C gX10_drawn_X10_goes (by omega)  (Nat.le_of_ble_eq_true rfl) dX10_drawn_96 (fun _ s17 => ?_)
      refine r_ildn (pc := 99) C dX10_drawn_99 1 rfl ?_
      exact r_iret (pc := 100) C dX10_drawn_100
set_option maxHeartbeats 4000000 in
set_option maxRecDepth 100000 in
theorem m_X10_drawn (l : Launch) (x : oXp) (hI : oI (oM x))  (σ : Sg) : oMI l yX10_drawn wsX10_drawn 8 (oM x) [.ref (xa x 0)] σ (f_X10_drawn   σ) := by
  refine oMI_of (nL := 5) (cc := cX10_drawn) hI (by decide +kernel) rfl (Nat.le_of_ble_eq_true rfl) ?_
  intro κ C
  have C : oC κ (oM x) 5 cX10_drawn RX10 wsX10_drawn 8 (some .int) := C
  unfold f_X10_drawn
  show oV κ (oM x) 5 (oQi κ (oM x)) σ 0 [(0, .ref (xa x 0))] [] _
  refine r_iconst (pc := 0) (v := (0 : Int32)) C dX10_drawn_0 ic_0 ?_
  refine r_istn (pc := 1) (lv' := [(0, _), (1, _)]) C dX10_drawn_1 (by decide) [1, 0] rfl ?_
  refine r_aldn (pc := 2) C dX10_drawn_2 0 rfl ?_
  refine gf_X10_0_0 (pc := 3) C hi_X10_drawn_X10 wd_X10_drawn_1 dX10_drawn_3 ?_
  refine r_iconst (pc := 6) (v := (2 : Int32)) C dX10_drawn_6 ic_2 ?_
  refine iald_oM_1 (pc := 7) C dX10_drawn_7 ?_
  refine r_ifle (pc := 8) (tgt := 38) C dX10_drawn_8 (by decide) ?_ ?_
  · exact v_X10_drawn_38 (x := x) C (0 : Int32) σ
  · refine r_aldn (pc := 11) C dX10_drawn_11 0 rfl ?_
    refine k_X10_draw (x := x) (pc := 12)  C gX10_drawn_X10_draw (by omega)  (Nat.le_of_ble_eq_true rfl) dX10_drawn_12 (fun r20 s19 => ?_)
    refine r_aldn (pc := 15) C dX10_drawn_15 0 rfl ?_
    refine gf_X10_0_0 (pc := 16) C hi_X10_drawn_X10 wd_X10_drawn_1 dX10_drawn_16 ?_
    refine r_iconst (pc := 19) (v := (2 : Int32)) C dX10_drawn_19 ic_2 ?_
    refine iald_oM_1 (pc := 20) C dX10_drawn_20 ?_
    refine r_ckb (fun h21 => ?_)
    refine r_irem (pc := 21) C dX10_drawn_21 (nz_ne h21) ?_
    refine r_nm (fun v22 => ?_)
    refine r_istn (pc := 22) (lv' := [(0, _), (1, _), (2, _)]) C dX10_drawn_22 (by decide) [1, 2, 0] rfl ?_
    refine r_aldn (pc := 23) C dX10_drawn_23 0 rfl ?_
    refine r_ildn (pc := 24) C dX10_drawn_24 2 rfl ?_
    refine k_X10_mayGo (x := x) (pc := 25) (a1 := v22) C gX10_drawn_X10_mayGo (by omega)  (Nat.le_of_ble_eq_true rfl) dX10_drawn_25 (fun r24 s23 => ?_)
    refine r_ifeq (pc := 28) (tgt := 38) C dX10_drawn_28 (by decide) ?_ ?_
    · refine r_sub (lv' := [(0, _), (1, _)]) [0, 1] rfl ?_
      exact v_X10_drawn_38 (x := x) C (0 : Int32) s23
    · refine r_aldn (pc := 31) C dX10_drawn_31 0 rfl ?_
      refine r_ildn (pc := 32) C dX10_drawn_32 2 rfl ?_
      refine k_X10_isWiped (x := x) (pc := 33) (a1 := v22) C gX10_drawn_X10_isWiped (by omega)  (Nat.le_of_ble_eq_true rfl) dX10_drawn_33 (fun _ s25 => ?_)
      refine r_iconst (pc := 36) (v := (1 : Int32)) C dX10_drawn_36 ic_1 ?_
      refine r_istn (pc := 37) (lv' := [(0, _), (1, _)]) C dX10_drawn_37 (by decide) [1, 0] rfl ?_
      exact v_X10_drawn_38 (x := x) C (1 : Int32) s25
theorem k_X10_drawn {κ : oK} {nL : Nat} {cc : ByteArray} {own : String} {Ts : List Cond} {n : Nat} {ret : Option FieldType} {α : Type} {Q : α → Sg → State → Prop} {σ : Sg} {pc : Nat} {lv : List (Nat × Value)} {st : List Value} {x : oXp} {idx : Nat}  {K : Int32 → Sg → Option (α × Sg)} (C : oC κ (oM x) nL cc own Ts n ret) (hG : GoodIn Ts (wsV own idx RX10 yX10_drawn wsX10_drawn)) (hn : 8 + 1 ≤ n) (hst : (st.map fun v => v.category).sum ≤ 8) (hd : decode cc pc = .ok (.invokevirtual idx, 3)) (kk : ∀ (r1 : Int32) (σ1 : Sg), oV κ (oM x) nL Q σ1 (pc + 3) lv (.int r1 :: st) (K r1 σ1)) : oV κ (oM x) nL Q σ pc lv (.ref (xa x 0) :: st) (bnd (f_X10_drawn  σ) K) := by
  have hI : oI (oM x) := oC_I C
  exact r_cVi (As := []) (na := 0) (j := 0) (ci := 10) C (fun l => m_X10_drawn l x hI  σ) hG rfl (by decide +kernel) rfl (by decide) hn (by show 0 < 14; decide) rfl rfl rfl rfl hst hd kk
set_option maxHeartbeats 4000000 in
set_option maxRecDepth 100000 in
theorem v_X10_feed_40_b {κ : oK} {x : oXp} (C : oC κ (oM x) 5 cX10_feed RX10 wsX10_feed 4 (some .int))  (rec40 : Int64 → Int32 → Int32 → Sg → Option (Int32 × Sg)) (hrec40 : ∀ (a1 : Int64) (a3 : Int32) (a4 : Int32) (σ : Sg), oV κ (oM x) 5 (oQi κ (oM x)) σ 40 [(0, .ref (xa x 0)), (1, .long a1), (3, .int a3), (4, .int a4)] [] (rec40 a1 a3 a4 σ)) (a1 : Int64) (a3 : Int32) (a4 : Int32) (σ : Sg) : oV κ (oM x) 5 (oQi κ (oM x)) σ 40 [(0, .ref (xa x 0)), (1, .long a1), (3, .int a3), (4, .int a4)] [] (f_X10_feed_40_b   rec40 a1 a3 a4 σ) := by
  unfold f_X10_feed_40_b
  refine r_ild (pc := 40) C dX10_feed_40 3 rfl ?_
  refine r_ildn (pc := 42) C dX10_feed_42 2 rfl ?_
  refine r_icge (pc := 43) (tgt := 88) C dX10_feed_43 (by decide) ?_ ?_
  · refine r_aldn (pc := 88) C dX10_feed_88 0 rfl ?_
    refine gf_X10_0_0 (pc := 89) C hi_X10_feed_X10 wd_X10_feed_2 dX10_feed_89 ?_
    refine r_iconst (pc := 92) (v := (5 : Int32)) C dX10_feed_92 ic_5 ?_
    refine iald_oM_1 (pc := 93) C dX10_feed_93 ?_
    exact r_iret (pc := 94) C dX10_feed_94
  · refine r_aldn (pc := 46) C dX10_feed_46 0 rfl ?_
    refine gf_X10_0_0 (pc := 47) C hi_X10_feed_X10 wd_X10_feed_2 dX10_feed_47 ?_
    refine r_bipush (pc := 50) (v := (82 : Int32)) C dX10_feed_50 bp_82 ?_
    refine r_aldn (pc := 52) C dX10_feed_52 0 rfl ?_
    refine gf_X10_0_0 (pc := 53) C hi_X10_feed_X10 wd_X10_feed_2 dX10_feed_53 ?_
    refine r_iconst (pc := 56) (v := (5 : Int32)) C dX10_feed_56 ic_5 ?_
    refine iald_oM_1 (pc := 57) C dX10_feed_57 ?_
    refine r_iadd (pc := 58) C dX10_feed_58 ?_
    refine r_lldn (pc := 59) C dX10_feed_59 1 rfl ?_
    refine r_bipush (pc := 60) (v := (8 : Int32)) C dX10_feed_60 bp_8 ?_
    refine r_ild (pc := 62) C dX10_feed_62 3 rfl ?_
    refine r_imul (pc := 64) C dX10_feed_64 ?_
    refine r_lshr (pc := 65) C dX10_feed_65 ?_
    refine r_ldc2 (pc := 66) (v := (255 : Int64)) C dX10_feed_66 wd_X10_feed_4 ?_
    refine r_land (pc := 69) C dX10_feed_69 ?_
    refine r_l2i (pc := 70) C dX10_feed_70 ?_
    refine iast_oM_1 (pc := 71) C dX10_feed_71 (fun s1 => ?_)
    refine r_aldn (pc := 72) C dX10_feed_72 0 rfl ?_
    refine gf_X10_0_0 (pc := 73) C hi_X10_feed_X10 wd_X10_feed_2 dX10_feed_73 ?_
    refine r_iconst (pc := 76) (v := (5 : Int32)) C dX10_feed_76 ic_5 ?_
    refine r_dup2 (pc := 77) C dX10_feed_77 rfl rfl ?_
    refine iald_oM_1 (pc := 78) C dX10_feed_78 ?_
    refine r_iconst (pc := 79) (v := (1 : Int32)) C dX10_feed_79 ic_1 ?_
    refine r_iadd (pc := 80) C dX10_feed_80 ?_
    refine iast_oM_1 (pc := 81) C dX10_feed_81 (fun s2 => ?_)
    refine r_iinc (pc := 82) (v := (1 : Int32)) (lv1 := fun y => [(0, _), (1, _), (3, _), (4, .int y)]) C dX10_feed_82 ic_1 3 rfl (by decide) [1, 2, 3, 0] (fun _ => rfl) (fun v3 => ?_)
    refine r_goto (pc := 85) (tgt := 40) C dX10_feed_85 (by decide) ?_
    exact hrec40 a1 a3 v3 s2
theorem v_X10_feed_40 {κ : oK} {x : oXp} (C : oC κ (oM x) 5 cX10_feed RX10 wsX10_feed 4 (some .int))  : ∀ (n : Nat) (a1 : Int64) (a3 : Int32) (a4 : Int32) (σ : Sg), oV κ (oM x) 5 (oQi κ (oM x)) σ 40 [(0, .ref (xa x 0)), (1, .long a1), (3, .int a3), (4, .int a4)] [] (f_X10_feed_40   n a1 a3 a4 σ) := by
  intro n
  induction n with
  | zero => intros; exact r_none
  | succ n ih => exact v_X10_feed_40_b C  _ ih
set_option maxHeartbeats 4000000 in
set_option maxRecDepth 100000 in
theorem m_X10_feed (l : Launch) (x : oXp) (hI : oI (oM x)) (a1 : Int64) (a3 : Int32) (σ : Sg) : oMI l yX10_feed wsX10_feed 4 (oM x) [.ref (xa x 0), .long a1, .int a3] σ (f_X10_feed  a1 a3 σ) := by
  refine oMI_of (nL := 5) (cc := cX10_feed) hI (by decide +kernel) rfl (Nat.le_of_ble_eq_true rfl) ?_
  intro κ C
  have C : oC κ (oM x) 5 cX10_feed RX10 wsX10_feed 4 (some .int) := C
  unfold f_X10_feed
  show oV κ (oM x) 5 (oQi κ (oM x)) σ 0 [(0, .ref (xa x 0)), (1, .long a1), (3, .int a3)] [] _
  refine r_ildn (pc := 0) C dX10_feed_0 2 rfl ?_
  refine r_iconst (pc := 1) (v := (1 : Int32)) C dX10_feed_1 ic_1 ?_
  refine r_bipush (pc := 2) (v := (8 : Int32)) C dX10_feed_2 bp_8 ?_
  refine kS_X10_in (x := x) (pc := 4) (a0 := a3) (a1 := (1 : Int32)) (a2 := (8 : Int32)) C gX10_feed_X10_in (by omega)  (Nat.le_of_ble_eq_true rfl) dX10_feed_4 (fun r5 s4 => ?_)
  refine r_ifne (pc := 7) (tgt := 17) C dX10_feed_7 (by decide) ?_ ?_
  · refine r_aldn (pc := 17) C dX10_feed_17 0 rfl ?_
    refine gf_X10_0_0 (pc := 18) C hi_X10_feed_X10 wd_X10_feed_2 dX10_feed_18 ?_
    refine r_iconst (pc := 21) (v := (5 : Int32)) C dX10_feed_21 ic_5 ?_
    refine iald_oM_1 (pc := 22) C dX10_feed_22 ?_
    refine r_ildn (pc := 23) C dX10_feed_23 2 rfl ?_
    refine r_iadd (pc := 24) C dX10_feed_24 ?_
    refine r_bipush (pc := 25) (v := (60 : Int32)) C dX10_feed_25 bp_60 ?_
    refine r_icle (pc := 27) (tgt := 37) C dX10_feed_27 (by decide) ?_ ?_
    · refine r_iconst (pc := 37) (v := (0 : Int32)) C dX10_feed_37 ic_0 ?_
      refine r_ist (pc := 38) (lv' := [(0, _), (1, _), (3, _), (4, _)]) C dX10_feed_38 (by decide) [1, 2, 3, 0] rfl ?_
      exact v_X10_feed_40 (x := x) C fuN a1 a3 (0 : Int32) s4
    · refine r_aldn (pc := 30) C dX10_feed_30 0 rfl ?_
      refine r_ldc (pc := 31) (v := (-1000000004 : Int32)) C dX10_feed_31 wd_X10_feed_3 ?_
      refine k_X10_error (x := x) (pc := 33) (a1 := (-1000000004 : Int32)) C gX10_feed_X10_error (by omega)  (Nat.le_of_ble_eq_true rfl) dX10_feed_33 (fun r7 s6 => ?_)
      exact r_iret (pc := 36) C dX10_feed_36
  · refine r_aldn (pc := 10) C dX10_feed_10 0 rfl ?_
    refine r_ldc (pc := 11) (v := (-1000000001 : Int32)) C dX10_feed_11 wd_X10_feed_1 ?_
    refine k_X10_error (x := x) (pc := 13) (a1 := (-1000000001 : Int32)) C gX10_feed_X10_error (by omega)  (Nat.le_of_ble_eq_true rfl) dX10_feed_13 (fun r9 s8 => ?_)
    exact r_iret (pc := 16) C dX10_feed_16
set_option maxHeartbeats 4000000 in
set_option maxRecDepth 100000 in
theorem v_X10_isSo_11_b {κ : oK} {x : oXp} (C : oC κ (oM x) 5 cX10_isSo RX10 wsX10_isSo 5 (some .boolean))  (rec11 : Int32 → Int32 → Int32 → Int32 → Sg → Option (Int32 × Sg)) (hrec11 : ∀ (a1 : Int32) (a2 : Int32) (a3 : Int32) (a4 : Int32) (σ : Sg), oV κ (oM x) 5 (oQi κ (oM x)) σ 11 [(0, .ref (xa x 0)), (1, .int a1), (2, .int a2), (3, .int a3), (4, .int a4)] [] (rec11 a1 a2 a3 a4 σ)) (a1 : Int32) (a2 : Int32) (a3 : Int32) (a4 : Int32) (σ : Sg) : oV κ (oM x) 5 (oQi κ (oM x)) σ 11 [(0, .ref (xa x 0)), (1, .int a1), (2, .int a2), (3, .int a3), (4, .int a4)] [] (f_X10_isSo_11_b   rec11 a1 a2 a3 a4 σ) := by
  unfold f_X10_isSo_11_b
  refine r_ild (pc := 11) C dX10_isSo_11 4 rfl ?_
  refine r_aldn (pc := 13) C dX10_isSo_13 0 rfl ?_
  refine gf_X10_6_0 (pc := 14) C hi_X10_isSo_X10 wd_X10_isSo_1 dX10_isSo_14 ?_
  refine r_ildn (pc := 17) C dX10_isSo_17 1 rfl ?_
  refine iald_oM_6 (pc := 18) C dX10_isSo_18 ?_
  refine r_icge (pc := 19) (tgt := 59) C dX10_isSo_19 (by decide) ?_ ?_
  · refine r_ildn (pc := 59) C dX10_isSo_59 3 rfl ?_
    refine r_ckb (fun h1 => ?_)
    exact r_zret (pc := 60) C (isb_nar h1).1 dX10_isSo_60
  · refine r_ildn (pc := 22) C dX10_isSo_22 3 rfl ?_
    refine r_ifeq (pc := 23) (tgt := 59) C dX10_isSo_23 (by decide) ?_ ?_
    · refine r_ildn (pc := 59) C dX10_isSo_59 3 rfl ?_
      refine r_ckb (fun h2 => ?_)
      exact r_zret (pc := 60) C (isb_nar h2).1 dX10_isSo_60
    · refine r_aldn (pc := 26) C dX10_isSo_26 0 rfl ?_
      refine gf_X10_7_0 (pc := 27) C hi_X10_isSo_X10 wd_X10_isSo_2 dX10_isSo_27 ?_
      refine r_bipush (pc := 30) (v := (24 : Int32)) C dX10_isSo_30 bp_24 ?_
      refine r_ildn (pc := 32) C dX10_isSo_32 1 rfl ?_
      refine r_imul (pc := 33) C dX10_isSo_33 ?_
      refine r_ild (pc := 34) C dX10_isSo_34 4 rfl ?_
      refine r_iadd (pc := 36) C dX10_isSo_36 ?_
      refine iald_oM_7 (pc := 37) C dX10_isSo_37 ?_
      refine r_ildn (pc := 38) C dX10_isSo_38 2 rfl ?_
      refine r_ild (pc := 39) C dX10_isSo_39 4 rfl ?_
      refine r_ishr (pc := 41) C dX10_isSo_41 ?_
      refine r_iconst (pc := 42) (v := (1 : Int32)) C dX10_isSo_42 ic_1 ?_
      refine r_iand (pc := 43) C dX10_isSo_43 ?_
      refine r_icne (pc := 44) (tgt := 51) C dX10_isSo_44 (by decide) ?_ ?_
      · refine r_iconst (pc := 51) (v := (0 : Int32)) C dX10_isSo_51 ic_0 ?_
        refine r_istn (pc := 52) (lv' := [(0, _), (1, _), (2, _), (3, _), (4, _)]) C dX10_isSo_52 (by decide) [1, 2, 3, 0, 4] rfl ?_
        refine r_iinc (pc := 53) (v := (1 : Int32)) (lv1 := fun y => [(0, _), (1, _), (2, _), (3, _), (4, .int y)]) C dX10_isSo_53 ic_1 4 rfl (by decide) [1, 2, 3, 4, 0] (fun _ => rfl) (fun v3 => ?_)
        refine r_goto (pc := 56) (tgt := 11) C dX10_isSo_56 (by decide) ?_
        exact hrec11 a1 a2 (0 : Int32) v3 σ
      · refine r_iconst (pc := 47) (v := (1 : Int32)) C dX10_isSo_47 ic_1 ?_
        refine r_goto (pc := 48) (tgt := 52) C dX10_isSo_48 (by decide) ?_
        refine r_istn (pc := 52) (lv' := [(0, _), (1, _), (2, _), (3, _), (4, _)]) C dX10_isSo_52 (by decide) [1, 2, 3, 0, 4] rfl ?_
        refine r_iinc (pc := 53) (v := (1 : Int32)) (lv1 := fun y => [(0, _), (1, _), (2, _), (3, _), (4, .int y)]) C dX10_isSo_53 ic_1 4 rfl (by decide) [1, 2, 3, 4, 0] (fun _ => rfl) (fun v4 => ?_)
        refine r_goto (pc := 56) (tgt := 11) C dX10_isSo_56 (by decide) ?_
        exact hrec11 a1 a2 (1 : Int32) v4 σ
theorem v_X10_isSo_11 {κ : oK} {x : oXp} (C : oC κ (oM x) 5 cX10_isSo RX10 wsX10_isSo 5 (some .boolean))  : ∀ (n : Nat) (a1 : Int32) (a2 : Int32) (a3 : Int32) (a4 : Int32) (σ : Sg), oV κ (oM x) 5 (oQi κ (oM x)) σ 11 [(0, .ref (xa x 0)), (1, .int a1), (2, .int a2), (3, .int a3), (4, .int a4)] [] (f_X10_isSo_11   n a1 a2 a3 a4 σ) := by
  intro n
  induction n with
  | zero => intros; exact r_none
  | succ n ih => exact v_X10_isSo_11_b C  _ ih
set_option maxHeartbeats 4000000 in
set_option maxRecDepth 100000 in
theorem m_X10_isSo (l : Launch) (x : oXp) (hI : oI (oM x)) (a1 : Int32) (σ : Sg) : oMI l yX10_isSo wsX10_isSo 5 (oM x) [.ref (xa x 0), .int a1] σ (f_X10_isSo  a1 σ) := by
  refine oMI_of (nL := 5) (cc := cX10_isSo) hI (by decide +kernel) rfl (Nat.le_of_ble_eq_true rfl) ?_
  intro κ C
  have C : oC κ (oM x) 5 cX10_isSo RX10 wsX10_isSo 5 (some .boolean) := C
  unfold f_X10_isSo
  show oV κ (oM x) 5 (oQi κ (oM x)) σ 0 [(0, .ref (xa x 0)), (1, .int a1)] [] _
  refine r_aldn (pc := 0) C dX10_isSo_0 0 rfl ?_
  refine r_iconst (pc := 1) (v := (-1 : Int32)) C dX10_isSo_1 ic_m1 ?_
  refine k_X10_takenBy (x := x) (pc := 2) (a1 := (-1 : Int32)) C gX10_isSo_X10_takenBy (by omega)  (Nat.le_of_ble_eq_true rfl) dX10_isSo_2 (fun r6 s5 => ?_)
  refine r_istn (pc := 5) (lv' := [(0, _), (1, _), (2, _)]) C dX10_isSo_5 (by decide) [1, 2, 0] rfl ?_
  refine r_iconst (pc := 6) (v := (1 : Int32)) C dX10_isSo_6 ic_1 ?_
  refine r_istn (pc := 7) (lv' := [(0, _), (1, _), (2, _), (3, _)]) C dX10_isSo_7 (by decide) [1, 2, 3, 0] rfl ?_
  refine r_iconst (pc := 8) (v := (0 : Int32)) C dX10_isSo_8 ic_0 ?_
  refine r_ist (pc := 9) (lv' := [(0, _), (1, _), (2, _), (3, _), (4, _)]) C dX10_isSo_9 (by decide) [1, 2, 3, 4, 0] rfl ?_
  exact v_X10_isSo_11 (x := x) C fuN a1 r6 (1 : Int32) (0 : Int32) s5
theorem k_X10_isSo {κ : oK} {nL : Nat} {cc : ByteArray} {own : String} {Ts : List Cond} {n : Nat} {ret : Option FieldType} {α : Type} {Q : α → Sg → State → Prop} {σ : Sg} {pc : Nat} {lv : List (Nat × Value)} {st : List Value} {x : oXp} {idx : Nat} {a1 : Int32} {K : Int32 → Sg → Option (α × Sg)} (C : oC κ (oM x) nL cc own Ts n ret) (hG : GoodIn Ts (wsV own idx RX10 yX10_isSo wsX10_isSo)) (hn : 5 + 1 ≤ n) (hst : (st.map fun v => v.category).sum ≤ 8) (hd : decode cc pc = .ok (.invokevirtual idx, 3)) (kk : ∀ (r1 : Int32) (σ1 : Sg), oV κ (oM x) nL Q σ1 (pc + 3) lv (.int r1 :: st) (K r1 σ1)) : oV κ (oM x) nL Q σ pc lv (.int a1 :: .ref (xa x 0) :: st) (bnd (f_X10_isSo a1 σ) K) := by
  have hI : oI (oM x) := oC_I C
  exact r_cVi (As := [.int a1]) (na := 1) (j := 0) (ci := 10) C (fun l => m_X10_isSo l x hI a1 σ) hG rfl (by decide +kernel) rfl (by decide) hn (by show 0 < 14; decide) rfl rfl rfl rfl hst hd kk
set_option maxHeartbeats 4000000 in
set_option maxRecDepth 100000 in
theorem v_X10_fits_64 {κ : oK} {x : oXp} (C : oC κ (oM x) 4 cX10_fits RX10 wsX10_fits 6 (some .int))  (a3 : Int32) (σ : Sg) : oV κ (oM x) 4 (oQi κ (oM x)) σ 64 [(0, .ref (xa x 0)), (3, .int a3)] [] (f_X10_fits_64   a3 σ) := by
  unfold f_X10_fits_64
  refine r_aldn (pc := 64) C dX10_fits_64 0 rfl ?_
  refine k_X10_putsBack (x := x) (pc := 65)  C gX10_fits_X10_putsBack (by omega)  (Nat.le_of_ble_eq_true rfl) dX10_fits_65 (fun _ s1 => ?_)
  refine r_ildn (pc := 68) C dX10_fits_68 1 rfl ?_
  refine r_bipush (pc := 69) (v := (90 : Int32)) C dX10_fits_69 bp_90 ?_
  refine r_icle (pc := 71) (tgt := 83) C dX10_fits_71 (by decide) ?_ ?_
  · refine r_ildn (pc := 83) C dX10_fits_83 1 rfl ?_
    exact r_iret (pc := 84) C dX10_fits_84
  · refine r_aldn (pc := 74) C dX10_fits_74 0 rfl ?_
    refine r_ldc (pc := 75) (v := (-1000000002 : Int32)) C dX10_fits_75 wd_X10_fits_2 ?_
    refine k_X10_error (x := x) (pc := 77) (a1 := (-1000000002 : Int32)) C gX10_fits_X10_error (by omega)  (Nat.le_of_ble_eq_true rfl) dX10_fits_77 (fun r4 s3 => ?_)
    refine r_goto (pc := 80) (tgt := 84) C dX10_fits_80 (by decide) ?_
    exact r_iret (pc := 84) C dX10_fits_84
set_option maxHeartbeats 4000000 in
set_option maxRecDepth 100000 in
theorem v_X10_fits_40_b {κ : oK} {x : oXp} (C : oC κ (oM x) 4 cX10_fits RX10 wsX10_fits 6 (some .int))  (rec40 : Int32 → Int32 → Sg → Option (Int32 × Sg)) (hrec40 : ∀ (a1 : Int32) (a3 : Int32) (σ : Sg), oV κ (oM x) 4 (oQi κ (oM x)) σ 40 [(0, .ref (xa x 0)), (1, .int a1), (3, .int a3)] [] (rec40 a1 a3 σ)) (a1 : Int32) (a3 : Int32) (σ : Sg) : oV κ (oM x) 4 (oQi κ (oM x)) σ 40 [(0, .ref (xa x 0)), (1, .int a1), (3, .int a3)] [] (f_X10_fits_40_b   rec40 a1 a3 σ) := by
  unfold f_X10_fits_40_b
  refine r_ildn (pc := 40) C dX10_fits_40 2 rfl ?_
  refine r_bipush (pc := 41) (v := (90 : Int32)) C dX10_fits_41 bp_90 ?_
  refine r_icgt (pc := 43) (tgt := 64) C dX10_fits_43 (by decide) ?_ ?_
  · refine r_sub (lv' := [(0, _), (3, _)]) [0, 2] rfl ?_
    exact v_X10_fits_64 (x := x) C a3 σ
  · refine r_aldn (pc := 46) C dX10_fits_46 0 rfl ?_
    refine r_ildn (pc := 47) C dX10_fits_47 1 rfl ?_
    refine k_X10_isSo (x := x) (pc := 48) (a1 := a1) C gX10_fits_X10_isSo (by omega)  (Nat.le_of_ble_eq_true rfl) dX10_fits_48 (fun r6 s5 => ?_)
    refine r_ifne (pc := 51) (tgt := 64) C dX10_fits_51 (by decide) ?_ ?_
    · refine r_sub (lv' := [(0, _), (3, _)]) [0, 2] rfl ?_
      exact v_X10_fits_64 (x := x) C a3 s5
    · refine r_aldn (pc := 54) C dX10_fits_54 0 rfl ?_
      refine k_X10_clearsDay (x := x) (pc := 55)  C gX10_fits_X10_clearsDay (by omega)  (Nat.le_of_ble_eq_true rfl) dX10_fits_55 (fun _ s7 => ?_)
      refine r_iinc (pc := 58) (v := (1 : Int32)) (lv1 := fun y => [(0, _), (1, _), (3, .int y)]) C dX10_fits_58 ic_1 2 rfl (by decide) [1, 2, 0] (fun _ => rfl) (fun v9 => ?_)
      refine r_goto (pc := 61) (tgt := 40) C dX10_fits_61 (by decide) ?_
      exact hrec40 a1 v9 s7
theorem v_X10_fits_40 {κ : oK} {x : oXp} (C : oC κ (oM x) 4 cX10_fits RX10 wsX10_fits 6 (some .int))  : ∀ (n : Nat) (a1 : Int32) (a3 : Int32) (σ : Sg), oV κ (oM x) 4 (oQi κ (oM x)) σ 40 [(0, .ref (xa x 0)), (1, .int a1), (3, .int a3)] [] (f_X10_fits_40   n a1 a3 σ) := by
  intro n
  induction n with
  | zero => intros; exact r_none
  | succ n ih => exact v_X10_fits_40_b C  _ ih
set_option maxHeartbeats 4000000 in
set_option maxRecDepth 100000 in
theorem m_X10_fits (l : Launch) (x : oXp) (hI : oI (oM x)) (a1 : Int32) (σ : Sg) : oMI l yX10_fits wsX10_fits 6 (oM x) [.ref (xa x 0), .int a1] σ (f_X10_fits  a1 σ) := by
  refine oMI_of (nL := 4) (cc := cX10_fits) hI (by decide +kernel) rfl (Nat.le_of_ble_eq_true rfl) ?_
  intro κ C
  have C : oC κ (oM x) 4 cX10_fits RX10 wsX10_fits 6 (some .int) := C
  unfold f_X10_fits
  show oV κ (oM x) 4 (oQi κ (oM x)) σ 0 [(0, .ref (xa x 0)), (1, .int a1)] [] _
  refine r_aldn (pc := 0) C dX10_fits_0 0 rfl ?_
  refine r_ildn (pc := 1) C dX10_fits_1 1 rfl ?_
  refine k_X10_notThere (x := x) (pc := 2) (a1 := a1) C gX10_fits_X10_notThere (by omega)  (Nat.le_of_ble_eq_true rfl) dX10_fits_2 (fun r11 s10 => ?_)
  refine r_istn (pc := 5) (lv' := [(0, _), (1, _), (2, _)]) C dX10_fits_5 (by decide) [1, 2, 0] rfl ?_
  refine r_ildn (pc := 6) C dX10_fits_6 2 rfl ?_
  refine r_ifeq (pc := 7) (tgt := 16) C dX10_fits_7 (by decide) ?_ ?_
  · refine r_aldn (pc := 16) C dX10_fits_16 0 rfl ?_
    refine gf_X10_6_0 (pc := 17) C hi_X10_fits_X10 wd_X10_fits_1 dX10_fits_17 ?_
    refine r_ildn (pc := 20) C dX10_fits_20 1 rfl ?_
    refine iald_oM_6 (pc := 21) C dX10_fits_21 ?_
    refine r_bipush (pc := 22) (v := (12 : Int32)) C dX10_fits_22 bp_12 ?_
    refine r_icle (pc := 24) (tgt := 34) C dX10_fits_24 (by decide) ?_ ?_
    · refine r_aldn (pc := 34) C dX10_fits_34 0 rfl ?_
      refine k_X10_thinks (x := x) (pc := 35)  C gX10_fits_X10_thinks (by omega)  (Nat.le_of_ble_eq_true rfl) dX10_fits_35 (fun _ s12 => ?_)
      refine r_iconst (pc := 38) (v := (0 : Int32)) C dX10_fits_38 ic_0 ?_
      refine r_istn (pc := 39) (lv' := [(0, _), (1, _), (3, _)]) C dX10_fits_39 (by decide) [1, 2, 0] rfl ?_
      exact v_X10_fits_40 (x := x) C fuN a1 (0 : Int32) s12
    · refine r_aldn (pc := 27) C dX10_fits_27 0 rfl ?_
      refine r_ldc (pc := 28) (v := (-1000000002 : Int32)) C dX10_fits_28 wd_X10_fits_2 ?_
      refine k_X10_error (x := x) (pc := 30) (a1 := (-1000000002 : Int32)) C gX10_fits_X10_error (by omega)  (Nat.le_of_ble_eq_true rfl) dX10_fits_30 (fun r15 s14 => ?_)
      exact r_iret (pc := 33) C dX10_fits_33
  · refine r_aldn (pc := 10) C dX10_fits_10 0 rfl ?_
    refine r_ildn (pc := 11) C dX10_fits_11 2 rfl ?_
    refine k_X10_error (x := x) (pc := 12) (a1 := r11) C gX10_fits_X10_error (by omega)  (Nat.le_of_ble_eq_true rfl) dX10_fits_12 (fun r17 s16 => ?_)
    exact r_iret (pc := 15) C dX10_fits_15
set_option maxHeartbeats 4000000 in
set_option maxRecDepth 100000 in
theorem v_X10_runOf_36 {κ : oK} {x : oXp} (C : oC κ (oM x) 7 cX10_runOf RX10 wsX10_runOf 3 (some .int)) (rec11 : Int32 → Int32 → Int32 → Int32 → Int32 → Int32 → Sg → Option (Int32 × Sg)) (hrec11 : ∀ (a1 : Int32) (a2 : Int32) (a3 : Int32) (a4 : Int32) (a5 : Int32) (a6 : Int32) (σ : Sg), oV κ (oM x) 7 (oQi κ (oM x)) σ 11 [(1, .int a1), (2, .int a2), (3, .int a3), (4, .int a4), (5, .int a5), (6, .int a6)] [] (rec11 a1 a2 a3 a4 a5 a6 σ)) (a1 : Int32) (a2 : Int32) (a3 : Int32) (a4 : Int32) (a6 : Int32) (t0 : Int32) (σ : Sg) : oV κ (oM x) 7 (oQi κ (oM x)) σ 36 [(1, .int a1), (2, .int a2), (3, .int a3), (4, .int a4), (6, .int a6)] [.int t0] (f_X10_runOf_36  rec11 a1 a2 a3 a4 a6 t0 σ) := by
  unfold f_X10_runOf_36
  refine r_ist (pc := 36) (lv' := [(1, _), (2, _), (3, _), (4, _), (5, _), (6, _)]) C dX10_runOf_36 (by decide) [1, 2, 3, 4, 0, 5] rfl ?_
  refine r_ild (pc := 38) C dX10_runOf_38 4 rfl ?_
  refine r_ildn (pc := 40) C dX10_runOf_40 2 rfl ?_
  refine r_icle (pc := 41) (tgt := 54) C dX10_runOf_41 (by decide) ?_ ?_
  · refine r_ild (pc := 54) C dX10_runOf_54 3 rfl ?_
    refine r_ist (pc := 56) (lv' := [(1, _), (2, _), (3, _), (4, _), (5, _), (6, _)]) C dX10_runOf_56 (by decide) [1, 2, 3, 0, 4, 5] rfl ?_
    refine r_ild (pc := 58) C dX10_runOf_58 4 rfl ?_
    refine r_ildn (pc := 60) C dX10_runOf_60 2 rfl ?_
    refine r_icle (pc := 61) (tgt := 69) C dX10_runOf_61 (by decide) ?_ ?_
    · refine r_ildn (pc := 69) C dX10_runOf_69 2 rfl ?_
      refine r_istn (pc := 70) (lv' := [(1, _), (2, _), (3, _), (4, _), (5, _), (6, _)]) C dX10_runOf_70 (by decide) [1, 2, 0, 3, 4, 5] rfl ?_
      refine r_iinc (pc := 71) (v := (1 : Int32)) (lv1 := fun y => [(1, _), (2, _), (3, _), (4, _), (5, _), (6, .int y)]) C dX10_runOf_71 ic_1 5 rfl (by decide) [1, 2, 3, 4, 5, 0] (fun _ => rfl) (fun v1 => ?_)
      refine r_goto (pc := 74) (tgt := 11) C dX10_runOf_74 (by decide) ?_
      exact hrec11 a1 a2 a3 a4 t0 v1 σ
    · refine r_ild (pc := 64) C dX10_runOf_64 4 rfl ?_
      refine r_goto (pc := 66) (tgt := 70) C dX10_runOf_66 (by decide) ?_
      refine r_istn (pc := 70) (lv' := [(1, _), (2, _), (3, _), (4, _), (5, _), (6, _)]) C dX10_runOf_70 (by decide) [1, 2, 0, 3, 4, 5] rfl ?_
      refine r_iinc (pc := 71) (v := (1 : Int32)) (lv1 := fun y => [(1, _), (2, _), (3, _), (4, _), (5, _), (6, .int y)]) C dX10_runOf_71 ic_1 5 rfl (by decide) [1, 2, 3, 4, 5, 0] (fun _ => rfl) (fun v2 => ?_)
      refine r_goto (pc := 74) (tgt := 11) C dX10_runOf_74 (by decide) ?_
      exact hrec11 a1 a2 t0 a4 t0 v2 σ
  · refine r_ild (pc := 44) C dX10_runOf_44 5 rfl ?_
    refine r_iconst (pc := 46) (v := (1 : Int32)) C dX10_runOf_46 ic_1 ?_
    refine r_iadd (pc := 47) C dX10_runOf_47 ?_
    refine r_ild (pc := 48) C dX10_runOf_48 4 rfl ?_
    refine r_isub (pc := 50) C dX10_runOf_50 ?_
    refine r_goto (pc := 51) (tgt := 56) C dX10_runOf_51 (by decide) ?_
    refine r_nm (fun v3 => ?_)
    refine r_ist (pc := 56) (lv' := [(1, _), (2, _), (3, _), (4, _), (5, _), (6, _)]) C dX10_runOf_56 (by decide) [1, 2, 3, 0, 4, 5] rfl ?_
    refine r_ild (pc := 58) C dX10_runOf_58 4 rfl ?_
    refine r_ildn (pc := 60) C dX10_runOf_60 2 rfl ?_
    refine r_icle (pc := 61) (tgt := 69) C dX10_runOf_61 (by decide) ?_ ?_
    · refine r_ildn (pc := 69) C dX10_runOf_69 2 rfl ?_
      refine r_istn (pc := 70) (lv' := [(1, _), (2, _), (3, _), (4, _), (5, _), (6, _)]) C dX10_runOf_70 (by decide) [1, 2, 0, 3, 4, 5] rfl ?_
      refine r_iinc (pc := 71) (v := (1 : Int32)) (lv1 := fun y => [(1, _), (2, _), (3, _), (4, _), (5, _), (6, .int y)]) C dX10_runOf_71 ic_1 5 rfl (by decide) [1, 2, 3, 4, 5, 0] (fun _ => rfl) (fun v4 => ?_)
      refine r_goto (pc := 74) (tgt := 11) C dX10_runOf_74 (by decide) ?_
      exact hrec11 a1 a2 a3 v3 t0 v4 σ
    · refine r_ild (pc := 64) C dX10_runOf_64 4 rfl ?_
      refine r_goto (pc := 66) (tgt := 70) C dX10_runOf_66 (by decide) ?_
      refine r_istn (pc := 70) (lv' := [(1, _), (2, _), (3, _), (4, _), (5, _), (6, _)]) C dX10_runOf_70 (by decide) [1, 2, 0, 3, 4, 5] rfl ?_
      refine r_iinc (pc := 71) (v := (1 : Int32)) (lv1 := fun y => [(1, _), (2, _), (3, _), (4, _), (5, _), (6, .int y)]) C dX10_runOf_71 ic_1 5 rfl (by decide) [1, 2, 3, 4, 5, 0] (fun _ => rfl) (fun v5 => ?_)
      refine r_goto (pc := 74) (tgt := 11) C dX10_runOf_74 (by decide) ?_
      exact hrec11 a1 a2 t0 v3 t0 v5 σ
set_option maxHeartbeats 4000000 in
set_option maxRecDepth 100000 in
theorem v_X10_runOf_11_b {κ : oK} {x : oXp} (C : oC κ (oM x) 7 cX10_runOf RX10 wsX10_runOf 3 (some .int))  (rec11 : Int32 → Int32 → Int32 → Int32 → Int32 → Int32 → Sg → Option (Int32 × Sg)) (hrec11 : ∀ (a1 : Int32) (a2 : Int32) (a3 : Int32) (a4 : Int32) (a5 : Int32) (a6 : Int32) (σ : Sg), oV κ (oM x) 7 (oQi κ (oM x)) σ 11 [(1, .int a1), (2, .int a2), (3, .int a3), (4, .int a4), (5, .int a5), (6, .int a6)] [] (rec11 a1 a2 a3 a4 a5 a6 σ)) (a1 : Int32) (a2 : Int32) (a3 : Int32) (a4 : Int32) (a5 : Int32) (a6 : Int32) (σ : Sg) : oV κ (oM x) 7 (oQi κ (oM x)) σ 11 [(1, .int a1), (2, .int a2), (3, .int a3), (4, .int a4), (5, .int a5), (6, .int a6)] [] (f_X10_runOf_11_b   rec11 a1 a2 a3 a4 a5 a6 σ) := by
  unfold f_X10_runOf_11_b
  refine r_ild (pc := 11) C dX10_runOf_11 5 rfl ?_
  refine r_bipush (pc := 13) (v := (12 : Int32)) C dX10_runOf_13 bp_12 ?_
  refine r_icge (pc := 15) (tgt := 77) C dX10_runOf_15 (by decide) ?_ ?_
  · refine r_ildn (pc := 77) C dX10_runOf_77 1 rfl ?_
    refine r_iconst (pc := 78) (v := (2 : Int32)) C dX10_runOf_78 ic_2 ?_
    refine r_icne (pc := 79) (tgt := 86) C dX10_runOf_79 (by decide) ?_ ?_
    · refine r_ild (pc := 86) C dX10_runOf_86 3 rfl ?_
      exact r_iret (pc := 88) C dX10_runOf_88
    · refine r_ildn (pc := 82) C dX10_runOf_82 2 rfl ?_
      refine r_goto (pc := 83) (tgt := 88) C dX10_runOf_83 (by decide) ?_
      exact r_iret (pc := 88) C dX10_runOf_88
  · refine r_ildn (pc := 18) C dX10_runOf_18 0 rfl ?_
    refine r_ild (pc := 19) C dX10_runOf_19 5 rfl ?_
    refine r_ishr (pc := 21) C dX10_runOf_21 ?_
    refine r_iconst (pc := 22) (v := (1 : Int32)) C dX10_runOf_22 ic_1 ?_
    refine r_iand (pc := 23) C dX10_runOf_23 ?_
    refine r_iconst (pc := 24) (v := (1 : Int32)) C dX10_runOf_24 ic_1 ?_
    refine r_icne (pc := 25) (tgt := 32) C dX10_runOf_25 (by decide) ?_ ?_
    · refine r_ild (pc := 32) C dX10_runOf_32 4 rfl ?_
      refine r_iconst (pc := 34) (v := (1 : Int32)) C dX10_runOf_34 ic_1 ?_
      refine r_iadd (pc := 35) C dX10_runOf_35 ?_
      refine r_sub (lv' := [(1, _), (2, _), (3, _), (4, _), (6, _)]) [0, 1, 2, 3, 5] rfl ?_
      exact v_X10_runOf_36 (x := x) C _ hrec11 a1 a2 a3 a4 a6 (a5 + (1 : Int32)) σ
    · refine r_iconst (pc := 28) (v := (0 : Int32)) C dX10_runOf_28 ic_0 ?_
      refine r_goto (pc := 29) (tgt := 36) C dX10_runOf_29 (by decide) ?_
      refine r_sub (lv' := [(1, _), (2, _), (3, _), (4, _), (6, _)]) [0, 1, 2, 3, 5] rfl ?_
      exact v_X10_runOf_36 (x := x) C _ hrec11 a1 a2 a3 a4 a6 (0 : Int32) σ
theorem v_X10_runOf_11 {κ : oK} {x : oXp} (C : oC κ (oM x) 7 cX10_runOf RX10 wsX10_runOf 3 (some .int))  : ∀ (n : Nat) (a1 : Int32) (a2 : Int32) (a3 : Int32) (a4 : Int32) (a5 : Int32) (a6 : Int32) (σ : Sg), oV κ (oM x) 7 (oQi κ (oM x)) σ 11 [(1, .int a1), (2, .int a2), (3, .int a3), (4, .int a4), (5, .int a5), (6, .int a6)] [] (f_X10_runOf_11   n a1 a2 a3 a4 a5 a6 σ) := by
  intro n
  induction n with
  | zero => intros; exact r_none
  | succ n ih => exact v_X10_runOf_11_b C  _ ih
set_option maxHeartbeats 4000000 in
set_option maxRecDepth 100000 in
theorem m_X10_runOf (l : Launch) (x : oXp) (hI : oI (oM x)) (a1 : Int32) (a2 : Int32) (σ : Sg) : oMI l yX10_runOf wsX10_runOf 3 (oM x) [.ref (xa x 0), .int a1, .int a2] σ (f_X10_runOf  a1 a2 σ) := by
  refine oMI_of (nL := 7) (cc := cX10_runOf) hI (by decide +kernel) rfl (Nat.le_of_ble_eq_true rfl) ?_
  intro κ C
  have C : oC κ (oM x) 7 cX10_runOf RX10 wsX10_runOf 3 (some .int) := C
  unfold f_X10_runOf
  show oV κ (oM x) 7 (oQi κ (oM x)) σ 0 [(0, .ref (xa x 0)), (1, .int a1), (2, .int a2)] [] _
  refine r_iconst (pc := 0) (v := (0 : Int32)) C dX10_runOf_0 ic_0 ?_
  refine r_istn (pc := 1) (lv' := [(1, _), (2, _), (3, _)]) C dX10_runOf_1 (by decide) [2, 3, 0] rfl ?_
  refine r_iconst (pc := 2) (v := (-1 : Int32)) C dX10_runOf_2 ic_m1 ?_
  refine r_ist (pc := 3) (lv' := [(1, _), (2, _), (3, _), (4, _)]) C dX10_runOf_3 (by decide) [1, 2, 3, 0] rfl ?_
  refine r_iconst (pc := 5) (v := (0 : Int32)) C dX10_runOf_5 ic_0 ?_
  refine r_ist (pc := 6) (lv' := [(1, _), (2, _), (3, _), (4, _), (5, _)]) C dX10_runOf_6 (by decide) [1, 2, 3, 4, 0] rfl ?_
  refine r_iconst (pc := 8) (v := (0 : Int32)) C dX10_runOf_8 ic_0 ?_
  refine r_ist (pc := 9) (lv' := [(1, _), (2, _), (3, _), (4, _), (5, _), (6, _)]) C dX10_runOf_9 (by decide) [1, 2, 3, 4, 5, 0] rfl ?_
  exact v_X10_runOf_11 (x := x) C fuN a1 a2 (0 : Int32) (-1 : Int32) (0 : Int32) (0 : Int32) σ
theorem k_X10_runOf {κ : oK} {nL : Nat} {cc : ByteArray} {own : String} {Ts : List Cond} {n : Nat} {ret : Option FieldType} {α : Type} {Q : α → Sg → State → Prop} {σ : Sg} {pc : Nat} {lv : List (Nat × Value)} {st : List Value} {x : oXp} {idx : Nat} {a1 : Int32} {a2 : Int32} {K : Int32 → Sg → Option (α × Sg)} (C : oC κ (oM x) nL cc own Ts n ret) (hG : GoodIn Ts (wsV own idx RX10 yX10_runOf wsX10_runOf)) (hn : 3 + 1 ≤ n) (hst : (st.map fun v => v.category).sum ≤ 8) (hd : decode cc pc = .ok (.invokevirtual idx, 3)) (kk : ∀ (r1 : Int32) (σ1 : Sg), oV κ (oM x) nL Q σ1 (pc + 3) lv (.int r1 :: st) (K r1 σ1)) : oV κ (oM x) nL Q σ pc lv (.int a2 :: .int a1 :: .ref (xa x 0) :: st) (bnd (f_X10_runOf a1 a2 σ) K) := by
  have hI : oI (oM x) := oC_I C
  exact r_cVi (As := [.int a1, .int a2]) (na := 2) (j := 0) (ci := 10) C (fun l => m_X10_runOf l x hI a1 a2 σ) hG rfl (by decide +kernel) rfl (by decide) hn (by show 0 < 14; decide) rfl rfl rfl rfl hst hd kk
