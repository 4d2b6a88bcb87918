set_option maxHeartbeats 4000000 in
set_option maxRecDepth 100000 in
theorem m_X10_in (l : Launch) (x : oXp) (hI : oI (oM x)) (a0 : Int32) (a1 : Int32) (a2 : Int32) (σ : Sg) : oMI l yX10_in wsX10_in 3 (oM x) [.int a0, .int a1, .int a2] σ (f_X10_in  a0 a1 a2 σ) := by
  refine oMI_of (nL := 3) (cc := cX10_in) hI (by decide +kernel) rfl (Nat.le_of_ble_eq_true rfl) ?_
  intro κ C
  have C : oC κ (oM x) 3 cX10_in RX10 wsX10_in 3 (some .boolean) := C
  unfold f_X10_in
  show oV κ (oM x) 3 (oQi κ (oM x)) σ 0 [(0, .int a0), (1, .int a1), (2, .int a2)] [] _
  refine r_ildn (pc := 0) C dX10_in_0 0 rfl ?_
  refine r_ildn (pc := 1) C dX10_in_1 1 rfl ?_
  refine r_iclt (pc := 2) (tgt := 14) C dX10_in_2 (by decide) ?_ ?_
  · refine r_iconst (pc := 14) (v := (0 : Int32)) C dX10_in_14 ic_0 ?_
    exact r_zret (pc := 15) C (by decide) dX10_in_15
  · refine r_ildn (pc := 5) C dX10_in_5 0 rfl ?_
    refine r_ildn (pc := 6) C dX10_in_6 2 rfl ?_
    refine r_icgt (pc := 7) (tgt := 14) C dX10_in_7 (by decide) ?_ ?_
    · refine r_iconst (pc := 14) (v := (0 : Int32)) C dX10_in_14 ic_0 ?_
      exact r_zret (pc := 15) C (by decide) dX10_in_15
    · refine r_iconst (pc := 10) (v := (1 : Int32)) C dX10_in_10 ic_1 ?_
      refine r_goto (pc := 11) (tgt := 15) C dX10_in_11 (by decide) ?_
      exact r_zret (pc := 15) C (by decide) dX10_in_15
theorem kS_X10_in {κ : oK} {nL : Nat} {cc : ByteArray} {own : String} {Ts : List Cond} {n : Nat} {ret : Option FieldType} {α : Type} {Q : α → Sg → State → Prop} {σ : Sg} {pc : Nat} {lv : List (Nat × Value)} {st : List Value} {x : oXp} {idx : Nat} {a0 : Int32} {a1 : Int32} {a2 : Int32} {K : Int32 → Sg → Option (α × Sg)} (C : oC κ (oM x) nL cc own Ts n ret) (hG : GoodIn Ts (va_wsS own idx yX10_in wsX10_in)) (hn : 3 + 1 ≤ n) (hst : (st.map fun v => v.category).sum ≤ 8) (hd : decode cc pc = .ok (.invokestatic idx, 3)) (kk : ∀ (r1 : Int32) (σ1 : Sg), oV κ (oM x) nL Q σ1 (pc + 3) lv (.int r1 :: st) (K r1 σ1)) : oV κ (oM x) nL Q σ pc lv (.int a2 :: .int a1 :: .int a0 :: st) (bnd (f_X10_in a0 a1 a2 σ) K) := by
  have hI : oI (oM x) := oC_I C
  exact r_cSi (As := [.int a0, .int a1, .int a2]) (na := 3) C (fun l => m_X10_in l x hI a0 a1 a2 σ) hG rfl (by decide +kernel) rfl (by decide) hn hst hd kk
set_option maxHeartbeats 4000000 in
set_option maxRecDepth 100000 in
theorem v_X10_number_62 {κ : oK} {x : oXp} (C : oC κ (oM x) 3 cX10_number RX10 wsX10_number 4 none)  (a1 : Int32) (t0 : Int32) (σ : Sg) : oV κ (oM x) 3 (oQv κ (oM x)) σ 62 [(0, .ref (xa x 0)), (1, .int a1)] [.int t0, .ref (xa x 0)] (f_X10_number_62   a1 t0 σ) := by
  unfold f_X10_number_62
  refine r_ckb (fun h2 => ?_)
  refine pf_X10_15_0 (pc := 62) C hi_X10_number_X10 wd_X10_number_2 (isb_nar h2) dX10_number_62 (fun s1 => ?_)
  refine r_aldn (pc := 65) C dX10_number_65 0 rfl ?_
  refine r_iconst (pc := 66) (v := (1 : Int32)) C dX10_number_66 ic_1 ?_
  refine r_ildn (pc := 67) C dX10_number_67 1 rfl ?_
  refine k_X10_step (x := x) (pc := 68) (a1 := (1 : Int32)) (a2 := a1) C gX10_number_X10_step (by omega)  (Nat.le_of_ble_eq_true rfl) dX10_number_68 (fun _ s3 => ?_)
  exact r_vret (pc := 71) C dX10_number_71
set_option maxHeartbeats 4000000 in
set_option maxRecDepth 100000 in
theorem v_X10_number_4_b {κ : oK} {x : oXp} (C : oC κ (oM x) 3 cX10_number RX10 wsX10_number 4 none)  (rec4 : Int32 → Int32 → Sg → Option (Unit × Sg)) (hrec4 : ∀ (a1 : Int32) (a2 : Int32) (σ : Sg), oV κ (oM x) 3 (oQv κ (oM x)) σ 4 [(0, .ref (xa x 0)), (1, .int a1), (2, .int a2)] [] (rec4 a1 a2 σ)) (a1 : Int32) (a2 : Int32) (σ : Sg) : oV κ (oM x) 3 (oQv κ (oM x)) σ 4 [(0, .ref (xa x 0)), (1, .int a1), (2, .int a2)] [] (f_X10_number_4_b   rec4 a1 a2 σ) := by
  unfold f_X10_number_4_b
  refine r_ildn (pc := 4) C dX10_number_4 2 rfl ?_
  refine r_iconst (pc := 5) (v := (4 : Int32)) C dX10_number_5 ic_4 ?_
  refine r_icge (pc := 6) (tgt := 52) C dX10_number_6 (by decide) ?_ ?_
  · refine r_aldn (pc := 52) C dX10_number_52 0 rfl ?_
    refine r_ildn (pc := 53) C dX10_number_53 2 rfl ?_
    refine r_ifne (pc := 54) (tgt := 61) C dX10_number_54 (by decide) ?_ ?_
    · refine r_iconst (pc := 61) (v := (0 : Int32)) C dX10_number_61 ic_0 ?_
      refine r_sub (lv' := [(0, _), (1, _)]) [0, 1] rfl ?_
      exact v_X10_number_62 (x := x) C a1 (0 : Int32) σ
    · refine r_iconst (pc := 57) (v := (1 : Int32)) C dX10_number_57 ic_1 ?_
      refine r_goto (pc := 58) (tgt := 62) C dX10_number_58 (by decide) ?_
      refine r_sub (lv' := [(0, _), (1, _)]) [0, 1] rfl ?_
      exact v_X10_number_62 (x := x) C a1 (1 : Int32) σ
  · refine r_aldn (pc := 9) C dX10_number_9 0 rfl ?_
    refine k_X10_look (x := x) (pc := 10)  C gX10_number_X10_look (by omega)  (Nat.le_of_ble_eq_true rfl) dX10_number_10 (fun r6 s5 => ?_)
    refine r_bipush (pc := 13) (v := (48 : Int32)) C dX10_number_13 bp_48 ?_
    refine r_bipush (pc := 15) (v := (57 : Int32)) C dX10_number_15 bp_57 ?_
    refine kS_X10_in (x := x) (pc := 17) (a0 := r6) (a1 := (48 : Int32)) (a2 := (57 : Int32)) C gX10_number_X10_in (by omega)  (Nat.le_of_ble_eq_true rfl) dX10_number_17 (fun r8 s7 => ?_)
    refine r_ifeq (pc := 20) (tgt := 52) C dX10_number_20 (by decide) ?_ ?_
    · refine r_aldn (pc := 52) C dX10_number_52 0 rfl ?_
      refine r_ildn (pc := 53) C dX10_number_53 2 rfl ?_
      refine r_ifne (pc := 54) (tgt := 61) C dX10_number_54 (by decide) ?_ ?_
      · refine r_iconst (pc := 61) (v := (0 : Int32)) C dX10_number_61 ic_0 ?_
        refine r_sub (lv' := [(0, _), (1, _)]) [0, 1] rfl ?_
        exact v_X10_number_62 (x := x) C a1 (0 : Int32) s7
      · refine r_iconst (pc := 57) (v := (1 : Int32)) C dX10_number_57 ic_1 ?_
        refine r_goto (pc := 58) (tgt := 62) C dX10_number_58 (by decide) ?_
        refine r_sub (lv' := [(0, _), (1, _)]) [0, 1] rfl ?_
        exact v_X10_number_62 (x := x) C a1 (1 : Int32) s7
    · refine r_bipush (pc := 23) (v := (10 : Int32)) C dX10_number_23 bp_10 ?_
      refine r_ildn (pc := 25) C dX10_number_25 1 rfl ?_
      refine r_imul (pc := 26) C dX10_number_26 ?_
      refine r_aldn (pc := 27) C dX10_number_27 0 rfl ?_
      refine k_X10_look (x := x) (pc := 28)  C gX10_number_X10_look (by omega)  (Nat.le_of_ble_eq_true rfl) dX10_number_28 (fun r10 s9 => ?_)
      refine r_iadd (pc := 31) C dX10_number_31 ?_
      refine r_bipush (pc := 32) (v := (48 : Int32)) C dX10_number_32 bp_48 ?_
      refine r_isub (pc := 34) C dX10_number_34 ?_
      refine r_nm (fun v11 => ?_)
      refine r_istn (pc := 35) (lv' := [(0, _), (1, _), (2, _)]) C dX10_number_35 (by decide) [1, 0, 2] rfl ?_
      refine r_aldn (pc := 36) C dX10_number_36 0 rfl ?_
      refine r_dup (pc := 37) C dX10_number_37 rfl ?_
      refine gf_X10_13_0 (pc := 38) C hi_X10_number_X10 wd_X10_number_1 dX10_number_38 ?_
      refine r_iconst (pc := 41) (v := (1 : Int32)) C dX10_number_41 ic_1 ?_
      refine r_iadd (pc := 42) C dX10_number_42 ?_
      refine pf_X10_13_0 (pc := 43) C hi_X10_number_X10 wd_X10_number_1 dX10_number_43 (fun s12 => ?_)
      refine r_iinc (pc := 46) (v := (1 : Int32)) (lv1 := fun y => [(0, _), (1, _), (2, .int y)]) C dX10_number_46 ic_1 2 rfl (by decide) [1, 2, 0] (fun _ => rfl) (fun v13 => ?_)
      refine r_goto (pc := 49) (tgt := 4) C dX10_number_49 (by decide) ?_
      exact hrec4 v11 v13 s12
theorem v_X10_number_4 {κ : oK} {x : oXp} (C : oC κ (oM x) 3 cX10_number RX10 wsX10_number 4 none)  : ∀ (n : Nat) (a1 : Int32) (a2 : Int32) (σ : Sg), oV κ (oM x) 3 (oQv κ (oM x)) σ 4 [(0, .ref (xa x 0)), (1, .int a1), (2, .int a2)] [] (f_X10_number_4   n a1 a2 σ) := by
  intro n
  induction n with
  | zero => intros; exact r_none
  | succ n ih => exact v_X10_number_4_b C  _ ih
set_option maxHeartbeats 4000000 in
set_option maxRecDepth 100000 in
theorem m_X10_number (l : Launch) (x : oXp) (hI : oI (oM x))  (σ : Sg) : oMV l yX10_number wsX10_number 4 (oM x) [.ref (xa x 0)] σ (f_X10_number   σ) := by
  refine oMV_of (nL := 3) (cc := cX10_number) hI (by decide +kernel) rfl (Nat.le_of_ble_eq_true rfl) ?_
  intro κ C
  have C : oC κ (oM x) 3 cX10_number RX10 wsX10_number 4 none := C
  unfold f_X10_number
  show oV κ (oM x) 3 (oQv κ (oM x)) σ 0 [(0, .ref (xa x 0))] [] _
  refine r_iconst (pc := 0) (v := (0 : Int32)) C dX10_number_0 ic_0 ?_
  refine r_istn (pc := 1) (lv' := [(0, _), (1, _)]) C dX10_number_1 (by decide) [1, 0] rfl ?_
  refine r_iconst (pc := 2) (v := (0 : Int32)) C dX10_number_2 ic_0 ?_
  refine r_istn (pc := 3) (lv' := [(0, _), (1, _), (2, _)]) C dX10_number_3 (by decide) [1, 2, 0] rfl ?_
  exact v_X10_number_4 (x := x) C fuN (0 : Int32) (0 : Int32) σ
theorem k_X10_number {κ : oK} {nL : Nat} {cc : ByteArray} {own : String} {Ts : List Cond} {n : Nat} {ret : Option FieldType} {α : Type} {Q : α → Sg → State → Prop} {σ : Sg} {pc : Nat} {lv : List (Nat × Value)} {st : List Value} {x : oXp} {idx : Nat}  {K : Unit → Sg → Option (α × Sg)} (C : oC κ (oM x) nL cc own Ts n ret) (hG : GoodIn Ts (wsV own idx RX10 yX10_number wsX10_number)) (hn : 4 + 1 ≤ n) (hst : (st.map fun v => v.category).sum ≤ 8) (hd : decode cc pc = .ok (.invokevirtual idx, 3)) (kk : ∀ (r1 : Unit) (σ1 : Sg), oV κ (oM x) nL Q σ1 (pc + 3) lv (st) (K r1 σ1)) : oV κ (oM x) nL Q σ pc lv (.ref (xa x 0) :: st) (bnd (f_X10_number  σ) K) := by
  have hI : oI (oM x) := oC_I C
  exact r_cVv (As := []) (na := 0) (j := 0) (ci := 10) C (fun l => m_X10_number l x hI  σ) hG rfl (by decide +kernel) rfl (by decide) hn (by show 0 < 14; decide) rfl rfl rfl rfl hst hd kk
set_option maxHeartbeats 4000000 in
set_option maxRecDepth 100000 in
theorem v_X10_any_4_b {κ : oK} {x : oXp} (d : Nat) (g_X10_any : Sg → Option (Unit × Sg)) (g_X10_all : Sg → Option (Unit × Sg)) (g_X10_compares : Sg → Option (Unit × Sg)) (g_X10_sum : Sg → Option (Unit × Sg)) (g_X10_times : Sg → Option (Unit × Sg)) (g_X10_one : Sg → Option (Unit × Sg)) (g_X10_opens : Int32 → Sg → Option (Unit × Sg)) (hg_X10_any : ∀ (l : Launch) (σ : Sg), oMV l yX10_any wsX10_any (5 + d) (oM x) [.ref (xa x 0)] σ (g_X10_any  σ)) (hg_X10_all : ∀ (l : Launch) (σ : Sg), oMV l yX10_all wsX10_all (5 + d) (oM x) [.ref (xa x 0)] σ (g_X10_all  σ)) (hg_X10_compares : ∀ (l : Launch) (σ : Sg), oMV l yX10_compares wsX10_compares (5 + d) (oM x) [.ref (xa x 0)] σ (g_X10_compares  σ)) (hg_X10_sum : ∀ (l : Launch) (σ : Sg), oMV l yX10_sum wsX10_sum (5 + d) (oM x) [.ref (xa x 0)] σ (g_X10_sum  σ)) (hg_X10_times : ∀ (l : Launch) (σ : Sg), oMV l yX10_times wsX10_times (5 + d) (oM x) [.ref (xa x 0)] σ (g_X10_times  σ)) (hg_X10_one : ∀ (l : Launch) (σ : Sg), oMV l yX10_one wsX10_one (5 + d) (oM x) [.ref (xa x 0)] σ (g_X10_one  σ)) (hg_X10_opens : ∀ (l : Launch) (a1 : Int32) (σ : Sg), oMV l yX10_opens wsX10_opens (5 + d) (oM x) [.ref (xa x 0), .int a1] σ (g_X10_opens a1 σ)) (C : oC κ (oM x) 1 cX10_any RX10 wsX10_any (5 + (d + 1)) none)  (rec4 : Sg → Option (Unit × Sg)) (hrec4 : ∀  (σ : Sg), oV κ (oM x) 1 (oQv κ (oM x)) σ 4 [(0, .ref (xa x 0))] [] (rec4  σ))  (σ : Sg) : oV κ (oM x) 1 (oQv κ (oM x)) σ 4 [(0, .ref (xa x 0))] [] (f_X10_any_4_b g_X10_any g_X10_all g_X10_compares g_X10_sum g_X10_times g_X10_one g_X10_opens  rec4  σ) := by
  unfold f_X10_any_4_b
  refine r_aldn (pc := 4) C dX10_any_4 0 rfl ?_
  refine gf_X10_15_0 (pc := 5) C hi_X10_any_X10 wd_X10_any_1 dX10_any_5 ?_
  refine r_ifne (pc := 8) (tgt := 44) C dX10_any_8 (by decide) ?_ ?_
  · exact r_vret (pc := 44) C dX10_any_44
  · refine r_aldn (pc := 11) C dX10_any_11 0 rfl ?_
    refine k_X10_look (x := x) (pc := 12)  C gX10_any_X10_look (by omega)  (Nat.le_of_ble_eq_true rfl) dX10_any_12 (fun r2 s1 => ?_)
    refine r_bipush (pc := 15) (v := (124 : Int32)) C dX10_any_15 bp_124 ?_
    refine r_icne (pc := 17) (tgt := 44) C dX10_any_17 (by decide) ?_ ?_
    · exact r_vret (pc := 44) C dX10_any_44
    · refine r_aldn (pc := 20) C dX10_any_20 0 rfl ?_
      refine r_dup (pc := 21) C dX10_any_21 rfl ?_
      refine gf_X10_13_0 (pc := 22) C hi_X10_any_X10 wd_X10_any_2 dX10_any_22 ?_
      refine r_iconst (pc := 25) (v := (1 : Int32)) C dX10_any_25 ic_1 ?_
      refine r_iadd (pc := 26) C dX10_any_26 ?_
      refine pf_X10_13_0 (pc := 27) C hi_X10_any_X10 wd_X10_any_2 dX10_any_27 (fun s3 => ?_)
      refine r_aldn (pc := 30) C dX10_any_30 0 rfl ?_
      refine r_cVv (pc := 31) (As := []) (na := 0) (j := 0) (ci := 10) C (fun l => hg_X10_all l  s3) gX10_any_X10_all rfl (by decide +kernel) rfl (by decide) (by omega) (by show 0 < 14; decide) rfl rfl rfl rfl (Nat.le_of_ble_eq_true rfl) dX10_any_31 (fun _ s4 => ?_)
      refine r_aldn (pc := 34) C dX10_any_34 0 rfl ?_
      refine r_bipush (pc := 35) (v := (124 : Int32)) C dX10_any_35 bp_124 ?_
      refine r_iconst (pc := 37) (v := (0 : Int32)) C dX10_any_37 ic_0 ?_
      refine k_X10_step (x := x) (pc := 38) (a1 := (124 : Int32)) (a2 := (0 : Int32)) C gX10_any_X10_step (by omega)  (Nat.le_of_ble_eq_true rfl) dX10_any_38 (fun _ s6 => ?_)
      refine r_goto (pc := 41) (tgt := 4) C dX10_any_41 (by decide) ?_
      exact hrec4 s6
theorem v_X10_any_4 {κ : oK} {x : oXp} (d : Nat) (g_X10_any : Sg → Option (Unit × Sg)) (g_X10_all : Sg → Option (Unit × Sg)) (g_X10_compares : Sg → Option (Unit × Sg)) (g_X10_sum : Sg → Option (Unit × Sg)) (g_X10_times : Sg → Option (Unit × Sg)) (g_X10_one : Sg → Option (Unit × Sg)) (g_X10_opens : Int32 → Sg → Option (Unit × Sg)) (hg_X10_any : ∀ (l : Launch) (σ : Sg), oMV l yX10_any wsX10_any (5 + d) (oM x) [.ref (xa x 0)] σ (g_X10_any  σ)) (hg_X10_all : ∀ (l : Launch) (σ : Sg), oMV l yX10_all wsX10_all (5 + d) (oM x) [.ref (xa x 0)] σ (g_X10_all  σ)) (hg_X10_compares : ∀ (l : Launch) (σ : Sg), oMV l yX10_compares wsX10_compares (5 + d) (oM x) [.ref (xa x 0)] σ (g_X10_compares  σ)) (hg_X10_sum : ∀ (l : Launch) (σ : Sg), oMV l yX10_sum wsX10_sum (5 + d) (oM x) [.ref (xa x 0)] σ (g_X10_sum  σ)) (hg_X10_times : ∀ (l : Launch) (σ : Sg), oMV l yX10_times wsX10_times (5 + d) (oM x) [.ref (xa x 0)] σ (g_X10_times  σ)) (hg_X10_one : ∀ (l : Launch) (σ : Sg), oMV l yX10_one wsX10_one (5 + d) (oM x) [.ref (xa x 0)] σ (g_X10_one  σ)) (hg_X10_opens : ∀ (l : Launch) (a1 : Int32) (σ : Sg), oMV l yX10_opens wsX10_opens (5 + d) (oM x) [.ref (xa x 0), .int a1] σ (g_X10_opens a1 σ)) (C : oC κ (oM x) 1 cX10_any RX10 wsX10_any (5 + (d + 1)) none)  : ∀ (n : Nat)  (σ : Sg), oV κ (oM x) 1 (oQv κ (oM x)) σ 4 [(0, .ref (xa x 0))] [] (f_X10_any_4 g_X10_any g_X10_all g_X10_compares g_X10_sum g_X10_times g_X10_one g_X10_opens  n  σ) := by
  intro n
  induction n with
  | zero => intros; exact r_none
  | succ n ih => exact v_X10_any_4_b d g_X10_any g_X10_all g_X10_compares g_X10_sum g_X10_times g_X10_one g_X10_opens hg_X10_any hg_X10_all hg_X10_compares hg_X10_sum hg_X10_times hg_X10_one hg_X10_opens C  _ ih
set_option maxHeartbeats 4000000 in
set_option maxRecDepth 100000 in
theorem m_X10_any (l : Launch) (x : oXp) (hI : oI (oM x)) (d : Nat) (g_X10_any : Sg → Option (Unit × Sg)) (g_X10_all : Sg → Option (Unit × Sg)) (g_X10_compares : Sg → Option (Unit × Sg)) (g_X10_sum : Sg → Option (Unit × Sg)) (g_X10_times : Sg → Option (Unit × Sg)) (g_X10_one : Sg → Option (Unit × Sg)) (g_X10_opens : Int32 → Sg → Option (Unit × Sg)) (hg_X10_any : ∀ (l : Launch) (σ : Sg), oMV l yX10_any wsX10_any (5 + d) (oM x) [.ref (xa x 0)] σ (g_X10_any  σ)) (hg_X10_all : ∀ (l : Launch) (σ : Sg), oMV l yX10_all wsX10_all (5 + d) (oM x) [.ref (xa x 0)] σ (g_X10_all  σ)) (hg_X10_compares : ∀ (l : Launch) (σ : Sg), oMV l yX10_compares wsX10_compares (5 + d) (oM x) [.ref (xa x 0)] σ (g_X10_compares  σ)) (hg_X10_sum : ∀ (l : Launch) (σ : Sg), oMV l yX10_sum wsX10_sum (5 + d) (oM x) [.ref (xa x 0)] σ (g_X10_sum  σ)) (hg_X10_times : ∀ (l : Launch) (σ : Sg), oMV l yX10_times wsX10_times (5 + d) (oM x) [.ref (xa x 0)] σ (g_X10_times  σ)) (hg_X10_one : ∀ (l : Launch) (σ : Sg), oMV l yX10_one wsX10_one (5 + d) (oM x) [.ref (xa x 0)] σ (g_X10_one  σ)) (hg_X10_opens : ∀ (l : Launch) (a1 : Int32) (σ : Sg), oMV l yX10_opens wsX10_opens (5 + d) (oM x) [.ref (xa x 0), .int a1] σ (g_X10_opens a1 σ))  (σ : Sg) : oMV l yX10_any wsX10_any (5 + (d + 1)) (oM x) [.ref (xa x 0)] σ (f_X10_any_e g_X10_any g_X10_all g_X10_compares g_X10_sum g_X10_times g_X10_one g_X10_opens  σ) := by
  refine oMV_of (nL := 1) (cc := cX10_any) hI (by decide +kernel) rfl (Nat.le_of_ble_eq_true rfl) ?_
  intro κ C
  have C : oC κ (oM x) 1 cX10_any RX10 wsX10_any (5 + (d + 1)) none := C
  unfold f_X10_any_e
  show oV κ (oM x) 1 (oQv κ (oM x)) σ 0 [(0, .ref (xa x 0))] [] _
  refine r_aldn (pc := 0) C dX10_any_0 0 rfl ?_
  refine r_cVv (pc := 1) (As := []) (na := 0) (j := 0) (ci := 10) C (fun l => hg_X10_all l  σ) gX10_any_X10_all rfl (by decide +kernel) rfl (by decide) (by omega) (by show 0 < 14; decide) rfl rfl rfl rfl (Nat.le_of_ble_eq_true rfl) dX10_any_1 (fun _ s8 => ?_)
  exact v_X10_any_4 (x := x) d g_X10_any g_X10_all g_X10_compares g_X10_sum g_X10_times g_X10_one g_X10_opens hg_X10_any hg_X10_all hg_X10_compares hg_X10_sum hg_X10_times hg_X10_one hg_X10_opens C fuN s8
set_option maxHeartbeats 4000000 in
set_option maxRecDepth 100000 in
theorem v_X10_all_4_b {κ : oK} {x : oXp} (d : Nat) (g_X10_any : Sg → Option (Unit × Sg)) (g_X10_all : Sg → Option (Unit × Sg)) (g_X10_compares : Sg → Option (Unit × Sg)) (g_X10_sum : Sg → Option (Unit × Sg)) (g_X10_times : Sg → Option (Unit × Sg)) (g_X10_one : Sg → Option (Unit × Sg)) (g_X10_opens : Int32 → Sg → Option (Unit × Sg)) (hg_X10_any : ∀ (l : Launch) (σ : Sg), oMV l yX10_any wsX10_any (5 + d) (oM x) [.ref (xa x 0)] σ (g_X10_any  σ)) (hg_X10_all : ∀ (l : Launch) (σ : Sg), oMV l yX10_all wsX10_all (5 + d) (oM x) [.ref (xa x 0)] σ (g_X10_all  σ)) (hg_X10_compares : ∀ (l : Launch) (σ : Sg), oMV l yX10_compares wsX10_compares (5 + d) (oM x) [.ref (xa x 0)] σ (g_X10_compares  σ)) (hg_X10_sum : ∀ (l : Launch) (σ : Sg), oMV l yX10_sum wsX10_sum (5 + d) (oM x) [.ref (xa x 0)] σ (g_X10_sum  σ)) (hg_X10_times : ∀ (l : Launch) (σ : Sg), oMV l yX10_times wsX10_times (5 + d) (oM x) [.ref (xa x 0)] σ (g_X10_times  σ)) (hg_X10_one : ∀ (l : Launch) (σ : Sg), oMV l yX10_one wsX10_one (5 + d) (oM x) [.ref (xa x 0)] σ (g_X10_one  σ)) (hg_X10_opens : ∀ (l : Launch) (a1 : Int32) (σ : Sg), oMV l yX10_opens wsX10_opens (5 + d) (oM x) [.ref (xa x 0), .int a1] σ (g_X10_opens a1 σ)) (C : oC κ (oM x) 1 cX10_all RX10 wsX10_all (5 + (d + 1)) none)  (rec4 : Sg → Option (Unit × Sg)) (hrec4 : ∀  (σ : Sg), oV κ (oM x) 1 (oQv κ (oM x)) σ 4 [(0, .ref (xa x 0))] [] (rec4  σ))  (σ : Sg) : oV κ (oM x) 1 (oQv κ (oM x)) σ 4 [(0, .ref (xa x 0))] [] (f_X10_all_4_b g_X10_any g_X10_all g_X10_compares g_X10_sum g_X10_times g_X10_one g_X10_opens  rec4  σ) := by
  unfold f_X10_all_4_b
  refine r_aldn (pc := 4) C dX10_all_4 0 rfl ?_
  refine gf_X10_15_0 (pc := 5) C hi_X10_all_X10 wd_X10_all_1 dX10_all_5 ?_
  refine r_ifne (pc := 8) (tgt := 44) C dX10_all_8 (by decide) ?_ ?_
  · exact r_vret (pc := 44) C dX10_all_44
  · refine r_aldn (pc := 11) C dX10_all_11 0 rfl ?_
    refine k_X10_look (x := x) (pc := 12)  C gX10_all_X10_look (by omega)  (Nat.le_of_ble_eq_true rfl) dX10_all_12 (fun r2 s1 => ?_)
    refine r_bipush (pc := 15) (v := (38 : Int32)) C dX10_all_15 bp_38 ?_
    refine r_icne (pc := 17) (tgt := 44) C dX10_all_17 (by decide) ?_ ?_
    · exact r_vret (pc := 44) C dX10_all_44
    · refine r_aldn (pc := 20) C dX10_all_20 0 rfl ?_
      refine r_dup (pc := 21) C dX10_all_21 rfl ?_
      refine gf_X10_13_0 (pc := 22) C hi_X10_all_X10 wd_X10_all_2 dX10_all_22 ?_
      refine r_iconst (pc := 25) (v := (1 : Int32)) C dX10_all_25 ic_1 ?_
      refine r_iadd (pc := 26) C dX10_all_26 ?_
      refine pf_X10_13_0 (pc := 27) C hi_X10_all_X10 wd_X10_all_2 dX10_all_27 (fun s3 => ?_)
      refine r_aldn (pc := 30) C dX10_all_30 0 rfl ?_
      refine r_cVv (pc := 31) (As := []) (na := 0) (j := 0) (ci := 10) C (fun l => hg_X10_compares l  s3) gX10_all_X10_compares rfl (by decide +kernel) rfl (by decide) (by omega) (by show 0 < 14; decide) rfl rfl rfl rfl (Nat.le_of_ble_eq_true rfl) dX10_all_31 (fun _ s4 => ?_)
      refine r_aldn (pc := 34) C dX10_all_34 0 rfl ?_
      refine r_bipush (pc := 35) (v := (38 : Int32)) C dX10_all_35 bp_38 ?_
      refine r_iconst (pc := 37) (v := (0 : Int32)) C dX10_all_37 ic_0 ?_
      refine k_X10_step (x := x) (pc := 38) (a1 := (38 : Int32)) (a2 := (0 : Int32)) C gX10_all_X10_step (by omega)  (Nat.le_of_ble_eq_true rfl) dX10_all_38 (fun _ s6 => ?_)
      refine r_goto (pc := 41) (tgt := 4) C dX10_all_41 (by decide) ?_
      exact hrec4 s6
theorem v_X10_all_4 {κ : oK} {x : oXp} (d : Nat) (g_X10_any : Sg → Option (Unit × Sg)) (g_X10_all : Sg → Option (Unit × Sg)) (g_X10_compares : Sg → Option (Unit × Sg)) (g_X10_sum : Sg → Option (Unit × Sg)) (g_X10_times : Sg → Option (Unit × Sg)) (g_X10_one : Sg → Option (Unit × Sg)) (g_X10_opens : Int32 → Sg → Option (Unit × Sg)) (hg_X10_any : ∀ (l : Launch) (σ : Sg), oMV l yX10_any wsX10_any (5 + d) (oM x) [.ref (xa x 0)] σ (g_X10_any  σ)) (hg_X10_all : ∀ (l : Launch) (σ : Sg), oMV l yX10_all wsX10_all (5 + d) (oM x) [.ref (xa x 0)] σ (g_X10_all  σ)) (hg_X10_compares : ∀ (l : Launch) (σ : Sg), oMV l yX10_compares wsX10_compares (5 + d) (oM x) [.ref (xa x 0)] σ (g_X10_compares  σ)) (hg_X10_sum : ∀ (l : Launch) (σ : Sg), oMV l yX10_sum wsX10_sum (5 + d) (oM x) [.ref (xa x 0)] σ (g_X10_sum  σ)) (hg_X10_times : ∀ (l : Launch) (σ : Sg), oMV l yX10_times wsX10_times (5 + d) (oM x) [.ref (xa x 0)] σ (g_X10_times  σ)) (hg_X10_one : ∀ (l : Launch) (σ : Sg), oMV l yX10_one wsX10_one (5 + d) (oM x) [.ref (xa x 0)] σ (g_X10_one  σ)) (hg_X10_opens : ∀ (l : Launch) (a1 : Int32) (σ : Sg), oMV l yX10_opens wsX10_opens (5 + d) (oM x) [.ref (xa x 0), .int a1] σ (g_X10_opens a1 σ)) (C : oC κ (oM x) 1 cX10_all RX10 wsX10_all (5 + (d + 1)) none)  : ∀ (n : Nat)  (σ : Sg), oV κ (oM x) 1 (oQv κ (oM x)) σ 4 [(0, .ref (xa x 0))] [] (f_X10_all_4 g_X10_any g_X10_all g_X10_compares g_X10_sum g_X10_times g_X10_one g_X10_opens  n  σ) := by
  intro n
  induction n with
  | zero => intros; exact r_none
  | succ n ih => exact v_X10_all_4_b d g_X10_any g_X10_all g_X10_compares g_X10_sum g_X10_times g_X10_one g_X10_opens hg_X10_any hg_X10_all hg_X10_compares hg_X10_sum hg_X10_times hg_X10_one hg_X10_opens C  _ ih
set_option maxHeartbeats 4000000 in
set_option maxRecDepth 100000 in
theorem m_X10_all (l : Launch) (x : oXp) (hI : oI (oM x)) (d : Nat) (g_X10_any : Sg → Option (Unit × Sg)) (g_X10_all : Sg → Option (Unit × Sg)) (g_X10_compares : Sg → Option (Unit × Sg)) (g_X10_sum : Sg → Option (Unit × Sg)) (g_X10_times : Sg → Option (Unit × Sg)) (g_X10_one : Sg → Option (Unit × Sg)) (g_X10_opens : Int32 → Sg → Option (Unit × Sg)) (hg_X10_any : ∀ (l : Launch) (σ : Sg), oMV l yX10_any wsX10_any (5 + d) (oM x) [.ref (xa x 0)] σ (g_X10_any  σ)) (hg_X10_all : ∀ (l : Launch) (σ : Sg), oMV l yX10_all wsX10_all (5 + d) (oM x) [.ref (xa x 0)] σ (g_X10_all  σ)) (hg_X10_compares : ∀ (l : Launch) (σ : Sg), oMV l yX10_compares wsX10_compares (5 + d) (oM x) [.ref (xa x 0)] σ (g_X10_compares  σ)) (hg_X10_sum : ∀ (l : Launch) (σ : Sg), oMV l yX10_sum wsX10_sum (5 + d) (oM x) [.ref (xa x 0)] σ (g_X10_sum  σ)) (hg_X10_times : ∀ (l : Launch) (σ : Sg), oMV l yX10_times wsX10_times (5 + d) (oM x) [.ref (xa x 0)] σ (g_X10_times  σ)) (hg_X10_one : ∀ (l : Launch) (σ : Sg), oMV l yX10_one wsX10_one (5 + d) (oM x) [.ref (xa x 0)] σ (g_X10_one  σ)) (hg_X10_opens : ∀ (l : Launch) (a1 : Int32) (σ : Sg), oMV l yX10_opens wsX10_opens (5 + d) (oM x) [.ref (xa x 0), .int a1] σ (g_X10_opens a1 σ))  (σ : Sg) : oMV l yX10_all wsX10_all (5 + (d + 1)) (oM x) [.ref (xa x 0)] σ (f_X10_all_e g_X10_any g_X10_all g_X10_compares g_X10_sum g_X10_times g_X10_one g_X10_opens  σ) := by
  refine oMV_of (nL := 1) (cc := cX10_all) hI (by decide +kernel) rfl (Nat.le_of_ble_eq_true rfl) ?_
  intro κ C
  have C : oC κ (oM x) 1 cX10_all RX10 wsX10_all (5 + (d + 1)) none := C
  unfold f_X10_all_e
  show oV κ (oM x) 1 (oQv κ (oM x)) σ 0 [(0, .ref (xa x 0))] [] _
  refine r_aldn (pc := 0) C dX10_all_0 0 rfl ?_
  refine r_cVv (pc := 1) (As := []) (na := 0) (j := 0) (ci := 10) C (fun l => hg_X10_compares l  σ) gX10_all_X10_compares rfl (by decide +kernel) rfl (by decide) (by omega) (by show 0 < 14; decide) rfl rfl rfl rfl (Nat.le_of_ble_eq_true rfl) dX10_all_1 (fun _ s8 => ?_)
  exact v_X10_all_4 (x := x) d g_X10_any g_X10_all g_X10_compares g_X10_sum g_X10_times g_X10_one g_X10_opens hg_X10_any hg_X10_all hg_X10_compares hg_X10_sum hg_X10_times hg_X10_one hg_X10_opens C fuN s8
set_option maxHeartbeats 4000000 in
set_option maxRecDepth 100000 in
theorem v_X10_compares_34 {κ : oK} {x : oXp} (d : Nat) (g_X10_any : Sg → Option (Unit × Sg)) (g_X10_all : Sg → Option (Unit × Sg)) (g_X10_compares : Sg → Option (Unit × Sg)) (g_X10_sum : Sg → Option (Unit × Sg)) (g_X10_times : Sg → Option (Unit × Sg)) (g_X10_one : Sg → Option (Unit × Sg)) (g_X10_opens : Int32 → Sg → Option (Unit × Sg)) (hg_X10_any : ∀ (l : Launch) (σ : Sg), oMV l yX10_any wsX10_any (5 + d) (oM x) [.ref (xa x 0)] σ (g_X10_any  σ)) (hg_X10_all : ∀ (l : Launch) (σ : Sg), oMV l yX10_all wsX10_all (5 + d) (oM x) [.ref (xa x 0)] σ (g_X10_all  σ)) (hg_X10_compares : ∀ (l : Launch) (σ : Sg), oMV l yX10_compares wsX10_compares (5 + d) (oM x) [.ref (xa x 0)] σ (g_X10_compares  σ)) (hg_X10_sum : ∀ (l : Launch) (σ : Sg), oMV l yX10_sum wsX10_sum (5 + d) (oM x) [.ref (xa x 0)] σ (g_X10_sum  σ)) (hg_X10_times : ∀ (l : Launch) (σ : Sg), oMV l yX10_times wsX10_times (5 + d) (oM x) [.ref (xa x 0)] σ (g_X10_times  σ)) (hg_X10_one : ∀ (l : Launch) (σ : Sg), oMV l yX10_one wsX10_one (5 + d) (oM x) [.ref (xa x 0)] σ (g_X10_one  σ)) (hg_X10_opens : ∀ (l : Launch) (a1 : Int32) (σ : Sg), oMV l yX10_opens wsX10_opens (5 + d) (oM x) [.ref (xa x 0), .int a1] σ (g_X10_opens a1 σ)) (C : oC κ (oM x) 2 cX10_compares RX10 wsX10_compares (5 + (d + 1)) none)  (a1 : Int32) (σ : Sg) : oV κ (oM x) 2 (oQv κ (oM x)) σ 34 [(0, .ref (xa x 0)), (1, .int a1)] [] (f_X10_compares_34 g_X10_any g_X10_all g_X10_compares g_X10_sum g_X10_times g_X10_one g_X10_opens  a1 σ) := by
  unfold f_X10_compares_34
  refine r_aldn (pc := 34) C dX10_compares_34 0 rfl ?_
  refine r_dup (pc := 35) C dX10_compares_35 rfl ?_
  refine gf_X10_13_0 (pc := 36) C hi_X10_compares_X10 wd_X10_compares_2 dX10_compares_36 ?_
  refine r_iconst (pc := 39) (v := (1 : Int32)) C dX10_compares_39 ic_1 ?_
  refine r_iadd (pc := 40) C dX10_compares_40 ?_
  refine pf_X10_13_0 (pc := 41) C hi_X10_compares_X10 wd_X10_compares_2 dX10_compares_41 (fun s1 => ?_)
  refine r_aldn (pc := 44) C dX10_compares_44 0 rfl ?_
  refine r_cVv (pc := 45) (As := []) (na := 0) (j := 0) (ci := 10) C (fun l => hg_X10_sum l  s1) gX10_compares_X10_sum rfl (by decide +kernel) rfl (by decide) (by omega) (by show 0 < 14; decide) rfl rfl rfl rfl (Nat.le_of_ble_eq_true rfl) dX10_compares_45 (fun _ s2 => ?_)
  refine r_aldn (pc := 48) C dX10_compares_48 0 rfl ?_
  refine r_ildn (pc := 49) C dX10_compares_49 1 rfl ?_
  refine r_iconst (pc := 50) (v := (0 : Int32)) C dX10_compares_50 ic_0 ?_
  refine k_X10_step (x := x) (pc := 51) (a1 := a1) (a2 := (0 : Int32)) C gX10_compares_X10_step (by omega)  (Nat.le_of_ble_eq_true rfl) dX10_compares_51 (fun _ s4 => ?_)
  exact r_vret (pc := 54) C dX10_compares_54
set_option maxHeartbeats 4000000 in
set_option maxRecDepth 100000 in
theorem m_X10_compares (l : Launch) (x : oXp) (hI : oI (oM x)) (d : Nat) (g_X10_any : Sg → Option (Unit × Sg)) (g_X10_all : Sg → Option (Unit × Sg)) (g_X10_compares : Sg → Option (Unit × Sg)) (g_X10_sum : Sg → Option (Unit × Sg)) (g_X10_times : Sg → Option (Unit × Sg)) (g_X10_one : Sg → Option (Unit × Sg)) (g_X10_opens : Int32 → Sg → Option (Unit × Sg)) (hg_X10_any : ∀ (l : Launch) (σ : Sg), oMV l yX10_any wsX10_any (5 + d) (oM x) [.ref (xa x 0)] σ (g_X10_any  σ)) (hg_X10_all : ∀ (l : Launch) (σ : Sg), oMV l yX10_all wsX10_all (5 + d) (oM x) [.ref (xa x 0)] σ (g_X10_all  σ)) (hg_X10_compares : ∀ (l : Launch) (σ : Sg), oMV l yX10_compares wsX10_compares (5 + d) (oM x) [.ref (xa x 0)] σ (g_X10_compares  σ)) (hg_X10_sum : ∀ (l : Launch) (σ : Sg), oMV l yX10_sum wsX10_sum (5 + d) (oM x) [.ref (xa x 0)] σ (g_X10_sum  σ)) (hg_X10_times : ∀ (l : Launch) (σ : Sg), oMV l yX10_times wsX10_times (5 + d) (oM x) [.ref (xa x 0)] σ (g_X10_times  σ)) (hg_X10_one : ∀ (l : Launch) (σ : Sg), oMV l yX10_one wsX10_one (5 + d) (oM x) [.ref (xa x 0)] σ (g_X10_one  σ)) (hg_X10_opens : ∀ (l : Launch) (a1 : Int32) (σ : Sg), oMV l yX10_opens wsX10_opens (5 + d) (oM x) [.ref (xa x 0), .int a1] σ (g_X10_opens a1 σ))  (σ : Sg) : oMV l yX10_compares wsX10_compares (5 + (d + 1)) (oM x) [.ref (xa x 0)] σ (f_X10_compares_e g_X10_any g_X10_all g_X10_compares g_X10_sum g_X10_times g_X10_one g_X10_opens  σ) := by
  refine oMV_of (nL := 2) (cc := cX10_compares) hI (by decide +kernel) rfl (Nat.le_of_ble_eq_true rfl) ?_
  intro κ C
  have C : oC κ (oM x) 2 cX10_compares RX10 wsX10_compares (5 + (d + 1)) none := C
  unfold f_X10_compares_e
  show oV κ (oM x) 2 (oQv κ (oM x)) σ 0 [(0, .ref (xa x 0))] [] _
  refine r_aldn (pc := 0) C dX10_compares_0 0 rfl ?_
  refine r_cVv (pc := 1) (As := []) (na := 0) (j := 0) (ci := 10) C (fun l => hg_X10_sum l  σ) gX10_compares_X10_sum rfl (by decide +kernel) rfl (by decide) (by omega) (by show 0 < 14; decide) rfl rfl rfl rfl (Nat.le_of_ble_eq_true rfl) dX10_compares_1 (fun _ s6 => ?_)
  refine r_aldn (pc := 4) C dX10_compares_4 0 rfl ?_
  refine k_X10_look (x := x) (pc := 5)  C gX10_compares_X10_look (by omega)  (Nat.le_of_ble_eq_true rfl) dX10_compares_5 (fun r9 s8 => ?_)
  refine r_istn (pc := 8) (lv' := [(0, _), (1, _)]) C dX10_compares_8 (by decide) [1, 0] rfl ?_
  refine r_aldn (pc := 9) C dX10_compares_9 0 rfl ?_
  refine gf_X10_15_0 (pc := 10) C hi_X10_compares_X10 wd_X10_compares_1 dX10_compares_10 ?_
  refine r_ifne (pc := 13) (tgt := 54) C dX10_compares_13 (by decide) ?_ ?_
  · exact r_vret (pc := 54) C dX10_compares_54
  · refine r_ildn (pc := 16) C dX10_compares_16 1 rfl ?_
    refine r_bipush (pc := 17) (v := (60 : Int32)) C dX10_compares_17 bp_60 ?_
    refine r_iceq (pc := 19) (tgt := 34) C dX10_compares_19 (by decide) ?_ ?_
    · exact v_X10_compares_34 (x := x) d g_X10_any g_X10_all g_X10_compares g_X10_sum g_X10_times g_X10_one g_X10_opens hg_X10_any hg_X10_all hg_X10_compares hg_X10_sum hg_X10_times hg_X10_one hg_X10_opens C r9 s8
    · refine r_ildn (pc := 22) C dX10_compares_22 1 rfl ?_
      refine r_bipush (pc := 23) (v := (61 : Int32)) C dX10_compares_23 bp_61 ?_
      refine r_iceq (pc := 25) (tgt := 34) C dX10_compares_25 (by decide) ?_ ?_
      · exact v_X10_compares_34 (x := x) d g_X10_any g_X10_all g_X10_compares g_X10_sum g_X10_times g_X10_one g_X10_opens hg_X10_any hg_X10_all hg_X10_compares hg_X10_sum hg_X10_times hg_X10_one hg_X10_opens C r9 s8
      · refine r_ildn (pc := 28) C dX10_compares_28 1 rfl ?_
        refine r_bipush (pc := 29) (v := (62 : Int32)) C dX10_compares_29 bp_62 ?_
        refine r_icne (pc := 31) (tgt := 54) C dX10_compares_31 (by decide) ?_ ?_
        · exact r_vret (pc := 54) C dX10_compares_54
        · exact v_X10_compares_34 (x := x) d g_X10_any g_X10_all g_X10_compares g_X10_sum g_X10_times g_X10_one g_X10_opens hg_X10_any hg_X10_all hg_X10_compares hg_X10_sum hg_X10_times hg_X10_one hg_X10_opens C r9 s8
set_option maxHeartbeats 4000000 in
set_option maxRecDepth 100000 in
theorem v_X10_sum_29 {κ : oK} {x : oXp} (d : Nat) (g_X10_any : Sg → Option (Unit × Sg)) (g_X10_all : Sg → Option (Unit × Sg)) (g_X10_compares : Sg → Option (Unit × Sg)) (g_X10_sum : Sg → Option (Unit × Sg)) (g_X10_times : Sg → Option (Unit × Sg)) (g_X10_one : Sg → Option (Unit × Sg)) (g_X10_opens : Int32 → Sg → Option (Unit × Sg)) (hg_X10_any : ∀ (l : Launch) (σ : Sg), oMV l yX10_any wsX10_any (5 + d) (oM x) [.ref (xa x 0)] σ (g_X10_any  σ)) (hg_X10_all : ∀ (l : Launch) (σ : Sg), oMV l yX10_all wsX10_all (5 + d) (oM x) [.ref (xa x 0)] σ (g_X10_all  σ)) (hg_X10_compares : ∀ (l : Launch) (σ : Sg), oMV l yX10_compares wsX10_compares (5 + d) (oM x) [.ref (xa x 0)] σ (g_X10_compares  σ)) (hg_X10_sum : ∀ (l : Launch) (σ : Sg), oMV l yX10_sum wsX10_sum (5 + d) (oM x) [.ref (xa x 0)] σ (g_X10_sum  σ)) (hg_X10_times : ∀ (l : Launch) (σ : Sg), oMV l yX10_times wsX10_times (5 + d) (oM x) [.ref (xa x 0)] σ (g_X10_times  σ)) (hg_X10_one : ∀ (l : Launch) (σ : Sg), oMV l yX10_one wsX10_one (5 + d) (oM x) [.ref (xa x 0)] σ (g_X10_one  σ)) (hg_X10_opens : ∀ (l : Launch) (a1 : Int32) (σ : Sg), oMV l yX10_opens wsX10_opens (5 + d) (oM x) [.ref (xa x 0), .int a1] σ (g_X10_opens a1 σ)) (C : oC κ (oM x) 2 cX10_sum RX10 wsX10_sum (5 + (d + 1)) none) (rec4 : Sg → Option (Unit × Sg)) (hrec4 : ∀  (σ : Sg), oV κ (oM x) 2 (oQv κ (oM x)) σ 4 [(0, .ref (xa x 0))] [] (rec4  σ))  (σ : Sg) : oV κ (oM x) 2 (oQv κ (oM x)) σ 29 [(0, .ref (xa x 0))] [] (f_X10_sum_29 g_X10_any g_X10_all g_X10_compares g_X10_sum g_X10_times g_X10_one g_X10_opens rec4  σ) := by
  unfold f_X10_sum_29
  refine r_aldn (pc := 29) C dX10_sum_29 0 rfl ?_
  refine k_X10_look (x := x) (pc := 30)  C gX10_sum_X10_look (by omega)  (Nat.le_of_ble_eq_true rfl) dX10_sum_30 (fun r2 s1 => ?_)
  refine r_istn (pc := 33) (lv' := [(0, _), (1, _)]) C dX10_sum_33 (by decide) [1, 0] rfl ?_
  refine r_aldn (pc := 34) C dX10_sum_34 0 rfl ?_
  refine r_dup (pc := 35) C dX10_sum_35 rfl ?_
  refine gf_X10_13_0 (pc := 36) C hi_X10_sum_X10 wd_X10_sum_2 dX10_sum_36 ?_
  refine r_iconst (pc := 39) (v := (1 : Int32)) C dX10_sum_39 ic_1 ?_
  refine r_iadd (pc := 40) C dX10_sum_40 ?_
  refine pf_X10_13_0 (pc := 41) C hi_X10_sum_X10 wd_X10_sum_2 dX10_sum_41 (fun s3 => ?_)
  refine r_aldn (pc := 44) C dX10_sum_44 0 rfl ?_
  refine r_cVv (pc := 45) (As := []) (na := 0) (j := 0) (ci := 10) C (fun l => hg_X10_times l  s3) gX10_sum_X10_times rfl (by decide +kernel) rfl (by decide) (by omega) (by show 0 < 14; decide) rfl rfl rfl rfl (Nat.le_of_ble_eq_true rfl) dX10_sum_45 (fun _ s4 => ?_)
  refine r_aldn (pc := 48) C dX10_sum_48 0 rfl ?_
  refine r_ildn (pc := 49) C dX10_sum_49 1 rfl ?_
  refine r_iconst (pc := 50) (v := (0 : Int32)) C dX10_sum_50 ic_0 ?_
  refine k_X10_step (x := x) (pc := 51) (a1 := r2) (a2 := (0 : Int32)) C gX10_sum_X10_step (by omega)  (Nat.le_of_ble_eq_true rfl) dX10_sum_51 (fun _ s6 => ?_)
  refine r_goto (pc := 54) (tgt := 4) C dX10_sum_54 (by decide) ?_
  refine r_sub (lv' := [(0, _)]) [0] rfl ?_
  exact hrec4 s6
set_option maxHeartbeats 4000000 in
set_option maxRecDepth 100000 in
theorem v_X10_sum_4_b {κ : oK} {x : oXp} (d : Nat) (g_X10_any : Sg → Option (Unit × Sg)) (g_X10_all : Sg → Option (Unit × Sg)) (g_X10_compares : Sg → Option (Unit × Sg)) (g_X10_sum : Sg → Option (Unit × Sg)) (g_X10_times : Sg → Option (Unit × Sg)) (g_X10_one : Sg → Option (Unit × Sg)) (g_X10_opens : Int32 → Sg → Option (Unit × Sg)) (hg_X10_any : ∀ (l : Launch) (σ : Sg), oMV l yX10_any wsX10_any (5 + d) (oM x) [.ref (xa x 0)] σ (g_X10_any  σ)) (hg_X10_all : ∀ (l : Launch) (σ : Sg), oMV l yX10_all wsX10_all (5 + d) (oM x) [.ref (xa x 0)] σ (g_X10_all  σ)) (hg_X10_compares : ∀ (l : Launch) (σ : Sg), oMV l yX10_compares wsX10_compares (5 + d) (oM x) [.ref (xa x 0)] σ (g_X10_compares  σ)) (hg_X10_sum : ∀ (l : Launch) (σ : Sg), oMV l yX10_sum wsX10_sum (5 + d) (oM x) [.ref (xa x 0)] σ (g_X10_sum  σ)) (hg_X10_times : ∀ (l : Launch) (σ : Sg), oMV l yX10_times wsX10_times (5 + d) (oM x) [.ref (xa x 0)] σ (g_X10_times  σ)) (hg_X10_one : ∀ (l : Launch) (σ : Sg), oMV l yX10_one wsX10_one (5 + d) (oM x) [.ref (xa x 0)] σ (g_X10_one  σ)) (hg_X10_opens : ∀ (l : Launch) (a1 : Int32) (σ : Sg), oMV l yX10_opens wsX10_opens (5 + d) (oM x) [.ref (xa x 0), .int a1] σ (g_X10_opens a1 σ)) (C : oC κ (oM x) 2 cX10_sum RX10 wsX10_sum (5 + (d + 1)) none)  (rec4 : Sg → Option (Unit × Sg)) (hrec4 : ∀  (σ : Sg), oV κ (oM x) 2 (oQv κ (oM x)) σ 4 [(0, .ref (xa x 0))] [] (rec4  σ))  (σ : Sg) : oV κ (oM x) 2 (oQv κ (oM x)) σ 4 [(0, .ref (xa x 0))] [] (f_X10_sum_4_b g_X10_any g_X10_all g_X10_compares g_X10_sum g_X10_times g_X10_one g_X10_opens  rec4  σ) := by
  unfold f_X10_sum_4_b
  refine r_aldn (pc := 4) C dX10_sum_4 0 rfl ?_
  refine gf_X10_15_0 (pc := 5) C hi_X10_sum_X10 wd_X10_sum_1 dX10_sum_5 ?_
  refine r_ifne (pc := 8) (tgt := 57) C dX10_sum_8 (by decide) ?_ ?_
  · exact r_vret (pc := 57) C dX10_sum_57
  · refine r_aldn (pc := 11) C dX10_sum_11 0 rfl ?_
    refine k_X10_look (x := x) (pc := 12)  C gX10_sum_X10_look (by omega)  (Nat.le_of_ble_eq_true rfl) dX10_sum_12 (fun r9 s8 => ?_)
    refine r_bipush (pc := 15) (v := (43 : Int32)) C dX10_sum_15 bp_43 ?_
    refine r_iceq (pc := 17) (tgt := 29) C dX10_sum_17 (by decide) ?_ ?_
    · exact v_X10_sum_29 (x := x) d g_X10_any g_X10_all g_X10_compares g_X10_sum g_X10_times g_X10_one g_X10_opens hg_X10_any hg_X10_all hg_X10_compares hg_X10_sum hg_X10_times hg_X10_one hg_X10_opens C _ hrec4 s8
    · refine r_aldn (pc := 20) C dX10_sum_20 0 rfl ?_
      refine k_X10_look (x := x) (pc := 21)  C gX10_sum_X10_look (by omega)  (Nat.le_of_ble_eq_true rfl) dX10_sum_21 (fun r11 s10 => ?_)
      refine r_bipush (pc := 24) (v := (45 : Int32)) C dX10_sum_24 bp_45 ?_
      refine r_icne (pc := 26) (tgt := 57) C dX10_sum_26 (by decide) ?_ ?_
      · exact r_vret (pc := 57) C dX10_sum_57
      · exact v_X10_sum_29 (x := x) d g_X10_any g_X10_all g_X10_compares g_X10_sum g_X10_times g_X10_one g_X10_opens hg_X10_any hg_X10_all hg_X10_compares hg_X10_sum hg_X10_times hg_X10_one hg_X10_opens C _ hrec4 s10
theorem v_X10_sum_4 {κ : oK} {x : oXp} (d : Nat) (g_X10_any : Sg → Option (Unit × Sg)) (g_X10_all : Sg → Option (Unit × Sg)) (g_X10_compares : Sg → Option (Unit × Sg)) (g_X10_sum : Sg → Option (Unit × Sg)) (g_X10_times : Sg → Option (Unit × Sg)) (g_X10_one : Sg → Option (Unit × Sg)) (g_X10_opens : Int32 → Sg → Option (Unit × Sg)) (hg_X10_any : ∀ (l : Launch) (σ : Sg), oMV l yX10_any wsX10_any (5 + d) (oM x) [.ref (xa x 0)] σ (g_X10_any  σ)) (hg_X10_all : ∀ (l : Launch) (σ : Sg), oMV l yX10_all wsX10_all (5 + d) (oM x) [.ref (xa x 0)] σ (g_X10_all  σ)) (hg_X10_compares : ∀ (l : Launch) (σ : Sg), oMV l yX10_compares wsX10_compares (5 + d) (oM x) [.ref (xa x 0)] σ (g_X10_compares  σ)) (hg_X10_sum : ∀ (l : Launch) (σ : Sg), oMV l yX10_sum wsX10_sum (5 + d) (oM x) [.ref (xa x 0)] σ (g_X10_sum  σ)) (hg_X10_times : ∀ (l : Launch) (σ : Sg), oMV l yX10_times wsX10_times (5 + d) (oM x) [.ref (xa x 0)] σ (g_X10_times  σ)) (hg_X10_one : ∀ (l : Launch) (σ : Sg), oMV l yX10_one wsX10_one (5 + d) (oM x) [.ref (xa x 0)] σ (g_X10_one  σ)) (hg_X10_opens : ∀ (l : Launch) (a1 : Int32) (σ : Sg), oMV l yX10_opens wsX10_opens (5 + d) (oM x) [.ref (xa x 0), .int a1] σ (g_X10_opens a1 σ)) (C : oC κ (oM x) 2 cX10_sum RX10 wsX10_sum (5 + (d + 1)) none)  : ∀ (n : Nat)  (σ : Sg), oV κ (oM x) 2 (oQv κ (oM x)) σ 4 [(0, .ref (xa x 0))] [] (f_X10_sum_4 g_X10_any g_X10_all g_X10_compares g_X10_sum g_X10_times g_X10_one g_X10_opens  n  σ) := by
  intro n
  induction n with
  | zero => intros; exact r_none
  | succ n ih => exact v_X10_sum_4_b d g_X10_any g_X10_all g_X10_compares g_X10_sum g_X10_times g_X10_one g_X10_opens hg_X10_any hg_X10_all hg_X10_compares hg_X10_sum hg_X10_times hg_X10_one hg_X10_opens C  _ ih
set_option maxHeartbeats 4000000 in
set_option maxRecDepth 100000 in
theorem m_X10_sum (l : Launch) (x : oXp) (hI : oI (oM x)) (d : Nat) (g_X10_any : Sg → Option (Unit × Sg)) (g_X10_all : Sg → Option (Unit × Sg)) (g_X10_compares : Sg → Option (Unit × Sg)) (g_X10_sum : Sg → Option (Unit × Sg)) (g_X10_times : Sg → Option (Unit × Sg)) (g_X10_one : Sg → Option (Unit × Sg)) (g_X10_opens : Int32 → Sg → Option (Unit × Sg)) (hg_X10_any : ∀ (l : Launch) (σ : Sg), oMV l yX10_any wsX10_any (5 + d) (oM x) [.ref (xa x 0)] σ (g_X10_any  σ)) (hg_X10_all : ∀ (l : Launch) (σ : Sg), oMV l yX10_all wsX10_all (5 + d) (oM x) [.ref (xa x 0)] σ (g_X10_all  σ)) (hg_X10_compares : ∀ (l : Launch) (σ : Sg), oMV l yX10_compares wsX10_compares (5 + d) (oM x) [.ref (xa x 0)] σ (g_X10_compares  σ)) (hg_X10_sum : ∀ (l : Launch) (σ : Sg), oMV l yX10_sum wsX10_sum (5 + d) (oM x) [.ref (xa x 0)] σ (g_X10_sum  σ)) (hg_X10_times : ∀ (l : Launch) (σ : Sg), oMV l yX10_times wsX10_times (5 + d) (oM x) [.ref (xa x 0)] σ (g_X10_times  σ)) (hg_X10_one : ∀ (l : Launch) (σ : Sg), oMV l yX10_one wsX10_one (5 + d) (oM x) [.ref (xa x 0)] σ (g_X10_one  σ)) (hg_X10_opens : ∀ (l : Launch) (a1 : Int32) (σ : Sg), oMV l yX10_opens wsX10_opens (5 + d) (oM x) [.ref (xa x 0), .int a1] σ (g_X10_opens a1 σ))  (σ : Sg) : oMV l yX10_sum wsX10_sum (5 + (d + 1)) (oM x) [.ref (xa x 0)] σ (f_X10_sum_e g_X10_any g_X10_all g_X10_compares g_X10_sum g_X10_times g_X10_one g_X10_opens  σ) := by
  refine oMV_of (nL := 2) (cc := cX10_sum) hI (by decide +kernel) rfl (Nat.le_of_ble_eq_true rfl) ?_
  intro κ C
  have C : oC κ (oM x) 2 cX10_sum RX10 wsX10_sum (5 + (d + 1)) none := C
  unfold f_X10_sum_e
  show oV κ (oM x) 2 (oQv κ (oM x)) σ 0 [(0, .ref (xa x 0))] [] _
  refine r_aldn (pc := 0) C dX10_sum_0 0 rfl ?_
  refine r_cVv (pc := 1) (As := []) (na := 0) (j := 0) (ci := 10) C (fun l => hg_X10_times l  σ) gX10_sum_X10_times rfl (by decide +kernel) rfl (by decide) (by omega) (by show 0 < 14; decide) rfl rfl rfl rfl (Nat.le_of_ble_eq_true rfl) dX10_sum_1 (fun _ s12 => ?_)
  exact v_X10_sum_4 (x := x) d g_X10_any g_X10_all g_X10_compares g_X10_sum g_X10_times g_X10_one g_X10_opens hg_X10_any hg_X10_all hg_X10_compares hg_X10_sum hg_X10_times hg_X10_one hg_X10_opens C fuN s12
set_option maxHeartbeats 4000000 in
set_option maxRecDepth 100000 in
theorem v_X10_times_38 {κ : oK} {x : oXp} (d : Nat) (g_X10_any : Sg → Option (Unit × Sg)) (g_X10_all : Sg → Option (Unit × Sg)) (g_X10_compares : Sg → Option (Unit × Sg)) (g_X10_sum : Sg → Option (Unit × Sg)) (g_X10_times : Sg → Option (Unit × Sg)) (g_X10_one : Sg → Option (Unit × Sg)) (g_X10_opens : Int32 → Sg → Option (Unit × Sg)) (hg_X10_any : ∀ (l : Launch) (σ : Sg), oMV l yX10_any wsX10_any (5 + d) (oM x) [.ref (xa x 0)] σ (g_X10_any  σ)) (hg_X10_all : ∀ (l : Launch) (σ : Sg), oMV l yX10_all wsX10_all (5 + d) (oM x) [.ref (xa x 0)] σ (g_X10_all  σ)) (hg_X10_compares : ∀ (l : Launch) (σ : Sg), oMV l yX10_compares wsX10_compares (5 + d) (oM x) [.ref (xa x 0)] σ (g_X10_compares  σ)) (hg_X10_sum : ∀ (l : Launch) (σ : Sg), oMV l yX10_sum wsX10_sum (5 + d) (oM x) [.ref (xa x 0)] σ (g_X10_sum  σ)) (hg_X10_times : ∀ (l : Launch) (σ : Sg), oMV l yX10_times wsX10_times (5 + d) (oM x) [.ref (xa x 0)] σ (g_X10_times  σ)) (hg_X10_one : ∀ (l : Launch) (σ : Sg), oMV l yX10_one wsX10_one (5 + d) (oM x) [.ref (xa x 0)] σ (g_X10_one  σ)) (hg_X10_opens : ∀ (l : Launch) (a1 : Int32) (σ : Sg), oMV l yX10_opens wsX10_opens (5 + d) (oM x) [.ref (xa x 0), .int a1] σ (g_X10_opens a1 σ)) (C : oC κ (oM x) 2 cX10_times RX10 wsX10_times (5 + (d + 1)) none) (rec4 : Sg → Option (Unit × Sg)) (hrec4 : ∀  (σ : Sg), oV κ (oM x) 2 (oQv κ (oM x)) σ 4 [(0, .ref (xa x 0))] [] (rec4  σ))  (σ : Sg) : oV κ (oM x) 2 (oQv κ (oM x)) σ 38 [(0, .ref (xa x 0))] [] (f_X10_times_38 g_X10_any g_X10_all g_X10_compares g_X10_sum g_X10_times g_X10_one g_X10_opens rec4  σ) := by
  unfold f_X10_times_38
  refine r_aldn (pc := 38) C dX10_times_38 0 rfl ?_
  refine k_X10_look (x := x) (pc := 39)  C gX10_times_X10_look (by omega)  (Nat.le_of_ble_eq_true rfl) dX10_times_39 (fun r2 s1 => ?_)
  refine r_istn (pc := 42) (lv' := [(0, _), (1, _)]) C dX10_times_42 (by decide) [1, 0] rfl ?_
  refine r_aldn (pc := 43) C dX10_times_43 0 rfl ?_
  refine r_dup (pc := 44) C dX10_times_44 rfl ?_
  refine gf_X10_13_0 (pc := 45) C hi_X10_times_X10 wd_X10_times_2 dX10_times_45 ?_
  refine r_iconst (pc := 48) (v := (1 : Int32)) C dX10_times_48 ic_1 ?_
  refine r_iadd (pc := 49) C dX10_times_49 ?_
  refine pf_X10_13_0 (pc := 50) C hi_X10_times_X10 wd_X10_times_2 dX10_times_50 (fun s3 => ?_)
  refine r_aldn (pc := 53) C dX10_times_53 0 rfl ?_
  refine r_cVv (pc := 54) (As := []) (na := 0) (j := 0) (ci := 10) C (fun l => hg_X10_one l  s3) gX10_times_X10_one rfl (by decide +kernel) rfl (by decide) (by omega) (by show 0 < 14; decide) rfl rfl rfl rfl (Nat.le_of_ble_eq_true rfl) dX10_times_54 (fun _ s4 => ?_)
  refine r_aldn (pc := 57) C dX10_times_57 0 rfl ?_
  refine r_ildn (pc := 58) C dX10_times_58 1 rfl ?_
  refine r_iconst (pc := 59) (v := (0 : Int32)) C dX10_times_59 ic_0 ?_
  refine k_X10_step (x := x) (pc := 60) (a1 := r2) (a2 := (0 : Int32)) C gX10_times_X10_step (by omega)  (Nat.le_of_ble_eq_true rfl) dX10_times_60 (fun _ s6 => ?_)
  refine r_goto (pc := 63) (tgt := 4) C dX10_times_63 (by decide) ?_
  refine r_sub (lv' := [(0, _)]) [0] rfl ?_
  exact hrec4 s6
set_option maxHeartbeats 4000000 in
set_option maxRecDepth 100000 in
theorem v_X10_times_4_b {κ : oK} {x : oXp} (d : Nat) (g_X10_any : Sg → Option (Unit × Sg)) (g_X10_all : Sg → Option (Unit × Sg)) (g_X10_compares : Sg → Option (Unit × Sg)) (g_X10_sum : Sg → Option (Unit × Sg)) (g_X10_times : Sg → Option (Unit × Sg)) (g_X10_one : Sg → Option (Unit × Sg)) (g_X10_opens : Int32 → Sg → Option (Unit × Sg)) (hg_X10_any : ∀ (l : Launch) (σ : Sg), oMV l yX10_any wsX10_any (5 + d) (oM x) [.ref (xa x 0)] σ (g_X10_any  σ)) (hg_X10_all : ∀ (l : Launch) (σ : Sg), oMV l yX10_all wsX10_all (5 + d) (oM x) [.ref (xa x 0)] σ (g_X10_all  σ)) (hg_X10_compares : ∀ (l : Launch) (σ : Sg), oMV l yX10_compares wsX10_compares (5 + d) (oM x) [.ref (xa x 0)] σ (g_X10_compares  σ)) (hg_X10_sum : ∀ (l : Launch) (σ : Sg), oMV l yX10_sum wsX10_sum (5 + d) (oM x) [.ref (xa x 0)] σ (g_X10_sum  σ)) (hg_X10_times : ∀ (l : Launch) (σ : Sg), oMV l yX10_times wsX10_times (5 + d) (oM x) [.ref (xa x 0)] σ (g_X10_times  σ)) (hg_X10_one : ∀ (l : Launch) (σ : Sg), oMV l yX10_one wsX10_one (5 + d) (oM x) [.ref (xa x 0)] σ (g_X10_one  σ)) (hg_X10_opens : ∀ (l : Launch) (a1 : Int32) (σ : Sg), oMV l yX10_opens wsX10_opens (5 + d) (oM x) [.ref (xa x 0), .int a1] σ (g_X10_opens a1 σ)) (C : oC κ (oM x) 2 cX10_times RX10 wsX10_times (5 + (d + 1)) none)  (rec4 : Sg → Option (Unit × Sg)) (hrec4 : ∀  (σ : Sg), oV κ (oM x) 2 (oQv κ (oM x)) σ 4 [(0, .ref (xa x 0))] [] (rec4  σ))  (σ : Sg) : oV κ (oM x) 2 (oQv κ (oM x)) σ 4 [(0, .ref (xa x 0))] [] (f_X10_times_4_b g_X10_any g_X10_all g_X10_compares g_X10_sum g_X10_times g_X10_one g_X10_opens  rec4  σ) := by
  unfold f_X10_times_4_b
  refine r_aldn (pc := 4) C dX10_times_4 0 rfl ?_
  refine gf_X10_15_0 (pc := 5) C hi_X10_times_X10 wd_X10_times_1 dX10_times_5 ?_
  refine r_ifne (pc := 8) (tgt := 66) C dX10_times_8 (by decide) ?_ ?_
  · exact r_vret (pc := 66) C dX10_times_66
  · refine r_aldn (pc := 11) C dX10_times_11 0 rfl ?_
    refine k_X10_look (x := x) (pc := 12)  C gX10_times_X10_look (by omega)  (Nat.le_of_ble_eq_true rfl) dX10_times_12 (fun r9 s8 => ?_)
    refine r_bipush (pc := 15) (v := (42 : Int32)) C dX10_times_15 bp_42 ?_
    refine r_iceq (pc := 17) (tgt := 38) C dX10_times_17 (by decide) ?_ ?_
    · exact v_X10_times_38 (x := x) d g_X10_any g_X10_all g_X10_compares g_X10_sum g_X10_times g_X10_one g_X10_opens hg_X10_any hg_X10_all hg_X10_compares hg_X10_sum hg_X10_times hg_X10_one hg_X10_opens C _ hrec4 s8
    · refine r_aldn (pc := 20) C dX10_times_20 0 rfl ?_
      refine k_X10_look (x := x) (pc := 21)  C gX10_times_X10_look (by omega)  (Nat.le_of_ble_eq_true rfl) dX10_times_21 (fun r11 s10 => ?_)
      refine r_bipush (pc := 24) (v := (47 : Int32)) C dX10_times_24 bp_47 ?_
      refine r_iceq (pc := 26) (tgt := 38) C dX10_times_26 (by decide) ?_ ?_
      · exact v_X10_times_38 (x := x) d g_X10_any g_X10_all g_X10_compares g_X10_sum g_X10_times g_X10_one g_X10_opens hg_X10_any hg_X10_all hg_X10_compares hg_X10_sum hg_X10_times hg_X10_one hg_X10_opens C _ hrec4 s10
      · refine r_aldn (pc := 29) C dX10_times_29 0 rfl ?_
        refine k_X10_look (x := x) (pc := 30)  C gX10_times_X10_look (by omega)  (Nat.le_of_ble_eq_true rfl) dX10_times_30 (fun r13 s12 => ?_)
        refine r_bipush (pc := 33) (v := (37 : Int32)) C dX10_times_33 bp_37 ?_
        refine r_icne (pc := 35) (tgt := 66) C dX10_times_35 (by decide) ?_ ?_
        · exact r_vret (pc := 66) C dX10_times_66
        · exact v_X10_times_38 (x := x) d g_X10_any g_X10_all g_X10_compares g_X10_sum g_X10_times g_X10_one g_X10_opens hg_X10_any hg_X10_all hg_X10_compares hg_X10_sum hg_X10_times hg_X10_one hg_X10_opens C _ hrec4 s12
theorem v_X10_times_4 {κ : oK} {x : oXp} (d : Nat) (g_X10_any : Sg → Option (Unit × Sg)) (g_X10_all : Sg → Option (Unit × Sg)) (g_X10_compares : Sg → Option (Unit × Sg)) (g_X10_sum : Sg → Option (Unit × Sg)) (g_X10_times : Sg → Option (Unit × Sg)) (g_X10_one : Sg → Option (Unit × Sg)) (g_X10_opens : Int32 → Sg → Option (Unit × Sg)) (hg_X10_any : ∀ (l : Launch) (σ : Sg), oMV l yX10_any wsX10_any (5 + d) (oM x) [.ref (xa x 0)] σ (g_X10_any  σ)) (hg_X10_all : ∀ (l : Launch) (σ : Sg), oMV l yX10_all wsX10_all (5 + d) (oM x) [.ref (xa x 0)] σ (g_X10_all  σ)) (hg_X10_compares : ∀ (l : Launch) (σ : Sg), oMV l yX10_compares wsX10_compares (5 + d) (oM x) [.ref (xa x 0)] σ (g_X10_compares  σ)) (hg_X10_sum : ∀ (l : Launch) (σ : Sg), oMV l yX10_sum wsX10_sum (5 + d) (oM x) [.ref (xa x 0)] σ (g_X10_sum  σ)) (hg_X10_times : ∀ (l : Launch) (σ : Sg), oMV l yX10_times wsX10_times (5 + d) (oM x) [.ref (xa x 0)] σ (g_X10_times  σ)) (hg_X10_one : ∀ (l : Launch) (σ : Sg), oMV l yX10_one wsX10_one (5 + d) (oM x) [.ref (xa x 0)] σ (g_X10_one  σ)) (hg_X10_opens : ∀ (l : Launch) (a1 : Int32) (σ : Sg), oMV l yX10_opens wsX10_opens (5 + d) (oM x) [.ref (xa x 0), .int a1] σ (g_X10_opens a1 σ)) (C : oC κ (oM x) 2 cX10_times RX10 wsX10_times (5 + (d + 1)) none)  : ∀ (n : Nat)  (σ : Sg), oV κ (oM x) 2 (oQv κ (oM x)) σ 4 [(0, .ref (xa x 0))] [] (f_X10_times_4 g_X10_any g_X10_all g_X10_compares g_X10_sum g_X10_times g_X10_one g_X10_opens  n  σ) := by
  intro n
  induction n with
  | zero => intros; exact r_none
  | succ n ih => exact v_X10_times_4_b d g_X10_any g_X10_all g_X10_compares g_X10_sum g_X10_times g_X10_one g_X10_opens hg_X10_any hg_X10_all hg_X10_compares hg_X10_sum hg_X10_times hg_X10_one hg_X10_opens C  _ ih
set_option maxHeartbeats 4000000 in
set_option maxRecDepth 100000 in
theorem m_X10_times (l : Launch) (x : oXp) (hI : oI (oM x)) (d : Nat) (g_X10_any : Sg → Option (Unit × Sg)) (g_X10_all : Sg → Option (Unit × Sg)) (g_X10_compares : Sg → Option (Unit × Sg)) (g_X10_sum : Sg → Option (Unit × Sg)) (g_X10_times : Sg → Option (Unit × Sg)) (g_X10_one : Sg → Option (Unit × Sg)) (g_X10_opens : Int32 → Sg → Option (Unit × Sg)) (hg_X10_any : ∀ (l : Launch) (σ : Sg), oMV l yX10_any wsX10_any (5 + d) (oM x) [.ref (xa x 0)] σ (g_X10_any  σ)) (hg_X10_all : ∀ (l : Launch) (σ : Sg), oMV l yX10_all wsX10_all (5 + d) (oM x) [.ref (xa x 0)] σ (g_X10_all  σ)) (hg_X10_compares : ∀ (l : Launch) (σ : Sg), oMV l yX10_compares wsX10_compares (5 + d) (oM x) [.ref (xa x 0)] σ (g_X10_compares  σ)) (hg_X10_sum : ∀ (l : Launch) (σ : Sg), oMV l yX10_sum wsX10_sum (5 + d) (oM x) [.ref (xa x 0)] σ (g_X10_sum  σ)) (hg_X10_times : ∀ (l : Launch) (σ : Sg), oMV l yX10_times wsX10_times (5 + d) (oM x) [.ref (xa x 0)] σ (g_X10_times  σ)) (hg_X10_one : ∀ (l : Launch) (σ : Sg), oMV l yX10_one wsX10_one (5 + d) (oM x) [.ref (xa x 0)] σ (g_X10_one  σ)) (hg_X10_opens : ∀ (l : Launch) (a1 : Int32) (σ : Sg), oMV l yX10_opens wsX10_opens (5 + d) (oM x) [.ref (xa x 0), .int a1] σ (g_X10_opens a1 σ))  (σ : Sg) : oMV l yX10_times wsX10_times (5 + (d + 1)) (oM x) [.ref (xa x 0)] σ (f_X10_times_e g_X10_any g_X10_all g_X10_compares g_X10_sum g_X10_times g_X10_one g_X10_opens  σ) := by
  refine oMV_of (nL := 2) (cc := cX10_times) hI (by decide +kernel) rfl (Nat.le_of_ble_eq_true rfl) ?_
  intro κ C
  have C : oC κ (oM x) 2 cX10_times RX10 wsX10_times (5 + (d + 1)) none := C
  unfold f_X10_times_e
  show oV κ (oM x) 2 (oQv κ (oM x)) σ 0 [(0, .ref (xa x 0))] [] _
  refine r_aldn (pc := 0) C dX10_times_0 0 rfl ?_
  refine r_cVv (pc := 1) (As := []) (na := 0) (j := 0) (ci := 10) C (fun l => hg_X10_one l  σ) gX10_times_X10_one rfl (by decide +kernel) rfl (by decide) (by omega) (by show 0 < 14; decide) rfl rfl rfl rfl (Nat.le_of_ble_eq_true rfl) dX10_times_1 (fun _ s14 => ?_)
  exact v_X10_times_4 (x := x) d g_X10_any g_X10_all g_X10_compares g_X10_sum g_X10_times g_X10_one g_X10_opens hg_X10_any hg_X10_all hg_X10_compares hg_X10_sum hg_X10_times hg_X10_one hg_X10_opens C fuN s14
set_option maxHeartbeats 4000000 in
set_option maxRecDepth 100000 in
theorem m_X10_one (l : Launch) (x : oXp) (hI : oI (oM x)) (d : Nat) (g_X10_any : Sg → Option (Unit × Sg)) (g_X10_all : Sg → Option (Unit × Sg)) (g_X10_compares : Sg → Option (Unit × Sg)) (g_X10_sum : Sg → Option (Unit × Sg)) (g_X10_times : Sg → Option (Unit × Sg)) (g_X10_one : Sg → Option (Unit × Sg)) (g_X10_opens : Int32 → Sg → Option (Unit × Sg)) (hg_X10_any : ∀ (l : Launch) (σ : Sg), oMV l yX10_any wsX10_any (5 + d) (oM x) [.ref (xa x 0)] σ (g_X10_any  σ)) (hg_X10_all : ∀ (l : Launch) (σ : Sg), oMV l yX10_all wsX10_all (5 + d) (oM x) [.ref (xa x 0)] σ (g_X10_all  σ)) (hg_X10_compares : ∀ (l : Launch) (σ : Sg), oMV l yX10_compares wsX10_compares (5 + d) (oM x) [.ref (xa x 0)] σ (g_X10_compares  σ)) (hg_X10_sum : ∀ (l : Launch) (σ : Sg), oMV l yX10_sum wsX10_sum (5 + d) (oM x) [.ref (xa x 0)] σ (g_X10_sum  σ)) (hg_X10_times : ∀ (l : Launch) (σ : Sg), oMV l yX10_times wsX10_times (5 + d) (oM x) [.ref (xa x 0)] σ (g_X10_times  σ)) (hg_X10_one : ∀ (l : Launch) (σ : Sg), oMV l yX10_one wsX10_one (5 + d) (oM x) [.ref (xa x 0)] σ (g_X10_one  σ)) (hg_X10_opens : ∀ (l : Launch) (a1 : Int32) (σ : Sg), oMV l yX10_opens wsX10_opens (5 + d) (oM x) [.ref (xa x 0), .int a1] σ (g_X10_opens a1 σ))  (σ : Sg) : oMV l yX10_one wsX10_one (5 + (d + 1)) (oM x) [.ref (xa x 0)] σ (f_X10_one_e g_X10_any g_X10_all g_X10_compares g_X10_sum g_X10_times g_X10_one g_X10_opens  σ) := by
  refine oMV_of (nL := 3) (cc := cX10_one) hI (by decide +kernel) rfl (Nat.le_of_ble_eq_true rfl) ?_
  intro κ C
  have C : oC κ (oM x) 3 cX10_one RX10 wsX10_one (5 + (d + 1)) none := C
  unfold f_X10_one_e
  show oV κ (oM x) 3 (oQv κ (oM x)) σ 0 [(0, .ref (xa x 0))] [] _
  refine r_aldn (pc := 0) C dX10_one_0 0 rfl ?_
  refine k_X10_look (x := x) (pc := 1)  C gX10_one_X10_look (by omega)  (Nat.le_of_ble_eq_true rfl) dX10_one_1 (fun r2 s1 => ?_)
  refine r_istn (pc := 4) (lv' := [(0, _), (1, _)]) C dX10_one_4 (by decide) [1, 0] rfl ?_
  refine r_aldn (pc := 5) C dX10_one_5 0 rfl ?_
  refine r_ildn (pc := 6) C dX10_one_6 1 rfl ?_
  refine k_X10_nameOf (x := x) (pc := 7) (a1 := r2) C gX10_one_X10_nameOf (by omega)  (Nat.le_of_ble_eq_true rfl) dX10_one_7 (fun r4 s3 => ?_)
  refine r_istn (pc := 10) (lv' := [(0, _), (1, _), (2, _)]) C dX10_one_10 (by decide) [1, 2, 0] rfl ?_
  refine r_ildn (pc := 11) C dX10_one_11 2 rfl ?_
  refine r_iflt (pc := 12) (tgt := 34) C dX10_one_12 (by decide) ?_ ?_
  · refine r_ildn (pc := 34) C dX10_one_34 1 rfl ?_
    refine r_bipush (pc := 35) (v := (33 : Int32)) C dX10_one_35 bp_33 ?_
    refine r_iceq (pc := 37) (tgt := 46) C dX10_one_37 (by decide) ?_ ?_
    · refine r_aldn (pc := 46) C dX10_one_46 0 rfl ?_
      refine r_ildn (pc := 47) C dX10_one_47 1 rfl ?_
      refine r_cVv (pc := 48) (As := [.int r2]) (na := 1) (j := 0) (ci := 10) C (fun l => hg_X10_opens l r2 s3) gX10_one_X10_opens rfl (by decide +kernel) rfl (by decide) (by omega) (by show 0 < 14; decide) rfl rfl rfl rfl (Nat.le_of_ble_eq_true rfl) dX10_one_48 (fun _ s5 => ?_)
      refine r_goto (pc := 51) (tgt := 58) C dX10_one_51 (by decide) ?_
      exact r_vret (pc := 58) C dX10_one_58
    · refine r_ildn (pc := 40) C dX10_one_40 1 rfl ?_
      refine r_bipush (pc := 41) (v := (40 : Int32)) C dX10_one_41 bp_40 ?_
      refine r_icne (pc := 43) (tgt := 54) C dX10_one_43 (by decide) ?_ ?_
      · refine r_aldn (pc := 54) C dX10_one_54 0 rfl ?_
        refine k_X10_number (x := x) (pc := 55)  C gX10_one_X10_number (by omega)  (Nat.le_of_ble_eq_true rfl) dX10_one_55 (fun _ s7 => ?_)
        exact r_vret (pc := 58) C dX10_one_58
      · refine r_aldn (pc := 46) C dX10_one_46 0 rfl ?_
        refine r_ildn (pc := 47) C dX10_one_47 1 rfl ?_
        refine r_cVv (pc := 48) (As := [.int r2]) (na := 1) (j := 0) (ci := 10) C (fun l => hg_X10_opens l r2 s3) gX10_one_X10_opens rfl (by decide +kernel) rfl (by decide) (by omega) (by show 0 < 14; decide) rfl rfl rfl rfl (Nat.le_of_ble_eq_true rfl) dX10_one_48 (fun _ s9 => ?_)
        refine r_goto (pc := 51) (tgt := 58) C dX10_one_51 (by decide) ?_
        exact r_vret (pc := 58) C dX10_one_58
  · refine r_aldn (pc := 15) C dX10_one_15 0 rfl ?_
    refine r_dup (pc := 16) C dX10_one_16 rfl ?_
    refine gf_X10_13_0 (pc := 17) C hi_X10_one_X10 wd_X10_one_1 dX10_one_17 ?_
    refine r_iconst (pc := 20) (v := (1 : Int32)) C dX10_one_20 ic_1 ?_
    refine r_iadd (pc := 21) C dX10_one_21 ?_
    refine pf_X10_13_0 (pc := 22) C hi_X10_one_X10 wd_X10_one_1 dX10_one_22 (fun s11 => ?_)
    refine r_aldn (pc := 25) C dX10_one_25 0 rfl ?_
    refine r_iconst (pc := 26) (v := (2 : Int32)) C dX10_one_26 ic_2 ?_
    refine r_ildn (pc := 27) C dX10_one_27 2 rfl ?_
    refine k_X10_step (x := x) (pc := 28) (a1 := (2 : Int32)) (a2 := r4) C gX10_one_X10_step (by omega)  (Nat.le_of_ble_eq_true rfl) dX10_one_28 (fun _ s12 => ?_)
    refine r_goto (pc := 31) (tgt := 58) C dX10_one_31 (by decide) ?_
    exact r_vret (pc := 58) C dX10_one_58
set_option maxHeartbeats 4000000 in
set_option maxRecDepth 100000 in
theorem v_X10_opens_79 {κ : oK} {x : oXp} (d : Nat) (g_X10_any : Sg → Option (Unit × Sg)) (g_X10_all : Sg → Option (Unit × Sg)) (g_X10_compares : Sg → Option (Unit × Sg)) (g_X10_sum : Sg → Option (Unit × Sg)) (g_X10_times : Sg → Option (Unit × Sg)) (g_X10_one : Sg → Option (Unit × Sg)) (g_X10_opens : Int32 → Sg → Option (Unit × Sg)) (hg_X10_any : ∀ (l : Launch) (σ : Sg), oMV l yX10_any wsX10_any (5 + d) (oM x) [.ref (xa x 0)] σ (g_X10_any  σ)) (hg_X10_all : ∀ (l : Launch) (σ : Sg), oMV l yX10_all wsX10_all (5 + d) (oM x) [.ref (xa x 0)] σ (g_X10_all  σ)) (hg_X10_compares : ∀ (l : Launch) (σ : Sg), oMV l yX10_compares wsX10_compares (5 + d) (oM x) [.ref (xa x 0)] σ (g_X10_compares  σ)) (hg_X10_sum : ∀ (l : Launch) (σ : Sg), oMV l yX10_sum wsX10_sum (5 + d) (oM x) [.ref (xa x 0)] σ (g_X10_sum  σ)) (hg_X10_times : ∀ (l : Launch) (σ : Sg), oMV l yX10_times wsX10_times (5 + d) (oM x) [.ref (xa x 0)] σ (g_X10_times  σ)) (hg_X10_one : ∀ (l : Launch) (σ : Sg), oMV l yX10_one wsX10_one (5 + d) (oM x) [.ref (xa x 0)] σ (g_X10_one  σ)) (hg_X10_opens : ∀ (l : Launch) (a1 : Int32) (σ : Sg), oMV l yX10_opens wsX10_opens (5 + d) (oM x) [.ref (xa x 0), .int a1] σ (g_X10_opens a1 σ)) (C : oC κ (oM x) 2 cX10_opens RX10 wsX10_opens (5 + (d + 1)) none)  (t0 : Int32) (σ : Sg) : oV κ (oM x) 2 (oQv κ (oM x)) σ 79 [(0, .ref (xa x 0))] [.int t0, .ref (xa x 0)] (f_X10_opens_79 g_X10_any g_X10_all g_X10_compares g_X10_sum g_X10_times g_X10_one g_X10_opens  t0 σ) := by
  unfold f_X10_opens_79
  refine r_ckb (fun h2 => ?_)
  refine pf_X10_15_0 (pc := 79) C hi_X10_opens_X10 wd_X10_opens_2 (isb_nar h2) dX10_opens_79 (fun s1 => ?_)
  refine r_aldn (pc := 82) C dX10_opens_82 0 rfl ?_
  refine r_dup (pc := 83) C dX10_opens_83 rfl ?_
  refine gf_X10_13_0 (pc := 84) C hi_X10_opens_X10 wd_X10_opens_3 dX10_opens_84 ?_
  refine r_aldn (pc := 87) C dX10_opens_87 0 rfl ?_
  refine gf_X10_15_0 (pc := 88) C hi_X10_opens_X10 wd_X10_opens_2 dX10_opens_88 ?_
  refine r_ifeq (pc := 91) (tgt := 98) C dX10_opens_91 (by decide) ?_ ?_
  · refine r_iconst (pc := 98) (v := (1 : Int32)) C dX10_opens_98 ic_1 ?_
    refine r_iadd (pc := 99) C dX10_opens_99 ?_
    refine pf_X10_13_0 (pc := 100) C hi_X10_opens_X10 wd_X10_opens_3 dX10_opens_100 (fun s3 => ?_)
    refine r_aldn (pc := 103) C dX10_opens_103 0 rfl ?_
    refine r_dup (pc := 104) C dX10_opens_104 rfl ?_
    refine gf_X10_14_0 (pc := 105) C hi_X10_opens_X10 wd_X10_opens_1 dX10_opens_105 ?_
    refine r_iconst (pc := 108) (v := (1 : Int32)) C dX10_opens_108 ic_1 ?_
    refine r_isub (pc := 109) C dX10_opens_109 ?_
    refine pf_X10_14_0 (pc := 110) C hi_X10_opens_X10 wd_X10_opens_1 dX10_opens_110 (fun s4 => ?_)
    exact r_vret (pc := 113) C dX10_opens_113
  · refine r_iconst (pc := 94) (v := (0 : Int32)) C dX10_opens_94 ic_0 ?_
    refine r_goto (pc := 95) (tgt := 99) C dX10_opens_95 (by decide) ?_
    refine r_iadd (pc := 99) C dX10_opens_99 ?_
    refine pf_X10_13_0 (pc := 100) C hi_X10_opens_X10 wd_X10_opens_3 dX10_opens_100 (fun s5 => ?_)
    refine r_aldn (pc := 103) C dX10_opens_103 0 rfl ?_
    refine r_dup (pc := 104) C dX10_opens_104 rfl ?_
    refine gf_X10_14_0 (pc := 105) C hi_X10_opens_X10 wd_X10_opens_1 dX10_opens_105 ?_
    refine r_iconst (pc := 108) (v := (1 : Int32)) C dX10_opens_108 ic_1 ?_
    refine r_isub (pc := 109) C dX10_opens_109 ?_
    refine pf_X10_14_0 (pc := 110) C hi_X10_opens_X10 wd_X10_opens_1 dX10_opens_110 (fun s6 => ?_)
    exact r_vret (pc := 113) C dX10_opens_113
set_option maxHeartbeats 4000000 in
set_option maxRecDepth 100000 in
theorem m_X10_opens (l : Launch) (x : oXp) (hI : oI (oM x)) (d : Nat) (g_X10_any : Sg → Option (Unit × Sg)) (g_X10_all : Sg → Option (Unit × Sg)) (g_X10_compares : Sg → Option (Unit × Sg)) (g_X10_sum : Sg → Option (Unit × Sg)) (g_X10_times : Sg → Option (Unit × Sg)) (g_X10_one : Sg → Option (Unit × Sg)) (g_X10_opens : Int32 → Sg → Option (Unit × Sg)) (hg_X10_any : ∀ (l : Launch) (σ : Sg), oMV l yX10_any wsX10_any (5 + d) (oM x) [.ref (xa x 0)] σ (g_X10_any  σ)) (hg_X10_all : ∀ (l : Launch) (σ : Sg), oMV l yX10_all wsX10_all (5 + d) (oM x) [.ref (xa x 0)] σ (g_X10_all  σ)) (hg_X10_compares : ∀ (l : Launch) (σ : Sg), oMV l yX10_compares wsX10_compares (5 + d) (oM x) [.ref (xa x 0)] σ (g_X10_compares  σ)) (hg_X10_sum : ∀ (l : Launch) (σ : Sg), oMV l yX10_sum wsX10_sum (5 + d) (oM x) [.ref (xa x 0)] σ (g_X10_sum  σ)) (hg_X10_times : ∀ (l : Launch) (σ : Sg), oMV l yX10_times wsX10_times (5 + d) (oM x) [.ref (xa x 0)] σ (g_X10_times  σ)) (hg_X10_one : ∀ (l : Launch) (σ : Sg), oMV l yX10_one wsX10_one (5 + d) (oM x) [.ref (xa x 0)] σ (g_X10_one  σ)) (hg_X10_opens : ∀ (l : Launch) (a1 : Int32) (σ : Sg), oMV l yX10_opens wsX10_opens (5 + d) (oM x) [.ref (xa x 0), .int a1] σ (g_X10_opens a1 σ)) (a1 : Int32) (σ : Sg) : oMV l yX10_opens wsX10_opens (5 + (d + 1)) (oM x) [.ref (xa x 0), .int a1] σ (f_X10_opens_e g_X10_any g_X10_all g_X10_compares g_X10_sum g_X10_times g_X10_one g_X10_opens a1 σ) := by
  refine oMV_of (nL := 2) (cc := cX10_opens) hI (by decide +kernel) rfl (Nat.le_of_ble_eq_true rfl) ?_
  intro κ C
  have C : oC κ (oM x) 2 cX10_opens RX10 wsX10_opens (5 + (d + 1)) none := C
  unfold f_X10_opens_e
  show oV κ (oM x) 2 (oQv κ (oM x)) σ 0 [(0, .ref (xa x 0)), (1, .int a1)] [] _
  refine r_aldn (pc := 0) C dX10_opens_0 0 rfl ?_
  refine gf_X10_14_0 (pc := 1) C hi_X10_opens_X10 wd_X10_opens_1 dX10_opens_1 ?_
  refine r_iconst (pc := 4) (v := (5 : Int32)) C dX10_opens_4 ic_5 ?_
  refine r_icne (pc := 5) (tgt := 14) C dX10_opens_5 (by decide) ?_ ?_
  · refine r_aldn (pc := 14) C dX10_opens_14 0 rfl ?_
    refine r_dup (pc := 15) C dX10_opens_15 rfl ?_
    refine gf_X10_14_0 (pc := 16) C hi_X10_opens_X10 wd_X10_opens_1 dX10_opens_16 ?_
    refine r_iconst (pc := 19) (v := (1 : Int32)) C dX10_opens_19 ic_1 ?_
    refine r_iadd (pc := 20) C dX10_opens_20 ?_
    refine pf_X10_14_0 (pc := 21) C hi_X10_opens_X10 wd_X10_opens_1 dX10_opens_21 (fun s7 => ?_)
    refine r_aldn (pc := 24) C dX10_opens_24 0 rfl ?_
    refine r_dup (pc := 25) C dX10_opens_25 rfl ?_
    refine gf_X10_13_0 (pc := 26) C hi_X10_opens_X10 wd_X10_opens_3 dX10_opens_26 ?_
    refine r_iconst (pc := 29) (v := (1 : Int32)) C dX10_opens_29 ic_1 ?_
    refine r_iadd (pc := 30) C dX10_opens_30 ?_
    refine pf_X10_13_0 (pc := 31) C hi_X10_opens_X10 wd_X10_opens_3 dX10_opens_31 (fun s8 => ?_)
    refine r_ildn (pc := 34) C dX10_opens_34 1 rfl ?_
    refine r_bipush (pc := 35) (v := (33 : Int32)) C dX10_opens_35 bp_33 ?_
    refine r_icne (pc := 37) (tgt := 53) C dX10_opens_37 (by decide) ?_ ?_
    · refine r_aldn (pc := 53) C dX10_opens_53 0 rfl ?_
      refine r_cVv (pc := 54) (As := []) (na := 0) (j := 0) (ci := 10) C (fun l => hg_X10_any l  s8) gX10_opens_X10_any rfl (by decide +kernel) rfl (by decide) (by omega) (by show 0 < 14; decide) rfl rfl rfl rfl (Nat.le_of_ble_eq_true rfl) dX10_opens_54 (fun _ s9 => ?_)
      refine r_aldn (pc := 57) C dX10_opens_57 0 rfl ?_
      refine r_aldn (pc := 58) C dX10_opens_58 0 rfl ?_
      refine gf_X10_15_0 (pc := 59) C hi_X10_opens_X10 wd_X10_opens_2 dX10_opens_59 ?_
      refine r_ifne (pc := 62) (tgt := 74) C dX10_opens_62 (by decide) ?_ ?_
      · refine r_iconst (pc := 74) (v := (1 : Int32)) C dX10_opens_74 ic_1 ?_
        refine r_goto (pc := 75) (tgt := 79) C dX10_opens_75 (by decide) ?_
        refine r_sub (lv' := [(0, _)]) [0] rfl ?_
        exact v_X10_opens_79 (x := x) d g_X10_any g_X10_all g_X10_compares g_X10_sum g_X10_times g_X10_one g_X10_opens hg_X10_any hg_X10_all hg_X10_compares hg_X10_sum hg_X10_times hg_X10_one hg_X10_opens C (1 : Int32) s9
      · refine r_aldn (pc := 65) C dX10_opens_65 0 rfl ?_
        refine k_X10_look (x := x) (pc := 66)  C gX10_opens_X10_look (by omega)  (Nat.le_of_ble_eq_true rfl) dX10_opens_66 (fun r12 s11 => ?_)
        refine r_bipush (pc := 69) (v := (41 : Int32)) C dX10_opens_69 bp_41 ?_
        refine r_iceq (pc := 71) (tgt := 78) C dX10_opens_71 (by decide) ?_ ?_
        · refine r_iconst (pc := 78) (v := (0 : Int32)) C dX10_opens_78 ic_0 ?_
          refine r_sub (lv' := [(0, _)]) [0] rfl ?_
          exact v_X10_opens_79 (x := x) d g_X10_any g_X10_all g_X10_compares g_X10_sum g_X10_times g_X10_one g_X10_opens hg_X10_any hg_X10_all hg_X10_compares hg_X10_sum hg_X10_times hg_X10_one hg_X10_opens C (0 : Int32) s11
        · refine r_iconst (pc := 74) (v := (1 : Int32)) C dX10_opens_74 ic_1 ?_
          refine r_goto (pc := 75) (tgt := 79) C dX10_opens_75 (by decide) ?_
          refine r_sub (lv' := [(0, _)]) [0] rfl ?_
          exact v_X10_opens_79 (x := x) d g_X10_any g_X10_all g_X10_compares g_X10_sum g_X10_times g_X10_one g_X10_opens hg_X10_any hg_X10_all hg_X10_compares hg_X10_sum hg_X10_times hg_X10_one hg_X10_opens C (1 : Int32) s11
    · refine r_aldn (pc := 40) C dX10_opens_40 0 rfl ?_
      refine r_cVv (pc := 41) (As := []) (na := 0) (j := 0) (ci := 10) C (fun l => hg_X10_one l  s8) gX10_opens_X10_one rfl (by decide +kernel) rfl (by decide) (by omega) (by show 0 < 14; decide) rfl rfl rfl rfl (Nat.le_of_ble_eq_true rfl) dX10_opens_41 (fun _ s13 => ?_)
      refine r_aldn (pc := 44) C dX10_opens_44 0 rfl ?_
      refine r_iconst (pc := 45) (v := (3 : Int32)) C dX10_opens_45 ic_3 ?_
      refine r_iconst (pc := 46) (v := (0 : Int32)) C dX10_opens_46 ic_0 ?_
      refine k_X10_step (x := x) (pc := 47) (a1 := (3 : Int32)) (a2 := (0 : Int32)) C gX10_opens_X10_step (by omega)  (Nat.le_of_ble_eq_true rfl) dX10_opens_47 (fun _ s15 => ?_)
      refine r_goto (pc := 50) (tgt := 103) C dX10_opens_50 (by decide) ?_
      refine r_aldn (pc := 103) C dX10_opens_103 0 rfl ?_
      refine r_dup (pc := 104) C dX10_opens_104 rfl ?_
      refine gf_X10_14_0 (pc := 105) C hi_X10_opens_X10 wd_X10_opens_1 dX10_opens_105 ?_
      refine r_iconst (pc := 108) (v := (1 : Int32)) C dX10_opens_108 ic_1 ?_
      refine r_isub (pc := 109) C dX10_opens_109 ?_
      refine pf_X10_14_0 (pc := 110) C hi_X10_opens_X10 wd_X10_opens_1 dX10_opens_110 (fun s17 => ?_)
      exact r_vret (pc := 113) C dX10_opens_113
  · refine r_aldn (pc := 8) C dX10_opens_8 0 rfl ?_
    refine r_iconst (pc := 9) (v := (1 : Int32)) C dX10_opens_9 ic_1 ?_
    refine pf_X10_15_0 (pc := 10) C hi_X10_opens_X10 wd_X10_opens_2 (isb_nar (by decide)) dX10_opens_10 (fun s18 => ?_)
    exact r_vret (pc := 13) C dX10_opens_13
theorem mg_X10_any (x : oXp) (hI : oI (oM x)) : ∀ d : Nat, (∀ (l : Launch) (σ : Sg), oMV l yX10_any wsX10_any (5 + d) (oM x) [.ref (xa x 0)] σ ((G_X10_any d).1  σ)) ∧ (∀ (l : Launch) (σ : Sg), oMV l yX10_all wsX10_all (5 + d) (oM x) [.ref (xa x 0)] σ ((G_X10_any d).2.1  σ)) ∧ (∀ (l : Launch) (σ : Sg), oMV l yX10_compares wsX10_compares (5 + d) (oM x) [.ref (xa x 0)] σ ((G_X10_any d).2.2.1  σ)) ∧ (∀ (l : Launch) (σ : Sg), oMV l yX10_sum wsX10_sum (5 + d) (oM x) [.ref (xa x 0)] σ ((G_X10_any d).2.2.2.1  σ)) ∧ (∀ (l : Launch) (σ : Sg), oMV l yX10_times wsX10_times (5 + d) (oM x) [.ref (xa x 0)] σ ((G_X10_any d).2.2.2.2.1  σ)) ∧ (∀ (l : Launch) (σ : Sg), oMV l yX10_one wsX10_one (5 + d) (oM x) [.ref (xa x 0)] σ ((G_X10_any d).2.2.2.2.2.1  σ)) ∧ (∀ (l : Launch) (a1 : Int32) (σ : Sg), oMV l yX10_opens wsX10_opens (5 + d) (oM x) [.ref (xa x 0), .int a1] σ ((G_X10_any d).2.2.2.2.2.2 a1 σ)) := by
  intro d
  induction d with
  | zero => exact ⟨(by intros; intro _ _ h; cases h), (by intros; intro _ _ h; cases h), (by intros; intro _ _ h; cases h), (by intros; intro _ _ h; cases h), (by intros; intro _ _ h; cases h), (by intros; intro _ _ h; cases h), (by intros; intro _ _ h; cases h)⟩
  | succ d ih => exact ⟨(fun l => m_X10_any l x hI d _ _ _ _ _ _ _ ih.1 ih.2.1 ih.2.2.1 ih.2.2.2.1 ih.2.2.2.2.1 ih.2.2.2.2.2.1 ih.2.2.2.2.2.2), (fun l => m_X10_all l x hI d _ _ _ _ _ _ _ ih.1 ih.2.1 ih.2.2.1 ih.2.2.2.1 ih.2.2.2.2.1 ih.2.2.2.2.2.1 ih.2.2.2.2.2.2), (fun l => m_X10_compares l x hI d _ _ _ _ _ _ _ ih.1 ih.2.1 ih.2.2.1 ih.2.2.2.1 ih.2.2.2.2.1 ih.2.2.2.2.2.1 ih.2.2.2.2.2.2), (fun l => m_X10_sum l x hI d _ _ _ _ _ _ _ ih.1 ih.2.1 ih.2.2.1 ih.2.2.2.1 ih.2.2.2.2.1 ih.2.2.2.2.2.1 ih.2.2.2.2.2.2), (fun l => m_X10_times l x hI d _ _ _ _ _ _ _ ih.1 ih.2.1 ih.2.2.1 ih.2.2.2.1 ih.2.2.2.2.1 ih.2.2.2.2.2.1 ih.2.2.2.2.2.2), (fun l => m_X10_one l x hI d _ _ _ _ _ _ _ ih.1 ih.2.1 ih.2.2.1 ih.2.2.2.1 ih.2.2.2.2.1 ih.2.2.2.2.2.1 ih.2.2.2.2.2.2), (fun l => m_X10_opens l x hI d _ _ _ _ _ _ _ ih.1 ih.2.1 ih.2.2.1 ih.2.2.2.1 ih.2.2.2.2.1 ih.2.2.2.2.2.1 ih.2.2.2.2.2.2)⟩
theorem mm_X10_any (l : Launch) (x : oXp) (hI : oI (oM x))  (σ : Sg) : oMV l yX10_any wsX10_any 69 (oM x) [.ref (xa x 0)] σ (f_X10_any  σ) := (mg_X10_any x hI 64).1 l  σ
theorem mm_X10_all (l : Launch) (x : oXp) (hI : oI (oM x))  (σ : Sg) : oMV l yX10_all wsX10_all 69 (oM x) [.ref (xa x 0)] σ (f_X10_all  σ) := (mg_X10_any x hI 64).2.1 l  σ
theorem mm_X10_compares (l : Launch) (x : oXp) (hI : oI (oM x))  (σ : Sg) : oMV l yX10_compares wsX10_compares 69 (oM x) [.ref (xa x 0)] σ (f_X10_compares  σ) := (mg_X10_any x hI 64).2.2.1 l  σ
theorem mm_X10_sum (l : Launch) (x : oXp) (hI : oI (oM x))  (σ : Sg) : oMV l yX10_sum wsX10_sum 69 (oM x) [.ref (xa x 0)] σ (f_X10_sum  σ) := (mg_X10_any x hI 64).2.2.2.1 l  σ
theorem mm_X10_times (l : Launch) (x : oXp) (hI : oI (oM x))  (σ : Sg) : oMV l yX10_times wsX10_times 69 (oM x) [.ref (xa x 0)] σ (f_X10_times  σ) := (mg_X10_any x hI 64).2.2.2.2.1 l  σ
theorem mm_X10_one (l : Launch) (x : oXp) (hI : oI (oM x))  (σ : Sg) : oMV l yX10_one wsX10_one 69 (oM x) [.ref (xa x 0)] σ (f_X10_one  σ) := (mg_X10_any x hI 64).2.2.2.2.2.1 l  σ
theorem mm_X10_opens (l : Launch) (x : oXp) (hI : oI (oM x)) (a1 : Int32) (σ : Sg) : oMV l yX10_opens wsX10_opens 69 (oM x) [.ref (xa x 0), .int a1] σ (f_X10_opens a1 σ) := (mg_X10_any x hI 64).2.2.2.2.2.2 l a1 σ
theorem k_X10_any {κ : oK} {nL : Nat} {cc : ByteArray} {own : String} {Ts : List Cond} {n : Nat} {ret : Option FieldType} {α : Type} {Q : α → Sg → State → Prop} {σ : Sg} {pc : Nat} {lv : List (Nat × Value)} {st : List Value} {x : oXp} {idx : Nat}  {K : Unit → Sg → Option (α × Sg)} (C : oC κ (oM x) nL cc own Ts n ret) (hG : GoodIn Ts (wsV own idx RX10 yX10_any wsX10_any)) (hn : 69 + 1 ≤ n) (hst : (st.map fun v => v.category).sum ≤ 8) (hd : decode cc pc = .ok (.invokevirtual idx, 3)) (kk : ∀ (r1 : Unit) (σ1 : Sg), oV κ (oM x) nL Q σ1 (pc + 3) lv (st) (K r1 σ1)) : oV κ (oM x) nL Q σ pc lv (.ref (xa x 0) :: st) (bnd (f_X10_any  σ) K) := by
  have hI : oI (oM x) := oC_I C
  exact r_cVv (As := []) (na := 0) (j := 0) (ci := 10) C (fun l => mm_X10_any l x hI  σ) hG rfl (by decide +kernel) rfl (by decide) hn (by show 0 < 14; decide) rfl rfl rfl rfl hst hd kk
set_option maxHeartbeats 4000000 in
set_option maxRecDepth 100000 in
theorem m_X10_begins (l : Launch) (x : oXp) (hI : oI (oM x)) (a1 : Int32) (σ : Sg) : oMV l yX10_begins wsX10_begins 3 (oM x) [.ref (xa x 0), .int a1] σ (f_X10_begins  a1 σ) := by
  refine oMV_of (nL := 2) (cc := cX10_begins) hI (by decide +kernel) rfl (Nat.le_of_ble_eq_true rfl) ?_
  intro κ C
  have C : oC κ (oM x) 2 cX10_begins RX10 wsX10_begins 3 none := C
  unfold f_X10_begins
  show oV κ (oM x) 2 (oQv κ (oM x)) σ 0 [(0, .ref (xa x 0)), (1, .int a1)] [] _
  refine r_aldn (pc := 0) C dX10_begins_0 0 rfl ?_
  refine gf_X10_19_0 (pc := 1) C hi_X10_begins_X10 wd_X10_begins_1 dX10_begins_1 ?_
  refine r_bipush (pc := 4) (v := (30 : Int32)) C dX10_begins_4 bp_30 ?_
  refine r_icge (pc := 6) (tgt := 29) C dX10_begins_6 (by decide) ?_ ?_
  · exact r_vret (pc := 29) C dX10_begins_29
  · refine r_aldn (pc := 9) C dX10_begins_9 0 rfl ?_
    refine gf_X10_18_0 (pc := 10) C hi_X10_begins_X10 wd_X10_begins_2 dX10_begins_10 ?_
    refine r_aldn (pc := 13) C dX10_begins_13 0 rfl ?_
    refine gf_X10_19_0 (pc := 14) C hi_X10_begins_X10 wd_X10_begins_1 dX10_begins_14 ?_
    refine r_ildn (pc := 17) C dX10_begins_17 1 rfl ?_
    refine iast_oM_13 (pc := 18) C dX10_begins_18 (fun s1 => ?_)
    refine r_aldn (pc := 19) C dX10_begins_19 0 rfl ?_
    refine r_dup (pc := 20) C dX10_begins_20 rfl ?_
    refine gf_X10_19_0 (pc := 21) C hi_X10_begins_X10 wd_X10_begins_1 dX10_begins_21 ?_
    refine r_iconst (pc := 24) (v := (1 : Int32)) C dX10_begins_24 ic_1 ?_
    refine r_iadd (pc := 25) C dX10_begins_25 ?_
    refine pf_X10_19_0 (pc := 26) C hi_X10_begins_X10 wd_X10_begins_1 dX10_begins_26 (fun s2 => ?_)
    exact r_vret (pc := 29) C dX10_begins_29
theorem k_X10_begins {κ : oK} {nL : Nat} {cc : ByteArray} {own : String} {Ts : List Cond} {n : Nat} {ret : Option FieldType} {α : Type} {Q : α → Sg → State → Prop} {σ : Sg} {pc : Nat} {lv : List (Nat × Value)} {st : List Value} {x : oXp} {idx : Nat} {a1 : Int32} {K : Unit → Sg → Option (α × Sg)} (C : oC κ (oM x) nL cc own Ts n ret) (hG : GoodIn Ts (wsV own idx RX10 yX10_begins wsX10_begins)) (hn : 3 + 1 ≤ n) (hst : (st.map fun v => v.category).sum ≤ 8) (hd : decode cc pc = .ok (.invokevirtual idx, 3)) (kk : ∀ (r1 : Unit) (σ1 : Sg), oV κ (oM x) nL Q σ1 (pc + 3) lv (st) (K r1 σ1)) : oV κ (oM x) nL Q σ pc lv (.int a1 :: .ref (xa x 0) :: st) (bnd (f_X10_begins a1 σ) K) := by
  have hI : oI (oM x) := oC_I C
  exact r_cVv (As := [.int a1]) (na := 1) (j := 0) (ci := 10) C (fun l => m_X10_begins l x hI a1 σ) hG rfl (by decide +kernel) rfl (by decide) hn (by show 0 < 14; decide) rfl rfl rfl rfl hst hd kk
set_option maxHeartbeats 4000000 in
set_option maxRecDepth 100000 in
theorem m_X10_it (l : Launch) (x : oXp) (hI : oI (oM x)) (a1 : Int32) (a2 : Int32) (σ : Sg) : oMI l yX10_it wsX10_it 3 (oM x) [.ref (xa x 0), .int a1, .int a2] σ (f_X10_it  a1 a2 σ) := by
  refine oMI_of (nL := 3) (cc := cX10_it) hI (by decide +kernel) rfl (Nat.le_of_ble_eq_true rfl) ?_
  intro κ C
  have C : oC κ (oM x) 3 cX10_it RX10 wsX10_it 3 (some .int) := C
  unfold f_X10_it
  show oV κ (oM x) 3 (oQi κ (oM x)) σ 0 [(0, .ref (xa x 0)), (1, .int a1), (2, .int a2)] [] _
  refine r_aldn (pc := 0) C dX10_it_0 0 rfl ?_
  refine gf_X10_0_0 (pc := 1) C hi_X10_it_X10 wd_X10_it_1 dX10_it_1 ?_
  refine r_bipush (pc := 4) (v := (12 : Int32)) C dX10_it_4 bp_12 ?_
  refine r_bipush (pc := 6) (v := (7 : Int32)) C dX10_it_6 bp_7 ?_
  refine r_ildn (pc := 8) C dX10_it_8 1 rfl ?_
  refine r_imul (pc := 9) C dX10_it_9 ?_
  refine r_iadd (pc := 10) C dX10_it_10 ?_
  refine r_ildn (pc := 11) C dX10_it_11 2 rfl ?_
  refine r_iadd (pc := 12) C dX10_it_12 ?_
  refine iald_oM_1 (pc := 13) C dX10_it_13 ?_
  exact r_iret (pc := 14) C dX10_it_14
theorem k_X10_it {κ : oK} {nL : Nat} {cc : ByteArray} {own : String} {Ts : List Cond} {n : Nat} {ret : Option FieldType} {α : Type} {Q : α → Sg → State → Prop} {σ : Sg} {pc : Nat} {lv : List (Nat × Value)} {st : List Value} {x : oXp} {idx : Nat} {a1 : Int32} {a2 : Int32} {K : Int32 → Sg → Option (α × Sg)} (C : oC κ (oM x) nL cc own Ts n ret) (hG : GoodIn Ts (wsV own idx RX10 yX10_it wsX10_it)) (hn : 3 + 1 ≤ n) (hst : (st.map fun v => v.category).sum ≤ 8) (hd : decode cc pc = .ok (.invokevirtual idx, 3)) (kk : ∀ (r1 : Int32) (σ1 : Sg), oV κ (oM x) nL Q σ1 (pc + 3) lv (.int r1 :: st) (K r1 σ1)) : oV κ (oM x) nL Q σ pc lv (.int a2 :: .int a1 :: .ref (xa x 0) :: st) (bnd (f_X10_it a1 a2 σ) K) := by
  have hI : oI (oM x) := oC_I C
  exact r_cVi (As := [.int a1, .int a2]) (na := 2) (j := 0) (ci := 10) C (fun l => m_X10_it l x hI a1 a2 σ) hG rfl (by decide +kernel) rfl (by decide) hn (by show 0 < 14; decide) rfl rfl rfl rfl hst hd kk
set_option maxHeartbeats 4000000 in
set_option maxRecDepth 100000 in
theorem m_X10_plainSqueaks (l : Launch) (x : oXp) (hI : oI (oM x)) (a1 : Int32) (a2 : Int32) (σ : Sg) : oMI l yX10_plainSqueaks wsX10_plainSqueaks 4 (oM x) [.ref (xa x 0), .int a1, .int a2] σ (f_X10_plainSqueaks  a1 a2 σ) := by
  refine oMI_of (nL := 3) (cc := cX10_plainSqueaks) hI (by decide +kernel) rfl (Nat.le_of_ble_eq_true rfl) ?_
  intro κ C
  have C : oC κ (oM x) 3 cX10_plainSqueaks RX10 wsX10_plainSqueaks 4 (some .int) := C
  unfold f_X10_plainSqueaks
  show oV κ (oM x) 3 (oQi κ (oM x)) σ 0 [(0, .ref (xa x 0)), (1, .int a1), (2, .int a2)] [] _
  refine r_aldn (pc := 0) C dX10_plainSqueaks_0 0 rfl ?_
  refine r_bipush (pc := 1) (v := (10 : Int32)) C dX10_plainSqueaks_1 bp_10 ?_
  refine k_X10_begins (x := x) (pc := 3) (a1 := (10 : Int32)) C gX10_plainSqueaks_X10_begins (by omega)  (Nat.le_of_ble_eq_true rfl) dX10_plainSqueaks_3 (fun _ s1 => ?_)
  refine r_ildn (pc := 6) C dX10_plainSqueaks_6 2 rfl ?_
  refine r_ildn (pc := 7) C dX10_plainSqueaks_7 1 rfl ?_
  refine r_iadd (pc := 8) C dX10_plainSqueaks_8 ?_
  exact r_iret (pc := 9) C dX10_plainSqueaks_9
theorem k_X10_plainSqueaks {κ : oK} {nL : Nat} {cc : ByteArray} {own : String} {Ts : List Cond} {n : Nat} {ret : Option FieldType} {α : Type} {Q : α → Sg → State → Prop} {σ : Sg} {pc : Nat} {lv : List (Nat × Value)} {st : List Value} {x : oXp} {idx : Nat} {a1 : Int32} {a2 : Int32} {K : Int32 → Sg → Option (α × Sg)} (C : oC κ (oM x) nL cc own Ts n ret) (hG : GoodIn Ts (wsV own idx RX10 yX10_plainSqueaks wsX10_plainSqueaks)) (hn : 4 + 1 ≤ n) (hst : (st.map fun v => v.category).sum ≤ 8) (hd : decode cc pc = .ok (.invokevirtual idx, 3)) (kk : ∀ (r1 : Int32) (σ1 : Sg), oV κ (oM x) nL Q σ1 (pc + 3) lv (.int r1 :: st) (K r1 σ1)) : oV κ (oM x) nL Q σ pc lv (.int a2 :: .int a1 :: .ref (xa x 0) :: st) (bnd (f_X10_plainSqueaks a1 a2 σ) K) := by
  have hI : oI (oM x) := oC_I C
  exact r_cVi (As := [.int a1, .int a2]) (na := 2) (j := 0) (ci := 10) C (fun l => m_X10_plainSqueaks l x hI a1 a2 σ) hG rfl (by decide +kernel) rfl (by decide) hn (by show 0 < 14; decide) rfl rfl rfl rfl hst hd kk
set_option maxHeartbeats 4000000 in
set_option maxRecDepth 100000 in
theorem m_X10_sumSqueaks (l : Launch) (x : oXp) (hI : oI (oM x)) (a1 : Int32) (a2 : Int32) (σ : Sg) : oMI l yX10_sumSqueaks wsX10_sumSqueaks 5 (oM x) [.ref (xa x 0), .int a1, .int a2] σ (f_X10_sumSqueaks  a1 a2 σ) := by
  refine oMI_of (nL := 3) (cc := cX10_sumSqueaks) hI (by decide +kernel) rfl (Nat.le_of_ble_eq_true rfl) ?_
  intro κ C
  have C : oC κ (oM x) 3 cX10_sumSqueaks RX10 wsX10_sumSqueaks 5 (some .int) := C
  unfold f_X10_sumSqueaks
  show oV κ (oM x) 3 (oQi κ (oM x)) σ 0 [(0, .ref (xa x 0)), (1, .int a1), (2, .int a2)] [] _
  refine r_aldn (pc := 0) C dX10_sumSqueaks_0 0 rfl ?_
  refine r_bipush (pc := 1) (v := (20 : Int32)) C dX10_sumSqueaks_1 bp_20 ?_
  refine k_X10_begins (x := x) (pc := 3) (a1 := (20 : Int32)) C gX10_sumSqueaks_X10_begins (by omega)  (Nat.le_of_ble_eq_true rfl) dX10_sumSqueaks_3 (fun _ s1 => ?_)
  refine r_aldn (pc := 6) C dX10_sumSqueaks_6 0 rfl ?_
  refine r_ildn (pc := 7) C dX10_sumSqueaks_7 1 rfl ?_
  refine r_ildn (pc := 8) C dX10_sumSqueaks_8 2 rfl ?_
  refine k_X10_plainSqueaks (x := x) (pc := 9) (a1 := a1) (a2 := a2) C gX10_sumSqueaks_X10_plainSqueaks (by omega)  (Nat.le_of_ble_eq_true rfl) dX10_sumSqueaks_9 (fun r4 s3 => ?_)
  refine r_iconst (pc := 12) (v := (4 : Int32)) C dX10_sumSqueaks_12 ic_4 ?_
  refine r_isub (pc := 13) C dX10_sumSqueaks_13 ?_
  exact r_iret (pc := 14) C dX10_sumSqueaks_14
theorem k_X10_sumSqueaks {κ : oK} {nL : Nat} {cc : ByteArray} {own : String} {Ts : List Cond} {n : Nat} {ret : Option FieldType} {α : Type} {Q : α → Sg → State → Prop} {σ : Sg} {pc : Nat} {lv : List (Nat × Value)} {st : List Value} {x : oXp} {idx : Nat} {a1 : Int32} {a2 : Int32} {K : Int32 → Sg → Option (α × Sg)} (C : oC κ (oM x) nL cc own Ts n ret) (hG : GoodIn Ts (wsV own idx RX10 yX10_sumSqueaks wsX10_sumSqueaks)) (hn : 5 + 1 ≤ n) (hst : (st.map fun v => v.category).sum ≤ 8) (hd : decode cc pc = .ok (.invokevirtual idx, 3)) (kk : ∀ (r1 : Int32) (σ1 : Sg), oV κ (oM x) nL Q σ1 (pc + 3) lv (.int r1 :: st) (K r1 σ1)) : oV κ (oM x) nL Q σ pc lv (.int a2 :: .int a1 :: .ref (xa x 0) :: st) (bnd (f_X10_sumSqueaks a1 a2 σ) K) := by
  have hI : oI (oM x) := oC_I C
  exact r_cVi (As := [.int a1, .int a2]) (na := 2) (j := 0) (ci := 10) C (fun l => m_X10_sumSqueaks l x hI a1 a2 σ) hG rfl (by decide +kernel) rfl (by decide) hn (by show 0 < 14; decide) rfl rfl rfl rfl hst hd kk
set_option maxHeartbeats 4000000 in
set_option maxRecDepth 100000 in
theorem m_X10_squeaks (l : Launch) (x : oXp) (hI : oI (oM x)) (a1 : Int32) (a2 : Int32) (σ : Sg) : oMI l yX10_squeaks wsX10_squeaks 6 (oM x) [.ref (xa x 0), .int a1, .int a2] σ (f_X10_squeaks  a1 a2 σ) := by
  refine oMI_of (nL := 3) (cc := cX10_squeaks) hI (by decide +kernel) rfl (Nat.le_of_ble_eq_true rfl) ?_
  intro κ C
  have C : oC κ (oM x) 3 cX10_squeaks RX10 wsX10_squeaks 6 (some .int) := C
  unfold f_X10_squeaks
  show oV κ (oM x) 3 (oQi κ (oM x)) σ 0 [(0, .ref (xa x 0)), (1, .int a1), (2, .int a2)] [] _
  refine r_aldn (pc := 0) C dX10_squeaks_0 0 rfl ?_
  refine r_ildn (pc := 1) C dX10_squeaks_1 1 rfl ?_
  refine r_iconst (pc := 2) (v := (0 : Int32)) C dX10_squeaks_2 ic_0 ?_
  refine k_X10_it (x := x) (pc := 3) (a1 := a1) (a2 := (0 : Int32)) C gX10_squeaks_X10_it (by omega)  (Nat.le_of_ble_eq_true rfl) dX10_squeaks_3 (fun r2 s1 => ?_)
  refine r_ite (fun c3 => ?_) (fun c3 => ?_)
  · refine r_lookE (pc := 6) (v := (1 : Int32)) (off := 34) (tgt := 40) C dX10_squeaks_6 (by decide) c3 (by decide) (by decide) ?_
    refine r_aldn (pc := 40) C dX10_squeaks_40 0 rfl ?_
    refine r_ildn (pc := 41) C dX10_squeaks_41 1 rfl ?_
    refine r_ildn (pc := 42) C dX10_squeaks_42 2 rfl ?_
    refine k_X10_sumSqueaks (x := x) (pc := 43) (a1 := a1) (a2 := a2) C gX10_squeaks_X10_sumSqueaks (by omega)  (Nat.le_of_ble_eq_true rfl) dX10_squeaks_43 (fun r5 s4 => ?_)
    exact r_iret (pc := 46) C dX10_squeaks_46
  · refine r_ite (fun c6 => ?_) (fun c6 => ?_)
    · refine r_lookE (pc := 6) (v := (4 : Int32)) (off := 41) (tgt := 47) C dX10_squeaks_6 (by decide) c6 (by decide) (by decide) ?_
      refine r_aldn (pc := 47) C dX10_squeaks_47 0 rfl ?_
      refine r_bipush (pc := 48) (v := (50 : Int32)) C dX10_squeaks_48 bp_50 ?_
      refine k_X10_begins (x := x) (pc := 50) (a1 := (50 : Int32)) C gX10_squeaks_X10_begins (by omega)  (Nat.le_of_ble_eq_true rfl) dX10_squeaks_50 (fun _ s7 => ?_)
      refine r_aldn (pc := 53) C dX10_squeaks_53 0 rfl ?_
      refine r_ildn (pc := 54) C dX10_squeaks_54 1 rfl ?_
      refine r_ildn (pc := 55) C dX10_squeaks_55 2 rfl ?_
      refine k_X10_sumSqueaks (x := x) (pc := 56) (a1 := a1) (a2 := a2) C gX10_squeaks_X10_sumSqueaks (by omega)  (Nat.le_of_ble_eq_true rfl) dX10_squeaks_56 (fun r10 s9 => ?_)
      refine r_iconst (pc := 59) (v := (3 : Int32)) C dX10_squeaks_59 ic_3 ?_
      refine r_imul (pc := 60) C dX10_squeaks_60 ?_
      exact r_iret (pc := 61) C dX10_squeaks_61
    · refine r_ite (fun c11 => ?_) (fun c11 => ?_)
      · refine r_lookE (pc := 6) (v := (6 : Int32)) (off := 56) (tgt := 62) C dX10_squeaks_6 (by decide) c11 (by decide) (by decide) ?_
        refine r_aldn (pc := 62) C dX10_squeaks_62 0 rfl ?_
        refine r_bipush (pc := 63) (v := (70 : Int32)) C dX10_squeaks_63 bp_70 ?_
        refine k_X10_begins (x := x) (pc := 65) (a1 := (70 : Int32)) C gX10_squeaks_X10_begins (by omega)  (Nat.le_of_ble_eq_true rfl) dX10_squeaks_65 (fun _ s12 => ?_)
        refine r_bipush (pc := 68) (v := (9 : Int32)) C dX10_squeaks_68 bp_9 ?_
        exact r_iret (pc := 70) C dX10_squeaks_70
      · refine r_lookO (pc := 6) (off := 65) (tgt := 71) C dX10_squeaks_6 (by decide) ((lv_osw (k := (1 : Int32)) c3 (by decide)).trans ((lv_osw (k := (4 : Int32)) c6 (by decide)).trans ((lv_osw (k := (6 : Int32)) c11 (by decide)).trans rfl))) (by decide) ?_
        refine r_aldn (pc := 71) C dX10_squeaks_71 0 rfl ?_
        refine r_ildn (pc := 72) C dX10_squeaks_72 1 rfl ?_
        refine r_ildn (pc := 73) C dX10_squeaks_73 2 rfl ?_
        refine k_X10_plainSqueaks (x := x) (pc := 74) (a1 := a1) (a2 := a2) C gX10_squeaks_X10_plainSqueaks (by omega)  (Nat.le_of_ble_eq_true rfl) dX10_squeaks_74 (fun r15 s14 => ?_)
        exact r_iret (pc := 77) C dX10_squeaks_77
theorem k_X10_squeaks {κ : oK} {nL : Nat} {cc : ByteArray} {own : String} {Ts : List Cond} {n : Nat} {ret : Option FieldType} {α : Type} {Q : α → Sg → State → Prop} {σ : Sg} {pc : Nat} {lv : List (Nat × Value)} {st : List Value} {x : oXp} {idx : Nat} {a1 : Int32} {a2 : Int32} {K : Int32 → Sg → Option (α × Sg)} (C : oC κ (oM x) nL cc own Ts n ret) (hG : GoodIn Ts (wsV own idx RX10 yX10_squeaks wsX10_squeaks)) (hn : 6 + 1 ≤ n) (hst : (st.map fun v => v.category).sum ≤ 8) (hd : decode cc pc = .ok (.invokevirtual idx, 3)) (kk : ∀ (r1 : Int32) (σ1 : Sg), oV κ (oM x) nL Q σ1 (pc + 3) lv (.int r1 :: st) (K r1 σ1)) : oV κ (oM x) nL Q σ pc lv (.int a2 :: .int a1 :: .ref (xa x 0) :: st) (bnd (f_X10_squeaks a1 a2 σ) K) := by
  have hI : oI (oM x) := oC_I C
  exact r_cVi (As := [.int a1, .int a2]) (na := 2) (j := 0) (ci := 10) C (fun l => m_X10_squeaks l x hI a1 a2 σ) hG rfl (by decide +kernel) rfl (by decide) hn (by show 0 < 14; decide) rfl rfl rfl rfl hst hd kk
set_option maxHeartbeats 4000000 in
set_option maxRecDepth 100000 in
theorem m_X10_plainSmears (l : Launch) (x : oXp) (hI : oI (oM x)) (a1 : Int32) (a2 : Int32) (σ : Sg) : oMI l yX10_plainSmears wsX10_plainSmears 7 (oM x) [.ref (xa x 0), .int a1, .int a2] σ (f_X10_plainSmears  a1 a2 σ) := by
  refine oMI_of (nL := 3) (cc := cX10_plainSmears) hI (by decide +kernel) rfl (Nat.le_of_ble_eq_true rfl) ?_
  intro κ C
  have C : oC κ (oM x) 3 cX10_plainSmears RX10 wsX10_plainSmears 7 (some .int) := C
  unfold f_X10_plainSmears
  show oV κ (oM x) 3 (oQi κ (oM x)) σ 0 [(0, .ref (xa x 0)), (1, .int a1), (2, .int a2)] [] _
  refine r_aldn (pc := 0) C dX10_plainSmears_0 0 rfl ?_
  refine r_bipush (pc := 1) (v := (11 : Int32)) C dX10_plainSmears_1 bp_11 ?_
  refine k_X10_begins (x := x) (pc := 3) (a1 := (11 : Int32)) C gX10_plainSmears_X10_begins (by omega)  (Nat.le_of_ble_eq_true rfl) dX10_plainSmears_3 (fun _ s1 => ?_)
  refine r_aldn (pc := 6) C dX10_plainSmears_6 0 rfl ?_
  refine r_ildn (pc := 7) C dX10_plainSmears_7 1 rfl ?_
  refine r_ildn (pc := 8) C dX10_plainSmears_8 2 rfl ?_
  refine k_X10_squeaks (x := x) (pc := 9) (a1 := a1) (a2 := a2) C gX10_plainSmears_X10_squeaks (by omega)  (Nat.le_of_ble_eq_true rfl) dX10_plainSmears_9 (fun r4 s3 => ?_)
  refine r_iconst (pc := 12) (v := (2 : Int32)) C dX10_plainSmears_12 ic_2 ?_
  refine r_imul (pc := 13) C dX10_plainSmears_13 ?_
  exact r_iret (pc := 14) C dX10_plainSmears_14
theorem k_X10_plainSmears {κ : oK} {nL : Nat} {cc : ByteArray} {own : String} {Ts : List Cond} {n : Nat} {ret : Option FieldType} {α : Type} {Q : α → Sg → State → Prop} {σ : Sg} {pc : Nat} {lv : List (Nat × Value)} {st : List Value} {x : oXp} {idx : Nat} {a1 : Int32} {a2 : Int32} {K : Int32 → Sg → Option (α × Sg)} (C : oC κ (oM x) nL cc own Ts n ret) (hG : GoodIn Ts (wsV own idx RX10 yX10_plainSmears wsX10_plainSmears)) (hn : 7 + 1 ≤ n) (hst : (st.map fun v => v.category).sum ≤ 8) (hd : decode cc pc = .ok (.invokevirtual idx, 3)) (kk : ∀ (r1 : Int32) (σ1 : Sg), oV κ (oM x) nL Q σ1 (pc + 3) lv (.int r1 :: st) (K r1 σ1)) : oV κ (oM x) nL Q σ pc lv (.int a2 :: .int a1 :: .ref (xa x 0) :: st) (bnd (f_X10_plainSmears a1 a2 σ) K) := by
  have hI : oI (oM x) := oC_I C
  exact r_cVi (As := [.int a1, .int a2]) (na := 2) (j := 0) (ci := 10) C (fun l => m_X10_plainSmears l x hI a1 a2 σ) hG rfl (by decide +kernel) rfl (by decide) hn (by show 0 < 14; decide) rfl rfl rfl rfl hst hd kk
set_option maxHeartbeats 4000000 in
set_option maxRecDepth 100000 in
theorem m_X10_arrowSmears (l : Launch) (x : oXp) (hI : oI (oM x)) (a1 : Int32) (a2 : Int32) (σ : Sg) : oMI l yX10_arrowSmears wsX10_arrowSmears 8 (oM x) [.ref (xa x 0), .int a1, .int a2] σ (f_X10_arrowSmears  a1 a2 σ) := by
  refine oMI_of (nL := 3) (cc := cX10_arrowSmears) hI (by decide +kernel) rfl (Nat.le_of_ble_eq_true rfl) ?_
  intro κ C
  have C : oC κ (oM x) 3 cX10_arrowSmears RX10 wsX10_arrowSmears 8 (some .int) := C
  unfold f_X10_arrowSmears
  show oV κ (oM x) 3 (oQi κ (oM x)) σ 0 [(0, .ref (xa x 0)), (1, .int a1), (2, .int a2)] [] _
  refine r_aldn (pc := 0) C dX10_arrowSmears_0 0 rfl ?_
  refine r_bipush (pc := 1) (v := (30 : Int32)) C dX10_arrowSmears_1 bp_30 ?_
  refine k_X10_begins (x := x) (pc := 3) (a1 := (30 : Int32)) C gX10_arrowSmears_X10_begins (by omega)  (Nat.le_of_ble_eq_true rfl) dX10_arrowSmears_3 (fun _ s1 => ?_)
  refine r_aldn (pc := 6) C dX10_arrowSmears_6 0 rfl ?_
  refine r_ildn (pc := 7) C dX10_arrowSmears_7 1 rfl ?_
  refine r_ildn (pc := 8) C dX10_arrowSmears_8 2 rfl ?_
  refine k_X10_plainSmears (x := x) (pc := 9) (a1 := a1) (a2 := a2) C gX10_arrowSmears_X10_plainSmears (by omega)  (Nat.le_of_ble_eq_true rfl) dX10_arrowSmears_9 (fun r4 s3 => ?_)
  refine r_ineg (pc := 12) C dX10_arrowSmears_12 ?_
  exact r_iret (pc := 13) C dX10_arrowSmears_13
theorem k_X10_arrowSmears {κ : oK} {nL : Nat} {cc : ByteArray} {own : String} {Ts : List Cond} {n : Nat} {ret : Option FieldType} {α : Type} {Q : α → Sg → State → Prop} {σ : Sg} {pc : Nat} {lv : List (Nat × Value)} {st : List Value} {x : oXp} {idx : Nat} {a1 : Int32} {a2 : Int32} {K : Int32 → Sg → Option (α × Sg)} (C : oC κ (oM x) nL cc own Ts n ret) (hG : GoodIn Ts (wsV own idx RX10 yX10_arrowSmears wsX10_arrowSmears)) (hn : 8 + 1 ≤ n) (hst : (st.map fun v => v.category).sum ≤ 8) (hd : decode cc pc = .ok (.invokevirtual idx, 3)) (kk : ∀ (r1 : Int32) (σ1 : Sg), oV κ (oM x) nL Q σ1 (pc + 3) lv (.int r1 :: st) (K r1 σ1)) : oV κ (oM x) nL Q σ pc lv (.int a2 :: .int a1 :: .ref (xa x 0) :: st) (bnd (f_X10_arrowSmears a1 a2 σ) K) := by
  have hI : oI (oM x) := oC_I C
  exact r_cVi (As := [.int a1, .int a2]) (na := 2) (j := 0) (ci := 10) C (fun l => m_X10_arrowSmears l x hI a1 a2 σ) hG rfl (by decide +kernel) rfl (by decide) hn (by show 0 < 14; decide) rfl rfl rfl rfl hst hd kk
set_option maxHeartbeats 4000000 in
set_option maxRecDepth 100000 in
theorem m_X10_isLine (l : Launch) (x : oXp) (hI : oI (oM x)) (a1 : Int32) (σ : Sg) : oMI l yX10_isLine wsX10_isLine 4 (oM x) [.ref (xa x 0), .int a1] σ (f_X10_isLine  a1 σ) := by
  refine oMI_of (nL := 2) (cc := cX10_isLine) hI (by decide +kernel) rfl (Nat.le_of_ble_eq_true rfl) ?_
  intro κ C
  have C : oC κ (oM x) 2 cX10_isLine RX10 wsX10_isLine 4 (some .boolean) := C
  unfold f_X10_isLine
  show oV κ (oM x) 2 (oQi κ (oM x)) σ 0 [(0, .ref (xa x 0)), (1, .int a1)] [] _
  refine r_ildn (pc := 0) C dX10_isLine_0 1 rfl ?_
  refine r_iconst (pc := 1) (v := (0 : Int32)) C dX10_isLine_1 ic_0 ?_
  refine r_aldn (pc := 2) C dX10_isLine_2 0 rfl ?_
  refine gf_X10_0_0 (pc := 3) C hi_X10_isLine_X10 wd_X10_isLine_1 dX10_isLine_3 ?_
  refine r_iconst (pc := 6) (v := (2 : Int32)) C dX10_isLine_6 ic_2 ?_
  refine iald_oM_1 (pc := 7) C dX10_isLine_7 ?_
  refine r_iconst (pc := 8) (v := (1 : Int32)) C dX10_isLine_8 ic_1 ?_
  refine r_isub (pc := 9) C dX10_isLine_9 ?_
  refine kS_X10_in (x := x) (pc := 10) (a0 := a1) (a1 := (0 : Int32)) (a2 := ((rd (σ 1) (2 : Int32)) - (1 : Int32))) C gX10_isLine_X10_in (by omega)  (Nat.le_of_ble_eq_true rfl) dX10_isLine_10 (fun r2 s1 => ?_)
  refine r_ckb (fun h3 => ?_)
  exact r_zret (pc := 13) C (isb_nar h3).1 dX10_isLine_13
theorem k_X10_isLine {κ : oK} {nL : Nat} {cc : ByteArray} {own : String} {Ts : List Cond} {n : Nat} {ret : Option FieldType} {α : Type} {Q : α → Sg → State → Prop} {σ : Sg} {pc : Nat} {lv : List (Nat × Value)} {st : List Value} {x : oXp} {idx : Nat} {a1 : Int32} {K : Int32 → Sg → Option (α × Sg)} (C : oC κ (oM x) nL cc own Ts n ret) (hG : GoodIn Ts (wsV own idx RX10 yX10_isLine wsX10_isLine)) (hn : 4 + 1 ≤ n) (hst : (st.map fun v => v.category).sum ≤ 8) (hd : decode cc pc = .ok (.invokevirtual idx, 3)) (kk : ∀ (r1 : Int32) (σ1 : Sg), oV κ (oM x) nL Q σ1 (pc + 3) lv (.int r1 :: st) (K r1 σ1)) : oV κ (oM x) nL Q σ pc lv (.int a1 :: .ref (xa x 0) :: st) (bnd (f_X10_isLine a1 σ) K) := by
  have hI : oI (oM x) := oC_I C
  exact r_cVi (As := [.int a1]) (na := 1) (j := 0) (ci := 10) C (fun l => m_X10_isLine l x hI a1 σ) hG rfl (by decide +kernel) rfl (by decide) hn (by show 0 < 14; decide) rfl rfl rfl rfl hst hd kk
set_option maxHeartbeats 4000000 in
set_option maxRecDepth 100000 in
theorem m_X10_error (l : Launch) (x : oXp) (hI : oI (oM x)) (a1 : Int32) (σ : Sg) : oMI l yX10_error wsX10_error 3 (oM x) [.ref (xa x 0), .int a1] σ (f_X10_error  a1 σ) := by
  refine oMI_of (nL := 2) (cc := cX10_error) hI (by decide +kernel) rfl (Nat.le_of_ble_eq_true rfl) ?_
  intro κ C
  have C : oC κ (oM x) 2 cX10_error RX10 wsX10_error 3 (some .int) := C
  unfold f_X10_error
  show oV κ (oM x) 2 (oQi κ (oM x)) σ 0 [(0, .ref (xa x 0)), (1, .int a1)] [] _
  refine r_aldn (pc := 0) C dX10_error_0 0 rfl ?_
  refine gf_X10_4_0 (pc := 1) C hi_X10_error_X10 wd_X10_error_1 dX10_error_1 ?_
  refine r_ldc (pc := 4) (v := (-1000000000 : Int32)) C dX10_error_4 wd_X10_error_2 ?_
  refine r_ildn (pc := 6) C dX10_error_6 1 rfl ?_
  refine r_isub (pc := 7) C dX10_error_7 ?_
  refine r_dup2 (pc := 8) C dX10_error_8 rfl rfl ?_
  refine iald_oM_4 (pc := 9) C dX10_error_9 ?_
  refine r_iconst (pc := 10) (v := (1 : Int32)) C dX10_error_10 ic_1 ?_
  refine r_iadd (pc := 11) C dX10_error_11 ?_
  refine iast_oM_4 (pc := 12) C dX10_error_12 (fun s1 => ?_)
  refine r_ildn (pc := 13) C dX10_error_13 1 rfl ?_
  exact r_iret (pc := 14) C dX10_error_14
theorem k_X10_error {κ : oK} {nL : Nat} {cc : ByteArray} {own : String} {Ts : List Cond} {n : Nat} {ret : Option FieldType} {α : Type} {Q : α → Sg → State → Prop} {σ : Sg} {pc : Nat} {lv : List (Nat × Value)} {st : List Value} {x : oXp} {idx : Nat} {a1 : Int32} {K : Int32 → Sg → Option (α × Sg)} (C : oC κ (oM x) nL cc own Ts n ret) (hG : GoodIn Ts (wsV own idx RX10 yX10_error wsX10_error)) (hn : 3 + 1 ≤ n) (hst : (st.map fun v => v.category).sum ≤ 8) (hd : decode cc pc = .ok (.invokevirtual idx, 3)) (kk : ∀ (r1 : Int32) (σ1 : Sg), oV κ (oM x) nL Q σ1 (pc + 3) lv (.int r1 :: st) (K r1 σ1)) : oV κ (oM x) nL Q σ pc lv (.int a1 :: .ref (xa x 0) :: st) (bnd (f_X10_error a1 σ) K) := by
  have hI : oI (oM x) := oC_I C
  exact r_cVi (As := [.int a1]) (na := 1) (j := 0) (ci := 10) C (fun l => m_X10_error l x hI a1 σ) hG rfl (by decide +kernel) rfl (by decide) hn (by show 0 < 14; decide) rfl rfl rfl rfl hst hd kk
set_option maxHeartbeats 4000000 in
set_option maxRecDepth 100000 in
theorem v_X10_as_66 {κ : oK} {x : oXp} (C : oC κ (oM x) 5 cX10_as RX10 wsX10_as 5 (some .int))  (a1 : Int32) (t0 : Int32) (σ : Sg) : oV κ (oM x) 5 (oQi κ (oM x)) σ 66 [(0, .ref (xa x 0)), (1, .int a1)] [.int t0] (f_X10_as_66   a1 t0 σ) := by
  unfold f_X10_as_66
  refine r_ist (pc := 66) (lv' := [(0, _), (1, _), (4, _)]) C dX10_as_66 (by decide) [1, 2, 0] rfl ?_
  refine r_ild (pc := 68) C dX10_as_68 2 rfl ?_
  refine r_ifeq (pc := 70) (tgt := 82) C dX10_as_70 (by decide) ?_ ?_
  · refine r_aldn (pc := 82) C dX10_as_82 0 rfl ?_
    refine r_ldc (pc := 83) (v := (-1000000005 : Int32)) C dX10_as_83 wd_X10_as_2 ?_
    refine k_X10_error (x := x) (pc := 85) (a1 := (-1000000005 : Int32)) C gX10_as_X10_error (by omega)  (Nat.le_of_ble_eq_true rfl) dX10_as_85 (fun r2 s1 => ?_)
    exact r_iret (pc := 88) C dX10_as_88
  · refine r_aldn (pc := 73) C dX10_as_73 0 rfl ?_
    refine r_ildn (pc := 74) C dX10_as_74 1 rfl ?_
    refine r_iconst (pc := 75) (v := (1 : Int32)) C dX10_as_75 ic_1 ?_
    refine k_X10_it (x := x) (pc := 76) (a1 := a1) (a2 := (1 : Int32)) C gX10_as_X10_it (by omega)  (Nat.le_of_ble_eq_true rfl) dX10_as_76 (fun r4 s3 => ?_)
    refine r_goto (pc := 79) (tgt := 88) C dX10_as_79 (by decide) ?_
    exact r_iret (pc := 88) C dX10_as_88
set_option maxHeartbeats 4000000 in
set_option maxRecDepth 100000 in
theorem m_X10_as (l : Launch) (x : oXp) (hI : oI (oM x)) (a1 : Int32) (a2 : Int32) (σ : Sg) : oMI l yX10_as wsX10_as 5 (oM x) [.ref (xa x 0), .int a1, .int a2] σ (f_X10_as  a1 a2 σ) := by
  refine oMI_of (nL := 5) (cc := cX10_as) hI (by decide +kernel) rfl (Nat.le_of_ble_eq_true rfl) ?_
  intro κ C
  have C : oC κ (oM x) 5 cX10_as RX10 wsX10_as 5 (some .int) := C
  unfold f_X10_as
  show oV κ (oM x) 5 (oQi κ (oM x)) σ 0 [(0, .ref (xa x 0)), (1, .int a1), (2, .int a2)] [] _
  refine r_aldn (pc := 0) C dX10_as_0 0 rfl ?_
  refine r_ildn (pc := 1) C dX10_as_1 1 rfl ?_
  refine k_X10_isLine (x := x) (pc := 2) (a1 := a1) C gX10_as_X10_isLine (by omega)  (Nat.le_of_ble_eq_true rfl) dX10_as_2 (fun r6 s5 => ?_)
  refine r_ifeq (pc := 5) (tgt := 18) C dX10_as_5 (by decide) ?_ ?_
  · refine r_aldn (pc := 18) C dX10_as_18 0 rfl ?_
    refine r_ldc (pc := 19) (v := (-1000000001 : Int32)) C dX10_as_19 wd_X10_as_1 ?_
    refine k_X10_error (x := x) (pc := 21) (a1 := (-1000000001 : Int32)) C gX10_as_X10_error (by omega)  (Nat.le_of_ble_eq_true rfl) dX10_as_21 (fun r8 s7 => ?_)
    exact r_iret (pc := 24) C dX10_as_24
  · refine r_ildn (pc := 8) C dX10_as_8 2 rfl ?_
    refine r_iconst (pc := 9) (v := (0 : Int32)) C dX10_as_9 ic_0 ?_
    refine r_bipush (pc := 10) (v := (6 : Int32)) C dX10_as_10 bp_6 ?_
    refine kS_X10_in (x := x) (pc := 12) (a0 := a2) (a1 := (0 : Int32)) (a2 := (6 : Int32)) C gX10_as_X10_in (by omega)  (Nat.le_of_ble_eq_true rfl) dX10_as_12 (fun r10 s9 => ?_)
    refine r_ifne (pc := 15) (tgt := 25) C dX10_as_15 (by decide) ?_ ?_
    · refine r_aldn (pc := 25) C dX10_as_25 0 rfl ?_
      refine r_ildn (pc := 26) C dX10_as_26 1 rfl ?_
      refine r_iconst (pc := 27) (v := (0 : Int32)) C dX10_as_27 ic_0 ?_
      refine k_X10_it (x := x) (pc := 28) (a1 := a1) (a2 := (0 : Int32)) C gX10_as_X10_it (by omega)  (Nat.le_of_ble_eq_true rfl) dX10_as_28 (fun r12 s11 => ?_)
      refine r_istn (pc := 31) (lv' := [(0, _), (1, _), (2, _), (3, _)]) C dX10_as_31 (by decide) [1, 2, 3, 0] rfl ?_
      refine r_ildn (pc := 32) C dX10_as_32 2 rfl ?_
      refine r_ifeq (pc := 33) (tgt := 61) C dX10_as_33 (by decide) ?_ ?_
      · refine r_iconst (pc := 61) (v := (1 : Int32)) C dX10_as_61 ic_1 ?_
        refine r_goto (pc := 62) (tgt := 66) C dX10_as_62 (by decide) ?_
        refine r_sub (lv' := [(0, _), (1, _)]) [0, 1] rfl ?_
        exact v_X10_as_66 (x := x) C a1 (1 : Int32) s11
      · refine r_ildn (pc := 36) C dX10_as_36 2 rfl ?_
        refine r_ildn (pc := 37) C dX10_as_37 3 rfl ?_
        refine r_iceq (pc := 38) (tgt := 61) C dX10_as_38 (by decide) ?_ ?_
        · refine r_iconst (pc := 61) (v := (1 : Int32)) C dX10_as_61 ic_1 ?_
          refine r_goto (pc := 62) (tgt := 66) C dX10_as_62 (by decide) ?_
          refine r_sub (lv' := [(0, _), (1, _)]) [0, 1] rfl ?_
          exact v_X10_as_66 (x := x) C a1 (1 : Int32) s11
        · refine r_ildn (pc := 41) C dX10_as_41 2 rfl ?_
          refine r_iconst (pc := 42) (v := (1 : Int32)) C dX10_as_42 ic_1 ?_
          refine r_icne (pc := 43) (tgt := 51) C dX10_as_43 (by decide) ?_ ?_
          · refine r_ildn (pc := 51) C dX10_as_51 2 rfl ?_
            refine r_iconst (pc := 52) (v := (2 : Int32)) C dX10_as_52 ic_2 ?_
            refine r_icne (pc := 53) (tgt := 65) C dX10_as_53 (by decide) ?_ ?_
            · refine r_iconst (pc := 65) (v := (0 : Int32)) C dX10_as_65 ic_0 ?_
              refine r_sub (lv' := [(0, _), (1, _)]) [0, 1] rfl ?_
              exact v_X10_as_66 (x := x) C a1 (0 : Int32) s11
            · refine r_ildn (pc := 56) C dX10_as_56 3 rfl ?_
              refine r_iconst (pc := 57) (v := (5 : Int32)) C dX10_as_57 ic_5 ?_
              refine r_icne (pc := 58) (tgt := 65) C dX10_as_58 (by decide) ?_ ?_
              · refine r_iconst (pc := 65) (v := (0 : Int32)) C dX10_as_65 ic_0 ?_
                refine r_sub (lv' := [(0, _), (1, _)]) [0, 1] rfl ?_
                exact v_X10_as_66 (x := x) C a1 (0 : Int32) s11
              · refine r_iconst (pc := 61) (v := (1 : Int32)) C dX10_as_61 ic_1 ?_
                refine r_goto (pc := 62) (tgt := 66) C dX10_as_62 (by decide) ?_
                refine r_sub (lv' := [(0, _), (1, _)]) [0, 1] rfl ?_
                exact v_X10_as_66 (x := x) C a1 (1 : Int32) s11
          · refine r_ildn (pc := 46) C dX10_as_46 3 rfl ?_
            refine r_iconst (pc := 47) (v := (4 : Int32)) C dX10_as_47 ic_4 ?_
            refine r_iceq (pc := 48) (tgt := 61) C dX10_as_48 (by decide) ?_ ?_
            · refine r_iconst (pc := 61) (v := (1 : Int32)) C dX10_as_61 ic_1 ?_
              refine r_goto (pc := 62) (tgt := 66) C dX10_as_62 (by decide) ?_
              refine r_sub (lv' := [(0, _), (1, _)]) [0, 1] rfl ?_
              exact v_X10_as_66 (x := x) C a1 (1 : Int32) s11
            · refine r_ildn (pc := 51) C dX10_as_51 2 rfl ?_
              refine r_iconst (pc := 52) (v := (2 : Int32)) C dX10_as_52 ic_2 ?_
              refine r_icne (pc := 53) (tgt := 65) C dX10_as_53 (by decide) ?_ ?_
              · refine r_iconst (pc := 65) (v := (0 : Int32)) C dX10_as_65 ic_0 ?_
                refine r_sub (lv' := [(0, _), (1, _)]) [0, 1] rfl ?_
                exact v_X10_as_66 (x := x) C a1 (0 : Int32) s11
              · refine r_ildn (pc := 56) C dX10_as_56 3 rfl ?_
                refine r_iconst (pc := 57) (v := (5 : Int32)) C dX10_as_57 ic_5 ?_
                refine r_icne (pc := 58) (tgt := 65) C dX10_as_58 (by decide) ?_ ?_
                · refine r_iconst (pc := 65) (v := (0 : Int32)) C dX10_as_65 ic_0 ?_
                  refine r_sub (lv' := [(0, _), (1, _)]) [0, 1] rfl ?_
                  exact v_X10_as_66 (x := x) C a1 (0 : Int32) s11
                · refine r_iconst (pc := 61) (v := (1 : Int32)) C dX10_as_61 ic_1 ?_
                  refine r_goto (pc := 62) (tgt := 66) C dX10_as_62 (by decide) ?_
                  refine r_sub (lv' := [(0, _), (1, _)]) [0, 1] rfl ?_
                  exact v_X10_as_66 (x := x) C a1 (1 : Int32) s11
    · refine r_aldn (pc := 18) C dX10_as_18 0 rfl ?_
      refine r_ldc (pc := 19) (v := (-1000000001 : Int32)) C dX10_as_19 wd_X10_as_1 ?_
      refine k_X10_error (x := x) (pc := 21) (a1 := (-1000000001 : Int32)) C gX10_as_X10_error (by omega)  (Nat.le_of_ble_eq_true rfl) dX10_as_21 (fun r14 s13 => ?_)
      exact r_iret (pc := 24) C dX10_as_24
set_option maxHeartbeats 4000000 in
set_option maxRecDepth 100000 in
theorem m_X10_held (l : Launch) (x : oXp) (hI : oI (oM x)) (a0 : Int32) (a1 : Int32) (a2 : Int32) (σ : Sg) : oMI l yX10_held wsX10_held 3 (oM x) [.int a0, .int a1, .int a2] σ (f_X10_held  a0 a1 a2 σ) := by
  refine oMI_of (nL := 3) (cc := cX10_held) hI (by decide +kernel) rfl (Nat.le_of_ble_eq_true rfl) ?_
  intro κ C
  have C : oC κ (oM x) 3 cX10_held RX10 wsX10_held 3 (some .int) := C
  unfold f_X10_held
  show oV κ (oM x) 3 (oQi κ (oM x)) σ 0 [(0, .int a0), (1, .int a1), (2, .int a2)] [] _
  refine r_ildn (pc := 0) C dX10_held_0 0 rfl ?_
  refine r_ildn (pc := 1) C dX10_held_1 1 rfl ?_
  refine r_icge (pc := 2) (tgt := 9) C dX10_held_2 (by decide) ?_ ?_
  · refine r_ildn (pc := 9) C dX10_held_9 0 rfl ?_
    refine r_ildn (pc := 10) C dX10_held_10 2 rfl ?_
    refine r_icle (pc := 11) (tgt := 18) C dX10_held_11 (by decide) ?_ ?_
    · refine r_ildn (pc := 18) C dX10_held_18 0 rfl ?_
      exact r_iret (pc := 19) C dX10_held_19
    · refine r_ildn (pc := 14) C dX10_held_14 2 rfl ?_
      refine r_goto (pc := 15) (tgt := 19) C dX10_held_15 (by decide) ?_
      exact r_iret (pc := 19) C dX10_held_19
  · refine r_ildn (pc := 5) C dX10_held_5 1 rfl ?_
    refine r_goto (pc := 6) (tgt := 19) C dX10_held_6 (by decide) ?_
    exact r_iret (pc := 19) C dX10_held_19
theorem kS_X10_held {κ : oK} {nL : Nat} {cc : ByteArray} {own : String} {Ts : List Cond} {n : Nat} {ret : Option FieldType} {α : Type} {Q : α → Sg → State → Prop} {σ : Sg} {pc : Nat} {lv : List (Nat × Value)} {st : List Value} {x : oXp} {idx : Nat} {a0 : Int32} {a1 : Int32} {a2 : Int32} {K : Int32 → Sg → Option (α × Sg)} (C : oC κ (oM x) nL cc own Ts n ret) (hG : GoodIn Ts (va_wsS own idx yX10_held wsX10_held)) (hn : 3 + 1 ≤ n) (hst : (st.map fun v => v.category).sum ≤ 8) (hd : decode cc pc = .ok (.invokestatic idx, 3)) (kk : ∀ (r1 : Int32) (σ1 : Sg), oV κ (oM x) nL Q σ1 (pc + 3) lv (.int r1 :: st) (K r1 σ1)) : oV κ (oM x) nL Q σ pc lv (.int a2 :: .int a1 :: .int a0 :: st) (bnd (f_X10_held a0 a1 a2 σ) K) := by
  have hI : oI (oM x) := oC_I C
  exact r_cSi (As := [.int a0, .int a1, .int a2]) (na := 3) C (fun l => m_X10_held l x hI a0 a1 a2 σ) hG rfl (by decide +kernel) rfl (by decide) hn hst hd kk
set_option maxHeartbeats 4000000 in
set_option maxRecDepth 100000 in
theorem m_X10_backOf (l : Launch) (x : oXp) (hI : oI (oM x)) (a1 : Int32) (σ : Sg) : oMI l yX10_backOf wsX10_backOf 4 (oM x) [.ref (xa x 0), .int a1] σ (f_X10_backOf  a1 σ) := by
  refine oMI_of (nL := 4) (cc := cX10_backOf) hI (by decide +kernel) rfl (Nat.le_of_ble_eq_true rfl) ?_
  intro κ C
  have C : oC κ (oM x) 4 cX10_backOf RX10 wsX10_backOf 4 (some .int) := C
  unfold f_X10_backOf
  show oV κ (oM x) 4 (oQi κ (oM x)) σ 0 [(0, .ref (xa x 0)), (1, .int a1)] [] _
  refine r_aldn (pc := 0) C dX10_backOf_0 0 rfl ?_
  refine r_ildn (pc := 1) C dX10_backOf_1 1 rfl ?_
  refine r_iconst (pc := 2) (v := (1 : Int32)) C dX10_backOf_2 ic_1 ?_
  refine k_X10_it (x := x) (pc := 3) (a1 := a1) (a2 := (1 : Int32)) C gX10_backOf_X10_it (by omega)  (Nat.le_of_ble_eq_true rfl) dX10_backOf_3 (fun r2 s1 => ?_)
  refine r_istn (pc := 6) (lv' := [(0, _), (1, _), (2, _)]) C dX10_backOf_6 (by decide) [1, 2, 0] rfl ?_
  refine r_bipush (pc := 7) (v := (50 : Int32)) C dX10_backOf_7 bp_50 ?_
  refine r_iconst (pc := 9) (v := (5 : Int32)) C dX10_backOf_9 ic_5 ?_
  refine r_aldn (pc := 10) C dX10_backOf_10 0 rfl ?_
  refine gf_X10_0_0 (pc := 11) C hi_X10_backOf_X10 wd_X10_backOf_1 dX10_backOf_11 ?_
  refine r_iconst (pc := 14) (v := (0 : Int32)) C dX10_backOf_14 ic_0 ?_
  refine iald_oM_1 (pc := 15) C dX10_backOf_15 ?_
  refine r_aldn (pc := 16) C dX10_backOf_16 0 rfl ?_
  refine r_ildn (pc := 17) C dX10_backOf_17 1 rfl ?_
  refine r_iconst (pc := 18) (v := (4 : Int32)) C dX10_backOf_18 ic_4 ?_
  refine k_X10_it (x := x) (pc := 19) (a1 := a1) (a2 := (4 : Int32)) C gX10_backOf_X10_it (by omega)  (Nat.le_of_ble_eq_true rfl) dX10_backOf_19 (fun r4 s3 => ?_)
  refine r_isub (pc := 22) C dX10_backOf_22 ?_
  refine r_imul (pc := 23) C dX10_backOf_23 ?_
  refine r_isub (pc := 24) C dX10_backOf_24 ?_
  refine r_iconst (pc := 25) (v := (0 : Int32)) C dX10_backOf_25 ic_0 ?_
  refine r_bipush (pc := 26) (v := (50 : Int32)) C dX10_backOf_26 bp_50 ?_
  refine kS_X10_held (x := x) (pc := 28) (a0 := ((50 : Int32) - ((5 : Int32) * ((rd (s1 1) (0 : Int32)) - r4)))) (a1 := (0 : Int32)) (a2 := (50 : Int32)) C gX10_backOf_X10_held (by omega)  (Nat.le_of_ble_eq_true rfl) dX10_backOf_28 (fun r6 s5 => ?_)
  refine r_ildn (pc := 31) C dX10_backOf_31 2 rfl ?_
  refine r_iadd (pc := 32) C dX10_backOf_32 ?_
  refine r_nm (fun v7 => ?_)
  refine r_istn (pc := 33) (lv' := [(0, _), (1, _), (2, _), (3, _)]) C dX10_backOf_33 (by decide) [1, 2, 3, 0] rfl ?_
  refine r_aldn (pc := 34) C dX10_backOf_34 0 rfl ?_
  refine r_ildn (pc := 35) C dX10_backOf_35 1 rfl ?_
  refine r_iconst (pc := 36) (v := (0 : Int32)) C dX10_backOf_36 ic_0 ?_
  refine k_X10_it (x := x) (pc := 37) (a1 := a1) (a2 := (0 : Int32)) C gX10_backOf_X10_it (by omega)  (Nat.le_of_ble_eq_true rfl) dX10_backOf_37 (fun r9 s8 => ?_)
  refine r_ite (fun c10 => ?_) (fun c10 => ?_)
  · refine r_tabE (pc := 40) (v := (1 : Int32)) (off := 40) (tgt := 80) C dX10_backOf_40 c10 (by decide) (by decide) (by decide) (by decide) ?_
    refine r_ildn (pc := 80) C dX10_backOf_80 3 rfl ?_
    refine r_bipush (pc := 81) (v := (20 : Int32)) C dX10_backOf_81 bp_20 ?_
    refine r_iadd (pc := 83) C dX10_backOf_83 ?_
    refine r_iconst (pc := 84) (v := (0 : Int32)) C dX10_backOf_84 ic_0 ?_
    refine r_bipush (pc := 85) (v := (100 : Int32)) C dX10_backOf_85 bp_100 ?_
    refine kS_X10_held (x := x) (pc := 87) (a0 := (v7 + (20 : Int32))) (a1 := (0 : Int32)) (a2 := (100 : Int32)) C gX10_backOf_X10_held (by omega)  (Nat.le_of_ble_eq_true rfl) dX10_backOf_87 (fun r12 s11 => ?_)
    exact r_iret (pc := 90) C dX10_backOf_90
  · refine r_ite (fun c13 => ?_) (fun c13 => ?_)
    · refine r_tabE (pc := 40) (v := (2 : Int32)) (off := 51) (tgt := 91) C dX10_backOf_40 c13 (by decide) (by decide) (by decide) (by decide) ?_
      refine r_ildn (pc := 91) C dX10_backOf_91 3 rfl ?_
      refine r_iconst (pc := 92) (v := (2 : Int32)) C dX10_backOf_92 ic_2 ?_
      refine r_idiv (pc := 93) C dX10_backOf_93 (by decide) ?_
      exact r_iret (pc := 94) C dX10_backOf_94
    · refine r_ite (fun c14 => ?_) (fun c14 => ?_)
      · refine r_tabE (pc := 40) (v := (3 : Int32)) (off := 55) (tgt := 95) C dX10_backOf_40 c14 (by decide) (by decide) (by decide) (by decide) ?_
        refine r_aldn (pc := 95) C dX10_backOf_95 0 rfl ?_
        refine r_ildn (pc := 96) C dX10_backOf_96 1 rfl ?_
        refine r_iconst (pc := 97) (v := (5 : Int32)) C dX10_backOf_97 ic_5 ?_
        refine k_X10_it (x := x) (pc := 98) (a1 := a1) (a2 := (5 : Int32)) C gX10_backOf_X10_it (by omega)  (Nat.le_of_ble_eq_true rfl) dX10_backOf_98 (fun r16 s15 => ?_)
        refine r_iconst (pc := 101) (v := (1 : Int32)) C dX10_backOf_101 ic_1 ?_
        refine r_icne (pc := 102) (tgt := 112) C dX10_backOf_102 (by decide) ?_ ?_
        · refine r_ildn (pc := 112) C dX10_backOf_112 3 rfl ?_
          refine r_iconst (pc := 113) (v := (0 : Int32)) C dX10_backOf_113 ic_0 ?_
          refine r_bipush (pc := 114) (v := (100 : Int32)) C dX10_backOf_114 bp_100 ?_
          refine kS_X10_held (x := x) (pc := 116) (a0 := v7) (a1 := (0 : Int32)) (a2 := (100 : Int32)) C gX10_backOf_X10_held (by omega)  (Nat.le_of_ble_eq_true rfl) dX10_backOf_116 (fun r18 s17 => ?_)
          exact r_iret (pc := 119) C dX10_backOf_119
        · refine r_ildn (pc := 105) C dX10_backOf_105 3 rfl ?_
          refine r_bipush (pc := 106) (v := (20 : Int32)) C dX10_backOf_106 bp_20 ?_
          refine r_iadd (pc := 108) C dX10_backOf_108 ?_
          refine r_goto (pc := 109) (tgt := 113) C dX10_backOf_109 (by decide) ?_
          refine r_iconst (pc := 113) (v := (0 : Int32)) C dX10_backOf_113 ic_0 ?_
          refine r_bipush (pc := 114) (v := (100 : Int32)) C dX10_backOf_114 bp_100 ?_
          refine kS_X10_held (x := x) (pc := 116) (a0 := (v7 + (20 : Int32))) (a1 := (0 : Int32)) (a2 := (100 : Int32)) C gX10_backOf_X10_held (by omega)  (Nat.le_of_ble_eq_true rfl) dX10_backOf_116 (fun r20 s19 => ?_)
          exact r_iret (pc := 119) C dX10_backOf_119
      · refine r_ite (fun c21 => ?_) (fun c21 => ?_)
        · refine r_tabE (pc := 40) (v := (4 : Int32)) (off := 80) (tgt := 120) C dX10_backOf_40 c21 (by decide) (by decide) (by decide) (by decide) ?_
          refine r_ildn (pc := 120) C dX10_backOf_120 3 rfl ?_
          refine r_bipush (pc := 121) (v := (40 : Int32)) C dX10_backOf_121 bp_40 ?_
          refine r_iadd (pc := 123) C dX10_backOf_123 ?_
          refine r_iconst (pc := 124) (v := (0 : Int32)) C dX10_backOf_124 ic_0 ?_
          refine r_bipush (pc := 125) (v := (100 : Int32)) C dX10_backOf_125 bp_100 ?_
          refine kS_X10_held (x := x) (pc := 127) (a0 := (v7 + (40 : Int32))) (a1 := (0 : Int32)) (a2 := (100 : Int32)) C gX10_backOf_X10_held (by omega)  (Nat.le_of_ble_eq_true rfl) dX10_backOf_127 (fun r23 s22 => ?_)
          exact r_iret (pc := 130) C dX10_backOf_130
        · refine r_ite (fun c24 => ?_) (fun c24 => ?_)
          · refine r_tabE (pc := 40) (v := (5 : Int32)) (off := 91) (tgt := 131) C dX10_backOf_40 c24 (by decide) (by decide) (by decide) (by decide) ?_
            refine r_ildn (pc := 131) C dX10_backOf_131 3 rfl ?_
            refine r_iconst (pc := 132) (v := (2 : Int32)) C dX10_backOf_132 ic_2 ?_
            refine r_idiv (pc := 133) C dX10_backOf_133 (by decide) ?_
            refine r_ildn (pc := 134) C dX10_backOf_134 2 rfl ?_
            refine r_isub (pc := 135) C dX10_backOf_135 ?_
            refine r_iconst (pc := 136) (v := (0 : Int32)) C dX10_backOf_136 ic_0 ?_
            refine r_bipush (pc := 137) (v := (100 : Int32)) C dX10_backOf_137 bp_100 ?_
            refine kS_X10_held (x := x) (pc := 139) (a0 := ((v7 / (2 : Int32)) - r2)) (a1 := (0 : Int32)) (a2 := (100 : Int32)) C gX10_backOf_X10_held (by omega)  (Nat.le_of_ble_eq_true rfl) dX10_backOf_139 (fun r26 s25 => ?_)
            exact r_iret (pc := 142) C dX10_backOf_142
          · refine r_ite (fun c27 => ?_) (fun c27 => ?_)
            · refine r_tabE (pc := 40) (v := (6 : Int32)) (off := 103) (tgt := 143) C dX10_backOf_40 c27 (by decide) (by decide) (by decide) (by decide) ?_
              refine r_ildn (pc := 143) C dX10_backOf_143 3 rfl ?_
              refine r_iconst (pc := 144) (v := (5 : Int32)) C dX10_backOf_144 ic_5 ?_
              refine r_iadd (pc := 145) C dX10_backOf_145 ?_
              refine r_iconst (pc := 146) (v := (0 : Int32)) C dX10_backOf_146 ic_0 ?_
              refine r_bipush (pc := 147) (v := (100 : Int32)) C dX10_backOf_147 bp_100 ?_
              refine kS_X10_held (x := x) (pc := 149) (a0 := (v7 + (5 : Int32))) (a1 := (0 : Int32)) (a2 := (100 : Int32)) C gX10_backOf_X10_held (by omega)  (Nat.le_of_ble_eq_true rfl) dX10_backOf_149 (fun r29 s28 => ?_)
              exact r_iret (pc := 152) C dX10_backOf_152
            · refine r_tabO (pc := 40) (tgt := 153) C dX10_backOf_40 (by have q0 := lv_neT (k := (1 : Int32)) (a := 1) c10 (by decide); have q1 := lv_neT (k := (2 : Int32)) (a := 2) c13 (by decide); have q2 := lv_neT (k := (3 : Int32)) (a := 3) c14 (by decide); have q3 := lv_neT (k := (4 : Int32)) (a := 4) c21 (by decide); have q4 := lv_neT (k := (5 : Int32)) (a := 5) c24 (by decide); have q5 := lv_neT (k := (6 : Int32)) (a := 6) c27 (by decide); omega) (by decide) ?_
              refine r_ildn (pc := 153) C dX10_backOf_153 3 rfl ?_
              exact r_iret (pc := 154) C dX10_backOf_154
theorem k_X10_backOf {κ : oK} {nL : Nat} {cc : ByteArray} {own : String} {Ts : List Cond} {n : Nat} {ret : Option FieldType} {α : Type} {Q : α → Sg → State → Prop} {σ : Sg} {pc : Nat} {lv : List (Nat × Value)} {st : List Value} {x : oXp} {idx : Nat} {a1 : Int32} {K : Int32 → Sg → Option (α × Sg)} (C : oC κ (oM x) nL cc own Ts n ret) (hG : GoodIn Ts (wsV own idx RX10 yX10_backOf wsX10_backOf)) (hn : 4 + 1 ≤ n) (hst : (st.map fun v => v.category).sum ≤ 8) (hd : decode cc pc = .ok (.invokevirtual idx, 3)) (kk : ∀ (r1 : Int32) (σ1 : Sg), oV κ (oM x) nL Q σ1 (pc + 3) lv (.int r1 :: st) (K r1 σ1)) : oV κ (oM x) nL Q σ pc lv (.int a1 :: .ref (xa x 0) :: st) (bnd (f_X10_backOf a1 σ) K) := by
  have hI : oI (oM x) := oC_I C
  exact r_cVi (As := [.int a1]) (na := 1) (j := 0) (ci := 10) C (fun l => m_X10_backOf l x hI a1 σ) hG rfl (by decide +kernel) rfl (by decide) hn (by show 0 < 14; decide) rfl rfl rfl rfl hst hd kk
set_option maxHeartbeats 4000000 in
set_option maxRecDepth 100000 in
theorem m_X10_isKm (l : Launch) (x : oXp) (hI : oI (oM x)) (a0 : Int32) (σ : Sg) : oMI l yX10_isKm wsX10_isKm 4 (oM x) [.int a0] σ (f_X10_isKm  a0 σ) := by
  refine oMI_of (nL := 1) (cc := cX10_isKm) hI (by decide +kernel) rfl (Nat.le_of_ble_eq_true rfl) ?_
  intro κ C
  have C : oC κ (oM x) 1 cX10_isKm RX10 wsX10_isKm 4 (some .boolean) := C
  unfold f_X10_isKm
  show oV κ (oM x) 1 (oQi κ (oM x)) σ 0 [(0, .int a0)] [] _
  refine r_ildn (pc := 0) C dX10_isKm_0 0 rfl ?_
  refine r_iconst (pc := 1) (v := (0 : Int32)) C dX10_isKm_1 ic_0 ?_
  refine r_bipush (pc := 2) (v := (69 : Int32)) C dX10_isKm_2 bp_69 ?_
  refine kS_X10_in (x := x) (pc := 4) (a0 := a0) (a1 := (0 : Int32)) (a2 := (69 : Int32)) C gX10_isKm_X10_in (by omega)  (Nat.le_of_ble_eq_true rfl) dX10_isKm_4 (fun r2 s1 => ?_)
  refine r_ckb (fun h3 => ?_)
  exact r_zret (pc := 7) C (isb_nar h3).1 dX10_isKm_7
theorem kS_X10_isKm {κ : oK} {nL : Nat} {cc : ByteArray} {own : String} {Ts : List Cond} {n : Nat} {ret : Option FieldType} {α : Type} {Q : α → Sg → State → Prop} {σ : Sg} {pc : Nat} {lv : List (Nat × Value)} {st : List Value} {x : oXp} {idx : Nat} {a0 : Int32} {K : Int32 → Sg → Option (α × Sg)} (C : oC κ (oM x) nL cc own Ts n ret) (hG : GoodIn Ts (va_wsS own idx yX10_isKm wsX10_isKm)) (hn : 4 + 1 ≤ n) (hst : (st.map fun v => v.category).sum ≤ 8) (hd : decode cc pc = .ok (.invokestatic idx, 3)) (kk : ∀ (r1 : Int32) (σ1 : Sg), oV κ (oM x) nL Q σ1 (pc + 3) lv (.int r1 :: st) (K r1 σ1)) : oV κ (oM x) nL Q σ pc lv (.int a0 :: st) (bnd (f_X10_isKm a0 σ) K) := by
  have hI : oI (oM x) := oC_I C
  exact r_cSi (As := [.int a0]) (na := 1) C (fun l => m_X10_isKm l x hI a0 σ) hG rfl (by decide +kernel) rfl (by decide) hn hst hd kk
set_option maxHeartbeats 4000000 in
set_option maxRecDepth 100000 in
theorem m_X10_lets (l : Launch) (x : oXp) (hI : oI (oM x)) (a1 : Int32) (a2 : Int32) (a3 : Int32) (σ : Sg) : oMV l yX10_lets wsX10_lets 3 (oM x) [.ref (xa x 0), .int a1, .int a2, .int a3] σ (f_X10_lets  a1 a2 a3 σ) := by
  refine oMV_of (nL := 4) (cc := cX10_lets) hI (by decide +kernel) rfl (Nat.le_of_ble_eq_true rfl) ?_
  intro κ C
  have C : oC κ (oM x) 4 cX10_lets RX10 wsX10_lets 3 none := C
  unfold f_X10_lets
  show oV κ (oM x) 4 (oQv κ (oM x)) σ 0 [(0, .ref (xa x 0)), (1, .int a1), (2, .int a2), (3, .int a3)] [] _
  refine r_aldn (pc := 0) C dX10_lets_0 0 rfl ?_
  refine gf_X10_0_0 (pc := 1) C hi_X10_lets_X10 wd_X10_lets_1 dX10_lets_1 ?_
  refine r_bipush (pc := 4) (v := (12 : Int32)) C dX10_lets_4 bp_12 ?_
  refine r_bipush (pc := 6) (v := (7 : Int32)) C dX10_lets_6 bp_7 ?_
  refine r_ildn (pc := 8) C dX10_lets_8 1 rfl ?_
  refine r_imul (pc := 9) C dX10_lets_9 ?_
  refine r_iadd (pc := 10) C dX10_lets_10 ?_
  refine r_ildn (pc := 11) C dX10_lets_11 2 rfl ?_
  refine r_iadd (pc := 12) C dX10_lets_12 ?_
  refine r_ildn (pc := 13) C dX10_lets_13 3 rfl ?_
  refine iast_oM_1 (pc := 14) C dX10_lets_14 (fun s1 => ?_)
  exact r_vret (pc := 15) C dX10_lets_15
theorem k_X10_lets {κ : oK} {nL : Nat} {cc : ByteArray} {own : String} {Ts : List Cond} {n : Nat} {ret : Option FieldType} {α : Type} {Q : α → Sg → State → Prop} {σ : Sg} {pc : Nat} {lv : List (Nat × Value)} {st : List Value} {x : oXp} {idx : Nat} {a1 : Int32} {a2 : Int32} {a3 : Int32} {K : Unit → Sg → Option (α × Sg)} (C : oC κ (oM x) nL cc own Ts n ret) (hG : GoodIn Ts (wsV own idx RX10 yX10_lets wsX10_lets)) (hn : 3 + 1 ≤ n) (hst : (st.map fun v => v.category).sum ≤ 8) (hd : decode cc pc = .ok (.invokevirtual idx, 3)) (kk : ∀ (r1 : Unit) (σ1 : Sg), oV κ (oM x) nL Q σ1 (pc + 3) lv (st) (K r1 σ1)) : oV κ (oM x) nL Q σ pc lv (.int a3 :: .int a2 :: .int a1 :: .ref (xa x 0) :: st) (bnd (f_X10_lets a1 a2 a3 σ) K) := by
  have hI : oI (oM x) := oC_I C
  exact r_cVv (As := [.int a1, .int a2, .int a3]) (na := 3) (j := 0) (ci := 10) C (fun l => m_X10_lets l x hI a1 a2 a3 σ) hG rfl (by decide +kernel) rfl (by decide) hn (by show 0 < 14; decide) rfl rfl rfl rfl hst hd kk
set_option maxHeartbeats 4000000 in
set_option maxRecDepth 100000 in
theorem m_X10_becomes (l : Launch) (x : oXp) (hI : oI (oM x)) (a1 : Int32) (a2 : Int32) (σ : Sg) : oMI l yX10_becomes wsX10_becomes 3 (oM x) [.ref (xa x 0), .int a1, .int a2] σ (f_X10_becomes  a1 a2 σ) := by
  refine oMI_of (nL := 4) (cc := cX10_becomes) hI (by decide +kernel) rfl (Nat.le_of_ble_eq_true rfl) ?_
  intro κ C
  have C : oC κ (oM x) 4 cX10_becomes RX10 wsX10_becomes 3 (some .int) := C
  unfold f_X10_becomes
  show oV κ (oM x) 4 (oQi κ (oM x)) σ 0 [(0, .ref (xa x 0)), (1, .int a1), (2, .int a2)] [] _
  refine r_aldn (pc := 0) C dX10_becomes_0 0 rfl ?_
  refine gf_X10_0_0 (pc := 1) C hi_X10_becomes_X10 wd_X10_becomes_1 dX10_becomes_1 ?_
  refine r_ildn (pc := 4) C dX10_becomes_4 1 rfl ?_
  refine iald_oM_1 (pc := 5) C dX10_becomes_5 ?_
  refine r_nm (fun v1 => ?_)
  refine r_istn (pc := 6) (lv' := [(0, _), (1, _), (2, _), (3, _)]) C dX10_becomes_6 (by decide) [1, 2, 3, 0] rfl ?_
  refine r_aldn (pc := 7) C dX10_becomes_7 0 rfl ?_
  refine gf_X10_0_0 (pc := 8) C hi_X10_becomes_X10 wd_X10_becomes_1 dX10_becomes_8 ?_
  refine r_ildn (pc := 11) C dX10_becomes_11 1 rfl ?_
  refine r_ildn (pc := 12) C dX10_becomes_12 2 rfl ?_
  refine iast_oM_1 (pc := 13) C dX10_becomes_13 (fun s2 => ?_)
  refine r_ildn (pc := 14) C dX10_becomes_14 3 rfl ?_
  exact r_iret (pc := 15) C dX10_becomes_15
theorem k_X10_becomes {κ : oK} {nL : Nat} {cc : ByteArray} {own : String} {Ts : List Cond} {n : Nat} {ret : Option FieldType} {α : Type} {Q : α → Sg → State → Prop} {σ : Sg} {pc : Nat} {lv : List (Nat × Value)} {st : List Value} {x : oXp} {idx : Nat} {a1 : Int32} {a2 : Int32} {K : Int32 → Sg → Option (α × Sg)} (C : oC κ (oM x) nL cc own Ts n ret) (hG : GoodIn Ts (wsV own idx RX10 yX10_becomes wsX10_becomes)) (hn : 3 + 1 ≤ n) (hst : (st.map fun v => v.category).sum ≤ 8) (hd : decode cc pc = .ok (.invokevirtual idx, 3)) (kk : ∀ (r1 : Int32) (σ1 : Sg), oV κ (oM x) nL Q σ1 (pc + 3) lv (.int r1 :: st) (K r1 σ1)) : oV κ (oM x) nL Q σ pc lv (.int a2 :: .int a1 :: .ref (xa x 0) :: st) (bnd (f_X10_becomes a1 a2 σ) K) := by
  have hI : oI (oM x) := oC_I C
  exact r_cVi (As := [.int a1, .int a2]) (na := 2) (j := 0) (ci := 10) C (fun l => m_X10_becomes l x hI a1 a2 σ) hG rfl (by decide +kernel) rfl (by decide) hn (by show 0 < 14; decide) rfl rfl rfl rfl hst hd kk
set_option maxHeartbeats 4000000 in
set_option maxRecDepth 100000 in
theorem m_X10_become (l : Launch) (x : oXp) (hI : oI (oM x)) (a1 : Int32) (a2 : Int32) (σ : Sg) : oMI l yX10_become wsX10_become 5 (oM x) [.ref (xa x 0), .int a1, .int a2] σ (f_X10_become  a1 a2 σ) := by
  refine oMI_of (nL := 3) (cc := cX10_become) hI (by decide +kernel) rfl (Nat.le_of_ble_eq_true rfl) ?_
  intro κ C
  have C : oC κ (oM x) 3 cX10_become RX10 wsX10_become 5 (some .int) := C
  unfold f_X10_become
  show oV κ (oM x) 3 (oQi κ (oM x)) σ 0 [(0, .ref (xa x 0)), (1, .int a1), (2, .int a2)] [] _
  refine r_aldn (pc := 0) C dX10_become_0 0 rfl ?_
  refine r_ildn (pc := 1) C dX10_become_1 1 rfl ?_
  refine k_X10_isLine (x := x) (pc := 2) (a1 := a1) C gX10_become_X10_isLine (by omega)  (Nat.le_of_ble_eq_true rfl) dX10_become_2 (fun r2 s1 => ?_)
  refine r_ifeq (pc := 5) (tgt := 15) C dX10_become_5 (by decide) ?_ ?_
  · refine r_aldn (pc := 15) C dX10_become_15 0 rfl ?_
    refine r_ldc (pc := 16) (v := (-1000000001 : Int32)) C dX10_become_16 wd_X10_become_1 ?_
    refine k_X10_error (x := x) (pc := 18) (a1 := (-1000000001 : Int32)) C gX10_become_X10_error (by omega)  (Nat.le_of_ble_eq_true rfl) dX10_become_18 (fun r4 s3 => ?_)
    exact r_iret (pc := 21) C dX10_become_21
  · refine r_ildn (pc := 8) C dX10_become_8 2 rfl ?_
    refine kS_X10_isKm (x := x) (pc := 9) (a0 := a2) C gX10_become_X10_isKm (by omega)  (Nat.le_of_ble_eq_true rfl) dX10_become_9 (fun r6 s5 => ?_)
    refine r_ifne (pc := 12) (tgt := 22) C dX10_become_12 (by decide) ?_ ?_
    · refine r_aldn (pc := 22) C dX10_become_22 0 rfl ?_
      refine r_ildn (pc := 23) C dX10_become_23 1 rfl ?_
      refine r_iconst (pc := 24) (v := (1 : Int32)) C dX10_become_24 ic_1 ?_
      refine r_ildn (pc := 25) C dX10_become_25 2 rfl ?_
      refine r_bipush (pc := 26) (v := (10 : Int32)) C dX10_become_26 bp_10 ?_
      refine r_irem (pc := 28) C dX10_become_28 (by decide) ?_
      refine k_X10_lets (x := x) (pc := 29) (a1 := a1) (a2 := (1 : Int32)) (a3 := (irm a2 (10 : Int32))) C gX10_become_X10_lets (by omega)  (Nat.le_of_ble_eq_true rfl) dX10_become_29 (fun _ s7 => ?_)
      refine r_aldn (pc := 32) C dX10_become_32 0 rfl ?_
      refine r_bipush (pc := 33) (v := (12 : Int32)) C dX10_become_33 bp_12 ?_
      refine r_bipush (pc := 35) (v := (7 : Int32)) C dX10_become_35 bp_7 ?_
      refine r_ildn (pc := 37) C dX10_become_37 1 rfl ?_
      refine r_imul (pc := 38) C dX10_become_38 ?_
      refine r_iadd (pc := 39) C dX10_become_39 ?_
      refine r_ildn (pc := 40) C dX10_become_40 2 rfl ?_
      refine r_bipush (pc := 41) (v := (10 : Int32)) C dX10_become_41 bp_10 ?_
      refine r_idiv (pc := 43) C dX10_become_43 (by decide) ?_
      refine k_X10_becomes (x := x) (pc := 44) (a1 := ((12 : Int32) + ((7 : Int32) * a1))) (a2 := (a2 / (10 : Int32))) C gX10_become_X10_becomes (by omega)  (Nat.le_of_ble_eq_true rfl) dX10_become_44 (fun r10 s9 => ?_)
      exact r_iret (pc := 47) C dX10_become_47
    · refine r_aldn (pc := 15) C dX10_become_15 0 rfl ?_
      refine r_ldc (pc := 16) (v := (-1000000001 : Int32)) C dX10_become_16 wd_X10_become_1 ?_
      refine k_X10_error (x := x) (pc := 18) (a1 := (-1000000001 : Int32)) C gX10_become_X10_error (by omega)  (Nat.le_of_ble_eq_true rfl) dX10_become_18 (fun r12 s11 => ?_)
      exact r_iret (pc := 21) C dX10_become_21
set_option maxHeartbeats 4000000 in
set_option maxRecDepth 100000 in
theorem v_X10_bits_4_b {κ : oK} {x : oXp} (C : oC κ (oM x) 3 cX10_bits RX10 wsX10_bits 3 (some .int))  (rec4 : Int32 → Int32 → Sg → Option (Int32 × Sg)) (hrec4 : ∀ (a1 : Int32) (a2 : Int32) (σ : Sg), oV κ (oM x) 3 (oQi κ (oM x)) σ 4 [(1, .int a1), (2, .int a2)] [] (rec4 a1 a2 σ)) (a1 : Int32) (a2 : Int32) (σ : Sg) : oV κ (oM x) 3 (oQi κ (oM x)) σ 4 [(1, .int a1), (2, .int a2)] [] (f_X10_bits_4_b   rec4 a1 a2 σ) := by
  unfold f_X10_bits_4_b
  refine r_ildn (pc := 4) C dX10_bits_4 1 rfl ?_
  refine r_ifeq (pc := 5) (tgt := 20) C dX10_bits_5 (by decide) ?_ ?_
  · refine r_ildn (pc := 20) C dX10_bits_20 0 rfl ?_
    exact r_iret (pc := 21) C dX10_bits_21
  · refine r_iinc (pc := 8) (v := (1 : Int32)) (lv1 := fun y => [(1, .int y), (2, _)]) C dX10_bits_8 ic_1 0 rfl (by decide) [0, 1] (fun _ => rfl) (fun v1 => ?_)
    refine r_ildn (pc := 11) C dX10_bits_11 1 rfl ?_
    refine r_ildn (pc := 12) C dX10_bits_12 1 rfl ?_
    refine r_iconst (pc := 13) (v := (1 : Int32)) C dX10_bits_13 ic_1 ?_
    refine r_isub (pc := 14) C dX10_bits_14 ?_
    refine r_iand (pc := 15) C dX10_bits_15 ?_
    refine r_nm (fun v2 => ?_)
    refine r_istn (pc := 16) (lv' := [(1, _), (2, _)]) C dX10_bits_16 (by decide) [1, 0] rfl ?_
    refine r_goto (pc := 17) (tgt := 4) C dX10_bits_17 (by decide) ?_
    exact hrec4 v1 v2 σ
theorem v_X10_bits_4 {κ : oK} {x : oXp} (C : oC κ (oM x) 3 cX10_bits RX10 wsX10_bits 3 (some .int))  : ∀ (n : Nat) (a1 : Int32) (a2 : Int32) (σ : Sg), oV κ (oM x) 3 (oQi κ (oM x)) σ 4 [(1, .int a1), (2, .int a2)] [] (f_X10_bits_4   n a1 a2 σ) := by
  intro n
  induction n with
  | zero => intros; exact r_none
  | succ n ih => exact v_X10_bits_4_b C  _ ih
set_option maxHeartbeats 4000000 in
set_option maxRecDepth 100000 in
theorem m_X10_bits (l : Launch) (x : oXp) (hI : oI (oM x)) (a0 : Int32) (σ : Sg) : oMI l yX10_bits wsX10_bits 3 (oM x) [.int a0] σ (f_X10_bits  a0 σ) := by
  refine oMI_of (nL := 3) (cc := cX10_bits) hI (by decide +kernel) rfl (Nat.le_of_ble_eq_true rfl) ?_
  intro κ C
  have C : oC κ (oM x) 3 cX10_bits RX10 wsX10_bits 3 (some .int) := C
  unfold f_X10_bits
  show oV κ (oM x) 3 (oQi κ (oM x)) σ 0 [(0, .int a0)] [] _
  refine r_iconst (pc := 0) (v := (0 : Int32)) C dX10_bits_0 ic_0 ?_
  refine r_istn (pc := 1) (lv' := [(0, _), (1, _)]) C dX10_bits_1 (by decide) [1, 0] rfl ?_
  refine r_ildn (pc := 2) C dX10_bits_2 0 rfl ?_
  refine r_istn (pc := 3) (lv' := [(1, _), (2, _)]) C dX10_bits_3 (by decide) [2, 0] rfl ?_
  exact v_X10_bits_4 (x := x) C fuN (0 : Int32) a0 σ
theorem kS_X10_bits {κ : oK} {nL : Nat} {cc : ByteArray} {own : String} {Ts : List Cond} {n : Nat} {ret : Option FieldType} {α : Type} {Q : α → Sg → State → Prop} {σ : Sg} {pc : Nat} {lv : List (Nat × Value)} {st : List Value} {x : oXp} {idx : Nat} {a0 : Int32} {K : Int32 → Sg → Option (α × Sg)} (C : oC κ (oM x) nL cc own Ts n ret) (hG : GoodIn Ts (va_wsS own idx yX10_bits wsX10_bits)) (hn : 3 + 1 ≤ n) (hst : (st.map fun v => v.category).sum ≤ 8) (hd : decode cc pc = .ok (.invokestatic idx, 3)) (kk : ∀ (r1 : Int32) (σ1 : Sg), oV κ (oM x) nL Q σ1 (pc + 3) lv (.int r1 :: st) (K r1 σ1)) : oV κ (oM x) nL Q σ pc lv (.int a0 :: st) (bnd (f_X10_bits a0 σ) K) := by
  have hI : oI (oM x) := oC_I C
  exact r_cSi (As := [.int a0]) (na := 1) C (fun l => m_X10_bits l x hI a0 σ) hG rfl (by decide +kernel) rfl (by decide) hn hst hd kk
set_option maxHeartbeats 4000000 in
set_option maxRecDepth 100000 in
theorem m_X10_body (l : Launch) (x : oXp) (hI : oI (oM x)) (a1 : Int32) (σ : Sg) : oMI l yX10_body wsX10_body 4 (oM x) [.ref (xa x 0), .int a1] σ (f_X10_body  a1 σ) := by
  refine oMI_of (nL := 2) (cc := cX10_body) hI (by decide +kernel) rfl (Nat.le_of_ble_eq_true rfl) ?_
  intro κ C
  have C : oC κ (oM x) 2 cX10_body RX10 wsX10_body 4 (some .int) := C
  unfold f_X10_body
  show oV κ (oM x) 2 (oQi κ (oM x)) σ 0 [(0, .ref (xa x 0)), (1, .int a1)] [] _
  refine r_ildn (pc := 0) C dX10_body_0 1 rfl ?_
  refine r_iconst (pc := 1) (v := (0 : Int32)) C dX10_body_1 ic_0 ?_
  refine r_aldn (pc := 2) C dX10_body_2 0 rfl ?_
  refine gf_X10_19_0 (pc := 3) C hi_X10_body_X10 wd_X10_body_1 dX10_body_3 ?_
  refine r_iconst (pc := 6) (v := (1 : Int32)) C dX10_body_6 ic_1 ?_
  refine r_isub (pc := 7) C dX10_body_7 ?_
  refine kS_X10_in (x := x) (pc := 8) (a0 := a1) (a1 := (0 : Int32)) (a2 := ((σ 0 19) - (1 : Int32))) C gX10_body_X10_in (by omega)  (Nat.le_of_ble_eq_true rfl) dX10_body_8 (fun r2 s1 => ?_)
  refine r_ifeq (pc := 11) (tgt := 23) C dX10_body_11 (by decide) ?_ ?_
  · refine r_aldn (pc := 23) C dX10_body_23 0 rfl ?_
    refine r_ldc (pc := 24) (v := (-1000000002 : Int32)) C dX10_body_24 wd_X10_body_3 ?_
    refine k_X10_error (x := x) (pc := 26) (a1 := (-1000000002 : Int32)) C gX10_body_X10_error (by omega)  (Nat.le_of_ble_eq_true rfl) dX10_body_26 (fun r4 s3 => ?_)
    exact r_iret (pc := 29) C dX10_body_29
  · refine r_aldn (pc := 14) C dX10_body_14 0 rfl ?_
    refine gf_X10_18_0 (pc := 15) C hi_X10_body_X10 wd_X10_body_2 dX10_body_15 ?_
    refine r_ildn (pc := 18) C dX10_body_18 1 rfl ?_
    refine iald_oM_13 (pc := 19) C dX10_body_19 ?_
    refine r_goto (pc := 20) (tgt := 29) C dX10_body_20 (by decide) ?_
    exact r_iret (pc := 29) C dX10_body_29
set_option maxHeartbeats 4000000 in
set_option maxRecDepth 100000 in
theorem v_X10_check_18_b {κ : oK} {x : oXp} (C : oC κ (oM x) 3 cX10_check RX10 wsX10_check 3 (some .int))  (rec18 : Int32 → Int32 → Sg → Option (Int32 × Sg)) (hrec18 : ∀ (a1 : Int32) (a2 : Int32) (σ : Sg), oV κ (oM x) 3 (oQi κ (oM x)) σ 18 [(0, .ref (xa x 0)), (1, .int a1), (2, .int a2)] [] (rec18 a1 a2 σ)) (a1 : Int32) (a2 : Int32) (σ : Sg) : oV κ (oM x) 3 (oQi κ (oM x)) σ 18 [(0, .ref (xa x 0)), (1, .int a1), (2, .int a2)] [] (f_X10_check_18_b   rec18 a1 a2 σ) := by
  unfold f_X10_check_18_b
  refine r_ildn (pc := 18) C dX10_check_18 2 rfl ?_
  refine r_ildn (pc := 19) C dX10_check_19 1 rfl ?_
  refine r_icge (pc := 20) (tgt := 60) C dX10_check_20 (by decide) ?_ ?_
  · refine r_iconst (pc := 60) (v := (0 : Int32)) C dX10_check_60 ic_0 ?_
    exact r_iret (pc := 61) C dX10_check_61
  · refine r_ildn (pc := 23) C dX10_check_23 2 rfl ?_
    refine r_iconst (pc := 24) (v := (5 : Int32)) C dX10_check_24 ic_5 ?_
    refine r_icge (pc := 25) (tgt := 50) C dX10_check_25 (by decide) ?_ ?_
    · refine r_iconst (pc := 50) (v := (1 : Int32)) C dX10_check_50 ic_1 ?_
      refine r_ildn (pc := 51) C dX10_check_51 2 rfl ?_
      refine r_iadd (pc := 52) C dX10_check_52 ?_
      exact r_iret (pc := 53) C dX10_check_53
    · refine r_aldn (pc := 28) C dX10_check_28 0 rfl ?_
      refine gf_X10_0_0 (pc := 29) C hi_X10_check_X10 wd_X10_check_1 dX10_check_29 ?_
      refine r_sipush (pc := 32) (v := (142 : Int32)) C dX10_check_32 sp_142 ?_
      refine r_ildn (pc := 35) C dX10_check_35 2 rfl ?_
      refine r_iadd (pc := 36) C dX10_check_36 ?_
      refine iald_oM_1 (pc := 37) C dX10_check_37 ?_
      refine r_aldn (pc := 38) C dX10_check_38 0 rfl ?_
      refine gf_X10_0_0 (pc := 39) C hi_X10_check_X10 wd_X10_check_1 dX10_check_39 ?_
      refine r_bipush (pc := 42) (v := (7 : Int32)) C dX10_check_42 bp_7 ?_
      refine r_ildn (pc := 44) C dX10_check_44 2 rfl ?_
      refine r_iadd (pc := 45) C dX10_check_45 ?_
      refine iald_oM_1 (pc := 46) C dX10_check_46 ?_
      refine r_iceq (pc := 47) (tgt := 54) C dX10_check_47 (by decide) ?_ ?_
      · refine r_iinc (pc := 54) (v := (1 : Int32)) (lv1 := fun y => [(0, _), (1, _), (2, .int y)]) C dX10_check_54 ic_1 2 rfl (by decide) [1, 2, 0] (fun _ => rfl) (fun v1 => ?_)
        refine r_goto (pc := 57) (tgt := 18) C dX10_check_57 (by decide) ?_
        exact hrec18 a1 v1 σ
      · refine r_iconst (pc := 50) (v := (1 : Int32)) C dX10_check_50 ic_1 ?_
        refine r_ildn (pc := 51) C dX10_check_51 2 rfl ?_
        refine r_iadd (pc := 52) C dX10_check_52 ?_
        exact r_iret (pc := 53) C dX10_check_53
theorem v_X10_check_18 {κ : oK} {x : oXp} (C : oC κ (oM x) 3 cX10_check RX10 wsX10_check 3 (some .int))  : ∀ (n : Nat) (a1 : Int32) (a2 : Int32) (σ : Sg), oV κ (oM x) 3 (oQi κ (oM x)) σ 18 [(0, .ref (xa x 0)), (1, .int a1), (2, .int a2)] [] (f_X10_check_18   n a1 a2 σ) := by
  intro n
  induction n with
  | zero => intros; exact r_none
  | succ n ih => exact v_X10_check_18_b C  _ ih
set_option maxHeartbeats 4000000 in
set_option maxRecDepth 100000 in
theorem m_X10_check (l : Launch) (x : oXp) (hI : oI (oM x))  (σ : Sg) : oMI l yX10_check wsX10_check 3 (oM x) [.ref (xa x 0)] σ (f_X10_check   σ) := by
  refine oMI_of (nL := 3) (cc := cX10_check) hI (by decide +kernel) rfl (Nat.le_of_ble_eq_true rfl) ?_
  intro κ C
  have C : oC κ (oM x) 3 cX10_check RX10 wsX10_check 3 (some .int) := C
  unfold f_X10_check
  show oV κ (oM x) 3 (oQi κ (oM x)) σ 0 [(0, .ref (xa x 0))] [] _
  refine r_aldn (pc := 0) C dX10_check_0 0 rfl ?_
  refine gf_X10_0_0 (pc := 1) C hi_X10_check_X10 wd_X10_check_1 dX10_check_1 ?_
  refine r_bipush (pc := 4) (v := (6 : Int32)) C dX10_check_4 bp_6 ?_
  refine iald_oM_1 (pc := 6) C dX10_check_6 ?_
  refine r_nm (fun v2 => ?_)
  refine r_istn (pc := 7) (lv' := [(0, _), (1, _)]) C dX10_check_7 (by decide) [1, 0] rfl ?_
  refine r_aldn (pc := 8) C dX10_check_8 0 rfl ?_
  refine gf_X10_0_0 (pc := 9) C hi_X10_check_X10 wd_X10_check_1 dX10_check_9 ?_
  refine r_bipush (pc := 12) (v := (6 : Int32)) C dX10_check_12 bp_6 ?_
  refine r_iconst (pc := 14) (v := (0 : Int32)) C dX10_check_14 ic_0 ?_
  refine iast_oM_1 (pc := 15) C dX10_check_15 (fun s3 => ?_)
  refine r_iconst (pc := 16) (v := (0 : Int32)) C dX10_check_16 ic_0 ?_
  refine r_istn (pc := 17) (lv' := [(0, _), (1, _), (2, _)]) C dX10_check_17 (by decide) [1, 2, 0] rfl ?_
  exact v_X10_check_18 (x := x) C fuN v2 (0 : Int32) s3
set_option maxHeartbeats 4000000 in
set_option maxRecDepth 100000 in
theorem v_X10_copyAll_2_b {κ : oK} {x : oXp} (C : oC κ (oM x) 3 cX10_copyAll RX10 wsX10_copyAll 3 none)  (rec2 : Nat → Nat → Int32 → Sg → Option (Unit × Sg)) (hrec2 : ∀ (o0 : Nat) (o1 : Nat) (a2 : Int32) (h1_o0 : 1 ≤ o0) (h2_o0 : o0 < 4) (h1_o1 : 1 ≤ o1) (h2_o1 : o1 < 4) (σ : Sg), oV κ (oM x) 3 (oQv κ (oM x)) σ 2 [(0, .ref (xa x o0)), (1, .ref (xa x o1)), (2, .int a2)] [] (rec2 o0 o1 a2 σ)) (o0 : Nat) (o1 : Nat) (a2 : Int32) (h1_o0 : 1 ≤ o0) (h2_o0 : o0 < 4) (h1_o1 : 1 ≤ o1) (h2_o1 : o1 < 4) (σ : Sg) : oV κ (oM x) 3 (oQv κ (oM x)) σ 2 [(0, .ref (xa x o0)), (1, .ref (xa x o1)), (2, .int a2)] [] (f_X10_copyAll_2_b   rec2 o0 o1 a2 σ) := by
  unfold f_X10_copyAll_2_b
  refine r_ildn (pc := 2) C dX10_copyAll_2 2 rfl ?_
  refine r_sipush (pc := 3) (v := (408 : Int32)) C dX10_copyAll_3 sp_408 ?_
  refine r_icge (pc := 6) (tgt := 21) C dX10_copyAll_6 (by decide) ?_ ?_
  · exact r_vret (pc := 21) C dX10_copyAll_21
  · refine r_aldn (pc := 9) C dX10_copyAll_9 1 rfl ?_
    refine r_ildn (pc := 10) C dX10_copyAll_10 2 rfl ?_
    refine r_aldn (pc := 11) C dX10_copyAll_11 0 rfl ?_
    refine r_ildn (pc := 12) C dX10_copyAll_12 2 rfl ?_
    refine iald_oM_row (pc := 13) C (o := o0) (by omega) (by omega) dX10_copyAll_13 ?_
    refine iast_oM_row (pc := 14) C (o := o1) (by omega) (by omega) dX10_copyAll_14 (fun s1 => ?_)
    refine r_iinc (pc := 15) (v := (1 : Int32)) (lv1 := fun y => [(0, _), (1, _), (2, .int y)]) C dX10_copyAll_15 ic_1 2 rfl (by decide) [1, 2, 0] (fun _ => rfl) (fun v2 => ?_)
    refine r_goto (pc := 18) (tgt := 2) C dX10_copyAll_18 (by decide) ?_
    exact hrec2 o0 o1 v2 (by omega) (by omega) (by omega) (by omega) s1
theorem v_X10_copyAll_2 {κ : oK} {x : oXp} (C : oC κ (oM x) 3 cX10_copyAll RX10 wsX10_copyAll 3 none)  : ∀ (n : Nat) (o0 : Nat) (o1 : Nat) (a2 : Int32) (h1_o0 : 1 ≤ o0) (h2_o0 : o0 < 4) (h1_o1 : 1 ≤ o1) (h2_o1 : o1 < 4) (σ : Sg), oV κ (oM x) 3 (oQv κ (oM x)) σ 2 [(0, .ref (xa x o0)), (1, .ref (xa x o1)), (2, .int a2)] [] (f_X10_copyAll_2   n o0 o1 a2 σ) := by
  intro n
  induction n with
  | zero => intros; exact r_none
  | succ n ih => exact v_X10_copyAll_2_b C  _ ih
set_option maxHeartbeats 4000000 in
set_option maxRecDepth 100000 in
theorem m_X10_copyAll (l : Launch) (x : oXp) (hI : oI (oM x)) (o0 : Nat) (o1 : Nat) (h1_o0 : 1 ≤ o0) (h2_o0 : o0 < 4) (h1_o1 : 1 ≤ o1) (h2_o1 : o1 < 4) (σ : Sg) : oMV l yX10_copyAll wsX10_copyAll 3 (oM x) [.ref (xa x o0), .ref (xa x o1)] σ (f_X10_copyAll  o0 o1 σ) := by
  refine oMV_of (nL := 3) (cc := cX10_copyAll) hI (by decide +kernel) rfl (Nat.le_of_ble_eq_true rfl) ?_
  intro κ C
  have C : oC κ (oM x) 3 cX10_copyAll RX10 wsX10_copyAll 3 none := C
  unfold f_X10_copyAll
  show oV κ (oM x) 3 (oQv κ (oM x)) σ 0 [(0, .ref (xa x o0)), (1, .ref (xa x o1))] [] _
  refine r_iconst (pc := 0) (v := (0 : Int32)) C dX10_copyAll_0 ic_0 ?_
  refine r_istn (pc := 1) (lv' := [(0, _), (1, _), (2, _)]) C dX10_copyAll_1 (by decide) [1, 2, 0] rfl ?_
  exact v_X10_copyAll_2 (x := x) C fuN o0 o1 (0 : Int32) (by omega) (by omega) (by omega) (by omega) σ
theorem kS_X10_copyAll {κ : oK} {nL : Nat} {cc : ByteArray} {own : String} {Ts : List Cond} {n : Nat} {ret : Option FieldType} {α : Type} {Q : α → Sg → State → Prop} {σ : Sg} {pc : Nat} {lv : List (Nat × Value)} {st : List Value} {x : oXp} {idx : Nat} {o0 : Nat} {o1 : Nat} {K : Unit → Sg → Option (α × Sg)} (C : oC κ (oM x) nL cc own Ts n ret) (hG : GoodIn Ts (va_wsS own idx yX10_copyAll wsX10_copyAll)) (hn : 3 + 1 ≤ n) (h1_o0 : 1 ≤ o0) (h2_o0 : o0 < 4) (h1_o1 : 1 ≤ o1) (h2_o1 : o1 < 4) (hst : (st.map fun v => v.category).sum ≤ 8) (hd : decode cc pc = .ok (.invokestatic idx, 3)) (kk : ∀ (r1 : Unit) (σ1 : Sg), oV κ (oM x) nL Q σ1 (pc + 3) lv (st) (K r1 σ1)) : oV κ (oM x) nL Q σ pc lv (.ref (xa x o1) :: .ref (xa x o0) :: st) (bnd (f_X10_copyAll o0 o1 σ) K) := by
  have hI : oI (oM x) := oC_I C
  exact r_cSv (As := [.ref (xa x o0), .ref (xa x o1)]) (na := 2) C (fun l => m_X10_copyAll l x hI o0 o1 h1_o0 h2_o0 h1_o1 h2_o1 σ) hG rfl (by decide +kernel) rfl (by decide) hn hst hd kk
set_option maxHeartbeats 4000000 in
set_option maxRecDepth 100000 in
theorem m_X10_thinks (l : Launch) (x : oXp) (hI : oI (oM x))  (σ : Sg) : oMV l yX10_thinks wsX10_thinks 4 (oM x) [.ref (xa x 0)] σ (f_X10_thinks   σ) := by
  refine oMV_of (nL := 1) (cc := cX10_thinks) hI (by decide +kernel) rfl (Nat.le_of_ble_eq_true rfl) ?_
  intro κ C
  have C : oC κ (oM x) 1 cX10_thinks RX10 wsX10_thinks 4 none := C
  unfold f_X10_thinks
  show oV κ (oM x) 1 (oQv κ (oM x)) σ 0 [(0, .ref (xa x 0))] [] _
  refine r_aldn (pc := 0) C dX10_thinks_0 0 rfl ?_
  refine gf_X10_0_0 (pc := 1) C hi_X10_thinks_X10 wd_X10_thinks_1 dX10_thinks_1 ?_
  refine r_aldn (pc := 4) C dX10_thinks_4 0 rfl ?_
  refine gf_X10_2_0 (pc := 5) C hi_X10_thinks_X10 wd_X10_thinks_2 dX10_thinks_5 ?_
  refine kS_X10_copyAll (x := x) (pc := 8) (o0 := 1) (o1 := 3) C gX10_thinks_X10_copyAll (by omega) (by omega) (by omega) (by omega) (by omega) (Nat.le_of_ble_eq_true rfl) dX10_thinks_8 (fun _ s1 => ?_)
  exact r_vret (pc := 11) C dX10_thinks_11
theorem k_X10_thinks {κ : oK} {nL : Nat} {cc : ByteArray} {own : String} {Ts : List Cond} {n : Nat} {ret : Option FieldType} {α : Type} {Q : α → Sg → State → Prop} {σ : Sg} {pc : Nat} {lv : List (Nat × Value)} {st : List Value} {x : oXp} {idx : Nat}  {K : Unit → Sg → Option (α × Sg)} (C : oC κ (oM x) nL cc own Ts n ret) (hG : GoodIn Ts (wsV own idx RX10 yX10_thinks wsX10_thinks)) (hn : 4 + 1 ≤ n) (hst : (st.map fun v => v.category).sum ≤ 8) (hd : decode cc pc = .ok (.invokevirtual idx, 3)) (kk : ∀ (r1 : Unit) (σ1 : Sg), oV κ (oM x) nL Q σ1 (pc + 3) lv (st) (K r1 σ1)) : oV κ (oM x) nL Q σ pc lv (.ref (xa x 0) :: st) (bnd (f_X10_thinks  σ) K) := by
  have hI : oI (oM x) := oC_I C
  exact r_cVv (As := []) (na := 0) (j := 0) (ci := 10) C (fun l => m_X10_thinks l x hI  σ) hG rfl (by decide +kernel) rfl (by decide) hn (by show 0 < 14; decide) rfl rfl rfl rfl hst hd kk
set_option maxHeartbeats 4000000 in
set_option maxRecDepth 100000 in
theorem m_X10_mayGo (l : Launch) (x : oXp) (hI : oI (oM x)) (a1 : Int32) (σ : Sg) : oMI l yX10_mayGo wsX10_mayGo 4 (oM x) [.ref (xa x 0), .int a1] σ (f_X10_mayGo  a1 σ) := by
  refine oMI_of (nL := 4) (cc := cX10_mayGo) hI (by decide +kernel) rfl (Nat.le_of_ble_eq_true rfl) ?_
  intro κ C
  have C : oC κ (oM x) 4 cX10_mayGo RX10 wsX10_mayGo 4 (some .boolean) := C
  unfold f_X10_mayGo
  show oV κ (oM x) 4 (oQi κ (oM x)) σ 0 [(0, .ref (xa x 0)), (1, .int a1)] [] _
  refine r_aldn (pc := 0) C dX10_mayGo_0 0 rfl ?_
  refine r_ildn (pc := 1) C dX10_mayGo_1 1 rfl ?_
  refine r_iconst (pc := 2) (v := (1 : Int32)) C dX10_mayGo_2 ic_1 ?_
  refine k_X10_it (x := x) (pc := 3) (a1 := a1) (a2 := (1 : Int32)) C gX10_mayGo_X10_it (by omega)  (Nat.le_of_ble_eq_true rfl) dX10_mayGo_3 (fun r2 s1 => ?_)
  refine r_istn (pc := 6) (lv' := [(0, _), (1, _), (2, _)]) C dX10_mayGo_6 (by decide) [1, 2, 0] rfl ?_
  refine r_aldn (pc := 7) C dX10_mayGo_7 0 rfl ?_
  refine gf_X10_0_0 (pc := 8) C hi_X10_mayGo_X10 wd_X10_mayGo_1 dX10_mayGo_8 ?_
  refine r_iconst (pc := 11) (v := (0 : Int32)) C dX10_mayGo_11 ic_0 ?_
  refine iald_oM_1 (pc := 12) C dX10_mayGo_12 ?_
  refine r_aldn (pc := 13) C dX10_mayGo_13 0 rfl ?_
  refine r_ildn (pc := 14) C dX10_mayGo_14 1 rfl ?_
  refine r_iconst (pc := 15) (v := (4 : Int32)) C dX10_mayGo_15 ic_4 ?_
  refine k_X10_it (x := x) (pc := 16) (a1 := a1) (a2 := (4 : Int32)) C gX10_mayGo_X10_it (by omega)  (Nat.le_of_ble_eq_true rfl) dX10_mayGo_16 (fun r4 s3 => ?_)
  refine r_isub (pc := 19) C dX10_mayGo_19 ?_
  refine r_nm (fun v5 => ?_)
  refine r_istn (pc := 20) (lv' := [(0, _), (1, _), (2, _), (3, _)]) C dX10_mayGo_20 (by decide) [1, 2, 3, 0] rfl ?_
  refine r_aldn (pc := 21) C dX10_mayGo_21 0 rfl ?_
  refine r_ildn (pc := 22) C dX10_mayGo_22 1 rfl ?_
  refine r_bipush (pc := 23) (v := (6 : Int32)) C dX10_mayGo_23 bp_6 ?_
  refine k_X10_it (x := x) (pc := 25) (a1 := a1) (a2 := (6 : Int32)) C gX10_mayGo_X10_it (by omega)  (Nat.le_of_ble_eq_true rfl) dX10_mayGo_25 (fun r7 s6 => ?_)
  refine r_iconst (pc := 28) (v := (1 : Int32)) C dX10_mayGo_28 ic_1 ?_
  refine r_icne (pc := 29) (tgt := 34) C dX10_mayGo_29 (by decide) ?_ ?_
  · refine r_aldn (pc := 34) C dX10_mayGo_34 0 rfl ?_
    refine r_ildn (pc := 35) C dX10_mayGo_35 1 rfl ?_
    refine r_iconst (pc := 36) (v := (0 : Int32)) C dX10_mayGo_36 ic_0 ?_
    refine k_X10_it (x := x) (pc := 37) (a1 := a1) (a2 := (0 : Int32)) C gX10_mayGo_X10_it (by omega)  (Nat.le_of_ble_eq_true rfl) dX10_mayGo_37 (fun r9 s8 => ?_)
    refine r_ite (fun c10 => ?_) (fun c10 => ?_)
    · refine r_tabE (pc := 40) (v := (1 : Int32)) (off := 40) (tgt := 80) C dX10_mayGo_40 c10 (by decide) (by decide) (by decide) (by decide) ?_
      refine r_ildn (pc := 80) C dX10_mayGo_80 3 rfl ?_
      refine r_bipush (pc := 81) (v := (7 : Int32)) C dX10_mayGo_81 bp_7 ?_
      refine r_iclt (pc := 83) (tgt := 98) C dX10_mayGo_83 (by decide) ?_ ?_
      · refine r_iconst (pc := 98) (v := (0 : Int32)) C dX10_mayGo_98 ic_0 ?_
        exact r_zret (pc := 99) C (by decide) dX10_mayGo_99
      · refine r_ildn (pc := 86) C dX10_mayGo_86 3 rfl ?_
        refine r_bipush (pc := 87) (v := (7 : Int32)) C dX10_mayGo_87 bp_7 ?_
        refine r_ildn (pc := 89) C dX10_mayGo_89 2 rfl ?_
        refine r_imul (pc := 90) C dX10_mayGo_90 ?_
        refine r_iclt (pc := 91) (tgt := 98) C dX10_mayGo_91 (by decide) ?_ ?_
        · refine r_iconst (pc := 98) (v := (0 : Int32)) C dX10_mayGo_98 ic_0 ?_
          exact r_zret (pc := 99) C (by decide) dX10_mayGo_99
        · refine r_iconst (pc := 94) (v := (1 : Int32)) C dX10_mayGo_94 ic_1 ?_
          refine r_goto (pc := 95) (tgt := 99) C dX10_mayGo_95 (by decide) ?_
          exact r_zret (pc := 99) C (by decide) dX10_mayGo_99
    · refine r_ite (fun c11 => ?_) (fun c11 => ?_)
      · refine r_tabE (pc := 40) (v := (2 : Int32)) (off := 60) (tgt := 100) C dX10_mayGo_40 c11 (by decide) (by decide) (by decide) (by decide) ?_
        refine r_ildn (pc := 100) C dX10_mayGo_100 3 rfl ?_
        refine r_iconst (pc := 101) (v := (1 : Int32)) C dX10_mayGo_101 ic_1 ?_
        refine r_iclt (pc := 102) (tgt := 109) C dX10_mayGo_102 (by decide) ?_ ?_
        · refine r_iconst (pc := 109) (v := (0 : Int32)) C dX10_mayGo_109 ic_0 ?_
          exact r_zret (pc := 110) C (by decide) dX10_mayGo_110
        · refine r_iconst (pc := 105) (v := (1 : Int32)) C dX10_mayGo_105 ic_1 ?_
          refine r_goto (pc := 106) (tgt := 110) C dX10_mayGo_106 (by decide) ?_
          exact r_zret (pc := 110) C (by decide) dX10_mayGo_110
      · refine r_ite (fun c12 => ?_) (fun c12 => ?_)
        · refine r_tabE (pc := 40) (v := (3 : Int32)) (off := 125) (tgt := 165) C dX10_mayGo_40 c12 (by decide) (by decide) (by decide) (by decide) ?_
          refine r_ildn (pc := 165) C dX10_mayGo_165 3 rfl ?_
          refine r_bipush (pc := 166) (v := (7 : Int32)) C dX10_mayGo_166 bp_7 ?_
          refine r_iclt (pc := 168) (tgt := 175) C dX10_mayGo_168 (by decide) ?_ ?_
          · refine r_iconst (pc := 175) (v := (0 : Int32)) C dX10_mayGo_175 ic_0 ?_
            exact r_zret (pc := 176) C (by decide) dX10_mayGo_176
          · refine r_iconst (pc := 171) (v := (1 : Int32)) C dX10_mayGo_171 ic_1 ?_
            refine r_goto (pc := 172) (tgt := 176) C dX10_mayGo_172 (by decide) ?_
            exact r_zret (pc := 176) C (by decide) dX10_mayGo_176
        · refine r_ite (fun c13 => ?_) (fun c13 => ?_)
          · refine r_tabE (pc := 40) (v := (4 : Int32)) (off := 71) (tgt := 111) C dX10_mayGo_40 c13 (by decide) (by decide) (by decide) (by decide) ?_
            refine r_ildn (pc := 111) C dX10_mayGo_111 2 rfl ?_
            refine r_ifne (pc := 112) (tgt := 125) C dX10_mayGo_112 (by decide) ?_ ?_
            · refine r_iconst (pc := 125) (v := (0 : Int32)) C dX10_mayGo_125 ic_0 ?_
              exact r_zret (pc := 126) C (by decide) dX10_mayGo_126
            · refine r_ildn (pc := 115) C dX10_mayGo_115 3 rfl ?_
              refine r_bipush (pc := 116) (v := (7 : Int32)) C dX10_mayGo_116 bp_7 ?_
              refine r_iclt (pc := 118) (tgt := 125) C dX10_mayGo_118 (by decide) ?_ ?_
              · refine r_iconst (pc := 125) (v := (0 : Int32)) C dX10_mayGo_125 ic_0 ?_
                exact r_zret (pc := 126) C (by decide) dX10_mayGo_126
              · refine r_iconst (pc := 121) (v := (1 : Int32)) C dX10_mayGo_121 ic_1 ?_
                refine r_goto (pc := 122) (tgt := 126) C dX10_mayGo_122 (by decide) ?_
                exact r_zret (pc := 126) C (by decide) dX10_mayGo_126
          · refine r_ite (fun c14 => ?_) (fun c14 => ?_)
            · refine r_tabE (pc := 40) (v := (5 : Int32)) (off := 87) (tgt := 127) C dX10_mayGo_40 c14 (by decide) (by decide) (by decide) (by decide) ?_
              refine r_ildn (pc := 127) C dX10_mayGo_127 3 rfl ?_
              refine r_iconst (pc := 128) (v := (1 : Int32)) C dX10_mayGo_128 ic_1 ?_
              refine r_iclt (pc := 129) (tgt := 141) C dX10_mayGo_129 (by decide) ?_ ?_
              · refine r_iconst (pc := 141) (v := (0 : Int32)) C dX10_mayGo_141 ic_0 ?_
                exact r_zret (pc := 142) C (by decide) dX10_mayGo_142
              · refine r_ildn (pc := 132) C dX10_mayGo_132 3 rfl ?_
                refine r_ildn (pc := 133) C dX10_mayGo_133 2 rfl ?_
                refine r_iclt (pc := 134) (tgt := 141) C dX10_mayGo_134 (by decide) ?_ ?_
                · refine r_iconst (pc := 141) (v := (0 : Int32)) C dX10_mayGo_141 ic_0 ?_
                  exact r_zret (pc := 142) C (by decide) dX10_mayGo_142
                · refine r_iconst (pc := 137) (v := (1 : Int32)) C dX10_mayGo_137 ic_1 ?_
                  refine r_goto (pc := 138) (tgt := 142) C dX10_mayGo_138 (by decide) ?_
                  exact r_zret (pc := 142) C (by decide) dX10_mayGo_142
            · refine r_ite (fun c15 => ?_) (fun c15 => ?_)
              · refine r_tabE (pc := 40) (v := (6 : Int32)) (off := 103) (tgt := 143) C dX10_mayGo_40 c15 (by decide) (by decide) (by decide) (by decide) ?_
                refine r_ildn (pc := 143) C dX10_mayGo_143 3 rfl ?_
                refine r_bipush (pc := 144) (v := (7 : Int32)) C dX10_mayGo_144 bp_7 ?_
                refine r_iclt (pc := 146) (tgt := 163) C dX10_mayGo_146 (by decide) ?_ ?_
                · refine r_iconst (pc := 163) (v := (0 : Int32)) C dX10_mayGo_163 ic_0 ?_
                  exact r_zret (pc := 164) C (by decide) dX10_mayGo_164
                · refine r_aldn (pc := 149) C dX10_mayGo_149 0 rfl ?_
                  refine gf_X10_0_0 (pc := 150) C hi_X10_mayGo_X10 wd_X10_mayGo_1 dX10_mayGo_150 ?_
                  refine r_iconst (pc := 153) (v := (3 : Int32)) C dX10_mayGo_153 ic_3 ?_
                  refine iald_oM_1 (pc := 154) C dX10_mayGo_154 ?_
                  refine r_iconst (pc := 155) (v := (1 : Int32)) C dX10_mayGo_155 ic_1 ?_
                  refine r_icne (pc := 156) (tgt := 163) C dX10_mayGo_156 (by decide) ?_ ?_
                  · refine r_iconst (pc := 163) (v := (0 : Int32)) C dX10_mayGo_163 ic_0 ?_
                    exact r_zret (pc := 164) C (by decide) dX10_mayGo_164
                  · refine r_iconst (pc := 159) (v := (1 : Int32)) C dX10_mayGo_159 ic_1 ?_
                    refine r_goto (pc := 160) (tgt := 164) C dX10_mayGo_160 (by decide) ?_
                    exact r_zret (pc := 164) C (by decide) dX10_mayGo_164
              · refine r_tabO (pc := 40) (tgt := 165) C dX10_mayGo_40 (by have q0 := lv_neT (k := (1 : Int32)) (a := 1) c10 (by decide); have q1 := lv_neT (k := (2 : Int32)) (a := 2) c11 (by decide); have q2 := lv_neT (k := (3 : Int32)) (a := 3) c12 (by decide); have q3 := lv_neT (k := (4 : Int32)) (a := 4) c13 (by decide); have q4 := lv_neT (k := (5 : Int32)) (a := 5) c14 (by decide); have q5 := lv_neT (k := (6 : Int32)) (a := 6) c15 (by decide); omega) (by decide) ?_
                refine r_ildn (pc := 165) C dX10_mayGo_165 3 rfl ?_
                refine r_bipush (pc := 166) (v := (7 : Int32)) C dX10_mayGo_166 bp_7 ?_
                refine r_iclt (pc := 168) (tgt := 175) C dX10_mayGo_168 (by decide) ?_ ?_
                · refine r_iconst (pc := 175) (v := (0 : Int32)) C dX10_mayGo_175 ic_0 ?_
                  exact r_zret (pc := 176) C (by decide) dX10_mayGo_176
                · refine r_iconst (pc := 171) (v := (1 : Int32)) C dX10_mayGo_171 ic_1 ?_
                  refine r_goto (pc := 172) (tgt := 176) C dX10_mayGo_172 (by decide) ?_
                  exact r_zret (pc := 176) C (by decide) dX10_mayGo_176
  · refine r_iconst (pc := 32) (v := (0 : Int32)) C dX10_mayGo_32 ic_0 ?_
    exact r_zret (pc := 33) C (by decide) dX10_mayGo_33
theorem k_X10_mayGo {κ : oK} {nL : Nat} {cc : ByteArray} {own : String} {Ts : List Cond} {n : Nat} {ret : Option FieldType} {α : Type} {Q : α → Sg → State → Prop} {σ : Sg} {pc : Nat} {lv : List (Nat × Value)} {st : List Value} {x : oXp} {idx : Nat} {a1 : Int32} {K : Int32 → Sg → Option (α × Sg)} (C : oC κ (oM x) nL cc own Ts n ret) (hG : GoodIn Ts (wsV own idx RX10 yX10_mayGo wsX10_mayGo)) (hn : 4 + 1 ≤ n) (hst : (st.map fun v => v.category).sum ≤ 8) (hd : decode cc pc = .ok (.invokevirtual idx, 3)) (kk : ∀ (r1 : Int32) (σ1 : Sg), oV κ (oM x) nL Q σ1 (pc + 3) lv (.int r1 :: st) (K r1 σ1)) : oV κ (oM x) nL Q σ pc lv (.int a1 :: .ref (xa x 0) :: st) (bnd (f_X10_mayGo a1 σ) K) := by
  have hI : oI (oM x) := oC_I C
  exact r_cVi (As := [.int a1]) (na := 1) (j := 0) (ci := 10) C (fun l => m_X10_mayGo l x hI a1 σ) hG rfl (by decide +kernel) rfl (by decide) hn (by show 0 < 14; decide) rfl rfl rfl rfl hst hd kk
