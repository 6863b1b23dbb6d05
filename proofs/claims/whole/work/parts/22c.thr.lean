set_option maxHeartbeats 4000000 in
theorem c_X10_play (n : Nat)  (s : Mem) : CTx YC yX10_play cX10_play 2 (some .int) rm_X10_play (fun ad => [.ref (ad 0)]) s xIAE (f_X10_play n  s) := by
  refine CTx_of (by decide) (fun _ => Nat.le_of_ble_eq_true rfl) (fun X C CR => ?_)
  show J YC X 2 (f_X10_play n  s) 0 [(0, .ref (adX X 0))] [] s
  unfold f_X10_play
  refine j_aload_n C dX10_play_0 0 rfl rfl ?_
  refine j_getA C kX10 kc_0 lc_0 2 (by decide) tw_477 rc_10_2 dX10_play_1 ?_
  refine j_callVi C (c_X4_read n  s) cw_RX10_81 ⟨rfl, rfl, Nat.le_of_ble_eq_true rfl, Nat.le_of_ble_eq_true rfl⟩ 31 kX4 kc_31 lc_31 [] [] rfl rfl rfl (Nat.le_of_ble_eq_true rfl) dX10_play_4 (fun x2 s1 => ?_)
  refine j_istore_n (L' := [(0, .ref (adX X 0)), (1, .int x2)]) C dX10_play_7 rfl (by decide) [1, 0] rfl ?_
  refine j_iload_n C dX10_play_8 1 rfl rfl ?_
  refine j_iconst (v := (-1 : Int32)) C dX10_play_9 (by decide) ?_
  refine j_icmp_ne (tgt := 35) C dX10_play_10 (by decide) ?_ ?_
  · refine j_aload_n C dX10_play_35 0 rfl rfl ?_
    refine j_getA C kX10 kc_0 lc_0 1 (by decide) tw_476 rc_10_1 dX10_play_36 ?_
    refine j_aload_n C dX10_play_39 0 rfl rfl ?_
    refine j_getA C kX10 kc_0 lc_0 0 (by decide) tw_475 rc_10_0 dX10_play_40 ?_
    refine j_callVn C (c_X3_copyFrom n 16 io_3_16 1 io_3_1 s1) cw_RX10_92 ⟨rfl, rfl, Nat.le_of_ble_eq_true rfl, Nat.le_of_ble_eq_true rfl⟩ 16 kX3 kc_16 lc_16 [.ref (adX X 1)] [] rfl rfl rfl (Nat.le_of_ble_eq_true rfl) dX10_play_43 (fun s3 => ?_)
    refine j_aload_n C dX10_play_46 0 rfl rfl ?_
    refine j_getA C kX10 kc_0 lc_0 0 (by decide) tw_475 rc_10_0 dX10_play_47 ?_
    refine j_getR (z := 2) C kX3 kc_1 lc_1 0 (by decide) tw_174 rc_3_0 rfl dX10_play_50 ?_
    refine j_iconst (v := (0 : Int32)) C dX10_play_53 (by decide) ?_
    refine j_callVi C (c_X8_cut n 2 io_8_2 (0 : Int32) s3) cw_RX10_77 ⟨rfl, rfl, Nat.le_of_ble_eq_true rfl, Nat.le_of_ble_eq_true rfl⟩ 2 kX8 kc_2 lc_2 [.int (0 : Int32)] [] rfl rfl rfl (Nat.le_of_ble_eq_true rfl) dX10_play_54 (fun x5 s4 => ?_)
    refine j_pop C dX10_play_57 rfl ?_
    refine j_aload_n C dX10_play_58 0 rfl rfl ?_
    refine j_getA C kX10 kc_0 lc_0 5 (by decide) tw_480 rc_10_5 dX10_play_59 ?_
    refine j_aload_n C dX10_play_62 0 rfl rfl ?_
    refine j_getA C kX10 kc_0 lc_0 1 (by decide) tw_476 rc_10_1 dX10_play_63 ?_
    refine j_callVn C (c_X1_lay n 16 io_3_16 s4) cw_RX10_95 ⟨rfl, rfl, Nat.le_of_ble_eq_true rfl, Nat.le_of_ble_eq_true rfl⟩ 109 kX1 kc_109 lc_109 [.ref (adX X 16)] [] rfl rfl rfl (Nat.le_of_ble_eq_true rfl) dX10_play_66 (fun s6 => ?_)
    refine j_aload_n C dX10_play_69 0 rfl rfl ?_
    refine j_getA C kX10 kc_0 lc_0 3 (by decide) tw_478 rc_10_3 dX10_play_70 ?_
    refine j_aload_n C dX10_play_73 0 rfl rfl ?_
    refine j_getA C kX10 kc_0 lc_0 1 (by decide) tw_476 rc_10_1 dX10_play_74 ?_
    refine j_callVn C (c_X7_open n 33 io_7_33 16 io_3_16 s6) cw_RX10_98 ⟨rfl, rfl, Nat.le_of_ble_eq_true rfl, Nat.le_of_ble_eq_true rfl⟩ 33 kX7 kc_33 lc_33 [.ref (adX X 16)] [] rfl rfl rfl (Nat.le_of_ble_eq_true rfl) dX10_play_77 (fun s7 => ?_)
    refine j_aload_n C dX10_play_80 0 rfl rfl ?_
    refine j_iconst (v := (0 : Int32)) C dX10_play_81 (by decide) ?_
    refine j_putZ C kX10 kc_0 lc_0 8 (by decide) tw_483 rc_10_8 rfl rfl dX10_play_82 (fun s8 => ?_)
    refine j_iload_n C dX10_play_85 1 rfl rfl ?_
    exact j_xret C CR dX10_play_86
  · refine j_aload_n C dX10_play_13 0 rfl rfl ?_
    refine j_getA C kX10 kc_0 lc_0 0 (by decide) tw_475 rc_10_0 dX10_play_14 ?_
    refine j_getR (z := 2) C kX3 kc_1 lc_1 0 (by decide) tw_174 rc_3_0 rfl dX10_play_17 ?_
    refine j_iconst (v := (0 : Int32)) C dX10_play_20 (by decide) ?_
    refine j_callVi C (c_X8_cut n 2 io_8_2 (0 : Int32) s1) cw_RX10_77 ⟨rfl, rfl, Nat.le_of_ble_eq_true rfl, Nat.le_of_ble_eq_true rfl⟩ 2 kX8 kc_2 lc_2 [.int (0 : Int32)] [] rfl rfl rfl (Nat.le_of_ble_eq_true rfl) dX10_play_21 (fun x10 s9 => ?_)
    refine j_pop C dX10_play_24 rfl ?_
    exact j_thr (text := "the tape has a fault") C CR xk_IAE xi_IAE (by decide +kernel) (by decide +kernel) xg1_IAE xg2_IAE xg3_IAE dX10_play_25 dX10_play_28 dX10_play_29 dX10_play_31 dX10_play_34 ⟨by decide, by decide, rfl, rfl⟩ (Nat.le_of_ble_eq_true rfl)
set_option maxHeartbeats 4000000 in
theorem jb_X10_set_10 {X : CtxT (Option Int32 × Mem)} (C : Cx YC X 4 cX10_set RX10 (some .int) rm_X10_set) (CR : CRx YC xNSE X)  (n : Nat)   (s : Mem) : J YC X 4 (b_X10_set_10  n   s) 10 [] [] s := by
  unfold b_X10_set_10
  exact j_thrN (text := "no such variable") C CR xk_NSE xi_NSE (by decide +kernel) (ns := xNs1) (Y1 := xRE) (by decide +kernel) (by decide +kernel) rfl xb0 xb1 xb2 xb5 (by decide +kernel) xg1_NSE xg2_NSE xg3_NSE dX10_set_10 dX10_set_13 dX10_set_14 dX10_set_16 dX10_set_19 ⟨by decide, by decide, rfl, rfl⟩ (Nat.le_of_ble_eq_true rfl)
set_option maxHeartbeats 4000000 in
theorem c_X10_set (n : Nat) (l1 : Int32) (l2 : Int32) (s : Mem) : CTx YC yX10_set cX10_set 4 (some .int) rm_X10_set (fun ad => [.ref (ad 0), .int l1, .int l2]) s xNSE (f_X10_set n l1 l2 s) := by
  refine CTx_of (by decide) (fun _ => Nat.le_of_ble_eq_true rfl) (fun X C CR => ?_)
  show J YC X 4 (f_X10_set n l1 l2 s) 0 [(0, .ref (adX X 0)), (1, .int l1), (2, .int l2)] [] s
  unfold f_X10_set
  refine j_iload_n C dX10_set_0 1 rfl rfl ?_
  refine j_if_lt (tgt := 10) C dX10_set_1 (by decide) ?_ ?_
  · refine j_sub (L' := []) [] rfl ?_
    exact jb_X10_set_10 C CR  n s
  · refine j_iload_n C dX10_set_4 1 rfl rfl ?_
    refine j_bipush (v := (64 : Int32)) C dX10_set_5 (by decide) ?_
    refine j_icmp_lt (tgt := 20) C dX10_set_7 (by decide) ?_ ?_
    · refine j_aload_n C dX10_set_20 0 rfl rfl ?_
      refine j_getA C kX10 kc_0 lc_0 3 (by decide) tw_478 rc_10_3 dX10_set_21 ?_
      refine j_getR (z := 34) C kX7 kc_33 lc_33 6 (by decide) tw_334 rc_7_6 rfl dX10_set_24 ?_
      refine j_iload_n C dX10_set_27 1 rfl rfl ?_
      refine j_iald C kc_34 lc_34 dX10_set_28 ?_
      refine j_istore_n (L' := [(0, .ref (adX X 0)), (1, .int l1), (2, .int l2), (3, .int (s 34 l1.toNatClampNeg))]) C dX10_set_29 rfl (by decide) [1, 2, 3, 0] rfl ?_
      refine j_aload_n C dX10_set_30 0 rfl rfl ?_
      refine j_getA C kX10 kc_0 lc_0 3 (by decide) tw_478 rc_10_3 dX10_set_31 ?_
      refine j_getR (z := 34) C kX7 kc_33 lc_33 6 (by decide) tw_334 rc_7_6 rfl dX10_set_34 ?_
      refine j_iload_n C dX10_set_37 1 rfl rfl ?_
      refine j_iload_n C dX10_set_38 2 rfl rfl ?_
      refine j_iast C kc_34 lc_34 dX10_set_39 (fun s1 => ?_)
      refine j_iload_n C dX10_set_40 3 rfl rfl ?_
      exact j_xret C CR dX10_set_41
    · refine j_sub (L' := []) [] rfl ?_
      exact jb_X10_set_10 C CR  n s
set_option maxHeartbeats 4000000 in
theorem jb_X10_variable_10 {X : CtxT (Option Int32 × Mem)} (C : Cx YC X 2 cX10_variable RX10 (some .int) rm_X10_variable) (CR : CRx YC xNSE X)  (n : Nat)   (s : Mem) : J YC X 2 (b_X10_variable_10  n   s) 10 [] [] s := by
  unfold b_X10_variable_10
  exact j_thrN (text := "no such variable") C CR xk_NSE xi_NSE (by decide +kernel) (ns := xNs1) (Y1 := xRE) (by decide +kernel) (by decide +kernel) rfl xb0 xb1 xb2 xb5 (by decide +kernel) xg1_NSE xg2_NSE xg3_NSE dX10_variable_10 dX10_variable_13 dX10_variable_14 dX10_variable_16 dX10_variable_19 ⟨by decide, by decide, rfl, rfl⟩ (Nat.le_of_ble_eq_true rfl)
set_option maxHeartbeats 4000000 in
theorem c_X10_variable (n : Nat) (l1 : Int32) (s : Mem) : CTx YC yX10_variable cX10_variable 2 (some .int) rm_X10_variable (fun ad => [.ref (ad 0), .int l1]) s xNSE (f_X10_variable n l1 s) := by
  refine CTx_of (by decide) (fun _ => Nat.le_of_ble_eq_true rfl) (fun X C CR => ?_)
  show J YC X 2 (f_X10_variable n l1 s) 0 [(0, .ref (adX X 0)), (1, .int l1)] [] s
  unfold f_X10_variable
  refine j_iload_n C dX10_variable_0 1 rfl rfl ?_
  refine j_if_lt (tgt := 10) C dX10_variable_1 (by decide) ?_ ?_
  · refine j_sub (L' := []) [] rfl ?_
    exact jb_X10_variable_10 C CR  n s
  · refine j_iload_n C dX10_variable_4 1 rfl rfl ?_
    refine j_bipush (v := (64 : Int32)) C dX10_variable_5 (by decide) ?_
    refine j_icmp_lt (tgt := 20) C dX10_variable_7 (by decide) ?_ ?_
    · refine j_aload_n C dX10_variable_20 0 rfl rfl ?_
      refine j_getA C kX10 kc_0 lc_0 3 (by decide) tw_478 rc_10_3 dX10_variable_21 ?_
      refine j_getR (z := 34) C kX7 kc_33 lc_33 6 (by decide) tw_334 rc_7_6 rfl dX10_variable_24 ?_
      refine j_iload_n C dX10_variable_27 1 rfl rfl ?_
      refine j_iald C kc_34 lc_34 dX10_variable_28 ?_
      exact j_xret C CR dX10_variable_29
    · refine j_sub (L' := []) [] rfl ?_
      exact jb_X10_variable_10 C CR  n s
set_option maxHeartbeats 4000000 in
theorem jb_X10_actor_24 {X : CtxT (Option Int32 × Mem)} (C : Cx YC X 4 cX10_actor RX10 (some .int) rm_X10_actor) (CR : CRx YC xNSE X)  (n : Nat)   (s : Mem) : J YC X 4 (b_X10_actor_24  n   s) 24 [] [] s := by
  unfold b_X10_actor_24
  exact j_thrN (text := "no such actor, or nothing such of it") C CR xk_NSE xi_NSE (by decide +kernel) (ns := xNs1) (Y1 := xRE) (by decide +kernel) (by decide +kernel) rfl xb0 xb1 xb2 xb5 (by decide +kernel) xg1_NSE xg2_NSE xg3_NSE dX10_actor_24 dX10_actor_27 dX10_actor_28 dX10_actor_30 dX10_actor_33 ⟨by decide, by decide, rfl, rfl⟩ (Nat.le_of_ble_eq_true rfl)
set_option maxHeartbeats 4000000 in
theorem jb_X10_actor_66 {X : CtxT (Option Int32 × Mem)} (C : Cx YC X 4 cX10_actor RX10 (some .int) rm_X10_actor) (CR : CRx YC xNSE X)  (n : Nat)  (t0 : Int32) (s : Mem) : J YC X 4 (b_X10_actor_66  n  t0 s) 66 [] [.int t0] s := by
  unfold b_X10_actor_66
  exact j_xret C CR dX10_actor_66
set_option maxHeartbeats 4000000 in
theorem c_X10_actor (n : Nat) (l1 : Int32) (l2 : Int32) (s : Mem) : CTx YC yX10_actor cX10_actor 4 (some .int) rm_X10_actor (fun ad => [.ref (ad 0), .int l1, .int l2]) s xNSE (f_X10_actor n l1 l2 s) := by
  refine CTx_of (by decide) (fun _ => Nat.le_of_ble_eq_true rfl) (fun X C CR => ?_)
  show J YC X 4 (f_X10_actor n l1 l2 s) 0 [(0, .ref (adX X 0)), (1, .int l1), (2, .int l2)] [] s
  unfold f_X10_actor
  refine j_aload_n C dX10_actor_0 0 rfl rfl ?_
  refine j_getA C kX10 kc_0 lc_0 1 (by decide) tw_476 rc_10_1 dX10_actor_1 ?_
  refine j_getR (z := 28) C kX3 kc_16 lc_16 4 (by decide) tw_192 rc_3_4 rfl dX10_actor_4 ?_
  refine j_iload_n C dX10_actor_7 1 rfl rfl ?_
  refine j_callVi C (c_X2_has n 28 io_2_28 l1 s) cw_RX10_151 ⟨rfl, rfl, Nat.le_of_ble_eq_true rfl, Nat.le_of_ble_eq_true rfl⟩ 28 kX2 kc_28 lc_28 [.int l1] [] rfl rfl rfl (Nat.le_of_ble_eq_true rfl) dX10_actor_8 (fun x2 s1 => ?_)
  refine j_if_eq (tgt := 24) C dX10_actor_11 (by decide) ?_ ?_
  · refine j_sub (L' := []) [] rfl ?_
    exact jb_X10_actor_24 C CR  n s1
  · refine j_iload_n C dX10_actor_14 2 rfl rfl ?_
    refine j_if_lt (tgt := 24) C dX10_actor_15 (by decide) ?_ ?_
    · refine j_sub (L' := []) [] rfl ?_
      exact jb_X10_actor_24 C CR  n s1
    · refine j_iload_n C dX10_actor_18 2 rfl rfl ?_
      refine j_bipush (v := (7 : Int32)) C dX10_actor_19 (by decide) ?_
      refine j_icmp_le (tgt := 34) C dX10_actor_21 (by decide) ?_ ?_
      · refine j_aload_n C dX10_actor_34 0 rfl rfl ?_
        refine j_getA C kX10 kc_0 lc_0 3 (by decide) tw_478 rc_10_3 dX10_actor_35 ?_
        refine j_getR (z := 41) C kX7 kc_33 lc_33 13 (by decide) tw_353 rc_7_13 rfl dX10_actor_38 ?_
        refine j_iload_n C dX10_actor_41 1 rfl rfl ?_
        refine j_aald4 C kc_41 lc_41 dX10_actor_42 (fun z3 e_z3 => ?_)
        have h_z3 : isO 0 z3 := (pe_7_8 _ io_7_33 _ e_z3)
        refine j_astore_n (L' := [(0, .ref (adX X 0)), (1, .int l1), (2, .int l2), (3, .ref (adX X z3))]) C dX10_actor_43 rfl (by decide) [1, 2, 3, 0] rfl ?_
        refine j_iload_n C dX10_actor_44 2 rfl rfl ?_
        refine j_bipush (v := (7 : Int32)) C dX10_actor_45 (by decide) ?_
        refine j_icmp_ne (tgt := 61) C dX10_actor_47 (by decide) ?_ ?_
        · refine j_aload_n C dX10_actor_61 3 rfl rfl ?_
          refine j_iload_n C dX10_actor_62 2 rfl rfl ?_
          refine j_callVi C (c_X0_number n z3 h_z3 l2 s1) cw_RX10_165 ⟨rfl, rfl, Nat.le_of_ble_eq_true rfl, Nat.le_of_ble_eq_true rfl⟩ z3 kX0 (pk_0_0 _ h_z3) (pl_0_0 _ h_z3) [.int l2] [] rfl rfl rfl (Nat.le_of_ble_eq_true rfl) dX10_actor_63 (fun x5 s4 => ?_)
          refine j_sub (L' := []) [] rfl ?_
          exact jb_X10_actor_66 C CR  n x5 s4
        · refine j_aload_n C dX10_actor_50 0 rfl rfl ?_
          refine j_getA C kX10 kc_0 lc_0 6 (by decide) tw_481 rc_10_6 dX10_actor_51 ?_
          refine j_aload_n C dX10_actor_54 3 rfl rfl ?_
          refine j_callVi C (c_X9_boxOf n z3 h_z3 s1) cw_RX10_161 ⟨rfl, rfl, Nat.le_of_ble_eq_true rfl, Nat.le_of_ble_eq_true rfl⟩ 116 kX9 kc_116 lc_116 [.ref (adX X z3)] [] rfl rfl rfl (Nat.le_of_ble_eq_true rfl) dX10_actor_55 (fun x7 s6 => ?_)
          refine j_goto (tgt := 66) C dX10_actor_58 (by decide) ?_
          refine j_sub (L' := []) [] rfl ?_
          exact jb_X10_actor_66 C CR  n x7 s6
      · refine j_sub (L' := []) [] rfl ?_
        exact jb_X10_actor_24 C CR  n s1
set_option maxHeartbeats 4000000 in
theorem jb_X10_object_23 {X : CtxT (Option Int32 × Mem)} (C : Cx YC X 3 cX10_object RX10 (some .int) rm_X10_object) (CR : CRx YC xNSE X)  (n : Nat)   (s : Mem) : J YC X 3 (b_X10_object_23  n   s) 23 [] [] s := by
  unfold b_X10_object_23
  exact j_thrN (text := "no such object, or nothing such of it") C CR xk_NSE xi_NSE (by decide +kernel) (ns := xNs1) (Y1 := xRE) (by decide +kernel) (by decide +kernel) rfl xb0 xb1 xb2 xb5 (by decide +kernel) xg1_NSE xg2_NSE xg3_NSE dX10_object_23 dX10_object_26 dX10_object_27 dX10_object_29 dX10_object_32 ⟨by decide, by decide, rfl, rfl⟩ (Nat.le_of_ble_eq_true rfl)
set_option maxHeartbeats 4000000 in
theorem c_X10_object (n : Nat) (l1 : Int32) (l2 : Int32) (s : Mem) : CTx YC yX10_object cX10_object 3 (some .int) rm_X10_object (fun ad => [.ref (ad 0), .int l1, .int l2]) s xNSE (f_X10_object n l1 l2 s) := by
  refine CTx_of (by decide) (fun _ => Nat.le_of_ble_eq_true rfl) (fun X C CR => ?_)
  show J YC X 3 (f_X10_object n l1 l2 s) 0 [(0, .ref (adX X 0)), (1, .int l1), (2, .int l2)] [] s
  unfold f_X10_object
  refine j_aload_n C dX10_object_0 0 rfl rfl ?_
  refine j_getA C kX10 kc_0 lc_0 1 (by decide) tw_476 rc_10_1 dX10_object_1 ?_
  refine j_getR (z := 25) C kX3 kc_16 lc_16 3 (by decide) tw_186 rc_3_3 rfl dX10_object_4 ?_
  refine j_iload_n C dX10_object_7 1 rfl rfl ?_
  refine j_callVi C (c_X2_has n 25 io_2_25 l1 s) cw_RX10_151 ⟨rfl, rfl, Nat.le_of_ble_eq_true rfl, Nat.le_of_ble_eq_true rfl⟩ 25 kX2 kc_25 lc_25 [.int l1] [] rfl rfl rfl (Nat.le_of_ble_eq_true rfl) dX10_object_8 (fun x2 s1 => ?_)
  refine j_if_eq (tgt := 23) C dX10_object_11 (by decide) ?_ ?_
  · refine j_sub (L' := []) [] rfl ?_
    exact jb_X10_object_23 C CR  n s1
  · refine j_iload_n C dX10_object_14 2 rfl rfl ?_
    refine j_if_lt (tgt := 23) C dX10_object_15 (by decide) ?_ ?_
    · refine j_sub (L' := []) [] rfl ?_
      exact jb_X10_object_23 C CR  n s1
    · refine j_iload_n C dX10_object_18 2 rfl rfl ?_
      refine j_iconst (v := (5 : Int32)) C dX10_object_19 (by decide) ?_
      refine j_icmp_le (tgt := 33) C dX10_object_20 (by decide) ?_ ?_
      · refine j_iload_n C dX10_object_33 2 rfl rfl ?_
        refine j_ite (fun hc => ?_) (fun hc0 => ?_)
        · refine j_tswI (off := 26) (tgt := 60) C dX10_object_34 (by rw [hc]; decide) (by rw [hc]; decide) (by rw [hc]; rfl) (by decide) ?_
          refine j_aload_n C dX10_object_60 0 rfl rfl ?_
          refine j_getA C kX10 kc_0 lc_0 3 (by decide) tw_478 rc_10_3 dX10_object_61 ?_
          refine j_getR (z := 37) C kX7 kc_33 lc_33 9 (by decide) tw_340 rc_7_9 rfl dX10_object_64 ?_
          refine j_iload_n C dX10_object_67 1 rfl rfl ?_
          refine j_iald C kc_37 lc_37 dX10_object_68 ?_
          exact j_xret C CR dX10_object_69
        refine j_ite (fun hc => ?_) (fun hc1 => ?_)
        · refine j_tswI (off := 36) (tgt := 70) C dX10_object_34 (by rw [hc]; decide) (by rw [hc]; decide) (by rw [hc]; rfl) (by decide) ?_
          refine j_aload_n C dX10_object_70 0 rfl rfl ?_
          refine j_getA C kX10 kc_0 lc_0 3 (by decide) tw_478 rc_10_3 dX10_object_71 ?_
          refine j_getR (z := 38) C kX7 kc_33 lc_33 10 (by decide) tw_343 rc_7_10 rfl dX10_object_74 ?_
          refine j_iload_n C dX10_object_77 1 rfl rfl ?_
          refine j_iald C kc_38 lc_38 dX10_object_78 ?_
          exact j_xret C CR dX10_object_79
        refine j_ite (fun hc => ?_) (fun hc2 => ?_)
        · refine j_tswI (off := 46) (tgt := 80) C dX10_object_34 (by rw [hc]; decide) (by rw [hc]; decide) (by rw [hc]; rfl) (by decide) ?_
          refine j_aload_n C dX10_object_80 0 rfl rfl ?_
          refine j_getA C kX10 kc_0 lc_0 1 (by decide) tw_476 rc_10_1 dX10_object_81 ?_
          refine j_iload_n C dX10_object_84 1 rfl rfl ?_
          refine j_callVi C (c_X3_verbsOf n 16 io_3_16 l1 s1) cw_RX10_179 ⟨rfl, rfl, Nat.le_of_ble_eq_true rfl, Nat.le_of_ble_eq_true rfl⟩ 16 kX3 kc_16 lc_16 [.int l1] [] rfl rfl rfl (Nat.le_of_ble_eq_true rfl) dX10_object_85 (fun x4 s3 => ?_)
          exact j_xret C CR dX10_object_88
        refine j_tswO (tgt := 89) C dX10_object_34 (by omega) (by decide) ?_
        refine j_aload_n C dX10_object_89 0 rfl rfl ?_
        refine j_getA C kX10 kc_0 lc_0 1 (by decide) tw_476 rc_10_1 dX10_object_90 ?_
        refine j_iload_n C dX10_object_93 1 rfl rfl ?_
        refine j_iload_n C dX10_object_94 2 rfl rfl ?_
        refine j_callVi C (c_X3_whereIs n 16 io_3_16 l1 l2 s1) cw_RX10_182 ⟨rfl, rfl, Nat.le_of_ble_eq_true rfl, Nat.le_of_ble_eq_true rfl⟩ 16 kX3 kc_16 lc_16 [.int l1, .int l2] [] rfl rfl rfl (Nat.le_of_ble_eq_true rfl) dX10_object_95 (fun x6 s5 => ?_)
        exact j_xret C CR dX10_object_98
      · refine j_sub (L' := []) [] rfl ?_
        exact jb_X10_object_23 C CR  n s1
set_option maxHeartbeats 4000000 in
theorem jb_X10_note_21 {X : CtxT (Option Int32 × Mem)} (C : Cx YC X 2 cX10_note RX10 (some .int) rm_X10_note) (CR : CRx YC xNSE X)  (n : Nat)   (s : Mem) : J YC X 2 (b_X10_note_21  n   s) 21 [] [] s := by
  unfold b_X10_note_21
  exact j_thrN (text := "not so many notes") C CR xk_NSE xi_NSE (by decide +kernel) (ns := xNs1) (Y1 := xRE) (by decide +kernel) (by decide +kernel) rfl xb0 xb1 xb2 xb5 (by decide +kernel) xg1_NSE xg2_NSE xg3_NSE dX10_note_21 dX10_note_24 dX10_note_25 dX10_note_27 dX10_note_30 ⟨by decide, by decide, rfl, rfl⟩ (Nat.le_of_ble_eq_true rfl)
set_option maxHeartbeats 4000000 in
theorem c_X10_note (n : Nat) (l1 : Int32) (s : Mem) : CTx YC yX10_note cX10_note 2 (some .int) rm_X10_note (fun ad => [.ref (ad 0), .int l1]) s xNSE (f_X10_note n l1 s) := by
  refine CTx_of (by decide) (fun _ => Nat.le_of_ble_eq_true rfl) (fun X C CR => ?_)
  show J YC X 2 (f_X10_note n l1 s) 0 [(0, .ref (adX X 0)), (1, .int l1)] [] s
  unfold f_X10_note
  refine j_iload_n C dX10_note_0 1 rfl rfl ?_
  refine j_if_lt (tgt := 21) C dX10_note_1 (by decide) ?_ ?_
  · refine j_sub (L' := []) [] rfl ?_
    exact jb_X10_note_21 C CR  n s
  · refine j_iload_n C dX10_note_4 1 rfl rfl ?_
    refine j_bipush (v := (64 : Int32)) C dX10_note_5 (by decide) ?_
    refine j_icmp_ge (tgt := 21) C dX10_note_7 (by decide) ?_ ?_
    · refine j_sub (L' := []) [] rfl ?_
      exact jb_X10_note_21 C CR  n s
    · refine j_iload_n C dX10_note_10 1 rfl rfl ?_
      refine j_aload_n C dX10_note_11 0 rfl rfl ?_
      refine j_getA C kX10 kc_0 lc_0 3 (by decide) tw_478 rc_10_3 dX10_note_12 ?_
      refine j_get C kX7 kc_33 lc_33 2 (by decide) tw_322 rc_7_2 dX10_note_15 ?_
      refine j_icmp_lt (tgt := 31) C dX10_note_18 (by decide) ?_ ?_
      · refine j_aload_n C dX10_note_31 0 rfl rfl ?_
        refine j_getA C kX10 kc_0 lc_0 3 (by decide) tw_478 rc_10_3 dX10_note_32 ?_
        refine j_getR (z := 35) C kX7 kc_33 lc_33 7 (by decide) tw_336 rc_7_7 rfl dX10_note_35 ?_
        refine j_aload_n C dX10_note_38 0 rfl rfl ?_
        refine j_getA C kX10 kc_0 lc_0 3 (by decide) tw_478 rc_10_3 dX10_note_39 ?_
        refine j_get C kX7 kc_33 lc_33 2 (by decide) tw_322 rc_7_2 dX10_note_42 ?_
        refine j_iconst (v := (1 : Int32)) C dX10_note_45 (by decide) ?_
        refine j_isub C dX10_note_46 ?_
        refine j_iload_n C dX10_note_47 1 rfl rfl ?_
        refine j_isub C dX10_note_48 ?_
        refine j_bipush (v := (64 : Int32)) C dX10_note_49 (by decide) ?_
        refine j_irem C dX10_note_51 ?_
        refine j_iald C kc_35 lc_35 dX10_note_52 ?_
        exact j_xret C CR dX10_note_53
      · refine j_sub (L' := []) [] rfl ?_
        exact jb_X10_note_21 C CR  n s
set_option maxHeartbeats 4000000 in
theorem jb_X10_sentence_24 {X : CtxT (Option Int32 × Mem)} (C : Cx YC X 3 cX10_sentence RX10 (some .int) rm_X10_sentence) (CR : CRx YC xNSE X)  (n : Nat)   (s : Mem) : J YC X 3 (b_X10_sentence_24  n   s) 24 [] [] s := by
  unfold b_X10_sentence_24
  exact j_thrN (text := "no such sentence, or nothing such of it") C CR xk_NSE xi_NSE (by decide +kernel) (ns := xNs1) (Y1 := xRE) (by decide +kernel) (by decide +kernel) rfl xb0 xb1 xb2 xb5 (by decide +kernel) xg1_NSE xg2_NSE xg3_NSE dX10_sentence_24 dX10_sentence_27 dX10_sentence_28 dX10_sentence_30 dX10_sentence_33 ⟨by decide, by decide, rfl, rfl⟩ (Nat.le_of_ble_eq_true rfl)
set_option maxHeartbeats 4000000 in
theorem c_X10_sentence (n : Nat) (l1 : Int32) (l2 : Int32) (s : Mem) : CTx YC yX10_sentence cX10_sentence 3 (some .int) rm_X10_sentence (fun ad => [.ref (ad 0), .int l1, .int l2]) s xNSE (f_X10_sentence n l1 l2 s) := by
  refine CTx_of (by decide) (fun _ => Nat.le_of_ble_eq_true rfl) (fun X C CR => ?_)
  show J YC X 3 (f_X10_sentence n l1 l2 s) 0 [(0, .ref (adX X 0)), (1, .int l1), (2, .int l2)] [] s
  unfold f_X10_sentence
  refine j_iload_n C dX10_sentence_0 1 rfl rfl ?_
  refine j_if_lt (tgt := 24) C dX10_sentence_1 (by decide) ?_ ?_
  · refine j_sub (L' := []) [] rfl ?_
    exact jb_X10_sentence_24 C CR  n s
  · refine j_iload_n C dX10_sentence_4 1 rfl rfl ?_
    refine j_aload_n C dX10_sentence_5 0 rfl rfl ?_
    refine j_getA C kX10 kc_0 lc_0 3 (by decide) tw_478 rc_10_3 dX10_sentence_6 ?_
    refine j_get C kX7 kc_33 lc_33 5 (by decide) tw_331 rc_7_5 dX10_sentence_9 ?_
    refine j_icmp_ge (tgt := 24) C dX10_sentence_12 (by decide) ?_ ?_
    · refine j_sub (L' := []) [] rfl ?_
      exact jb_X10_sentence_24 C CR  n s
    · refine j_iload_n C dX10_sentence_15 2 rfl rfl ?_
      refine j_if_lt (tgt := 24) C dX10_sentence_16 (by decide) ?_ ?_
      · refine j_sub (L' := []) [] rfl ?_
        exact jb_X10_sentence_24 C CR  n s
      · refine j_iload_n C dX10_sentence_19 2 rfl rfl ?_
        refine j_iconst (v := (3 : Int32)) C dX10_sentence_20 (by decide) ?_
        refine j_icmp_lt (tgt := 34) C dX10_sentence_21 (by decide) ?_ ?_
        · refine j_aload_n C dX10_sentence_34 0 rfl rfl ?_
          refine j_getA C kX10 kc_0 lc_0 3 (by decide) tw_478 rc_10_3 dX10_sentence_35 ?_
          refine j_getR (z := 36) C kX7 kc_33 lc_33 8 (by decide) tw_338 rc_7_8 rfl dX10_sentence_38 ?_
          refine j_iload_n C dX10_sentence_41 1 rfl rfl ?_
          refine j_iconst (v := (3 : Int32)) C dX10_sentence_42 (by decide) ?_
          refine j_imul C dX10_sentence_43 ?_
          refine j_iload_n C dX10_sentence_44 2 rfl rfl ?_
          refine j_iadd C dX10_sentence_45 ?_
          refine j_iald C kc_36 lc_36 dX10_sentence_46 ?_
          exact j_xret C CR dX10_sentence_47
        · refine j_sub (L' := []) [] rfl ?_
          exact jb_X10_sentence_24 C CR  n s
