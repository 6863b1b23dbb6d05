set_option maxHeartbeats 4000000 in
theorem jb_X5_askActor_130 {X : CtxT (Int32 × Mem)} (C : Cx YC X 4 cX5_askActor RX5 (some .int) rm_X5_askActor) (CR : CRi YC X)  (n : Nat)  (t0 : Int32) (u1 : Nat) (h_u1 : isO 6 u1) (s : Mem) : J YC X 4 (b_X5_askActor_130  n  t0 u1 s) 130 [] [.int t0, .ref (adX X u1), .ref (adX X 118)] s := by
  unfold b_X5_askActor_130
  refine j_callVi C (c_X5_store n u1 h_u1 t0 s) cw_RX5_299 ⟨rfl, rfl, Nat.le_of_ble_eq_true rfl, Nat.le_of_ble_eq_true rfl⟩ 118 kX5 kc_118 lc_118 [.ref (adX X u1), .int t0] [] rfl rfl rfl (Nat.le_of_ble_eq_true rfl) dX5_askActor_130 (fun x2 s1 => ?_)
  exact j_iret C CR dX5_askActor_133
set_option maxHeartbeats 4000000 in
theorem c_X5_askActor (n : Nat) (r1 : Nat) (h_r1 : isO 6 r1) (l2 : Int32) (s : Mem) : CTi YC yX5_askActor cX5_askActor 4 (some .int) rm_X5_askActor (fun ad => [.ref (ad 118), .ref (ad r1), .int l2]) s (f_X5_askActor n r1 l2 s) := by
  refine CTi_of (by decide) (fun _ => Nat.le_of_ble_eq_true rfl) (fun X C CR => ?_)
  show J YC X 4 (f_X5_askActor n r1 l2 s) 0 [(0, .ref (adX X 118)), (1, .ref (adX X r1)), (2, .int l2)] [] s
  unfold f_X5_askActor
  refine j_aload_n C dX5_askActor_0 0 rfl rfl ?_
  refine j_getA C kX5 kc_118 lc_118 0 (by decide) tw_444 rc_5_0 dX5_askActor_1 ?_
  refine j_getR (z := 28) C kX3 kc_16 lc_16 4 (by decide) tw_190 rc_3_4 rfl dX5_askActor_4 ?_
  refine j_aload_n C dX5_askActor_7 0 rfl rfl ?_
  refine j_getR (z := 119) C kX5 kc_118 lc_118 4 (by decide) tw_448 rc_5_4 rfl dX5_askActor_8 ?_
  refine j_iconst (v := (0 : Int32)) C dX5_askActor_11 (by decide) ?_
  refine j_iald C kc_119 lc_119 dX5_askActor_12 ?_
  refine j_callVi C (c_X2_has n 28 io_2_28 (s 119 (0 : Int32).toNatClampNeg) s) cw_RX5_69 ⟨rfl, rfl, Nat.le_of_ble_eq_true rfl, Nat.le_of_ble_eq_true rfl⟩ 28 kX2 kc_28 lc_28 [.int (s 119 (0 : Int32).toNatClampNeg)] [] rfl rfl rfl (Nat.le_of_ble_eq_true rfl) dX5_askActor_13 (fun x2 s1 => ?_)
  refine j_if_ne (tgt := 21) C dX5_askActor_16 (by decide) ?_ ?_
  · refine j_aload_n C dX5_askActor_21 0 rfl rfl ?_
    refine j_getA C kX5 kc_118 lc_118 2 (by decide) tw_446 rc_5_2 dX5_askActor_22 ?_
    refine j_getR (z := 41) C kX7 kc_33 lc_33 13 (by decide) tw_352 rc_7_13 rfl dX5_askActor_25 ?_
    refine j_aload_n C dX5_askActor_28 0 rfl rfl ?_
    refine j_getR (z := 119) C kX5 kc_118 lc_118 4 (by decide) tw_448 rc_5_4 rfl dX5_askActor_29 ?_
    refine j_iconst (v := (0 : Int32)) C dX5_askActor_32 (by decide) ?_
    refine j_iald C kc_119 lc_119 dX5_askActor_33 ?_
    refine j_aald4 C kc_41 lc_41 dX5_askActor_34 (fun z3 e_z3 => ?_)
    have h_z3 : isO 0 z3 := (pe_7_8 _ io_7_33 _ e_z3)
    refine j_astore_n (L' := [(0, .ref (adX X 118)), (1, .ref (adX X r1)), (2, .int l2), (3, .ref (adX X z3))]) C dX5_askActor_35 rfl (by decide) [1, 2, 3, 0] rfl ?_
    refine j_iload_n C dX5_askActor_36 2 rfl rfl ?_
    refine j_ite (fun hc => ?_) (fun hc0 => ?_)
    · refine j_tswI (off := 35) (tgt := 72) C dX5_askActor_37 (by rw [hc]; decide) (by rw [hc]; decide) (by rw [hc]; rfl) (by decide) ?_
      refine j_aload_n C dX5_askActor_72 0 rfl rfl ?_
      refine j_aload_n C dX5_askActor_73 1 rfl rfl ?_
      refine j_aload_n C dX5_askActor_74 3 rfl rfl ?_
      refine j_get C kX0 (pk_0_0 _ h_z3) (pl_0_0 _ h_z3) 1 (by decide) tw_286 rc_0_1 dX5_askActor_75 ?_
      refine j_callVi C (c_X5_store n r1 h_r1 (s1 z3 1) s1) cw_RX5_299 ⟨rfl, rfl, Nat.le_of_ble_eq_true rfl, Nat.le_of_ble_eq_true rfl⟩ 118 kX5 kc_118 lc_118 [.ref (adX X r1), .int (s1 z3 1)] [] rfl rfl rfl (Nat.le_of_ble_eq_true rfl) dX5_askActor_78 (fun x5 s4 => ?_)
      exact j_iret C CR dX5_askActor_81
    refine j_ite (fun hc => ?_) (fun hc1 => ?_)
    · refine j_tswI (off := 45) (tgt := 82) C dX5_askActor_37 (by rw [hc]; decide) (by rw [hc]; decide) (by rw [hc]; rfl) (by decide) ?_
      refine j_aload_n C dX5_askActor_82 0 rfl rfl ?_
      refine j_aload_n C dX5_askActor_83 1 rfl rfl ?_
      refine j_aload_n C dX5_askActor_84 3 rfl rfl ?_
      refine j_get C kX0 (pk_0_0 _ h_z3) (pl_0_0 _ h_z3) 2 (by decide) tw_289 rc_0_2 dX5_askActor_85 ?_
      refine j_callVi C (c_X5_store n r1 h_r1 (s1 z3 2) s1) cw_RX5_299 ⟨rfl, rfl, Nat.le_of_ble_eq_true rfl, Nat.le_of_ble_eq_true rfl⟩ 118 kX5 kc_118 lc_118 [.ref (adX X r1), .int (s1 z3 2)] [] rfl rfl rfl (Nat.le_of_ble_eq_true rfl) dX5_askActor_88 (fun x7 s6 => ?_)
      exact j_iret C CR dX5_askActor_91
    refine j_ite (fun hc => ?_) (fun hc2 => ?_)
    · refine j_tswI (off := 55) (tgt := 92) C dX5_askActor_37 (by rw [hc]; decide) (by rw [hc]; decide) (by rw [hc]; rfl) (by decide) ?_
      refine j_aload_n C dX5_askActor_92 0 rfl rfl ?_
      refine j_aload_n C dX5_askActor_93 1 rfl rfl ?_
      refine j_aload_n C dX5_askActor_94 3 rfl rfl ?_
      refine j_get C kX0 (pk_0_0 _ h_z3) (pl_0_0 _ h_z3) 0 (by decide) tw_283 rc_0_0 dX5_askActor_95 ?_
      refine j_callVi C (c_X5_store n r1 h_r1 (s1 z3 0) s1) cw_RX5_299 ⟨rfl, rfl, Nat.le_of_ble_eq_true rfl, Nat.le_of_ble_eq_true rfl⟩ 118 kX5 kc_118 lc_118 [.ref (adX X r1), .int (s1 z3 0)] [] rfl rfl rfl (Nat.le_of_ble_eq_true rfl) dX5_askActor_98 (fun x9 s8 => ?_)
      exact j_iret C CR dX5_askActor_101
    refine j_ite (fun hc => ?_) (fun hc3 => ?_)
    · refine j_tswI (off := 65) (tgt := 102) C dX5_askActor_37 (by rw [hc]; decide) (by rw [hc]; decide) (by rw [hc]; rfl) (by decide) ?_
      refine j_aload_n C dX5_askActor_102 0 rfl rfl ?_
      refine j_aload_n C dX5_askActor_103 1 rfl rfl ?_
      refine j_aload_n C dX5_askActor_104 0 rfl rfl ?_
      refine j_getA C kX5 kc_118 lc_118 3 (by decide) tw_447 rc_5_3 dX5_askActor_105 ?_
      refine j_aload_n C dX5_askActor_108 3 rfl rfl ?_
      refine j_callVi C (c_X9_boxOf n z3 h_z3 s1) cw_RX5_317 ⟨rfl, rfl, Nat.le_of_ble_eq_true rfl, Nat.le_of_ble_eq_true rfl⟩ 116 kX9 kc_116 lc_116 [.ref (adX X z3)] [.ref (adX X r1), .ref (adX X 118)] rfl rfl rfl (Nat.le_of_ble_eq_true rfl) dX5_askActor_109 (fun x11 s10 => ?_)
      refine j_callVi C (c_X5_store n r1 h_r1 x11 s10) cw_RX5_299 ⟨rfl, rfl, Nat.le_of_ble_eq_true rfl, Nat.le_of_ble_eq_true rfl⟩ 118 kX5 kc_118 lc_118 [.ref (adX X r1), .int x11] [] rfl rfl rfl (Nat.le_of_ble_eq_true rfl) dX5_askActor_112 (fun x13 s12 => ?_)
      exact j_iret C CR dX5_askActor_115
    refine j_ite (fun hc => ?_) (fun hc4 => ?_)
    · refine j_tswI (off := 79) (tgt := 116) C dX5_askActor_37 (by rw [hc]; decide) (by rw [hc]; decide) (by rw [hc]; rfl) (by decide) ?_
      refine j_aload_n C dX5_askActor_116 0 rfl rfl ?_
      refine j_aload_n C dX5_askActor_117 1 rfl rfl ?_
      refine j_aload_n C dX5_askActor_118 3 rfl rfl ?_
      refine j_get C kX0 (pk_0_0 _ h_z3) (pl_0_0 _ h_z3) 4 (by decide) tw_295 rc_0_4 dX5_askActor_119 ?_
      refine j_if_eq (tgt := 129) C dX5_askActor_122 (by decide) ?_ ?_
      · refine j_iconst (v := (0 : Int32)) C dX5_askActor_129 (by decide) ?_
        refine j_sub (L' := []) [] rfl ?_
        exact jb_X5_askActor_130 C CR  n (0 : Int32) r1 h_r1 s1
      · refine j_iconst (v := (1 : Int32)) C dX5_askActor_125 (by decide) ?_
        refine j_goto (tgt := 130) C dX5_askActor_126 (by decide) ?_
        refine j_sub (L' := []) [] rfl ?_
        exact jb_X5_askActor_130 C CR  n (1 : Int32) r1 h_r1 s1
    refine j_tswO (tgt := 134) C dX5_askActor_37 (by omega) (by decide) ?_
    refine j_iconst (v := (2 : Int32)) C dX5_askActor_134 (by decide) ?_
    exact j_iret C CR dX5_askActor_135
  · refine j_iconst (v := (2 : Int32)) C dX5_askActor_19 (by decide) ?_
    exact j_iret C CR dX5_askActor_20
set_option maxHeartbeats 4000000 in
theorem jb_X5_askDistance_40 {X : CtxT (Int32 × Mem)} (C : Cx YC X 6 cX5_askDistance RX5 (some .int) rm_X5_askDistance) (CR : CRi YC X)  (n : Nat)   (s : Mem) : J YC X 6 (b_X5_askDistance_40  n   s) 40 [] [] s := by
  unfold b_X5_askDistance_40
  refine j_iconst (v := (2 : Int32)) C dX5_askDistance_40 (by decide) ?_
  exact j_iret C CR dX5_askDistance_41
set_option maxHeartbeats 4000000 in
theorem c_X5_askDistance (n : Nat) (r1 : Nat) (h_r1 : isO 6 r1) (s : Mem) : CTi YC yX5_askDistance cX5_askDistance 6 (some .int) rm_X5_askDistance (fun ad => [.ref (ad 118), .ref (ad r1)]) s (f_X5_askDistance n r1 s) := by
  refine CTi_of (by decide) (fun _ => Nat.le_of_ble_eq_true rfl) (fun X C CR => ?_)
  show J YC X 6 (f_X5_askDistance n r1 s) 0 [(0, .ref (adX X 118)), (1, .ref (adX X r1))] [] s
  unfold f_X5_askDistance
  refine j_aload_n C dX5_askDistance_0 0 rfl rfl ?_
  refine j_getR (z := 119) C kX5 kc_118 lc_118 4 (by decide) tw_448 rc_5_4 rfl dX5_askDistance_1 ?_
  refine j_iconst (v := (1 : Int32)) C dX5_askDistance_4 (by decide) ?_
  refine j_iald C kc_119 lc_119 dX5_askDistance_5 ?_
  refine j_istore_n (L' := [(0, .ref (adX X 118)), (1, .ref (adX X r1)), (2, .int (s 119 (1 : Int32).toNatClampNeg))]) C dX5_askDistance_6 rfl (by decide) [1, 2, 0] rfl ?_
  refine j_aload_n C dX5_askDistance_7 0 rfl rfl ?_
  refine j_getA C kX5 kc_118 lc_118 0 (by decide) tw_444 rc_5_0 dX5_askDistance_8 ?_
  refine j_getR (z := 28) C kX3 kc_16 lc_16 4 (by decide) tw_190 rc_3_4 rfl dX5_askDistance_11 ?_
  refine j_aload_n C dX5_askDistance_14 0 rfl rfl ?_
  refine j_getR (z := 119) C kX5 kc_118 lc_118 4 (by decide) tw_448 rc_5_4 rfl dX5_askDistance_15 ?_
  refine j_iconst (v := (0 : Int32)) C dX5_askDistance_18 (by decide) ?_
  refine j_iald C kc_119 lc_119 dX5_askDistance_19 ?_
  refine j_callVi C (c_X2_has n 28 io_2_28 (s 119 (0 : Int32).toNatClampNeg) s) cw_RX5_69 ⟨rfl, rfl, Nat.le_of_ble_eq_true rfl, Nat.le_of_ble_eq_true rfl⟩ 28 kX2 kc_28 lc_28 [.int (s 119 (0 : Int32).toNatClampNeg)] [] rfl rfl rfl (Nat.le_of_ble_eq_true rfl) dX5_askDistance_20 (fun x2 s1 => ?_)
  refine j_if_eq (tgt := 40) C dX5_askDistance_23 (by decide) ?_ ?_
  · refine j_sub (L' := []) [] rfl ?_
    exact jb_X5_askDistance_40 C CR  n s1
  · refine j_aload_n C dX5_askDistance_26 0 rfl rfl ?_
    refine j_getA C kX5 kc_118 lc_118 0 (by decide) tw_444 rc_5_0 dX5_askDistance_27 ?_
    refine j_getR (z := 25) C kX3 kc_16 lc_16 3 (by decide) tw_187 rc_3_3 rfl dX5_askDistance_30 ?_
    refine j_iload_n C dX5_askDistance_33 2 rfl rfl ?_
    refine j_callVi C (c_X2_has n 25 io_2_25 (s 119 (1 : Int32).toNatClampNeg) s1) cw_RX5_69 ⟨rfl, rfl, Nat.le_of_ble_eq_true rfl, Nat.le_of_ble_eq_true rfl⟩ 25 kX2 kc_25 lc_25 [.int (s 119 (1 : Int32).toNatClampNeg)] [] rfl rfl rfl (Nat.le_of_ble_eq_true rfl) dX5_askDistance_34 (fun x4 s3 => ?_)
    refine j_if_ne (tgt := 42) C dX5_askDistance_37 (by decide) ?_ ?_
    · refine j_aload_n C dX5_askDistance_42 0 rfl rfl ?_
      refine j_getA C kX5 kc_118 lc_118 2 (by decide) tw_446 rc_5_2 dX5_askDistance_43 ?_
      refine j_getR (z := 41) C kX7 kc_33 lc_33 13 (by decide) tw_352 rc_7_13 rfl dX5_askDistance_46 ?_
      refine j_aload_n C dX5_askDistance_49 0 rfl rfl ?_
      refine j_getR (z := 119) C kX5 kc_118 lc_118 4 (by decide) tw_448 rc_5_4 rfl dX5_askDistance_50 ?_
      refine j_iconst (v := (0 : Int32)) C dX5_askDistance_53 (by decide) ?_
      refine j_iald C kc_119 lc_119 dX5_askDistance_54 ?_
      refine j_aald4 C kc_41 lc_41 dX5_askDistance_55 (fun z5 e_z5 => ?_)
      have h_z5 : isO 0 z5 := (pe_7_8 _ io_7_33 _ e_z5)
      refine j_astore_n (L' := [(0, .ref (adX X 118)), (1, .ref (adX X r1)), (2, .int (s 119 (1 : Int32).toNatClampNeg)), (3, .ref (adX X z5))]) C dX5_askDistance_56 rfl (by decide) [1, 2, 3, 0] rfl ?_
      refine j_aload_n C dX5_askDistance_57 0 rfl rfl ?_
      refine j_getA C kX5 kc_118 lc_118 0 (by decide) tw_444 rc_5_0 dX5_askDistance_58 ?_
      refine j_iload_n C dX5_askDistance_61 2 rfl rfl ?_
      refine j_iconst (v := (0 : Int32)) C dX5_askDistance_62 (by decide) ?_
      refine j_callVi C (c_X3_whereIs n 16 io_3_16 (s 119 (1 : Int32).toNatClampNeg) (0 : Int32) s3) cw_RX5_321 ⟨rfl, rfl, Nat.le_of_ble_eq_true rfl, Nat.le_of_ble_eq_true rfl⟩ 16 kX3 kc_16 lc_16 [.int (s 119 (1 : Int32).toNatClampNeg), .int (0 : Int32)] [] rfl rfl rfl (Nat.le_of_ble_eq_true rfl) dX5_askDistance_63 (fun x7 s6 => ?_)
      refine j_aload_n C dX5_askDistance_66 3 rfl rfl ?_
      refine j_get C kX0 (pk_0_0 _ h_z5) (pl_0_0 _ h_z5) 0 (by decide) tw_283 rc_0_0 dX5_askDistance_67 ?_
      refine j_icmp_eq (tgt := 82) C dX5_askDistance_70 (by decide) ?_ ?_
      · refine j_aload_n C dX5_askDistance_82 0 rfl rfl ?_
        refine j_getA C kX5 kc_118 lc_118 0 (by decide) tw_444 rc_5_0 dX5_askDistance_83 ?_
        refine j_iload_n C dX5_askDistance_86 2 rfl rfl ?_
        refine j_iconst (v := (1 : Int32)) C dX5_askDistance_87 (by decide) ?_
        refine j_callVi C (c_X3_whereIs n 16 io_3_16 (s 119 (1 : Int32).toNatClampNeg) (1 : Int32) s6) cw_RX5_321 ⟨rfl, rfl, Nat.le_of_ble_eq_true rfl, Nat.le_of_ble_eq_true rfl⟩ 16 kX3 kc_16 lc_16 [.int (s 119 (1 : Int32).toNatClampNeg), .int (1 : Int32)] [] rfl rfl rfl (Nat.le_of_ble_eq_true rfl) dX5_askDistance_88 (fun x9 s8 => ?_)
        refine j_aload_n C dX5_askDistance_91 3 rfl rfl ?_
        refine j_get C kX0 (pk_0_0 _ h_z5) (pl_0_0 _ h_z5) 1 (by decide) tw_286 rc_0_1 dX5_askDistance_92 ?_
        refine j_isub C dX5_askDistance_95 ?_
        refine j_mabs C cw_RX5_324 ⟨Nat.le_of_ble_eq_true rfl, Nat.le_of_ble_eq_true rfl⟩ (Nat.le_of_ble_eq_true rfl) dX5_askDistance_96 ?_
        refine j_top (fun x10 => ?_)
        refine j_istore (L' := [(0, .ref (adX X 118)), (1, .ref (adX X r1)), (2, .int (s 119 (1 : Int32).toNatClampNeg)), (3, .ref (adX X z5)), (4, .int x10)]) C dX5_askDistance_99 (by decide) [1, 2, 3, 4, 0] rfl ?_
        refine j_aload_n C dX5_askDistance_101 0 rfl rfl ?_
        refine j_getA C kX5 kc_118 lc_118 0 (by decide) tw_444 rc_5_0 dX5_askDistance_102 ?_
        refine j_iload_n C dX5_askDistance_105 2 rfl rfl ?_
        refine j_iconst (v := (2 : Int32)) C dX5_askDistance_106 (by decide) ?_
        refine j_callVi C (c_X3_whereIs n 16 io_3_16 (s 119 (1 : Int32).toNatClampNeg) (2 : Int32) s8) cw_RX5_321 ⟨rfl, rfl, Nat.le_of_ble_eq_true rfl, Nat.le_of_ble_eq_true rfl⟩ 16 kX3 kc_16 lc_16 [.int (s 119 (1 : Int32).toNatClampNeg), .int (2 : Int32)] [] rfl rfl rfl (Nat.le_of_ble_eq_true rfl) dX5_askDistance_107 (fun x12 s11 => ?_)
        refine j_aload_n C dX5_askDistance_110 3 rfl rfl ?_
        refine j_get C kX0 (pk_0_0 _ h_z5) (pl_0_0 _ h_z5) 2 (by decide) tw_289 rc_0_2 dX5_askDistance_111 ?_
        refine j_isub C dX5_askDistance_114 ?_
        refine j_mabs C cw_RX5_324 ⟨Nat.le_of_ble_eq_true rfl, Nat.le_of_ble_eq_true rfl⟩ (Nat.le_of_ble_eq_true rfl) dX5_askDistance_115 ?_
        refine j_top (fun x13 => ?_)
        refine j_istore (L' := [(0, .ref (adX X 118)), (1, .ref (adX X r1)), (2, .int (s 119 (1 : Int32).toNatClampNeg)), (3, .ref (adX X z5)), (4, .int x10), (5, .int x13)]) C dX5_askDistance_118 (by decide) [1, 2, 3, 4, 5, 0] rfl ?_
        refine j_aload_n C dX5_askDistance_120 0 rfl rfl ?_
        refine j_aload_n C dX5_askDistance_121 1 rfl rfl ?_
        refine j_iload C dX5_askDistance_122 4 rfl ?_
        refine j_iload C dX5_askDistance_124 5 rfl ?_
        refine j_iadd C dX5_askDistance_126 ?_
        refine j_callVi C (c_X5_store n r1 h_r1 (x10 + x13) s11) cw_RX5_299 ⟨rfl, rfl, Nat.le_of_ble_eq_true rfl, Nat.le_of_ble_eq_true rfl⟩ 118 kX5 kc_118 lc_118 [.ref (adX X r1), .int (x10 + x13)] [] rfl rfl rfl (Nat.le_of_ble_eq_true rfl) dX5_askDistance_127 (fun x15 s14 => ?_)
        exact j_iret C CR dX5_askDistance_130
      · refine j_aload_n C dX5_askDistance_73 0 rfl rfl ?_
        refine j_aload_n C dX5_askDistance_74 1 rfl rfl ?_
        refine j_sipush (v := (999 : Int32)) C dX5_askDistance_75 (by decide) ?_
        refine j_callVi C (c_X5_store n r1 h_r1 (999 : Int32) s6) cw_RX5_299 ⟨rfl, rfl, Nat.le_of_ble_eq_true rfl, Nat.le_of_ble_eq_true rfl⟩ 118 kX5 kc_118 lc_118 [.ref (adX X r1), .int (999 : Int32)] [] rfl rfl rfl (Nat.le_of_ble_eq_true rfl) dX5_askDistance_78 (fun x17 s16 => ?_)
        exact j_iret C CR dX5_askDistance_81
    · refine j_sub (L' := []) [] rfl ?_
      exact jb_X5_askDistance_40 C CR  n s3
set_option maxHeartbeats 4000000 in
theorem jb_X5_fetch_27 {X : CtxT (Int32 × Mem)} (C : Cx YC X 3 cX5_fetch RX5 (some .int) rm_X5_fetch) (CR : CRi YC X)  (n : Nat)  (t0 : Int32) (s : Mem) : J YC X 3 (b_X5_fetch_27  n  t0 s) 27 [] [.int t0] s := by
  unfold b_X5_fetch_27
  exact j_iret C CR dX5_fetch_27
set_option maxHeartbeats 4000000 in
theorem c_X5_fetch (n : Nat) (r1 : Nat) (h_r1 : isO 6 r1) (l2 : Int32) (s : Mem) : CTi YC yX5_fetch cX5_fetch 3 (some .int) rm_X5_fetch (fun ad => [.ref (ad 118), .ref (ad r1), .int l2]) s (f_X5_fetch n r1 l2 s) := by
  refine CTi_of (by decide) (fun _ => Nat.le_of_ble_eq_true rfl) (fun X C CR => ?_)
  show J YC X 3 (f_X5_fetch n r1 l2 s) 0 [(0, .ref (adX X 118)), (1, .ref (adX X r1)), (2, .int l2)] [] s
  unfold f_X5_fetch
  refine j_iload_n C dX5_fetch_0 2 rfl rfl ?_
  refine j_bipush (v := (64 : Int32)) C dX5_fetch_1 (by decide) ?_
  refine j_icmp_ge (tgt := 18) C dX5_fetch_3 (by decide) ?_ ?_
  · refine j_aload_n C dX5_fetch_18 1 rfl rfl ?_
    refine j_getR (z := (r1 + 1)) C kX6 (pk_6_0 _ h_r1) (pl_6_0 _ h_r1) 6 (by decide) tw_260 rc_6_6 rfl dX5_fetch_19 ?_
    refine j_iload_n C dX5_fetch_22 2 rfl rfl ?_
    refine j_bipush (v := (64 : Int32)) C dX5_fetch_23 (by decide) ?_
    refine j_isub C dX5_fetch_25 ?_
    refine j_iald C (pk_6_1 _ h_r1) (pl_6_1 _ h_r1) dX5_fetch_26 ?_
    refine j_sub (L' := []) [] rfl ?_
    exact jb_X5_fetch_27 C CR  n (s (r1 + 1) (l2 - (64 : Int32)).toNatClampNeg) s
  · refine j_aload_n C dX5_fetch_6 0 rfl rfl ?_
    refine j_getA C kX5 kc_118 lc_118 2 (by decide) tw_446 rc_5_2 dX5_fetch_7 ?_
    refine j_getR (z := 34) C kX7 kc_33 lc_33 6 (by decide) tw_333 rc_7_6 rfl dX5_fetch_10 ?_
    refine j_iload_n C dX5_fetch_13 2 rfl rfl ?_
    refine j_iald C kc_34 lc_34 dX5_fetch_14 ?_
    refine j_goto (tgt := 27) C dX5_fetch_15 (by decide) ?_
    refine j_sub (L' := []) [] rfl ?_
    exact jb_X5_fetch_27 C CR  n (s 34 l2.toNatClampNeg) s
set_option maxHeartbeats 4000000 in
theorem jb_X7_drawLuck_32 {X : CtxT (Int32 × Mem)} (C : Cx YC X 2 cX7_drawLuck RX7 (some .int) rm_X7_drawLuck) (CR : CRi YC X)  (n : Nat)  (t0 : Int32) (s : Mem) : J YC X 2 (b_X7_drawLuck_32  n  t0 s) 32 [] [.int t0] s := by
  unfold b_X7_drawLuck_32
  exact j_iret C CR dX7_drawLuck_32
set_option maxHeartbeats 4000000 in
theorem c_X7_drawLuck (n : Nat) (r0 : Nat) (h_r0 : isO 7 r0) (l1 : Int32) (s : Mem) : CTi YC yX7_drawLuck cX7_drawLuck 2 (some .int) rm_X7_drawLuck (fun ad => [.ref (ad r0), .int l1]) s (f_X7_drawLuck n r0 l1 s) := by
  refine CTi_of (by decide) (fun _ => Nat.le_of_ble_eq_true rfl) (fun X C CR => ?_)
  show J YC X 2 (f_X7_drawLuck n r0 l1 s) 0 [(0, .ref (adX X r0)), (1, .int l1)] [] s
  unfold f_X7_drawLuck
  refine j_aload_n C dX7_drawLuck_0 0 rfl rfl ?_
  refine j_aload_n C dX7_drawLuck_1 0 rfl rfl ?_
  refine j_get C kX7 (pk_7_0 _ h_r0) (pl_7_0 _ h_r0) 1 (by decide) tw_319 rc_7_1 dX7_drawLuck_2 ?_
  refine j_ldc (v := (1103515245 : Int32)) C tw_715 dX7_drawLuck_5 ?_
  refine j_imul C dX7_drawLuck_7 ?_
  refine j_sipush (v := (12345 : Int32)) C dX7_drawLuck_8 (by decide) ?_
  refine j_iadd C dX7_drawLuck_11 ?_
  refine j_put C kX7 (pk_7_0 _ h_r0) (pl_7_0 _ h_r0) 1 (by decide) tw_319 rc_7_1 rfl rfl dX7_drawLuck_12 (fun s1 => ?_)
  refine j_iload_n C dX7_drawLuck_15 1 rfl rfl ?_
  refine j_if_le (tgt := 31) C dX7_drawLuck_16 (by decide) ?_ ?_
  · refine j_iconst (v := (0 : Int32)) C dX7_drawLuck_31 (by decide) ?_
    refine j_sub (L' := []) [] rfl ?_
    exact jb_X7_drawLuck_32 C CR  n (0 : Int32) s1
  · refine j_aload_n C dX7_drawLuck_19 0 rfl rfl ?_
    refine j_get C kX7 (pk_7_0 _ h_r0) (pl_7_0 _ h_r0) 1 (by decide) tw_319 rc_7_1 dX7_drawLuck_20 ?_
    refine j_ldc (v := (2147483647 : Int32)) C tw_716 dX7_drawLuck_23 ?_
    refine j_iand C dX7_drawLuck_25 ?_
    refine j_iload_n C dX7_drawLuck_26 1 rfl rfl ?_
    refine j_irem C dX7_drawLuck_27 ?_
    refine j_goto (tgt := 32) C dX7_drawLuck_28 (by decide) ?_
    refine j_sub (L' := []) [] rfl ?_
    exact jb_X7_drawLuck_32 C CR  n (((s1 r0 1) &&& (2147483647 : Int32)) - ((s1 r0 1) &&& (2147483647 : Int32)) / l1 * l1) s1
set_option maxHeartbeats 4000000 in
theorem jb_X7_slotsWith_38 {X : CtxT (Int32 × Mem)} (C : Cx YC X 4 cX7_slotsWith RX7 (some .int) rm_X7_slotsWith) (CR : CRi YC X) (k4 : Nat → Int32 → Int32 → Int32 → Mem → Option (Int32 × Mem)) (hk4 : ∀ (r0 : Nat) (h_r0 : isO 7 r0) (l1 : Int32) (l2 : Int32) (l3 : Int32) (s : Mem), J YC X 4 (k4 r0 l1 l2 l3 s) 4 [(0, .ref (adX X r0)), (1, .int l1), (2, .int l2), (3, .int l3)] [] s) (n : Nat)  (r0 : Nat) (h_r0 : isO 7 r0) (l1 : Int32) (l2 : Int32) (l3 : Int32) (s : Mem) : J YC X 4 (b_X7_slotsWith_38 k4 n  r0 l1 l2 l3 s) 38 [(0, .ref (adX X r0)), (1, .int l1), (2, .int l2), (3, .int l3)] [] s := by
  unfold b_X7_slotsWith_38
  refine j_iinc (L2 := fun x1 => [(0, .ref (adX X r0)), (1, .int l1), (2, .int l2), (3, .int x1)]) C dX7_slotsWith_38 3 rfl (by decide) [1, 2, 3, 0] (fun _ => rfl) (fun x1 => ?_)
  refine j_goto (tgt := 4) C dX7_slotsWith_41 (by decide) ?_
  exact hk4 r0 h_r0 l1 l2 x1 s
set_option maxHeartbeats 4000000 in
theorem jb_X7_slotsWith_4 {X : CtxT (Int32 × Mem)} (C : Cx YC X 4 cX7_slotsWith RX7 (some .int) rm_X7_slotsWith) (CR : CRi YC X)  (n : Nat) (k4 : Nat → Int32 → Int32 → Int32 → Mem → Option (Int32 × Mem)) (hk4 : ∀ (r0 : Nat) (h_r0 : isO 7 r0) (l1 : Int32) (l2 : Int32) (l3 : Int32) (s : Mem), J YC X 4 (k4 r0 l1 l2 l3 s) 4 [(0, .ref (adX X r0)), (1, .int l1), (2, .int l2), (3, .int l3)] [] s) (r0 : Nat) (h_r0 : isO 7 r0) (l1 : Int32) (l2 : Int32) (l3 : Int32) (s : Mem) : J YC X 4 (b_X7_slotsWith_4  n k4 r0 l1 l2 l3 s) 4 [(0, .ref (adX X r0)), (1, .int l1), (2, .int l2), (3, .int l3)] [] s := by
  unfold b_X7_slotsWith_4
  refine j_iload_n C dX7_slotsWith_4 3 rfl rfl ?_
  refine j_bipush (v := (8 : Int32)) C dX7_slotsWith_5 (by decide) ?_
  refine j_icmp_ge (tgt := 44) C dX7_slotsWith_7 (by decide) ?_ ?_
  · refine j_iload_n C dX7_slotsWith_44 2 rfl rfl ?_
    exact j_iret C CR dX7_slotsWith_45
  · refine j_aload_n C dX7_slotsWith_10 0 rfl rfl ?_
    refine j_getR (z := (r0 + 7)) C kX7 (pk_7_0 _ h_r0) (pl_7_0 _ h_r0) 12 (by decide) tw_347 rc_7_12 rfl dX7_slotsWith_11 ?_
    refine j_iload_n C dX7_slotsWith_14 3 rfl rfl ?_
    refine j_aald3 C (pk_7_7 _ h_r0) (pl_7_7 _ h_r0) dX7_slotsWith_15 (fun z1 e_z1 => ?_)
    have h_z1 : isO 6 z1 := (pe_7_7 _ h_r0 _ e_z1)
    refine j_callVi C (c_X6_runs n z1 h_z1 s) cw_RX7_117 ⟨rfl, rfl, Nat.le_of_ble_eq_true rfl, Nat.le_of_ble_eq_true rfl⟩ z1 kX6 (pk_6_0 _ h_z1) (pl_6_0 _ h_z1) [] [] rfl rfl rfl (Nat.le_of_ble_eq_true rfl) dX7_slotsWith_16 (fun x3 s2 => ?_)
    refine j_if_eq (tgt := 38) C dX7_slotsWith_19 (by decide) ?_ ?_
    · exact jb_X7_slotsWith_38 C CR k4 hk4 n r0 h_r0 l1 l2 l3 s2
    · refine j_aload_n C dX7_slotsWith_22 0 rfl rfl ?_
      refine j_getR (z := (r0 + 7)) C kX7 (pk_7_0 _ h_r0) (pl_7_0 _ h_r0) 12 (by decide) tw_347 rc_7_12 rfl dX7_slotsWith_23 ?_
      refine j_iload_n C dX7_slotsWith_26 3 rfl rfl ?_
      refine j_aald3 C (pk_7_7 _ h_r0) (pl_7_7 _ h_r0) dX7_slotsWith_27 (fun z4 e_z4 => ?_)
      have h_z4 : isO 6 z4 := (pe_7_7 _ h_r0 _ e_z4)
      refine j_get C kX6 (pk_6_0 _ h_z4) (pl_6_0 _ h_z4) 0 (by decide) tw_248 rc_6_0 dX7_slotsWith_28 ?_
      refine j_iload_n C dX7_slotsWith_31 1 rfl rfl ?_
      refine j_icmp_ne (tgt := 38) C dX7_slotsWith_32 (by decide) ?_ ?_
      · exact jb_X7_slotsWith_38 C CR k4 hk4 n r0 h_r0 l1 l2 l3 s2
      · refine j_iinc (L2 := fun x5 => [(0, .ref (adX X r0)), (1, .int l1), (2, .int x5), (3, .int l3)]) C dX7_slotsWith_35 2 rfl (by decide) [1, 2, 0, 3] (fun _ => rfl) (fun x5 => ?_)
        exact jb_X7_slotsWith_38 C CR k4 hk4 n r0 h_r0 l1 x5 l3 s2
theorem lb_X7_slotsWith_4 {X : CtxT (Int32 × Mem)} (C : Cx YC X 4 cX7_slotsWith RX7 (some .int) rm_X7_slotsWith) (CR : CRi YC X)  : ∀ (n : Nat) (r0 : Nat) (h_r0 : isO 7 r0) (l1 : Int32) (l2 : Int32) (l3 : Int32) (s : Mem), J YC X 4 (itr4 (b_X7_slotsWith_4) n r0 l1 l2 l3 s) 4 [(0, .ref (adX X r0)), (1, .int l1), (2, .int l2), (3, .int l3)] [] s := by
  intro n
  induction n with
  | zero => intros; exact j_none
  | succ n ih =>
    intro r0 h_r0 l1 l2 l3 s
    exact jb_X7_slotsWith_4 C CR  n _ ih r0 h_r0 l1 l2 l3 s
set_option maxHeartbeats 4000000 in
theorem c_X7_slotsWith (n : Nat) (r0 : Nat) (h_r0 : isO 7 r0) (l1 : Int32) (s : Mem) : CTi YC yX7_slotsWith cX7_slotsWith 4 (some .int) rm_X7_slotsWith (fun ad => [.ref (ad r0), .int l1]) s (f_X7_slotsWith n r0 l1 s) := by
  refine CTi_of (by decide) (fun _ => Nat.le_of_ble_eq_true rfl) (fun X C CR => ?_)
  show J YC X 4 (f_X7_slotsWith n r0 l1 s) 0 [(0, .ref (adX X r0)), (1, .int l1)] [] s
  unfold f_X7_slotsWith
  refine j_iconst (v := (0 : Int32)) C dX7_slotsWith_0 (by decide) ?_
  refine j_istore_n (L' := [(0, .ref (adX X r0)), (1, .int l1), (2, .int (0 : Int32))]) C dX7_slotsWith_1 rfl (by decide) [1, 2, 0] rfl ?_
  refine j_iconst (v := (0 : Int32)) C dX7_slotsWith_2 (by decide) ?_
  refine j_istore_n (L' := [(0, .ref (adX X r0)), (1, .int l1), (2, .int (0 : Int32)), (3, .int (0 : Int32))]) C dX7_slotsWith_3 rfl (by decide) [1, 2, 3, 0] rfl ?_
  exact lb_X7_slotsWith_4 C CR  n r0 h_r0 l1 (0 : Int32) (0 : Int32) s
set_option maxHeartbeats 4000000 in
theorem jb_X5_assign_226 {X : CtxT (Int32 × Mem)} (C : Cx YC X 4 cX5_assign RX5 (some .int) rm_X5_assign) (CR : CRi YC X)  (n : Nat)  (t0 : Int32) (s : Mem) : J YC X 4 (b_X5_assign_226  n  t0 s) 226 [] [.int t0] s := by
  unfold b_X5_assign_226
  exact j_iret C CR dX5_assign_226
set_option maxHeartbeats 4000000 in
theorem jb_X5_assign_259 {X : CtxT (Int32 × Mem)} (C : Cx YC X 4 cX5_assign RX5 (some .int) rm_X5_assign) (CR : CRi YC X)  (n : Nat)  (t0 : Int32) (s : Mem) : J YC X 4 (b_X5_assign_259  n  t0 s) 259 [] [.int t0] s := by
  unfold b_X5_assign_259
  exact j_iret C CR dX5_assign_259
set_option maxHeartbeats 4000000 in
theorem jb_X5_assign_292 {X : CtxT (Int32 × Mem)} (C : Cx YC X 4 cX5_assign RX5 (some .int) rm_X5_assign) (CR : CRi YC X)  (n : Nat)  (t0 : Int32) (s : Mem) : J YC X 4 (b_X5_assign_292  n  t0 s) 292 [] [.int t0] s := by
  unfold b_X5_assign_292
  exact j_iret C CR dX5_assign_292
set_option maxHeartbeats 4000000 in
theorem jb_X5_assign_321 {X : CtxT (Int32 × Mem)} (C : Cx YC X 4 cX5_assign RX5 (some .int) rm_X5_assign) (CR : CRi YC X)  (n : Nat)   (s : Mem) : J YC X 4 (b_X5_assign_321  n   s) 321 [] [] s := by
  unfold b_X5_assign_321
  refine j_iconst (v := (2 : Int32)) C dX5_assign_321 (by decide) ?_
  exact j_iret C CR dX5_assign_322
set_option maxHeartbeats 4000000 in
theorem c_X5_assign (n : Nat) (r1 : Nat) (h_r1 : isO 6 r1) (l2 : Int32) (s : Mem) : CTi YC yX5_assign cX5_assign 4 (some .int) rm_X5_assign (fun ad => [.ref (ad 118), .ref (ad r1), .int l2]) s (f_X5_assign n r1 l2 s) := by
  refine CTi_of (by decide) (fun _ => Nat.le_of_ble_eq_true rfl) (fun X C CR => ?_)
  show J YC X 4 (f_X5_assign n r1 l2 s) 0 [(0, .ref (adX X 118)), (1, .ref (adX X r1)), (2, .int l2)] [] s
  unfold f_X5_assign
  refine j_aload_n C dX5_assign_0 0 rfl rfl ?_
  refine j_getR (z := 119) C kX5 kc_118 lc_118 4 (by decide) tw_448 rc_5_4 rfl dX5_assign_1 ?_
  refine j_iconst (v := (0 : Int32)) C dX5_assign_4 (by decide) ?_
  refine j_iald C kc_119 lc_119 dX5_assign_5 ?_
  refine j_istore_n (L' := [(0, .ref (adX X 118)), (1, .ref (adX X r1)), (2, .int l2), (3, .int (s 119 (0 : Int32).toNatClampNeg))]) C dX5_assign_6 rfl (by decide) [1, 2, 3, 0] rfl ?_
  refine j_iload_n C dX5_assign_7 2 rfl rfl ?_
  refine j_ite (fun hc => ?_) (fun hc0 => ?_)
  · refine j_tswI (off := 136) (tgt := 144) C dX5_assign_8 (by rw [hc]; decide) (by rw [hc]; decide) (by rw [hc]; rfl) (by decide) ?_
    refine j_aload_n C dX5_assign_144 0 rfl rfl ?_
    refine j_aload_n C dX5_assign_145 1 rfl rfl ?_
    refine j_iload_n C dX5_assign_146 3 rfl rfl ?_
    refine j_callVi C (c_X5_store n r1 h_r1 (s 119 (0 : Int32).toNatClampNeg) s) cw_RX5_299 ⟨rfl, rfl, Nat.le_of_ble_eq_true rfl, Nat.le_of_ble_eq_true rfl⟩ 118 kX5 kc_118 lc_118 [.ref (adX X r1), .int (s 119 (0 : Int32).toNatClampNeg)] [] rfl rfl rfl (Nat.le_of_ble_eq_true rfl) dX5_assign_147 (fun x2 s1 => ?_)
    exact j_iret C CR dX5_assign_150
  refine j_ite (fun hc => ?_) (fun hc1 => ?_)
  · refine j_tswI (off := 143) (tgt := 151) C dX5_assign_8 (by rw [hc]; decide) (by rw [hc]; decide) (by rw [hc]; rfl) (by decide) ?_
    refine j_aload_n C dX5_assign_151 0 rfl rfl ?_
    refine j_aload_n C dX5_assign_152 1 rfl rfl ?_
    refine j_aload_n C dX5_assign_153 0 rfl rfl ?_
    refine j_aload_n C dX5_assign_154 1 rfl rfl ?_
    refine j_aload_n C dX5_assign_155 0 rfl rfl ?_
    refine j_get C kX5 kc_118 lc_118 5 (by decide) tw_449 rc_5_5 dX5_assign_156 ?_
    refine j_callVi C (c_X5_fetch n r1 h_r1 (s 118 5) s) cw_RX5_205 ⟨rfl, rfl, Nat.le_of_ble_eq_true rfl, Nat.le_of_ble_eq_true rfl⟩ 118 kX5 kc_118 lc_118 [.ref (adX X r1), .int (s 118 5)] [.ref (adX X r1), .ref (adX X 118)] rfl rfl rfl (Nat.le_of_ble_eq_true rfl) dX5_assign_159 (fun x4 s3 => ?_)
    refine j_iload_n C dX5_assign_162 3 rfl rfl ?_
    refine j_iadd C dX5_assign_163 ?_
    refine j_callVi C (c_X5_store n r1 h_r1 (x4 + (s 119 (0 : Int32).toNatClampNeg)) s3) cw_RX5_299 ⟨rfl, rfl, Nat.le_of_ble_eq_true rfl, Nat.le_of_ble_eq_true rfl⟩ 118 kX5 kc_118 lc_118 [.ref (adX X r1), .int (x4 + (s 119 (0 : Int32).toNatClampNeg))] [] rfl rfl rfl (Nat.le_of_ble_eq_true rfl) dX5_assign_164 (fun x6 s5 => ?_)
    exact j_iret C CR dX5_assign_167
  refine j_ite (fun hc => ?_) (fun hc2 => ?_)
  · refine j_tswI (off := 160) (tgt := 168) C dX5_assign_8 (by rw [hc]; decide) (by rw [hc]; decide) (by rw [hc]; rfl) (by decide) ?_
    refine j_aload_n C dX5_assign_168 0 rfl rfl ?_
    refine j_aload_n C dX5_assign_169 1 rfl rfl ?_
    refine j_aload_n C dX5_assign_170 0 rfl rfl ?_
    refine j_aload_n C dX5_assign_171 1 rfl rfl ?_
    refine j_aload_n C dX5_assign_172 0 rfl rfl ?_
    refine j_get C kX5 kc_118 lc_118 5 (by decide) tw_449 rc_5_5 dX5_assign_173 ?_
    refine j_callVi C (c_X5_fetch n r1 h_r1 (s 118 5) s) cw_RX5_205 ⟨rfl, rfl, Nat.le_of_ble_eq_true rfl, Nat.le_of_ble_eq_true rfl⟩ 118 kX5 kc_118 lc_118 [.ref (adX X r1), .int (s 118 5)] [.ref (adX X r1), .ref (adX X 118)] rfl rfl rfl (Nat.le_of_ble_eq_true rfl) dX5_assign_176 (fun x8 s7 => ?_)
    refine j_iload_n C dX5_assign_179 3 rfl rfl ?_
    refine j_isub C dX5_assign_180 ?_
    refine j_callVi C (c_X5_store n r1 h_r1 (x8 - (s 119 (0 : Int32).toNatClampNeg)) s7) cw_RX5_299 ⟨rfl, rfl, Nat.le_of_ble_eq_true rfl, Nat.le_of_ble_eq_true rfl⟩ 118 kX5 kc_118 lc_118 [.ref (adX X r1), .int (x8 - (s 119 (0 : Int32).toNatClampNeg))] [] rfl rfl rfl (Nat.le_of_ble_eq_true rfl) dX5_assign_181 (fun x10 s9 => ?_)
    exact j_iret C CR dX5_assign_184
  refine j_ite (fun hc => ?_) (fun hc3 => ?_)
  · refine j_tswI (off := 177) (tgt := 185) C dX5_assign_8 (by rw [hc]; decide) (by rw [hc]; decide) (by rw [hc]; rfl) (by decide) ?_
    refine j_aload_n C dX5_assign_185 0 rfl rfl ?_
    refine j_aload_n C dX5_assign_186 1 rfl rfl ?_
    refine j_aload_n C dX5_assign_187 0 rfl rfl ?_
    refine j_aload_n C dX5_assign_188 1 rfl rfl ?_
    refine j_aload_n C dX5_assign_189 0 rfl rfl ?_
    refine j_get C kX5 kc_118 lc_118 5 (by decide) tw_449 rc_5_5 dX5_assign_190 ?_
    refine j_callVi C (c_X5_fetch n r1 h_r1 (s 118 5) s) cw_RX5_205 ⟨rfl, rfl, Nat.le_of_ble_eq_true rfl, Nat.le_of_ble_eq_true rfl⟩ 118 kX5 kc_118 lc_118 [.ref (adX X r1), .int (s 118 5)] [.ref (adX X r1), .ref (adX X 118)] rfl rfl rfl (Nat.le_of_ble_eq_true rfl) dX5_assign_193 (fun x12 s11 => ?_)
    refine j_iload_n C dX5_assign_196 3 rfl rfl ?_
    refine j_imul C dX5_assign_197 ?_
    refine j_callVi C (c_X5_store n r1 h_r1 (x12 * (s 119 (0 : Int32).toNatClampNeg)) s11) cw_RX5_299 ⟨rfl, rfl, Nat.le_of_ble_eq_true rfl, Nat.le_of_ble_eq_true rfl⟩ 118 kX5 kc_118 lc_118 [.ref (adX X r1), .int (x12 * (s 119 (0 : Int32).toNatClampNeg))] [] rfl rfl rfl (Nat.le_of_ble_eq_true rfl) dX5_assign_198 (fun x14 s13 => ?_)
    exact j_iret C CR dX5_assign_201
  refine j_ite (fun hc => ?_) (fun hc4 => ?_)
  · refine j_tswI (off := 194) (tgt := 202) C dX5_assign_8 (by rw [hc]; decide) (by rw [hc]; decide) (by rw [hc]; rfl) (by decide) ?_
    refine j_iload_n C dX5_assign_202 3 rfl rfl ?_
    refine j_if_ne (tgt := 210) C dX5_assign_203 (by decide) ?_ ?_
    · refine j_aload_n C dX5_assign_210 0 rfl rfl ?_
      refine j_aload_n C dX5_assign_211 1 rfl rfl ?_
      refine j_aload_n C dX5_assign_212 0 rfl rfl ?_
      refine j_aload_n C dX5_assign_213 1 rfl rfl ?_
      refine j_aload_n C dX5_assign_214 0 rfl rfl ?_
      refine j_get C kX5 kc_118 lc_118 5 (by decide) tw_449 rc_5_5 dX5_assign_215 ?_
      refine j_callVi C (c_X5_fetch n r1 h_r1 (s 118 5) s) cw_RX5_205 ⟨rfl, rfl, Nat.le_of_ble_eq_true rfl, Nat.le_of_ble_eq_true rfl⟩ 118 kX5 kc_118 lc_118 [.ref (adX X r1), .int (s 118 5)] [.ref (adX X r1), .ref (adX X 118)] rfl rfl rfl (Nat.le_of_ble_eq_true rfl) dX5_assign_218 (fun x16 s15 => ?_)
      refine j_iload_n C dX5_assign_221 3 rfl rfl ?_
      refine j_idiv C dX5_assign_222 ?_
      refine j_callVi C (c_X5_store n r1 h_r1 (x16 / (s 119 (0 : Int32).toNatClampNeg)) s15) cw_RX5_299 ⟨rfl, rfl, Nat.le_of_ble_eq_true rfl, Nat.le_of_ble_eq_true rfl⟩ 118 kX5 kc_118 lc_118 [.ref (adX X r1), .int (x16 / (s 119 (0 : Int32).toNatClampNeg))] [] rfl rfl rfl (Nat.le_of_ble_eq_true rfl) dX5_assign_223 (fun x18 s17 => ?_)
      refine j_sub (L' := []) [] rfl ?_
      exact jb_X5_assign_226 C CR  n x18 s17
    · refine j_iconst (v := (2 : Int32)) C dX5_assign_206 (by decide) ?_
      refine j_goto (tgt := 226) C dX5_assign_207 (by decide) ?_
      refine j_sub (L' := []) [] rfl ?_
      exact jb_X5_assign_226 C CR  n (2 : Int32) s
  refine j_ite (fun hc => ?_) (fun hc5 => ?_)
  · refine j_tswI (off := 313) (tgt := 321) C dX5_assign_8 (by rw [hc]; decide) (by rw [hc]; decide) (by rw [hc]; rfl) (by decide) ?_
    refine j_sub (L' := []) [] rfl ?_
    exact jb_X5_assign_321 C CR  n s
  refine j_ite (fun hc => ?_) (fun hc6 => ?_)
  · refine j_tswI (off := 313) (tgt := 321) C dX5_assign_8 (by rw [hc]; decide) (by rw [hc]; decide) (by rw [hc]; rfl) (by decide) ?_
    refine j_sub (L' := []) [] rfl ?_
    exact jb_X5_assign_321 C CR  n s
  refine j_ite (fun hc => ?_) (fun hc7 => ?_)
  · refine j_tswI (off := 313) (tgt := 321) C dX5_assign_8 (by rw [hc]; decide) (by rw [hc]; decide) (by rw [hc]; rfl) (by decide) ?_
    refine j_sub (L' := []) [] rfl ?_
    exact jb_X5_assign_321 C CR  n s
  refine j_ite (fun hc => ?_) (fun hc8 => ?_)
  · refine j_tswI (off := 313) (tgt := 321) C dX5_assign_8 (by rw [hc]; decide) (by rw [hc]; decide) (by rw [hc]; rfl) (by decide) ?_
    refine j_sub (L' := []) [] rfl ?_
    exact jb_X5_assign_321 C CR  n s
  refine j_ite (fun hc => ?_) (fun hc9 => ?_)
  · refine j_tswI (off := 313) (tgt := 321) C dX5_assign_8 (by rw [hc]; decide) (by rw [hc]; decide) (by rw [hc]; rfl) (by decide) ?_
    refine j_sub (L' := []) [] rfl ?_
    exact jb_X5_assign_321 C CR  n s
  refine j_ite (fun hc => ?_) (fun hc10 => ?_)
  · refine j_tswI (off := 313) (tgt := 321) C dX5_assign_8 (by rw [hc]; decide) (by rw [hc]; decide) (by rw [hc]; rfl) (by decide) ?_
    refine j_sub (L' := []) [] rfl ?_
    exact jb_X5_assign_321 C CR  n s
  refine j_ite (fun hc => ?_) (fun hc11 => ?_)
  · refine j_tswI (off := 313) (tgt := 321) C dX5_assign_8 (by rw [hc]; decide) (by rw [hc]; decide) (by rw [hc]; rfl) (by decide) ?_
    refine j_sub (L' := []) [] rfl ?_
    exact jb_X5_assign_321 C CR  n s
  refine j_ite (fun hc => ?_) (fun hc12 => ?_)
  · refine j_tswI (off := 313) (tgt := 321) C dX5_assign_8 (by rw [hc]; decide) (by rw [hc]; decide) (by rw [hc]; rfl) (by decide) ?_
    refine j_sub (L' := []) [] rfl ?_
    exact jb_X5_assign_321 C CR  n s
  refine j_ite (fun hc => ?_) (fun hc13 => ?_)
  · refine j_tswI (off := 313) (tgt := 321) C dX5_assign_8 (by rw [hc]; decide) (by rw [hc]; decide) (by rw [hc]; rfl) (by decide) ?_
    refine j_sub (L' := []) [] rfl ?_
    exact jb_X5_assign_321 C CR  n s
  refine j_ite (fun hc => ?_) (fun hc14 => ?_)
  · refine j_tswI (off := 313) (tgt := 321) C dX5_assign_8 (by rw [hc]; decide) (by rw [hc]; decide) (by rw [hc]; rfl) (by decide) ?_
    refine j_sub (L' := []) [] rfl ?_
    exact jb_X5_assign_321 C CR  n s
  refine j_ite (fun hc => ?_) (fun hc15 => ?_)
  · refine j_tswI (off := 313) (tgt := 321) C dX5_assign_8 (by rw [hc]; decide) (by rw [hc]; decide) (by rw [hc]; rfl) (by decide) ?_
    refine j_sub (L' := []) [] rfl ?_
    exact jb_X5_assign_321 C CR  n s
  refine j_ite (fun hc => ?_) (fun hc16 => ?_)
  · refine j_tswI (off := 313) (tgt := 321) C dX5_assign_8 (by rw [hc]; decide) (by rw [hc]; decide) (by rw [hc]; rfl) (by decide) ?_
    refine j_sub (L' := []) [] rfl ?_
    exact jb_X5_assign_321 C CR  n s
  refine j_ite (fun hc => ?_) (fun hc17 => ?_)
  · refine j_tswI (off := 313) (tgt := 321) C dX5_assign_8 (by rw [hc]; decide) (by rw [hc]; decide) (by rw [hc]; rfl) (by decide) ?_
    refine j_sub (L' := []) [] rfl ?_
    exact jb_X5_assign_321 C CR  n s
  refine j_ite (fun hc => ?_) (fun hc18 => ?_)
  · refine j_tswI (off := 313) (tgt := 321) C dX5_assign_8 (by rw [hc]; decide) (by rw [hc]; decide) (by rw [hc]; rfl) (by decide) ?_
    refine j_sub (L' := []) [] rfl ?_
    exact jb_X5_assign_321 C CR  n s
  refine j_ite (fun hc => ?_) (fun hc19 => ?_)
  · refine j_tswI (off := 313) (tgt := 321) C dX5_assign_8 (by rw [hc]; decide) (by rw [hc]; decide) (by rw [hc]; rfl) (by decide) ?_
    refine j_sub (L' := []) [] rfl ?_
    exact jb_X5_assign_321 C CR  n s
  refine j_ite (fun hc => ?_) (fun hc20 => ?_)
  · refine j_tswI (off := 313) (tgt := 321) C dX5_assign_8 (by rw [hc]; decide) (by rw [hc]; decide) (by rw [hc]; rfl) (by decide) ?_
    refine j_sub (L' := []) [] rfl ?_
    exact jb_X5_assign_321 C CR  n s
  refine j_ite (fun hc => ?_) (fun hc21 => ?_)
  · refine j_tswI (off := 313) (tgt := 321) C dX5_assign_8 (by rw [hc]; decide) (by rw [hc]; decide) (by rw [hc]; rfl) (by decide) ?_
    refine j_sub (L' := []) [] rfl ?_
    exact jb_X5_assign_321 C CR  n s
  refine j_ite (fun hc => ?_) (fun hc22 => ?_)
  · refine j_tswI (off := 313) (tgt := 321) C dX5_assign_8 (by rw [hc]; decide) (by rw [hc]; decide) (by rw [hc]; rfl) (by decide) ?_
    refine j_sub (L' := []) [] rfl ?_
    exact jb_X5_assign_321 C CR  n s
  refine j_ite (fun hc => ?_) (fun hc23 => ?_)
  · refine j_tswI (off := 313) (tgt := 321) C dX5_assign_8 (by rw [hc]; decide) (by rw [hc]; decide) (by rw [hc]; rfl) (by decide) ?_
    refine j_sub (L' := []) [] rfl ?_
    exact jb_X5_assign_321 C CR  n s
  refine j_ite (fun hc => ?_) (fun hc24 => ?_)
  · refine j_tswI (off := 313) (tgt := 321) C dX5_assign_8 (by rw [hc]; decide) (by rw [hc]; decide) (by rw [hc]; rfl) (by decide) ?_
    refine j_sub (L' := []) [] rfl ?_
    exact jb_X5_assign_321 C CR  n s
  refine j_ite (fun hc => ?_) (fun hc25 => ?_)
  · refine j_tswI (off := 219) (tgt := 227) C dX5_assign_8 (by rw [hc]; decide) (by rw [hc]; decide) (by rw [hc]; rfl) (by decide) ?_
    refine j_aload_n C dX5_assign_227 0 rfl rfl ?_
    refine j_getA C kX5 kc_118 lc_118 0 (by decide) tw_444 rc_5_0 dX5_assign_228 ?_
    refine j_getR (z := 25) C kX3 kc_16 lc_16 3 (by decide) tw_187 rc_3_3 rfl dX5_assign_231 ?_
    refine j_iload_n C dX5_assign_234 3 rfl rfl ?_
    refine j_callVi C (c_X2_has n 25 io_2_25 (s 119 (0 : Int32).toNatClampNeg) s) cw_RX5_69 ⟨rfl, rfl, Nat.le_of_ble_eq_true rfl, Nat.le_of_ble_eq_true rfl⟩ 25 kX2 kc_25 lc_25 [.int (s 119 (0 : Int32).toNatClampNeg)] [] rfl rfl rfl (Nat.le_of_ble_eq_true rfl) dX5_assign_235 (fun x20 s19 => ?_)
    refine j_if_eq (tgt := 258) C dX5_assign_238 (by decide) ?_ ?_
    · refine j_iconst (v := (2 : Int32)) C dX5_assign_258 (by decide) ?_
      refine j_sub (L' := []) [] rfl ?_
      exact jb_X5_assign_259 C CR  n (2 : Int32) s19
    · refine j_aload_n C dX5_assign_241 0 rfl rfl ?_
      refine j_aload_n C dX5_assign_242 1 rfl rfl ?_
      refine j_aload_n C dX5_assign_243 0 rfl rfl ?_
      refine j_getA C kX5 kc_118 lc_118 2 (by decide) tw_446 rc_5_2 dX5_assign_244 ?_
      refine j_getR (z := 37) C kX7 kc_33 lc_33 9 (by decide) tw_341 rc_7_9 rfl dX5_assign_247 ?_
      refine j_iload_n C dX5_assign_250 3 rfl rfl ?_
      refine j_iald C kc_37 lc_37 dX5_assign_251 ?_
      refine j_callVi C (c_X5_store n r1 h_r1 (s19 37 (s 119 (0 : Int32).toNatClampNeg).toNatClampNeg) s19) cw_RX5_299 ⟨rfl, rfl, Nat.le_of_ble_eq_true rfl, Nat.le_of_ble_eq_true rfl⟩ 118 kX5 kc_118 lc_118 [.ref (adX X r1), .int (s19 37 (s 119 (0 : Int32).toNatClampNeg).toNatClampNeg)] [] rfl rfl rfl (Nat.le_of_ble_eq_true rfl) dX5_assign_252 (fun x22 s21 => ?_)
      refine j_goto (tgt := 259) C dX5_assign_255 (by decide) ?_
      refine j_sub (L' := []) [] rfl ?_
      exact jb_X5_assign_259 C CR  n x22 s21
  refine j_ite (fun hc => ?_) (fun hc26 => ?_)
  · refine j_tswI (off := 252) (tgt := 260) C dX5_assign_8 (by rw [hc]; decide) (by rw [hc]; decide) (by rw [hc]; rfl) (by decide) ?_
    refine j_aload_n C dX5_assign_260 0 rfl rfl ?_
    refine j_getA C kX5 kc_118 lc_118 0 (by decide) tw_444 rc_5_0 dX5_assign_261 ?_
    refine j_getR (z := 25) C kX3 kc_16 lc_16 3 (by decide) tw_187 rc_3_3 rfl dX5_assign_264 ?_
    refine j_iload_n C dX5_assign_267 3 rfl rfl ?_
    refine j_callVi C (c_X2_has n 25 io_2_25 (s 119 (0 : Int32).toNatClampNeg) s) cw_RX5_69 ⟨rfl, rfl, Nat.le_of_ble_eq_true rfl, Nat.le_of_ble_eq_true rfl⟩ 25 kX2 kc_25 lc_25 [.int (s 119 (0 : Int32).toNatClampNeg)] [] rfl rfl rfl (Nat.le_of_ble_eq_true rfl) dX5_assign_268 (fun x24 s23 => ?_)
    refine j_if_eq (tgt := 291) C dX5_assign_271 (by decide) ?_ ?_
    · refine j_iconst (v := (2 : Int32)) C dX5_assign_291 (by decide) ?_
      refine j_sub (L' := []) [] rfl ?_
      exact jb_X5_assign_292 C CR  n (2 : Int32) s23
    · refine j_aload_n C dX5_assign_274 0 rfl rfl ?_
      refine j_aload_n C dX5_assign_275 1 rfl rfl ?_
      refine j_aload_n C dX5_assign_276 0 rfl rfl ?_
      refine j_getA C kX5 kc_118 lc_118 2 (by decide) tw_446 rc_5_2 dX5_assign_277 ?_
      refine j_getR (z := 38) C kX7 kc_33 lc_33 10 (by decide) tw_344 rc_7_10 rfl dX5_assign_280 ?_
      refine j_iload_n C dX5_assign_283 3 rfl rfl ?_
      refine j_iald C kc_38 lc_38 dX5_assign_284 ?_
      refine j_callVi C (c_X5_store n r1 h_r1 (s23 38 (s 119 (0 : Int32).toNatClampNeg).toNatClampNeg) s23) cw_RX5_299 ⟨rfl, rfl, Nat.le_of_ble_eq_true rfl, Nat.le_of_ble_eq_true rfl⟩ 118 kX5 kc_118 lc_118 [.ref (adX X r1), .int (s23 38 (s 119 (0 : Int32).toNatClampNeg).toNatClampNeg)] [] rfl rfl rfl (Nat.le_of_ble_eq_true rfl) dX5_assign_285 (fun x26 s25 => ?_)
      refine j_goto (tgt := 292) C dX5_assign_288 (by decide) ?_
      refine j_sub (L' := []) [] rfl ?_
      exact jb_X5_assign_292 C CR  n x26 s25
  refine j_ite (fun hc => ?_) (fun hc27 => ?_)
  · refine j_tswI (off := 285) (tgt := 293) C dX5_assign_8 (by rw [hc]; decide) (by rw [hc]; decide) (by rw [hc]; rfl) (by decide) ?_
    refine j_aload_n C dX5_assign_293 0 rfl rfl ?_
    refine j_aload_n C dX5_assign_294 1 rfl rfl ?_
    refine j_aload_n C dX5_assign_295 0 rfl rfl ?_
    refine j_getA C kX5 kc_118 lc_118 2 (by decide) tw_446 rc_5_2 dX5_assign_296 ?_
    refine j_iload_n C dX5_assign_299 3 rfl rfl ?_
    refine j_callVi C (c_X7_slotsWith n 33 io_7_33 (s 119 (0 : Int32).toNatClampNeg) s) cw_RX5_302 ⟨rfl, rfl, Nat.le_of_ble_eq_true rfl, Nat.le_of_ble_eq_true rfl⟩ 33 kX7 kc_33 lc_33 [.int (s 119 (0 : Int32).toNatClampNeg)] [.ref (adX X r1), .ref (adX X 118)] rfl rfl rfl (Nat.le_of_ble_eq_true rfl) dX5_assign_300 (fun x28 s27 => ?_)
    refine j_callVi C (c_X5_store n r1 h_r1 x28 s27) cw_RX5_299 ⟨rfl, rfl, Nat.le_of_ble_eq_true rfl, Nat.le_of_ble_eq_true rfl⟩ 118 kX5 kc_118 lc_118 [.ref (adX X r1), .int x28] [] rfl rfl rfl (Nat.le_of_ble_eq_true rfl) dX5_assign_303 (fun x30 s29 => ?_)
    exact j_iret C CR dX5_assign_306
  refine j_ite (fun hc => ?_) (fun hc28 => ?_)
  · refine j_tswI (off := 313) (tgt := 321) C dX5_assign_8 (by rw [hc]; decide) (by rw [hc]; decide) (by rw [hc]; rfl) (by decide) ?_
    refine j_sub (L' := []) [] rfl ?_
    exact jb_X5_assign_321 C CR  n s
  refine j_ite (fun hc => ?_) (fun hc29 => ?_)
  · refine j_tswI (off := 299) (tgt := 307) C dX5_assign_8 (by rw [hc]; decide) (by rw [hc]; decide) (by rw [hc]; rfl) (by decide) ?_
    refine j_aload_n C dX5_assign_307 0 rfl rfl ?_
    refine j_aload_n C dX5_assign_308 1 rfl rfl ?_
    refine j_aload_n C dX5_assign_309 0 rfl rfl ?_
    refine j_getA C kX5 kc_118 lc_118 2 (by decide) tw_446 rc_5_2 dX5_assign_310 ?_
    refine j_iload_n C dX5_assign_313 3 rfl rfl ?_
    refine j_callVi C (c_X7_drawLuck n 33 io_7_33 (s 119 (0 : Int32).toNatClampNeg) s) cw_RX5_305 ⟨rfl, rfl, Nat.le_of_ble_eq_true rfl, Nat.le_of_ble_eq_true rfl⟩ 33 kX7 kc_33 lc_33 [.int (s 119 (0 : Int32).toNatClampNeg)] [.ref (adX X r1), .ref (adX X 118)] rfl rfl rfl (Nat.le_of_ble_eq_true rfl) dX5_assign_314 (fun x32 s31 => ?_)
    refine j_callVi C (c_X5_store n r1 h_r1 x32 s31) cw_RX5_299 ⟨rfl, rfl, Nat.le_of_ble_eq_true rfl, Nat.le_of_ble_eq_true rfl⟩ 118 kX5 kc_118 lc_118 [.ref (adX X r1), .int x32] [] rfl rfl rfl (Nat.le_of_ble_eq_true rfl) dX5_assign_317 (fun x34 s33 => ?_)
    exact j_iret C CR dX5_assign_320
  refine j_tswO (tgt := 321) C dX5_assign_8 (by omega) (by decide) ?_
  refine j_sub (L' := []) [] rfl ?_
  exact jb_X5_assign_321 C CR  n s
set_option maxHeartbeats 4000000 in
theorem c_X5_await (n : Nat) (r1 : Nat) (h_r1 : isO 6 r1) (l2 : Int32) (s : Mem) : CTi YC yX5_await cX5_await 3 (some .int) rm_X5_await (fun ad => [.ref (ad 118), .ref (ad r1), .int l2]) s (f_X5_await n r1 l2 s) := by
  refine CTi_of (by decide) (fun _ => Nat.le_of_ble_eq_true rfl) (fun X C CR => ?_)
  show J YC X 3 (f_X5_await n r1 l2 s) 0 [(0, .ref (adX X 118)), (1, .ref (adX X r1)), (2, .int l2)] [] s
  unfold f_X5_await
  refine j_aload_n C dX5_await_0 0 rfl rfl ?_
  refine j_getA C kX5 kc_118 lc_118 0 (by decide) tw_444 rc_5_0 dX5_await_1 ?_
  refine j_getR (z := 28) C kX3 kc_16 lc_16 4 (by decide) tw_190 rc_3_4 rfl dX5_await_4 ?_
  refine j_iload_n C dX5_await_7 2 rfl rfl ?_
  refine j_callVi C (c_X2_has n 28 io_2_28 l2 s) cw_RX5_69 ⟨rfl, rfl, Nat.le_of_ble_eq_true rfl, Nat.le_of_ble_eq_true rfl⟩ 28 kX2 kc_28 lc_28 [.int l2] [] rfl rfl rfl (Nat.le_of_ble_eq_true rfl) dX5_await_8 (fun x2 s1 => ?_)
  refine j_if_ne (tgt := 16) C dX5_await_11 (by decide) ?_ ?_
  · refine j_aload_n C dX5_await_16 1 rfl rfl ?_
    refine j_iload_n C dX5_await_17 2 rfl rfl ?_
    refine j_put C kX6 (pk_6_0 _ h_r1) (pl_6_0 _ h_r1) 3 (by decide) tw_254 rc_6_3 rfl rfl dX5_await_18 (fun s3 => ?_)
    refine j_iconst (v := (1 : Int32)) C dX5_await_21 (by decide) ?_
    exact j_iret C CR dX5_await_22
  · refine j_iconst (v := (2 : Int32)) C dX5_await_14 (by decide) ?_
    exact j_iret C CR dX5_await_15
set_option maxHeartbeats 4000000 in
theorem c_X6_release (n : Nat) (r0 : Nat) (h_r0 : isO 6 r0) (s : Mem) : CTn YC yX6_release cX6_release 1 none rm_X6_release (fun ad => [.ref (ad r0)]) s (f_X6_release n r0 s) := by
  refine CTn_of (by decide) (fun _ => Nat.le_of_ble_eq_true rfl) (fun X C CR => ?_)
  show J YC X 1 (f_X6_release n r0 s) 0 [(0, .ref (adX X r0))] [] s
  unfold f_X6_release
  refine j_aload_n C dX6_release_0 0 rfl rfl ?_
  refine j_iconst (v := (0 : Int32)) C dX6_release_1 (by decide) ?_
  refine j_put C kX6 (pk_6_0 _ h_r0) (pl_6_0 _ h_r0) 0 (by decide) tw_246 rc_6_0 rfl rfl dX6_release_2 (fun s1 => ?_)
  refine j_aload_n C dX6_release_5 0 rfl rfl ?_
  refine j_iconst (v := (0 : Int32)) C dX6_release_6 (by decide) ?_
  refine j_put C kX6 (pk_6_0 _ h_r0) (pl_6_0 _ h_r0) 1 (by decide) tw_249 rc_6_1 rfl rfl dX6_release_7 (fun s2 => ?_)
  refine j_aload_n C dX6_release_10 0 rfl rfl ?_
  refine j_iconst (v := (0 : Int32)) C dX6_release_11 (by decide) ?_
  refine j_put C kX6 (pk_6_0 _ h_r0) (pl_6_0 _ h_r0) 2 (by decide) tw_251 rc_6_2 rfl rfl dX6_release_12 (fun s3 => ?_)
  refine j_aload_n C dX6_release_15 0 rfl rfl ?_
  refine j_iconst (v := (0 : Int32)) C dX6_release_16 (by decide) ?_
  refine j_put C kX6 (pk_6_0 _ h_r0) (pl_6_0 _ h_r0) 3 (by decide) tw_253 rc_6_3 rfl rfl dX6_release_17 (fun s4 => ?_)
  refine j_aload_n C dX6_release_20 0 rfl rfl ?_
  refine j_iconst (v := (0 : Int32)) C dX6_release_21 (by decide) ?_
  refine j_putZ C kX6 (pk_6_0 _ h_r0) (pl_6_0 _ h_r0) 4 (by decide) tw_255 rc_6_4 rfl rfl dX6_release_22 (fun s5 => ?_)
  refine j_aload_n C dX6_release_25 0 rfl rfl ?_
  refine j_iconst (v := (0 : Int32)) C dX6_release_26 (by decide) ?_
  refine j_putZ C kX6 (pk_6_0 _ h_r0) (pl_6_0 _ h_r0) 5 (by decide) tw_257 rc_6_5 rfl rfl dX6_release_27 (fun s6 => ?_)
  refine j_aload_n C dX6_release_30 0 rfl rfl ?_
  refine j_getR (z := (r0 + 1)) C kX6 (pk_6_0 _ h_r0) (pl_6_0 _ h_r0) 6 (by decide) tw_259 rc_6_6 rfl dX6_release_31 ?_
  refine j_iconst (v := (0 : Int32)) C dX6_release_34 (by decide) ?_
  refine j_callSn C (c_fill (pk_6_1 _ h_r0) (pl_6_1 _ h_r0) (by decide) (0 : Int32) s6) cw_RX6_35 ⟨rfl, rfl, Nat.le_of_ble_eq_true rfl, Nat.le_of_ble_eq_true rfl⟩ [.ref (adX X (r0 + 1)), .int (0 : Int32)] [] rfl rfl rfl (Nat.le_of_ble_eq_true rfl) dX6_release_35 (fun s7 => ?_)
  exact j_vret C CR dX6_release_38
set_option maxHeartbeats 4000000 in
theorem c_X5_chain (n : Nat) (r1 : Nat) (h_r1 : isO 6 r1) (l2 : Int32) (s : Mem) : CTi YC yX5_chain cX5_chain 3 (some .int) rm_X5_chain (fun ad => [.ref (ad 118), .ref (ad r1), .int l2]) s (f_X5_chain n r1 l2 s) := by
  refine CTi_of (by decide) (fun _ => Nat.le_of_ble_eq_true rfl) (fun X C CR => ?_)
  show J YC X 3 (f_X5_chain n r1 l2 s) 0 [(0, .ref (adX X 118)), (1, .ref (adX X r1)), (2, .int l2)] [] s
  unfold f_X5_chain
  refine j_aload_n C dX5_chain_0 0 rfl rfl ?_
  refine j_getA C kX5 kc_118 lc_118 0 (by decide) tw_444 rc_5_0 dX5_chain_1 ?_
  refine j_getR (z := 22) C kX3 kc_16 lc_16 2 (by decide) tw_181 rc_3_2 rfl dX5_chain_4 ?_
  refine j_iload_n C dX5_chain_7 2 rfl rfl ?_
  refine j_callVi C (c_X2_has n 22 io_2_22 l2 s) cw_RX5_69 ⟨rfl, rfl, Nat.le_of_ble_eq_true rfl, Nat.le_of_ble_eq_true rfl⟩ 22 kX2 kc_22 lc_22 [.int l2] [] rfl rfl rfl (Nat.le_of_ble_eq_true rfl) dX5_chain_8 (fun x2 s1 => ?_)
  refine j_if_ne (tgt := 20) C dX5_chain_11 (by decide) ?_ ?_
  · refine j_aload_n C dX5_chain_20 1 rfl rfl ?_
    refine j_iload_n C dX5_chain_21 2 rfl rfl ?_
    refine j_put C kX6 (pk_6_0 _ h_r1) (pl_6_0 _ h_r1) 0 (by decide) tw_247 rc_6_0 rfl rfl dX5_chain_22 (fun s3 => ?_)
    refine j_aload_n C dX5_chain_25 1 rfl rfl ?_
    refine j_iconst (v := (0 : Int32)) C dX5_chain_26 (by decide) ?_
    refine j_put C kX6 (pk_6_0 _ h_r1) (pl_6_0 _ h_r1) 1 (by decide) tw_250 rc_6_1 rfl rfl dX5_chain_27 (fun s4 => ?_)
    refine j_aload_n C dX5_chain_30 0 rfl rfl ?_
    refine j_iload_n C dX5_chain_31 2 rfl rfl ?_
    refine j_callVn C (c_X5_openCode n l2 s4) cw_RX5_106 ⟨rfl, rfl, Nat.le_of_ble_eq_true rfl, Nat.le_of_ble_eq_true rfl⟩ 118 kX5 kc_118 lc_118 [.int l2] [] rfl rfl rfl (Nat.le_of_ble_eq_true rfl) dX5_chain_32 (fun s5 => ?_)
    refine j_iconst (v := (0 : Int32)) C dX5_chain_35 (by decide) ?_
    exact j_iret C CR dX5_chain_36
  · refine j_aload_n C dX5_chain_14 1 rfl rfl ?_
    refine j_callVn C (c_X6_release n r1 h_r1 s1) cw_RX5_117 ⟨rfl, rfl, Nat.le_of_ble_eq_true rfl, Nat.le_of_ble_eq_true rfl⟩ r1 kX6 (pk_6_0 _ h_r1) (pl_6_0 _ h_r1) [] [] rfl rfl rfl (Nat.le_of_ble_eq_true rfl) dX5_chain_15 (fun s6 => ?_)
    refine j_iconst (v := (1 : Int32)) C dX5_chain_18 (by decide) ?_
    exact j_iret C CR dX5_chain_19
set_option maxHeartbeats 4000000 in
theorem jb_X10_isByte_16 {X : CtxT (Int32 × Mem)} (C : Cx YC X 1 cX10_isByte RX10 (some .boolean) rm_X10_isByte) (CR : CRi YC X)  (n : Nat)  (t0 : Int32) (s : Mem) : J YC X 1 (b_X10_isByte_16  n  t0 s) 16 [] [.int t0] s := by
  unfold b_X10_isByte_16
  exact j_zret C CR dX10_isByte_16
set_option maxHeartbeats 4000000 in
theorem jb_X10_isByte_15 {X : CtxT (Int32 × Mem)} (C : Cx YC X 1 cX10_isByte RX10 (some .boolean) rm_X10_isByte) (CR : CRi YC X)  (n : Nat)   (s : Mem) : J YC X 1 (b_X10_isByte_15  n   s) 15 [] [] s := by
  unfold b_X10_isByte_15
  refine j_iconst (v := (0 : Int32)) C dX10_isByte_15 (by decide) ?_
  exact jb_X10_isByte_16 C CR  n (0 : Int32) s
set_option maxHeartbeats 4000000 in
theorem c_X10_isByte (n : Nat) (l0 : Int32) (s : Mem) : CTi YC yX10_isByte cX10_isByte 1 (some .boolean) rm_X10_isByte (fun ad => [.int l0]) s (f_X10_isByte n l0 s) := by
  refine CTi_of (by decide) (fun _ => Nat.le_of_ble_eq_true rfl) (fun X C CR => ?_)
  show J YC X 1 (f_X10_isByte n l0 s) 0 [(0, .int l0)] [] s
  unfold f_X10_isByte
  refine j_iload_n C dX10_isByte_0 0 rfl rfl ?_
  refine j_if_lt (tgt := 15) C dX10_isByte_1 (by decide) ?_ ?_
  · refine j_sub (L' := []) [] rfl ?_
    exact jb_X10_isByte_15 C CR  n s
  · refine j_iload_n C dX10_isByte_4 0 rfl rfl ?_
    refine j_sipush (v := (255 : Int32)) C dX10_isByte_5 (by decide) ?_
    refine j_icmp_gt (tgt := 15) C dX10_isByte_8 (by decide) ?_ ?_
    · refine j_sub (L' := []) [] rfl ?_
      exact jb_X10_isByte_15 C CR  n s
    · refine j_iconst (v := (1 : Int32)) C dX10_isByte_11 (by decide) ?_
      refine j_goto (tgt := 16) C dX10_isByte_12 (by decide) ?_
      refine j_sub (L' := []) [] rfl ?_
      exact jb_X10_isByte_16 C CR  n (1 : Int32) s
set_option maxHeartbeats 4000000 in
theorem jb_X5_putActor_39 {X : CtxT (Int32 × Mem)} (C : Cx YC X 5 cX5_putActor RX5 (some .int) rm_X5_putActor) (CR : CRi YC X)  (n : Nat)   (s : Mem) : J YC X 5 (b_X5_putActor_39  n   s) 39 [] [] s := by
  unfold b_X5_putActor_39
  refine j_iconst (v := (2 : Int32)) C dX5_putActor_39 (by decide) ?_
  exact j_iret C CR dX5_putActor_40
set_option maxHeartbeats 4000000 in
theorem c_X5_putActor (n : Nat) (l1 : Int32) (l2 : Int32) (l3 : Int32) (l4 : Int32) (s : Mem) : CTi YC yX5_putActor cX5_putActor 5 (some .int) rm_X5_putActor (fun ad => [.ref (ad 118), .int l1, .int l2, .int l3, .int l4]) s (f_X5_putActor n l1 l2 l3 l4 s) := by
  refine CTi_of (by decide) (fun _ => Nat.le_of_ble_eq_true rfl) (fun X C CR => ?_)
  show J YC X 5 (f_X5_putActor n l1 l2 l3 l4 s) 0 [(0, .ref (adX X 118)), (1, .int l1), (2, .int l2), (3, .int l3), (4, .int l4)] [] s
  unfold f_X5_putActor
  refine j_aload_n C dX5_putActor_0 0 rfl rfl ?_
  refine j_getA C kX5 kc_118 lc_118 0 (by decide) tw_444 rc_5_0 dX5_putActor_1 ?_
  refine j_getR (z := 28) C kX3 kc_16 lc_16 4 (by decide) tw_190 rc_3_4 rfl dX5_putActor_4 ?_
  refine j_iload_n C dX5_putActor_7 1 rfl rfl ?_
  refine j_callVi C (c_X2_has n 28 io_2_28 l1 s) cw_RX5_69 ⟨rfl, rfl, Nat.le_of_ble_eq_true rfl, Nat.le_of_ble_eq_true rfl⟩ 28 kX2 kc_28 lc_28 [.int l1] [] rfl rfl rfl (Nat.le_of_ble_eq_true rfl) dX5_putActor_8 (fun x2 s1 => ?_)
  refine j_if_eq (tgt := 39) C dX5_putActor_11 (by decide) ?_ ?_
  · refine j_sub (L' := []) [] rfl ?_
    exact jb_X5_putActor_39 C CR  n s1
  · refine j_iload_n C dX5_putActor_14 2 rfl rfl ?_
    refine j_if_lt (tgt := 39) C dX5_putActor_15 (by decide) ?_ ?_
    · refine j_sub (L' := []) [] rfl ?_
      exact jb_X5_putActor_39 C CR  n s1
    · refine j_iload_n C dX5_putActor_18 2 rfl rfl ?_
      refine j_bipush (v := (20 : Int32)) C dX5_putActor_19 (by decide) ?_
      refine j_icmp_gt (tgt := 39) C dX5_putActor_21 (by decide) ?_ ?_
      · refine j_sub (L' := []) [] rfl ?_
        exact jb_X5_putActor_39 C CR  n s1
      · refine j_iload_n C dX5_putActor_24 3 rfl rfl ?_
        refine j_callNi C (c_X10_isByte n l3 s1) cw_RX5_271 ⟨rfl, rfl, Nat.le_of_ble_eq_true rfl, Nat.le_of_ble_eq_true rfl⟩ [.int l3] [] rfl rfl rfl (Nat.le_of_ble_eq_true rfl) dX5_putActor_25 (fun x4 s3 => ?_)
        refine j_if_eq (tgt := 39) C dX5_putActor_28 (by decide) ?_ ?_
        · refine j_sub (L' := []) [] rfl ?_
          exact jb_X5_putActor_39 C CR  n s3
        · refine j_iload C dX5_putActor_31 4 rfl ?_
          refine j_callNi C (c_X10_isByte n l4 s3) cw_RX5_271 ⟨rfl, rfl, Nat.le_of_ble_eq_true rfl, Nat.le_of_ble_eq_true rfl⟩ [.int l4] [] rfl rfl rfl (Nat.le_of_ble_eq_true rfl) dX5_putActor_33 (fun x6 s5 => ?_)
          refine j_if_ne (tgt := 41) C dX5_putActor_36 (by decide) ?_ ?_
          · refine j_aload_n C dX5_putActor_41 0 rfl rfl ?_
            refine j_getA C kX5 kc_118 lc_118 2 (by decide) tw_446 rc_5_2 dX5_putActor_42 ?_
            refine j_getR (z := 41) C kX7 kc_33 lc_33 13 (by decide) tw_352 rc_7_13 rfl dX5_putActor_45 ?_
            refine j_iload_n C dX5_putActor_48 1 rfl rfl ?_
            refine j_aald4 C kc_41 lc_41 dX5_putActor_49 (fun z7 e_z7 => ?_)
            have h_z7 : isO 0 z7 := (pe_7_8 _ io_7_33 _ e_z7)
            refine j_iload_n C dX5_putActor_50 2 rfl rfl ?_
            refine j_iload_n C dX5_putActor_51 3 rfl rfl ?_
            refine j_iload C dX5_putActor_52 4 rfl ?_
            refine j_callVn C (c_X0_putAt n z7 h_z7 l2 l3 l4 s5) cw_RX5_274 ⟨rfl, rfl, Nat.le_of_ble_eq_true rfl, Nat.le_of_ble_eq_true rfl⟩ z7 kX0 (pk_0_0 _ h_z7) (pl_0_0 _ h_z7) [.int l2, .int l3, .int l4] [] rfl rfl rfl (Nat.le_of_ble_eq_true rfl) dX5_putActor_54 (fun s8 => ?_)
            refine j_iconst (v := (0 : Int32)) C dX5_putActor_57 (by decide) ?_
            exact j_iret C CR dX5_putActor_58
          · refine j_sub (L' := []) [] rfl ?_
            exact jb_X5_putActor_39 C CR  n s5
set_option maxHeartbeats 4000000 in
theorem jb_X5_setOwner_32 {X : CtxT (Int32 × Mem)} (C : Cx YC X 3 cX5_setOwner RX5 (some .int) rm_X5_setOwner) (CR : CRi YC X)  (n : Nat)   (s : Mem) : J YC X 3 (b_X5_setOwner_32  n   s) 32 [] [] s := by
  unfold b_X5_setOwner_32
  refine j_iconst (v := (2 : Int32)) C dX5_setOwner_32 (by decide) ?_
  exact j_iret C CR dX5_setOwner_33
set_option maxHeartbeats 4000000 in
theorem jb_X5_setOwner_34 {X : CtxT (Int32 × Mem)} (C : Cx YC X 3 cX5_setOwner RX5 (some .int) rm_X5_setOwner) (CR : CRi YC X)  (n : Nat)  (l1 : Int32) (l2 : Int32) (s : Mem) : J YC X 3 (b_X5_setOwner_34  n  l1 l2 s) 34 [(0, .ref (adX X 118)), (1, .int l1), (2, .int l2)] [] s := by
  unfold b_X5_setOwner_34
  refine j_aload_n C dX5_setOwner_34 0 rfl rfl ?_
  refine j_getA C kX5 kc_118 lc_118 2 (by decide) tw_446 rc_5_2 dX5_setOwner_35 ?_
  refine j_getR (z := 38) C kX7 kc_33 lc_33 10 (by decide) tw_344 rc_7_10 rfl dX5_setOwner_38 ?_
  refine j_iload_n C dX5_setOwner_41 1 rfl rfl ?_
  refine j_iload_n C dX5_setOwner_42 2 rfl rfl ?_
  refine j_iast C kc_38 lc_38 dX5_setOwner_43 (fun s1 => ?_)
  refine j_iconst (v := (0 : Int32)) C dX5_setOwner_44 (by decide) ?_
  exact j_iret C CR dX5_setOwner_45
set_option maxHeartbeats 4000000 in
theorem c_X5_setOwner (n : Nat) (l1 : Int32) (l2 : Int32) (s : Mem) : CTi YC yX5_setOwner cX5_setOwner 3 (some .int) rm_X5_setOwner (fun ad => [.ref (ad 118), .int l1, .int l2]) s (f_X5_setOwner n l1 l2 s) := by
  refine CTi_of (by decide) (fun _ => Nat.le_of_ble_eq_true rfl) (fun X C CR => ?_)
  show J YC X 3 (f_X5_setOwner n l1 l2 s) 0 [(0, .ref (adX X 118)), (1, .int l1), (2, .int l2)] [] s
  unfold f_X5_setOwner
  refine j_aload_n C dX5_setOwner_0 0 rfl rfl ?_
  refine j_getA C kX5 kc_118 lc_118 0 (by decide) tw_444 rc_5_0 dX5_setOwner_1 ?_
  refine j_getR (z := 25) C kX3 kc_16 lc_16 3 (by decide) tw_187 rc_3_3 rfl dX5_setOwner_4 ?_
  refine j_iload_n C dX5_setOwner_7 1 rfl rfl ?_
  refine j_callVi C (c_X2_has n 25 io_2_25 l1 s) cw_RX5_69 ⟨rfl, rfl, Nat.le_of_ble_eq_true rfl, Nat.le_of_ble_eq_true rfl⟩ 25 kX2 kc_25 lc_25 [.int l1] [] rfl rfl rfl (Nat.le_of_ble_eq_true rfl) dX5_setOwner_8 (fun x2 s1 => ?_)
  refine j_if_eq (tgt := 32) C dX5_setOwner_11 (by decide) ?_ ?_
  · refine j_sub (L' := []) [] rfl ?_
    exact jb_X5_setOwner_32 C CR  n s1
  · refine j_iload_n C dX5_setOwner_14 2 rfl rfl ?_
    refine j_if_eq (tgt := 34) C dX5_setOwner_15 (by decide) ?_ ?_
    · exact jb_X5_setOwner_34 C CR  n l1 l2 s1
    · refine j_aload_n C dX5_setOwner_18 0 rfl rfl ?_
      refine j_getA C kX5 kc_118 lc_118 0 (by decide) tw_444 rc_5_0 dX5_setOwner_19 ?_
      refine j_getR (z := 28) C kX3 kc_16 lc_16 4 (by decide) tw_190 rc_3_4 rfl dX5_setOwner_22 ?_
      refine j_iload_n C dX5_setOwner_25 2 rfl rfl ?_
      refine j_callVi C (c_X2_has n 28 io_2_28 l2 s1) cw_RX5_69 ⟨rfl, rfl, Nat.le_of_ble_eq_true rfl, Nat.le_of_ble_eq_true rfl⟩ 28 kX2 kc_28 lc_28 [.int l2] [] rfl rfl rfl (Nat.le_of_ble_eq_true rfl) dX5_setOwner_26 (fun x4 s3 => ?_)
      refine j_if_ne (tgt := 34) C dX5_setOwner_29 (by decide) ?_ ?_
      · exact jb_X5_setOwner_34 C CR  n l1 l2 s3
      · refine j_sub (L' := []) [] rfl ?_
        exact jb_X5_setOwner_32 C CR  n s3
set_option maxHeartbeats 4000000 in
theorem jb_X5_setSpeed_24 {X : CtxT (Int32 × Mem)} (C : Cx YC X 3 cX5_setSpeed RX5 (some .int) rm_X5_setSpeed) (CR : CRi YC X)  (n : Nat)   (s : Mem) : J YC X 3 (b_X5_setSpeed_24  n   s) 24 [] [] s := by
  unfold b_X5_setSpeed_24
  refine j_iconst (v := (2 : Int32)) C dX5_setSpeed_24 (by decide) ?_
  exact j_iret C CR dX5_setSpeed_25
set_option maxHeartbeats 4000000 in
theorem c_X5_setSpeed (n : Nat) (l1 : Int32) (l2 : Int32) (s : Mem) : CTi YC yX5_setSpeed cX5_setSpeed 3 (some .int) rm_X5_setSpeed (fun ad => [.ref (ad 118), .int l1, .int l2]) s (f_X5_setSpeed n l1 l2 s) := by
  refine CTi_of (by decide) (fun _ => Nat.le_of_ble_eq_true rfl) (fun X C CR => ?_)
  show J YC X 3 (f_X5_setSpeed n l1 l2 s) 0 [(0, .ref (adX X 118)), (1, .int l1), (2, .int l2)] [] s
  unfold f_X5_setSpeed
  refine j_aload_n C dX5_setSpeed_0 0 rfl rfl ?_
  refine j_getA C kX5 kc_118 lc_118 0 (by decide) tw_444 rc_5_0 dX5_setSpeed_1 ?_
  refine j_getR (z := 28) C kX3 kc_16 lc_16 4 (by decide) tw_190 rc_3_4 rfl dX5_setSpeed_4 ?_
  refine j_iload_n C dX5_setSpeed_7 1 rfl rfl ?_
  refine j_callVi C (c_X2_has n 28 io_2_28 l1 s) cw_RX5_69 ⟨rfl, rfl, Nat.le_of_ble_eq_true rfl, Nat.le_of_ble_eq_true rfl⟩ 28 kX2 kc_28 lc_28 [.int l1] [] rfl rfl rfl (Nat.le_of_ble_eq_true rfl) dX5_setSpeed_8 (fun x2 s1 => ?_)
  refine j_if_eq (tgt := 24) C dX5_setSpeed_11 (by decide) ?_ ?_
  · refine j_sub (L' := []) [] rfl ?_
    exact jb_X5_setSpeed_24 C CR  n s1
  · refine j_iload_n C dX5_setSpeed_14 2 rfl rfl ?_
    refine j_if_lt (tgt := 24) C dX5_setSpeed_15 (by decide) ?_ ?_
    · refine j_sub (L' := []) [] rfl ?_
      exact jb_X5_setSpeed_24 C CR  n s1
    · refine j_iload_n C dX5_setSpeed_18 2 rfl rfl ?_
      refine j_bipush (v := (8 : Int32)) C dX5_setSpeed_19 (by decide) ?_
      refine j_icmp_le (tgt := 26) C dX5_setSpeed_21 (by decide) ?_ ?_
      · refine j_aload_n C dX5_setSpeed_26 0 rfl rfl ?_
        refine j_getA C kX5 kc_118 lc_118 2 (by decide) tw_446 rc_5_2 dX5_setSpeed_27 ?_
        refine j_getR (z := 41) C kX7 kc_33 lc_33 13 (by decide) tw_352 rc_7_13 rfl dX5_setSpeed_30 ?_
        refine j_iload_n C dX5_setSpeed_33 1 rfl rfl ?_
        refine j_aald4 C kc_41 lc_41 dX5_setSpeed_34 (fun z3 e_z3 => ?_)
        have h_z3 : isO 0 z3 := (pe_7_8 _ io_7_33 _ e_z3)
        refine j_iload_n C dX5_setSpeed_35 2 rfl rfl ?_
        refine j_put C kX0 (pk_0_0 _ h_z3) (pl_0_0 _ h_z3) 3 (by decide) tw_293 rc_0_3 rfl rfl dX5_setSpeed_36 (fun s4 => ?_)
        refine j_iconst (v := (0 : Int32)) C dX5_setSpeed_39 (by decide) ?_
        exact j_iret C CR dX5_setSpeed_40
      · refine j_sub (L' := []) [] rfl ?_
        exact jb_X5_setSpeed_24 C CR  n s1
set_option maxHeartbeats 4000000 in
theorem jb_X5_setState_21 {X : CtxT (Int32 × Mem)} (C : Cx YC X 3 cX5_setState RX5 (some .int) rm_X5_setState) (CR : CRi YC X)  (n : Nat)   (s : Mem) : J YC X 3 (b_X5_setState_21  n   s) 21 [] [] s := by
  unfold b_X5_setState_21
  refine j_iconst (v := (2 : Int32)) C dX5_setState_21 (by decide) ?_
  exact j_iret C CR dX5_setState_22
set_option maxHeartbeats 4000000 in
theorem c_X5_setState (n : Nat) (l1 : Int32) (l2 : Int32) (s : Mem) : CTi YC yX5_setState cX5_setState 3 (some .int) rm_X5_setState (fun ad => [.ref (ad 118), .int l1, .int l2]) s (f_X5_setState n l1 l2 s) := by
  refine CTi_of (by decide) (fun _ => Nat.le_of_ble_eq_true rfl) (fun X C CR => ?_)
  show J YC X 3 (f_X5_setState n l1 l2 s) 0 [(0, .ref (adX X 118)), (1, .int l1), (2, .int l2)] [] s
  unfold f_X5_setState
  refine j_aload_n C dX5_setState_0 0 rfl rfl ?_
  refine j_getA C kX5 kc_118 lc_118 0 (by decide) tw_444 rc_5_0 dX5_setState_1 ?_
  refine j_getR (z := 25) C kX3 kc_16 lc_16 3 (by decide) tw_187 rc_3_3 rfl dX5_setState_4 ?_
  refine j_iload_n C dX5_setState_7 1 rfl rfl ?_
  refine j_callVi C (c_X2_has n 25 io_2_25 l1 s) cw_RX5_69 ⟨rfl, rfl, Nat.le_of_ble_eq_true rfl, Nat.le_of_ble_eq_true rfl⟩ 25 kX2 kc_25 lc_25 [.int l1] [] rfl rfl rfl (Nat.le_of_ble_eq_true rfl) dX5_setState_8 (fun x2 s1 => ?_)
  refine j_if_eq (tgt := 21) C dX5_setState_11 (by decide) ?_ ?_
  · refine j_sub (L' := []) [] rfl ?_
    exact jb_X5_setState_21 C CR  n s1
  · refine j_iload_n C dX5_setState_14 2 rfl rfl ?_
    refine j_callNi C (c_X10_isByte n l2 s1) cw_RX5_271 ⟨rfl, rfl, Nat.le_of_ble_eq_true rfl, Nat.le_of_ble_eq_true rfl⟩ [.int l2] [] rfl rfl rfl (Nat.le_of_ble_eq_true rfl) dX5_setState_15 (fun x4 s3 => ?_)
    refine j_if_ne (tgt := 23) C dX5_setState_18 (by decide) ?_ ?_
    · refine j_aload_n C dX5_setState_23 0 rfl rfl ?_
      refine j_getA C kX5 kc_118 lc_118 2 (by decide) tw_446 rc_5_2 dX5_setState_24 ?_
      refine j_getR (z := 37) C kX7 kc_33 lc_33 9 (by decide) tw_341 rc_7_9 rfl dX5_setState_27 ?_
      refine j_iload_n C dX5_setState_30 1 rfl rfl ?_
      refine j_iload_n C dX5_setState_31 2 rfl rfl ?_
      refine j_iast C kc_37 lc_37 dX5_setState_32 (fun s5 => ?_)
      refine j_iconst (v := (0 : Int32)) C dX5_setState_33 (by decide) ?_
      exact j_iret C CR dX5_setState_34
    · refine j_sub (L' := []) [] rfl ?_
      exact jb_X5_setState_21 C CR  n s3
set_option maxHeartbeats 4000000 in
theorem jb_X7_shutBox_37 {X : CtxT Mem} (C : Cx YC X 5 cX7_shutBox RX7 none rm_X7_shutBox) (CR : CRn YC X)  (n : Nat)  (t0 : Int32) (t1 : Int32) (u2 : Nat) (h_u2 : isO 7 u2) (s : Mem) : J YC X 5 (b_X7_shutBox_37  n  t0 t1 u2 s) 37 [] [.int t0, .int t1, .ref (adX X (u2 + 6))] s := by
  unfold b_X7_shutBox_37
  refine j_iast C (pk_7_6 _ h_u2) (pl_7_6 _ h_u2) dX7_shutBox_37 (fun s1 => ?_)
  exact j_vret C CR dX7_shutBox_38
set_option maxHeartbeats 4000000 in
theorem c_X7_shutBox (n : Nat) (r0 : Nat) (h_r0 : isO 7 r0) (l1 : Int32) (l2 : Int32) (l3 : Int32) (s : Mem) : CTn YC yX7_shutBox cX7_shutBox 5 none rm_X7_shutBox (fun ad => [.ref (ad r0), .int l1, .int l2, .int l3]) s (f_X7_shutBox n r0 l1 l2 l3 s) := by
  refine CTn_of (by decide) (fun _ => Nat.le_of_ble_eq_true rfl) (fun X C CR => ?_)
  show J YC X 5 (f_X7_shutBox n r0 l1 l2 l3 s) 0 [(0, .ref (adX X r0)), (1, .int l1), (2, .int l2), (3, .int l3)] [] s
  unfold f_X7_shutBox
  refine j_iconst (v := (1 : Int32)) C dX7_shutBox_0 (by decide) ?_
  refine j_iload_n C dX7_shutBox_1 2 rfl rfl ?_
  refine j_ishl C dX7_shutBox_2 ?_
  refine j_top (fun x1 => ?_)
  refine j_istore (L' := [(0, .ref (adX X r0)), (1, .int l1), (2, .int l2), (3, .int l3), (4, .int x1)]) C dX7_shutBox_3 (by decide) [1, 2, 3, 4, 0] rfl ?_
  refine j_aload_n C dX7_shutBox_5 0 rfl rfl ?_
  refine j_getR (z := (r0 + 6)) C kX7 (pk_7_0 _ h_r0) (pl_7_0 _ h_r0) 11 (by decide) tw_345 rc_7_11 rfl dX7_shutBox_6 ?_
  refine j_iload_n C dX7_shutBox_9 1 rfl rfl ?_
  refine j_iload_n C dX7_shutBox_10 3 rfl rfl ?_
  refine j_if_eq (tgt := 26) C dX7_shutBox_11 (by decide) ?_ ?_
  · refine j_aload_n C dX7_shutBox_26 0 rfl rfl ?_
    refine j_getR (z := (r0 + 6)) C kX7 (pk_7_0 _ h_r0) (pl_7_0 _ h_r0) 11 (by decide) tw_345 rc_7_11 rfl dX7_shutBox_27 ?_
    refine j_iload_n C dX7_shutBox_30 1 rfl rfl ?_
    refine j_iald C (pk_7_6 _ h_r0) (pl_7_6 _ h_r0) dX7_shutBox_31 ?_
    refine j_iload C dX7_shutBox_32 4 rfl ?_
    refine j_iconst (v := (-1 : Int32)) C dX7_shutBox_34 (by decide) ?_
    refine j_ixor C dX7_shutBox_35 ?_
    refine j_iand C dX7_shutBox_36 ?_
    refine j_sub (L' := []) [] rfl ?_
    exact jb_X7_shutBox_37 C CR  n ((s (r0 + 6) l1.toNatClampNeg) &&& (x1 ^^^ (-1 : Int32))) l1 r0 h_r0 s
  · refine j_aload_n C dX7_shutBox_14 0 rfl rfl ?_
    refine j_getR (z := (r0 + 6)) C kX7 (pk_7_0 _ h_r0) (pl_7_0 _ h_r0) 11 (by decide) tw_345 rc_7_11 rfl dX7_shutBox_15 ?_
    refine j_iload_n C dX7_shutBox_18 1 rfl rfl ?_
    refine j_iald C (pk_7_6 _ h_r0) (pl_7_6 _ h_r0) dX7_shutBox_19 ?_
    refine j_iload C dX7_shutBox_20 4 rfl ?_
    refine j_ior C dX7_shutBox_22 ?_
    refine j_goto (tgt := 37) C dX7_shutBox_23 (by decide) ?_
    refine j_sub (L' := []) [] rfl ?_
    exact jb_X7_shutBox_37 C CR  n ((s (r0 + 6) l1.toNatClampNeg) ||| x1) l1 r0 h_r0 s
set_option maxHeartbeats 4000000 in
theorem c_X5_shutBox (n : Nat) (l1 : Int32) (l2 : Int32) (l3 : Int32) (s : Mem) : CTi YC yX5_shutBox cX5_shutBox 4 (some .int) rm_X5_shutBox (fun ad => [.ref (ad 118), .int l1, .int l2, .int l3]) s (f_X5_shutBox n l1 l2 l3 s) := by
  refine CTi_of (by decide) (fun _ => Nat.le_of_ble_eq_true rfl) (fun X C CR => ?_)
  show J YC X 4 (f_X5_shutBox n l1 l2 l3 s) 0 [(0, .ref (adX X 118)), (1, .int l1), (2, .int l2), (3, .int l3)] [] s
  unfold f_X5_shutBox
  refine j_aload_n C dX5_shutBox_0 0 rfl rfl ?_
  refine j_getA C kX5 kc_118 lc_118 1 (by decide) tw_445 rc_5_1 dX5_shutBox_1 ?_
  refine j_iload_n C dX5_shutBox_4 1 rfl rfl ?_
  refine j_iload_n C dX5_shutBox_5 2 rfl rfl ?_
  refine j_callVi C (c_X1_hasBox n l1 l2 s) cw_RX5_290 ⟨rfl, rfl, Nat.le_of_ble_eq_true rfl, Nat.le_of_ble_eq_true rfl⟩ 109 kX1 kc_109 lc_109 [.int l1, .int l2] [] rfl rfl rfl (Nat.le_of_ble_eq_true rfl) dX5_shutBox_6 (fun x2 s1 => ?_)
  refine j_if_ne (tgt := 14) C dX5_shutBox_9 (by decide) ?_ ?_
  · refine j_aload_n C dX5_shutBox_14 0 rfl rfl ?_
    refine j_getA C kX5 kc_118 lc_118 2 (by decide) tw_446 rc_5_2 dX5_shutBox_15 ?_
    refine j_iload_n C dX5_shutBox_18 1 rfl rfl ?_
    refine j_iload_n C dX5_shutBox_19 2 rfl rfl ?_
    refine j_iload_n C dX5_shutBox_20 3 rfl rfl ?_
    refine j_callVn C (c_X7_shutBox n 33 io_7_33 l1 l2 l3 s1) cw_RX5_296 ⟨rfl, rfl, Nat.le_of_ble_eq_true rfl, Nat.le_of_ble_eq_true rfl⟩ 33 kX7 kc_33 lc_33 [.int l1, .int l2, .int l3] [] rfl rfl rfl (Nat.le_of_ble_eq_true rfl) dX5_shutBox_21 (fun s3 => ?_)
    refine j_iconst (v := (0 : Int32)) C dX5_shutBox_24 (by decide) ?_
    exact j_iret C CR dX5_shutBox_25
  · refine j_iconst (v := (2 : Int32)) C dX5_shutBox_12 (by decide) ?_
    exact j_iret C CR dX5_shutBox_13
set_option maxHeartbeats 4000000 in
theorem jb_X9_send_28 {X : CtxT (Int32 × Mem)} (C : Cx YC X 4 cX9_send RX9 (some .boolean) rm_X9_send) (CR : CRi YC X)  (n : Nat)   (s : Mem) : J YC X 4 (b_X9_send_28  n   s) 28 [] [] s := by
  unfold b_X9_send_28
  refine j_iconst (v := (0 : Int32)) C dX9_send_28 (by decide) ?_
  exact j_zret C CR dX9_send_29
set_option maxHeartbeats 4000000 in
theorem c_X9_send (n : Nat) (l1 : Int32) (l2 : Int32) (l3 : Int32) (s : Mem) : CTi YC yX9_send cX9_send 4 (some .boolean) rm_X9_send (fun ad => [.ref (ad 116), .int l1, .int l2, .int l3]) s (f_X9_send n l1 l2 l3 s) := by
  refine CTi_of (by decide) (fun _ => Nat.le_of_ble_eq_true rfl) (fun X C CR => ?_)
  show J YC X 4 (f_X9_send n l1 l2 l3 s) 0 [(0, .ref (adX X 116)), (1, .int l1), (2, .int l2), (3, .int l3)] [] s
  unfold f_X9_send
  refine j_aload_n C dX9_send_0 0 rfl rfl ?_
  refine j_getA C kX9 kc_116 lc_116 0 (by decide) tw_416 rc_9_0 dX9_send_1 ?_
  refine j_getR (z := 28) C kX3 kc_16 lc_16 4 (by decide) tw_189 rc_3_4 rfl dX9_send_4 ?_
  refine j_iload_n C dX9_send_7 1 rfl rfl ?_
  refine j_callVi C (c_X2_has n 28 io_2_28 l1 s) cw_RX9_33 ⟨rfl, rfl, Nat.le_of_ble_eq_true rfl, Nat.le_of_ble_eq_true rfl⟩ 28 kX2 kc_28 lc_28 [.int l1] [] rfl rfl rfl (Nat.le_of_ble_eq_true rfl) dX9_send_8 (fun x2 s1 => ?_)
  refine j_if_eq (tgt := 28) C dX9_send_11 (by decide) ?_ ?_
  · refine j_sub (L' := []) [] rfl ?_
    exact jb_X9_send_28 C CR  n s1
  · refine j_iload_n C dX9_send_14 2 rfl rfl ?_
    refine j_callNi C (c_X10_isByte n l2 s1) cw_RX9_39 ⟨rfl, rfl, Nat.le_of_ble_eq_true rfl, Nat.le_of_ble_eq_true rfl⟩ [.int l2] [] rfl rfl rfl (Nat.le_of_ble_eq_true rfl) dX9_send_15 (fun x4 s3 => ?_)
    refine j_if_eq (tgt := 28) C dX9_send_18 (by decide) ?_ ?_
    · refine j_sub (L' := []) [] rfl ?_
      exact jb_X9_send_28 C CR  n s3
    · refine j_iload_n C dX9_send_21 3 rfl rfl ?_
      refine j_callNi C (c_X10_isByte n l3 s3) cw_RX9_39 ⟨rfl, rfl, Nat.le_of_ble_eq_true rfl, Nat.le_of_ble_eq_true rfl⟩ [.int l3] [] rfl rfl rfl (Nat.le_of_ble_eq_true rfl) dX9_send_22 (fun x6 s5 => ?_)
      refine j_if_ne (tgt := 30) C dX9_send_25 (by decide) ?_ ?_
      · refine j_aload_n C dX9_send_30 0 rfl rfl ?_
        refine j_getA C kX9 kc_116 lc_116 2 (by decide) tw_418 rc_9_2 dX9_send_31 ?_
        refine j_getR (z := 41) C kX7 kc_33 lc_33 13 (by decide) tw_351 rc_7_13 rfl dX9_send_34 ?_
        refine j_iload_n C dX9_send_37 1 rfl rfl ?_
        refine j_aald4 C kc_41 lc_41 dX9_send_38 (fun z7 e_z7 => ?_)
        have h_z7 : isO 0 z7 := (pe_7_8 _ io_7_33 _ e_z7)
        refine j_iload_n C dX9_send_39 2 rfl rfl ?_
        refine j_iload_n C dX9_send_40 3 rfl rfl ?_
        refine j_callVn C (c_X0_walkTo n z7 h_z7 l2 l3 s5) cw_RX9_47 ⟨rfl, rfl, Nat.le_of_ble_eq_true rfl, Nat.le_of_ble_eq_true rfl⟩ z7 kX0 (pk_0_0 _ h_z7) (pl_0_0 _ h_z7) [.int l2, .int l3] [] rfl rfl rfl (Nat.le_of_ble_eq_true rfl) dX9_send_41 (fun s8 => ?_)
        refine j_iconst (v := (1 : Int32)) C dX9_send_44 (by decide) ?_
        exact j_zret C CR dX9_send_45
      · refine j_sub (L' := []) [] rfl ?_
        exact jb_X9_send_28 C CR  n s5
set_option maxHeartbeats 4000000 in
theorem jb_X5_changeStage_104 {X : CtxT (Int32 × Mem)} (C : Cx YC X 3 cX5_changeStage RX5 (some .int) rm_X5_changeStage) (CR : CRi YC X)  (n : Nat)  (t0 : Int32) (s : Mem) : J YC X 3 (b_X5_changeStage_104  n  t0 s) 104 [] [.int t0] s := by
  unfold b_X5_changeStage_104
  exact j_iret C CR dX5_changeStage_104
set_option maxHeartbeats 4000000 in
theorem jb_X5_changeStage_163 {X : CtxT (Int32 × Mem)} (C : Cx YC X 3 cX5_changeStage RX5 (some .int) rm_X5_changeStage) (CR : CRi YC X)  (n : Nat)  (t0 : Int32) (t1 : Int32) (t2 : Int32) (s : Mem) : J YC X 3 (b_X5_changeStage_163  n  t0 t1 t2 s) 163 [] [.int t0, .int t1, .int t2, .ref (adX X 118)] s := by
  unfold b_X5_changeStage_163
  refine j_callVi C (c_X5_shutBox n t2 t1 t0 s) cw_RX5_267 ⟨rfl, rfl, Nat.le_of_ble_eq_true rfl, Nat.le_of_ble_eq_true rfl⟩ 118 kX5 kc_118 lc_118 [.int t2, .int t1, .int t0] [] rfl rfl rfl (Nat.le_of_ble_eq_true rfl) dX5_changeStage_163 (fun x2 s1 => ?_)
  exact j_iret C CR dX5_changeStage_166
set_option maxHeartbeats 4000000 in
theorem jb_X5_changeStage_167 {X : CtxT (Int32 × Mem)} (C : Cx YC X 3 cX5_changeStage RX5 (some .int) rm_X5_changeStage) (CR : CRi YC X)  (n : Nat)   (s : Mem) : J YC X 3 (b_X5_changeStage_167  n   s) 167 [] [] s := by
  unfold b_X5_changeStage_167
  refine j_iconst (v := (2 : Int32)) C dX5_changeStage_167 (by decide) ?_
  exact j_iret C CR dX5_changeStage_168
set_option maxHeartbeats 4000000 in
theorem c_X5_changeStage (n : Nat) (l1 : Int32) (s : Mem) : CTi YC yX5_changeStage cX5_changeStage 3 (some .int) rm_X5_changeStage (fun ad => [.ref (ad 118), .int l1]) s (f_X5_changeStage n l1 s) := by
  refine CTi_of (by decide) (fun _ => Nat.le_of_ble_eq_true rfl) (fun X C CR => ?_)
  show J YC X 3 (f_X5_changeStage n l1 s) 0 [(0, .ref (adX X 118)), (1, .int l1)] [] s
  unfold f_X5_changeStage
  refine j_aload_n C dX5_changeStage_0 0 rfl rfl ?_
  refine j_getR (z := 119) C kX5 kc_118 lc_118 4 (by decide) tw_448 rc_5_4 rfl dX5_changeStage_1 ?_
  refine j_iconst (v := (0 : Int32)) C dX5_changeStage_4 (by decide) ?_
  refine j_iald C kc_119 lc_119 dX5_changeStage_5 ?_
  refine j_istore_n (L' := [(0, .ref (adX X 118)), (1, .int l1), (2, .int (s 119 (0 : Int32).toNatClampNeg))]) C dX5_changeStage_6 rfl (by decide) [1, 2, 0] rfl ?_
  refine j_iload_n C dX5_changeStage_7 1 rfl rfl ?_
  refine j_ite (fun hc => ?_) (fun hc0 => ?_)
  · refine j_tswI (off := 44) (tgt := 52) C dX5_changeStage_8 (by rw [hc]; decide) (by rw [hc]; decide) (by rw [hc]; rfl) (by decide) ?_
    refine j_aload_n C dX5_changeStage_52 0 rfl rfl ?_
    refine j_iload_n C dX5_changeStage_53 2 rfl rfl ?_
    refine j_aload_n C dX5_changeStage_54 0 rfl rfl ?_
    refine j_getR (z := 119) C kX5 kc_118 lc_118 4 (by decide) tw_448 rc_5_4 rfl dX5_changeStage_55 ?_
    refine j_iconst (v := (1 : Int32)) C dX5_changeStage_58 (by decide) ?_
    refine j_iald C kc_119 lc_119 dX5_changeStage_59 ?_
    refine j_aload_n C dX5_changeStage_60 0 rfl rfl ?_
    refine j_getR (z := 119) C kX5 kc_118 lc_118 4 (by decide) tw_448 rc_5_4 rfl dX5_changeStage_61 ?_
    refine j_iconst (v := (2 : Int32)) C dX5_changeStage_64 (by decide) ?_
    refine j_iald C kc_119 lc_119 dX5_changeStage_65 ?_
    refine j_aload_n C dX5_changeStage_66 0 rfl rfl ?_
    refine j_getR (z := 119) C kX5 kc_118 lc_118 4 (by decide) tw_448 rc_5_4 rfl dX5_changeStage_67 ?_
    refine j_iconst (v := (3 : Int32)) C dX5_changeStage_70 (by decide) ?_
    refine j_iald C kc_119 lc_119 dX5_changeStage_71 ?_
    refine j_callVi C (c_X5_putActor n (s 119 (0 : Int32).toNatClampNeg) (s 119 (1 : Int32).toNatClampNeg) (s 119 (2 : Int32).toNatClampNeg) (s 119 (3 : Int32).toNatClampNeg) s) cw_RX5_251 ⟨rfl, rfl, Nat.le_of_ble_eq_true rfl, Nat.le_of_ble_eq_true rfl⟩ 118 kX5 kc_118 lc_118 [.int (s 119 (0 : Int32).toNatClampNeg), .int (s 119 (1 : Int32).toNatClampNeg), .int (s 119 (2 : Int32).toNatClampNeg), .int (s 119 (3 : Int32).toNatClampNeg)] [] rfl rfl rfl (Nat.le_of_ble_eq_true rfl) dX5_changeStage_72 (fun x2 s1 => ?_)
    exact j_iret C CR dX5_changeStage_75
  refine j_ite (fun hc => ?_) (fun hc1 => ?_)
  · refine j_tswI (off := 68) (tgt := 76) C dX5_changeStage_8 (by rw [hc]; decide) (by rw [hc]; decide) (by rw [hc]; rfl) (by decide) ?_
    refine j_aload_n C dX5_changeStage_76 0 rfl rfl ?_
    refine j_getA C kX5 kc_118 lc_118 3 (by decide) tw_447 rc_5_3 dX5_changeStage_77 ?_
    refine j_iload_n C dX5_changeStage_80 2 rfl rfl ?_
    refine j_aload_n C dX5_changeStage_81 0 rfl rfl ?_
    refine j_getR (z := 119) C kX5 kc_118 lc_118 4 (by decide) tw_448 rc_5_4 rfl dX5_changeStage_82 ?_
    refine j_iconst (v := (1 : Int32)) C dX5_changeStage_85 (by decide) ?_
    refine j_iald C kc_119 lc_119 dX5_changeStage_86 ?_
    refine j_aload_n C dX5_changeStage_87 0 rfl rfl ?_
    refine j_getR (z := 119) C kX5 kc_118 lc_118 4 (by decide) tw_448 rc_5_4 rfl dX5_changeStage_88 ?_
    refine j_iconst (v := (2 : Int32)) C dX5_changeStage_91 (by decide) ?_
    refine j_iald C kc_119 lc_119 dX5_changeStage_92 ?_
    refine j_callVi C (c_X9_send n (s 119 (0 : Int32).toNatClampNeg) (s 119 (1 : Int32).toNatClampNeg) (s 119 (2 : Int32).toNatClampNeg) s) cw_RX5_255 ⟨rfl, rfl, Nat.le_of_ble_eq_true rfl, Nat.le_of_ble_eq_true rfl⟩ 116 kX9 kc_116 lc_116 [.int (s 119 (0 : Int32).toNatClampNeg), .int (s 119 (1 : Int32).toNatClampNeg), .int (s 119 (2 : Int32).toNatClampNeg)] [] rfl rfl rfl (Nat.le_of_ble_eq_true rfl) dX5_changeStage_93 (fun x4 s3 => ?_)
    refine j_if_eq (tgt := 103) C dX5_changeStage_96 (by decide) ?_ ?_
    · refine j_iconst (v := (2 : Int32)) C dX5_changeStage_103 (by decide) ?_
      refine j_sub (L' := []) [] rfl ?_
      exact jb_X5_changeStage_104 C CR  n (2 : Int32) s3
    · refine j_iconst (v := (0 : Int32)) C dX5_changeStage_99 (by decide) ?_
      refine j_goto (tgt := 104) C dX5_changeStage_100 (by decide) ?_
      refine j_sub (L' := []) [] rfl ?_
      exact jb_X5_changeStage_104 C CR  n (0 : Int32) s3
  refine j_ite (fun hc => ?_) (fun hc2 => ?_)
  · refine j_tswI (off := 159) (tgt := 167) C dX5_changeStage_8 (by rw [hc]; decide) (by rw [hc]; decide) (by rw [hc]; rfl) (by decide) ?_
    refine j_sub (L' := []) [] rfl ?_
    exact jb_X5_changeStage_167 C CR  n s
  refine j_ite (fun hc => ?_) (fun hc3 => ?_)
  · refine j_tswI (off := 97) (tgt := 105) C dX5_changeStage_8 (by rw [hc]; decide) (by rw [hc]; decide) (by rw [hc]; rfl) (by decide) ?_
    refine j_aload_n C dX5_changeStage_105 0 rfl rfl ?_
    refine j_iload_n C dX5_changeStage_106 2 rfl rfl ?_
    refine j_aload_n C dX5_changeStage_107 0 rfl rfl ?_
    refine j_getR (z := 119) C kX5 kc_118 lc_118 4 (by decide) tw_448 rc_5_4 rfl dX5_changeStage_108 ?_
    refine j_iconst (v := (1 : Int32)) C dX5_changeStage_111 (by decide) ?_
    refine j_iald C kc_119 lc_119 dX5_changeStage_112 ?_
    refine j_callVi C (c_X5_setSpeed n (s 119 (0 : Int32).toNatClampNeg) (s 119 (1 : Int32).toNatClampNeg) s) cw_RX5_258 ⟨rfl, rfl, Nat.le_of_ble_eq_true rfl, Nat.le_of_ble_eq_true rfl⟩ 118 kX5 kc_118 lc_118 [.int (s 119 (0 : Int32).toNatClampNeg), .int (s 119 (1 : Int32).toNatClampNeg)] [] rfl rfl rfl (Nat.le_of_ble_eq_true rfl) dX5_changeStage_113 (fun x6 s5 => ?_)
    exact j_iret C CR dX5_changeStage_116
  refine j_ite (fun hc => ?_) (fun hc4 => ?_)
  · refine j_tswI (off := 109) (tgt := 117) C dX5_changeStage_8 (by rw [hc]; decide) (by rw [hc]; decide) (by rw [hc]; rfl) (by decide) ?_
    refine j_aload_n C dX5_changeStage_117 0 rfl rfl ?_
    refine j_iload_n C dX5_changeStage_118 2 rfl rfl ?_
    refine j_aload_n C dX5_changeStage_119 0 rfl rfl ?_
    refine j_getR (z := 119) C kX5 kc_118 lc_118 4 (by decide) tw_448 rc_5_4 rfl dX5_changeStage_120 ?_
    refine j_iconst (v := (1 : Int32)) C dX5_changeStage_123 (by decide) ?_
    refine j_iald C kc_119 lc_119 dX5_changeStage_124 ?_
    refine j_callVi C (c_X5_setState n (s 119 (0 : Int32).toNatClampNeg) (s 119 (1 : Int32).toNatClampNeg) s) cw_RX5_261 ⟨rfl, rfl, Nat.le_of_ble_eq_true rfl, Nat.le_of_ble_eq_true rfl⟩ 118 kX5 kc_118 lc_118 [.int (s 119 (0 : Int32).toNatClampNeg), .int (s 119 (1 : Int32).toNatClampNeg)] [] rfl rfl rfl (Nat.le_of_ble_eq_true rfl) dX5_changeStage_125 (fun x8 s7 => ?_)
    exact j_iret C CR dX5_changeStage_128
  refine j_ite (fun hc => ?_) (fun hc5 => ?_)
  · refine j_tswI (off := 121) (tgt := 129) C dX5_changeStage_8 (by rw [hc]; decide) (by rw [hc]; decide) (by rw [hc]; rfl) (by decide) ?_
    refine j_aload_n C dX5_changeStage_129 0 rfl rfl ?_
    refine j_iload_n C dX5_changeStage_130 2 rfl rfl ?_
    refine j_aload_n C dX5_changeStage_131 0 rfl rfl ?_
    refine j_getR (z := 119) C kX5 kc_118 lc_118 4 (by decide) tw_448 rc_5_4 rfl dX5_changeStage_132 ?_
    refine j_iconst (v := (1 : Int32)) C dX5_changeStage_135 (by decide) ?_
    refine j_iald C kc_119 lc_119 dX5_changeStage_136 ?_
    refine j_callVi C (c_X5_setOwner n (s 119 (0 : Int32).toNatClampNeg) (s 119 (1 : Int32).toNatClampNeg) s) cw_RX5_264 ⟨rfl, rfl, Nat.le_of_ble_eq_true rfl, Nat.le_of_ble_eq_true rfl⟩ 118 kX5 kc_118 lc_118 [.int (s 119 (0 : Int32).toNatClampNeg), .int (s 119 (1 : Int32).toNatClampNeg)] [] rfl rfl rfl (Nat.le_of_ble_eq_true rfl) dX5_changeStage_137 (fun x10 s9 => ?_)
    exact j_iret C CR dX5_changeStage_140
  refine j_ite (fun hc => ?_) (fun hc6 => ?_)
  · refine j_tswI (off := 133) (tgt := 141) C dX5_changeStage_8 (by rw [hc]; decide) (by rw [hc]; decide) (by rw [hc]; rfl) (by decide) ?_
    refine j_aload_n C dX5_changeStage_141 0 rfl rfl ?_
    refine j_iload_n C dX5_changeStage_142 2 rfl rfl ?_
    refine j_aload_n C dX5_changeStage_143 0 rfl rfl ?_
    refine j_getR (z := 119) C kX5 kc_118 lc_118 4 (by decide) tw_448 rc_5_4 rfl dX5_changeStage_144 ?_
    refine j_iconst (v := (1 : Int32)) C dX5_changeStage_147 (by decide) ?_
    refine j_iald C kc_119 lc_119 dX5_changeStage_148 ?_
    refine j_aload_n C dX5_changeStage_149 0 rfl rfl ?_
    refine j_getR (z := 119) C kX5 kc_118 lc_118 4 (by decide) tw_448 rc_5_4 rfl dX5_changeStage_150 ?_
    refine j_iconst (v := (2 : Int32)) C dX5_changeStage_153 (by decide) ?_
    refine j_iald C kc_119 lc_119 dX5_changeStage_154 ?_
    refine j_if_eq (tgt := 162) C dX5_changeStage_155 (by decide) ?_ ?_
    · refine j_iconst (v := (0 : Int32)) C dX5_changeStage_162 (by decide) ?_
      refine j_sub (L' := []) [] rfl ?_
      exact jb_X5_changeStage_163 C CR  n (0 : Int32) (s 119 (1 : Int32).toNatClampNeg) (s 119 (0 : Int32).toNatClampNeg) s
    · refine j_iconst (v := (1 : Int32)) C dX5_changeStage_158 (by decide) ?_
      refine j_goto (tgt := 163) C dX5_changeStage_159 (by decide) ?_
      refine j_sub (L' := []) [] rfl ?_
      exact jb_X5_changeStage_163 C CR  n (1 : Int32) (s 119 (1 : Int32).toNatClampNeg) (s 119 (0 : Int32).toNatClampNeg) s
  refine j_tswO (tgt := 167) C dX5_changeStage_8 (by omega) (by decide) ?_
  refine j_sub (L' := []) [] rfl ?_
  exact jb_X5_changeStage_167 C CR  n s
