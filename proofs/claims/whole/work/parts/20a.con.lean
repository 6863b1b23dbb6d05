set_option maxHeartbeats 4000000 in
theorem c_X0_halt (n : Nat) (r0 : Nat) (h_r0 : isO 0 r0) (s : Mem) : CTn YC yX0_halt cX0_halt 1 none rm_X0_halt (fun ad => [.ref (ad r0)]) s (f_X0_halt n r0 s) := by
  refine CTn_of (by decide) (fun _ => Nat.le_of_ble_eq_true rfl) (fun X C CR => ?_)
  show J YC X 1 (f_X0_halt n r0 s) 0 [(0, .ref (adX X r0))] [] s
  unfold f_X0_halt
  refine j_aload_n C dX0_halt_0 0 rfl rfl ?_
  refine j_iconst (v := (0 : Int32)) C dX0_halt_1 (by decide) ?_
  refine j_putZ C kX0 (pk_0_0 _ h_r0) (pl_0_0 _ h_r0) 4 (by decide) tw_294 rc_0_4 rfl rfl dX0_halt_2 (fun s1 => ?_)
  refine j_aload_n C dX0_halt_5 0 rfl rfl ?_
  refine j_iconst (v := (-1 : Int32)) C dX0_halt_6 (by decide) ?_
  refine j_put C kX0 (pk_0_0 _ h_r0) (pl_0_0 _ h_r0) 5 (by decide) tw_297 rc_0_5 rfl rfl dX0_halt_7 (fun s2 => ?_)
  refine j_aload_n C dX0_halt_10 0 rfl rfl ?_
  refine j_iconst (v := (-1 : Int32)) C dX0_halt_11 (by decide) ?_
  refine j_put C kX0 (pk_0_0 _ h_r0) (pl_0_0 _ h_r0) 6 (by decide) tw_299 rc_0_6 rfl rfl dX0_halt_12 (fun s3 => ?_)
  exact j_vret C CR dX0_halt_15
set_option maxHeartbeats 4000000 in
theorem c_X0_putAt (n : Nat) (r0 : Nat) (h_r0 : isO 0 r0) (l1 : Int32) (l2 : Int32) (l3 : Int32) (s : Mem) : CTn YC yX0_putAt cX0_putAt 4 none rm_X0_putAt (fun ad => [.ref (ad r0), .int l1, .int l2, .int l3]) s (f_X0_putAt n r0 l1 l2 l3 s) := by
  refine CTn_of (by decide) (fun _ => Nat.le_of_ble_eq_true rfl) (fun X C CR => ?_)
  show J YC X 4 (f_X0_putAt n r0 l1 l2 l3 s) 0 [(0, .ref (adX X r0)), (1, .int l1), (2, .int l2), (3, .int l3)] [] s
  unfold f_X0_putAt
  refine j_aload_n C dX0_putAt_0 0 rfl rfl ?_
  refine j_iload_n C dX0_putAt_1 1 rfl rfl ?_
  refine j_put C kX0 (pk_0_0 _ h_r0) (pl_0_0 _ h_r0) 0 (by decide) tw_281 rc_0_0 rfl rfl dX0_putAt_2 (fun s1 => ?_)
  refine j_aload_n C dX0_putAt_5 0 rfl rfl ?_
  refine j_iload_n C dX0_putAt_6 2 rfl rfl ?_
  refine j_put C kX0 (pk_0_0 _ h_r0) (pl_0_0 _ h_r0) 1 (by decide) tw_284 rc_0_1 rfl rfl dX0_putAt_7 (fun s2 => ?_)
  refine j_aload_n C dX0_putAt_10 0 rfl rfl ?_
  refine j_iload_n C dX0_putAt_11 3 rfl rfl ?_
  refine j_put C kX0 (pk_0_0 _ h_r0) (pl_0_0 _ h_r0) 2 (by decide) tw_287 rc_0_2 rfl rfl dX0_putAt_12 (fun s3 => ?_)
  refine j_aload_n C dX0_putAt_15 0 rfl rfl ?_
  refine j_callVn C (c_X0_halt n r0 h_r0 s3) cw_RX0_21 ⟨rfl, rfl, Nat.le_of_ble_eq_true rfl, Nat.le_of_ble_eq_true rfl⟩ r0 kX0 (pk_0_0 _ h_r0) (pl_0_0 _ h_r0) [] [] rfl rfl rfl (Nat.le_of_ble_eq_true rfl) dX0_putAt_16 (fun s4 => ?_)
  exact j_vret C CR dX0_putAt_19
set_option maxHeartbeats 4000000 in
theorem c_X0_walkTo (n : Nat) (r0 : Nat) (h_r0 : isO 0 r0) (l1 : Int32) (l2 : Int32) (s : Mem) : CTn YC yX0_walkTo cX0_walkTo 3 none rm_X0_walkTo (fun ad => [.ref (ad r0), .int l1, .int l2]) s (f_X0_walkTo n r0 l1 l2 s) := by
  refine CTn_of (by decide) (fun _ => Nat.le_of_ble_eq_true rfl) (fun X C CR => ?_)
  show J YC X 3 (f_X0_walkTo n r0 l1 l2 s) 0 [(0, .ref (adX X r0)), (1, .int l1), (2, .int l2)] [] s
  unfold f_X0_walkTo
  refine j_aload_n C dX0_walkTo_0 0 rfl rfl ?_
  refine j_iconst (v := (1 : Int32)) C dX0_walkTo_1 (by decide) ?_
  refine j_putZ C kX0 (pk_0_0 _ h_r0) (pl_0_0 _ h_r0) 4 (by decide) tw_294 rc_0_4 rfl rfl dX0_walkTo_2 (fun s1 => ?_)
  refine j_aload_n C dX0_walkTo_5 0 rfl rfl ?_
  refine j_iload_n C dX0_walkTo_6 1 rfl rfl ?_
  refine j_put C kX0 (pk_0_0 _ h_r0) (pl_0_0 _ h_r0) 5 (by decide) tw_297 rc_0_5 rfl rfl dX0_walkTo_7 (fun s2 => ?_)
  refine j_aload_n C dX0_walkTo_10 0 rfl rfl ?_
  refine j_iload_n C dX0_walkTo_11 2 rfl rfl ?_
  refine j_put C kX0 (pk_0_0 _ h_r0) (pl_0_0 _ h_r0) 6 (by decide) tw_299 rc_0_6 rfl rfl dX0_walkTo_12 (fun s3 => ?_)
  exact j_vret C CR dX0_walkTo_15
set_option maxHeartbeats 4000000 in
theorem c_X0_copyFrom (n : Nat) (r0 : Nat) (h_r0 : isO 0 r0) (r1 : Nat) (h_r1 : isO 0 r1) (s : Mem) : CTn YC yX0_copyFrom cX0_copyFrom 2 none rm_X0_copyFrom (fun ad => [.ref (ad r0), .ref (ad r1)]) s (f_X0_copyFrom n r0 r1 s) := by
  refine CTn_of (by decide) (fun _ => Nat.le_of_ble_eq_true rfl) (fun X C CR => ?_)
  show J YC X 2 (f_X0_copyFrom n r0 r1 s) 0 [(0, .ref (adX X r0)), (1, .ref (adX X r1))] [] s
  unfold f_X0_copyFrom
  refine j_aload_n C dX0_copyFrom_0 0 rfl rfl ?_
  refine j_aload_n C dX0_copyFrom_1 1 rfl rfl ?_
  refine j_get C kX0 (pk_0_0 _ h_r1) (pl_0_0 _ h_r1) 0 (by decide) tw_281 rc_0_0 dX0_copyFrom_2 ?_
  refine j_put C kX0 (pk_0_0 _ h_r0) (pl_0_0 _ h_r0) 0 (by decide) tw_281 rc_0_0 rfl rfl dX0_copyFrom_5 (fun s1 => ?_)
  refine j_aload_n C dX0_copyFrom_8 0 rfl rfl ?_
  refine j_aload_n C dX0_copyFrom_9 1 rfl rfl ?_
  refine j_get C kX0 (pk_0_0 _ h_r1) (pl_0_0 _ h_r1) 1 (by decide) tw_284 rc_0_1 dX0_copyFrom_10 ?_
  refine j_put C kX0 (pk_0_0 _ h_r0) (pl_0_0 _ h_r0) 1 (by decide) tw_284 rc_0_1 rfl rfl dX0_copyFrom_13 (fun s2 => ?_)
  refine j_aload_n C dX0_copyFrom_16 0 rfl rfl ?_
  refine j_aload_n C dX0_copyFrom_17 1 rfl rfl ?_
  refine j_get C kX0 (pk_0_0 _ h_r1) (pl_0_0 _ h_r1) 2 (by decide) tw_287 rc_0_2 dX0_copyFrom_18 ?_
  refine j_put C kX0 (pk_0_0 _ h_r0) (pl_0_0 _ h_r0) 2 (by decide) tw_287 rc_0_2 rfl rfl dX0_copyFrom_21 (fun s3 => ?_)
  refine j_aload_n C dX0_copyFrom_24 0 rfl rfl ?_
  refine j_aload_n C dX0_copyFrom_25 1 rfl rfl ?_
  refine j_get C kX0 (pk_0_0 _ h_r1) (pl_0_0 _ h_r1) 3 (by decide) tw_291 rc_0_3 dX0_copyFrom_26 ?_
  refine j_put C kX0 (pk_0_0 _ h_r0) (pl_0_0 _ h_r0) 3 (by decide) tw_291 rc_0_3 rfl rfl dX0_copyFrom_29 (fun s4 => ?_)
  refine j_aload_n C dX0_copyFrom_32 0 rfl rfl ?_
  refine j_aload_n C dX0_copyFrom_33 1 rfl rfl ?_
  refine j_get C kX0 (pk_0_0 _ h_r1) (pl_0_0 _ h_r1) 4 (by decide) tw_294 rc_0_4 dX0_copyFrom_34 ?_
  refine j_putZ C kX0 (pk_0_0 _ h_r0) (pl_0_0 _ h_r0) 4 (by decide) tw_294 rc_0_4 rfl rfl dX0_copyFrom_37 (fun s5 => ?_)
  refine j_aload_n C dX0_copyFrom_40 0 rfl rfl ?_
  refine j_aload_n C dX0_copyFrom_41 1 rfl rfl ?_
  refine j_get C kX0 (pk_0_0 _ h_r1) (pl_0_0 _ h_r1) 5 (by decide) tw_297 rc_0_5 dX0_copyFrom_42 ?_
  refine j_put C kX0 (pk_0_0 _ h_r0) (pl_0_0 _ h_r0) 5 (by decide) tw_297 rc_0_5 rfl rfl dX0_copyFrom_45 (fun s6 => ?_)
  refine j_aload_n C dX0_copyFrom_48 0 rfl rfl ?_
  refine j_aload_n C dX0_copyFrom_49 1 rfl rfl ?_
  refine j_get C kX0 (pk_0_0 _ h_r1) (pl_0_0 _ h_r1) 6 (by decide) tw_299 rc_0_6 dX0_copyFrom_50 ?_
  refine j_put C kX0 (pk_0_0 _ h_r0) (pl_0_0 _ h_r0) 6 (by decide) tw_299 rc_0_6 rfl rfl dX0_copyFrom_53 (fun s7 => ?_)
  exact j_vret C CR dX0_copyFrom_56
set_option maxHeartbeats 4000000 in
theorem jb_X0_number_76 {X : CtxT (Int32 × Mem)} (C : Cx YC X 2 cX0_number RX0 (some .int) rm_X0_number) (CR : CRi YC X)  (n : Nat)  (t0 : Int32) (s : Mem) : J YC X 2 (b_X0_number_76  n  t0 s) 76 [] [.int t0] s := by
  unfold b_X0_number_76
  exact j_iret C CR dX0_number_76
set_option maxHeartbeats 4000000 in
theorem c_X0_number (n : Nat) (r0 : Nat) (h_r0 : isO 0 r0) (l1 : Int32) (s : Mem) : CTi YC yX0_number cX0_number 2 (some .int) rm_X0_number (fun ad => [.ref (ad r0), .int l1]) s (f_X0_number n r0 l1 s) := by
  refine CTi_of (by decide) (fun _ => Nat.le_of_ble_eq_true rfl) (fun X C CR => ?_)
  show J YC X 2 (f_X0_number n r0 l1 s) 0 [(0, .ref (adX X r0)), (1, .int l1)] [] s
  unfold f_X0_number
  refine j_iload_n C dX0_number_0 1 rfl rfl ?_
  refine j_ite (fun hc => ?_) (fun hc0 => ?_)
  · refine j_tswI (off := 43) (tgt := 44) C dX0_number_1 (by rw [hc]; decide) (by rw [hc]; decide) (by rw [hc]; rfl) (by decide) ?_
    refine j_aload_n C dX0_number_44 0 rfl rfl ?_
    refine j_get C kX0 (pk_0_0 _ h_r0) (pl_0_0 _ h_r0) 0 (by decide) tw_281 rc_0_0 dX0_number_45 ?_
    exact j_iret C CR dX0_number_48
  refine j_ite (fun hc => ?_) (fun hc1 => ?_)
  · refine j_tswI (off := 48) (tgt := 49) C dX0_number_1 (by rw [hc]; decide) (by rw [hc]; decide) (by rw [hc]; rfl) (by decide) ?_
    refine j_aload_n C dX0_number_49 0 rfl rfl ?_
    refine j_get C kX0 (pk_0_0 _ h_r0) (pl_0_0 _ h_r0) 1 (by decide) tw_284 rc_0_1 dX0_number_50 ?_
    exact j_iret C CR dX0_number_53
  refine j_ite (fun hc => ?_) (fun hc2 => ?_)
  · refine j_tswI (off := 53) (tgt := 54) C dX0_number_1 (by rw [hc]; decide) (by rw [hc]; decide) (by rw [hc]; rfl) (by decide) ?_
    refine j_aload_n C dX0_number_54 0 rfl rfl ?_
    refine j_get C kX0 (pk_0_0 _ h_r0) (pl_0_0 _ h_r0) 2 (by decide) tw_287 rc_0_2 dX0_number_55 ?_
    exact j_iret C CR dX0_number_58
  refine j_ite (fun hc => ?_) (fun hc3 => ?_)
  · refine j_tswI (off := 58) (tgt := 59) C dX0_number_1 (by rw [hc]; decide) (by rw [hc]; decide) (by rw [hc]; rfl) (by decide) ?_
    refine j_aload_n C dX0_number_59 0 rfl rfl ?_
    refine j_get C kX0 (pk_0_0 _ h_r0) (pl_0_0 _ h_r0) 3 (by decide) tw_291 rc_0_3 dX0_number_60 ?_
    exact j_iret C CR dX0_number_63
  refine j_ite (fun hc => ?_) (fun hc4 => ?_)
  · refine j_tswI (off := 63) (tgt := 64) C dX0_number_1 (by rw [hc]; decide) (by rw [hc]; decide) (by rw [hc]; rfl) (by decide) ?_
    refine j_aload_n C dX0_number_64 0 rfl rfl ?_
    refine j_get C kX0 (pk_0_0 _ h_r0) (pl_0_0 _ h_r0) 4 (by decide) tw_294 rc_0_4 dX0_number_65 ?_
    refine j_if_eq (tgt := 75) C dX0_number_68 (by decide) ?_ ?_
    · refine j_iconst (v := (0 : Int32)) C dX0_number_75 (by decide) ?_
      refine j_sub (L' := []) [] rfl ?_
      exact jb_X0_number_76 C CR  n (0 : Int32) s
    · refine j_iconst (v := (1 : Int32)) C dX0_number_71 (by decide) ?_
      refine j_goto (tgt := 76) C dX0_number_72 (by decide) ?_
      refine j_sub (L' := []) [] rfl ?_
      exact jb_X0_number_76 C CR  n (1 : Int32) s
  refine j_ite (fun hc => ?_) (fun hc5 => ?_)
  · refine j_tswI (off := 76) (tgt := 77) C dX0_number_1 (by rw [hc]; decide) (by rw [hc]; decide) (by rw [hc]; rfl) (by decide) ?_
    refine j_aload_n C dX0_number_77 0 rfl rfl ?_
    refine j_get C kX0 (pk_0_0 _ h_r0) (pl_0_0 _ h_r0) 5 (by decide) tw_297 rc_0_5 dX0_number_78 ?_
    exact j_iret C CR dX0_number_81
  refine j_ite (fun hc => ?_) (fun hc6 => ?_)
  · refine j_tswI (off := 81) (tgt := 82) C dX0_number_1 (by rw [hc]; decide) (by rw [hc]; decide) (by rw [hc]; rfl) (by decide) ?_
    refine j_aload_n C dX0_number_82 0 rfl rfl ?_
    refine j_get C kX0 (pk_0_0 _ h_r0) (pl_0_0 _ h_r0) 6 (by decide) tw_299 rc_0_6 dX0_number_83 ?_
    exact j_iret C CR dX0_number_86
  refine j_tswO (tgt := 87) C dX0_number_1 (by omega) (by decide) ?_
  refine j_iconst (v := (-1 : Int32)) C dX0_number_87 (by decide) ?_
  exact j_iret C CR dX0_number_88
set_option maxHeartbeats 4000000 in
theorem jb_X1_touch_86 {X : CtxT (Int32 × Mem)} (C : Cx YC X 5 cX1_touch RX1 (some .boolean) rm_X1_touch) (CR : CRi YC X)  (n : Nat)  (t0 : Int32) (s : Mem) : J YC X 5 (b_X1_touch_86  n  t0 s) 86 [] [.int t0] s := by
  unfold b_X1_touch_86
  exact j_zret C CR dX1_touch_86
set_option maxHeartbeats 4000000 in
theorem c_X1_touch (n : Nat) (l1 : Int32) (l2 : Int32) (s : Mem) : CTi YC yX1_touch cX1_touch 5 (some .boolean) rm_X1_touch (fun ad => [.ref (ad 109), .int l1, .int l2]) s (f_X1_touch n l1 l2 s) := by
  refine CTi_of (by decide) (fun _ => Nat.le_of_ble_eq_true rfl) (fun X C CR => ?_)
  show J YC X 5 (f_X1_touch n l1 l2 s) 0 [(0, .ref (adX X 109)), (1, .int l1), (2, .int l2)] [] s
  unfold f_X1_touch
  refine j_iconst (v := (0 : Int32)) C dX1_touch_0 (by decide) ?_
  refine j_aload_n C dX1_touch_1 0 rfl rfl ?_
  refine j_getR (z := 111) C kX1 kc_109 lc_109 1 (by decide) tw_390 rc_1_1 rfl dX1_touch_2 ?_
  refine j_iload_n C dX1_touch_5 1 rfl rfl ?_
  refine j_iald C kc_111 lc_111 dX1_touch_6 ?_
  refine j_aload_n C dX1_touch_7 0 rfl rfl ?_
  refine j_getR (z := 111) C kX1 kc_109 lc_109 1 (by decide) tw_390 rc_1_1 rfl dX1_touch_8 ?_
  refine j_iload_n C dX1_touch_11 2 rfl rfl ?_
  refine j_iald C kc_111 lc_111 dX1_touch_12 ?_
  refine j_mmax C cw_RX1_42 ⟨Nat.le_of_ble_eq_true rfl, Nat.le_of_ble_eq_true rfl⟩ (Nat.le_of_ble_eq_true rfl) dX1_touch_13 ?_
  refine j_aload_n C dX1_touch_16 0 rfl rfl ?_
  refine j_getR (z := 113) C kX1 kc_109 lc_109 3 (by decide) tw_392 rc_1_3 rfl dX1_touch_17 ?_
  refine j_iload_n C dX1_touch_20 1 rfl rfl ?_
  refine j_iald C kc_113 lc_113 dX1_touch_21 ?_
  refine j_aload_n C dX1_touch_22 0 rfl rfl ?_
  refine j_getR (z := 113) C kX1 kc_109 lc_109 3 (by decide) tw_392 rc_1_3 rfl dX1_touch_23 ?_
  refine j_iload_n C dX1_touch_26 2 rfl rfl ?_
  refine j_iald C kc_113 lc_113 dX1_touch_27 ?_
  refine j_mmin C cw_RX1_36 ⟨Nat.le_of_ble_eq_true rfl, Nat.le_of_ble_eq_true rfl⟩ (Nat.le_of_ble_eq_true rfl) dX1_touch_28 ?_
  refine j_isub C dX1_touch_31 ?_
  refine j_mmax C cw_RX1_42 ⟨Nat.le_of_ble_eq_true rfl, Nat.le_of_ble_eq_true rfl⟩ (Nat.le_of_ble_eq_true rfl) dX1_touch_32 ?_
  refine j_top (fun x1 => ?_)
  refine j_istore_n (L' := [(0, .ref (adX X 109)), (1, .int l1), (2, .int l2), (3, .int x1)]) C dX1_touch_35 rfl (by decide) [1, 2, 3, 0] rfl ?_
  refine j_iconst (v := (0 : Int32)) C dX1_touch_36 (by decide) ?_
  refine j_aload_n C dX1_touch_37 0 rfl rfl ?_
  refine j_getR (z := 112) C kX1 kc_109 lc_109 2 (by decide) tw_391 rc_1_2 rfl dX1_touch_38 ?_
  refine j_iload_n C dX1_touch_41 1 rfl rfl ?_
  refine j_iald C kc_112 lc_112 dX1_touch_42 ?_
  refine j_aload_n C dX1_touch_43 0 rfl rfl ?_
  refine j_getR (z := 112) C kX1 kc_109 lc_109 2 (by decide) tw_391 rc_1_2 rfl dX1_touch_44 ?_
  refine j_iload_n C dX1_touch_47 2 rfl rfl ?_
  refine j_iald C kc_112 lc_112 dX1_touch_48 ?_
  refine j_mmax C cw_RX1_42 ⟨Nat.le_of_ble_eq_true rfl, Nat.le_of_ble_eq_true rfl⟩ (Nat.le_of_ble_eq_true rfl) dX1_touch_49 ?_
  refine j_aload_n C dX1_touch_52 0 rfl rfl ?_
  refine j_getR (z := 114) C kX1 kc_109 lc_109 4 (by decide) tw_393 rc_1_4 rfl dX1_touch_53 ?_
  refine j_iload_n C dX1_touch_56 1 rfl rfl ?_
  refine j_iald C kc_114 lc_114 dX1_touch_57 ?_
  refine j_aload_n C dX1_touch_58 0 rfl rfl ?_
  refine j_getR (z := 114) C kX1 kc_109 lc_109 4 (by decide) tw_393 rc_1_4 rfl dX1_touch_59 ?_
  refine j_iload_n C dX1_touch_62 2 rfl rfl ?_
  refine j_iald C kc_114 lc_114 dX1_touch_63 ?_
  refine j_mmin C cw_RX1_36 ⟨Nat.le_of_ble_eq_true rfl, Nat.le_of_ble_eq_true rfl⟩ (Nat.le_of_ble_eq_true rfl) dX1_touch_64 ?_
  refine j_isub C dX1_touch_67 ?_
  refine j_mmax C cw_RX1_42 ⟨Nat.le_of_ble_eq_true rfl, Nat.le_of_ble_eq_true rfl⟩ (Nat.le_of_ble_eq_true rfl) dX1_touch_68 ?_
  refine j_top (fun x2 => ?_)
  refine j_istore (L' := [(0, .ref (adX X 109)), (1, .int l1), (2, .int l2), (3, .int x1), (4, .int x2)]) C dX1_touch_71 (by decide) [1, 2, 3, 4, 0] rfl ?_
  refine j_iload_n C dX1_touch_73 3 rfl rfl ?_
  refine j_iload C dX1_touch_74 4 rfl ?_
  refine j_iadd C dX1_touch_76 ?_
  refine j_iconst (v := (1 : Int32)) C dX1_touch_77 (by decide) ?_
  refine j_icmp_gt (tgt := 85) C dX1_touch_78 (by decide) ?_ ?_
  · refine j_iconst (v := (0 : Int32)) C dX1_touch_85 (by decide) ?_
    refine j_sub (L' := []) [] rfl ?_
    exact jb_X1_touch_86 C CR  n (0 : Int32) s
  · refine j_iconst (v := (1 : Int32)) C dX1_touch_81 (by decide) ?_
    refine j_goto (tgt := 86) C dX1_touch_82 (by decide) ?_
    refine j_sub (L' := []) [] rfl ?_
    exact jb_X1_touch_86 C CR  n (1 : Int32) s
set_option maxHeartbeats 4000000 in
theorem jb_X1_findNeighbours_69 {X : CtxT Mem} (C : Cx YC X 5 cX1_findNeighbours RX1 none rm_X1_findNeighbours) (CR : CRn YC X) (k7 : Int32 → Int32 → Int32 → Mem → Option Mem) (hk7 : ∀ (l1 : Int32) (l2 : Int32) (l3 : Int32) (s : Mem), J YC X 5 (k7 l1 l2 l3 s) 7 [(0, .ref (adX X 109)), (1, .int l1), (2, .int l2), (3, .int l3)] [] s) (k29 : Int32 → Int32 → Int32 → Int32 → Mem → Option Mem) (hk29 : ∀ (l1 : Int32) (l2 : Int32) (l3 : Int32) (l4 : Int32) (s : Mem), J YC X 5 (k29 l1 l2 l3 l4 s) 29 [(0, .ref (adX X 109)), (1, .int l1), (2, .int l2), (3, .int l3), (4, .int l4)] [] s) (n : Nat)  (l1 : Int32) (l2 : Int32) (l3 : Int32) (l4 : Int32) (s : Mem) : J YC X 5 (b_X1_findNeighbours_69 k7 k29 n  l1 l2 l3 l4 s) 69 [(0, .ref (adX X 109)), (1, .int l1), (2, .int l2), (3, .int l3), (4, .int l4)] [] s := by
  unfold b_X1_findNeighbours_69
  refine j_iinc (L2 := fun x1 => [(0, .ref (adX X 109)), (1, .int l1), (2, .int l2), (3, .int l3), (4, .int x1)]) C dX1_findNeighbours_69 4 rfl (by decide) [1, 2, 3, 4, 0] (fun _ => rfl) (fun x1 => ?_)
  refine j_goto (tgt := 29) C dX1_findNeighbours_72 (by decide) ?_
  exact hk29 l1 l2 l3 x1 s
set_option maxHeartbeats 4000000 in
theorem jb_X1_findNeighbours_29 {X : CtxT Mem} (C : Cx YC X 5 cX1_findNeighbours RX1 none rm_X1_findNeighbours) (CR : CRn YC X) (k7 : Int32 → Int32 → Int32 → Mem → Option Mem) (hk7 : ∀ (l1 : Int32) (l2 : Int32) (l3 : Int32) (s : Mem), J YC X 5 (k7 l1 l2 l3 s) 7 [(0, .ref (adX X 109)), (1, .int l1), (2, .int l2), (3, .int l3)] [] s) (n : Nat) (k29 : Int32 → Int32 → Int32 → Int32 → Mem → Option Mem) (hk29 : ∀ (l1 : Int32) (l2 : Int32) (l3 : Int32) (l4 : Int32) (s : Mem), J YC X 5 (k29 l1 l2 l3 l4 s) 29 [(0, .ref (adX X 109)), (1, .int l1), (2, .int l2), (3, .int l3), (4, .int l4)] [] s) (l1 : Int32) (l2 : Int32) (l3 : Int32) (l4 : Int32) (s : Mem) : J YC X 5 (b_X1_findNeighbours_29 k7 n k29 l1 l2 l3 l4 s) 29 [(0, .ref (adX X 109)), (1, .int l1), (2, .int l2), (3, .int l3), (4, .int l4)] [] s := by
  unfold b_X1_findNeighbours_29
  refine j_iload C dX1_findNeighbours_29 4 rfl ?_
  refine j_aload_n C dX1_findNeighbours_31 0 rfl rfl ?_
  refine j_getR (z := 110) C kX1 kc_109 lc_109 0 (by decide) tw_389 rc_1_0 rfl dX1_findNeighbours_32 ?_
  refine j_iload_n C dX1_findNeighbours_35 1 rfl rfl ?_
  refine j_iald C kc_110 lc_110 dX1_findNeighbours_36 ?_
  refine j_icmp_ge (tgt := 75) C dX1_findNeighbours_37 (by decide) ?_ ?_
  · refine j_iinc (L2 := fun x1 => [(0, .ref (adX X 109)), (1, .int l1), (2, .int l2), (3, .int x1), (4, .int l4)]) C dX1_findNeighbours_75 3 rfl (by decide) [1, 2, 3, 0, 4] (fun _ => rfl) (fun x1 => ?_)
    refine j_goto (tgt := 7) C dX1_findNeighbours_78 (by decide) ?_
    refine j_sub (L' := [(0, .ref (adX X 109)), (1, .int l1), (2, .int l2), (3, .int x1)]) [0, 1, 2, 3] rfl ?_
    exact hk7 l1 l2 x1 s
  · refine j_aload_n C dX1_findNeighbours_40 0 rfl rfl ?_
    refine j_iload_n C dX1_findNeighbours_41 2 rfl rfl ?_
    refine j_iload_n C dX1_findNeighbours_42 3 rfl rfl ?_
    refine j_iadd C dX1_findNeighbours_43 ?_
    refine j_iload_n C dX1_findNeighbours_44 2 rfl rfl ?_
    refine j_iload C dX1_findNeighbours_45 4 rfl ?_
    refine j_iadd C dX1_findNeighbours_47 ?_
    refine j_callVi C (c_X1_touch n (l2 + l3) (l2 + l4) s) cw_RX1_53 ⟨rfl, rfl, Nat.le_of_ble_eq_true rfl, Nat.le_of_ble_eq_true rfl⟩ 109 kX1 kc_109 lc_109 [.int (l2 + l3), .int (l2 + l4)] [] rfl rfl rfl (Nat.le_of_ble_eq_true rfl) dX1_findNeighbours_48 (fun x3 s2 => ?_)
    refine j_if_eq (tgt := 69) C dX1_findNeighbours_51 (by decide) ?_ ?_
    · exact jb_X1_findNeighbours_69 C CR k7 hk7 k29 hk29 n l1 l2 l3 l4 s2
    · refine j_aload_n C dX1_findNeighbours_54 0 rfl rfl ?_
      refine j_getR (z := 115) C kX1 kc_109 lc_109 5 (by decide) tw_394 rc_1_5 rfl dX1_findNeighbours_55 ?_
      refine j_iload_n C dX1_findNeighbours_58 2 rfl rfl ?_
      refine j_iload_n C dX1_findNeighbours_59 3 rfl rfl ?_
      refine j_iadd C dX1_findNeighbours_60 ?_
      refine j_top (fun x4 => ?_)
      refine j_dup2 C dX1_findNeighbours_61 rfl rfl ?_
      refine j_iald C kc_115 lc_115 dX1_findNeighbours_62 ?_
      refine j_iconst (v := (1 : Int32)) C dX1_findNeighbours_63 (by decide) ?_
      refine j_iload C dX1_findNeighbours_64 4 rfl ?_
      refine j_ishl C dX1_findNeighbours_66 ?_
      refine j_ior C dX1_findNeighbours_67 ?_
      refine j_iast C kc_115 lc_115 dX1_findNeighbours_68 (fun s5 => ?_)
      exact jb_X1_findNeighbours_69 C CR k7 hk7 k29 hk29 n l1 l2 l3 l4 s5
theorem lb_X1_findNeighbours_29 {X : CtxT Mem} (C : Cx YC X 5 cX1_findNeighbours RX1 none rm_X1_findNeighbours) (CR : CRn YC X) (k7 : Int32 → Int32 → Int32 → Mem → Option Mem) (hk7 : ∀ (l1 : Int32) (l2 : Int32) (l3 : Int32) (s : Mem), J YC X 5 (k7 l1 l2 l3 s) 7 [(0, .ref (adX X 109)), (1, .int l1), (2, .int l2), (3, .int l3)] [] s) : ∀ (n : Nat) (l1 : Int32) (l2 : Int32) (l3 : Int32) (l4 : Int32) (s : Mem), J YC X 5 (itr4 (b_X1_findNeighbours_29 k7) n l1 l2 l3 l4 s) 29 [(0, .ref (adX X 109)), (1, .int l1), (2, .int l2), (3, .int l3), (4, .int l4)] [] s := by
  intro n
  induction n with
  | zero => intros; exact j_none
  | succ n ih =>
    intro l1 l2 l3 l4 s
    exact jb_X1_findNeighbours_29 C CR k7 hk7 n _ ih l1 l2 l3 l4 s
set_option maxHeartbeats 4000000 in
theorem jb_X1_findNeighbours_7 {X : CtxT Mem} (C : Cx YC X 5 cX1_findNeighbours RX1 none rm_X1_findNeighbours) (CR : CRn YC X)  (n : Nat) (k7 : Int32 → Int32 → Int32 → Mem → Option Mem) (hk7 : ∀ (l1 : Int32) (l2 : Int32) (l3 : Int32) (s : Mem), J YC X 5 (k7 l1 l2 l3 s) 7 [(0, .ref (adX X 109)), (1, .int l1), (2, .int l2), (3, .int l3)] [] s) (l1 : Int32) (l2 : Int32) (l3 : Int32) (s : Mem) : J YC X 5 (b_X1_findNeighbours_7  n k7 l1 l2 l3 s) 7 [(0, .ref (adX X 109)), (1, .int l1), (2, .int l2), (3, .int l3)] [] s := by
  unfold b_X1_findNeighbours_7
  refine j_iload_n C dX1_findNeighbours_7 3 rfl rfl ?_
  refine j_aload_n C dX1_findNeighbours_8 0 rfl rfl ?_
  refine j_getR (z := 110) C kX1 kc_109 lc_109 0 (by decide) tw_389 rc_1_0 rfl dX1_findNeighbours_9 ?_
  refine j_iload_n C dX1_findNeighbours_12 1 rfl rfl ?_
  refine j_iald C kc_110 lc_110 dX1_findNeighbours_13 ?_
  refine j_icmp_ge (tgt := 81) C dX1_findNeighbours_14 (by decide) ?_ ?_
  · exact j_vret C CR dX1_findNeighbours_81
  · refine j_aload_n C dX1_findNeighbours_17 0 rfl rfl ?_
    refine j_getR (z := 115) C kX1 kc_109 lc_109 5 (by decide) tw_394 rc_1_5 rfl dX1_findNeighbours_18 ?_
    refine j_iload_n C dX1_findNeighbours_21 2 rfl rfl ?_
    refine j_iload_n C dX1_findNeighbours_22 3 rfl rfl ?_
    refine j_iadd C dX1_findNeighbours_23 ?_
    refine j_iconst (v := (0 : Int32)) C dX1_findNeighbours_24 (by decide) ?_
    refine j_iast C kc_115 lc_115 dX1_findNeighbours_25 (fun s1 => ?_)
    refine j_iconst (v := (0 : Int32)) C dX1_findNeighbours_26 (by decide) ?_
    refine j_istore (L' := [(0, .ref (adX X 109)), (1, .int l1), (2, .int l2), (3, .int l3), (4, .int (0 : Int32))]) C dX1_findNeighbours_27 (by decide) [1, 2, 3, 4, 0] rfl ?_
    exact lb_X1_findNeighbours_29 C CR k7 hk7 n l1 l2 l3 (0 : Int32) s1
theorem lb_X1_findNeighbours_7 {X : CtxT Mem} (C : Cx YC X 5 cX1_findNeighbours RX1 none rm_X1_findNeighbours) (CR : CRn YC X)  : ∀ (n : Nat) (l1 : Int32) (l2 : Int32) (l3 : Int32) (s : Mem), J YC X 5 (itr3 (b_X1_findNeighbours_7) n l1 l2 l3 s) 7 [(0, .ref (adX X 109)), (1, .int l1), (2, .int l2), (3, .int l3)] [] s := by
  intro n
  induction n with
  | zero => intros; exact j_none
  | succ n ih =>
    intro l1 l2 l3 s
    exact jb_X1_findNeighbours_7 C CR  n _ ih l1 l2 l3 s
set_option maxHeartbeats 4000000 in
theorem c_X1_findNeighbours (n : Nat) (l1 : Int32) (s : Mem) : CTn YC yX1_findNeighbours cX1_findNeighbours 5 none rm_X1_findNeighbours (fun ad => [.ref (ad 109), .int l1]) s (f_X1_findNeighbours n l1 s) := by
  refine CTn_of (by decide) (fun _ => Nat.le_of_ble_eq_true rfl) (fun X C CR => ?_)
  show J YC X 5 (f_X1_findNeighbours n l1 s) 0 [(0, .ref (adX X 109)), (1, .int l1)] [] s
  unfold f_X1_findNeighbours
  refine j_iload_n C dX1_findNeighbours_0 1 rfl rfl ?_
  refine j_bipush (v := (16 : Int32)) C dX1_findNeighbours_1 (by decide) ?_
  refine j_imul C dX1_findNeighbours_3 ?_
  refine j_top (fun x1 => ?_)
  refine j_istore_n (L' := [(0, .ref (adX X 109)), (1, .int l1), (2, .int x1)]) C dX1_findNeighbours_4 rfl (by decide) [1, 2, 0] rfl ?_
  refine j_iconst (v := (0 : Int32)) C dX1_findNeighbours_5 (by decide) ?_
  refine j_istore_n (L' := [(0, .ref (adX X 109)), (1, .int l1), (2, .int x1), (3, .int (0 : Int32))]) C dX1_findNeighbours_6 rfl (by decide) [1, 2, 3, 0] rfl ?_
  exact lb_X1_findNeighbours_7 C CR  n l1 x1 (0 : Int32) s
set_option maxHeartbeats 4000000 in
theorem jb_X2_has_27 {X : CtxT (Int32 × Mem)} (C : Cx YC X 2 cX2_has RX2 (some .boolean) rm_X2_has) (CR : CRi YC X)  (n : Nat)  (t0 : Int32) (s : Mem) : J YC X 2 (b_X2_has_27  n  t0 s) 27 [] [.int t0] s := by
  unfold b_X2_has_27
  exact j_zret C CR dX2_has_27
set_option maxHeartbeats 4000000 in
theorem jb_X2_has_26 {X : CtxT (Int32 × Mem)} (C : Cx YC X 2 cX2_has RX2 (some .boolean) rm_X2_has) (CR : CRi YC X)  (n : Nat)   (s : Mem) : J YC X 2 (b_X2_has_26  n   s) 26 [] [] s := by
  unfold b_X2_has_26
  refine j_iconst (v := (0 : Int32)) C dX2_has_26 (by decide) ?_
  exact jb_X2_has_27 C CR  n (0 : Int32) s
set_option maxHeartbeats 4000000 in
theorem c_X2_has (n : Nat) (r0 : Nat) (h_r0 : isO 2 r0) (l1 : Int32) (s : Mem) : CTi YC yX2_has cX2_has 2 (some .boolean) rm_X2_has (fun ad => [.ref (ad r0), .int l1]) s (f_X2_has n r0 l1 s) := by
  refine CTi_of (by decide) (fun _ => Nat.le_of_ble_eq_true rfl) (fun X C CR => ?_)
  show J YC X 2 (f_X2_has n r0 l1 s) 0 [(0, .ref (adX X r0)), (1, .int l1)] [] s
  unfold f_X2_has
  refine j_iload_n C dX2_has_0 1 rfl rfl ?_
  refine j_if_le (tgt := 26) C dX2_has_1 (by decide) ?_ ?_
  · refine j_sub (L' := []) [] rfl ?_
    exact jb_X2_has_26 C CR  n s
  · refine j_iload_n C dX2_has_4 1 rfl rfl ?_
    refine j_aload_n C dX2_has_5 0 rfl rfl ?_
    refine j_getR (z := (r0 + 1)) C kX2 (pk_2_0 _ h_r0) (pl_2_0 _ h_r0) 0 (by decide) tw_158 rc_2_0 rfl dX2_has_6 ?_
    refine j_alen (v := Int32.ofNat (lenC (r0 + 1))) C (pk_2_1 _ h_r0) (pl_2_1 _ h_r0) rfl dX2_has_9 ?_
    refine j_icmp_ge (tgt := 26) C dX2_has_10 (by decide) ?_ ?_
    · refine j_sub (L' := []) [] rfl ?_
      exact jb_X2_has_26 C CR  n s
    · refine j_aload_n C dX2_has_13 0 rfl rfl ?_
      refine j_getR (z := (r0 + 1)) C kX2 (pk_2_0 _ h_r0) (pl_2_0 _ h_r0) 0 (by decide) tw_158 rc_2_0 rfl dX2_has_14 ?_
      refine j_iload_n C dX2_has_17 1 rfl rfl ?_
      refine j_iald C (pk_2_1 _ h_r0) (pl_2_1 _ h_r0) dX2_has_18 ?_
      refine j_if_eq (tgt := 26) C dX2_has_19 (by decide) ?_ ?_
      · refine j_sub (L' := []) [] rfl ?_
        exact jb_X2_has_26 C CR  n s
      · refine j_iconst (v := (1 : Int32)) C dX2_has_22 (by decide) ?_
        refine j_goto (tgt := 27) C dX2_has_23 (by decide) ?_
        refine j_sub (L' := []) [] rfl ?_
        exact jb_X2_has_27 C CR  n (1 : Int32) s
set_option maxHeartbeats 4000000 in
theorem jb_X8_at_12 {X : CtxT (Int32 × Mem)} (C : Cx YC X 2 cX8_at RX8 (some .int) rm_X8_at) (CR : CRi YC X)  (n : Nat)   (s : Mem) : J YC X 2 (b_X8_at_12  n   s) 12 [] [] s := by
  unfold b_X8_at_12
  refine j_iconst (v := (-1 : Int32)) C dX8_at_12 (by decide) ?_
  exact j_iret C CR dX8_at_13
set_option maxHeartbeats 4000000 in
theorem c_X8_at (n : Nat) (r0 : Nat) (h_r0 : isO 8 r0) (l1 : Int32) (s : Mem) : CTi YC yX8_at cX8_at 2 (some .int) rm_X8_at (fun ad => [.ref (ad r0), .int l1]) s (f_X8_at n r0 l1 s) := by
  refine CTi_of (by decide) (fun _ => Nat.le_of_ble_eq_true rfl) (fun X C CR => ?_)
  show J YC X 2 (f_X8_at n r0 l1 s) 0 [(0, .ref (adX X r0)), (1, .int l1)] [] s
  unfold f_X8_at
  refine j_iload_n C dX8_at_0 1 rfl rfl ?_
  refine j_if_lt (tgt := 12) C dX8_at_1 (by decide) ?_ ?_
  · refine j_sub (L' := []) [] rfl ?_
    exact jb_X8_at_12 C CR  n s
  · refine j_iload_n C dX8_at_4 1 rfl rfl ?_
    refine j_aload_n C dX8_at_5 0 rfl rfl ?_
    refine j_get C kX8 (pk_8_0 _ h_r0) (pl_8_0 _ h_r0) 1 (by decide) tw_143 rc_8_1 dX8_at_6 ?_
    refine j_icmp_lt (tgt := 14) C dX8_at_9 (by decide) ?_ ?_
    · refine j_aload_n C dX8_at_14 0 rfl rfl ?_
      refine j_getR (z := (r0 + 1)) C kX8 (pk_8_0 _ h_r0) (pl_8_0 _ h_r0) 0 (by decide) tw_142 rc_8_0 rfl dX8_at_15 ?_
      refine j_iload_n C dX8_at_18 1 rfl rfl ?_
      refine j_iconst (v := (2 : Int32)) C dX8_at_19 (by decide) ?_
      refine j_ishr C dX8_at_20 ?_
      refine j_iald C (pk_8_1 _ h_r0) (pl_8_1 _ h_r0) dX8_at_21 ?_
      refine j_bipush (v := (24 : Int32)) C dX8_at_22 (by decide) ?_
      refine j_bipush (v := (8 : Int32)) C dX8_at_24 (by decide) ?_
      refine j_iload_n C dX8_at_26 1 rfl rfl ?_
      refine j_iconst (v := (3 : Int32)) C dX8_at_27 (by decide) ?_
      refine j_iand C dX8_at_28 ?_
      refine j_imul C dX8_at_29 ?_
      refine j_isub C dX8_at_30 ?_
      refine j_iushr C dX8_at_31 ?_
      refine j_sipush (v := (255 : Int32)) C dX8_at_32 (by decide) ?_
      refine j_iand C dX8_at_35 ?_
      exact j_iret C CR dX8_at_36
    · refine j_sub (L' := []) [] rfl ?_
      exact jb_X8_at_12 C CR  n s
set_option maxHeartbeats 4000000 in
theorem c_X3_boxByte (n : Nat) (r0 : Nat) (h_r0 : isO 3 r0) (l1 : Int32) (l2 : Int32) (l3 : Int32) (s : Mem) : CTi YC yX3_boxByte cX3_boxByte 4 (some .int) rm_X3_boxByte (fun ad => [.ref (ad r0), .int l1, .int l2, .int l3]) s (f_X3_boxByte n r0 l1 l2 l3 s) := by
  refine CTi_of (by decide) (fun _ => Nat.le_of_ble_eq_true rfl) (fun X C CR => ?_)
  show J YC X 4 (f_X3_boxByte n r0 l1 l2 l3 s) 0 [(0, .ref (adX X r0)), (1, .int l1), (2, .int l2), (3, .int l3)] [] s
  unfold f_X3_boxByte
  refine j_aload_n C dX3_boxByte_0 0 rfl rfl ?_
  refine j_getR (z := (r0 + 3)) C kX3 (pk_3_0 _ h_r0) (pl_3_0 _ h_r0) 1 (by decide) tw_177 rc_3_1 rfl dX3_boxByte_1 ?_
  refine j_iload_n C dX3_boxByte_4 1 rfl rfl ?_
  refine j_callVi C (c_X2_has n (r0 + 3) (ps_3_3 _ h_r0) l1 s) cw_RX3_46 ⟨rfl, rfl, Nat.le_of_ble_eq_true rfl, Nat.le_of_ble_eq_true rfl⟩ (r0 + 3) kX2 (pk_3_3 _ h_r0) (pl_3_3 _ h_r0) [.int l1] [] rfl rfl rfl (Nat.le_of_ble_eq_true rfl) dX3_boxByte_5 (fun x2 s1 => ?_)
  refine j_if_ne (tgt := 13) C dX3_boxByte_8 (by decide) ?_ ?_
  · refine j_aload_n C dX3_boxByte_13 0 rfl rfl ?_
    refine j_getR (z := (r0 + 1)) C kX3 (pk_3_0 _ h_r0) (pl_3_0 _ h_r0) 0 (by decide) tw_173 rc_3_0 rfl dX3_boxByte_14 ?_
    refine j_aload_n C dX3_boxByte_17 0 rfl rfl ?_
    refine j_getR (z := (r0 + 3)) C kX3 (pk_3_0 _ h_r0) (pl_3_0 _ h_r0) 1 (by decide) tw_177 rc_3_1 rfl dX3_boxByte_18 ?_
    refine j_getR (z := (r0 + 4)) C kX2 (pk_3_3 _ h_r0) (pl_3_3 _ h_r0) 0 (by decide) tw_159 rc_2_0 rfl dX3_boxByte_21 ?_
    refine j_iload_n C dX3_boxByte_24 1 rfl rfl ?_
    refine j_iald C (pk_3_4 _ h_r0) (pl_3_4 _ h_r0) dX3_boxByte_25 ?_
    refine j_iconst (v := (2 : Int32)) C dX3_boxByte_26 (by decide) ?_
    refine j_iadd C dX3_boxByte_27 ?_
    refine j_iconst (v := (5 : Int32)) C dX3_boxByte_28 (by decide) ?_
    refine j_iload_n C dX3_boxByte_29 2 rfl rfl ?_
    refine j_imul C dX3_boxByte_30 ?_
    refine j_iadd C dX3_boxByte_31 ?_
    refine j_iload_n C dX3_boxByte_32 3 rfl rfl ?_
    refine j_iadd C dX3_boxByte_33 ?_
    refine j_callVi C (c_X8_at n (r0 + 1) (ps_3_1 _ h_r0) ((((s1 (r0 + 4) l1.toNatClampNeg) + (2 : Int32)) + ((5 : Int32) * l2)) + l3) s1) cw_RX3_54 ⟨rfl, rfl, Nat.le_of_ble_eq_true rfl, Nat.le_of_ble_eq_true rfl⟩ (r0 + 1) kX8 (pk_3_1 _ h_r0) (pl_3_1 _ h_r0) [.int ((((s1 (r0 + 4) l1.toNatClampNeg) + (2 : Int32)) + ((5 : Int32) * l2)) + l3)] [] rfl rfl rfl (Nat.le_of_ble_eq_true rfl) dX3_boxByte_34 (fun x4 s3 => ?_)
    exact j_iret C CR dX3_boxByte_37
  · refine j_iconst (v := (-1 : Int32)) C dX3_boxByte_11 (by decide) ?_
    exact j_iret C CR dX3_boxByte_12
set_option maxHeartbeats 4000000 in
theorem jb_X3_boxesOf_33 {X : CtxT (Int32 × Mem)} (C : Cx YC X 2 cX3_boxesOf RX3 (some .int) rm_X3_boxesOf) (CR : CRi YC X)  (n : Nat)  (t0 : Int32) (s : Mem) : J YC X 2 (b_X3_boxesOf_33  n  t0 s) 33 [] [.int t0] s := by
  unfold b_X3_boxesOf_33
  exact j_iret C CR dX3_boxesOf_33
set_option maxHeartbeats 4000000 in
theorem c_X3_boxesOf (n : Nat) (r0 : Nat) (h_r0 : isO 3 r0) (l1 : Int32) (s : Mem) : CTi YC yX3_boxesOf cX3_boxesOf 2 (some .int) rm_X3_boxesOf (fun ad => [.ref (ad r0), .int l1]) s (f_X3_boxesOf n r0 l1 s) := by
  refine CTi_of (by decide) (fun _ => Nat.le_of_ble_eq_true rfl) (fun X C CR => ?_)
  show J YC X 2 (f_X3_boxesOf n r0 l1 s) 0 [(0, .ref (adX X r0)), (1, .int l1)] [] s
  unfold f_X3_boxesOf
  refine j_aload_n C dX3_boxesOf_0 0 rfl rfl ?_
  refine j_getR (z := (r0 + 3)) C kX3 (pk_3_0 _ h_r0) (pl_3_0 _ h_r0) 1 (by decide) tw_177 rc_3_1 rfl dX3_boxesOf_1 ?_
  refine j_iload_n C dX3_boxesOf_4 1 rfl rfl ?_
  refine j_callVi C (c_X2_has n (r0 + 3) (ps_3_3 _ h_r0) l1 s) cw_RX3_46 ⟨rfl, rfl, Nat.le_of_ble_eq_true rfl, Nat.le_of_ble_eq_true rfl⟩ (r0 + 3) kX2 (pk_3_3 _ h_r0) (pl_3_3 _ h_r0) [.int l1] [] rfl rfl rfl (Nat.le_of_ble_eq_true rfl) dX3_boxesOf_5 (fun x2 s1 => ?_)
  refine j_if_eq (tgt := 32) C dX3_boxesOf_8 (by decide) ?_ ?_
  · refine j_iconst (v := (0 : Int32)) C dX3_boxesOf_32 (by decide) ?_
    refine j_sub (L' := []) [] rfl ?_
    exact jb_X3_boxesOf_33 C CR  n (0 : Int32) s1
  · refine j_aload_n C dX3_boxesOf_11 0 rfl rfl ?_
    refine j_getR (z := (r0 + 1)) C kX3 (pk_3_0 _ h_r0) (pl_3_0 _ h_r0) 0 (by decide) tw_173 rc_3_0 rfl dX3_boxesOf_12 ?_
    refine j_aload_n C dX3_boxesOf_15 0 rfl rfl ?_
    refine j_getR (z := (r0 + 3)) C kX3 (pk_3_0 _ h_r0) (pl_3_0 _ h_r0) 1 (by decide) tw_177 rc_3_1 rfl dX3_boxesOf_16 ?_
    refine j_getR (z := (r0 + 4)) C kX2 (pk_3_3 _ h_r0) (pl_3_3 _ h_r0) 0 (by decide) tw_159 rc_2_0 rfl dX3_boxesOf_19 ?_
    refine j_iload_n C dX3_boxesOf_22 1 rfl rfl ?_
    refine j_iald C (pk_3_4 _ h_r0) (pl_3_4 _ h_r0) dX3_boxesOf_23 ?_
    refine j_iconst (v := (1 : Int32)) C dX3_boxesOf_24 (by decide) ?_
    refine j_iadd C dX3_boxesOf_25 ?_
    refine j_callVi C (c_X8_at n (r0 + 1) (ps_3_1 _ h_r0) ((s1 (r0 + 4) l1.toNatClampNeg) + (1 : Int32)) s1) cw_RX3_54 ⟨rfl, rfl, Nat.le_of_ble_eq_true rfl, Nat.le_of_ble_eq_true rfl⟩ (r0 + 1) kX8 (pk_3_1 _ h_r0) (pl_3_1 _ h_r0) [.int ((s1 (r0 + 4) l1.toNatClampNeg) + (1 : Int32))] [] rfl rfl rfl (Nat.le_of_ble_eq_true rfl) dX3_boxesOf_26 (fun x4 s3 => ?_)
    refine j_goto (tgt := 33) C dX3_boxesOf_29 (by decide) ?_
    refine j_sub (L' := []) [] rfl ?_
    exact jb_X3_boxesOf_33 C CR  n x4 s3
set_option maxHeartbeats 4000000 in
theorem jb_X1_lay_30 {X : CtxT Mem} (C : Cx YC X 5 cX1_lay RX1 none rm_X1_lay) (CR : CRn YC X) (k2 : Nat → Int32 → Mem → Option Mem) (hk2 : ∀ (r1 : Nat) (h_r1 : isO 3 r1) (l2 : Int32) (s : Mem), J YC X 5 (k2 r1 l2 s) 2 [(0, .ref (adX X 109)), (1, .ref (adX X r1)), (2, .int l2)] [] s) (n : Nat) (k30 : Nat → Int32 → Int32 → Mem → Option Mem) (hk30 : ∀ (r1 : Nat) (h_r1 : isO 3 r1) (l2 : Int32) (l3 : Int32) (s : Mem), J YC X 5 (k30 r1 l2 l3 s) 30 [(0, .ref (adX X 109)), (1, .ref (adX X r1)), (2, .int l2), (3, .int l3)] [] s) (r1 : Nat) (h_r1 : isO 3 r1) (l2 : Int32) (l3 : Int32) (s : Mem) : J YC X 5 (b_X1_lay_30 k2 n k30 r1 l2 l3 s) 30 [(0, .ref (adX X 109)), (1, .ref (adX X r1)), (2, .int l2), (3, .int l3)] [] s := by
  unfold b_X1_lay_30
  refine j_iload_n C dX1_lay_30 3 rfl rfl ?_
  refine j_aload_n C dX1_lay_31 0 rfl rfl ?_
  refine j_getR (z := 110) C kX1 kc_109 lc_109 0 (by decide) tw_389 rc_1_0 rfl dX1_lay_32 ?_
  refine j_iload_n C dX1_lay_35 2 rfl rfl ?_
  refine j_iald C kc_110 lc_110 dX1_lay_36 ?_
  refine j_icmp_ge (tgt := 110) C dX1_lay_37 (by decide) ?_ ?_
  · refine j_aload_n C dX1_lay_110 0 rfl rfl ?_
    refine j_iload_n C dX1_lay_111 2 rfl rfl ?_
    refine j_callVn C (c_X1_findNeighbours n l2 s) cw_RX1_49 ⟨rfl, rfl, Nat.le_of_ble_eq_true rfl, Nat.le_of_ble_eq_true rfl⟩ 109 kX1 kc_109 lc_109 [.int l2] [] rfl rfl rfl (Nat.le_of_ble_eq_true rfl) dX1_lay_112 (fun s1 => ?_)
    refine j_iinc (L2 := fun x2 => [(0, .ref (adX X 109)), (1, .ref (adX X r1)), (2, .int x2), (3, .int l3)]) C dX1_lay_115 2 rfl (by decide) [1, 2, 0, 3] (fun _ => rfl) (fun x2 => ?_)
    refine j_goto (tgt := 2) C dX1_lay_118 (by decide) ?_
    refine j_sub (L' := [(0, .ref (adX X 109)), (1, .ref (adX X r1)), (2, .int x2)]) [0, 1, 2] rfl ?_
    exact hk2 r1 h_r1 x2 s1
  · refine j_iload_n C dX1_lay_40 2 rfl rfl ?_
    refine j_bipush (v := (16 : Int32)) C dX1_lay_41 (by decide) ?_
    refine j_imul C dX1_lay_43 ?_
    refine j_iload_n C dX1_lay_44 3 rfl rfl ?_
    refine j_iadd C dX1_lay_45 ?_
    refine j_top (fun x3 => ?_)
    refine j_istore (L' := [(0, .ref (adX X 109)), (1, .ref (adX X r1)), (2, .int l2), (3, .int l3), (4, .int x3)]) C dX1_lay_46 (by decide) [1, 2, 3, 4, 0] rfl ?_
    refine j_aload_n C dX1_lay_48 0 rfl rfl ?_
    refine j_getR (z := 111) C kX1 kc_109 lc_109 1 (by decide) tw_390 rc_1_1 rfl dX1_lay_49 ?_
    refine j_iload C dX1_lay_52 4 rfl ?_
    refine j_aload_n C dX1_lay_54 1 rfl rfl ?_
    refine j_iload_n C dX1_lay_55 2 rfl rfl ?_
    refine j_iload_n C dX1_lay_56 3 rfl rfl ?_
    refine j_iconst (v := (0 : Int32)) C dX1_lay_57 (by decide) ?_
    refine j_callVi C (c_X3_boxByte n r1 h_r1 l2 l3 (0 : Int32) s) cw_RX1_45 ⟨rfl, rfl, Nat.le_of_ble_eq_true rfl, Nat.le_of_ble_eq_true rfl⟩ r1 kX3 (pk_3_0 _ h_r1) (pl_3_0 _ h_r1) [.int l2, .int l3, .int (0 : Int32)] [.int x3, .ref (adX X 111)] rfl rfl rfl (Nat.le_of_ble_eq_true rfl) dX1_lay_58 (fun x5 s4 => ?_)
    refine j_iast C kc_111 lc_111 dX1_lay_61 (fun s6 => ?_)
    refine j_aload_n C dX1_lay_62 0 rfl rfl ?_
    refine j_getR (z := 112) C kX1 kc_109 lc_109 2 (by decide) tw_391 rc_1_2 rfl dX1_lay_63 ?_
    refine j_iload C dX1_lay_66 4 rfl ?_
    refine j_aload_n C dX1_lay_68 1 rfl rfl ?_
    refine j_iload_n C dX1_lay_69 2 rfl rfl ?_
    refine j_iload_n C dX1_lay_70 3 rfl rfl ?_
    refine j_iconst (v := (1 : Int32)) C dX1_lay_71 (by decide) ?_
    refine j_callVi C (c_X3_boxByte n r1 h_r1 l2 l3 (1 : Int32) s6) cw_RX1_45 ⟨rfl, rfl, Nat.le_of_ble_eq_true rfl, Nat.le_of_ble_eq_true rfl⟩ r1 kX3 (pk_3_0 _ h_r1) (pl_3_0 _ h_r1) [.int l2, .int l3, .int (1 : Int32)] [.int x3, .ref (adX X 112)] rfl rfl rfl (Nat.le_of_ble_eq_true rfl) dX1_lay_72 (fun x8 s7 => ?_)
    refine j_iast C kc_112 lc_112 dX1_lay_75 (fun s9 => ?_)
    refine j_aload_n C dX1_lay_76 0 rfl rfl ?_
    refine j_getR (z := 113) C kX1 kc_109 lc_109 3 (by decide) tw_392 rc_1_3 rfl dX1_lay_77 ?_
    refine j_iload C dX1_lay_80 4 rfl ?_
    refine j_aload_n C dX1_lay_82 1 rfl rfl ?_
    refine j_iload_n C dX1_lay_83 2 rfl rfl ?_
    refine j_iload_n C dX1_lay_84 3 rfl rfl ?_
    refine j_iconst (v := (2 : Int32)) C dX1_lay_85 (by decide) ?_
    refine j_callVi C (c_X3_boxByte n r1 h_r1 l2 l3 (2 : Int32) s9) cw_RX1_45 ⟨rfl, rfl, Nat.le_of_ble_eq_true rfl, Nat.le_of_ble_eq_true rfl⟩ r1 kX3 (pk_3_0 _ h_r1) (pl_3_0 _ h_r1) [.int l2, .int l3, .int (2 : Int32)] [.int x3, .ref (adX X 113)] rfl rfl rfl (Nat.le_of_ble_eq_true rfl) dX1_lay_86 (fun x11 s10 => ?_)
    refine j_iast C kc_113 lc_113 dX1_lay_89 (fun s12 => ?_)
    refine j_aload_n C dX1_lay_90 0 rfl rfl ?_
    refine j_getR (z := 114) C kX1 kc_109 lc_109 4 (by decide) tw_393 rc_1_4 rfl dX1_lay_91 ?_
    refine j_iload C dX1_lay_94 4 rfl ?_
    refine j_aload_n C dX1_lay_96 1 rfl rfl ?_
    refine j_iload_n C dX1_lay_97 2 rfl rfl ?_
    refine j_iload_n C dX1_lay_98 3 rfl rfl ?_
    refine j_iconst (v := (3 : Int32)) C dX1_lay_99 (by decide) ?_
    refine j_callVi C (c_X3_boxByte n r1 h_r1 l2 l3 (3 : Int32) s12) cw_RX1_45 ⟨rfl, rfl, Nat.le_of_ble_eq_true rfl, Nat.le_of_ble_eq_true rfl⟩ r1 kX3 (pk_3_0 _ h_r1) (pl_3_0 _ h_r1) [.int l2, .int l3, .int (3 : Int32)] [.int x3, .ref (adX X 114)] rfl rfl rfl (Nat.le_of_ble_eq_true rfl) dX1_lay_100 (fun x14 s13 => ?_)
    refine j_iast C kc_114 lc_114 dX1_lay_103 (fun s15 => ?_)
    refine j_iinc (L2 := fun x16 => [(0, .ref (adX X 109)), (1, .ref (adX X r1)), (2, .int l2), (3, .int x16), (4, .int x3)]) C dX1_lay_104 3 rfl (by decide) [1, 2, 3, 0, 4] (fun _ => rfl) (fun x16 => ?_)
    refine j_goto (tgt := 30) C dX1_lay_107 (by decide) ?_
    refine j_sub (L' := [(0, .ref (adX X 109)), (1, .ref (adX X r1)), (2, .int l2), (3, .int x16)]) [0, 1, 2, 3] rfl ?_
    exact hk30 r1 h_r1 l2 x16 s15
theorem lb_X1_lay_30 {X : CtxT Mem} (C : Cx YC X 5 cX1_lay RX1 none rm_X1_lay) (CR : CRn YC X) (k2 : Nat → Int32 → Mem → Option Mem) (hk2 : ∀ (r1 : Nat) (h_r1 : isO 3 r1) (l2 : Int32) (s : Mem), J YC X 5 (k2 r1 l2 s) 2 [(0, .ref (adX X 109)), (1, .ref (adX X r1)), (2, .int l2)] [] s) : ∀ (n : Nat) (r1 : Nat) (h_r1 : isO 3 r1) (l2 : Int32) (l3 : Int32) (s : Mem), J YC X 5 (itr3 (b_X1_lay_30 k2) n r1 l2 l3 s) 30 [(0, .ref (adX X 109)), (1, .ref (adX X r1)), (2, .int l2), (3, .int l3)] [] s := by
  intro n
  induction n with
  | zero => intros; exact j_none
  | succ n ih =>
    intro r1 h_r1 l2 l3 s
    exact jb_X1_lay_30 C CR k2 hk2 n _ ih r1 h_r1 l2 l3 s
set_option maxHeartbeats 4000000 in
theorem jb_X1_lay_2 {X : CtxT Mem} (C : Cx YC X 5 cX1_lay RX1 none rm_X1_lay) (CR : CRn YC X)  (n : Nat) (k2 : Nat → Int32 → Mem → Option Mem) (hk2 : ∀ (r1 : Nat) (h_r1 : isO 3 r1) (l2 : Int32) (s : Mem), J YC X 5 (k2 r1 l2 s) 2 [(0, .ref (adX X 109)), (1, .ref (adX X r1)), (2, .int l2)] [] s) (r1 : Nat) (h_r1 : isO 3 r1) (l2 : Int32) (s : Mem) : J YC X 5 (b_X1_lay_2  n k2 r1 l2 s) 2 [(0, .ref (adX X 109)), (1, .ref (adX X r1)), (2, .int l2)] [] s := by
  unfold b_X1_lay_2
  refine j_iload_n C dX1_lay_2 2 rfl rfl ?_
  refine j_bipush (v := (20 : Int32)) C dX1_lay_3 (by decide) ?_
  refine j_icmp_gt (tgt := 121) C dX1_lay_5 (by decide) ?_ ?_
  · exact j_vret C CR dX1_lay_121
  · refine j_aload_n C dX1_lay_8 0 rfl rfl ?_
    refine j_getR (z := 110) C kX1 kc_109 lc_109 0 (by decide) tw_389 rc_1_0 rfl dX1_lay_9 ?_
    refine j_iload_n C dX1_lay_12 2 rfl rfl ?_
    refine j_iconst (v := (0 : Int32)) C dX1_lay_13 (by decide) ?_
    refine j_bipush (v := (16 : Int32)) C dX1_lay_14 (by decide) ?_
    refine j_aload_n C dX1_lay_16 1 rfl rfl ?_
    refine j_iload_n C dX1_lay_17 2 rfl rfl ?_
    refine j_callVi C (c_X3_boxesOf n r1 h_r1 l2 s) cw_RX1_30 ⟨rfl, rfl, Nat.le_of_ble_eq_true rfl, Nat.le_of_ble_eq_true rfl⟩ r1 kX3 (pk_3_0 _ h_r1) (pl_3_0 _ h_r1) [.int l2] [.int (16 : Int32), .int (0 : Int32), .int l2, .ref (adX X 110)] rfl rfl rfl (Nat.le_of_ble_eq_true rfl) dX1_lay_18 (fun x2 s1 => ?_)
    refine j_mmin C cw_RX1_36 ⟨Nat.le_of_ble_eq_true rfl, Nat.le_of_ble_eq_true rfl⟩ (Nat.le_of_ble_eq_true rfl) dX1_lay_21 ?_
    refine j_mmax C cw_RX1_42 ⟨Nat.le_of_ble_eq_true rfl, Nat.le_of_ble_eq_true rfl⟩ (Nat.le_of_ble_eq_true rfl) dX1_lay_24 ?_
    refine j_iast C kc_110 lc_110 dX1_lay_27 (fun s3 => ?_)
    refine j_iconst (v := (0 : Int32)) C dX1_lay_28 (by decide) ?_
    refine j_istore_n (L' := [(0, .ref (adX X 109)), (1, .ref (adX X r1)), (2, .int l2), (3, .int (0 : Int32))]) C dX1_lay_29 rfl (by decide) [1, 2, 3, 0] rfl ?_
    exact lb_X1_lay_30 C CR k2 hk2 n r1 h_r1 l2 (0 : Int32) s3
theorem lb_X1_lay_2 {X : CtxT Mem} (C : Cx YC X 5 cX1_lay RX1 none rm_X1_lay) (CR : CRn YC X)  : ∀ (n : Nat) (r1 : Nat) (h_r1 : isO 3 r1) (l2 : Int32) (s : Mem), J YC X 5 (itr2 (b_X1_lay_2) n r1 l2 s) 2 [(0, .ref (adX X 109)), (1, .ref (adX X r1)), (2, .int l2)] [] s := by
  intro n
  induction n with
  | zero => intros; exact j_none
  | succ n ih =>
    intro r1 h_r1 l2 s
    exact jb_X1_lay_2 C CR  n _ ih r1 h_r1 l2 s
set_option maxHeartbeats 4000000 in
theorem c_X1_lay (n : Nat) (r1 : Nat) (h_r1 : isO 3 r1) (s : Mem) : CTn YC yX1_lay cX1_lay 5 none rm_X1_lay (fun ad => [.ref (ad 109), .ref (ad r1)]) s (f_X1_lay n r1 s) := by
  refine CTn_of (by decide) (fun _ => Nat.le_of_ble_eq_true rfl) (fun X C CR => ?_)
  show J YC X 5 (f_X1_lay n r1 s) 0 [(0, .ref (adX X 109)), (1, .ref (adX X r1))] [] s
  unfold f_X1_lay
  refine j_iconst (v := (0 : Int32)) C dX1_lay_0 (by decide) ?_
  refine j_istore_n (L' := [(0, .ref (adX X 109)), (1, .ref (adX X r1)), (2, .int (0 : Int32))]) C dX1_lay_1 rfl (by decide) [1, 2, 0] rfl ?_
  exact lb_X1_lay_2 C CR  n r1 h_r1 (0 : Int32) s
set_option maxHeartbeats 4000000 in
theorem jb_X1_boxesIn_20 {X : CtxT (Int32 × Mem)} (C : Cx YC X 2 cX1_boxesIn RX1 (some .int) rm_X1_boxesIn) (CR : CRi YC X)  (n : Nat)  (t0 : Int32) (s : Mem) : J YC X 2 (b_X1_boxesIn_20  n  t0 s) 20 [] [.int t0] s := by
  unfold b_X1_boxesIn_20
  exact j_iret C CR dX1_boxesIn_20
set_option maxHeartbeats 4000000 in
theorem jb_X1_boxesIn_19 {X : CtxT (Int32 × Mem)} (C : Cx YC X 2 cX1_boxesIn RX1 (some .int) rm_X1_boxesIn) (CR : CRi YC X)  (n : Nat)   (s : Mem) : J YC X 2 (b_X1_boxesIn_19  n   s) 19 [] [] s := by
  unfold b_X1_boxesIn_19
  refine j_iconst (v := (0 : Int32)) C dX1_boxesIn_19 (by decide) ?_
  exact jb_X1_boxesIn_20 C CR  n (0 : Int32) s
set_option maxHeartbeats 4000000 in
theorem c_X1_boxesIn (n : Nat) (l1 : Int32) (s : Mem) : CTi YC yX1_boxesIn cX1_boxesIn 2 (some .int) rm_X1_boxesIn (fun ad => [.ref (ad 109), .int l1]) s (f_X1_boxesIn n l1 s) := by
  refine CTi_of (by decide) (fun _ => Nat.le_of_ble_eq_true rfl) (fun X C CR => ?_)
  show J YC X 2 (f_X1_boxesIn n l1 s) 0 [(0, .ref (adX X 109)), (1, .int l1)] [] s
  unfold f_X1_boxesIn
  refine j_iload_n C dX1_boxesIn_0 1 rfl rfl ?_
  refine j_if_le (tgt := 19) C dX1_boxesIn_1 (by decide) ?_ ?_
  · refine j_sub (L' := []) [] rfl ?_
    exact jb_X1_boxesIn_19 C CR  n s
  · refine j_iload_n C dX1_boxesIn_4 1 rfl rfl ?_
    refine j_bipush (v := (20 : Int32)) C dX1_boxesIn_5 (by decide) ?_
    refine j_icmp_gt (tgt := 19) C dX1_boxesIn_7 (by decide) ?_ ?_
    · refine j_sub (L' := []) [] rfl ?_
      exact jb_X1_boxesIn_19 C CR  n s
    · refine j_aload_n C dX1_boxesIn_10 0 rfl rfl ?_
      refine j_getR (z := 110) C kX1 kc_109 lc_109 0 (by decide) tw_389 rc_1_0 rfl dX1_boxesIn_11 ?_
      refine j_iload_n C dX1_boxesIn_14 1 rfl rfl ?_
      refine j_iald C kc_110 lc_110 dX1_boxesIn_15 ?_
      refine j_goto (tgt := 20) C dX1_boxesIn_16 (by decide) ?_
      refine j_sub (L' := []) [] rfl ?_
      exact jb_X1_boxesIn_20 C CR  n (s 110 l1.toNatClampNeg) s
set_option maxHeartbeats 4000000 in
theorem jb_X1_hasBox_29 {X : CtxT (Int32 × Mem)} (C : Cx YC X 3 cX1_hasBox RX1 (some .boolean) rm_X1_hasBox) (CR : CRi YC X)  (n : Nat)  (t0 : Int32) (s : Mem) : J YC X 3 (b_X1_hasBox_29  n  t0 s) 29 [] [.int t0] s := by
  unfold b_X1_hasBox_29
  exact j_zret C CR dX1_hasBox_29
set_option maxHeartbeats 4000000 in
theorem jb_X1_hasBox_28 {X : CtxT (Int32 × Mem)} (C : Cx YC X 3 cX1_hasBox RX1 (some .boolean) rm_X1_hasBox) (CR : CRi YC X)  (n : Nat)   (s : Mem) : J YC X 3 (b_X1_hasBox_28  n   s) 28 [] [] s := by
  unfold b_X1_hasBox_28
  refine j_iconst (v := (0 : Int32)) C dX1_hasBox_28 (by decide) ?_
  exact jb_X1_hasBox_29 C CR  n (0 : Int32) s
set_option maxHeartbeats 4000000 in
theorem c_X1_hasBox (n : Nat) (l1 : Int32) (l2 : Int32) (s : Mem) : CTi YC yX1_hasBox cX1_hasBox 3 (some .boolean) rm_X1_hasBox (fun ad => [.ref (ad 109), .int l1, .int l2]) s (f_X1_hasBox n l1 l2 s) := by
  refine CTi_of (by decide) (fun _ => Nat.le_of_ble_eq_true rfl) (fun X C CR => ?_)
  show J YC X 3 (f_X1_hasBox n l1 l2 s) 0 [(0, .ref (adX X 109)), (1, .int l1), (2, .int l2)] [] s
  unfold f_X1_hasBox
  refine j_iload_n C dX1_hasBox_0 1 rfl rfl ?_
  refine j_if_le (tgt := 28) C dX1_hasBox_1 (by decide) ?_ ?_
  · refine j_sub (L' := []) [] rfl ?_
    exact jb_X1_hasBox_28 C CR  n s
  · refine j_iload_n C dX1_hasBox_4 1 rfl rfl ?_
    refine j_bipush (v := (20 : Int32)) C dX1_hasBox_5 (by decide) ?_
    refine j_icmp_gt (tgt := 28) C dX1_hasBox_7 (by decide) ?_ ?_
    · refine j_sub (L' := []) [] rfl ?_
      exact jb_X1_hasBox_28 C CR  n s
    · refine j_iload_n C dX1_hasBox_10 2 rfl rfl ?_
      refine j_if_lt (tgt := 28) C dX1_hasBox_11 (by decide) ?_ ?_
      · refine j_sub (L' := []) [] rfl ?_
        exact jb_X1_hasBox_28 C CR  n s
      · refine j_iload_n C dX1_hasBox_14 2 rfl rfl ?_
        refine j_aload_n C dX1_hasBox_15 0 rfl rfl ?_
        refine j_getR (z := 110) C kX1 kc_109 lc_109 0 (by decide) tw_389 rc_1_0 rfl dX1_hasBox_16 ?_
        refine j_iload_n C dX1_hasBox_19 1 rfl rfl ?_
        refine j_iald C kc_110 lc_110 dX1_hasBox_20 ?_
        refine j_icmp_ge (tgt := 28) C dX1_hasBox_21 (by decide) ?_ ?_
        · refine j_sub (L' := []) [] rfl ?_
          exact jb_X1_hasBox_28 C CR  n s
        · refine j_iconst (v := (1 : Int32)) C dX1_hasBox_24 (by decide) ?_
          refine j_goto (tgt := 29) C dX1_hasBox_25 (by decide) ?_
          refine j_sub (L' := []) [] rfl ?_
          exact jb_X1_hasBox_29 C CR  n (1 : Int32) s
set_option maxHeartbeats 4000000 in
theorem c_X1_corner (n : Nat) (l1 : Int32) (l2 : Int32) (l3 : Int32) (s : Mem) : CTi YC yX1_corner cX1_corner 5 (some .int) rm_X1_corner (fun ad => [.ref (ad 109), .int l1, .int l2, .int l3]) s (f_X1_corner n l1 l2 l3 s) := by
  refine CTi_of (by decide) (fun _ => Nat.le_of_ble_eq_true rfl) (fun X C CR => ?_)
  show J YC X 5 (f_X1_corner n l1 l2 l3 s) 0 [(0, .ref (adX X 109)), (1, .int l1), (2, .int l2), (3, .int l3)] [] s
  unfold f_X1_corner
  refine j_iload_n C dX1_corner_0 1 rfl rfl ?_
  refine j_bipush (v := (16 : Int32)) C dX1_corner_1 (by decide) ?_
  refine j_imul C dX1_corner_3 ?_
  refine j_iload_n C dX1_corner_4 2 rfl rfl ?_
  refine j_iadd C dX1_corner_5 ?_
  refine j_top (fun x1 => ?_)
  refine j_istore (L' := [(0, .ref (adX X 109)), (1, .int l1), (2, .int l2), (3, .int l3), (4, .int x1)]) C dX1_corner_6 (by decide) [1, 2, 3, 4, 0] rfl ?_
  refine j_iload_n C dX1_corner_8 3 rfl rfl ?_
  refine j_ite (fun hc => ?_) (fun hc0 => ?_)
  · refine j_tswI (off := 31) (tgt := 40) C dX1_corner_9 (by rw [hc]; decide) (by rw [hc]; decide) (by rw [hc]; rfl) (by decide) ?_
    refine j_aload_n C dX1_corner_40 0 rfl rfl ?_
    refine j_getR (z := 111) C kX1 kc_109 lc_109 1 (by decide) tw_390 rc_1_1 rfl dX1_corner_41 ?_
    refine j_iload C dX1_corner_44 4 rfl ?_
    refine j_iald C kc_111 lc_111 dX1_corner_46 ?_
    exact j_iret C CR dX1_corner_47
  refine j_ite (fun hc => ?_) (fun hc1 => ?_)
  · refine j_tswI (off := 39) (tgt := 48) C dX1_corner_9 (by rw [hc]; decide) (by rw [hc]; decide) (by rw [hc]; rfl) (by decide) ?_
    refine j_aload_n C dX1_corner_48 0 rfl rfl ?_
    refine j_getR (z := 112) C kX1 kc_109 lc_109 2 (by decide) tw_391 rc_1_2 rfl dX1_corner_49 ?_
    refine j_iload C dX1_corner_52 4 rfl ?_
    refine j_iald C kc_112 lc_112 dX1_corner_54 ?_
    exact j_iret C CR dX1_corner_55
  refine j_ite (fun hc => ?_) (fun hc2 => ?_)
  · refine j_tswI (off := 47) (tgt := 56) C dX1_corner_9 (by rw [hc]; decide) (by rw [hc]; decide) (by rw [hc]; rfl) (by decide) ?_
    refine j_aload_n C dX1_corner_56 0 rfl rfl ?_
    refine j_getR (z := 113) C kX1 kc_109 lc_109 3 (by decide) tw_392 rc_1_3 rfl dX1_corner_57 ?_
    refine j_iload C dX1_corner_60 4 rfl ?_
    refine j_iald C kc_113 lc_113 dX1_corner_62 ?_
    exact j_iret C CR dX1_corner_63
  refine j_ite (fun hc => ?_) (fun hc3 => ?_)
  · refine j_tswI (off := 55) (tgt := 64) C dX1_corner_9 (by rw [hc]; decide) (by rw [hc]; decide) (by rw [hc]; rfl) (by decide) ?_
    refine j_aload_n C dX1_corner_64 0 rfl rfl ?_
    refine j_getR (z := 114) C kX1 kc_109 lc_109 4 (by decide) tw_393 rc_1_4 rfl dX1_corner_65 ?_
    refine j_iload C dX1_corner_68 4 rfl ?_
    refine j_iald C kc_114 lc_114 dX1_corner_70 ?_
    exact j_iret C CR dX1_corner_71
  refine j_tswO (tgt := 72) C dX1_corner_9 (by omega) (by decide) ?_
  refine j_iconst (v := (-1 : Int32)) C dX1_corner_72 (by decide) ?_
  exact j_iret C CR dX1_corner_73
set_option maxHeartbeats 4000000 in
theorem jb_X1_hasPoint_59 {X : CtxT (Int32 × Mem)} (C : Cx YC X 6 cX1_hasPoint RX1 (some .boolean) rm_X1_hasPoint) (CR : CRi YC X)  (n : Nat)  (t0 : Int32) (s : Mem) : J YC X 6 (b_X1_hasPoint_59  n  t0 s) 59 [] [.int t0] s := by
  unfold b_X1_hasPoint_59
  exact j_zret C CR dX1_hasPoint_59
set_option maxHeartbeats 4000000 in
theorem jb_X1_hasPoint_58 {X : CtxT (Int32 × Mem)} (C : Cx YC X 6 cX1_hasPoint RX1 (some .boolean) rm_X1_hasPoint) (CR : CRi YC X)  (n : Nat)   (s : Mem) : J YC X 6 (b_X1_hasPoint_58  n   s) 58 [] [] s := by
  unfold b_X1_hasPoint_58
  refine j_iconst (v := (0 : Int32)) C dX1_hasPoint_58 (by decide) ?_
  exact jb_X1_hasPoint_59 C CR  n (0 : Int32) s
set_option maxHeartbeats 4000000 in
theorem c_X1_hasPoint (n : Nat) (l1 : Int32) (l2 : Int32) (l3 : Int32) (l4 : Int32) (s : Mem) : CTi YC yX1_hasPoint cX1_hasPoint 6 (some .boolean) rm_X1_hasPoint (fun ad => [.ref (ad 109), .int l1, .int l2, .int l3, .int l4]) s (f_X1_hasPoint n l1 l2 l3 l4 s) := by
  refine CTi_of (by decide) (fun _ => Nat.le_of_ble_eq_true rfl) (fun X C CR => ?_)
  show J YC X 6 (f_X1_hasPoint n l1 l2 l3 l4 s) 0 [(0, .ref (adX X 109)), (1, .int l1), (2, .int l2), (3, .int l3), (4, .int l4)] [] s
  unfold f_X1_hasPoint
  refine j_iload_n C dX1_hasPoint_0 1 rfl rfl ?_
  refine j_bipush (v := (16 : Int32)) C dX1_hasPoint_1 (by decide) ?_
  refine j_imul C dX1_hasPoint_3 ?_
  refine j_iload_n C dX1_hasPoint_4 2 rfl rfl ?_
  refine j_iadd C dX1_hasPoint_5 ?_
  refine j_top (fun x1 => ?_)
  refine j_istore (L' := [(0, .ref (adX X 109)), (1, .int l1), (2, .int l2), (3, .int l3), (4, .int l4), (5, .int x1)]) C dX1_hasPoint_6 (by decide) [1, 2, 3, 4, 5, 0] rfl ?_
  refine j_iload_n C dX1_hasPoint_8 3 rfl rfl ?_
  refine j_aload_n C dX1_hasPoint_9 0 rfl rfl ?_
  refine j_getR (z := 111) C kX1 kc_109 lc_109 1 (by decide) tw_390 rc_1_1 rfl dX1_hasPoint_10 ?_
  refine j_iload C dX1_hasPoint_13 5 rfl ?_
  refine j_iald C kc_111 lc_111 dX1_hasPoint_15 ?_
  refine j_icmp_lt (tgt := 58) C dX1_hasPoint_16 (by decide) ?_ ?_
  · refine j_sub (L' := []) [] rfl ?_
    exact jb_X1_hasPoint_58 C CR  n s
  · refine j_iload_n C dX1_hasPoint_19 3 rfl rfl ?_
    refine j_aload_n C dX1_hasPoint_20 0 rfl rfl ?_
    refine j_getR (z := 113) C kX1 kc_109 lc_109 3 (by decide) tw_392 rc_1_3 rfl dX1_hasPoint_21 ?_
    refine j_iload C dX1_hasPoint_24 5 rfl ?_
    refine j_iald C kc_113 lc_113 dX1_hasPoint_26 ?_
    refine j_icmp_gt (tgt := 58) C dX1_hasPoint_27 (by decide) ?_ ?_
    · refine j_sub (L' := []) [] rfl ?_
      exact jb_X1_hasPoint_58 C CR  n s
    · refine j_iload C dX1_hasPoint_30 4 rfl ?_
      refine j_aload_n C dX1_hasPoint_32 0 rfl rfl ?_
      refine j_getR (z := 112) C kX1 kc_109 lc_109 2 (by decide) tw_391 rc_1_2 rfl dX1_hasPoint_33 ?_
      refine j_iload C dX1_hasPoint_36 5 rfl ?_
      refine j_iald C kc_112 lc_112 dX1_hasPoint_38 ?_
      refine j_icmp_lt (tgt := 58) C dX1_hasPoint_39 (by decide) ?_ ?_
      · refine j_sub (L' := []) [] rfl ?_
        exact jb_X1_hasPoint_58 C CR  n s
      · refine j_iload C dX1_hasPoint_42 4 rfl ?_
        refine j_aload_n C dX1_hasPoint_44 0 rfl rfl ?_
        refine j_getR (z := 114) C kX1 kc_109 lc_109 4 (by decide) tw_393 rc_1_4 rfl dX1_hasPoint_45 ?_
        refine j_iload C dX1_hasPoint_48 5 rfl ?_
        refine j_iald C kc_114 lc_114 dX1_hasPoint_50 ?_
        refine j_icmp_gt (tgt := 58) C dX1_hasPoint_51 (by decide) ?_ ?_
        · refine j_sub (L' := []) [] rfl ?_
          exact jb_X1_hasPoint_58 C CR  n s
        · refine j_iconst (v := (1 : Int32)) C dX1_hasPoint_54 (by decide) ?_
          refine j_goto (tgt := 59) C dX1_hasPoint_55 (by decide) ?_
          refine j_sub (L' := []) [] rfl ?_
          exact jb_X1_hasPoint_59 C CR  n (1 : Int32) s
set_option maxHeartbeats 4000000 in
theorem c_X1_nearestX (n : Nat) (l1 : Int32) (l2 : Int32) (l3 : Int32) (s : Mem) : CTi YC yX1_nearestX cX1_nearestX 5 (some .int) rm_X1_nearestX (fun ad => [.ref (ad 109), .int l1, .int l2, .int l3]) s (f_X1_nearestX n l1 l2 l3 s) := by
  refine CTi_of (by decide) (fun _ => Nat.le_of_ble_eq_true rfl) (fun X C CR => ?_)
  show J YC X 5 (f_X1_nearestX n l1 l2 l3 s) 0 [(0, .ref (adX X 109)), (1, .int l1), (2, .int l2), (3, .int l3)] [] s
  unfold f_X1_nearestX
  refine j_iload_n C dX1_nearestX_0 1 rfl rfl ?_
  refine j_bipush (v := (16 : Int32)) C dX1_nearestX_1 (by decide) ?_
  refine j_imul C dX1_nearestX_3 ?_
  refine j_iload_n C dX1_nearestX_4 2 rfl rfl ?_
  refine j_iadd C dX1_nearestX_5 ?_
  refine j_top (fun x1 => ?_)
  refine j_istore (L' := [(0, .ref (adX X 109)), (1, .int l1), (2, .int l2), (3, .int l3), (4, .int x1)]) C dX1_nearestX_6 (by decide) [1, 2, 3, 4, 0] rfl ?_
  refine j_aload_n C dX1_nearestX_8 0 rfl rfl ?_
  refine j_getR (z := 111) C kX1 kc_109 lc_109 1 (by decide) tw_390 rc_1_1 rfl dX1_nearestX_9 ?_
  refine j_iload C dX1_nearestX_12 4 rfl ?_
  refine j_iald C kc_111 lc_111 dX1_nearestX_14 ?_
  refine j_aload_n C dX1_nearestX_15 0 rfl rfl ?_
  refine j_getR (z := 113) C kX1 kc_109 lc_109 3 (by decide) tw_392 rc_1_3 rfl dX1_nearestX_16 ?_
  refine j_iload C dX1_nearestX_19 4 rfl ?_
  refine j_iald C kc_113 lc_113 dX1_nearestX_21 ?_
  refine j_iload_n C dX1_nearestX_22 3 rfl rfl ?_
  refine j_mmin C cw_RX1_36 ⟨Nat.le_of_ble_eq_true rfl, Nat.le_of_ble_eq_true rfl⟩ (Nat.le_of_ble_eq_true rfl) dX1_nearestX_23 ?_
  refine j_mmax C cw_RX1_42 ⟨Nat.le_of_ble_eq_true rfl, Nat.le_of_ble_eq_true rfl⟩ (Nat.le_of_ble_eq_true rfl) dX1_nearestX_26 ?_
  exact j_iret C CR dX1_nearestX_29
set_option maxHeartbeats 4000000 in
theorem c_X1_nearestY (n : Nat) (l1 : Int32) (l2 : Int32) (l3 : Int32) (s : Mem) : CTi YC yX1_nearestY cX1_nearestY 5 (some .int) rm_X1_nearestY (fun ad => [.ref (ad 109), .int l1, .int l2, .int l3]) s (f_X1_nearestY n l1 l2 l3 s) := by
  refine CTi_of (by decide) (fun _ => Nat.le_of_ble_eq_true rfl) (fun X C CR => ?_)
  show J YC X 5 (f_X1_nearestY n l1 l2 l3 s) 0 [(0, .ref (adX X 109)), (1, .int l1), (2, .int l2), (3, .int l3)] [] s
  unfold f_X1_nearestY
  refine j_iload_n C dX1_nearestY_0 1 rfl rfl ?_
  refine j_bipush (v := (16 : Int32)) C dX1_nearestY_1 (by decide) ?_
  refine j_imul C dX1_nearestY_3 ?_
  refine j_iload_n C dX1_nearestY_4 2 rfl rfl ?_
  refine j_iadd C dX1_nearestY_5 ?_
  refine j_top (fun x1 => ?_)
  refine j_istore (L' := [(0, .ref (adX X 109)), (1, .int l1), (2, .int l2), (3, .int l3), (4, .int x1)]) C dX1_nearestY_6 (by decide) [1, 2, 3, 4, 0] rfl ?_
  refine j_aload_n C dX1_nearestY_8 0 rfl rfl ?_
  refine j_getR (z := 112) C kX1 kc_109 lc_109 2 (by decide) tw_391 rc_1_2 rfl dX1_nearestY_9 ?_
  refine j_iload C dX1_nearestY_12 4 rfl ?_
  refine j_iald C kc_112 lc_112 dX1_nearestY_14 ?_
  refine j_aload_n C dX1_nearestY_15 0 rfl rfl ?_
  refine j_getR (z := 114) C kX1 kc_109 lc_109 4 (by decide) tw_393 rc_1_4 rfl dX1_nearestY_16 ?_
  refine j_iload C dX1_nearestY_19 4 rfl ?_
  refine j_iald C kc_114 lc_114 dX1_nearestY_21 ?_
  refine j_iload_n C dX1_nearestY_22 3 rfl rfl ?_
  refine j_mmin C cw_RX1_36 ⟨Nat.le_of_ble_eq_true rfl, Nat.le_of_ble_eq_true rfl⟩ (Nat.le_of_ble_eq_true rfl) dX1_nearestY_23 ?_
  refine j_mmax C cw_RX1_42 ⟨Nat.le_of_ble_eq_true rfl, Nat.le_of_ble_eq_true rfl⟩ (Nat.le_of_ble_eq_true rfl) dX1_nearestY_26 ?_
  exact j_iret C CR dX1_nearestY_29
set_option maxHeartbeats 4000000 in
theorem jb_X2_isNumber_18 {X : CtxT (Int32 × Mem)} (C : Cx YC X 2 cX2_isNumber RX2 (some .boolean) rm_X2_isNumber) (CR : CRi YC X)  (n : Nat)  (t0 : Int32) (s : Mem) : J YC X 2 (b_X2_isNumber_18  n  t0 s) 18 [] [.int t0] s := by
  unfold b_X2_isNumber_18
  exact j_zret C CR dX2_isNumber_18
set_option maxHeartbeats 4000000 in
theorem jb_X2_isNumber_17 {X : CtxT (Int32 × Mem)} (C : Cx YC X 2 cX2_isNumber RX2 (some .boolean) rm_X2_isNumber) (CR : CRi YC X)  (n : Nat)   (s : Mem) : J YC X 2 (b_X2_isNumber_17  n   s) 17 [] [] s := by
  unfold b_X2_isNumber_17
  refine j_iconst (v := (0 : Int32)) C dX2_isNumber_17 (by decide) ?_
  exact jb_X2_isNumber_18 C CR  n (0 : Int32) s
set_option maxHeartbeats 4000000 in
theorem c_X2_isNumber (n : Nat) (r0 : Nat) (h_r0 : isO 2 r0) (l1 : Int32) (s : Mem) : CTi YC yX2_isNumber cX2_isNumber 2 (some .boolean) rm_X2_isNumber (fun ad => [.ref (ad r0), .int l1]) s (f_X2_isNumber n r0 l1 s) := by
  refine CTi_of (by decide) (fun _ => Nat.le_of_ble_eq_true rfl) (fun X C CR => ?_)
  show J YC X 2 (f_X2_isNumber n r0 l1 s) 0 [(0, .ref (adX X r0)), (1, .int l1)] [] s
  unfold f_X2_isNumber
  refine j_iload_n C dX2_isNumber_0 1 rfl rfl ?_
  refine j_if_le (tgt := 17) C dX2_isNumber_1 (by decide) ?_ ?_
  · refine j_sub (L' := []) [] rfl ?_
    exact jb_X2_isNumber_17 C CR  n s
  · refine j_iload_n C dX2_isNumber_4 1 rfl rfl ?_
    refine j_aload_n C dX2_isNumber_5 0 rfl rfl ?_
    refine j_getR (z := (r0 + 1)) C kX2 (pk_2_0 _ h_r0) (pl_2_0 _ h_r0) 0 (by decide) tw_158 rc_2_0 rfl dX2_isNumber_6 ?_
    refine j_alen (v := Int32.ofNat (lenC (r0 + 1))) C (pk_2_1 _ h_r0) (pl_2_1 _ h_r0) rfl dX2_isNumber_9 ?_
    refine j_icmp_ge (tgt := 17) C dX2_isNumber_10 (by decide) ?_ ?_
    · refine j_sub (L' := []) [] rfl ?_
      exact jb_X2_isNumber_17 C CR  n s
    · refine j_iconst (v := (1 : Int32)) C dX2_isNumber_13 (by decide) ?_
      refine j_goto (tgt := 18) C dX2_isNumber_14 (by decide) ?_
      refine j_sub (L' := []) [] rfl ?_
      exact jb_X2_isNumber_18 C CR  n (1 : Int32) s
set_option maxHeartbeats 4000000 in
theorem jb_X2_put_32 {X : CtxT Mem} (C : Cx YC X 4 cX2_put RX2 none rm_X2_put) (CR : CRn YC X)  (n : Nat)   (s : Mem) : J YC X 4 (b_X2_put_32  n   s) 32 [] [] s := by
  unfold b_X2_put_32
  exact j_vret C CR dX2_put_32
set_option maxHeartbeats 4000000 in
theorem c_X2_put (n : Nat) (r0 : Nat) (h_r0 : isO 2 r0) (l1 : Int32) (l2 : Int32) (l3 : Int32) (s : Mem) : CTn YC yX2_put cX2_put 4 none rm_X2_put (fun ad => [.ref (ad r0), .int l1, .int l2, .int l3]) s (f_X2_put n r0 l1 l2 l3 s) := by
  refine CTn_of (by decide) (fun _ => Nat.le_of_ble_eq_true rfl) (fun X C CR => ?_)
  show J YC X 4 (f_X2_put n r0 l1 l2 l3 s) 0 [(0, .ref (adX X r0)), (1, .int l1), (2, .int l2), (3, .int l3)] [] s
  unfold f_X2_put
  refine j_aload_n C dX2_put_0 0 rfl rfl ?_
  refine j_iload_n C dX2_put_1 1 rfl rfl ?_
  refine j_callVi C (c_X2_isNumber n r0 h_r0 l1 s) cw_RX2_16 ⟨rfl, rfl, Nat.le_of_ble_eq_true rfl, Nat.le_of_ble_eq_true rfl⟩ r0 kX2 (pk_2_0 _ h_r0) (pl_2_0 _ h_r0) [.int l1] [] rfl rfl rfl (Nat.le_of_ble_eq_true rfl) dX2_put_2 (fun x2 s1 => ?_)
  refine j_if_eq (tgt := 32) C dX2_put_5 (by decide) ?_ ?_
  · refine j_sub (L' := []) [] rfl ?_
    exact jb_X2_put_32 C CR  n s1
  · refine j_aload_n C dX2_put_8 0 rfl rfl ?_
    refine j_getR (z := (r0 + 1)) C kX2 (pk_2_0 _ h_r0) (pl_2_0 _ h_r0) 0 (by decide) tw_158 rc_2_0 rfl dX2_put_9 ?_
    refine j_iload_n C dX2_put_12 1 rfl rfl ?_
    refine j_iload_n C dX2_put_13 2 rfl rfl ?_
    refine j_iast C (pk_2_1 _ h_r0) (pl_2_1 _ h_r0) dX2_put_14 (fun s3 => ?_)
    refine j_aload_n C dX2_put_15 0 rfl rfl ?_
    refine j_getR (z := (r0 + 2)) C kX2 (pk_2_0 _ h_r0) (pl_2_0 _ h_r0) 1 (by decide) tw_161 rc_2_1 rfl dX2_put_16 ?_
    refine j_iload_n C dX2_put_19 1 rfl rfl ?_
    refine j_iload_n C dX2_put_20 3 rfl rfl ?_
    refine j_iast C (pk_2_2 _ h_r0) (pl_2_2 _ h_r0) dX2_put_21 (fun s4 => ?_)
    refine j_aload_n C dX2_put_22 0 rfl rfl ?_
    refine j_dup C dX2_put_23 rfl ?_
    refine j_get C kX2 (pk_2_0 _ h_r0) (pl_2_0 _ h_r0) 2 (by decide) tw_164 rc_2_2 dX2_put_24 ?_
    refine j_iconst (v := (1 : Int32)) C dX2_put_27 (by decide) ?_
    refine j_iadd C dX2_put_28 ?_
    refine j_put C kX2 (pk_2_0 _ h_r0) (pl_2_0 _ h_r0) 2 (by decide) tw_164 rc_2_2 rfl rfl dX2_put_29 (fun s5 => ?_)
    refine j_sub (L' := []) [] rfl ?_
    exact jb_X2_put_32 C CR  n s5
set_option maxHeartbeats 4000000 in
theorem c_X2_clear (n : Nat) (r0 : Nat) (h_r0 : isO 2 r0) (s : Mem) : CTn YC yX2_clear cX2_clear 1 none rm_X2_clear (fun ad => [.ref (ad r0)]) s (f_X2_clear n r0 s) := by
  refine CTn_of (by decide) (fun _ => Nat.le_of_ble_eq_true rfl) (fun X C CR => ?_)
  show J YC X 1 (f_X2_clear n r0 s) 0 [(0, .ref (adX X r0))] [] s
  unfold f_X2_clear
  refine j_aload_n C dX2_clear_0 0 rfl rfl ?_
  refine j_getR (z := (r0 + 1)) C kX2 (pk_2_0 _ h_r0) (pl_2_0 _ h_r0) 0 (by decide) tw_158 rc_2_0 rfl dX2_clear_1 ?_
  refine j_iconst (v := (0 : Int32)) C dX2_clear_4 (by decide) ?_
  refine j_callSn C (c_fill (pk_2_1 _ h_r0) (pl_2_1 _ h_r0) (pn_2_1 _ h_r0) (0 : Int32) s) cw_RX2_24 ⟨rfl, rfl, Nat.le_of_ble_eq_true rfl, Nat.le_of_ble_eq_true rfl⟩ [.ref (adX X (r0 + 1)), .int (0 : Int32)] [] rfl rfl rfl (Nat.le_of_ble_eq_true rfl) dX2_clear_5 (fun s1 => ?_)
  refine j_aload_n C dX2_clear_8 0 rfl rfl ?_
  refine j_getR (z := (r0 + 2)) C kX2 (pk_2_0 _ h_r0) (pl_2_0 _ h_r0) 1 (by decide) tw_161 rc_2_1 rfl dX2_clear_9 ?_
  refine j_iconst (v := (0 : Int32)) C dX2_clear_12 (by decide) ?_
  refine j_callSn C (c_fill (pk_2_2 _ h_r0) (pl_2_2 _ h_r0) (pn_2_2 _ h_r0) (0 : Int32) s1) cw_RX2_24 ⟨rfl, rfl, Nat.le_of_ble_eq_true rfl, Nat.le_of_ble_eq_true rfl⟩ [.ref (adX X (r0 + 2)), .int (0 : Int32)] [] rfl rfl rfl (Nat.le_of_ble_eq_true rfl) dX2_clear_13 (fun s2 => ?_)
  refine j_aload_n C dX2_clear_16 0 rfl rfl ?_
  refine j_iconst (v := (0 : Int32)) C dX2_clear_17 (by decide) ?_
  refine j_put C kX2 (pk_2_0 _ h_r0) (pl_2_0 _ h_r0) 2 (by decide) tw_164 rc_2_2 rfl rfl dX2_clear_18 (fun s3 => ?_)
  exact j_vret C CR dX2_clear_21
set_option maxHeartbeats 4000000 in
theorem c_X2_copyFrom (n : Nat) (r0 : Nat) (h_r0 : isO 2 r0) (r1 : Nat) (h_r1 : isO 2 r1) (s : Mem) : CTn YC yX2_copyFrom cX2_copyFrom 3 none rm_X2_copyFrom (fun ad => [.ref (ad r0), .ref (ad r1)]) s (f_X2_copyFrom n r0 r1 s) := by
  refine CTn_of (by decide) (fun _ => Nat.le_of_ble_eq_true rfl) (fun X C CR => ?_)
  show J YC X 3 (f_X2_copyFrom n r0 r1 s) 0 [(0, .ref (adX X r0)), (1, .ref (adX X r1))] [] s
  unfold f_X2_copyFrom
  refine j_aload_n C dX2_copyFrom_0 0 rfl rfl ?_
  refine j_getR (z := (r0 + 1)) C kX2 (pk_2_0 _ h_r0) (pl_2_0 _ h_r0) 0 (by decide) tw_158 rc_2_0 rfl dX2_copyFrom_1 ?_
  refine j_alen (v := Int32.ofNat (lenC (r0 + 1))) C (pk_2_1 _ h_r0) (pl_2_1 _ h_r0) rfl dX2_copyFrom_4 ?_
  refine j_aload_n C dX2_copyFrom_5 1 rfl rfl ?_
  refine j_getR (z := (r1 + 1)) C kX2 (pk_2_0 _ h_r1) (pl_2_0 _ h_r1) 0 (by decide) tw_158 rc_2_0 rfl dX2_copyFrom_6 ?_
  refine j_alen (v := Int32.ofNat (lenC (r1 + 1))) C (pk_2_1 _ h_r1) (pl_2_1 _ h_r1) rfl dX2_copyFrom_9 ?_
  refine j_mmin C cw_RX2_30 ⟨Nat.le_of_ble_eq_true rfl, Nat.le_of_ble_eq_true rfl⟩ (Nat.le_of_ble_eq_true rfl) dX2_copyFrom_10 ?_
  refine j_top (fun x1 => ?_)
  refine j_istore_n (L' := [(0, .ref (adX X r0)), (1, .ref (adX X r1)), (2, .int x1)]) C dX2_copyFrom_13 rfl (by decide) [1, 2, 0] rfl ?_
  refine j_aload_n C dX2_copyFrom_14 1 rfl rfl ?_
  refine j_getR (z := (r1 + 1)) C kX2 (pk_2_0 _ h_r1) (pl_2_0 _ h_r1) 0 (by decide) tw_158 rc_2_0 rfl dX2_copyFrom_15 ?_
  refine j_iconst (v := (0 : Int32)) C dX2_copyFrom_18 (by decide) ?_
  refine j_aload_n C dX2_copyFrom_19 0 rfl rfl ?_
  refine j_getR (z := (r0 + 1)) C kX2 (pk_2_0 _ h_r0) (pl_2_0 _ h_r0) 0 (by decide) tw_158 rc_2_0 rfl dX2_copyFrom_20 ?_
  refine j_iconst (v := (0 : Int32)) C dX2_copyFrom_23 (by decide) ?_
  refine j_iload_n C dX2_copyFrom_24 2 rfl rfl ?_
  refine j_copy C cw_RX2_36 ⟨Nat.le_of_ble_eq_true rfl, Nat.le_of_ble_eq_true rfl⟩ (pk_2_1 _ h_r1) (pl_2_1 _ h_r1) (pk_2_1 _ h_r0) (pl_2_1 _ h_r0) (Nat.le_of_ble_eq_true rfl) dX2_copyFrom_25 (fun s2 => ?_)
  refine j_aload_n C dX2_copyFrom_28 1 rfl rfl ?_
  refine j_getR (z := (r1 + 2)) C kX2 (pk_2_0 _ h_r1) (pl_2_0 _ h_r1) 1 (by decide) tw_161 rc_2_1 rfl dX2_copyFrom_29 ?_
  refine j_iconst (v := (0 : Int32)) C dX2_copyFrom_32 (by decide) ?_
  refine j_aload_n C dX2_copyFrom_33 0 rfl rfl ?_
  refine j_getR (z := (r0 + 2)) C kX2 (pk_2_0 _ h_r0) (pl_2_0 _ h_r0) 1 (by decide) tw_161 rc_2_1 rfl dX2_copyFrom_34 ?_
  refine j_iconst (v := (0 : Int32)) C dX2_copyFrom_37 (by decide) ?_
  refine j_iload_n C dX2_copyFrom_38 2 rfl rfl ?_
  refine j_copy C cw_RX2_36 ⟨Nat.le_of_ble_eq_true rfl, Nat.le_of_ble_eq_true rfl⟩ (pk_2_2 _ h_r1) (pl_2_2 _ h_r1) (pk_2_2 _ h_r0) (pl_2_2 _ h_r0) (Nat.le_of_ble_eq_true rfl) dX2_copyFrom_39 (fun s3 => ?_)
  refine j_aload_n C dX2_copyFrom_42 0 rfl rfl ?_
  refine j_aload_n C dX2_copyFrom_43 1 rfl rfl ?_
  refine j_get C kX2 (pk_2_0 _ h_r1) (pl_2_0 _ h_r1) 2 (by decide) tw_164 rc_2_2 dX2_copyFrom_44 ?_
  refine j_put C kX2 (pk_2_0 _ h_r0) (pl_2_0 _ h_r0) 2 (by decide) tw_164 rc_2_2 rfl rfl dX2_copyFrom_47 (fun s4 => ?_)
  exact j_vret C CR dX2_copyFrom_50
set_option maxHeartbeats 4000000 in
theorem c_X3_clear (n : Nat) (r0 : Nat) (h_r0 : isO 3 r0) (s : Mem) : CTn YC yX3_clear cX3_clear 1 none rm_X3_clear (fun ad => [.ref (ad r0)]) s (f_X3_clear n r0 s) := by
  refine CTn_of (by decide) (fun _ => Nat.le_of_ble_eq_true rfl) (fun X C CR => ?_)
  show J YC X 1 (f_X3_clear n r0 s) 0 [(0, .ref (adX X r0))] [] s
  unfold f_X3_clear
  refine j_aload_n C dX3_clear_0 0 rfl rfl ?_
  refine j_getR (z := (r0 + 3)) C kX3 (pk_3_0 _ h_r0) (pl_3_0 _ h_r0) 1 (by decide) tw_177 rc_3_1 rfl dX3_clear_1 ?_
  refine j_callVn C (c_X2_clear n (r0 + 3) (ps_3_3 _ h_r0) s) cw_RX3_36 ⟨rfl, rfl, Nat.le_of_ble_eq_true rfl, Nat.le_of_ble_eq_true rfl⟩ (r0 + 3) kX2 (pk_3_3 _ h_r0) (pl_3_3 _ h_r0) [] [] rfl rfl rfl (Nat.le_of_ble_eq_true rfl) dX3_clear_4 (fun s1 => ?_)
  refine j_aload_n C dX3_clear_7 0 rfl rfl ?_
  refine j_getR (z := (r0 + 6)) C kX3 (pk_3_0 _ h_r0) (pl_3_0 _ h_r0) 2 (by decide) tw_180 rc_3_2 rfl dX3_clear_8 ?_
  refine j_callVn C (c_X2_clear n (r0 + 6) (ps_3_6 _ h_r0) s1) cw_RX3_36 ⟨rfl, rfl, Nat.le_of_ble_eq_true rfl, Nat.le_of_ble_eq_true rfl⟩ (r0 + 6) kX2 (pk_3_6 _ h_r0) (pl_3_6 _ h_r0) [] [] rfl rfl rfl (Nat.le_of_ble_eq_true rfl) dX3_clear_11 (fun s2 => ?_)
  refine j_aload_n C dX3_clear_14 0 rfl rfl ?_
  refine j_getR (z := (r0 + 9)) C kX3 (pk_3_0 _ h_r0) (pl_3_0 _ h_r0) 3 (by decide) tw_184 rc_3_3 rfl dX3_clear_15 ?_
  refine j_callVn C (c_X2_clear n (r0 + 9) (ps_3_9 _ h_r0) s2) cw_RX3_36 ⟨rfl, rfl, Nat.le_of_ble_eq_true rfl, Nat.le_of_ble_eq_true rfl⟩ (r0 + 9) kX2 (pk_3_9 _ h_r0) (pl_3_9 _ h_r0) [] [] rfl rfl rfl (Nat.le_of_ble_eq_true rfl) dX3_clear_18 (fun s3 => ?_)
  refine j_aload_n C dX3_clear_21 0 rfl rfl ?_
  refine j_getR (z := (r0 + 12)) C kX3 (pk_3_0 _ h_r0) (pl_3_0 _ h_r0) 4 (by decide) tw_188 rc_3_4 rfl dX3_clear_22 ?_
  refine j_callVn C (c_X2_clear n (r0 + 12) (ps_3_12 _ h_r0) s3) cw_RX3_36 ⟨rfl, rfl, Nat.le_of_ble_eq_true rfl, Nat.le_of_ble_eq_true rfl⟩ (r0 + 12) kX2 (pk_3_12 _ h_r0) (pl_3_12 _ h_r0) [] [] rfl rfl rfl (Nat.le_of_ble_eq_true rfl) dX3_clear_25 (fun s4 => ?_)
  exact j_vret C CR dX3_clear_28
set_option maxHeartbeats 4000000 in
theorem c_X8_copyFrom (n : Nat) (r0 : Nat) (h_r0 : isO 8 r0) (r1 : Nat) (h_r1 : isO 8 r1) (s : Mem) : CTn YC yX8_copyFrom cX8_copyFrom 2 none rm_X8_copyFrom (fun ad => [.ref (ad r0), .ref (ad r1)]) s (f_X8_copyFrom n r0 r1 s) := by
  refine CTn_of (by decide) (fun _ => Nat.le_of_ble_eq_true rfl) (fun X C CR => ?_)
  show J YC X 2 (f_X8_copyFrom n r0 r1 s) 0 [(0, .ref (adX X r0)), (1, .ref (adX X r1))] [] s
  unfold f_X8_copyFrom
  refine j_aload_n C dX8_copyFrom_0 1 rfl rfl ?_
  refine j_getR (z := (r1 + 1)) C kX8 (pk_8_0 _ h_r1) (pl_8_0 _ h_r1) 0 (by decide) tw_142 rc_8_0 rfl dX8_copyFrom_1 ?_
  refine j_iconst (v := (0 : Int32)) C dX8_copyFrom_4 (by decide) ?_
  refine j_aload_n C dX8_copyFrom_5 0 rfl rfl ?_
  refine j_getR (z := (r0 + 1)) C kX8 (pk_8_0 _ h_r0) (pl_8_0 _ h_r0) 0 (by decide) tw_142 rc_8_0 rfl dX8_copyFrom_6 ?_
  refine j_iconst (v := (0 : Int32)) C dX8_copyFrom_9 (by decide) ?_
  refine j_sipush (v := (1500 : Int32)) C dX8_copyFrom_10 (by decide) ?_
  refine j_copy C cw_RX8_23 ⟨Nat.le_of_ble_eq_true rfl, Nat.le_of_ble_eq_true rfl⟩ (pk_8_1 _ h_r1) (pl_8_1 _ h_r1) (pk_8_1 _ h_r0) (pl_8_1 _ h_r0) (Nat.le_of_ble_eq_true rfl) dX8_copyFrom_13 (fun s1 => ?_)
  refine j_aload_n C dX8_copyFrom_16 0 rfl rfl ?_
  refine j_aload_n C dX8_copyFrom_17 1 rfl rfl ?_
  refine j_get C kX8 (pk_8_0 _ h_r1) (pl_8_0 _ h_r1) 1 (by decide) tw_143 rc_8_1 dX8_copyFrom_18 ?_
  refine j_put C kX8 (pk_8_0 _ h_r0) (pl_8_0 _ h_r0) 1 (by decide) tw_143 rc_8_1 rfl rfl dX8_copyFrom_21 (fun s2 => ?_)
  exact j_vret C CR dX8_copyFrom_24
set_option maxHeartbeats 4000000 in
theorem c_X3_copyFrom (n : Nat) (r0 : Nat) (h_r0 : isO 3 r0) (r1 : Nat) (h_r1 : isO 3 r1) (s : Mem) : CTn YC yX3_copyFrom cX3_copyFrom 2 none rm_X3_copyFrom (fun ad => [.ref (ad r0), .ref (ad r1)]) s (f_X3_copyFrom n r0 r1 s) := by
  refine CTn_of (by decide) (fun _ => Nat.le_of_ble_eq_true rfl) (fun X C CR => ?_)
  show J YC X 2 (f_X3_copyFrom n r0 r1 s) 0 [(0, .ref (adX X r0)), (1, .ref (adX X r1))] [] s
  unfold f_X3_copyFrom
  refine j_aload_n C dX3_copyFrom_0 0 rfl rfl ?_
  refine j_getR (z := (r0 + 1)) C kX3 (pk_3_0 _ h_r0) (pl_3_0 _ h_r0) 0 (by decide) tw_173 rc_3_0 rfl dX3_copyFrom_1 ?_
  refine j_aload_n C dX3_copyFrom_4 1 rfl rfl ?_
  refine j_getR (z := (r1 + 1)) C kX3 (pk_3_0 _ h_r1) (pl_3_0 _ h_r1) 0 (by decide) tw_173 rc_3_0 rfl dX3_copyFrom_5 ?_
  refine j_callVn C (c_X8_copyFrom n (r0 + 1) (ps_3_1 _ h_r0) (r1 + 1) (ps_3_1 _ h_r1) s) cw_RX3_39 ⟨rfl, rfl, Nat.le_of_ble_eq_true rfl, Nat.le_of_ble_eq_true rfl⟩ (r0 + 1) kX8 (pk_3_1 _ h_r0) (pl_3_1 _ h_r0) [.ref (adX X (r1 + 1))] [] rfl rfl rfl (Nat.le_of_ble_eq_true rfl) dX3_copyFrom_8 (fun s1 => ?_)
  refine j_aload_n C dX3_copyFrom_11 0 rfl rfl ?_
  refine j_getR (z := (r0 + 3)) C kX3 (pk_3_0 _ h_r0) (pl_3_0 _ h_r0) 1 (by decide) tw_177 rc_3_1 rfl dX3_copyFrom_12 ?_
  refine j_aload_n C dX3_copyFrom_15 1 rfl rfl ?_
  refine j_getR (z := (r1 + 3)) C kX3 (pk_3_0 _ h_r1) (pl_3_0 _ h_r1) 1 (by decide) tw_177 rc_3_1 rfl dX3_copyFrom_16 ?_
  refine j_callVn C (c_X2_copyFrom n (r0 + 3) (ps_3_3 _ h_r0) (r1 + 3) (ps_3_3 _ h_r1) s1) cw_RX3_43 ⟨rfl, rfl, Nat.le_of_ble_eq_true rfl, Nat.le_of_ble_eq_true rfl⟩ (r0 + 3) kX2 (pk_3_3 _ h_r0) (pl_3_3 _ h_r0) [.ref (adX X (r1 + 3))] [] rfl rfl rfl (Nat.le_of_ble_eq_true rfl) dX3_copyFrom_19 (fun s2 => ?_)
  refine j_aload_n C dX3_copyFrom_22 0 rfl rfl ?_
  refine j_getR (z := (r0 + 6)) C kX3 (pk_3_0 _ h_r0) (pl_3_0 _ h_r0) 2 (by decide) tw_180 rc_3_2 rfl dX3_copyFrom_23 ?_
  refine j_aload_n C dX3_copyFrom_26 1 rfl rfl ?_
  refine j_getR (z := (r1 + 6)) C kX3 (pk_3_0 _ h_r1) (pl_3_0 _ h_r1) 2 (by decide) tw_180 rc_3_2 rfl dX3_copyFrom_27 ?_
  refine j_callVn C (c_X2_copyFrom n (r0 + 6) (ps_3_6 _ h_r0) (r1 + 6) (ps_3_6 _ h_r1) s2) cw_RX3_43 ⟨rfl, rfl, Nat.le_of_ble_eq_true rfl, Nat.le_of_ble_eq_true rfl⟩ (r0 + 6) kX2 (pk_3_6 _ h_r0) (pl_3_6 _ h_r0) [.ref (adX X (r1 + 6))] [] rfl rfl rfl (Nat.le_of_ble_eq_true rfl) dX3_copyFrom_30 (fun s3 => ?_)
  refine j_aload_n C dX3_copyFrom_33 0 rfl rfl ?_
  refine j_getR (z := (r0 + 9)) C kX3 (pk_3_0 _ h_r0) (pl_3_0 _ h_r0) 3 (by decide) tw_184 rc_3_3 rfl dX3_copyFrom_34 ?_
  refine j_aload_n C dX3_copyFrom_37 1 rfl rfl ?_
  refine j_getR (z := (r1 + 9)) C kX3 (pk_3_0 _ h_r1) (pl_3_0 _ h_r1) 3 (by decide) tw_184 rc_3_3 rfl dX3_copyFrom_38 ?_
  refine j_callVn C (c_X2_copyFrom n (r0 + 9) (ps_3_9 _ h_r0) (r1 + 9) (ps_3_9 _ h_r1) s3) cw_RX3_43 ⟨rfl, rfl, Nat.le_of_ble_eq_true rfl, Nat.le_of_ble_eq_true rfl⟩ (r0 + 9) kX2 (pk_3_9 _ h_r0) (pl_3_9 _ h_r0) [.ref (adX X (r1 + 9))] [] rfl rfl rfl (Nat.le_of_ble_eq_true rfl) dX3_copyFrom_41 (fun s4 => ?_)
  refine j_aload_n C dX3_copyFrom_44 0 rfl rfl ?_
  refine j_getR (z := (r0 + 12)) C kX3 (pk_3_0 _ h_r0) (pl_3_0 _ h_r0) 4 (by decide) tw_188 rc_3_4 rfl dX3_copyFrom_45 ?_
  refine j_aload_n C dX3_copyFrom_48 1 rfl rfl ?_
  refine j_getR (z := (r1 + 12)) C kX3 (pk_3_0 _ h_r1) (pl_3_0 _ h_r1) 4 (by decide) tw_188 rc_3_4 rfl dX3_copyFrom_49 ?_
  refine j_callVn C (c_X2_copyFrom n (r0 + 12) (ps_3_12 _ h_r0) (r1 + 12) (ps_3_12 _ h_r1) s4) cw_RX3_43 ⟨rfl, rfl, Nat.le_of_ble_eq_true rfl, Nat.le_of_ble_eq_true rfl⟩ (r0 + 12) kX2 (pk_3_12 _ h_r0) (pl_3_12 _ h_r0) [.ref (adX X (r1 + 12))] [] rfl rfl rfl (Nat.le_of_ble_eq_true rfl) dX3_copyFrom_52 (fun s5 => ?_)
  exact j_vret C CR dX3_copyFrom_55
set_option maxHeartbeats 4000000 in
theorem jb_X3_actorByte_35 {X : CtxT (Int32 × Mem)} (C : Cx YC X 3 cX3_actorByte RX3 (some .int) rm_X3_actorByte) (CR : CRi YC X)  (n : Nat)  (t0 : Int32) (s : Mem) : J YC X 3 (b_X3_actorByte_35  n  t0 s) 35 [] [.int t0] s := by
  unfold b_X3_actorByte_35
  exact j_iret C CR dX3_actorByte_35
set_option maxHeartbeats 4000000 in
theorem c_X3_actorByte (n : Nat) (r0 : Nat) (h_r0 : isO 3 r0) (l1 : Int32) (l2 : Int32) (s : Mem) : CTi YC yX3_actorByte cX3_actorByte 3 (some .int) rm_X3_actorByte (fun ad => [.ref (ad r0), .int l1, .int l2]) s (f_X3_actorByte n r0 l1 l2 s) := by
  refine CTi_of (by decide) (fun _ => Nat.le_of_ble_eq_true rfl) (fun X C CR => ?_)
  show J YC X 3 (f_X3_actorByte n r0 l1 l2 s) 0 [(0, .ref (adX X r0)), (1, .int l1), (2, .int l2)] [] s
  unfold f_X3_actorByte
  refine j_aload_n C dX3_actorByte_0 0 rfl rfl ?_
  refine j_getR (z := (r0 + 12)) C kX3 (pk_3_0 _ h_r0) (pl_3_0 _ h_r0) 4 (by decide) tw_188 rc_3_4 rfl dX3_actorByte_1 ?_
  refine j_iload_n C dX3_actorByte_4 1 rfl rfl ?_
  refine j_callVi C (c_X2_has n (r0 + 12) (ps_3_12 _ h_r0) l1 s) cw_RX3_46 ⟨rfl, rfl, Nat.le_of_ble_eq_true rfl, Nat.le_of_ble_eq_true rfl⟩ (r0 + 12) kX2 (pk_3_12 _ h_r0) (pl_3_12 _ h_r0) [.int l1] [] rfl rfl rfl (Nat.le_of_ble_eq_true rfl) dX3_actorByte_5 (fun x2 s1 => ?_)
  refine j_if_eq (tgt := 34) C dX3_actorByte_8 (by decide) ?_ ?_
  · refine j_iconst (v := (0 : Int32)) C dX3_actorByte_34 (by decide) ?_
    refine j_sub (L' := []) [] rfl ?_
    exact jb_X3_actorByte_35 C CR  n (0 : Int32) s1
  · refine j_aload_n C dX3_actorByte_11 0 rfl rfl ?_
    refine j_getR (z := (r0 + 1)) C kX3 (pk_3_0 _ h_r0) (pl_3_0 _ h_r0) 0 (by decide) tw_173 rc_3_0 rfl dX3_actorByte_12 ?_
    refine j_aload_n C dX3_actorByte_15 0 rfl rfl ?_
    refine j_getR (z := (r0 + 12)) C kX3 (pk_3_0 _ h_r0) (pl_3_0 _ h_r0) 4 (by decide) tw_188 rc_3_4 rfl dX3_actorByte_16 ?_
    refine j_getR (z := (r0 + 13)) C kX2 (pk_3_12 _ h_r0) (pl_3_12 _ h_r0) 0 (by decide) tw_159 rc_2_0 rfl dX3_actorByte_19 ?_
    refine j_iload_n C dX3_actorByte_22 1 rfl rfl ?_
    refine j_iald C (pk_3_13 _ h_r0) (pl_3_13 _ h_r0) dX3_actorByte_23 ?_
    refine j_iconst (v := (1 : Int32)) C dX3_actorByte_24 (by decide) ?_
    refine j_iadd C dX3_actorByte_25 ?_
    refine j_iload_n C dX3_actorByte_26 2 rfl rfl ?_
    refine j_iadd C dX3_actorByte_27 ?_
    refine j_callVi C (c_X8_at n (r0 + 1) (ps_3_1 _ h_r0) (((s1 (r0 + 13) l1.toNatClampNeg) + (1 : Int32)) + l2) s1) cw_RX3_54 ⟨rfl, rfl, Nat.le_of_ble_eq_true rfl, Nat.le_of_ble_eq_true rfl⟩ (r0 + 1) kX8 (pk_3_1 _ h_r0) (pl_3_1 _ h_r0) [.int (((s1 (r0 + 13) l1.toNatClampNeg) + (1 : Int32)) + l2)] [] rfl rfl rfl (Nat.le_of_ble_eq_true rfl) dX3_actorByte_28 (fun x4 s3 => ?_)
    refine j_goto (tgt := 35) C dX3_actorByte_31 (by decide) ?_
    refine j_sub (L' := []) [] rfl ?_
    exact jb_X3_actorByte_35 C CR  n x4 s3
set_option maxHeartbeats 4000000 in
theorem jb_X3_whereIs_35 {X : CtxT (Int32 × Mem)} (C : Cx YC X 3 cX3_whereIs RX3 (some .int) rm_X3_whereIs) (CR : CRi YC X)  (n : Nat)  (t0 : Int32) (s : Mem) : J YC X 3 (b_X3_whereIs_35  n  t0 s) 35 [] [.int t0] s := by
  unfold b_X3_whereIs_35
  exact j_iret C CR dX3_whereIs_35
set_option maxHeartbeats 4000000 in
theorem c_X3_whereIs (n : Nat) (r0 : Nat) (h_r0 : isO 3 r0) (l1 : Int32) (l2 : Int32) (s : Mem) : CTi YC yX3_whereIs cX3_whereIs 3 (some .int) rm_X3_whereIs (fun ad => [.ref (ad r0), .int l1, .int l2]) s (f_X3_whereIs n r0 l1 l2 s) := by
  refine CTi_of (by decide) (fun _ => Nat.le_of_ble_eq_true rfl) (fun X C CR => ?_)
  show J YC X 3 (f_X3_whereIs n r0 l1 l2 s) 0 [(0, .ref (adX X r0)), (1, .int l1), (2, .int l2)] [] s
  unfold f_X3_whereIs
  refine j_aload_n C dX3_whereIs_0 0 rfl rfl ?_
  refine j_getR (z := (r0 + 9)) C kX3 (pk_3_0 _ h_r0) (pl_3_0 _ h_r0) 3 (by decide) tw_184 rc_3_3 rfl dX3_whereIs_1 ?_
  refine j_iload_n C dX3_whereIs_4 1 rfl rfl ?_
  refine j_callVi C (c_X2_has n (r0 + 9) (ps_3_9 _ h_r0) l1 s) cw_RX3_46 ⟨rfl, rfl, Nat.le_of_ble_eq_true rfl, Nat.le_of_ble_eq_true rfl⟩ (r0 + 9) kX2 (pk_3_9 _ h_r0) (pl_3_9 _ h_r0) [.int l1] [] rfl rfl rfl (Nat.le_of_ble_eq_true rfl) dX3_whereIs_5 (fun x2 s1 => ?_)
  refine j_if_eq (tgt := 34) C dX3_whereIs_8 (by decide) ?_ ?_
  · refine j_iconst (v := (0 : Int32)) C dX3_whereIs_34 (by decide) ?_
    refine j_sub (L' := []) [] rfl ?_
    exact jb_X3_whereIs_35 C CR  n (0 : Int32) s1
  · refine j_aload_n C dX3_whereIs_11 0 rfl rfl ?_
    refine j_getR (z := (r0 + 1)) C kX3 (pk_3_0 _ h_r0) (pl_3_0 _ h_r0) 0 (by decide) tw_173 rc_3_0 rfl dX3_whereIs_12 ?_
    refine j_aload_n C dX3_whereIs_15 0 rfl rfl ?_
    refine j_getR (z := (r0 + 9)) C kX3 (pk_3_0 _ h_r0) (pl_3_0 _ h_r0) 3 (by decide) tw_184 rc_3_3 rfl dX3_whereIs_16 ?_
    refine j_getR (z := (r0 + 10)) C kX2 (pk_3_9 _ h_r0) (pl_3_9 _ h_r0) 0 (by decide) tw_159 rc_2_0 rfl dX3_whereIs_19 ?_
    refine j_iload_n C dX3_whereIs_22 1 rfl rfl ?_
    refine j_iald C (pk_3_10 _ h_r0) (pl_3_10 _ h_r0) dX3_whereIs_23 ?_
    refine j_iconst (v := (1 : Int32)) C dX3_whereIs_24 (by decide) ?_
    refine j_iadd C dX3_whereIs_25 ?_
    refine j_iload_n C dX3_whereIs_26 2 rfl rfl ?_
    refine j_iadd C dX3_whereIs_27 ?_
    refine j_callVi C (c_X8_at n (r0 + 1) (ps_3_1 _ h_r0) (((s1 (r0 + 10) l1.toNatClampNeg) + (1 : Int32)) + l2) s1) cw_RX3_54 ⟨rfl, rfl, Nat.le_of_ble_eq_true rfl, Nat.le_of_ble_eq_true rfl⟩ (r0 + 1) kX8 (pk_3_1 _ h_r0) (pl_3_1 _ h_r0) [.int (((s1 (r0 + 10) l1.toNatClampNeg) + (1 : Int32)) + l2)] [] rfl rfl rfl (Nat.le_of_ble_eq_true rfl) dX3_whereIs_28 (fun x4 s3 => ?_)
    refine j_goto (tgt := 35) C dX3_whereIs_31 (by decide) ?_
    refine j_sub (L' := []) [] rfl ?_
    exact jb_X3_whereIs_35 C CR  n x4 s3
set_option maxHeartbeats 4000000 in
theorem c_X3_verbsOf (n : Nat) (r0 : Nat) (h_r0 : isO 3 r0) (l1 : Int32) (s : Mem) : CTi YC yX3_verbsOf cX3_verbsOf 2 (some .int) rm_X3_verbsOf (fun ad => [.ref (ad r0), .int l1]) s (f_X3_verbsOf n r0 l1 s) := by
  refine CTi_of (by decide) (fun _ => Nat.le_of_ble_eq_true rfl) (fun X C CR => ?_)
  show J YC X 2 (f_X3_verbsOf n r0 l1 s) 0 [(0, .ref (adX X r0)), (1, .int l1)] [] s
  unfold f_X3_verbsOf
  refine j_aload_n C dX3_verbsOf_0 0 rfl rfl ?_
  refine j_getR (z := (r0 + 9)) C kX3 (pk_3_0 _ h_r0) (pl_3_0 _ h_r0) 3 (by decide) tw_184 rc_3_3 rfl dX3_verbsOf_1 ?_
  refine j_iload_n C dX3_verbsOf_4 1 rfl rfl ?_
  refine j_callVi C (c_X2_has n (r0 + 9) (ps_3_9 _ h_r0) l1 s) cw_RX3_46 ⟨rfl, rfl, Nat.le_of_ble_eq_true rfl, Nat.le_of_ble_eq_true rfl⟩ (r0 + 9) kX2 (pk_3_9 _ h_r0) (pl_3_9 _ h_r0) [.int l1] [] rfl rfl rfl (Nat.le_of_ble_eq_true rfl) dX3_verbsOf_5 (fun x2 s1 => ?_)
  refine j_if_ne (tgt := 13) C dX3_verbsOf_8 (by decide) ?_ ?_
  · refine j_aload_n C dX3_verbsOf_13 0 rfl rfl ?_
    refine j_getR (z := (r0 + 9)) C kX3 (pk_3_0 _ h_r0) (pl_3_0 _ h_r0) 3 (by decide) tw_184 rc_3_3 rfl dX3_verbsOf_14 ?_
    refine j_getR (z := (r0 + 11)) C kX2 (pk_3_9 _ h_r0) (pl_3_9 _ h_r0) 1 (by decide) tw_163 rc_2_1 rfl dX3_verbsOf_17 ?_
    refine j_iload_n C dX3_verbsOf_20 1 rfl rfl ?_
    refine j_iald C (pk_3_11 _ h_r0) (pl_3_11 _ h_r0) dX3_verbsOf_21 ?_
    refine j_aload_n C dX3_verbsOf_22 0 rfl rfl ?_
    refine j_getR (z := (r0 + 9)) C kX3 (pk_3_0 _ h_r0) (pl_3_0 _ h_r0) 3 (by decide) tw_184 rc_3_3 rfl dX3_verbsOf_23 ?_
    refine j_getR (z := (r0 + 10)) C kX2 (pk_3_9 _ h_r0) (pl_3_9 _ h_r0) 0 (by decide) tw_159 rc_2_0 rfl dX3_verbsOf_26 ?_
    refine j_iload_n C dX3_verbsOf_29 1 rfl rfl ?_
    refine j_iald C (pk_3_10 _ h_r0) (pl_3_10 _ h_r0) dX3_verbsOf_30 ?_
    refine j_isub C dX3_verbsOf_31 ?_
    refine j_iconst (v := (5 : Int32)) C dX3_verbsOf_32 (by decide) ?_
    refine j_isub C dX3_verbsOf_33 ?_
    refine j_iconst (v := (2 : Int32)) C dX3_verbsOf_34 (by decide) ?_
    refine j_idiv C dX3_verbsOf_35 ?_
    exact j_iret C CR dX3_verbsOf_36
  · refine j_iconst (v := (0 : Int32)) C dX3_verbsOf_11 (by decide) ?_
    exact j_iret C CR dX3_verbsOf_12
set_option maxHeartbeats 4000000 in
theorem jb_X3_scriptFor_36 {X : CtxT (Int32 × Mem)} (C : Cx YC X 5 cX3_scriptFor RX3 (some .int) rm_X3_scriptFor) (CR : CRi YC X)  (n : Nat) (k36 : Nat → Int32 → Int32 → Int32 → Mem → Option (Int32 × Mem)) (hk36 : ∀ (r0 : Nat) (h_r0 : isO 3 r0) (l2 : Int32) (l3 : Int32) (l4 : Int32) (s : Mem), J YC X 5 (k36 r0 l2 l3 l4 s) 36 [(0, .ref (adX X r0)), (2, .int l2), (3, .int l3), (4, .int l4)] [] s) (r0 : Nat) (h_r0 : isO 3 r0) (l2 : Int32) (l3 : Int32) (l4 : Int32) (s : Mem) : J YC X 5 (b_X3_scriptFor_36  n k36 r0 l2 l3 l4 s) 36 [(0, .ref (adX X r0)), (2, .int l2), (3, .int l3), (4, .int l4)] [] s := by
  unfold b_X3_scriptFor_36
  refine j_iload C dX3_scriptFor_36 3 rfl ?_
  refine j_iload_n C dX3_scriptFor_38 2 rfl rfl ?_
  refine j_icmp_ge (tgt := 73) C dX3_scriptFor_39 (by decide) ?_ ?_
  · refine j_iconst (v := (0 : Int32)) C dX3_scriptFor_73 (by decide) ?_
    exact j_iret C CR dX3_scriptFor_74
  · refine j_aload_n C dX3_scriptFor_42 0 rfl rfl ?_
    refine j_getR (z := (r0 + 1)) C kX3 (pk_3_0 _ h_r0) (pl_3_0 _ h_r0) 0 (by decide) tw_173 rc_3_0 rfl dX3_scriptFor_43 ?_
    refine j_iload C dX3_scriptFor_46 3 rfl ?_
    refine j_callVi C (c_X8_at n (r0 + 1) (ps_3_1 _ h_r0) l4 s) cw_RX3_54 ⟨rfl, rfl, Nat.le_of_ble_eq_true rfl, Nat.le_of_ble_eq_true rfl⟩ (r0 + 1) kX8 (pk_3_1 _ h_r0) (pl_3_1 _ h_r0) [.int l4] [] rfl rfl rfl (Nat.le_of_ble_eq_true rfl) dX3_scriptFor_48 (fun x2 s1 => ?_)
    refine j_iload_n C dX3_scriptFor_51 1 rfl rfl ?_
    refine j_icmp_ne (tgt := 67) C dX3_scriptFor_52 (by decide) ?_ ?_
    · refine j_iinc (L2 := fun x3 => [(0, .ref (adX X r0)), (2, .int l2), (3, .int l3), (4, .int x3)]) C dX3_scriptFor_67 3 rfl (by decide) [1, 2, 3, 0] (fun _ => rfl) (fun x3 => ?_)
      refine j_goto (tgt := 36) C dX3_scriptFor_70 (by decide) ?_
      exact hk36 r0 h_r0 l2 l3 x3 s1
    · refine j_aload_n C dX3_scriptFor_55 0 rfl rfl ?_
      refine j_getR (z := (r0 + 1)) C kX3 (pk_3_0 _ h_r0) (pl_3_0 _ h_r0) 0 (by decide) tw_173 rc_3_0 rfl dX3_scriptFor_56 ?_
      refine j_iload C dX3_scriptFor_59 3 rfl ?_
      refine j_iconst (v := (1 : Int32)) C dX3_scriptFor_61 (by decide) ?_
      refine j_iadd C dX3_scriptFor_62 ?_
      refine j_callVi C (c_X8_at n (r0 + 1) (ps_3_1 _ h_r0) (l4 + (1 : Int32)) s1) cw_RX3_54 ⟨rfl, rfl, Nat.le_of_ble_eq_true rfl, Nat.le_of_ble_eq_true rfl⟩ (r0 + 1) kX8 (pk_3_1 _ h_r0) (pl_3_1 _ h_r0) [.int (l4 + (1 : Int32))] [] rfl rfl rfl (Nat.le_of_ble_eq_true rfl) dX3_scriptFor_63 (fun x5 s4 => ?_)
      exact j_iret C CR dX3_scriptFor_66
theorem lb_X3_scriptFor_36 {X : CtxT (Int32 × Mem)} (C : Cx YC X 5 cX3_scriptFor RX3 (some .int) rm_X3_scriptFor) (CR : CRi YC X)  : ∀ (n : Nat) (r0 : Nat) (h_r0 : isO 3 r0) (l2 : Int32) (l3 : Int32) (l4 : Int32) (s : Mem), J YC X 5 (itr4 (b_X3_scriptFor_36) n r0 l2 l3 l4 s) 36 [(0, .ref (adX X r0)), (2, .int l2), (3, .int l3), (4, .int l4)] [] s := by
  intro n
  induction n with
  | zero => intros; exact j_none
  | succ n ih =>
    intro r0 h_r0 l2 l3 l4 s
    exact jb_X3_scriptFor_36 C CR  n _ ih r0 h_r0 l2 l3 l4 s
set_option maxHeartbeats 4000000 in
theorem c_X3_scriptFor (n : Nat) (r0 : Nat) (h_r0 : isO 3 r0) (l1 : Int32) (l2 : Int32) (s : Mem) : CTi YC yX3_scriptFor cX3_scriptFor 5 (some .int) rm_X3_scriptFor (fun ad => [.ref (ad r0), .int l1, .int l2]) s (f_X3_scriptFor n r0 l1 l2 s) := by
  refine CTi_of (by decide) (fun _ => Nat.le_of_ble_eq_true rfl) (fun X C CR => ?_)
  show J YC X 5 (f_X3_scriptFor n r0 l1 l2 s) 0 [(0, .ref (adX X r0)), (1, .int l1), (2, .int l2)] [] s
  unfold f_X3_scriptFor
  refine j_aload_n C dX3_scriptFor_0 0 rfl rfl ?_
  refine j_getR (z := (r0 + 9)) C kX3 (pk_3_0 _ h_r0) (pl_3_0 _ h_r0) 3 (by decide) tw_184 rc_3_3 rfl dX3_scriptFor_1 ?_
  refine j_iload_n C dX3_scriptFor_4 1 rfl rfl ?_
  refine j_callVi C (c_X2_has n (r0 + 9) (ps_3_9 _ h_r0) l1 s) cw_RX3_46 ⟨rfl, rfl, Nat.le_of_ble_eq_true rfl, Nat.le_of_ble_eq_true rfl⟩ (r0 + 9) kX2 (pk_3_9 _ h_r0) (pl_3_9 _ h_r0) [.int l1] [] rfl rfl rfl (Nat.le_of_ble_eq_true rfl) dX3_scriptFor_5 (fun x2 s1 => ?_)
  refine j_if_ne (tgt := 13) C dX3_scriptFor_8 (by decide) ?_ ?_
  · refine j_aload_n C dX3_scriptFor_13 0 rfl rfl ?_
    refine j_getR (z := (r0 + 9)) C kX3 (pk_3_0 _ h_r0) (pl_3_0 _ h_r0) 3 (by decide) tw_184 rc_3_3 rfl dX3_scriptFor_14 ?_
    refine j_getR (z := (r0 + 11)) C kX2 (pk_3_9 _ h_r0) (pl_3_9 _ h_r0) 1 (by decide) tw_163 rc_2_1 rfl dX3_scriptFor_17 ?_
    refine j_iload_n C dX3_scriptFor_20 1 rfl rfl ?_
    refine j_iald C (pk_3_11 _ h_r0) (pl_3_11 _ h_r0) dX3_scriptFor_21 ?_
    refine j_istore_n (L' := [(0, .ref (adX X r0)), (1, .int l1), (2, .int l2), (3, .int (s1 (r0 + 11) l1.toNatClampNeg))]) C dX3_scriptFor_22 rfl (by decide) [1, 2, 3, 0] rfl ?_
    refine j_aload_n C dX3_scriptFor_23 0 rfl rfl ?_
    refine j_getR (z := (r0 + 9)) C kX3 (pk_3_0 _ h_r0) (pl_3_0 _ h_r0) 3 (by decide) tw_184 rc_3_3 rfl dX3_scriptFor_24 ?_
    refine j_getR (z := (r0 + 10)) C kX2 (pk_3_9 _ h_r0) (pl_3_9 _ h_r0) 0 (by decide) tw_159 rc_2_0 rfl dX3_scriptFor_27 ?_
    refine j_iload_n C dX3_scriptFor_30 1 rfl rfl ?_
    refine j_iald C (pk_3_10 _ h_r0) (pl_3_10 _ h_r0) dX3_scriptFor_31 ?_
    refine j_iconst (v := (5 : Int32)) C dX3_scriptFor_32 (by decide) ?_
    refine j_iadd C dX3_scriptFor_33 ?_
    refine j_top (fun x3 => ?_)
    refine j_istore (L' := [(0, .ref (adX X r0)), (1, .int l1), (2, .int l2), (3, .int (s1 (r0 + 11) l1.toNatClampNeg)), (4, .int x3)]) C dX3_scriptFor_34 (by decide) [1, 2, 3, 4, 0] rfl ?_
    refine j_sub (L' := [(0, .ref (adX X r0)), (2, .int l2), (3, .int (s1 (r0 + 11) l1.toNatClampNeg)), (4, .int x3)]) [0, 2, 3, 4] rfl ?_
    exact lb_X3_scriptFor_36 C CR  n r0 h_r0 l2 (s1 (r0 + 11) l1.toNatClampNeg) x3 s1
  · refine j_iconst (v := (0 : Int32)) C dX3_scriptFor_11 (by decide) ?_
    exact j_iret C CR dX3_scriptFor_12
set_option maxHeartbeats 4000000 in
theorem jb_X4_fail_20 {X : CtxT Mem} (C : Cx YC X 2 cX4_fail RX4 none rm_X4_fail) (CR : CRn YC X)  (n : Nat)   (s : Mem) : J YC X 2 (b_X4_fail_20  n   s) 20 [] [] s := by
  unfold b_X4_fail_20
  exact j_vret C CR dX4_fail_20
set_option maxHeartbeats 4000000 in
theorem c_X4_fail (n : Nat) (l1 : Int32) (s : Mem) : CTn YC yX4_fail cX4_fail 2 none rm_X4_fail (fun ad => [.ref (ad 31), .int l1]) s (f_X4_fail n l1 s) := by
  refine CTn_of (by decide) (fun _ => Nat.le_of_ble_eq_true rfl) (fun X C CR => ?_)
  show J YC X 2 (f_X4_fail n l1 s) 0 [(0, .ref (adX X 31)), (1, .int l1)] [] s
  unfold f_X4_fail
  refine j_aload_n C dX4_fail_0 0 rfl rfl ?_
  refine j_get C kX4 kc_31 lc_31 0 (by decide) tw_210 rc_4_0 dX4_fail_1 ?_
  refine j_if_ne (tgt := 20) C dX4_fail_4 (by decide) ?_ ?_
  · refine j_sub (L' := []) [] rfl ?_
    exact jb_X4_fail_20 C CR  n s
  · refine j_aload_n C dX4_fail_7 0 rfl rfl ?_
    refine j_iload_n C dX4_fail_8 1 rfl rfl ?_
    refine j_put C kX4 kc_31 lc_31 0 (by decide) tw_210 rc_4_0 rfl rfl dX4_fail_9 (fun s1 => ?_)
    refine j_aload_n C dX4_fail_12 0 rfl rfl ?_
    refine j_aload_n C dX4_fail_13 0 rfl rfl ?_
    refine j_get C kX4 kc_31 lc_31 4 (by decide) tw_216 rc_4_4 dX4_fail_14 ?_
    refine j_put C kX4 kc_31 lc_31 1 (by decide) tw_212 rc_4_1 rfl rfl dX4_fail_17 (fun s2 => ?_)
    refine j_sub (L' := []) [] rfl ?_
    exact jb_X4_fail_20 C CR  n s2
