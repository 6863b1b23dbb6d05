set_option maxHeartbeats 4000000 in
theorem jb_X4_peek_29 {X : CtxT (Int32 × Mem)} (C : Cx YC X 1 cX4_peek RX4 (some .int) rm_X4_peek) (CR : CRi YC X)  (n : Nat)  (t0 : Int32) (s : Mem) : J YC X 1 (b_X4_peek_29  n  t0 s) 29 [] [.int t0] s := by
  unfold b_X4_peek_29
  exact j_iret C CR dX4_peek_29
set_option maxHeartbeats 4000000 in
theorem c_X4_peek (n : Nat)  (s : Mem) : CTi YC yX4_peek cX4_peek 1 (some .int) rm_X4_peek (fun ad => [.ref (ad 31)]) s (f_X4_peek n  s) := by
  refine CTi_of (by decide) (fun _ => Nat.le_of_ble_eq_true rfl) (fun X C CR => ?_)
  show J YC X 1 (f_X4_peek n  s) 0 [(0, .ref (adX X 31))] [] s
  unfold f_X4_peek
  refine j_aload_n C dX4_peek_0 0 rfl rfl ?_
  refine j_get C kX4 kc_31 lc_31 4 (by decide) tw_216 rc_4_4 dX4_peek_1 ?_
  refine j_aload_n C dX4_peek_4 0 rfl rfl ?_
  refine j_get C kX4 kc_31 lc_31 5 (by decide) tw_217 rc_4_5 dX4_peek_5 ?_
  refine j_icmp_ge (tgt := 28) C dX4_peek_8 (by decide) ?_ ?_
  · refine j_iconst (v := (-1 : Int32)) C dX4_peek_28 (by decide) ?_
    refine j_sub (L' := []) [] rfl ?_
    exact jb_X4_peek_29 C CR  n (-1 : Int32) s
  · refine j_aload_n C dX4_peek_11 0 rfl rfl ?_
    refine j_getA C kX4 kc_31 lc_31 2 (by decide) tw_214 rc_4_2 dX4_peek_12 ?_
    refine j_getR (z := 2) C kX3 kc_1 lc_1 0 (by decide) tw_175 rc_3_0 rfl dX4_peek_15 ?_
    refine j_aload_n C dX4_peek_18 0 rfl rfl ?_
    refine j_get C kX4 kc_31 lc_31 4 (by decide) tw_216 rc_4_4 dX4_peek_19 ?_
    refine j_callVi C (c_X8_at n 2 io_8_2 (s 31 4) s) cw_RX4_52 ⟨rfl, rfl, Nat.le_of_ble_eq_true rfl, Nat.le_of_ble_eq_true rfl⟩ 2 kX8 kc_2 lc_2 [.int (s 31 4)] [] rfl rfl rfl (Nat.le_of_ble_eq_true rfl) dX4_peek_22 (fun x2 s1 => ?_)
    refine j_goto (tgt := 29) C dX4_peek_25 (by decide) ?_
    refine j_sub (L' := []) [] rfl ?_
    exact jb_X4_peek_29 C CR  n x2 s1
set_option maxHeartbeats 4000000 in
theorem jb_X4_take_29 {X : CtxT (Int32 × Mem)} (C : Cx YC X 4 cX4_take RX4 (some .int) rm_X4_take) (CR : CRi YC X)  (n : Nat)   (s : Mem) : J YC X 4 (b_X4_take_29  n   s) 29 [(0, .ref (adX X 31))] [] s := by
  unfold b_X4_take_29
  refine j_aload_n C dX4_take_29 0 rfl rfl ?_
  refine j_iconst (v := (4 : Int32)) C dX4_take_30 (by decide) ?_
  refine j_callVn C (c_X4_fail n (4 : Int32) s) cw_RX4_56 ⟨rfl, rfl, Nat.le_of_ble_eq_true rfl, Nat.le_of_ble_eq_true rfl⟩ 31 kX4 kc_31 lc_31 [.int (4 : Int32)] [] rfl rfl rfl (Nat.le_of_ble_eq_true rfl) dX4_take_31 (fun s1 => ?_)
  refine j_iconst (v := (-1 : Int32)) C dX4_take_34 (by decide) ?_
  exact j_iret C CR dX4_take_35
set_option maxHeartbeats 4000000 in
theorem c_X4_take (n : Nat) (l1 : Int32) (l2 : Int32) (s : Mem) : CTi YC yX4_take cX4_take 4 (some .int) rm_X4_take (fun ad => [.ref (ad 31), .int l1, .int l2]) s (f_X4_take n l1 l2 s) := by
  refine CTi_of (by decide) (fun _ => Nat.le_of_ble_eq_true rfl) (fun X C CR => ?_)
  show J YC X 4 (f_X4_take n l1 l2 s) 0 [(0, .ref (adX X 31)), (1, .int l1), (2, .int l2)] [] s
  unfold f_X4_take
  refine j_aload_n C dX4_take_0 0 rfl rfl ?_
  refine j_get C kX4 kc_31 lc_31 0 (by decide) tw_210 rc_4_0 dX4_take_1 ?_
  refine j_if_eq (tgt := 9) C dX4_take_4 (by decide) ?_ ?_
  · refine j_aload_n C dX4_take_9 0 rfl rfl ?_
    refine j_callVi C (c_X4_peek n  s) cw_RX4_109 ⟨rfl, rfl, Nat.le_of_ble_eq_true rfl, Nat.le_of_ble_eq_true rfl⟩ 31 kX4 kc_31 lc_31 [] [] rfl rfl rfl (Nat.le_of_ble_eq_true rfl) dX4_take_10 (fun x2 s1 => ?_)
    refine j_istore_n (L' := [(0, .ref (adX X 31)), (1, .int l1), (2, .int l2), (3, .int x2)]) C dX4_take_13 rfl (by decide) [1, 2, 3, 0] rfl ?_
    refine j_iload_n C dX4_take_14 3 rfl rfl ?_
    refine j_iconst (v := (-1 : Int32)) C dX4_take_15 (by decide) ?_
    refine j_icmp_eq (tgt := 29) C dX4_take_16 (by decide) ?_ ?_
    · refine j_sub (L' := [(0, .ref (adX X 31))]) [0] rfl ?_
      exact jb_X4_take_29 C CR  n s1
    · refine j_iload_n C dX4_take_19 3 rfl rfl ?_
      refine j_iload_n C dX4_take_20 1 rfl rfl ?_
      refine j_icmp_lt (tgt := 29) C dX4_take_21 (by decide) ?_ ?_
      · refine j_sub (L' := [(0, .ref (adX X 31))]) [0] rfl ?_
        exact jb_X4_take_29 C CR  n s1
      · refine j_iload_n C dX4_take_24 3 rfl rfl ?_
        refine j_iload_n C dX4_take_25 2 rfl rfl ?_
        refine j_icmp_le (tgt := 36) C dX4_take_26 (by decide) ?_ ?_
        · refine j_aload_n C dX4_take_36 0 rfl rfl ?_
          refine j_dup C dX4_take_37 rfl ?_
          refine j_get C kX4 kc_31 lc_31 4 (by decide) tw_216 rc_4_4 dX4_take_38 ?_
          refine j_iconst (v := (1 : Int32)) C dX4_take_41 (by decide) ?_
          refine j_iadd C dX4_take_42 ?_
          refine j_put C kX4 kc_31 lc_31 4 (by decide) tw_216 rc_4_4 rfl rfl dX4_take_43 (fun s3 => ?_)
          refine j_iload_n C dX4_take_46 3 rfl rfl ?_
          exact j_iret C CR dX4_take_47
        · refine j_sub (L' := [(0, .ref (adX X 31))]) [0] rfl ?_
          exact jb_X4_take_29 C CR  n s1
  · refine j_iconst (v := (-1 : Int32)) C dX4_take_7 (by decide) ?_
    exact j_iret C CR dX4_take_8
set_option maxHeartbeats 4000000 in
theorem jb_X4_takeNumber_21 {X : CtxT Mem} (C : Cx YC X 3 cX4_takeNumber RX4 none rm_X4_takeNumber) (CR : CRn YC X)  (n : Nat)   (s : Mem) : J YC X 3 (b_X4_takeNumber_21  n   s) 21 [(0, .ref (adX X 31))] [] s := by
  unfold b_X4_takeNumber_21
  refine j_aload_n C dX4_takeNumber_21 0 rfl rfl ?_
  refine j_iconst (v := (4 : Int32)) C dX4_takeNumber_22 (by decide) ?_
  refine j_callVn C (c_X4_fail n (4 : Int32) s) cw_RX4_56 ⟨rfl, rfl, Nat.le_of_ble_eq_true rfl, Nat.le_of_ble_eq_true rfl⟩ 31 kX4 kc_31 lc_31 [.int (4 : Int32)] [] rfl rfl rfl (Nat.le_of_ble_eq_true rfl) dX4_takeNumber_23 (fun s1 => ?_)
  exact j_vret C CR dX4_takeNumber_26
set_option maxHeartbeats 4000000 in
theorem c_X4_takeNumber (n : Nat) (r1 : Nat) (h_r1 : isO 2 r1) (s : Mem) : CTn YC yX4_takeNumber cX4_takeNumber 3 none rm_X4_takeNumber (fun ad => [.ref (ad 31), .ref (ad r1)]) s (f_X4_takeNumber n r1 s) := by
  refine CTn_of (by decide) (fun _ => Nat.le_of_ble_eq_true rfl) (fun X C CR => ?_)
  show J YC X 3 (f_X4_takeNumber n r1 s) 0 [(0, .ref (adX X 31)), (1, .ref (adX X r1))] [] s
  unfold f_X4_takeNumber
  refine j_aload_n C dX4_takeNumber_0 0 rfl rfl ?_
  refine j_callVi C (c_X4_peek n  s) cw_RX4_109 ⟨rfl, rfl, Nat.le_of_ble_eq_true rfl, Nat.le_of_ble_eq_true rfl⟩ 31 kX4 kc_31 lc_31 [] [] rfl rfl rfl (Nat.le_of_ble_eq_true rfl) dX4_takeNumber_1 (fun x2 s1 => ?_)
  refine j_istore_n (L' := [(0, .ref (adX X 31)), (1, .ref (adX X r1)), (2, .int x2)]) C dX4_takeNumber_4 rfl (by decide) [1, 2, 0] rfl ?_
  refine j_aload_n C dX4_takeNumber_5 1 rfl rfl ?_
  refine j_iload_n C dX4_takeNumber_6 2 rfl rfl ?_
  refine j_callVi C (c_X2_isNumber n r1 h_r1 x2 s1) cw_RX4_113 ⟨rfl, rfl, Nat.le_of_ble_eq_true rfl, Nat.le_of_ble_eq_true rfl⟩ r1 kX2 (pk_2_0 _ h_r1) (pl_2_0 _ h_r1) [.int x2] [] rfl rfl rfl (Nat.le_of_ble_eq_true rfl) dX4_takeNumber_7 (fun x4 s3 => ?_)
  refine j_if_eq (tgt := 21) C dX4_takeNumber_10 (by decide) ?_ ?_
  · refine j_sub (L' := [(0, .ref (adX X 31))]) [0] rfl ?_
    exact jb_X4_takeNumber_21 C CR  n s3
  · refine j_aload_n C dX4_takeNumber_13 1 rfl rfl ?_
    refine j_iload_n C dX4_takeNumber_14 2 rfl rfl ?_
    refine j_callVi C (c_X2_has n r1 h_r1 x2 s3) cw_RX4_118 ⟨rfl, rfl, Nat.le_of_ble_eq_true rfl, Nat.le_of_ble_eq_true rfl⟩ r1 kX2 (pk_2_0 _ h_r1) (pl_2_0 _ h_r1) [.int x2] [] rfl rfl rfl (Nat.le_of_ble_eq_true rfl) dX4_takeNumber_15 (fun x6 s5 => ?_)
    refine j_if_eq (tgt := 27) C dX4_takeNumber_18 (by decide) ?_ ?_
    · refine j_aload_n C dX4_takeNumber_27 1 rfl rfl ?_
      refine j_iload_n C dX4_takeNumber_28 2 rfl rfl ?_
      refine j_aload_n C dX4_takeNumber_29 0 rfl rfl ?_
      refine j_get C kX4 kc_31 lc_31 4 (by decide) tw_216 rc_4_4 dX4_takeNumber_30 ?_
      refine j_aload_n C dX4_takeNumber_33 0 rfl rfl ?_
      refine j_get C kX4 kc_31 lc_31 5 (by decide) tw_217 rc_4_5 dX4_takeNumber_34 ?_
      refine j_callVn C (c_X2_put n r1 h_r1 x2 (s5 31 4) (s5 31 5) s5) cw_RX4_121 ⟨rfl, rfl, Nat.le_of_ble_eq_true rfl, Nat.le_of_ble_eq_true rfl⟩ r1 kX2 (pk_2_0 _ h_r1) (pl_2_0 _ h_r1) [.int x2, .int (s5 31 4), .int (s5 31 5)] [] rfl rfl rfl (Nat.le_of_ble_eq_true rfl) dX4_takeNumber_37 (fun s7 => ?_)
      refine j_aload_n C dX4_takeNumber_40 0 rfl rfl ?_
      refine j_dup C dX4_takeNumber_41 rfl ?_
      refine j_get C kX4 kc_31 lc_31 4 (by decide) tw_216 rc_4_4 dX4_takeNumber_42 ?_
      refine j_iconst (v := (1 : Int32)) C dX4_takeNumber_45 (by decide) ?_
      refine j_iadd C dX4_takeNumber_46 ?_
      refine j_put C kX4 kc_31 lc_31 4 (by decide) tw_216 rc_4_4 rfl rfl dX4_takeNumber_47 (fun s8 => ?_)
      exact j_vret C CR dX4_takeNumber_50
    · refine j_sub (L' := [(0, .ref (adX X 31))]) [0] rfl ?_
      exact jb_X4_takeNumber_21 C CR  n s5
set_option maxHeartbeats 4000000 in
theorem c_X4_readActor (n : Nat)  (s : Mem) : CTn YC yX4_readActor cX4_readActor 1 none rm_X4_readActor (fun ad => [.ref (ad 31)]) s (f_X4_readActor n  s) := by
  refine CTn_of (by decide) (fun _ => Nat.le_of_ble_eq_true rfl) (fun X C CR => ?_)
  show J YC X 1 (f_X4_readActor n  s) 0 [(0, .ref (adX X 31))] [] s
  unfold f_X4_readActor
  refine j_aload_n C dX4_readActor_0 0 rfl rfl ?_
  refine j_aload_n C dX4_readActor_1 0 rfl rfl ?_
  refine j_getA C kX4 kc_31 lc_31 2 (by decide) tw_214 rc_4_2 dX4_readActor_2 ?_
  refine j_getR (z := 13) C kX3 kc_1 lc_1 4 (by decide) tw_191 rc_3_4 rfl dX4_readActor_5 ?_
  refine j_callVn C (c_X4_takeNumber n 13 io_2_13 s) cw_RX4_83 ⟨rfl, rfl, Nat.le_of_ble_eq_true rfl, Nat.le_of_ble_eq_true rfl⟩ 31 kX4 kc_31 lc_31 [.ref (adX X 13)] [] rfl rfl rfl (Nat.le_of_ble_eq_true rfl) dX4_readActor_8 (fun s1 => ?_)
  refine j_aload_n C dX4_readActor_11 0 rfl rfl ?_
  refine j_iconst (v := (0 : Int32)) C dX4_readActor_12 (by decide) ?_
  refine j_bipush (v := (20 : Int32)) C dX4_readActor_13 (by decide) ?_
  refine j_callVi C (c_X4_take n (0 : Int32) (20 : Int32) s1) cw_RX4_87 ⟨rfl, rfl, Nat.le_of_ble_eq_true rfl, Nat.le_of_ble_eq_true rfl⟩ 31 kX4 kc_31 lc_31 [.int (0 : Int32), .int (20 : Int32)] [] rfl rfl rfl (Nat.le_of_ble_eq_true rfl) dX4_readActor_15 (fun x3 s2 => ?_)
  refine j_pop C dX4_readActor_18 rfl ?_
  refine j_aload_n C dX4_readActor_19 0 rfl rfl ?_
  refine j_iconst (v := (0 : Int32)) C dX4_readActor_20 (by decide) ?_
  refine j_sipush (v := (255 : Int32)) C dX4_readActor_21 (by decide) ?_
  refine j_callVi C (c_X4_take n (0 : Int32) (255 : Int32) s2) cw_RX4_87 ⟨rfl, rfl, Nat.le_of_ble_eq_true rfl, Nat.le_of_ble_eq_true rfl⟩ 31 kX4 kc_31 lc_31 [.int (0 : Int32), .int (255 : Int32)] [] rfl rfl rfl (Nat.le_of_ble_eq_true rfl) dX4_readActor_24 (fun x5 s4 => ?_)
  refine j_pop C dX4_readActor_27 rfl ?_
  refine j_aload_n C dX4_readActor_28 0 rfl rfl ?_
  refine j_iconst (v := (0 : Int32)) C dX4_readActor_29 (by decide) ?_
  refine j_sipush (v := (255 : Int32)) C dX4_readActor_30 (by decide) ?_
  refine j_callVi C (c_X4_take n (0 : Int32) (255 : Int32) s4) cw_RX4_87 ⟨rfl, rfl, Nat.le_of_ble_eq_true rfl, Nat.le_of_ble_eq_true rfl⟩ 31 kX4 kc_31 lc_31 [.int (0 : Int32), .int (255 : Int32)] [] rfl rfl rfl (Nat.le_of_ble_eq_true rfl) dX4_readActor_33 (fun x7 s6 => ?_)
  refine j_pop C dX4_readActor_36 rfl ?_
  refine j_aload_n C dX4_readActor_37 0 rfl rfl ?_
  refine j_iconst (v := (0 : Int32)) C dX4_readActor_38 (by decide) ?_
  refine j_bipush (v := (8 : Int32)) C dX4_readActor_39 (by decide) ?_
  refine j_callVi C (c_X4_take n (0 : Int32) (8 : Int32) s6) cw_RX4_87 ⟨rfl, rfl, Nat.le_of_ble_eq_true rfl, Nat.le_of_ble_eq_true rfl⟩ 31 kX4 kc_31 lc_31 [.int (0 : Int32), .int (8 : Int32)] [] rfl rfl rfl (Nat.le_of_ble_eq_true rfl) dX4_readActor_41 (fun x9 s8 => ?_)
  refine j_pop C dX4_readActor_44 rfl ?_
  exact j_vret C CR dX4_readActor_45
set_option maxHeartbeats 4000000 in
theorem jb_X4_readHead_105 {X : CtxT (Int32 × Mem)} (C : Cx YC X 4 cX4_readHead RX4 (some .boolean) rm_X4_readHead) (CR : CRi YC X)  (n : Nat)   (s : Mem) : J YC X 4 (b_X4_readHead_105  n   s) 105 [(0, .ref (adX X 31))] [] s := by
  unfold b_X4_readHead_105
  refine j_aload_n C dX4_readHead_105 0 rfl rfl ?_
  refine j_iconst (v := (3 : Int32)) C dX4_readHead_106 (by decide) ?_
  refine j_callVn C (c_X4_fail n (3 : Int32) s) cw_RX4_56 ⟨rfl, rfl, Nat.le_of_ble_eq_true rfl, Nat.le_of_ble_eq_true rfl⟩ 31 kX4 kc_31 lc_31 [.int (3 : Int32)] [] rfl rfl rfl (Nat.le_of_ble_eq_true rfl) dX4_readHead_107 (fun s1 => ?_)
  refine j_iconst (v := (0 : Int32)) C dX4_readHead_110 (by decide) ?_
  exact j_zret C CR dX4_readHead_111
set_option maxHeartbeats 4000000 in
theorem jb_X4_readHead_31 {X : CtxT (Int32 × Mem)} (C : Cx YC X 4 cX4_readHead RX4 (some .boolean) rm_X4_readHead) (CR : CRi YC X)  (n : Nat)   (s : Mem) : J YC X 4 (b_X4_readHead_31  n   s) 31 [(0, .ref (adX X 31))] [] s := by
  unfold b_X4_readHead_31
  refine j_aload_n C dX4_readHead_31 0 rfl rfl ?_
  refine j_get C kX4 kc_31 lc_31 4 (by decide) tw_216 rc_4_4 dX4_readHead_32 ?_
  refine j_iconst (v := (3 : Int32)) C dX4_readHead_35 (by decide) ?_
  refine j_iadd C dX4_readHead_36 ?_
  refine j_top (fun x1 => ?_)
  refine j_istore_n (L' := [(0, .ref (adX X 31)), (2, .int x1)]) C dX4_readHead_37 rfl (by decide) [1, 0] rfl ?_
  refine j_aload_n C dX4_readHead_38 0 rfl rfl ?_
  refine j_getA C kX4 kc_31 lc_31 2 (by decide) tw_214 rc_4_2 dX4_readHead_39 ?_
  refine j_getR (z := 2) C kX3 kc_1 lc_1 0 (by decide) tw_175 rc_3_0 rfl dX4_readHead_42 ?_
  refine j_aload_n C dX4_readHead_45 0 rfl rfl ?_
  refine j_get C kX4 kc_31 lc_31 4 (by decide) tw_216 rc_4_4 dX4_readHead_46 ?_
  refine j_iconst (v := (1 : Int32)) C dX4_readHead_49 (by decide) ?_
  refine j_iadd C dX4_readHead_50 ?_
  refine j_callVi C (c_X8_at n 2 io_8_2 ((s 31 4) + (1 : Int32)) s) cw_RX4_52 ⟨rfl, rfl, Nat.le_of_ble_eq_true rfl, Nat.le_of_ble_eq_true rfl⟩ 2 kX8 kc_2 lc_2 [.int ((s 31 4) + (1 : Int32))] [] rfl rfl rfl (Nat.le_of_ble_eq_true rfl) dX4_readHead_51 (fun x3 s2 => ?_)
  refine j_bipush (v := (8 : Int32)) C dX4_readHead_54 (by decide) ?_
  refine j_ishl C dX4_readHead_56 ?_
  refine j_aload_n C dX4_readHead_57 0 rfl rfl ?_
  refine j_getA C kX4 kc_31 lc_31 2 (by decide) tw_214 rc_4_2 dX4_readHead_58 ?_
  refine j_getR (z := 2) C kX3 kc_1 lc_1 0 (by decide) tw_175 rc_3_0 rfl dX4_readHead_61 ?_
  refine j_aload_n C dX4_readHead_64 0 rfl rfl ?_
  refine j_get C kX4 kc_31 lc_31 4 (by decide) tw_216 rc_4_4 dX4_readHead_65 ?_
  refine j_iconst (v := (2 : Int32)) C dX4_readHead_68 (by decide) ?_
  refine j_iadd C dX4_readHead_69 ?_
  refine j_callVi C (c_X8_at n 2 io_8_2 ((s2 31 4) + (2 : Int32)) s2) cw_RX4_52 ⟨rfl, rfl, Nat.le_of_ble_eq_true rfl, Nat.le_of_ble_eq_true rfl⟩ 2 kX8 kc_2 lc_2 [.int ((s2 31 4) + (2 : Int32))] [.int (x3 <<< ((8 : Int32) &&& 31))] rfl rfl rfl (Nat.le_of_ble_eq_true rfl) dX4_readHead_70 (fun x5 s4 => ?_)
  refine j_ior C dX4_readHead_73 ?_
  refine j_top (fun x6 => ?_)
  refine j_istore_n (L' := [(0, .ref (adX X 31)), (2, .int x1), (3, .int x6)]) C dX4_readHead_74 rfl (by decide) [1, 2, 0] rfl ?_
  refine j_iload_n C dX4_readHead_75 1 rfl rfl ?_
  refine j_aload_n C dX4_readHead_76 0 rfl rfl ?_
  refine j_getA C kX4 kc_31 lc_31 2 (by decide) tw_214 rc_4_2 dX4_readHead_77 ?_
  refine j_getR (z := 2) C kX3 kc_1 lc_1 0 (by decide) tw_175 rc_3_0 rfl dX4_readHead_80 ?_
  refine j_get C kX8 kc_2 lc_2 1 (by decide) tw_145 rc_8_1 dX4_readHead_83 ?_
  refine j_icmp_gt (tgt := 105) C dX4_readHead_86 (by decide) ?_ ?_
  · refine j_sub (L' := [(0, .ref (adX X 31))]) [0] rfl ?_
    exact jb_X4_readHead_105 C CR  n s4
  · refine j_iload_n C dX4_readHead_89 1 rfl rfl ?_
    refine j_iload_n C dX4_readHead_90 2 rfl rfl ?_
    refine j_iadd C dX4_readHead_91 ?_
    refine j_aload_n C dX4_readHead_92 0 rfl rfl ?_
    refine j_getA C kX4 kc_31 lc_31 2 (by decide) tw_214 rc_4_2 dX4_readHead_93 ?_
    refine j_getR (z := 2) C kX3 kc_1 lc_1 0 (by decide) tw_175 rc_3_0 rfl dX4_readHead_96 ?_
    refine j_get C kX8 kc_2 lc_2 1 (by decide) tw_145 rc_8_1 dX4_readHead_99 ?_
    refine j_icmp_le (tgt := 112) C dX4_readHead_102 (by decide) ?_ ?_
    · refine j_aload_n C dX4_readHead_112 0 rfl rfl ?_
      refine j_iload_n C dX4_readHead_113 1 rfl rfl ?_
      refine j_put C kX4 kc_31 lc_31 4 (by decide) tw_216 rc_4_4 rfl rfl dX4_readHead_114 (fun s7 => ?_)
      refine j_aload_n C dX4_readHead_117 0 rfl rfl ?_
      refine j_iload_n C dX4_readHead_118 1 rfl rfl ?_
      refine j_iload_n C dX4_readHead_119 2 rfl rfl ?_
      refine j_iadd C dX4_readHead_120 ?_
      refine j_put C kX4 kc_31 lc_31 5 (by decide) tw_217 rc_4_5 rfl rfl dX4_readHead_121 (fun s8 => ?_)
      refine j_iconst (v := (1 : Int32)) C dX4_readHead_124 (by decide) ?_
      exact j_zret C CR dX4_readHead_125
    · refine j_sub (L' := [(0, .ref (adX X 31))]) [0] rfl ?_
      exact jb_X4_readHead_105 C CR  n s4
set_option maxHeartbeats 4000000 in
theorem c_X4_readHead (n : Nat) (l1 : Int32) (s : Mem) : CTi YC yX4_readHead cX4_readHead 4 (some .boolean) rm_X4_readHead (fun ad => [.ref (ad 31), .int l1]) s (f_X4_readHead n l1 s) := by
  refine CTi_of (by decide) (fun _ => Nat.le_of_ble_eq_true rfl) (fun X C CR => ?_)
  show J YC X 4 (f_X4_readHead n l1 s) 0 [(0, .ref (adX X 31)), (1, .int l1)] [] s
  unfold f_X4_readHead
  refine j_iload_n C dX4_readHead_0 1 rfl rfl ?_
  refine j_bipush (v := (82 : Int32)) C dX4_readHead_1 (by decide) ?_
  refine j_icmp_eq (tgt := 31) C dX4_readHead_3 (by decide) ?_ ?_
  · refine j_sub (L' := [(0, .ref (adX X 31))]) [0] rfl ?_
    exact jb_X4_readHead_31 C CR  n s
  · refine j_iload_n C dX4_readHead_6 1 rfl rfl ?_
    refine j_bipush (v := (83 : Int32)) C dX4_readHead_7 (by decide) ?_
    refine j_icmp_eq (tgt := 31) C dX4_readHead_9 (by decide) ?_ ?_
    · refine j_sub (L' := [(0, .ref (adX X 31))]) [0] rfl ?_
      exact jb_X4_readHead_31 C CR  n s
    · refine j_iload_n C dX4_readHead_12 1 rfl rfl ?_
      refine j_bipush (v := (79 : Int32)) C dX4_readHead_13 (by decide) ?_
      refine j_icmp_eq (tgt := 31) C dX4_readHead_15 (by decide) ?_ ?_
      · refine j_sub (L' := [(0, .ref (adX X 31))]) [0] rfl ?_
        exact jb_X4_readHead_31 C CR  n s
      · refine j_iload_n C dX4_readHead_18 1 rfl rfl ?_
        refine j_bipush (v := (65 : Int32)) C dX4_readHead_19 (by decide) ?_
        refine j_icmp_eq (tgt := 31) C dX4_readHead_21 (by decide) ?_ ?_
        · refine j_sub (L' := [(0, .ref (adX X 31))]) [0] rfl ?_
          exact jb_X4_readHead_31 C CR  n s
        · refine j_aload_n C dX4_readHead_24 0 rfl rfl ?_
          refine j_iconst (v := (2 : Int32)) C dX4_readHead_25 (by decide) ?_
          refine j_callVn C (c_X4_fail n (2 : Int32) s) cw_RX4_56 ⟨rfl, rfl, Nat.le_of_ble_eq_true rfl, Nat.le_of_ble_eq_true rfl⟩ 31 kX4 kc_31 lc_31 [.int (2 : Int32)] [] rfl rfl rfl (Nat.le_of_ble_eq_true rfl) dX4_readHead_26 (fun s1 => ?_)
          refine j_iconst (v := (0 : Int32)) C dX4_readHead_29 (by decide) ?_
          exact j_zret C CR dX4_readHead_30
set_option maxHeartbeats 4000000 in
theorem jb_X4_takeVerb_28 {X : CtxT Mem} (C : Cx YC X 2 cX4_takeVerb RX4 none rm_X4_takeVerb) (CR : CRn YC X)  (n : Nat)   (s : Mem) : J YC X 2 (b_X4_takeVerb_28  n   s) 28 [(0, .ref (adX X 31))] [] s := by
  unfold b_X4_takeVerb_28
  refine j_aload_n C dX4_takeVerb_28 0 rfl rfl ?_
  refine j_iconst (v := (4 : Int32)) C dX4_takeVerb_29 (by decide) ?_
  refine j_callVn C (c_X4_fail n (4 : Int32) s) cw_RX4_56 ⟨rfl, rfl, Nat.le_of_ble_eq_true rfl, Nat.le_of_ble_eq_true rfl⟩ 31 kX4 kc_31 lc_31 [.int (4 : Int32)] [] rfl rfl rfl (Nat.le_of_ble_eq_true rfl) dX4_takeVerb_30 (fun s1 => ?_)
  exact j_vret C CR dX4_takeVerb_33
set_option maxHeartbeats 4000000 in
theorem c_X4_takeVerb (n : Nat)  (s : Mem) : CTn YC yX4_takeVerb cX4_takeVerb 2 none rm_X4_takeVerb (fun ad => [.ref (ad 31)]) s (f_X4_takeVerb n  s) := by
  refine CTn_of (by decide) (fun _ => Nat.le_of_ble_eq_true rfl) (fun X C CR => ?_)
  show J YC X 2 (f_X4_takeVerb n  s) 0 [(0, .ref (adX X 31))] [] s
  unfold f_X4_takeVerb
  refine j_aload_n C dX4_takeVerb_0 0 rfl rfl ?_
  refine j_callVi C (c_X4_peek n  s) cw_RX4_109 ⟨rfl, rfl, Nat.le_of_ble_eq_true rfl, Nat.le_of_ble_eq_true rfl⟩ 31 kX4 kc_31 lc_31 [] [] rfl rfl rfl (Nat.le_of_ble_eq_true rfl) dX4_takeVerb_1 (fun x2 s1 => ?_)
  refine j_istore_n (L' := [(0, .ref (adX X 31)), (1, .int x2)]) C dX4_takeVerb_4 rfl (by decide) [1, 0] rfl ?_
  refine j_iload_n C dX4_takeVerb_5 1 rfl rfl ?_
  refine j_iconst (v := (1 : Int32)) C dX4_takeVerb_6 (by decide) ?_
  refine j_icmp_lt (tgt := 28) C dX4_takeVerb_7 (by decide) ?_ ?_
  · refine j_sub (L' := [(0, .ref (adX X 31))]) [0] rfl ?_
    exact jb_X4_takeVerb_28 C CR  n s1
  · refine j_iload_n C dX4_takeVerb_10 1 rfl rfl ?_
    refine j_aload_n C dX4_takeVerb_11 0 rfl rfl ?_
    refine j_getR (z := 32) C kX4 kc_31 lc_31 3 (by decide) tw_215 rc_4_3 rfl dX4_takeVerb_12 ?_
    refine j_alen (v := (256 : Int32)) C kc_32 lc_32 rfl dX4_takeVerb_15 ?_
    refine j_icmp_ge (tgt := 28) C dX4_takeVerb_16 (by decide) ?_ ?_
    · refine j_sub (L' := [(0, .ref (adX X 31))]) [0] rfl ?_
      exact jb_X4_takeVerb_28 C CR  n s1
    · refine j_aload_n C dX4_takeVerb_19 0 rfl rfl ?_
      refine j_getR (z := 32) C kX4 kc_31 lc_31 3 (by decide) tw_215 rc_4_3 rfl dX4_takeVerb_20 ?_
      refine j_iload_n C dX4_takeVerb_23 1 rfl rfl ?_
      refine j_iald C kc_32 lc_32 dX4_takeVerb_24 ?_
      refine j_if_eq (tgt := 34) C dX4_takeVerb_25 (by decide) ?_ ?_
      · refine j_aload_n C dX4_takeVerb_34 0 rfl rfl ?_
        refine j_getR (z := 32) C kX4 kc_31 lc_31 3 (by decide) tw_215 rc_4_3 rfl dX4_takeVerb_35 ?_
        refine j_iload_n C dX4_takeVerb_38 1 rfl rfl ?_
        refine j_iconst (v := (1 : Int32)) C dX4_takeVerb_39 (by decide) ?_
        refine j_iast C kc_32 lc_32 dX4_takeVerb_40 (fun s3 => ?_)
        refine j_aload_n C dX4_takeVerb_41 0 rfl rfl ?_
        refine j_dup C dX4_takeVerb_42 rfl ?_
        refine j_get C kX4 kc_31 lc_31 4 (by decide) tw_216 rc_4_4 dX4_takeVerb_43 ?_
        refine j_iconst (v := (1 : Int32)) C dX4_takeVerb_46 (by decide) ?_
        refine j_iadd C dX4_takeVerb_47 ?_
        refine j_put C kX4 kc_31 lc_31 4 (by decide) tw_216 rc_4_4 rfl rfl dX4_takeVerb_48 (fun s4 => ?_)
        exact j_vret C CR dX4_takeVerb_51
      · refine j_sub (L' := [(0, .ref (adX X 31))]) [0] rfl ?_
        exact jb_X4_takeVerb_28 C CR  n s1
set_option maxHeartbeats 4000000 in
theorem jb_X4_readObject_99 {X : CtxT Mem} (C : Cx YC X 2 cX4_readObject RX4 none rm_X4_readObject) (CR : CRn YC X)  (n : Nat)   (s : Mem) : J YC X 2 (b_X4_readObject_99  n   s) 99 [] [] s := by
  unfold b_X4_readObject_99
  exact j_vret C CR dX4_readObject_99
set_option maxHeartbeats 4000000 in
theorem jb_X4_readObject_56 {X : CtxT Mem} (C : Cx YC X 2 cX4_readObject RX4 none rm_X4_readObject) (CR : CRn YC X)  (n : Nat) (k56 : Int32 → Mem → Option Mem) (hk56 : ∀ (l1 : Int32) (s : Mem), J YC X 2 (k56 l1 s) 56 [(0, .ref (adX X 31)), (1, .int l1)] [] s) (l1 : Int32) (s : Mem) : J YC X 2 (b_X4_readObject_56  n k56 l1 s) 56 [(0, .ref (adX X 31)), (1, .int l1)] [] s := by
  unfold b_X4_readObject_56
  refine j_iload_n C dX4_readObject_56 1 rfl rfl ?_
  refine j_sipush (v := (6000 : Int32)) C dX4_readObject_57 (by decide) ?_
  refine j_icmp_ge (tgt := 99) C dX4_readObject_60 (by decide) ?_ ?_
  · refine j_sub (L' := []) [] rfl ?_
    exact jb_X4_readObject_99 C CR  n s
  · refine j_aload_n C dX4_readObject_63 0 rfl rfl ?_
    refine j_get C kX4 kc_31 lc_31 0 (by decide) tw_210 rc_4_0 dX4_readObject_64 ?_
    refine j_if_ne (tgt := 99) C dX4_readObject_67 (by decide) ?_ ?_
    · refine j_sub (L' := []) [] rfl ?_
      exact jb_X4_readObject_99 C CR  n s
    · refine j_aload_n C dX4_readObject_70 0 rfl rfl ?_
      refine j_get C kX4 kc_31 lc_31 4 (by decide) tw_216 rc_4_4 dX4_readObject_71 ?_
      refine j_aload_n C dX4_readObject_74 0 rfl rfl ?_
      refine j_get C kX4 kc_31 lc_31 5 (by decide) tw_217 rc_4_5 dX4_readObject_75 ?_
      refine j_icmp_ge (tgt := 99) C dX4_readObject_78 (by decide) ?_ ?_
      · refine j_sub (L' := []) [] rfl ?_
        exact jb_X4_readObject_99 C CR  n s
      · refine j_aload_n C dX4_readObject_81 0 rfl rfl ?_
        refine j_callVn C (c_X4_takeVerb n  s) cw_RX4_103 ⟨rfl, rfl, Nat.le_of_ble_eq_true rfl, Nat.le_of_ble_eq_true rfl⟩ 31 kX4 kc_31 lc_31 [] [] rfl rfl rfl (Nat.le_of_ble_eq_true rfl) dX4_readObject_82 (fun s1 => ?_)
        refine j_aload_n C dX4_readObject_85 0 rfl rfl ?_
        refine j_iconst (v := (1 : Int32)) C dX4_readObject_86 (by decide) ?_
        refine j_bipush (v := (60 : Int32)) C dX4_readObject_87 (by decide) ?_
        refine j_callVi C (c_X4_take n (1 : Int32) (60 : Int32) s1) cw_RX4_87 ⟨rfl, rfl, Nat.le_of_ble_eq_true rfl, Nat.le_of_ble_eq_true rfl⟩ 31 kX4 kc_31 lc_31 [.int (1 : Int32), .int (60 : Int32)] [] rfl rfl rfl (Nat.le_of_ble_eq_true rfl) dX4_readObject_89 (fun x3 s2 => ?_)
        refine j_pop C dX4_readObject_92 rfl ?_
        refine j_iinc (L2 := fun x4 => [(0, .ref (adX X 31)), (1, .int x4)]) C dX4_readObject_93 1 rfl (by decide) [1, 0] (fun _ => rfl) (fun x4 => ?_)
        refine j_goto (tgt := 56) C dX4_readObject_96 (by decide) ?_
        exact hk56 x4 s2
theorem lb_X4_readObject_56 {X : CtxT Mem} (C : Cx YC X 2 cX4_readObject RX4 none rm_X4_readObject) (CR : CRn YC X)  : ∀ (n : Nat) (l1 : Int32) (s : Mem), J YC X 2 (itr1 (b_X4_readObject_56) n l1 s) 56 [(0, .ref (adX X 31)), (1, .int l1)] [] s := by
  intro n
  induction n with
  | zero => intros; exact j_none
  | succ n ih =>
    intro l1 s
    exact jb_X4_readObject_56 C CR  n _ ih l1 s
set_option maxHeartbeats 4000000 in
theorem c_X4_readObject (n : Nat)  (s : Mem) : CTn YC yX4_readObject cX4_readObject 2 none rm_X4_readObject (fun ad => [.ref (ad 31)]) s (f_X4_readObject n  s) := by
  refine CTn_of (by decide) (fun _ => Nat.le_of_ble_eq_true rfl) (fun X C CR => ?_)
  show J YC X 2 (f_X4_readObject n  s) 0 [(0, .ref (adX X 31))] [] s
  unfold f_X4_readObject
  refine j_aload_n C dX4_readObject_0 0 rfl rfl ?_
  refine j_aload_n C dX4_readObject_1 0 rfl rfl ?_
  refine j_getA C kX4 kc_31 lc_31 2 (by decide) tw_214 rc_4_2 dX4_readObject_2 ?_
  refine j_getR (z := 10) C kX3 kc_1 lc_1 3 (by decide) tw_185 rc_3_3 rfl dX4_readObject_5 ?_
  refine j_callVn C (c_X4_takeNumber n 10 io_2_10 s) cw_RX4_83 ⟨rfl, rfl, Nat.le_of_ble_eq_true rfl, Nat.le_of_ble_eq_true rfl⟩ 31 kX4 kc_31 lc_31 [.ref (adX X 10)] [] rfl rfl rfl (Nat.le_of_ble_eq_true rfl) dX4_readObject_8 (fun s1 => ?_)
  refine j_aload_n C dX4_readObject_11 0 rfl rfl ?_
  refine j_iconst (v := (0 : Int32)) C dX4_readObject_12 (by decide) ?_
  refine j_bipush (v := (20 : Int32)) C dX4_readObject_13 (by decide) ?_
  refine j_callVi C (c_X4_take n (0 : Int32) (20 : Int32) s1) cw_RX4_87 ⟨rfl, rfl, Nat.le_of_ble_eq_true rfl, Nat.le_of_ble_eq_true rfl⟩ 31 kX4 kc_31 lc_31 [.int (0 : Int32), .int (20 : Int32)] [] rfl rfl rfl (Nat.le_of_ble_eq_true rfl) dX4_readObject_15 (fun x3 s2 => ?_)
  refine j_pop C dX4_readObject_18 rfl ?_
  refine j_aload_n C dX4_readObject_19 0 rfl rfl ?_
  refine j_iconst (v := (0 : Int32)) C dX4_readObject_20 (by decide) ?_
  refine j_sipush (v := (255 : Int32)) C dX4_readObject_21 (by decide) ?_
  refine j_callVi C (c_X4_take n (0 : Int32) (255 : Int32) s2) cw_RX4_87 ⟨rfl, rfl, Nat.le_of_ble_eq_true rfl, Nat.le_of_ble_eq_true rfl⟩ 31 kX4 kc_31 lc_31 [.int (0 : Int32), .int (255 : Int32)] [] rfl rfl rfl (Nat.le_of_ble_eq_true rfl) dX4_readObject_24 (fun x5 s4 => ?_)
  refine j_pop C dX4_readObject_27 rfl ?_
  refine j_aload_n C dX4_readObject_28 0 rfl rfl ?_
  refine j_iconst (v := (0 : Int32)) C dX4_readObject_29 (by decide) ?_
  refine j_sipush (v := (255 : Int32)) C dX4_readObject_30 (by decide) ?_
  refine j_callVi C (c_X4_take n (0 : Int32) (255 : Int32) s4) cw_RX4_87 ⟨rfl, rfl, Nat.le_of_ble_eq_true rfl, Nat.le_of_ble_eq_true rfl⟩ 31 kX4 kc_31 lc_31 [.int (0 : Int32), .int (255 : Int32)] [] rfl rfl rfl (Nat.le_of_ble_eq_true rfl) dX4_readObject_33 (fun x7 s6 => ?_)
  refine j_pop C dX4_readObject_36 rfl ?_
  refine j_aload_n C dX4_readObject_37 0 rfl rfl ?_
  refine j_iconst (v := (0 : Int32)) C dX4_readObject_38 (by decide) ?_
  refine j_sipush (v := (255 : Int32)) C dX4_readObject_39 (by decide) ?_
  refine j_callVi C (c_X4_take n (0 : Int32) (255 : Int32) s6) cw_RX4_87 ⟨rfl, rfl, Nat.le_of_ble_eq_true rfl, Nat.le_of_ble_eq_true rfl⟩ 31 kX4 kc_31 lc_31 [.int (0 : Int32), .int (255 : Int32)] [] rfl rfl rfl (Nat.le_of_ble_eq_true rfl) dX4_readObject_42 (fun x9 s8 => ?_)
  refine j_pop C dX4_readObject_45 rfl ?_
  refine j_aload_n C dX4_readObject_46 0 rfl rfl ?_
  refine j_getR (z := 32) C kX4 kc_31 lc_31 3 (by decide) tw_215 rc_4_3 rfl dX4_readObject_47 ?_
  refine j_iconst (v := (0 : Int32)) C dX4_readObject_50 (by decide) ?_
  refine j_callSn C (c_fill kc_32 lc_32 (by decide) (0 : Int32) s8) cw_RX4_97 ⟨rfl, rfl, Nat.le_of_ble_eq_true rfl, Nat.le_of_ble_eq_true rfl⟩ [.ref (adX X 32), .int (0 : Int32)] [] rfl rfl rfl (Nat.le_of_ble_eq_true rfl) dX4_readObject_51 (fun s10 => ?_)
  refine j_iconst (v := (0 : Int32)) C dX4_readObject_54 (by decide) ?_
  refine j_istore_n (L' := [(0, .ref (adX X 31)), (1, .int (0 : Int32))]) C dX4_readObject_55 rfl (by decide) [1, 0] rfl ?_
  exact lb_X4_readObject_56 C CR  n (0 : Int32) s10
set_option maxHeartbeats 4000000 in
theorem jb_X4_readRoom_21 {X : CtxT Mem} (C : Cx YC X 5 cX4_readRoom RX4 none rm_X4_readRoom) (CR : CRn YC X)  (n : Nat) (k21 : Int32 → Int32 → Mem → Option Mem) (hk21 : ∀ (l1 : Int32) (l2 : Int32) (s : Mem), J YC X 5 (k21 l1 l2 s) 21 [(0, .ref (adX X 31)), (1, .int l1), (2, .int l2)] [] s) (l1 : Int32) (l2 : Int32) (s : Mem) : J YC X 5 (b_X4_readRoom_21  n k21 l1 l2 s) 21 [(0, .ref (adX X 31)), (1, .int l1), (2, .int l2)] [] s := by
  unfold b_X4_readRoom_21
  refine j_iload_n C dX4_readRoom_21 2 rfl rfl ?_
  refine j_iload_n C dX4_readRoom_22 1 rfl rfl ?_
  refine j_icmp_ge (tgt := 77) C dX4_readRoom_23 (by decide) ?_ ?_
  · exact j_vret C CR dX4_readRoom_77
  · refine j_aload_n C dX4_readRoom_26 0 rfl rfl ?_
    refine j_iconst (v := (0 : Int32)) C dX4_readRoom_27 (by decide) ?_
    refine j_sipush (v := (255 : Int32)) C dX4_readRoom_28 (by decide) ?_
    refine j_callVi C (c_X4_take n (0 : Int32) (255 : Int32) s) cw_RX4_87 ⟨rfl, rfl, Nat.le_of_ble_eq_true rfl, Nat.le_of_ble_eq_true rfl⟩ 31 kX4 kc_31 lc_31 [.int (0 : Int32), .int (255 : Int32)] [] rfl rfl rfl (Nat.le_of_ble_eq_true rfl) dX4_readRoom_31 (fun x2 s1 => ?_)
    refine j_istore_n (L' := [(0, .ref (adX X 31)), (1, .int l1), (2, .int l2), (3, .int x2)]) C dX4_readRoom_34 rfl (by decide) [1, 2, 3, 0] rfl ?_
    refine j_aload_n C dX4_readRoom_35 0 rfl rfl ?_
    refine j_iconst (v := (0 : Int32)) C dX4_readRoom_36 (by decide) ?_
    refine j_sipush (v := (255 : Int32)) C dX4_readRoom_37 (by decide) ?_
    refine j_callVi C (c_X4_take n (0 : Int32) (255 : Int32) s1) cw_RX4_87 ⟨rfl, rfl, Nat.le_of_ble_eq_true rfl, Nat.le_of_ble_eq_true rfl⟩ 31 kX4 kc_31 lc_31 [.int (0 : Int32), .int (255 : Int32)] [] rfl rfl rfl (Nat.le_of_ble_eq_true rfl) dX4_readRoom_40 (fun x4 s3 => ?_)
    refine j_istore (L' := [(0, .ref (adX X 31)), (1, .int l1), (2, .int l2), (3, .int x2), (4, .int x4)]) C dX4_readRoom_43 (by decide) [1, 2, 3, 4, 0] rfl ?_
    refine j_aload_n C dX4_readRoom_45 0 rfl rfl ?_
    refine j_iload_n C dX4_readRoom_46 3 rfl rfl ?_
    refine j_sipush (v := (255 : Int32)) C dX4_readRoom_47 (by decide) ?_
    refine j_callVi C (c_X4_take n x2 (255 : Int32) s3) cw_RX4_87 ⟨rfl, rfl, Nat.le_of_ble_eq_true rfl, Nat.le_of_ble_eq_true rfl⟩ 31 kX4 kc_31 lc_31 [.int x2, .int (255 : Int32)] [] rfl rfl rfl (Nat.le_of_ble_eq_true rfl) dX4_readRoom_50 (fun x6 s5 => ?_)
    refine j_pop C dX4_readRoom_53 rfl ?_
    refine j_aload_n C dX4_readRoom_54 0 rfl rfl ?_
    refine j_iload C dX4_readRoom_55 4 rfl ?_
    refine j_sipush (v := (255 : Int32)) C dX4_readRoom_57 (by decide) ?_
    refine j_callVi C (c_X4_take n x4 (255 : Int32) s5) cw_RX4_87 ⟨rfl, rfl, Nat.le_of_ble_eq_true rfl, Nat.le_of_ble_eq_true rfl⟩ 31 kX4 kc_31 lc_31 [.int x4, .int (255 : Int32)] [] rfl rfl rfl (Nat.le_of_ble_eq_true rfl) dX4_readRoom_60 (fun x8 s7 => ?_)
    refine j_pop C dX4_readRoom_63 rfl ?_
    refine j_aload_n C dX4_readRoom_64 0 rfl rfl ?_
    refine j_iconst (v := (0 : Int32)) C dX4_readRoom_65 (by decide) ?_
    refine j_iconst (v := (1 : Int32)) C dX4_readRoom_66 (by decide) ?_
    refine j_callVi C (c_X4_take n (0 : Int32) (1 : Int32) s7) cw_RX4_87 ⟨rfl, rfl, Nat.le_of_ble_eq_true rfl, Nat.le_of_ble_eq_true rfl⟩ 31 kX4 kc_31 lc_31 [.int (0 : Int32), .int (1 : Int32)] [] rfl rfl rfl (Nat.le_of_ble_eq_true rfl) dX4_readRoom_67 (fun x10 s9 => ?_)
    refine j_pop C dX4_readRoom_70 rfl ?_
    refine j_iinc (L2 := fun x11 => [(0, .ref (adX X 31)), (1, .int l1), (2, .int x11), (3, .int x2), (4, .int x4)]) C dX4_readRoom_71 2 rfl (by decide) [1, 2, 0, 3, 4] (fun _ => rfl) (fun x11 => ?_)
    refine j_goto (tgt := 21) C dX4_readRoom_74 (by decide) ?_
    refine j_sub (L' := [(0, .ref (adX X 31)), (1, .int l1), (2, .int x11)]) [0, 1, 2] rfl ?_
    exact hk21 l1 x11 s9
theorem lb_X4_readRoom_21 {X : CtxT Mem} (C : Cx YC X 5 cX4_readRoom RX4 none rm_X4_readRoom) (CR : CRn YC X)  : ∀ (n : Nat) (l1 : Int32) (l2 : Int32) (s : Mem), J YC X 5 (itr2 (b_X4_readRoom_21) n l1 l2 s) 21 [(0, .ref (adX X 31)), (1, .int l1), (2, .int l2)] [] s := by
  intro n
  induction n with
  | zero => intros; exact j_none
  | succ n ih =>
    intro l1 l2 s
    exact jb_X4_readRoom_21 C CR  n _ ih l1 l2 s
set_option maxHeartbeats 4000000 in
theorem c_X4_readRoom (n : Nat)  (s : Mem) : CTn YC yX4_readRoom cX4_readRoom 5 none rm_X4_readRoom (fun ad => [.ref (ad 31)]) s (f_X4_readRoom n  s) := by
  refine CTn_of (by decide) (fun _ => Nat.le_of_ble_eq_true rfl) (fun X C CR => ?_)
  show J YC X 5 (f_X4_readRoom n  s) 0 [(0, .ref (adX X 31))] [] s
  unfold f_X4_readRoom
  refine j_aload_n C dX4_readRoom_0 0 rfl rfl ?_
  refine j_aload_n C dX4_readRoom_1 0 rfl rfl ?_
  refine j_getA C kX4 kc_31 lc_31 2 (by decide) tw_214 rc_4_2 dX4_readRoom_2 ?_
  refine j_getR (z := 4) C kX3 kc_1 lc_1 1 (by decide) tw_178 rc_3_1 rfl dX4_readRoom_5 ?_
  refine j_callVn C (c_X4_takeNumber n 4 io_2_4 s) cw_RX4_83 ⟨rfl, rfl, Nat.le_of_ble_eq_true rfl, Nat.le_of_ble_eq_true rfl⟩ 31 kX4 kc_31 lc_31 [.ref (adX X 4)] [] rfl rfl rfl (Nat.le_of_ble_eq_true rfl) dX4_readRoom_8 (fun s1 => ?_)
  refine j_aload_n C dX4_readRoom_11 0 rfl rfl ?_
  refine j_iconst (v := (0 : Int32)) C dX4_readRoom_12 (by decide) ?_
  refine j_bipush (v := (16 : Int32)) C dX4_readRoom_13 (by decide) ?_
  refine j_callVi C (c_X4_take n (0 : Int32) (16 : Int32) s1) cw_RX4_87 ⟨rfl, rfl, Nat.le_of_ble_eq_true rfl, Nat.le_of_ble_eq_true rfl⟩ 31 kX4 kc_31 lc_31 [.int (0 : Int32), .int (16 : Int32)] [] rfl rfl rfl (Nat.le_of_ble_eq_true rfl) dX4_readRoom_15 (fun x3 s2 => ?_)
  refine j_istore_n (L' := [(0, .ref (adX X 31)), (1, .int x3)]) C dX4_readRoom_18 rfl (by decide) [1, 0] rfl ?_
  refine j_iconst (v := (0 : Int32)) C dX4_readRoom_19 (by decide) ?_
  refine j_istore_n (L' := [(0, .ref (adX X 31)), (1, .int x3), (2, .int (0 : Int32))]) C dX4_readRoom_20 rfl (by decide) [1, 2, 0] rfl ?_
  exact lb_X4_readRoom_21 C CR  n x3 (0 : Int32) s2
set_option maxHeartbeats 4000000 in
theorem jb_X4_readScript_35 {X : CtxT Mem} (C : Cx YC X 1 cX4_readScript RX4 none rm_X4_readScript) (CR : CRn YC X)  (n : Nat)   (s : Mem) : J YC X 1 (b_X4_readScript_35  n   s) 35 [] [] s := by
  unfold b_X4_readScript_35
  exact j_vret C CR dX4_readScript_35
set_option maxHeartbeats 4000000 in
theorem c_X4_readScript (n : Nat)  (s : Mem) : CTn YC yX4_readScript cX4_readScript 1 none rm_X4_readScript (fun ad => [.ref (ad 31)]) s (f_X4_readScript n  s) := by
  refine CTn_of (by decide) (fun _ => Nat.le_of_ble_eq_true rfl) (fun X C CR => ?_)
  show J YC X 1 (f_X4_readScript n  s) 0 [(0, .ref (adX X 31))] [] s
  unfold f_X4_readScript
  refine j_aload_n C dX4_readScript_0 0 rfl rfl ?_
  refine j_aload_n C dX4_readScript_1 0 rfl rfl ?_
  refine j_getA C kX4 kc_31 lc_31 2 (by decide) tw_214 rc_4_2 dX4_readScript_2 ?_
  refine j_getR (z := 7) C kX3 kc_1 lc_1 2 (by decide) tw_182 rc_3_2 rfl dX4_readScript_5 ?_
  refine j_callVn C (c_X4_takeNumber n 7 io_2_7 s) cw_RX4_83 ⟨rfl, rfl, Nat.le_of_ble_eq_true rfl, Nat.le_of_ble_eq_true rfl⟩ 31 kX4 kc_31 lc_31 [.ref (adX X 7)] [] rfl rfl rfl (Nat.le_of_ble_eq_true rfl) dX4_readScript_8 (fun s1 => ?_)
  refine j_aload_n C dX4_readScript_11 0 rfl rfl ?_
  refine j_iconst (v := (0 : Int32)) C dX4_readScript_12 (by decide) ?_
  refine j_sipush (v := (255 : Int32)) C dX4_readScript_13 (by decide) ?_
  refine j_callVi C (c_X4_take n (0 : Int32) (255 : Int32) s1) cw_RX4_87 ⟨rfl, rfl, Nat.le_of_ble_eq_true rfl, Nat.le_of_ble_eq_true rfl⟩ 31 kX4 kc_31 lc_31 [.int (0 : Int32), .int (255 : Int32)] [] rfl rfl rfl (Nat.le_of_ble_eq_true rfl) dX4_readScript_16 (fun x3 s2 => ?_)
  refine j_pop C dX4_readScript_19 rfl ?_
  refine j_aload_n C dX4_readScript_20 0 rfl rfl ?_
  refine j_get C kX4 kc_31 lc_31 0 (by decide) tw_210 rc_4_0 dX4_readScript_21 ?_
  refine j_if_ne (tgt := 35) C dX4_readScript_24 (by decide) ?_ ?_
  · refine j_sub (L' := []) [] rfl ?_
    exact jb_X4_readScript_35 C CR  n s2
  · refine j_aload_n C dX4_readScript_27 0 rfl rfl ?_
    refine j_aload_n C dX4_readScript_28 0 rfl rfl ?_
    refine j_get C kX4 kc_31 lc_31 5 (by decide) tw_217 rc_4_5 dX4_readScript_29 ?_
    refine j_put C kX4 kc_31 lc_31 4 (by decide) tw_216 rc_4_4 rfl rfl dX4_readScript_32 (fun s4 => ?_)
    refine j_sub (L' := []) [] rfl ?_
    exact jb_X4_readScript_35 C CR  n s4
set_option maxHeartbeats 4000000 in
theorem jb_X4_readBlock_101 {X : CtxT Mem} (C : Cx YC X 2 cX4_readBlock RX4 none rm_X4_readBlock) (CR : CRn YC X)  (n : Nat)   (s : Mem) : J YC X 2 (b_X4_readBlock_101  n   s) 101 [] [] s := by
  unfold b_X4_readBlock_101
  exact j_vret C CR dX4_readBlock_101
set_option maxHeartbeats 4000000 in
theorem jb_X4_readBlock_85 {X : CtxT Mem} (C : Cx YC X 2 cX4_readBlock RX4 none rm_X4_readBlock) (CR : CRn YC X)  (n : Nat)   (s : Mem) : J YC X 2 (b_X4_readBlock_85  n   s) 85 [(0, .ref (adX X 31))] [] s := by
  unfold b_X4_readBlock_85
  refine j_aload_n C dX4_readBlock_85 0 rfl rfl ?_
  refine j_get C kX4 kc_31 lc_31 4 (by decide) tw_216 rc_4_4 dX4_readBlock_86 ?_
  refine j_aload_n C dX4_readBlock_89 0 rfl rfl ?_
  refine j_get C kX4 kc_31 lc_31 5 (by decide) tw_217 rc_4_5 dX4_readBlock_90 ?_
  refine j_icmp_ge (tgt := 101) C dX4_readBlock_93 (by decide) ?_ ?_
  · refine j_sub (L' := []) [] rfl ?_
    exact jb_X4_readBlock_101 C CR  n s
  · refine j_aload_n C dX4_readBlock_96 0 rfl rfl ?_
    refine j_iconst (v := (4 : Int32)) C dX4_readBlock_97 (by decide) ?_
    refine j_callVn C (c_X4_fail n (4 : Int32) s) cw_RX4_56 ⟨rfl, rfl, Nat.le_of_ble_eq_true rfl, Nat.le_of_ble_eq_true rfl⟩ 31 kX4 kc_31 lc_31 [.int (4 : Int32)] [] rfl rfl rfl (Nat.le_of_ble_eq_true rfl) dX4_readBlock_98 (fun s1 => ?_)
    refine j_sub (L' := []) [] rfl ?_
    exact jb_X4_readBlock_101 C CR  n s1
set_option maxHeartbeats 4000000 in
theorem jb_X4_readBlock_81 {X : CtxT Mem} (C : Cx YC X 2 cX4_readBlock RX4 none rm_X4_readBlock) (CR : CRn YC X)  (n : Nat)   (s : Mem) : J YC X 2 (b_X4_readBlock_81  n   s) 81 [(0, .ref (adX X 31))] [] s := by
  unfold b_X4_readBlock_81
  refine j_aload_n C dX4_readBlock_81 0 rfl rfl ?_
  refine j_callVn C (c_X4_readActor n  s) cw_RX4_73 ⟨rfl, rfl, Nat.le_of_ble_eq_true rfl, Nat.le_of_ble_eq_true rfl⟩ 31 kX4 kc_31 lc_31 [] [] rfl rfl rfl (Nat.le_of_ble_eq_true rfl) dX4_readBlock_82 (fun s1 => ?_)
  exact jb_X4_readBlock_85 C CR  n s1
set_option maxHeartbeats 4000000 in
theorem c_X4_readBlock (n : Nat)  (s : Mem) : CTn YC yX4_readBlock cX4_readBlock 2 none rm_X4_readBlock (fun ad => [.ref (ad 31)]) s (f_X4_readBlock n  s) := by
  refine CTn_of (by decide) (fun _ => Nat.le_of_ble_eq_true rfl) (fun X C CR => ?_)
  show J YC X 2 (f_X4_readBlock n  s) 0 [(0, .ref (adX X 31))] [] s
  unfold f_X4_readBlock
  refine j_aload_n C dX4_readBlock_0 0 rfl rfl ?_
  refine j_getA C kX4 kc_31 lc_31 2 (by decide) tw_214 rc_4_2 dX4_readBlock_1 ?_
  refine j_getR (z := 2) C kX3 kc_1 lc_1 0 (by decide) tw_175 rc_3_0 rfl dX4_readBlock_4 ?_
  refine j_aload_n C dX4_readBlock_7 0 rfl rfl ?_
  refine j_get C kX4 kc_31 lc_31 4 (by decide) tw_216 rc_4_4 dX4_readBlock_8 ?_
  refine j_callVi C (c_X8_at n 2 io_8_2 (s 31 4) s) cw_RX4_52 ⟨rfl, rfl, Nat.le_of_ble_eq_true rfl, Nat.le_of_ble_eq_true rfl⟩ 2 kX8 kc_2 lc_2 [.int (s 31 4)] [] rfl rfl rfl (Nat.le_of_ble_eq_true rfl) dX4_readBlock_11 (fun x2 s1 => ?_)
  refine j_istore_n (L' := [(0, .ref (adX X 31)), (1, .int x2)]) C dX4_readBlock_14 rfl (by decide) [1, 0] rfl ?_
  refine j_aload_n C dX4_readBlock_15 0 rfl rfl ?_
  refine j_iload_n C dX4_readBlock_16 1 rfl rfl ?_
  refine j_callVi C (c_X4_readHead n x2 s1) cw_RX4_60 ⟨rfl, rfl, Nat.le_of_ble_eq_true rfl, Nat.le_of_ble_eq_true rfl⟩ 31 kX4 kc_31 lc_31 [.int x2] [] rfl rfl rfl (Nat.le_of_ble_eq_true rfl) dX4_readBlock_17 (fun x4 s3 => ?_)
  refine j_if_ne (tgt := 24) C dX4_readBlock_20 (by decide) ?_ ?_
  · refine j_iload_n C dX4_readBlock_24 1 rfl rfl ?_
    refine j_ite (fun hc => ?_) (fun hc0 => ?_)
    · refine j_tswI (off := 49) (tgt := 74) C dX4_readBlock_25 (by rw [hc]; decide) (by rw [hc]; decide) (by rw [hc]; rfl) (by decide) ?_
      refine j_aload_n C dX4_readBlock_74 0 rfl rfl ?_
      refine j_callVn C (c_X4_readObject n  s3) cw_RX4_70 ⟨rfl, rfl, Nat.le_of_ble_eq_true rfl, Nat.le_of_ble_eq_true rfl⟩ 31 kX4 kc_31 lc_31 [] [] rfl rfl rfl (Nat.le_of_ble_eq_true rfl) dX4_readBlock_75 (fun s5 => ?_)
      refine j_goto (tgt := 85) C dX4_readBlock_78 (by decide) ?_
      refine j_sub (L' := [(0, .ref (adX X 31))]) [0] rfl ?_
      exact jb_X4_readBlock_85 C CR  n s5
    refine j_ite (fun hc => ?_) (fun hc1 => ?_)
    · refine j_tswI (off := 56) (tgt := 81) C dX4_readBlock_25 (by rw [hc]; decide) (by rw [hc]; decide) (by rw [hc]; rfl) (by decide) ?_
      refine j_sub (L' := [(0, .ref (adX X 31))]) [0] rfl ?_
      exact jb_X4_readBlock_81 C CR  n s3
    refine j_ite (fun hc => ?_) (fun hc2 => ?_)
    · refine j_tswI (off := 56) (tgt := 81) C dX4_readBlock_25 (by rw [hc]; decide) (by rw [hc]; decide) (by rw [hc]; rfl) (by decide) ?_
      refine j_sub (L' := [(0, .ref (adX X 31))]) [0] rfl ?_
      exact jb_X4_readBlock_81 C CR  n s3
    refine j_ite (fun hc => ?_) (fun hc3 => ?_)
    · refine j_tswI (off := 35) (tgt := 60) C dX4_readBlock_25 (by rw [hc]; decide) (by rw [hc]; decide) (by rw [hc]; rfl) (by decide) ?_
      refine j_aload_n C dX4_readBlock_60 0 rfl rfl ?_
      refine j_callVn C (c_X4_readRoom n  s3) cw_RX4_64 ⟨rfl, rfl, Nat.le_of_ble_eq_true rfl, Nat.le_of_ble_eq_true rfl⟩ 31 kX4 kc_31 lc_31 [] [] rfl rfl rfl (Nat.le_of_ble_eq_true rfl) dX4_readBlock_61 (fun s6 => ?_)
      refine j_goto (tgt := 85) C dX4_readBlock_64 (by decide) ?_
      refine j_sub (L' := [(0, .ref (adX X 31))]) [0] rfl ?_
      exact jb_X4_readBlock_85 C CR  n s6
    refine j_ite (fun hc => ?_) (fun hc4 => ?_)
    · refine j_tswI (off := 42) (tgt := 67) C dX4_readBlock_25 (by rw [hc]; decide) (by rw [hc]; decide) (by rw [hc]; rfl) (by decide) ?_
      refine j_aload_n C dX4_readBlock_67 0 rfl rfl ?_
      refine j_callVn C (c_X4_readScript n  s3) cw_RX4_67 ⟨rfl, rfl, Nat.le_of_ble_eq_true rfl, Nat.le_of_ble_eq_true rfl⟩ 31 kX4 kc_31 lc_31 [] [] rfl rfl rfl (Nat.le_of_ble_eq_true rfl) dX4_readBlock_68 (fun s7 => ?_)
      refine j_goto (tgt := 85) C dX4_readBlock_71 (by decide) ?_
      refine j_sub (L' := [(0, .ref (adX X 31))]) [0] rfl ?_
      exact jb_X4_readBlock_85 C CR  n s7
    refine j_tswO (tgt := 81) C dX4_readBlock_25 (by omega) (by decide) ?_
    refine j_sub (L' := [(0, .ref (adX X 31))]) [0] rfl ?_
    exact jb_X4_readBlock_81 C CR  n s3
  · exact j_vret C CR dX4_readBlock_23
set_option maxHeartbeats 4000000 in
theorem jb_X4_readMark_59 {X : CtxT Mem} (C : Cx YC X 2 cX4_readMark RX4 none rm_X4_readMark) (CR : CRn YC X) (k7 : Int32 → Mem → Option Mem) (hk7 : ∀ (l1 : Int32) (s : Mem), J YC X 2 (k7 l1 s) 7 [(0, .ref (adX X 31)), (1, .int l1)] [] s) (n : Nat)  (l1 : Int32) (s : Mem) : J YC X 2 (b_X4_readMark_59 k7 n  l1 s) 59 [(0, .ref (adX X 31)), (1, .int l1)] [] s := by
  unfold b_X4_readMark_59
  refine j_iinc (L2 := fun x1 => [(0, .ref (adX X 31)), (1, .int x1)]) C dX4_readMark_59 1 rfl (by decide) [1, 0] (fun _ => rfl) (fun x1 => ?_)
  refine j_goto (tgt := 7) C dX4_readMark_62 (by decide) ?_
  exact hk7 x1 s
set_option maxHeartbeats 4000000 in
theorem jb_X4_readMark_65 {X : CtxT Mem} (C : Cx YC X 2 cX4_readMark RX4 none rm_X4_readMark) (CR : CRn YC X)  (n : Nat)   (s : Mem) : J YC X 2 (b_X4_readMark_65  n   s) 65 [] [] s := by
  unfold b_X4_readMark_65
  exact j_vret C CR dX4_readMark_65
set_option maxHeartbeats 4000000 in
theorem jb_X4_readMark_7 {X : CtxT Mem} (C : Cx YC X 2 cX4_readMark RX4 none rm_X4_readMark) (CR : CRn YC X)  (n : Nat) (k7 : Int32 → Mem → Option Mem) (hk7 : ∀ (l1 : Int32) (s : Mem), J YC X 2 (k7 l1 s) 7 [(0, .ref (adX X 31)), (1, .int l1)] [] s) (l1 : Int32) (s : Mem) : J YC X 2 (b_X4_readMark_7  n k7 l1 s) 7 [(0, .ref (adX X 31)), (1, .int l1)] [] s := by
  unfold b_X4_readMark_7
  refine j_iload_n C dX4_readMark_7 1 rfl rfl ?_
  refine j_gets (f := tbM) C C.2.2.2.2.2.2.2.2.2.2.1.1 (by decide +kernel) dX4_readMark_8 (fun t_1 h_t_1 => ?_)
  refine j_tlen (v := (4 : Int32)) C h_t_1 rfl dX4_readMark_11 ?_
  refine j_icmp_ge (tgt := 65) C dX4_readMark_12 (by decide) ?_ ?_
  · refine j_sub (L' := []) [] rfl ?_
    exact jb_X4_readMark_65 C CR  n s
  · refine j_aload_n C dX4_readMark_15 0 rfl rfl ?_
    refine j_get C kX4 kc_31 lc_31 0 (by decide) tw_210 rc_4_0 dX4_readMark_16 ?_
    refine j_if_ne (tgt := 65) C dX4_readMark_19 (by decide) ?_ ?_
    · refine j_sub (L' := []) [] rfl ?_
      exact jb_X4_readMark_65 C CR  n s
    · refine j_aload_n C dX4_readMark_22 0 rfl rfl ?_
      refine j_getA C kX4 kc_31 lc_31 2 (by decide) tw_214 rc_4_2 dX4_readMark_23 ?_
      refine j_getR (z := 2) C kX3 kc_1 lc_1 0 (by decide) tw_175 rc_3_0 rfl dX4_readMark_26 ?_
      refine j_iload_n C dX4_readMark_29 1 rfl rfl ?_
      refine j_callVi C (c_X8_at n 2 io_8_2 l1 s) cw_RX4_52 ⟨rfl, rfl, Nat.le_of_ble_eq_true rfl, Nat.le_of_ble_eq_true rfl⟩ 2 kX8 kc_2 lc_2 [.int l1] [] rfl rfl rfl (Nat.le_of_ble_eq_true rfl) dX4_readMark_30 (fun x3 s2 => ?_)
      refine j_gets (f := tbM) C C.2.2.2.2.2.2.2.2.2.2.1.1 (by decide +kernel) dX4_readMark_33 (fun t_4 h_t_4 => ?_)
      refine j_iload_n C dX4_readMark_36 1 rfl rfl ?_
      refine j_tald C h_t_4 dX4_readMark_37 ?_
      refine j_icmp_ne (tgt := 54) C dX4_readMark_38 (by decide) ?_ ?_
      · refine j_aload_n C dX4_readMark_54 0 rfl rfl ?_
        refine j_iconst (v := (1 : Int32)) C dX4_readMark_55 (by decide) ?_
        refine j_callVn C (c_X4_fail n (1 : Int32) s2) cw_RX4_56 ⟨rfl, rfl, Nat.le_of_ble_eq_true rfl, Nat.le_of_ble_eq_true rfl⟩ 31 kX4 kc_31 lc_31 [.int (1 : Int32)] [] rfl rfl rfl (Nat.le_of_ble_eq_true rfl) dX4_readMark_56 (fun s5 => ?_)
        exact jb_X4_readMark_59 C CR k7 hk7 n l1 s5
      · refine j_aload_n C dX4_readMark_41 0 rfl rfl ?_
        refine j_dup C dX4_readMark_42 rfl ?_
        refine j_get C kX4 kc_31 lc_31 4 (by decide) tw_216 rc_4_4 dX4_readMark_43 ?_
        refine j_iconst (v := (1 : Int32)) C dX4_readMark_46 (by decide) ?_
        refine j_iadd C dX4_readMark_47 ?_
        refine j_put C kX4 kc_31 lc_31 4 (by decide) tw_216 rc_4_4 rfl rfl dX4_readMark_48 (fun s6 => ?_)
        refine j_goto (tgt := 59) C dX4_readMark_51 (by decide) ?_
        exact jb_X4_readMark_59 C CR k7 hk7 n l1 s6
theorem lb_X4_readMark_7 {X : CtxT Mem} (C : Cx YC X 2 cX4_readMark RX4 none rm_X4_readMark) (CR : CRn YC X)  : ∀ (n : Nat) (l1 : Int32) (s : Mem), J YC X 2 (itr1 (b_X4_readMark_7) n l1 s) 7 [(0, .ref (adX X 31)), (1, .int l1)] [] s := by
  intro n
  induction n with
  | zero => intros; exact j_none
  | succ n ih =>
    intro l1 s
    exact jb_X4_readMark_7 C CR  n _ ih l1 s
set_option maxHeartbeats 4000000 in
theorem c_X4_readMark (n : Nat)  (s : Mem) : CTn YC yX4_readMark cX4_readMark 2 none rm_X4_readMark (fun ad => [.ref (ad 31)]) s (f_X4_readMark n  s) := by
  refine CTn_of (by decide) (fun _ => Nat.le_of_ble_eq_true rfl) (fun X C CR => ?_)
  show J YC X 2 (f_X4_readMark n  s) 0 [(0, .ref (adX X 31))] [] s
  unfold f_X4_readMark
  refine j_aload_n C dX4_readMark_0 0 rfl rfl ?_
  refine j_iconst (v := (0 : Int32)) C dX4_readMark_1 (by decide) ?_
  refine j_put C kX4 kc_31 lc_31 4 (by decide) tw_216 rc_4_4 rfl rfl dX4_readMark_2 (fun s1 => ?_)
  refine j_iconst (v := (0 : Int32)) C dX4_readMark_5 (by decide) ?_
  refine j_istore_n (L' := [(0, .ref (adX X 31)), (1, .int (0 : Int32))]) C dX4_readMark_6 rfl (by decide) [1, 0] rfl ?_
  exact lb_X4_readMark_7 C CR  n (0 : Int32) s1
set_option maxHeartbeats 4000000 in
theorem jb_X4_read_76 {X : CtxT (Int32 × Mem)} (C : Cx YC X 2 cX4_read RX4 (some .int) rm_X4_read) (CR : CRi YC X)  (n : Nat)  (t0 : Int32) (s : Mem) : J YC X 2 (b_X4_read_76  n  t0 s) 76 [] [.int t0] s := by
  unfold b_X4_read_76
  exact j_iret C CR dX4_read_76
set_option maxHeartbeats 4000000 in
theorem jb_X4_read_64 {X : CtxT (Int32 × Mem)} (C : Cx YC X 2 cX4_read RX4 (some .int) rm_X4_read) (CR : CRi YC X)  (n : Nat)  (l1 : Int32) (s : Mem) : J YC X 2 (b_X4_read_64  n  l1 s) 64 [(0, .ref (adX X 31)), (1, .int l1)] [] s := by
  unfold b_X4_read_64
  refine j_aload_n C dX4_read_64 0 rfl rfl ?_
  refine j_get C kX4 kc_31 lc_31 0 (by decide) tw_210 rc_4_0 dX4_read_65 ?_
  refine j_if_ne (tgt := 75) C dX4_read_68 (by decide) ?_ ?_
  · refine j_iconst (v := (-1 : Int32)) C dX4_read_75 (by decide) ?_
    refine j_sub (L' := []) [] rfl ?_
    exact jb_X4_read_76 C CR  n (-1 : Int32) s
  · refine j_iload_n C dX4_read_71 1 rfl rfl ?_
    refine j_goto (tgt := 76) C dX4_read_72 (by decide) ?_
    refine j_sub (L' := []) [] rfl ?_
    exact jb_X4_read_76 C CR  n l1 s
set_option maxHeartbeats 4000000 in
theorem jb_X4_read_23 {X : CtxT (Int32 × Mem)} (C : Cx YC X 2 cX4_read RX4 (some .int) rm_X4_read) (CR : CRi YC X)  (n : Nat) (k23 : Int32 → Mem → Option (Int32 × Mem)) (hk23 : ∀ (l1 : Int32) (s : Mem), J YC X 2 (k23 l1 s) 23 [(0, .ref (adX X 31)), (1, .int l1)] [] s) (l1 : Int32) (s : Mem) : J YC X 2 (b_X4_read_23  n k23 l1 s) 23 [(0, .ref (adX X 31)), (1, .int l1)] [] s := by
  unfold b_X4_read_23
  refine j_iload_n C dX4_read_23 1 rfl rfl ?_
  refine j_sipush (v := (6000 : Int32)) C dX4_read_24 (by decide) ?_
  refine j_icmp_ge (tgt := 64) C dX4_read_27 (by decide) ?_ ?_
  · exact jb_X4_read_64 C CR  n l1 s
  · refine j_aload_n C dX4_read_30 0 rfl rfl ?_
    refine j_get C kX4 kc_31 lc_31 0 (by decide) tw_210 rc_4_0 dX4_read_31 ?_
    refine j_if_ne (tgt := 64) C dX4_read_34 (by decide) ?_ ?_
    · exact jb_X4_read_64 C CR  n l1 s
    · refine j_aload_n C dX4_read_37 0 rfl rfl ?_
      refine j_get C kX4 kc_31 lc_31 4 (by decide) tw_216 rc_4_4 dX4_read_38 ?_
      refine j_aload_n C dX4_read_41 0 rfl rfl ?_
      refine j_getA C kX4 kc_31 lc_31 2 (by decide) tw_214 rc_4_2 dX4_read_42 ?_
      refine j_getR (z := 2) C kX3 kc_1 lc_1 0 (by decide) tw_175 rc_3_0 rfl dX4_read_45 ?_
      refine j_get C kX8 kc_2 lc_2 1 (by decide) tw_145 rc_8_1 dX4_read_48 ?_
      refine j_icmp_ge (tgt := 64) C dX4_read_51 (by decide) ?_ ?_
      · exact jb_X4_read_64 C CR  n l1 s
      · refine j_aload_n C dX4_read_54 0 rfl rfl ?_
        refine j_callVn C (c_X4_readBlock n  s) cw_RX4_46 ⟨rfl, rfl, Nat.le_of_ble_eq_true rfl, Nat.le_of_ble_eq_true rfl⟩ 31 kX4 kc_31 lc_31 [] [] rfl rfl rfl (Nat.le_of_ble_eq_true rfl) dX4_read_55 (fun s1 => ?_)
        refine j_iinc (L2 := fun x2 => [(0, .ref (adX X 31)), (1, .int x2)]) C dX4_read_58 1 rfl (by decide) [1, 0] (fun _ => rfl) (fun x2 => ?_)
        refine j_goto (tgt := 23) C dX4_read_61 (by decide) ?_
        exact hk23 x2 s1
theorem lb_X4_read_23 {X : CtxT (Int32 × Mem)} (C : Cx YC X 2 cX4_read RX4 (some .int) rm_X4_read) (CR : CRi YC X)  : ∀ (n : Nat) (l1 : Int32) (s : Mem), J YC X 2 (itr1 (b_X4_read_23) n l1 s) 23 [(0, .ref (adX X 31)), (1, .int l1)] [] s := by
  intro n
  induction n with
  | zero => intros; exact j_none
  | succ n ih =>
    intro l1 s
    exact jb_X4_read_23 C CR  n _ ih l1 s
set_option maxHeartbeats 4000000 in
theorem c_X4_read (n : Nat)  (s : Mem) : CTi YC yX4_read cX4_read 2 (some .int) rm_X4_read (fun ad => [.ref (ad 31)]) s (f_X4_read n  s) := by
  refine CTi_of (by decide) (fun _ => Nat.le_of_ble_eq_true rfl) (fun X C CR => ?_)
  show J YC X 2 (f_X4_read n  s) 0 [(0, .ref (adX X 31))] [] s
  unfold f_X4_read
  refine j_aload_n C dX4_read_0 0 rfl rfl ?_
  refine j_iconst (v := (0 : Int32)) C dX4_read_1 (by decide) ?_
  refine j_put C kX4 kc_31 lc_31 0 (by decide) tw_210 rc_4_0 rfl rfl dX4_read_2 (fun s1 => ?_)
  refine j_aload_n C dX4_read_5 0 rfl rfl ?_
  refine j_iconst (v := (0 : Int32)) C dX4_read_6 (by decide) ?_
  refine j_put C kX4 kc_31 lc_31 1 (by decide) tw_212 rc_4_1 rfl rfl dX4_read_7 (fun s2 => ?_)
  refine j_aload_n C dX4_read_10 0 rfl rfl ?_
  refine j_getA C kX4 kc_31 lc_31 2 (by decide) tw_214 rc_4_2 dX4_read_11 ?_
  refine j_callVn C (c_X3_clear n 1 io_3_1 s2) cw_RX4_26 ⟨rfl, rfl, Nat.le_of_ble_eq_true rfl, Nat.le_of_ble_eq_true rfl⟩ 1 kX3 kc_1 lc_1 [] [] rfl rfl rfl (Nat.le_of_ble_eq_true rfl) dX4_read_14 (fun s3 => ?_)
  refine j_aload_n C dX4_read_17 0 rfl rfl ?_
  refine j_callVn C (c_X4_readMark n  s3) cw_RX4_31 ⟨rfl, rfl, Nat.le_of_ble_eq_true rfl, Nat.le_of_ble_eq_true rfl⟩ 31 kX4 kc_31 lc_31 [] [] rfl rfl rfl (Nat.le_of_ble_eq_true rfl) dX4_read_18 (fun s4 => ?_)
  refine j_iconst (v := (0 : Int32)) C dX4_read_21 (by decide) ?_
  refine j_istore_n (L' := [(0, .ref (adX X 31)), (1, .int (0 : Int32))]) C dX4_read_22 rfl (by decide) [1, 0] rfl ?_
  exact lb_X4_read_23 C CR  n (0 : Int32) s4
set_option maxHeartbeats 4000000 in
theorem c_X6_begin (n : Nat) (r0 : Nat) (h_r0 : isO 6 r0) (l1 : Int32) (l2 : Int32) (s : Mem) : CTn YC yX6_begin cX6_begin 3 none rm_X6_begin (fun ad => [.ref (ad r0), .int l1, .int l2]) s (f_X6_begin n r0 l1 l2 s) := by
  refine CTn_of (by decide) (fun _ => Nat.le_of_ble_eq_true rfl) (fun X C CR => ?_)
  show J YC X 3 (f_X6_begin n r0 l1 l2 s) 0 [(0, .ref (adX X r0)), (1, .int l1), (2, .int l2)] [] s
  unfold f_X6_begin
  refine j_aload_n C dX6_begin_0 0 rfl rfl ?_
  refine j_iload_n C dX6_begin_1 1 rfl rfl ?_
  refine j_put C kX6 (pk_6_0 _ h_r0) (pl_6_0 _ h_r0) 0 (by decide) tw_246 rc_6_0 rfl rfl dX6_begin_2 (fun s1 => ?_)
  refine j_aload_n C dX6_begin_5 0 rfl rfl ?_
  refine j_iload_n C dX6_begin_6 2 rfl rfl ?_
  refine j_putZ C kX6 (pk_6_0 _ h_r0) (pl_6_0 _ h_r0) 5 (by decide) tw_257 rc_6_5 rfl rfl dX6_begin_7 (fun s2 => ?_)
  exact j_vret C CR dX6_begin_10
set_option maxHeartbeats 4000000 in
theorem jb_X6_runs_12 {X : CtxT (Int32 × Mem)} (C : Cx YC X 1 cX6_runs RX6 (some .boolean) rm_X6_runs) (CR : CRi YC X)  (n : Nat)  (t0 : Int32) (s : Mem) : J YC X 1 (b_X6_runs_12  n  t0 s) 12 [] [.int t0] s := by
  unfold b_X6_runs_12
  exact j_zret C CR dX6_runs_12
set_option maxHeartbeats 4000000 in
theorem c_X6_runs (n : Nat) (r0 : Nat) (h_r0 : isO 6 r0) (s : Mem) : CTi YC yX6_runs cX6_runs 1 (some .boolean) rm_X6_runs (fun ad => [.ref (ad r0)]) s (f_X6_runs n r0 s) := by
  refine CTi_of (by decide) (fun _ => Nat.le_of_ble_eq_true rfl) (fun X C CR => ?_)
  show J YC X 1 (f_X6_runs n r0 s) 0 [(0, .ref (adX X r0))] [] s
  unfold f_X6_runs
  refine j_aload_n C dX6_runs_0 0 rfl rfl ?_
  refine j_get C kX6 (pk_6_0 _ h_r0) (pl_6_0 _ h_r0) 0 (by decide) tw_246 rc_6_0 dX6_runs_1 ?_
  refine j_if_eq (tgt := 11) C dX6_runs_4 (by decide) ?_ ?_
  · refine j_iconst (v := (0 : Int32)) C dX6_runs_11 (by decide) ?_
    refine j_sub (L' := []) [] rfl ?_
    exact jb_X6_runs_12 C CR  n (0 : Int32) s
  · refine j_iconst (v := (1 : Int32)) C dX6_runs_7 (by decide) ?_
    refine j_goto (tgt := 12) C dX6_runs_8 (by decide) ?_
    refine j_sub (L' := []) [] rfl ?_
    exact jb_X6_runs_12 C CR  n (1 : Int32) s
set_option maxHeartbeats 4000000 in
theorem jb_X7_lowestFreeSlot_2 {X : CtxT (Int32 × Mem)} (C : Cx YC X 2 cX7_lowestFreeSlot RX7 (some .int) rm_X7_lowestFreeSlot) (CR : CRi YC X)  (n : Nat) (k2 : Nat → Int32 → Mem → Option (Int32 × Mem)) (hk2 : ∀ (r0 : Nat) (h_r0 : isO 7 r0) (l1 : Int32) (s : Mem), J YC X 2 (k2 r0 l1 s) 2 [(0, .ref (adX X r0)), (1, .int l1)] [] s) (r0 : Nat) (h_r0 : isO 7 r0) (l1 : Int32) (s : Mem) : J YC X 2 (b_X7_lowestFreeSlot_2  n k2 r0 l1 s) 2 [(0, .ref (adX X r0)), (1, .int l1)] [] s := by
  unfold b_X7_lowestFreeSlot_2
  refine j_iload_n C dX7_lowestFreeSlot_2 1 rfl rfl ?_
  refine j_bipush (v := (8 : Int32)) C dX7_lowestFreeSlot_3 (by decide) ?_
  refine j_icmp_ge (tgt := 28) C dX7_lowestFreeSlot_5 (by decide) ?_ ?_
  · refine j_iconst (v := (-1 : Int32)) C dX7_lowestFreeSlot_28 (by decide) ?_
    exact j_iret C CR dX7_lowestFreeSlot_29
  · refine j_aload_n C dX7_lowestFreeSlot_8 0 rfl rfl ?_
    refine j_getR (z := (r0 + 7)) C kX7 (pk_7_0 _ h_r0) (pl_7_0 _ h_r0) 12 (by decide) tw_347 rc_7_12 rfl dX7_lowestFreeSlot_9 ?_
    refine j_iload_n C dX7_lowestFreeSlot_12 1 rfl rfl ?_
    refine j_aald3 C (pk_7_7 _ h_r0) (pl_7_7 _ h_r0) dX7_lowestFreeSlot_13 (fun z1 e_z1 => ?_)
    have h_z1 : isO 6 z1 := (pe_7_7 _ h_r0 _ e_z1)
    refine j_callVi C (c_X6_runs n z1 h_z1 s) cw_RX7_117 ⟨rfl, rfl, Nat.le_of_ble_eq_true rfl, Nat.le_of_ble_eq_true rfl⟩ z1 kX6 (pk_6_0 _ h_z1) (pl_6_0 _ h_z1) [] [] rfl rfl rfl (Nat.le_of_ble_eq_true rfl) dX7_lowestFreeSlot_14 (fun x3 s2 => ?_)
    refine j_if_ne (tgt := 22) C dX7_lowestFreeSlot_17 (by decide) ?_ ?_
    · refine j_iinc (L2 := fun x4 => [(0, .ref (adX X r0)), (1, .int x4)]) C dX7_lowestFreeSlot_22 1 rfl (by decide) [1, 0] (fun _ => rfl) (fun x4 => ?_)
      refine j_goto (tgt := 2) C dX7_lowestFreeSlot_25 (by decide) ?_
      exact hk2 r0 h_r0 x4 s2
    · refine j_iload_n C dX7_lowestFreeSlot_20 1 rfl rfl ?_
      exact j_iret C CR dX7_lowestFreeSlot_21
theorem lb_X7_lowestFreeSlot_2 {X : CtxT (Int32 × Mem)} (C : Cx YC X 2 cX7_lowestFreeSlot RX7 (some .int) rm_X7_lowestFreeSlot) (CR : CRi YC X)  : ∀ (n : Nat) (r0 : Nat) (h_r0 : isO 7 r0) (l1 : Int32) (s : Mem), J YC X 2 (itr2 (b_X7_lowestFreeSlot_2) n r0 l1 s) 2 [(0, .ref (adX X r0)), (1, .int l1)] [] s := by
  intro n
  induction n with
  | zero => intros; exact j_none
  | succ n ih =>
    intro r0 h_r0 l1 s
    exact jb_X7_lowestFreeSlot_2 C CR  n _ ih r0 h_r0 l1 s
set_option maxHeartbeats 4000000 in
theorem c_X7_lowestFreeSlot (n : Nat) (r0 : Nat) (h_r0 : isO 7 r0) (s : Mem) : CTi YC yX7_lowestFreeSlot cX7_lowestFreeSlot 2 (some .int) rm_X7_lowestFreeSlot (fun ad => [.ref (ad r0)]) s (f_X7_lowestFreeSlot n r0 s) := by
  refine CTi_of (by decide) (fun _ => Nat.le_of_ble_eq_true rfl) (fun X C CR => ?_)
  show J YC X 2 (f_X7_lowestFreeSlot n r0 s) 0 [(0, .ref (adX X r0))] [] s
  unfold f_X7_lowestFreeSlot
  refine j_iconst (v := (0 : Int32)) C dX7_lowestFreeSlot_0 (by decide) ?_
  refine j_istore_n (L' := [(0, .ref (adX X r0)), (1, .int (0 : Int32))]) C dX7_lowestFreeSlot_1 rfl (by decide) [1, 0] rfl ?_
  exact lb_X7_lowestFreeSlot_2 C CR  n r0 h_r0 (0 : Int32) s
set_option maxHeartbeats 4000000 in
theorem c_X5_startScript (n : Nat) (l1 : Int32) (l2 : Int32) (s : Mem) : CTi YC yX5_startScript cX5_startScript 4 (some .int) rm_X5_startScript (fun ad => [.ref (ad 118), .int l1, .int l2]) s (f_X5_startScript n l1 l2 s) := by
  refine CTi_of (by decide) (fun _ => Nat.le_of_ble_eq_true rfl) (fun X C CR => ?_)
  show J YC X 4 (f_X5_startScript n l1 l2 s) 0 [(0, .ref (adX X 118)), (1, .int l1), (2, .int l2)] [] s
  unfold f_X5_startScript
  refine j_aload_n C dX5_startScript_0 0 rfl rfl ?_
  refine j_getA C kX5 kc_118 lc_118 0 (by decide) tw_444 rc_5_0 dX5_startScript_1 ?_
  refine j_getR (z := 22) C kX3 kc_16 lc_16 2 (by decide) tw_181 rc_3_2 rfl dX5_startScript_4 ?_
  refine j_iload_n C dX5_startScript_7 1 rfl rfl ?_
  refine j_callVi C (c_X2_has n 22 io_2_22 l1 s) cw_RX5_69 ⟨rfl, rfl, Nat.le_of_ble_eq_true rfl, Nat.le_of_ble_eq_true rfl⟩ 22 kX2 kc_22 lc_22 [.int l1] [] rfl rfl rfl (Nat.le_of_ble_eq_true rfl) dX5_startScript_8 (fun x2 s1 => ?_)
  refine j_if_ne (tgt := 16) C dX5_startScript_11 (by decide) ?_ ?_
  · refine j_aload_n C dX5_startScript_16 0 rfl rfl ?_
    refine j_getA C kX5 kc_118 lc_118 2 (by decide) tw_446 rc_5_2 dX5_startScript_17 ?_
    refine j_callVi C (c_X7_lowestFreeSlot n 33 io_7_33 s1) cw_RX5_75 ⟨rfl, rfl, Nat.le_of_ble_eq_true rfl, Nat.le_of_ble_eq_true rfl⟩ 33 kX7 kc_33 lc_33 [] [] rfl rfl rfl (Nat.le_of_ble_eq_true rfl) dX5_startScript_20 (fun x4 s3 => ?_)
    refine j_istore_n (L' := [(0, .ref (adX X 118)), (1, .int l1), (2, .int l2), (3, .int x4)]) C dX5_startScript_23 rfl (by decide) [1, 2, 3, 0] rfl ?_
    refine j_iload_n C dX5_startScript_24 3 rfl rfl ?_
    refine j_iconst (v := (-1 : Int32)) C dX5_startScript_25 (by decide) ?_
    refine j_icmp_ne (tgt := 44) C dX5_startScript_26 (by decide) ?_ ?_
    · refine j_aload_n C dX5_startScript_44 0 rfl rfl ?_
      refine j_getA C kX5 kc_118 lc_118 2 (by decide) tw_446 rc_5_2 dX5_startScript_45 ?_
      refine j_getR (z := 40) C kX7 kc_33 lc_33 12 (by decide) tw_348 rc_7_12 rfl dX5_startScript_48 ?_
      refine j_iload_n C dX5_startScript_51 3 rfl rfl ?_
      refine j_aald3 C kc_40 lc_40 dX5_startScript_52 (fun z5 e_z5 => ?_)
      have h_z5 : isO 6 z5 := (pe_7_7 _ io_7_33 _ e_z5)
      refine j_iload_n C dX5_startScript_53 1 rfl rfl ?_
      refine j_iload_n C dX5_startScript_54 2 rfl rfl ?_
      refine j_callVn C (c_X6_begin n z5 h_z5 l1 l2 s3) cw_RX5_82 ⟨rfl, rfl, Nat.le_of_ble_eq_true rfl, Nat.le_of_ble_eq_true rfl⟩ z5 kX6 (pk_6_0 _ h_z5) (pl_6_0 _ h_z5) [.int l1, .int l2] [] rfl rfl rfl (Nat.le_of_ble_eq_true rfl) dX5_startScript_55 (fun s6 => ?_)
      refine j_iload_n C dX5_startScript_58 3 rfl rfl ?_
      exact j_iret C CR dX5_startScript_59
    · refine j_aload_n C dX5_startScript_29 0 rfl rfl ?_
      refine j_getA C kX5 kc_118 lc_118 2 (by decide) tw_446 rc_5_2 dX5_startScript_30 ?_
      refine j_dup C dX5_startScript_33 rfl ?_
      refine j_get C kX7 kc_33 lc_33 4 (by decide) tw_327 rc_7_4 dX5_startScript_34 ?_
      refine j_iconst (v := (1 : Int32)) C dX5_startScript_37 (by decide) ?_
      refine j_iadd C dX5_startScript_38 ?_
      refine j_put C kX7 kc_33 lc_33 4 (by decide) tw_327 rc_7_4 rfl rfl dX5_startScript_39 (fun s7 => ?_)
      refine j_iconst (v := (-1 : Int32)) C dX5_startScript_42 (by decide) ?_
      exact j_iret C CR dX5_startScript_43
  · refine j_iconst (v := (-1 : Int32)) C dX5_startScript_14 (by decide) ?_
    exact j_iret C CR dX5_startScript_15
set_option maxHeartbeats 4000000 in
theorem c_X7_takeSentence (n : Nat) (r0 : Nat) (h_r0 : isO 7 r0) (s : Mem) : CTn YC yX7_takeSentence cX7_takeSentence 1 none rm_X7_takeSentence (fun ad => [.ref (ad r0)]) s (f_X7_takeSentence n r0 s) := by
  refine CTn_of (by decide) (fun _ => Nat.le_of_ble_eq_true rfl) (fun X C CR => ?_)
  show J YC X 1 (f_X7_takeSentence n r0 s) 0 [(0, .ref (adX X r0))] [] s
  unfold f_X7_takeSentence
  refine j_aload_n C dX7_takeSentence_0 0 rfl rfl ?_
  refine j_get C kX7 (pk_7_0 _ h_r0) (pl_7_0 _ h_r0) 5 (by decide) tw_329 rc_7_5 dX7_takeSentence_1 ?_
  refine j_if_gt (tgt := 8) C dX7_takeSentence_4 (by decide) ?_ ?_
  · refine j_aload_n C dX7_takeSentence_8 0 rfl rfl ?_
    refine j_getR (z := (r0 + 3)) C kX7 (pk_7_0 _ h_r0) (pl_7_0 _ h_r0) 8 (by decide) tw_337 rc_7_8 rfl dX7_takeSentence_9 ?_
    refine j_iconst (v := (0 : Int32)) C dX7_takeSentence_12 (by decide) ?_
    refine j_aload_n C dX7_takeSentence_13 0 rfl rfl ?_
    refine j_getR (z := (r0 + 1)) C kX7 (pk_7_0 _ h_r0) (pl_7_0 _ h_r0) 6 (by decide) tw_332 rc_7_6 rfl dX7_takeSentence_14 ?_
    refine j_iconst (v := (1 : Int32)) C dX7_takeSentence_17 (by decide) ?_
    refine j_iconst (v := (3 : Int32)) C dX7_takeSentence_18 (by decide) ?_
    refine j_copy C cw_RX7_104 ⟨Nat.le_of_ble_eq_true rfl, Nat.le_of_ble_eq_true rfl⟩ (pk_7_3 _ h_r0) (pl_7_3 _ h_r0) (pk_7_1 _ h_r0) (pl_7_1 _ h_r0) (Nat.le_of_ble_eq_true rfl) dX7_takeSentence_19 (fun s1 => ?_)
    refine j_aload_n C dX7_takeSentence_22 0 rfl rfl ?_
    refine j_dup C dX7_takeSentence_23 rfl ?_
    refine j_get C kX7 (pk_7_0 _ h_r0) (pl_7_0 _ h_r0) 5 (by decide) tw_329 rc_7_5 dX7_takeSentence_24 ?_
    refine j_iconst (v := (1 : Int32)) C dX7_takeSentence_27 (by decide) ?_
    refine j_isub C dX7_takeSentence_28 ?_
    refine j_put C kX7 (pk_7_0 _ h_r0) (pl_7_0 _ h_r0) 5 (by decide) tw_329 rc_7_5 rfl rfl dX7_takeSentence_29 (fun s2 => ?_)
    refine j_aload_n C dX7_takeSentence_32 0 rfl rfl ?_
    refine j_getR (z := (r0 + 3)) C kX7 (pk_7_0 _ h_r0) (pl_7_0 _ h_r0) 8 (by decide) tw_337 rc_7_8 rfl dX7_takeSentence_33 ?_
    refine j_iconst (v := (3 : Int32)) C dX7_takeSentence_36 (by decide) ?_
    refine j_aload_n C dX7_takeSentence_37 0 rfl rfl ?_
    refine j_getR (z := (r0 + 3)) C kX7 (pk_7_0 _ h_r0) (pl_7_0 _ h_r0) 8 (by decide) tw_337 rc_7_8 rfl dX7_takeSentence_38 ?_
    refine j_iconst (v := (0 : Int32)) C dX7_takeSentence_41 (by decide) ?_
    refine j_aload_n C dX7_takeSentence_42 0 rfl rfl ?_
    refine j_get C kX7 (pk_7_0 _ h_r0) (pl_7_0 _ h_r0) 5 (by decide) tw_329 rc_7_5 dX7_takeSentence_43 ?_
    refine j_iconst (v := (3 : Int32)) C dX7_takeSentence_46 (by decide) ?_
    refine j_imul C dX7_takeSentence_47 ?_
    refine j_copy C cw_RX7_104 ⟨Nat.le_of_ble_eq_true rfl, Nat.le_of_ble_eq_true rfl⟩ (pk_7_3 _ h_r0) (pl_7_3 _ h_r0) (pk_7_3 _ h_r0) (pl_7_3 _ h_r0) (Nat.le_of_ble_eq_true rfl) dX7_takeSentence_48 (fun s3 => ?_)
    exact j_vret C CR dX7_takeSentence_51
  · exact j_vret C CR dX7_takeSentence_7
set_option maxHeartbeats 4000000 in
theorem jb_X5_actOnSentence_53 {X : CtxT Mem} (C : Cx YC X 4 cX5_actOnSentence RX5 none rm_X5_actOnSentence) (CR : CRn YC X)  (n : Nat)  (l3 : Int32) (s : Mem) : J YC X 4 (b_X5_actOnSentence_53  n  l3 s) 53 [(0, .ref (adX X 118)), (3, .int l3)] [] s := by
  unfold b_X5_actOnSentence_53
  refine j_aload_n C dX5_actOnSentence_53 0 rfl rfl ?_
  refine j_iload_n C dX5_actOnSentence_54 1 rfl rfl ?_
  refine j_iconst (v := (1 : Int32)) C dX5_actOnSentence_55 (by decide) ?_
  refine j_callVi C (c_X5_startScript n l3 (1 : Int32) s) cw_RX5_95 ⟨rfl, rfl, Nat.le_of_ble_eq_true rfl, Nat.le_of_ble_eq_true rfl⟩ 118 kX5 kc_118 lc_118 [.int l3, .int (1 : Int32)] [] rfl rfl rfl (Nat.le_of_ble_eq_true rfl) dX5_actOnSentence_56 (fun x2 s1 => ?_)
  refine j_pop C dX5_actOnSentence_59 rfl ?_
  exact j_vret C CR dX5_actOnSentence_60
set_option maxHeartbeats 4000000 in
theorem c_X5_actOnSentence (n : Nat)  (s : Mem) : CTn YC yX5_actOnSentence cX5_actOnSentence 4 none rm_X5_actOnSentence (fun ad => [.ref (ad 118)]) s (f_X5_actOnSentence n  s) := by
  refine CTn_of (by decide) (fun _ => Nat.le_of_ble_eq_true rfl) (fun X C CR => ?_)
  show J YC X 4 (f_X5_actOnSentence n  s) 0 [(0, .ref (adX X 118))] [] s
  unfold f_X5_actOnSentence
  refine j_aload_n C dX5_actOnSentence_0 0 rfl rfl ?_
  refine j_getA C kX5 kc_118 lc_118 2 (by decide) tw_446 rc_5_2 dX5_actOnSentence_1 ?_
  refine j_callVn C (c_X7_takeSentence n 33 io_7_33 s) cw_RX5_88 ⟨rfl, rfl, Nat.le_of_ble_eq_true rfl, Nat.le_of_ble_eq_true rfl⟩ 33 kX7 kc_33 lc_33 [] [] rfl rfl rfl (Nat.le_of_ble_eq_true rfl) dX5_actOnSentence_4 (fun s1 => ?_)
  refine j_aload_n C dX5_actOnSentence_7 0 rfl rfl ?_
  refine j_getA C kX5 kc_118 lc_118 2 (by decide) tw_446 rc_5_2 dX5_actOnSentence_8 ?_
  refine j_getR (z := 34) C kX7 kc_33 lc_33 6 (by decide) tw_333 rc_7_6 rfl dX5_actOnSentence_11 ?_
  refine j_iconst (v := (1 : Int32)) C dX5_actOnSentence_14 (by decide) ?_
  refine j_iald C kc_34 lc_34 dX5_actOnSentence_15 ?_
  refine j_istore_n (L' := [(0, .ref (adX X 118)), (1, .int (s1 34 (1 : Int32).toNatClampNeg))]) C dX5_actOnSentence_16 rfl (by decide) [1, 0] rfl ?_
  refine j_aload_n C dX5_actOnSentence_17 0 rfl rfl ?_
  refine j_getA C kX5 kc_118 lc_118 2 (by decide) tw_446 rc_5_2 dX5_actOnSentence_18 ?_
  refine j_getR (z := 34) C kX7 kc_33 lc_33 6 (by decide) tw_333 rc_7_6 rfl dX5_actOnSentence_21 ?_
  refine j_iconst (v := (2 : Int32)) C dX5_actOnSentence_24 (by decide) ?_
  refine j_iald C kc_34 lc_34 dX5_actOnSentence_25 ?_
  refine j_istore_n (L' := [(0, .ref (adX X 118)), (1, .int (s1 34 (1 : Int32).toNatClampNeg)), (2, .int (s1 34 (2 : Int32).toNatClampNeg))]) C dX5_actOnSentence_26 rfl (by decide) [1, 2, 0] rfl ?_
  refine j_aload_n C dX5_actOnSentence_27 0 rfl rfl ?_
  refine j_getA C kX5 kc_118 lc_118 0 (by decide) tw_444 rc_5_0 dX5_actOnSentence_28 ?_
  refine j_iload_n C dX5_actOnSentence_31 2 rfl rfl ?_
  refine j_iload_n C dX5_actOnSentence_32 1 rfl rfl ?_
  refine j_callVi C (c_X3_scriptFor n 16 io_3_16 (s1 34 (2 : Int32).toNatClampNeg) (s1 34 (1 : Int32).toNatClampNeg) s1) cw_RX5_91 ⟨rfl, rfl, Nat.le_of_ble_eq_true rfl, Nat.le_of_ble_eq_true rfl⟩ 16 kX3 kc_16 lc_16 [.int (s1 34 (2 : Int32).toNatClampNeg), .int (s1 34 (1 : Int32).toNatClampNeg)] [] rfl rfl rfl (Nat.le_of_ble_eq_true rfl) dX5_actOnSentence_33 (fun x3 s2 => ?_)
  refine j_istore_n (L' := [(0, .ref (adX X 118)), (1, .int (s1 34 (1 : Int32).toNatClampNeg)), (2, .int (s1 34 (2 : Int32).toNatClampNeg)), (3, .int x3)]) C dX5_actOnSentence_36 rfl (by decide) [1, 2, 3, 0] rfl ?_
  refine j_iload_n C dX5_actOnSentence_37 3 rfl rfl ?_
  refine j_if_ne (tgt := 53) C dX5_actOnSentence_38 (by decide) ?_ ?_
  · refine j_sub (L' := [(0, .ref (adX X 118)), (3, .int x3)]) [0, 3] rfl ?_
    exact jb_X5_actOnSentence_53 C CR  n x3 s2
  · refine j_aload_n C dX5_actOnSentence_41 0 rfl rfl ?_
    refine j_getA C kX5 kc_118 lc_118 0 (by decide) tw_444 rc_5_0 dX5_actOnSentence_42 ?_
    refine j_iload_n C dX5_actOnSentence_45 2 rfl rfl ?_
    refine j_sipush (v := (255 : Int32)) C dX5_actOnSentence_46 (by decide) ?_
    refine j_callVi C (c_X3_scriptFor n 16 io_3_16 (s1 34 (2 : Int32).toNatClampNeg) (255 : Int32) s2) cw_RX5_91 ⟨rfl, rfl, Nat.le_of_ble_eq_true rfl, Nat.le_of_ble_eq_true rfl⟩ 16 kX3 kc_16 lc_16 [.int (s1 34 (2 : Int32).toNatClampNeg), .int (255 : Int32)] [] rfl rfl rfl (Nat.le_of_ble_eq_true rfl) dX5_actOnSentence_49 (fun x5 s4 => ?_)
    refine j_istore_n (L' := [(0, .ref (adX X 118)), (1, .int (s1 34 (1 : Int32).toNatClampNeg)), (2, .int (s1 34 (2 : Int32).toNatClampNeg)), (3, .int x5)]) C dX5_actOnSentence_52 rfl (by decide) [1, 2, 3, 0] rfl ?_
    refine j_sub (L' := [(0, .ref (adX X 118)), (3, .int x5)]) [0, 3] rfl ?_
    exact jb_X5_actOnSentence_53 C CR  n x5 s4
set_option maxHeartbeats 4000000 in
theorem jb_X5_comesToOrders_14 {X : CtxT (Int32 × Mem)} (C : Cx YC X 2 cX5_comesToOrders RX5 (some .boolean) rm_X5_comesToOrders) (CR : CRi YC X)  (n : Nat)   (s : Mem) : J YC X 2 (b_X5_comesToOrders_14  n   s) 14 [] [] s := by
  unfold b_X5_comesToOrders_14
  refine j_iconst (v := (0 : Int32)) C dX5_comesToOrders_14 (by decide) ?_
  exact j_zret C CR dX5_comesToOrders_15
set_option maxHeartbeats 4000000 in
theorem jb_X5_comesToOrders_79 {X : CtxT (Int32 × Mem)} (C : Cx YC X 2 cX5_comesToOrders RX5 (some .boolean) rm_X5_comesToOrders) (CR : CRi YC X)  (n : Nat)  (r1 : Nat) (h_r1 : isO 6 r1) (s : Mem) : J YC X 2 (b_X5_comesToOrders_79  n  r1 s) 79 [(1, .ref (adX X r1))] [] s := by
  unfold b_X5_comesToOrders_79
  refine j_aload_n C dX5_comesToOrders_79 0 rfl rfl ?_
  refine j_iconst (v := (0 : Int32)) C dX5_comesToOrders_80 (by decide) ?_
  refine j_put C kX6 (pk_6_0 _ h_r1) (pl_6_0 _ h_r1) 3 (by decide) tw_254 rc_6_3 rfl rfl dX5_comesToOrders_81 (fun s1 => ?_)
  refine j_iconst (v := (1 : Int32)) C dX5_comesToOrders_84 (by decide) ?_
  exact j_zret C CR dX5_comesToOrders_85
set_option maxHeartbeats 4000000 in
theorem jb_X5_comesToOrders_42 {X : CtxT (Int32 × Mem)} (C : Cx YC X 2 cX5_comesToOrders RX5 (some .boolean) rm_X5_comesToOrders) (CR : CRi YC X)  (n : Nat)  (r1 : Nat) (h_r1 : isO 6 r1) (s : Mem) : J YC X 2 (b_X5_comesToOrders_42  n  r1 s) 42 [(0, .ref (adX X 118)), (1, .ref (adX X r1))] [] s := by
  unfold b_X5_comesToOrders_42
  refine j_aload_n C dX5_comesToOrders_42 0 rfl rfl ?_
  refine j_getA C kX5 kc_118 lc_118 0 (by decide) tw_444 rc_5_0 dX5_comesToOrders_43 ?_
  refine j_getR (z := 28) C kX3 kc_16 lc_16 4 (by decide) tw_190 rc_3_4 rfl dX5_comesToOrders_46 ?_
  refine j_aload_n C dX5_comesToOrders_49 1 rfl rfl ?_
  refine j_get C kX6 (pk_6_0 _ h_r1) (pl_6_0 _ h_r1) 3 (by decide) tw_254 rc_6_3 dX5_comesToOrders_50 ?_
  refine j_callVi C (c_X2_has n 28 io_2_28 (s r1 3) s) cw_RX5_69 ⟨rfl, rfl, Nat.le_of_ble_eq_true rfl, Nat.le_of_ble_eq_true rfl⟩ 28 kX2 kc_28 lc_28 [.int (s r1 3)] [] rfl rfl rfl (Nat.le_of_ble_eq_true rfl) dX5_comesToOrders_53 (fun x2 s1 => ?_)
  refine j_if_eq (tgt := 79) C dX5_comesToOrders_56 (by decide) ?_ ?_
  · refine j_sub (L' := [(1, .ref (adX X r1))]) [1] rfl ?_
    exact jb_X5_comesToOrders_79 C CR  n r1 h_r1 s1
  · refine j_aload_n C dX5_comesToOrders_59 0 rfl rfl ?_
    refine j_getA C kX5 kc_118 lc_118 2 (by decide) tw_446 rc_5_2 dX5_comesToOrders_60 ?_
    refine j_getR (z := 41) C kX7 kc_33 lc_33 13 (by decide) tw_352 rc_7_13 rfl dX5_comesToOrders_63 ?_
    refine j_aload_n C dX5_comesToOrders_66 1 rfl rfl ?_
    refine j_get C kX6 (pk_6_0 _ h_r1) (pl_6_0 _ h_r1) 3 (by decide) tw_254 rc_6_3 dX5_comesToOrders_67 ?_
    refine j_aald4 C kc_41 lc_41 dX5_comesToOrders_70 (fun z3 e_z3 => ?_)
    have h_z3 : isO 0 z3 := (pe_7_8 _ io_7_33 _ e_z3)
    refine j_get C kX0 (pk_0_0 _ h_z3) (pl_0_0 _ h_z3) 4 (by decide) tw_295 rc_0_4 dX5_comesToOrders_71 ?_
    refine j_if_eq (tgt := 79) C dX5_comesToOrders_74 (by decide) ?_ ?_
    · refine j_sub (L' := [(1, .ref (adX X r1))]) [1] rfl ?_
      exact jb_X5_comesToOrders_79 C CR  n r1 h_r1 s1
    · refine j_iconst (v := (0 : Int32)) C dX5_comesToOrders_77 (by decide) ?_
      exact j_zret C CR dX5_comesToOrders_78
set_option maxHeartbeats 4000000 in
theorem c_X5_comesToOrders (n : Nat) (r1 : Nat) (h_r1 : isO 6 r1) (s : Mem) : CTi YC yX5_comesToOrders cX5_comesToOrders 2 (some .boolean) rm_X5_comesToOrders (fun ad => [.ref (ad 118), .ref (ad r1)]) s (f_X5_comesToOrders n r1 s) := by
  refine CTi_of (by decide) (fun _ => Nat.le_of_ble_eq_true rfl) (fun X C CR => ?_)
  show J YC X 2 (f_X5_comesToOrders n r1 s) 0 [(0, .ref (adX X 118)), (1, .ref (adX X r1))] [] s
  unfold f_X5_comesToOrders
  refine j_aload_n C dX5_comesToOrders_0 1 rfl rfl ?_
  refine j_callVi C (c_X6_runs n r1 h_r1 s) cw_RX5_123 ⟨rfl, rfl, Nat.le_of_ble_eq_true rfl, Nat.le_of_ble_eq_true rfl⟩ r1 kX6 (pk_6_0 _ h_r1) (pl_6_0 _ h_r1) [] [] rfl rfl rfl (Nat.le_of_ble_eq_true rfl) dX5_comesToOrders_1 (fun x2 s1 => ?_)
  refine j_if_eq (tgt := 14) C dX5_comesToOrders_4 (by decide) ?_ ?_
  · refine j_sub (L' := []) [] rfl ?_
    exact jb_X5_comesToOrders_14 C CR  n s1
  · refine j_aload_n C dX5_comesToOrders_7 1 rfl rfl ?_
    refine j_get C kX6 (pk_6_0 _ h_r1) (pl_6_0 _ h_r1) 4 (by decide) tw_256 rc_6_4 dX5_comesToOrders_8 ?_
    refine j_if_eq (tgt := 16) C dX5_comesToOrders_11 (by decide) ?_ ?_
    · refine j_aload_n C dX5_comesToOrders_16 1 rfl rfl ?_
      refine j_get C kX6 (pk_6_0 _ h_r1) (pl_6_0 _ h_r1) 2 (by decide) tw_252 rc_6_2 dX5_comesToOrders_17 ?_
      refine j_if_le (tgt := 42) C dX5_comesToOrders_20 (by decide) ?_ ?_
      · exact jb_X5_comesToOrders_42 C CR  n r1 h_r1 s1
      · refine j_aload_n C dX5_comesToOrders_23 1 rfl rfl ?_
        refine j_dup C dX5_comesToOrders_24 rfl ?_
        refine j_get C kX6 (pk_6_0 _ h_r1) (pl_6_0 _ h_r1) 2 (by decide) tw_252 rc_6_2 dX5_comesToOrders_25 ?_
        refine j_iconst (v := (1 : Int32)) C dX5_comesToOrders_28 (by decide) ?_
        refine j_isub C dX5_comesToOrders_29 ?_
        refine j_put C kX6 (pk_6_0 _ h_r1) (pl_6_0 _ h_r1) 2 (by decide) tw_252 rc_6_2 rfl rfl dX5_comesToOrders_30 (fun s3 => ?_)
        refine j_aload_n C dX5_comesToOrders_33 1 rfl rfl ?_
        refine j_get C kX6 (pk_6_0 _ h_r1) (pl_6_0 _ h_r1) 2 (by decide) tw_252 rc_6_2 dX5_comesToOrders_34 ?_
        refine j_if_le (tgt := 42) C dX5_comesToOrders_37 (by decide) ?_ ?_
        · exact jb_X5_comesToOrders_42 C CR  n r1 h_r1 s3
        · refine j_iconst (v := (0 : Int32)) C dX5_comesToOrders_40 (by decide) ?_
          exact j_zret C CR dX5_comesToOrders_41
    · refine j_sub (L' := []) [] rfl ?_
      exact jb_X5_comesToOrders_14 C CR  n s1
set_option maxHeartbeats 4000000 in
theorem jb_X5_openCode_63 {X : CtxT Mem} (C : Cx YC X 2 cX5_openCode RX5 none rm_X5_openCode) (CR : CRn YC X)  (n : Nat)   (s : Mem) : J YC X 2 (b_X5_openCode_63  n   s) 63 [] [] s := by
  unfold b_X5_openCode_63
  exact j_vret C CR dX5_openCode_63
set_option maxHeartbeats 4000000 in
theorem c_X5_openCode (n : Nat) (l1 : Int32) (s : Mem) : CTn YC yX5_openCode cX5_openCode 2 none rm_X5_openCode (fun ad => [.ref (ad 118), .int l1]) s (f_X5_openCode n l1 s) := by
  refine CTn_of (by decide) (fun _ => Nat.le_of_ble_eq_true rfl) (fun X C CR => ?_)
  show J YC X 2 (f_X5_openCode n l1 s) 0 [(0, .ref (adX X 118)), (1, .int l1)] [] s
  unfold f_X5_openCode
  refine j_aload_n C dX5_openCode_0 0 rfl rfl ?_
  refine j_iconst (v := (0 : Int32)) C dX5_openCode_1 (by decide) ?_
  refine j_put C kX5 kc_118 lc_118 8 (by decide) tw_452 rc_5_8 rfl rfl dX5_openCode_2 (fun s1 => ?_)
  refine j_aload_n C dX5_openCode_5 0 rfl rfl ?_
  refine j_iconst (v := (0 : Int32)) C dX5_openCode_6 (by decide) ?_
  refine j_put C kX5 kc_118 lc_118 9 (by decide) tw_453 rc_5_9 rfl rfl dX5_openCode_7 (fun s2 => ?_)
  refine j_aload_n C dX5_openCode_10 0 rfl rfl ?_
  refine j_getA C kX5 kc_118 lc_118 0 (by decide) tw_444 rc_5_0 dX5_openCode_11 ?_
  refine j_getR (z := 22) C kX3 kc_16 lc_16 2 (by decide) tw_181 rc_3_2 rfl dX5_openCode_14 ?_
  refine j_iload_n C dX5_openCode_17 1 rfl rfl ?_
  refine j_callVi C (c_X2_has n 22 io_2_22 l1 s2) cw_RX5_69 ⟨rfl, rfl, Nat.le_of_ble_eq_true rfl, Nat.le_of_ble_eq_true rfl⟩ 22 kX2 kc_22 lc_22 [.int l1] [] rfl rfl rfl (Nat.le_of_ble_eq_true rfl) dX5_openCode_18 (fun x4 s3 => ?_)
  refine j_if_eq (tgt := 63) C dX5_openCode_21 (by decide) ?_ ?_
  · refine j_sub (L' := []) [] rfl ?_
    exact jb_X5_openCode_63 C CR  n s3
  · refine j_aload_n C dX5_openCode_24 0 rfl rfl ?_
    refine j_aload_n C dX5_openCode_25 0 rfl rfl ?_
    refine j_getA C kX5 kc_118 lc_118 0 (by decide) tw_444 rc_5_0 dX5_openCode_26 ?_
    refine j_getR (z := 22) C kX3 kc_16 lc_16 2 (by decide) tw_181 rc_3_2 rfl dX5_openCode_29 ?_
    refine j_getR (z := 23) C kX2 kc_22 lc_22 0 (by decide) tw_160 rc_2_0 rfl dX5_openCode_32 ?_
    refine j_iload_n C dX5_openCode_35 1 rfl rfl ?_
    refine j_iald C kc_23 lc_23 dX5_openCode_36 ?_
    refine j_iconst (v := (1 : Int32)) C dX5_openCode_37 (by decide) ?_
    refine j_iadd C dX5_openCode_38 ?_
    refine j_put C kX5 kc_118 lc_118 8 (by decide) tw_452 rc_5_8 rfl rfl dX5_openCode_39 (fun s5 => ?_)
    refine j_aload_n C dX5_openCode_42 0 rfl rfl ?_
    refine j_aload_n C dX5_openCode_43 0 rfl rfl ?_
    refine j_getA C kX5 kc_118 lc_118 0 (by decide) tw_444 rc_5_0 dX5_openCode_44 ?_
    refine j_getR (z := 22) C kX3 kc_16 lc_16 2 (by decide) tw_181 rc_3_2 rfl dX5_openCode_47 ?_
    refine j_getR (z := 24) C kX2 kc_22 lc_22 1 (by decide) tw_162 rc_2_1 rfl dX5_openCode_50 ?_
    refine j_iload_n C dX5_openCode_53 1 rfl rfl ?_
    refine j_iald C kc_24 lc_24 dX5_openCode_54 ?_
    refine j_aload_n C dX5_openCode_55 0 rfl rfl ?_
    refine j_get C kX5 kc_118 lc_118 8 (by decide) tw_452 rc_5_8 dX5_openCode_56 ?_
    refine j_isub C dX5_openCode_59 ?_
    refine j_put C kX5 kc_118 lc_118 9 (by decide) tw_453 rc_5_9 rfl rfl dX5_openCode_60 (fun s6 => ?_)
    refine j_sub (L' := []) [] rfl ?_
    exact jb_X5_openCode_63 C CR  n s6
set_option maxHeartbeats 4000000 in
theorem jb_X5_store_38 {X : CtxT (Int32 × Mem)} (C : Cx YC X 3 cX5_store RX5 (some .int) rm_X5_store) (CR : CRi YC X)  (n : Nat)   (s : Mem) : J YC X 3 (b_X5_store_38  n   s) 38 [] [] s := by
  unfold b_X5_store_38
  refine j_iconst (v := (0 : Int32)) C dX5_store_38 (by decide) ?_
  exact j_iret C CR dX5_store_39
set_option maxHeartbeats 4000000 in
theorem c_X5_store (n : Nat) (r1 : Nat) (h_r1 : isO 6 r1) (l2 : Int32) (s : Mem) : CTi YC yX5_store cX5_store 3 (some .int) rm_X5_store (fun ad => [.ref (ad 118), .ref (ad r1), .int l2]) s (f_X5_store n r1 l2 s) := by
  refine CTi_of (by decide) (fun _ => Nat.le_of_ble_eq_true rfl) (fun X C CR => ?_)
  show J YC X 3 (f_X5_store n r1 l2 s) 0 [(0, .ref (adX X 118)), (1, .ref (adX X r1)), (2, .int l2)] [] s
  unfold f_X5_store
  refine j_aload_n C dX5_store_0 0 rfl rfl ?_
  refine j_get C kX5 kc_118 lc_118 5 (by decide) tw_449 rc_5_5 dX5_store_1 ?_
  refine j_bipush (v := (64 : Int32)) C dX5_store_4 (by decide) ?_
  refine j_icmp_ge (tgt := 25) C dX5_store_6 (by decide) ?_ ?_
  · refine j_aload_n C dX5_store_25 1 rfl rfl ?_
    refine j_getR (z := (r1 + 1)) C kX6 (pk_6_0 _ h_r1) (pl_6_0 _ h_r1) 6 (by decide) tw_260 rc_6_6 rfl dX5_store_26 ?_
    refine j_aload_n C dX5_store_29 0 rfl rfl ?_
    refine j_get C kX5 kc_118 lc_118 5 (by decide) tw_449 rc_5_5 dX5_store_30 ?_
    refine j_bipush (v := (64 : Int32)) C dX5_store_33 (by decide) ?_
    refine j_isub C dX5_store_35 ?_
    refine j_iload_n C dX5_store_36 2 rfl rfl ?_
    refine j_iast C (pk_6_1 _ h_r1) (pl_6_1 _ h_r1) dX5_store_37 (fun s1 => ?_)
    refine j_sub (L' := []) [] rfl ?_
    exact jb_X5_store_38 C CR  n s1
  · refine j_aload_n C dX5_store_9 0 rfl rfl ?_
    refine j_getA C kX5 kc_118 lc_118 2 (by decide) tw_446 rc_5_2 dX5_store_10 ?_
    refine j_getR (z := 34) C kX7 kc_33 lc_33 6 (by decide) tw_333 rc_7_6 rfl dX5_store_13 ?_
    refine j_aload_n C dX5_store_16 0 rfl rfl ?_
    refine j_get C kX5 kc_118 lc_118 5 (by decide) tw_449 rc_5_5 dX5_store_17 ?_
    refine j_iload_n C dX5_store_20 2 rfl rfl ?_
    refine j_iast C kc_34 lc_34 dX5_store_21 (fun s2 => ?_)
    refine j_goto (tgt := 38) C dX5_store_22 (by decide) ?_
    refine j_sub (L' := []) [] rfl ?_
    exact jb_X5_store_38 C CR  n s2
set_option maxHeartbeats 4000000 in
theorem jb_X9_boxOf_75 {X : CtxT (Int32 × Mem)} (C : Cx YC X 5 cX9_boxOf RX9 (some .int) rm_X9_boxOf) (CR : CRi YC X) (k14 : Nat → Int32 → Int32 → Mem → Option (Int32 × Mem)) (hk14 : ∀ (r1 : Nat) (h_r1 : isO 0 r1) (l2 : Int32) (l3 : Int32) (s : Mem), J YC X 5 (k14 r1 l2 l3 s) 14 [(0, .ref (adX X 116)), (1, .ref (adX X r1)), (2, .int l2), (3, .int l3)] [] s) (n : Nat)  (r1 : Nat) (h_r1 : isO 0 r1) (l2 : Int32) (l3 : Int32) (s : Mem) : J YC X 5 (b_X9_boxOf_75 k14 n  r1 l2 l3 s) 75 [(0, .ref (adX X 116)), (1, .ref (adX X r1)), (2, .int l2), (3, .int l3)] [] s := by
  unfold b_X9_boxOf_75
  refine j_iinc (L2 := fun x1 => [(0, .ref (adX X 116)), (1, .ref (adX X r1)), (2, .int l2), (3, .int x1)]) C dX9_boxOf_75 3 rfl (by decide) [1, 2, 3, 0] (fun _ => rfl) (fun x1 => ?_)
  refine j_goto (tgt := 14) C dX9_boxOf_78 (by decide) ?_
  exact hk14 r1 h_r1 l2 x1 s
set_option maxHeartbeats 4000000 in
theorem jb_X9_boxOf_43 {X : CtxT (Int32 × Mem)} (C : Cx YC X 5 cX9_boxOf RX9 (some .int) rm_X9_boxOf) (CR : CRi YC X) (k14 : Nat → Int32 → Int32 → Mem → Option (Int32 × Mem)) (hk14 : ∀ (r1 : Nat) (h_r1 : isO 0 r1) (l2 : Int32) (l3 : Int32) (s : Mem), J YC X 5 (k14 r1 l2 l3 s) 14 [(0, .ref (adX X 116)), (1, .ref (adX X r1)), (2, .int l2), (3, .int l3)] [] s) (n : Nat)  (r1 : Nat) (h_r1 : isO 0 r1) (l2 : Int32) (l3 : Int32) (t0 : Int32) (s : Mem) : J YC X 5 (b_X9_boxOf_43 k14 n  r1 l2 l3 t0 s) 43 [(0, .ref (adX X 116)), (1, .ref (adX X r1)), (2, .int l2), (3, .int l3)] [.int t0] s := by
  unfold b_X9_boxOf_43
  refine j_istore (L' := [(0, .ref (adX X 116)), (1, .ref (adX X r1)), (2, .int l2), (3, .int l3), (4, .int t0)]) C dX9_boxOf_43 (by decide) [1, 2, 3, 4, 0] rfl ?_
  refine j_iload C dX9_boxOf_45 4 rfl ?_
  refine j_if_ne (tgt := 75) C dX9_boxOf_47 (by decide) ?_ ?_
  · refine j_sub (L' := [(0, .ref (adX X 116)), (1, .ref (adX X r1)), (2, .int l2), (3, .int l3)]) [0, 1, 2, 3] rfl ?_
    exact jb_X9_boxOf_75 C CR k14 hk14 n r1 h_r1 l2 l3 s
  · refine j_aload_n C dX9_boxOf_50 0 rfl rfl ?_
    refine j_getA C kX9 kc_116 lc_116 1 (by decide) tw_417 rc_9_1 dX9_boxOf_51 ?_
    refine j_aload_n C dX9_boxOf_54 1 rfl rfl ?_
    refine j_get C kX0 (pk_0_0 _ h_r1) (pl_0_0 _ h_r1) 0 (by decide) tw_282 rc_0_0 dX9_boxOf_55 ?_
    refine j_iload_n C dX9_boxOf_58 3 rfl rfl ?_
    refine j_aload_n C dX9_boxOf_59 1 rfl rfl ?_
    refine j_get C kX0 (pk_0_0 _ h_r1) (pl_0_0 _ h_r1) 1 (by decide) tw_285 rc_0_1 dX9_boxOf_60 ?_
    refine j_aload_n C dX9_boxOf_63 1 rfl rfl ?_
    refine j_get C kX0 (pk_0_0 _ h_r1) (pl_0_0 _ h_r1) 2 (by decide) tw_288 rc_0_2 dX9_boxOf_64 ?_
    refine j_callVi C (c_X1_hasPoint n (s r1 0) l3 (s r1 1) (s r1 2) s) cw_RX9_76 ⟨rfl, rfl, Nat.le_of_ble_eq_true rfl, Nat.le_of_ble_eq_true rfl⟩ 109 kX1 kc_109 lc_109 [.int (s r1 0), .int l3, .int (s r1 1), .int (s r1 2)] [] rfl rfl rfl (Nat.le_of_ble_eq_true rfl) dX9_boxOf_67 (fun x2 s1 => ?_)
    refine j_if_eq (tgt := 75) C dX9_boxOf_70 (by decide) ?_ ?_
    · refine j_sub (L' := [(0, .ref (adX X 116)), (1, .ref (adX X r1)), (2, .int l2), (3, .int l3)]) [0, 1, 2, 3] rfl ?_
      exact jb_X9_boxOf_75 C CR k14 hk14 n r1 h_r1 l2 l3 s1
    · refine j_iload_n C dX9_boxOf_73 3 rfl rfl ?_
      exact j_iret C CR dX9_boxOf_74
set_option maxHeartbeats 4000000 in
theorem jb_X9_boxOf_14 {X : CtxT (Int32 × Mem)} (C : Cx YC X 5 cX9_boxOf RX9 (some .int) rm_X9_boxOf) (CR : CRi YC X)  (n : Nat) (k14 : Nat → Int32 → Int32 → Mem → Option (Int32 × Mem)) (hk14 : ∀ (r1 : Nat) (h_r1 : isO 0 r1) (l2 : Int32) (l3 : Int32) (s : Mem), J YC X 5 (k14 r1 l2 l3 s) 14 [(0, .ref (adX X 116)), (1, .ref (adX X r1)), (2, .int l2), (3, .int l3)] [] s) (r1 : Nat) (h_r1 : isO 0 r1) (l2 : Int32) (l3 : Int32) (s : Mem) : J YC X 5 (b_X9_boxOf_14  n k14 r1 l2 l3 s) 14 [(0, .ref (adX X 116)), (1, .ref (adX X r1)), (2, .int l2), (3, .int l3)] [] s := by
  unfold b_X9_boxOf_14
  refine j_iload_n C dX9_boxOf_14 3 rfl rfl ?_
  refine j_iload_n C dX9_boxOf_15 2 rfl rfl ?_
  refine j_icmp_ge (tgt := 81) C dX9_boxOf_16 (by decide) ?_ ?_
  · refine j_iconst (v := (-1 : Int32)) C dX9_boxOf_81 (by decide) ?_
    exact j_iret C CR dX9_boxOf_82
  · refine j_aload_n C dX9_boxOf_19 0 rfl rfl ?_
    refine j_getA C kX9 kc_116 lc_116 2 (by decide) tw_418 rc_9_2 dX9_boxOf_20 ?_
    refine j_getR (z := 39) C kX7 kc_33 lc_33 11 (by decide) tw_346 rc_7_11 rfl dX9_boxOf_23 ?_
    refine j_aload_n C dX9_boxOf_26 1 rfl rfl ?_
    refine j_get C kX0 (pk_0_0 _ h_r1) (pl_0_0 _ h_r1) 0 (by decide) tw_282 rc_0_0 dX9_boxOf_27 ?_
    refine j_iald C kc_39 lc_39 dX9_boxOf_30 ?_
    refine j_iload_n C dX9_boxOf_31 3 rfl rfl ?_
    refine j_ishr C dX9_boxOf_32 ?_
    refine j_iconst (v := (1 : Int32)) C dX9_boxOf_33 (by decide) ?_
    refine j_iand C dX9_boxOf_34 ?_
    refine j_if_eq (tgt := 42) C dX9_boxOf_35 (by decide) ?_ ?_
    · refine j_iconst (v := (0 : Int32)) C dX9_boxOf_42 (by decide) ?_
      exact jb_X9_boxOf_43 C CR k14 hk14 n r1 h_r1 l2 l3 (0 : Int32) s
    · refine j_iconst (v := (1 : Int32)) C dX9_boxOf_38 (by decide) ?_
      refine j_goto (tgt := 43) C dX9_boxOf_39 (by decide) ?_
      exact jb_X9_boxOf_43 C CR k14 hk14 n r1 h_r1 l2 l3 (1 : Int32) s
theorem lb_X9_boxOf_14 {X : CtxT (Int32 × Mem)} (C : Cx YC X 5 cX9_boxOf RX9 (some .int) rm_X9_boxOf) (CR : CRi YC X)  : ∀ (n : Nat) (r1 : Nat) (h_r1 : isO 0 r1) (l2 : Int32) (l3 : Int32) (s : Mem), J YC X 5 (itr3 (b_X9_boxOf_14) n r1 l2 l3 s) 14 [(0, .ref (adX X 116)), (1, .ref (adX X r1)), (2, .int l2), (3, .int l3)] [] s := by
  intro n
  induction n with
  | zero => intros; exact j_none
  | succ n ih =>
    intro r1 h_r1 l2 l3 s
    exact jb_X9_boxOf_14 C CR  n _ ih r1 h_r1 l2 l3 s
set_option maxHeartbeats 4000000 in
theorem c_X9_boxOf (n : Nat) (r1 : Nat) (h_r1 : isO 0 r1) (s : Mem) : CTi YC yX9_boxOf cX9_boxOf 5 (some .int) rm_X9_boxOf (fun ad => [.ref (ad 116), .ref (ad r1)]) s (f_X9_boxOf n r1 s) := by
  refine CTi_of (by decide) (fun _ => Nat.le_of_ble_eq_true rfl) (fun X C CR => ?_)
  show J YC X 5 (f_X9_boxOf n r1 s) 0 [(0, .ref (adX X 116)), (1, .ref (adX X r1))] [] s
  unfold f_X9_boxOf
  refine j_aload_n C dX9_boxOf_0 0 rfl rfl ?_
  refine j_getA C kX9 kc_116 lc_116 1 (by decide) tw_417 rc_9_1 dX9_boxOf_1 ?_
  refine j_aload_n C dX9_boxOf_4 1 rfl rfl ?_
  refine j_get C kX0 (pk_0_0 _ h_r1) (pl_0_0 _ h_r1) 0 (by decide) tw_282 rc_0_0 dX9_boxOf_5 ?_
  refine j_callVi C (c_X1_boxesIn n (s r1 0) s) cw_RX9_66 ⟨rfl, rfl, Nat.le_of_ble_eq_true rfl, Nat.le_of_ble_eq_true rfl⟩ 109 kX1 kc_109 lc_109 [.int (s r1 0)] [] rfl rfl rfl (Nat.le_of_ble_eq_true rfl) dX9_boxOf_8 (fun x2 s1 => ?_)
  refine j_istore_n (L' := [(0, .ref (adX X 116)), (1, .ref (adX X r1)), (2, .int x2)]) C dX9_boxOf_11 rfl (by decide) [1, 2, 0] rfl ?_
  refine j_iconst (v := (0 : Int32)) C dX9_boxOf_12 (by decide) ?_
  refine j_istore_n (L' := [(0, .ref (adX X 116)), (1, .ref (adX X r1)), (2, .int x2), (3, .int (0 : Int32))]) C dX9_boxOf_13 rfl (by decide) [1, 2, 3, 0] rfl ?_
  exact lb_X9_boxOf_14 C CR  n r1 h_r1 x2 (0 : Int32) s1
