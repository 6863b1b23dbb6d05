set_option maxHeartbeats 4000000 in
theorem jb_X9_measureFrom_82 {X : CtxT Mem} (C : Cx YC X 8 cX9_measureFrom RX9 none rm_X9_measureFrom) (CR : CRn YC X) (k18 : Int32 → Int32 → Int32 → Int32 → Mem → Option Mem) (hk18 : ∀ (l1 : Int32) (l3 : Int32) (l4 : Int32) (l5 : Int32) (s : Mem), J YC X 8 (k18 l1 l3 l4 l5 s) 18 [(0, .ref (adX X 116)), (1, .int l1), (3, .int l3), (4, .int l4), (5, .int l5)] [] s) (k36 : Int32 → Int32 → Int32 → Int32 → Int32 → Int32 → Mem → Option Mem) (hk36 : ∀ (l1 : Int32) (l3 : Int32) (l4 : Int32) (l5 : Int32) (l6 : Int32) (l7 : Int32) (s : Mem), J YC X 8 (k36 l1 l3 l4 l5 l6 l7 s) 36 [(0, .ref (adX X 116)), (1, .int l1), (3, .int l3), (4, .int l4), (5, .int l5), (6, .int l6), (7, .int l7)] [] s) (n : Nat)  (l1 : Int32) (l3 : Int32) (l4 : Int32) (l5 : Int32) (l6 : Int32) (l7 : Int32) (s : Mem) : J YC X 8 (b_X9_measureFrom_82 k18 k36 n  l1 l3 l4 l5 l6 l7 s) 82 [(0, .ref (adX X 116)), (1, .int l1), (3, .int l3), (4, .int l4), (5, .int l5), (6, .int l6), (7, .int l7)] [] s := by
  unfold b_X9_measureFrom_82
  refine j_iinc (L2 := fun x1 => [(0, .ref (adX X 116)), (1, .int l1), (3, .int l3), (4, .int l4), (5, .int l5), (6, .int l6), (7, .int x1)]) C dX9_measureFrom_82 6 rfl (by decide) [1, 2, 3, 4, 5, 6, 0] (fun _ => rfl) (fun x1 => ?_)
  refine j_goto (tgt := 36) C dX9_measureFrom_85 (by decide) ?_
  exact hk36 l1 l3 l4 l5 l6 x1 s
set_option maxHeartbeats 4000000 in
theorem jb_X9_measureFrom_36 {X : CtxT Mem} (C : Cx YC X 8 cX9_measureFrom RX9 none rm_X9_measureFrom) (CR : CRn YC X) (k18 : Int32 → Int32 → Int32 → Int32 → Mem → Option Mem) (hk18 : ∀ (l1 : Int32) (l3 : Int32) (l4 : Int32) (l5 : Int32) (s : Mem), J YC X 8 (k18 l1 l3 l4 l5 s) 18 [(0, .ref (adX X 116)), (1, .int l1), (3, .int l3), (4, .int l4), (5, .int l5)] [] s) (n : Nat) (k36 : Int32 → Int32 → Int32 → Int32 → Int32 → Int32 → Mem → Option Mem) (hk36 : ∀ (l1 : Int32) (l3 : Int32) (l4 : Int32) (l5 : Int32) (l6 : Int32) (l7 : Int32) (s : Mem), J YC X 8 (k36 l1 l3 l4 l5 l6 l7 s) 36 [(0, .ref (adX X 116)), (1, .int l1), (3, .int l3), (4, .int l4), (5, .int l5), (6, .int l6), (7, .int l7)] [] s) (l1 : Int32) (l3 : Int32) (l4 : Int32) (l5 : Int32) (l6 : Int32) (l7 : Int32) (s : Mem) : J YC X 8 (b_X9_measureFrom_36 k18 n k36 l1 l3 l4 l5 l6 l7 s) 36 [(0, .ref (adX X 116)), (1, .int l1), (3, .int l3), (4, .int l4), (5, .int l5), (6, .int l6), (7, .int l7)] [] s := by
  unfold b_X9_measureFrom_36
  refine j_iload C dX9_measureFrom_36 6 rfl ?_
  refine j_bipush (v := (16 : Int32)) C dX9_measureFrom_38 (by decide) ?_
  refine j_icmp_ge (tgt := 88) C dX9_measureFrom_40 (by decide) ?_ ?_
  · refine j_iload C dX9_measureFrom_88 5 rfl ?_
    refine j_iload_n C dX9_measureFrom_90 2 rfl rfl ?_
    refine j_iconst (v := (-1 : Int32)) C dX9_measureFrom_91 (by decide) ?_
    refine j_ixor C dX9_measureFrom_92 ?_
    refine j_iand C dX9_measureFrom_93 ?_
    refine j_aload_n C dX9_measureFrom_94 0 rfl rfl ?_
    refine j_getA C kX9 kc_116 lc_116 2 (by decide) tw_418 rc_9_2 dX9_measureFrom_95 ?_
    refine j_getR (z := 39) C kX7 kc_33 lc_33 11 (by decide) tw_346 rc_7_11 rfl dX9_measureFrom_98 ?_
    refine j_iload_n C dX9_measureFrom_101 1 rfl rfl ?_
    refine j_iald C kc_39 lc_39 dX9_measureFrom_102 ?_
    refine j_iconst (v := (-1 : Int32)) C dX9_measureFrom_103 (by decide) ?_
    refine j_ixor C dX9_measureFrom_104 ?_
    refine j_iand C dX9_measureFrom_105 ?_
    refine j_top (fun x1 => ?_)
    refine j_istore (L' := [(0, .ref (adX X 116)), (1, .int l1), (3, .int l3), (4, .int x1), (5, .int l5), (6, .int l6), (7, .int l7)]) C dX9_measureFrom_106 (by decide) [1, 2, 3, 0, 4, 5, 6] rfl ?_
    refine j_iload_n C dX9_measureFrom_108 2 rfl rfl ?_
    refine j_iload C dX9_measureFrom_109 3 rfl ?_
    refine j_ior C dX9_measureFrom_111 ?_
    refine j_top (fun x2 => ?_)
    refine j_istore_n (L' := [(0, .ref (adX X 116)), (1, .int l1), (3, .int x2), (4, .int x1), (5, .int l5), (6, .int l6), (7, .int l7)]) C dX9_measureFrom_112 rfl (by decide) [1, 2, 0, 3, 4, 5, 6] rfl ?_
    refine j_iinc (L2 := fun x3 => [(0, .ref (adX X 116)), (1, .int l1), (3, .int x2), (4, .int x1), (5, .int x3), (6, .int l6), (7, .int l7)]) C dX9_measureFrom_113 4 rfl (by decide) [1, 2, 3, 4, 0, 5, 6] (fun _ => rfl) (fun x3 => ?_)
    refine j_goto (tgt := 18) C dX9_measureFrom_116 (by decide) ?_
    refine j_sub (L' := [(0, .ref (adX X 116)), (1, .int l1), (3, .int x2), (4, .int x1), (5, .int x3)]) [0, 1, 2, 3, 4] rfl ?_
    exact hk18 l1 x2 x1 x3 s
  · refine j_iload C dX9_measureFrom_43 3 rfl ?_
    refine j_iload C dX9_measureFrom_45 6 rfl ?_
    refine j_ishr C dX9_measureFrom_47 ?_
    refine j_iconst (v := (1 : Int32)) C dX9_measureFrom_48 (by decide) ?_
    refine j_iand C dX9_measureFrom_49 ?_
    refine j_if_eq (tgt := 82) C dX9_measureFrom_50 (by decide) ?_ ?_
    · exact jb_X9_measureFrom_82 C CR k18 hk18 k36 hk36 n l1 l3 l4 l5 l6 l7 s
    · refine j_aload_n C dX9_measureFrom_53 0 rfl rfl ?_
      refine j_getR (z := 117) C kX9 kc_116 lc_116 3 (by decide) tw_419 rc_9_3 rfl dX9_measureFrom_54 ?_
      refine j_iload C dX9_measureFrom_57 6 rfl ?_
      refine j_iload C dX9_measureFrom_59 4 rfl ?_
      refine j_iast C kc_117 lc_117 dX9_measureFrom_61 (fun s4 => ?_)
      refine j_iload C dX9_measureFrom_62 5 rfl ?_
      refine j_aload_n C dX9_measureFrom_64 0 rfl rfl ?_
      refine j_getA C kX9 kc_116 lc_116 1 (by decide) tw_417 rc_9_1 dX9_measureFrom_65 ?_
      refine j_getR (z := 115) C kX1 kc_109 lc_109 5 (by decide) tw_395 rc_1_5 rfl dX9_measureFrom_68 ?_
      refine j_iload_n C dX9_measureFrom_71 1 rfl rfl ?_
      refine j_bipush (v := (16 : Int32)) C dX9_measureFrom_72 (by decide) ?_
      refine j_imul C dX9_measureFrom_74 ?_
      refine j_iload C dX9_measureFrom_75 6 rfl ?_
      refine j_iadd C dX9_measureFrom_77 ?_
      refine j_iald C kc_115 lc_115 dX9_measureFrom_78 ?_
      refine j_ior C dX9_measureFrom_79 ?_
      refine j_top (fun x5 => ?_)
      refine j_istore (L' := [(0, .ref (adX X 116)), (1, .int l1), (3, .int l3), (4, .int l4), (5, .int l5), (6, .int x5), (7, .int l7)]) C dX9_measureFrom_80 (by decide) [1, 2, 3, 4, 5, 0, 6] rfl ?_
      exact jb_X9_measureFrom_82 C CR k18 hk18 k36 hk36 n l1 l3 l4 l5 x5 l7 s4
theorem lb_X9_measureFrom_36 {X : CtxT Mem} (C : Cx YC X 8 cX9_measureFrom RX9 none rm_X9_measureFrom) (CR : CRn YC X) (k18 : Int32 → Int32 → Int32 → Int32 → Mem → Option Mem) (hk18 : ∀ (l1 : Int32) (l3 : Int32) (l4 : Int32) (l5 : Int32) (s : Mem), J YC X 8 (k18 l1 l3 l4 l5 s) 18 [(0, .ref (adX X 116)), (1, .int l1), (3, .int l3), (4, .int l4), (5, .int l5)] [] s) : ∀ (n : Nat) (l1 : Int32) (l3 : Int32) (l4 : Int32) (l5 : Int32) (l6 : Int32) (l7 : Int32) (s : Mem), J YC X 8 (itr6 (b_X9_measureFrom_36 k18) n l1 l3 l4 l5 l6 l7 s) 36 [(0, .ref (adX X 116)), (1, .int l1), (3, .int l3), (4, .int l4), (5, .int l5), (6, .int l6), (7, .int l7)] [] s := by
  intro n
  induction n with
  | zero => intros; exact j_none
  | succ n ih =>
    intro l1 l3 l4 l5 l6 l7 s
    exact jb_X9_measureFrom_36 C CR k18 hk18 n _ ih l1 l3 l4 l5 l6 l7 s
set_option maxHeartbeats 4000000 in
theorem jb_X9_measureFrom_119 {X : CtxT Mem} (C : Cx YC X 8 cX9_measureFrom RX9 none rm_X9_measureFrom) (CR : CRn YC X)  (n : Nat)   (s : Mem) : J YC X 8 (b_X9_measureFrom_119  n   s) 119 [] [] s := by
  unfold b_X9_measureFrom_119
  exact j_vret C CR dX9_measureFrom_119
set_option maxHeartbeats 4000000 in
theorem jb_X9_measureFrom_18 {X : CtxT Mem} (C : Cx YC X 8 cX9_measureFrom RX9 none rm_X9_measureFrom) (CR : CRn YC X)  (n : Nat) (k18 : Int32 → Int32 → Int32 → Int32 → Mem → Option Mem) (hk18 : ∀ (l1 : Int32) (l3 : Int32) (l4 : Int32) (l5 : Int32) (s : Mem), J YC X 8 (k18 l1 l3 l4 l5 s) 18 [(0, .ref (adX X 116)), (1, .int l1), (3, .int l3), (4, .int l4), (5, .int l5)] [] s) (l1 : Int32) (l3 : Int32) (l4 : Int32) (l5 : Int32) (s : Mem) : J YC X 8 (b_X9_measureFrom_18  n k18 l1 l3 l4 l5 s) 18 [(0, .ref (adX X 116)), (1, .int l1), (3, .int l3), (4, .int l4), (5, .int l5)] [] s := by
  unfold b_X9_measureFrom_18
  refine j_iload C dX9_measureFrom_18 4 rfl ?_
  refine j_bipush (v := (16 : Int32)) C dX9_measureFrom_20 (by decide) ?_
  refine j_icmp_gt (tgt := 119) C dX9_measureFrom_22 (by decide) ?_ ?_
  · refine j_sub (L' := []) [] rfl ?_
    exact jb_X9_measureFrom_119 C CR  n s
  · refine j_iload C dX9_measureFrom_25 3 rfl ?_
    refine j_if_eq (tgt := 119) C dX9_measureFrom_27 (by decide) ?_ ?_
    · refine j_sub (L' := []) [] rfl ?_
      exact jb_X9_measureFrom_119 C CR  n s
    · refine j_iconst (v := (0 : Int32)) C dX9_measureFrom_30 (by decide) ?_
      refine j_istore (L' := [(0, .ref (adX X 116)), (1, .int l1), (3, .int l3), (4, .int l4), (5, .int l5), (6, .int (0 : Int32))]) C dX9_measureFrom_31 (by decide) [1, 2, 3, 4, 5, 0] rfl ?_
      refine j_iconst (v := (0 : Int32)) C dX9_measureFrom_33 (by decide) ?_
      refine j_istore (L' := [(0, .ref (adX X 116)), (1, .int l1), (3, .int l3), (4, .int l4), (5, .int l5), (6, .int (0 : Int32)), (7, .int (0 : Int32))]) C dX9_measureFrom_34 (by decide) [1, 2, 3, 4, 5, 6, 0] rfl ?_
      exact lb_X9_measureFrom_36 C CR k18 hk18 n l1 l3 l4 l5 (0 : Int32) (0 : Int32) s
theorem lb_X9_measureFrom_18 {X : CtxT Mem} (C : Cx YC X 8 cX9_measureFrom RX9 none rm_X9_measureFrom) (CR : CRn YC X)  : ∀ (n : Nat) (l1 : Int32) (l3 : Int32) (l4 : Int32) (l5 : Int32) (s : Mem), J YC X 8 (itr4 (b_X9_measureFrom_18) n l1 l3 l4 l5 s) 18 [(0, .ref (adX X 116)), (1, .int l1), (3, .int l3), (4, .int l4), (5, .int l5)] [] s := by
  intro n
  induction n with
  | zero => intros; exact j_none
  | succ n ih =>
    intro l1 l3 l4 l5 s
    exact jb_X9_measureFrom_18 C CR  n _ ih l1 l3 l4 l5 s
set_option maxHeartbeats 4000000 in
theorem c_X9_measureFrom (n : Nat) (l1 : Int32) (l2 : Int32) (s : Mem) : CTn YC yX9_measureFrom cX9_measureFrom 8 none rm_X9_measureFrom (fun ad => [.ref (ad 116), .int l1, .int l2]) s (f_X9_measureFrom n l1 l2 s) := by
  refine CTn_of (by decide) (fun _ => Nat.le_of_ble_eq_true rfl) (fun X C CR => ?_)
  show J YC X 8 (f_X9_measureFrom n l1 l2 s) 0 [(0, .ref (adX X 116)), (1, .int l1), (2, .int l2)] [] s
  unfold f_X9_measureFrom
  refine j_aload_n C dX9_measureFrom_0 0 rfl rfl ?_
  refine j_getR (z := 117) C kX9 kc_116 lc_116 3 (by decide) tw_419 rc_9_3 rfl dX9_measureFrom_1 ?_
  refine j_iconst (v := (0 : Int32)) C dX9_measureFrom_4 (by decide) ?_
  refine j_callSn C (c_fill kc_117 lc_117 (by decide) (0 : Int32) s) cw_RX9_108 ⟨rfl, rfl, Nat.le_of_ble_eq_true rfl, Nat.le_of_ble_eq_true rfl⟩ [.ref (adX X 117), .int (0 : Int32)] [] rfl rfl rfl (Nat.le_of_ble_eq_true rfl) dX9_measureFrom_5 (fun s1 => ?_)
  refine j_iconst (v := (1 : Int32)) C dX9_measureFrom_8 (by decide) ?_
  refine j_iload_n C dX9_measureFrom_9 2 rfl rfl ?_
  refine j_ishl C dX9_measureFrom_10 ?_
  refine j_top (fun x2 => ?_)
  refine j_istore_n (L' := [(0, .ref (adX X 116)), (1, .int l1), (2, .int l2), (3, .int x2)]) C dX9_measureFrom_11 rfl (by decide) [1, 2, 3, 0] rfl ?_
  refine j_iload_n C dX9_measureFrom_12 3 rfl rfl ?_
  refine j_istore (L' := [(0, .ref (adX X 116)), (1, .int l1), (2, .int l2), (3, .int x2), (4, .int x2)]) C dX9_measureFrom_13 (by decide) [1, 2, 3, 4, 0] rfl ?_
  refine j_iconst (v := (1 : Int32)) C dX9_measureFrom_15 (by decide) ?_
  refine j_istore (L' := [(0, .ref (adX X 116)), (1, .int l1), (2, .int l2), (3, .int x2), (4, .int x2), (5, .int (1 : Int32))]) C dX9_measureFrom_16 (by decide) [1, 2, 3, 4, 5, 0] rfl ?_
  refine j_sub (L' := [(0, .ref (adX X 116)), (1, .int l1), (3, .int x2), (4, .int x2), (5, .int (1 : Int32))]) [0, 1, 3, 4, 5] rfl ?_
  exact lb_X9_measureFrom_18 C CR  n l1 x2 x2 (1 : Int32) s1
set_option maxHeartbeats 4000000 in
theorem jb_X9_findGoal_112 {X : CtxT Mem} (C : Cx YC X 10 cX9_findGoal RX9 none rm_X9_findGoal) (CR : CRn YC X) (k13 : Int32 → Int32 → Int32 → Int32 → Int32 → Mem → Option Mem) (hk13 : ∀ (l1 : Int32) (l3 : Int32) (l4 : Int32) (l5 : Int32) (l6 : Int32) (s : Mem), J YC X 10 (k13 l1 l3 l4 l5 l6 s) 13 [(0, .ref (adX X 116)), (1, .int l1), (3, .int l3), (4, .int l4), (5, .int l5), (6, .int l6)] [] s) (n : Nat)  (l1 : Int32) (l3 : Int32) (l4 : Int32) (l5 : Int32) (l6 : Int32) (s : Mem) : J YC X 10 (b_X9_findGoal_112 k13 n  l1 l3 l4 l5 l6 s) 112 [(0, .ref (adX X 116)), (1, .int l1), (3, .int l3), (4, .int l4), (5, .int l5), (6, .int l6)] [] s := by
  unfold b_X9_findGoal_112
  refine j_iinc (L2 := fun x1 => [(0, .ref (adX X 116)), (1, .int l1), (3, .int l3), (4, .int l4), (5, .int l5), (6, .int x1)]) C dX9_findGoal_112 5 rfl (by decide) [1, 2, 3, 4, 5, 0] (fun _ => rfl) (fun x1 => ?_)
  refine j_goto (tgt := 13) C dX9_findGoal_115 (by decide) ?_
  exact hk13 l1 l3 l4 l5 x1 s
set_option maxHeartbeats 4000000 in
theorem jb_X9_findGoal_13 {X : CtxT Mem} (C : Cx YC X 10 cX9_findGoal RX9 none rm_X9_findGoal) (CR : CRn YC X)  (n : Nat) (k13 : Int32 → Int32 → Int32 → Int32 → Int32 → Mem → Option Mem) (hk13 : ∀ (l1 : Int32) (l3 : Int32) (l4 : Int32) (l5 : Int32) (l6 : Int32) (s : Mem), J YC X 10 (k13 l1 l3 l4 l5 l6 s) 13 [(0, .ref (adX X 116)), (1, .int l1), (3, .int l3), (4, .int l4), (5, .int l5), (6, .int l6)] [] s) (l1 : Int32) (l3 : Int32) (l4 : Int32) (l5 : Int32) (l6 : Int32) (s : Mem) : J YC X 10 (b_X9_findGoal_13  n k13 l1 l3 l4 l5 l6 s) 13 [(0, .ref (adX X 116)), (1, .int l1), (3, .int l3), (4, .int l4), (5, .int l5), (6, .int l6)] [] s := by
  unfold b_X9_findGoal_13
  refine j_iload C dX9_findGoal_13 5 rfl ?_
  refine j_bipush (v := (16 : Int32)) C dX9_findGoal_15 (by decide) ?_
  refine j_icmp_ge (tgt := 118) C dX9_findGoal_17 (by decide) ?_ ?_
  · exact j_vret C CR dX9_findGoal_118
  · refine j_aload_n C dX9_findGoal_20 0 rfl rfl ?_
    refine j_getR (z := 117) C kX9 kc_116 lc_116 3 (by decide) tw_419 rc_9_3 rfl dX9_findGoal_21 ?_
    refine j_iload C dX9_findGoal_24 5 rfl ?_
    refine j_iald C kc_117 lc_117 dX9_findGoal_26 ?_
    refine j_if_ne (tgt := 33) C dX9_findGoal_27 (by decide) ?_ ?_
    · refine j_aload_n C dX9_findGoal_33 0 rfl rfl ?_
      refine j_getA C kX9 kc_116 lc_116 1 (by decide) tw_417 rc_9_1 dX9_findGoal_34 ?_
      refine j_iload_n C dX9_findGoal_37 1 rfl rfl ?_
      refine j_iload C dX9_findGoal_38 5 rfl ?_
      refine j_iload_n C dX9_findGoal_40 2 rfl rfl ?_
      refine j_callVi C (c_X1_nearestX n l1 l6 l3 s) cw_RX9_118 ⟨rfl, rfl, Nat.le_of_ble_eq_true rfl, Nat.le_of_ble_eq_true rfl⟩ 109 kX1 kc_109 lc_109 [.int l1, .int l6, .int l3] [] rfl rfl rfl (Nat.le_of_ble_eq_true rfl) dX9_findGoal_41 (fun x2 s1 => ?_)
      refine j_istore (L' := [(0, .ref (adX X 116)), (1, .int l1), (3, .int l3), (4, .int l4), (5, .int l5), (6, .int l6), (7, .int x2)]) C dX9_findGoal_44 (by decide) [1, 2, 3, 4, 5, 6, 0] rfl ?_
      refine j_aload_n C dX9_findGoal_46 0 rfl rfl ?_
      refine j_getA C kX9 kc_116 lc_116 1 (by decide) tw_417 rc_9_1 dX9_findGoal_47 ?_
      refine j_iload_n C dX9_findGoal_50 1 rfl rfl ?_
      refine j_iload C dX9_findGoal_51 5 rfl ?_
      refine j_iload C dX9_findGoal_53 3 rfl ?_
      refine j_callVi C (c_X1_nearestY n l1 l6 l4 s1) cw_RX9_122 ⟨rfl, rfl, Nat.le_of_ble_eq_true rfl, Nat.le_of_ble_eq_true rfl⟩ 109 kX1 kc_109 lc_109 [.int l1, .int l6, .int l4] [] rfl rfl rfl (Nat.le_of_ble_eq_true rfl) dX9_findGoal_55 (fun x4 s3 => ?_)
      refine j_istore (L' := [(0, .ref (adX X 116)), (1, .int l1), (3, .int l3), (4, .int l4), (5, .int l5), (6, .int l6), (7, .int x2), (8, .int x4)]) C dX9_findGoal_58 (by decide) [1, 2, 3, 4, 5, 6, 7, 0] rfl ?_
      refine j_iload_n C dX9_findGoal_60 2 rfl rfl ?_
      refine j_iload C dX9_findGoal_61 6 rfl ?_
      refine j_isub C dX9_findGoal_63 ?_
      refine j_iload_n C dX9_findGoal_64 2 rfl rfl ?_
      refine j_iload C dX9_findGoal_65 6 rfl ?_
      refine j_isub C dX9_findGoal_67 ?_
      refine j_imul C dX9_findGoal_68 ?_
      refine j_iload C dX9_findGoal_69 3 rfl ?_
      refine j_iload C dX9_findGoal_71 7 rfl ?_
      refine j_isub C dX9_findGoal_73 ?_
      refine j_iload C dX9_findGoal_74 3 rfl ?_
      refine j_iload C dX9_findGoal_76 7 rfl ?_
      refine j_isub C dX9_findGoal_78 ?_
      refine j_imul C dX9_findGoal_79 ?_
      refine j_iadd C dX9_findGoal_80 ?_
      refine j_top (fun x5 => ?_)
      refine j_istore (L' := [(0, .ref (adX X 116)), (1, .int l1), (3, .int l3), (4, .int l4), (5, .int l5), (6, .int l6), (7, .int x2), (8, .int x4), (9, .int x5)]) C dX9_findGoal_81 (by decide) [1, 2, 3, 4, 5, 6, 7, 8, 0] rfl ?_
      refine j_iload C dX9_findGoal_83 8 rfl ?_
      refine j_iload C dX9_findGoal_85 4 rfl ?_
      refine j_icmp_ge (tgt := 112) C dX9_findGoal_87 (by decide) ?_ ?_
      · refine j_sub (L' := [(0, .ref (adX X 116)), (1, .int l1), (3, .int l3), (4, .int l4), (5, .int l5), (6, .int l6)]) [0, 1, 2, 3, 4, 5] rfl ?_
        exact jb_X9_findGoal_112 C CR k13 hk13 n l1 l3 l4 l5 l6 s3
      · refine j_iload C dX9_findGoal_90 8 rfl ?_
        refine j_istore (L' := [(0, .ref (adX X 116)), (1, .int l1), (3, .int l3), (4, .int l4), (5, .int x5), (6, .int l6), (7, .int x2), (8, .int x4), (9, .int x5)]) C dX9_findGoal_92 (by decide) [1, 2, 3, 4, 0, 5, 6, 7, 8] rfl ?_
        refine j_aload_n C dX9_findGoal_94 0 rfl rfl ?_
        refine j_iload C dX9_findGoal_95 6 rfl ?_
        refine j_put C kX9 kc_116 lc_116 4 (by decide) tw_420 rc_9_4 rfl rfl dX9_findGoal_97 (fun s6 => ?_)
        refine j_aload_n C dX9_findGoal_100 0 rfl rfl ?_
        refine j_iload C dX9_findGoal_101 7 rfl ?_
        refine j_put C kX9 kc_116 lc_116 5 (by decide) tw_421 rc_9_5 rfl rfl dX9_findGoal_103 (fun s7 => ?_)
        refine j_aload_n C dX9_findGoal_106 0 rfl rfl ?_
        refine j_iload C dX9_findGoal_107 5 rfl ?_
        refine j_put C kX9 kc_116 lc_116 6 (by decide) tw_422 rc_9_6 rfl rfl dX9_findGoal_109 (fun s8 => ?_)
        refine j_sub (L' := [(0, .ref (adX X 116)), (1, .int l1), (3, .int l3), (4, .int l4), (5, .int x5), (6, .int l6)]) [0, 1, 2, 3, 4, 5] rfl ?_
        exact jb_X9_findGoal_112 C CR k13 hk13 n l1 l3 l4 x5 l6 s8
    · refine j_goto (tgt := 112) C dX9_findGoal_30 (by decide) ?_
      exact jb_X9_findGoal_112 C CR k13 hk13 n l1 l3 l4 l5 l6 s
theorem lb_X9_findGoal_13 {X : CtxT Mem} (C : Cx YC X 10 cX9_findGoal RX9 none rm_X9_findGoal) (CR : CRn YC X)  : ∀ (n : Nat) (l1 : Int32) (l3 : Int32) (l4 : Int32) (l5 : Int32) (l6 : Int32) (s : Mem), J YC X 10 (itr5 (b_X9_findGoal_13) n l1 l3 l4 l5 l6 s) 13 [(0, .ref (adX X 116)), (1, .int l1), (3, .int l3), (4, .int l4), (5, .int l5), (6, .int l6)] [] s := by
  intro n
  induction n with
  | zero => intros; exact j_none
  | succ n ih =>
    intro l1 l3 l4 l5 l6 s
    exact jb_X9_findGoal_13 C CR  n _ ih l1 l3 l4 l5 l6 s
set_option maxHeartbeats 4000000 in
theorem c_X9_findGoal (n : Nat) (l1 : Int32) (l2 : Int32) (l3 : Int32) (l4 : Int32) (s : Mem) : CTn YC yX9_findGoal cX9_findGoal 10 none rm_X9_findGoal (fun ad => [.ref (ad 116), .int l1, .int l2, .int l3, .int l4]) s (f_X9_findGoal n l1 l2 l3 l4 s) := by
  refine CTn_of (by decide) (fun _ => Nat.le_of_ble_eq_true rfl) (fun X C CR => ?_)
  show J YC X 10 (f_X9_findGoal n l1 l2 l3 l4 s) 0 [(0, .ref (adX X 116)), (1, .int l1), (2, .int l2), (3, .int l3), (4, .int l4)] [] s
  unfold f_X9_findGoal
  refine j_aload_n C dX9_findGoal_0 0 rfl rfl ?_
  refine j_iload_n C dX9_findGoal_1 1 rfl rfl ?_
  refine j_iload_n C dX9_findGoal_2 2 rfl rfl ?_
  refine j_callVn C (c_X9_measureFrom n l1 l2 s) cw_RX9_80 ⟨rfl, rfl, Nat.le_of_ble_eq_true rfl, Nat.le_of_ble_eq_true rfl⟩ 116 kX9 kc_116 lc_116 [.int l1, .int l2] [] rfl rfl rfl (Nat.le_of_ble_eq_true rfl) dX9_findGoal_3 (fun s1 => ?_)
  refine j_ldc (v := (131072 : Int32)) C tw_789 dX9_findGoal_6 ?_
  refine j_istore (L' := [(0, .ref (adX X 116)), (1, .int l1), (2, .int l2), (3, .int l3), (4, .int l4), (5, .int (131072 : Int32))]) C dX9_findGoal_8 (by decide) [1, 2, 3, 4, 5, 0] rfl ?_
  refine j_iconst (v := (0 : Int32)) C dX9_findGoal_10 (by decide) ?_
  refine j_istore (L' := [(0, .ref (adX X 116)), (1, .int l1), (2, .int l2), (3, .int l3), (4, .int l4), (5, .int (131072 : Int32)), (6, .int (0 : Int32))]) C dX9_findGoal_11 (by decide) [1, 2, 3, 4, 5, 6, 0] rfl ?_
  refine j_sub (L' := [(0, .ref (adX X 116)), (1, .int l1), (3, .int l3), (4, .int l4), (5, .int (131072 : Int32)), (6, .int (0 : Int32))]) [0, 1, 3, 4, 5, 6] rfl ?_
  exact lb_X9_findGoal_13 C CR  n l1 l3 l4 (131072 : Int32) (0 : Int32) s1
set_option maxHeartbeats 4000000 in
theorem jb_X9_nextBox_74 {X : CtxT (Int32 × Mem)} (C : Cx YC X 5 cX9_nextBox RX9 (some .int) rm_X9_nextBox) (CR : CRi YC X) (k27 : Int32 → Int32 → Int32 → Mem → Option (Int32 × Mem)) (hk27 : ∀ (l2 : Int32) (l3 : Int32) (l4 : Int32) (s : Mem), J YC X 5 (k27 l2 l3 l4 s) 27 [(0, .ref (adX X 116)), (2, .int l2), (3, .int l3), (4, .int l4)] [] s) (n : Nat)  (l2 : Int32) (l3 : Int32) (l4 : Int32) (s : Mem) : J YC X 5 (b_X9_nextBox_74 k27 n  l2 l3 l4 s) 74 [(0, .ref (adX X 116)), (2, .int l2), (3, .int l3), (4, .int l4)] [] s := by
  unfold b_X9_nextBox_74
  refine j_iinc (L2 := fun x1 => [(0, .ref (adX X 116)), (2, .int l2), (3, .int l3), (4, .int x1)]) C dX9_nextBox_74 3 rfl (by decide) [1, 2, 3, 0] (fun _ => rfl) (fun x1 => ?_)
  refine j_goto (tgt := 27) C dX9_nextBox_77 (by decide) ?_
  exact hk27 l2 l3 x1 s
set_option maxHeartbeats 4000000 in
theorem jb_X9_nextBox_27 {X : CtxT (Int32 × Mem)} (C : Cx YC X 5 cX9_nextBox RX9 (some .int) rm_X9_nextBox) (CR : CRi YC X)  (n : Nat) (k27 : Int32 → Int32 → Int32 → Mem → Option (Int32 × Mem)) (hk27 : ∀ (l2 : Int32) (l3 : Int32) (l4 : Int32) (s : Mem), J YC X 5 (k27 l2 l3 l4 s) 27 [(0, .ref (adX X 116)), (2, .int l2), (3, .int l3), (4, .int l4)] [] s) (l2 : Int32) (l3 : Int32) (l4 : Int32) (s : Mem) : J YC X 5 (b_X9_nextBox_27  n k27 l2 l3 l4 s) 27 [(0, .ref (adX X 116)), (2, .int l2), (3, .int l3), (4, .int l4)] [] s := by
  unfold b_X9_nextBox_27
  refine j_iload C dX9_nextBox_27 3 rfl ?_
  refine j_bipush (v := (16 : Int32)) C dX9_nextBox_29 (by decide) ?_
  refine j_icmp_ge (tgt := 80) C dX9_nextBox_31 (by decide) ?_ ?_
  · refine j_iload_n C dX9_nextBox_80 1 rfl rfl ?_
    exact j_iret C CR dX9_nextBox_81
  · refine j_iload_n C dX9_nextBox_34 2 rfl rfl ?_
    refine j_iload C dX9_nextBox_35 3 rfl ?_
    refine j_ishr C dX9_nextBox_37 ?_
    refine j_iconst (v := (1 : Int32)) C dX9_nextBox_38 (by decide) ?_
    refine j_iand C dX9_nextBox_39 ?_
    refine j_if_eq (tgt := 74) C dX9_nextBox_40 (by decide) ?_ ?_
    · exact jb_X9_nextBox_74 C CR k27 hk27 n l2 l3 l4 s
    · refine j_aload_n C dX9_nextBox_43 0 rfl rfl ?_
      refine j_getR (z := 117) C kX9 kc_116 lc_116 3 (by decide) tw_419 rc_9_3 rfl dX9_nextBox_44 ?_
      refine j_iload C dX9_nextBox_47 3 rfl ?_
      refine j_iald C kc_117 lc_117 dX9_nextBox_49 ?_
      refine j_if_eq (tgt := 74) C dX9_nextBox_50 (by decide) ?_ ?_
      · exact jb_X9_nextBox_74 C CR k27 hk27 n l2 l3 l4 s
      · refine j_aload_n C dX9_nextBox_53 0 rfl rfl ?_
        refine j_getR (z := 117) C kX9 kc_116 lc_116 3 (by decide) tw_419 rc_9_3 rfl dX9_nextBox_54 ?_
        refine j_iload C dX9_nextBox_57 3 rfl ?_
        refine j_iald C kc_117 lc_117 dX9_nextBox_59 ?_
        refine j_aload_n C dX9_nextBox_60 0 rfl rfl ?_
        refine j_getR (z := 117) C kX9 kc_116 lc_116 3 (by decide) tw_419 rc_9_3 rfl dX9_nextBox_61 ?_
        refine j_iload_n C dX9_nextBox_64 1 rfl rfl ?_
        refine j_iald C kc_117 lc_117 dX9_nextBox_65 ?_
        refine j_iconst (v := (1 : Int32)) C dX9_nextBox_66 (by decide) ?_
        refine j_isub C dX9_nextBox_67 ?_
        refine j_icmp_ne (tgt := 74) C dX9_nextBox_68 (by decide) ?_ ?_
        · exact jb_X9_nextBox_74 C CR k27 hk27 n l2 l3 l4 s
        · refine j_iload C dX9_nextBox_71 3 rfl ?_
          exact j_iret C CR dX9_nextBox_73
theorem lb_X9_nextBox_27 {X : CtxT (Int32 × Mem)} (C : Cx YC X 5 cX9_nextBox RX9 (some .int) rm_X9_nextBox) (CR : CRi YC X)  : ∀ (n : Nat) (l2 : Int32) (l3 : Int32) (l4 : Int32) (s : Mem), J YC X 5 (itr3 (b_X9_nextBox_27) n l2 l3 l4 s) 27 [(0, .ref (adX X 116)), (2, .int l2), (3, .int l3), (4, .int l4)] [] s := by
  intro n
  induction n with
  | zero => intros; exact j_none
  | succ n ih =>
    intro l2 l3 l4 s
    exact jb_X9_nextBox_27 C CR  n _ ih l2 l3 l4 s
set_option maxHeartbeats 4000000 in
theorem c_X9_nextBox (n : Nat) (l1 : Int32) (l2 : Int32) (s : Mem) : CTi YC yX9_nextBox cX9_nextBox 5 (some .int) rm_X9_nextBox (fun ad => [.ref (ad 116), .int l1, .int l2]) s (f_X9_nextBox n l1 l2 s) := by
  refine CTi_of (by decide) (fun _ => Nat.le_of_ble_eq_true rfl) (fun X C CR => ?_)
  show J YC X 5 (f_X9_nextBox n l1 l2 s) 0 [(0, .ref (adX X 116)), (1, .int l1), (2, .int l2)] [] s
  unfold f_X9_nextBox
  refine j_aload_n C dX9_nextBox_0 0 rfl rfl ?_
  refine j_iload_n C dX9_nextBox_1 1 rfl rfl ?_
  refine j_aload_n C dX9_nextBox_2 0 rfl rfl ?_
  refine j_get C kX9 kc_116 lc_116 6 (by decide) tw_422 rc_9_6 dX9_nextBox_3 ?_
  refine j_callVn C (c_X9_measureFrom n l1 (s 116 6) s) cw_RX9_80 ⟨rfl, rfl, Nat.le_of_ble_eq_true rfl, Nat.le_of_ble_eq_true rfl⟩ 116 kX9 kc_116 lc_116 [.int l1, .int (s 116 6)] [] rfl rfl rfl (Nat.le_of_ble_eq_true rfl) dX9_nextBox_6 (fun s1 => ?_)
  refine j_aload_n C dX9_nextBox_9 0 rfl rfl ?_
  refine j_getA C kX9 kc_116 lc_116 1 (by decide) tw_417 rc_9_1 dX9_nextBox_10 ?_
  refine j_getR (z := 115) C kX1 kc_109 lc_109 5 (by decide) tw_395 rc_1_5 rfl dX9_nextBox_13 ?_
  refine j_iload_n C dX9_nextBox_16 1 rfl rfl ?_
  refine j_bipush (v := (16 : Int32)) C dX9_nextBox_17 (by decide) ?_
  refine j_imul C dX9_nextBox_19 ?_
  refine j_iload_n C dX9_nextBox_20 2 rfl rfl ?_
  refine j_iadd C dX9_nextBox_21 ?_
  refine j_iald C kc_115 lc_115 dX9_nextBox_22 ?_
  refine j_istore_n (L' := [(0, .ref (adX X 116)), (1, .int l1), (2, .int l2), (3, .int (s1 115 ((l1 * (16 : Int32)) + l2).toNatClampNeg))]) C dX9_nextBox_23 rfl (by decide) [1, 2, 3, 0] rfl ?_
  refine j_iconst (v := (0 : Int32)) C dX9_nextBox_24 (by decide) ?_
  refine j_istore (L' := [(0, .ref (adX X 116)), (1, .int l1), (2, .int l2), (3, .int (s1 115 ((l1 * (16 : Int32)) + l2).toNatClampNeg)), (4, .int (0 : Int32))]) C dX9_nextBox_25 (by decide) [1, 2, 3, 4, 0] rfl ?_
  refine j_sub (L' := [(0, .ref (adX X 116)), (2, .int l2), (3, .int (s1 115 ((l1 * (16 : Int32)) + l2).toNatClampNeg)), (4, .int (0 : Int32))]) [0, 2, 3, 4] rfl ?_
  exact lb_X9_nextBox_27 C CR  n l2 (s1 115 ((l1 * (16 : Int32)) + l2).toNatClampNeg) (0 : Int32) s1
set_option maxHeartbeats 4000000 in
theorem jb_J6_compare_7cf53_19 {Y : Lay} {X : CtxT (Int32 × Mem)} (C : Cx Y X 2 cJ6_compare_7cf53 RJ6 (some .int) rm_J6_compare_7cf53) (CR : CRi Y X)  (n : Nat)  (t0 : Int32) (s : Mem) : J Y X 2 (b_J6_compare_7cf53_19  n  t0 s) 19 [] [.int t0] s := by
  unfold b_J6_compare_7cf53_19
  exact j_iret C CR dJ6_compare_7cf53_19
set_option maxHeartbeats 4000000 in
theorem c_J6_compare_7cf53 (Y : Lay) (n : Nat) (l0 : Int32) (l1 : Int32) (s : Mem) : CTi Y yJ6_compare_7cf53 cJ6_compare_7cf53 2 (some .int) rm_J6_compare_7cf53 (fun ad => [.int l0, .int l1]) s (f_J6_compare_7cf53 n l0 l1 s) := by
  refine CTi_of (by decide) (fun _ => Nat.le_of_ble_eq_true rfl) (fun X C CR => ?_)
  show J Y X 2 (f_J6_compare_7cf53 n l0 l1 s) 0 [(0, .int l0), (1, .int l1)] [] s
  unfold f_J6_compare_7cf53
  refine j_iload_n C dJ6_compare_7cf53_0 0 rfl rfl ?_
  refine j_iload_n C dJ6_compare_7cf53_1 1 rfl rfl ?_
  refine j_icmp_ge (tgt := 9) C dJ6_compare_7cf53_2 (by decide) ?_ ?_
  · refine j_iload_n C dJ6_compare_7cf53_9 0 rfl rfl ?_
    refine j_iload_n C dJ6_compare_7cf53_10 1 rfl rfl ?_
    refine j_icmp_ne (tgt := 18) C dJ6_compare_7cf53_11 (by decide) ?_ ?_
    · refine j_iconst (v := (1 : Int32)) C dJ6_compare_7cf53_18 (by decide) ?_
      refine j_sub (L' := []) [] rfl ?_
      exact jb_J6_compare_7cf53_19 C CR  n (1 : Int32) s
    · refine j_iconst (v := (0 : Int32)) C dJ6_compare_7cf53_14 (by decide) ?_
      refine j_goto (tgt := 19) C dJ6_compare_7cf53_15 (by decide) ?_
      refine j_sub (L' := []) [] rfl ?_
      exact jb_J6_compare_7cf53_19 C CR  n (0 : Int32) s
  · refine j_iconst (v := (-1 : Int32)) C dJ6_compare_7cf53_5 (by decide) ?_
    refine j_goto (tgt := 19) C dJ6_compare_7cf53_6 (by decide) ?_
    refine j_sub (L' := []) [] rfl ?_
    exact jb_J6_compare_7cf53_19 C CR  n (-1 : Int32) s
set_option maxHeartbeats 4000000 in
theorem jb_X9_stepTo_106 {X : CtxT Mem} (C : Cx YC X 8 cX9_stepTo RX9 none rm_X9_stepTo) (CR : CRn YC X)  (n : Nat)   (s : Mem) : J YC X 8 (b_X9_stepTo_106  n   s) 106 [] [] s := by
  unfold b_X9_stepTo_106
  exact j_vret C CR dX9_stepTo_106
set_option maxHeartbeats 4000000 in
theorem jb_X9_stepTo_88 {X : CtxT Mem} (C : Cx YC X 8 cX9_stepTo RX9 none rm_X9_stepTo) (CR : CRn YC X)  (n : Nat)  (r1 : Nat) (h_r1 : isO 0 r1) (l5 : Int32) (s : Mem) : J YC X 8 (b_X9_stepTo_88  n  r1 l5 s) 88 [(1, .ref (adX X r1)), (5, .int l5)] [] s := by
  unfold b_X9_stepTo_88
  refine j_aload_n C dX9_stepTo_88 0 rfl rfl ?_
  refine j_dup C dX9_stepTo_89 rfl ?_
  refine j_get C kX0 (pk_0_0 _ h_r1) (pl_0_0 _ h_r1) 2 (by decide) tw_288 rc_0_2 dX9_stepTo_90 ?_
  refine j_iload C dX9_stepTo_93 1 rfl ?_
  refine j_aload_n C dX9_stepTo_95 0 rfl rfl ?_
  refine j_get C kX0 (pk_0_0 _ h_r1) (pl_0_0 _ h_r1) 2 (by decide) tw_288 rc_0_2 dX9_stepTo_96 ?_
  refine j_callSi C (c_J6_compare_7cf53 YC n l5 (s r1 2) s) cw_RX9_145 ⟨rfl, rfl, Nat.le_of_ble_eq_true rfl, Nat.le_of_ble_eq_true rfl⟩ [.int l5, .int (s r1 2)] [.int (s r1 2), .ref (adX X r1)] rfl rfl rfl (Nat.le_of_ble_eq_true rfl) dX9_stepTo_99 (fun x2 s1 => ?_)
  refine j_iadd C dX9_stepTo_102 ?_
  refine j_put C kX0 (pk_0_0 _ h_r1) (pl_0_0 _ h_r1) 2 (by decide) tw_288 rc_0_2 rfl rfl dX9_stepTo_103 (fun s3 => ?_)
  refine j_sub (L' := []) [] rfl ?_
  exact jb_X9_stepTo_106 C CR  n s3
set_option maxHeartbeats 4000000 in
theorem jb_X9_stepTo_63 {X : CtxT Mem} (C : Cx YC X 8 cX9_stepTo RX9 none rm_X9_stepTo) (CR : CRn YC X)  (n : Nat)  (r1 : Nat) (h_r1 : isO 0 r1) (l5 : Int32) (l6 : Int32) (t0 : Int32) (s : Mem) : J YC X 8 (b_X9_stepTo_63  n  r1 l5 l6 t0 s) 63 [(1, .ref (adX X r1)), (5, .int l5), (6, .int l6)] [.int t0] s := by
  unfold b_X9_stepTo_63
  refine j_istore (L' := [(1, .ref (adX X r1)), (5, .int l5), (6, .int l6), (7, .int t0)]) C dX9_stepTo_63 (by decide) [1, 2, 3, 0] rfl ?_
  refine j_iload C dX9_stepTo_65 2 rfl ?_
  refine j_aload_n C dX9_stepTo_67 0 rfl rfl ?_
  refine j_get C kX0 (pk_0_0 _ h_r1) (pl_0_0 _ h_r1) 1 (by decide) tw_285 rc_0_1 dX9_stepTo_68 ?_
  refine j_icmp_eq (tgt := 88) C dX9_stepTo_71 (by decide) ?_ ?_
  · refine j_sub (L' := [(1, .ref (adX X r1)), (5, .int l5)]) [0, 1] rfl ?_
    exact jb_X9_stepTo_88 C CR  n r1 h_r1 l5 s
  · refine j_iload C dX9_stepTo_74 3 rfl ?_
    refine j_if_eq (tgt := 88) C dX9_stepTo_76 (by decide) ?_ ?_
    · refine j_sub (L' := [(1, .ref (adX X r1)), (5, .int l5)]) [0, 1] rfl ?_
      exact jb_X9_stepTo_88 C CR  n r1 h_r1 l5 s
    · refine j_aload_n C dX9_stepTo_79 0 rfl rfl ?_
      refine j_iload C dX9_stepTo_80 2 rfl ?_
      refine j_put C kX0 (pk_0_0 _ h_r1) (pl_0_0 _ h_r1) 1 (by decide) tw_285 rc_0_1 rfl rfl dX9_stepTo_82 (fun s1 => ?_)
      refine j_goto (tgt := 106) C dX9_stepTo_85 (by decide) ?_
      refine j_sub (L' := []) [] rfl ?_
      exact jb_X9_stepTo_106 C CR  n s1
set_option maxHeartbeats 4000000 in
theorem jb_X9_stepTo_58 {X : CtxT Mem} (C : Cx YC X 8 cX9_stepTo RX9 none rm_X9_stepTo) (CR : CRn YC X)  (n : Nat)  (r1 : Nat) (h_r1 : isO 0 r1) (l5 : Int32) (l6 : Int32) (s : Mem) : J YC X 8 (b_X9_stepTo_58  n  r1 l5 l6 s) 58 [(1, .ref (adX X r1)), (5, .int l5), (6, .int l6)] [] s := by
  unfold b_X9_stepTo_58
  refine j_iconst (v := (1 : Int32)) C dX9_stepTo_58 (by decide) ?_
  refine j_goto (tgt := 63) C dX9_stepTo_59 (by decide) ?_
  exact jb_X9_stepTo_63 C CR  n r1 h_r1 l5 l6 (1 : Int32) s
set_option maxHeartbeats 4000000 in
theorem c_X9_stepTo (n : Nat) (r1 : Nat) (h_r1 : isO 0 r1) (l2 : Int32) (l3 : Int32) (l4 : Int32) (l5 : Int32) (s : Mem) : CTn YC yX9_stepTo cX9_stepTo 8 none rm_X9_stepTo (fun ad => [.ref (ad 116), .ref (ad r1), .int l2, .int l3, .int l4, .int l5]) s (f_X9_stepTo n r1 l2 l3 l4 l5 s) := by
  refine CTn_of (by decide) (fun _ => Nat.le_of_ble_eq_true rfl) (fun X C CR => ?_)
  show J YC X 8 (f_X9_stepTo n r1 l2 l3 l4 l5 s) 0 [(0, .ref (adX X 116)), (1, .ref (adX X r1)), (2, .int l2), (3, .int l3), (4, .int l4), (5, .int l5)] [] s
  unfold f_X9_stepTo
  refine j_aload_n C dX9_stepTo_0 1 rfl rfl ?_
  refine j_get C kX0 (pk_0_0 _ h_r1) (pl_0_0 _ h_r1) 1 (by decide) tw_285 rc_0_1 dX9_stepTo_1 ?_
  refine j_iload C dX9_stepTo_4 4 rfl ?_
  refine j_aload_n C dX9_stepTo_6 1 rfl rfl ?_
  refine j_get C kX0 (pk_0_0 _ h_r1) (pl_0_0 _ h_r1) 1 (by decide) tw_285 rc_0_1 dX9_stepTo_7 ?_
  refine j_callSi C (c_J6_compare_7cf53 YC n l4 (s r1 1) s) cw_RX9_145 ⟨rfl, rfl, Nat.le_of_ble_eq_true rfl, Nat.le_of_ble_eq_true rfl⟩ [.int l4, .int (s r1 1)] [.int (s r1 1)] rfl rfl rfl (Nat.le_of_ble_eq_true rfl) dX9_stepTo_10 (fun x2 s1 => ?_)
  refine j_iadd C dX9_stepTo_13 ?_
  refine j_top (fun x3 => ?_)
  refine j_istore (L' := [(0, .ref (adX X 116)), (1, .ref (adX X r1)), (2, .int l2), (3, .int l3), (4, .int l4), (5, .int l5), (6, .int x3)]) C dX9_stepTo_14 (by decide) [1, 2, 3, 4, 5, 6, 0] rfl ?_
  refine j_aload_n C dX9_stepTo_16 0 rfl rfl ?_
  refine j_getA C kX9 kc_116 lc_116 1 (by decide) tw_417 rc_9_1 dX9_stepTo_17 ?_
  refine j_aload_n C dX9_stepTo_20 1 rfl rfl ?_
  refine j_get C kX0 (pk_0_0 _ h_r1) (pl_0_0 _ h_r1) 0 (by decide) tw_282 rc_0_0 dX9_stepTo_21 ?_
  refine j_iload_n C dX9_stepTo_24 2 rfl rfl ?_
  refine j_iload C dX9_stepTo_25 6 rfl ?_
  refine j_aload_n C dX9_stepTo_27 1 rfl rfl ?_
  refine j_get C kX0 (pk_0_0 _ h_r1) (pl_0_0 _ h_r1) 2 (by decide) tw_288 rc_0_2 dX9_stepTo_28 ?_
  refine j_callVi C (c_X1_hasPoint n (s1 r1 0) l2 x3 (s1 r1 2) s1) cw_RX9_76 ⟨rfl, rfl, Nat.le_of_ble_eq_true rfl, Nat.le_of_ble_eq_true rfl⟩ 109 kX1 kc_109 lc_109 [.int (s1 r1 0), .int l2, .int x3, .int (s1 r1 2)] [] rfl rfl rfl (Nat.le_of_ble_eq_true rfl) dX9_stepTo_31 (fun x5 s4 => ?_)
  refine j_if_ne (tgt := 58) C dX9_stepTo_34 (by decide) ?_ ?_
  · refine j_sub (L' := [(1, .ref (adX X r1)), (5, .int l5), (6, .int x3)]) [1, 5, 6] rfl ?_
    exact jb_X9_stepTo_58 C CR  n r1 h_r1 l5 x3 s4
  · refine j_aload_n C dX9_stepTo_37 0 rfl rfl ?_
    refine j_getA C kX9 kc_116 lc_116 1 (by decide) tw_417 rc_9_1 dX9_stepTo_38 ?_
    refine j_aload_n C dX9_stepTo_41 1 rfl rfl ?_
    refine j_get C kX0 (pk_0_0 _ h_r1) (pl_0_0 _ h_r1) 0 (by decide) tw_282 rc_0_0 dX9_stepTo_42 ?_
    refine j_iload_n C dX9_stepTo_45 3 rfl rfl ?_
    refine j_iload C dX9_stepTo_46 6 rfl ?_
    refine j_aload_n C dX9_stepTo_48 1 rfl rfl ?_
    refine j_get C kX0 (pk_0_0 _ h_r1) (pl_0_0 _ h_r1) 2 (by decide) tw_288 rc_0_2 dX9_stepTo_49 ?_
    refine j_callVi C (c_X1_hasPoint n (s4 r1 0) l3 x3 (s4 r1 2) s4) cw_RX9_76 ⟨rfl, rfl, Nat.le_of_ble_eq_true rfl, Nat.le_of_ble_eq_true rfl⟩ 109 kX1 kc_109 lc_109 [.int (s4 r1 0), .int l3, .int x3, .int (s4 r1 2)] [] rfl rfl rfl (Nat.le_of_ble_eq_true rfl) dX9_stepTo_52 (fun x7 s6 => ?_)
    refine j_if_eq (tgt := 62) C dX9_stepTo_55 (by decide) ?_ ?_
    · refine j_iconst (v := (0 : Int32)) C dX9_stepTo_62 (by decide) ?_
      refine j_sub (L' := [(1, .ref (adX X r1)), (5, .int l5), (6, .int x3)]) [1, 5, 6] rfl ?_
      exact jb_X9_stepTo_63 C CR  n r1 h_r1 l5 x3 (0 : Int32) s6
    · refine j_sub (L' := [(1, .ref (adX X r1)), (5, .int l5), (6, .int x3)]) [1, 5, 6] rfl ?_
      exact jb_X9_stepTo_58 C CR  n r1 h_r1 l5 x3 s6
set_option maxHeartbeats 4000000 in
theorem jb_X9_step_154 {X : CtxT Mem} (C : Cx YC X 7 cX9_step RX9 none rm_X9_step) (CR : CRn YC X)  (n : Nat)   (s : Mem) : J YC X 7 (b_X9_step_154  n   s) 154 [] [] s := by
  unfold b_X9_step_154
  exact j_vret C CR dX9_step_154
set_option maxHeartbeats 4000000 in
theorem jb_X9_step_64 {X : CtxT Mem} (C : Cx YC X 7 cX9_step RX9 none rm_X9_step) (CR : CRn YC X)  (n : Nat)  (r1 : Nat) (h_r1 : isO 0 r1) (l2 : Int32) (l3 : Int32) (s : Mem) : J YC X 7 (b_X9_step_64  n  r1 l2 l3 s) 64 [(0, .ref (adX X 116)), (1, .ref (adX X r1)), (2, .int l2), (3, .int l3)] [] s := by
  unfold b_X9_step_64
  refine j_aload_n C dX9_step_64 0 rfl rfl ?_
  refine j_getA C kX9 kc_116 lc_116 1 (by decide) tw_417 rc_9_1 dX9_step_65 ?_
  refine j_iload_n C dX9_step_68 3 rfl rfl ?_
  refine j_iload_n C dX9_step_69 2 rfl rfl ?_
  refine j_aload_n C dX9_step_70 0 rfl rfl ?_
  refine j_get C kX9 kc_116 lc_116 4 (by decide) tw_420 rc_9_4 dX9_step_71 ?_
  refine j_aload_n C dX9_step_74 0 rfl rfl ?_
  refine j_get C kX9 kc_116 lc_116 5 (by decide) tw_421 rc_9_5 dX9_step_75 ?_
  refine j_callVi C (c_X1_hasPoint n l3 l2 (s 116 4) (s 116 5) s) cw_RX9_76 ⟨rfl, rfl, Nat.le_of_ble_eq_true rfl, Nat.le_of_ble_eq_true rfl⟩ 109 kX1 kc_109 lc_109 [.int l3, .int l2, .int (s 116 4), .int (s 116 5)] [] rfl rfl rfl (Nat.le_of_ble_eq_true rfl) dX9_step_78 (fun x2 s1 => ?_)
  refine j_if_eq (tgt := 102) C dX9_step_81 (by decide) ?_ ?_
  · refine j_aload_n C dX9_step_102 0 rfl rfl ?_
    refine j_iload_n C dX9_step_103 3 rfl rfl ?_
    refine j_iload_n C dX9_step_104 2 rfl rfl ?_
    refine j_callVi C (c_X9_nextBox n l3 l2 s1) cw_RX9_141 ⟨rfl, rfl, Nat.le_of_ble_eq_true rfl, Nat.le_of_ble_eq_true rfl⟩ 116 kX9 kc_116 lc_116 [.int l3, .int l2] [] rfl rfl rfl (Nat.le_of_ble_eq_true rfl) dX9_step_105 (fun x4 s3 => ?_)
    refine j_istore (L' := [(0, .ref (adX X 116)), (1, .ref (adX X r1)), (2, .int l2), (3, .int l3), (4, .int x4)]) C dX9_step_108 (by decide) [1, 2, 3, 4, 0] rfl ?_
    refine j_aload_n C dX9_step_110 0 rfl rfl ?_
    refine j_getA C kX9 kc_116 lc_116 1 (by decide) tw_417 rc_9_1 dX9_step_111 ?_
    refine j_iload_n C dX9_step_114 3 rfl rfl ?_
    refine j_iload C dX9_step_115 4 rfl ?_
    refine j_aload_n C dX9_step_117 1 rfl rfl ?_
    refine j_get C kX0 (pk_0_0 _ h_r1) (pl_0_0 _ h_r1) 1 (by decide) tw_285 rc_0_1 dX9_step_118 ?_
    refine j_callVi C (c_X1_nearestX n l3 x4 (s3 r1 1) s3) cw_RX9_118 ⟨rfl, rfl, Nat.le_of_ble_eq_true rfl, Nat.le_of_ble_eq_true rfl⟩ 109 kX1 kc_109 lc_109 [.int l3, .int x4, .int (s3 r1 1)] [] rfl rfl rfl (Nat.le_of_ble_eq_true rfl) dX9_step_121 (fun x6 s5 => ?_)
    refine j_istore (L' := [(0, .ref (adX X 116)), (1, .ref (adX X r1)), (2, .int l2), (3, .int l3), (4, .int x4), (5, .int x6)]) C dX9_step_124 (by decide) [1, 2, 3, 4, 5, 0] rfl ?_
    refine j_aload_n C dX9_step_126 0 rfl rfl ?_
    refine j_getA C kX9 kc_116 lc_116 1 (by decide) tw_417 rc_9_1 dX9_step_127 ?_
    refine j_iload_n C dX9_step_130 3 rfl rfl ?_
    refine j_iload C dX9_step_131 4 rfl ?_
    refine j_aload_n C dX9_step_133 1 rfl rfl ?_
    refine j_get C kX0 (pk_0_0 _ h_r1) (pl_0_0 _ h_r1) 2 (by decide) tw_288 rc_0_2 dX9_step_134 ?_
    refine j_callVi C (c_X1_nearestY n l3 x4 (s5 r1 2) s5) cw_RX9_122 ⟨rfl, rfl, Nat.le_of_ble_eq_true rfl, Nat.le_of_ble_eq_true rfl⟩ 109 kX1 kc_109 lc_109 [.int l3, .int x4, .int (s5 r1 2)] [] rfl rfl rfl (Nat.le_of_ble_eq_true rfl) dX9_step_137 (fun x8 s7 => ?_)
    refine j_istore (L' := [(0, .ref (adX X 116)), (1, .ref (adX X r1)), (2, .int l2), (3, .int l3), (4, .int x4), (5, .int x6), (6, .int x8)]) C dX9_step_140 (by decide) [1, 2, 3, 4, 5, 6, 0] rfl ?_
    refine j_aload_n C dX9_step_142 0 rfl rfl ?_
    refine j_aload_n C dX9_step_143 1 rfl rfl ?_
    refine j_iload_n C dX9_step_144 2 rfl rfl ?_
    refine j_iload C dX9_step_145 4 rfl ?_
    refine j_iload C dX9_step_147 5 rfl ?_
    refine j_iload C dX9_step_149 6 rfl ?_
    refine j_callVn C (c_X9_stepTo n r1 h_r1 l2 x4 x6 x8 s7) cw_RX9_137 ⟨rfl, rfl, Nat.le_of_ble_eq_true rfl, Nat.le_of_ble_eq_true rfl⟩ 116 kX9 kc_116 lc_116 [.ref (adX X r1), .int l2, .int x4, .int x6, .int x8] [] rfl rfl rfl (Nat.le_of_ble_eq_true rfl) dX9_step_151 (fun s9 => ?_)
    refine j_sub (L' := []) [] rfl ?_
    exact jb_X9_step_154 C CR  n s9
  · refine j_aload_n C dX9_step_84 0 rfl rfl ?_
    refine j_aload_n C dX9_step_85 1 rfl rfl ?_
    refine j_iload_n C dX9_step_86 2 rfl rfl ?_
    refine j_iload_n C dX9_step_87 2 rfl rfl ?_
    refine j_aload_n C dX9_step_88 0 rfl rfl ?_
    refine j_get C kX9 kc_116 lc_116 4 (by decide) tw_420 rc_9_4 dX9_step_89 ?_
    refine j_aload_n C dX9_step_92 0 rfl rfl ?_
    refine j_get C kX9 kc_116 lc_116 5 (by decide) tw_421 rc_9_5 dX9_step_93 ?_
    refine j_callVn C (c_X9_stepTo n r1 h_r1 l2 l2 (s1 116 4) (s1 116 5) s1) cw_RX9_137 ⟨rfl, rfl, Nat.le_of_ble_eq_true rfl, Nat.le_of_ble_eq_true rfl⟩ 116 kX9 kc_116 lc_116 [.ref (adX X r1), .int l2, .int l2, .int (s1 116 4), .int (s1 116 5)] [] rfl rfl rfl (Nat.le_of_ble_eq_true rfl) dX9_step_96 (fun s10 => ?_)
    refine j_goto (tgt := 154) C dX9_step_99 (by decide) ?_
    refine j_sub (L' := []) [] rfl ?_
    exact jb_X9_step_154 C CR  n s10
set_option maxHeartbeats 4000000 in
theorem c_X9_step (n : Nat) (r1 : Nat) (h_r1 : isO 0 r1) (s : Mem) : CTn YC yX9_step cX9_step 7 none rm_X9_step (fun ad => [.ref (ad 116), .ref (ad r1)]) s (f_X9_step n r1 s) := by
  refine CTn_of (by decide) (fun _ => Nat.le_of_ble_eq_true rfl) (fun X C CR => ?_)
  show J YC X 7 (f_X9_step n r1 s) 0 [(0, .ref (adX X 116)), (1, .ref (adX X r1))] [] s
  unfold f_X9_step
  refine j_aload_n C dX9_step_0 0 rfl rfl ?_
  refine j_aload_n C dX9_step_1 1 rfl rfl ?_
  refine j_callVi C (c_X9_boxOf n r1 h_r1 s) cw_RX9_83 ⟨rfl, rfl, Nat.le_of_ble_eq_true rfl, Nat.le_of_ble_eq_true rfl⟩ 116 kX9 kc_116 lc_116 [.ref (adX X r1)] [] rfl rfl rfl (Nat.le_of_ble_eq_true rfl) dX9_step_2 (fun x2 s1 => ?_)
  refine j_istore_n (L' := [(0, .ref (adX X 116)), (1, .ref (adX X r1)), (2, .int x2)]) C dX9_step_5 rfl (by decide) [1, 2, 0] rfl ?_
  refine j_iload_n C dX9_step_6 2 rfl rfl ?_
  refine j_iconst (v := (-1 : Int32)) C dX9_step_7 (by decide) ?_
  refine j_icmp_ne (tgt := 16) C dX9_step_8 (by decide) ?_ ?_
  · refine j_aload_n C dX9_step_16 1 rfl rfl ?_
    refine j_get C kX0 (pk_0_0 _ h_r1) (pl_0_0 _ h_r1) 0 (by decide) tw_282 rc_0_0 dX9_step_17 ?_
    refine j_istore_n (L' := [(0, .ref (adX X 116)), (1, .ref (adX X r1)), (2, .int x2), (3, .int (s1 r1 0))]) C dX9_step_20 rfl (by decide) [1, 2, 3, 0] rfl ?_
    refine j_aload_n C dX9_step_21 0 rfl rfl ?_
    refine j_iload_n C dX9_step_22 3 rfl rfl ?_
    refine j_iload_n C dX9_step_23 2 rfl rfl ?_
    refine j_aload_n C dX9_step_24 1 rfl rfl ?_
    refine j_get C kX0 (pk_0_0 _ h_r1) (pl_0_0 _ h_r1) 5 (by decide) tw_298 rc_0_5 dX9_step_25 ?_
    refine j_aload_n C dX9_step_28 1 rfl rfl ?_
    refine j_get C kX0 (pk_0_0 _ h_r1) (pl_0_0 _ h_r1) 6 (by decide) tw_300 rc_0_6 dX9_step_29 ?_
    refine j_callVn C (c_X9_findGoal n (s1 r1 0) x2 (s1 r1 5) (s1 r1 6) s1) cw_RX9_87 ⟨rfl, rfl, Nat.le_of_ble_eq_true rfl, Nat.le_of_ble_eq_true rfl⟩ 116 kX9 kc_116 lc_116 [.int (s1 r1 0), .int x2, .int (s1 r1 5), .int (s1 r1 6)] [] rfl rfl rfl (Nat.le_of_ble_eq_true rfl) dX9_step_32 (fun s3 => ?_)
    refine j_aload_n C dX9_step_35 1 rfl rfl ?_
    refine j_get C kX0 (pk_0_0 _ h_r1) (pl_0_0 _ h_r1) 1 (by decide) tw_285 rc_0_1 dX9_step_36 ?_
    refine j_aload_n C dX9_step_39 0 rfl rfl ?_
    refine j_get C kX9 kc_116 lc_116 4 (by decide) tw_420 rc_9_4 dX9_step_40 ?_
    refine j_icmp_ne (tgt := 64) C dX9_step_43 (by decide) ?_ ?_
    · exact jb_X9_step_64 C CR  n r1 h_r1 x2 (s1 r1 0) s3
    · refine j_aload_n C dX9_step_46 1 rfl rfl ?_
      refine j_get C kX0 (pk_0_0 _ h_r1) (pl_0_0 _ h_r1) 2 (by decide) tw_288 rc_0_2 dX9_step_47 ?_
      refine j_aload_n C dX9_step_50 0 rfl rfl ?_
      refine j_get C kX9 kc_116 lc_116 5 (by decide) tw_421 rc_9_5 dX9_step_51 ?_
      refine j_icmp_ne (tgt := 64) C dX9_step_54 (by decide) ?_ ?_
      · exact jb_X9_step_64 C CR  n r1 h_r1 x2 (s1 r1 0) s3
      · refine j_aload_n C dX9_step_57 1 rfl rfl ?_
        refine j_callVn C (c_X0_halt n r1 h_r1 s3) cw_RX9_128 ⟨rfl, rfl, Nat.le_of_ble_eq_true rfl, Nat.le_of_ble_eq_true rfl⟩ r1 kX0 (pk_0_0 _ h_r1) (pl_0_0 _ h_r1) [] [] rfl rfl rfl (Nat.le_of_ble_eq_true rfl) dX9_step_58 (fun s4 => ?_)
        refine j_goto (tgt := 154) C dX9_step_61 (by decide) ?_
        refine j_sub (L' := []) [] rfl ?_
        exact jb_X9_step_154 C CR  n s4
  · refine j_aload_n C dX9_step_11 1 rfl rfl ?_
    refine j_callVn C (c_X0_halt n r1 h_r1 s1) cw_RX9_128 ⟨rfl, rfl, Nat.le_of_ble_eq_true rfl, Nat.le_of_ble_eq_true rfl⟩ r1 kX0 (pk_0_0 _ h_r1) (pl_0_0 _ h_r1) [] [] rfl rfl rfl (Nat.le_of_ble_eq_true rfl) dX9_step_12 (fun s5 => ?_)
    exact j_vret C CR dX9_step_15
set_option maxHeartbeats 4000000 in
theorem jb_X9_moveAll_46 {X : CtxT Mem} (C : Cx YC X 4 cX9_moveAll RX9 none rm_X9_moveAll) (CR : CRn YC X) (k2 : Int32 → Mem → Option Mem) (hk2 : ∀ (l1 : Int32) (s : Mem), J YC X 4 (k2 l1 s) 2 [(0, .ref (adX X 116)), (1, .int l1)] [] s) (n : Nat)  (l1 : Int32) (s : Mem) : J YC X 4 (b_X9_moveAll_46 k2 n  l1 s) 46 [(0, .ref (adX X 116)), (1, .int l1)] [] s := by
  unfold b_X9_moveAll_46
  refine j_iinc (L2 := fun x1 => [(0, .ref (adX X 116)), (1, .int x1)]) C dX9_moveAll_46 1 rfl (by decide) [1, 0] (fun _ => rfl) (fun x1 => ?_)
  refine j_goto (tgt := 2) C dX9_moveAll_49 (by decide) ?_
  exact hk2 x1 s
set_option maxHeartbeats 4000000 in
theorem jb_X9_moveAll_20 {X : CtxT Mem} (C : Cx YC X 4 cX9_moveAll RX9 none rm_X9_moveAll) (CR : CRn YC X) (k2 : Int32 → Mem → Option Mem) (hk2 : ∀ (l1 : Int32) (s : Mem), J YC X 4 (k2 l1 s) 2 [(0, .ref (adX X 116)), (1, .int l1)] [] s) (n : Nat) (k20 : Int32 → Nat → Int32 → Mem → Option Mem) (hk20 : ∀ (l1 : Int32) (r2 : Nat) (h_r2 : isO 0 r2) (l3 : Int32) (s : Mem), J YC X 4 (k20 l1 r2 l3 s) 20 [(0, .ref (adX X 116)), (1, .int l1), (2, .ref (adX X r2)), (3, .int l3)] [] s) (l1 : Int32) (r2 : Nat) (h_r2 : isO 0 r2) (l3 : Int32) (s : Mem) : J YC X 4 (b_X9_moveAll_20 k2 n k20 l1 r2 l3 s) 20 [(0, .ref (adX X 116)), (1, .int l1), (2, .ref (adX X r2)), (3, .int l3)] [] s := by
  unfold b_X9_moveAll_20
  refine j_iload_n C dX9_moveAll_20 3 rfl rfl ?_
  refine j_aload_n C dX9_moveAll_21 2 rfl rfl ?_
  refine j_get C kX0 (pk_0_0 _ h_r2) (pl_0_0 _ h_r2) 3 (by decide) tw_292 rc_0_3 dX9_moveAll_22 ?_
  refine j_icmp_ge (tgt := 46) C dX9_moveAll_25 (by decide) ?_ ?_
  · refine j_sub (L' := [(0, .ref (adX X 116)), (1, .int l1)]) [0, 1] rfl ?_
    exact jb_X9_moveAll_46 C CR k2 hk2 n l1 s
  · refine j_aload_n C dX9_moveAll_28 2 rfl rfl ?_
    refine j_get C kX0 (pk_0_0 _ h_r2) (pl_0_0 _ h_r2) 4 (by decide) tw_296 rc_0_4 dX9_moveAll_29 ?_
    refine j_if_eq (tgt := 46) C dX9_moveAll_32 (by decide) ?_ ?_
    · refine j_sub (L' := [(0, .ref (adX X 116)), (1, .int l1)]) [0, 1] rfl ?_
      exact jb_X9_moveAll_46 C CR k2 hk2 n l1 s
    · refine j_aload_n C dX9_moveAll_35 0 rfl rfl ?_
      refine j_aload_n C dX9_moveAll_36 2 rfl rfl ?_
      refine j_callVn C (c_X9_step n r2 h_r2 s) cw_RX9_104 ⟨rfl, rfl, Nat.le_of_ble_eq_true rfl, Nat.le_of_ble_eq_true rfl⟩ 116 kX9 kc_116 lc_116 [.ref (adX X r2)] [] rfl rfl rfl (Nat.le_of_ble_eq_true rfl) dX9_moveAll_37 (fun s1 => ?_)
      refine j_iinc (L2 := fun x2 => [(0, .ref (adX X 116)), (1, .int l1), (2, .ref (adX X r2)), (3, .int x2)]) C dX9_moveAll_40 3 rfl (by decide) [1, 2, 3, 0] (fun _ => rfl) (fun x2 => ?_)
      refine j_goto (tgt := 20) C dX9_moveAll_43 (by decide) ?_
      exact hk20 l1 r2 h_r2 x2 s1
theorem lb_X9_moveAll_20 {X : CtxT Mem} (C : Cx YC X 4 cX9_moveAll RX9 none rm_X9_moveAll) (CR : CRn YC X) (k2 : Int32 → Mem → Option Mem) (hk2 : ∀ (l1 : Int32) (s : Mem), J YC X 4 (k2 l1 s) 2 [(0, .ref (adX X 116)), (1, .int l1)] [] s) : ∀ (n : Nat) (l1 : Int32) (r2 : Nat) (h_r2 : isO 0 r2) (l3 : Int32) (s : Mem), J YC X 4 (itr3 (b_X9_moveAll_20 k2) n l1 r2 l3 s) 20 [(0, .ref (adX X 116)), (1, .int l1), (2, .ref (adX X r2)), (3, .int l3)] [] s := by
  intro n
  induction n with
  | zero => intros; exact j_none
  | succ n ih =>
    intro l1 r2 h_r2 l3 s
    exact jb_X9_moveAll_20 C CR k2 hk2 n _ ih l1 r2 h_r2 l3 s
set_option maxHeartbeats 4000000 in
theorem jb_X9_moveAll_2 {X : CtxT Mem} (C : Cx YC X 4 cX9_moveAll RX9 none rm_X9_moveAll) (CR : CRn YC X)  (n : Nat) (k2 : Int32 → Mem → Option Mem) (hk2 : ∀ (l1 : Int32) (s : Mem), J YC X 4 (k2 l1 s) 2 [(0, .ref (adX X 116)), (1, .int l1)] [] s) (l1 : Int32) (s : Mem) : J YC X 4 (b_X9_moveAll_2  n k2 l1 s) 2 [(0, .ref (adX X 116)), (1, .int l1)] [] s := by
  unfold b_X9_moveAll_2
  refine j_iload_n C dX9_moveAll_2 1 rfl rfl ?_
  refine j_bipush (v := (12 : Int32)) C dX9_moveAll_3 (by decide) ?_
  refine j_icmp_gt (tgt := 52) C dX9_moveAll_5 (by decide) ?_ ?_
  · exact j_vret C CR dX9_moveAll_52
  · refine j_aload_n C dX9_moveAll_8 0 rfl rfl ?_
    refine j_getA C kX9 kc_116 lc_116 2 (by decide) tw_418 rc_9_2 dX9_moveAll_9 ?_
    refine j_getR (z := 41) C kX7 kc_33 lc_33 13 (by decide) tw_351 rc_7_13 rfl dX9_moveAll_12 ?_
    refine j_iload_n C dX9_moveAll_15 1 rfl rfl ?_
    refine j_aald4 C kc_41 lc_41 dX9_moveAll_16 (fun z1 e_z1 => ?_)
    have h_z1 : isO 0 z1 := (pe_7_8 _ io_7_33 _ e_z1)
    refine j_astore_n (L' := [(0, .ref (adX X 116)), (1, .int l1), (2, .ref (adX X z1))]) C dX9_moveAll_17 rfl (by decide) [1, 2, 0] rfl ?_
    refine j_iconst (v := (0 : Int32)) C dX9_moveAll_18 (by decide) ?_
    refine j_istore_n (L' := [(0, .ref (adX X 116)), (1, .int l1), (2, .ref (adX X z1)), (3, .int (0 : Int32))]) C dX9_moveAll_19 rfl (by decide) [1, 2, 3, 0] rfl ?_
    exact lb_X9_moveAll_20 C CR k2 hk2 n l1 z1 h_z1 (0 : Int32) s
theorem lb_X9_moveAll_2 {X : CtxT Mem} (C : Cx YC X 4 cX9_moveAll RX9 none rm_X9_moveAll) (CR : CRn YC X)  : ∀ (n : Nat) (l1 : Int32) (s : Mem), J YC X 4 (itr1 (b_X9_moveAll_2) n l1 s) 2 [(0, .ref (adX X 116)), (1, .int l1)] [] s := by
  intro n
  induction n with
  | zero => intros; exact j_none
  | succ n ih =>
    intro l1 s
    exact jb_X9_moveAll_2 C CR  n _ ih l1 s
set_option maxHeartbeats 4000000 in
theorem c_X9_moveAll (n : Nat)  (s : Mem) : CTn YC yX9_moveAll cX9_moveAll 4 none rm_X9_moveAll (fun ad => [.ref (ad 116)]) s (f_X9_moveAll n  s) := by
  refine CTn_of (by decide) (fun _ => Nat.le_of_ble_eq_true rfl) (fun X C CR => ?_)
  show J YC X 4 (f_X9_moveAll n  s) 0 [(0, .ref (adX X 116))] [] s
  unfold f_X9_moveAll
  refine j_iconst (v := (1 : Int32)) C dX9_moveAll_0 (by decide) ?_
  refine j_istore_n (L' := [(0, .ref (adX X 116)), (1, .int (1 : Int32))]) C dX9_moveAll_1 rfl (by decide) [1, 0] rfl ?_
  exact lb_X9_moveAll_2 C CR  n (1 : Int32) s
set_option maxHeartbeats 4000000 in
theorem jb_X5_beat_57 {X : CtxT (Int32 × Mem)} (C : Cx YC X 3 cX5_beat RX5 (some .int) rm_X5_beat) (CR : CRi YC X)  (n : Nat) (k57 : Int32 → Int32 → Mem → Option (Int32 × Mem)) (hk57 : ∀ (l1 : Int32) (l2 : Int32) (s : Mem), J YC X 3 (k57 l1 l2 s) 57 [(0, .ref (adX X 118)), (1, .int l1), (2, .int l2)] [] s) (l1 : Int32) (l2 : Int32) (s : Mem) : J YC X 3 (b_X5_beat_57  n k57 l1 l2 s) 57 [(0, .ref (adX X 118)), (1, .int l1), (2, .int l2)] [] s := by
  unfold b_X5_beat_57
  refine j_iload_n C dX5_beat_57 2 rfl rfl ?_
  refine j_bipush (v := (8 : Int32)) C dX5_beat_58 (by decide) ?_
  refine j_icmp_ge (tgt := 85) C dX5_beat_60 (by decide) ?_ ?_
  · refine j_aload_n C dX5_beat_85 0 rfl rfl ?_
    refine j_getA C kX5 kc_118 lc_118 3 (by decide) tw_447 rc_5_3 dX5_beat_86 ?_
    refine j_callVn C (c_X9_moveAll n  s) cw_RX5_58 ⟨rfl, rfl, Nat.le_of_ble_eq_true rfl, Nat.le_of_ble_eq_true rfl⟩ 116 kX9 kc_116 lc_116 [] [] rfl rfl rfl (Nat.le_of_ble_eq_true rfl) dX5_beat_89 (fun s1 => ?_)
    refine j_iload_n C dX5_beat_92 1 rfl rfl ?_
    exact j_iret C CR dX5_beat_93
  · refine j_iload_n C dX5_beat_63 1 rfl rfl ?_
    refine j_aload_n C dX5_beat_64 0 rfl rfl ?_
    refine j_aload_n C dX5_beat_65 0 rfl rfl ?_
    refine j_getA C kX5 kc_118 lc_118 2 (by decide) tw_446 rc_5_2 dX5_beat_66 ?_
    refine j_getR (z := 40) C kX7 kc_33 lc_33 12 (by decide) tw_348 rc_7_12 rfl dX5_beat_69 ?_
    refine j_iload_n C dX5_beat_72 2 rfl rfl ?_
    refine j_aald3 C kc_40 lc_40 dX5_beat_73 (fun z2 e_z2 => ?_)
    have h_z2 : isO 6 z2 := (pe_7_7 _ io_7_33 _ e_z2)
    refine j_callVi C (c_X5_turn n z2 h_z2 s) cw_RX5_54 ⟨rfl, rfl, Nat.le_of_ble_eq_true rfl, Nat.le_of_ble_eq_true rfl⟩ 118 kX5 kc_118 lc_118 [.ref (adX X z2)] [.int l1] rfl rfl rfl (Nat.le_of_ble_eq_true rfl) dX5_beat_74 (fun x4 s3 => ?_)
    refine j_iadd C dX5_beat_77 ?_
    refine j_top (fun x5 => ?_)
    refine j_istore_n (L' := [(0, .ref (adX X 118)), (1, .int x5), (2, .int l2)]) C dX5_beat_78 rfl (by decide) [1, 0, 2] rfl ?_
    refine j_iinc (L2 := fun x6 => [(0, .ref (adX X 118)), (1, .int x5), (2, .int x6)]) C dX5_beat_79 2 rfl (by decide) [1, 2, 0] (fun _ => rfl) (fun x6 => ?_)
    refine j_goto (tgt := 57) C dX5_beat_82 (by decide) ?_
    exact hk57 x5 x6 s3
theorem lb_X5_beat_57 {X : CtxT (Int32 × Mem)} (C : Cx YC X 3 cX5_beat RX5 (some .int) rm_X5_beat) (CR : CRi YC X)  : ∀ (n : Nat) (l1 : Int32) (l2 : Int32) (s : Mem), J YC X 3 (itr2 (b_X5_beat_57) n l1 l2 s) 57 [(0, .ref (adX X 118)), (1, .int l1), (2, .int l2)] [] s := by
  intro n
  induction n with
  | zero => intros; exact j_none
  | succ n ih =>
    intro l1 l2 s
    exact jb_X5_beat_57 C CR  n _ ih l1 l2 s
set_option maxHeartbeats 4000000 in
theorem jb_X5_beat_53 {X : CtxT (Int32 × Mem)} (C : Cx YC X 3 cX5_beat RX5 (some .int) rm_X5_beat) (CR : CRi YC X)  (n : Nat)   (s : Mem) : J YC X 3 (b_X5_beat_53  n   s) 53 [(0, .ref (adX X 118))] [] s := by
  unfold b_X5_beat_53
  refine j_iconst (v := (0 : Int32)) C dX5_beat_53 (by decide) ?_
  refine j_istore_n (L' := [(0, .ref (adX X 118)), (1, .int (0 : Int32))]) C dX5_beat_54 rfl (by decide) [1, 0] rfl ?_
  refine j_iconst (v := (0 : Int32)) C dX5_beat_55 (by decide) ?_
  refine j_istore_n (L' := [(0, .ref (adX X 118)), (1, .int (0 : Int32)), (2, .int (0 : Int32))]) C dX5_beat_56 rfl (by decide) [1, 2, 0] rfl ?_
  exact lb_X5_beat_57 C CR  n (0 : Int32) (0 : Int32) s
set_option maxHeartbeats 4000000 in
theorem c_X5_beat (n : Nat)  (s : Mem) : CTi YC yX5_beat cX5_beat 3 (some .int) rm_X5_beat (fun ad => [.ref (ad 118)]) s (f_X5_beat n  s) := by
  refine CTi_of (by decide) (fun _ => Nat.le_of_ble_eq_true rfl) (fun X C CR => ?_)
  show J YC X 3 (f_X5_beat n  s) 0 [(0, .ref (adX X 118))] [] s
  unfold f_X5_beat
  refine j_aload_n C dX5_beat_0 0 rfl rfl ?_
  refine j_getA C kX5 kc_118 lc_118 2 (by decide) tw_446 rc_5_2 dX5_beat_1 ?_
  refine j_dup C dX5_beat_4 rfl ?_
  refine j_get C kX7 kc_33 lc_33 0 (by decide) tw_317 rc_7_0 dX5_beat_5 ?_
  refine j_iconst (v := (1 : Int32)) C dX5_beat_8 (by decide) ?_
  refine j_iadd C dX5_beat_9 ?_
  refine j_put C kX7 kc_33 lc_33 0 (by decide) tw_317 rc_7_0 rfl rfl dX5_beat_10 (fun s1 => ?_)
  refine j_aload_n C dX5_beat_13 0 rfl rfl ?_
  refine j_getA C kX5 kc_118 lc_118 2 (by decide) tw_446 rc_5_2 dX5_beat_14 ?_
  refine j_getR (z := 34) C kX7 kc_33 lc_33 6 (by decide) tw_333 rc_7_6 rfl dX5_beat_17 ?_
  refine j_iconst (v := (0 : Int32)) C dX5_beat_20 (by decide) ?_
  refine j_aload_n C dX5_beat_21 0 rfl rfl ?_
  refine j_getA C kX5 kc_118 lc_118 2 (by decide) tw_446 rc_5_2 dX5_beat_22 ?_
  refine j_get C kX7 kc_33 lc_33 0 (by decide) tw_317 rc_7_0 dX5_beat_25 ?_
  refine j_iast C kc_34 lc_34 dX5_beat_28 (fun s2 => ?_)
  refine j_aload_n C dX5_beat_29 0 rfl rfl ?_
  refine j_getA C kX5 kc_118 lc_118 2 (by decide) tw_446 rc_5_2 dX5_beat_30 ?_
  refine j_get C kX7 kc_33 lc_33 5 (by decide) tw_330 rc_7_5 dX5_beat_33 ?_
  refine j_if_le (tgt := 53) C dX5_beat_36 (by decide) ?_ ?_
  · exact jb_X5_beat_53 C CR  n s2
  · refine j_aload_n C dX5_beat_39 0 rfl rfl ?_
    refine j_getA C kX5 kc_118 lc_118 2 (by decide) tw_446 rc_5_2 dX5_beat_40 ?_
    refine j_callVi C (c_X7_runsSentence n 33 io_7_33 s2) cw_RX5_43 ⟨rfl, rfl, Nat.le_of_ble_eq_true rfl, Nat.le_of_ble_eq_true rfl⟩ 33 kX7 kc_33 lc_33 [] [] rfl rfl rfl (Nat.le_of_ble_eq_true rfl) dX5_beat_43 (fun x4 s3 => ?_)
    refine j_if_ne (tgt := 53) C dX5_beat_46 (by decide) ?_ ?_
    · exact jb_X5_beat_53 C CR  n s3
    · refine j_aload_n C dX5_beat_49 0 rfl rfl ?_
      refine j_callVn C (c_X5_actOnSentence n  s3) cw_RX5_47 ⟨rfl, rfl, Nat.le_of_ble_eq_true rfl, Nat.le_of_ble_eq_true rfl⟩ 118 kX5 kc_118 lc_118 [] [] rfl rfl rfl (Nat.le_of_ble_eq_true rfl) dX5_beat_50 (fun s5 => ?_)
      exact jb_X5_beat_53 C CR  n s5
set_option maxHeartbeats 4000000 in
theorem c_X6_copyFrom (n : Nat) (r0 : Nat) (h_r0 : isO 6 r0) (r1 : Nat) (h_r1 : isO 6 r1) (s : Mem) : CTn YC yX6_copyFrom cX6_copyFrom 2 none rm_X6_copyFrom (fun ad => [.ref (ad r0), .ref (ad r1)]) s (f_X6_copyFrom n r0 r1 s) := by
  refine CTn_of (by decide) (fun _ => Nat.le_of_ble_eq_true rfl) (fun X C CR => ?_)
  show J YC X 2 (f_X6_copyFrom n r0 r1 s) 0 [(0, .ref (adX X r0)), (1, .ref (adX X r1))] [] s
  unfold f_X6_copyFrom
  refine j_aload_n C dX6_copyFrom_0 0 rfl rfl ?_
  refine j_aload_n C dX6_copyFrom_1 1 rfl rfl ?_
  refine j_get C kX6 (pk_6_0 _ h_r1) (pl_6_0 _ h_r1) 0 (by decide) tw_246 rc_6_0 dX6_copyFrom_2 ?_
  refine j_put C kX6 (pk_6_0 _ h_r0) (pl_6_0 _ h_r0) 0 (by decide) tw_246 rc_6_0 rfl rfl dX6_copyFrom_5 (fun s1 => ?_)
  refine j_aload_n C dX6_copyFrom_8 0 rfl rfl ?_
  refine j_aload_n C dX6_copyFrom_9 1 rfl rfl ?_
  refine j_get C kX6 (pk_6_0 _ h_r1) (pl_6_0 _ h_r1) 1 (by decide) tw_249 rc_6_1 dX6_copyFrom_10 ?_
  refine j_put C kX6 (pk_6_0 _ h_r0) (pl_6_0 _ h_r0) 1 (by decide) tw_249 rc_6_1 rfl rfl dX6_copyFrom_13 (fun s2 => ?_)
  refine j_aload_n C dX6_copyFrom_16 0 rfl rfl ?_
  refine j_aload_n C dX6_copyFrom_17 1 rfl rfl ?_
  refine j_get C kX6 (pk_6_0 _ h_r1) (pl_6_0 _ h_r1) 2 (by decide) tw_251 rc_6_2 dX6_copyFrom_18 ?_
  refine j_put C kX6 (pk_6_0 _ h_r0) (pl_6_0 _ h_r0) 2 (by decide) tw_251 rc_6_2 rfl rfl dX6_copyFrom_21 (fun s3 => ?_)
  refine j_aload_n C dX6_copyFrom_24 0 rfl rfl ?_
  refine j_aload_n C dX6_copyFrom_25 1 rfl rfl ?_
  refine j_get C kX6 (pk_6_0 _ h_r1) (pl_6_0 _ h_r1) 3 (by decide) tw_253 rc_6_3 dX6_copyFrom_26 ?_
  refine j_put C kX6 (pk_6_0 _ h_r0) (pl_6_0 _ h_r0) 3 (by decide) tw_253 rc_6_3 rfl rfl dX6_copyFrom_29 (fun s4 => ?_)
  refine j_aload_n C dX6_copyFrom_32 0 rfl rfl ?_
  refine j_aload_n C dX6_copyFrom_33 1 rfl rfl ?_
  refine j_get C kX6 (pk_6_0 _ h_r1) (pl_6_0 _ h_r1) 4 (by decide) tw_255 rc_6_4 dX6_copyFrom_34 ?_
  refine j_putZ C kX6 (pk_6_0 _ h_r0) (pl_6_0 _ h_r0) 4 (by decide) tw_255 rc_6_4 rfl rfl dX6_copyFrom_37 (fun s5 => ?_)
  refine j_aload_n C dX6_copyFrom_40 0 rfl rfl ?_
  refine j_aload_n C dX6_copyFrom_41 1 rfl rfl ?_
  refine j_get C kX6 (pk_6_0 _ h_r1) (pl_6_0 _ h_r1) 5 (by decide) tw_257 rc_6_5 dX6_copyFrom_42 ?_
  refine j_putZ C kX6 (pk_6_0 _ h_r0) (pl_6_0 _ h_r0) 5 (by decide) tw_257 rc_6_5 rfl rfl dX6_copyFrom_45 (fun s6 => ?_)
  refine j_aload_n C dX6_copyFrom_48 1 rfl rfl ?_
  refine j_getR (z := (r1 + 1)) C kX6 (pk_6_0 _ h_r1) (pl_6_0 _ h_r1) 6 (by decide) tw_259 rc_6_6 rfl dX6_copyFrom_49 ?_
  refine j_iconst (v := (0 : Int32)) C dX6_copyFrom_52 (by decide) ?_
  refine j_aload_n C dX6_copyFrom_53 0 rfl rfl ?_
  refine j_getR (z := (r0 + 1)) C kX6 (pk_6_0 _ h_r0) (pl_6_0 _ h_r0) 6 (by decide) tw_259 rc_6_6 rfl dX6_copyFrom_54 ?_
  refine j_iconst (v := (0 : Int32)) C dX6_copyFrom_57 (by decide) ?_
  refine j_iconst (v := (4 : Int32)) C dX6_copyFrom_58 (by decide) ?_
  refine j_copy C cw_RX6_41 ⟨Nat.le_of_ble_eq_true rfl, Nat.le_of_ble_eq_true rfl⟩ (pk_6_1 _ h_r1) (pl_6_1 _ h_r1) (pk_6_1 _ h_r0) (pl_6_1 _ h_r0) (Nat.le_of_ble_eq_true rfl) dX6_copyFrom_59 (fun s7 => ?_)
  exact j_vret C CR dX6_copyFrom_62
set_option maxHeartbeats 4000000 in
theorem jb_X6_number_72 {X : CtxT (Int32 × Mem)} (C : Cx YC X 2 cX6_number RX6 (some .int) rm_X6_number) (CR : CRi YC X)  (n : Nat)  (t0 : Int32) (s : Mem) : J YC X 2 (b_X6_number_72  n  t0 s) 72 [] [.int t0] s := by
  unfold b_X6_number_72
  exact j_iret C CR dX6_number_72
set_option maxHeartbeats 4000000 in
theorem jb_X6_number_85 {X : CtxT (Int32 × Mem)} (C : Cx YC X 2 cX6_number RX6 (some .int) rm_X6_number) (CR : CRi YC X)  (n : Nat)  (t0 : Int32) (s : Mem) : J YC X 2 (b_X6_number_85  n  t0 s) 85 [] [.int t0] s := by
  unfold b_X6_number_85
  exact j_iret C CR dX6_number_85
set_option maxHeartbeats 4000000 in
theorem jb_X6_number_111 {X : CtxT (Int32 × Mem)} (C : Cx YC X 2 cX6_number RX6 (some .int) rm_X6_number) (CR : CRi YC X)  (n : Nat)  (t0 : Int32) (s : Mem) : J YC X 2 (b_X6_number_111  n  t0 s) 111 [] [.int t0] s := by
  unfold b_X6_number_111
  exact j_iret C CR dX6_number_111
set_option maxHeartbeats 4000000 in
theorem jb_X6_number_110 {X : CtxT (Int32 × Mem)} (C : Cx YC X 2 cX6_number RX6 (some .int) rm_X6_number) (CR : CRi YC X)  (n : Nat)   (s : Mem) : J YC X 2 (b_X6_number_110  n   s) 110 [] [] s := by
  unfold b_X6_number_110
  refine j_iconst (v := (-1 : Int32)) C dX6_number_110 (by decide) ?_
  exact jb_X6_number_111 C CR  n (-1 : Int32) s
set_option maxHeartbeats 4000000 in
theorem c_X6_number (n : Nat) (r0 : Nat) (h_r0 : isO 6 r0) (l1 : Int32) (s : Mem) : CTi YC yX6_number cX6_number 2 (some .int) rm_X6_number (fun ad => [.ref (ad r0), .int l1]) s (f_X6_number n r0 l1 s) := by
  refine CTi_of (by decide) (fun _ => Nat.le_of_ble_eq_true rfl) (fun X C CR => ?_)
  show J YC X 2 (f_X6_number n r0 l1 s) 0 [(0, .ref (adX X r0)), (1, .int l1)] [] s
  unfold f_X6_number
  refine j_iload_n C dX6_number_0 1 rfl rfl ?_
  refine j_ite (fun hc => ?_) (fun hc0 => ?_)
  · refine j_tswI (off := 39) (tgt := 40) C dX6_number_1 (by rw [hc]; decide) (by rw [hc]; decide) (by rw [hc]; rfl) (by decide) ?_
    refine j_aload_n C dX6_number_40 0 rfl rfl ?_
    refine j_get C kX6 (pk_6_0 _ h_r0) (pl_6_0 _ h_r0) 0 (by decide) tw_246 rc_6_0 dX6_number_41 ?_
    exact j_iret C CR dX6_number_44
  refine j_ite (fun hc => ?_) (fun hc1 => ?_)
  · refine j_tswI (off := 44) (tgt := 45) C dX6_number_1 (by rw [hc]; decide) (by rw [hc]; decide) (by rw [hc]; rfl) (by decide) ?_
    refine j_aload_n C dX6_number_45 0 rfl rfl ?_
    refine j_get C kX6 (pk_6_0 _ h_r0) (pl_6_0 _ h_r0) 1 (by decide) tw_249 rc_6_1 dX6_number_46 ?_
    exact j_iret C CR dX6_number_49
  refine j_ite (fun hc => ?_) (fun hc2 => ?_)
  · refine j_tswI (off := 49) (tgt := 50) C dX6_number_1 (by rw [hc]; decide) (by rw [hc]; decide) (by rw [hc]; rfl) (by decide) ?_
    refine j_aload_n C dX6_number_50 0 rfl rfl ?_
    refine j_get C kX6 (pk_6_0 _ h_r0) (pl_6_0 _ h_r0) 2 (by decide) tw_251 rc_6_2 dX6_number_51 ?_
    exact j_iret C CR dX6_number_54
  refine j_ite (fun hc => ?_) (fun hc3 => ?_)
  · refine j_tswI (off := 54) (tgt := 55) C dX6_number_1 (by rw [hc]; decide) (by rw [hc]; decide) (by rw [hc]; rfl) (by decide) ?_
    refine j_aload_n C dX6_number_55 0 rfl rfl ?_
    refine j_get C kX6 (pk_6_0 _ h_r0) (pl_6_0 _ h_r0) 3 (by decide) tw_253 rc_6_3 dX6_number_56 ?_
    exact j_iret C CR dX6_number_59
  refine j_ite (fun hc => ?_) (fun hc4 => ?_)
  · refine j_tswI (off := 59) (tgt := 60) C dX6_number_1 (by rw [hc]; decide) (by rw [hc]; decide) (by rw [hc]; rfl) (by decide) ?_
    refine j_aload_n C dX6_number_60 0 rfl rfl ?_
    refine j_get C kX6 (pk_6_0 _ h_r0) (pl_6_0 _ h_r0) 4 (by decide) tw_255 rc_6_4 dX6_number_61 ?_
    refine j_if_eq (tgt := 71) C dX6_number_64 (by decide) ?_ ?_
    · refine j_iconst (v := (0 : Int32)) C dX6_number_71 (by decide) ?_
      refine j_sub (L' := []) [] rfl ?_
      exact jb_X6_number_72 C CR  n (0 : Int32) s
    · refine j_iconst (v := (1 : Int32)) C dX6_number_67 (by decide) ?_
      refine j_goto (tgt := 72) C dX6_number_68 (by decide) ?_
      refine j_sub (L' := []) [] rfl ?_
      exact jb_X6_number_72 C CR  n (1 : Int32) s
  refine j_ite (fun hc => ?_) (fun hc5 => ?_)
  · refine j_tswI (off := 72) (tgt := 73) C dX6_number_1 (by rw [hc]; decide) (by rw [hc]; decide) (by rw [hc]; rfl) (by decide) ?_
    refine j_aload_n C dX6_number_73 0 rfl rfl ?_
    refine j_get C kX6 (pk_6_0 _ h_r0) (pl_6_0 _ h_r0) 5 (by decide) tw_257 rc_6_5 dX6_number_74 ?_
    refine j_if_eq (tgt := 84) C dX6_number_77 (by decide) ?_ ?_
    · refine j_iconst (v := (0 : Int32)) C dX6_number_84 (by decide) ?_
      refine j_sub (L' := []) [] rfl ?_
      exact jb_X6_number_85 C CR  n (0 : Int32) s
    · refine j_iconst (v := (1 : Int32)) C dX6_number_80 (by decide) ?_
      refine j_goto (tgt := 85) C dX6_number_81 (by decide) ?_
      refine j_sub (L' := []) [] rfl ?_
      exact jb_X6_number_85 C CR  n (1 : Int32) s
  refine j_tswO (tgt := 86) C dX6_number_1 (by omega) (by decide) ?_
  refine j_iload_n C dX6_number_86 1 rfl rfl ?_
  refine j_bipush (v := (6 : Int32)) C dX6_number_87 (by decide) ?_
  refine j_icmp_lt (tgt := 110) C dX6_number_89 (by decide) ?_ ?_
  · refine j_sub (L' := []) [] rfl ?_
    exact jb_X6_number_110 C CR  n s
  · refine j_iload_n C dX6_number_92 1 rfl rfl ?_
    refine j_bipush (v := (10 : Int32)) C dX6_number_93 (by decide) ?_
    refine j_icmp_ge (tgt := 110) C dX6_number_95 (by decide) ?_ ?_
    · refine j_sub (L' := []) [] rfl ?_
      exact jb_X6_number_110 C CR  n s
    · refine j_aload_n C dX6_number_98 0 rfl rfl ?_
      refine j_getR (z := (r0 + 1)) C kX6 (pk_6_0 _ h_r0) (pl_6_0 _ h_r0) 6 (by decide) tw_259 rc_6_6 rfl dX6_number_99 ?_
      refine j_iload_n C dX6_number_102 1 rfl rfl ?_
      refine j_bipush (v := (6 : Int32)) C dX6_number_103 (by decide) ?_
      refine j_isub C dX6_number_105 ?_
      refine j_iald C (pk_6_1 _ h_r0) (pl_6_1 _ h_r0) dX6_number_106 ?_
      refine j_goto (tgt := 111) C dX6_number_107 (by decide) ?_
      refine j_sub (L' := []) [] rfl ?_
      exact jb_X6_number_111 C CR  n (s (r0 + 1) (l1 - (6 : Int32)).toNatClampNeg) s
set_option maxHeartbeats 4000000 in
theorem jb_X7_shutBoxes_43 {X : CtxT Mem} (C : Cx YC X 5 cX7_shutBoxes RX7 none rm_X7_shutBoxes) (CR : CRn YC X) (k16 : Nat → Nat → Int32 → Int32 → Int32 → Mem → Option Mem) (hk16 : ∀ (r0 : Nat) (h_r0 : isO 7 r0) (r1 : Nat) (h_r1 : isO 3 r1) (l2 : Int32) (l3 : Int32) (l4 : Int32) (s : Mem), J YC X 5 (k16 r0 r1 l2 l3 l4 s) 16 [(0, .ref (adX X r0)), (1, .ref (adX X r1)), (2, .int l2), (3, .int l3), (4, .int l4)] [] s) (n : Nat)  (r0 : Nat) (h_r0 : isO 7 r0) (r1 : Nat) (h_r1 : isO 3 r1) (l2 : Int32) (l3 : Int32) (l4 : Int32) (t0 : Int32) (t1 : Int32) (t2 : Int32) (u3 : Nat) (h_u3 : isO 7 u3) (s : Mem) : J YC X 5 (b_X7_shutBoxes_43 k16 n  r0 r1 l2 l3 l4 t0 t1 t2 u3 s) 43 [(0, .ref (adX X r0)), (1, .ref (adX X r1)), (2, .int l2), (3, .int l3), (4, .int l4)] [.int t0, .int t1, .int t2, .ref (adX X u3)] s := by
  unfold b_X7_shutBoxes_43
  refine j_callVn C (c_X7_shutBox n u3 h_u3 t2 t1 t0 s) cw_RX7_100 ⟨rfl, rfl, Nat.le_of_ble_eq_true rfl, Nat.le_of_ble_eq_true rfl⟩ u3 kX7 (pk_7_0 _ h_u3) (pl_7_0 _ h_u3) [.int t2, .int t1, .int t0] [] rfl rfl rfl (Nat.le_of_ble_eq_true rfl) dX7_shutBoxes_43 (fun s1 => ?_)
  refine j_iinc (L2 := fun x2 => [(0, .ref (adX X r0)), (1, .ref (adX X r1)), (2, .int l2), (3, .int l3), (4, .int x2)]) C dX7_shutBoxes_46 4 rfl (by decide) [1, 2, 3, 4, 0] (fun _ => rfl) (fun x2 => ?_)
  refine j_goto (tgt := 16) C dX7_shutBoxes_49 (by decide) ?_
  exact hk16 r0 h_r0 r1 h_r1 l2 l3 x2 s1
set_option maxHeartbeats 4000000 in
theorem jb_X7_shutBoxes_16 {X : CtxT Mem} (C : Cx YC X 5 cX7_shutBoxes RX7 none rm_X7_shutBoxes) (CR : CRn YC X)  (n : Nat) (k16 : Nat → Nat → Int32 → Int32 → Int32 → Mem → Option Mem) (hk16 : ∀ (r0 : Nat) (h_r0 : isO 7 r0) (r1 : Nat) (h_r1 : isO 3 r1) (l2 : Int32) (l3 : Int32) (l4 : Int32) (s : Mem), J YC X 5 (k16 r0 r1 l2 l3 l4 s) 16 [(0, .ref (adX X r0)), (1, .ref (adX X r1)), (2, .int l2), (3, .int l3), (4, .int l4)] [] s) (r0 : Nat) (h_r0 : isO 7 r0) (r1 : Nat) (h_r1 : isO 3 r1) (l2 : Int32) (l3 : Int32) (l4 : Int32) (s : Mem) : J YC X 5 (b_X7_shutBoxes_16  n k16 r0 r1 l2 l3 l4 s) 16 [(0, .ref (adX X r0)), (1, .ref (adX X r1)), (2, .int l2), (3, .int l3), (4, .int l4)] [] s := by
  unfold b_X7_shutBoxes_16
  refine j_iload C dX7_shutBoxes_16 4 rfl ?_
  refine j_iload_n C dX7_shutBoxes_18 3 rfl rfl ?_
  refine j_icmp_ge (tgt := 52) C dX7_shutBoxes_19 (by decide) ?_ ?_
  · exact j_vret C CR dX7_shutBoxes_52
  · refine j_aload_n C dX7_shutBoxes_22 0 rfl rfl ?_
    refine j_iload_n C dX7_shutBoxes_23 2 rfl rfl ?_
    refine j_iload C dX7_shutBoxes_24 4 rfl ?_
    refine j_aload_n C dX7_shutBoxes_26 1 rfl rfl ?_
    refine j_iload_n C dX7_shutBoxes_27 2 rfl rfl ?_
    refine j_iload C dX7_shutBoxes_28 4 rfl ?_
    refine j_iconst (v := (4 : Int32)) C dX7_shutBoxes_30 (by decide) ?_
    refine j_callVi C (c_X3_boxByte n r1 h_r1 l2 l4 (4 : Int32) s) cw_RX7_96 ⟨rfl, rfl, Nat.le_of_ble_eq_true rfl, Nat.le_of_ble_eq_true rfl⟩ r1 kX3 (pk_3_0 _ h_r1) (pl_3_0 _ h_r1) [.int l2, .int l4, .int (4 : Int32)] [.int l4, .int l2, .ref (adX X r0)] rfl rfl rfl (Nat.le_of_ble_eq_true rfl) dX7_shutBoxes_31 (fun x2 s1 => ?_)
    refine j_iconst (v := (1 : Int32)) C dX7_shutBoxes_34 (by decide) ?_
    refine j_icmp_ne (tgt := 42) C dX7_shutBoxes_35 (by decide) ?_ ?_
    · refine j_iconst (v := (0 : Int32)) C dX7_shutBoxes_42 (by decide) ?_
      exact jb_X7_shutBoxes_43 C CR k16 hk16 n r0 h_r0 r1 h_r1 l2 l3 l4 (0 : Int32) l4 l2 r0 h_r0 s1
    · refine j_iconst (v := (1 : Int32)) C dX7_shutBoxes_38 (by decide) ?_
      refine j_goto (tgt := 43) C dX7_shutBoxes_39 (by decide) ?_
      exact jb_X7_shutBoxes_43 C CR k16 hk16 n r0 h_r0 r1 h_r1 l2 l3 l4 (1 : Int32) l4 l2 r0 h_r0 s1
theorem lb_X7_shutBoxes_16 {X : CtxT Mem} (C : Cx YC X 5 cX7_shutBoxes RX7 none rm_X7_shutBoxes) (CR : CRn YC X)  : ∀ (n : Nat) (r0 : Nat) (h_r0 : isO 7 r0) (r1 : Nat) (h_r1 : isO 3 r1) (l2 : Int32) (l3 : Int32) (l4 : Int32) (s : Mem), J YC X 5 (itr5 (b_X7_shutBoxes_16) n r0 r1 l2 l3 l4 s) 16 [(0, .ref (adX X r0)), (1, .ref (adX X r1)), (2, .int l2), (3, .int l3), (4, .int l4)] [] s := by
  intro n
  induction n with
  | zero => intros; exact j_none
  | succ n ih =>
    intro r0 h_r0 r1 h_r1 l2 l3 l4 s
    exact jb_X7_shutBoxes_16 C CR  n _ ih r0 h_r0 r1 h_r1 l2 l3 l4 s
set_option maxHeartbeats 4000000 in
theorem c_X7_shutBoxes (n : Nat) (r0 : Nat) (h_r0 : isO 7 r0) (r1 : Nat) (h_r1 : isO 3 r1) (l2 : Int32) (s : Mem) : CTn YC yX7_shutBoxes cX7_shutBoxes 5 none rm_X7_shutBoxes (fun ad => [.ref (ad r0), .ref (ad r1), .int l2]) s (f_X7_shutBoxes n r0 r1 l2 s) := by
  refine CTn_of (by decide) (fun _ => Nat.le_of_ble_eq_true rfl) (fun X C CR => ?_)
  show J YC X 5 (f_X7_shutBoxes n r0 r1 l2 s) 0 [(0, .ref (adX X r0)), (1, .ref (adX X r1)), (2, .int l2)] [] s
  unfold f_X7_shutBoxes
  refine j_aload_n C dX7_shutBoxes_0 0 rfl rfl ?_
  refine j_getR (z := (r0 + 6)) C kX7 (pk_7_0 _ h_r0) (pl_7_0 _ h_r0) 11 (by decide) tw_345 rc_7_11 rfl dX7_shutBoxes_1 ?_
  refine j_iload_n C dX7_shutBoxes_4 2 rfl rfl ?_
  refine j_iconst (v := (0 : Int32)) C dX7_shutBoxes_5 (by decide) ?_
  refine j_iast C (pk_7_6 _ h_r0) (pl_7_6 _ h_r0) dX7_shutBoxes_6 (fun s1 => ?_)
  refine j_aload_n C dX7_shutBoxes_7 1 rfl rfl ?_
  refine j_iload_n C dX7_shutBoxes_8 2 rfl rfl ?_
  refine j_callVi C (c_X3_boxesOf n r1 h_r1 l2 s1) cw_RX7_92 ⟨rfl, rfl, Nat.le_of_ble_eq_true rfl, Nat.le_of_ble_eq_true rfl⟩ r1 kX3 (pk_3_0 _ h_r1) (pl_3_0 _ h_r1) [.int l2] [] rfl rfl rfl (Nat.le_of_ble_eq_true rfl) dX7_shutBoxes_9 (fun x3 s2 => ?_)
  refine j_istore_n (L' := [(0, .ref (adX X r0)), (1, .ref (adX X r1)), (2, .int l2), (3, .int x3)]) C dX7_shutBoxes_12 rfl (by decide) [1, 2, 3, 0] rfl ?_
  refine j_iconst (v := (0 : Int32)) C dX7_shutBoxes_13 (by decide) ?_
  refine j_istore (L' := [(0, .ref (adX X r0)), (1, .ref (adX X r1)), (2, .int l2), (3, .int x3), (4, .int (0 : Int32))]) C dX7_shutBoxes_14 (by decide) [1, 2, 3, 4, 0] rfl ?_
  exact lb_X7_shutBoxes_16 C CR  n r0 h_r0 r1 h_r1 l2 x3 (0 : Int32) s2
set_option maxHeartbeats 4000000 in
theorem jb_X7_open_153 {X : CtxT Mem} (C : Cx YC X 3 cX7_open RX7 none rm_X7_open) (CR : CRn YC X)  (n : Nat) (k153 : Nat → Nat → Int32 → Mem → Option Mem) (hk153 : ∀ (r0 : Nat) (h_r0 : isO 7 r0) (r1 : Nat) (h_r1 : isO 3 r1) (l2 : Int32) (s : Mem), J YC X 3 (k153 r0 r1 l2 s) 153 [(0, .ref (adX X r0)), (1, .ref (adX X r1)), (2, .int l2)] [] s) (r0 : Nat) (h_r0 : isO 7 r0) (r1 : Nat) (h_r1 : isO 3 r1) (l2 : Int32) (s : Mem) : J YC X 3 (b_X7_open_153  n k153 r0 r1 l2 s) 153 [(0, .ref (adX X r0)), (1, .ref (adX X r1)), (2, .int l2)] [] s := by
  unfold b_X7_open_153
  refine j_iload_n C dX7_open_153 2 rfl rfl ?_
  refine j_bipush (v := (20 : Int32)) C dX7_open_154 (by decide) ?_
  refine j_icmp_gt (tgt := 171) C dX7_open_156 (by decide) ?_ ?_
  · exact j_vret C CR dX7_open_171
  · refine j_aload_n C dX7_open_159 0 rfl rfl ?_
    refine j_aload_n C dX7_open_160 1 rfl rfl ?_
    refine j_iload_n C dX7_open_161 2 rfl rfl ?_
    refine j_callVn C (c_X7_shutBoxes n r0 h_r0 r1 h_r1 l2 s) cw_RX7_88 ⟨rfl, rfl, Nat.le_of_ble_eq_true rfl, Nat.le_of_ble_eq_true rfl⟩ r0 kX7 (pk_7_0 _ h_r0) (pl_7_0 _ h_r0) [.ref (adX X r1), .int l2] [] rfl rfl rfl (Nat.le_of_ble_eq_true rfl) dX7_open_162 (fun s1 => ?_)
    refine j_iinc (L2 := fun x2 => [(0, .ref (adX X r0)), (1, .ref (adX X r1)), (2, .int x2)]) C dX7_open_165 2 rfl (by decide) [1, 2, 0] (fun _ => rfl) (fun x2 => ?_)
    refine j_goto (tgt := 153) C dX7_open_168 (by decide) ?_
    exact hk153 r0 h_r0 r1 h_r1 x2 s1
theorem lb_X7_open_153 {X : CtxT Mem} (C : Cx YC X 3 cX7_open RX7 none rm_X7_open) (CR : CRn YC X)  : ∀ (n : Nat) (r0 : Nat) (h_r0 : isO 7 r0) (r1 : Nat) (h_r1 : isO 3 r1) (l2 : Int32) (s : Mem), J YC X 3 (itr3 (b_X7_open_153) n r0 r1 l2 s) 153 [(0, .ref (adX X r0)), (1, .ref (adX X r1)), (2, .int l2)] [] s := by
  intro n
  induction n with
  | zero => intros; exact j_none
  | succ n ih =>
    intro r0 h_r0 r1 h_r1 l2 s
    exact jb_X7_open_153 C CR  n _ ih r0 h_r0 r1 h_r1 l2 s
set_option maxHeartbeats 4000000 in
theorem jb_X7_open_97 {X : CtxT Mem} (C : Cx YC X 3 cX7_open RX7 none rm_X7_open) (CR : CRn YC X)  (n : Nat) (k97 : Nat → Nat → Int32 → Mem → Option Mem) (hk97 : ∀ (r0 : Nat) (h_r0 : isO 7 r0) (r1 : Nat) (h_r1 : isO 3 r1) (l2 : Int32) (s : Mem), J YC X 3 (k97 r0 r1 l2 s) 97 [(0, .ref (adX X r0)), (1, .ref (adX X r1)), (2, .int l2)] [] s) (r0 : Nat) (h_r0 : isO 7 r0) (r1 : Nat) (h_r1 : isO 3 r1) (l2 : Int32) (s : Mem) : J YC X 3 (b_X7_open_97  n k97 r0 r1 l2 s) 97 [(0, .ref (adX X r0)), (1, .ref (adX X r1)), (2, .int l2)] [] s := by
  unfold b_X7_open_97
  refine j_iload_n C dX7_open_97 2 rfl rfl ?_
  refine j_bipush (v := (12 : Int32)) C dX7_open_98 (by decide) ?_
  refine j_icmp_gt (tgt := 151) C dX7_open_100 (by decide) ?_ ?_
  · refine j_iconst (v := (0 : Int32)) C dX7_open_151 (by decide) ?_
    refine j_istore_n (L' := [(0, .ref (adX X r0)), (1, .ref (adX X r1)), (2, .int (0 : Int32))]) C dX7_open_152 rfl (by decide) [1, 2, 0] rfl ?_
    exact lb_X7_open_153 C CR  n r0 h_r0 r1 h_r1 (0 : Int32) s
  · refine j_aload_n C dX7_open_103 0 rfl rfl ?_
    refine j_getR (z := (r0 + 8)) C kX7 (pk_7_0 _ h_r0) (pl_7_0 _ h_r0) 13 (by decide) tw_350 rc_7_13 rfl dX7_open_104 ?_
    refine j_iload_n C dX7_open_107 2 rfl rfl ?_
    refine j_aald4 C (pk_7_8 _ h_r0) (pl_7_8 _ h_r0) dX7_open_108 (fun z1 e_z1 => ?_)
    have h_z1 : isO 0 z1 := (pe_7_8 _ h_r0 _ e_z1)
    refine j_aload_n C dX7_open_109 1 rfl rfl ?_
    refine j_iload_n C dX7_open_110 2 rfl rfl ?_
    refine j_iconst (v := (0 : Int32)) C dX7_open_111 (by decide) ?_
    refine j_callVi C (c_X3_actorByte n r1 h_r1 l2 (0 : Int32) s) cw_RX7_78 ⟨rfl, rfl, Nat.le_of_ble_eq_true rfl, Nat.le_of_ble_eq_true rfl⟩ r1 kX3 (pk_3_0 _ h_r1) (pl_3_0 _ h_r1) [.int l2, .int (0 : Int32)] [.ref (adX X z1)] rfl rfl rfl (Nat.le_of_ble_eq_true rfl) dX7_open_112 (fun x3 s2 => ?_)
    refine j_aload_n C dX7_open_115 1 rfl rfl ?_
    refine j_iload_n C dX7_open_116 2 rfl rfl ?_
    refine j_iconst (v := (1 : Int32)) C dX7_open_117 (by decide) ?_
    refine j_callVi C (c_X3_actorByte n r1 h_r1 l2 (1 : Int32) s2) cw_RX7_78 ⟨rfl, rfl, Nat.le_of_ble_eq_true rfl, Nat.le_of_ble_eq_true rfl⟩ r1 kX3 (pk_3_0 _ h_r1) (pl_3_0 _ h_r1) [.int l2, .int (1 : Int32)] [.int x3, .ref (adX X z1)] rfl rfl rfl (Nat.le_of_ble_eq_true rfl) dX7_open_118 (fun x5 s4 => ?_)
    refine j_aload_n C dX7_open_121 1 rfl rfl ?_
    refine j_iload_n C dX7_open_122 2 rfl rfl ?_
    refine j_iconst (v := (2 : Int32)) C dX7_open_123 (by decide) ?_
    refine j_callVi C (c_X3_actorByte n r1 h_r1 l2 (2 : Int32) s4) cw_RX7_78 ⟨rfl, rfl, Nat.le_of_ble_eq_true rfl, Nat.le_of_ble_eq_true rfl⟩ r1 kX3 (pk_3_0 _ h_r1) (pl_3_0 _ h_r1) [.int l2, .int (2 : Int32)] [.int x5, .int x3, .ref (adX X z1)] rfl rfl rfl (Nat.le_of_ble_eq_true rfl) dX7_open_124 (fun x7 s6 => ?_)
    refine j_callVn C (c_X0_putAt n z1 h_z1 x3 x5 x7 s6) cw_RX7_81 ⟨rfl, rfl, Nat.le_of_ble_eq_true rfl, Nat.le_of_ble_eq_true rfl⟩ z1 kX0 (pk_0_0 _ h_z1) (pl_0_0 _ h_z1) [.int x3, .int x5, .int x7] [] rfl rfl rfl (Nat.le_of_ble_eq_true rfl) dX7_open_127 (fun s8 => ?_)
    refine j_aload_n C dX7_open_130 0 rfl rfl ?_
    refine j_getR (z := (r0 + 8)) C kX7 (pk_7_0 _ h_r0) (pl_7_0 _ h_r0) 13 (by decide) tw_350 rc_7_13 rfl dX7_open_131 ?_
    refine j_iload_n C dX7_open_134 2 rfl rfl ?_
    refine j_aald4 C (pk_7_8 _ h_r0) (pl_7_8 _ h_r0) dX7_open_135 (fun z9 e_z9 => ?_)
    have h_z9 : isO 0 z9 := (pe_7_8 _ h_r0 _ e_z9)
    refine j_aload_n C dX7_open_136 1 rfl rfl ?_
    refine j_iload_n C dX7_open_137 2 rfl rfl ?_
    refine j_iconst (v := (3 : Int32)) C dX7_open_138 (by decide) ?_
    refine j_callVi C (c_X3_actorByte n r1 h_r1 l2 (3 : Int32) s8) cw_RX7_78 ⟨rfl, rfl, Nat.le_of_ble_eq_true rfl, Nat.le_of_ble_eq_true rfl⟩ r1 kX3 (pk_3_0 _ h_r1) (pl_3_0 _ h_r1) [.int l2, .int (3 : Int32)] [.ref (adX X z9)] rfl rfl rfl (Nat.le_of_ble_eq_true rfl) dX7_open_139 (fun x11 s10 => ?_)
    refine j_put C kX0 (pk_0_0 _ h_z9) (pl_0_0 _ h_z9) 3 (by decide) tw_290 rc_0_3 rfl rfl dX7_open_142 (fun s12 => ?_)
    refine j_iinc (L2 := fun x13 => [(0, .ref (adX X r0)), (1, .ref (adX X r1)), (2, .int x13)]) C dX7_open_145 2 rfl (by decide) [1, 2, 0] (fun _ => rfl) (fun x13 => ?_)
    refine j_goto (tgt := 97) C dX7_open_148 (by decide) ?_
    exact hk97 r0 h_r0 r1 h_r1 x13 s12
theorem lb_X7_open_97 {X : CtxT Mem} (C : Cx YC X 3 cX7_open RX7 none rm_X7_open) (CR : CRn YC X)  : ∀ (n : Nat) (r0 : Nat) (h_r0 : isO 7 r0) (r1 : Nat) (h_r1 : isO 3 r1) (l2 : Int32) (s : Mem), J YC X 3 (itr3 (b_X7_open_97) n r0 r1 l2 s) 97 [(0, .ref (adX X r0)), (1, .ref (adX X r1)), (2, .int l2)] [] s := by
  intro n
  induction n with
  | zero => intros; exact j_none
  | succ n ih =>
    intro r0 h_r0 r1 h_r1 l2 s
    exact jb_X7_open_97 C CR  n _ ih r0 h_r0 r1 h_r1 l2 s
set_option maxHeartbeats 4000000 in
theorem jb_X7_open_71 {X : CtxT Mem} (C : Cx YC X 3 cX7_open RX7 none rm_X7_open) (CR : CRn YC X)  (n : Nat) (k71 : Nat → Nat → Int32 → Mem → Option Mem) (hk71 : ∀ (r0 : Nat) (h_r0 : isO 7 r0) (r1 : Nat) (h_r1 : isO 3 r1) (l2 : Int32) (s : Mem), J YC X 3 (k71 r0 r1 l2 s) 71 [(0, .ref (adX X r0)), (1, .ref (adX X r1)), (2, .int l2)] [] s) (r0 : Nat) (h_r0 : isO 7 r0) (r1 : Nat) (h_r1 : isO 3 r1) (l2 : Int32) (s : Mem) : J YC X 3 (b_X7_open_71  n k71 r0 r1 l2 s) 71 [(0, .ref (adX X r0)), (1, .ref (adX X r1)), (2, .int l2)] [] s := by
  unfold b_X7_open_71
  refine j_iload_n C dX7_open_71 2 rfl rfl ?_
  refine j_bipush (v := (60 : Int32)) C dX7_open_72 (by decide) ?_
  refine j_icmp_gt (tgt := 95) C dX7_open_74 (by decide) ?_ ?_
  · refine j_iconst (v := (0 : Int32)) C dX7_open_95 (by decide) ?_
    refine j_istore_n (L' := [(0, .ref (adX X r0)), (1, .ref (adX X r1)), (2, .int (0 : Int32))]) C dX7_open_96 rfl (by decide) [1, 2, 0] rfl ?_
    exact lb_X7_open_97 C CR  n r0 h_r0 r1 h_r1 (0 : Int32) s
  · refine j_aload_n C dX7_open_77 0 rfl rfl ?_
    refine j_getR (z := (r0 + 4)) C kX7 (pk_7_0 _ h_r0) (pl_7_0 _ h_r0) 9 (by decide) tw_339 rc_7_9 rfl dX7_open_78 ?_
    refine j_iload_n C dX7_open_81 2 rfl rfl ?_
    refine j_aload_n C dX7_open_82 1 rfl rfl ?_
    refine j_iload_n C dX7_open_83 2 rfl rfl ?_
    refine j_iconst (v := (3 : Int32)) C dX7_open_84 (by decide) ?_
    refine j_callVi C (c_X3_whereIs n r1 h_r1 l2 (3 : Int32) s) cw_RX7_72 ⟨rfl, rfl, Nat.le_of_ble_eq_true rfl, Nat.le_of_ble_eq_true rfl⟩ r1 kX3 (pk_3_0 _ h_r1) (pl_3_0 _ h_r1) [.int l2, .int (3 : Int32)] [.int l2, .ref (adX X (r0 + 4))] rfl rfl rfl (Nat.le_of_ble_eq_true rfl) dX7_open_85 (fun x2 s1 => ?_)
    refine j_iast C (pk_7_4 _ h_r0) (pl_7_4 _ h_r0) dX7_open_88 (fun s3 => ?_)
    refine j_iinc (L2 := fun x4 => [(0, .ref (adX X r0)), (1, .ref (adX X r1)), (2, .int x4)]) C dX7_open_89 2 rfl (by decide) [1, 2, 0] (fun _ => rfl) (fun x4 => ?_)
    refine j_goto (tgt := 71) C dX7_open_92 (by decide) ?_
    exact hk71 r0 h_r0 r1 h_r1 x4 s3
theorem lb_X7_open_71 {X : CtxT Mem} (C : Cx YC X 3 cX7_open RX7 none rm_X7_open) (CR : CRn YC X)  : ∀ (n : Nat) (r0 : Nat) (h_r0 : isO 7 r0) (r1 : Nat) (h_r1 : isO 3 r1) (l2 : Int32) (s : Mem), J YC X 3 (itr3 (b_X7_open_71) n r0 r1 l2 s) 71 [(0, .ref (adX X r0)), (1, .ref (adX X r1)), (2, .int l2)] [] s := by
  intro n
  induction n with
  | zero => intros; exact j_none
  | succ n ih =>
    intro r0 h_r0 r1 h_r1 l2 s
    exact jb_X7_open_71 C CR  n _ ih r0 h_r0 r1 h_r1 l2 s
set_option maxHeartbeats 4000000 in
theorem jb_X7_open_48 {X : CtxT Mem} (C : Cx YC X 3 cX7_open RX7 none rm_X7_open) (CR : CRn YC X)  (n : Nat) (k48 : Nat → Nat → Int32 → Mem → Option Mem) (hk48 : ∀ (r0 : Nat) (h_r0 : isO 7 r0) (r1 : Nat) (h_r1 : isO 3 r1) (l2 : Int32) (s : Mem), J YC X 3 (k48 r0 r1 l2 s) 48 [(0, .ref (adX X r0)), (1, .ref (adX X r1)), (2, .int l2)] [] s) (r0 : Nat) (h_r0 : isO 7 r0) (r1 : Nat) (h_r1 : isO 3 r1) (l2 : Int32) (s : Mem) : J YC X 3 (b_X7_open_48  n k48 r0 r1 l2 s) 48 [(0, .ref (adX X r0)), (1, .ref (adX X r1)), (2, .int l2)] [] s := by
  unfold b_X7_open_48
  refine j_iload_n C dX7_open_48 2 rfl rfl ?_
  refine j_bipush (v := (8 : Int32)) C dX7_open_49 (by decide) ?_
  refine j_icmp_ge (tgt := 69) C dX7_open_51 (by decide) ?_ ?_
  · refine j_iconst (v := (0 : Int32)) C dX7_open_69 (by decide) ?_
    refine j_istore_n (L' := [(0, .ref (adX X r0)), (1, .ref (adX X r1)), (2, .int (0 : Int32))]) C dX7_open_70 rfl (by decide) [1, 2, 0] rfl ?_
    exact lb_X7_open_71 C CR  n r0 h_r0 r1 h_r1 (0 : Int32) s
  · refine j_aload_n C dX7_open_54 0 rfl rfl ?_
    refine j_getR (z := (r0 + 7)) C kX7 (pk_7_0 _ h_r0) (pl_7_0 _ h_r0) 12 (by decide) tw_347 rc_7_12 rfl dX7_open_55 ?_
    refine j_iload_n C dX7_open_58 2 rfl rfl ?_
    refine j_aald3 C (pk_7_7 _ h_r0) (pl_7_7 _ h_r0) dX7_open_59 (fun z1 e_z1 => ?_)
    have h_z1 : isO 6 z1 := (pe_7_7 _ h_r0 _ e_z1)
    refine j_callVn C (c_X6_release n z1 h_z1 s) cw_RX7_69 ⟨rfl, rfl, Nat.le_of_ble_eq_true rfl, Nat.le_of_ble_eq_true rfl⟩ z1 kX6 (pk_6_0 _ h_z1) (pl_6_0 _ h_z1) [] [] rfl rfl rfl (Nat.le_of_ble_eq_true rfl) dX7_open_60 (fun s2 => ?_)
    refine j_iinc (L2 := fun x3 => [(0, .ref (adX X r0)), (1, .ref (adX X r1)), (2, .int x3)]) C dX7_open_63 2 rfl (by decide) [1, 2, 0] (fun _ => rfl) (fun x3 => ?_)
    refine j_goto (tgt := 48) C dX7_open_66 (by decide) ?_
    exact hk48 r0 h_r0 r1 h_r1 x3 s2
theorem lb_X7_open_48 {X : CtxT Mem} (C : Cx YC X 3 cX7_open RX7 none rm_X7_open) (CR : CRn YC X)  : ∀ (n : Nat) (r0 : Nat) (h_r0 : isO 7 r0) (r1 : Nat) (h_r1 : isO 3 r1) (l2 : Int32) (s : Mem), J YC X 3 (itr3 (b_X7_open_48) n r0 r1 l2 s) 48 [(0, .ref (adX X r0)), (1, .ref (adX X r1)), (2, .int l2)] [] s := by
  intro n
  induction n with
  | zero => intros; exact j_none
  | succ n ih =>
    intro r0 h_r0 r1 h_r1 l2 s
    exact jb_X7_open_48 C CR  n _ ih r0 h_r0 r1 h_r1 l2 s
set_option maxHeartbeats 4000000 in
theorem c_X7_open (n : Nat) (r0 : Nat) (h_r0 : isO 7 r0) (r1 : Nat) (h_r1 : isO 3 r1) (s : Mem) : CTn YC yX7_open cX7_open 3 none rm_X7_open (fun ad => [.ref (ad r0), .ref (ad r1)]) s (f_X7_open n r0 r1 s) := by
  refine CTn_of (by decide) (fun _ => Nat.le_of_ble_eq_true rfl) (fun X C CR => ?_)
  show J YC X 3 (f_X7_open n r0 r1 s) 0 [(0, .ref (adX X r0)), (1, .ref (adX X r1))] [] s
  unfold f_X7_open
  refine j_aload_n C dX7_open_0 0 rfl rfl ?_
  refine j_iconst (v := (0 : Int32)) C dX7_open_1 (by decide) ?_
  refine j_put C kX7 (pk_7_0 _ h_r0) (pl_7_0 _ h_r0) 0 (by decide) tw_316 rc_7_0 rfl rfl dX7_open_2 (fun s1 => ?_)
  refine j_aload_n C dX7_open_5 0 rfl rfl ?_
  refine j_iconst (v := (1 : Int32)) C dX7_open_6 (by decide) ?_
  refine j_put C kX7 (pk_7_0 _ h_r0) (pl_7_0 _ h_r0) 1 (by decide) tw_319 rc_7_1 rfl rfl dX7_open_7 (fun s2 => ?_)
  refine j_aload_n C dX7_open_10 0 rfl rfl ?_
  refine j_iconst (v := (0 : Int32)) C dX7_open_11 (by decide) ?_
  refine j_put C kX7 (pk_7_0 _ h_r0) (pl_7_0 _ h_r0) 2 (by decide) tw_321 rc_7_2 rfl rfl dX7_open_12 (fun s3 => ?_)
  refine j_aload_n C dX7_open_15 0 rfl rfl ?_
  refine j_iconst (v := (0 : Int32)) C dX7_open_16 (by decide) ?_
  refine j_put C kX7 (pk_7_0 _ h_r0) (pl_7_0 _ h_r0) 3 (by decide) tw_323 rc_7_3 rfl rfl dX7_open_17 (fun s4 => ?_)
  refine j_aload_n C dX7_open_20 0 rfl rfl ?_
  refine j_iconst (v := (0 : Int32)) C dX7_open_21 (by decide) ?_
  refine j_put C kX7 (pk_7_0 _ h_r0) (pl_7_0 _ h_r0) 4 (by decide) tw_326 rc_7_4 rfl rfl dX7_open_22 (fun s5 => ?_)
  refine j_aload_n C dX7_open_25 0 rfl rfl ?_
  refine j_iconst (v := (0 : Int32)) C dX7_open_26 (by decide) ?_
  refine j_put C kX7 (pk_7_0 _ h_r0) (pl_7_0 _ h_r0) 5 (by decide) tw_329 rc_7_5 rfl rfl dX7_open_27 (fun s6 => ?_)
  refine j_aload_n C dX7_open_30 0 rfl rfl ?_
  refine j_getR (z := (r0 + 1)) C kX7 (pk_7_0 _ h_r0) (pl_7_0 _ h_r0) 6 (by decide) tw_332 rc_7_6 rfl dX7_open_31 ?_
  refine j_iconst (v := (0 : Int32)) C dX7_open_34 (by decide) ?_
  refine j_callSn C (c_fill (pk_7_1 _ h_r0) (pl_7_1 _ h_r0) (by decide) (0 : Int32) s6) cw_RX7_63 ⟨rfl, rfl, Nat.le_of_ble_eq_true rfl, Nat.le_of_ble_eq_true rfl⟩ [.ref (adX X (r0 + 1)), .int (0 : Int32)] [] rfl rfl rfl (Nat.le_of_ble_eq_true rfl) dX7_open_35 (fun s7 => ?_)
  refine j_aload_n C dX7_open_38 0 rfl rfl ?_
  refine j_getR (z := (r0 + 5)) C kX7 (pk_7_0 _ h_r0) (pl_7_0 _ h_r0) 10 (by decide) tw_342 rc_7_10 rfl dX7_open_39 ?_
  refine j_iconst (v := (0 : Int32)) C dX7_open_42 (by decide) ?_
  refine j_callSn C (c_fill (pk_7_5 _ h_r0) (pl_7_5 _ h_r0) (by decide) (0 : Int32) s7) cw_RX7_63 ⟨rfl, rfl, Nat.le_of_ble_eq_true rfl, Nat.le_of_ble_eq_true rfl⟩ [.ref (adX X (r0 + 5)), .int (0 : Int32)] [] rfl rfl rfl (Nat.le_of_ble_eq_true rfl) dX7_open_43 (fun s8 => ?_)
  refine j_iconst (v := (0 : Int32)) C dX7_open_46 (by decide) ?_
  refine j_istore_n (L' := [(0, .ref (adX X r0)), (1, .ref (adX X r1)), (2, .int (0 : Int32))]) C dX7_open_47 rfl (by decide) [1, 2, 0] rfl ?_
  exact lb_X7_open_48 C CR  n r0 h_r0 r1 h_r1 (0 : Int32) s8
