set_option maxHeartbeats 4000000 in
theorem jb_X11_frees_2 {b : Bool} {X : CtxT Mem} (C : Cx (YM b) X 3 cX11_frees RX11 none rm_X11_frees) (CR : CRn (YM b) X)  (n : Nat) (k2 : Int32 → Int32 → Mem → Option Mem) (hk2 : ∀ (l1 : Int32) (l2 : Int32) (s : Mem), J (YM b) X 3 (k2 l1 l2 s) 2 [(0, .ref (adX X 0)), (1, .int l1), (2, .int l2)] [] s) (l1 : Int32) (l2 : Int32) (s : Mem) : J (YM b) X 3 (b_X11_frees_2  n k2 l1 l2 s) 2 [(0, .ref (adX X 0)), (1, .int l1), (2, .int l2)] [] s := by
  unfold b_X11_frees_2
  refine j_iload_n C dX11_frees_2 2 rfl rfl ?_
  refine j_bipush (v := (10 : Int32)) C dX11_frees_3 (by decide) ?_
  refine j_icmp_ge (tgt := 21) C dX11_frees_5 (by decide) ?_ ?_
  · exact j_vret C CR dX11_frees_21
  · refine j_aload_n C dX11_frees_8 0 rfl rfl ?_
    refine j_iload_n C dX11_frees_9 1 rfl rfl ?_
    refine j_iload_n C dX11_frees_10 2 rfl rfl ?_
    refine j_iconst (v := (0 : Int32)) C dX11_frees_11 (by decide) ?_
    refine j_callVn C (c_X11_to b n l1 l2 (0 : Int32) s) cw_RX11_148 ⟨rfl, rfl, Nat.le_of_ble_eq_true rfl, Nat.le_of_ble_eq_true rfl⟩ 0 kX11 (km_0 b) (lm_0 b) [.int l1, .int l2, .int (0 : Int32)] [] rfl rfl rfl (Nat.le_of_ble_eq_true rfl) dX11_frees_12 (fun s1 => ?_)
    refine j_iinc (L2 := fun x2 => [(0, .ref (adX X 0)), (1, .int l1), (2, .int x2)]) C dX11_frees_15 2 rfl (by decide) [1, 2, 0] (fun _ => rfl) (fun x2 => ?_)
    refine j_goto (tgt := 2) C dX11_frees_18 (by decide) ?_
    exact hk2 l1 x2 s1
theorem lb_X11_frees_2 {b : Bool} {X : CtxT Mem} (C : Cx (YM b) X 3 cX11_frees RX11 none rm_X11_frees) (CR : CRn (YM b) X)  : ∀ (n : Nat) (l1 : Int32) (l2 : Int32) (s : Mem), J (YM b) X 3 (itr2 (b_X11_frees_2) n l1 l2 s) 2 [(0, .ref (adX X 0)), (1, .int l1), (2, .int l2)] [] s := by
  intro n
  induction n with
  | zero => intros; exact j_none
  | succ n ih =>
    intro l1 l2 s
    exact jb_X11_frees_2 C CR  n _ ih l1 l2 s
set_option maxHeartbeats 4000000 in
theorem c_X11_frees (b : Bool) (n : Nat) (l1 : Int32) (s : Mem) : CTn (YM b) yX11_frees cX11_frees 3 none rm_X11_frees (fun ad => [.ref (ad 0), .int l1]) s (f_X11_frees n l1 s) := by
  refine CTn_of (by decide) (fun _ => Nat.le_of_ble_eq_true rfl) (fun X C CR => ?_)
  show J (YM b) X 3 (f_X11_frees n l1 s) 0 [(0, .ref (adX X 0)), (1, .int l1)] [] s
  unfold f_X11_frees
  refine j_iconst (v := (0 : Int32)) C dX11_frees_0 (by decide) ?_
  refine j_istore_n (L' := [(0, .ref (adX X 0)), (1, .int l1), (2, .int (0 : Int32))]) C dX11_frees_1 rfl (by decide) [1, 2, 0] rfl ?_
  exact lb_X11_frees_2 C CR  n l1 (0 : Int32) s
set_option maxHeartbeats 4000000 in
theorem jb_X11_isScript_26 {b : Bool} {X : CtxT (Int32 × Mem)} (C : Cx (YM b) X 2 cX11_isScript RX11 (some .boolean) rm_X11_isScript) (CR : CRi (YM b) X)  (n : Nat)  (t0 : Int32) (s : Mem) : J (YM b) X 2 (b_X11_isScript_26  n  t0 s) 26 [] [.int t0] s := by
  unfold b_X11_isScript_26
  exact j_zret C CR dX11_isScript_26
set_option maxHeartbeats 4000000 in
theorem jb_X11_isScript_25 {b : Bool} {X : CtxT (Int32 × Mem)} (C : Cx (YM b) X 2 cX11_isScript RX11 (some .boolean) rm_X11_isScript) (CR : CRi (YM b) X)  (n : Nat)   (s : Mem) : J (YM b) X 2 (b_X11_isScript_25  n   s) 25 [] [] s := by
  unfold b_X11_isScript_25
  refine j_iconst (v := (0 : Int32)) C dX11_isScript_25 (by decide) ?_
  exact jb_X11_isScript_26 C CR  n (0 : Int32) s
set_option maxHeartbeats 4000000 in
theorem c_X11_isScript (b : Bool) (n : Nat) (l1 : Int32) (s : Mem) : CTi (YM b) yX11_isScript cX11_isScript 2 (some .boolean) rm_X11_isScript (fun ad => [.ref (ad 0), .int l1]) s (f_X11_isScript n l1 s) := by
  refine CTi_of (by decide) (fun _ => Nat.le_of_ble_eq_true rfl) (fun X C CR => ?_)
  show J (YM b) X 2 (f_X11_isScript n l1 s) 0 [(0, .ref (adX X 0)), (1, .int l1)] [] s
  unfold f_X11_isScript
  refine j_iload_n C dX11_isScript_0 1 rfl rfl ?_
  refine j_i2l C dX11_isScript_1 ?_
  refine j_lconst (v := 1) C dX11_isScript_2 (by decide) ?_
  refine j_ldc2 (v := 60) C tw_1399 dX11_isScript_3 ?_
  refine j_callSi C (c_X11_in b n l1.toInt64 (1 : Int64) (60 : Int64) s) cw_RX11_72 ⟨rfl, rfl, Nat.le_of_ble_eq_true rfl, Nat.le_of_ble_eq_true rfl⟩ [.long l1.toInt64, .long (1 : Int64), .long (60 : Int64)] [] rfl rfl rfl (Nat.le_of_ble_eq_true rfl) dX11_isScript_6 (fun x2 s1 => ?_)
  refine j_if_eq (tgt := 25) C dX11_isScript_9 (by decide) ?_ ?_
  · refine j_sub (L' := []) [] rfl ?_
    exact jb_X11_isScript_25 C CR  n s1
  · refine j_aload_n C dX11_isScript_12 0 rfl rfl ?_
    refine j_getR (z := 7) C kX11 (km_0 b) (lm_0 b) 13 (by decide) tw_1206 (rm_13 b) rfl dX11_isScript_13 ?_
    refine j_iload_n C dX11_isScript_16 1 rfl rfl ?_
    refine j_iald C (km_7 b) (lm_7 b) dX11_isScript_17 ?_
    refine j_if_le (tgt := 25) C dX11_isScript_18 (by decide) ?_ ?_
    · refine j_sub (L' := []) [] rfl ?_
      exact jb_X11_isScript_25 C CR  n s1
    · refine j_iconst (v := (1 : Int32)) C dX11_isScript_21 (by decide) ?_
      refine j_goto (tgt := 26) C dX11_isScript_22 (by decide) ?_
      refine j_sub (L' := []) [] rfl ?_
      exact jb_X11_isScript_26 C CR  n (1 : Int32) s1
set_option maxHeartbeats 4000000 in
theorem jb_X11_started_12 {b : Bool} {X : CtxT (Int32 × Mem)} (C : Cx (YM b) X 3 cX11_started RX11 (some .int) rm_X11_started) (CR : CRi (YM b) X)  (n : Nat) (k12 : Int32 → Int32 → Mem → Option (Int32 × Mem)) (hk12 : ∀ (l1 : Int32) (l2 : Int32) (s : Mem), J (YM b) X 3 (k12 l1 l2 s) 12 [(0, .ref (adX X 0)), (1, .int l1), (2, .int l2)] [] s) (l1 : Int32) (l2 : Int32) (s : Mem) : J (YM b) X 3 (b_X11_started_12  n k12 l1 l2 s) 12 [(0, .ref (adX X 0)), (1, .int l1), (2, .int l2)] [] s := by
  unfold b_X11_started_12
  refine j_iload_n C dX11_started_12 2 rfl rfl ?_
  refine j_bipush (v := (8 : Int32)) C dX11_started_13 (by decide) ?_
  refine j_icmp_ge (tgt := 47) C dX11_started_15 (by decide) ?_ ?_
  · refine j_aload_n C dX11_started_47 0 rfl rfl ?_
    refine j_getR (z := 15) C kX11 (km_0 b) (lm_0 b) 27 (by decide) tw_1220 (rm_27 b) rfl dX11_started_48 ?_
    refine j_iconst (v := (4 : Int32)) C dX11_started_51 (by decide) ?_
    refine j_dup2 C dX11_started_52 rfl rfl ?_
    refine j_iald C (km_15 b) (lm_15 b) dX11_started_53 ?_
    refine j_iconst (v := (1 : Int32)) C dX11_started_54 (by decide) ?_
    refine j_iadd C dX11_started_55 ?_
    refine j_iast C (km_15 b) (lm_15 b) dX11_started_56 (fun s1 => ?_)
    refine j_iconst (v := (-1 : Int32)) C dX11_started_57 (by decide) ?_
    exact j_iret C CR dX11_started_58
  · refine j_aload_n C dX11_started_18 0 rfl rfl ?_
    refine j_iload_n C dX11_started_19 2 rfl rfl ?_
    refine j_iconst (v := (0 : Int32)) C dX11_started_20 (by decide) ?_
    refine j_callVi C (c_X11_of b n l2 (0 : Int32) s) cw_RX11_158 ⟨rfl, rfl, Nat.le_of_ble_eq_true rfl, Nat.le_of_ble_eq_true rfl⟩ 0 kX11 (km_0 b) (lm_0 b) [.int l2, .int (0 : Int32)] [] rfl rfl rfl (Nat.le_of_ble_eq_true rfl) dX11_started_21 (fun x3 s2 => ?_)
    refine j_if_ne (tgt := 41) C dX11_started_24 (by decide) ?_ ?_
    · refine j_iinc (L2 := fun x4 => [(0, .ref (adX X 0)), (1, .int l1), (2, .int x4)]) C dX11_started_41 2 rfl (by decide) [1, 2, 0] (fun _ => rfl) (fun x4 => ?_)
      refine j_goto (tgt := 12) C dX11_started_44 (by decide) ?_
      exact hk12 l1 x4 s2
    · refine j_aload_n C dX11_started_27 0 rfl rfl ?_
      refine j_iload_n C dX11_started_28 2 rfl rfl ?_
      refine j_callVn C (c_X11_frees b n l2 s2) cw_RX11_161 ⟨rfl, rfl, Nat.le_of_ble_eq_true rfl, Nat.le_of_ble_eq_true rfl⟩ 0 kX11 (km_0 b) (lm_0 b) [.int l2] [] rfl rfl rfl (Nat.le_of_ble_eq_true rfl) dX11_started_29 (fun s5 => ?_)
      refine j_aload_n C dX11_started_32 0 rfl rfl ?_
      refine j_iload_n C dX11_started_33 2 rfl rfl ?_
      refine j_iconst (v := (0 : Int32)) C dX11_started_34 (by decide) ?_
      refine j_iload_n C dX11_started_35 1 rfl rfl ?_
      refine j_callVn C (c_X11_to b n l2 (0 : Int32) l1 s5) cw_RX11_148 ⟨rfl, rfl, Nat.le_of_ble_eq_true rfl, Nat.le_of_ble_eq_true rfl⟩ 0 kX11 (km_0 b) (lm_0 b) [.int l2, .int (0 : Int32), .int l1] [] rfl rfl rfl (Nat.le_of_ble_eq_true rfl) dX11_started_36 (fun s6 => ?_)
      refine j_iload_n C dX11_started_39 2 rfl rfl ?_
      exact j_iret C CR dX11_started_40
theorem lb_X11_started_12 {b : Bool} {X : CtxT (Int32 × Mem)} (C : Cx (YM b) X 3 cX11_started RX11 (some .int) rm_X11_started) (CR : CRi (YM b) X)  : ∀ (n : Nat) (l1 : Int32) (l2 : Int32) (s : Mem), J (YM b) X 3 (itr2 (b_X11_started_12) n l1 l2 s) 12 [(0, .ref (adX X 0)), (1, .int l1), (2, .int l2)] [] s := by
  intro n
  induction n with
  | zero => intros; exact j_none
  | succ n ih =>
    intro l1 l2 s
    exact jb_X11_started_12 C CR  n _ ih l1 l2 s
set_option maxHeartbeats 4000000 in
theorem c_X11_started (b : Bool) (n : Nat) (l1 : Int32) (s : Mem) : CTi (YM b) yX11_started cX11_started 3 (some .int) rm_X11_started (fun ad => [.ref (ad 0), .int l1]) s (f_X11_started n l1 s) := by
  refine CTi_of (by decide) (fun _ => Nat.le_of_ble_eq_true rfl) (fun X C CR => ?_)
  show J (YM b) X 3 (f_X11_started n l1 s) 0 [(0, .ref (adX X 0)), (1, .int l1)] [] s
  unfold f_X11_started
  refine j_aload_n C dX11_started_0 0 rfl rfl ?_
  refine j_iload_n C dX11_started_1 1 rfl rfl ?_
  refine j_callVi C (c_X11_isScript b n l1 s) cw_RX11_154 ⟨rfl, rfl, Nat.le_of_ble_eq_true rfl, Nat.le_of_ble_eq_true rfl⟩ 0 kX11 (km_0 b) (lm_0 b) [.int l1] [] rfl rfl rfl (Nat.le_of_ble_eq_true rfl) dX11_started_2 (fun x2 s1 => ?_)
  refine j_if_ne (tgt := 10) C dX11_started_5 (by decide) ?_ ?_
  · refine j_iconst (v := (0 : Int32)) C dX11_started_10 (by decide) ?_
    refine j_istore_n (L' := [(0, .ref (adX X 0)), (1, .int l1), (2, .int (0 : Int32))]) C dX11_started_11 rfl (by decide) [1, 2, 0] rfl ?_
    exact lb_X11_started_12 C CR  n l1 (0 : Int32) s1
  · refine j_iconst (v := (-1 : Int32)) C dX11_started_8 (by decide) ?_
    exact j_iret C CR dX11_started_9
set_option maxHeartbeats 4000000 in
theorem c_X11_says (b : Bool) (n : Nat) (l1 : Int32) (l2 : Int32) (l3 : Int32) (s : Mem) : CTi (YM b) yX11_says cX11_says 5 (some .int) rm_X11_says (fun ad => [.ref (ad 0), .int l1, .int l2, .int l3]) s (f_X11_says n l1 l2 l3 s) := by
  refine CTi_of (by decide) (fun _ => Nat.le_of_ble_eq_true rfl) (fun X C CR => ?_)
  show J (YM b) X 5 (f_X11_says n l1 l2 l3 s) 0 [(0, .ref (adX X 0)), (1, .int l1), (2, .int l2), (3, .int l3)] [] s
  unfold f_X11_says
  refine j_aload_n C dX11_says_0 0 rfl rfl ?_
  refine j_getR (z := 15) C kX11 (km_0 b) (lm_0 b) 27 (by decide) tw_1220 (rm_27 b) rfl dX11_says_1 ?_
  refine j_iconst (v := (5 : Int32)) C dX11_says_4 (by decide) ?_
  refine j_iald C (km_15 b) (lm_15 b) dX11_says_5 ?_
  refine j_bipush (v := (6 : Int32)) C dX11_says_6 (by decide) ?_
  refine j_icmp_ne (tgt := 23) C dX11_says_8 (by decide) ?_ ?_
  · refine j_sipush (v := (150 : Int32)) C dX11_says_23 (by decide) ?_
    refine j_iconst (v := (3 : Int32)) C dX11_says_26 (by decide) ?_
    refine j_aload_n C dX11_says_27 0 rfl rfl ?_
    refine j_getR (z := 15) C kX11 (km_0 b) (lm_0 b) 27 (by decide) tw_1220 (rm_27 b) rfl dX11_says_28 ?_
    refine j_iconst (v := (5 : Int32)) C dX11_says_31 (by decide) ?_
    refine j_iald C (km_15 b) (lm_15 b) dX11_says_32 ?_
    refine j_imul C dX11_says_33 ?_
    refine j_iadd C dX11_says_34 ?_
    refine j_top (fun x1 => ?_)
    refine j_istore (L' := [(0, .ref (adX X 0)), (1, .int l1), (2, .int l2), (3, .int l3), (4, .int x1)]) C dX11_says_35 (by decide) [1, 2, 3, 4, 0] rfl ?_
    refine j_aload_n C dX11_says_37 0 rfl rfl ?_
    refine j_getR (z := 15) C kX11 (km_0 b) (lm_0 b) 27 (by decide) tw_1220 (rm_27 b) rfl dX11_says_38 ?_
    refine j_iload C dX11_says_41 4 rfl ?_
    refine j_iload_n C dX11_says_43 1 rfl rfl ?_
    refine j_iast C (km_15 b) (lm_15 b) dX11_says_44 (fun s2 => ?_)
    refine j_aload_n C dX11_says_45 0 rfl rfl ?_
    refine j_getR (z := 15) C kX11 (km_0 b) (lm_0 b) 27 (by decide) tw_1220 (rm_27 b) rfl dX11_says_46 ?_
    refine j_iload C dX11_says_49 4 rfl ?_
    refine j_iconst (v := (1 : Int32)) C dX11_says_51 (by decide) ?_
    refine j_iadd C dX11_says_52 ?_
    refine j_iload_n C dX11_says_53 2 rfl rfl ?_
    refine j_iast C (km_15 b) (lm_15 b) dX11_says_54 (fun s3 => ?_)
    refine j_aload_n C dX11_says_55 0 rfl rfl ?_
    refine j_getR (z := 15) C kX11 (km_0 b) (lm_0 b) 27 (by decide) tw_1220 (rm_27 b) rfl dX11_says_56 ?_
    refine j_iload C dX11_says_59 4 rfl ?_
    refine j_iconst (v := (2 : Int32)) C dX11_says_61 (by decide) ?_
    refine j_iadd C dX11_says_62 ?_
    refine j_iload_n C dX11_says_63 3 rfl rfl ?_
    refine j_iast C (km_15 b) (lm_15 b) dX11_says_64 (fun s4 => ?_)
    refine j_aload_n C dX11_says_65 0 rfl rfl ?_
    refine j_getR (z := 15) C kX11 (km_0 b) (lm_0 b) 27 (by decide) tw_1220 (rm_27 b) rfl dX11_says_66 ?_
    refine j_iconst (v := (5 : Int32)) C dX11_says_69 (by decide) ?_
    refine j_dup2 C dX11_says_70 rfl rfl ?_
    refine j_iald C (km_15 b) (lm_15 b) dX11_says_71 ?_
    refine j_iconst (v := (1 : Int32)) C dX11_says_72 (by decide) ?_
    refine j_iadd C dX11_says_73 ?_
    refine j_iast C (km_15 b) (lm_15 b) dX11_says_74 (fun s5 => ?_)
    refine j_aload_n C dX11_says_75 0 rfl rfl ?_
    refine j_getR (z := 15) C kX11 (km_0 b) (lm_0 b) 27 (by decide) tw_1220 (rm_27 b) rfl dX11_says_76 ?_
    refine j_iconst (v := (5 : Int32)) C dX11_says_79 (by decide) ?_
    refine j_iald C (km_15 b) (lm_15 b) dX11_says_80 ?_
    exact j_iret C CR dX11_says_81
  · refine j_aload_n C dX11_says_11 0 rfl rfl ?_
    refine j_getR (z := 15) C kX11 (km_0 b) (lm_0 b) 27 (by decide) tw_1220 (rm_27 b) rfl dX11_says_12 ?_
    refine j_iconst (v := (4 : Int32)) C dX11_says_15 (by decide) ?_
    refine j_dup2 C dX11_says_16 rfl rfl ?_
    refine j_iald C (km_15 b) (lm_15 b) dX11_says_17 ?_
    refine j_iconst (v := (1 : Int32)) C dX11_says_18 (by decide) ?_
    refine j_iadd C dX11_says_19 ?_
    refine j_iast C (km_15 b) (lm_15 b) dX11_says_20 (fun s6 => ?_)
    refine j_iconst (v := (-1 : Int32)) C dX11_says_21 (by decide) ?_
    exact j_iret C CR dX11_says_22
set_option maxHeartbeats 4000000 in
theorem jb_X11_isActor_26 {b : Bool} {X : CtxT (Int32 × Mem)} (C : Cx (YM b) X 2 cX11_isActor RX11 (some .boolean) rm_X11_isActor) (CR : CRi (YM b) X)  (n : Nat)  (t0 : Int32) (s : Mem) : J (YM b) X 2 (b_X11_isActor_26  n  t0 s) 26 [] [.int t0] s := by
  unfold b_X11_isActor_26
  exact j_zret C CR dX11_isActor_26
set_option maxHeartbeats 4000000 in
theorem jb_X11_isActor_25 {b : Bool} {X : CtxT (Int32 × Mem)} (C : Cx (YM b) X 2 cX11_isActor RX11 (some .boolean) rm_X11_isActor) (CR : CRi (YM b) X)  (n : Nat)   (s : Mem) : J (YM b) X 2 (b_X11_isActor_25  n   s) 25 [] [] s := by
  unfold b_X11_isActor_25
  refine j_iconst (v := (0 : Int32)) C dX11_isActor_25 (by decide) ?_
  exact jb_X11_isActor_26 C CR  n (0 : Int32) s
set_option maxHeartbeats 4000000 in
theorem c_X11_isActor (b : Bool) (n : Nat) (l1 : Int32) (s : Mem) : CTi (YM b) yX11_isActor cX11_isActor 2 (some .boolean) rm_X11_isActor (fun ad => [.ref (ad 0), .int l1]) s (f_X11_isActor n l1 s) := by
  refine CTi_of (by decide) (fun _ => Nat.le_of_ble_eq_true rfl) (fun X C CR => ?_)
  show J (YM b) X 2 (f_X11_isActor n l1 s) 0 [(0, .ref (adX X 0)), (1, .int l1)] [] s
  unfold f_X11_isActor
  refine j_iload_n C dX11_isActor_0 1 rfl rfl ?_
  refine j_i2l C dX11_isActor_1 ?_
  refine j_lconst (v := 1) C dX11_isActor_2 (by decide) ?_
  refine j_ldc2 (v := 12) C tw_1474 dX11_isActor_3 ?_
  refine j_callSi C (c_X11_in b n l1.toInt64 (1 : Int64) (12 : Int64) s) cw_RX11_72 ⟨rfl, rfl, Nat.le_of_ble_eq_true rfl, Nat.le_of_ble_eq_true rfl⟩ [.long l1.toInt64, .long (1 : Int64), .long (12 : Int64)] [] rfl rfl rfl (Nat.le_of_ble_eq_true rfl) dX11_isActor_6 (fun x2 s1 => ?_)
  refine j_if_eq (tgt := 25) C dX11_isActor_9 (by decide) ?_ ?_
  · refine j_sub (L' := []) [] rfl ?_
    exact jb_X11_isActor_25 C CR  n s1
  · refine j_aload_n C dX11_isActor_12 0 rfl rfl ?_
    refine j_getR (z := 12) C kX11 (km_0 b) (lm_0 b) 18 (by decide) tw_1211 (rm_18 b) rfl dX11_isActor_13 ?_
    refine j_iload_n C dX11_isActor_16 1 rfl rfl ?_
    refine j_zald C (km_12 b) (lm_12 b) dX11_isActor_17 ?_
    refine j_if_eq (tgt := 25) C dX11_isActor_18 (by decide) ?_ ?_
    · refine j_sub (L' := []) [] rfl ?_
      exact jb_X11_isActor_25 C CR  n s1
    · refine j_iconst (v := (1 : Int32)) C dX11_isActor_21 (by decide) ?_
      refine j_goto (tgt := 26) C dX11_isActor_22 (by decide) ?_
      refine j_sub (L' := []) [] rfl ?_
      exact jb_X11_isActor_26 C CR  n (1 : Int32) s1
set_option maxHeartbeats 4000000 in
theorem jb_X11_isObject_26 {b : Bool} {X : CtxT (Int32 × Mem)} (C : Cx (YM b) X 2 cX11_isObject RX11 (some .boolean) rm_X11_isObject) (CR : CRi (YM b) X)  (n : Nat)  (t0 : Int32) (s : Mem) : J (YM b) X 2 (b_X11_isObject_26  n  t0 s) 26 [] [.int t0] s := by
  unfold b_X11_isObject_26
  exact j_zret C CR dX11_isObject_26
set_option maxHeartbeats 4000000 in
theorem jb_X11_isObject_25 {b : Bool} {X : CtxT (Int32 × Mem)} (C : Cx (YM b) X 2 cX11_isObject RX11 (some .boolean) rm_X11_isObject) (CR : CRi (YM b) X)  (n : Nat)   (s : Mem) : J (YM b) X 2 (b_X11_isObject_25  n   s) 25 [] [] s := by
  unfold b_X11_isObject_25
  refine j_iconst (v := (0 : Int32)) C dX11_isObject_25 (by decide) ?_
  exact jb_X11_isObject_26 C CR  n (0 : Int32) s
set_option maxHeartbeats 4000000 in
theorem c_X11_isObject (b : Bool) (n : Nat) (l1 : Int32) (s : Mem) : CTi (YM b) yX11_isObject cX11_isObject 2 (some .boolean) rm_X11_isObject (fun ad => [.ref (ad 0), .int l1]) s (f_X11_isObject n l1 s) := by
  refine CTi_of (by decide) (fun _ => Nat.le_of_ble_eq_true rfl) (fun X C CR => ?_)
  show J (YM b) X 2 (f_X11_isObject n l1 s) 0 [(0, .ref (adX X 0)), (1, .int l1)] [] s
  unfold f_X11_isObject
  refine j_iload_n C dX11_isObject_0 1 rfl rfl ?_
  refine j_i2l C dX11_isObject_1 ?_
  refine j_lconst (v := 1) C dX11_isObject_2 (by decide) ?_
  refine j_ldc2 (v := 60) C tw_1399 dX11_isObject_3 ?_
  refine j_callSi C (c_X11_in b n l1.toInt64 (1 : Int64) (60 : Int64) s) cw_RX11_72 ⟨rfl, rfl, Nat.le_of_ble_eq_true rfl, Nat.le_of_ble_eq_true rfl⟩ [.long l1.toInt64, .long (1 : Int64), .long (60 : Int64)] [] rfl rfl rfl (Nat.le_of_ble_eq_true rfl) dX11_isObject_6 (fun x2 s1 => ?_)
  refine j_if_eq (tgt := 25) C dX11_isObject_9 (by decide) ?_ ?_
  · refine j_sub (L' := []) [] rfl ?_
    exact jb_X11_isObject_25 C CR  n s1
  · refine j_aload_n C dX11_isObject_12 0 rfl rfl ?_
    refine j_getR (z := 8) C kX11 (km_0 b) (lm_0 b) 14 (by decide) tw_1207 (rm_14 b) rfl dX11_isObject_13 ?_
    refine j_iload_n C dX11_isObject_16 1 rfl rfl ?_
    refine j_zald C (km_8 b) (lm_8 b) dX11_isObject_17 ?_
    refine j_if_eq (tgt := 25) C dX11_isObject_18 (by decide) ?_ ?_
    · refine j_sub (L' := []) [] rfl ?_
      exact jb_X11_isObject_25 C CR  n s1
    · refine j_iconst (v := (1 : Int32)) C dX11_isObject_21 (by decide) ?_
      refine j_goto (tgt := 26) C dX11_isObject_22 (by decide) ?_
      refine j_sub (L' := []) [] rfl ?_
      exact jb_X11_isObject_26 C CR  n (1 : Int32) s1
set_option maxHeartbeats 4000000 in
theorem c_X11_actorOf (b : Bool) (n : Nat) (l1 : Int32) (l2 : Int32) (s : Mem) : CTi (YM b) yX11_actorOf cX11_actorOf 3 (some .int) rm_X11_actorOf (fun ad => [.ref (ad 0), .int l1, .int l2]) s (f_X11_actorOf n l1 l2 s) := by
  refine CTi_of (by decide) (fun _ => Nat.le_of_ble_eq_true rfl) (fun X C CR => ?_)
  show J (YM b) X 3 (f_X11_actorOf n l1 l2 s) 0 [(0, .ref (adX X 0)), (1, .int l1), (2, .int l2)] [] s
  unfold f_X11_actorOf
  refine j_aload_n C dX11_actorOf_0 0 rfl rfl ?_
  refine j_getR (z := 15) C kX11 (km_0 b) (lm_0 b) 27 (by decide) tw_1220 (rm_27 b) rfl dX11_actorOf_1 ?_
  refine j_sipush (v := (232 : Int32)) C dX11_actorOf_4 (by decide) ?_
  refine j_bipush (v := (7 : Int32)) C dX11_actorOf_7 (by decide) ?_
  refine j_iload_n C dX11_actorOf_9 1 rfl rfl ?_
  refine j_imul C dX11_actorOf_10 ?_
  refine j_iadd C dX11_actorOf_11 ?_
  refine j_iload_n C dX11_actorOf_12 2 rfl rfl ?_
  refine j_iadd C dX11_actorOf_13 ?_
  refine j_iald C (km_15 b) (lm_15 b) dX11_actorOf_14 ?_
  exact j_iret C CR dX11_actorOf_15
set_option maxHeartbeats 4000000 in
theorem c_X11_actorTo (b : Bool) (n : Nat) (l1 : Int32) (l2 : Int32) (l3 : Int32) (s : Mem) : CTn (YM b) yX11_actorTo cX11_actorTo 4 none rm_X11_actorTo (fun ad => [.ref (ad 0), .int l1, .int l2, .int l3]) s (f_X11_actorTo n l1 l2 l3 s) := by
  refine CTn_of (by decide) (fun _ => Nat.le_of_ble_eq_true rfl) (fun X C CR => ?_)
  show J (YM b) X 4 (f_X11_actorTo n l1 l2 l3 s) 0 [(0, .ref (adX X 0)), (1, .int l1), (2, .int l2), (3, .int l3)] [] s
  unfold f_X11_actorTo
  refine j_aload_n C dX11_actorTo_0 0 rfl rfl ?_
  refine j_getR (z := 15) C kX11 (km_0 b) (lm_0 b) 27 (by decide) tw_1220 (rm_27 b) rfl dX11_actorTo_1 ?_
  refine j_sipush (v := (232 : Int32)) C dX11_actorTo_4 (by decide) ?_
  refine j_bipush (v := (7 : Int32)) C dX11_actorTo_7 (by decide) ?_
  refine j_iload_n C dX11_actorTo_9 1 rfl rfl ?_
  refine j_imul C dX11_actorTo_10 ?_
  refine j_iadd C dX11_actorTo_11 ?_
  refine j_iload_n C dX11_actorTo_12 2 rfl rfl ?_
  refine j_iadd C dX11_actorTo_13 ?_
  refine j_iload_n C dX11_actorTo_14 3 rfl rfl ?_
  refine j_iast C (km_15 b) (lm_15 b) dX11_actorTo_15 (fun s1 => ?_)
  exact j_vret C CR dX11_actorTo_16
set_option maxHeartbeats 4000000 in
theorem jb_X11_scriptOf_2 {b : Bool} {X : CtxT (Int32 × Mem)} (C : Cx (YM b) X 4 cX11_scriptOf RX11 (some .int) rm_X11_scriptOf) (CR : CRi (YM b) X)  (n : Nat) (k2 : Int32 → Int32 → Int32 → Mem → Option (Int32 × Mem)) (hk2 : ∀ (l1 : Int32) (l2 : Int32) (l3 : Int32) (s : Mem), J (YM b) X 4 (k2 l1 l2 l3 s) 2 [(0, .ref (adX X 0)), (1, .int l1), (2, .int l2), (3, .int l3)] [] s) (l1 : Int32) (l2 : Int32) (l3 : Int32) (s : Mem) : J (YM b) X 4 (b_X11_scriptOf_2  n k2 l1 l2 l3 s) 2 [(0, .ref (adX X 0)), (1, .int l1), (2, .int l2), (3, .int l3)] [] s := by
  unfold b_X11_scriptOf_2
  refine j_iload_n C dX11_scriptOf_2 3 rfl rfl ?_
  refine j_aload_n C dX11_scriptOf_3 0 rfl rfl ?_
  refine j_getR (z := 11) C kX11 (km_0 b) (lm_0 b) 17 (by decide) tw_1210 (rm_17 b) rfl dX11_scriptOf_4 ?_
  refine j_iload_n C dX11_scriptOf_7 1 rfl rfl ?_
  refine j_iald C (km_11 b) (lm_11 b) dX11_scriptOf_8 ?_
  refine j_icmp_ge (tgt := 55) C dX11_scriptOf_9 (by decide) ?_ ?_
  · refine j_iconst (v := (0 : Int32)) C dX11_scriptOf_55 (by decide) ?_
    exact j_iret C CR dX11_scriptOf_56
  · refine j_aload_n C dX11_scriptOf_12 0 rfl rfl ?_
    refine j_getR (z := 2) C kX11 (km_0 b) (lm_0 b) 3 (by decide) tw_1196 (rm_3 b) rfl dX11_scriptOf_13 ?_
    refine j_aload_n C dX11_scriptOf_16 0 rfl rfl ?_
    refine j_getR (z := 10) C kX11 (km_0 b) (lm_0 b) 16 (by decide) tw_1209 (rm_16 b) rfl dX11_scriptOf_17 ?_
    refine j_iload_n C dX11_scriptOf_20 1 rfl rfl ?_
    refine j_iald C (km_10 b) (lm_10 b) dX11_scriptOf_21 ?_
    refine j_iconst (v := (2 : Int32)) C dX11_scriptOf_22 (by decide) ?_
    refine j_iload_n C dX11_scriptOf_23 3 rfl rfl ?_
    refine j_imul C dX11_scriptOf_24 ?_
    refine j_iadd C dX11_scriptOf_25 ?_
    refine j_iald C (km_2 b) (lm_2 b) dX11_scriptOf_26 ?_
    refine j_iload_n C dX11_scriptOf_27 2 rfl rfl ?_
    refine j_icmp_ne (tgt := 49) C dX11_scriptOf_28 (by decide) ?_ ?_
    · refine j_iinc (L2 := fun x1 => [(0, .ref (adX X 0)), (1, .int l1), (2, .int l2), (3, .int x1)]) C dX11_scriptOf_49 3 rfl (by decide) [1, 2, 3, 0] (fun _ => rfl) (fun x1 => ?_)
      refine j_goto (tgt := 2) C dX11_scriptOf_52 (by decide) ?_
      exact hk2 l1 l2 x1 s
    · refine j_aload_n C dX11_scriptOf_31 0 rfl rfl ?_
      refine j_getR (z := 2) C kX11 (km_0 b) (lm_0 b) 3 (by decide) tw_1196 (rm_3 b) rfl dX11_scriptOf_32 ?_
      refine j_aload_n C dX11_scriptOf_35 0 rfl rfl ?_
      refine j_getR (z := 10) C kX11 (km_0 b) (lm_0 b) 16 (by decide) tw_1209 (rm_16 b) rfl dX11_scriptOf_36 ?_
      refine j_iload_n C dX11_scriptOf_39 1 rfl rfl ?_
      refine j_iald C (km_10 b) (lm_10 b) dX11_scriptOf_40 ?_
      refine j_iconst (v := (2 : Int32)) C dX11_scriptOf_41 (by decide) ?_
      refine j_iload_n C dX11_scriptOf_42 3 rfl rfl ?_
      refine j_imul C dX11_scriptOf_43 ?_
      refine j_iadd C dX11_scriptOf_44 ?_
      refine j_iconst (v := (1 : Int32)) C dX11_scriptOf_45 (by decide) ?_
      refine j_iadd C dX11_scriptOf_46 ?_
      refine j_iald C (km_2 b) (lm_2 b) dX11_scriptOf_47 ?_
      exact j_iret C CR dX11_scriptOf_48
theorem lb_X11_scriptOf_2 {b : Bool} {X : CtxT (Int32 × Mem)} (C : Cx (YM b) X 4 cX11_scriptOf RX11 (some .int) rm_X11_scriptOf) (CR : CRi (YM b) X)  : ∀ (n : Nat) (l1 : Int32) (l2 : Int32) (l3 : Int32) (s : Mem), J (YM b) X 4 (itr3 (b_X11_scriptOf_2) n l1 l2 l3 s) 2 [(0, .ref (adX X 0)), (1, .int l1), (2, .int l2), (3, .int l3)] [] s := by
  intro n
  induction n with
  | zero => intros; exact j_none
  | succ n ih =>
    intro l1 l2 l3 s
    exact jb_X11_scriptOf_2 C CR  n _ ih l1 l2 l3 s
set_option maxHeartbeats 4000000 in
theorem c_X11_scriptOf (b : Bool) (n : Nat) (l1 : Int32) (l2 : Int32) (s : Mem) : CTi (YM b) yX11_scriptOf cX11_scriptOf 4 (some .int) rm_X11_scriptOf (fun ad => [.ref (ad 0), .int l1, .int l2]) s (f_X11_scriptOf n l1 l2 s) := by
  refine CTi_of (by decide) (fun _ => Nat.le_of_ble_eq_true rfl) (fun X C CR => ?_)
  show J (YM b) X 4 (f_X11_scriptOf n l1 l2 s) 0 [(0, .ref (adX X 0)), (1, .int l1), (2, .int l2)] [] s
  unfold f_X11_scriptOf
  refine j_iconst (v := (0 : Int32)) C dX11_scriptOf_0 (by decide) ?_
  refine j_istore_n (L' := [(0, .ref (adX X 0)), (1, .int l1), (2, .int l2), (3, .int (0 : Int32))]) C dX11_scriptOf_1 rfl (by decide) [1, 2, 3, 0] rfl ?_
  exact lb_X11_scriptOf_2 C CR  n l1 l2 (0 : Int32) s
set_option maxHeartbeats 4000000 in
theorem jb_X11_isBox_35 {b : Bool} {X : CtxT (Int32 × Mem)} (C : Cx (YM b) X 3 cX11_isBox RX11 (some .boolean) rm_X11_isBox) (CR : CRi (YM b) X)  (n : Nat)  (t0 : Int32) (s : Mem) : J (YM b) X 3 (b_X11_isBox_35  n  t0 s) 35 [] [.int t0] s := by
  unfold b_X11_isBox_35
  exact j_zret C CR dX11_isBox_35
set_option maxHeartbeats 4000000 in
theorem jb_X11_isBox_34 {b : Bool} {X : CtxT (Int32 × Mem)} (C : Cx (YM b) X 3 cX11_isBox RX11 (some .boolean) rm_X11_isBox) (CR : CRi (YM b) X)  (n : Nat)   (s : Mem) : J (YM b) X 3 (b_X11_isBox_34  n   s) 34 [] [] s := by
  unfold b_X11_isBox_34
  refine j_iconst (v := (0 : Int32)) C dX11_isBox_34 (by decide) ?_
  exact jb_X11_isBox_35 C CR  n (0 : Int32) s
set_option maxHeartbeats 4000000 in
theorem c_X11_isBox (b : Bool) (n : Nat) (l1 : Int32) (l2 : Int32) (s : Mem) : CTi (YM b) yX11_isBox cX11_isBox 3 (some .boolean) rm_X11_isBox (fun ad => [.ref (ad 0), .int l1, .int l2]) s (f_X11_isBox n l1 l2 s) := by
  refine CTi_of (by decide) (fun _ => Nat.le_of_ble_eq_true rfl) (fun X C CR => ?_)
  show J (YM b) X 3 (f_X11_isBox n l1 l2 s) 0 [(0, .ref (adX X 0)), (1, .int l1), (2, .int l2)] [] s
  unfold f_X11_isBox
  refine j_iload_n C dX11_isBox_0 1 rfl rfl ?_
  refine j_i2l C dX11_isBox_1 ?_
  refine j_lconst (v := 0) C dX11_isBox_2 (by decide) ?_
  refine j_ldc2 (v := 20) C tw_1475 dX11_isBox_3 ?_
  refine j_callSi C (c_X11_in b n l1.toInt64 (0 : Int64) (20 : Int64) s) cw_RX11_72 ⟨rfl, rfl, Nat.le_of_ble_eq_true rfl, Nat.le_of_ble_eq_true rfl⟩ [.long l1.toInt64, .long (0 : Int64), .long (20 : Int64)] [] rfl rfl rfl (Nat.le_of_ble_eq_true rfl) dX11_isBox_6 (fun x2 s1 => ?_)
  refine j_if_eq (tgt := 34) C dX11_isBox_9 (by decide) ?_ ?_
  · refine j_sub (L' := []) [] rfl ?_
    exact jb_X11_isBox_34 C CR  n s1
  · refine j_iload_n C dX11_isBox_12 2 rfl rfl ?_
    refine j_i2l C dX11_isBox_13 ?_
    refine j_lconst (v := 0) C dX11_isBox_14 (by decide) ?_
    refine j_aload_n C dX11_isBox_15 0 rfl rfl ?_
    refine j_getR (z := 4) C kX11 (km_0 b) (lm_0 b) 10 (by decide) tw_1203 (rm_10 b) rfl dX11_isBox_16 ?_
    refine j_iload_n C dX11_isBox_19 1 rfl rfl ?_
    refine j_iald C (km_4 b) (lm_4 b) dX11_isBox_20 ?_
    refine j_iconst (v := (1 : Int32)) C dX11_isBox_21 (by decide) ?_
    refine j_isub C dX11_isBox_22 ?_
    refine j_i2l C dX11_isBox_23 ?_
    refine j_callSi C (c_X11_in b n l2.toInt64 (0 : Int64) (((s1 4 l1.toNatClampNeg) - (1 : Int32)).toInt64) s1) cw_RX11_72 ⟨rfl, rfl, Nat.le_of_ble_eq_true rfl, Nat.le_of_ble_eq_true rfl⟩ [.long l2.toInt64, .long (0 : Int64), .long (((s1 4 l1.toNatClampNeg) - (1 : Int32)).toInt64)] [] rfl rfl rfl (Nat.le_of_ble_eq_true rfl) dX11_isBox_24 (fun x4 s3 => ?_)
    refine j_if_eq (tgt := 34) C dX11_isBox_27 (by decide) ?_ ?_
    · refine j_sub (L' := []) [] rfl ?_
      exact jb_X11_isBox_34 C CR  n s3
    · refine j_iconst (v := (1 : Int32)) C dX11_isBox_30 (by decide) ?_
      refine j_goto (tgt := 35) C dX11_isBox_31 (by decide) ?_
      refine j_sub (L' := []) [] rfl ?_
      exact jb_X11_isBox_35 C CR  n (1 : Int32) s3
set_option maxHeartbeats 4000000 in
theorem c_X11_side (b : Bool) (n : Nat) (l1 : Int32) (l2 : Int32) (l3 : Int32) (s : Mem) : CTi (YM b) yX11_side cX11_side 4 (some .int) rm_X11_side (fun ad => [.ref (ad 0), .int l1, .int l2, .int l3]) s (f_X11_side n l1 l2 l3 s) := by
  refine CTi_of (by decide) (fun _ => Nat.le_of_ble_eq_true rfl) (fun X C CR => ?_)
  show J (YM b) X 4 (f_X11_side n l1 l2 l3 s) 0 [(0, .ref (adX X 0)), (1, .int l1), (2, .int l2), (3, .int l3)] [] s
  unfold f_X11_side
  refine j_aload_n C dX11_side_0 0 rfl rfl ?_
  refine j_getR (z := 5) C kX11 (km_0 b) (lm_0 b) 11 (by decide) tw_1204 (rm_11 b) rfl dX11_side_1 ?_
  refine j_iload_n C dX11_side_4 1 rfl rfl ?_
  refine j_bipush (v := (16 : Int32)) C dX11_side_5 (by decide) ?_
  refine j_imul C dX11_side_7 ?_
  refine j_iload_n C dX11_side_8 2 rfl rfl ?_
  refine j_iadd C dX11_side_9 ?_
  refine j_iconst (v := (4 : Int32)) C dX11_side_10 (by decide) ?_
  refine j_imul C dX11_side_11 ?_
  refine j_iload_n C dX11_side_12 3 rfl rfl ?_
  refine j_iadd C dX11_side_13 ?_
  refine j_iald C (km_5 b) (lm_5 b) dX11_side_14 ?_
  exact j_iret C CR dX11_side_15
set_option maxHeartbeats 4000000 in
theorem jb_X11_isOpen_23 {b : Bool} {X : CtxT (Int32 × Mem)} (C : Cx (YM b) X 3 cX11_isOpen RX11 (some .boolean) rm_X11_isOpen) (CR : CRi (YM b) X)  (n : Nat)  (t0 : Int32) (s : Mem) : J (YM b) X 3 (b_X11_isOpen_23  n  t0 s) 23 [] [.int t0] s := by
  unfold b_X11_isOpen_23
  exact j_zret C CR dX11_isOpen_23
set_option maxHeartbeats 4000000 in
theorem c_X11_isOpen (b : Bool) (n : Nat) (l1 : Int32) (l2 : Int32) (s : Mem) : CTi (YM b) yX11_isOpen cX11_isOpen 3 (some .boolean) rm_X11_isOpen (fun ad => [.ref (ad 0), .int l1, .int l2]) s (f_X11_isOpen n l1 l2 s) := by
  refine CTi_of (by decide) (fun _ => Nat.le_of_ble_eq_true rfl) (fun X C CR => ?_)
  show J (YM b) X 3 (f_X11_isOpen n l1 l2 s) 0 [(0, .ref (adX X 0)), (1, .int l1), (2, .int l2)] [] s
  unfold f_X11_isOpen
  refine j_aload_n C dX11_isOpen_0 0 rfl rfl ?_
  refine j_getR (z := 15) C kX11 (km_0 b) (lm_0 b) 27 (by decide) tw_1220 (rm_27 b) rfl dX11_isOpen_1 ?_
  refine j_sipush (v := (445 : Int32)) C dX11_isOpen_4 (by decide) ?_
  refine j_iload_n C dX11_isOpen_7 1 rfl rfl ?_
  refine j_bipush (v := (16 : Int32)) C dX11_isOpen_8 (by decide) ?_
  refine j_imul C dX11_isOpen_10 ?_
  refine j_iadd C dX11_isOpen_11 ?_
  refine j_iload_n C dX11_isOpen_12 2 rfl rfl ?_
  refine j_iadd C dX11_isOpen_13 ?_
  refine j_iald C (km_15 b) (lm_15 b) dX11_isOpen_14 ?_
  refine j_if_ne (tgt := 22) C dX11_isOpen_15 (by decide) ?_ ?_
  · refine j_iconst (v := (0 : Int32)) C dX11_isOpen_22 (by decide) ?_
    refine j_sub (L' := []) [] rfl ?_
    exact jb_X11_isOpen_23 C CR  n (0 : Int32) s
  · refine j_iconst (v := (1 : Int32)) C dX11_isOpen_18 (by decide) ?_
    refine j_goto (tgt := 23) C dX11_isOpen_19 (by decide) ?_
    refine j_sub (L' := []) [] rfl ?_
    exact jb_X11_isOpen_23 C CR  n (1 : Int32) s
set_option maxHeartbeats 4000000 in
theorem jb_X11_has_51 {b : Bool} {X : CtxT (Int32 × Mem)} (C : Cx (YM b) X 5 cX11_has RX11 (some .boolean) rm_X11_has) (CR : CRi (YM b) X)  (n : Nat)  (t0 : Int32) (s : Mem) : J (YM b) X 5 (b_X11_has_51  n  t0 s) 51 [] [.int t0] s := by
  unfold b_X11_has_51
  exact j_zret C CR dX11_has_51
set_option maxHeartbeats 4000000 in
theorem jb_X11_has_50 {b : Bool} {X : CtxT (Int32 × Mem)} (C : Cx (YM b) X 5 cX11_has RX11 (some .boolean) rm_X11_has) (CR : CRi (YM b) X)  (n : Nat)   (s : Mem) : J (YM b) X 5 (b_X11_has_50  n   s) 50 [] [] s := by
  unfold b_X11_has_50
  refine j_iconst (v := (0 : Int32)) C dX11_has_50 (by decide) ?_
  exact jb_X11_has_51 C CR  n (0 : Int32) s
set_option maxHeartbeats 4000000 in
theorem c_X11_has (b : Bool) (n : Nat) (l1 : Int32) (l2 : Int32) (l3 : Int32) (l4 : Int32) (s : Mem) : CTi (YM b) yX11_has cX11_has 5 (some .boolean) rm_X11_has (fun ad => [.ref (ad 0), .int l1, .int l2, .int l3, .int l4]) s (f_X11_has n l1 l2 l3 l4 s) := by
  refine CTi_of (by decide) (fun _ => Nat.le_of_ble_eq_true rfl) (fun X C CR => ?_)
  show J (YM b) X 5 (f_X11_has n l1 l2 l3 l4 s) 0 [(0, .ref (adX X 0)), (1, .int l1), (2, .int l2), (3, .int l3), (4, .int l4)] [] s
  unfold f_X11_has
  refine j_iload_n C dX11_has_0 3 rfl rfl ?_
  refine j_aload_n C dX11_has_1 0 rfl rfl ?_
  refine j_iload_n C dX11_has_2 1 rfl rfl ?_
  refine j_iload_n C dX11_has_3 2 rfl rfl ?_
  refine j_iconst (v := (0 : Int32)) C dX11_has_4 (by decide) ?_
  refine j_callVi C (c_X11_side b n l1 l2 (0 : Int32) s) cw_RX11_168 ⟨rfl, rfl, Nat.le_of_ble_eq_true rfl, Nat.le_of_ble_eq_true rfl⟩ 0 kX11 (km_0 b) (lm_0 b) [.int l1, .int l2, .int (0 : Int32)] [.int l3] rfl rfl rfl (Nat.le_of_ble_eq_true rfl) dX11_has_5 (fun x2 s1 => ?_)
  refine j_icmp_lt (tgt := 50) C dX11_has_8 (by decide) ?_ ?_
  · refine j_sub (L' := []) [] rfl ?_
    exact jb_X11_has_50 C CR  n s1
  · refine j_iload_n C dX11_has_11 3 rfl rfl ?_
    refine j_aload_n C dX11_has_12 0 rfl rfl ?_
    refine j_iload_n C dX11_has_13 1 rfl rfl ?_
    refine j_iload_n C dX11_has_14 2 rfl rfl ?_
    refine j_iconst (v := (2 : Int32)) C dX11_has_15 (by decide) ?_
    refine j_callVi C (c_X11_side b n l1 l2 (2 : Int32) s1) cw_RX11_168 ⟨rfl, rfl, Nat.le_of_ble_eq_true rfl, Nat.le_of_ble_eq_true rfl⟩ 0 kX11 (km_0 b) (lm_0 b) [.int l1, .int l2, .int (2 : Int32)] [.int l3] rfl rfl rfl (Nat.le_of_ble_eq_true rfl) dX11_has_16 (fun x4 s3 => ?_)
    refine j_icmp_gt (tgt := 50) C dX11_has_19 (by decide) ?_ ?_
    · refine j_sub (L' := []) [] rfl ?_
      exact jb_X11_has_50 C CR  n s3
    · refine j_iload C dX11_has_22 4 rfl ?_
      refine j_aload_n C dX11_has_24 0 rfl rfl ?_
      refine j_iload_n C dX11_has_25 1 rfl rfl ?_
      refine j_iload_n C dX11_has_26 2 rfl rfl ?_
      refine j_iconst (v := (1 : Int32)) C dX11_has_27 (by decide) ?_
      refine j_callVi C (c_X11_side b n l1 l2 (1 : Int32) s3) cw_RX11_168 ⟨rfl, rfl, Nat.le_of_ble_eq_true rfl, Nat.le_of_ble_eq_true rfl⟩ 0 kX11 (km_0 b) (lm_0 b) [.int l1, .int l2, .int (1 : Int32)] [.int l4] rfl rfl rfl (Nat.le_of_ble_eq_true rfl) dX11_has_28 (fun x6 s5 => ?_)
      refine j_icmp_lt (tgt := 50) C dX11_has_31 (by decide) ?_ ?_
      · refine j_sub (L' := []) [] rfl ?_
        exact jb_X11_has_50 C CR  n s5
      · refine j_iload C dX11_has_34 4 rfl ?_
        refine j_aload_n C dX11_has_36 0 rfl rfl ?_
        refine j_iload_n C dX11_has_37 1 rfl rfl ?_
        refine j_iload_n C dX11_has_38 2 rfl rfl ?_
        refine j_iconst (v := (3 : Int32)) C dX11_has_39 (by decide) ?_
        refine j_callVi C (c_X11_side b n l1 l2 (3 : Int32) s5) cw_RX11_168 ⟨rfl, rfl, Nat.le_of_ble_eq_true rfl, Nat.le_of_ble_eq_true rfl⟩ 0 kX11 (km_0 b) (lm_0 b) [.int l1, .int l2, .int (3 : Int32)] [.int l4] rfl rfl rfl (Nat.le_of_ble_eq_true rfl) dX11_has_40 (fun x8 s7 => ?_)
        refine j_icmp_gt (tgt := 50) C dX11_has_43 (by decide) ?_ ?_
        · refine j_sub (L' := []) [] rfl ?_
          exact jb_X11_has_50 C CR  n s7
        · refine j_iconst (v := (1 : Int32)) C dX11_has_46 (by decide) ?_
          refine j_goto (tgt := 51) C dX11_has_47 (by decide) ?_
          refine j_sub (L' := []) [] rfl ?_
          exact jb_X11_has_51 C CR  n (1 : Int32) s7
set_option maxHeartbeats 4000000 in
theorem c_X11_gap (b : Bool) (n : Nat) (l0 : Int32) (l1 : Int32) (l2 : Int32) (l3 : Int32) (s : Mem) : CTi (YM b) yX11_gap cX11_gap 4 (some .int) rm_X11_gap (fun ad => [.int l0, .int l1, .int l2, .int l3]) s (f_X11_gap n l0 l1 l2 l3 s) := by
  refine CTi_of (by decide) (fun _ => Nat.le_of_ble_eq_true rfl) (fun X C CR => ?_)
  show J (YM b) X 4 (f_X11_gap n l0 l1 l2 l3 s) 0 [(0, .int l0), (1, .int l1), (2, .int l2), (3, .int l3)] [] s
  unfold f_X11_gap
  refine j_iconst (v := (0 : Int32)) C dX11_gap_0 (by decide) ?_
  refine j_iload_n C dX11_gap_1 0 rfl rfl ?_
  refine j_iload_n C dX11_gap_2 2 rfl rfl ?_
  refine j_mmax C cw_RX11_172 ⟨Nat.le_of_ble_eq_true rfl, Nat.le_of_ble_eq_true rfl⟩ (Nat.le_of_ble_eq_true rfl) dX11_gap_3 ?_
  refine j_iload_n C dX11_gap_6 1 rfl rfl ?_
  refine j_iload_n C dX11_gap_7 3 rfl rfl ?_
  refine j_mmin C cw_RX11_177 ⟨Nat.le_of_ble_eq_true rfl, Nat.le_of_ble_eq_true rfl⟩ (Nat.le_of_ble_eq_true rfl) dX11_gap_8 ?_
  refine j_isub C dX11_gap_11 ?_
  refine j_mmax C cw_RX11_172 ⟨Nat.le_of_ble_eq_true rfl, Nat.le_of_ble_eq_true rfl⟩ (Nat.le_of_ble_eq_true rfl) dX11_gap_12 ?_
  exact j_iret C CR dX11_gap_15
set_option maxHeartbeats 4000000 in
theorem jb_X11_near_80 {b : Bool} {X : CtxT (Int32 × Mem)} (C : Cx (YM b) X 6 cX11_near RX11 (some .boolean) rm_X11_near) (CR : CRi (YM b) X)  (n : Nat)  (t0 : Int32) (s : Mem) : J (YM b) X 6 (b_X11_near_80  n  t0 s) 80 [] [.int t0] s := by
  unfold b_X11_near_80
  exact j_zret C CR dX11_near_80
set_option maxHeartbeats 4000000 in
theorem c_X11_near (b : Bool) (n : Nat) (l1 : Int32) (l2 : Int32) (l3 : Int32) (s : Mem) : CTi (YM b) yX11_near cX11_near 6 (some .boolean) rm_X11_near (fun ad => [.ref (ad 0), .int l1, .int l2, .int l3]) s (f_X11_near n l1 l2 l3 s) := by
  refine CTi_of (by decide) (fun _ => Nat.le_of_ble_eq_true rfl) (fun X C CR => ?_)
  show J (YM b) X 6 (f_X11_near n l1 l2 l3 s) 0 [(0, .ref (adX X 0)), (1, .int l1), (2, .int l2), (3, .int l3)] [] s
  unfold f_X11_near
  refine j_aload_n C dX11_near_0 0 rfl rfl ?_
  refine j_iload_n C dX11_near_1 1 rfl rfl ?_
  refine j_iload_n C dX11_near_2 2 rfl rfl ?_
  refine j_iconst (v := (0 : Int32)) C dX11_near_3 (by decide) ?_
  refine j_callVi C (c_X11_side b n l1 l2 (0 : Int32) s) cw_RX11_168 ⟨rfl, rfl, Nat.le_of_ble_eq_true rfl, Nat.le_of_ble_eq_true rfl⟩ 0 kX11 (km_0 b) (lm_0 b) [.int l1, .int l2, .int (0 : Int32)] [] rfl rfl rfl (Nat.le_of_ble_eq_true rfl) dX11_near_4 (fun x2 s1 => ?_)
  refine j_aload_n C dX11_near_7 0 rfl rfl ?_
  refine j_iload_n C dX11_near_8 1 rfl rfl ?_
  refine j_iload_n C dX11_near_9 2 rfl rfl ?_
  refine j_iconst (v := (2 : Int32)) C dX11_near_10 (by decide) ?_
  refine j_callVi C (c_X11_side b n l1 l2 (2 : Int32) s1) cw_RX11_168 ⟨rfl, rfl, Nat.le_of_ble_eq_true rfl, Nat.le_of_ble_eq_true rfl⟩ 0 kX11 (km_0 b) (lm_0 b) [.int l1, .int l2, .int (2 : Int32)] [.int x2] rfl rfl rfl (Nat.le_of_ble_eq_true rfl) dX11_near_11 (fun x4 s3 => ?_)
  refine j_aload_n C dX11_near_14 0 rfl rfl ?_
  refine j_iload_n C dX11_near_15 1 rfl rfl ?_
  refine j_iload_n C dX11_near_16 3 rfl rfl ?_
  refine j_iconst (v := (0 : Int32)) C dX11_near_17 (by decide) ?_
  refine j_callVi C (c_X11_side b n l1 l3 (0 : Int32) s3) cw_RX11_168 ⟨rfl, rfl, Nat.le_of_ble_eq_true rfl, Nat.le_of_ble_eq_true rfl⟩ 0 kX11 (km_0 b) (lm_0 b) [.int l1, .int l3, .int (0 : Int32)] [.int x4, .int x2] rfl rfl rfl (Nat.le_of_ble_eq_true rfl) dX11_near_18 (fun x6 s5 => ?_)
  refine j_aload_n C dX11_near_21 0 rfl rfl ?_
  refine j_iload_n C dX11_near_22 1 rfl rfl ?_
  refine j_iload_n C dX11_near_23 3 rfl rfl ?_
  refine j_iconst (v := (2 : Int32)) C dX11_near_24 (by decide) ?_
  refine j_callVi C (c_X11_side b n l1 l3 (2 : Int32) s5) cw_RX11_168 ⟨rfl, rfl, Nat.le_of_ble_eq_true rfl, Nat.le_of_ble_eq_true rfl⟩ 0 kX11 (km_0 b) (lm_0 b) [.int l1, .int l3, .int (2 : Int32)] [.int x6, .int x4, .int x2] rfl rfl rfl (Nat.le_of_ble_eq_true rfl) dX11_near_25 (fun x8 s7 => ?_)
  refine j_callSi C (c_X11_gap b n x2 x4 x6 x8 s7) cw_RX11_180 ⟨rfl, rfl, Nat.le_of_ble_eq_true rfl, Nat.le_of_ble_eq_true rfl⟩ [.int x2, .int x4, .int x6, .int x8] [] rfl rfl rfl (Nat.le_of_ble_eq_true rfl) dX11_near_28 (fun x10 s9 => ?_)
  refine j_istore (L' := [(0, .ref (adX X 0)), (1, .int l1), (2, .int l2), (3, .int l3), (4, .int x10)]) C dX11_near_31 (by decide) [1, 2, 3, 4, 0] rfl ?_
  refine j_aload_n C dX11_near_33 0 rfl rfl ?_
  refine j_iload_n C dX11_near_34 1 rfl rfl ?_
  refine j_iload_n C dX11_near_35 2 rfl rfl ?_
  refine j_iconst (v := (1 : Int32)) C dX11_near_36 (by decide) ?_
  refine j_callVi C (c_X11_side b n l1 l2 (1 : Int32) s9) cw_RX11_168 ⟨rfl, rfl, Nat.le_of_ble_eq_true rfl, Nat.le_of_ble_eq_true rfl⟩ 0 kX11 (km_0 b) (lm_0 b) [.int l1, .int l2, .int (1 : Int32)] [] rfl rfl rfl (Nat.le_of_ble_eq_true rfl) dX11_near_37 (fun x12 s11 => ?_)
  refine j_aload_n C dX11_near_40 0 rfl rfl ?_
  refine j_iload_n C dX11_near_41 1 rfl rfl ?_
  refine j_iload_n C dX11_near_42 2 rfl rfl ?_
  refine j_iconst (v := (3 : Int32)) C dX11_near_43 (by decide) ?_
  refine j_callVi C (c_X11_side b n l1 l2 (3 : Int32) s11) cw_RX11_168 ⟨rfl, rfl, Nat.le_of_ble_eq_true rfl, Nat.le_of_ble_eq_true rfl⟩ 0 kX11 (km_0 b) (lm_0 b) [.int l1, .int l2, .int (3 : Int32)] [.int x12] rfl rfl rfl (Nat.le_of_ble_eq_true rfl) dX11_near_44 (fun x14 s13 => ?_)
  refine j_aload_n C dX11_near_47 0 rfl rfl ?_
  refine j_iload_n C dX11_near_48 1 rfl rfl ?_
  refine j_iload_n C dX11_near_49 3 rfl rfl ?_
  refine j_iconst (v := (1 : Int32)) C dX11_near_50 (by decide) ?_
  refine j_callVi C (c_X11_side b n l1 l3 (1 : Int32) s13) cw_RX11_168 ⟨rfl, rfl, Nat.le_of_ble_eq_true rfl, Nat.le_of_ble_eq_true rfl⟩ 0 kX11 (km_0 b) (lm_0 b) [.int l1, .int l3, .int (1 : Int32)] [.int x14, .int x12] rfl rfl rfl (Nat.le_of_ble_eq_true rfl) dX11_near_51 (fun x16 s15 => ?_)
  refine j_aload_n C dX11_near_54 0 rfl rfl ?_
  refine j_iload_n C dX11_near_55 1 rfl rfl ?_
  refine j_iload_n C dX11_near_56 3 rfl rfl ?_
  refine j_iconst (v := (3 : Int32)) C dX11_near_57 (by decide) ?_
  refine j_callVi C (c_X11_side b n l1 l3 (3 : Int32) s15) cw_RX11_168 ⟨rfl, rfl, Nat.le_of_ble_eq_true rfl, Nat.le_of_ble_eq_true rfl⟩ 0 kX11 (km_0 b) (lm_0 b) [.int l1, .int l3, .int (3 : Int32)] [.int x16, .int x14, .int x12] rfl rfl rfl (Nat.le_of_ble_eq_true rfl) dX11_near_58 (fun x18 s17 => ?_)
  refine j_callSi C (c_X11_gap b n x12 x14 x16 x18 s17) cw_RX11_180 ⟨rfl, rfl, Nat.le_of_ble_eq_true rfl, Nat.le_of_ble_eq_true rfl⟩ [.int x12, .int x14, .int x16, .int x18] [] rfl rfl rfl (Nat.le_of_ble_eq_true rfl) dX11_near_61 (fun x20 s19 => ?_)
  refine j_istore (L' := [(0, .ref (adX X 0)), (1, .int l1), (2, .int l2), (3, .int l3), (4, .int x10), (5, .int x20)]) C dX11_near_64 (by decide) [1, 2, 3, 4, 5, 0] rfl ?_
  refine j_iload C dX11_near_66 4 rfl ?_
  refine j_iload C dX11_near_68 5 rfl ?_
  refine j_iadd C dX11_near_70 ?_
  refine j_iconst (v := (1 : Int32)) C dX11_near_71 (by decide) ?_
  refine j_icmp_gt (tgt := 79) C dX11_near_72 (by decide) ?_ ?_
  · refine j_iconst (v := (0 : Int32)) C dX11_near_79 (by decide) ?_
    refine j_sub (L' := []) [] rfl ?_
    exact jb_X11_near_80 C CR  n (0 : Int32) s19
  · refine j_iconst (v := (1 : Int32)) C dX11_near_75 (by decide) ?_
    refine j_goto (tgt := 80) C dX11_near_76 (by decide) ?_
    refine j_sub (L' := []) [] rfl ?_
    exact jb_X11_near_80 C CR  n (1 : Int32) s19
set_option maxHeartbeats 4000000 in
theorem jb_X11_boxAt_39 {b : Bool} {X : CtxT (Int32 × Mem)} (C : Cx (YM b) X 5 cX11_boxAt RX11 (some .int) rm_X11_boxAt) (CR : CRi (YM b) X) (k3 : Int32 → Int32 → Int32 → Int32 → Mem → Option (Int32 × Mem)) (hk3 : ∀ (l1 : Int32) (l2 : Int32) (l3 : Int32) (l4 : Int32) (s : Mem), J (YM b) X 5 (k3 l1 l2 l3 l4 s) 3 [(0, .ref (adX X 0)), (1, .int l1), (2, .int l2), (3, .int l3), (4, .int l4)] [] s) (n : Nat)  (l1 : Int32) (l2 : Int32) (l3 : Int32) (l4 : Int32) (s : Mem) : J (YM b) X 5 (b_X11_boxAt_39 k3 n  l1 l2 l3 l4 s) 39 [(0, .ref (adX X 0)), (1, .int l1), (2, .int l2), (3, .int l3), (4, .int l4)] [] s := by
  unfold b_X11_boxAt_39
  refine j_iinc (L2 := fun x1 => [(0, .ref (adX X 0)), (1, .int l1), (2, .int l2), (3, .int l3), (4, .int x1)]) C dX11_boxAt_39 4 rfl (by decide) [1, 2, 3, 4, 0] (fun _ => rfl) (fun x1 => ?_)
  refine j_goto (tgt := 3) C dX11_boxAt_42 (by decide) ?_
  exact hk3 l1 l2 l3 x1 s
set_option maxHeartbeats 4000000 in
theorem jb_X11_boxAt_3 {b : Bool} {X : CtxT (Int32 × Mem)} (C : Cx (YM b) X 5 cX11_boxAt RX11 (some .int) rm_X11_boxAt) (CR : CRi (YM b) X)  (n : Nat) (k3 : Int32 → Int32 → Int32 → Int32 → Mem → Option (Int32 × Mem)) (hk3 : ∀ (l1 : Int32) (l2 : Int32) (l3 : Int32) (l4 : Int32) (s : Mem), J (YM b) X 5 (k3 l1 l2 l3 l4 s) 3 [(0, .ref (adX X 0)), (1, .int l1), (2, .int l2), (3, .int l3), (4, .int l4)] [] s) (l1 : Int32) (l2 : Int32) (l3 : Int32) (l4 : Int32) (s : Mem) : J (YM b) X 5 (b_X11_boxAt_3  n k3 l1 l2 l3 l4 s) 3 [(0, .ref (adX X 0)), (1, .int l1), (2, .int l2), (3, .int l3), (4, .int l4)] [] s := by
  unfold b_X11_boxAt_3
  refine j_iload C dX11_boxAt_3 4 rfl ?_
  refine j_aload_n C dX11_boxAt_5 0 rfl rfl ?_
  refine j_getR (z := 4) C kX11 (km_0 b) (lm_0 b) 10 (by decide) tw_1203 (rm_10 b) rfl dX11_boxAt_6 ?_
  refine j_iload_n C dX11_boxAt_9 1 rfl rfl ?_
  refine j_iald C (km_4 b) (lm_4 b) dX11_boxAt_10 ?_
  refine j_icmp_ge (tgt := 45) C dX11_boxAt_11 (by decide) ?_ ?_
  · refine j_iconst (v := (-1 : Int32)) C dX11_boxAt_45 (by decide) ?_
    exact j_iret C CR dX11_boxAt_46
  · refine j_aload_n C dX11_boxAt_14 0 rfl rfl ?_
    refine j_iload_n C dX11_boxAt_15 1 rfl rfl ?_
    refine j_iload C dX11_boxAt_16 4 rfl ?_
    refine j_callVi C (c_X11_isOpen b n l1 l4 s) cw_RX11_184 ⟨rfl, rfl, Nat.le_of_ble_eq_true rfl, Nat.le_of_ble_eq_true rfl⟩ 0 kX11 (km_0 b) (lm_0 b) [.int l1, .int l4] [] rfl rfl rfl (Nat.le_of_ble_eq_true rfl) dX11_boxAt_18 (fun x2 s1 => ?_)
    refine j_if_eq (tgt := 39) C dX11_boxAt_21 (by decide) ?_ ?_
    · exact jb_X11_boxAt_39 C CR k3 hk3 n l1 l2 l3 l4 s1
    · refine j_aload_n C dX11_boxAt_24 0 rfl rfl ?_
      refine j_iload_n C dX11_boxAt_25 1 rfl rfl ?_
      refine j_iload C dX11_boxAt_26 4 rfl ?_
      refine j_iload_n C dX11_boxAt_28 2 rfl rfl ?_
      refine j_iload_n C dX11_boxAt_29 3 rfl rfl ?_
      refine j_callVi C (c_X11_has b n l1 l4 l2 l3 s1) cw_RX11_188 ⟨rfl, rfl, Nat.le_of_ble_eq_true rfl, Nat.le_of_ble_eq_true rfl⟩ 0 kX11 (km_0 b) (lm_0 b) [.int l1, .int l4, .int l2, .int l3] [] rfl rfl rfl (Nat.le_of_ble_eq_true rfl) dX11_boxAt_30 (fun x4 s3 => ?_)
      refine j_if_eq (tgt := 39) C dX11_boxAt_33 (by decide) ?_ ?_
      · exact jb_X11_boxAt_39 C CR k3 hk3 n l1 l2 l3 l4 s3
      · refine j_iload C dX11_boxAt_36 4 rfl ?_
        exact j_iret C CR dX11_boxAt_38
theorem lb_X11_boxAt_3 {b : Bool} {X : CtxT (Int32 × Mem)} (C : Cx (YM b) X 5 cX11_boxAt RX11 (some .int) rm_X11_boxAt) (CR : CRi (YM b) X)  : ∀ (n : Nat) (l1 : Int32) (l2 : Int32) (l3 : Int32) (l4 : Int32) (s : Mem), J (YM b) X 5 (itr4 (b_X11_boxAt_3) n l1 l2 l3 l4 s) 3 [(0, .ref (adX X 0)), (1, .int l1), (2, .int l2), (3, .int l3), (4, .int l4)] [] s := by
  intro n
  induction n with
  | zero => intros; exact j_none
  | succ n ih =>
    intro l1 l2 l3 l4 s
    exact jb_X11_boxAt_3 C CR  n _ ih l1 l2 l3 l4 s
set_option maxHeartbeats 4000000 in
theorem c_X11_boxAt (b : Bool) (n : Nat) (l1 : Int32) (l2 : Int32) (l3 : Int32) (s : Mem) : CTi (YM b) yX11_boxAt cX11_boxAt 5 (some .int) rm_X11_boxAt (fun ad => [.ref (ad 0), .int l1, .int l2, .int l3]) s (f_X11_boxAt n l1 l2 l3 s) := by
  refine CTi_of (by decide) (fun _ => Nat.le_of_ble_eq_true rfl) (fun X C CR => ?_)
  show J (YM b) X 5 (f_X11_boxAt n l1 l2 l3 s) 0 [(0, .ref (adX X 0)), (1, .int l1), (2, .int l2), (3, .int l3)] [] s
  unfold f_X11_boxAt
  refine j_iconst (v := (0 : Int32)) C dX11_boxAt_0 (by decide) ?_
  refine j_istore (L' := [(0, .ref (adX X 0)), (1, .int l1), (2, .int l2), (3, .int l3), (4, .int (0 : Int32))]) C dX11_boxAt_1 (by decide) [1, 2, 3, 4, 0] rfl ?_
  exact lb_X11_boxAt_3 C CR  n l1 l2 l3 (0 : Int32) s
set_option maxHeartbeats 4000000 in
theorem c_X11_boxOf (b : Bool) (n : Nat) (l1 : Int32) (s : Mem) : CTi (YM b) yX11_boxOf cX11_boxOf 2 (some .int) rm_X11_boxOf (fun ad => [.ref (ad 0), .int l1]) s (f_X11_boxOf n l1 s) := by
  refine CTi_of (by decide) (fun _ => Nat.le_of_ble_eq_true rfl) (fun X C CR => ?_)
  show J (YM b) X 2 (f_X11_boxOf n l1 s) 0 [(0, .ref (adX X 0)), (1, .int l1)] [] s
  unfold f_X11_boxOf
  refine j_aload_n C dX11_boxOf_0 0 rfl rfl ?_
  refine j_aload_n C dX11_boxOf_1 0 rfl rfl ?_
  refine j_iload_n C dX11_boxOf_2 1 rfl rfl ?_
  refine j_iconst (v := (0 : Int32)) C dX11_boxOf_3 (by decide) ?_
  refine j_callVi C (c_X11_actorOf b n l1 (0 : Int32) s) cw_RX11_192 ⟨rfl, rfl, Nat.le_of_ble_eq_true rfl, Nat.le_of_ble_eq_true rfl⟩ 0 kX11 (km_0 b) (lm_0 b) [.int l1, .int (0 : Int32)] [.ref (adX X 0)] rfl rfl rfl (Nat.le_of_ble_eq_true rfl) dX11_boxOf_4 (fun x2 s1 => ?_)
  refine j_aload_n C dX11_boxOf_7 0 rfl rfl ?_
  refine j_iload_n C dX11_boxOf_8 1 rfl rfl ?_
  refine j_iconst (v := (1 : Int32)) C dX11_boxOf_9 (by decide) ?_
  refine j_callVi C (c_X11_actorOf b n l1 (1 : Int32) s1) cw_RX11_192 ⟨rfl, rfl, Nat.le_of_ble_eq_true rfl, Nat.le_of_ble_eq_true rfl⟩ 0 kX11 (km_0 b) (lm_0 b) [.int l1, .int (1 : Int32)] [.int x2, .ref (adX X 0)] rfl rfl rfl (Nat.le_of_ble_eq_true rfl) dX11_boxOf_10 (fun x4 s3 => ?_)
  refine j_aload_n C dX11_boxOf_13 0 rfl rfl ?_
  refine j_iload_n C dX11_boxOf_14 1 rfl rfl ?_
  refine j_iconst (v := (2 : Int32)) C dX11_boxOf_15 (by decide) ?_
  refine j_callVi C (c_X11_actorOf b n l1 (2 : Int32) s3) cw_RX11_192 ⟨rfl, rfl, Nat.le_of_ble_eq_true rfl, Nat.le_of_ble_eq_true rfl⟩ 0 kX11 (km_0 b) (lm_0 b) [.int l1, .int (2 : Int32)] [.int x4, .int x2, .ref (adX X 0)] rfl rfl rfl (Nat.le_of_ble_eq_true rfl) dX11_boxOf_16 (fun x6 s5 => ?_)
  refine j_callVi C (c_X11_boxAt b n x2 x4 x6 s5) cw_RX11_195 ⟨rfl, rfl, Nat.le_of_ble_eq_true rfl, Nat.le_of_ble_eq_true rfl⟩ 0 kX11 (km_0 b) (lm_0 b) [.int x2, .int x4, .int x6] [] rfl rfl rfl (Nat.le_of_ble_eq_true rfl) dX11_boxOf_19 (fun x8 s7 => ?_)
  exact j_iret C CR dX11_boxOf_22
set_option maxHeartbeats 4000000 in
theorem jb_X11_ways_23 {b : Bool} {X : CtxT Mem} (C : Cx (YM b) X 7 cX11_ways RX11 none rm_X11_ways) (CR : CRn (YM b) X) (k2 : Int32 → Int32 → Int32 → Mem → Option Mem) (hk2 : ∀ (l1 : Int32) (l2 : Int32) (l3 : Int32) (s : Mem), J (YM b) X 7 (k2 l1 l2 l3 s) 2 [(0, .ref (adX X 0)), (1, .int l1), (2, .int l2), (3, .int l3)] [] s) (n : Nat)  (l1 : Int32) (l2 : Int32) (l3 : Int32) (t0 : Int32) (t1 : Int32) (s : Mem) : J (YM b) X 7 (b_X11_ways_23 k2 n  l1 l2 l3 t0 t1 s) 23 [(0, .ref (adX X 0)), (1, .int l1), (2, .int l2), (3, .int l3)] [.int t0, .int t1, .ref (adX X 17)] s := by
  unfold b_X11_ways_23
  refine j_iast C (km_17 b) (lm_17 b) dX11_ways_23 (fun s1 => ?_)
  refine j_iinc (L2 := fun x2 => [(0, .ref (adX X 0)), (1, .int l1), (2, .int l2), (3, .int x2)]) C dX11_ways_24 3 rfl (by decide) [1, 2, 3, 0] (fun _ => rfl) (fun x2 => ?_)
  refine j_goto (tgt := 2) C dX11_ways_27 (by decide) ?_
  exact hk2 l1 l2 x2 s1
set_option maxHeartbeats 4000000 in
theorem jb_X11_ways_126 {b : Bool} {X : CtxT Mem} (C : Cx (YM b) X 7 cX11_ways RX11 none rm_X11_ways) (CR : CRn (YM b) X) (k35 : Int32 → Int32 → Int32 → Mem → Option Mem) (hk35 : ∀ (l1 : Int32) (l3 : Int32) (l4 : Int32) (s : Mem), J (YM b) X 7 (k35 l1 l3 l4 s) 35 [(0, .ref (adX X 0)), (1, .int l1), (3, .int l3), (4, .int l4)] [] s) (k44 : Int32 → Int32 → Int32 → Int32 → Mem → Option Mem) (hk44 : ∀ (l1 : Int32) (l3 : Int32) (l4 : Int32) (l5 : Int32) (s : Mem), J (YM b) X 7 (k44 l1 l3 l4 l5 s) 44 [(0, .ref (adX X 0)), (1, .int l1), (3, .int l3), (4, .int l4), (5, .int l5)] [] s) (k58 : Int32 → Int32 → Int32 → Int32 → Int32 → Mem → Option Mem) (hk58 : ∀ (l1 : Int32) (l3 : Int32) (l4 : Int32) (l5 : Int32) (l6 : Int32) (s : Mem), J (YM b) X 7 (k58 l1 l3 l4 l5 l6 s) 58 [(0, .ref (adX X 0)), (1, .int l1), (3, .int l3), (4, .int l4), (5, .int l5), (6, .int l6)] [] s) (n : Nat)  (l1 : Int32) (l3 : Int32) (l4 : Int32) (l5 : Int32) (l6 : Int32) (s : Mem) : J (YM b) X 7 (b_X11_ways_126 k35 k44 k58 n  l1 l3 l4 l5 l6 s) 126 [(0, .ref (adX X 0)), (1, .int l1), (3, .int l3), (4, .int l4), (5, .int l5), (6, .int l6)] [] s := by
  unfold b_X11_ways_126
  refine j_iinc (L2 := fun x1 => [(0, .ref (adX X 0)), (1, .int l1), (3, .int l3), (4, .int l4), (5, .int l5), (6, .int x1)]) C dX11_ways_126 5 rfl (by decide) [1, 2, 3, 4, 5, 0] (fun _ => rfl) (fun x1 => ?_)
  refine j_goto (tgt := 58) C dX11_ways_129 (by decide) ?_
  exact hk58 l1 l3 l4 l5 x1 s
set_option maxHeartbeats 4000000 in
theorem jb_X11_ways_132 {b : Bool} {X : CtxT Mem} (C : Cx (YM b) X 7 cX11_ways RX11 none rm_X11_ways) (CR : CRn (YM b) X) (k35 : Int32 → Int32 → Int32 → Mem → Option Mem) (hk35 : ∀ (l1 : Int32) (l3 : Int32) (l4 : Int32) (s : Mem), J (YM b) X 7 (k35 l1 l3 l4 s) 35 [(0, .ref (adX X 0)), (1, .int l1), (3, .int l3), (4, .int l4)] [] s) (k44 : Int32 → Int32 → Int32 → Int32 → Mem → Option Mem) (hk44 : ∀ (l1 : Int32) (l3 : Int32) (l4 : Int32) (l5 : Int32) (s : Mem), J (YM b) X 7 (k44 l1 l3 l4 l5 s) 44 [(0, .ref (adX X 0)), (1, .int l1), (3, .int l3), (4, .int l4), (5, .int l5)] [] s) (n : Nat)  (l1 : Int32) (l3 : Int32) (l4 : Int32) (l5 : Int32) (s : Mem) : J (YM b) X 7 (b_X11_ways_132 k35 k44 n  l1 l3 l4 l5 s) 132 [(0, .ref (adX X 0)), (1, .int l1), (3, .int l3), (4, .int l4), (5, .int l5)] [] s := by
  unfold b_X11_ways_132
  refine j_iinc (L2 := fun x1 => [(0, .ref (adX X 0)), (1, .int l1), (3, .int l3), (4, .int l4), (5, .int x1)]) C dX11_ways_132 4 rfl (by decide) [1, 2, 3, 4, 0] (fun _ => rfl) (fun x1 => ?_)
  refine j_goto (tgt := 44) C dX11_ways_135 (by decide) ?_
  exact hk44 l1 l3 l4 x1 s
set_option maxHeartbeats 4000000 in
theorem jb_X11_ways_58 {b : Bool} {X : CtxT Mem} (C : Cx (YM b) X 7 cX11_ways RX11 none rm_X11_ways) (CR : CRn (YM b) X) (k35 : Int32 → Int32 → Int32 → Mem → Option Mem) (hk35 : ∀ (l1 : Int32) (l3 : Int32) (l4 : Int32) (s : Mem), J (YM b) X 7 (k35 l1 l3 l4 s) 35 [(0, .ref (adX X 0)), (1, .int l1), (3, .int l3), (4, .int l4)] [] s) (k44 : Int32 → Int32 → Int32 → Int32 → Mem → Option Mem) (hk44 : ∀ (l1 : Int32) (l3 : Int32) (l4 : Int32) (l5 : Int32) (s : Mem), J (YM b) X 7 (k44 l1 l3 l4 l5 s) 44 [(0, .ref (adX X 0)), (1, .int l1), (3, .int l3), (4, .int l4), (5, .int l5)] [] s) (n : Nat) (k58 : Int32 → Int32 → Int32 → Int32 → Int32 → Mem → Option Mem) (hk58 : ∀ (l1 : Int32) (l3 : Int32) (l4 : Int32) (l5 : Int32) (l6 : Int32) (s : Mem), J (YM b) X 7 (k58 l1 l3 l4 l5 l6 s) 58 [(0, .ref (adX X 0)), (1, .int l1), (3, .int l3), (4, .int l4), (5, .int l5), (6, .int l6)] [] s) (l1 : Int32) (l3 : Int32) (l4 : Int32) (l5 : Int32) (l6 : Int32) (s : Mem) : J (YM b) X 7 (b_X11_ways_58 k35 k44 n k58 l1 l3 l4 l5 l6 s) 58 [(0, .ref (adX X 0)), (1, .int l1), (3, .int l3), (4, .int l4), (5, .int l5), (6, .int l6)] [] s := by
  unfold b_X11_ways_58
  refine j_iload C dX11_ways_58 5 rfl ?_
  refine j_aload_n C dX11_ways_60 0 rfl rfl ?_
  refine j_getR (z := 4) C kX11 (km_0 b) (lm_0 b) 10 (by decide) tw_1203 (rm_10 b) rfl dX11_ways_61 ?_
  refine j_iload_n C dX11_ways_64 1 rfl rfl ?_
  refine j_iald C (km_4 b) (lm_4 b) dX11_ways_65 ?_
  refine j_icmp_ge (tgt := 132) C dX11_ways_66 (by decide) ?_ ?_
  · refine j_sub (L' := [(0, .ref (adX X 0)), (1, .int l1), (3, .int l3), (4, .int l4), (5, .int l5)]) [0, 1, 2, 3, 4] rfl ?_
    exact jb_X11_ways_132 C CR k35 hk35 k44 hk44 n l1 l3 l4 l5 s
  · refine j_aload_n C dX11_ways_69 0 rfl rfl ?_
    refine j_getR (z := 17) C kX11 (km_0 b) (lm_0 b) 30 (by decide) tw_1223 (rm_30 b) rfl dX11_ways_70 ?_
    refine j_iload C dX11_ways_73 4 rfl ?_
    refine j_iald C (km_17 b) (lm_17 b) dX11_ways_75 ?_
    refine j_iload C dX11_ways_76 3 rfl ?_
    refine j_icmp_ne (tgt := 132) C dX11_ways_78 (by decide) ?_ ?_
    · refine j_sub (L' := [(0, .ref (adX X 0)), (1, .int l1), (3, .int l3), (4, .int l4), (5, .int l5)]) [0, 1, 2, 3, 4] rfl ?_
      exact jb_X11_ways_132 C CR k35 hk35 k44 hk44 n l1 l3 l4 l5 s
    · refine j_aload_n C dX11_ways_81 0 rfl rfl ?_
      refine j_getR (z := 17) C kX11 (km_0 b) (lm_0 b) 30 (by decide) tw_1223 (rm_30 b) rfl dX11_ways_82 ?_
      refine j_iload C dX11_ways_85 5 rfl ?_
      refine j_iald C (km_17 b) (lm_17 b) dX11_ways_87 ?_
      refine j_if_ne (tgt := 126) C dX11_ways_88 (by decide) ?_ ?_
      · exact jb_X11_ways_126 C CR k35 hk35 k44 hk44 k58 hk58 n l1 l3 l4 l5 l6 s
      · refine j_aload_n C dX11_ways_91 0 rfl rfl ?_
        refine j_iload_n C dX11_ways_92 1 rfl rfl ?_
        refine j_iload C dX11_ways_93 5 rfl ?_
        refine j_callVi C (c_X11_isOpen b n l1 l6 s) cw_RX11_184 ⟨rfl, rfl, Nat.le_of_ble_eq_true rfl, Nat.le_of_ble_eq_true rfl⟩ 0 kX11 (km_0 b) (lm_0 b) [.int l1, .int l6] [] rfl rfl rfl (Nat.le_of_ble_eq_true rfl) dX11_ways_95 (fun x2 s1 => ?_)
        refine j_if_eq (tgt := 126) C dX11_ways_98 (by decide) ?_ ?_
        · exact jb_X11_ways_126 C CR k35 hk35 k44 hk44 k58 hk58 n l1 l3 l4 l5 l6 s1
        · refine j_aload_n C dX11_ways_101 0 rfl rfl ?_
          refine j_iload_n C dX11_ways_102 1 rfl rfl ?_
          refine j_iload C dX11_ways_103 4 rfl ?_
          refine j_iload C dX11_ways_105 5 rfl ?_
          refine j_callVi C (c_X11_near b n l1 l5 l6 s1) cw_RX11_198 ⟨rfl, rfl, Nat.le_of_ble_eq_true rfl, Nat.le_of_ble_eq_true rfl⟩ 0 kX11 (km_0 b) (lm_0 b) [.int l1, .int l5, .int l6] [] rfl rfl rfl (Nat.le_of_ble_eq_true rfl) dX11_ways_107 (fun x4 s3 => ?_)
          refine j_if_eq (tgt := 126) C dX11_ways_110 (by decide) ?_ ?_
          · exact jb_X11_ways_126 C CR k35 hk35 k44 hk44 k58 hk58 n l1 l3 l4 l5 l6 s3
          · refine j_aload_n C dX11_ways_113 0 rfl rfl ?_
            refine j_getR (z := 17) C kX11 (km_0 b) (lm_0 b) 30 (by decide) tw_1223 (rm_30 b) rfl dX11_ways_114 ?_
            refine j_iload C dX11_ways_117 5 rfl ?_
            refine j_iload C dX11_ways_119 3 rfl ?_
            refine j_iconst (v := (1 : Int32)) C dX11_ways_121 (by decide) ?_
            refine j_iadd C dX11_ways_122 ?_
            refine j_iast C (km_17 b) (lm_17 b) dX11_ways_123 (fun s5 => ?_)
            refine j_iconst (v := (1 : Int32)) C dX11_ways_124 (by decide) ?_
            refine j_istore_n (L' := [(0, .ref (adX X 0)), (1, .int l1), (3, .int (1 : Int32)), (4, .int l4), (5, .int l5), (6, .int l6)]) C dX11_ways_125 rfl (by decide) [1, 2, 0, 3, 4, 5] rfl ?_
            exact jb_X11_ways_126 C CR k35 hk35 k44 hk44 k58 hk58 n l1 (1 : Int32) l4 l5 l6 s5
theorem lb_X11_ways_58 {b : Bool} {X : CtxT Mem} (C : Cx (YM b) X 7 cX11_ways RX11 none rm_X11_ways) (CR : CRn (YM b) X) (k35 : Int32 → Int32 → Int32 → Mem → Option Mem) (hk35 : ∀ (l1 : Int32) (l3 : Int32) (l4 : Int32) (s : Mem), J (YM b) X 7 (k35 l1 l3 l4 s) 35 [(0, .ref (adX X 0)), (1, .int l1), (3, .int l3), (4, .int l4)] [] s) (k44 : Int32 → Int32 → Int32 → Int32 → Mem → Option Mem) (hk44 : ∀ (l1 : Int32) (l3 : Int32) (l4 : Int32) (l5 : Int32) (s : Mem), J (YM b) X 7 (k44 l1 l3 l4 l5 s) 44 [(0, .ref (adX X 0)), (1, .int l1), (3, .int l3), (4, .int l4), (5, .int l5)] [] s) : ∀ (n : Nat) (l1 : Int32) (l3 : Int32) (l4 : Int32) (l5 : Int32) (l6 : Int32) (s : Mem), J (YM b) X 7 (itr5 (b_X11_ways_58 k35 k44) n l1 l3 l4 l5 l6 s) 58 [(0, .ref (adX X 0)), (1, .int l1), (3, .int l3), (4, .int l4), (5, .int l5), (6, .int l6)] [] s := by
  intro n
  induction n with
  | zero => intros; exact j_none
  | succ n ih =>
    intro l1 l3 l4 l5 l6 s
    exact jb_X11_ways_58 C CR k35 hk35 k44 hk44 n _ ih l1 l3 l4 l5 l6 s
set_option maxHeartbeats 4000000 in
theorem jb_X11_ways_44 {b : Bool} {X : CtxT Mem} (C : Cx (YM b) X 7 cX11_ways RX11 none rm_X11_ways) (CR : CRn (YM b) X) (k35 : Int32 → Int32 → Int32 → Mem → Option Mem) (hk35 : ∀ (l1 : Int32) (l3 : Int32) (l4 : Int32) (s : Mem), J (YM b) X 7 (k35 l1 l3 l4 s) 35 [(0, .ref (adX X 0)), (1, .int l1), (3, .int l3), (4, .int l4)] [] s) (n : Nat) (k44 : Int32 → Int32 → Int32 → Int32 → Mem → Option Mem) (hk44 : ∀ (l1 : Int32) (l3 : Int32) (l4 : Int32) (l5 : Int32) (s : Mem), J (YM b) X 7 (k44 l1 l3 l4 l5 s) 44 [(0, .ref (adX X 0)), (1, .int l1), (3, .int l3), (4, .int l4), (5, .int l5)] [] s) (l1 : Int32) (l3 : Int32) (l4 : Int32) (l5 : Int32) (s : Mem) : J (YM b) X 7 (b_X11_ways_44 k35 n k44 l1 l3 l4 l5 s) 44 [(0, .ref (adX X 0)), (1, .int l1), (3, .int l3), (4, .int l4), (5, .int l5)] [] s := by
  unfold b_X11_ways_44
  refine j_iload C dX11_ways_44 4 rfl ?_
  refine j_aload_n C dX11_ways_46 0 rfl rfl ?_
  refine j_getR (z := 4) C kX11 (km_0 b) (lm_0 b) 10 (by decide) tw_1203 (rm_10 b) rfl dX11_ways_47 ?_
  refine j_iload_n C dX11_ways_50 1 rfl rfl ?_
  refine j_iald C (km_4 b) (lm_4 b) dX11_ways_51 ?_
  refine j_icmp_ge (tgt := 138) C dX11_ways_52 (by decide) ?_ ?_
  · refine j_iinc (L2 := fun x1 => [(0, .ref (adX X 0)), (1, .int l1), (3, .int l3), (4, .int x1), (5, .int l5)]) C dX11_ways_138 3 rfl (by decide) [1, 2, 3, 0, 4] (fun _ => rfl) (fun x1 => ?_)
    refine j_goto (tgt := 35) C dX11_ways_141 (by decide) ?_
    refine j_sub (L' := [(0, .ref (adX X 0)), (1, .int l1), (3, .int l3), (4, .int x1)]) [0, 1, 2, 3] rfl ?_
    exact hk35 l1 l3 x1 s
  · refine j_iconst (v := (0 : Int32)) C dX11_ways_55 (by decide) ?_
    refine j_istore (L' := [(0, .ref (adX X 0)), (1, .int l1), (3, .int l3), (4, .int l4), (5, .int l5), (6, .int (0 : Int32))]) C dX11_ways_56 (by decide) [1, 2, 3, 4, 5, 0] rfl ?_
    exact lb_X11_ways_58 C CR k35 hk35 k44 hk44 n l1 l3 l4 l5 (0 : Int32) s
theorem lb_X11_ways_44 {b : Bool} {X : CtxT Mem} (C : Cx (YM b) X 7 cX11_ways RX11 none rm_X11_ways) (CR : CRn (YM b) X) (k35 : Int32 → Int32 → Int32 → Mem → Option Mem) (hk35 : ∀ (l1 : Int32) (l3 : Int32) (l4 : Int32) (s : Mem), J (YM b) X 7 (k35 l1 l3 l4 s) 35 [(0, .ref (adX X 0)), (1, .int l1), (3, .int l3), (4, .int l4)] [] s) : ∀ (n : Nat) (l1 : Int32) (l3 : Int32) (l4 : Int32) (l5 : Int32) (s : Mem), J (YM b) X 7 (itr4 (b_X11_ways_44 k35) n l1 l3 l4 l5 s) 44 [(0, .ref (adX X 0)), (1, .int l1), (3, .int l3), (4, .int l4), (5, .int l5)] [] s := by
  intro n
  induction n with
  | zero => intros; exact j_none
  | succ n ih =>
    intro l1 l3 l4 l5 s
    exact jb_X11_ways_44 C CR k35 hk35 n _ ih l1 l3 l4 l5 s
set_option maxHeartbeats 4000000 in
theorem jb_X11_ways_35 {b : Bool} {X : CtxT Mem} (C : Cx (YM b) X 7 cX11_ways RX11 none rm_X11_ways) (CR : CRn (YM b) X)  (n : Nat) (k35 : Int32 → Int32 → Int32 → Mem → Option Mem) (hk35 : ∀ (l1 : Int32) (l3 : Int32) (l4 : Int32) (s : Mem), J (YM b) X 7 (k35 l1 l3 l4 s) 35 [(0, .ref (adX X 0)), (1, .int l1), (3, .int l3), (4, .int l4)] [] s) (l1 : Int32) (l3 : Int32) (l4 : Int32) (s : Mem) : J (YM b) X 7 (b_X11_ways_35  n k35 l1 l3 l4 s) 35 [(0, .ref (adX X 0)), (1, .int l1), (3, .int l3), (4, .int l4)] [] s := by
  unfold b_X11_ways_35
  refine j_iload_n C dX11_ways_35 2 rfl rfl ?_
  refine j_if_eq (tgt := 144) C dX11_ways_36 (by decide) ?_ ?_
  · exact j_vret C CR dX11_ways_144
  · refine j_iconst (v := (0 : Int32)) C dX11_ways_39 (by decide) ?_
    refine j_istore_n (L' := [(0, .ref (adX X 0)), (1, .int l1), (3, .int (0 : Int32)), (4, .int l4)]) C dX11_ways_40 rfl (by decide) [1, 2, 0, 3] rfl ?_
    refine j_iconst (v := (0 : Int32)) C dX11_ways_41 (by decide) ?_
    refine j_istore (L' := [(0, .ref (adX X 0)), (1, .int l1), (3, .int (0 : Int32)), (4, .int l4), (5, .int (0 : Int32))]) C dX11_ways_42 (by decide) [1, 2, 3, 4, 0] rfl ?_
    exact lb_X11_ways_44 C CR k35 hk35 n l1 (0 : Int32) l4 (0 : Int32) s
theorem lb_X11_ways_35 {b : Bool} {X : CtxT Mem} (C : Cx (YM b) X 7 cX11_ways RX11 none rm_X11_ways) (CR : CRn (YM b) X)  : ∀ (n : Nat) (l1 : Int32) (l3 : Int32) (l4 : Int32) (s : Mem), J (YM b) X 7 (itr3 (b_X11_ways_35) n l1 l3 l4 s) 35 [(0, .ref (adX X 0)), (1, .int l1), (3, .int l3), (4, .int l4)] [] s := by
  intro n
  induction n with
  | zero => intros; exact j_none
  | succ n ih =>
    intro l1 l3 l4 s
    exact jb_X11_ways_35 C CR  n _ ih l1 l3 l4 s
set_option maxHeartbeats 4000000 in
theorem jb_X11_ways_2 {b : Bool} {X : CtxT Mem} (C : Cx (YM b) X 7 cX11_ways RX11 none rm_X11_ways) (CR : CRn (YM b) X)  (n : Nat) (k2 : Int32 → Int32 → Int32 → Mem → Option Mem) (hk2 : ∀ (l1 : Int32) (l2 : Int32) (l3 : Int32) (s : Mem), J (YM b) X 7 (k2 l1 l2 l3 s) 2 [(0, .ref (adX X 0)), (1, .int l1), (2, .int l2), (3, .int l3)] [] s) (l1 : Int32) (l2 : Int32) (l3 : Int32) (s : Mem) : J (YM b) X 7 (b_X11_ways_2  n k2 l1 l2 l3 s) 2 [(0, .ref (adX X 0)), (1, .int l1), (2, .int l2), (3, .int l3)] [] s := by
  unfold b_X11_ways_2
  refine j_iload_n C dX11_ways_2 3 rfl rfl ?_
  refine j_bipush (v := (16 : Int32)) C dX11_ways_3 (by decide) ?_
  refine j_icmp_ge (tgt := 30) C dX11_ways_5 (by decide) ?_ ?_
  · refine j_iconst (v := (1 : Int32)) C dX11_ways_30 (by decide) ?_
    refine j_istore_n (L' := [(0, .ref (adX X 0)), (1, .int l1), (2, .int l2), (3, .int (1 : Int32))]) C dX11_ways_31 rfl (by decide) [1, 2, 3, 0] rfl ?_
    refine j_iconst (v := (1 : Int32)) C dX11_ways_32 (by decide) ?_
    refine j_istore (L' := [(0, .ref (adX X 0)), (1, .int l1), (2, .int l2), (3, .int (1 : Int32)), (4, .int (1 : Int32))]) C dX11_ways_33 (by decide) [1, 2, 3, 4, 0] rfl ?_
    refine j_sub (L' := [(0, .ref (adX X 0)), (1, .int l1), (3, .int (1 : Int32)), (4, .int (1 : Int32))]) [0, 1, 3, 4] rfl ?_
    exact lb_X11_ways_35 C CR  n l1 (1 : Int32) (1 : Int32) s
  · refine j_aload_n C dX11_ways_8 0 rfl rfl ?_
    refine j_getR (z := 17) C kX11 (km_0 b) (lm_0 b) 30 (by decide) tw_1223 (rm_30 b) rfl dX11_ways_9 ?_
    refine j_iload_n C dX11_ways_12 3 rfl rfl ?_
    refine j_iload_n C dX11_ways_13 3 rfl rfl ?_
    refine j_iload_n C dX11_ways_14 2 rfl rfl ?_
    refine j_icmp_ne (tgt := 22) C dX11_ways_15 (by decide) ?_ ?_
    · refine j_iconst (v := (0 : Int32)) C dX11_ways_22 (by decide) ?_
      exact jb_X11_ways_23 C CR k2 hk2 n l1 l2 l3 (0 : Int32) l3 s
    · refine j_iconst (v := (1 : Int32)) C dX11_ways_18 (by decide) ?_
      refine j_goto (tgt := 23) C dX11_ways_19 (by decide) ?_
      exact jb_X11_ways_23 C CR k2 hk2 n l1 l2 l3 (1 : Int32) l3 s
theorem lb_X11_ways_2 {b : Bool} {X : CtxT Mem} (C : Cx (YM b) X 7 cX11_ways RX11 none rm_X11_ways) (CR : CRn (YM b) X)  : ∀ (n : Nat) (l1 : Int32) (l2 : Int32) (l3 : Int32) (s : Mem), J (YM b) X 7 (itr3 (b_X11_ways_2) n l1 l2 l3 s) 2 [(0, .ref (adX X 0)), (1, .int l1), (2, .int l2), (3, .int l3)] [] s := by
  intro n
  induction n with
  | zero => intros; exact j_none
  | succ n ih =>
    intro l1 l2 l3 s
    exact jb_X11_ways_2 C CR  n _ ih l1 l2 l3 s
set_option maxHeartbeats 4000000 in
theorem c_X11_ways (b : Bool) (n : Nat) (l1 : Int32) (l2 : Int32) (s : Mem) : CTn (YM b) yX11_ways cX11_ways 7 none rm_X11_ways (fun ad => [.ref (ad 0), .int l1, .int l2]) s (f_X11_ways n l1 l2 s) := by
  refine CTn_of (by decide) (fun _ => Nat.le_of_ble_eq_true rfl) (fun X C CR => ?_)
  show J (YM b) X 7 (f_X11_ways n l1 l2 s) 0 [(0, .ref (adX X 0)), (1, .int l1), (2, .int l2)] [] s
  unfold f_X11_ways
  refine j_iconst (v := (0 : Int32)) C dX11_ways_0 (by decide) ?_
  refine j_istore_n (L' := [(0, .ref (adX X 0)), (1, .int l1), (2, .int l2), (3, .int (0 : Int32))]) C dX11_ways_1 rfl (by decide) [1, 2, 3, 0] rfl ?_
  exact lb_X11_ways_2 C CR  n l1 l2 (0 : Int32) s
set_option maxHeartbeats 4000000 in
theorem c_X11_within (b : Bool) (n : Nat) (l0 : Int32) (l1 : Int32) (l2 : Int32) (s : Mem) : CTi (YM b) yX11_within cX11_within 3 (some .int) rm_X11_within (fun ad => [.int l0, .int l1, .int l2]) s (f_X11_within n l0 l1 l2 s) := by
  refine CTi_of (by decide) (fun _ => Nat.le_of_ble_eq_true rfl) (fun X C CR => ?_)
  show J (YM b) X 3 (f_X11_within n l0 l1 l2 s) 0 [(0, .int l0), (1, .int l1), (2, .int l2)] [] s
  unfold f_X11_within
  refine j_iload_n C dX11_within_0 1 rfl rfl ?_
  refine j_iload_n C dX11_within_1 2 rfl rfl ?_
  refine j_iload_n C dX11_within_2 0 rfl rfl ?_
  refine j_mmin C cw_RX11_177 ⟨Nat.le_of_ble_eq_true rfl, Nat.le_of_ble_eq_true rfl⟩ (Nat.le_of_ble_eq_true rfl) dX11_within_3 ?_
  refine j_mmax C cw_RX11_172 ⟨Nat.le_of_ble_eq_true rfl, Nat.le_of_ble_eq_true rfl⟩ (Nat.le_of_ble_eq_true rfl) dX11_within_6 ?_
  exact j_iret C CR dX11_within_9
set_option maxHeartbeats 4000000 in
theorem jb_X11_goals_134 {b : Bool} {X : CtxT Mem} (C : Cx (YM b) X 10 cX11_goals RX11 none rm_X11_goals) (CR : CRn (YM b) X) (k13 : Int32 → Int32 → Int32 → Int32 → Int32 → Mem → Option Mem) (hk13 : ∀ (l1 : Int32) (l3 : Int32) (l4 : Int32) (l5 : Int32) (l6 : Int32) (s : Mem), J (YM b) X 10 (k13 l1 l3 l4 l5 l6 s) 13 [(0, .ref (adX X 0)), (1, .int l1), (3, .int l3), (4, .int l4), (5, .int l5), (6, .int l6)] [] s) (n : Nat)  (l1 : Int32) (l3 : Int32) (l4 : Int32) (l5 : Int32) (l6 : Int32) (s : Mem) : J (YM b) X 10 (b_X11_goals_134 k13 n  l1 l3 l4 l5 l6 s) 134 [(0, .ref (adX X 0)), (1, .int l1), (3, .int l3), (4, .int l4), (5, .int l5), (6, .int l6)] [] s := by
  unfold b_X11_goals_134
  refine j_iinc (L2 := fun x1 => [(0, .ref (adX X 0)), (1, .int l1), (3, .int l3), (4, .int l4), (5, .int l5), (6, .int x1)]) C dX11_goals_134 5 rfl (by decide) [1, 2, 3, 4, 5, 0] (fun _ => rfl) (fun x1 => ?_)
  refine j_goto (tgt := 13) C dX11_goals_137 (by decide) ?_
  exact hk13 l1 l3 l4 l5 x1 s
set_option maxHeartbeats 4000000 in
theorem jb_X11_goals_13 {b : Bool} {X : CtxT Mem} (C : Cx (YM b) X 10 cX11_goals RX11 none rm_X11_goals) (CR : CRn (YM b) X)  (n : Nat) (k13 : Int32 → Int32 → Int32 → Int32 → Int32 → Mem → Option Mem) (hk13 : ∀ (l1 : Int32) (l3 : Int32) (l4 : Int32) (l5 : Int32) (l6 : Int32) (s : Mem), J (YM b) X 10 (k13 l1 l3 l4 l5 l6 s) 13 [(0, .ref (adX X 0)), (1, .int l1), (3, .int l3), (4, .int l4), (5, .int l5), (6, .int l6)] [] s) (l1 : Int32) (l3 : Int32) (l4 : Int32) (l5 : Int32) (l6 : Int32) (s : Mem) : J (YM b) X 10 (b_X11_goals_13  n k13 l1 l3 l4 l5 l6 s) 13 [(0, .ref (adX X 0)), (1, .int l1), (3, .int l3), (4, .int l4), (5, .int l5), (6, .int l6)] [] s := by
  unfold b_X11_goals_13
  refine j_iload C dX11_goals_13 5 rfl ?_
  refine j_aload_n C dX11_goals_15 0 rfl rfl ?_
  refine j_getR (z := 4) C kX11 (km_0 b) (lm_0 b) 10 (by decide) tw_1203 (rm_10 b) rfl dX11_goals_16 ?_
  refine j_iload_n C dX11_goals_19 1 rfl rfl ?_
  refine j_iald C (km_4 b) (lm_4 b) dX11_goals_20 ?_
  refine j_icmp_ge (tgt := 140) C dX11_goals_21 (by decide) ?_ ?_
  · exact j_vret C CR dX11_goals_140
  · refine j_aload_n C dX11_goals_24 0 rfl rfl ?_
    refine j_getR (z := 17) C kX11 (km_0 b) (lm_0 b) 30 (by decide) tw_1223 (rm_30 b) rfl dX11_goals_25 ?_
    refine j_iload C dX11_goals_28 5 rfl ?_
    refine j_iald C (km_17 b) (lm_17 b) dX11_goals_30 ?_
    refine j_if_ne (tgt := 37) C dX11_goals_31 (by decide) ?_ ?_
    · refine j_iload_n C dX11_goals_37 2 rfl rfl ?_
      refine j_aload_n C dX11_goals_38 0 rfl rfl ?_
      refine j_iload_n C dX11_goals_39 1 rfl rfl ?_
      refine j_iload C dX11_goals_40 5 rfl ?_
      refine j_iconst (v := (0 : Int32)) C dX11_goals_42 (by decide) ?_
      refine j_callVi C (c_X11_side b n l1 l6 (0 : Int32) s) cw_RX11_168 ⟨rfl, rfl, Nat.le_of_ble_eq_true rfl, Nat.le_of_ble_eq_true rfl⟩ 0 kX11 (km_0 b) (lm_0 b) [.int l1, .int l6, .int (0 : Int32)] [.int l3] rfl rfl rfl (Nat.le_of_ble_eq_true rfl) dX11_goals_43 (fun x2 s1 => ?_)
      refine j_aload_n C dX11_goals_46 0 rfl rfl ?_
      refine j_iload_n C dX11_goals_47 1 rfl rfl ?_
      refine j_iload C dX11_goals_48 5 rfl ?_
      refine j_iconst (v := (2 : Int32)) C dX11_goals_50 (by decide) ?_
      refine j_callVi C (c_X11_side b n l1 l6 (2 : Int32) s1) cw_RX11_168 ⟨rfl, rfl, Nat.le_of_ble_eq_true rfl, Nat.le_of_ble_eq_true rfl⟩ 0 kX11 (km_0 b) (lm_0 b) [.int l1, .int l6, .int (2 : Int32)] [.int x2, .int l3] rfl rfl rfl (Nat.le_of_ble_eq_true rfl) dX11_goals_51 (fun x4 s3 => ?_)
      refine j_callSi C (c_X11_within b n l3 x2 x4 s3) cw_RX11_208 ⟨rfl, rfl, Nat.le_of_ble_eq_true rfl, Nat.le_of_ble_eq_true rfl⟩ [.int l3, .int x2, .int x4] [] rfl rfl rfl (Nat.le_of_ble_eq_true rfl) dX11_goals_54 (fun x6 s5 => ?_)
      refine j_istore (L' := [(0, .ref (adX X 0)), (1, .int l1), (3, .int l3), (4, .int l4), (5, .int l5), (6, .int l6), (7, .int x6)]) C dX11_goals_57 (by decide) [1, 2, 3, 4, 5, 6, 0] rfl ?_
      refine j_iload C dX11_goals_59 3 rfl ?_
      refine j_aload_n C dX11_goals_61 0 rfl rfl ?_
      refine j_iload_n C dX11_goals_62 1 rfl rfl ?_
      refine j_iload C dX11_goals_63 5 rfl ?_
      refine j_iconst (v := (1 : Int32)) C dX11_goals_65 (by decide) ?_
      refine j_callVi C (c_X11_side b n l1 l6 (1 : Int32) s5) cw_RX11_168 ⟨rfl, rfl, Nat.le_of_ble_eq_true rfl, Nat.le_of_ble_eq_true rfl⟩ 0 kX11 (km_0 b) (lm_0 b) [.int l1, .int l6, .int (1 : Int32)] [.int l4] rfl rfl rfl (Nat.le_of_ble_eq_true rfl) dX11_goals_66 (fun x8 s7 => ?_)
      refine j_aload_n C dX11_goals_69 0 rfl rfl ?_
      refine j_iload_n C dX11_goals_70 1 rfl rfl ?_
      refine j_iload C dX11_goals_71 5 rfl ?_
      refine j_iconst (v := (3 : Int32)) C dX11_goals_73 (by decide) ?_
      refine j_callVi C (c_X11_side b n l1 l6 (3 : Int32) s7) cw_RX11_168 ⟨rfl, rfl, Nat.le_of_ble_eq_true rfl, Nat.le_of_ble_eq_true rfl⟩ 0 kX11 (km_0 b) (lm_0 b) [.int l1, .int l6, .int (3 : Int32)] [.int x8, .int l4] rfl rfl rfl (Nat.le_of_ble_eq_true rfl) dX11_goals_74 (fun x10 s9 => ?_)
      refine j_callSi C (c_X11_within b n l4 x8 x10 s9) cw_RX11_208 ⟨rfl, rfl, Nat.le_of_ble_eq_true rfl, Nat.le_of_ble_eq_true rfl⟩ [.int l4, .int x8, .int x10] [] rfl rfl rfl (Nat.le_of_ble_eq_true rfl) dX11_goals_77 (fun x12 s11 => ?_)
      refine j_istore (L' := [(0, .ref (adX X 0)), (1, .int l1), (3, .int l3), (4, .int l4), (5, .int l5), (6, .int l6), (7, .int x6), (8, .int x12)]) C dX11_goals_80 (by decide) [1, 2, 3, 4, 5, 6, 7, 0] rfl ?_
      refine j_iload_n C dX11_goals_82 2 rfl rfl ?_
      refine j_iload C dX11_goals_83 6 rfl ?_
      refine j_isub C dX11_goals_85 ?_
      refine j_iload_n C dX11_goals_86 2 rfl rfl ?_
      refine j_iload C dX11_goals_87 6 rfl ?_
      refine j_isub C dX11_goals_89 ?_
      refine j_imul C dX11_goals_90 ?_
      refine j_iload C dX11_goals_91 3 rfl ?_
      refine j_iload C dX11_goals_93 7 rfl ?_
      refine j_isub C dX11_goals_95 ?_
      refine j_iload C dX11_goals_96 3 rfl ?_
      refine j_iload C dX11_goals_98 7 rfl ?_
      refine j_isub C dX11_goals_100 ?_
      refine j_imul C dX11_goals_101 ?_
      refine j_iadd C dX11_goals_102 ?_
      refine j_top (fun x13 => ?_)
      refine j_istore (L' := [(0, .ref (adX X 0)), (1, .int l1), (3, .int l3), (4, .int l4), (5, .int l5), (6, .int l6), (7, .int x6), (8, .int x12), (9, .int x13)]) C dX11_goals_103 (by decide) [1, 2, 3, 4, 5, 6, 7, 8, 0] rfl ?_
      refine j_iload C dX11_goals_105 8 rfl ?_
      refine j_iload C dX11_goals_107 4 rfl ?_
      refine j_icmp_ge (tgt := 134) C dX11_goals_109 (by decide) ?_ ?_
      · refine j_sub (L' := [(0, .ref (adX X 0)), (1, .int l1), (3, .int l3), (4, .int l4), (5, .int l5), (6, .int l6)]) [0, 1, 2, 3, 4, 5] rfl ?_
        exact jb_X11_goals_134 C CR k13 hk13 n l1 l3 l4 l5 l6 s11
      · refine j_iload C dX11_goals_112 8 rfl ?_
        refine j_istore (L' := [(0, .ref (adX X 0)), (1, .int l1), (3, .int l3), (4, .int l4), (5, .int x13), (6, .int l6), (7, .int x6), (8, .int x12), (9, .int x13)]) C dX11_goals_114 (by decide) [1, 2, 3, 4, 0, 5, 6, 7, 8] rfl ?_
        refine j_aload_n C dX11_goals_116 0 rfl rfl ?_
        refine j_iload C dX11_goals_117 5 rfl ?_
        refine j_put C kX11 (km_0 b) (lm_0 b) 31 (by decide) tw_1224 (rm_31 b) rfl rfl dX11_goals_119 (fun s14 => ?_)
        refine j_aload_n C dX11_goals_122 0 rfl rfl ?_
        refine j_iload C dX11_goals_123 6 rfl ?_
        refine j_put C kX11 (km_0 b) (lm_0 b) 32 (by decide) tw_1225 (rm_32 b) rfl rfl dX11_goals_125 (fun s15 => ?_)
        refine j_aload_n C dX11_goals_128 0 rfl rfl ?_
        refine j_iload C dX11_goals_129 7 rfl ?_
        refine j_put C kX11 (km_0 b) (lm_0 b) 33 (by decide) tw_1226 (rm_33 b) rfl rfl dX11_goals_131 (fun s16 => ?_)
        refine j_sub (L' := [(0, .ref (adX X 0)), (1, .int l1), (3, .int l3), (4, .int l4), (5, .int x13), (6, .int l6)]) [0, 1, 2, 3, 4, 5] rfl ?_
        exact jb_X11_goals_134 C CR k13 hk13 n l1 l3 l4 x13 l6 s16
    · refine j_goto (tgt := 134) C dX11_goals_34 (by decide) ?_
      exact jb_X11_goals_134 C CR k13 hk13 n l1 l3 l4 l5 l6 s
theorem lb_X11_goals_13 {b : Bool} {X : CtxT Mem} (C : Cx (YM b) X 10 cX11_goals RX11 none rm_X11_goals) (CR : CRn (YM b) X)  : ∀ (n : Nat) (l1 : Int32) (l3 : Int32) (l4 : Int32) (l5 : Int32) (l6 : Int32) (s : Mem), J (YM b) X 10 (itr5 (b_X11_goals_13) n l1 l3 l4 l5 l6 s) 13 [(0, .ref (adX X 0)), (1, .int l1), (3, .int l3), (4, .int l4), (5, .int l5), (6, .int l6)] [] s := by
  intro n
  induction n with
  | zero => intros; exact j_none
  | succ n ih =>
    intro l1 l3 l4 l5 l6 s
    exact jb_X11_goals_13 C CR  n _ ih l1 l3 l4 l5 l6 s
set_option maxHeartbeats 4000000 in
theorem c_X11_goals (b : Bool) (n : Nat) (l1 : Int32) (l2 : Int32) (l3 : Int32) (l4 : Int32) (s : Mem) : CTn (YM b) yX11_goals cX11_goals 10 none rm_X11_goals (fun ad => [.ref (ad 0), .int l1, .int l2, .int l3, .int l4]) s (f_X11_goals n l1 l2 l3 l4 s) := by
  refine CTn_of (by decide) (fun _ => Nat.le_of_ble_eq_true rfl) (fun X C CR => ?_)
  show J (YM b) X 10 (f_X11_goals n l1 l2 l3 l4 s) 0 [(0, .ref (adX X 0)), (1, .int l1), (2, .int l2), (3, .int l3), (4, .int l4)] [] s
  unfold f_X11_goals
  refine j_aload_n C dX11_goals_0 0 rfl rfl ?_
  refine j_iload_n C dX11_goals_1 1 rfl rfl ?_
  refine j_iload_n C dX11_goals_2 2 rfl rfl ?_
  refine j_callVn C (c_X11_ways b n l1 l2 s) cw_RX11_202 ⟨rfl, rfl, Nat.le_of_ble_eq_true rfl, Nat.le_of_ble_eq_true rfl⟩ 0 kX11 (km_0 b) (lm_0 b) [.int l1, .int l2] [] rfl rfl rfl (Nat.le_of_ble_eq_true rfl) dX11_goals_3 (fun s1 => ?_)
  refine j_ldc (v := (2147483647 : Int32)) C tw_1546 dX11_goals_6 ?_
  refine j_istore (L' := [(0, .ref (adX X 0)), (1, .int l1), (2, .int l2), (3, .int l3), (4, .int l4), (5, .int (2147483647 : Int32))]) C dX11_goals_8 (by decide) [1, 2, 3, 4, 5, 0] rfl ?_
  refine j_iconst (v := (0 : Int32)) C dX11_goals_10 (by decide) ?_
  refine j_istore (L' := [(0, .ref (adX X 0)), (1, .int l1), (2, .int l2), (3, .int l3), (4, .int l4), (5, .int (2147483647 : Int32)), (6, .int (0 : Int32))]) C dX11_goals_11 (by decide) [1, 2, 3, 4, 5, 6, 0] rfl ?_
  refine j_sub (L' := [(0, .ref (adX X 0)), (1, .int l1), (3, .int l3), (4, .int l4), (5, .int (2147483647 : Int32)), (6, .int (0 : Int32))]) [0, 1, 3, 4, 5, 6] rfl ?_
  exact lb_X11_goals_13 C CR  n l1 l3 l4 (2147483647 : Int32) (0 : Int32) s1
