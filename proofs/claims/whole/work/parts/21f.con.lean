set_option maxHeartbeats 4000000 in
theorem jb_X11_actor_25 {b : Bool} {X : CtxT (Int32 × Mem)} (C : Cx (YM b) X 3 cX11_actor RX11 (some .int) rm_X11_actor) (CR : CRi (YM b) X)  (n : Nat)   (s : Mem) : J (YM b) X 3 (b_X11_actor_25  n   s) 25 [(0, .ref (adX X 0))] [] s := by
  unfold b_X11_actor_25
  refine j_aload_n C dX11_actor_25 0 rfl rfl ?_
  refine j_callVi C (c_X11_refuse b n  s) cw_RX11_135 ⟨rfl, rfl, Nat.le_of_ble_eq_true rfl, Nat.le_of_ble_eq_true rfl⟩ 0 kX11 (km_0 b) (lm_0 b) [] [] rfl rfl rfl (Nat.le_of_ble_eq_true rfl) dX11_actor_26 (fun x2 s1 => ?_)
  exact j_iret C CR dX11_actor_29
set_option maxHeartbeats 4000000 in
theorem jb_X11_actor_66 {b : Bool} {X : CtxT (Int32 × Mem)} (C : Cx (YM b) X 3 cX11_actor RX11 (some .int) rm_X11_actor) (CR : CRi (YM b) X)  (n : Nat)  (t0 : Int32) (s : Mem) : J (YM b) X 3 (b_X11_actor_66  n  t0 s) 66 [] [.int t0] s := by
  unfold b_X11_actor_66
  exact j_iret C CR dX11_actor_66
set_option maxHeartbeats 4000000 in
theorem jb_X11_actor_60 {b : Bool} {X : CtxT (Int32 × Mem)} (C : Cx (YM b) X 3 cX11_actor RX11 (some .int) rm_X11_actor) (CR : CRi (YM b) X)  (n : Nat)  (l1 : Int32) (l2 : Int32) (s : Mem) : J (YM b) X 3 (b_X11_actor_60  n  l1 l2 s) 60 [(0, .ref (adX X 0)), (1, .int l1), (2, .int l2)] [] s := by
  unfold b_X11_actor_60
  refine j_aload_n C dX11_actor_60 0 rfl rfl ?_
  refine j_iload_n C dX11_actor_61 1 rfl rfl ?_
  refine j_iload_n C dX11_actor_62 2 rfl rfl ?_
  refine j_callVi C (c_X11_actorOf b n l1 l2 s) cw_RX11_192 ⟨rfl, rfl, Nat.le_of_ble_eq_true rfl, Nat.le_of_ble_eq_true rfl⟩ 0 kX11 (km_0 b) (lm_0 b) [.int l1, .int l2] [] rfl rfl rfl (Nat.le_of_ble_eq_true rfl) dX11_actor_63 (fun x2 s1 => ?_)
  refine j_sub (L' := []) [] rfl ?_
  exact jb_X11_actor_66 C CR  n x2 s1
set_option maxHeartbeats 4000000 in
theorem c_X11_actor (b : Bool) (n : Nat) (l1 : Int32) (l2 : Int32) (s : Mem) : CTi (YM b) yX11_actor cX11_actor 3 (some .int) rm_X11_actor (fun ad => [.ref (ad 0), .int l1, .int l2]) s (f_X11_actor n l1 l2 s) := by
  refine CTi_of (by decide) (fun _ => Nat.le_of_ble_eq_true rfl) (fun X C CR => ?_)
  show J (YM b) X 3 (f_X11_actor n l1 l2 s) 0 [(0, .ref (adX X 0)), (1, .int l1), (2, .int l2)] [] s
  unfold f_X11_actor
  refine j_aload_n C dX11_actor_0 0 rfl rfl ?_
  refine j_iconst (v := (0 : Int32)) C dX11_actor_1 (by decide) ?_
  refine j_put C kX11 (km_0 b) (lm_0 b) 0 (by decide) tw_1193 (rm_0 b) rfl rfl dX11_actor_2 (fun s1 => ?_)
  refine j_aload_n C dX11_actor_5 0 rfl rfl ?_
  refine j_iload_n C dX11_actor_6 1 rfl rfl ?_
  refine j_callVi C (c_X11_isActor b n l1 s1) cw_RX11_284 ⟨rfl, rfl, Nat.le_of_ble_eq_true rfl, Nat.le_of_ble_eq_true rfl⟩ 0 kX11 (km_0 b) (lm_0 b) [.int l1] [] rfl rfl rfl (Nat.le_of_ble_eq_true rfl) dX11_actor_7 (fun x3 s2 => ?_)
  refine j_if_eq (tgt := 25) C dX11_actor_10 (by decide) ?_ ?_
  · refine j_sub (L' := [(0, .ref (adX X 0))]) [0] rfl ?_
    exact jb_X11_actor_25 C CR  n s2
  · refine j_iload_n C dX11_actor_13 2 rfl rfl ?_
    refine j_i2l C dX11_actor_14 ?_
    refine j_lconst (v := 0) C dX11_actor_15 (by decide) ?_
    refine j_ldc2 (v := 7) C tw_1463 dX11_actor_16 ?_
    refine j_callSi C (c_X11_in b n l2.toInt64 (0 : Int64) (7 : Int64) s2) cw_RX11_72 ⟨rfl, rfl, Nat.le_of_ble_eq_true rfl, Nat.le_of_ble_eq_true rfl⟩ [.long l2.toInt64, .long (0 : Int64), .long (7 : Int64)] [] rfl rfl rfl (Nat.le_of_ble_eq_true rfl) dX11_actor_19 (fun x5 s4 => ?_)
    refine j_if_ne (tgt := 30) C dX11_actor_22 (by decide) ?_ ?_
    · refine j_iload_n C dX11_actor_30 2 rfl rfl ?_
      refine j_bipush (v := (7 : Int32)) C dX11_actor_31 (by decide) ?_
      refine j_icmp_ne (tgt := 42) C dX11_actor_33 (by decide) ?_ ?_
      · refine j_iload_n C dX11_actor_42 2 rfl rfl ?_
        refine j_iconst (v := (4 : Int32)) C dX11_actor_43 (by decide) ?_
        refine j_icmp_le (tgt := 60) C dX11_actor_44 (by decide) ?_ ?_
        · exact jb_X11_actor_60 C CR  n l1 l2 s4
        · refine j_aload_n C dX11_actor_47 0 rfl rfl ?_
          refine j_iload_n C dX11_actor_48 1 rfl rfl ?_
          refine j_iconst (v := (4 : Int32)) C dX11_actor_49 (by decide) ?_
          refine j_callVi C (c_X11_actorOf b n l1 (4 : Int32) s4) cw_RX11_192 ⟨rfl, rfl, Nat.le_of_ble_eq_true rfl, Nat.le_of_ble_eq_true rfl⟩ 0 kX11 (km_0 b) (lm_0 b) [.int l1, .int (4 : Int32)] [] rfl rfl rfl (Nat.le_of_ble_eq_true rfl) dX11_actor_50 (fun x7 s6 => ?_)
          refine j_if_ne (tgt := 60) C dX11_actor_53 (by decide) ?_ ?_
          · exact jb_X11_actor_60 C CR  n l1 l2 s6
          · refine j_iconst (v := (-1 : Int32)) C dX11_actor_56 (by decide) ?_
            refine j_goto (tgt := 66) C dX11_actor_57 (by decide) ?_
            refine j_sub (L' := []) [] rfl ?_
            exact jb_X11_actor_66 C CR  n (-1 : Int32) s6
      · refine j_aload_n C dX11_actor_36 0 rfl rfl ?_
        refine j_iload_n C dX11_actor_37 1 rfl rfl ?_
        refine j_callVi C (c_X11_boxOf b n l1 s4) cw_RX11_220 ⟨rfl, rfl, Nat.le_of_ble_eq_true rfl, Nat.le_of_ble_eq_true rfl⟩ 0 kX11 (km_0 b) (lm_0 b) [.int l1] [] rfl rfl rfl (Nat.le_of_ble_eq_true rfl) dX11_actor_38 (fun x9 s8 => ?_)
        exact j_iret C CR dX11_actor_41
    · refine j_sub (L' := [(0, .ref (adX X 0))]) [0] rfl ?_
      exact jb_X11_actor_25 C CR  n s4
set_option maxHeartbeats 4000000 in
theorem jb_X11_object_25 {b : Bool} {X : CtxT (Int32 × Mem)} (C : Cx (YM b) X 3 cX11_object RX11 (some .int) rm_X11_object) (CR : CRi (YM b) X)  (n : Nat)   (s : Mem) : J (YM b) X 3 (b_X11_object_25  n   s) 25 [(0, .ref (adX X 0))] [] s := by
  unfold b_X11_object_25
  refine j_aload_n C dX11_object_25 0 rfl rfl ?_
  refine j_callVi C (c_X11_refuse b n  s) cw_RX11_135 ⟨rfl, rfl, Nat.le_of_ble_eq_true rfl, Nat.le_of_ble_eq_true rfl⟩ 0 kX11 (km_0 b) (lm_0 b) [] [] rfl rfl rfl (Nat.le_of_ble_eq_true rfl) dX11_object_26 (fun x2 s1 => ?_)
  exact j_iret C CR dX11_object_29
set_option maxHeartbeats 4000000 in
theorem jb_X11_object_90 {b : Bool} {X : CtxT (Int32 × Mem)} (C : Cx (YM b) X 3 cX11_object RX11 (some .int) rm_X11_object) (CR : CRi (YM b) X)  (n : Nat)  (t0 : Int32) (s : Mem) : J (YM b) X 3 (b_X11_object_90  n  t0 s) 90 [] [.int t0] s := by
  unfold b_X11_object_90
  exact j_iret C CR dX11_object_90
set_option maxHeartbeats 4000000 in
theorem c_X11_object (b : Bool) (n : Nat) (l1 : Int32) (l2 : Int32) (s : Mem) : CTi (YM b) yX11_object cX11_object 3 (some .int) rm_X11_object (fun ad => [.ref (ad 0), .int l1, .int l2]) s (f_X11_object n l1 l2 s) := by
  refine CTi_of (by decide) (fun _ => Nat.le_of_ble_eq_true rfl) (fun X C CR => ?_)
  show J (YM b) X 3 (f_X11_object n l1 l2 s) 0 [(0, .ref (adX X 0)), (1, .int l1), (2, .int l2)] [] s
  unfold f_X11_object
  refine j_aload_n C dX11_object_0 0 rfl rfl ?_
  refine j_iconst (v := (0 : Int32)) C dX11_object_1 (by decide) ?_
  refine j_put C kX11 (km_0 b) (lm_0 b) 0 (by decide) tw_1193 (rm_0 b) rfl rfl dX11_object_2 (fun s1 => ?_)
  refine j_aload_n C dX11_object_5 0 rfl rfl ?_
  refine j_iload_n C dX11_object_6 1 rfl rfl ?_
  refine j_callVi C (c_X11_isObject b n l1 s1) cw_RX11_292 ⟨rfl, rfl, Nat.le_of_ble_eq_true rfl, Nat.le_of_ble_eq_true rfl⟩ 0 kX11 (km_0 b) (lm_0 b) [.int l1] [] rfl rfl rfl (Nat.le_of_ble_eq_true rfl) dX11_object_7 (fun x3 s2 => ?_)
  refine j_if_eq (tgt := 25) C dX11_object_10 (by decide) ?_ ?_
  · refine j_sub (L' := [(0, .ref (adX X 0))]) [0] rfl ?_
    exact jb_X11_object_25 C CR  n s2
  · refine j_iload_n C dX11_object_13 2 rfl rfl ?_
    refine j_i2l C dX11_object_14 ?_
    refine j_lconst (v := 0) C dX11_object_15 (by decide) ?_
    refine j_ldc2 (v := 5) C tw_1606 dX11_object_16 ?_
    refine j_callSi C (c_X11_in b n l2.toInt64 (0 : Int64) (5 : Int64) s2) cw_RX11_72 ⟨rfl, rfl, Nat.le_of_ble_eq_true rfl, Nat.le_of_ble_eq_true rfl⟩ [.long l2.toInt64, .long (0 : Int64), .long (5 : Int64)] [] rfl rfl rfl (Nat.le_of_ble_eq_true rfl) dX11_object_19 (fun x5 s4 => ?_)
    refine j_if_ne (tgt := 30) C dX11_object_22 (by decide) ?_ ?_
    · refine j_iload_n C dX11_object_30 2 rfl rfl ?_
      refine j_iconst (v := (3 : Int32)) C dX11_object_31 (by decide) ?_
      refine j_icmp_ge (tgt := 48) C dX11_object_32 (by decide) ?_ ?_
      · refine j_iload_n C dX11_object_48 2 rfl rfl ?_
        refine j_iconst (v := (3 : Int32)) C dX11_object_49 (by decide) ?_
        refine j_icmp_ne (tgt := 66) C dX11_object_50 (by decide) ?_ ?_
        · refine j_iload_n C dX11_object_66 2 rfl rfl ?_
          refine j_iconst (v := (4 : Int32)) C dX11_object_67 (by decide) ?_
          refine j_icmp_ne (tgt := 84) C dX11_object_68 (by decide) ?_ ?_
          · refine j_aload_n C dX11_object_84 0 rfl rfl ?_
            refine j_getR (z := 11) C kX11 (km_0 b) (lm_0 b) 17 (by decide) tw_1210 (rm_17 b) rfl dX11_object_85 ?_
            refine j_iload_n C dX11_object_88 1 rfl rfl ?_
            refine j_iald C (km_11 b) (lm_11 b) dX11_object_89 ?_
            refine j_sub (L' := []) [] rfl ?_
            exact jb_X11_object_90 C CR  n (s4 11 l1.toNatClampNeg) s4
          · refine j_aload_n C dX11_object_71 0 rfl rfl ?_
            refine j_getR (z := 15) C kX11 (km_0 b) (lm_0 b) 27 (by decide) tw_1220 (rm_27 b) rfl dX11_object_72 ?_
            refine j_sipush (v := (384 : Int32)) C dX11_object_75 (by decide) ?_
            refine j_iload_n C dX11_object_78 1 rfl rfl ?_
            refine j_iadd C dX11_object_79 ?_
            refine j_iald C (km_15 b) (lm_15 b) dX11_object_80 ?_
            refine j_goto (tgt := 90) C dX11_object_81 (by decide) ?_
            refine j_sub (L' := []) [] rfl ?_
            exact jb_X11_object_90 C CR  n (s4 15 ((384 : Int32) + l1).toNatClampNeg) s4
        · refine j_aload_n C dX11_object_53 0 rfl rfl ?_
          refine j_getR (z := 15) C kX11 (km_0 b) (lm_0 b) 27 (by decide) tw_1220 (rm_27 b) rfl dX11_object_54 ?_
          refine j_sipush (v := (323 : Int32)) C dX11_object_57 (by decide) ?_
          refine j_iload_n C dX11_object_60 1 rfl rfl ?_
          refine j_iadd C dX11_object_61 ?_
          refine j_iald C (km_15 b) (lm_15 b) dX11_object_62 ?_
          refine j_goto (tgt := 90) C dX11_object_63 (by decide) ?_
          refine j_sub (L' := []) [] rfl ?_
          exact jb_X11_object_90 C CR  n (s4 15 ((323 : Int32) + l1).toNatClampNeg) s4
      · refine j_aload_n C dX11_object_35 0 rfl rfl ?_
        refine j_getR (z := 9) C kX11 (km_0 b) (lm_0 b) 15 (by decide) tw_1208 (rm_15 b) rfl dX11_object_36 ?_
        refine j_iconst (v := (3 : Int32)) C dX11_object_39 (by decide) ?_
        refine j_iload_n C dX11_object_40 1 rfl rfl ?_
        refine j_imul C dX11_object_41 ?_
        refine j_iload_n C dX11_object_42 2 rfl rfl ?_
        refine j_iadd C dX11_object_43 ?_
        refine j_iald C (km_9 b) (lm_9 b) dX11_object_44 ?_
        refine j_goto (tgt := 90) C dX11_object_45 (by decide) ?_
        refine j_sub (L' := []) [] rfl ?_
        exact jb_X11_object_90 C CR  n (s4 9 (((3 : Int32) * l1) + l2).toNatClampNeg) s4
    · refine j_sub (L' := [(0, .ref (adX X 0))]) [0] rfl ?_
      exact jb_X11_object_25 C CR  n s4
set_option maxHeartbeats 4000000 in
theorem jb_X11_verb_23 {b : Bool} {X : CtxT (Int32 × Mem)} (C : Cx (YM b) X 3 cX11_verb RX11 (some .int) rm_X11_verb) (CR : CRi (YM b) X)  (n : Nat)  (t0 : Int32) (s : Mem) : J (YM b) X 3 (b_X11_verb_23  n  t0 s) 23 [] [.int t0] s := by
  unfold b_X11_verb_23
  exact j_iret C CR dX11_verb_23
set_option maxHeartbeats 4000000 in
theorem c_X11_verb (b : Bool) (n : Nat) (l1 : Int32) (l2 : Int32) (s : Mem) : CTi (YM b) yX11_verb cX11_verb 3 (some .int) rm_X11_verb (fun ad => [.ref (ad 0), .int l1, .int l2]) s (f_X11_verb n l1 l2 s) := by
  refine CTi_of (by decide) (fun _ => Nat.le_of_ble_eq_true rfl) (fun X C CR => ?_)
  show J (YM b) X 3 (f_X11_verb n l1 l2 s) 0 [(0, .ref (adX X 0)), (1, .int l1), (2, .int l2)] [] s
  unfold f_X11_verb
  refine j_aload_n C dX11_verb_0 0 rfl rfl ?_
  refine j_iconst (v := (0 : Int32)) C dX11_verb_1 (by decide) ?_
  refine j_put C kX11 (km_0 b) (lm_0 b) 0 (by decide) tw_1193 (rm_0 b) rfl rfl dX11_verb_2 (fun s1 => ?_)
  refine j_aload_n C dX11_verb_5 0 rfl rfl ?_
  refine j_iload_n C dX11_verb_6 1 rfl rfl ?_
  refine j_callVi C (c_X11_isObject b n l1 s1) cw_RX11_292 ⟨rfl, rfl, Nat.le_of_ble_eq_true rfl, Nat.le_of_ble_eq_true rfl⟩ 0 kX11 (km_0 b) (lm_0 b) [.int l1] [] rfl rfl rfl (Nat.le_of_ble_eq_true rfl) dX11_verb_7 (fun x3 s2 => ?_)
  refine j_if_eq (tgt := 22) C dX11_verb_10 (by decide) ?_ ?_
  · refine j_iconst (v := (0 : Int32)) C dX11_verb_22 (by decide) ?_
    refine j_sub (L' := []) [] rfl ?_
    exact jb_X11_verb_23 C CR  n (0 : Int32) s2
  · refine j_aload_n C dX11_verb_13 0 rfl rfl ?_
    refine j_iload_n C dX11_verb_14 1 rfl rfl ?_
    refine j_iload_n C dX11_verb_15 2 rfl rfl ?_
    refine j_callVi C (c_X11_scriptOf b n l1 l2 s2) cw_RX11_340 ⟨rfl, rfl, Nat.le_of_ble_eq_true rfl, Nat.le_of_ble_eq_true rfl⟩ 0 kX11 (km_0 b) (lm_0 b) [.int l1, .int l2] [] rfl rfl rfl (Nat.le_of_ble_eq_true rfl) dX11_verb_16 (fun x5 s4 => ?_)
    refine j_goto (tgt := 23) C dX11_verb_19 (by decide) ?_
    refine j_sub (L' := []) [] rfl ?_
    exact jb_X11_verb_23 C CR  n x5 s4
set_option maxHeartbeats 4000000 in
theorem jb_X11_box_26 {b : Bool} {X : CtxT (Int32 × Mem)} (C : Cx (YM b) X 4 cX11_box RX11 (some .int) rm_X11_box) (CR : CRi (YM b) X)  (n : Nat)   (s : Mem) : J (YM b) X 4 (b_X11_box_26  n   s) 26 [] [] s := by
  unfold b_X11_box_26
  refine j_iconst (v := (-1 : Int32)) C dX11_box_26 (by decide) ?_
  exact j_iret C CR dX11_box_27
set_option maxHeartbeats 4000000 in
theorem jb_X11_box_58 {b : Bool} {X : CtxT (Int32 × Mem)} (C : Cx (YM b) X 4 cX11_box RX11 (some .int) rm_X11_box) (CR : CRi (YM b) X)  (n : Nat)  (t0 : Int32) (s : Mem) : J (YM b) X 4 (b_X11_box_58  n  t0 s) 58 [] [.int t0] s := by
  unfold b_X11_box_58
  exact j_iret C CR dX11_box_58
set_option maxHeartbeats 4000000 in
theorem c_X11_box (b : Bool) (n : Nat) (l1 : Int32) (l2 : Int32) (l3 : Int32) (s : Mem) : CTi (YM b) yX11_box cX11_box 4 (some .int) rm_X11_box (fun ad => [.ref (ad 0), .int l1, .int l2, .int l3]) s (f_X11_box n l1 l2 l3 s) := by
  refine CTi_of (by decide) (fun _ => Nat.le_of_ble_eq_true rfl) (fun X C CR => ?_)
  show J (YM b) X 4 (f_X11_box n l1 l2 l3 s) 0 [(0, .ref (adX X 0)), (1, .int l1), (2, .int l2), (3, .int l3)] [] s
  unfold f_X11_box
  refine j_aload_n C dX11_box_0 0 rfl rfl ?_
  refine j_iconst (v := (0 : Int32)) C dX11_box_1 (by decide) ?_
  refine j_put C kX11 (km_0 b) (lm_0 b) 0 (by decide) tw_1193 (rm_0 b) rfl rfl dX11_box_2 (fun s1 => ?_)
  refine j_aload_n C dX11_box_5 0 rfl rfl ?_
  refine j_iload_n C dX11_box_6 1 rfl rfl ?_
  refine j_iload_n C dX11_box_7 2 rfl rfl ?_
  refine j_callVi C (c_X11_isBox b n l1 l2 s1) cw_RX11_295 ⟨rfl, rfl, Nat.le_of_ble_eq_true rfl, Nat.le_of_ble_eq_true rfl⟩ 0 kX11 (km_0 b) (lm_0 b) [.int l1, .int l2] [] rfl rfl rfl (Nat.le_of_ble_eq_true rfl) dX11_box_8 (fun x3 s2 => ?_)
  refine j_if_eq (tgt := 26) C dX11_box_11 (by decide) ?_ ?_
  · refine j_sub (L' := []) [] rfl ?_
    exact jb_X11_box_26 C CR  n s2
  · refine j_iload_n C dX11_box_14 3 rfl rfl ?_
    refine j_i2l C dX11_box_15 ?_
    refine j_lconst (v := 0) C dX11_box_16 (by decide) ?_
    refine j_ldc2 (v := 4) C tw_1615 dX11_box_17 ?_
    refine j_callSi C (c_X11_in b n l3.toInt64 (0 : Int64) (4 : Int64) s2) cw_RX11_72 ⟨rfl, rfl, Nat.le_of_ble_eq_true rfl, Nat.le_of_ble_eq_true rfl⟩ [.long l3.toInt64, .long (0 : Int64), .long (4 : Int64)] [] rfl rfl rfl (Nat.le_of_ble_eq_true rfl) dX11_box_20 (fun x5 s4 => ?_)
    refine j_if_ne (tgt := 28) C dX11_box_23 (by decide) ?_ ?_
    · refine j_iload_n C dX11_box_28 3 rfl rfl ?_
      refine j_iconst (v := (4 : Int32)) C dX11_box_29 (by decide) ?_
      refine j_icmp_ne (tgt := 51) C dX11_box_30 (by decide) ?_ ?_
      · refine j_aload_n C dX11_box_51 0 rfl rfl ?_
        refine j_iload_n C dX11_box_52 1 rfl rfl ?_
        refine j_iload_n C dX11_box_53 2 rfl rfl ?_
        refine j_iload_n C dX11_box_54 3 rfl rfl ?_
        refine j_callVi C (c_X11_side b n l1 l2 l3 s4) cw_RX11_168 ⟨rfl, rfl, Nat.le_of_ble_eq_true rfl, Nat.le_of_ble_eq_true rfl⟩ 0 kX11 (km_0 b) (lm_0 b) [.int l1, .int l2, .int l3] [] rfl rfl rfl (Nat.le_of_ble_eq_true rfl) dX11_box_55 (fun x7 s6 => ?_)
        refine j_sub (L' := []) [] rfl ?_
        exact jb_X11_box_58 C CR  n x7 s6
      · refine j_aload_n C dX11_box_33 0 rfl rfl ?_
        refine j_getR (z := 15) C kX11 (km_0 b) (lm_0 b) 27 (by decide) tw_1220 (rm_27 b) rfl dX11_box_34 ?_
        refine j_sipush (v := (445 : Int32)) C dX11_box_37 (by decide) ?_
        refine j_iload_n C dX11_box_40 1 rfl rfl ?_
        refine j_bipush (v := (16 : Int32)) C dX11_box_41 (by decide) ?_
        refine j_imul C dX11_box_43 ?_
        refine j_iadd C dX11_box_44 ?_
        refine j_iload_n C dX11_box_45 2 rfl rfl ?_
        refine j_iadd C dX11_box_46 ?_
        refine j_iald C (km_15 b) (lm_15 b) dX11_box_47 ?_
        refine j_goto (tgt := 58) C dX11_box_48 (by decide) ?_
        refine j_sub (L' := []) [] rfl ?_
        exact jb_X11_box_58 C CR  n (s4 15 (((445 : Int32) + (l1 * (16 : Int32))) + l2).toNatClampNeg) s4
    · refine j_sub (L' := []) [] rfl ?_
      exact jb_X11_box_26 C CR  n s4
set_option maxHeartbeats 4000000 in
theorem jb_X11_neighbours_42 {b : Bool} {X : CtxT (Int32 × Mem)} (C : Cx (YM b) X 4 cX11_neighbours RX11 (some .int) rm_X11_neighbours) (CR : CRi (YM b) X)  (n : Nat)  (t0 : Int32) (s : Mem) : J (YM b) X 4 (b_X11_neighbours_42  n  t0 s) 42 [] [.int t0] s := by
  unfold b_X11_neighbours_42
  exact j_iret C CR dX11_neighbours_42
set_option maxHeartbeats 4000000 in
theorem jb_X11_neighbours_23 {b : Bool} {X : CtxT (Int32 × Mem)} (C : Cx (YM b) X 4 cX11_neighbours RX11 (some .int) rm_X11_neighbours) (CR : CRi (YM b) X)  (n : Nat)   (s : Mem) : J (YM b) X 4 (b_X11_neighbours_23  n   s) 23 [] [] s := by
  unfold b_X11_neighbours_23
  refine j_iconst (v := (-1 : Int32)) C dX11_neighbours_23 (by decide) ?_
  refine j_goto (tgt := 42) C dX11_neighbours_24 (by decide) ?_
  exact jb_X11_neighbours_42 C CR  n (-1 : Int32) s
set_option maxHeartbeats 4000000 in
theorem c_X11_neighbours (b : Bool) (n : Nat) (l1 : Int32) (l2 : Int32) (l3 : Int32) (s : Mem) : CTi (YM b) yX11_neighbours cX11_neighbours 4 (some .int) rm_X11_neighbours (fun ad => [.ref (ad 0), .int l1, .int l2, .int l3]) s (f_X11_neighbours n l1 l2 l3 s) := by
  refine CTi_of (by decide) (fun _ => Nat.le_of_ble_eq_true rfl) (fun X C CR => ?_)
  show J (YM b) X 4 (f_X11_neighbours n l1 l2 l3 s) 0 [(0, .ref (adX X 0)), (1, .int l1), (2, .int l2), (3, .int l3)] [] s
  unfold f_X11_neighbours
  refine j_aload_n C dX11_neighbours_0 0 rfl rfl ?_
  refine j_iconst (v := (0 : Int32)) C dX11_neighbours_1 (by decide) ?_
  refine j_put C kX11 (km_0 b) (lm_0 b) 0 (by decide) tw_1193 (rm_0 b) rfl rfl dX11_neighbours_2 (fun s1 => ?_)
  refine j_aload_n C dX11_neighbours_5 0 rfl rfl ?_
  refine j_iload_n C dX11_neighbours_6 1 rfl rfl ?_
  refine j_iload_n C dX11_neighbours_7 2 rfl rfl ?_
  refine j_callVi C (c_X11_isBox b n l1 l2 s1) cw_RX11_295 ⟨rfl, rfl, Nat.le_of_ble_eq_true rfl, Nat.le_of_ble_eq_true rfl⟩ 0 kX11 (km_0 b) (lm_0 b) [.int l1, .int l2] [] rfl rfl rfl (Nat.le_of_ble_eq_true rfl) dX11_neighbours_8 (fun x3 s2 => ?_)
  refine j_if_eq (tgt := 23) C dX11_neighbours_11 (by decide) ?_ ?_
  · refine j_sub (L' := []) [] rfl ?_
    exact jb_X11_neighbours_23 C CR  n s2
  · refine j_aload_n C dX11_neighbours_14 0 rfl rfl ?_
    refine j_iload_n C dX11_neighbours_15 1 rfl rfl ?_
    refine j_iload_n C dX11_neighbours_16 3 rfl rfl ?_
    refine j_callVi C (c_X11_isBox b n l1 l3 s2) cw_RX11_295 ⟨rfl, rfl, Nat.le_of_ble_eq_true rfl, Nat.le_of_ble_eq_true rfl⟩ 0 kX11 (km_0 b) (lm_0 b) [.int l1, .int l3] [] rfl rfl rfl (Nat.le_of_ble_eq_true rfl) dX11_neighbours_17 (fun x5 s4 => ?_)
    refine j_if_ne (tgt := 27) C dX11_neighbours_20 (by decide) ?_ ?_
    · refine j_aload_n C dX11_neighbours_27 0 rfl rfl ?_
      refine j_iload_n C dX11_neighbours_28 1 rfl rfl ?_
      refine j_iload_n C dX11_neighbours_29 2 rfl rfl ?_
      refine j_iload_n C dX11_neighbours_30 3 rfl rfl ?_
      refine j_callVi C (c_X11_near b n l1 l2 l3 s4) cw_RX11_198 ⟨rfl, rfl, Nat.le_of_ble_eq_true rfl, Nat.le_of_ble_eq_true rfl⟩ 0 kX11 (km_0 b) (lm_0 b) [.int l1, .int l2, .int l3] [] rfl rfl rfl (Nat.le_of_ble_eq_true rfl) dX11_neighbours_31 (fun x7 s6 => ?_)
      refine j_if_eq (tgt := 41) C dX11_neighbours_34 (by decide) ?_ ?_
      · refine j_iconst (v := (0 : Int32)) C dX11_neighbours_41 (by decide) ?_
        refine j_sub (L' := []) [] rfl ?_
        exact jb_X11_neighbours_42 C CR  n (0 : Int32) s6
      · refine j_iconst (v := (1 : Int32)) C dX11_neighbours_37 (by decide) ?_
        refine j_goto (tgt := 42) C dX11_neighbours_38 (by decide) ?_
        refine j_sub (L' := []) [] rfl ?_
        exact jb_X11_neighbours_42 C CR  n (1 : Int32) s6
    · refine j_sub (L' := []) [] rfl ?_
      exact jb_X11_neighbours_23 C CR  n s4
set_option maxHeartbeats 4000000 in
theorem jb_X11_way_41 {b : Bool} {X : CtxT (Int32 × Mem)} (C : Cx (YM b) X 4 cX11_way RX11 (some .int) rm_X11_way) (CR : CRi (YM b) X)  (n : Nat)   (s : Mem) : J (YM b) X 4 (b_X11_way_41  n   s) 41 [] [] s := by
  unfold b_X11_way_41
  refine j_iconst (v := (-1 : Int32)) C dX11_way_41 (by decide) ?_
  exact j_iret C CR dX11_way_42
set_option maxHeartbeats 4000000 in
theorem c_X11_way (b : Bool) (n : Nat) (l1 : Int32) (l2 : Int32) (l3 : Int32) (s : Mem) : CTi (YM b) yX11_way cX11_way 4 (some .int) rm_X11_way (fun ad => [.ref (ad 0), .int l1, .int l2, .int l3]) s (f_X11_way n l1 l2 l3 s) := by
  refine CTi_of (by decide) (fun _ => Nat.le_of_ble_eq_true rfl) (fun X C CR => ?_)
  show J (YM b) X 4 (f_X11_way n l1 l2 l3 s) 0 [(0, .ref (adX X 0)), (1, .int l1), (2, .int l2), (3, .int l3)] [] s
  unfold f_X11_way
  refine j_aload_n C dX11_way_0 0 rfl rfl ?_
  refine j_iconst (v := (0 : Int32)) C dX11_way_1 (by decide) ?_
  refine j_put C kX11 (km_0 b) (lm_0 b) 0 (by decide) tw_1193 (rm_0 b) rfl rfl dX11_way_2 (fun s1 => ?_)
  refine j_aload_n C dX11_way_5 0 rfl rfl ?_
  refine j_iload_n C dX11_way_6 1 rfl rfl ?_
  refine j_iload_n C dX11_way_7 2 rfl rfl ?_
  refine j_callVi C (c_X11_isBox b n l1 l2 s1) cw_RX11_295 ⟨rfl, rfl, Nat.le_of_ble_eq_true rfl, Nat.le_of_ble_eq_true rfl⟩ 0 kX11 (km_0 b) (lm_0 b) [.int l1, .int l2] [] rfl rfl rfl (Nat.le_of_ble_eq_true rfl) dX11_way_8 (fun x3 s2 => ?_)
  refine j_if_eq (tgt := 41) C dX11_way_11 (by decide) ?_ ?_
  · refine j_sub (L' := []) [] rfl ?_
    exact jb_X11_way_41 C CR  n s2
  · refine j_aload_n C dX11_way_14 0 rfl rfl ?_
    refine j_iload_n C dX11_way_15 1 rfl rfl ?_
    refine j_iload_n C dX11_way_16 3 rfl rfl ?_
    refine j_callVi C (c_X11_isBox b n l1 l3 s2) cw_RX11_295 ⟨rfl, rfl, Nat.le_of_ble_eq_true rfl, Nat.le_of_ble_eq_true rfl⟩ 0 kX11 (km_0 b) (lm_0 b) [.int l1, .int l3] [] rfl rfl rfl (Nat.le_of_ble_eq_true rfl) dX11_way_17 (fun x5 s4 => ?_)
    refine j_if_eq (tgt := 41) C dX11_way_20 (by decide) ?_ ?_
    · refine j_sub (L' := []) [] rfl ?_
      exact jb_X11_way_41 C CR  n s4
    · refine j_aload_n C dX11_way_23 0 rfl rfl ?_
      refine j_iload_n C dX11_way_24 1 rfl rfl ?_
      refine j_iload_n C dX11_way_25 2 rfl rfl ?_
      refine j_callVi C (c_X11_isOpen b n l1 l2 s4) cw_RX11_184 ⟨rfl, rfl, Nat.le_of_ble_eq_true rfl, Nat.le_of_ble_eq_true rfl⟩ 0 kX11 (km_0 b) (lm_0 b) [.int l1, .int l2] [] rfl rfl rfl (Nat.le_of_ble_eq_true rfl) dX11_way_26 (fun x7 s6 => ?_)
      refine j_if_eq (tgt := 41) C dX11_way_29 (by decide) ?_ ?_
      · refine j_sub (L' := []) [] rfl ?_
        exact jb_X11_way_41 C CR  n s6
      · refine j_aload_n C dX11_way_32 0 rfl rfl ?_
        refine j_iload_n C dX11_way_33 1 rfl rfl ?_
        refine j_iload_n C dX11_way_34 3 rfl rfl ?_
        refine j_callVi C (c_X11_isOpen b n l1 l3 s6) cw_RX11_184 ⟨rfl, rfl, Nat.le_of_ble_eq_true rfl, Nat.le_of_ble_eq_true rfl⟩ 0 kX11 (km_0 b) (lm_0 b) [.int l1, .int l3] [] rfl rfl rfl (Nat.le_of_ble_eq_true rfl) dX11_way_35 (fun x9 s8 => ?_)
        refine j_if_ne (tgt := 43) C dX11_way_38 (by decide) ?_ ?_
        · refine j_aload_n C dX11_way_43 0 rfl rfl ?_
          refine j_iload_n C dX11_way_44 1 rfl rfl ?_
          refine j_iload_n C dX11_way_45 2 rfl rfl ?_
          refine j_callVn C (c_X11_ways b n l1 l2 s8) cw_RX11_202 ⟨rfl, rfl, Nat.le_of_ble_eq_true rfl, Nat.le_of_ble_eq_true rfl⟩ 0 kX11 (km_0 b) (lm_0 b) [.int l1, .int l2] [] rfl rfl rfl (Nat.le_of_ble_eq_true rfl) dX11_way_46 (fun s10 => ?_)
          refine j_aload_n C dX11_way_49 0 rfl rfl ?_
          refine j_getR (z := 17) C kX11 (km_0 b) (lm_0 b) 30 (by decide) tw_1223 (rm_30 b) rfl dX11_way_50 ?_
          refine j_iload_n C dX11_way_53 3 rfl rfl ?_
          refine j_iald C (km_17 b) (lm_17 b) dX11_way_54 ?_
          exact j_iret C CR dX11_way_55
        · refine j_sub (L' := []) [] rfl ?_
          exact jb_X11_way_41 C CR  n s8
set_option maxHeartbeats 4000000 in
theorem jb_X11_goal_35 {b : Bool} {X : CtxT (Int32 × Mem)} (C : Cx (YM b) X 4 cX11_goal RX11 (some .int) rm_X11_goal) (CR : CRi (YM b) X)  (n : Nat)   (s : Mem) : J (YM b) X 4 (b_X11_goal_35  n   s) 35 [] [] s := by
  unfold b_X11_goal_35
  refine j_iconst (v := (-1 : Int32)) C dX11_goal_35 (by decide) ?_
  exact j_iret C CR dX11_goal_36
set_option maxHeartbeats 4000000 in
theorem c_X11_goal (b : Bool) (n : Nat) (l1 : Int32) (l2 : Int32) (l3 : Int32) (s : Mem) : CTi (YM b) yX11_goal cX11_goal 4 (some .int) rm_X11_goal (fun ad => [.ref (ad 0), .int l1, .int l2, .int l3]) s (f_X11_goal n l1 l2 l3 s) := by
  refine CTi_of (by decide) (fun _ => Nat.le_of_ble_eq_true rfl) (fun X C CR => ?_)
  show J (YM b) X 4 (f_X11_goal n l1 l2 l3 s) 0 [(0, .ref (adX X 0)), (1, .int l1), (2, .int l2), (3, .int l3)] [] s
  unfold f_X11_goal
  refine j_aload_n C dX11_goal_0 0 rfl rfl ?_
  refine j_iconst (v := (0 : Int32)) C dX11_goal_1 (by decide) ?_
  refine j_put C kX11 (km_0 b) (lm_0 b) 0 (by decide) tw_1193 (rm_0 b) rfl rfl dX11_goal_2 (fun s1 => ?_)
  refine j_aload_n C dX11_goal_5 0 rfl rfl ?_
  refine j_iload_n C dX11_goal_6 1 rfl rfl ?_
  refine j_callVi C (c_X11_isActor b n l1 s1) cw_RX11_284 ⟨rfl, rfl, Nat.le_of_ble_eq_true rfl, Nat.le_of_ble_eq_true rfl⟩ 0 kX11 (km_0 b) (lm_0 b) [.int l1] [] rfl rfl rfl (Nat.le_of_ble_eq_true rfl) dX11_goal_7 (fun x3 s2 => ?_)
  refine j_if_eq (tgt := 35) C dX11_goal_10 (by decide) ?_ ?_
  · refine j_sub (L' := []) [] rfl ?_
    exact jb_X11_goal_35 C CR  n s2
  · refine j_iload_n C dX11_goal_13 2 rfl rfl ?_
    refine j_callSi C (c_X11_isByte b n l2 s2) cw_RX11_287 ⟨rfl, rfl, Nat.le_of_ble_eq_true rfl, Nat.le_of_ble_eq_true rfl⟩ [.int l2] [] rfl rfl rfl (Nat.le_of_ble_eq_true rfl) dX11_goal_14 (fun x5 s4 => ?_)
    refine j_if_eq (tgt := 35) C dX11_goal_17 (by decide) ?_ ?_
    · refine j_sub (L' := []) [] rfl ?_
      exact jb_X11_goal_35 C CR  n s4
    · refine j_iload_n C dX11_goal_20 3 rfl rfl ?_
      refine j_callSi C (c_X11_isByte b n l3 s4) cw_RX11_287 ⟨rfl, rfl, Nat.le_of_ble_eq_true rfl, Nat.le_of_ble_eq_true rfl⟩ [.int l3] [] rfl rfl rfl (Nat.le_of_ble_eq_true rfl) dX11_goal_21 (fun x7 s6 => ?_)
      refine j_if_eq (tgt := 35) C dX11_goal_24 (by decide) ?_ ?_
      · refine j_sub (L' := []) [] rfl ?_
        exact jb_X11_goal_35 C CR  n s6
      · refine j_aload_n C dX11_goal_27 0 rfl rfl ?_
        refine j_iload_n C dX11_goal_28 1 rfl rfl ?_
        refine j_callVi C (c_X11_boxOf b n l1 s6) cw_RX11_220 ⟨rfl, rfl, Nat.le_of_ble_eq_true rfl, Nat.le_of_ble_eq_true rfl⟩ 0 kX11 (km_0 b) (lm_0 b) [.int l1] [] rfl rfl rfl (Nat.le_of_ble_eq_true rfl) dX11_goal_29 (fun x9 s8 => ?_)
        refine j_if_ge (tgt := 37) C dX11_goal_32 (by decide) ?_ ?_
        · refine j_aload_n C dX11_goal_37 0 rfl rfl ?_
          refine j_aload_n C dX11_goal_38 0 rfl rfl ?_
          refine j_iload_n C dX11_goal_39 1 rfl rfl ?_
          refine j_iconst (v := (0 : Int32)) C dX11_goal_40 (by decide) ?_
          refine j_callVi C (c_X11_actorOf b n l1 (0 : Int32) s8) cw_RX11_192 ⟨rfl, rfl, Nat.le_of_ble_eq_true rfl, Nat.le_of_ble_eq_true rfl⟩ 0 kX11 (km_0 b) (lm_0 b) [.int l1, .int (0 : Int32)] [.ref (adX X 0)] rfl rfl rfl (Nat.le_of_ble_eq_true rfl) dX11_goal_41 (fun x11 s10 => ?_)
          refine j_aload_n C dX11_goal_44 0 rfl rfl ?_
          refine j_iload_n C dX11_goal_45 1 rfl rfl ?_
          refine j_callVi C (c_X11_boxOf b n l1 s10) cw_RX11_220 ⟨rfl, rfl, Nat.le_of_ble_eq_true rfl, Nat.le_of_ble_eq_true rfl⟩ 0 kX11 (km_0 b) (lm_0 b) [.int l1] [.int x11, .ref (adX X 0)] rfl rfl rfl (Nat.le_of_ble_eq_true rfl) dX11_goal_46 (fun x13 s12 => ?_)
          refine j_iload_n C dX11_goal_49 2 rfl rfl ?_
          refine j_iload_n C dX11_goal_50 3 rfl rfl ?_
          refine j_callVn C (c_X11_goals b n x11 x13 l2 l3 s12) cw_RX11_226 ⟨rfl, rfl, Nat.le_of_ble_eq_true rfl, Nat.le_of_ble_eq_true rfl⟩ 0 kX11 (km_0 b) (lm_0 b) [.int x11, .int x13, .int l2, .int l3] [] rfl rfl rfl (Nat.le_of_ble_eq_true rfl) dX11_goal_51 (fun s14 => ?_)
          refine j_sipush (v := (256 : Int32)) C dX11_goal_54 (by decide) ?_
          refine j_aload_n C dX11_goal_57 0 rfl rfl ?_
          refine j_get C kX11 (km_0 b) (lm_0 b) 32 (by decide) tw_1225 (rm_32 b) dX11_goal_58 ?_
          refine j_imul C dX11_goal_61 ?_
          refine j_aload_n C dX11_goal_62 0 rfl rfl ?_
          refine j_get C kX11 (km_0 b) (lm_0 b) 33 (by decide) tw_1226 (rm_33 b) dX11_goal_63 ?_
          refine j_iadd C dX11_goal_66 ?_
          exact j_iret C CR dX11_goal_67
        · refine j_sub (L' := []) [] rfl ?_
          exact jb_X11_goal_35 C CR  n s8
set_option maxHeartbeats 4000000 in
theorem jb_X11_note_57 {b : Bool} {X : CtxT (Int32 × Mem)} (C : Cx (YM b) X 2 cX11_note RX11 (some .int) rm_X11_note) (CR : CRi (YM b) X)  (n : Nat)  (t0 : Int32) (s : Mem) : J (YM b) X 2 (b_X11_note_57  n  t0 s) 57 [] [.int t0] s := by
  unfold b_X11_note_57
  exact j_iret C CR dX11_note_57
set_option maxHeartbeats 4000000 in
theorem c_X11_note (b : Bool) (n : Nat) (l1 : Int32) (s : Mem) : CTi (YM b) yX11_note cX11_note 2 (some .int) rm_X11_note (fun ad => [.ref (ad 0), .int l1]) s (f_X11_note n l1 s) := by
  refine CTi_of (by decide) (fun _ => Nat.le_of_ble_eq_true rfl) (fun X C CR => ?_)
  show J (YM b) X 2 (f_X11_note n l1 s) 0 [(0, .ref (adX X 0)), (1, .int l1)] [] s
  unfold f_X11_note
  refine j_aload_n C dX11_note_0 0 rfl rfl ?_
  refine j_iconst (v := (0 : Int32)) C dX11_note_1 (by decide) ?_
  refine j_put C kX11 (km_0 b) (lm_0 b) 0 (by decide) tw_1193 (rm_0 b) rfl rfl dX11_note_2 (fun s1 => ?_)
  refine j_iload_n C dX11_note_5 1 rfl rfl ?_
  refine j_i2l C dX11_note_6 ?_
  refine j_lconst (v := 0) C dX11_note_7 (by decide) ?_
  refine j_aload_n C dX11_note_8 0 rfl rfl ?_
  refine j_getR (z := 15) C kX11 (km_0 b) (lm_0 b) 27 (by decide) tw_1220 (rm_27 b) rfl dX11_note_9 ?_
  refine j_iconst (v := (2 : Int32)) C dX11_note_12 (by decide) ?_
  refine j_iald C (km_15 b) (lm_15 b) dX11_note_13 ?_
  refine j_bipush (v := (64 : Int32)) C dX11_note_14 (by decide) ?_
  refine j_mmin C cw_RX11_177 ⟨Nat.le_of_ble_eq_true rfl, Nat.le_of_ble_eq_true rfl⟩ (Nat.le_of_ble_eq_true rfl) dX11_note_16 ?_
  refine j_iconst (v := (1 : Int32)) C dX11_note_19 (by decide) ?_
  refine j_isub C dX11_note_20 ?_
  refine j_i2l C dX11_note_21 ?_
  refine j_callSi C (c_X11_in b n l1.toInt64 (0 : Int64) (((if (64 : Int32) < (s1 15 (2 : Int32).toNatClampNeg) then (64 : Int32) else (s1 15 (2 : Int32).toNatClampNeg)) - (1 : Int32)).toInt64) s1) cw_RX11_72 ⟨rfl, rfl, Nat.le_of_ble_eq_true rfl, Nat.le_of_ble_eq_true rfl⟩ [.long l1.toInt64, .long (0 : Int64), .long (((if (64 : Int32) < (s1 15 (2 : Int32).toNatClampNeg) then (64 : Int32) else (s1 15 (2 : Int32).toNatClampNeg)) - (1 : Int32)).toInt64)] [] rfl rfl rfl (Nat.le_of_ble_eq_true rfl) dX11_note_22 (fun x3 s2 => ?_)
  refine j_if_eq (tgt := 53) C dX11_note_25 (by decide) ?_ ?_
  · refine j_aload_n C dX11_note_53 0 rfl rfl ?_
    refine j_callVi C (c_X11_refuse b n  s2) cw_RX11_135 ⟨rfl, rfl, Nat.le_of_ble_eq_true rfl, Nat.le_of_ble_eq_true rfl⟩ 0 kX11 (km_0 b) (lm_0 b) [] [] rfl rfl rfl (Nat.le_of_ble_eq_true rfl) dX11_note_54 (fun x5 s4 => ?_)
    refine j_sub (L' := []) [] rfl ?_
    exact jb_X11_note_57 C CR  n x5 s4
  · refine j_aload_n C dX11_note_28 0 rfl rfl ?_
    refine j_getR (z := 15) C kX11 (km_0 b) (lm_0 b) 27 (by decide) tw_1220 (rm_27 b) rfl dX11_note_29 ?_
    refine j_sipush (v := (168 : Int32)) C dX11_note_32 (by decide) ?_
    refine j_aload_n C dX11_note_35 0 rfl rfl ?_
    refine j_getR (z := 15) C kX11 (km_0 b) (lm_0 b) 27 (by decide) tw_1220 (rm_27 b) rfl dX11_note_36 ?_
    refine j_iconst (v := (2 : Int32)) C dX11_note_39 (by decide) ?_
    refine j_iald C (km_15 b) (lm_15 b) dX11_note_40 ?_
    refine j_iconst (v := (1 : Int32)) C dX11_note_41 (by decide) ?_
    refine j_isub C dX11_note_42 ?_
    refine j_iload_n C dX11_note_43 1 rfl rfl ?_
    refine j_isub C dX11_note_44 ?_
    refine j_bipush (v := (64 : Int32)) C dX11_note_45 (by decide) ?_
    refine j_irem C dX11_note_47 ?_
    refine j_iadd C dX11_note_48 ?_
    refine j_iald C (km_15 b) (lm_15 b) dX11_note_49 ?_
    refine j_goto (tgt := 57) C dX11_note_50 (by decide) ?_
    refine j_sub (L' := []) [] rfl ?_
    exact jb_X11_note_57 C CR  n (s2 15 ((168 : Int32) + ((((s2 15 (2 : Int32).toNatClampNeg) - (1 : Int32)) - l1) - (((s2 15 (2 : Int32).toNatClampNeg) - (1 : Int32)) - l1) / (64 : Int32) * (64 : Int32))).toNatClampNeg) s2
set_option maxHeartbeats 4000000 in
theorem jb_X11_sentence_56 {b : Bool} {X : CtxT (Int32 × Mem)} (C : Cx (YM b) X 3 cX11_sentence RX11 (some .int) rm_X11_sentence) (CR : CRi (YM b) X)  (n : Nat)  (t0 : Int32) (s : Mem) : J (YM b) X 3 (b_X11_sentence_56  n  t0 s) 56 [] [.int t0] s := by
  unfold b_X11_sentence_56
  exact j_iret C CR dX11_sentence_56
set_option maxHeartbeats 4000000 in
theorem jb_X11_sentence_52 {b : Bool} {X : CtxT (Int32 × Mem)} (C : Cx (YM b) X 3 cX11_sentence RX11 (some .int) rm_X11_sentence) (CR : CRi (YM b) X)  (n : Nat)   (s : Mem) : J (YM b) X 3 (b_X11_sentence_52  n   s) 52 [(0, .ref (adX X 0))] [] s := by
  unfold b_X11_sentence_52
  refine j_aload_n C dX11_sentence_52 0 rfl rfl ?_
  refine j_callVi C (c_X11_refuse b n  s) cw_RX11_135 ⟨rfl, rfl, Nat.le_of_ble_eq_true rfl, Nat.le_of_ble_eq_true rfl⟩ 0 kX11 (km_0 b) (lm_0 b) [] [] rfl rfl rfl (Nat.le_of_ble_eq_true rfl) dX11_sentence_53 (fun x2 s1 => ?_)
  refine j_sub (L' := []) [] rfl ?_
  exact jb_X11_sentence_56 C CR  n x2 s1
set_option maxHeartbeats 4000000 in
theorem c_X11_sentence (b : Bool) (n : Nat) (l1 : Int32) (l2 : Int32) (s : Mem) : CTi (YM b) yX11_sentence cX11_sentence 3 (some .int) rm_X11_sentence (fun ad => [.ref (ad 0), .int l1, .int l2]) s (f_X11_sentence n l1 l2 s) := by
  refine CTi_of (by decide) (fun _ => Nat.le_of_ble_eq_true rfl) (fun X C CR => ?_)
  show J (YM b) X 3 (f_X11_sentence n l1 l2 s) 0 [(0, .ref (adX X 0)), (1, .int l1), (2, .int l2)] [] s
  unfold f_X11_sentence
  refine j_aload_n C dX11_sentence_0 0 rfl rfl ?_
  refine j_iconst (v := (0 : Int32)) C dX11_sentence_1 (by decide) ?_
  refine j_put C kX11 (km_0 b) (lm_0 b) 0 (by decide) tw_1193 (rm_0 b) rfl rfl dX11_sentence_2 (fun s1 => ?_)
  refine j_iload_n C dX11_sentence_5 1 rfl rfl ?_
  refine j_i2l C dX11_sentence_6 ?_
  refine j_lconst (v := 0) C dX11_sentence_7 (by decide) ?_
  refine j_aload_n C dX11_sentence_8 0 rfl rfl ?_
  refine j_getR (z := 15) C kX11 (km_0 b) (lm_0 b) 27 (by decide) tw_1220 (rm_27 b) rfl dX11_sentence_9 ?_
  refine j_iconst (v := (5 : Int32)) C dX11_sentence_12 (by decide) ?_
  refine j_iald C (km_15 b) (lm_15 b) dX11_sentence_13 ?_
  refine j_iconst (v := (1 : Int32)) C dX11_sentence_14 (by decide) ?_
  refine j_isub C dX11_sentence_15 ?_
  refine j_i2l C dX11_sentence_16 ?_
  refine j_callSi C (c_X11_in b n l1.toInt64 (0 : Int64) (((s1 15 (5 : Int32).toNatClampNeg) - (1 : Int32)).toInt64) s1) cw_RX11_72 ⟨rfl, rfl, Nat.le_of_ble_eq_true rfl, Nat.le_of_ble_eq_true rfl⟩ [.long l1.toInt64, .long (0 : Int64), .long (((s1 15 (5 : Int32).toNatClampNeg) - (1 : Int32)).toInt64)] [] rfl rfl rfl (Nat.le_of_ble_eq_true rfl) dX11_sentence_17 (fun x3 s2 => ?_)
  refine j_if_eq (tgt := 52) C dX11_sentence_20 (by decide) ?_ ?_
  · refine j_sub (L' := [(0, .ref (adX X 0))]) [0] rfl ?_
    exact jb_X11_sentence_52 C CR  n s2
  · refine j_iload_n C dX11_sentence_23 2 rfl rfl ?_
    refine j_i2l C dX11_sentence_24 ?_
    refine j_lconst (v := 0) C dX11_sentence_25 (by decide) ?_
    refine j_ldc2 (v := 2) C tw_1444 dX11_sentence_26 ?_
    refine j_callSi C (c_X11_in b n l2.toInt64 (0 : Int64) (2 : Int64) s2) cw_RX11_72 ⟨rfl, rfl, Nat.le_of_ble_eq_true rfl, Nat.le_of_ble_eq_true rfl⟩ [.long l2.toInt64, .long (0 : Int64), .long (2 : Int64)] [] rfl rfl rfl (Nat.le_of_ble_eq_true rfl) dX11_sentence_29 (fun x5 s4 => ?_)
    refine j_if_eq (tgt := 52) C dX11_sentence_32 (by decide) ?_ ?_
    · refine j_sub (L' := [(0, .ref (adX X 0))]) [0] rfl ?_
      exact jb_X11_sentence_52 C CR  n s4
    · refine j_aload_n C dX11_sentence_35 0 rfl rfl ?_
      refine j_getR (z := 15) C kX11 (km_0 b) (lm_0 b) 27 (by decide) tw_1220 (rm_27 b) rfl dX11_sentence_36 ?_
      refine j_sipush (v := (150 : Int32)) C dX11_sentence_39 (by decide) ?_
      refine j_iconst (v := (3 : Int32)) C dX11_sentence_42 (by decide) ?_
      refine j_iload_n C dX11_sentence_43 1 rfl rfl ?_
      refine j_imul C dX11_sentence_44 ?_
      refine j_iadd C dX11_sentence_45 ?_
      refine j_iload_n C dX11_sentence_46 2 rfl rfl ?_
      refine j_iadd C dX11_sentence_47 ?_
      refine j_iald C (km_15 b) (lm_15 b) dX11_sentence_48 ?_
      refine j_goto (tgt := 56) C dX11_sentence_49 (by decide) ?_
      refine j_sub (L' := []) [] rfl ?_
      exact jb_X11_sentence_56 C CR  n (s4 15 (((150 : Int32) + ((3 : Int32) * l1)) + l2).toNatClampNeg) s4
set_option maxHeartbeats 4000000 in
theorem jb_X11_count_30 {b : Bool} {X : CtxT (Int32 × Mem)} (C : Cx (YM b) X 4 cX11_count RX11 (some .int) rm_X11_count) (CR : CRi (YM b) X) (k9 : Int32 → Int32 → Int32 → Mem → Option (Int32 × Mem)) (hk9 : ∀ (l1 : Int32) (l2 : Int32) (l3 : Int32) (s : Mem), J (YM b) X 4 (k9 l1 l2 l3 s) 9 [(0, .ref (adX X 0)), (1, .int l1), (2, .int l2), (3, .int l3)] [] s) (n : Nat)  (l1 : Int32) (l3 : Int32) (t0 : Int32) (t1 : Int32) (s : Mem) : J (YM b) X 4 (b_X11_count_30 k9 n  l1 l3 t0 t1 s) 30 [(0, .ref (adX X 0)), (1, .int l1), (3, .int l3)] [.int t0, .int t1] s := by
  unfold b_X11_count_30
  refine j_iadd C dX11_count_30 ?_
  refine j_top (fun x1 => ?_)
  refine j_istore_n (L' := [(0, .ref (adX X 0)), (1, .int l1), (2, .int x1), (3, .int l3)]) C dX11_count_31 rfl (by decide) [1, 2, 0, 3] rfl ?_
  refine j_iinc (L2 := fun x2 => [(0, .ref (adX X 0)), (1, .int l1), (2, .int x1), (3, .int x2)]) C dX11_count_32 3 rfl (by decide) [1, 2, 3, 0] (fun _ => rfl) (fun x2 => ?_)
  refine j_goto (tgt := 9) C dX11_count_35 (by decide) ?_
  exact hk9 l1 x1 x2 s
set_option maxHeartbeats 4000000 in
theorem jb_X11_count_9 {b : Bool} {X : CtxT (Int32 × Mem)} (C : Cx (YM b) X 4 cX11_count RX11 (some .int) rm_X11_count) (CR : CRi (YM b) X)  (n : Nat) (k9 : Int32 → Int32 → Int32 → Mem → Option (Int32 × Mem)) (hk9 : ∀ (l1 : Int32) (l2 : Int32) (l3 : Int32) (s : Mem), J (YM b) X 4 (k9 l1 l2 l3 s) 9 [(0, .ref (adX X 0)), (1, .int l1), (2, .int l2), (3, .int l3)] [] s) (l1 : Int32) (l2 : Int32) (l3 : Int32) (s : Mem) : J (YM b) X 4 (b_X11_count_9  n k9 l1 l2 l3 s) 9 [(0, .ref (adX X 0)), (1, .int l1), (2, .int l2), (3, .int l3)] [] s := by
  unfold b_X11_count_9
  refine j_iload_n C dX11_count_9 3 rfl rfl ?_
  refine j_bipush (v := (8 : Int32)) C dX11_count_10 (by decide) ?_
  refine j_icmp_ge (tgt := 38) C dX11_count_12 (by decide) ?_ ?_
  · refine j_iload_n C dX11_count_38 1 rfl rfl ?_
    refine j_ite (fun hc => ?_) (fun hc0 => ?_)
    · refine j_tswI (off := 61) (tgt := 100) C dX11_count_39 (by rw [hc]; decide) (by rw [hc]; decide) (by rw [hc]; rfl) (by decide) ?_
      refine j_aload_n C dX11_count_100 0 rfl rfl ?_
      refine j_getR (z := 15) C kX11 (km_0 b) (lm_0 b) 27 (by decide) tw_1220 (rm_27 b) rfl dX11_count_101 ?_
      refine j_iconst (v := (0 : Int32)) C dX11_count_104 (by decide) ?_
      refine j_iald C (km_15 b) (lm_15 b) dX11_count_105 ?_
      exact j_iret C CR dX11_count_106
    refine j_ite (fun hc => ?_) (fun hc1 => ?_)
    · refine j_tswI (off := 68) (tgt := 107) C dX11_count_39 (by rw [hc]; decide) (by rw [hc]; decide) (by rw [hc]; rfl) (by decide) ?_
      refine j_iload_n C dX11_count_107 2 rfl rfl ?_
      exact j_iret C CR dX11_count_108
    refine j_ite (fun hc => ?_) (fun hc2 => ?_)
    · refine j_tswI (off := 70) (tgt := 109) C dX11_count_39 (by rw [hc]; decide) (by rw [hc]; decide) (by rw [hc]; rfl) (by decide) ?_
      refine j_aload_n C dX11_count_109 0 rfl rfl ?_
      refine j_getR (z := 15) C kX11 (km_0 b) (lm_0 b) 27 (by decide) tw_1220 (rm_27 b) rfl dX11_count_110 ?_
      refine j_iconst (v := (5 : Int32)) C dX11_count_113 (by decide) ?_
      refine j_iald C (km_15 b) (lm_15 b) dX11_count_114 ?_
      exact j_iret C CR dX11_count_115
    refine j_ite (fun hc => ?_) (fun hc3 => ?_)
    · refine j_tswI (off := 77) (tgt := 116) C dX11_count_39 (by rw [hc]; decide) (by rw [hc]; decide) (by rw [hc]; rfl) (by decide) ?_
      refine j_aload_n C dX11_count_116 0 rfl rfl ?_
      refine j_getR (z := 15) C kX11 (km_0 b) (lm_0 b) 27 (by decide) tw_1220 (rm_27 b) rfl dX11_count_117 ?_
      refine j_iconst (v := (2 : Int32)) C dX11_count_120 (by decide) ?_
      refine j_iald C (km_15 b) (lm_15 b) dX11_count_121 ?_
      exact j_iret C CR dX11_count_122
    refine j_ite (fun hc => ?_) (fun hc4 => ?_)
    · refine j_tswI (off := 84) (tgt := 123) C dX11_count_39 (by rw [hc]; decide) (by rw [hc]; decide) (by rw [hc]; rfl) (by decide) ?_
      refine j_aload_n C dX11_count_123 0 rfl rfl ?_
      refine j_getR (z := 15) C kX11 (km_0 b) (lm_0 b) 27 (by decide) tw_1220 (rm_27 b) rfl dX11_count_124 ?_
      refine j_iconst (v := (3 : Int32)) C dX11_count_127 (by decide) ?_
      refine j_iald C (km_15 b) (lm_15 b) dX11_count_128 ?_
      exact j_iret C CR dX11_count_129
    refine j_ite (fun hc => ?_) (fun hc5 => ?_)
    · refine j_tswI (off := 91) (tgt := 130) C dX11_count_39 (by rw [hc]; decide) (by rw [hc]; decide) (by rw [hc]; rfl) (by decide) ?_
      refine j_aload_n C dX11_count_130 0 rfl rfl ?_
      refine j_getR (z := 15) C kX11 (km_0 b) (lm_0 b) 27 (by decide) tw_1220 (rm_27 b) rfl dX11_count_131 ?_
      refine j_iconst (v := (4 : Int32)) C dX11_count_134 (by decide) ?_
      refine j_iald C (km_15 b) (lm_15 b) dX11_count_135 ?_
      exact j_iret C CR dX11_count_136
    refine j_ite (fun hc => ?_) (fun hc6 => ?_)
    · refine j_tswI (off := 98) (tgt := 137) C dX11_count_39 (by rw [hc]; decide) (by rw [hc]; decide) (by rw [hc]; rfl) (by decide) ?_
      refine j_aload_n C dX11_count_137 0 rfl rfl ?_
      refine j_getR (z := 15) C kX11 (km_0 b) (lm_0 b) 27 (by decide) tw_1220 (rm_27 b) rfl dX11_count_138 ?_
      refine j_iconst (v := (1 : Int32)) C dX11_count_141 (by decide) ?_
      refine j_iald C (km_15 b) (lm_15 b) dX11_count_142 ?_
      exact j_iret C CR dX11_count_143
    refine j_ite (fun hc => ?_) (fun hc7 => ?_)
    · refine j_tswI (off := 105) (tgt := 144) C dX11_count_39 (by rw [hc]; decide) (by rw [hc]; decide) (by rw [hc]; rfl) (by decide) ?_
      refine j_aload_n C dX11_count_144 0 rfl rfl ?_
      refine j_get C kX11 (km_0 b) (lm_0 b) 5 (by decide) tw_1198 (rm_5 b) dX11_count_145 ?_
      exact j_iret C CR dX11_count_148
    refine j_ite (fun hc => ?_) (fun hc8 => ?_)
    · refine j_tswI (off := 110) (tgt := 149) C dX11_count_39 (by rw [hc]; decide) (by rw [hc]; decide) (by rw [hc]; rfl) (by decide) ?_
      refine j_aload_n C dX11_count_149 0 rfl rfl ?_
      refine j_get C kX11 (km_0 b) (lm_0 b) 6 (by decide) tw_1199 (rm_6 b) dX11_count_150 ?_
      exact j_iret C CR dX11_count_153
    refine j_ite (fun hc => ?_) (fun hc9 => ?_)
    · refine j_tswI (off := 115) (tgt := 154) C dX11_count_39 (by rw [hc]; decide) (by rw [hc]; decide) (by rw [hc]; rfl) (by decide) ?_
      refine j_aload_n C dX11_count_154 0 rfl rfl ?_
      refine j_get C kX11 (km_0 b) (lm_0 b) 7 (by decide) tw_1200 (rm_7 b) dX11_count_155 ?_
      exact j_iret C CR dX11_count_158
    refine j_ite (fun hc => ?_) (fun hc10 => ?_)
    · refine j_tswI (off := 120) (tgt := 159) C dX11_count_39 (by rw [hc]; decide) (by rw [hc]; decide) (by rw [hc]; rfl) (by decide) ?_
      refine j_aload_n C dX11_count_159 0 rfl rfl ?_
      refine j_get C kX11 (km_0 b) (lm_0 b) 8 (by decide) tw_1201 (rm_8 b) dX11_count_160 ?_
      exact j_iret C CR dX11_count_163
    refine j_ite (fun hc => ?_) (fun hc11 => ?_)
    · refine j_tswI (off := 125) (tgt := 164) C dX11_count_39 (by rw [hc]; decide) (by rw [hc]; decide) (by rw [hc]; rfl) (by decide) ?_
      refine j_aload_n C dX11_count_164 0 rfl rfl ?_
      refine j_get C kX11 (km_0 b) (lm_0 b) 2 (by decide) tw_1195 (rm_2 b) dX11_count_165 ?_
      exact j_iret C CR dX11_count_168
    refine j_tswO (tgt := 169) C dX11_count_39 (by omega) (by decide) ?_
    refine j_iconst (v := (-1 : Int32)) C dX11_count_169 (by decide) ?_
    exact j_iret C CR dX11_count_170
  · refine j_iload_n C dX11_count_15 2 rfl rfl ?_
    refine j_aload_n C dX11_count_16 0 rfl rfl ?_
    refine j_iload_n C dX11_count_17 3 rfl rfl ?_
    refine j_iconst (v := (0 : Int32)) C dX11_count_18 (by decide) ?_
    refine j_callVi C (c_X11_of b n l3 (0 : Int32) s) cw_RX11_158 ⟨rfl, rfl, Nat.le_of_ble_eq_true rfl, Nat.le_of_ble_eq_true rfl⟩ 0 kX11 (km_0 b) (lm_0 b) [.int l3, .int (0 : Int32)] [.int l2] rfl rfl rfl (Nat.le_of_ble_eq_true rfl) dX11_count_19 (fun x2 s1 => ?_)
    refine j_if_eq (tgt := 29) C dX11_count_22 (by decide) ?_ ?_
    · refine j_iconst (v := (0 : Int32)) C dX11_count_29 (by decide) ?_
      refine j_sub (L' := [(0, .ref (adX X 0)), (1, .int l1), (3, .int l3)]) [0, 1, 3] rfl ?_
      exact jb_X11_count_30 C CR k9 hk9 n l1 l3 (0 : Int32) l2 s1
    · refine j_iconst (v := (1 : Int32)) C dX11_count_25 (by decide) ?_
      refine j_goto (tgt := 30) C dX11_count_26 (by decide) ?_
      refine j_sub (L' := [(0, .ref (adX X 0)), (1, .int l1), (3, .int l3)]) [0, 1, 3] rfl ?_
      exact jb_X11_count_30 C CR k9 hk9 n l1 l3 (1 : Int32) l2 s1
theorem lb_X11_count_9 {b : Bool} {X : CtxT (Int32 × Mem)} (C : Cx (YM b) X 4 cX11_count RX11 (some .int) rm_X11_count) (CR : CRi (YM b) X)  : ∀ (n : Nat) (l1 : Int32) (l2 : Int32) (l3 : Int32) (s : Mem), J (YM b) X 4 (itr3 (b_X11_count_9) n l1 l2 l3 s) 9 [(0, .ref (adX X 0)), (1, .int l1), (2, .int l2), (3, .int l3)] [] s := by
  intro n
  induction n with
  | zero => intros; exact j_none
  | succ n ih =>
    intro l1 l2 l3 s
    exact jb_X11_count_9 C CR  n _ ih l1 l2 l3 s
set_option maxHeartbeats 4000000 in
theorem c_X11_count (b : Bool) (n : Nat) (l1 : Int32) (s : Mem) : CTi (YM b) yX11_count cX11_count 4 (some .int) rm_X11_count (fun ad => [.ref (ad 0), .int l1]) s (f_X11_count n l1 s) := by
  refine CTi_of (by decide) (fun _ => Nat.le_of_ble_eq_true rfl) (fun X C CR => ?_)
  show J (YM b) X 4 (f_X11_count n l1 s) 0 [(0, .ref (adX X 0)), (1, .int l1)] [] s
  unfold f_X11_count
  refine j_aload_n C dX11_count_0 0 rfl rfl ?_
  refine j_iconst (v := (0 : Int32)) C dX11_count_1 (by decide) ?_
  refine j_put C kX11 (km_0 b) (lm_0 b) 0 (by decide) tw_1193 (rm_0 b) rfl rfl dX11_count_2 (fun s1 => ?_)
  refine j_iconst (v := (0 : Int32)) C dX11_count_5 (by decide) ?_
  refine j_istore_n (L' := [(0, .ref (adX X 0)), (1, .int l1), (2, .int (0 : Int32))]) C dX11_count_6 rfl (by decide) [1, 2, 0] rfl ?_
  refine j_iconst (v := (0 : Int32)) C dX11_count_7 (by decide) ?_
  refine j_istore_n (L' := [(0, .ref (adX X 0)), (1, .int l1), (2, .int (0 : Int32)), (3, .int (0 : Int32))]) C dX11_count_8 rfl (by decide) [1, 2, 3, 0] rfl ?_
  exact lb_X11_count_9 C CR  n l1 (0 : Int32) (0 : Int32) s1
set_option maxHeartbeats 4000000 in
theorem jb_X11_keep_7 {b : Bool} {X : CtxT (Int32 × Mem)} (C : Cx (YM b) X 2 cX11_keep RX11 (some .boolean) rm_X11_keep) (CR : CRi (YM b) X)  (n : Nat) (k7 : Int32 → Mem → Option (Int32 × Mem)) (hk7 : ∀ (l1 : Int32) (s : Mem), J (YM b) X 2 (k7 l1 s) 7 [(0, .ref (adX X 0)), (1, .int l1)] [] s) (l1 : Int32) (s : Mem) : J (YM b) X 2 (b_X11_keep_7  n k7 l1 s) 7 [(0, .ref (adX X 0)), (1, .int l1)] [] s := by
  unfold b_X11_keep_7
  refine j_iload_n C dX11_keep_7 1 rfl rfl ?_
  refine j_sipush (v := (781 : Int32)) C dX11_keep_8 (by decide) ?_
  refine j_icmp_ge (tgt := 32) C dX11_keep_11 (by decide) ?_ ?_
  · refine j_aload_n C dX11_keep_32 0 rfl rfl ?_
    refine j_iconst (v := (1 : Int32)) C dX11_keep_33 (by decide) ?_
    refine j_putZ C kX11 (km_0 b) (lm_0 b) 29 (by decide) tw_1222 (rm_29 b) rfl rfl dX11_keep_34 (fun s1 => ?_)
    refine j_iconst (v := (1 : Int32)) C dX11_keep_37 (by decide) ?_
    exact j_zret C CR dX11_keep_38
  · refine j_aload_n C dX11_keep_14 0 rfl rfl ?_
    refine j_getR (z := 16) C kX11 (km_0 b) (lm_0 b) 28 (by decide) tw_1221 (rm_28 b) rfl dX11_keep_15 ?_
    refine j_iload_n C dX11_keep_18 1 rfl rfl ?_
    refine j_aload_n C dX11_keep_19 0 rfl rfl ?_
    refine j_getR (z := 15) C kX11 (km_0 b) (lm_0 b) 27 (by decide) tw_1220 (rm_27 b) rfl dX11_keep_20 ?_
    refine j_iload_n C dX11_keep_23 1 rfl rfl ?_
    refine j_iald C (km_15 b) (lm_15 b) dX11_keep_24 ?_
    refine j_iast C (km_16 b) (lm_16 b) dX11_keep_25 (fun s2 => ?_)
    refine j_iinc (L2 := fun x3 => [(0, .ref (adX X 0)), (1, .int x3)]) C dX11_keep_26 1 rfl (by decide) [1, 0] (fun _ => rfl) (fun x3 => ?_)
    refine j_goto (tgt := 7) C dX11_keep_29 (by decide) ?_
    exact hk7 x3 s2
theorem lb_X11_keep_7 {b : Bool} {X : CtxT (Int32 × Mem)} (C : Cx (YM b) X 2 cX11_keep RX11 (some .boolean) rm_X11_keep) (CR : CRi (YM b) X)  : ∀ (n : Nat) (l1 : Int32) (s : Mem), J (YM b) X 2 (itr1 (b_X11_keep_7) n l1 s) 7 [(0, .ref (adX X 0)), (1, .int l1)] [] s := by
  intro n
  induction n with
  | zero => intros; exact j_none
  | succ n ih =>
    intro l1 s
    exact jb_X11_keep_7 C CR  n _ ih l1 s
set_option maxHeartbeats 4000000 in
theorem c_X11_keep (b : Bool) (n : Nat)  (s : Mem) : CTi (YM b) yX11_keep cX11_keep 2 (some .boolean) rm_X11_keep (fun ad => [.ref (ad 0)]) s (f_X11_keep n  s) := by
  refine CTi_of (by decide) (fun _ => Nat.le_of_ble_eq_true rfl) (fun X C CR => ?_)
  show J (YM b) X 2 (f_X11_keep n  s) 0 [(0, .ref (adX X 0))] [] s
  unfold f_X11_keep
  refine j_aload_n C dX11_keep_0 0 rfl rfl ?_
  refine j_iconst (v := (0 : Int32)) C dX11_keep_1 (by decide) ?_
  refine j_put C kX11 (km_0 b) (lm_0 b) 0 (by decide) tw_1193 (rm_0 b) rfl rfl dX11_keep_2 (fun s1 => ?_)
  refine j_iconst (v := (0 : Int32)) C dX11_keep_5 (by decide) ?_
  refine j_istore_n (L' := [(0, .ref (adX X 0)), (1, .int (0 : Int32))]) C dX11_keep_6 rfl (by decide) [1, 0] rfl ?_
  exact lb_X11_keep_7 C CR  n (0 : Int32) s1
set_option maxHeartbeats 4000000 in
theorem jb_X11_back_39 {b : Bool} {X : CtxT (Int32 × Mem)} (C : Cx (YM b) X 2 cX11_back RX11 (some .boolean) rm_X11_back) (CR : CRi (YM b) X)  (n : Nat)   (s : Mem) : J (YM b) X 2 (b_X11_back_39  n   s) 39 [(0, .ref (adX X 0))] [] s := by
  unfold b_X11_back_39
  refine j_aload_n C dX11_back_39 0 rfl rfl ?_
  refine j_get C kX11 (km_0 b) (lm_0 b) 29 (by decide) tw_1222 (rm_29 b) dX11_back_40 ?_
  exact j_zret C CR dX11_back_43
set_option maxHeartbeats 4000000 in
theorem jb_X11_back_7 {b : Bool} {X : CtxT (Int32 × Mem)} (C : Cx (YM b) X 2 cX11_back RX11 (some .boolean) rm_X11_back) (CR : CRi (YM b) X)  (n : Nat) (k7 : Int32 → Mem → Option (Int32 × Mem)) (hk7 : ∀ (l1 : Int32) (s : Mem), J (YM b) X 2 (k7 l1 s) 7 [(0, .ref (adX X 0)), (1, .int l1)] [] s) (l1 : Int32) (s : Mem) : J (YM b) X 2 (b_X11_back_7  n k7 l1 s) 7 [(0, .ref (adX X 0)), (1, .int l1)] [] s := by
  unfold b_X11_back_7
  refine j_iload_n C dX11_back_7 1 rfl rfl ?_
  refine j_sipush (v := (781 : Int32)) C dX11_back_8 (by decide) ?_
  refine j_icmp_ge (tgt := 39) C dX11_back_11 (by decide) ?_ ?_
  · refine j_sub (L' := [(0, .ref (adX X 0))]) [0] rfl ?_
    exact jb_X11_back_39 C CR  n s
  · refine j_aload_n C dX11_back_14 0 rfl rfl ?_
    refine j_get C kX11 (km_0 b) (lm_0 b) 29 (by decide) tw_1222 (rm_29 b) dX11_back_15 ?_
    refine j_if_eq (tgt := 39) C dX11_back_18 (by decide) ?_ ?_
    · refine j_sub (L' := [(0, .ref (adX X 0))]) [0] rfl ?_
      exact jb_X11_back_39 C CR  n s
    · refine j_aload_n C dX11_back_21 0 rfl rfl ?_
      refine j_getR (z := 15) C kX11 (km_0 b) (lm_0 b) 27 (by decide) tw_1220 (rm_27 b) rfl dX11_back_22 ?_
      refine j_iload_n C dX11_back_25 1 rfl rfl ?_
      refine j_aload_n C dX11_back_26 0 rfl rfl ?_
      refine j_getR (z := 16) C kX11 (km_0 b) (lm_0 b) 28 (by decide) tw_1221 (rm_28 b) rfl dX11_back_27 ?_
      refine j_iload_n C dX11_back_30 1 rfl rfl ?_
      refine j_iald C (km_16 b) (lm_16 b) dX11_back_31 ?_
      refine j_iast C (km_15 b) (lm_15 b) dX11_back_32 (fun s1 => ?_)
      refine j_iinc (L2 := fun x2 => [(0, .ref (adX X 0)), (1, .int x2)]) C dX11_back_33 1 rfl (by decide) [1, 0] (fun _ => rfl) (fun x2 => ?_)
      refine j_goto (tgt := 7) C dX11_back_36 (by decide) ?_
      exact hk7 x2 s1
theorem lb_X11_back_7 {b : Bool} {X : CtxT (Int32 × Mem)} (C : Cx (YM b) X 2 cX11_back RX11 (some .boolean) rm_X11_back) (CR : CRi (YM b) X)  : ∀ (n : Nat) (l1 : Int32) (s : Mem), J (YM b) X 2 (itr1 (b_X11_back_7) n l1 s) 7 [(0, .ref (adX X 0)), (1, .int l1)] [] s := by
  intro n
  induction n with
  | zero => intros; exact j_none
  | succ n ih =>
    intro l1 s
    exact jb_X11_back_7 C CR  n _ ih l1 s
set_option maxHeartbeats 4000000 in
theorem c_X11_back (b : Bool) (n : Nat)  (s : Mem) : CTi (YM b) yX11_back cX11_back 2 (some .boolean) rm_X11_back (fun ad => [.ref (ad 0)]) s (f_X11_back n  s) := by
  refine CTi_of (by decide) (fun _ => Nat.le_of_ble_eq_true rfl) (fun X C CR => ?_)
  show J (YM b) X 2 (f_X11_back n  s) 0 [(0, .ref (adX X 0))] [] s
  unfold f_X11_back
  refine j_aload_n C dX11_back_0 0 rfl rfl ?_
  refine j_iconst (v := (0 : Int32)) C dX11_back_1 (by decide) ?_
  refine j_put C kX11 (km_0 b) (lm_0 b) 0 (by decide) tw_1193 (rm_0 b) rfl rfl dX11_back_2 (fun s1 => ?_)
  refine j_iconst (v := (0 : Int32)) C dX11_back_5 (by decide) ?_
  refine j_istore_n (L' := [(0, .ref (adX X 0)), (1, .int (0 : Int32))]) C dX11_back_6 rfl (by decide) [1, 0] rfl ?_
  exact lb_X11_back_7 C CR  n (0 : Int32) s1
