set_option maxHeartbeats 4000000 in
theorem jb_X5_freezeOthers_44 {X : CtxT (Int32 × Mem)} (C : Cx YC X 5 cX5_freezeOthers RX5 (some .int) rm_X5_freezeOthers) (CR : CRi YC X) (k2 : Nat → Int32 → Int32 → Mem → Option (Int32 × Mem)) (hk2 : ∀ (r1 : Nat) (h_r1 : isO 6 r1) (l2 : Int32) (l3 : Int32) (s : Mem), J YC X 5 (k2 r1 l2 l3 s) 2 [(0, .ref (adX X 118)), (1, .ref (adX X r1)), (2, .int l2), (3, .int l3)] [] s) (n : Nat)  (r1 : Nat) (h_r1 : isO 6 r1) (l2 : Int32) (l3 : Int32) (t0 : Int32) (u1 : Nat) (h_u1 : isO 6 u1) (s : Mem) : J YC X 5 (b_X5_freezeOthers_44 k2 n  r1 l2 l3 t0 u1 s) 44 [(0, .ref (adX X 118)), (1, .ref (adX X r1)), (2, .int l2), (3, .int l3)] [.int t0, .ref (adX X u1)] s := by
  unfold b_X5_freezeOthers_44
  refine j_putZ C kX6 (pk_6_0 _ h_u1) (pl_6_0 _ h_u1) 4 (by decide) tw_256 rc_6_4 rfl rfl dX5_freezeOthers_44 (fun s1 => ?_)
  refine j_iinc (L2 := fun x2 => [(0, .ref (adX X 118)), (1, .ref (adX X r1)), (2, .int l2), (3, .int x2)]) C dX5_freezeOthers_47 3 rfl (by decide) [1, 2, 3, 0] (fun _ => rfl) (fun x2 => ?_)
  refine j_goto (tgt := 2) C dX5_freezeOthers_50 (by decide) ?_
  exact hk2 r1 h_r1 l2 x2 s1
set_option maxHeartbeats 4000000 in
theorem jb_X5_freezeOthers_43 {X : CtxT (Int32 × Mem)} (C : Cx YC X 5 cX5_freezeOthers RX5 (some .int) rm_X5_freezeOthers) (CR : CRi YC X) (k2 : Nat → Int32 → Int32 → Mem → Option (Int32 × Mem)) (hk2 : ∀ (r1 : Nat) (h_r1 : isO 6 r1) (l2 : Int32) (l3 : Int32) (s : Mem), J YC X 5 (k2 r1 l2 l3 s) 2 [(0, .ref (adX X 118)), (1, .ref (adX X r1)), (2, .int l2), (3, .int l3)] [] s) (n : Nat)  (r1 : Nat) (h_r1 : isO 6 r1) (l2 : Int32) (l3 : Int32) (u0 : Nat) (h_u0 : isO 6 u0) (s : Mem) : J YC X 5 (b_X5_freezeOthers_43 k2 n  r1 l2 l3 u0 s) 43 [(0, .ref (adX X 118)), (1, .ref (adX X r1)), (2, .int l2), (3, .int l3)] [.ref (adX X u0)] s := by
  unfold b_X5_freezeOthers_43
  refine j_iconst (v := (0 : Int32)) C dX5_freezeOthers_43 (by decide) ?_
  exact jb_X5_freezeOthers_44 C CR k2 hk2 n r1 h_r1 l2 l3 (0 : Int32) u0 h_u0 s
set_option maxHeartbeats 4000000 in
theorem jb_X5_freezeOthers_2 {X : CtxT (Int32 × Mem)} (C : Cx YC X 5 cX5_freezeOthers RX5 (some .int) rm_X5_freezeOthers) (CR : CRi YC X)  (n : Nat) (k2 : Nat → Int32 → Int32 → Mem → Option (Int32 × Mem)) (hk2 : ∀ (r1 : Nat) (h_r1 : isO 6 r1) (l2 : Int32) (l3 : Int32) (s : Mem), J YC X 5 (k2 r1 l2 l3 s) 2 [(0, .ref (adX X 118)), (1, .ref (adX X r1)), (2, .int l2), (3, .int l3)] [] s) (r1 : Nat) (h_r1 : isO 6 r1) (l2 : Int32) (l3 : Int32) (s : Mem) : J YC X 5 (b_X5_freezeOthers_2  n k2 r1 l2 l3 s) 2 [(0, .ref (adX X 118)), (1, .ref (adX X r1)), (2, .int l2), (3, .int l3)] [] s := by
  unfold b_X5_freezeOthers_2
  refine j_iload_n C dX5_freezeOthers_2 3 rfl rfl ?_
  refine j_bipush (v := (8 : Int32)) C dX5_freezeOthers_3 (by decide) ?_
  refine j_icmp_ge (tgt := 53) C dX5_freezeOthers_5 (by decide) ?_ ?_
  · refine j_iconst (v := (0 : Int32)) C dX5_freezeOthers_53 (by decide) ?_
    exact j_iret C CR dX5_freezeOthers_54
  · refine j_aload_n C dX5_freezeOthers_8 0 rfl rfl ?_
    refine j_getA C kX5 kc_118 lc_118 2 (by decide) tw_446 rc_5_2 dX5_freezeOthers_9 ?_
    refine j_getR (z := 40) C kX7 kc_33 lc_33 12 (by decide) tw_348 rc_7_12 rfl dX5_freezeOthers_12 ?_
    refine j_iload_n C dX5_freezeOthers_15 3 rfl rfl ?_
    refine j_aald3 C kc_40 lc_40 dX5_freezeOthers_16 (fun z1 e_z1 => ?_)
    have h_z1 : isO 6 z1 := (pe_7_7 _ io_7_33 _ e_z1)
    refine j_astore (L' := [(0, .ref (adX X 118)), (1, .ref (adX X r1)), (2, .int l2), (3, .int l3), (4, .ref (adX X z1))]) C dX5_freezeOthers_17 (by decide) [1, 2, 3, 4, 0] rfl ?_
    refine j_aload C dX5_freezeOthers_19 4 rfl ?_
    refine j_iload_n C dX5_freezeOthers_21 2 rfl rfl ?_
    refine j_if_eq (tgt := 43) C dX5_freezeOthers_22 (by decide) ?_ ?_
    · refine j_sub (L' := [(0, .ref (adX X 118)), (1, .ref (adX X r1)), (2, .int l2), (3, .int l3)]) [0, 1, 2, 3] rfl ?_
      exact jb_X5_freezeOthers_43 C CR k2 hk2 n r1 h_r1 l2 l3 z1 h_z1 s
    · refine j_aload C dX5_freezeOthers_25 4 rfl ?_
      refine j_callVi C (c_X6_runs n z1 h_z1 s) cw_RX5_123 ⟨rfl, rfl, Nat.le_of_ble_eq_true rfl, Nat.le_of_ble_eq_true rfl⟩ z1 kX6 (pk_6_0 _ h_z1) (pl_6_0 _ h_z1) [] [.ref (adX X z1)] rfl rfl rfl (Nat.le_of_ble_eq_true rfl) dX5_freezeOthers_27 (fun x3 s2 => ?_)
      refine j_if_eq (tgt := 43) C dX5_freezeOthers_30 (by decide) ?_ ?_
      · refine j_sub (L' := [(0, .ref (adX X 118)), (1, .ref (adX X r1)), (2, .int l2), (3, .int l3)]) [0, 1, 2, 3] rfl ?_
        exact jb_X5_freezeOthers_43 C CR k2 hk2 n r1 h_r1 l2 l3 z1 h_z1 s2
      · refine j_aload C dX5_freezeOthers_33 4 rfl ?_
        refine j_aload_n C dX5_freezeOthers_35 1 rfl rfl ?_
        refine j_acmp_eq (tgt := 43) C (pl_6_0 _ h_z1) (pl_6_0 _ h_r1) dX5_freezeOthers_36 (by decide) ?_ ?_
        · refine j_sub (L' := [(0, .ref (adX X 118)), (1, .ref (adX X r1)), (2, .int l2), (3, .int l3)]) [0, 1, 2, 3] rfl ?_
          exact jb_X5_freezeOthers_43 C CR k2 hk2 n r1 h_r1 l2 l3 z1 h_z1 s2
        · refine j_iconst (v := (1 : Int32)) C dX5_freezeOthers_39 (by decide) ?_
          refine j_goto (tgt := 44) C dX5_freezeOthers_40 (by decide) ?_
          refine j_sub (L' := [(0, .ref (adX X 118)), (1, .ref (adX X r1)), (2, .int l2), (3, .int l3)]) [0, 1, 2, 3] rfl ?_
          exact jb_X5_freezeOthers_44 C CR k2 hk2 n r1 h_r1 l2 l3 (1 : Int32) z1 h_z1 s2
theorem lb_X5_freezeOthers_2 {X : CtxT (Int32 × Mem)} (C : Cx YC X 5 cX5_freezeOthers RX5 (some .int) rm_X5_freezeOthers) (CR : CRi YC X)  : ∀ (n : Nat) (r1 : Nat) (h_r1 : isO 6 r1) (l2 : Int32) (l3 : Int32) (s : Mem), J YC X 5 (itr3 (b_X5_freezeOthers_2) n r1 l2 l3 s) 2 [(0, .ref (adX X 118)), (1, .ref (adX X r1)), (2, .int l2), (3, .int l3)] [] s := by
  intro n
  induction n with
  | zero => intros; exact j_none
  | succ n ih =>
    intro r1 h_r1 l2 l3 s
    exact jb_X5_freezeOthers_2 C CR  n _ ih r1 h_r1 l2 l3 s
set_option maxHeartbeats 4000000 in
theorem c_X5_freezeOthers (n : Nat) (r1 : Nat) (h_r1 : isO 6 r1) (l2 : Int32) (s : Mem) : CTi YC yX5_freezeOthers cX5_freezeOthers 5 (some .int) rm_X5_freezeOthers (fun ad => [.ref (ad 118), .ref (ad r1), .int l2]) s (f_X5_freezeOthers n r1 l2 s) := by
  refine CTi_of (by decide) (fun _ => Nat.le_of_ble_eq_true rfl) (fun X C CR => ?_)
  show J YC X 5 (f_X5_freezeOthers n r1 l2 s) 0 [(0, .ref (adX X 118)), (1, .ref (adX X r1)), (2, .int l2)] [] s
  unfold f_X5_freezeOthers
  refine j_iconst (v := (0 : Int32)) C dX5_freezeOthers_0 (by decide) ?_
  refine j_istore_n (L' := [(0, .ref (adX X 118)), (1, .ref (adX X r1)), (2, .int l2), (3, .int (0 : Int32))]) C dX5_freezeOthers_1 rfl (by decide) [1, 2, 3, 0] rfl ?_
  exact lb_X5_freezeOthers_2 C CR  n r1 h_r1 l2 (0 : Int32) s
set_option maxHeartbeats 4000000 in
theorem jb_X5_goIf_12 {X : CtxT (Int32 × Mem)} (C : Cx YC X 3 cX5_goIf RX5 (some .int) rm_X5_goIf) (CR : CRi YC X)  (n : Nat)   (s : Mem) : J YC X 3 (b_X5_goIf_12  n   s) 12 [] [] s := by
  unfold b_X5_goIf_12
  refine j_iconst (v := (0 : Int32)) C dX5_goIf_12 (by decide) ?_
  exact j_iret C CR dX5_goIf_13
set_option maxHeartbeats 4000000 in
theorem c_X5_goIf (n : Nat) (r1 : Nat) (h_r1 : isO 6 r1) (l2 : Int32) (s : Mem) : CTi YC yX5_goIf cX5_goIf 3 (some .int) rm_X5_goIf (fun ad => [.ref (ad 118), .ref (ad r1), .int l2]) s (f_X5_goIf n r1 l2 s) := by
  refine CTi_of (by decide) (fun _ => Nat.le_of_ble_eq_true rfl) (fun X C CR => ?_)
  show J YC X 3 (f_X5_goIf n r1 l2 s) 0 [(0, .ref (adX X 118)), (1, .ref (adX X r1)), (2, .int l2)] [] s
  unfold f_X5_goIf
  refine j_iload_n C dX5_goIf_0 2 rfl rfl ?_
  refine j_if_eq (tgt := 12) C dX5_goIf_1 (by decide) ?_ ?_
  · refine j_sub (L' := []) [] rfl ?_
    exact jb_X5_goIf_12 C CR  n s
  · refine j_aload_n C dX5_goIf_4 1 rfl rfl ?_
    refine j_aload_n C dX5_goIf_5 0 rfl rfl ?_
    refine j_get C kX5 kc_118 lc_118 6 (by decide) tw_450 rc_5_6 dX5_goIf_6 ?_
    refine j_put C kX6 (pk_6_0 _ h_r1) (pl_6_0 _ h_r1) 1 (by decide) tw_250 rc_6_1 rfl rfl dX5_goIf_9 (fun s1 => ?_)
    refine j_sub (L' := []) [] rfl ?_
    exact jb_X5_goIf_12 C CR  n s1
set_option maxHeartbeats 4000000 in
theorem jb_X5_stopScript_36 {X : CtxT (Int32 × Mem)} (C : Cx YC X 4 cX5_stopScript RX5 (some .int) rm_X5_stopScript) (CR : CRi YC X) (k2 : Nat → Int32 → Int32 → Mem → Option (Int32 × Mem)) (hk2 : ∀ (r1 : Nat) (h_r1 : isO 6 r1) (l2 : Int32) (l3 : Int32) (s : Mem), J YC X 4 (k2 r1 l2 l3 s) 2 [(0, .ref (adX X 118)), (1, .ref (adX X r1)), (2, .int l2), (3, .int l3)] [] s) (n : Nat)  (r1 : Nat) (h_r1 : isO 6 r1) (l2 : Int32) (l3 : Int32) (s : Mem) : J YC X 4 (b_X5_stopScript_36 k2 n  r1 l2 l3 s) 36 [(0, .ref (adX X 118)), (1, .ref (adX X r1)), (2, .int l2), (3, .int l3)] [] s := by
  unfold b_X5_stopScript_36
  refine j_iinc (L2 := fun x1 => [(0, .ref (adX X 118)), (1, .ref (adX X r1)), (2, .int l2), (3, .int x1)]) C dX5_stopScript_36 3 rfl (by decide) [1, 2, 3, 0] (fun _ => rfl) (fun x1 => ?_)
  refine j_goto (tgt := 2) C dX5_stopScript_39 (by decide) ?_
  exact hk2 r1 h_r1 l2 x1 s
set_option maxHeartbeats 4000000 in
theorem jb_X5_stopScript_54 {X : CtxT (Int32 × Mem)} (C : Cx YC X 4 cX5_stopScript RX5 (some .int) rm_X5_stopScript) (CR : CRi YC X)  (n : Nat)  (t0 : Int32) (s : Mem) : J YC X 4 (b_X5_stopScript_54  n  t0 s) 54 [] [.int t0] s := by
  unfold b_X5_stopScript_54
  exact j_iret C CR dX5_stopScript_54
set_option maxHeartbeats 4000000 in
theorem jb_X5_stopScript_2 {X : CtxT (Int32 × Mem)} (C : Cx YC X 4 cX5_stopScript RX5 (some .int) rm_X5_stopScript) (CR : CRi YC X)  (n : Nat) (k2 : Nat → Int32 → Int32 → Mem → Option (Int32 × Mem)) (hk2 : ∀ (r1 : Nat) (h_r1 : isO 6 r1) (l2 : Int32) (l3 : Int32) (s : Mem), J YC X 4 (k2 r1 l2 l3 s) 2 [(0, .ref (adX X 118)), (1, .ref (adX X r1)), (2, .int l2), (3, .int l3)] [] s) (r1 : Nat) (h_r1 : isO 6 r1) (l2 : Int32) (l3 : Int32) (s : Mem) : J YC X 4 (b_X5_stopScript_2  n k2 r1 l2 l3 s) 2 [(0, .ref (adX X 118)), (1, .ref (adX X r1)), (2, .int l2), (3, .int l3)] [] s := by
  unfold b_X5_stopScript_2
  refine j_iload_n C dX5_stopScript_2 3 rfl rfl ?_
  refine j_bipush (v := (8 : Int32)) C dX5_stopScript_3 (by decide) ?_
  refine j_icmp_ge (tgt := 42) C dX5_stopScript_5 (by decide) ?_ ?_
  · refine j_aload_n C dX5_stopScript_42 1 rfl rfl ?_
    refine j_callVi C (c_X6_runs n r1 h_r1 s) cw_RX5_123 ⟨rfl, rfl, Nat.le_of_ble_eq_true rfl, Nat.le_of_ble_eq_true rfl⟩ r1 kX6 (pk_6_0 _ h_r1) (pl_6_0 _ h_r1) [] [] rfl rfl rfl (Nat.le_of_ble_eq_true rfl) dX5_stopScript_43 (fun x2 s1 => ?_)
    refine j_if_eq (tgt := 53) C dX5_stopScript_46 (by decide) ?_ ?_
    · refine j_iconst (v := (1 : Int32)) C dX5_stopScript_53 (by decide) ?_
      refine j_sub (L' := []) [] rfl ?_
      exact jb_X5_stopScript_54 C CR  n (1 : Int32) s1
    · refine j_iconst (v := (0 : Int32)) C dX5_stopScript_49 (by decide) ?_
      refine j_goto (tgt := 54) C dX5_stopScript_50 (by decide) ?_
      refine j_sub (L' := []) [] rfl ?_
      exact jb_X5_stopScript_54 C CR  n (0 : Int32) s1
  · refine j_aload_n C dX5_stopScript_8 0 rfl rfl ?_
    refine j_getA C kX5 kc_118 lc_118 2 (by decide) tw_446 rc_5_2 dX5_stopScript_9 ?_
    refine j_getR (z := 40) C kX7 kc_33 lc_33 12 (by decide) tw_348 rc_7_12 rfl dX5_stopScript_12 ?_
    refine j_iload_n C dX5_stopScript_15 3 rfl rfl ?_
    refine j_aald3 C kc_40 lc_40 dX5_stopScript_16 (fun z3 e_z3 => ?_)
    have h_z3 : isO 6 z3 := (pe_7_7 _ io_7_33 _ e_z3)
    refine j_get C kX6 (pk_6_0 _ h_z3) (pl_6_0 _ h_z3) 0 (by decide) tw_247 rc_6_0 dX5_stopScript_17 ?_
    refine j_iload_n C dX5_stopScript_20 2 rfl rfl ?_
    refine j_icmp_ne (tgt := 36) C dX5_stopScript_21 (by decide) ?_ ?_
    · exact jb_X5_stopScript_36 C CR k2 hk2 n r1 h_r1 l2 l3 s
    · refine j_aload_n C dX5_stopScript_24 0 rfl rfl ?_
      refine j_getA C kX5 kc_118 lc_118 2 (by decide) tw_446 rc_5_2 dX5_stopScript_25 ?_
      refine j_getR (z := 40) C kX7 kc_33 lc_33 12 (by decide) tw_348 rc_7_12 rfl dX5_stopScript_28 ?_
      refine j_iload_n C dX5_stopScript_31 3 rfl rfl ?_
      refine j_aald3 C kc_40 lc_40 dX5_stopScript_32 (fun z4 e_z4 => ?_)
      have h_z4 : isO 6 z4 := (pe_7_7 _ io_7_33 _ e_z4)
      refine j_callVn C (c_X6_release n z4 h_z4 s) cw_RX5_117 ⟨rfl, rfl, Nat.le_of_ble_eq_true rfl, Nat.le_of_ble_eq_true rfl⟩ z4 kX6 (pk_6_0 _ h_z4) (pl_6_0 _ h_z4) [] [] rfl rfl rfl (Nat.le_of_ble_eq_true rfl) dX5_stopScript_33 (fun s5 => ?_)
      exact jb_X5_stopScript_36 C CR k2 hk2 n r1 h_r1 l2 l3 s5
theorem lb_X5_stopScript_2 {X : CtxT (Int32 × Mem)} (C : Cx YC X 4 cX5_stopScript RX5 (some .int) rm_X5_stopScript) (CR : CRi YC X)  : ∀ (n : Nat) (r1 : Nat) (h_r1 : isO 6 r1) (l2 : Int32) (l3 : Int32) (s : Mem), J YC X 4 (itr3 (b_X5_stopScript_2) n r1 l2 l3 s) 2 [(0, .ref (adX X 118)), (1, .ref (adX X r1)), (2, .int l2), (3, .int l3)] [] s := by
  intro n
  induction n with
  | zero => intros; exact j_none
  | succ n ih =>
    intro r1 h_r1 l2 l3 s
    exact jb_X5_stopScript_2 C CR  n _ ih r1 h_r1 l2 l3 s
set_option maxHeartbeats 4000000 in
theorem c_X5_stopScript (n : Nat) (r1 : Nat) (h_r1 : isO 6 r1) (l2 : Int32) (s : Mem) : CTi YC yX5_stopScript cX5_stopScript 4 (some .int) rm_X5_stopScript (fun ad => [.ref (ad 118), .ref (ad r1), .int l2]) s (f_X5_stopScript n r1 l2 s) := by
  refine CTi_of (by decide) (fun _ => Nat.le_of_ble_eq_true rfl) (fun X C CR => ?_)
  show J YC X 4 (f_X5_stopScript n r1 l2 s) 0 [(0, .ref (adX X 118)), (1, .ref (adX X r1)), (2, .int l2)] [] s
  unfold f_X5_stopScript
  refine j_iconst (v := (0 : Int32)) C dX5_stopScript_0 (by decide) ?_
  refine j_istore_n (L' := [(0, .ref (adX X 118)), (1, .ref (adX X r1)), (2, .int l2), (3, .int (0 : Int32))]) C dX5_stopScript_1 rfl (by decide) [1, 2, 3, 0] rfl ?_
  exact lb_X5_stopScript_2 C CR  n r1 h_r1 l2 (0 : Int32) s
set_option maxHeartbeats 4000000 in
theorem jb_J9_floorMod_7cf53_18 {Y : Lay} {X : CtxT (Int32 × Mem)} (C : Cx Y X 3 cJ9_floorMod_7cf53 RJ9 (some .int) rm_J9_floorMod_7cf53) (CR : CRi Y X)  (n : Nat)  (l2 : Int32) (s : Mem) : J Y X 3 (b_J9_floorMod_7cf53_18  n  l2 s) 18 [(2, .int l2)] [] s := by
  unfold b_J9_floorMod_7cf53_18
  refine j_iload_n C dJ9_floorMod_7cf53_18 0 rfl rfl ?_
  exact j_iret C CR dJ9_floorMod_7cf53_19
set_option maxHeartbeats 4000000 in
theorem c_J9_floorMod_7cf53 (Y : Lay) (n : Nat) (l0 : Int32) (l1 : Int32) (s : Mem) : CTi Y yJ9_floorMod_7cf53 cJ9_floorMod_7cf53 3 (some .int) rm_J9_floorMod_7cf53 (fun ad => [.int l0, .int l1]) s (f_J9_floorMod_7cf53 n l0 l1 s) := by
  refine CTi_ofF (by decide +kernel) (fun _ => Nat.le_of_ble_eq_true rfl) (fun X C CR => ?_)
  show J Y X 3 (f_J9_floorMod_7cf53 n l0 l1 s) 0 [(0, .int l0), (1, .int l1)] [] s
  unfold f_J9_floorMod_7cf53
  refine j_iload_n C dJ9_floorMod_7cf53_0 0 rfl rfl ?_
  refine j_iload_n C dJ9_floorMod_7cf53_1 1 rfl rfl ?_
  refine j_irem C dJ9_floorMod_7cf53_2 ?_
  refine j_top (fun x1 => ?_)
  refine j_istore_n (L' := [(0, .int l0), (1, .int l1), (2, .int x1)]) C dJ9_floorMod_7cf53_3 rfl (by decide) [1, 2, 0] rfl ?_
  refine j_iload_n C dJ9_floorMod_7cf53_4 0 rfl rfl ?_
  refine j_iload_n C dJ9_floorMod_7cf53_5 1 rfl rfl ?_
  refine j_ixor C dJ9_floorMod_7cf53_6 ?_
  refine j_if_ge (tgt := 18) C dJ9_floorMod_7cf53_7 (by decide) ?_ ?_
  · refine j_sub (L' := [(2, .int x1)]) [2] rfl ?_
    exact jb_J9_floorMod_7cf53_18 C CR  n x1 s
  · refine j_iload_n C dJ9_floorMod_7cf53_10 2 rfl rfl ?_
    refine j_if_eq (tgt := 18) C dJ9_floorMod_7cf53_11 (by decide) ?_ ?_
    · refine j_sub (L' := [(2, .int x1)]) [2] rfl ?_
      exact jb_J9_floorMod_7cf53_18 C CR  n x1 s
    · refine j_iload_n C dJ9_floorMod_7cf53_14 2 rfl rfl ?_
      refine j_iload_n C dJ9_floorMod_7cf53_15 1 rfl rfl ?_
      refine j_iadd C dJ9_floorMod_7cf53_16 ?_
      exact j_iret C CR dJ9_floorMod_7cf53_17
set_option maxHeartbeats 4000000 in
theorem c_X7_addNote (n : Nat) (r0 : Nat) (h_r0 : isO 7 r0) (l1 : Int32) (s : Mem) : CTn YC yX7_addNote cX7_addNote 2 none rm_X7_addNote (fun ad => [.ref (ad r0), .int l1]) s (f_X7_addNote n r0 l1 s) := by
  refine CTn_of (by decide) (fun _ => Nat.le_of_ble_eq_true rfl) (fun X C CR => ?_)
  show J YC X 2 (f_X7_addNote n r0 l1 s) 0 [(0, .ref (adX X r0)), (1, .int l1)] [] s
  unfold f_X7_addNote
  refine j_aload_n C dX7_addNote_0 0 rfl rfl ?_
  refine j_getR (z := (r0 + 2)) C kX7 (pk_7_0 _ h_r0) (pl_7_0 _ h_r0) 7 (by decide) tw_335 rc_7_7 rfl dX7_addNote_1 ?_
  refine j_aload_n C dX7_addNote_4 0 rfl rfl ?_
  refine j_get C kX7 (pk_7_0 _ h_r0) (pl_7_0 _ h_r0) 2 (by decide) tw_321 rc_7_2 dX7_addNote_5 ?_
  refine j_bipush (v := (64 : Int32)) C dX7_addNote_8 (by decide) ?_
  refine j_callSi C (c_J9_floorMod_7cf53 YC n (s r0 2) (64 : Int32) s) cw_RX7_128 ⟨rfl, rfl, Nat.le_of_ble_eq_true rfl, Nat.le_of_ble_eq_true rfl⟩ [.int (s r0 2), .int (64 : Int32)] [.ref (adX X (r0 + 2))] rfl rfl rfl (Nat.le_of_ble_eq_true rfl) dX7_addNote_10 (fun x2 s1 => ?_)
  refine j_iload_n C dX7_addNote_13 1 rfl rfl ?_
  refine j_iast C (pk_7_2 _ h_r0) (pl_7_2 _ h_r0) dX7_addNote_14 (fun s3 => ?_)
  refine j_aload_n C dX7_addNote_15 0 rfl rfl ?_
  refine j_dup C dX7_addNote_16 rfl ?_
  refine j_get C kX7 (pk_7_0 _ h_r0) (pl_7_0 _ h_r0) 2 (by decide) tw_321 rc_7_2 dX7_addNote_17 ?_
  refine j_iconst (v := (1 : Int32)) C dX7_addNote_20 (by decide) ?_
  refine j_iadd C dX7_addNote_21 ?_
  refine j_put C kX7 (pk_7_0 _ h_r0) (pl_7_0 _ h_r0) 2 (by decide) tw_321 rc_7_2 rfl rfl dX7_addNote_22 (fun s4 => ?_)
  exact j_vret C CR dX7_addNote_25
set_option maxHeartbeats 4000000 in
theorem c_X7_addSentence (n : Nat) (r0 : Nat) (h_r0 : isO 7 r0) (l1 : Int32) (l2 : Int32) (l3 : Int32) (s : Mem) : CTi YC yX7_addSentence cX7_addSentence 5 (some .boolean) rm_X7_addSentence (fun ad => [.ref (ad r0), .int l1, .int l2, .int l3]) s (f_X7_addSentence n r0 l1 l2 l3 s) := by
  refine CTi_of (by decide) (fun _ => Nat.le_of_ble_eq_true rfl) (fun X C CR => ?_)
  show J YC X 5 (f_X7_addSentence n r0 l1 l2 l3 s) 0 [(0, .ref (adX X r0)), (1, .int l1), (2, .int l2), (3, .int l3)] [] s
  unfold f_X7_addSentence
  refine j_aload_n C dX7_addSentence_0 0 rfl rfl ?_
  refine j_get C kX7 (pk_7_0 _ h_r0) (pl_7_0 _ h_r0) 5 (by decide) tw_329 rc_7_5 dX7_addSentence_1 ?_
  refine j_bipush (v := (6 : Int32)) C dX7_addSentence_4 (by decide) ?_
  refine j_icmp_lt (tgt := 21) C dX7_addSentence_6 (by decide) ?_ ?_
  · refine j_aload_n C dX7_addSentence_21 0 rfl rfl ?_
    refine j_get C kX7 (pk_7_0 _ h_r0) (pl_7_0 _ h_r0) 5 (by decide) tw_329 rc_7_5 dX7_addSentence_22 ?_
    refine j_iconst (v := (3 : Int32)) C dX7_addSentence_25 (by decide) ?_
    refine j_imul C dX7_addSentence_26 ?_
    refine j_top (fun x1 => ?_)
    refine j_istore (L' := [(0, .ref (adX X r0)), (1, .int l1), (2, .int l2), (3, .int l3), (4, .int x1)]) C dX7_addSentence_27 (by decide) [1, 2, 3, 4, 0] rfl ?_
    refine j_aload_n C dX7_addSentence_29 0 rfl rfl ?_
    refine j_getR (z := (r0 + 3)) C kX7 (pk_7_0 _ h_r0) (pl_7_0 _ h_r0) 8 (by decide) tw_337 rc_7_8 rfl dX7_addSentence_30 ?_
    refine j_iload C dX7_addSentence_33 4 rfl ?_
    refine j_iload_n C dX7_addSentence_35 1 rfl rfl ?_
    refine j_iast C (pk_7_3 _ h_r0) (pl_7_3 _ h_r0) dX7_addSentence_36 (fun s2 => ?_)
    refine j_aload_n C dX7_addSentence_37 0 rfl rfl ?_
    refine j_getR (z := (r0 + 3)) C kX7 (pk_7_0 _ h_r0) (pl_7_0 _ h_r0) 8 (by decide) tw_337 rc_7_8 rfl dX7_addSentence_38 ?_
    refine j_iload C dX7_addSentence_41 4 rfl ?_
    refine j_iconst (v := (1 : Int32)) C dX7_addSentence_43 (by decide) ?_
    refine j_iadd C dX7_addSentence_44 ?_
    refine j_iload_n C dX7_addSentence_45 2 rfl rfl ?_
    refine j_iast C (pk_7_3 _ h_r0) (pl_7_3 _ h_r0) dX7_addSentence_46 (fun s3 => ?_)
    refine j_aload_n C dX7_addSentence_47 0 rfl rfl ?_
    refine j_getR (z := (r0 + 3)) C kX7 (pk_7_0 _ h_r0) (pl_7_0 _ h_r0) 8 (by decide) tw_337 rc_7_8 rfl dX7_addSentence_48 ?_
    refine j_iload C dX7_addSentence_51 4 rfl ?_
    refine j_iconst (v := (2 : Int32)) C dX7_addSentence_53 (by decide) ?_
    refine j_iadd C dX7_addSentence_54 ?_
    refine j_iload_n C dX7_addSentence_55 3 rfl rfl ?_
    refine j_iast C (pk_7_3 _ h_r0) (pl_7_3 _ h_r0) dX7_addSentence_56 (fun s4 => ?_)
    refine j_aload_n C dX7_addSentence_57 0 rfl rfl ?_
    refine j_dup C dX7_addSentence_58 rfl ?_
    refine j_get C kX7 (pk_7_0 _ h_r0) (pl_7_0 _ h_r0) 5 (by decide) tw_329 rc_7_5 dX7_addSentence_59 ?_
    refine j_iconst (v := (1 : Int32)) C dX7_addSentence_62 (by decide) ?_
    refine j_iadd C dX7_addSentence_63 ?_
    refine j_put C kX7 (pk_7_0 _ h_r0) (pl_7_0 _ h_r0) 5 (by decide) tw_329 rc_7_5 rfl rfl dX7_addSentence_64 (fun s5 => ?_)
    refine j_iconst (v := (1 : Int32)) C dX7_addSentence_67 (by decide) ?_
    exact j_zret C CR dX7_addSentence_68
  · refine j_aload_n C dX7_addSentence_9 0 rfl rfl ?_
    refine j_dup C dX7_addSentence_10 rfl ?_
    refine j_get C kX7 (pk_7_0 _ h_r0) (pl_7_0 _ h_r0) 4 (by decide) tw_326 rc_7_4 dX7_addSentence_11 ?_
    refine j_iconst (v := (1 : Int32)) C dX7_addSentence_14 (by decide) ?_
    refine j_iadd C dX7_addSentence_15 ?_
    refine j_put C kX7 (pk_7_0 _ h_r0) (pl_7_0 _ h_r0) 4 (by decide) tw_326 rc_7_4 rfl rfl dX7_addSentence_16 (fun s6 => ?_)
    refine j_iconst (v := (0 : Int32)) C dX7_addSentence_19 (by decide) ?_
    exact j_zret C CR dX7_addSentence_20
set_option maxHeartbeats 4000000 in
theorem jb_X5_perform_192 {X : CtxT (Int32 × Mem)} (C : Cx YC X 4 cX5_perform RX5 (some .int) rm_X5_perform) (CR : CRi YC X)  (n : Nat)  (t0 : Int32) (u1 : Nat) (h_u1 : isO 6 u1) (s : Mem) : J YC X 4 (b_X5_perform_192  n  t0 u1 s) 192 [] [.int t0, .ref (adX X u1), .ref (adX X 118)] s := by
  unfold b_X5_perform_192
  refine j_callVi C (c_X5_goIf n u1 h_u1 t0 s) cw_RX5_211 ⟨rfl, rfl, Nat.le_of_ble_eq_true rfl, Nat.le_of_ble_eq_true rfl⟩ 118 kX5 kc_118 lc_118 [.ref (adX X u1), .int t0] [] rfl rfl rfl (Nat.le_of_ble_eq_true rfl) dX5_perform_192 (fun x2 s1 => ?_)
  exact j_iret C CR dX5_perform_195
set_option maxHeartbeats 4000000 in
theorem jb_X5_perform_213 {X : CtxT (Int32 × Mem)} (C : Cx YC X 4 cX5_perform RX5 (some .int) rm_X5_perform) (CR : CRi YC X)  (n : Nat)  (t0 : Int32) (u1 : Nat) (h_u1 : isO 6 u1) (s : Mem) : J YC X 4 (b_X5_perform_213  n  t0 u1 s) 213 [] [.int t0, .ref (adX X u1), .ref (adX X 118)] s := by
  unfold b_X5_perform_213
  refine j_callVi C (c_X5_goIf n u1 h_u1 t0 s) cw_RX5_211 ⟨rfl, rfl, Nat.le_of_ble_eq_true rfl, Nat.le_of_ble_eq_true rfl⟩ 118 kX5 kc_118 lc_118 [.ref (adX X u1), .int t0] [] rfl rfl rfl (Nat.le_of_ble_eq_true rfl) dX5_perform_213 (fun x2 s1 => ?_)
  exact j_iret C CR dX5_perform_216
set_option maxHeartbeats 4000000 in
theorem jb_X5_perform_302 {X : CtxT (Int32 × Mem)} (C : Cx YC X 4 cX5_perform RX5 (some .int) rm_X5_perform) (CR : CRi YC X)  (n : Nat)  (t0 : Int32) (u1 : Nat) (h_u1 : isO 6 u1) (s : Mem) : J YC X 4 (b_X5_perform_302  n  t0 u1 s) 302 [] [.int t0, .ref (adX X u1), .ref (adX X 118)] s := by
  unfold b_X5_perform_302
  refine j_callVi C (c_X5_freezeOthers n u1 h_u1 t0 s) cw_RX5_236 ⟨rfl, rfl, Nat.le_of_ble_eq_true rfl, Nat.le_of_ble_eq_true rfl⟩ 118 kX5 kc_118 lc_118 [.ref (adX X u1), .int t0] [] rfl rfl rfl (Nat.le_of_ble_eq_true rfl) dX5_perform_302 (fun x2 s1 => ?_)
  exact j_iret C CR dX5_perform_305
set_option maxHeartbeats 4000000 in
theorem jb_X5_perform_306 {X : CtxT (Int32 × Mem)} (C : Cx YC X 4 cX5_perform RX5 (some .int) rm_X5_perform) (CR : CRi YC X)  (n : Nat)  (r1 : Nat) (h_r1 : isO 6 r1) (l2 : Int32) (s : Mem) : J YC X 4 (b_X5_perform_306  n  r1 l2 s) 306 [(0, .ref (adX X 118)), (1, .ref (adX X r1)), (2, .int l2)] [] s := by
  unfold b_X5_perform_306
  refine j_aload_n C dX5_perform_306 0 rfl rfl ?_
  refine j_aload_n C dX5_perform_307 1 rfl rfl ?_
  refine j_iload_n C dX5_perform_308 2 rfl rfl ?_
  refine j_callVi C (c_X5_askActor n r1 h_r1 l2 s) cw_RX5_239 ⟨rfl, rfl, Nat.le_of_ble_eq_true rfl, Nat.le_of_ble_eq_true rfl⟩ 118 kX5 kc_118 lc_118 [.ref (adX X r1), .int l2] [] rfl rfl rfl (Nat.le_of_ble_eq_true rfl) dX5_perform_309 (fun x2 s1 => ?_)
  exact j_iret C CR dX5_perform_312
set_option maxHeartbeats 4000000 in
theorem jb_X5_perform_341 {X : CtxT (Int32 × Mem)} (C : Cx YC X 4 cX5_perform RX5 (some .int) rm_X5_perform) (CR : CRi YC X)  (n : Nat)  (t0 : Int32) (s : Mem) : J YC X 4 (b_X5_perform_341  n  t0 s) 341 [] [.int t0] s := by
  unfold b_X5_perform_341
  exact j_iret C CR dX5_perform_341
set_option maxHeartbeats 4000000 in
theorem jb_X5_perform_319 {X : CtxT (Int32 × Mem)} (C : Cx YC X 4 cX5_perform RX5 (some .int) rm_X5_perform) (CR : CRi YC X)  (n : Nat)  (r1 : Nat) (h_r1 : isO 6 r1) (l2 : Int32) (s : Mem) : J YC X 4 (b_X5_perform_319  n  r1 l2 s) 319 [(0, .ref (adX X 118)), (1, .ref (adX X r1)), (2, .int l2)] [] s := by
  unfold b_X5_perform_319
  refine j_gets (f := tbT) C C.2.2.2.2.2.2.2.2.2.2.1.2.1 (by decide +kernel) dX5_perform_319 (fun t_1 h_t_1 => ?_)
  refine j_iload_n C dX5_perform_322 2 rfl rfl ?_
  refine j_tald C h_t_1 dX5_perform_323 ?_
  refine j_if_eq (tgt := 336) C dX5_perform_324 (by decide) ?_ ?_
  · refine j_aload_n C dX5_perform_336 0 rfl rfl ?_
    refine j_iload_n C dX5_perform_337 2 rfl rfl ?_
    refine j_callVi C (c_X5_changeStage n l2 s) cw_RX5_248 ⟨rfl, rfl, Nat.le_of_ble_eq_true rfl, Nat.le_of_ble_eq_true rfl⟩ 118 kX5 kc_118 lc_118 [.int l2] [] rfl rfl rfl (Nat.le_of_ble_eq_true rfl) dX5_perform_338 (fun x3 s2 => ?_)
    refine j_sub (L' := []) [] rfl ?_
    exact jb_X5_perform_341 C CR  n x3 s2
  · refine j_aload_n C dX5_perform_327 0 rfl rfl ?_
    refine j_aload_n C dX5_perform_328 1 rfl rfl ?_
    refine j_iload_n C dX5_perform_329 2 rfl rfl ?_
    refine j_callVi C (c_X5_assign n r1 h_r1 l2 s) cw_RX5_245 ⟨rfl, rfl, Nat.le_of_ble_eq_true rfl, Nat.le_of_ble_eq_true rfl⟩ 118 kX5 kc_118 lc_118 [.ref (adX X r1), .int l2] [] rfl rfl rfl (Nat.le_of_ble_eq_true rfl) dX5_perform_330 (fun x5 s4 => ?_)
    refine j_goto (tgt := 341) C dX5_perform_333 (by decide) ?_
    refine j_sub (L' := []) [] rfl ?_
    exact jb_X5_perform_341 C CR  n x5 s4
set_option maxHeartbeats 4000000 in
theorem c_X5_perform (n : Nat) (r1 : Nat) (h_r1 : isO 6 r1) (l2 : Int32) (s : Mem) : CTi YC yX5_perform cX5_perform 4 (some .int) rm_X5_perform (fun ad => [.ref (ad 118), .ref (ad r1), .int l2]) s (f_X5_perform n r1 l2 s) := by
  refine CTi_of (by decide) (fun _ => Nat.le_of_ble_eq_true rfl) (fun X C CR => ?_)
  show J YC X 4 (f_X5_perform n r1 l2 s) 0 [(0, .ref (adX X 118)), (1, .ref (adX X r1)), (2, .int l2)] [] s
  unfold f_X5_perform
  refine j_aload_n C dX5_perform_0 0 rfl rfl ?_
  refine j_getR (z := 119) C kX5 kc_118 lc_118 4 (by decide) tw_448 rc_5_4 rfl dX5_perform_1 ?_
  refine j_iconst (v := (0 : Int32)) C dX5_perform_4 (by decide) ?_
  refine j_iald C kc_119 lc_119 dX5_perform_5 ?_
  refine j_istore_n (L' := [(0, .ref (adX X 118)), (1, .ref (adX X r1)), (2, .int l2), (3, .int (s 119 (0 : Int32).toNatClampNeg))]) C dX5_perform_6 rfl (by decide) [1, 2, 3, 0] rfl ?_
  refine j_iload_n C dX5_perform_7 2 rfl rfl ?_
  refine j_ite (fun hc => ?_) (fun hc0 => ?_)
  · refine j_tswI (off := 152) (tgt := 160) C dX5_perform_8 (by rw [hc]; decide) (by rw [hc]; decide) (by rw [hc]; rfl) (by decide) ?_
    refine j_aload_n C dX5_perform_160 1 rfl rfl ?_
    refine j_callVn C (c_X6_release n r1 h_r1 s) cw_RX5_117 ⟨rfl, rfl, Nat.le_of_ble_eq_true rfl, Nat.le_of_ble_eq_true rfl⟩ r1 kX6 (pk_6_0 _ h_r1) (pl_6_0 _ h_r1) [] [] rfl rfl rfl (Nat.le_of_ble_eq_true rfl) dX5_perform_161 (fun s1 => ?_)
    refine j_iconst (v := (1 : Int32)) C dX5_perform_164 (by decide) ?_
    exact j_iret C CR dX5_perform_165
  refine j_ite (fun hc => ?_) (fun hc1 => ?_)
  · refine j_tswI (off := 158) (tgt := 166) C dX5_perform_8 (by rw [hc]; decide) (by rw [hc]; decide) (by rw [hc]; rfl) (by decide) ?_
    refine j_iconst (v := (1 : Int32)) C dX5_perform_166 (by decide) ?_
    exact j_iret C CR dX5_perform_167
  refine j_ite (fun hc => ?_) (fun hc2 => ?_)
  · refine j_tswI (off := 160) (tgt := 168) C dX5_perform_8 (by rw [hc]; decide) (by rw [hc]; decide) (by rw [hc]; rfl) (by decide) ?_
    refine j_aload_n C dX5_perform_168 0 rfl rfl ?_
    refine j_aload_n C dX5_perform_169 1 rfl rfl ?_
    refine j_iconst (v := (1 : Int32)) C dX5_perform_170 (by decide) ?_
    refine j_callVi C (c_X5_goIf n r1 h_r1 (1 : Int32) s) cw_RX5_211 ⟨rfl, rfl, Nat.le_of_ble_eq_true rfl, Nat.le_of_ble_eq_true rfl⟩ 118 kX5 kc_118 lc_118 [.ref (adX X r1), .int (1 : Int32)] [] rfl rfl rfl (Nat.le_of_ble_eq_true rfl) dX5_perform_171 (fun x3 s2 => ?_)
    exact j_iret C CR dX5_perform_174
  refine j_ite (fun hc => ?_) (fun hc3 => ?_)
  · refine j_tswI (off := 311) (tgt := 319) C dX5_perform_8 (by rw [hc]; decide) (by rw [hc]; decide) (by rw [hc]; rfl) (by decide) ?_
    refine j_sub (L' := [(0, .ref (adX X 118)), (1, .ref (adX X r1)), (2, .int l2)]) [0, 1, 2] rfl ?_
    exact jb_X5_perform_319 C CR  n r1 h_r1 l2 s
  refine j_ite (fun hc => ?_) (fun hc4 => ?_)
  · refine j_tswI (off := 311) (tgt := 319) C dX5_perform_8 (by rw [hc]; decide) (by rw [hc]; decide) (by rw [hc]; rfl) (by decide) ?_
    refine j_sub (L' := [(0, .ref (adX X 118)), (1, .ref (adX X r1)), (2, .int l2)]) [0, 1, 2] rfl ?_
    exact jb_X5_perform_319 C CR  n r1 h_r1 l2 s
  refine j_ite (fun hc => ?_) (fun hc5 => ?_)
  · refine j_tswI (off := 311) (tgt := 319) C dX5_perform_8 (by rw [hc]; decide) (by rw [hc]; decide) (by rw [hc]; rfl) (by decide) ?_
    refine j_sub (L' := [(0, .ref (adX X 118)), (1, .ref (adX X r1)), (2, .int l2)]) [0, 1, 2] rfl ?_
    exact jb_X5_perform_319 C CR  n r1 h_r1 l2 s
  refine j_ite (fun hc => ?_) (fun hc6 => ?_)
  · refine j_tswI (off := 311) (tgt := 319) C dX5_perform_8 (by rw [hc]; decide) (by rw [hc]; decide) (by rw [hc]; rfl) (by decide) ?_
    refine j_sub (L' := [(0, .ref (adX X 118)), (1, .ref (adX X r1)), (2, .int l2)]) [0, 1, 2] rfl ?_
    exact jb_X5_perform_319 C CR  n r1 h_r1 l2 s
  refine j_ite (fun hc => ?_) (fun hc7 => ?_)
  · refine j_tswI (off := 311) (tgt := 319) C dX5_perform_8 (by rw [hc]; decide) (by rw [hc]; decide) (by rw [hc]; rfl) (by decide) ?_
    refine j_sub (L' := [(0, .ref (adX X 118)), (1, .ref (adX X r1)), (2, .int l2)]) [0, 1, 2] rfl ?_
    exact jb_X5_perform_319 C CR  n r1 h_r1 l2 s
  refine j_ite (fun hc => ?_) (fun hc8 => ?_)
  · refine j_tswI (off := 167) (tgt := 175) C dX5_perform_8 (by rw [hc]; decide) (by rw [hc]; decide) (by rw [hc]; rfl) (by decide) ?_
    refine j_aload_n C dX5_perform_175 0 rfl rfl ?_
    refine j_aload_n C dX5_perform_176 1 rfl rfl ?_
    refine j_iload_n C dX5_perform_177 3 rfl rfl ?_
    refine j_aload_n C dX5_perform_178 0 rfl rfl ?_
    refine j_getR (z := 119) C kX5 kc_118 lc_118 4 (by decide) tw_448 rc_5_4 rfl dX5_perform_179 ?_
    refine j_iconst (v := (1 : Int32)) C dX5_perform_182 (by decide) ?_
    refine j_iald C kc_119 lc_119 dX5_perform_183 ?_
    refine j_icmp_ne (tgt := 191) C dX5_perform_184 (by decide) ?_ ?_
    · refine j_iconst (v := (0 : Int32)) C dX5_perform_191 (by decide) ?_
      refine j_sub (L' := []) [] rfl ?_
      exact jb_X5_perform_192 C CR  n (0 : Int32) r1 h_r1 s
    · refine j_iconst (v := (1 : Int32)) C dX5_perform_187 (by decide) ?_
      refine j_goto (tgt := 192) C dX5_perform_188 (by decide) ?_
      refine j_sub (L' := []) [] rfl ?_
      exact jb_X5_perform_192 C CR  n (1 : Int32) r1 h_r1 s
  refine j_ite (fun hc => ?_) (fun hc9 => ?_)
  · refine j_tswI (off := 188) (tgt := 196) C dX5_perform_8 (by rw [hc]; decide) (by rw [hc]; decide) (by rw [hc]; rfl) (by decide) ?_
    refine j_aload_n C dX5_perform_196 0 rfl rfl ?_
    refine j_aload_n C dX5_perform_197 1 rfl rfl ?_
    refine j_iload_n C dX5_perform_198 3 rfl rfl ?_
    refine j_aload_n C dX5_perform_199 0 rfl rfl ?_
    refine j_getR (z := 119) C kX5 kc_118 lc_118 4 (by decide) tw_448 rc_5_4 rfl dX5_perform_200 ?_
    refine j_iconst (v := (1 : Int32)) C dX5_perform_203 (by decide) ?_
    refine j_iald C kc_119 lc_119 dX5_perform_204 ?_
    refine j_icmp_ge (tgt := 212) C dX5_perform_205 (by decide) ?_ ?_
    · refine j_iconst (v := (0 : Int32)) C dX5_perform_212 (by decide) ?_
      refine j_sub (L' := []) [] rfl ?_
      exact jb_X5_perform_213 C CR  n (0 : Int32) r1 h_r1 s
    · refine j_iconst (v := (1 : Int32)) C dX5_perform_208 (by decide) ?_
      refine j_goto (tgt := 213) C dX5_perform_209 (by decide) ?_
      refine j_sub (L' := []) [] rfl ?_
      exact jb_X5_perform_213 C CR  n (1 : Int32) r1 h_r1 s
  refine j_ite (fun hc => ?_) (fun hc10 => ?_)
  · refine j_tswI (off := 209) (tgt := 217) C dX5_perform_8 (by rw [hc]; decide) (by rw [hc]; decide) (by rw [hc]; rfl) (by decide) ?_
    refine j_aload_n C dX5_perform_217 1 rfl rfl ?_
    refine j_iconst (v := (0 : Int32)) C dX5_perform_218 (by decide) ?_
    refine j_iload_n C dX5_perform_219 3 rfl rfl ?_
    refine j_mmax C cw_RX5_215 ⟨Nat.le_of_ble_eq_true rfl, Nat.le_of_ble_eq_true rfl⟩ (Nat.le_of_ble_eq_true rfl) dX5_perform_220 ?_
    refine j_put C kX6 (pk_6_0 _ h_r1) (pl_6_0 _ h_r1) 2 (by decide) tw_252 rc_6_2 rfl rfl dX5_perform_223 (fun s4 => ?_)
    refine j_iconst (v := (1 : Int32)) C dX5_perform_226 (by decide) ?_
    exact j_iret C CR dX5_perform_227
  refine j_ite (fun hc => ?_) (fun hc11 => ?_)
  · refine j_tswI (off := 220) (tgt := 228) C dX5_perform_8 (by rw [hc]; decide) (by rw [hc]; decide) (by rw [hc]; rfl) (by decide) ?_
    refine j_aload_n C dX5_perform_228 0 rfl rfl ?_
    refine j_iload_n C dX5_perform_229 3 rfl rfl ?_
    refine j_iconst (v := (0 : Int32)) C dX5_perform_230 (by decide) ?_
    refine j_callVi C (c_X5_startScript n (s 119 (0 : Int32).toNatClampNeg) (0 : Int32) s) cw_RX5_95 ⟨rfl, rfl, Nat.le_of_ble_eq_true rfl, Nat.le_of_ble_eq_true rfl⟩ 118 kX5 kc_118 lc_118 [.int (s 119 (0 : Int32).toNatClampNeg), .int (0 : Int32)] [] rfl rfl rfl (Nat.le_of_ble_eq_true rfl) dX5_perform_231 (fun x6 s5 => ?_)
    refine j_pop C dX5_perform_234 rfl ?_
    refine j_iconst (v := (0 : Int32)) C dX5_perform_235 (by decide) ?_
    exact j_iret C CR dX5_perform_236
  refine j_ite (fun hc => ?_) (fun hc12 => ?_)
  · refine j_tswI (off := 229) (tgt := 237) C dX5_perform_8 (by rw [hc]; decide) (by rw [hc]; decide) (by rw [hc]; rfl) (by decide) ?_
    refine j_aload_n C dX5_perform_237 0 rfl rfl ?_
    refine j_aload_n C dX5_perform_238 1 rfl rfl ?_
    refine j_iload_n C dX5_perform_239 3 rfl rfl ?_
    refine j_callVi C (c_X5_stopScript n r1 h_r1 (s 119 (0 : Int32).toNatClampNeg) s) cw_RX5_220 ⟨rfl, rfl, Nat.le_of_ble_eq_true rfl, Nat.le_of_ble_eq_true rfl⟩ 118 kX5 kc_118 lc_118 [.ref (adX X r1), .int (s 119 (0 : Int32).toNatClampNeg)] [] rfl rfl rfl (Nat.le_of_ble_eq_true rfl) dX5_perform_240 (fun x8 s7 => ?_)
    exact j_iret C CR dX5_perform_243
  refine j_ite (fun hc => ?_) (fun hc13 => ?_)
  · refine j_tswI (off := 311) (tgt := 319) C dX5_perform_8 (by rw [hc]; decide) (by rw [hc]; decide) (by rw [hc]; rfl) (by decide) ?_
    refine j_sub (L' := [(0, .ref (adX X 118)), (1, .ref (adX X r1)), (2, .int l2)]) [0, 1, 2] rfl ?_
    exact jb_X5_perform_319 C CR  n r1 h_r1 l2 s
  refine j_ite (fun hc => ?_) (fun hc14 => ?_)
  · refine j_tswI (off := 311) (tgt := 319) C dX5_perform_8 (by rw [hc]; decide) (by rw [hc]; decide) (by rw [hc]; rfl) (by decide) ?_
    refine j_sub (L' := [(0, .ref (adX X 118)), (1, .ref (adX X r1)), (2, .int l2)]) [0, 1, 2] rfl ?_
    exact jb_X5_perform_319 C CR  n r1 h_r1 l2 s
  refine j_ite (fun hc => ?_) (fun hc15 => ?_)
  · refine j_tswI (off := 243) (tgt := 251) C dX5_perform_8 (by rw [hc]; decide) (by rw [hc]; decide) (by rw [hc]; rfl) (by decide) ?_
    refine j_aload_n C dX5_perform_251 0 rfl rfl ?_
    refine j_aload_n C dX5_perform_252 1 rfl rfl ?_
    refine j_iload_n C dX5_perform_253 3 rfl rfl ?_
    refine j_callVi C (c_X5_await n r1 h_r1 (s 119 (0 : Int32).toNatClampNeg) s) cw_RX5_226 ⟨rfl, rfl, Nat.le_of_ble_eq_true rfl, Nat.le_of_ble_eq_true rfl⟩ 118 kX5 kc_118 lc_118 [.ref (adX X r1), .int (s 119 (0 : Int32).toNatClampNeg)] [] rfl rfl rfl (Nat.le_of_ble_eq_true rfl) dX5_perform_254 (fun x10 s9 => ?_)
    exact j_iret C CR dX5_perform_257
  refine j_ite (fun hc => ?_) (fun hc16 => ?_)
  · refine j_tswI (off := 311) (tgt := 319) C dX5_perform_8 (by rw [hc]; decide) (by rw [hc]; decide) (by rw [hc]; rfl) (by decide) ?_
    refine j_sub (L' := [(0, .ref (adX X 118)), (1, .ref (adX X r1)), (2, .int l2)]) [0, 1, 2] rfl ?_
    exact jb_X5_perform_319 C CR  n r1 h_r1 l2 s
  refine j_ite (fun hc => ?_) (fun hc17 => ?_)
  · refine j_tswI (off := 311) (tgt := 319) C dX5_perform_8 (by rw [hc]; decide) (by rw [hc]; decide) (by rw [hc]; rfl) (by decide) ?_
    refine j_sub (L' := [(0, .ref (adX X 118)), (1, .ref (adX X r1)), (2, .int l2)]) [0, 1, 2] rfl ?_
    exact jb_X5_perform_319 C CR  n r1 h_r1 l2 s
  refine j_ite (fun hc => ?_) (fun hc18 => ?_)
  · refine j_tswI (off := 311) (tgt := 319) C dX5_perform_8 (by rw [hc]; decide) (by rw [hc]; decide) (by rw [hc]; rfl) (by decide) ?_
    refine j_sub (L' := [(0, .ref (adX X 118)), (1, .ref (adX X r1)), (2, .int l2)]) [0, 1, 2] rfl ?_
    exact jb_X5_perform_319 C CR  n r1 h_r1 l2 s
  refine j_ite (fun hc => ?_) (fun hc19 => ?_)
  · refine j_tswI (off := 311) (tgt := 319) C dX5_perform_8 (by rw [hc]; decide) (by rw [hc]; decide) (by rw [hc]; rfl) (by decide) ?_
    refine j_sub (L' := [(0, .ref (adX X 118)), (1, .ref (adX X r1)), (2, .int l2)]) [0, 1, 2] rfl ?_
    exact jb_X5_perform_319 C CR  n r1 h_r1 l2 s
  refine j_ite (fun hc => ?_) (fun hc20 => ?_)
  · refine j_tswI (off := 250) (tgt := 258) C dX5_perform_8 (by rw [hc]; decide) (by rw [hc]; decide) (by rw [hc]; rfl) (by decide) ?_
    refine j_aload_n C dX5_perform_258 0 rfl rfl ?_
    refine j_getA C kX5 kc_118 lc_118 2 (by decide) tw_446 rc_5_2 dX5_perform_259 ?_
    refine j_iload_n C dX5_perform_262 3 rfl rfl ?_
    refine j_callVn C (c_X7_addNote n 33 io_7_33 (s 119 (0 : Int32).toNatClampNeg) s) cw_RX5_229 ⟨rfl, rfl, Nat.le_of_ble_eq_true rfl, Nat.le_of_ble_eq_true rfl⟩ 33 kX7 kc_33 lc_33 [.int (s 119 (0 : Int32).toNatClampNeg)] [] rfl rfl rfl (Nat.le_of_ble_eq_true rfl) dX5_perform_263 (fun s11 => ?_)
    refine j_iconst (v := (0 : Int32)) C dX5_perform_266 (by decide) ?_
    exact j_iret C CR dX5_perform_267
  refine j_ite (fun hc => ?_) (fun hc21 => ?_)
  · refine j_tswI (off := 260) (tgt := 268) C dX5_perform_8 (by rw [hc]; decide) (by rw [hc]; decide) (by rw [hc]; rfl) (by decide) ?_
    refine j_aload_n C dX5_perform_268 0 rfl rfl ?_
    refine j_getA C kX5 kc_118 lc_118 2 (by decide) tw_446 rc_5_2 dX5_perform_269 ?_
    refine j_iload_n C dX5_perform_272 3 rfl rfl ?_
    refine j_aload_n C dX5_perform_273 0 rfl rfl ?_
    refine j_getR (z := 119) C kX5 kc_118 lc_118 4 (by decide) tw_448 rc_5_4 rfl dX5_perform_274 ?_
    refine j_iconst (v := (1 : Int32)) C dX5_perform_277 (by decide) ?_
    refine j_iald C kc_119 lc_119 dX5_perform_278 ?_
    refine j_aload_n C dX5_perform_279 0 rfl rfl ?_
    refine j_getR (z := 119) C kX5 kc_118 lc_118 4 (by decide) tw_448 rc_5_4 rfl dX5_perform_280 ?_
    refine j_iconst (v := (2 : Int32)) C dX5_perform_283 (by decide) ?_
    refine j_iald C kc_119 lc_119 dX5_perform_284 ?_
    refine j_callVi C (c_X7_addSentence n 33 io_7_33 (s 119 (0 : Int32).toNatClampNeg) (s 119 (1 : Int32).toNatClampNeg) (s 119 (2 : Int32).toNatClampNeg) s) cw_RX5_232 ⟨rfl, rfl, Nat.le_of_ble_eq_true rfl, Nat.le_of_ble_eq_true rfl⟩ 33 kX7 kc_33 lc_33 [.int (s 119 (0 : Int32).toNatClampNeg), .int (s 119 (1 : Int32).toNatClampNeg), .int (s 119 (2 : Int32).toNatClampNeg)] [] rfl rfl rfl (Nat.le_of_ble_eq_true rfl) dX5_perform_285 (fun x13 s12 => ?_)
    refine j_pop C dX5_perform_288 rfl ?_
    refine j_iconst (v := (0 : Int32)) C dX5_perform_289 (by decide) ?_
    exact j_iret C CR dX5_perform_290
  refine j_ite (fun hc => ?_) (fun hc22 => ?_)
  · refine j_tswI (off := 283) (tgt := 291) C dX5_perform_8 (by rw [hc]; decide) (by rw [hc]; decide) (by rw [hc]; rfl) (by decide) ?_
    refine j_aload_n C dX5_perform_291 0 rfl rfl ?_
    refine j_aload_n C dX5_perform_292 1 rfl rfl ?_
    refine j_iload_n C dX5_perform_293 3 rfl rfl ?_
    refine j_if_eq (tgt := 301) C dX5_perform_294 (by decide) ?_ ?_
    · refine j_iconst (v := (0 : Int32)) C dX5_perform_301 (by decide) ?_
      refine j_sub (L' := []) [] rfl ?_
      exact jb_X5_perform_302 C CR  n (0 : Int32) r1 h_r1 s
    · refine j_iconst (v := (1 : Int32)) C dX5_perform_297 (by decide) ?_
      refine j_goto (tgt := 302) C dX5_perform_298 (by decide) ?_
      refine j_sub (L' := []) [] rfl ?_
      exact jb_X5_perform_302 C CR  n (1 : Int32) r1 h_r1 s
  refine j_ite (fun hc => ?_) (fun hc23 => ?_)
  · refine j_tswI (off := 298) (tgt := 306) C dX5_perform_8 (by rw [hc]; decide) (by rw [hc]; decide) (by rw [hc]; rfl) (by decide) ?_
    refine j_sub (L' := [(0, .ref (adX X 118)), (1, .ref (adX X r1)), (2, .int l2)]) [0, 1, 2] rfl ?_
    exact jb_X5_perform_306 C CR  n r1 h_r1 l2 s
  refine j_ite (fun hc => ?_) (fun hc24 => ?_)
  · refine j_tswI (off := 298) (tgt := 306) C dX5_perform_8 (by rw [hc]; decide) (by rw [hc]; decide) (by rw [hc]; rfl) (by decide) ?_
    refine j_sub (L' := [(0, .ref (adX X 118)), (1, .ref (adX X r1)), (2, .int l2)]) [0, 1, 2] rfl ?_
    exact jb_X5_perform_306 C CR  n r1 h_r1 l2 s
  refine j_ite (fun hc => ?_) (fun hc25 => ?_)
  · refine j_tswI (off := 298) (tgt := 306) C dX5_perform_8 (by rw [hc]; decide) (by rw [hc]; decide) (by rw [hc]; rfl) (by decide) ?_
    refine j_sub (L' := [(0, .ref (adX X 118)), (1, .ref (adX X r1)), (2, .int l2)]) [0, 1, 2] rfl ?_
    exact jb_X5_perform_306 C CR  n r1 h_r1 l2 s
  refine j_ite (fun hc => ?_) (fun hc26 => ?_)
  · refine j_tswI (off := 298) (tgt := 306) C dX5_perform_8 (by rw [hc]; decide) (by rw [hc]; decide) (by rw [hc]; rfl) (by decide) ?_
    refine j_sub (L' := [(0, .ref (adX X 118)), (1, .ref (adX X r1)), (2, .int l2)]) [0, 1, 2] rfl ?_
    exact jb_X5_perform_306 C CR  n r1 h_r1 l2 s
  refine j_ite (fun hc => ?_) (fun hc27 => ?_)
  · refine j_tswI (off := 298) (tgt := 306) C dX5_perform_8 (by rw [hc]; decide) (by rw [hc]; decide) (by rw [hc]; rfl) (by decide) ?_
    refine j_sub (L' := [(0, .ref (adX X 118)), (1, .ref (adX X r1)), (2, .int l2)]) [0, 1, 2] rfl ?_
    exact jb_X5_perform_306 C CR  n r1 h_r1 l2 s
  refine j_ite (fun hc => ?_) (fun hc28 => ?_)
  · refine j_tswI (off := 311) (tgt := 319) C dX5_perform_8 (by rw [hc]; decide) (by rw [hc]; decide) (by rw [hc]; rfl) (by decide) ?_
    refine j_sub (L' := [(0, .ref (adX X 118)), (1, .ref (adX X r1)), (2, .int l2)]) [0, 1, 2] rfl ?_
    exact jb_X5_perform_319 C CR  n r1 h_r1 l2 s
  refine j_ite (fun hc => ?_) (fun hc29 => ?_)
  · refine j_tswI (off := 311) (tgt := 319) C dX5_perform_8 (by rw [hc]; decide) (by rw [hc]; decide) (by rw [hc]; rfl) (by decide) ?_
    refine j_sub (L' := [(0, .ref (adX X 118)), (1, .ref (adX X r1)), (2, .int l2)]) [0, 1, 2] rfl ?_
    exact jb_X5_perform_319 C CR  n r1 h_r1 l2 s
  refine j_ite (fun hc => ?_) (fun hc30 => ?_)
  · refine j_tswI (off := 311) (tgt := 319) C dX5_perform_8 (by rw [hc]; decide) (by rw [hc]; decide) (by rw [hc]; rfl) (by decide) ?_
    refine j_sub (L' := [(0, .ref (adX X 118)), (1, .ref (adX X r1)), (2, .int l2)]) [0, 1, 2] rfl ?_
    exact jb_X5_perform_319 C CR  n r1 h_r1 l2 s
  refine j_ite (fun hc => ?_) (fun hc31 => ?_)
  · refine j_tswI (off := 305) (tgt := 313) C dX5_perform_8 (by rw [hc]; decide) (by rw [hc]; decide) (by rw [hc]; rfl) (by decide) ?_
    refine j_aload_n C dX5_perform_313 0 rfl rfl ?_
    refine j_aload_n C dX5_perform_314 1 rfl rfl ?_
    refine j_callVi C (c_X5_askDistance n r1 h_r1 s) cw_RX5_242 ⟨rfl, rfl, Nat.le_of_ble_eq_true rfl, Nat.le_of_ble_eq_true rfl⟩ 118 kX5 kc_118 lc_118 [.ref (adX X r1)] [] rfl rfl rfl (Nat.le_of_ble_eq_true rfl) dX5_perform_315 (fun x15 s14 => ?_)
    exact j_iret C CR dX5_perform_318
  refine j_ite (fun hc => ?_) (fun hc32 => ?_)
  · refine j_tswI (off := 311) (tgt := 319) C dX5_perform_8 (by rw [hc]; decide) (by rw [hc]; decide) (by rw [hc]; rfl) (by decide) ?_
    refine j_sub (L' := [(0, .ref (adX X 118)), (1, .ref (adX X r1)), (2, .int l2)]) [0, 1, 2] rfl ?_
    exact jb_X5_perform_319 C CR  n r1 h_r1 l2 s
  refine j_ite (fun hc => ?_) (fun hc33 => ?_)
  · refine j_tswI (off := 236) (tgt := 244) C dX5_perform_8 (by rw [hc]; decide) (by rw [hc]; decide) (by rw [hc]; rfl) (by decide) ?_
    refine j_aload_n C dX5_perform_244 0 rfl rfl ?_
    refine j_aload_n C dX5_perform_245 1 rfl rfl ?_
    refine j_iload_n C dX5_perform_246 3 rfl rfl ?_
    refine j_callVi C (c_X5_chain n r1 h_r1 (s 119 (0 : Int32).toNatClampNeg) s) cw_RX5_223 ⟨rfl, rfl, Nat.le_of_ble_eq_true rfl, Nat.le_of_ble_eq_true rfl⟩ 118 kX5 kc_118 lc_118 [.ref (adX X r1), .int (s 119 (0 : Int32).toNatClampNeg)] [] rfl rfl rfl (Nat.le_of_ble_eq_true rfl) dX5_perform_247 (fun x17 s16 => ?_)
    exact j_iret C CR dX5_perform_250
  refine j_tswO (tgt := 319) C dX5_perform_8 (by omega) (by decide) ?_
  refine j_sub (L' := [(0, .ref (adX X 118)), (1, .ref (adX X r1)), (2, .int l2)]) [0, 1, 2] rfl ?_
  exact jb_X5_perform_319 C CR  n r1 h_r1 l2 s
set_option maxHeartbeats 4000000 in
theorem jb_X5_nextByte_18 {X : CtxT (Int32 × Mem)} (C : Cx YC X 3 cX5_nextByte RX5 (some .int) rm_X5_nextByte) (CR : CRi YC X)  (n : Nat)   (s : Mem) : J YC X 3 (b_X5_nextByte_18  n   s) 18 [(0, .ref (adX X 118))] [] s := by
  unfold b_X5_nextByte_18
  refine j_aload_n C dX5_nextByte_18 0 rfl rfl ?_
  refine j_iconst (v := (1 : Int32)) C dX5_nextByte_19 (by decide) ?_
  refine j_putZ C kX5 kc_118 lc_118 7 (by decide) tw_451 rc_5_7 rfl rfl dX5_nextByte_20 (fun s1 => ?_)
  refine j_iconst (v := (-1 : Int32)) C dX5_nextByte_23 (by decide) ?_
  exact j_iret C CR dX5_nextByte_24
set_option maxHeartbeats 4000000 in
theorem c_X5_nextByte (n : Nat) (r1 : Nat) (h_r1 : isO 6 r1) (s : Mem) : CTi YC yX5_nextByte cX5_nextByte 3 (some .int) rm_X5_nextByte (fun ad => [.ref (ad 118), .ref (ad r1)]) s (f_X5_nextByte n r1 s) := by
  refine CTi_of (by decide) (fun _ => Nat.le_of_ble_eq_true rfl) (fun X C CR => ?_)
  show J YC X 3 (f_X5_nextByte n r1 s) 0 [(0, .ref (adX X 118)), (1, .ref (adX X r1))] [] s
  unfold f_X5_nextByte
  refine j_aload_n C dX5_nextByte_0 1 rfl rfl ?_
  refine j_get C kX6 (pk_6_0 _ h_r1) (pl_6_0 _ h_r1) 1 (by decide) tw_250 rc_6_1 dX5_nextByte_1 ?_
  refine j_if_lt (tgt := 18) C dX5_nextByte_4 (by decide) ?_ ?_
  · refine j_sub (L' := [(0, .ref (adX X 118))]) [0] rfl ?_
    exact jb_X5_nextByte_18 C CR  n s
  · refine j_aload_n C dX5_nextByte_7 1 rfl rfl ?_
    refine j_get C kX6 (pk_6_0 _ h_r1) (pl_6_0 _ h_r1) 1 (by decide) tw_250 rc_6_1 dX5_nextByte_8 ?_
    refine j_aload_n C dX5_nextByte_11 0 rfl rfl ?_
    refine j_get C kX5 kc_118 lc_118 9 (by decide) tw_453 rc_5_9 dX5_nextByte_12 ?_
    refine j_icmp_lt (tgt := 25) C dX5_nextByte_15 (by decide) ?_ ?_
    · refine j_aload_n C dX5_nextByte_25 0 rfl rfl ?_
      refine j_getA C kX5 kc_118 lc_118 0 (by decide) tw_444 rc_5_0 dX5_nextByte_26 ?_
      refine j_getR (z := 17) C kX3 kc_16 lc_16 0 (by decide) tw_176 rc_3_0 rfl dX5_nextByte_29 ?_
      refine j_aload_n C dX5_nextByte_32 0 rfl rfl ?_
      refine j_get C kX5 kc_118 lc_118 8 (by decide) tw_452 rc_5_8 dX5_nextByte_33 ?_
      refine j_aload_n C dX5_nextByte_36 1 rfl rfl ?_
      refine j_get C kX6 (pk_6_0 _ h_r1) (pl_6_0 _ h_r1) 1 (by decide) tw_250 rc_6_1 dX5_nextByte_37 ?_
      refine j_iadd C dX5_nextByte_40 ?_
      refine j_callVi C (c_X8_at n 17 io_8_17 ((s 118 8) + (s r1 1)) s) cw_RX5_196 ⟨rfl, rfl, Nat.le_of_ble_eq_true rfl, Nat.le_of_ble_eq_true rfl⟩ 17 kX8 kc_17 lc_17 [.int ((s 118 8) + (s r1 1))] [] rfl rfl rfl (Nat.le_of_ble_eq_true rfl) dX5_nextByte_41 (fun x2 s1 => ?_)
      refine j_istore_n (L' := [(0, .ref (adX X 118)), (1, .ref (adX X r1)), (2, .int x2)]) C dX5_nextByte_44 rfl (by decide) [1, 2, 0] rfl ?_
      refine j_aload_n C dX5_nextByte_45 1 rfl rfl ?_
      refine j_dup C dX5_nextByte_46 rfl ?_
      refine j_get C kX6 (pk_6_0 _ h_r1) (pl_6_0 _ h_r1) 1 (by decide) tw_250 rc_6_1 dX5_nextByte_47 ?_
      refine j_iconst (v := (1 : Int32)) C dX5_nextByte_50 (by decide) ?_
      refine j_iadd C dX5_nextByte_51 ?_
      refine j_put C kX6 (pk_6_0 _ h_r1) (pl_6_0 _ h_r1) 1 (by decide) tw_250 rc_6_1 rfl rfl dX5_nextByte_52 (fun s3 => ?_)
      refine j_iload_n C dX5_nextByte_55 2 rfl rfl ?_
      exact j_iret C CR dX5_nextByte_56
    · refine j_sub (L' := [(0, .ref (adX X 118))]) [0] rfl ?_
      exact jb_X5_nextByte_18 C CR  n s
set_option maxHeartbeats 4000000 in
theorem jb_X5_readJump_34 {X : CtxT (Int32 × Mem)} (C : Cx YC X 4 cX5_readJump RX5 (some .int) rm_X5_readJump) (CR : CRi YC X)  (n : Nat)  (l3 : Int32) (s : Mem) : J YC X 4 (b_X5_readJump_34  n  l3 s) 34 [(3, .int l3)] [] s := by
  unfold b_X5_readJump_34
  refine j_iload_n C dX5_readJump_34 0 rfl rfl ?_
  exact j_iret C CR dX5_readJump_35
set_option maxHeartbeats 4000000 in
theorem jb_X5_readJump_29 {X : CtxT (Int32 × Mem)} (C : Cx YC X 4 cX5_readJump RX5 (some .int) rm_X5_readJump) (CR : CRi YC X)  (n : Nat)  (l3 : Int32) (s : Mem) : J YC X 4 (b_X5_readJump_29  n  l3 s) 29 [(0, .ref (adX X 118)), (3, .int l3)] [] s := by
  unfold b_X5_readJump_29
  refine j_aload_n C dX5_readJump_29 0 rfl rfl ?_
  refine j_iconst (v := (1 : Int32)) C dX5_readJump_30 (by decide) ?_
  refine j_putZ C kX5 kc_118 lc_118 7 (by decide) tw_451 rc_5_7 rfl rfl dX5_readJump_31 (fun s1 => ?_)
  refine j_sub (L' := [(3, .int l3)]) [1] rfl ?_
  exact jb_X5_readJump_34 C CR  n l3 s1
set_option maxHeartbeats 4000000 in
theorem c_X5_readJump (n : Nat) (r1 : Nat) (h_r1 : isO 6 r1) (s : Mem) : CTi YC yX5_readJump cX5_readJump 4 (some .int) rm_X5_readJump (fun ad => [.ref (ad 118), .ref (ad r1)]) s (f_X5_readJump n r1 s) := by
  refine CTi_of (by decide) (fun _ => Nat.le_of_ble_eq_true rfl) (fun X C CR => ?_)
  show J YC X 4 (f_X5_readJump n r1 s) 0 [(0, .ref (adX X 118)), (1, .ref (adX X r1))] [] s
  unfold f_X5_readJump
  refine j_aload_n C dX5_readJump_0 0 rfl rfl ?_
  refine j_aload_n C dX5_readJump_1 1 rfl rfl ?_
  refine j_callVi C (c_X5_nextByte n r1 h_r1 s) cw_RX5_162 ⟨rfl, rfl, Nat.le_of_ble_eq_true rfl, Nat.le_of_ble_eq_true rfl⟩ 118 kX5 kc_118 lc_118 [.ref (adX X r1)] [] rfl rfl rfl (Nat.le_of_ble_eq_true rfl) dX5_readJump_2 (fun x2 s1 => ?_)
  refine j_istore_n (L' := [(0, .ref (adX X 118)), (1, .ref (adX X r1)), (2, .int x2)]) C dX5_readJump_5 rfl (by decide) [1, 2, 0] rfl ?_
  refine j_iload_n C dX5_readJump_6 2 rfl rfl ?_
  refine j_bipush (v := (8 : Int32)) C dX5_readJump_7 (by decide) ?_
  refine j_ishl C dX5_readJump_9 ?_
  refine j_aload_n C dX5_readJump_10 0 rfl rfl ?_
  refine j_aload_n C dX5_readJump_11 1 rfl rfl ?_
  refine j_callVi C (c_X5_nextByte n r1 h_r1 s1) cw_RX5_162 ⟨rfl, rfl, Nat.le_of_ble_eq_true rfl, Nat.le_of_ble_eq_true rfl⟩ 118 kX5 kc_118 lc_118 [.ref (adX X r1)] [.int (x2 <<< ((8 : Int32) &&& 31))] rfl rfl rfl (Nat.le_of_ble_eq_true rfl) dX5_readJump_12 (fun x4 s3 => ?_)
  refine j_ior C dX5_readJump_15 ?_
  refine j_top (fun x5 => ?_)
  refine j_istore_n (L' := [(0, .ref (adX X 118)), (1, .ref (adX X r1)), (2, .int x2), (3, .int x5)]) C dX5_readJump_16 rfl (by decide) [1, 2, 3, 0] rfl ?_
  refine j_iload_n C dX5_readJump_17 3 rfl rfl ?_
  refine j_if_lt (tgt := 29) C dX5_readJump_18 (by decide) ?_ ?_
  · refine j_sub (L' := [(0, .ref (adX X 118)), (3, .int x5)]) [0, 3] rfl ?_
    exact jb_X5_readJump_29 C CR  n x5 s3
  · refine j_iload_n C dX5_readJump_21 3 rfl rfl ?_
    refine j_aload_n C dX5_readJump_22 0 rfl rfl ?_
    refine j_get C kX5 kc_118 lc_118 9 (by decide) tw_453 rc_5_9 dX5_readJump_23 ?_
    refine j_icmp_lt (tgt := 34) C dX5_readJump_26 (by decide) ?_ ?_
    · refine j_sub (L' := [(3, .int x5)]) [3] rfl ?_
      exact jb_X5_readJump_34 C CR  n x5 s3
    · refine j_sub (L' := [(0, .ref (adX X 118)), (3, .int x5)]) [0, 3] rfl ?_
      exact jb_X5_readJump_29 C CR  n x5 s3
set_option maxHeartbeats 4000000 in
theorem jb_X5_addressOf_36 {X : CtxT (Int32 × Mem)} (C : Cx YC X 3 cX5_addressOf RX5 (some .int) rm_X5_addressOf) (CR : CRi YC X)  (n : Nat)   (s : Mem) : J YC X 3 (b_X5_addressOf_36  n   s) 36 [(0, .ref (adX X 118))] [] s := by
  unfold b_X5_addressOf_36
  refine j_aload_n C dX5_addressOf_36 0 rfl rfl ?_
  refine j_iconst (v := (1 : Int32)) C dX5_addressOf_37 (by decide) ?_
  refine j_putZ C kX5 kc_118 lc_118 7 (by decide) tw_451 rc_5_7 rfl rfl dX5_addressOf_38 (fun s1 => ?_)
  refine j_iconst (v := (-1 : Int32)) C dX5_addressOf_41 (by decide) ?_
  exact j_iret C CR dX5_addressOf_42
set_option maxHeartbeats 4000000 in
theorem jb_X5_addressOf_17 {X : CtxT (Int32 × Mem)} (C : Cx YC X 3 cX5_addressOf RX5 (some .int) rm_X5_addressOf) (CR : CRi YC X)  (n : Nat)  (l1 : Int32) (l2 : Int32) (s : Mem) : J YC X 3 (b_X5_addressOf_17  n  l1 l2 s) 17 [(0, .ref (adX X 118)), (1, .int l1), (2, .int l2)] [] s := by
  unfold b_X5_addressOf_17
  refine j_iload_n C dX5_addressOf_17 1 rfl rfl ?_
  refine j_iconst (v := (2 : Int32)) C dX5_addressOf_18 (by decide) ?_
  refine j_icmp_ne (tgt := 36) C dX5_addressOf_19 (by decide) ?_ ?_
  · refine j_sub (L' := [(0, .ref (adX X 118))]) [0] rfl ?_
    exact jb_X5_addressOf_36 C CR  n s
  · refine j_iload_n C dX5_addressOf_22 2 rfl rfl ?_
    refine j_if_lt (tgt := 36) C dX5_addressOf_23 (by decide) ?_ ?_
    · refine j_sub (L' := [(0, .ref (adX X 118))]) [0] rfl ?_
      exact jb_X5_addressOf_36 C CR  n s
    · refine j_iload_n C dX5_addressOf_26 2 rfl rfl ?_
      refine j_iconst (v := (4 : Int32)) C dX5_addressOf_27 (by decide) ?_
      refine j_icmp_ge (tgt := 36) C dX5_addressOf_28 (by decide) ?_ ?_
      · refine j_sub (L' := [(0, .ref (adX X 118))]) [0] rfl ?_
        exact jb_X5_addressOf_36 C CR  n s
      · refine j_bipush (v := (64 : Int32)) C dX5_addressOf_31 (by decide) ?_
        refine j_iload_n C dX5_addressOf_33 2 rfl rfl ?_
        refine j_iadd C dX5_addressOf_34 ?_
        exact j_iret C CR dX5_addressOf_35
set_option maxHeartbeats 4000000 in
theorem c_X5_addressOf (n : Nat) (l1 : Int32) (l2 : Int32) (s : Mem) : CTi YC yX5_addressOf cX5_addressOf 3 (some .int) rm_X5_addressOf (fun ad => [.ref (ad 118), .int l1, .int l2]) s (f_X5_addressOf n l1 l2 s) := by
  refine CTi_of (by decide) (fun _ => Nat.le_of_ble_eq_true rfl) (fun X C CR => ?_)
  show J YC X 3 (f_X5_addressOf n l1 l2 s) 0 [(0, .ref (adX X 118)), (1, .int l1), (2, .int l2)] [] s
  unfold f_X5_addressOf
  refine j_iload_n C dX5_addressOf_0 1 rfl rfl ?_
  refine j_iconst (v := (1 : Int32)) C dX5_addressOf_1 (by decide) ?_
  refine j_icmp_ne (tgt := 17) C dX5_addressOf_2 (by decide) ?_ ?_
  · exact jb_X5_addressOf_17 C CR  n l1 l2 s
  · refine j_iload_n C dX5_addressOf_5 2 rfl rfl ?_
    refine j_if_lt (tgt := 17) C dX5_addressOf_6 (by decide) ?_ ?_
    · exact jb_X5_addressOf_17 C CR  n l1 l2 s
    · refine j_iload_n C dX5_addressOf_9 2 rfl rfl ?_
      refine j_bipush (v := (64 : Int32)) C dX5_addressOf_10 (by decide) ?_
      refine j_icmp_ge (tgt := 17) C dX5_addressOf_12 (by decide) ?_ ?_
      · exact jb_X5_addressOf_17 C CR  n l1 l2 s
      · refine j_iload_n C dX5_addressOf_15 2 rfl rfl ?_
        exact j_iret C CR dX5_addressOf_16
set_option maxHeartbeats 4000000 in
theorem c_X5_readTarget (n : Nat) (r1 : Nat) (h_r1 : isO 6 r1) (s : Mem) : CTi YC yX5_readTarget cX5_readTarget 3 (some .int) rm_X5_readTarget (fun ad => [.ref (ad 118), .ref (ad r1)]) s (f_X5_readTarget n r1 s) := by
  refine CTi_of (by decide) (fun _ => Nat.le_of_ble_eq_true rfl) (fun X C CR => ?_)
  show J YC X 3 (f_X5_readTarget n r1 s) 0 [(0, .ref (adX X 118)), (1, .ref (adX X r1))] [] s
  unfold f_X5_readTarget
  refine j_aload_n C dX5_readTarget_0 0 rfl rfl ?_
  refine j_aload_n C dX5_readTarget_1 1 rfl rfl ?_
  refine j_callVi C (c_X5_nextByte n r1 h_r1 s) cw_RX5_162 ⟨rfl, rfl, Nat.le_of_ble_eq_true rfl, Nat.le_of_ble_eq_true rfl⟩ 118 kX5 kc_118 lc_118 [.ref (adX X r1)] [] rfl rfl rfl (Nat.le_of_ble_eq_true rfl) dX5_readTarget_2 (fun x2 s1 => ?_)
  refine j_istore_n (L' := [(0, .ref (adX X 118)), (1, .ref (adX X r1)), (2, .int x2)]) C dX5_readTarget_5 rfl (by decide) [1, 2, 0] rfl ?_
  refine j_aload_n C dX5_readTarget_6 0 rfl rfl ?_
  refine j_iload_n C dX5_readTarget_7 2 rfl rfl ?_
  refine j_aload_n C dX5_readTarget_8 0 rfl rfl ?_
  refine j_aload_n C dX5_readTarget_9 1 rfl rfl ?_
  refine j_callVi C (c_X5_nextByte n r1 h_r1 s1) cw_RX5_162 ⟨rfl, rfl, Nat.le_of_ble_eq_true rfl, Nat.le_of_ble_eq_true rfl⟩ 118 kX5 kc_118 lc_118 [.ref (adX X r1)] [.int x2, .ref (adX X 118)] rfl rfl rfl (Nat.le_of_ble_eq_true rfl) dX5_readTarget_10 (fun x4 s3 => ?_)
  refine j_callVi C (c_X5_addressOf n x2 x4 s3) cw_RX5_202 ⟨rfl, rfl, Nat.le_of_ble_eq_true rfl, Nat.le_of_ble_eq_true rfl⟩ 118 kX5 kc_118 lc_118 [.int x2, .int x4] [] rfl rfl rfl (Nat.le_of_ble_eq_true rfl) dX5_readTarget_13 (fun x6 s5 => ?_)
  exact j_iret C CR dX5_readTarget_16
set_option maxHeartbeats 4000000 in
theorem jb_X5_readValue_53 {X : CtxT (Int32 × Mem)} (C : Cx YC X 5 cX5_readValue RX5 (some .int) rm_X5_readValue) (CR : CRi YC X)  (n : Nat)  (t0 : Int32) (s : Mem) : J YC X 5 (b_X5_readValue_53  n  t0 s) 53 [] [.int t0] s := by
  unfold b_X5_readValue_53
  exact j_iret C CR dX5_readValue_53
set_option maxHeartbeats 4000000 in
theorem c_X5_readValue (n : Nat) (r1 : Nat) (h_r1 : isO 6 r1) (s : Mem) : CTi YC yX5_readValue cX5_readValue 5 (some .int) rm_X5_readValue (fun ad => [.ref (ad 118), .ref (ad r1)]) s (f_X5_readValue n r1 s) := by
  refine CTi_of (by decide) (fun _ => Nat.le_of_ble_eq_true rfl) (fun X C CR => ?_)
  show J YC X 5 (f_X5_readValue n r1 s) 0 [(0, .ref (adX X 118)), (1, .ref (adX X r1))] [] s
  unfold f_X5_readValue
  refine j_aload_n C dX5_readValue_0 0 rfl rfl ?_
  refine j_aload_n C dX5_readValue_1 1 rfl rfl ?_
  refine j_callVi C (c_X5_nextByte n r1 h_r1 s) cw_RX5_162 ⟨rfl, rfl, Nat.le_of_ble_eq_true rfl, Nat.le_of_ble_eq_true rfl⟩ 118 kX5 kc_118 lc_118 [.ref (adX X r1)] [] rfl rfl rfl (Nat.le_of_ble_eq_true rfl) dX5_readValue_2 (fun x2 s1 => ?_)
  refine j_istore_n (L' := [(0, .ref (adX X 118)), (1, .ref (adX X r1)), (2, .int x2)]) C dX5_readValue_5 rfl (by decide) [1, 2, 0] rfl ?_
  refine j_aload_n C dX5_readValue_6 0 rfl rfl ?_
  refine j_aload_n C dX5_readValue_7 1 rfl rfl ?_
  refine j_callVi C (c_X5_nextByte n r1 h_r1 s1) cw_RX5_162 ⟨rfl, rfl, Nat.le_of_ble_eq_true rfl, Nat.le_of_ble_eq_true rfl⟩ 118 kX5 kc_118 lc_118 [.ref (adX X r1)] [] rfl rfl rfl (Nat.le_of_ble_eq_true rfl) dX5_readValue_8 (fun x4 s3 => ?_)
  refine j_istore_n (L' := [(0, .ref (adX X 118)), (1, .ref (adX X r1)), (2, .int x2), (3, .int x4)]) C dX5_readValue_11 rfl (by decide) [1, 2, 3, 0] rfl ?_
  refine j_iload_n C dX5_readValue_12 2 rfl rfl ?_
  refine j_if_ne (tgt := 28) C dX5_readValue_13 (by decide) ?_ ?_
  · refine j_aload_n C dX5_readValue_28 0 rfl rfl ?_
    refine j_iload_n C dX5_readValue_29 2 rfl rfl ?_
    refine j_iload_n C dX5_readValue_30 3 rfl rfl ?_
    refine j_callVi C (c_X5_addressOf n x2 x4 s3) cw_RX5_202 ⟨rfl, rfl, Nat.le_of_ble_eq_true rfl, Nat.le_of_ble_eq_true rfl⟩ 118 kX5 kc_118 lc_118 [.int x2, .int x4] [] rfl rfl rfl (Nat.le_of_ble_eq_true rfl) dX5_readValue_31 (fun x6 s5 => ?_)
    refine j_istore (L' := [(0, .ref (adX X 118)), (1, .ref (adX X r1)), (2, .int x2), (3, .int x4), (4, .int x6)]) C dX5_readValue_34 (by decide) [1, 2, 3, 4, 0] rfl ?_
    refine j_iload C dX5_readValue_36 4 rfl ?_
    refine j_iconst (v := (-1 : Int32)) C dX5_readValue_38 (by decide) ?_
    refine j_icmp_ne (tgt := 46) C dX5_readValue_39 (by decide) ?_ ?_
    · refine j_aload_n C dX5_readValue_46 0 rfl rfl ?_
      refine j_aload_n C dX5_readValue_47 1 rfl rfl ?_
      refine j_iload C dX5_readValue_48 4 rfl ?_
      refine j_callVi C (c_X5_fetch n r1 h_r1 x6 s5) cw_RX5_205 ⟨rfl, rfl, Nat.le_of_ble_eq_true rfl, Nat.le_of_ble_eq_true rfl⟩ 118 kX5 kc_118 lc_118 [.ref (adX X r1), .int x6] [] rfl rfl rfl (Nat.le_of_ble_eq_true rfl) dX5_readValue_50 (fun x8 s7 => ?_)
      refine j_sub (L' := []) [] rfl ?_
      exact jb_X5_readValue_53 C CR  n x8 s7
    · refine j_iconst (v := (0 : Int32)) C dX5_readValue_42 (by decide) ?_
      refine j_goto (tgt := 53) C dX5_readValue_43 (by decide) ?_
      refine j_sub (L' := []) [] rfl ?_
      exact jb_X5_readValue_53 C CR  n (0 : Int32) s5
  · refine j_iload_n C dX5_readValue_16 3 rfl rfl ?_
    refine j_bipush (v := (8 : Int32)) C dX5_readValue_17 (by decide) ?_
    refine j_ishl C dX5_readValue_19 ?_
    refine j_aload_n C dX5_readValue_20 0 rfl rfl ?_
    refine j_aload_n C dX5_readValue_21 1 rfl rfl ?_
    refine j_callVi C (c_X5_nextByte n r1 h_r1 s3) cw_RX5_162 ⟨rfl, rfl, Nat.le_of_ble_eq_true rfl, Nat.le_of_ble_eq_true rfl⟩ 118 kX5 kc_118 lc_118 [.ref (adX X r1)] [.int (x4 <<< ((8 : Int32) &&& 31))] rfl rfl rfl (Nat.le_of_ble_eq_true rfl) dX5_readValue_22 (fun x10 s9 => ?_)
    refine j_ior C dX5_readValue_25 ?_
    refine j_i2s C dX5_readValue_26 ?_
    exact j_iret C CR dX5_readValue_27
set_option maxHeartbeats 4000000 in
theorem jb_X5_readOrder_21 {X : CtxT (Int32 × Mem)} (C : Cx YC X 4 cX5_readOrder RX5 (some .int) rm_X5_readOrder) (CR : CRi YC X)  (n : Nat)   (s : Mem) : J YC X 4 (b_X5_readOrder_21  n   s) 21 [] [] s := by
  unfold b_X5_readOrder_21
  refine j_iconst (v := (-1 : Int32)) C dX5_readOrder_21 (by decide) ?_
  exact j_iret C CR dX5_readOrder_22
set_option maxHeartbeats 4000000 in
theorem jb_X5_readOrder_97 {X : CtxT (Int32 × Mem)} (C : Cx YC X 4 cX5_readOrder RX5 (some .int) rm_X5_readOrder) (CR : CRi YC X)  (n : Nat)  (t0 : Int32) (s : Mem) : J YC X 4 (b_X5_readOrder_97  n  t0 s) 97 [] [.int t0] s := by
  unfold b_X5_readOrder_97
  exact j_iret C CR dX5_readOrder_97
set_option maxHeartbeats 4000000 in
theorem jb_X5_readOrder_85 {X : CtxT (Int32 × Mem)} (C : Cx YC X 4 cX5_readOrder RX5 (some .int) rm_X5_readOrder) (CR : CRi YC X)  (n : Nat)  (l2 : Int32) (s : Mem) : J YC X 4 (b_X5_readOrder_85  n  l2 s) 85 [(0, .ref (adX X 118)), (2, .int l2)] [] s := by
  unfold b_X5_readOrder_85
  refine j_aload_n C dX5_readOrder_85 0 rfl rfl ?_
  refine j_get C kX5 kc_118 lc_118 7 (by decide) tw_451 rc_5_7 dX5_readOrder_86 ?_
  refine j_if_eq (tgt := 96) C dX5_readOrder_89 (by decide) ?_ ?_
  · refine j_iload_n C dX5_readOrder_96 1 rfl rfl ?_
    refine j_sub (L' := []) [] rfl ?_
    exact jb_X5_readOrder_97 C CR  n l2 s
  · refine j_iconst (v := (-1 : Int32)) C dX5_readOrder_92 (by decide) ?_
    refine j_goto (tgt := 97) C dX5_readOrder_93 (by decide) ?_
    refine j_sub (L' := []) [] rfl ?_
    exact jb_X5_readOrder_97 C CR  n (-1 : Int32) s
set_option maxHeartbeats 4000000 in
theorem jb_X5_readOrder_42 {X : CtxT (Int32 × Mem)} (C : Cx YC X 4 cX5_readOrder RX5 (some .int) rm_X5_readOrder) (CR : CRi YC X)  (n : Nat) (k42 : Nat → Int32 → Int32 → Mem → Option (Int32 × Mem)) (hk42 : ∀ (r1 : Nat) (h_r1 : isO 6 r1) (l2 : Int32) (l3 : Int32) (s : Mem), J YC X 4 (k42 r1 l2 l3 s) 42 [(0, .ref (adX X 118)), (1, .ref (adX X r1)), (2, .int l2), (3, .int l3)] [] s) (r1 : Nat) (h_r1 : isO 6 r1) (l2 : Int32) (l3 : Int32) (s : Mem) : J YC X 4 (b_X5_readOrder_42  n k42 r1 l2 l3 s) 42 [(0, .ref (adX X 118)), (1, .ref (adX X r1)), (2, .int l2), (3, .int l3)] [] s := by
  unfold b_X5_readOrder_42
  refine j_iload_n C dX5_readOrder_42 3 rfl rfl ?_
  refine j_gets (f := tbV) C C.2.2.2.2.2.2.2.2.2.2.1.2.2.1 (by decide +kernel) dX5_readOrder_43 (fun t_1 h_t_1 => ?_)
  refine j_iload_n C dX5_readOrder_46 2 rfl rfl ?_
  refine j_tald C h_t_1 dX5_readOrder_47 ?_
  refine j_icmp_ge (tgt := 68) C dX5_readOrder_48 (by decide) ?_ ?_
  · refine j_gets (f := tbJ) C C.2.2.2.2.2.2.2.2.2.2.1.2.2.2 (by decide +kernel) dX5_readOrder_68 (fun t_2 h_t_2 => ?_)
    refine j_iload_n C dX5_readOrder_71 2 rfl rfl ?_
    refine j_tald C h_t_2 dX5_readOrder_72 ?_
    refine j_if_eq (tgt := 85) C dX5_readOrder_73 (by decide) ?_ ?_
    · refine j_sub (L' := [(0, .ref (adX X 118)), (2, .int l2)]) [0, 2] rfl ?_
      exact jb_X5_readOrder_85 C CR  n l2 s
    · refine j_aload_n C dX5_readOrder_76 0 rfl rfl ?_
      refine j_aload_n C dX5_readOrder_77 0 rfl rfl ?_
      refine j_aload_n C dX5_readOrder_78 1 rfl rfl ?_
      refine j_callVi C (c_X5_readJump n r1 h_r1 s) cw_RX5_183 ⟨rfl, rfl, Nat.le_of_ble_eq_true rfl, Nat.le_of_ble_eq_true rfl⟩ 118 kX5 kc_118 lc_118 [.ref (adX X r1)] [.ref (adX X 118)] rfl rfl rfl (Nat.le_of_ble_eq_true rfl) dX5_readOrder_79 (fun x4 s3 => ?_)
      refine j_put C kX5 kc_118 lc_118 6 (by decide) tw_450 rc_5_6 rfl rfl dX5_readOrder_82 (fun s5 => ?_)
      refine j_sub (L' := [(0, .ref (adX X 118)), (2, .int l2)]) [0, 2] rfl ?_
      exact jb_X5_readOrder_85 C CR  n l2 s5
  · refine j_aload_n C dX5_readOrder_51 0 rfl rfl ?_
    refine j_getR (z := 119) C kX5 kc_118 lc_118 4 (by decide) tw_448 rc_5_4 rfl dX5_readOrder_52 ?_
    refine j_iload_n C dX5_readOrder_55 3 rfl rfl ?_
    refine j_aload_n C dX5_readOrder_56 0 rfl rfl ?_
    refine j_aload_n C dX5_readOrder_57 1 rfl rfl ?_
    refine j_callVi C (c_X5_readValue n r1 h_r1 s) cw_RX5_177 ⟨rfl, rfl, Nat.le_of_ble_eq_true rfl, Nat.le_of_ble_eq_true rfl⟩ 118 kX5 kc_118 lc_118 [.ref (adX X r1)] [.int l3, .ref (adX X 119)] rfl rfl rfl (Nat.le_of_ble_eq_true rfl) dX5_readOrder_58 (fun x7 s6 => ?_)
    refine j_iast C kc_119 lc_119 dX5_readOrder_61 (fun s8 => ?_)
    refine j_iinc (L2 := fun x9 => [(0, .ref (adX X 118)), (1, .ref (adX X r1)), (2, .int l2), (3, .int x9)]) C dX5_readOrder_62 3 rfl (by decide) [1, 2, 3, 0] (fun _ => rfl) (fun x9 => ?_)
    refine j_goto (tgt := 42) C dX5_readOrder_65 (by decide) ?_
    exact hk42 r1 h_r1 l2 x9 s8
theorem lb_X5_readOrder_42 {X : CtxT (Int32 × Mem)} (C : Cx YC X 4 cX5_readOrder RX5 (some .int) rm_X5_readOrder) (CR : CRi YC X)  : ∀ (n : Nat) (r1 : Nat) (h_r1 : isO 6 r1) (l2 : Int32) (l3 : Int32) (s : Mem), J YC X 4 (itr3 (b_X5_readOrder_42) n r1 l2 l3 s) 42 [(0, .ref (adX X 118)), (1, .ref (adX X r1)), (2, .int l2), (3, .int l3)] [] s := by
  intro n
  induction n with
  | zero => intros; exact j_none
  | succ n ih =>
    intro r1 h_r1 l2 l3 s
    exact jb_X5_readOrder_42 C CR  n _ ih r1 h_r1 l2 l3 s
set_option maxHeartbeats 4000000 in
theorem jb_X5_readOrder_40 {X : CtxT (Int32 × Mem)} (C : Cx YC X 4 cX5_readOrder RX5 (some .int) rm_X5_readOrder) (CR : CRi YC X)  (n : Nat)  (r1 : Nat) (h_r1 : isO 6 r1) (l2 : Int32) (s : Mem) : J YC X 4 (b_X5_readOrder_40  n  r1 l2 s) 40 [(0, .ref (adX X 118)), (1, .ref (adX X r1)), (2, .int l2)] [] s := by
  unfold b_X5_readOrder_40
  refine j_iconst (v := (0 : Int32)) C dX5_readOrder_40 (by decide) ?_
  refine j_istore_n (L' := [(0, .ref (adX X 118)), (1, .ref (adX X r1)), (2, .int l2), (3, .int (0 : Int32))]) C dX5_readOrder_41 rfl (by decide) [1, 2, 3, 0] rfl ?_
  exact lb_X5_readOrder_42 C CR  n r1 h_r1 l2 (0 : Int32) s
set_option maxHeartbeats 4000000 in
theorem c_X5_readOrder (n : Nat) (r1 : Nat) (h_r1 : isO 6 r1) (s : Mem) : CTi YC yX5_readOrder cX5_readOrder 4 (some .int) rm_X5_readOrder (fun ad => [.ref (ad 118), .ref (ad r1)]) s (f_X5_readOrder n r1 s) := by
  refine CTi_of (by decide) (fun _ => Nat.le_of_ble_eq_true rfl) (fun X C CR => ?_)
  show J YC X 4 (f_X5_readOrder n r1 s) 0 [(0, .ref (adX X 118)), (1, .ref (adX X r1))] [] s
  unfold f_X5_readOrder
  refine j_aload_n C dX5_readOrder_0 0 rfl rfl ?_
  refine j_iconst (v := (0 : Int32)) C dX5_readOrder_1 (by decide) ?_
  refine j_putZ C kX5 kc_118 lc_118 7 (by decide) tw_451 rc_5_7 rfl rfl dX5_readOrder_2 (fun s1 => ?_)
  refine j_aload_n C dX5_readOrder_5 0 rfl rfl ?_
  refine j_aload_n C dX5_readOrder_6 1 rfl rfl ?_
  refine j_callVi C (c_X5_nextByte n r1 h_r1 s1) cw_RX5_162 ⟨rfl, rfl, Nat.le_of_ble_eq_true rfl, Nat.le_of_ble_eq_true rfl⟩ 118 kX5 kc_118 lc_118 [.ref (adX X r1)] [] rfl rfl rfl (Nat.le_of_ble_eq_true rfl) dX5_readOrder_7 (fun x3 s2 => ?_)
  refine j_istore_n (L' := [(0, .ref (adX X 118)), (1, .ref (adX X r1)), (2, .int x3)]) C dX5_readOrder_10 rfl (by decide) [1, 2, 0] rfl ?_
  refine j_iload_n C dX5_readOrder_11 2 rfl rfl ?_
  refine j_if_lt (tgt := 21) C dX5_readOrder_12 (by decide) ?_ ?_
  · refine j_sub (L' := []) [] rfl ?_
    exact jb_X5_readOrder_21 C CR  n s2
  · refine j_iload_n C dX5_readOrder_15 2 rfl rfl ?_
    refine j_bipush (v := (34 : Int32)) C dX5_readOrder_16 (by decide) ?_
    refine j_icmp_lt (tgt := 23) C dX5_readOrder_18 (by decide) ?_ ?_
    · refine j_gets (f := tbT) C C.2.2.2.2.2.2.2.2.2.2.1.2.1 (by decide +kernel) dX5_readOrder_23 (fun t_4 h_t_4 => ?_)
      refine j_iload_n C dX5_readOrder_26 2 rfl rfl ?_
      refine j_tald C h_t_4 dX5_readOrder_27 ?_
      refine j_if_eq (tgt := 40) C dX5_readOrder_28 (by decide) ?_ ?_
      · exact jb_X5_readOrder_40 C CR  n r1 h_r1 x3 s2
      · refine j_aload_n C dX5_readOrder_31 0 rfl rfl ?_
        refine j_aload_n C dX5_readOrder_32 0 rfl rfl ?_
        refine j_aload_n C dX5_readOrder_33 1 rfl rfl ?_
        refine j_callVi C (c_X5_readTarget n r1 h_r1 s2) cw_RX5_168 ⟨rfl, rfl, Nat.le_of_ble_eq_true rfl, Nat.le_of_ble_eq_true rfl⟩ 118 kX5 kc_118 lc_118 [.ref (adX X r1)] [.ref (adX X 118)] rfl rfl rfl (Nat.le_of_ble_eq_true rfl) dX5_readOrder_34 (fun x6 s5 => ?_)
        refine j_put C kX5 kc_118 lc_118 5 (by decide) tw_449 rc_5_5 rfl rfl dX5_readOrder_37 (fun s7 => ?_)
        exact jb_X5_readOrder_40 C CR  n r1 h_r1 x3 s7
    · refine j_sub (L' := []) [] rfl ?_
      exact jb_X5_readOrder_21 C CR  n s2
set_option maxHeartbeats 4000000 in
theorem jb_X5_turn_48 {X : CtxT (Int32 × Mem)} (C : Cx YC X 5 cX5_turn RX5 (some .int) rm_X5_turn) (CR : CRi YC X) (k20 : Nat → Int32 → Mem → Option (Int32 × Mem)) (hk20 : ∀ (r1 : Nat) (h_r1 : isO 6 r1) (l2 : Int32) (s : Mem), J YC X 5 (k20 r1 l2 s) 20 [(0, .ref (adX X 118)), (1, .ref (adX X r1)), (2, .int l2)] [] s) (n : Nat)  (r1 : Nat) (h_r1 : isO 6 r1) (l2 : Int32) (t0 : Int32) (s : Mem) : J YC X 5 (b_X5_turn_48 k20 n  r1 l2 t0 s) 48 [(0, .ref (adX X 118)), (1, .ref (adX X r1)), (2, .int l2)] [.int t0] s := by
  unfold b_X5_turn_48
  refine j_istore (L' := [(0, .ref (adX X 118)), (1, .ref (adX X r1)), (2, .int l2), (4, .int t0)]) C dX5_turn_48 (by decide) [1, 2, 3, 0] rfl ?_
  refine j_iload C dX5_turn_50 3 rfl ?_
  refine j_iconst (v := (2 : Int32)) C dX5_turn_52 (by decide) ?_
  refine j_icmp_ne (tgt := 75) C dX5_turn_53 (by decide) ?_ ?_
  · refine j_iload C dX5_turn_75 3 rfl ?_
    refine j_iconst (v := (1 : Int32)) C dX5_turn_77 (by decide) ?_
    refine j_icmp_ne (tgt := 85) C dX5_turn_78 (by decide) ?_ ?_
    · refine j_iinc (L2 := fun x1 => [(0, .ref (adX X 118)), (1, .ref (adX X r1)), (2, .int x1), (4, .int t0)]) C dX5_turn_85 2 rfl (by decide) [1, 2, 0, 3] (fun _ => rfl) (fun x1 => ?_)
      refine j_goto (tgt := 20) C dX5_turn_88 (by decide) ?_
      refine j_sub (L' := [(0, .ref (adX X 118)), (1, .ref (adX X r1)), (2, .int x1)]) [0, 1, 2] rfl ?_
      exact hk20 r1 h_r1 x1 s
    · refine j_iload_n C dX5_turn_81 2 rfl rfl ?_
      refine j_iconst (v := (1 : Int32)) C dX5_turn_82 (by decide) ?_
      refine j_iadd C dX5_turn_83 ?_
      exact j_iret C CR dX5_turn_84
  · refine j_aload_n C dX5_turn_56 1 rfl rfl ?_
    refine j_callVn C (c_X6_release n r1 h_r1 s) cw_RX5_117 ⟨rfl, rfl, Nat.le_of_ble_eq_true rfl, Nat.le_of_ble_eq_true rfl⟩ r1 kX6 (pk_6_0 _ h_r1) (pl_6_0 _ h_r1) [] [] rfl rfl rfl (Nat.le_of_ble_eq_true rfl) dX5_turn_57 (fun s2 => ?_)
    refine j_aload_n C dX5_turn_60 0 rfl rfl ?_
    refine j_getA C kX5 kc_118 lc_118 2 (by decide) tw_446 rc_5_2 dX5_turn_61 ?_
    refine j_dup C dX5_turn_64 rfl ?_
    refine j_get C kX7 kc_33 lc_33 3 (by decide) tw_324 rc_7_3 dX5_turn_65 ?_
    refine j_iconst (v := (1 : Int32)) C dX5_turn_68 (by decide) ?_
    refine j_iadd C dX5_turn_69 ?_
    refine j_put C kX7 kc_33 lc_33 3 (by decide) tw_324 rc_7_3 rfl rfl dX5_turn_70 (fun s3 => ?_)
    refine j_iload_n C dX5_turn_73 2 rfl rfl ?_
    exact j_iret C CR dX5_turn_74
set_option maxHeartbeats 4000000 in
theorem jb_X5_turn_20 {X : CtxT (Int32 × Mem)} (C : Cx YC X 5 cX5_turn RX5 (some .int) rm_X5_turn) (CR : CRi YC X)  (n : Nat) (k20 : Nat → Int32 → Mem → Option (Int32 × Mem)) (hk20 : ∀ (r1 : Nat) (h_r1 : isO 6 r1) (l2 : Int32) (s : Mem), J YC X 5 (k20 r1 l2 s) 20 [(0, .ref (adX X 118)), (1, .ref (adX X r1)), (2, .int l2)] [] s) (r1 : Nat) (h_r1 : isO 6 r1) (l2 : Int32) (s : Mem) : J YC X 5 (b_X5_turn_20  n k20 r1 l2 s) 20 [(0, .ref (adX X 118)), (1, .ref (adX X r1)), (2, .int l2)] [] s := by
  unfold b_X5_turn_20
  refine j_iload_n C dX5_turn_20 2 rfl rfl ?_
  refine j_sipush (v := (300 : Int32)) C dX5_turn_21 (by decide) ?_
  refine j_icmp_ge (tgt := 91) C dX5_turn_24 (by decide) ?_ ?_
  · refine j_sipush (v := (300 : Int32)) C dX5_turn_91 (by decide) ?_
    exact j_iret C CR dX5_turn_94
  · refine j_aload_n C dX5_turn_27 0 rfl rfl ?_
    refine j_aload_n C dX5_turn_28 1 rfl rfl ?_
    refine j_callVi C (c_X5_readOrder n r1 h_r1 s) cw_RX5_110 ⟨rfl, rfl, Nat.le_of_ble_eq_true rfl, Nat.le_of_ble_eq_true rfl⟩ 118 kX5 kc_118 lc_118 [.ref (adX X r1)] [] rfl rfl rfl (Nat.le_of_ble_eq_true rfl) dX5_turn_29 (fun x2 s1 => ?_)
    refine j_istore_n (L' := [(0, .ref (adX X 118)), (1, .ref (adX X r1)), (2, .int l2), (3, .int x2)]) C dX5_turn_32 rfl (by decide) [1, 2, 3, 0] rfl ?_
    refine j_iload_n C dX5_turn_33 3 rfl rfl ?_
    refine j_iconst (v := (-1 : Int32)) C dX5_turn_34 (by decide) ?_
    refine j_icmp_ne (tgt := 42) C dX5_turn_35 (by decide) ?_ ?_
    · refine j_aload_n C dX5_turn_42 0 rfl rfl ?_
      refine j_aload_n C dX5_turn_43 1 rfl rfl ?_
      refine j_iload_n C dX5_turn_44 3 rfl rfl ?_
      refine j_callVi C (c_X5_perform n r1 h_r1 x2 s1) cw_RX5_113 ⟨rfl, rfl, Nat.le_of_ble_eq_true rfl, Nat.le_of_ble_eq_true rfl⟩ 118 kX5 kc_118 lc_118 [.ref (adX X r1), .int x2] [] rfl rfl rfl (Nat.le_of_ble_eq_true rfl) dX5_turn_45 (fun x4 s3 => ?_)
      refine j_sub (L' := [(0, .ref (adX X 118)), (1, .ref (adX X r1)), (2, .int l2)]) [0, 1, 2] rfl ?_
      exact jb_X5_turn_48 C CR k20 hk20 n r1 h_r1 l2 x4 s3
    · refine j_iconst (v := (2 : Int32)) C dX5_turn_38 (by decide) ?_
      refine j_goto (tgt := 48) C dX5_turn_39 (by decide) ?_
      refine j_sub (L' := [(0, .ref (adX X 118)), (1, .ref (adX X r1)), (2, .int l2)]) [0, 1, 2] rfl ?_
      exact jb_X5_turn_48 C CR k20 hk20 n r1 h_r1 l2 (2 : Int32) s1
theorem lb_X5_turn_20 {X : CtxT (Int32 × Mem)} (C : Cx YC X 5 cX5_turn RX5 (some .int) rm_X5_turn) (CR : CRi YC X)  : ∀ (n : Nat) (r1 : Nat) (h_r1 : isO 6 r1) (l2 : Int32) (s : Mem), J YC X 5 (itr2 (b_X5_turn_20) n r1 l2 s) 20 [(0, .ref (adX X 118)), (1, .ref (adX X r1)), (2, .int l2)] [] s := by
  intro n
  induction n with
  | zero => intros; exact j_none
  | succ n ih =>
    intro r1 h_r1 l2 s
    exact jb_X5_turn_20 C CR  n _ ih r1 h_r1 l2 s
set_option maxHeartbeats 4000000 in
theorem c_X5_turn (n : Nat) (r1 : Nat) (h_r1 : isO 6 r1) (s : Mem) : CTi YC yX5_turn cX5_turn 5 (some .int) rm_X5_turn (fun ad => [.ref (ad 118), .ref (ad r1)]) s (f_X5_turn n r1 s) := by
  refine CTi_of (by decide) (fun _ => Nat.le_of_ble_eq_true rfl) (fun X C CR => ?_)
  show J YC X 5 (f_X5_turn n r1 s) 0 [(0, .ref (adX X 118)), (1, .ref (adX X r1))] [] s
  unfold f_X5_turn
  refine j_aload_n C dX5_turn_0 0 rfl rfl ?_
  refine j_aload_n C dX5_turn_1 1 rfl rfl ?_
  refine j_callVi C (c_X5_comesToOrders n r1 h_r1 s) cw_RX5_99 ⟨rfl, rfl, Nat.le_of_ble_eq_true rfl, Nat.le_of_ble_eq_true rfl⟩ 118 kX5 kc_118 lc_118 [.ref (adX X r1)] [] rfl rfl rfl (Nat.le_of_ble_eq_true rfl) dX5_turn_2 (fun x2 s1 => ?_)
  refine j_if_ne (tgt := 10) C dX5_turn_5 (by decide) ?_ ?_
  · refine j_aload_n C dX5_turn_10 0 rfl rfl ?_
    refine j_aload_n C dX5_turn_11 1 rfl rfl ?_
    refine j_get C kX6 (pk_6_0 _ h_r1) (pl_6_0 _ h_r1) 0 (by decide) tw_247 rc_6_0 dX5_turn_12 ?_
    refine j_callVn C (c_X5_openCode n (s1 r1 0) s1) cw_RX5_106 ⟨rfl, rfl, Nat.le_of_ble_eq_true rfl, Nat.le_of_ble_eq_true rfl⟩ 118 kX5 kc_118 lc_118 [.int (s1 r1 0)] [] rfl rfl rfl (Nat.le_of_ble_eq_true rfl) dX5_turn_15 (fun s3 => ?_)
    refine j_iconst (v := (0 : Int32)) C dX5_turn_18 (by decide) ?_
    refine j_istore_n (L' := [(0, .ref (adX X 118)), (1, .ref (adX X r1)), (2, .int (0 : Int32))]) C dX5_turn_19 rfl (by decide) [1, 2, 0] rfl ?_
    exact lb_X5_turn_20 C CR  n r1 h_r1 (0 : Int32) s3
  · refine j_iconst (v := (0 : Int32)) C dX5_turn_8 (by decide) ?_
    exact j_iret C CR dX5_turn_9
set_option maxHeartbeats 4000000 in
theorem jb_X7_runsSentence_2 {X : CtxT (Int32 × Mem)} (C : Cx YC X 2 cX7_runsSentence RX7 (some .boolean) rm_X7_runsSentence) (CR : CRi YC X)  (n : Nat) (k2 : Nat → Int32 → Mem → Option (Int32 × Mem)) (hk2 : ∀ (r0 : Nat) (h_r0 : isO 7 r0) (l1 : Int32) (s : Mem), J YC X 2 (k2 r0 l1 s) 2 [(0, .ref (adX X r0)), (1, .int l1)] [] s) (r0 : Nat) (h_r0 : isO 7 r0) (l1 : Int32) (s : Mem) : J YC X 2 (b_X7_runsSentence_2  n k2 r0 l1 s) 2 [(0, .ref (adX X r0)), (1, .int l1)] [] s := by
  unfold b_X7_runsSentence_2
  refine j_iload_n C dX7_runsSentence_2 1 rfl rfl ?_
  refine j_bipush (v := (8 : Int32)) C dX7_runsSentence_3 (by decide) ?_
  refine j_icmp_ge (tgt := 28) C dX7_runsSentence_5 (by decide) ?_ ?_
  · refine j_iconst (v := (0 : Int32)) C dX7_runsSentence_28 (by decide) ?_
    exact j_zret C CR dX7_runsSentence_29
  · refine j_aload_n C dX7_runsSentence_8 0 rfl rfl ?_
    refine j_getR (z := (r0 + 7)) C kX7 (pk_7_0 _ h_r0) (pl_7_0 _ h_r0) 12 (by decide) tw_347 rc_7_12 rfl dX7_runsSentence_9 ?_
    refine j_iload_n C dX7_runsSentence_12 1 rfl rfl ?_
    refine j_aald3 C (pk_7_7 _ h_r0) (pl_7_7 _ h_r0) dX7_runsSentence_13 (fun z1 e_z1 => ?_)
    have h_z1 : isO 6 z1 := (pe_7_7 _ h_r0 _ e_z1)
    refine j_get C kX6 (pk_6_0 _ h_z1) (pl_6_0 _ h_z1) 5 (by decide) tw_258 rc_6_5 dX7_runsSentence_14 ?_
    refine j_if_eq (tgt := 22) C dX7_runsSentence_17 (by decide) ?_ ?_
    · refine j_iinc (L2 := fun x2 => [(0, .ref (adX X r0)), (1, .int x2)]) C dX7_runsSentence_22 1 rfl (by decide) [1, 0] (fun _ => rfl) (fun x2 => ?_)
      refine j_goto (tgt := 2) C dX7_runsSentence_25 (by decide) ?_
      exact hk2 r0 h_r0 x2 s
    · refine j_iconst (v := (1 : Int32)) C dX7_runsSentence_20 (by decide) ?_
      exact j_zret C CR dX7_runsSentence_21
theorem lb_X7_runsSentence_2 {X : CtxT (Int32 × Mem)} (C : Cx YC X 2 cX7_runsSentence RX7 (some .boolean) rm_X7_runsSentence) (CR : CRi YC X)  : ∀ (n : Nat) (r0 : Nat) (h_r0 : isO 7 r0) (l1 : Int32) (s : Mem), J YC X 2 (itr2 (b_X7_runsSentence_2) n r0 l1 s) 2 [(0, .ref (adX X r0)), (1, .int l1)] [] s := by
  intro n
  induction n with
  | zero => intros; exact j_none
  | succ n ih =>
    intro r0 h_r0 l1 s
    exact jb_X7_runsSentence_2 C CR  n _ ih r0 h_r0 l1 s
set_option maxHeartbeats 4000000 in
theorem c_X7_runsSentence (n : Nat) (r0 : Nat) (h_r0 : isO 7 r0) (s : Mem) : CTi YC yX7_runsSentence cX7_runsSentence 2 (some .boolean) rm_X7_runsSentence (fun ad => [.ref (ad r0)]) s (f_X7_runsSentence n r0 s) := by
  refine CTi_of (by decide) (fun _ => Nat.le_of_ble_eq_true rfl) (fun X C CR => ?_)
  show J YC X 2 (f_X7_runsSentence n r0 s) 0 [(0, .ref (adX X r0))] [] s
  unfold f_X7_runsSentence
  refine j_iconst (v := (0 : Int32)) C dX7_runsSentence_0 (by decide) ?_
  refine j_istore_n (L' := [(0, .ref (adX X r0)), (1, .int (0 : Int32))]) C dX7_runsSentence_1 rfl (by decide) [1, 0] rfl ?_
  exact lb_X7_runsSentence_2 C CR  n r0 h_r0 (0 : Int32) s
