set_option maxHeartbeats 4000000 in
theorem jb_X7_copyFrom_169 {X : CtxT Mem} (C : Cx YC X 3 cX7_copyFrom RX7 none rm_X7_copyFrom) (CR : CRn YC X)  (n : Nat) (k169 : Nat → Nat → Int32 → Mem → Option Mem) (hk169 : ∀ (r0 : Nat) (h_r0 : isO 7 r0) (r1 : Nat) (h_r1 : isO 7 r1) (l2 : Int32) (s : Mem), J YC X 3 (k169 r0 r1 l2 s) 169 [(0, .ref (adX X r0)), (1, .ref (adX X r1)), (2, .int l2)] [] s) (r0 : Nat) (h_r0 : isO 7 r0) (r1 : Nat) (h_r1 : isO 7 r1) (l2 : Int32) (s : Mem) : J YC X 3 (b_X7_copyFrom_169  n k169 r0 r1 l2 s) 169 [(0, .ref (adX X r0)), (1, .ref (adX X r1)), (2, .int l2)] [] s := by
  unfold b_X7_copyFrom_169
  refine j_iload_n C dX7_copyFrom_169 2 rfl rfl ?_
  refine j_bipush (v := (12 : Int32)) C dX7_copyFrom_170 (by decide) ?_
  refine j_icmp_gt (tgt := 196) C dX7_copyFrom_172 (by decide) ?_ ?_
  · exact j_vret C CR dX7_copyFrom_196
  · refine j_aload_n C dX7_copyFrom_175 0 rfl rfl ?_
    refine j_getR (z := (r0 + 8)) C kX7 (pk_7_0 _ h_r0) (pl_7_0 _ h_r0) 13 (by decide) tw_350 rc_7_13 rfl dX7_copyFrom_176 ?_
    refine j_iload_n C dX7_copyFrom_179 2 rfl rfl ?_
    refine j_aald4 C (pk_7_8 _ h_r0) (pl_7_8 _ h_r0) dX7_copyFrom_180 (fun z1 e_z1 => ?_)
    have h_z1 : isO 0 z1 := (pe_7_8 _ h_r0 _ e_z1)
    refine j_aload_n C dX7_copyFrom_181 1 rfl rfl ?_
    refine j_getR (z := (r1 + 8)) C kX7 (pk_7_0 _ h_r1) (pl_7_0 _ h_r1) 13 (by decide) tw_350 rc_7_13 rfl dX7_copyFrom_182 ?_
    refine j_iload_n C dX7_copyFrom_185 2 rfl rfl ?_
    refine j_aald4 C (pk_7_8 _ h_r1) (pl_7_8 _ h_r1) dX7_copyFrom_186 (fun z2 e_z2 => ?_)
    have h_z2 : isO 0 z2 := (pe_7_8 _ h_r1 _ e_z2)
    refine j_callVn C (c_X0_copyFrom n z1 h_z1 z2 h_z2 s) cw_RX7_114 ⟨rfl, rfl, Nat.le_of_ble_eq_true rfl, Nat.le_of_ble_eq_true rfl⟩ z1 kX0 (pk_0_0 _ h_z1) (pl_0_0 _ h_z1) [.ref (adX X z2)] [] rfl rfl rfl (Nat.le_of_ble_eq_true rfl) dX7_copyFrom_187 (fun s3 => ?_)
    refine j_iinc (L2 := fun x4 => [(0, .ref (adX X r0)), (1, .ref (adX X r1)), (2, .int x4)]) C dX7_copyFrom_190 2 rfl (by decide) [1, 2, 0] (fun _ => rfl) (fun x4 => ?_)
    refine j_goto (tgt := 169) C dX7_copyFrom_193 (by decide) ?_
    exact hk169 r0 h_r0 r1 h_r1 x4 s3
theorem lb_X7_copyFrom_169 {X : CtxT Mem} (C : Cx YC X 3 cX7_copyFrom RX7 none rm_X7_copyFrom) (CR : CRn YC X)  : ∀ (n : Nat) (r0 : Nat) (h_r0 : isO 7 r0) (r1 : Nat) (h_r1 : isO 7 r1) (l2 : Int32) (s : Mem), J YC X 3 (itr3 (b_X7_copyFrom_169) n r0 r1 l2 s) 169 [(0, .ref (adX X r0)), (1, .ref (adX X r1)), (2, .int l2)] [] s := by
  intro n
  induction n with
  | zero => intros; exact j_none
  | succ n ih =>
    intro r0 h_r0 r1 h_r1 l2 s
    exact jb_X7_copyFrom_169 C CR  n _ ih r0 h_r0 r1 h_r1 l2 s
set_option maxHeartbeats 4000000 in
theorem jb_X7_copyFrom_140 {X : CtxT Mem} (C : Cx YC X 3 cX7_copyFrom RX7 none rm_X7_copyFrom) (CR : CRn YC X)  (n : Nat) (k140 : Nat → Nat → Int32 → Mem → Option Mem) (hk140 : ∀ (r0 : Nat) (h_r0 : isO 7 r0) (r1 : Nat) (h_r1 : isO 7 r1) (l2 : Int32) (s : Mem), J YC X 3 (k140 r0 r1 l2 s) 140 [(0, .ref (adX X r0)), (1, .ref (adX X r1)), (2, .int l2)] [] s) (r0 : Nat) (h_r0 : isO 7 r0) (r1 : Nat) (h_r1 : isO 7 r1) (l2 : Int32) (s : Mem) : J YC X 3 (b_X7_copyFrom_140  n k140 r0 r1 l2 s) 140 [(0, .ref (adX X r0)), (1, .ref (adX X r1)), (2, .int l2)] [] s := by
  unfold b_X7_copyFrom_140
  refine j_iload_n C dX7_copyFrom_140 2 rfl rfl ?_
  refine j_bipush (v := (8 : Int32)) C dX7_copyFrom_141 (by decide) ?_
  refine j_icmp_ge (tgt := 167) C dX7_copyFrom_143 (by decide) ?_ ?_
  · refine j_iconst (v := (0 : Int32)) C dX7_copyFrom_167 (by decide) ?_
    refine j_istore_n (L' := [(0, .ref (adX X r0)), (1, .ref (adX X r1)), (2, .int (0 : Int32))]) C dX7_copyFrom_168 rfl (by decide) [1, 2, 0] rfl ?_
    exact lb_X7_copyFrom_169 C CR  n r0 h_r0 r1 h_r1 (0 : Int32) s
  · refine j_aload_n C dX7_copyFrom_146 0 rfl rfl ?_
    refine j_getR (z := (r0 + 7)) C kX7 (pk_7_0 _ h_r0) (pl_7_0 _ h_r0) 12 (by decide) tw_347 rc_7_12 rfl dX7_copyFrom_147 ?_
    refine j_iload_n C dX7_copyFrom_150 2 rfl rfl ?_
    refine j_aald3 C (pk_7_7 _ h_r0) (pl_7_7 _ h_r0) dX7_copyFrom_151 (fun z1 e_z1 => ?_)
    have h_z1 : isO 6 z1 := (pe_7_7 _ h_r0 _ e_z1)
    refine j_aload_n C dX7_copyFrom_152 1 rfl rfl ?_
    refine j_getR (z := (r1 + 7)) C kX7 (pk_7_0 _ h_r1) (pl_7_0 _ h_r1) 12 (by decide) tw_347 rc_7_12 rfl dX7_copyFrom_153 ?_
    refine j_iload_n C dX7_copyFrom_156 2 rfl rfl ?_
    refine j_aald3 C (pk_7_7 _ h_r1) (pl_7_7 _ h_r1) dX7_copyFrom_157 (fun z2 e_z2 => ?_)
    have h_z2 : isO 6 z2 := (pe_7_7 _ h_r1 _ e_z2)
    refine j_callVn C (c_X6_copyFrom n z1 h_z1 z2 h_z2 s) cw_RX7_110 ⟨rfl, rfl, Nat.le_of_ble_eq_true rfl, Nat.le_of_ble_eq_true rfl⟩ z1 kX6 (pk_6_0 _ h_z1) (pl_6_0 _ h_z1) [.ref (adX X z2)] [] rfl rfl rfl (Nat.le_of_ble_eq_true rfl) dX7_copyFrom_158 (fun s3 => ?_)
    refine j_iinc (L2 := fun x4 => [(0, .ref (adX X r0)), (1, .ref (adX X r1)), (2, .int x4)]) C dX7_copyFrom_161 2 rfl (by decide) [1, 2, 0] (fun _ => rfl) (fun x4 => ?_)
    refine j_goto (tgt := 140) C dX7_copyFrom_164 (by decide) ?_
    exact hk140 r0 h_r0 r1 h_r1 x4 s3
theorem lb_X7_copyFrom_140 {X : CtxT Mem} (C : Cx YC X 3 cX7_copyFrom RX7 none rm_X7_copyFrom) (CR : CRn YC X)  : ∀ (n : Nat) (r0 : Nat) (h_r0 : isO 7 r0) (r1 : Nat) (h_r1 : isO 7 r1) (l2 : Int32) (s : Mem), J YC X 3 (itr3 (b_X7_copyFrom_140) n r0 r1 l2 s) 140 [(0, .ref (adX X r0)), (1, .ref (adX X r1)), (2, .int l2)] [] s := by
  intro n
  induction n with
  | zero => intros; exact j_none
  | succ n ih =>
    intro r0 h_r0 r1 h_r1 l2 s
    exact jb_X7_copyFrom_140 C CR  n _ ih r0 h_r0 r1 h_r1 l2 s
set_option maxHeartbeats 4000000 in
theorem c_X7_copyFrom (n : Nat) (r0 : Nat) (h_r0 : isO 7 r0) (r1 : Nat) (h_r1 : isO 7 r1) (s : Mem) : CTn YC yX7_copyFrom cX7_copyFrom 3 none rm_X7_copyFrom (fun ad => [.ref (ad r0), .ref (ad r1)]) s (f_X7_copyFrom n r0 r1 s) := by
  refine CTn_of (by decide) (fun _ => Nat.le_of_ble_eq_true rfl) (fun X C CR => ?_)
  show J YC X 3 (f_X7_copyFrom n r0 r1 s) 0 [(0, .ref (adX X r0)), (1, .ref (adX X r1))] [] s
  unfold f_X7_copyFrom
  refine j_aload_n C dX7_copyFrom_0 0 rfl rfl ?_
  refine j_aload_n C dX7_copyFrom_1 1 rfl rfl ?_
  refine j_get C kX7 (pk_7_0 _ h_r1) (pl_7_0 _ h_r1) 0 (by decide) tw_316 rc_7_0 dX7_copyFrom_2 ?_
  refine j_put C kX7 (pk_7_0 _ h_r0) (pl_7_0 _ h_r0) 0 (by decide) tw_316 rc_7_0 rfl rfl dX7_copyFrom_5 (fun s1 => ?_)
  refine j_aload_n C dX7_copyFrom_8 0 rfl rfl ?_
  refine j_aload_n C dX7_copyFrom_9 1 rfl rfl ?_
  refine j_get C kX7 (pk_7_0 _ h_r1) (pl_7_0 _ h_r1) 1 (by decide) tw_319 rc_7_1 dX7_copyFrom_10 ?_
  refine j_put C kX7 (pk_7_0 _ h_r0) (pl_7_0 _ h_r0) 1 (by decide) tw_319 rc_7_1 rfl rfl dX7_copyFrom_13 (fun s2 => ?_)
  refine j_aload_n C dX7_copyFrom_16 0 rfl rfl ?_
  refine j_aload_n C dX7_copyFrom_17 1 rfl rfl ?_
  refine j_get C kX7 (pk_7_0 _ h_r1) (pl_7_0 _ h_r1) 2 (by decide) tw_321 rc_7_2 dX7_copyFrom_18 ?_
  refine j_put C kX7 (pk_7_0 _ h_r0) (pl_7_0 _ h_r0) 2 (by decide) tw_321 rc_7_2 rfl rfl dX7_copyFrom_21 (fun s3 => ?_)
  refine j_aload_n C dX7_copyFrom_24 0 rfl rfl ?_
  refine j_aload_n C dX7_copyFrom_25 1 rfl rfl ?_
  refine j_get C kX7 (pk_7_0 _ h_r1) (pl_7_0 _ h_r1) 3 (by decide) tw_323 rc_7_3 dX7_copyFrom_26 ?_
  refine j_put C kX7 (pk_7_0 _ h_r0) (pl_7_0 _ h_r0) 3 (by decide) tw_323 rc_7_3 rfl rfl dX7_copyFrom_29 (fun s4 => ?_)
  refine j_aload_n C dX7_copyFrom_32 0 rfl rfl ?_
  refine j_aload_n C dX7_copyFrom_33 1 rfl rfl ?_
  refine j_get C kX7 (pk_7_0 _ h_r1) (pl_7_0 _ h_r1) 4 (by decide) tw_326 rc_7_4 dX7_copyFrom_34 ?_
  refine j_put C kX7 (pk_7_0 _ h_r0) (pl_7_0 _ h_r0) 4 (by decide) tw_326 rc_7_4 rfl rfl dX7_copyFrom_37 (fun s5 => ?_)
  refine j_aload_n C dX7_copyFrom_40 0 rfl rfl ?_
  refine j_aload_n C dX7_copyFrom_41 1 rfl rfl ?_
  refine j_get C kX7 (pk_7_0 _ h_r1) (pl_7_0 _ h_r1) 5 (by decide) tw_329 rc_7_5 dX7_copyFrom_42 ?_
  refine j_put C kX7 (pk_7_0 _ h_r0) (pl_7_0 _ h_r0) 5 (by decide) tw_329 rc_7_5 rfl rfl dX7_copyFrom_45 (fun s6 => ?_)
  refine j_aload_n C dX7_copyFrom_48 1 rfl rfl ?_
  refine j_getR (z := (r1 + 1)) C kX7 (pk_7_0 _ h_r1) (pl_7_0 _ h_r1) 6 (by decide) tw_332 rc_7_6 rfl dX7_copyFrom_49 ?_
  refine j_iconst (v := (0 : Int32)) C dX7_copyFrom_52 (by decide) ?_
  refine j_aload_n C dX7_copyFrom_53 0 rfl rfl ?_
  refine j_getR (z := (r0 + 1)) C kX7 (pk_7_0 _ h_r0) (pl_7_0 _ h_r0) 6 (by decide) tw_332 rc_7_6 rfl dX7_copyFrom_54 ?_
  refine j_iconst (v := (0 : Int32)) C dX7_copyFrom_57 (by decide) ?_
  refine j_bipush (v := (64 : Int32)) C dX7_copyFrom_58 (by decide) ?_
  refine j_copy C cw_RX7_104 ⟨Nat.le_of_ble_eq_true rfl, Nat.le_of_ble_eq_true rfl⟩ (pk_7_1 _ h_r1) (pl_7_1 _ h_r1) (pk_7_1 _ h_r0) (pl_7_1 _ h_r0) (Nat.le_of_ble_eq_true rfl) dX7_copyFrom_60 (fun s7 => ?_)
  refine j_aload_n C dX7_copyFrom_63 1 rfl rfl ?_
  refine j_getR (z := (r1 + 2)) C kX7 (pk_7_0 _ h_r1) (pl_7_0 _ h_r1) 7 (by decide) tw_335 rc_7_7 rfl dX7_copyFrom_64 ?_
  refine j_iconst (v := (0 : Int32)) C dX7_copyFrom_67 (by decide) ?_
  refine j_aload_n C dX7_copyFrom_68 0 rfl rfl ?_
  refine j_getR (z := (r0 + 2)) C kX7 (pk_7_0 _ h_r0) (pl_7_0 _ h_r0) 7 (by decide) tw_335 rc_7_7 rfl dX7_copyFrom_69 ?_
  refine j_iconst (v := (0 : Int32)) C dX7_copyFrom_72 (by decide) ?_
  refine j_bipush (v := (64 : Int32)) C dX7_copyFrom_73 (by decide) ?_
  refine j_copy C cw_RX7_104 ⟨Nat.le_of_ble_eq_true rfl, Nat.le_of_ble_eq_true rfl⟩ (pk_7_2 _ h_r1) (pl_7_2 _ h_r1) (pk_7_2 _ h_r0) (pl_7_2 _ h_r0) (Nat.le_of_ble_eq_true rfl) dX7_copyFrom_75 (fun s8 => ?_)
  refine j_aload_n C dX7_copyFrom_78 1 rfl rfl ?_
  refine j_getR (z := (r1 + 3)) C kX7 (pk_7_0 _ h_r1) (pl_7_0 _ h_r1) 8 (by decide) tw_337 rc_7_8 rfl dX7_copyFrom_79 ?_
  refine j_iconst (v := (0 : Int32)) C dX7_copyFrom_82 (by decide) ?_
  refine j_aload_n C dX7_copyFrom_83 0 rfl rfl ?_
  refine j_getR (z := (r0 + 3)) C kX7 (pk_7_0 _ h_r0) (pl_7_0 _ h_r0) 8 (by decide) tw_337 rc_7_8 rfl dX7_copyFrom_84 ?_
  refine j_iconst (v := (0 : Int32)) C dX7_copyFrom_87 (by decide) ?_
  refine j_bipush (v := (18 : Int32)) C dX7_copyFrom_88 (by decide) ?_
  refine j_copy C cw_RX7_104 ⟨Nat.le_of_ble_eq_true rfl, Nat.le_of_ble_eq_true rfl⟩ (pk_7_3 _ h_r1) (pl_7_3 _ h_r1) (pk_7_3 _ h_r0) (pl_7_3 _ h_r0) (Nat.le_of_ble_eq_true rfl) dX7_copyFrom_90 (fun s9 => ?_)
  refine j_aload_n C dX7_copyFrom_93 1 rfl rfl ?_
  refine j_getR (z := (r1 + 4)) C kX7 (pk_7_0 _ h_r1) (pl_7_0 _ h_r1) 9 (by decide) tw_339 rc_7_9 rfl dX7_copyFrom_94 ?_
  refine j_iconst (v := (0 : Int32)) C dX7_copyFrom_97 (by decide) ?_
  refine j_aload_n C dX7_copyFrom_98 0 rfl rfl ?_
  refine j_getR (z := (r0 + 4)) C kX7 (pk_7_0 _ h_r0) (pl_7_0 _ h_r0) 9 (by decide) tw_339 rc_7_9 rfl dX7_copyFrom_99 ?_
  refine j_iconst (v := (0 : Int32)) C dX7_copyFrom_102 (by decide) ?_
  refine j_bipush (v := (61 : Int32)) C dX7_copyFrom_103 (by decide) ?_
  refine j_copy C cw_RX7_104 ⟨Nat.le_of_ble_eq_true rfl, Nat.le_of_ble_eq_true rfl⟩ (pk_7_4 _ h_r1) (pl_7_4 _ h_r1) (pk_7_4 _ h_r0) (pl_7_4 _ h_r0) (Nat.le_of_ble_eq_true rfl) dX7_copyFrom_105 (fun s10 => ?_)
  refine j_aload_n C dX7_copyFrom_108 1 rfl rfl ?_
  refine j_getR (z := (r1 + 5)) C kX7 (pk_7_0 _ h_r1) (pl_7_0 _ h_r1) 10 (by decide) tw_342 rc_7_10 rfl dX7_copyFrom_109 ?_
  refine j_iconst (v := (0 : Int32)) C dX7_copyFrom_112 (by decide) ?_
  refine j_aload_n C dX7_copyFrom_113 0 rfl rfl ?_
  refine j_getR (z := (r0 + 5)) C kX7 (pk_7_0 _ h_r0) (pl_7_0 _ h_r0) 10 (by decide) tw_342 rc_7_10 rfl dX7_copyFrom_114 ?_
  refine j_iconst (v := (0 : Int32)) C dX7_copyFrom_117 (by decide) ?_
  refine j_bipush (v := (61 : Int32)) C dX7_copyFrom_118 (by decide) ?_
  refine j_copy C cw_RX7_104 ⟨Nat.le_of_ble_eq_true rfl, Nat.le_of_ble_eq_true rfl⟩ (pk_7_5 _ h_r1) (pl_7_5 _ h_r1) (pk_7_5 _ h_r0) (pl_7_5 _ h_r0) (Nat.le_of_ble_eq_true rfl) dX7_copyFrom_120 (fun s11 => ?_)
  refine j_aload_n C dX7_copyFrom_123 1 rfl rfl ?_
  refine j_getR (z := (r1 + 6)) C kX7 (pk_7_0 _ h_r1) (pl_7_0 _ h_r1) 11 (by decide) tw_345 rc_7_11 rfl dX7_copyFrom_124 ?_
  refine j_iconst (v := (0 : Int32)) C dX7_copyFrom_127 (by decide) ?_
  refine j_aload_n C dX7_copyFrom_128 0 rfl rfl ?_
  refine j_getR (z := (r0 + 6)) C kX7 (pk_7_0 _ h_r0) (pl_7_0 _ h_r0) 11 (by decide) tw_345 rc_7_11 rfl dX7_copyFrom_129 ?_
  refine j_iconst (v := (0 : Int32)) C dX7_copyFrom_132 (by decide) ?_
  refine j_bipush (v := (21 : Int32)) C dX7_copyFrom_133 (by decide) ?_
  refine j_copy C cw_RX7_104 ⟨Nat.le_of_ble_eq_true rfl, Nat.le_of_ble_eq_true rfl⟩ (pk_7_6 _ h_r1) (pl_7_6 _ h_r1) (pk_7_6 _ h_r0) (pl_7_6 _ h_r0) (Nat.le_of_ble_eq_true rfl) dX7_copyFrom_135 (fun s12 => ?_)
  refine j_iconst (v := (0 : Int32)) C dX7_copyFrom_138 (by decide) ?_
  refine j_istore_n (L' := [(0, .ref (adX X r0)), (1, .ref (adX X r1)), (2, .int (0 : Int32))]) C dX7_copyFrom_139 rfl (by decide) [1, 2, 0] rfl ?_
  exact lb_X7_copyFrom_140 C CR  n r0 h_r0 r1 h_r1 (0 : Int32) s12
set_option maxHeartbeats 4000000 in
theorem jb_X7_runningSlots_25 {X : CtxT (Int32 × Mem)} (C : Cx YC X 3 cX7_runningSlots RX7 (some .int) rm_X7_runningSlots) (CR : CRi YC X) (k4 : Nat → Int32 → Int32 → Mem → Option (Int32 × Mem)) (hk4 : ∀ (r0 : Nat) (h_r0 : isO 7 r0) (l1 : Int32) (l2 : Int32) (s : Mem), J YC X 3 (k4 r0 l1 l2 s) 4 [(0, .ref (adX X r0)), (1, .int l1), (2, .int l2)] [] s) (n : Nat)  (r0 : Nat) (h_r0 : isO 7 r0) (l1 : Int32) (l2 : Int32) (s : Mem) : J YC X 3 (b_X7_runningSlots_25 k4 n  r0 l1 l2 s) 25 [(0, .ref (adX X r0)), (1, .int l1), (2, .int l2)] [] s := by
  unfold b_X7_runningSlots_25
  refine j_iinc (L2 := fun x1 => [(0, .ref (adX X r0)), (1, .int l1), (2, .int x1)]) C dX7_runningSlots_25 2 rfl (by decide) [1, 2, 0] (fun _ => rfl) (fun x1 => ?_)
  refine j_goto (tgt := 4) C dX7_runningSlots_28 (by decide) ?_
  exact hk4 r0 h_r0 l1 x1 s
set_option maxHeartbeats 4000000 in
theorem jb_X7_runningSlots_4 {X : CtxT (Int32 × Mem)} (C : Cx YC X 3 cX7_runningSlots RX7 (some .int) rm_X7_runningSlots) (CR : CRi YC X)  (n : Nat) (k4 : Nat → Int32 → Int32 → Mem → Option (Int32 × Mem)) (hk4 : ∀ (r0 : Nat) (h_r0 : isO 7 r0) (l1 : Int32) (l2 : Int32) (s : Mem), J YC X 3 (k4 r0 l1 l2 s) 4 [(0, .ref (adX X r0)), (1, .int l1), (2, .int l2)] [] s) (r0 : Nat) (h_r0 : isO 7 r0) (l1 : Int32) (l2 : Int32) (s : Mem) : J YC X 3 (b_X7_runningSlots_4  n k4 r0 l1 l2 s) 4 [(0, .ref (adX X r0)), (1, .int l1), (2, .int l2)] [] s := by
  unfold b_X7_runningSlots_4
  refine j_iload_n C dX7_runningSlots_4 2 rfl rfl ?_
  refine j_bipush (v := (8 : Int32)) C dX7_runningSlots_5 (by decide) ?_
  refine j_icmp_ge (tgt := 31) C dX7_runningSlots_7 (by decide) ?_ ?_
  · refine j_iload_n C dX7_runningSlots_31 1 rfl rfl ?_
    exact j_iret C CR dX7_runningSlots_32
  · refine j_aload_n C dX7_runningSlots_10 0 rfl rfl ?_
    refine j_getR (z := (r0 + 7)) C kX7 (pk_7_0 _ h_r0) (pl_7_0 _ h_r0) 12 (by decide) tw_347 rc_7_12 rfl dX7_runningSlots_11 ?_
    refine j_iload_n C dX7_runningSlots_14 2 rfl rfl ?_
    refine j_aald3 C (pk_7_7 _ h_r0) (pl_7_7 _ h_r0) dX7_runningSlots_15 (fun z1 e_z1 => ?_)
    have h_z1 : isO 6 z1 := (pe_7_7 _ h_r0 _ e_z1)
    refine j_callVi C (c_X6_runs n z1 h_z1 s) cw_RX7_117 ⟨rfl, rfl, Nat.le_of_ble_eq_true rfl, Nat.le_of_ble_eq_true rfl⟩ z1 kX6 (pk_6_0 _ h_z1) (pl_6_0 _ h_z1) [] [] rfl rfl rfl (Nat.le_of_ble_eq_true rfl) dX7_runningSlots_16 (fun x3 s2 => ?_)
    refine j_if_eq (tgt := 25) C dX7_runningSlots_19 (by decide) ?_ ?_
    · exact jb_X7_runningSlots_25 C CR k4 hk4 n r0 h_r0 l1 l2 s2
    · refine j_iinc (L2 := fun x4 => [(0, .ref (adX X r0)), (1, .int x4), (2, .int l2)]) C dX7_runningSlots_22 1 rfl (by decide) [1, 0, 2] (fun _ => rfl) (fun x4 => ?_)
      exact jb_X7_runningSlots_25 C CR k4 hk4 n r0 h_r0 x4 l2 s2
theorem lb_X7_runningSlots_4 {X : CtxT (Int32 × Mem)} (C : Cx YC X 3 cX7_runningSlots RX7 (some .int) rm_X7_runningSlots) (CR : CRi YC X)  : ∀ (n : Nat) (r0 : Nat) (h_r0 : isO 7 r0) (l1 : Int32) (l2 : Int32) (s : Mem), J YC X 3 (itr3 (b_X7_runningSlots_4) n r0 l1 l2 s) 4 [(0, .ref (adX X r0)), (1, .int l1), (2, .int l2)] [] s := by
  intro n
  induction n with
  | zero => intros; exact j_none
  | succ n ih =>
    intro r0 h_r0 l1 l2 s
    exact jb_X7_runningSlots_4 C CR  n _ ih r0 h_r0 l1 l2 s
set_option maxHeartbeats 4000000 in
theorem c_X7_runningSlots (n : Nat) (r0 : Nat) (h_r0 : isO 7 r0) (s : Mem) : CTi YC yX7_runningSlots cX7_runningSlots 3 (some .int) rm_X7_runningSlots (fun ad => [.ref (ad r0)]) s (f_X7_runningSlots n r0 s) := by
  refine CTi_of (by decide) (fun _ => Nat.le_of_ble_eq_true rfl) (fun X C CR => ?_)
  show J YC X 3 (f_X7_runningSlots n r0 s) 0 [(0, .ref (adX X r0))] [] s
  unfold f_X7_runningSlots
  refine j_iconst (v := (0 : Int32)) C dX7_runningSlots_0 (by decide) ?_
  refine j_istore_n (L' := [(0, .ref (adX X r0)), (1, .int (0 : Int32))]) C dX7_runningSlots_1 rfl (by decide) [1, 0] rfl ?_
  refine j_iconst (v := (0 : Int32)) C dX7_runningSlots_2 (by decide) ?_
  refine j_istore_n (L' := [(0, .ref (adX X r0)), (1, .int (0 : Int32)), (2, .int (0 : Int32))]) C dX7_runningSlots_3 rfl (by decide) [1, 2, 0] rfl ?_
  exact lb_X7_runningSlots_4 C CR  n r0 h_r0 (0 : Int32) (0 : Int32) s
set_option maxHeartbeats 4000000 in
theorem c_X8_add (n : Nat) (r0 : Nat) (h_r0 : isO 8 r0) (l1 : Int32) (s : Mem) : CTn YC yX8_add cX8_add 4 none rm_X8_add (fun ad => [.ref (ad r0), .int l1]) s (f_X8_add n r0 l1 s) := by
  refine CTn_of (by decide) (fun _ => Nat.le_of_ble_eq_true rfl) (fun X C CR => ?_)
  show J YC X 4 (f_X8_add n r0 l1 s) 0 [(0, .ref (adX X r0)), (1, .int l1)] [] s
  unfold f_X8_add
  refine j_aload_n C dX8_add_0 0 rfl rfl ?_
  refine j_get C kX8 (pk_8_0 _ h_r0) (pl_8_0 _ h_r0) 1 (by decide) tw_143 rc_8_1 dX8_add_1 ?_
  refine j_sipush (v := (6000 : Int32)) C dX8_add_4 (by decide) ?_
  refine j_icmp_lt (tgt := 11) C dX8_add_7 (by decide) ?_ ?_
  · refine j_bipush (v := (24 : Int32)) C dX8_add_11 (by decide) ?_
    refine j_bipush (v := (8 : Int32)) C dX8_add_13 (by decide) ?_
    refine j_aload_n C dX8_add_15 0 rfl rfl ?_
    refine j_get C kX8 (pk_8_0 _ h_r0) (pl_8_0 _ h_r0) 1 (by decide) tw_143 rc_8_1 dX8_add_16 ?_
    refine j_iconst (v := (3 : Int32)) C dX8_add_19 (by decide) ?_
    refine j_iand C dX8_add_20 ?_
    refine j_imul C dX8_add_21 ?_
    refine j_isub C dX8_add_22 ?_
    refine j_top (fun x1 => ?_)
    refine j_istore_n (L' := [(0, .ref (adX X r0)), (1, .int l1), (2, .int x1)]) C dX8_add_23 rfl (by decide) [1, 2, 0] rfl ?_
    refine j_aload_n C dX8_add_24 0 rfl rfl ?_
    refine j_getR (z := (r0 + 1)) C kX8 (pk_8_0 _ h_r0) (pl_8_0 _ h_r0) 0 (by decide) tw_142 rc_8_0 rfl dX8_add_25 ?_
    refine j_aload_n C dX8_add_28 0 rfl rfl ?_
    refine j_get C kX8 (pk_8_0 _ h_r0) (pl_8_0 _ h_r0) 1 (by decide) tw_143 rc_8_1 dX8_add_29 ?_
    refine j_iconst (v := (2 : Int32)) C dX8_add_32 (by decide) ?_
    refine j_ishr C dX8_add_33 ?_
    refine j_iald C (pk_8_1 _ h_r0) (pl_8_1 _ h_r0) dX8_add_34 ?_
    refine j_sipush (v := (255 : Int32)) C dX8_add_35 (by decide) ?_
    refine j_iload_n C dX8_add_38 2 rfl rfl ?_
    refine j_ishl C dX8_add_39 ?_
    refine j_iconst (v := (-1 : Int32)) C dX8_add_40 (by decide) ?_
    refine j_ixor C dX8_add_41 ?_
    refine j_iand C dX8_add_42 ?_
    refine j_top (fun x2 => ?_)
    refine j_istore_n (L' := [(0, .ref (adX X r0)), (1, .int l1), (2, .int x1), (3, .int x2)]) C dX8_add_43 rfl (by decide) [1, 2, 3, 0] rfl ?_
    refine j_aload_n C dX8_add_44 0 rfl rfl ?_
    refine j_getR (z := (r0 + 1)) C kX8 (pk_8_0 _ h_r0) (pl_8_0 _ h_r0) 0 (by decide) tw_142 rc_8_0 rfl dX8_add_45 ?_
    refine j_aload_n C dX8_add_48 0 rfl rfl ?_
    refine j_get C kX8 (pk_8_0 _ h_r0) (pl_8_0 _ h_r0) 1 (by decide) tw_143 rc_8_1 dX8_add_49 ?_
    refine j_iconst (v := (2 : Int32)) C dX8_add_52 (by decide) ?_
    refine j_ishr C dX8_add_53 ?_
    refine j_iload_n C dX8_add_54 3 rfl rfl ?_
    refine j_iload_n C dX8_add_55 1 rfl rfl ?_
    refine j_iload_n C dX8_add_56 2 rfl rfl ?_
    refine j_ishl C dX8_add_57 ?_
    refine j_ior C dX8_add_58 ?_
    refine j_iast C (pk_8_1 _ h_r0) (pl_8_1 _ h_r0) dX8_add_59 (fun s3 => ?_)
    refine j_aload_n C dX8_add_60 0 rfl rfl ?_
    refine j_dup C dX8_add_61 rfl ?_
    refine j_get C kX8 (pk_8_0 _ h_r0) (pl_8_0 _ h_r0) 1 (by decide) tw_143 rc_8_1 dX8_add_62 ?_
    refine j_iconst (v := (1 : Int32)) C dX8_add_65 (by decide) ?_
    refine j_iadd C dX8_add_66 ?_
    refine j_put C kX8 (pk_8_0 _ h_r0) (pl_8_0 _ h_r0) 1 (by decide) tw_143 rc_8_1 rfl rfl dX8_add_67 (fun s4 => ?_)
    exact j_vret C CR dX8_add_70
  · exact j_vret C CR dX8_add_10
set_option maxHeartbeats 4000000 in
theorem jb_X8_addNumber_3 {X : CtxT Mem} (C : Cx YC X 3 cX8_addNumber RX8 none rm_X8_addNumber) (CR : CRn YC X)  (n : Nat) (k3 : Nat → Int32 → Int32 → Mem → Option Mem) (hk3 : ∀ (r0 : Nat) (h_r0 : isO 8 r0) (l1 : Int32) (l2 : Int32) (s : Mem), J YC X 3 (k3 r0 l1 l2 s) 3 [(0, .ref (adX X r0)), (1, .int l1), (2, .int l2)] [] s) (r0 : Nat) (h_r0 : isO 8 r0) (l1 : Int32) (l2 : Int32) (s : Mem) : J YC X 3 (b_X8_addNumber_3  n k3 r0 l1 l2 s) 3 [(0, .ref (adX X r0)), (1, .int l1), (2, .int l2)] [] s := by
  unfold b_X8_addNumber_3
  refine j_iload_n C dX8_addNumber_3 2 rfl rfl ?_
  refine j_if_lt (tgt := 24) C dX8_addNumber_4 (by decide) ?_ ?_
  · exact j_vret C CR dX8_addNumber_24
  · refine j_aload_n C dX8_addNumber_7 0 rfl rfl ?_
    refine j_iload_n C dX8_addNumber_8 1 rfl rfl ?_
    refine j_iload_n C dX8_addNumber_9 2 rfl rfl ?_
    refine j_iushr C dX8_addNumber_10 ?_
    refine j_sipush (v := (255 : Int32)) C dX8_addNumber_11 (by decide) ?_
    refine j_iand C dX8_addNumber_14 ?_
    refine j_callVn C (c_X8_add n r0 h_r0 (((l1.toUInt32 >>> (l2.toUInt32 &&& Int32.toUInt32 31)).toInt32) &&& (255 : Int32)) s) cw_RX8_19 ⟨rfl, rfl, Nat.le_of_ble_eq_true rfl, Nat.le_of_ble_eq_true rfl⟩ r0 kX8 (pk_8_0 _ h_r0) (pl_8_0 _ h_r0) [.int (((l1.toUInt32 >>> (l2.toUInt32 &&& Int32.toUInt32 31)).toInt32) &&& (255 : Int32))] [] rfl rfl rfl (Nat.le_of_ble_eq_true rfl) dX8_addNumber_15 (fun s1 => ?_)
    refine j_iinc (L2 := fun x2 => [(0, .ref (adX X r0)), (1, .int l1), (2, .int x2)]) C dX8_addNumber_18 2 rfl (by decide) [1, 2, 0] (fun _ => rfl) (fun x2 => ?_)
    refine j_goto (tgt := 3) C dX8_addNumber_21 (by decide) ?_
    exact hk3 r0 h_r0 l1 x2 s1
theorem lb_X8_addNumber_3 {X : CtxT Mem} (C : Cx YC X 3 cX8_addNumber RX8 none rm_X8_addNumber) (CR : CRn YC X)  : ∀ (n : Nat) (r0 : Nat) (h_r0 : isO 8 r0) (l1 : Int32) (l2 : Int32) (s : Mem), J YC X 3 (itr3 (b_X8_addNumber_3) n r0 l1 l2 s) 3 [(0, .ref (adX X r0)), (1, .int l1), (2, .int l2)] [] s := by
  intro n
  induction n with
  | zero => intros; exact j_none
  | succ n ih =>
    intro r0 h_r0 l1 l2 s
    exact jb_X8_addNumber_3 C CR  n _ ih r0 h_r0 l1 l2 s
set_option maxHeartbeats 4000000 in
theorem c_X8_addNumber (n : Nat) (r0 : Nat) (h_r0 : isO 8 r0) (l1 : Int32) (s : Mem) : CTn YC yX8_addNumber cX8_addNumber 3 none rm_X8_addNumber (fun ad => [.ref (ad r0), .int l1]) s (f_X8_addNumber n r0 l1 s) := by
  refine CTn_of (by decide) (fun _ => Nat.le_of_ble_eq_true rfl) (fun X C CR => ?_)
  show J YC X 3 (f_X8_addNumber n r0 l1 s) 0 [(0, .ref (adX X r0)), (1, .int l1)] [] s
  unfold f_X8_addNumber
  refine j_bipush (v := (24 : Int32)) C dX8_addNumber_0 (by decide) ?_
  refine j_istore_n (L' := [(0, .ref (adX X r0)), (1, .int l1), (2, .int (24 : Int32))]) C dX8_addNumber_2 rfl (by decide) [1, 2, 0] rfl ?_
  exact lb_X8_addNumber_3 C CR  n r0 h_r0 l1 (24 : Int32) s
set_option maxHeartbeats 4000000 in
theorem jb_X8_cut_12 {X : CtxT (Int32 × Mem)} (C : Cx YC X 2 cX8_cut RX8 (some .boolean) rm_X8_cut) (CR : CRi YC X)  (n : Nat)   (s : Mem) : J YC X 2 (b_X8_cut_12  n   s) 12 [] [] s := by
  unfold b_X8_cut_12
  refine j_iconst (v := (0 : Int32)) C dX8_cut_12 (by decide) ?_
  exact j_zret C CR dX8_cut_13
set_option maxHeartbeats 4000000 in
theorem c_X8_cut (n : Nat) (r0 : Nat) (h_r0 : isO 8 r0) (l1 : Int32) (s : Mem) : CTi YC yX8_cut cX8_cut 2 (some .boolean) rm_X8_cut (fun ad => [.ref (ad r0), .int l1]) s (f_X8_cut n r0 l1 s) := by
  refine CTi_of (by decide) (fun _ => Nat.le_of_ble_eq_true rfl) (fun X C CR => ?_)
  show J YC X 2 (f_X8_cut n r0 l1 s) 0 [(0, .ref (adX X r0)), (1, .int l1)] [] s
  unfold f_X8_cut
  refine j_iload_n C dX8_cut_0 1 rfl rfl ?_
  refine j_if_lt (tgt := 12) C dX8_cut_1 (by decide) ?_ ?_
  · refine j_sub (L' := []) [] rfl ?_
    exact jb_X8_cut_12 C CR  n s
  · refine j_iload_n C dX8_cut_4 1 rfl rfl ?_
    refine j_aload_n C dX8_cut_5 0 rfl rfl ?_
    refine j_get C kX8 (pk_8_0 _ h_r0) (pl_8_0 _ h_r0) 1 (by decide) tw_143 rc_8_1 dX8_cut_6 ?_
    refine j_icmp_le (tgt := 14) C dX8_cut_9 (by decide) ?_ ?_
    · refine j_aload_n C dX8_cut_14 0 rfl rfl ?_
      refine j_iload_n C dX8_cut_15 1 rfl rfl ?_
      refine j_put C kX8 (pk_8_0 _ h_r0) (pl_8_0 _ h_r0) 1 (by decide) tw_143 rc_8_1 rfl rfl dX8_cut_16 (fun s1 => ?_)
      refine j_iconst (v := (1 : Int32)) C dX8_cut_19 (by decide) ?_
      exact j_zret C CR dX8_cut_20
    · refine j_sub (L' := []) [] rfl ?_
      exact jb_X8_cut_12 C CR  n s
set_option maxHeartbeats 4000000 in
theorem jb_X9_isOpen_33 {X : CtxT (Int32 × Mem)} (C : Cx YC X 3 cX9_isOpen RX9 (some .boolean) rm_X9_isOpen) (CR : CRi YC X)  (n : Nat)  (t0 : Int32) (s : Mem) : J YC X 3 (b_X9_isOpen_33  n  t0 s) 33 [] [.int t0] s := by
  unfold b_X9_isOpen_33
  exact j_zret C CR dX9_isOpen_33
set_option maxHeartbeats 4000000 in
theorem jb_X9_isOpen_32 {X : CtxT (Int32 × Mem)} (C : Cx YC X 3 cX9_isOpen RX9 (some .boolean) rm_X9_isOpen) (CR : CRi YC X)  (n : Nat)   (s : Mem) : J YC X 3 (b_X9_isOpen_32  n   s) 32 [] [] s := by
  unfold b_X9_isOpen_32
  refine j_iconst (v := (0 : Int32)) C dX9_isOpen_32 (by decide) ?_
  exact jb_X9_isOpen_33 C CR  n (0 : Int32) s
set_option maxHeartbeats 4000000 in
theorem c_X9_isOpen (n : Nat) (l1 : Int32) (l2 : Int32) (s : Mem) : CTi YC yX9_isOpen cX9_isOpen 3 (some .boolean) rm_X9_isOpen (fun ad => [.ref (ad 116), .int l1, .int l2]) s (f_X9_isOpen n l1 l2 s) := by
  refine CTi_of (by decide) (fun _ => Nat.le_of_ble_eq_true rfl) (fun X C CR => ?_)
  show J YC X 3 (f_X9_isOpen n l1 l2 s) 0 [(0, .ref (adX X 116)), (1, .int l1), (2, .int l2)] [] s
  unfold f_X9_isOpen
  refine j_aload_n C dX9_isOpen_0 0 rfl rfl ?_
  refine j_getA C kX9 kc_116 lc_116 1 (by decide) tw_417 rc_9_1 dX9_isOpen_1 ?_
  refine j_iload_n C dX9_isOpen_4 1 rfl rfl ?_
  refine j_iload_n C dX9_isOpen_5 2 rfl rfl ?_
  refine j_callVi C (c_X1_hasBox n l1 l2 s) cw_RX9_53 ⟨rfl, rfl, Nat.le_of_ble_eq_true rfl, Nat.le_of_ble_eq_true rfl⟩ 109 kX1 kc_109 lc_109 [.int l1, .int l2] [] rfl rfl rfl (Nat.le_of_ble_eq_true rfl) dX9_isOpen_6 (fun x2 s1 => ?_)
  refine j_if_eq (tgt := 32) C dX9_isOpen_9 (by decide) ?_ ?_
  · refine j_sub (L' := []) [] rfl ?_
    exact jb_X9_isOpen_32 C CR  n s1
  · refine j_aload_n C dX9_isOpen_12 0 rfl rfl ?_
    refine j_getA C kX9 kc_116 lc_116 2 (by decide) tw_418 rc_9_2 dX9_isOpen_13 ?_
    refine j_getR (z := 39) C kX7 kc_33 lc_33 11 (by decide) tw_346 rc_7_11 rfl dX9_isOpen_16 ?_
    refine j_iload_n C dX9_isOpen_19 1 rfl rfl ?_
    refine j_iald C kc_39 lc_39 dX9_isOpen_20 ?_
    refine j_iload_n C dX9_isOpen_21 2 rfl rfl ?_
    refine j_ishr C dX9_isOpen_22 ?_
    refine j_iconst (v := (1 : Int32)) C dX9_isOpen_23 (by decide) ?_
    refine j_iand C dX9_isOpen_24 ?_
    refine j_if_ne (tgt := 32) C dX9_isOpen_25 (by decide) ?_ ?_
    · refine j_sub (L' := []) [] rfl ?_
      exact jb_X9_isOpen_32 C CR  n s1
    · refine j_iconst (v := (1 : Int32)) C dX9_isOpen_28 (by decide) ?_
      refine j_goto (tgt := 33) C dX9_isOpen_29 (by decide) ?_
      refine j_sub (L' := []) [] rfl ?_
      exact jb_X9_isOpen_33 C CR  n (1 : Int32) s1
set_option maxHeartbeats 4000000 in
theorem c_X9_boxesBetween (n : Nat) (l1 : Int32) (l2 : Int32) (l3 : Int32) (s : Mem) : CTi YC yX9_boxesBetween cX9_boxesBetween 4 (some .int) rm_X9_boxesBetween (fun ad => [.ref (ad 116), .int l1, .int l2, .int l3]) s (f_X9_boxesBetween n l1 l2 l3 s) := by
  refine CTi_of (by decide) (fun _ => Nat.le_of_ble_eq_true rfl) (fun X C CR => ?_)
  show J YC X 4 (f_X9_boxesBetween n l1 l2 l3 s) 0 [(0, .ref (adX X 116)), (1, .int l1), (2, .int l2), (3, .int l3)] [] s
  unfold f_X9_boxesBetween
  refine j_aload_n C dX9_boxesBetween_0 0 rfl rfl ?_
  refine j_iload_n C dX9_boxesBetween_1 1 rfl rfl ?_
  refine j_iload_n C dX9_boxesBetween_2 2 rfl rfl ?_
  refine j_callVn C (c_X9_measureFrom n l1 l2 s) cw_RX9_80 ⟨rfl, rfl, Nat.le_of_ble_eq_true rfl, Nat.le_of_ble_eq_true rfl⟩ 116 kX9 kc_116 lc_116 [.int l1, .int l2] [] rfl rfl rfl (Nat.le_of_ble_eq_true rfl) dX9_boxesBetween_3 (fun s1 => ?_)
  refine j_aload_n C dX9_boxesBetween_6 0 rfl rfl ?_
  refine j_getR (z := 117) C kX9 kc_116 lc_116 3 (by decide) tw_419 rc_9_3 rfl dX9_boxesBetween_7 ?_
  refine j_iload_n C dX9_boxesBetween_10 3 rfl rfl ?_
  refine j_iald C kc_117 lc_117 dX9_boxesBetween_11 ?_
  exact j_iret C CR dX9_boxesBetween_12
set_option maxHeartbeats 4000000 in
theorem c_X9_goalFor (n : Nat) (r1 : Nat) (h_r1 : isO 0 r1) (l2 : Int32) (l3 : Int32) (s : Mem) : CTi YC yX9_goalFor cX9_goalFor 5 (some .int) rm_X9_goalFor (fun ad => [.ref (ad 116), .ref (ad r1), .int l2, .int l3]) s (f_X9_goalFor n r1 l2 l3 s) := by
  refine CTi_of (by decide) (fun _ => Nat.le_of_ble_eq_true rfl) (fun X C CR => ?_)
  show J YC X 5 (f_X9_goalFor n r1 l2 l3 s) 0 [(0, .ref (adX X 116)), (1, .ref (adX X r1)), (2, .int l2), (3, .int l3)] [] s
  unfold f_X9_goalFor
  refine j_aload_n C dX9_goalFor_0 0 rfl rfl ?_
  refine j_aload_n C dX9_goalFor_1 1 rfl rfl ?_
  refine j_callVi C (c_X9_boxOf n r1 h_r1 s) cw_RX9_83 ⟨rfl, rfl, Nat.le_of_ble_eq_true rfl, Nat.le_of_ble_eq_true rfl⟩ 116 kX9 kc_116 lc_116 [.ref (adX X r1)] [] rfl rfl rfl (Nat.le_of_ble_eq_true rfl) dX9_goalFor_2 (fun x2 s1 => ?_)
  refine j_istore (L' := [(0, .ref (adX X 116)), (1, .ref (adX X r1)), (2, .int l2), (3, .int l3), (4, .int x2)]) C dX9_goalFor_5 (by decide) [1, 2, 3, 4, 0] rfl ?_
  refine j_iload C dX9_goalFor_7 4 rfl ?_
  refine j_iconst (v := (-1 : Int32)) C dX9_goalFor_9 (by decide) ?_
  refine j_icmp_ne (tgt := 15) C dX9_goalFor_10 (by decide) ?_ ?_
  · refine j_aload_n C dX9_goalFor_15 0 rfl rfl ?_
    refine j_aload_n C dX9_goalFor_16 1 rfl rfl ?_
    refine j_get C kX0 (pk_0_0 _ h_r1) (pl_0_0 _ h_r1) 0 (by decide) tw_282 rc_0_0 dX9_goalFor_17 ?_
    refine j_iload C dX9_goalFor_20 4 rfl ?_
    refine j_iload_n C dX9_goalFor_22 2 rfl rfl ?_
    refine j_iload_n C dX9_goalFor_23 3 rfl rfl ?_
    refine j_callVn C (c_X9_findGoal n (s1 r1 0) x2 l2 l3 s1) cw_RX9_87 ⟨rfl, rfl, Nat.le_of_ble_eq_true rfl, Nat.le_of_ble_eq_true rfl⟩ 116 kX9 kc_116 lc_116 [.int (s1 r1 0), .int x2, .int l2, .int l3] [] rfl rfl rfl (Nat.le_of_ble_eq_true rfl) dX9_goalFor_24 (fun s3 => ?_)
    refine j_sipush (v := (256 : Int32)) C dX9_goalFor_27 (by decide) ?_
    refine j_aload_n C dX9_goalFor_30 0 rfl rfl ?_
    refine j_get C kX9 kc_116 lc_116 4 (by decide) tw_420 rc_9_4 dX9_goalFor_31 ?_
    refine j_imul C dX9_goalFor_34 ?_
    refine j_aload_n C dX9_goalFor_35 0 rfl rfl ?_
    refine j_get C kX9 kc_116 lc_116 5 (by decide) tw_421 rc_9_5 dX9_goalFor_36 ?_
    refine j_iadd C dX9_goalFor_39 ?_
    exact j_iret C CR dX9_goalFor_40
  · refine j_iconst (v := (-1 : Int32)) C dX9_goalFor_13 (by decide) ?_
    exact j_iret C CR dX9_goalFor_14
set_option maxHeartbeats 4000000 in
theorem c_X10_feed (n : Nat) (l1 : Int32) (l2 : Int32) (l3 : Int32) (l4 : Int32) (l5 : Int32) (s : Mem) : CTi YC yX10_feed cX10_feed 7 (some .int) rm_X10_feed (fun ad => [.ref (ad 0), .int l1, .int l2, .int l3, .int l4, .int l5]) s (f_X10_feed n l1 l2 l3 l4 l5 s) := by
  refine CTi_of (by decide) (fun _ => Nat.le_of_ble_eq_true rfl) (fun X C CR => ?_)
  show J YC X 7 (f_X10_feed n l1 l2 l3 l4 l5 s) 0 [(0, .ref (adX X 0)), (1, .int l1), (2, .int l2), (3, .int l3), (4, .int l4), (5, .int l5)] [] s
  unfold f_X10_feed
  refine j_aload_n C dX10_feed_0 0 rfl rfl ?_
  refine j_getA C kX10 kc_0 lc_0 0 (by decide) tw_475 rc_10_0 dX10_feed_1 ?_
  refine j_getR (z := 2) C kX3 kc_1 lc_1 0 (by decide) tw_174 rc_3_0 rfl dX10_feed_4 ?_
  refine j_astore (L' := [(0, .ref (adX X 0)), (1, .int l1), (2, .int l2), (3, .int l3), (4, .int l4), (5, .int l5), (6, .ref (adX X 2))]) C dX10_feed_7 (by decide) [1, 2, 3, 4, 5, 6, 0] rfl ?_
  refine j_aload C dX10_feed_9 6 rfl ?_
  refine j_get C kX8 kc_2 lc_2 1 (by decide) tw_144 rc_8_1 dX10_feed_11 ?_
  refine j_bipush (v := (20 : Int32)) C dX10_feed_14 (by decide) ?_
  refine j_iadd C dX10_feed_16 ?_
  refine j_sipush (v := (6000 : Int32)) C dX10_feed_17 (by decide) ?_
  refine j_icmp_le (tgt := 25) C dX10_feed_20 (by decide) ?_ ?_
  · refine j_aload C dX10_feed_25 6 rfl ?_
    refine j_iload_n C dX10_feed_27 1 rfl rfl ?_
    refine j_callVn C (c_X8_addNumber n 2 io_8_2 l1 s) cw_RX10_73 ⟨rfl, rfl, Nat.le_of_ble_eq_true rfl, Nat.le_of_ble_eq_true rfl⟩ 2 kX8 kc_2 lc_2 [.int l1] [] rfl rfl rfl (Nat.le_of_ble_eq_true rfl) dX10_feed_28 (fun s1 => ?_)
    refine j_aload C dX10_feed_31 6 rfl ?_
    refine j_iload_n C dX10_feed_33 2 rfl rfl ?_
    refine j_callVn C (c_X8_addNumber n 2 io_8_2 l2 s1) cw_RX10_73 ⟨rfl, rfl, Nat.le_of_ble_eq_true rfl, Nat.le_of_ble_eq_true rfl⟩ 2 kX8 kc_2 lc_2 [.int l2] [] rfl rfl rfl (Nat.le_of_ble_eq_true rfl) dX10_feed_34 (fun s2 => ?_)
    refine j_aload C dX10_feed_37 6 rfl ?_
    refine j_iload_n C dX10_feed_39 3 rfl rfl ?_
    refine j_callVn C (c_X8_addNumber n 2 io_8_2 l3 s2) cw_RX10_73 ⟨rfl, rfl, Nat.le_of_ble_eq_true rfl, Nat.le_of_ble_eq_true rfl⟩ 2 kX8 kc_2 lc_2 [.int l3] [] rfl rfl rfl (Nat.le_of_ble_eq_true rfl) dX10_feed_40 (fun s3 => ?_)
    refine j_aload C dX10_feed_43 6 rfl ?_
    refine j_iload C dX10_feed_45 4 rfl ?_
    refine j_callVn C (c_X8_addNumber n 2 io_8_2 l4 s3) cw_RX10_73 ⟨rfl, rfl, Nat.le_of_ble_eq_true rfl, Nat.le_of_ble_eq_true rfl⟩ 2 kX8 kc_2 lc_2 [.int l4] [] rfl rfl rfl (Nat.le_of_ble_eq_true rfl) dX10_feed_47 (fun s4 => ?_)
    refine j_aload C dX10_feed_50 6 rfl ?_
    refine j_iload C dX10_feed_52 5 rfl ?_
    refine j_callVn C (c_X8_addNumber n 2 io_8_2 l5 s4) cw_RX10_73 ⟨rfl, rfl, Nat.le_of_ble_eq_true rfl, Nat.le_of_ble_eq_true rfl⟩ 2 kX8 kc_2 lc_2 [.int l5] [] rfl rfl rfl (Nat.le_of_ble_eq_true rfl) dX10_feed_54 (fun s5 => ?_)
    refine j_aload C dX10_feed_57 6 rfl ?_
    refine j_get C kX8 kc_2 lc_2 1 (by decide) tw_144 rc_8_1 dX10_feed_59 ?_
    exact j_iret C CR dX10_feed_62
  · refine j_iconst (v := (-1 : Int32)) C dX10_feed_23 (by decide) ?_
    exact j_iret C CR dX10_feed_24
set_option maxHeartbeats 4000000 in
theorem c_X10_end (n : Nat) (l1 : Int32) (s : Mem) : CTi YC yX10_end cX10_end 2 (some .boolean) rm_X10_end (fun ad => [.ref (ad 0), .int l1]) s (f_X10_end n l1 s) := by
  refine CTi_of (by decide) (fun _ => Nat.le_of_ble_eq_true rfl) (fun X C CR => ?_)
  show J YC X 2 (f_X10_end n l1 s) 0 [(0, .ref (adX X 0)), (1, .int l1)] [] s
  unfold f_X10_end
  refine j_aload_n C dX10_end_0 0 rfl rfl ?_
  refine j_getA C kX10 kc_0 lc_0 0 (by decide) tw_475 rc_10_0 dX10_end_1 ?_
  refine j_getR (z := 2) C kX3 kc_1 lc_1 0 (by decide) tw_174 rc_3_0 rfl dX10_end_4 ?_
  refine j_iload_n C dX10_end_7 1 rfl rfl ?_
  refine j_callVi C (c_X8_cut n 2 io_8_2 l1 s) cw_RX10_77 ⟨rfl, rfl, Nat.le_of_ble_eq_true rfl, Nat.le_of_ble_eq_true rfl⟩ 2 kX8 kc_2 lc_2 [.int l1] [] rfl rfl rfl (Nat.le_of_ble_eq_true rfl) dX10_end_8 (fun x2 s1 => ?_)
  exact j_zret C CR dX10_end_11
set_option maxHeartbeats 4000000 in
theorem jb_X10_fault_28 {X : CtxT (Int32 × Mem)} (C : Cx YC X 2 cX10_fault RX10 (some .int) rm_X10_fault) (CR : CRi YC X)  (n : Nat)  (t0 : Int32) (s : Mem) : J YC X 2 (b_X10_fault_28  n  t0 s) 28 [] [.int t0] s := by
  unfold b_X10_fault_28
  exact j_iret C CR dX10_fault_28
set_option maxHeartbeats 4000000 in
theorem c_X10_fault (n : Nat) (l1 : Int32) (s : Mem) : CTi YC yX10_fault cX10_fault 2 (some .int) rm_X10_fault (fun ad => [.ref (ad 0), .int l1]) s (f_X10_fault n l1 s) := by
  refine CTi_of (by decide) (fun _ => Nat.le_of_ble_eq_true rfl) (fun X C CR => ?_)
  show J YC X 2 (f_X10_fault n l1 s) 0 [(0, .ref (adX X 0)), (1, .int l1)] [] s
  unfold f_X10_fault
  refine j_iload_n C dX10_fault_0 1 rfl rfl ?_
  refine j_if_ne (tgt := 12) C dX10_fault_1 (by decide) ?_ ?_
  · refine j_iload_n C dX10_fault_12 1 rfl rfl ?_
    refine j_iconst (v := (1 : Int32)) C dX10_fault_13 (by decide) ?_
    refine j_icmp_ne (tgt := 27) C dX10_fault_14 (by decide) ?_ ?_
    · refine j_iconst (v := (-1 : Int32)) C dX10_fault_27 (by decide) ?_
      refine j_sub (L' := []) [] rfl ?_
      exact jb_X10_fault_28 C CR  n (-1 : Int32) s
    · refine j_aload_n C dX10_fault_17 0 rfl rfl ?_
      refine j_getA C kX10 kc_0 lc_0 2 (by decide) tw_477 rc_10_2 dX10_fault_18 ?_
      refine j_get C kX4 kc_31 lc_31 1 (by decide) tw_213 rc_4_1 dX10_fault_21 ?_
      refine j_goto (tgt := 28) C dX10_fault_24 (by decide) ?_
      refine j_sub (L' := []) [] rfl ?_
      exact jb_X10_fault_28 C CR  n (s 31 1) s
  · refine j_aload_n C dX10_fault_4 0 rfl rfl ?_
    refine j_getA C kX10 kc_0 lc_0 2 (by decide) tw_477 rc_10_2 dX10_fault_5 ?_
    refine j_get C kX4 kc_31 lc_31 0 (by decide) tw_211 rc_4_0 dX10_fault_8 ?_
    exact j_iret C CR dX10_fault_11
set_option maxHeartbeats 4000000 in
theorem jb_X10_tick_11 {X : CtxT (Int32 × Mem)} (C : Cx YC X 4 cX10_tick RX10 (some .int) rm_X10_tick) (CR : CRi YC X)  (n : Nat)   (s : Mem) : J YC X 4 (b_X10_tick_11  n   s) 11 [] [] s := by
  unfold b_X10_tick_11
  refine j_iconst (v := (-1 : Int32)) C dX10_tick_11 (by decide) ?_
  exact j_iret C CR dX10_tick_12
set_option maxHeartbeats 4000000 in
theorem jb_X10_tick_17 {X : CtxT (Int32 × Mem)} (C : Cx YC X 4 cX10_tick RX10 (some .int) rm_X10_tick) (CR : CRi YC X)  (n : Nat) (k17 : Int32 → Int32 → Int32 → Mem → Option (Int32 × Mem)) (hk17 : ∀ (l1 : Int32) (l2 : Int32) (l3 : Int32) (s : Mem), J YC X 4 (k17 l1 l2 l3 s) 17 [(0, .ref (adX X 0)), (1, .int l1), (2, .int l2), (3, .int l3)] [] s) (l1 : Int32) (l2 : Int32) (l3 : Int32) (s : Mem) : J YC X 4 (b_X10_tick_17  n k17 l1 l2 l3 s) 17 [(0, .ref (adX X 0)), (1, .int l1), (2, .int l2), (3, .int l3)] [] s := by
  unfold b_X10_tick_17
  refine j_iload_n C dX10_tick_17 3 rfl rfl ?_
  refine j_iload_n C dX10_tick_18 1 rfl rfl ?_
  refine j_icmp_ge (tgt := 38) C dX10_tick_19 (by decide) ?_ ?_
  · refine j_iload_n C dX10_tick_38 2 rfl rfl ?_
    exact j_iret C CR dX10_tick_39
  · refine j_iload_n C dX10_tick_22 2 rfl rfl ?_
    refine j_aload_n C dX10_tick_23 0 rfl rfl ?_
    refine j_getA C kX10 kc_0 lc_0 7 (by decide) tw_482 rc_10_7 dX10_tick_24 ?_
    refine j_callVi C (c_X5_beat n  s) cw_RX10_111 ⟨rfl, rfl, Nat.le_of_ble_eq_true rfl, Nat.le_of_ble_eq_true rfl⟩ 118 kX5 kc_118 lc_118 [] [.int l2] rfl rfl rfl (Nat.le_of_ble_eq_true rfl) dX10_tick_27 (fun x2 s1 => ?_)
    refine j_iadd C dX10_tick_30 ?_
    refine j_top (fun x3 => ?_)
    refine j_istore_n (L' := [(0, .ref (adX X 0)), (1, .int l1), (2, .int x3), (3, .int l3)]) C dX10_tick_31 rfl (by decide) [1, 2, 0, 3] rfl ?_
    refine j_iinc (L2 := fun x4 => [(0, .ref (adX X 0)), (1, .int l1), (2, .int x3), (3, .int x4)]) C dX10_tick_32 3 rfl (by decide) [1, 2, 3, 0] (fun _ => rfl) (fun x4 => ?_)
    refine j_goto (tgt := 17) C dX10_tick_35 (by decide) ?_
    exact hk17 l1 x3 x4 s1
theorem lb_X10_tick_17 {X : CtxT (Int32 × Mem)} (C : Cx YC X 4 cX10_tick RX10 (some .int) rm_X10_tick) (CR : CRi YC X)  : ∀ (n : Nat) (l1 : Int32) (l2 : Int32) (l3 : Int32) (s : Mem), J YC X 4 (itr3 (b_X10_tick_17) n l1 l2 l3 s) 17 [(0, .ref (adX X 0)), (1, .int l1), (2, .int l2), (3, .int l3)] [] s := by
  intro n
  induction n with
  | zero => intros; exact j_none
  | succ n ih =>
    intro l1 l2 l3 s
    exact jb_X10_tick_17 C CR  n _ ih l1 l2 l3 s
set_option maxHeartbeats 4000000 in
theorem c_X10_tick (n : Nat) (l1 : Int32) (s : Mem) : CTi YC yX10_tick cX10_tick 4 (some .int) rm_X10_tick (fun ad => [.ref (ad 0), .int l1]) s (f_X10_tick n l1 s) := by
  refine CTi_of (by decide) (fun _ => Nat.le_of_ble_eq_true rfl) (fun X C CR => ?_)
  show J YC X 4 (f_X10_tick n l1 s) 0 [(0, .ref (adX X 0)), (1, .int l1)] [] s
  unfold f_X10_tick
  refine j_iload_n C dX10_tick_0 1 rfl rfl ?_
  refine j_if_lt (tgt := 11) C dX10_tick_1 (by decide) ?_ ?_
  · refine j_sub (L' := []) [] rfl ?_
    exact jb_X10_tick_11 C CR  n s
  · refine j_iload_n C dX10_tick_4 1 rfl rfl ?_
    refine j_sipush (v := (200 : Int32)) C dX10_tick_5 (by decide) ?_
    refine j_icmp_le (tgt := 13) C dX10_tick_8 (by decide) ?_ ?_
    · refine j_iconst (v := (0 : Int32)) C dX10_tick_13 (by decide) ?_
      refine j_istore_n (L' := [(0, .ref (adX X 0)), (1, .int l1), (2, .int (0 : Int32))]) C dX10_tick_14 rfl (by decide) [1, 2, 0] rfl ?_
      refine j_iconst (v := (0 : Int32)) C dX10_tick_15 (by decide) ?_
      refine j_istore_n (L' := [(0, .ref (adX X 0)), (1, .int l1), (2, .int (0 : Int32)), (3, .int (0 : Int32))]) C dX10_tick_16 rfl (by decide) [1, 2, 3, 0] rfl ?_
      exact lb_X10_tick_17 C CR  n l1 (0 : Int32) (0 : Int32) s
    · refine j_sub (L' := []) [] rfl ?_
      exact jb_X10_tick_11 C CR  n s
set_option maxHeartbeats 4000000 in
theorem c_X10_start (n : Nat) (l1 : Int32) (s : Mem) : CTi YC yX10_start cX10_start 2 (some .int) rm_X10_start (fun ad => [.ref (ad 0), .int l1]) s (f_X10_start n l1 s) := by
  refine CTi_of (by decide) (fun _ => Nat.le_of_ble_eq_true rfl) (fun X C CR => ?_)
  show J YC X 2 (f_X10_start n l1 s) 0 [(0, .ref (adX X 0)), (1, .int l1)] [] s
  unfold f_X10_start
  refine j_aload_n C dX10_start_0 0 rfl rfl ?_
  refine j_getA C kX10 kc_0 lc_0 7 (by decide) tw_482 rc_10_7 dX10_start_1 ?_
  refine j_iload_n C dX10_start_4 1 rfl rfl ?_
  refine j_iconst (v := (0 : Int32)) C dX10_start_5 (by decide) ?_
  refine j_callVi C (c_X5_startScript n l1 (0 : Int32) s) cw_RX10_114 ⟨rfl, rfl, Nat.le_of_ble_eq_true rfl, Nat.le_of_ble_eq_true rfl⟩ 118 kX5 kc_118 lc_118 [.int l1, .int (0 : Int32)] [] rfl rfl rfl (Nat.le_of_ble_eq_true rfl) dX10_start_6 (fun x2 s1 => ?_)
  exact j_iret C CR dX10_start_9
set_option maxHeartbeats 4000000 in
theorem jb_X10_say_24 {X : CtxT (Int32 × Mem)} (C : Cx YC X 4 cX10_say RX10 (some .int) rm_X10_say) (CR : CRi YC X)  (n : Nat)  (t0 : Int32) (s : Mem) : J YC X 4 (b_X10_say_24  n  t0 s) 24 [] [.int t0] s := by
  unfold b_X10_say_24
  exact j_iret C CR dX10_say_24
set_option maxHeartbeats 4000000 in
theorem c_X10_say (n : Nat) (l1 : Int32) (l2 : Int32) (l3 : Int32) (s : Mem) : CTi YC yX10_say cX10_say 4 (some .int) rm_X10_say (fun ad => [.ref (ad 0), .int l1, .int l2, .int l3]) s (f_X10_say n l1 l2 l3 s) := by
  refine CTi_of (by decide) (fun _ => Nat.le_of_ble_eq_true rfl) (fun X C CR => ?_)
  show J YC X 4 (f_X10_say n l1 l2 l3 s) 0 [(0, .ref (adX X 0)), (1, .int l1), (2, .int l2), (3, .int l3)] [] s
  unfold f_X10_say
  refine j_aload_n C dX10_say_0 0 rfl rfl ?_
  refine j_getA C kX10 kc_0 lc_0 3 (by decide) tw_478 rc_10_3 dX10_say_1 ?_
  refine j_iload_n C dX10_say_4 1 rfl rfl ?_
  refine j_iload_n C dX10_say_5 2 rfl rfl ?_
  refine j_iload_n C dX10_say_6 3 rfl rfl ?_
  refine j_callVi C (c_X7_addSentence n 33 io_7_33 l1 l2 l3 s) cw_RX10_118 ⟨rfl, rfl, Nat.le_of_ble_eq_true rfl, Nat.le_of_ble_eq_true rfl⟩ 33 kX7 kc_33 lc_33 [.int l1, .int l2, .int l3] [] rfl rfl rfl (Nat.le_of_ble_eq_true rfl) dX10_say_7 (fun x2 s1 => ?_)
  refine j_if_eq (tgt := 23) C dX10_say_10 (by decide) ?_ ?_
  · refine j_iconst (v := (-1 : Int32)) C dX10_say_23 (by decide) ?_
    refine j_sub (L' := []) [] rfl ?_
    exact jb_X10_say_24 C CR  n (-1 : Int32) s1
  · refine j_aload_n C dX10_say_13 0 rfl rfl ?_
    refine j_getA C kX10 kc_0 lc_0 3 (by decide) tw_478 rc_10_3 dX10_say_14 ?_
    refine j_get C kX7 kc_33 lc_33 5 (by decide) tw_331 rc_7_5 dX10_say_17 ?_
    refine j_goto (tgt := 24) C dX10_say_20 (by decide) ?_
    refine j_sub (L' := []) [] rfl ?_
    exact jb_X10_say_24 C CR  n (s1 33 5) s1
set_option maxHeartbeats 4000000 in
theorem c_X10_walk (n : Nat) (l1 : Int32) (l2 : Int32) (l3 : Int32) (s : Mem) : CTi YC yX10_walk cX10_walk 4 (some .boolean) rm_X10_walk (fun ad => [.ref (ad 0), .int l1, .int l2, .int l3]) s (f_X10_walk n l1 l2 l3 s) := by
  refine CTi_of (by decide) (fun _ => Nat.le_of_ble_eq_true rfl) (fun X C CR => ?_)
  show J YC X 4 (f_X10_walk n l1 l2 l3 s) 0 [(0, .ref (adX X 0)), (1, .int l1), (2, .int l2), (3, .int l3)] [] s
  unfold f_X10_walk
  refine j_aload_n C dX10_walk_0 0 rfl rfl ?_
  refine j_getA C kX10 kc_0 lc_0 6 (by decide) tw_481 rc_10_6 dX10_walk_1 ?_
  refine j_iload_n C dX10_walk_4 1 rfl rfl ?_
  refine j_iload_n C dX10_walk_5 2 rfl rfl ?_
  refine j_iload_n C dX10_walk_6 3 rfl rfl ?_
  refine j_callVi C (c_X9_send n l1 l2 l3 s) cw_RX10_125 ⟨rfl, rfl, Nat.le_of_ble_eq_true rfl, Nat.le_of_ble_eq_true rfl⟩ 116 kX9 kc_116 lc_116 [.int l1, .int l2, .int l3] [] rfl rfl rfl (Nat.le_of_ble_eq_true rfl) dX10_walk_7 (fun x2 s1 => ?_)
  exact j_zret C CR dX10_walk_10
set_option maxHeartbeats 4000000 in
theorem jb_X10_slot_10 {X : CtxT (Int32 × Mem)} (C : Cx YC X 3 cX10_slot RX10 (some .int) rm_X10_slot) (CR : CRi YC X)  (n : Nat)   (s : Mem) : J YC X 3 (b_X10_slot_10  n   s) 10 [] [] s := by
  unfold b_X10_slot_10
  refine j_iconst (v := (-1 : Int32)) C dX10_slot_10 (by decide) ?_
  exact j_iret C CR dX10_slot_11
set_option maxHeartbeats 4000000 in
theorem c_X10_slot (n : Nat) (l1 : Int32) (l2 : Int32) (s : Mem) : CTi YC yX10_slot cX10_slot 3 (some .int) rm_X10_slot (fun ad => [.ref (ad 0), .int l1, .int l2]) s (f_X10_slot n l1 l2 s) := by
  refine CTi_of (by decide) (fun _ => Nat.le_of_ble_eq_true rfl) (fun X C CR => ?_)
  show J YC X 3 (f_X10_slot n l1 l2 s) 0 [(0, .ref (adX X 0)), (1, .int l1), (2, .int l2)] [] s
  unfold f_X10_slot
  refine j_iload_n C dX10_slot_0 1 rfl rfl ?_
  refine j_if_lt (tgt := 10) C dX10_slot_1 (by decide) ?_ ?_
  · refine j_sub (L' := []) [] rfl ?_
    exact jb_X10_slot_10 C CR  n s
  · refine j_iload_n C dX10_slot_4 1 rfl rfl ?_
    refine j_bipush (v := (8 : Int32)) C dX10_slot_5 (by decide) ?_
    refine j_icmp_lt (tgt := 12) C dX10_slot_7 (by decide) ?_ ?_
    · refine j_aload_n C dX10_slot_12 0 rfl rfl ?_
      refine j_getA C kX10 kc_0 lc_0 3 (by decide) tw_478 rc_10_3 dX10_slot_13 ?_
      refine j_getR (z := 40) C kX7 kc_33 lc_33 12 (by decide) tw_349 rc_7_12 rfl dX10_slot_16 ?_
      refine j_iload_n C dX10_slot_19 1 rfl rfl ?_
      refine j_aald3 C kc_40 lc_40 dX10_slot_20 (fun z1 e_z1 => ?_)
      have h_z1 : isO 6 z1 := (pe_7_7 _ io_7_33 _ e_z1)
      refine j_iload_n C dX10_slot_21 2 rfl rfl ?_
      refine j_callVi C (c_X6_number n z1 h_z1 l2 s) cw_RX10_141 ⟨rfl, rfl, Nat.le_of_ble_eq_true rfl, Nat.le_of_ble_eq_true rfl⟩ z1 kX6 (pk_6_0 _ h_z1) (pl_6_0 _ h_z1) [.int l2] [] rfl rfl rfl (Nat.le_of_ble_eq_true rfl) dX10_slot_22 (fun x3 s2 => ?_)
      exact j_iret C CR dX10_slot_25
    · refine j_sub (L' := []) [] rfl ?_
      exact jb_X10_slot_10 C CR  n s
set_option maxHeartbeats 4000000 in
theorem c_X10_verb (n : Nat) (l1 : Int32) (l2 : Int32) (s : Mem) : CTi YC yX10_verb cX10_verb 3 (some .int) rm_X10_verb (fun ad => [.ref (ad 0), .int l1, .int l2]) s (f_X10_verb n l1 l2 s) := by
  refine CTi_of (by decide) (fun _ => Nat.le_of_ble_eq_true rfl) (fun X C CR => ?_)
  show J YC X 3 (f_X10_verb n l1 l2 s) 0 [(0, .ref (adX X 0)), (1, .int l1), (2, .int l2)] [] s
  unfold f_X10_verb
  refine j_aload_n C dX10_verb_0 0 rfl rfl ?_
  refine j_getA C kX10 kc_0 lc_0 1 (by decide) tw_476 rc_10_1 dX10_verb_1 ?_
  refine j_iload_n C dX10_verb_4 1 rfl rfl ?_
  refine j_iload_n C dX10_verb_5 2 rfl rfl ?_
  refine j_callVi C (c_X3_scriptFor n 16 io_3_16 l1 l2 s) cw_RX10_186 ⟨rfl, rfl, Nat.le_of_ble_eq_true rfl, Nat.le_of_ble_eq_true rfl⟩ 16 kX3 kc_16 lc_16 [.int l1, .int l2] [] rfl rfl rfl (Nat.le_of_ble_eq_true rfl) dX10_verb_6 (fun x2 s1 => ?_)
  exact j_iret C CR dX10_verb_9
set_option maxHeartbeats 4000000 in
theorem jb_X10_box_36 {X : CtxT (Int32 × Mem)} (C : Cx YC X 4 cX10_box RX10 (some .int) rm_X10_box) (CR : CRi YC X)  (n : Nat)  (t0 : Int32) (s : Mem) : J YC X 4 (b_X10_box_36  n  t0 s) 36 [] [.int t0] s := by
  unfold b_X10_box_36
  exact j_iret C CR dX10_box_36
set_option maxHeartbeats 4000000 in
theorem c_X10_box (n : Nat) (l1 : Int32) (l2 : Int32) (l3 : Int32) (s : Mem) : CTi YC yX10_box cX10_box 4 (some .int) rm_X10_box (fun ad => [.ref (ad 0), .int l1, .int l2, .int l3]) s (f_X10_box n l1 l2 l3 s) := by
  refine CTi_of (by decide) (fun _ => Nat.le_of_ble_eq_true rfl) (fun X C CR => ?_)
  show J YC X 4 (f_X10_box n l1 l2 l3 s) 0 [(0, .ref (adX X 0)), (1, .int l1), (2, .int l2), (3, .int l3)] [] s
  unfold f_X10_box
  refine j_aload_n C dX10_box_0 0 rfl rfl ?_
  refine j_getA C kX10 kc_0 lc_0 5 (by decide) tw_480 rc_10_5 dX10_box_1 ?_
  refine j_iload_n C dX10_box_4 1 rfl rfl ?_
  refine j_iload_n C dX10_box_5 2 rfl rfl ?_
  refine j_callVi C (c_X1_hasBox n l1 l2 s) cw_RX10_189 ⟨rfl, rfl, Nat.le_of_ble_eq_true rfl, Nat.le_of_ble_eq_true rfl⟩ 109 kX1 kc_109 lc_109 [.int l1, .int l2] [] rfl rfl rfl (Nat.le_of_ble_eq_true rfl) dX10_box_6 (fun x2 s1 => ?_)
  refine j_if_ne (tgt := 14) C dX10_box_9 (by decide) ?_ ?_
  · refine j_iload_n C dX10_box_14 3 rfl rfl ?_
    refine j_iconst (v := (4 : Int32)) C dX10_box_15 (by decide) ?_
    refine j_icmp_ne (tgt := 37) C dX10_box_16 (by decide) ?_ ?_
    · refine j_aload_n C dX10_box_37 0 rfl rfl ?_
      refine j_getA C kX10 kc_0 lc_0 5 (by decide) tw_480 rc_10_5 dX10_box_38 ?_
      refine j_iload_n C dX10_box_41 1 rfl rfl ?_
      refine j_iload_n C dX10_box_42 2 rfl rfl ?_
      refine j_iload_n C dX10_box_43 3 rfl rfl ?_
      refine j_callVi C (c_X1_corner n l1 l2 l3 s1) cw_RX10_196 ⟨rfl, rfl, Nat.le_of_ble_eq_true rfl, Nat.le_of_ble_eq_true rfl⟩ 109 kX1 kc_109 lc_109 [.int l1, .int l2, .int l3] [] rfl rfl rfl (Nat.le_of_ble_eq_true rfl) dX10_box_44 (fun x4 s3 => ?_)
      exact j_iret C CR dX10_box_47
    · refine j_aload_n C dX10_box_19 0 rfl rfl ?_
      refine j_getA C kX10 kc_0 lc_0 6 (by decide) tw_481 rc_10_6 dX10_box_20 ?_
      refine j_iload_n C dX10_box_23 1 rfl rfl ?_
      refine j_iload_n C dX10_box_24 2 rfl rfl ?_
      refine j_callVi C (c_X9_isOpen n l1 l2 s1) cw_RX10_193 ⟨rfl, rfl, Nat.le_of_ble_eq_true rfl, Nat.le_of_ble_eq_true rfl⟩ 116 kX9 kc_116 lc_116 [.int l1, .int l2] [] rfl rfl rfl (Nat.le_of_ble_eq_true rfl) dX10_box_25 (fun x6 s5 => ?_)
      refine j_if_eq (tgt := 35) C dX10_box_28 (by decide) ?_ ?_
      · refine j_iconst (v := (1 : Int32)) C dX10_box_35 (by decide) ?_
        refine j_sub (L' := []) [] rfl ?_
        exact jb_X10_box_36 C CR  n (1 : Int32) s5
      · refine j_iconst (v := (0 : Int32)) C dX10_box_31 (by decide) ?_
        refine j_goto (tgt := 36) C dX10_box_32 (by decide) ?_
        refine j_sub (L' := []) [] rfl ?_
        exact jb_X10_box_36 C CR  n (0 : Int32) s5
  · refine j_iconst (v := (-1 : Int32)) C dX10_box_12 (by decide) ?_
    exact j_iret C CR dX10_box_13
set_option maxHeartbeats 4000000 in
theorem jb_X10_neighbours_24 {X : CtxT (Int32 × Mem)} (C : Cx YC X 4 cX10_neighbours RX10 (some .int) rm_X10_neighbours) (CR : CRi YC X)  (n : Nat)   (s : Mem) : J YC X 4 (b_X10_neighbours_24  n   s) 24 [] [] s := by
  unfold b_X10_neighbours_24
  refine j_iconst (v := (-1 : Int32)) C dX10_neighbours_24 (by decide) ?_
  exact j_iret C CR dX10_neighbours_25
set_option maxHeartbeats 4000000 in
theorem c_X10_neighbours (n : Nat) (l1 : Int32) (l2 : Int32) (l3 : Int32) (s : Mem) : CTi YC yX10_neighbours cX10_neighbours 4 (some .int) rm_X10_neighbours (fun ad => [.ref (ad 0), .int l1, .int l2, .int l3]) s (f_X10_neighbours n l1 l2 l3 s) := by
  refine CTi_of (by decide) (fun _ => Nat.le_of_ble_eq_true rfl) (fun X C CR => ?_)
  show J YC X 4 (f_X10_neighbours n l1 l2 l3 s) 0 [(0, .ref (adX X 0)), (1, .int l1), (2, .int l2), (3, .int l3)] [] s
  unfold f_X10_neighbours
  refine j_aload_n C dX10_neighbours_0 0 rfl rfl ?_
  refine j_getA C kX10 kc_0 lc_0 5 (by decide) tw_480 rc_10_5 dX10_neighbours_1 ?_
  refine j_iload_n C dX10_neighbours_4 1 rfl rfl ?_
  refine j_iload_n C dX10_neighbours_5 2 rfl rfl ?_
  refine j_callVi C (c_X1_hasBox n l1 l2 s) cw_RX10_189 ⟨rfl, rfl, Nat.le_of_ble_eq_true rfl, Nat.le_of_ble_eq_true rfl⟩ 109 kX1 kc_109 lc_109 [.int l1, .int l2] [] rfl rfl rfl (Nat.le_of_ble_eq_true rfl) dX10_neighbours_6 (fun x2 s1 => ?_)
  refine j_if_eq (tgt := 24) C dX10_neighbours_9 (by decide) ?_ ?_
  · refine j_sub (L' := []) [] rfl ?_
    exact jb_X10_neighbours_24 C CR  n s1
  · refine j_aload_n C dX10_neighbours_12 0 rfl rfl ?_
    refine j_getA C kX10 kc_0 lc_0 5 (by decide) tw_480 rc_10_5 dX10_neighbours_13 ?_
    refine j_iload_n C dX10_neighbours_16 1 rfl rfl ?_
    refine j_iload_n C dX10_neighbours_17 3 rfl rfl ?_
    refine j_callVi C (c_X1_hasBox n l1 l3 s1) cw_RX10_189 ⟨rfl, rfl, Nat.le_of_ble_eq_true rfl, Nat.le_of_ble_eq_true rfl⟩ 109 kX1 kc_109 lc_109 [.int l1, .int l3] [] rfl rfl rfl (Nat.le_of_ble_eq_true rfl) dX10_neighbours_18 (fun x4 s3 => ?_)
    refine j_if_ne (tgt := 26) C dX10_neighbours_21 (by decide) ?_ ?_
    · refine j_aload_n C dX10_neighbours_26 0 rfl rfl ?_
      refine j_getA C kX10 kc_0 lc_0 5 (by decide) tw_480 rc_10_5 dX10_neighbours_27 ?_
      refine j_getR (z := 115) C kX1 kc_109 lc_109 5 (by decide) tw_396 rc_1_5 rfl dX10_neighbours_30 ?_
      refine j_iload_n C dX10_neighbours_33 1 rfl rfl ?_
      refine j_bipush (v := (16 : Int32)) C dX10_neighbours_34 (by decide) ?_
      refine j_imul C dX10_neighbours_36 ?_
      refine j_iload_n C dX10_neighbours_37 2 rfl rfl ?_
      refine j_iadd C dX10_neighbours_38 ?_
      refine j_iald C kc_115 lc_115 dX10_neighbours_39 ?_
      refine j_iload_n C dX10_neighbours_40 3 rfl rfl ?_
      refine j_ishr C dX10_neighbours_41 ?_
      refine j_iconst (v := (1 : Int32)) C dX10_neighbours_42 (by decide) ?_
      refine j_iand C dX10_neighbours_43 ?_
      exact j_iret C CR dX10_neighbours_44
    · refine j_sub (L' := []) [] rfl ?_
      exact jb_X10_neighbours_24 C CR  n s3
set_option maxHeartbeats 4000000 in
theorem jb_X10_way_24 {X : CtxT (Int32 × Mem)} (C : Cx YC X 4 cX10_way RX10 (some .int) rm_X10_way) (CR : CRi YC X)  (n : Nat)   (s : Mem) : J YC X 4 (b_X10_way_24  n   s) 24 [] [] s := by
  unfold b_X10_way_24
  refine j_iconst (v := (-1 : Int32)) C dX10_way_24 (by decide) ?_
  exact j_iret C CR dX10_way_25
set_option maxHeartbeats 4000000 in
theorem c_X10_way (n : Nat) (l1 : Int32) (l2 : Int32) (l3 : Int32) (s : Mem) : CTi YC yX10_way cX10_way 4 (some .int) rm_X10_way (fun ad => [.ref (ad 0), .int l1, .int l2, .int l3]) s (f_X10_way n l1 l2 l3 s) := by
  refine CTi_of (by decide) (fun _ => Nat.le_of_ble_eq_true rfl) (fun X C CR => ?_)
  show J YC X 4 (f_X10_way n l1 l2 l3 s) 0 [(0, .ref (adX X 0)), (1, .int l1), (2, .int l2), (3, .int l3)] [] s
  unfold f_X10_way
  refine j_aload_n C dX10_way_0 0 rfl rfl ?_
  refine j_getA C kX10 kc_0 lc_0 6 (by decide) tw_481 rc_10_6 dX10_way_1 ?_
  refine j_iload_n C dX10_way_4 1 rfl rfl ?_
  refine j_iload_n C dX10_way_5 2 rfl rfl ?_
  refine j_callVi C (c_X9_isOpen n l1 l2 s) cw_RX10_193 ⟨rfl, rfl, Nat.le_of_ble_eq_true rfl, Nat.le_of_ble_eq_true rfl⟩ 116 kX9 kc_116 lc_116 [.int l1, .int l2] [] rfl rfl rfl (Nat.le_of_ble_eq_true rfl) dX10_way_6 (fun x2 s1 => ?_)
  refine j_if_eq (tgt := 24) C dX10_way_9 (by decide) ?_ ?_
  · refine j_sub (L' := []) [] rfl ?_
    exact jb_X10_way_24 C CR  n s1
  · refine j_aload_n C dX10_way_12 0 rfl rfl ?_
    refine j_getA C kX10 kc_0 lc_0 6 (by decide) tw_481 rc_10_6 dX10_way_13 ?_
    refine j_iload_n C dX10_way_16 1 rfl rfl ?_
    refine j_iload_n C dX10_way_17 3 rfl rfl ?_
    refine j_callVi C (c_X9_isOpen n l1 l3 s1) cw_RX10_193 ⟨rfl, rfl, Nat.le_of_ble_eq_true rfl, Nat.le_of_ble_eq_true rfl⟩ 116 kX9 kc_116 lc_116 [.int l1, .int l3] [] rfl rfl rfl (Nat.le_of_ble_eq_true rfl) dX10_way_18 (fun x4 s3 => ?_)
    refine j_if_ne (tgt := 26) C dX10_way_21 (by decide) ?_ ?_
    · refine j_aload_n C dX10_way_26 0 rfl rfl ?_
      refine j_getA C kX10 kc_0 lc_0 6 (by decide) tw_481 rc_10_6 dX10_way_27 ?_
      refine j_iload_n C dX10_way_30 1 rfl rfl ?_
      refine j_iload_n C dX10_way_31 2 rfl rfl ?_
      refine j_iload_n C dX10_way_32 3 rfl rfl ?_
      refine j_callVi C (c_X9_boxesBetween n l1 l2 l3 s3) cw_RX10_203 ⟨rfl, rfl, Nat.le_of_ble_eq_true rfl, Nat.le_of_ble_eq_true rfl⟩ 116 kX9 kc_116 lc_116 [.int l1, .int l2, .int l3] [] rfl rfl rfl (Nat.le_of_ble_eq_true rfl) dX10_way_33 (fun x6 s5 => ?_)
      exact j_iret C CR dX10_way_36
    · refine j_sub (L' := []) [] rfl ?_
      exact jb_X10_way_24 C CR  n s3
set_option maxHeartbeats 4000000 in
theorem jb_X10_goal_28 {X : CtxT (Int32 × Mem)} (C : Cx YC X 4 cX10_goal RX10 (some .int) rm_X10_goal) (CR : CRi YC X)  (n : Nat)   (s : Mem) : J YC X 4 (b_X10_goal_28  n   s) 28 [] [] s := by
  unfold b_X10_goal_28
  refine j_iconst (v := (-1 : Int32)) C dX10_goal_28 (by decide) ?_
  exact j_iret C CR dX10_goal_29
set_option maxHeartbeats 4000000 in
theorem c_X10_goal (n : Nat) (l1 : Int32) (l2 : Int32) (l3 : Int32) (s : Mem) : CTi YC yX10_goal cX10_goal 4 (some .int) rm_X10_goal (fun ad => [.ref (ad 0), .int l1, .int l2, .int l3]) s (f_X10_goal n l1 l2 l3 s) := by
  refine CTi_of (by decide) (fun _ => Nat.le_of_ble_eq_true rfl) (fun X C CR => ?_)
  show J YC X 4 (f_X10_goal n l1 l2 l3 s) 0 [(0, .ref (adX X 0)), (1, .int l1), (2, .int l2), (3, .int l3)] [] s
  unfold f_X10_goal
  refine j_aload_n C dX10_goal_0 0 rfl rfl ?_
  refine j_getA C kX10 kc_0 lc_0 1 (by decide) tw_476 rc_10_1 dX10_goal_1 ?_
  refine j_getR (z := 28) C kX3 kc_16 lc_16 4 (by decide) tw_192 rc_3_4 rfl dX10_goal_4 ?_
  refine j_iload_n C dX10_goal_7 1 rfl rfl ?_
  refine j_callVi C (c_X2_has n 28 io_2_28 l1 s) cw_RX10_151 ⟨rfl, rfl, Nat.le_of_ble_eq_true rfl, Nat.le_of_ble_eq_true rfl⟩ 28 kX2 kc_28 lc_28 [.int l1] [] rfl rfl rfl (Nat.le_of_ble_eq_true rfl) dX10_goal_8 (fun x2 s1 => ?_)
  refine j_if_eq (tgt := 28) C dX10_goal_11 (by decide) ?_ ?_
  · refine j_sub (L' := []) [] rfl ?_
    exact jb_X10_goal_28 C CR  n s1
  · refine j_iload_n C dX10_goal_14 2 rfl rfl ?_
    refine j_callSi C (c_X10_isByte n l2 s1) cw_RX10_206 ⟨rfl, rfl, Nat.le_of_ble_eq_true rfl, Nat.le_of_ble_eq_true rfl⟩ [.int l2] [] rfl rfl rfl (Nat.le_of_ble_eq_true rfl) dX10_goal_15 (fun x4 s3 => ?_)
    refine j_if_eq (tgt := 28) C dX10_goal_18 (by decide) ?_ ?_
    · refine j_sub (L' := []) [] rfl ?_
      exact jb_X10_goal_28 C CR  n s3
    · refine j_iload_n C dX10_goal_21 3 rfl rfl ?_
      refine j_callSi C (c_X10_isByte n l3 s3) cw_RX10_206 ⟨rfl, rfl, Nat.le_of_ble_eq_true rfl, Nat.le_of_ble_eq_true rfl⟩ [.int l3] [] rfl rfl rfl (Nat.le_of_ble_eq_true rfl) dX10_goal_22 (fun x6 s5 => ?_)
      refine j_if_ne (tgt := 30) C dX10_goal_25 (by decide) ?_ ?_
      · refine j_aload_n C dX10_goal_30 0 rfl rfl ?_
        refine j_getA C kX10 kc_0 lc_0 6 (by decide) tw_481 rc_10_6 dX10_goal_31 ?_
        refine j_aload_n C dX10_goal_34 0 rfl rfl ?_
        refine j_getA C kX10 kc_0 lc_0 3 (by decide) tw_478 rc_10_3 dX10_goal_35 ?_
        refine j_getR (z := 41) C kX7 kc_33 lc_33 13 (by decide) tw_353 rc_7_13 rfl dX10_goal_38 ?_
        refine j_iload_n C dX10_goal_41 1 rfl rfl ?_
        refine j_aald4 C kc_41 lc_41 dX10_goal_42 (fun z7 e_z7 => ?_)
        have h_z7 : isO 0 z7 := (pe_7_8 _ io_7_33 _ e_z7)
        refine j_iload_n C dX10_goal_43 2 rfl rfl ?_
        refine j_iload_n C dX10_goal_44 3 rfl rfl ?_
        refine j_callVi C (c_X9_goalFor n z7 h_z7 l2 l3 s5) cw_RX10_209 ⟨rfl, rfl, Nat.le_of_ble_eq_true rfl, Nat.le_of_ble_eq_true rfl⟩ 116 kX9 kc_116 lc_116 [.ref (adX X z7), .int l2, .int l3] [] rfl rfl rfl (Nat.le_of_ble_eq_true rfl) dX10_goal_45 (fun x9 s8 => ?_)
        exact j_iret C CR dX10_goal_48
      · refine j_sub (L' := []) [] rfl ?_
        exact jb_X10_goal_28 C CR  n s5
set_option maxHeartbeats 4000000 in
theorem c_X10_count (n : Nat) (l1 : Int32) (s : Mem) : CTi YC yX10_count cX10_count 2 (some .int) rm_X10_count (fun ad => [.ref (ad 0), .int l1]) s (f_X10_count n l1 s) := by
  refine CTi_of (by decide) (fun _ => Nat.le_of_ble_eq_true rfl) (fun X C CR => ?_)
  show J YC X 2 (f_X10_count n l1 s) 0 [(0, .ref (adX X 0)), (1, .int l1)] [] s
  unfold f_X10_count
  refine j_iload_n C dX10_count_0 1 rfl rfl ?_
  refine j_ite (fun hc => ?_) (fun hc0 => ?_)
  · refine j_tswI (off := 63) (tgt := 64) C dX10_count_1 (by rw [hc]; decide) (by rw [hc]; decide) (by rw [hc]; rfl) (by decide) ?_
    refine j_aload_n C dX10_count_64 0 rfl rfl ?_
    refine j_getA C kX10 kc_0 lc_0 3 (by decide) tw_478 rc_10_3 dX10_count_65 ?_
    refine j_get C kX7 kc_33 lc_33 0 (by decide) tw_318 rc_7_0 dX10_count_68 ?_
    exact j_iret C CR dX10_count_71
  refine j_ite (fun hc => ?_) (fun hc1 => ?_)
  · refine j_tswI (off := 71) (tgt := 72) C dX10_count_1 (by rw [hc]; decide) (by rw [hc]; decide) (by rw [hc]; rfl) (by decide) ?_
    refine j_aload_n C dX10_count_72 0 rfl rfl ?_
    refine j_getA C kX10 kc_0 lc_0 3 (by decide) tw_478 rc_10_3 dX10_count_73 ?_
    refine j_callVi C (c_X7_runningSlots n 33 io_7_33 s) cw_RX10_229 ⟨rfl, rfl, Nat.le_of_ble_eq_true rfl, Nat.le_of_ble_eq_true rfl⟩ 33 kX7 kc_33 lc_33 [] [] rfl rfl rfl (Nat.le_of_ble_eq_true rfl) dX10_count_76 (fun x2 s1 => ?_)
    exact j_iret C CR dX10_count_79
  refine j_ite (fun hc => ?_) (fun hc2 => ?_)
  · refine j_tswI (off := 79) (tgt := 80) C dX10_count_1 (by rw [hc]; decide) (by rw [hc]; decide) (by rw [hc]; rfl) (by decide) ?_
    refine j_aload_n C dX10_count_80 0 rfl rfl ?_
    refine j_getA C kX10 kc_0 lc_0 3 (by decide) tw_478 rc_10_3 dX10_count_81 ?_
    refine j_get C kX7 kc_33 lc_33 5 (by decide) tw_331 rc_7_5 dX10_count_84 ?_
    exact j_iret C CR dX10_count_87
  refine j_ite (fun hc => ?_) (fun hc3 => ?_)
  · refine j_tswI (off := 87) (tgt := 88) C dX10_count_1 (by rw [hc]; decide) (by rw [hc]; decide) (by rw [hc]; rfl) (by decide) ?_
    refine j_aload_n C dX10_count_88 0 rfl rfl ?_
    refine j_getA C kX10 kc_0 lc_0 3 (by decide) tw_478 rc_10_3 dX10_count_89 ?_
    refine j_get C kX7 kc_33 lc_33 2 (by decide) tw_322 rc_7_2 dX10_count_92 ?_
    exact j_iret C CR dX10_count_95
  refine j_ite (fun hc => ?_) (fun hc4 => ?_)
  · refine j_tswI (off := 95) (tgt := 96) C dX10_count_1 (by rw [hc]; decide) (by rw [hc]; decide) (by rw [hc]; rfl) (by decide) ?_
    refine j_aload_n C dX10_count_96 0 rfl rfl ?_
    refine j_getA C kX10 kc_0 lc_0 3 (by decide) tw_478 rc_10_3 dX10_count_97 ?_
    refine j_get C kX7 kc_33 lc_33 3 (by decide) tw_325 rc_7_3 dX10_count_100 ?_
    exact j_iret C CR dX10_count_103
  refine j_ite (fun hc => ?_) (fun hc5 => ?_)
  · refine j_tswI (off := 103) (tgt := 104) C dX10_count_1 (by rw [hc]; decide) (by rw [hc]; decide) (by rw [hc]; rfl) (by decide) ?_
    refine j_aload_n C dX10_count_104 0 rfl rfl ?_
    refine j_getA C kX10 kc_0 lc_0 3 (by decide) tw_478 rc_10_3 dX10_count_105 ?_
    refine j_get C kX7 kc_33 lc_33 4 (by decide) tw_328 rc_7_4 dX10_count_108 ?_
    exact j_iret C CR dX10_count_111
  refine j_ite (fun hc => ?_) (fun hc6 => ?_)
  · refine j_tswI (off := 111) (tgt := 112) C dX10_count_1 (by rw [hc]; decide) (by rw [hc]; decide) (by rw [hc]; rfl) (by decide) ?_
    refine j_aload_n C dX10_count_112 0 rfl rfl ?_
    refine j_getA C kX10 kc_0 lc_0 3 (by decide) tw_478 rc_10_3 dX10_count_113 ?_
    refine j_get C kX7 kc_33 lc_33 1 (by decide) tw_320 rc_7_1 dX10_count_116 ?_
    exact j_iret C CR dX10_count_119
  refine j_ite (fun hc => ?_) (fun hc7 => ?_)
  · refine j_tswI (off := 119) (tgt := 120) C dX10_count_1 (by rw [hc]; decide) (by rw [hc]; decide) (by rw [hc]; rfl) (by decide) ?_
    refine j_aload_n C dX10_count_120 0 rfl rfl ?_
    refine j_getA C kX10 kc_0 lc_0 1 (by decide) tw_476 rc_10_1 dX10_count_121 ?_
    refine j_getR (z := 19) C kX3 kc_16 lc_16 1 (by decide) tw_179 rc_3_1 rfl dX10_count_124 ?_
    refine j_get C kX2 kc_19 lc_19 2 (by decide) tw_165 rc_2_2 dX10_count_127 ?_
    exact j_iret C CR dX10_count_130
  refine j_ite (fun hc => ?_) (fun hc8 => ?_)
  · refine j_tswI (off := 130) (tgt := 131) C dX10_count_1 (by rw [hc]; decide) (by rw [hc]; decide) (by rw [hc]; rfl) (by decide) ?_
    refine j_aload_n C dX10_count_131 0 rfl rfl ?_
    refine j_getA C kX10 kc_0 lc_0 1 (by decide) tw_476 rc_10_1 dX10_count_132 ?_
    refine j_getR (z := 22) C kX3 kc_16 lc_16 2 (by decide) tw_183 rc_3_2 rfl dX10_count_135 ?_
    refine j_get C kX2 kc_22 lc_22 2 (by decide) tw_165 rc_2_2 dX10_count_138 ?_
    exact j_iret C CR dX10_count_141
  refine j_ite (fun hc => ?_) (fun hc9 => ?_)
  · refine j_tswI (off := 141) (tgt := 142) C dX10_count_1 (by rw [hc]; decide) (by rw [hc]; decide) (by rw [hc]; rfl) (by decide) ?_
    refine j_aload_n C dX10_count_142 0 rfl rfl ?_
    refine j_getA C kX10 kc_0 lc_0 1 (by decide) tw_476 rc_10_1 dX10_count_143 ?_
    refine j_getR (z := 25) C kX3 kc_16 lc_16 3 (by decide) tw_186 rc_3_3 rfl dX10_count_146 ?_
    refine j_get C kX2 kc_25 lc_25 2 (by decide) tw_165 rc_2_2 dX10_count_149 ?_
    exact j_iret C CR dX10_count_152
  refine j_ite (fun hc => ?_) (fun hc10 => ?_)
  · refine j_tswI (off := 152) (tgt := 153) C dX10_count_1 (by rw [hc]; decide) (by rw [hc]; decide) (by rw [hc]; rfl) (by decide) ?_
    refine j_aload_n C dX10_count_153 0 rfl rfl ?_
    refine j_getA C kX10 kc_0 lc_0 1 (by decide) tw_476 rc_10_1 dX10_count_154 ?_
    refine j_getR (z := 28) C kX3 kc_16 lc_16 4 (by decide) tw_192 rc_3_4 rfl dX10_count_157 ?_
    refine j_get C kX2 kc_28 lc_28 2 (by decide) tw_165 rc_2_2 dX10_count_160 ?_
    exact j_iret C CR dX10_count_163
  refine j_ite (fun hc => ?_) (fun hc11 => ?_)
  · refine j_tswI (off := 163) (tgt := 164) C dX10_count_1 (by rw [hc]; decide) (by rw [hc]; decide) (by rw [hc]; rfl) (by decide) ?_
    refine j_aload_n C dX10_count_164 0 rfl rfl ?_
    refine j_getA C kX10 kc_0 lc_0 0 (by decide) tw_475 rc_10_0 dX10_count_165 ?_
    refine j_getR (z := 2) C kX3 kc_1 lc_1 0 (by decide) tw_174 rc_3_0 rfl dX10_count_168 ?_
    refine j_get C kX8 kc_2 lc_2 1 (by decide) tw_144 rc_8_1 dX10_count_171 ?_
    exact j_iret C CR dX10_count_174
  refine j_tswO (tgt := 175) C dX10_count_1 (by omega) (by decide) ?_
  refine j_iconst (v := (-1 : Int32)) C dX10_count_175 (by decide) ?_
  exact j_iret C CR dX10_count_176
set_option maxHeartbeats 4000000 in
theorem c_X10_keep (n : Nat)  (s : Mem) : CTi YC yX10_keep cX10_keep 1 (some .boolean) rm_X10_keep (fun ad => [.ref (ad 0)]) s (f_X10_keep n  s) := by
  refine CTi_of (by decide) (fun _ => Nat.le_of_ble_eq_true rfl) (fun X C CR => ?_)
  show J YC X 1 (f_X10_keep n  s) 0 [(0, .ref (adX X 0))] [] s
  unfold f_X10_keep
  refine j_aload_n C dX10_keep_0 0 rfl rfl ?_
  refine j_getA C kX10 kc_0 lc_0 4 (by decide) tw_479 rc_10_4 dX10_keep_1 ?_
  refine j_aload_n C dX10_keep_4 0 rfl rfl ?_
  refine j_getA C kX10 kc_0 lc_0 3 (by decide) tw_478 rc_10_3 dX10_keep_5 ?_
  refine j_callVn C (c_X7_copyFrom n 71 io_7_71 33 io_7_33 s) cw_RX10_248 ⟨rfl, rfl, Nat.le_of_ble_eq_true rfl, Nat.le_of_ble_eq_true rfl⟩ 71 kX7 kc_71 lc_71 [.ref (adX X 33)] [] rfl rfl rfl (Nat.le_of_ble_eq_true rfl) dX10_keep_8 (fun s1 => ?_)
  refine j_aload_n C dX10_keep_11 0 rfl rfl ?_
  refine j_iconst (v := (1 : Int32)) C dX10_keep_12 (by decide) ?_
  refine j_putZ C kX10 kc_0 lc_0 8 (by decide) tw_483 rc_10_8 rfl rfl dX10_keep_13 (fun s2 => ?_)
  refine j_iconst (v := (1 : Int32)) C dX10_keep_16 (by decide) ?_
  exact j_zret C CR dX10_keep_17
set_option maxHeartbeats 4000000 in
theorem jb_X10_back_18 {X : CtxT (Int32 × Mem)} (C : Cx YC X 1 cX10_back RX10 (some .boolean) rm_X10_back) (CR : CRi YC X)  (n : Nat)   (s : Mem) : J YC X 1 (b_X10_back_18  n   s) 18 [(0, .ref (adX X 0))] [] s := by
  unfold b_X10_back_18
  refine j_aload_n C dX10_back_18 0 rfl rfl ?_
  refine j_get C kX10 kc_0 lc_0 8 (by decide) tw_483 rc_10_8 dX10_back_19 ?_
  exact j_zret C CR dX10_back_22
set_option maxHeartbeats 4000000 in
theorem c_X10_back (n : Nat)  (s : Mem) : CTi YC yX10_back cX10_back 1 (some .boolean) rm_X10_back (fun ad => [.ref (ad 0)]) s (f_X10_back n  s) := by
  refine CTi_of (by decide) (fun _ => Nat.le_of_ble_eq_true rfl) (fun X C CR => ?_)
  show J YC X 1 (f_X10_back n  s) 0 [(0, .ref (adX X 0))] [] s
  unfold f_X10_back
  refine j_aload_n C dX10_back_0 0 rfl rfl ?_
  refine j_get C kX10 kc_0 lc_0 8 (by decide) tw_483 rc_10_8 dX10_back_1 ?_
  refine j_if_eq (tgt := 18) C dX10_back_4 (by decide) ?_ ?_
  · exact jb_X10_back_18 C CR  n s
  · refine j_aload_n C dX10_back_7 0 rfl rfl ?_
    refine j_getA C kX10 kc_0 lc_0 3 (by decide) tw_478 rc_10_3 dX10_back_8 ?_
    refine j_aload_n C dX10_back_11 0 rfl rfl ?_
    refine j_getA C kX10 kc_0 lc_0 4 (by decide) tw_479 rc_10_4 dX10_back_12 ?_
    refine j_callVn C (c_X7_copyFrom n 33 io_7_33 71 io_7_71 s) cw_RX10_248 ⟨rfl, rfl, Nat.le_of_ble_eq_true rfl, Nat.le_of_ble_eq_true rfl⟩ 33 kX7 kc_33 lc_33 [.ref (adX X 71)] [] rfl rfl rfl (Nat.le_of_ble_eq_true rfl) dX10_back_15 (fun s1 => ?_)
    exact jb_X10_back_18 C CR  n s1
set_option maxHeartbeats 4000000 in
theorem c_J6_signum_0f7a4 (Y : Lay) (n : Nat) (l0 : Int32) (s : Mem) : CTi Y yJ6_signum_0f7a4 cJ6_signum_0f7a4 1 (some .int) rm_J6_signum_0f7a4 (fun ad => [.int l0]) s (f_J6_signum_0f7a4 n l0 s) := by
  refine CTi_of (by decide) (fun _ => Nat.le_of_ble_eq_true rfl) (fun X C CR => ?_)
  show J Y X 1 (f_J6_signum_0f7a4 n l0 s) 0 [(0, .int l0)] [] s
  unfold f_J6_signum_0f7a4
  refine j_iload_n C dJ6_signum_0f7a4_0 0 rfl rfl ?_
  refine j_bipush (v := (31 : Int32)) C dJ6_signum_0f7a4_1 (by decide) ?_
  refine j_ishr C dJ6_signum_0f7a4_3 ?_
  refine j_iload_n C dJ6_signum_0f7a4_4 0 rfl rfl ?_
  refine j_ineg C dJ6_signum_0f7a4_5 ?_
  refine j_bipush (v := (31 : Int32)) C dJ6_signum_0f7a4_6 (by decide) ?_
  refine j_iushr C dJ6_signum_0f7a4_8 ?_
  refine j_ior C dJ6_signum_0f7a4_9 ?_
  exact j_iret C CR dJ6_signum_0f7a4_10
