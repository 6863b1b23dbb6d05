set_option maxHeartbeats 4000000 in
theorem c_X11_thrown (b : Bool) (n : Nat)  (s : Mem) : CTi (YM b) yX11_thrown cX11_thrown 1 (some .int) rm_X11_thrown (fun ad => [.ref (ad 0)]) s (f_X11_thrown n  s) := by
  refine CTi_of (by decide) (fun _ => Nat.le_of_ble_eq_true rfl) (fun X C CR => ?_)
  show J (YM b) X 1 (f_X11_thrown n  s) 0 [(0, .ref (adX X 0))] [] s
  unfold f_X11_thrown
  refine j_aload_n C dX11_thrown_0 0 rfl rfl ?_
  refine j_get C kX11 (km_0 b) (lm_0 b) 0 (by decide) tw_1193 (rm_0 b) dX11_thrown_1 ?_
  exact j_iret C CR dX11_thrown_4
set_option maxHeartbeats 4000000 in
theorem jb_X11_in_18 {b : Bool} {X : CtxT (Int32 × Mem)} (C : Cx (YM b) X 6 cX11_in RX11 (some .boolean) rm_X11_in) (CR : CRi (YM b) X)  (n : Nat)  (t0 : Int32) (s : Mem) : J (YM b) X 6 (b_X11_in_18  n  t0 s) 18 [] [.int t0] s := by
  unfold b_X11_in_18
  exact j_zret C CR dX11_in_18
set_option maxHeartbeats 4000000 in
theorem jb_X11_in_17 {b : Bool} {X : CtxT (Int32 × Mem)} (C : Cx (YM b) X 6 cX11_in RX11 (some .boolean) rm_X11_in) (CR : CRi (YM b) X)  (n : Nat)   (s : Mem) : J (YM b) X 6 (b_X11_in_17  n   s) 17 [] [] s := by
  unfold b_X11_in_17
  refine j_iconst (v := (0 : Int32)) C dX11_in_17 (by decide) ?_
  exact jb_X11_in_18 C CR  n (0 : Int32) s
set_option maxHeartbeats 4000000 in
theorem c_X11_in (b : Bool) (n : Nat) (l0 : Int64) (l2 : Int64) (l4 : Int64) (s : Mem) : CTi (YM b) yX11_in cX11_in 6 (some .boolean) rm_X11_in (fun ad => [.long l0, .long l2, .long l4]) s (f_X11_in n l0 l2 l4 s) := by
  refine CTi_of (by decide) (fun _ => Nat.le_of_ble_eq_true rfl) (fun X C CR => ?_)
  show J (YM b) X 6 (f_X11_in n l0 l2 l4 s) 0 [(0, .long l0), (2, .long l2), (4, .long l4)] [] s
  unfold f_X11_in
  refine j_lload_n C dX11_in_0 0 rfl rfl ?_
  refine j_lload_n C dX11_in_1 1 rfl rfl ?_
  refine j_lcmp C dX11_in_2 ?_
  refine j_if_lt (tgt := 17) C dX11_in_3 (by decide) ?_ ?_
  · refine j_sub (L' := []) [] rfl ?_
    exact jb_X11_in_17 C CR  n s
  · refine j_lload_n C dX11_in_6 0 rfl rfl ?_
    refine j_lload C dX11_in_7 2 rfl ?_
    refine j_lcmp C dX11_in_9 ?_
    refine j_if_gt (tgt := 17) C dX11_in_10 (by decide) ?_ ?_
    · refine j_sub (L' := []) [] rfl ?_
      exact jb_X11_in_17 C CR  n s
    · refine j_iconst (v := (1 : Int32)) C dX11_in_13 (by decide) ?_
      refine j_goto (tgt := 18) C dX11_in_14 (by decide) ?_
      refine j_sub (L' := []) [] rfl ?_
      exact jb_X11_in_18 C CR  n (1 : Int32) s
set_option maxHeartbeats 4000000 in
theorem c_X11_refuse (b : Bool) (n : Nat)  (s : Mem) : CTi (YM b) yX11_refuse cX11_refuse 1 (some .int) rm_X11_refuse (fun ad => [.ref (ad 0)]) s (f_X11_refuse n  s) := by
  refine CTi_of (by decide) (fun _ => Nat.le_of_ble_eq_true rfl) (fun X C CR => ?_)
  show J (YM b) X 1 (f_X11_refuse n  s) 0 [(0, .ref (adX X 0))] [] s
  unfold f_X11_refuse
  refine j_aload_n C dX11_refuse_0 0 rfl rfl ?_
  refine j_iconst (v := (1 : Int32)) C dX11_refuse_1 (by decide) ?_
  refine j_put C kX11 (km_0 b) (lm_0 b) 0 (by decide) tw_1193 (rm_0 b) rfl rfl dX11_refuse_2 (fun s1 => ?_)
  refine j_iconst (v := (0 : Int32)) C dX11_refuse_5 (by decide) ?_
  exact j_iret C CR dX11_refuse_6
set_option maxHeartbeats 4000000 in
theorem jb_X11_feed_73 {b : Bool} {X : CtxT (Int32 × Mem)} (C : Cx (YM b) X 8 cX11_feed RX11 (some .int) rm_X11_feed) (CR : CRi (YM b) X) (k20 : Int32 → Int32 → Int32 → Int32 → Int32 → Int32 → Mem → Option (Int32 × Mem)) (hk20 : ∀ (l1 : Int32) (l2 : Int32) (l3 : Int32) (l4 : Int32) (l5 : Int32) (l6 : Int32) (s : Mem), J (YM b) X 8 (k20 l1 l2 l3 l4 l5 l6 s) 20 [(0, .ref (adX X 0)), (1, .int l1), (2, .int l2), (3, .int l3), (4, .int l4), (5, .int l5), (6, .int l6)] [] s) (n : Nat)  (l1 : Int32) (l2 : Int32) (l3 : Int32) (l4 : Int32) (l5 : Int32) (l6 : Int32) (t0 : Int32) (s : Mem) : J (YM b) X 8 (b_X11_feed_73 k20 n  l1 l2 l3 l4 l5 l6 t0 s) 73 [(0, .ref (adX X 0)), (1, .int l1), (2, .int l2), (3, .int l3), (4, .int l4), (5, .int l5), (6, .int l6)] [.int t0] s := by
  unfold b_X11_feed_73
  refine j_istore (L' := [(0, .ref (adX X 0)), (1, .int l1), (2, .int l2), (3, .int l3), (4, .int l4), (5, .int l5), (6, .int l6), (7, .int t0)]) C dX11_feed_73 (by decide) [1, 2, 3, 4, 5, 6, 7, 0] rfl ?_
  refine j_aload_n C dX11_feed_75 0 rfl rfl ?_
  refine j_getR (z := 1) C kX11 (km_0 b) (lm_0 b) 1 (by decide) tw_1194 (rm_1 b) rfl dX11_feed_76 ?_
  refine j_aload_n C dX11_feed_79 0 rfl rfl ?_
  refine j_get C kX11 (km_0 b) (lm_0 b) 2 (by decide) tw_1195 (rm_2 b) dX11_feed_80 ?_
  refine j_iload C dX11_feed_83 6 rfl ?_
  refine j_iadd C dX11_feed_85 ?_
  refine j_iload C dX11_feed_86 7 rfl ?_
  refine j_bipush (v := (24 : Int32)) C dX11_feed_88 (by decide) ?_
  refine j_bipush (v := (8 : Int32)) C dX11_feed_90 (by decide) ?_
  refine j_iload C dX11_feed_92 6 rfl ?_
  refine j_iconst (v := (4 : Int32)) C dX11_feed_94 (by decide) ?_
  refine j_irem C dX11_feed_95 ?_
  refine j_imul C dX11_feed_96 ?_
  refine j_isub C dX11_feed_97 ?_
  refine j_ishr C dX11_feed_98 ?_
  refine j_sipush (v := (255 : Int32)) C dX11_feed_99 (by decide) ?_
  refine j_iand C dX11_feed_102 ?_
  refine j_iast C (km_1 b) (lm_1 b) dX11_feed_103 (fun s1 => ?_)
  refine j_iinc (L2 := fun x2 => [(0, .ref (adX X 0)), (1, .int l1), (2, .int l2), (3, .int l3), (4, .int l4), (5, .int l5), (6, .int x2), (7, .int t0)]) C dX11_feed_104 6 rfl (by decide) [1, 2, 3, 4, 5, 6, 0, 7] (fun _ => rfl) (fun x2 => ?_)
  refine j_goto (tgt := 20) C dX11_feed_107 (by decide) ?_
  refine j_sub (L' := [(0, .ref (adX X 0)), (1, .int l1), (2, .int l2), (3, .int l3), (4, .int l4), (5, .int l5), (6, .int x2)]) [0, 1, 2, 3, 4, 5, 6] rfl ?_
  exact hk20 l1 l2 l3 l4 l5 x2 s1
set_option maxHeartbeats 4000000 in
theorem jb_X11_feed_20 {b : Bool} {X : CtxT (Int32 × Mem)} (C : Cx (YM b) X 8 cX11_feed RX11 (some .int) rm_X11_feed) (CR : CRi (YM b) X)  (n : Nat) (k20 : Int32 → Int32 → Int32 → Int32 → Int32 → Int32 → Mem → Option (Int32 × Mem)) (hk20 : ∀ (l1 : Int32) (l2 : Int32) (l3 : Int32) (l4 : Int32) (l5 : Int32) (l6 : Int32) (s : Mem), J (YM b) X 8 (k20 l1 l2 l3 l4 l5 l6 s) 20 [(0, .ref (adX X 0)), (1, .int l1), (2, .int l2), (3, .int l3), (4, .int l4), (5, .int l5), (6, .int l6)] [] s) (l1 : Int32) (l2 : Int32) (l3 : Int32) (l4 : Int32) (l5 : Int32) (l6 : Int32) (s : Mem) : J (YM b) X 8 (b_X11_feed_20  n k20 l1 l2 l3 l4 l5 l6 s) 20 [(0, .ref (adX X 0)), (1, .int l1), (2, .int l2), (3, .int l3), (4, .int l4), (5, .int l5), (6, .int l6)] [] s := by
  unfold b_X11_feed_20
  refine j_iload C dX11_feed_20 6 rfl ?_
  refine j_bipush (v := (20 : Int32)) C dX11_feed_22 (by decide) ?_
  refine j_icmp_ge (tgt := 110) C dX11_feed_24 (by decide) ?_ ?_
  · refine j_aload_n C dX11_feed_110 0 rfl rfl ?_
    refine j_dup C dX11_feed_111 rfl ?_
    refine j_get C kX11 (km_0 b) (lm_0 b) 2 (by decide) tw_1195 (rm_2 b) dX11_feed_112 ?_
    refine j_bipush (v := (20 : Int32)) C dX11_feed_115 (by decide) ?_
    refine j_iadd C dX11_feed_117 ?_
    refine j_put C kX11 (km_0 b) (lm_0 b) 2 (by decide) tw_1195 (rm_2 b) rfl rfl dX11_feed_118 (fun s1 => ?_)
    refine j_aload_n C dX11_feed_121 0 rfl rfl ?_
    refine j_get C kX11 (km_0 b) (lm_0 b) 2 (by decide) tw_1195 (rm_2 b) dX11_feed_122 ?_
    exact j_iret C CR dX11_feed_125
  · refine j_iload C dX11_feed_27 6 rfl ?_
    refine j_iconst (v := (4 : Int32)) C dX11_feed_29 (by decide) ?_
    refine j_icmp_ge (tgt := 37) C dX11_feed_30 (by decide) ?_ ?_
    · refine j_iload C dX11_feed_37 6 rfl ?_
      refine j_bipush (v := (8 : Int32)) C dX11_feed_39 (by decide) ?_
      refine j_icmp_ge (tgt := 48) C dX11_feed_41 (by decide) ?_ ?_
      · refine j_iload C dX11_feed_48 6 rfl ?_
        refine j_bipush (v := (12 : Int32)) C dX11_feed_50 (by decide) ?_
        refine j_icmp_ge (tgt := 59) C dX11_feed_52 (by decide) ?_ ?_
        · refine j_iload C dX11_feed_59 6 rfl ?_
          refine j_bipush (v := (16 : Int32)) C dX11_feed_61 (by decide) ?_
          refine j_icmp_ge (tgt := 71) C dX11_feed_63 (by decide) ?_ ?_
          · refine j_iload C dX11_feed_71 5 rfl ?_
            exact jb_X11_feed_73 C CR k20 hk20 n l1 l2 l3 l4 l5 l6 l5 s
          · refine j_iload C dX11_feed_66 4 rfl ?_
            refine j_goto (tgt := 73) C dX11_feed_68 (by decide) ?_
            exact jb_X11_feed_73 C CR k20 hk20 n l1 l2 l3 l4 l5 l6 l4 s
        · refine j_iload_n C dX11_feed_55 3 rfl rfl ?_
          refine j_goto (tgt := 73) C dX11_feed_56 (by decide) ?_
          exact jb_X11_feed_73 C CR k20 hk20 n l1 l2 l3 l4 l5 l6 l3 s
      · refine j_iload_n C dX11_feed_44 2 rfl rfl ?_
        refine j_goto (tgt := 73) C dX11_feed_45 (by decide) ?_
        exact jb_X11_feed_73 C CR k20 hk20 n l1 l2 l3 l4 l5 l6 l2 s
    · refine j_iload_n C dX11_feed_33 1 rfl rfl ?_
      refine j_goto (tgt := 73) C dX11_feed_34 (by decide) ?_
      exact jb_X11_feed_73 C CR k20 hk20 n l1 l2 l3 l4 l5 l6 l1 s
theorem lb_X11_feed_20 {b : Bool} {X : CtxT (Int32 × Mem)} (C : Cx (YM b) X 8 cX11_feed RX11 (some .int) rm_X11_feed) (CR : CRi (YM b) X)  : ∀ (n : Nat) (l1 : Int32) (l2 : Int32) (l3 : Int32) (l4 : Int32) (l5 : Int32) (l6 : Int32) (s : Mem), J (YM b) X 8 (itr6 (b_X11_feed_20) n l1 l2 l3 l4 l5 l6 s) 20 [(0, .ref (adX X 0)), (1, .int l1), (2, .int l2), (3, .int l3), (4, .int l4), (5, .int l5), (6, .int l6)] [] s := by
  intro n
  induction n with
  | zero => intros; exact j_none
  | succ n ih =>
    intro l1 l2 l3 l4 l5 l6 s
    exact jb_X11_feed_20 C CR  n _ ih l1 l2 l3 l4 l5 l6 s
set_option maxHeartbeats 4000000 in
theorem c_X11_feed (b : Bool) (n : Nat) (l1 : Int32) (l2 : Int32) (l3 : Int32) (l4 : Int32) (l5 : Int32) (s : Mem) : CTi (YM b) yX11_feed cX11_feed 8 (some .int) rm_X11_feed (fun ad => [.ref (ad 0), .int l1, .int l2, .int l3, .int l4, .int l5]) s (f_X11_feed n l1 l2 l3 l4 l5 s) := by
  refine CTi_of (by decide) (fun _ => Nat.le_of_ble_eq_true rfl) (fun X C CR => ?_)
  show J (YM b) X 8 (f_X11_feed n l1 l2 l3 l4 l5 s) 0 [(0, .ref (adX X 0)), (1, .int l1), (2, .int l2), (3, .int l3), (4, .int l4), (5, .int l5)] [] s
  unfold f_X11_feed
  refine j_aload_n C dX11_feed_0 0 rfl rfl ?_
  refine j_iconst (v := (0 : Int32)) C dX11_feed_1 (by decide) ?_
  refine j_put C kX11 (km_0 b) (lm_0 b) 0 (by decide) tw_1193 (rm_0 b) rfl rfl dX11_feed_2 (fun s1 => ?_)
  refine j_aload_n C dX11_feed_5 0 rfl rfl ?_
  refine j_get C kX11 (km_0 b) (lm_0 b) 2 (by decide) tw_1195 (rm_2 b) dX11_feed_6 ?_
  refine j_sipush (v := (5980 : Int32)) C dX11_feed_9 (by decide) ?_
  refine j_icmp_le (tgt := 17) C dX11_feed_12 (by decide) ?_ ?_
  · refine j_iconst (v := (0 : Int32)) C dX11_feed_17 (by decide) ?_
    refine j_istore (L' := [(0, .ref (adX X 0)), (1, .int l1), (2, .int l2), (3, .int l3), (4, .int l4), (5, .int l5), (6, .int (0 : Int32))]) C dX11_feed_18 (by decide) [1, 2, 3, 4, 5, 6, 0] rfl ?_
    exact lb_X11_feed_20 C CR  n l1 l2 l3 l4 l5 (0 : Int32) s1
  · refine j_iconst (v := (-1 : Int32)) C dX11_feed_15 (by decide) ?_
    exact j_iret C CR dX11_feed_16
set_option maxHeartbeats 4000000 in
theorem c_X11_end (b : Bool) (n : Nat) (l1 : Int32) (s : Mem) : CTi (YM b) yX11_end cX11_end 2 (some .boolean) rm_X11_end (fun ad => [.ref (ad 0), .int l1]) s (f_X11_end n l1 s) := by
  refine CTi_of (by decide) (fun _ => Nat.le_of_ble_eq_true rfl) (fun X C CR => ?_)
  show J (YM b) X 2 (f_X11_end n l1 s) 0 [(0, .ref (adX X 0)), (1, .int l1)] [] s
  unfold f_X11_end
  refine j_aload_n C dX11_end_0 0 rfl rfl ?_
  refine j_iconst (v := (0 : Int32)) C dX11_end_1 (by decide) ?_
  refine j_put C kX11 (km_0 b) (lm_0 b) 0 (by decide) tw_1193 (rm_0 b) rfl rfl dX11_end_2 (fun s1 => ?_)
  refine j_iload_n C dX11_end_5 1 rfl rfl ?_
  refine j_i2l C dX11_end_6 ?_
  refine j_lconst (v := 0) C dX11_end_7 (by decide) ?_
  refine j_aload_n C dX11_end_8 0 rfl rfl ?_
  refine j_get C kX11 (km_0 b) (lm_0 b) 2 (by decide) tw_1195 (rm_2 b) dX11_end_9 ?_
  refine j_i2l C dX11_end_12 ?_
  refine j_callSi C (c_X11_in b n l1.toInt64 (0 : Int64) ((s1 0 2).toInt64) s1) cw_RX11_72 ⟨rfl, rfl, Nat.le_of_ble_eq_true rfl, Nat.le_of_ble_eq_true rfl⟩ [.long l1.toInt64, .long (0 : Int64), .long ((s1 0 2).toInt64)] [] rfl rfl rfl (Nat.le_of_ble_eq_true rfl) dX11_end_13 (fun x3 s2 => ?_)
  refine j_if_ne (tgt := 21) C dX11_end_16 (by decide) ?_ ?_
  · refine j_aload_n C dX11_end_21 0 rfl rfl ?_
    refine j_iload_n C dX11_end_22 1 rfl rfl ?_
    refine j_put C kX11 (km_0 b) (lm_0 b) 2 (by decide) tw_1195 (rm_2 b) rfl rfl dX11_end_23 (fun s4 => ?_)
    refine j_iconst (v := (1 : Int32)) C dX11_end_26 (by decide) ?_
    exact j_zret C CR dX11_end_27
  · refine j_iconst (v := (0 : Int32)) C dX11_end_19 (by decide) ?_
    exact j_zret C CR dX11_end_20
set_option maxHeartbeats 4000000 in
theorem jb_X11_flaw_17 {b : Bool} {X : CtxT Mem} (C : Cx (YM b) X 3 cX11_flaw RX11 none rm_X11_flaw) (CR : CRn (YM b) X)  (n : Nat)   (s : Mem) : J (YM b) X 3 (b_X11_flaw_17  n   s) 17 [] [] s := by
  unfold b_X11_flaw_17
  exact j_vret C CR dX11_flaw_17
set_option maxHeartbeats 4000000 in
theorem c_X11_flaw (b : Bool) (n : Nat) (l1 : Int32) (l2 : Int32) (s : Mem) : CTn (YM b) yX11_flaw cX11_flaw 3 none rm_X11_flaw (fun ad => [.ref (ad 0), .int l1, .int l2]) s (f_X11_flaw n l1 l2 s) := by
  refine CTn_of (by decide) (fun _ => Nat.le_of_ble_eq_true rfl) (fun X C CR => ?_)
  show J (YM b) X 3 (f_X11_flaw n l1 l2 s) 0 [(0, .ref (adX X 0)), (1, .int l1), (2, .int l2)] [] s
  unfold f_X11_flaw
  refine j_aload_n C dX11_flaw_0 0 rfl rfl ?_
  refine j_get C kX11 (km_0 b) (lm_0 b) 19 (by decide) tw_1212 (rm_19 b) dX11_flaw_1 ?_
  refine j_if_ne (tgt := 17) C dX11_flaw_4 (by decide) ?_ ?_
  · refine j_sub (L' := []) [] rfl ?_
    exact jb_X11_flaw_17 C CR  n s
  · refine j_aload_n C dX11_flaw_7 0 rfl rfl ?_
    refine j_iload_n C dX11_flaw_8 1 rfl rfl ?_
    refine j_put C kX11 (km_0 b) (lm_0 b) 19 (by decide) tw_1212 (rm_19 b) rfl rfl dX11_flaw_9 (fun s1 => ?_)
    refine j_aload_n C dX11_flaw_12 0 rfl rfl ?_
    refine j_iload_n C dX11_flaw_13 2 rfl rfl ?_
    refine j_put C kX11 (km_0 b) (lm_0 b) 20 (by decide) tw_1213 (rm_20 b) rfl rfl dX11_flaw_14 (fun s2 => ?_)
    refine j_sub (L' := []) [] rfl ?_
    exact jb_X11_flaw_17 C CR  n s2
set_option maxHeartbeats 4000000 in
theorem c_X11_wants (b : Bool) (n : Nat) (l1 : Int32) (l2 : Int32) (s : Mem) : CTi (YM b) yX11_wants cX11_wants 4 (some .int) rm_X11_wants (fun ad => [.ref (ad 0), .int l1, .int l2]) s (f_X11_wants n l1 l2 s) := by
  refine CTi_of (by decide) (fun _ => Nat.le_of_ble_eq_true rfl) (fun X C CR => ?_)
  show J (YM b) X 4 (f_X11_wants n l1 l2 s) 0 [(0, .ref (adX X 0)), (1, .int l1), (2, .int l2)] [] s
  unfold f_X11_wants
  refine j_aload_n C dX11_wants_0 0 rfl rfl ?_
  refine j_get C kX11 (km_0 b) (lm_0 b) 19 (by decide) tw_1212 (rm_19 b) dX11_wants_1 ?_
  refine j_if_eq (tgt := 9) C dX11_wants_4 (by decide) ?_ ?_
  · refine j_aload_n C dX11_wants_9 0 rfl rfl ?_
    refine j_get C kX11 (km_0 b) (lm_0 b) 22 (by decide) tw_1215 (rm_22 b) dX11_wants_10 ?_
    refine j_aload_n C dX11_wants_13 0 rfl rfl ?_
    refine j_get C kX11 (km_0 b) (lm_0 b) 23 (by decide) tw_1216 (rm_23 b) dX11_wants_14 ?_
    refine j_icmp_ne (tgt := 31) C dX11_wants_17 (by decide) ?_ ?_
    · refine j_aload_n C dX11_wants_31 0 rfl rfl ?_
      refine j_getR (z := 1) C kX11 (km_0 b) (lm_0 b) 1 (by decide) tw_1194 (rm_1 b) rfl dX11_wants_32 ?_
      refine j_aload_n C dX11_wants_35 0 rfl rfl ?_
      refine j_get C kX11 (km_0 b) (lm_0 b) 22 (by decide) tw_1215 (rm_22 b) dX11_wants_36 ?_
      refine j_iald C (km_1 b) (lm_1 b) dX11_wants_39 ?_
      refine j_istore_n (L' := [(0, .ref (adX X 0)), (1, .int l1), (2, .int l2), (3, .int (s 1 (s 0 22).toNatClampNeg))]) C dX11_wants_40 rfl (by decide) [1, 2, 3, 0] rfl ?_
      refine j_iload_n C dX11_wants_41 3 rfl rfl ?_
      refine j_i2l C dX11_wants_42 ?_
      refine j_iload_n C dX11_wants_43 1 rfl rfl ?_
      refine j_i2l C dX11_wants_44 ?_
      refine j_iload_n C dX11_wants_45 2 rfl rfl ?_
      refine j_i2l C dX11_wants_46 ?_
      refine j_callSi C (c_X11_in b n ((s 1 (s 0 22).toNatClampNeg).toInt64) l1.toInt64 l2.toInt64 s) cw_RX11_72 ⟨rfl, rfl, Nat.le_of_ble_eq_true rfl, Nat.le_of_ble_eq_true rfl⟩ [.long ((s 1 (s 0 22).toNatClampNeg).toInt64), .long l1.toInt64, .long l2.toInt64] [] rfl rfl rfl (Nat.le_of_ble_eq_true rfl) dX11_wants_47 (fun x2 s1 => ?_)
      refine j_if_ne (tgt := 64) C dX11_wants_50 (by decide) ?_ ?_
      · refine j_aload_n C dX11_wants_64 0 rfl rfl ?_
        refine j_dup C dX11_wants_65 rfl ?_
        refine j_get C kX11 (km_0 b) (lm_0 b) 22 (by decide) tw_1215 (rm_22 b) dX11_wants_66 ?_
        refine j_iconst (v := (1 : Int32)) C dX11_wants_69 (by decide) ?_
        refine j_iadd C dX11_wants_70 ?_
        refine j_put C kX11 (km_0 b) (lm_0 b) 22 (by decide) tw_1215 (rm_22 b) rfl rfl dX11_wants_71 (fun s3 => ?_)
        refine j_iload_n C dX11_wants_74 3 rfl rfl ?_
        exact j_iret C CR dX11_wants_75
      · refine j_aload_n C dX11_wants_53 0 rfl rfl ?_
        refine j_iconst (v := (4 : Int32)) C dX11_wants_54 (by decide) ?_
        refine j_aload_n C dX11_wants_55 0 rfl rfl ?_
        refine j_get C kX11 (km_0 b) (lm_0 b) 22 (by decide) tw_1215 (rm_22 b) dX11_wants_56 ?_
        refine j_callVn C (c_X11_flaw b n (4 : Int32) (s1 0 22) s1) cw_RX11_88 ⟨rfl, rfl, Nat.le_of_ble_eq_true rfl, Nat.le_of_ble_eq_true rfl⟩ 0 kX11 (km_0 b) (lm_0 b) [.int (4 : Int32), .int (s1 0 22)] [] rfl rfl rfl (Nat.le_of_ble_eq_true rfl) dX11_wants_59 (fun s4 => ?_)
        refine j_iconst (v := (0 : Int32)) C dX11_wants_62 (by decide) ?_
        exact j_iret C CR dX11_wants_63
    · refine j_aload_n C dX11_wants_20 0 rfl rfl ?_
      refine j_iconst (v := (4 : Int32)) C dX11_wants_21 (by decide) ?_
      refine j_aload_n C dX11_wants_22 0 rfl rfl ?_
      refine j_get C kX11 (km_0 b) (lm_0 b) 23 (by decide) tw_1216 (rm_23 b) dX11_wants_23 ?_
      refine j_callVn C (c_X11_flaw b n (4 : Int32) (s 0 23) s) cw_RX11_88 ⟨rfl, rfl, Nat.le_of_ble_eq_true rfl, Nat.le_of_ble_eq_true rfl⟩ 0 kX11 (km_0 b) (lm_0 b) [.int (4 : Int32), .int (s 0 23)] [] rfl rfl rfl (Nat.le_of_ble_eq_true rfl) dX11_wants_26 (fun s5 => ?_)
      refine j_iconst (v := (0 : Int32)) C dX11_wants_29 (by decide) ?_
      exact j_iret C CR dX11_wants_30
  · refine j_iconst (v := (0 : Int32)) C dX11_wants_7 (by decide) ?_
    exact j_iret C CR dX11_wants_8
set_option maxHeartbeats 4000000 in
theorem jb_X11_names_41 {b : Bool} {X : CtxT Mem} (C : Cx (YM b) X 5 cX11_names RX11 none rm_X11_names) (CR : CRn (YM b) X)  (n : Nat)  (l1 : Int32) (l4 : Int32) (s : Mem) : J (YM b) X 5 (b_X11_names_41  n  l1 l4 s) 41 [(0, .ref (adX X 0)), (1, .int l1), (4, .int l4)] [] s := by
  unfold b_X11_names_41
  refine j_aload_n C dX11_names_41 0 rfl rfl ?_
  refine j_getR (z := 13) C kX11 (km_0 b) (lm_0 b) 21 (by decide) tw_1214 (rm_21 b) rfl dX11_names_42 ?_
  refine j_bipush (v := (64 : Int32)) C dX11_names_45 (by decide) ?_
  refine j_iload_n C dX11_names_47 1 rfl rfl ?_
  refine j_imul C dX11_names_48 ?_
  refine j_iload C dX11_names_49 2 rfl ?_
  refine j_iadd C dX11_names_51 ?_
  refine j_iconst (v := (1 : Int32)) C dX11_names_52 (by decide) ?_
  refine j_zast C (km_13 b) (lm_13 b) dX11_names_53 (fun s1 => ?_)
  exact j_vret C CR dX11_names_54
set_option maxHeartbeats 4000000 in
theorem c_X11_names (b : Bool) (n : Nat) (l1 : Int32) (l2 : Int32) (s : Mem) : CTn (YM b) yX11_names cX11_names 5 none rm_X11_names (fun ad => [.ref (ad 0), .int l1, .int l2]) s (f_X11_names n l1 l2 s) := by
  refine CTn_of (by decide) (fun _ => Nat.le_of_ble_eq_true rfl) (fun X C CR => ?_)
  show J (YM b) X 5 (f_X11_names n l1 l2 s) 0 [(0, .ref (adX X 0)), (1, .int l1), (2, .int l2)] [] s
  unfold f_X11_names
  refine j_aload_n C dX11_names_0 0 rfl rfl ?_
  refine j_get C kX11 (km_0 b) (lm_0 b) 22 (by decide) tw_1215 (rm_22 b) dX11_names_1 ?_
  refine j_istore_n (L' := [(0, .ref (adX X 0)), (1, .int l1), (2, .int l2), (3, .int (s 0 22))]) C dX11_names_4 rfl (by decide) [1, 2, 3, 0] rfl ?_
  refine j_aload_n C dX11_names_5 0 rfl rfl ?_
  refine j_iconst (v := (1 : Int32)) C dX11_names_6 (by decide) ?_
  refine j_iload_n C dX11_names_7 2 rfl rfl ?_
  refine j_callVi C (c_X11_wants b n (1 : Int32) l2 s) cw_RX11_92 ⟨rfl, rfl, Nat.le_of_ble_eq_true rfl, Nat.le_of_ble_eq_true rfl⟩ 0 kX11 (km_0 b) (lm_0 b) [.int (1 : Int32), .int l2] [] rfl rfl rfl (Nat.le_of_ble_eq_true rfl) dX11_names_8 (fun x2 s1 => ?_)
  refine j_istore (L' := [(0, .ref (adX X 0)), (1, .int l1), (2, .int l2), (3, .int (s 0 22)), (4, .int x2)]) C dX11_names_11 (by decide) [1, 2, 3, 4, 0] rfl ?_
  refine j_aload_n C dX11_names_13 0 rfl rfl ?_
  refine j_get C kX11 (km_0 b) (lm_0 b) 19 (by decide) tw_1212 (rm_19 b) dX11_names_14 ?_
  refine j_if_ne (tgt := 41) C dX11_names_17 (by decide) ?_ ?_
  · refine j_sub (L' := [(0, .ref (adX X 0)), (1, .int l1), (4, .int x2)]) [0, 1, 4] rfl ?_
    exact jb_X11_names_41 C CR  n l1 x2 s1
  · refine j_aload_n C dX11_names_20 0 rfl rfl ?_
    refine j_getR (z := 13) C kX11 (km_0 b) (lm_0 b) 21 (by decide) tw_1214 (rm_21 b) rfl dX11_names_21 ?_
    refine j_bipush (v := (64 : Int32)) C dX11_names_24 (by decide) ?_
    refine j_iload_n C dX11_names_26 1 rfl rfl ?_
    refine j_imul C dX11_names_27 ?_
    refine j_iload C dX11_names_28 4 rfl ?_
    refine j_iadd C dX11_names_30 ?_
    refine j_zald C (km_13 b) (lm_13 b) dX11_names_31 ?_
    refine j_if_eq (tgt := 41) C dX11_names_32 (by decide) ?_ ?_
    · refine j_sub (L' := [(0, .ref (adX X 0)), (1, .int l1), (4, .int x2)]) [0, 1, 4] rfl ?_
      exact jb_X11_names_41 C CR  n l1 x2 s1
    · refine j_aload_n C dX11_names_35 0 rfl rfl ?_
      refine j_iconst (v := (4 : Int32)) C dX11_names_36 (by decide) ?_
      refine j_iload_n C dX11_names_37 3 rfl rfl ?_
      refine j_callVn C (c_X11_flaw b n (4 : Int32) (s 0 22) s1) cw_RX11_88 ⟨rfl, rfl, Nat.le_of_ble_eq_true rfl, Nat.le_of_ble_eq_true rfl⟩ 0 kX11 (km_0 b) (lm_0 b) [.int (4 : Int32), .int (s 0 22)] [] rfl rfl rfl (Nat.le_of_ble_eq_true rfl) dX11_names_38 (fun s3 => ?_)
      refine j_sub (L' := [(0, .ref (adX X 0)), (1, .int l1), (4, .int x2)]) [0, 1, 4] rfl ?_
      exact jb_X11_names_41 C CR  n l1 x2 s3
set_option maxHeartbeats 4000000 in
theorem jb_X11_judgeRoom_83 {b : Bool} {X : CtxT Mem} (C : Cx (YM b) X 8 cX11_judgeRoom RX11 none rm_X11_judgeRoom) (CR : CRn (YM b) X)  (n : Nat)   (s : Mem) : J (YM b) X 8 (b_X11_judgeRoom_83  n   s) 83 [] [] s := by
  unfold b_X11_judgeRoom_83
  exact j_vret C CR dX11_judgeRoom_83
set_option maxHeartbeats 4000000 in
theorem jb_X11_judgeRoom_17 {b : Bool} {X : CtxT Mem} (C : Cx (YM b) X 8 cX11_judgeRoom RX11 none rm_X11_judgeRoom) (CR : CRn (YM b) X)  (n : Nat) (k17 : Int32 → Int32 → Mem → Option Mem) (hk17 : ∀ (l1 : Int32) (l2 : Int32) (s : Mem), J (YM b) X 8 (k17 l1 l2 s) 17 [(0, .ref (adX X 0)), (1, .int l1), (2, .int l2)] [] s) (l1 : Int32) (l2 : Int32) (s : Mem) : J (YM b) X 8 (b_X11_judgeRoom_17  n k17 l1 l2 s) 17 [(0, .ref (adX X 0)), (1, .int l1), (2, .int l2)] [] s := by
  unfold b_X11_judgeRoom_17
  refine j_iload_n C dX11_judgeRoom_17 2 rfl rfl ?_
  refine j_iload_n C dX11_judgeRoom_18 1 rfl rfl ?_
  refine j_icmp_ge (tgt := 83) C dX11_judgeRoom_19 (by decide) ?_ ?_
  · refine j_sub (L' := []) [] rfl ?_
    exact jb_X11_judgeRoom_83 C CR  n s
  · refine j_aload_n C dX11_judgeRoom_22 0 rfl rfl ?_
    refine j_get C kX11 (km_0 b) (lm_0 b) 19 (by decide) tw_1212 (rm_19 b) dX11_judgeRoom_23 ?_
    refine j_if_ne (tgt := 83) C dX11_judgeRoom_26 (by decide) ?_ ?_
    · refine j_sub (L' := []) [] rfl ?_
      exact jb_X11_judgeRoom_83 C CR  n s
    · refine j_aload_n C dX11_judgeRoom_29 0 rfl rfl ?_
      refine j_iconst (v := (0 : Int32)) C dX11_judgeRoom_30 (by decide) ?_
      refine j_sipush (v := (255 : Int32)) C dX11_judgeRoom_31 (by decide) ?_
      refine j_callVi C (c_X11_wants b n (0 : Int32) (255 : Int32) s) cw_RX11_92 ⟨rfl, rfl, Nat.le_of_ble_eq_true rfl, Nat.le_of_ble_eq_true rfl⟩ 0 kX11 (km_0 b) (lm_0 b) [.int (0 : Int32), .int (255 : Int32)] [] rfl rfl rfl (Nat.le_of_ble_eq_true rfl) dX11_judgeRoom_34 (fun x2 s1 => ?_)
      refine j_istore_n (L' := [(0, .ref (adX X 0)), (1, .int l1), (2, .int l2), (3, .int x2)]) C dX11_judgeRoom_37 rfl (by decide) [1, 2, 3, 0] rfl ?_
      refine j_aload_n C dX11_judgeRoom_38 0 rfl rfl ?_
      refine j_iconst (v := (0 : Int32)) C dX11_judgeRoom_39 (by decide) ?_
      refine j_sipush (v := (255 : Int32)) C dX11_judgeRoom_40 (by decide) ?_
      refine j_callVi C (c_X11_wants b n (0 : Int32) (255 : Int32) s1) cw_RX11_92 ⟨rfl, rfl, Nat.le_of_ble_eq_true rfl, Nat.le_of_ble_eq_true rfl⟩ 0 kX11 (km_0 b) (lm_0 b) [.int (0 : Int32), .int (255 : Int32)] [] rfl rfl rfl (Nat.le_of_ble_eq_true rfl) dX11_judgeRoom_43 (fun x4 s3 => ?_)
      refine j_istore (L' := [(0, .ref (adX X 0)), (1, .int l1), (2, .int l2), (3, .int x2), (4, .int x4)]) C dX11_judgeRoom_46 (by decide) [1, 2, 3, 4, 0] rfl ?_
      refine j_aload_n C dX11_judgeRoom_48 0 rfl rfl ?_
      refine j_iload_n C dX11_judgeRoom_49 3 rfl rfl ?_
      refine j_sipush (v := (255 : Int32)) C dX11_judgeRoom_50 (by decide) ?_
      refine j_callVi C (c_X11_wants b n x2 (255 : Int32) s3) cw_RX11_92 ⟨rfl, rfl, Nat.le_of_ble_eq_true rfl, Nat.le_of_ble_eq_true rfl⟩ 0 kX11 (km_0 b) (lm_0 b) [.int x2, .int (255 : Int32)] [] rfl rfl rfl (Nat.le_of_ble_eq_true rfl) dX11_judgeRoom_53 (fun x6 s5 => ?_)
      refine j_istore (L' := [(0, .ref (adX X 0)), (1, .int l1), (2, .int l2), (3, .int x2), (4, .int x4), (5, .int x6)]) C dX11_judgeRoom_56 (by decide) [1, 2, 3, 4, 5, 0] rfl ?_
      refine j_aload_n C dX11_judgeRoom_58 0 rfl rfl ?_
      refine j_iload C dX11_judgeRoom_59 4 rfl ?_
      refine j_sipush (v := (255 : Int32)) C dX11_judgeRoom_61 (by decide) ?_
      refine j_callVi C (c_X11_wants b n x4 (255 : Int32) s5) cw_RX11_92 ⟨rfl, rfl, Nat.le_of_ble_eq_true rfl, Nat.le_of_ble_eq_true rfl⟩ 0 kX11 (km_0 b) (lm_0 b) [.int x4, .int (255 : Int32)] [] rfl rfl rfl (Nat.le_of_ble_eq_true rfl) dX11_judgeRoom_64 (fun x8 s7 => ?_)
      refine j_istore (L' := [(0, .ref (adX X 0)), (1, .int l1), (2, .int l2), (3, .int x2), (4, .int x4), (5, .int x6), (6, .int x8)]) C dX11_judgeRoom_67 (by decide) [1, 2, 3, 4, 5, 6, 0] rfl ?_
      refine j_aload_n C dX11_judgeRoom_69 0 rfl rfl ?_
      refine j_iconst (v := (0 : Int32)) C dX11_judgeRoom_70 (by decide) ?_
      refine j_iconst (v := (1 : Int32)) C dX11_judgeRoom_71 (by decide) ?_
      refine j_callVi C (c_X11_wants b n (0 : Int32) (1 : Int32) s7) cw_RX11_92 ⟨rfl, rfl, Nat.le_of_ble_eq_true rfl, Nat.le_of_ble_eq_true rfl⟩ 0 kX11 (km_0 b) (lm_0 b) [.int (0 : Int32), .int (1 : Int32)] [] rfl rfl rfl (Nat.le_of_ble_eq_true rfl) dX11_judgeRoom_72 (fun x10 s9 => ?_)
      refine j_istore (L' := [(0, .ref (adX X 0)), (1, .int l1), (2, .int l2), (3, .int x2), (4, .int x4), (5, .int x6), (6, .int x8), (7, .int x10)]) C dX11_judgeRoom_75 (by decide) [1, 2, 3, 4, 5, 6, 7, 0] rfl ?_
      refine j_iinc (L2 := fun x11 => [(0, .ref (adX X 0)), (1, .int l1), (2, .int x11), (3, .int x2), (4, .int x4), (5, .int x6), (6, .int x8), (7, .int x10)]) C dX11_judgeRoom_77 2 rfl (by decide) [1, 2, 0, 3, 4, 5, 6, 7] (fun _ => rfl) (fun x11 => ?_)
      refine j_goto (tgt := 17) C dX11_judgeRoom_80 (by decide) ?_
      refine j_sub (L' := [(0, .ref (adX X 0)), (1, .int l1), (2, .int x11)]) [0, 1, 2] rfl ?_
      exact hk17 l1 x11 s9
theorem lb_X11_judgeRoom_17 {b : Bool} {X : CtxT Mem} (C : Cx (YM b) X 8 cX11_judgeRoom RX11 none rm_X11_judgeRoom) (CR : CRn (YM b) X)  : ∀ (n : Nat) (l1 : Int32) (l2 : Int32) (s : Mem), J (YM b) X 8 (itr2 (b_X11_judgeRoom_17) n l1 l2 s) 17 [(0, .ref (adX X 0)), (1, .int l1), (2, .int l2)] [] s := by
  intro n
  induction n with
  | zero => intros; exact j_none
  | succ n ih =>
    intro l1 l2 s
    exact jb_X11_judgeRoom_17 C CR  n _ ih l1 l2 s
set_option maxHeartbeats 4000000 in
theorem c_X11_judgeRoom (b : Bool) (n : Nat)  (s : Mem) : CTn (YM b) yX11_judgeRoom cX11_judgeRoom 8 none rm_X11_judgeRoom (fun ad => [.ref (ad 0)]) s (f_X11_judgeRoom n  s) := by
  refine CTn_of (by decide) (fun _ => Nat.le_of_ble_eq_true rfl) (fun X C CR => ?_)
  show J (YM b) X 8 (f_X11_judgeRoom n  s) 0 [(0, .ref (adX X 0))] [] s
  unfold f_X11_judgeRoom
  refine j_aload_n C dX11_judgeRoom_0 0 rfl rfl ?_
  refine j_iconst (v := (0 : Int32)) C dX11_judgeRoom_1 (by decide) ?_
  refine j_bipush (v := (20 : Int32)) C dX11_judgeRoom_2 (by decide) ?_
  refine j_callVn C (c_X11_names b n (0 : Int32) (20 : Int32) s) cw_RX11_96 ⟨rfl, rfl, Nat.le_of_ble_eq_true rfl, Nat.le_of_ble_eq_true rfl⟩ 0 kX11 (km_0 b) (lm_0 b) [.int (0 : Int32), .int (20 : Int32)] [] rfl rfl rfl (Nat.le_of_ble_eq_true rfl) dX11_judgeRoom_4 (fun s1 => ?_)
  refine j_aload_n C dX11_judgeRoom_7 0 rfl rfl ?_
  refine j_iconst (v := (0 : Int32)) C dX11_judgeRoom_8 (by decide) ?_
  refine j_bipush (v := (16 : Int32)) C dX11_judgeRoom_9 (by decide) ?_
  refine j_callVi C (c_X11_wants b n (0 : Int32) (16 : Int32) s1) cw_RX11_92 ⟨rfl, rfl, Nat.le_of_ble_eq_true rfl, Nat.le_of_ble_eq_true rfl⟩ 0 kX11 (km_0 b) (lm_0 b) [.int (0 : Int32), .int (16 : Int32)] [] rfl rfl rfl (Nat.le_of_ble_eq_true rfl) dX11_judgeRoom_11 (fun x3 s2 => ?_)
  refine j_istore_n (L' := [(0, .ref (adX X 0)), (1, .int x3)]) C dX11_judgeRoom_14 rfl (by decide) [1, 0] rfl ?_
  refine j_iconst (v := (0 : Int32)) C dX11_judgeRoom_15 (by decide) ?_
  refine j_istore_n (L' := [(0, .ref (adX X 0)), (1, .int x3), (2, .int (0 : Int32))]) C dX11_judgeRoom_16 rfl (by decide) [1, 2, 0] rfl ?_
  exact lb_X11_judgeRoom_17 C CR  n x3 (0 : Int32) s2
set_option maxHeartbeats 4000000 in
theorem jb_X11_judgeObject_113 {b : Bool} {X : CtxT Mem} (C : Cx (YM b) X 3 cX11_judgeObject RX11 none rm_X11_judgeObject) (CR : CRn (YM b) X) (k59 : Mem → Option Mem) (hk59 : ∀  (s : Mem), J (YM b) X 3 (k59 s) 59 [(0, .ref (adX X 0))] [] s) (n : Nat)  (l1 : Int32) (s : Mem) : J (YM b) X 3 (b_X11_judgeObject_113 k59 n  l1 s) 113 [(0, .ref (adX X 0)), (1, .int l1)] [] s := by
  unfold b_X11_judgeObject_113
  refine j_aload_n C dX11_judgeObject_113 0 rfl rfl ?_
  refine j_getR (z := 14) C kX11 (km_0 b) (lm_0 b) 24 (by decide) tw_1217 (rm_24 b) rfl dX11_judgeObject_114 ?_
  refine j_iload_n C dX11_judgeObject_117 1 rfl rfl ?_
  refine j_iconst (v := (1 : Int32)) C dX11_judgeObject_118 (by decide) ?_
  refine j_zast C (km_14 b) (lm_14 b) dX11_judgeObject_119 (fun s1 => ?_)
  refine j_aload_n C dX11_judgeObject_120 0 rfl rfl ?_
  refine j_iconst (v := (1 : Int32)) C dX11_judgeObject_121 (by decide) ?_
  refine j_bipush (v := (60 : Int32)) C dX11_judgeObject_122 (by decide) ?_
  refine j_callVi C (c_X11_wants b n (1 : Int32) (60 : Int32) s1) cw_RX11_92 ⟨rfl, rfl, Nat.le_of_ble_eq_true rfl, Nat.le_of_ble_eq_true rfl⟩ 0 kX11 (km_0 b) (lm_0 b) [.int (1 : Int32), .int (60 : Int32)] [] rfl rfl rfl (Nat.le_of_ble_eq_true rfl) dX11_judgeObject_124 (fun x3 s2 => ?_)
  refine j_istore_n (L' := [(0, .ref (adX X 0)), (1, .int x3)]) C dX11_judgeObject_127 rfl (by decide) [1, 0] rfl ?_
  refine j_goto (tgt := 59) C dX11_judgeObject_128 (by decide) ?_
  refine j_sub (L' := [(0, .ref (adX X 0))]) [0] rfl ?_
  exact hk59 s2
set_option maxHeartbeats 4000000 in
theorem jb_X11_judgeObject_131 {b : Bool} {X : CtxT Mem} (C : Cx (YM b) X 3 cX11_judgeObject RX11 none rm_X11_judgeObject) (CR : CRn (YM b) X)  (n : Nat)   (s : Mem) : J (YM b) X 3 (b_X11_judgeObject_131  n   s) 131 [] [] s := by
  unfold b_X11_judgeObject_131
  exact j_vret C CR dX11_judgeObject_131
set_option maxHeartbeats 4000000 in
theorem jb_X11_judgeObject_59 {b : Bool} {X : CtxT Mem} (C : Cx (YM b) X 3 cX11_judgeObject RX11 none rm_X11_judgeObject) (CR : CRn (YM b) X)  (n : Nat) (k59 : Mem → Option Mem) (hk59 : ∀  (s : Mem), J (YM b) X 3 (k59 s) 59 [(0, .ref (adX X 0))] [] s)  (s : Mem) : J (YM b) X 3 (b_X11_judgeObject_59  n k59  s) 59 [(0, .ref (adX X 0))] [] s := by
  unfold b_X11_judgeObject_59
  refine j_aload_n C dX11_judgeObject_59 0 rfl rfl ?_
  refine j_get C kX11 (km_0 b) (lm_0 b) 19 (by decide) tw_1212 (rm_19 b) dX11_judgeObject_60 ?_
  refine j_if_ne (tgt := 131) C dX11_judgeObject_63 (by decide) ?_ ?_
  · refine j_sub (L' := []) [] rfl ?_
    exact jb_X11_judgeObject_131 C CR  n s
  · refine j_aload_n C dX11_judgeObject_66 0 rfl rfl ?_
    refine j_get C kX11 (km_0 b) (lm_0 b) 22 (by decide) tw_1215 (rm_22 b) dX11_judgeObject_67 ?_
    refine j_aload_n C dX11_judgeObject_70 0 rfl rfl ?_
    refine j_get C kX11 (km_0 b) (lm_0 b) 23 (by decide) tw_1216 (rm_23 b) dX11_judgeObject_71 ?_
    refine j_icmp_ge (tgt := 131) C dX11_judgeObject_74 (by decide) ?_ ?_
    · refine j_sub (L' := []) [] rfl ?_
      exact jb_X11_judgeObject_131 C CR  n s
    · refine j_aload_n C dX11_judgeObject_77 0 rfl rfl ?_
      refine j_get C kX11 (km_0 b) (lm_0 b) 22 (by decide) tw_1215 (rm_22 b) dX11_judgeObject_78 ?_
      refine j_istore_n (L' := [(0, .ref (adX X 0)), (2, .int (s 0 22))]) C dX11_judgeObject_81 rfl (by decide) [1, 0] rfl ?_
      refine j_aload_n C dX11_judgeObject_82 0 rfl rfl ?_
      refine j_iconst (v := (1 : Int32)) C dX11_judgeObject_83 (by decide) ?_
      refine j_sipush (v := (255 : Int32)) C dX11_judgeObject_84 (by decide) ?_
      refine j_callVi C (c_X11_wants b n (1 : Int32) (255 : Int32) s) cw_RX11_92 ⟨rfl, rfl, Nat.le_of_ble_eq_true rfl, Nat.le_of_ble_eq_true rfl⟩ 0 kX11 (km_0 b) (lm_0 b) [.int (1 : Int32), .int (255 : Int32)] [] rfl rfl rfl (Nat.le_of_ble_eq_true rfl) dX11_judgeObject_87 (fun x2 s1 => ?_)
      refine j_istore_n (L' := [(0, .ref (adX X 0)), (1, .int x2), (2, .int (s 0 22))]) C dX11_judgeObject_90 rfl (by decide) [1, 0, 2] rfl ?_
      refine j_aload_n C dX11_judgeObject_91 0 rfl rfl ?_
      refine j_get C kX11 (km_0 b) (lm_0 b) 19 (by decide) tw_1212 (rm_19 b) dX11_judgeObject_92 ?_
      refine j_if_ne (tgt := 113) C dX11_judgeObject_95 (by decide) ?_ ?_
      · refine j_sub (L' := [(0, .ref (adX X 0)), (1, .int x2)]) [0, 1] rfl ?_
        exact jb_X11_judgeObject_113 C CR k59 hk59 n x2 s1
      · refine j_aload_n C dX11_judgeObject_98 0 rfl rfl ?_
        refine j_getR (z := 14) C kX11 (km_0 b) (lm_0 b) 24 (by decide) tw_1217 (rm_24 b) rfl dX11_judgeObject_99 ?_
        refine j_iload_n C dX11_judgeObject_102 1 rfl rfl ?_
        refine j_zald C (km_14 b) (lm_14 b) dX11_judgeObject_103 ?_
        refine j_if_eq (tgt := 113) C dX11_judgeObject_104 (by decide) ?_ ?_
        · refine j_sub (L' := [(0, .ref (adX X 0)), (1, .int x2)]) [0, 1] rfl ?_
          exact jb_X11_judgeObject_113 C CR k59 hk59 n x2 s1
        · refine j_aload_n C dX11_judgeObject_107 0 rfl rfl ?_
          refine j_iconst (v := (4 : Int32)) C dX11_judgeObject_108 (by decide) ?_
          refine j_iload_n C dX11_judgeObject_109 2 rfl rfl ?_
          refine j_callVn C (c_X11_flaw b n (4 : Int32) (s 0 22) s1) cw_RX11_88 ⟨rfl, rfl, Nat.le_of_ble_eq_true rfl, Nat.le_of_ble_eq_true rfl⟩ 0 kX11 (km_0 b) (lm_0 b) [.int (4 : Int32), .int (s 0 22)] [] rfl rfl rfl (Nat.le_of_ble_eq_true rfl) dX11_judgeObject_110 (fun s3 => ?_)
          refine j_sub (L' := [(0, .ref (adX X 0)), (1, .int x2)]) [0, 1] rfl ?_
          exact jb_X11_judgeObject_113 C CR k59 hk59 n x2 s3
theorem lb_X11_judgeObject_59 {b : Bool} {X : CtxT Mem} (C : Cx (YM b) X 3 cX11_judgeObject RX11 none rm_X11_judgeObject) (CR : CRn (YM b) X)  : ∀ (n : Nat)  (s : Mem), J (YM b) X 3 (itr0 (b_X11_judgeObject_59) n  s) 59 [(0, .ref (adX X 0))] [] s := by
  intro n
  induction n with
  | zero => intros; exact j_none
  | succ n ih =>
    intro  s
    exact jb_X11_judgeObject_59 C CR  n _ ih  s
set_option maxHeartbeats 4000000 in
theorem jb_X11_judgeObject_39 {b : Bool} {X : CtxT Mem} (C : Cx (YM b) X 3 cX11_judgeObject RX11 none rm_X11_judgeObject) (CR : CRn (YM b) X)  (n : Nat) (k39 : Int32 → Mem → Option Mem) (hk39 : ∀ (l2 : Int32) (s : Mem), J (YM b) X 3 (k39 l2 s) 39 [(0, .ref (adX X 0)), (2, .int l2)] [] s) (l2 : Int32) (s : Mem) : J (YM b) X 3 (b_X11_judgeObject_39  n k39 l2 s) 39 [(0, .ref (adX X 0)), (2, .int l2)] [] s := by
  unfold b_X11_judgeObject_39
  refine j_iload_n C dX11_judgeObject_39 1 rfl rfl ?_
  refine j_sipush (v := (256 : Int32)) C dX11_judgeObject_40 (by decide) ?_
  refine j_icmp_ge (tgt := 59) C dX11_judgeObject_43 (by decide) ?_ ?_
  · refine j_sub (L' := [(0, .ref (adX X 0))]) [0] rfl ?_
    exact lb_X11_judgeObject_59 C CR  n s
  · refine j_aload_n C dX11_judgeObject_46 0 rfl rfl ?_
    refine j_getR (z := 14) C kX11 (km_0 b) (lm_0 b) 24 (by decide) tw_1217 (rm_24 b) rfl dX11_judgeObject_47 ?_
    refine j_iload_n C dX11_judgeObject_50 1 rfl rfl ?_
    refine j_iconst (v := (0 : Int32)) C dX11_judgeObject_51 (by decide) ?_
    refine j_zast C (km_14 b) (lm_14 b) dX11_judgeObject_52 (fun s1 => ?_)
    refine j_iinc (L2 := fun x2 => [(0, .ref (adX X 0)), (2, .int x2)]) C dX11_judgeObject_53 1 rfl (by decide) [1, 0] (fun _ => rfl) (fun x2 => ?_)
    refine j_goto (tgt := 39) C dX11_judgeObject_56 (by decide) ?_
    exact hk39 x2 s1
theorem lb_X11_judgeObject_39 {b : Bool} {X : CtxT Mem} (C : Cx (YM b) X 3 cX11_judgeObject RX11 none rm_X11_judgeObject) (CR : CRn (YM b) X)  : ∀ (n : Nat) (l2 : Int32) (s : Mem), J (YM b) X 3 (itr1 (b_X11_judgeObject_39) n l2 s) 39 [(0, .ref (adX X 0)), (2, .int l2)] [] s := by
  intro n
  induction n with
  | zero => intros; exact j_none
  | succ n ih =>
    intro l2 s
    exact jb_X11_judgeObject_39 C CR  n _ ih l2 s
set_option maxHeartbeats 4000000 in
theorem jb_X11_judgeObject_17 {b : Bool} {X : CtxT Mem} (C : Cx (YM b) X 3 cX11_judgeObject RX11 none rm_X11_judgeObject) (CR : CRn (YM b) X)  (n : Nat) (k17 : Int32 → Mem → Option Mem) (hk17 : ∀ (l2 : Int32) (s : Mem), J (YM b) X 3 (k17 l2 s) 17 [(0, .ref (adX X 0)), (2, .int l2)] [] s) (l2 : Int32) (s : Mem) : J (YM b) X 3 (b_X11_judgeObject_17  n k17 l2 s) 17 [(0, .ref (adX X 0)), (2, .int l2)] [] s := by
  unfold b_X11_judgeObject_17
  refine j_iload_n C dX11_judgeObject_17 1 rfl rfl ?_
  refine j_iconst (v := (3 : Int32)) C dX11_judgeObject_18 (by decide) ?_
  refine j_icmp_ge (tgt := 37) C dX11_judgeObject_19 (by decide) ?_ ?_
  · refine j_iconst (v := (0 : Int32)) C dX11_judgeObject_37 (by decide) ?_
    refine j_istore_n (L' := [(0, .ref (adX X 0)), (2, .int (0 : Int32))]) C dX11_judgeObject_38 rfl (by decide) [1, 0] rfl ?_
    exact lb_X11_judgeObject_39 C CR  n (0 : Int32) s
  · refine j_aload_n C dX11_judgeObject_22 0 rfl rfl ?_
    refine j_iconst (v := (0 : Int32)) C dX11_judgeObject_23 (by decide) ?_
    refine j_sipush (v := (255 : Int32)) C dX11_judgeObject_24 (by decide) ?_
    refine j_callVi C (c_X11_wants b n (0 : Int32) (255 : Int32) s) cw_RX11_92 ⟨rfl, rfl, Nat.le_of_ble_eq_true rfl, Nat.le_of_ble_eq_true rfl⟩ 0 kX11 (km_0 b) (lm_0 b) [.int (0 : Int32), .int (255 : Int32)] [] rfl rfl rfl (Nat.le_of_ble_eq_true rfl) dX11_judgeObject_27 (fun x2 s1 => ?_)
    refine j_istore_n (L' := [(0, .ref (adX X 0)), (1, .int x2), (2, .int l2)]) C dX11_judgeObject_30 rfl (by decide) [1, 0, 2] rfl ?_
    refine j_iinc (L2 := fun x3 => [(0, .ref (adX X 0)), (1, .int x2), (2, .int x3)]) C dX11_judgeObject_31 2 rfl (by decide) [1, 2, 0] (fun _ => rfl) (fun x3 => ?_)
    refine j_goto (tgt := 17) C dX11_judgeObject_34 (by decide) ?_
    refine j_sub (L' := [(0, .ref (adX X 0)), (2, .int x3)]) [0, 2] rfl ?_
    exact hk17 x3 s1
theorem lb_X11_judgeObject_17 {b : Bool} {X : CtxT Mem} (C : Cx (YM b) X 3 cX11_judgeObject RX11 none rm_X11_judgeObject) (CR : CRn (YM b) X)  : ∀ (n : Nat) (l2 : Int32) (s : Mem), J (YM b) X 3 (itr1 (b_X11_judgeObject_17) n l2 s) 17 [(0, .ref (adX X 0)), (2, .int l2)] [] s := by
  intro n
  induction n with
  | zero => intros; exact j_none
  | succ n ih =>
    intro l2 s
    exact jb_X11_judgeObject_17 C CR  n _ ih l2 s
set_option maxHeartbeats 4000000 in
theorem c_X11_judgeObject (b : Bool) (n : Nat)  (s : Mem) : CTn (YM b) yX11_judgeObject cX11_judgeObject 3 none rm_X11_judgeObject (fun ad => [.ref (ad 0)]) s (f_X11_judgeObject n  s) := by
  refine CTn_of (by decide) (fun _ => Nat.le_of_ble_eq_true rfl) (fun X C CR => ?_)
  show J (YM b) X 3 (f_X11_judgeObject n  s) 0 [(0, .ref (adX X 0))] [] s
  unfold f_X11_judgeObject
  refine j_aload_n C dX11_judgeObject_0 0 rfl rfl ?_
  refine j_iconst (v := (2 : Int32)) C dX11_judgeObject_1 (by decide) ?_
  refine j_bipush (v := (60 : Int32)) C dX11_judgeObject_2 (by decide) ?_
  refine j_callVn C (c_X11_names b n (2 : Int32) (60 : Int32) s) cw_RX11_96 ⟨rfl, rfl, Nat.le_of_ble_eq_true rfl, Nat.le_of_ble_eq_true rfl⟩ 0 kX11 (km_0 b) (lm_0 b) [.int (2 : Int32), .int (60 : Int32)] [] rfl rfl rfl (Nat.le_of_ble_eq_true rfl) dX11_judgeObject_4 (fun s1 => ?_)
  refine j_aload_n C dX11_judgeObject_7 0 rfl rfl ?_
  refine j_iconst (v := (0 : Int32)) C dX11_judgeObject_8 (by decide) ?_
  refine j_bipush (v := (20 : Int32)) C dX11_judgeObject_9 (by decide) ?_
  refine j_callVi C (c_X11_wants b n (0 : Int32) (20 : Int32) s1) cw_RX11_92 ⟨rfl, rfl, Nat.le_of_ble_eq_true rfl, Nat.le_of_ble_eq_true rfl⟩ 0 kX11 (km_0 b) (lm_0 b) [.int (0 : Int32), .int (20 : Int32)] [] rfl rfl rfl (Nat.le_of_ble_eq_true rfl) dX11_judgeObject_11 (fun x3 s2 => ?_)
  refine j_istore_n (L' := [(0, .ref (adX X 0)), (1, .int x3)]) C dX11_judgeObject_14 rfl (by decide) [1, 0] rfl ?_
  refine j_iconst (v := (0 : Int32)) C dX11_judgeObject_15 (by decide) ?_
  refine j_istore_n (L' := [(0, .ref (adX X 0)), (1, .int x3), (2, .int (0 : Int32))]) C dX11_judgeObject_16 rfl (by decide) [1, 2, 0] rfl ?_
  refine j_sub (L' := [(0, .ref (adX X 0)), (2, .int (0 : Int32))]) [0, 2] rfl ?_
  exact lb_X11_judgeObject_17 C CR  n (0 : Int32) s2
set_option maxHeartbeats 4000000 in
theorem jb_X11_judgeBlock_114 {b : Bool} {X : CtxT Mem} (C : Cx (YM b) X 3 cX11_judgeBlock RX11 none rm_X11_judgeBlock) (CR : CRn (YM b) X)  (n : Nat)   (s : Mem) : J (YM b) X 3 (b_X11_judgeBlock_114  n   s) 114 [] [] s := by
  unfold b_X11_judgeBlock_114
  exact j_vret C CR dX11_judgeBlock_114
set_option maxHeartbeats 4000000 in
theorem jb_X11_judgeBlock_54 {b : Bool} {X : CtxT Mem} (C : Cx (YM b) X 3 cX11_judgeBlock RX11 none rm_X11_judgeBlock) (CR : CRn (YM b) X)  (n : Nat)  (t0 : Int32) (s : Mem) : J (YM b) X 3 (b_X11_judgeBlock_54  n  t0 s) 54 [] [.int t0, .ref (adX X 0)] s := by
  unfold b_X11_judgeBlock_54
  refine j_put C kX11 (km_0 b) (lm_0 b) 22 (by decide) tw_1215 (rm_22 b) rfl rfl dX11_judgeBlock_54 (fun s1 => ?_)
  refine j_goto (tgt := 114) C dX11_judgeBlock_57 (by decide) ?_
  exact jb_X11_judgeBlock_114 C CR  n s1
set_option maxHeartbeats 4000000 in
theorem c_X11_judgeBlock (b : Bool) (n : Nat) (l1 : Int32) (s : Mem) : CTn (YM b) yX11_judgeBlock cX11_judgeBlock 3 none rm_X11_judgeBlock (fun ad => [.ref (ad 0), .int l1]) s (f_X11_judgeBlock n l1 s) := by
  refine CTn_of (by decide) (fun _ => Nat.le_of_ble_eq_true rfl) (fun X C CR => ?_)
  show J (YM b) X 3 (f_X11_judgeBlock n l1 s) 0 [(0, .ref (adX X 0)), (1, .int l1)] [] s
  unfold f_X11_judgeBlock
  refine j_iload_n C dX11_judgeBlock_0 1 rfl rfl ?_
  refine j_bipush (v := (82 : Int32)) C dX11_judgeBlock_1 (by decide) ?_
  refine j_icmp_ne (tgt := 13) C dX11_judgeBlock_3 (by decide) ?_ ?_
  · refine j_iload_n C dX11_judgeBlock_13 1 rfl rfl ?_
    refine j_bipush (v := (83 : Int32)) C dX11_judgeBlock_14 (by decide) ?_
    refine j_icmp_ne (tgt := 60) C dX11_judgeBlock_16 (by decide) ?_ ?_
    · refine j_iload_n C dX11_judgeBlock_60 1 rfl rfl ?_
      refine j_bipush (v := (79 : Int32)) C dX11_judgeBlock_61 (by decide) ?_
      refine j_icmp_ne (tgt := 73) C dX11_judgeBlock_63 (by decide) ?_ ?_
      · refine j_aload_n C dX11_judgeBlock_73 0 rfl rfl ?_
        refine j_iconst (v := (3 : Int32)) C dX11_judgeBlock_74 (by decide) ?_
        refine j_bipush (v := (12 : Int32)) C dX11_judgeBlock_75 (by decide) ?_
        refine j_callVn C (c_X11_names b n (3 : Int32) (12 : Int32) s) cw_RX11_96 ⟨rfl, rfl, Nat.le_of_ble_eq_true rfl, Nat.le_of_ble_eq_true rfl⟩ 0 kX11 (km_0 b) (lm_0 b) [.int (3 : Int32), .int (12 : Int32)] [] rfl rfl rfl (Nat.le_of_ble_eq_true rfl) dX11_judgeBlock_77 (fun s1 => ?_)
        refine j_aload_n C dX11_judgeBlock_80 0 rfl rfl ?_
        refine j_iconst (v := (0 : Int32)) C dX11_judgeBlock_81 (by decide) ?_
        refine j_bipush (v := (20 : Int32)) C dX11_judgeBlock_82 (by decide) ?_
        refine j_callVi C (c_X11_wants b n (0 : Int32) (20 : Int32) s1) cw_RX11_92 ⟨rfl, rfl, Nat.le_of_ble_eq_true rfl, Nat.le_of_ble_eq_true rfl⟩ 0 kX11 (km_0 b) (lm_0 b) [.int (0 : Int32), .int (20 : Int32)] [] rfl rfl rfl (Nat.le_of_ble_eq_true rfl) dX11_judgeBlock_84 (fun x3 s2 => ?_)
        refine j_istore_n (L' := [(0, .ref (adX X 0)), (1, .int l1), (2, .int x3)]) C dX11_judgeBlock_87 rfl (by decide) [1, 2, 0] rfl ?_
        refine j_aload_n C dX11_judgeBlock_88 0 rfl rfl ?_
        refine j_iconst (v := (0 : Int32)) C dX11_judgeBlock_89 (by decide) ?_
        refine j_sipush (v := (255 : Int32)) C dX11_judgeBlock_90 (by decide) ?_
        refine j_callVi C (c_X11_wants b n (0 : Int32) (255 : Int32) s2) cw_RX11_92 ⟨rfl, rfl, Nat.le_of_ble_eq_true rfl, Nat.le_of_ble_eq_true rfl⟩ 0 kX11 (km_0 b) (lm_0 b) [.int (0 : Int32), .int (255 : Int32)] [] rfl rfl rfl (Nat.le_of_ble_eq_true rfl) dX11_judgeBlock_93 (fun x5 s4 => ?_)
        refine j_istore_n (L' := [(0, .ref (adX X 0)), (1, .int l1), (2, .int x5)]) C dX11_judgeBlock_96 rfl (by decide) [1, 2, 0] rfl ?_
        refine j_aload_n C dX11_judgeBlock_97 0 rfl rfl ?_
        refine j_iconst (v := (0 : Int32)) C dX11_judgeBlock_98 (by decide) ?_
        refine j_sipush (v := (255 : Int32)) C dX11_judgeBlock_99 (by decide) ?_
        refine j_callVi C (c_X11_wants b n (0 : Int32) (255 : Int32) s4) cw_RX11_92 ⟨rfl, rfl, Nat.le_of_ble_eq_true rfl, Nat.le_of_ble_eq_true rfl⟩ 0 kX11 (km_0 b) (lm_0 b) [.int (0 : Int32), .int (255 : Int32)] [] rfl rfl rfl (Nat.le_of_ble_eq_true rfl) dX11_judgeBlock_102 (fun x7 s6 => ?_)
        refine j_istore_n (L' := [(0, .ref (adX X 0)), (1, .int l1), (2, .int x7)]) C dX11_judgeBlock_105 rfl (by decide) [1, 2, 0] rfl ?_
        refine j_aload_n C dX11_judgeBlock_106 0 rfl rfl ?_
        refine j_iconst (v := (0 : Int32)) C dX11_judgeBlock_107 (by decide) ?_
        refine j_bipush (v := (8 : Int32)) C dX11_judgeBlock_108 (by decide) ?_
        refine j_callVi C (c_X11_wants b n (0 : Int32) (8 : Int32) s6) cw_RX11_92 ⟨rfl, rfl, Nat.le_of_ble_eq_true rfl, Nat.le_of_ble_eq_true rfl⟩ 0 kX11 (km_0 b) (lm_0 b) [.int (0 : Int32), .int (8 : Int32)] [] rfl rfl rfl (Nat.le_of_ble_eq_true rfl) dX11_judgeBlock_110 (fun x9 s8 => ?_)
        refine j_istore_n (L' := [(0, .ref (adX X 0)), (1, .int l1), (2, .int x9)]) C dX11_judgeBlock_113 rfl (by decide) [1, 2, 0] rfl ?_
        refine j_sub (L' := []) [] rfl ?_
        exact jb_X11_judgeBlock_114 C CR  n s8
      · refine j_aload_n C dX11_judgeBlock_66 0 rfl rfl ?_
        refine j_callVn C (c_X11_judgeObject b n  s) cw_RX11_106 ⟨rfl, rfl, Nat.le_of_ble_eq_true rfl, Nat.le_of_ble_eq_true rfl⟩ 0 kX11 (km_0 b) (lm_0 b) [] [] rfl rfl rfl (Nat.le_of_ble_eq_true rfl) dX11_judgeBlock_67 (fun s10 => ?_)
        refine j_goto (tgt := 114) C dX11_judgeBlock_70 (by decide) ?_
        refine j_sub (L' := []) [] rfl ?_
        exact jb_X11_judgeBlock_114 C CR  n s10
    · refine j_aload_n C dX11_judgeBlock_19 0 rfl rfl ?_
      refine j_iconst (v := (1 : Int32)) C dX11_judgeBlock_20 (by decide) ?_
      refine j_bipush (v := (60 : Int32)) C dX11_judgeBlock_21 (by decide) ?_
      refine j_callVn C (c_X11_names b n (1 : Int32) (60 : Int32) s) cw_RX11_96 ⟨rfl, rfl, Nat.le_of_ble_eq_true rfl, Nat.le_of_ble_eq_true rfl⟩ 0 kX11 (km_0 b) (lm_0 b) [.int (1 : Int32), .int (60 : Int32)] [] rfl rfl rfl (Nat.le_of_ble_eq_true rfl) dX11_judgeBlock_23 (fun s11 => ?_)
      refine j_aload_n C dX11_judgeBlock_26 0 rfl rfl ?_
      refine j_iconst (v := (0 : Int32)) C dX11_judgeBlock_27 (by decide) ?_
      refine j_sipush (v := (255 : Int32)) C dX11_judgeBlock_28 (by decide) ?_
      refine j_callVi C (c_X11_wants b n (0 : Int32) (255 : Int32) s11) cw_RX11_92 ⟨rfl, rfl, Nat.le_of_ble_eq_true rfl, Nat.le_of_ble_eq_true rfl⟩ 0 kX11 (km_0 b) (lm_0 b) [.int (0 : Int32), .int (255 : Int32)] [] rfl rfl rfl (Nat.le_of_ble_eq_true rfl) dX11_judgeBlock_31 (fun x13 s12 => ?_)
      refine j_istore_n (L' := [(0, .ref (adX X 0)), (1, .int l1), (2, .int x13)]) C dX11_judgeBlock_34 rfl (by decide) [1, 2, 0] rfl ?_
      refine j_aload_n C dX11_judgeBlock_35 0 rfl rfl ?_
      refine j_aload_n C dX11_judgeBlock_36 0 rfl rfl ?_
      refine j_get C kX11 (km_0 b) (lm_0 b) 19 (by decide) tw_1212 (rm_19 b) dX11_judgeBlock_37 ?_
      refine j_if_ne (tgt := 50) C dX11_judgeBlock_40 (by decide) ?_ ?_
      · refine j_aload_n C dX11_judgeBlock_50 0 rfl rfl ?_
        refine j_get C kX11 (km_0 b) (lm_0 b) 22 (by decide) tw_1215 (rm_22 b) dX11_judgeBlock_51 ?_
        refine j_sub (L' := []) [] rfl ?_
        exact jb_X11_judgeBlock_54 C CR  n (s12 0 22) s12
      · refine j_aload_n C dX11_judgeBlock_43 0 rfl rfl ?_
        refine j_get C kX11 (km_0 b) (lm_0 b) 23 (by decide) tw_1216 (rm_23 b) dX11_judgeBlock_44 ?_
        refine j_goto (tgt := 54) C dX11_judgeBlock_47 (by decide) ?_
        refine j_sub (L' := []) [] rfl ?_
        exact jb_X11_judgeBlock_54 C CR  n (s12 0 23) s12
  · refine j_aload_n C dX11_judgeBlock_6 0 rfl rfl ?_
    refine j_callVn C (c_X11_judgeRoom b n  s) cw_RX11_103 ⟨rfl, rfl, Nat.le_of_ble_eq_true rfl, Nat.le_of_ble_eq_true rfl⟩ 0 kX11 (km_0 b) (lm_0 b) [] [] rfl rfl rfl (Nat.le_of_ble_eq_true rfl) dX11_judgeBlock_7 (fun s14 => ?_)
    refine j_goto (tgt := 114) C dX11_judgeBlock_10 (by decide) ?_
    refine j_sub (L' := []) [] rfl ?_
    exact jb_X11_judgeBlock_114 C CR  n s14
set_option maxHeartbeats 4000000 in
theorem jb_X11_forget_113 {b : Bool} {X : CtxT Mem} (C : Cx (YM b) X 2 cX11_forget RX11 none rm_X11_forget) (CR : CRn (YM b) X)  (n : Nat) (k113 : Int32 → Mem → Option Mem) (hk113 : ∀ (l1 : Int32) (s : Mem), J (YM b) X 2 (k113 l1 s) 113 [(0, .ref (adX X 0)), (1, .int l1)] [] s) (l1 : Int32) (s : Mem) : J (YM b) X 2 (b_X11_forget_113  n k113 l1 s) 113 [(0, .ref (adX X 0)), (1, .int l1)] [] s := by
  unfold b_X11_forget_113
  refine j_iload_n C dX11_forget_113 1 rfl rfl ?_
  refine j_sipush (v := (781 : Int32)) C dX11_forget_114 (by decide) ?_
  refine j_icmp_ge (tgt := 133) C dX11_forget_117 (by decide) ?_ ?_
  · refine j_aload_n C dX11_forget_133 0 rfl rfl ?_
    refine j_getR (z := 15) C kX11 (km_0 b) (lm_0 b) 27 (by decide) tw_1220 (rm_27 b) rfl dX11_forget_134 ?_
    refine j_iconst (v := (1 : Int32)) C dX11_forget_137 (by decide) ?_
    refine j_iconst (v := (1 : Int32)) C dX11_forget_138 (by decide) ?_
    refine j_iast C (km_15 b) (lm_15 b) dX11_forget_139 (fun s1 => ?_)
    refine j_aload_n C dX11_forget_140 0 rfl rfl ?_
    refine j_iconst (v := (0 : Int32)) C dX11_forget_141 (by decide) ?_
    refine j_putZ C kX11 (km_0 b) (lm_0 b) 29 (by decide) tw_1222 (rm_29 b) rfl rfl dX11_forget_142 (fun s2 => ?_)
    exact j_vret C CR dX11_forget_145
  · refine j_aload_n C dX11_forget_120 0 rfl rfl ?_
    refine j_getR (z := 15) C kX11 (km_0 b) (lm_0 b) 27 (by decide) tw_1220 (rm_27 b) rfl dX11_forget_121 ?_
    refine j_iload_n C dX11_forget_124 1 rfl rfl ?_
    refine j_iconst (v := (0 : Int32)) C dX11_forget_125 (by decide) ?_
    refine j_iast C (km_15 b) (lm_15 b) dX11_forget_126 (fun s3 => ?_)
    refine j_iinc (L2 := fun x4 => [(0, .ref (adX X 0)), (1, .int x4)]) C dX11_forget_127 1 rfl (by decide) [1, 0] (fun _ => rfl) (fun x4 => ?_)
    refine j_goto (tgt := 113) C dX11_forget_130 (by decide) ?_
    exact hk113 x4 s3
theorem lb_X11_forget_113 {b : Bool} {X : CtxT Mem} (C : Cx (YM b) X 2 cX11_forget RX11 none rm_X11_forget) (CR : CRn (YM b) X)  : ∀ (n : Nat) (l1 : Int32) (s : Mem), J (YM b) X 2 (itr1 (b_X11_forget_113) n l1 s) 113 [(0, .ref (adX X 0)), (1, .int l1)] [] s := by
  intro n
  induction n with
  | zero => intros; exact j_none
  | succ n ih =>
    intro l1 s
    exact jb_X11_forget_113 C CR  n _ ih l1 s
set_option maxHeartbeats 4000000 in
theorem jb_X11_forget_72 {b : Bool} {X : CtxT Mem} (C : Cx (YM b) X 2 cX11_forget RX11 none rm_X11_forget) (CR : CRn (YM b) X)  (n : Nat) (k72 : Int32 → Mem → Option Mem) (hk72 : ∀ (l1 : Int32) (s : Mem), J (YM b) X 2 (k72 l1 s) 72 [(0, .ref (adX X 0)), (1, .int l1)] [] s) (l1 : Int32) (s : Mem) : J (YM b) X 2 (b_X11_forget_72  n k72 l1 s) 72 [(0, .ref (adX X 0)), (1, .int l1)] [] s := by
  unfold b_X11_forget_72
  refine j_iload_n C dX11_forget_72 1 rfl rfl ?_
  refine j_bipush (v := (13 : Int32)) C dX11_forget_73 (by decide) ?_
  refine j_icmp_ge (tgt := 91) C dX11_forget_75 (by decide) ?_ ?_
  · refine j_aload_n C dX11_forget_91 0 rfl rfl ?_
    refine j_iconst (v := (0 : Int32)) C dX11_forget_92 (by decide) ?_
    refine j_put C kX11 (km_0 b) (lm_0 b) 5 (by decide) tw_1198 (rm_5 b) rfl rfl dX11_forget_93 (fun s1 => ?_)
    refine j_aload_n C dX11_forget_96 0 rfl rfl ?_
    refine j_iconst (v := (0 : Int32)) C dX11_forget_97 (by decide) ?_
    refine j_put C kX11 (km_0 b) (lm_0 b) 6 (by decide) tw_1199 (rm_6 b) rfl rfl dX11_forget_98 (fun s2 => ?_)
    refine j_aload_n C dX11_forget_101 0 rfl rfl ?_
    refine j_iconst (v := (0 : Int32)) C dX11_forget_102 (by decide) ?_
    refine j_put C kX11 (km_0 b) (lm_0 b) 7 (by decide) tw_1200 (rm_7 b) rfl rfl dX11_forget_103 (fun s3 => ?_)
    refine j_aload_n C dX11_forget_106 0 rfl rfl ?_
    refine j_iconst (v := (0 : Int32)) C dX11_forget_107 (by decide) ?_
    refine j_put C kX11 (km_0 b) (lm_0 b) 8 (by decide) tw_1201 (rm_8 b) rfl rfl dX11_forget_108 (fun s4 => ?_)
    refine j_iconst (v := (0 : Int32)) C dX11_forget_111 (by decide) ?_
    refine j_istore_n (L' := [(0, .ref (adX X 0)), (1, .int (0 : Int32))]) C dX11_forget_112 rfl (by decide) [1, 0] rfl ?_
    exact lb_X11_forget_113 C CR  n (0 : Int32) s4
  · refine j_aload_n C dX11_forget_78 0 rfl rfl ?_
    refine j_getR (z := 12) C kX11 (km_0 b) (lm_0 b) 18 (by decide) tw_1211 (rm_18 b) rfl dX11_forget_79 ?_
    refine j_iload_n C dX11_forget_82 1 rfl rfl ?_
    refine j_iconst (v := (0 : Int32)) C dX11_forget_83 (by decide) ?_
    refine j_zast C (km_12 b) (lm_12 b) dX11_forget_84 (fun s5 => ?_)
    refine j_iinc (L2 := fun x6 => [(0, .ref (adX X 0)), (1, .int x6)]) C dX11_forget_85 1 rfl (by decide) [1, 0] (fun _ => rfl) (fun x6 => ?_)
    refine j_goto (tgt := 72) C dX11_forget_88 (by decide) ?_
    exact hk72 x6 s5
theorem lb_X11_forget_72 {b : Bool} {X : CtxT Mem} (C : Cx (YM b) X 2 cX11_forget RX11 none rm_X11_forget) (CR : CRn (YM b) X)  : ∀ (n : Nat) (l1 : Int32) (s : Mem), J (YM b) X 2 (itr1 (b_X11_forget_72) n l1 s) 72 [(0, .ref (adX X 0)), (1, .int l1)] [] s := by
  intro n
  induction n with
  | zero => intros; exact j_none
  | succ n ih =>
    intro l1 s
    exact jb_X11_forget_72 C CR  n _ ih l1 s
set_option maxHeartbeats 4000000 in
theorem jb_X11_forget_51 {b : Bool} {X : CtxT Mem} (C : Cx (YM b) X 2 cX11_forget RX11 none rm_X11_forget) (CR : CRn (YM b) X)  (n : Nat) (k51 : Int32 → Mem → Option Mem) (hk51 : ∀ (l1 : Int32) (s : Mem), J (YM b) X 2 (k51 l1 s) 51 [(0, .ref (adX X 0)), (1, .int l1)] [] s) (l1 : Int32) (s : Mem) : J (YM b) X 2 (b_X11_forget_51  n k51 l1 s) 51 [(0, .ref (adX X 0)), (1, .int l1)] [] s := by
  unfold b_X11_forget_51
  refine j_iload_n C dX11_forget_51 1 rfl rfl ?_
  refine j_bipush (v := (61 : Int32)) C dX11_forget_52 (by decide) ?_
  refine j_icmp_ge (tgt := 70) C dX11_forget_54 (by decide) ?_ ?_
  · refine j_iconst (v := (0 : Int32)) C dX11_forget_70 (by decide) ?_
    refine j_istore_n (L' := [(0, .ref (adX X 0)), (1, .int (0 : Int32))]) C dX11_forget_71 rfl (by decide) [1, 0] rfl ?_
    exact lb_X11_forget_72 C CR  n (0 : Int32) s
  · refine j_aload_n C dX11_forget_57 0 rfl rfl ?_
    refine j_getR (z := 8) C kX11 (km_0 b) (lm_0 b) 14 (by decide) tw_1207 (rm_14 b) rfl dX11_forget_58 ?_
    refine j_iload_n C dX11_forget_61 1 rfl rfl ?_
    refine j_iconst (v := (0 : Int32)) C dX11_forget_62 (by decide) ?_
    refine j_zast C (km_8 b) (lm_8 b) dX11_forget_63 (fun s1 => ?_)
    refine j_iinc (L2 := fun x2 => [(0, .ref (adX X 0)), (1, .int x2)]) C dX11_forget_64 1 rfl (by decide) [1, 0] (fun _ => rfl) (fun x2 => ?_)
    refine j_goto (tgt := 51) C dX11_forget_67 (by decide) ?_
    exact hk51 x2 s1
theorem lb_X11_forget_51 {b : Bool} {X : CtxT Mem} (C : Cx (YM b) X 2 cX11_forget RX11 none rm_X11_forget) (CR : CRn (YM b) X)  : ∀ (n : Nat) (l1 : Int32) (s : Mem), J (YM b) X 2 (itr1 (b_X11_forget_51) n l1 s) 51 [(0, .ref (adX X 0)), (1, .int l1)] [] s := by
  intro n
  induction n with
  | zero => intros; exact j_none
  | succ n ih =>
    intro l1 s
    exact jb_X11_forget_51 C CR  n _ ih l1 s
set_option maxHeartbeats 4000000 in
theorem jb_X11_forget_30 {b : Bool} {X : CtxT Mem} (C : Cx (YM b) X 2 cX11_forget RX11 none rm_X11_forget) (CR : CRn (YM b) X)  (n : Nat) (k30 : Int32 → Mem → Option Mem) (hk30 : ∀ (l1 : Int32) (s : Mem), J (YM b) X 2 (k30 l1 s) 30 [(0, .ref (adX X 0)), (1, .int l1)] [] s) (l1 : Int32) (s : Mem) : J (YM b) X 2 (b_X11_forget_30  n k30 l1 s) 30 [(0, .ref (adX X 0)), (1, .int l1)] [] s := by
  unfold b_X11_forget_30
  refine j_iload_n C dX11_forget_30 1 rfl rfl ?_
  refine j_bipush (v := (61 : Int32)) C dX11_forget_31 (by decide) ?_
  refine j_icmp_ge (tgt := 49) C dX11_forget_33 (by decide) ?_ ?_
  · refine j_iconst (v := (0 : Int32)) C dX11_forget_49 (by decide) ?_
    refine j_istore_n (L' := [(0, .ref (adX X 0)), (1, .int (0 : Int32))]) C dX11_forget_50 rfl (by decide) [1, 0] rfl ?_
    exact lb_X11_forget_51 C CR  n (0 : Int32) s
  · refine j_aload_n C dX11_forget_36 0 rfl rfl ?_
    refine j_getR (z := 7) C kX11 (km_0 b) (lm_0 b) 13 (by decide) tw_1206 (rm_13 b) rfl dX11_forget_37 ?_
    refine j_iload_n C dX11_forget_40 1 rfl rfl ?_
    refine j_iconst (v := (0 : Int32)) C dX11_forget_41 (by decide) ?_
    refine j_iast C (km_7 b) (lm_7 b) dX11_forget_42 (fun s1 => ?_)
    refine j_iinc (L2 := fun x2 => [(0, .ref (adX X 0)), (1, .int x2)]) C dX11_forget_43 1 rfl (by decide) [1, 0] (fun _ => rfl) (fun x2 => ?_)
    refine j_goto (tgt := 30) C dX11_forget_46 (by decide) ?_
    exact hk30 x2 s1
theorem lb_X11_forget_30 {b : Bool} {X : CtxT Mem} (C : Cx (YM b) X 2 cX11_forget RX11 none rm_X11_forget) (CR : CRn (YM b) X)  : ∀ (n : Nat) (l1 : Int32) (s : Mem), J (YM b) X 2 (itr1 (b_X11_forget_30) n l1 s) 30 [(0, .ref (adX X 0)), (1, .int l1)] [] s := by
  intro n
  induction n with
  | zero => intros; exact j_none
  | succ n ih =>
    intro l1 s
    exact jb_X11_forget_30 C CR  n _ ih l1 s
set_option maxHeartbeats 4000000 in
theorem jb_X11_forget_2 {b : Bool} {X : CtxT Mem} (C : Cx (YM b) X 2 cX11_forget RX11 none rm_X11_forget) (CR : CRn (YM b) X)  (n : Nat) (k2 : Int32 → Mem → Option Mem) (hk2 : ∀ (l1 : Int32) (s : Mem), J (YM b) X 2 (k2 l1 s) 2 [(0, .ref (adX X 0)), (1, .int l1)] [] s) (l1 : Int32) (s : Mem) : J (YM b) X 2 (b_X11_forget_2  n k2 l1 s) 2 [(0, .ref (adX X 0)), (1, .int l1)] [] s := by
  unfold b_X11_forget_2
  refine j_iload_n C dX11_forget_2 1 rfl rfl ?_
  refine j_bipush (v := (21 : Int32)) C dX11_forget_3 (by decide) ?_
  refine j_icmp_ge (tgt := 28) C dX11_forget_5 (by decide) ?_ ?_
  · refine j_iconst (v := (0 : Int32)) C dX11_forget_28 (by decide) ?_
    refine j_istore_n (L' := [(0, .ref (adX X 0)), (1, .int (0 : Int32))]) C dX11_forget_29 rfl (by decide) [1, 0] rfl ?_
    exact lb_X11_forget_30 C CR  n (0 : Int32) s
  · refine j_aload_n C dX11_forget_8 0 rfl rfl ?_
    refine j_getR (z := 3) C kX11 (km_0 b) (lm_0 b) 9 (by decide) tw_1202 (rm_9 b) rfl dX11_forget_9 ?_
    refine j_iload_n C dX11_forget_12 1 rfl rfl ?_
    refine j_iconst (v := (0 : Int32)) C dX11_forget_13 (by decide) ?_
    refine j_zast C (km_3 b) (lm_3 b) dX11_forget_14 (fun s1 => ?_)
    refine j_aload_n C dX11_forget_15 0 rfl rfl ?_
    refine j_getR (z := 4) C kX11 (km_0 b) (lm_0 b) 10 (by decide) tw_1203 (rm_10 b) rfl dX11_forget_16 ?_
    refine j_iload_n C dX11_forget_19 1 rfl rfl ?_
    refine j_iconst (v := (0 : Int32)) C dX11_forget_20 (by decide) ?_
    refine j_iast C (km_4 b) (lm_4 b) dX11_forget_21 (fun s2 => ?_)
    refine j_iinc (L2 := fun x3 => [(0, .ref (adX X 0)), (1, .int x3)]) C dX11_forget_22 1 rfl (by decide) [1, 0] (fun _ => rfl) (fun x3 => ?_)
    refine j_goto (tgt := 2) C dX11_forget_25 (by decide) ?_
    exact hk2 x3 s2
theorem lb_X11_forget_2 {b : Bool} {X : CtxT Mem} (C : Cx (YM b) X 2 cX11_forget RX11 none rm_X11_forget) (CR : CRn (YM b) X)  : ∀ (n : Nat) (l1 : Int32) (s : Mem), J (YM b) X 2 (itr1 (b_X11_forget_2) n l1 s) 2 [(0, .ref (adX X 0)), (1, .int l1)] [] s := by
  intro n
  induction n with
  | zero => intros; exact j_none
  | succ n ih =>
    intro l1 s
    exact jb_X11_forget_2 C CR  n _ ih l1 s
set_option maxHeartbeats 4000000 in
theorem c_X11_forget (b : Bool) (n : Nat)  (s : Mem) : CTn (YM b) yX11_forget cX11_forget 2 none rm_X11_forget (fun ad => [.ref (ad 0)]) s (f_X11_forget n  s) := by
  refine CTn_of (by decide) (fun _ => Nat.le_of_ble_eq_true rfl) (fun X C CR => ?_)
  show J (YM b) X 2 (f_X11_forget n  s) 0 [(0, .ref (adX X 0))] [] s
  unfold f_X11_forget
  refine j_iconst (v := (0 : Int32)) C dX11_forget_0 (by decide) ?_
  refine j_istore_n (L' := [(0, .ref (adX X 0)), (1, .int (0 : Int32))]) C dX11_forget_1 rfl (by decide) [1, 0] rfl ?_
  exact lb_X11_forget_2 C CR  n (0 : Int32) s
set_option maxHeartbeats 4000000 in
theorem jb_X11_load_123 {b : Bool} {X : CtxT Mem} (C : Cx (YM b) X 7 cX11_load RX11 none rm_X11_load) (CR : CRn (YM b) X) (k108 : Int32 → Int32 → Int32 → Mem → Option Mem) (hk108 : ∀ (l2 : Int32) (l4 : Int32) (l5 : Int32) (s : Mem), J (YM b) X 7 (k108 l2 l4 l5 s) 108 [(0, .ref (adX X 0)), (2, .int l2), (4, .int l4), (5, .int l5)] [] s) (n : Nat) (k123 : Int32 → Int32 → Int32 → Int32 → Mem → Option Mem) (hk123 : ∀ (l2 : Int32) (l4 : Int32) (l5 : Int32) (l6 : Int32) (s : Mem), J (YM b) X 7 (k123 l2 l4 l5 l6 s) 123 [(0, .ref (adX X 0)), (2, .int l2), (4, .int l4), (5, .int l5), (6, .int l6)] [] s) (l2 : Int32) (l4 : Int32) (l5 : Int32) (l6 : Int32) (s : Mem) : J (YM b) X 7 (b_X11_load_123 k108 n k123 l2 l4 l5 l6 s) 123 [(0, .ref (adX X 0)), (2, .int l2), (4, .int l4), (5, .int l5), (6, .int l6)] [] s := by
  unfold b_X11_load_123
  refine j_iload C dX11_load_123 4 rfl ?_
  refine j_iconst (v := (4 : Int32)) C dX11_load_125 (by decide) ?_
  refine j_icmp_ge (tgt := 169) C dX11_load_126 (by decide) ?_ ?_
  · refine j_aload_n C dX11_load_169 0 rfl rfl ?_
    refine j_getR (z := 15) C kX11 (km_0 b) (lm_0 b) 27 (by decide) tw_1220 (rm_27 b) rfl dX11_load_170 ?_
    refine j_sipush (v := (445 : Int32)) C dX11_load_173 (by decide) ?_
    refine j_iload C dX11_load_176 2 rfl ?_
    refine j_bipush (v := (16 : Int32)) C dX11_load_178 (by decide) ?_
    refine j_imul C dX11_load_180 ?_
    refine j_iadd C dX11_load_181 ?_
    refine j_iload C dX11_load_182 3 rfl ?_
    refine j_iadd C dX11_load_184 ?_
    refine j_aload_n C dX11_load_185 0 rfl rfl ?_
    refine j_getR (z := 2) C kX11 (km_0 b) (lm_0 b) 3 (by decide) tw_1196 (rm_3 b) rfl dX11_load_186 ?_
    refine j_iload_n C dX11_load_189 1 rfl rfl ?_
    refine j_bipush (v := (6 : Int32)) C dX11_load_190 (by decide) ?_
    refine j_iadd C dX11_load_192 ?_
    refine j_iconst (v := (5 : Int32)) C dX11_load_193 (by decide) ?_
    refine j_iload C dX11_load_194 3 rfl ?_
    refine j_imul C dX11_load_196 ?_
    refine j_iadd C dX11_load_197 ?_
    refine j_iald C (km_2 b) (lm_2 b) dX11_load_198 ?_
    refine j_iast C (km_15 b) (lm_15 b) dX11_load_199 (fun s1 => ?_)
    refine j_iinc (L2 := fun x2 => [(0, .ref (adX X 0)), (2, .int l2), (4, .int l4), (5, .int x2), (6, .int l6)]) C dX11_load_200 3 rfl (by decide) [1, 2, 3, 0, 4] (fun _ => rfl) (fun x2 => ?_)
    refine j_goto (tgt := 108) C dX11_load_203 (by decide) ?_
    refine j_sub (L' := [(0, .ref (adX X 0)), (2, .int l2), (4, .int l4), (5, .int x2)]) [0, 1, 2, 3] rfl ?_
    exact hk108 l2 l4 x2 s1
  · refine j_aload_n C dX11_load_129 0 rfl rfl ?_
    refine j_getR (z := 5) C kX11 (km_0 b) (lm_0 b) 11 (by decide) tw_1204 (rm_11 b) rfl dX11_load_130 ?_
    refine j_iload C dX11_load_133 2 rfl ?_
    refine j_bipush (v := (16 : Int32)) C dX11_load_135 (by decide) ?_
    refine j_imul C dX11_load_137 ?_
    refine j_iload C dX11_load_138 3 rfl ?_
    refine j_iadd C dX11_load_140 ?_
    refine j_iconst (v := (4 : Int32)) C dX11_load_141 (by decide) ?_
    refine j_imul C dX11_load_142 ?_
    refine j_iload C dX11_load_143 4 rfl ?_
    refine j_iadd C dX11_load_145 ?_
    refine j_aload_n C dX11_load_146 0 rfl rfl ?_
    refine j_getR (z := 2) C kX11 (km_0 b) (lm_0 b) 3 (by decide) tw_1196 (rm_3 b) rfl dX11_load_147 ?_
    refine j_iload_n C dX11_load_150 1 rfl rfl ?_
    refine j_iconst (v := (2 : Int32)) C dX11_load_151 (by decide) ?_
    refine j_iadd C dX11_load_152 ?_
    refine j_iconst (v := (5 : Int32)) C dX11_load_153 (by decide) ?_
    refine j_iload C dX11_load_154 3 rfl ?_
    refine j_imul C dX11_load_156 ?_
    refine j_iadd C dX11_load_157 ?_
    refine j_iload C dX11_load_158 4 rfl ?_
    refine j_iadd C dX11_load_160 ?_
    refine j_iald C (km_2 b) (lm_2 b) dX11_load_161 ?_
    refine j_iast C (km_5 b) (lm_5 b) dX11_load_162 (fun s3 => ?_)
    refine j_iinc (L2 := fun x4 => [(0, .ref (adX X 0)), (2, .int l2), (4, .int l4), (5, .int l5), (6, .int x4)]) C dX11_load_163 4 rfl (by decide) [1, 2, 3, 4, 0] (fun _ => rfl) (fun x4 => ?_)
    refine j_goto (tgt := 123) C dX11_load_166 (by decide) ?_
    exact hk123 l2 l4 l5 x4 s3
theorem lb_X11_load_123 {b : Bool} {X : CtxT Mem} (C : Cx (YM b) X 7 cX11_load RX11 none rm_X11_load) (CR : CRn (YM b) X) (k108 : Int32 → Int32 → Int32 → Mem → Option Mem) (hk108 : ∀ (l2 : Int32) (l4 : Int32) (l5 : Int32) (s : Mem), J (YM b) X 7 (k108 l2 l4 l5 s) 108 [(0, .ref (adX X 0)), (2, .int l2), (4, .int l4), (5, .int l5)] [] s) : ∀ (n : Nat) (l2 : Int32) (l4 : Int32) (l5 : Int32) (l6 : Int32) (s : Mem), J (YM b) X 7 (itr4 (b_X11_load_123 k108) n l2 l4 l5 l6 s) 123 [(0, .ref (adX X 0)), (2, .int l2), (4, .int l4), (5, .int l5), (6, .int l6)] [] s := by
  intro n
  induction n with
  | zero => intros; exact j_none
  | succ n ih =>
    intro l2 l4 l5 l6 s
    exact jb_X11_load_123 C CR k108 hk108 n _ ih l2 l4 l5 l6 s
set_option maxHeartbeats 4000000 in
theorem jb_X11_load_403 {b : Bool} {X : CtxT Mem} (C : Cx (YM b) X 7 cX11_load RX11 none rm_X11_load) (CR : CRn (YM b) X)  (n : Nat)   (s : Mem) : J (YM b) X 7 (b_X11_load_403  n   s) 403 [] [] s := by
  unfold b_X11_load_403
  exact j_vret C CR dX11_load_403
set_option maxHeartbeats 4000000 in
theorem jb_X11_load_108 {b : Bool} {X : CtxT Mem} (C : Cx (YM b) X 7 cX11_load RX11 none rm_X11_load) (CR : CRn (YM b) X)  (n : Nat) (k108 : Int32 → Int32 → Int32 → Mem → Option Mem) (hk108 : ∀ (l2 : Int32) (l4 : Int32) (l5 : Int32) (s : Mem), J (YM b) X 7 (k108 l2 l4 l5 s) 108 [(0, .ref (adX X 0)), (2, .int l2), (4, .int l4), (5, .int l5)] [] s) (l2 : Int32) (l4 : Int32) (l5 : Int32) (s : Mem) : J (YM b) X 7 (b_X11_load_108  n k108 l2 l4 l5 s) 108 [(0, .ref (adX X 0)), (2, .int l2), (4, .int l4), (5, .int l5)] [] s := by
  unfold b_X11_load_108
  refine j_iload C dX11_load_108 3 rfl ?_
  refine j_aload_n C dX11_load_110 0 rfl rfl ?_
  refine j_getR (z := 4) C kX11 (km_0 b) (lm_0 b) 10 (by decide) tw_1203 (rm_10 b) rfl dX11_load_111 ?_
  refine j_iload C dX11_load_114 2 rfl ?_
  refine j_iald C (km_4 b) (lm_4 b) dX11_load_116 ?_
  refine j_icmp_ge (tgt := 206) C dX11_load_117 (by decide) ?_ ?_
  · refine j_goto (tgt := 403) C dX11_load_206 (by decide) ?_
    refine j_sub (L' := []) [] rfl ?_
    exact jb_X11_load_403 C CR  n s
  · refine j_iconst (v := (0 : Int32)) C dX11_load_120 (by decide) ?_
    refine j_istore (L' := [(0, .ref (adX X 0)), (2, .int l2), (4, .int l4), (5, .int l5), (6, .int (0 : Int32))]) C dX11_load_121 (by decide) [1, 2, 3, 4, 0] rfl ?_
    exact lb_X11_load_123 C CR k108 hk108 n l2 l4 l5 (0 : Int32) s
theorem lb_X11_load_108 {b : Bool} {X : CtxT Mem} (C : Cx (YM b) X 7 cX11_load RX11 none rm_X11_load) (CR : CRn (YM b) X)  : ∀ (n : Nat) (l2 : Int32) (l4 : Int32) (l5 : Int32) (s : Mem), J (YM b) X 7 (itr3 (b_X11_load_108) n l2 l4 l5 s) 108 [(0, .ref (adX X 0)), (2, .int l2), (4, .int l4), (5, .int l5)] [] s := by
  intro n
  induction n with
  | zero => intros; exact j_none
  | succ n ih =>
    intro l2 l4 l5 s
    exact jb_X11_load_108 C CR  n _ ih l2 l4 l5 s
set_option maxHeartbeats 4000000 in
theorem jb_X11_load_263 {b : Bool} {X : CtxT Mem} (C : Cx (YM b) X 7 cX11_load RX11 none rm_X11_load) (CR : CRn (YM b) X)  (n : Nat) (k263 : Int32 → Int32 → Int32 → Int32 → Mem → Option Mem) (hk263 : ∀ (l2 : Int32) (l3 : Int32) (l4 : Int32) (l5 : Int32) (s : Mem), J (YM b) X 7 (k263 l2 l3 l4 l5 s) 263 [(0, .ref (adX X 0)), (2, .int l2), (3, .int l3), (4, .int l4), (5, .int l5)] [] s) (l2 : Int32) (l3 : Int32) (l4 : Int32) (l5 : Int32) (s : Mem) : J (YM b) X 7 (b_X11_load_263  n k263 l2 l3 l4 l5 s) 263 [(0, .ref (adX X 0)), (2, .int l2), (3, .int l3), (4, .int l4), (5, .int l5)] [] s := by
  unfold b_X11_load_263
  refine j_iload C dX11_load_263 4 rfl ?_
  refine j_iconst (v := (3 : Int32)) C dX11_load_265 (by decide) ?_
  refine j_icmp_ge (tgt := 298) C dX11_load_266 (by decide) ?_ ?_
  · refine j_aload_n C dX11_load_298 0 rfl rfl ?_
    refine j_getR (z := 15) C kX11 (km_0 b) (lm_0 b) 27 (by decide) tw_1220 (rm_27 b) rfl dX11_load_299 ?_
    refine j_sipush (v := (323 : Int32)) C dX11_load_302 (by decide) ?_
    refine j_iload C dX11_load_305 3 rfl ?_
    refine j_iadd C dX11_load_307 ?_
    refine j_aload_n C dX11_load_308 0 rfl rfl ?_
    refine j_getR (z := 2) C kX11 (km_0 b) (lm_0 b) 3 (by decide) tw_1196 (rm_3 b) rfl dX11_load_309 ?_
    refine j_iload_n C dX11_load_312 1 rfl rfl ?_
    refine j_iconst (v := (4 : Int32)) C dX11_load_313 (by decide) ?_
    refine j_iadd C dX11_load_314 ?_
    refine j_iald C (km_2 b) (lm_2 b) dX11_load_315 ?_
    refine j_iast C (km_15 b) (lm_15 b) dX11_load_316 (fun s1 => ?_)
    refine j_aload_n C dX11_load_317 0 rfl rfl ?_
    refine j_getR (z := 10) C kX11 (km_0 b) (lm_0 b) 16 (by decide) tw_1209 (rm_16 b) rfl dX11_load_318 ?_
    refine j_iload C dX11_load_321 3 rfl ?_
    refine j_iload_n C dX11_load_323 1 rfl rfl ?_
    refine j_iconst (v := (5 : Int32)) C dX11_load_324 (by decide) ?_
    refine j_iadd C dX11_load_325 ?_
    refine j_iast C (km_10 b) (lm_10 b) dX11_load_326 (fun s2 => ?_)
    refine j_aload_n C dX11_load_327 0 rfl rfl ?_
    refine j_getR (z := 11) C kX11 (km_0 b) (lm_0 b) 17 (by decide) tw_1210 (rm_17 b) rfl dX11_load_328 ?_
    refine j_iload C dX11_load_331 3 rfl ?_
    refine j_iload_n C dX11_load_333 2 rfl rfl ?_
    refine j_iconst (v := (5 : Int32)) C dX11_load_334 (by decide) ?_
    refine j_isub C dX11_load_335 ?_
    refine j_iconst (v := (2 : Int32)) C dX11_load_336 (by decide) ?_
    refine j_idiv C dX11_load_337 ?_
    refine j_iast C (km_11 b) (lm_11 b) dX11_load_338 (fun s3 => ?_)
    refine j_goto (tgt := 403) C dX11_load_339 (by decide) ?_
    refine j_sub (L' := []) [] rfl ?_
    exact jb_X11_load_403 C CR  n s3
  · refine j_aload_n C dX11_load_269 0 rfl rfl ?_
    refine j_getR (z := 9) C kX11 (km_0 b) (lm_0 b) 15 (by decide) tw_1208 (rm_15 b) rfl dX11_load_270 ?_
    refine j_iconst (v := (3 : Int32)) C dX11_load_273 (by decide) ?_
    refine j_iload C dX11_load_274 3 rfl ?_
    refine j_imul C dX11_load_276 ?_
    refine j_iload C dX11_load_277 4 rfl ?_
    refine j_iadd C dX11_load_279 ?_
    refine j_aload_n C dX11_load_280 0 rfl rfl ?_
    refine j_getR (z := 2) C kX11 (km_0 b) (lm_0 b) 3 (by decide) tw_1196 (rm_3 b) rfl dX11_load_281 ?_
    refine j_iload_n C dX11_load_284 1 rfl rfl ?_
    refine j_iconst (v := (1 : Int32)) C dX11_load_285 (by decide) ?_
    refine j_iadd C dX11_load_286 ?_
    refine j_iload C dX11_load_287 4 rfl ?_
    refine j_iadd C dX11_load_289 ?_
    refine j_iald C (km_2 b) (lm_2 b) dX11_load_290 ?_
    refine j_iast C (km_9 b) (lm_9 b) dX11_load_291 (fun s4 => ?_)
    refine j_iinc (L2 := fun x5 => [(0, .ref (adX X 0)), (2, .int l2), (3, .int l3), (4, .int l4), (5, .int x5)]) C dX11_load_292 4 rfl (by decide) [1, 2, 3, 4, 0] (fun _ => rfl) (fun x5 => ?_)
    refine j_goto (tgt := 263) C dX11_load_295 (by decide) ?_
    exact hk263 l2 l3 l4 x5 s4
theorem lb_X11_load_263 {b : Bool} {X : CtxT Mem} (C : Cx (YM b) X 7 cX11_load RX11 none rm_X11_load) (CR : CRn (YM b) X)  : ∀ (n : Nat) (l2 : Int32) (l3 : Int32) (l4 : Int32) (l5 : Int32) (s : Mem), J (YM b) X 7 (itr4 (b_X11_load_263) n l2 l3 l4 l5 s) 263 [(0, .ref (adX X 0)), (2, .int l2), (3, .int l3), (4, .int l4), (5, .int l5)] [] s := by
  intro n
  induction n with
  | zero => intros; exact j_none
  | succ n ih =>
    intro l2 l3 l4 l5 s
    exact jb_X11_load_263 C CR  n _ ih l2 l3 l4 l5 s
set_option maxHeartbeats 4000000 in
theorem jb_X11_load_363 {b : Bool} {X : CtxT Mem} (C : Cx (YM b) X 7 cX11_load RX11 none rm_X11_load) (CR : CRn (YM b) X)  (n : Nat) (k363 : Int32 → Int32 → Int32 → Mem → Option Mem) (hk363 : ∀ (l2 : Int32) (l4 : Int32) (l5 : Int32) (s : Mem), J (YM b) X 7 (k363 l2 l4 l5 s) 363 [(0, .ref (adX X 0)), (2, .int l2), (4, .int l4), (5, .int l5)] [] s) (l2 : Int32) (l4 : Int32) (l5 : Int32) (s : Mem) : J (YM b) X 7 (b_X11_load_363  n k363 l2 l4 l5 s) 363 [(0, .ref (adX X 0)), (2, .int l2), (4, .int l4), (5, .int l5)] [] s := by
  unfold b_X11_load_363
  refine j_iload C dX11_load_363 3 rfl ?_
  refine j_iconst (v := (4 : Int32)) C dX11_load_365 (by decide) ?_
  refine j_icmp_ge (tgt := 403) C dX11_load_366 (by decide) ?_ ?_
  · refine j_sub (L' := []) [] rfl ?_
    exact jb_X11_load_403 C CR  n s
  · refine j_aload_n C dX11_load_369 0 rfl rfl ?_
    refine j_getR (z := 15) C kX11 (km_0 b) (lm_0 b) 27 (by decide) tw_1220 (rm_27 b) rfl dX11_load_370 ?_
    refine j_sipush (v := (232 : Int32)) C dX11_load_373 (by decide) ?_
    refine j_bipush (v := (7 : Int32)) C dX11_load_376 (by decide) ?_
    refine j_iload C dX11_load_378 2 rfl ?_
    refine j_imul C dX11_load_380 ?_
    refine j_iadd C dX11_load_381 ?_
    refine j_iload C dX11_load_382 3 rfl ?_
    refine j_iadd C dX11_load_384 ?_
    refine j_aload_n C dX11_load_385 0 rfl rfl ?_
    refine j_getR (z := 2) C kX11 (km_0 b) (lm_0 b) 3 (by decide) tw_1196 (rm_3 b) rfl dX11_load_386 ?_
    refine j_iload_n C dX11_load_389 1 rfl rfl ?_
    refine j_iconst (v := (1 : Int32)) C dX11_load_390 (by decide) ?_
    refine j_iadd C dX11_load_391 ?_
    refine j_iload C dX11_load_392 3 rfl ?_
    refine j_iadd C dX11_load_394 ?_
    refine j_iald C (km_2 b) (lm_2 b) dX11_load_395 ?_
    refine j_iast C (km_15 b) (lm_15 b) dX11_load_396 (fun s1 => ?_)
    refine j_iinc (L2 := fun x2 => [(0, .ref (adX X 0)), (2, .int l2), (4, .int l4), (5, .int x2)]) C dX11_load_397 3 rfl (by decide) [1, 2, 3, 0] (fun _ => rfl) (fun x2 => ?_)
    refine j_goto (tgt := 363) C dX11_load_400 (by decide) ?_
    exact hk363 l2 l4 x2 s1
theorem lb_X11_load_363 {b : Bool} {X : CtxT Mem} (C : Cx (YM b) X 7 cX11_load RX11 none rm_X11_load) (CR : CRn (YM b) X)  : ∀ (n : Nat) (l2 : Int32) (l4 : Int32) (l5 : Int32) (s : Mem), J (YM b) X 7 (itr3 (b_X11_load_363) n l2 l4 l5 s) 363 [(0, .ref (adX X 0)), (2, .int l2), (4, .int l4), (5, .int l5)] [] s := by
  intro n
  induction n with
  | zero => intros; exact j_none
  | succ n ih =>
    intro l2 l4 l5 s
    exact jb_X11_load_363 C CR  n _ ih l2 l4 l5 s
set_option maxHeartbeats 4000000 in
theorem jb_X11_load_342 {b : Bool} {X : CtxT Mem} (C : Cx (YM b) X 7 cX11_load RX11 none rm_X11_load) (CR : CRn (YM b) X)  (n : Nat)  (l2 : Int32) (l4 : Int32) (s : Mem) : J (YM b) X 7 (b_X11_load_342  n  l2 l4 s) 342 [(0, .ref (adX X 0)), (2, .int l2), (4, .int l4)] [] s := by
  unfold b_X11_load_342
  refine j_aload_n C dX11_load_342 0 rfl rfl ?_
  refine j_dup C dX11_load_343 rfl ?_
  refine j_get C kX11 (km_0 b) (lm_0 b) 8 (by decide) tw_1201 (rm_8 b) dX11_load_344 ?_
  refine j_iconst (v := (1 : Int32)) C dX11_load_347 (by decide) ?_
  refine j_iadd C dX11_load_348 ?_
  refine j_put C kX11 (km_0 b) (lm_0 b) 8 (by decide) tw_1201 (rm_8 b) rfl rfl dX11_load_349 (fun s1 => ?_)
  refine j_aload_n C dX11_load_352 0 rfl rfl ?_
  refine j_getR (z := 12) C kX11 (km_0 b) (lm_0 b) 18 (by decide) tw_1211 (rm_18 b) rfl dX11_load_353 ?_
  refine j_iload C dX11_load_356 2 rfl ?_
  refine j_iconst (v := (1 : Int32)) C dX11_load_358 (by decide) ?_
  refine j_zast C (km_12 b) (lm_12 b) dX11_load_359 (fun s2 => ?_)
  refine j_iconst (v := (0 : Int32)) C dX11_load_360 (by decide) ?_
  refine j_istore (L' := [(0, .ref (adX X 0)), (2, .int l2), (4, .int l4), (5, .int (0 : Int32))]) C dX11_load_361 (by decide) [1, 2, 3, 0] rfl ?_
  exact lb_X11_load_363 C CR  n l2 l4 (0 : Int32) s2
set_option maxHeartbeats 4000000 in
theorem c_X11_load (b : Bool) (n : Nat) (l1 : Int32) (s : Mem) : CTn (YM b) yX11_load cX11_load 7 none rm_X11_load (fun ad => [.ref (ad 0), .int l1]) s (f_X11_load n l1 s) := by
  refine CTn_of (by decide) (fun _ => Nat.le_of_ble_eq_true rfl) (fun X C CR => ?_)
  show J (YM b) X 7 (f_X11_load n l1 s) 0 [(0, .ref (adX X 0)), (1, .int l1)] [] s
  unfold f_X11_load
  refine j_iload_n C dX11_load_0 1 rfl rfl ?_
  refine j_iconst (v := (3 : Int32)) C dX11_load_1 (by decide) ?_
  refine j_iadd C dX11_load_2 ?_
  refine j_top (fun x1 => ?_)
  refine j_istore_n (L' := [(0, .ref (adX X 0)), (1, .int l1), (2, .int x1)]) C dX11_load_3 rfl (by decide) [1, 2, 0] rfl ?_
  refine j_aload_n C dX11_load_4 0 rfl rfl ?_
  refine j_getR (z := 2) C kX11 (km_0 b) (lm_0 b) 3 (by decide) tw_1196 (rm_3 b) rfl dX11_load_5 ?_
  refine j_iload_n C dX11_load_8 1 rfl rfl ?_
  refine j_iconst (v := (1 : Int32)) C dX11_load_9 (by decide) ?_
  refine j_iadd C dX11_load_10 ?_
  refine j_iald C (km_2 b) (lm_2 b) dX11_load_11 ?_
  refine j_bipush (v := (8 : Int32)) C dX11_load_12 (by decide) ?_
  refine j_ishl C dX11_load_14 ?_
  refine j_aload_n C dX11_load_15 0 rfl rfl ?_
  refine j_getR (z := 2) C kX11 (km_0 b) (lm_0 b) 3 (by decide) tw_1196 (rm_3 b) rfl dX11_load_16 ?_
  refine j_iload_n C dX11_load_19 1 rfl rfl ?_
  refine j_iconst (v := (2 : Int32)) C dX11_load_20 (by decide) ?_
  refine j_iadd C dX11_load_21 ?_
  refine j_iald C (km_2 b) (lm_2 b) dX11_load_22 ?_
  refine j_ior C dX11_load_23 ?_
  refine j_top (fun x2 => ?_)
  refine j_istore_n (L' := [(0, .ref (adX X 0)), (1, .int l1), (2, .int x1), (3, .int x2)]) C dX11_load_24 rfl (by decide) [1, 2, 3, 0] rfl ?_
  refine j_aload_n C dX11_load_25 0 rfl rfl ?_
  refine j_getR (z := 2) C kX11 (km_0 b) (lm_0 b) 3 (by decide) tw_1196 (rm_3 b) rfl dX11_load_26 ?_
  refine j_iload_n C dX11_load_29 2 rfl rfl ?_
  refine j_iald C (km_2 b) (lm_2 b) dX11_load_30 ?_
  refine j_istore (L' := [(0, .ref (adX X 0)), (1, .int l1), (2, .int x1), (3, .int x2), (4, .int (s 2 x1.toNatClampNeg))]) C dX11_load_31 (by decide) [1, 2, 3, 4, 0] rfl ?_
  refine j_aload_n C dX11_load_33 0 rfl rfl ?_
  refine j_getR (z := 2) C kX11 (km_0 b) (lm_0 b) 3 (by decide) tw_1196 (rm_3 b) rfl dX11_load_34 ?_
  refine j_iload_n C dX11_load_37 1 rfl rfl ?_
  refine j_iald C (km_2 b) (lm_2 b) dX11_load_38 ?_
  refine j_ite (fun hc => ?_) (fun hc0 => ?_)
  · refine j_tswI (off := 203) (tgt := 242) C dX11_load_39 (by rw [hc]; decide) (by rw [hc]; decide) (by rw [hc]; rfl) (by decide) ?_
    refine j_aload_n C dX11_load_242 0 rfl rfl ?_
    refine j_dup C dX11_load_243 rfl ?_
    refine j_get C kX11 (km_0 b) (lm_0 b) 7 (by decide) tw_1200 (rm_7 b) dX11_load_244 ?_
    refine j_iconst (v := (1 : Int32)) C dX11_load_247 (by decide) ?_
    refine j_iadd C dX11_load_248 ?_
    refine j_put C kX11 (km_0 b) (lm_0 b) 7 (by decide) tw_1200 (rm_7 b) rfl rfl dX11_load_249 (fun s3 => ?_)
    refine j_aload_n C dX11_load_252 0 rfl rfl ?_
    refine j_getR (z := 8) C kX11 (km_0 b) (lm_0 b) 14 (by decide) tw_1207 (rm_14 b) rfl dX11_load_253 ?_
    refine j_iload C dX11_load_256 4 rfl ?_
    refine j_iconst (v := (1 : Int32)) C dX11_load_258 (by decide) ?_
    refine j_zast C (km_8 b) (lm_8 b) dX11_load_259 (fun s4 => ?_)
    refine j_iconst (v := (0 : Int32)) C dX11_load_260 (by decide) ?_
    refine j_istore (L' := [(0, .ref (adX X 0)), (1, .int l1), (2, .int x1), (3, .int x2), (4, .int (s 2 x1.toNatClampNeg)), (5, .int (0 : Int32))]) C dX11_load_261 (by decide) [1, 2, 3, 4, 5, 0] rfl ?_
    refine j_sub (L' := [(0, .ref (adX X 0)), (2, .int x1), (3, .int x2), (4, .int (s 2 x1.toNatClampNeg)), (5, .int (0 : Int32))]) [0, 2, 3, 4, 5] rfl ?_
    exact lb_X11_load_263 C CR  n x1 x2 (s 2 x1.toNatClampNeg) (0 : Int32) s4
  refine j_ite (fun hc => ?_) (fun hc1 => ?_)
  · refine j_tswI (off := 303) (tgt := 342) C dX11_load_39 (by rw [hc]; decide) (by rw [hc]; decide) (by rw [hc]; rfl) (by decide) ?_
    refine j_sub (L' := [(0, .ref (adX X 0)), (2, .int x1), (4, .int (s 2 x1.toNatClampNeg))]) [0, 2, 4] rfl ?_
    exact jb_X11_load_342 C CR  n x1 (s 2 x1.toNatClampNeg) s
  refine j_ite (fun hc => ?_) (fun hc2 => ?_)
  · refine j_tswI (off := 303) (tgt := 342) C dX11_load_39 (by rw [hc]; decide) (by rw [hc]; decide) (by rw [hc]; rfl) (by decide) ?_
    refine j_sub (L' := [(0, .ref (adX X 0)), (2, .int x1), (4, .int (s 2 x1.toNatClampNeg))]) [0, 2, 4] rfl ?_
    exact jb_X11_load_342 C CR  n x1 (s 2 x1.toNatClampNeg) s
  refine j_ite (fun hc => ?_) (fun hc3 => ?_)
  · refine j_tswI (off := 33) (tgt := 72) C dX11_load_39 (by rw [hc]; decide) (by rw [hc]; decide) (by rw [hc]; rfl) (by decide) ?_
    refine j_aload_n C dX11_load_72 0 rfl rfl ?_
    refine j_dup C dX11_load_73 rfl ?_
    refine j_get C kX11 (km_0 b) (lm_0 b) 5 (by decide) tw_1198 (rm_5 b) dX11_load_74 ?_
    refine j_iconst (v := (1 : Int32)) C dX11_load_77 (by decide) ?_
    refine j_iadd C dX11_load_78 ?_
    refine j_put C kX11 (km_0 b) (lm_0 b) 5 (by decide) tw_1198 (rm_5 b) rfl rfl dX11_load_79 (fun s5 => ?_)
    refine j_aload_n C dX11_load_82 0 rfl rfl ?_
    refine j_getR (z := 3) C kX11 (km_0 b) (lm_0 b) 9 (by decide) tw_1202 (rm_9 b) rfl dX11_load_83 ?_
    refine j_iload C dX11_load_86 4 rfl ?_
    refine j_iconst (v := (1 : Int32)) C dX11_load_88 (by decide) ?_
    refine j_zast C (km_3 b) (lm_3 b) dX11_load_89 (fun s6 => ?_)
    refine j_aload_n C dX11_load_90 0 rfl rfl ?_
    refine j_getR (z := 4) C kX11 (km_0 b) (lm_0 b) 10 (by decide) tw_1203 (rm_10 b) rfl dX11_load_91 ?_
    refine j_iload C dX11_load_94 4 rfl ?_
    refine j_aload_n C dX11_load_96 0 rfl rfl ?_
    refine j_getR (z := 2) C kX11 (km_0 b) (lm_0 b) 3 (by decide) tw_1196 (rm_3 b) rfl dX11_load_97 ?_
    refine j_iload_n C dX11_load_100 2 rfl rfl ?_
    refine j_iconst (v := (1 : Int32)) C dX11_load_101 (by decide) ?_
    refine j_iadd C dX11_load_102 ?_
    refine j_iald C (km_2 b) (lm_2 b) dX11_load_103 ?_
    refine j_iast C (km_4 b) (lm_4 b) dX11_load_104 (fun s7 => ?_)
    refine j_iconst (v := (0 : Int32)) C dX11_load_105 (by decide) ?_
    refine j_istore (L' := [(0, .ref (adX X 0)), (1, .int l1), (2, .int x1), (3, .int x2), (4, .int (s 2 x1.toNatClampNeg)), (5, .int (0 : Int32))]) C dX11_load_106 (by decide) [1, 2, 3, 4, 5, 0] rfl ?_
    refine j_sub (L' := [(0, .ref (adX X 0)), (2, .int x1), (4, .int (s 2 x1.toNatClampNeg)), (5, .int (0 : Int32))]) [0, 2, 4, 5] rfl ?_
    exact lb_X11_load_108 C CR  n x1 (s 2 x1.toNatClampNeg) (0 : Int32) s7
  refine j_ite (fun hc => ?_) (fun hc4 => ?_)
  · refine j_tswI (off := 170) (tgt := 209) C dX11_load_39 (by rw [hc]; decide) (by rw [hc]; decide) (by rw [hc]; rfl) (by decide) ?_
    refine j_aload_n C dX11_load_209 0 rfl rfl ?_
    refine j_dup C dX11_load_210 rfl ?_
    refine j_get C kX11 (km_0 b) (lm_0 b) 6 (by decide) tw_1199 (rm_6 b) dX11_load_211 ?_
    refine j_iconst (v := (1 : Int32)) C dX11_load_214 (by decide) ?_
    refine j_iadd C dX11_load_215 ?_
    refine j_put C kX11 (km_0 b) (lm_0 b) 6 (by decide) tw_1199 (rm_6 b) rfl rfl dX11_load_216 (fun s8 => ?_)
    refine j_aload_n C dX11_load_219 0 rfl rfl ?_
    refine j_getR (z := 6) C kX11 (km_0 b) (lm_0 b) 12 (by decide) tw_1205 (rm_12 b) rfl dX11_load_220 ?_
    refine j_iload C dX11_load_223 4 rfl ?_
    refine j_iload_n C dX11_load_225 2 rfl rfl ?_
    refine j_iconst (v := (1 : Int32)) C dX11_load_226 (by decide) ?_
    refine j_iadd C dX11_load_227 ?_
    refine j_iast C (km_6 b) (lm_6 b) dX11_load_228 (fun s9 => ?_)
    refine j_aload_n C dX11_load_229 0 rfl rfl ?_
    refine j_getR (z := 7) C kX11 (km_0 b) (lm_0 b) 13 (by decide) tw_1206 (rm_13 b) rfl dX11_load_230 ?_
    refine j_iload C dX11_load_233 4 rfl ?_
    refine j_iload_n C dX11_load_235 3 rfl rfl ?_
    refine j_iconst (v := (1 : Int32)) C dX11_load_236 (by decide) ?_
    refine j_isub C dX11_load_237 ?_
    refine j_iast C (km_7 b) (lm_7 b) dX11_load_238 (fun s10 => ?_)
    refine j_goto (tgt := 403) C dX11_load_239 (by decide) ?_
    refine j_sub (L' := []) [] rfl ?_
    exact jb_X11_load_403 C CR  n s10
  refine j_tswO (tgt := 342) C dX11_load_39 (by omega) (by decide) ?_
  refine j_sub (L' := [(0, .ref (adX X 0)), (2, .int x1), (4, .int (s 2 x1.toNatClampNeg))]) [0, 2, 4] rfl ?_
  exact jb_X11_load_342 C CR  n x1 (s 2 x1.toNatClampNeg) s
set_option maxHeartbeats 4000000 in
theorem jb_X11_fault_29 {b : Bool} {X : CtxT (Int32 × Mem)} (C : Cx (YM b) X 2 cX11_fault RX11 (some .int) rm_X11_fault) (CR : CRi (YM b) X)  (n : Nat)  (t0 : Int32) (s : Mem) : J (YM b) X 2 (b_X11_fault_29  n  t0 s) 29 [] [.int t0] s := by
  unfold b_X11_fault_29
  exact j_iret C CR dX11_fault_29
set_option maxHeartbeats 4000000 in
theorem c_X11_fault (b : Bool) (n : Nat) (l1 : Int32) (s : Mem) : CTi (YM b) yX11_fault cX11_fault 2 (some .int) rm_X11_fault (fun ad => [.ref (ad 0), .int l1]) s (f_X11_fault n l1 s) := by
  refine CTi_of (by decide) (fun _ => Nat.le_of_ble_eq_true rfl) (fun X C CR => ?_)
  show J (YM b) X 2 (f_X11_fault n l1 s) 0 [(0, .ref (adX X 0)), (1, .int l1)] [] s
  unfold f_X11_fault
  refine j_aload_n C dX11_fault_0 0 rfl rfl ?_
  refine j_iconst (v := (0 : Int32)) C dX11_fault_1 (by decide) ?_
  refine j_put C kX11 (km_0 b) (lm_0 b) 0 (by decide) tw_1193 (rm_0 b) rfl rfl dX11_fault_2 (fun s1 => ?_)
  refine j_iload_n C dX11_fault_5 1 rfl rfl ?_
  refine j_if_ne (tgt := 16) C dX11_fault_6 (by decide) ?_ ?_
  · refine j_iload_n C dX11_fault_16 1 rfl rfl ?_
    refine j_iconst (v := (1 : Int32)) C dX11_fault_17 (by decide) ?_
    refine j_icmp_ne (tgt := 28) C dX11_fault_18 (by decide) ?_ ?_
    · refine j_iconst (v := (-1 : Int32)) C dX11_fault_28 (by decide) ?_
      refine j_sub (L' := []) [] rfl ?_
      exact jb_X11_fault_29 C CR  n (-1 : Int32) s1
    · refine j_aload_n C dX11_fault_21 0 rfl rfl ?_
      refine j_get C kX11 (km_0 b) (lm_0 b) 26 (by decide) tw_1219 (rm_26 b) dX11_fault_22 ?_
      refine j_goto (tgt := 29) C dX11_fault_25 (by decide) ?_
      refine j_sub (L' := []) [] rfl ?_
      exact jb_X11_fault_29 C CR  n (s1 0 26) s1
  · refine j_aload_n C dX11_fault_9 0 rfl rfl ?_
    refine j_get C kX11 (km_0 b) (lm_0 b) 25 (by decide) tw_1218 (rm_25 b) dX11_fault_10 ?_
    refine j_goto (tgt := 29) C dX11_fault_13 (by decide) ?_
    refine j_sub (L' := []) [] rfl ?_
    exact jb_X11_fault_29 C CR  n (s1 0 25) s1
set_option maxHeartbeats 4000000 in
theorem c_X11_of (b : Bool) (n : Nat) (l1 : Int32) (l2 : Int32) (s : Mem) : CTi (YM b) yX11_of cX11_of 3 (some .int) rm_X11_of (fun ad => [.ref (ad 0), .int l1, .int l2]) s (f_X11_of n l1 l2 s) := by
  refine CTi_of (by decide) (fun _ => Nat.le_of_ble_eq_true rfl) (fun X C CR => ?_)
  show J (YM b) X 3 (f_X11_of n l1 l2 s) 0 [(0, .ref (adX X 0)), (1, .int l1), (2, .int l2)] [] s
  unfold f_X11_of
  refine j_aload_n C dX11_of_0 0 rfl rfl ?_
  refine j_getR (z := 15) C kX11 (km_0 b) (lm_0 b) 27 (by decide) tw_1220 (rm_27 b) rfl dX11_of_1 ?_
  refine j_bipush (v := (70 : Int32)) C dX11_of_4 (by decide) ?_
  refine j_bipush (v := (10 : Int32)) C dX11_of_6 (by decide) ?_
  refine j_iload_n C dX11_of_8 1 rfl rfl ?_
  refine j_imul C dX11_of_9 ?_
  refine j_iadd C dX11_of_10 ?_
  refine j_iload_n C dX11_of_11 2 rfl rfl ?_
  refine j_iadd C dX11_of_12 ?_
  refine j_iald C (km_15 b) (lm_15 b) dX11_of_13 ?_
  exact j_iret C CR dX11_of_14
set_option maxHeartbeats 4000000 in
theorem c_X11_to (b : Bool) (n : Nat) (l1 : Int32) (l2 : Int32) (l3 : Int32) (s : Mem) : CTn (YM b) yX11_to cX11_to 4 none rm_X11_to (fun ad => [.ref (ad 0), .int l1, .int l2, .int l3]) s (f_X11_to n l1 l2 l3 s) := by
  refine CTn_of (by decide) (fun _ => Nat.le_of_ble_eq_true rfl) (fun X C CR => ?_)
  show J (YM b) X 4 (f_X11_to n l1 l2 l3 s) 0 [(0, .ref (adX X 0)), (1, .int l1), (2, .int l2), (3, .int l3)] [] s
  unfold f_X11_to
  refine j_aload_n C dX11_to_0 0 rfl rfl ?_
  refine j_getR (z := 15) C kX11 (km_0 b) (lm_0 b) 27 (by decide) tw_1220 (rm_27 b) rfl dX11_to_1 ?_
  refine j_bipush (v := (70 : Int32)) C dX11_to_4 (by decide) ?_
  refine j_bipush (v := (10 : Int32)) C dX11_to_6 (by decide) ?_
  refine j_iload_n C dX11_to_8 1 rfl rfl ?_
  refine j_imul C dX11_to_9 ?_
  refine j_iadd C dX11_to_10 ?_
  refine j_iload_n C dX11_to_11 2 rfl rfl ?_
  refine j_iadd C dX11_to_12 ?_
  refine j_iload_n C dX11_to_13 3 rfl rfl ?_
  refine j_iast C (km_15 b) (lm_15 b) dX11_to_14 (fun s1 => ?_)
  exact j_vret C CR dX11_to_15
