set_option maxHeartbeats 4000000 in
theorem jb_X11_may_130 {b : Bool} {X : CtxT (Int32 × Mem)} (C : Cx (YM b) X 2 cX11_may RX11 (some .boolean) rm_X11_may) (CR : CRi (YM b) X)  (n : Nat)  (t0 : Int32) (s : Mem) : J (YM b) X 2 (b_X11_may_130  n  t0 s) 130 [] [.int t0] s := by
  unfold b_X11_may_130
  exact j_zret C CR dX11_may_130
set_option maxHeartbeats 4000000 in
theorem jb_X11_may_190 {b : Bool} {X : CtxT (Int32 × Mem)} (C : Cx (YM b) X 2 cX11_may RX11 (some .boolean) rm_X11_may) (CR : CRi (YM b) X)  (n : Nat)  (t0 : Int32) (s : Mem) : J (YM b) X 2 (b_X11_may_190  n  t0 s) 190 [] [.int t0] s := by
  unfold b_X11_may_190
  exact j_zret C CR dX11_may_190
set_option maxHeartbeats 4000000 in
theorem jb_X11_may_189 {b : Bool} {X : CtxT (Int32 × Mem)} (C : Cx (YM b) X 2 cX11_may RX11 (some .boolean) rm_X11_may) (CR : CRi (YM b) X)  (n : Nat)   (s : Mem) : J (YM b) X 2 (b_X11_may_189  n   s) 189 [] [] s := by
  unfold b_X11_may_189
  refine j_iconst (v := (0 : Int32)) C dX11_may_189 (by decide) ?_
  exact jb_X11_may_190 C CR  n (0 : Int32) s
set_option maxHeartbeats 4000000 in
theorem jb_X11_may_233 {b : Bool} {X : CtxT (Int32 × Mem)} (C : Cx (YM b) X 2 cX11_may RX11 (some .boolean) rm_X11_may) (CR : CRi (YM b) X)  (n : Nat)  (t0 : Int32) (s : Mem) : J (YM b) X 2 (b_X11_may_233  n  t0 s) 233 [] [.int t0] s := by
  unfold b_X11_may_233
  exact j_zret C CR dX11_may_233
set_option maxHeartbeats 4000000 in
theorem jb_X11_may_232 {b : Bool} {X : CtxT (Int32 × Mem)} (C : Cx (YM b) X 2 cX11_may RX11 (some .boolean) rm_X11_may) (CR : CRi (YM b) X)  (n : Nat)   (s : Mem) : J (YM b) X 2 (b_X11_may_232  n   s) 232 [] [] s := by
  unfold b_X11_may_232
  refine j_iconst (v := (0 : Int32)) C dX11_may_232 (by decide) ?_
  exact jb_X11_may_233 C CR  n (0 : Int32) s
set_option maxHeartbeats 4000000 in
theorem jb_X11_may_280 {b : Bool} {X : CtxT (Int32 × Mem)} (C : Cx (YM b) X 2 cX11_may RX11 (some .boolean) rm_X11_may) (CR : CRi (YM b) X)  (n : Nat)  (t0 : Int32) (s : Mem) : J (YM b) X 2 (b_X11_may_280  n  t0 s) 280 [] [.int t0] s := by
  unfold b_X11_may_280
  exact j_zret C CR dX11_may_280
set_option maxHeartbeats 4000000 in
theorem jb_X11_may_279 {b : Bool} {X : CtxT (Int32 × Mem)} (C : Cx (YM b) X 2 cX11_may RX11 (some .boolean) rm_X11_may) (CR : CRi (YM b) X)  (n : Nat)   (s : Mem) : J (YM b) X 2 (b_X11_may_279  n   s) 279 [] [] s := by
  unfold b_X11_may_279
  refine j_iconst (v := (0 : Int32)) C dX11_may_279 (by decide) ?_
  exact jb_X11_may_280 C CR  n (0 : Int32) s
set_option maxHeartbeats 4000000 in
theorem jb_X11_may_311 {b : Bool} {X : CtxT (Int32 × Mem)} (C : Cx (YM b) X 2 cX11_may RX11 (some .boolean) rm_X11_may) (CR : CRi (YM b) X)  (n : Nat)  (t0 : Int32) (s : Mem) : J (YM b) X 2 (b_X11_may_311  n  t0 s) 311 [] [.int t0] s := by
  unfold b_X11_may_311
  exact j_zret C CR dX11_may_311
set_option maxHeartbeats 4000000 in
theorem jb_X11_may_310 {b : Bool} {X : CtxT (Int32 × Mem)} (C : Cx (YM b) X 2 cX11_may RX11 (some .boolean) rm_X11_may) (CR : CRi (YM b) X)  (n : Nat)   (s : Mem) : J (YM b) X 2 (b_X11_may_310  n   s) 310 [] [] s := by
  unfold b_X11_may_310
  refine j_iconst (v := (0 : Int32)) C dX11_may_310 (by decide) ?_
  exact jb_X11_may_311 C CR  n (0 : Int32) s
set_option maxHeartbeats 4000000 in
theorem jb_X11_may_352 {b : Bool} {X : CtxT (Int32 × Mem)} (C : Cx (YM b) X 2 cX11_may RX11 (some .boolean) rm_X11_may) (CR : CRi (YM b) X)  (n : Nat)  (t0 : Int32) (s : Mem) : J (YM b) X 2 (b_X11_may_352  n  t0 s) 352 [] [.int t0] s := by
  unfold b_X11_may_352
  exact j_zret C CR dX11_may_352
set_option maxHeartbeats 4000000 in
theorem jb_X11_may_347 {b : Bool} {X : CtxT (Int32 × Mem)} (C : Cx (YM b) X 2 cX11_may RX11 (some .boolean) rm_X11_may) (CR : CRi (YM b) X)  (n : Nat)   (s : Mem) : J (YM b) X 2 (b_X11_may_347  n   s) 347 [] [] s := by
  unfold b_X11_may_347
  refine j_iconst (v := (1 : Int32)) C dX11_may_347 (by decide) ?_
  refine j_goto (tgt := 352) C dX11_may_348 (by decide) ?_
  exact jb_X11_may_352 C CR  n (1 : Int32) s
set_option maxHeartbeats 4000000 in
theorem jb_X11_may_351 {b : Bool} {X : CtxT (Int32 × Mem)} (C : Cx (YM b) X 2 cX11_may RX11 (some .boolean) rm_X11_may) (CR : CRi (YM b) X)  (n : Nat)   (s : Mem) : J (YM b) X 2 (b_X11_may_351  n   s) 351 [] [] s := by
  unfold b_X11_may_351
  refine j_iconst (v := (0 : Int32)) C dX11_may_351 (by decide) ?_
  exact jb_X11_may_352 C CR  n (0 : Int32) s
set_option maxHeartbeats 4000000 in
theorem jb_X11_may_370 {b : Bool} {X : CtxT (Int32 × Mem)} (C : Cx (YM b) X 2 cX11_may RX11 (some .boolean) rm_X11_may) (CR : CRi (YM b) X)  (n : Nat)   (s : Mem) : J (YM b) X 2 (b_X11_may_370  n   s) 370 [(0, .ref (adX X 0))] [] s := by
  unfold b_X11_may_370
  refine j_aload_n C dX11_may_370 0 rfl rfl ?_
  refine j_aload_n C dX11_may_371 0 rfl rfl ?_
  refine j_getR (z := 18) C kX11 (km_0 b) (lm_0 b) 37 (by decide) tw_1230 (rm_37 b) rfl dX11_may_372 ?_
  refine j_iconst (v := (0 : Int32)) C dX11_may_375 (by decide) ?_
  refine j_iald C (km_18 b) (lm_18 b) dX11_may_376 ?_
  refine j_callVi C (c_X11_isActor b n (s 18 (0 : Int32).toNatClampNeg) s) cw_RX11_284 ⟨rfl, rfl, Nat.le_of_ble_eq_true rfl, Nat.le_of_ble_eq_true rfl⟩ 0 kX11 (km_0 b) (lm_0 b) [.int (s 18 (0 : Int32).toNatClampNeg)] [] rfl rfl rfl (Nat.le_of_ble_eq_true rfl) dX11_may_377 (fun x2 s1 => ?_)
  exact j_zret C CR dX11_may_380
set_option maxHeartbeats 4000000 in
theorem jb_X11_may_381 {b : Bool} {X : CtxT (Int32 × Mem)} (C : Cx (YM b) X 2 cX11_may RX11 (some .boolean) rm_X11_may) (CR : CRi (YM b) X)  (n : Nat)   (s : Mem) : J (YM b) X 2 (b_X11_may_381  n   s) 381 [(0, .ref (adX X 0))] [] s := by
  unfold b_X11_may_381
  refine j_aload_n C dX11_may_381 0 rfl rfl ?_
  refine j_aload_n C dX11_may_382 0 rfl rfl ?_
  refine j_getR (z := 18) C kX11 (km_0 b) (lm_0 b) 37 (by decide) tw_1230 (rm_37 b) rfl dX11_may_383 ?_
  refine j_iconst (v := (0 : Int32)) C dX11_may_386 (by decide) ?_
  refine j_iald C (km_18 b) (lm_18 b) dX11_may_387 ?_
  refine j_callVi C (c_X11_isObject b n (s 18 (0 : Int32).toNatClampNeg) s) cw_RX11_292 ⟨rfl, rfl, Nat.le_of_ble_eq_true rfl, Nat.le_of_ble_eq_true rfl⟩ 0 kX11 (km_0 b) (lm_0 b) [.int (s 18 (0 : Int32).toNatClampNeg)] [] rfl rfl rfl (Nat.le_of_ble_eq_true rfl) dX11_may_388 (fun x2 s1 => ?_)
  exact j_zret C CR dX11_may_391
set_option maxHeartbeats 4000000 in
theorem jb_X11_may_423 {b : Bool} {X : CtxT (Int32 × Mem)} (C : Cx (YM b) X 2 cX11_may RX11 (some .boolean) rm_X11_may) (CR : CRi (YM b) X)  (n : Nat)  (t0 : Int32) (s : Mem) : J (YM b) X 2 (b_X11_may_423  n  t0 s) 423 [] [.int t0] s := by
  unfold b_X11_may_423
  exact j_zret C CR dX11_may_423
set_option maxHeartbeats 4000000 in
theorem jb_X11_may_422 {b : Bool} {X : CtxT (Int32 × Mem)} (C : Cx (YM b) X 2 cX11_may RX11 (some .boolean) rm_X11_may) (CR : CRi (YM b) X)  (n : Nat)   (s : Mem) : J (YM b) X 2 (b_X11_may_422  n   s) 422 [] [] s := by
  unfold b_X11_may_422
  refine j_iconst (v := (0 : Int32)) C dX11_may_422 (by decide) ?_
  exact jb_X11_may_423 C CR  n (0 : Int32) s
set_option maxHeartbeats 4000000 in
theorem jb_X11_may_424 {b : Bool} {X : CtxT (Int32 × Mem)} (C : Cx (YM b) X 2 cX11_may RX11 (some .boolean) rm_X11_may) (CR : CRi (YM b) X)  (n : Nat)   (s : Mem) : J (YM b) X 2 (b_X11_may_424  n   s) 424 [] [] s := by
  unfold b_X11_may_424
  refine j_iconst (v := (1 : Int32)) C dX11_may_424 (by decide) ?_
  exact j_zret C CR dX11_may_425
set_option maxHeartbeats 4000000 in
theorem c_X11_may (b : Bool) (n : Nat) (l1 : Int32) (s : Mem) : CTi (YM b) yX11_may cX11_may 2 (some .boolean) rm_X11_may (fun ad => [.ref (ad 0), .int l1]) s (f_X11_may n l1 s) := by
  refine CTi_of (by decide) (fun _ => Nat.le_of_ble_eq_true rfl) (fun X C CR => ?_)
  show J (YM b) X 2 (f_X11_may n l1 s) 0 [(0, .ref (adX X 0)), (1, .int l1)] [] s
  unfold f_X11_may
  refine j_iload_n C dX11_may_0 1 rfl rfl ?_
  refine j_ite (fun hc => ?_) (fun hc0 => ?_)
  · refine j_tswI (off := 115) (tgt := 116) C dX11_may_1 (by rw [hc]; decide) (by rw [hc]; decide) (by rw [hc]; rfl) (by decide) ?_
    refine j_aload_n C dX11_may_116 0 rfl rfl ?_
    refine j_getR (z := 18) C kX11 (km_0 b) (lm_0 b) 37 (by decide) tw_1230 (rm_37 b) rfl dX11_may_117 ?_
    refine j_iconst (v := (0 : Int32)) C dX11_may_120 (by decide) ?_
    refine j_iald C (km_18 b) (lm_18 b) dX11_may_121 ?_
    refine j_if_eq (tgt := 129) C dX11_may_122 (by decide) ?_ ?_
    · refine j_iconst (v := (0 : Int32)) C dX11_may_129 (by decide) ?_
      refine j_sub (L' := []) [] rfl ?_
      exact jb_X11_may_130 C CR  n (0 : Int32) s
    · refine j_iconst (v := (1 : Int32)) C dX11_may_125 (by decide) ?_
      refine j_goto (tgt := 130) C dX11_may_126 (by decide) ?_
      refine j_sub (L' := []) [] rfl ?_
      exact jb_X11_may_130 C CR  n (1 : Int32) s
  refine j_ite (fun hc => ?_) (fun hc1 => ?_)
  · refine j_tswI (off := 423) (tgt := 424) C dX11_may_1 (by rw [hc]; decide) (by rw [hc]; decide) (by rw [hc]; rfl) (by decide) ?_
    refine j_sub (L' := []) [] rfl ?_
    exact jb_X11_may_424 C CR  n s
  refine j_ite (fun hc => ?_) (fun hc2 => ?_)
  · refine j_tswI (off := 423) (tgt := 424) C dX11_may_1 (by rw [hc]; decide) (by rw [hc]; decide) (by rw [hc]; rfl) (by decide) ?_
    refine j_sub (L' := []) [] rfl ?_
    exact jb_X11_may_424 C CR  n s
  refine j_ite (fun hc => ?_) (fun hc3 => ?_)
  · refine j_tswI (off := 423) (tgt := 424) C dX11_may_1 (by rw [hc]; decide) (by rw [hc]; decide) (by rw [hc]; rfl) (by decide) ?_
    refine j_sub (L' := []) [] rfl ?_
    exact jb_X11_may_424 C CR  n s
  refine j_ite (fun hc => ?_) (fun hc4 => ?_)
  · refine j_tswI (off := 423) (tgt := 424) C dX11_may_1 (by rw [hc]; decide) (by rw [hc]; decide) (by rw [hc]; rfl) (by decide) ?_
    refine j_sub (L' := []) [] rfl ?_
    exact jb_X11_may_424 C CR  n s
  refine j_ite (fun hc => ?_) (fun hc5 => ?_)
  · refine j_tswI (off := 423) (tgt := 424) C dX11_may_1 (by rw [hc]; decide) (by rw [hc]; decide) (by rw [hc]; rfl) (by decide) ?_
    refine j_sub (L' := []) [] rfl ?_
    exact jb_X11_may_424 C CR  n s
  refine j_ite (fun hc => ?_) (fun hc6 => ?_)
  · refine j_tswI (off := 130) (tgt := 131) C dX11_may_1 (by rw [hc]; decide) (by rw [hc]; decide) (by rw [hc]; rfl) (by decide) ?_
    refine j_aload_n C dX11_may_131 0 rfl rfl ?_
    refine j_aload_n C dX11_may_132 0 rfl rfl ?_
    refine j_getR (z := 18) C kX11 (km_0 b) (lm_0 b) 37 (by decide) tw_1230 (rm_37 b) rfl dX11_may_133 ?_
    refine j_iconst (v := (0 : Int32)) C dX11_may_136 (by decide) ?_
    refine j_iald C (km_18 b) (lm_18 b) dX11_may_137 ?_
    refine j_callVi C (c_X11_isActor b n (s 18 (0 : Int32).toNatClampNeg) s) cw_RX11_284 ⟨rfl, rfl, Nat.le_of_ble_eq_true rfl, Nat.le_of_ble_eq_true rfl⟩ 0 kX11 (km_0 b) (lm_0 b) [.int (s 18 (0 : Int32).toNatClampNeg)] [] rfl rfl rfl (Nat.le_of_ble_eq_true rfl) dX11_may_138 (fun x2 s1 => ?_)
    refine j_if_eq (tgt := 189) C dX11_may_141 (by decide) ?_ ?_
    · refine j_sub (L' := []) [] rfl ?_
      exact jb_X11_may_189 C CR  n s1
    · refine j_aload_n C dX11_may_144 0 rfl rfl ?_
      refine j_getR (z := 18) C kX11 (km_0 b) (lm_0 b) 37 (by decide) tw_1230 (rm_37 b) rfl dX11_may_145 ?_
      refine j_iconst (v := (1 : Int32)) C dX11_may_148 (by decide) ?_
      refine j_iald C (km_18 b) (lm_18 b) dX11_may_149 ?_
      refine j_i2l C dX11_may_150 ?_
      refine j_lconst (v := 0) C dX11_may_151 (by decide) ?_
      refine j_ldc2 (v := 20) C tw_1475 dX11_may_152 ?_
      refine j_callSi C (c_X11_in b n ((s1 18 (1 : Int32).toNatClampNeg).toInt64) (0 : Int64) (20 : Int64) s1) cw_RX11_72 ⟨rfl, rfl, Nat.le_of_ble_eq_true rfl, Nat.le_of_ble_eq_true rfl⟩ [.long ((s1 18 (1 : Int32).toNatClampNeg).toInt64), .long (0 : Int64), .long (20 : Int64)] [] rfl rfl rfl (Nat.le_of_ble_eq_true rfl) dX11_may_155 (fun x4 s3 => ?_)
      refine j_if_eq (tgt := 189) C dX11_may_158 (by decide) ?_ ?_
      · refine j_sub (L' := []) [] rfl ?_
        exact jb_X11_may_189 C CR  n s3
      · refine j_aload_n C dX11_may_161 0 rfl rfl ?_
        refine j_getR (z := 18) C kX11 (km_0 b) (lm_0 b) 37 (by decide) tw_1230 (rm_37 b) rfl dX11_may_162 ?_
        refine j_iconst (v := (2 : Int32)) C dX11_may_165 (by decide) ?_
        refine j_iald C (km_18 b) (lm_18 b) dX11_may_166 ?_
        refine j_callSi C (c_X11_isByte b n (s3 18 (2 : Int32).toNatClampNeg) s3) cw_RX11_287 ⟨rfl, rfl, Nat.le_of_ble_eq_true rfl, Nat.le_of_ble_eq_true rfl⟩ [.int (s3 18 (2 : Int32).toNatClampNeg)] [] rfl rfl rfl (Nat.le_of_ble_eq_true rfl) dX11_may_167 (fun x6 s5 => ?_)
        refine j_if_eq (tgt := 189) C dX11_may_170 (by decide) ?_ ?_
        · refine j_sub (L' := []) [] rfl ?_
          exact jb_X11_may_189 C CR  n s5
        · refine j_aload_n C dX11_may_173 0 rfl rfl ?_
          refine j_getR (z := 18) C kX11 (km_0 b) (lm_0 b) 37 (by decide) tw_1230 (rm_37 b) rfl dX11_may_174 ?_
          refine j_iconst (v := (3 : Int32)) C dX11_may_177 (by decide) ?_
          refine j_iald C (km_18 b) (lm_18 b) dX11_may_178 ?_
          refine j_callSi C (c_X11_isByte b n (s5 18 (3 : Int32).toNatClampNeg) s5) cw_RX11_287 ⟨rfl, rfl, Nat.le_of_ble_eq_true rfl, Nat.le_of_ble_eq_true rfl⟩ [.int (s5 18 (3 : Int32).toNatClampNeg)] [] rfl rfl rfl (Nat.le_of_ble_eq_true rfl) dX11_may_179 (fun x8 s7 => ?_)
          refine j_if_eq (tgt := 189) C dX11_may_182 (by decide) ?_ ?_
          · refine j_sub (L' := []) [] rfl ?_
            exact jb_X11_may_189 C CR  n s7
          · refine j_iconst (v := (1 : Int32)) C dX11_may_185 (by decide) ?_
            refine j_goto (tgt := 190) C dX11_may_186 (by decide) ?_
            refine j_sub (L' := []) [] rfl ?_
            exact jb_X11_may_190 C CR  n (1 : Int32) s7
  refine j_ite (fun hc => ?_) (fun hc7 => ?_)
  · refine j_tswI (off := 190) (tgt := 191) C dX11_may_1 (by rw [hc]; decide) (by rw [hc]; decide) (by rw [hc]; rfl) (by decide) ?_
    refine j_aload_n C dX11_may_191 0 rfl rfl ?_
    refine j_aload_n C dX11_may_192 0 rfl rfl ?_
    refine j_getR (z := 18) C kX11 (km_0 b) (lm_0 b) 37 (by decide) tw_1230 (rm_37 b) rfl dX11_may_193 ?_
    refine j_iconst (v := (0 : Int32)) C dX11_may_196 (by decide) ?_
    refine j_iald C (km_18 b) (lm_18 b) dX11_may_197 ?_
    refine j_callVi C (c_X11_isActor b n (s 18 (0 : Int32).toNatClampNeg) s) cw_RX11_284 ⟨rfl, rfl, Nat.le_of_ble_eq_true rfl, Nat.le_of_ble_eq_true rfl⟩ 0 kX11 (km_0 b) (lm_0 b) [.int (s 18 (0 : Int32).toNatClampNeg)] [] rfl rfl rfl (Nat.le_of_ble_eq_true rfl) dX11_may_198 (fun x10 s9 => ?_)
    refine j_if_eq (tgt := 232) C dX11_may_201 (by decide) ?_ ?_
    · refine j_sub (L' := []) [] rfl ?_
      exact jb_X11_may_232 C CR  n s9
    · refine j_aload_n C dX11_may_204 0 rfl rfl ?_
      refine j_getR (z := 18) C kX11 (km_0 b) (lm_0 b) 37 (by decide) tw_1230 (rm_37 b) rfl dX11_may_205 ?_
      refine j_iconst (v := (1 : Int32)) C dX11_may_208 (by decide) ?_
      refine j_iald C (km_18 b) (lm_18 b) dX11_may_209 ?_
      refine j_callSi C (c_X11_isByte b n (s9 18 (1 : Int32).toNatClampNeg) s9) cw_RX11_287 ⟨rfl, rfl, Nat.le_of_ble_eq_true rfl, Nat.le_of_ble_eq_true rfl⟩ [.int (s9 18 (1 : Int32).toNatClampNeg)] [] rfl rfl rfl (Nat.le_of_ble_eq_true rfl) dX11_may_210 (fun x12 s11 => ?_)
      refine j_if_eq (tgt := 232) C dX11_may_213 (by decide) ?_ ?_
      · refine j_sub (L' := []) [] rfl ?_
        exact jb_X11_may_232 C CR  n s11
      · refine j_aload_n C dX11_may_216 0 rfl rfl ?_
        refine j_getR (z := 18) C kX11 (km_0 b) (lm_0 b) 37 (by decide) tw_1230 (rm_37 b) rfl dX11_may_217 ?_
        refine j_iconst (v := (2 : Int32)) C dX11_may_220 (by decide) ?_
        refine j_iald C (km_18 b) (lm_18 b) dX11_may_221 ?_
        refine j_callSi C (c_X11_isByte b n (s11 18 (2 : Int32).toNatClampNeg) s11) cw_RX11_287 ⟨rfl, rfl, Nat.le_of_ble_eq_true rfl, Nat.le_of_ble_eq_true rfl⟩ [.int (s11 18 (2 : Int32).toNatClampNeg)] [] rfl rfl rfl (Nat.le_of_ble_eq_true rfl) dX11_may_222 (fun x14 s13 => ?_)
        refine j_if_eq (tgt := 232) C dX11_may_225 (by decide) ?_ ?_
        · refine j_sub (L' := []) [] rfl ?_
          exact jb_X11_may_232 C CR  n s13
        · refine j_iconst (v := (1 : Int32)) C dX11_may_228 (by decide) ?_
          refine j_goto (tgt := 233) C dX11_may_229 (by decide) ?_
          refine j_sub (L' := []) [] rfl ?_
          exact jb_X11_may_233 C CR  n (1 : Int32) s13
  refine j_ite (fun hc => ?_) (fun hc8 => ?_)
  · refine j_tswI (off := 233) (tgt := 234) C dX11_may_1 (by rw [hc]; decide) (by rw [hc]; decide) (by rw [hc]; rfl) (by decide) ?_
    refine j_aload_n C dX11_may_234 0 rfl rfl ?_
    refine j_aload_n C dX11_may_235 0 rfl rfl ?_
    refine j_getR (z := 18) C kX11 (km_0 b) (lm_0 b) 37 (by decide) tw_1230 (rm_37 b) rfl dX11_may_236 ?_
    refine j_iconst (v := (0 : Int32)) C dX11_may_239 (by decide) ?_
    refine j_iald C (km_18 b) (lm_18 b) dX11_may_240 ?_
    refine j_callVi C (c_X11_isActor b n (s 18 (0 : Int32).toNatClampNeg) s) cw_RX11_284 ⟨rfl, rfl, Nat.le_of_ble_eq_true rfl, Nat.le_of_ble_eq_true rfl⟩ 0 kX11 (km_0 b) (lm_0 b) [.int (s 18 (0 : Int32).toNatClampNeg)] [] rfl rfl rfl (Nat.le_of_ble_eq_true rfl) dX11_may_241 (fun x16 s15 => ?_)
    exact j_zret C CR dX11_may_244
  refine j_ite (fun hc => ?_) (fun hc9 => ?_)
  · refine j_tswI (off := 244) (tgt := 245) C dX11_may_1 (by rw [hc]; decide) (by rw [hc]; decide) (by rw [hc]; rfl) (by decide) ?_
    refine j_aload_n C dX11_may_245 0 rfl rfl ?_
    refine j_aload_n C dX11_may_246 0 rfl rfl ?_
    refine j_getR (z := 18) C kX11 (km_0 b) (lm_0 b) 37 (by decide) tw_1230 (rm_37 b) rfl dX11_may_247 ?_
    refine j_iconst (v := (0 : Int32)) C dX11_may_250 (by decide) ?_
    refine j_iald C (km_18 b) (lm_18 b) dX11_may_251 ?_
    refine j_callVi C (c_X11_isActor b n (s 18 (0 : Int32).toNatClampNeg) s) cw_RX11_284 ⟨rfl, rfl, Nat.le_of_ble_eq_true rfl, Nat.le_of_ble_eq_true rfl⟩ 0 kX11 (km_0 b) (lm_0 b) [.int (s 18 (0 : Int32).toNatClampNeg)] [] rfl rfl rfl (Nat.le_of_ble_eq_true rfl) dX11_may_252 (fun x18 s17 => ?_)
    refine j_if_eq (tgt := 279) C dX11_may_255 (by decide) ?_ ?_
    · refine j_sub (L' := []) [] rfl ?_
      exact jb_X11_may_279 C CR  n s17
    · refine j_aload_n C dX11_may_258 0 rfl rfl ?_
      refine j_getR (z := 18) C kX11 (km_0 b) (lm_0 b) 37 (by decide) tw_1230 (rm_37 b) rfl dX11_may_259 ?_
      refine j_iconst (v := (1 : Int32)) C dX11_may_262 (by decide) ?_
      refine j_iald C (km_18 b) (lm_18 b) dX11_may_263 ?_
      refine j_i2l C dX11_may_264 ?_
      refine j_lconst (v := 0) C dX11_may_265 (by decide) ?_
      refine j_ldc2 (v := 8) C tw_1480 dX11_may_266 ?_
      refine j_callSi C (c_X11_in b n ((s17 18 (1 : Int32).toNatClampNeg).toInt64) (0 : Int64) (8 : Int64) s17) cw_RX11_72 ⟨rfl, rfl, Nat.le_of_ble_eq_true rfl, Nat.le_of_ble_eq_true rfl⟩ [.long ((s17 18 (1 : Int32).toNatClampNeg).toInt64), .long (0 : Int64), .long (8 : Int64)] [] rfl rfl rfl (Nat.le_of_ble_eq_true rfl) dX11_may_269 (fun x20 s19 => ?_)
      refine j_if_eq (tgt := 279) C dX11_may_272 (by decide) ?_ ?_
      · refine j_sub (L' := []) [] rfl ?_
        exact jb_X11_may_279 C CR  n s19
      · refine j_iconst (v := (1 : Int32)) C dX11_may_275 (by decide) ?_
        refine j_goto (tgt := 280) C dX11_may_276 (by decide) ?_
        refine j_sub (L' := []) [] rfl ?_
        exact jb_X11_may_280 C CR  n (1 : Int32) s19
  refine j_ite (fun hc => ?_) (fun hc10 => ?_)
  · refine j_tswI (off := 280) (tgt := 281) C dX11_may_1 (by rw [hc]; decide) (by rw [hc]; decide) (by rw [hc]; rfl) (by decide) ?_
    refine j_aload_n C dX11_may_281 0 rfl rfl ?_
    refine j_aload_n C dX11_may_282 0 rfl rfl ?_
    refine j_getR (z := 18) C kX11 (km_0 b) (lm_0 b) 37 (by decide) tw_1230 (rm_37 b) rfl dX11_may_283 ?_
    refine j_iconst (v := (0 : Int32)) C dX11_may_286 (by decide) ?_
    refine j_iald C (km_18 b) (lm_18 b) dX11_may_287 ?_
    refine j_callVi C (c_X11_isObject b n (s 18 (0 : Int32).toNatClampNeg) s) cw_RX11_292 ⟨rfl, rfl, Nat.le_of_ble_eq_true rfl, Nat.le_of_ble_eq_true rfl⟩ 0 kX11 (km_0 b) (lm_0 b) [.int (s 18 (0 : Int32).toNatClampNeg)] [] rfl rfl rfl (Nat.le_of_ble_eq_true rfl) dX11_may_288 (fun x22 s21 => ?_)
    refine j_if_eq (tgt := 310) C dX11_may_291 (by decide) ?_ ?_
    · refine j_sub (L' := []) [] rfl ?_
      exact jb_X11_may_310 C CR  n s21
    · refine j_aload_n C dX11_may_294 0 rfl rfl ?_
      refine j_getR (z := 18) C kX11 (km_0 b) (lm_0 b) 37 (by decide) tw_1230 (rm_37 b) rfl dX11_may_295 ?_
      refine j_iconst (v := (1 : Int32)) C dX11_may_298 (by decide) ?_
      refine j_iald C (km_18 b) (lm_18 b) dX11_may_299 ?_
      refine j_callSi C (c_X11_isByte b n (s21 18 (1 : Int32).toNatClampNeg) s21) cw_RX11_287 ⟨rfl, rfl, Nat.le_of_ble_eq_true rfl, Nat.le_of_ble_eq_true rfl⟩ [.int (s21 18 (1 : Int32).toNatClampNeg)] [] rfl rfl rfl (Nat.le_of_ble_eq_true rfl) dX11_may_300 (fun x24 s23 => ?_)
      refine j_if_eq (tgt := 310) C dX11_may_303 (by decide) ?_ ?_
      · refine j_sub (L' := []) [] rfl ?_
        exact jb_X11_may_310 C CR  n s23
      · refine j_iconst (v := (1 : Int32)) C dX11_may_306 (by decide) ?_
        refine j_goto (tgt := 311) C dX11_may_307 (by decide) ?_
        refine j_sub (L' := []) [] rfl ?_
        exact jb_X11_may_311 C CR  n (1 : Int32) s23
  refine j_ite (fun hc => ?_) (fun hc11 => ?_)
  · refine j_tswI (off := 311) (tgt := 312) C dX11_may_1 (by rw [hc]; decide) (by rw [hc]; decide) (by rw [hc]; rfl) (by decide) ?_
    refine j_aload_n C dX11_may_312 0 rfl rfl ?_
    refine j_aload_n C dX11_may_313 0 rfl rfl ?_
    refine j_getR (z := 18) C kX11 (km_0 b) (lm_0 b) 37 (by decide) tw_1230 (rm_37 b) rfl dX11_may_314 ?_
    refine j_iconst (v := (0 : Int32)) C dX11_may_317 (by decide) ?_
    refine j_iald C (km_18 b) (lm_18 b) dX11_may_318 ?_
    refine j_callVi C (c_X11_isObject b n (s 18 (0 : Int32).toNatClampNeg) s) cw_RX11_292 ⟨rfl, rfl, Nat.le_of_ble_eq_true rfl, Nat.le_of_ble_eq_true rfl⟩ 0 kX11 (km_0 b) (lm_0 b) [.int (s 18 (0 : Int32).toNatClampNeg)] [] rfl rfl rfl (Nat.le_of_ble_eq_true rfl) dX11_may_319 (fun x26 s25 => ?_)
    refine j_if_eq (tgt := 351) C dX11_may_322 (by decide) ?_ ?_
    · refine j_sub (L' := []) [] rfl ?_
      exact jb_X11_may_351 C CR  n s25
    · refine j_aload_n C dX11_may_325 0 rfl rfl ?_
      refine j_getR (z := 18) C kX11 (km_0 b) (lm_0 b) 37 (by decide) tw_1230 (rm_37 b) rfl dX11_may_326 ?_
      refine j_iconst (v := (1 : Int32)) C dX11_may_329 (by decide) ?_
      refine j_iald C (km_18 b) (lm_18 b) dX11_may_330 ?_
      refine j_if_eq (tgt := 347) C dX11_may_331 (by decide) ?_ ?_
      · refine j_sub (L' := []) [] rfl ?_
        exact jb_X11_may_347 C CR  n s25
      · refine j_aload_n C dX11_may_334 0 rfl rfl ?_
        refine j_aload_n C dX11_may_335 0 rfl rfl ?_
        refine j_getR (z := 18) C kX11 (km_0 b) (lm_0 b) 37 (by decide) tw_1230 (rm_37 b) rfl dX11_may_336 ?_
        refine j_iconst (v := (1 : Int32)) C dX11_may_339 (by decide) ?_
        refine j_iald C (km_18 b) (lm_18 b) dX11_may_340 ?_
        refine j_callVi C (c_X11_isActor b n (s25 18 (1 : Int32).toNatClampNeg) s25) cw_RX11_284 ⟨rfl, rfl, Nat.le_of_ble_eq_true rfl, Nat.le_of_ble_eq_true rfl⟩ 0 kX11 (km_0 b) (lm_0 b) [.int (s25 18 (1 : Int32).toNatClampNeg)] [] rfl rfl rfl (Nat.le_of_ble_eq_true rfl) dX11_may_341 (fun x28 s27 => ?_)
        refine j_if_eq (tgt := 351) C dX11_may_344 (by decide) ?_ ?_
        · refine j_sub (L' := []) [] rfl ?_
          exact jb_X11_may_351 C CR  n s27
        · refine j_sub (L' := []) [] rfl ?_
          exact jb_X11_may_347 C CR  n s27
  refine j_ite (fun hc => ?_) (fun hc12 => ?_)
  · refine j_tswI (off := 352) (tgt := 353) C dX11_may_1 (by rw [hc]; decide) (by rw [hc]; decide) (by rw [hc]; rfl) (by decide) ?_
    refine j_aload_n C dX11_may_353 0 rfl rfl ?_
    refine j_aload_n C dX11_may_354 0 rfl rfl ?_
    refine j_getR (z := 18) C kX11 (km_0 b) (lm_0 b) 37 (by decide) tw_1230 (rm_37 b) rfl dX11_may_355 ?_
    refine j_iconst (v := (0 : Int32)) C dX11_may_358 (by decide) ?_
    refine j_iald C (km_18 b) (lm_18 b) dX11_may_359 ?_
    refine j_aload_n C dX11_may_360 0 rfl rfl ?_
    refine j_getR (z := 18) C kX11 (km_0 b) (lm_0 b) 37 (by decide) tw_1230 (rm_37 b) rfl dX11_may_361 ?_
    refine j_iconst (v := (1 : Int32)) C dX11_may_364 (by decide) ?_
    refine j_iald C (km_18 b) (lm_18 b) dX11_may_365 ?_
    refine j_callVi C (c_X11_isBox b n (s 18 (0 : Int32).toNatClampNeg) (s 18 (1 : Int32).toNatClampNeg) s) cw_RX11_295 ⟨rfl, rfl, Nat.le_of_ble_eq_true rfl, Nat.le_of_ble_eq_true rfl⟩ 0 kX11 (km_0 b) (lm_0 b) [.int (s 18 (0 : Int32).toNatClampNeg), .int (s 18 (1 : Int32).toNatClampNeg)] [] rfl rfl rfl (Nat.le_of_ble_eq_true rfl) dX11_may_366 (fun x30 s29 => ?_)
    exact j_zret C CR dX11_may_369
  refine j_ite (fun hc => ?_) (fun hc13 => ?_)
  · refine j_tswI (off := 423) (tgt := 424) C dX11_may_1 (by rw [hc]; decide) (by rw [hc]; decide) (by rw [hc]; rfl) (by decide) ?_
    refine j_sub (L' := []) [] rfl ?_
    exact jb_X11_may_424 C CR  n s
  refine j_ite (fun hc => ?_) (fun hc14 => ?_)
  · refine j_tswI (off := 423) (tgt := 424) C dX11_may_1 (by rw [hc]; decide) (by rw [hc]; decide) (by rw [hc]; rfl) (by decide) ?_
    refine j_sub (L' := []) [] rfl ?_
    exact jb_X11_may_424 C CR  n s
  refine j_ite (fun hc => ?_) (fun hc15 => ?_)
  · refine j_tswI (off := 423) (tgt := 424) C dX11_may_1 (by rw [hc]; decide) (by rw [hc]; decide) (by rw [hc]; rfl) (by decide) ?_
    refine j_sub (L' := []) [] rfl ?_
    exact jb_X11_may_424 C CR  n s
  refine j_ite (fun hc => ?_) (fun hc16 => ?_)
  · refine j_tswI (off := 369) (tgt := 370) C dX11_may_1 (by rw [hc]; decide) (by rw [hc]; decide) (by rw [hc]; rfl) (by decide) ?_
    refine j_sub (L' := [(0, .ref (adX X 0))]) [0] rfl ?_
    exact jb_X11_may_370 C CR  n s
  refine j_ite (fun hc => ?_) (fun hc17 => ?_)
  · refine j_tswI (off := 369) (tgt := 370) C dX11_may_1 (by rw [hc]; decide) (by rw [hc]; decide) (by rw [hc]; rfl) (by decide) ?_
    refine j_sub (L' := [(0, .ref (adX X 0))]) [0] rfl ?_
    exact jb_X11_may_370 C CR  n s
  refine j_ite (fun hc => ?_) (fun hc18 => ?_)
  · refine j_tswI (off := 369) (tgt := 370) C dX11_may_1 (by rw [hc]; decide) (by rw [hc]; decide) (by rw [hc]; rfl) (by decide) ?_
    refine j_sub (L' := [(0, .ref (adX X 0))]) [0] rfl ?_
    exact jb_X11_may_370 C CR  n s
  refine j_ite (fun hc => ?_) (fun hc19 => ?_)
  · refine j_tswI (off := 369) (tgt := 370) C dX11_may_1 (by rw [hc]; decide) (by rw [hc]; decide) (by rw [hc]; rfl) (by decide) ?_
    refine j_sub (L' := [(0, .ref (adX X 0))]) [0] rfl ?_
    exact jb_X11_may_370 C CR  n s
  refine j_ite (fun hc => ?_) (fun hc20 => ?_)
  · refine j_tswI (off := 369) (tgt := 370) C dX11_may_1 (by rw [hc]; decide) (by rw [hc]; decide) (by rw [hc]; rfl) (by decide) ?_
    refine j_sub (L' := [(0, .ref (adX X 0))]) [0] rfl ?_
    exact jb_X11_may_370 C CR  n s
  refine j_ite (fun hc => ?_) (fun hc21 => ?_)
  · refine j_tswI (off := 380) (tgt := 381) C dX11_may_1 (by rw [hc]; decide) (by rw [hc]; decide) (by rw [hc]; rfl) (by decide) ?_
    refine j_sub (L' := [(0, .ref (adX X 0))]) [0] rfl ?_
    exact jb_X11_may_381 C CR  n s
  refine j_ite (fun hc => ?_) (fun hc22 => ?_)
  · refine j_tswI (off := 380) (tgt := 381) C dX11_may_1 (by rw [hc]; decide) (by rw [hc]; decide) (by rw [hc]; rfl) (by decide) ?_
    refine j_sub (L' := [(0, .ref (adX X 0))]) [0] rfl ?_
    exact jb_X11_may_381 C CR  n s
  refine j_ite (fun hc => ?_) (fun hc23 => ?_)
  · refine j_tswI (off := 423) (tgt := 424) C dX11_may_1 (by rw [hc]; decide) (by rw [hc]; decide) (by rw [hc]; rfl) (by decide) ?_
    refine j_sub (L' := []) [] rfl ?_
    exact jb_X11_may_424 C CR  n s
  refine j_ite (fun hc => ?_) (fun hc24 => ?_)
  · refine j_tswI (off := 391) (tgt := 392) C dX11_may_1 (by rw [hc]; decide) (by rw [hc]; decide) (by rw [hc]; rfl) (by decide) ?_
    refine j_aload_n C dX11_may_392 0 rfl rfl ?_
    refine j_aload_n C dX11_may_393 0 rfl rfl ?_
    refine j_getR (z := 18) C kX11 (km_0 b) (lm_0 b) 37 (by decide) tw_1230 (rm_37 b) rfl dX11_may_394 ?_
    refine j_iconst (v := (0 : Int32)) C dX11_may_397 (by decide) ?_
    refine j_iald C (km_18 b) (lm_18 b) dX11_may_398 ?_
    refine j_callVi C (c_X11_isActor b n (s 18 (0 : Int32).toNatClampNeg) s) cw_RX11_284 ⟨rfl, rfl, Nat.le_of_ble_eq_true rfl, Nat.le_of_ble_eq_true rfl⟩ 0 kX11 (km_0 b) (lm_0 b) [.int (s 18 (0 : Int32).toNatClampNeg)] [] rfl rfl rfl (Nat.le_of_ble_eq_true rfl) dX11_may_399 (fun x32 s31 => ?_)
    refine j_if_eq (tgt := 422) C dX11_may_402 (by decide) ?_ ?_
    · refine j_sub (L' := []) [] rfl ?_
      exact jb_X11_may_422 C CR  n s31
    · refine j_aload_n C dX11_may_405 0 rfl rfl ?_
      refine j_aload_n C dX11_may_406 0 rfl rfl ?_
      refine j_getR (z := 18) C kX11 (km_0 b) (lm_0 b) 37 (by decide) tw_1230 (rm_37 b) rfl dX11_may_407 ?_
      refine j_iconst (v := (1 : Int32)) C dX11_may_410 (by decide) ?_
      refine j_iald C (km_18 b) (lm_18 b) dX11_may_411 ?_
      refine j_callVi C (c_X11_isObject b n (s31 18 (1 : Int32).toNatClampNeg) s31) cw_RX11_292 ⟨rfl, rfl, Nat.le_of_ble_eq_true rfl, Nat.le_of_ble_eq_true rfl⟩ 0 kX11 (km_0 b) (lm_0 b) [.int (s31 18 (1 : Int32).toNatClampNeg)] [] rfl rfl rfl (Nat.le_of_ble_eq_true rfl) dX11_may_412 (fun x34 s33 => ?_)
      refine j_if_eq (tgt := 422) C dX11_may_415 (by decide) ?_ ?_
      · refine j_sub (L' := []) [] rfl ?_
        exact jb_X11_may_422 C CR  n s33
      · refine j_iconst (v := (1 : Int32)) C dX11_may_418 (by decide) ?_
        refine j_goto (tgt := 423) C dX11_may_419 (by decide) ?_
        refine j_sub (L' := []) [] rfl ?_
        exact jb_X11_may_423 C CR  n (1 : Int32) s33
  refine j_tswO (tgt := 424) C dX11_may_1 (by omega) (by decide) ?_
  refine j_sub (L' := []) [] rfl ?_
  exact jb_X11_may_424 C CR  n s
set_option maxHeartbeats 4000000 in
theorem c_X11_walks (b : Bool) (n : Nat) (l1 : Int32) (l2 : Int32) (l3 : Int32) (s : Mem) : CTn (YM b) yX11_walks cX11_walks 4 none rm_X11_walks (fun ad => [.ref (ad 0), .int l1, .int l2, .int l3]) s (f_X11_walks n l1 l2 l3 s) := by
  refine CTn_of (by decide) (fun _ => Nat.le_of_ble_eq_true rfl) (fun X C CR => ?_)
  show J (YM b) X 4 (f_X11_walks n l1 l2 l3 s) 0 [(0, .ref (adX X 0)), (1, .int l1), (2, .int l2), (3, .int l3)] [] s
  unfold f_X11_walks
  refine j_aload_n C dX11_walks_0 0 rfl rfl ?_
  refine j_iload_n C dX11_walks_1 1 rfl rfl ?_
  refine j_iconst (v := (4 : Int32)) C dX11_walks_2 (by decide) ?_
  refine j_iconst (v := (1 : Int32)) C dX11_walks_3 (by decide) ?_
  refine j_callVn C (c_X11_actorTo b n l1 (4 : Int32) (1 : Int32) s) cw_RX11_223 ⟨rfl, rfl, Nat.le_of_ble_eq_true rfl, Nat.le_of_ble_eq_true rfl⟩ 0 kX11 (km_0 b) (lm_0 b) [.int l1, .int (4 : Int32), .int (1 : Int32)] [] rfl rfl rfl (Nat.le_of_ble_eq_true rfl) dX11_walks_4 (fun s1 => ?_)
  refine j_aload_n C dX11_walks_7 0 rfl rfl ?_
  refine j_iload_n C dX11_walks_8 1 rfl rfl ?_
  refine j_iconst (v := (5 : Int32)) C dX11_walks_9 (by decide) ?_
  refine j_iload_n C dX11_walks_10 2 rfl rfl ?_
  refine j_callVn C (c_X11_actorTo b n l1 (5 : Int32) l2 s1) cw_RX11_223 ⟨rfl, rfl, Nat.le_of_ble_eq_true rfl, Nat.le_of_ble_eq_true rfl⟩ 0 kX11 (km_0 b) (lm_0 b) [.int l1, .int (5 : Int32), .int l2] [] rfl rfl rfl (Nat.le_of_ble_eq_true rfl) dX11_walks_11 (fun s2 => ?_)
  refine j_aload_n C dX11_walks_14 0 rfl rfl ?_
  refine j_iload_n C dX11_walks_15 1 rfl rfl ?_
  refine j_bipush (v := (6 : Int32)) C dX11_walks_16 (by decide) ?_
  refine j_iload_n C dX11_walks_18 3 rfl rfl ?_
  refine j_callVn C (c_X11_actorTo b n l1 (6 : Int32) l3 s2) cw_RX11_223 ⟨rfl, rfl, Nat.le_of_ble_eq_true rfl, Nat.le_of_ble_eq_true rfl⟩ 0 kX11 (km_0 b) (lm_0 b) [.int l1, .int (6 : Int32), .int l3] [] rfl rfl rfl (Nat.le_of_ble_eq_true rfl) dX11_walks_19 (fun s3 => ?_)
  exact j_vret C CR dX11_walks_22
set_option maxHeartbeats 4000000 in
theorem jb_X11_acts_309 {b : Bool} {X : CtxT Mem} (C : Cx (YM b) X 3 cX11_acts RX11 none rm_X11_acts) (CR : CRn (YM b) X)  (n : Nat)   (s : Mem) : J (YM b) X 3 (b_X11_acts_309  n   s) 309 [] [] s := by
  unfold b_X11_acts_309
  exact j_vret C CR dX11_acts_309
set_option maxHeartbeats 4000000 in
theorem jb_X11_acts_245 {b : Bool} {X : CtxT Mem} (C : Cx (YM b) X 3 cX11_acts RX11 none rm_X11_acts) (CR : CRn (YM b) X)  (n : Nat)  (t0 : Int32) (t1 : Int32) (s : Mem) : J (YM b) X 3 (b_X11_acts_245  n  t0 t1 s) 245 [] [.int t0, .int t1, .ref (adX X 15)] s := by
  unfold b_X11_acts_245
  refine j_iast C (km_15 b) (lm_15 b) dX11_acts_245 (fun s1 => ?_)
  refine j_goto (tgt := 309) C dX11_acts_246 (by decide) ?_
  exact jb_X11_acts_309 C CR  n s1
set_option maxHeartbeats 4000000 in
theorem jb_X11_acts_286 {b : Bool} {X : CtxT Mem} (C : Cx (YM b) X 3 cX11_acts RX11 none rm_X11_acts) (CR : CRn (YM b) X)  (n : Nat)   (s : Mem) : J (YM b) X 3 (b_X11_acts_286  n   s) 286 [(0, .ref (adX X 0))] [] s := by
  unfold b_X11_acts_286
  refine j_aload_n C dX11_acts_286 0 rfl rfl ?_
  refine j_aload_n C dX11_acts_287 0 rfl rfl ?_
  refine j_getR (z := 18) C kX11 (km_0 b) (lm_0 b) 37 (by decide) tw_1230 (rm_37 b) rfl dX11_acts_288 ?_
  refine j_iconst (v := (0 : Int32)) C dX11_acts_291 (by decide) ?_
  refine j_iald C (km_18 b) (lm_18 b) dX11_acts_292 ?_
  refine j_aload_n C dX11_acts_293 0 rfl rfl ?_
  refine j_getR (z := 18) C kX11 (km_0 b) (lm_0 b) 37 (by decide) tw_1230 (rm_37 b) rfl dX11_acts_294 ?_
  refine j_iconst (v := (1 : Int32)) C dX11_acts_297 (by decide) ?_
  refine j_iald C (km_18 b) (lm_18 b) dX11_acts_298 ?_
  refine j_aload_n C dX11_acts_299 0 rfl rfl ?_
  refine j_getR (z := 18) C kX11 (km_0 b) (lm_0 b) 37 (by decide) tw_1230 (rm_37 b) rfl dX11_acts_300 ?_
  refine j_iconst (v := (2 : Int32)) C dX11_acts_303 (by decide) ?_
  refine j_iald C (km_18 b) (lm_18 b) dX11_acts_304 ?_
  refine j_callVi C (c_X11_says b n (s 18 (0 : Int32).toNatClampNeg) (s 18 (1 : Int32).toNatClampNeg) (s 18 (2 : Int32).toNatClampNeg) s) cw_RX11_321 ⟨rfl, rfl, Nat.le_of_ble_eq_true rfl, Nat.le_of_ble_eq_true rfl⟩ 0 kX11 (km_0 b) (lm_0 b) [.int (s 18 (0 : Int32).toNatClampNeg), .int (s 18 (1 : Int32).toNatClampNeg), .int (s 18 (2 : Int32).toNatClampNeg)] [] rfl rfl rfl (Nat.le_of_ble_eq_true rfl) dX11_acts_305 (fun x2 s1 => ?_)
  refine j_istore_n (L' := [(0, .ref (adX X 0)), (2, .int x2)]) C dX11_acts_308 rfl (by decide) [1, 0] rfl ?_
  refine j_sub (L' := []) [] rfl ?_
  exact jb_X11_acts_309 C CR  n s1
set_option maxHeartbeats 4000000 in
theorem c_X11_acts (b : Bool) (n : Nat) (l1 : Int32) (s : Mem) : CTn (YM b) yX11_acts cX11_acts 3 none rm_X11_acts (fun ad => [.ref (ad 0), .int l1]) s (f_X11_acts n l1 s) := by
  refine CTn_of (by decide) (fun _ => Nat.le_of_ble_eq_true rfl) (fun X C CR => ?_)
  show J (YM b) X 3 (f_X11_acts n l1 s) 0 [(0, .ref (adX X 0)), (1, .int l1)] [] s
  unfold f_X11_acts
  refine j_iload_n C dX11_acts_0 1 rfl rfl ?_
  refine j_ite (fun hc => ?_) (fun hc0 => ?_)
  · refine j_tswI (off := 47) (tgt := 48) C dX11_acts_1 (by rw [hc]; decide) (by rw [hc]; decide) (by rw [hc]; rfl) (by decide) ?_
    refine j_aload_n C dX11_acts_48 0 rfl rfl ?_
    refine j_aload_n C dX11_acts_49 0 rfl rfl ?_
    refine j_getR (z := 18) C kX11 (km_0 b) (lm_0 b) 37 (by decide) tw_1230 (rm_37 b) rfl dX11_acts_50 ?_
    refine j_iconst (v := (0 : Int32)) C dX11_acts_53 (by decide) ?_
    refine j_iald C (km_18 b) (lm_18 b) dX11_acts_54 ?_
    refine j_iconst (v := (0 : Int32)) C dX11_acts_55 (by decide) ?_
    refine j_aload_n C dX11_acts_56 0 rfl rfl ?_
    refine j_getR (z := 18) C kX11 (km_0 b) (lm_0 b) 37 (by decide) tw_1230 (rm_37 b) rfl dX11_acts_57 ?_
    refine j_iconst (v := (1 : Int32)) C dX11_acts_60 (by decide) ?_
    refine j_iald C (km_18 b) (lm_18 b) dX11_acts_61 ?_
    refine j_callVn C (c_X11_actorTo b n (s 18 (0 : Int32).toNatClampNeg) (0 : Int32) (s 18 (1 : Int32).toNatClampNeg) s) cw_RX11_223 ⟨rfl, rfl, Nat.le_of_ble_eq_true rfl, Nat.le_of_ble_eq_true rfl⟩ 0 kX11 (km_0 b) (lm_0 b) [.int (s 18 (0 : Int32).toNatClampNeg), .int (0 : Int32), .int (s 18 (1 : Int32).toNatClampNeg)] [] rfl rfl rfl (Nat.le_of_ble_eq_true rfl) dX11_acts_62 (fun s1 => ?_)
    refine j_aload_n C dX11_acts_65 0 rfl rfl ?_
    refine j_aload_n C dX11_acts_66 0 rfl rfl ?_
    refine j_getR (z := 18) C kX11 (km_0 b) (lm_0 b) 37 (by decide) tw_1230 (rm_37 b) rfl dX11_acts_67 ?_
    refine j_iconst (v := (0 : Int32)) C dX11_acts_70 (by decide) ?_
    refine j_iald C (km_18 b) (lm_18 b) dX11_acts_71 ?_
    refine j_iconst (v := (1 : Int32)) C dX11_acts_72 (by decide) ?_
    refine j_aload_n C dX11_acts_73 0 rfl rfl ?_
    refine j_getR (z := 18) C kX11 (km_0 b) (lm_0 b) 37 (by decide) tw_1230 (rm_37 b) rfl dX11_acts_74 ?_
    refine j_iconst (v := (2 : Int32)) C dX11_acts_77 (by decide) ?_
    refine j_iald C (km_18 b) (lm_18 b) dX11_acts_78 ?_
    refine j_callVn C (c_X11_actorTo b n (s1 18 (0 : Int32).toNatClampNeg) (1 : Int32) (s1 18 (2 : Int32).toNatClampNeg) s1) cw_RX11_223 ⟨rfl, rfl, Nat.le_of_ble_eq_true rfl, Nat.le_of_ble_eq_true rfl⟩ 0 kX11 (km_0 b) (lm_0 b) [.int (s1 18 (0 : Int32).toNatClampNeg), .int (1 : Int32), .int (s1 18 (2 : Int32).toNatClampNeg)] [] rfl rfl rfl (Nat.le_of_ble_eq_true rfl) dX11_acts_79 (fun s2 => ?_)
    refine j_aload_n C dX11_acts_82 0 rfl rfl ?_
    refine j_aload_n C dX11_acts_83 0 rfl rfl ?_
    refine j_getR (z := 18) C kX11 (km_0 b) (lm_0 b) 37 (by decide) tw_1230 (rm_37 b) rfl dX11_acts_84 ?_
    refine j_iconst (v := (0 : Int32)) C dX11_acts_87 (by decide) ?_
    refine j_iald C (km_18 b) (lm_18 b) dX11_acts_88 ?_
    refine j_iconst (v := (2 : Int32)) C dX11_acts_89 (by decide) ?_
    refine j_aload_n C dX11_acts_90 0 rfl rfl ?_
    refine j_getR (z := 18) C kX11 (km_0 b) (lm_0 b) 37 (by decide) tw_1230 (rm_37 b) rfl dX11_acts_91 ?_
    refine j_iconst (v := (3 : Int32)) C dX11_acts_94 (by decide) ?_
    refine j_iald C (km_18 b) (lm_18 b) dX11_acts_95 ?_
    refine j_callVn C (c_X11_actorTo b n (s2 18 (0 : Int32).toNatClampNeg) (2 : Int32) (s2 18 (3 : Int32).toNatClampNeg) s2) cw_RX11_223 ⟨rfl, rfl, Nat.le_of_ble_eq_true rfl, Nat.le_of_ble_eq_true rfl⟩ 0 kX11 (km_0 b) (lm_0 b) [.int (s2 18 (0 : Int32).toNatClampNeg), .int (2 : Int32), .int (s2 18 (3 : Int32).toNatClampNeg)] [] rfl rfl rfl (Nat.le_of_ble_eq_true rfl) dX11_acts_96 (fun s3 => ?_)
    refine j_aload_n C dX11_acts_99 0 rfl rfl ?_
    refine j_aload_n C dX11_acts_100 0 rfl rfl ?_
    refine j_getR (z := 18) C kX11 (km_0 b) (lm_0 b) 37 (by decide) tw_1230 (rm_37 b) rfl dX11_acts_101 ?_
    refine j_iconst (v := (0 : Int32)) C dX11_acts_104 (by decide) ?_
    refine j_iald C (km_18 b) (lm_18 b) dX11_acts_105 ?_
    refine j_iconst (v := (4 : Int32)) C dX11_acts_106 (by decide) ?_
    refine j_iconst (v := (0 : Int32)) C dX11_acts_107 (by decide) ?_
    refine j_callVn C (c_X11_actorTo b n (s3 18 (0 : Int32).toNatClampNeg) (4 : Int32) (0 : Int32) s3) cw_RX11_223 ⟨rfl, rfl, Nat.le_of_ble_eq_true rfl, Nat.le_of_ble_eq_true rfl⟩ 0 kX11 (km_0 b) (lm_0 b) [.int (s3 18 (0 : Int32).toNatClampNeg), .int (4 : Int32), .int (0 : Int32)] [] rfl rfl rfl (Nat.le_of_ble_eq_true rfl) dX11_acts_108 (fun s4 => ?_)
    refine j_goto (tgt := 309) C dX11_acts_111 (by decide) ?_
    refine j_sub (L' := []) [] rfl ?_
    exact jb_X11_acts_309 C CR  n s4
  refine j_ite (fun hc => ?_) (fun hc1 => ?_)
  · refine j_tswI (off := 113) (tgt := 114) C dX11_acts_1 (by rw [hc]; decide) (by rw [hc]; decide) (by rw [hc]; rfl) (by decide) ?_
    refine j_aload_n C dX11_acts_114 0 rfl rfl ?_
    refine j_aload_n C dX11_acts_115 0 rfl rfl ?_
    refine j_getR (z := 18) C kX11 (km_0 b) (lm_0 b) 37 (by decide) tw_1230 (rm_37 b) rfl dX11_acts_116 ?_
    refine j_iconst (v := (0 : Int32)) C dX11_acts_119 (by decide) ?_
    refine j_iald C (km_18 b) (lm_18 b) dX11_acts_120 ?_
    refine j_aload_n C dX11_acts_121 0 rfl rfl ?_
    refine j_getR (z := 18) C kX11 (km_0 b) (lm_0 b) 37 (by decide) tw_1230 (rm_37 b) rfl dX11_acts_122 ?_
    refine j_iconst (v := (1 : Int32)) C dX11_acts_125 (by decide) ?_
    refine j_iald C (km_18 b) (lm_18 b) dX11_acts_126 ?_
    refine j_aload_n C dX11_acts_127 0 rfl rfl ?_
    refine j_getR (z := 18) C kX11 (km_0 b) (lm_0 b) 37 (by decide) tw_1230 (rm_37 b) rfl dX11_acts_128 ?_
    refine j_iconst (v := (2 : Int32)) C dX11_acts_131 (by decide) ?_
    refine j_iald C (km_18 b) (lm_18 b) dX11_acts_132 ?_
    refine j_callVn C (c_X11_walks b n (s 18 (0 : Int32).toNatClampNeg) (s 18 (1 : Int32).toNatClampNeg) (s 18 (2 : Int32).toNatClampNeg) s) cw_RX11_318 ⟨rfl, rfl, Nat.le_of_ble_eq_true rfl, Nat.le_of_ble_eq_true rfl⟩ 0 kX11 (km_0 b) (lm_0 b) [.int (s 18 (0 : Int32).toNatClampNeg), .int (s 18 (1 : Int32).toNatClampNeg), .int (s 18 (2 : Int32).toNatClampNeg)] [] rfl rfl rfl (Nat.le_of_ble_eq_true rfl) dX11_acts_133 (fun s5 => ?_)
    refine j_goto (tgt := 309) C dX11_acts_136 (by decide) ?_
    refine j_sub (L' := []) [] rfl ?_
    exact jb_X11_acts_309 C CR  n s5
  refine j_ite (fun hc => ?_) (fun hc2 => ?_)
  · refine j_tswI (off := 285) (tgt := 286) C dX11_acts_1 (by rw [hc]; decide) (by rw [hc]; decide) (by rw [hc]; rfl) (by decide) ?_
    refine j_sub (L' := [(0, .ref (adX X 0))]) [0] rfl ?_
    exact jb_X11_acts_286 C CR  n s
  refine j_ite (fun hc => ?_) (fun hc3 => ?_)
  · refine j_tswI (off := 138) (tgt := 139) C dX11_acts_1 (by rw [hc]; decide) (by rw [hc]; decide) (by rw [hc]; rfl) (by decide) ?_
    refine j_aload_n C dX11_acts_139 0 rfl rfl ?_
    refine j_aload_n C dX11_acts_140 0 rfl rfl ?_
    refine j_getR (z := 18) C kX11 (km_0 b) (lm_0 b) 37 (by decide) tw_1230 (rm_37 b) rfl dX11_acts_141 ?_
    refine j_iconst (v := (0 : Int32)) C dX11_acts_144 (by decide) ?_
    refine j_iald C (km_18 b) (lm_18 b) dX11_acts_145 ?_
    refine j_iconst (v := (3 : Int32)) C dX11_acts_146 (by decide) ?_
    refine j_aload_n C dX11_acts_147 0 rfl rfl ?_
    refine j_getR (z := 18) C kX11 (km_0 b) (lm_0 b) 37 (by decide) tw_1230 (rm_37 b) rfl dX11_acts_148 ?_
    refine j_iconst (v := (1 : Int32)) C dX11_acts_151 (by decide) ?_
    refine j_iald C (km_18 b) (lm_18 b) dX11_acts_152 ?_
    refine j_callVn C (c_X11_actorTo b n (s 18 (0 : Int32).toNatClampNeg) (3 : Int32) (s 18 (1 : Int32).toNatClampNeg) s) cw_RX11_223 ⟨rfl, rfl, Nat.le_of_ble_eq_true rfl, Nat.le_of_ble_eq_true rfl⟩ 0 kX11 (km_0 b) (lm_0 b) [.int (s 18 (0 : Int32).toNatClampNeg), .int (3 : Int32), .int (s 18 (1 : Int32).toNatClampNeg)] [] rfl rfl rfl (Nat.le_of_ble_eq_true rfl) dX11_acts_153 (fun s6 => ?_)
    refine j_goto (tgt := 309) C dX11_acts_156 (by decide) ?_
    refine j_sub (L' := []) [] rfl ?_
    exact jb_X11_acts_309 C CR  n s6
  refine j_ite (fun hc => ?_) (fun hc4 => ?_)
  · refine j_tswI (off := 158) (tgt := 159) C dX11_acts_1 (by rw [hc]; decide) (by rw [hc]; decide) (by rw [hc]; rfl) (by decide) ?_
    refine j_aload_n C dX11_acts_159 0 rfl rfl ?_
    refine j_getR (z := 15) C kX11 (km_0 b) (lm_0 b) 27 (by decide) tw_1220 (rm_27 b) rfl dX11_acts_160 ?_
    refine j_sipush (v := (323 : Int32)) C dX11_acts_163 (by decide) ?_
    refine j_aload_n C dX11_acts_166 0 rfl rfl ?_
    refine j_getR (z := 18) C kX11 (km_0 b) (lm_0 b) 37 (by decide) tw_1230 (rm_37 b) rfl dX11_acts_167 ?_
    refine j_iconst (v := (0 : Int32)) C dX11_acts_170 (by decide) ?_
    refine j_iald C (km_18 b) (lm_18 b) dX11_acts_171 ?_
    refine j_iadd C dX11_acts_172 ?_
    refine j_aload_n C dX11_acts_173 0 rfl rfl ?_
    refine j_getR (z := 18) C kX11 (km_0 b) (lm_0 b) 37 (by decide) tw_1230 (rm_37 b) rfl dX11_acts_174 ?_
    refine j_iconst (v := (1 : Int32)) C dX11_acts_177 (by decide) ?_
    refine j_iald C (km_18 b) (lm_18 b) dX11_acts_178 ?_
    refine j_iast C (km_15 b) (lm_15 b) dX11_acts_179 (fun s7 => ?_)
    refine j_goto (tgt := 309) C dX11_acts_180 (by decide) ?_
    refine j_sub (L' := []) [] rfl ?_
    exact jb_X11_acts_309 C CR  n s7
  refine j_ite (fun hc => ?_) (fun hc5 => ?_)
  · refine j_tswI (off := 182) (tgt := 183) C dX11_acts_1 (by rw [hc]; decide) (by rw [hc]; decide) (by rw [hc]; rfl) (by decide) ?_
    refine j_aload_n C dX11_acts_183 0 rfl rfl ?_
    refine j_getR (z := 15) C kX11 (km_0 b) (lm_0 b) 27 (by decide) tw_1220 (rm_27 b) rfl dX11_acts_184 ?_
    refine j_sipush (v := (384 : Int32)) C dX11_acts_187 (by decide) ?_
    refine j_aload_n C dX11_acts_190 0 rfl rfl ?_
    refine j_getR (z := 18) C kX11 (km_0 b) (lm_0 b) 37 (by decide) tw_1230 (rm_37 b) rfl dX11_acts_191 ?_
    refine j_iconst (v := (0 : Int32)) C dX11_acts_194 (by decide) ?_
    refine j_iald C (km_18 b) (lm_18 b) dX11_acts_195 ?_
    refine j_iadd C dX11_acts_196 ?_
    refine j_aload_n C dX11_acts_197 0 rfl rfl ?_
    refine j_getR (z := 18) C kX11 (km_0 b) (lm_0 b) 37 (by decide) tw_1230 (rm_37 b) rfl dX11_acts_198 ?_
    refine j_iconst (v := (1 : Int32)) C dX11_acts_201 (by decide) ?_
    refine j_iald C (km_18 b) (lm_18 b) dX11_acts_202 ?_
    refine j_iast C (km_15 b) (lm_15 b) dX11_acts_203 (fun s8 => ?_)
    refine j_goto (tgt := 309) C dX11_acts_204 (by decide) ?_
    refine j_sub (L' := []) [] rfl ?_
    exact jb_X11_acts_309 C CR  n s8
  refine j_ite (fun hc => ?_) (fun hc6 => ?_)
  · refine j_tswI (off := 206) (tgt := 207) C dX11_acts_1 (by rw [hc]; decide) (by rw [hc]; decide) (by rw [hc]; rfl) (by decide) ?_
    refine j_aload_n C dX11_acts_207 0 rfl rfl ?_
    refine j_getR (z := 15) C kX11 (km_0 b) (lm_0 b) 27 (by decide) tw_1220 (rm_27 b) rfl dX11_acts_208 ?_
    refine j_sipush (v := (445 : Int32)) C dX11_acts_211 (by decide) ?_
    refine j_aload_n C dX11_acts_214 0 rfl rfl ?_
    refine j_getR (z := 18) C kX11 (km_0 b) (lm_0 b) 37 (by decide) tw_1230 (rm_37 b) rfl dX11_acts_215 ?_
    refine j_iconst (v := (0 : Int32)) C dX11_acts_218 (by decide) ?_
    refine j_iald C (km_18 b) (lm_18 b) dX11_acts_219 ?_
    refine j_bipush (v := (16 : Int32)) C dX11_acts_220 (by decide) ?_
    refine j_imul C dX11_acts_222 ?_
    refine j_iadd C dX11_acts_223 ?_
    refine j_aload_n C dX11_acts_224 0 rfl rfl ?_
    refine j_getR (z := 18) C kX11 (km_0 b) (lm_0 b) 37 (by decide) tw_1230 (rm_37 b) rfl dX11_acts_225 ?_
    refine j_iconst (v := (1 : Int32)) C dX11_acts_228 (by decide) ?_
    refine j_iald C (km_18 b) (lm_18 b) dX11_acts_229 ?_
    refine j_iadd C dX11_acts_230 ?_
    refine j_aload_n C dX11_acts_231 0 rfl rfl ?_
    refine j_getR (z := 18) C kX11 (km_0 b) (lm_0 b) 37 (by decide) tw_1230 (rm_37 b) rfl dX11_acts_232 ?_
    refine j_iconst (v := (2 : Int32)) C dX11_acts_235 (by decide) ?_
    refine j_iald C (km_18 b) (lm_18 b) dX11_acts_236 ?_
    refine j_if_ne (tgt := 244) C dX11_acts_237 (by decide) ?_ ?_
    · refine j_iconst (v := (1 : Int32)) C dX11_acts_244 (by decide) ?_
      refine j_sub (L' := []) [] rfl ?_
      exact jb_X11_acts_245 C CR  n (1 : Int32) (((445 : Int32) + ((s 18 (0 : Int32).toNatClampNeg) * (16 : Int32))) + (s 18 (1 : Int32).toNatClampNeg)) s
    · refine j_iconst (v := (0 : Int32)) C dX11_acts_240 (by decide) ?_
      refine j_goto (tgt := 245) C dX11_acts_241 (by decide) ?_
      refine j_sub (L' := []) [] rfl ?_
      exact jb_X11_acts_245 C CR  n (0 : Int32) (((445 : Int32) + ((s 18 (0 : Int32).toNatClampNeg) * (16 : Int32))) + (s 18 (1 : Int32).toNatClampNeg)) s
  refine j_ite (fun hc => ?_) (fun hc7 => ?_)
  · refine j_tswI (off := 248) (tgt := 249) C dX11_acts_1 (by rw [hc]; decide) (by rw [hc]; decide) (by rw [hc]; rfl) (by decide) ?_
    refine j_aload_n C dX11_acts_249 0 rfl rfl ?_
    refine j_getR (z := 15) C kX11 (km_0 b) (lm_0 b) 27 (by decide) tw_1220 (rm_27 b) rfl dX11_acts_250 ?_
    refine j_sipush (v := (168 : Int32)) C dX11_acts_253 (by decide) ?_
    refine j_aload_n C dX11_acts_256 0 rfl rfl ?_
    refine j_getR (z := 15) C kX11 (km_0 b) (lm_0 b) 27 (by decide) tw_1220 (rm_27 b) rfl dX11_acts_257 ?_
    refine j_iconst (v := (2 : Int32)) C dX11_acts_260 (by decide) ?_
    refine j_iald C (km_15 b) (lm_15 b) dX11_acts_261 ?_
    refine j_bipush (v := (64 : Int32)) C dX11_acts_262 (by decide) ?_
    refine j_irem C dX11_acts_264 ?_
    refine j_iadd C dX11_acts_265 ?_
    refine j_aload_n C dX11_acts_266 0 rfl rfl ?_
    refine j_getR (z := 18) C kX11 (km_0 b) (lm_0 b) 37 (by decide) tw_1230 (rm_37 b) rfl dX11_acts_267 ?_
    refine j_iconst (v := (0 : Int32)) C dX11_acts_270 (by decide) ?_
    refine j_iald C (km_18 b) (lm_18 b) dX11_acts_271 ?_
    refine j_iast C (km_15 b) (lm_15 b) dX11_acts_272 (fun s9 => ?_)
    refine j_aload_n C dX11_acts_273 0 rfl rfl ?_
    refine j_getR (z := 15) C kX11 (km_0 b) (lm_0 b) 27 (by decide) tw_1220 (rm_27 b) rfl dX11_acts_274 ?_
    refine j_iconst (v := (2 : Int32)) C dX11_acts_277 (by decide) ?_
    refine j_dup2 C dX11_acts_278 rfl rfl ?_
    refine j_iald C (km_15 b) (lm_15 b) dX11_acts_279 ?_
    refine j_iconst (v := (1 : Int32)) C dX11_acts_280 (by decide) ?_
    refine j_iadd C dX11_acts_281 ?_
    refine j_iast C (km_15 b) (lm_15 b) dX11_acts_282 (fun s10 => ?_)
    refine j_goto (tgt := 309) C dX11_acts_283 (by decide) ?_
    refine j_sub (L' := []) [] rfl ?_
    exact jb_X11_acts_309 C CR  n s10
  refine j_tswO (tgt := 286) C dX11_acts_1 (by omega) (by decide) ?_
  refine j_sub (L' := [(0, .ref (adX X 0))]) [0] rfl ?_
  exact jb_X11_acts_286 C CR  n s
set_option maxHeartbeats 4000000 in
theorem jb_X11_running_30 {b : Bool} {X : CtxT (Int32 × Mem)} (C : Cx (YM b) X 4 cX11_running RX11 (some .int) rm_X11_running) (CR : CRi (YM b) X) (k4 : Int32 → Int32 → Int32 → Mem → Option (Int32 × Mem)) (hk4 : ∀ (l1 : Int32) (l2 : Int32) (l3 : Int32) (s : Mem), J (YM b) X 4 (k4 l1 l2 l3 s) 4 [(0, .ref (adX X 0)), (1, .int l1), (2, .int l2), (3, .int l3)] [] s) (n : Nat)  (l1 : Int32) (l3 : Int32) (t0 : Int32) (t1 : Int32) (s : Mem) : J (YM b) X 4 (b_X11_running_30 k4 n  l1 l3 t0 t1 s) 30 [(0, .ref (adX X 0)), (1, .int l1), (3, .int l3)] [.int t0, .int t1] s := by
  unfold b_X11_running_30
  refine j_iadd C dX11_running_30 ?_
  refine j_top (fun x1 => ?_)
  refine j_istore_n (L' := [(0, .ref (adX X 0)), (1, .int l1), (2, .int x1), (3, .int l3)]) C dX11_running_31 rfl (by decide) [1, 2, 0, 3] rfl ?_
  refine j_iinc (L2 := fun x2 => [(0, .ref (adX X 0)), (1, .int l1), (2, .int x1), (3, .int x2)]) C dX11_running_32 3 rfl (by decide) [1, 2, 3, 0] (fun _ => rfl) (fun x2 => ?_)
  refine j_goto (tgt := 4) C dX11_running_35 (by decide) ?_
  exact hk4 l1 x1 x2 s
set_option maxHeartbeats 4000000 in
theorem jb_X11_running_29 {b : Bool} {X : CtxT (Int32 × Mem)} (C : Cx (YM b) X 4 cX11_running RX11 (some .int) rm_X11_running) (CR : CRi (YM b) X) (k4 : Int32 → Int32 → Int32 → Mem → Option (Int32 × Mem)) (hk4 : ∀ (l1 : Int32) (l2 : Int32) (l3 : Int32) (s : Mem), J (YM b) X 4 (k4 l1 l2 l3 s) 4 [(0, .ref (adX X 0)), (1, .int l1), (2, .int l2), (3, .int l3)] [] s) (n : Nat)  (l1 : Int32) (l3 : Int32) (t0 : Int32) (s : Mem) : J (YM b) X 4 (b_X11_running_29 k4 n  l1 l3 t0 s) 29 [(0, .ref (adX X 0)), (1, .int l1), (3, .int l3)] [.int t0] s := by
  unfold b_X11_running_29
  refine j_iconst (v := (0 : Int32)) C dX11_running_29 (by decide) ?_
  exact jb_X11_running_30 C CR k4 hk4 n l1 l3 (0 : Int32) t0 s
set_option maxHeartbeats 4000000 in
theorem jb_X11_running_4 {b : Bool} {X : CtxT (Int32 × Mem)} (C : Cx (YM b) X 4 cX11_running RX11 (some .int) rm_X11_running) (CR : CRi (YM b) X)  (n : Nat) (k4 : Int32 → Int32 → Int32 → Mem → Option (Int32 × Mem)) (hk4 : ∀ (l1 : Int32) (l2 : Int32) (l3 : Int32) (s : Mem), J (YM b) X 4 (k4 l1 l2 l3 s) 4 [(0, .ref (adX X 0)), (1, .int l1), (2, .int l2), (3, .int l3)] [] s) (l1 : Int32) (l2 : Int32) (l3 : Int32) (s : Mem) : J (YM b) X 4 (b_X11_running_4  n k4 l1 l2 l3 s) 4 [(0, .ref (adX X 0)), (1, .int l1), (2, .int l2), (3, .int l3)] [] s := by
  unfold b_X11_running_4
  refine j_iload_n C dX11_running_4 3 rfl rfl ?_
  refine j_bipush (v := (8 : Int32)) C dX11_running_5 (by decide) ?_
  refine j_icmp_ge (tgt := 38) C dX11_running_7 (by decide) ?_ ?_
  · refine j_iload_n C dX11_running_38 2 rfl rfl ?_
    exact j_iret C CR dX11_running_39
  · refine j_iload_n C dX11_running_10 2 rfl rfl ?_
    refine j_iload_n C dX11_running_11 1 rfl rfl ?_
    refine j_if_eq (tgt := 29) C dX11_running_12 (by decide) ?_ ?_
    · refine j_sub (L' := [(0, .ref (adX X 0)), (1, .int l1), (3, .int l3)]) [0, 1, 3] rfl ?_
      exact jb_X11_running_29 C CR k4 hk4 n l1 l3 l2 s
    · refine j_aload_n C dX11_running_15 0 rfl rfl ?_
      refine j_iload_n C dX11_running_16 3 rfl rfl ?_
      refine j_iconst (v := (0 : Int32)) C dX11_running_17 (by decide) ?_
      refine j_callVi C (c_X11_of b n l3 (0 : Int32) s) cw_RX11_158 ⟨rfl, rfl, Nat.le_of_ble_eq_true rfl, Nat.le_of_ble_eq_true rfl⟩ 0 kX11 (km_0 b) (lm_0 b) [.int l3, .int (0 : Int32)] [.int l2] rfl rfl rfl (Nat.le_of_ble_eq_true rfl) dX11_running_18 (fun x2 s1 => ?_)
      refine j_iload_n C dX11_running_21 1 rfl rfl ?_
      refine j_icmp_ne (tgt := 29) C dX11_running_22 (by decide) ?_ ?_
      · refine j_sub (L' := [(0, .ref (adX X 0)), (1, .int l1), (3, .int l3)]) [0, 1, 3] rfl ?_
        exact jb_X11_running_29 C CR k4 hk4 n l1 l3 l2 s1
      · refine j_iconst (v := (1 : Int32)) C dX11_running_25 (by decide) ?_
        refine j_goto (tgt := 30) C dX11_running_26 (by decide) ?_
        refine j_sub (L' := [(0, .ref (adX X 0)), (1, .int l1), (3, .int l3)]) [0, 1, 3] rfl ?_
        exact jb_X11_running_30 C CR k4 hk4 n l1 l3 (1 : Int32) l2 s1
theorem lb_X11_running_4 {b : Bool} {X : CtxT (Int32 × Mem)} (C : Cx (YM b) X 4 cX11_running RX11 (some .int) rm_X11_running) (CR : CRi (YM b) X)  : ∀ (n : Nat) (l1 : Int32) (l2 : Int32) (l3 : Int32) (s : Mem), J (YM b) X 4 (itr3 (b_X11_running_4) n l1 l2 l3 s) 4 [(0, .ref (adX X 0)), (1, .int l1), (2, .int l2), (3, .int l3)] [] s := by
  intro n
  induction n with
  | zero => intros; exact j_none
  | succ n ih =>
    intro l1 l2 l3 s
    exact jb_X11_running_4 C CR  n _ ih l1 l2 l3 s
set_option maxHeartbeats 4000000 in
theorem c_X11_running (b : Bool) (n : Nat) (l1 : Int32) (s : Mem) : CTi (YM b) yX11_running cX11_running 4 (some .int) rm_X11_running (fun ad => [.ref (ad 0), .int l1]) s (f_X11_running n l1 s) := by
  refine CTi_of (by decide) (fun _ => Nat.le_of_ble_eq_true rfl) (fun X C CR => ?_)
  show J (YM b) X 4 (f_X11_running n l1 s) 0 [(0, .ref (adX X 0)), (1, .int l1)] [] s
  unfold f_X11_running
  refine j_iconst (v := (0 : Int32)) C dX11_running_0 (by decide) ?_
  refine j_istore_n (L' := [(0, .ref (adX X 0)), (1, .int l1), (2, .int (0 : Int32))]) C dX11_running_1 rfl (by decide) [1, 2, 0] rfl ?_
  refine j_iconst (v := (0 : Int32)) C dX11_running_2 (by decide) ?_
  refine j_istore_n (L' := [(0, .ref (adX X 0)), (1, .int l1), (2, .int (0 : Int32)), (3, .int (0 : Int32))]) C dX11_running_3 rfl (by decide) [1, 2, 3, 0] rfl ?_
  exact lb_X11_running_4 C CR  n l1 (0 : Int32) (0 : Int32) s
set_option maxHeartbeats 4000000 in
theorem jb_X11_answer_451 {b : Bool} {X : CtxT (Int32 × Mem)} (C : Cx (YM b) X 2 cX11_answer RX11 (some .int) rm_X11_answer) (CR : CRi (YM b) X)  (n : Nat)  (t0 : Int32) (s : Mem) : J (YM b) X 2 (b_X11_answer_451  n  t0 s) 451 [] [.int t0] s := by
  unfold b_X11_answer_451
  exact j_iret C CR dX11_answer_451
set_option maxHeartbeats 4000000 in
theorem jb_X11_answer_402 {b : Bool} {X : CtxT (Int32 × Mem)} (C : Cx (YM b) X 2 cX11_answer RX11 (some .int) rm_X11_answer) (CR : CRi (YM b) X)  (n : Nat)   (s : Mem) : J (YM b) X 2 (b_X11_answer_402  n   s) 402 [(0, .ref (adX X 0))] [] s := by
  unfold b_X11_answer_402
  refine j_aload_n C dX11_answer_402 0 rfl rfl ?_
  refine j_getR (z := 15) C kX11 (km_0 b) (lm_0 b) 27 (by decide) tw_1220 (rm_27 b) rfl dX11_answer_403 ?_
  refine j_iconst (v := (1 : Int32)) C dX11_answer_406 (by decide) ?_
  refine j_aload_n C dX11_answer_407 0 rfl rfl ?_
  refine j_getR (z := 15) C kX11 (km_0 b) (lm_0 b) 27 (by decide) tw_1220 (rm_27 b) rfl dX11_answer_408 ?_
  refine j_iconst (v := (1 : Int32)) C dX11_answer_411 (by decide) ?_
  refine j_iald C (km_15 b) (lm_15 b) dX11_answer_412 ?_
  refine j_ldcw (v := (1103515245 : Int32)) C tw_1545 dX11_answer_413 ?_
  refine j_imul C dX11_answer_416 ?_
  refine j_sipush (v := (12345 : Int32)) C dX11_answer_417 (by decide) ?_
  refine j_iadd C dX11_answer_420 ?_
  refine j_iast C (km_15 b) (lm_15 b) dX11_answer_421 (fun s1 => ?_)
  refine j_aload_n C dX11_answer_422 0 rfl rfl ?_
  refine j_getR (z := 18) C kX11 (km_0 b) (lm_0 b) 37 (by decide) tw_1230 (rm_37 b) rfl dX11_answer_423 ?_
  refine j_iconst (v := (0 : Int32)) C dX11_answer_426 (by decide) ?_
  refine j_iald C (km_18 b) (lm_18 b) dX11_answer_427 ?_
  refine j_if_le (tgt := 450) C dX11_answer_428 (by decide) ?_ ?_
  · refine j_iconst (v := (0 : Int32)) C dX11_answer_450 (by decide) ?_
    refine j_sub (L' := []) [] rfl ?_
    exact jb_X11_answer_451 C CR  n (0 : Int32) s1
  · refine j_aload_n C dX11_answer_431 0 rfl rfl ?_
    refine j_getR (z := 15) C kX11 (km_0 b) (lm_0 b) 27 (by decide) tw_1220 (rm_27 b) rfl dX11_answer_432 ?_
    refine j_iconst (v := (1 : Int32)) C dX11_answer_435 (by decide) ?_
    refine j_iald C (km_15 b) (lm_15 b) dX11_answer_436 ?_
    refine j_ldc (v := (2147483647 : Int32)) C tw_1546 dX11_answer_437 ?_
    refine j_iand C dX11_answer_439 ?_
    refine j_aload_n C dX11_answer_440 0 rfl rfl ?_
    refine j_getR (z := 18) C kX11 (km_0 b) (lm_0 b) 37 (by decide) tw_1230 (rm_37 b) rfl dX11_answer_441 ?_
    refine j_iconst (v := (0 : Int32)) C dX11_answer_444 (by decide) ?_
    refine j_iald C (km_18 b) (lm_18 b) dX11_answer_445 ?_
    refine j_irem C dX11_answer_446 ?_
    refine j_goto (tgt := 451) C dX11_answer_447 (by decide) ?_
    refine j_sub (L' := []) [] rfl ?_
    exact jb_X11_answer_451 C CR  n (((s1 15 (1 : Int32).toNatClampNeg) &&& (2147483647 : Int32)) - ((s1 15 (1 : Int32).toNatClampNeg) &&& (2147483647 : Int32)) / (s1 18 (0 : Int32).toNatClampNeg) * (s1 18 (0 : Int32).toNatClampNeg)) s1
set_option maxHeartbeats 4000000 in
theorem c_X11_answer (b : Bool) (n : Nat) (l1 : Int32) (s : Mem) : CTi (YM b) yX11_answer cX11_answer 2 (some .int) rm_X11_answer (fun ad => [.ref (ad 0), .int l1]) s (f_X11_answer n l1 s) := by
  refine CTi_of (by decide) (fun _ => Nat.le_of_ble_eq_true rfl) (fun X C CR => ?_)
  show J (YM b) X 2 (f_X11_answer n l1 s) 0 [(0, .ref (adX X 0)), (1, .int l1)] [] s
  unfold f_X11_answer
  refine j_iload_n C dX11_answer_0 1 rfl rfl ?_
  refine j_ite (fun hc => ?_) (fun hc0 => ?_)
  · refine j_tswI (off := 131) (tgt := 132) C dX11_answer_1 (by rw [hc]; decide) (by rw [hc]; decide) (by rw [hc]; rfl) (by decide) ?_
    refine j_aload_n C dX11_answer_132 0 rfl rfl ?_
    refine j_getR (z := 18) C kX11 (km_0 b) (lm_0 b) 37 (by decide) tw_1230 (rm_37 b) rfl dX11_answer_133 ?_
    refine j_iconst (v := (0 : Int32)) C dX11_answer_136 (by decide) ?_
    refine j_iald C (km_18 b) (lm_18 b) dX11_answer_137 ?_
    exact j_iret C CR dX11_answer_138
  refine j_ite (fun hc => ?_) (fun hc1 => ?_)
  · refine j_tswI (off := 138) (tgt := 139) C dX11_answer_1 (by rw [hc]; decide) (by rw [hc]; decide) (by rw [hc]; rfl) (by decide) ?_
    refine j_aload_n C dX11_answer_139 0 rfl rfl ?_
    refine j_getR (z := 15) C kX11 (km_0 b) (lm_0 b) 27 (by decide) tw_1220 (rm_27 b) rfl dX11_answer_140 ?_
    refine j_aload_n C dX11_answer_143 0 rfl rfl ?_
    refine j_get C kX11 (km_0 b) (lm_0 b) 38 (by decide) tw_1231 (rm_38 b) dX11_answer_144 ?_
    refine j_iald C (km_15 b) (lm_15 b) dX11_answer_147 ?_
    refine j_aload_n C dX11_answer_148 0 rfl rfl ?_
    refine j_getR (z := 18) C kX11 (km_0 b) (lm_0 b) 37 (by decide) tw_1230 (rm_37 b) rfl dX11_answer_149 ?_
    refine j_iconst (v := (0 : Int32)) C dX11_answer_152 (by decide) ?_
    refine j_iald C (km_18 b) (lm_18 b) dX11_answer_153 ?_
    refine j_iadd C dX11_answer_154 ?_
    exact j_iret C CR dX11_answer_155
  refine j_ite (fun hc => ?_) (fun hc2 => ?_)
  · refine j_tswI (off := 155) (tgt := 156) C dX11_answer_1 (by rw [hc]; decide) (by rw [hc]; decide) (by rw [hc]; rfl) (by decide) ?_
    refine j_aload_n C dX11_answer_156 0 rfl rfl ?_
    refine j_getR (z := 15) C kX11 (km_0 b) (lm_0 b) 27 (by decide) tw_1220 (rm_27 b) rfl dX11_answer_157 ?_
    refine j_aload_n C dX11_answer_160 0 rfl rfl ?_
    refine j_get C kX11 (km_0 b) (lm_0 b) 38 (by decide) tw_1231 (rm_38 b) dX11_answer_161 ?_
    refine j_iald C (km_15 b) (lm_15 b) dX11_answer_164 ?_
    refine j_aload_n C dX11_answer_165 0 rfl rfl ?_
    refine j_getR (z := 18) C kX11 (km_0 b) (lm_0 b) 37 (by decide) tw_1230 (rm_37 b) rfl dX11_answer_166 ?_
    refine j_iconst (v := (0 : Int32)) C dX11_answer_169 (by decide) ?_
    refine j_iald C (km_18 b) (lm_18 b) dX11_answer_170 ?_
    refine j_isub C dX11_answer_171 ?_
    exact j_iret C CR dX11_answer_172
  refine j_ite (fun hc => ?_) (fun hc3 => ?_)
  · refine j_tswI (off := 172) (tgt := 173) C dX11_answer_1 (by rw [hc]; decide) (by rw [hc]; decide) (by rw [hc]; rfl) (by decide) ?_
    refine j_aload_n C dX11_answer_173 0 rfl rfl ?_
    refine j_getR (z := 15) C kX11 (km_0 b) (lm_0 b) 27 (by decide) tw_1220 (rm_27 b) rfl dX11_answer_174 ?_
    refine j_aload_n C dX11_answer_177 0 rfl rfl ?_
    refine j_get C kX11 (km_0 b) (lm_0 b) 38 (by decide) tw_1231 (rm_38 b) dX11_answer_178 ?_
    refine j_iald C (km_15 b) (lm_15 b) dX11_answer_181 ?_
    refine j_aload_n C dX11_answer_182 0 rfl rfl ?_
    refine j_getR (z := 18) C kX11 (km_0 b) (lm_0 b) 37 (by decide) tw_1230 (rm_37 b) rfl dX11_answer_183 ?_
    refine j_iconst (v := (0 : Int32)) C dX11_answer_186 (by decide) ?_
    refine j_iald C (km_18 b) (lm_18 b) dX11_answer_187 ?_
    refine j_imul C dX11_answer_188 ?_
    exact j_iret C CR dX11_answer_189
  refine j_ite (fun hc => ?_) (fun hc4 => ?_)
  · refine j_tswI (off := 189) (tgt := 190) C dX11_answer_1 (by rw [hc]; decide) (by rw [hc]; decide) (by rw [hc]; rfl) (by decide) ?_
    refine j_aload_n C dX11_answer_190 0 rfl rfl ?_
    refine j_getR (z := 15) C kX11 (km_0 b) (lm_0 b) 27 (by decide) tw_1220 (rm_27 b) rfl dX11_answer_191 ?_
    refine j_aload_n C dX11_answer_194 0 rfl rfl ?_
    refine j_get C kX11 (km_0 b) (lm_0 b) 38 (by decide) tw_1231 (rm_38 b) dX11_answer_195 ?_
    refine j_iald C (km_15 b) (lm_15 b) dX11_answer_198 ?_
    refine j_aload_n C dX11_answer_199 0 rfl rfl ?_
    refine j_getR (z := 18) C kX11 (km_0 b) (lm_0 b) 37 (by decide) tw_1230 (rm_37 b) rfl dX11_answer_200 ?_
    refine j_iconst (v := (0 : Int32)) C dX11_answer_203 (by decide) ?_
    refine j_iald C (km_18 b) (lm_18 b) dX11_answer_204 ?_
    refine j_idiv C dX11_answer_205 ?_
    exact j_iret C CR dX11_answer_206
  refine j_ite (fun hc => ?_) (fun hc5 => ?_)
  · refine j_tswI (off := 401) (tgt := 402) C dX11_answer_1 (by rw [hc]; decide) (by rw [hc]; decide) (by rw [hc]; rfl) (by decide) ?_
    refine j_sub (L' := [(0, .ref (adX X 0))]) [0] rfl ?_
    exact jb_X11_answer_402 C CR  n s
  refine j_ite (fun hc => ?_) (fun hc6 => ?_)
  · refine j_tswI (off := 401) (tgt := 402) C dX11_answer_1 (by rw [hc]; decide) (by rw [hc]; decide) (by rw [hc]; rfl) (by decide) ?_
    refine j_sub (L' := [(0, .ref (adX X 0))]) [0] rfl ?_
    exact jb_X11_answer_402 C CR  n s
  refine j_ite (fun hc => ?_) (fun hc7 => ?_)
  · refine j_tswI (off := 401) (tgt := 402) C dX11_answer_1 (by rw [hc]; decide) (by rw [hc]; decide) (by rw [hc]; rfl) (by decide) ?_
    refine j_sub (L' := [(0, .ref (adX X 0))]) [0] rfl ?_
    exact jb_X11_answer_402 C CR  n s
  refine j_ite (fun hc => ?_) (fun hc8 => ?_)
  · refine j_tswI (off := 401) (tgt := 402) C dX11_answer_1 (by rw [hc]; decide) (by rw [hc]; decide) (by rw [hc]; rfl) (by decide) ?_
    refine j_sub (L' := [(0, .ref (adX X 0))]) [0] rfl ?_
    exact jb_X11_answer_402 C CR  n s
  refine j_ite (fun hc => ?_) (fun hc9 => ?_)
  · refine j_tswI (off := 401) (tgt := 402) C dX11_answer_1 (by rw [hc]; decide) (by rw [hc]; decide) (by rw [hc]; rfl) (by decide) ?_
    refine j_sub (L' := [(0, .ref (adX X 0))]) [0] rfl ?_
    exact jb_X11_answer_402 C CR  n s
  refine j_ite (fun hc => ?_) (fun hc10 => ?_)
  · refine j_tswI (off := 401) (tgt := 402) C dX11_answer_1 (by rw [hc]; decide) (by rw [hc]; decide) (by rw [hc]; rfl) (by decide) ?_
    refine j_sub (L' := [(0, .ref (adX X 0))]) [0] rfl ?_
    exact jb_X11_answer_402 C CR  n s
  refine j_ite (fun hc => ?_) (fun hc11 => ?_)
  · refine j_tswI (off := 401) (tgt := 402) C dX11_answer_1 (by rw [hc]; decide) (by rw [hc]; decide) (by rw [hc]; rfl) (by decide) ?_
    refine j_sub (L' := [(0, .ref (adX X 0))]) [0] rfl ?_
    exact jb_X11_answer_402 C CR  n s
  refine j_ite (fun hc => ?_) (fun hc12 => ?_)
  · refine j_tswI (off := 401) (tgt := 402) C dX11_answer_1 (by rw [hc]; decide) (by rw [hc]; decide) (by rw [hc]; rfl) (by decide) ?_
    refine j_sub (L' := [(0, .ref (adX X 0))]) [0] rfl ?_
    exact jb_X11_answer_402 C CR  n s
  refine j_ite (fun hc => ?_) (fun hc13 => ?_)
  · refine j_tswI (off := 401) (tgt := 402) C dX11_answer_1 (by rw [hc]; decide) (by rw [hc]; decide) (by rw [hc]; rfl) (by decide) ?_
    refine j_sub (L' := [(0, .ref (adX X 0))]) [0] rfl ?_
    exact jb_X11_answer_402 C CR  n s
  refine j_ite (fun hc => ?_) (fun hc14 => ?_)
  · refine j_tswI (off := 401) (tgt := 402) C dX11_answer_1 (by rw [hc]; decide) (by rw [hc]; decide) (by rw [hc]; rfl) (by decide) ?_
    refine j_sub (L' := [(0, .ref (adX X 0))]) [0] rfl ?_
    exact jb_X11_answer_402 C CR  n s
  refine j_ite (fun hc => ?_) (fun hc15 => ?_)
  · refine j_tswI (off := 401) (tgt := 402) C dX11_answer_1 (by rw [hc]; decide) (by rw [hc]; decide) (by rw [hc]; rfl) (by decide) ?_
    refine j_sub (L' := [(0, .ref (adX X 0))]) [0] rfl ?_
    exact jb_X11_answer_402 C CR  n s
  refine j_ite (fun hc => ?_) (fun hc16 => ?_)
  · refine j_tswI (off := 401) (tgt := 402) C dX11_answer_1 (by rw [hc]; decide) (by rw [hc]; decide) (by rw [hc]; rfl) (by decide) ?_
    refine j_sub (L' := [(0, .ref (adX X 0))]) [0] rfl ?_
    exact jb_X11_answer_402 C CR  n s
  refine j_ite (fun hc => ?_) (fun hc17 => ?_)
  · refine j_tswI (off := 401) (tgt := 402) C dX11_answer_1 (by rw [hc]; decide) (by rw [hc]; decide) (by rw [hc]; rfl) (by decide) ?_
    refine j_sub (L' := [(0, .ref (adX X 0))]) [0] rfl ?_
    exact jb_X11_answer_402 C CR  n s
  refine j_ite (fun hc => ?_) (fun hc18 => ?_)
  · refine j_tswI (off := 401) (tgt := 402) C dX11_answer_1 (by rw [hc]; decide) (by rw [hc]; decide) (by rw [hc]; rfl) (by decide) ?_
    refine j_sub (L' := [(0, .ref (adX X 0))]) [0] rfl ?_
    exact jb_X11_answer_402 C CR  n s
  refine j_ite (fun hc => ?_) (fun hc19 => ?_)
  · refine j_tswI (off := 401) (tgt := 402) C dX11_answer_1 (by rw [hc]; decide) (by rw [hc]; decide) (by rw [hc]; rfl) (by decide) ?_
    refine j_sub (L' := [(0, .ref (adX X 0))]) [0] rfl ?_
    exact jb_X11_answer_402 C CR  n s
  refine j_ite (fun hc => ?_) (fun hc20 => ?_)
  · refine j_tswI (off := 206) (tgt := 207) C dX11_answer_1 (by rw [hc]; decide) (by rw [hc]; decide) (by rw [hc]; rfl) (by decide) ?_
    refine j_aload_n C dX11_answer_207 0 rfl rfl ?_
    refine j_aload_n C dX11_answer_208 0 rfl rfl ?_
    refine j_getR (z := 18) C kX11 (km_0 b) (lm_0 b) 37 (by decide) tw_1230 (rm_37 b) rfl dX11_answer_209 ?_
    refine j_iconst (v := (0 : Int32)) C dX11_answer_212 (by decide) ?_
    refine j_iald C (km_18 b) (lm_18 b) dX11_answer_213 ?_
    refine j_iconst (v := (1 : Int32)) C dX11_answer_214 (by decide) ?_
    refine j_callVi C (c_X11_actorOf b n (s 18 (0 : Int32).toNatClampNeg) (1 : Int32) s) cw_RX11_192 ⟨rfl, rfl, Nat.le_of_ble_eq_true rfl, Nat.le_of_ble_eq_true rfl⟩ 0 kX11 (km_0 b) (lm_0 b) [.int (s 18 (0 : Int32).toNatClampNeg), .int (1 : Int32)] [] rfl rfl rfl (Nat.le_of_ble_eq_true rfl) dX11_answer_215 (fun x2 s1 => ?_)
    exact j_iret C CR dX11_answer_218
  refine j_ite (fun hc => ?_) (fun hc21 => ?_)
  · refine j_tswI (off := 218) (tgt := 219) C dX11_answer_1 (by rw [hc]; decide) (by rw [hc]; decide) (by rw [hc]; rfl) (by decide) ?_
    refine j_aload_n C dX11_answer_219 0 rfl rfl ?_
    refine j_aload_n C dX11_answer_220 0 rfl rfl ?_
    refine j_getR (z := 18) C kX11 (km_0 b) (lm_0 b) 37 (by decide) tw_1230 (rm_37 b) rfl dX11_answer_221 ?_
    refine j_iconst (v := (0 : Int32)) C dX11_answer_224 (by decide) ?_
    refine j_iald C (km_18 b) (lm_18 b) dX11_answer_225 ?_
    refine j_iconst (v := (2 : Int32)) C dX11_answer_226 (by decide) ?_
    refine j_callVi C (c_X11_actorOf b n (s 18 (0 : Int32).toNatClampNeg) (2 : Int32) s) cw_RX11_192 ⟨rfl, rfl, Nat.le_of_ble_eq_true rfl, Nat.le_of_ble_eq_true rfl⟩ 0 kX11 (km_0 b) (lm_0 b) [.int (s 18 (0 : Int32).toNatClampNeg), .int (2 : Int32)] [] rfl rfl rfl (Nat.le_of_ble_eq_true rfl) dX11_answer_227 (fun x4 s3 => ?_)
    exact j_iret C CR dX11_answer_230
  refine j_ite (fun hc => ?_) (fun hc22 => ?_)
  · refine j_tswI (off := 230) (tgt := 231) C dX11_answer_1 (by rw [hc]; decide) (by rw [hc]; decide) (by rw [hc]; rfl) (by decide) ?_
    refine j_aload_n C dX11_answer_231 0 rfl rfl ?_
    refine j_aload_n C dX11_answer_232 0 rfl rfl ?_
    refine j_getR (z := 18) C kX11 (km_0 b) (lm_0 b) 37 (by decide) tw_1230 (rm_37 b) rfl dX11_answer_233 ?_
    refine j_iconst (v := (0 : Int32)) C dX11_answer_236 (by decide) ?_
    refine j_iald C (km_18 b) (lm_18 b) dX11_answer_237 ?_
    refine j_iconst (v := (0 : Int32)) C dX11_answer_238 (by decide) ?_
    refine j_callVi C (c_X11_actorOf b n (s 18 (0 : Int32).toNatClampNeg) (0 : Int32) s) cw_RX11_192 ⟨rfl, rfl, Nat.le_of_ble_eq_true rfl, Nat.le_of_ble_eq_true rfl⟩ 0 kX11 (km_0 b) (lm_0 b) [.int (s 18 (0 : Int32).toNatClampNeg), .int (0 : Int32)] [] rfl rfl rfl (Nat.le_of_ble_eq_true rfl) dX11_answer_239 (fun x6 s5 => ?_)
    exact j_iret C CR dX11_answer_242
  refine j_ite (fun hc => ?_) (fun hc23 => ?_)
  · refine j_tswI (off := 242) (tgt := 243) C dX11_answer_1 (by rw [hc]; decide) (by rw [hc]; decide) (by rw [hc]; rfl) (by decide) ?_
    refine j_aload_n C dX11_answer_243 0 rfl rfl ?_
    refine j_aload_n C dX11_answer_244 0 rfl rfl ?_
    refine j_getR (z := 18) C kX11 (km_0 b) (lm_0 b) 37 (by decide) tw_1230 (rm_37 b) rfl dX11_answer_245 ?_
    refine j_iconst (v := (0 : Int32)) C dX11_answer_248 (by decide) ?_
    refine j_iald C (km_18 b) (lm_18 b) dX11_answer_249 ?_
    refine j_callVi C (c_X11_boxOf b n (s 18 (0 : Int32).toNatClampNeg) s) cw_RX11_220 ⟨rfl, rfl, Nat.le_of_ble_eq_true rfl, Nat.le_of_ble_eq_true rfl⟩ 0 kX11 (km_0 b) (lm_0 b) [.int (s 18 (0 : Int32).toNatClampNeg)] [] rfl rfl rfl (Nat.le_of_ble_eq_true rfl) dX11_answer_250 (fun x8 s7 => ?_)
    exact j_iret C CR dX11_answer_253
  refine j_ite (fun hc => ?_) (fun hc24 => ?_)
  · refine j_tswI (off := 253) (tgt := 254) C dX11_answer_1 (by rw [hc]; decide) (by rw [hc]; decide) (by rw [hc]; rfl) (by decide) ?_
    refine j_aload_n C dX11_answer_254 0 rfl rfl ?_
    refine j_aload_n C dX11_answer_255 0 rfl rfl ?_
    refine j_getR (z := 18) C kX11 (km_0 b) (lm_0 b) 37 (by decide) tw_1230 (rm_37 b) rfl dX11_answer_256 ?_
    refine j_iconst (v := (0 : Int32)) C dX11_answer_259 (by decide) ?_
    refine j_iald C (km_18 b) (lm_18 b) dX11_answer_260 ?_
    refine j_iconst (v := (4 : Int32)) C dX11_answer_261 (by decide) ?_
    refine j_callVi C (c_X11_actorOf b n (s 18 (0 : Int32).toNatClampNeg) (4 : Int32) s) cw_RX11_192 ⟨rfl, rfl, Nat.le_of_ble_eq_true rfl, Nat.le_of_ble_eq_true rfl⟩ 0 kX11 (km_0 b) (lm_0 b) [.int (s 18 (0 : Int32).toNatClampNeg), .int (4 : Int32)] [] rfl rfl rfl (Nat.le_of_ble_eq_true rfl) dX11_answer_262 (fun x10 s9 => ?_)
    exact j_iret C CR dX11_answer_265
  refine j_ite (fun hc => ?_) (fun hc25 => ?_)
  · refine j_tswI (off := 265) (tgt := 266) C dX11_answer_1 (by rw [hc]; decide) (by rw [hc]; decide) (by rw [hc]; rfl) (by decide) ?_
    refine j_aload_n C dX11_answer_266 0 rfl rfl ?_
    refine j_getR (z := 15) C kX11 (km_0 b) (lm_0 b) 27 (by decide) tw_1220 (rm_27 b) rfl dX11_answer_267 ?_
    refine j_sipush (v := (323 : Int32)) C dX11_answer_270 (by decide) ?_
    refine j_aload_n C dX11_answer_273 0 rfl rfl ?_
    refine j_getR (z := 18) C kX11 (km_0 b) (lm_0 b) 37 (by decide) tw_1230 (rm_37 b) rfl dX11_answer_274 ?_
    refine j_iconst (v := (0 : Int32)) C dX11_answer_277 (by decide) ?_
    refine j_iald C (km_18 b) (lm_18 b) dX11_answer_278 ?_
    refine j_iadd C dX11_answer_279 ?_
    refine j_iald C (km_15 b) (lm_15 b) dX11_answer_280 ?_
    exact j_iret C CR dX11_answer_281
  refine j_ite (fun hc => ?_) (fun hc26 => ?_)
  · refine j_tswI (off := 281) (tgt := 282) C dX11_answer_1 (by rw [hc]; decide) (by rw [hc]; decide) (by rw [hc]; rfl) (by decide) ?_
    refine j_aload_n C dX11_answer_282 0 rfl rfl ?_
    refine j_getR (z := 15) C kX11 (km_0 b) (lm_0 b) 27 (by decide) tw_1220 (rm_27 b) rfl dX11_answer_283 ?_
    refine j_sipush (v := (384 : Int32)) C dX11_answer_286 (by decide) ?_
    refine j_aload_n C dX11_answer_289 0 rfl rfl ?_
    refine j_getR (z := 18) C kX11 (km_0 b) (lm_0 b) 37 (by decide) tw_1230 (rm_37 b) rfl dX11_answer_290 ?_
    refine j_iconst (v := (0 : Int32)) C dX11_answer_293 (by decide) ?_
    refine j_iald C (km_18 b) (lm_18 b) dX11_answer_294 ?_
    refine j_iadd C dX11_answer_295 ?_
    refine j_iald C (km_15 b) (lm_15 b) dX11_answer_296 ?_
    exact j_iret C CR dX11_answer_297
  refine j_ite (fun hc => ?_) (fun hc27 => ?_)
  · refine j_tswI (off := 297) (tgt := 298) C dX11_answer_1 (by rw [hc]; decide) (by rw [hc]; decide) (by rw [hc]; rfl) (by decide) ?_
    refine j_aload_n C dX11_answer_298 0 rfl rfl ?_
    refine j_aload_n C dX11_answer_299 0 rfl rfl ?_
    refine j_getR (z := 18) C kX11 (km_0 b) (lm_0 b) 37 (by decide) tw_1230 (rm_37 b) rfl dX11_answer_300 ?_
    refine j_iconst (v := (0 : Int32)) C dX11_answer_303 (by decide) ?_
    refine j_iald C (km_18 b) (lm_18 b) dX11_answer_304 ?_
    refine j_callVi C (c_X11_running b n (s 18 (0 : Int32).toNatClampNeg) s) cw_RX11_324 ⟨rfl, rfl, Nat.le_of_ble_eq_true rfl, Nat.le_of_ble_eq_true rfl⟩ 0 kX11 (km_0 b) (lm_0 b) [.int (s 18 (0 : Int32).toNatClampNeg)] [] rfl rfl rfl (Nat.le_of_ble_eq_true rfl) dX11_answer_305 (fun x12 s11 => ?_)
    exact j_iret C CR dX11_answer_308
  refine j_ite (fun hc => ?_) (fun hc28 => ?_)
  · refine j_tswI (off := 308) (tgt := 309) C dX11_answer_1 (by rw [hc]; decide) (by rw [hc]; decide) (by rw [hc]; rfl) (by decide) ?_
    refine j_aload_n C dX11_answer_309 0 rfl rfl ?_
    refine j_aload_n C dX11_answer_310 0 rfl rfl ?_
    refine j_getR (z := 18) C kX11 (km_0 b) (lm_0 b) 37 (by decide) tw_1230 (rm_37 b) rfl dX11_answer_311 ?_
    refine j_iconst (v := (0 : Int32)) C dX11_answer_314 (by decide) ?_
    refine j_iald C (km_18 b) (lm_18 b) dX11_answer_315 ?_
    refine j_iconst (v := (0 : Int32)) C dX11_answer_316 (by decide) ?_
    refine j_callVi C (c_X11_actorOf b n (s 18 (0 : Int32).toNatClampNeg) (0 : Int32) s) cw_RX11_192 ⟨rfl, rfl, Nat.le_of_ble_eq_true rfl, Nat.le_of_ble_eq_true rfl⟩ 0 kX11 (km_0 b) (lm_0 b) [.int (s 18 (0 : Int32).toNatClampNeg), .int (0 : Int32)] [] rfl rfl rfl (Nat.le_of_ble_eq_true rfl) dX11_answer_317 (fun x14 s13 => ?_)
    refine j_aload_n C dX11_answer_320 0 rfl rfl ?_
    refine j_getR (z := 9) C kX11 (km_0 b) (lm_0 b) 15 (by decide) tw_1208 (rm_15 b) rfl dX11_answer_321 ?_
    refine j_iconst (v := (3 : Int32)) C dX11_answer_324 (by decide) ?_
    refine j_aload_n C dX11_answer_325 0 rfl rfl ?_
    refine j_getR (z := 18) C kX11 (km_0 b) (lm_0 b) 37 (by decide) tw_1230 (rm_37 b) rfl dX11_answer_326 ?_
    refine j_iconst (v := (1 : Int32)) C dX11_answer_329 (by decide) ?_
    refine j_iald C (km_18 b) (lm_18 b) dX11_answer_330 ?_
    refine j_imul C dX11_answer_331 ?_
    refine j_iald C (km_9 b) (lm_9 b) dX11_answer_332 ?_
    refine j_icmp_eq (tgt := 340) C dX11_answer_333 (by decide) ?_ ?_
    · refine j_aload_n C dX11_answer_340 0 rfl rfl ?_
      refine j_aload_n C dX11_answer_341 0 rfl rfl ?_
      refine j_getR (z := 18) C kX11 (km_0 b) (lm_0 b) 37 (by decide) tw_1230 (rm_37 b) rfl dX11_answer_342 ?_
      refine j_iconst (v := (0 : Int32)) C dX11_answer_345 (by decide) ?_
      refine j_iald C (km_18 b) (lm_18 b) dX11_answer_346 ?_
      refine j_iconst (v := (1 : Int32)) C dX11_answer_347 (by decide) ?_
      refine j_callVi C (c_X11_actorOf b n (s13 18 (0 : Int32).toNatClampNeg) (1 : Int32) s13) cw_RX11_192 ⟨rfl, rfl, Nat.le_of_ble_eq_true rfl, Nat.le_of_ble_eq_true rfl⟩ 0 kX11 (km_0 b) (lm_0 b) [.int (s13 18 (0 : Int32).toNatClampNeg), .int (1 : Int32)] [] rfl rfl rfl (Nat.le_of_ble_eq_true rfl) dX11_answer_348 (fun x16 s15 => ?_)
      refine j_aload_n C dX11_answer_351 0 rfl rfl ?_
      refine j_getR (z := 9) C kX11 (km_0 b) (lm_0 b) 15 (by decide) tw_1208 (rm_15 b) rfl dX11_answer_352 ?_
      refine j_iconst (v := (3 : Int32)) C dX11_answer_355 (by decide) ?_
      refine j_aload_n C dX11_answer_356 0 rfl rfl ?_
      refine j_getR (z := 18) C kX11 (km_0 b) (lm_0 b) 37 (by decide) tw_1230 (rm_37 b) rfl dX11_answer_357 ?_
      refine j_iconst (v := (1 : Int32)) C dX11_answer_360 (by decide) ?_
      refine j_iald C (km_18 b) (lm_18 b) dX11_answer_361 ?_
      refine j_imul C dX11_answer_362 ?_
      refine j_iconst (v := (1 : Int32)) C dX11_answer_363 (by decide) ?_
      refine j_iadd C dX11_answer_364 ?_
      refine j_iald C (km_9 b) (lm_9 b) dX11_answer_365 ?_
      refine j_isub C dX11_answer_366 ?_
      refine j_mabs C cw_RX11_327 ⟨Nat.le_of_ble_eq_true rfl, Nat.le_of_ble_eq_true rfl⟩ (Nat.le_of_ble_eq_true rfl) dX11_answer_367 ?_
      refine j_aload_n C dX11_answer_370 0 rfl rfl ?_
      refine j_aload_n C dX11_answer_371 0 rfl rfl ?_
      refine j_getR (z := 18) C kX11 (km_0 b) (lm_0 b) 37 (by decide) tw_1230 (rm_37 b) rfl dX11_answer_372 ?_
      refine j_iconst (v := (0 : Int32)) C dX11_answer_375 (by decide) ?_
      refine j_iald C (km_18 b) (lm_18 b) dX11_answer_376 ?_
      refine j_iconst (v := (2 : Int32)) C dX11_answer_377 (by decide) ?_
      refine j_callVi C (c_X11_actorOf b n (s15 18 (0 : Int32).toNatClampNeg) (2 : Int32) s15) cw_RX11_192 ⟨rfl, rfl, Nat.le_of_ble_eq_true rfl, Nat.le_of_ble_eq_true rfl⟩ 0 kX11 (km_0 b) (lm_0 b) [.int (s15 18 (0 : Int32).toNatClampNeg), .int (2 : Int32)] [.int (if 0 ≤ (x16 - (s15 9 (((3 : Int32) * (s15 18 (1 : Int32).toNatClampNeg)) + (1 : Int32)).toNatClampNeg)) then (x16 - (s15 9 (((3 : Int32) * (s15 18 (1 : Int32).toNatClampNeg)) + (1 : Int32)).toNatClampNeg)) else 0 - (x16 - (s15 9 (((3 : Int32) * (s15 18 (1 : Int32).toNatClampNeg)) + (1 : Int32)).toNatClampNeg)))] rfl rfl rfl (Nat.le_of_ble_eq_true rfl) dX11_answer_378 (fun x18 s17 => ?_)
      refine j_aload_n C dX11_answer_381 0 rfl rfl ?_
      refine j_getR (z := 9) C kX11 (km_0 b) (lm_0 b) 15 (by decide) tw_1208 (rm_15 b) rfl dX11_answer_382 ?_
      refine j_iconst (v := (3 : Int32)) C dX11_answer_385 (by decide) ?_
      refine j_aload_n C dX11_answer_386 0 rfl rfl ?_
      refine j_getR (z := 18) C kX11 (km_0 b) (lm_0 b) 37 (by decide) tw_1230 (rm_37 b) rfl dX11_answer_387 ?_
      refine j_iconst (v := (1 : Int32)) C dX11_answer_390 (by decide) ?_
      refine j_iald C (km_18 b) (lm_18 b) dX11_answer_391 ?_
      refine j_imul C dX11_answer_392 ?_
      refine j_iconst (v := (2 : Int32)) C dX11_answer_393 (by decide) ?_
      refine j_iadd C dX11_answer_394 ?_
      refine j_iald C (km_9 b) (lm_9 b) dX11_answer_395 ?_
      refine j_isub C dX11_answer_396 ?_
      refine j_mabs C cw_RX11_327 ⟨Nat.le_of_ble_eq_true rfl, Nat.le_of_ble_eq_true rfl⟩ (Nat.le_of_ble_eq_true rfl) dX11_answer_397 ?_
      refine j_iadd C dX11_answer_400 ?_
      exact j_iret C CR dX11_answer_401
    · refine j_sipush (v := (999 : Int32)) C dX11_answer_336 (by decide) ?_
      exact j_iret C CR dX11_answer_339
  refine j_tswO (tgt := 402) C dX11_answer_1 (by omega) (by decide) ?_
  refine j_sub (L' := [(0, .ref (adX X 0))]) [0] rfl ?_
  exact jb_X11_answer_402 C CR  n s
set_option maxHeartbeats 4000000 in
theorem c_X11_changes (b : Bool) (n : Nat)  (s : Mem) : CTi (YM b) yX11_changes cX11_changes 1 (some .boolean) rm_X11_changes (fun ad => [.ref (ad 0)]) s (f_X11_changes n  s) := by
  refine CTi_of (by decide) (fun _ => Nat.le_of_ble_eq_true rfl) (fun X C CR => ?_)
  show J (YM b) X 1 (f_X11_changes n  s) 0 [(0, .ref (adX X 0))] [] s
  unfold f_X11_changes
  refine j_aload_n C dX11_changes_0 0 rfl rfl ?_
  refine j_aload_n C dX11_changes_1 0 rfl rfl ?_
  refine j_getR (z := 18) C kX11 (km_0 b) (lm_0 b) 37 (by decide) tw_1230 (rm_37 b) rfl dX11_changes_2 ?_
  refine j_iconst (v := (0 : Int32)) C dX11_changes_5 (by decide) ?_
  refine j_iald C (km_18 b) (lm_18 b) dX11_changes_6 ?_
  refine j_callVi C (c_X11_isScript b n (s 18 (0 : Int32).toNatClampNeg) s) cw_RX11_154 ⟨rfl, rfl, Nat.le_of_ble_eq_true rfl, Nat.le_of_ble_eq_true rfl⟩ 0 kX11 (km_0 b) (lm_0 b) [.int (s 18 (0 : Int32).toNatClampNeg)] [] rfl rfl rfl (Nat.le_of_ble_eq_true rfl) dX11_changes_7 (fun x2 s1 => ?_)
  refine j_if_ne (tgt := 23) C dX11_changes_10 (by decide) ?_ ?_
  · refine j_aload_n C dX11_changes_23 0 rfl rfl ?_
    refine j_aload_n C dX11_changes_24 0 rfl rfl ?_
    refine j_get C kX11 (km_0 b) (lm_0 b) 34 (by decide) tw_1227 (rm_34 b) dX11_changes_25 ?_
    refine j_iconst (v := (0 : Int32)) C dX11_changes_28 (by decide) ?_
    refine j_aload_n C dX11_changes_29 0 rfl rfl ?_
    refine j_getR (z := 18) C kX11 (km_0 b) (lm_0 b) 37 (by decide) tw_1230 (rm_37 b) rfl dX11_changes_30 ?_
    refine j_iconst (v := (0 : Int32)) C dX11_changes_33 (by decide) ?_
    refine j_iald C (km_18 b) (lm_18 b) dX11_changes_34 ?_
    refine j_callVn C (c_X11_to b n (s1 0 34) (0 : Int32) (s1 18 (0 : Int32).toNatClampNeg) s1) cw_RX11_148 ⟨rfl, rfl, Nat.le_of_ble_eq_true rfl, Nat.le_of_ble_eq_true rfl⟩ 0 kX11 (km_0 b) (lm_0 b) [.int (s1 0 34), .int (0 : Int32), .int (s1 18 (0 : Int32).toNatClampNeg)] [] rfl rfl rfl (Nat.le_of_ble_eq_true rfl) dX11_changes_35 (fun s3 => ?_)
    refine j_aload_n C dX11_changes_38 0 rfl rfl ?_
    refine j_aload_n C dX11_changes_39 0 rfl rfl ?_
    refine j_get C kX11 (km_0 b) (lm_0 b) 34 (by decide) tw_1227 (rm_34 b) dX11_changes_40 ?_
    refine j_iconst (v := (1 : Int32)) C dX11_changes_43 (by decide) ?_
    refine j_iconst (v := (0 : Int32)) C dX11_changes_44 (by decide) ?_
    refine j_callVn C (c_X11_to b n (s3 0 34) (1 : Int32) (0 : Int32) s3) cw_RX11_148 ⟨rfl, rfl, Nat.le_of_ble_eq_true rfl, Nat.le_of_ble_eq_true rfl⟩ 0 kX11 (km_0 b) (lm_0 b) [.int (s3 0 34), .int (1 : Int32), .int (0 : Int32)] [] rfl rfl rfl (Nat.le_of_ble_eq_true rfl) dX11_changes_45 (fun s4 => ?_)
    refine j_iconst (v := (1 : Int32)) C dX11_changes_48 (by decide) ?_
    exact j_zret C CR dX11_changes_49
  · refine j_aload_n C dX11_changes_13 0 rfl rfl ?_
    refine j_aload_n C dX11_changes_14 0 rfl rfl ?_
    refine j_get C kX11 (km_0 b) (lm_0 b) 34 (by decide) tw_1227 (rm_34 b) dX11_changes_15 ?_
    refine j_callVn C (c_X11_frees b n (s1 0 34) s1) cw_RX11_161 ⟨rfl, rfl, Nat.le_of_ble_eq_true rfl, Nat.le_of_ble_eq_true rfl⟩ 0 kX11 (km_0 b) (lm_0 b) [.int (s1 0 34)] [] rfl rfl rfl (Nat.le_of_ble_eq_true rfl) dX11_changes_18 (fun s5 => ?_)
    refine j_iconst (v := (0 : Int32)) C dX11_changes_21 (by decide) ?_
    exact j_zret C CR dX11_changes_22
set_option maxHeartbeats 4000000 in
theorem jb_X11_stops_61 {b : Bool} {X : CtxT (Int32 × Mem)} (C : Cx (YM b) X 3 cX11_stops RX11 (some .boolean) rm_X11_stops) (CR : CRi (YM b) X) (k26 : Int32 → Int32 → Mem → Option (Int32 × Mem)) (hk26 : ∀ (l1 : Int32) (l2 : Int32) (s : Mem), J (YM b) X 3 (k26 l1 l2 s) 26 [(0, .ref (adX X 0)), (1, .int l1), (2, .int l2)] [] s) (n : Nat)  (l1 : Int32) (l2 : Int32) (s : Mem) : J (YM b) X 3 (b_X11_stops_61 k26 n  l1 l2 s) 61 [(0, .ref (adX X 0)), (1, .int l1), (2, .int l2)] [] s := by
  unfold b_X11_stops_61
  refine j_iinc (L2 := fun x1 => [(0, .ref (adX X 0)), (1, .int l1), (2, .int x1)]) C dX11_stops_61 2 rfl (by decide) [1, 2, 0] (fun _ => rfl) (fun x1 => ?_)
  refine j_goto (tgt := 26) C dX11_stops_64 (by decide) ?_
  exact hk26 l1 x1 s
set_option maxHeartbeats 4000000 in
theorem jb_X11_stops_26 {b : Bool} {X : CtxT (Int32 × Mem)} (C : Cx (YM b) X 3 cX11_stops RX11 (some .boolean) rm_X11_stops) (CR : CRi (YM b) X)  (n : Nat) (k26 : Int32 → Int32 → Mem → Option (Int32 × Mem)) (hk26 : ∀ (l1 : Int32) (l2 : Int32) (s : Mem), J (YM b) X 3 (k26 l1 l2 s) 26 [(0, .ref (adX X 0)), (1, .int l1), (2, .int l2)] [] s) (l1 : Int32) (l2 : Int32) (s : Mem) : J (YM b) X 3 (b_X11_stops_26  n k26 l1 l2 s) 26 [(0, .ref (adX X 0)), (1, .int l1), (2, .int l2)] [] s := by
  unfold b_X11_stops_26
  refine j_iload_n C dX11_stops_26 2 rfl rfl ?_
  refine j_bipush (v := (8 : Int32)) C dX11_stops_27 (by decide) ?_
  refine j_icmp_ge (tgt := 67) C dX11_stops_29 (by decide) ?_ ?_
  · refine j_iload_n C dX11_stops_67 1 rfl rfl ?_
    exact j_zret C CR dX11_stops_68
  · refine j_aload_n C dX11_stops_32 0 rfl rfl ?_
    refine j_iload_n C dX11_stops_33 2 rfl rfl ?_
    refine j_iconst (v := (0 : Int32)) C dX11_stops_34 (by decide) ?_
    refine j_callVi C (c_X11_of b n l2 (0 : Int32) s) cw_RX11_158 ⟨rfl, rfl, Nat.le_of_ble_eq_true rfl, Nat.le_of_ble_eq_true rfl⟩ 0 kX11 (km_0 b) (lm_0 b) [.int l2, .int (0 : Int32)] [] rfl rfl rfl (Nat.le_of_ble_eq_true rfl) dX11_stops_35 (fun x2 s1 => ?_)
    refine j_aload_n C dX11_stops_38 0 rfl rfl ?_
    refine j_getR (z := 18) C kX11 (km_0 b) (lm_0 b) 37 (by decide) tw_1230 (rm_37 b) rfl dX11_stops_39 ?_
    refine j_iconst (v := (0 : Int32)) C dX11_stops_42 (by decide) ?_
    refine j_iald C (km_18 b) (lm_18 b) dX11_stops_43 ?_
    refine j_icmp_ne (tgt := 61) C dX11_stops_44 (by decide) ?_ ?_
    · exact jb_X11_stops_61 C CR k26 hk26 n l1 l2 s1
    · refine j_aload_n C dX11_stops_47 0 rfl rfl ?_
      refine j_getR (z := 18) C kX11 (km_0 b) (lm_0 b) 37 (by decide) tw_1230 (rm_37 b) rfl dX11_stops_48 ?_
      refine j_iconst (v := (0 : Int32)) C dX11_stops_51 (by decide) ?_
      refine j_iald C (km_18 b) (lm_18 b) dX11_stops_52 ?_
      refine j_if_eq (tgt := 61) C dX11_stops_53 (by decide) ?_ ?_
      · exact jb_X11_stops_61 C CR k26 hk26 n l1 l2 s1
      · refine j_aload_n C dX11_stops_56 0 rfl rfl ?_
        refine j_iload_n C dX11_stops_57 2 rfl rfl ?_
        refine j_callVn C (c_X11_frees b n l2 s1) cw_RX11_161 ⟨rfl, rfl, Nat.le_of_ble_eq_true rfl, Nat.le_of_ble_eq_true rfl⟩ 0 kX11 (km_0 b) (lm_0 b) [.int l2] [] rfl rfl rfl (Nat.le_of_ble_eq_true rfl) dX11_stops_58 (fun s3 => ?_)
        exact jb_X11_stops_61 C CR k26 hk26 n l1 l2 s3
theorem lb_X11_stops_26 {b : Bool} {X : CtxT (Int32 × Mem)} (C : Cx (YM b) X 3 cX11_stops RX11 (some .boolean) rm_X11_stops) (CR : CRi (YM b) X)  : ∀ (n : Nat) (l1 : Int32) (l2 : Int32) (s : Mem), J (YM b) X 3 (itr2 (b_X11_stops_26) n l1 l2 s) 26 [(0, .ref (adX X 0)), (1, .int l1), (2, .int l2)] [] s := by
  intro n
  induction n with
  | zero => intros; exact j_none
  | succ n ih =>
    intro l1 l2 s
    exact jb_X11_stops_26 C CR  n _ ih l1 l2 s
set_option maxHeartbeats 4000000 in
theorem jb_X11_stops_23 {b : Bool} {X : CtxT (Int32 × Mem)} (C : Cx (YM b) X 3 cX11_stops RX11 (some .boolean) rm_X11_stops) (CR : CRi (YM b) X)  (n : Nat)  (t0 : Int32) (s : Mem) : J (YM b) X 3 (b_X11_stops_23  n  t0 s) 23 [(0, .ref (adX X 0))] [.int t0] s := by
  unfold b_X11_stops_23
  refine j_istore_n (L' := [(0, .ref (adX X 0)), (1, .int t0)]) C dX11_stops_23 rfl (by decide) [1, 0] rfl ?_
  refine j_iconst (v := (0 : Int32)) C dX11_stops_24 (by decide) ?_
  refine j_istore_n (L' := [(0, .ref (adX X 0)), (1, .int t0), (2, .int (0 : Int32))]) C dX11_stops_25 rfl (by decide) [1, 2, 0] rfl ?_
  exact lb_X11_stops_26 C CR  n t0 (0 : Int32) s
set_option maxHeartbeats 4000000 in
theorem c_X11_stops (b : Bool) (n : Nat)  (s : Mem) : CTi (YM b) yX11_stops cX11_stops 3 (some .boolean) rm_X11_stops (fun ad => [.ref (ad 0)]) s (f_X11_stops n  s) := by
  refine CTi_of (by decide) (fun _ => Nat.le_of_ble_eq_true rfl) (fun X C CR => ?_)
  show J (YM b) X 3 (f_X11_stops n  s) 0 [(0, .ref (adX X 0))] [] s
  unfold f_X11_stops
  refine j_aload_n C dX11_stops_0 0 rfl rfl ?_
  refine j_aload_n C dX11_stops_1 0 rfl rfl ?_
  refine j_get C kX11 (km_0 b) (lm_0 b) 34 (by decide) tw_1227 (rm_34 b) dX11_stops_2 ?_
  refine j_iconst (v := (0 : Int32)) C dX11_stops_5 (by decide) ?_
  refine j_callVi C (c_X11_of b n (s 0 34) (0 : Int32) s) cw_RX11_158 ⟨rfl, rfl, Nat.le_of_ble_eq_true rfl, Nat.le_of_ble_eq_true rfl⟩ 0 kX11 (km_0 b) (lm_0 b) [.int (s 0 34), .int (0 : Int32)] [] rfl rfl rfl (Nat.le_of_ble_eq_true rfl) dX11_stops_6 (fun x2 s1 => ?_)
  refine j_aload_n C dX11_stops_9 0 rfl rfl ?_
  refine j_getR (z := 18) C kX11 (km_0 b) (lm_0 b) 37 (by decide) tw_1230 (rm_37 b) rfl dX11_stops_10 ?_
  refine j_iconst (v := (0 : Int32)) C dX11_stops_13 (by decide) ?_
  refine j_iald C (km_18 b) (lm_18 b) dX11_stops_14 ?_
  refine j_icmp_eq (tgt := 22) C dX11_stops_15 (by decide) ?_ ?_
  · refine j_iconst (v := (0 : Int32)) C dX11_stops_22 (by decide) ?_
    exact jb_X11_stops_23 C CR  n (0 : Int32) s1
  · refine j_iconst (v := (1 : Int32)) C dX11_stops_18 (by decide) ?_
    refine j_goto (tgt := 23) C dX11_stops_19 (by decide) ?_
    exact jb_X11_stops_23 C CR  n (1 : Int32) s1
