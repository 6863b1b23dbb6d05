set_option maxHeartbeats 4000000 in
theorem jb_X11_does_211 {b : Bool} {X : CtxT (Int32 × Mem)} (C : Cx (YM b) X 4 cX11_does RX11 (some .boolean) rm_X11_does) (CR : CRi (YM b) X)  (n : Nat)  (t0 : Int32) (t1 : Int32) (t2 : Int32) (s : Mem) : J (YM b) X 4 (b_X11_does_211  n  t0 t1 t2 s) 211 [] [.int t0, .int t1, .int t2, .ref (adX X 0)] s := by
  unfold b_X11_does_211
  refine j_callVn C (c_X11_to b n t2 t1 t0 s) cw_RX11_148 ⟨rfl, rfl, Nat.le_of_ble_eq_true rfl, Nat.le_of_ble_eq_true rfl⟩ 0 kX11 (km_0 b) (lm_0 b) [.int t2, .int t1, .int t0] [] rfl rfl rfl (Nat.le_of_ble_eq_true rfl) dX11_does_211 (fun s1 => ?_)
  refine j_iconst (v := (1 : Int32)) C dX11_does_214 (by decide) ?_
  exact j_zret C CR dX11_does_215
set_option maxHeartbeats 4000000 in
theorem jb_X11_does_248 {b : Bool} {X : CtxT (Int32 × Mem)} (C : Cx (YM b) X 4 cX11_does RX11 (some .boolean) rm_X11_does) (CR : CRi (YM b) X)  (n : Nat)  (t0 : Int32) (t1 : Int32) (t2 : Int32) (s : Mem) : J (YM b) X 4 (b_X11_does_248  n  t0 t1 t2 s) 248 [] [.int t0, .int t1, .int t2, .ref (adX X 0)] s := by
  unfold b_X11_does_248
  refine j_callVn C (c_X11_to b n t2 t1 t0 s) cw_RX11_148 ⟨rfl, rfl, Nat.le_of_ble_eq_true rfl, Nat.le_of_ble_eq_true rfl⟩ 0 kX11 (km_0 b) (lm_0 b) [.int t2, .int t1, .int t0] [] rfl rfl rfl (Nat.le_of_ble_eq_true rfl) dX11_does_248 (fun s1 => ?_)
  refine j_iconst (v := (1 : Int32)) C dX11_does_251 (by decide) ?_
  exact j_zret C CR dX11_does_252
set_option maxHeartbeats 4000000 in
theorem jb_X11_does_351 {b : Bool} {X : CtxT (Int32 × Mem)} (C : Cx (YM b) X 4 cX11_does RX11 (some .boolean) rm_X11_does) (CR : CRi (YM b) X) (k311 : Int32 → Mem → Option (Int32 × Mem)) (hk311 : ∀ (l3 : Int32) (s : Mem), J (YM b) X 4 (k311 l3 s) 311 [(0, .ref (adX X 0)), (3, .int l3)] [] s) (n : Nat)  (l3 : Int32) (t0 : Int32) (t1 : Int32) (t2 : Int32) (s : Mem) : J (YM b) X 4 (b_X11_does_351 k311 n  l3 t0 t1 t2 s) 351 [(0, .ref (adX X 0)), (3, .int l3)] [.int t0, .int t1, .int t2, .ref (adX X 0)] s := by
  unfold b_X11_does_351
  refine j_callVn C (c_X11_to b n t2 t1 t0 s) cw_RX11_148 ⟨rfl, rfl, Nat.le_of_ble_eq_true rfl, Nat.le_of_ble_eq_true rfl⟩ 0 kX11 (km_0 b) (lm_0 b) [.int t2, .int t1, .int t0] [] rfl rfl rfl (Nat.le_of_ble_eq_true rfl) dX11_does_351 (fun s1 => ?_)
  refine j_iinc (L2 := fun x2 => [(0, .ref (adX X 0)), (3, .int x2)]) C dX11_does_354 1 rfl (by decide) [1, 0] (fun _ => rfl) (fun x2 => ?_)
  refine j_goto (tgt := 311) C dX11_does_357 (by decide) ?_
  exact hk311 x2 s1
set_option maxHeartbeats 4000000 in
theorem jb_X11_does_350 {b : Bool} {X : CtxT (Int32 × Mem)} (C : Cx (YM b) X 4 cX11_does RX11 (some .boolean) rm_X11_does) (CR : CRi (YM b) X) (k311 : Int32 → Mem → Option (Int32 × Mem)) (hk311 : ∀ (l3 : Int32) (s : Mem), J (YM b) X 4 (k311 l3 s) 311 [(0, .ref (adX X 0)), (3, .int l3)] [] s) (n : Nat)  (l3 : Int32) (t0 : Int32) (t1 : Int32) (s : Mem) : J (YM b) X 4 (b_X11_does_350 k311 n  l3 t0 t1 s) 350 [(0, .ref (adX X 0)), (3, .int l3)] [.int t0, .int t1, .ref (adX X 0)] s := by
  unfold b_X11_does_350
  refine j_iconst (v := (0 : Int32)) C dX11_does_350 (by decide) ?_
  exact jb_X11_does_351 C CR k311 hk311 n l3 (0 : Int32) t0 t1 s
set_option maxHeartbeats 4000000 in
theorem jb_X11_does_311 {b : Bool} {X : CtxT (Int32 × Mem)} (C : Cx (YM b) X 4 cX11_does RX11 (some .boolean) rm_X11_does) (CR : CRi (YM b) X)  (n : Nat) (k311 : Int32 → Mem → Option (Int32 × Mem)) (hk311 : ∀ (l3 : Int32) (s : Mem), J (YM b) X 4 (k311 l3 s) 311 [(0, .ref (adX X 0)), (3, .int l3)] [] s) (l3 : Int32) (s : Mem) : J (YM b) X 4 (b_X11_does_311  n k311 l3 s) 311 [(0, .ref (adX X 0)), (3, .int l3)] [] s := by
  unfold b_X11_does_311
  refine j_iload_n C dX11_does_311 1 rfl rfl ?_
  refine j_bipush (v := (8 : Int32)) C dX11_does_312 (by decide) ?_
  refine j_icmp_ge (tgt := 360) C dX11_does_314 (by decide) ?_ ?_
  · refine j_iconst (v := (1 : Int32)) C dX11_does_360 (by decide) ?_
    exact j_zret C CR dX11_does_361
  · refine j_aload_n C dX11_does_317 0 rfl rfl ?_
    refine j_iload_n C dX11_does_318 1 rfl rfl ?_
    refine j_iconst (v := (4 : Int32)) C dX11_does_319 (by decide) ?_
    refine j_aload_n C dX11_does_320 0 rfl rfl ?_
    refine j_getR (z := 18) C kX11 (km_0 b) (lm_0 b) 37 (by decide) tw_1230 (rm_37 b) rfl dX11_does_321 ?_
    refine j_iconst (v := (0 : Int32)) C dX11_does_324 (by decide) ?_
    refine j_iald C (km_18 b) (lm_18 b) dX11_does_325 ?_
    refine j_if_eq (tgt := 350) C dX11_does_326 (by decide) ?_ ?_
    · exact jb_X11_does_350 C CR k311 hk311 n l3 (4 : Int32) l3 s
    · refine j_iload_n C dX11_does_329 1 rfl rfl ?_
      refine j_aload_n C dX11_does_330 0 rfl rfl ?_
      refine j_get C kX11 (km_0 b) (lm_0 b) 34 (by decide) tw_1227 (rm_34 b) dX11_does_331 ?_
      refine j_icmp_eq (tgt := 350) C dX11_does_334 (by decide) ?_ ?_
      · exact jb_X11_does_350 C CR k311 hk311 n l3 (4 : Int32) l3 s
      · refine j_aload_n C dX11_does_337 0 rfl rfl ?_
        refine j_iload_n C dX11_does_338 1 rfl rfl ?_
        refine j_iconst (v := (0 : Int32)) C dX11_does_339 (by decide) ?_
        refine j_callVi C (c_X11_of b n l3 (0 : Int32) s) cw_RX11_158 ⟨rfl, rfl, Nat.le_of_ble_eq_true rfl, Nat.le_of_ble_eq_true rfl⟩ 0 kX11 (km_0 b) (lm_0 b) [.int l3, .int (0 : Int32)] [.int (4 : Int32), .int l3, .ref (adX X 0)] rfl rfl rfl (Nat.le_of_ble_eq_true rfl) dX11_does_340 (fun x2 s1 => ?_)
        refine j_if_eq (tgt := 350) C dX11_does_343 (by decide) ?_ ?_
        · exact jb_X11_does_350 C CR k311 hk311 n l3 (4 : Int32) l3 s1
        · refine j_iconst (v := (1 : Int32)) C dX11_does_346 (by decide) ?_
          refine j_goto (tgt := 351) C dX11_does_347 (by decide) ?_
          exact jb_X11_does_351 C CR k311 hk311 n l3 (1 : Int32) (4 : Int32) l3 s1
theorem lb_X11_does_311 {b : Bool} {X : CtxT (Int32 × Mem)} (C : Cx (YM b) X 4 cX11_does RX11 (some .boolean) rm_X11_does) (CR : CRi (YM b) X)  : ∀ (n : Nat) (l3 : Int32) (s : Mem), J (YM b) X 4 (itr1 (b_X11_does_311) n l3 s) 311 [(0, .ref (adX X 0)), (3, .int l3)] [] s := by
  intro n
  induction n with
  | zero => intros; exact j_none
  | succ n ih =>
    intro l3 s
    exact jb_X11_does_311 C CR  n _ ih l3 s
set_option maxHeartbeats 4000000 in
theorem jb_X11_does_403 {b : Bool} {X : CtxT (Int32 × Mem)} (C : Cx (YM b) X 4 cX11_does RX11 (some .boolean) rm_X11_does) (CR : CRi (YM b) X)  (n : Nat)   (s : Mem) : J (YM b) X 4 (b_X11_does_403  n   s) 403 [] [] s := by
  unfold b_X11_does_403
  refine j_iconst (v := (1 : Int32)) C dX11_does_403 (by decide) ?_
  exact j_zret C CR dX11_does_404
set_option maxHeartbeats 4000000 in
theorem jb_X11_does_367 {b : Bool} {X : CtxT (Int32 × Mem)} (C : Cx (YM b) X 4 cX11_does RX11 (some .boolean) rm_X11_does) (CR : CRi (YM b) X)  (n : Nat)  (l1 : Int32) (s : Mem) : J (YM b) X 4 (b_X11_does_367  n  l1 s) 367 [(0, .ref (adX X 0)), (1, .int l1)] [] s := by
  unfold b_X11_does_367
  refine j_iload_n C dX11_does_367 1 rfl rfl ?_
  refine j_i2l C dX11_does_368 ?_
  refine j_ldc2 (v := 13) C tw_1498 dX11_does_369 ?_
  refine j_ldc2 (v := 21) C tw_1499 dX11_does_372 ?_
  refine j_callSi C (c_X11_in b n l1.toInt64 (13 : Int64) (21 : Int64) s) cw_RX11_72 ⟨rfl, rfl, Nat.le_of_ble_eq_true rfl, Nat.le_of_ble_eq_true rfl⟩ [.long l1.toInt64, .long (13 : Int64), .long (21 : Int64)] [] rfl rfl rfl (Nat.le_of_ble_eq_true rfl) dX11_does_375 (fun x2 s1 => ?_)
  refine j_if_eq (tgt := 389) C dX11_does_378 (by decide) ?_ ?_
  · refine j_aload_n C dX11_does_389 0 rfl rfl ?_
    refine j_getR (z := 15) C kX11 (km_0 b) (lm_0 b) 27 (by decide) tw_1220 (rm_27 b) rfl dX11_does_390 ?_
    refine j_aload_n C dX11_does_393 0 rfl rfl ?_
    refine j_get C kX11 (km_0 b) (lm_0 b) 38 (by decide) tw_1231 (rm_38 b) dX11_does_394 ?_
    refine j_aload_n C dX11_does_397 0 rfl rfl ?_
    refine j_iload_n C dX11_does_398 1 rfl rfl ?_
    refine j_callVi C (c_X11_answer b n l1 s1) cw_RX11_315 ⟨rfl, rfl, Nat.le_of_ble_eq_true rfl, Nat.le_of_ble_eq_true rfl⟩ 0 kX11 (km_0 b) (lm_0 b) [.int l1] [.int (s1 0 38), .ref (adX X 15)] rfl rfl rfl (Nat.le_of_ble_eq_true rfl) dX11_does_399 (fun x4 s3 => ?_)
    refine j_iast C (km_15 b) (lm_15 b) dX11_does_402 (fun s5 => ?_)
    refine j_sub (L' := []) [] rfl ?_
    exact jb_X11_does_403 C CR  n s5
  · refine j_aload_n C dX11_does_381 0 rfl rfl ?_
    refine j_iload_n C dX11_does_382 1 rfl rfl ?_
    refine j_callVn C (c_X11_acts b n l1 s1) cw_RX11_312 ⟨rfl, rfl, Nat.le_of_ble_eq_true rfl, Nat.le_of_ble_eq_true rfl⟩ 0 kX11 (km_0 b) (lm_0 b) [.int l1] [] rfl rfl rfl (Nat.le_of_ble_eq_true rfl) dX11_does_383 (fun s6 => ?_)
    refine j_goto (tgt := 403) C dX11_does_386 (by decide) ?_
    refine j_sub (L' := []) [] rfl ?_
    exact jb_X11_does_403 C CR  n s6
set_option maxHeartbeats 4000000 in
theorem c_X11_does (b : Bool) (n : Nat) (l1 : Int32) (s : Mem) : CTi (YM b) yX11_does cX11_does 4 (some .boolean) rm_X11_does (fun ad => [.ref (ad 0), .int l1]) s (f_X11_does n l1 s) := by
  refine CTi_of (by decide) (fun _ => Nat.le_of_ble_eq_true rfl) (fun X C CR => ?_)
  show J (YM b) X 4 (f_X11_does n l1 s) 0 [(0, .ref (adX X 0)), (1, .int l1)] [] s
  unfold f_X11_does
  refine j_iload_n C dX11_does_0 1 rfl rfl ?_
  refine j_ite (fun hc => ?_) (fun hc0 => ?_)
  · refine j_tswI (off := 151) (tgt := 152) C dX11_does_1 (by rw [hc]; decide) (by rw [hc]; decide) (by rw [hc]; rfl) (by decide) ?_
    refine j_aload_n C dX11_does_152 0 rfl rfl ?_
    refine j_aload_n C dX11_does_153 0 rfl rfl ?_
    refine j_get C kX11 (km_0 b) (lm_0 b) 34 (by decide) tw_1227 (rm_34 b) dX11_does_154 ?_
    refine j_callVn C (c_X11_frees b n (s 0 34) s) cw_RX11_161 ⟨rfl, rfl, Nat.le_of_ble_eq_true rfl, Nat.le_of_ble_eq_true rfl⟩ 0 kX11 (km_0 b) (lm_0 b) [.int (s 0 34)] [] rfl rfl rfl (Nat.le_of_ble_eq_true rfl) dX11_does_157 (fun s1 => ?_)
    refine j_iconst (v := (0 : Int32)) C dX11_does_160 (by decide) ?_
    exact j_zret C CR dX11_does_161
  refine j_ite (fun hc => ?_) (fun hc1 => ?_)
  · refine j_tswI (off := 161) (tgt := 162) C dX11_does_1 (by rw [hc]; decide) (by rw [hc]; decide) (by rw [hc]; rfl) (by decide) ?_
    refine j_iconst (v := (0 : Int32)) C dX11_does_162 (by decide) ?_
    exact j_zret C CR dX11_does_163
  refine j_ite (fun hc => ?_) (fun hc2 => ?_)
  · refine j_tswI (off := 163) (tgt := 164) C dX11_does_1 (by rw [hc]; decide) (by rw [hc]; decide) (by rw [hc]; rfl) (by decide) ?_
    refine j_aload_n C dX11_does_164 0 rfl rfl ?_
    refine j_aload_n C dX11_does_165 0 rfl rfl ?_
    refine j_get C kX11 (km_0 b) (lm_0 b) 34 (by decide) tw_1227 (rm_34 b) dX11_does_166 ?_
    refine j_iconst (v := (1 : Int32)) C dX11_does_169 (by decide) ?_
    refine j_aload_n C dX11_does_170 0 rfl rfl ?_
    refine j_get C kX11 (km_0 b) (lm_0 b) 39 (by decide) tw_1232 (rm_39 b) dX11_does_171 ?_
    refine j_callVn C (c_X11_to b n (s 0 34) (1 : Int32) (s 0 39) s) cw_RX11_148 ⟨rfl, rfl, Nat.le_of_ble_eq_true rfl, Nat.le_of_ble_eq_true rfl⟩ 0 kX11 (km_0 b) (lm_0 b) [.int (s 0 34), .int (1 : Int32), .int (s 0 39)] [] rfl rfl rfl (Nat.le_of_ble_eq_true rfl) dX11_does_174 (fun s2 => ?_)
    refine j_iconst (v := (1 : Int32)) C dX11_does_177 (by decide) ?_
    exact j_zret C CR dX11_does_178
  refine j_ite (fun hc => ?_) (fun hc3 => ?_)
  · refine j_tswI (off := 366) (tgt := 367) C dX11_does_1 (by rw [hc]; decide) (by rw [hc]; decide) (by rw [hc]; rfl) (by decide) ?_
    exact jb_X11_does_367 C CR  n l1 s
  refine j_ite (fun hc => ?_) (fun hc4 => ?_)
  · refine j_tswI (off := 366) (tgt := 367) C dX11_does_1 (by rw [hc]; decide) (by rw [hc]; decide) (by rw [hc]; rfl) (by decide) ?_
    exact jb_X11_does_367 C CR  n l1 s
  refine j_ite (fun hc => ?_) (fun hc5 => ?_)
  · refine j_tswI (off := 366) (tgt := 367) C dX11_does_1 (by rw [hc]; decide) (by rw [hc]; decide) (by rw [hc]; rfl) (by decide) ?_
    exact jb_X11_does_367 C CR  n l1 s
  refine j_ite (fun hc => ?_) (fun hc6 => ?_)
  · refine j_tswI (off := 366) (tgt := 367) C dX11_does_1 (by rw [hc]; decide) (by rw [hc]; decide) (by rw [hc]; rfl) (by decide) ?_
    exact jb_X11_does_367 C CR  n l1 s
  refine j_ite (fun hc => ?_) (fun hc7 => ?_)
  · refine j_tswI (off := 366) (tgt := 367) C dX11_does_1 (by rw [hc]; decide) (by rw [hc]; decide) (by rw [hc]; rfl) (by decide) ?_
    exact jb_X11_does_367 C CR  n l1 s
  refine j_ite (fun hc => ?_) (fun hc8 => ?_)
  · refine j_tswI (off := 178) (tgt := 179) C dX11_does_1 (by rw [hc]; decide) (by rw [hc]; decide) (by rw [hc]; rfl) (by decide) ?_
    refine j_aload_n C dX11_does_179 0 rfl rfl ?_
    refine j_aload_n C dX11_does_180 0 rfl rfl ?_
    refine j_get C kX11 (km_0 b) (lm_0 b) 34 (by decide) tw_1227 (rm_34 b) dX11_does_181 ?_
    refine j_iconst (v := (1 : Int32)) C dX11_does_184 (by decide) ?_
    refine j_aload_n C dX11_does_185 0 rfl rfl ?_
    refine j_getR (z := 18) C kX11 (km_0 b) (lm_0 b) 37 (by decide) tw_1230 (rm_37 b) rfl dX11_does_186 ?_
    refine j_iconst (v := (0 : Int32)) C dX11_does_189 (by decide) ?_
    refine j_iald C (km_18 b) (lm_18 b) dX11_does_190 ?_
    refine j_aload_n C dX11_does_191 0 rfl rfl ?_
    refine j_getR (z := 18) C kX11 (km_0 b) (lm_0 b) 37 (by decide) tw_1230 (rm_37 b) rfl dX11_does_192 ?_
    refine j_iconst (v := (1 : Int32)) C dX11_does_195 (by decide) ?_
    refine j_iald C (km_18 b) (lm_18 b) dX11_does_196 ?_
    refine j_icmp_ne (tgt := 207) C dX11_does_197 (by decide) ?_ ?_
    · refine j_aload_n C dX11_does_207 0 rfl rfl ?_
      refine j_get C kX11 (km_0 b) (lm_0 b) 36 (by decide) tw_1229 (rm_36 b) dX11_does_208 ?_
      refine j_sub (L' := []) [] rfl ?_
      exact jb_X11_does_211 C CR  n (s 0 36) (1 : Int32) (s 0 34) s
    · refine j_aload_n C dX11_does_200 0 rfl rfl ?_
      refine j_get C kX11 (km_0 b) (lm_0 b) 39 (by decide) tw_1232 (rm_39 b) dX11_does_201 ?_
      refine j_goto (tgt := 211) C dX11_does_204 (by decide) ?_
      refine j_sub (L' := []) [] rfl ?_
      exact jb_X11_does_211 C CR  n (s 0 39) (1 : Int32) (s 0 34) s
  refine j_ite (fun hc => ?_) (fun hc9 => ?_)
  · refine j_tswI (off := 215) (tgt := 216) C dX11_does_1 (by rw [hc]; decide) (by rw [hc]; decide) (by rw [hc]; rfl) (by decide) ?_
    refine j_aload_n C dX11_does_216 0 rfl rfl ?_
    refine j_aload_n C dX11_does_217 0 rfl rfl ?_
    refine j_get C kX11 (km_0 b) (lm_0 b) 34 (by decide) tw_1227 (rm_34 b) dX11_does_218 ?_
    refine j_iconst (v := (1 : Int32)) C dX11_does_221 (by decide) ?_
    refine j_aload_n C dX11_does_222 0 rfl rfl ?_
    refine j_getR (z := 18) C kX11 (km_0 b) (lm_0 b) 37 (by decide) tw_1230 (rm_37 b) rfl dX11_does_223 ?_
    refine j_iconst (v := (0 : Int32)) C dX11_does_226 (by decide) ?_
    refine j_iald C (km_18 b) (lm_18 b) dX11_does_227 ?_
    refine j_aload_n C dX11_does_228 0 rfl rfl ?_
    refine j_getR (z := 18) C kX11 (km_0 b) (lm_0 b) 37 (by decide) tw_1230 (rm_37 b) rfl dX11_does_229 ?_
    refine j_iconst (v := (1 : Int32)) C dX11_does_232 (by decide) ?_
    refine j_iald C (km_18 b) (lm_18 b) dX11_does_233 ?_
    refine j_icmp_ge (tgt := 244) C dX11_does_234 (by decide) ?_ ?_
    · refine j_aload_n C dX11_does_244 0 rfl rfl ?_
      refine j_get C kX11 (km_0 b) (lm_0 b) 36 (by decide) tw_1229 (rm_36 b) dX11_does_245 ?_
      refine j_sub (L' := []) [] rfl ?_
      exact jb_X11_does_248 C CR  n (s 0 36) (1 : Int32) (s 0 34) s
    · refine j_aload_n C dX11_does_237 0 rfl rfl ?_
      refine j_get C kX11 (km_0 b) (lm_0 b) 39 (by decide) tw_1232 (rm_39 b) dX11_does_238 ?_
      refine j_goto (tgt := 248) C dX11_does_241 (by decide) ?_
      refine j_sub (L' := []) [] rfl ?_
      exact jb_X11_does_248 C CR  n (s 0 39) (1 : Int32) (s 0 34) s
  refine j_ite (fun hc => ?_) (fun hc10 => ?_)
  · refine j_tswI (off := 252) (tgt := 253) C dX11_does_1 (by rw [hc]; decide) (by rw [hc]; decide) (by rw [hc]; rfl) (by decide) ?_
    refine j_aload_n C dX11_does_253 0 rfl rfl ?_
    refine j_aload_n C dX11_does_254 0 rfl rfl ?_
    refine j_get C kX11 (km_0 b) (lm_0 b) 34 (by decide) tw_1227 (rm_34 b) dX11_does_255 ?_
    refine j_iconst (v := (2 : Int32)) C dX11_does_258 (by decide) ?_
    refine j_iconst (v := (0 : Int32)) C dX11_does_259 (by decide) ?_
    refine j_aload_n C dX11_does_260 0 rfl rfl ?_
    refine j_getR (z := 18) C kX11 (km_0 b) (lm_0 b) 37 (by decide) tw_1230 (rm_37 b) rfl dX11_does_261 ?_
    refine j_iconst (v := (0 : Int32)) C dX11_does_264 (by decide) ?_
    refine j_iald C (km_18 b) (lm_18 b) dX11_does_265 ?_
    refine j_mmax C cw_RX11_172 ⟨Nat.le_of_ble_eq_true rfl, Nat.le_of_ble_eq_true rfl⟩ (Nat.le_of_ble_eq_true rfl) dX11_does_266 ?_
    refine j_callVn C (c_X11_to b n (s 0 34) (2 : Int32) (if (0 : Int32) < (s 18 (0 : Int32).toNatClampNeg) then (s 18 (0 : Int32).toNatClampNeg) else (0 : Int32)) s) cw_RX11_148 ⟨rfl, rfl, Nat.le_of_ble_eq_true rfl, Nat.le_of_ble_eq_true rfl⟩ 0 kX11 (km_0 b) (lm_0 b) [.int (s 0 34), .int (2 : Int32), .int (if (0 : Int32) < (s 18 (0 : Int32).toNatClampNeg) then (s 18 (0 : Int32).toNatClampNeg) else (0 : Int32))] [] rfl rfl rfl (Nat.le_of_ble_eq_true rfl) dX11_does_269 (fun s3 => ?_)
    refine j_iconst (v := (0 : Int32)) C dX11_does_272 (by decide) ?_
    exact j_zret C CR dX11_does_273
  refine j_ite (fun hc => ?_) (fun hc11 => ?_)
  · refine j_tswI (off := 273) (tgt := 274) C dX11_does_1 (by rw [hc]; decide) (by rw [hc]; decide) (by rw [hc]; rfl) (by decide) ?_
    refine j_aload_n C dX11_does_274 0 rfl rfl ?_
    refine j_aload_n C dX11_does_275 0 rfl rfl ?_
    refine j_getR (z := 18) C kX11 (km_0 b) (lm_0 b) 37 (by decide) tw_1230 (rm_37 b) rfl dX11_does_276 ?_
    refine j_iconst (v := (0 : Int32)) C dX11_does_279 (by decide) ?_
    refine j_iald C (km_18 b) (lm_18 b) dX11_does_280 ?_
    refine j_callVi C (c_X11_started b n (s 18 (0 : Int32).toNatClampNeg) s) cw_RX11_298 ⟨rfl, rfl, Nat.le_of_ble_eq_true rfl, Nat.le_of_ble_eq_true rfl⟩ 0 kX11 (km_0 b) (lm_0 b) [.int (s 18 (0 : Int32).toNatClampNeg)] [] rfl rfl rfl (Nat.le_of_ble_eq_true rfl) dX11_does_281 (fun x5 s4 => ?_)
    refine j_istore_n (L' := [(0, .ref (adX X 0)), (1, .int l1), (2, .int x5)]) C dX11_does_284 rfl (by decide) [1, 2, 0] rfl ?_
    refine j_iconst (v := (1 : Int32)) C dX11_does_285 (by decide) ?_
    exact j_zret C CR dX11_does_286
  refine j_ite (fun hc => ?_) (fun hc12 => ?_)
  · refine j_tswI (off := 286) (tgt := 287) C dX11_does_1 (by rw [hc]; decide) (by rw [hc]; decide) (by rw [hc]; rfl) (by decide) ?_
    refine j_aload_n C dX11_does_287 0 rfl rfl ?_
    refine j_callVi C (c_X11_stops b n  s) cw_RX11_301 ⟨rfl, rfl, Nat.le_of_ble_eq_true rfl, Nat.le_of_ble_eq_true rfl⟩ 0 kX11 (km_0 b) (lm_0 b) [] [] rfl rfl rfl (Nat.le_of_ble_eq_true rfl) dX11_does_288 (fun x7 s6 => ?_)
    exact j_zret C CR dX11_does_291
  refine j_ite (fun hc => ?_) (fun hc13 => ?_)
  · refine j_tswI (off := 366) (tgt := 367) C dX11_does_1 (by rw [hc]; decide) (by rw [hc]; decide) (by rw [hc]; rfl) (by decide) ?_
    exact jb_X11_does_367 C CR  n l1 s
  refine j_ite (fun hc => ?_) (fun hc14 => ?_)
  · refine j_tswI (off := 366) (tgt := 367) C dX11_does_1 (by rw [hc]; decide) (by rw [hc]; decide) (by rw [hc]; rfl) (by decide) ?_
    exact jb_X11_does_367 C CR  n l1 s
  refine j_ite (fun hc => ?_) (fun hc15 => ?_)
  · refine j_tswI (off := 291) (tgt := 292) C dX11_does_1 (by rw [hc]; decide) (by rw [hc]; decide) (by rw [hc]; rfl) (by decide) ?_
    refine j_aload_n C dX11_does_292 0 rfl rfl ?_
    refine j_aload_n C dX11_does_293 0 rfl rfl ?_
    refine j_get C kX11 (km_0 b) (lm_0 b) 34 (by decide) tw_1227 (rm_34 b) dX11_does_294 ?_
    refine j_iconst (v := (3 : Int32)) C dX11_does_297 (by decide) ?_
    refine j_aload_n C dX11_does_298 0 rfl rfl ?_
    refine j_getR (z := 18) C kX11 (km_0 b) (lm_0 b) 37 (by decide) tw_1230 (rm_37 b) rfl dX11_does_299 ?_
    refine j_iconst (v := (0 : Int32)) C dX11_does_302 (by decide) ?_
    refine j_iald C (km_18 b) (lm_18 b) dX11_does_303 ?_
    refine j_callVn C (c_X11_to b n (s 0 34) (3 : Int32) (s 18 (0 : Int32).toNatClampNeg) s) cw_RX11_148 ⟨rfl, rfl, Nat.le_of_ble_eq_true rfl, Nat.le_of_ble_eq_true rfl⟩ 0 kX11 (km_0 b) (lm_0 b) [.int (s 0 34), .int (3 : Int32), .int (s 18 (0 : Int32).toNatClampNeg)] [] rfl rfl rfl (Nat.le_of_ble_eq_true rfl) dX11_does_304 (fun s8 => ?_)
    refine j_iconst (v := (0 : Int32)) C dX11_does_307 (by decide) ?_
    exact j_zret C CR dX11_does_308
  refine j_ite (fun hc => ?_) (fun hc16 => ?_)
  · refine j_tswI (off := 366) (tgt := 367) C dX11_does_1 (by rw [hc]; decide) (by rw [hc]; decide) (by rw [hc]; rfl) (by decide) ?_
    exact jb_X11_does_367 C CR  n l1 s
  refine j_ite (fun hc => ?_) (fun hc17 => ?_)
  · refine j_tswI (off := 366) (tgt := 367) C dX11_does_1 (by rw [hc]; decide) (by rw [hc]; decide) (by rw [hc]; rfl) (by decide) ?_
    exact jb_X11_does_367 C CR  n l1 s
  refine j_ite (fun hc => ?_) (fun hc18 => ?_)
  · refine j_tswI (off := 366) (tgt := 367) C dX11_does_1 (by rw [hc]; decide) (by rw [hc]; decide) (by rw [hc]; rfl) (by decide) ?_
    exact jb_X11_does_367 C CR  n l1 s
  refine j_ite (fun hc => ?_) (fun hc19 => ?_)
  · refine j_tswI (off := 366) (tgt := 367) C dX11_does_1 (by rw [hc]; decide) (by rw [hc]; decide) (by rw [hc]; rfl) (by decide) ?_
    exact jb_X11_does_367 C CR  n l1 s
  refine j_ite (fun hc => ?_) (fun hc20 => ?_)
  · refine j_tswI (off := 366) (tgt := 367) C dX11_does_1 (by rw [hc]; decide) (by rw [hc]; decide) (by rw [hc]; rfl) (by decide) ?_
    exact jb_X11_does_367 C CR  n l1 s
  refine j_ite (fun hc => ?_) (fun hc21 => ?_)
  · refine j_tswI (off := 366) (tgt := 367) C dX11_does_1 (by rw [hc]; decide) (by rw [hc]; decide) (by rw [hc]; rfl) (by decide) ?_
    exact jb_X11_does_367 C CR  n l1 s
  refine j_ite (fun hc => ?_) (fun hc22 => ?_)
  · refine j_tswI (off := 308) (tgt := 309) C dX11_does_1 (by rw [hc]; decide) (by rw [hc]; decide) (by rw [hc]; rfl) (by decide) ?_
    refine j_iconst (v := (0 : Int32)) C dX11_does_309 (by decide) ?_
    refine j_istore_n (L' := [(0, .ref (adX X 0)), (1, .int l1), (3, .int (0 : Int32))]) C dX11_does_310 rfl (by decide) [1, 2, 0] rfl ?_
    refine j_sub (L' := [(0, .ref (adX X 0)), (3, .int (0 : Int32))]) [0, 2] rfl ?_
    exact lb_X11_does_311 C CR  n (0 : Int32) s
  refine j_ite (fun hc => ?_) (fun hc23 => ?_)
  · refine j_tswI (off := 366) (tgt := 367) C dX11_does_1 (by rw [hc]; decide) (by rw [hc]; decide) (by rw [hc]; rfl) (by decide) ?_
    exact jb_X11_does_367 C CR  n l1 s
  refine j_ite (fun hc => ?_) (fun hc24 => ?_)
  · refine j_tswI (off := 366) (tgt := 367) C dX11_does_1 (by rw [hc]; decide) (by rw [hc]; decide) (by rw [hc]; rfl) (by decide) ?_
    exact jb_X11_does_367 C CR  n l1 s
  refine j_ite (fun hc => ?_) (fun hc25 => ?_)
  · refine j_tswI (off := 366) (tgt := 367) C dX11_does_1 (by rw [hc]; decide) (by rw [hc]; decide) (by rw [hc]; rfl) (by decide) ?_
    exact jb_X11_does_367 C CR  n l1 s
  refine j_ite (fun hc => ?_) (fun hc26 => ?_)
  · refine j_tswI (off := 366) (tgt := 367) C dX11_does_1 (by rw [hc]; decide) (by rw [hc]; decide) (by rw [hc]; rfl) (by decide) ?_
    exact jb_X11_does_367 C CR  n l1 s
  refine j_ite (fun hc => ?_) (fun hc27 => ?_)
  · refine j_tswI (off := 366) (tgt := 367) C dX11_does_1 (by rw [hc]; decide) (by rw [hc]; decide) (by rw [hc]; rfl) (by decide) ?_
    exact jb_X11_does_367 C CR  n l1 s
  refine j_ite (fun hc => ?_) (fun hc28 => ?_)
  · refine j_tswI (off := 366) (tgt := 367) C dX11_does_1 (by rw [hc]; decide) (by rw [hc]; decide) (by rw [hc]; rfl) (by decide) ?_
    exact jb_X11_does_367 C CR  n l1 s
  refine j_ite (fun hc => ?_) (fun hc29 => ?_)
  · refine j_tswI (off := 366) (tgt := 367) C dX11_does_1 (by rw [hc]; decide) (by rw [hc]; decide) (by rw [hc]; rfl) (by decide) ?_
    exact jb_X11_does_367 C CR  n l1 s
  refine j_ite (fun hc => ?_) (fun hc30 => ?_)
  · refine j_tswI (off := 366) (tgt := 367) C dX11_does_1 (by rw [hc]; decide) (by rw [hc]; decide) (by rw [hc]; rfl) (by decide) ?_
    exact jb_X11_does_367 C CR  n l1 s
  refine j_ite (fun hc => ?_) (fun hc31 => ?_)
  · refine j_tswI (off := 366) (tgt := 367) C dX11_does_1 (by rw [hc]; decide) (by rw [hc]; decide) (by rw [hc]; rfl) (by decide) ?_
    exact jb_X11_does_367 C CR  n l1 s
  refine j_ite (fun hc => ?_) (fun hc32 => ?_)
  · refine j_tswI (off := 366) (tgt := 367) C dX11_does_1 (by rw [hc]; decide) (by rw [hc]; decide) (by rw [hc]; rfl) (by decide) ?_
    exact jb_X11_does_367 C CR  n l1 s
  refine j_ite (fun hc => ?_) (fun hc33 => ?_)
  · refine j_tswI (off := 361) (tgt := 362) C dX11_does_1 (by rw [hc]; decide) (by rw [hc]; decide) (by rw [hc]; rfl) (by decide) ?_
    refine j_aload_n C dX11_does_362 0 rfl rfl ?_
    refine j_callVi C (c_X11_changes b n  s) cw_RX11_305 ⟨rfl, rfl, Nat.le_of_ble_eq_true rfl, Nat.le_of_ble_eq_true rfl⟩ 0 kX11 (km_0 b) (lm_0 b) [] [] rfl rfl rfl (Nat.le_of_ble_eq_true rfl) dX11_does_363 (fun x10 s9 => ?_)
    exact j_zret C CR dX11_does_366
  refine j_tswO (tgt := 367) C dX11_does_1 (by omega) (by decide) ?_
  exact jb_X11_does_367 C CR  n l1 s
set_option maxHeartbeats 4000000 in
theorem jb_X11_turn_24 {b : Bool} {X : CtxT (Int32 × Mem)} (C : Cx (YM b) X 5 cX11_turn RX11 (some .int) rm_X11_turn) (CR : CRi (YM b) X)  (n : Nat)   (s : Mem) : J (YM b) X 5 (b_X11_turn_24  n   s) 24 [] [] s := by
  unfold b_X11_turn_24
  refine j_iconst (v := (0 : Int32)) C dX11_turn_24 (by decide) ?_
  exact j_iret C CR dX11_turn_25
set_option maxHeartbeats 4000000 in
theorem jb_X11_turn_158 {b : Bool} {X : CtxT (Int32 × Mem)} (C : Cx (YM b) X 5 cX11_turn RX11 (some .int) rm_X11_turn) (CR : CRi (YM b) X)  (n : Nat)  (l1 : Int32) (l2 : Int32) (s : Mem) : J (YM b) X 5 (b_X11_turn_158  n  l1 l2 s) 158 [(0, .ref (adX X 0)), (1, .int l1), (2, .int l2)] [] s := by
  unfold b_X11_turn_158
  refine j_aload_n C dX11_turn_158 0 rfl rfl ?_
  refine j_iload_n C dX11_turn_159 1 rfl rfl ?_
  refine j_callVn C (c_X11_frees b n l1 s) cw_RX11_161 ⟨rfl, rfl, Nat.le_of_ble_eq_true rfl, Nat.le_of_ble_eq_true rfl⟩ 0 kX11 (km_0 b) (lm_0 b) [.int l1] [] rfl rfl rfl (Nat.le_of_ble_eq_true rfl) dX11_turn_160 (fun s1 => ?_)
  refine j_aload_n C dX11_turn_163 0 rfl rfl ?_
  refine j_getR (z := 15) C kX11 (km_0 b) (lm_0 b) 27 (by decide) tw_1220 (rm_27 b) rfl dX11_turn_164 ?_
  refine j_iconst (v := (3 : Int32)) C dX11_turn_167 (by decide) ?_
  refine j_dup2 C dX11_turn_168 rfl rfl ?_
  refine j_iald C (km_15 b) (lm_15 b) dX11_turn_169 ?_
  refine j_iconst (v := (1 : Int32)) C dX11_turn_170 (by decide) ?_
  refine j_iadd C dX11_turn_171 ?_
  refine j_iast C (km_15 b) (lm_15 b) dX11_turn_172 (fun s2 => ?_)
  refine j_iload_n C dX11_turn_173 2 rfl rfl ?_
  exact j_iret C CR dX11_turn_174
set_option maxHeartbeats 4000000 in
theorem jb_X11_turn_142 {b : Bool} {X : CtxT (Int32 × Mem)} (C : Cx (YM b) X 5 cX11_turn RX11 (some .int) rm_X11_turn) (CR : CRi (YM b) X) (k97 : Int32 → Int32 → Int32 → Mem → Option (Int32 × Mem)) (hk97 : ∀ (l1 : Int32) (l2 : Int32) (l3 : Int32) (s : Mem), J (YM b) X 5 (k97 l1 l2 l3 s) 97 [(0, .ref (adX X 0)), (1, .int l1), (2, .int l2), (3, .int l3)] [] s) (n : Nat)  (l1 : Int32) (l2 : Int32) (l4 : Int32) (s : Mem) : J (YM b) X 5 (b_X11_turn_142 k97 n  l1 l2 l4 s) 142 [(0, .ref (adX X 0)), (1, .int l1), (2, .int l2), (4, .int l4)] [] s := by
  unfold b_X11_turn_142
  refine j_aload_n C dX11_turn_142 0 rfl rfl ?_
  refine j_get C kX11 (km_0 b) (lm_0 b) 35 (by decide) tw_1228 (rm_35 b) dX11_turn_143 ?_
  refine j_if_ne (tgt := 158) C dX11_turn_146 (by decide) ?_ ?_
  · refine j_sub (L' := [(0, .ref (adX X 0)), (1, .int l1), (2, .int l2)]) [0, 1, 2] rfl ?_
    exact jb_X11_turn_158 C CR  n l1 l2 s
  · refine j_aload_n C dX11_turn_149 0 rfl rfl ?_
    refine j_iload C dX11_turn_150 3 rfl ?_
    refine j_callVi C (c_X11_may b n l4 s) cw_RX11_334 ⟨rfl, rfl, Nat.le_of_ble_eq_true rfl, Nat.le_of_ble_eq_true rfl⟩ 0 kX11 (km_0 b) (lm_0 b) [.int l4] [] rfl rfl rfl (Nat.le_of_ble_eq_true rfl) dX11_turn_152 (fun x2 s1 => ?_)
    refine j_if_ne (tgt := 175) C dX11_turn_155 (by decide) ?_ ?_
    · refine j_aload_n C dX11_turn_175 0 rfl rfl ?_
      refine j_iload_n C dX11_turn_176 1 rfl rfl ?_
      refine j_iconst (v := (1 : Int32)) C dX11_turn_177 (by decide) ?_
      refine j_aload_n C dX11_turn_178 0 rfl rfl ?_
      refine j_get C kX11 (km_0 b) (lm_0 b) 36 (by decide) tw_1229 (rm_36 b) dX11_turn_179 ?_
      refine j_callVn C (c_X11_to b n l1 (1 : Int32) (s1 0 36) s1) cw_RX11_148 ⟨rfl, rfl, Nat.le_of_ble_eq_true rfl, Nat.le_of_ble_eq_true rfl⟩ 0 kX11 (km_0 b) (lm_0 b) [.int l1, .int (1 : Int32), .int (s1 0 36)] [] rfl rfl rfl (Nat.le_of_ble_eq_true rfl) dX11_turn_182 (fun s3 => ?_)
      refine j_aload_n C dX11_turn_185 0 rfl rfl ?_
      refine j_iload C dX11_turn_186 3 rfl ?_
      refine j_callVi C (c_X11_does b n l4 s3) cw_RX11_337 ⟨rfl, rfl, Nat.le_of_ble_eq_true rfl, Nat.le_of_ble_eq_true rfl⟩ 0 kX11 (km_0 b) (lm_0 b) [.int l4] [] rfl rfl rfl (Nat.le_of_ble_eq_true rfl) dX11_turn_188 (fun x5 s4 => ?_)
      refine j_istore_n (L' := [(0, .ref (adX X 0)), (1, .int l1), (2, .int l2), (3, .int x5), (4, .int l4)]) C dX11_turn_191 rfl (by decide) [1, 2, 3, 0, 4] rfl ?_
      refine j_iinc (L2 := fun x6 => [(0, .ref (adX X 0)), (1, .int l1), (2, .int x6), (3, .int x5), (4, .int l4)]) C dX11_turn_192 2 rfl (by decide) [1, 2, 0, 3, 4] (fun _ => rfl) (fun x6 => ?_)
      refine j_goto (tgt := 97) C dX11_turn_195 (by decide) ?_
      refine j_sub (L' := [(0, .ref (adX X 0)), (1, .int l1), (2, .int x6), (3, .int x5)]) [0, 1, 2, 3] rfl ?_
      exact hk97 l1 x6 x5 s4
    · refine j_sub (L' := [(0, .ref (adX X 0)), (1, .int l1), (2, .int l2)]) [0, 1, 2] rfl ?_
      exact jb_X11_turn_158 C CR  n l1 l2 s1
set_option maxHeartbeats 4000000 in
theorem jb_X11_turn_198 {b : Bool} {X : CtxT (Int32 × Mem)} (C : Cx (YM b) X 5 cX11_turn RX11 (some .int) rm_X11_turn) (CR : CRi (YM b) X)  (n : Nat)  (l2 : Int32) (s : Mem) : J (YM b) X 5 (b_X11_turn_198  n  l2 s) 198 [(2, .int l2)] [] s := by
  unfold b_X11_turn_198
  refine j_iload_n C dX11_turn_198 0 rfl rfl ?_
  exact j_iret C CR dX11_turn_199
set_option maxHeartbeats 4000000 in
theorem jb_X11_turn_97 {b : Bool} {X : CtxT (Int32 × Mem)} (C : Cx (YM b) X 5 cX11_turn RX11 (some .int) rm_X11_turn) (CR : CRi (YM b) X)  (n : Nat) (k97 : Int32 → Int32 → Int32 → Mem → Option (Int32 × Mem)) (hk97 : ∀ (l1 : Int32) (l2 : Int32) (l3 : Int32) (s : Mem), J (YM b) X 5 (k97 l1 l2 l3 s) 97 [(0, .ref (adX X 0)), (1, .int l1), (2, .int l2), (3, .int l3)] [] s) (l1 : Int32) (l2 : Int32) (l3 : Int32) (s : Mem) : J (YM b) X 5 (b_X11_turn_97  n k97 l1 l2 l3 s) 97 [(0, .ref (adX X 0)), (1, .int l1), (2, .int l2), (3, .int l3)] [] s := by
  unfold b_X11_turn_97
  refine j_iload_n C dX11_turn_97 3 rfl rfl ?_
  refine j_if_eq (tgt := 198) C dX11_turn_98 (by decide) ?_ ?_
  · refine j_sub (L' := [(2, .int l2)]) [2] rfl ?_
    exact jb_X11_turn_198 C CR  n l2 s
  · refine j_iload_n C dX11_turn_101 2 rfl rfl ?_
    refine j_sipush (v := (300 : Int32)) C dX11_turn_102 (by decide) ?_
    refine j_icmp_ge (tgt := 198) C dX11_turn_105 (by decide) ?_ ?_
    · refine j_sub (L' := [(2, .int l2)]) [2] rfl ?_
      exact jb_X11_turn_198 C CR  n l2 s
    · refine j_aload_n C dX11_turn_108 0 rfl rfl ?_
      refine j_iconst (v := (0 : Int32)) C dX11_turn_109 (by decide) ?_
      refine j_putZ C kX11 (km_0 b) (lm_0 b) 35 (by decide) tw_1228 (rm_35 b) rfl rfl dX11_turn_110 (fun s1 => ?_)
      refine j_aload_n C dX11_turn_113 0 rfl rfl ?_
      refine j_aload_n C dX11_turn_114 0 rfl rfl ?_
      refine j_iload_n C dX11_turn_115 1 rfl rfl ?_
      refine j_iconst (v := (1 : Int32)) C dX11_turn_116 (by decide) ?_
      refine j_callVi C (c_X11_of b n l1 (1 : Int32) s1) cw_RX11_158 ⟨rfl, rfl, Nat.le_of_ble_eq_true rfl, Nat.le_of_ble_eq_true rfl⟩ 0 kX11 (km_0 b) (lm_0 b) [.int l1, .int (1 : Int32)] [.ref (adX X 0)] rfl rfl rfl (Nat.le_of_ble_eq_true rfl) dX11_turn_117 (fun x3 s2 => ?_)
      refine j_put C kX11 (km_0 b) (lm_0 b) 36 (by decide) tw_1229 (rm_36 b) rfl rfl dX11_turn_120 (fun s4 => ?_)
      refine j_aload_n C dX11_turn_123 0 rfl rfl ?_
      refine j_callVi C (c_X11_byteOf b n  s4) cw_RX11_242 ⟨rfl, rfl, Nat.le_of_ble_eq_true rfl, Nat.le_of_ble_eq_true rfl⟩ 0 kX11 (km_0 b) (lm_0 b) [] [] rfl rfl rfl (Nat.le_of_ble_eq_true rfl) dX11_turn_124 (fun x6 s5 => ?_)
      refine j_istore (L' := [(0, .ref (adX X 0)), (1, .int l1), (2, .int l2), (3, .int l3), (4, .int x6)]) C dX11_turn_127 (by decide) [1, 2, 3, 4, 0] rfl ?_
      refine j_aload_n C dX11_turn_129 0 rfl rfl ?_
      refine j_get C kX11 (km_0 b) (lm_0 b) 35 (by decide) tw_1228 (rm_35 b) dX11_turn_130 ?_
      refine j_if_ne (tgt := 142) C dX11_turn_133 (by decide) ?_ ?_
      · refine j_sub (L' := [(0, .ref (adX X 0)), (1, .int l1), (2, .int l2), (4, .int x6)]) [0, 1, 2, 4] rfl ?_
        exact jb_X11_turn_142 C CR k97 hk97 n l1 l2 x6 s5
      · refine j_aload_n C dX11_turn_136 0 rfl rfl ?_
        refine j_iload C dX11_turn_137 4 rfl ?_
        refine j_callVn C (c_X11_readOrder b n x6 s5) cw_RX11_331 ⟨rfl, rfl, Nat.le_of_ble_eq_true rfl, Nat.le_of_ble_eq_true rfl⟩ 0 kX11 (km_0 b) (lm_0 b) [.int x6] [] rfl rfl rfl (Nat.le_of_ble_eq_true rfl) dX11_turn_139 (fun s7 => ?_)
        refine j_sub (L' := [(0, .ref (adX X 0)), (1, .int l1), (2, .int l2), (4, .int x6)]) [0, 1, 2, 4] rfl ?_
        exact jb_X11_turn_142 C CR k97 hk97 n l1 l2 x6 s7
theorem lb_X11_turn_97 {b : Bool} {X : CtxT (Int32 × Mem)} (C : Cx (YM b) X 5 cX11_turn RX11 (some .int) rm_X11_turn) (CR : CRi (YM b) X)  : ∀ (n : Nat) (l1 : Int32) (l2 : Int32) (l3 : Int32) (s : Mem), J (YM b) X 5 (itr3 (b_X11_turn_97) n l1 l2 l3 s) 97 [(0, .ref (adX X 0)), (1, .int l1), (2, .int l2), (3, .int l3)] [] s := by
  intro n
  induction n with
  | zero => intros; exact j_none
  | succ n ih =>
    intro l1 l2 l3 s
    exact jb_X11_turn_97 C CR  n _ ih l1 l2 l3 s
set_option maxHeartbeats 4000000 in
theorem jb_X11_turn_93 {b : Bool} {X : CtxT (Int32 × Mem)} (C : Cx (YM b) X 5 cX11_turn RX11 (some .int) rm_X11_turn) (CR : CRi (YM b) X)  (n : Nat)  (l1 : Int32) (s : Mem) : J (YM b) X 5 (b_X11_turn_93  n  l1 s) 93 [(0, .ref (adX X 0)), (1, .int l1)] [] s := by
  unfold b_X11_turn_93
  refine j_iconst (v := (0 : Int32)) C dX11_turn_93 (by decide) ?_
  refine j_istore_n (L' := [(0, .ref (adX X 0)), (1, .int l1), (2, .int (0 : Int32))]) C dX11_turn_94 rfl (by decide) [1, 2, 0] rfl ?_
  refine j_iconst (v := (1 : Int32)) C dX11_turn_95 (by decide) ?_
  refine j_istore_n (L' := [(0, .ref (adX X 0)), (1, .int l1), (2, .int (0 : Int32)), (3, .int (1 : Int32))]) C dX11_turn_96 rfl (by decide) [1, 2, 3, 0] rfl ?_
  exact lb_X11_turn_97 C CR  n l1 (0 : Int32) (1 : Int32) s
set_option maxHeartbeats 4000000 in
theorem jb_X11_turn_60 {b : Bool} {X : CtxT (Int32 × Mem)} (C : Cx (YM b) X 5 cX11_turn RX11 (some .int) rm_X11_turn) (CR : CRi (YM b) X)  (n : Nat)  (l1 : Int32) (s : Mem) : J (YM b) X 5 (b_X11_turn_60  n  l1 s) 60 [(0, .ref (adX X 0)), (1, .int l1)] [] s := by
  unfold b_X11_turn_60
  refine j_aload_n C dX11_turn_60 0 rfl rfl ?_
  refine j_iload_n C dX11_turn_61 1 rfl rfl ?_
  refine j_iconst (v := (3 : Int32)) C dX11_turn_62 (by decide) ?_
  refine j_callVi C (c_X11_of b n l1 (3 : Int32) s) cw_RX11_158 ⟨rfl, rfl, Nat.le_of_ble_eq_true rfl, Nat.le_of_ble_eq_true rfl⟩ 0 kX11 (km_0 b) (lm_0 b) [.int l1, .int (3 : Int32)] [] rfl rfl rfl (Nat.le_of_ble_eq_true rfl) dX11_turn_63 (fun x2 s1 => ?_)
  refine j_if_eq (tgt := 93) C dX11_turn_66 (by decide) ?_ ?_
  · exact jb_X11_turn_93 C CR  n l1 s1
  · refine j_aload_n C dX11_turn_69 0 rfl rfl ?_
    refine j_aload_n C dX11_turn_70 0 rfl rfl ?_
    refine j_iload_n C dX11_turn_71 1 rfl rfl ?_
    refine j_iconst (v := (3 : Int32)) C dX11_turn_72 (by decide) ?_
    refine j_callVi C (c_X11_of b n l1 (3 : Int32) s1) cw_RX11_158 ⟨rfl, rfl, Nat.le_of_ble_eq_true rfl, Nat.le_of_ble_eq_true rfl⟩ 0 kX11 (km_0 b) (lm_0 b) [.int l1, .int (3 : Int32)] [.ref (adX X 0)] rfl rfl rfl (Nat.le_of_ble_eq_true rfl) dX11_turn_73 (fun x4 s3 => ?_)
    refine j_iconst (v := (4 : Int32)) C dX11_turn_76 (by decide) ?_
    refine j_callVi C (c_X11_actorOf b n x4 (4 : Int32) s3) cw_RX11_192 ⟨rfl, rfl, Nat.le_of_ble_eq_true rfl, Nat.le_of_ble_eq_true rfl⟩ 0 kX11 (km_0 b) (lm_0 b) [.int x4, .int (4 : Int32)] [] rfl rfl rfl (Nat.le_of_ble_eq_true rfl) dX11_turn_77 (fun x6 s5 => ?_)
    refine j_iconst (v := (1 : Int32)) C dX11_turn_80 (by decide) ?_
    refine j_icmp_ne (tgt := 86) C dX11_turn_81 (by decide) ?_ ?_
    · refine j_aload_n C dX11_turn_86 0 rfl rfl ?_
      refine j_iload_n C dX11_turn_87 1 rfl rfl ?_
      refine j_iconst (v := (3 : Int32)) C dX11_turn_88 (by decide) ?_
      refine j_iconst (v := (0 : Int32)) C dX11_turn_89 (by decide) ?_
      refine j_callVn C (c_X11_to b n l1 (3 : Int32) (0 : Int32) s5) cw_RX11_148 ⟨rfl, rfl, Nat.le_of_ble_eq_true rfl, Nat.le_of_ble_eq_true rfl⟩ 0 kX11 (km_0 b) (lm_0 b) [.int l1, .int (3 : Int32), .int (0 : Int32)] [] rfl rfl rfl (Nat.le_of_ble_eq_true rfl) dX11_turn_90 (fun s7 => ?_)
      exact jb_X11_turn_93 C CR  n l1 s7
    · refine j_iconst (v := (0 : Int32)) C dX11_turn_84 (by decide) ?_
      exact j_iret C CR dX11_turn_85
set_option maxHeartbeats 4000000 in
theorem c_X11_turn (b : Bool) (n : Nat) (l1 : Int32) (s : Mem) : CTi (YM b) yX11_turn cX11_turn 5 (some .int) rm_X11_turn (fun ad => [.ref (ad 0), .int l1]) s (f_X11_turn n l1 s) := by
  refine CTi_of (by decide) (fun _ => Nat.le_of_ble_eq_true rfl) (fun X C CR => ?_)
  show J (YM b) X 5 (f_X11_turn n l1 s) 0 [(0, .ref (adX X 0)), (1, .int l1)] [] s
  unfold f_X11_turn
  refine j_aload_n C dX11_turn_0 0 rfl rfl ?_
  refine j_iload_n C dX11_turn_1 1 rfl rfl ?_
  refine j_put C kX11 (km_0 b) (lm_0 b) 34 (by decide) tw_1227 (rm_34 b) rfl rfl dX11_turn_2 (fun s1 => ?_)
  refine j_aload_n C dX11_turn_5 0 rfl rfl ?_
  refine j_iload_n C dX11_turn_6 1 rfl rfl ?_
  refine j_iconst (v := (0 : Int32)) C dX11_turn_7 (by decide) ?_
  refine j_callVi C (c_X11_of b n l1 (0 : Int32) s1) cw_RX11_158 ⟨rfl, rfl, Nat.le_of_ble_eq_true rfl, Nat.le_of_ble_eq_true rfl⟩ 0 kX11 (km_0 b) (lm_0 b) [.int l1, .int (0 : Int32)] [] rfl rfl rfl (Nat.le_of_ble_eq_true rfl) dX11_turn_8 (fun x3 s2 => ?_)
  refine j_if_eq (tgt := 24) C dX11_turn_11 (by decide) ?_ ?_
  · refine j_sub (L' := []) [] rfl ?_
    exact jb_X11_turn_24 C CR  n s2
  · refine j_aload_n C dX11_turn_14 0 rfl rfl ?_
    refine j_iload_n C dX11_turn_15 1 rfl rfl ?_
    refine j_iconst (v := (4 : Int32)) C dX11_turn_16 (by decide) ?_
    refine j_callVi C (c_X11_of b n l1 (4 : Int32) s2) cw_RX11_158 ⟨rfl, rfl, Nat.le_of_ble_eq_true rfl, Nat.le_of_ble_eq_true rfl⟩ 0 kX11 (km_0 b) (lm_0 b) [.int l1, .int (4 : Int32)] [] rfl rfl rfl (Nat.le_of_ble_eq_true rfl) dX11_turn_17 (fun x5 s4 => ?_)
    refine j_iconst (v := (1 : Int32)) C dX11_turn_20 (by decide) ?_
    refine j_icmp_ne (tgt := 26) C dX11_turn_21 (by decide) ?_ ?_
    · refine j_aload_n C dX11_turn_26 0 rfl rfl ?_
      refine j_iload_n C dX11_turn_27 1 rfl rfl ?_
      refine j_iconst (v := (2 : Int32)) C dX11_turn_28 (by decide) ?_
      refine j_callVi C (c_X11_of b n l1 (2 : Int32) s4) cw_RX11_158 ⟨rfl, rfl, Nat.le_of_ble_eq_true rfl, Nat.le_of_ble_eq_true rfl⟩ 0 kX11 (km_0 b) (lm_0 b) [.int l1, .int (2 : Int32)] [] rfl rfl rfl (Nat.le_of_ble_eq_true rfl) dX11_turn_29 (fun x7 s6 => ?_)
      refine j_if_le (tgt := 60) C dX11_turn_32 (by decide) ?_ ?_
      · exact jb_X11_turn_60 C CR  n l1 s6
      · refine j_aload_n C dX11_turn_35 0 rfl rfl ?_
        refine j_iload_n C dX11_turn_36 1 rfl rfl ?_
        refine j_iconst (v := (2 : Int32)) C dX11_turn_37 (by decide) ?_
        refine j_aload_n C dX11_turn_38 0 rfl rfl ?_
        refine j_iload_n C dX11_turn_39 1 rfl rfl ?_
        refine j_iconst (v := (2 : Int32)) C dX11_turn_40 (by decide) ?_
        refine j_callVi C (c_X11_of b n l1 (2 : Int32) s6) cw_RX11_158 ⟨rfl, rfl, Nat.le_of_ble_eq_true rfl, Nat.le_of_ble_eq_true rfl⟩ 0 kX11 (km_0 b) (lm_0 b) [.int l1, .int (2 : Int32)] [.int (2 : Int32), .int l1, .ref (adX X 0)] rfl rfl rfl (Nat.le_of_ble_eq_true rfl) dX11_turn_41 (fun x9 s8 => ?_)
        refine j_iconst (v := (1 : Int32)) C dX11_turn_44 (by decide) ?_
        refine j_isub C dX11_turn_45 ?_
        refine j_callVn C (c_X11_to b n l1 (2 : Int32) (x9 - (1 : Int32)) s8) cw_RX11_148 ⟨rfl, rfl, Nat.le_of_ble_eq_true rfl, Nat.le_of_ble_eq_true rfl⟩ 0 kX11 (km_0 b) (lm_0 b) [.int l1, .int (2 : Int32), .int (x9 - (1 : Int32))] [] rfl rfl rfl (Nat.le_of_ble_eq_true rfl) dX11_turn_46 (fun s10 => ?_)
        refine j_aload_n C dX11_turn_49 0 rfl rfl ?_
        refine j_iload_n C dX11_turn_50 1 rfl rfl ?_
        refine j_iconst (v := (2 : Int32)) C dX11_turn_51 (by decide) ?_
        refine j_callVi C (c_X11_of b n l1 (2 : Int32) s10) cw_RX11_158 ⟨rfl, rfl, Nat.le_of_ble_eq_true rfl, Nat.le_of_ble_eq_true rfl⟩ 0 kX11 (km_0 b) (lm_0 b) [.int l1, .int (2 : Int32)] [] rfl rfl rfl (Nat.le_of_ble_eq_true rfl) dX11_turn_52 (fun x12 s11 => ?_)
        refine j_if_le (tgt := 60) C dX11_turn_55 (by decide) ?_ ?_
        · exact jb_X11_turn_60 C CR  n l1 s11
        · refine j_iconst (v := (0 : Int32)) C dX11_turn_58 (by decide) ?_
          exact j_iret C CR dX11_turn_59
    · refine j_sub (L' := []) [] rfl ?_
      exact jb_X11_turn_24 C CR  n s4
set_option maxHeartbeats 4000000 in
theorem jb_X11_isAtSentence_29 {b : Bool} {X : CtxT (Int32 × Mem)} (C : Cx (YM b) X 2 cX11_isAtSentence RX11 (some .boolean) rm_X11_isAtSentence) (CR : CRi (YM b) X) (k2 : Int32 → Mem → Option (Int32 × Mem)) (hk2 : ∀ (l1 : Int32) (s : Mem), J (YM b) X 2 (k2 l1 s) 2 [(0, .ref (adX X 0)), (1, .int l1)] [] s) (n : Nat)  (l1 : Int32) (s : Mem) : J (YM b) X 2 (b_X11_isAtSentence_29 k2 n  l1 s) 29 [(0, .ref (adX X 0)), (1, .int l1)] [] s := by
  unfold b_X11_isAtSentence_29
  refine j_iinc (L2 := fun x1 => [(0, .ref (adX X 0)), (1, .int x1)]) C dX11_isAtSentence_29 1 rfl (by decide) [1, 0] (fun _ => rfl) (fun x1 => ?_)
  refine j_goto (tgt := 2) C dX11_isAtSentence_32 (by decide) ?_
  exact hk2 x1 s
set_option maxHeartbeats 4000000 in
theorem jb_X11_isAtSentence_2 {b : Bool} {X : CtxT (Int32 × Mem)} (C : Cx (YM b) X 2 cX11_isAtSentence RX11 (some .boolean) rm_X11_isAtSentence) (CR : CRi (YM b) X)  (n : Nat) (k2 : Int32 → Mem → Option (Int32 × Mem)) (hk2 : ∀ (l1 : Int32) (s : Mem), J (YM b) X 2 (k2 l1 s) 2 [(0, .ref (adX X 0)), (1, .int l1)] [] s) (l1 : Int32) (s : Mem) : J (YM b) X 2 (b_X11_isAtSentence_2  n k2 l1 s) 2 [(0, .ref (adX X 0)), (1, .int l1)] [] s := by
  unfold b_X11_isAtSentence_2
  refine j_iload_n C dX11_isAtSentence_2 1 rfl rfl ?_
  refine j_bipush (v := (8 : Int32)) C dX11_isAtSentence_3 (by decide) ?_
  refine j_icmp_ge (tgt := 35) C dX11_isAtSentence_5 (by decide) ?_ ?_
  · refine j_iconst (v := (0 : Int32)) C dX11_isAtSentence_35 (by decide) ?_
    exact j_zret C CR dX11_isAtSentence_36
  · refine j_aload_n C dX11_isAtSentence_8 0 rfl rfl ?_
    refine j_iload_n C dX11_isAtSentence_9 1 rfl rfl ?_
    refine j_iconst (v := (0 : Int32)) C dX11_isAtSentence_10 (by decide) ?_
    refine j_callVi C (c_X11_of b n l1 (0 : Int32) s) cw_RX11_158 ⟨rfl, rfl, Nat.le_of_ble_eq_true rfl, Nat.le_of_ble_eq_true rfl⟩ 0 kX11 (km_0 b) (lm_0 b) [.int l1, .int (0 : Int32)] [] rfl rfl rfl (Nat.le_of_ble_eq_true rfl) dX11_isAtSentence_11 (fun x2 s1 => ?_)
    refine j_if_eq (tgt := 29) C dX11_isAtSentence_14 (by decide) ?_ ?_
    · exact jb_X11_isAtSentence_29 C CR k2 hk2 n l1 s1
    · refine j_aload_n C dX11_isAtSentence_17 0 rfl rfl ?_
      refine j_iload_n C dX11_isAtSentence_18 1 rfl rfl ?_
      refine j_iconst (v := (5 : Int32)) C dX11_isAtSentence_19 (by decide) ?_
      refine j_callVi C (c_X11_of b n l1 (5 : Int32) s1) cw_RX11_158 ⟨rfl, rfl, Nat.le_of_ble_eq_true rfl, Nat.le_of_ble_eq_true rfl⟩ 0 kX11 (km_0 b) (lm_0 b) [.int l1, .int (5 : Int32)] [] rfl rfl rfl (Nat.le_of_ble_eq_true rfl) dX11_isAtSentence_20 (fun x4 s3 => ?_)
      refine j_iconst (v := (1 : Int32)) C dX11_isAtSentence_23 (by decide) ?_
      refine j_icmp_ne (tgt := 29) C dX11_isAtSentence_24 (by decide) ?_ ?_
      · exact jb_X11_isAtSentence_29 C CR k2 hk2 n l1 s3
      · refine j_iconst (v := (1 : Int32)) C dX11_isAtSentence_27 (by decide) ?_
        exact j_zret C CR dX11_isAtSentence_28
theorem lb_X11_isAtSentence_2 {b : Bool} {X : CtxT (Int32 × Mem)} (C : Cx (YM b) X 2 cX11_isAtSentence RX11 (some .boolean) rm_X11_isAtSentence) (CR : CRi (YM b) X)  : ∀ (n : Nat) (l1 : Int32) (s : Mem), J (YM b) X 2 (itr1 (b_X11_isAtSentence_2) n l1 s) 2 [(0, .ref (adX X 0)), (1, .int l1)] [] s := by
  intro n
  induction n with
  | zero => intros; exact j_none
  | succ n ih =>
    intro l1 s
    exact jb_X11_isAtSentence_2 C CR  n _ ih l1 s
set_option maxHeartbeats 4000000 in
theorem c_X11_isAtSentence (b : Bool) (n : Nat)  (s : Mem) : CTi (YM b) yX11_isAtSentence cX11_isAtSentence 2 (some .boolean) rm_X11_isAtSentence (fun ad => [.ref (ad 0)]) s (f_X11_isAtSentence n  s) := by
  refine CTi_of (by decide) (fun _ => Nat.le_of_ble_eq_true rfl) (fun X C CR => ?_)
  show J (YM b) X 2 (f_X11_isAtSentence n  s) 0 [(0, .ref (adX X 0))] [] s
  unfold f_X11_isAtSentence
  refine j_iconst (v := (0 : Int32)) C dX11_isAtSentence_0 (by decide) ?_
  refine j_istore_n (L' := [(0, .ref (adX X 0)), (1, .int (0 : Int32))]) C dX11_isAtSentence_1 rfl (by decide) [1, 0] rfl ?_
  exact lb_X11_isAtSentence_2 C CR  n (0 : Int32) s
set_option maxHeartbeats 4000000 in
theorem jb_X11_takesSentence_147 {b : Bool} {X : CtxT Mem} (C : Cx (YM b) X 5 cX11_takesSentence RX11 none rm_X11_takesSentence) (CR : CRn (YM b) X)  (n : Nat)   (s : Mem) : J (YM b) X 5 (b_X11_takesSentence_147  n   s) 147 [] [] s := by
  unfold b_X11_takesSentence_147
  exact j_vret C CR dX11_takesSentence_147
set_option maxHeartbeats 4000000 in
theorem jb_X11_takesSentence_126 {b : Bool} {X : CtxT Mem} (C : Cx (YM b) X 5 cX11_takesSentence RX11 none rm_X11_takesSentence) (CR : CRn (YM b) X)  (n : Nat)  (t0 : Int32) (s : Mem) : J (YM b) X 5 (b_X11_takesSentence_126  n  t0 s) 126 [(0, .ref (adX X 0))] [.int t0] s := by
  unfold b_X11_takesSentence_126
  refine j_istore_n (L' := [(0, .ref (adX X 0)), (3, .int t0)]) C dX11_takesSentence_126 rfl (by decide) [1, 0] rfl ?_
  refine j_aload_n C dX11_takesSentence_127 0 rfl rfl ?_
  refine j_iload_n C dX11_takesSentence_128 1 rfl rfl ?_
  refine j_callVi C (c_X11_started b n t0 s) cw_RX11_298 ⟨rfl, rfl, Nat.le_of_ble_eq_true rfl, Nat.le_of_ble_eq_true rfl⟩ 0 kX11 (km_0 b) (lm_0 b) [.int t0] [] rfl rfl rfl (Nat.le_of_ble_eq_true rfl) dX11_takesSentence_129 (fun x2 s1 => ?_)
  refine j_istore (L' := [(0, .ref (adX X 0)), (3, .int t0), (4, .int x2)]) C dX11_takesSentence_132 (by decide) [1, 2, 0] rfl ?_
  refine j_iload C dX11_takesSentence_134 2 rfl ?_
  refine j_if_lt (tgt := 147) C dX11_takesSentence_136 (by decide) ?_ ?_
  · refine j_sub (L' := []) [] rfl ?_
    exact jb_X11_takesSentence_147 C CR  n s1
  · refine j_aload_n C dX11_takesSentence_139 0 rfl rfl ?_
    refine j_iload C dX11_takesSentence_140 2 rfl ?_
    refine j_iconst (v := (5 : Int32)) C dX11_takesSentence_142 (by decide) ?_
    refine j_iconst (v := (1 : Int32)) C dX11_takesSentence_143 (by decide) ?_
    refine j_callVn C (c_X11_to b n x2 (5 : Int32) (1 : Int32) s1) cw_RX11_148 ⟨rfl, rfl, Nat.le_of_ble_eq_true rfl, Nat.le_of_ble_eq_true rfl⟩ 0 kX11 (km_0 b) (lm_0 b) [.int x2, .int (5 : Int32), .int (1 : Int32)] [] rfl rfl rfl (Nat.le_of_ble_eq_true rfl) dX11_takesSentence_144 (fun s3 => ?_)
    refine j_sub (L' := []) [] rfl ?_
    exact jb_X11_takesSentence_147 C CR  n s3
set_option maxHeartbeats 4000000 in
theorem jb_X11_takesSentence_52 {b : Bool} {X : CtxT Mem} (C : Cx (YM b) X 5 cX11_takesSentence RX11 none rm_X11_takesSentence) (CR : CRn (YM b) X)  (n : Nat) (k52 : Int32 → Int32 → Int32 → Mem → Option Mem) (hk52 : ∀ (l1 : Int32) (l2 : Int32) (l3 : Int32) (s : Mem), J (YM b) X 5 (k52 l1 l2 l3 s) 52 [(0, .ref (adX X 0)), (1, .int l1), (2, .int l2), (3, .int l3)] [] s) (l1 : Int32) (l2 : Int32) (l3 : Int32) (s : Mem) : J (YM b) X 5 (b_X11_takesSentence_52  n k52 l1 l2 l3 s) 52 [(0, .ref (adX X 0)), (1, .int l1), (2, .int l2), (3, .int l3)] [] s := by
  unfold b_X11_takesSentence_52
  refine j_iload_n C dX11_takesSentence_52 3 rfl rfl ?_
  refine j_bipush (v := (15 : Int32)) C dX11_takesSentence_53 (by decide) ?_
  refine j_icmp_ge (tgt := 84) C dX11_takesSentence_55 (by decide) ?_ ?_
  · refine j_aload_n C dX11_takesSentence_84 0 rfl rfl ?_
    refine j_getR (z := 15) C kX11 (km_0 b) (lm_0 b) 27 (by decide) tw_1220 (rm_27 b) rfl dX11_takesSentence_85 ?_
    refine j_iconst (v := (5 : Int32)) C dX11_takesSentence_88 (by decide) ?_
    refine j_dup2 C dX11_takesSentence_89 rfl rfl ?_
    refine j_iald C (km_15 b) (lm_15 b) dX11_takesSentence_90 ?_
    refine j_iconst (v := (1 : Int32)) C dX11_takesSentence_91 (by decide) ?_
    refine j_isub C dX11_takesSentence_92 ?_
    refine j_iast C (km_15 b) (lm_15 b) dX11_takesSentence_93 (fun s1 => ?_)
    refine j_aload_n C dX11_takesSentence_94 0 rfl rfl ?_
    refine j_iload_n C dX11_takesSentence_95 2 rfl rfl ?_
    refine j_callVi C (c_X11_isObject b n l2 s1) cw_RX11_292 ⟨rfl, rfl, Nat.le_of_ble_eq_true rfl, Nat.le_of_ble_eq_true rfl⟩ 0 kX11 (km_0 b) (lm_0 b) [.int l2] [] rfl rfl rfl (Nat.le_of_ble_eq_true rfl) dX11_takesSentence_96 (fun x3 s2 => ?_)
    refine j_if_ne (tgt := 103) C dX11_takesSentence_99 (by decide) ?_ ?_
    · refine j_aload_n C dX11_takesSentence_103 0 rfl rfl ?_
      refine j_iload_n C dX11_takesSentence_104 2 rfl rfl ?_
      refine j_iload_n C dX11_takesSentence_105 1 rfl rfl ?_
      refine j_callVi C (c_X11_scriptOf b n l2 l1 s2) cw_RX11_340 ⟨rfl, rfl, Nat.le_of_ble_eq_true rfl, Nat.le_of_ble_eq_true rfl⟩ 0 kX11 (km_0 b) (lm_0 b) [.int l2, .int l1] [] rfl rfl rfl (Nat.le_of_ble_eq_true rfl) dX11_takesSentence_106 (fun x5 s4 => ?_)
      refine j_istore_n (L' := [(0, .ref (adX X 0)), (1, .int l1), (2, .int l2), (3, .int x5)]) C dX11_takesSentence_109 rfl (by decide) [1, 2, 3, 0] rfl ?_
      refine j_iload_n C dX11_takesSentence_110 3 rfl rfl ?_
      refine j_if_ne (tgt := 125) C dX11_takesSentence_111 (by decide) ?_ ?_
      · refine j_iload_n C dX11_takesSentence_125 3 rfl rfl ?_
        refine j_sub (L' := [(0, .ref (adX X 0))]) [0] rfl ?_
        exact jb_X11_takesSentence_126 C CR  n x5 s4
      · refine j_aload_n C dX11_takesSentence_114 0 rfl rfl ?_
        refine j_iload_n C dX11_takesSentence_115 2 rfl rfl ?_
        refine j_sipush (v := (255 : Int32)) C dX11_takesSentence_116 (by decide) ?_
        refine j_callVi C (c_X11_scriptOf b n l2 (255 : Int32) s4) cw_RX11_340 ⟨rfl, rfl, Nat.le_of_ble_eq_true rfl, Nat.le_of_ble_eq_true rfl⟩ 0 kX11 (km_0 b) (lm_0 b) [.int l2, .int (255 : Int32)] [] rfl rfl rfl (Nat.le_of_ble_eq_true rfl) dX11_takesSentence_119 (fun x7 s6 => ?_)
        refine j_goto (tgt := 126) C dX11_takesSentence_122 (by decide) ?_
        refine j_sub (L' := [(0, .ref (adX X 0))]) [0] rfl ?_
        exact jb_X11_takesSentence_126 C CR  n x7 s6
    · exact j_vret C CR dX11_takesSentence_102
  · refine j_aload_n C dX11_takesSentence_58 0 rfl rfl ?_
    refine j_getR (z := 15) C kX11 (km_0 b) (lm_0 b) 27 (by decide) tw_1220 (rm_27 b) rfl dX11_takesSentence_59 ?_
    refine j_sipush (v := (150 : Int32)) C dX11_takesSentence_62 (by decide) ?_
    refine j_iload_n C dX11_takesSentence_65 3 rfl rfl ?_
    refine j_iadd C dX11_takesSentence_66 ?_
    refine j_aload_n C dX11_takesSentence_67 0 rfl rfl ?_
    refine j_getR (z := 15) C kX11 (km_0 b) (lm_0 b) 27 (by decide) tw_1220 (rm_27 b) rfl dX11_takesSentence_68 ?_
    refine j_sipush (v := (153 : Int32)) C dX11_takesSentence_71 (by decide) ?_
    refine j_iload_n C dX11_takesSentence_74 3 rfl rfl ?_
    refine j_iadd C dX11_takesSentence_75 ?_
    refine j_iald C (km_15 b) (lm_15 b) dX11_takesSentence_76 ?_
    refine j_iast C (km_15 b) (lm_15 b) dX11_takesSentence_77 (fun s8 => ?_)
    refine j_iinc (L2 := fun x9 => [(0, .ref (adX X 0)), (1, .int l1), (2, .int l2), (3, .int x9)]) C dX11_takesSentence_78 3 rfl (by decide) [1, 2, 3, 0] (fun _ => rfl) (fun x9 => ?_)
    refine j_goto (tgt := 52) C dX11_takesSentence_81 (by decide) ?_
    exact hk52 l1 l2 x9 s8
theorem lb_X11_takesSentence_52 {b : Bool} {X : CtxT Mem} (C : Cx (YM b) X 5 cX11_takesSentence RX11 none rm_X11_takesSentence) (CR : CRn (YM b) X)  : ∀ (n : Nat) (l1 : Int32) (l2 : Int32) (l3 : Int32) (s : Mem), J (YM b) X 5 (itr3 (b_X11_takesSentence_52) n l1 l2 l3 s) 52 [(0, .ref (adX X 0)), (1, .int l1), (2, .int l2), (3, .int l3)] [] s := by
  intro n
  induction n with
  | zero => intros; exact j_none
  | succ n ih =>
    intro l1 l2 l3 s
    exact jb_X11_takesSentence_52 C CR  n _ ih l1 l2 l3 s
set_option maxHeartbeats 4000000 in
theorem jb_X11_takesSentence_20 {b : Bool} {X : CtxT Mem} (C : Cx (YM b) X 5 cX11_takesSentence RX11 none rm_X11_takesSentence) (CR : CRn (YM b) X)  (n : Nat) (k20 : Int32 → Int32 → Int32 → Mem → Option Mem) (hk20 : ∀ (l1 : Int32) (l2 : Int32) (l3 : Int32) (s : Mem), J (YM b) X 5 (k20 l1 l2 l3 s) 20 [(0, .ref (adX X 0)), (1, .int l1), (2, .int l2), (3, .int l3)] [] s) (l1 : Int32) (l2 : Int32) (l3 : Int32) (s : Mem) : J (YM b) X 5 (b_X11_takesSentence_20  n k20 l1 l2 l3 s) 20 [(0, .ref (adX X 0)), (1, .int l1), (2, .int l2), (3, .int l3)] [] s := by
  unfold b_X11_takesSentence_20
  refine j_iload_n C dX11_takesSentence_20 3 rfl rfl ?_
  refine j_iconst (v := (3 : Int32)) C dX11_takesSentence_21 (by decide) ?_
  refine j_icmp_ge (tgt := 50) C dX11_takesSentence_22 (by decide) ?_ ?_
  · refine j_iconst (v := (0 : Int32)) C dX11_takesSentence_50 (by decide) ?_
    refine j_istore_n (L' := [(0, .ref (adX X 0)), (1, .int l1), (2, .int l2), (3, .int (0 : Int32))]) C dX11_takesSentence_51 rfl (by decide) [1, 2, 3, 0] rfl ?_
    exact lb_X11_takesSentence_52 C CR  n l1 l2 (0 : Int32) s
  · refine j_aload_n C dX11_takesSentence_25 0 rfl rfl ?_
    refine j_getR (z := 15) C kX11 (km_0 b) (lm_0 b) 27 (by decide) tw_1220 (rm_27 b) rfl dX11_takesSentence_26 ?_
    refine j_bipush (v := (7 : Int32)) C dX11_takesSentence_29 (by decide) ?_
    refine j_iload_n C dX11_takesSentence_31 3 rfl rfl ?_
    refine j_iadd C dX11_takesSentence_32 ?_
    refine j_aload_n C dX11_takesSentence_33 0 rfl rfl ?_
    refine j_getR (z := 15) C kX11 (km_0 b) (lm_0 b) 27 (by decide) tw_1220 (rm_27 b) rfl dX11_takesSentence_34 ?_
    refine j_sipush (v := (150 : Int32)) C dX11_takesSentence_37 (by decide) ?_
    refine j_iload_n C dX11_takesSentence_40 3 rfl rfl ?_
    refine j_iadd C dX11_takesSentence_41 ?_
    refine j_iald C (km_15 b) (lm_15 b) dX11_takesSentence_42 ?_
    refine j_iast C (km_15 b) (lm_15 b) dX11_takesSentence_43 (fun s1 => ?_)
    refine j_iinc (L2 := fun x2 => [(0, .ref (adX X 0)), (1, .int l1), (2, .int l2), (3, .int x2)]) C dX11_takesSentence_44 3 rfl (by decide) [1, 2, 3, 0] (fun _ => rfl) (fun x2 => ?_)
    refine j_goto (tgt := 20) C dX11_takesSentence_47 (by decide) ?_
    exact hk20 l1 l2 x2 s1
theorem lb_X11_takesSentence_20 {b : Bool} {X : CtxT Mem} (C : Cx (YM b) X 5 cX11_takesSentence RX11 none rm_X11_takesSentence) (CR : CRn (YM b) X)  : ∀ (n : Nat) (l1 : Int32) (l2 : Int32) (l3 : Int32) (s : Mem), J (YM b) X 5 (itr3 (b_X11_takesSentence_20) n l1 l2 l3 s) 20 [(0, .ref (adX X 0)), (1, .int l1), (2, .int l2), (3, .int l3)] [] s := by
  intro n
  induction n with
  | zero => intros; exact j_none
  | succ n ih =>
    intro l1 l2 l3 s
    exact jb_X11_takesSentence_20 C CR  n _ ih l1 l2 l3 s
set_option maxHeartbeats 4000000 in
theorem c_X11_takesSentence (b : Bool) (n : Nat)  (s : Mem) : CTn (YM b) yX11_takesSentence cX11_takesSentence 5 none rm_X11_takesSentence (fun ad => [.ref (ad 0)]) s (f_X11_takesSentence n  s) := by
  refine CTn_of (by decide) (fun _ => Nat.le_of_ble_eq_true rfl) (fun X C CR => ?_)
  show J (YM b) X 5 (f_X11_takesSentence n  s) 0 [(0, .ref (adX X 0))] [] s
  unfold f_X11_takesSentence
  refine j_aload_n C dX11_takesSentence_0 0 rfl rfl ?_
  refine j_getR (z := 15) C kX11 (km_0 b) (lm_0 b) 27 (by decide) tw_1220 (rm_27 b) rfl dX11_takesSentence_1 ?_
  refine j_sipush (v := (150 : Int32)) C dX11_takesSentence_4 (by decide) ?_
  refine j_iald C (km_15 b) (lm_15 b) dX11_takesSentence_7 ?_
  refine j_istore_n (L' := [(0, .ref (adX X 0)), (1, .int (s 15 (150 : Int32).toNatClampNeg))]) C dX11_takesSentence_8 rfl (by decide) [1, 0] rfl ?_
  refine j_aload_n C dX11_takesSentence_9 0 rfl rfl ?_
  refine j_getR (z := 15) C kX11 (km_0 b) (lm_0 b) 27 (by decide) tw_1220 (rm_27 b) rfl dX11_takesSentence_10 ?_
  refine j_sipush (v := (151 : Int32)) C dX11_takesSentence_13 (by decide) ?_
  refine j_iald C (km_15 b) (lm_15 b) dX11_takesSentence_16 ?_
  refine j_istore_n (L' := [(0, .ref (adX X 0)), (1, .int (s 15 (150 : Int32).toNatClampNeg)), (2, .int (s 15 (151 : Int32).toNatClampNeg))]) C dX11_takesSentence_17 rfl (by decide) [1, 2, 0] rfl ?_
  refine j_iconst (v := (0 : Int32)) C dX11_takesSentence_18 (by decide) ?_
  refine j_istore_n (L' := [(0, .ref (adX X 0)), (1, .int (s 15 (150 : Int32).toNatClampNeg)), (2, .int (s 15 (151 : Int32).toNatClampNeg)), (3, .int (0 : Int32))]) C dX11_takesSentence_19 rfl (by decide) [1, 2, 3, 0] rfl ?_
  exact lb_X11_takesSentence_20 C CR  n (s 15 (150 : Int32).toNatClampNeg) (s 15 (151 : Int32).toNatClampNeg) (0 : Int32) s
set_option maxHeartbeats 4000000 in
theorem jb_X11_one_112 {b : Bool} {X : CtxT (Int32 × Mem)} (C : Cx (YM b) X 5 cX11_one RX11 (some .int) rm_X11_one) (CR : CRi (YM b) X) (k69 : Int32 → Int32 → Mem → Option (Int32 × Mem)) (hk69 : ∀ (l1 : Int32) (l2 : Int32) (s : Mem), J (YM b) X 5 (k69 l1 l2 s) 69 [(0, .ref (adX X 0)), (1, .int l1), (2, .int l2)] [] s) (n : Nat)  (l1 : Int32) (l2 : Int32) (s : Mem) : J (YM b) X 5 (b_X11_one_112 k69 n  l1 l2 s) 112 [(0, .ref (adX X 0)), (1, .int l1), (2, .int l2)] [] s := by
  unfold b_X11_one_112
  refine j_iinc (L2 := fun x1 => [(0, .ref (adX X 0)), (1, .int l1), (2, .int x1)]) C dX11_one_112 2 rfl (by decide) [1, 2, 0] (fun _ => rfl) (fun x1 => ?_)
  refine j_goto (tgt := 69) C dX11_one_115 (by decide) ?_
  exact hk69 l1 x1 s
set_option maxHeartbeats 4000000 in
theorem jb_X11_one_85 {b : Bool} {X : CtxT (Int32 × Mem)} (C : Cx (YM b) X 5 cX11_one RX11 (some .int) rm_X11_one) (CR : CRi (YM b) X) (k69 : Int32 → Int32 → Mem → Option (Int32 × Mem)) (hk69 : ∀ (l1 : Int32) (l2 : Int32) (s : Mem), J (YM b) X 5 (k69 l1 l2 s) 69 [(0, .ref (adX X 0)), (1, .int l1), (2, .int l2)] [] s) (n : Nat) (k85 : Int32 → Int32 → Int32 → Int32 → Mem → Option (Int32 × Mem)) (hk85 : ∀ (l1 : Int32) (l2 : Int32) (l3 : Int32) (l4 : Int32) (s : Mem), J (YM b) X 5 (k85 l1 l2 l3 l4 s) 85 [(0, .ref (adX X 0)), (1, .int l1), (2, .int l2), (3, .int l3), (4, .int l4)] [] s) (l1 : Int32) (l2 : Int32) (l3 : Int32) (l4 : Int32) (s : Mem) : J (YM b) X 5 (b_X11_one_85 k69 n k85 l1 l2 l3 l4 s) 85 [(0, .ref (adX X 0)), (1, .int l1), (2, .int l2), (3, .int l3), (4, .int l4)] [] s := by
  unfold b_X11_one_85
  refine j_iload C dX11_one_85 4 rfl ?_
  refine j_iload_n C dX11_one_87 3 rfl rfl ?_
  refine j_icmp_ge (tgt := 112) C dX11_one_88 (by decide) ?_ ?_
  · refine j_sub (L' := [(0, .ref (adX X 0)), (1, .int l1), (2, .int l2)]) [0, 1, 2] rfl ?_
    exact jb_X11_one_112 C CR k69 hk69 n l1 l2 s
  · refine j_aload_n C dX11_one_91 0 rfl rfl ?_
    refine j_iload_n C dX11_one_92 2 rfl rfl ?_
    refine j_iconst (v := (4 : Int32)) C dX11_one_93 (by decide) ?_
    refine j_callVi C (c_X11_actorOf b n l2 (4 : Int32) s) cw_RX11_192 ⟨rfl, rfl, Nat.le_of_ble_eq_true rfl, Nat.le_of_ble_eq_true rfl⟩ 0 kX11 (km_0 b) (lm_0 b) [.int l2, .int (4 : Int32)] [] rfl rfl rfl (Nat.le_of_ble_eq_true rfl) dX11_one_94 (fun x2 s1 => ?_)
    refine j_iconst (v := (1 : Int32)) C dX11_one_97 (by decide) ?_
    refine j_icmp_ne (tgt := 112) C dX11_one_98 (by decide) ?_ ?_
    · refine j_sub (L' := [(0, .ref (adX X 0)), (1, .int l1), (2, .int l2)]) [0, 1, 2] rfl ?_
      exact jb_X11_one_112 C CR k69 hk69 n l1 l2 s1
    · refine j_aload_n C dX11_one_101 0 rfl rfl ?_
      refine j_iload_n C dX11_one_102 2 rfl rfl ?_
      refine j_callVn C (c_X11_step b n l2 s1) cw_RX11_352 ⟨rfl, rfl, Nat.le_of_ble_eq_true rfl, Nat.le_of_ble_eq_true rfl⟩ 0 kX11 (km_0 b) (lm_0 b) [.int l2] [] rfl rfl rfl (Nat.le_of_ble_eq_true rfl) dX11_one_103 (fun s3 => ?_)
      refine j_iinc (L2 := fun x4 => [(0, .ref (adX X 0)), (1, .int l1), (2, .int l2), (3, .int l3), (4, .int x4)]) C dX11_one_106 4 rfl (by decide) [1, 2, 3, 4, 0] (fun _ => rfl) (fun x4 => ?_)
      refine j_goto (tgt := 85) C dX11_one_109 (by decide) ?_
      exact hk85 l1 l2 l3 x4 s3
theorem lb_X11_one_85 {b : Bool} {X : CtxT (Int32 × Mem)} (C : Cx (YM b) X 5 cX11_one RX11 (some .int) rm_X11_one) (CR : CRi (YM b) X) (k69 : Int32 → Int32 → Mem → Option (Int32 × Mem)) (hk69 : ∀ (l1 : Int32) (l2 : Int32) (s : Mem), J (YM b) X 5 (k69 l1 l2 s) 69 [(0, .ref (adX X 0)), (1, .int l1), (2, .int l2)] [] s) : ∀ (n : Nat) (l1 : Int32) (l2 : Int32) (l3 : Int32) (l4 : Int32) (s : Mem), J (YM b) X 5 (itr4 (b_X11_one_85 k69) n l1 l2 l3 l4 s) 85 [(0, .ref (adX X 0)), (1, .int l1), (2, .int l2), (3, .int l3), (4, .int l4)] [] s := by
  intro n
  induction n with
  | zero => intros; exact j_none
  | succ n ih =>
    intro l1 l2 l3 l4 s
    exact jb_X11_one_85 C CR k69 hk69 n _ ih l1 l2 l3 l4 s
set_option maxHeartbeats 4000000 in
theorem jb_X11_one_69 {b : Bool} {X : CtxT (Int32 × Mem)} (C : Cx (YM b) X 5 cX11_one RX11 (some .int) rm_X11_one) (CR : CRi (YM b) X)  (n : Nat) (k69 : Int32 → Int32 → Mem → Option (Int32 × Mem)) (hk69 : ∀ (l1 : Int32) (l2 : Int32) (s : Mem), J (YM b) X 5 (k69 l1 l2 s) 69 [(0, .ref (adX X 0)), (1, .int l1), (2, .int l2)] [] s) (l1 : Int32) (l2 : Int32) (s : Mem) : J (YM b) X 5 (b_X11_one_69  n k69 l1 l2 s) 69 [(0, .ref (adX X 0)), (1, .int l1), (2, .int l2)] [] s := by
  unfold b_X11_one_69
  refine j_iload_n C dX11_one_69 2 rfl rfl ?_
  refine j_bipush (v := (13 : Int32)) C dX11_one_70 (by decide) ?_
  refine j_icmp_ge (tgt := 118) C dX11_one_72 (by decide) ?_ ?_
  · refine j_iload_n C dX11_one_118 1 rfl rfl ?_
    exact j_iret C CR dX11_one_119
  · refine j_aload_n C dX11_one_75 0 rfl rfl ?_
    refine j_iload_n C dX11_one_76 2 rfl rfl ?_
    refine j_iconst (v := (3 : Int32)) C dX11_one_77 (by decide) ?_
    refine j_callVi C (c_X11_actorOf b n l2 (3 : Int32) s) cw_RX11_192 ⟨rfl, rfl, Nat.le_of_ble_eq_true rfl, Nat.le_of_ble_eq_true rfl⟩ 0 kX11 (km_0 b) (lm_0 b) [.int l2, .int (3 : Int32)] [] rfl rfl rfl (Nat.le_of_ble_eq_true rfl) dX11_one_78 (fun x2 s1 => ?_)
    refine j_istore_n (L' := [(0, .ref (adX X 0)), (1, .int l1), (2, .int l2), (3, .int x2)]) C dX11_one_81 rfl (by decide) [1, 2, 3, 0] rfl ?_
    refine j_iconst (v := (0 : Int32)) C dX11_one_82 (by decide) ?_
    refine j_istore (L' := [(0, .ref (adX X 0)), (1, .int l1), (2, .int l2), (3, .int x2), (4, .int (0 : Int32))]) C dX11_one_83 (by decide) [1, 2, 3, 4, 0] rfl ?_
    exact lb_X11_one_85 C CR k69 hk69 n l1 l2 x2 (0 : Int32) s1
theorem lb_X11_one_69 {b : Bool} {X : CtxT (Int32 × Mem)} (C : Cx (YM b) X 5 cX11_one RX11 (some .int) rm_X11_one) (CR : CRi (YM b) X)  : ∀ (n : Nat) (l1 : Int32) (l2 : Int32) (s : Mem), J (YM b) X 5 (itr2 (b_X11_one_69) n l1 l2 s) 69 [(0, .ref (adX X 0)), (1, .int l1), (2, .int l2)] [] s := by
  intro n
  induction n with
  | zero => intros; exact j_none
  | succ n ih =>
    intro l1 l2 s
    exact jb_X11_one_69 C CR  n _ ih l1 l2 s
set_option maxHeartbeats 4000000 in
theorem jb_X11_one_47 {b : Bool} {X : CtxT (Int32 × Mem)} (C : Cx (YM b) X 5 cX11_one RX11 (some .int) rm_X11_one) (CR : CRi (YM b) X)  (n : Nat) (k47 : Int32 → Int32 → Mem → Option (Int32 × Mem)) (hk47 : ∀ (l1 : Int32) (l2 : Int32) (s : Mem), J (YM b) X 5 (k47 l1 l2 s) 47 [(0, .ref (adX X 0)), (1, .int l1), (2, .int l2)] [] s) (l1 : Int32) (l2 : Int32) (s : Mem) : J (YM b) X 5 (b_X11_one_47  n k47 l1 l2 s) 47 [(0, .ref (adX X 0)), (1, .int l1), (2, .int l2)] [] s := by
  unfold b_X11_one_47
  refine j_iload_n C dX11_one_47 2 rfl rfl ?_
  refine j_bipush (v := (8 : Int32)) C dX11_one_48 (by decide) ?_
  refine j_icmp_ge (tgt := 67) C dX11_one_50 (by decide) ?_ ?_
  · refine j_iconst (v := (1 : Int32)) C dX11_one_67 (by decide) ?_
    refine j_istore_n (L' := [(0, .ref (adX X 0)), (1, .int l1), (2, .int (1 : Int32))]) C dX11_one_68 rfl (by decide) [1, 2, 0] rfl ?_
    exact lb_X11_one_69 C CR  n l1 (1 : Int32) s
  · refine j_iload_n C dX11_one_53 1 rfl rfl ?_
    refine j_aload_n C dX11_one_54 0 rfl rfl ?_
    refine j_iload_n C dX11_one_55 2 rfl rfl ?_
    refine j_callVi C (c_X11_turn b n l2 s) cw_RX11_349 ⟨rfl, rfl, Nat.le_of_ble_eq_true rfl, Nat.le_of_ble_eq_true rfl⟩ 0 kX11 (km_0 b) (lm_0 b) [.int l2] [.int l1] rfl rfl rfl (Nat.le_of_ble_eq_true rfl) dX11_one_56 (fun x2 s1 => ?_)
    refine j_iadd C dX11_one_59 ?_
    refine j_top (fun x3 => ?_)
    refine j_istore_n (L' := [(0, .ref (adX X 0)), (1, .int x3), (2, .int l2)]) C dX11_one_60 rfl (by decide) [1, 0, 2] rfl ?_
    refine j_iinc (L2 := fun x4 => [(0, .ref (adX X 0)), (1, .int x3), (2, .int x4)]) C dX11_one_61 2 rfl (by decide) [1, 2, 0] (fun _ => rfl) (fun x4 => ?_)
    refine j_goto (tgt := 47) C dX11_one_64 (by decide) ?_
    exact hk47 x3 x4 s1
theorem lb_X11_one_47 {b : Bool} {X : CtxT (Int32 × Mem)} (C : Cx (YM b) X 5 cX11_one RX11 (some .int) rm_X11_one) (CR : CRi (YM b) X)  : ∀ (n : Nat) (l1 : Int32) (l2 : Int32) (s : Mem), J (YM b) X 5 (itr2 (b_X11_one_47) n l1 l2 s) 47 [(0, .ref (adX X 0)), (1, .int l1), (2, .int l2)] [] s := by
  intro n
  induction n with
  | zero => intros; exact j_none
  | succ n ih =>
    intro l1 l2 s
    exact jb_X11_one_47 C CR  n _ ih l1 l2 s
set_option maxHeartbeats 4000000 in
theorem jb_X11_one_43 {b : Bool} {X : CtxT (Int32 × Mem)} (C : Cx (YM b) X 5 cX11_one RX11 (some .int) rm_X11_one) (CR : CRi (YM b) X)  (n : Nat)   (s : Mem) : J (YM b) X 5 (b_X11_one_43  n   s) 43 [(0, .ref (adX X 0))] [] s := by
  unfold b_X11_one_43
  refine j_iconst (v := (0 : Int32)) C dX11_one_43 (by decide) ?_
  refine j_istore_n (L' := [(0, .ref (adX X 0)), (1, .int (0 : Int32))]) C dX11_one_44 rfl (by decide) [1, 0] rfl ?_
  refine j_iconst (v := (0 : Int32)) C dX11_one_45 (by decide) ?_
  refine j_istore_n (L' := [(0, .ref (adX X 0)), (1, .int (0 : Int32)), (2, .int (0 : Int32))]) C dX11_one_46 rfl (by decide) [1, 2, 0] rfl ?_
  exact lb_X11_one_47 C CR  n (0 : Int32) (0 : Int32) s
set_option maxHeartbeats 4000000 in
theorem c_X11_one (b : Bool) (n : Nat)  (s : Mem) : CTi (YM b) yX11_one cX11_one 5 (some .int) rm_X11_one (fun ad => [.ref (ad 0)]) s (f_X11_one n  s) := by
  refine CTi_of (by decide) (fun _ => Nat.le_of_ble_eq_true rfl) (fun X C CR => ?_)
  show J (YM b) X 5 (f_X11_one n  s) 0 [(0, .ref (adX X 0))] [] s
  unfold f_X11_one
  refine j_aload_n C dX11_one_0 0 rfl rfl ?_
  refine j_getR (z := 15) C kX11 (km_0 b) (lm_0 b) 27 (by decide) tw_1220 (rm_27 b) rfl dX11_one_1 ?_
  refine j_iconst (v := (0 : Int32)) C dX11_one_4 (by decide) ?_
  refine j_dup2 C dX11_one_5 rfl rfl ?_
  refine j_iald C (km_15 b) (lm_15 b) dX11_one_6 ?_
  refine j_iconst (v := (1 : Int32)) C dX11_one_7 (by decide) ?_
  refine j_iadd C dX11_one_8 ?_
  refine j_iast C (km_15 b) (lm_15 b) dX11_one_9 (fun s1 => ?_)
  refine j_aload_n C dX11_one_10 0 rfl rfl ?_
  refine j_getR (z := 15) C kX11 (km_0 b) (lm_0 b) 27 (by decide) tw_1220 (rm_27 b) rfl dX11_one_11 ?_
  refine j_bipush (v := (6 : Int32)) C dX11_one_14 (by decide) ?_
  refine j_aload_n C dX11_one_16 0 rfl rfl ?_
  refine j_getR (z := 15) C kX11 (km_0 b) (lm_0 b) 27 (by decide) tw_1220 (rm_27 b) rfl dX11_one_17 ?_
  refine j_iconst (v := (0 : Int32)) C dX11_one_20 (by decide) ?_
  refine j_iald C (km_15 b) (lm_15 b) dX11_one_21 ?_
  refine j_iast C (km_15 b) (lm_15 b) dX11_one_22 (fun s2 => ?_)
  refine j_aload_n C dX11_one_23 0 rfl rfl ?_
  refine j_getR (z := 15) C kX11 (km_0 b) (lm_0 b) 27 (by decide) tw_1220 (rm_27 b) rfl dX11_one_24 ?_
  refine j_iconst (v := (5 : Int32)) C dX11_one_27 (by decide) ?_
  refine j_iald C (km_15 b) (lm_15 b) dX11_one_28 ?_
  refine j_if_le (tgt := 43) C dX11_one_29 (by decide) ?_ ?_
  · exact jb_X11_one_43 C CR  n s2
  · refine j_aload_n C dX11_one_32 0 rfl rfl ?_
    refine j_callVi C (c_X11_isAtSentence b n  s2) cw_RX11_343 ⟨rfl, rfl, Nat.le_of_ble_eq_true rfl, Nat.le_of_ble_eq_true rfl⟩ 0 kX11 (km_0 b) (lm_0 b) [] [] rfl rfl rfl (Nat.le_of_ble_eq_true rfl) dX11_one_33 (fun x4 s3 => ?_)
    refine j_if_ne (tgt := 43) C dX11_one_36 (by decide) ?_ ?_
    · exact jb_X11_one_43 C CR  n s3
    · refine j_aload_n C dX11_one_39 0 rfl rfl ?_
      refine j_callVn C (c_X11_takesSentence b n  s3) cw_RX11_346 ⟨rfl, rfl, Nat.le_of_ble_eq_true rfl, Nat.le_of_ble_eq_true rfl⟩ 0 kX11 (km_0 b) (lm_0 b) [] [] rfl rfl rfl (Nat.le_of_ble_eq_true rfl) dX11_one_40 (fun s5 => ?_)
      exact jb_X11_one_43 C CR  n s5
set_option maxHeartbeats 4000000 in
theorem jb_X11_tick_23 {b : Bool} {X : CtxT (Int32 × Mem)} (C : Cx (YM b) X 4 cX11_tick RX11 (some .int) rm_X11_tick) (CR : CRi (YM b) X)  (n : Nat) (k23 : Int32 → Int32 → Int32 → Mem → Option (Int32 × Mem)) (hk23 : ∀ (l1 : Int32) (l2 : Int32) (l3 : Int32) (s : Mem), J (YM b) X 4 (k23 l1 l2 l3 s) 23 [(0, .ref (adX X 0)), (1, .int l1), (2, .int l2), (3, .int l3)] [] s) (l1 : Int32) (l2 : Int32) (l3 : Int32) (s : Mem) : J (YM b) X 4 (b_X11_tick_23  n k23 l1 l2 l3 s) 23 [(0, .ref (adX X 0)), (1, .int l1), (2, .int l2), (3, .int l3)] [] s := by
  unfold b_X11_tick_23
  refine j_iload_n C dX11_tick_23 3 rfl rfl ?_
  refine j_iload_n C dX11_tick_24 1 rfl rfl ?_
  refine j_icmp_ge (tgt := 41) C dX11_tick_25 (by decide) ?_ ?_
  · refine j_iload_n C dX11_tick_41 2 rfl rfl ?_
    exact j_iret C CR dX11_tick_42
  · refine j_iload_n C dX11_tick_28 2 rfl rfl ?_
    refine j_aload_n C dX11_tick_29 0 rfl rfl ?_
    refine j_callVi C (c_X11_one b n  s) cw_RX11_357 ⟨rfl, rfl, Nat.le_of_ble_eq_true rfl, Nat.le_of_ble_eq_true rfl⟩ 0 kX11 (km_0 b) (lm_0 b) [] [.int l2] rfl rfl rfl (Nat.le_of_ble_eq_true rfl) dX11_tick_30 (fun x2 s1 => ?_)
    refine j_iadd C dX11_tick_33 ?_
    refine j_top (fun x3 => ?_)
    refine j_istore_n (L' := [(0, .ref (adX X 0)), (1, .int l1), (2, .int x3), (3, .int l3)]) C dX11_tick_34 rfl (by decide) [1, 2, 0, 3] rfl ?_
    refine j_iinc (L2 := fun x4 => [(0, .ref (adX X 0)), (1, .int l1), (2, .int x3), (3, .int x4)]) C dX11_tick_35 3 rfl (by decide) [1, 2, 3, 0] (fun _ => rfl) (fun x4 => ?_)
    refine j_goto (tgt := 23) C dX11_tick_38 (by decide) ?_
    exact hk23 l1 x3 x4 s1
theorem lb_X11_tick_23 {b : Bool} {X : CtxT (Int32 × Mem)} (C : Cx (YM b) X 4 cX11_tick RX11 (some .int) rm_X11_tick) (CR : CRi (YM b) X)  : ∀ (n : Nat) (l1 : Int32) (l2 : Int32) (l3 : Int32) (s : Mem), J (YM b) X 4 (itr3 (b_X11_tick_23) n l1 l2 l3 s) 23 [(0, .ref (adX X 0)), (1, .int l1), (2, .int l2), (3, .int l3)] [] s := by
  intro n
  induction n with
  | zero => intros; exact j_none
  | succ n ih =>
    intro l1 l2 l3 s
    exact jb_X11_tick_23 C CR  n _ ih l1 l2 l3 s
set_option maxHeartbeats 4000000 in
theorem c_X11_tick (b : Bool) (n : Nat) (l1 : Int32) (s : Mem) : CTi (YM b) yX11_tick cX11_tick 4 (some .int) rm_X11_tick (fun ad => [.ref (ad 0), .int l1]) s (f_X11_tick n l1 s) := by
  refine CTi_of (by decide) (fun _ => Nat.le_of_ble_eq_true rfl) (fun X C CR => ?_)
  show J (YM b) X 4 (f_X11_tick n l1 s) 0 [(0, .ref (adX X 0)), (1, .int l1)] [] s
  unfold f_X11_tick
  refine j_aload_n C dX11_tick_0 0 rfl rfl ?_
  refine j_iconst (v := (0 : Int32)) C dX11_tick_1 (by decide) ?_
  refine j_put C kX11 (km_0 b) (lm_0 b) 0 (by decide) tw_1193 (rm_0 b) rfl rfl dX11_tick_2 (fun s1 => ?_)
  refine j_iload_n C dX11_tick_5 1 rfl rfl ?_
  refine j_i2l C dX11_tick_6 ?_
  refine j_lconst (v := 0) C dX11_tick_7 (by decide) ?_
  refine j_ldc2 (v := 200) C tw_1378 dX11_tick_8 ?_
  refine j_callSi C (c_X11_in b n l1.toInt64 (0 : Int64) (200 : Int64) s1) cw_RX11_72 ⟨rfl, rfl, Nat.le_of_ble_eq_true rfl, Nat.le_of_ble_eq_true rfl⟩ [.long l1.toInt64, .long (0 : Int64), .long (200 : Int64)] [] rfl rfl rfl (Nat.le_of_ble_eq_true rfl) dX11_tick_11 (fun x3 s2 => ?_)
  refine j_if_ne (tgt := 19) C dX11_tick_14 (by decide) ?_ ?_
  · refine j_iconst (v := (0 : Int32)) C dX11_tick_19 (by decide) ?_
    refine j_istore_n (L' := [(0, .ref (adX X 0)), (1, .int l1), (2, .int (0 : Int32))]) C dX11_tick_20 rfl (by decide) [1, 2, 0] rfl ?_
    refine j_iconst (v := (0 : Int32)) C dX11_tick_21 (by decide) ?_
    refine j_istore_n (L' := [(0, .ref (adX X 0)), (1, .int l1), (2, .int (0 : Int32)), (3, .int (0 : Int32))]) C dX11_tick_22 rfl (by decide) [1, 2, 3, 0] rfl ?_
    exact lb_X11_tick_23 C CR  n l1 (0 : Int32) (0 : Int32) s2
  · refine j_iconst (v := (-1 : Int32)) C dX11_tick_17 (by decide) ?_
    exact j_iret C CR dX11_tick_18
set_option maxHeartbeats 4000000 in
theorem c_X11_start (b : Bool) (n : Nat) (l1 : Int32) (s : Mem) : CTi (YM b) yX11_start cX11_start 2 (some .int) rm_X11_start (fun ad => [.ref (ad 0), .int l1]) s (f_X11_start n l1 s) := by
  refine CTi_of (by decide) (fun _ => Nat.le_of_ble_eq_true rfl) (fun X C CR => ?_)
  show J (YM b) X 2 (f_X11_start n l1 s) 0 [(0, .ref (adX X 0)), (1, .int l1)] [] s
  unfold f_X11_start
  refine j_aload_n C dX11_start_0 0 rfl rfl ?_
  refine j_iconst (v := (0 : Int32)) C dX11_start_1 (by decide) ?_
  refine j_put C kX11 (km_0 b) (lm_0 b) 0 (by decide) tw_1193 (rm_0 b) rfl rfl dX11_start_2 (fun s1 => ?_)
  refine j_aload_n C dX11_start_5 0 rfl rfl ?_
  refine j_iload_n C dX11_start_6 1 rfl rfl ?_
  refine j_callVi C (c_X11_started b n l1 s1) cw_RX11_298 ⟨rfl, rfl, Nat.le_of_ble_eq_true rfl, Nat.le_of_ble_eq_true rfl⟩ 0 kX11 (km_0 b) (lm_0 b) [.int l1] [] rfl rfl rfl (Nat.le_of_ble_eq_true rfl) dX11_start_7 (fun x3 s2 => ?_)
  exact j_iret C CR dX11_start_10
set_option maxHeartbeats 4000000 in
theorem c_X11_say (b : Bool) (n : Nat) (l1 : Int32) (l2 : Int32) (l3 : Int32) (s : Mem) : CTi (YM b) yX11_say cX11_say 4 (some .int) rm_X11_say (fun ad => [.ref (ad 0), .int l1, .int l2, .int l3]) s (f_X11_say n l1 l2 l3 s) := by
  refine CTi_of (by decide) (fun _ => Nat.le_of_ble_eq_true rfl) (fun X C CR => ?_)
  show J (YM b) X 4 (f_X11_say n l1 l2 l3 s) 0 [(0, .ref (adX X 0)), (1, .int l1), (2, .int l2), (3, .int l3)] [] s
  unfold f_X11_say
  refine j_aload_n C dX11_say_0 0 rfl rfl ?_
  refine j_iconst (v := (0 : Int32)) C dX11_say_1 (by decide) ?_
  refine j_put C kX11 (km_0 b) (lm_0 b) 0 (by decide) tw_1193 (rm_0 b) rfl rfl dX11_say_2 (fun s1 => ?_)
  refine j_aload_n C dX11_say_5 0 rfl rfl ?_
  refine j_iload_n C dX11_say_6 1 rfl rfl ?_
  refine j_iload_n C dX11_say_7 2 rfl rfl ?_
  refine j_iload_n C dX11_say_8 3 rfl rfl ?_
  refine j_callVi C (c_X11_says b n l1 l2 l3 s1) cw_RX11_321 ⟨rfl, rfl, Nat.le_of_ble_eq_true rfl, Nat.le_of_ble_eq_true rfl⟩ 0 kX11 (km_0 b) (lm_0 b) [.int l1, .int l2, .int l3] [] rfl rfl rfl (Nat.le_of_ble_eq_true rfl) dX11_say_9 (fun x3 s2 => ?_)
  exact j_iret C CR dX11_say_12
set_option maxHeartbeats 4000000 in
theorem jb_X11_walk_27 {b : Bool} {X : CtxT (Int32 × Mem)} (C : Cx (YM b) X 4 cX11_walk RX11 (some .boolean) rm_X11_walk) (CR : CRi (YM b) X)  (n : Nat)   (s : Mem) : J (YM b) X 4 (b_X11_walk_27  n   s) 27 [] [] s := by
  unfold b_X11_walk_27
  refine j_iconst (v := (0 : Int32)) C dX11_walk_27 (by decide) ?_
  exact j_zret C CR dX11_walk_28
set_option maxHeartbeats 4000000 in
theorem c_X11_walk (b : Bool) (n : Nat) (l1 : Int32) (l2 : Int32) (l3 : Int32) (s : Mem) : CTi (YM b) yX11_walk cX11_walk 4 (some .boolean) rm_X11_walk (fun ad => [.ref (ad 0), .int l1, .int l2, .int l3]) s (f_X11_walk n l1 l2 l3 s) := by
  refine CTi_of (by decide) (fun _ => Nat.le_of_ble_eq_true rfl) (fun X C CR => ?_)
  show J (YM b) X 4 (f_X11_walk n l1 l2 l3 s) 0 [(0, .ref (adX X 0)), (1, .int l1), (2, .int l2), (3, .int l3)] [] s
  unfold f_X11_walk
  refine j_aload_n C dX11_walk_0 0 rfl rfl ?_
  refine j_iconst (v := (0 : Int32)) C dX11_walk_1 (by decide) ?_
  refine j_put C kX11 (km_0 b) (lm_0 b) 0 (by decide) tw_1193 (rm_0 b) rfl rfl dX11_walk_2 (fun s1 => ?_)
  refine j_aload_n C dX11_walk_5 0 rfl rfl ?_
  refine j_iload_n C dX11_walk_6 1 rfl rfl ?_
  refine j_callVi C (c_X11_isActor b n l1 s1) cw_RX11_284 ⟨rfl, rfl, Nat.le_of_ble_eq_true rfl, Nat.le_of_ble_eq_true rfl⟩ 0 kX11 (km_0 b) (lm_0 b) [.int l1] [] rfl rfl rfl (Nat.le_of_ble_eq_true rfl) dX11_walk_7 (fun x3 s2 => ?_)
  refine j_if_eq (tgt := 27) C dX11_walk_10 (by decide) ?_ ?_
  · refine j_sub (L' := []) [] rfl ?_
    exact jb_X11_walk_27 C CR  n s2
  · refine j_iload_n C dX11_walk_13 2 rfl rfl ?_
    refine j_callSi C (c_X11_isByte b n l2 s2) cw_RX11_287 ⟨rfl, rfl, Nat.le_of_ble_eq_true rfl, Nat.le_of_ble_eq_true rfl⟩ [.int l2] [] rfl rfl rfl (Nat.le_of_ble_eq_true rfl) dX11_walk_14 (fun x5 s4 => ?_)
    refine j_if_eq (tgt := 27) C dX11_walk_17 (by decide) ?_ ?_
    · refine j_sub (L' := []) [] rfl ?_
      exact jb_X11_walk_27 C CR  n s4
    · refine j_iload_n C dX11_walk_20 3 rfl rfl ?_
      refine j_callSi C (c_X11_isByte b n l3 s4) cw_RX11_287 ⟨rfl, rfl, Nat.le_of_ble_eq_true rfl, Nat.le_of_ble_eq_true rfl⟩ [.int l3] [] rfl rfl rfl (Nat.le_of_ble_eq_true rfl) dX11_walk_21 (fun x7 s6 => ?_)
      refine j_if_ne (tgt := 29) C dX11_walk_24 (by decide) ?_ ?_
      · refine j_aload_n C dX11_walk_29 0 rfl rfl ?_
        refine j_iload_n C dX11_walk_30 1 rfl rfl ?_
        refine j_iload_n C dX11_walk_31 2 rfl rfl ?_
        refine j_iload_n C dX11_walk_32 3 rfl rfl ?_
        refine j_callVn C (c_X11_walks b n l1 l2 l3 s6) cw_RX11_318 ⟨rfl, rfl, Nat.le_of_ble_eq_true rfl, Nat.le_of_ble_eq_true rfl⟩ 0 kX11 (km_0 b) (lm_0 b) [.int l1, .int l2, .int l3] [] rfl rfl rfl (Nat.le_of_ble_eq_true rfl) dX11_walk_33 (fun s8 => ?_)
        refine j_iconst (v := (1 : Int32)) C dX11_walk_36 (by decide) ?_
        exact j_zret C CR dX11_walk_37
      · refine j_sub (L' := []) [] rfl ?_
        exact jb_X11_walk_27 C CR  n s6
set_option maxHeartbeats 4000000 in
theorem c_X11_set (b : Bool) (n : Nat) (l1 : Int32) (l2 : Int32) (s : Mem) : CTi (YM b) yX11_set cX11_set 4 (some .int) rm_X11_set (fun ad => [.ref (ad 0), .int l1, .int l2]) s (f_X11_set n l1 l2 s) := by
  refine CTi_of (by decide) (fun _ => Nat.le_of_ble_eq_true rfl) (fun X C CR => ?_)
  show J (YM b) X 4 (f_X11_set n l1 l2 s) 0 [(0, .ref (adX X 0)), (1, .int l1), (2, .int l2)] [] s
  unfold f_X11_set
  refine j_aload_n C dX11_set_0 0 rfl rfl ?_
  refine j_iconst (v := (0 : Int32)) C dX11_set_1 (by decide) ?_
  refine j_put C kX11 (km_0 b) (lm_0 b) 0 (by decide) tw_1193 (rm_0 b) rfl rfl dX11_set_2 (fun s1 => ?_)
  refine j_iload_n C dX11_set_5 1 rfl rfl ?_
  refine j_i2l C dX11_set_6 ?_
  refine j_lconst (v := 0) C dX11_set_7 (by decide) ?_
  refine j_ldc2 (v := 63) C tw_1449 dX11_set_8 ?_
  refine j_callSi C (c_X11_in b n l1.toInt64 (0 : Int64) (63 : Int64) s1) cw_RX11_72 ⟨rfl, rfl, Nat.le_of_ble_eq_true rfl, Nat.le_of_ble_eq_true rfl⟩ [.long l1.toInt64, .long (0 : Int64), .long (63 : Int64)] [] rfl rfl rfl (Nat.le_of_ble_eq_true rfl) dX11_set_11 (fun x3 s2 => ?_)
  refine j_if_ne (tgt := 22) C dX11_set_14 (by decide) ?_ ?_
  · refine j_aload_n C dX11_set_22 0 rfl rfl ?_
    refine j_getR (z := 15) C kX11 (km_0 b) (lm_0 b) 27 (by decide) tw_1220 (rm_27 b) rfl dX11_set_23 ?_
    refine j_bipush (v := (6 : Int32)) C dX11_set_26 (by decide) ?_
    refine j_iload_n C dX11_set_28 1 rfl rfl ?_
    refine j_iadd C dX11_set_29 ?_
    refine j_iald C (km_15 b) (lm_15 b) dX11_set_30 ?_
    refine j_istore_n (L' := [(0, .ref (adX X 0)), (1, .int l1), (2, .int l2), (3, .int (s2 15 ((6 : Int32) + l1).toNatClampNeg))]) C dX11_set_31 rfl (by decide) [1, 2, 3, 0] rfl ?_
    refine j_aload_n C dX11_set_32 0 rfl rfl ?_
    refine j_getR (z := 15) C kX11 (km_0 b) (lm_0 b) 27 (by decide) tw_1220 (rm_27 b) rfl dX11_set_33 ?_
    refine j_bipush (v := (6 : Int32)) C dX11_set_36 (by decide) ?_
    refine j_iload_n C dX11_set_38 1 rfl rfl ?_
    refine j_iadd C dX11_set_39 ?_
    refine j_iload_n C dX11_set_40 2 rfl rfl ?_
    refine j_iast C (km_15 b) (lm_15 b) dX11_set_41 (fun s4 => ?_)
    refine j_iload_n C dX11_set_42 3 rfl rfl ?_
    exact j_iret C CR dX11_set_43
  · refine j_aload_n C dX11_set_17 0 rfl rfl ?_
    refine j_callVi C (c_X11_refuse b n  s2) cw_RX11_135 ⟨rfl, rfl, Nat.le_of_ble_eq_true rfl, Nat.le_of_ble_eq_true rfl⟩ 0 kX11 (km_0 b) (lm_0 b) [] [] rfl rfl rfl (Nat.le_of_ble_eq_true rfl) dX11_set_18 (fun x6 s5 => ?_)
    exact j_iret C CR dX11_set_21
set_option maxHeartbeats 4000000 in
theorem jb_X11_variable_33 {b : Bool} {X : CtxT (Int32 × Mem)} (C : Cx (YM b) X 2 cX11_variable RX11 (some .int) rm_X11_variable) (CR : CRi (YM b) X)  (n : Nat)  (t0 : Int32) (s : Mem) : J (YM b) X 2 (b_X11_variable_33  n  t0 s) 33 [] [.int t0] s := by
  unfold b_X11_variable_33
  exact j_iret C CR dX11_variable_33
set_option maxHeartbeats 4000000 in
theorem c_X11_variable (b : Bool) (n : Nat) (l1 : Int32) (s : Mem) : CTi (YM b) yX11_variable cX11_variable 2 (some .int) rm_X11_variable (fun ad => [.ref (ad 0), .int l1]) s (f_X11_variable n l1 s) := by
  refine CTi_of (by decide) (fun _ => Nat.le_of_ble_eq_true rfl) (fun X C CR => ?_)
  show J (YM b) X 2 (f_X11_variable n l1 s) 0 [(0, .ref (adX X 0)), (1, .int l1)] [] s
  unfold f_X11_variable
  refine j_aload_n C dX11_variable_0 0 rfl rfl ?_
  refine j_iconst (v := (0 : Int32)) C dX11_variable_1 (by decide) ?_
  refine j_put C kX11 (km_0 b) (lm_0 b) 0 (by decide) tw_1193 (rm_0 b) rfl rfl dX11_variable_2 (fun s1 => ?_)
  refine j_iload_n C dX11_variable_5 1 rfl rfl ?_
  refine j_i2l C dX11_variable_6 ?_
  refine j_lconst (v := 0) C dX11_variable_7 (by decide) ?_
  refine j_ldc2 (v := 63) C tw_1449 dX11_variable_8 ?_
  refine j_callSi C (c_X11_in b n l1.toInt64 (0 : Int64) (63 : Int64) s1) cw_RX11_72 ⟨rfl, rfl, Nat.le_of_ble_eq_true rfl, Nat.le_of_ble_eq_true rfl⟩ [.long l1.toInt64, .long (0 : Int64), .long (63 : Int64)] [] rfl rfl rfl (Nat.le_of_ble_eq_true rfl) dX11_variable_11 (fun x3 s2 => ?_)
  refine j_if_eq (tgt := 29) C dX11_variable_14 (by decide) ?_ ?_
  · refine j_aload_n C dX11_variable_29 0 rfl rfl ?_
    refine j_callVi C (c_X11_refuse b n  s2) cw_RX11_135 ⟨rfl, rfl, Nat.le_of_ble_eq_true rfl, Nat.le_of_ble_eq_true rfl⟩ 0 kX11 (km_0 b) (lm_0 b) [] [] rfl rfl rfl (Nat.le_of_ble_eq_true rfl) dX11_variable_30 (fun x5 s4 => ?_)
    refine j_sub (L' := []) [] rfl ?_
    exact jb_X11_variable_33 C CR  n x5 s4
  · refine j_aload_n C dX11_variable_17 0 rfl rfl ?_
    refine j_getR (z := 15) C kX11 (km_0 b) (lm_0 b) 27 (by decide) tw_1220 (rm_27 b) rfl dX11_variable_18 ?_
    refine j_bipush (v := (6 : Int32)) C dX11_variable_21 (by decide) ?_
    refine j_iload_n C dX11_variable_23 1 rfl rfl ?_
    refine j_iadd C dX11_variable_24 ?_
    refine j_iald C (km_15 b) (lm_15 b) dX11_variable_25 ?_
    refine j_goto (tgt := 33) C dX11_variable_26 (by decide) ?_
    refine j_sub (L' := []) [] rfl ?_
    exact jb_X11_variable_33 C CR  n (s2 15 ((6 : Int32) + l1).toNatClampNeg) s2
set_option maxHeartbeats 4000000 in
theorem jb_X11_slot_39 {b : Bool} {X : CtxT (Int32 × Mem)} (C : Cx (YM b) X 3 cX11_slot RX11 (some .int) rm_X11_slot) (CR : CRi (YM b) X)  (n : Nat)  (t0 : Int32) (s : Mem) : J (YM b) X 3 (b_X11_slot_39  n  t0 s) 39 [] [.int t0] s := by
  unfold b_X11_slot_39
  exact j_iret C CR dX11_slot_39
set_option maxHeartbeats 4000000 in
theorem jb_X11_slot_38 {b : Bool} {X : CtxT (Int32 × Mem)} (C : Cx (YM b) X 3 cX11_slot RX11 (some .int) rm_X11_slot) (CR : CRi (YM b) X)  (n : Nat)   (s : Mem) : J (YM b) X 3 (b_X11_slot_38  n   s) 38 [] [] s := by
  unfold b_X11_slot_38
  refine j_iconst (v := (-1 : Int32)) C dX11_slot_38 (by decide) ?_
  exact jb_X11_slot_39 C CR  n (-1 : Int32) s
set_option maxHeartbeats 4000000 in
theorem c_X11_slot (b : Bool) (n : Nat) (l1 : Int32) (l2 : Int32) (s : Mem) : CTi (YM b) yX11_slot cX11_slot 3 (some .int) rm_X11_slot (fun ad => [.ref (ad 0), .int l1, .int l2]) s (f_X11_slot n l1 l2 s) := by
  refine CTi_of (by decide) (fun _ => Nat.le_of_ble_eq_true rfl) (fun X C CR => ?_)
  show J (YM b) X 3 (f_X11_slot n l1 l2 s) 0 [(0, .ref (adX X 0)), (1, .int l1), (2, .int l2)] [] s
  unfold f_X11_slot
  refine j_aload_n C dX11_slot_0 0 rfl rfl ?_
  refine j_iconst (v := (0 : Int32)) C dX11_slot_1 (by decide) ?_
  refine j_put C kX11 (km_0 b) (lm_0 b) 0 (by decide) tw_1193 (rm_0 b) rfl rfl dX11_slot_2 (fun s1 => ?_)
  refine j_iload_n C dX11_slot_5 1 rfl rfl ?_
  refine j_i2l C dX11_slot_6 ?_
  refine j_lconst (v := 0) C dX11_slot_7 (by decide) ?_
  refine j_ldc2 (v := 7) C tw_1463 dX11_slot_8 ?_
  refine j_callSi C (c_X11_in b n l1.toInt64 (0 : Int64) (7 : Int64) s1) cw_RX11_72 ⟨rfl, rfl, Nat.le_of_ble_eq_true rfl, Nat.le_of_ble_eq_true rfl⟩ [.long l1.toInt64, .long (0 : Int64), .long (7 : Int64)] [] rfl rfl rfl (Nat.le_of_ble_eq_true rfl) dX11_slot_11 (fun x3 s2 => ?_)
  refine j_if_eq (tgt := 38) C dX11_slot_14 (by decide) ?_ ?_
  · refine j_sub (L' := []) [] rfl ?_
    exact jb_X11_slot_38 C CR  n s2
  · refine j_iload_n C dX11_slot_17 2 rfl rfl ?_
    refine j_i2l C dX11_slot_18 ?_
    refine j_lconst (v := 0) C dX11_slot_19 (by decide) ?_
    refine j_ldc2 (v := 9) C tw_1597 dX11_slot_20 ?_
    refine j_callSi C (c_X11_in b n l2.toInt64 (0 : Int64) (9 : Int64) s2) cw_RX11_72 ⟨rfl, rfl, Nat.le_of_ble_eq_true rfl, Nat.le_of_ble_eq_true rfl⟩ [.long l2.toInt64, .long (0 : Int64), .long (9 : Int64)] [] rfl rfl rfl (Nat.le_of_ble_eq_true rfl) dX11_slot_23 (fun x5 s4 => ?_)
    refine j_if_eq (tgt := 38) C dX11_slot_26 (by decide) ?_ ?_
    · refine j_sub (L' := []) [] rfl ?_
      exact jb_X11_slot_38 C CR  n s4
    · refine j_aload_n C dX11_slot_29 0 rfl rfl ?_
      refine j_iload_n C dX11_slot_30 1 rfl rfl ?_
      refine j_iload_n C dX11_slot_31 2 rfl rfl ?_
      refine j_callVi C (c_X11_of b n l1 l2 s4) cw_RX11_158 ⟨rfl, rfl, Nat.le_of_ble_eq_true rfl, Nat.le_of_ble_eq_true rfl⟩ 0 kX11 (km_0 b) (lm_0 b) [.int l1, .int l2] [] rfl rfl rfl (Nat.le_of_ble_eq_true rfl) dX11_slot_32 (fun x7 s6 => ?_)
      refine j_goto (tgt := 39) C dX11_slot_35 (by decide) ?_
      refine j_sub (L' := []) [] rfl ?_
      exact jb_X11_slot_39 C CR  n x7 s6
