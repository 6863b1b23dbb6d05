set_option maxHeartbeats 4000000 in
theorem jb_X11_step_184 {b : Bool} {X : CtxT Mem} (C : Cx (YM b) X 10 cX11_step RX11 none rm_X11_step) (CR : CRn (YM b) X) (k133 : Int32 → Int32 → Int32 → Int32 → Int32 → Int32 → Mem → Option Mem) (hk133 : ∀ (l1 : Int32) (l2 : Int32) (l3 : Int32) (l4 : Int32) (l5 : Int32) (l8 : Int32) (s : Mem), J (YM b) X 10 (k133 l1 l2 l3 l4 l5 l8 s) 133 [(0, .ref (adX X 0)), (1, .int l1), (2, .int l2), (3, .int l3), (4, .int l4), (5, .int l5), (8, .int l8)] [] s) (n : Nat)  (l1 : Int32) (l2 : Int32) (l3 : Int32) (l4 : Int32) (l5 : Int32) (l8 : Int32) (s : Mem) : J (YM b) X 10 (b_X11_step_184 k133 n  l1 l2 l3 l4 l5 l8 s) 184 [(0, .ref (adX X 0)), (1, .int l1), (2, .int l2), (3, .int l3), (4, .int l4), (5, .int l5), (8, .int l8)] [] s := by
  unfold b_X11_step_184
  refine j_iinc (L2 := fun x1 => [(0, .ref (adX X 0)), (1, .int l1), (2, .int l2), (3, .int l3), (4, .int l4), (5, .int l5), (8, .int x1)]) C dX11_step_184 6 rfl (by decide) [1, 2, 3, 4, 5, 6, 0] (fun _ => rfl) (fun x1 => ?_)
  refine j_goto (tgt := 133) C dX11_step_187 (by decide) ?_
  exact hk133 l1 l2 l3 l4 l5 x1 s
set_option maxHeartbeats 4000000 in
theorem jb_X11_step_311 {b : Bool} {X : CtxT Mem} (C : Cx (YM b) X 10 cX11_step RX11 none rm_X11_step) (CR : CRn (YM b) X)  (n : Nat)   (s : Mem) : J (YM b) X 10 (b_X11_step_311  n   s) 311 [] [] s := by
  unfold b_X11_step_311
  exact j_vret C CR dX11_step_311
set_option maxHeartbeats 4000000 in
theorem jb_X11_step_281 {b : Bool} {X : CtxT Mem} (C : Cx (YM b) X 10 cX11_step RX11 none rm_X11_step) (CR : CRn (YM b) X)  (n : Nat)  (l1 : Int32) (l3 : Int32) (l9 : Int32) (s : Mem) : J (YM b) X 10 (b_X11_step_281  n  l1 l3 l9 s) 281 [(0, .ref (adX X 0)), (1, .int l1), (3, .int l3), (9, .int l9)] [] s := by
  unfold b_X11_step_281
  refine j_aload_n C dX11_step_281 0 rfl rfl ?_
  refine j_iload_n C dX11_step_282 1 rfl rfl ?_
  refine j_iconst (v := (1 : Int32)) C dX11_step_283 (by decide) ?_
  refine j_iload_n C dX11_step_284 2 rfl rfl ?_
  refine j_iload C dX11_step_285 3 rfl ?_
  refine j_iadd C dX11_step_287 ?_
  refine j_callVn C (c_X11_actorTo b n l1 (1 : Int32) (l3 + l9) s) cw_RX11_223 ⟨rfl, rfl, Nat.le_of_ble_eq_true rfl, Nat.le_of_ble_eq_true rfl⟩ 0 kX11 (km_0 b) (lm_0 b) [.int l1, .int (1 : Int32), .int (l3 + l9)] [] rfl rfl rfl (Nat.le_of_ble_eq_true rfl) dX11_step_288 (fun s1 => ?_)
  refine j_goto (tgt := 311) C dX11_step_291 (by decide) ?_
  refine j_sub (L' := []) [] rfl ?_
  exact jb_X11_step_311 C CR  n s1
set_option maxHeartbeats 4000000 in
theorem jb_X11_step_294 {b : Bool} {X : CtxT Mem} (C : Cx (YM b) X 10 cX11_step RX11 none rm_X11_step) (CR : CRn (YM b) X)  (n : Nat)  (l1 : Int32) (l4 : Int32) (l7 : Int32) (s : Mem) : J (YM b) X 10 (b_X11_step_294  n  l1 l4 l7 s) 294 [(0, .ref (adX X 0)), (1, .int l1), (4, .int l4), (7, .int l7)] [] s := by
  unfold b_X11_step_294
  refine j_aload_n C dX11_step_294 0 rfl rfl ?_
  refine j_iload_n C dX11_step_295 1 rfl rfl ?_
  refine j_iconst (v := (2 : Int32)) C dX11_step_296 (by decide) ?_
  refine j_iload C dX11_step_297 2 rfl ?_
  refine j_iload C dX11_step_299 3 rfl ?_
  refine j_iload C dX11_step_301 2 rfl ?_
  refine j_isub C dX11_step_303 ?_
  refine j_callSi C (c_J6_signum_0f7a4 (YM b) n (l7 - l4) s) cw_RX11_230 ⟨rfl, rfl, Nat.le_of_ble_eq_true rfl, Nat.le_of_ble_eq_true rfl⟩ [.int (l7 - l4)] [.int l4, .int (2 : Int32), .int l1, .ref (adX X 0)] rfl rfl rfl (Nat.le_of_ble_eq_true rfl) dX11_step_304 (fun x2 s1 => ?_)
  refine j_iadd C dX11_step_307 ?_
  refine j_callVn C (c_X11_actorTo b n l1 (2 : Int32) (l4 + x2) s1) cw_RX11_223 ⟨rfl, rfl, Nat.le_of_ble_eq_true rfl, Nat.le_of_ble_eq_true rfl⟩ 0 kX11 (km_0 b) (lm_0 b) [.int l1, .int (2 : Int32), .int (l4 + x2)] [] rfl rfl rfl (Nat.le_of_ble_eq_true rfl) dX11_step_308 (fun s3 => ?_)
  refine j_sub (L' := []) [] rfl ?_
  exact jb_X11_step_311 C CR  n s3
set_option maxHeartbeats 4000000 in
theorem jb_X11_step_235 {b : Bool} {X : CtxT Mem} (C : Cx (YM b) X 10 cX11_step RX11 none rm_X11_step) (CR : CRn (YM b) X)  (n : Nat)  (l1 : Int32) (l2 : Int32) (l3 : Int32) (l4 : Int32) (l5 : Int32) (l6 : Int32) (l7 : Int32) (l8 : Int32) (s : Mem) : J (YM b) X 10 (b_X11_step_235  n  l1 l2 l3 l4 l5 l6 l7 l8 s) 235 [(0, .ref (adX X 0)), (1, .int l1), (2, .int l2), (3, .int l3), (4, .int l4), (5, .int l5), (6, .int l6), (7, .int l7), (8, .int l8)] [] s := by
  unfold b_X11_step_235
  refine j_iload C dX11_step_235 6 rfl ?_
  refine j_iload_n C dX11_step_237 3 rfl rfl ?_
  refine j_isub C dX11_step_238 ?_
  refine j_callSi C (c_J6_signum_0f7a4 (YM b) n (l6 - l3) s) cw_RX11_230 ⟨rfl, rfl, Nat.le_of_ble_eq_true rfl, Nat.le_of_ble_eq_true rfl⟩ [.int (l6 - l3)] [] rfl rfl rfl (Nat.le_of_ble_eq_true rfl) dX11_step_239 (fun x2 s1 => ?_)
  refine j_istore (L' := [(0, .ref (adX X 0)), (1, .int l1), (2, .int l2), (3, .int l3), (4, .int l4), (5, .int l5), (6, .int l6), (7, .int l7), (8, .int l8), (9, .int x2)]) C dX11_step_242 (by decide) [1, 2, 3, 4, 5, 6, 7, 8, 9, 0] rfl ?_
  refine j_iload C dX11_step_244 9 rfl ?_
  refine j_if_eq (tgt := 294) C dX11_step_246 (by decide) ?_ ?_
  · refine j_sub (L' := [(0, .ref (adX X 0)), (1, .int l1), (4, .int l4), (7, .int l7)]) [0, 1, 4, 7] rfl ?_
    exact jb_X11_step_294 C CR  n l1 l4 l7 s1
  · refine j_aload_n C dX11_step_249 0 rfl rfl ?_
    refine j_iload_n C dX11_step_250 2 rfl rfl ?_
    refine j_iload C dX11_step_251 5 rfl ?_
    refine j_iload_n C dX11_step_253 3 rfl rfl ?_
    refine j_iload C dX11_step_254 9 rfl ?_
    refine j_iadd C dX11_step_256 ?_
    refine j_iload C dX11_step_257 4 rfl ?_
    refine j_callVi C (c_X11_has b n l2 l5 (l3 + x2) l4 s1) cw_RX11_188 ⟨rfl, rfl, Nat.le_of_ble_eq_true rfl, Nat.le_of_ble_eq_true rfl⟩ 0 kX11 (km_0 b) (lm_0 b) [.int l2, .int l5, .int (l3 + x2), .int l4] [] rfl rfl rfl (Nat.le_of_ble_eq_true rfl) dX11_step_259 (fun x4 s3 => ?_)
    refine j_if_ne (tgt := 281) C dX11_step_262 (by decide) ?_ ?_
    · refine j_sub (L' := [(0, .ref (adX X 0)), (1, .int l1), (3, .int l3), (9, .int x2)]) [0, 1, 3, 9] rfl ?_
      exact jb_X11_step_281 C CR  n l1 l3 x2 s3
    · refine j_aload_n C dX11_step_265 0 rfl rfl ?_
      refine j_iload_n C dX11_step_266 2 rfl rfl ?_
      refine j_iload C dX11_step_267 8 rfl ?_
      refine j_iload_n C dX11_step_269 3 rfl rfl ?_
      refine j_iload C dX11_step_270 9 rfl ?_
      refine j_iadd C dX11_step_272 ?_
      refine j_iload C dX11_step_273 4 rfl ?_
      refine j_callVi C (c_X11_has b n l2 l8 (l3 + x2) l4 s3) cw_RX11_188 ⟨rfl, rfl, Nat.le_of_ble_eq_true rfl, Nat.le_of_ble_eq_true rfl⟩ 0 kX11 (km_0 b) (lm_0 b) [.int l2, .int l8, .int (l3 + x2), .int l4] [] rfl rfl rfl (Nat.le_of_ble_eq_true rfl) dX11_step_275 (fun x6 s5 => ?_)
      refine j_if_eq (tgt := 294) C dX11_step_278 (by decide) ?_ ?_
      · refine j_sub (L' := [(0, .ref (adX X 0)), (1, .int l1), (4, .int l4), (7, .int l7)]) [0, 1, 4, 7] rfl ?_
        exact jb_X11_step_294 C CR  n l1 l4 l7 s5
      · refine j_sub (L' := [(0, .ref (adX X 0)), (1, .int l1), (3, .int l3), (9, .int x2)]) [0, 1, 3, 9] rfl ?_
        exact jb_X11_step_281 C CR  n l1 l3 x2 s5
set_option maxHeartbeats 4000000 in
theorem jb_X11_step_133 {b : Bool} {X : CtxT Mem} (C : Cx (YM b) X 10 cX11_step RX11 none rm_X11_step) (CR : CRn (YM b) X)  (n : Nat) (k133 : Int32 → Int32 → Int32 → Int32 → Int32 → Int32 → Mem → Option Mem) (hk133 : ∀ (l1 : Int32) (l2 : Int32) (l3 : Int32) (l4 : Int32) (l5 : Int32) (l8 : Int32) (s : Mem), J (YM b) X 10 (k133 l1 l2 l3 l4 l5 l8 s) 133 [(0, .ref (adX X 0)), (1, .int l1), (2, .int l2), (3, .int l3), (4, .int l4), (5, .int l5), (8, .int l8)] [] s) (l1 : Int32) (l2 : Int32) (l3 : Int32) (l4 : Int32) (l5 : Int32) (l8 : Int32) (s : Mem) : J (YM b) X 10 (b_X11_step_133  n k133 l1 l2 l3 l4 l5 l8 s) 133 [(0, .ref (adX X 0)), (1, .int l1), (2, .int l2), (3, .int l3), (4, .int l4), (5, .int l5), (8, .int l8)] [] s := by
  unfold b_X11_step_133
  refine j_aload_n C dX11_step_133 0 rfl rfl ?_
  refine j_getR (z := 17) C kX11 (km_0 b) (lm_0 b) 30 (by decide) tw_1223 (rm_30 b) rfl dX11_step_134 ?_
  refine j_iload C dX11_step_137 6 rfl ?_
  refine j_iald C (km_17 b) (lm_17 b) dX11_step_139 ?_
  refine j_if_le (tgt := 184) C dX11_step_140 (by decide) ?_ ?_
  · exact jb_X11_step_184 C CR k133 hk133 n l1 l2 l3 l4 l5 l8 s
  · refine j_aload_n C dX11_step_143 0 rfl rfl ?_
    refine j_getR (z := 17) C kX11 (km_0 b) (lm_0 b) 30 (by decide) tw_1223 (rm_30 b) rfl dX11_step_144 ?_
    refine j_iload C dX11_step_147 6 rfl ?_
    refine j_iald C (km_17 b) (lm_17 b) dX11_step_149 ?_
    refine j_aload_n C dX11_step_150 0 rfl rfl ?_
    refine j_getR (z := 17) C kX11 (km_0 b) (lm_0 b) 30 (by decide) tw_1223 (rm_30 b) rfl dX11_step_151 ?_
    refine j_iload C dX11_step_154 5 rfl ?_
    refine j_iald C (km_17 b) (lm_17 b) dX11_step_156 ?_
    refine j_iconst (v := (1 : Int32)) C dX11_step_157 (by decide) ?_
    refine j_isub C dX11_step_158 ?_
    refine j_icmp_ne (tgt := 184) C dX11_step_159 (by decide) ?_ ?_
    · exact jb_X11_step_184 C CR k133 hk133 n l1 l2 l3 l4 l5 l8 s
    · refine j_aload_n C dX11_step_162 0 rfl rfl ?_
      refine j_iload_n C dX11_step_163 2 rfl rfl ?_
      refine j_iload C dX11_step_164 6 rfl ?_
      refine j_callVi C (c_X11_isOpen b n l2 l8 s) cw_RX11_184 ⟨rfl, rfl, Nat.le_of_ble_eq_true rfl, Nat.le_of_ble_eq_true rfl⟩ 0 kX11 (km_0 b) (lm_0 b) [.int l2, .int l8] [] rfl rfl rfl (Nat.le_of_ble_eq_true rfl) dX11_step_166 (fun x2 s1 => ?_)
      refine j_if_eq (tgt := 184) C dX11_step_169 (by decide) ?_ ?_
      · exact jb_X11_step_184 C CR k133 hk133 n l1 l2 l3 l4 l5 l8 s1
      · refine j_aload_n C dX11_step_172 0 rfl rfl ?_
        refine j_iload_n C dX11_step_173 2 rfl rfl ?_
        refine j_iload C dX11_step_174 5 rfl ?_
        refine j_iload C dX11_step_176 6 rfl ?_
        refine j_callVi C (c_X11_near b n l2 l5 l8 s1) cw_RX11_198 ⟨rfl, rfl, Nat.le_of_ble_eq_true rfl, Nat.le_of_ble_eq_true rfl⟩ 0 kX11 (km_0 b) (lm_0 b) [.int l2, .int l5, .int l8] [] rfl rfl rfl (Nat.le_of_ble_eq_true rfl) dX11_step_178 (fun x4 s3 => ?_)
        refine j_if_ne (tgt := 190) C dX11_step_181 (by decide) ?_ ?_
        · refine j_iload_n C dX11_step_190 3 rfl rfl ?_
          refine j_aload_n C dX11_step_191 0 rfl rfl ?_
          refine j_iload_n C dX11_step_192 2 rfl rfl ?_
          refine j_iload C dX11_step_193 6 rfl ?_
          refine j_iconst (v := (0 : Int32)) C dX11_step_195 (by decide) ?_
          refine j_callVi C (c_X11_side b n l2 l8 (0 : Int32) s3) cw_RX11_168 ⟨rfl, rfl, Nat.le_of_ble_eq_true rfl, Nat.le_of_ble_eq_true rfl⟩ 0 kX11 (km_0 b) (lm_0 b) [.int l2, .int l8, .int (0 : Int32)] [.int l3] rfl rfl rfl (Nat.le_of_ble_eq_true rfl) dX11_step_196 (fun x6 s5 => ?_)
          refine j_aload_n C dX11_step_199 0 rfl rfl ?_
          refine j_iload_n C dX11_step_200 2 rfl rfl ?_
          refine j_iload C dX11_step_201 6 rfl ?_
          refine j_iconst (v := (2 : Int32)) C dX11_step_203 (by decide) ?_
          refine j_callVi C (c_X11_side b n l2 l8 (2 : Int32) s5) cw_RX11_168 ⟨rfl, rfl, Nat.le_of_ble_eq_true rfl, Nat.le_of_ble_eq_true rfl⟩ 0 kX11 (km_0 b) (lm_0 b) [.int l2, .int l8, .int (2 : Int32)] [.int x6, .int l3] rfl rfl rfl (Nat.le_of_ble_eq_true rfl) dX11_step_204 (fun x8 s7 => ?_)
          refine j_callSi C (c_X11_within b n l3 x6 x8 s7) cw_RX11_208 ⟨rfl, rfl, Nat.le_of_ble_eq_true rfl, Nat.le_of_ble_eq_true rfl⟩ [.int l3, .int x6, .int x8] [] rfl rfl rfl (Nat.le_of_ble_eq_true rfl) dX11_step_207 (fun x10 s9 => ?_)
          refine j_istore (L' := [(0, .ref (adX X 0)), (1, .int l1), (2, .int l2), (3, .int l3), (4, .int l4), (5, .int l5), (6, .int x10), (8, .int l8)]) C dX11_step_210 (by decide) [1, 2, 3, 4, 5, 6, 0, 7] rfl ?_
          refine j_iload C dX11_step_212 4 rfl ?_
          refine j_aload_n C dX11_step_214 0 rfl rfl ?_
          refine j_iload_n C dX11_step_215 2 rfl rfl ?_
          refine j_iload C dX11_step_216 7 rfl ?_
          refine j_iconst (v := (1 : Int32)) C dX11_step_218 (by decide) ?_
          refine j_callVi C (c_X11_side b n l2 l8 (1 : Int32) s9) cw_RX11_168 ⟨rfl, rfl, Nat.le_of_ble_eq_true rfl, Nat.le_of_ble_eq_true rfl⟩ 0 kX11 (km_0 b) (lm_0 b) [.int l2, .int l8, .int (1 : Int32)] [.int l4] rfl rfl rfl (Nat.le_of_ble_eq_true rfl) dX11_step_219 (fun x12 s11 => ?_)
          refine j_aload_n C dX11_step_222 0 rfl rfl ?_
          refine j_iload_n C dX11_step_223 2 rfl rfl ?_
          refine j_iload C dX11_step_224 7 rfl ?_
          refine j_iconst (v := (3 : Int32)) C dX11_step_226 (by decide) ?_
          refine j_callVi C (c_X11_side b n l2 l8 (3 : Int32) s11) cw_RX11_168 ⟨rfl, rfl, Nat.le_of_ble_eq_true rfl, Nat.le_of_ble_eq_true rfl⟩ 0 kX11 (km_0 b) (lm_0 b) [.int l2, .int l8, .int (3 : Int32)] [.int x12, .int l4] rfl rfl rfl (Nat.le_of_ble_eq_true rfl) dX11_step_227 (fun x14 s13 => ?_)
          refine j_callSi C (c_X11_within b n l4 x12 x14 s13) cw_RX11_208 ⟨rfl, rfl, Nat.le_of_ble_eq_true rfl, Nat.le_of_ble_eq_true rfl⟩ [.int l4, .int x12, .int x14] [] rfl rfl rfl (Nat.le_of_ble_eq_true rfl) dX11_step_230 (fun x16 s15 => ?_)
          refine j_istore (L' := [(0, .ref (adX X 0)), (1, .int l1), (2, .int l2), (3, .int l3), (4, .int l4), (5, .int l5), (6, .int x10), (7, .int x16), (8, .int l8)]) C dX11_step_233 (by decide) [1, 2, 3, 4, 5, 6, 7, 0, 8] rfl ?_
          exact jb_X11_step_235 C CR  n l1 l2 l3 l4 l5 x10 x16 l8 s15
        · exact jb_X11_step_184 C CR k133 hk133 n l1 l2 l3 l4 l5 l8 s3
theorem lb_X11_step_133 {b : Bool} {X : CtxT Mem} (C : Cx (YM b) X 10 cX11_step RX11 none rm_X11_step) (CR : CRn (YM b) X)  : ∀ (n : Nat) (l1 : Int32) (l2 : Int32) (l3 : Int32) (l4 : Int32) (l5 : Int32) (l8 : Int32) (s : Mem), J (YM b) X 10 (itr6 (b_X11_step_133) n l1 l2 l3 l4 l5 l8 s) 133 [(0, .ref (adX X 0)), (1, .int l1), (2, .int l2), (3, .int l3), (4, .int l4), (5, .int l5), (8, .int l8)] [] s := by
  intro n
  induction n with
  | zero => intros; exact j_none
  | succ n ih =>
    intro l1 l2 l3 l4 l5 l8 s
    exact jb_X11_step_133 C CR  n _ ih l1 l2 l3 l4 l5 l8 s
set_option maxHeartbeats 4000000 in
theorem jb_X11_step_87 {b : Bool} {X : CtxT Mem} (C : Cx (YM b) X 10 cX11_step RX11 none rm_X11_step) (CR : CRn (YM b) X)  (n : Nat)  (l1 : Int32) (l2 : Int32) (l3 : Int32) (l4 : Int32) (l5 : Int32) (s : Mem) : J (YM b) X 10 (b_X11_step_87  n  l1 l2 l3 l4 l5 s) 87 [(0, .ref (adX X 0)), (1, .int l1), (2, .int l2), (3, .int l3), (4, .int l4), (5, .int l5)] [] s := by
  unfold b_X11_step_87
  refine j_aload_n C dX11_step_87 0 rfl rfl ?_
  refine j_get C kX11 (km_0 b) (lm_0 b) 32 (by decide) tw_1225 (rm_32 b) dX11_step_88 ?_
  refine j_istore (L' := [(0, .ref (adX X 0)), (1, .int l1), (2, .int l2), (3, .int l3), (4, .int l4), (5, .int l5), (6, .int (s 0 32))]) C dX11_step_91 (by decide) [1, 2, 3, 4, 5, 6, 0] rfl ?_
  refine j_aload_n C dX11_step_93 0 rfl rfl ?_
  refine j_get C kX11 (km_0 b) (lm_0 b) 33 (by decide) tw_1226 (rm_33 b) dX11_step_94 ?_
  refine j_istore (L' := [(0, .ref (adX X 0)), (1, .int l1), (2, .int l2), (3, .int l3), (4, .int l4), (5, .int l5), (6, .int (s 0 32)), (7, .int (s 0 33))]) C dX11_step_97 (by decide) [1, 2, 3, 4, 5, 6, 7, 0] rfl ?_
  refine j_iload C dX11_step_99 5 rfl ?_
  refine j_istore (L' := [(0, .ref (adX X 0)), (1, .int l1), (2, .int l2), (3, .int l3), (4, .int l4), (5, .int l5), (6, .int (s 0 32)), (7, .int (s 0 33)), (8, .int l5)]) C dX11_step_101 (by decide) [1, 2, 3, 4, 5, 6, 7, 8, 0] rfl ?_
  refine j_aload_n C dX11_step_103 0 rfl rfl ?_
  refine j_iload_n C dX11_step_104 2 rfl rfl ?_
  refine j_iload C dX11_step_105 5 rfl ?_
  refine j_aload_n C dX11_step_107 0 rfl rfl ?_
  refine j_get C kX11 (km_0 b) (lm_0 b) 32 (by decide) tw_1225 (rm_32 b) dX11_step_108 ?_
  refine j_aload_n C dX11_step_111 0 rfl rfl ?_
  refine j_get C kX11 (km_0 b) (lm_0 b) 33 (by decide) tw_1226 (rm_33 b) dX11_step_112 ?_
  refine j_callVi C (c_X11_has b n l2 l5 (s 0 32) (s 0 33) s) cw_RX11_188 ⟨rfl, rfl, Nat.le_of_ble_eq_true rfl, Nat.le_of_ble_eq_true rfl⟩ 0 kX11 (km_0 b) (lm_0 b) [.int l2, .int l5, .int (s 0 32), .int (s 0 33)] [] rfl rfl rfl (Nat.le_of_ble_eq_true rfl) dX11_step_115 (fun x2 s1 => ?_)
  refine j_if_ne (tgt := 235) C dX11_step_118 (by decide) ?_ ?_
  · exact jb_X11_step_235 C CR  n l1 l2 l3 l4 l5 (s 0 32) (s 0 33) l5 s1
  · refine j_aload_n C dX11_step_121 0 rfl rfl ?_
    refine j_iload_n C dX11_step_122 2 rfl rfl ?_
    refine j_aload_n C dX11_step_123 0 rfl rfl ?_
    refine j_get C kX11 (km_0 b) (lm_0 b) 31 (by decide) tw_1224 (rm_31 b) dX11_step_124 ?_
    refine j_callVn C (c_X11_ways b n l2 (s1 0 31) s1) cw_RX11_202 ⟨rfl, rfl, Nat.le_of_ble_eq_true rfl, Nat.le_of_ble_eq_true rfl⟩ 0 kX11 (km_0 b) (lm_0 b) [.int l2, .int (s1 0 31)] [] rfl rfl rfl (Nat.le_of_ble_eq_true rfl) dX11_step_127 (fun s3 => ?_)
    refine j_iconst (v := (0 : Int32)) C dX11_step_130 (by decide) ?_
    refine j_istore (L' := [(0, .ref (adX X 0)), (1, .int l1), (2, .int l2), (3, .int l3), (4, .int l4), (5, .int l5), (6, .int (s 0 32)), (7, .int (s 0 33)), (8, .int (0 : Int32))]) C dX11_step_131 (by decide) [1, 2, 3, 4, 5, 6, 7, 8, 0] rfl ?_
    refine j_sub (L' := [(0, .ref (adX X 0)), (1, .int l1), (2, .int l2), (3, .int l3), (4, .int l4), (5, .int l5), (8, .int (0 : Int32))]) [0, 1, 2, 3, 4, 5, 8] rfl ?_
    exact lb_X11_step_133 C CR  n l1 l2 l3 l4 l5 (0 : Int32) s3
set_option maxHeartbeats 4000000 in
theorem c_X11_step (b : Bool) (n : Nat) (l1 : Int32) (s : Mem) : CTn (YM b) yX11_step cX11_step 10 none rm_X11_step (fun ad => [.ref (ad 0), .int l1]) s (f_X11_step n l1 s) := by
  refine CTn_of (by decide) (fun _ => Nat.le_of_ble_eq_true rfl) (fun X C CR => ?_)
  show J (YM b) X 10 (f_X11_step n l1 s) 0 [(0, .ref (adX X 0)), (1, .int l1)] [] s
  unfold f_X11_step
  refine j_aload_n C dX11_step_0 0 rfl rfl ?_
  refine j_iload_n C dX11_step_1 1 rfl rfl ?_
  refine j_iconst (v := (0 : Int32)) C dX11_step_2 (by decide) ?_
  refine j_callVi C (c_X11_actorOf b n l1 (0 : Int32) s) cw_RX11_192 ⟨rfl, rfl, Nat.le_of_ble_eq_true rfl, Nat.le_of_ble_eq_true rfl⟩ 0 kX11 (km_0 b) (lm_0 b) [.int l1, .int (0 : Int32)] [] rfl rfl rfl (Nat.le_of_ble_eq_true rfl) dX11_step_3 (fun x2 s1 => ?_)
  refine j_istore_n (L' := [(0, .ref (adX X 0)), (1, .int l1), (2, .int x2)]) C dX11_step_6 rfl (by decide) [1, 2, 0] rfl ?_
  refine j_aload_n C dX11_step_7 0 rfl rfl ?_
  refine j_iload_n C dX11_step_8 1 rfl rfl ?_
  refine j_iconst (v := (1 : Int32)) C dX11_step_9 (by decide) ?_
  refine j_callVi C (c_X11_actorOf b n l1 (1 : Int32) s1) cw_RX11_192 ⟨rfl, rfl, Nat.le_of_ble_eq_true rfl, Nat.le_of_ble_eq_true rfl⟩ 0 kX11 (km_0 b) (lm_0 b) [.int l1, .int (1 : Int32)] [] rfl rfl rfl (Nat.le_of_ble_eq_true rfl) dX11_step_10 (fun x4 s3 => ?_)
  refine j_istore_n (L' := [(0, .ref (adX X 0)), (1, .int l1), (2, .int x2), (3, .int x4)]) C dX11_step_13 rfl (by decide) [1, 2, 3, 0] rfl ?_
  refine j_aload_n C dX11_step_14 0 rfl rfl ?_
  refine j_iload_n C dX11_step_15 1 rfl rfl ?_
  refine j_iconst (v := (2 : Int32)) C dX11_step_16 (by decide) ?_
  refine j_callVi C (c_X11_actorOf b n l1 (2 : Int32) s3) cw_RX11_192 ⟨rfl, rfl, Nat.le_of_ble_eq_true rfl, Nat.le_of_ble_eq_true rfl⟩ 0 kX11 (km_0 b) (lm_0 b) [.int l1, .int (2 : Int32)] [] rfl rfl rfl (Nat.le_of_ble_eq_true rfl) dX11_step_17 (fun x6 s5 => ?_)
  refine j_istore (L' := [(0, .ref (adX X 0)), (1, .int l1), (2, .int x2), (3, .int x4), (4, .int x6)]) C dX11_step_20 (by decide) [1, 2, 3, 4, 0] rfl ?_
  refine j_aload_n C dX11_step_22 0 rfl rfl ?_
  refine j_iload_n C dX11_step_23 1 rfl rfl ?_
  refine j_callVi C (c_X11_boxOf b n l1 s5) cw_RX11_220 ⟨rfl, rfl, Nat.le_of_ble_eq_true rfl, Nat.le_of_ble_eq_true rfl⟩ 0 kX11 (km_0 b) (lm_0 b) [.int l1] [] rfl rfl rfl (Nat.le_of_ble_eq_true rfl) dX11_step_24 (fun x8 s7 => ?_)
  refine j_istore (L' := [(0, .ref (adX X 0)), (1, .int l1), (2, .int x2), (3, .int x4), (4, .int x6), (5, .int x8)]) C dX11_step_27 (by decide) [1, 2, 3, 4, 5, 0] rfl ?_
  refine j_iload C dX11_step_29 5 rfl ?_
  refine j_if_ge (tgt := 42) C dX11_step_31 (by decide) ?_ ?_
  · refine j_aload_n C dX11_step_42 0 rfl rfl ?_
    refine j_iload_n C dX11_step_43 2 rfl rfl ?_
    refine j_iload C dX11_step_44 5 rfl ?_
    refine j_aload_n C dX11_step_46 0 rfl rfl ?_
    refine j_iload_n C dX11_step_47 1 rfl rfl ?_
    refine j_iconst (v := (5 : Int32)) C dX11_step_48 (by decide) ?_
    refine j_callVi C (c_X11_actorOf b n l1 (5 : Int32) s7) cw_RX11_192 ⟨rfl, rfl, Nat.le_of_ble_eq_true rfl, Nat.le_of_ble_eq_true rfl⟩ 0 kX11 (km_0 b) (lm_0 b) [.int l1, .int (5 : Int32)] [.int x8, .int x2, .ref (adX X 0)] rfl rfl rfl (Nat.le_of_ble_eq_true rfl) dX11_step_49 (fun x10 s9 => ?_)
    refine j_aload_n C dX11_step_52 0 rfl rfl ?_
    refine j_iload_n C dX11_step_53 1 rfl rfl ?_
    refine j_bipush (v := (6 : Int32)) C dX11_step_54 (by decide) ?_
    refine j_callVi C (c_X11_actorOf b n l1 (6 : Int32) s9) cw_RX11_192 ⟨rfl, rfl, Nat.le_of_ble_eq_true rfl, Nat.le_of_ble_eq_true rfl⟩ 0 kX11 (km_0 b) (lm_0 b) [.int l1, .int (6 : Int32)] [.int x10, .int x8, .int x2, .ref (adX X 0)] rfl rfl rfl (Nat.le_of_ble_eq_true rfl) dX11_step_56 (fun x12 s11 => ?_)
    refine j_callVn C (c_X11_goals b n x2 x8 x10 x12 s11) cw_RX11_226 ⟨rfl, rfl, Nat.le_of_ble_eq_true rfl, Nat.le_of_ble_eq_true rfl⟩ 0 kX11 (km_0 b) (lm_0 b) [.int x2, .int x8, .int x10, .int x12] [] rfl rfl rfl (Nat.le_of_ble_eq_true rfl) dX11_step_59 (fun s13 => ?_)
    refine j_iload_n C dX11_step_62 3 rfl rfl ?_
    refine j_aload_n C dX11_step_63 0 rfl rfl ?_
    refine j_get C kX11 (km_0 b) (lm_0 b) 32 (by decide) tw_1225 (rm_32 b) dX11_step_64 ?_
    refine j_icmp_ne (tgt := 87) C dX11_step_67 (by decide) ?_ ?_
    · exact jb_X11_step_87 C CR  n l1 x2 x4 x6 x8 s13
    · refine j_iload C dX11_step_70 4 rfl ?_
      refine j_aload_n C dX11_step_72 0 rfl rfl ?_
      refine j_get C kX11 (km_0 b) (lm_0 b) 33 (by decide) tw_1226 (rm_33 b) dX11_step_73 ?_
      refine j_icmp_ne (tgt := 87) C dX11_step_76 (by decide) ?_ ?_
      · exact jb_X11_step_87 C CR  n l1 x2 x4 x6 x8 s13
      · refine j_aload_n C dX11_step_79 0 rfl rfl ?_
        refine j_iload_n C dX11_step_80 1 rfl rfl ?_
        refine j_iconst (v := (4 : Int32)) C dX11_step_81 (by decide) ?_
        refine j_iconst (v := (0 : Int32)) C dX11_step_82 (by decide) ?_
        refine j_callVn C (c_X11_actorTo b n l1 (4 : Int32) (0 : Int32) s13) cw_RX11_223 ⟨rfl, rfl, Nat.le_of_ble_eq_true rfl, Nat.le_of_ble_eq_true rfl⟩ 0 kX11 (km_0 b) (lm_0 b) [.int l1, .int (4 : Int32), .int (0 : Int32)] [] rfl rfl rfl (Nat.le_of_ble_eq_true rfl) dX11_step_83 (fun s14 => ?_)
        exact j_vret C CR dX11_step_86
  · refine j_aload_n C dX11_step_34 0 rfl rfl ?_
    refine j_iload_n C dX11_step_35 1 rfl rfl ?_
    refine j_iconst (v := (4 : Int32)) C dX11_step_36 (by decide) ?_
    refine j_iconst (v := (0 : Int32)) C dX11_step_37 (by decide) ?_
    refine j_callVn C (c_X11_actorTo b n l1 (4 : Int32) (0 : Int32) s7) cw_RX11_223 ⟨rfl, rfl, Nat.le_of_ble_eq_true rfl, Nat.le_of_ble_eq_true rfl⟩ 0 kX11 (km_0 b) (lm_0 b) [.int l1, .int (4 : Int32), .int (0 : Int32)] [] rfl rfl rfl (Nat.le_of_ble_eq_true rfl) dX11_step_38 (fun s15 => ?_)
    exact j_vret C CR dX11_step_41
set_option maxHeartbeats 4000000 in
theorem jb_X11_byteOf_30 {b : Bool} {X : CtxT (Int32 × Mem)} (C : Cx (YM b) X 2 cX11_byteOf RX11 (some .int) rm_X11_byteOf) (CR : CRi (YM b) X)  (n : Nat)   (s : Mem) : J (YM b) X 2 (b_X11_byteOf_30  n   s) 30 [(0, .ref (adX X 0))] [] s := by
  unfold b_X11_byteOf_30
  refine j_aload_n C dX11_byteOf_30 0 rfl rfl ?_
  refine j_iconst (v := (1 : Int32)) C dX11_byteOf_31 (by decide) ?_
  refine j_putZ C kX11 (km_0 b) (lm_0 b) 35 (by decide) tw_1228 (rm_35 b) rfl rfl dX11_byteOf_32 (fun s1 => ?_)
  refine j_iconst (v := (0 : Int32)) C dX11_byteOf_35 (by decide) ?_
  exact j_iret C CR dX11_byteOf_36
set_option maxHeartbeats 4000000 in
theorem c_X11_byteOf (b : Bool) (n : Nat)  (s : Mem) : CTi (YM b) yX11_byteOf cX11_byteOf 2 (some .int) rm_X11_byteOf (fun ad => [.ref (ad 0)]) s (f_X11_byteOf n  s) := by
  refine CTi_of (by decide) (fun _ => Nat.le_of_ble_eq_true rfl) (fun X C CR => ?_)
  show J (YM b) X 2 (f_X11_byteOf n  s) 0 [(0, .ref (adX X 0))] [] s
  unfold f_X11_byteOf
  refine j_aload_n C dX11_byteOf_0 0 rfl rfl ?_
  refine j_aload_n C dX11_byteOf_1 0 rfl rfl ?_
  refine j_get C kX11 (km_0 b) (lm_0 b) 34 (by decide) tw_1227 (rm_34 b) dX11_byteOf_2 ?_
  refine j_iconst (v := (0 : Int32)) C dX11_byteOf_5 (by decide) ?_
  refine j_callVi C (c_X11_of b n (s 0 34) (0 : Int32) s) cw_RX11_158 ⟨rfl, rfl, Nat.le_of_ble_eq_true rfl, Nat.le_of_ble_eq_true rfl⟩ 0 kX11 (km_0 b) (lm_0 b) [.int (s 0 34), .int (0 : Int32)] [] rfl rfl rfl (Nat.le_of_ble_eq_true rfl) dX11_byteOf_6 (fun x2 s1 => ?_)
  refine j_istore_n (L' := [(0, .ref (adX X 0)), (1, .int x2)]) C dX11_byteOf_9 rfl (by decide) [1, 0] rfl ?_
  refine j_aload_n C dX11_byteOf_10 0 rfl rfl ?_
  refine j_get C kX11 (km_0 b) (lm_0 b) 35 (by decide) tw_1228 (rm_35 b) dX11_byteOf_11 ?_
  refine j_if_ne (tgt := 30) C dX11_byteOf_14 (by decide) ?_ ?_
  · refine j_sub (L' := [(0, .ref (adX X 0))]) [0] rfl ?_
    exact jb_X11_byteOf_30 C CR  n s1
  · refine j_aload_n C dX11_byteOf_17 0 rfl rfl ?_
    refine j_get C kX11 (km_0 b) (lm_0 b) 36 (by decide) tw_1229 (rm_36 b) dX11_byteOf_18 ?_
    refine j_aload_n C dX11_byteOf_21 0 rfl rfl ?_
    refine j_getR (z := 7) C kX11 (km_0 b) (lm_0 b) 13 (by decide) tw_1206 (rm_13 b) rfl dX11_byteOf_22 ?_
    refine j_iload_n C dX11_byteOf_25 1 rfl rfl ?_
    refine j_iald C (km_7 b) (lm_7 b) dX11_byteOf_26 ?_
    refine j_icmp_lt (tgt := 37) C dX11_byteOf_27 (by decide) ?_ ?_
    · refine j_aload_n C dX11_byteOf_37 0 rfl rfl ?_
      refine j_dup C dX11_byteOf_38 rfl ?_
      refine j_get C kX11 (km_0 b) (lm_0 b) 36 (by decide) tw_1229 (rm_36 b) dX11_byteOf_39 ?_
      refine j_iconst (v := (1 : Int32)) C dX11_byteOf_42 (by decide) ?_
      refine j_iadd C dX11_byteOf_43 ?_
      refine j_put C kX11 (km_0 b) (lm_0 b) 36 (by decide) tw_1229 (rm_36 b) rfl rfl dX11_byteOf_44 (fun s3 => ?_)
      refine j_aload_n C dX11_byteOf_47 0 rfl rfl ?_
      refine j_getR (z := 2) C kX11 (km_0 b) (lm_0 b) 3 (by decide) tw_1196 (rm_3 b) rfl dX11_byteOf_48 ?_
      refine j_aload_n C dX11_byteOf_51 0 rfl rfl ?_
      refine j_getR (z := 6) C kX11 (km_0 b) (lm_0 b) 12 (by decide) tw_1205 (rm_12 b) rfl dX11_byteOf_52 ?_
      refine j_iload_n C dX11_byteOf_55 1 rfl rfl ?_
      refine j_iald C (km_6 b) (lm_6 b) dX11_byteOf_56 ?_
      refine j_aload_n C dX11_byteOf_57 0 rfl rfl ?_
      refine j_get C kX11 (km_0 b) (lm_0 b) 36 (by decide) tw_1229 (rm_36 b) dX11_byteOf_58 ?_
      refine j_iadd C dX11_byteOf_61 ?_
      refine j_iconst (v := (1 : Int32)) C dX11_byteOf_62 (by decide) ?_
      refine j_isub C dX11_byteOf_63 ?_
      refine j_iald C (km_2 b) (lm_2 b) dX11_byteOf_64 ?_
      exact j_iret C CR dX11_byteOf_65
    · refine j_sub (L' := [(0, .ref (adX X 0))]) [0] rfl ?_
      exact jb_X11_byteOf_30 C CR  n s1
set_option maxHeartbeats 4000000 in
theorem c_X11_count2 (b : Bool) (n : Nat)  (s : Mem) : CTi (YM b) yX11_count2 cX11_count2 2 (some .int) rm_X11_count2 (fun ad => [.ref (ad 0)]) s (f_X11_count2 n  s) := by
  refine CTi_of (by decide) (fun _ => Nat.le_of_ble_eq_true rfl) (fun X C CR => ?_)
  show J (YM b) X 2 (f_X11_count2 n  s) 0 [(0, .ref (adX X 0))] [] s
  unfold f_X11_count2
  refine j_aload_n C dX11_count2_0 0 rfl rfl ?_
  refine j_callVi C (c_X11_byteOf b n  s) cw_RX11_242 ⟨rfl, rfl, Nat.le_of_ble_eq_true rfl, Nat.le_of_ble_eq_true rfl⟩ 0 kX11 (km_0 b) (lm_0 b) [] [] rfl rfl rfl (Nat.le_of_ble_eq_true rfl) dX11_count2_1 (fun x2 s1 => ?_)
  refine j_istore_n (L' := [(0, .ref (adX X 0)), (1, .int x2)]) C dX11_count2_4 rfl (by decide) [1, 0] rfl ?_
  refine j_iload_n C dX11_count2_5 1 rfl rfl ?_
  refine j_bipush (v := (8 : Int32)) C dX11_count2_6 (by decide) ?_
  refine j_ishl C dX11_count2_8 ?_
  refine j_aload_n C dX11_count2_9 0 rfl rfl ?_
  refine j_callVi C (c_X11_byteOf b n  s1) cw_RX11_242 ⟨rfl, rfl, Nat.le_of_ble_eq_true rfl, Nat.le_of_ble_eq_true rfl⟩ 0 kX11 (km_0 b) (lm_0 b) [] [.int (x2 <<< ((8 : Int32) &&& 31))] rfl rfl rfl (Nat.le_of_ble_eq_true rfl) dX11_count2_10 (fun x4 s3 => ?_)
  refine j_ior C dX11_count2_13 ?_
  exact j_iret C CR dX11_count2_14
set_option maxHeartbeats 4000000 in
theorem jb_X11_named_82 {b : Bool} {X : CtxT (Int32 × Mem)} (C : Cx (YM b) X 3 cX11_named RX11 (some .int) rm_X11_named) (CR : CRi (YM b) X)  (n : Nat)  (t0 : Int32) (s : Mem) : J (YM b) X 3 (b_X11_named_82  n  t0 s) 82 [] [.int t0] s := by
  unfold b_X11_named_82
  exact j_iret C CR dX11_named_82
set_option maxHeartbeats 4000000 in
theorem jb_X11_named_44 {b : Bool} {X : CtxT (Int32 × Mem)} (C : Cx (YM b) X 3 cX11_named RX11 (some .int) rm_X11_named) (CR : CRi (YM b) X)  (n : Nat)  (l1 : Int32) (l2 : Int32) (s : Mem) : J (YM b) X 3 (b_X11_named_44  n  l1 l2 s) 44 [(0, .ref (adX X 0)), (1, .int l1), (2, .int l2)] [] s := by
  unfold b_X11_named_44
  refine j_aload_n C dX11_named_44 0 rfl rfl ?_
  refine j_get C kX11 (km_0 b) (lm_0 b) 35 (by decide) tw_1228 (rm_35 b) dX11_named_45 ?_
  refine j_if_eq (tgt := 55) C dX11_named_48 (by decide) ?_ ?_
  · refine j_iload_n C dX11_named_55 1 rfl rfl ?_
    refine j_iconst (v := (1 : Int32)) C dX11_named_56 (by decide) ?_
    refine j_icmp_ne (tgt := 67) C dX11_named_57 (by decide) ?_ ?_
    · refine j_bipush (v := (70 : Int32)) C dX11_named_67 (by decide) ?_
      refine j_bipush (v := (10 : Int32)) C dX11_named_69 (by decide) ?_
      refine j_aload_n C dX11_named_71 0 rfl rfl ?_
      refine j_get C kX11 (km_0 b) (lm_0 b) 34 (by decide) tw_1227 (rm_34 b) dX11_named_72 ?_
      refine j_imul C dX11_named_75 ?_
      refine j_iadd C dX11_named_76 ?_
      refine j_bipush (v := (6 : Int32)) C dX11_named_77 (by decide) ?_
      refine j_iadd C dX11_named_79 ?_
      refine j_iload_n C dX11_named_80 2 rfl rfl ?_
      refine j_iadd C dX11_named_81 ?_
      refine j_sub (L' := []) [] rfl ?_
      exact jb_X11_named_82 C CR  n ((((70 : Int32) + ((10 : Int32) * (s 0 34))) + (6 : Int32)) + l2) s
    · refine j_bipush (v := (6 : Int32)) C dX11_named_60 (by decide) ?_
      refine j_iload_n C dX11_named_62 2 rfl rfl ?_
      refine j_iadd C dX11_named_63 ?_
      refine j_goto (tgt := 82) C dX11_named_64 (by decide) ?_
      refine j_sub (L' := []) [] rfl ?_
      exact jb_X11_named_82 C CR  n ((6 : Int32) + l2) s
  · refine j_iconst (v := (0 : Int32)) C dX11_named_51 (by decide) ?_
    refine j_goto (tgt := 82) C dX11_named_52 (by decide) ?_
    refine j_sub (L' := []) [] rfl ?_
    exact jb_X11_named_82 C CR  n (0 : Int32) s
set_option maxHeartbeats 4000000 in
theorem jb_X11_named_39 {b : Bool} {X : CtxT (Int32 × Mem)} (C : Cx (YM b) X 3 cX11_named RX11 (some .int) rm_X11_named) (CR : CRi (YM b) X)  (n : Nat)  (l1 : Int32) (l2 : Int32) (s : Mem) : J (YM b) X 3 (b_X11_named_39  n  l1 l2 s) 39 [(0, .ref (adX X 0)), (1, .int l1), (2, .int l2)] [] s := by
  unfold b_X11_named_39
  refine j_aload_n C dX11_named_39 0 rfl rfl ?_
  refine j_iconst (v := (1 : Int32)) C dX11_named_40 (by decide) ?_
  refine j_putZ C kX11 (km_0 b) (lm_0 b) 35 (by decide) tw_1228 (rm_35 b) rfl rfl dX11_named_41 (fun s1 => ?_)
  exact jb_X11_named_44 C CR  n l1 l2 s1
set_option maxHeartbeats 4000000 in
theorem jb_X11_named_22 {b : Bool} {X : CtxT (Int32 × Mem)} (C : Cx (YM b) X 3 cX11_named RX11 (some .int) rm_X11_named) (CR : CRi (YM b) X)  (n : Nat)  (l1 : Int32) (l2 : Int32) (s : Mem) : J (YM b) X 3 (b_X11_named_22  n  l1 l2 s) 22 [(0, .ref (adX X 0)), (1, .int l1), (2, .int l2)] [] s := by
  unfold b_X11_named_22
  refine j_iload_n C dX11_named_22 1 rfl rfl ?_
  refine j_iconst (v := (2 : Int32)) C dX11_named_23 (by decide) ?_
  refine j_icmp_ne (tgt := 44) C dX11_named_24 (by decide) ?_ ?_
  · exact jb_X11_named_44 C CR  n l1 l2 s
  · refine j_iload_n C dX11_named_27 2 rfl rfl ?_
    refine j_i2l C dX11_named_28 ?_
    refine j_lconst (v := 0) C dX11_named_29 (by decide) ?_
    refine j_ldc2 (v := 3) C tw_1450 dX11_named_30 ?_
    refine j_callSi C (c_X11_in b n l2.toInt64 (0 : Int64) (3 : Int64) s) cw_RX11_72 ⟨rfl, rfl, Nat.le_of_ble_eq_true rfl, Nat.le_of_ble_eq_true rfl⟩ [.long l2.toInt64, .long (0 : Int64), .long (3 : Int64)] [] rfl rfl rfl (Nat.le_of_ble_eq_true rfl) dX11_named_33 (fun x2 s1 => ?_)
    refine j_if_ne (tgt := 44) C dX11_named_36 (by decide) ?_ ?_
    · exact jb_X11_named_44 C CR  n l1 l2 s1
    · exact jb_X11_named_39 C CR  n l1 l2 s1
set_option maxHeartbeats 4000000 in
theorem c_X11_named (b : Bool) (n : Nat) (l1 : Int32) (s : Mem) : CTi (YM b) yX11_named cX11_named 3 (some .int) rm_X11_named (fun ad => [.ref (ad 0), .int l1]) s (f_X11_named n l1 s) := by
  refine CTi_of (by decide) (fun _ => Nat.le_of_ble_eq_true rfl) (fun X C CR => ?_)
  show J (YM b) X 3 (f_X11_named n l1 s) 0 [(0, .ref (adX X 0)), (1, .int l1)] [] s
  unfold f_X11_named
  refine j_aload_n C dX11_named_0 0 rfl rfl ?_
  refine j_callVi C (c_X11_byteOf b n  s) cw_RX11_242 ⟨rfl, rfl, Nat.le_of_ble_eq_true rfl, Nat.le_of_ble_eq_true rfl⟩ 0 kX11 (km_0 b) (lm_0 b) [] [] rfl rfl rfl (Nat.le_of_ble_eq_true rfl) dX11_named_1 (fun x2 s1 => ?_)
  refine j_istore_n (L' := [(0, .ref (adX X 0)), (1, .int l1), (2, .int x2)]) C dX11_named_4 rfl (by decide) [1, 2, 0] rfl ?_
  refine j_iload_n C dX11_named_5 1 rfl rfl ?_
  refine j_iconst (v := (1 : Int32)) C dX11_named_6 (by decide) ?_
  refine j_icmp_ne (tgt := 22) C dX11_named_7 (by decide) ?_ ?_
  · exact jb_X11_named_22 C CR  n l1 x2 s1
  · refine j_iload_n C dX11_named_10 2 rfl rfl ?_
    refine j_i2l C dX11_named_11 ?_
    refine j_lconst (v := 0) C dX11_named_12 (by decide) ?_
    refine j_ldc2 (v := 63) C tw_1449 dX11_named_13 ?_
    refine j_callSi C (c_X11_in b n x2.toInt64 (0 : Int64) (63 : Int64) s1) cw_RX11_72 ⟨rfl, rfl, Nat.le_of_ble_eq_true rfl, Nat.le_of_ble_eq_true rfl⟩ [.long x2.toInt64, .long (0 : Int64), .long (63 : Int64)] [] rfl rfl rfl (Nat.le_of_ble_eq_true rfl) dX11_named_16 (fun x4 s3 => ?_)
    refine j_if_eq (tgt := 39) C dX11_named_19 (by decide) ?_ ?_
    · exact jb_X11_named_39 C CR  n l1 x2 s3
    · exact jb_X11_named_22 C CR  n l1 x2 s3
set_option maxHeartbeats 4000000 in
theorem jb_X11_value_46 {b : Bool} {X : CtxT (Int32 × Mem)} (C : Cx (YM b) X 2 cX11_value RX11 (some .int) rm_X11_value) (CR : CRi (YM b) X)  (n : Nat)  (t0 : Int32) (s : Mem) : J (YM b) X 2 (b_X11_value_46  n  t0 s) 46 [] [.int t0] s := by
  unfold b_X11_value_46
  exact j_iret C CR dX11_value_46
set_option maxHeartbeats 4000000 in
theorem jb_X11_value_15 {b : Bool} {X : CtxT (Int32 × Mem)} (C : Cx (YM b) X 2 cX11_value RX11 (some .int) rm_X11_value) (CR : CRi (YM b) X)  (n : Nat)  (l1 : Int32) (s : Mem) : J (YM b) X 2 (b_X11_value_15  n  l1 s) 15 [(0, .ref (adX X 0)), (1, .int l1)] [] s := by
  unfold b_X11_value_15
  refine j_aload_n C dX11_value_15 0 rfl rfl ?_
  refine j_get C kX11 (km_0 b) (lm_0 b) 35 (by decide) tw_1228 (rm_35 b) dX11_value_16 ?_
  refine j_if_eq (tgt := 24) C dX11_value_19 (by decide) ?_ ?_
  · refine j_iload_n C dX11_value_24 1 rfl rfl ?_
    refine j_if_ne (tgt := 36) C dX11_value_25 (by decide) ?_ ?_
    · refine j_aload_n C dX11_value_36 0 rfl rfl ?_
      refine j_getR (z := 15) C kX11 (km_0 b) (lm_0 b) 27 (by decide) tw_1220 (rm_27 b) rfl dX11_value_37 ?_
      refine j_aload_n C dX11_value_40 0 rfl rfl ?_
      refine j_iload_n C dX11_value_41 1 rfl rfl ?_
      refine j_callVi C (c_X11_named b n l1 s) cw_RX11_252 ⟨rfl, rfl, Nat.le_of_ble_eq_true rfl, Nat.le_of_ble_eq_true rfl⟩ 0 kX11 (km_0 b) (lm_0 b) [.int l1] [.ref (adX X 15)] rfl rfl rfl (Nat.le_of_ble_eq_true rfl) dX11_value_42 (fun x2 s1 => ?_)
      refine j_iald C (km_15 b) (lm_15 b) dX11_value_45 ?_
      refine j_sub (L' := []) [] rfl ?_
      exact jb_X11_value_46 C CR  n (s1 15 x2.toNatClampNeg) s1
    · refine j_aload_n C dX11_value_28 0 rfl rfl ?_
      refine j_callVi C (c_X11_count2 b n  s) cw_RX11_249 ⟨rfl, rfl, Nat.le_of_ble_eq_true rfl, Nat.le_of_ble_eq_true rfl⟩ 0 kX11 (km_0 b) (lm_0 b) [] [] rfl rfl rfl (Nat.le_of_ble_eq_true rfl) dX11_value_29 (fun x4 s3 => ?_)
      refine j_i2s C dX11_value_32 ?_
      refine j_goto (tgt := 46) C dX11_value_33 (by decide) ?_
      refine j_sub (L' := []) [] rfl ?_
      exact jb_X11_value_46 C CR  n x4.toInt16.toInt32 s3
  · refine j_iconst (v := (0 : Int32)) C dX11_value_22 (by decide) ?_
    exact j_iret C CR dX11_value_23
set_option maxHeartbeats 4000000 in
theorem c_X11_value (b : Bool) (n : Nat)  (s : Mem) : CTi (YM b) yX11_value cX11_value 2 (some .int) rm_X11_value (fun ad => [.ref (ad 0)]) s (f_X11_value n  s) := by
  refine CTi_of (by decide) (fun _ => Nat.le_of_ble_eq_true rfl) (fun X C CR => ?_)
  show J (YM b) X 2 (f_X11_value n  s) 0 [(0, .ref (adX X 0))] [] s
  unfold f_X11_value
  refine j_aload_n C dX11_value_0 0 rfl rfl ?_
  refine j_callVi C (c_X11_byteOf b n  s) cw_RX11_242 ⟨rfl, rfl, Nat.le_of_ble_eq_true rfl, Nat.le_of_ble_eq_true rfl⟩ 0 kX11 (km_0 b) (lm_0 b) [] [] rfl rfl rfl (Nat.le_of_ble_eq_true rfl) dX11_value_1 (fun x2 s1 => ?_)
  refine j_istore_n (L' := [(0, .ref (adX X 0)), (1, .int x2)]) C dX11_value_4 rfl (by decide) [1, 0] rfl ?_
  refine j_iload_n C dX11_value_5 1 rfl rfl ?_
  refine j_iconst (v := (2 : Int32)) C dX11_value_6 (by decide) ?_
  refine j_icmp_le (tgt := 15) C dX11_value_7 (by decide) ?_ ?_
  · exact jb_X11_value_15 C CR  n x2 s1
  · refine j_aload_n C dX11_value_10 0 rfl rfl ?_
    refine j_iconst (v := (1 : Int32)) C dX11_value_11 (by decide) ?_
    refine j_putZ C kX11 (km_0 b) (lm_0 b) 35 (by decide) tw_1228 (rm_35 b) rfl rfl dX11_value_12 (fun s3 => ?_)
    exact jb_X11_value_15 C CR  n x2 s3
set_option maxHeartbeats 4000000 in
theorem jb_X11_target_38 {b : Bool} {X : CtxT (Int32 × Mem)} (C : Cx (YM b) X 2 cX11_target RX11 (some .int) rm_X11_target) (CR : CRi (YM b) X)  (n : Nat)  (t0 : Int32) (s : Mem) : J (YM b) X 2 (b_X11_target_38  n  t0 s) 38 [] [.int t0] s := by
  unfold b_X11_target_38
  exact j_iret C CR dX11_target_38
set_option maxHeartbeats 4000000 in
theorem jb_X11_target_22 {b : Bool} {X : CtxT (Int32 × Mem)} (C : Cx (YM b) X 2 cX11_target RX11 (some .int) rm_X11_target) (CR : CRi (YM b) X)  (n : Nat)  (l1 : Int32) (s : Mem) : J (YM b) X 2 (b_X11_target_22  n  l1 s) 22 [(0, .ref (adX X 0)), (1, .int l1)] [] s := by
  unfold b_X11_target_22
  refine j_aload_n C dX11_target_22 0 rfl rfl ?_
  refine j_get C kX11 (km_0 b) (lm_0 b) 35 (by decide) tw_1228 (rm_35 b) dX11_target_23 ?_
  refine j_if_eq (tgt := 33) C dX11_target_26 (by decide) ?_ ?_
  · refine j_aload_n C dX11_target_33 0 rfl rfl ?_
    refine j_iload_n C dX11_target_34 1 rfl rfl ?_
    refine j_callVi C (c_X11_named b n l1 s) cw_RX11_252 ⟨rfl, rfl, Nat.le_of_ble_eq_true rfl, Nat.le_of_ble_eq_true rfl⟩ 0 kX11 (km_0 b) (lm_0 b) [.int l1] [] rfl rfl rfl (Nat.le_of_ble_eq_true rfl) dX11_target_35 (fun x2 s1 => ?_)
    refine j_sub (L' := []) [] rfl ?_
    exact jb_X11_target_38 C CR  n x2 s1
  · refine j_iconst (v := (0 : Int32)) C dX11_target_29 (by decide) ?_
    refine j_goto (tgt := 38) C dX11_target_30 (by decide) ?_
    refine j_sub (L' := []) [] rfl ?_
    exact jb_X11_target_38 C CR  n (0 : Int32) s
set_option maxHeartbeats 4000000 in
theorem c_X11_target (b : Bool) (n : Nat)  (s : Mem) : CTi (YM b) yX11_target cX11_target 2 (some .int) rm_X11_target (fun ad => [.ref (ad 0)]) s (f_X11_target n  s) := by
  refine CTi_of (by decide) (fun _ => Nat.le_of_ble_eq_true rfl) (fun X C CR => ?_)
  show J (YM b) X 2 (f_X11_target n  s) 0 [(0, .ref (adX X 0))] [] s
  unfold f_X11_target
  refine j_aload_n C dX11_target_0 0 rfl rfl ?_
  refine j_callVi C (c_X11_byteOf b n  s) cw_RX11_242 ⟨rfl, rfl, Nat.le_of_ble_eq_true rfl, Nat.le_of_ble_eq_true rfl⟩ 0 kX11 (km_0 b) (lm_0 b) [] [] rfl rfl rfl (Nat.le_of_ble_eq_true rfl) dX11_target_1 (fun x2 s1 => ?_)
  refine j_istore_n (L' := [(0, .ref (adX X 0)), (1, .int x2)]) C dX11_target_4 rfl (by decide) [1, 0] rfl ?_
  refine j_iload_n C dX11_target_5 1 rfl rfl ?_
  refine j_i2l C dX11_target_6 ?_
  refine j_lconst (v := 1) C dX11_target_7 (by decide) ?_
  refine j_ldc2 (v := 2) C tw_1444 dX11_target_8 ?_
  refine j_callSi C (c_X11_in b n x2.toInt64 (1 : Int64) (2 : Int64) s1) cw_RX11_72 ⟨rfl, rfl, Nat.le_of_ble_eq_true rfl, Nat.le_of_ble_eq_true rfl⟩ [.long x2.toInt64, .long (1 : Int64), .long (2 : Int64)] [] rfl rfl rfl (Nat.le_of_ble_eq_true rfl) dX11_target_11 (fun x4 s3 => ?_)
  refine j_if_ne (tgt := 22) C dX11_target_14 (by decide) ?_ ?_
  · exact jb_X11_target_22 C CR  n x2 s3
  · refine j_aload_n C dX11_target_17 0 rfl rfl ?_
    refine j_iconst (v := (1 : Int32)) C dX11_target_18 (by decide) ?_
    refine j_putZ C kX11 (km_0 b) (lm_0 b) 35 (by decide) tw_1228 (rm_35 b) rfl rfl dX11_target_19 (fun s5 => ?_)
    exact jb_X11_target_22 C CR  n x2 s5
set_option maxHeartbeats 4000000 in
theorem jb_X11_jump_28 {b : Bool} {X : CtxT (Int32 × Mem)} (C : Cx (YM b) X 2 cX11_jump RX11 (some .int) rm_X11_jump) (CR : CRi (YM b) X)  (n : Nat)  (l1 : Int32) (s : Mem) : J (YM b) X 2 (b_X11_jump_28  n  l1 s) 28 [(1, .int l1)] [] s := by
  unfold b_X11_jump_28
  refine j_iload_n C dX11_jump_28 0 rfl rfl ?_
  exact j_iret C CR dX11_jump_29
set_option maxHeartbeats 4000000 in
theorem c_X11_jump (b : Bool) (n : Nat)  (s : Mem) : CTi (YM b) yX11_jump cX11_jump 2 (some .int) rm_X11_jump (fun ad => [.ref (ad 0)]) s (f_X11_jump n  s) := by
  refine CTi_of (by decide) (fun _ => Nat.le_of_ble_eq_true rfl) (fun X C CR => ?_)
  show J (YM b) X 2 (f_X11_jump n  s) 0 [(0, .ref (adX X 0))] [] s
  unfold f_X11_jump
  refine j_aload_n C dX11_jump_0 0 rfl rfl ?_
  refine j_callVi C (c_X11_count2 b n  s) cw_RX11_249 ⟨rfl, rfl, Nat.le_of_ble_eq_true rfl, Nat.le_of_ble_eq_true rfl⟩ 0 kX11 (km_0 b) (lm_0 b) [] [] rfl rfl rfl (Nat.le_of_ble_eq_true rfl) dX11_jump_1 (fun x2 s1 => ?_)
  refine j_istore_n (L' := [(0, .ref (adX X 0)), (1, .int x2)]) C dX11_jump_4 rfl (by decide) [1, 0] rfl ?_
  refine j_iload_n C dX11_jump_5 1 rfl rfl ?_
  refine j_aload_n C dX11_jump_6 0 rfl rfl ?_
  refine j_getR (z := 7) C kX11 (km_0 b) (lm_0 b) 13 (by decide) tw_1206 (rm_13 b) rfl dX11_jump_7 ?_
  refine j_aload_n C dX11_jump_10 0 rfl rfl ?_
  refine j_aload_n C dX11_jump_11 0 rfl rfl ?_
  refine j_get C kX11 (km_0 b) (lm_0 b) 34 (by decide) tw_1227 (rm_34 b) dX11_jump_12 ?_
  refine j_iconst (v := (0 : Int32)) C dX11_jump_15 (by decide) ?_
  refine j_callVi C (c_X11_of b n (s1 0 34) (0 : Int32) s1) cw_RX11_158 ⟨rfl, rfl, Nat.le_of_ble_eq_true rfl, Nat.le_of_ble_eq_true rfl⟩ 0 kX11 (km_0 b) (lm_0 b) [.int (s1 0 34), .int (0 : Int32)] [.ref (adX X 7), .int x2] rfl rfl rfl (Nat.le_of_ble_eq_true rfl) dX11_jump_16 (fun x4 s3 => ?_)
  refine j_iald C (km_7 b) (lm_7 b) dX11_jump_19 ?_
  refine j_icmp_lt (tgt := 28) C dX11_jump_20 (by decide) ?_ ?_
  · refine j_sub (L' := [(1, .int x2)]) [1] rfl ?_
    exact jb_X11_jump_28 C CR  n x2 s3
  · refine j_aload_n C dX11_jump_23 0 rfl rfl ?_
    refine j_iconst (v := (1 : Int32)) C dX11_jump_24 (by decide) ?_
    refine j_putZ C kX11 (km_0 b) (lm_0 b) 35 (by decide) tw_1228 (rm_35 b) rfl rfl dX11_jump_25 (fun s5 => ?_)
    refine j_sub (L' := [(1, .int x2)]) [1] rfl ?_
    exact jb_X11_jump_28 C CR  n x2 s5
set_option maxHeartbeats 4000000 in
theorem jb_X11_reads_55 {b : Bool} {X : CtxT Mem} (C : Cx (YM b) X 5 cX11_reads RX11 none rm_X11_reads) (CR : CRn (YM b) X)  (n : Nat)  (t0 : Int32) (s : Mem) : J (YM b) X 5 (b_X11_reads_55  n  t0 s) 55 [] [.int t0, .ref (adX X 0)] s := by
  unfold b_X11_reads_55
  refine j_put C kX11 (km_0 b) (lm_0 b) 39 (by decide) tw_1232 (rm_39 b) rfl rfl dX11_reads_55 (fun s1 => ?_)
  exact j_vret C CR dX11_reads_58
set_option maxHeartbeats 4000000 in
theorem jb_X11_reads_19 {b : Bool} {X : CtxT Mem} (C : Cx (YM b) X 5 cX11_reads RX11 none rm_X11_reads) (CR : CRn (YM b) X)  (n : Nat) (k19 : Int32 → Int32 → Int32 → Mem → Option Mem) (hk19 : ∀ (l2 : Int32) (l3 : Int32) (l4 : Int32) (s : Mem), J (YM b) X 5 (k19 l2 l3 l4 s) 19 [(0, .ref (adX X 0)), (2, .int l2), (3, .int l3), (4, .int l4)] [] s) (l2 : Int32) (l3 : Int32) (l4 : Int32) (s : Mem) : J (YM b) X 5 (b_X11_reads_19  n k19 l2 l3 l4 s) 19 [(0, .ref (adX X 0)), (2, .int l2), (3, .int l3), (4, .int l4)] [] s := by
  unfold b_X11_reads_19
  refine j_iload C dX11_reads_19 3 rfl ?_
  refine j_iload_n C dX11_reads_21 1 rfl rfl ?_
  refine j_icmp_ge (tgt := 42) C dX11_reads_22 (by decide) ?_ ?_
  · refine j_aload_n C dX11_reads_42 0 rfl rfl ?_
    refine j_iload_n C dX11_reads_43 2 rfl rfl ?_
    refine j_if_eq (tgt := 54) C dX11_reads_44 (by decide) ?_ ?_
    · refine j_iconst (v := (0 : Int32)) C dX11_reads_54 (by decide) ?_
      refine j_sub (L' := []) [] rfl ?_
      exact jb_X11_reads_55 C CR  n (0 : Int32) s
    · refine j_aload_n C dX11_reads_47 0 rfl rfl ?_
      refine j_callVi C (c_X11_jump b n  s) cw_RX11_266 ⟨rfl, rfl, Nat.le_of_ble_eq_true rfl, Nat.le_of_ble_eq_true rfl⟩ 0 kX11 (km_0 b) (lm_0 b) [] [.ref (adX X 0)] rfl rfl rfl (Nat.le_of_ble_eq_true rfl) dX11_reads_48 (fun x2 s1 => ?_)
      refine j_goto (tgt := 55) C dX11_reads_51 (by decide) ?_
      refine j_sub (L' := []) [] rfl ?_
      exact jb_X11_reads_55 C CR  n x2 s1
  · refine j_aload_n C dX11_reads_25 0 rfl rfl ?_
    refine j_getR (z := 18) C kX11 (km_0 b) (lm_0 b) 37 (by decide) tw_1230 (rm_37 b) rfl dX11_reads_26 ?_
    refine j_iload C dX11_reads_29 3 rfl ?_
    refine j_aload_n C dX11_reads_31 0 rfl rfl ?_
    refine j_callVi C (c_X11_value b n  s) cw_RX11_263 ⟨rfl, rfl, Nat.le_of_ble_eq_true rfl, Nat.le_of_ble_eq_true rfl⟩ 0 kX11 (km_0 b) (lm_0 b) [] [.int l4, .ref (adX X 18)] rfl rfl rfl (Nat.le_of_ble_eq_true rfl) dX11_reads_32 (fun x4 s3 => ?_)
    refine j_iast C (km_18 b) (lm_18 b) dX11_reads_35 (fun s5 => ?_)
    refine j_iinc (L2 := fun x6 => [(0, .ref (adX X 0)), (2, .int l2), (3, .int l3), (4, .int x6)]) C dX11_reads_36 3 rfl (by decide) [1, 2, 3, 0] (fun _ => rfl) (fun x6 => ?_)
    refine j_goto (tgt := 19) C dX11_reads_39 (by decide) ?_
    exact hk19 l2 l3 x6 s5
theorem lb_X11_reads_19 {b : Bool} {X : CtxT Mem} (C : Cx (YM b) X 5 cX11_reads RX11 none rm_X11_reads) (CR : CRn (YM b) X)  : ∀ (n : Nat) (l2 : Int32) (l3 : Int32) (l4 : Int32) (s : Mem), J (YM b) X 5 (itr3 (b_X11_reads_19) n l2 l3 l4 s) 19 [(0, .ref (adX X 0)), (2, .int l2), (3, .int l3), (4, .int l4)] [] s := by
  intro n
  induction n with
  | zero => intros; exact j_none
  | succ n ih =>
    intro l2 l3 l4 s
    exact jb_X11_reads_19 C CR  n _ ih l2 l3 l4 s
set_option maxHeartbeats 4000000 in
theorem jb_X11_reads_13 {b : Bool} {X : CtxT Mem} (C : Cx (YM b) X 5 cX11_reads RX11 none rm_X11_reads) (CR : CRn (YM b) X)  (n : Nat)  (l2 : Int32) (l3 : Int32) (t0 : Int32) (s : Mem) : J (YM b) X 5 (b_X11_reads_13  n  l2 l3 t0 s) 13 [(0, .ref (adX X 0)), (2, .int l2), (3, .int l3)] [.int t0, .ref (adX X 0)] s := by
  unfold b_X11_reads_13
  refine j_put C kX11 (km_0 b) (lm_0 b) 38 (by decide) tw_1231 (rm_38 b) rfl rfl dX11_reads_13 (fun s1 => ?_)
  refine j_iconst (v := (0 : Int32)) C dX11_reads_16 (by decide) ?_
  refine j_istore (L' := [(0, .ref (adX X 0)), (2, .int l2), (3, .int l3), (4, .int (0 : Int32))]) C dX11_reads_17 (by decide) [1, 2, 3, 0] rfl ?_
  exact lb_X11_reads_19 C CR  n l2 l3 (0 : Int32) s1
set_option maxHeartbeats 4000000 in
theorem c_X11_reads (b : Bool) (n : Nat) (l1 : Int32) (l2 : Int32) (l3 : Int32) (s : Mem) : CTn (YM b) yX11_reads cX11_reads 5 none rm_X11_reads (fun ad => [.ref (ad 0), .int l1, .int l2, .int l3]) s (f_X11_reads n l1 l2 l3 s) := by
  refine CTn_of (by decide) (fun _ => Nat.le_of_ble_eq_true rfl) (fun X C CR => ?_)
  show J (YM b) X 5 (f_X11_reads n l1 l2 l3 s) 0 [(0, .ref (adX X 0)), (1, .int l1), (2, .int l2), (3, .int l3)] [] s
  unfold f_X11_reads
  refine j_aload_n C dX11_reads_0 0 rfl rfl ?_
  refine j_iload_n C dX11_reads_1 1 rfl rfl ?_
  refine j_if_eq (tgt := 12) C dX11_reads_2 (by decide) ?_ ?_
  · refine j_iconst (v := (0 : Int32)) C dX11_reads_12 (by decide) ?_
    refine j_sub (L' := [(0, .ref (adX X 0)), (2, .int l2), (3, .int l3)]) [0, 2, 3] rfl ?_
    exact jb_X11_reads_13 C CR  n l2 l3 (0 : Int32) s
  · refine j_aload_n C dX11_reads_5 0 rfl rfl ?_
    refine j_callVi C (c_X11_target b n  s) cw_RX11_257 ⟨rfl, rfl, Nat.le_of_ble_eq_true rfl, Nat.le_of_ble_eq_true rfl⟩ 0 kX11 (km_0 b) (lm_0 b) [] [.ref (adX X 0)] rfl rfl rfl (Nat.le_of_ble_eq_true rfl) dX11_reads_6 (fun x2 s1 => ?_)
    refine j_goto (tgt := 13) C dX11_reads_9 (by decide) ?_
    refine j_sub (L' := [(0, .ref (adX X 0)), (2, .int l2), (3, .int l3)]) [0, 2, 3] rfl ?_
    exact jb_X11_reads_13 C CR  n l2 l3 x2 s1
set_option maxHeartbeats 4000000 in
theorem jb_X11_readOrder_152 {b : Bool} {X : CtxT Mem} (C : Cx (YM b) X 2 cX11_readOrder RX11 none rm_X11_readOrder) (CR : CRn (YM b) X)  (n : Nat)   (s : Mem) : J (YM b) X 2 (b_X11_readOrder_152  n   s) 152 [] [] s := by
  unfold b_X11_readOrder_152
  exact j_vret C CR dX11_readOrder_152
set_option maxHeartbeats 4000000 in
theorem jb_X11_readOrder_161 {b : Bool} {X : CtxT Mem} (C : Cx (YM b) X 2 cX11_readOrder RX11 none rm_X11_readOrder) (CR : CRn (YM b) X)  (n : Nat)   (s : Mem) : J (YM b) X 2 (b_X11_readOrder_161  n   s) 161 [(0, .ref (adX X 0))] [] s := by
  unfold b_X11_readOrder_161
  refine j_aload_n C dX11_readOrder_161 0 rfl rfl ?_
  refine j_iconst (v := (0 : Int32)) C dX11_readOrder_162 (by decide) ?_
  refine j_iconst (v := (2 : Int32)) C dX11_readOrder_163 (by decide) ?_
  refine j_iconst (v := (1 : Int32)) C dX11_readOrder_164 (by decide) ?_
  refine j_callVn C (c_X11_reads b n (0 : Int32) (2 : Int32) (1 : Int32) s) cw_RX11_272 ⟨rfl, rfl, Nat.le_of_ble_eq_true rfl, Nat.le_of_ble_eq_true rfl⟩ 0 kX11 (km_0 b) (lm_0 b) [.int (0 : Int32), .int (2 : Int32), .int (1 : Int32)] [] rfl rfl rfl (Nat.le_of_ble_eq_true rfl) dX11_readOrder_165 (fun s1 => ?_)
  exact j_vret C CR dX11_readOrder_168
set_option maxHeartbeats 4000000 in
theorem jb_X11_readOrder_169 {b : Bool} {X : CtxT Mem} (C : Cx (YM b) X 2 cX11_readOrder RX11 none rm_X11_readOrder) (CR : CRn (YM b) X)  (n : Nat)   (s : Mem) : J (YM b) X 2 (b_X11_readOrder_169  n   s) 169 [(0, .ref (adX X 0))] [] s := by
  unfold b_X11_readOrder_169
  refine j_aload_n C dX11_readOrder_169 0 rfl rfl ?_
  refine j_iconst (v := (0 : Int32)) C dX11_readOrder_170 (by decide) ?_
  refine j_iconst (v := (1 : Int32)) C dX11_readOrder_171 (by decide) ?_
  refine j_iconst (v := (0 : Int32)) C dX11_readOrder_172 (by decide) ?_
  refine j_callVn C (c_X11_reads b n (0 : Int32) (1 : Int32) (0 : Int32) s) cw_RX11_272 ⟨rfl, rfl, Nat.le_of_ble_eq_true rfl, Nat.le_of_ble_eq_true rfl⟩ 0 kX11 (km_0 b) (lm_0 b) [.int (0 : Int32), .int (1 : Int32), .int (0 : Int32)] [] rfl rfl rfl (Nat.le_of_ble_eq_true rfl) dX11_readOrder_173 (fun s1 => ?_)
  exact j_vret C CR dX11_readOrder_176
set_option maxHeartbeats 4000000 in
theorem jb_X11_readOrder_185 {b : Bool} {X : CtxT Mem} (C : Cx (YM b) X 2 cX11_readOrder RX11 none rm_X11_readOrder) (CR : CRn (YM b) X)  (n : Nat)   (s : Mem) : J (YM b) X 2 (b_X11_readOrder_185  n   s) 185 [(0, .ref (adX X 0))] [] s := by
  unfold b_X11_readOrder_185
  refine j_aload_n C dX11_readOrder_185 0 rfl rfl ?_
  refine j_iconst (v := (0 : Int32)) C dX11_readOrder_186 (by decide) ?_
  refine j_iconst (v := (3 : Int32)) C dX11_readOrder_187 (by decide) ?_
  refine j_iconst (v := (0 : Int32)) C dX11_readOrder_188 (by decide) ?_
  refine j_callVn C (c_X11_reads b n (0 : Int32) (3 : Int32) (0 : Int32) s) cw_RX11_272 ⟨rfl, rfl, Nat.le_of_ble_eq_true rfl, Nat.le_of_ble_eq_true rfl⟩ 0 kX11 (km_0 b) (lm_0 b) [.int (0 : Int32), .int (3 : Int32), .int (0 : Int32)] [] rfl rfl rfl (Nat.le_of_ble_eq_true rfl) dX11_readOrder_189 (fun s1 => ?_)
  exact j_vret C CR dX11_readOrder_192
set_option maxHeartbeats 4000000 in
theorem jb_X11_readOrder_193 {b : Bool} {X : CtxT Mem} (C : Cx (YM b) X 2 cX11_readOrder RX11 none rm_X11_readOrder) (CR : CRn (YM b) X)  (n : Nat)   (s : Mem) : J (YM b) X 2 (b_X11_readOrder_193  n   s) 193 [(0, .ref (adX X 0))] [] s := by
  unfold b_X11_readOrder_193
  refine j_aload_n C dX11_readOrder_193 0 rfl rfl ?_
  refine j_iconst (v := (0 : Int32)) C dX11_readOrder_194 (by decide) ?_
  refine j_iconst (v := (2 : Int32)) C dX11_readOrder_195 (by decide) ?_
  refine j_iconst (v := (0 : Int32)) C dX11_readOrder_196 (by decide) ?_
  refine j_callVn C (c_X11_reads b n (0 : Int32) (2 : Int32) (0 : Int32) s) cw_RX11_272 ⟨rfl, rfl, Nat.le_of_ble_eq_true rfl, Nat.le_of_ble_eq_true rfl⟩ 0 kX11 (km_0 b) (lm_0 b) [.int (0 : Int32), .int (2 : Int32), .int (0 : Int32)] [] rfl rfl rfl (Nat.le_of_ble_eq_true rfl) dX11_readOrder_197 (fun s1 => ?_)
  exact j_vret C CR dX11_readOrder_200
set_option maxHeartbeats 4000000 in
theorem jb_X11_readOrder_243 {b : Bool} {X : CtxT Mem} (C : Cx (YM b) X 2 cX11_readOrder RX11 none rm_X11_readOrder) (CR : CRn (YM b) X)  (n : Nat)   (s : Mem) : J (YM b) X 2 (b_X11_readOrder_243  n   s) 243 [(0, .ref (adX X 0))] [] s := by
  unfold b_X11_readOrder_243
  refine j_aload_n C dX11_readOrder_243 0 rfl rfl ?_
  refine j_iconst (v := (1 : Int32)) C dX11_readOrder_244 (by decide) ?_
  refine j_iconst (v := (1 : Int32)) C dX11_readOrder_245 (by decide) ?_
  refine j_iconst (v := (0 : Int32)) C dX11_readOrder_246 (by decide) ?_
  refine j_callVn C (c_X11_reads b n (1 : Int32) (1 : Int32) (0 : Int32) s) cw_RX11_272 ⟨rfl, rfl, Nat.le_of_ble_eq_true rfl, Nat.le_of_ble_eq_true rfl⟩ 0 kX11 (km_0 b) (lm_0 b) [.int (1 : Int32), .int (1 : Int32), .int (0 : Int32)] [] rfl rfl rfl (Nat.le_of_ble_eq_true rfl) dX11_readOrder_247 (fun s1 => ?_)
  exact j_vret C CR dX11_readOrder_250
set_option maxHeartbeats 4000000 in
theorem jb_X11_readOrder_209 {b : Bool} {X : CtxT Mem} (C : Cx (YM b) X 2 cX11_readOrder RX11 none rm_X11_readOrder) (CR : CRn (YM b) X)  (n : Nat)  (l1 : Int32) (s : Mem) : J (YM b) X 2 (b_X11_readOrder_209  n  l1 s) 209 [(0, .ref (adX X 0)), (1, .int l1)] [] s := by
  unfold b_X11_readOrder_209
  refine j_iload_n C dX11_readOrder_209 1 rfl rfl ?_
  refine j_i2l C dX11_readOrder_210 ?_
  refine j_ldc2 (v := 3) C tw_1450 dX11_readOrder_211 ?_
  refine j_ldc2 (v := 7) C tw_1463 dX11_readOrder_214 ?_
  refine j_callSi C (c_X11_in b n l1.toInt64 (3 : Int64) (7 : Int64) s) cw_RX11_72 ⟨rfl, rfl, Nat.le_of_ble_eq_true rfl, Nat.le_of_ble_eq_true rfl⟩ [.long l1.toInt64, .long (3 : Int64), .long (7 : Int64)] [] rfl rfl rfl (Nat.le_of_ble_eq_true rfl) dX11_readOrder_217 (fun x2 s1 => ?_)
  refine j_if_ne (tgt := 243) C dX11_readOrder_220 (by decide) ?_ ?_
  · refine j_sub (L' := [(0, .ref (adX X 0))]) [0] rfl ?_
    exact jb_X11_readOrder_243 C CR  n s1
  · refine j_iload_n C dX11_readOrder_223 1 rfl rfl ?_
    refine j_i2l C dX11_readOrder_224 ?_
    refine j_ldc2 (v := 23) C tw_1464 dX11_readOrder_225 ?_
    refine j_ldc2 (v := 32) C tw_1465 dX11_readOrder_228 ?_
    refine j_callSi C (c_X11_in b n l1.toInt64 (23 : Int64) (32 : Int64) s1) cw_RX11_72 ⟨rfl, rfl, Nat.le_of_ble_eq_true rfl, Nat.le_of_ble_eq_true rfl⟩ [.long l1.toInt64, .long (23 : Int64), .long (32 : Int64)] [] rfl rfl rfl (Nat.le_of_ble_eq_true rfl) dX11_readOrder_231 (fun x4 s3 => ?_)
    refine j_if_ne (tgt := 243) C dX11_readOrder_234 (by decide) ?_ ?_
    · refine j_sub (L' := [(0, .ref (adX X 0))]) [0] rfl ?_
      exact jb_X11_readOrder_243 C CR  n s3
    · refine j_aload_n C dX11_readOrder_237 0 rfl rfl ?_
      refine j_iconst (v := (1 : Int32)) C dX11_readOrder_238 (by decide) ?_
      refine j_putZ C kX11 (km_0 b) (lm_0 b) 35 (by decide) tw_1228 (rm_35 b) rfl rfl dX11_readOrder_239 (fun s5 => ?_)
      exact j_vret C CR dX11_readOrder_242
set_option maxHeartbeats 4000000 in
theorem c_X11_readOrder (b : Bool) (n : Nat) (l1 : Int32) (s : Mem) : CTn (YM b) yX11_readOrder cX11_readOrder 2 none rm_X11_readOrder (fun ad => [.ref (ad 0), .int l1]) s (f_X11_readOrder n l1 s) := by
  refine CTn_of (by decide) (fun _ => Nat.le_of_ble_eq_true rfl) (fun X C CR => ?_)
  show J (YM b) X 2 (f_X11_readOrder n l1 s) 0 [(0, .ref (adX X 0)), (1, .int l1)] [] s
  unfold f_X11_readOrder
  refine j_iload_n C dX11_readOrder_0 1 rfl rfl ?_
  refine j_ite (fun hc => ?_) (fun hc0 => ?_)
  · refine j_tswI (off := 151) (tgt := 152) C dX11_readOrder_1 (by rw [hc]; decide) (by rw [hc]; decide) (by rw [hc]; rfl) (by decide) ?_
    refine j_sub (L' := []) [] rfl ?_
    exact jb_X11_readOrder_152 C CR  n s
  refine j_ite (fun hc => ?_) (fun hc1 => ?_)
  · refine j_tswI (off := 151) (tgt := 152) C dX11_readOrder_1 (by rw [hc]; decide) (by rw [hc]; decide) (by rw [hc]; rfl) (by decide) ?_
    refine j_sub (L' := []) [] rfl ?_
    exact jb_X11_readOrder_152 C CR  n s
  refine j_ite (fun hc => ?_) (fun hc2 => ?_)
  · refine j_tswI (off := 152) (tgt := 153) C dX11_readOrder_1 (by rw [hc]; decide) (by rw [hc]; decide) (by rw [hc]; rfl) (by decide) ?_
    refine j_aload_n C dX11_readOrder_153 0 rfl rfl ?_
    refine j_iconst (v := (0 : Int32)) C dX11_readOrder_154 (by decide) ?_
    refine j_iconst (v := (0 : Int32)) C dX11_readOrder_155 (by decide) ?_
    refine j_iconst (v := (1 : Int32)) C dX11_readOrder_156 (by decide) ?_
    refine j_callVn C (c_X11_reads b n (0 : Int32) (0 : Int32) (1 : Int32) s) cw_RX11_272 ⟨rfl, rfl, Nat.le_of_ble_eq_true rfl, Nat.le_of_ble_eq_true rfl⟩ 0 kX11 (km_0 b) (lm_0 b) [.int (0 : Int32), .int (0 : Int32), .int (1 : Int32)] [] rfl rfl rfl (Nat.le_of_ble_eq_true rfl) dX11_readOrder_157 (fun s1 => ?_)
    exact j_vret C CR dX11_readOrder_160
  refine j_ite (fun hc => ?_) (fun hc3 => ?_)
  · refine j_tswI (off := 208) (tgt := 209) C dX11_readOrder_1 (by rw [hc]; decide) (by rw [hc]; decide) (by rw [hc]; rfl) (by decide) ?_
    exact jb_X11_readOrder_209 C CR  n l1 s
  refine j_ite (fun hc => ?_) (fun hc4 => ?_)
  · refine j_tswI (off := 208) (tgt := 209) C dX11_readOrder_1 (by rw [hc]; decide) (by rw [hc]; decide) (by rw [hc]; rfl) (by decide) ?_
    exact jb_X11_readOrder_209 C CR  n l1 s
  refine j_ite (fun hc => ?_) (fun hc5 => ?_)
  · refine j_tswI (off := 208) (tgt := 209) C dX11_readOrder_1 (by rw [hc]; decide) (by rw [hc]; decide) (by rw [hc]; rfl) (by decide) ?_
    exact jb_X11_readOrder_209 C CR  n l1 s
  refine j_ite (fun hc => ?_) (fun hc6 => ?_)
  · refine j_tswI (off := 208) (tgt := 209) C dX11_readOrder_1 (by rw [hc]; decide) (by rw [hc]; decide) (by rw [hc]; rfl) (by decide) ?_
    exact jb_X11_readOrder_209 C CR  n l1 s
  refine j_ite (fun hc => ?_) (fun hc7 => ?_)
  · refine j_tswI (off := 208) (tgt := 209) C dX11_readOrder_1 (by rw [hc]; decide) (by rw [hc]; decide) (by rw [hc]; rfl) (by decide) ?_
    exact jb_X11_readOrder_209 C CR  n l1 s
  refine j_ite (fun hc => ?_) (fun hc8 => ?_)
  · refine j_tswI (off := 160) (tgt := 161) C dX11_readOrder_1 (by rw [hc]; decide) (by rw [hc]; decide) (by rw [hc]; rfl) (by decide) ?_
    refine j_sub (L' := [(0, .ref (adX X 0))]) [0] rfl ?_
    exact jb_X11_readOrder_161 C CR  n s
  refine j_ite (fun hc => ?_) (fun hc9 => ?_)
  · refine j_tswI (off := 160) (tgt := 161) C dX11_readOrder_1 (by rw [hc]; decide) (by rw [hc]; decide) (by rw [hc]; rfl) (by decide) ?_
    refine j_sub (L' := [(0, .ref (adX X 0))]) [0] rfl ?_
    exact jb_X11_readOrder_161 C CR  n s
  refine j_ite (fun hc => ?_) (fun hc10 => ?_)
  · refine j_tswI (off := 168) (tgt := 169) C dX11_readOrder_1 (by rw [hc]; decide) (by rw [hc]; decide) (by rw [hc]; rfl) (by decide) ?_
    refine j_sub (L' := [(0, .ref (adX X 0))]) [0] rfl ?_
    exact jb_X11_readOrder_169 C CR  n s
  refine j_ite (fun hc => ?_) (fun hc11 => ?_)
  · refine j_tswI (off := 168) (tgt := 169) C dX11_readOrder_1 (by rw [hc]; decide) (by rw [hc]; decide) (by rw [hc]; rfl) (by decide) ?_
    refine j_sub (L' := [(0, .ref (adX X 0))]) [0] rfl ?_
    exact jb_X11_readOrder_169 C CR  n s
  refine j_ite (fun hc => ?_) (fun hc12 => ?_)
  · refine j_tswI (off := 168) (tgt := 169) C dX11_readOrder_1 (by rw [hc]; decide) (by rw [hc]; decide) (by rw [hc]; rfl) (by decide) ?_
    refine j_sub (L' := [(0, .ref (adX X 0))]) [0] rfl ?_
    exact jb_X11_readOrder_169 C CR  n s
  refine j_ite (fun hc => ?_) (fun hc13 => ?_)
  · refine j_tswI (off := 176) (tgt := 177) C dX11_readOrder_1 (by rw [hc]; decide) (by rw [hc]; decide) (by rw [hc]; rfl) (by decide) ?_
    refine j_aload_n C dX11_readOrder_177 0 rfl rfl ?_
    refine j_iconst (v := (0 : Int32)) C dX11_readOrder_178 (by decide) ?_
    refine j_iconst (v := (4 : Int32)) C dX11_readOrder_179 (by decide) ?_
    refine j_iconst (v := (0 : Int32)) C dX11_readOrder_180 (by decide) ?_
    refine j_callVn C (c_X11_reads b n (0 : Int32) (4 : Int32) (0 : Int32) s) cw_RX11_272 ⟨rfl, rfl, Nat.le_of_ble_eq_true rfl, Nat.le_of_ble_eq_true rfl⟩ 0 kX11 (km_0 b) (lm_0 b) [.int (0 : Int32), .int (4 : Int32), .int (0 : Int32)] [] rfl rfl rfl (Nat.le_of_ble_eq_true rfl) dX11_readOrder_181 (fun s2 => ?_)
    exact j_vret C CR dX11_readOrder_184
  refine j_ite (fun hc => ?_) (fun hc14 => ?_)
  · refine j_tswI (off := 184) (tgt := 185) C dX11_readOrder_1 (by rw [hc]; decide) (by rw [hc]; decide) (by rw [hc]; rfl) (by decide) ?_
    refine j_sub (L' := [(0, .ref (adX X 0))]) [0] rfl ?_
    exact jb_X11_readOrder_185 C CR  n s
  refine j_ite (fun hc => ?_) (fun hc15 => ?_)
  · refine j_tswI (off := 168) (tgt := 169) C dX11_readOrder_1 (by rw [hc]; decide) (by rw [hc]; decide) (by rw [hc]; rfl) (by decide) ?_
    refine j_sub (L' := [(0, .ref (adX X 0))]) [0] rfl ?_
    exact jb_X11_readOrder_169 C CR  n s
  refine j_ite (fun hc => ?_) (fun hc16 => ?_)
  · refine j_tswI (off := 192) (tgt := 193) C dX11_readOrder_1 (by rw [hc]; decide) (by rw [hc]; decide) (by rw [hc]; rfl) (by decide) ?_
    refine j_sub (L' := [(0, .ref (adX X 0))]) [0] rfl ?_
    exact jb_X11_readOrder_193 C CR  n s
  refine j_ite (fun hc => ?_) (fun hc17 => ?_)
  · refine j_tswI (off := 192) (tgt := 193) C dX11_readOrder_1 (by rw [hc]; decide) (by rw [hc]; decide) (by rw [hc]; rfl) (by decide) ?_
    refine j_sub (L' := [(0, .ref (adX X 0))]) [0] rfl ?_
    exact jb_X11_readOrder_193 C CR  n s
  refine j_ite (fun hc => ?_) (fun hc18 => ?_)
  · refine j_tswI (off := 192) (tgt := 193) C dX11_readOrder_1 (by rw [hc]; decide) (by rw [hc]; decide) (by rw [hc]; rfl) (by decide) ?_
    refine j_sub (L' := [(0, .ref (adX X 0))]) [0] rfl ?_
    exact jb_X11_readOrder_193 C CR  n s
  refine j_ite (fun hc => ?_) (fun hc19 => ?_)
  · refine j_tswI (off := 184) (tgt := 185) C dX11_readOrder_1 (by rw [hc]; decide) (by rw [hc]; decide) (by rw [hc]; rfl) (by decide) ?_
    refine j_sub (L' := [(0, .ref (adX X 0))]) [0] rfl ?_
    exact jb_X11_readOrder_185 C CR  n s
  refine j_ite (fun hc => ?_) (fun hc20 => ?_)
  · refine j_tswI (off := 168) (tgt := 169) C dX11_readOrder_1 (by rw [hc]; decide) (by rw [hc]; decide) (by rw [hc]; rfl) (by decide) ?_
    refine j_sub (L' := [(0, .ref (adX X 0))]) [0] rfl ?_
    exact jb_X11_readOrder_169 C CR  n s
  refine j_ite (fun hc => ?_) (fun hc21 => ?_)
  · refine j_tswI (off := 184) (tgt := 185) C dX11_readOrder_1 (by rw [hc]; decide) (by rw [hc]; decide) (by rw [hc]; rfl) (by decide) ?_
    refine j_sub (L' := [(0, .ref (adX X 0))]) [0] rfl ?_
    exact jb_X11_readOrder_185 C CR  n s
  refine j_ite (fun hc => ?_) (fun hc22 => ?_)
  · refine j_tswI (off := 168) (tgt := 169) C dX11_readOrder_1 (by rw [hc]; decide) (by rw [hc]; decide) (by rw [hc]; rfl) (by decide) ?_
    refine j_sub (L' := [(0, .ref (adX X 0))]) [0] rfl ?_
    exact jb_X11_readOrder_169 C CR  n s
  refine j_ite (fun hc => ?_) (fun hc23 => ?_)
  · refine j_tswI (off := 208) (tgt := 209) C dX11_readOrder_1 (by rw [hc]; decide) (by rw [hc]; decide) (by rw [hc]; rfl) (by decide) ?_
    exact jb_X11_readOrder_209 C CR  n l1 s
  refine j_ite (fun hc => ?_) (fun hc24 => ?_)
  · refine j_tswI (off := 208) (tgt := 209) C dX11_readOrder_1 (by rw [hc]; decide) (by rw [hc]; decide) (by rw [hc]; rfl) (by decide) ?_
    exact jb_X11_readOrder_209 C CR  n l1 s
  refine j_ite (fun hc => ?_) (fun hc25 => ?_)
  · refine j_tswI (off := 208) (tgt := 209) C dX11_readOrder_1 (by rw [hc]; decide) (by rw [hc]; decide) (by rw [hc]; rfl) (by decide) ?_
    exact jb_X11_readOrder_209 C CR  n l1 s
  refine j_ite (fun hc => ?_) (fun hc26 => ?_)
  · refine j_tswI (off := 208) (tgt := 209) C dX11_readOrder_1 (by rw [hc]; decide) (by rw [hc]; decide) (by rw [hc]; rfl) (by decide) ?_
    exact jb_X11_readOrder_209 C CR  n l1 s
  refine j_ite (fun hc => ?_) (fun hc27 => ?_)
  · refine j_tswI (off := 208) (tgt := 209) C dX11_readOrder_1 (by rw [hc]; decide) (by rw [hc]; decide) (by rw [hc]; rfl) (by decide) ?_
    exact jb_X11_readOrder_209 C CR  n l1 s
  refine j_ite (fun hc => ?_) (fun hc28 => ?_)
  · refine j_tswI (off := 208) (tgt := 209) C dX11_readOrder_1 (by rw [hc]; decide) (by rw [hc]; decide) (by rw [hc]; rfl) (by decide) ?_
    exact jb_X11_readOrder_209 C CR  n l1 s
  refine j_ite (fun hc => ?_) (fun hc29 => ?_)
  · refine j_tswI (off := 208) (tgt := 209) C dX11_readOrder_1 (by rw [hc]; decide) (by rw [hc]; decide) (by rw [hc]; rfl) (by decide) ?_
    exact jb_X11_readOrder_209 C CR  n l1 s
  refine j_ite (fun hc => ?_) (fun hc30 => ?_)
  · refine j_tswI (off := 208) (tgt := 209) C dX11_readOrder_1 (by rw [hc]; decide) (by rw [hc]; decide) (by rw [hc]; rfl) (by decide) ?_
    exact jb_X11_readOrder_209 C CR  n l1 s
  refine j_ite (fun hc => ?_) (fun hc31 => ?_)
  · refine j_tswI (off := 200) (tgt := 201) C dX11_readOrder_1 (by rw [hc]; decide) (by rw [hc]; decide) (by rw [hc]; rfl) (by decide) ?_
    refine j_aload_n C dX11_readOrder_201 0 rfl rfl ?_
    refine j_iconst (v := (1 : Int32)) C dX11_readOrder_202 (by decide) ?_
    refine j_iconst (v := (2 : Int32)) C dX11_readOrder_203 (by decide) ?_
    refine j_iconst (v := (0 : Int32)) C dX11_readOrder_204 (by decide) ?_
    refine j_callVn C (c_X11_reads b n (1 : Int32) (2 : Int32) (0 : Int32) s) cw_RX11_272 ⟨rfl, rfl, Nat.le_of_ble_eq_true rfl, Nat.le_of_ble_eq_true rfl⟩ 0 kX11 (km_0 b) (lm_0 b) [.int (1 : Int32), .int (2 : Int32), .int (0 : Int32)] [] rfl rfl rfl (Nat.le_of_ble_eq_true rfl) dX11_readOrder_205 (fun s3 => ?_)
    exact j_vret C CR dX11_readOrder_208
  refine j_ite (fun hc => ?_) (fun hc32 => ?_)
  · refine j_tswI (off := 208) (tgt := 209) C dX11_readOrder_1 (by rw [hc]; decide) (by rw [hc]; decide) (by rw [hc]; rfl) (by decide) ?_
    exact jb_X11_readOrder_209 C CR  n l1 s
  refine j_ite (fun hc => ?_) (fun hc33 => ?_)
  · refine j_tswI (off := 168) (tgt := 169) C dX11_readOrder_1 (by rw [hc]; decide) (by rw [hc]; decide) (by rw [hc]; rfl) (by decide) ?_
    refine j_sub (L' := [(0, .ref (adX X 0))]) [0] rfl ?_
    exact jb_X11_readOrder_169 C CR  n s
  refine j_tswO (tgt := 209) C dX11_readOrder_1 (by omega) (by decide) ?_
  exact jb_X11_readOrder_209 C CR  n l1 s
set_option maxHeartbeats 4000000 in
theorem c_X11_isByte (b : Bool) (n : Nat) (l0 : Int32) (s : Mem) : CTi (YM b) yX11_isByte cX11_isByte 1 (some .boolean) rm_X11_isByte (fun ad => [.int l0]) s (f_X11_isByte n l0 s) := by
  refine CTi_of (by decide) (fun _ => Nat.le_of_ble_eq_true rfl) (fun X C CR => ?_)
  show J (YM b) X 1 (f_X11_isByte n l0 s) 0 [(0, .int l0)] [] s
  unfold f_X11_isByte
  refine j_iload_n C dX11_isByte_0 0 rfl rfl ?_
  refine j_i2l C dX11_isByte_1 ?_
  refine j_lconst (v := 0) C dX11_isByte_2 (by decide) ?_
  refine j_ldc2 (v := 255) C tw_1479 dX11_isByte_3 ?_
  refine j_callSi C (c_X11_in b n l0.toInt64 (0 : Int64) (255 : Int64) s) cw_RX11_72 ⟨rfl, rfl, Nat.le_of_ble_eq_true rfl, Nat.le_of_ble_eq_true rfl⟩ [.long l0.toInt64, .long (0 : Int64), .long (255 : Int64)] [] rfl rfl rfl (Nat.le_of_ble_eq_true rfl) dX11_isByte_6 (fun x2 s1 => ?_)
  exact j_zret C CR dX11_isByte_9
