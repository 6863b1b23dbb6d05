/-! ===== the cases of the law's switch ===== -/
theorem cwh_51 : CwH RL 51 yL_play cL_play 3 [(0, 8, 11, 13)] 2 := CwH_of lk_906 lk_907 lk_100 lk_908 (by decide +kernel)
theorem cwh_82 : CwH RL 82 yL_set cL_set 5 [(0, 10, 13, 19)] 4 := CwH_of lk_1110 lk_1111 lk_100 lk_1112 (by decide +kernel)
theorem cwh_86 : CwH RL 86 yL_variable cL_variable 4 [(0, 9, 12, 19)] 3 := CwH_of lk_1134 lk_1135 lk_100 lk_1136 (by decide +kernel)
theorem cwh_94 : CwH RL 94 yL_actor cL_actor 5 [(0, 10, 13, 19)] 4 := CwH_of lk_1141 lk_1142 lk_100 lk_1143 (by decide +kernel)
theorem cwh_97 : CwH RL 97 yL_object cL_object 5 [(0, 10, 13, 19)] 4 := CwH_of lk_1154 lk_1155 lk_100 lk_1156 (by decide +kernel)
theorem cwh_120 : CwH RL 120 yL_note cL_note 4 [(0, 9, 12, 19)] 3 := CwH_of lk_1167 lk_1168 lk_100 lk_1169 (by decide +kernel)
theorem cwh_123 : CwH RL 123 yL_sentence cL_sentence 5 [(0, 10, 13, 19)] 4 := CwH_of lk_1175 lk_1176 lk_100 lk_1177 (by decide +kernel)
set_option maxRecDepth 100000 in
theorem lcs_0 {X : LtT} {σ τ : Mem} {v : Int64} {nc ns t : Nat} (C : LC X) (ht : t ≤ 512) (hj : 6 * t + 6 ≤ LaN X) (hcs : nc ≤ 601024 ∧ ns ≤ 7293034) (hcm : nc + 2 ≤ 601024 ∧ ns + 10 ≤ 7293034) (hR : Rel t σ τ) (K : ∀ σ' τ' v', Rel (t + 1) σ' τ' → LJ X 1168 (LaL X t) [] σ' τ' v' (nc + 2) (ns + 10)) : LJ X 148 (LaL X t) [] σ τ v nc ns := by
  obtain ⟨r, σ', τ', e1, e2, hR'⟩ := sim_feed hR (n := 20000) (by decide) (LaX X (6 * t + 1)) (LaX X (6 * t + 2)) (LaX X (6 * t + 3)) (LaX X (6 * t + 4)) (LaX X (6 * t + 5))
  refine l_aload_n C dL_law_148 1 rfl rfl ?_
  refine l_arg C 1 dL_law_149 dL_law_150 dL_law_152 dL_law_153 dL_law_154 (by decide) (by omega) ?_
  refine l_arg C 2 dL_law_155 dL_law_156 dL_law_158 dL_law_159 dL_law_160 (by decide) (by omega) ?_
  refine l_arg C 3 dL_law_161 dL_law_162 dL_law_164 dL_law_165 dL_law_166 (by decide) (by omega) ?_
  refine l_arg C 4 dL_law_167 dL_law_168 dL_law_170 dL_law_171 dL_law_172 (by decide) (by omega) ?_
  refine l_arg C 5 dL_law_173 dL_law_174 dL_law_176 dL_law_177 dL_law_178 (by decide) (by omega) ?_
  refine l_callC C (c_X10_feed 20000 (LaX X (6 * t + 1)) (LaX X (6 * t + 2)) (LaX X (6 * t + 3)) (LaX X (6 * t + 4)) (LaX X (6 * t + 5)) σ) e1 cwl_41 ⟨rfl, rfl, (Nat.le_of_ble_eq_true rfl), (Nat.le_of_ble_eq_true rfl)⟩ [.int (LaX X (6 * t + 1)), .int (LaX X (6 * t + 2)), .int (LaX X (6 * t + 3)), .int (LaX X (6 * t + 4)), .int (LaX X (6 * t + 5))] [] rfl rfl rfl (Nat.le_of_ble_eq_true rfl) hcs dL_law_179 ?_
  refine l_aload_n C dL_law_182 2 rfl rfl ?_
  refine l_arg C 1 dL_law_183 dL_law_184 dL_law_186 dL_law_187 dL_law_188 (by decide) (by omega) ?_
  refine l_arg C 2 dL_law_189 dL_law_190 dL_law_192 dL_law_193 dL_law_194 (by decide) (by omega) ?_
  refine l_arg C 3 dL_law_195 dL_law_196 dL_law_198 dL_law_199 dL_law_200 (by decide) (by omega) ?_
  refine l_arg C 4 dL_law_201 dL_law_202 dL_law_204 dL_law_205 dL_law_206 (by decide) (by omega) ?_
  refine l_arg C 5 dL_law_207 dL_law_208 dL_law_210 dL_law_211 dL_law_212 (by decide) (by omega) ?_
  refine l_callM C (c_X11_feed false 20000 (LaX X (6 * t + 1)) (LaX X (6 * t + 2)) (LaX X (6 * t + 3)) (LaX X (6 * t + 4)) (LaX X (6 * t + 5)) τ) e2 cwl_45 ⟨rfl, rfl, (Nat.le_of_ble_eq_true rfl), (Nat.le_of_ble_eq_true rfl)⟩ [.int (LaX X (6 * t + 1)), .int (LaX X (6 * t + 2)), .int (LaX X (6 * t + 3)), .int (LaX X (6 * t + 4)), .int (LaX X (6 * t + 5))] [.int r] rfl rfl rfl (Nat.le_of_ble_eq_true rfl) hcs dL_law_213 ?_
  exact l_icmp_eq C dL_law_216 (by decide) rfl (l_widen (by omega) (by omega) (K σ' τ' v hR'))
set_option maxRecDepth 100000 in
theorem lcs_1 {X : LtT} {σ τ : Mem} {v : Int64} {nc ns t : Nat} (C : LC X) (ht : t ≤ 512) (hj : 6 * t + 6 ≤ LaN X) (hcs : nc ≤ 601024 ∧ ns ≤ 7293034) (hcm : nc + 2 ≤ 601024 ∧ ns + 10 ≤ 7293034) (hR : Rel t σ τ) (K : ∀ σ' τ' v', Rel (t + 1) σ' τ' → LJ X 1168 (LaL X t) [] σ' τ' v' (nc + 2) (ns + 10)) : LJ X 221 (LaL X t) [] σ τ v nc ns := by
  obtain ⟨r, σ', τ', e1, e2, hR'⟩ := sim_end hR 20000 (LaX X (6 * t + 1))
  refine l_aload_n C dL_law_221 1 rfl rfl ?_
  refine l_arg C 1 dL_law_222 dL_law_223 dL_law_225 dL_law_226 dL_law_227 (by decide) (by omega) ?_
  refine l_callC C (c_X10_end 20000 (LaX X (6 * t + 1)) σ) e1 cwl_46 ⟨rfl, rfl, (Nat.le_of_ble_eq_true rfl), (Nat.le_of_ble_eq_true rfl)⟩ [.int (LaX X (6 * t + 1))] [] rfl rfl rfl (Nat.le_of_ble_eq_true rfl) hcs dL_law_228 ?_
  refine l_aload_n C dL_law_231 2 rfl rfl ?_
  refine l_arg C 1 dL_law_232 dL_law_233 dL_law_235 dL_law_236 dL_law_237 (by decide) (by omega) ?_
  refine l_callM C (c_X11_end false 20000 (LaX X (6 * t + 1)) τ) e2 cwl_50 ⟨rfl, rfl, (Nat.le_of_ble_eq_true rfl), (Nat.le_of_ble_eq_true rfl)⟩ [.int (LaX X (6 * t + 1))] [.int r] rfl rfl rfl (Nat.le_of_ble_eq_true rfl) hcs dL_law_238 ?_
  exact l_icmp_eq C dL_law_241 (by decide) rfl (l_widen (by omega) (by omega) (K σ' τ' v hR'))
set_option maxRecDepth 100000 in
theorem lcs_2 {X : LtT} {σ τ : Mem} {v : Int64} {nc ns t : Nat} (C : LC X) (ht : t ≤ 512) (hj : 6 * t + 6 ≤ LaN X) (hcs : nc ≤ 601024 ∧ ns ≤ 7293034) (hcm : nc + 2 ≤ 601024 ∧ ns + 10 ≤ 7293034) (hR : Rel t σ τ) (K : ∀ σ' τ' v', Rel (t + 1) σ' τ' → LJ X 1168 (LaL X t) [] σ' τ' v' (nc + 2) (ns + 10)) : LJ X 246 (LaL X t) [] σ τ v nc ns := by
  rcases sim_play (n := 20000) (by decide) hR with ⟨r, σ', τ', e1, e2, e3, hR'⟩ | ⟨r, σ', τ', e1, e2, e3, hR'⟩
  · refine l_aload_n C dL_law_246 1 rfl rfl ?_
    refine l_aload_n C dL_law_247 3 rfl rfl ?_
    refine l_callH C (c_L_play 20000  σ) e1 cwh_51 ⟨rfl, rfl, (Nat.le_of_ble_eq_true rfl), (Nat.le_of_ble_eq_true rfl)⟩ [.ref (LaH X), .ref (LaH X + 139)] [] rfl rfl rfl (Nat.le_of_ble_eq_true rfl) ⟨by omega, by omega⟩ dL_law_248 (fun r9 u hp => ?_)
    obtain ⟨-, rfl, rfl⟩ : r9 = r9 ∧ r9 = 0 ∧ u = (σ', r.toInt64) := by
      rcases hp with ⟨h1, -⟩ | ⟨a, h1, h2, h3⟩
      · cases h1
      · cases h1
        exact ⟨rfl, h2, h3⟩
    refine l_istore (L' := LaL X t ++ [(5, .int 0)]) C dL_law_251 (by decide) [1, 2, 3, 4, 5, 0] rfl ?_
    refine l_aload_n C dL_law_253 2 rfl rfl ?_
    refine l_callJ C (c_X11_play 20000 τ) e2 cwl_56 ⟨rfl, rfl, (Nat.le_of_ble_eq_true rfl), (Nat.le_of_ble_eq_true rfl)⟩ [] [] rfl rfl rfl (Nat.le_of_ble_eq_true rfl) ⟨by omega, by omega⟩ dL_law_254 ?_
    refine l_istore (L' := LaL X t ++ [(5, .int 0), (6, .int r)]) C dL_law_257 (by decide) [1, 2, 3, 4, 5, 6, 0] rfl ?_
    refine l_aload_n C dL_law_259 2 rfl rfl ?_
    refine l_callM (r := 0) C (c_X11_thrown false 20000 τ') (show f_X11_thrown 20000 τ' = some (0, τ') by rw [← e3]; rfl) cwl_57 ⟨rfl, rfl, (Nat.le_of_ble_eq_true rfl), (Nat.le_of_ble_eq_true rfl)⟩ [] [] rfl rfl rfl (Nat.le_of_ble_eq_true rfl) ⟨by omega, by omega⟩ dL_law_260 ?_
    refine l_iload C dL_law_263 5 rfl ?_
    refine l_icmp_eq (tgt := 270) C dL_law_265 (by decide) rfl ?_
    refine l_iload C dL_law_270 5 rfl ?_
    refine l_if_ne (tgt := 287) C dL_law_272 (by decide) (fun h9 => absurd rfl h9) (fun _ => ?_)
    refine l_aload_n C dL_law_275 3 rfl rfl ?_
    refine l_iconst (w := 0) C dL_law_276 (by decide) ?_
    refine l_lald C dL_law_277 ?_
    refine l_iload C dL_law_278 6 rfl ?_
    refine l_i2l C dL_law_280 ?_
    refine l_lcmp C dL_law_281 ?_
    refine l_if_eq (tgt := 287) C dL_law_282 (by decide) (lg_self _) ?_
    refine l_goto (tgt := 1168) C dL_law_287 (by decide) ?_
    refine l_sub (L' := LaL X t) [0, 1, 2, 3, 4] rfl ?_
    exact l_widen (by omega) (by omega) (K σ' τ' _ hR')
  · refine l_aload_n C dL_law_246 1 rfl rfl ?_
    refine l_aload_n C dL_law_247 3 rfl rfl ?_
    refine l_callH C (c_L_play 20000  σ) e1 cwh_51 ⟨rfl, rfl, (Nat.le_of_ble_eq_true rfl), (Nat.le_of_ble_eq_true rfl)⟩ [.ref (LaH X), .ref (LaH X + 139)] [] rfl rfl rfl (Nat.le_of_ble_eq_true rfl) ⟨by omega, by omega⟩ dL_law_248 (fun r9 u hp => ?_)
    obtain ⟨-, rfl, rfl⟩ : r9 = r9 ∧ r9 = 1 ∧ u = (σ', v) := by
      rcases hp with ⟨-, h1, h2⟩ | ⟨a, h1, -⟩
      · exact ⟨rfl, h1, h2⟩
      · cases h1
    refine l_istore (L' := LaL X t ++ [(5, .int 1)]) C dL_law_251 (by decide) [1, 2, 3, 4, 5, 0] rfl ?_
    refine l_aload_n C dL_law_253 2 rfl rfl ?_
    refine l_callJ C (c_X11_play 20000 τ) e2 cwl_56 ⟨rfl, rfl, (Nat.le_of_ble_eq_true rfl), (Nat.le_of_ble_eq_true rfl)⟩ [] [] rfl rfl rfl (Nat.le_of_ble_eq_true rfl) ⟨by omega, by omega⟩ dL_law_254 ?_
    refine l_istore (L' := LaL X t ++ [(5, .int 1), (6, .int r)]) C dL_law_257 (by decide) [1, 2, 3, 4, 5, 6, 0] rfl ?_
    refine l_aload_n C dL_law_259 2 rfl rfl ?_
    refine l_callM (r := 1) C (c_X11_thrown false 20000 τ') (show f_X11_thrown 20000 τ' = some (1, τ') by rw [← e3]; rfl) cwl_57 ⟨rfl, rfl, (Nat.le_of_ble_eq_true rfl), (Nat.le_of_ble_eq_true rfl)⟩ [] [] rfl rfl rfl (Nat.le_of_ble_eq_true rfl) ⟨by omega, by omega⟩ dL_law_260 ?_
    refine l_iload C dL_law_263 5 rfl ?_
    refine l_icmp_eq (tgt := 270) C dL_law_265 (by decide) rfl ?_
    refine l_iload C dL_law_270 5 rfl ?_
    refine l_if_ne (tgt := 287) C dL_law_272 (by decide) (fun _ => ?_) (fun h9 => absurd h9 (by decide))
    refine l_goto (tgt := 1168) C dL_law_287 (by decide) ?_
    refine l_sub (L' := LaL X t) [0, 1, 2, 3, 4] rfl ?_
    exact l_widen (by omega) (by omega) (K σ' τ' _ hR')
set_option maxRecDepth 100000 in
theorem lcs_3 {X : LtT} {σ τ : Mem} {v : Int64} {nc ns t : Nat} (C : LC X) (ht : t ≤ 512) (hj : 6 * t + 6 ≤ LaN X) (hcs : nc ≤ 601024 ∧ ns ≤ 7293034) (hcm : nc + 2 ≤ 601024 ∧ ns + 10 ≤ 7293034) (hR : Rel t σ τ) (K : ∀ σ' τ' v', Rel (t + 1) σ' τ' → LJ X 1168 (LaL X t) [] σ' τ' v' (nc + 2) (ns + 10)) : LJ X 290 (LaL X t) [] σ τ v nc ns := by
  obtain ⟨r, σ', τ', e1, e2, hR'⟩ := sim_fault hR 20000 (LaX X (6 * t + 1))
  refine l_aload_n C dL_law_290 1 rfl rfl ?_
  refine l_arg C 1 dL_law_291 dL_law_292 dL_law_294 dL_law_295 dL_law_296 (by decide) (by omega) ?_
  refine l_callC C (c_X10_fault 20000 (LaX X (6 * t + 1)) σ) e1 cwl_60 ⟨rfl, rfl, (Nat.le_of_ble_eq_true rfl), (Nat.le_of_ble_eq_true rfl)⟩ [.int (LaX X (6 * t + 1))] [] rfl rfl rfl (Nat.le_of_ble_eq_true rfl) hcs dL_law_297 ?_
  refine l_aload_n C dL_law_300 2 rfl rfl ?_
  refine l_arg C 1 dL_law_301 dL_law_302 dL_law_304 dL_law_305 dL_law_306 (by decide) (by omega) ?_
  refine l_callM C (c_X11_fault false 20000 (LaX X (6 * t + 1)) τ) e2 cwl_63 ⟨rfl, rfl, (Nat.le_of_ble_eq_true rfl), (Nat.le_of_ble_eq_true rfl)⟩ [.int (LaX X (6 * t + 1))] [.int r] rfl rfl rfl (Nat.le_of_ble_eq_true rfl) hcs dL_law_307 ?_
  exact l_icmp_eq C dL_law_310 (by decide) rfl (l_widen (by omega) (by omega) (K σ' τ' v hR'))
set_option maxRecDepth 100000 in
theorem lcs_4 {X : LtT} {σ τ : Mem} {v : Int64} {nc ns t : Nat} (C : LC X) (ht : t ≤ 512) (hj : 6 * t + 6 ≤ LaN X) (hcs : nc ≤ 601024 ∧ ns ≤ 7293034) (hcm : nc + 2 ≤ 601024 ∧ ns + 10 ≤ 7293034) (hR : Rel t σ τ) (K : ∀ σ' τ' v', Rel (t + 1) σ' τ' → LJ X 1168 (LaL X t) [] σ' τ' v' (nc + 2) (ns + 10)) : LJ X 315 (LaL X t) [] σ τ v nc ns := by
  obtain ⟨r, σ', τ', e1, e2, hR'⟩ := sim_tick hR ht (n := 20000) (by decide) (LaX X (6 * t + 1))
  refine l_aload_n C dL_law_315 1 rfl rfl ?_
  refine l_arg C 1 dL_law_316 dL_law_317 dL_law_319 dL_law_320 dL_law_321 (by decide) (by omega) ?_
  refine l_callC C (c_X10_tick 20000 (LaX X (6 * t + 1)) σ) e1 cwl_64 ⟨rfl, rfl, (Nat.le_of_ble_eq_true rfl), (Nat.le_of_ble_eq_true rfl)⟩ [.int (LaX X (6 * t + 1))] [] rfl rfl rfl (Nat.le_of_ble_eq_true rfl) hcs dL_law_322 ?_
  refine l_aload_n C dL_law_325 2 rfl rfl ?_
  refine l_arg C 1 dL_law_326 dL_law_327 dL_law_329 dL_law_330 dL_law_331 (by decide) (by omega) ?_
  refine l_callM C (c_X11_tick false 20000 (LaX X (6 * t + 1)) τ) e2 cwl_67 ⟨rfl, rfl, (Nat.le_of_ble_eq_true rfl), (Nat.le_of_ble_eq_true rfl)⟩ [.int (LaX X (6 * t + 1))] [.int r] rfl rfl rfl (Nat.le_of_ble_eq_true rfl) hcs dL_law_332 ?_
  exact l_icmp_eq C dL_law_335 (by decide) rfl (l_widen (by omega) (by omega) (K σ' τ' v hR'))
set_option maxRecDepth 100000 in
theorem lcs_5 {X : LtT} {σ τ : Mem} {v : Int64} {nc ns t : Nat} (C : LC X) (ht : t ≤ 512) (hj : 6 * t + 6 ≤ LaN X) (hcs : nc ≤ 601024 ∧ ns ≤ 7293034) (hcm : nc + 2 ≤ 601024 ∧ ns + 10 ≤ 7293034) (hR : Rel t σ τ) (K : ∀ σ' τ' v', Rel (t + 1) σ' τ' → LJ X 1168 (LaL X t) [] σ' τ' v' (nc + 2) (ns + 10)) : LJ X 340 (LaL X t) [] σ τ v nc ns := by
  obtain ⟨r, σ', τ', e1, e2, hR'⟩ := sim_start hR (n := 20000) (by decide) (LaX X (6 * t + 1))
  refine l_aload_n C dL_law_340 1 rfl rfl ?_
  refine l_arg C 1 dL_law_341 dL_law_342 dL_law_344 dL_law_345 dL_law_346 (by decide) (by omega) ?_
  refine l_callC C (c_X10_start 20000 (LaX X (6 * t + 1)) σ) e1 cwl_68 ⟨rfl, rfl, (Nat.le_of_ble_eq_true rfl), (Nat.le_of_ble_eq_true rfl)⟩ [.int (LaX X (6 * t + 1))] [] rfl rfl rfl (Nat.le_of_ble_eq_true rfl) hcs dL_law_347 ?_
  refine l_aload_n C dL_law_350 2 rfl rfl ?_
  refine l_arg C 1 dL_law_351 dL_law_352 dL_law_354 dL_law_355 dL_law_356 (by decide) (by omega) ?_
  refine l_callM C (c_X11_start false 20000 (LaX X (6 * t + 1)) τ) e2 cwl_71 ⟨rfl, rfl, (Nat.le_of_ble_eq_true rfl), (Nat.le_of_ble_eq_true rfl)⟩ [.int (LaX X (6 * t + 1))] [.int r] rfl rfl rfl (Nat.le_of_ble_eq_true rfl) hcs dL_law_357 ?_
  exact l_icmp_eq C dL_law_360 (by decide) rfl (l_widen (by omega) (by omega) (K σ' τ' v hR'))
set_option maxRecDepth 100000 in
theorem lcs_6 {X : LtT} {σ τ : Mem} {v : Int64} {nc ns t : Nat} (C : LC X) (ht : t ≤ 512) (hj : 6 * t + 6 ≤ LaN X) (hcs : nc ≤ 601024 ∧ ns ≤ 7293034) (hcm : nc + 2 ≤ 601024 ∧ ns + 10 ≤ 7293034) (hR : Rel t σ τ) (K : ∀ σ' τ' v', Rel (t + 1) σ' τ' → LJ X 1168 (LaL X t) [] σ' τ' v' (nc + 2) (ns + 10)) : LJ X 365 (LaL X t) [] σ τ v nc ns := by
  obtain ⟨r, σ', τ', e1, e2, hR'⟩ := sim_say hR 20000 (LaX X (6 * t + 1)) (LaX X (6 * t + 2)) (LaX X (6 * t + 3))
  refine l_aload_n C dL_law_365 1 rfl rfl ?_
  refine l_arg C 1 dL_law_366 dL_law_367 dL_law_369 dL_law_370 dL_law_371 (by decide) (by omega) ?_
  refine l_arg C 2 dL_law_372 dL_law_373 dL_law_375 dL_law_376 dL_law_377 (by decide) (by omega) ?_
  refine l_arg C 3 dL_law_378 dL_law_379 dL_law_381 dL_law_382 dL_law_383 (by decide) (by omega) ?_
  refine l_callC C (c_X10_say 20000 (LaX X (6 * t + 1)) (LaX X (6 * t + 2)) (LaX X (6 * t + 3)) σ) e1 cwl_72 ⟨rfl, rfl, (Nat.le_of_ble_eq_true rfl), (Nat.le_of_ble_eq_true rfl)⟩ [.int (LaX X (6 * t + 1)), .int (LaX X (6 * t + 2)), .int (LaX X (6 * t + 3))] [] rfl rfl rfl (Nat.le_of_ble_eq_true rfl) hcs dL_law_384 ?_
  refine l_aload_n C dL_law_387 2 rfl rfl ?_
  refine l_arg C 1 dL_law_388 dL_law_389 dL_law_391 dL_law_392 dL_law_393 (by decide) (by omega) ?_
  refine l_arg C 2 dL_law_394 dL_law_395 dL_law_397 dL_law_398 dL_law_399 (by decide) (by omega) ?_
  refine l_arg C 3 dL_law_400 dL_law_401 dL_law_403 dL_law_404 dL_law_405 (by decide) (by omega) ?_
  refine l_callM C (c_X11_say false 20000 (LaX X (6 * t + 1)) (LaX X (6 * t + 2)) (LaX X (6 * t + 3)) τ) e2 cwl_76 ⟨rfl, rfl, (Nat.le_of_ble_eq_true rfl), (Nat.le_of_ble_eq_true rfl)⟩ [.int (LaX X (6 * t + 1)), .int (LaX X (6 * t + 2)), .int (LaX X (6 * t + 3))] [.int r] rfl rfl rfl (Nat.le_of_ble_eq_true rfl) hcs dL_law_406 ?_
  exact l_icmp_eq C dL_law_409 (by decide) rfl (l_widen (by omega) (by omega) (K σ' τ' v hR'))
set_option maxRecDepth 100000 in
theorem lcs_7 {X : LtT} {σ τ : Mem} {v : Int64} {nc ns t : Nat} (C : LC X) (ht : t ≤ 512) (hj : 6 * t + 6 ≤ LaN X) (hcs : nc ≤ 601024 ∧ ns ≤ 7293034) (hcm : nc + 2 ≤ 601024 ∧ ns + 10 ≤ 7293034) (hR : Rel t σ τ) (K : ∀ σ' τ' v', Rel (t + 1) σ' τ' → LJ X 1168 (LaL X t) [] σ' τ' v' (nc + 2) (ns + 10)) : LJ X 414 (LaL X t) [] σ τ v nc ns := by
  obtain ⟨r, σ', τ', e1, e2, hR'⟩ := sim_walk hR 20000 (LaX X (6 * t + 1)) (LaX X (6 * t + 2)) (LaX X (6 * t + 3))
  refine l_aload_n C dL_law_414 1 rfl rfl ?_
  refine l_arg C 1 dL_law_415 dL_law_416 dL_law_418 dL_law_419 dL_law_420 (by decide) (by omega) ?_
  refine l_arg C 2 dL_law_421 dL_law_422 dL_law_424 dL_law_425 dL_law_426 (by decide) (by omega) ?_
  refine l_arg C 3 dL_law_427 dL_law_428 dL_law_430 dL_law_431 dL_law_432 (by decide) (by omega) ?_
  refine l_callC C (c_X10_walk 20000 (LaX X (6 * t + 1)) (LaX X (6 * t + 2)) (LaX X (6 * t + 3)) σ) e1 cwl_77 ⟨rfl, rfl, (Nat.le_of_ble_eq_true rfl), (Nat.le_of_ble_eq_true rfl)⟩ [.int (LaX X (6 * t + 1)), .int (LaX X (6 * t + 2)), .int (LaX X (6 * t + 3))] [] rfl rfl rfl (Nat.le_of_ble_eq_true rfl) hcs dL_law_433 ?_
  refine l_aload_n C dL_law_436 2 rfl rfl ?_
  refine l_arg C 1 dL_law_437 dL_law_438 dL_law_440 dL_law_441 dL_law_442 (by decide) (by omega) ?_
  refine l_arg C 2 dL_law_443 dL_law_444 dL_law_446 dL_law_447 dL_law_448 (by decide) (by omega) ?_
  refine l_arg C 3 dL_law_449 dL_law_450 dL_law_452 dL_law_453 dL_law_454 (by decide) (by omega) ?_
  refine l_callM C (c_X11_walk false 20000 (LaX X (6 * t + 1)) (LaX X (6 * t + 2)) (LaX X (6 * t + 3)) τ) e2 cwl_81 ⟨rfl, rfl, (Nat.le_of_ble_eq_true rfl), (Nat.le_of_ble_eq_true rfl)⟩ [.int (LaX X (6 * t + 1)), .int (LaX X (6 * t + 2)), .int (LaX X (6 * t + 3))] [.int r] rfl rfl rfl (Nat.le_of_ble_eq_true rfl) hcs dL_law_455 ?_
  exact l_icmp_eq C dL_law_458 (by decide) rfl (l_widen (by omega) (by omega) (K σ' τ' v hR'))
set_option maxRecDepth 100000 in
theorem lcs_8 {X : LtT} {σ τ : Mem} {v : Int64} {nc ns t : Nat} (C : LC X) (ht : t ≤ 512) (hj : 6 * t + 6 ≤ LaN X) (hcs : nc ≤ 601024 ∧ ns ≤ 7293034) (hcm : nc + 2 ≤ 601024 ∧ ns + 10 ≤ 7293034) (hR : Rel t σ τ) (K : ∀ σ' τ' v', Rel (t + 1) σ' τ' → LJ X 1168 (LaL X t) [] σ' τ' v' (nc + 2) (ns + 10)) : LJ X 463 (LaL X t) [] σ τ v nc ns := by
  rcases sim_set hR 20000 (LaX X (6 * t + 1)) (LaX X (6 * t + 2)) with ⟨r, σ', τ', e1, e2, e3, hR'⟩ | ⟨r, σ', τ', e1, e2, e3, hR'⟩
  · refine l_aload_n C dL_law_463 1 rfl rfl ?_
    refine l_arg C 1 dL_law_464 dL_law_465 dL_law_467 dL_law_468 dL_law_469 (by decide) (by omega) ?_
    refine l_arg C 2 dL_law_470 dL_law_471 dL_law_473 dL_law_474 dL_law_475 (by decide) (by omega) ?_
    refine l_aload_n C dL_law_476 3 rfl rfl ?_
    refine l_callH C (c_L_set 20000 (LaX X (6 * t + 1)) (LaX X (6 * t + 2)) σ) e1 cwh_82 ⟨rfl, rfl, (Nat.le_of_ble_eq_true rfl), (Nat.le_of_ble_eq_true rfl)⟩ [.ref (LaH X), .int (LaX X (6 * t + 1)), .int (LaX X (6 * t + 2)), .ref (LaH X + 139)] [] rfl rfl rfl (Nat.le_of_ble_eq_true rfl) ⟨by omega, by omega⟩ dL_law_477 (fun r9 u hp => ?_)
    obtain ⟨-, rfl, rfl⟩ : r9 = r9 ∧ r9 = 0 ∧ u = (σ', r.toInt64) := by
      rcases hp with ⟨h1, -⟩ | ⟨a, h1, h2, h3⟩
      · cases h1
      · cases h1
        exact ⟨rfl, h2, h3⟩
    refine l_istore (L' := LaL X t ++ [(5, .int 0)]) C dL_law_480 (by decide) [1, 2, 3, 4, 5, 0] rfl ?_
    refine l_aload_n C dL_law_482 2 rfl rfl ?_
    refine l_aload_n C dL_law_483 0 rfl rfl (l_iload C dL_law_484 4 rfl (l_iconst C dL_law_486 (w := nI 1) (by decide) (l_iadd C dL_law_487 (l_sld C (j := 6 * t + 1) (by omega) (nI_add _ _) dL_law_488 ?_))))
    refine l_aload_n C dL_law_489 0 rfl rfl (l_iload C dL_law_490 4 rfl (l_iconst C dL_law_492 (w := nI 2) (by decide) (l_iadd C dL_law_493 (l_sld C (j := 6 * t + 2) (by omega) (nI_add _ _) dL_law_494 ?_))))
    refine l_callM C (c_X11_set false 20000 (LaX X (6 * t + 1)) (LaX X (6 * t + 2)) τ) e2 cwl_85 ⟨rfl, rfl, (Nat.le_of_ble_eq_true rfl), (Nat.le_of_ble_eq_true rfl)⟩ [.int (LaX X (6 * t + 1)), .int (LaX X (6 * t + 2))] [] rfl rfl rfl (Nat.le_of_ble_eq_true rfl) ⟨by omega, by omega⟩ dL_law_495 ?_
    refine l_istore (L' := LaL X t ++ [(5, .int 0), (6, .int r)]) C dL_law_498 (by decide) [1, 2, 3, 4, 5, 6, 0] rfl ?_
    refine l_aload_n C dL_law_500 2 rfl rfl ?_
    refine l_callM (r := 0) C (c_X11_thrown false 20000 τ') (show f_X11_thrown 20000 τ' = some (0, τ') by rw [← e3]; rfl) cwl_57 ⟨rfl, rfl, (Nat.le_of_ble_eq_true rfl), (Nat.le_of_ble_eq_true rfl)⟩ [] [] rfl rfl rfl (Nat.le_of_ble_eq_true rfl) ⟨by omega, by omega⟩ dL_law_501 ?_
    refine l_iload C dL_law_504 5 rfl ?_
    refine l_icmp_eq (tgt := 511) C dL_law_506 (by decide) rfl ?_
    refine l_iload C dL_law_511 5 rfl ?_
    refine l_if_ne (tgt := 528) C dL_law_513 (by decide) (fun h9 => absurd rfl h9) (fun _ => ?_)
    refine l_aload_n C dL_law_516 3 rfl rfl ?_
    refine l_iconst (w := 0) C dL_law_517 (by decide) ?_
    refine l_lald C dL_law_518 ?_
    refine l_iload C dL_law_519 6 rfl ?_
    refine l_i2l C dL_law_521 ?_
    refine l_lcmp C dL_law_522 ?_
    refine l_if_eq (tgt := 528) C dL_law_523 (by decide) (lg_self _) ?_
    refine l_goto (tgt := 1168) C dL_law_528 (by decide) ?_
    refine l_sub (L' := LaL X t) [0, 1, 2, 3, 4] rfl ?_
    exact l_widen (by omega) (by omega) (K σ' τ' _ hR')
  · refine l_aload_n C dL_law_463 1 rfl rfl ?_
    refine l_arg C 1 dL_law_464 dL_law_465 dL_law_467 dL_law_468 dL_law_469 (by decide) (by omega) ?_
    refine l_arg C 2 dL_law_470 dL_law_471 dL_law_473 dL_law_474 dL_law_475 (by decide) (by omega) ?_
    refine l_aload_n C dL_law_476 3 rfl rfl ?_
    refine l_callH C (c_L_set 20000 (LaX X (6 * t + 1)) (LaX X (6 * t + 2)) σ) e1 cwh_82 ⟨rfl, rfl, (Nat.le_of_ble_eq_true rfl), (Nat.le_of_ble_eq_true rfl)⟩ [.ref (LaH X), .int (LaX X (6 * t + 1)), .int (LaX X (6 * t + 2)), .ref (LaH X + 139)] [] rfl rfl rfl (Nat.le_of_ble_eq_true rfl) ⟨by omega, by omega⟩ dL_law_477 (fun r9 u hp => ?_)
    obtain ⟨-, rfl, rfl⟩ : r9 = r9 ∧ r9 = 1 ∧ u = (σ', v) := by
      rcases hp with ⟨-, h1, h2⟩ | ⟨a, h1, -⟩
      · exact ⟨rfl, h1, h2⟩
      · cases h1
    refine l_istore (L' := LaL X t ++ [(5, .int 1)]) C dL_law_480 (by decide) [1, 2, 3, 4, 5, 0] rfl ?_
    refine l_aload_n C dL_law_482 2 rfl rfl ?_
    refine l_aload_n C dL_law_483 0 rfl rfl (l_iload C dL_law_484 4 rfl (l_iconst C dL_law_486 (w := nI 1) (by decide) (l_iadd C dL_law_487 (l_sld C (j := 6 * t + 1) (by omega) (nI_add _ _) dL_law_488 ?_))))
    refine l_aload_n C dL_law_489 0 rfl rfl (l_iload C dL_law_490 4 rfl (l_iconst C dL_law_492 (w := nI 2) (by decide) (l_iadd C dL_law_493 (l_sld C (j := 6 * t + 2) (by omega) (nI_add _ _) dL_law_494 ?_))))
    refine l_callM C (c_X11_set false 20000 (LaX X (6 * t + 1)) (LaX X (6 * t + 2)) τ) e2 cwl_85 ⟨rfl, rfl, (Nat.le_of_ble_eq_true rfl), (Nat.le_of_ble_eq_true rfl)⟩ [.int (LaX X (6 * t + 1)), .int (LaX X (6 * t + 2))] [] rfl rfl rfl (Nat.le_of_ble_eq_true rfl) ⟨by omega, by omega⟩ dL_law_495 ?_
    refine l_istore (L' := LaL X t ++ [(5, .int 1), (6, .int r)]) C dL_law_498 (by decide) [1, 2, 3, 4, 5, 6, 0] rfl ?_
    refine l_aload_n C dL_law_500 2 rfl rfl ?_
    refine l_callM (r := 1) C (c_X11_thrown false 20000 τ') (show f_X11_thrown 20000 τ' = some (1, τ') by rw [← e3]; rfl) cwl_57 ⟨rfl, rfl, (Nat.le_of_ble_eq_true rfl), (Nat.le_of_ble_eq_true rfl)⟩ [] [] rfl rfl rfl (Nat.le_of_ble_eq_true rfl) ⟨by omega, by omega⟩ dL_law_501 ?_
    refine l_iload C dL_law_504 5 rfl ?_
    refine l_icmp_eq (tgt := 511) C dL_law_506 (by decide) rfl ?_
    refine l_iload C dL_law_511 5 rfl ?_
    refine l_if_ne (tgt := 528) C dL_law_513 (by decide) (fun _ => ?_) (fun h9 => absurd h9 (by decide))
    refine l_goto (tgt := 1168) C dL_law_528 (by decide) ?_
    refine l_sub (L' := LaL X t) [0, 1, 2, 3, 4] rfl ?_
    exact l_widen (by omega) (by omega) (K σ' τ' _ hR')
set_option maxRecDepth 100000 in
theorem lcs_9 {X : LtT} {σ τ : Mem} {v : Int64} {nc ns t : Nat} (C : LC X) (ht : t ≤ 512) (hj : 6 * t + 6 ≤ LaN X) (hcs : nc ≤ 601024 ∧ ns ≤ 7293034) (hcm : nc + 2 ≤ 601024 ∧ ns + 10 ≤ 7293034) (hR : Rel t σ τ) (K : ∀ σ' τ' v', Rel (t + 1) σ' τ' → LJ X 1168 (LaL X t) [] σ' τ' v' (nc + 2) (ns + 10)) : LJ X 531 (LaL X t) [] σ τ v nc ns := by
  rcases sim_variable hR 20000 (LaX X (6 * t + 1)) with ⟨r, σ', τ', e1, e2, e3, hR'⟩ | ⟨r, σ', τ', e1, e2, e3, hR'⟩
  · refine l_aload_n C dL_law_531 1 rfl rfl ?_
    refine l_arg C 1 dL_law_532 dL_law_533 dL_law_535 dL_law_536 dL_law_537 (by decide) (by omega) ?_
    refine l_aload_n C dL_law_538 3 rfl rfl ?_
    refine l_callH C (c_L_variable 20000 (LaX X (6 * t + 1)) σ) e1 cwh_86 ⟨rfl, rfl, (Nat.le_of_ble_eq_true rfl), (Nat.le_of_ble_eq_true rfl)⟩ [.ref (LaH X), .int (LaX X (6 * t + 1)), .ref (LaH X + 139)] [] rfl rfl rfl (Nat.le_of_ble_eq_true rfl) ⟨by omega, by omega⟩ dL_law_539 (fun r9 u hp => ?_)
    obtain ⟨-, rfl, rfl⟩ : r9 = r9 ∧ r9 = 0 ∧ u = (σ', r.toInt64) := by
      rcases hp with ⟨h1, -⟩ | ⟨a, h1, h2, h3⟩
      · cases h1
      · cases h1
        exact ⟨rfl, h2, h3⟩
    refine l_istore (L' := LaL X t ++ [(5, .int 0)]) C dL_law_542 (by decide) [1, 2, 3, 4, 5, 0] rfl ?_
    refine l_aload_n C dL_law_544 2 rfl rfl ?_
    refine l_aload_n C dL_law_545 0 rfl rfl (l_iload C dL_law_546 4 rfl (l_iconst C dL_law_548 (w := nI 1) (by decide) (l_iadd C dL_law_549 (l_sld C (j := 6 * t + 1) (by omega) (nI_add _ _) dL_law_550 ?_))))
    refine l_callM C (c_X11_variable false 20000 (LaX X (6 * t + 1)) τ) e2 cwl_89 ⟨rfl, rfl, (Nat.le_of_ble_eq_true rfl), (Nat.le_of_ble_eq_true rfl)⟩ [.int (LaX X (6 * t + 1))] [] rfl rfl rfl (Nat.le_of_ble_eq_true rfl) ⟨by omega, by omega⟩ dL_law_551 ?_
    refine l_istore (L' := LaL X t ++ [(5, .int 0), (6, .int r)]) C dL_law_554 (by decide) [1, 2, 3, 4, 5, 6, 0] rfl ?_
    refine l_aload_n C dL_law_556 2 rfl rfl ?_
    refine l_callM (r := 0) C (c_X11_thrown false 20000 τ') (show f_X11_thrown 20000 τ' = some (0, τ') by rw [← e3]; rfl) cwl_57 ⟨rfl, rfl, (Nat.le_of_ble_eq_true rfl), (Nat.le_of_ble_eq_true rfl)⟩ [] [] rfl rfl rfl (Nat.le_of_ble_eq_true rfl) ⟨by omega, by omega⟩ dL_law_557 ?_
    refine l_iload C dL_law_560 5 rfl ?_
    refine l_icmp_eq (tgt := 567) C dL_law_562 (by decide) rfl ?_
    refine l_iload C dL_law_567 5 rfl ?_
    refine l_if_ne (tgt := 584) C dL_law_569 (by decide) (fun h9 => absurd rfl h9) (fun _ => ?_)
    refine l_aload_n C dL_law_572 3 rfl rfl ?_
    refine l_iconst (w := 0) C dL_law_573 (by decide) ?_
    refine l_lald C dL_law_574 ?_
    refine l_iload C dL_law_575 6 rfl ?_
    refine l_i2l C dL_law_577 ?_
    refine l_lcmp C dL_law_578 ?_
    refine l_if_eq (tgt := 584) C dL_law_579 (by decide) (lg_self _) ?_
    refine l_goto (tgt := 1168) C dL_law_584 (by decide) ?_
    refine l_sub (L' := LaL X t) [0, 1, 2, 3, 4] rfl ?_
    exact l_widen (by omega) (by omega) (K σ' τ' _ hR')
  · refine l_aload_n C dL_law_531 1 rfl rfl ?_
    refine l_arg C 1 dL_law_532 dL_law_533 dL_law_535 dL_law_536 dL_law_537 (by decide) (by omega) ?_
    refine l_aload_n C dL_law_538 3 rfl rfl ?_
    refine l_callH C (c_L_variable 20000 (LaX X (6 * t + 1)) σ) e1 cwh_86 ⟨rfl, rfl, (Nat.le_of_ble_eq_true rfl), (Nat.le_of_ble_eq_true rfl)⟩ [.ref (LaH X), .int (LaX X (6 * t + 1)), .ref (LaH X + 139)] [] rfl rfl rfl (Nat.le_of_ble_eq_true rfl) ⟨by omega, by omega⟩ dL_law_539 (fun r9 u hp => ?_)
    obtain ⟨-, rfl, rfl⟩ : r9 = r9 ∧ r9 = 1 ∧ u = (σ', v) := by
      rcases hp with ⟨-, h1, h2⟩ | ⟨a, h1, -⟩
      · exact ⟨rfl, h1, h2⟩
      · cases h1
    refine l_istore (L' := LaL X t ++ [(5, .int 1)]) C dL_law_542 (by decide) [1, 2, 3, 4, 5, 0] rfl ?_
    refine l_aload_n C dL_law_544 2 rfl rfl ?_
    refine l_aload_n C dL_law_545 0 rfl rfl (l_iload C dL_law_546 4 rfl (l_iconst C dL_law_548 (w := nI 1) (by decide) (l_iadd C dL_law_549 (l_sld C (j := 6 * t + 1) (by omega) (nI_add _ _) dL_law_550 ?_))))
    refine l_callM C (c_X11_variable false 20000 (LaX X (6 * t + 1)) τ) e2 cwl_89 ⟨rfl, rfl, (Nat.le_of_ble_eq_true rfl), (Nat.le_of_ble_eq_true rfl)⟩ [.int (LaX X (6 * t + 1))] [] rfl rfl rfl (Nat.le_of_ble_eq_true rfl) ⟨by omega, by omega⟩ dL_law_551 ?_
    refine l_istore (L' := LaL X t ++ [(5, .int 1), (6, .int r)]) C dL_law_554 (by decide) [1, 2, 3, 4, 5, 6, 0] rfl ?_
    refine l_aload_n C dL_law_556 2 rfl rfl ?_
    refine l_callM (r := 1) C (c_X11_thrown false 20000 τ') (show f_X11_thrown 20000 τ' = some (1, τ') by rw [← e3]; rfl) cwl_57 ⟨rfl, rfl, (Nat.le_of_ble_eq_true rfl), (Nat.le_of_ble_eq_true rfl)⟩ [] [] rfl rfl rfl (Nat.le_of_ble_eq_true rfl) ⟨by omega, by omega⟩ dL_law_557 ?_
    refine l_iload C dL_law_560 5 rfl ?_
    refine l_icmp_eq (tgt := 567) C dL_law_562 (by decide) rfl ?_
    refine l_iload C dL_law_567 5 rfl ?_
    refine l_if_ne (tgt := 584) C dL_law_569 (by decide) (fun _ => ?_) (fun h9 => absurd h9 (by decide))
    refine l_goto (tgt := 1168) C dL_law_584 (by decide) ?_
    refine l_sub (L' := LaL X t) [0, 1, 2, 3, 4] rfl ?_
    exact l_widen (by omega) (by omega) (K σ' τ' _ hR')
set_option maxRecDepth 100000 in
theorem lcs_10 {X : LtT} {σ τ : Mem} {v : Int64} {nc ns t : Nat} (C : LC X) (ht : t ≤ 512) (hj : 6 * t + 6 ≤ LaN X) (hcs : nc ≤ 601024 ∧ ns ≤ 7293034) (hcm : nc + 2 ≤ 601024 ∧ ns + 10 ≤ 7293034) (hR : Rel t σ τ) (K : ∀ σ' τ' v', Rel (t + 1) σ' τ' → LJ X 1168 (LaL X t) [] σ' τ' v' (nc + 2) (ns + 10)) : LJ X 587 (LaL X t) [] σ τ v nc ns := by
  obtain ⟨r, σ', τ', e1, e2, hR'⟩ := sim_slot hR 20000 (LaX X (6 * t + 1)) (LaX X (6 * t + 2))
  refine l_aload_n C dL_law_587 1 rfl rfl ?_
  refine l_arg C 1 dL_law_588 dL_law_589 dL_law_591 dL_law_592 dL_law_593 (by decide) (by omega) ?_
  refine l_arg C 2 dL_law_594 dL_law_595 dL_law_597 dL_law_598 dL_law_599 (by decide) (by omega) ?_
  refine l_callC C (c_X10_slot 20000 (LaX X (6 * t + 1)) (LaX X (6 * t + 2)) σ) e1 cwl_90 ⟨rfl, rfl, (Nat.le_of_ble_eq_true rfl), (Nat.le_of_ble_eq_true rfl)⟩ [.int (LaX X (6 * t + 1)), .int (LaX X (6 * t + 2))] [] rfl rfl rfl (Nat.le_of_ble_eq_true rfl) hcs dL_law_600 ?_
  refine l_aload_n C dL_law_603 2 rfl rfl ?_
  refine l_arg C 1 dL_law_604 dL_law_605 dL_law_607 dL_law_608 dL_law_609 (by decide) (by omega) ?_
  refine l_arg C 2 dL_law_610 dL_law_611 dL_law_613 dL_law_614 dL_law_615 (by decide) (by omega) ?_
  refine l_callM C (c_X11_slot false 20000 (LaX X (6 * t + 1)) (LaX X (6 * t + 2)) τ) e2 cwl_93 ⟨rfl, rfl, (Nat.le_of_ble_eq_true rfl), (Nat.le_of_ble_eq_true rfl)⟩ [.int (LaX X (6 * t + 1)), .int (LaX X (6 * t + 2))] [.int r] rfl rfl rfl (Nat.le_of_ble_eq_true rfl) hcs dL_law_616 ?_
  exact l_icmp_eq C dL_law_619 (by decide) rfl (l_widen (by omega) (by omega) (K σ' τ' v hR'))
set_option maxRecDepth 100000 in
theorem lcs_11 {X : LtT} {σ τ : Mem} {v : Int64} {nc ns t : Nat} (C : LC X) (ht : t ≤ 512) (hj : 6 * t + 6 ≤ LaN X) (hcs : nc ≤ 601024 ∧ ns ≤ 7293034) (hcm : nc + 2 ≤ 601024 ∧ ns + 10 ≤ 7293034) (hR : Rel t σ τ) (K : ∀ σ' τ' v', Rel (t + 1) σ' τ' → LJ X 1168 (LaL X t) [] σ' τ' v' (nc + 2) (ns + 10)) : LJ X 624 (LaL X t) [] σ τ v nc ns := by
  rcases sim_actor hR (n := 20000) (by decide) (LaX X (6 * t + 1)) (LaX X (6 * t + 2)) with ⟨r, σ', τ', e1, e2, e3, hR'⟩ | ⟨r, σ', τ', e1, e2, e3, hR'⟩
  · refine l_aload_n C dL_law_624 1 rfl rfl ?_
    refine l_arg C 1 dL_law_625 dL_law_626 dL_law_628 dL_law_629 dL_law_630 (by decide) (by omega) ?_
    refine l_arg C 2 dL_law_631 dL_law_632 dL_law_634 dL_law_635 dL_law_636 (by decide) (by omega) ?_
    refine l_aload_n C dL_law_637 3 rfl rfl ?_
    refine l_callH C (c_L_actor 20000 (LaX X (6 * t + 1)) (LaX X (6 * t + 2)) σ) e1 cwh_94 ⟨rfl, rfl, (Nat.le_of_ble_eq_true rfl), (Nat.le_of_ble_eq_true rfl)⟩ [.ref (LaH X), .int (LaX X (6 * t + 1)), .int (LaX X (6 * t + 2)), .ref (LaH X + 139)] [] rfl rfl rfl (Nat.le_of_ble_eq_true rfl) ⟨by omega, by omega⟩ dL_law_638 (fun r9 u hp => ?_)
    obtain ⟨-, rfl, rfl⟩ : r9 = r9 ∧ r9 = 0 ∧ u = (σ', r.toInt64) := by
      rcases hp with ⟨h1, -⟩ | ⟨a, h1, h2, h3⟩
      · cases h1
      · cases h1
        exact ⟨rfl, h2, h3⟩
    refine l_istore (L' := LaL X t ++ [(5, .int 0)]) C dL_law_641 (by decide) [1, 2, 3, 4, 5, 0] rfl ?_
    refine l_aload_n C dL_law_643 2 rfl rfl ?_
    refine l_aload_n C dL_law_644 0 rfl rfl (l_iload C dL_law_645 4 rfl (l_iconst C dL_law_647 (w := nI 1) (by decide) (l_iadd C dL_law_648 (l_sld C (j := 6 * t + 1) (by omega) (nI_add _ _) dL_law_649 ?_))))
    refine l_aload_n C dL_law_650 0 rfl rfl (l_iload C dL_law_651 4 rfl (l_iconst C dL_law_653 (w := nI 2) (by decide) (l_iadd C dL_law_654 (l_sld C (j := 6 * t + 2) (by omega) (nI_add _ _) dL_law_655 ?_))))
    refine l_callM C (c_X11_actor false 20000 (LaX X (6 * t + 1)) (LaX X (6 * t + 2)) τ) e2 cwl_96 ⟨rfl, rfl, (Nat.le_of_ble_eq_true rfl), (Nat.le_of_ble_eq_true rfl)⟩ [.int (LaX X (6 * t + 1)), .int (LaX X (6 * t + 2))] [] rfl rfl rfl (Nat.le_of_ble_eq_true rfl) ⟨by omega, by omega⟩ dL_law_656 ?_
    refine l_istore (L' := LaL X t ++ [(5, .int 0), (6, .int r)]) C dL_law_659 (by decide) [1, 2, 3, 4, 5, 6, 0] rfl ?_
    refine l_aload_n C dL_law_661 2 rfl rfl ?_
    refine l_callM (r := 0) C (c_X11_thrown false 20000 τ') (show f_X11_thrown 20000 τ' = some (0, τ') by rw [← e3]; rfl) cwl_57 ⟨rfl, rfl, (Nat.le_of_ble_eq_true rfl), (Nat.le_of_ble_eq_true rfl)⟩ [] [] rfl rfl rfl (Nat.le_of_ble_eq_true rfl) ⟨by omega, by omega⟩ dL_law_662 ?_
    refine l_iload C dL_law_665 5 rfl ?_
    refine l_icmp_eq (tgt := 672) C dL_law_667 (by decide) rfl ?_
    refine l_iload C dL_law_672 5 rfl ?_
    refine l_if_ne (tgt := 689) C dL_law_674 (by decide) (fun h9 => absurd rfl h9) (fun _ => ?_)
    refine l_aload_n C dL_law_677 3 rfl rfl ?_
    refine l_iconst (w := 0) C dL_law_678 (by decide) ?_
    refine l_lald C dL_law_679 ?_
    refine l_iload C dL_law_680 6 rfl ?_
    refine l_i2l C dL_law_682 ?_
    refine l_lcmp C dL_law_683 ?_
    refine l_if_eq (tgt := 689) C dL_law_684 (by decide) (lg_self _) ?_
    refine l_goto (tgt := 1168) C dL_law_689 (by decide) ?_
    refine l_sub (L' := LaL X t) [0, 1, 2, 3, 4] rfl ?_
    exact l_widen (by omega) (by omega) (K σ' τ' _ hR')
  · refine l_aload_n C dL_law_624 1 rfl rfl ?_
    refine l_arg C 1 dL_law_625 dL_law_626 dL_law_628 dL_law_629 dL_law_630 (by decide) (by omega) ?_
    refine l_arg C 2 dL_law_631 dL_law_632 dL_law_634 dL_law_635 dL_law_636 (by decide) (by omega) ?_
    refine l_aload_n C dL_law_637 3 rfl rfl ?_
    refine l_callH C (c_L_actor 20000 (LaX X (6 * t + 1)) (LaX X (6 * t + 2)) σ) e1 cwh_94 ⟨rfl, rfl, (Nat.le_of_ble_eq_true rfl), (Nat.le_of_ble_eq_true rfl)⟩ [.ref (LaH X), .int (LaX X (6 * t + 1)), .int (LaX X (6 * t + 2)), .ref (LaH X + 139)] [] rfl rfl rfl (Nat.le_of_ble_eq_true rfl) ⟨by omega, by omega⟩ dL_law_638 (fun r9 u hp => ?_)
    obtain ⟨-, rfl, rfl⟩ : r9 = r9 ∧ r9 = 1 ∧ u = (σ', v) := by
      rcases hp with ⟨-, h1, h2⟩ | ⟨a, h1, -⟩
      · exact ⟨rfl, h1, h2⟩
      · cases h1
    refine l_istore (L' := LaL X t ++ [(5, .int 1)]) C dL_law_641 (by decide) [1, 2, 3, 4, 5, 0] rfl ?_
    refine l_aload_n C dL_law_643 2 rfl rfl ?_
    refine l_aload_n C dL_law_644 0 rfl rfl (l_iload C dL_law_645 4 rfl (l_iconst C dL_law_647 (w := nI 1) (by decide) (l_iadd C dL_law_648 (l_sld C (j := 6 * t + 1) (by omega) (nI_add _ _) dL_law_649 ?_))))
    refine l_aload_n C dL_law_650 0 rfl rfl (l_iload C dL_law_651 4 rfl (l_iconst C dL_law_653 (w := nI 2) (by decide) (l_iadd C dL_law_654 (l_sld C (j := 6 * t + 2) (by omega) (nI_add _ _) dL_law_655 ?_))))
    refine l_callM C (c_X11_actor false 20000 (LaX X (6 * t + 1)) (LaX X (6 * t + 2)) τ) e2 cwl_96 ⟨rfl, rfl, (Nat.le_of_ble_eq_true rfl), (Nat.le_of_ble_eq_true rfl)⟩ [.int (LaX X (6 * t + 1)), .int (LaX X (6 * t + 2))] [] rfl rfl rfl (Nat.le_of_ble_eq_true rfl) ⟨by omega, by omega⟩ dL_law_656 ?_
    refine l_istore (L' := LaL X t ++ [(5, .int 1), (6, .int r)]) C dL_law_659 (by decide) [1, 2, 3, 4, 5, 6, 0] rfl ?_
    refine l_aload_n C dL_law_661 2 rfl rfl ?_
    refine l_callM (r := 1) C (c_X11_thrown false 20000 τ') (show f_X11_thrown 20000 τ' = some (1, τ') by rw [← e3]; rfl) cwl_57 ⟨rfl, rfl, (Nat.le_of_ble_eq_true rfl), (Nat.le_of_ble_eq_true rfl)⟩ [] [] rfl rfl rfl (Nat.le_of_ble_eq_true rfl) ⟨by omega, by omega⟩ dL_law_662 ?_
    refine l_iload C dL_law_665 5 rfl ?_
    refine l_icmp_eq (tgt := 672) C dL_law_667 (by decide) rfl ?_
    refine l_iload C dL_law_672 5 rfl ?_
    refine l_if_ne (tgt := 689) C dL_law_674 (by decide) (fun _ => ?_) (fun h9 => absurd h9 (by decide))
    refine l_goto (tgt := 1168) C dL_law_689 (by decide) ?_
    refine l_sub (L' := LaL X t) [0, 1, 2, 3, 4] rfl ?_
    exact l_widen (by omega) (by omega) (K σ' τ' _ hR')
set_option maxRecDepth 100000 in
theorem lcs_12 {X : LtT} {σ τ : Mem} {v : Int64} {nc ns t : Nat} (C : LC X) (ht : t ≤ 512) (hj : 6 * t + 6 ≤ LaN X) (hcs : nc ≤ 601024 ∧ ns ≤ 7293034) (hcm : nc + 2 ≤ 601024 ∧ ns + 10 ≤ 7293034) (hR : Rel t σ τ) (K : ∀ σ' τ' v', Rel (t + 1) σ' τ' → LJ X 1168 (LaL X t) [] σ' τ' v' (nc + 2) (ns + 10)) : LJ X 692 (LaL X t) [] σ τ v nc ns := by
  rcases sim_object hR 20000 (LaX X (6 * t + 1)) (LaX X (6 * t + 2)) with ⟨r, σ', τ', e1, e2, e3, hR'⟩ | ⟨r, σ', τ', e1, e2, e3, hR'⟩
  · refine l_aload_n C dL_law_692 1 rfl rfl ?_
    refine l_arg C 1 dL_law_693 dL_law_694 dL_law_696 dL_law_697 dL_law_698 (by decide) (by omega) ?_
    refine l_arg C 2 dL_law_699 dL_law_700 dL_law_702 dL_law_703 dL_law_704 (by decide) (by omega) ?_
    refine l_aload_n C dL_law_705 3 rfl rfl ?_
    refine l_callH C (c_L_object 20000 (LaX X (6 * t + 1)) (LaX X (6 * t + 2)) σ) e1 cwh_97 ⟨rfl, rfl, (Nat.le_of_ble_eq_true rfl), (Nat.le_of_ble_eq_true rfl)⟩ [.ref (LaH X), .int (LaX X (6 * t + 1)), .int (LaX X (6 * t + 2)), .ref (LaH X + 139)] [] rfl rfl rfl (Nat.le_of_ble_eq_true rfl) ⟨by omega, by omega⟩ dL_law_706 (fun r9 u hp => ?_)
    obtain ⟨-, rfl, rfl⟩ : r9 = r9 ∧ r9 = 0 ∧ u = (σ', r.toInt64) := by
      rcases hp with ⟨h1, -⟩ | ⟨a, h1, h2, h3⟩
      · cases h1
      · cases h1
        exact ⟨rfl, h2, h3⟩
    refine l_istore (L' := LaL X t ++ [(5, .int 0)]) C dL_law_709 (by decide) [1, 2, 3, 4, 5, 0] rfl ?_
    refine l_aload_n C dL_law_711 2 rfl rfl ?_
    refine l_aload_n C dL_law_712 0 rfl rfl (l_iload C dL_law_713 4 rfl (l_iconst C dL_law_715 (w := nI 1) (by decide) (l_iadd C dL_law_716 (l_sld C (j := 6 * t + 1) (by omega) (nI_add _ _) dL_law_717 ?_))))
    refine l_aload_n C dL_law_718 0 rfl rfl (l_iload C dL_law_719 4 rfl (l_iconst C dL_law_721 (w := nI 2) (by decide) (l_iadd C dL_law_722 (l_sld C (j := 6 * t + 2) (by omega) (nI_add _ _) dL_law_723 ?_))))
    refine l_callM C (c_X11_object false 20000 (LaX X (6 * t + 1)) (LaX X (6 * t + 2)) τ) e2 cwl_99 ⟨rfl, rfl, (Nat.le_of_ble_eq_true rfl), (Nat.le_of_ble_eq_true rfl)⟩ [.int (LaX X (6 * t + 1)), .int (LaX X (6 * t + 2))] [] rfl rfl rfl (Nat.le_of_ble_eq_true rfl) ⟨by omega, by omega⟩ dL_law_724 ?_
    refine l_istore (L' := LaL X t ++ [(5, .int 0), (6, .int r)]) C dL_law_727 (by decide) [1, 2, 3, 4, 5, 6, 0] rfl ?_
    refine l_aload_n C dL_law_729 2 rfl rfl ?_
    refine l_callM (r := 0) C (c_X11_thrown false 20000 τ') (show f_X11_thrown 20000 τ' = some (0, τ') by rw [← e3]; rfl) cwl_57 ⟨rfl, rfl, (Nat.le_of_ble_eq_true rfl), (Nat.le_of_ble_eq_true rfl)⟩ [] [] rfl rfl rfl (Nat.le_of_ble_eq_true rfl) ⟨by omega, by omega⟩ dL_law_730 ?_
    refine l_iload C dL_law_733 5 rfl ?_
    refine l_icmp_eq (tgt := 740) C dL_law_735 (by decide) rfl ?_
    refine l_iload C dL_law_740 5 rfl ?_
    refine l_if_ne (tgt := 757) C dL_law_742 (by decide) (fun h9 => absurd rfl h9) (fun _ => ?_)
    refine l_aload_n C dL_law_745 3 rfl rfl ?_
    refine l_iconst (w := 0) C dL_law_746 (by decide) ?_
    refine l_lald C dL_law_747 ?_
    refine l_iload C dL_law_748 6 rfl ?_
    refine l_i2l C dL_law_750 ?_
    refine l_lcmp C dL_law_751 ?_
    refine l_if_eq (tgt := 757) C dL_law_752 (by decide) (lg_self _) ?_
    refine l_goto (tgt := 1168) C dL_law_757 (by decide) ?_
    refine l_sub (L' := LaL X t) [0, 1, 2, 3, 4] rfl ?_
    exact l_widen (by omega) (by omega) (K σ' τ' _ hR')
  · refine l_aload_n C dL_law_692 1 rfl rfl ?_
    refine l_arg C 1 dL_law_693 dL_law_694 dL_law_696 dL_law_697 dL_law_698 (by decide) (by omega) ?_
    refine l_arg C 2 dL_law_699 dL_law_700 dL_law_702 dL_law_703 dL_law_704 (by decide) (by omega) ?_
    refine l_aload_n C dL_law_705 3 rfl rfl ?_
    refine l_callH C (c_L_object 20000 (LaX X (6 * t + 1)) (LaX X (6 * t + 2)) σ) e1 cwh_97 ⟨rfl, rfl, (Nat.le_of_ble_eq_true rfl), (Nat.le_of_ble_eq_true rfl)⟩ [.ref (LaH X), .int (LaX X (6 * t + 1)), .int (LaX X (6 * t + 2)), .ref (LaH X + 139)] [] rfl rfl rfl (Nat.le_of_ble_eq_true rfl) ⟨by omega, by omega⟩ dL_law_706 (fun r9 u hp => ?_)
    obtain ⟨-, rfl, rfl⟩ : r9 = r9 ∧ r9 = 1 ∧ u = (σ', v) := by
      rcases hp with ⟨-, h1, h2⟩ | ⟨a, h1, -⟩
      · exact ⟨rfl, h1, h2⟩
      · cases h1
    refine l_istore (L' := LaL X t ++ [(5, .int 1)]) C dL_law_709 (by decide) [1, 2, 3, 4, 5, 0] rfl ?_
    refine l_aload_n C dL_law_711 2 rfl rfl ?_
    refine l_aload_n C dL_law_712 0 rfl rfl (l_iload C dL_law_713 4 rfl (l_iconst C dL_law_715 (w := nI 1) (by decide) (l_iadd C dL_law_716 (l_sld C (j := 6 * t + 1) (by omega) (nI_add _ _) dL_law_717 ?_))))
    refine l_aload_n C dL_law_718 0 rfl rfl (l_iload C dL_law_719 4 rfl (l_iconst C dL_law_721 (w := nI 2) (by decide) (l_iadd C dL_law_722 (l_sld C (j := 6 * t + 2) (by omega) (nI_add _ _) dL_law_723 ?_))))
    refine l_callM C (c_X11_object false 20000 (LaX X (6 * t + 1)) (LaX X (6 * t + 2)) τ) e2 cwl_99 ⟨rfl, rfl, (Nat.le_of_ble_eq_true rfl), (Nat.le_of_ble_eq_true rfl)⟩ [.int (LaX X (6 * t + 1)), .int (LaX X (6 * t + 2))] [] rfl rfl rfl (Nat.le_of_ble_eq_true rfl) ⟨by omega, by omega⟩ dL_law_724 ?_
    refine l_istore (L' := LaL X t ++ [(5, .int 1), (6, .int r)]) C dL_law_727 (by decide) [1, 2, 3, 4, 5, 6, 0] rfl ?_
    refine l_aload_n C dL_law_729 2 rfl rfl ?_
    refine l_callM (r := 1) C (c_X11_thrown false 20000 τ') (show f_X11_thrown 20000 τ' = some (1, τ') by rw [← e3]; rfl) cwl_57 ⟨rfl, rfl, (Nat.le_of_ble_eq_true rfl), (Nat.le_of_ble_eq_true rfl)⟩ [] [] rfl rfl rfl (Nat.le_of_ble_eq_true rfl) ⟨by omega, by omega⟩ dL_law_730 ?_
    refine l_iload C dL_law_733 5 rfl ?_
    refine l_icmp_eq (tgt := 740) C dL_law_735 (by decide) rfl ?_
    refine l_iload C dL_law_740 5 rfl ?_
    refine l_if_ne (tgt := 757) C dL_law_742 (by decide) (fun _ => ?_) (fun h9 => absurd h9 (by decide))
    refine l_goto (tgt := 1168) C dL_law_757 (by decide) ?_
    refine l_sub (L' := LaL X t) [0, 1, 2, 3, 4] rfl ?_
    exact l_widen (by omega) (by omega) (K σ' τ' _ hR')
set_option maxRecDepth 100000 in
theorem lcs_13 {X : LtT} {σ τ : Mem} {v : Int64} {nc ns t : Nat} (C : LC X) (ht : t ≤ 512) (hj : 6 * t + 6 ≤ LaN X) (hcs : nc ≤ 601024 ∧ ns ≤ 7293034) (hcm : nc + 2 ≤ 601024 ∧ ns + 10 ≤ 7293034) (hR : Rel t σ τ) (K : ∀ σ' τ' v', Rel (t + 1) σ' τ' → LJ X 1168 (LaL X t) [] σ' τ' v' (nc + 2) (ns + 10)) : LJ X 760 (LaL X t) [] σ τ v nc ns := by
  obtain ⟨r, σ', τ', e1, e2, hR'⟩ := sim_verb hR (n := 20000) (by decide) (LaX X (6 * t + 1)) (LaX X (6 * t + 2))
  refine l_aload_n C dL_law_760 1 rfl rfl ?_
  refine l_arg C 1 dL_law_761 dL_law_762 dL_law_764 dL_law_765 dL_law_766 (by decide) (by omega) ?_
  refine l_arg C 2 dL_law_767 dL_law_768 dL_law_770 dL_law_771 dL_law_772 (by decide) (by omega) ?_
  refine l_callC C (c_X10_verb 20000 (LaX X (6 * t + 1)) (LaX X (6 * t + 2)) σ) e1 cwl_100 ⟨rfl, rfl, (Nat.le_of_ble_eq_true rfl), (Nat.le_of_ble_eq_true rfl)⟩ [.int (LaX X (6 * t + 1)), .int (LaX X (6 * t + 2))] [] rfl rfl rfl (Nat.le_of_ble_eq_true rfl) hcs dL_law_773 ?_
  refine l_aload_n C dL_law_776 2 rfl rfl ?_
  refine l_arg C 1 dL_law_777 dL_law_778 dL_law_780 dL_law_781 dL_law_782 (by decide) (by omega) ?_
  refine l_arg C 2 dL_law_783 dL_law_784 dL_law_786 dL_law_787 dL_law_788 (by decide) (by omega) ?_
  refine l_callM C (c_X11_verb false 20000 (LaX X (6 * t + 1)) (LaX X (6 * t + 2)) τ) e2 cwl_103 ⟨rfl, rfl, (Nat.le_of_ble_eq_true rfl), (Nat.le_of_ble_eq_true rfl)⟩ [.int (LaX X (6 * t + 1)), .int (LaX X (6 * t + 2))] [.int r] rfl rfl rfl (Nat.le_of_ble_eq_true rfl) hcs dL_law_789 ?_
  exact l_icmp_eq C dL_law_792 (by decide) rfl (l_widen (by omega) (by omega) (K σ' τ' v hR'))
set_option maxRecDepth 100000 in
theorem lcs_14 {X : LtT} {σ τ : Mem} {v : Int64} {nc ns t : Nat} (C : LC X) (ht : t ≤ 512) (hj : 6 * t + 6 ≤ LaN X) (hcs : nc ≤ 601024 ∧ ns ≤ 7293034) (hcm : nc + 2 ≤ 601024 ∧ ns + 10 ≤ 7293034) (hR : Rel t σ τ) (K : ∀ σ' τ' v', Rel (t + 1) σ' τ' → LJ X 1168 (LaL X t) [] σ' τ' v' (nc + 2) (ns + 10)) : LJ X 797 (LaL X t) [] σ τ v nc ns := by
  obtain ⟨r, σ', τ', e1, e2, hR'⟩ := sim_box hR 20000 (LaX X (6 * t + 1)) (LaX X (6 * t + 2)) (LaX X (6 * t + 3))
  refine l_aload_n C dL_law_797 1 rfl rfl ?_
  refine l_arg C 1 dL_law_798 dL_law_799 dL_law_801 dL_law_802 dL_law_803 (by decide) (by omega) ?_
  refine l_arg C 2 dL_law_804 dL_law_805 dL_law_807 dL_law_808 dL_law_809 (by decide) (by omega) ?_
  refine l_arg C 3 dL_law_810 dL_law_811 dL_law_813 dL_law_814 dL_law_815 (by decide) (by omega) ?_
  refine l_callC C (c_X10_box 20000 (LaX X (6 * t + 1)) (LaX X (6 * t + 2)) (LaX X (6 * t + 3)) σ) e1 cwl_104 ⟨rfl, rfl, (Nat.le_of_ble_eq_true rfl), (Nat.le_of_ble_eq_true rfl)⟩ [.int (LaX X (6 * t + 1)), .int (LaX X (6 * t + 2)), .int (LaX X (6 * t + 3))] [] rfl rfl rfl (Nat.le_of_ble_eq_true rfl) hcs dL_law_816 ?_
  refine l_aload_n C dL_law_819 2 rfl rfl ?_
  refine l_arg C 1 dL_law_820 dL_law_821 dL_law_823 dL_law_824 dL_law_825 (by decide) (by omega) ?_
  refine l_arg C 2 dL_law_826 dL_law_827 dL_law_829 dL_law_830 dL_law_831 (by decide) (by omega) ?_
  refine l_arg C 3 dL_law_832 dL_law_833 dL_law_835 dL_law_836 dL_law_837 (by decide) (by omega) ?_
  refine l_callM C (c_X11_box false 20000 (LaX X (6 * t + 1)) (LaX X (6 * t + 2)) (LaX X (6 * t + 3)) τ) e2 cwl_107 ⟨rfl, rfl, (Nat.le_of_ble_eq_true rfl), (Nat.le_of_ble_eq_true rfl)⟩ [.int (LaX X (6 * t + 1)), .int (LaX X (6 * t + 2)), .int (LaX X (6 * t + 3))] [.int r] rfl rfl rfl (Nat.le_of_ble_eq_true rfl) hcs dL_law_838 ?_
  exact l_icmp_eq C dL_law_841 (by decide) rfl (l_widen (by omega) (by omega) (K σ' τ' v hR'))
set_option maxRecDepth 100000 in
theorem lcs_15 {X : LtT} {σ τ : Mem} {v : Int64} {nc ns t : Nat} (C : LC X) (ht : t ≤ 512) (hj : 6 * t + 6 ≤ LaN X) (hcs : nc ≤ 601024 ∧ ns ≤ 7293034) (hcm : nc + 2 ≤ 601024 ∧ ns + 10 ≤ 7293034) (hR : Rel t σ τ) (K : ∀ σ' τ' v', Rel (t + 1) σ' τ' → LJ X 1168 (LaL X t) [] σ' τ' v' (nc + 2) (ns + 10)) : LJ X 846 (LaL X t) [] σ τ v nc ns := by
  obtain ⟨r, σ', τ', e1, e2, hR'⟩ := sim_neighbours hR 20000 (LaX X (6 * t + 1)) (LaX X (6 * t + 2)) (LaX X (6 * t + 3))
  refine l_aload_n C dL_law_846 1 rfl rfl ?_
  refine l_arg C 1 dL_law_847 dL_law_848 dL_law_850 dL_law_851 dL_law_852 (by decide) (by omega) ?_
  refine l_arg C 2 dL_law_853 dL_law_854 dL_law_856 dL_law_857 dL_law_858 (by decide) (by omega) ?_
  refine l_arg C 3 dL_law_859 dL_law_860 dL_law_862 dL_law_863 dL_law_864 (by decide) (by omega) ?_
  refine l_callC C (c_X10_neighbours 20000 (LaX X (6 * t + 1)) (LaX X (6 * t + 2)) (LaX X (6 * t + 3)) σ) e1 cwl_108 ⟨rfl, rfl, (Nat.le_of_ble_eq_true rfl), (Nat.le_of_ble_eq_true rfl)⟩ [.int (LaX X (6 * t + 1)), .int (LaX X (6 * t + 2)), .int (LaX X (6 * t + 3))] [] rfl rfl rfl (Nat.le_of_ble_eq_true rfl) hcs dL_law_865 ?_
  refine l_aload_n C dL_law_868 2 rfl rfl ?_
  refine l_arg C 1 dL_law_869 dL_law_870 dL_law_872 dL_law_873 dL_law_874 (by decide) (by omega) ?_
  refine l_arg C 2 dL_law_875 dL_law_876 dL_law_878 dL_law_879 dL_law_880 (by decide) (by omega) ?_
  refine l_arg C 3 dL_law_881 dL_law_882 dL_law_884 dL_law_885 dL_law_886 (by decide) (by omega) ?_
  refine l_callM C (c_X11_neighbours false 20000 (LaX X (6 * t + 1)) (LaX X (6 * t + 2)) (LaX X (6 * t + 3)) τ) e2 cwl_111 ⟨rfl, rfl, (Nat.le_of_ble_eq_true rfl), (Nat.le_of_ble_eq_true rfl)⟩ [.int (LaX X (6 * t + 1)), .int (LaX X (6 * t + 2)), .int (LaX X (6 * t + 3))] [.int r] rfl rfl rfl (Nat.le_of_ble_eq_true rfl) hcs dL_law_887 ?_
  exact l_icmp_eq C dL_law_890 (by decide) rfl (l_widen (by omega) (by omega) (K σ' τ' v hR'))
set_option maxRecDepth 100000 in
theorem lcs_16 {X : LtT} {σ τ : Mem} {v : Int64} {nc ns t : Nat} (C : LC X) (ht : t ≤ 512) (hj : 6 * t + 6 ≤ LaN X) (hcs : nc ≤ 601024 ∧ ns ≤ 7293034) (hcm : nc + 2 ≤ 601024 ∧ ns + 10 ≤ 7293034) (hR : Rel t σ τ) (K : ∀ σ' τ' v', Rel (t + 1) σ' τ' → LJ X 1168 (LaL X t) [] σ' τ' v' (nc + 2) (ns + 10)) : LJ X 895 (LaL X t) [] σ τ v nc ns := by
  obtain ⟨r, σ', τ', e1, e2, hR'⟩ := sim_way hR (n := 20000) (by decide) (LaX X (6 * t + 1)) (LaX X (6 * t + 2)) (LaX X (6 * t + 3))
  refine l_aload_n C dL_law_895 1 rfl rfl ?_
  refine l_arg C 1 dL_law_896 dL_law_897 dL_law_899 dL_law_900 dL_law_901 (by decide) (by omega) ?_
  refine l_arg C 2 dL_law_902 dL_law_903 dL_law_905 dL_law_906 dL_law_907 (by decide) (by omega) ?_
  refine l_arg C 3 dL_law_908 dL_law_909 dL_law_911 dL_law_912 dL_law_913 (by decide) (by omega) ?_
  refine l_callC C (c_X10_way 20000 (LaX X (6 * t + 1)) (LaX X (6 * t + 2)) (LaX X (6 * t + 3)) σ) e1 cwl_112 ⟨rfl, rfl, (Nat.le_of_ble_eq_true rfl), (Nat.le_of_ble_eq_true rfl)⟩ [.int (LaX X (6 * t + 1)), .int (LaX X (6 * t + 2)), .int (LaX X (6 * t + 3))] [] rfl rfl rfl (Nat.le_of_ble_eq_true rfl) hcs dL_law_914 ?_
  refine l_aload_n C dL_law_917 2 rfl rfl ?_
  refine l_arg C 1 dL_law_918 dL_law_919 dL_law_921 dL_law_922 dL_law_923 (by decide) (by omega) ?_
  refine l_arg C 2 dL_law_924 dL_law_925 dL_law_927 dL_law_928 dL_law_929 (by decide) (by omega) ?_
  refine l_arg C 3 dL_law_930 dL_law_931 dL_law_933 dL_law_934 dL_law_935 (by decide) (by omega) ?_
  refine l_callM C (c_X11_way false 20000 (LaX X (6 * t + 1)) (LaX X (6 * t + 2)) (LaX X (6 * t + 3)) τ) e2 cwl_115 ⟨rfl, rfl, (Nat.le_of_ble_eq_true rfl), (Nat.le_of_ble_eq_true rfl)⟩ [.int (LaX X (6 * t + 1)), .int (LaX X (6 * t + 2)), .int (LaX X (6 * t + 3))] [.int r] rfl rfl rfl (Nat.le_of_ble_eq_true rfl) hcs dL_law_936 ?_
  exact l_icmp_eq C dL_law_939 (by decide) rfl (l_widen (by omega) (by omega) (K σ' τ' v hR'))
set_option maxRecDepth 100000 in
theorem lcs_17 {X : LtT} {σ τ : Mem} {v : Int64} {nc ns t : Nat} (C : LC X) (ht : t ≤ 512) (hj : 6 * t + 6 ≤ LaN X) (hcs : nc ≤ 601024 ∧ ns ≤ 7293034) (hcm : nc + 2 ≤ 601024 ∧ ns + 10 ≤ 7293034) (hR : Rel t σ τ) (K : ∀ σ' τ' v', Rel (t + 1) σ' τ' → LJ X 1168 (LaL X t) [] σ' τ' v' (nc + 2) (ns + 10)) : LJ X 944 (LaL X t) [] σ τ v nc ns := by
  obtain ⟨r, σ', τ', e1, e2, hR'⟩ := sim_goal hR (n := 20000) (by decide) (LaX X (6 * t + 1)) (LaX X (6 * t + 2)) (LaX X (6 * t + 3))
  refine l_aload_n C dL_law_944 1 rfl rfl ?_
  refine l_arg C 1 dL_law_945 dL_law_946 dL_law_948 dL_law_949 dL_law_950 (by decide) (by omega) ?_
  refine l_arg C 2 dL_law_951 dL_law_952 dL_law_954 dL_law_955 dL_law_956 (by decide) (by omega) ?_
  refine l_arg C 3 dL_law_957 dL_law_958 dL_law_960 dL_law_961 dL_law_962 (by decide) (by omega) ?_
  refine l_callC C (c_X10_goal 20000 (LaX X (6 * t + 1)) (LaX X (6 * t + 2)) (LaX X (6 * t + 3)) σ) e1 cwl_116 ⟨rfl, rfl, (Nat.le_of_ble_eq_true rfl), (Nat.le_of_ble_eq_true rfl)⟩ [.int (LaX X (6 * t + 1)), .int (LaX X (6 * t + 2)), .int (LaX X (6 * t + 3))] [] rfl rfl rfl (Nat.le_of_ble_eq_true rfl) hcs dL_law_963 ?_
  refine l_aload_n C dL_law_966 2 rfl rfl ?_
  refine l_arg C 1 dL_law_967 dL_law_968 dL_law_970 dL_law_971 dL_law_972 (by decide) (by omega) ?_
  refine l_arg C 2 dL_law_973 dL_law_974 dL_law_976 dL_law_977 dL_law_978 (by decide) (by omega) ?_
  refine l_arg C 3 dL_law_979 dL_law_980 dL_law_982 dL_law_983 dL_law_984 (by decide) (by omega) ?_
  refine l_callM C (c_X11_goal false 20000 (LaX X (6 * t + 1)) (LaX X (6 * t + 2)) (LaX X (6 * t + 3)) τ) e2 cwl_119 ⟨rfl, rfl, (Nat.le_of_ble_eq_true rfl), (Nat.le_of_ble_eq_true rfl)⟩ [.int (LaX X (6 * t + 1)), .int (LaX X (6 * t + 2)), .int (LaX X (6 * t + 3))] [.int r] rfl rfl rfl (Nat.le_of_ble_eq_true rfl) hcs dL_law_985 ?_
  exact l_icmp_eq C dL_law_988 (by decide) rfl (l_widen (by omega) (by omega) (K σ' τ' v hR'))
set_option maxRecDepth 100000 in
theorem lcs_18 {X : LtT} {σ τ : Mem} {v : Int64} {nc ns t : Nat} (C : LC X) (ht : t ≤ 512) (hj : 6 * t + 6 ≤ LaN X) (hcs : nc ≤ 601024 ∧ ns ≤ 7293034) (hcm : nc + 2 ≤ 601024 ∧ ns + 10 ≤ 7293034) (hR : Rel t σ τ) (K : ∀ σ' τ' v', Rel (t + 1) σ' τ' → LJ X 1168 (LaL X t) [] σ' τ' v' (nc + 2) (ns + 10)) : LJ X 993 (LaL X t) [] σ τ v nc ns := by
  rcases sim_note hR ht 20000 (LaX X (6 * t + 1)) with ⟨r, σ', τ', e1, e2, e3, hR'⟩ | ⟨r, σ', τ', e1, e2, e3, hR'⟩
  · refine l_aload_n C dL_law_993 1 rfl rfl ?_
    refine l_arg C 1 dL_law_994 dL_law_995 dL_law_997 dL_law_998 dL_law_999 (by decide) (by omega) ?_
    refine l_aload_n C dL_law_1000 3 rfl rfl ?_
    refine l_callH C (c_L_note 20000 (LaX X (6 * t + 1)) σ) e1 cwh_120 ⟨rfl, rfl, (Nat.le_of_ble_eq_true rfl), (Nat.le_of_ble_eq_true rfl)⟩ [.ref (LaH X), .int (LaX X (6 * t + 1)), .ref (LaH X + 139)] [] rfl rfl rfl (Nat.le_of_ble_eq_true rfl) ⟨by omega, by omega⟩ dL_law_1001 (fun r9 u hp => ?_)
    obtain ⟨-, rfl, rfl⟩ : r9 = r9 ∧ r9 = 0 ∧ u = (σ', r.toInt64) := by
      rcases hp with ⟨h1, -⟩ | ⟨a, h1, h2, h3⟩
      · cases h1
      · cases h1
        exact ⟨rfl, h2, h3⟩
    refine l_istore (L' := LaL X t ++ [(5, .int 0)]) C dL_law_1004 (by decide) [1, 2, 3, 4, 5, 0] rfl ?_
    refine l_aload_n C dL_law_1006 2 rfl rfl ?_
    refine l_aload_n C dL_law_1007 0 rfl rfl (l_iload C dL_law_1008 4 rfl (l_iconst C dL_law_1010 (w := nI 1) (by decide) (l_iadd C dL_law_1011 (l_sld C (j := 6 * t + 1) (by omega) (nI_add _ _) dL_law_1012 ?_))))
    refine l_callM C (c_X11_note false 20000 (LaX X (6 * t + 1)) τ) e2 cwl_122 ⟨rfl, rfl, (Nat.le_of_ble_eq_true rfl), (Nat.le_of_ble_eq_true rfl)⟩ [.int (LaX X (6 * t + 1))] [] rfl rfl rfl (Nat.le_of_ble_eq_true rfl) ⟨by omega, by omega⟩ dL_law_1013 ?_
    refine l_istore (L' := LaL X t ++ [(5, .int 0), (6, .int r)]) C dL_law_1016 (by decide) [1, 2, 3, 4, 5, 6, 0] rfl ?_
    refine l_aload_n C dL_law_1018 2 rfl rfl ?_
    refine l_callM (r := 0) C (c_X11_thrown false 20000 τ') (show f_X11_thrown 20000 τ' = some (0, τ') by rw [← e3]; rfl) cwl_57 ⟨rfl, rfl, (Nat.le_of_ble_eq_true rfl), (Nat.le_of_ble_eq_true rfl)⟩ [] [] rfl rfl rfl (Nat.le_of_ble_eq_true rfl) ⟨by omega, by omega⟩ dL_law_1019 ?_
    refine l_iload C dL_law_1022 5 rfl ?_
    refine l_icmp_eq (tgt := 1029) C dL_law_1024 (by decide) rfl ?_
    refine l_iload C dL_law_1029 5 rfl ?_
    refine l_if_ne (tgt := 1046) C dL_law_1031 (by decide) (fun h9 => absurd rfl h9) (fun _ => ?_)
    refine l_aload_n C dL_law_1034 3 rfl rfl ?_
    refine l_iconst (w := 0) C dL_law_1035 (by decide) ?_
    refine l_lald C dL_law_1036 ?_
    refine l_iload C dL_law_1037 6 rfl ?_
    refine l_i2l C dL_law_1039 ?_
    refine l_lcmp C dL_law_1040 ?_
    refine l_if_eq (tgt := 1046) C dL_law_1041 (by decide) (lg_self _) ?_
    refine l_goto (tgt := 1168) C dL_law_1046 (by decide) ?_
    refine l_sub (L' := LaL X t) [0, 1, 2, 3, 4] rfl ?_
    exact l_widen (by omega) (by omega) (K σ' τ' _ hR')
  · refine l_aload_n C dL_law_993 1 rfl rfl ?_
    refine l_arg C 1 dL_law_994 dL_law_995 dL_law_997 dL_law_998 dL_law_999 (by decide) (by omega) ?_
    refine l_aload_n C dL_law_1000 3 rfl rfl ?_
    refine l_callH C (c_L_note 20000 (LaX X (6 * t + 1)) σ) e1 cwh_120 ⟨rfl, rfl, (Nat.le_of_ble_eq_true rfl), (Nat.le_of_ble_eq_true rfl)⟩ [.ref (LaH X), .int (LaX X (6 * t + 1)), .ref (LaH X + 139)] [] rfl rfl rfl (Nat.le_of_ble_eq_true rfl) ⟨by omega, by omega⟩ dL_law_1001 (fun r9 u hp => ?_)
    obtain ⟨-, rfl, rfl⟩ : r9 = r9 ∧ r9 = 1 ∧ u = (σ', v) := by
      rcases hp with ⟨-, h1, h2⟩ | ⟨a, h1, -⟩
      · exact ⟨rfl, h1, h2⟩
      · cases h1
    refine l_istore (L' := LaL X t ++ [(5, .int 1)]) C dL_law_1004 (by decide) [1, 2, 3, 4, 5, 0] rfl ?_
    refine l_aload_n C dL_law_1006 2 rfl rfl ?_
    refine l_aload_n C dL_law_1007 0 rfl rfl (l_iload C dL_law_1008 4 rfl (l_iconst C dL_law_1010 (w := nI 1) (by decide) (l_iadd C dL_law_1011 (l_sld C (j := 6 * t + 1) (by omega) (nI_add _ _) dL_law_1012 ?_))))
    refine l_callM C (c_X11_note false 20000 (LaX X (6 * t + 1)) τ) e2 cwl_122 ⟨rfl, rfl, (Nat.le_of_ble_eq_true rfl), (Nat.le_of_ble_eq_true rfl)⟩ [.int (LaX X (6 * t + 1))] [] rfl rfl rfl (Nat.le_of_ble_eq_true rfl) ⟨by omega, by omega⟩ dL_law_1013 ?_
    refine l_istore (L' := LaL X t ++ [(5, .int 1), (6, .int r)]) C dL_law_1016 (by decide) [1, 2, 3, 4, 5, 6, 0] rfl ?_
    refine l_aload_n C dL_law_1018 2 rfl rfl ?_
    refine l_callM (r := 1) C (c_X11_thrown false 20000 τ') (show f_X11_thrown 20000 τ' = some (1, τ') by rw [← e3]; rfl) cwl_57 ⟨rfl, rfl, (Nat.le_of_ble_eq_true rfl), (Nat.le_of_ble_eq_true rfl)⟩ [] [] rfl rfl rfl (Nat.le_of_ble_eq_true rfl) ⟨by omega, by omega⟩ dL_law_1019 ?_
    refine l_iload C dL_law_1022 5 rfl ?_
    refine l_icmp_eq (tgt := 1029) C dL_law_1024 (by decide) rfl ?_
    refine l_iload C dL_law_1029 5 rfl ?_
    refine l_if_ne (tgt := 1046) C dL_law_1031 (by decide) (fun _ => ?_) (fun h9 => absurd h9 (by decide))
    refine l_goto (tgt := 1168) C dL_law_1046 (by decide) ?_
    refine l_sub (L' := LaL X t) [0, 1, 2, 3, 4] rfl ?_
    exact l_widen (by omega) (by omega) (K σ' τ' _ hR')
set_option maxRecDepth 100000 in
theorem lcs_19 {X : LtT} {σ τ : Mem} {v : Int64} {nc ns t : Nat} (C : LC X) (ht : t ≤ 512) (hj : 6 * t + 6 ≤ LaN X) (hcs : nc ≤ 601024 ∧ ns ≤ 7293034) (hcm : nc + 2 ≤ 601024 ∧ ns + 10 ≤ 7293034) (hR : Rel t σ τ) (K : ∀ σ' τ' v', Rel (t + 1) σ' τ' → LJ X 1168 (LaL X t) [] σ' τ' v' (nc + 2) (ns + 10)) : LJ X 1049 (LaL X t) [] σ τ v nc ns := by
  rcases sim_sentence hR 20000 (LaX X (6 * t + 1)) (LaX X (6 * t + 2)) with ⟨r, σ', τ', e1, e2, e3, hR'⟩ | ⟨r, σ', τ', e1, e2, e3, hR'⟩
  · refine l_aload_n C dL_law_1049 1 rfl rfl ?_
    refine l_arg C 1 dL_law_1050 dL_law_1051 dL_law_1053 dL_law_1054 dL_law_1055 (by decide) (by omega) ?_
    refine l_arg C 2 dL_law_1056 dL_law_1057 dL_law_1059 dL_law_1060 dL_law_1061 (by decide) (by omega) ?_
    refine l_aload_n C dL_law_1062 3 rfl rfl ?_
    refine l_callH C (c_L_sentence 20000 (LaX X (6 * t + 1)) (LaX X (6 * t + 2)) σ) e1 cwh_123 ⟨rfl, rfl, (Nat.le_of_ble_eq_true rfl), (Nat.le_of_ble_eq_true rfl)⟩ [.ref (LaH X), .int (LaX X (6 * t + 1)), .int (LaX X (6 * t + 2)), .ref (LaH X + 139)] [] rfl rfl rfl (Nat.le_of_ble_eq_true rfl) ⟨by omega, by omega⟩ dL_law_1063 (fun r9 u hp => ?_)
    obtain ⟨-, rfl, rfl⟩ : r9 = r9 ∧ r9 = 0 ∧ u = (σ', r.toInt64) := by
      rcases hp with ⟨h1, -⟩ | ⟨a, h1, h2, h3⟩
      · cases h1
      · cases h1
        exact ⟨rfl, h2, h3⟩
    refine l_istore (L' := LaL X t ++ [(5, .int 0)]) C dL_law_1066 (by decide) [1, 2, 3, 4, 5, 0] rfl ?_
    refine l_aload_n C dL_law_1068 2 rfl rfl ?_
    refine l_aload_n C dL_law_1069 0 rfl rfl (l_iload C dL_law_1070 4 rfl (l_iconst C dL_law_1072 (w := nI 1) (by decide) (l_iadd C dL_law_1073 (l_sld C (j := 6 * t + 1) (by omega) (nI_add _ _) dL_law_1074 ?_))))
    refine l_aload_n C dL_law_1075 0 rfl rfl (l_iload C dL_law_1076 4 rfl (l_iconst C dL_law_1078 (w := nI 2) (by decide) (l_iadd C dL_law_1079 (l_sld C (j := 6 * t + 2) (by omega) (nI_add _ _) dL_law_1080 ?_))))
    refine l_callM C (c_X11_sentence false 20000 (LaX X (6 * t + 1)) (LaX X (6 * t + 2)) τ) e2 cwl_125 ⟨rfl, rfl, (Nat.le_of_ble_eq_true rfl), (Nat.le_of_ble_eq_true rfl)⟩ [.int (LaX X (6 * t + 1)), .int (LaX X (6 * t + 2))] [] rfl rfl rfl (Nat.le_of_ble_eq_true rfl) ⟨by omega, by omega⟩ dL_law_1081 ?_
    refine l_istore (L' := LaL X t ++ [(5, .int 0), (6, .int r)]) C dL_law_1084 (by decide) [1, 2, 3, 4, 5, 6, 0] rfl ?_
    refine l_aload_n C dL_law_1086 2 rfl rfl ?_
    refine l_callM (r := 0) C (c_X11_thrown false 20000 τ') (show f_X11_thrown 20000 τ' = some (0, τ') by rw [← e3]; rfl) cwl_57 ⟨rfl, rfl, (Nat.le_of_ble_eq_true rfl), (Nat.le_of_ble_eq_true rfl)⟩ [] [] rfl rfl rfl (Nat.le_of_ble_eq_true rfl) ⟨by omega, by omega⟩ dL_law_1087 ?_
    refine l_iload C dL_law_1090 5 rfl ?_
    refine l_icmp_eq (tgt := 1097) C dL_law_1092 (by decide) rfl ?_
    refine l_iload C dL_law_1097 5 rfl ?_
    refine l_if_ne (tgt := 1114) C dL_law_1099 (by decide) (fun h9 => absurd rfl h9) (fun _ => ?_)
    refine l_aload_n C dL_law_1102 3 rfl rfl ?_
    refine l_iconst (w := 0) C dL_law_1103 (by decide) ?_
    refine l_lald C dL_law_1104 ?_
    refine l_iload C dL_law_1105 6 rfl ?_
    refine l_i2l C dL_law_1107 ?_
    refine l_lcmp C dL_law_1108 ?_
    refine l_if_eq (tgt := 1114) C dL_law_1109 (by decide) (lg_self _) ?_
    refine l_goto (tgt := 1168) C dL_law_1114 (by decide) ?_
    refine l_sub (L' := LaL X t) [0, 1, 2, 3, 4] rfl ?_
    exact l_widen (by omega) (by omega) (K σ' τ' _ hR')
  · refine l_aload_n C dL_law_1049 1 rfl rfl ?_
    refine l_arg C 1 dL_law_1050 dL_law_1051 dL_law_1053 dL_law_1054 dL_law_1055 (by decide) (by omega) ?_
    refine l_arg C 2 dL_law_1056 dL_law_1057 dL_law_1059 dL_law_1060 dL_law_1061 (by decide) (by omega) ?_
    refine l_aload_n C dL_law_1062 3 rfl rfl ?_
    refine l_callH C (c_L_sentence 20000 (LaX X (6 * t + 1)) (LaX X (6 * t + 2)) σ) e1 cwh_123 ⟨rfl, rfl, (Nat.le_of_ble_eq_true rfl), (Nat.le_of_ble_eq_true rfl)⟩ [.ref (LaH X), .int (LaX X (6 * t + 1)), .int (LaX X (6 * t + 2)), .ref (LaH X + 139)] [] rfl rfl rfl (Nat.le_of_ble_eq_true rfl) ⟨by omega, by omega⟩ dL_law_1063 (fun r9 u hp => ?_)
    obtain ⟨-, rfl, rfl⟩ : r9 = r9 ∧ r9 = 1 ∧ u = (σ', v) := by
      rcases hp with ⟨-, h1, h2⟩ | ⟨a, h1, -⟩
      · exact ⟨rfl, h1, h2⟩
      · cases h1
    refine l_istore (L' := LaL X t ++ [(5, .int 1)]) C dL_law_1066 (by decide) [1, 2, 3, 4, 5, 0] rfl ?_
    refine l_aload_n C dL_law_1068 2 rfl rfl ?_
    refine l_aload_n C dL_law_1069 0 rfl rfl (l_iload C dL_law_1070 4 rfl (l_iconst C dL_law_1072 (w := nI 1) (by decide) (l_iadd C dL_law_1073 (l_sld C (j := 6 * t + 1) (by omega) (nI_add _ _) dL_law_1074 ?_))))
    refine l_aload_n C dL_law_1075 0 rfl rfl (l_iload C dL_law_1076 4 rfl (l_iconst C dL_law_1078 (w := nI 2) (by decide) (l_iadd C dL_law_1079 (l_sld C (j := 6 * t + 2) (by omega) (nI_add _ _) dL_law_1080 ?_))))
    refine l_callM C (c_X11_sentence false 20000 (LaX X (6 * t + 1)) (LaX X (6 * t + 2)) τ) e2 cwl_125 ⟨rfl, rfl, (Nat.le_of_ble_eq_true rfl), (Nat.le_of_ble_eq_true rfl)⟩ [.int (LaX X (6 * t + 1)), .int (LaX X (6 * t + 2))] [] rfl rfl rfl (Nat.le_of_ble_eq_true rfl) ⟨by omega, by omega⟩ dL_law_1081 ?_
    refine l_istore (L' := LaL X t ++ [(5, .int 1), (6, .int r)]) C dL_law_1084 (by decide) [1, 2, 3, 4, 5, 6, 0] rfl ?_
    refine l_aload_n C dL_law_1086 2 rfl rfl ?_
    refine l_callM (r := 1) C (c_X11_thrown false 20000 τ') (show f_X11_thrown 20000 τ' = some (1, τ') by rw [← e3]; rfl) cwl_57 ⟨rfl, rfl, (Nat.le_of_ble_eq_true rfl), (Nat.le_of_ble_eq_true rfl)⟩ [] [] rfl rfl rfl (Nat.le_of_ble_eq_true rfl) ⟨by omega, by omega⟩ dL_law_1087 ?_
    refine l_iload C dL_law_1090 5 rfl ?_
    refine l_icmp_eq (tgt := 1097) C dL_law_1092 (by decide) rfl ?_
    refine l_iload C dL_law_1097 5 rfl ?_
    refine l_if_ne (tgt := 1114) C dL_law_1099 (by decide) (fun _ => ?_) (fun h9 => absurd h9 (by decide))
    refine l_goto (tgt := 1168) C dL_law_1114 (by decide) ?_
    refine l_sub (L' := LaL X t) [0, 1, 2, 3, 4] rfl ?_
    exact l_widen (by omega) (by omega) (K σ' τ' _ hR')
set_option maxRecDepth 100000 in
theorem lcs_20 {X : LtT} {σ τ : Mem} {v : Int64} {nc ns t : Nat} (C : LC X) (ht : t ≤ 512) (hj : 6 * t + 6 ≤ LaN X) (hcs : nc ≤ 601024 ∧ ns ≤ 7293034) (hcm : nc + 2 ≤ 601024 ∧ ns + 10 ≤ 7293034) (hR : Rel t σ τ) (K : ∀ σ' τ' v', Rel (t + 1) σ' τ' → LJ X 1168 (LaL X t) [] σ' τ' v' (nc + 2) (ns + 10)) : LJ X 1117 (LaL X t) [] σ τ v nc ns := by
  obtain ⟨r, σ', τ', e1, e2, hR'⟩ := sim_count hR (n := 20000) (by decide) (LaX X (6 * t + 1))
  refine l_aload_n C dL_law_1117 1 rfl rfl ?_
  refine l_arg C 1 dL_law_1118 dL_law_1119 dL_law_1121 dL_law_1122 dL_law_1123 (by decide) (by omega) ?_
  refine l_callC C (c_X10_count 20000 (LaX X (6 * t + 1)) σ) e1 cwl_126 ⟨rfl, rfl, (Nat.le_of_ble_eq_true rfl), (Nat.le_of_ble_eq_true rfl)⟩ [.int (LaX X (6 * t + 1))] [] rfl rfl rfl (Nat.le_of_ble_eq_true rfl) hcs dL_law_1124 ?_
  refine l_aload_n C dL_law_1127 2 rfl rfl ?_
  refine l_arg C 1 dL_law_1128 dL_law_1129 dL_law_1131 dL_law_1132 dL_law_1133 (by decide) (by omega) ?_
  refine l_callM C (c_X11_count false 20000 (LaX X (6 * t + 1)) τ) e2 cwl_129 ⟨rfl, rfl, (Nat.le_of_ble_eq_true rfl), (Nat.le_of_ble_eq_true rfl)⟩ [.int (LaX X (6 * t + 1))] [.int r] rfl rfl rfl (Nat.le_of_ble_eq_true rfl) hcs dL_law_1134 ?_
  exact l_icmp_eq C dL_law_1137 (by decide) rfl (l_widen (by omega) (by omega) (K σ' τ' v hR'))
set_option maxRecDepth 100000 in
theorem lcs_21 {X : LtT} {σ τ : Mem} {v : Int64} {nc ns t : Nat} (C : LC X) (ht : t ≤ 512) (hj : 6 * t + 6 ≤ LaN X) (hcs : nc ≤ 601024 ∧ ns ≤ 7293034) (hcm : nc + 2 ≤ 601024 ∧ ns + 10 ≤ 7293034) (hR : Rel t σ τ) (K : ∀ σ' τ' v', Rel (t + 1) σ' τ' → LJ X 1168 (LaL X t) [] σ' τ' v' (nc + 2) (ns + 10)) : LJ X 1142 (LaL X t) [] σ τ v nc ns := by
  obtain ⟨r, σ', τ', e1, e2, hR'⟩ := sim_keep hR (n := 20000) (by decide) 
  refine l_aload_n C dL_law_1142 1 rfl rfl ?_
  refine l_callC C (c_X10_keep 20000  σ) e1 cwl_130 ⟨rfl, rfl, (Nat.le_of_ble_eq_true rfl), (Nat.le_of_ble_eq_true rfl)⟩ [] [] rfl rfl rfl (Nat.le_of_ble_eq_true rfl) hcs dL_law_1143 ?_
  refine l_aload_n C dL_law_1146 2 rfl rfl ?_
  refine l_callM C (c_X11_keep false 20000  τ) e2 cwl_134 ⟨rfl, rfl, (Nat.le_of_ble_eq_true rfl), (Nat.le_of_ble_eq_true rfl)⟩ [] [.int r] rfl rfl rfl (Nat.le_of_ble_eq_true rfl) hcs dL_law_1147 ?_
  exact l_icmp_eq C dL_law_1150 (by decide) rfl (l_widen (by omega) (by omega) (K σ' τ' v hR'))
set_option maxRecDepth 100000 in
theorem lcs_22 {X : LtT} {σ τ : Mem} {v : Int64} {nc ns t : Nat} (C : LC X) (ht : t ≤ 512) (hj : 6 * t + 6 ≤ LaN X) (hcs : nc ≤ 601024 ∧ ns ≤ 7293034) (hcm : nc + 2 ≤ 601024 ∧ ns + 10 ≤ 7293034) (hR : Rel t σ τ) (K : ∀ σ' τ' v', Rel (t + 1) σ' τ' → LJ X 1168 (LaL X t) [] σ' τ' v' (nc + 2) (ns + 10)) : LJ X 1155 (LaL X t) [] σ τ v nc ns := by
  obtain ⟨r, σ', τ', e1, e2, hR'⟩ := sim_back hR (n := 20000) (by decide) 
  refine l_aload_n C dL_law_1155 1 rfl rfl ?_
  refine l_callC C (c_X10_back 20000  σ) e1 cwl_135 ⟨rfl, rfl, (Nat.le_of_ble_eq_true rfl), (Nat.le_of_ble_eq_true rfl)⟩ [] [] rfl rfl rfl (Nat.le_of_ble_eq_true rfl) hcs dL_law_1156 ?_
  refine l_aload_n C dL_law_1159 2 rfl rfl ?_
  refine l_callM C (c_X11_back false 20000  τ) e2 cwl_138 ⟨rfl, rfl, (Nat.le_of_ble_eq_true rfl), (Nat.le_of_ble_eq_true rfl)⟩ [] [.int r] rfl rfl rfl (Nat.le_of_ble_eq_true rfl) hcs dL_law_1160 ?_
  exact l_icmp_eq C dL_law_1163 (by decide) rfl (l_widen (by omega) (by omega) (K σ' τ' v hR'))
theorem Rel.up1 {t : Nat} {σ τ : Mem} (h : Rel t σ τ) : Rel (t + 1) σ τ := by
  obtain ⟨T, S, a1, a2, a3, ⟨a4, a5⟩, ⟨a6, a7, a8⟩, a9⟩ := h
  exact ⟨T, S, a1, a2, a3, ⟨a4, a5.up⟩, ⟨a6, a7, fun e => ⟨(a8 e).1, (a8 e).2.up⟩⟩, a9⟩
theorem lcs_all {X : LtT} {σ τ : Mem} {v : Int64} {nc ns t : Nat} {w : Int32} (C : LC X) (ht : t ≤ 512) (hj : 6 * t + 6 ≤ LaN X) (hcs : nc ≤ 601024 ∧ ns ≤ 7293034) (hcm : nc + 2 ≤ 601024 ∧ ns + 10 ≤ 7293034) (hR : Rel t σ τ) (K : ∀ σ' τ' v', Rel (t + 1) σ' τ' → LJ X 1168 (LaL X t) [] σ' τ' v' (nc + 2) (ns + 10)) : LJ X 40 (LaL X t) [.int w] σ τ v nc ns := by
  by_cases h : w.toInt < 0 ∨ 22 < w.toInt
  · intro H locs ls hl hP hS
    exact lv_tableOut (tgt := 1168) C.1 C.2.1 dL_law_40 h (by decide) ((l_widen (by omega) (by omega) (K σ τ v hR.up1)) H locs ls hl hP hS)
  · obtain ⟨j, hj9, ew⟩ : ∃ j : Nat, j < 23 ∧ w.toInt = (j : Int) := ⟨w.toInt.toNat, by omega, by omega⟩
    have hlo : ¬ w.toInt < 0 := fun q => h (Or.inl q)
    have hhi : ¬ (22 : Int) < w.toInt := fun q => h (Or.inr q)
    match j, hj9, ew with
    | 0, _, ew =>
      intro H locs ls hl hP hS
      exact lv_tableIn (off := 108) (tgt := 148) C.1 C.2.1 dL_law_40 hlo hhi (by rw [ew]; rfl) (by decide) (lcs_0 C ht hj hcs hcm hR K H locs ls hl hP hS)
    | 1, _, ew =>
      intro H locs ls hl hP hS
      exact lv_tableIn (off := 181) (tgt := 221) C.1 C.2.1 dL_law_40 hlo hhi (by rw [ew]; rfl) (by decide) (lcs_1 C ht hj hcs hcm hR K H locs ls hl hP hS)
    | 2, _, ew =>
      intro H locs ls hl hP hS
      exact lv_tableIn (off := 206) (tgt := 246) C.1 C.2.1 dL_law_40 hlo hhi (by rw [ew]; rfl) (by decide) (lcs_2 C ht hj hcs hcm hR K H locs ls hl hP hS)
    | 3, _, ew =>
      intro H locs ls hl hP hS
      exact lv_tableIn (off := 250) (tgt := 290) C.1 C.2.1 dL_law_40 hlo hhi (by rw [ew]; rfl) (by decide) (lcs_3 C ht hj hcs hcm hR K H locs ls hl hP hS)
    | 4, _, ew =>
      intro H locs ls hl hP hS
      exact lv_tableIn (off := 275) (tgt := 315) C.1 C.2.1 dL_law_40 hlo hhi (by rw [ew]; rfl) (by decide) (lcs_4 C ht hj hcs hcm hR K H locs ls hl hP hS)
    | 5, _, ew =>
      intro H locs ls hl hP hS
      exact lv_tableIn (off := 300) (tgt := 340) C.1 C.2.1 dL_law_40 hlo hhi (by rw [ew]; rfl) (by decide) (lcs_5 C ht hj hcs hcm hR K H locs ls hl hP hS)
    | 6, _, ew =>
      intro H locs ls hl hP hS
      exact lv_tableIn (off := 325) (tgt := 365) C.1 C.2.1 dL_law_40 hlo hhi (by rw [ew]; rfl) (by decide) (lcs_6 C ht hj hcs hcm hR K H locs ls hl hP hS)
    | 7, _, ew =>
      intro H locs ls hl hP hS
      exact lv_tableIn (off := 374) (tgt := 414) C.1 C.2.1 dL_law_40 hlo hhi (by rw [ew]; rfl) (by decide) (lcs_7 C ht hj hcs hcm hR K H locs ls hl hP hS)
    | 8, _, ew =>
      intro H locs ls hl hP hS
      exact lv_tableIn (off := 423) (tgt := 463) C.1 C.2.1 dL_law_40 hlo hhi (by rw [ew]; rfl) (by decide) (lcs_8 C ht hj hcs hcm hR K H locs ls hl hP hS)
    | 9, _, ew =>
      intro H locs ls hl hP hS
      exact lv_tableIn (off := 491) (tgt := 531) C.1 C.2.1 dL_law_40 hlo hhi (by rw [ew]; rfl) (by decide) (lcs_9 C ht hj hcs hcm hR K H locs ls hl hP hS)
    | 10, _, ew =>
      intro H locs ls hl hP hS
      exact lv_tableIn (off := 547) (tgt := 587) C.1 C.2.1 dL_law_40 hlo hhi (by rw [ew]; rfl) (by decide) (lcs_10 C ht hj hcs hcm hR K H locs ls hl hP hS)
    | 11, _, ew =>
      intro H locs ls hl hP hS
      exact lv_tableIn (off := 584) (tgt := 624) C.1 C.2.1 dL_law_40 hlo hhi (by rw [ew]; rfl) (by decide) (lcs_11 C ht hj hcs hcm hR K H locs ls hl hP hS)
    | 12, _, ew =>
      intro H locs ls hl hP hS
      exact lv_tableIn (off := 652) (tgt := 692) C.1 C.2.1 dL_law_40 hlo hhi (by rw [ew]; rfl) (by decide) (lcs_12 C ht hj hcs hcm hR K H locs ls hl hP hS)
    | 13, _, ew =>
      intro H locs ls hl hP hS
      exact lv_tableIn (off := 720) (tgt := 760) C.1 C.2.1 dL_law_40 hlo hhi (by rw [ew]; rfl) (by decide) (lcs_13 C ht hj hcs hcm hR K H locs ls hl hP hS)
    | 14, _, ew =>
      intro H locs ls hl hP hS
      exact lv_tableIn (off := 757) (tgt := 797) C.1 C.2.1 dL_law_40 hlo hhi (by rw [ew]; rfl) (by decide) (lcs_14 C ht hj hcs hcm hR K H locs ls hl hP hS)
    | 15, _, ew =>
      intro H locs ls hl hP hS
      exact lv_tableIn (off := 806) (tgt := 846) C.1 C.2.1 dL_law_40 hlo hhi (by rw [ew]; rfl) (by decide) (lcs_15 C ht hj hcs hcm hR K H locs ls hl hP hS)
    | 16, _, ew =>
      intro H locs ls hl hP hS
      exact lv_tableIn (off := 855) (tgt := 895) C.1 C.2.1 dL_law_40 hlo hhi (by rw [ew]; rfl) (by decide) (lcs_16 C ht hj hcs hcm hR K H locs ls hl hP hS)
    | 17, _, ew =>
      intro H locs ls hl hP hS
      exact lv_tableIn (off := 904) (tgt := 944) C.1 C.2.1 dL_law_40 hlo hhi (by rw [ew]; rfl) (by decide) (lcs_17 C ht hj hcs hcm hR K H locs ls hl hP hS)
    | 18, _, ew =>
      intro H locs ls hl hP hS
      exact lv_tableIn (off := 953) (tgt := 993) C.1 C.2.1 dL_law_40 hlo hhi (by rw [ew]; rfl) (by decide) (lcs_18 C ht hj hcs hcm hR K H locs ls hl hP hS)
    | 19, _, ew =>
      intro H locs ls hl hP hS
      exact lv_tableIn (off := 1009) (tgt := 1049) C.1 C.2.1 dL_law_40 hlo hhi (by rw [ew]; rfl) (by decide) (lcs_19 C ht hj hcs hcm hR K H locs ls hl hP hS)
    | 20, _, ew =>
      intro H locs ls hl hP hS
      exact lv_tableIn (off := 1077) (tgt := 1117) C.1 C.2.1 dL_law_40 hlo hhi (by rw [ew]; rfl) (by decide) (lcs_20 C ht hj hcs hcm hR K H locs ls hl hP hS)
    | 21, _, ew =>
      intro H locs ls hl hP hS
      exact lv_tableIn (off := 1102) (tgt := 1142) C.1 C.2.1 dL_law_40 hlo hhi (by rw [ew]; rfl) (by decide) (lcs_21 C ht hj hcs hcm hR K H locs ls hl hP hS)
    | 22, _, ew =>
      intro H locs ls hl hP hS
      exact lv_tableIn (off := 1115) (tgt := 1155) C.1 C.2.1 dL_law_40 hlo hhi (by rw [ew]; rfl) (by decide) (lcs_22 C ht hj hcs hcm hR K H locs ls hl hP hS)
    | j + 23, hj9, _ => exact absurd hj9 (by omega)
