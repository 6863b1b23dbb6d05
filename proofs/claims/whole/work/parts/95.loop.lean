/-! ===== the law's loop ===== -/
theorem six (t : Nat) : nI (6 * t) + Int32.ofInt 6 = nI (6 * (t + 1)) := by
  rw [show Int32.ofInt 6 = nI 6 by decide, nI_add]
  rfl
theorem law_loop {X : LtT} (C : LC X) : ∀ (d t : Nat) (σ τ : Mem) (v : Int64), t + d = 512 → 6 * t ≤ LaN X → Rel t σ τ → LJ X 23 (LaL X t) [] σ τ v (140 + 2 * t) (22705 + 10 * t) := by
  have hN : LaN X ≤ 3072 := C.2.2.2.2.2.2.2.2.2.2.2.2.2.2.2
  intro d
  induction d with
  | zero =>
    intro t σ τ v ht hi hR
    refine l_iload C dL_law_23 4 rfl ?_
    refine l_aload_n C dL_law_25 0 rfl rfl ?_
    refine l_slen C dL_law_26 ?_
    refine l_bipush (w := 6) C dL_law_27 (by decide) ?_
    refine l_isub C dL_law_29 ?_
    have e6 : (nI (LaN X) - (6 : Int32)).toInt = (LaN X : Int) - 6 := pk_sub_toInt (a := LaN X) (b := 6) (by omega) (by omega)
    refine l_icmp_gt (tgt := 1174) C dL_law_30 (by decide) (fun _ => ?_) (fun h => absurd (lt_T.mpr (by rw [e6, nI_toInt (by omega)]; omega)) h)
    intro H locs ls hl hP hS
    refine lv_iconst (v := 1) C.1 C.2.1 dL_law_1174 (by decide) ?_
    refine va_forget (fun q hq => hS.2.2 q hq) ?_
    refine W.widen (k := 601024) (n := 7293034) (by omega) (by omega) ?_
    exact lw_ret C.1 C.2.1 C.2.2.1 C.2.2.2.2.2.2.1 dL_law_1175
  | succ d ih =>
    intro t σ τ v ht hi hR
    refine l_iload C dL_law_23 4 rfl ?_
    refine l_aload_n C dL_law_25 0 rfl rfl ?_
    refine l_slen C dL_law_26 ?_
    refine l_bipush (w := 6) C dL_law_27 (by decide) ?_
    refine l_isub C dL_law_29 ?_
    have e6 : (nI (LaN X) - (6 : Int32)).toInt = (LaN X : Int) - 6 := pk_sub_toInt (a := LaN X) (b := 6) (by omega) (by omega)
    refine l_icmp_gt (tgt := 1174) C dL_law_30 (by decide) (fun _ => ?_) (fun h => ?_)
    · intro H locs ls hl hP hS
      refine lv_iconst (v := 1) C.1 C.2.1 dL_law_1174 (by decide) ?_
      refine va_forget (fun q hq => hS.2.2 q hq) ?_
      refine W.widen (k := 601024) (n := 7293034) (by omega) (by omega) ?_
      exact lw_ret C.1 C.2.1 C.2.2.1 C.2.2.2.2.2.2.1 dL_law_1175
    · have hj : 6 * t + 6 ≤ LaN X := by
        apply Classical.byContradiction
        intro w
        exact h (lt_T.mpr (by rw [e6, nI_toInt (by omega)]; omega))
      refine l_aload_n C dL_law_33 0 rfl rfl ?_
      refine l_iload C dL_law_34 4 rfl ?_
      refine l_sld C (j := 6 * t) (by omega) rfl dL_law_36 ?_
      refine l_bipush (w := 31) C dL_law_37 (by decide) ?_
      refine l_iand C dL_law_39 ?_
      refine lcs_all C (by omega) hj ⟨by omega, by omega⟩ ⟨by omega, by omega⟩ hR (fun σ' τ' v' hR' => ?_)
      refine l_iinc (w' := nI (6 * (t + 1))) (L' := LaL X (t + 1)) C dL_law_1168 4 rfl (by decide) (six t) [1, 2, 3, 4, 0] rfl ?_
      refine l_goto (tgt := 23) C dL_law_1171 (by decide) ?_
      exact l_widen (by omega) (by omega) (ih (t + 1) σ' τ' v' (by omega) (by omega) hR')
