/-! ===== constructors: all but the stage's ===== -/
def dfX0 : List Value := [.int 0, .int 0, .int 0, .int 0, .int 0, .int 0, .int 0]
theorem dfX0_ok : ∀ j, j < 7 → defaultValue (tyX0 j) = vp_V dfX0 j := by
  intro j hj
  match j, hj with
  | 0, _ => rfl
  | 1, _ => rfl
  | 2, _ => rfl
  | 3, _ => rfl
  | 4, _ => rfl
  | 5, _ => rfl
  | 6, _ => rfl
  | j + 7, hj => exact absurd hj (by omega)
def dfX1 : List Value := [.null, .null, .null, .null, .null, .null]
theorem dfX1_ok : ∀ j, j < 6 → defaultValue (tyX1 j) = vp_V dfX1 j := by
  intro j hj
  match j, hj with
  | 0, _ => rfl
  | 1, _ => rfl
  | 2, _ => rfl
  | 3, _ => rfl
  | 4, _ => rfl
  | 5, _ => rfl
  | j + 6, hj => exact absurd hj (by omega)
def dfX2 : List Value := [.null, .null, .int 0]
theorem dfX2_ok : ∀ j, j < 3 → defaultValue (tyX2 j) = vp_V dfX2 j := by
  intro j hj
  match j, hj with
  | 0, _ => rfl
  | 1, _ => rfl
  | 2, _ => rfl
  | j + 3, hj => exact absurd hj (by omega)
def dfX3 : List Value := [.null, .null, .null, .null, .null]
theorem dfX3_ok : ∀ j, j < 5 → defaultValue (tyX3 j) = vp_V dfX3 j := by
  intro j hj
  match j, hj with
  | 0, _ => rfl
  | 1, _ => rfl
  | 2, _ => rfl
  | 3, _ => rfl
  | 4, _ => rfl
  | j + 5, hj => exact absurd hj (by omega)
def dfX4 : List Value := [.int 0, .int 0, .null, .null, .int 0, .int 0]
theorem dfX4_ok : ∀ j, j < 6 → defaultValue (tyX4 j) = vp_V dfX4 j := by
  intro j hj
  match j, hj with
  | 0, _ => rfl
  | 1, _ => rfl
  | 2, _ => rfl
  | 3, _ => rfl
  | 4, _ => rfl
  | 5, _ => rfl
  | j + 6, hj => exact absurd hj (by omega)
def dfX5 : List Value := [.null, .null, .null, .null, .null, .int 0, .int 0, .int 0, .int 0, .int 0]
theorem dfX5_ok : ∀ j, j < 10 → defaultValue (tyX5 j) = vp_V dfX5 j := by
  intro j hj
  match j, hj with
  | 0, _ => rfl
  | 1, _ => rfl
  | 2, _ => rfl
  | 3, _ => rfl
  | 4, _ => rfl
  | 5, _ => rfl
  | 6, _ => rfl
  | 7, _ => rfl
  | 8, _ => rfl
  | 9, _ => rfl
  | j + 10, hj => exact absurd hj (by omega)
def dfX6 : List Value := [.int 0, .int 0, .int 0, .int 0, .int 0, .int 0, .null]
theorem dfX6_ok : ∀ j, j < 7 → defaultValue (tyX6 j) = vp_V dfX6 j := by
  intro j hj
  match j, hj with
  | 0, _ => rfl
  | 1, _ => rfl
  | 2, _ => rfl
  | 3, _ => rfl
  | 4, _ => rfl
  | 5, _ => rfl
  | 6, _ => rfl
  | j + 7, hj => exact absurd hj (by omega)
def dfX7 : List Value := [.int 0, .int 0, .int 0, .int 0, .int 0, .int 0, .null, .null, .null, .null, .null, .null, .null, .null]
theorem dfX7_ok : ∀ j, j < 14 → defaultValue (tyX7 j) = vp_V dfX7 j := by
  intro j hj
  match j, hj with
  | 0, _ => rfl
  | 1, _ => rfl
  | 2, _ => rfl
  | 3, _ => rfl
  | 4, _ => rfl
  | 5, _ => rfl
  | 6, _ => rfl
  | 7, _ => rfl
  | 8, _ => rfl
  | 9, _ => rfl
  | 10, _ => rfl
  | 11, _ => rfl
  | 12, _ => rfl
  | 13, _ => rfl
  | j + 14, hj => exact absurd hj (by omega)
def dfX8 : List Value := [.null, .int 0]
theorem dfX8_ok : ∀ j, j < 2 → defaultValue (tyX8 j) = vp_V dfX8 j := by
  intro j hj
  match j, hj with
  | 0, _ => rfl
  | 1, _ => rfl
  | j + 2, hj => exact absurd hj (by omega)
def dfX9 : List Value := [.null, .null, .null, .null, .int 0, .int 0, .int 0]
theorem dfX9_ok : ∀ j, j < 7 → defaultValue (tyX9 j) = vp_V dfX9 j := by
  intro j hj
  match j, hj with
  | 0, _ => rfl
  | 1, _ => rfl
  | 2, _ => rfl
  | 3, _ => rfl
  | 4, _ => rfl
  | 5, _ => rfl
  | 6, _ => rfl
  | j + 7, hj => exact absurd hj (by omega)
def dfX10 : List Value := [.null, .null, .null, .null, .null, .null, .null, .null, .int 0]
theorem dfX10_ok : ∀ j, j < 9 → defaultValue (tyX10 j) = vp_V dfX10 j := by
  intro j hj
  match j, hj with
  | 0, _ => rfl
  | 1, _ => rfl
  | 2, _ => rfl
  | 3, _ => rfl
  | 4, _ => rfl
  | 5, _ => rfl
  | 6, _ => rfl
  | 7, _ => rfl
  | 8, _ => rfl
  | j + 9, hj => exact absurd hj (by omega)
def dfX11 : List Value := [.int 0, .null, .int 0, .null, .int 0, .int 0, .int 0, .int 0, .int 0, .null, .null, .null, .null, .null, .null, .null, .null, .null, .null, .int 0, .int 0, .null, .int 0, .int 0, .null, .int 0, .int 0, .null, .null, .int 0, .null, .int 0, .int 0, .int 0, .int 0, .int 0, .int 0, .null, .int 0, .int 0]
theorem dfX11_ok : ∀ j, j < 40 → defaultValue (tyX11 j) = vp_V dfX11 j := by
  intro j hj
  match j, hj with
  | 0, _ => rfl
  | 1, _ => rfl
  | 2, _ => rfl
  | 3, _ => rfl
  | 4, _ => rfl
  | 5, _ => rfl
  | 6, _ => rfl
  | 7, _ => rfl
  | 8, _ => rfl
  | 9, _ => rfl
  | 10, _ => rfl
  | 11, _ => rfl
  | 12, _ => rfl
  | 13, _ => rfl
  | 14, _ => rfl
  | 15, _ => rfl
  | 16, _ => rfl
  | 17, _ => rfl
  | 18, _ => rfl
  | 19, _ => rfl
  | 20, _ => rfl
  | 21, _ => rfl
  | 22, _ => rfl
  | 23, _ => rfl
  | 24, _ => rfl
  | 25, _ => rfl
  | 26, _ => rfl
  | 27, _ => rfl
  | 28, _ => rfl
  | 29, _ => rfl
  | 30, _ => rfl
  | 31, _ => rfl
  | 32, _ => rfl
  | 33, _ => rfl
  | 34, _ => rfl
  | 35, _ => rfl
  | 36, _ => rfl
  | 37, _ => rfl
  | 38, _ => rfl
  | 39, _ => rfl
  | j + 40, hj => exact absurd hj (by omega)
def wX8 (dA : Nat → ClassId) (b : Nat) : List va_E := (.inr (8, [.ref (b + 1), .int 0]) :: ([] ++ [.inl (dA 0, 1500, .inl (fun _ => 0))]))
theorem ln_X8 (dA : Nat → ClassId) (b : Nat) : (wX8  dA b).length = 2 := by
  unfold wX8
  simp only [List.length_cons, List.length_append, List.length_nil]
def rm_X8_init : Room := { frames := 1, cells := 1, slots := 1500, locals := 12 }
set_option maxRecDepth 100000 in
theorem c_X8_init : CK yX8_init cX8_init 1 rm_X8_init [] (.inr (8, dfX8)) wX8 := by
  refine CK_of (by decide) rfl (fun _ => Nat.le_of_ble_eq_true rfl) (fun X C K => ?_)
  have C : KC X 1 cX8_init RX8 rm_X8_init := C
  show KJ X 1 0 [(0, .ref (kA X))] [] [.inr (8, [.null, .int 0])] 0 0
  refine k_aload_n C dX8_init_0 0 rfl rfl ?_
  refine k_objInit C kw_141 kw_128 kw_129 ⟨(Nat.le_of_ble_eq_true rfl), (Nat.le_of_ble_eq_true rfl)⟩ dX8_init_1 ?_
  refine k_aload_n C dX8_init_4 0 rfl rfl ?_
  refine k_sipush (v := (1500 : Int32)) C dX8_init_5 (by decide) ?_
  refine k_newa (ws' := .inr (8, [.null, .int 0]) :: ([] ++ [.inl (kD X 0, 1500, .inl (fun _ => 0))])) (a := kA X + 1) C 0 (Or.inl ⟨rfl, rfl⟩) rfl kw_151 1500 (by decide) (by decide) (by decide) (Nat.le_of_ble_eq_true rfl) (Nat.le_of_ble_eq_true rfl) (by simp only [List.length_cons, List.length_append, List.length_nil]) rfl dX8_init_8 ?_
  refine k_putF (ws' := (.inr (8, [.ref (kA X + 1), .int 0]) :: ([] ++ [.inl (kD X 0, 1500, .inl (fun _ => 0))]))) C K.1 kX8 0 rfl rfl 0 (by decide) kw_142 rfl rfl rfl rfl (Nat.le_of_ble_eq_true rfl) rfl dX8_init_10 ?_
  exact k_ret C K rfl rfl rfl dX8_init_13
def wX2 (N : Nat) (dA : Nat → ClassId) (b : Nat) : List va_E := (.inr (2, [.ref (b + 1), .ref (b + 2), .int 0]) :: (([] ++ [.inl (dA 0, N, .inl (fun _ => 0))]) ++ [.inl (dA 0, N, .inl (fun _ => 0))]))
theorem ln_X2 (N : Nat) (dA : Nat → ClassId) (b : Nat) : (wX2 N dA b).length = 3 := rfl
def rm_X2_init_20 : Room := { frames := 1, cells := 2, slots := 42, locals := 12 }
set_option maxRecDepth 100000 in
theorem c_X2_init_20 : CK yX2_init cX2_init 2 rm_X2_init_20 [.int (20 : Int32)] (.inr (2, dfX2)) (wX2 21) := by
  refine CK_of (by decide) rfl (fun _ => Nat.le_of_ble_eq_true rfl) (fun X C K => ?_)
  have C : KC X 2 cX2_init RX2 rm_X2_init_20 := C
  show KJ X 2 0 [(0, .ref (kA X)), (1, .int (20 : Int32))] [] [.inr (2, [.null, .null, .int 0])] 0 0
  refine k_aload_n C dX2_init_0 0 rfl rfl ?_
  refine k_objInit C kw_157 kw_128 kw_129 ⟨(Nat.le_of_ble_eq_true rfl), (Nat.le_of_ble_eq_true rfl)⟩ dX2_init_1 ?_
  refine k_aload_n C dX2_init_4 0 rfl rfl ?_
  refine k_iload_n C dX2_init_5 1 rfl rfl ?_
  refine k_iconst (v := (1 : Int32)) C dX2_init_6 (by decide) ?_
  refine k_iadd C dX2_init_7 ?_
  refine k_newa (ws' := .inr (2, [.null, .null, .int 0]) :: ([] ++ [.inl (kD X 0, 21, .inl (fun _ => 0))])) (a := kA X + 1) C 0 (Or.inl ⟨rfl, rfl⟩) rfl kw_151 21 (by decide) (by decide) (by decide) (Nat.le_of_ble_eq_true rfl) (Nat.le_of_ble_eq_true rfl) (by simp only [List.length_cons, List.length_append, List.length_nil]) rfl dX2_init_8 ?_
  refine k_putF (ws' := (.inr (2, [.ref (kA X + 1), .null, .int 0]) :: ([] ++ [.inl (kD X 0, 21, .inl (fun _ => 0))]))) C K.1 kX2 0 rfl rfl 0 (by decide) kw_158 rfl rfl rfl rfl (Nat.le_of_ble_eq_true rfl) rfl dX2_init_10 ?_
  refine k_aload_n C dX2_init_13 0 rfl rfl ?_
  refine k_iload_n C dX2_init_14 1 rfl rfl ?_
  refine k_iconst (v := (1 : Int32)) C dX2_init_15 (by decide) ?_
  refine k_iadd C dX2_init_16 ?_
  refine k_newa (ws' := .inr (2, [.ref (kA X + 1), .null, .int 0]) :: (([] ++ [.inl (kD X 0, 21, .inl (fun _ => 0))]) ++ [.inl (kD X 0, 21, .inl (fun _ => 0))])) (a := kA X + 2) C 0 (Or.inl ⟨rfl, rfl⟩) rfl kw_151 21 (by decide) (by decide) (by decide) (Nat.le_of_ble_eq_true rfl) (Nat.le_of_ble_eq_true rfl) (by simp only [List.length_cons, List.length_append, List.length_nil]) rfl dX2_init_17 ?_
  refine k_putF (ws' := (.inr (2, [.ref (kA X + 1), .ref (kA X + 2), .int 0]) :: (([] ++ [.inl (kD X 0, 21, .inl (fun _ => 0))]) ++ [.inl (kD X 0, 21, .inl (fun _ => 0))]))) C K.1 kX2 0 rfl rfl 1 (by decide) kw_161 rfl rfl rfl rfl (Nat.le_of_ble_eq_true rfl) rfl dX2_init_19 ?_
  exact k_ret C K rfl rfl rfl dX2_init_22
def rm_X2_init_60 : Room := { frames := 1, cells := 2, slots := 122, locals := 12 }
set_option maxRecDepth 100000 in
theorem c_X2_init_60 : CK yX2_init cX2_init 2 rm_X2_init_60 [.int (60 : Int32)] (.inr (2, dfX2)) (wX2 61) := by
  refine CK_of (by decide) rfl (fun _ => Nat.le_of_ble_eq_true rfl) (fun X C K => ?_)
  have C : KC X 2 cX2_init RX2 rm_X2_init_60 := C
  show KJ X 2 0 [(0, .ref (kA X)), (1, .int (60 : Int32))] [] [.inr (2, [.null, .null, .int 0])] 0 0
  refine k_aload_n C dX2_init_0 0 rfl rfl ?_
  refine k_objInit C kw_157 kw_128 kw_129 ⟨(Nat.le_of_ble_eq_true rfl), (Nat.le_of_ble_eq_true rfl)⟩ dX2_init_1 ?_
  refine k_aload_n C dX2_init_4 0 rfl rfl ?_
  refine k_iload_n C dX2_init_5 1 rfl rfl ?_
  refine k_iconst (v := (1 : Int32)) C dX2_init_6 (by decide) ?_
  refine k_iadd C dX2_init_7 ?_
  refine k_newa (ws' := .inr (2, [.null, .null, .int 0]) :: ([] ++ [.inl (kD X 0, 61, .inl (fun _ => 0))])) (a := kA X + 1) C 0 (Or.inl ⟨rfl, rfl⟩) rfl kw_151 61 (by decide) (by decide) (by decide) (Nat.le_of_ble_eq_true rfl) (Nat.le_of_ble_eq_true rfl) (by simp only [List.length_cons, List.length_append, List.length_nil]) rfl dX2_init_8 ?_
  refine k_putF (ws' := (.inr (2, [.ref (kA X + 1), .null, .int 0]) :: ([] ++ [.inl (kD X 0, 61, .inl (fun _ => 0))]))) C K.1 kX2 0 rfl rfl 0 (by decide) kw_158 rfl rfl rfl rfl (Nat.le_of_ble_eq_true rfl) rfl dX2_init_10 ?_
  refine k_aload_n C dX2_init_13 0 rfl rfl ?_
  refine k_iload_n C dX2_init_14 1 rfl rfl ?_
  refine k_iconst (v := (1 : Int32)) C dX2_init_15 (by decide) ?_
  refine k_iadd C dX2_init_16 ?_
  refine k_newa (ws' := .inr (2, [.ref (kA X + 1), .null, .int 0]) :: (([] ++ [.inl (kD X 0, 61, .inl (fun _ => 0))]) ++ [.inl (kD X 0, 61, .inl (fun _ => 0))])) (a := kA X + 2) C 0 (Or.inl ⟨rfl, rfl⟩) rfl kw_151 61 (by decide) (by decide) (by decide) (Nat.le_of_ble_eq_true rfl) (Nat.le_of_ble_eq_true rfl) (by simp only [List.length_cons, List.length_append, List.length_nil]) rfl dX2_init_17 ?_
  refine k_putF (ws' := (.inr (2, [.ref (kA X + 1), .ref (kA X + 2), .int 0]) :: (([] ++ [.inl (kD X 0, 61, .inl (fun _ => 0))]) ++ [.inl (kD X 0, 61, .inl (fun _ => 0))]))) C K.1 kX2 0 rfl rfl 1 (by decide) kw_161 rfl rfl rfl rfl (Nat.le_of_ble_eq_true rfl) rfl dX2_init_19 ?_
  exact k_ret C K rfl rfl rfl dX2_init_22
def rm_X2_init_12 : Room := { frames := 1, cells := 2, slots := 26, locals := 12 }
set_option maxRecDepth 100000 in
theorem c_X2_init_12 : CK yX2_init cX2_init 2 rm_X2_init_12 [.int (12 : Int32)] (.inr (2, dfX2)) (wX2 13) := by
  refine CK_of (by decide) rfl (fun _ => Nat.le_of_ble_eq_true rfl) (fun X C K => ?_)
  have C : KC X 2 cX2_init RX2 rm_X2_init_12 := C
  show KJ X 2 0 [(0, .ref (kA X)), (1, .int (12 : Int32))] [] [.inr (2, [.null, .null, .int 0])] 0 0
  refine k_aload_n C dX2_init_0 0 rfl rfl ?_
  refine k_objInit C kw_157 kw_128 kw_129 ⟨(Nat.le_of_ble_eq_true rfl), (Nat.le_of_ble_eq_true rfl)⟩ dX2_init_1 ?_
  refine k_aload_n C dX2_init_4 0 rfl rfl ?_
  refine k_iload_n C dX2_init_5 1 rfl rfl ?_
  refine k_iconst (v := (1 : Int32)) C dX2_init_6 (by decide) ?_
  refine k_iadd C dX2_init_7 ?_
  refine k_newa (ws' := .inr (2, [.null, .null, .int 0]) :: ([] ++ [.inl (kD X 0, 13, .inl (fun _ => 0))])) (a := kA X + 1) C 0 (Or.inl ⟨rfl, rfl⟩) rfl kw_151 13 (by decide) (by decide) (by decide) (Nat.le_of_ble_eq_true rfl) (Nat.le_of_ble_eq_true rfl) (by simp only [List.length_cons, List.length_append, List.length_nil]) rfl dX2_init_8 ?_
  refine k_putF (ws' := (.inr (2, [.ref (kA X + 1), .null, .int 0]) :: ([] ++ [.inl (kD X 0, 13, .inl (fun _ => 0))]))) C K.1 kX2 0 rfl rfl 0 (by decide) kw_158 rfl rfl rfl rfl (Nat.le_of_ble_eq_true rfl) rfl dX2_init_10 ?_
  refine k_aload_n C dX2_init_13 0 rfl rfl ?_
  refine k_iload_n C dX2_init_14 1 rfl rfl ?_
  refine k_iconst (v := (1 : Int32)) C dX2_init_15 (by decide) ?_
  refine k_iadd C dX2_init_16 ?_
  refine k_newa (ws' := .inr (2, [.ref (kA X + 1), .null, .int 0]) :: (([] ++ [.inl (kD X 0, 13, .inl (fun _ => 0))]) ++ [.inl (kD X 0, 13, .inl (fun _ => 0))])) (a := kA X + 2) C 0 (Or.inl ⟨rfl, rfl⟩) rfl kw_151 13 (by decide) (by decide) (by decide) (Nat.le_of_ble_eq_true rfl) (Nat.le_of_ble_eq_true rfl) (by simp only [List.length_cons, List.length_append, List.length_nil]) rfl dX2_init_17 ?_
  refine k_putF (ws' := (.inr (2, [.ref (kA X + 1), .ref (kA X + 2), .int 0]) :: (([] ++ [.inl (kD X 0, 13, .inl (fun _ => 0))]) ++ [.inl (kD X 0, 13, .inl (fun _ => 0))]))) C K.1 kX2 0 rfl rfl 1 (by decide) kw_161 rfl rfl rfl rfl (Nat.le_of_ble_eq_true rfl) rfl dX2_init_19 ?_
  exact k_ret C K rfl rfl rfl dX2_init_22
theorem cwk_3_11 : CwJ RX3 11 yX8_init "StageHouse" cX8_init 1 0 := ⟨by decide +kernel, kw_139, kw_103, kw_140, rfl, by decide +kernel⟩
theorem cwk_3_20 : CwI RX3 20 yX2_init cX2_init 2 1 := ⟨kw_154, kw_155, kw_104, kw_156, rfl, by decide +kernel⟩
def wX3 (dA : Nat → ClassId) (b : Nat) : List va_E := (.inr (3, [.ref (b + 1), .ref (b + 3), .ref (b + 6), .ref (b + 9), .ref (b + 12)]) :: ((((([] ++ wX8 dA (b + 1)) ++ wX2 21 dA (b + 3)) ++ wX2 61 dA (b + 6)) ++ wX2 61 dA (b + 9)) ++ wX2 13 dA (b + 12)))
theorem ln_X3 (dA : Nat → ClassId) (b : Nat) : (wX3  dA b).length = 15 := by
  unfold wX3
  simp only [List.length_cons, List.length_append, List.length_nil, ln_X8, ln_X2]
def rm_X3_init : Room := { frames := 2, cells := 14, slots := 1826, locals := 33 }
set_option maxRecDepth 100000 in
theorem c_X3_init : CK yX3_init cX3_init 1 rm_X3_init [] (.inr (3, dfX3)) wX3 := by
  refine CK_of (by decide) rfl (fun _ => Nat.le_of_ble_eq_true rfl) (fun X C K => ?_)
  have C : KC X 1 cX3_init RX3 rm_X3_init := C
  show KJ X 1 0 [(0, .ref (kA X))] [] [.inr (3, [.null, .null, .null, .null, .null])] 0 0
  refine k_aload_n C dX3_init_0 0 rfl rfl ?_
  refine k_objInit C kw_135 kw_128 kw_129 ⟨(Nat.le_of_ble_eq_true rfl), (Nat.le_of_ble_eq_true rfl)⟩ dX3_init_1 ?_
  refine k_aload_n C dX3_init_4 0 rfl rfl ?_
  refine k_new (fs := dfX8) (ws' := .inr (3, [.null, .null, .null, .null, .null]) :: ([] ++ [.inr (8, dfX8)])) (a := kA X + 1) C kX8 kw_136 kw_137 kw_103 dfX8_ok (Nat.le_of_ble_eq_true rfl) (Nat.le_of_ble_eq_true rfl) (by simp only [List.length_cons, List.length_append, List.length_nil]) rfl dX3_init_5 ?_
  refine k_dup C dX3_init_8 rfl ?_
  refine k_callJ (ws' := .inr (3, [.null, .null, .null, .null, .null]) :: ([] ++ wX8 (kD X) (kA X + 1))) (As := []) (rest := [.ref (kA X + 1), .ref (kA X)]) (a := kA X + 1) C c_X8_init cwk_3_11 ⟨(Nat.le_of_ble_eq_true rfl), (Nat.le_of_ble_eq_true rfl)⟩ ⟨(Nat.le_of_ble_eq_true rfl), (Nat.le_of_ble_eq_true rfl)⟩ rfl (.inr (3, [.null, .null, .null, .null, .null]) :: []) rfl (by simp only [List.length_cons, List.length_append, List.length_nil, ln_X8]) rfl rfl (Nat.le_of_ble_eq_true rfl) dX3_init_9 ?_
  refine k_putF (ws' := (.inr (3, [.ref (kA X + 1), .null, .null, .null, .null]) :: ([] ++ wX8 (kD X) (kA X + 1)))) C K.1 kX3 0 rfl rfl 0 (by decide) kw_173 rfl rfl rfl rfl (Nat.le_of_ble_eq_true rfl) rfl dX3_init_12 ?_
  refine k_aload_n C dX3_init_15 0 rfl rfl ?_
  refine k_new (fs := dfX2) (ws' := .inr (3, [.ref (kA X + 1), .null, .null, .null, .null]) :: (([] ++ wX8 (kD X) (kA X + 1)) ++ [.inr (2, dfX2)])) (a := kA X + 3) C kX2 kw_152 kw_153 kw_104 dfX2_ok (Nat.le_of_ble_eq_true rfl) (Nat.le_of_ble_eq_true rfl) (by simp only [List.length_cons, List.length_append, List.length_nil, ln_X8]) rfl dX3_init_16 ?_
  refine k_dup C dX3_init_19 rfl ?_
  refine k_bipush (v := (20 : Int32)) C dX3_init_20 (by decide) ?_
  refine k_callI (ws' := .inr (3, [.ref (kA X + 1), .null, .null, .null, .null]) :: (([] ++ wX8 (kD X) (kA X + 1)) ++ wX2 21 (kD X) (kA X + 3))) (As := [.int (20 : Int32)]) (rest := [.ref (kA X + 3), .ref (kA X)]) (a := kA X + 3) C c_X2_init_20 cwk_3_20 ⟨(Nat.le_of_ble_eq_true rfl), (Nat.le_of_ble_eq_true rfl)⟩ ⟨(Nat.le_of_ble_eq_true rfl), (Nat.le_of_ble_eq_true rfl)⟩ rfl (.inr (3, [.ref (kA X + 1), .null, .null, .null, .null]) :: ([] ++ wX8 (kD X) (kA X + 1))) rfl (by simp only [List.length_cons, List.length_append, List.length_nil, ln_X2, ln_X8]) rfl rfl (Nat.le_of_ble_eq_true rfl) dX3_init_22 ?_
  refine k_putF (ws' := (.inr (3, [.ref (kA X + 1), .ref (kA X + 3), .null, .null, .null]) :: (([] ++ wX8 (kD X) (kA X + 1)) ++ wX2 21 (kD X) (kA X + 3)))) C K.1 kX3 0 rfl rfl 1 (by decide) kw_177 rfl rfl rfl rfl (Nat.le_of_ble_eq_true rfl) rfl dX3_init_25 ?_
  refine k_aload_n C dX3_init_28 0 rfl rfl ?_
  refine k_new (fs := dfX2) (ws' := .inr (3, [.ref (kA X + 1), .ref (kA X + 3), .null, .null, .null]) :: ((([] ++ wX8 (kD X) (kA X + 1)) ++ wX2 21 (kD X) (kA X + 3)) ++ [.inr (2, dfX2)])) (a := kA X + 6) C kX2 kw_152 kw_153 kw_104 dfX2_ok (Nat.le_of_ble_eq_true rfl) (Nat.le_of_ble_eq_true rfl) (by simp only [List.length_cons, List.length_append, List.length_nil, ln_X2, ln_X8]) rfl dX3_init_29 ?_
  refine k_dup C dX3_init_32 rfl ?_
  refine k_bipush (v := (60 : Int32)) C dX3_init_33 (by decide) ?_
  refine k_callI (ws' := .inr (3, [.ref (kA X + 1), .ref (kA X + 3), .null, .null, .null]) :: ((([] ++ wX8 (kD X) (kA X + 1)) ++ wX2 21 (kD X) (kA X + 3)) ++ wX2 61 (kD X) (kA X + 6))) (As := [.int (60 : Int32)]) (rest := [.ref (kA X + 6), .ref (kA X)]) (a := kA X + 6) C c_X2_init_60 cwk_3_20 ⟨(Nat.le_of_ble_eq_true rfl), (Nat.le_of_ble_eq_true rfl)⟩ ⟨(Nat.le_of_ble_eq_true rfl), (Nat.le_of_ble_eq_true rfl)⟩ rfl (.inr (3, [.ref (kA X + 1), .ref (kA X + 3), .null, .null, .null]) :: (([] ++ wX8 (kD X) (kA X + 1)) ++ wX2 21 (kD X) (kA X + 3))) rfl (by simp only [List.length_cons, List.length_append, List.length_nil, ln_X2, ln_X8]) rfl rfl (Nat.le_of_ble_eq_true rfl) dX3_init_35 ?_
  refine k_putF (ws' := (.inr (3, [.ref (kA X + 1), .ref (kA X + 3), .ref (kA X + 6), .null, .null]) :: ((([] ++ wX8 (kD X) (kA X + 1)) ++ wX2 21 (kD X) (kA X + 3)) ++ wX2 61 (kD X) (kA X + 6)))) C K.1 kX3 0 rfl rfl 2 (by decide) kw_180 rfl rfl rfl rfl (Nat.le_of_ble_eq_true rfl) rfl dX3_init_38 ?_
  refine k_aload_n C dX3_init_41 0 rfl rfl ?_
  refine k_new (fs := dfX2) (ws' := .inr (3, [.ref (kA X + 1), .ref (kA X + 3), .ref (kA X + 6), .null, .null]) :: (((([] ++ wX8 (kD X) (kA X + 1)) ++ wX2 21 (kD X) (kA X + 3)) ++ wX2 61 (kD X) (kA X + 6)) ++ [.inr (2, dfX2)])) (a := kA X + 9) C kX2 kw_152 kw_153 kw_104 dfX2_ok (Nat.le_of_ble_eq_true rfl) (Nat.le_of_ble_eq_true rfl) (by simp only [List.length_cons, List.length_append, List.length_nil, ln_X2, ln_X8]) rfl dX3_init_42 ?_
  refine k_dup C dX3_init_45 rfl ?_
  refine k_bipush (v := (60 : Int32)) C dX3_init_46 (by decide) ?_
  refine k_callI (ws' := .inr (3, [.ref (kA X + 1), .ref (kA X + 3), .ref (kA X + 6), .null, .null]) :: (((([] ++ wX8 (kD X) (kA X + 1)) ++ wX2 21 (kD X) (kA X + 3)) ++ wX2 61 (kD X) (kA X + 6)) ++ wX2 61 (kD X) (kA X + 9))) (As := [.int (60 : Int32)]) (rest := [.ref (kA X + 9), .ref (kA X)]) (a := kA X + 9) C c_X2_init_60 cwk_3_20 ⟨(Nat.le_of_ble_eq_true rfl), (Nat.le_of_ble_eq_true rfl)⟩ ⟨(Nat.le_of_ble_eq_true rfl), (Nat.le_of_ble_eq_true rfl)⟩ rfl (.inr (3, [.ref (kA X + 1), .ref (kA X + 3), .ref (kA X + 6), .null, .null]) :: ((([] ++ wX8 (kD X) (kA X + 1)) ++ wX2 21 (kD X) (kA X + 3)) ++ wX2 61 (kD X) (kA X + 6))) rfl (by simp only [List.length_cons, List.length_append, List.length_nil, ln_X2, ln_X8]) rfl rfl (Nat.le_of_ble_eq_true rfl) dX3_init_48 ?_
  refine k_putF (ws' := (.inr (3, [.ref (kA X + 1), .ref (kA X + 3), .ref (kA X + 6), .ref (kA X + 9), .null]) :: (((([] ++ wX8 (kD X) (kA X + 1)) ++ wX2 21 (kD X) (kA X + 3)) ++ wX2 61 (kD X) (kA X + 6)) ++ wX2 61 (kD X) (kA X + 9)))) C K.1 kX3 0 rfl rfl 3 (by decide) kw_184 rfl rfl rfl rfl (Nat.le_of_ble_eq_true rfl) rfl dX3_init_51 ?_
  refine k_aload_n C dX3_init_54 0 rfl rfl ?_
  refine k_new (fs := dfX2) (ws' := .inr (3, [.ref (kA X + 1), .ref (kA X + 3), .ref (kA X + 6), .ref (kA X + 9), .null]) :: ((((([] ++ wX8 (kD X) (kA X + 1)) ++ wX2 21 (kD X) (kA X + 3)) ++ wX2 61 (kD X) (kA X + 6)) ++ wX2 61 (kD X) (kA X + 9)) ++ [.inr (2, dfX2)])) (a := kA X + 12) C kX2 kw_152 kw_153 kw_104 dfX2_ok (Nat.le_of_ble_eq_true rfl) (Nat.le_of_ble_eq_true rfl) (by simp only [List.length_cons, List.length_append, List.length_nil, ln_X2, ln_X8]) rfl dX3_init_55 ?_
  refine k_dup C dX3_init_58 rfl ?_
  refine k_bipush (v := (12 : Int32)) C dX3_init_59 (by decide) ?_
  refine k_callI (ws' := .inr (3, [.ref (kA X + 1), .ref (kA X + 3), .ref (kA X + 6), .ref (kA X + 9), .null]) :: ((((([] ++ wX8 (kD X) (kA X + 1)) ++ wX2 21 (kD X) (kA X + 3)) ++ wX2 61 (kD X) (kA X + 6)) ++ wX2 61 (kD X) (kA X + 9)) ++ wX2 13 (kD X) (kA X + 12))) (As := [.int (12 : Int32)]) (rest := [.ref (kA X + 12), .ref (kA X)]) (a := kA X + 12) C c_X2_init_12 cwk_3_20 ⟨(Nat.le_of_ble_eq_true rfl), (Nat.le_of_ble_eq_true rfl)⟩ ⟨(Nat.le_of_ble_eq_true rfl), (Nat.le_of_ble_eq_true rfl)⟩ rfl (.inr (3, [.ref (kA X + 1), .ref (kA X + 3), .ref (kA X + 6), .ref (kA X + 9), .null]) :: (((([] ++ wX8 (kD X) (kA X + 1)) ++ wX2 21 (kD X) (kA X + 3)) ++ wX2 61 (kD X) (kA X + 6)) ++ wX2 61 (kD X) (kA X + 9))) rfl (by simp only [List.length_cons, List.length_append, List.length_nil, ln_X2, ln_X8]) rfl rfl (Nat.le_of_ble_eq_true rfl) dX3_init_61 ?_
  refine k_putF (ws' := (.inr (3, [.ref (kA X + 1), .ref (kA X + 3), .ref (kA X + 6), .ref (kA X + 9), .ref (kA X + 12)]) :: ((((([] ++ wX8 (kD X) (kA X + 1)) ++ wX2 21 (kD X) (kA X + 3)) ++ wX2 61 (kD X) (kA X + 6)) ++ wX2 61 (kD X) (kA X + 9)) ++ wX2 13 (kD X) (kA X + 12)))) C K.1 kX3 0 rfl rfl 4 (by decide) kw_188 rfl rfl rfl rfl (Nat.le_of_ble_eq_true rfl) rfl dX3_init_64 ?_
  exact k_ret C K rfl rfl rfl dX3_init_67
def wX6 (dA : Nat → ClassId) (b : Nat) : List va_E := (.inr (6, [.int 0, .int 0, .int 0, .int 0, .int 0, .int 0, .ref (b + 1)]) :: ([] ++ [.inl (dA 0, 4, .inl (fun _ => 0))]))
theorem ln_X6 (dA : Nat → ClassId) (b : Nat) : (wX6  dA b).length = 2 := by
  unfold wX6
  simp only [List.length_cons, List.length_append, List.length_nil, ln_X8, ln_X2, ln_X3]
def rm_X6_init : Room := { frames := 1, cells := 1, slots := 4, locals := 12 }
set_option maxRecDepth 100000 in
theorem c_X6_init : CK yX6_init cX6_init 1 rm_X6_init [] (.inr (6, dfX6)) wX6 := by
  refine CK_of (by decide) rfl (fun _ => Nat.le_of_ble_eq_true rfl) (fun X C K => ?_)
  have C : KC X 1 cX6_init RX6 rm_X6_init := C
  show KJ X 1 0 [(0, .ref (kA X))] [] [.inr (6, [.int 0, .int 0, .int 0, .int 0, .int 0, .int 0, .null])] 0 0
  refine k_aload_n C dX6_init_0 0 rfl rfl ?_
  refine k_objInit C kw_245 kw_128 kw_129 ⟨(Nat.le_of_ble_eq_true rfl), (Nat.le_of_ble_eq_true rfl)⟩ dX6_init_1 ?_
  refine k_aload_n C dX6_init_4 0 rfl rfl ?_
  refine k_iconst (v := (4 : Int32)) C dX6_init_5 (by decide) ?_
  refine k_newa (ws' := .inr (6, [.int 0, .int 0, .int 0, .int 0, .int 0, .int 0, .null]) :: ([] ++ [.inl (kD X 0, 4, .inl (fun _ => 0))])) (a := kA X + 1) C 0 (Or.inl ⟨rfl, rfl⟩) rfl kw_151 4 (by decide) (by decide) (by decide) (Nat.le_of_ble_eq_true rfl) (Nat.le_of_ble_eq_true rfl) (by simp only [List.length_cons, List.length_append, List.length_nil]) rfl dX6_init_6 ?_
  refine k_putF (ws' := (.inr (6, [.int 0, .int 0, .int 0, .int 0, .int 0, .int 0, .ref (kA X + 1)]) :: ([] ++ [.inl (kD X 0, 4, .inl (fun _ => 0))]))) C K.1 kX6 0 rfl rfl 6 (by decide) kw_259 rfl rfl rfl rfl (Nat.le_of_ble_eq_true rfl) rfl dX6_init_8 ?_
  exact k_ret C K rfl rfl rfl dX6_init_11
def wX0 (dA : Nat → ClassId) (b : Nat) : List va_E := (.inr (0, [.int 0, .int 0, .int 0, .int 0, .int 0, .int 0, .int 0]) :: [])
theorem ln_X0 (dA : Nat → ClassId) (b : Nat) : (wX0  dA b).length = 1 := by
  unfold wX0
  simp only [List.length_cons, List.length_append, List.length_nil, ln_X8, ln_X2, ln_X3, ln_X6]
def rm_X0_init : Room := { frames := 1, cells := 0, slots := 0, locals := 12 }
set_option maxRecDepth 100000 in
theorem c_X0_init : CK yX0_init cX0_init 1 rm_X0_init [] (.inr (0, dfX0)) wX0 := by
  refine CK_of (by decide) rfl (fun _ => Nat.le_of_ble_eq_true rfl) (fun X C K => ?_)
  have C : KC X 1 cX0_init RX0 rm_X0_init := C
  show KJ X 1 0 [(0, .ref (kA X))] [] [.inr (0, [.int 0, .int 0, .int 0, .int 0, .int 0, .int 0, .int 0])] 0 0
  refine k_aload_n C dX0_init_0 0 rfl rfl ?_
  refine k_objInit C kw_280 kw_128 kw_129 ⟨(Nat.le_of_ble_eq_true rfl), (Nat.le_of_ble_eq_true rfl)⟩ dX0_init_1 ?_
  exact k_ret C K rfl rfl rfl dX0_init_4
def wX4 (p : Nat) (dA : Nat → ClassId) (b : Nat) : List va_E := (.inr (4, [.int 0, .int 0, .ref p, .ref (b + 1), .int 0, .int 0]) :: ([] ++ [.inl (dA 0, 256, .inl (fun _ => 0))]))
theorem ln_X4 (p : Nat) (dA : Nat → ClassId) (b : Nat) : (wX4 p dA b).length = 2 := by
  unfold wX4
  simp only [List.length_cons, List.length_append, List.length_nil, ln_X8, ln_X2, ln_X3, ln_X6, ln_X0]
def rm_X4_init : Room := { frames := 1, cells := 1, slots := 256, locals := 12 }
set_option maxRecDepth 100000 in
theorem c_X4_init (p : Nat) : CK yX4_init cX4_init 2 rm_X4_init [.ref p] (.inr (4, dfX4)) (wX4 p) := by
  refine CK_of (by decide) rfl (fun _ => Nat.le_of_ble_eq_true rfl) (fun X C K => ?_)
  have C : KC X 2 cX4_init RX4 rm_X4_init := C
  show KJ X 2 0 [(0, .ref (kA X)), (1, .ref p)] [] [.inr (4, [.int 0, .int 0, .null, .null, .int 0, .int 0])] 0 0
  refine k_aload_n C dX4_init_0 0 rfl rfl ?_
  refine k_objInit C kw_209 kw_128 kw_129 ⟨(Nat.le_of_ble_eq_true rfl), (Nat.le_of_ble_eq_true rfl)⟩ dX4_init_1 ?_
  refine k_aload_n C dX4_init_4 0 rfl rfl ?_
  refine k_sipush (v := (256 : Int32)) C dX4_init_5 (by decide) ?_
  refine k_newa (ws' := .inr (4, [.int 0, .int 0, .null, .null, .int 0, .int 0]) :: ([] ++ [.inl (kD X 0, 256, .inl (fun _ => 0))])) (a := kA X + 1) C 0 (Or.inl ⟨rfl, rfl⟩) rfl kw_151 256 (by decide) (by decide) (by decide) (Nat.le_of_ble_eq_true rfl) (Nat.le_of_ble_eq_true rfl) (by simp only [List.length_cons, List.length_append, List.length_nil]) rfl dX4_init_8 ?_
  refine k_putF (ws' := (.inr (4, [.int 0, .int 0, .null, .ref (kA X + 1), .int 0, .int 0]) :: ([] ++ [.inl (kD X 0, 256, .inl (fun _ => 0))]))) C K.1 kX4 0 rfl rfl 3 (by decide) kw_215 rfl rfl rfl rfl (Nat.le_of_ble_eq_true rfl) rfl dX4_init_10 ?_
  refine k_aload_n C dX4_init_13 0 rfl rfl ?_
  refine k_aload_n C dX4_init_14 1 rfl rfl ?_
  refine k_putF (ws' := (.inr (4, [.int 0, .int 0, .ref p, .ref (kA X + 1), .int 0, .int 0]) :: ([] ++ [.inl (kD X 0, 256, .inl (fun _ => 0))]))) C K.1 kX4 0 rfl rfl 2 (by decide) kw_214 rfl rfl rfl rfl (Nat.le_of_ble_eq_true rfl) rfl dX4_init_15 ?_
  exact k_ret C K rfl rfl rfl dX4_init_18
def wX1 (dA : Nat → ClassId) (b : Nat) : List va_E := (.inr (1, [.ref (b + 1), .ref (b + 2), .ref (b + 3), .ref (b + 4), .ref (b + 5), .ref (b + 6)]) :: (((((([] ++ [.inl (dA 0, 21, .inl (fun _ => 0))]) ++ [.inl (dA 0, 336, .inl (fun _ => 0))]) ++ [.inl (dA 0, 336, .inl (fun _ => 0))]) ++ [.inl (dA 0, 336, .inl (fun _ => 0))]) ++ [.inl (dA 0, 336, .inl (fun _ => 0))]) ++ [.inl (dA 0, 336, .inl (fun _ => 0))]))
theorem ln_X1 (dA : Nat → ClassId) (b : Nat) : (wX1  dA b).length = 7 := by
  unfold wX1
  simp only [List.length_cons, List.length_append, List.length_nil, ln_X8, ln_X2, ln_X3, ln_X6, ln_X0, ln_X4]
def rm_X1_init : Room := { frames := 1, cells := 6, slots := 1701, locals := 12 }
set_option maxRecDepth 100000 in
theorem c_X1_init : CK yX1_init cX1_init 1 rm_X1_init [] (.inr (1, dfX1)) wX1 := by
  refine CK_of (by decide) rfl (fun _ => Nat.le_of_ble_eq_true rfl) (fun X C K => ?_)
  have C : KC X 1 cX1_init RX1 rm_X1_init := C
  show KJ X 1 0 [(0, .ref (kA X))] [] [.inr (1, [.null, .null, .null, .null, .null, .null])] 0 0
  refine k_aload_n C dX1_init_0 0 rfl rfl ?_
  refine k_objInit C kw_388 kw_128 kw_129 ⟨(Nat.le_of_ble_eq_true rfl), (Nat.le_of_ble_eq_true rfl)⟩ dX1_init_1 ?_
  refine k_aload_n C dX1_init_4 0 rfl rfl ?_
  refine k_bipush (v := (21 : Int32)) C dX1_init_5 (by decide) ?_
  refine k_newa (ws' := .inr (1, [.null, .null, .null, .null, .null, .null]) :: ([] ++ [.inl (kD X 0, 21, .inl (fun _ => 0))])) (a := kA X + 1) C 0 (Or.inl ⟨rfl, rfl⟩) rfl kw_151 21 (by decide) (by decide) (by decide) (Nat.le_of_ble_eq_true rfl) (Nat.le_of_ble_eq_true rfl) (by simp only [List.length_cons, List.length_append, List.length_nil]) rfl dX1_init_7 ?_
  refine k_putF (ws' := (.inr (1, [.ref (kA X + 1), .null, .null, .null, .null, .null]) :: ([] ++ [.inl (kD X 0, 21, .inl (fun _ => 0))]))) C K.1 kX1 0 rfl rfl 0 (by decide) kw_389 rfl rfl rfl rfl (Nat.le_of_ble_eq_true rfl) rfl dX1_init_9 ?_
  refine k_aload_n C dX1_init_12 0 rfl rfl ?_
  refine k_sipush (v := (336 : Int32)) C dX1_init_13 (by decide) ?_
  refine k_newa (ws' := .inr (1, [.ref (kA X + 1), .null, .null, .null, .null, .null]) :: (([] ++ [.inl (kD X 0, 21, .inl (fun _ => 0))]) ++ [.inl (kD X 0, 336, .inl (fun _ => 0))])) (a := kA X + 2) C 0 (Or.inl ⟨rfl, rfl⟩) rfl kw_151 336 (by decide) (by decide) (by decide) (Nat.le_of_ble_eq_true rfl) (Nat.le_of_ble_eq_true rfl) (by simp only [List.length_cons, List.length_append, List.length_nil]) rfl dX1_init_16 ?_
  refine k_putF (ws' := (.inr (1, [.ref (kA X + 1), .ref (kA X + 2), .null, .null, .null, .null]) :: (([] ++ [.inl (kD X 0, 21, .inl (fun _ => 0))]) ++ [.inl (kD X 0, 336, .inl (fun _ => 0))]))) C K.1 kX1 0 rfl rfl 1 (by decide) kw_390 rfl rfl rfl rfl (Nat.le_of_ble_eq_true rfl) rfl dX1_init_18 ?_
  refine k_aload_n C dX1_init_21 0 rfl rfl ?_
  refine k_sipush (v := (336 : Int32)) C dX1_init_22 (by decide) ?_
  refine k_newa (ws' := .inr (1, [.ref (kA X + 1), .ref (kA X + 2), .null, .null, .null, .null]) :: ((([] ++ [.inl (kD X 0, 21, .inl (fun _ => 0))]) ++ [.inl (kD X 0, 336, .inl (fun _ => 0))]) ++ [.inl (kD X 0, 336, .inl (fun _ => 0))])) (a := kA X + 3) C 0 (Or.inl ⟨rfl, rfl⟩) rfl kw_151 336 (by decide) (by decide) (by decide) (Nat.le_of_ble_eq_true rfl) (Nat.le_of_ble_eq_true rfl) (by simp only [List.length_cons, List.length_append, List.length_nil]) rfl dX1_init_25 ?_
  refine k_putF (ws' := (.inr (1, [.ref (kA X + 1), .ref (kA X + 2), .ref (kA X + 3), .null, .null, .null]) :: ((([] ++ [.inl (kD X 0, 21, .inl (fun _ => 0))]) ++ [.inl (kD X 0, 336, .inl (fun _ => 0))]) ++ [.inl (kD X 0, 336, .inl (fun _ => 0))]))) C K.1 kX1 0 rfl rfl 2 (by decide) kw_391 rfl rfl rfl rfl (Nat.le_of_ble_eq_true rfl) rfl dX1_init_27 ?_
  refine k_aload_n C dX1_init_30 0 rfl rfl ?_
  refine k_sipush (v := (336 : Int32)) C dX1_init_31 (by decide) ?_
  refine k_newa (ws' := .inr (1, [.ref (kA X + 1), .ref (kA X + 2), .ref (kA X + 3), .null, .null, .null]) :: (((([] ++ [.inl (kD X 0, 21, .inl (fun _ => 0))]) ++ [.inl (kD X 0, 336, .inl (fun _ => 0))]) ++ [.inl (kD X 0, 336, .inl (fun _ => 0))]) ++ [.inl (kD X 0, 336, .inl (fun _ => 0))])) (a := kA X + 4) C 0 (Or.inl ⟨rfl, rfl⟩) rfl kw_151 336 (by decide) (by decide) (by decide) (Nat.le_of_ble_eq_true rfl) (Nat.le_of_ble_eq_true rfl) (by simp only [List.length_cons, List.length_append, List.length_nil]) rfl dX1_init_34 ?_
  refine k_putF (ws' := (.inr (1, [.ref (kA X + 1), .ref (kA X + 2), .ref (kA X + 3), .ref (kA X + 4), .null, .null]) :: (((([] ++ [.inl (kD X 0, 21, .inl (fun _ => 0))]) ++ [.inl (kD X 0, 336, .inl (fun _ => 0))]) ++ [.inl (kD X 0, 336, .inl (fun _ => 0))]) ++ [.inl (kD X 0, 336, .inl (fun _ => 0))]))) C K.1 kX1 0 rfl rfl 3 (by decide) kw_392 rfl rfl rfl rfl (Nat.le_of_ble_eq_true rfl) rfl dX1_init_36 ?_
  refine k_aload_n C dX1_init_39 0 rfl rfl ?_
  refine k_sipush (v := (336 : Int32)) C dX1_init_40 (by decide) ?_
  refine k_newa (ws' := .inr (1, [.ref (kA X + 1), .ref (kA X + 2), .ref (kA X + 3), .ref (kA X + 4), .null, .null]) :: ((((([] ++ [.inl (kD X 0, 21, .inl (fun _ => 0))]) ++ [.inl (kD X 0, 336, .inl (fun _ => 0))]) ++ [.inl (kD X 0, 336, .inl (fun _ => 0))]) ++ [.inl (kD X 0, 336, .inl (fun _ => 0))]) ++ [.inl (kD X 0, 336, .inl (fun _ => 0))])) (a := kA X + 5) C 0 (Or.inl ⟨rfl, rfl⟩) rfl kw_151 336 (by decide) (by decide) (by decide) (Nat.le_of_ble_eq_true rfl) (Nat.le_of_ble_eq_true rfl) (by simp only [List.length_cons, List.length_append, List.length_nil]) rfl dX1_init_43 ?_
  refine k_putF (ws' := (.inr (1, [.ref (kA X + 1), .ref (kA X + 2), .ref (kA X + 3), .ref (kA X + 4), .ref (kA X + 5), .null]) :: ((((([] ++ [.inl (kD X 0, 21, .inl (fun _ => 0))]) ++ [.inl (kD X 0, 336, .inl (fun _ => 0))]) ++ [.inl (kD X 0, 336, .inl (fun _ => 0))]) ++ [.inl (kD X 0, 336, .inl (fun _ => 0))]) ++ [.inl (kD X 0, 336, .inl (fun _ => 0))]))) C K.1 kX1 0 rfl rfl 4 (by decide) kw_393 rfl rfl rfl rfl (Nat.le_of_ble_eq_true rfl) rfl dX1_init_45 ?_
  refine k_aload_n C dX1_init_48 0 rfl rfl ?_
  refine k_sipush (v := (336 : Int32)) C dX1_init_49 (by decide) ?_
  refine k_newa (ws' := .inr (1, [.ref (kA X + 1), .ref (kA X + 2), .ref (kA X + 3), .ref (kA X + 4), .ref (kA X + 5), .null]) :: (((((([] ++ [.inl (kD X 0, 21, .inl (fun _ => 0))]) ++ [.inl (kD X 0, 336, .inl (fun _ => 0))]) ++ [.inl (kD X 0, 336, .inl (fun _ => 0))]) ++ [.inl (kD X 0, 336, .inl (fun _ => 0))]) ++ [.inl (kD X 0, 336, .inl (fun _ => 0))]) ++ [.inl (kD X 0, 336, .inl (fun _ => 0))])) (a := kA X + 6) C 0 (Or.inl ⟨rfl, rfl⟩) rfl kw_151 336 (by decide) (by decide) (by decide) (Nat.le_of_ble_eq_true rfl) (Nat.le_of_ble_eq_true rfl) (by simp only [List.length_cons, List.length_append, List.length_nil]) rfl dX1_init_52 ?_
  refine k_putF (ws' := (.inr (1, [.ref (kA X + 1), .ref (kA X + 2), .ref (kA X + 3), .ref (kA X + 4), .ref (kA X + 5), .ref (kA X + 6)]) :: (((((([] ++ [.inl (kD X 0, 21, .inl (fun _ => 0))]) ++ [.inl (kD X 0, 336, .inl (fun _ => 0))]) ++ [.inl (kD X 0, 336, .inl (fun _ => 0))]) ++ [.inl (kD X 0, 336, .inl (fun _ => 0))]) ++ [.inl (kD X 0, 336, .inl (fun _ => 0))]) ++ [.inl (kD X 0, 336, .inl (fun _ => 0))]))) C K.1 kX1 0 rfl rfl 5 (by decide) kw_394 rfl rfl rfl rfl (Nat.le_of_ble_eq_true rfl) rfl dX1_init_54 ?_
  exact k_ret C K rfl rfl rfl dX1_init_57
def wX9 (p : Nat) (g : Nat) (t : Nat) (dA : Nat → ClassId) (b : Nat) : List va_E := (.inr (9, [.ref p, .ref g, .ref t, .ref (b + 1), .int 0, .int 0, .int 0]) :: ([] ++ [.inl (dA 0, 16, .inl (fun _ => 0))]))
theorem ln_X9 (p : Nat) (g : Nat) (t : Nat) (dA : Nat → ClassId) (b : Nat) : (wX9 p g t dA b).length = 2 := by
  unfold wX9
  simp only [List.length_cons, List.length_append, List.length_nil, ln_X8, ln_X2, ln_X3, ln_X6, ln_X0, ln_X4, ln_X1]
def rm_X9_init : Room := { frames := 1, cells := 1, slots := 16, locals := 12 }
set_option maxRecDepth 100000 in
theorem c_X9_init (p g t : Nat) : CK yX9_init cX9_init 4 rm_X9_init [.ref p, .ref g, .ref t] (.inr (9, dfX9)) (wX9 p g t) := by
  refine CK_of (by decide) rfl (fun _ => Nat.le_of_ble_eq_true rfl) (fun X C K => ?_)
  have C : KC X 4 cX9_init RX9 rm_X9_init := C
  show KJ X 4 0 [(0, .ref (kA X)), (1, .ref p), (2, .ref g), (3, .ref t)] [] [.inr (9, [.null, .null, .null, .null, .int 0, .int 0, .int 0])] 0 0
  refine k_aload_n C dX9_init_0 0 rfl rfl ?_
  refine k_objInit C kw_415 kw_128 kw_129 ⟨(Nat.le_of_ble_eq_true rfl), (Nat.le_of_ble_eq_true rfl)⟩ dX9_init_1 ?_
  refine k_aload_n C dX9_init_4 0 rfl rfl ?_
  refine k_bipush (v := (16 : Int32)) C dX9_init_5 (by decide) ?_
  refine k_newa (ws' := .inr (9, [.null, .null, .null, .null, .int 0, .int 0, .int 0]) :: ([] ++ [.inl (kD X 0, 16, .inl (fun _ => 0))])) (a := kA X + 1) C 0 (Or.inl ⟨rfl, rfl⟩) rfl kw_151 16 (by decide) (by decide) (by decide) (Nat.le_of_ble_eq_true rfl) (Nat.le_of_ble_eq_true rfl) (by simp only [List.length_cons, List.length_append, List.length_nil]) rfl dX9_init_7 ?_
  refine k_putF (ws' := (.inr (9, [.null, .null, .null, .ref (kA X + 1), .int 0, .int 0, .int 0]) :: ([] ++ [.inl (kD X 0, 16, .inl (fun _ => 0))]))) C K.1 kX9 0 rfl rfl 3 (by decide) kw_419 rfl rfl rfl rfl (Nat.le_of_ble_eq_true rfl) rfl dX9_init_9 ?_
  refine k_aload_n C dX9_init_12 0 rfl rfl ?_
  refine k_aload_n C dX9_init_13 1 rfl rfl ?_
  refine k_putF (ws' := (.inr (9, [.ref p, .null, .null, .ref (kA X + 1), .int 0, .int 0, .int 0]) :: ([] ++ [.inl (kD X 0, 16, .inl (fun _ => 0))]))) C K.1 kX9 0 rfl rfl 0 (by decide) kw_416 rfl rfl rfl rfl (Nat.le_of_ble_eq_true rfl) rfl dX9_init_14 ?_
  refine k_aload_n C dX9_init_17 0 rfl rfl ?_
  refine k_aload_n C dX9_init_18 2 rfl rfl ?_
  refine k_putF (ws' := (.inr (9, [.ref p, .ref g, .null, .ref (kA X + 1), .int 0, .int 0, .int 0]) :: ([] ++ [.inl (kD X 0, 16, .inl (fun _ => 0))]))) C K.1 kX9 0 rfl rfl 1 (by decide) kw_417 rfl rfl rfl rfl (Nat.le_of_ble_eq_true rfl) rfl dX9_init_19 ?_
  refine k_aload_n C dX9_init_22 0 rfl rfl ?_
  refine k_aload_n C dX9_init_23 3 rfl rfl ?_
  refine k_putF (ws' := (.inr (9, [.ref p, .ref g, .ref t, .ref (kA X + 1), .int 0, .int 0, .int 0]) :: ([] ++ [.inl (kD X 0, 16, .inl (fun _ => 0))]))) C K.1 kX9 0 rfl rfl 2 (by decide) kw_418 rfl rfl rfl rfl (Nat.le_of_ble_eq_true rfl) rfl dX9_init_24 ?_
  exact k_ret C K rfl rfl rfl dX9_init_27
def wX5 (p : Nat) (g : Nat) (t : Nat) (w : Nat) (dA : Nat → ClassId) (b : Nat) : List va_E := (.inr (5, [.ref p, .ref g, .ref t, .ref w, .ref (b + 1), .int 0, .int 0, .int 0, .int 0, .int 0]) :: ([] ++ [.inl (dA 0, 4, .inl (fun _ => 0))]))
theorem ln_X5 (p : Nat) (g : Nat) (t : Nat) (w : Nat) (dA : Nat → ClassId) (b : Nat) : (wX5 p g t w dA b).length = 2 := by
  unfold wX5
  simp only [List.length_cons, List.length_append, List.length_nil, ln_X8, ln_X2, ln_X3, ln_X6, ln_X0, ln_X4, ln_X1, ln_X9]
def rm_X5_init : Room := { frames := 1, cells := 1, slots := 4, locals := 12 }
set_option maxRecDepth 100000 in
theorem c_X5_init (p g t w : Nat) : CK yX5_init cX5_init 5 rm_X5_init [.ref p, .ref g, .ref t, .ref w] (.inr (5, dfX5)) (wX5 p g t w) := by
  refine CK_of (by decide) rfl (fun _ => Nat.le_of_ble_eq_true rfl) (fun X C K => ?_)
  have C : KC X 5 cX5_init RX5 rm_X5_init := C
  show KJ X 5 0 [(0, .ref (kA X)), (1, .ref p), (2, .ref g), (3, .ref t), (4, .ref w)] [] [.inr (5, [.null, .null, .null, .null, .null, .int 0, .int 0, .int 0, .int 0, .int 0])] 0 0
  refine k_aload_n C dX5_init_0 0 rfl rfl ?_
  refine k_objInit C kw_443 kw_128 kw_129 ⟨(Nat.le_of_ble_eq_true rfl), (Nat.le_of_ble_eq_true rfl)⟩ dX5_init_1 ?_
  refine k_aload_n C dX5_init_4 0 rfl rfl ?_
  refine k_iconst (v := (4 : Int32)) C dX5_init_5 (by decide) ?_
  refine k_newa (ws' := .inr (5, [.null, .null, .null, .null, .null, .int 0, .int 0, .int 0, .int 0, .int 0]) :: ([] ++ [.inl (kD X 0, 4, .inl (fun _ => 0))])) (a := kA X + 1) C 0 (Or.inl ⟨rfl, rfl⟩) rfl kw_151 4 (by decide) (by decide) (by decide) (Nat.le_of_ble_eq_true rfl) (Nat.le_of_ble_eq_true rfl) (by simp only [List.length_cons, List.length_append, List.length_nil]) rfl dX5_init_6 ?_
  refine k_putF (ws' := (.inr (5, [.null, .null, .null, .null, .ref (kA X + 1), .int 0, .int 0, .int 0, .int 0, .int 0]) :: ([] ++ [.inl (kD X 0, 4, .inl (fun _ => 0))]))) C K.1 kX5 0 rfl rfl 4 (by decide) kw_448 rfl rfl rfl rfl (Nat.le_of_ble_eq_true rfl) rfl dX5_init_8 ?_
  refine k_aload_n C dX5_init_11 0 rfl rfl ?_
  refine k_aload_n C dX5_init_12 1 rfl rfl ?_
  refine k_putF (ws' := (.inr (5, [.ref p, .null, .null, .null, .ref (kA X + 1), .int 0, .int 0, .int 0, .int 0, .int 0]) :: ([] ++ [.inl (kD X 0, 4, .inl (fun _ => 0))]))) C K.1 kX5 0 rfl rfl 0 (by decide) kw_444 rfl rfl rfl rfl (Nat.le_of_ble_eq_true rfl) rfl dX5_init_13 ?_
  refine k_aload_n C dX5_init_16 0 rfl rfl ?_
  refine k_aload_n C dX5_init_17 2 rfl rfl ?_
  refine k_putF (ws' := (.inr (5, [.ref p, .ref g, .null, .null, .ref (kA X + 1), .int 0, .int 0, .int 0, .int 0, .int 0]) :: ([] ++ [.inl (kD X 0, 4, .inl (fun _ => 0))]))) C K.1 kX5 0 rfl rfl 1 (by decide) kw_445 rfl rfl rfl rfl (Nat.le_of_ble_eq_true rfl) rfl dX5_init_18 ?_
  refine k_aload_n C dX5_init_21 0 rfl rfl ?_
  refine k_aload_n C dX5_init_22 3 rfl rfl ?_
  refine k_putF (ws' := (.inr (5, [.ref p, .ref g, .ref t, .null, .ref (kA X + 1), .int 0, .int 0, .int 0, .int 0, .int 0]) :: ([] ++ [.inl (kD X 0, 4, .inl (fun _ => 0))]))) C K.1 kX5 0 rfl rfl 2 (by decide) kw_446 rfl rfl rfl rfl (Nat.le_of_ble_eq_true rfl) rfl dX5_init_23 ?_
  refine k_aload_n C dX5_init_26 0 rfl rfl ?_
  refine k_aload C dX5_init_27 4 rfl ?_
  refine k_putF (ws' := (.inr (5, [.ref p, .ref g, .ref t, .ref w, .ref (kA X + 1), .int 0, .int 0, .int 0, .int 0, .int 0]) :: ([] ++ [.inl (kD X 0, 4, .inl (fun _ => 0))]))) C K.1 kX5 0 rfl rfl 3 (by decide) kw_447 rfl rfl rfl rfl (Nat.le_of_ble_eq_true rfl) rfl dX5_init_29 ?_
  exact k_ret C K rfl rfl rfl dX5_init_32
