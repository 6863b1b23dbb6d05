/-! ===== constructors: the stage ===== -/
theorem arrV_cg {c : ClassId} {n : Nat} {f g : Nat → Value} (h : ∀ j, j < n → f j = g j) : arrV c n f = arrV c n g := by
  unfold arrV
  congr 2
  funext j
  exact h j.val j.isLt
def rfA (f : Nat → Option Nat) : (Nat → Int32) ⊕ (Nat → Int64) ⊕ (Nat → UInt32) ⊕ (Nat → UInt64) ⊕ (Nat → Option Nat) := .inr (.inr (.inr (.inr f)))
def w7 (dA : Nat → ClassId) (b : Nat) (f g : Nat → Option Nat) (P : List va_E) : List va_E := .inr (7, [.int 0, .int 1, .int 0, .int 0, .int 0, .int 0, .ref (b + 1), .ref (b + 2), .ref (b + 3), .ref (b + 4), .ref (b + 5), .ref (b + 6), .ref (b + 7), .ref (b + 8)]) :: .inl (dA 0, 64, .inl (fun _ => 0)) :: .inl (dA 0, 64, .inl (fun _ => 0)) :: .inl (dA 0, 18, .inl (fun _ => 0)) :: .inl (dA 0, 61, .inl (fun _ => 0)) :: .inl (dA 0, 61, .inl (fun _ => 0)) :: .inl (dA 0, 21, .inl (fun _ => 0)) :: .inl (dA 2, 8, rfA f) :: .inl (dA 3, 13, rfA g) :: P
theorem ln_w7 (dA : Nat → ClassId) (b : Nat) (f g : Nat → Option Nat) (P : List va_E) : (w7 dA b f g P).length = P.length + 9 := rfl
theorem w7_at (dA : Nat → ClassId) (b : Nat) (f g : Nat → Option Nat) (P : List va_E) (j : Nat) : (w7 dA b f g P)[j + 9]? = P[j]? := rfl
def slp (dA : Nat → ClassId) (b : Nat) : Nat → List va_E
  | 0 => []
  | t + 1 => slp dA b t ++ wX6 dA (b + (2 * t + 9))
def acp (dA : Nat → ClassId) (b : Nat) : Nat → List va_E
  | 0 => slp dA b 8
  | u + 1 => acp dA b u ++ wX0 dA (b + (u + 16 + 9))
theorem ln_slp (dA : Nat → ClassId) (b : Nat) : ∀ t, (slp dA b t).length = 2 * t := by
  intro t
  induction t with
  | zero => rfl
  | succ t ih =>
    show (slp dA b t ++ wX6 dA (b + (2 * t + 9))).length = _
    rw [List.length_append, ih, ln_X6]
    omega
theorem ln_acp (dA : Nat → ClassId) (b : Nat) : ∀ u, (acp dA b u).length = u + 16 := by
  intro u
  induction u with
  | zero => exact ln_slp dA b 8
  | succ u ih =>
    show (acp dA b u ++ wX0 dA (b + (u + 16 + 9))).length = _
    rw [List.length_append, ih, ln_X0]
def fS (b t : Nat) : Nat → Option Nat := fun i => if i < t then some (b + (2 * i + 9)) else none
def fA (b u : Nat) : Nat → Option Nat := fun i => if i < u then some (b + (i + 16 + 9)) else none
theorem fS_up (b t : Nat) : va_up (fS b t) t (some (b + (2 * t + 9))) = fS b (t + 1) := by
  funext i
  unfold va_up fS
  by_cases h : i = t
  · subst h
    rw [if_pos rfl, if_pos (by omega)]
  · rw [if_neg h]
    by_cases h2 : i < t
    · rw [if_pos h2, if_pos (by omega)]
    · rw [if_neg h2, if_neg (by omega)]
theorem fA_up (b t : Nat) : va_up (fA b t) t (some (b + (t + 16 + 9))) = fA b (t + 1) := by
  funext i
  unfold va_up fA
  by_cases h : i = t
  · subst h
    rw [if_pos rfl, if_pos (by omega)]
  · rw [if_neg h]
    by_cases h2 : i < t
    · rw [if_pos h2, if_pos (by omega)]
    · rw [if_neg h2, if_neg (by omega)]
theorem w7_cg {D : va_G} {dA : Nat → ClassId} {b : Nat} {f g f' g' : Nat → Option Nat} {P : List va_E} {H : Heap} (hf : ∀ i, i < 8 → f i = f' i) (hg : ∀ i, i < 13 → g i = g' i) (h : Sq D b (w7 dA b f g P) H) : Sq D b (w7 dA b f' g' P) H := by
  refine ⟨h.1, fun k e he => ?_⟩
  match k, he with
  | 0, he => exact h.2 0 e he
  | 1, he => exact h.2 1 e he
  | 2, he => exact h.2 2 e he
  | 3, he => exact h.2 3 e he
  | 4, he => exact h.2 4 e he
  | 5, he => exact h.2 5 e he
  | 6, he => exact h.2 6 e he
  | 7, he =>
    have h7 : H[b + 7]? = some (vp_cell (dA 2) (8, rfA f)) := h.2 7 _ rfl
    cases he
    show H[b + 7]? = some (vp_cell (dA 2) (8, rfA f'))
    rw [h7]
    unfold rfA
    rw [vp_cell_q, vp_cell_q]
    congr 1
    exact arrV_cg (fun j hj => by rw [hf j hj])
  | 8, he =>
    have h8 : H[b + 8]? = some (vp_cell (dA 3) (13, rfA g)) := h.2 8 _ rfl
    cases he
    show H[b + 8]? = some (vp_cell (dA 3) (13, rfA g'))
    rw [h8]
    unfold rfA
    rw [vp_cell_q, vp_cell_q]
    congr 1
    exact arrV_cg (fun j hj => by rw [hg j hj])
  | k + 9, he => exact h.2 (k + 9) e he
/-- a stage as its constructor leaves it -/
def wX7 (dA : Nat → ClassId) (b : Nat) : List va_E := w7 dA b (fun i => some (b + (2 * i + 9))) (fun i => some (b + (i + 16 + 9))) (acp dA b 13)
theorem ln_X7 (dA : Nat → ClassId) (b : Nat) : (wX7 dA b).length = 38 := by
  unfold wX7
  rw [ln_w7, ln_acp]
def rm_X7_init : Room := { frames := 2, cells := 37, slots := 489, locals := 32 }
theorem k_widen {X : KtT} {nL pc : Nat} {L : List (Nat × Value)} {st : List Value} {ws : List va_E} {nc ns nc' ns' : Nat} (h1 : nc ≤ nc') (h2 : ns ≤ ns') (h : KJ X nL pc L st ws nc' ns') : KJ X nL pc L st ws nc ns := fun H locs ls hl hP hS => W.widen h1 h2 (h H locs ls hl hP hS)
theorem cwk_7_46 : CwJ RX7 46 yX6_init "StageHouse" cX6_init 1 0 := ⟨by decide +kernel, kw_243, kw_107, kw_244, rfl, by decide +kernel⟩
theorem cwk_7_47 : CwJ RX7 47 yX0_init "StageHouse" cX0_init 1 0 := ⟨by decide +kernel, kw_278, kw_108, kw_279, rfl, by decide +kernel⟩
set_option maxRecDepth 100000 in
theorem lb_X7_104 {X : KtT} (C : KC X 2 cX7_init RX7 rm_X7_init) (K : KI0 X rm_X7_init wX7) : ∀ (d u : Nat), u + d = 13 → KJ X 2 104 [(0, .ref (kA X)), (1, .int (nI u))] [] (w7 (kD X) (kA X) (fS (kA X) 8) (fA (kA X) u) (acp (kD X) (kA X) u)) (24 + u) (398 + 7 * u) := by
  intro d
  induction d with
  | zero =>
    intro u hu
    have e : u = 13 := by omega
    subst e
    refine k_iload_n C dX7_init_104 1 rfl rfl ?_
    refine k_bipush (v := (12 : Int32)) C dX7_init_105 (by decide) ?_
    refine k_icmp_gt (tgt := 129) C dX7_init_107 (by decide) (fun _ => ?_) (fun h => absurd (show (12 : Int32) < nI 13 by decide) h)
    refine k_upd (ws' := wX7 (kD X) (kA X)) (w1 := wX7) (w2 := wX7) (fun D H hq => w7_cg (fun i hi => if_pos hi) (fun i hi => if_pos hi) hq) ?_
    exact k_ret C K rfl rfl rfl dX7_init_129
  | succ d ih =>
    intro u hu
    refine k_iload_n C dX7_init_104 1 rfl rfl ?_
    refine k_bipush (v := (12 : Int32)) C dX7_init_105 (by decide) ?_
    refine k_icmp_gt (tgt := 129) C dX7_init_107 (by decide) (fun h => absurd h (nI_nlt (a := 12) (show u ≤ 12 by omega) (by decide))) (fun _ => ?_)
    refine k_aload_n C dX7_init_110 0 rfl rfl ?_
    refine k_get C kX7 0 rfl rfl 13 (by decide) kw_350 rfl dX7_init_111 ?_
    refine k_iload_n C dX7_init_114 1 rfl rfl ?_
    refine k_new (fs := dfX0) (ws' := w7 (kD X) (kA X) (fS (kA X) 8) (fA (kA X) u) (acp (kD X) (kA X) u ++ [.inr (0, dfX0)])) (a := kA X + (u + 16 + 9)) C kX0 kw_239 kw_276 kw_108 dfX0_ok (by show 24 + u + 1 ≤ 37; omega) (by show 398 + 7 * u + 7 ≤ 489; omega) (by rw [ln_w7, ln_acp]) rfl dX7_init_115 ?_
    refine k_dup C dX7_init_118 rfl ?_
    refine k_callJ (ws' := w7 (kD X) (kA X) (fS (kA X) 8) (fA (kA X) u) (acp (kD X) (kA X) (u + 1))) (As := []) (rest := [.ref (kA X + (u + 16 + 9)), .int (nI u), .ref (kA X + 8)]) (a := kA X + (u + 16 + 9)) C c_X0_init cwk_7_47 ⟨Nat.le_of_ble_eq_true rfl, Nat.le_of_ble_eq_true rfl⟩ ⟨by show 24 + u + 1 + 0 ≤ 37; omega, by show 398 + 7 * u + 7 + 0 ≤ 489; omega⟩ rfl (w7 (kD X) (kA X) (fS (kA X) 8) (fA (kA X) u) (acp (kD X) (kA X) u)) rfl (by rw [ln_w7, ln_acp]) rfl rfl (Nat.le_of_ble_eq_true rfl) dX7_init_119 ?_
    refine k_astq (r := (RX0, TX0, 7)) (n := 13) (ci := 0) (f := fA (kA X) u) (vs := [.int 0, .int 0, .int 0, .int 0, .int 0, .int 0, .int 0]) (ws' := w7 (kD X) (kA X) (fS (kA X) 8) (va_up (fA (kA X) u) u (some (kA X + (u + 16 + 9)))) (acp (kD X) (kA X) (u + 1))) C 8 (u + 16 + 9) 3 rfl rfl rfl rfl ?_ rfl (show u < 13 by omega) rfl (by decide) rfl dX7_init_122 ?_
    · rw [w7_at]
      show (acp (kD X) (kA X) u ++ wX0 (kD X) (kA X + (u + 16 + 9)))[u + 16]? = _
      rw [List.getElem?_append_right (by rw [ln_acp]; exact Nat.le_refl _), ln_acp, Nat.sub_self]
      rfl
    · rw [fA_up]
      refine k_iinc (v' := nI (u + 1)) (L' := [(0, .ref (kA X)), (1, .int (nI (u + 1)))]) C dX7_init_123 1 rfl (by decide) (by rw [show Int32.ofInt 1 = (1 : Int32) by decide]; exact nI_1 u) [1, 0] rfl ?_
      refine k_goto (tgt := 104) C dX7_init_126 (by decide) ?_
      refine k_widen ?_ ?_ (ih (u + 1) (by omega))
      · show 24 + u + 1 + 0 ≤ 24 + (u + 1); omega
      · show 398 + 7 * u + 7 + 0 ≤ 398 + 7 * (u + 1); omega
set_option maxRecDepth 100000 in
theorem lb_X7_77 {X : KtT} (C : KC X 2 cX7_init RX7 rm_X7_init) (K : KI0 X rm_X7_init wX7) : ∀ (d t : Nat), t + d = 8 → KJ X 2 77 [(0, .ref (kA X)), (1, .int (nI t))] [] (w7 (kD X) (kA X) (fS (kA X) t) (fun _ => none) (slp (kD X) (kA X) t)) (8 + 2 * t) (310 + 11 * t) := by
  intro d
  induction d with
  | zero =>
    intro t ht
    have e : t = 8 := by omega
    subst e
    refine k_iload_n C dX7_init_77 1 rfl rfl ?_
    refine k_bipush (v := (8 : Int32)) C dX7_init_78 (by decide) ?_
    refine k_icmp_ge (tgt := 102) C dX7_init_80 (by decide) (fun _ => ?_) (fun h => absurd (show (8 : Int32) ≤ nI 8 by decide) h)
    refine k_iconst (v := (0 : Int32)) C dX7_init_102 (by decide) ?_
    refine k_istore_n (L' := [(0, .ref (kA X)), (1, .int (nI 0))]) C dX7_init_103 rfl (by decide) [1, 0] rfl ?_
    have h := lb_X7_104 C K 13 0 (by omega)
    rw [show fA (kA X) 0 = fun _ => none from funext (fun i => if_neg (Nat.not_lt_zero i))] at h
    exact h
  | succ d ih =>
    intro t ht
    refine k_iload_n C dX7_init_77 1 rfl rfl ?_
    refine k_bipush (v := (8 : Int32)) C dX7_init_78 (by decide) ?_
    refine k_icmp_ge (tgt := 102) C dX7_init_80 (by decide) (fun h => absurd h (nI_ge (b := 8) (show t < 8 by omega) (by decide))) (fun _ => ?_)
    refine k_aload_n C dX7_init_83 0 rfl rfl ?_
    refine k_get C kX7 0 rfl rfl 12 (by decide) kw_347 rfl dX7_init_84 ?_
    refine k_iload_n C dX7_init_87 1 rfl rfl ?_
    refine k_new (fs := dfX6) (ws' := w7 (kD X) (kA X) (fS (kA X) t) (fun _ => none) (slp (kD X) (kA X) t ++ [.inr (6, dfX6)])) (a := kA X + (2 * t + 9)) C kX6 kw_237 kw_241 kw_107 dfX6_ok (by show 8 + 2 * t + 1 ≤ 37; omega) (by show 310 + 11 * t + 7 ≤ 489; omega) (by rw [ln_w7, ln_slp]) rfl dX7_init_88 ?_
    refine k_dup C dX7_init_91 rfl ?_
    refine k_callJ (ws' := w7 (kD X) (kA X) (fS (kA X) t) (fun _ => none) (slp (kD X) (kA X) (t + 1))) (As := []) (rest := [.ref (kA X + (2 * t + 9)), .int (nI t), .ref (kA X + 7)]) (a := kA X + (2 * t + 9)) C c_X6_init cwk_7_46 ⟨Nat.le_of_ble_eq_true rfl, Nat.le_of_ble_eq_true rfl⟩ ⟨by show 8 + 2 * t + 1 + 1 ≤ 37; omega, by show 310 + 11 * t + 7 + 4 ≤ 489; omega⟩ rfl (w7 (kD X) (kA X) (fS (kA X) t) (fun _ => none) (slp (kD X) (kA X) t)) rfl (by rw [ln_w7, ln_slp]) rfl rfl (Nat.le_of_ble_eq_true rfl) dX7_init_92 ?_
    refine k_astq (r := (RX6, TX6, 7)) (n := 8) (ci := 6) (f := fS (kA X) t) (vs := [.int 0, .int 0, .int 0, .int 0, .int 0, .int 0, .ref (kA X + (2 * t + 9) + 1)]) (ws' := w7 (kD X) (kA X) (va_up (fS (kA X) t) t (some (kA X + (2 * t + 9)))) (fun _ => none) (slp (kD X) (kA X) (t + 1))) C 7 (2 * t + 9) 2 rfl rfl rfl rfl ?_ rfl (show t < 8 by omega) rfl (by decide) rfl dX7_init_95 ?_
    · rw [w7_at]
      show (slp (kD X) (kA X) t ++ wX6 (kD X) (kA X + (2 * t + 9)))[2 * t]? = _
      rw [List.getElem?_append_right (by rw [ln_slp]; exact Nat.le_refl _), ln_slp, Nat.sub_self]
      rfl
    · rw [fS_up]
      refine k_iinc (v' := nI (t + 1)) (L' := [(0, .ref (kA X)), (1, .int (nI (t + 1)))]) C dX7_init_96 1 rfl (by decide) (by rw [show Int32.ofInt 1 = (1 : Int32) by decide]; exact nI_1 t) [1, 0] rfl ?_
      refine k_goto (tgt := 77) C dX7_init_99 (by decide) ?_
      refine k_widen ?_ ?_ (ih (t + 1) (by omega))
      · show 8 + 2 * t + 1 + 1 ≤ 8 + 2 * (t + 1); omega
      · show 310 + 11 * t + 7 + 4 ≤ 310 + 11 * (t + 1); omega
set_option maxRecDepth 100000 in
theorem c_X7_init : CK yX7_init cX7_init 2 rm_X7_init [] (.inr (7, dfX7)) wX7 := by
  refine CK_of (by decide) rfl (fun _ => Nat.le_of_ble_eq_true rfl) (fun X C K => ?_)
  have C : KC X 2 cX7_init RX7 rm_X7_init := C
  show KJ X 2 0 [(0, .ref (kA X))] [] [.inr (7, [.int 0, .int 0, .int 0, .int 0, .int 0, .int 0, .null, .null, .null, .null, .null, .null, .null, .null])] 0 0
  refine k_aload_n C dX7_init_0 0 rfl rfl ?_
  refine k_objInit C kw_236 kw_128 kw_129 ⟨(Nat.le_of_ble_eq_true rfl), (Nat.le_of_ble_eq_true rfl)⟩ dX7_init_1 ?_
  refine k_aload_n C dX7_init_4 0 rfl rfl ?_
  refine k_iconst (v := (1 : Int32)) C dX7_init_5 (by decide) ?_
  refine k_put (ws' := (.inr (7, [.int 0, .int (1 : Int32), .int 0, .int 0, .int 0, .int 0, .null, .null, .null, .null, .null, .null, .null, .null]) :: [])) C kX7 0 rfl rfl 1 (by decide) kw_319 rfl rfl rfl (Nat.le_of_ble_eq_true rfl) rfl dX7_init_6 ?_
  refine k_aload_n C dX7_init_9 0 rfl rfl ?_
  refine k_bipush (v := (64 : Int32)) C dX7_init_10 (by decide) ?_
  refine k_newa (ws' := .inr (7, [.int 0, .int (1 : Int32), .int 0, .int 0, .int 0, .int 0, .null, .null, .null, .null, .null, .null, .null, .null]) :: ([] ++ [.inl (kD X 0, 64, .inl (fun _ => 0))])) (a := kA X + 1) C 0 (Or.inl ⟨rfl, rfl⟩) rfl kw_151 64 (by decide) (by decide) (by decide) (Nat.le_of_ble_eq_true rfl) (Nat.le_of_ble_eq_true rfl) (by simp only [List.length_cons, List.length_append, List.length_nil]) rfl dX7_init_12 ?_
  refine k_putF (ws' := (.inr (7, [.int 0, .int (1 : Int32), .int 0, .int 0, .int 0, .int 0, .ref (kA X + 1), .null, .null, .null, .null, .null, .null, .null]) :: ([] ++ [.inl (kD X 0, 64, .inl (fun _ => 0))]))) C K.1 kX7 0 rfl rfl 6 (by decide) kw_332 rfl rfl rfl rfl (Nat.le_of_ble_eq_true rfl) rfl dX7_init_14 ?_
  refine k_aload_n C dX7_init_17 0 rfl rfl ?_
  refine k_bipush (v := (64 : Int32)) C dX7_init_18 (by decide) ?_
  refine k_newa (ws' := .inr (7, [.int 0, .int (1 : Int32), .int 0, .int 0, .int 0, .int 0, .ref (kA X + 1), .null, .null, .null, .null, .null, .null, .null]) :: (([] ++ [.inl (kD X 0, 64, .inl (fun _ => 0))]) ++ [.inl (kD X 0, 64, .inl (fun _ => 0))])) (a := kA X + 2) C 0 (Or.inl ⟨rfl, rfl⟩) rfl kw_151 64 (by decide) (by decide) (by decide) (Nat.le_of_ble_eq_true rfl) (Nat.le_of_ble_eq_true rfl) (by simp only [List.length_cons, List.length_append, List.length_nil]) rfl dX7_init_20 ?_
  refine k_putF (ws' := (.inr (7, [.int 0, .int (1 : Int32), .int 0, .int 0, .int 0, .int 0, .ref (kA X + 1), .ref (kA X + 2), .null, .null, .null, .null, .null, .null]) :: (([] ++ [.inl (kD X 0, 64, .inl (fun _ => 0))]) ++ [.inl (kD X 0, 64, .inl (fun _ => 0))]))) C K.1 kX7 0 rfl rfl 7 (by decide) kw_335 rfl rfl rfl rfl (Nat.le_of_ble_eq_true rfl) rfl dX7_init_22 ?_
  refine k_aload_n C dX7_init_25 0 rfl rfl ?_
  refine k_bipush (v := (18 : Int32)) C dX7_init_26 (by decide) ?_
  refine k_newa (ws' := .inr (7, [.int 0, .int (1 : Int32), .int 0, .int 0, .int 0, .int 0, .ref (kA X + 1), .ref (kA X + 2), .null, .null, .null, .null, .null, .null]) :: ((([] ++ [.inl (kD X 0, 64, .inl (fun _ => 0))]) ++ [.inl (kD X 0, 64, .inl (fun _ => 0))]) ++ [.inl (kD X 0, 18, .inl (fun _ => 0))])) (a := kA X + 3) C 0 (Or.inl ⟨rfl, rfl⟩) rfl kw_151 18 (by decide) (by decide) (by decide) (Nat.le_of_ble_eq_true rfl) (Nat.le_of_ble_eq_true rfl) (by simp only [List.length_cons, List.length_append, List.length_nil]) rfl dX7_init_28 ?_
  refine k_putF (ws' := (.inr (7, [.int 0, .int (1 : Int32), .int 0, .int 0, .int 0, .int 0, .ref (kA X + 1), .ref (kA X + 2), .ref (kA X + 3), .null, .null, .null, .null, .null]) :: ((([] ++ [.inl (kD X 0, 64, .inl (fun _ => 0))]) ++ [.inl (kD X 0, 64, .inl (fun _ => 0))]) ++ [.inl (kD X 0, 18, .inl (fun _ => 0))]))) C K.1 kX7 0 rfl rfl 8 (by decide) kw_337 rfl rfl rfl rfl (Nat.le_of_ble_eq_true rfl) rfl dX7_init_30 ?_
  refine k_aload_n C dX7_init_33 0 rfl rfl ?_
  refine k_bipush (v := (61 : Int32)) C dX7_init_34 (by decide) ?_
  refine k_newa (ws' := .inr (7, [.int 0, .int (1 : Int32), .int 0, .int 0, .int 0, .int 0, .ref (kA X + 1), .ref (kA X + 2), .ref (kA X + 3), .null, .null, .null, .null, .null]) :: (((([] ++ [.inl (kD X 0, 64, .inl (fun _ => 0))]) ++ [.inl (kD X 0, 64, .inl (fun _ => 0))]) ++ [.inl (kD X 0, 18, .inl (fun _ => 0))]) ++ [.inl (kD X 0, 61, .inl (fun _ => 0))])) (a := kA X + 4) C 0 (Or.inl ⟨rfl, rfl⟩) rfl kw_151 61 (by decide) (by decide) (by decide) (Nat.le_of_ble_eq_true rfl) (Nat.le_of_ble_eq_true rfl) (by simp only [List.length_cons, List.length_append, List.length_nil]) rfl dX7_init_36 ?_
  refine k_putF (ws' := (.inr (7, [.int 0, .int (1 : Int32), .int 0, .int 0, .int 0, .int 0, .ref (kA X + 1), .ref (kA X + 2), .ref (kA X + 3), .ref (kA X + 4), .null, .null, .null, .null]) :: (((([] ++ [.inl (kD X 0, 64, .inl (fun _ => 0))]) ++ [.inl (kD X 0, 64, .inl (fun _ => 0))]) ++ [.inl (kD X 0, 18, .inl (fun _ => 0))]) ++ [.inl (kD X 0, 61, .inl (fun _ => 0))]))) C K.1 kX7 0 rfl rfl 9 (by decide) kw_339 rfl rfl rfl rfl (Nat.le_of_ble_eq_true rfl) rfl dX7_init_38 ?_
  refine k_aload_n C dX7_init_41 0 rfl rfl ?_
  refine k_bipush (v := (61 : Int32)) C dX7_init_42 (by decide) ?_
  refine k_newa (ws' := .inr (7, [.int 0, .int (1 : Int32), .int 0, .int 0, .int 0, .int 0, .ref (kA X + 1), .ref (kA X + 2), .ref (kA X + 3), .ref (kA X + 4), .null, .null, .null, .null]) :: ((((([] ++ [.inl (kD X 0, 64, .inl (fun _ => 0))]) ++ [.inl (kD X 0, 64, .inl (fun _ => 0))]) ++ [.inl (kD X 0, 18, .inl (fun _ => 0))]) ++ [.inl (kD X 0, 61, .inl (fun _ => 0))]) ++ [.inl (kD X 0, 61, .inl (fun _ => 0))])) (a := kA X + 5) C 0 (Or.inl ⟨rfl, rfl⟩) rfl kw_151 61 (by decide) (by decide) (by decide) (Nat.le_of_ble_eq_true rfl) (Nat.le_of_ble_eq_true rfl) (by simp only [List.length_cons, List.length_append, List.length_nil]) rfl dX7_init_44 ?_
  refine k_putF (ws' := (.inr (7, [.int 0, .int (1 : Int32), .int 0, .int 0, .int 0, .int 0, .ref (kA X + 1), .ref (kA X + 2), .ref (kA X + 3), .ref (kA X + 4), .ref (kA X + 5), .null, .null, .null]) :: ((((([] ++ [.inl (kD X 0, 64, .inl (fun _ => 0))]) ++ [.inl (kD X 0, 64, .inl (fun _ => 0))]) ++ [.inl (kD X 0, 18, .inl (fun _ => 0))]) ++ [.inl (kD X 0, 61, .inl (fun _ => 0))]) ++ [.inl (kD X 0, 61, .inl (fun _ => 0))]))) C K.1 kX7 0 rfl rfl 10 (by decide) kw_342 rfl rfl rfl rfl (Nat.le_of_ble_eq_true rfl) rfl dX7_init_46 ?_
  refine k_aload_n C dX7_init_49 0 rfl rfl ?_
  refine k_bipush (v := (21 : Int32)) C dX7_init_50 (by decide) ?_
  refine k_newa (ws' := .inr (7, [.int 0, .int (1 : Int32), .int 0, .int 0, .int 0, .int 0, .ref (kA X + 1), .ref (kA X + 2), .ref (kA X + 3), .ref (kA X + 4), .ref (kA X + 5), .null, .null, .null]) :: (((((([] ++ [.inl (kD X 0, 64, .inl (fun _ => 0))]) ++ [.inl (kD X 0, 64, .inl (fun _ => 0))]) ++ [.inl (kD X 0, 18, .inl (fun _ => 0))]) ++ [.inl (kD X 0, 61, .inl (fun _ => 0))]) ++ [.inl (kD X 0, 61, .inl (fun _ => 0))]) ++ [.inl (kD X 0, 21, .inl (fun _ => 0))])) (a := kA X + 6) C 0 (Or.inl ⟨rfl, rfl⟩) rfl kw_151 21 (by decide) (by decide) (by decide) (Nat.le_of_ble_eq_true rfl) (Nat.le_of_ble_eq_true rfl) (by simp only [List.length_cons, List.length_append, List.length_nil]) rfl dX7_init_52 ?_
  refine k_putF (ws' := (.inr (7, [.int 0, .int (1 : Int32), .int 0, .int 0, .int 0, .int 0, .ref (kA X + 1), .ref (kA X + 2), .ref (kA X + 3), .ref (kA X + 4), .ref (kA X + 5), .ref (kA X + 6), .null, .null]) :: (((((([] ++ [.inl (kD X 0, 64, .inl (fun _ => 0))]) ++ [.inl (kD X 0, 64, .inl (fun _ => 0))]) ++ [.inl (kD X 0, 18, .inl (fun _ => 0))]) ++ [.inl (kD X 0, 61, .inl (fun _ => 0))]) ++ [.inl (kD X 0, 61, .inl (fun _ => 0))]) ++ [.inl (kD X 0, 21, .inl (fun _ => 0))]))) C K.1 kX7 0 rfl rfl 11 (by decide) kw_345 rfl rfl rfl rfl (Nat.le_of_ble_eq_true rfl) rfl dX7_init_54 ?_
  refine k_aload_n C dX7_init_57 0 rfl rfl ?_
  refine k_bipush (v := (8 : Int32)) C dX7_init_58 (by decide) ?_
  refine k_newq (Cn := RX6) (ws' := .inr (7, [.int 0, .int (1 : Int32), .int 0, .int 0, .int 0, .int 0, .ref (kA X + 1), .ref (kA X + 2), .ref (kA X + 3), .ref (kA X + 4), .ref (kA X + 5), .ref (kA X + 6), .null, .null]) :: ((((((([] ++ [.inl (kD X 0, 64, .inl (fun _ => 0))]) ++ [.inl (kD X 0, 64, .inl (fun _ => 0))]) ++ [.inl (kD X 0, 18, .inl (fun _ => 0))]) ++ [.inl (kD X 0, 61, .inl (fun _ => 0))]) ++ [.inl (kD X 0, 61, .inl (fun _ => 0))]) ++ [.inl (kD X 0, 21, .inl (fun _ => 0))]) ++ [.inl (kD X 2, 8, .inr (.inr (.inr (.inr (fun _ => none)))))])) (a := kA X + 7) C 2 rfl (fun q => q.1) kw_237 8 (by decide) (by decide) (by decide) (Nat.le_of_ble_eq_true rfl) (Nat.le_of_ble_eq_true rfl) (by simp only [List.length_cons, List.length_append, List.length_nil]) rfl dX7_init_60 ?_
  refine k_putF (ws' := (.inr (7, [.int 0, .int (1 : Int32), .int 0, .int 0, .int 0, .int 0, .ref (kA X + 1), .ref (kA X + 2), .ref (kA X + 3), .ref (kA X + 4), .ref (kA X + 5), .ref (kA X + 6), .ref (kA X + 7), .null]) :: ((((((([] ++ [.inl (kD X 0, 64, .inl (fun _ => 0))]) ++ [.inl (kD X 0, 64, .inl (fun _ => 0))]) ++ [.inl (kD X 0, 18, .inl (fun _ => 0))]) ++ [.inl (kD X 0, 61, .inl (fun _ => 0))]) ++ [.inl (kD X 0, 61, .inl (fun _ => 0))]) ++ [.inl (kD X 0, 21, .inl (fun _ => 0))]) ++ [.inl (kD X 2, 8, .inr (.inr (.inr (.inr (fun _ => none)))))]))) C K.1 kX7 0 rfl rfl 12 (by decide) kw_347 rfl rfl rfl rfl (Nat.le_of_ble_eq_true rfl) rfl dX7_init_63 ?_
  refine k_aload_n C dX7_init_66 0 rfl rfl ?_
  refine k_bipush (v := (13 : Int32)) C dX7_init_67 (by decide) ?_
  refine k_newq (Cn := RX0) (ws' := .inr (7, [.int 0, .int (1 : Int32), .int 0, .int 0, .int 0, .int 0, .ref (kA X + 1), .ref (kA X + 2), .ref (kA X + 3), .ref (kA X + 4), .ref (kA X + 5), .ref (kA X + 6), .ref (kA X + 7), .null]) :: (((((((([] ++ [.inl (kD X 0, 64, .inl (fun _ => 0))]) ++ [.inl (kD X 0, 64, .inl (fun _ => 0))]) ++ [.inl (kD X 0, 18, .inl (fun _ => 0))]) ++ [.inl (kD X 0, 61, .inl (fun _ => 0))]) ++ [.inl (kD X 0, 61, .inl (fun _ => 0))]) ++ [.inl (kD X 0, 21, .inl (fun _ => 0))]) ++ [.inl (kD X 2, 8, .inr (.inr (.inr (.inr (fun _ => none)))))]) ++ [.inl (kD X 3, 13, .inr (.inr (.inr (.inr (fun _ => none)))))])) (a := kA X + 8) C 3 rfl (fun q => q.2) kw_239 13 (by decide) (by decide) (by decide) (Nat.le_of_ble_eq_true rfl) (Nat.le_of_ble_eq_true rfl) (by simp only [List.length_cons, List.length_append, List.length_nil]) rfl dX7_init_69 ?_
  refine k_putF (ws' := (.inr (7, [.int 0, .int (1 : Int32), .int 0, .int 0, .int 0, .int 0, .ref (kA X + 1), .ref (kA X + 2), .ref (kA X + 3), .ref (kA X + 4), .ref (kA X + 5), .ref (kA X + 6), .ref (kA X + 7), .ref (kA X + 8)]) :: (((((((([] ++ [.inl (kD X 0, 64, .inl (fun _ => 0))]) ++ [.inl (kD X 0, 64, .inl (fun _ => 0))]) ++ [.inl (kD X 0, 18, .inl (fun _ => 0))]) ++ [.inl (kD X 0, 61, .inl (fun _ => 0))]) ++ [.inl (kD X 0, 61, .inl (fun _ => 0))]) ++ [.inl (kD X 0, 21, .inl (fun _ => 0))]) ++ [.inl (kD X 2, 8, .inr (.inr (.inr (.inr (fun _ => none)))))]) ++ [.inl (kD X 3, 13, .inr (.inr (.inr (.inr (fun _ => none)))))]))) C K.1 kX7 0 rfl rfl 13 (by decide) kw_350 rfl rfl rfl rfl (Nat.le_of_ble_eq_true rfl) rfl dX7_init_72 ?_
  refine k_iconst (v := (0 : Int32)) C dX7_init_75 (by decide) ?_
  refine k_istore_n (L' := [(0, .ref (kA X)), (1, .int (nI 0))]) C dX7_init_76 rfl (by decide) [1, 0] rfl ?_
  have h := lb_X7_77 C K 8 0 (by omega)
  rw [show fS (kA X) 0 = fun _ => none from funext (fun i => if_neg (Nat.not_lt_zero i))] at h
  exact h
