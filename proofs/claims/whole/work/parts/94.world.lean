/-! ===== what the constructors leave is the layout's world ===== -/
def σ00 : Mem := stM (stM (fun _ _ => 0) 33 1 1) 71 1 1
def τ00 : Mem := stM (fun _ _ => 0) 15 1 1
def bl (F : Nat → va_E) (lo n : Nat) : List va_E := (List.range n).map (fun j => F (lo + j))
theorem bl_j (F : Nat → va_E) (lo n m k nm : Nat) (hk : lo + n = k) (hs : n + m = nm) : bl F lo n ++ bl F k m = bl F lo nm := by
  subst hk
  subst hs
  unfold bl
  rw [List.range_add, List.map_append, List.map_map]
  congr 1
  apply List.map_congr_left
  intro j _
  show F (lo + n + j) = F (lo + (n + j))
  rw [Nat.add_assoc]
theorem wl3a (dA : Nat → ClassId) (h : Nat) : wX3 dA (h + 1) = bl (cellY YC dA (adC h) σ00) 1 15 := rfl
theorem wl3b (dA : Nat → ClassId) (h : Nat) : wX3 dA (h + 16) = bl (cellY YC dA (adC h) σ00) 16 15 := rfl
theorem wl4 (dA : Nat → ClassId) (h : Nat) : wX4 (h + 1) dA (h + 31) = bl (cellY YC dA (adC h) σ00) 31 2 := rfl
theorem wl6a (dA : Nat → ClassId) (h : Nat) : ∀ t, t < 8 → wX6 dA (h + 33 + (2 * t + 9)) = bl (cellY YC dA (adC h) σ00) (42 + 2 * t) 2 := by
  intro t ht
  match t, ht with
  | 0, _ => rfl
  | 1, _ => rfl
  | 2, _ => rfl
  | 3, _ => rfl
  | 4, _ => rfl
  | 5, _ => rfl
  | 6, _ => rfl
  | 7, _ => rfl
  | t + 8, ht => exact absurd ht (by omega)
theorem wl0a (dA : Nat → ClassId) (h : Nat) : ∀ u, u < 13 → wX0 dA (h + 33 + (u + 16 + 9)) = bl (cellY YC dA (adC h) σ00) (58 + u) 1 := by
  intro u hu
  match u, hu with
  | 0, _ => rfl
  | 1, _ => rfl
  | 2, _ => rfl
  | 3, _ => rfl
  | 4, _ => rfl
  | 5, _ => rfl
  | 6, _ => rfl
  | 7, _ => rfl
  | 8, _ => rfl
  | 9, _ => rfl
  | 10, _ => rfl
  | 11, _ => rfl
  | 12, _ => rfl
  | u + 13, hu => exact absurd hu (by omega)
theorem wlsa (dA : Nat → ClassId) (h : Nat) : ∀ t, t ≤ 8 → slp dA (h + 33) t = bl (cellY YC dA (adC h) σ00) 42 (2 * t) := by
  intro t
  induction t with
  | zero => intro _; rfl
  | succ t ih =>
    intro ht
    show slp dA (h + 33) t ++ wX6 dA (h + 33 + (2 * t + 9)) = _
    rw [ih (by omega), wl6a dA h t (by omega)]
    exact bl_j _ 42 (2 * t) 2 (42 + 2 * t) (2 * (t + 1)) rfl (by omega)
theorem wlca (dA : Nat → ClassId) (h : Nat) : ∀ u, u ≤ 13 → acp dA (h + 33) u = bl (cellY YC dA (adC h) σ00) 42 (16 + u) := by
  intro u
  induction u with
  | zero => intro _; exact wlsa dA h 8 (by omega)
  | succ u ih =>
    intro hu
    show acp dA (h + 33) u ++ wX0 dA (h + 33 + (u + 16 + 9)) = _
    rw [ih (by omega), wl0a dA h u (by omega)]
    exact bl_j _ 42 (16 + u) 1 (58 + u) (16 + (u + 1)) (by omega) (by omega)
theorem wl8a (dA : Nat → ClassId) (h : Nat) (P : List va_E) : w7 dA (h + 33) (fun i => some (adC h (40 + 2 + 2 * i))) (fun i => some (adC h (41 + 17 + i))) P = bl (cellY YC dA (adC h) σ00) 33 9 ++ P := rfl
theorem wl7a (dA : Nat → ClassId) (h : Nat) : wX7 dA (h + 33) = bl (cellY YC dA (adC h) σ00) 33 38 := by
  unfold wX7
  rw [show (fun i => some (h + 33 + (2 * i + 9)) : Nat → Option Nat) = fun i => some (adC h (40 + 2 + 2 * i)) from funext (fun i => by unfold adC; congr 1; omega), show (fun i => some (h + 33 + (i + 16 + 9)) : Nat → Option Nat) = fun i => some (adC h (41 + 17 + i)) from funext (fun i => by unfold adC; congr 1; omega), wl8a, wlca dA h 13 (by omega)]
  exact bl_j _ 33 9 29 42 38 rfl rfl
theorem wl6b (dA : Nat → ClassId) (h : Nat) : ∀ t, t < 8 → wX6 dA (h + 71 + (2 * t + 9)) = bl (cellY YC dA (adC h) σ00) (80 + 2 * t) 2 := by
  intro t ht
  match t, ht with
  | 0, _ => rfl
  | 1, _ => rfl
  | 2, _ => rfl
  | 3, _ => rfl
  | 4, _ => rfl
  | 5, _ => rfl
  | 6, _ => rfl
  | 7, _ => rfl
  | t + 8, ht => exact absurd ht (by omega)
theorem wl0b (dA : Nat → ClassId) (h : Nat) : ∀ u, u < 13 → wX0 dA (h + 71 + (u + 16 + 9)) = bl (cellY YC dA (adC h) σ00) (96 + u) 1 := by
  intro u hu
  match u, hu with
  | 0, _ => rfl
  | 1, _ => rfl
  | 2, _ => rfl
  | 3, _ => rfl
  | 4, _ => rfl
  | 5, _ => rfl
  | 6, _ => rfl
  | 7, _ => rfl
  | 8, _ => rfl
  | 9, _ => rfl
  | 10, _ => rfl
  | 11, _ => rfl
  | 12, _ => rfl
  | u + 13, hu => exact absurd hu (by omega)
theorem wlsb (dA : Nat → ClassId) (h : Nat) : ∀ t, t ≤ 8 → slp dA (h + 71) t = bl (cellY YC dA (adC h) σ00) 80 (2 * t) := by
  intro t
  induction t with
  | zero => intro _; rfl
  | succ t ih =>
    intro ht
    show slp dA (h + 71) t ++ wX6 dA (h + 71 + (2 * t + 9)) = _
    rw [ih (by omega), wl6b dA h t (by omega)]
    exact bl_j _ 80 (2 * t) 2 (80 + 2 * t) (2 * (t + 1)) rfl (by omega)
theorem wlcb (dA : Nat → ClassId) (h : Nat) : ∀ u, u ≤ 13 → acp dA (h + 71) u = bl (cellY YC dA (adC h) σ00) 80 (16 + u) := by
  intro u
  induction u with
  | zero => intro _; exact wlsb dA h 8 (by omega)
  | succ u ih =>
    intro hu
    show acp dA (h + 71) u ++ wX0 dA (h + 71 + (u + 16 + 9)) = _
    rw [ih (by omega), wl0b dA h u (by omega)]
    exact bl_j _ 80 (16 + u) 1 (96 + u) (16 + (u + 1)) (by omega) (by omega)
theorem wl8b (dA : Nat → ClassId) (h : Nat) (P : List va_E) : w7 dA (h + 71) (fun i => some (adC h (78 + 2 + 2 * i))) (fun i => some (adC h (79 + 17 + i))) P = bl (cellY YC dA (adC h) σ00) 71 9 ++ P := rfl
theorem wl7b (dA : Nat → ClassId) (h : Nat) : wX7 dA (h + 71) = bl (cellY YC dA (adC h) σ00) 71 38 := by
  unfold wX7
  rw [show (fun i => some (h + 71 + (2 * i + 9)) : Nat → Option Nat) = fun i => some (adC h (78 + 2 + 2 * i)) from funext (fun i => by unfold adC; congr 1; omega), show (fun i => some (h + 71 + (i + 16 + 9)) : Nat → Option Nat) = fun i => some (adC h (79 + 17 + i)) from funext (fun i => by unfold adC; congr 1; omega), wl8b, wlcb dA h 13 (by omega)]
  exact bl_j _ 71 9 29 80 38 rfl rfl
theorem wl1 (dA : Nat → ClassId) (h : Nat) : wX1 dA (h + 109) = bl (cellY YC dA (adC h) σ00) 109 7 := rfl
theorem wl9 (dA : Nat → ClassId) (h : Nat) : wX9 (h + 16) (h + 109) (h + 33) dA (h + 116) = bl (cellY YC dA (adC h) σ00) 116 2 := rfl
theorem wl5 (dA : Nat → ClassId) (h : Nat) : wX5 (h + 16) (h + 109) (h + 33) (h + 116) dA (h + 118) = bl (cellY YC dA (adC h) σ00) 118 2 := rfl
theorem wl10 (dA : Nat → ClassId) (h : Nat) : wX10 dA h = bl (cellY YC dA (adC h) σ00) 0 120 := by
  unfold wX10
  rw [wl3a, wl3b, wl4, wl7a, wl7b, wl1, wl9, wl5]
  generalize hF : cellY YC dA (adC h) σ00 = F
  rw [List.nil_append, bl_j F 1 15 15 16 30 rfl rfl, bl_j F 1 30 2 31 32 rfl rfl, bl_j F 1 32 38 33 70 rfl rfl, bl_j F 1 70 38 71 108 rfl rfl, bl_j F 1 108 7 109 115 rfl rfl, bl_j F 1 115 2 116 117 rfl rfl, bl_j F 1 117 2 118 119 rfl rfl]
  rw [← bl_j F 0 1 119 1 120 rfl rfl]
  show _ :: _ = F 0 :: _
  rw [← hF]
  rfl
theorem wl11 (dA : Nat → ClassId) (h : Nat) : wX11 dA (h + 120) = bl (cellY (YM false) dA (adM h) τ00) 0 19 := rfl
theorem bl_get {F : Nat → va_E} {n k : Nat} (hk : k < n) : (bl F 0 n)[k]? = some (F k) := by
  unfold bl
  rw [List.getElem?_map, List.getElem?_range hk]
  show some (F (0 + k)) = _
  rw [Nat.zero_add]
theorem house_P {D : va_G} {dA : Nat → ClassId} {h : Nat} {R : List va_E} {H : Heap} (hs : Sq D h (wX10 dA h ++ R) H) : va_P D vwCl (wsY YC dA (adC h) σ00) H := by
  intro k q hq
  obtain ⟨hk, rfl⟩ := wsY_inv hq
  have hk : k < 120 := hk
  refine hs.2 k _ ?_
  rw [List.getElem?_append_left (by rw [ln_X10]; exact hk), wl10]
  exact bl_get hk
theorem model_P {D : va_G} {dA : Nat → ClassId} {h : Nat} {H : Heap} (hs : Sq D h (wX10 dA h ++ wX11 dA (h + 120)) H) : va_P D vwCl (wsY (YM false) dA (adM h) τ00) H := by
  intro k q hq
  obtain ⟨hk, rfl⟩ := wsY_inv hq
  have hk : k < 19 := hk
  have := hs.2 (120 + k) (cellY (YM false) dA (adM h) τ00 k) (by
    rw [List.getElem?_append_right (by rw [ln_X10]; omega), ln_X10, show 120 + k - 120 = k by omega, wl11]
    exact bl_get hk)
  rw [← Nat.add_assoc] at this
  exact this
/-! ===== at first they are alike ===== -/
theorem s00 {k j : Nat} (h : k ≠ 33 ∧ k ≠ 71 ∨ j ≠ 1) : σ00 k j = 0 := by
  unfold σ00
  rw [stM_far (by omega), stM_far (by omega)]
theorem t00 {k j : Nat} (h : k ≠ 15 ∨ j ≠ 1) : τ00 k j = 0 := stM_far h
theorem Rel0 : Rel 0 σ00 τ00 := by
  refine ⟨0, 0, ⟨⟨s00 (by omega), by omega, fun p hp => absurd hp (Nat.not_lt_zero p)⟩, t00 (by omega)⟩, ⟨⟨s00 (by omega), by omega, fun p hp => absurd hp (Nat.not_lt_zero p)⟩, t00 (by omega)⟩, ?_, ⟨?_, ?_⟩, ⟨?_, ?_, ?_⟩, ?_, ?_⟩
  · refine ⟨⟨rfl, rfl, rfl, rfl⟩, fun q _ => Or.inl ⟨s00 (by omega), t00 (by omega)⟩, fun q _ => Or.inl ⟨s00 (by omega), t00 (by omega)⟩, fun q _ => Or.inl ⟨s00 (by omega), t00 (by omega)⟩, fun r _ => ⟨0, by omega, fun _ => rfl, s00 (by omega), t00 (by omega), fun b hb => absurd hb (Nat.not_lt_zero b)⟩, s00 (by omega), s00 (by omega), s00 (by omega), s00 (by omega)⟩
  · refine ⟨fun j hj => ?_, fun i hi => ?_, fun i hi j hj => ?_, fun i hi j hj => ?_, fun j hj => ?_, fun j _ hj => ?_, fun a ha j hj => ?_, fun a ha e => ?_, fun o ho => ?_, fun o ho => ?_, fun r hr i hi => ?_⟩
    · by_cases e : j = 1
      · subst e; rfl
      · rw [t00 (by omega), s00 (by omega)]
    · rw [t00 (by omega), s00 (by omega)]
    · rw [t00 (by omega), s00 (by omega)]
    · rw [t00 (by omega), s00 (by omega)]
    · rw [s00 (by omega)] at hj
      have z0 : (0 : Int32).toInt = 0 := rfl
      omega
    · rw [s00 (by omega)] at hj
      have z0 : (0 : Int32).toInt = 0 := rfl
      omega
    · rw [t00 (by omega), s00 (by omega)]
    · rw [s00 (by omega)] at e
      exact absurd e (by decide)
    · rw [t00 (by omega), s00 (by omega)]
    · rw [t00 (by omega), s00 (by omega)]
    · rw [t00 (by omega), s00 (by omega), tb_bit (by omega), tb_zero]
      rfl
  · have z0 : (0 : Int32).toInt = 0 := rfl
    refine ⟨by rw [s00 (by omega)]; decide, by rw [s00 (by omega)]; decide, by rw [s00 (by omega)]; decide, by rw [s00 (by omega)]; decide, fun i hi => ?_, fun a ha => ?_, fun r hr => by rw [s00 (by omega)]; decide⟩
    · unfold SlotI
      refine ⟨Or.inl (s00 (by omega)), Or.inl (s00 (by omega)), fun _ => ⟨s00 (by omega), s00 (by omega), s00 (by omega), s00 (by omega), s00 (by omega), fun j hj => s00 (by omega)⟩, fun w => absurd (s00 (by omega)) w, by rw [s00 (by omega)]; decide, by rw [s00 (by omega)]; decide, Or.inl (s00 (by omega))⟩
    · unfold ActI
      refine ⟨⟨0, 0, 0, 0, s00 (by omega), by omega, s00 (by omega), by omega, s00 (by omega), by omega, s00 (by omega), by omega⟩, Or.inl (s00 (by omega)), fun w => ?_, fun _ w => absurd (s00 (by omega)) w⟩
      rw [s00 (by omega)] at w
      exact absurd w (by decide)
  · rw [s00 (by omega), t00 (by omega)]
  · exact Or.inl (s00 (by omega))
  · intro e
    rw [s00 (by omega)] at e
    exact absurd e (by decide)
  · rw [s00 (by omega), t00 (by omega)]
  · rw [s00 (by omega), t00 (by omega)]
