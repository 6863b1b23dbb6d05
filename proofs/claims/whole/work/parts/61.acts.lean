/-! ===== orders that change the stage ===== -/
/-- an order that changes no slot, and goes on -/
theorem actg {n i c p0 L S B p o : Nat} {σ τ σ' τ' : Mem} (h : OC i c p0 L S B p σ τ) (hm : ∀ u : Mem, (∀ z, z ≠ 15 → u z = τ z) → f_X11_may n (nI o) u = some (1, u)) (hp : f_X5_perform n (42 + 2 * i) (nI o) σ = some (0, σ')) (hd : f_X11_does n (nI o) τ = some (1, τ')) (f : FrC σ σ') (g : FrM τ τ') (t : TI S (B + 1) σ' τ') (hq : σ' (42 + 2 * i) 0 = σ (42 + 2 * i) 0) (h8 : σ' 118 = σ 118) (g4 : τ' 0 34 = τ 0 34) : OR n i S B o σ τ :=
  Or.inr ⟨hm, 0, σ', 1, τ', hp, hd, f, g, t, Or.inl ⟨rfl, rfl, c, p0, L, h.2.1.keep hq (by rw [h8]) (by rw [h8]) g g4⟩⟩
def isY (x : Int32) : Prop := 0 ≤ x.toInt ∧ x.toInt ≤ 255
theorem isY_n {x : Int32} (h : isY x) : ∃ a, a ≤ 255 ∧ x = nI a := ⟨x.toInt.toNat, by have := h.1; have := h.2; omega, nI_oT (by have := h.1; omega)⟩
theorem yC_t (n : Nat) {x : Int32} {s : Mem} (h : isY x) : f_X10_isByte n x s = some (1, s) := by unfold isY at h; rw [isByteC_eq, bz_t h]
theorem yC_f (n : Nat) {x : Int32} {s : Mem} (h : ¬ isY x) : f_X10_isByte n x s = some (0, s) := by unfold isY at h; rw [isByteC_eq, bz_f h]
theorem yM_t (n : Nat) {x : Int32} {s : Mem} (h : isY x) : f_X11_isByte n x s = some (1, s) := by unfold isY at h; rw [isByteM_eq, bz_t h]
theorem yM_f (n : Nat) {x : Int32} {s : Mem} (h : ¬ isY x) : f_X11_isByte n x s = some (0, s) := by unfold isY at h; rw [isByteM_eq, bz_f h]
theorem n10 : ¬ (1 : Int32) = 0 := by decide
theorem frA {τ : Mem} {k : Nat} {v : Int32} : FrM τ (stM τ 15 k v) := ⟨fun z _ b _ _ => stM_ne b, fun j _ => stM_far (Or.inl (by decide))⟩
theorem or_16 {n i c p0 L S B p : Nat} {σ τ : Mem} (h : OC i c p0 L S B p σ τ) (hG : RG i L 16 σ τ) : OR n i S B 16 σ τ := by
  have e0 := hG.1 0 (by decide)
  have e1 := hG.1 1 (by decide)
  have hi := h.2.1.1
  by_cases q : isA σ (σ 119 0)
  · have MA : ∀ u : Mem, (∀ z, z ≠ 15 → u z = τ z) → f_X11_may n (nI 16) u = some (if 0 ≤ (σ 119 1).toInt ∧ (σ 119 1).toInt ≤ 8 then 1 else 0, u) := fun u hu => by
      rw [ma_16, hu 18 (by decide), ← e0, isAM_t n h.1.1 (hu 12 (by decide)) q, bd_mk, if_neg n10, hu 18 (by decide), ← e1, in_eq, bd_mk, show (0 : Int64).toInt = 0 from rfl, show (8 : Int64).toInt = 8 from rfl]
      by_cases z : 0 ≤ (σ 119 1).toInt ∧ (σ 119 1).toInt ≤ 8
      · rw [if_pos z, if_neg n10]
      · rw [if_neg z, if_pos rfl]
    by_cases q2 : 0 ≤ (σ 119 1).toInt ∧ (σ 119 1).toInt ≤ 8
    · obtain ⟨a, ha0, ha, ea, hz⟩ := isA_n q
      obtain ⟨v, hv, ev⟩ : ∃ v, v ≤ 8 ∧ σ 119 1 = nI v := ⟨(σ 119 1).toInt.toNat, by omega, nI_oT (by omega)⟩
      have f : FrC σ (stM σ (58 + a) 3 (nI v)) := fun z hz => stM_ne (by omega)
      have A := act_r h.1.2.2.2.1 ha
      refine actg (σ' := stM σ (58 + a) 3 (nI v)) (τ' := stM τ 15 (232 + 7 * a + 3) (nI v)) h (fun u hu => by rw [MA u hu, if_pos q2]) ?_ ?_ f frA ?_ (stM_far (Or.inl (by omega))) (stM_ne (by omega)) (stM_far (Or.inl (by decide)))
      · rw [pf_16, cs_16, bd_id]
        unfold f_X5_setSpeed
        rw [hasA_t n q, bd_mk, if_neg n10, ea, ev, if_neg (nI_pos (by omega)), if_pos (show nI v ≤ (8 : Int32) from nI_le (a := v) (b := 8) hv (by omega)), ck_t (inb_nI ha (by decide)), nI_clamp (by omega), lt_eq, lt_eq, show 41 + 17 + a = 58 + a by omega]
      · rw [do_16, ac_16, ← e0, ← e1, ea, ev, aTo_eq n (x := 3) (j := 3) rfl ha (by omega), bv_mk, bv_mk]
      · refine h.1.go f frA ?_ ?_ ?_
        · rw [stM_row]
          have := h.1.2.2.1.act (i0 := a) (j0 := 3) h.1.2.2.2.1.2.1 (nI v) ha (by omega)
          rw [show 33 + 25 + a = 58 + a by omega] at this
          exact this
        · refine h.1.2.2.2.1.actw ha (Or.inl rfl) (fun k hk => stM_ne (by omega)) ?_
          rw [show 33 + 25 + a = 58 + a by omega]
          obtain ⟨⟨r, x, y, w, z0, zr, z1, zx, z2, zy, z3, zv⟩, y1, y2, y3⟩ := A
          unfold ActI
          rw [stM_hit, stM_far (Or.inr (show (0 : Nat) ≠ 3 by decide)), stM_far (Or.inr (show (1 : Nat) ≠ 3 by decide)), stM_far (Or.inr (show (2 : Nat) ≠ 3 by decide)), stM_far (Or.inr (show (4 : Nat) ≠ 3 by decide)), stM_far (Or.inr (show (5 : Nat) ≠ 3 by decide)), stM_far (Or.inr (show (6 : Nat) ≠ 3 by decide)), stM_ne (show (29 : Nat) ≠ 58 + a by omega)]
          exact ⟨⟨r, x, y, v, z0, zr, z1, zx, z2, zy, rfl, hv⟩, y1, y2, y3⟩
        · rw [stM_ne (show (33 : Nat) ≠ 58 + a by omega)]
          have := h.1.2.2.2.2
          omega
    · left
      refine ⟨?_, fun u hu => by rw [MA u hu, if_neg q2]⟩
      rw [pf_16, cs_16, bd_id]
      unfold f_X5_setSpeed b_X5_setSpeed_24
      rw [hasA_t n q, bd_mk, if_neg n10]
      by_cases z : σ 119 1 < 0
      · rw [if_pos z]
      · rw [if_neg z, if_neg (fun w => q2 ⟨by have z1 : ¬ (σ 119 1).toInt < 0 := fun q => z (lt_T.mpr q); omega, le_T.mp w⟩)]
  · left
    refine ⟨?_, fun u hu => ?_⟩
    · rw [pf_16, cs_16, bd_id]
      unfold f_X5_setSpeed b_X5_setSpeed_24
      rw [hasA_f n q, bd_mk, if_pos rfl]
    · rw [ma_16, hu 18 (by decide), ← e0, isAM_f n h.1.1 (hu 12 (by decide)) q, bd_mk, if_pos rfl]
theorem or_17 {n i c p0 L S B p : Nat} {σ τ : Mem} (h : OC i c p0 L S B p σ τ) (hG : RG i L 17 σ τ) : OR n i S B 17 σ τ := by
  have e0 := hG.1 0 (by decide)
  have e1 := hG.1 1 (by decide)
  have hi := h.2.1.1
  have hS := h.1.2.1.2.1
  by_cases q : isB σ (σ 119 0)
  · by_cases q2 : isY (σ 119 1)
    · obtain ⟨a, ha0, ha, ea, hz⟩ := isB_n q
      have f : FrC σ (stM σ 37 a (σ 119 1)) := fun z hz => stM_ne (by omega)
      refine actg (σ' := stM σ 37 a (σ 119 1)) (τ' := stM τ 15 (323 + a) (σ 119 1)) h (fun u hu => ?_) ?_ ?_ f frA ?_ (stM_far (Or.inl (by omega))) (stM_ne (by omega)) (stM_far (Or.inl (by decide)))
      · rw [ma_17, hu 18 (by decide), ← e0, isBM_t n h.1.1 hS (hu 8 (by decide)) q, bd_mk, if_neg n10, hu 18 (by decide), ← e1, yM_t n q2, bd_mk, if_neg n10]
      · rw [pf_17, cs_17, bd_id]
        unfold f_X5_setState
        rw [hasB_t n q, bd_mk, if_neg n10, yC_t n q2, bd_mk, if_neg n10, ea, ck_t (inb_nI ha (by decide)), nI_clamp (by omega), lt_eq]
      · rw [do_17, ac_17, ← e0, ← e1, ea, ix323, ck_t (inb_nI (by omega) (by decide)), nI_clamp (by omega), lt_eq, bv_mk]
      · refine h.1.go f frA ?_ ?_ ?_
        · rw [stM_row]
          exact h.1.2.2.1.state h.1.2.2.2.1.2.1 _ ha
        · exact h.1.2.2.2.1.wr (fun q => absurd q (by decide)) (fun i h => by omega) (fun a h => by omega) (by decide) (by decide) (by decide)
        · rw [stM_ne (by decide)]
          have := h.1.2.2.2.2
          omega
    · left
      refine ⟨?_, fun u hu => ?_⟩
      · rw [pf_17, cs_17, bd_id]
        unfold f_X5_setState b_X5_setState_21
        rw [hasB_t n q, bd_mk, if_neg n10, yC_f n q2, bd_mk, if_pos rfl]
      · rw [ma_17, hu 18 (by decide), ← e0, isBM_t n h.1.1 hS (hu 8 (by decide)) q, bd_mk, if_neg n10, hu 18 (by decide), ← e1, yM_f n q2, bd_mk, if_pos rfl]
  · left
    refine ⟨?_, fun u hu => ?_⟩
    · rw [pf_17, cs_17, bd_id]
      unfold f_X5_setState b_X5_setState_21
      rw [hasB_f n q, bd_mk, if_pos rfl]
    · rw [ma_17, hu 18 (by decide), ← e0, isBM_f n h.1.1 hS (hu 8 (by decide)) q, bd_mk, if_pos rfl]
theorem or_18 {n i c p0 L S B p : Nat} {σ τ : Mem} (h : OC i c p0 L S B p σ τ) (hG : RG i L 18 σ τ) : OR n i S B 18 σ τ := by
  have e0 := hG.1 0 (by decide)
  have e1 := hG.1 1 (by decide)
  have hi := h.2.1.1
  have hS := h.1.2.1.2.1
  by_cases q : isB σ (σ 119 0)
  · by_cases q2 : σ 119 1 = 0 ∨ isA σ (σ 119 1)
    · obtain ⟨a, ha0, ha, ea, hz⟩ := isB_n q
      have f : FrC σ (stM σ 38 a (σ 119 1)) := fun z hz => stM_ne (by omega)
      refine actg (σ' := stM σ 38 a (σ 119 1)) (τ' := stM τ 15 (384 + a) (σ 119 1)) h (fun u hu => ?_) ?_ ?_ f frA ?_ (stM_far (Or.inl (by omega))) (stM_ne (by omega)) (stM_far (Or.inl (by decide)))
      · rw [ma_18, hu 18 (by decide), ← e0, isBM_t n h.1.1 hS (hu 8 (by decide)) q, bd_mk, if_neg n10, hu 18 (by decide), ← e1]
        by_cases z : σ 119 1 = 0
        · rw [if_pos z]
        · rw [if_neg z, isAM_t n h.1.1 (hu 12 (by decide)) (q2.resolve_left z), bd_mk, if_neg n10]
      · rw [pf_18, cs_18, bd_id]
        unfold f_X5_setOwner b_X5_setOwner_34
        rw [hasB_t n q, bd_mk, if_neg n10]
        by_cases z : σ 119 1 = 0
        · rw [if_pos z, ea, ck_t (inb_nI ha (by decide)), nI_clamp (by omega), lt_eq]
        · rw [if_neg z, hasA_t n (q2.resolve_left z), bd_mk, if_neg n10, ea, ck_t (inb_nI ha (by decide)), nI_clamp (by omega), lt_eq]
      · rw [do_18, ac_18, ← e0, ← e1, ea, ix384, ck_t (inb_nI (by omega) (by decide)), nI_clamp (by omega), lt_eq, bv_mk]
      · refine h.1.go f frA ?_ ?_ ?_
        · rw [stM_row]
          exact h.1.2.2.1.owner h.1.2.2.2.1.2.1 _ ha
        · exact h.1.2.2.2.1.wr (fun q => absurd q (by decide)) (fun i h => by omega) (fun a h => by omega) (by decide) (by decide) (by decide)
        · rw [stM_ne (by decide)]
          have := h.1.2.2.2.2
          omega
    · left
      have z : ¬ σ 119 1 = 0 := fun w => q2 (Or.inl w)
      have z2 : ¬ isA σ (σ 119 1) := fun w => q2 (Or.inr w)
      refine ⟨?_, fun u hu => ?_⟩
      · rw [pf_18, cs_18, bd_id]
        unfold f_X5_setOwner b_X5_setOwner_32
        rw [hasB_t n q, bd_mk, if_neg n10, if_neg z, hasA_f n z2, bd_mk, if_pos rfl]
      · rw [ma_18, hu 18 (by decide), ← e0, isBM_t n h.1.1 hS (hu 8 (by decide)) q, bd_mk, if_neg n10, hu 18 (by decide), ← e1, if_neg z, isAM_f n h.1.1 (hu 12 (by decide)) z2, bd_mk, if_pos rfl]
  · left
    refine ⟨?_, fun u hu => ?_⟩
    · rw [pf_18, cs_18, bd_id]
      unfold f_X5_setOwner b_X5_setOwner_32
      rw [hasB_f n q, bd_mk, if_pos rfl]
    · rw [ma_18, hu 18 (by decide), ← e0, isBM_f n h.1.1 hS (hu 8 (by decide)) q, bd_mk, if_pos rfl]
theorem or_14 {n i c p0 L S B p : Nat} {σ τ : Mem} (h : OC i c p0 L S B p σ τ) (hG : RG i L 14 σ τ) : OR n i S B 14 σ τ := by
  have e0 := hG.1 0 (by decide)
  have e1 := hG.1 1 (by decide)
  have e2 := hG.1 2 (by decide)
  have hi := h.2.1.1
  by_cases q : isA σ (σ 119 0) ∧ isY (σ 119 1) ∧ isY (σ 119 2)
  · obtain ⟨qa, qx, qy⟩ := id q
    obtain ⟨a, ha0, ha, ea, hz⟩ := isA_n qa
    obtain ⟨x, hx, ex⟩ := isY_n qx
    obtain ⟨y, hy, ey⟩ := isY_n qy
    have f : FrC σ (stM (stM (stM σ (58 + a) 4 1) (58 + a) 5 (nI x)) (58 + a) 6 (nI y)) := fun z hz => by rw [stM_ne (by omega), stM_ne (by omega), stM_ne (by omega)]
    have g : FrM τ (stM (stM (stM τ 15 (236 + 7 * a) 1) 15 (237 + 7 * a) (nI x)) 15 (238 + 7 * a) (nI y)) := (frA.tr frA).tr frA
    refine actg h (fun u hu => ?_) ?_ ?_ f g ?_ ?_ ?_ ?_
    · rw [ma_14, hu 18 (by decide), ← e0, isAM_t n h.1.1 (hu 12 (by decide)) qa, bd_mk, if_neg n10, hu 18 (by decide), ← e1, yM_t n qx, bd_mk, if_neg n10, hu 18 (by decide), ← e2, yM_t n qy, bd_mk, if_neg n10]
    · rw [pf_14, cs_14, send_eq, if_pos (show (0 < (σ 119 0).toInt ∧ (σ 119 0).toInt < 13 ∧ σ 29 (σ 119 0).toNatClampNeg ≠ 0) ∧ (0 ≤ (σ 119 1).toInt ∧ (σ 119 1).toInt ≤ 255) ∧ 0 ≤ (σ 119 2).toInt ∧ (σ 119 2).toInt ≤ 255 from q), bd_mk, if_neg n10, ea, ex, ey, nI_clamp (by omega)]
    · rw [do_14, ac_14, ← e0, ← e1, ← e2, ea, ex, ey, walks_eq n ha, bv_mk, bv_mk]
    · refine h.1.go f g ?_ ?_ ?_
      · rw [stM_row, stM_row, stM_row]
        have := h.1.2.2.1.walk (a0 := a) h.1.2.2.2.1.2.1 (nI x) (nI y) ha
        rw [show 33 + 25 + a = 58 + a by omega] at this
        exact this
      · exact h.1.2.2.2.1.walk ha hz hx hy
      · rw [stM_ne (show (33 : Nat) ≠ 58 + a by omega), stM_ne (show (33 : Nat) ≠ 58 + a by omega), stM_ne (show (33 : Nat) ≠ 58 + a by omega)]
        have := h.1.2.2.2.2
        omega
    · rw [stM_ne (by omega), stM_ne (by omega), stM_ne (by omega)]
    · rw [stM_ne (by omega), stM_ne (by omega), stM_ne (by omega)]
    · rw [stM_ne (by decide), stM_ne (by decide), stM_ne (by decide)]
  · left
    refine ⟨?_, fun u hu => ?_⟩
    · rw [pf_14, cs_14, send_eq, if_neg (show ¬ ((0 < (σ 119 0).toInt ∧ (σ 119 0).toInt < 13 ∧ σ 29 (σ 119 0).toNatClampNeg ≠ 0) ∧ (0 ≤ (σ 119 1).toInt ∧ (σ 119 1).toInt ≤ 255) ∧ 0 ≤ (σ 119 2).toInt ∧ (σ 119 2).toInt ≤ 255) from q), bd_mk, if_pos rfl]
    · rw [ma_14, hu 18 (by decide), ← e0]
      by_cases qa : isA σ (σ 119 0)
      · rw [isAM_t n h.1.1 (hu 12 (by decide)) qa, bd_mk, if_neg n10, hu 18 (by decide), ← e1]
        by_cases qx : isY (σ 119 1)
        · rw [yM_t n qx, bd_mk, if_neg n10, hu 18 (by decide), ← e2, yM_f n (fun w => q ⟨qa, qx, w⟩), bd_mk, if_pos rfl]
        · rw [yM_f n qx, bd_mk, if_pos rfl]
      · rw [isAM_f n h.1.1 (hu 12 (by decide)) qa, bd_mk, if_pos rfl]
