/-! ===== orders that change the stage, more ===== -/
theorem or_21 {n i c p0 L S B p : Nat} {σ τ : Mem} (h : OC i c p0 L S B p σ τ) (hG : RG i L 21 σ τ) : OR n i S B 21 σ τ := by
  have e0 := hG.1 0 (by decide)
  have e1 := hG.1 1 (by decide)
  have e2 := hG.1 2 (by decide)
  have hi := h.2.1.1
  obtain ⟨k, hk6, hk⟩ := h.1.2.2.2.1.w
  have hm : τ 15 5 = nI k := by rw [h.1.2.2.1.1 5 (by decide), hk]
  have b5 := h.1.2.2.2.2
  by_cases e : k < 6
  · have f : FrC σ (stM (stM (stM (stM σ 36 (3 * k) (σ 119 0)) 36 (3 * k + 1) (σ 119 1)) 36 (3 * k + 2) (σ 119 2)) 33 5 (nI (k + 1))) := fun z hz => by rw [stM_ne (by omega), stM_ne (by omega), stM_ne (by omega), stM_ne (by omega)]
    have g : FrM τ (stM (stM (stM (stM τ 15 (150 + 3 * k) (σ 119 0)) 15 (150 + (3 * k + 1)) (σ 119 1)) 15 (150 + (3 * k + 2)) (σ 119 2)) 15 5 (nI (k + 1))) := ((frA.tr frA).tr frA).tr frA
    refine actg h (fun u _ => ma_21 n u) ?_ ?_ f g ?_ ?_ ?_ ?_
    · rw [pf_21, addS_lt n _ _ _ σ e hk, bd_mk]
    · rw [do_21, ac_21, ← e0, ← e1, ← e2, says_lt n _ _ _ τ e hm, bd_mk, bv_mk]
    · refine h.1.go f g ?_ (h.1.2.2.2.1.say e _ _ _) ?_
      · rw [stM_row, stM_row, stM_row, stM_row]
        exact h.1.2.2.1.say h.1.2.2.2.1 e hk _ _ _
      · rw [stM_far (Or.inr (by decide)), stM_ne (by decide), stM_ne (by decide), stM_ne (by decide)]
        omega
    · rw [stM_ne (by omega), stM_ne (by omega), stM_ne (by omega), stM_ne (by omega)]
    · rw [stM_ne (by omega), stM_ne (by omega), stM_ne (by omega), stM_ne (by omega)]
    · rw [stM_ne (by decide), stM_ne (by decide), stM_ne (by decide), stM_ne (by decide)]
  · have e6 : k = 6 := by omega
    subst e6
    have f : FrC σ (stM σ 33 4 (σ 33 4 + 1)) := fun z hz => stM_ne (by omega)
    refine actg (τ' := stM τ 15 4 (σ 33 4 + 1)) h (fun u _ => ma_21 n u) ?_ ?_ f frA ?_ (stM_far (Or.inl (by omega))) (stM_ne (by omega)) (stM_far (Or.inl (by decide)))
    · rw [pf_21, addS_ge n _ _ _ σ e hk6 hk, bd_mk]
    · rw [do_21, ac_21, says_ge n _ _ _ τ hm, bd_mk, bv_mk, h.1.2.2.1.1 4 (by decide)]
    · refine h.1.go f frA ?_ ?_ ?_
      · rw [stM_row]; exact h.1.2.2.1.sc4 h.1.2.2.2.1.2.1 _
      · exact h.1.2.2.2.1.wr (fun _ => by decide) (fun i h => by omega) (fun a h => by omega) (by decide) (by decide) (by decide)
      · rw [stM_far (Or.inr (by decide))]; omega
theorem StI.note {σ : Mem} {k t N : Nat} {v : Int32} (hI : StI σ 33 t) (hN : N ≤ 480000 * t) (hN2 : N < 2 ^ 31) : StI (stM (stM σ 35 k v) 33 2 (nI N)) 33 t := by
  have h1 : StI (stM σ 35 k v) 33 t := hI.wr (by omega) (fun i h => by omega) (fun a h => by omega) (by decide) (by decide) (by decide)
  obtain ⟨a1, a2, a3, a4, a5, a6, a7⟩ := h1
  generalize stM σ 35 k v = σ' at *
  refine ⟨by rw [stM_far (Or.inr (by decide))]; exact a1, by rw [stM_far (Or.inr (by decide))]; exact a2, by rw [stM_hit, nI_toInt hN2]; omega, by rw [stM_hit, nI_toInt hN2]; omega, ?_, ?_, ?_⟩
  · intro i hi
    have := a5 i hi
    unfold SlotI at this ⊢
    rw [stM_ne (show 33 + 9 + 2 * i ≠ 33 by omega), stM_ne (show 33 + 9 + 2 * i + 1 ≠ 33 by omega), stM_ne (show (23 : Nat) ≠ 33 by decide), stM_ne (show (29 : Nat) ≠ 33 by decide)]
    exact this
  · intro a ha
    have := a6 a ha
    unfold ActI at this ⊢
    rw [stM_ne (show 33 + 25 + a ≠ 33 by omega), stM_ne (show (29 : Nat) ≠ 33 by decide)]
    exact this
  · rw [stM_ne (show 33 + 6 ≠ 33 by decide)]
    exact a7
theorem xr_64 {a : Int32} (h : 0 ≤ a.toInt) : (0 : Int32) ≤ a ^^^ 64 := by
  have m : a.toBitVec.msb = false := by
    rw [BitVec.msb_eq_toInt]
    exact decide_eq_false (fun q => by have q2 : a.toInt < 0 := q; omega)
  have m2 : (a.toBitVec ^^^ 64#32).msb = false := by
    rw [BitVec.msb_xor, m]
    rfl
  rw [BitVec.msb_eq_toInt] at m2
  have m3 := of_decide_eq_false m2
  refine le_T.mpr ?_
  have e : (a ^^^ (64 : Int32)).toInt = (a.toBitVec ^^^ 64#32).toInt := rfl
  rw [e]
  show (0 : Int) ≤ _
  omega
/-- the rest by 64, of a count -/
theorem fm_64 (n : Nat) {N : Nat} (hN : N < 2147483648) (s : Mem) : f_J9_floorMod_7cf53 n (nI N) (64 : Int32) s = some (nI (N % 64), s) := by
  have i2 : nI N - nI N / (64 : Int32) * (64 : Int32) = nI (N % 64) := pk_rem (d := 64) (by omega) (by omega) (by omega)
  unfold f_J9_floorMod_7cf53 b_J9_floorMod_7cf53_18
  rw [ck_t (by decide), i2, lt_eq, if_pos (xr_64 (by rw [nI_toInt (by omega)]; omega))]
theorem or_20 {n i c p0 L S B p : Nat} {σ τ : Mem} (hB : B < 1900000000) (h : OC i c p0 L S B p σ τ) (hG : RG i L 20 σ τ) : OR n i S B 20 σ τ := by
  have e0 := hG.1 0 (by decide)
  have hi := h.2.1.1
  obtain ⟨N, hN0, hk⟩ := h.1.2.2.2.1.nd
  have b5 := h.1.2.2.2.2
  rw [hk, nI_toInt (by omega)] at b5
  have hN : N ≤ B := by omega
  have hm : τ 15 2 = nI N := by rw [h.1.2.2.1.1 2 (by decide), hk]
  have i2 : nI N - nI N / (64 : Int32) * (64 : Int32) = nI (N % 64) := pk_rem (d := 64) (by omega) (by omega) (by omega)
  have hlt : N % 64 < 64 := Nat.mod_lt _ (by omega)
  have i3 : (168 : Int32) + nI (N % 64) = nI (168 + N % 64) := nI_add 168 _
  have f : FrC σ (stM (stM σ 35 (N % 64) (σ 119 0)) 33 2 (nI (N + 1))) := fun z hz => by rw [stM_ne (by omega), stM_ne (by omega)]
  have g : FrM τ (stM (stM τ 15 (168 + N % 64) (σ 119 0)) 15 2 (nI (N + 1))) := frA.tr frA
  refine actg h (fun u _ => ma_20 n u) ?_ ?_ f g ?_ ?_ ?_ ?_
  · rw [pf_20]
    unfold f_X7_addNote
    rw [hk, fm_64 n (by omega), bd_mk, ck_t (inb_nI hlt (by decide)), nI_clamp (by omega), lt_eq, lt_eq, stM_ne (show (33 : Nat) ≠ 33 + 2 by decide), hk, nI_1, bv_mk]
  · rw [do_20, ac_20, ck_t (by decide), hm, i2, i3, ck_t (inb_nI (by omega) (by decide)), nI_clamp (by omega), lt_eq, lt_eq, stM_far (Or.inr (show (2 : Nat) ≠ 168 + N % 64 by omega)), hm, nI_1, ← e0, bv_mk]
  · refine h.1.go f g ?_ (h.1.2.2.2.1.note (by omega) (by omega)) ?_
    · rw [stM_row, stM_row]
      have h1 := h.1.2.2.1.nte (i0 := N % 64) h.1.2.2.2.1.2.1 (σ 119 0) hlt
      refine h1.noted (by rw [stM_ne (by decide)]; exact h.1.2.2.2.1.2.1) _ ?_
      intro j hj hj2
      rw [nI_toInt (by omega)] at hj2
      by_cases e : j = N % 64
      · rw [e, pk_us, stM_hit]
      · rw [pk_un (by omega), stM_far (Or.inr e)]
        refine h.1.2.2.1.2.2.2.2.2.1 j hj ?_
        rw [hk, nI_toInt (by omega)]
        by_cases e2 : j = N
        · exact absurd (by rw [e2, Nat.mod_eq_of_lt (by omega)]) e
        · omega
    · rw [stM_hit, nI_toInt (by omega)]
      omega
  · rw [stM_ne (by omega), stM_ne (by omega)]
  · rw [stM_ne (by omega), stM_ne (by omega)]
  · rw [stM_ne (by decide), stM_ne (by decide)]
theorem or_13 {n i c p0 L S B p : Nat} {σ τ : Mem} (h : OC i c p0 L S B p σ τ) (hG : RG i L 13 σ τ) : OR n i S B 13 σ τ := by
  have e0 := hG.1 0 (by decide)
  have e1 := hG.1 1 (by decide)
  have e2 := hG.1 2 (by decide)
  have e3 := hG.1 3 (by decide)
  have hi := h.2.1.1
  have b5 := h.1.2.2.2.2
  by_cases qa : isA σ (σ 119 0)
  · by_cases qr : 0 ≤ (σ 119 1).toInt ∧ (σ 119 1).toInt ≤ 20
    · have nr1 : ¬ σ 119 1 < 0 := fun q => by have := lt_T.mp q; have z0 : (0 : Int32).toInt = 0 := rfl; omega
      have nr2 : ¬ (20 : Int32) < σ 119 1 := fun q => by have := lt_T.mp q; have z0 : (20 : Int32).toInt = 20 := rfl; omega
      have MA : ∀ u : Mem, (∀ z, z ≠ 15 → u z = τ z) → f_X11_may n (nI 13) u = bd (f_X11_isByte n (σ 119 2) u) fun x6 s5 => if x6 = 0 then some (0, s5) else bd (f_X11_isByte n (σ 119 3) s5) fun x8 s7 => if x8 = 0 then some (0, s7) else some (1, s7) := fun u hu => by
        rw [ma_13, hu 18 (by decide), ← e0, isAM_t n h.1.1 (hu 12 (by decide)) qa, bd_mk, if_neg n10, hu 18 (by decide), ← e1, in_t n _ 0 20 _ (by rw [show (0 : Int64).toInt = 0 from rfl, show (20 : Int64).toInt = 20 from rfl]; exact qr), bd_mk, if_neg n10, hu 18 (by decide), ← e2]
        by_cases y : isY (σ 119 2)
        · rw [yM_t n y, bd_mk, bd_mk, if_neg n10, if_neg n10, hu 18 (by decide), ← e3]
        · rw [yM_f n y, bd_mk, bd_mk, if_pos rfl, if_pos rfl]
      have PF : f_X5_perform n (42 + 2 * i) (nI 13) σ = bd (f_X10_isByte n (σ 119 2) σ) fun x4 s3 => if x4 = 0 then some (2, s3) else bd (f_X10_isByte n (σ 119 3) s3) fun x6 s5 => if x6 = 0 then some (2, s5) else ck (inb (σ 119 0) 13) (lt (41 + 17 + (σ 119 0).toNatClampNeg) fun z7 => bv (f_X0_putAt n z7 (σ 119 1) (σ 119 2) (σ 119 3) s5) fun s8 => some (0, s8)) := by
        rw [pf_13, cs_13, bd_id]
        unfold f_X5_putActor b_X5_putActor_39
        rw [hasA_t n qa, bd_mk, if_neg n10, if_neg nr1, if_neg nr2]
      by_cases qx : isY (σ 119 2)
      · by_cases qy : isY (σ 119 3)
        · obtain ⟨a, ha0, ha, ea, hz⟩ := isA_n qa
          obtain ⟨r, hr, er⟩ : ∃ v, v ≤ 20 ∧ σ 119 1 = nI v := ⟨(σ 119 1).toInt.toNat, by omega, nI_oT (by omega)⟩
          obtain ⟨x, hx, ex⟩ := isY_n qx
          obtain ⟨y, hy, ey⟩ := isY_n qy
          have f : FrC σ (stM (stM (stM (stM (stM (stM σ (58 + a) 0 (nI r)) (58 + a) 1 (nI x)) (58 + a) 2 (nI y)) (58 + a) 4 0) (58 + a) 5 (-1)) (58 + a) 6 (-1)) := fun z hz => by rw [stM_ne (by omega), stM_ne (by omega), stM_ne (by omega), stM_ne (by omega), stM_ne (by omega), stM_ne (by omega)]
          have g : FrM τ (stM (stM (stM (stM τ 15 (232 + 7 * a + 0) (nI r)) 15 (232 + 7 * a + 1) (nI x)) 15 (232 + 7 * a + 2) (nI y)) 15 (232 + 7 * a + 4) 0) := ((frA.tr frA).tr frA).tr frA
          refine actg h (fun u hu => ?_) ?_ ?_ f g ?_ ?_ ?_ ?_
          · rw [MA u hu, yM_t n qx, bd_mk, if_neg n10, yM_t n qy, bd_mk, if_neg n10]
          · rw [PF, yC_t n qx, bd_mk, if_neg n10, yC_t n qy, bd_mk, if_neg n10, ea, ck_t (inb_nI ha (by decide)), nI_clamp (by omega), lt_eq, show 41 + 17 + a = 58 + a by omega]
            unfold f_X0_putAt
            rw [lt_eq, lt_eq, lt_eq, halt_eq, bv_mk, bv_mk, er, ex, ey]
          · rw [do_13, ac_13, ← e0, ← e1, ea, er, aTo_eq n (x := 0) (j := 0) rfl ha (by omega), bv_mk, stM_ne (show (18 : Nat) ≠ 15 by decide), ← e0, ← e2, ea, ex, aTo_eq n (x := 1) (j := 1) rfl ha (by omega), bv_mk, stM_ne (show (18 : Nat) ≠ 15 by decide), stM_ne (show (18 : Nat) ≠ 15 by decide), ← e0, ← e3, ea, ey, aTo_eq n (x := 2) (j := 2) rfl ha (by omega), bv_mk, stM_ne (show (18 : Nat) ≠ 15 by decide), stM_ne (show (18 : Nat) ≠ 15 by decide), stM_ne (show (18 : Nat) ≠ 15 by decide), ← e0, ea, aTo_eq n (x := 4) (j := 4) rfl ha (by omega), bv_mk, bv_mk]
          · refine h.1.go f g ?_ ?_ ?_
            · rw [stM_row, stM_row, stM_row, stM_row]
              have w5 := h.1.2.2.2.1.2.1
              have k1 := h.1.2.2.1.act (i0 := a) (j0 := 0) w5 (nI r) ha (by omega)
              have k2 := k1.act (i0 := a) (j0 := 1) (by rw [stM_ne (by omega)]; exact w5) (nI x) ha (by omega)
              have k3 := k2.act (i0 := a) (j0 := 2) (by rw [stM_ne (by omega), stM_ne (by omega)]; exact w5) (nI y) ha (by omega)
              have k4 := k3.halt (a0 := a) (by rw [stM_ne (by omega), stM_ne (by omega), stM_ne (by omega)]; exact w5) ha
              rw [show 33 + 25 + a = 58 + a by omega, show 236 + 7 * a = 232 + 7 * a + 4 by omega] at k4
              exact k4
            · refine h.1.2.2.2.1.actw ha (Or.inl rfl) (fun k hk => by rw [stM_ne (by omega), stM_ne (by omega), stM_ne (by omega), stM_ne (by omega), stM_ne (by omega), stM_ne (by omega)]) ?_
              rw [show 33 + 25 + a = 58 + a by omega]
              obtain ⟨⟨r', x', y', w, z0, zr, z1, zx, z2, zy, z3, zv⟩, y1, y2, y3⟩ := act_r h.1.2.2.2.1 ha
              have E : ∀ j, stM (stM (stM (stM (stM (stM σ (58 + a) 0 (nI r)) (58 + a) 1 (nI x)) (58 + a) 2 (nI y)) (58 + a) 4 0) (58 + a) 5 (-1)) (58 + a) 6 (-1) (58 + a) j = if j = 6 then -1 else if j = 5 then -1 else if j = 4 then 0 else if j = 2 then nI y else if j = 1 then nI x else if j = 0 then nI r else σ (58 + a) j := fun j => by
                simp only [stM, if_pos]
              have E29 : stM (stM (stM (stM (stM (stM σ (58 + a) 0 (nI r)) (58 + a) 1 (nI x)) (58 + a) 2 (nI y)) (58 + a) 4 0) (58 + a) 5 (-1)) (58 + a) 6 (-1) 29 = σ 29 := by rw [stM_ne (by omega), stM_ne (by omega), stM_ne (by omega), stM_ne (by omega), stM_ne (by omega), stM_ne (by omega)]
              unfold ActI
              rw [E29]
              simp only [E]
              exact ⟨⟨r, x, y, w, rfl, hr, rfl, hx, rfl, hy, z3, zv⟩, okZ0, fun q => absurd (show (0 : Int32) = 1 from q) (by decide), fun _ _ => ⟨rfl, rfl⟩⟩
            · rw [stM_ne (by omega), stM_ne (by omega), stM_ne (by omega), stM_ne (by omega), stM_ne (by omega), stM_ne (by omega)]
              omega
          · rw [stM_ne (by omega), stM_ne (by omega), stM_ne (by omega), stM_ne (by omega), stM_ne (by omega), stM_ne (by omega)]
          · rw [stM_ne (by omega), stM_ne (by omega), stM_ne (by omega), stM_ne (by omega), stM_ne (by omega), stM_ne (by omega)]
          · rw [stM_ne (by decide), stM_ne (by decide), stM_ne (by decide), stM_ne (by decide)]
        · left
          refine ⟨?_, fun u hu => ?_⟩
          · rw [PF, yC_t n qx, bd_mk, if_neg n10, yC_f n qy, bd_mk, if_pos rfl]
          · rw [MA u hu, yM_t n qx, bd_mk, if_neg n10, yM_f n qy, bd_mk, if_pos rfl]
      · left
        refine ⟨?_, fun u hu => ?_⟩
        · rw [PF, yC_f n qx, bd_mk, if_pos rfl]
        · rw [MA u hu, yM_f n qx, bd_mk, if_pos rfl]
    · left
      refine ⟨?_, fun u hu => ?_⟩
      · rw [pf_13, cs_13, bd_id]
        unfold f_X5_putActor b_X5_putActor_39
        rw [hasA_t n qa, bd_mk, if_neg n10]
        by_cases z : σ 119 1 < 0
        · rw [if_pos z]
        · rw [if_neg z, if_pos (lt_T.mpr (by have : ¬ (σ 119 1).toInt < 0 := fun q => z (lt_T.mpr q); have z0 : (20 : Int32).toInt = 20 := rfl; omega))]
      · rw [ma_13, hu 18 (by decide), ← e0, isAM_t n h.1.1 (hu 12 (by decide)) qa, bd_mk, if_neg n10, hu 18 (by decide), ← e1, in_f n _ 0 20 _ (by rw [show (0 : Int64).toInt = 0 from rfl, show (20 : Int64).toInt = 20 from rfl]; exact qr), bd_mk, if_pos rfl]
  · left
    refine ⟨?_, fun u hu => ?_⟩
    · rw [pf_13, cs_13, bd_id]
      unfold f_X5_putActor b_X5_putActor_39
      rw [hasA_f n qa, bd_mk, if_pos rfl]
    · rw [ma_13, hu 18 (by decide), ← e0, isAM_f n h.1.1 (hu 12 (by decide)) qa, bd_mk, if_pos rfl]
/-! a box is shut or opened -/
theorem StR.shut {σ : Mem} {ρ : Nat → Int32} {r b : Nat} {v w : Int32} (h : StR σ 33 ρ) (hw5 : (σ 33 5).toInt ≤ 6) (hr : r < 21) (hb : b < 16) (hv : ∀ i, i < 16 → bitI v i = if i = b then w else bitI (σ 39 r) i) : StR (stM σ 39 r v) 33 (upd ρ (445 + 16 * r + b) w) := by
  obtain ⟨a1, a2, a3, a4, a5, a6, a7, a8, a9, a10, a11⟩ := h
  have e33 : (stM σ 39 r v) 33 = σ 33 := stM_ne (by decide)
  refine ⟨?_, ?_, ?_, ?_, ?_, ?_, ?_, ?_, ?_, ?_, ?_⟩
  · intro j hj
    rw [pk_un (by omega), e33]; exact a1 j hj
  · intro j hj
    rw [pk_un (by omega), stM_ne (by omega)]; exact a2 j hj
  · intro k hk j hj
    rw [pk_un (by omega), stM_ne (by omega)]; exact a3 k hk j hj
  · intro k hk j hj
    rw [pk_un (by omega), stM_ne (by omega)]; exact a4 k hk j hj
  · intro j hj
    rw [e33] at hj
    rw [pk_un (by omega), stM_ne (by omega)]; exact a5 j hj
  · intro j hj hj2
    rw [e33] at hj2
    rw [pk_un (by omega), stM_ne (by omega)]; exact a6 j hj hj2
  · intro a ha j hj
    rw [pk_un (by omega), stM_ne (by omega)]; exact a7 a ha j hj
  · intro a ha
    rw [pk_un (by omega), pk_un (by omega), stM_ne (by omega)]; exact a8 a ha
  · intro o ho
    rw [pk_un (by omega), stM_ne (by omega)]; exact a9 o ho
  · intro o ho
    rw [pk_un (by omega), stM_ne (by omega)]; exact a10 o ho
  · intro r' hr' k hk
    show _ = bitI (stM σ 39 r v 39 r') k
    by_cases e : r' = r
    · subst e
      rw [stM_hit, hv k hk]
      by_cases e2 : k = b
      · subst e2; rw [pk_us, if_pos rfl]
      · rw [pk_un (by omega), if_neg e2]; exact a11 r' hr' k hk
    · rw [pk_un (by omega), stM_far (Or.inr e)]; exact a11 r' hr' k hk
theorem StI.shut {σ : Mem} {t r : Nat} {v : Int32} (hI : StI σ 33 t) (hv : 0 ≤ v.toInt ∧ v.toInt < 65536) : StI (stM σ 39 r v) 33 t := by
  obtain ⟨a1, a2, a3, a4, a5, a6, a7⟩ := hI
  have e33 : (stM σ 39 r v) 33 = σ 33 := stM_ne (by decide)
  refine ⟨by rw [e33]; exact a1, by rw [e33]; exact a2, by rw [e33]; exact a3, by rw [e33]; exact a4, ?_, ?_, ?_⟩
  · intro i hi
    have := a5 i hi
    unfold SlotI at this ⊢
    rw [stM_ne (show 33 + 9 + 2 * i ≠ 39 by omega), stM_ne (show 33 + 9 + 2 * i + 1 ≠ 39 by omega), stM_ne (show (23 : Nat) ≠ 39 by decide), stM_ne (show (29 : Nat) ≠ 39 by decide)]
    exact this
  · intro a ha
    have := a6 a ha
    unfold ActI at this ⊢
    rw [stM_ne (show 33 + 25 + a ≠ 39 by omega), stM_ne (show (29 : Nat) ≠ 39 by decide)]
    exact this
  · intro r' hr'
    show 0 ≤ (stM σ 39 r v 39 r').toInt ∧ (stM σ 39 r v 39 r').toInt < 65536
    by_cases e : r' = r
    · subst e; rw [stM_hit]; exact hv
    · rw [stM_far (Or.inr e)]; exact a7 r' hr'
theorem shutC (n : Nat) {r : Nat} (hr : r < 21) (b l : Int32) (s : Mem) : f_X7_shutBox n 33 (nI r) b l s = some (stM s 39 r (if l = 0 then s 39 r &&& (((1 : Int32) <<< (b &&& 31)) ^^^ (-1)) else s 39 r ||| ((1 : Int32) <<< (b &&& 31)))) := by
  unfold f_X7_shutBox b_X7_shutBox_37
  rw [lt_eq, ck_t (inb_nI hr (by decide)), nI_clamp (by omega)]
  by_cases z : l = 0
  · rw [if_pos z, if_pos z, ck_t (inb_nI hr (by decide))]; rfl
  · rw [if_neg z, if_neg z, ck_t (inb_nI hr (by decide)), ck_t (inb_nI hr (by decide))]; rfl
theorem ix445 (r b : Nat) : (445 : Int32) + nI r * (16 : Int32) + nI b = nI (445 + 16 * r + b) := by
  show nI 445 + nI r * nI 16 + nI b = _
  rw [pk_mul, nI_add, nI_add, Nat.mul_comm r]
theorem or_19 {n i c p0 L S B p : Nat} {σ τ : Mem} (h : OC i c p0 L S B p σ τ) (hG : RG i L 19 σ τ) : OR n i S B 19 σ τ := by
  have e0 := hG.1 0 (by decide)
  have e1 := hG.1 1 (by decide)
  have e2 := hG.1 2 (by decide)
  have hi := h.2.1.1
  have b5 := h.1.2.2.2.2
  have PF : f_X5_perform n (42 + 2 * i) (nI 19) σ = f_X5_shutBox n (σ 119 0) (σ 119 1) (if σ 119 2 = 0 then 0 else 1) σ := by
    rw [pf_19, cs_19, bd_id, bd_id]
    by_cases z : σ 119 2 = 0
    · rw [if_pos z, if_pos z]
    · rw [if_neg z, if_neg z]
  have AC : f_X11_acts n (nI 19) τ = ck (inb (((445 : Int32) + (σ 119 0 * 16)) + σ 119 1) 781) (some (stM τ 15 (((445 : Int32) + (σ 119 0 * 16)) + σ 119 1).toNatClampNeg (if σ 119 2 = 0 then 0 else 1))) := by
    rw [ac_19, ← e0, ← e1, ← e2]
    by_cases z : σ 119 2 = 0
    · rw [if_pos z, if_pos z]; rfl
    · rw [if_neg z, if_neg z]; rfl
  by_cases q : isBx τ (σ 119 0) (σ 119 1)
  · obtain ⟨r, b, hr0, hr, hb, hb16, er, eb⟩ := isBx_nI q h.1.1.cs
    have hI := h.1.2.2.2.1.2.2.2.2.2.2 r hr
    have hL : 0 ≤ (σ 39 r).toInt ∧ (σ 39 r).toInt < 65536 := hI
    have K : ∃ v, (if (if σ 119 2 = 0 then (0 : Int32) else 1) = 0 then σ 39 r &&& (((1 : Int32) <<< (nI b &&& 31)) ^^^ (-1)) else σ 39 r ||| ((1 : Int32) <<< (nI b &&& 31))) = v ∧ (∀ i, i < 32 → tb v i = if i = b then (if σ 119 2 = 0 then false else true) else tb (σ 39 r) i) := by
      refine ⟨_, rfl, fun i hi => ?_⟩
      by_cases z : σ 119 2 = 0
      · rw [if_pos z, if_pos rfl, if_pos z, tb_and, tb_not _ hi, tb_one b hb16 i hi]
        by_cases e : i = b
        · rw [if_pos e]; simp [e]
        · rw [if_neg e]; simp [e]
      · rw [if_neg z, if_neg n10, if_neg z, tb_or, tb_one b hb16 i hi]
        by_cases e : i = b
        · rw [if_pos e]; simp [e]
        · rw [if_neg e]; simp [e]
    obtain ⟨v, ev, hv⟩ := K
    have f : FrC σ (stM σ 39 r v) := fun z hz => stM_ne (by omega)
    refine actg (σ' := stM σ 39 r v) (τ' := stM τ 15 (445 + 16 * r + b) (if σ 119 2 = 0 then 0 else 1)) h (fun u hu => ?_) ?_ ?_ f frA ?_ (stM_far (Or.inl (by omega))) (stM_ne (by omega)) (stM_far (Or.inl (by decide)))
    · have := Classical.propDecidable (isBx τ (σ 119 0) (σ 119 1))
      rw [ma_19, hu 18 (by decide), ← e0, ← e1, isBox_eq h.1.1 n _ _ (hu 4 (by decide)), bd_mk, bz_t q, ckz1]
    · have := Classical.propDecidable (isBx τ (σ 119 0) (σ 119 1))
      rw [PF]
      unfold f_X5_shutBox
      rw [hasBox_eq h.1.1, bd_mk, bz_t q, if_neg n10, er, eb, shutC n hr, ev, bv_mk]
    · rw [do_19, AC, er, eb, ix445, ck_t (inb_nI (by omega) (by decide)), nI_clamp (by omega), bv_mk]
    · refine h.1.go f frA ?_ (h.1.2.2.2.1.shut ?_) ?_
      · rw [stM_row]
        refine h.1.2.2.1.shut h.1.2.2.2.1.2.1 hr hb16 (fun k hk => ?_)
        rw [tb_bit (by omega), tb_bit (by omega), hv k (by omega)]
        by_cases e : k = b
        · rw [if_pos e, if_pos e]
          by_cases z : σ 119 2 = 0
          · rw [if_pos z, if_pos z]; rfl
          · rw [if_neg z, if_neg z]; rfl
        · rw [if_neg e, if_neg e]
      · refine tb_lo (fun k h1 h2 => ?_)
        rw [hv k h2, if_neg (by omega), tb_hi hL h1]
      · rw [stM_ne (by decide)]; omega
  · left
    refine ⟨?_, fun u hu => ?_⟩
    · have := Classical.propDecidable (isBx τ (σ 119 0) (σ 119 1))
      rw [PF]
      unfold f_X5_shutBox
      rw [hasBox_eq h.1.1, bd_mk, bz_f q, if_pos rfl]
    · have := Classical.propDecidable (isBx τ (σ 119 0) (σ 119 1))
      rw [ma_19, hu 18 (by decide), ← e0, ← e1, isBox_eq h.1.1 n _ _ (hu 4 (by decide)), bd_mk, bz_f q, ckz0]
