/-! ===== step: both ===== -/
theorem FR_1 {σ τ : Mem} {r a j : Nat} (h : FR σ τ r a j = 1) : j = a := by
  unfold FR FRm at h
  have := gN_at 16 j 0 (by omega) h
  by_cases e : j = a
  · exact e
  · have z : gN (cnt τ r) (oB σ r) (nB τ r) a 0 j = 0 := if_neg e
    omega
theorem FR_o {σ τ : Mem} {r a j : Nat} (ha : a < cnt τ r) (hO : oB σ r a = true) (h : FR σ τ r a j ≠ 0) : j < cnt τ r ∧ oB σ r j = true := by
  unfold FR FRm at h
  rcases gN_supp 16 j h with e | e
  · subst e; exact ⟨ha, hO⟩
  · exact e
theorem FR_sy {σ τ : Mem} {r a b : Nat} (hc : cnt τ r ≤ 16) (ha : a < cnt τ r) (hO : oB σ r a = true) (h : FR σ τ r a b ≠ 0) : FR σ τ r b a ≠ 0 := by
  unfold FR FRm at h ⊢
  exact (gN_sym hc (fun i j _ _ q => nB_sy q) ha hO h).2.2
theorem FR_pr {σ τ : Mem} {r a j k : Nat} (h : FR σ τ r a j = k + 2) : ∃ b, b < cnt τ r ∧ FR σ τ r a b = k + 1 ∧ nB τ r b j = true := by
  unfold FR FRm at h ⊢
  exact gN_pred 16 j k h
/-- one actor's cell is written by a step -/
theorem act_w {S B : Nat} {σ τ s u : Mem} {a r x y v tx ty : Nat} (h : TI S B σ τ) (ha : a < 13) (hs : ∀ z, z ≠ 116 → z ≠ 117 → s z = σ z) (hu : ∀ z, z ≠ 0 → z ≠ 17 → u z = τ z) (hu0 : ∀ j, j < 31 → u 0 j = τ 0 j) {j0 c : Nat} (hj : j0 = 1 ∨ j0 = 2) (hc : c ≤ 255) (z0 : σ (58 + a) 0 = nI r) (zr : r ≤ 20) (z1 : σ (58 + a) 1 = nI x) (zx : x ≤ 255) (z2 : σ (58 + a) 2 = nI y) (zy : y ≤ 255) (z3 : σ (58 + a) 3 = nI v) (zv : v ≤ 8) (z4 : σ (58 + a) 4 = 1) (z5 : σ (58 + a) 5 = nI tx) (zt : tx ≤ 255) (z6 : σ (58 + a) 6 = nI ty) (zu : ty ≤ 255) (z29 : σ 29 a ≠ 0) : FrC σ (stM s (58 + a) j0 (nI c)) ∧ FrM τ (stM u 15 (232 + 7 * a + j0) (nI c)) ∧ TI S B (stM s (58 + a) j0 (nI c)) (stM u 15 (232 + 7 * a + j0) (nI c)) := by
  obtain ⟨h1, h2, h3, h4, h5⟩ := id h
  have f : FrC σ (stM s (58 + a) j0 (nI c)) := fun z hz => by rw [stM_ne (by omega), hs z (by omega) (by omega)]
  have g : FrM τ (stM u 15 (232 + 7 * a + j0) (nI c)) := ⟨fun z a1 a2 a3 a4 => by rw [stM_ne a2, hu z a1 a3], fun j hj => by rw [stM_far (Or.inl (by decide)), hu0 j hj]⟩
  have as : agr σ s 33 (33 + 38) := fun z hz1 hz2 => hs z (by omega) (by omega)
  have e15 : u 15 = τ 15 := hu 15 (by decide) (by decide)
  have sR : StR s 33 (u 15) := by rw [e15]; exact h3.agr as
  have w5 : (s 33 5).toInt ≤ 6 := by rw [hs 33 (by decide) (by decide)]; exact h4.2.1
  refine ⟨f, g, h.go f g ?_ ?_ ?_⟩
  · rw [stM_row]
    have := sR.act (i0 := a) (j0 := j0) w5 (nI c) ha (by omega)
    rw [show 33 + 25 + a = 58 + a by omega] at this
    exact this
  · have sI : StI s 33 4000 := h4.agr as (fun z hz1 hz2 => hs z (by omega) (by omega))
    refine sI.actw ha (Or.inl rfl) (fun k hk => stM_ne (by omega)) ?_
    rw [show 33 + 25 + a = 58 + a by omega]
    have ej : ∀ j, j ≠ j0 → stM s (58 + a) j0 (nI c) (58 + a) j = σ (58 + a) j := fun j hj => by rw [stM_far (Or.inr hj), hs _ (by omega) (by omega)]
    unfold ActI
    rw [ej 0 (by omega), ej 3 (by omega), ej 4 (by omega), ej 5 (by omega), ej 6 (by omega), stM_ne (show (29 : Nat) ≠ 58 + a by omega), hs 29 (by decide) (by decide)]
    refine ⟨?_, Or.inr z4, fun _ => ⟨z29, tx, ty, z5, zt, z6, zu⟩, fun q => by rw [z4] at q; exact absurd q (by decide)⟩
    rcases hj with rfl | rfl
    · exact ⟨r, c, y, v, z0, zr, stM_hit _ _ _ _, hc, by rw [ej 2 (by decide)]; exact z2, zy, z3, zv⟩
    · exact ⟨r, x, c, v, z0, zr, by rw [ej 1 (by decide)]; exact z1, zx, stM_hit _ _ _ _, hc, z3, zv⟩
  · rw [stM_ne (show (33 : Nat) ≠ 58 + a by omega), hs 33 (by decide) (by decide)]
    exact h5
theorem act_h {S B : Nat} {σ τ s u : Mem} {a : Nat} (h : TI S B σ τ) (ha : a < 13) (hs : ∀ z, z ≠ 116 → z ≠ 117 → s z = σ z) (hu : ∀ z, z ≠ 0 → z ≠ 17 → u z = τ z) (hu0 : ∀ j, j < 31 → u 0 j = τ 0 j) : FrC σ (stM (stM (stM s (58 + a) 4 0) (58 + a) 5 (-1)) (58 + a) 6 (-1)) ∧ FrM τ (stM u 15 (232 + 7 * a + 4) 0) ∧ TI S B (stM (stM (stM s (58 + a) 4 0) (58 + a) 5 (-1)) (58 + a) 6 (-1)) (stM u 15 (232 + 7 * a + 4) 0) := by
  obtain ⟨h1, h2, h3, h4, h5⟩ := id h
  have f : FrC σ (stM (stM (stM s (58 + a) 4 0) (58 + a) 5 (-1)) (58 + a) 6 (-1)) := fun z hz => by rw [stM_ne (by omega), stM_ne (by omega), stM_ne (by omega), hs z (by omega) (by omega)]
  have g : FrM τ (stM u 15 (232 + 7 * a + 4) 0) := ⟨fun z a1 a2 a3 a4 => by rw [stM_ne a2, hu z a1 a3], fun j hj => by rw [stM_far (Or.inl (by decide)), hu0 j hj]⟩
  have as : agr σ s 33 (33 + 38) := fun z hz1 hz2 => hs z (by omega) (by omega)
  have e15 : u 15 = τ 15 := hu 15 (by decide) (by decide)
  have sR : StR s 33 (u 15) := by rw [e15]; exact h3.agr as
  have w5 : (s 33 5).toInt ≤ 6 := by rw [hs 33 (by decide) (by decide)]; exact h4.2.1
  refine ⟨f, g, h.go f g ?_ ?_ ?_⟩
  · rw [stM_row]
    have := sR.halt (a0 := a) w5 ha
    rw [show 33 + 25 + a = 58 + a by omega, show 236 + 7 * a = 232 + 7 * a + 4 by omega] at this
    exact this
  · have sI : StI s 33 4000 := h4.agr as (fun z hz1 hz2 => hs z (by omega) (by omega))
    refine sI.actw ha (Or.inl rfl) (fun k hk => by rw [stM_ne (by omega), stM_ne (by omega), stM_ne (by omega)]) ?_
    obtain ⟨q1, -⟩ := act_r sI ha
    rw [show 33 + 25 + a = 58 + a by omega]
    have ej : ∀ j, j < 4 → stM (stM (stM s (58 + a) 4 0) (58 + a) 5 (-1)) (58 + a) 6 (-1) (58 + a) j = s (58 + a) j := fun j hj => by rw [stM_far (Or.inr (by omega)), stM_far (Or.inr (by omega)), stM_far (Or.inr (by omega))]
    have e4 : stM (stM (stM s (58 + a) 4 0) (58 + a) 5 (-1)) (58 + a) 6 (-1) (58 + a) 4 = 0 := by rw [stM_far (Or.inr (by omega)), stM_far (Or.inr (by omega)), stM_hit]
    have e5 : stM (stM (stM s (58 + a) 4 0) (58 + a) 5 (-1)) (58 + a) 6 (-1) (58 + a) 5 = -1 := by rw [stM_far (Or.inr (by omega)), stM_hit]
    unfold ActI
    rw [ej 0 (by omega), ej 1 (by omega), ej 2 (by omega), ej 3 (by omega), e4, e5, stM_hit]
    exact ⟨q1, okZ0, fun q => absurd q (by decide), fun _ _ => ⟨rfl, rfl⟩⟩
  · rw [stM_ne (show (33 : Nat) ≠ 58 + a by omega), stM_ne (show (33 : Nat) ≠ 58 + a by omega), stM_ne (show (33 : Nat) ≠ 58 + a by omega), hs 33 (by decide) (by decide)]
    exact h5
theorem halt_eq (n q : Nat) (s : Mem) : f_X0_halt n q s = some (stM (stM (stM s q 4 0) q 5 (-1)) q 6 (-1)) := by
  unfold f_X0_halt
  rw [ck_t okZ0]
  rfl
/-- what a step leaves as it was -/
def StepK (a : Nat) (σ σ' : Mem) : Prop := (∀ z, z ≠ 58 + a → z ≠ 116 → z ≠ 117 → σ' z = σ z) ∧ σ' (58 + a) 3 = σ (58 + a) 3
theorem step_both {S B : Nat} {σ τ : Mem} {n a : Nat} (hn : 1000 ≤ n) (h : TI S B σ τ) (ha : a < 13) (hw : σ (58 + a) 4 = 1) : ∃ σ' τ', f_X9_step n (58 + a) σ = some σ' ∧ f_X11_step n (nI a) τ = some τ' ∧ FrC σ σ' ∧ FrM τ τ' ∧ TI S B σ' τ' ∧ StepK a σ σ' := by
  obtain ⟨h1, h2, h3, h4, h5⟩ := id h
  obtain ⟨⟨r, x, y, v, z0, zr, z1, zx, z2, zy, z3, zv⟩, -, z5, -⟩ := act_r h4 ha
  obtain ⟨z29, tx, ty, y5, yt, y6, yu⟩ := z5 hw
  have c16 := (h1.cs r (by omega)).1
  have hW : WC τ τ := ⟨rfl, rfl, rfl⟩
  have g : ∀ j, j < 5 → τ 15 (232 + 7 * a + j) = σ (58 + a) j := fun j hj => by
    have := h3.2.2.2.2.2.2.1 a ha j hj
    rw [show 33 + 25 + a = 58 + a by omega] at this
    exact this
  have g5 := h3.2.2.2.2.2.2.2.1 a ha (by rw [show 33 + 25 + a = 58 + a by omega]; exact hw)
  rw [show 33 + 25 + a = 58 + a by omega, show 237 + 7 * a = 232 + 7 * a + 5 by omega, show 238 + 7 * a = 232 + 7 * a + 6 by omega] at g5
  have K1 : ∀ (s : Mem), (∀ z, z ≠ 116 → z ≠ 117 → s z = σ z) → StepK a σ (stM (stM (stM s (58 + a) 4 0) (58 + a) 5 (-1)) (58 + a) 6 (-1)) := fun s hs => ⟨fun z q1 q2 q3 => by rw [stM_ne q1, stM_ne q1, stM_ne q1, hs z q2 q3], by rw [stM_far (Or.inr (by decide)), stM_far (Or.inr (by decide)), stM_far (Or.inr (by decide)), hs _ (by omega) (by omega)]⟩
  have K2 : ∀ (s : Mem) (j0 : Nat) (w : Int32), (∀ z, z ≠ 116 → z ≠ 117 → s z = σ z) → j0 ≠ 3 → StepK a σ (stM s (58 + a) j0 w) := fun s j0 w hs hj => ⟨fun z q1 q2 q3 => by rw [stM_ne q1, hs z q2 q3], by rw [stM_far (Or.inr (by omega)), hs _ (by omega) (by omega)]⟩
  unfold f_X9_step f_X11_step b_X9_step_154
  rw [boxOf_C h1 (by omega) (show r < 21 by omega) z0, bd_mk, aOf_eq n (x := 0) (j := 0) rfl ha (by omega), bd_mk, aOf_eq n (x := 1) (j := 1) rfl ha (by omega), bd_mk, aOf_eq n (x := 2) (j := 2) rfl ha (by omega), bd_mk, boxOf_M h1 h3 hW (by omega) ha (show r < 21 by omega) z0, bd_mk, g 0 (by omega), g 1 (by omega), g 2 (by omega), z0, z1, z2]
  cases eb : boxN σ τ r (nI x).toInt (nI y).toInt with
  | none =>
    show ∃ σ' τ', (if (-1 : Int32) = -1 then _ else _) = _ ∧ (if 0 ≤ (-1 : Int32) then _ else _) = _ ∧ _
    rw [if_pos rfl, if_neg (by decide), halt_eq, bv_mk, aTo_eq n (x := 4) (j := 4) rfl ha (by omega), bv_mk]
    obtain ⟨q1, q2, q3⟩ := act_h h ha (s := σ) (u := τ) (fun _ _ _ => rfl) (fun _ _ _ => rfl) (fun _ _ => rfl)
    exact ⟨_, _, rfl, rfl, q1, q2, q3, K1 σ (fun _ _ _ => rfl)⟩
  | some own =>
    obtain ⟨ho, oo, oi⟩ := boxN_s eb
    rw [nI_toInt (by omega), nI_toInt (by omega)] at oi
    show ∃ σ' τ', (if nI own = -1 then _ else _) = _ ∧ (if 0 ≤ nI own then _ else _) = _ ∧ _
    rw [if_neg (by intro w; have := congrArg Int32.toInt w; rw [nI_toInt (by omega)] at this; exact absurd this (by simp)), if_pos (nI_pos' (by omega)), aOf_eq n (x := 5) (j := 5) rfl ha (by omega), bd_mk, aOf_eq n (x := 6) (j := 6) rfl ha (by omega), bd_mk, g5.1, g5.2, y5, y6]
    obtain ⟨s, u, w1, w2, w3, w4, w5, gx, gy, gb, gx1, gy1, gF, gI, c4, c5, c6, m4, m5, m6⟩ := goal_both (n := n) h1 h3 (by omega) (show r < 21 by omega) ho yt yu hW
    show ∃ σ' τ', bv (f_X9_findGoal n (nI r) (nI own) (nI tx) (nI ty) σ) _ = _ ∧ bv (f_X11_goals n (nI r) (nI own) (nI tx) (nI ty) τ) _ = _ ∧ _
    rw [w1, w2, bv_mk, bv_mk, w3 (58 + a) (by omega) (by omega), z1, z2, c4, c5, m4, m5]
    have Ps : PlayR s τ S := h1.lo (fun z hz => w3 z (by omega) (by omega))
    have W64 : ∃ σ' τ', b_X9_step_64 n (58 + a) (nI own) (nI r) s = some σ' ∧ b_X11_step_87 n (nI a) (nI r) (nI x) (nI y) (nI own) u = some τ' ∧ FrC σ σ' ∧ FrM τ τ' ∧ TI S B σ' τ' ∧ StepK a σ σ' := by
      unfold b_X9_step_64 b_X11_step_87 b_X9_step_154
      have u5 : u 5 = τ 5 := w4 5 (by decide) (by decide)
      rw [c4, c5, m4, m5, hasPoint_eq Ps n (show r < 21 by omega) ho, bd_mk, hasM_eq u5 n (show r < 21 by omega) (show own < 16 by omega), bd_mk]
      have fin : ∀ (s2 u2 : Mem) (nx px py M' : Nat), nx < cnt τ r → px ≤ 255 → py ≤ 255 → (∀ z, z ≠ 116 → z ≠ 117 → s2 z = σ z) → (∀ z, z ≠ 0 → z ≠ 17 → u2 z = τ z) → (∀ j, j < 31 → u2 0 j = τ 0 j) → ∃ σ' τ', f_X9_stepTo n (58 + a) (nI own) (nI nx) (nI px) (nI py) s2 = some σ' ∧ b_X11_step_235 M' (nI a) (nI r) (nI x) (nI y) (nI own) (nI px) (nI py) (nI nx) u2 = some τ' ∧ FrC σ σ' ∧ FrM τ τ' ∧ TI S B σ' τ' ∧ StepK a σ σ' := by
        intro s2 u2 nx px py M' hnx hpx hpy hs hu hu0
        have P2 : PlayR s2 τ S := h1.lo (fun z hz => hs z (by omega) (by omega))
        have eA := hs (58 + a) (by omega) (by omega)
        rw [stepC n P2 (show r < 21 by omega) ho hnx hpx hpy zx zy (by rw [eA]; exact z0) (by rw [eA]; exact z1) (by rw [eA]; exact z2), stepM M' (hu 5 (by decide) (by decide)) ha (show r < 21 by omega) (show own < 16 by omega) (show nx < 16 by omega) hpx hpy zx zy]
        by_cases q : goX τ r own nx px x y = true
        · rw [if_pos q, if_pos q]
          obtain ⟨c, hc, ec⟩ := sgI_at (A := px) (B := x) hpx zx
          rw [ec]
          obtain ⟨q1, q2, q3⟩ := act_w h ha hs hu hu0 (Or.inl rfl) hc z0 zr z1 zx z2 zy z3 zv hw y5 yt y6 yu z29
          exact ⟨_, _, rfl, rfl, q1, q2, q3, K2 s2 1 (nI c) hs (by decide)⟩
        · rw [if_neg q, if_neg q]
          obtain ⟨c, hc, ec⟩ := sgI_at (A := py) (B := y) hpy zy
          rw [ec]
          obtain ⟨q1, q2, q3⟩ := act_w h ha hs hu hu0 (Or.inr rfl) hc z0 zr z1 zx z2 zy z3 zv hw y5 yt y6 yu z29
          exact ⟨_, _, rfl, rfl, q1, q2, q3, K2 s2 2 (nI c) hs (by decide)⟩
      by_cases p : inB τ r own (nI gx).toInt (nI gy).toInt = true
      · rw [bz_t p, if_neg (show ¬ (1 : Int32) = 0 by decide), if_neg (show ¬ (1 : Int32) = 0 by decide)]
        obtain ⟨σ', τ', q1, q2, q3⟩ := fin s u own gx gy n ho gx1 gy1 w3 w4 w5
        exact ⟨σ', τ', by rw [c4, c5, q1, bv_mk], q2, q3⟩
      · rw [bz_f p, if_pos rfl, if_pos rfl]
        rw [nI_toInt (by omega), nI_toInt (by omega)] at p
        have gbo := FR_o ho oo gF
        have Fo : FR σ τ r gb own ≠ 0 := FR_sy c16 ho oo gF
        have ne : own ≠ gb := fun q => p (by rw [q]; exact gI)
        have F2 : 2 ≤ FR σ τ r gb own := by
          by_cases q : FR σ τ r gb own = 1
          · exact absurd (FR_1 q) ne
          · omega
        obtain ⟨b, hb, hb2, hb3⟩ := FR_pr (k := FR σ τ r gb own - 2) (show FR σ τ r gb own = FR σ τ r gb own - 2 + 2 by omega)
        obtain ⟨i0, hi0, hl0⟩ := pk_least (NxP (FR σ τ r gb) τ r own) ⟨b, hb, nB_sy hb3, by omega, by omega⟩
        obtain ⟨f, q1, q2⟩ := meas_eq (n := n) Ps (by omega) (show r < 21 by omega) gbo.1
        have eFR : FR s τ r gb = FR σ τ r gb := by
          unfold FR FRm
          have : oB s r = oB σ r := by
            funext j
            unfold oB
            rw [w3 39 (by decide) (by decide)]
          rw [this]
        rw [eFR] at q2
        have hWu : WC τ u := ⟨w4 4 (by decide) (by decide), u5, w4 15 (by decide) (by decide)⟩
        obtain ⟨u2, v1, v2, v3⟩ := ways_eq (n := n) h1 h3 (by omega) (show r < 21 by omega) gbo.1 hWu
        obtain ⟨px, py, px1, py1, px2, py2, -⟩ := near_pt h1 (show r < 21 by omega) hi0.1 zx zy
        have hs2 : ∀ z, z ≠ 116 → z ≠ 117 → (rwM s 117 f) z = σ z := fun z a1 a2 => by rw [rwM_ne a2, w3 z a1 a2]
        have P2 : PlayR (rwM s 117 f) τ S := h1.lo (fun z hz => hs2 z (by omega) (by omega))
        have hWu2 : WC τ u2 := ⟨by rw [v2 4 (by decide), hWu.1], by rw [v2 5 (by decide), hWu.2.1], by rw [v2 15 (by decide), hWu.2.2]⟩
        have F16 := FR_16 (σ := σ) c16 gbo.1
        obtain ⟨M', nm⟩ := nextM (a := a) h1 h3 hWu2 (show r < 21 by omega) ho F16 F2 (fun j q => FR_o gbo.1 gbo.2 q) v3 hi0 hl0 px2 py2 n 0 (by omega) (by have := hi0.1; omega)
        have nc := nextC P2 (show r < 21 by omega) ho F16 F2 (fun j hj => by rw [rwM_row]; exact q2 j hj) hi0 hl0 n 0 (by omega) (by have := hi0.1; omega)
        obtain ⟨σ', τ', k1, k2, k3⟩ := fin (rwM s 117 f) u2 i0 px py M' hi0.1 px1 py1 hs2 (fun z a1 a2 => by rw [v2 z a2, w4 z a1 a2]) (fun j hj => by rw [v2 0 (by decide), w5 j hj])
        refine ⟨σ', τ', ?_, ?_, k3⟩
        · unfold f_X9_nextBox
          rw [c6, q1, bv_mk, ixB, ck_t (inb_nI (by omega) (by decide)), nI_clamp (by omega), show (0 : Int32) = nI 0 from rfl, nc, bd_mk, hs2 (58 + a) (by omega) (by omega), z1, nearX_eq P2 n (show r < 21 by omega) hi0.1, bd_mk, hs2 (58 + a) (by omega) (by omega), z2, nearY_eq P2 n (show r < 21 by omega) hi0.1, bd_mk, px2, py2, k1, bv_mk]
        · rw [m6, v1, bv_mk, show (0 : Int32) = nI 0 from rfl, nm, k2]
    by_cases e1 : nI x = nI gx
    · rw [if_pos e1, if_pos e1]
      by_cases e2 : nI y = nI gy
      · rw [if_pos e2, if_pos e2, halt_eq, bv_mk, aTo_eq n (x := 4) (j := 4) rfl ha (by omega), bv_mk]
        obtain ⟨q1, q2, q3⟩ := act_h h ha w3 w4 w5
        exact ⟨_, _, rfl, rfl, q1, q2, q3, K1 s w3⟩
      · rw [if_neg e2, if_neg e2]
        exact W64
    · rw [if_neg e1, if_neg e1]
      exact W64
