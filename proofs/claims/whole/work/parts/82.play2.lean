/-! ===== play simulates ===== -/
theorem AI.gi {B : Nat → Nat} {T m : Nat} {σ0 τ0 σ τ s : Mem} (h : AI B T m σ0 τ0 σ τ) (hT : T ≤ 6000) (hb : ∀ p, p < T → bcl (s 18) p = nI (B p) ∧ B p < 256) (h1 : s 17 1 = nI T) (hc : ∀ K, K < 4 → s (19 + 3 * K) 2 = σ (4 + 3 * K) 2 ∧ ∀ x, x ≤ mxK K → s (20 + 3 * K) x = σ (5 + 3 * K) x ∧ s (21 + 3 * K) x = σ (6 + 3 * K) x) : GI B T m s := by
  obtain ⟨a1, a2, a3, a4, a5, a6, a7, a8, a9, a10, a11, a12⟩ := h
  refine ⟨fun j hj => (a7 j hj).1, fun K hK x hx => ?_, h1, hT, hb⟩
  obtain ⟨c1, c2⟩ := (hc K hK).2 x hx
  rw [c1, c2]
  refine ⟨?_, fun w => ?_⟩
  · rintro p e ⟨j, hj, rfl, rfl, rfl, rfl⟩
    exact (a7 j hj).2
  · apply Classical.byContradiction
    intro ne
    obtain ⟨j, hj, e1, e2⟩ := a8 K hK x hx ne
    exact w ⟨_, _, j, hj, e1, e2, rfl, rfl⟩
theorem bcl_ext {v w : Nat → Int32} (h : ∀ j, j < 1500 → v j = w j) {p : Nat} (hp : p < 6000) : bcl v p = bcl w p := by
  unfold bcl
  rw [h (p / 4) (by omega)]
theorem cut0 (n : Nat) {T : Nat} {s : Mem} (hT : s 2 1 = nI T) (h6 : T ≤ 6000) : f_X8_cut n 2 (0 : Int32) s = some (1, stM s 2 1 0) := by
  rw [cut_eq n 0 s hT h6, if_pos ⟨by decide, by show (0 : Int) ≤ (T : Int); omega⟩]
theorem nI_nm1 {m : Nat} (h : m < 2 ^ 31) : ¬ nI m = (-1 : Int32) := fun e => by
  have := nI_pos h
  rw [e] at this
  exact this (by decide)
theorem LI0 {B : Nat → Nat} {τ : Mem} (hc : ∀ K, K < 4 → τ 0 (5 + K) = 0) (h4 : ∀ r, r < 21 → τ 4 r = 0) (h7 : ∀ q, q < 61 → τ 7 q = 0 ∧ τ 8 q = 0) (h12 : ∀ a, a < 13 → τ 12 a = 0) (h15 : ∀ z, z < 781 → τ 15 z = if z = 1 then 1 else 0) : LI B 0 τ τ := by
  have nb : ∀ {K x p e}, ¬ Blk B 0 K x p e := fun {K x p e} ⟨j, hj, _⟩ => absurd hj (Nat.not_lt_zero j)
  refine ⟨fun z _ _ _ _ _ _ _ _ _ _ _ _ => rfl, fun j _ => rfl, fun K hK => hc K hK, fun r hr => ⟨fun p e hb => absurd hb nb, fun _ => ⟨h4 r hr, fun b hb => ?_⟩⟩, fun q hq => ⟨fun p e hb => absurd hb nb, fun _ => (h7 q hq).1⟩, fun q hq => ⟨fun p e hb => absurd hb nb, fun _ => ⟨(h7 q hq).2, ?_⟩⟩, fun a ha => ⟨fun p e hb => absurd hb nb, fun _ => ⟨h12 a ha, fun i hi => ?_⟩⟩, fun z hz => rfl, fun a ha i h1 h2 => ?_, fun z h1 h2 => ?_⟩
  · rw [h15 _ (by omega), if_neg (by omega)]
  · rw [h15 _ (by omega), if_neg (by omega)]
  · rw [h15 _ (by omega), if_neg (by omega)]
  · rw [h15 _ (by omega), if_neg (by omega)]
  · rw [h15 _ (by omega), if_neg (by omega)]
theorem play_no {t T S : Nat} {σ τ σ' τ' : Mem} (h1 : TapeR σ 2 T (τ 1)) (a3 : TapeR σ 17 S (τ 2)) (a4 : τ 0 4 = nI S) (a5 : PlayR σ τ S) (a6 : StR σ 33 (τ 15) ∧ StI σ 33 t) (a7 : σ 0 8 = τ 0 29 ∧ okZ (σ 0 8) ∧ (σ 0 8 = 1 → StR σ 71 (τ 16) ∧ StI σ 71 t)) (fo : FO σ (stM (stM τ 0 0 0) 0 2 0) σ' τ') : Rel (t + 1) (stM σ' 2 1 0) (stM (stM (stM τ' 0 25 (τ' 0 19)) 0 26 (τ' 0 20)) 0 0 1) := by
  obtain ⟨⟨k, k0, k5, f1, f2⟩, f3, rc, rm⟩ := fo
  have ns : ∀ z, z < 2 ∨ z = 3 ∨ (16 ≤ z ∧ z ≠ 31 ∧ z ≠ 32) → stM σ' 2 1 0 z = σ z := fun z hz => by rw [stM_ne (by omega)]; exact rc z (by omega)
  have nt : ∀ z, z ≠ 0 → z ≠ 13 → z ≠ 14 → z ≠ 19 → stM (stM (stM τ' 0 25 (τ' 0 19)) 0 26 (τ' 0 20)) 0 0 1 z = τ z := fun z h0 h13 h14 h19 => by rw [stM_ne h0, stM_ne h0, stM_ne h0, rm.1 z h0 h13 h14 h19, stM_ne h0, stM_ne h0]
  have n0 : ∀ j, j ≠ 0 → j ≠ 2 → j ≠ 19 → j ≠ 20 → j ≠ 22 → j ≠ 23 → j ≠ 25 → j ≠ 26 → stM (stM (stM τ' 0 25 (τ' 0 19)) 0 26 (τ' 0 20)) 0 0 1 0 j = τ 0 j := fun j h0 h2 h19 h20 h22 h23 h25 h26 => by rw [stM_far (Or.inr h0), stM_far (Or.inr h26), stM_far (Or.inr h25), rm.2 j h19 h20 h22 h23, stM_far (Or.inr h2), stM_far (Or.inr h0)]
  have n2 : stM (stM (stM τ' 0 25 (τ' 0 19)) 0 26 (τ' 0 20)) 0 0 1 0 2 = 0 := by rw [stM_far (Or.inr (by decide)), stM_far (Or.inr (by decide)), stM_far (Or.inr (by decide)), rm.2 2 (by decide) (by decide) (by decide) (by decide), stM_hit]
  have e25 : stM (stM (stM τ' 0 25 (τ' 0 19)) 0 26 (τ' 0 20)) 0 0 1 0 25 = τ' 0 19 := by rw [stM_far (Or.inr (by decide)), stM_far (Or.inr (by decide)), stM_hit]
  have e26 : stM (stM (stM τ' 0 25 (τ' 0 19)) 0 26 (τ' 0 20)) 0 0 1 0 26 = τ' 0 20 := by rw [stM_far (Or.inr (by decide)), stM_hit]
  have t2 : stM σ' 2 1 0 2 1 = 0 := stM_hit _ _ _ _
  have s310 : stM σ' 2 1 0 31 = σ' 31 := stM_ne (by decide)
  generalize stM σ' 2 1 0 = s at *
  generalize stM (stM (stM τ' 0 25 (τ' 0 19)) 0 26 (τ' 0 20)) 0 0 1 = u at *
  refine ⟨0, S, ⟨⟨t2, by omega, fun p hp => by omega⟩, n2⟩, ⟨a3.agr (fun z x y => ns z (by omega)) (nt 2 (by decide) (by decide) (by decide) (by decide)), by rw [n0 4 (by decide) (by decide) (by decide) (by decide) (by decide) (by decide) (by decide) (by decide)]; exact a4⟩, a5.agr (fun z x y => ns z (by omega)) (fun z x y => ns z (by omega)) (fun z x y => nt z (by omega) (by omega) (by omega) (by omega)) (fun j x y => n0 j (by omega) (by omega) (by omega) (by omega) (by omega) (by omega) (by omega) (by omega)), ?_, ?_, ?_, ?_⟩
  · rw [nt 15 (by decide) (by decide) (by decide) (by decide)]
    exact ⟨a6.1.agr (fun z x y => ns z (by omega)), (a6.2.agr (fun z x y => ns z (by omega)) (fun z x y => ns z (by omega))).up⟩
  · rw [ns 0 (by omega), n0 29 (by decide) (by decide) (by decide) (by decide) (by decide) (by decide) (by decide) (by decide), nt 16 (by decide) (by decide) (by decide) (by decide)]
    refine ⟨a7.1, a7.2.1, fun e => ?_⟩
    obtain ⟨x1, x2⟩ := a7.2.2 e
    exact ⟨x1.agr (fun z x y => ns z (by omega)), (x2.agr (fun z x y => ns z (by omega)) (fun z x y => ns z (by omega))).up⟩
  · rw [s310, e25, f1, f2]
  · rw [s310, e26, f3]
theorem sim_play {t n : Nat} {σ τ : Mem} (hn : 20000 ≤ n) (h : Rel t σ τ) : SimX t (f_X10_play n σ) (f_X11_play n τ) := by
  obtain ⟨T, S, ⟨a1, a2⟩, ⟨a3, a4⟩, a5, a6, a7, -⟩ := h
  have T6 := a1.2.1
  have s02 : stM τ 0 0 0 0 2 = nI T := by rw [stM_far (Or.inr (by decide))]; exact a2
  have u1 : stM (stM τ 0 0 0) 0 2 0 1 = τ 1 := by rw [stM_ne (by decide), stM_ne (by decide)]
  have rb := read_b (T := T) (n := n) (σ := σ) (τ := stM (stM τ 0 0 0) 0 2 0) hn (by rw [u1]; exact a1)
  unfold f_X10_play f_X11_play
  rw [lt_eq, lt_eq, s02]
  rcases rb with ⟨m, σ', τ', pm, r1, r2, ai⟩ | ⟨x, σ', τ', r1, r2, fo⟩
  · rw [r1, r2, bd_mk, bd_mk]
    rw [u1] at pm ai
    have hB : ∀ p, p < T → τ 1 p = nI (byN (τ 1) p) ∧ byN (τ 1) p < 256 := fun p hp => tape_by a1 hp
    obtain ⟨c1, c2, c3, c4, c5, c6, c7, c8, c9, c10, c11, c12⟩ := id ai
    generalize eB : byN (τ 1) = B at *
    have m6 : m ≤ 2000 := by have := posB_ge B m; omega
    rw [if_neg (show ¬ nI m = (-1 : Int32) from nI_nm1 (by omega))]
    obtain ⟨sa, d1, d2, d3, d4, d5⟩ := cpP n σ'
    have e2 : sa 2 = σ 2 := by rw [d2 2 (by omega)]; exact c1 2 (by omega)
    have sa21 : sa 2 1 = nI T := by rw [e2]; exact a1.1
    rw [d1, bv_mk, cut0 n sa21 T6, bd_mk]
    have t17 : stM sa 2 1 0 17 1 = nI T := by rw [stM_ne (by decide), d4, c1 2 (by omega)]; exact a1.1
    have gi : GI B T m (stM sa 2 1 0) := ai.gi T6 (fun p hp => by
        rw [stM_ne (by decide), bcl_ext (w := σ 3) (fun j hj => by rw [d3 j hj, c1 3 (by omega)]) (by omega), ← (hB p hp).1]
        exact ⟨a1.2.2 p hp, (hB p hp).2⟩) t17 (fun K hK => by
        rw [stM_ne (by omega), stM_ne (by omega), stM_ne (by omega)]
        exact d5 K hK)
    have cn : ∀ K, K < 4 → stM sa 2 1 0 (19 + 3 * K) 2 = nI (cntB B K m) := fun K hK => by rw [stM_ne (by omega), (d5 K hK).1, c10 K hK]
    have k0 : ∀ z, z < 2 ∨ z = 3 ∨ 31 ≤ z → stM sa 2 1 0 z = σ' z := fun z hz => by rw [stM_ne (by omega)]; exact d2 z (by omega)
    have k2 : stM sa 2 1 0 2 1 = 0 := stM_hit _ _ _ _
    generalize stM sa 2 1 0 = sb at *
    obtain ⟨sc, g1, g2, g3, g4, g5⟩ := lay_lp (B := B) (T := T) (m := m) 21 0 n sb (by omega) (by omega) gi
    rw [show f_X1_lay n 16 sb = some sc from g1, bv_mk]
    have gi2 : GI B T m sc := gi.agr (fun z x y => g2 z (by omega))
    obtain ⟨sd, o1, o2, o3⟩ := open_eq (n := n) (by omega) gi2
    rw [o1, bv_mk, ck_t okZ0, lt_eq]
    -- the model
    rw [lt_eq, stM_far (show (0 : Nat) ≠ 0 ∨ (19 : Nat) ≠ 25 from Or.inr (by decide)), if_pos c4]
    unfold b_X11_play_45
    rw [lt_eq, stM_far (show (0 : Nat) ≠ 0 ∨ (19 : Nat) ≠ 26 from Or.inr (by decide)), stM_far (show (0 : Nat) ≠ 0 ∨ (19 : Nat) ≠ 25 from Or.inr (by decide)), if_pos c4, c4]
    have q0 : ∀ z, z ≠ 0 → z ≠ 13 → z ≠ 14 → z ≠ 19 → stM (stM τ' 0 25 0) 0 26 0 z = τ z := fun z h0 h1 h2 h3 => by rw [stM_ne h0, stM_ne h0, c2.1 z h0 h1 h2 h3, stM_ne h0, stM_ne h0]
    have q25 : stM (stM τ' 0 25 0) 0 26 0 0 25 = 0 := by rw [stM_far (Or.inr (by decide)), stM_hit]
    have q26 : stM (stM τ' 0 25 0) 0 26 0 0 26 = 0 := stM_hit _ _ _ _
    have qj0 : stM (stM τ' 0 25 0) 0 26 0 0 0 = 0 := by rw [stM_far (Or.inr (by decide)), stM_far (Or.inr (by decide)), c2.2 0 (by decide) (by decide) (by decide) (by decide), stM_far (Or.inr (by decide)), stM_hit]
    have qj2 : stM (stM τ' 0 25 0) 0 26 0 0 2 = 0 := by rw [stM_far (Or.inr (by decide)), stM_far (Or.inr (by decide)), c2.2 2 (by decide) (by decide) (by decide) (by decide), stM_hit]
    generalize stM (stM τ' 0 25 0) 0 26 0 = u0 at *
    obtain ⟨M, ua, v1, v2, v3, v4, v5⟩ := cpM_lp T6 (nI m) T 0 n u0 (by omega) (by omega)
    rw [show itr3 b_X11_play_62 n (nI T) (nI m) (0 : Int32) u0 = _ from v2]
    obtain ⟨ub, w1, w2, w3, w4, w5, w6, w7, w8, w9⟩ := forget_eq (n := M) (by omega) (stM ua 0 4 (nI T))
    rw [w1, bv_mk]
    have li := LI0 (B := B) w4 w6 w7 w8 w9
    have tbb : TB B T ub := fun p hp => by
      rw [w2 2 (by decide) (by decide) (by decide) (by decide) (by decide) (by decide) (by decide), stM_ne (by decide), v5 p (by omega) hp, q0 1 (by decide) (by decide) (by decide) (by decide)]
      exact hB p hp
    have ub4 : ub 0 4 = nI T := by rw [w3 4 (by omega), stM_hit]
    obtain ⟨uc, x1, x2, x3⟩ := ld_lp gi2 pm (nI m) m 0 M ub (by omega) (by omega) li tbb ub4
    rw [show itr2 b_X11_play_96 M (nI m) (nI 4) ub = some (nI m, uc) from x1]
    have tbc : TB B T uc := fun p hp => by rw [x3]; exact tbb p hp
    have uj : ∀ j, j < 4 ∨ (9 ≤ j ∧ j ≠ 29) → uc 0 j = u0 0 j := fun j hj => by rw [x2.2.1 j (by omega), w3 j (by omega), stM_far (Or.inr (by omega)), v3 0 (by decide)]
    have uz : ∀ z, z ≠ 0 → z ≠ 2 → z ≠ 3 → z ≠ 4 → z ≠ 5 → z ≠ 6 → z ≠ 7 → z ≠ 8 → z ≠ 9 → z ≠ 10 → z ≠ 11 → z ≠ 12 → z ≠ 15 → uc z = u0 z := fun z y0 y2 y3 y4 y5 y6 y7 y8 y9 y10 y11 y12 y15 => by rw [x2.1 z y0 y3 y4 y5 y6 y7 y8 y9 y10 y11 y12 y15, w2 z y0 y3 y4 y7 y8 y12 y15, stM_ne y0, v3 z y2]
    refine Or.inl ⟨_, _, _, rfl, rfl, by rw [uj 0 (by omega)]; exact qj0, ?_⟩
    -- the relation
    have sdz : ∀ z, z < 33 ∨ 71 ≤ z → sd z = sc z := o2
    have gi3 : GI B T m sd := gi2.agr (fun z x y => sdz z (by omega))
    have lr3 : ∀ r, r < 21 → LR B m r sd := fun r hr => by
      have := g5 r (by omega) hr
      unfold LR SdR sdC at this ⊢
      rw [sdz 110 (by omega), sdz 111 (by omega), sdz 112 (by omega), sdz 113 (by omega), sdz 114 (by omega), sdz 115 (by omega)]
      exact this
    have cn3 : ∀ K, K < 4 → sd (19 + 3 * K) 2 = nI (cntB B K m) := fun K hK => by rw [sdz _ (by omega), g2 _ (by omega)]; exact cn K hK
    have pr := PlayR.mk2 gi3 lr3 x2 tbc cn3
    have sr := StR.mk2 gi3 o3 x2 w9
    have si := StI.mk2 (t + 1) gi3 o3
    have zz : ∀ z, z ≠ 0 → stM sd 0 8 0 z = sd z := fun z hz => stM_ne hz
    refine ⟨0, T, ⟨⟨?_, by omega, fun p hp => by omega⟩, by rw [uj 2 (by omega)]; exact qj2⟩, ⟨⟨?_, T6, fun p hp => ?_⟩, by rw [x2.2.1 4 (by omega)]; exact ub4⟩, pr.agr (fun z x y => zz z (by omega)) (fun z x y => zz z (by omega)) (agr_rf _ _ _) (fun _ _ _ => rfl), ⟨sr.agr (fun z x y => zz z (by omega)), si.agr (fun z x y => zz z (by omega)) (fun z x y => zz z (by omega))⟩, ⟨?_, by rw [stM_hit]; exact okZ0, fun e => by rw [stM_hit] at e; exact absurd e (by decide)⟩, ?_, ?_⟩
    · rw [zz 2 (by decide), sdz 2 (by omega), g2 2 (by omega)]; exact k2
    · rw [zz 17 (by decide)]; exact gi3.2.2.1
    · rw [zz 18 (by decide), (gi3.2.2.2.2 p hp).1, (tbc p hp).1]
    · rw [stM_hit, x2.2.1 29 (by omega), w5]
    · rw [zz 31 (by decide), sdz 31 (by omega), g2 31 (by omega), k0 31 (by omega), c3, uj 25 (by omega), q25]
    · rw [zz 31 (by decide), sdz 31 (by omega), g2 31 (by omega), k0 31 (by omega), c12, uj 26 (by omega), q26]
  · rw [r1, r2, bd_mk, bd_mk, if_pos rfl]
    have e2 : σ' 2 1 = nI T := by rw [fo.2.2.1 2 (by omega)]; exact a1.1
    rw [cut0 n e2 T6, bd_mk, lt_eq, stM_far (show (0 : Nat) ≠ 0 ∨ (19 : Nat) ≠ 25 from Or.inr (by decide)), if_neg fo.m]
    unfold b_X11_play_45
    rw [lt_eq, stM_far (show (0 : Nat) ≠ 0 ∨ (19 : Nat) ≠ 26 from Or.inr (by decide)), stM_far (show (0 : Nat) ≠ 0 ∨ (19 : Nat) ≠ 25 from Or.inr (by decide)), if_neg fo.m, stM_far (show (0 : Nat) ≠ 0 ∨ (20 : Nat) ≠ 25 from Or.inr (by decide)), refuse_eq, bd_mk]
    exact Or.inr ⟨_, _, _, rfl, rfl, stM_hit _ _ _ _, play_no a1 a3 a4 a5 a6 a7 fo⟩
