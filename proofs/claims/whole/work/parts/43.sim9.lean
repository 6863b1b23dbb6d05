/-! ===== box, neighbours ===== -/
theorem ixB (r b : Nat) : nI r * (16 : Int32) + nI b = nI (16 * r + b) := by
  show nI r * nI 16 + nI b = _
  rw [pk_mul, nI_add, Nat.mul_comm]
theorem side_eq (n : Nat) {r b i : Nat} {x : Int32} (hx : x = nI i) (hr : r < 21) (hb : b < 16) (hi : i < 4) (s : Mem) : f_X11_side n (nI r) (nI b) x s = some (s 5 (4 * (16 * r + b) + i), s) := by
  have e : nI (16 * r + b) * (4 : Int32) + nI i = nI (4 * (16 * r + b) + i) := by
    show nI (16 * r + b) * nI 4 + nI i = _
    rw [pk_mul, nI_add, Nat.mul_comm]
  subst hx
  unfold f_X11_side
  simp only [ixB, e]
  rw [ck_t (inb_nI (by omega) (by decide)), nI_clamp (by omega)]
theorem bitI_bit {x : Int32} {i : Nat} (hi : i < 16) (hx : 0 ≤ x.toInt ∧ x.toInt < 65536) : bitI x i = 0 ∨ bitI x i = 1 := by
  obtain ⟨N, hN, rfl⟩ : ∃ N, N < 65536 ∧ x = nI N := ⟨x.toInt.toNat, by omega, nI_oT (by omega)⟩
  unfold bitI
  have e : nI i &&& (31 : Int32) = nI i := by
    rw [show (nI i &&& (31 : Int32)) = nI (i % 2 ^ 5) from pk_andN (by omega) 5 (by decide), Nat.mod_eq_of_lt (by omega)]
  rw [e]
  obtain ⟨j, hj, e2⟩ := pk_andE (nI N >>> nI i) (m := 1) 1 (by decide)
  rw [e2]
  rcases (show j = 0 ∨ j = 1 by omega) with rfl | rfl
  · exact Or.inl rfl
  · exact Or.inr rfl
theorem open_C {σ τ : Mem} {S : Nat} (h : PlayR σ τ S) (n : Nat) {r b : Nat} (h0 : 0 < r) (hr : r < 21) (hb : b < cnt τ r) : f_X9_isOpen n (nI r) (nI b) σ = some (bz (bitI (σ 39 r) b = 0), σ) := by
  have hc := h.cs r hr
  haveI : Decidable (isBx τ (nI r) (nI b)) := Classical.propDecidable _
  have hbx : isBx τ (nI r) (nI b) := by
    unfold isBx
    rw [nI_toInt (by omega), nI_toInt (by omega), nI_clamp (by omega)]
    omega
  unfold f_X9_isOpen b_X9_isOpen_32 b_X9_isOpen_33
  rw [hasBox_eq h n, bd_mk, bz_t hbx, if_neg (show ¬ (1 : Int32) = 0 by decide), ck_t (inb_nI hr (by decide)), nI_clamp (by omega)]
  show (if bitI (σ 39 r) b = 0 then _ else _) = _
  by_cases e : bitI (σ 39 r) b = 0
  · rw [if_pos e, ck_t okZ1, bz_t e]
  · rw [if_neg e, ck_t okZ0, bz_f e]
theorem open_M (n : Nat) {r b : Nat} (hr : r < 21) (hb : b < 16) (s : Mem) : f_X11_isOpen n (nI r) (nI b) s = some (bz (s 15 (445 + 16 * r + b) = 0), s) := by
  have e : (445 : Int32) + nI r * (16 : Int32) + nI b = nI (445 + 16 * r + b) := by
    show nI 445 + nI r * nI 16 + nI b = _
    rw [pk_mul, nI_add, nI_add, Nat.mul_comm]
  unfold f_X11_isOpen b_X11_isOpen_23
  simp only [e]
  rw [ck_t (inb_nI (by omega) (by decide)), nI_clamp (by omega)]
  by_cases a : s 15 (445 + 16 * r + b) = 0
  · rw [if_pos a, ck_t okZ1, bz_t a]
  · rw [if_neg a, ck_t okZ0, bz_f a]
theorem sim_box {t : Nat} {σ τ : Mem} (h : Rel t σ τ) (n : Nat) (x y w : Int32) : Sim t (f_X10_box n x y w σ) (f_X11_box n x y w τ) := by
  obtain ⟨sR, sI⟩ := h.st
  obtain ⟨T, S, -, -, a5, -⟩ := id h
  haveI : Decidable (isBx τ x y) := Classical.propDecidable _
  unfold f_X10_box f_X11_box b_X10_box_36 b_X11_box_26 b_X11_box_58
  rw [lt_eq, hasBox_eq a5 n x y, isBox_eq a5 n x y (stM_ne (by decide)), bd_mk, bd_mk]
  by_cases e : isBx τ x y
  · rw [bz_t e, if_neg (show ¬ (1 : Int32) = 0 by decide), if_neg (show ¬ (1 : Int32) = 0 by decide)]
    obtain ⟨r, b, h0, hr, hb, hb16, rfl, rfl⟩ := isBx_nI e a5.cs
    obtain ⟨-, -, -, -, hbx⟩ := (a5.2.2.2.2.1 r hr).c
    obtain ⟨⟨s0, s1, s2, s3, -⟩, -⟩ := hbx b hb
    rw [in_eq n w, bd_mk, show (0 : Int64).toInt = 0 from rfl, show (4 : Int64).toInt = 4 from rfl]
    rcases pk_ix w (n := 5) (by decide) with hw | hw | ⟨j, hj, rfl⟩
    · have g3 : w.toInt < 0 := lt_T.mp hw
      have c : f_X1_corner n (nI r) (nI b) w σ = some (-1, σ) := by
        unfold f_X1_corner
        rw [lt_eq, if_neg (by omega), if_neg (by omega), if_neg (by omega), if_neg (by omega)]
      rw [if_neg (show ¬ w = 4 from fun q => by rw [q] at g3; exact absurd g3 (by decide)), c, bd_mk, if_neg (show ¬ ((0 : Int) ≤ w.toInt ∧ w.toInt ≤ 4) by omega), if_pos rfl]
      exact ⟨_, _, _, rfl, rfl, h.th 0⟩
    · have g3 : 5 ≤ w.toInt := le_T.mp hw
      have c : f_X1_corner n (nI r) (nI b) w σ = some (-1, σ) := by
        unfold f_X1_corner
        rw [lt_eq, if_neg (by omega), if_neg (by omega), if_neg (by omega), if_neg (by omega)]
      rw [if_neg (show ¬ w = 4 from fun q => by rw [q] at g3; exact absurd g3 (by decide)), c, bd_mk, if_neg (show ¬ ((0 : Int) ≤ w.toInt ∧ w.toInt ≤ 4) by omega), if_pos rfl]
      exact ⟨_, _, _, rfl, rfl, h.th 0⟩
    · have g3 : (nI j).toInt = (j : Int) := nI_toInt (by omega)
      rw [if_pos (show (0 : Int) ≤ (nI j).toInt ∧ (nI j).toInt ≤ 4 by omega), if_neg (show ¬ (1 : Int32) = 0 by decide)]
      by_cases j4 : j = 4
      · subst j4
        have i1 : (445 : Int32) + nI r * (16 : Int32) + nI b = nI (445 + 16 * r + b) := by
          show nI 445 + nI r * nI 16 + nI b = _
          rw [pk_mul, nI_add, nI_add, Nat.mul_comm]
        rw [if_pos (show nI 4 = (4 : Int32) from rfl), if_pos (show nI 4 = (4 : Int32) from rfl), open_C a5 n h0 hr hb, bd_mk]
        simp only [i1]
        rw [ck_t (inb_nI (by omega) (by decide)), nI_clamp (by omega), stM_ne (show (15 : Nat) ≠ 0 by decide), sR.2.2.2.2.2.2.2.2.2.2 r hr b hb16]
        have hs := sI.2.2.2.2.2.2 r hr
        rcases bitI_bit hb16 hs with z | z
        · rw [show (33 : Nat) + 6 = 39 from rfl] at z
          rw [bz_t z, if_neg (show ¬ (1 : Int32) = 0 by decide), show (33 : Nat) + 6 = 39 from rfl, z]
          exact ⟨_, _, _, rfl, rfl, h.th 0⟩
        · rw [show (33 : Nat) + 6 = 39 from rfl] at z
          rw [bz_f (by rw [z]; decide), if_pos rfl, show (33 : Nat) + 6 = 39 from rfl, z]
          exact ⟨_, _, _, rfl, rfl, h.th 0⟩
      · have n4 : ¬ nI j = (4 : Int32) := fun q => by have := (nI_eq (a := j) (b := 4) (by omega) (by omega)).mp q; omega
        rw [if_neg n4, if_neg n4, side_eq n rfl hr hb16 (show j < 4 by omega), bd_mk, stM_ne (show (5 : Nat) ≠ 0 by decide)]
        have c : f_X1_corner n (nI r) (nI b) (nI j) σ = some (τ 5 (4 * (16 * r + b) + j), σ) := by
          unfold f_X1_corner
          simp only [lt_eq, ixB]
          rcases (show j = 0 ∨ j = 1 ∨ j = 2 ∨ j = 3 by omega) with rfl | rfl | rfl | rfl
          · rw [if_pos (by decide), ck_t (inb_nI (by omega) (by decide)), nI_clamp (by omega), s0]
            rfl
          · rw [if_neg (by decide), if_pos (by decide), ck_t (inb_nI (by omega) (by decide)), nI_clamp (by omega), s1]
          · rw [if_neg (by decide), if_neg (by decide), if_pos (by decide), ck_t (inb_nI (by omega) (by decide)), nI_clamp (by omega), s2]
          · rw [if_neg (by decide), if_neg (by decide), if_neg (by decide), if_pos (by decide), ck_t (inb_nI (by omega) (by decide)), nI_clamp (by omega), s3]
        rw [c, bd_mk]
        exact ⟨_, _, _, rfl, rfl, h.th 0⟩
  · rw [bz_f e, if_pos rfl, if_pos rfl]
    exact ⟨_, _, _, rfl, rfl, h.th 0⟩
/-- gap of two spans within 0 .. 255 -/
theorem gap_eq (n : Nat) {a0 a1 b0 b1 : Int32} (s : Mem) (h0 : 0 ≤ a0.toInt ∧ a0.toInt ≤ 255) (h1 : 0 ≤ a1.toInt ∧ a1.toInt ≤ 255) (h2 : 0 ≤ b0.toInt ∧ b0.toInt ≤ 255) (h3 : 0 ≤ b1.toInt ∧ b1.toInt ≤ 255) : ∃ v : Nat, v ≤ 255 ∧ f_X11_gap n a0 a1 b0 b1 s = some (nI v, s) ∧ (v : Int) = gapI a0.toInt a1.toInt b0.toInt b1.toInt := by
  obtain ⟨p, hp, rfl⟩ : ∃ p, p ≤ 255 ∧ a0 = nI p := ⟨a0.toInt.toNat, by omega, nI_oT (by omega)⟩
  obtain ⟨q, hq, rfl⟩ : ∃ p, p ≤ 255 ∧ a1 = nI p := ⟨a1.toInt.toNat, by omega, nI_oT (by omega)⟩
  obtain ⟨u, hu, rfl⟩ : ∃ p, p ≤ 255 ∧ b0 = nI p := ⟨b0.toInt.toNat, by omega, nI_oT (by omega)⟩
  obtain ⟨w, hw, rfl⟩ : ∃ p, p ≤ 255 ∧ b1 = nI p := ⟨b1.toInt.toNat, by omega, nI_oT (by omega)⟩
  have m1 : (if nI p < nI u then nI u else nI p) = nI (max p u) := by
    by_cases e : p < u
    · rw [if_pos (nI_lt e (by omega)), Nat.max_eq_right (by omega)]
    · rw [if_neg (nI_nlt (by omega) (by omega)), Nat.max_eq_left (by omega)]
  have m2 : (if nI w < nI q then nI w else nI q) = nI (min q w) := by
    by_cases e : w < q
    · rw [if_pos (nI_lt e (by omega)), Nat.min_eq_right (by omega)]
    · rw [if_neg (nI_nlt (by omega) (by omega)), Nat.min_eq_left (by omega)]
  have l1 : max p u ≤ 255 := by omega
  have l2 : min q w ≤ 255 := by omega
  unfold f_X11_gap gapI
  rw [nI_toInt (by omega), nI_toInt (by omega), nI_toInt (by omega), nI_toInt (by omega)]
  simp only [m1, m2]
  by_cases e : min q w < max p u
  · refine ⟨max p u - min q w, by omega, ?_, by omega⟩
    rw [pk_sub (by omega), if_pos (show (0 : Int32) < nI (max p u - min q w) from nI_lt (a := 0) (by omega) (by omega))]
  · refine ⟨0, by omega, ?_, by omega⟩
    rw [if_neg (fun q9 => by have := lt_T.mp q9; rw [pk_sub_toInt (by omega) (by omega)] at this; have : (0 : Int) < (max p u : Nat) - (min q w : Nat) := this; omega)]
    rfl
theorem near_eq {σ τ τ' : Mem} {S : Nat} (h : PlayR σ τ S) (e5 : τ' 5 = τ 5) (n : Nat) {r b c : Nat} (hr : r < 21) (hb : b < cnt τ r) (hc : c < cnt τ r) [Decidable (nearP τ (16 * r + b) (16 * r + c))] : f_X11_near n (nI r) (nI b) (nI c) τ' = some (bz (nearP τ (16 * r + b) (16 * r + c)), τ') := by
  obtain ⟨c16, -, -, -, hbx⟩ := (h.2.2.2.2.1 r hr).c
  obtain ⟨⟨-, -, -, -, b1, b2, b3, b4, b5, b6⟩, -⟩ := hbx b hb
  obtain ⟨⟨-, -, -, -, d1, d2, d3, d4, d5, d6⟩, -⟩ := hbx c hc
  unfold f_X11_near b_X11_near_80
  rw [side_eq n (x := 0) (i := 0) rfl hr (by omega) (by omega), bd_mk, side_eq n (x := 2) (i := 2) rfl hr (by omega) (by omega), bd_mk, side_eq n (x := 0) (i := 0) rfl hr (by omega) (by omega), bd_mk, side_eq n (x := 2) (i := 2) rfl hr (by omega) (by omega), bd_mk, e5]
  obtain ⟨v, hv, g1, g2⟩ := gap_eq n (a0 := τ 5 (4 * (16 * r + b) + 0)) (a1 := τ 5 (4 * (16 * r + b) + 2)) (b0 := τ 5 (4 * (16 * r + c) + 0)) (b1 := τ 5 (4 * (16 * r + c) + 2)) τ' (by unfold sdM at *; omega) (by unfold sdM at *; omega) (by unfold sdM at *; omega) (by unfold sdM at *; omega)
  rw [g1, bd_mk, side_eq n (x := 1) (i := 1) rfl hr (by omega) (by omega), bd_mk, side_eq n (x := 3) (i := 3) rfl hr (by omega) (by omega), bd_mk, side_eq n (x := 1) (i := 1) rfl hr (by omega) (by omega), bd_mk, side_eq n (x := 3) (i := 3) rfl hr (by omega) (by omega), bd_mk, e5]
  obtain ⟨w, hw, g3, g4⟩ := gap_eq n (a0 := τ 5 (4 * (16 * r + b) + 1)) (a1 := τ 5 (4 * (16 * r + b) + 3)) (b0 := τ 5 (4 * (16 * r + c) + 1)) (b1 := τ 5 (4 * (16 * r + c) + 3)) τ' (by unfold sdM at *; omega) (by unfold sdM at *; omega) (by unfold sdM at *; omega) (by unfold sdM at *; omega)
  rw [g3, bd_mk, nI_add]
  have hP : nearP τ (16 * r + b) (16 * r + c) ↔ v + w ≤ 1 := by
    unfold nearP sdM
    rw [← g2, ← g4]
    omega
  by_cases e : v + w ≤ 1
  · rw [if_neg (show ¬ (1 : Int32) < nI (v + w) from nI_nlt (a := 1) (b := v + w) (by omega) (by omega)), ck_t okZ1, bz_t (hP.mpr e)]
  · rw [if_pos (show (1 : Int32) < nI (v + w) from nI_lt (a := 1) (b := v + w) (by omega) (by omega)), ck_t okZ0, bz_f (fun q => e (hP.mp q))]
theorem sim_neighbours {t : Nat} {σ τ : Mem} (h : Rel t σ τ) (n : Nat) (x y z : Int32) : Sim t (f_X10_neighbours n x y z σ) (f_X11_neighbours n x y z τ) := by
  obtain ⟨T, S, -, -, a5, -⟩ := id h
  haveI : Decidable (isBx τ x y) := Classical.propDecidable _
  haveI : Decidable (isBx τ x z) := Classical.propDecidable _
  unfold f_X10_neighbours f_X11_neighbours b_X10_neighbours_24 b_X11_neighbours_23 b_X11_neighbours_42
  rw [lt_eq, hasBox_eq a5 n x y, isBox_eq a5 n x y (stM_ne (by decide)), bd_mk, bd_mk]
  by_cases e : isBx τ x y
  · rw [bz_t e, if_neg (show ¬ (1 : Int32) = 0 by decide), if_neg (show ¬ (1 : Int32) = 0 by decide), hasBox_eq a5 n x z, isBox_eq a5 n x z (stM_ne (by decide)), bd_mk, bd_mk]
    by_cases e2 : isBx τ x z
    · rw [bz_t e2, if_neg (show ¬ (1 : Int32) = 0 by decide), if_neg (show ¬ (1 : Int32) = 0 by decide)]
      obtain ⟨r, b, h0, hr, hb, hb16, rfl, rfl⟩ := isBx_nI e a5.cs
      obtain ⟨r2, c, -, hr2, hc, hc16, hx, rfl⟩ := isBx_nI e2 a5.cs
      have er : r2 = r := ((nI_eq (by omega) (by omega)).mp hx).symm
      subst er
      haveI : Decidable (nearP τ (16 * r2 + b) (16 * r2 + c)) := Classical.propDecidable _
      obtain ⟨-, -, -, -, hbx⟩ := (a5.2.2.2.2.1 r2 hr).c
      obtain ⟨-, -, -, hbit⟩ := hbx b hb
      obtain ⟨p1, p2⟩ := hbit c hc16
      simp only [ixB]
      rw [ck_t (inb_nI (by omega) (by decide)), nI_clamp (by omega), near_eq a5 (stM_ne (by decide)) n hr hb hc, bd_mk]
      show Sim t (some (bitI (σ 115 (16 * r2 + b)) c, σ)) _
      by_cases q : nearP τ (16 * r2 + b) (16 * r2 + c)
      · rw [bz_t q, if_neg (show ¬ (1 : Int32) = 0 by decide), p2.mpr ⟨hc, q⟩]
        exact ⟨_, _, _, rfl, rfl, h.th 0⟩
      · rw [bz_f q, if_pos rfl, p1.resolve_right (fun w => q (p2.mp w).2)]
        exact ⟨_, _, _, rfl, rfl, h.th 0⟩
    · rw [bz_f e2, if_pos rfl, if_pos rfl]
      exact ⟨_, _, _, rfl, rfl, h.th 0⟩
  · rw [bz_f e, if_pos rfl, if_pos rfl]
    exact ⟨_, _, _, rfl, rfl, h.th 0⟩
