/-! ===== slot, start, say ===== -/
theorem StI.slotw {σ σ' : Mem} {b t i0 : Nat} (h : StI σ b t) (h0 : i0 < 8) (hb : b = 33 ∨ b = 71) (hag : ∀ k, k ≠ b + 9 + 2 * i0 → k ≠ b + 10 + 2 * i0 → σ' k = σ k) (hS : SlotI σ' (b + 9 + 2 * i0)) : StI σ' b t := by
  obtain ⟨a1, a2, a3, a4, a5, a6, a7⟩ := h
  have eb : σ' b = σ b := hag b (by omega) (by omega)
  have e23 : σ' 23 = σ 23 := hag 23 (by omega) (by omega)
  have e29 : σ' 29 = σ 29 := hag 29 (by omega) (by omega)
  refine ⟨by rw [eb]; exact a1, by rw [eb]; exact a2, by rw [eb]; exact a3, by rw [eb]; exact a4, ?_, ?_, ?_⟩
  · intro i hi
    by_cases e : i = i0
    · subst e
      exact hS
    · have := a5 i hi
      unfold SlotI at this ⊢
      rw [hag (b + 9 + 2 * i) (by omega) (by omega), hag (b + 9 + 2 * i + 1) (by omega) (by omega), e23, e29]
      exact this
  · intro a ha
    have := a6 a ha
    unfold ActI at this ⊢
    rw [hag (b + 25 + a) (by omega) (by omega), e29]
    exact this
  · rw [hag (b + 6) (by omega) (by omega)]
    exact a7
theorem freeM_id {s : Mem} {i : Nat} (h : ∀ z, 70 + 10 * i ≤ z → z < 80 + 10 * i → s 15 z = 0) : freeM s i = s := by
  funext a b
  unfold freeM rwM
  by_cases ha : a = 15
  · subst ha
    rw [if_pos rfl]
    by_cases hb : 70 + 10 * i ≤ b ∧ b < 80 + 10 * i
    · rw [if_pos hb, h b hb.1 hb.2]
    · rw [if_neg hb]
  · rw [if_neg ha]
/-- a free slot is 0 all over on the model's side too -/
theorem free_row {σ : Mem} {b t : Nat} {ρ : Nat → Int32} {i : Nat} (h : StR σ b ρ) (hI : StI σ b t) (hi : i < 8) (h0 : σ (b + 9 + 2 * i) 0 = 0) : ∀ z, 70 + 10 * i ≤ z → z < 80 + 10 * i → ρ z = 0 := by
  intro z h1 h2
  obtain ⟨-, -, f, -⟩ := hI.2.2.2.2.1 i hi
  obtain ⟨f1, f2, f3, f4, f5, f6⟩ := f h0
  by_cases e : z < 76 + 10 * i
  · obtain ⟨j, rfl⟩ : ∃ j, z = 70 + 10 * i + j := ⟨z - (70 + 10 * i), by omega⟩
    rw [h.2.2.1 i hi j (by omega)]
    rcases (show j = 0 ∨ j = 1 ∨ j = 2 ∨ j = 3 ∨ j = 4 ∨ j = 5 by omega) with rfl | rfl | rfl | rfl | rfl | rfl
    · exact h0
    · exact f1
    · exact f2
    · exact f3
    · exact f4
    · exact f5
  · obtain ⟨j, rfl⟩ : ∃ j, z = 76 + 10 * i + j := ⟨z - (76 + 10 * i), by omega⟩
    rw [h.2.2.2.1 i hi j (by omega), show b + 10 + 2 * i = b + 9 + 2 * i + 1 by omega]
    exact f6 j (by omega)
theorem bo {v : Int32} (h : okZ v) : (if v = 0 then (0 : Int32) else 1) = v := by
  rcases h with rfl | rfl <;> rfl
theorem number_lo (n q : Nat) (s : Mem) (h4 : okZ (s q 4)) (h5 : okZ (s q 5)) {j : Nat} (hj : j < 6) : f_X6_number n q (nI j) s = some (s q j, s) := by
  unfold f_X6_number b_X6_number_72 b_X6_number_85
  rcases (show j = 0 ∨ j = 1 ∨ j = 2 ∨ j = 3 ∨ j = 4 ∨ j = 5 by omega) with rfl | rfl | rfl | rfl | rfl | rfl
  · rw [if_pos (by decide)]
  · rw [if_neg (by decide), if_pos (by decide)]
  · rw [if_neg (by decide), if_neg (by decide), if_pos (by decide)]
  · rw [if_neg (by decide), if_neg (by decide), if_neg (by decide), if_pos (by decide)]
  · rw [if_neg (by decide), if_neg (by decide), if_neg (by decide), if_neg (by decide), if_pos (by decide)]
    rcases h4 with e | e <;> rw [e] <;> rfl
  · rw [if_neg (by decide), if_neg (by decide), if_neg (by decide), if_neg (by decide), if_neg (by decide), if_pos (by decide)]
    rcases h5 with e | e <;> rw [e] <;> rfl
theorem number_hi (n q : Nat) (s : Mem) {j : Nat} (hj : j < 4) : f_X6_number n q (nI (6 + j)) s = some (s (q + 1) j, s) := by
  have g : (nI (6 + j)).toInt = ((6 + j : Nat) : Int) := nI_toInt (by omega)
  unfold f_X6_number b_X6_number_111
  rw [if_neg (by rw [g]; omega), if_neg (by rw [g]; omega), if_neg (by rw [g]; omega), if_neg (by rw [g]; omega), if_neg (by rw [g]; omega), if_neg (by rw [g]; omega), show (6 : Int32) = nI 6 from rfl, show (10 : Int32) = nI 10 from rfl, if_neg (nI_nlt (by omega) (by omega)), if_neg (nI_ge (by omega) (by omega)), pk_sub (by omega), show 6 + j - 6 = j by omega, ck_t (inb_nI hj (by decide)), nI_clamp (by omega)]
theorem number_out (n q : Nat) (s : Mem) {w : Int32} (hw : w.toInt < 0 ∨ 10 ≤ w.toInt) : f_X6_number n q w s = some (-1, s) := by
  unfold f_X6_number b_X6_number_110 b_X6_number_111
  rw [if_neg (by omega), if_neg (by omega), if_neg (by omega), if_neg (by omega), if_neg (by omega), if_neg (by omega)]
  by_cases h : w < 6
  · rw [if_pos h]
  · rw [if_neg h, if_pos ((le_T (x := 10) (y := w)).mpr (show (10 : Int) ≤ w.toInt by have : ¬ w.toInt < 6 := fun e => h (lt_T.mpr e); omega))]
theorem sim_slot {t : Nat} {σ τ : Mem} (h : Rel t σ τ) (n : Nat) (x w : Int32) : Sim t (f_X10_slot n x w σ) (f_X11_slot n x w τ) := by
  obtain ⟨sR, sI⟩ := h.st
  unfold f_X10_slot f_X11_slot b_X10_slot_10 b_X11_slot_38 b_X11_slot_39
  simp only [lt_eq]
  rcases pk_ix x (n := 8) (by decide) with hx | hx | ⟨i, hi, rfl⟩
  · have g : x.toInt < 0 := lt_T.mp hx
    rw [if_pos hx, in_f n x 0 7 _ (by show ¬ ((0 : Int) ≤ x.toInt ∧ x.toInt ≤ 7); omega), bd_mk, if_pos rfl]
    exact ⟨_, _, _, rfl, rfl, h.th 0⟩
  · have g : 8 ≤ x.toInt := le_T.mp hx
    rw [if_neg (fun q => by have : x.toInt < 0 := lt_T.mp q; omega), if_neg (fun q => by have : x.toInt < 8 := lt_T.mp q; omega), in_f n x 0 7 _ (by show ¬ ((0 : Int) ≤ x.toInt ∧ x.toInt ≤ 7); omega), bd_mk, if_pos rfl]
    exact ⟨_, _, _, rfl, rfl, h.th 0⟩
  · have g : (nI i).toInt = (i : Int) := nI_toInt (by omega)
    have hs := sI.2.2.2.2.1 i hi
    rw [if_neg (nI_pos (by omega)), show (8 : Int32) = nI 8 from rfl, if_pos (nI_lt hi (by omega)), ck_t (inb_nI hi (by decide)), nI_clamp (by omega), in_t n (nI i) 0 7 _ (by rw [g]; show (0 : Int) ≤ i ∧ (i : Int) ≤ 7; omega), bd_mk, if_neg (by decide)]
    rcases pk_ix w (n := 10) (by decide) with hw | hw | ⟨j, hj, rfl⟩
    · have g2 : w.toInt < 0 := lt_T.mp hw
      rw [number_out n _ _ (Or.inl g2), bd_mk, in_f n w 0 9 _ (by show ¬ ((0 : Int) ≤ w.toInt ∧ w.toInt ≤ 9); omega), bd_mk, if_pos rfl]
      exact ⟨_, _, _, rfl, rfl, h.th 0⟩
    · have g2 : 10 ≤ w.toInt := le_T.mp hw
      rw [number_out n _ _ (Or.inr g2), bd_mk, in_f n w 0 9 _ (by show ¬ ((0 : Int) ≤ w.toInt ∧ w.toInt ≤ 9); omega), bd_mk, if_pos rfl]
      exact ⟨_, _, _, rfl, rfl, h.th 0⟩
    · have g2 : (nI j).toInt = (j : Int) := nI_toInt (by omega)
      rw [in_t n (nI j) 0 9 _ (by rw [g2]; show (0 : Int) ≤ j ∧ (j : Int) ≤ 9; omega), bd_mk, if_neg (by decide), of_eq n hi hj, bd_mk, stM_ne (show (15 : Nat) ≠ 0 by decide)]
      by_cases e : j < 6
      · rw [number_lo n _ _ hs.1 hs.2.1 e, bd_mk, sR.2.2.1 i hi j e]
        exact ⟨_, _, _, rfl, rfl, h.th 0⟩
      · obtain ⟨k, rfl⟩ : ∃ k, j = 6 + k := ⟨j - 6, by omega⟩
        rw [number_hi n _ _ (show k < 4 by omega), bd_mk, show 70 + 10 * i + (6 + k) = 76 + 10 * i + k by omega, sR.2.2.2.1 i hi k (by omega), show 40 + 2 + 2 * i + 1 = 33 + 10 + 2 * i by omega]
        exact ⟨_, _, _, rfl, rfl, h.th 0⟩
theorem scr_iff {σ τ : Mem} {S : Nat} (h : PlayR σ τ S) (hS : S ≤ 6000) {x : Int32} (hx : 0 < x.toInt ∧ x.toInt < 61) : σ 23 x.toNatClampNeg ≠ 0 ↔ 0 < (τ 7 x.toNatClampNeg).toInt := by
  have hq : x.toNatClampNeg < 61 := by show x.toInt.toNat < 61; omega
  rcases h.2.1 _ hq with ⟨e1, e2⟩ | ⟨p, e, h1, h2, h3, e1, e2, e3, e4⟩
  · rw [e1, e2]
    exact ⟨fun q => absurd rfl q, fun q => absurd q (by decide)⟩
  · rw [e1, e4, nI_toInt (by omega)]
    exact ⟨fun _ => by omega, fun _ => nI_ne0 h1 (by omega)⟩
theorem stM_id {s : Mem} {k j : Nat} {v : Int32} (h : s k j = v) : stM s k j v = s := by
  funext a b
  unfold stM
  by_cases ha : a = k
  · subst ha
    by_cases hb : b = j
    · subst hb
      rw [if_pos rfl, if_pos rfl, h]
    · rw [if_pos rfl, if_neg hb]
  · rw [if_neg ha]
/-- a script begins in a free slot: both stages -/
theorem StI.begin {σ : Mem} {t i c : Nat} (h : StI σ 33 t) (hi : i < 8) (h0 : σ (42 + 2 * i) 0 = 0) (hc : 0 < c) (hc2 : c < 61) (hs : σ 23 c ≠ 0) {b : Int32} (hb : okZ b) : StI (stM (stM σ (42 + 2 * i) 0 (nI c)) (42 + 2 * i) 5 b) 33 t := by
  obtain ⟨f1, f2, f3, f4, f5, f6, f7⟩ := h.2.2.2.2.1 i hi
  rw [show 33 + 9 + 2 * i = 42 + 2 * i by omega] at f1 f2 f3 f4 f5 f6 f7
  obtain ⟨g1, g2, g3, g4, g5, g6⟩ := f3 h0
  refine h.slotw hi (Or.inl rfl) (fun k h1 h2 => by rw [stM_ne (by omega), stM_ne (by omega)]) ?_
  rw [show 33 + 9 + 2 * i = 42 + 2 * i by omega]
  have e0 : stM (stM σ (42 + 2 * i) 0 (nI c)) (42 + 2 * i) 5 b (42 + 2 * i) 0 = nI c := by rw [stM_far (Or.inr (by decide)), stM_hit]
  have ej : ∀ j, j ≠ 0 → j ≠ 5 → stM (stM σ (42 + 2 * i) 0 (nI c)) (42 + 2 * i) 5 b (42 + 2 * i) j = σ (42 + 2 * i) j := fun j a1 a2 => by rw [stM_far (Or.inr a2), stM_far (Or.inr a1)]
  have e23 : stM (stM σ (42 + 2 * i) 0 (nI c)) (42 + 2 * i) 5 b 23 = σ 23 := by rw [stM_ne (by omega), stM_ne (by omega)]
  unfold SlotI
  rw [e0, e23, ej 1 (by decide) (by decide), ej 3 (by decide) (by decide), ej 4 (by decide) (by decide), stM_hit]
  refine ⟨f1, hb, fun e => absurd e (nI_ne0 hc (by omega)), fun _ => ⟨c, hc, hc2, rfl, hs⟩, f5, f6, Or.inl g3⟩
theorem sim_start {t : Nat} {σ τ : Mem} (h : Rel t σ τ) {n : Nat} (hn : 10000 ≤ n) (x : Int32) : Sim t (f_X10_start n x σ) (f_X11_start n x τ) := by
  obtain ⟨sR, sI⟩ := h.st
  obtain ⟨T, S, -, ⟨a3, -⟩, a5, -⟩ := id h
  unfold f_X10_start f_X11_start
  rw [lt_eq, startScript_eq (by omega) x 0 okZ0, started_eq (by omega) x, stM_ne (show (7 : Nat) ≠ 0 by decide), stM_ne (show (15 : Nat) ≠ 0 by decide)]
  have hc : (0 < x.toInt ∧ x.toInt < 61 ∧ σ 23 x.toNatClampNeg ≠ 0) ↔ (0 < x.toInt ∧ x.toInt < 61 ∧ 0 < (τ 7 x.toNatClampNeg).toInt) := by
    constructor
    · rintro ⟨p, q, r⟩
      exact ⟨p, q, (scr_iff a5 a3.2.1 ⟨p, q⟩).mp r⟩
    · rintro ⟨p, q, r⟩
      exact ⟨p, q, (scr_iff a5 a3.2.1 ⟨p, q⟩).mpr r⟩
  by_cases e : 0 < x.toInt ∧ x.toInt < 61 ∧ σ 23 x.toNatClampNeg ≠ 0
  · rw [if_pos e, if_pos (hc.mp e)]
    have hf : ffd (fun i => τ 15 (70 + 10 * i) = 0) 0 8 = ffd (fun i => σ (42 + 2 * i) 0 = 0) 0 8 := ffd_c _ _ (fun i _ hi => by
      have := sR.2.2.1 i (by omega) 0 (by decide)
      rw [show 33 + 9 + 2 * i = 42 + 2 * i by omega, Nat.add_zero] at this
      rw [this])
    rw [hf]
    obtain ⟨c, hc1, hc2, rfl⟩ : ∃ c, 0 < c ∧ c < 61 ∧ x = nI c := ⟨x.toInt.toNat, by omega, by omega, nI_oT (by omega)⟩
    cases e9 : ffd (fun i => σ (42 + 2 * i) 0 = 0) 0 8 with
    | none =>
      dsimp only [bd_mk]
      refine ⟨_, _, _, rfl, rfl, ?_⟩
      refine h.step (fun j h1 h2 _ _ _ _ => by rw [stM_far (Or.inl (by decide)), stM_far (Or.inr h2)]) (stM_ne (by decide)) (agr_st (Or.inr (by omega))) (agr_st (Or.inr (by omega))) ⟨stM_far (Or.inl (by decide)), stM_far (Or.inl (by decide))⟩ (agr_st (Or.inl (by omega))) (agr_tr (agr_st (Or.inl (by omega))) (agr_st (Or.inr (by omega)))) (by rw [stM_ne (by decide), stM_ne (by decide)]) ?_
      rw [stM_row, stM_ne (show (15 : Nat) ≠ 0 by decide), sR.1 4 (by decide)]
      exact ⟨sR.sc4 sI.2.1 _, (sI.wr (fun _ => by decide) (fun i h => by omega) (fun a h => by omega) (by decide) (by decide) (by decide)).up⟩
    | some i =>
      obtain ⟨-, hi, h0⟩ := ffd_s _ _ _ e9
      have hi : i < 8 := by omega
      have hfr := free_row sR sI hi (by rw [show 33 + 9 + 2 * i = 42 + 2 * i by omega]; exact h0)
      have z5 : σ (42 + 2 * i) 5 = 0 := by
        have := (sI.2.2.2.2.1 i hi).2.2.1
        rw [show 33 + 9 + 2 * i = 42 + 2 * i by omega] at this
        exact (this h0).2.2.2.2.1
      dsimp only [bd_mk]
      rw [freeM_id (s := stM τ 0 0 0) (by rw [stM_ne (show (15 : Nat) ≠ 0 by decide)]; exact hfr)]
      refine ⟨_, _, _, rfl, rfl, ?_⟩
      have key := sI.begin hi h0 hc1 hc2 (by rw [nI_clamp (by omega)] at e; exact e.2.2) (b := 0) okZ0
      rw [stM_id (s := stM σ (42 + 2 * i) 0 (nI c)) (v := 0) (by rw [stM_far (Or.inr (by decide))]; exact z5)] at key ⊢
      refine h.step (fun j h1 h2 _ _ _ _ => by rw [stM_far (Or.inl (by decide)), stM_far (Or.inr h2)]) (stM_ne (by omega)) (agr_st (Or.inr (by omega))) (agr_st (Or.inr (by omega))) ⟨stM_far (Or.inl (by omega)), stM_far (Or.inl (by omega))⟩ (agr_st (Or.inl (by omega))) (agr_tr (agr_st (Or.inl (by omega))) (agr_st (Or.inr (by omega)))) (by rw [stM_ne (by decide), stM_ne (by decide)]) ?_
      rw [stM_row, stM_ne (show (15 : Nat) ≠ 0 by decide)]
      refine ⟨?_, key.up⟩
      have := sR.slot (i0 := i) (j0 := 0) sI.2.1 (nI c) hi (by decide)
      rw [show 33 + 9 + 2 * i = 42 + 2 * i by omega, Nat.add_zero] at this
      exact this
  · rw [if_neg e, if_neg (fun q => e (hc.mpr q))]
    exact ⟨_, _, _, rfl, rfl, h.th 0⟩
