/-! ===== say, note, sentence, walk ===== -/
theorem StI.w {σ : Mem} {b t : Nat} (h : StI σ b t) : ∃ k, k ≤ 6 ∧ σ b 5 = nI k := ⟨(σ b 5).toInt.toNat, by have := h.1; have := h.2.1; omega, nI_oT (by have := h.1; omega)⟩
theorem StI.nd {σ : Mem} {b t : Nat} (h : StI σ b t) : ∃ N, N ≤ 480000 * t ∧ σ b 2 = nI N := ⟨(σ b 2).toInt.toNat, by have := h.2.2.1; have := h.2.2.2.1; omega, nI_oT (by have := h.2.2.1; omega)⟩
theorem addS_lt (n : Nat) {k : Nat} (x y z : Int32) (s : Mem) (hk : k < 6) (hs : s 33 5 = nI k) : f_X7_addSentence n 33 x y z s = some (1, stM (stM (stM (stM s 36 (3 * k) x) 36 (3 * k + 1) y) 36 (3 * k + 2) z) 33 5 (nI (k + 1))) := by
  unfold f_X7_addSentence
  simp only [lt_eq]
  rw [hs, show (6 : Int32) = nI 6 from rfl, if_pos (nI_lt hk (by omega)), show nI k * (3 : Int32) = nI (3 * k) by (show nI k * nI 3 = _; rw [pk_mul, Nat.mul_comm]), show nI (3 * k) + (1 : Int32) = nI (3 * k + 1) from nI_1 _, show nI (3 * k) + (2 : Int32) = nI (3 * k + 2) by (show nI (3 * k) + nI 2 = _; rw [nI_add]), ck_t (inb_nI (by omega) (by decide)), ck_t (inb_nI (by omega) (by decide)), ck_t (inb_nI (by omega) (by decide)), ck_t okZ1, nI_clamp (by omega), nI_clamp (by omega), nI_clamp (by omega)]
  rw [stM_far (a := 33) (Or.inl (by decide)), stM_far (a := 33) (Or.inl (by decide)), stM_far (a := 33) (Or.inl (by decide)), hs, nI_1]
theorem addS_ge (n : Nat) {k : Nat} (x y z : Int32) (s : Mem) (hk : ¬ k < 6) (hk2 : k ≤ 6) (hs : s 33 5 = nI k) : f_X7_addSentence n 33 x y z s = some (0, stM s 33 4 (s 33 4 + 1)) := by
  unfold f_X7_addSentence
  rw [hs, show (6 : Int32) = nI 6 from rfl, if_neg (nI_nlt (by omega) (by omega)), lt_eq, ck_t okZ0]
theorem cl0 : (0 : Int32).toNatClampNeg = 0 := rfl
theorem cl1 : (1 : Int32).toNatClampNeg = 1 := rfl
theorem cl2 : (2 : Int32).toNatClampNeg = 2 := rfl
theorem cl3 : (3 : Int32).toNatClampNeg = 3 := rfl
theorem cl4 : (4 : Int32).toNatClampNeg = 4 := rfl
theorem cl5 : (5 : Int32).toNatClampNeg = 5 := rfl
theorem says_lt (n : Nat) {k : Nat} (x y z : Int32) (s : Mem) (hk : k < 6) (hs : s 15 5 = nI k) : f_X11_says n x y z s = some (nI (k + 1), stM (stM (stM (stM s 15 (150 + 3 * k) x) 15 (150 + (3 * k + 1)) y) 15 (150 + (3 * k + 2)) z) 15 5 (nI (k + 1))) := by
  unfold f_X11_says
  have i0 : (150 : Int32) + (3 : Int32) * nI k = nI (150 + 3 * k) := by
    show nI 150 + nI 3 * nI k = _
    rw [pk_mul, nI_add]
  have i1 : nI (150 + 3 * k) + (1 : Int32) = nI (150 + (3 * k + 1)) := by
    rw [nI_1]
    rfl
  have i2 : nI (150 + 3 * k) + (2 : Int32) = nI (150 + (3 * k + 2)) := by
    show nI (150 + 3 * k) + nI 2 = _
    rw [nI_add]
    rfl
  simp only [lt_eq, cl5, cl4, hs, i0, i1, i2]
  rw [ck_t (by decide), if_neg (fun e => by have := (nI_eq (a := k) (b := 6) (by omega) (by omega)).mp e; omega), ck_t (by decide), ck_t (inb_nI (by omega) (by decide)), ck_t (inb_nI (by omega) (by decide)), ck_t (inb_nI (by omega) (by decide)), ck_t (by decide), ck_t (by decide), ck_t (by decide), nI_clamp (by omega), nI_clamp (by omega), nI_clamp (by omega)]
  rw [stM_hit, stM_far (b := 5) (Or.inr (by omega)), stM_far (b := 5) (Or.inr (by omega)), stM_far (b := 5) (Or.inr (by omega)), hs, nI_1]
theorem says_ge (n : Nat) (x y z : Int32) (s : Mem) (hs : s 15 5 = nI 6) : f_X11_says n x y z s = some (-1, stM s 15 4 (s 15 4 + 1)) := by
  unfold f_X11_says
  simp only [lt_eq, cl5, cl4, hs]
  rw [ck_t (by decide), if_pos (show nI 6 = (6 : Int32) from rfl), ck_t (by decide), ck_t (by decide)]
/-- a sentence more: both stages -/
theorem StR.say {σ : Mem} {ρ : Nat → Int32} {k t : Nat} (h : StR σ 33 ρ) (hI : StI σ 33 t) (hk : k < 6) (hs : σ 33 5 = nI k) (x y z : Int32) : StR (stM (stM (stM (stM σ 36 (3 * k) x) 36 (3 * k + 1) y) 36 (3 * k + 2) z) 33 5 (nI (k + 1))) 33 (upd (upd (upd (upd ρ (150 + 3 * k) x) (150 + (3 * k + 1)) y) (150 + (3 * k + 2)) z) 5 (nI (k + 1))) := by
  have h1 := StR.sen h hI.2.1 x (i0 := 3 * k) (by omega)
  have h2 := StR.sen h1 (by rw [stM_far (Or.inl (by decide))]; exact hI.2.1) y (i0 := 3 * k + 1) (by omega)
  have h3 := StR.sen h2 (by rw [stM_far (Or.inl (by decide)), stM_far (Or.inl (by decide))]; exact hI.2.1) z (i0 := 3 * k + 2) (by omega)
  refine StR.wait h3 (by rw [stM_far (Or.inl (by decide)), stM_far (Or.inl (by decide)), stM_far (Or.inl (by decide))]; exact hI.2.1) _ (by rw [nI_toInt (by omega)]; omega) ?_
  intro j hj
  rw [nI_toInt (by omega)] at hj
  by_cases e : j < 3 * k
  · refine h3.2.2.2.2.1 j ?_
    rw [stM_far (Or.inl (by decide)), stM_far (Or.inl (by decide)), stM_far (Or.inl (by decide)), hs, nI_toInt (by omega)]
    omega
  · rcases (show j = 3 * k ∨ j = 3 * k + 1 ∨ j = 3 * k + 2 by omega) with rfl | rfl | rfl
    · rw [pk_un (by omega), pk_un (by omega), pk_us, stM_far (Or.inr (by omega)), stM_far (Or.inr (by omega)), stM_hit]
    · rw [pk_un (by omega), pk_us, stM_far (Or.inr (by omega)), stM_hit]
    · rw [pk_us, stM_hit]
theorem StI.say {σ : Mem} {k t : Nat} (hI : StI σ 33 t) (hk : k < 6) (x y z : Int32) : StI (stM (stM (stM (stM σ 36 (3 * k) x) 36 (3 * k + 1) y) 36 (3 * k + 2) z) 33 5 (nI (k + 1))) 33 t := by
  have h1 : StI (stM (stM (stM σ 36 (3 * k) x) 36 (3 * k + 1) y) 36 (3 * k + 2) z) 33 t := ((hI.wr (by omega) (fun i h => by omega) (fun a h => by omega) (by decide) (by decide) (by decide)).wr (by omega) (fun i h => by omega) (fun a h => by omega) (by decide) (by decide) (by decide)).wr (by omega) (fun i h => by omega) (fun a h => by omega) (by decide) (by decide) (by decide)
  obtain ⟨a1, a2, a3, a4, a5, a6, a7⟩ := h1
  generalize stM (stM (stM σ 36 (3 * k) x) 36 (3 * k + 1) y) 36 (3 * k + 2) z = σ' at *
  refine ⟨by rw [stM_hit, nI_toInt (by omega)]; omega, by rw [stM_hit, nI_toInt (by omega)]; omega, by rw [stM_far (Or.inr (by decide))]; exact a3, by rw [stM_far (Or.inr (by decide))]; exact a4, ?_, ?_, ?_⟩
  · intro i hi
    have := a5 i hi
    unfold SlotI at this ⊢
    rw [stM_ne (show 33 + 9 + 2 * i ≠ 33 by omega), stM_ne (show 33 + 9 + 2 * i + 1 ≠ 33 by omega), stM_ne (show (23 : Nat) ≠ 33 by decide), stM_ne (show (29 : Nat) ≠ 33 by decide)]
    exact this
  · intro a ha
    have := a6 a ha
    unfold ActI at this ⊢
    rw [stM_ne (show 33 + 25 + a ≠ 33 by omega), stM_ne (show (29 : Nat) ≠ 33 by decide)]
    exact this
  · rw [stM_ne (show 33 + 6 ≠ 33 by decide)]
    exact a7
theorem sim_say {t : Nat} {σ τ : Mem} (h : Rel t σ τ) (n : Nat) (x y z : Int32) : Sim t (f_X10_say n x y z σ) (f_X11_say n x y z τ) := by
  obtain ⟨sR, sI⟩ := h.st
  obtain ⟨k, hk6, hk⟩ := sI.w
  have hm : stM τ 0 0 0 15 5 = nI k := by rw [stM_far (Or.inl (by decide)), sR.1 5 (by decide), hk]
  unfold f_X10_say f_X11_say b_X10_say_24
  rw [lt_eq]
  by_cases e : k < 6
  · rw [addS_lt n x y z σ e hk, says_lt n x y z _ e hm, bd_mk, bd_mk, if_neg (by decide), stM_hit]
    refine ⟨_, _, _, rfl, rfl, ?_⟩
    refine h.step (fun j h1 h2 _ _ _ _ => by rw [stM_far (Or.inl (by decide)), stM_far (Or.inl (by decide)), stM_far (Or.inl (by decide)), stM_far (Or.inl (by decide)), stM_far (Or.inr h2)]) (by rw [stM_ne (by decide), stM_ne (by decide), stM_ne (by decide), stM_ne (by decide)]) ?_ ?_ ⟨?_, ?_⟩ ?_ ?_ ?_ ?_
    · exact agr_tr (agr_tr (agr_tr (agr_st (Or.inr (by omega))) (agr_st (Or.inr (by omega)))) (agr_st (Or.inr (by omega)))) (agr_st (Or.inr (by omega)))
    · exact agr_tr (agr_tr (agr_tr (agr_st (Or.inr (by omega))) (agr_st (Or.inr (by omega)))) (agr_st (Or.inr (by omega)))) (agr_st (Or.inr (by omega)))
    · rw [stM_far (Or.inl (by decide)), stM_far (Or.inl (by decide)), stM_far (Or.inl (by decide)), stM_far (Or.inl (by decide))]
    · rw [stM_far (Or.inl (by decide)), stM_far (Or.inl (by decide)), stM_far (Or.inl (by decide)), stM_far (Or.inl (by decide))]
    · exact agr_tr (agr_tr (agr_tr (agr_st (Or.inl (by omega))) (agr_st (Or.inl (by omega)))) (agr_st (Or.inl (by omega)))) (agr_st (Or.inl (by omega)))
    · exact agr_tr (agr_tr (agr_tr (agr_tr (agr_st (Or.inl (by omega))) (agr_st (Or.inr (by omega)))) (agr_st (Or.inr (by omega)))) (agr_st (Or.inr (by omega)))) (agr_st (Or.inr (by omega)))
    · rw [stM_ne (by decide), stM_ne (by decide), stM_ne (by decide), stM_ne (by decide), stM_ne (by decide)]
    · rw [stM_row, stM_row, stM_row, stM_row, stM_ne (show (15 : Nat) ≠ 0 by decide)]
      exact ⟨sR.say sI e hk x y z, (sI.say e x y z).up⟩
  · have e6 : k = 6 := by omega
    subst e6
    rw [addS_ge n x y z σ e hk6 hk, says_ge n x y z _ hm, bd_mk, bd_mk, if_pos rfl]
    refine ⟨_, _, _, rfl, rfl, ?_⟩
    refine h.step (fun j h1 h2 _ _ _ _ => by rw [stM_far (Or.inl (by decide)), stM_far (Or.inr h2)]) (stM_ne (by decide)) (agr_st (Or.inr (by omega))) (agr_st (Or.inr (by omega))) ⟨stM_far (Or.inl (by decide)), stM_far (Or.inl (by decide))⟩ (agr_st (Or.inl (by omega))) (agr_tr (agr_st (Or.inl (by omega))) (agr_st (Or.inr (by omega)))) (by rw [stM_ne (by decide), stM_ne (by decide)]) ?_
    rw [stM_row, stM_ne (show (15 : Nat) ≠ 0 by decide), sR.1 4 (by decide)]
    exact ⟨sR.sc4 sI.2.1 _, (sI.wr (fun _ => by decide) (fun i h => by omega) (fun a h => by omega) (by decide) (by decide) (by decide)).up⟩
theorem sim_sentence {t : Nat} {σ τ : Mem} (h : Rel t σ τ) (n : Nat) (x w : Int32) : SimX t (f_X10_sentence n x w σ) (f_X11_sentence n x w τ) := by
  obtain ⟨sR, sI⟩ := h.st
  obtain ⟨k, hk6, hk⟩ := sI.w
  have hm : stM τ 0 0 0 15 5 = nI k := by rw [stM_far (Or.inl (by decide)), sR.1 5 (by decide), hk]
  have hhi : ((nI k - (1 : Int32)).toInt64).toInt = (k : Int) - 1 := by
    rw [Int32.toInt_toInt64]
    exact pk_sub_toInt (b := 1) (by omega) (by omega)
  unfold f_X10_sentence f_X11_sentence b_X10_sentence_24 b_X11_sentence_52 b_X11_sentence_56
  simp only [lt_eq, cl5, hm, hk]
  rw [ck_t (c := inb 5 781) (by decide), in_eq n x, hhi, bd_mk, show (0 : Int64).toInt = 0 from rfl]
  by_cases e1 : x < 0
  · have g : x.toInt < 0 := lt_T.mp e1
    rw [if_pos e1, if_neg (show ¬ ((0 : Int) ≤ x.toInt ∧ x.toInt ≤ (k : Int) - 1) by omega), if_pos rfl, refuse_eq, bd_mk]
    exact Or.inr ⟨_, _, _, rfl, rfl, stM_hit _ _ _ _, h.th2 0 1⟩
  · have g : ¬ x.toInt < 0 := fun q => e1 (lt_T.mpr q)
    rw [if_neg e1]
    by_cases e2 : nI k ≤ x
    · have g2 : (k : Int) ≤ x.toInt := by have := le_T.mp e2; rwa [nI_toInt (by omega)] at this
      rw [if_pos e2, if_neg (show ¬ ((0 : Int) ≤ x.toInt ∧ x.toInt ≤ (k : Int) - 1) by omega), if_pos rfl, refuse_eq, bd_mk]
      exact Or.inr ⟨_, _, _, rfl, rfl, stM_hit _ _ _ _, h.th2 0 1⟩
    · have g2 : ¬ (k : Int) ≤ x.toInt := fun q => e2 (le_T.mpr (by rw [nI_toInt (by omega)]; exact q))
      obtain ⟨i, hi, rfl⟩ : ∃ i, i < k ∧ x = nI i := ⟨x.toInt.toNat, by omega, nI_oT (by omega)⟩
      rw [if_neg e2, if_pos (show (0 : Int) ≤ (nI i).toInt ∧ (nI i).toInt ≤ (k : Int) - 1 by omega), if_neg (show ¬ (1 : Int32) = 0 by decide), in_eq n w, bd_mk, show (0 : Int64).toInt = 0 from rfl, show (2 : Int64).toInt = 2 from rfl]
      rcases pk_ix w (n := 3) (by decide) with hw | hw | ⟨j, hj, rfl⟩
      · have g3 : w.toInt < 0 := lt_T.mp hw
        rw [if_pos hw, if_neg (show ¬ ((0 : Int) ≤ w.toInt ∧ w.toInt ≤ 2) by omega), if_pos rfl, refuse_eq, bd_mk]
        exact Or.inr ⟨_, _, _, rfl, rfl, stM_hit _ _ _ _, h.th2 0 1⟩
      · have g3 : 3 ≤ w.toInt := le_T.mp hw
        rw [if_neg (fun q => by have : w.toInt < 0 := lt_T.mp q; omega), if_neg (fun q => by have : w.toInt < 3 := lt_T.mp q; omega), if_neg (show ¬ ((0 : Int) ≤ w.toInt ∧ w.toInt ≤ 2) by omega), if_pos rfl, refuse_eq, bd_mk]
        exact Or.inr ⟨_, _, _, rfl, rfl, stM_hit _ _ _ _, h.th2 0 1⟩
      · have g3 : (nI j).toInt = (j : Int) := nI_toInt (by omega)
        have i1 : nI i * (3 : Int32) + nI j = nI (3 * i + j) := by
          show nI i * nI 3 + nI j = _
          rw [pk_mul, nI_add, Nat.mul_comm]
        have i2 : (150 : Int32) + (3 : Int32) * nI i + nI j = nI (150 + (3 * i + j)) := by
          show nI 150 + nI 3 * nI i + nI j = _
          rw [pk_mul, nI_add, nI_add, Nat.add_assoc]
        rw [if_neg (nI_pos (by omega)), show (3 : Int32) = nI 3 from rfl, if_pos (nI_lt hj (by omega)), if_pos (show (0 : Int) ≤ (nI j).toInt ∧ (nI j).toInt ≤ 2 by omega), if_neg (show ¬ (1 : Int32) = 0 by decide), ← show (3 : Int32) = nI 3 from rfl]
        simp only [i1, i2]
        rw [ck_t (inb_nI (by omega) (by decide)), ck_t (inb_nI (by omega) (by decide)), nI_clamp (by omega), nI_clamp (by omega), stM_ne (show (15 : Nat) ≠ 0 by decide), sR.2.2.2.2.1 (3 * i + j) (by rw [hk, nI_toInt (by omega)]; omega)]
        exact Or.inl ⟨_, _, _, rfl, rfl, stM_hit _ _ _ _, h.th 0⟩
