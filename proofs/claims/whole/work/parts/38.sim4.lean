/-! ===== walk, note, count ===== -/
theorem act_iff {σ τ : Mem} {S : Nat} (h : PlayR σ τ S) {x : Int32} (hx : 0 < x.toInt ∧ x.toInt < 13) : σ 29 x.toNatClampNeg ≠ 0 ↔ τ 12 x.toNatClampNeg ≠ 0 := by
  have hq : x.toNatClampNeg < 13 := by show x.toInt.toNat < 13; omega
  rcases h.2.2.2.1 _ hq with ⟨e1, e2⟩ | ⟨e1, e2⟩
  · rw [e1, e2]
  · rw [e2]
    exact ⟨fun _ => by decide, fun _ => e1⟩
theorem actor_iff {σ τ : Mem} {S : Nat} (h : PlayR σ τ S) (x : Int32) : (0 < x.toInt ∧ x.toInt < 13 ∧ σ 29 x.toNatClampNeg ≠ 0) ↔ (0 < x.toInt ∧ x.toInt < 13 ∧ τ 12 x.toNatClampNeg ≠ 0) :=
  ⟨fun ⟨a, b, c⟩ => ⟨a, b, (act_iff h ⟨a, b⟩).mp c⟩, fun ⟨a, b, c⟩ => ⟨a, b, (act_iff h ⟨a, b⟩).mpr c⟩⟩
theorem ixA (i j : Nat) : ((232 : Int32) + ((7 : Int32) * nI i)) + nI j = nI (232 + 7 * i + j) := by
  show nI 232 + nI 7 * nI i + nI j = _
  rw [pk_mul, nI_add, nI_add]
theorem aOf_eq (n : Nat) {i j : Nat} {x : Int32} (hx : x = nI j) (hi : i < 13) (hj : j < 7) (s : Mem) : f_X11_actorOf n (nI i) x s = some (s 15 (232 + 7 * i + j), s) := by
  unfold f_X11_actorOf
  rw [hx, ixA, ck_t (inb_nI (by omega) (by decide)), nI_clamp (by omega)]
theorem aTo_eq (n : Nat) {i j : Nat} {x : Int32} (hx : x = nI j) (hi : i < 13) (hj : j < 7) (v : Int32) (s : Mem) : f_X11_actorTo n (nI i) x v s = some (stM s 15 (232 + 7 * i + j) v) := by
  unfold f_X11_actorTo
  rw [hx, ixA, ck_t (inb_nI (by omega) (by decide)), nI_clamp (by omega)]
  rfl
theorem walks_eq (n : Nat) {i : Nat} (hi : i < 13) (x y : Int32) (s : Mem) : f_X11_walks n (nI i) x y s = some (stM (stM (stM s 15 (236 + 7 * i) 1) 15 (237 + 7 * i) x) 15 (238 + 7 * i) y) := by
  unfold f_X11_walks
  rw [aTo_eq n (x := 4) (j := 4) rfl hi (by omega), bv_mk, aTo_eq n (x := 5) (j := 5) rfl hi (by omega), bv_mk, aTo_eq n (x := 6) (j := 6) rfl hi (by omega), bv_mk, show 232 + 7 * i + 4 = 236 + 7 * i by omega, show 232 + 7 * i + 5 = 237 + 7 * i by omega, show 232 + 7 * i + 6 = 238 + 7 * i by omega]
theorem send_eq (n : Nat) (a x y : Int32) (s : Mem) : f_X9_send n a x y s = some (if (0 < a.toInt ∧ a.toInt < 13 ∧ s 29 a.toNatClampNeg ≠ 0) ∧ (0 ≤ x.toInt ∧ x.toInt ≤ 255) ∧ (0 ≤ y.toInt ∧ y.toInt ≤ 255) then (1, stM (stM (stM s (58 + a.toNatClampNeg) 4 1) (58 + a.toNatClampNeg) 5 x) (58 + a.toNatClampNeg) 6 y) else (0, s)) := by
  unfold f_X9_send b_X9_send_28
  rw [has_eq n io_2_28, bd_mk]
  show (if bz (0 < a.toInt ∧ a.toInt < (13 : Int) ∧ s 29 a.toNatClampNeg ≠ 0) = 0 then _ else _) = _
  by_cases h1 : 0 < a.toInt ∧ a.toInt < 13 ∧ s 29 a.toNatClampNeg ≠ 0
  · rw [bz_t h1, if_neg (by decide), isByteC_eq, bd_mk]
    by_cases h2 : 0 ≤ x.toInt ∧ x.toInt ≤ 255
    · rw [bz_t h2, if_neg (by decide), isByteC_eq, bd_mk]
      by_cases h3 : 0 ≤ y.toInt ∧ y.toInt ≤ 255
      · rw [bz_t h3, if_neg (by decide), if_pos ⟨h1, h2, h3⟩, ck_t (show inb a 13 from ⟨by omega, by omega⟩), lt_eq]
        unfold f_X0_walkTo
        rw [ck_t okZ1]
        simp only [lt_eq, bv_mk]
        rw [ck_t okZ1]
      · rw [bz_f h3, if_pos rfl, if_neg (fun q => h3 q.2.2), ck_t okZ0]
    · rw [bz_f h2, if_pos rfl, if_neg (fun q => h2 q.2.1), ck_t okZ0]
  · rw [bz_f h1, if_pos rfl, if_neg (fun q => h1 q.1), ck_t okZ0]
theorem StI.walk {σ : Mem} {t a x y : Nat} (h : StI σ 33 t) (ha : a < 13) (hh : σ 29 a ≠ 0) (hx : x ≤ 255) (hy : y ≤ 255) : StI (stM (stM (stM σ (58 + a) 4 1) (58 + a) 5 (nI x)) (58 + a) 6 (nI y)) 33 t := by
  refine h.actw ha (Or.inl rfl) (fun k hk => by rw [stM_ne (by omega), stM_ne (by omega), stM_ne (by omega)]) ?_
  obtain ⟨f1, -⟩ := h.2.2.2.2.2.1 a ha
  rw [show 33 + 25 + a = 58 + a by omega] at f1 ⊢
  unfold ActI
  have ej : ∀ j, j < 4 → stM (stM (stM σ (58 + a) 4 1) (58 + a) 5 (nI x)) (58 + a) 6 (nI y) (58 + a) j = σ (58 + a) j := fun j hj => by rw [stM_far (Or.inr (by omega)), stM_far (Or.inr (by omega)), stM_far (Or.inr (by omega))]
  have e4 : stM (stM (stM σ (58 + a) 4 1) (58 + a) 5 (nI x)) (58 + a) 6 (nI y) (58 + a) 4 = 1 := by rw [stM_far (Or.inr (by omega)), stM_far (Or.inr (by omega)), stM_hit]
  have e5 : stM (stM (stM σ (58 + a) 4 1) (58 + a) 5 (nI x)) (58 + a) 6 (nI y) (58 + a) 5 = nI x := by rw [stM_far (Or.inr (by omega)), stM_hit]
  rw [ej 0 (by omega), ej 1 (by omega), ej 2 (by omega), ej 3 (by omega), e4, e5, stM_hit, stM_ne (show (29 : Nat) ≠ 58 + a by omega), stM_ne (show (29 : Nat) ≠ 58 + a by omega), stM_ne (show (29 : Nat) ≠ 58 + a by omega)]
  exact ⟨f1, okZ1, fun _ => ⟨hh, x, y, rfl, hx, rfl, hy⟩, fun e => absurd e (by decide)⟩
theorem sim_walk {t : Nat} {σ τ : Mem} (h : Rel t σ τ) (n : Nat) (a x y : Int32) : Sim t (f_X10_walk n a x y σ) (f_X11_walk n a x y τ) := by
  obtain ⟨sR, sI⟩ := h.st
  obtain ⟨T, S, -, -, a5, -⟩ := id h
  unfold f_X10_walk f_X11_walk b_X11_walk_27
  have hsend := send_eq n a x y σ
  rw [lt_eq, isActor_eq, bd_mk, stM_ne (show (12 : Nat) ≠ 0 by decide)]
  by_cases h1 : 0 < a.toInt ∧ a.toInt < 13 ∧ σ 29 a.toNatClampNeg ≠ 0
  · rw [bz_t ((actor_iff a5 a).mp h1), if_neg (by decide), isByteM_eq, bd_mk]
    by_cases h2 : 0 ≤ x.toInt ∧ x.toInt ≤ 255
    · rw [bz_t h2, if_neg (by decide), isByteM_eq, bd_mk]
      by_cases h3 : 0 ≤ y.toInt ∧ y.toInt ≤ 255
      · obtain ⟨i, hi0, hi, rfl⟩ : ∃ i, 0 < i ∧ i < 13 ∧ a = nI i := ⟨a.toInt.toNat, by omega, by omega, nI_oT (by omega)⟩
        obtain ⟨p, hp, rfl⟩ : ∃ p, p ≤ 255 ∧ x = nI p := ⟨x.toInt.toNat, by omega, nI_oT (by omega)⟩
        obtain ⟨q, hq, rfl⟩ : ∃ q, q ≤ 255 ∧ y = nI q := ⟨y.toInt.toNat, by omega, nI_oT (by omega)⟩
        rw [if_pos ⟨h1, h2, h3⟩, nI_clamp (by omega)] at hsend
        rw [bz_t h3, if_neg (by decide), walks_eq n hi, bv_mk, ck_t okZ1, hsend, bd_mk, ck_t okZ1]
        refine ⟨_, _, _, rfl, rfl, ?_⟩
        refine h.step (fun j g1 g2 _ _ _ _ => by rw [stM_far (Or.inl (by decide)), stM_far (Or.inl (by decide)), stM_far (Or.inl (by decide)), stM_far (Or.inr g2)]) (by rw [stM_ne (by omega), stM_ne (by omega), stM_ne (by omega)]) ?_ ?_ ⟨?_, ?_⟩ ?_ ?_ ?_ ?_
        · exact agr_tr (agr_tr (agr_st (Or.inr (by omega))) (agr_st (Or.inr (by omega)))) (agr_st (Or.inr (by omega)))
        · exact agr_tr (agr_tr (agr_st (Or.inr (by omega))) (agr_st (Or.inr (by omega)))) (agr_st (Or.inr (by omega)))
        · rw [stM_far (Or.inl (by omega)), stM_far (Or.inl (by omega)), stM_far (Or.inl (by omega))]
        · rw [stM_far (Or.inl (by omega)), stM_far (Or.inl (by omega)), stM_far (Or.inl (by omega))]
        · exact agr_tr (agr_tr (agr_st (Or.inl (by omega))) (agr_st (Or.inl (by omega)))) (agr_st (Or.inl (by omega)))
        · exact agr_tr (agr_tr (agr_tr (agr_st (Or.inl (by omega))) (agr_st (Or.inr (by omega)))) (agr_st (Or.inr (by omega)))) (agr_st (Or.inr (by omega)))
        · rw [stM_ne (by decide), stM_ne (by decide), stM_ne (by decide), stM_ne (by decide)]
        · rw [stM_row, stM_row, stM_row, stM_ne (show (15 : Nat) ≠ 0 by decide)]
          have := sR.walk (a0 := i) sI.2.1 (nI p) (nI q) hi
          rw [show 33 + 25 + i = 58 + i by omega] at this
          exact ⟨this, (sI.walk hi (by rw [nI_clamp (by omega)] at h1; exact h1.2.2) hp hq).up⟩
      · rw [if_neg (fun q => h3 q.2.2)] at hsend
        rw [bz_f h3, if_pos rfl, ck_t okZ0, hsend, bd_mk, ck_t okZ0]
        exact ⟨_, _, _, rfl, rfl, h.th 0⟩
    · rw [if_neg (fun q => h2 q.2.1)] at hsend
      rw [bz_f h2, if_pos rfl, ck_t okZ0, hsend, bd_mk, ck_t okZ0]
      exact ⟨_, _, _, rfl, rfl, h.th 0⟩
  · rw [if_neg (fun q => h1 q.1)] at hsend
    rw [bz_f (fun q => h1 ((actor_iff a5 a).mpr q)), if_pos rfl, ck_t okZ0, hsend, bd_mk, ck_t okZ0]
    exact ⟨_, _, _, rfl, rfl, h.th 0⟩
theorem sim_note {t : Nat} {σ τ : Mem} (h : Rel t σ τ) (ht : t ≤ 512) (n : Nat) (x : Int32) : SimX t (f_X10_note n x σ) (f_X11_note n x τ) := by
  obtain ⟨sR, sI⟩ := h.st
  obtain ⟨N, hN, hk⟩ := sI.nd
  have hm : stM τ 0 0 0 15 2 = nI N := by rw [stM_far (Or.inl (by decide)), sR.1 2 (by decide), hk]
  have hmin : (if (64 : Int32) < nI N then (64 : Int32) else nI N) = nI (if 64 < N then 64 else N) := by
    show (if nI 64 < nI N then nI 64 else nI N) = _
    by_cases e : 64 < N
    · rw [if_pos e, if_pos (nI_lt (a := 64) e (by omega))]
    · rw [if_neg e, if_neg (nI_nlt (b := N) (a := 64) (by omega) (by omega))]
  have hhi : ((nI (if 64 < N then 64 else N) - (1 : Int32)).toInt64).toInt = ((if 64 < N then 64 else N : Nat) : Int) - 1 := by
    rw [Int32.toInt_toInt64]
    exact pk_sub_toInt (b := 1) (by split <;> omega) (by omega)
  unfold f_X10_note f_X11_note b_X10_note_21 b_X11_note_57
  simp only [lt_eq, cl2, hm, hk, hmin]
  rw [ck_t (c := inb 2 781) (by decide), in_eq n x, hhi, bd_mk, show (0 : Int64).toInt = 0 from rfl]
  rcases pk_ix x (n := 64) (by decide) with hx | hx | ⟨i, hi, rfl⟩
  · have g : x.toInt < 0 := lt_T.mp hx
    rw [if_pos hx, if_neg (show ¬ ((0 : Int) ≤ x.toInt ∧ x.toInt ≤ ((if 64 < N then 64 else N : Nat) : Int) - 1) by omega), if_pos rfl, refuse_eq, bd_mk]
    exact Or.inr ⟨_, _, _, rfl, rfl, stM_hit _ _ _ _, h.th2 0 1⟩
  · have g : 64 ≤ x.toInt := le_T.mp hx
    rw [if_neg (fun q => by have : x.toInt < 0 := lt_T.mp q; omega), if_pos (show (64 : Int32) ≤ x from hx), if_neg (show ¬ ((0 : Int) ≤ x.toInt ∧ x.toInt ≤ ((if 64 < N then 64 else N : Nat) : Int) - 1) by split <;> omega), if_pos rfl, refuse_eq, bd_mk]
    exact Or.inr ⟨_, _, _, rfl, rfl, stM_hit _ _ _ _, h.th2 0 1⟩
  · have g : (nI i).toInt = (i : Int) := nI_toInt (by omega)
    rw [if_neg (nI_pos (by omega)), if_neg (show ¬ (64 : Int32) ≤ nI i from nI_ge (a := i) (b := 64) hi (by omega))]
    by_cases e : i < N
    · have i1 : nI N - (1 : Int32) - nI i = nI (N - 1 - i) := by
        show nI N - nI 1 - nI i = _
        rw [pk_sub (by omega), pk_sub (by omega)]
      have i2 : nI (N - 1 - i) - nI (N - 1 - i) / (64 : Int32) * (64 : Int32) = nI ((N - 1 - i) % 64) := pk_rem (d := 64) (by omega) (by omega) (by omega)
      have i3 : (168 : Int32) + nI ((N - 1 - i) % 64) = nI (168 + (N - 1 - i) % 64) := by
        show nI 168 + nI _ = _
        rw [nI_add]
      have hlt : (N - 1 - i) % 64 < 64 := Nat.mod_lt _ (by omega)
      have hle : (N - 1 - i) % 64 ≤ N - 1 - i := Nat.mod_le _ _
      rw [if_pos (nI_lt e (by omega)), if_pos (show (0 : Int) ≤ (nI i).toInt ∧ (nI i).toInt ≤ ((if 64 < N then 64 else N : Nat) : Int) - 1 by rw [g]; split <;> omega), if_neg (show ¬ (1 : Int32) = 0 by decide)]
      simp only [i1, i2, i3, hm]
      rw [ck_t (c := ¬ (64 : Int32) = 0) (by decide), ck_t (inb_nI hlt (by decide)), ck_t (c := inb 2 781) (by decide), ck_t (c := ¬ (64 : Int32) = 0) (by decide), ck_t (inb_nI (by omega) (by decide)), nI_clamp (by omega), nI_clamp (by omega), stM_ne (show (15 : Nat) ≠ 0 by decide), sR.2.2.2.2.2.1 _ hlt (by rw [hk, nI_toInt (by omega)]; omega)]
      exact Or.inl ⟨_, _, _, rfl, rfl, stM_hit _ _ _ _, h.th 0⟩
    · rw [if_neg (nI_nlt (by omega) (by omega)), if_neg (show ¬ ((0 : Int) ≤ (nI i).toInt ∧ (nI i).toInt ≤ ((if 64 < N then 64 else N : Nat) : Int) - 1) by rw [g]; split <;> omega), if_pos rfl, refuse_eq, bd_mk]
      exact Or.inr ⟨_, _, _, rfl, rfl, stM_hit _ _ _ _, h.th2 0 1⟩
