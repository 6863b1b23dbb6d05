/-! ===== count, end ===== -/
def cntP (P : Nat → Prop) [DecidablePred P] : Nat → Nat → Nat
  | _, 0 => 0
  | k, m + 1 => (if P k then 1 else 0) + cntP P (k + 1) m
theorem cntP_c {P Q : Nat → Prop} [DecidablePred P] [DecidablePred Q] : ∀ (m k : Nat), (∀ i, k ≤ i → i < k + m → (P i ↔ Q i)) → cntP P k m = cntP Q k m := by
  intro m
  induction m with
  | zero => intro k _; rfl
  | succ m ih =>
    intro k h
    unfold cntP
    have hk := h k (by omega) (by omega)
    rw [ih (k + 1) (fun i h1 h2 => h i (by omega) (by omega))]
    by_cases a : P k
    · rw [if_pos a, if_pos (hk.mp a)]
    · rw [if_neg a, if_neg (fun b => a (hk.mpr b))]
theorem running_lp (r : Nat) : ∀ (m k c : Nat) (s : Mem), k ≤ 8 → 8 < k + m → itr3 (b_X7_runningSlots_4) m r (nI c) (nI k) s = some (nI (c + cntP (fun i => s (r + 9 + 2 * i) 0 ≠ 0) k (8 - k)), s) := by
  intro m
  induction m with
  | zero => intro k c s h1 h2; omega
  | succ m ih =>
    intro k c s h1 h2
    show b_X7_runningSlots_4 m (itr3 (b_X7_runningSlots_4) m) r (nI c) (nI k) s = _
    generalize itr3 (b_X7_runningSlots_4) m = g at ih ⊢
    unfold b_X7_runningSlots_4 b_X7_runningSlots_25
    rw [show (8 : Int32) = nI 8 from rfl]
    by_cases h : 8 ≤ k
    · rw [if_pos (nI_le h (by omega)), show 8 - k = 0 by omega]
      rfl
    · rw [if_neg (nI_ge (a := k) (b := 8) (by omega) (by omega)), ck_t (inb_nI (by omega) (by decide)), lt_eq, nI_clamp (by omega), runs_eq, bd_mk]
      rw [show 8 - k = (8 - (k + 1)) + 1 by omega, show r + 7 + 2 + 2 * k = r + 9 + 2 * k by omega]
      unfold cntP
      by_cases a : s (r + 9 + 2 * k) 0 ≠ 0
      · rw [bz_t a, if_neg (by decide), if_pos a, lt_eq, lt_eq, show Int32.ofInt 1 = 1 from rfl, nI_1, nI_1, ih (k + 1) (c + 1) s (by omega) (by omega), Nat.add_assoc]
      · rw [bz_f a, if_pos rfl, if_neg a, lt_eq, show Int32.ofInt 1 = 1 from rfl, nI_1, ih (k + 1) c s (by omega) (by omega), Nat.zero_add]
theorem count_lp (w : Int32) : ∀ (m k c : Nat) (s : Mem), k ≤ 8 → 8 < k + m → itr3 (b_X11_count_9) m w (nI c) (nI k) s = b_X11_count_9 0 (fun _ _ _ _ => none) w (nI (c + cntP (fun i => s 15 (70 + 10 * i) ≠ 0) k (8 - k))) (nI 8) s := by
  intro m
  induction m with
  | zero => intro k c s h1 h2; omega
  | succ m ih =>
    intro k c s h1 h2
    show b_X11_count_9 m (itr3 (b_X11_count_9) m) w (nI c) (nI k) s = _
    by_cases h : 8 ≤ k
    · have e : k = 8 := by omega
      subst e
      generalize itr3 (b_X11_count_9) m = g
      rw [show 8 - 8 = 0 from rfl, show cntP (fun i => s 15 (70 + 10 * i) ≠ 0) 8 0 = 0 from rfl, Nat.add_zero]
      unfold b_X11_count_9
      rw [if_pos (show (8 : Int32) ≤ nI 8 by decide), if_pos (show (8 : Int32) ≤ nI 8 by decide)]
    · rw [show 8 - k = (8 - (k + 1)) + 1 by omega]
      have step : b_X11_count_9 m (itr3 (b_X11_count_9) m) w (nI c) (nI k) s = itr3 (b_X11_count_9) m w (nI (c + if s 15 (70 + 10 * k) ≠ 0 then 1 else 0)) (nI (k + 1)) s := by
        generalize itr3 (b_X11_count_9) m = g
        unfold b_X11_count_9 b_X11_count_30
        rw [if_neg (show ¬ (8 : Int32) ≤ nI k from nI_ge (a := k) (b := 8) (by omega) (by omega)), of0 m (by omega), bd_mk]
        by_cases a : s 15 (70 + 10 * k) = 0
        · rw [if_pos a, if_neg (fun q => q a), lt_eq, lt_eq, show Int32.ofInt 1 = 1 from rfl, nI_1, show nI c + 0 = nI (c + 0) from nI_add c 0]
        · rw [if_neg a, if_pos a, lt_eq, lt_eq, show Int32.ofInt 1 = 1 from rfl, nI_1, nI_1]
      rw [step, ih (k + 1) _ s (by omega) (by omega)]
      show _ = b_X11_count_9 0 _ w (nI (c + ((if s 15 (70 + 10 * k) ≠ 0 then 1 else 0) + cntP (fun i => s 15 (70 + 10 * i) ≠ 0) (k + 1) (8 - (k + 1))))) (nI 8) s
      rw [Nat.add_assoc]
theorem sim_count {t : Nat} {σ τ : Mem} (h : Rel t σ τ) {n : Nat} (hn : 10000 ≤ n) (w : Int32) : Sim t (f_X10_count n w σ) (f_X11_count n w τ) := by
  obtain ⟨sR, sI⟩ := h.st
  obtain ⟨T, S, ⟨a1, a2⟩, -, a5, -⟩ := id h
  unfold f_X10_count f_X11_count
  rw [lt_eq]
  have hm : itr3 (b_X11_count_9) n w 0 0 (stM τ 0 0 0) = b_X11_count_9 0 (fun _ _ _ _ => none) w (nI (cntP (fun i => σ (42 + 2 * i) 0 ≠ 0) 0 8)) (nI 8) (stM τ 0 0 0) := by
    show itr3 (b_X11_count_9) n w (nI 0) (nI 0) (stM τ 0 0 0) = _
    rw [count_lp w n 0 0 _ (by omega) (by omega), Nat.zero_add, stM_ne (show (15 : Nat) ≠ 0 by decide)]
    rw [cntP_c (Q := fun i => σ (42 + 2 * i) 0 ≠ 0) (8 - 0) 0 (fun i _ hi => by
      have := sR.2.2.1 i (by omega) 0 (by decide)
      rw [show 33 + 9 + 2 * i = 42 + 2 * i by omega, Nat.add_zero] at this
      rw [this])]
  have hc : f_X7_runningSlots n 33 σ = some (nI (cntP (fun i => σ (42 + 2 * i) 0 ≠ 0) 0 8), σ) := by
    show itr3 (b_X7_runningSlots_4) n 33 (nI 0) (nI 0) σ = _
    rw [running_lp 33 n 0 0 σ (by omega) (by omega), Nat.zero_add]
  rw [hm, hc]
  unfold b_X11_count_9
  rw [if_pos (show (8 : Int32) ≤ nI 8 by decide)]
  have z : ∀ j, j ≠ 0 → stM τ 0 0 0 0 j = τ 0 j := fun j hj => stM_far (Or.inr hj)
  simp only [cl0, cl1, cl2, cl3, cl4, cl5, bd_mk]
  rw [stM_ne (show (15 : Nat) ≠ 0 by decide), z 5 (by decide), z 6 (by decide), z 7 (by decide), z 8 (by decide), z 2 (by decide), sR.1 0 (by decide), sR.1 1 (by decide), sR.1 2 (by decide), sR.1 3 (by decide), sR.1 4 (by decide), sR.1 5 (by decide), ← a5.1.1, ← a5.1.2.1, ← a5.1.2.2.1, ← a5.1.2.2.2, a2, ← a1.1]
  rw [ck_t (c := inb 0 781) (by decide), ck_t (c := inb 5 781) (by decide), ck_t (c := inb 2 781) (by decide), ck_t (c := inb 3 781) (by decide), ck_t (c := inb 4 781) (by decide), ck_t (c := inb 1 781) (by decide)]
  by_cases q0 : w.toInt = 0
  · rw [if_pos q0, if_pos q0]
    exact ⟨_, _, _, rfl, rfl, h.th 0⟩
  rw [if_neg q0, if_neg q0]
  by_cases q1 : w.toInt = 1
  · rw [if_pos q1, if_pos q1]
    exact ⟨_, _, _, rfl, rfl, h.th 0⟩
  rw [if_neg q1, if_neg q1]
  by_cases q2 : w.toInt = 2
  · rw [if_pos q2, if_pos q2]
    exact ⟨_, _, _, rfl, rfl, h.th 0⟩
  rw [if_neg q2, if_neg q2]
  by_cases q3 : w.toInt = 3
  · rw [if_pos q3, if_pos q3]
    exact ⟨_, _, _, rfl, rfl, h.th 0⟩
  rw [if_neg q3, if_neg q3]
  by_cases q4 : w.toInt = 4
  · rw [if_pos q4, if_pos q4]
    exact ⟨_, _, _, rfl, rfl, h.th 0⟩
  rw [if_neg q4, if_neg q4]
  by_cases q5 : w.toInt = 5
  · rw [if_pos q5, if_pos q5]
    exact ⟨_, _, _, rfl, rfl, h.th 0⟩
  rw [if_neg q5, if_neg q5]
  by_cases q6 : w.toInt = 6
  · rw [if_pos q6, if_pos q6]
    exact ⟨_, _, _, rfl, rfl, h.th 0⟩
  rw [if_neg q6, if_neg q6]
  by_cases q7 : w.toInt = 7
  · rw [if_pos q7, if_pos q7]
    exact ⟨_, _, _, rfl, rfl, h.th 0⟩
  rw [if_neg q7, if_neg q7]
  by_cases q8 : w.toInt = 8
  · rw [if_pos q8, if_pos q8]
    exact ⟨_, _, _, rfl, rfl, h.th 0⟩
  rw [if_neg q8, if_neg q8]
  by_cases q9 : w.toInt = 9
  · rw [if_pos q9, if_pos q9]
    exact ⟨_, _, _, rfl, rfl, h.th 0⟩
  rw [if_neg q9, if_neg q9]
  by_cases q10 : w.toInt = 10
  · rw [if_pos q10, if_pos q10]
    exact ⟨_, _, _, rfl, rfl, h.th 0⟩
  rw [if_neg q10, if_neg q10]
  by_cases q11 : w.toInt = 11
  · rw [if_pos q11, if_pos q11]
    exact ⟨_, _, _, rfl, rfl, h.th 0⟩
  rw [if_neg q11, if_neg q11]
  exact ⟨_, _, _, rfl, rfl, h.th 0⟩
theorem cut_eq (n : Nat) {r T : Nat} (x : Int32) (s : Mem) (hT : s r 1 = nI T) (h6 : T ≤ 6000) : f_X8_cut n r x s = some (if 0 ≤ x.toInt ∧ x.toInt ≤ (T : Int) then (1, stM s r 1 x) else (0, s)) := by
  have g : (nI T).toInt = (T : Int) := nI_toInt (by omega)
  unfold f_X8_cut b_X8_cut_12
  by_cases e1 : x < 0
  · have : x.toInt < 0 := lt_T.mp e1
    rw [if_pos e1, ck_t okZ0, if_neg (by omega)]
  · have g1 : ¬ x.toInt < 0 := fun q => e1 (lt_T.mpr q)
    rw [if_neg e1, hT]
    by_cases e2 : x ≤ nI T
    · have g2 : x.toInt ≤ (T : Int) := by have := le_T.mp e2; rwa [g] at this
      rw [if_pos e2, lt_eq, ck_t okZ1, if_pos (by omega)]
    · have g2 : ¬ x.toInt ≤ (T : Int) := fun q => e2 (le_T.mpr (by rw [g]; exact q))
      rw [if_neg e2, ck_t okZ0, if_neg (by omega)]
theorem sim_end {t : Nat} {σ τ : Mem} (h : Rel t σ τ) (n : Nat) (x : Int32) : Sim t (f_X10_end n x σ) (f_X11_end n x τ) := by
  obtain ⟨T, S, ⟨⟨a1, a1b, a1c⟩, a2⟩, ⟨a3, a4⟩, a5, ⟨sR, sI⟩, ⟨a7, a8, a9⟩, a10, a11⟩ := id h
  have g : (nI T).toInt = (T : Int) := nI_toInt (by omega)
  have hcut := cut_eq n (r := 2) x σ a1 a1b
  unfold f_X10_end f_X11_end
  rw [lt_eq, stM_far (a := 0) (b := 2) (Or.inr (by decide)), a2, in_eq, Int32.toInt_toInt64, g, bd_mk, show (0 : Int64).toInt = 0 from rfl]
  by_cases e : 0 ≤ x.toInt ∧ x.toInt ≤ (T : Int)
  · rw [if_pos e] at hcut
    rw [hcut, bd_mk, ck_t okZ1, if_pos e, if_neg (by decide), lt_eq, ck_t okZ1]
    refine ⟨_, _, _, rfl, rfl, ?_⟩
    obtain ⟨U, hU, rfl⟩ : ∃ U, U ≤ T ∧ x = nI U := ⟨x.toInt.toNat, by omega, nI_oT (by omega)⟩
    have z : ∀ j, j ≠ 0 → j ≠ 2 → stM (stM τ 0 0 0) 0 2 (nI U) 0 j = τ 0 j := fun j h0 h2 => by rw [stM_far (Or.inr h2), stM_far (Or.inr h0)]
    have zr : ∀ k, k ≠ 0 → stM (stM τ 0 0 0) 0 2 (nI U) k = τ k := fun k hk => by rw [stM_ne hk, stM_ne hk]
    have ag : ∀ lo hi, 2 < lo → agr σ (stM σ 2 1 (nI U)) lo hi := fun lo hi hl => agr_st (Or.inl hl)
    refine ⟨U, S, ⟨⟨stM_hit _ _ _ _, by omega, fun p hp => ?_⟩, stM_hit _ _ _ _⟩, ⟨a3.agr (ag 17 19 (by omega)) (zr 2 (by decide)), by rw [z 4 (by decide) (by decide)]; exact a4⟩, a5.agr (ag 19 30 (by omega)) (ag 110 116 (by omega)) (fun k h1 h2 => zr k (by omega)) (fun j h1 h2 => z j (by omega) (by omega)), ⟨?_, (sI.agr (ag 33 71 (by omega)) (ag 23 30 (by omega))).up⟩, ⟨by rw [stM_ne (by decide), z 29 (by decide) (by decide)]; exact a7, by rw [stM_ne (by decide)]; exact a8, fun q => ?_⟩, by rw [stM_ne (by decide), z 25 (by decide) (by decide)]; exact a10, by rw [stM_ne (by decide), z 26 (by decide) (by decide)]; exact a11⟩
    · rw [stM_ne (by decide), zr 1 (by decide)]
      exact a1c p (by omega)
    · rw [zr 15 (by decide)]
      exact sR.agr (ag 33 71 (by omega))
    · rw [stM_ne (by decide)] at q
      rw [zr 16 (by decide)]
      exact ⟨(a9 q).1.agr (ag 71 109 (by omega)), ((a9 q).2.agr (ag 71 109 (by omega)) (ag 23 30 (by omega))).up⟩
  · rw [if_neg e] at hcut
    rw [hcut, bd_mk, ck_t okZ0, if_neg e, if_pos rfl, ck_t okZ0]
    exact ⟨_, _, _, rfl, rfl, h.th 0⟩
