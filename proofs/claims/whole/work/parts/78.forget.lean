/-! ===== play: the model forgets and loads ===== -/
theorem fg113 : ∀ (d k M : Nat) (s : Mem), k + d = 781 → d < M → ∃ M' s1, M ≤ M' + d + 1 ∧ itr1 b_X11_forget_113 M (nI k) s = some (stM (stM s1 15 1 1) 0 29 0) ∧ (∀ z, z ≠ 15 → s1 z = s z) ∧ (∀ j, j < k → s1 15 j = s 15 j) ∧ ∀ j, k ≤ j → j < 781 → s1 15 j = 0 := by
  intro d
  induction d with
  | zero =>
    intro k M s hk hM
    have e : k = 781 := by omega
    subst e
    obtain ⟨M, rfl⟩ : ∃ m', M = m' + 1 := ⟨M - 1, by omega⟩
    refine ⟨M, s, by omega, ?_, fun _ _ => rfl, fun _ _ => rfl, fun j h1 h2 => by omega⟩
    show b_X11_forget_113 M (itr1 b_X11_forget_113 M) _ s = _
    generalize itr1 b_X11_forget_113 M = w
    unfold b_X11_forget_113
    rw [if_pos (show (781 : Int32) ≤ nI 781 by decide)]
    rfl
  | succ d ih =>
    intro k M s hk hM
    obtain ⟨M, rfl⟩ : ∃ m', M = m' + 1 := ⟨M - 1, by omega⟩
    obtain ⟨M', s1, x1, x2, x3, x4, x5⟩ := ih (k + 1) M (stM s 15 k 0) (by omega) (by omega)
    refine ⟨M', s1, by omega, ?_, fun z hz => by rw [x3 z hz, stM_ne hz], fun j hj => by rw [x4 j (by omega), stM_far (Or.inr (by omega))], fun j h1 h2 => ?_⟩
    · rw [← x2]
      show b_X11_forget_113 M (itr1 b_X11_forget_113 M) _ s = _
      generalize itr1 b_X11_forget_113 M = w
      unfold b_X11_forget_113
      rw [if_neg (show ¬ (781 : Int32) ≤ nI k from nI_ge (a := k) (b := 781) (by omega) (by omega)), ck_t (inb_nI (by omega) (by decide)), nI_clamp (by omega), lt_eq, lt_eq, show nI k + Int32.ofInt 1 = nI (k + 1) from nI_1 k]
    · by_cases e : j = k
      · subst e; rw [x4 j (by omega), stM_hit]
      · exact x5 j (by omega) h2
theorem fg72 : ∀ (d k M : Nat) (s : Mem), k + d = 13 → d < M → ∃ M' s1, M ≤ M' + d + 1 ∧ itr1 b_X11_forget_72 M (nI k) s = itr1 b_X11_forget_113 M' (nI 0) (stM (stM (stM (stM s1 0 5 0) 0 6 0) 0 7 0) 0 8 0) ∧ (∀ z, z ≠ 12 → s1 z = s z) ∧ (∀ j, j < k → s1 12 j = s 12 j) ∧ ∀ j, k ≤ j → j < 13 → s1 12 j = 0 := by
  intro d
  induction d with
  | zero =>
    intro k M s hk hM
    have e : k = 13 := by omega
    subst e
    obtain ⟨M, rfl⟩ : ∃ m', M = m' + 1 := ⟨M - 1, by omega⟩
    refine ⟨M, s, by omega, ?_, fun _ _ => rfl, fun _ _ => rfl, fun j h1 h2 => by omega⟩
    show b_X11_forget_72 M (itr1 b_X11_forget_72 M) _ s = _
    generalize itr1 b_X11_forget_72 M = w
    unfold b_X11_forget_72
    rw [if_pos (show (13 : Int32) ≤ nI 13 by decide)]
    rfl
  | succ d ih =>
    intro k M s hk hM
    obtain ⟨M, rfl⟩ : ∃ m', M = m' + 1 := ⟨M - 1, by omega⟩
    obtain ⟨M', s1, x1, x2, x3, x4, x5⟩ := ih (k + 1) M (stM s 12 k 0) (by omega) (by omega)
    refine ⟨M', s1, by omega, ?_, fun z hz => by rw [x3 z hz, stM_ne hz], fun j hj => by rw [x4 j (by omega), stM_far (Or.inr (by omega))], fun j h1 h2 => ?_⟩
    · rw [← x2]
      show b_X11_forget_72 M (itr1 b_X11_forget_72 M) _ s = _
      generalize itr1 b_X11_forget_72 M = w
      unfold b_X11_forget_72
      rw [if_neg (show ¬ (13 : Int32) ≤ nI k from nI_ge (a := k) (b := 13) (by omega) (by omega)), ck_t ⟨inb_nI (by omega) (by decide), okZ0⟩, nI_clamp (by omega), lt_eq, lt_eq, show nI k + Int32.ofInt 1 = nI (k + 1) from nI_1 k]
    · by_cases e : j = k
      · subst e; rw [x4 j (by omega), stM_hit]
      · exact x5 j (by omega) h2
theorem fg51 : ∀ (d k M : Nat) (s : Mem), k + d = 61 → d < M → ∃ M' s1, M ≤ M' + d + 1 ∧ itr1 b_X11_forget_51 M (nI k) s = itr1 b_X11_forget_72 M' (nI 0) s1 ∧ (∀ z, z ≠ 8 → s1 z = s z) ∧ (∀ j, j < k → s1 8 j = s 8 j) ∧ ∀ j, k ≤ j → j < 61 → s1 8 j = 0 := by
  intro d
  induction d with
  | zero =>
    intro k M s hk hM
    have e : k = 61 := by omega
    subst e
    obtain ⟨M, rfl⟩ : ∃ m', M = m' + 1 := ⟨M - 1, by omega⟩
    refine ⟨M, s, by omega, ?_, fun _ _ => rfl, fun _ _ => rfl, fun j h1 h2 => by omega⟩
    show b_X11_forget_51 M (itr1 b_X11_forget_51 M) _ s = _
    generalize itr1 b_X11_forget_51 M = w
    unfold b_X11_forget_51
    rw [if_pos (show (61 : Int32) ≤ nI 61 by decide)]
    rfl
  | succ d ih =>
    intro k M s hk hM
    obtain ⟨M, rfl⟩ : ∃ m', M = m' + 1 := ⟨M - 1, by omega⟩
    obtain ⟨M', s1, x1, x2, x3, x4, x5⟩ := ih (k + 1) M (stM s 8 k 0) (by omega) (by omega)
    refine ⟨M', s1, by omega, ?_, fun z hz => by rw [x3 z hz, stM_ne hz], fun j hj => by rw [x4 j (by omega), stM_far (Or.inr (by omega))], fun j h1 h2 => ?_⟩
    · rw [← x2]
      show b_X11_forget_51 M (itr1 b_X11_forget_51 M) _ s = _
      generalize itr1 b_X11_forget_51 M = w
      unfold b_X11_forget_51
      rw [if_neg (show ¬ (61 : Int32) ≤ nI k from nI_ge (a := k) (b := 61) (by omega) (by omega)), ck_t ⟨inb_nI (by omega) (by decide), okZ0⟩, nI_clamp (by omega), lt_eq, lt_eq, show nI k + Int32.ofInt 1 = nI (k + 1) from nI_1 k]
    · by_cases e : j = k
      · subst e; rw [x4 j (by omega), stM_hit]
      · exact x5 j (by omega) h2
theorem fg30 : ∀ (d k M : Nat) (s : Mem), k + d = 61 → d < M → ∃ M' s1, M ≤ M' + d + 1 ∧ itr1 b_X11_forget_30 M (nI k) s = itr1 b_X11_forget_51 M' (nI 0) s1 ∧ (∀ z, z ≠ 7 → s1 z = s z) ∧ (∀ j, j < k → s1 7 j = s 7 j) ∧ ∀ j, k ≤ j → j < 61 → s1 7 j = 0 := by
  intro d
  induction d with
  | zero =>
    intro k M s hk hM
    have e : k = 61 := by omega
    subst e
    obtain ⟨M, rfl⟩ : ∃ m', M = m' + 1 := ⟨M - 1, by omega⟩
    refine ⟨M, s, by omega, ?_, fun _ _ => rfl, fun _ _ => rfl, fun j h1 h2 => by omega⟩
    show b_X11_forget_30 M (itr1 b_X11_forget_30 M) _ s = _
    generalize itr1 b_X11_forget_30 M = w
    unfold b_X11_forget_30
    rw [if_pos (show (61 : Int32) ≤ nI 61 by decide)]
    rfl
  | succ d ih =>
    intro k M s hk hM
    obtain ⟨M, rfl⟩ : ∃ m', M = m' + 1 := ⟨M - 1, by omega⟩
    obtain ⟨M', s1, x1, x2, x3, x4, x5⟩ := ih (k + 1) M (stM s 7 k 0) (by omega) (by omega)
    refine ⟨M', s1, by omega, ?_, fun z hz => by rw [x3 z hz, stM_ne hz], fun j hj => by rw [x4 j (by omega), stM_far (Or.inr (by omega))], fun j h1 h2 => ?_⟩
    · rw [← x2]
      show b_X11_forget_30 M (itr1 b_X11_forget_30 M) _ s = _
      generalize itr1 b_X11_forget_30 M = w
      unfold b_X11_forget_30
      rw [if_neg (show ¬ (61 : Int32) ≤ nI k from nI_ge (a := k) (b := 61) (by omega) (by omega)), ck_t (inb_nI (by omega) (by decide)), nI_clamp (by omega), lt_eq, lt_eq, show nI k + Int32.ofInt 1 = nI (k + 1) from nI_1 k]
    · by_cases e : j = k
      · subst e; rw [x4 j (by omega), stM_hit]
      · exact x5 j (by omega) h2
theorem fg2 : ∀ (d k M : Nat) (s : Mem), k + d = 21 → d < M → ∃ M' s1, M ≤ M' + d + 1 ∧ itr1 b_X11_forget_2 M (nI k) s = itr1 b_X11_forget_30 M' (nI 0) s1 ∧ (∀ z, z ≠ 3 → z ≠ 4 → s1 z = s z) ∧ (∀ j, j < k → s1 4 j = s 4 j) ∧ ∀ j, k ≤ j → j < 21 → s1 4 j = 0 := by
  intro d
  induction d with
  | zero =>
    intro k M s hk hM
    have e : k = 21 := by omega
    subst e
    obtain ⟨M, rfl⟩ : ∃ m', M = m' + 1 := ⟨M - 1, by omega⟩
    refine ⟨M, s, by omega, ?_, fun _ _ _ => rfl, fun _ _ => rfl, fun j h1 h2 => by omega⟩
    show b_X11_forget_2 M (itr1 b_X11_forget_2 M) _ s = _
    generalize itr1 b_X11_forget_2 M = w
    unfold b_X11_forget_2
    rw [if_pos (show (21 : Int32) ≤ nI 21 by decide)]
    rfl
  | succ d ih =>
    intro k M s hk hM
    obtain ⟨M, rfl⟩ : ∃ m', M = m' + 1 := ⟨M - 1, by omega⟩
    obtain ⟨M', s1, x1, x2, x3, x4, x5⟩ := ih (k + 1) M (stM (stM s 3 k 0) 4 k 0) (by omega) (by omega)
    refine ⟨M', s1, by omega, ?_, fun z h1 h2 => by rw [x3 z h1 h2, stM_ne h2, stM_ne h1], fun j hj => by rw [x4 j (by omega), stM_far (Or.inr (by omega)), stM_ne (by decide)], fun j h1 h2 => ?_⟩
    · rw [← x2]
      show b_X11_forget_2 M (itr1 b_X11_forget_2 M) _ s = _
      generalize itr1 b_X11_forget_2 M = w
      unfold b_X11_forget_2
      rw [if_neg (show ¬ (21 : Int32) ≤ nI k from nI_ge (a := k) (b := 21) (by omega) (by omega)), ck_t ⟨inb_nI (by omega) (by decide), okZ0⟩, nI_clamp (by omega), lt_eq, ck_t (inb_nI (by omega) (by decide)), lt_eq, lt_eq, show nI k + Int32.ofInt 1 = nI (k + 1) from nI_1 k]
    · by_cases e : j = k
      · subst e; rw [x4 j (by omega), stM_hit]
      · exact x5 j (by omega) h2
theorem forget_eq {n : Nat} (hn : 2000 ≤ n) (s : Mem) : ∃ s', f_X11_forget n s = some s' ∧ (∀ z, z ≠ 0 → z ≠ 3 → z ≠ 4 → z ≠ 7 → z ≠ 8 → z ≠ 12 → z ≠ 15 → s' z = s z) ∧ (∀ j, j < 5 ∨ (9 ≤ j ∧ j ≠ 29) → s' 0 j = s 0 j) ∧ (∀ K, K < 4 → s' 0 (5 + K) = 0) ∧ s' 0 29 = 0 ∧ (∀ r, r < 21 → s' 4 r = 0) ∧ (∀ q, q < 61 → s' 7 q = 0 ∧ s' 8 q = 0) ∧ (∀ a, a < 13 → s' 12 a = 0) ∧ ∀ z, z < 781 → s' 15 z = if z = 1 then 1 else 0 := by
  obtain ⟨M1, s1, a1, a2, a3, -, a5⟩ := fg2 21 0 n s (by omega) (by omega)
  obtain ⟨M2, s2, b1, b2, b3, -, b5⟩ := fg30 61 0 M1 s1 (by omega) (by omega)
  obtain ⟨M3, s3, c1, c2, c3, -, c5⟩ := fg51 61 0 M2 s2 (by omega) (by omega)
  obtain ⟨M4, s4, d1, d2, d3, -, d5⟩ := fg72 13 0 M3 s3 (by omega) (by omega)
  obtain ⟨M5, s5, e1, e2, e3, -, e5⟩ := fg113 781 0 M4 (stM (stM (stM (stM s4 0 5 0) 0 6 0) 0 7 0) 0 8 0) (by omega) (by omega)
  have n5 : ∀ z, z ≠ 0 → z ≠ 15 → s5 z = s4 z := fun z h1 h2 => by rw [e3 z h2, stM_ne h1, stM_ne h1, stM_ne h1, stM_ne h1]
  have n4 : ∀ z, z ≠ 0 → z ≠ 15 → (stM (stM s5 15 1 1) 0 29 0) z = s4 z := fun z h1 h2 => by rw [stM_ne h1, stM_ne h2, n5 z h1 h2]
  have z0 : ∀ j, s5 0 j = if j = 8 then 0 else if j = 7 then 0 else if j = 6 then 0 else if j = 5 then 0 else s4 0 j := fun j => by
    rw [e3 0 (by decide)]
    simp only [stM, if_pos]
  have s40 : s4 0 = s 0 := by rw [d3 0 (by decide), c3 0 (by decide), b3 0 (by decide), a3 0 (by decide) (by decide)]
  refine ⟨stM (stM s5 15 1 1) 0 29 0, ?_, ?_, ?_, ?_, stM_hit _ _ _ _, ?_, ?_, ?_, ?_⟩
  · unfold f_X11_forget
    show itr1 b_X11_forget_2 n (nI 0) s = _
    rw [a2, b2, c2, d2, e2]
  · intro z h0 h3 h4 h7 h8 h12 h15
    rw [n4 z h0 h15, d3 z h12, c3 z h8, b3 z h7, a3 z h3 h4]
  · intro j hj
    rw [stM_far (Or.inr (by omega)), stM_ne (by decide), z0, if_neg (by omega), if_neg (by omega), if_neg (by omega), if_neg (by omega), s40]
  · intro K hK
    rw [stM_far (Or.inr (by omega)), stM_ne (by decide), z0]
    rcases (show K = 0 ∨ K = 1 ∨ K = 2 ∨ K = 3 by omega) with rfl | rfl | rfl | rfl <;> rfl
  · intro r hr
    rw [n4 4 (by decide) (by decide), d3 4 (by decide), c3 4 (by decide), b3 4 (by decide)]
    exact a5 r (by omega) hr
  · intro q hq
    rw [n4 7 (by decide) (by decide), n4 8 (by decide) (by decide), d3 7 (by decide), d3 8 (by decide), c3 7 (by decide)]
    exact ⟨b5 q (by omega) hq, c5 q (by omega) hq⟩
  · intro a ha
    rw [n4 12 (by decide) (by decide)]
    exact d5 a (by omega) ha
  · intro z hz
    rw [stM_ne (by decide)]
    by_cases e : z = 1
    · subst e; rw [stM_hit]; rfl
    · rw [stM_far (Or.inr e), if_neg e]
      exact e5 z (by omega) hz
theorem cpM_lp {T : Nat} (hT : T ≤ 6000) (l2 : Int32) : ∀ (d k M : Nat) (s : Mem), k + d = T → d < M → ∃ M' s1, M ≤ M' + d + 1 ∧ itr3 b_X11_play_62 M (nI T) l2 (nI k) s = (bv (f_X11_forget M' (stM s1 0 4 (nI T))) fun s2 => itr2 b_X11_play_96 M' l2 (nI 4) s2) ∧ (∀ z, z ≠ 2 → s1 z = s z) ∧ (∀ j, j < k → s1 2 j = s 2 j) ∧ ∀ j, k ≤ j → j < T → s1 2 j = s 1 j := by
  intro d
  induction d with
  | zero =>
    intro k M s hk hM
    have e : k = T := by omega
    subst e
    obtain ⟨M, rfl⟩ : ∃ m', M = m' + 1 := ⟨M - 1, by omega⟩
    refine ⟨M, s, by omega, ?_, fun _ _ => rfl, fun _ _ => rfl, fun j h1 h2 => by omega⟩
    show b_X11_play_62 M (itr3 b_X11_play_62 M) _ _ _ s = _
    generalize itr3 b_X11_play_62 M = w
    unfold b_X11_play_62
    rw [if_pos (nI_le (by omega) (by omega)), lt_eq]
    rfl
  | succ d ih =>
    intro k M s hk hM
    obtain ⟨M, rfl⟩ : ∃ m', M = m' + 1 := ⟨M - 1, by omega⟩
    obtain ⟨M', s1, x1, x2, x3, x4, x5⟩ := ih (k + 1) M (stM s 2 k (s 1 k)) (by omega) (by omega)
    refine ⟨M', s1, by omega, ?_, fun z hz => by rw [x3 z hz, stM_ne hz], fun j hj => by rw [x4 j (by omega), stM_far (Or.inr (by omega))], fun j h1 h2 => ?_⟩
    · rw [← x2]
      show b_X11_play_62 M (itr3 b_X11_play_62 M) _ _ _ s = _
      generalize itr3 b_X11_play_62 M = w
      unfold b_X11_play_62
      rw [if_neg (nI_ge (by omega) (by omega)), ck_t (inb_nI (by omega) (by decide)), ck_t (inb_nI (by omega) (by decide)), nI_clamp (by omega), lt_eq, lt_eq, show nI k + Int32.ofInt 1 = nI (k + 1) from nI_1 k]
    · by_cases e : j = k
      · subst e; rw [x4 j (by omega), stM_hit]
      · rw [x5 j (by omega) h2, stM_ne (by decide)]
