/-! ===== more writes: the row of sentences, notes, how many wait, actors that walk ===== -/
theorem StR.sen {σ : Mem} {b : Nat} {ρ : Nat → Int32} (h : StR σ b ρ) (hw5 : (σ b 5).toInt ≤ 6) {i0 : Nat} (v : Int32) (h0 : i0 < 18) : StR (stM σ (b + 3) (i0) v) b (upd ρ (150 + i0) v) := by
  obtain ⟨a1, a2, a3, a4, a5, a6, a7, a8, a9, a10, a11⟩ := h
  refine ⟨?_, ?_, ?_, ?_, ?_, ?_, ?_, ?_, ?_, ?_, ?_⟩
  · intro j hj
    rw [pk_un (by omega), stM_far (by omega)]
    exact a1 j hj
  · intro i hi
    rw [pk_un (by omega), stM_far (by omega)]
    exact a2 i hi
  · intro i hi j hj
    rw [pk_un (by omega), stM_far (by omega)]
    exact a3 i hi j hj
  · intro i hi j hj
    rw [pk_un (by omega), stM_far (by omega)]
    exact a4 i hi j hj
  · intro j hj
    rw [stM_far (by omega)] at hj
    by_cases e : i0 = j
    · obtain rfl := e
      rw [pk_us, stM_hit]
    · rw [pk_un (by omega), stM_far (by omega)]
      exact a5 j hj
  · intro j hj hj2
    rw [stM_far (by omega)] at hj2
    rw [pk_un (by omega), stM_far (by omega)]
    exact a6 j hj hj2
  · intro a ha j hj
    rw [pk_un (by omega), stM_far (by omega)]
    exact a7 a ha j hj
  · intro a ha hw
    rw [stM_far (by omega)] at hw
    rw [stM_far (by omega), stM_far (by omega), pk_un (by omega), pk_un (by omega)]
    exact a8 a ha hw
  · intro o ho
    rw [pk_un (by omega), stM_far (by omega)]
    exact a9 o ho
  · intro o ho
    rw [pk_un (by omega), stM_far (by omega)]
    exact a10 o ho
  · intro r hr i hi
    rw [pk_un (by omega), stM_far (by omega)]
    exact a11 r hr i hi
theorem StR.nte {σ : Mem} {b : Nat} {ρ : Nat → Int32} (h : StR σ b ρ) (hw5 : (σ b 5).toInt ≤ 6) {i0 : Nat} (v : Int32) (h0 : i0 < 64) : StR (stM σ (b + 2) (i0) v) b (upd ρ (168 + i0) v) := by
  obtain ⟨a1, a2, a3, a4, a5, a6, a7, a8, a9, a10, a11⟩ := h
  refine ⟨?_, ?_, ?_, ?_, ?_, ?_, ?_, ?_, ?_, ?_, ?_⟩
  · intro j hj
    rw [pk_un (by omega), stM_far (by omega)]
    exact a1 j hj
  · intro i hi
    rw [pk_un (by omega), stM_far (by omega)]
    exact a2 i hi
  · intro i hi j hj
    rw [pk_un (by omega), stM_far (by omega)]
    exact a3 i hi j hj
  · intro i hi j hj
    rw [pk_un (by omega), stM_far (by omega)]
    exact a4 i hi j hj
  · intro j hj
    rw [stM_far (by omega)] at hj
    rw [pk_un (by omega), stM_far (by omega)]
    exact a5 j hj
  · intro j hj hj2
    rw [stM_far (by omega)] at hj2
    by_cases e : i0 = j
    · obtain rfl := e
      rw [pk_us, stM_hit]
    · rw [pk_un (by omega), stM_far (by omega)]
      exact a6 j hj hj2
  · intro a ha j hj
    rw [pk_un (by omega), stM_far (by omega)]
    exact a7 a ha j hj
  · intro a ha hw
    rw [stM_far (by omega)] at hw
    rw [stM_far (by omega), stM_far (by omega), pk_un (by omega), pk_un (by omega)]
    exact a8 a ha hw
  · intro o ho
    rw [pk_un (by omega), stM_far (by omega)]
    exact a9 o ho
  · intro o ho
    rw [pk_un (by omega), stM_far (by omega)]
    exact a10 o ho
  · intro r hr i hi
    rw [pk_un (by omega), stM_far (by omega)]
    exact a11 r hr i hi
theorem StR.wait {σ : Mem} {b : Nat} {ρ : Nat → Int32} (h : StR σ b ρ) (hw5 : (σ b 5).toInt ≤ 6) (v : Int32) (hv6 : v.toInt ≤ 6) (hv : ∀ j : Nat, (j : Int) < 3 * v.toInt → ρ (150 + j) = σ (b + 3) j) : StR (stM σ b 5 v) b (upd ρ 5 v) := by
  obtain ⟨a1, a2, a3, a4, a5, a6, a7, a8, a9, a10, a11⟩ := h
  refine ⟨?_, ?_, ?_, ?_, ?_, ?_, ?_, ?_, ?_, ?_, ?_⟩
  · intro j hj
    by_cases e : 5 = j
    · obtain rfl := e
      rw [pk_us, stM_hit]
    · rw [pk_un (by omega), stM_far (by omega)]
      exact a1 j hj
  · intro i hi
    rw [pk_un (by omega), stM_far (by omega)]
    exact a2 i hi
  · intro i hi j hj
    rw [pk_un (by omega), stM_far (by omega)]
    exact a3 i hi j hj
  · intro i hi j hj
    rw [pk_un (by omega), stM_far (by omega)]
    exact a4 i hi j hj
  · intro j hj
    rw [stM_hit] at hj
    rw [pk_un (by omega), stM_far (by omega)]
    exact hv j hj
  · intro j hj hj2
    rw [stM_far (by omega)] at hj2
    rw [pk_un (by omega), stM_far (by omega)]
    exact a6 j hj hj2
  · intro a ha j hj
    rw [pk_un (by omega), stM_far (by omega)]
    exact a7 a ha j hj
  · intro a ha hw
    rw [stM_far (by omega)] at hw
    rw [stM_far (by omega), stM_far (by omega), pk_un (by omega), pk_un (by omega)]
    exact a8 a ha hw
  · intro o ho
    rw [pk_un (by omega), stM_far (by omega)]
    exact a9 o ho
  · intro o ho
    rw [pk_un (by omega), stM_far (by omega)]
    exact a10 o ho
  · intro r hr i hi
    rw [pk_un (by omega), stM_far (by omega)]
    exact a11 r hr i hi
theorem StR.noted {σ : Mem} {b : Nat} {ρ : Nat → Int32} (h : StR σ b ρ) (hw5 : (σ b 5).toInt ≤ 6) (v : Int32) (hv : ∀ j : Nat, j < 64 → (j : Int) < v.toInt → ρ (168 + j) = σ (b + 2) j) : StR (stM σ b 2 v) b (upd ρ 2 v) := by
  obtain ⟨a1, a2, a3, a4, a5, a6, a7, a8, a9, a10, a11⟩ := h
  refine ⟨?_, ?_, ?_, ?_, ?_, ?_, ?_, ?_, ?_, ?_, ?_⟩
  · intro j hj
    by_cases e : 2 = j
    · obtain rfl := e
      rw [pk_us, stM_hit]
    · rw [pk_un (by omega), stM_far (by omega)]
      exact a1 j hj
  · intro i hi
    rw [pk_un (by omega), stM_far (by omega)]
    exact a2 i hi
  · intro i hi j hj
    rw [pk_un (by omega), stM_far (by omega)]
    exact a3 i hi j hj
  · intro i hi j hj
    rw [pk_un (by omega), stM_far (by omega)]
    exact a4 i hi j hj
  · intro j hj
    rw [stM_far (by omega)] at hj
    rw [pk_un (by omega), stM_far (by omega)]
    exact a5 j hj
  · intro j hj hj2
    rw [stM_hit] at hj2
    rw [pk_un (by omega), stM_far (by omega)]
    exact hv j hj hj2
  · intro a ha j hj
    rw [pk_un (by omega), stM_far (by omega)]
    exact a7 a ha j hj
  · intro a ha hw
    rw [stM_far (by omega)] at hw
    rw [stM_far (by omega), stM_far (by omega), pk_un (by omega), pk_un (by omega)]
    exact a8 a ha hw
  · intro o ho
    rw [pk_un (by omega), stM_far (by omega)]
    exact a9 o ho
  · intro o ho
    rw [pk_un (by omega), stM_far (by omega)]
    exact a10 o ho
  · intro r hr i hi
    rw [pk_un (by omega), stM_far (by omega)]
    exact a11 r hr i hi
theorem StR.walk {σ : Mem} {b : Nat} {ρ : Nat → Int32} (h : StR σ b ρ) (hw5 : (σ b 5).toInt ≤ 6) {a0 : Nat} (x y : Int32) (h0 : a0 < 13) : StR (stM (stM (stM σ (b + 25 + a0) 4 1) (b + 25 + a0) 5 x) (b + 25 + a0) 6 y) b (upd (upd (upd ρ (236 + 7 * a0) 1) (237 + 7 * a0) x) (238 + 7 * a0) y) := by
  obtain ⟨a1, a2, a3, a4, a5, a6, a7, a8, a9, a10, a11⟩ := h
  refine ⟨?_, ?_, ?_, ?_, ?_, ?_, ?_, ?_, ?_, ?_, ?_⟩
  · intro j hj
    rw [pk_un (by omega), pk_un (by omega), pk_un (by omega), stM_far (by omega), stM_far (by omega), stM_far (by omega)]
    exact a1 j hj
  · intro i hi
    rw [pk_un (by omega), pk_un (by omega), pk_un (by omega), stM_far (by omega), stM_far (by omega), stM_far (by omega)]
    exact a2 i hi
  · intro i hi j hj
    rw [pk_un (by omega), pk_un (by omega), pk_un (by omega), stM_far (by omega), stM_far (by omega), stM_far (by omega)]
    exact a3 i hi j hj
  · intro i hi j hj
    rw [pk_un (by omega), pk_un (by omega), pk_un (by omega), stM_far (by omega), stM_far (by omega), stM_far (by omega)]
    exact a4 i hi j hj
  · intro j hj
    rw [stM_far (by omega), stM_far (by omega), stM_far (by omega)] at hj
    rw [pk_un (by omega), pk_un (by omega), pk_un (by omega), stM_far (by omega), stM_far (by omega), stM_far (by omega)]
    exact a5 j hj
  · intro j hj hj2
    rw [stM_far (by omega), stM_far (by omega), stM_far (by omega)] at hj2
    rw [pk_un (by omega), pk_un (by omega), pk_un (by omega), stM_far (by omega), stM_far (by omega), stM_far (by omega)]
    exact a6 j hj hj2
  · intro a ha j hj
    by_cases e : a0 = a ∧ 4 = j
    · obtain ⟨rfl, rfl⟩ := e
      rw [pk_un (by omega), pk_un (by omega), show 232 + 7 * a0 + 4 = 236 + 7 * a0 by omega, pk_us, stM_far (by omega), stM_far (by omega), stM_hit]
    · rw [pk_un (by omega), pk_un (by omega), pk_un (by omega), stM_far (by omega), stM_far (by omega), stM_far (by omega)]
      exact a7 a ha j hj
  · intro a ha hw
    by_cases e : a0 = a
    · subst e
      rw [pk_un (by omega), pk_us, pk_us, stM_far (by omega), stM_hit, stM_hit]
      exact ⟨rfl, rfl⟩
    · rw [stM_far (by omega), stM_far (by omega), stM_far (by omega)] at hw
      rw [stM_far (by omega), stM_far (by omega), stM_far (by omega), stM_far (by omega), stM_far (by omega), stM_far (by omega), pk_un (by omega), pk_un (by omega), pk_un (by omega), pk_un (by omega), pk_un (by omega), pk_un (by omega)]
      exact a8 a ha hw
  · intro o ho
    rw [pk_un (by omega), pk_un (by omega), pk_un (by omega), stM_far (by omega), stM_far (by omega), stM_far (by omega)]
    exact a9 o ho
  · intro o ho
    rw [pk_un (by omega), pk_un (by omega), pk_un (by omega), stM_far (by omega), stM_far (by omega), stM_far (by omega)]
    exact a10 o ho
  · intro r hr i hi
    rw [pk_un (by omega), pk_un (by omega), pk_un (by omega), stM_far (by omega), stM_far (by omega), stM_far (by omega)]
    exact a11 r hr i hi
theorem StR.halt {σ : Mem} {b : Nat} {ρ : Nat → Int32} (h : StR σ b ρ) (hw5 : (σ b 5).toInt ≤ 6) {a0 : Nat} (h0 : a0 < 13) : StR (stM (stM (stM σ (b + 25 + a0) 4 0) (b + 25 + a0) 5 (-1)) (b + 25 + a0) 6 (-1)) b (upd ρ (236 + 7 * a0) 0) := by
  obtain ⟨a1, a2, a3, a4, a5, a6, a7, a8, a9, a10, a11⟩ := h
  refine ⟨?_, ?_, ?_, ?_, ?_, ?_, ?_, ?_, ?_, ?_, ?_⟩
  · intro j hj
    rw [pk_un (by omega), stM_far (by omega), stM_far (by omega), stM_far (by omega)]
    exact a1 j hj
  · intro i hi
    rw [pk_un (by omega), stM_far (by omega), stM_far (by omega), stM_far (by omega)]
    exact a2 i hi
  · intro i hi j hj
    rw [pk_un (by omega), stM_far (by omega), stM_far (by omega), stM_far (by omega)]
    exact a3 i hi j hj
  · intro i hi j hj
    rw [pk_un (by omega), stM_far (by omega), stM_far (by omega), stM_far (by omega)]
    exact a4 i hi j hj
  · intro j hj
    rw [stM_far (by omega), stM_far (by omega), stM_far (by omega)] at hj
    rw [pk_un (by omega), stM_far (by omega), stM_far (by omega), stM_far (by omega)]
    exact a5 j hj
  · intro j hj hj2
    rw [stM_far (by omega), stM_far (by omega), stM_far (by omega)] at hj2
    rw [pk_un (by omega), stM_far (by omega), stM_far (by omega), stM_far (by omega)]
    exact a6 j hj hj2
  · intro a ha j hj
    by_cases e : a0 = a ∧ 4 = j
    · obtain ⟨rfl, rfl⟩ := e
      rw [show 232 + 7 * a0 + 4 = 236 + 7 * a0 by omega, pk_us, stM_far (by omega), stM_far (by omega), stM_hit]
    · rw [pk_un (by omega), stM_far (by omega), stM_far (by omega), stM_far (by omega)]
      exact a7 a ha j hj
  · intro a ha hw
    by_cases e : a0 = a
    · subst e
      rw [stM_far (by omega), stM_far (by omega), stM_hit] at hw
      exact absurd hw (by decide)
    · rw [stM_far (by omega), stM_far (by omega), stM_far (by omega)] at hw
      rw [stM_far (by omega), stM_far (by omega), stM_far (by omega), stM_far (by omega), stM_far (by omega), stM_far (by omega), pk_un (by omega), pk_un (by omega)]
      exact a8 a ha hw
  · intro o ho
    rw [pk_un (by omega), stM_far (by omega), stM_far (by omega), stM_far (by omega)]
    exact a9 o ho
  · intro o ho
    rw [pk_un (by omega), stM_far (by omega), stM_far (by omega), stM_far (by omega)]
    exact a10 o ho
  · intro r hr i hi
    rw [pk_un (by omega), stM_far (by omega), stM_far (by omega), stM_far (by omega)]
    exact a11 r hr i hi
theorem StI.actw {σ σ' : Mem} {b t a0 : Nat} (h : StI σ b t) (h0 : a0 < 13) (hb : b = 33 ∨ b = 71) (hag : ∀ k, k ≠ b + 25 + a0 → σ' k = σ k) (hA : ActI σ' (b + 25 + a0) a0) : StI σ' b t := by
  obtain ⟨a1, a2, a3, a4, a5, a6, a7⟩ := h
  have eb : σ' b = σ b := hag b (by omega)
  have e23 : σ' 23 = σ 23 := hag 23 (by omega)
  have e29 : σ' 29 = σ 29 := hag 29 (by omega)
  refine ⟨by rw [eb]; exact a1, by rw [eb]; exact a2, by rw [eb]; exact a3, by rw [eb]; exact a4, ?_, ?_, ?_⟩
  · intro i hi
    have := a5 i hi
    unfold SlotI at this ⊢
    rw [hag (b + 9 + 2 * i) (by omega), hag (b + 9 + 2 * i + 1) (by omega), e23, e29]
    exact this
  · intro a ha
    by_cases e : a = a0
    · subst e
      exact hA
    · have := a6 a ha
      unfold ActI at this ⊢
      rw [hag (b + 25 + a) (by omega), e29]
      exact this
  · rw [hag (b + 6) (by omega)]
    exact a7
