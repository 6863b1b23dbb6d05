/-! ===== how the relation of the stages goes over a write ===== -/
theorem StR.sc0 {σ : Mem} {b : Nat} {ρ : Nat → Int32} (h : StR σ b ρ) (hw5 : (σ b 5).toInt ≤ 6)  (v : Int32)  : StR (stM σ (b) (0) v) b (upd ρ (0) v) := by
  obtain ⟨a1, a2, a3, a4, a5, a6, a7, a8, a9, a10, a11⟩ := h
  refine ⟨?_, ?_, ?_, ?_, ?_, ?_, ?_, ?_, ?_, ?_, ?_⟩
  · intro j hj
    by_cases e : 0 = j
    · obtain rfl := e
      rw [pk_us, stM_hit]
    · rw [pk_un (by omega), stM_far (by omega)]
      exact a1 j hj
  · intro i hi
    rw [pk_un (by omega), stM_far (by omega)]
    exact a2 i hi
  · intro i hi j hj
    rw [pk_un (by omega), stM_far (by omega)]
    exact a3 i hi j hj
  · intro i hi j hj
    rw [pk_un (by omega), stM_far (by omega)]
    exact a4 i hi j hj
  · intro j hj
    rw [stM_far (by omega)] at hj
    rw [pk_un (by omega), stM_far (by omega)]
    exact a5 j hj
  · intro j hj hj2
    rw [stM_far (by omega)] at hj2
    rw [pk_un (by omega), stM_far (by omega)]
    exact a6 j hj hj2
  · intro a ha j hj
    rw [pk_un (by omega), stM_far (by omega)]
    exact a7 a ha j hj
  · intro a ha hw
    rw [stM_far (by omega)] at hw
    rw [stM_far (by omega), stM_far (by omega), pk_un (by omega), pk_un (by omega)]
    exact a8 a ha hw
  · intro o ho
    rw [pk_un (by omega), stM_far (by omega)]
    exact a9 o ho
  · intro o ho
    rw [pk_un (by omega), stM_far (by omega)]
    exact a10 o ho
  · intro r hr i hi
    rw [pk_un (by omega), stM_far (by omega)]
    exact a11 r hr i hi
theorem StR.sc1 {σ : Mem} {b : Nat} {ρ : Nat → Int32} (h : StR σ b ρ) (hw5 : (σ b 5).toInt ≤ 6)  (v : Int32)  : StR (stM σ (b) (1) v) b (upd ρ (1) v) := by
  obtain ⟨a1, a2, a3, a4, a5, a6, a7, a8, a9, a10, a11⟩ := h
  refine ⟨?_, ?_, ?_, ?_, ?_, ?_, ?_, ?_, ?_, ?_, ?_⟩
  · intro j hj
    by_cases e : 1 = j
    · obtain rfl := e
      rw [pk_us, stM_hit]
    · rw [pk_un (by omega), stM_far (by omega)]
      exact a1 j hj
  · intro i hi
    rw [pk_un (by omega), stM_far (by omega)]
    exact a2 i hi
  · intro i hi j hj
    rw [pk_un (by omega), stM_far (by omega)]
    exact a3 i hi j hj
  · intro i hi j hj
    rw [pk_un (by omega), stM_far (by omega)]
    exact a4 i hi j hj
  · intro j hj
    rw [stM_far (by omega)] at hj
    rw [pk_un (by omega), stM_far (by omega)]
    exact a5 j hj
  · intro j hj hj2
    rw [stM_far (by omega)] at hj2
    rw [pk_un (by omega), stM_far (by omega)]
    exact a6 j hj hj2
  · intro a ha j hj
    rw [pk_un (by omega), stM_far (by omega)]
    exact a7 a ha j hj
  · intro a ha hw
    rw [stM_far (by omega)] at hw
    rw [stM_far (by omega), stM_far (by omega), pk_un (by omega), pk_un (by omega)]
    exact a8 a ha hw
  · intro o ho
    rw [pk_un (by omega), stM_far (by omega)]
    exact a9 o ho
  · intro o ho
    rw [pk_un (by omega), stM_far (by omega)]
    exact a10 o ho
  · intro r hr i hi
    rw [pk_un (by omega), stM_far (by omega)]
    exact a11 r hr i hi
theorem StR.sc3 {σ : Mem} {b : Nat} {ρ : Nat → Int32} (h : StR σ b ρ) (hw5 : (σ b 5).toInt ≤ 6)  (v : Int32)  : StR (stM σ (b) (3) v) b (upd ρ (3) v) := by
  obtain ⟨a1, a2, a3, a4, a5, a6, a7, a8, a9, a10, a11⟩ := h
  refine ⟨?_, ?_, ?_, ?_, ?_, ?_, ?_, ?_, ?_, ?_, ?_⟩
  · intro j hj
    by_cases e : 3 = j
    · obtain rfl := e
      rw [pk_us, stM_hit]
    · rw [pk_un (by omega), stM_far (by omega)]
      exact a1 j hj
  · intro i hi
    rw [pk_un (by omega), stM_far (by omega)]
    exact a2 i hi
  · intro i hi j hj
    rw [pk_un (by omega), stM_far (by omega)]
    exact a3 i hi j hj
  · intro i hi j hj
    rw [pk_un (by omega), stM_far (by omega)]
    exact a4 i hi j hj
  · intro j hj
    rw [stM_far (by omega)] at hj
    rw [pk_un (by omega), stM_far (by omega)]
    exact a5 j hj
  · intro j hj hj2
    rw [stM_far (by omega)] at hj2
    rw [pk_un (by omega), stM_far (by omega)]
    exact a6 j hj hj2
  · intro a ha j hj
    rw [pk_un (by omega), stM_far (by omega)]
    exact a7 a ha j hj
  · intro a ha hw
    rw [stM_far (by omega)] at hw
    rw [stM_far (by omega), stM_far (by omega), pk_un (by omega), pk_un (by omega)]
    exact a8 a ha hw
  · intro o ho
    rw [pk_un (by omega), stM_far (by omega)]
    exact a9 o ho
  · intro o ho
    rw [pk_un (by omega), stM_far (by omega)]
    exact a10 o ho
  · intro r hr i hi
    rw [pk_un (by omega), stM_far (by omega)]
    exact a11 r hr i hi
theorem StR.sc4 {σ : Mem} {b : Nat} {ρ : Nat → Int32} (h : StR σ b ρ) (hw5 : (σ b 5).toInt ≤ 6)  (v : Int32)  : StR (stM σ (b) (4) v) b (upd ρ (4) v) := by
  obtain ⟨a1, a2, a3, a4, a5, a6, a7, a8, a9, a10, a11⟩ := h
  refine ⟨?_, ?_, ?_, ?_, ?_, ?_, ?_, ?_, ?_, ?_, ?_⟩
  · intro j hj
    by_cases e : 4 = j
    · obtain rfl := e
      rw [pk_us, stM_hit]
    · rw [pk_un (by omega), stM_far (by omega)]
      exact a1 j hj
  · intro i hi
    rw [pk_un (by omega), stM_far (by omega)]
    exact a2 i hi
  · intro i hi j hj
    rw [pk_un (by omega), stM_far (by omega)]
    exact a3 i hi j hj
  · intro i hi j hj
    rw [pk_un (by omega), stM_far (by omega)]
    exact a4 i hi j hj
  · intro j hj
    rw [stM_far (by omega)] at hj
    rw [pk_un (by omega), stM_far (by omega)]
    exact a5 j hj
  · intro j hj hj2
    rw [stM_far (by omega)] at hj2
    rw [pk_un (by omega), stM_far (by omega)]
    exact a6 j hj hj2
  · intro a ha j hj
    rw [pk_un (by omega), stM_far (by omega)]
    exact a7 a ha j hj
  · intro a ha hw
    rw [stM_far (by omega)] at hw
    rw [stM_far (by omega), stM_far (by omega), pk_un (by omega), pk_un (by omega)]
    exact a8 a ha hw
  · intro o ho
    rw [pk_un (by omega), stM_far (by omega)]
    exact a9 o ho
  · intro o ho
    rw [pk_un (by omega), stM_far (by omega)]
    exact a10 o ho
  · intro r hr i hi
    rw [pk_un (by omega), stM_far (by omega)]
    exact a11 r hr i hi
theorem StR.var {σ : Mem} {b : Nat} {ρ : Nat → Int32} (h : StR σ b ρ) (hw5 : (σ b 5).toInt ≤ 6) {i0 : Nat} (v : Int32) (h0 : i0 < 64) : StR (stM σ (b + 1) (i0) v) b (upd ρ (6 + i0) v) := by
  obtain ⟨a1, a2, a3, a4, a5, a6, a7, a8, a9, a10, a11⟩ := h
  refine ⟨?_, ?_, ?_, ?_, ?_, ?_, ?_, ?_, ?_, ?_, ?_⟩
  · intro j hj
    rw [pk_un (by omega), stM_far (by omega)]
    exact a1 j hj
  · intro i hi
    by_cases e : i0 = i
    · obtain rfl := e
      rw [pk_us, stM_hit]
    · rw [pk_un (by omega), stM_far (by omega)]
      exact a2 i hi
  · intro i hi j hj
    rw [pk_un (by omega), stM_far (by omega)]
    exact a3 i hi j hj
  · intro i hi j hj
    rw [pk_un (by omega), stM_far (by omega)]
    exact a4 i hi j hj
  · intro j hj
    rw [stM_far (by omega)] at hj
    rw [pk_un (by omega), stM_far (by omega)]
    exact a5 j hj
  · intro j hj hj2
    rw [stM_far (by omega)] at hj2
    rw [pk_un (by omega), stM_far (by omega)]
    exact a6 j hj hj2
  · intro a ha j hj
    rw [pk_un (by omega), stM_far (by omega)]
    exact a7 a ha j hj
  · intro a ha hw
    rw [stM_far (by omega)] at hw
    rw [stM_far (by omega), stM_far (by omega), pk_un (by omega), pk_un (by omega)]
    exact a8 a ha hw
  · intro o ho
    rw [pk_un (by omega), stM_far (by omega)]
    exact a9 o ho
  · intro o ho
    rw [pk_un (by omega), stM_far (by omega)]
    exact a10 o ho
  · intro r hr i hi
    rw [pk_un (by omega), stM_far (by omega)]
    exact a11 r hr i hi
theorem StR.slot {σ : Mem} {b : Nat} {ρ : Nat → Int32} (h : StR σ b ρ) (hw5 : (σ b 5).toInt ≤ 6) {i0 j0 : Nat} (v : Int32) (h0 : i0 < 8) (h1 : j0 < 6) : StR (stM σ (b + 9 + 2 * i0) (j0) v) b (upd ρ (70 + 10 * i0 + j0) v) := by
  obtain ⟨a1, a2, a3, a4, a5, a6, a7, a8, a9, a10, a11⟩ := h
  refine ⟨?_, ?_, ?_, ?_, ?_, ?_, ?_, ?_, ?_, ?_, ?_⟩
  · intro j hj
    rw [pk_un (by omega), stM_far (by omega)]
    exact a1 j hj
  · intro i hi
    rw [pk_un (by omega), stM_far (by omega)]
    exact a2 i hi
  · intro i hi j hj
    by_cases e : i0 = i ∧ j0 = j
    · obtain ⟨rfl, rfl⟩ := e
      rw [pk_us, stM_hit]
    · rw [pk_un (by omega), stM_far (by omega)]
      exact a3 i hi j hj
  · intro i hi j hj
    rw [pk_un (by omega), stM_far (by omega)]
    exact a4 i hi j hj
  · intro j hj
    rw [stM_far (by omega)] at hj
    rw [pk_un (by omega), stM_far (by omega)]
    exact a5 j hj
  · intro j hj hj2
    rw [stM_far (by omega)] at hj2
    rw [pk_un (by omega), stM_far (by omega)]
    exact a6 j hj hj2
  · intro a ha j hj
    rw [pk_un (by omega), stM_far (by omega)]
    exact a7 a ha j hj
  · intro a ha hw
    rw [stM_far (by omega)] at hw
    rw [stM_far (by omega), stM_far (by omega), pk_un (by omega), pk_un (by omega)]
    exact a8 a ha hw
  · intro o ho
    rw [pk_un (by omega), stM_far (by omega)]
    exact a9 o ho
  · intro o ho
    rw [pk_un (by omega), stM_far (by omega)]
    exact a10 o ho
  · intro r hr i hi
    rw [pk_un (by omega), stM_far (by omega)]
    exact a11 r hr i hi
theorem StR.loc {σ : Mem} {b : Nat} {ρ : Nat → Int32} (h : StR σ b ρ) (hw5 : (σ b 5).toInt ≤ 6) {i0 j0 : Nat} (v : Int32) (h0 : i0 < 8) (h1 : j0 < 4) : StR (stM σ (b + 10 + 2 * i0) (j0) v) b (upd ρ (76 + 10 * i0 + j0) v) := by
  obtain ⟨a1, a2, a3, a4, a5, a6, a7, a8, a9, a10, a11⟩ := h
  refine ⟨?_, ?_, ?_, ?_, ?_, ?_, ?_, ?_, ?_, ?_, ?_⟩
  · intro j hj
    rw [pk_un (by omega), stM_far (by omega)]
    exact a1 j hj
  · intro i hi
    rw [pk_un (by omega), stM_far (by omega)]
    exact a2 i hi
  · intro i hi j hj
    rw [pk_un (by omega), stM_far (by omega)]
    exact a3 i hi j hj
  · intro i hi j hj
    by_cases e : i0 = i ∧ j0 = j
    · obtain ⟨rfl, rfl⟩ := e
      rw [pk_us, stM_hit]
    · rw [pk_un (by omega), stM_far (by omega)]
      exact a4 i hi j hj
  · intro j hj
    rw [stM_far (by omega)] at hj
    rw [pk_un (by omega), stM_far (by omega)]
    exact a5 j hj
  · intro j hj hj2
    rw [stM_far (by omega)] at hj2
    rw [pk_un (by omega), stM_far (by omega)]
    exact a6 j hj hj2
  · intro a ha j hj
    rw [pk_un (by omega), stM_far (by omega)]
    exact a7 a ha j hj
  · intro a ha hw
    rw [stM_far (by omega)] at hw
    rw [stM_far (by omega), stM_far (by omega), pk_un (by omega), pk_un (by omega)]
    exact a8 a ha hw
  · intro o ho
    rw [pk_un (by omega), stM_far (by omega)]
    exact a9 o ho
  · intro o ho
    rw [pk_un (by omega), stM_far (by omega)]
    exact a10 o ho
  · intro r hr i hi
    rw [pk_un (by omega), stM_far (by omega)]
    exact a11 r hr i hi
theorem StR.act {σ : Mem} {b : Nat} {ρ : Nat → Int32} (h : StR σ b ρ) (hw5 : (σ b 5).toInt ≤ 6) {i0 j0 : Nat} (v : Int32) (h0 : i0 < 13) (h1 : j0 < 4) : StR (stM σ (b + 25 + i0) (j0) v) b (upd ρ (232 + 7 * i0 + j0) v) := by
  obtain ⟨a1, a2, a3, a4, a5, a6, a7, a8, a9, a10, a11⟩ := h
  refine ⟨?_, ?_, ?_, ?_, ?_, ?_, ?_, ?_, ?_, ?_, ?_⟩
  · intro j hj
    rw [pk_un (by omega), stM_far (by omega)]
    exact a1 j hj
  · intro i hi
    rw [pk_un (by omega), stM_far (by omega)]
    exact a2 i hi
  · intro i hi j hj
    rw [pk_un (by omega), stM_far (by omega)]
    exact a3 i hi j hj
  · intro i hi j hj
    rw [pk_un (by omega), stM_far (by omega)]
    exact a4 i hi j hj
  · intro j hj
    rw [stM_far (by omega)] at hj
    rw [pk_un (by omega), stM_far (by omega)]
    exact a5 j hj
  · intro j hj hj2
    rw [stM_far (by omega)] at hj2
    rw [pk_un (by omega), stM_far (by omega)]
    exact a6 j hj hj2
  · intro a ha j hj
    by_cases e : i0 = a ∧ j0 = j
    · obtain ⟨rfl, rfl⟩ := e
      rw [pk_us, stM_hit]
    · rw [pk_un (by omega), stM_far (by omega)]
      exact a7 a ha j hj
  · intro a ha hw
    rw [stM_far (by omega)] at hw
    rw [stM_far (by omega), stM_far (by omega), pk_un (by omega), pk_un (by omega)]
    exact a8 a ha hw
  · intro o ho
    rw [pk_un (by omega), stM_far (by omega)]
    exact a9 o ho
  · intro o ho
    rw [pk_un (by omega), stM_far (by omega)]
    exact a10 o ho
  · intro r hr i hi
    rw [pk_un (by omega), stM_far (by omega)]
    exact a11 r hr i hi
theorem StR.state {σ : Mem} {b : Nat} {ρ : Nat → Int32} (h : StR σ b ρ) (hw5 : (σ b 5).toInt ≤ 6) {i0 : Nat} (v : Int32) (h0 : i0 < 61) : StR (stM σ (b + 4) (i0) v) b (upd ρ (323 + i0) v) := by
  obtain ⟨a1, a2, a3, a4, a5, a6, a7, a8, a9, a10, a11⟩ := h
  refine ⟨?_, ?_, ?_, ?_, ?_, ?_, ?_, ?_, ?_, ?_, ?_⟩
  · intro j hj
    rw [pk_un (by omega), stM_far (by omega)]
    exact a1 j hj
  · intro i hi
    rw [pk_un (by omega), stM_far (by omega)]
    exact a2 i hi
  · intro i hi j hj
    rw [pk_un (by omega), stM_far (by omega)]
    exact a3 i hi j hj
  · intro i hi j hj
    rw [pk_un (by omega), stM_far (by omega)]
    exact a4 i hi j hj
  · intro j hj
    rw [stM_far (by omega)] at hj
    rw [pk_un (by omega), stM_far (by omega)]
    exact a5 j hj
  · intro j hj hj2
    rw [stM_far (by omega)] at hj2
    rw [pk_un (by omega), stM_far (by omega)]
    exact a6 j hj hj2
  · intro a ha j hj
    rw [pk_un (by omega), stM_far (by omega)]
    exact a7 a ha j hj
  · intro a ha hw
    rw [stM_far (by omega)] at hw
    rw [stM_far (by omega), stM_far (by omega), pk_un (by omega), pk_un (by omega)]
    exact a8 a ha hw
  · intro o ho
    by_cases e : i0 = o
    · obtain rfl := e
      rw [pk_us, stM_hit]
    · rw [pk_un (by omega), stM_far (by omega)]
      exact a9 o ho
  · intro o ho
    rw [pk_un (by omega), stM_far (by omega)]
    exact a10 o ho
  · intro r hr i hi
    rw [pk_un (by omega), stM_far (by omega)]
    exact a11 r hr i hi
theorem StR.owner {σ : Mem} {b : Nat} {ρ : Nat → Int32} (h : StR σ b ρ) (hw5 : (σ b 5).toInt ≤ 6) {i0 : Nat} (v : Int32) (h0 : i0 < 61) : StR (stM σ (b + 5) (i0) v) b (upd ρ (384 + i0) v) := by
  obtain ⟨a1, a2, a3, a4, a5, a6, a7, a8, a9, a10, a11⟩ := h
  refine ⟨?_, ?_, ?_, ?_, ?_, ?_, ?_, ?_, ?_, ?_, ?_⟩
  · intro j hj
    rw [pk_un (by omega), stM_far (by omega)]
    exact a1 j hj
  · intro i hi
    rw [pk_un (by omega), stM_far (by omega)]
    exact a2 i hi
  · intro i hi j hj
    rw [pk_un (by omega), stM_far (by omega)]
    exact a3 i hi j hj
  · intro i hi j hj
    rw [pk_un (by omega), stM_far (by omega)]
    exact a4 i hi j hj
  · intro j hj
    rw [stM_far (by omega)] at hj
    rw [pk_un (by omega), stM_far (by omega)]
    exact a5 j hj
  · intro j hj hj2
    rw [stM_far (by omega)] at hj2
    rw [pk_un (by omega), stM_far (by omega)]
    exact a6 j hj hj2
  · intro a ha j hj
    rw [pk_un (by omega), stM_far (by omega)]
    exact a7 a ha j hj
  · intro a ha hw
    rw [stM_far (by omega)] at hw
    rw [stM_far (by omega), stM_far (by omega), pk_un (by omega), pk_un (by omega)]
    exact a8 a ha hw
  · intro o ho
    rw [pk_un (by omega), stM_far (by omega)]
    exact a9 o ho
  · intro o ho
    by_cases e : i0 = o
    · obtain rfl := e
      rw [pk_us, stM_hit]
    · rw [pk_un (by omega), stM_far (by omega)]
      exact a10 o ho
  · intro r hr i hi
    rw [pk_un (by omega), stM_far (by omega)]
    exact a11 r hr i hi
