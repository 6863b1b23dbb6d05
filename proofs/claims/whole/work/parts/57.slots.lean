/-! ===== within a tick: slots, crashes, stores ===== -/
theorem StR.sl {σ σ' : Mem} {ρ ρ' : Nat → Int32} {i : Nat} (h : StR σ 33 ρ) (hw : (σ 33 5).toInt ≤ 6) (hi : i < 8) (hag : ∀ k, k ≠ 42 + 2 * i → k ≠ 43 + 2 * i → 33 ≤ k → k < 71 → σ' k = σ k) (hρ : ∀ z, z < 781 → ¬ (70 + 10 * i ≤ z ∧ z < 80 + 10 * i) → ρ' z = ρ z) (h0 : ∀ j, j < 6 → ρ' (70 + 10 * i + j) = σ' (42 + 2 * i) j) (h1 : ∀ j, j < 4 → ρ' (76 + 10 * i + j) = σ' (43 + 2 * i) j) : StR σ' 33 ρ' := by
  obtain ⟨a1, a2, a3, a4, a5, a6, a7, a8, a9, a10, a11⟩ := h
  have e33 : σ' 33 = σ 33 := hag 33 (by omega) (by omega) (by omega) (by omega)
  refine ⟨?_, ?_, ?_, ?_, ?_, ?_, ?_, ?_, ?_, ?_, ?_⟩
  · intro j hj
    rw [hρ _ (by omega) (by omega), e33]; exact a1 j hj
  · intro j hj
    rw [hρ _ (by omega) (by omega), hag (33 + 1) (by omega) (by omega) (by omega) (by omega)]; exact a2 j hj
  · intro k hk j hj
    by_cases e : k = i
    · subst e
      rw [show 33 + 9 + 2 * k = 42 + 2 * k by omega]; exact h0 j hj
    · rw [hρ _ (by omega) (by omega), hag (33 + 9 + 2 * k) (by omega) (by omega) (by omega) (by omega)]; exact a3 k hk j hj
  · intro k hk j hj
    by_cases e : k = i
    · subst e
      rw [show 33 + 10 + 2 * k = 43 + 2 * k by omega]; exact h1 j hj
    · rw [hρ _ (by omega) (by omega), hag (33 + 10 + 2 * k) (by omega) (by omega) (by omega) (by omega)]; exact a4 k hk j hj
  · intro j hj
    rw [e33] at hj
    rw [hρ _ (by omega) (by omega), hag (33 + 3) (by omega) (by omega) (by omega) (by omega)]; exact a5 j hj
  · intro j hj hj2
    rw [e33] at hj2
    rw [hρ _ (by omega) (by omega), hag (33 + 2) (by omega) (by omega) (by omega) (by omega)]; exact a6 j hj hj2
  · intro a ha j hj
    rw [hρ _ (by omega) (by omega), hag (33 + 25 + a) (by omega) (by omega) (by omega) (by omega)]; exact a7 a ha j hj
  · intro a ha
    rw [hρ _ (by omega) (by omega), hρ _ (by omega) (by omega), hag (33 + 25 + a) (by omega) (by omega) (by omega) (by omega)]; exact a8 a ha
  · intro o ho
    rw [hρ _ (by omega) (by omega), hag (33 + 4) (by omega) (by omega) (by omega) (by omega)]; exact a9 o ho
  · intro o ho
    rw [hρ _ (by omega) (by omega), hag (33 + 5) (by omega) (by omega) (by omega) (by omega)]; exact a10 o ho
  · intro r hr k hk
    rw [hρ _ (by omega) (by omega), hag (33 + 6) (by omega) (by omega) (by omega) (by omega)]; exact a11 r hr k hk
/-- a slot changes, and nothing else that runs -/
theorem TI.sl {S B i : Nat} {σ τ σ' τ' : Mem} (h : TI S B σ τ) (hi : i < 8) (hag : ∀ k, k ≠ 42 + 2 * i → k ≠ 43 + 2 * i → k < 116 → σ' k = σ k) (hm : ∀ z, z ≠ 0 → z ≠ 15 → z ≠ 17 → z ≠ 18 → τ' z = τ z) (hm0 : ∀ j, j < 31 → τ' 0 j = τ 0 j) (hρ : ∀ z, z < 781 → ¬ (70 + 10 * i ≤ z ∧ z < 80 + 10 * i) → τ' 15 z = τ 15 z) (h0 : ∀ j, j < 6 → τ' 15 (70 + 10 * i + j) = σ' (42 + 2 * i) j) (h1 : ∀ j, j < 4 → τ' 15 (76 + 10 * i + j) = σ' (43 + 2 * i) j) (hS : SlotI σ' (42 + 2 * i)) : FrC σ σ' ∧ FrM τ τ' ∧ TI S B σ' τ' := by
  obtain ⟨t1, t2, t3, t4, t5⟩ := id h
  have f : FrC σ σ' := fun z hz => hag z (by omega) (by omega) (by omega)
  have g : FrM τ τ' := ⟨hm, hm0⟩
  refine ⟨f, g, h.go f g (t3.sl t4.2.1 hi (fun k a b _ c => hag k a b (by omega)) hρ h0 h1) ?_ (by rw [hag 33 (by omega) (by omega) (by omega)]; exact t5)⟩
  have I : StI (fun z => if z < 116 then σ' z else σ z) 33 4000 := by
    refine t4.slotw hi (Or.inl rfl) (fun k a b => ?_) ?_
    · by_cases e : k < 116
      · rw [if_pos e]; exact hag k (by omega) (by omega) e
      · rw [if_neg e]
    · unfold SlotI at hS ⊢
      rw [show 33 + 9 + 2 * i = 42 + 2 * i by omega]
      simp only [if_pos (show 42 + 2 * i < 116 by omega), if_pos (show 42 + 2 * i + 1 < 116 by omega), if_pos (show (23 : Nat) < 116 by omega), if_pos (show (29 : Nat) < 116 by omega)]
      exact hS
  refine I.agr (fun k _ hk => ?_) (fun k _ hk => ?_)
  · show σ' k = if k < 116 then σ' k else σ k
    rw [if_pos (show k < 116 by omega)]
  · show σ' k = if k < 116 then σ' k else σ k
    rw [if_pos (show k < 116 by omega)]
theorem TI.up {S B B' : Nat} {σ τ : Mem} (h : TI S B σ τ) (hB : B ≤ B') : TI S B' σ τ := ⟨h.1, h.2.1, h.2.2.1, h.2.2.2.1, by have := h.2.2.2.2; omega⟩
theorem TI.slI {S B i : Nat} {σ τ : Mem} (h : TI S B σ τ) (hi : i < 8) : SlotI σ (42 + 2 * i) := by
  have := h.2.2.2.1.2.2.2.2.1 i hi
  rw [show 33 + 9 + 2 * i = 42 + 2 * i by omega] at this
  exact this
theorem TI.s {S B i j : Nat} {σ τ : Mem} (h : TI S B σ τ) (hi : i < 8) (hj : j < 6) : τ 15 (70 + 10 * i + j) = σ (42 + 2 * i) j := by
  have := h.2.2.1.2.2.1 i hi j hj
  rw [show 33 + 9 + 2 * i = 42 + 2 * i by omega] at this
  exact this
theorem TI.l {S B i j : Nat} {σ τ : Mem} (h : TI S B σ τ) (hi : i < 8) (hj : j < 4) : τ 15 (76 + 10 * i + j) = σ (43 + 2 * i) j := by
  have := h.2.2.1.2.2.2.1 i hi j hj
  rw [show 33 + 10 + 2 * i = 43 + 2 * i by omega] at this
  exact this
/-- a slot is free -/
def relM (σ : Mem) (q : Nat) : Mem := fillM (stM (stM (stM (stM (stM (stM σ q 0 0) q 1 0) q 2 0) q 3 0) q 4 0) q 5 0) (q + 1) 4 0
theorem rel_eq (n q : Nat) (σ : Mem) : f_X6_release n q σ = some (relM σ q) := by
  unfold f_X6_release
  simp only [lt_eq, ck_t okZ0]
  rfl
theorem relM_ne {σ : Mem} {q z : Nat} (h : z ≠ q) (h2 : z ≠ q + 1) : relM σ q z = σ z := by
  unfold relM fillM
  rw [rwM_ne h2, stM_ne h, stM_ne h, stM_ne h, stM_ne h, stM_ne h, stM_ne h]
theorem relM_0 {σ : Mem} {q : Nat} : ∀ j, j < 6 → relM σ q q j = 0 := by
  intro j hj
  unfold relM fillM
  rw [rwM_ne (by omega)]
  simp only [stM]
  simp only [if_pos]
  rcases (show j = 0 ∨ j = 1 ∨ j = 2 ∨ j = 3 ∨ j = 4 ∨ j = 5 by omega) with rfl | rfl | rfl | rfl | rfl | rfl <;> rfl
theorem relM_1 {σ : Mem} {q : Nat} : ∀ j, j < 4 → relM σ q (q + 1) j = 0 := by
  intro j hj
  unfold relM fillM
  rw [rwM_row, if_pos hj]
theorem relM_s {σ : Mem} {q : Nat} (h : 23 ≠ q ∧ 23 ≠ q + 1 ∧ 29 ≠ q ∧ 29 ≠ q + 1) : SlotI (relM σ q) q := by
  unfold SlotI
  rw [relM_0 0 (by decide), relM_0 1 (by decide), relM_0 2 (by decide), relM_0 3 (by decide), relM_0 4 (by decide), relM_0 5 (by decide)]
  exact ⟨okZ0, okZ0, fun _ => ⟨rfl, rfl, rfl, rfl, rfl, fun j hj => relM_1 j hj⟩, fun q => absurd rfl q, by decide, by decide, Or.inl rfl⟩
theorem freeM_i {τ : Mem} {i z : Nat} (h : 70 + 10 * i ≤ z ∧ z < 80 + 10 * i) : freeM τ i 15 z = 0 := by
  unfold freeM
  rw [rwM_row, if_pos h]
theorem freeM_o {τ : Mem} {i z : Nat} (h : ¬ (70 + 10 * i ≤ z ∧ z < 80 + 10 * i)) : freeM τ i 15 z = τ 15 z := by
  unfold freeM
  rw [rwM_row, if_neg h]
theorem freeM_ne {τ : Mem} {i z : Nat} (h : z ≠ 15) : freeM τ i z = τ z := rwM_ne h
/-- a slot is freed, what was read is left -/
theorem TI.free {S B i : Nat} {σ τ σ1 τ1 : Mem} (h : TI S B σ τ) (hi : i < 8) (hc : CFr i σ σ1) (hm : RdM τ τ1) : FrC σ (relM σ1 (42 + 2 * i)) ∧ FrM τ (freeM τ1 i) ∧ TI S B (relM σ1 (42 + 2 * i)) (freeM τ1 i) := by
  refine h.sl hi (fun k a b c => ?_) (fun z a b c d => ?_) (fun j hj => ?_) (fun z _ hz => ?_) (fun j hj => ?_) (fun j hj => ?_) (relM_s (by omega))
  · rw [relM_ne a (by omega)]; exact hc.1 k a (by omega) (by omega)
  · rw [freeM_ne b]; exact hm.1 z a d
  · rw [freeM_ne (by decide)]; exact hm.2 j (by omega)
  · rw [freeM_o hz, hm.1 15 (by decide) (by decide)]
  · rw [freeM_i (by omega), relM_0 j hj]
  · rw [freeM_i (by omega), show 43 + 2 * i = 42 + 2 * i + 1 by omega, relM_1 j hj]
/-- after a good read: the model's place -/
theorem TI.rd {S B i L p : Nat} {σ τ σ1 τ1 : Mem} (h : TI S B σ τ) (hi : i < 8) (hL : L ≤ 65536) (h0 : σ (42 + 2 * i) 0 ≠ 0) (hr : RO i L σ τ p σ1 τ1) : FrC σ σ1 ∧ FrM τ (stM τ1 15 (70 + 10 * i + 1) (nI p)) ∧ TI S B σ1 (stM τ1 15 (70 + 10 * i + 1) (nI p)) := by
  obtain ⟨⟨r1, r2, -⟩, ⟨m1, m2⟩, hp, q1, -⟩ := hr
  have e15 := m1 15 (by decide) (by decide)
  refine h.sl hi (fun k a b c => r1 k a (by omega) (by omega)) (fun z a b c d => ?_) (fun j hj => ?_) (fun z _ hz => ?_) (fun j hj => ?_) (fun j hj => ?_) ?_
  · rw [stM_ne b]; exact m1 z a d
  · rw [stM_ne (by decide)]; exact m2 j (by omega)
  · rw [stM_far (Or.inr (by omega)), e15]
  · by_cases e : j = 1
    · subst e; rw [stM_hit, q1]
    · rw [stM_far (Or.inr (by omega)), e15, h.s hi hj, r2 j e]
  · rw [stM_far (Or.inr (by omega)), e15, h.l hi hj, r1 (43 + 2 * i) (by omega) (by omega) (by omega)]
  · obtain ⟨f1, f2, f3, f4, f5, f6, f7⟩ := h.slI hi
    unfold SlotI
    rw [r2 0 (by decide), r2 2 (by decide), r2 3 (by decide), r2 4 (by decide), r2 5 (by decide), r1 23 (by omega) (by omega) (by omega), r1 29 (by omega) (by omega) (by omega), q1, nI_toInt (by omega)]
    exact ⟨f1, f2, fun q => absurd q h0, f4, by omega, by omega, f7⟩
