/-! ===== the relation between the class's memory and the model's ===== -/
def bitI (x : Int32) (i : Nat) : Int32 := (x >>> (nI i &&& 31)) &&& 1
/-- byte p of a row of words, four in one -/
def bcl (w : Nat → Int32) (p : Nat) : Int32 := (((w (p / 4)).toUInt32 >>> ((nI (24 - 8 * (p % 4))).toUInt32 &&& Int32.toUInt32 31)).toInt32) &&& 255
def TapeR (σ : Mem) (r T : Nat) (row : Nat → Int32) : Prop := σ r 1 = nI T ∧ T ≤ 6000 ∧ ∀ p, p < T → bcl (σ (r + 1)) p = row p
def gapI (a0 a1 b0 b1 : Int) : Int := max 0 (max a0 b0 - min a1 b1)
/-- of the model's box k (= 16 * room + box): side i -/
def sdM (τ : Mem) (k i : Nat) : Int := (τ 5 (4 * k + i)).toInt
def nearP (τ : Mem) (k l : Nat) : Prop := gapI (sdM τ k 0) (sdM τ k 2) (sdM τ l 0) (sdM τ l 2) + gapI (sdM τ k 1) (sdM τ k 3) (sdM τ l 1) (sdM τ l 3) ≤ 1
def ScrR (σ τ : Mem) (S q : Nat) : Prop := (σ 23 q = 0 ∧ τ 7 q = 0) ∨ ∃ p e : Nat, 0 < p ∧ p + 1 < e ∧ e ≤ S ∧ σ 23 q = nI p ∧ σ 24 q = nI e ∧ τ 6 q = nI (p + 1) ∧ τ 7 q = nI (e - p - 1)
def ObjR (σ τ : Mem) (S q : Nat) : Prop := (σ 26 q = 0 ∧ τ 8 q = 0) ∨ ∃ p v : Nat, 0 < p ∧ p + 5 + 2 * v ≤ S ∧ σ 26 q = nI p ∧ σ 27 q = nI (p + 5 + 2 * v) ∧ τ 8 q = 1 ∧ (∀ i, i < 3 → τ 9 (3 * q + i) = τ 2 (p + 1 + i)) ∧ τ 10 q = nI (p + 5) ∧ τ 11 q = nI v
def ActR (σ τ : Mem) (q : Nat) : Prop := (σ 29 q = 0 ∧ τ 12 q = 0) ∨ (σ 29 q ≠ 0 ∧ τ 12 q = 1)
def BoxR (σ τ : Mem) (k : Nat) : Prop := σ 111 k = τ 5 (4 * k) ∧ σ 112 k = τ 5 (4 * k + 1) ∧ σ 113 k = τ 5 (4 * k + 2) ∧ σ 114 k = τ 5 (4 * k + 3) ∧ 0 ≤ sdM τ k 0 ∧ sdM τ k 0 ≤ sdM τ k 2 ∧ sdM τ k 2 ≤ 255 ∧ 0 ≤ sdM τ k 1 ∧ sdM τ k 1 ≤ sdM τ k 3 ∧ sdM τ k 3 ≤ 255
def RoomR (σ τ : Mem) (r : Nat) : Prop := ∃ c : Nat, c ≤ 16 ∧ (r = 0 → c = 0) ∧ σ 110 r = nI c ∧ τ 4 r = nI c ∧ ∀ b, b < c → BoxR σ τ (16 * r + b) ∧ 0 ≤ (σ 115 (16 * r + b)).toInt ∧ (σ 115 (16 * r + b)).toInt < 65536 ∧ ∀ d, d < 16 → (bitI (σ 115 (16 * r + b)) d = 0 ∨ bitI (σ 115 (16 * r + b)) d = 1) ∧ (bitI (σ 115 (16 * r + b)) d = 1 ↔ d < c ∧ nearP τ (16 * r + b) (16 * r + d))
def PlayR (σ τ : Mem) (S : Nat) : Prop := (σ 19 2 = τ 0 5 ∧ σ 22 2 = τ 0 6 ∧ σ 25 2 = τ 0 7 ∧ σ 28 2 = τ 0 8) ∧ (∀ q, q < 61 → ScrR σ τ S q) ∧ (∀ q, q < 61 → ObjR σ τ S q) ∧ (∀ q, q < 13 → ActR σ τ q) ∧ (∀ r, r < 21 → RoomR σ τ r) ∧ σ 20 0 = 0 ∧ σ 23 0 = 0 ∧ σ 26 0 = 0 ∧ σ 29 0 = 0
/-- all that runs: the class's stage at b, the model's row ρ -/
def StR (σ : Mem) (b : Nat) (ρ : Nat → Int32) : Prop :=
  (∀ j, j < 6 → ρ j = σ b j) ∧ (∀ i, i < 64 → ρ (6 + i) = σ (b + 1) i) ∧ (∀ i, i < 8 → ∀ j, j < 6 → ρ (70 + 10 * i + j) = σ (b + 9 + 2 * i) j) ∧ (∀ i, i < 8 → ∀ j, j < 4 → ρ (76 + 10 * i + j) = σ (b + 10 + 2 * i) j) ∧
  (∀ j : Nat, (j : Int) < 3 * (σ b 5).toInt → ρ (150 + j) = σ (b + 3) j) ∧ (∀ j : Nat, j < 64 → (j : Int) < (σ b 2).toInt → ρ (168 + j) = σ (b + 2) j) ∧
  (∀ a, a < 13 → ∀ j, j < 5 → ρ (232 + 7 * a + j) = σ (b + 25 + a) j) ∧ (∀ a, a < 13 → σ (b + 25 + a) 4 = 1 → ρ (237 + 7 * a) = σ (b + 25 + a) 5 ∧ ρ (238 + 7 * a) = σ (b + 25 + a) 6) ∧
  (∀ o, o < 61 → ρ (323 + o) = σ (b + 4) o) ∧ (∀ o, o < 61 → ρ (384 + o) = σ (b + 5) o) ∧ (∀ r, r < 21 → ∀ i, i < 16 → ρ (445 + 16 * r + i) = bitI (σ (b + 6) r) i)
def SlotI (σ : Mem) (q : Nat) : Prop := okZ (σ q 4) ∧ okZ (σ q 5) ∧ (σ q 0 = 0 → σ q 1 = 0 ∧ σ q 2 = 0 ∧ σ q 3 = 0 ∧ σ q 4 = 0 ∧ σ q 5 = 0 ∧ ∀ j, j < 4 → σ (q + 1) j = 0) ∧ (σ q 0 ≠ 0 → ∃ c, 0 < c ∧ c < 61 ∧ σ q 0 = nI c ∧ σ 23 c ≠ 0) ∧ 0 ≤ (σ q 1).toInt ∧ (σ q 1).toInt ≤ 65536 ∧ (σ q 3 = 0 ∨ ∃ a, 0 < a ∧ a < 13 ∧ σ q 3 = nI a ∧ σ 29 a ≠ 0)
def ActI (σ : Mem) (q a : Nat) : Prop := (∃ r x y v : Nat, σ q 0 = nI r ∧ r ≤ 20 ∧ σ q 1 = nI x ∧ x ≤ 255 ∧ σ q 2 = nI y ∧ y ≤ 255 ∧ σ q 3 = nI v ∧ v ≤ 8) ∧ okZ (σ q 4) ∧ (σ q 4 = 1 → σ 29 a ≠ 0 ∧ ∃ x y : Nat, σ q 5 = nI x ∧ x ≤ 255 ∧ σ q 6 = nI y ∧ y ≤ 255) ∧ (σ q 4 = 0 → σ 29 a ≠ 0 → σ q 5 = -1 ∧ σ q 6 = -1)
/-- the class's own invariant of a stage; t: calls so far -/
def StI (σ : Mem) (b t : Nat) : Prop := 0 ≤ (σ b 5).toInt ∧ (σ b 5).toInt ≤ 6 ∧ 0 ≤ (σ b 2).toInt ∧ (σ b 2).toInt ≤ 480000 * t ∧ (∀ i, i < 8 → SlotI σ (b + 9 + 2 * i)) ∧ (∀ a, a < 13 → ActI σ (b + 25 + a) a) ∧ ∀ r, r < 21 → 0 ≤ (σ (b + 6) r).toInt ∧ (σ (b + 6) r).toInt < 65536
def Rel (t : Nat) (σ τ : Mem) : Prop := ∃ T S : Nat, (TapeR σ 2 T (τ 1) ∧ τ 0 2 = nI T) ∧ (TapeR σ 17 S (τ 2) ∧ τ 0 4 = nI S) ∧ PlayR σ τ S ∧ (StR σ 33 (τ 15) ∧ StI σ 33 t) ∧ (σ 0 8 = τ 0 29 ∧ okZ (σ 0 8) ∧ (σ 0 8 = 1 → StR σ 71 (τ 16) ∧ StI σ 71 t)) ∧ σ 31 0 = τ 0 25 ∧ σ 31 1 = τ 0 26
/-! what a part of the relation looks at -/
def agr (σ σ' : Mem) (lo hi : Nat) : Prop := ∀ k, lo ≤ k → k < hi → σ' k = σ k
theorem agr_st {σ : Mem} {k j lo hi : Nat} {v : Int32} (h : k < lo ∨ hi ≤ k) : agr σ (stM σ k j v) lo hi := fun a h1 h2 => stM_ne (by omega)
theorem agr_rf (σ : Mem) (lo hi : Nat) : agr σ σ lo hi := fun _ _ _ => rfl
theorem agr_tr {σ σ' σ'' : Mem} {lo hi : Nat} (h1 : agr σ σ' lo hi) (h2 : agr σ' σ'' lo hi) : agr σ σ'' lo hi := fun k a b => (h2 k a b).trans (h1 k a b)
theorem agr_sub {σ σ' : Mem} {lo hi lo' hi' : Nat} (h : agr σ σ' lo hi) (h1 : lo ≤ lo') (h2 : hi' ≤ hi) : agr σ σ' lo' hi' := fun k a b => h k (by omega) (by omega)
theorem TapeR.agr {σ σ' : Mem} {r T : Nat} {row row' : Nat → Int32} (h : TapeR σ r T row) (h1 : agr σ σ' r (r + 2)) (h2 : row' = row) : TapeR σ' r T row' := by
  subst h2
  unfold TapeR
  rw [h1 r (by omega) (by omega), h1 (r + 1) (by omega) (by omega)]
  exact h
theorem StR.agr {σ σ' : Mem} {b : Nat} {ρ : Nat → Int32} (h : StR σ b ρ) (h1 : agr σ σ' b (b + 38)) : StR σ' b ρ := by
  have e : ∀ k, k < 38 → σ' (b + k) = σ (b + k) := fun k hk => h1 _ (by omega) (by omega)
  obtain ⟨a1, a2, a3, a4, a5, a6, a7, a8, a9, a10, a11⟩ := h
  have e0 : σ' b = σ b := e 0 (by omega)
  refine ⟨?_, ?_, ?_, ?_, ?_, ?_, ?_, ?_, ?_, ?_, ?_⟩
  · rw [e0]; exact a1
  · rw [e 1 (by omega)]; exact a2
  · intro i hi j hj
    rw [show b + 9 + 2 * i = b + (9 + 2 * i) by omega, e _ (by omega), ← Nat.add_assoc]
    exact a3 i hi j hj
  · intro i hi j hj
    rw [show b + 10 + 2 * i = b + (10 + 2 * i) by omega, e _ (by omega), ← Nat.add_assoc]
    exact a4 i hi j hj
  · rw [e0, e 3 (by omega)]; exact a5
  · rw [e0, e 2 (by omega)]; exact a6
  · intro a ha j hj
    rw [show b + 25 + a = b + (25 + a) by omega, e _ (by omega), ← Nat.add_assoc]
    exact a7 a ha j hj
  · intro a ha
    rw [show b + 25 + a = b + (25 + a) by omega, e _ (by omega), ← Nat.add_assoc]
    exact a8 a ha
  · rw [e 4 (by omega)]; exact a9
  · rw [e 5 (by omega)]; exact a10
  · rw [e 6 (by omega)]; exact a11
theorem StI.agr {σ σ' : Mem} {b t : Nat} (h : StI σ b t) (h1 : agr σ σ' b (b + 38)) (h2 : agr σ σ' 23 30) : StI σ' b t := by
  have e : ∀ k, k < 38 → σ' (b + k) = σ (b + k) := fun k hk => h1 _ (by omega) (by omega)
  obtain ⟨a1, a2, a3, a4, a5, a6, a7⟩ := h
  have e0 : σ' b = σ b := e 0 (by omega)
  have e23 : σ' 23 = σ 23 := h2 23 (by omega) (by omega)
  have e29 : σ' 29 = σ 29 := h2 29 (by omega) (by omega)
  refine ⟨by rw [e0]; exact a1, by rw [e0]; exact a2, by rw [e0]; exact a3, by rw [e0]; exact a4, ?_, ?_, ?_⟩
  · intro i hi
    have := a5 i hi
    unfold SlotI at this ⊢
    rw [show b + 9 + 2 * i = b + (9 + 2 * i) by omega, show b + (9 + 2 * i) + 1 = b + (10 + 2 * i) by omega, e _ (by omega), e _ (by omega), e23, e29]
    rw [show b + 9 + 2 * i = b + (9 + 2 * i) by omega, show b + (9 + 2 * i) + 1 = b + (10 + 2 * i) by omega] at this
    exact this
  · intro a ha
    have := a6 a ha
    unfold ActI at this ⊢
    rw [show b + 25 + a = b + (25 + a) by omega, e _ (by omega), e29]
    rw [show b + 25 + a = b + (25 + a) by omega] at this
    exact this
  · rw [e 6 (by omega)]; exact a7
theorem StI.up {σ : Mem} {b t : Nat} (h : StI σ b t) : StI σ b (t + 1) := by
  obtain ⟨a1, a2, a3, a4, a5⟩ := h
  exact ⟨a1, a2, a3, by omega, a5⟩
theorem PlayR.agr {σ σ' τ τ' : Mem} {S : Nat} (h : PlayR σ τ S) (h1 : agr σ σ' 19 30) (h2 : agr σ σ' 110 116) (h3 : agr τ τ' 2 13) (h4 : ∀ j, 5 ≤ j → j < 9 → τ' 0 j = τ 0 j) : PlayR σ' τ' S := by
  unfold PlayR ScrR ObjR ActR RoomR BoxR nearP sdM at *
  rw [h1 19 (by omega) (by omega), h1 20 (by omega) (by omega), h1 22 (by omega) (by omega), h1 23 (by omega) (by omega), h1 24 (by omega) (by omega), h1 25 (by omega) (by omega), h1 26 (by omega) (by omega), h1 27 (by omega) (by omega), h1 28 (by omega) (by omega), h1 29 (by omega) (by omega), h2 110 (by omega) (by omega), h2 111 (by omega) (by omega), h2 112 (by omega) (by omega), h2 113 (by omega) (by omega), h2 114 (by omega) (by omega), h2 115 (by omega) (by omega),
    h3 2 (by omega) (by omega), h3 4 (by omega) (by omega), h3 5 (by omega) (by omega), h3 6 (by omega) (by omega), h3 7 (by omega) (by omega), h3 8 (by omega) (by omega), h3 9 (by omega) (by omega), h3 10 (by omega) (by omega), h3 11 (by omega) (by omega), h3 12 (by omega) (by omega), h4 5 (by omega) (by omega), h4 6 (by omega) (by omega), h4 7 (by omega) (by omega), h4 8 (by omega) (by omega)]
  exact h
/-- most calls leave most as it is -/
theorem Rel.step {t : Nat} {σ τ σ' τ' : Mem} (h : Rel t σ τ) (h0 : ∀ j, j < 40 → j ≠ 0 → j ≠ 19 → j ≠ 20 → ¬ (22 ≤ j ∧ j ≤ 23) → ¬ (31 ≤ j) → τ' 0 j = τ 0 j) (hs0 : σ' 0 = σ 0) (h1 : agr σ σ' 2 4) (h2 : agr σ σ' 17 31) (h3 : σ' 31 0 = σ 31 0 ∧ σ' 31 1 = σ 31 1) (h4 : agr σ σ' 71 116) (g1 : agr τ τ' 1 13) (g2 : τ' 16 = τ 16) (hS : StR σ' 33 (τ' 15) ∧ StI σ' 33 (t + 1)) : Rel (t + 1) σ' τ' := by
  obtain ⟨T, S, ⟨a1, a2⟩, ⟨a3, a4⟩, a5, -, ⟨a7, a8, a9⟩, a10, a11⟩ := h
  refine ⟨T, S, ⟨a1.agr (agr_sub h1 (by omega) (by omega)) (g1 1 (by omega) (by omega)), by rw [h0 2 (by decide) (by decide) (by decide) (by decide) (by decide) (by decide)]; exact a2⟩, ⟨a3.agr (agr_sub h2 (by omega) (by omega)) (g1 2 (by omega) (by omega)), by rw [h0 4 (by decide) (by decide) (by decide) (by decide) (by decide) (by decide)]; exact a4⟩, a5.agr (agr_sub h2 (by omega) (by omega)) (agr_sub h4 (by omega) (by omega)) (agr_sub g1 (by omega) (by omega)) (fun j h5 h6 => h0 j (by omega) (by omega) (by omega) (by omega) (by omega) (by omega)), hS, ⟨by rw [hs0, h0 29 (by decide) (by decide) (by decide) (by decide) (by decide) (by decide)]; exact a7, by rw [hs0]; exact a8, fun e => ?_⟩, by rw [h3.1, h0 25 (by decide) (by decide) (by decide) (by decide) (by decide) (by decide)]; exact a10, by rw [h3.2, h0 26 (by decide) (by decide) (by decide) (by decide) (by decide) (by decide)]; exact a11⟩
  rw [hs0] at e
  obtain ⟨b1, b2⟩ := a9 e
  rw [g2]
  exact ⟨b1.agr (agr_sub h4 (by omega) (by omega)), (b2.agr (agr_sub h4 (by omega) (by omega)) (agr_sub h2 (by omega) (by omega))).up⟩
