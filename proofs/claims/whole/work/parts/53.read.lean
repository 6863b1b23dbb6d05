/-! ===== an order is read ===== -/
theorem stM_tw (s : Mem) (k j : Nat) (v w : Int32) : stM (stM s k j v) k j w = stM s k j w := by
  funext a b
  unfold stM
  by_cases h : a = k
  · by_cases h2 : b = j
    · rw [if_pos h, if_pos h2, if_pos h, if_pos h2]
    · rw [if_pos h, if_neg h2, if_pos h, if_neg h2, if_pos h, if_neg h2]
  · rw [if_neg h, if_neg h, if_neg h]
theorem bcl_nat (w : Nat → Int32) (p : Nat) : ∃ v, v < 256 ∧ bcl w p = nI v := by
  obtain ⟨j, hj, e⟩ := pk_andE (((w (p / 4)).toUInt32 >>> ((nI (24 - 8 * (p % 4))).toUInt32 &&& Int32.toUInt32 31)).toInt32) (m := 255) 8 (by decide)
  exact ⟨j, hj, e⟩
/-- the code that slot i runs -/
def CX (i c p0 L S : Nat) (σ τ : Mem) : Prop := i < 8 ∧ (0 < c ∧ c < 61) ∧ σ (42 + 2 * i) 0 = nI c ∧ σ 118 8 = nI (p0 + 1) ∧ σ 118 9 = nI L ∧ (0 < L ∧ p0 + 1 + L ≤ S) ∧ τ 6 c = nI (p0 + 1) ∧ τ 7 c = nI L ∧ τ 0 34 = nI i
def RdC (i L : Nat) (σ0 σ : Mem) : Prop := (∀ z, z ≠ 42 + 2 * i → z ≠ 118 → z ≠ 119 → σ z = σ0 z) ∧ (∀ j, j ≠ 1 → σ (42 + 2 * i) j = σ0 (42 + 2 * i) j) ∧ σ 118 8 = σ0 118 8 ∧ σ 118 9 = σ0 118 9 ∧ ∃ p, p ≤ L ∧ σ (42 + 2 * i) 1 = nI p
def RdM (τ0 τ : Mem) : Prop := (∀ z, z ≠ 0 → z ≠ 18 → τ z = τ0 z) ∧ ∀ j, j < 35 → τ 0 j = τ0 0 j
def RO (i L : Nat) (σ0 τ0 : Mem) (p : Nat) (σ τ : Mem) : Prop := RdC i L σ0 σ ∧ RdM τ0 τ ∧ p ≤ L ∧ σ (42 + 2 * i) 1 = nI p ∧ τ 0 36 = nI p ∧ σ 118 7 = 0 ∧ τ 0 35 = 0
def BC (i L : Nat) (σ0 σ : Mem) : Prop := RdC i L σ0 σ ∧ σ 118 7 = 1
def BM (τ0 τ : Mem) : Prop := RdM τ0 τ ∧ τ 0 35 = 1
theorem RdC.pl {i L p : Nat} {σ0 σ : Mem} (h : RdC i L σ0 σ) (hp : p ≤ L) : RdC i L σ0 (stM σ (42 + 2 * i) 1 (nI p)) := by
  obtain ⟨h1, h2, h3, h4, -⟩ := h
  by_cases e8 : (118 : Nat) = 42 + 2 * i
  · refine ⟨fun z a b c => by rw [stM_ne a, h1 z a b c], fun j hj => by rw [stM_far (Or.inr hj), h2 j hj], by rw [stM_far (Or.inr (by decide)), h3], by rw [stM_far (Or.inr (by decide)), h4], p, hp, stM_hit _ _ _ _⟩
  · refine ⟨fun z a b c => by rw [stM_ne a, h1 z a b c], fun j hj => by rw [stM_far (Or.inr hj), h2 j hj], by rw [stM_ne e8, h3], by rw [stM_ne e8, h4], p, hp, stM_hit _ _ _ _⟩
theorem RdC.w118 {i L j : Nat} {σ0 σ : Mem} {v : Int32} (hi : i < 8) (h : RdC i L σ0 σ) (hj : j ≠ 8 ∧ j ≠ 9) : RdC i L σ0 (stM σ 118 j v) := by
  obtain ⟨h1, h2, h3, h4, p, hp, h5⟩ := h
  exact ⟨fun z a b c => by rw [stM_ne b, h1 z a b c], fun k hk => by rw [stM_ne (by omega), h2 k hk], by rw [stM_far (Or.inr (by omega)), h3], by rw [stM_far (Or.inr (by omega)), h4], p, hp, by rw [stM_ne (by omega)]; exact h5⟩
theorem RdC.w119 {i L j : Nat} {σ0 σ : Mem} {v : Int32} (hi : i < 8) (h : RdC i L σ0 σ) : RdC i L σ0 (stM σ 119 j v) := by
  obtain ⟨h1, h2, h3, h4, p, hp, h5⟩ := h
  exact ⟨fun z a b c => by rw [stM_ne c, h1 z a b c], fun k hk => by rw [stM_ne (by omega), h2 k hk], by rw [stM_ne (by decide), h3], by rw [stM_ne (by decide), h4], p, hp, by rw [stM_ne (by omega)]; exact h5⟩
theorem RdM.w0 {τ0 τ : Mem} {j : Nat} {v : Int32} (h : RdM τ0 τ) (hj : 35 ≤ j) : RdM τ0 (stM τ 0 j v) :=
  ⟨fun z a b => by rw [stM_ne a, h.1 z a b], fun k hk => by rw [stM_far (Or.inr (by omega)), h.2 k hk]⟩
theorem RdM.w18 {τ0 τ : Mem} {j : Nat} {v : Int32} (h : RdM τ0 τ) : RdM τ0 (stM τ 18 j v) :=
  ⟨fun z a b => by rw [stM_ne b, h.1 z a b], fun k hk => by rw [stM_ne (by decide), h.2 k hk]⟩
theorem BC.mk2 {i L : Nat} {σ0 σ : Mem} (hi : i < 8) (h : RdC i L σ0 σ) : BC i L σ0 (stM σ 118 7 1) := ⟨h.w118 hi (by decide), stM_hit _ _ _ _⟩
theorem BM.mk2 {τ0 τ : Mem} (h : RdM τ0 τ) : BM τ0 (stM τ 0 35 1) := ⟨h.w0 (by decide), stM_hit _ _ _ _⟩
/-- what holds before an order is read -/
def RX (i c p0 L S : Nat) (σ0 τ0 : Mem) : Prop := CX i c p0 L S σ0 τ0 ∧ TapeR σ0 17 S (τ0 2) ∧ τ0 15 (70 + 10 * i) = nI c ∧ (∀ j, j < 64 → τ0 15 (6 + j) = σ0 34 j) ∧ ∀ j, j < 4 → τ0 15 (76 + 10 * i + j) = σ0 (43 + 2 * i) j
theorem nbC {i c p0 L S : Nat} {σ0 τ0 : Mem} (X : RX i c p0 L S σ0 τ0) (n : Nat) {σ : Mem} (h : RdC i L σ0 σ) {p : Nat} (hq : σ (42 + 2 * i) 1 = nI p) (hp : p < L) : f_X5_nextByte n (42 + 2 * i) σ = some (τ0 2 (p0 + 1 + p), stM σ (42 + 2 * i) 1 (nI (p + 1))) := by
  obtain ⟨⟨hi, hc, x1, x2, x3, x4, -⟩, ⟨t1, t2, t3⟩, -⟩ := X
  obtain ⟨h1, h2, h3, h4, -⟩ := h
  unfold f_X5_nextByte b_X5_nextByte_18
  rw [hq, h4, x3, h3, x2, if_neg (nI_pos (by omega)), if_pos (nI_lt hp (by omega)), nI_add, at_eq n (T := S) σ (by rw [h1 17 (by omega) (by decide) (by decide)]; exact t1) t2 (by omega), bd_mk, lt_eq, hq, nI_1]
  rw [show σ (17 + 1) = σ0 18 from h1 18 (by omega) (by decide) (by decide), show bcl (σ0 18) (p0 + 1 + p) = τ0 2 (p0 + 1 + p) from t3 _ (by omega)]
theorem nbCo {i c p0 L S : Nat} {σ0 τ0 : Mem} (X : RX i c p0 L S σ0 τ0) (n : Nat) {σ : Mem} (h : RdC i L σ0 σ) {p : Nat} (hq : σ (42 + 2 * i) 1 = nI p) (hp : ¬ p < L) (hp2 : p ≤ L) : f_X5_nextByte n (42 + 2 * i) σ = some (-1, stM σ 118 7 1) := by
  obtain ⟨⟨hi, hc, x1, x2, x3, x4, -⟩, ⟨t1, t2, t3⟩, -⟩ := X
  obtain ⟨h1, h2, h3, h4, -⟩ := h
  unfold f_X5_nextByte b_X5_nextByte_18
  rw [hq, h4, x3, if_neg (nI_pos (by omega)), if_neg (nI_nlt (by omega) (by omega)), ck_t okZ1]
  rfl
/-- the class's read of a byte goes on, whatever came before -/
theorem nbCt {i c p0 L S : Nat} {σ0 τ0 : Mem} (X : RX i c p0 L S σ0 τ0) (n : Nat) {σ : Mem} (h : RdC i L σ0 σ) : ∃ x σ', f_X5_nextByte n (42 + 2 * i) σ = some (x, σ') ∧ RdC i L σ0 σ' ∧ (σ 118 7 = 1 → σ' 118 7 = 1) := by
  have hi := X.1.1
  obtain ⟨p, hp, hq⟩ := h.2.2.2.2
  by_cases e : p < L
  · exact ⟨_, _, nbC X n h hq e, h.pl (by omega), fun q => by rw [stM_ne (by omega)]; exact q⟩
  · exact ⟨_, _, nbCo X n h hq e hp, h.w118 hi (by decide), fun _ => stM_hit _ _ _ _⟩
theorem nbM {i c p0 L S : Nat} {σ0 τ0 : Mem} (X : RX i c p0 L S σ0 τ0) (n : Nat) {τ : Mem} (h : RdM τ0 τ) {p : Nat} (hq : τ 0 36 = nI p) (hc0 : τ 0 35 = 0) (hp : p < L) : f_X11_byteOf n τ = some (τ0 2 (p0 + 1 + p), stM τ 0 36 (nI (p + 1))) := by
  obtain ⟨⟨hi, hc, x1, x2, x3, x4, x5, x6, x7⟩, ⟨t1, t2, t3⟩, x8, -⟩ := X
  obtain ⟨h1, h2⟩ := h
  unfold f_X11_byteOf b_X11_byteOf_30
  have e1 : nI (p0 + 1) + nI (p + 1) - (1 : Int32) = nI (p0 + 1 + p) := by
    rw [nI_add, show p0 + 1 + (p + 1) = (p0 + 1 + p) + 1 by omega, nI_pred]
  rw [h2 34 (by decide), x7, of0 n hi, bd_mk, h1 15 (by decide) (by decide), x8, if_pos hc0, ck_t (inb_nI hc.2 (by decide)), nI_clamp (by omega), hq, h1 7 (by decide) (by decide), x6, if_pos (nI_lt hp (by omega)), lt_eq, ck_t (inb_nI hc.2 (by decide)), nI_1]
  simp only [stM_hit, stM_ne (show (6 : Nat) ≠ 0 by decide), stM_ne (show (2 : Nat) ≠ 0 by decide), h1 6 (by decide) (by decide), x5, e1, h1 2 (by decide) (by decide)]
  rw [ck_t (inb_nI (by omega) (by decide)), nI_clamp (by omega)]
theorem nbMo {i c p0 L S : Nat} {σ0 τ0 : Mem} (X : RX i c p0 L S σ0 τ0) (n : Nat) {τ : Mem} (h : RdM τ0 τ) {p : Nat} (hq : τ 0 36 = nI p) (hc0 : τ 0 35 = 0) (hp : ¬ p < L) (hp2 : p ≤ L) : f_X11_byteOf n τ = some (0, stM τ 0 35 1) := by
  obtain ⟨⟨hi, hc, x1, x2, x3, x4, x5, x6, x7⟩, ⟨t1, t2, t3⟩, x8, -⟩ := X
  obtain ⟨h1, h2⟩ := h
  unfold f_X11_byteOf b_X11_byteOf_30
  rw [h2 34 (by decide), x7, of0 n hi, bd_mk, h1 15 (by decide) (by decide), x8, if_pos hc0, ck_t (inb_nI hc.2 (by decide)), nI_clamp (by omega), hq, h1 7 (by decide) (by decide), x6, if_neg (nI_nlt (by omega) (by omega)), ck_t okZ1]
  rfl
theorem nbMb {i c p0 L S : Nat} {σ0 τ0 : Mem} (X : RX i c p0 L S σ0 τ0) (n : Nat) {τ : Mem} (h : BM τ0 τ) : f_X11_byteOf n τ = some (0, stM τ 0 35 1) := by
  obtain ⟨⟨hi, hc, x1, x2, x3, x4, x5, x6, x7⟩, ⟨t1, t2, t3⟩, x8, -⟩ := X
  obtain ⟨⟨h1, h2⟩, h3⟩ := h
  unfold f_X11_byteOf b_X11_byteOf_30
  rw [h2 34 (by decide), x7, of0 n hi, bd_mk, h3, if_neg (by decide), ck_t okZ1]
  rfl
theorem RO.pl {i L p p' : Nat} {σ0 τ0 σ τ : Mem} (hi : i < 8) (h : RO i L σ0 τ0 p σ τ) (hp : p' ≤ L) : RO i L σ0 τ0 p' (stM σ (42 + 2 * i) 1 (nI p')) (stM τ 0 36 (nI p')) := by
  obtain ⟨h1, h2, h3, h4, h5, h6, h7⟩ := h
  exact ⟨h1.pl hp, h2.w0 (by decide), hp, stM_hit _ _ _ _, stM_hit _ _ _ _, by rw [stM_ne (by omega)]; exact h6, by rw [stM_far (Or.inr (by decide))]; exact h7⟩
/-- both read a byte -/
theorem nb2 {i c p0 L S p : Nat} {σ0 τ0 σ τ : Mem} (X : RX i c p0 L S σ0 τ0) (n m : Nat) (h : RO i L σ0 τ0 p σ τ) : (∃ v, v < 256 ∧ f_X5_nextByte n (42 + 2 * i) σ = some (nI v, stM σ (42 + 2 * i) 1 (nI (p + 1))) ∧ f_X11_byteOf m τ = some (nI v, stM τ 0 36 (nI (p + 1))) ∧ RO i L σ0 τ0 (p + 1) (stM σ (42 + 2 * i) 1 (nI (p + 1))) (stM τ 0 36 (nI (p + 1)))) ∨ (f_X5_nextByte n (42 + 2 * i) σ = some (-1, stM σ 118 7 1) ∧ f_X11_byteOf m τ = some (0, stM τ 0 35 1) ∧ BC i L σ0 (stM σ 118 7 1) ∧ BM τ0 (stM τ 0 35 1)) := by
  obtain ⟨h1, h2, h3, h4, h5, h6, h7⟩ := id h
  have hi := X.1.1
  by_cases e : p < L
  · obtain ⟨v, hv, ev⟩ := bcl_nat (σ0 18) (p0 + 1 + p)
    have et : τ0 2 (p0 + 1 + p) = nI v := by rw [← X.2.1.2.2 _ (by have := X.1.2.2.2.2.2.1; omega), ← ev]
    left
    refine ⟨v, hv, ?_, ?_, h.pl hi (by omega)⟩
    · rw [nbC X n h1 h4 e, et]
    · rw [nbM X m h2 h5 h7 e, et]
  · exact Or.inr ⟨nbCo X n h1 h4 e h3, nbMo X m h2 h5 h7 e h3, BC.mk2 hi h1, BM.mk2 h2⟩
/-! an address -/
theorem adr1 (n : Nat) {v : Nat} (hv : v < 64) (s : Mem) : f_X5_addressOf n 1 (nI v) s = some (nI v, s) := by
  unfold f_X5_addressOf
  rw [if_pos rfl, if_neg (nI_pos (by omega)), if_neg (show ¬ (64 : Int32) ≤ nI v from nI_ge (a := v) (b := 64) hv (by omega))]
theorem adr2 (n : Nat) {v : Nat} (hv : v < 4) (s : Mem) : f_X5_addressOf n 2 (nI v) s = some (nI (64 + v), s) := by
  unfold f_X5_addressOf b_X5_addressOf_17
  rw [if_neg (by decide), if_pos rfl, if_neg (nI_pos (by omega)), if_neg (show ¬ (4 : Int32) ≤ nI v from nI_ge (a := v) (b := 4) hv (by omega))]
  congr 2
  exact nI_add 64 v
theorem adr0 (n : Nat) {k v : Int32} (h1 : ¬ (k = 1 ∧ 0 ≤ v.toInt ∧ v.toInt < 64)) (h2 : ¬ (k = 2 ∧ 0 ≤ v.toInt ∧ v.toInt < 4)) (s : Mem) : f_X5_addressOf n k v s = some (-1, stM s 118 7 1) := by
  have e36 : b_X5_addressOf_36 n s = some (-1, stM s 118 7 1) := by
    unfold b_X5_addressOf_36
    rw [ck_t okZ1]
    rfl
  have e17 : b_X5_addressOf_17 n k v s = some (-1, stM s 118 7 1) := by
    unfold b_X5_addressOf_17
    by_cases a : k = 2
    · rw [if_pos a]
      by_cases b : v < 0
      · rw [if_pos b, e36]
      · rw [if_neg b, if_pos (le_T.mpr (by have : ¬ v.toInt < 0 := fun q => b (lt_T.mpr q); have h3 : ¬ (0 ≤ v.toInt ∧ v.toInt < 4) := fun q => h2 ⟨a, q⟩; show (4 : Int) ≤ v.toInt; omega)), e36]
    · rw [if_neg a, e36]
  unfold f_X5_addressOf
  by_cases a : k = 1
  · rw [if_pos a]
    by_cases b : v < 0
    · rw [if_pos b, e17]
    · rw [if_neg b, if_pos (le_T.mpr (by have : ¬ v.toInt < 0 := fun q => b (lt_T.mpr q); have h3 : ¬ (0 ≤ v.toInt ∧ v.toInt < 64) := fun q => h1 ⟨a, q⟩; show (64 : Int) ≤ v.toInt; omega)), e17]
  · rw [if_neg a, e17]
theorem fet1 (n q : Nat) {v : Nat} (hv : v < 64) (s : Mem) : f_X5_fetch n q (nI v) s = some (s 34 v, s) := by
  unfold f_X5_fetch b_X5_fetch_27
  rw [if_neg (show ¬ (64 : Int32) ≤ nI v from nI_ge (a := v) (b := 64) hv (by omega)), ck_t (inb_nI hv (by decide)), nI_clamp (by omega)]
theorem fet2 (n q : Nat) {v : Nat} (hv : v < 4) (s : Mem) : f_X5_fetch n q (nI (64 + v)) s = some (s (q + 1) v, s) := by
  have e : nI (64 + v) - (64 : Int32) = nI v := by
    show nI (64 + v) - nI 64 = _
    rw [pk_sub (by omega)]
    congr 1
    omega
  unfold f_X5_fetch b_X5_fetch_27
  rw [if_pos (show (64 : Int32) ≤ nI (64 + v) from nI_le (a := 64) (by omega) (by omega)), e, ck_t (inb_nI hv (by decide)), nI_clamp (by omega)]
theorem m1_ne (v : Nat) (h : v < 2 ^ 31) : ¬ nI v = (-1 : Int32) := by
  intro w
  have := congrArg Int32.toInt w
  rw [nI_toInt h] at this
  exact absurd this (by simp)
/-- the class's reads go on -/
theorem adrt {i L : Nat} {σ0 σ : Mem} (hi : i < 8) (n : Nat) (k v : Int32) (h : RdC i L σ0 σ) : (∃ w, w < 68 ∧ f_X5_addressOf n k v σ = some (nI w, σ)) ∨ f_X5_addressOf n k v σ = some (-1, stM σ 118 7 1) := by
  by_cases a : k = 1 ∧ 0 ≤ v.toInt ∧ v.toInt < 64
  · obtain ⟨w, hw, rfl⟩ : ∃ w, w < 64 ∧ v = nI w := ⟨v.toInt.toNat, by omega, nI_oT (by omega)⟩
    exact Or.inl ⟨w, by omega, by rw [a.1, adr1 n hw]⟩
  · by_cases b : k = 2 ∧ 0 ≤ v.toInt ∧ v.toInt < 4
    · obtain ⟨w, hw, rfl⟩ : ∃ w, w < 4 ∧ v = nI w := ⟨v.toInt.toNat, by omega, nI_oT (by omega)⟩
      exact Or.inl ⟨64 + w, by omega, by rw [b.1, adr2 n hw]⟩
    · exact Or.inr (adr0 n a b σ)
theorem fett {w : Nat} (n q : Nat) (hw : w < 68) (s : Mem) : ∃ x, f_X5_fetch n q (nI w) s = some (x, s) := by
  by_cases e : w < 64
  · exact ⟨_, fet1 n q e s⟩
  · have := fet2 n q (v := w - 64) (by omega) s
    rw [show 64 + (w - 64) = w by omega] at this
    exact ⟨_, this⟩
theorem tgtC {i c p0 L S : Nat} {σ0 τ0 : Mem} (X : RX i c p0 L S σ0 τ0) (n : Nat) {σ : Mem} (h : RdC i L σ0 σ) : ∃ x σ', f_X5_readTarget n (42 + 2 * i) σ = some (x, σ') ∧ RdC i L σ0 σ' ∧ (σ 118 7 = 1 → σ' 118 7 = 1) := by
  have hi := X.1.1
  obtain ⟨x1, s1, e1, r1, k1⟩ := nbCt X n h
  obtain ⟨x2, s2, e2, r2, k2⟩ := nbCt X n r1
  unfold f_X5_readTarget
  rw [e1, bd_mk, e2, bd_mk]
  rcases adrt hi n x1 x2 r2 with ⟨w, hw, e3⟩ | e3
  · rw [e3, bd_mk]
    exact ⟨_, _, rfl, r2, fun q => k2 (k1 q)⟩
  · rw [e3, bd_mk]
    exact ⟨_, _, rfl, r2.w118 hi (by decide), fun _ => stM_hit _ _ _ _⟩
theorem valC {i c p0 L S : Nat} {σ0 τ0 : Mem} (X : RX i c p0 L S σ0 τ0) (n : Nat) {σ : Mem} (h : RdC i L σ0 σ) : ∃ x σ', f_X5_readValue n (42 + 2 * i) σ = some (x, σ') ∧ RdC i L σ0 σ' ∧ (σ 118 7 = 1 → σ' 118 7 = 1) := by
  have hi := X.1.1
  obtain ⟨x1, s1, e1, r1, k1⟩ := nbCt X n h
  obtain ⟨x2, s2, e2, r2, k2⟩ := nbCt X n r1
  unfold f_X5_readValue b_X5_readValue_53
  rw [e1, bd_mk, e2, bd_mk]
  by_cases z : x1 = 0
  · obtain ⟨x3, s3, e3, r3, k3⟩ := nbCt X n r2
    rw [if_pos z, e3, bd_mk]
    exact ⟨_, _, rfl, r3, fun q => k3 (k2 (k1 q))⟩
  · rw [if_neg z]
    rcases adrt hi n x1 x2 r2 with ⟨w, hw, e3⟩ | e3
    · obtain ⟨x4, e4⟩ := fett n (42 + 2 * i) hw s2
      rw [e3, bd_mk, if_neg (m1_ne w (by omega)), e4, bd_mk]
      exact ⟨_, _, rfl, r2, fun q => k2 (k1 q)⟩
    · rw [e3, bd_mk, if_pos rfl]
      exact ⟨_, _, rfl, r2.w118 hi (by decide), fun _ => stM_hit _ _ _ _⟩
theorem jmpC {i c p0 L S : Nat} {σ0 τ0 : Mem} (X : RX i c p0 L S σ0 τ0) (n : Nat) {σ : Mem} (h : RdC i L σ0 σ) : ∃ x σ', f_X5_readJump n (42 + 2 * i) σ = some (x, σ') ∧ RdC i L σ0 σ' ∧ (σ 118 7 = 1 → σ' 118 7 = 1) := by
  have hi := X.1.1
  obtain ⟨x1, s1, e1, r1, k1⟩ := nbCt X n h
  obtain ⟨x2, s2, e2, r2, k2⟩ := nbCt X n r1
  unfold f_X5_readJump b_X5_readJump_29 b_X5_readJump_34
  rw [e1, bd_mk, e2, bd_mk, lt_eq]
  have bad : ∃ x σ', ck (okZ 1) (lt (stM s2 118 7 1) fun s1 => some (x1 <<< ((8 : Int32) &&& 31) ||| x2, s1)) = some (x, σ') ∧ RdC i L σ0 σ' ∧ (σ 118 7 = 1 → σ' 118 7 = 1) := by
    rw [ck_t okZ1, lt_eq]
    exact ⟨_, _, rfl, r2.w118 hi (by decide), fun _ => stM_hit _ _ _ _⟩
  by_cases a : (x1 <<< ((8 : Int32) &&& 31) ||| x2) < 0
  · rw [if_pos a]; exact bad
  · rw [if_neg a]
    by_cases b : (x1 <<< ((8 : Int32) &&& 31) ||| x2) < s2 118 9
    · rw [if_pos b]
      exact ⟨_, _, rfl, r2, fun q => k2 (k1 q)⟩
    · rw [if_neg b]; exact bad
/-! the model's reads, once it has crashed -/
theorem tgtM {i c p0 L S : Nat} {σ0 τ0 : Mem} (X : RX i c p0 L S σ0 τ0) (n : Nat) {τ : Mem} (h : BM τ0 τ) : ∃ x τ', f_X11_target n τ = some (x, τ') ∧ BM τ0 τ' := by
  unfold f_X11_target b_X11_target_22 b_X11_target_38
  have b1 := BM.mk2 (BM.mk2 h.1).1
  rw [nbMb X n h, bd_mk, in_f n 0 1 2 _ (by decide), bd_mk, if_pos rfl, ck_t okZ1, lt_eq, stM_hit, if_neg (by decide)]
  exact ⟨_, _, rfl, b1⟩
theorem valM {i c p0 L S : Nat} {σ0 τ0 : Mem} (X : RX i c p0 L S σ0 τ0) (n : Nat) {τ : Mem} (h : BM τ0 τ) : ∃ x τ', f_X11_value n τ = some (x, τ') ∧ BM τ0 τ' := by
  unfold f_X11_value b_X11_value_15
  rw [nbMb X n h, bd_mk, if_pos (by decide), stM_hit, if_neg (by decide)]
  exact ⟨_, _, rfl, BM.mk2 h.1⟩
theorem c2M {i c p0 L S : Nat} {σ0 τ0 : Mem} (X : RX i c p0 L S σ0 τ0) (n : Nat) {τ : Mem} (h : BM τ0 τ) : ∃ x τ', f_X11_count2 n τ = some (x, τ') ∧ BM τ0 τ' := by
  unfold f_X11_count2
  have b1 := BM.mk2 h.1
  rw [nbMb X n h, bd_mk, nbMb X n b1, bd_mk]
  exact ⟨_, _, rfl, BM.mk2 b1.1⟩
theorem jmp2M {i c p0 L S : Nat} {σ0 τ0 : Mem} (X : RX i c p0 L S σ0 τ0) (n : Nat) {τ : Mem} (x : Int32) (h : RdM τ0 τ) : ∃ τ', (bd (f_X11_of n (τ 0 34) 0 τ) fun x4 s3 => ck (inb x4 61) (if x < s3 7 x4.toNatClampNeg then some (x, s3) else ck (okZ 1) (lt (stM s3 0 35 1) fun s5 => some (x, s5)))) = some (x, τ') ∧ RdM τ0 τ' ∧ (τ' = τ ∧ x < nI L ∨ τ' = stM τ 0 35 1 ∧ ¬ x < nI L) := by
  obtain ⟨⟨hi, hc, x1, x2, x3, x4, x5, x6, x7⟩, ⟨t1, t2, t3⟩, x8, -⟩ := X
  obtain ⟨h1, h2⟩ := id h
  rw [h2 34 (by decide), x7, of0 n hi, bd_mk, h1 15 (by decide) (by decide), x8, ck_t (inb_nI hc.2 (by decide)), nI_clamp (by omega), h1 7 (by decide) (by decide), x6]
  by_cases e : x < nI L
  · rw [if_pos e]
    exact ⟨_, rfl, h, Or.inl ⟨rfl, e⟩⟩
  · rw [if_neg e, ck_t okZ1, lt_eq]
    exact ⟨_, rfl, h.w0 (by decide), Or.inr ⟨rfl, e⟩⟩
theorem jmpM {i c p0 L S : Nat} {σ0 τ0 : Mem} (X : RX i c p0 L S σ0 τ0) (n : Nat) {τ : Mem} (h : BM τ0 τ) : ∃ x τ', f_X11_jump n τ = some (x, τ') ∧ BM τ0 τ' := by
  obtain ⟨x, s1, e1, b1⟩ := c2M X n h
  unfold f_X11_jump b_X11_jump_28
  rw [e1, bd_mk]
  obtain ⟨s2, e2, r2, w⟩ := jmp2M X n x b1.1
  rw [e2]
  refine ⟨_, _, rfl, r2, ?_⟩
  rcases w with ⟨w, -⟩ | ⟨w, -⟩
  · rw [w]; exact b1.2
  · rw [w]; exact stM_hit _ _ _ _
