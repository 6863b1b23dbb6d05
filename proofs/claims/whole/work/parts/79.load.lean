/-! ===== play: the model loads a block ===== -/
def TB (B : Nat → Nat) (T : Nat) (τ : Mem) : Prop := ∀ p, p < T → τ 2 p = nI (B p) ∧ B p < 256
theorem ix4 (k i : Nat) : nI k * (4 : Int32) + nI i = nI (4 * k + i) := by
  show nI k * nI 4 + nI i = _
  rw [pk_mul, nI_add, Nat.mul_comm]
theorem ixP (p a b : Nat) : nI p + nI a + (5 : Int32) * nI b = nI (p + a + 5 * b) := by
  show nI p + nI a + nI 5 * nI b = _
  rw [pk_mul, nI_add, nI_add]
theorem side_lp {B : Nat → Nat} {T p x b : Nat} (hT : T ≤ 6000) (hx : x < 21) (hb : b < 16) (hp : p + 6 + 5 * b < T) (k108 : Int32 → Int32 → Int32 → Mem → Option Mem) : ∀ (d i M : Nat) (s : Mem), i + d = 4 → d < M → TB B T s → ∃ s', itr4 (b_X11_load_123 k108) M (nI p) (nI x) (nI b) (nI i) s = k108 (nI p) (nI x) (nI (b + 1)) s' ∧ (∀ z, z ≠ 5 → z ≠ 15 → s' z = s z) ∧ (∀ j, j < 4 * (16 * x + b) + i ∨ 4 * (16 * x + b) + 4 ≤ j → s' 5 j = s 5 j) ∧ (∀ w, i ≤ w → w < 4 → s' 5 (4 * (16 * x + b) + w) = nI (B (p + 2 + 5 * b + w))) ∧ (∀ j, j ≠ 445 + 16 * x + b → s' 15 j = s 15 j) ∧ s' 15 (445 + 16 * x + b) = nI (B (p + 6 + 5 * b)) := by
  intro d
  induction d with
  | zero =>
    intro i M s hi hM ht
    have e : i = 4 := by omega
    subst e
    obtain ⟨M, rfl⟩ : ∃ m', M = m' + 1 := ⟨M - 1, by omega⟩
    refine ⟨stM s 15 (445 + 16 * x + b) (nI (B (p + 6 + 5 * b))), ?_, fun z h1 h2 => stM_ne h2, fun j _ => by rw [stM_ne (by decide)], fun w h1 h2 => by omega, fun j hj => stM_far (Or.inr hj), stM_hit _ _ _ _⟩
    show b_X11_load_123 k108 M (itr4 (b_X11_load_123 k108) M) _ _ _ _ s = _
    generalize itr4 (b_X11_load_123 k108) M = w
    unfold b_X11_load_123
    rw [if_pos (show (4 : Int32) ≤ nI 4 by decide), show nI p + (6 : Int32) + (5 : Int32) * nI b = nI (p + 6 + 5 * b) from ixP p 6 b, ix445, ck_t (inb_nI (by omega) (by decide)), ck_t (inb_nI (by omega) (by decide)), nI_clamp (by omega), nI_clamp (by omega), (ht _ hp).1, lt_eq, lt_eq, show nI b + Int32.ofInt 1 = nI (b + 1) from nI_1 b]
  | succ d ih =>
    intro i M s hi hM ht
    obtain ⟨M, rfl⟩ : ∃ m', M = m' + 1 := ⟨M - 1, by omega⟩
    obtain ⟨s', x1, x2, x3, x4, x5, x6⟩ := ih (i + 1) M (stM s 5 (4 * (16 * x + b) + i) (nI (B (p + 2 + 5 * b + i)))) (by omega) (by omega) (fun j hj => by rw [stM_ne (by decide)]; exact ht j hj)
    refine ⟨s', ?_, fun z h1 h2 => by rw [x2 z h1 h2, stM_ne h1], fun j hj => by rw [x3 j (by omega), stM_far (Or.inr (by omega))], fun w h1 h2 => ?_, fun j hj => by rw [x5 j hj, stM_ne (by decide)], x6⟩
    · rw [← x1]
      show b_X11_load_123 k108 M (itr4 (b_X11_load_123 k108) M) _ _ _ _ s = _
      generalize itr4 (b_X11_load_123 k108) M = w
      unfold b_X11_load_123
      rw [if_neg (show ¬ (4 : Int32) ≤ nI i from nI_ge (a := i) (b := 4) (by omega) (by omega)), show nI p + (2 : Int32) + (5 : Int32) * nI b = nI (p + 2 + 5 * b) from ixP p 2 b, nI_add, ixB, ix4, ck_t (inb_nI (by omega) (by decide)), ck_t (inb_nI (by omega) (by decide)), nI_clamp (by omega), nI_clamp (by omega), (ht _ (show p + 2 + 5 * b + i < T by omega)).1, lt_eq, lt_eq, show nI i + Int32.ofInt 1 = nI (i + 1) from nI_1 i]
    · by_cases e : w = i
      · subst e; rw [x3 _ (by omega), stM_hit]
      · exact x4 w (by omega) h2
theorem rm_lp {B : Nat → Nat} {T p x c : Nat} (hT : T ≤ 6000) (hx : x < 21) (hc : c ≤ 16) (hp : p + 2 + 5 * c ≤ T) : ∀ (d b M : Nat) (s : Mem), b + d = c → d + 10 < M → TB B T s → s 4 x = nI c → ∃ s', itr3 b_X11_load_108 M (nI p) (nI x) (nI b) s = some s' ∧ (∀ z, z ≠ 5 → z ≠ 15 → s' z = s z) ∧ (∀ j, j < 4 * (16 * x + b) ∨ 4 * (16 * x + 16) ≤ j → s' 5 j = s 5 j) ∧ (∀ b', b ≤ b' → b' < c → ∀ w, w < 4 → s' 5 (4 * (16 * x + b') + w) = nI (B (p + 2 + 5 * b' + w))) ∧ (∀ j, j < 445 + 16 * x + b ∨ 445 + 16 * x + c ≤ j → s' 15 j = s 15 j) ∧ ∀ b', b ≤ b' → b' < c → s' 15 (445 + 16 * x + b') = nI (B (p + 6 + 5 * b')) := by
  intro d
  induction d with
  | zero =>
    intro b M s hb hM ht h4
    have e : b = c := by omega
    subst e
    obtain ⟨M, rfl⟩ : ∃ m', M = m' + 1 := ⟨M - 1, by omega⟩
    refine ⟨s, ?_, fun _ _ _ => rfl, fun _ _ => rfl, fun b' h1 h2 => by omega, fun _ _ => rfl, fun b' h1 h2 => by omega⟩
    show b_X11_load_108 M (itr3 b_X11_load_108 M) _ _ _ s = _
    generalize itr3 b_X11_load_108 M = w
    unfold b_X11_load_108 b_X11_load_403
    rw [ck_t (inb_nI hx (by decide)), nI_clamp (by omega), h4, if_pos (nI_le (by omega) (by omega))]
  | succ d ih =>
    intro b M s hb hM ht h4
    obtain ⟨M, rfl⟩ : ∃ m', M = m' + 1 := ⟨M - 1, by omega⟩
    obtain ⟨s1, y1, y2, y3, y4, y5, y6⟩ := side_lp (B := B) hT hx (show b < 16 by omega) (show p + 6 + 5 * b < T by omega) (itr3 b_X11_load_108 M) 4 0 M s (by omega) (by omega) ht
    obtain ⟨s', x1, x2, x3, x4, x5, x6⟩ := ih (b + 1) M s1 (by omega) (by omega) (fun j hj => by rw [y2 2 (by decide) (by decide)]; exact ht j hj) (by rw [y2 4 (by decide) (by decide)]; exact h4)
    refine ⟨s', ?_, fun z h1 h2 => by rw [x2 z h1 h2, y2 z h1 h2], fun j hj => by rw [x3 j (by omega), y3 j (by omega)], fun b' h1 h2 w hw => ?_, fun j hj => by rw [x5 j (by omega), y5 j (by omega)], fun b' h1 h2 => ?_⟩
    · rw [← x1, ← y1]
      show b_X11_load_108 M (itr3 b_X11_load_108 M) _ _ _ s = _
      generalize itr3 b_X11_load_108 M = w
      unfold b_X11_load_108
      rw [ck_t (inb_nI hx (by decide)), nI_clamp (by omega), h4, if_neg (nI_ge (by omega) (by omega))]
      rfl
    · by_cases e : b' = b
      · subst e; rw [x3 _ (by omega)]; exact y4 w (by omega) hw
      · exact x4 b' (by omega) h2 w hw
    · by_cases e : b' = b
      · subst e; rw [x5 _ (by omega)]; exact y6
      · exact x6 b' (by omega) h2
theorem oj_lp {B : Nat → Nat} {T p x ln : Nat} (hT : T ≤ 6000) (hx : x < 61) (hl : 5 ≤ ln) (hl2 : ln < 66000) (hp : p + 5 ≤ T) : ∀ (d i M : Nat) (s : Mem), i + d = 3 → d < M → TB B T s → ∃ s', itr4 b_X11_load_263 M (nI p) (nI ln) (nI x) (nI i) s = some s' ∧ (∀ z, z ≠ 9 → z ≠ 10 → z ≠ 11 → z ≠ 15 → s' z = s z) ∧ (∀ j, j < 3 * x + i ∨ 3 * x + 3 ≤ j → s' 9 j = s 9 j) ∧ (∀ w, i ≤ w → w < 3 → s' 9 (3 * x + w) = nI (B (p + 1 + w))) ∧ (∀ j, j ≠ x → s' 10 j = s 10 j ∧ s' 11 j = s 11 j) ∧ s' 10 x = nI (p + 5) ∧ s' 11 x = nI ((ln - 5) / 2) ∧ (∀ j, j ≠ 323 + x → s' 15 j = s 15 j) ∧ s' 15 (323 + x) = nI (B (p + 4)) := by
  intro d
  induction d with
  | zero =>
    intro i M s hi hM ht
    have e : i = 3 := by omega
    subst e
    obtain ⟨M, rfl⟩ : ∃ m', M = m' + 1 := ⟨M - 1, by omega⟩
    refine ⟨stM (stM (stM s 15 (323 + x) (nI (B (p + 4)))) 10 x (nI (p + 5))) 11 x (nI ((ln - 5) / 2)), ?_, fun z h1 h2 h3 h4 => by rw [stM_ne h3, stM_ne h2, stM_ne h4], fun j _ => by rw [stM_ne (by decide), stM_ne (by decide), stM_ne (by decide)], fun w h1 h2 => by omega, fun j hj => ⟨by rw [stM_ne (by decide), stM_far (Or.inr hj), stM_ne (by decide)], by rw [stM_far (Or.inr hj), stM_ne (by decide), stM_ne (by decide)]⟩, by rw [stM_ne (by decide), stM_hit], stM_hit _ _ _ _, fun j hj => by rw [stM_ne (by decide), stM_ne (by decide), stM_far (Or.inr hj)], by rw [stM_ne (by decide), stM_ne (by decide), stM_hit]⟩
    show b_X11_load_263 M (itr4 b_X11_load_263 M) _ _ _ _ s = _
    generalize itr4 b_X11_load_263 M = w
    unfold b_X11_load_263 b_X11_load_403
    have e1 : nI ln - (5 : Int32) = nI (ln - 5) := pk_sub (b := 5) hl
    have e2 : nI (ln - 5) / (2 : Int32) = nI ((ln - 5) / 2) := pk_div (d := 2) (by omega) (by omega) (by omega)
    rw [if_pos (show (3 : Int32) ≤ nI 3 by decide), show nI p + (4 : Int32) = nI (p + 4) from nI_add p 4, show (323 : Int32) + nI x = nI (323 + x) from nI_add 323 x, show nI p + (5 : Int32) = nI (p + 5) from nI_add p 5, e1, e2, ck_t (inb_nI (by omega) (by decide)), ck_t (inb_nI (by omega) (by decide)), nI_clamp (by omega), nI_clamp (by omega), (ht _ (show p + 4 < T by omega)).1, lt_eq, ck_t (inb_nI hx (by decide)), nI_clamp (by omega), lt_eq, ck_t (show ¬ (2 : Int32) = 0 by decide), ck_t (inb_nI hx (by decide)), lt_eq]
  | succ d ih =>
    intro i M s hi hM ht
    obtain ⟨M, rfl⟩ : ∃ m', M = m' + 1 := ⟨M - 1, by omega⟩
    obtain ⟨s', x1, x2, x3, x4, x5, x6, x7, x8, x9⟩ := ih (i + 1) M (stM s 9 (3 * x + i) (nI (B (p + 1 + i)))) (by omega) (by omega) (fun j hj => by rw [stM_ne (by decide)]; exact ht j hj)
    refine ⟨s', ?_, fun z h1 h2 h3 h4 => by rw [x2 z h1 h2 h3 h4, stM_ne h1], fun j hj => by rw [x3 j (by omega), stM_far (Or.inr (by omega))], fun w h1 h2 => ?_, fun j hj => by rw [(x5 j hj).1, (x5 j hj).2, stM_ne (by decide), stM_ne (by decide)]; exact ⟨rfl, rfl⟩, x6, x7, fun j hj => by rw [x8 j hj, stM_ne (by decide)], x9⟩
    · rw [← x1]
      show b_X11_load_263 M (itr4 b_X11_load_263 M) _ _ _ _ s = _
      generalize itr4 b_X11_load_263 M = w
      unfold b_X11_load_263
      rw [if_neg (show ¬ (3 : Int32) ≤ nI i from nI_ge (a := i) (b := 3) (by omega) (by omega)), nI_1, nI_add, ix3, ck_t (inb_nI (by omega) (by decide)), ck_t (inb_nI (by omega) (by decide)), nI_clamp (by omega), nI_clamp (by omega), (ht _ (show p + 1 + i < T by omega)).1, lt_eq, lt_eq, show nI i + Int32.ofInt 1 = nI (i + 1) from nI_1 i]
    · by_cases e : w = i
      · subst e; rw [x3 _ (by omega), stM_hit]
      · exact x4 w (by omega) h2
theorem aj_lp {B : Nat → Nat} {T p x : Nat} (hT : T ≤ 6000) (hx : x < 13) (hp : p + 5 ≤ T) : ∀ (d i M : Nat) (s : Mem), i + d = 4 → d < M → TB B T s → ∃ s', itr3 b_X11_load_363 M (nI p) (nI x) (nI i) s = some s' ∧ (∀ z, z ≠ 15 → s' z = s z) ∧ (∀ j, j < 232 + 7 * x + i ∨ 232 + 7 * x + 4 ≤ j → s' 15 j = s 15 j) ∧ ∀ w, i ≤ w → w < 4 → s' 15 (232 + 7 * x + w) = nI (B (p + 1 + w)) := by
  intro d
  induction d with
  | zero =>
    intro i M s hi hM ht
    have e : i = 4 := by omega
    subst e
    obtain ⟨M, rfl⟩ : ∃ m', M = m' + 1 := ⟨M - 1, by omega⟩
    refine ⟨s, ?_, fun _ _ => rfl, fun _ _ => rfl, fun w h1 h2 => by omega⟩
    show b_X11_load_363 M (itr3 b_X11_load_363 M) _ _ _ s = _
    generalize itr3 b_X11_load_363 M = w
    unfold b_X11_load_363 b_X11_load_403
    rw [if_pos (show (4 : Int32) ≤ nI 4 by decide)]
  | succ d ih =>
    intro i M s hi hM ht
    obtain ⟨M, rfl⟩ : ∃ m', M = m' + 1 := ⟨M - 1, by omega⟩
    obtain ⟨s', x1, x2, x3, x4⟩ := ih (i + 1) M (stM s 15 (232 + 7 * x + i) (nI (B (p + 1 + i)))) (by omega) (by omega) (fun j hj => by rw [stM_ne (by decide)]; exact ht j hj)
    refine ⟨s', ?_, fun z h1 => by rw [x2 z h1, stM_ne h1], fun j hj => by rw [x3 j (by omega), stM_far (Or.inr (by omega))], fun w h1 h2 => ?_⟩
    · rw [← x1]
      show b_X11_load_363 M (itr3 b_X11_load_363 M) _ _ _ s = _
      generalize itr3 b_X11_load_363 M = w
      unfold b_X11_load_363
      rw [if_neg (show ¬ (4 : Int32) ≤ nI i from nI_ge (a := i) (b := 4) (by omega) (by omega)), nI_1, nI_add, ixA, ck_t (inb_nI (by omega) (by decide)), ck_t (inb_nI (by omega) (by decide)), nI_clamp (by omega), nI_clamp (by omega), (ht _ (show p + 1 + i < T by omega)).1, lt_eq, lt_eq, show nI i + Int32.ofInt 1 = nI (i + 1) from nI_1 i]
    · by_cases e : w = i
      · subst e; rw [x3 _ (by omega), stM_hit]
      · exact x4 w (by omega) h2
/-! what stands after k blocks -/
def LIr (B : Nat → Nat) (k : Nat) (τ : Mem) : Prop := ∀ r, r < 21 → (∀ p e, Blk B k 0 r p e → τ 4 r = nI (B (p + 1)) ∧ (∀ b, b < B (p + 1) → ∀ i, i < 4 → τ 5 (4 * (16 * r + b) + i) = nI (B (p + 2 + 5 * b + i))) ∧ ∀ b, b < 16 → τ 15 (445 + 16 * r + b) = if b < B (p + 1) then nI (B (p + 6 + 5 * b)) else 0) ∧ ((¬ ∃ p e, Blk B k 0 r p e) → τ 4 r = 0 ∧ ∀ b, b < 16 → τ 15 (445 + 16 * r + b) = 0)
def LIs (B : Nat → Nat) (k : Nat) (τ : Mem) : Prop := ∀ q, q < 61 → (∀ p e, Blk B k 1 q p e → τ 6 q = nI (p + 1) ∧ τ 7 q = nI (e - p - 1)) ∧ ((¬ ∃ p e, Blk B k 1 q p e) → τ 7 q = 0)
def LIo (B : Nat → Nat) (k : Nat) (τ : Mem) : Prop := ∀ q, q < 61 → (∀ p e, Blk B k 2 q p e → τ 8 q = 1 ∧ (∀ i, i < 3 → τ 9 (3 * q + i) = nI (B (p + 1 + i))) ∧ τ 15 (323 + q) = nI (B (p + 4)) ∧ τ 10 q = nI (p + 5) ∧ τ 11 q = nI ((e - p - 5) / 2)) ∧ ((¬ ∃ p e, Blk B k 2 q p e) → τ 8 q = 0 ∧ τ 15 (323 + q) = 0)
def LIa (B : Nat → Nat) (k : Nat) (τ : Mem) : Prop := ∀ a, a < 13 → (∀ p e, Blk B k 3 a p e → τ 12 a = 1 ∧ ∀ i, i < 4 → τ 15 (232 + 7 * a + i) = nI (B (p + 1 + i))) ∧ ((¬ ∃ p e, Blk B k 3 a p e) → τ 12 a = 0 ∧ ∀ i, i < 4 → τ 15 (232 + 7 * a + i) = 0)
theorem Blk_s {B : Nat → Nat} {k K y p e : Nat} : Blk B (k + 1) K y p e ↔ Blk B k K y p e ∨ (tgK (B (posB B k)) = K ∧ B (posB B k + 3) = y ∧ p = posB B k + 3 ∧ e = posB B (k + 1)) := by
  constructor
  · rintro ⟨j, hj, h⟩
    by_cases e : j = k
    · subst e; exact Or.inr h
    · exact Or.inl ⟨j, by omega, h⟩
  · rintro (⟨j, hj, h⟩ | h)
    · exact ⟨j, by omega, h⟩
    · exact ⟨k, by omega, h⟩
theorem Blk_o {B : Nat → Nat} {k K y p e : Nat} (h : ¬ (tgK (B (posB B k)) = K ∧ B (posB B k + 3) = y)) : Blk B (k + 1) K y p e ↔ Blk B k K y p e := by
  rw [Blk_s]
  exact ⟨fun w => w.elim id (fun w => absurd ⟨w.1, w.2.1⟩ h), Or.inl⟩
theorem Blk_up {B : Nat → Nat} {k m K y p e : Nat} (hk : k ≤ m) (h : Blk B k K y p e) : Blk B m K y p e := by
  obtain ⟨j, hj, h⟩ := h
  exact ⟨j, by omega, h⟩
/-- the number of block k is new -/
theorem fresh {B : Nat → Nat} {T m k : Nat} {σ : Mem} (h : GI B T m σ) (hk : k < m) : ¬ ∃ p e, Blk B k (tgK (B (posB B k))) (B (posB B k + 3)) p e := by
  rintro ⟨p, e, hb⟩
  have h1 := Blk_up (show k ≤ m by omega) hb
  have h2 : Blk B m (tgK (B (posB B k))) (B (posB B k + 3)) (posB B k + 3) (posB B (k + 1)) := ⟨k, hk, rfl, rfl, rfl, rfl⟩
  have := (h.uq (tgK_lt _) h1 h2).1
  obtain ⟨j, hj, -, -, e1, -⟩ := hb
  have m1 : posB B (j + 1) ≤ posB B k := posB_mono B (by omega)
  have m2 : posB B j + 3 ≤ posB B (j + 1) := by
    show _ ≤ posB B j + 3 + lnB B (posB B j)
    omega
  omega
theorem Blk_n {B : Nat → Nat} {T m k p e : Nat} {σ : Mem} (h : GI B T m σ) (hk : k < m) (hb : Blk B (k + 1) (tgK (B (posB B k))) (B (posB B k + 3)) p e) : p = posB B k + 3 ∧ e = posB B (k + 1) := by
  rcases Blk_s.mp hb with w | w
  · exact absurd ⟨p, e, w⟩ (fresh h hk)
  · exact w.2.2
