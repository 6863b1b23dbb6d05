/-! ===== the pure side: first words ===== -/
theorem lt_eq {α β : Type} (v : α) (k : α → β) : lt v k = k v := rfl
theorem ck_t {ω : Type} {c : Prop} [Decidable c] {k : Option ω} (h : c) : ck c k = k := if_pos h
theorem bd_mk {ω : Type} (a : Int32) (b : Mem) (k : Int32 → Mem → Option ω) : bd (some (a, b)) k = k a b := rfl
theorem bv_mk {ω : Type} (b : Mem) (k : Mem → Option ω) : bv (some b) k = k b := rfl
theorem stM_hit (s : Mem) (k j : Nat) (v : Int32) : stM s k j v k j = v := by simp [stM]
theorem stM_far {s : Mem} {k j a b : Nat} {v : Int32} (h : a ≠ k ∨ b ≠ j) : stM s k j v a b = s a b := by
  unfold stM
  by_cases e : a = k
  · rw [if_pos e, if_neg (h.resolve_left (fun n => n e))]
  · rw [if_neg e]
theorem inb_nI {i n : Nat} (h : i < n) (hn : n < 2 ^ 31) : inb (nI i) n := by
  unfold inb
  rw [nI_toInt (by omega)]
  omega
theorem okZ0 : okZ (0 : Int32) := Or.inl rfl
theorem okZ1 : okZ (1 : Int32) := Or.inr rfl
theorem nI_oT {x : Int32} {k : Nat} (h : x.toInt = (k : Int)) : x = nI k := by
  apply Int32.toInt_inj.mp
  have h2 : (k : Int) < 2 ^ 31 := by have := Int32.toInt_lt x; omega
  rw [h, nI_toInt (by omega)]
theorem nI_lit0 : (0 : Int32) = nI 0 := rfl
/-- in: between two bounds -/
theorem in_eq (n : Nat) (x : Int32) (lo hi : Int64) (s : Mem) : f_X11_in n x.toInt64 lo hi s = some (if lo.toInt ≤ x.toInt ∧ x.toInt ≤ hi.toInt then 1 else 0, s) := by
  have hx : x.toInt64.toInt = x.toInt := Int32.toInt_toInt64 x
  unfold f_X11_in b_X11_in_17 b_X11_in_18
  have h1 : lg_cmp x.toInt64 lo < 0 ↔ x.toInt < lo.toInt := by
    unfold lg_cmp
    simp only [gt_iff_lt, Int64.lt_iff_toInt_lt, ← Int64.toInt_inj, hx]
    by_cases a : lo.toInt < x.toInt
    · rw [if_pos a]
      constructor
      · intro h; exact absurd h (by decide)
      · intro h; omega
    · rw [if_neg a]
      by_cases b : x.toInt = lo.toInt
      · rw [if_pos b]
        constructor
        · intro h; exact absurd h (by decide)
        · intro h; omega
      · rw [if_neg b]
        constructor
        · intro _; omega
        · intro _; decide
  have h2 : 0 < lg_cmp x.toInt64 hi ↔ hi.toInt < x.toInt := by
    unfold lg_cmp
    simp only [gt_iff_lt, Int64.lt_iff_toInt_lt, ← Int64.toInt_inj, hx]
    by_cases a : hi.toInt < x.toInt
    · rw [if_pos a]
      constructor
      · intro _; exact a
      · intro _; decide
    · rw [if_neg a]
      by_cases b : x.toInt = hi.toInt
      · rw [if_pos b]
        constructor
        · intro h; exact absurd h (by decide)
        · intro h; omega
      · rw [if_neg b]
        constructor
        · intro h; exact absurd h (by decide)
        · intro h; omega
  by_cases a : x.toInt < lo.toInt
  · rw [if_pos (h1.mpr a), ck_t okZ0, if_neg (by omega)]
  · rw [if_neg (fun h => a (h1.mp h))]
    by_cases b : hi.toInt < x.toInt
    · rw [if_pos (h2.mpr b), ck_t okZ0, if_neg (by omega)]
    · rw [if_neg (fun h => b (h2.mp h)), ck_t okZ1, if_pos (by omega)]
theorem in_t (n : Nat) (x : Int32) (lo hi : Int64) (s : Mem) (h : lo.toInt ≤ x.toInt ∧ x.toInt ≤ hi.toInt) : f_X11_in n x.toInt64 lo hi s = some (1, s) := by rw [in_eq, if_pos h]
theorem in_f (n : Nat) (x : Int32) (lo hi : Int64) (s : Mem) (h : ¬ (lo.toInt ≤ x.toInt ∧ x.toInt ≤ hi.toInt)) : f_X11_in n x.toInt64 lo hi s = some (0, s) := by rw [in_eq, if_neg h]
/-! the model's row of all that runs: places of slots and actors -/
theorem ixS (i j : Nat) : ((70 : Int32) + ((10 : Int32) * nI i)) + nI j = nI (70 + 10 * i + j) := by
  show nI 70 + nI 10 * nI i + nI j = _
  rw [pk_mul, nI_add, nI_add]
theorem of_eq (n : Nat) {i j : Nat} (hi : i < 8) (hj : j < 10) (s : Mem) : f_X11_of n (nI i) (nI j) s = some (s 15 (70 + 10 * i + j), s) := by
  unfold f_X11_of
  rw [ixS, ck_t (inb_nI (by omega) (by decide)), nI_clamp (by omega)]
theorem to_eq (n : Nat) {i j : Nat} (hi : i < 8) (hj : j < 10) (v : Int32) (s : Mem) : f_X11_to n (nI i) (nI j) v s = some (stM s 15 (70 + 10 * i + j) v) := by
  unfold f_X11_to
  rw [ixS, ck_t (inb_nI (by omega) (by decide)), nI_clamp (by omega)]
  rfl
/-- all of a slot 0 -/
def freeM (s : Mem) (i : Nat) : Mem := rwM s 15 (fun z => if 70 + 10 * i ≤ z ∧ z < 80 + 10 * i then 0 else s 15 z)
theorem frees_lp (i : Nat) (hi : i < 8) : ∀ (m k : Nat) (s : Mem), k ≤ 10 → 10 < k + m → itr2 (b_X11_frees_2) m (nI i) (nI k) s = some (rwM s 15 (fun z => if 70 + 10 * i + k ≤ z ∧ z < 80 + 10 * i then 0 else s 15 z)) := by
  intro m
  induction m with
  | zero => intro k s h1 h2; omega
  | succ m ih =>
    intro k s h1 h2
    show b_X11_frees_2 m (itr2 (b_X11_frees_2) m) (nI i) (nI k) s = _
    generalize itr2 (b_X11_frees_2) m = g at ih ⊢
    unfold b_X11_frees_2
    rw [show (10 : Int32) = nI 10 from rfl]
    by_cases h : 10 ≤ k
    · rw [if_pos (nI_le h (by omega))]
      congr 1
      funext a b
      unfold rwM
      by_cases ha : a = 15
      · subst ha
        rw [if_pos rfl, if_neg (by omega)]
      · rw [if_neg ha]
    · rw [if_neg (nI_ge (a := k) (b := 10) (by omega) (by omega)), to_eq m hi (by omega), bv_mk, lt_eq, show Int32.ofInt 1 = 1 from rfl, nI_1, ih (k + 1) _ (by omega) (by omega)]
      congr 1
      funext a b
      unfold rwM
      by_cases ha : a = 15
      · subst ha
        rw [if_pos rfl, if_pos rfl]
        by_cases hb : b = 70 + 10 * i + k
        · subst hb
          rw [if_neg (by omega), if_pos (by omega), stM_hit]
        · rw [stM_far (Or.inr hb)]
          by_cases h3 : 70 + 10 * i + k ≤ b ∧ b < 80 + 10 * i
          · rw [if_pos (by omega), if_pos h3]
          · rw [if_neg (by omega), if_neg h3]
      · rw [if_neg ha, if_neg ha, stM_far (Or.inl ha)]
theorem frees_eq {n : Nat} (hn : 11 ≤ n) {i : Nat} (hi : i < 8) (s : Mem) : f_X11_frees n (nI i) s = some (freeM s i) := by
  unfold f_X11_frees freeM
  rw [nI_lit0, frees_lp i hi n 0 s (by omega) (by omega)]
  rfl
