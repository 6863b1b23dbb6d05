/-! ===== a tick begins: the sentence ===== -/
theorem rs_lp {S B : Nat} {σ τ : Mem} (t : TI S B σ τ) : ∀ (d k m1 m2 : Nat), k + d = 8 → d < m1 → d < m2 → ∃ r, okZ r ∧ itr2 b_X7_runsSentence_2 m1 33 (nI k) σ = some (r, σ) ∧ itr1 b_X11_isAtSentence_2 m2 (nI k) τ = some (r, τ) := by
  intro d
  induction d with
  | zero =>
    intro k m1 m2 hk hm1 hm2
    have e : k = 8 := by omega
    subst e
    obtain ⟨m1, rfl⟩ : ∃ m', m1 = m' + 1 := ⟨m1 - 1, by omega⟩
    obtain ⟨m2, rfl⟩ : ∃ m', m2 = m' + 1 := ⟨m2 - 1, by omega⟩
    refine ⟨0, okZ0, ?_, ?_⟩
    · show b_X7_runsSentence_2 m1 (itr2 b_X7_runsSentence_2 m1) _ _ σ = _
      generalize itr2 b_X7_runsSentence_2 m1 = w
      unfold b_X7_runsSentence_2
      rw [if_pos (show (8 : Int32) ≤ nI 8 by decide), ckz0]
    · show b_X11_isAtSentence_2 m2 (itr1 b_X11_isAtSentence_2 m2) _ τ = _
      generalize itr1 b_X11_isAtSentence_2 m2 = w
      unfold b_X11_isAtSentence_2
      rw [if_pos (show (8 : Int32) ≤ nI 8 by decide), ckz0]
  | succ d ih =>
    intro k m1 m2 hk hm1 hm2
    have hk8 : k < 8 := by omega
    obtain ⟨m1, rfl⟩ : ∃ m', m1 = m' + 1 := ⟨m1 - 1, by omega⟩
    obtain ⟨m2, rfl⟩ : ∃ m', m2 = m' + 1 := ⟨m2 - 1, by omega⟩
    obtain ⟨r, hr, i1, i2⟩ := ih (k + 1) m1 m2 (by omega) (by omega) (by omega)
    show ∃ r, okZ r ∧ b_X7_runsSentence_2 m1 (itr2 b_X7_runsSentence_2 m1) _ _ σ = _ ∧ b_X11_isAtSentence_2 m2 (itr1 b_X11_isAtSentence_2 m2) _ τ = _
    generalize itr2 b_X7_runsSentence_2 m1 = w1 at i1 ⊢
    generalize itr1 b_X11_isAtSentence_2 m2 = w2 at i2 ⊢
    unfold b_X7_runsSentence_2 b_X11_isAtSentence_2 b_X11_isAtSentence_29
    have e0 := t.s (i := k) (j := 0) hk8 (by decide)
    have e5 := t.s (i := k) (j := 5) hk8 (by decide)
    rw [Nat.add_zero] at e0
    rw [if_neg (show ¬ (8 : Int32) ≤ nI k from nI_ge (a := k) (b := 8) hk8 (by omega)), if_neg (show ¬ (8 : Int32) ≤ nI k from nI_ge (a := k) (b := 8) hk8 (by omega)), ck_t (inb_nI hk8 (by decide)), nI_clamp (by omega), lt_eq, show 33 + 7 + 2 + 2 * k = 42 + 2 * k by omega, lt_eq, show nI k + Int32.ofInt 1 = nI (k + 1) from nI_1 k, of0 m2 hk8, bd_mk, e0, lt_eq, of_c m2 (x := 5) (j := 5) rfl hk8 (by decide), bd_mk, e5, ckz1, ckz1]
    obtain ⟨f1, f2, f3, -⟩ := t.slI hk8
    by_cases z0 : σ (42 + 2 * k) 0 = 0
    · rw [if_pos (f3 z0).2.2.2.2.1, if_pos z0]
      exact ⟨r, hr, i1, i2⟩
    · rw [if_neg z0]
      rcases f2 with z5 | z5
      · rw [if_pos z5, if_neg (by rw [z5]; decide)]
        exact ⟨r, hr, i1, i2⟩
      · rw [if_neg (by rw [z5]; decide), if_pos z5]
        exact ⟨1, okZ1, rfl, rfl⟩
/-- the model's two loops -/
def tkM (τ : Mem) : Mem := rwM τ 15 (fun z => if 7 ≤ z ∧ z < 10 then τ 15 (z + 143) else if 150 ≤ z ∧ z < 165 then τ 15 (z + 3) else τ 15 z)
theorem tk2_lp (l1 l2 : Int32) : ∀ (d k m : Nat) (s : Mem), k + d = 15 → d < m → ∃ m', m ≤ m' + d + 1 ∧ itr3 b_X11_takesSentence_52 m l1 l2 (nI k) s = b_X11_takesSentence_52 m' (fun _ _ _ _ => none) l1 l2 (nI 15) (rwM s 15 (fun z => if 150 + k ≤ z ∧ z < 165 then s 15 (z + 3) else s 15 z)) := by
  intro d
  induction d with
  | zero =>
    intro k m s hk hm
    have e : k = 15 := by omega
    subst e
    obtain ⟨m, rfl⟩ : ∃ m', m = m' + 1 := ⟨m - 1, by omega⟩
    refine ⟨m, by omega, ?_⟩
    have e : (rwM s 15 (fun z => if 150 + 15 ≤ z ∧ z < 165 then s 15 (z + 3) else s 15 z)) = s := by
      funext a b
      unfold rwM
      by_cases ha : a = 15
      · subst ha; rw [if_pos rfl, if_neg (by omega)]
      · rw [if_neg ha]
    rw [e]
    show b_X11_takesSentence_52 m (itr3 b_X11_takesSentence_52 m) _ _ _ s = _
    generalize itr3 b_X11_takesSentence_52 m = w
    unfold b_X11_takesSentence_52
    rw [if_pos (show (15 : Int32) ≤ nI 15 by decide), if_pos (show (15 : Int32) ≤ nI 15 by decide)]
  | succ d ih =>
    intro k m s hk hm
    have hk8 : k < 15 := by omega
    obtain ⟨m, rfl⟩ : ∃ m', m = m' + 1 := ⟨m - 1, by omega⟩
    obtain ⟨m', hm', e1⟩ := ih (k + 1) m (stM s 15 (150 + k) (s 15 (153 + k))) (by omega) (by omega)
    refine ⟨m', by omega, ?_⟩
    have E : (rwM (stM s 15 (150 + k) (s 15 (153 + k))) 15 (fun z => if 150 + (k + 1) ≤ z ∧ z < 165 then (stM s 15 (150 + k) (s 15 (153 + k))) 15 (z + 3) else (stM s 15 (150 + k) (s 15 (153 + k))) 15 z)) = rwM s 15 (fun z => if 150 + k ≤ z ∧ z < 165 then s 15 (z + 3) else s 15 z) := by
      funext a b
      unfold rwM
      by_cases ha : a = 15
      · subst ha
        rw [if_pos rfl, if_pos rfl]
        by_cases h1 : 150 + (k + 1) ≤ b ∧ b < 165
        · rw [if_pos h1, if_pos (by omega), stM_far (Or.inr (by omega))]
        · rw [if_neg h1]
          by_cases h2 : b = 150 + k
          · subst h2
            rw [stM_hit, if_pos (by omega)]
            congr 1
            omega
          · rw [stM_far (Or.inr h2), if_neg (by omega)]
      · rw [if_neg ha, if_neg ha, stM_ne ha]
    rw [E] at e1
    rw [← e1]
    show b_X11_takesSentence_52 m (itr3 b_X11_takesSentence_52 m) _ _ _ s = _
    generalize itr3 b_X11_takesSentence_52 m = w
    unfold b_X11_takesSentence_52
    rw [if_neg (show ¬ (15 : Int32) ≤ nI k from nI_ge (a := k) (b := 15) hk8 (by omega)), show (153 : Int32) + nI k = nI (153 + k) from nI_add 153 k, show (150 : Int32) + nI k = nI (150 + k) from nI_add 150 k, ck_t (inb_nI (by omega) (by decide)), ck_t (inb_nI (by omega) (by decide)), nI_clamp (by omega), nI_clamp (by omega), lt_eq, lt_eq, show nI k + Int32.ofInt 1 = nI (k + 1) from nI_1 k]
theorem tk1_lp (l1 l2 : Int32) : ∀ (d k m : Nat) (s : Mem), k + d = 3 → d < m → ∃ m', m ≤ m' + d + 1 ∧ itr3 b_X11_takesSentence_20 m l1 l2 (nI k) s = itr3 b_X11_takesSentence_52 m' l1 l2 (nI 0) (rwM s 15 (fun z => if 7 + k ≤ z ∧ z < 10 then s 15 (z + 143) else s 15 z)) := by
  intro d
  induction d with
  | zero =>
    intro k m s hk hm
    have e : k = 3 := by omega
    subst e
    obtain ⟨m, rfl⟩ : ∃ m', m = m' + 1 := ⟨m - 1, by omega⟩
    refine ⟨m, by omega, ?_⟩
    have e : (rwM s 15 (fun z => if 7 + 3 ≤ z ∧ z < 10 then s 15 (z + 143) else s 15 z)) = s := by
      funext a b
      unfold rwM
      by_cases ha : a = 15
      · subst ha; rw [if_pos rfl, if_neg (by omega)]
      · rw [if_neg ha]
    rw [e]
    show b_X11_takesSentence_20 m (itr3 b_X11_takesSentence_20 m) _ _ _ s = _
    generalize itr3 b_X11_takesSentence_20 m = w
    unfold b_X11_takesSentence_20
    rw [if_pos (show (3 : Int32) ≤ nI 3 by decide)]
    rfl
  | succ d ih =>
    intro k m s hk hm
    have hk8 : k < 3 := by omega
    obtain ⟨m, rfl⟩ : ∃ m', m = m' + 1 := ⟨m - 1, by omega⟩
    obtain ⟨m', hm', e1⟩ := ih (k + 1) m (stM s 15 (7 + k) (s 15 (150 + k))) (by omega) (by omega)
    refine ⟨m', by omega, ?_⟩
    have E : (rwM (stM s 15 (7 + k) (s 15 (150 + k))) 15 (fun z => if 7 + (k + 1) ≤ z ∧ z < 10 then (stM s 15 (7 + k) (s 15 (150 + k))) 15 (z + 143) else (stM s 15 (7 + k) (s 15 (150 + k))) 15 z)) = rwM s 15 (fun z => if 7 + k ≤ z ∧ z < 10 then s 15 (z + 143) else s 15 z) := by
      funext a b
      unfold rwM
      by_cases ha : a = 15
      · subst ha
        rw [if_pos rfl, if_pos rfl]
        by_cases h1 : 7 + (k + 1) ≤ b ∧ b < 10
        · rw [if_pos h1, if_pos (by omega), stM_far (Or.inr (by omega))]
        · rw [if_neg h1]
          by_cases h2 : b = 7 + k
          · subst h2
            rw [stM_hit, if_pos (by omega)]
            congr 1
            omega
          · rw [stM_far (Or.inr h2), if_neg (by omega)]
      · rw [if_neg ha, if_neg ha, stM_ne ha]
    rw [E] at e1
    rw [← e1]
    show b_X11_takesSentence_20 m (itr3 b_X11_takesSentence_20 m) _ _ _ s = _
    generalize itr3 b_X11_takesSentence_20 m = w
    unfold b_X11_takesSentence_20
    rw [if_neg (show ¬ (3 : Int32) ≤ nI k from nI_ge (a := k) (b := 3) hk8 (by omega)), show (7 : Int32) + nI k = nI (7 + k) from nI_add 7 k, show (150 : Int32) + nI k = nI (150 + k) from nI_add 150 k, ck_t (inb_nI (by omega) (by decide)), ck_t (inb_nI (by omega) (by decide)), nI_clamp (by omega), nI_clamp (by omega), lt_eq, lt_eq, show nI k + Int32.ofInt 1 = nI (k + 1) from nI_1 k]
theorem take_M (n : Nat) (hn : 1000 ≤ n) (τ : Mem) : ∃ m, n ≤ m + 20 ∧ f_X11_takesSentence n τ = b_X11_takesSentence_52 m (fun _ _ _ _ => none) (τ 15 150) (τ 15 151) (nI 15) (tkM τ) := by
  unfold f_X11_takesSentence
  rw [ck_t (by decide), ck_t (by decide), show (150 : Int32).toNatClampNeg = 150 from rfl, show (151 : Int32).toNatClampNeg = 151 from rfl, show (0 : Int32) = nI 0 from rfl]
  obtain ⟨m1, h1, e1⟩ := tk1_lp (τ 15 150) (τ 15 151) 3 0 n τ (by omega) (by omega)
  obtain ⟨m2, h2, e2⟩ := tk2_lp (τ 15 150) (τ 15 151) 15 0 m1 (rwM τ 15 (fun z => if 7 + 0 ≤ z ∧ z < 10 then τ 15 (z + 143) else τ 15 z)) (by omega) (by omega)
  refine ⟨m2, by omega, ?_⟩
  rw [e1, e2]
  congr 1
  funext a b
  unfold tkM rwM
  by_cases ha : a = 15
  · subst ha
    rw [if_pos rfl, if_pos rfl, if_pos rfl]
    by_cases h1 : 7 ≤ b ∧ b < 10
    · rw [if_pos h1, if_neg (by omega), if_pos (by omega)]
    · rw [if_neg h1]
      by_cases h2 : 150 ≤ b ∧ b < 165
      · rw [if_pos h2, if_neg (by omega), if_pos h2, if_neg h1]
      · rw [if_neg h2, if_neg (by omega), if_neg (by omega)]
  · rw [if_neg ha, if_neg ha, if_neg ha]
/-- the class's -/
def tkC (σ : Mem) (k : Nat) : Mem := rwM (stM (rwM σ 34 (va_cpy (σ 36) (σ 34) 0 1 3)) 33 5 (nI k)) 36 (va_cpy (σ 36) (σ 36) 3 0 (3 * k))
theorem take_C (n : Nat) {k : Nat} (hk : k < 6) (σ : Mem) (h5 : σ 33 5 = nI (k + 1)) : f_X7_takeSentence n 33 σ = some (tkC σ k) := by
  unfold f_X7_takeSentence tkC
  have e5 : (rwM σ 34 (va_cpy (σ 36) (σ 34) 0 1 3)) 33 5 = nI (k + 1) := by rw [rwM_ne (by decide)]; exact h5
  have e3 : nI k * (3 : Int32) = nI (3 * k) := by
    show nI k * nI 3 = _
    rw [pk_mul, Nat.mul_comm]
  have e6 : (rwM σ 34 (va_cpy (σ 36) (σ 34) 0 1 3)) 33 5 - 1 = nI k := by rw [e5, nI_pred]
  have g : ((stM (rwM σ 34 (va_cpy (σ 36) (σ 34) 0 1 3)) 33 5 (nI k)) 33 5 * (3 : Int32)) = nI (3 * k) := by rw [stM_hit, e3]
  have g36 : (stM (rwM σ 34 (va_cpy (σ 36) (σ 34) 0 1 3)) 33 5 (nI k)) 36 = σ 36 := by rw [stM_ne (by decide), rwM_ne (by decide)]
  rw [h5, if_pos (show (0 : Int32) < nI (k + 1) from nI_lt (a := 0) (by omega) (by omega)), ck_t (by decide)]
  show (ck (cpOK 3 0 ((stM (rwM σ 34 (va_cpy (σ 36) (σ 34) 0 1 3)) 33 5 ((rwM σ 34 (va_cpy (σ 36) (σ 34) 0 1 3)) 33 5 - 1)) 33 5 * (3 : Int32)) 18 18) (some (rwM (stM (rwM σ 34 (va_cpy (σ 36) (σ 34) 0 1 3)) 33 5 ((rwM σ 34 (va_cpy (σ 36) (σ 34) 0 1 3)) 33 5 - 1)) 36 (va_cpy ((stM (rwM σ 34 (va_cpy (σ 36) (σ 34) 0 1 3)) 33 5 ((rwM σ 34 (va_cpy (σ 36) (σ 34) 0 1 3)) 33 5 - 1)) 36) ((stM (rwM σ 34 (va_cpy (σ 36) (σ 34) 0 1 3)) 33 5 ((rwM σ 34 (va_cpy (σ 36) (σ 34) 0 1 3)) 33 5 - 1)) 36) 3 0 ((stM (rwM σ 34 (va_cpy (σ 36) (σ 34) 0 1 3)) 33 5 ((rwM σ 34 (va_cpy (σ 36) (σ 34) 0 1 3)) 33 5 - 1)) 33 5 * (3 : Int32)).toNatClampNeg)))) = _
  rw [e6, g, g36, ck_t ⟨by decide, by decide, nI_pos (by omega), by rw [cl3, nI_clamp (by omega)]; omega, by rw [cl0, nI_clamp (by omega)]; omega⟩, nI_clamp (by omega)]
theorem tk_ti {S B k : Nat} {σ τ : Mem} (h : TI S B σ τ) (hk : k < 6) (h5 : σ 33 5 = nI (k + 1)) : FrC σ (tkC σ k) ∧ FrM τ (stM (tkM τ) 15 5 (nI k)) ∧ TI S B (tkC σ k) (stM (tkM τ) 15 5 (nI k)) := by
  obtain ⟨t1, t2, t3, t4, t5⟩ := id h
  have C : ∀ z, z ≠ 33 → z ≠ 34 → z ≠ 36 → tkC σ k z = σ z := fun z a b c => by
    unfold tkC
    rw [rwM_ne c, stM_ne a, rwM_ne b]
  have C33 : ∀ j, j ≠ 5 → tkC σ k 33 j = σ 33 j := fun j hj => by
    unfold tkC
    rw [rwM_ne (by decide), stM_far (Or.inr hj), rwM_ne (by decide)]
  have C335 : tkC σ k 33 5 = nI k := by
    unfold tkC
    rw [rwM_ne (by decide), stM_hit]
  have C34 : ∀ j, tkC σ k 34 j = if 1 ≤ j ∧ j < 4 then σ 36 (j - 1) else σ 34 j := fun j => by
    unfold tkC
    rw [rwM_ne (by decide), stM_ne (by decide), rwM_row]
    by_cases e : 1 ≤ j ∧ j < 4
    · rw [if_pos e, pk_cpy_in e.1 (by omega), Nat.zero_add]
    · rw [if_neg e, pk_cpy_out (by omega)]
  have C36 : ∀ j, j < 3 * k → tkC σ k 36 j = σ 36 (3 + j) := fun j hj => by
    unfold tkC
    rw [rwM_row, pk_cpy_in (by omega) (by omega)]
    congr 1
  have M : ∀ z, z ≠ 5 → ¬ (7 ≤ z ∧ z < 10) → ¬ (150 ≤ z ∧ z < 165) → (stM (tkM τ) 15 5 (nI k)) 15 z = τ 15 z := fun z a b c => by
    unfold tkM
    rw [stM_far (Or.inr a), rwM_row, if_neg b, if_neg c]
  have M5 : (stM (tkM τ) 15 5 (nI k)) 15 5 = nI k := stM_hit _ _ _ _
  have M7 : ∀ z, 7 ≤ z ∧ z < 10 → (stM (tkM τ) 15 5 (nI k)) 15 z = τ 15 (z + 143) := fun z b => by
    unfold tkM
    rw [stM_far (Or.inr (by omega)), rwM_row, if_pos b]
  have M15 : ∀ z, 150 ≤ z ∧ z < 165 → (stM (tkM τ) 15 5 (nI k)) 15 z = τ 15 (z + 3) := fun z b => by
    unfold tkM
    rw [stM_far (Or.inr (by omega)), rwM_row, if_neg (by omega), if_pos b]
  have f : FrC σ (tkC σ k) := fun z hz => C z (by omega) (by omega) (by omega)
  have g : FrM τ (stM (tkM τ) 15 5 (nI k)) := ⟨fun z _ b _ _ => by rw [stM_ne b]; exact rwM_ne b, fun j _ => by rw [stM_ne (by decide)]; unfold tkM; rw [rwM_ne (by decide)]⟩
  have w5 : (σ 33 5).toInt = (k : Int) + 1 := by rw [h5, nI_toInt (by omega)]; omega
  refine ⟨f, g, h.go f g ?_ ?_ ?_⟩
  · obtain ⟨a1, a2, a3, a4, a5, a6, a7, a8, a9, a10, a11⟩ := t3
    refine ⟨?_, ?_, ?_, ?_, ?_, ?_, ?_, ?_, ?_, ?_, ?_⟩
    · intro j hj
      by_cases e : j = 5
      · subst e; rw [M5, C335]
      · rw [M j e (by omega) (by omega), C33 j e]; exact a1 j hj
    · intro j hj
      show _ = tkC σ k 34 j
      rw [C34]
      by_cases e : 1 ≤ j ∧ j < 4
      · rw [if_pos e, M7 _ (by omega)]
        have := a5 (j - 1) (by omega)
        rw [show 6 + j + 143 = 150 + (j - 1) by omega, this]
      · rw [if_neg e, M _ (by omega) (by omega) (by omega)]; exact a2 j hj
    · intro i hi j hj
      rw [M _ (by omega) (by omega) (by omega), C _ (by omega) (by omega) (by omega)]; exact a3 i hi j hj
    · intro i hi j hj
      rw [M _ (by omega) (by omega) (by omega), C _ (by omega) (by omega) (by omega)]; exact a4 i hi j hj
    · intro j hj
      rw [C335, nI_toInt (by omega)] at hj
      show _ = tkC σ k 36 j
      rw [M15 _ (by omega), C36 j (by omega)]
      have := a5 (3 + j) (by omega)
      rw [show 150 + j + 3 = 150 + (3 + j) by omega, this]
    · intro j hj hj2
      rw [C33 2 (by decide)] at hj2
      rw [M _ (by omega) (by omega) (by omega), C _ (by omega) (by omega) (by omega)]; exact a6 j hj hj2
    · intro a ha j hj
      rw [M _ (by omega) (by omega) (by omega), C _ (by omega) (by omega) (by omega)]; exact a7 a ha j hj
    · intro a ha
      rw [M _ (by omega) (by omega) (by omega), M _ (by omega) (by omega) (by omega), C _ (by omega) (by omega) (by omega)]; exact a8 a ha
    · intro o ho
      rw [M _ (by omega) (by omega) (by omega), C _ (by omega) (by omega) (by omega)]; exact a9 o ho
    · intro o ho
      rw [M _ (by omega) (by omega) (by omega), C _ (by omega) (by omega) (by omega)]; exact a10 o ho
    · intro r hr i hi
      rw [M _ (by omega) (by omega) (by omega), C _ (by omega) (by omega) (by omega)]; exact a11 r hr i hi
  · obtain ⟨a1, a2, a3, a4, a5, a6, a7⟩ := t4
    refine ⟨by rw [C335, nI_toInt (by omega)]; omega, by rw [C335, nI_toInt (by omega)]; omega, by rw [C33 2 (by decide)]; exact a3, by rw [C33 2 (by decide)]; exact a4, ?_, ?_, ?_⟩
    · intro i hi
      have := a5 i hi
      unfold SlotI at this ⊢
      rw [C (33 + 9 + 2 * i) (by omega) (by omega) (by omega), C (33 + 9 + 2 * i + 1) (by omega) (by omega) (by omega), C 23 (by omega) (by omega) (by omega), C 29 (by omega) (by omega) (by omega)]
      exact this
    · intro a ha
      have := a6 a ha
      unfold ActI at this ⊢
      rw [C (33 + 25 + a) (by omega) (by omega) (by omega), C 29 (by omega) (by omega) (by omega)]
      exact this
    · rw [C (33 + 6) (by omega) (by omega) (by omega)]
      exact a7
  · rw [C33 2 (by decide)]; exact t5
theorem scripts2 {σ τ : Mem} {S : Nat} (h : PlayR σ τ S) (hT : TapeR σ 17 S (τ 2)) {n m : Nat} (hn : 7000 ≤ n) (hm : 7000 ≤ m) {q : Nat} (h0 : 0 < q) (hq : q < 61) (w : Int32) (ho : σ 26 q ≠ 0) : ∃ r, f_X3_scriptFor n 16 (nI q) w σ = some (r, σ) ∧ f_X11_scriptOf m (nI q) w τ = some (r, τ) := by
  rcases h.2.2.1 q hq with ⟨e1, -⟩ | ⟨p, v, h1, h2, e1, e2, e3, e4, e5, e6⟩
  · exact absurd e1 ho
  · have hS := hT.2.1
    refine ⟨verbS (τ 2) p v w, ?_, ?_⟩
    · have g : (nI q).toInt = (q : Int) := nI_toInt (by omega)
      unfold f_X3_scriptFor
      rw [hasO n, bd_mk, bz_t (by rw [g, nI_clamp (by omega)]; exact ⟨by omega, by omega, ho⟩), if_neg (by decide), ck_t (inb_nI hq (by decide)), ck_t (inb_nI hq (by decide)), lt_eq, nI_clamp (by omega)]
      show itr4 (b_X3_scriptFor_36) n 16 w (σ 27 q) (σ 26 q + (5 : Int32)) σ = _
      rw [e1, e2, show nI p + (5 : Int32) = nI (p + 5 + 2 * 0) from nI_add p 5, scriptFor_lp hS h2 n 0 σ (by omega) (by omega) hT]
      rfl
    · unfold f_X11_scriptOf
      show itr3 (b_X11_scriptOf_2) m (nI q) w (nI 0) τ = _
      rw [scriptOf_lp hq hS h2 m 0 τ (by omega) (by omega) e5 e6]
      rfl
theorem scripts_no {σ : Mem} (n : Nat) {x : Int32} (w : Int32) (h : ¬ isB σ x) : f_X3_scriptFor n 16 x w σ = some (0, σ) := by
  unfold f_X3_scriptFor
  rw [hasB_f n h, bd_mk, if_pos rfl]
theorem start_n (n m : Nat) (hn : 1000 ≤ n) (hm : 1000 ≤ m) (x : Int32) (s : Mem) : f_X11_started m x s = f_X11_started n x s := by
  rw [started_eq (by omega), started_eq (by omega)]
theorem sent_eq {n S B : Nat} {σ τ : Mem} (hn : 8000 ≤ n) (h : TI S B σ τ) (h5 : ¬ σ 33 5 ≤ 0) : ∃ σ' τ', f_X5_actOnSentence n σ = some σ' ∧ f_X11_takesSentence n τ = some τ' ∧ FrC σ σ' ∧ FrM τ τ' ∧ TI S B σ' τ' := by
  obtain ⟨K, hK, eK⟩ := h.2.2.2.1.w
  have K0 : 0 < K := by
    rcases Nat.eq_zero_or_pos K with e | e
    · exact absurd (by rw [eK, e]; decide) h5
    · exact e
  obtain ⟨k, rfl⟩ : ∃ k, K = k + 1 := ⟨K - 1, by omega⟩
  obtain ⟨f1, g1, t1⟩ := tk_ti h (show k < 6 by omega) eK
  obtain ⟨m, hm, em⟩ := take_M n (by omega) τ
  have v1 : tkC σ k 34 1 = τ 15 150 := by
    have := t1.2.2.1.2.1 1 (by decide)
    rw [show tkC σ k 34 1 = tkC σ k (33 + 1) 1 from rfl, ← this, stM_far (Or.inr (by decide))]
    unfold tkM
    rw [rwM_row, if_pos (by omega)]
  have v2 : tkC σ k 34 2 = τ 15 151 := by
    have := t1.2.2.1.2.1 2 (by decide)
    rw [show tkC σ k 34 2 = tkC σ k (33 + 1) 2 from rfl, ← this, stM_far (Or.inr (by decide))]
    unfold tkM
    rw [rwM_row, if_pos (by omega)]
  have m5 : tkM τ 15 5 - 1 = nI k := by
    unfold tkM
    rw [rwM_row, if_neg (by omega), if_neg (by omega), h.2.2.1.1 5 (by decide), eK, nI_pred]
  have EM : f_X11_takesSentence n τ = bd (f_X11_isObject m (τ 15 151) (stM (tkM τ) 15 5 (nI k))) (fun x3 s2 => if x3 = 0 then (some s2) else (bd (f_X11_scriptOf m (τ 15 151) (τ 15 150) s2) (fun x5 s4 => if x5 = 0 then (bd (f_X11_scriptOf m (τ 15 151) (255 : Int32) s4) (fun x7 s6 => b_X11_takesSentence_126  m x7 s6)) else (b_X11_takesSentence_126  m x5 s4)))) := by
    rw [em]
    unfold b_X11_takesSentence_52
    rw [if_pos (show (15 : Int32) ≤ nI 15 by decide), ck5_781, cl5, ck5_781, lt_eq, m5]
  have EC : f_X5_actOnSentence n σ = bd (f_X3_scriptFor n 16 (τ 15 151) (τ 15 150) (tkC σ k)) (fun x3 s2 => if x3 = 0 then (bd (f_X3_scriptFor n 16 (τ 15 151) (255 : Int32) s2) (fun x5 s4 => b_X5_actOnSentence_53  n x5 s4)) else (b_X5_actOnSentence_53  n x3 s2)) := by
    unfold f_X5_actOnSentence
    rw [take_C n (show k < 6 by omega) σ eK, bv_mk, ck_t (by decide), ck_t (by decide), cl1, cl2, v1, v2]
  have TAIL : ∀ x, ∃ σ' τ', b_X5_actOnSentence_53 n x (tkC σ k) = some σ' ∧ b_X11_takesSentence_126 m x (stM (tkM τ) 15 5 (nI k)) = some τ' ∧ FrC σ σ' ∧ FrM τ τ' ∧ TI S B σ' τ' := by
    intro x
    unfold b_X5_actOnSentence_53 b_X11_takesSentence_126 b_X11_takesSentence_147
    rw [start_n n m (by omega) (by omega)]
    rcases start_b (n := n) (by omega) t1 x 1 okZ1 with ⟨a1, a2⟩ | ⟨σ', τ', a1, a2, f, g, t, k1, k2⟩ | ⟨j, σ', τ', τ'', hj, h0, a1, a2, e9, f, g, t, k0, k1, k2⟩
    · rw [a1, a2, bd_mk, bd_mk, if_pos (by decide)]
      exact ⟨_, _, rfl, rfl, f1, g1, t1⟩
    · rw [a1, a2, bd_mk, bd_mk, if_pos (by decide)]
      exact ⟨_, _, rfl, rfl, f1.tr f, g1.tr g, t⟩
    · rw [a1, a2, bd_mk, bd_mk, if_neg (nI_pos (by omega)), to_c m (x := 5) (j := 5) rfl hj (by decide), bv_mk, ← e9]
      exact ⟨_, _, rfl, rfl, f1.tr f, g1.tr g, t⟩
  rw [EM, EC]
  by_cases q : isB (tkC σ k) (τ 15 151)
  · rw [isBM_t m t1.1 t1.2.1.2.1 rfl q, bd_mk, if_neg n10]
    obtain ⟨b, hb0, hb, eb, hb2⟩ := isB_n q
    rw [eb]
    obtain ⟨r1, y1, y2⟩ := scripts2 (n := n) (m := m) t1.1 t1.2.1 (by omega) (by omega) hb0 hb (τ 15 150) hb2
    obtain ⟨r2, y3, y4⟩ := scripts2 (n := n) (m := m) t1.1 t1.2.1 (by omega) (by omega) hb0 hb 255 hb2
    rw [y1, y2, bd_mk, bd_mk]
    by_cases z : r1 = 0
    · rw [if_pos z, if_pos z, y3, y4, bd_mk, bd_mk]
      exact TAIL r2
    · rw [if_neg z, if_neg z]
      exact TAIL r1
  · rw [isBM_f m t1.1 t1.2.1.2.1 rfl q, bd_mk, if_pos rfl, scripts_no n _ q, bd_mk, if_pos rfl, scripts_no n _ q, bd_mk]
    unfold b_X5_actOnSentence_53
    rw [startScript_eq (by omega) 0 1 okZ1, if_neg (fun w => absurd w.1 (by decide)), bd_mk]
    exact ⟨_, _, rfl, rfl, f1, g1, t1⟩
