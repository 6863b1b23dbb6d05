/-! ===== leaves of both sides, in closed form ===== -/
def bz (p : Prop) [Decidable p] : Int32 := if p then 1 else 0
theorem bz_t {p : Prop} [Decidable p] (h : p) : bz p = 1 := if_pos h
theorem bz_f {p : Prop} [Decidable p] (h : ¬ p) : bz p = 0 := if_neg h
theorem bz_ok (p : Prop) [Decidable p] : okZ (bz p) := by
  unfold bz
  by_cases h : p
  · rw [if_pos h]; exact okZ1
  · rw [if_neg h]; exact okZ0
theorem bz_0 {p : Prop} [Decidable p] : bz p = 0 ↔ ¬ p := by
  unfold bz
  by_cases h : p
  · rw [if_pos h]; exact ⟨fun e => absurd e (by decide), fun e => absurd h e⟩
  · rw [if_neg h]; exact ⟨fun _ => h, fun _ => rfl⟩
theorem bz_c {p q : Prop} [Decidable p] [Decidable q] (h : p ↔ q) : bz p = bz q := by
  unfold bz
  by_cases a : p
  · rw [if_pos a, if_pos (h.mp a)]
  · rw [if_neg a, if_neg (fun b => a (h.mpr b))]
theorem le_T {x y : Int32} : x ≤ y ↔ x.toInt ≤ y.toInt := Int32.le_iff_toInt_le
theorem lt_T {x y : Int32} : x < y ↔ x.toInt < y.toInt := Int32.lt_iff_toInt_lt
theorem has_eq (n : Nat) {r : Nat} (hr : isO 2 r) (x : Int32) (s : Mem) : f_X2_has n r x s = some (bz (0 < x.toInt ∧ x.toInt < (lenC (r + 1) : Int) ∧ s (r + 1) x.toNatClampNeg ≠ 0), s) := by
  have hl : lenC (r + 1) ≤ 10000 := pn_2_1 r hr
  have hN : (Int32.ofNat (lenC (r + 1))).toInt = (lenC (r + 1) : Int) := nI_toInt (by omega)
  unfold f_X2_has b_X2_has_26 b_X2_has_27
  by_cases h1 : x ≤ 0
  · have g1 : x.toInt ≤ 0 := le_T.mp h1
    rw [if_pos h1, ck_t okZ0, bz_f (by omega)]
  · have g1 : ¬ x.toInt ≤ 0 := fun h => h1 (le_T.mpr h)
    rw [if_neg h1]
    by_cases h2 : Int32.ofNat (lenC (r + 1)) ≤ x
    · have g2 : (lenC (r + 1) : Int) ≤ x.toInt := by rw [← hN]; exact le_T.mp h2
      rw [if_pos h2, ck_t okZ0, bz_f (by omega)]
    · have g2 : ¬ (lenC (r + 1) : Int) ≤ x.toInt := fun h => h2 (le_T.mpr (by rw [hN]; exact h))
      rw [if_neg h2, ck_t (show inb x (lenC (r + 1)) from ⟨by omega, by omega⟩)]
      by_cases h3 : s (r + 1) x.toNatClampNeg = 0
      · rw [if_pos h3, ck_t okZ0, bz_f (fun h => h.2.2 h3)]
      · rw [if_neg h3, ck_t okZ1, bz_t ⟨by omega, by omega, h3⟩]
theorem runs_eq (n r : Nat) (s : Mem) : f_X6_runs n r s = some (bz (s r 0 ≠ 0), s) := by
  unfold f_X6_runs b_X6_runs_12
  by_cases h : s r 0 = 0
  · rw [if_pos h, ck_t okZ0, bz_f (fun e => e h)]
  · rw [if_neg h, ck_t okZ1, bz_t h]
theorem begin_eq (n r : Nat) (a b : Int32) (hb : okZ b) (s : Mem) : f_X6_begin n r a b s = some (stM (stM s r 0 a) r 5 b) := by
  unfold f_X6_begin
  rw [lt_eq, ck_t hb]
  rfl
theorem isByteC_eq (n : Nat) (x : Int32) (s : Mem) : f_X10_isByte n x s = some (bz (0 ≤ x.toInt ∧ x.toInt ≤ 255), s) := by
  unfold f_X10_isByte b_X10_isByte_15 b_X10_isByte_16
  by_cases h1 : x < 0
  · have g1 : x.toInt < 0 := lt_T.mp h1
    rw [if_pos h1, ck_t okZ0, bz_f (by omega)]
  · have g1 : ¬ x.toInt < 0 := fun h => h1 (lt_T.mpr h)
    rw [if_neg h1]
    by_cases h2 : (255 : Int32) < x
    · have g2 : 255 < x.toInt := lt_T.mp h2
      rw [if_pos h2, ck_t okZ0, bz_f (by omega)]
    · have g2 : ¬ 255 < x.toInt := fun h => h2 (lt_T.mpr h)
      rw [if_neg h2, ck_t okZ1, bz_t (by omega)]
theorem isByteM_eq (n : Nat) (x : Int32) (s : Mem) : f_X11_isByte n x s = some (bz (0 ≤ x.toInt ∧ x.toInt ≤ 255), s) := by
  unfold f_X11_isByte
  rw [in_eq, bd_mk]
  exact ck_t (bz_ok _)
theorem isActor_eq (n : Nat) (x : Int32) (s : Mem) : f_X11_isActor n x s = some (bz (0 < x.toInt ∧ x.toInt < 13 ∧ s 12 x.toNatClampNeg ≠ 0), s) := by
  unfold f_X11_isActor b_X11_isActor_25 b_X11_isActor_26
  by_cases h : 1 ≤ x.toInt ∧ x.toInt ≤ 12
  · rw [in_t n x 1 12 s h, bd_mk, if_neg (by decide), ck_t (show inb x 13 from ⟨by omega, by omega⟩)]
    by_cases h3 : s 12 x.toNatClampNeg = 0
    · rw [if_pos h3, ck_t okZ0, bz_f (fun h => h.2.2 h3)]
    · rw [if_neg h3, ck_t okZ1, bz_t ⟨by omega, by omega, h3⟩]
  · rw [in_f n x 1 12 s h, bd_mk, if_pos rfl, ck_t okZ0, bz_f (by omega)]
theorem isObject_eq (n : Nat) (x : Int32) (s : Mem) : f_X11_isObject n x s = some (bz (0 < x.toInt ∧ x.toInt < 61 ∧ s 8 x.toNatClampNeg ≠ 0), s) := by
  unfold f_X11_isObject b_X11_isObject_25 b_X11_isObject_26
  by_cases h : 1 ≤ x.toInt ∧ x.toInt ≤ 60
  · rw [in_t n x 1 60 s h, bd_mk, if_neg (by decide), ck_t (show inb x 61 from ⟨by omega, by omega⟩)]
    by_cases h3 : s 8 x.toNatClampNeg = 0
    · rw [if_pos h3, ck_t okZ0, bz_f (fun h => h.2.2 h3)]
    · rw [if_neg h3, ck_t okZ1, bz_t ⟨by omega, by omega, h3⟩]
  · rw [in_f n x 1 60 s h, bd_mk, if_pos rfl, ck_t okZ0, bz_f (by omega)]
theorem isScript_eq (n : Nat) (x : Int32) (s : Mem) : f_X11_isScript n x s = some (bz (0 < x.toInt ∧ x.toInt < 61 ∧ 0 < (s 7 x.toNatClampNeg).toInt), s) := by
  unfold f_X11_isScript b_X11_isScript_25 b_X11_isScript_26
  by_cases h : 1 ≤ x.toInt ∧ x.toInt ≤ 60
  · rw [in_t n x 1 60 s h, bd_mk, if_neg (by decide), ck_t (show inb x 61 from ⟨by omega, by omega⟩)]
    by_cases h3 : s 7 x.toNatClampNeg ≤ 0
    · have g3 : (s 7 x.toNatClampNeg).toInt ≤ 0 := le_T.mp h3
      rw [if_pos h3, ck_t okZ0, bz_f (by omega)]
    · have g3 : ¬ (s 7 x.toNatClampNeg).toInt ≤ 0 := fun h => h3 (le_T.mpr h)
      rw [if_neg h3, ck_t okZ1, bz_t (by omega)]
  · rw [in_f n x 1 60 s h, bd_mk, if_pos rfl, ck_t okZ0, bz_f (by omega)]
/-- the first of k, k + 1 .. (m of them) -/
def ffd (P : Nat → Prop) [DecidablePred P] : Nat → Nat → Option Nat
  | _, 0 => none
  | k, m + 1 => if P k then some k else ffd P (k + 1) m
theorem ffd_c {P Q : Nat → Prop} [DecidablePred P] [DecidablePred Q] : ∀ (m k : Nat), (∀ i, k ≤ i → i < k + m → (P i ↔ Q i)) → ffd P k m = ffd Q k m := by
  intro m
  induction m with
  | zero => intro k _; rfl
  | succ m ih =>
    intro k h
    unfold ffd
    have hk := h k (by omega) (by omega)
    by_cases a : P k
    · rw [if_pos a, if_pos (hk.mp a)]
    · rw [if_neg a, if_neg (fun b => a (hk.mpr b)), ih (k + 1) (fun i h1 h2 => h i (by omega) (by omega))]
theorem ffd_s {P : Nat → Prop} [DecidablePred P] : ∀ (m k i : Nat), ffd P k m = some i → k ≤ i ∧ i < k + m ∧ P i := by
  intro m
  induction m with
  | zero => intro k i h; cases h
  | succ m ih =>
    intro k i h
    unfold ffd at h
    by_cases a : P k
    · rw [if_pos a] at h
      cases h
      exact ⟨by omega, by omega, a⟩
    · rw [if_neg a] at h
      have := ih _ _ h
      exact ⟨by omega, by omega, this.2.2⟩
theorem lowest_lp (r : Nat) : ∀ (m k : Nat) (s : Mem), k ≤ 8 → 8 < k + m → itr2 (b_X7_lowestFreeSlot_2) m r (nI k) s = some (match ffd (fun i => s (r + 9 + 2 * i) 0 = 0) k (8 - k) with | some i => nI i | none => -1, s) := by
  intro m
  induction m with
  | zero => intro k s h1 h2; omega
  | succ m ih =>
    intro k s h1 h2
    show b_X7_lowestFreeSlot_2 m (itr2 (b_X7_lowestFreeSlot_2) m) r (nI k) s = _
    generalize itr2 (b_X7_lowestFreeSlot_2) m = g at ih ⊢
    unfold b_X7_lowestFreeSlot_2
    rw [show (8 : Int32) = nI 8 from rfl]
    by_cases h : 8 ≤ k
    · rw [if_pos (nI_le h (by omega)), show 8 - k = 0 by omega]
      rfl
    · rw [if_neg (nI_ge (a := k) (b := 8) (by omega) (by omega)), ck_t (inb_nI (by omega) (by decide)), lt_eq, nI_clamp (by omega), runs_eq, bd_mk]
      rw [show 8 - k = (8 - (k + 1)) + 1 by omega]
      rw [show r + 7 + 2 + 2 * k = r + 9 + 2 * k by omega]
      unfold ffd
      by_cases a : s (r + 9 + 2 * k) 0 = 0
      · rw [bz_f (fun e => e a), if_pos rfl, if_pos a]
      · rw [bz_t a, if_neg (by decide), if_neg a, lt_eq, show Int32.ofInt 1 = 1 from rfl, nI_1, ih (k + 1) s (by omega) (by omega)]
theorem lowest_eq {n : Nat} (hn : 9 ≤ n) (r : Nat) (s : Mem) : f_X7_lowestFreeSlot n r s = some (match ffd (fun i => s (r + 9 + 2 * i) 0 = 0) 0 8 with | some i => nI i | none => -1, s) := by
  show itr2 (b_X7_lowestFreeSlot_2) n r (nI 0) s = _
  rw [lowest_lp r n 0 s (by omega) (by omega)]
theorem of0 (n : Nat) {i : Nat} (hi : i < 8) (s : Mem) : f_X11_of n (nI i) 0 s = some (s 15 (70 + 10 * i), s) := of_eq n (j := 0) hi (by omega) s
theorem to0 (n : Nat) {i : Nat} (hi : i < 8) (v : Int32) (s : Mem) : f_X11_to n (nI i) 0 v s = some (stM s 15 (70 + 10 * i) v) := to_eq n (j := 0) hi (by omega) v s
theorem of_c (n : Nat) {i j : Nat} {x : Int32} (hx : x = nI j) (hi : i < 8) (hj : j < 10) (s : Mem) : f_X11_of n (nI i) x s = some (s 15 (70 + 10 * i + j), s) := by rw [hx]; exact of_eq n hi hj s
theorem to_c (n : Nat) {i j : Nat} {x : Int32} (hx : x = nI j) (hi : i < 8) (hj : j < 10) (v : Int32) (s : Mem) : f_X11_to n (nI i) x v s = some (stM s 15 (70 + 10 * i + j) v) := by rw [hx]; exact to_eq n hi hj v s
/-- the model starts a script -/
theorem started_lp (x : Int32) : ∀ (m k : Nat) (s : Mem), k ≤ 8 → 19 < k + m → itr2 (b_X11_started_12) m x (nI k) s = some (match ffd (fun i => s 15 (70 + 10 * i) = 0) k (8 - k) with | some i => (nI i, stM (freeM s i) 15 (70 + 10 * i) x) | none => (-1, stM s 15 4 (s 15 4 + 1))) := by
  intro m
  induction m with
  | zero => intro k s h1 h2; omega
  | succ m ih =>
    intro k s h1 h2
    show b_X11_started_12 m (itr2 (b_X11_started_12) m) x (nI k) s = _
    generalize itr2 (b_X11_started_12) m = g at ih ⊢
    unfold b_X11_started_12
    rw [show (8 : Int32) = nI 8 from rfl]
    by_cases h : 8 ≤ k
    · rw [if_pos (nI_le h (by omega)), show 8 - k = 0 by omega, ck_t (by decide), ck_t (by decide)]
      rfl
    · rw [if_neg (nI_ge (a := k) (b := 8) (by omega) (by omega)), of0 m (by omega), bd_mk]
      rw [show 8 - k = (8 - (k + 1)) + 1 by omega]
      unfold ffd
      by_cases a : s 15 (70 + 10 * k) = 0
      · rw [if_pos a, if_pos a, frees_eq (by omega) (by omega), bv_mk, to0 m (by omega), bv_mk]
      · rw [if_neg a, if_neg a, lt_eq, show Int32.ofInt 1 = 1 from rfl, nI_1, ih (k + 1) s (by omega) (by omega)]
theorem started_eq {n : Nat} (hn : 20 ≤ n) (x : Int32) (s : Mem) : f_X11_started n x s = some (if 0 < x.toInt ∧ x.toInt < 61 ∧ 0 < (s 7 x.toNatClampNeg).toInt then (match ffd (fun i => s 15 (70 + 10 * i) = 0) 0 8 with | some i => (nI i, stM (freeM s i) 15 (70 + 10 * i) x) | none => (-1, stM s 15 4 (s 15 4 + 1))) else (-1, s)) := by
  unfold f_X11_started
  rw [isScript_eq, bd_mk]
  by_cases h : 0 < x.toInt ∧ x.toInt < 61 ∧ 0 < (s 7 x.toNatClampNeg).toInt
  · rw [bz_t h, if_neg (by decide), if_pos h]
    show itr2 (b_X11_started_12) n x (nI 0) s = _
    rw [started_lp x n 0 s (by omega) (by omega)]
  · rw [bz_f h, if_pos rfl, if_neg h]
theorem startScript_eq {n : Nat} (hn : 9 ≤ n) (x b : Int32) (hb : okZ b) (s : Mem) : f_X5_startScript n x b s = some (if 0 < x.toInt ∧ x.toInt < 61 ∧ s 23 x.toNatClampNeg ≠ 0 then (match ffd (fun i => s (42 + 2 * i) 0 = 0) 0 8 with | some i => (nI i, stM (stM s (42 + 2 * i) 0 x) (42 + 2 * i) 5 b) | none => (-1, stM s 33 4 (s 33 4 + 1))) else (-1, s)) := by
  unfold f_X5_startScript
  rw [has_eq n io_2_22, bd_mk]
  show (if bz (0 < x.toInt ∧ x.toInt < (61 : Int) ∧ s 23 x.toNatClampNeg ≠ 0) = 0 then _ else _) = _
  by_cases h : 0 < x.toInt ∧ x.toInt < 61 ∧ s 23 x.toNatClampNeg ≠ 0
  · rw [bz_t h, if_neg (by decide), if_pos h, lowest_eq hn, bd_mk]
    show (if (match ffd (fun i => s (42 + 2 * i) 0 = 0) 0 8 with | some i => nI i | none => -1) = (-1 : Int32) then _ else _) = _
    cases e : ffd (fun i => s (42 + 2 * i) 0 = 0) 0 8 with
    | none =>
      dsimp only
      rw [if_pos rfl]
      rfl
    | some i =>
      have hi := ffd_s _ _ _ e
      dsimp only
      rw [if_neg (by intro q; have := congrArg Int32.toInt q; rw [nI_toInt (by omega)] at this; exact absurd this (by simp)), ck_t (inb_nI (by omega) (by decide)), lt_eq, nI_clamp (by omega), begin_eq n _ x b hb, bv_mk]
  · rw [bz_f h, if_pos rfl, if_neg h]
