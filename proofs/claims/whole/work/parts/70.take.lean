/-! ===== play: a tape is read; takes ===== -/
theorem stM_cm {s : Mem} {k j a b : Nat} {v w : Int32} (h : k ≠ a) : stM (stM s k j v) a b w = stM (stM s a b w) k j v := by
  funext x y
  by_cases h1 : x = a
  · subst h1
    have h3 : ¬ x = k := fun e => h e.symm
    simp [stM, h3]
  · by_cases h2 : x = k
    · subst h2
      simp [stM, h1]
    · simp [stM, h1, h2]
/-- the bytes of a row, as numbers -/
def byN (row : Nat → Int32) (p : Nat) : Nat := (row p).toNatClampNeg
theorem tape_by {σ : Mem} {r T p : Nat} {row : Nat → Int32} (h : TapeR σ r T row) (hp : p < T) : row p = nI (byN row p) ∧ byN row p < 256 := by
  obtain ⟨v, hv, e⟩ := bcl_nat (σ (r + 1)) p
  have : row p = nI v := by rw [← h.2.2 p hp, e]
  unfold byN
  rw [this, nI_clamp (by omega)]
  exact ⟨rfl, hv⟩
theorem at_by (n : Nat) {σ s : Mem} {r T p : Nat} {row : Nat → Int32} (h : TapeR σ r T row) (hp : p < T) (e : s r = σ r) (e1 : s (r + 1) = σ (r + 1)) : f_X8_at n r (nI p) s = some (nI (byN row p), s) := by
  rw [at_eq n (T := T) s (by rw [e]; exact h.1) h.2.1 hp, e1, h.2.2 p hp, (tape_by h hp).1]
/-- what reading leaves as it was -/
def RC (σ0 σ : Mem) : Prop := ∀ z, z < 4 ∨ (16 ≤ z ∧ z ≠ 31 ∧ z ≠ 32) → σ z = σ0 z
def RM (τ0 τ : Mem) : Prop := (∀ z, z ≠ 0 → z ≠ 13 → z ≠ 14 → z ≠ 19 → τ z = τ0 z) ∧ ∀ j, j ≠ 19 → j ≠ 20 → j ≠ 22 → j ≠ 23 → τ 0 j = τ0 0 j
theorem RC.rf (σ : Mem) : RC σ σ := fun _ _ => rfl
theorem RM.rf (τ : Mem) : RM τ τ := ⟨fun _ _ _ _ _ => rfl, fun _ _ _ _ _ => rfl⟩
theorem RC.w {σ0 σ : Mem} {k j : Nat} {v : Int32} (h : RC σ0 σ) (hk : (4 ≤ k ∧ k < 16) ∨ k = 31 ∨ k = 32) : RC σ0 (stM σ k j v) := fun z hz => by rw [stM_ne (by omega)]; exact h z hz
theorem RM.w {τ0 τ : Mem} {k j : Nat} {v : Int32} (h : RM τ0 τ) (hk : k = 13 ∨ k = 14 ∨ k = 19) : RM τ0 (stM τ k j v) := ⟨fun z a b c d => by rw [stM_ne (by omega)]; exact h.1 z a b c d, fun j a b c d => by rw [stM_ne (by omega)]; exact h.2 j a b c d⟩
theorem RM.w0 {τ0 τ : Mem} {j : Nat} {v : Int32} (h : RM τ0 τ) (hj : j = 19 ∨ j = 20 ∨ j = 22 ∨ j = 23) : RM τ0 (stM τ 0 j v) := ⟨fun z a b c d => by rw [stM_ne a]; exact h.1 z a b c d, fun k a b c d => by rw [stM_far (Or.inr (by omega))]; exact h.2 k a b c d⟩
/-- a fault is found by both -/
def FO (σ0 τ0 σ τ : Mem) : Prop := (∃ k, 0 < k ∧ k < 5 ∧ σ 31 0 = nI k ∧ τ 0 19 = nI k) ∧ σ 31 1 = τ 0 20 ∧ RC σ0 σ ∧ RM τ0 τ
theorem FO.c {σ0 τ0 σ τ : Mem} (h : FO σ0 τ0 σ τ) : ¬ σ 31 0 = 0 := by
  obtain ⟨⟨k, h1, h2, h3, -⟩, -⟩ := h
  rw [h3]
  exact nI_ne0 h1 (by omega)
theorem FO.m {σ0 τ0 σ τ : Mem} (h : FO σ0 τ0 σ τ) : ¬ τ 0 19 = 0 := by
  obtain ⟨⟨k, h1, h2, -, h3⟩, -⟩ := h
  rw [h3]
  exact nI_ne0 h1 (by omega)
theorem FO.w {σ0 τ0 σ τ : Mem} {k j : Nat} {v : Int32} (h : FO σ0 τ0 σ τ) (hk : k = 13 ∨ k = 14) : FO σ0 τ0 σ (stM τ k j v) := by
  obtain ⟨⟨c, h1, h2, h3, h4⟩, h5, h6, h7⟩ := h
  exact ⟨⟨c, h1, h2, h3, by rw [stM_ne (by omega)]; exact h4⟩, by rw [stM_ne (by omega)]; exact h5, h6, h7.w (by omega)⟩
theorem FO.wc {σ0 τ0 σ τ : Mem} {j : Nat} {v : Int32} (h : FO σ0 τ0 σ τ) : FO σ0 τ0 (stM σ 32 j v) τ := by
  obtain ⟨⟨c, h1, h2, h3, h4⟩, h5, h6, h7⟩ := h
  exact ⟨⟨c, h1, h2, by rw [stM_ne (by omega)]; exact h3, h4⟩, by rw [stM_ne (by omega)]; exact h5, h6.w (by omega), h7⟩
theorem take_f (n : Nat) {σ : Mem} (h : ¬ σ 31 0 = 0) (x y : Int32) : f_X4_take n x y σ = some (-1, σ) := by
  unfold f_X4_take
  rw [if_neg h]
theorem wants_f (n : Nat) {τ : Mem} (h : ¬ τ 0 19 = 0) (x y : Int32) : f_X11_wants n x y τ = some (0, τ) := by
  unfold f_X11_wants
  rw [if_neg h]
theorem fail_f (n : Nat) {σ : Mem} (h : ¬ σ 31 0 = 0) (x : Int32) : f_X4_fail n x σ = some σ := by
  unfold f_X4_fail b_X4_fail_20
  rw [if_neg h]
theorem flaw_f (n : Nat) {τ : Mem} (h : ¬ τ 0 19 = 0) (x y : Int32) : f_X11_flaw n x y τ = some τ := by
  unfold f_X11_flaw b_X11_flaw_17
  rw [if_neg h]
theorem fail_0 (n : Nat) {σ : Mem} (h : σ 31 0 = 0) (x : Int32) : f_X4_fail n x σ = some (stM (stM σ 31 0 x) 31 1 (σ 31 4)) := by
  unfold f_X4_fail b_X4_fail_20
  rw [if_pos h, lt_eq, stM_far (Or.inr (by decide)), lt_eq]
theorem flaw_0 (n : Nat) {τ : Mem} (h : τ 0 19 = 0) (x y : Int32) : f_X11_flaw n x y τ = some (stM (stM τ 0 19 x) 0 20 y) := by
  unfold f_X11_flaw b_X11_flaw_17
  rw [if_pos h, lt_eq, lt_eq]
/-- both find fault k at p -/
theorem FO.mk2 {σ0 τ0 σ τ : Mem} {k : Nat} {p : Int32} (hk : 0 < k ∧ k < 5) (hc : RC σ0 σ) (hm : RM τ0 τ) : FO σ0 τ0 (stM (stM σ 31 0 (nI k)) 31 1 p) (stM (stM τ 0 19 (nI k)) 0 20 p) := by
  refine ⟨⟨k, hk.1, hk.2, ?_, ?_⟩, ?_, (hc.w (by omega)).w (by omega), (hm.w0 (by omega)).w0 (by omega)⟩
  · rw [stM_far (Or.inr (by decide)), stM_hit]
  · rw [stM_far (Or.inr (by decide)), stM_hit]
  · rw [stM_hit, stM_hit]
/-- within a block that ends at e, no fault yet -/
def BS (T e : Nat) (σ τ : Mem) : Prop := σ 31 0 = 0 ∧ τ 0 19 = 0 ∧ σ 31 5 = nI e ∧ τ 0 23 = nI e ∧ e ≤ T ∧ TapeR σ 2 T (τ 1)
def Sp (σ : Mem) (p : Nat) : Mem := stM σ 31 4 (nI p)
def Up (τ : Mem) (p : Nat) : Mem := stM τ 0 22 (nI p)
theorem Sp_tw (σ : Mem) (p q : Nat) : Sp (Sp σ p) q = Sp σ q := stM_tw _ _ _ _ _
theorem Up_tw (τ : Mem) (p q : Nat) : Up (Up τ p) q = Up τ q := stM_tw _ _ _ _ _
theorem Sp_4 (σ : Mem) (p : Nat) : Sp σ p 31 4 = nI p := stM_hit _ _ _ _
theorem Up_22 (τ : Mem) (p : Nat) : Up τ p 0 22 = nI p := stM_hit _ _ _ _
theorem Sp_ne {σ : Mem} {p z : Nat} (h : z ≠ 31) : Sp σ p z = σ z := stM_ne h
theorem Up_ne {τ : Mem} {p z : Nat} (h : z ≠ 0) : Up τ p z = τ z := stM_ne h
theorem Sp_31 {σ : Mem} {p j : Nat} (h : j ≠ 4) : Sp σ p 31 j = σ 31 j := stM_far (Or.inr h)
theorem Up_0 {τ : Mem} {p j : Nat} (h : j ≠ 22) : Up τ p 0 j = τ 0 j := stM_far (Or.inr h)
theorem RC.Sp {σ0 σ : Mem} {p : Nat} (h : RC σ0 σ) : RC σ0 (Sp σ p) := h.w (by omega)
theorem RM.Up {τ0 τ : Mem} {p : Nat} (h : RM τ0 τ) : RM τ0 (Up τ p) := h.w0 (by omega)
def FS (σ : Mem) (p : Nat) : Mem := stM (stM (Sp σ p) 31 0 4) 31 1 (nI p)
def FU (τ : Mem) (p : Nat) : Mem := stM (stM (Up τ p) 0 19 4) 0 20 (nI p)
theorem FS_FO {σ0 τ0 σ τ : Mem} {p : Nat} (hc : RC σ0 σ) (hm : RM τ0 τ) : FO σ0 τ0 (FS σ p) (FU τ p) := FO.mk2 (k := 4) (by omega) hc.Sp hm.Up
theorem peek_e {T e p : Nat} {σ τ : Mem} (n : Nat) (h : BS T e σ τ) (hp : p ≤ e) : f_X4_peek n (Sp σ p) = some (if p < e then nI (byN (τ 1) p) else -1, Sp σ p) := by
  obtain ⟨h1, h2, h3, h4, h5, h6⟩ := h
  have T6 := h6.2.1
  unfold f_X4_peek b_X4_peek_29
  rw [Sp_31 (by decide), h3, Sp_4]
  by_cases q : p < e
  · rw [if_neg (nI_ge q (by omega)), if_pos q, at_by n h6 (show p < T by omega) (Sp_ne (by decide)) (Sp_ne (by decide)), bd_mk]
  · rw [if_pos (nI_le (by omega) (by omega)), if_neg q]
theorem take_b {T e p a b : Nat} {σ τ : Mem} (n m : Nat) (h : BS T e σ τ) (hp : p ≤ e) (ha : a ≤ 255) (hb : b ≤ 255) :
    (p < e ∧ a ≤ byN (τ 1) p ∧ byN (τ 1) p ≤ b ∧ f_X4_take n (nI a) (nI b) (Sp σ p) = some (nI (byN (τ 1) p), Sp σ (p + 1)) ∧ f_X11_wants m (nI a) (nI b) (Up τ p) = some (nI (byN (τ 1) p), Up τ (p + 1))) ∨
    (f_X4_take n (nI a) (nI b) (Sp σ p) = some (-1, FS σ p) ∧ f_X11_wants m (nI a) (nI b) (Up τ p) = some (0, FU τ p)) := by
  have pk := peek_e n h hp
  obtain ⟨h1, h2, h3, h4, h5, h6⟩ := id h
  have T6 := h6.2.1
  have C : f_X4_take n (nI a) (nI b) (Sp σ p) = if p < e ∧ a ≤ byN (τ 1) p ∧ byN (τ 1) p ≤ b then some (nI (byN (τ 1) p), Sp σ (p + 1)) else some (-1, FS σ p) := by
    have F : (bv (f_X4_fail n 4 (Sp σ p)) fun s1 => some ((-1 : Int32), s1)) = some (-1, FS σ p) := by
      rw [fail_0 n (by rw [Sp_31 (by decide)]; exact h1), bv_mk, Sp_4]
      rfl
    unfold f_X4_take b_X4_take_29
    rw [Sp_31 (by decide), if_pos h1, pk, bd_mk]
    by_cases q : p < e
    · have Bp := (tape_by h6 (show p < T by omega)).2
      rw [if_pos q, if_neg (m1_ne _ (by omega))]
      by_cases q1 : a ≤ byN (τ 1) p
      · rw [if_neg (nI_nlt q1 (by omega))]
        by_cases q2 : byN (τ 1) p ≤ b
        · rw [if_pos (nI_le q2 (by omega)), lt_eq, Sp_4, nI_1, if_pos ⟨q, q1, q2⟩]
          congr 2
          exact Sp_tw σ p (p + 1)
        · rw [if_neg (nI_ge (by omega) (by omega)), F, if_neg (fun w => q2 w.2.2)]
      · rw [if_pos (nI_lt (by omega) (by omega)), F, if_neg (fun w => q1 w.2.1)]
    · rw [if_neg q, if_pos rfl, F, if_neg (fun w => q w.1)]
  have M : f_X11_wants m (nI a) (nI b) (Up τ p) = if p < e ∧ a ≤ byN (τ 1) p ∧ byN (τ 1) p ≤ b then some (nI (byN (τ 1) p), Up τ (p + 1)) else some (0, FU τ p) := by
    have F : ∀ x : Int32, x = nI p → (bv (f_X11_flaw m 4 x (Up τ p)) fun s1 => some ((0 : Int32), s1)) = some (0, FU τ p) := by
      intro x ex
      rw [flaw_0 m (by rw [Up_0 (by decide)]; exact h2), bv_mk, ex]
      rfl
    unfold f_X11_wants
    rw [Up_0 (show 19 ≠ 22 by decide), if_pos h2, Up_22, Up_0 (show 23 ≠ 22 by decide), h4]
    by_cases q : p < e
    · have Bp := tape_by h6 (show p < T by omega)
      rw [if_neg (fun w => by have := (nI_eq (by omega) (by omega)).mp w; omega), ck_t (inb_nI (by omega) (by decide)), nI_clamp (by omega), Up_ne (show 1 ≠ 0 by decide), Bp.1]
      by_cases q1 : a ≤ byN (τ 1) p ∧ byN (τ 1) p ≤ b
      · rw [in_t m _ _ _ _ (by rw [Int32.toInt_toInt64, Int32.toInt_toInt64, nI_toInt (by omega), nI_toInt (by omega), nI_toInt (by omega)]; omega), bd_mk, if_neg n10, lt_eq, Up_22, nI_1, if_pos ⟨q, q1⟩]
        congr 2
        exact Up_tw τ p (p + 1)
      · rw [in_f m _ _ _ _ (by rw [Int32.toInt_toInt64, Int32.toInt_toInt64, nI_toInt (by omega), nI_toInt (by omega), nI_toInt (by omega)]; omega), bd_mk, if_pos rfl, Up_22, F _ rfl, if_neg (fun w => q1 w.2)]
    · have e2 : p = e := by omega
      rw [if_pos (by rw [e2]), F _ (by rw [e2]), if_neg (fun w => q w.1)]
  by_cases q : p < e ∧ a ≤ byN (τ 1) p ∧ byN (τ 1) p ≤ b
  · left
    rw [C, M, if_pos q, if_pos q]
    exact ⟨q.1, q.2.1, q.2.2, rfl, rfl⟩
  · right
    rw [C, M, if_neg q, if_neg q]
    exact ⟨rfl, rfl⟩
/-! a number -/
def mxK (K : Nat) : Nat := if K = 0 then 20 else if K = 3 then 12 else 60
theorem mxK_le : ∀ K, K < 4 → mxK K ≤ 60 ∧ 0 < mxK K := by decide
theorem mx_len : ∀ K, K < 4 → isO 2 (4 + 3 * K) ∧ lenC (4 + 3 * K + 1) = mxK K + 1 ∧ lenC (4 + 3 * K + 2) = mxK K + 1 := by unfold isO; decide
theorem isN_eq (n : Nat) {K : Nat} (hK : K < 4) (x : Int32) (s : Mem) : f_X2_isNumber n (4 + 3 * K) x s = some (bz (0 < x.toInt ∧ x.toInt ≤ (mxK K : Int)), s) := by
  have m60 := mxK_le K hK
  unfold f_X2_isNumber b_X2_isNumber_17 b_X2_isNumber_18
  rw [(mx_len K hK).2.1]
  have eL : (Int32.ofNat (mxK K + 1)).toInt = (mxK K : Int) + 1 := by
    have := nI_toInt (n := mxK K + 1) (by omega)
    rw [show Int32.ofNat (mxK K + 1) = nI (mxK K + 1) from rfl, this]
    omega
  by_cases h1 : x ≤ 0
  · have g1 : x.toInt ≤ 0 := le_T.mp h1
    rw [if_pos h1, bz_f (by omega), ckz0]
  · have g1 : ¬ x.toInt ≤ 0 := fun q => h1 (le_T.mpr q)
    rw [if_neg h1]
    by_cases h2 : Int32.ofNat (mxK K + 1) ≤ x
    · have g2 := le_T.mp h2
      rw [eL] at g2
      rw [if_pos h2, bz_f (by omega), ckz0]
    · have g2 : ¬ (Int32.ofNat (mxK K + 1)).toInt ≤ x.toInt := fun q => h2 (le_T.mpr q)
      rw [eL] at g2
      rw [if_neg h2, bz_t (by omega), ckz1]
theorem isN_t (n : Nat) {K x : Nat} (hK : K < 4) (s : Mem) (h : 0 < x ∧ x ≤ mxK K) : f_X2_isNumber n (4 + 3 * K) (nI x) s = some (1, s) := by
  have m60 := mxK_le K hK
  have g : 0 < (nI x).toInt ∧ (nI x).toInt ≤ (mxK K : Int) := by rw [nI_toInt (by omega)]; omega
  rw [isN_eq n hK, bz_t g]
theorem hasK (n : Nat) {K x : Nat} (hK : K < 4) (s : Mem) (h : 0 < x ∧ x ≤ mxK K) : f_X2_has n (4 + 3 * K) (nI x) s = some (if s (5 + 3 * K) x = 0 then 0 else 1, s) := by
  have m60 := mxK_le K hK
  have L := (mx_len K hK).2.1
  rw [has_eq n (mx_len K hK).1]
  by_cases z : s (5 + 3 * K) x = 0
  · have g : ¬ (0 < (nI x).toInt ∧ (nI x).toInt < (lenC (4 + 3 * K + 1) : Int) ∧ s (4 + 3 * K + 1) (nI x).toNatClampNeg ≠ 0) := fun w => w.2.2 (by rw [nI_clamp (by omega), show 4 + 3 * K + 1 = 5 + 3 * K by omega]; exact z)
    rw [bz_f g, if_pos z]
  · have g : 0 < (nI x).toInt ∧ (nI x).toInt < (lenC (4 + 3 * K + 1) : Int) ∧ s (4 + 3 * K + 1) (nI x).toNatClampNeg ≠ 0 := by
      rw [L, nI_clamp (by omega), nI_toInt (by omega), show 4 + 3 * K + 1 = 5 + 3 * K by omega]
      exact ⟨by omega, by omega, z⟩
    rw [bz_t g, if_neg z]
/-- the number is new: it is put in -/
def NS (σ : Mem) (K p e x : Nat) : Mem := stM (stM (stM σ (5 + 3 * K) x (nI p)) (6 + 3 * K) x (nI e)) (4 + 3 * K) 2 (σ (4 + 3 * K) 2 + 1)
def NU (τ : Mem) (K x : Nat) : Mem := stM τ 13 (64 * K + x) 1
theorem SpNS (σ : Mem) (K p e x q : Nat) (hK : K < 4) : NS (Sp σ q) K p e x = Sp (NS σ K p e x) q := by
  unfold NS Sp
  rw [stM_ne (show 4 + 3 * K ≠ 31 by omega)]
  rw [stM_cm (show (31 : Nat) ≠ 5 + 3 * K by omega), stM_cm (show (31 : Nat) ≠ 6 + 3 * K by omega), stM_cm (show (31 : Nat) ≠ 4 + 3 * K by omega)]
theorem num_b {T e p K : Nat} {σ τ σ0 τ0 : Mem} (n m : Nat) (hK : K < 4) (h : BS T e σ τ) (hp : p ≤ e) (hy : ∀ x, 0 < x → x ≤ mxK K → (σ (5 + 3 * K) x = 0 ↔ τ 13 (64 * K + x) = 0)) (hc : RC σ0 σ) (hm : RM τ0 τ) :
    (p < e ∧ 0 < byN (τ 1) p ∧ byN (τ 1) p ≤ mxK K ∧ σ (5 + 3 * K) (byN (τ 1) p) = 0 ∧ f_X4_takeNumber n (4 + 3 * K) (Sp σ p) = some (Sp (NS σ K p e (byN (τ 1) p)) (p + 1)) ∧ f_X11_names m (nI K) (nI (mxK K)) (Up τ p) = some (Up (NU τ K (byN (τ 1) p)) (p + 1))) ∨
    (∃ σ' τ', f_X4_takeNumber n (4 + 3 * K) (Sp σ p) = some σ' ∧ f_X11_names m (nI K) (nI (mxK K)) (Up τ p) = some τ' ∧ FO σ0 τ0 σ' τ') := by
  have pk := peek_e n h hp
  have m60 := mxK_le K hK
  obtain ⟨h1, h2, h3, h4, h5, h6⟩ := id h
  have T6 := h6.2.1
  have F : (bv (f_X4_fail n 4 (Sp σ p)) fun s1 => some s1) = some (FS σ p) := by
    rw [fail_0 n (by rw [Sp_31 (by decide)]; exact h1), bv_mk, Sp_4]
    rfl
  have W := take_b (a := 1) (b := mxK K) n m h hp (by omega) (by omega)
  by_cases q : p < e ∧ 1 ≤ byN (τ 1) p ∧ byN (τ 1) p ≤ mxK K
  · rcases W with ⟨-, -, -, -, w⟩ | ⟨w, -⟩
    · have Bp := (tape_by h6 (show p < T by omega)).2
      generalize byN (τ 1) p = x at *
      have ix : (64 : Int32) * nI K + nI x = nI (64 * K + x) := by
        show nI 64 * nI K + nI x = _
        rw [pk_mul, nI_add]
      by_cases z : σ (5 + 3 * K) x = 0
      · left
        refine ⟨q.1, q.2.1, q.2.2, z, ?_, ?_⟩
        · unfold f_X4_takeNumber f_X2_put b_X2_put_32
          rw [pk, bd_mk, if_pos q.1, isN_t n hK _ q.2, bd_mk, if_neg n10, hasK n hK _ q.2, bd_mk, Sp_ne (show 5 + 3 * K ≠ 31 by omega), if_pos z, if_pos rfl, isN_t n hK _ q.2, bd_mk, if_neg n10, (mx_len K hK).2.1, (mx_len K hK).2.2, ck_t (inb_nI (by omega) (by omega)), nI_clamp (by omega), lt_eq, ck_t (inb_nI (by omega) (by omega)), lt_eq, lt_eq, bv_mk, lt_eq, Sp_4, Sp_31 (by decide), h3, show 4 + 3 * K + 2 = 6 + 3 * K by omega, show 4 + 3 * K + 1 = 5 + 3 * K by omega]
          have e2 : stM (stM (Sp σ p) (5 + 3 * K) x (nI p)) (6 + 3 * K) x (nI e) (4 + 3 * K) 2 = σ (4 + 3 * K) 2 := by rw [stM_ne (by omega), stM_ne (by omega), Sp_ne (by omega)]
          have e3 : stM (stM (stM (Sp σ p) (5 + 3 * K) x (nI p)) (6 + 3 * K) x (nI e)) (4 + 3 * K) 2 (σ (4 + 3 * K) 2 + 1) = Sp (NS σ K p e x) p := by
            rw [← SpNS σ K p e x p hK]
            unfold NS
            rw [Sp_ne (show 4 + 3 * K ≠ 31 by omega)]
          rw [e2, e3, Sp_4, nI_1]
          congr 1
          exact Sp_tw _ _ _
        · unfold f_X11_names b_X11_names_41
          rw [show f_X11_wants m (1 : Int32) (nI (mxK K)) (Up τ p) = _ from w, bd_mk, Up_0 (by decide), if_pos h2, ix, ck_t (inb_nI (by omega) (by decide)), nI_clamp (by omega), Up_ne (by decide), if_pos ((hy x (by omega) q.2.2).mp z), ck_t ⟨inb_nI (by omega) (by decide), okZ1⟩, lt_eq]
          unfold NU Up
          rw [stM_cm (show (0 : Nat) ≠ 13 by decide)]
      · right
        have z2 : ¬ τ 13 (64 * K + x) = 0 := fun w => z ((hy x (by omega) q.2.2).mpr w)
        refine ⟨FS σ p, stM (stM (stM (Up τ (p + 1)) 0 19 4) 0 20 (nI p)) 13 (64 * K + x) 1, ?_, ?_, ?_⟩
        · unfold f_X4_takeNumber b_X4_takeNumber_21
          rw [pk, bd_mk, if_pos q.1, isN_t n hK _ q.2, bd_mk, if_neg n10, hasK n hK _ q.2, bd_mk, Sp_ne (show 5 + 3 * K ≠ 31 by omega), if_neg z, if_neg n10]
          exact F
        · unfold f_X11_names b_X11_names_41
          rw [show f_X11_wants m (1 : Int32) (nI (mxK K)) (Up τ p) = _ from w, bd_mk, Up_0 (by decide), if_pos h2, ix, ck_t (inb_nI (by omega) (by decide)), nI_clamp (by omega), Up_ne (by decide), if_neg z2, flaw_0 m (by rw [Up_0 (by decide)]; exact h2), bv_mk, ck_t ⟨inb_nI (by omega) (by decide), okZ1⟩, lt_eq, Up_22]
        · have := FS_FO (p := p) hc hm
          obtain ⟨⟨k, a1, a2, a3, -⟩, a5, a6, -⟩ := this
          exact FO.w ⟨⟨4, by omega, by omega, by unfold FS; rw [stM_far (Or.inr (by decide)), stM_hit]; rfl, by rw [stM_far (Or.inr (by decide)), stM_hit]; rfl⟩, by unfold FS; rw [stM_hit, stM_hit], a6, (hm.Up.w0 (by omega)).w0 (by omega)⟩ (by omega)
    · exfalso
      have := take_b (a := 1) (b := mxK K) n m h hp (by omega) (by omega)
      rcases this with ⟨-, -, -, w2, -⟩ | ⟨w2, -⟩
      · rw [w2] at w
        have := (Prod.mk.inj (Option.some.inj w)).1
        exact m1_ne _ (by have := (tape_by h6 (show p < T by omega)).2; omega) this
      · have Bp := (tape_by h6 (show p < T by omega)).2
        have C : f_X4_take n (nI 1) (nI (mxK K)) (Sp σ p) = some (nI (byN (τ 1) p), Sp σ (p + 1)) := by
          unfold f_X4_take
          rw [Sp_31 (by decide), if_pos h1, pk, bd_mk, if_pos q.1, if_neg (m1_ne _ (by omega)), if_neg (nI_nlt q.2.1 (by omega)), if_pos (nI_le q.2.2 (by omega)), lt_eq, Sp_4, nI_1]
          congr 2
          exact Sp_tw σ p (p + 1)
        rw [C] at w2
        exact m1_ne _ (by omega) (Prod.mk.inj (Option.some.inj w2)).1
  · right
    rcases W with ⟨q1, q2, q3, -⟩ | ⟨-, w⟩
    · exact absurd ⟨q1, q2, q3⟩ q
    · have fo := FS_FO (p := p) hc hm
      refine ⟨FS σ p, stM (FU τ p) 13 (64 * K + 0) 1, ?_, ?_, fo.w (by omega)⟩
      · unfold f_X4_takeNumber b_X4_takeNumber_21
        rw [pk, bd_mk, isN_eq n hK, bd_mk, bz_f, if_pos rfl]
        · exact F
        · intro w
          apply q
          by_cases q1 : p < e
          · have Bp := (tape_by h6 (show p < T by omega)).2
            rw [if_pos q1, nI_toInt (by omega)] at w
            exact ⟨q1, by omega, by omega⟩
          · rw [if_neg q1] at w
            exact absurd w.1 (by decide)
      · unfold f_X11_names b_X11_names_41
        have ix : (64 : Int32) * nI K + (0 : Int32) = nI (64 * K + 0) := by
          show nI 64 * nI K + nI 0 = _
          rw [pk_mul, nI_add]
        rw [show f_X11_wants m (1 : Int32) (nI (mxK K)) (Up τ p) = _ from w, bd_mk, if_neg fo.m, ix, ck_t ⟨inb_nI (by omega) (by decide), okZ1⟩, nI_clamp (by omega), lt_eq]
