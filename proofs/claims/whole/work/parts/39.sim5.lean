/-! ===== keep and back ===== -/
def Cpd (σ σ' : Mem) (r0 r1 : Nat) : Prop := (∀ k, k < r0 ∨ r0 + 38 ≤ k → σ' k = σ k) ∧ (∀ j, j < 6 → σ' r0 j = σ r1 j) ∧ (∀ j, j < 64 → σ' (r0 + 1) j = σ (r1 + 1) j) ∧ (∀ j, j < 64 → σ' (r0 + 2) j = σ (r1 + 2) j) ∧ (∀ j, j < 18 → σ' (r0 + 3) j = σ (r1 + 3) j) ∧ (∀ j, j < 61 → σ' (r0 + 4) j = σ (r1 + 4) j) ∧ (∀ j, j < 61 → σ' (r0 + 5) j = σ (r1 + 5) j) ∧ (∀ j, j < 21 → σ' (r0 + 6) j = σ (r1 + 6) j) ∧ (∀ i, i < 8 → (∀ j, j < 6 → σ' (r0 + 9 + 2 * i) j = σ (r1 + 9 + 2 * i) j) ∧ ∀ j, j < 4 → σ' (r0 + 10 + 2 * i) j = σ (r1 + 10 + 2 * i) j) ∧ ∀ a, a < 13 → ∀ j, j < 7 → σ' (r0 + 25 + a) j = σ (r1 + 25 + a) j
theorem cp_slot (n : Nat) {q p : Nat} (s : Mem) (h1 : q ≠ p) (h2 : q + 1 ≠ p) (h3 : q ≠ p + 1) (h4 : okZ (s p 4)) (h5 : okZ (s p 5)) : ∃ s', f_X6_copyFrom n q p s = some s' ∧ (∀ k, k ≠ q → k ≠ q + 1 → s' k = s k) ∧ (∀ j, j < 6 → s' q j = s p j) ∧ ∀ j, j < 4 → s' (q + 1) j = s (p + 1) j := by
  have e : ∀ (u : Mem) (j : Nat) (v : Int32), (stM u q j v) p = u p := fun u j v => stM_ne (Ne.symm h1)
  have e2 : ∀ (u : Mem) (j : Nat) (v : Int32), (stM u q j v) (p + 1) = u (p + 1) := fun u j v => stM_ne (Ne.symm h3)
  unfold f_X6_copyFrom
  simp only [lt_eq, e, e2]
  rw [ck_t h4, ck_t h5, ck_t (by decide)]
  refine ⟨_, rfl, ?_, ?_, ?_⟩
  · intro k k1 k2
    rw [rwM_ne k2, stM_ne k1, stM_ne k1, stM_ne k1, stM_ne k1, stM_ne k1, stM_ne k1]
  · intro j hj
    rw [rwM_ne (by omega)]
    rcases (show j = 0 ∨ j = 1 ∨ j = 2 ∨ j = 3 ∨ j = 4 ∨ j = 5 by omega) with rfl | rfl | rfl | rfl | rfl | rfl <;> simp [stM]
  · intro j hj
    rw [rwM_row, pk_cpy_in (by show 0 ≤ j; omega) (by show j < 0 + 4; omega)]
    show s (p + 1) (0 + (j - 0)) = _
    rw [show 0 + (j - 0) = j by omega]
theorem cp_act (n : Nat) {q p : Nat} (s : Mem) (h1 : q ≠ p) (h4 : okZ (s p 4)) : ∃ s', f_X0_copyFrom n q p s = some s' ∧ (∀ k, k ≠ q → s' k = s k) ∧ ∀ j, j < 7 → s' q j = s p j := by
  have e : ∀ (u : Mem) (j : Nat) (v : Int32), (stM u q j v) p = u p := fun u j v => stM_ne (Ne.symm h1)
  unfold f_X0_copyFrom
  simp only [lt_eq, e]
  rw [ck_t h4]
  refine ⟨_, rfl, ?_, ?_⟩
  · intro k k1
    rw [stM_ne k1, stM_ne k1, stM_ne k1, stM_ne k1, stM_ne k1, stM_ne k1, stM_ne k1]
  · intro j hj
    rcases (show j = 0 ∨ j = 1 ∨ j = 2 ∨ j = 3 ∨ j = 4 ∨ j = 5 ∨ j = 6 by omega) with rfl | rfl | rfl | rfl | rfl | rfl | rfl <;> simp [stM]
theorem cp_acts {r0 r1 : Nat} (hr : (r0 = 33 ∧ r1 = 71) ∨ (r0 = 71 ∧ r1 = 33)) : ∀ (m k : Nat) (s : Mem), k ≤ 13 → 13 < k + m → (∀ a, a < 13 → okZ (s (r1 + 25 + a) 4)) → ∃ s', itr3 (b_X7_copyFrom_169) m r0 r1 (nI k) s = some s' ∧ (∀ z, (z < r0 + 25 + k ∨ r0 + 38 ≤ z) → s' z = s z) ∧ ∀ a, k ≤ a → a < 13 → ∀ j, j < 7 → s' (r0 + 25 + a) j = s (r1 + 25 + a) j := by
  intro m
  induction m with
  | zero => intro k s h1 h2; omega
  | succ m ih =>
    intro k s h1 h2 hz
    show ∃ s', b_X7_copyFrom_169 m (itr3 (b_X7_copyFrom_169) m) r0 r1 (nI k) s = some s' ∧ _
    generalize itr3 (b_X7_copyFrom_169) m = g at ih ⊢
    unfold b_X7_copyFrom_169
    by_cases h : 12 < k
    · rw [show (12 : Int32) = nI 12 from rfl, if_pos (nI_lt h (by omega))]
      exact ⟨s, rfl, fun _ _ => rfl, fun a a1 a2 => by omega⟩
    · rw [show (12 : Int32) = nI 12 from rfl, if_neg (nI_nlt (by omega) (by omega)), ck_t (inb_nI (by omega) (by decide)), lt_eq, ck_t (inb_nI (by omega) (by decide)), lt_eq, nI_clamp (by omega)]
      obtain ⟨s1, e1, e2, e3⟩ := cp_act m (q := r0 + 8 + 17 + k) (p := r1 + 8 + 17 + k) s (by omega) (by have := hz k (by omega); rwa [show r1 + 25 + k = r1 + 8 + 17 + k by omega] at this)
      obtain ⟨s2, f1, f2, f3⟩ := ih (k + 1) s1 (by omega) (by omega) (fun a ha => by rw [e2 _ (by omega)]; exact hz a ha)
      rw [e1, bv_mk, lt_eq, show Int32.ofInt 1 = 1 from rfl, nI_1]
      refine ⟨s2, f1, fun z hz9 => ?_, fun a a1 a2 j hj => ?_⟩
      · rw [f2 z (by omega), e2 z (by omega)]
      · by_cases ha : a = k
        · subst ha
          rw [f2 _ (by omega), show r0 + 25 + a = r0 + 8 + 17 + a by omega, e3 j hj, show r1 + 8 + 17 + a = r1 + 25 + a by omega]
        · rw [f3 a (by omega) a2 j hj, e2 _ (by omega)]
theorem cp_slots {r0 r1 : Nat} (hr : (r0 = 33 ∧ r1 = 71) ∨ (r0 = 71 ∧ r1 = 33)) : ∀ (m k : Nat) (s : Mem), k ≤ 8 → 22 < k + m → (∀ i, i < 8 → okZ (s (r1 + 9 + 2 * i) 4) ∧ okZ (s (r1 + 9 + 2 * i) 5)) → (∀ a, a < 13 → okZ (s (r1 + 25 + a) 4)) → ∃ s', itr3 (b_X7_copyFrom_140) m r0 r1 (nI k) s = some s' ∧ (∀ z, (z < r0 + 9 + 2 * k ∨ r0 + 38 ≤ z) → s' z = s z) ∧ (∀ i, k ≤ i → i < 8 → (∀ j, j < 6 → s' (r0 + 9 + 2 * i) j = s (r1 + 9 + 2 * i) j) ∧ ∀ j, j < 4 → s' (r0 + 10 + 2 * i) j = s (r1 + 10 + 2 * i) j) ∧ ∀ a, a < 13 → ∀ j, j < 7 → s' (r0 + 25 + a) j = s (r1 + 25 + a) j := by
  intro m
  induction m with
  | zero => intro k s h1 h2; omega
  | succ m ih =>
    intro k s h1 h2 hz ha
    show ∃ s', b_X7_copyFrom_140 m (itr3 (b_X7_copyFrom_140) m) r0 r1 (nI k) s = some s' ∧ _
    generalize itr3 (b_X7_copyFrom_140) m = g at ih ⊢
    unfold b_X7_copyFrom_140
    by_cases h : 8 ≤ k
    · rw [show (8 : Int32) = nI 8 from rfl, if_pos (nI_le h (by omega))]
      obtain ⟨s1, e1, e2, e3⟩ := cp_acts hr m 0 s (by omega) (by omega) ha
      exact ⟨s1, e1, fun z hz9 => e2 z (by omega), fun i i1 i2 => by omega, fun a a1 j hj => e3 a (by omega) a1 j hj⟩
    · rw [show (8 : Int32) = nI 8 from rfl, if_neg (nI_ge (a := k) (b := 8) (by omega) (by omega)), ck_t (inb_nI (by omega) (by decide)), lt_eq, ck_t (inb_nI (by omega) (by decide)), lt_eq, nI_clamp (by omega)]
      have hzk := hz k (by omega)
      rw [show r1 + 9 + 2 * k = r1 + 7 + 2 + 2 * k by omega] at hzk
      obtain ⟨s1, e1, e2, e3, e4⟩ := cp_slot m (q := r0 + 7 + 2 + 2 * k) (p := r1 + 7 + 2 + 2 * k) s (by omega) (by omega) (by omega) hzk.1 hzk.2
      obtain ⟨s2, f1, f2, f3, f4⟩ := ih (k + 1) s1 (by omega) (by omega) (fun i hi => by rw [e2 _ (by omega) (by omega)]; exact hz i hi) (fun a a1 => by rw [e2 _ (by omega) (by omega)]; exact ha a a1)
      rw [e1, bv_mk, lt_eq, show Int32.ofInt 1 = 1 from rfl, nI_1]
      refine ⟨s2, f1, fun z hz9 => ?_, fun i i1 i2 => ⟨fun j hj => ?_, fun j hj => ?_⟩, fun a a1 j hj => ?_⟩
      · rw [f2 z (by omega), e2 z (by omega) (by omega)]
      · by_cases hi : i = k
        · subst hi
          rw [f2 _ (by omega), show r0 + 9 + 2 * i = r0 + 7 + 2 + 2 * i by omega, e3 j hj, show r1 + 7 + 2 + 2 * i = r1 + 9 + 2 * i by omega]
        · rw [(f3 i (by omega) i2).1 j hj, e2 _ (by omega) (by omega)]
      · by_cases hi : i = k
        · subst hi
          rw [f2 _ (by omega), show r0 + 10 + 2 * i = r0 + 7 + 2 + 2 * i + 1 by omega, e4 j hj, show r1 + 7 + 2 + 2 * i + 1 = r1 + 10 + 2 * i by omega]
        · rw [(f3 i (by omega) i2).2 j hj, e2 _ (by omega) (by omega)]
      · rw [f4 a a1 j hj, e2 _ (by omega) (by omega)]
theorem cp_row (u : Mem) {q p N : Nat} (c : Int32) (hc : c.toNatClampNeg = N) : (∀ k, k ≠ q → rwM u q (va_cpy (u p) (u q) (0 : Int32).toNatClampNeg (0 : Int32).toNatClampNeg c.toNatClampNeg) k = u k) ∧ ∀ j, j < N → rwM u q (va_cpy (u p) (u q) (0 : Int32).toNatClampNeg (0 : Int32).toNatClampNeg c.toNatClampNeg) q j = u p j := by
  refine ⟨fun k hk => rwM_ne hk, fun j hj => ?_⟩
  rw [rwM_row, hc, pk_cpy_in (by show 0 ≤ j; omega) (by show j < 0 + N; omega)]
  show u p (0 + (j - 0)) = _
  rw [show 0 + (j - 0) = j by omega]
theorem copy_eq {n r0 r1 : Nat} (hn : 30 ≤ n) (hr : (r0 = 33 ∧ r1 = 71) ∨ (r0 = 71 ∧ r1 = 33)) (s : Mem) (hz : ∀ i, i < 8 → okZ (s (r1 + 9 + 2 * i) 4) ∧ okZ (s (r1 + 9 + 2 * i) 5)) (ha : ∀ a, a < 13 → okZ (s (r1 + 25 + a) 4)) : ∃ s', f_X7_copyFrom n r0 r1 s = some s' ∧ Cpd s s' r0 r1 := by
  unfold f_X7_copyFrom
  rw [lt_eq]
  have k0 : ∀ k, k ≠ r0 → stM s r0 0 (s r1 0) k = s k := fun k hk => stM_ne hk
  have v0 : ∀ j, stM s r0 0 (s r1 0) r0 j = if j = 0 then s r1 0 else s r0 j := fun j => by simp [stM]
  generalize stM s r0 0 (s r1 0) = u0 at k0 v0 ⊢
  rw [lt_eq]
  have k1 : ∀ k, k ≠ r0 → stM u0 r0 1 (u0 r1 1) k = u0 k := fun k hk => stM_ne hk
  have v1 : ∀ j, stM u0 r0 1 (u0 r1 1) r0 j = if j = 1 then u0 r1 1 else u0 r0 j := fun j => by simp [stM]
  generalize stM u0 r0 1 (u0 r1 1) = u1 at k1 v1 ⊢
  rw [lt_eq]
  have k2 : ∀ k, k ≠ r0 → stM u1 r0 2 (u1 r1 2) k = u1 k := fun k hk => stM_ne hk
  have v2 : ∀ j, stM u1 r0 2 (u1 r1 2) r0 j = if j = 2 then u1 r1 2 else u1 r0 j := fun j => by simp [stM]
  generalize stM u1 r0 2 (u1 r1 2) = u2 at k2 v2 ⊢
  rw [lt_eq]
  have k3 : ∀ k, k ≠ r0 → stM u2 r0 3 (u2 r1 3) k = u2 k := fun k hk => stM_ne hk
  have v3 : ∀ j, stM u2 r0 3 (u2 r1 3) r0 j = if j = 3 then u2 r1 3 else u2 r0 j := fun j => by simp [stM]
  generalize stM u2 r0 3 (u2 r1 3) = u3 at k3 v3 ⊢
  rw [lt_eq]
  have k4 : ∀ k, k ≠ r0 → stM u3 r0 4 (u3 r1 4) k = u3 k := fun k hk => stM_ne hk
  have v4 : ∀ j, stM u3 r0 4 (u3 r1 4) r0 j = if j = 4 then u3 r1 4 else u3 r0 j := fun j => by simp [stM]
  generalize stM u3 r0 4 (u3 r1 4) = u4 at k4 v4 ⊢
  rw [lt_eq]
  have k5 : ∀ k, k ≠ r0 → stM u4 r0 5 (u4 r1 5) k = u4 k := fun k hk => stM_ne hk
  have v5 : ∀ j, stM u4 r0 5 (u4 r1 5) r0 j = if j = 5 then u4 r1 5 else u4 r0 j := fun j => by simp [stM]
  generalize stM u4 r0 5 (u4 r1 5) = u5 at k5 v5 ⊢
  rw [ck_t (by decide), lt_eq]
  obtain ⟨k6, v6⟩ := cp_row u5 (q := r0 + 1) (p := r1 + 1) (N := 64) (64 : Int32) rfl
  generalize rwM u5 (r0 + 1) (va_cpy (u5 (r1 + 1)) (u5 (r0 + 1)) (0 : Int32).toNatClampNeg (0 : Int32).toNatClampNeg (64 : Int32).toNatClampNeg) = u6 at k6 v6 ⊢
  rw [ck_t (by decide), lt_eq]
  obtain ⟨k7, v7⟩ := cp_row u6 (q := r0 + 2) (p := r1 + 2) (N := 64) (64 : Int32) rfl
  generalize rwM u6 (r0 + 2) (va_cpy (u6 (r1 + 2)) (u6 (r0 + 2)) (0 : Int32).toNatClampNeg (0 : Int32).toNatClampNeg (64 : Int32).toNatClampNeg) = u7 at k7 v7 ⊢
  rw [ck_t (by decide), lt_eq]
  obtain ⟨k8, v8⟩ := cp_row u7 (q := r0 + 3) (p := r1 + 3) (N := 18) (18 : Int32) rfl
  generalize rwM u7 (r0 + 3) (va_cpy (u7 (r1 + 3)) (u7 (r0 + 3)) (0 : Int32).toNatClampNeg (0 : Int32).toNatClampNeg (18 : Int32).toNatClampNeg) = u8 at k8 v8 ⊢
  rw [ck_t (by decide), lt_eq]
  obtain ⟨k9, v9⟩ := cp_row u8 (q := r0 + 4) (p := r1 + 4) (N := 61) (61 : Int32) rfl
  generalize rwM u8 (r0 + 4) (va_cpy (u8 (r1 + 4)) (u8 (r0 + 4)) (0 : Int32).toNatClampNeg (0 : Int32).toNatClampNeg (61 : Int32).toNatClampNeg) = u9 at k9 v9 ⊢
  rw [ck_t (by decide), lt_eq]
  obtain ⟨k10, v10⟩ := cp_row u9 (q := r0 + 5) (p := r1 + 5) (N := 61) (61 : Int32) rfl
  generalize rwM u9 (r0 + 5) (va_cpy (u9 (r1 + 5)) (u9 (r0 + 5)) (0 : Int32).toNatClampNeg (0 : Int32).toNatClampNeg (61 : Int32).toNatClampNeg) = u10 at k10 v10 ⊢
  rw [ck_t (by decide), lt_eq]
  obtain ⟨k11, v11⟩ := cp_row u10 (q := r0 + 6) (p := r1 + 6) (N := 21) (21 : Int32) rfl
  generalize rwM u10 (r0 + 6) (va_cpy (u10 (r1 + 6)) (u10 (r0 + 6)) (0 : Int32).toNatClampNeg (0 : Int32).toNatClampNeg (21 : Int32).toNatClampNeg) = u11 at k11 v11 ⊢
  have far : ∀ k, (k < r0 ∨ r0 + 7 ≤ k) → u11 k = s k := fun k hk => by rw [k11 _ (by omega), k10 _ (by omega), k9 _ (by omega), k8 _ (by omega), k7 _ (by omega), k6 _ (by omega), k5 _ (by omega), k4 _ (by omega), k3 _ (by omega), k2 _ (by omega), k1 _ (by omega), k0 _ (by omega)]
  have src : ∀ k, r1 ≤ k → k < r1 + 38 → u11 k = s k := fun k h1 h2 => far k (by omega)
  obtain ⟨s', e1, e2, e3, e4⟩ := cp_slots hr n 0 u11 (by omega) (by omega) (fun i hi => by rw [src _ (by omega) (by omega)]; exact hz i hi) (fun a h => by rw [src _ (by omega) (by omega)]; exact ha a h)
  refine ⟨s', e1, fun k hk => ?_, fun j hj => ?_, fun j hj => ?_, fun j hj => ?_, fun j hj => ?_, fun j hj => ?_, fun j hj => ?_, fun j hj => ?_, fun i hi => ⟨fun j hj => ?_, fun j hj => ?_⟩, fun a h j hj => ?_⟩
  · rw [e2 k (by omega), far k (by omega)]
  · rw [e2 r0 (by omega), k11 r0 (by omega), k10 r0 (by omega), k9 r0 (by omega), k8 r0 (by omega), k7 r0 (by omega), k6 r0 (by omega)]
    rcases (show j = 0 ∨ j = 1 ∨ j = 2 ∨ j = 3 ∨ j = 4 ∨ j = 5 by omega) with rfl | rfl | rfl | rfl | rfl | rfl
    · rw [v5, if_neg (by decide), v4, if_neg (by decide), v3, if_neg (by decide), v2, if_neg (by decide), v1, if_neg (by decide), v0, if_pos rfl]
    · rw [v5, if_neg (by decide), v4, if_neg (by decide), v3, if_neg (by decide), v2, if_neg (by decide), v1, if_pos rfl, k0 r1 (by omega)]
    · rw [v5, if_neg (by decide), v4, if_neg (by decide), v3, if_neg (by decide), v2, if_pos rfl, k1 r1 (by omega), k0 r1 (by omega)]
    · rw [v5, if_neg (by decide), v4, if_neg (by decide), v3, if_pos rfl, k2 r1 (by omega), k1 r1 (by omega), k0 r1 (by omega)]
    · rw [v5, if_neg (by decide), v4, if_pos rfl, k3 r1 (by omega), k2 r1 (by omega), k1 r1 (by omega), k0 r1 (by omega)]
    · rw [v5, if_pos rfl, k4 r1 (by omega), k3 r1 (by omega), k2 r1 (by omega), k1 r1 (by omega), k0 r1 (by omega)]
  · rw [e2 (r0 + 1) (by omega), k11 (r0 + 1) (by omega), k10 (r0 + 1) (by omega), k9 (r0 + 1) (by omega), k8 (r0 + 1) (by omega), k7 (r0 + 1) (by omega), v6 j hj, k5 (r1 + 1) (by omega), k4 (r1 + 1) (by omega), k3 (r1 + 1) (by omega), k2 (r1 + 1) (by omega), k1 (r1 + 1) (by omega), k0 (r1 + 1) (by omega)]
  · rw [e2 (r0 + 2) (by omega), k11 (r0 + 2) (by omega), k10 (r0 + 2) (by omega), k9 (r0 + 2) (by omega), k8 (r0 + 2) (by omega), v7 j hj, k6 (r1 + 2) (by omega), k5 (r1 + 2) (by omega), k4 (r1 + 2) (by omega), k3 (r1 + 2) (by omega), k2 (r1 + 2) (by omega), k1 (r1 + 2) (by omega), k0 (r1 + 2) (by omega)]
  · rw [e2 (r0 + 3) (by omega), k11 (r0 + 3) (by omega), k10 (r0 + 3) (by omega), k9 (r0 + 3) (by omega), v8 j hj, k7 (r1 + 3) (by omega), k6 (r1 + 3) (by omega), k5 (r1 + 3) (by omega), k4 (r1 + 3) (by omega), k3 (r1 + 3) (by omega), k2 (r1 + 3) (by omega), k1 (r1 + 3) (by omega), k0 (r1 + 3) (by omega)]
  · rw [e2 (r0 + 4) (by omega), k11 (r0 + 4) (by omega), k10 (r0 + 4) (by omega), v9 j hj, k8 (r1 + 4) (by omega), k7 (r1 + 4) (by omega), k6 (r1 + 4) (by omega), k5 (r1 + 4) (by omega), k4 (r1 + 4) (by omega), k3 (r1 + 4) (by omega), k2 (r1 + 4) (by omega), k1 (r1 + 4) (by omega), k0 (r1 + 4) (by omega)]
  · rw [e2 (r0 + 5) (by omega), k11 (r0 + 5) (by omega), v10 j hj, k9 (r1 + 5) (by omega), k8 (r1 + 5) (by omega), k7 (r1 + 5) (by omega), k6 (r1 + 5) (by omega), k5 (r1 + 5) (by omega), k4 (r1 + 5) (by omega), k3 (r1 + 5) (by omega), k2 (r1 + 5) (by omega), k1 (r1 + 5) (by omega), k0 (r1 + 5) (by omega)]
  · rw [e2 (r0 + 6) (by omega), v11 j hj, k10 (r1 + 6) (by omega), k9 (r1 + 6) (by omega), k8 (r1 + 6) (by omega), k7 (r1 + 6) (by omega), k6 (r1 + 6) (by omega), k5 (r1 + 6) (by omega), k4 (r1 + 6) (by omega), k3 (r1 + 6) (by omega), k2 (r1 + 6) (by omega), k1 (r1 + 6) (by omega), k0 (r1 + 6) (by omega)]
  · rw [(e3 i (by omega) hi).1 j hj, src _ (by omega) (by omega)]
  · rw [(e3 i (by omega) hi).2 j hj, src _ (by omega) (by omega)]
  · rw [e4 a h j hj, src _ (by omega) (by omega)]
theorem StR.cpd {σ σ' : Mem} {r0 r1 : Nat} {ρ : Nat → Int32} (h : StR σ r1 ρ) (hw : (σ r1 5).toInt ≤ 6) (c : Cpd σ σ' r0 r1) : StR σ' r0 ρ := by
  obtain ⟨a1, a2, a3, a4, a5, a6, a7, a8, a9, a10, a11⟩ := h
  obtain ⟨-, c0, c1, c2, c3, c4, c5, c6, c7, c8⟩ := c
  refine ⟨fun j hj => by rw [c0 j hj]; exact a1 j hj, fun i hi => by rw [c1 i hi]; exact a2 i hi, fun i hi j hj => by rw [(c7 i hi).1 j hj]; exact a3 i hi j hj, fun i hi j hj => by rw [(c7 i hi).2 j hj]; exact a4 i hi j hj, fun j hj => ?_, fun j hj hj2 => ?_, fun a ha j hj => by rw [c8 a ha j (by omega)]; exact a7 a ha j hj, fun a ha hw9 => ?_, fun o ho => by rw [c4 o ho]; exact a9 o ho, fun o ho => by rw [c5 o ho]; exact a10 o ho, fun r hr i hi => by rw [c6 r hr]; exact a11 r hr i hi⟩
  · rw [c0 5 (by decide)] at hj
    rw [c3 j (by omega)]
    exact a5 j hj
  · rw [c0 2 (by decide)] at hj2
    rw [c2 j hj]
    exact a6 j hj hj2
  · rw [c8 a ha 4 (by decide)] at hw9
    rw [c8 a ha 5 (by decide), c8 a ha 6 (by decide)]
    exact a8 a ha hw9
theorem StI.cpd {σ σ' : Mem} {r0 r1 t : Nat} (h : StI σ r1 t) (hr : (r0 = 33 ∧ r1 = 71) ∨ (r0 = 71 ∧ r1 = 33)) (c : Cpd σ σ' r0 r1) : StI σ' r0 t := by
  obtain ⟨a1, a2, a3, a4, a5, a6, a7⟩ := h
  obtain ⟨cf, c0, c1, c2, c3, c4, c5, c6, c7, c8⟩ := c
  have e23 : σ' 23 = σ 23 := cf 23 (by omega)
  have e29 : σ' 29 = σ 29 := cf 29 (by omega)
  refine ⟨by rw [c0 5 (by decide)]; exact a1, by rw [c0 5 (by decide)]; exact a2, by rw [c0 2 (by decide)]; exact a3, by rw [c0 2 (by decide)]; exact a4, fun i hi => ?_, fun a ha => ?_, fun r hr => by rw [c6 r hr]; exact a7 r hr⟩
  · obtain ⟨b1, b2, b3, b4, b5, b6, b7⟩ := a5 i hi
    have q := (c7 i hi).1
    unfold SlotI
    rw [q 0 (by decide), q 1 (by decide), q 2 (by decide), q 3 (by decide), q 4 (by decide), q 5 (by decide), e23, e29]
    refine ⟨b1, b2, fun z => ?_, b4, b5, b6, b7⟩
    obtain ⟨z1, z2, z3, z4, z5, z6⟩ := b3 z
    refine ⟨z1, z2, z3, z4, z5, fun j hj => ?_⟩
    rw [show r0 + 9 + 2 * i + 1 = r0 + 10 + 2 * i by omega, (c7 i hi).2 j hj, show r1 + 10 + 2 * i = r1 + 9 + 2 * i + 1 by omega]
    exact z6 j hj
  · have q := c8 a ha
    have := a6 a ha
    unfold ActI at this ⊢
    rw [q 0 (by decide), q 1 (by decide), q 2 (by decide), q 3 (by decide), q 4 (by decide), q 5 (by decide), q 6 (by decide), e29]
    exact this
theorem StI.okS {σ : Mem} {b t : Nat} (h : StI σ b t) : ∀ i, i < 8 → okZ (σ (b + 9 + 2 * i) 4) ∧ okZ (σ (b + 9 + 2 * i) 5) := fun i hi => ⟨(h.2.2.2.2.1 i hi).1, (h.2.2.2.2.1 i hi).2.1⟩
theorem StI.okA {σ : Mem} {b t : Nat} (h : StI σ b t) : ∀ a, a < 13 → okZ (σ (b + 25 + a) 4) := fun a ha => (h.2.2.2.2.2.1 a ha).2.1
theorem keepM_lp : ∀ (m k : Nat) (s : Mem), k ≤ 781 → 781 < k + m → itr1 (b_X11_keep_7) m (nI k) s = some (1, stM (rwM s 16 (fun z => if k ≤ z ∧ z < 781 then s 15 z else s 16 z)) 0 29 1) := by
  intro m
  induction m with
  | zero => intro k s h1 h2; omega
  | succ m ih =>
    intro k s h1 h2
    show b_X11_keep_7 m (itr1 (b_X11_keep_7) m) (nI k) s = _
    generalize itr1 (b_X11_keep_7) m = g at ih ⊢
    unfold b_X11_keep_7
    rw [show (781 : Int32) = nI 781 from rfl]
    by_cases h : 781 ≤ k
    · rw [if_pos (nI_le h (by omega)), ck_t okZ1, lt_eq, ck_t okZ1]
      congr 2
      congr 1
      funext a b
      unfold rwM
      by_cases ha : a = 16
      · subst ha
        rw [if_pos rfl, if_neg (by omega)]
      · rw [if_neg ha]
    · rw [if_neg (nI_ge (a := k) (b := 781) (by omega) (by omega)), ck_t (inb_nI (by omega) (by decide)), ck_t (inb_nI (by omega) (by decide)), lt_eq, nI_clamp (by omega), lt_eq, show Int32.ofInt 1 = 1 from rfl, nI_1, ih (k + 1) _ (by omega) (by omega)]
      congr 2
      congr 1
      funext a b
      unfold rwM
      by_cases ha : a = 16
      · subst ha
        rw [if_pos rfl, if_pos rfl, stM_ne (show (15 : Nat) ≠ 16 by decide)]
        by_cases hb : b = k
        · subst hb
          rw [if_neg (by omega), if_pos (by omega), stM_hit]
        · rw [stM_far (Or.inr hb)]
          by_cases h3 : k ≤ b ∧ b < 781
          · rw [if_pos (by omega), if_pos h3]
          · rw [if_neg (by omega), if_neg h3]
      · rw [if_neg ha, if_neg ha, stM_far (Or.inl ha)]
theorem StR.eqr {σ : Mem} {b : Nat} {ρ ρ' : Nat → Int32} (h : StR σ b ρ) (hw : (σ b 5).toInt ≤ 6) (e : ∀ z, z < 781 → ρ' z = ρ z) : StR σ b ρ' := by
  obtain ⟨a1, a2, a3, a4, a5, a6, a7, a8, a9, a10, a11⟩ := h
  refine ⟨fun j hj => by rw [e _ (by omega)]; exact a1 j hj, fun i hi => by rw [e _ (by omega)]; exact a2 i hi, fun i hi j hj => by rw [e _ (by omega)]; exact a3 i hi j hj, fun i hi j hj => by rw [e _ (by omega)]; exact a4 i hi j hj, fun j hj => by rw [e _ (by omega)]; exact a5 j hj, fun j hj hj2 => by rw [e _ (by omega)]; exact a6 j hj hj2, fun a ha j hj => by rw [e _ (by omega)]; exact a7 a ha j hj, fun a ha hw9 => by rw [e _ (by omega), e _ (by omega)]; exact a8 a ha hw9, fun o ho => by rw [e _ (by omega)]; exact a9 o ho, fun o ho => by rw [e _ (by omega)]; exact a10 o ho, fun r hr i hi => by rw [e _ (by omega)]; exact a11 r hr i hi⟩
theorem sim_keep {t : Nat} {σ τ : Mem} (h : Rel t σ τ) {n : Nat} (hn : 10000 ≤ n) : Sim t (f_X10_keep n σ) (f_X11_keep n τ) := by
  obtain ⟨sR, sI⟩ := h.st
  obtain ⟨σ', e1, c⟩ := copy_eq (n := n) (r0 := 71) (r1 := 33) (by omega) (Or.inr ⟨rfl, rfl⟩) σ sI.okS sI.okA
  unfold f_X10_keep f_X11_keep
  rw [lt_eq, e1, bv_mk, ck_t okZ1, lt_eq, ck_t okZ1]
  show Sim t _ (itr1 (b_X11_keep_7) n (nI 0) (stM τ 0 0 0))
  rw [keepM_lp n 0 _ (by omega) (by omega)]
  refine ⟨_, _, _, rfl, rfl, ?_⟩
  obtain ⟨T, S, ⟨a1, a2⟩, ⟨a3, a4⟩, a5, -, -, a10, a11⟩ := id h
  have far : ∀ k, k < 71 ∨ 109 ≤ k → k ≠ 0 → stM σ' 0 8 1 k = σ k := fun k hk h0 => by rw [stM_ne h0, c.1 k (by omega)]
  have ag : ∀ lo hi, 0 < lo → (hi ≤ 71 ∨ 109 ≤ lo) → agr σ (stM σ' 0 8 1) lo hi := fun lo hi p q k h1 h2 => far k (by omega) (by omega)
  have tf : ∀ k, k ≠ 0 → k ≠ 16 → stM (rwM (stM τ 0 0 0) 16 (fun z => if 0 ≤ z ∧ z < 781 then stM τ 0 0 0 15 z else stM τ 0 0 0 16 z)) 0 29 1 k = τ k := fun k h0 h1 => by rw [stM_ne h0, rwM_ne h1, stM_ne h0]
  have t0 : ∀ j, j ≠ 0 → j ≠ 29 → stM (rwM (stM τ 0 0 0) 16 (fun z => if 0 ≤ z ∧ z < 781 then stM τ 0 0 0 15 z else stM τ 0 0 0 16 z)) 0 29 1 0 j = τ 0 j := fun j h0 h1 => by rw [stM_far (Or.inr h1), rwM_ne (by decide), stM_far (Or.inr h0)]
  have r16 : ∀ z, z < 781 → stM (rwM (stM τ 0 0 0) 16 (fun z => if 0 ≤ z ∧ z < 781 then stM τ 0 0 0 15 z else stM τ 0 0 0 16 z)) 0 29 1 16 z = τ 15 z := fun z hz => by rw [stM_ne (by decide), rwM_row, if_pos (by omega), stM_ne (by decide)]
  refine ⟨T, S, ⟨a1.agr (ag 2 4 (by omega) (by omega)) (tf 1 (by decide) (by decide)), by rw [t0 2 (by decide) (by decide)]; exact a2⟩, ⟨a3.agr (ag 17 19 (by omega) (by omega)) (tf 2 (by decide) (by decide)), by rw [t0 4 (by decide) (by decide)]; exact a4⟩, a5.agr (ag 19 30 (by omega) (by omega)) (ag 110 116 (by omega) (by omega)) (fun k h1 h2 => tf k (by omega) (by omega)) (fun j h1 h2 => t0 j (by omega) (by omega)), ⟨?_, (sI.agr (ag 33 71 (by omega) (by omega)) (ag 23 30 (by omega) (by omega))).up⟩, ⟨by rw [stM_hit, stM_hit], by rw [stM_hit]; exact okZ1, fun _ => ⟨?_, ?_⟩⟩, ?_, ?_⟩
  · rw [tf 15 (by decide) (by decide)]
    exact sR.agr (ag 33 71 (by omega) (by omega))
  · refine StR.eqr ((sR.cpd sI.2.1 c).agr (agr_st (Or.inl (by omega)))) ?_ r16
    rw [stM_far (Or.inl (by decide)), c.2.1 5 (by decide)]
    exact sI.2.1
  · exact ((sI.cpd (Or.inr ⟨rfl, rfl⟩) c).agr (agr_st (Or.inl (by omega))) (agr_st (Or.inl (by omega)))).up
  · rw [far 31 (by omega) (by decide), t0 25 (by decide) (by decide)]
    exact a10
  · rw [far 31 (by omega) (by decide), t0 26 (by decide) (by decide)]
    exact a11
theorem backM_lp : ∀ (m k : Nat) (s : Mem), k ≤ 781 → 781 < k + m → s 0 29 = 1 → itr1 (b_X11_back_7) m (nI k) s = some (1, rwM s 15 (fun z => if k ≤ z ∧ z < 781 then s 16 z else s 15 z)) := by
  intro m
  induction m with
  | zero => intro k s h1 h2; omega
  | succ m ih =>
    intro k s h1 h2 hs
    show b_X11_back_7 m (itr1 (b_X11_back_7) m) (nI k) s = _
    generalize itr1 (b_X11_back_7) m = g at ih ⊢
    unfold b_X11_back_7 b_X11_back_39
    rw [show (781 : Int32) = nI 781 from rfl]
    by_cases h : 781 ≤ k
    · rw [if_pos (nI_le h (by omega)), hs, ck_t okZ1]
      congr 2
      funext a b
      unfold rwM
      by_cases ha : a = 15
      · subst ha
        rw [if_pos rfl, if_neg (by omega)]
      · rw [if_neg ha]
    · rw [if_neg (nI_ge (a := k) (b := 781) (by omega) (by omega)), if_neg (by rw [hs]; decide), ck_t (inb_nI (by omega) (by decide)), ck_t (inb_nI (by omega) (by decide)), lt_eq, nI_clamp (by omega), lt_eq, show Int32.ofInt 1 = 1 from rfl, nI_1, ih (k + 1) _ (by omega) (by omega) (by rw [stM_far (Or.inl (by decide))]; exact hs)]
      congr 2
      funext a b
      unfold rwM
      by_cases ha : a = 15
      · subst ha
        rw [if_pos rfl, if_pos rfl, stM_ne (show (16 : Nat) ≠ 15 by decide)]
        by_cases hb : b = k
        · subst hb
          rw [if_neg (by omega), if_pos (by omega), stM_hit]
        · rw [stM_far (Or.inr hb)]
          by_cases h3 : k ≤ b ∧ b < 781
          · rw [if_pos (by omega), if_pos h3]
          · rw [if_neg (by omega), if_neg h3]
      · rw [if_neg ha, if_neg ha, stM_far (Or.inl ha)]
theorem sim_back {t : Nat} {σ τ : Mem} (h : Rel t σ τ) {n : Nat} (hn : 10000 ≤ n) : Sim t (f_X10_back n σ) (f_X11_back n τ) := by
  obtain ⟨T, S, ⟨a1, a2⟩, ⟨a3, a4⟩, a5, -, ⟨a7, a8, a9⟩, a10, a11⟩ := id h
  unfold f_X10_back f_X11_back b_X10_back_18
  rw [lt_eq]
  rcases a8 with e | e
  · rw [if_pos e, e, ck_t okZ0]
    have e2 : stM τ 0 0 0 0 29 = 0 := by rw [stM_far (Or.inr (by decide)), ← a7, e]
    obtain ⟨m, rfl⟩ : ∃ m, n = m + 1 := ⟨n - 1, by omega⟩
    show Sim t _ (b_X11_back_7 m (itr1 (b_X11_back_7) m) 0 (stM τ 0 0 0))
    unfold b_X11_back_7 b_X11_back_39
    rw [if_neg (show ¬ (781 : Int32) ≤ 0 by decide), if_pos e2, e2, ck_t okZ0]
    exact ⟨_, _, _, rfl, rfl, h.th 0⟩
  · obtain ⟨sR, sI⟩ := a9 e
    rw [if_neg (by rw [e]; decide)]
    obtain ⟨σ', e1, c⟩ := copy_eq (n := n) (r0 := 33) (r1 := 71) (by omega) (Or.inl ⟨rfl, rfl⟩) σ sI.okS sI.okA
    have e8 : σ' 0 8 = 1 := by rw [c.1 0 (by omega)]; exact e
    rw [e1, bv_mk, e8, ck_t okZ1]
    show Sim t _ (itr1 (b_X11_back_7) n (nI 0) (stM τ 0 0 0))
    rw [backM_lp n 0 _ (by omega) (by omega) (by rw [stM_far (Or.inr (by decide)), ← a7, e])]
    refine ⟨_, _, _, rfl, rfl, ?_⟩
    have ag : ∀ lo hi, (hi ≤ 33 ∨ 71 ≤ lo) → agr σ σ' lo hi := fun lo hi q k h1 h2 => c.1 k (by omega)
    have tf : ∀ k, k ≠ 0 → k ≠ 15 → rwM (stM τ 0 0 0) 15 (fun z => if 0 ≤ z ∧ z < 781 then stM τ 0 0 0 16 z else stM τ 0 0 0 15 z) k = τ k := fun k h0 h1 => by rw [rwM_ne h1, stM_ne h0]
    have t0 : ∀ j, j ≠ 0 → rwM (stM τ 0 0 0) 15 (fun z => if 0 ≤ z ∧ z < 781 then stM τ 0 0 0 16 z else stM τ 0 0 0 15 z) 0 j = τ 0 j := fun j h0 => by rw [rwM_ne (by decide), stM_far (Or.inr h0)]
    have r15 : ∀ z, z < 781 → rwM (stM τ 0 0 0) 15 (fun z => if 0 ≤ z ∧ z < 781 then stM τ 0 0 0 16 z else stM τ 0 0 0 15 z) 15 z = τ 16 z := fun z hz => by rw [rwM_row, if_pos (by omega), stM_ne (by decide)]
    refine ⟨T, S, ⟨a1.agr (ag 2 4 (by omega)) (tf 1 (by decide) (by decide)), by rw [t0 2 (by decide)]; exact a2⟩, ⟨a3.agr (ag 17 19 (by omega)) (tf 2 (by decide) (by decide)), by rw [t0 4 (by decide)]; exact a4⟩, a5.agr (ag 19 30 (by omega)) (ag 110 116 (by omega)) (fun k h1 h2 => tf k (by omega) (by omega)) (fun j h1 h2 => t0 j (by omega)), ⟨?_, (sI.cpd (Or.inl ⟨rfl, rfl⟩) c).up⟩, ⟨by rw [e8, t0 29 (by decide), ← a7, e], by rw [e8]; exact okZ1, fun _ => ⟨?_, ?_⟩⟩, ?_, ?_⟩
    · refine StR.eqr (sR.cpd sI.2.1 c) ?_ r15
      rw [c.2.1 5 (by decide)]
      exact sI.2.1
    · rw [tf 16 (by decide) (by decide)]
      exact sR.agr (ag 71 109 (by omega))
    · exact (sI.agr (ag 71 109 (by omega)) (ag 23 30 (by omega))).up
    · rw [c.1 31 (by omega), t0 25 (by decide)]
      exact a10
    · rw [c.1 31 (by omega), t0 26 (by decide)]
      exact a11
