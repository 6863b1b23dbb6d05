/-! ===== an order is read: its values ===== -/
def nvT : Nat → Nat := fun j => ([0, 0, 0, 1, 1, 1, 1, 1, 2, 2, 1, 1, 1, 4, 3, 1, 2, 2, 2, 3, 1, 3, 1, 1, 1, 1, 1, 1, 1, 1, 1, 2, 1, 1] : List Nat).getD j 0
theorem nvT_eq : ∀ o, o < 34 → tbV o = nI (nvT o) := by decide
theorem nvT_le : ∀ o, o < 34 → nvT o ≤ 4 := by decide
theorem nvC {i c p0 L S : Nat} {σ0 τ0 : Mem} (X : RX i c p0 L S σ0 τ0) {o : Nat} (ho : o < 34) : ∀ (d k m : Nat) (σ : Mem), k + d = nvT o → d < m → BC i L σ0 σ → ∃ σ', itr3 b_X5_readOrder_42 m (42 + 2 * i) (nI o) (nI k) σ = some (-1, σ') ∧ BC i L σ0 σ' := by
  have n4 := nvT_le o ho
  have hi := X.1.1
  intro d
  induction d with
  | zero =>
    intro k m σ hk hm h
    obtain ⟨m, rfl⟩ : ∃ m', m = m' + 1 := ⟨m - 1, by omega⟩
    show ∃ σ', b_X5_readOrder_42 m (itr3 b_X5_readOrder_42 m) _ _ _ σ = _ ∧ _
    generalize itr3 b_X5_readOrder_42 m = g
    unfold b_X5_readOrder_42 b_X5_readOrder_85 b_X5_readOrder_97
    rw [ck_t (inb_nI ho (by decide)), nI_clamp (by omega), nvT_eq o ho, if_pos (nI_le (by omega) (by omega)), ck_t (inb_nI ho (by decide))]
    by_cases j : tbJ o = 0
    · rw [if_pos j, if_neg (by rw [h.2]; decide)]
      exact ⟨_, rfl, h⟩
    · obtain ⟨x, s1, e1, r1, k1⟩ := jmpC X m h.1
      rw [if_neg j, e1, bd_mk, lt_eq, if_neg (by rw [stM_far (Or.inr (by decide)), k1 h.2]; decide)]
      exact ⟨_, rfl, r1.w118 hi (by decide), by rw [stM_far (Or.inr (by decide))]; exact k1 h.2⟩
  | succ d ih =>
    intro k m σ hk hm h
    obtain ⟨m, rfl⟩ : ∃ m', m = m' + 1 := ⟨m - 1, by omega⟩
    have ihm := fun σ a => ih (k + 1) m σ (by omega) (by omega) a
    show ∃ σ', b_X5_readOrder_42 m (itr3 b_X5_readOrder_42 m) _ _ _ σ = _ ∧ _
    generalize itr3 b_X5_readOrder_42 m = g at ihm ⊢
    unfold b_X5_readOrder_42
    obtain ⟨x, s1, e1, r1, k1⟩ := valC X m h.1
    rw [ck_t (inb_nI ho (by decide)), nI_clamp (by omega), nvT_eq o ho, if_neg (nI_ge (by omega) (by omega)), e1, bd_mk, ck_t (inb_nI (show k < 4 by omega) (by decide)), nI_clamp (by omega), lt_eq, lt_eq, show nI k + Int32.ofInt 1 = nI (k + 1) from nI_1 k]
    exact ihm _ ⟨r1.w119 hi, by rw [stM_ne (by decide)]; exact k1 h.2⟩
theorem nvM {i c p0 L S : Nat} {σ0 τ0 : Mem} (X : RX i c p0 L S σ0 τ0) {o : Nat} (ho : o < 34) : ∀ (d k m : Nat) (τ : Mem), k + d = nvT o → d < m → BM τ0 τ → ∃ τ', itr3 b_X11_reads_19 m (tbV o) (tbJ o) (nI k) τ = some τ' ∧ BM τ0 τ' := by
  have n4 := nvT_le o ho
  have hi := X.1.1
  intro d
  induction d with
  | zero =>
    intro k m τ hk hm h
    obtain ⟨m, rfl⟩ : ∃ m', m = m' + 1 := ⟨m - 1, by omega⟩
    show ∃ τ', b_X11_reads_19 m (itr3 b_X11_reads_19 m) _ _ _ τ = _ ∧ _
    generalize itr3 b_X11_reads_19 m = g
    unfold b_X11_reads_19 b_X11_reads_55
    rw [nvT_eq o ho, if_pos (nI_le (by omega) (by omega))]
    by_cases j : tbJ o = 0
    · rw [if_pos j, lt_eq]
      exact ⟨_, rfl, h.1.w0 (by decide), by rw [stM_far (Or.inr (by decide))]; exact h.2⟩
    · obtain ⟨x, s1, e1, r1, k1⟩ := jmpM X m h
      rw [if_neg j, e1, bd_mk, lt_eq]
      exact ⟨_, rfl, r1.w0 (by decide), by rw [stM_far (Or.inr (by decide))]; exact k1⟩
  | succ d ih =>
    intro k m τ hk hm h
    obtain ⟨m, rfl⟩ : ∃ m', m = m' + 1 := ⟨m - 1, by omega⟩
    have ihm := fun τ a => ih (k + 1) m τ (by omega) (by omega) a
    show ∃ τ', b_X11_reads_19 m (itr3 b_X11_reads_19 m) _ _ _ τ = _ ∧ _
    generalize itr3 b_X11_reads_19 m = g at ihm ⊢
    unfold b_X11_reads_19
    obtain ⟨x, s1, e1, r1, k1⟩ := valM X m h
    rw [if_neg (by rw [nvT_eq o ho]; exact nI_ge (by omega) (by omega)), e1, bd_mk, ck_t (inb_nI (show k < 4 by omega) (by decide)), nI_clamp (by omega), lt_eq, lt_eq, show nI k + Int32.ofInt 1 = nI (k + 1) from nI_1 k]
    exact ihm _ ⟨r1.w18, by rw [stM_ne (by decide)]; exact k1⟩
/-- what stands after a good read of order o -/
def RG (i L o : Nat) (σ τ : Mem) : Prop := (∀ j, j < nvT o → σ 119 j = τ 18 j) ∧ (tbT o ≠ 0 → ∃ w, w < 68 ∧ σ 118 5 = nI w ∧ τ 0 38 = nI (gadr i w)) ∧ (tbJ o ≠ 0 → ∃ t, t < L ∧ σ 118 6 = nI t ∧ τ 0 39 = nI t)
theorem RO.w118 {i L p j : Nat} {σ0 τ0 σ τ : Mem} {v : Int32} (hi : i < 8) (h : RO i L σ0 τ0 p σ τ) (hj : j < 7) : RO i L σ0 τ0 p (stM σ 118 j v) τ := by
  obtain ⟨h1, h2, h3, h4, h5, h6, h7⟩ := h
  exact ⟨h1.w118 hi (by omega), h2, h3, by rw [stM_ne (by omega)]; exact h4, h5, by rw [stM_far (Or.inr (by omega))]; exact h6, h7⟩
theorem RO.w119 {i L p j : Nat} {σ0 τ0 σ τ : Mem} {v : Int32} (hi : i < 8) (h : RO i L σ0 τ0 p σ τ) : RO i L σ0 τ0 p (stM σ 119 j v) τ := by
  obtain ⟨h1, h2, h3, h4, h5, h6, h7⟩ := h
  exact ⟨h1.w119 hi, h2, h3, by rw [stM_ne (by omega)]; exact h4, h5, by rw [stM_ne (by decide)]; exact h6, h7⟩
theorem RO.w0 {i L p j : Nat} {σ0 τ0 σ τ : Mem} {v : Int32} (h : RO i L σ0 τ0 p σ τ) (hj : 37 ≤ j) : RO i L σ0 τ0 p σ (stM τ 0 j v) := by
  obtain ⟨h1, h2, h3, h4, h5, h6, h7⟩ := h
  exact ⟨h1, h2.w0 (by omega), h3, h4, by rw [stM_far (Or.inr (by omega))]; exact h5, h6, by rw [stM_far (Or.inr (by omega))]; exact h7⟩
theorem RO.w18 {i L p j : Nat} {σ0 τ0 σ τ : Mem} {v : Int32} (h : RO i L σ0 τ0 p σ τ) : RO i L σ0 τ0 p σ (stM τ 18 j v) := by
  obtain ⟨h1, h2, h3, h4, h5, h6, h7⟩ := h
  exact ⟨h1, h2.w18, h3, h4, by rw [stM_ne (by decide)]; exact h5, h6, by rw [stM_ne (by decide)]; exact h7⟩
theorem nv2 {i c p0 L S : Nat} {σ0 τ0 : Mem} (X : RX i c p0 L S σ0 τ0) {o : Nat} (ho : o < 34) : ∀ (d k m1 m2 : Nat) (σ τ : Mem) (p : Nat), k + d = nvT o → d < m1 → d < m2 → RO i L σ0 τ0 p σ τ → (∀ j, j < k → σ 119 j = τ 18 j) → (tbT o ≠ 0 → ∃ w, w < 68 ∧ σ 118 5 = nI w ∧ τ 0 38 = nI (gadr i w)) → (∃ σ' τ' p', itr3 b_X5_readOrder_42 m1 (42 + 2 * i) (nI o) (nI k) σ = some (nI o, σ') ∧ itr3 b_X11_reads_19 m2 (tbV o) (tbJ o) (nI k) τ = some τ' ∧ RO i L σ0 τ0 p' σ' τ' ∧ RG i L o σ' τ') ∨ ∃ σ' τ', itr3 b_X5_readOrder_42 m1 (42 + 2 * i) (nI o) (nI k) σ = some (-1, σ') ∧ itr3 b_X11_reads_19 m2 (tbV o) (tbJ o) (nI k) τ = some τ' ∧ BC i L σ0 σ' ∧ BM τ0 τ' := by
  have n4 := nvT_le o ho
  have hi := X.1.1
  intro d
  induction d with
  | zero =>
    intro k m1 m2 σ τ p hk hm1 hm2 h hv ht
    obtain ⟨m1, rfl⟩ : ∃ m', m1 = m' + 1 := ⟨m1 - 1, by omega⟩
    obtain ⟨m2, rfl⟩ : ∃ m', m2 = m' + 1 := ⟨m2 - 1, by omega⟩
    have C : itr3 b_X5_readOrder_42 (m1 + 1) (42 + 2 * i) (nI o) (nI k) σ = if tbJ o = 0 then (b_X5_readOrder_85 m1 (nI o) σ) else (bd (f_X5_readJump m1 (42 + 2 * i) σ) (fun x4 s3 => b_X5_readOrder_85 m1 (nI o) (stM s3 118 6 x4))) := by
      show b_X5_readOrder_42 m1 (itr3 b_X5_readOrder_42 m1) _ _ _ σ = _
      generalize itr3 b_X5_readOrder_42 m1 = g
      unfold b_X5_readOrder_42
      rw [ck_t (inb_nI ho (by decide)), nI_clamp (by omega), nvT_eq o ho, if_pos (nI_le (by omega) (by omega)), ck_t (inb_nI ho (by decide))]
      rfl
    have M : itr3 b_X11_reads_19 (m2 + 1) (tbV o) (tbJ o) (nI k) τ = if tbJ o = 0 then some (stM τ 0 39 0) else bd (f_X11_jump m2 τ) (fun x2 s1 => some (stM s1 0 39 x2)) := by
      show b_X11_reads_19 m2 (itr3 b_X11_reads_19 m2) _ _ _ τ = _
      generalize itr3 b_X11_reads_19 m2 = g
      unfold b_X11_reads_19 b_X11_reads_55
      rw [nvT_eq o ho, if_pos (nI_le (by omega) (by omega))]
      rfl
    rw [C, M]
    unfold b_X5_readOrder_85 b_X5_readOrder_97
    by_cases j : tbJ o = 0
    · rw [if_pos j, if_pos j, if_pos h.2.2.2.2.2.1]
      refine Or.inl ⟨_, _, p, rfl, rfl, h.w0 (by decide), fun j hj => ?_, fun q => ?_, fun q => absurd j q⟩
      · rw [stM_ne (by decide)]; exact hv j (by omega)
      · rw [stM_far (Or.inr (by decide))]; exact ht q
    · rw [if_neg j, if_neg j]
      rcases jmp2 X m1 m2 h with ⟨x, y, p', e1, e2, ⟨w, hw, ex, ey⟩, h'⟩ | ⟨x, y, σ', τ', e1, e2, b1, b2⟩
      · have hA := (h'.w118 (j := 6) (v := x) hi (by decide)).w0 (j := 39) (v := y) (by decide)
        rw [e1, bd_mk, e2, bd_mk, if_pos hA.2.2.2.2.2.1]
        refine Or.inl ⟨_, _, p', rfl, rfl, hA, fun j hj => ?_, fun q => ?_, fun q => ⟨w, hw, by rw [stM_hit]; exact ex, by rw [stM_hit]; exact ey⟩⟩
        · rw [stM_ne (by decide), stM_ne (by omega), stM_ne (by decide), stM_ne (by decide)]; exact hv j (by omega)
        · rw [stM_far (Or.inr (by decide)), stM_ne (by omega), stM_far (Or.inr (by decide)), stM_far (Or.inr (by decide))]; exact ht q
      · rw [e1, bd_mk, e2, bd_mk, if_neg (by rw [stM_far (Or.inr (by decide)), b1.2]; decide)]
        exact Or.inr ⟨_, _, rfl, rfl, ⟨b1.1.w118 hi (by decide), by rw [stM_far (Or.inr (by decide))]; exact b1.2⟩, ⟨b2.1.w0 (by decide), by rw [stM_far (Or.inr (by decide))]; exact b2.2⟩⟩
  | succ d ih =>
    intro k m1 m2 σ τ p hk hm1 hm2 h hv ht
    obtain ⟨m1, rfl⟩ : ∃ m', m1 = m' + 1 := ⟨m1 - 1, by omega⟩
    obtain ⟨m2, rfl⟩ : ∃ m', m2 = m' + 1 := ⟨m2 - 1, by omega⟩
    have C : itr3 b_X5_readOrder_42 (m1 + 1) (42 + 2 * i) (nI o) (nI k) σ = bd (f_X5_readValue m1 (42 + 2 * i) σ) (fun x7 s6 => itr3 b_X5_readOrder_42 m1 (42 + 2 * i) (nI o) (nI (k + 1)) (stM s6 119 k x7)) := by
      show b_X5_readOrder_42 m1 (itr3 b_X5_readOrder_42 m1) _ _ _ σ = _
      generalize itr3 b_X5_readOrder_42 m1 = g
      unfold b_X5_readOrder_42
      rw [ck_t (inb_nI ho (by decide)), nI_clamp (by omega), nvT_eq o ho, if_neg (nI_ge (by omega) (by omega)), nI_clamp (by omega)]
      congr 1
      funext x7 s6
      rw [ck_t (inb_nI (show k < 4 by omega) (by decide)), lt_eq, lt_eq, show nI k + Int32.ofInt 1 = nI (k + 1) from nI_1 k]
    have M : itr3 b_X11_reads_19 (m2 + 1) (tbV o) (tbJ o) (nI k) τ = bd (f_X11_value m2 τ) (fun x4 s3 => itr3 b_X11_reads_19 m2 (tbV o) (tbJ o) (nI (k + 1)) (stM s3 18 k x4)) := by
      show b_X11_reads_19 m2 (itr3 b_X11_reads_19 m2) _ _ _ τ = _
      generalize itr3 b_X11_reads_19 m2 = g
      unfold b_X11_reads_19
      rw [if_neg (by rw [nvT_eq o ho]; exact nI_ge (by omega) (by omega)), nI_clamp (by omega)]
      congr 1
      funext x7 s6
      rw [ck_t (inb_nI (show k < 4 by omega) (by decide)), lt_eq, lt_eq, show nI k + Int32.ofInt 1 = nI (k + 1) from nI_1 k]
    rw [C, M]
    rcases val2 X m1 m2 h with ⟨x, y, p', e1, e2, exy, h'⟩ | ⟨x, y, σ', τ', e1, e2, b1, b2⟩
    · rw [e1, bd_mk, e2, bd_mk]
      refine ih (k + 1) m1 m2 _ _ p' (by omega) (by omega) (by omega) ((h'.w119 hi).w18) (fun j hj => ?_) (fun q => ?_)
      · by_cases e : j = k
        · subst e; rw [stM_hit, stM_hit]; exact exy
        · rw [stM_far (Or.inr e), stM_far (Or.inr e), stM_ne (by omega), stM_ne (by decide)]; exact hv j (by omega)
      · rw [stM_ne (by decide), stM_ne (by omega), stM_ne (by decide), stM_far (Or.inr (by decide))]; exact ht q
    · rw [e1, bd_mk, e2, bd_mk]
      obtain ⟨s1, f1, g1⟩ := nvC X ho d (k + 1) m1 (stM σ' 119 k x) (by omega) (by omega) ⟨b1.1.w119 hi, by rw [stM_ne (by decide)]; exact b1.2⟩
      obtain ⟨s2, f2, g2⟩ := nvM X ho d (k + 1) m2 (stM τ' 18 k y) (by omega) (by omega) ⟨b2.1.w18, by rw [stM_ne (by decide)]; exact b2.2⟩
      exact Or.inr ⟨_, _, f1, f2, g1, g2⟩
