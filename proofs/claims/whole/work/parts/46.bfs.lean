/-! ===== breadth first ===== -/
def nxG (c : Nat) (O : Nat → Bool) (N : Nat → Nat → Bool) (g : Nat → Nat) (n j : Nat) : Nat :=
  if g j = 0 ∧ j < c ∧ O j = true ∧ (List.range c).any (fun b => g b == n && N b j) = true then n + 1 else g j
/-- the state as round m + 1 begins -/
def gN (c : Nat) (O : Nat → Bool) (N : Nat → Nat → Bool) (a : Nat) : Nat → Nat → Nat
  | 0 => fun j => if j = a then 1 else 0
  | m + 1 => nxG c O N (gN c O N a m) (m + 1)
theorem any_iff {c : Nat} {N : Nat → Nat → Bool} {g : Nat → Nat} {n j : Nat} : (List.range c).any (fun b => g b == n && N b j) = true ↔ ∃ b, b < c ∧ g b = n ∧ N b j = true := by
  rw [List.any_eq_true]
  constructor
  · rintro ⟨b, h1, h2⟩
    rw [Bool.and_eq_true] at h2
    exact ⟨b, List.mem_range.mp h1, eq_of_beq h2.1, h2.2⟩
  · rintro ⟨b, h1, h2, h3⟩
    exact ⟨b, List.mem_range.mpr h1, by rw [h2, h3]; simp⟩
theorem gN_keep {c : Nat} {O : Nat → Bool} {N : Nat → Nat → Bool} {a m j : Nat} (h : gN c O N a m j ≠ 0) : gN c O N a (m + 1) j = gN c O N a m j := by
  show nxG c O N (gN c O N a m) (m + 1) j = _
  unfold nxG
  rw [if_neg (fun q => h q.1)]
theorem gN_keeps {c : Nat} {O : Nat → Bool} {N : Nat → Nat → Bool} {a j : Nat} : ∀ (k m : Nat), gN c O N a m j ≠ 0 → gN c O N a (m + k) j = gN c O N a m j := by
  intro k
  induction k with
  | zero => intro m _; rfl
  | succ k ih =>
    intro m h
    have := ih m h
    rw [show m + (k + 1) = (m + k) + 1 by omega, gN_keep (by rw [this]; exact h), this]
theorem gN_new {c : Nat} {O : Nat → Bool} {N : Nat → Nat → Bool} {a m j : Nat} (h : gN c O N a (m + 1) j ≠ gN c O N a m j) : gN c O N a m j = 0 ∧ gN c O N a (m + 1) j = m + 2 ∧ j < c ∧ O j = true ∧ ∃ b, b < c ∧ gN c O N a m b = m + 1 ∧ N b j = true := by
  have e : gN c O N a (m + 1) j = nxG c O N (gN c O N a m) (m + 1) j := rfl
  unfold nxG at e
  by_cases q : gN c O N a m j = 0 ∧ j < c ∧ O j = true ∧ (List.range c).any (fun b => gN c O N a m b == (m + 1) && N b j) = true
  · rw [if_pos q] at e
    exact ⟨q.1, e, q.2.1, q.2.2.1, any_iff.mp q.2.2.2⟩
  · rw [if_neg q] at e
    exact absurd e h
theorem gN_le {c : Nat} {O : Nat → Bool} {N : Nat → Nat → Bool} {a : Nat} : ∀ (m j : Nat), gN c O N a m j ≤ m + 1 := by
  intro m
  induction m with
  | zero =>
    intro j
    show (if j = a then 1 else 0) ≤ 1
    by_cases h : j = a
    · rw [if_pos h]; exact Nat.le_refl _
    · rw [if_neg h]; omega
  | succ m ih =>
    intro j
    by_cases h : gN c O N a (m + 1) j = gN c O N a m j
    · rw [h]; have := ih j; omega
    · rw [(gN_new h).2.1]; omega
theorem gN_a {c : Nat} {O : Nat → Bool} {N : Nat → Nat → Bool} {a : Nat} (m : Nat) : gN c O N a m a = 1 := by
  have h : gN c O N a 0 a = 1 := if_pos rfl
  have := gN_keeps (c := c) (O := O) (N := N) (a := a) (j := a) m 0 (by rw [h]; decide)
  rw [Nat.zero_add] at this
  rw [this, h]
theorem gN_supp {c : Nat} {O : Nat → Bool} {N : Nat → Nat → Bool} {a : Nat} : ∀ (m j : Nat), gN c O N a m j ≠ 0 → j = a ∨ (j < c ∧ O j = true) := by
  intro m
  induction m with
  | zero =>
    intro j h
    by_cases e : j = a
    · exact Or.inl e
    · exact absurd (if_neg e) h
  | succ m ih =>
    intro j h
    by_cases e : gN c O N a (m + 1) j = gN c O N a m j
    · exact ih j (by rw [← e]; exact h)
    · exact Or.inr ⟨(gN_new e).2.2.1, (gN_new e).2.2.2.1⟩
theorem gN_pred {c : Nat} {O : Nat → Bool} {N : Nat → Nat → Bool} {a : Nat} : ∀ (m j k : Nat), gN c O N a m j = k + 2 → ∃ b, b < c ∧ gN c O N a m b = k + 1 ∧ N b j = true := by
  intro m
  induction m with
  | zero =>
    intro j k h
    have := gN_le (c := c) (O := O) (N := N) (a := a) 0 j
    omega
  | succ m ih =>
    intro j k h
    by_cases e : gN c O N a (m + 1) j = gN c O N a m j
    · obtain ⟨b, h1, h2, h3⟩ := ih j k (by rw [← e]; exact h)
      exact ⟨b, h1, by rw [gN_keep (by omega), h2], h3⟩
    · obtain ⟨-, h2, -, -, b, h5, h6, h7⟩ := gN_new e
      exact ⟨b, h5, by rw [gN_keep (by omega)]; omega, h7⟩
theorem gN_at {c : Nat} {O : Nat → Bool} {N : Nat → Nat → Bool} {a : Nat} : ∀ (m j k : Nat), k ≤ m → gN c O N a m j = k + 1 → gN c O N a k j = k + 1 := by
  intro m
  induction m with
  | zero =>
    intro j k hk h
    rw [show k = 0 by omega] at h ⊢
    exact h
  | succ m ih =>
    intro j k hk h
    by_cases hk2 : k = m + 1
    · rw [hk2] at h ⊢; exact h
    · by_cases e : gN c O N a (m + 1) j = gN c O N a m j
      · exact ih j k (by omega) (by rw [← e]; exact h)
      · have := (gN_new e).2.1
        omega
theorem gN_closed {c : Nat} {O : Nat → Bool} {N : Nat → Nat → Bool} {a M b j k : Nat} (hb : b < c) (hk : gN c O N a M b = k + 1) (hM : k < M) (hj : j < c) (hO : O j = true) (hN : N b j = true) : gN c O N a M j ≠ 0 := by
  have h1 := gN_at M b k (by omega) hk
  have h2 : gN c O N a (k + 1) j ≠ 0 := by
    by_cases e : gN c O N a k j = 0
    · have : gN c O N a (k + 1) j = nxG c O N (gN c O N a k) (k + 1) j := rfl
      rw [this]
      unfold nxG
      rw [if_pos ⟨e, hj, hO, any_iff.mpr ⟨b, hb, h1, hN⟩⟩]
      omega
    · rw [gN_keep e]; exact e
  have := gN_keeps (M - (k + 1)) (k + 1) h2
  rw [show k + 1 + (M - (k + 1)) = M by omega] at this
  rw [this]; exact h2
theorem gN_stop {c : Nat} {O : Nat → Bool} {N : Nat → Nat → Bool} {a m : Nat} (h : ∀ b, b < c → gN c O N a m b ≠ m + 1) : ∀ k, gN c O N a (m + k) = gN c O N a m := by
  intro k
  induction k with
  | zero => rfl
  | succ k ih =>
    funext j
    show gN c O N a ((m + k) + 1) j = _
    by_cases e : gN c O N a ((m + k) + 1) j = gN c O N a (m + k) j
    · rw [e, ih]
    · obtain ⟨-, -, -, -, b, hb, h2, -⟩ := gN_new e
      rw [ih] at h2
      have := gN_le (c := c) (O := O) (N := N) (a := a) m b
      exact absurd (by omega) (h b hb)
def cntG (g : Nat → Nat) : Nat → Nat
  | 0 => 0
  | k + 1 => cntG g k + (if g k = 0 then 0 else 1)
theorem cntG_le (g : Nat → Nat) : ∀ k, cntG g k ≤ k := by
  intro k
  induction k with
  | zero => exact Nat.le_refl _
  | succ k ih =>
    unfold cntG
    by_cases h : g k = 0
    · rw [if_pos h]; omega
    · rw [if_neg h]; omega
theorem cntG_mono {g g' : Nat → Nat} (hg : ∀ j, g j ≠ 0 → g' j ≠ 0) : ∀ k, cntG g k ≤ cntG g' k := by
  intro k
  induction k with
  | zero => exact Nat.le_refl _
  | succ k ih =>
    unfold cntG
    by_cases h : g k = 0
    · rw [if_pos h]
      by_cases h2 : g' k = 0
      · rw [if_pos h2]; exact ih
      · rw [if_neg h2]; omega
    · rw [if_neg h, if_neg (hg k h)]; omega
theorem cntG_lt {g g' : Nat → Nat} (hg : ∀ j, g j ≠ 0 → g' j ≠ 0) {i : Nat} (h0 : g i = 0) (h1 : g' i ≠ 0) : ∀ k, i < k → cntG g k + 1 ≤ cntG g' k := by
  intro k
  induction k with
  | zero => intro h; omega
  | succ k ih =>
    intro h
    unfold cntG
    by_cases e : i = k
    · subst e
      rw [if_pos h0, if_neg h1]
      have := cntG_mono hg i
      omega
    · have := ih (by omega)
      by_cases h2 : g k = 0
      · rw [if_pos h2]
        by_cases h3 : g' k = 0
        · rw [if_pos h3]; exact this
        · rw [if_neg h3]; omega
      · rw [if_neg h2, if_neg (hg k h2)]; omega
theorem gN_cnt {c : Nat} {O : Nat → Bool} {N : Nat → Nat → Bool} {a : Nat} (hc : c ≤ 16) (ha : a < 16) : ∀ (m j : Nat), gN c O N a m j = m + 1 → m + 1 ≤ cntG (gN c O N a m) 16 := by
  intro m
  induction m with
  | zero =>
    intro j _
    have := cntG_lt (g := fun _ => 0) (g' := gN c O N a 0) (fun _ q => absurd rfl q) (i := a) rfl (by rw [gN_a]; decide) 16 ha
    omega
  | succ m ih =>
    intro j h
    by_cases e : gN c O N a (m + 1) j = gN c O N a m j
    · have := gN_le (c := c) (O := O) (N := N) (a := a) m j
      omega
    · obtain ⟨h1, h2, h3, -, b, -, h6, -⟩ := gN_new e
      have g1 := ih b h6
      have g2 := cntG_lt (g := gN c O N a m) (g' := gN c O N a (m + 1)) (fun i q => by rw [gN_keep q]; exact q) h1 (by omega) 16 (by omega)
      omega
theorem gN_16 {c : Nat} {O : Nat → Bool} {N : Nat → Nat → Bool} {a : Nat} (hc : c ≤ 16) (ha : a < 16) (j : Nat) : gN c O N a 16 j ≤ 16 := by
  have h1 := gN_le (c := c) (O := O) (N := N) (a := a) 16 j
  by_cases e : gN c O N a 16 j = 17
  · have h2 := gN_cnt hc ha 16 j e
    have h3 := cntG_le (gN c O N a 16) 16
    omega
  · omega
/-- a way, box by box -/
def Rk (c : Nat) (O : Nat → Bool) (N : Nat → Nat → Bool) (a : Nat) : Nat → Nat → Prop
  | 0 => fun j => j = a
  | k + 1 => fun j => ∃ b, Rk c O N a k b ∧ j < c ∧ O j = true ∧ N b j = true
theorem Rk.tr {c : Nat} {O : Nat → Bool} {N : Nat → Nat → Bool} {a b k : Nat} (h : Rk c O N a k b) : ∀ (l d : Nat), Rk c O N b l d → Rk c O N a (k + l) d := by
  intro l
  induction l with
  | zero => intro d h2; rw [show d = b from h2]; exact h
  | succ l ih =>
    rintro d ⟨e, h1, h2, h3, h4⟩
    exact ⟨e, ih e h1, h2, h3, h4⟩
theorem Rk.ok {c : Nat} {O : Nat → Bool} {N : Nat → Nat → Bool} {a b k : Nat} (h : Rk c O N a k b) (ha : a < c) (hO : O a = true) : b < c ∧ O b = true := by
  cases k with
  | zero => rw [show b = a from h]; exact ⟨ha, hO⟩
  | succ k =>
    obtain ⟨e, -, h2, h3, -⟩ := h
    exact ⟨h2, h3⟩
theorem Rk.sy {c : Nat} {O : Nat → Bool} {N : Nat → Nat → Bool} (hN : ∀ i j, i < c → j < c → N i j = true → N j i = true) {a : Nat} (ha : a < c) (hO : O a = true) : ∀ (k b : Nat), Rk c O N a k b → ∃ l, Rk c O N b l a := by
  intro k
  induction k with
  | zero => intro b h; exact ⟨0, (show b = a from h).symm⟩
  | succ k ih =>
    rintro b ⟨e, h1, h2, h3, h4⟩
    have q := h1.ok ha hO
    obtain ⟨l, hl⟩ := ih e h1
    exact ⟨1 + l, Rk.tr (k := 1) (b := e) ⟨b, rfl, q.1, q.2, hN _ _ q.1 h2 h4⟩ l a hl⟩
theorem gN_rch {c : Nat} {O : Nat → Bool} {N : Nat → Nat → Bool} {a : Nat} : ∀ (m j : Nat), gN c O N a m j ≠ 0 → ∃ k, Rk c O N a k j := by
  intro m
  induction m with
  | zero =>
    intro j h
    by_cases e : j = a
    · exact ⟨0, e⟩
    · exact absurd (if_neg e) h
  | succ m ih =>
    intro j h
    by_cases e : gN c O N a (m + 1) j = gN c O N a m j
    · exact ih j (by rw [← e]; exact h)
    · obtain ⟨-, -, h3, h4, b, h5, h6, h7⟩ := gN_new e
      obtain ⟨k, hk⟩ := ih b (by omega)
      exact ⟨k + 1, b, hk, h3, h4, h7⟩
theorem rch_gN {c : Nat} {O : Nat → Bool} {N : Nat → Nat → Bool} {a : Nat} (hc : c ≤ 16) (ha : a < c) : ∀ (k j : Nat), Rk c O N a k j → gN c O N a 16 j ≠ 0 := by
  intro k
  induction k with
  | zero => intro j h; rw [show j = a from h, gN_a]; decide
  | succ k ih =>
    rintro j ⟨b, h1, hj, hO, hN⟩
    have h2 := ih b h1
    have h3 := gN_16 (O := O) (N := N) hc (show a < 16 by omega) b
    have hb : b < c := by
      rcases gN_supp 16 b h2 with e | e
      · omega
      · exact e.1
    obtain ⟨k, hk⟩ : ∃ k, gN c O N a 16 b = k + 1 := ⟨gN c O N a 16 b - 1, by omega⟩
    exact gN_closed hb hk (by omega) hj hO hN
theorem gN_sym {c : Nat} {O : Nat → Bool} {N : Nat → Nat → Bool} {a b : Nat} (hc : c ≤ 16) (hN : ∀ i j, i < c → j < c → N i j = true → N j i = true) (ha : a < c) (hO : O a = true) (h : gN c O N a 16 b ≠ 0) : b < c ∧ O b = true ∧ gN c O N b 16 a ≠ 0 := by
  obtain ⟨k, hk⟩ := gN_rch 16 b h
  have q := hk.ok ha hO
  obtain ⟨l, hl⟩ := hk.sy hN ha hO
  exact ⟨q.1, q.2, rch_gN hc q.1 l a hl⟩
