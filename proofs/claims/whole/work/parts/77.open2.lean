/-! ===== play: the stage is opened, on ===== -/
theorem actB {B : Nat → Nat} {T m a : Nat} {σ : Mem} (h : GI B T m σ) (ha : a < 13) : ∃ v : Nat → Nat, (∀ (s : Mem) (n w : Nat) (y : Int32), GI B T m s → w < 4 → y = nI w → f_X3_actorByte n 16 (nI a) y s = some (nI (v w), s)) ∧ (∀ p e, Blk B m 3 a p e → ∀ w, w < 4 → v w = B (p + 1 + w)) ∧ ((¬ ∃ p e, Blk B m 3 a p e) → ∀ w, v w = 0) ∧ v 0 ≤ 20 ∧ v 1 ≤ 255 ∧ v 2 ≤ 255 ∧ v 3 ≤ 8 := by
  by_cases q : ∃ p e, Blk B m 3 a p e
  · obtain ⟨p, e, hb⟩ := q
    obtain ⟨b1, b2, b3, b4, b5, b6⟩ := h.bk hb
    obtain ⟨c1, c2, c3⟩ := b6.2.2.2 rfl
    have T6 := h.2.2.2.1
    refine ⟨fun w => B (p + 1 + w), fun s n w y hs hw ey => ?_, fun p' e' hb' w hw => ?_, fun w => absurd ⟨p, e, hb⟩ w, c2, ?_, ?_, ?_⟩
    · subst ey
      unfold f_X3_actorByte b_X3_actorByte_35
      have ex : nI p + (1 : Int32) + nI w = nI (p + 1 + w) := by rw [nI_1, nI_add]
      rw [show f_X2_has n (16 + 12) (nI a) s = some (1, s) from hs.has n (K := 3) (by decide) hb, bd_mk, if_neg n10, ck_t (inb_nI ha (by decide)), nI_clamp (by omega), show s (16 + 13) a = nI p from ((hs.2.1 3 (by decide) a b2).1 p e hb).1, ex, show f_X8_at n (16 + 1) (nI (p + 1 + w)) s = _ from hs.at n (by omega), bd_mk]
    · obtain ⟨rfl, rfl⟩ := h.uq (by decide) hb hb'
      rfl
    · have := (h.2.2.2.2 (p + 1 + 1) (by omega)).2
      show B (p + 1 + 1) ≤ 255
      omega
    · have := (h.2.2.2.2 (p + 1 + 2) (by omega)).2
      show B (p + 1 + 2) ≤ 255
      omega
    · show B (p + 1 + 3) ≤ 8
      rw [show p + 1 + 3 = p + 4 by omega]
      exact c3
  · refine ⟨fun _ => 0, fun s n w y hs hw ey => ?_, fun p' e' hb' => absurd ⟨p', e', hb'⟩ q, fun _ _ => rfl, Nat.zero_le _, Nat.zero_le _, Nat.zero_le _, Nat.zero_le _⟩
    unfold f_X3_actorByte b_X3_actorByte_35
    rw [show f_X2_has n (16 + 12) (nI a) s = some (0, s) from hs.hasn n (K := 3) (by decide) (by show a ≤ 12; omega) q, bd_mk, if_pos rfl]
    rfl
def AR (B : Nat → Nat) (m a : Nat) (s : Mem) : Prop := (∃ v : Nat → Nat, (∀ w, w < 4 → s (58 + a) w = nI (v w)) ∧ (∀ p e, Blk B m 3 a p e → ∀ w, w < 4 → v w = B (p + 1 + w)) ∧ ((¬ ∃ p e, Blk B m 3 a p e) → ∀ w, v w = 0) ∧ v 0 ≤ 20 ∧ v 1 ≤ 255 ∧ v 2 ≤ 255 ∧ v 3 ≤ 8) ∧ s (58 + a) 4 = 0 ∧ s (58 + a) 5 = -1 ∧ s (58 + a) 6 = -1
theorem ac_lp {B : Nat → Nat} {T m : Nat} : ∀ (d a M : Nat) (s : Mem), a + d = 13 → d < M → GI B T m s → ∃ M' s1, M ≤ M' + d + 1 ∧ itr3 b_X7_open_97 M 33 16 (nI a) s = itr3 b_X7_open_153 M' 33 16 (nI 0) s1 ∧ (∀ z, z < 58 + a ∨ 71 ≤ z → s1 z = s z) ∧ ∀ a', a ≤ a' → a' < 13 → AR B m a' s1 := by
  intro d
  induction d with
  | zero =>
    intro a M s ha hM hg
    have e : a = 13 := by omega
    subst e
    obtain ⟨M, rfl⟩ : ∃ m', M = m' + 1 := ⟨M - 1, by omega⟩
    refine ⟨M, s, by omega, ?_, fun _ _ => rfl, fun a' h1 h2 => by omega⟩
    show b_X7_open_97 M (itr3 b_X7_open_97 M) _ _ _ s = _
    generalize itr3 b_X7_open_97 M = w
    unfold b_X7_open_97
    rw [if_pos (show (12 : Int32) < nI 13 by decide)]
    rfl
  | succ d ih =>
    intro a M s ha hM hg
    have ha13 : a < 13 := by omega
    obtain ⟨M, rfl⟩ : ∃ m', M = m' + 1 := ⟨M - 1, by omega⟩
    obtain ⟨v, v1, v2, v3, v4, v5, v6, v7⟩ := actB hg ha13
    have G : ∀ s1 : Mem, (∀ z, z < 58 → s1 z = s z) → GI B T m s1 := fun s1 h1 => hg.agr (fun z x y => h1 z (by omega))
    generalize hS : stM (stM (stM (stM (stM (stM (stM s (58 + a) 0 (nI (v 0))) (58 + a) 1 (nI (v 1))) (58 + a) 2 (nI (v 2))) (58 + a) 4 0) (58 + a) 5 (-1)) (58 + a) 6 (-1)) (58 + a) 3 (nI (v 3)) = S1
    have nS : ∀ z, z ≠ 58 + a → S1 z = s z := fun z hz => by
      rw [← hS, stM_ne hz, stM_ne hz, stM_ne hz, stM_ne hz, stM_ne hz, stM_ne hz, stM_ne hz]
    obtain ⟨M', s1, x1, x2, x3, x4⟩ := ih (a + 1) M S1 (by omega) (by omega) (G S1 (fun z hz => nS z (by omega)))
    refine ⟨M', s1, by omega, ?_, fun z hz => by rw [x3 z (by omega), nS z (by omega)], fun a' h1 h2 => ?_⟩
    · rw [← x2]
      show b_X7_open_97 M (itr3 b_X7_open_97 M) _ _ _ s = _
      generalize itr3 b_X7_open_97 M = w
      unfold b_X7_open_97 f_X0_putAt
      rw [if_neg (show ¬ (12 : Int32) < nI a from nI_nlt (a := 12) (b := a) (by omega) (by omega)), ck_t (inb_nI ha13 (by decide)), nI_clamp (by omega), lt_eq, v1 s M 0 0 hg (by omega) rfl, bd_mk, v1 s M 1 1 hg (by omega) rfl, bd_mk, v1 s M 2 2 hg (by omega) rfl, bd_mk, lt_eq, lt_eq, lt_eq, halt_eq, bv_mk, bv_mk, ck_t (inb_nI ha13 (by decide)), lt_eq, show 33 + 8 + 17 + a = 58 + a by omega, v1 _ M 3 3 (G _ (fun z hz => by rw [stM_ne (by omega), stM_ne (by omega), stM_ne (by omega), stM_ne (by omega), stM_ne (by omega), stM_ne (by omega)])) (by omega) rfl, bd_mk, lt_eq, lt_eq, show nI a + Int32.ofInt 1 = nI (a + 1) from nI_1 a, hS]
    · by_cases e : a' = a
      · subst e
        have E : ∀ j, S1 (58 + a') j = if j = 3 then nI (v 3) else if j = 6 then -1 else if j = 5 then -1 else if j = 4 then 0 else if j = 2 then nI (v 2) else if j = 1 then nI (v 1) else if j = 0 then nI (v 0) else s (58 + a') j := fun j => by
          rw [← hS]
          simp only [stM, if_pos]
        unfold AR
        rw [x3 (58 + a') (by omega)]
        refine ⟨⟨v, fun w hw => ?_, v2, v3, v4, v5, v6, v7⟩, by rw [E]; rfl, by rw [E]; rfl, by rw [E]; rfl⟩
        rw [E]
        rcases (show w = 0 ∨ w = 1 ∨ w = 2 ∨ w = 3 by omega) with rfl | rfl | rfl | rfl <;> rfl
      · exact x4 a' (by omega) h2
/-! states -/
def OR2 (B : Nat → Nat) (m o : Nat) (s : Mem) : Prop := (∀ p e, Blk B m 2 o p e → s 37 o = nI (B (p + 4))) ∧ ((¬ ∃ p e, Blk B m 2 o p e) → s 37 o = 0)
theorem stB {B : Nat → Nat} {T m o : Nat} {s : Mem} (n : Nat) (h : GI B T m s) (ho : o < 61) : ∃ x, f_X3_whereIs n 16 (nI o) (3 : Int32) s = some (x, s) ∧ (∀ p e, Blk B m 2 o p e → x = nI (B (p + 4))) ∧ ((¬ ∃ p e, Blk B m 2 o p e) → x = 0) := by
  by_cases q : ∃ p e, Blk B m 2 o p e
  · obtain ⟨p, e, hb⟩ := q
    obtain ⟨b1, b2, b3, b4, b5, b6⟩ := h.bk hb
    obtain ⟨c1, v, c2⟩ := b6.2.2.1 rfl
    refine ⟨nI (B (p + 4)), ?_, fun p' e' hb' => ?_, fun w => absurd ⟨p, e, hb⟩ w⟩
    · unfold f_X3_whereIs b_X3_whereIs_35
      have ex : nI p + (1 : Int32) + (3 : Int32) = nI (p + 4) := by
        show nI p + nI 1 + nI 3 = _
        rw [nI_add, nI_add]
      rw [show f_X2_has n (16 + 9) (nI o) s = some (1, s) from h.has n (K := 2) (by decide) hb, bd_mk, if_neg n10, ck_t (inb_nI ho (by decide)), nI_clamp (by omega), show s (16 + 10) o = nI p from ((h.2.1 2 (by decide) o b2).1 p e hb).1, ex, show f_X8_at n (16 + 1) (nI (p + 4)) s = _ from h.at n (by omega), bd_mk]
    · obtain ⟨rfl, rfl⟩ := h.uq (by decide) hb hb'
      rfl
  · refine ⟨0, ?_, fun p' e' hb' => absurd ⟨p', e', hb'⟩ q, fun _ => rfl⟩
    unfold f_X3_whereIs b_X3_whereIs_35
    rw [show f_X2_has n (16 + 9) (nI o) s = some (0, s) from h.hasn n (K := 2) (by decide) (by show o ≤ 60; omega) q, bd_mk, if_pos rfl]
theorem st_lp {B : Nat → Nat} {T m : Nat} : ∀ (d o M : Nat) (s : Mem), o + d = 61 → d < M → GI B T m s → ∃ M' s1, M ≤ M' + d + 1 ∧ itr3 b_X7_open_71 M 33 16 (nI o) s = itr3 b_X7_open_97 M' 33 16 (nI 0) s1 ∧ (∀ z, z ≠ 37 → s1 z = s z) ∧ (∀ j, j < o → s1 37 j = s 37 j) ∧ ∀ o', o ≤ o' → o' < 61 → OR2 B m o' s1 := by
  intro d
  induction d with
  | zero =>
    intro o M s ho hM hg
    have e : o = 61 := by omega
    subst e
    obtain ⟨M, rfl⟩ : ∃ m', M = m' + 1 := ⟨M - 1, by omega⟩
    refine ⟨M, s, by omega, ?_, fun _ _ => rfl, fun _ _ => rfl, fun a' h1 h2 => by omega⟩
    show b_X7_open_71 M (itr3 b_X7_open_71 M) _ _ _ s = _
    generalize itr3 b_X7_open_71 M = w
    unfold b_X7_open_71
    rw [if_pos (show (60 : Int32) < nI 61 by decide)]
    rfl
  | succ d ih =>
    intro o M s ho hM hg
    have ho61 : o < 61 := by omega
    obtain ⟨M, rfl⟩ : ∃ m', M = m' + 1 := ⟨M - 1, by omega⟩
    obtain ⟨x, v1, v2, v3⟩ := stB M hg ho61
    obtain ⟨M', s1, x1, x2, x3, x4, x5⟩ := ih (o + 1) M (stM s 37 o x) (by omega) (by omega) (hg.agr (fun z a b => stM_ne (by omega)))
    refine ⟨M', s1, by omega, ?_, fun z hz => by rw [x3 z hz, stM_ne hz], fun j hj => by rw [x4 j (by omega), stM_far (Or.inr (by omega))], fun o' h1 h2 => ?_⟩
    · rw [← x2]
      show b_X7_open_71 M (itr3 b_X7_open_71 M) _ _ _ s = _
      generalize itr3 b_X7_open_71 M = w
      unfold b_X7_open_71
      rw [if_neg (show ¬ (60 : Int32) < nI o from nI_nlt (a := 60) (b := o) (by omega) (by omega)), v1, bd_mk, ck_t (inb_nI ho61 (by decide)), nI_clamp (by omega), lt_eq, lt_eq, show nI o + Int32.ofInt 1 = nI (o + 1) from nI_1 o]
    · by_cases e : o' = o
      · subst e
        exact ⟨fun p e hb => by rw [x4 o' (by omega), stM_hit]; exact v2 p e hb, fun w => by rw [x4 o' (by omega), stM_hit]; exact v3 w⟩
      · exact x5 o' (by omega) h2
/-! slots -/
theorem rl_lp : ∀ (d i M : Nat) (s : Mem), i + d = 8 → d < M → ∃ M' s1, M ≤ M' + d + 1 ∧ itr3 b_X7_open_48 M 33 16 (nI i) s = itr3 b_X7_open_71 M' 33 16 (nI 0) s1 ∧ (∀ z, z < 42 + 2 * i ∨ 58 ≤ z → s1 z = s z) ∧ ∀ i', i ≤ i' → i' < 8 → (∀ j, j < 6 → s1 (42 + 2 * i') j = 0) ∧ ∀ j, j < 4 → s1 (43 + 2 * i') j = 0 := by
  intro d
  induction d with
  | zero =>
    intro i M s hi hM
    have e : i = 8 := by omega
    subst e
    obtain ⟨M, rfl⟩ : ∃ m', M = m' + 1 := ⟨M - 1, by omega⟩
    refine ⟨M, s, by omega, ?_, fun _ _ => rfl, fun i' h1 h2 => by omega⟩
    show b_X7_open_48 M (itr3 b_X7_open_48 M) _ _ _ s = _
    generalize itr3 b_X7_open_48 M = w
    unfold b_X7_open_48
    rw [if_pos (show (8 : Int32) ≤ nI 8 by decide)]
    rfl
  | succ d ih =>
    intro i M s hi hM
    have hi8 : i < 8 := by omega
    obtain ⟨M, rfl⟩ : ∃ m', M = m' + 1 := ⟨M - 1, by omega⟩
    obtain ⟨M', s1, x1, x2, x3, x4⟩ := ih (i + 1) M (relM s (42 + 2 * i)) (by omega) (by omega)
    refine ⟨M', s1, by omega, ?_, fun z hz => by rw [x3 z (by omega), relM_ne (by omega) (by omega)], fun i' h1 h2 => ?_⟩
    · rw [← x2]
      show b_X7_open_48 M (itr3 b_X7_open_48 M) _ _ _ s = _
      generalize itr3 b_X7_open_48 M = w
      unfold b_X7_open_48
      rw [if_neg (show ¬ (8 : Int32) ≤ nI i from nI_ge (a := i) (b := 8) hi8 (by omega)), ck_t (inb_nI hi8 (by decide)), nI_clamp (by omega), lt_eq, show 33 + 7 + 2 + 2 * i = 42 + 2 * i by omega, rel_eq, bv_mk, lt_eq, show nI i + Int32.ofInt 1 = nI (i + 1) from nI_1 i]
    · by_cases e : i' = i
      · subst e
        refine ⟨fun j hj => by rw [x3 _ (by omega)]; exact relM_0 j hj, fun j hj => ?_⟩
        rw [x3 _ (by omega), show 43 + 2 * i' = 42 + 2 * i' + 1 by omega]
        exact relM_1 j hj
      · exact x4 i' (by omega) h2
/-- the stage as it is at first -/
def ST0 (B : Nat → Nat) (m : Nat) (s : Mem) : Prop := (∀ j, j < 6 → s 33 j = if j = 1 then 1 else 0) ∧ (∀ j, j < 64 → s 34 j = 0) ∧ (∀ j, j < 61 → s 38 j = 0) ∧ (∀ i, i < 8 → (∀ j, j < 6 → s (42 + 2 * i) j = 0) ∧ ∀ j, j < 4 → s (43 + 2 * i) j = 0) ∧ (∀ o, o < 61 → OR2 B m o s) ∧ (∀ a, a < 13 → AR B m a s) ∧ ∀ r, r < 21 → SR B m r s
theorem open_eq {B : Nat → Nat} {T m n : Nat} {s : Mem} (hn : 1000 ≤ n) (hg : GI B T m s) : ∃ s', f_X7_open n 33 16 s = some s' ∧ (∀ z, z < 33 ∨ 71 ≤ z → s' z = s z) ∧ ST0 B m s' := by
  generalize hS : fillM (fillM (stM (stM (stM (stM (stM (stM s 33 0 0) 33 1 1) 33 2 0) 33 3 0) 33 4 0) 33 5 0) (33 + 1) 64 0) (33 + 5) 61 0 = s0
  have C : f_X7_open n 33 16 s = itr3 b_X7_open_48 n 33 16 (nI 0) s0 := by
    rw [← hS]
    rfl
  have n0 : ∀ z, z ≠ 33 → z ≠ 34 → z ≠ 38 → s0 z = s z := fun z a b c => by
    rw [← hS]
    unfold fillM
    rw [rwM_ne c, rwM_ne b, stM_ne a, stM_ne a, stM_ne a, stM_ne a, stM_ne a, stM_ne a]
  have e33 : ∀ j, j < 6 → s0 33 j = if j = 1 then 1 else 0 := fun j hj => by
    rw [← hS]
    unfold fillM
    rw [rwM_ne (by decide), rwM_ne (by decide)]
    rcases (show j = 0 ∨ j = 1 ∨ j = 2 ∨ j = 3 ∨ j = 4 ∨ j = 5 by omega) with rfl | rfl | rfl | rfl | rfl | rfl <;> simp [stM]
  have e34 : ∀ j, j < 64 → s0 34 j = 0 := fun j hj => by
    rw [← hS]
    unfold fillM
    rw [rwM_ne (by decide), rwM_row, if_pos hj]
  have e38 : ∀ j, j < 61 → s0 38 j = 0 := fun j hj => by
    rw [← hS]
    unfold fillM
    rw [rwM_row, if_pos hj]
  have hg0 : GI B T m s0 := hg.agr (fun z a b => n0 z (by omega) (by omega) (by omega))
  obtain ⟨M1, s1, a1, a2, a3, a4⟩ := rl_lp 8 0 n s0 (by omega) (by omega)
  have hg1 : GI B T m s1 := hg0.agr (fun z a b => a3 z (by omega))
  obtain ⟨M2, s2, b1, b2, b3, -, b4⟩ := st_lp 61 0 M1 s1 (by omega) (by omega) hg1
  have hg2 : GI B T m s2 := hg1.agr (fun z a b => b3 z (by omega))
  obtain ⟨M3, s3, c1, c2, c3, c4⟩ := ac_lp 13 0 M2 s2 (by omega) (by omega) hg2
  have hg3 : GI B T m s3 := hg2.agr (fun z a b => c3 z (by omega))
  obtain ⟨s4, d1, d2, -, d4⟩ := sh_lp 21 0 M3 s3 (by omega) (by omega) hg3
  refine ⟨s4, by rw [C, a2, b2, c2, d1], fun z hz => by rw [d2 z (by omega), c3 z (by omega), b3 z (by omega), a3 z (by omega), n0 z (by omega) (by omega) (by omega)], ?_, ?_, ?_, ?_, ?_, ?_, fun r hr => d4 r (by omega) hr⟩
  · intro j hj
    rw [d2 33 (by decide), c3 33 (by omega), b3 33 (by decide), a3 33 (by omega)]; exact e33 j hj
  · intro j hj
    rw [d2 34 (by decide), c3 34 (by omega), b3 34 (by decide), a3 34 (by omega)]; exact e34 j hj
  · intro j hj
    rw [d2 38 (by decide), c3 38 (by omega), b3 38 (by decide), a3 38 (by omega)]; exact e38 j hj
  · intro i hi
    rw [d2 (42 + 2 * i) (by omega), d2 (43 + 2 * i) (by omega), c3 (42 + 2 * i) (by omega), c3 (43 + 2 * i) (by omega), b3 (42 + 2 * i) (by omega), b3 (43 + 2 * i) (by omega)]
    exact a4 i (by omega) hi
  · intro o ho
    unfold OR2
    rw [d2 37 (by decide), c3 37 (by omega)]
    exact b4 o (by omega) ho
  · intro a ha
    unfold AR
    rw [d2 (58 + a) (by omega)]
    exact c4 a (by omega) ha
/-! the draft is taken over -/
theorem cpX (n : Nat) {K : Nat} (hK : K < 4) (s : Mem) : ∃ s', f_X2_copyFrom n (19 + 3 * K) (4 + 3 * K) s = some s' ∧ (∀ z, z ≠ 19 + 3 * K → z ≠ 20 + 3 * K → z ≠ 21 + 3 * K → s' z = s z) ∧ s' (19 + 3 * K) 2 = s (4 + 3 * K) 2 ∧ ∀ x, x ≤ mxK K → s' (20 + 3 * K) x = s (5 + 3 * K) x ∧ s' (21 + 3 * K) x = s (6 + 3 * K) x := by
  have L : lenC (19 + 3 * K + 1) = mxK K + 1 ∧ lenC (19 + 3 * K + 2) = mxK K + 1 ∧ lenC (4 + 3 * K + 1) = mxK K + 1 ∧ lenC (4 + 3 * K + 2) = mxK K + 1 := by
    rcases (show K = 0 ∨ K = 1 ∨ K = 2 ∨ K = 3 by omega) with rfl | rfl | rfl | rfl <;> decide
  obtain ⟨l1, l2, l3, l4⟩ := L
  have mk := mxK_le K hK
  have cpk : ∀ N, N ≤ 61 → cpOK (0 : Int32) (0 : Int32) (nI N) N N := fun N hN => ⟨by decide, by decide, nI_pos (by omega), by rw [cl0, nI_clamp (by omega)]; omega, by rw [cl0, nI_clamp (by omega)]; omega⟩
  unfold f_X2_copyFrom
  rw [l1, l2, l3, l4, lt_eq]
  simp only [ite_self]
  show ∃ s', ck (cpOK (0 : Int32) (0 : Int32) (nI (mxK K + 1)) (mxK K + 1) (mxK K + 1)) _ = _ ∧ _
  rw [ck_t (cpk _ (by omega)), lt_eq]
  show ∃ s', ck (cpOK (0 : Int32) (0 : Int32) (nI (mxK K + 1)) (mxK K + 1) (mxK K + 1)) _ = _ ∧ _
  rw [ck_t (cpk _ (by omega)), lt_eq, lt_eq]
  have R := fun (u : Mem) (q p : Nat) => cp_row u (q := q) (p := p) (N := mxK K + 1) (nI (mxK K + 1)) (nI_clamp (by omega))
  refine ⟨_, rfl, fun z h1 h2 h3 => ?_, ?_, fun x hx => ⟨?_, ?_⟩⟩
  · rw [stM_ne h1]
    refine ((R _ _ _).1 z (by omega)).trans ?_
    exact (R _ _ _).1 z (by omega)
  · rw [stM_hit]
    have e1 := (R (rwM s (19 + 3 * K + 1) (va_cpy (s (4 + 3 * K + 1)) (s (19 + 3 * K + 1)) (0 : Int32).toNatClampNeg (0 : Int32).toNatClampNeg (nI (mxK K + 1)).toNatClampNeg)) (19 + 3 * K + 2) (4 + 3 * K + 2)).1 (4 + 3 * K) (by omega)
    have e2 := (R s (19 + 3 * K + 1) (4 + 3 * K + 1)).1 (4 + 3 * K) (by omega)
    exact congrFun (e1.trans e2) 2
  · rw [stM_ne (by omega)]
    have e1 := (R (rwM s (19 + 3 * K + 1) (va_cpy (s (4 + 3 * K + 1)) (s (19 + 3 * K + 1)) (0 : Int32).toNatClampNeg (0 : Int32).toNatClampNeg (nI (mxK K + 1)).toNatClampNeg)) (19 + 3 * K + 2) (4 + 3 * K + 2)).1 (20 + 3 * K) (by omega)
    have e2 := (R s (19 + 3 * K + 1) (4 + 3 * K + 1)).2 x (by omega)
    rw [show 19 + 3 * K + 1 = 20 + 3 * K by omega, show 4 + 3 * K + 1 = 5 + 3 * K by omega] at e1 e2
    rw [show 19 + 3 * K + 1 = 20 + 3 * K by omega, show 4 + 3 * K + 1 = 5 + 3 * K by omega]
    exact (congrFun e1 x).trans e2
  · rw [stM_ne (by omega)]
    have e1 := (R (rwM s (19 + 3 * K + 1) (va_cpy (s (4 + 3 * K + 1)) (s (19 + 3 * K + 1)) (0 : Int32).toNatClampNeg (0 : Int32).toNatClampNeg (nI (mxK K + 1)).toNatClampNeg)) (19 + 3 * K + 2) (4 + 3 * K + 2)).2 x (by omega)
    have e2 := (R s (19 + 3 * K + 1) (4 + 3 * K + 1)).1 (4 + 3 * K + 2) (by omega)
    have e3 := e1.trans (congrFun e2 x)
    rw [show 21 + 3 * K = 19 + 3 * K + 2 by omega, show 6 + 3 * K = 4 + 3 * K + 2 by omega]
    exact e3
theorem cpP (n : Nat) (s : Mem) : ∃ s', f_X3_copyFrom n 16 1 s = some s' ∧ (∀ z, z < 17 ∨ 31 ≤ z → s' z = s z) ∧ (∀ j, j < 1500 → s' 18 j = s 3 j) ∧ s' 17 1 = s 2 1 ∧ ∀ K, K < 4 → s' (19 + 3 * K) 2 = s (4 + 3 * K) 2 ∧ ∀ x, x ≤ mxK K → s' (20 + 3 * K) x = s (5 + 3 * K) x ∧ s' (21 + 3 * K) x = s (6 + 3 * K) x := by
  have C8 : ∃ s0, f_X8_copyFrom n (16 + 1) (1 + 1) s = some s0 ∧ (∀ z, z ≠ 17 → z ≠ 18 → s0 z = s z) ∧ (∀ j, j < 1500 → s0 18 j = s 3 j) ∧ s0 17 1 = s 2 1 := by
    unfold f_X8_copyFrom
    rw [ck_t ⟨by decide, by decide, by decide, by decide, by decide⟩, lt_eq, lt_eq]
    have R := cp_row s (q := 18) (p := 3) (N := 1500) (1500 : Int32) (by decide)
    refine ⟨_, rfl, fun z h1 h2 => ?_, fun j hj => ?_, ?_⟩
    · rw [stM_ne h1]; exact R.1 z h2
    · rw [stM_ne (by decide)]; exact R.2 j hj
    · rw [stM_hit]
      exact congrFun (R.1 2 (by decide)) 1
  obtain ⟨s0, a1, a2, a3, a4⟩ := C8
  obtain ⟨s1, b1, b2, b3, b4⟩ := cpX n (K := 0) (by decide) s0
  obtain ⟨s2, c1, c2, c3, c4⟩ := cpX n (K := 1) (by decide) s1
  obtain ⟨s3, d1, d2, d3, d4⟩ := cpX n (K := 2) (by decide) s2
  obtain ⟨s4, e1, e2, e3, e4⟩ := cpX n (K := 3) (by decide) s3
  have Z0 : ∀ z, z < 17 → s0 z = s z := fun z hz => a2 z (by omega) (by omega)
  have Z1 : ∀ z, z < 19 → s1 z = s0 z := fun z hz => b2 z (by omega) (by omega) (by omega)
  have Z2 : ∀ z, z < 22 → s2 z = s1 z := fun z hz => c2 z (by omega) (by omega) (by omega)
  have Z3 : ∀ z, z < 25 → s3 z = s2 z := fun z hz => d2 z (by omega) (by omega) (by omega)
  have Z4 : ∀ z, z < 28 → s4 z = s3 z := fun z hz => e2 z (by omega) (by omega) (by omega)
  refine ⟨s4, ?_, fun z hz => ?_, fun j hj => ?_, ?_, fun K hK => ?_⟩
  · unfold f_X3_copyFrom
    rw [a1, bv_mk, show f_X2_copyFrom n (16 + 3) (1 + 3) s0 = some s1 from b1, bv_mk, show f_X2_copyFrom n (16 + 6) (1 + 6) s1 = some s2 from c1, bv_mk, show f_X2_copyFrom n (16 + 9) (1 + 9) s2 = some s3 from d1, bv_mk, show f_X2_copyFrom n (16 + 12) (1 + 12) s3 = some s4 from e1, bv_mk]
  · rw [e2 z (by omega) (by omega) (by omega), d2 z (by omega) (by omega) (by omega), c2 z (by omega) (by omega) (by omega), b2 z (by omega) (by omega) (by omega), a2 z (by omega) (by omega)]
  · rw [Z4 18 (by omega), Z3 18 (by omega), Z2 18 (by omega), Z1 18 (by omega)]; exact a3 j hj
  · rw [Z4 17 (by omega), Z3 17 (by omega), Z2 17 (by omega), Z1 17 (by omega)]; exact a4
  · rcases (show K = 0 ∨ K = 1 ∨ K = 2 ∨ K = 3 by omega) with rfl | rfl | rfl | rfl
    · refine ⟨?_, fun x hx => ?_⟩
      · rw [Z4 (19 + 3 * 0) (by omega), Z3 (19 + 3 * 0) (by omega), Z2 (19 + 3 * 0) (by omega), b3, Z0 (4 + 3 * 0) (by omega)]
      · rw [Z4 (20 + 3 * 0) (by omega), Z4 (21 + 3 * 0) (by omega), Z3 (20 + 3 * 0) (by omega), Z3 (21 + 3 * 0) (by omega), Z2 (20 + 3 * 0) (by omega), Z2 (21 + 3 * 0) (by omega), (b4 x hx).1, (b4 x hx).2, Z0 (5 + 3 * 0) (by omega), Z0 (6 + 3 * 0) (by omega)]
        exact ⟨rfl, rfl⟩
    · refine ⟨?_, fun x hx => ?_⟩
      · rw [Z4 (19 + 3 * 1) (by omega), Z3 (19 + 3 * 1) (by omega), c3, Z1 (4 + 3 * 1) (by omega), Z0 (4 + 3 * 1) (by omega)]
      · rw [Z4 (20 + 3 * 1) (by omega), Z4 (21 + 3 * 1) (by omega), Z3 (20 + 3 * 1) (by omega), Z3 (21 + 3 * 1) (by omega), (c4 x hx).1, (c4 x hx).2, Z1 (5 + 3 * 1) (by omega), Z1 (6 + 3 * 1) (by omega), Z0 (5 + 3 * 1) (by omega), Z0 (6 + 3 * 1) (by omega)]
        exact ⟨rfl, rfl⟩
    · refine ⟨?_, fun x hx => ?_⟩
      · rw [Z4 (19 + 3 * 2) (by omega), d3, Z2 (4 + 3 * 2) (by omega), Z1 (4 + 3 * 2) (by omega), Z0 (4 + 3 * 2) (by omega)]
      · rw [Z4 (20 + 3 * 2) (by omega), Z4 (21 + 3 * 2) (by omega), (d4 x hx).1, (d4 x hx).2, Z2 (5 + 3 * 2) (by omega), Z2 (6 + 3 * 2) (by omega), Z1 (5 + 3 * 2) (by omega), Z1 (6 + 3 * 2) (by omega), Z0 (5 + 3 * 2) (by omega), Z0 (6 + 3 * 2) (by omega)]
        exact ⟨rfl, rfl⟩
    · refine ⟨?_, fun x hx => ?_⟩
      · rw [e3, Z3 (4 + 3 * 3) (by omega), Z2 (4 + 3 * 3) (by omega), Z1 (4 + 3 * 3) (by omega), Z0 (4 + 3 * 3) (by omega)]
      · rw [(e4 x hx).1, (e4 x hx).2, Z3 (5 + 3 * 3) (by omega), Z3 (6 + 3 * 3) (by omega), Z2 (5 + 3 * 3) (by omega), Z2 (6 + 3 * 3) (by omega), Z1 (5 + 3 * 3) (by omega), Z1 (6 + 3 * 3) (by omega), Z0 (5 + 3 * 3) (by omega), Z0 (6 + 3 * 3) (by omega)]
        exact ⟨rfl, rfl⟩
