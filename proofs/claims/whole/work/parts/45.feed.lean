/-! ===== feed ===== -/
theorem add_eq (n : Nat) {T : Nat} (v : Int32) (hv : v.toBitVec.toNat < 256) (s : Mem) (hT : s 2 1 = nI T) (h6 : T < 6000) : ∃ s', f_X8_add n 2 v s = some s' ∧ (∀ k, k ≠ 2 → k ≠ 3 → s' k = s k) ∧ s' 2 1 = nI (T + 1) ∧ (∀ p, p < T → bcl (s' 3) p = bcl (s 3) p) ∧ bcl (s' 3) T = v := by
  have i1 : nI T >>> ((2 : Int32) &&& 31) = nI (T / 4) := pk_shrN (by omega) _ 2 (by decide)
  have i2 : nI T &&& (3 : Int32) = nI (T % 4) := pk_andN (by omega) 2 (by decide)
  have i3 : (24 : Int32) - (8 : Int32) * nI (T % 4) = nI (24 - 8 * (T % 4)) := by
    show nI 24 - nI 8 * nI (T % 4) = _
    rw [pk_mul, pk_sub (by omega)]
  refine ⟨stM (stM s 3 (T / 4) (setB (s 3 (T / 4)) v (T % 4))) 2 1 (nI (T + 1)), ?_, ?_, ?_, ?_, ?_⟩
  · unfold f_X8_add
    simp only [lt_eq, hT, i1, i2, i3]
    rw [if_pos (show nI T < (6000 : Int32) from nI_lt (a := T) (b := 6000) h6 (by omega)), ck_t (inb_nI (by omega) (by decide)), ck_t (inb_nI (by omega) (by decide)), nI_clamp (by omega), stM_far (a := 2) (Or.inl (by decide)), hT, nI_1]
    rfl
  · intro k h1 h2
    rw [stM_ne h1, stM_ne h2]
  · rw [stM_hit]
  · intro p hp
    rw [bcl_getB, bcl_getB, stM_ne (show (3 : Nat) ≠ 2 by decide)]
    by_cases e : p / 4 = T / 4
    · rw [e, stM_hit, getB_setB _ hv (by omega) (by omega), if_neg (by omega)]
    · rw [stM_far (Or.inr e)]
  · rw [bcl_getB, stM_ne (show (3 : Nat) ≠ 2 by decide), stM_hit, getB_setB _ hv (by omega) (by omega), if_pos rfl]
theorem getB_lt (x : Int32) {k : Nat} (hk : k < 4) : (getB x k).toBitVec.toNat < 256 := by
  rw [getB_bv x hk, BitVec.toNat_and]
  exact Nat.lt_of_le_of_lt Nat.and_le_right (by decide)
theorem addN_eq {n : Nat} (hn : 6 ≤ n) {T : Nat} (x : Int32) (s : Mem) (hT : s 2 1 = nI T) (h6 : T + 4 ≤ 6000) : ∃ s', f_X8_addNumber n 2 x s = some s' ∧ (∀ k, k ≠ 2 → k ≠ 3 → s' k = s k) ∧ s' 2 1 = nI (T + 4) ∧ (∀ p, p < T → bcl (s' 3) p = bcl (s 3) p) ∧ ∀ k, k < 4 → bcl (s' 3) (T + k) = getB x k := by
  obtain ⟨m, rfl⟩ : ∃ m, n = m + 5 := ⟨n - 5, by omega⟩
  obtain ⟨s1, e1, a1, b1, c1, d1⟩ := add_eq (m + 4) (getB x 0) (getB_lt x (by decide)) s hT (by omega)
  obtain ⟨s2, e2, a2, b2, c2, d2⟩ := add_eq (m + 3) (getB x 1) (getB_lt x (by decide)) s1 b1 (by omega)
  obtain ⟨s3, e3, a3, b3, c3, d3⟩ := add_eq (m + 2) (getB x 2) (getB_lt x (by decide)) s2 b2 (by omega)
  obtain ⟨s4, e4, a4, b4, c4, d4⟩ := add_eq (m + 1) (getB x 3) (getB_lt x (by decide)) s3 b3 (by omega)
  refine ⟨s4, ?_, fun k h1 h2 => by rw [a4 k h1 h2, a3 k h1 h2, a2 k h1 h2, a1 k h1 h2], b4, fun p hp => by rw [c4 p (by omega), c3 p (by omega), c2 p (by omega), c1 p hp], ?_⟩
  · show b_X8_addNumber_3 (m + 4) (itr3 (b_X8_addNumber_3) (m + 4)) 2 x 24 s = _
    unfold b_X8_addNumber_3
    rw [if_neg (by decide)]
    show bv (f_X8_add (m + 4) 2 (getB x 0) s) _ = _
    rw [e1, bv_mk, lt_eq]
    show b_X8_addNumber_3 (m + 3) (itr3 (b_X8_addNumber_3) (m + 3)) 2 x 16 s1 = _
    unfold b_X8_addNumber_3
    rw [if_neg (by decide)]
    show bv (f_X8_add (m + 3) 2 (getB x 1) s1) _ = _
    rw [e2, bv_mk, lt_eq]
    show b_X8_addNumber_3 (m + 2) (itr3 (b_X8_addNumber_3) (m + 2)) 2 x 8 s2 = _
    unfold b_X8_addNumber_3
    rw [if_neg (by decide)]
    show bv (f_X8_add (m + 2) 2 (getB x 2) s2) _ = _
    rw [e3, bv_mk, lt_eq]
    show b_X8_addNumber_3 (m + 1) (itr3 (b_X8_addNumber_3) (m + 1)) 2 x 0 s3 = _
    unfold b_X8_addNumber_3
    rw [if_neg (by decide)]
    show bv (f_X8_add (m + 1) 2 (getB x 3) s3) _ = _
    rw [e4, bv_mk, lt_eq]
    show b_X8_addNumber_3 m (itr3 (b_X8_addNumber_3) m) 2 x (-8) s4 = _
    unfold b_X8_addNumber_3
    rw [if_pos (by decide)]
  · intro k hk
    rcases (show k = 0 ∨ k = 1 ∨ k = 2 ∨ k = 3 by omega) with rfl | rfl | rfl | rfl
    · rw [c4 _ (by omega), c3 _ (by omega), c2 _ (by omega)]
      exact d1
    · rw [c4 _ (by omega), c3 _ (by omega)]
      exact d2
    · rw [c4 _ (by omega)]
      exact d3
    · exact d4
/-- the k-th of five numbers -/
def sel5 (a b c d e : Int32) (i : Nat) : Int32 := if i = 0 then a else if i = 1 then b else if i = 2 then c else if i = 3 then d else e
theorem feedC_eq {n : Nat} (hn : 10 ≤ n) {T : Nat} (a b c d e : Int32) (s : Mem) (hT : s 2 1 = nI T) (h6 : T + 20 ≤ 6000) : ∃ s', f_X10_feed n a b c d e s = some (nI (T + 20), s') ∧ (∀ k, k ≠ 2 → k ≠ 3 → s' k = s k) ∧ s' 2 1 = nI (T + 20) ∧ (∀ p, p < T → bcl (s' 3) p = bcl (s 3) p) ∧ ∀ k, k < 20 → bcl (s' 3) (T + k) = getB (sel5 a b c d e (k / 4)) (k % 4) := by
  obtain ⟨s1, e1, a1, b1, c1, d1⟩ := addN_eq (n := n) (by omega) a s hT (by omega)
  obtain ⟨s2, e2, a2, b2, c2, d2⟩ := addN_eq (n := n) (by omega) b s1 b1 (by omega)
  obtain ⟨s3, e3, a3, b3, c3, d3⟩ := addN_eq (n := n) (by omega) c s2 b2 (by omega)
  obtain ⟨s4, e4, a4, b4, c4, d4⟩ := addN_eq (n := n) (by omega) d s3 b3 (by omega)
  obtain ⟨s5, e5, a5, b5, c5, d5⟩ := addN_eq (n := n) (by omega) e s4 b4 (by omega)
  refine ⟨s5, ?_, fun k h1 h2 => by rw [a5 k h1 h2, a4 k h1 h2, a3 k h1 h2, a2 k h1 h2, a1 k h1 h2], b5, fun p hp => by rw [c5 p (by omega), c4 p (by omega), c3 p (by omega), c2 p (by omega), c1 p hp], ?_⟩
  · unfold f_X10_feed
    rw [hT, if_pos (show nI T + (20 : Int32) ≤ (6000 : Int32) by (rw [show nI T + (20 : Int32) = nI (T + 20) from nI_add T 20]; exact nI_le (b := 6000) (by omega) (by omega))), e1, bv_mk, e2, bv_mk, e3, bv_mk, e4, bv_mk, e5, bv_mk, b5]
  · intro k hk
    unfold sel5
    rcases (show k / 4 = 0 ∨ k / 4 = 1 ∨ k / 4 = 2 ∨ k / 4 = 3 ∨ k / 4 = 4 by omega) with q | q | q | q | q <;> rw [q]
    · rw [if_pos rfl, c5 _ (by omega), c4 _ (by omega), c3 _ (by omega), c2 _ (by omega), show T + k = T + k % 4 by omega]
      exact d1 _ (by omega)
    · rw [if_neg (by decide), if_pos rfl, c5 _ (by omega), c4 _ (by omega), c3 _ (by omega), show T + k = T + 4 + k % 4 by omega]
      exact d2 _ (by omega)
    · rw [if_neg (by decide), if_neg (by decide), if_pos rfl, c5 _ (by omega), c4 _ (by omega), show T + k = T + 4 + 4 + k % 4 by omega]
      exact d3 _ (by omega)
    · rw [if_neg (by decide), if_neg (by decide), if_neg (by decide), if_pos rfl, c5 _ (by omega), show T + k = T + 4 + 4 + 4 + k % 4 by omega]
      exact d4 _ (by omega)
    · rw [if_neg (by decide), if_neg (by decide), if_neg (by decide), if_neg (by decide), show T + k = T + 4 + 4 + 4 + 4 + k % 4 by omega]
      exact d5 _ (by omega)
theorem asr_getB (x : Int32) {k : Nat} (hk : k < 4) : (x >>> (nI (24 - 8 * k) &&& 31)) &&& (255 : Int32) = getB x k := by
  have h255 : ∀ i, i < 32 → (255#32).getLsbD i = decide (i < 8) := by decide
  have key : ∀ a, a ≤ 24 → (x.toBitVec.sshiftRight a) &&& 255#32 = (x.toBitVec >>> a) &&& 255#32 := by
    intro a ha
    apply BitVec.eq_of_getLsbD_eq
    intro i hi
    simp only [BitVec.getLsbD_and, BitVec.getLsbD_ushiftRight, BitVec.getLsbD_sshiftRight]
    rw [h255 i hi]
    by_cases h8 : i < 8
    · simp [h8, show a + i < 32 by omega, show ¬ 32 ≤ i by omega]
    · simp [h8]
  apply Int32.toBitVec_inj.mp
  rw [getB_bv x hk, ← key _ (by omega)]
  rcases (show k = 0 ∨ k = 1 ∨ k = 2 ∨ k = 3 by omega) with rfl | rfl | rfl | rfl <;> rfl
theorem feed73 {n T k : Nat} (hT : T ≤ 5980) (hk : k < 20) (a b c d e v : Int32) (s : Mem) (hs : s 0 2 = nI T) (g : Int32 → Int32 → Int32 → Int32 → Int32 → Int32 → Mem → Option (Int32 × Mem)) : b_X11_feed_73 g n a b c d e (nI k) v s = g a b c d e (nI (k + 1)) (stM s 1 (T + k) (getB v (k % 4))) := by
  have i1 : nI k - nI k / (4 : Int32) * (4 : Int32) = nI (k % 4) := pk_rem (d := 4) (by omega) (by omega) (by omega)
  have i3 : (24 : Int32) - (8 : Int32) * nI (k % 4) = nI (24 - 8 * (k % 4)) := by
    show nI 24 - nI 8 * nI (k % 4) = _
    rw [pk_mul, pk_sub (by omega)]
  unfold b_X11_feed_73
  simp only [lt_eq, hs, i1, i3, nI_add]
  rw [ck_t (by decide), ck_t (inb_nI (by omega) (by decide)), nI_clamp (by omega), asr_getB v (by omega), show Int32.ofInt 1 = 1 from rfl, nI_1]
theorem feedM_lp {T : Nat} (hT : T ≤ 5980) (a b c d e : Int32) : ∀ (m k : Nat) (s : Mem), k ≤ 20 → 20 < k + m → s 0 2 = nI T → itr6 (b_X11_feed_20) m a b c d e (nI k) s = some (nI (T + 20), stM (rwM s 1 (fun z => if T + k ≤ z ∧ z < T + 20 then getB (sel5 a b c d e ((z - T) / 4)) ((z - T) % 4) else s 1 z)) 0 2 (nI (T + 20))) := by
  intro m
  induction m with
  | zero => intro k s h1 h2; omega
  | succ m ih =>
    intro k s h1 h2 hs
    show b_X11_feed_20 m (itr6 (b_X11_feed_20) m) a b c d e (nI k) s = _
    generalize itr6 (b_X11_feed_20) m = g at ih ⊢
    by_cases h : 20 ≤ k
    · unfold b_X11_feed_20
      rw [if_pos (show (20 : Int32) ≤ nI k from nI_le (a := 20) h (by omega)), lt_eq, stM_hit, hs, show nI T + (20 : Int32) = nI (T + 20) from nI_add T 20]
      congr 2
      congr 1
      funext y z
      unfold rwM
      by_cases hy : y = 1
      · subst hy
        rw [if_pos rfl, if_neg (by omega)]
      · rw [if_neg hy]
    · have step : b_X11_feed_20 m g a b c d e (nI k) s = g a b c d e (nI (k + 1)) (stM s 1 (T + k) (getB (sel5 a b c d e (k / 4)) (k % 4))) := by
        unfold b_X11_feed_20 sel5
        rw [if_neg (show ¬ (20 : Int32) ≤ nI k from nI_ge (a := k) (b := 20) (by omega) (by omega))]
        by_cases k4 : 4 ≤ k
        · rw [if_pos (show (4 : Int32) ≤ nI k from nI_le (a := 4) k4 (by omega))]
          by_cases k8 : 8 ≤ k
          · rw [if_pos (show (8 : Int32) ≤ nI k from nI_le (a := 8) k8 (by omega))]
            by_cases k12 : 12 ≤ k
            · rw [if_pos (show (12 : Int32) ≤ nI k from nI_le (a := 12) k12 (by omega))]
              by_cases k16 : 16 ≤ k
              · rw [if_pos (show (16 : Int32) ≤ nI k from nI_le (a := 16) k16 (by omega)), feed73 hT (by omega) a b c d e e s hs, if_neg (by omega), if_neg (by omega), if_neg (by omega), if_neg (by omega)]
              · rw [if_neg (show ¬ (16 : Int32) ≤ nI k from nI_ge (a := k) (b := 16) (by omega) (by omega)), feed73 hT (by omega) a b c d e d s hs, if_neg (by omega), if_neg (by omega), if_neg (by omega), if_pos (by omega)]
            · rw [if_neg (show ¬ (12 : Int32) ≤ nI k from nI_ge (a := k) (b := 12) (by omega) (by omega)), feed73 hT (by omega) a b c d e c s hs, if_neg (by omega), if_neg (by omega), if_pos (by omega)]
          · rw [if_neg (show ¬ (8 : Int32) ≤ nI k from nI_ge (a := k) (b := 8) (by omega) (by omega)), feed73 hT (by omega) a b c d e b s hs, if_neg (by omega), if_pos (by omega)]
        · rw [if_neg (show ¬ (4 : Int32) ≤ nI k from nI_ge (a := k) (b := 4) (by omega) (by omega)), feed73 hT (by omega) a b c d e a s hs, if_pos (by omega)]
      rw [step, ih (k + 1) _ (by omega) (by omega) (by rw [stM_far (Or.inl (by decide))]; exact hs)]
      congr 2
      congr 1
      funext y z
      unfold rwM
      by_cases hy : y = 1
      · subst hy
        rw [if_pos rfl, if_pos rfl]
        by_cases hz : z = T + k
        · subst hz
          rw [if_neg (by omega), if_pos (by omega), stM_hit, show T + k - T = k by omega]
        · rw [stM_far (Or.inr hz)]
          by_cases h3 : T + k ≤ z ∧ z < T + 20
          · rw [if_pos (by omega), if_pos h3]
          · rw [if_neg (by omega), if_neg h3]
      · rw [if_neg hy, if_neg hy, stM_far (Or.inl hy)]
theorem sim_feed {t : Nat} {σ τ : Mem} (h : Rel t σ τ) {n : Nat} (hn : 10000 ≤ n) (a b c d e : Int32) : Sim t (f_X10_feed n a b c d e σ) (f_X11_feed n a b c d e τ) := by
  obtain ⟨T, S, ⟨⟨a1, a1b, a1c⟩, a2⟩, ⟨a3, a4⟩, a5, ⟨sR, sI⟩, ⟨a7, a8, a9⟩, a10, a11⟩ := id h
  have hm : stM τ 0 0 0 0 2 = nI T := by rw [stM_far (Or.inr (by decide)), a2]
  by_cases q : T + 20 ≤ 6000
  · obtain ⟨σ', e1, e2, e3, e4, e5⟩ := feedC_eq (n := n) (by omega) a b c d e σ a1 q
    rw [e1]
    unfold f_X11_feed
    rw [lt_eq, hm, if_pos (show nI T ≤ (5980 : Int32) from nI_le (b := 5980) (by omega) (by omega))]
    show Sim t _ (itr6 (b_X11_feed_20) n a b c d e (nI 0) (stM τ 0 0 0))
    rw [feedM_lp (by omega) a b c d e n 0 _ (by omega) (by omega) hm]
    refine ⟨_, _, _, rfl, rfl, ?_⟩
    generalize hf : (fun z => if T + 0 ≤ z ∧ z < T + 20 then getB (sel5 a b c d e ((z - T) / 4)) ((z - T) % 4) else stM τ 0 0 0 1 z) = f
    have tf : ∀ k, k ≠ 0 → k ≠ 1 → stM (rwM (stM τ 0 0 0) 1 f) 0 2 (nI (T + 20)) k = τ k := fun k h0 h1 => by rw [stM_ne h0, rwM_ne h1, stM_ne h0]
    have t0 : ∀ j, j ≠ 0 → j ≠ 2 → stM (rwM (stM τ 0 0 0) 1 f) 0 2 (nI (T + 20)) 0 j = τ 0 j := fun j h0 h1 => by rw [stM_far (Or.inr h1), rwM_ne (by decide), stM_far (Or.inr h0)]
    have t1 : stM (rwM (stM τ 0 0 0) 1 f) 0 2 (nI (T + 20)) 1 = f := by rw [stM_ne (by decide), rwM_row]
    have ag : ∀ lo hi, 3 < lo → agr σ σ' lo hi := fun lo hi hl k h1 h2 => e2 k (by omega) (by omega)
    refine ⟨T + 20, S, ⟨⟨e3, q, fun p hp => ?_⟩, stM_hit _ _ _ _⟩, ⟨a3.agr (ag 17 19 (by omega)) (tf 2 (by decide) (by decide)), by rw [t0 4 (by decide) (by decide)]; exact a4⟩, a5.agr (ag 19 30 (by omega)) (ag 110 116 (by omega)) (fun k h1 h2 => tf k (by omega) (by omega)) (fun j h1 h2 => t0 j (by omega) (by omega)), ⟨?_, (sI.agr (ag 33 71 (by omega)) (ag 23 30 (by omega))).up⟩, ⟨by rw [e2 0 (by decide) (by decide), t0 29 (by decide) (by decide)]; exact a7, by rw [e2 0 (by decide) (by decide)]; exact a8, fun w => ?_⟩, by rw [e2 31 (by decide) (by decide), t0 25 (by decide) (by decide)]; exact a10, by rw [e2 31 (by decide) (by decide), t0 26 (by decide) (by decide)]; exact a11⟩
    · rw [t1, ← hf]
      show bcl (σ' 3) p = if T + 0 ≤ p ∧ p < T + 20 then _ else _
      by_cases hp9 : p < T
      · rw [if_neg (by omega), e4 p hp9, stM_ne (show (1 : Nat) ≠ 0 by decide)]
        exact a1c p hp9
      · rw [if_pos (by omega)]
        have := e5 (p - T) (by omega)
        rwa [show T + (p - T) = p by omega] at this
    · rw [tf 15 (by decide) (by decide)]
      exact sR.agr (ag 33 71 (by omega))
    · rw [e2 0 (by decide) (by decide)] at w
      rw [tf 16 (by decide) (by decide)]
      exact ⟨(a9 w).1.agr (ag 71 109 (by omega)), ((a9 w).2.agr (ag 71 109 (by omega)) (ag 23 30 (by omega))).up⟩
  · unfold f_X10_feed f_X11_feed
    rw [lt_eq, hm, a1, if_neg (show ¬ nI T + (20 : Int32) ≤ (6000 : Int32) by (rw [show nI T + (20 : Int32) = nI (T + 20) from nI_add T 20]; exact nI_ge (a := 6000) (b := T + 20) (by omega) (by omega))), if_neg (show ¬ nI T ≤ (5980 : Int32) from nI_ge (a := 5980) (b := T) (by omega) (by omega))]
    exact ⟨_, _, _, rfl, rfl, h.th 0⟩
