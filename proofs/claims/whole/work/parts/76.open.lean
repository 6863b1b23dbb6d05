/-! ===== play: the ground is laid, the stage is opened ===== -/
theorem GI.uq {B : Nat → Nat} {T m K x p e p' e' : Nat} {σ : Mem} (h : GI B T m σ) (hK : K < 4) (h1 : Blk B m K x p e) (h2 : Blk B m K x p' e') : p = p' ∧ e = e' := by
  obtain ⟨b1, b2, b3, b4, b5, -⟩ := h.bk h1
  obtain ⟨c1, c2, c3, c4, c5, -⟩ := h.bk h2
  have T6 := h.2.2.2.1
  obtain ⟨i1, i2⟩ := (h.2.1 K hK x b2).1 p e h1
  obtain ⟨j1, j2⟩ := (h.2.1 K hK x b2).1 p' e' h2
  rw [i1] at j1
  rw [i2] at j2
  exact ⟨(nI_eq (by omega) (by omega)).mp j1, (nI_eq (by omega) (by omega)).mp j2⟩
theorem box_lp {B : Nat → Nat} {T m r c : Nat} {f : Nat → Nat → Nat} (hr : r < 21) (hc : c ≤ 16) (hf : ∀ b w, b < c → w < 4 → f b w ≤ 255) (hB : ∀ (s : Mem) (n b w : Nat) (y : Int32), GI B T m s → b < c → w < 4 → y = nI w → f_X3_boxByte n 16 (nI r) (nI b) y s = some (nI (f b w), s)) (k2 : Nat → Int32 → Mem → Option Mem) : ∀ (d b M : Nat) (s : Mem), b + d = c → d + 60 < M → GI B T m s → s 110 r = nI c → (∀ b', b' < b → sdC s (16 * r + b') (f b' 0) (f b' 1) (f b' 2) (f b' 3)) → ∃ s', itr3 (b_X1_lay_30 k2) M 16 (nI r) (nI b) s = k2 16 (nI (r + 1)) s' ∧ (∀ z, z < 111 ∨ 116 ≤ z → s' z = s z) ∧ (∀ z, 111 ≤ z → z < 116 → ∀ j, j < 16 * r ∨ 16 * r + 16 ≤ j → s' z j = s z j) ∧ SdR r c f s' ∧ ∀ b', b' < c → ∀ i, i < 32 → (tb (s' 115 (16 * r + b')) i = true ↔ i < c ∧ nrN f b' i) := by
  intro d
  induction d with
  | zero =>
    intro b M s hb hM hg h0 hs
    have e : b = c := by omega
    subst e
    obtain ⟨M, rfl⟩ : ∃ m', M = m' + 1 := ⟨M - 1, by omega⟩
    obtain ⟨s', x1, x2, x3, x4⟩ := nb_out hr hc b 0 M s (by omega) (by omega) h0 hs
    refine ⟨s', ?_, fun z hz => x2 z (by omega), fun z z1 z2 j hj => ?_, fun b' hb' => ?_, fun b' hb' => x4 b' (by omega) hb'⟩
    · show b_X1_lay_30 k2 M (itr3 (b_X1_lay_30 k2) M) _ _ _ s = _
      generalize itr3 (b_X1_lay_30 k2) M = w
      unfold b_X1_lay_30 f_X1_findNeighbours
      have ex : nI r * (16 : Int32) = nI (16 * r) := by
        show nI r * nI 16 = _
        rw [pk_mul, Nat.mul_comm]
      rw [ck_t (inb_nI hr (by decide)), nI_clamp (by omega), h0, if_pos (nI_le (by omega) (by omega)), ex, lt_eq, show (0 : Int32) = nI 0 from rfl, x1, bv_mk, lt_eq, show nI r + Int32.ofInt 1 = nI (r + 1) from nI_1 r]
    · by_cases e : z = 115
      · subst e; exact x3 j (by omega)
      · rw [x2 z e]
    · obtain ⟨y0, y1, y2, y3, y4⟩ := hs b' hb'
      exact ⟨by rw [x2 111 (by decide)]; exact y0, by rw [x2 112 (by decide)]; exact y1, by rw [x2 113 (by decide)]; exact y2, by rw [x2 114 (by decide)]; exact y3, y4⟩
  | succ d ih =>
    intro b M s hb hM hg h0 hs
    obtain ⟨M, rfl⟩ : ∃ m', M = m' + 1 := ⟨M - 1, by omega⟩
    have ih' := fun s => ih (b + 1) M s (by omega) (by omega)
    have G : ∀ s1 : Mem, (∀ z, z < 111 → s1 z = s z) → GI B T m s1 := fun s1 h1 => hg.agr (fun z a b => h1 z (by omega))
    have C : itr3 (b_X1_lay_30 k2) (M + 1) 16 (nI r) (nI b) s = itr3 (b_X1_lay_30 k2) M 16 (nI r) (nI (b + 1)) (stM (stM (stM (stM s 111 (16 * r + b) (nI (f b 0))) 112 (16 * r + b) (nI (f b 1))) 113 (16 * r + b) (nI (f b 2))) 114 (16 * r + b) (nI (f b 3))) := by
      show b_X1_lay_30 k2 M (itr3 (b_X1_lay_30 k2) M) _ _ _ s = _
      generalize itr3 (b_X1_lay_30 k2) M = w
      unfold b_X1_lay_30
      rw [ck_t (inb_nI hr (by decide)), nI_clamp (by omega), h0, if_neg (nI_ge (by omega) (by omega)), ixB, lt_eq, hB s M b 0 0 (G s (fun _ _ => rfl)) (by omega) (by omega) rfl, bd_mk, ck_t (inb_nI (by omega) (by decide)), nI_clamp (by omega), lt_eq, hB _ M b 1 1 (G _ (fun z hz => by rw [stM_ne (by omega)])) (by omega) (by omega) rfl, bd_mk, ck_t (inb_nI (by omega) (by decide)), lt_eq, hB _ M b 2 2 (G _ (fun z hz => by rw [stM_ne (by omega), stM_ne (by omega)])) (by omega) (by omega) rfl, bd_mk, ck_t (inb_nI (by omega) (by decide)), lt_eq, hB _ M b 3 3 (G _ (fun z hz => by rw [stM_ne (by omega), stM_ne (by omega), stM_ne (by omega)])) (by omega) (by omega) rfl, bd_mk, ck_t (inb_nI (by omega) (by decide)), lt_eq, lt_eq, show nI b + Int32.ofInt 1 = nI (b + 1) from nI_1 b]
    rw [C]
    obtain ⟨s', x1, x2, x3, x4, x5⟩ := ih' (stM (stM (stM (stM s 111 (16 * r + b) (nI (f b 0))) 112 (16 * r + b) (nI (f b 1))) 113 (16 * r + b) (nI (f b 2))) 114 (16 * r + b) (nI (f b 3))) (G _ (fun z hz => by rw [stM_ne (by omega), stM_ne (by omega), stM_ne (by omega), stM_ne (by omega)])) (by rw [stM_ne (by omega), stM_ne (by omega), stM_ne (by omega), stM_ne (by omega)]; exact h0) (fun b' hb' => by
      by_cases e : b' = b
      · subst e
        refine ⟨?_, ?_, ?_, ?_, hf b' 0 (by omega) (by omega), hf b' 1 (by omega) (by omega), hf b' 2 (by omega) (by omega), hf b' 3 (by omega) (by omega)⟩
        · rw [stM_ne (by decide), stM_ne (by decide), stM_ne (by decide), stM_hit]
        · rw [stM_ne (by decide), stM_ne (by decide), stM_hit]
        · rw [stM_ne (by decide), stM_hit]
        · rw [stM_hit]
      · obtain ⟨y0, y1, y2, y3, y4⟩ := hs b' (by omega)
        refine ⟨?_, ?_, ?_, ?_, y4⟩
        · rw [stM_ne (by decide), stM_ne (by decide), stM_ne (by decide), stM_far (Or.inr (by omega))]; exact y0
        · rw [stM_ne (by decide), stM_ne (by decide), stM_far (Or.inr (by omega)), stM_ne (by decide)]; exact y1
        · rw [stM_ne (by decide), stM_far (Or.inr (by omega)), stM_ne (by decide), stM_ne (by decide)]; exact y2
        · rw [stM_far (Or.inr (by omega)), stM_ne (by decide), stM_ne (by decide), stM_ne (by decide)]; exact y3)
    refine ⟨s', x1, fun z hz => by rw [x2 z hz, stM_ne (by omega), stM_ne (by omega), stM_ne (by omega), stM_ne (by omega)], fun z z1 z2 j hj => ?_, x4, x5⟩
    rw [x3 z z1 z2 j hj, stM_far (Or.inr (by omega)), stM_far (Or.inr (by omega)), stM_far (Or.inr (by omega)), stM_far (Or.inr (by omega))]
/-- a room as it is laid -/
def fB (B : Nat → Nat) (p : Nat) (b i : Nat) : Nat := B (p + 2 + 5 * b + i)
def LR (B : Nat → Nat) (m r : Nat) (s : Mem) : Prop := (∀ p e, Blk B m 0 r p e → s 110 r = nI (B (p + 1)) ∧ SdR r (B (p + 1)) (fB B p) s ∧ ∀ b, b < B (p + 1) → ∀ i, i < 32 → (tb (s 115 (16 * r + b)) i = true ↔ i < B (p + 1) ∧ nrN (fB B p) b i)) ∧ ((¬ ∃ p e, Blk B m 0 r p e) → s 110 r = 0)
theorem clamp16 {c : Nat} (hc : c ≤ 16) : (if (0 : Int32) < (if nI c < (16 : Int32) then nI c else 16) then (if nI c < (16 : Int32) then nI c else 16) else 0) = nI c := by
  have e : (if nI c < (16 : Int32) then nI c else 16) = nI c := by
    by_cases q : c < 16
    · rw [if_pos (show nI c < (16 : Int32) from nI_lt (a := c) (b := 16) q (by omega))]
    · have : c = 16 := by omega
      subst this
      rw [if_neg (by decide)]
      rfl
  rw [e]
  by_cases q : 0 < c
  · rw [if_pos (show (0 : Int32) < nI c from nI_lt (a := 0) q (by omega))]
  · have : c = 0 := by omega
    subst this
    rw [if_neg (by decide)]
    rfl
theorem lay_lp {B : Nat → Nat} {T m : Nat} : ∀ (d r M : Nat) (s : Mem), r + d = 21 → d + 100 < M → GI B T m s → ∃ s', itr2 b_X1_lay_2 M 16 (nI r) s = some s' ∧ (∀ z, z < 110 ∨ 116 ≤ z → s' z = s z) ∧ (∀ j, j < r → s' 110 j = s 110 j) ∧ (∀ z, 111 ≤ z → z < 116 → ∀ j, j < 16 * r → s' z j = s z j) ∧ ∀ r', r ≤ r' → r' < 21 → LR B m r' s' := by
  intro d
  induction d with
  | zero =>
    intro r M s hr hM hg
    have e : r = 21 := by omega
    subst e
    obtain ⟨M, rfl⟩ : ∃ m', M = m' + 1 := ⟨M - 1, by omega⟩
    refine ⟨s, ?_, fun _ _ => rfl, fun _ _ => rfl, fun _ _ _ _ _ => rfl, fun r' h1 h2 => by omega⟩
    show b_X1_lay_2 M (itr2 b_X1_lay_2 M) _ _ s = _
    generalize itr2 b_X1_lay_2 M = w
    unfold b_X1_lay_2
    rw [if_pos (show (20 : Int32) < nI 21 by decide)]
  | succ d ih =>
    intro r M s hr hM hg
    have hr21 : r < 21 := by omega
    obtain ⟨M, rfl⟩ : ∃ m', M = m' + 1 := ⟨M - 1, by omega⟩
    have ih' := fun s => ih (r + 1) M s (by omega) (by omega)
    have STEP : ∃ s1, itr2 b_X1_lay_2 (M + 1) 16 (nI r) s = itr2 b_X1_lay_2 M 16 (nI (r + 1)) s1 ∧ (∀ z, z < 110 ∨ 116 ≤ z → s1 z = s z) ∧ (∀ j, j ≠ r → s1 110 j = s 110 j) ∧ (∀ z, 111 ≤ z → z < 116 → ∀ j, j < 16 * r ∨ 16 * r + 16 ≤ j → s1 z j = s z j) ∧ LR B m r s1 := by
      by_cases q : ∃ p e, Blk B m 0 r p e
      · obtain ⟨p, e, hb⟩ := q
        obtain ⟨b1, b2, b3, b4, b5, b6⟩ := hg.bk hb
        obtain ⟨c, c1, c2, c3, c4⟩ := b6.1 rfl
        have hB4 : ∀ b w, b < B (p + 1) → w < 4 → fB B p b w ≤ 255 := fun b w hb hw => by
          have := (hg.2.2.2.2 (p + 2 + 5 * b + w) (by omega)).2
          unfold fB
          omega
        obtain ⟨s1, x1, x2, x3, x4, x5⟩ := box_lp (B := B) (T := T) (m := m) (f := fB B p) (c := B (p + 1)) hr21 (by omega) hB4 (fun s n b w y hg' hb' hw' ey => boxByte_y n hg' hb hb' (by omega) ey) (itr2 b_X1_lay_2 M) (B (p + 1)) 0 M (stM s 110 r (nI (B (p + 1)))) (by omega) (by omega) (hg.agr (fun z a b => stM_ne (by omega))) (stM_hit _ _ _ _) (fun b' hb' => by omega)
        refine ⟨s1, ?_, fun z hz => by rw [x2 z (by omega), stM_ne (by omega)], fun j hj => by rw [x2 110 (by omega), stM_far (Or.inr hj)], fun z z1 z2 j hj => by rw [x3 z z1 z2 j hj, stM_ne (by omega)], fun p' e' hb' => ?_, fun w => absurd ⟨p, e, hb⟩ w⟩
        · rw [← x1]
          show b_X1_lay_2 M (itr2 b_X1_lay_2 M) _ _ s = _
          generalize itr2 b_X1_lay_2 M = w
          unfold b_X1_lay_2
          rw [if_neg (show ¬ (20 : Int32) < nI r from nI_nlt (a := 20) (b := r) (by omega) (by omega)), boxesOf_y M hg hb, bd_mk, ck_t (inb_nI hr21 (by decide)), nI_clamp (by omega), clamp16 (by omega), lt_eq]
          rfl
        · obtain ⟨rfl, rfl⟩ := hg.uq (by decide) hb hb'
          exact ⟨by rw [x2 110 (by omega), stM_hit], x4, x5⟩
      · obtain ⟨s1, x1, x2, x3, x4, x5⟩ := box_lp (B := B) (T := T) (m := m) (f := fun _ _ => 0) (c := 0) hr21 (by omega) (fun b w hb hw => by omega) (fun s n b w y hg' hb' hw' ey => by omega) (itr2 b_X1_lay_2 M) 0 0 M (stM s 110 r (nI 0)) (by omega) (by omega) (hg.agr (fun z a b => stM_ne (by omega))) (stM_hit _ _ _ _) (fun b' hb' => by omega)
        refine ⟨s1, ?_, fun z hz => by rw [x2 z (by omega), stM_ne (by omega)], fun j hj => by rw [x2 110 (by omega), stM_far (Or.inr hj)], fun z z1 z2 j hj => by rw [x3 z z1 z2 j hj, stM_ne (by omega)], fun p' e' hb' => absurd ⟨p', e', hb'⟩ q, fun _ => by rw [x2 110 (by omega), stM_hit]; rfl⟩
        rw [← x1]
        show b_X1_lay_2 M (itr2 b_X1_lay_2 M) _ _ s = _
        generalize itr2 b_X1_lay_2 M = w
        unfold b_X1_lay_2
        rw [if_neg (show ¬ (20 : Int32) < nI r from nI_nlt (a := 20) (b := r) (by omega) (by omega)), boxesOf_n M hg (by omega) q, bd_mk, ck_t (inb_nI hr21 (by decide)), nI_clamp (by omega)]
        rfl
    obtain ⟨s1, y1, y2, y3, y4, y5⟩ := STEP
    obtain ⟨s', x1, x2, x3, x4, x5⟩ := ih' s1 (hg.agr (fun z a b => y2 z (by omega)))
    rw [y1]
    refine ⟨s', x1, fun z hz => by rw [x2 z hz, y2 z hz], fun j hj => by rw [x3 j (by omega), y3 j (by omega)], fun z z1 z2 j hj => by rw [x4 z z1 z2 j (by omega), y4 z z1 z2 j (by omega)], fun r' h1 h2 => ?_⟩
    by_cases e : r' = r
    · subst e
      refine ⟨fun p e hb => ?_, fun w => ?_⟩
      · obtain ⟨u1, u2, u3⟩ := y5.1 p e hb
        obtain ⟨b1, b2, b3, b4, b5, b6⟩ := hg.bk hb
        obtain ⟨c, c1, c2, c3, c4⟩ := b6.1 rfl
        refine ⟨by rw [x3 r' (by omega)]; exact u1, fun b hb => ?_, fun b hb i hi => ?_⟩
        · obtain ⟨v0, v1, v2, v3, v4⟩ := u2 b hb
          exact ⟨by rw [x4 111 (by omega) (by omega) _ (by omega)]; exact v0, by rw [x4 112 (by omega) (by omega) _ (by omega)]; exact v1, by rw [x4 113 (by omega) (by omega) _ (by omega)]; exact v2, by rw [x4 114 (by omega) (by omega) _ (by omega)]; exact v3, v4⟩
        · rw [x4 115 (by omega) (by omega) _ (by omega)]; exact u3 b hb i hi
      · rw [x3 r' (by omega)]; exact y5.2 w
    · exact x5 r' (by omega) h2
/-! the stage -/
def SR (B : Nat → Nat) (m r : Nat) (s : Mem) : Prop := (∀ p e, Blk B m 0 r p e → ∀ i, i < 32 → (tb (s 39 r) i = true ↔ i < B (p + 1) ∧ B (p + 6 + 5 * i) = 1)) ∧ ((¬ ∃ p e, Blk B m 0 r p e) → s 39 r = 0)
theorem sb_lp {B : Nat → Nat} {T m r p e : Nat} (hr : r < 21) (hb : Blk B m 0 r p e) : ∀ (d i M : Nat) (s : Mem), i + d = B (p + 1) → d < M → GI B T m s → (∀ k, k < 32 → (tb (s 39 r) k = true ↔ k < i ∧ B (p + 6 + 5 * k) = 1)) → ∃ s', itr5 b_X7_shutBoxes_16 M 33 16 (nI r) (nI (B (p + 1))) (nI i) s = some s' ∧ (∀ z, z ≠ 39 → s' z = s z) ∧ (∀ j, j ≠ r → s' 39 j = s 39 j) ∧ ∀ k, k < 32 → (tb (s' 39 r) k = true ↔ k < B (p + 1) ∧ B (p + 6 + 5 * k) = 1) := by
  intro d
  induction d with
  | zero =>
    intro i M s hi hM hg ht
    obtain ⟨b1, b2, b3, b4, b5, b6⟩ := hg.bk hb
    obtain ⟨c, c1, c2, c3, c4⟩ := b6.1 rfl
    have e : i = B (p + 1) := by omega
    obtain ⟨M, rfl⟩ : ∃ m', M = m' + 1 := ⟨M - 1, by omega⟩
    refine ⟨s, ?_, fun _ _ => rfl, fun _ _ => rfl, by rw [← e]; exact ht⟩
    show b_X7_shutBoxes_16 M (itr5 b_X7_shutBoxes_16 M) _ _ _ _ _ s = _
    generalize itr5 b_X7_shutBoxes_16 M = w
    unfold b_X7_shutBoxes_16
    rw [if_pos (nI_le (by omega) (by omega))]
  | succ d ih =>
    intro i M s hi hM hg ht
    obtain ⟨b1, b2, b3, b4, b5, b6⟩ := hg.bk hb
    obtain ⟨c, c1, c2, c3, c4⟩ := b6.1 rfl
    obtain ⟨M, rfl⟩ : ∃ m', M = m' + 1 := ⟨M - 1, by omega⟩
    have ih' := fun s => ih (i + 1) M s (by omega) (by omega)
    show ∃ s', b_X7_shutBoxes_16 M (itr5 b_X7_shutBoxes_16 M) _ _ _ _ _ s = _ ∧ _
    generalize itr5 b_X7_shutBoxes_16 M = w at ih' ⊢
    unfold b_X7_shutBoxes_16 b_X7_shutBoxes_43
    have bb := boxByte_y (y := 4) M hg hb (show i < B (p + 1) by omega) (show 4 < 5 by omega) rfl
    rw [show p + 2 + 5 * i + 4 = p + 6 + 5 * i by omega] at bb
    have B255 := (hg.2.2.2.2 (p + 6 + 5 * i) (by omega)).2
    rw [if_neg (nI_ge (by omega) (by omega)), bb, bd_mk, shutC M hr, shutC M hr, bv_mk, bv_mk, lt_eq, lt_eq, show nI i + Int32.ofInt 1 = nI (i + 1) from nI_1 i, if_pos rfl, if_neg n10]
    by_cases q : B (p + 6 + 5 * i) = 1
    · rw [if_pos (by rw [q]; rfl)]
      obtain ⟨s', x1, x2, x3, x4⟩ := ih' (stM s 39 r (s 39 r ||| (1 : Int32) <<< (nI i &&& 31))) (hg.agr (fun z a b => stM_ne (by omega))) (fun k hk => by
        rw [stM_hit, tb_or, tb_one i (by omega) k hk]
        by_cases e : k = i
        · subst e
          simp only [decide_true, Bool.or_true, true_iff]
          exact ⟨by omega, q⟩
        · rw [decide_eq_false e, Bool.or_false, ht k hk]
          exact ⟨fun w => ⟨by omega, w.2⟩, fun w => ⟨by omega, w.2⟩⟩)
      exact ⟨s', x1, fun z hz => by rw [x2 z hz, stM_ne hz], fun j hj => by rw [x3 j hj, stM_far (Or.inr hj)], x4⟩
    · rw [if_neg (show ¬ nI (B (p + 6 + 5 * i)) = (1 : Int32) from fun w => q ((nI_eq (b := 1) (by omega) (by omega)).mp w))]
      obtain ⟨s', x1, x2, x3, x4⟩ := ih' (stM s 39 r (s 39 r &&& (((1 : Int32) <<< (nI i &&& 31)) ^^^ -1))) (hg.agr (fun z a b => stM_ne (by omega))) (fun k hk => by
        rw [stM_hit, tb_and, tb_not _ hk, tb_one i (by omega) k hk]
        by_cases e : k = i
        · subst e
          simp only [decide_true, Bool.not_true, Bool.and_false]
          exact ⟨fun w => absurd w (by decide), fun w => absurd w.2 q⟩
        · rw [decide_eq_false e, Bool.not_false, Bool.and_true, ht k hk]
          exact ⟨fun w => ⟨by omega, w.2⟩, fun w => ⟨by omega, w.2⟩⟩)
      exact ⟨s', x1, fun z hz => by rw [x2 z hz, stM_ne hz], fun j hj => by rw [x3 j hj, stM_far (Or.inr hj)], x4⟩
theorem sh_lp {B : Nat → Nat} {T m : Nat} : ∀ (d r M : Nat) (s : Mem), r + d = 21 → d + 100 < M → GI B T m s → ∃ s', itr3 b_X7_open_153 M 33 16 (nI r) s = some s' ∧ (∀ z, z ≠ 39 → s' z = s z) ∧ (∀ j, j < r → s' 39 j = s 39 j) ∧ ∀ r', r ≤ r' → r' < 21 → SR B m r' s' := by
  intro d
  induction d with
  | zero =>
    intro r M s hr hM hg
    have e : r = 21 := by omega
    subst e
    obtain ⟨M, rfl⟩ : ∃ m', M = m' + 1 := ⟨M - 1, by omega⟩
    refine ⟨s, ?_, fun _ _ => rfl, fun _ _ => rfl, fun r' h1 h2 => by omega⟩
    show b_X7_open_153 M (itr3 b_X7_open_153 M) _ _ _ s = _
    generalize itr3 b_X7_open_153 M = w
    unfold b_X7_open_153
    rw [if_pos (show (20 : Int32) < nI 21 by decide)]
  | succ d ih =>
    intro r M s hr hM hg
    have hr21 : r < 21 := by omega
    obtain ⟨M, rfl⟩ : ∃ m', M = m' + 1 := ⟨M - 1, by omega⟩
    have ih' := fun s => ih (r + 1) M s (by omega) (by omega)
    have STEP : ∃ s1, f_X7_shutBoxes M 33 16 (nI r) s = some s1 ∧ (∀ z, z ≠ 39 → s1 z = s z) ∧ (∀ j, j ≠ r → s1 39 j = s 39 j) ∧ SR B m r s1 := by
      have hg0 : GI B T m (stM s 39 r 0) := hg.agr (fun z a b => stM_ne (by omega))
      by_cases q : ∃ p e, Blk B m 0 r p e
      · obtain ⟨p, e, hb⟩ := q
        obtain ⟨b1, b2, b3, b4, b5, b6⟩ := hg.bk hb
        obtain ⟨c, c1, c2, c3, c4⟩ := b6.1 rfl
        obtain ⟨s1, x1, x2, x3, x4⟩ := sb_lp hr21 hb (B (p + 1)) 0 M (stM s 39 r 0) (by omega) (by omega) hg0 (fun k hk => by
          rw [stM_hit, tb_zero]
          exact ⟨fun w => absurd w (by decide), fun w => by omega⟩)
        refine ⟨s1, ?_, fun z hz => by rw [x2 z hz, stM_ne hz], fun j hj => by rw [x3 j hj, stM_far (Or.inr hj)], fun p' e' hb' => ?_, fun w => absurd ⟨p, e, hb⟩ w⟩
        · unfold f_X7_shutBoxes
          rw [ck_t (inb_nI hr21 (by decide)), nI_clamp (by omega), lt_eq, show (stM s (33 + 6) r 0) = stM s 39 r 0 from rfl, boxesOf_y M hg0 hb, bd_mk]
          exact x1
        · obtain ⟨rfl, rfl⟩ := hg.uq (by decide) hb hb'
          exact x4
      · obtain ⟨M, rfl⟩ : ∃ m', M = m' + 1 := ⟨M - 1, by omega⟩
        refine ⟨stM s 39 r 0, ?_, fun z hz => stM_ne hz, fun j hj => stM_far (Or.inr hj), fun p' e' hb' => absurd ⟨p', e', hb'⟩ q, fun _ => stM_hit _ _ _ _⟩
        unfold f_X7_shutBoxes
        rw [ck_t (inb_nI hr21 (by decide)), nI_clamp (by omega), lt_eq, show (stM s (33 + 6) r 0) = stM s 39 r 0 from rfl, boxesOf_n (M + 1) hg0 (by omega) q, bd_mk]
        show b_X7_shutBoxes_16 M (itr5 b_X7_shutBoxes_16 M) _ _ _ _ _ _ = _
        generalize itr5 b_X7_shutBoxes_16 M = w
        unfold b_X7_shutBoxes_16
        rw [if_pos (by decide)]
    obtain ⟨s1, y1, y2, y3, y4⟩ := STEP
    obtain ⟨s', x1, x2, x3, x4⟩ := ih' s1 (hg.agr (fun z a b => y2 z (by omega)))
    refine ⟨s', ?_, fun z hz => by rw [x2 z hz, y2 z hz], fun j hj => by rw [x3 j (by omega), y3 j (by omega)], fun r' h1 h2 => ?_⟩
    · rw [← x1]
      show b_X7_open_153 M (itr3 b_X7_open_153 M) _ _ _ s = _
      generalize itr3 b_X7_open_153 M = w
      unfold b_X7_open_153
      rw [if_neg (show ¬ (20 : Int32) < nI r from nI_nlt (a := 20) (b := r) (by omega) (by omega)), y1, bv_mk, lt_eq, show nI r + Int32.ofInt 1 = nI (r + 1) from nI_1 r]
    · by_cases e : r' = r
      · subst e
        exact ⟨fun p e hb i hi => by rw [x3 r' (by omega)]; exact y4.1 p e hb i hi, fun w => by rw [x3 r' (by omega)]; exact y4.2 w⟩
      · exact x4 r' (by omega) h2
