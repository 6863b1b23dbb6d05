/-! ===== play: the class takes the play over ===== -/
/-- a block of kind K, of number x: from its number's place to its end -/
def Blk (B : Nat → Nat) (m K x p e : Nat) : Prop := ∃ j, j < m ∧ tgK (B (posB B j)) = K ∧ B (posB B j + 3) = x ∧ p = posB B j + 3 ∧ e = posB B (j + 1)
/-- the play's own rows -/
def GI (B : Nat → Nat) (T m : Nat) (σ : Mem) : Prop := (∀ j, j < m → BOK B T (posB B j)) ∧ (∀ K, K < 4 → ∀ x, x ≤ mxK K → (∀ p e, Blk B m K x p e → σ (20 + 3 * K) x = nI p ∧ σ (21 + 3 * K) x = nI e) ∧ ((¬ ∃ p e, Blk B m K x p e) → σ (20 + 3 * K) x = 0)) ∧ σ 17 1 = nI T ∧ T ≤ 6000 ∧ (∀ p, p < T → bcl (σ 18) p = nI (B p) ∧ B p < 256)
theorem GI.agr {B : Nat → Nat} {T m : Nat} {σ σ' : Mem} (h : GI B T m σ) (hs : ∀ z, 17 ≤ z → z < 31 → σ' z = σ z) : GI B T m σ' := by
  obtain ⟨h1, h2, h3, h4, h5⟩ := h
  refine ⟨h1, fun K hK x hx => ?_, by rw [hs 17 (by omega) (by omega)]; exact h3, h4, by rw [hs 18 (by omega) (by omega)]; exact h5⟩
  rw [hs (20 + 3 * K) (by omega) (by omega), hs (21 + 3 * K) (by omega) (by omega)]
  exact h2 K hK x hx
theorem GI.bk {B : Nat → Nat} {T m K x p e : Nat} {σ : Mem} (h : GI B T m σ) (hb : Blk B m K x p e) : 0 < x ∧ x ≤ mxK K ∧ 6 < p ∧ p < e ∧ e ≤ T ∧ KOK B K p e := by
  obtain ⟨j, hj, rfl, rfl, rfl, rfl⟩ := hb
  obtain ⟨b1, b2, b3, b4, b5⟩ := h.1 j hj
  have := posB_ge B j
  exact ⟨b3.1, b3.2, by omega, b4, b2, b5⟩
theorem GI.at {B : Nat → Nat} {T m p : Nat} {σ : Mem} (n : Nat) (h : GI B T m σ) (hp : p < T) : f_X8_at n 17 (nI p) σ = some (nI (B p), σ) := by
  rw [at_eq n (T := T) σ h.2.2.1 h.2.2.2.1 hp, (h.2.2.2.2 p hp).1]
theorem gix (K : Nat) (hK : K < 4) : isO 2 (19 + 3 * K) ∧ lenC (19 + 3 * K + 1) = mxK K + 1 := by
  rcases (show K = 0 ∨ K = 1 ∨ K = 2 ∨ K = 3 by omega) with rfl | rfl | rfl | rfl <;> exact ⟨by unfold isO; decide, by decide⟩
theorem GI.has {B : Nat → Nat} {T m K x p e : Nat} {σ : Mem} (n : Nat) (h : GI B T m σ) (hK : K < 4) (hb : Blk B m K x p e) : f_X2_has n (19 + 3 * K) (nI x) σ = some (1, σ) := by
  obtain ⟨b1, b2, b3, b4, b5, -⟩ := h.bk hb
  have mk := mxK_le K hK
  have T6 := h.2.2.2.1
  have g : 0 < (nI x).toInt ∧ (nI x).toInt < (lenC (19 + 3 * K + 1) : Int) ∧ σ (19 + 3 * K + 1) (nI x).toNatClampNeg ≠ 0 := by
    rw [(gix K hK).2, nI_clamp (by omega), nI_toInt (by omega), show 19 + 3 * K + 1 = 20 + 3 * K by omega, ((h.2.1 K hK x b2).1 p e hb).1]
    exact ⟨by omega, by omega, nI_ne0 (by omega) (by omega)⟩
  rw [has_eq n (gix K hK).1, bz_t g]
theorem GI.hasn {B : Nat → Nat} {T m K x : Nat} {σ : Mem} (n : Nat) (h : GI B T m σ) (hK : K < 4) (hx : x ≤ mxK K) (hb : ¬ ∃ p e, Blk B m K x p e) : f_X2_has n (19 + 3 * K) (nI x) σ = some (0, σ) := by
  have mk := mxK_le K hK
  have g : ¬ (0 < (nI x).toInt ∧ (nI x).toInt < (lenC (19 + 3 * K + 1) : Int) ∧ σ (19 + 3 * K + 1) (nI x).toNatClampNeg ≠ 0) := fun w => w.2.2 (by
    rw [nI_clamp (by omega), show 19 + 3 * K + 1 = 20 + 3 * K by omega]
    exact (h.2.1 K hK x hx).2 hb)
  rw [has_eq n (gix K hK).1, bz_f g]
theorem boxesOf_y {B : Nat → Nat} {T m x p e : Nat} {σ : Mem} (n : Nat) (h : GI B T m σ) (hb : Blk B m 0 x p e) : f_X3_boxesOf n 16 (nI x) σ = some (nI (B (p + 1)), σ) := by
  obtain ⟨b1, b2, b3, b4, b5, b6⟩ := h.bk hb
  obtain ⟨c, c1, c2, c3, c4⟩ := b6.1 rfl
  have mk : mxK 0 = 20 := rfl
  unfold f_X3_boxesOf b_X3_boxesOf_33
  rw [show f_X2_has n (16 + 3) (nI x) σ = some (1, σ) from h.has n (K := 0) (by decide) hb, bd_mk, if_neg n10, ck_t (inb_nI (by omega) (by decide)), nI_clamp (by omega), show σ (16 + 4) x = nI p from ((h.2.1 0 (by decide) x b2).1 p e hb).1, nI_1, show f_X8_at n (16 + 1) (nI (p + 1)) σ = _ from h.at n (by omega), bd_mk]
theorem boxesOf_n {B : Nat → Nat} {T m x : Nat} {σ : Mem} (n : Nat) (h : GI B T m σ) (hx : x ≤ 20) (hb : ¬ ∃ p e, Blk B m 0 x p e) : f_X3_boxesOf n 16 (nI x) σ = some (0, σ) := by
  unfold f_X3_boxesOf b_X3_boxesOf_33
  rw [show f_X2_has n (16 + 3) (nI x) σ = some (0, σ) from h.hasn n (K := 0) (by decide) hx hb, bd_mk, if_pos rfl]
theorem boxByte_y {B : Nat → Nat} {T m x p e b w : Nat} {σ : Mem} {y : Int32} (n : Nat) (h : GI B T m σ) (hb : Blk B m 0 x p e) (hk : b < B (p + 1)) (hw : w < 5) (ey : y = nI w) : f_X3_boxByte n 16 (nI x) (nI b) y σ = some (nI (B (p + 2 + 5 * b + w)), σ) := by
  obtain ⟨b1, b2, b3, b4, b5, b6⟩ := h.bk hb
  obtain ⟨c, c1, c2, c3, c4⟩ := b6.1 rfl
  have mk : mxK 0 = 20 := rfl
  subst ey
  unfold f_X3_boxByte
  have ex : nI p + (2 : Int32) + (5 : Int32) * nI b + nI w = nI (p + 2 + 5 * b + w) := by
    show nI p + nI 2 + nI 5 * nI b + nI w = _
    rw [pk_mul, nI_add, nI_add, nI_add]
  rw [show f_X2_has n (16 + 3) (nI x) σ = some (1, σ) from h.has n (K := 0) (by decide) hb, bd_mk, if_neg n10, ck_t (inb_nI (by omega) (by decide)), nI_clamp (by omega), show σ (16 + 4) x = nI p from ((h.2.1 0 (by decide) x b2).1 p e hb).1, ex, show f_X8_at n (16 + 1) (nI (p + 2 + 5 * b + w)) σ = _ from h.at n (by omega), bd_mk]
/-! two boxes touch -/
def gapN (a0 a1 b0 b1 : Nat) : Nat := max a0 b0 - min a1 b1
theorem gap_I (a0 a1 b0 b1 : Nat) : gapI a0 a1 b0 b1 = ((gapN a0 a1 b0 b1 : Nat) : Int) := by
  unfold gapI gapN
  omega
theorem mxI {a b : Nat} (ha : a ≤ 255) (hb : b ≤ 255) : (if nI a < nI b then nI b else nI a) = nI (max a b) := by
  by_cases q : a < b
  · rw [if_pos (nI_lt q (by omega))]; congr 1; omega
  · rw [if_neg (nI_nlt (by omega) (by omega))]; congr 1; omega
theorem mnI {a b : Nat} (ha : a ≤ 255) (hb : b ≤ 255) : (if nI b < nI a then nI b else nI a) = nI (min a b) := by
  by_cases q : b < a
  · rw [if_pos (nI_lt q (by omega))]; congr 1; omega
  · rw [if_neg (nI_nlt (by omega) (by omega))]; congr 1; omega
theorem sbI {a b : Nat} (ha : a ≤ 255) (hb : b ≤ 255) : (if (0 : Int32) < nI a - nI b then nI a - nI b else 0) = nI (a - b) := by
  by_cases q : b < a
  · rw [pk_sub (by omega), if_pos (show (0 : Int32) < nI (a - b) from nI_lt (a := 0) (by omega) (by omega))]
  · have e : a - b = 0 := by omega
    rw [e]
    by_cases q2 : a = b
    · subst q2
      rw [pk_sub (by omega), show a - a = 0 by omega, if_neg (by decide)]
      rfl
    · have t : (nI a - nI b).toInt = (a : Int) - b := pk_sub_toInt (by omega) (by omega)
      rw [if_neg (fun w => by have := lt_T.mp w; rw [t] at this; have z0 : (0 : Int32).toInt = 0 := rfl; omega)]
      rfl
def sdC (σ : Mem) (k : Nat) (a0 a1 a2 a3 : Nat) : Prop := σ 111 k = nI a0 ∧ σ 112 k = nI a1 ∧ σ 113 k = nI a2 ∧ σ 114 k = nI a3 ∧ a0 ≤ 255 ∧ a1 ≤ 255 ∧ a2 ≤ 255 ∧ a3 ≤ 255
theorem touch_eq (n : Nat) {i j a0 a1 a2 a3 b0 b1 b2 b3 : Nat} {s : Mem} (hi : i < 336) (hj : j < 336) (ha : sdC s i a0 a1 a2 a3) (hb : sdC s j b0 b1 b2 b3) : f_X1_touch n (nI i) (nI j) s = some (if gapN a0 a2 b0 b2 + gapN a1 a3 b1 b3 ≤ 1 then 1 else 0, s) := by
  obtain ⟨p0, p1, p2, p3, q0, q1, q2, q3⟩ := ha
  obtain ⟨r0, r1, r2, r3, t0, t1, t2, t3⟩ := hb
  unfold f_X1_touch b_X1_touch_86
  simp only [ck_t (inb_nI hi (show 336 < 2 ^ 31 by decide)), ck_t (inb_nI hj (show 336 < 2 ^ 31 by decide)), nI_clamp (show i < 2 ^ 31 by omega), nI_clamp (show j < 2 ^ 31 by omega), lt_eq, p0, p1, p2, p3, r0, r1, r2, r3]
  rw [mxI q0 t0, mnI q2 t2, sbI (by omega) (by omega), mxI q1 t1, mnI q3 t3, sbI (by omega) (by omega), nI_add, ckz0, ckz1]
  show (if nI 1 < nI (gapN a0 a2 b0 b2 + gapN a1 a3 b1 b3) then _ else _) = _
  have g1 : gapN a0 a2 b0 b2 ≤ 255 := by unfold gapN; omega
  have g2 : gapN a1 a3 b1 b3 ≤ 255 := by unfold gapN; omega
  by_cases q : gapN a0 a2 b0 b2 + gapN a1 a3 b1 b3 ≤ 1
  · rw [if_neg (nI_nlt q (by omega)), if_pos q]
  · rw [if_pos (nI_lt (by omega) (by omega)), if_neg q]
/-- all sides of a room's boxes, as numbers -/
def SdR (r c : Nat) (f : Nat → Nat → Nat) (σ : Mem) : Prop := ∀ b, b < c → sdC σ (16 * r + b) (f b 0) (f b 1) (f b 2) (f b 3)
def nrN (f : Nat → Nat → Nat) (b d : Nat) : Prop := gapN (f b 0) (f b 2) (f d 0) (f d 2) + gapN (f b 1) (f b 3) (f d 1) (f d 3) ≤ 1
theorem nb_in {r c b : Nat} {f : Nat → Nat → Nat} (hr : r < 21) (hc : c ≤ 16) (hb : b < c) (k7 : Int32 → Int32 → Int32 → Mem → Option Mem) : ∀ (d j M : Nat) (s : Mem), j + d = c → d < M → s 110 r = nI c → SdR r c f s → (∀ i, i < 32 → (tb (s 115 (16 * r + b)) i = true ↔ i < j ∧ nrN f b i)) → ∃ s', itr4 (b_X1_findNeighbours_29 k7) M (nI r) (nI (16 * r)) (nI b) (nI j) s = k7 (nI r) (nI (16 * r)) (nI (b + 1)) s' ∧ (∀ z, z ≠ 115 → s' z = s z) ∧ (∀ z, z ≠ 16 * r + b → s' 115 z = s 115 z) ∧ ∀ i, i < 32 → (tb (s' 115 (16 * r + b)) i = true ↔ i < c ∧ nrN f b i) := by
  intro d
  induction d with
  | zero =>
    intro j M s hj hM h0 hs ht
    have e : j = c := by omega
    subst e
    obtain ⟨M, rfl⟩ : ∃ m', M = m' + 1 := ⟨M - 1, by omega⟩
    refine ⟨s, ?_, fun _ _ => rfl, fun _ _ => rfl, ht⟩
    show b_X1_findNeighbours_29 k7 M (itr4 (b_X1_findNeighbours_29 k7) M) _ _ _ _ s = _
    generalize itr4 (b_X1_findNeighbours_29 k7) M = w
    unfold b_X1_findNeighbours_29
    rw [ck_t (inb_nI hr (by decide)), nI_clamp (by omega), h0, if_pos (nI_le (by omega) (by omega)), lt_eq, show nI b + Int32.ofInt 1 = nI (b + 1) from nI_1 b]
  | succ d ih =>
    intro j M s hj hM h0 hs ht
    obtain ⟨M, rfl⟩ : ∃ m', M = m' + 1 := ⟨M - 1, by omega⟩
    have ih' := fun s => ih (j + 1) M s (by omega) (by omega)
    show ∃ s', b_X1_findNeighbours_29 k7 M (itr4 (b_X1_findNeighbours_29 k7) M) _ _ _ _ s = _ ∧ _
    generalize itr4 (b_X1_findNeighbours_29 k7) M = w at ih' ⊢
    unfold b_X1_findNeighbours_29 b_X1_findNeighbours_69
    rw [ck_t (inb_nI hr (by decide)), nI_clamp (by omega), h0, if_neg (nI_ge (by omega) (by omega)), nI_add, nI_add, touch_eq M (show 16 * r + b < 336 by omega) (show 16 * r + j < 336 by omega) (hs b hb) (hs j (by omega)), bd_mk]
    simp only [lt_eq]
    rw [ck_t (inb_nI (show 16 * r + b < 336 by omega) (by decide)), ck_t (inb_nI (show 16 * r + b < 336 by omega) (by decide)), nI_clamp (show 16 * r + b < 2 ^ 31 by omega), show nI j + Int32.ofInt 1 = nI (j + 1) from nI_1 j]
    by_cases q : nrN f b j
    · have q' : gapN (f b 0) (f b 2) (f j 0) (f j 2) + gapN (f b 1) (f b 3) (f j 1) (f j 3) ≤ 1 := q
      rw [if_pos q', if_neg n10]
      obtain ⟨s', x1, x2, x3, x4⟩ := ih' (stM s 115 (16 * r + b) (s 115 (16 * r + b) ||| (1 : Int32) <<< (nI j &&& 31))) (by rw [stM_ne (by decide)]; exact h0) (fun b' hb' => by
        obtain ⟨y0, y1, y2, y3, y4⟩ := hs b' hb'
        exact ⟨by rw [stM_ne (by decide)]; exact y0, by rw [stM_ne (by decide)]; exact y1, by rw [stM_ne (by decide)]; exact y2, by rw [stM_ne (by decide)]; exact y3, y4⟩) (fun i hi => by
        rw [stM_hit, tb_or, tb_one j (by omega) i hi]
        have := ht i hi
        by_cases e : i = j
        · subst e
          simp only [decide_true, Bool.or_true, true_iff]
          exact ⟨by omega, q⟩
        · rw [decide_eq_false e, Bool.or_false, this]
          exact ⟨fun w => ⟨by omega, w.2⟩, fun w => ⟨by omega, w.2⟩⟩)
      exact ⟨s', x1, fun z hz => by rw [x2 z hz, stM_ne hz], fun z hz => by rw [x3 z hz, stM_far (Or.inr hz)], x4⟩
    · have q' : ¬ gapN (f b 0) (f b 2) (f j 0) (f j 2) + gapN (f b 1) (f b 3) (f j 1) (f j 3) ≤ 1 := q
      rw [if_neg q', if_pos rfl]
      exact ih' s h0 hs (fun i hi => by
        rw [ht i hi]
        refine ⟨fun w => ⟨by omega, w.2⟩, fun w => ⟨?_, w.2⟩⟩
        by_cases e : i = j
        · exact absurd (by rw [← e]; exact w.2) q
        · omega)
theorem nb_out {r c : Nat} {f : Nat → Nat → Nat} (hr : r < 21) (hc : c ≤ 16) : ∀ (d b M : Nat) (s : Mem), b + d = c → d + 20 < M → s 110 r = nI c → SdR r c f s → ∃ s', itr3 b_X1_findNeighbours_7 M (nI r) (nI (16 * r)) (nI b) s = some s' ∧ (∀ z, z ≠ 115 → s' z = s z) ∧ (∀ z, z < 16 * r + b ∨ 16 * r + c ≤ z → s' 115 z = s 115 z) ∧ ∀ b', b ≤ b' → b' < c → ∀ i, i < 32 → (tb (s' 115 (16 * r + b')) i = true ↔ i < c ∧ nrN f b' i) := by
  intro d
  induction d with
  | zero =>
    intro b M s hb hM h0 hs
    have e : b = c := by omega
    subst e
    obtain ⟨M, rfl⟩ : ∃ m', M = m' + 1 := ⟨M - 1, by omega⟩
    refine ⟨s, ?_, fun _ _ => rfl, fun _ _ => rfl, fun b' h1 h2 => by omega⟩
    show b_X1_findNeighbours_7 M (itr3 b_X1_findNeighbours_7 M) _ _ _ s = _
    generalize itr3 b_X1_findNeighbours_7 M = w
    unfold b_X1_findNeighbours_7
    rw [ck_t (inb_nI hr (by decide)), nI_clamp (by omega), h0, if_pos (nI_le (by omega) (by omega))]
  | succ d ih =>
    intro b M s hb hM h0 hs
    obtain ⟨M, rfl⟩ : ∃ m', M = m' + 1 := ⟨M - 1, by omega⟩
    have ih' := fun s => ih (b + 1) M s (by omega) (by omega)
    show ∃ s', b_X1_findNeighbours_7 M (itr3 b_X1_findNeighbours_7 M) _ _ _ s = _ ∧ _
    generalize itr3 b_X1_findNeighbours_7 M = w at ih' ⊢
    unfold b_X1_findNeighbours_7
    rw [ck_t (inb_nI hr (by decide)), nI_clamp (by omega), h0, if_neg (nI_ge (by omega) (by omega)), nI_add, ck_t (inb_nI (by omega) (by decide)), nI_clamp (by omega), lt_eq, show (0 : Int32) = nI 0 from rfl]
    have sd1 : SdR r c f (stM s 115 (16 * r + b) (nI 0)) := fun b' hb' => by
      obtain ⟨y0, y1, y2, y3, y4⟩ := hs b' hb'
      exact ⟨by rw [stM_ne (by decide)]; exact y0, by rw [stM_ne (by decide)]; exact y1, by rw [stM_ne (by decide)]; exact y2, by rw [stM_ne (by decide)]; exact y3, y4⟩
    obtain ⟨s1, x1, x2, x3, x4⟩ := nb_in hr hc (show b < c by omega) w c 0 M (stM s 115 (16 * r + b) (nI 0)) (by omega) (by omega) (by rw [stM_ne (by decide)]; exact h0) sd1 (fun i hi => by
      rw [stM_hit]
      have : tb (nI 0) i = false := tb_zero i
      rw [this]
      exact ⟨fun w => absurd w (by decide), fun w => by omega⟩)
    rw [x1]
    obtain ⟨s2, y1, y2, y3, y4⟩ := ih' s1 (by rw [x2 110 (by decide), stM_ne (by decide)]; exact h0) (fun b' hb' => by
      obtain ⟨y0, y1, y2, y3, y4⟩ := sd1 b' hb'
      exact ⟨by rw [x2 111 (by decide)]; exact y0, by rw [x2 112 (by decide)]; exact y1, by rw [x2 113 (by decide)]; exact y2, by rw [x2 114 (by decide)]; exact y3, y4⟩)
    refine ⟨s2, y1, fun z hz => by rw [y2 z hz, x2 z hz, stM_ne hz], fun z hz => ?_, fun b' h1 h2 i hi => ?_⟩
    · rw [y3 z (by omega), x3 z (by omega), stM_far (Or.inr (by omega))]
    · by_cases e : b' = b
      · subst e
        rw [y3 (16 * r + b') (by omega)]
        exact x4 i hi
      · exact y4 b' (by omega) h2 i hi
