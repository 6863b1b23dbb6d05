/-! ===== play: both houses stand alike ===== -/
theorem PlayR.mk2 {B : Nat → Nat} {T m : Nat} {σ τ τ3 : Mem} (hg : GI B T m σ) (hl : ∀ r, r < 21 → LR B m r σ) (h : LI B m τ3 τ) (ht : TB B T τ) (hc : ∀ K, K < 4 → σ (19 + 3 * K) 2 = nI (cntB B K m)) : PlayR σ τ T := by
  obtain ⟨l1, l2, l3, l4, l5, l6, l7, l8, l9, l10⟩ := h
  have T6 := hg.2.2.2.1
  have n0 : ∀ K, K < 4 → σ (20 + 3 * K) 0 = 0 := fun K hK => (hg.2.1 K hK 0 (by omega)).2 (fun ⟨p, e, hb⟩ => by have := (hg.bk hb).1; omega)
  refine ⟨⟨?_, ?_, ?_, ?_⟩, ?_, ?_, ?_, ?_, n0 0 (by decide), n0 1 (by decide), n0 2 (by decide), n0 3 (by decide)⟩
  · rw [l3 0 (by decide)]; exact hc 0 (by decide)
  · rw [l3 1 (by decide)]; exact hc 1 (by decide)
  · rw [l3 2 (by decide)]; exact hc 2 (by decide)
  · rw [l3 3 (by decide)]; exact hc 3 (by decide)
  · intro q hq
    obtain ⟨g1, g2⟩ := hg.2.1 1 (by decide) q (by show q ≤ 60; omega)
    obtain ⟨s1, s2⟩ := l5 q hq
    by_cases c : ∃ p e, Blk B m 1 q p e
    · obtain ⟨p, e, hb⟩ := c
      obtain ⟨b1, b2, b3, b4, b5, b6⟩ := hg.bk hb
      have k1 := b6.2.1 rfl
      obtain ⟨x1, x2⟩ := g1 p e hb
      obtain ⟨y1, y2⟩ := s1 p e hb
      exact Or.inr ⟨p, e, by omega, by omega, b5, x1, x2, y1, y2⟩
    · exact Or.inl ⟨g2 c, s2 c⟩
  · intro q hq
    obtain ⟨g1, g2⟩ := hg.2.1 2 (by decide) q (by show q ≤ 60; omega)
    obtain ⟨s1, s2⟩ := l6 q hq
    by_cases c : ∃ p e, Blk B m 2 q p e
    · obtain ⟨p, e, hb⟩ := c
      obtain ⟨b1, b2, b3, b4, b5, b6⟩ := hg.bk hb
      obtain ⟨k1, v, k2⟩ := b6.2.2.1 rfl
      obtain ⟨x1, x2⟩ := g1 p e hb
      obtain ⟨y1, y2, y3, y4, y5⟩ := s1 p e hb
      refine Or.inr ⟨p, v, by omega, by omega, x1, by rw [← k2]; exact x2, y1, fun i hi => by rw [y2 i hi, (ht (p + 1 + i) (by omega)).1], y4, ?_⟩
      rw [y5, show (e - p - 5) / 2 = v by omega]
    · exact Or.inl ⟨g2 c, (s2 c).1⟩
  · intro q hq
    obtain ⟨g1, g2⟩ := hg.2.1 3 (by decide) q (by show q ≤ 12; omega)
    obtain ⟨s1, s2⟩ := l7 q hq
    by_cases c : ∃ p e, Blk B m 3 q p e
    · obtain ⟨p, e, hb⟩ := c
      obtain ⟨b1, b2, b3, b4, b5, b6⟩ := hg.bk hb
      obtain ⟨x1, x2⟩ := g1 p e hb
      exact Or.inr ⟨by rw [show (29 : Nat) = 20 + 3 * 3 from rfl, x1]; exact nI_ne0 (by omega) (by omega), (s1 p e hb).1⟩
    · exact Or.inl ⟨g2 c, (s2 c).1⟩
  · intro r hr
    obtain ⟨u1, u2⟩ := hl r hr
    obtain ⟨s1, s2⟩ := l4 r hr
    by_cases c : ∃ p e, Blk B m 0 r p e
    · obtain ⟨p, e, hb⟩ := c
      obtain ⟨b1, b2, b3, b4, b5, b6⟩ := hg.bk hb
      obtain ⟨cc, c1, c2, c3, c4⟩ := b6.1 rfl
      obtain ⟨x1, x2, x3⟩ := u1 p e hb
      obtain ⟨y1, y2, y3⟩ := s1 p e hb
      rw [c2] at x1 x2 x3 y1 y2 y3
      have sd : ∀ b, b < cc → ∀ i, i < 4 → sdM τ (16 * r + b) i = (fB B p b i : Int) := fun b hb i hi => by
        unfold sdM
        rw [y2 b hb i hi, nI_toInt (by have := (ht (p + 2 + 5 * b + i) (by omega)).2; omega)]
        rfl
      refine ⟨cc, c1, fun e0 => by omega, x1, y1, fun b hb => ?_⟩
      obtain ⟨z0, z1, z2, z3, w0, w1, w2, w3⟩ := x2 b hb
      have kk := c4 b hb
      have e0 := y2 b hb 0 (by decide)
      have e1 := y2 b hb 1 (by decide)
      have e2 := y2 b hb 2 (by decide)
      have e3 := y2 b hb 3 (by decide)
      have f0 : fB B p b 0 = B (p + 2 + 5 * b) := rfl
      have f1 : fB B p b 1 = B (p + 3 + 5 * b) := by unfold fB; congr 1; omega
      have f2 : fB B p b 2 = B (p + 4 + 5 * b) := by unfold fB; congr 1; omega
      have f3 : fB B p b 3 = B (p + 5 + 5 * b) := by unfold fB; congr 1; omega
      have lo : 0 ≤ (σ 115 (16 * r + b)).toInt ∧ (σ 115 (16 * r + b)).toInt < 65536 := tb_lo (fun i h1 h2 => by
        have := x3 b hb i h2
        cases q : tb (σ 115 (16 * r + b)) i with
        | false => rfl
        | true => have := (this.mp q).1; omega)
      refine ⟨⟨by rw [z0, ← Nat.add_zero (4 * (16 * r + b)), e0]; rfl, by rw [z1, e1]; rfl, by rw [z2, e2]; rfl, by rw [z3, e3]; rfl, ?_, ?_, ?_, ?_, ?_, ?_⟩, lo.1, lo.2, fun d hd => ⟨bitI_bit hd lo, ?_⟩⟩
      · rw [sd b hb 0 (by decide)]; omega
      · rw [sd b hb 0 (by decide), sd b hb 2 (by decide)]; omega
      · rw [sd b hb 2 (by decide)]; omega
      · rw [sd b hb 1 (by decide)]; omega
      · rw [sd b hb 1 (by decide), sd b hb 3 (by decide)]; omega
      · rw [sd b hb 3 (by decide)]; omega
      · rw [bit1 (by omega), x3 b hb d (by omega)]
        constructor
        · rintro ⟨h1, h2⟩
          refine ⟨h1, ?_⟩
          unfold nearP
          rw [sd b hb 0 (by decide), sd b hb 1 (by decide), sd b hb 2 (by decide), sd b hb 3 (by decide), sd d h1 0 (by decide), sd d h1 1 (by decide), sd d h1 2 (by decide), sd d h1 3 (by decide), gap_I, gap_I]
          unfold nrN at h2
          omega
        · rintro ⟨h1, h2⟩
          refine ⟨h1, ?_⟩
          unfold nearP at h2
          rw [sd b hb 0 (by decide), sd b hb 1 (by decide), sd b hb 2 (by decide), sd b hb 3 (by decide), sd d h1 0 (by decide), sd d h1 1 (by decide), sd d h1 2 (by decide), sd d h1 3 (by decide), gap_I, gap_I] at h2
          unfold nrN
          omega
    · exact ⟨0, by omega, fun _ => rfl, u2 c, (s2 c).1, fun b hb => by omega⟩
theorem StR.mk2 {B : Nat → Nat} {T m : Nat} {σ τ τ3 : Mem} (hg : GI B T m σ) (hs : ST0 B m σ) (h : LI B m τ3 τ) (h3 : ∀ z, z < 781 → τ3 15 z = if z = 1 then 1 else 0) : StR σ 33 (τ 15) := by
  obtain ⟨l1, l2, l3, l4, l5, l6, l7, l8, l9, l10⟩ := h
  obtain ⟨s1, s2, s3, s4, s5, s6, s7⟩ := hs
  have z0 : (0 : Int32).toInt = 0 := rfl
  refine ⟨fun j hj => ?_, fun i hi => ?_, fun i hi j hj => ?_, fun i hi j hj => ?_, fun j hj => ?_, fun j _ hj => ?_, fun a ha j hj => ?_, fun a ha e => ?_, fun o ho => ?_, fun o ho => ?_, fun r hr i hi => ?_⟩
  · rw [l8 j (by omega), h3 j (by omega), s1 j hj]
  · rw [l8 _ (by omega), h3 _ (by omega), if_neg (by omega)]; exact (s2 i hi).symm
  · rw [l8 _ (by omega), h3 _ (by omega), if_neg (by omega)]; exact ((s4 i hi).1 j hj).symm
  · rw [l8 _ (by omega), h3 _ (by omega), if_neg (by omega)]; exact ((s4 i hi).2 j hj).symm
  · rw [s1 5 (by decide), if_neg (by decide), z0] at hj; omega
  · rw [s1 2 (by decide), if_neg (by decide), z0] at hj; omega
  · obtain ⟨⟨v, v1, v2, v3, -⟩, v4, v5, v6⟩ := s6 a ha
    obtain ⟨a1, a2⟩ := l7 a ha
    by_cases e : j = 4
    · subst e
      rw [l9 a ha 4 (by decide) (by decide)]; exact v4.symm
    · show _ = σ (58 + a) j
      rw [v1 j (by omega)]
      by_cases c : ∃ p e, Blk B m 3 a p e
      · obtain ⟨p, e, hb⟩ := c
        rw [(a1 p e hb).2 j (by omega), v2 p e hb j (by omega)]
      · rw [(a2 c).2 j (by omega), v3 c j]; rfl
  · obtain ⟨-, v4, v5, v6⟩ := s6 a ha
    have e' : σ (58 + a) 4 = 1 := e
    rw [v4] at e'
    exact absurd e' (by decide)
  · obtain ⟨u1, u2⟩ := s5 o ho
    obtain ⟨a1, a2⟩ := l6 o ho
    show _ = σ 37 o
    by_cases c : ∃ p e, Blk B m 2 o p e
    · obtain ⟨p, e, hb⟩ := c
      rw [(a1 p e hb).2.2.1, u1 p e hb]
    · rw [(a2 c).2, u2 c]
  · rw [l10 _ (by omega) (by omega)]; exact (s3 o ho).symm
  · obtain ⟨u1, u2⟩ := s7 r hr
    obtain ⟨a1, a2⟩ := l4 r hr
    show _ = bitI (σ 39 r) i
    rw [tb_bit (by omega)]
    by_cases c : ∃ p e, Blk B m 0 r p e
    · obtain ⟨p, e, hb⟩ := c
      obtain ⟨b1, b2, b3, b4, b5, b6⟩ := hg.bk hb
      obtain ⟨cc, c1, c2, c3, c4⟩ := b6.1 rfl
      rw [(a1 p e hb).2.2 i hi]
      have x := u1 p e hb i (by omega)
      by_cases q : i < B (p + 1)
      · rw [if_pos q]
        have k1 := (c4 i (by omega)).2.2
        by_cases w : B (p + 6 + 5 * i) = 1
        · rw [if_pos (x.mpr ⟨q, w⟩), w]; rfl
        · rw [if_neg (fun y => w (x.mp y).2), show B (p + 6 + 5 * i) = 0 by omega]; rfl
      · rw [if_neg q, if_neg (fun y => q (x.mp y).1)]
    · rw [(a2 c).2 i hi, u2 c, tb_zero]; rfl
theorem StI.mk2 {B : Nat → Nat} {T m : Nat} {σ : Mem} (t : Nat) (hg : GI B T m σ) (hs : ST0 B m σ) : StI σ 33 t := by
  obtain ⟨s1, s2, s3, s4, s5, s6, s7⟩ := hs
  have z0 : (0 : Int32).toInt = 0 := rfl
  have e5 : (σ 33 5).toInt = 0 := by rw [s1 5 (by decide), if_neg (by decide)]; rfl
  have e2 : (σ 33 2).toInt = 0 := by rw [s1 2 (by decide), if_neg (by decide)]; rfl
  refine ⟨by omega, by omega, by omega, by omega, fun i hi => ?_, fun a ha => ?_, fun r hr => ?_⟩
  · obtain ⟨x1, x2⟩ := s4 i hi
    unfold SlotI
    rw [show 33 + 9 + 2 * i = 42 + 2 * i by omega, show 42 + 2 * i + 1 = 43 + 2 * i by omega, x1 0 (by decide), x1 1 (by decide), x1 2 (by decide), x1 3 (by decide), x1 4 (by decide), x1 5 (by decide)]
    exact ⟨okZ0, okZ0, fun _ => ⟨rfl, rfl, rfl, rfl, rfl, x2⟩, fun w => absurd rfl w, by decide, by decide, Or.inl rfl⟩
  · obtain ⟨⟨v, v1, v2, v3, w0, w1, w2, w3⟩, v4, v5, v6⟩ := s6 a ha
    unfold ActI
    rw [show 33 + 25 + a = 58 + a by omega, v4, v5, v6, v1 0 (by decide), v1 1 (by decide), v1 2 (by decide), v1 3 (by decide)]
    exact ⟨⟨v 0, v 1, v 2, v 3, rfl, w0, rfl, w1, rfl, w2, rfl, w3⟩, okZ0, fun w => absurd w (by decide), fun _ _ => ⟨rfl, rfl⟩⟩
  · obtain ⟨u1, u2⟩ := s7 r hr
    show 0 ≤ (σ 39 r).toInt ∧ (σ 39 r).toInt < 65536
    by_cases c : ∃ p e, Blk B m 0 r p e
    · obtain ⟨p, e, hb⟩ := c
      obtain ⟨b1, b2, b3, b4, b5, b6⟩ := hg.bk hb
      obtain ⟨cc, c1, c2, c3, c4⟩ := b6.1 rfl
      refine tb_lo (fun i h1 h2 => ?_)
      have := u1 p e hb i h2
      cases q : tb (σ 39 r) i with
      | false => rfl
      | true => have := (this.mp q).1; omega
    · rw [u2 c]; decide
