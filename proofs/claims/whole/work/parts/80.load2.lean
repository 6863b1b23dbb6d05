/-! ===== play: the model loads all ===== -/
theorem LIr.keep {B : Nat → Nat} {k : Nat} {τ τ' : Mem} (h : LIr B k τ) (hK : tgK (B (posB B k)) ≠ 0) (h4 : τ' 4 = τ 4) (h5 : τ' 5 = τ 5) (h15 : ∀ z, 445 ≤ z → z < 781 → τ' 15 z = τ 15 z) : LIr B (k + 1) τ' := by
  intro r hr
  obtain ⟨a, b⟩ := h r hr
  rw [h4, h5]
  refine ⟨fun p e hb => ?_, fun w => ?_⟩
  · rw [Blk_o (fun w => hK w.1)] at hb
    obtain ⟨a1, a2, a3⟩ := a p e hb
    exact ⟨a1, a2, fun b hb => by rw [h15 _ (by omega) (by omega)]; exact a3 b hb⟩
  · have w2 : ¬ ∃ p e, Blk B k 0 r p e := fun ⟨p, e, hb⟩ => w ⟨p, e, (Blk_o (fun w => hK w.1)).mpr hb⟩
    exact ⟨(b w2).1, fun c hc => by rw [h15 _ (by omega) (by omega)]; exact (b w2).2 c hc⟩
theorem LIs.keep {B : Nat → Nat} {k : Nat} {τ τ' : Mem} (h : LIs B k τ) (hK : tgK (B (posB B k)) ≠ 1) (h6 : τ' 6 = τ 6) (h7 : τ' 7 = τ 7) : LIs B (k + 1) τ' := by
  intro r hr
  obtain ⟨a, b⟩ := h r hr
  rw [h6, h7]
  refine ⟨fun p e hb => ?_, fun w => ?_⟩
  · rw [Blk_o (fun w => hK w.1)] at hb
    exact a p e hb
  · exact b (fun ⟨p, e, hb⟩ => w ⟨p, e, (Blk_o (fun w => hK w.1)).mpr hb⟩)
theorem LIo.keep {B : Nat → Nat} {k : Nat} {τ τ' : Mem} (h : LIo B k τ) (hK : tgK (B (posB B k)) ≠ 2) (h8 : τ' 8 = τ 8) (h9 : τ' 9 = τ 9) (h10 : τ' 10 = τ 10) (h11 : τ' 11 = τ 11) (h15 : ∀ z, 323 ≤ z → z < 384 → τ' 15 z = τ 15 z) : LIo B (k + 1) τ' := by
  intro r hr
  obtain ⟨a, b⟩ := h r hr
  rw [h8, h9, h10, h11, h15 _ (by omega) (by omega)]
  refine ⟨fun p e hb => ?_, fun w => ?_⟩
  · rw [Blk_o (fun w => hK w.1)] at hb
    exact a p e hb
  · exact b (fun ⟨p, e, hb⟩ => w ⟨p, e, (Blk_o (fun w => hK w.1)).mpr hb⟩)
theorem LIa.keep {B : Nat → Nat} {k : Nat} {τ τ' : Mem} (h : LIa B k τ) (hK : tgK (B (posB B k)) ≠ 3) (h12 : τ' 12 = τ 12) (h15 : ∀ z, 232 ≤ z → z < 323 → τ' 15 z = τ 15 z) : LIa B (k + 1) τ' := by
  intro r hr
  obtain ⟨a, b⟩ := h r hr
  rw [h12]
  refine ⟨fun p e hb => ?_, fun w => ?_⟩
  · rw [Blk_o (fun w => hK w.1)] at hb
    exact ⟨(a p e hb).1, fun i hi => by rw [h15 _ (by omega) (by omega)]; exact (a p e hb).2 i hi⟩
  · have w2 : ¬ ∃ p e, Blk B k 3 r p e := fun ⟨p, e, hb⟩ => w ⟨p, e, (Blk_o (fun w => hK w.1)).mpr hb⟩
    exact ⟨(b w2).1, fun i hi => by rw [h15 _ (by omega) (by omega)]; exact (b w2).2 i hi⟩
def LI (B : Nat → Nat) (k : Nat) (τ3 τ : Mem) : Prop := (∀ z, z ≠ 0 → z ≠ 3 → z ≠ 4 → z ≠ 5 → z ≠ 6 → z ≠ 7 → z ≠ 8 → z ≠ 9 → z ≠ 10 → z ≠ 11 → z ≠ 12 → z ≠ 15 → τ z = τ3 z) ∧ (∀ j, j < 5 ∨ 9 ≤ j → τ 0 j = τ3 0 j) ∧ (∀ K, K < 4 → τ 0 (5 + K) = nI (cntB B K k)) ∧ LIr B k τ ∧ LIs B k τ ∧ LIo B k τ ∧ LIa B k τ ∧ (∀ z, z < 232 → τ 15 z = τ3 15 z) ∧ (∀ a, a < 13 → ∀ i, 4 ≤ i → i < 7 → τ 15 (232 + 7 * a + i) = 0) ∧ ∀ z, 384 ≤ z → z < 445 → τ 15 z = 0
theorem cnt_s {B : Nat → Nat} {k : Nat} {τ τ' : Mem} (h : ∀ K, K < 4 → τ 0 (5 + K) = nI (cntB B K k)) (h0 : ∀ j, j ≠ 5 + tgK (B (posB B k)) → τ' 0 j = τ 0 j) (h1 : τ' 0 (5 + tgK (B (posB B k))) = τ 0 (5 + tgK (B (posB B k))) + 1) : ∀ K, K < 4 → τ' 0 (5 + K) = nI (cntB B K (k + 1)) := by
  intro K hK
  show _ = nI (cntB B K k + if tgK (B (posB B k)) = K then 1 else 0)
  by_cases c : tgK (B (posB B k)) = K
  · rw [if_pos c, ← c, h1, h _ (tgK_lt _), nI_1]
  · rw [if_neg c, h0 _ (by omega), h K hK]
    rfl
theorem ld_step {B : Nat → Nat} {T m k n : Nat} {σ τ3 τ : Mem} (hn : 100 ≤ n) (hg : GI B T m σ) (hk : k < m) (h : LI B k τ3 τ) (ht : TB B T τ) : ∃ τ', f_X11_load n (nI (posB B k)) τ = some τ' ∧ LI B (k + 1) τ3 τ' ∧ τ' 2 = τ 2 := by
  obtain ⟨l1, l2, l3, l4, l5, l6, l7, l8, l9, l10⟩ := h
  obtain ⟨b1, b2, b3, b4, b5⟩ := hg.1 k hk
  have T6 := hg.2.2.2.1
  have pk1 : posB B (k + 1) = nxB B (posB B k) := rfl
  have fr := fresh hg hk
  have bn := fun p e (hb : Blk B (k + 1) (tgK (B (posB B k))) (B (posB B k + 3)) p e) => Blk_n hg hk hb
  have bo := fun (K y : Nat) (hne : ¬ (tgK (B (posB B k)) = K ∧ B (posB B k + 3) = y)) p e => Blk_o (p := p) (e := e) hne
  have bs : Blk B (k + 1) (tgK (B (posB B k))) (B (posB B k + 3)) (posB B k + 3) (posB B (k + 1)) := ⟨k, by omega, rfl, rfl, rfl, rfl⟩
  have cn := fun τ' => cnt_s (B := B) (k := k) (τ := τ) (τ' := τ') l3
  rw [pk1] at bs bn
  generalize hq : posB B k = q at *
  generalize hx : B (q + 3) = x at *
  have lq : nxB B q = q + 3 + lnB B q := rfl
  have tq := ht q (by omega)
  have t1 := ht (q + 1) (by omega)
  have t2 := ht (q + 2) (by omega)
  have t3 := ht (q + 3) (by omega)
  rw [hx] at t3
  have len : (nI (B (q + 1)) <<< ((8 : Int32) &&& 31)) ||| nI (B (q + 2)) = nI (lnB B q) := hl_nat _ t1.2 _ t2.2
  have lnl : lnB B q < 66000 := by unfold lnB; omega
  have PRE : f_X11_load n (nI q) τ = (if B q = 79 then (lt (stM τ 0 7 ((τ 0 7) + (1 : Int32))) (fun s3 => ck (inb (nI x) 61 ∧ okZ (1 : Int32)) (lt (stM s3 8 x (1 : Int32)) (fun s4 => itr4 (b_X11_load_263) n (nI (q + 3)) (nI (lnB B q)) (nI x) (nI 0) s4)))) else (if B q = 82 then (lt (stM τ 0 5 ((τ 0 5) + (1 : Int32))) (fun s5 => ck (inb (nI x) 21 ∧ okZ (1 : Int32)) (lt (stM s5 3 x (1 : Int32)) (fun s6 => ck (inb (nI (q + 3 + 1)) 6000) (ck (inb (nI x) 21) (lt (stM s6 4 x (s6 2 (nI (q + 3 + 1)).toNatClampNeg)) (fun s7 => itr3 (b_X11_load_108) n (nI (q + 3)) (nI x) (nI 0) s7))))))) else (if B q = 83 then (lt (stM τ 0 6 ((τ 0 6) + (1 : Int32))) (fun s8 => ck (inb (nI x) 61) (lt (stM s8 6 x (nI (q + 3 + 1))) (fun s9 => ck (inb (nI x) 61) (lt (stM s9 7 x (nI (lnB B q) - (1 : Int32))) (fun s10 => some s10)))))) else (b_X11_load_342 n (nI (q + 3)) (nI x) τ)))) := by
    unfold f_X11_load
    have x60 : x ≤ 60 := by have := mxK_le _ (tgK_lt (B q)); omega
    rw [show nI q + (3 : Int32) = nI (q + 3) from nI_add q 3, lt_eq, nI_1, show nI q + (2 : Int32) = nI (q + 2) from nI_add q 2, ck_t (inb_nI (by omega) (by decide)), ck_t (inb_nI (by omega) (by decide)), nI_clamp (show q + 1 < 2 ^ 31 by omega), nI_clamp (show q + 2 < 2 ^ 31 by omega), t1.1, t2.1, len, lt_eq, ck_t (inb_nI (by omega) (by decide)), ck_t (inb_nI (by omega) (by decide)), nI_clamp (show q < 2 ^ 31 by omega), nI_clamp (show q + 3 < 2 ^ 31 by omega), tq.1, t3.1, nI_1, nI_clamp (show x < 2 ^ 31 by omega)]
    rcases b1 with c | c | c | c
    · rw [c, if_neg (by decide), if_neg (by decide), if_neg (by decide), if_pos (by decide), if_neg (by decide), if_pos rfl]
      rfl
    · rw [c, if_neg (by decide), if_neg (by decide), if_neg (by decide), if_neg (by decide), if_pos (by decide), if_neg (by decide), if_neg (by decide), if_pos rfl]
      rfl
    · rw [c, if_pos (by decide), if_pos rfl]
      rfl
    · rw [c, if_neg (by decide), if_neg (by decide), if_neg (by decide), if_neg (by decide), if_neg (by decide), if_neg (by decide), if_neg (by decide), if_neg (by decide)]
  rw [PRE]
  rcases b1 with c | c | c | c
  · -- a room
    have tg : tgK (B q) = 0 := by rw [c]; rfl
    rw [tg] at b3 b5 fr bs bn bo cn
    have x21 : x < 21 := by have : mxK 0 = 20 := rfl; omega
    obtain ⟨cc, c1, c2, c3, c4⟩ := b5.1 rfl
    rw [if_neg (by omega), if_pos c, lt_eq, ck_t ⟨inb_nI x21 (by decide), okZ1⟩, lt_eq, ck_t (inb_nI (by omega) (by decide)), ck_t (inb_nI x21 (by decide)), nI_clamp (by omega), stM_ne (show (2 : Nat) ≠ 3 by decide), stM_ne (show (2 : Nat) ≠ 0 by decide), (ht (q + 3 + 1) (by omega)).1, lt_eq]
    obtain ⟨s', x1, x2, x3, x4, x5, x6⟩ := rm_lp (B := B) (T := T) (p := q + 3) (x := x) (c := B (q + 3 + 1)) T6 x21 (by omega) (by omega) (B (q + 3 + 1)) 0 n (stM (stM (stM τ 0 5 (τ 0 5 + 1)) 3 x 1) 4 x (nI (B (q + 3 + 1)))) (by omega) (by omega) (fun j hj => by rw [stM_ne (by decide), stM_ne (by decide), stM_ne (by decide)]; exact ht j hj) (stM_hit _ _ _ _)
    rw [x1]
    have N : ∀ z, z ≠ 0 → z ≠ 3 → z ≠ 4 → z ≠ 5 → z ≠ 15 → s' z = τ z := fun z h0 h3 h4 h5 h15 => by rw [x2 z h5 h15, stM_ne h4, stM_ne h3, stM_ne h0]
    have N0 : ∀ j, j ≠ 5 → s' 0 j = τ 0 j := fun j hj => by rw [x2 0 (by decide) (by decide), stM_ne (by decide), stM_ne (by decide), stM_far (Or.inr hj)]
    have N15 : ∀ j, j < 445 + 16 * x ∨ 445 + 16 * x + B (q + 3 + 1) ≤ j → s' 15 j = τ 15 j := fun j hj => by rw [x5 j (by omega), stM_ne (by decide), stM_ne (by decide), stM_ne (by decide)]
    refine ⟨s', rfl, ⟨fun z h0 h3 h4 h5 h6 h7 h8 h9 h10 h11 h12 h15 => by rw [N z h0 h3 h4 h5 h15]; exact l1 z h0 h3 h4 h5 h6 h7 h8 h9 h10 h11 h12 h15, fun j hj => by rw [N0 j (by omega)]; exact l2 j hj, ?_, ?_, ?_, ?_, ?_, fun z hz => by rw [N15 z (by omega)]; exact l8 z hz, fun a ha i h1 h2 => by rw [N15 _ (by omega)]; exact l9 a ha i h1 h2, fun z h1 h2 => by rw [N15 z (by omega)]; exact l10 z h1 h2⟩, N 2 (by decide) (by decide) (by decide) (by decide) (by decide)⟩
    · refine cn s' (fun j hj => N0 j (by omega)) ?_
      rw [x2 0 (by decide) (by decide), stM_ne (by decide), stM_ne (by decide), stM_hit]
    · intro r hr
      obtain ⟨a, b⟩ := l4 r hr
      by_cases er : r = x
      · subst er
        refine ⟨fun p e hb => ?_, fun w => absurd ⟨_, _, bs⟩ w⟩
        obtain ⟨rfl, rfl⟩ := bn p e hb
        refine ⟨by rw [x2 4 (by decide) (by decide), stM_hit], fun b' hb' i hi => x4 b' (by omega) hb' i hi, fun b' hb' => ?_⟩
        by_cases q1 : b' < B (q + 3 + 1)
        · rw [if_pos q1]; exact x6 b' (by omega) q1
        · rw [if_neg q1, N15 _ (by omega)]
          exact (b fr).2 b' hb'
      · have o := bo 0 r (fun w => er w.2.symm)
        have E5 : ∀ b', b' < 16 → ∀ i, i < 4 → s' 5 (4 * (16 * r + b') + i) = τ 5 (4 * (16 * r + b') + i) := fun b' hb' i hi => by rw [x3 _ (by omega), stM_ne (by decide), stM_ne (by decide), stM_ne (by decide)]
        have E4 : s' 4 r = τ 4 r := by rw [x2 4 (by decide) (by decide), stM_far (Or.inr er), stM_ne (by decide), stM_ne (by decide)]
        refine ⟨fun p e hb => ?_, fun w => ?_⟩
        · rw [o] at hb
          obtain ⟨a1, a2, a3⟩ := a p e hb
          have KO := (hg.bk (Blk_up (by omega) hb)).2.2.2.2.2
          obtain ⟨cc', d1, d2, d3, d4⟩ := KO.1 rfl
          exact ⟨by rw [E4]; exact a1, fun b' hb' i hi => by rw [E5 b' (by omega) i hi]; exact a2 b' hb' i hi, fun b' hb' => by rw [N15 _ (by omega)]; exact a3 b' hb'⟩
        · have w2 : ¬ ∃ p e, Blk B k 0 r p e := fun ⟨p, e, hb⟩ => w ⟨p, e, (o p e).mpr hb⟩
          exact ⟨by rw [E4]; exact (b w2).1, fun b' hb' => by rw [N15 _ (by omega)]; exact (b w2).2 b' hb'⟩
    · exact l5.keep (by rw [hq, tg]; decide) (N 6 (by decide) (by decide) (by decide) (by decide) (by decide)) (N 7 (by decide) (by decide) (by decide) (by decide) (by decide))
    · exact l6.keep (by rw [hq, tg]; decide) (N 8 (by decide) (by decide) (by decide) (by decide) (by decide)) (N 9 (by decide) (by decide) (by decide) (by decide) (by decide)) (N 10 (by decide) (by decide) (by decide) (by decide) (by decide)) (N 11 (by decide) (by decide) (by decide) (by decide) (by decide)) (fun z h1 h2 => N15 z (by omega))
    · exact l7.keep (by rw [hq, tg]; decide) (N 12 (by decide) (by decide) (by decide) (by decide) (by decide)) (fun z h1 h2 => N15 z (by omega))
  · -- a script
    have tg : tgK (B q) = 1 := by rw [c]; rfl
    rw [tg] at b3 b5 fr bs bn bo cn
    have x61 : x < 61 := by have : mxK 1 = 60 := rfl; omega
    have c1 := b5.2.1 rfl
    have e1 : nI (lnB B q) - (1 : Int32) = nI (lnB B q - 1) := pk_sub (b := 1) (by omega)
    rw [if_neg (by omega), if_neg (by omega), if_pos c, lt_eq, ck_t (inb_nI x61 (by decide)), lt_eq, ck_t (inb_nI x61 (by decide)), lt_eq, e1]
    have N : ∀ z, z ≠ 0 → z ≠ 6 → z ≠ 7 → (stM (stM (stM τ 0 6 (τ 0 6 + 1)) 6 x (nI (q + 3 + 1))) 7 x (nI (lnB B q - 1))) z = τ z := fun z h0 h6 h7 => by rw [stM_ne h7, stM_ne h6, stM_ne h0]
    have N0 : ∀ j, j ≠ 6 → (stM (stM (stM τ 0 6 (τ 0 6 + 1)) 6 x (nI (q + 3 + 1))) 7 x (nI (lnB B q - 1))) 0 j = τ 0 j := fun j hj => by rw [stM_ne (by decide), stM_ne (by decide), stM_far (Or.inr hj)]
    refine ⟨_, rfl, ⟨fun z h0 h3 h4 h5 h6 h7 h8 h9 h10 h11 h12 h15 => by rw [N z h0 h6 h7]; exact l1 z h0 h3 h4 h5 h6 h7 h8 h9 h10 h11 h12 h15, fun j hj => by rw [N0 j (by omega)]; exact l2 j hj, ?_, ?_, ?_, ?_, ?_, ?_, ?_, ?_⟩, N 2 (by decide) (by decide) (by decide)⟩
    · refine cn _ (fun j hj => N0 j (by omega)) ?_
      rw [stM_ne (by decide), stM_ne (by decide), stM_hit]
    · exact l4.keep (by rw [hq, tg]; decide) (N 4 (by decide) (by decide) (by decide)) (N 5 (by decide) (by decide) (by decide)) (fun z _ _ => by rw [N 15 (by decide) (by decide) (by decide)])
    · intro r hr
      obtain ⟨a, b⟩ := l5 r hr
      by_cases er : r = x
      · subst er
        refine ⟨fun p e hb => ?_, fun w => absurd ⟨_, _, bs⟩ w⟩
        obtain ⟨rfl, rfl⟩ := bn p e hb
        refine ⟨by rw [stM_ne (by decide), stM_hit], ?_⟩
        rw [stM_hit]
        congr 1
        omega
      · have o := bo 1 r (fun w => er w.2.symm)
        rw [stM_ne (show (6 : Nat) ≠ 7 by decide), stM_far (Or.inr er), stM_far (Or.inr er), stM_ne (show (6 : Nat) ≠ 0 by decide), stM_ne (show (7 : Nat) ≠ 6 by decide), stM_ne (show (7 : Nat) ≠ 0 by decide)]
        exact ⟨fun p e hb => a p e ((o p e).mp hb), fun w => b (fun ⟨p, e, hb⟩ => w ⟨p, e, (o p e).mpr hb⟩)⟩
    · exact l6.keep (by rw [hq, tg]; decide) (N 8 (by decide) (by decide) (by decide)) (N 9 (by decide) (by decide) (by decide)) (N 10 (by decide) (by decide) (by decide)) (N 11 (by decide) (by decide) (by decide)) (fun z _ _ => by rw [N 15 (by decide) (by decide) (by decide)])
    · exact l7.keep (by rw [hq, tg]; decide) (N 12 (by decide) (by decide) (by decide)) (fun z _ _ => by rw [N 15 (by decide) (by decide) (by decide)])
    · rw [N 15 (by decide) (by decide) (by decide)]; exact l8
    · rw [N 15 (by decide) (by decide) (by decide)]; exact l9
    · rw [N 15 (by decide) (by decide) (by decide)]; exact l10
  · -- an object
    have tg : tgK (B q) = 2 := by rw [c]; rfl
    rw [tg] at b3 b5 fr bs bn bo cn
    have x61 : x < 61 := by have : mxK 2 = 60 := rfl; omega
    obtain ⟨c1, v, c2⟩ := b5.2.2.1 rfl
    rw [if_pos c, lt_eq, ck_t ⟨inb_nI x61 (by decide), okZ1⟩, lt_eq]
    obtain ⟨s', x1, x2, x3, x4, x5, x6, x7, x8, x9⟩ := oj_lp (B := B) (T := T) (p := q + 3) (x := x) (ln := lnB B q) T6 x61 (by omega) lnl (by omega) 3 0 n (stM (stM τ 0 7 (τ 0 7 + 1)) 8 x 1) (by omega) (by omega) (fun j hj => by rw [stM_ne (by decide), stM_ne (by decide)]; exact ht j hj)
    rw [x1]
    have N : ∀ z, z ≠ 0 → z ≠ 8 → z ≠ 9 → z ≠ 10 → z ≠ 11 → z ≠ 15 → s' z = τ z := fun z h0 h8 h9 h10 h11 h15 => by rw [x2 z h9 h10 h11 h15, stM_ne h8, stM_ne h0]
    have N0 : ∀ j, j ≠ 7 → s' 0 j = τ 0 j := fun j hj => by rw [x2 0 (by decide) (by decide) (by decide) (by decide), stM_ne (by decide), stM_far (Or.inr hj)]
    have N15 : ∀ j, j ≠ 323 + x → s' 15 j = τ 15 j := fun j hj => by rw [x8 j hj, stM_ne (by decide), stM_ne (by decide)]
    refine ⟨s', rfl, ⟨fun z h0 h3 h4 h5 h6 h7 h8 h9 h10 h11 h12 h15 => by rw [N z h0 h8 h9 h10 h11 h15]; exact l1 z h0 h3 h4 h5 h6 h7 h8 h9 h10 h11 h12 h15, fun j hj => by rw [N0 j (by omega)]; exact l2 j hj, ?_, ?_, ?_, ?_, ?_, fun z hz => by rw [N15 z (by omega)]; exact l8 z hz, fun a ha i h1 h2 => by rw [N15 _ (by omega)]; exact l9 a ha i h1 h2, fun z h1 h2 => by rw [N15 z (by omega)]; exact l10 z h1 h2⟩, N 2 (by decide) (by decide) (by decide) (by decide) (by decide) (by decide)⟩
    · refine cn s' (fun j hj => N0 j (by omega)) ?_
      rw [x2 0 (by decide) (by decide) (by decide) (by decide), stM_ne (by decide), stM_hit]
    · exact l4.keep (by rw [hq, tg]; decide) (N 4 (by decide) (by decide) (by decide) (by decide) (by decide) (by decide)) (N 5 (by decide) (by decide) (by decide) (by decide) (by decide) (by decide)) (fun z h1 h2 => N15 z (by omega))
    · exact l5.keep (by rw [hq, tg]; decide) (N 6 (by decide) (by decide) (by decide) (by decide) (by decide) (by decide)) (N 7 (by decide) (by decide) (by decide) (by decide) (by decide) (by decide))
    · intro r hr
      obtain ⟨a, b⟩ := l6 r hr
      by_cases er : r = x
      · subst er
        refine ⟨fun p e hb => ?_, fun w => absurd ⟨_, _, bs⟩ w⟩
        obtain ⟨rfl, rfl⟩ := bn p e hb
        refine ⟨by rw [x2 8 (by decide) (by decide) (by decide) (by decide), stM_hit], fun i hi => x4 i (by omega) hi, x9, x6, ?_⟩
        rw [x7]
        congr 2
        omega
      · have o := bo 2 r (fun w => er w.2.symm)
        have E8 : s' 8 r = τ 8 r := by rw [x2 8 (by decide) (by decide) (by decide) (by decide), stM_far (Or.inr er), stM_ne (by decide)]
        have E9 : ∀ i, i < 3 → s' 9 (3 * r + i) = τ 9 (3 * r + i) := fun i hi => by rw [x3 _ (by omega), stM_ne (by decide), stM_ne (by decide)]
        have E10 : s' 10 r = τ 10 r := by rw [(x5 r er).1, stM_ne (by decide), stM_ne (by decide)]
        have E11 : s' 11 r = τ 11 r := by rw [(x5 r er).2, stM_ne (by decide), stM_ne (by decide)]
        rw [E8, E10, E11, N15 _ (by omega)]
        refine ⟨fun p e hb => ?_, fun w => b (fun ⟨p, e, hb⟩ => w ⟨p, e, (o p e).mpr hb⟩)⟩
        obtain ⟨a1, a2, a3⟩ := a p e ((o p e).mp hb)
        exact ⟨a1, fun i hi => by rw [E9 i hi]; exact a2 i hi, a3⟩
    · exact l7.keep (by rw [hq, tg]; decide) (N 12 (by decide) (by decide) (by decide) (by decide) (by decide) (by decide)) (fun z h1 h2 => N15 z (by omega))
  · -- an actor
    have tg : tgK (B q) = 3 := by rw [c]; rfl
    rw [tg] at b3 b5 fr bs bn bo cn
    have x13 : x < 13 := by have : mxK 3 = 12 := rfl; omega
    obtain ⟨c1, c2, c3⟩ := b5.2.2.2 rfl
    unfold b_X11_load_342
    rw [if_neg (by omega), if_neg (by omega), if_neg (by omega), lt_eq, ck_t ⟨inb_nI x13 (by decide), okZ1⟩, lt_eq, nI_clamp (by omega), show (0 : Int32) = nI 0 from rfl]
    obtain ⟨s', x1, x2, x3, x4⟩ := aj_lp (B := B) (T := T) (p := q + 3) (x := x) T6 x13 (by omega) 4 0 n (stM (stM τ 0 8 (τ 0 8 + 1)) 12 x 1) (by omega) (by omega) (fun j hj => by rw [stM_ne (by decide), stM_ne (by decide)]; exact ht j hj)
    rw [x1]
    have N : ∀ z, z ≠ 0 → z ≠ 12 → z ≠ 15 → s' z = τ z := fun z h0 h12 h15 => by rw [x2 z h15, stM_ne h12, stM_ne h0]
    have N0 : ∀ j, j ≠ 8 → s' 0 j = τ 0 j := fun j hj => by rw [x2 0 (by decide), stM_ne (by decide), stM_far (Or.inr hj)]
    have N15 : ∀ j, j < 232 + 7 * x ∨ 232 + 7 * x + 4 ≤ j → s' 15 j = τ 15 j := fun j hj => by rw [x3 j (by omega), stM_ne (by decide), stM_ne (by decide)]
    refine ⟨s', rfl, ⟨fun z h0 h3 h4 h5 h6 h7 h8 h9 h10 h11 h12 h15 => by rw [N z h0 h12 h15]; exact l1 z h0 h3 h4 h5 h6 h7 h8 h9 h10 h11 h12 h15, fun j hj => by rw [N0 j (by omega)]; exact l2 j hj, ?_, ?_, ?_, ?_, ?_, fun z hz => by rw [N15 z (by omega)]; exact l8 z hz, fun a ha i h1 h2 => by rw [N15 _ (by omega)]; exact l9 a ha i h1 h2, fun z h1 h2 => by rw [N15 z (by omega)]; exact l10 z h1 h2⟩, N 2 (by decide) (by decide) (by decide)⟩
    · refine cn s' (fun j hj => N0 j (by omega)) ?_
      rw [x2 0 (by decide), stM_ne (by decide), stM_hit]
    · exact l4.keep (by rw [hq, tg]; decide) (N 4 (by decide) (by decide) (by decide)) (N 5 (by decide) (by decide) (by decide)) (fun z h1 h2 => N15 z (by omega))
    · exact l5.keep (by rw [hq, tg]; decide) (N 6 (by decide) (by decide) (by decide)) (N 7 (by decide) (by decide) (by decide))
    · exact l6.keep (by rw [hq, tg]; decide) (N 8 (by decide) (by decide) (by decide)) (N 9 (by decide) (by decide) (by decide)) (N 10 (by decide) (by decide) (by decide)) (N 11 (by decide) (by decide) (by decide)) (fun z h1 h2 => N15 z (by omega))
    · intro r hr
      obtain ⟨a, b⟩ := l7 r hr
      by_cases er : r = x
      · subst er
        refine ⟨fun p e hb => ?_, fun w => absurd ⟨_, _, bs⟩ w⟩
        obtain ⟨rfl, rfl⟩ := bn p e hb
        exact ⟨by rw [x2 12 (by decide), stM_hit], fun i hi => x4 i (by omega) hi⟩
      · have o := bo 3 r (fun w => er w.2.symm)
        have E12 : s' 12 r = τ 12 r := by rw [x2 12 (by decide), stM_far (Or.inr er), stM_ne (by decide)]
        rw [E12]
        refine ⟨fun p e hb => ?_, fun w => ?_⟩
        · obtain ⟨a1, a2⟩ := a p e ((o p e).mp hb)
          exact ⟨a1, fun i hi => by rw [N15 _ (by omega)]; exact a2 i hi⟩
        · obtain ⟨a1, a2⟩ := b (fun ⟨p, e, hb⟩ => w ⟨p, e, (o p e).mpr hb⟩)
          exact ⟨a1, fun i hi => by rw [N15 _ (by omega)]; exact a2 i hi⟩
theorem ld_lp {B : Nat → Nat} {T m : Nat} {σ τ3 : Mem} (hg : GI B T m σ) (hm : posB B m = T) (l2 : Int32) : ∀ (d k M : Nat) (τ : Mem), k + d = m → d + 200 < M → LI B k τ3 τ → TB B T τ → τ3 0 4 = nI T → ∃ τ', itr2 b_X11_play_96 M l2 (nI (posB B k)) τ = some (l2, τ') ∧ LI B m τ3 τ' ∧ τ' 2 = τ 2 := by
  intro d
  have T6 := hg.2.2.2.1
  induction d with
  | zero =>
    intro k M τ hk hM h ht h4
    have e : k = m := by omega
    subst e
    obtain ⟨M, rfl⟩ : ∃ m', M = m' + 1 := ⟨M - 1, by omega⟩
    refine ⟨τ, ?_, h, rfl⟩
    show b_X11_play_96 M (itr2 b_X11_play_96 M) _ _ τ = _
    generalize itr2 b_X11_play_96 M = w
    unfold b_X11_play_96
    rw [h.2.1 4 (by omega), h4, hm, if_pos (nI_le (by omega) (by omega))]
  | succ d ih =>
    intro k M τ hk hM h ht h4
    obtain ⟨M, rfl⟩ : ∃ m', M = m' + 1 := ⟨M - 1, by omega⟩
    obtain ⟨τ1, y1, y2, y3⟩ := ld_step (n := M) (by omega) hg (show k < m by omega) h ht
    obtain ⟨b1, b2, b3, b4, b5⟩ := hg.1 k (by omega)
    have ht1 : TB B T τ1 := fun j hj => by rw [y3]; exact ht j hj
    obtain ⟨τ', x1, x2, x3⟩ := ih (k + 1) M τ1 (by omega) (by omega) y2 ht1 h4
    refine ⟨τ', ?_, x2, by rw [x3, y3]⟩
    rw [← x1]
    show b_X11_play_96 M (itr2 b_X11_play_96 M) _ _ τ = _
    generalize itr2 b_X11_play_96 M = w
    unfold b_X11_play_96
    have lq : nxB B (posB B k) = posB B k + 3 + lnB B (posB B k) := rfl
    have t1 := ht1 (posB B k + 1) (by omega)
    have t2 := ht1 (posB B k + 2) (by omega)
    have len : (nI (B (posB B k + 1)) <<< ((8 : Int32) &&& 31)) ||| nI (B (posB B k + 2)) = nI (lnB B (posB B k)) := hl_nat _ t1.2 _ t2.2
    have ad : nI (posB B k) + ((3 : Int32) + nI (lnB B (posB B k))) = nI (posB B (k + 1)) := by
      show nI (posB B k) + (nI 3 + nI (lnB B (posB B k))) = nI (posB B k + 3 + lnB B (posB B k))
      rw [nI_add, nI_add, Nat.add_assoc]
    rw [h.2.1 4 (by omega), h4, if_neg (nI_ge (by omega) (by omega)), y1, bv_mk, nI_1, show nI (posB B k) + (2 : Int32) = nI (posB B k + 2) from nI_add _ 2, ck_t (inb_nI (by omega) (by decide)), ck_t (inb_nI (by omega) (by decide)), nI_clamp (by omega), nI_clamp (by omega), t1.1, t2.1, len, ad, lt_eq]
