/-! ===== orders of the slot itself ===== -/
theorem TI.slw {S B i j0 : Nat} {σ τ : Mem} {v : Int32} (h : TI S B σ τ) (hi : i < 8) (hj : j0 < 6) (hS : SlotI (stM σ (42 + 2 * i) j0 v) (42 + 2 * i)) : FrC σ (stM σ (42 + 2 * i) j0 v) ∧ FrM τ (stM τ 15 (70 + 10 * i + j0) v) ∧ TI S B (stM σ (42 + 2 * i) j0 v) (stM τ 15 (70 + 10 * i + j0) v) := by
  refine h.sl hi (fun k a b c => stM_ne a) (fun z a b c d => stM_ne b) (fun j hj => stM_far (Or.inl (by decide))) (fun z _ hz => stM_far (Or.inr (by omega))) (fun j hj => ?_) (fun j hj => ?_) hS
  · by_cases e : j = j0
    · subst e; rw [stM_hit, stM_hit]
    · rw [stM_far (Or.inr (by omega)), stM_far (Or.inr e)]; exact h.s hi hj
  · rw [stM_far (Or.inr (by omega)), stM_ne (by omega)]; exact h.l hi hj
theorem SlotI.w {σ : Mem} {q j0 : Nat} {v : Int32} (h : SlotI σ q) (h0 : σ q 0 ≠ 0) (hq : 30 < q) (hv : (j0 = 1 ∧ ∃ t, t ≤ 65536 ∧ v = nI t) ∨ j0 = 2 ∨ (j0 = 3 ∧ (v = 0 ∨ ∃ a, 0 < a ∧ a < 13 ∧ v = nI a ∧ σ 29 a ≠ 0)) ∨ (j0 = 4 ∧ okZ v)) : SlotI (stM σ q j0 v) q := by
  obtain ⟨f1, f2, f3, f4, f5, f6, f7⟩ := h
  unfold SlotI
  rw [stM_ne (show 23 ≠ q by omega), stM_ne (show 29 ≠ q by omega)]
  rcases hv with ⟨rfl, t, ht, rfl⟩ | rfl | ⟨rfl, hv⟩ | ⟨rfl, hv⟩
  · rw [stM_hit, stM_far (Or.inr (show (0 : Nat) ≠ 1 by decide)), stM_far (Or.inr (show (3 : Nat) ≠ 1 by decide)), stM_far (Or.inr (show (4 : Nat) ≠ 1 by decide)), stM_far (Or.inr (show (5 : Nat) ≠ 1 by decide)), nI_toInt (by omega)]
    exact ⟨f1, f2, fun e => absurd e h0, f4, by omega, by omega, f7⟩
  · rw [stM_far (Or.inr (show (0 : Nat) ≠ 2 by decide)), stM_far (Or.inr (show (1 : Nat) ≠ 2 by decide)), stM_far (Or.inr (show (3 : Nat) ≠ 2 by decide)), stM_far (Or.inr (show (4 : Nat) ≠ 2 by decide)), stM_far (Or.inr (show (5 : Nat) ≠ 2 by decide))]
    exact ⟨f1, f2, fun e => absurd e h0, f4, f5, f6, f7⟩
  · rw [stM_hit, stM_far (Or.inr (show (0 : Nat) ≠ 3 by decide)), stM_far (Or.inr (show (1 : Nat) ≠ 3 by decide)), stM_far (Or.inr (show (4 : Nat) ≠ 3 by decide)), stM_far (Or.inr (show (5 : Nat) ≠ 3 by decide))]
    exact ⟨f1, f2, fun e => absurd e h0, f4, f5, f6, hv⟩
  · rw [stM_hit, stM_far (Or.inr (show (0 : Nat) ≠ 4 by decide)), stM_far (Or.inr (show (1 : Nat) ≠ 4 by decide)), stM_far (Or.inr (show (3 : Nat) ≠ 4 by decide)), stM_far (Or.inr (show (5 : Nat) ≠ 4 by decide))]
    exact ⟨hv, f2, fun e => absurd e h0, f4, f5, f6, f7⟩
theorem or_0 {n i c p0 L S B p : Nat} {σ τ : Mem} (hn : 1000 ≤ n) (h : OC i c p0 L S B p σ τ) : OR n i S B 0 σ τ := by
  have hi := h.2.1.1
  obtain ⟨f, g, t⟩ := h.1.free hi (CFr.rf i σ) (RdM.rf τ)
  refine Or.inr ⟨fun u _ => ma_0 n u, 1, _, 0, _, ?_, ?_, f, g, t.up (by omega), Or.inr ⟨rfl, rfl⟩⟩
  · rw [pf_0, rel_eq, bv_mk]
  · rw [do_0, h.2.1.2.2.2.2.2.2.2.2, frees_eq (by omega) hi, bv_mk]
theorem or_1 {n i c p0 L S B p : Nat} {σ τ : Mem} (h : OC i c p0 L S B p σ τ) : OR n i S B 1 σ τ :=
  Or.inr ⟨fun u _ => ma_1 n u, 1, σ, 0, τ, pf_1 n _ σ, do_1 n τ, FrC.rf σ, FrM.rf τ, h.1.up (by omega), Or.inr ⟨rfl, rfl⟩⟩
/-- it goes to t -/
theorem or_go {n i c p0 L S B p o t : Nat} {σ τ : Mem} (h : OC i c p0 L S B p σ τ) (ht : t ≤ 65536) (hm : ∀ u : Mem, (∀ z, z ≠ 15 → u z = τ z) → f_X11_may n (nI o) u = some (1, u)) (hp : f_X5_perform n (42 + 2 * i) (nI o) σ = some (0, stM σ (42 + 2 * i) 1 (nI t))) (hd : f_X11_does n (nI o) τ = some (1, stM τ 15 (70 + 10 * i + 1) (nI t))) : OR n i S B o σ τ := by
  have hi := h.2.1.1
  obtain ⟨f, g, q⟩ := h.1.slw (j0 := 1) hi (by decide) ((h.1.slI hi).w h.run (by omega) (Or.inl ⟨rfl, t, ht, rfl⟩))
  exact actg h hm hp hd f g (q.up (by omega)) (stM_far (Or.inr (by decide))) (stM_ne (by omega)) (stM_far (Or.inl (by decide)))
theorem OC.L {i c p0 L S B p : Nat} {σ τ : Mem} (h : OC i c p0 L S B p σ τ) : L ≤ 6000 := by
  have := h.2.1.2.2.2.2.2.1
  have := h.1.2.1.2.1
  omega
theorem OC.i4 {i c p0 L S B p : Nat} {σ τ : Mem} (h : OC i c p0 L S B p σ τ) : τ 0 34 = nI i := h.2.1.2.2.2.2.2.2.2.2
theorem or_2 {n i c p0 L S B p : Nat} {σ τ : Mem} (h : OC i c p0 L S B p σ τ) (hG : RG i L 2 σ τ) : OR n i S B 2 σ τ := by
  obtain ⟨t, ht, j1, j2⟩ := hG.2.2 (by decide)
  have := h.L
  refine or_go (t := t) h (by omega) (fun u _ => ma_2 n u) ?_ ?_
  · rw [pf_2, bd_id]
    unfold f_X5_goIf b_X5_goIf_12
    rw [if_neg n10, lt_eq, j1]
  · rw [do_2, h.i4, j2, to_c n (x := 1) (j := 1) rfl h.2.1.1 (by decide), bv_mk]
theorem or_8 {n i c p0 L S B p : Nat} {σ τ : Mem} (h : OC i c p0 L S B p σ τ) (hG : RG i L 8 σ τ) : OR n i S B 8 σ τ := by
  obtain ⟨t, ht, j1, j2⟩ := hG.2.2 (by decide)
  have e0 := hG.1 0 (by decide)
  have e1 := hG.1 1 (by decide)
  have := h.L
  have hp := h.2.2.1
  by_cases q : σ 119 0 = σ 119 1
  · refine or_go (t := t) h (by omega) (fun u _ => ma_8 n u) ?_ ?_
    · rw [pf_8, if_pos q, bd_id]
      unfold f_X5_goIf b_X5_goIf_12
      rw [if_neg n10, lt_eq, j1]
    · rw [do_8, ← e0, ← e1, if_pos q, h.i4, j2, to_c n (x := 1) (j := 1) rfl h.2.1.1 (by decide), bv_mk]
  · refine or_go (t := p) h (by omega) (fun u _ => ma_8 n u) ?_ ?_
    · rw [pf_8, if_neg q, bd_id, stM_id h.2.2.2.1]
      unfold f_X5_goIf b_X5_goIf_12
      rw [if_pos rfl]
    · rw [do_8, ← e0, ← e1, if_neg q, h.i4, h.2.2.2.2, to_c n (x := 1) (j := 1) rfl h.2.1.1 (by decide), bv_mk]
theorem or_9 {n i c p0 L S B p : Nat} {σ τ : Mem} (h : OC i c p0 L S B p σ τ) (hG : RG i L 9 σ τ) : OR n i S B 9 σ τ := by
  obtain ⟨t, ht, j1, j2⟩ := hG.2.2 (by decide)
  have e0 := hG.1 0 (by decide)
  have e1 := hG.1 1 (by decide)
  have := h.L
  have hp := h.2.2.1
  by_cases q : σ 119 1 ≤ σ 119 0
  · refine or_go (t := p) h (by omega) (fun u _ => ma_9 n u) ?_ ?_
    · rw [pf_9, if_pos q, bd_id, stM_id h.2.2.2.1]
      unfold f_X5_goIf b_X5_goIf_12
      rw [if_pos rfl]
    · rw [do_9, ← e0, ← e1, if_pos q, h.i4, h.2.2.2.2, to_c n (x := 1) (j := 1) rfl h.2.1.1 (by decide), bv_mk]
  · refine or_go (t := t) h (by omega) (fun u _ => ma_9 n u) ?_ ?_
    · rw [pf_9, if_neg q, bd_id]
      unfold f_X5_goIf b_X5_goIf_12
      rw [if_neg n10, lt_eq, j1]
    · rw [do_9, ← e0, ← e1, if_neg q, h.i4, j2, to_c n (x := 1) (j := 1) rfl h.2.1.1 (by decide), bv_mk]
theorem or_10 {n i c p0 L S B p : Nat} {σ τ : Mem} (h : OC i c p0 L S B p σ τ) (hG : RG i L 10 σ τ) : OR n i S B 10 σ τ := by
  have e0 := hG.1 0 (by decide)
  have hi := h.2.1.1
  obtain ⟨f, g, q⟩ := h.1.slw (j0 := 2) (v := if (0 : Int32) < σ 119 0 then σ 119 0 else 0) hi (by decide) ((h.1.slI hi).w h.run (by omega) (Or.inr (Or.inl rfl)))
  refine Or.inr ⟨fun u _ => ma_10 n u, 1, _, 0, _, ?_, ?_, f, g, q.up (by omega), Or.inr ⟨rfl, rfl⟩⟩
  · rw [pf_10, lt_eq]
  · rw [do_10, h.i4, ← e0, to_c n (x := 2) (j := 2) rfl hi (by decide), bv_mk]
theorem or_15 {n i c p0 L S B p : Nat} {σ τ : Mem} (h : OC i c p0 L S B p σ τ) (hG : RG i L 15 σ τ) : OR n i S B 15 σ τ := by
  have e0 := hG.1 0 (by decide)
  have hi := h.2.1.1
  by_cases q : isA σ (σ 119 0)
  · obtain ⟨a, ha0, ha, ea, hz⟩ := isA_n q
    obtain ⟨f, g, t⟩ := h.1.slw (j0 := 3) (v := nI a) hi (by decide) ((h.1.slI hi).w h.run (by omega) (Or.inr (Or.inr (Or.inl ⟨rfl, Or.inr ⟨a, ha0, ha, rfl, hz⟩⟩))))
    refine Or.inr ⟨fun u hu => ?_, 1, _, 0, _, ?_, ?_, f, g, t.up (by omega), Or.inr ⟨rfl, rfl⟩⟩
    · rw [ma_15, hu 18 (by decide), ← e0, isAM_t n h.1.1 (hu 12 (by decide)) q, bd_mk, ckz1]
    · rw [pf_15, bd_id]
      unfold f_X5_await
      rw [hasA_t n q, bd_mk, if_neg n10, lt_eq, ea]
    · rw [do_15, h.i4, ← e0, ea, to_c n (x := 3) (j := 3) rfl hi (by decide), bv_mk]
  · left
    refine ⟨?_, fun u hu => ?_⟩
    · rw [pf_15, bd_id]
      unfold f_X5_await
      rw [hasA_f n q, bd_mk, if_pos rfl]
    · rw [ma_15, hu 18 (by decide), ← e0, isAM_f n h.1.1 (hu 12 (by decide)) q, bd_mk, ckz0]
/-- a script is started, by a sentence (b = 1) or not -/
theorem start_b {n S B : Nat} {σ τ : Mem} (hn : 1000 ≤ n) (h : TI S B σ τ) (x b : Int32) (hb : okZ b) : (f_X5_startScript n x b σ = some (-1, σ) ∧ f_X11_started n x τ = some (-1, τ)) ∨ (∃ σ' τ', f_X5_startScript n x b σ = some (-1, σ') ∧ f_X11_started n x τ = some (-1, τ') ∧ FrC σ σ' ∧ FrM τ τ' ∧ TI S B σ' τ' ∧ (∀ z, z ≠ 33 → σ' z = σ z) ∧ ∀ z, z ≠ 15 → τ' z = τ z) ∨ ∃ k σ' τ' τ'', k < 8 ∧ σ (42 + 2 * k) 0 = 0 ∧ f_X5_startScript n x b σ = some (nI k, σ') ∧ f_X11_started n x τ = some (nI k, τ') ∧ τ'' = stM τ' 15 (70 + 10 * k + 5) b ∧ FrC σ σ' ∧ FrM τ τ'' ∧ TI S B σ' τ'' ∧ (b = 0 → τ'' = τ') ∧ (∀ z, z ≠ 42 + 2 * k → σ' z = σ z) ∧ ∀ z, z ≠ 15 → τ' z = τ z := by
  obtain ⟨t1, t2, t3, t4, t5⟩ := id h
  rw [startScript_eq (by omega) x b hb, started_eq (by omega) x]
  have hc : (0 < x.toInt ∧ x.toInt < 61 ∧ σ 23 x.toNatClampNeg ≠ 0) ↔ (0 < x.toInt ∧ x.toInt < 61 ∧ 0 < (τ 7 x.toNatClampNeg).toInt) := by
    constructor
    · rintro ⟨p, q, r⟩
      exact ⟨p, q, (scr_iff t1 t2.2.1 ⟨p, q⟩).mp r⟩
    · rintro ⟨p, q, r⟩
      exact ⟨p, q, (scr_iff t1 t2.2.1 ⟨p, q⟩).mpr r⟩
  by_cases e : 0 < x.toInt ∧ x.toInt < 61 ∧ σ 23 x.toNatClampNeg ≠ 0
  · rw [if_pos e, if_pos (hc.mp e)]
    have hf : ffd (fun i => τ 15 (70 + 10 * i) = 0) 0 8 = ffd (fun i => σ (42 + 2 * i) 0 = 0) 0 8 := ffd_c _ _ (fun i _ hi => by
      have := h.s (i := i) (j := 0) (by omega) (by decide)
      rw [Nat.add_zero] at this
      rw [this])
    rw [hf]
    obtain ⟨c, hc1, hc2, rfl⟩ : ∃ c, 0 < c ∧ c < 61 ∧ x = nI c := ⟨x.toInt.toNat, by omega, by omega, nI_oT (by omega)⟩
    rw [nI_clamp (by omega)] at e
    right
    cases e9 : ffd (fun i => σ (42 + 2 * i) 0 = 0) 0 8 with
    | none =>
      left
      have f : FrC σ (stM σ 33 4 (σ 33 4 + 1)) := fun z hz => stM_ne (by omega)
      refine ⟨_, _, rfl, rfl, f, frA, ?_, fun z hz => stM_ne hz, fun z hz => stM_ne hz⟩
      refine h.go f frA ?_ ?_ ?_
      · rw [stM_row, t3.1 4 (by decide)]; exact t3.sc4 t4.2.1 _
      · exact t4.wr (fun _ => by decide) (fun i h => by omega) (fun a h => by omega) (by decide) (by decide) (by decide)
      · rw [stM_far (Or.inr (by decide))]; exact t5
    | some k =>
      right
      obtain ⟨-, hk, h0⟩ := ffd_s _ _ _ e9
      have hk : k < 8 := by omega
      obtain ⟨g1, g2, g3, g4, g5, g6⟩ := (h.slI hk).2.2.1 h0
      have T := h.sl (i := k) (σ' := stM (stM σ (42 + 2 * k) 0 (nI c)) (42 + 2 * k) 5 b) (τ' := stM (stM (freeM τ k) 15 (70 + 10 * k) (nI c)) 15 (70 + 10 * k + 5) b) hk (fun z a b c => by rw [stM_ne a, stM_ne a]) (fun z a b c d => by rw [stM_ne b, stM_ne b, freeM_ne b]) (fun j hj => by rw [stM_ne (by decide), stM_ne (by decide), freeM_ne (by decide)]) (fun z _ hz => by rw [stM_far (Or.inr (by omega)), stM_far (Or.inr (by omega)), freeM_o hz]) (fun j hj => by
        by_cases j5 : j = 5
        · subst j5; rw [stM_hit, stM_hit]
        · rw [stM_far (Or.inr (by omega)), stM_far (Or.inr j5)]
          by_cases j0 : j = 0
          · subst j0; rw [Nat.add_zero, stM_hit, stM_hit]
          · rw [stM_far (Or.inr (by omega)), stM_far (Or.inr j0), freeM_i (by omega)]
            rcases (show j = 1 ∨ j = 2 ∨ j = 3 ∨ j = 4 by omega) with rfl | rfl | rfl | rfl
            · rw [g1]
            · rw [g2]
            · rw [g3]
            · rw [g4]) (fun j hj => by
        rw [stM_far (Or.inr (by omega)), stM_far (Or.inr (by omega)), freeM_i (by omega), stM_ne (by omega), stM_ne (by omega)]
        have := g6 j hj
        rw [show 42 + 2 * k + 1 = 43 + 2 * k by omega] at this
        exact this.symm) (by
        have := (t4.begin hk h0 hc1 hc2 e.2.2 hb).2.2.2.2.1 k hk
        rw [show 33 + 9 + 2 * k = 42 + 2 * k by omega] at this
        exact this)
      refine ⟨k, _, _, _, hk, h0, rfl, rfl, rfl, T.1, T.2.1, T.2.2, fun b0 => ?_, fun z hz => by rw [stM_ne hz, stM_ne hz], fun z hz => by rw [stM_ne hz, freeM_ne hz]⟩
      rw [stM_id]
      rw [stM_far (Or.inr (by omega)), freeM_i (by omega), b0]
  · rw [if_neg e, if_neg (fun q => e (hc.mpr q))]
    exact Or.inl ⟨rfl, rfl⟩
theorem or_11 {n i c p0 L S B p : Nat} {σ τ : Mem} (hn : 1000 ≤ n) (h : OC i c p0 L S B p σ τ) (hG : RG i L 11 σ τ) : OR n i S B 11 σ τ := by
  have e0 := hG.1 0 (by decide)
  have hi := h.2.1.1
  rcases start_b hn h.1 (σ 119 0) 0 okZ0 with ⟨a1, a2⟩ | ⟨σ', τ', a1, a2, f, g, t, k1, k2⟩ | ⟨k, σ', τ', τ'', hk, h0, a1, a2, e9, f, g, t, k0, k1, k2⟩
  · exact actg h (fun u _ => ma_11 n u) (by rw [pf_11, a1, bd_mk]) (by rw [do_11, ← e0, a2, bd_mk]) (FrC.rf σ) (FrM.rf τ) (h.1.up (by omega)) rfl rfl rfl
  · exact actg h (fun u _ => ma_11 n u) (by rw [pf_11, a1, bd_mk]) (by rw [do_11, ← e0, a2, bd_mk]) f g (t.up (by omega)) (by rw [k1 _ (by omega)]) (k1 _ (by omega)) (by rw [k2 0 (by decide)])
  · have ne : i ≠ k := fun q => h.run (by rw [q]; exact h0)
    rw [k0 rfl] at g t
    exact actg h (fun u _ => ma_11 n u) (by rw [pf_11, a1, bd_mk]) (by rw [do_11, ← e0, a2, bd_mk]) f g (t.up (by omega)) (by rw [k1 _ (by omega)]) (k1 _ (by omega)) (by rw [k2 0 (by decide)])
/-! another script in its place -/
theorem hasS (n : Nat) (x : Int32) (s : Mem) : f_X2_has n 22 x s = some (bz (0 < x.toInt ∧ x.toInt < 61 ∧ s 23 x.toNatClampNeg ≠ 0), s) := has_eq n io_2_22 x s
theorem code_eq {n S c : Nat} {σ τ : Mem} (h : PlayR σ τ S) (hS : S ≤ 6000) (h0 : 0 < c) (hc : c < 61) (hs : σ 23 c ≠ 0) (s : Mem) (e3 : s 23 = σ 23) (e4 : s 24 = σ 24) : ∃ s' p0 L, f_X5_openCode n (nI c) s = some s' ∧ (∀ z, z ≠ 118 → s' z = s z) ∧ s' 118 8 = nI (p0 + 1) ∧ s' 118 9 = nI L ∧ (0 < L ∧ p0 + 1 + L ≤ S) ∧ τ 6 c = nI (p0 + 1) ∧ τ 7 c = nI L := by
  rcases h.2.1 c hc with ⟨z, -⟩ | ⟨p, e, hp, hpe, heS, q1, q2, q3, q4⟩
  · exact absurd z hs
  · have E3 : ∀ v w, (stM (stM s 118 8 v) 118 9 w) 23 c = nI p := fun v w => by rw [stM_ne (by decide), stM_ne (by decide), e3]; exact q1
    have HS : 0 < (nI c).toInt ∧ (nI c).toInt < 61 ∧ (stM (stM s 118 8 0) 118 9 0) 23 (nI c).toNatClampNeg ≠ 0 := by
      rw [nI_toInt (by omega), nI_clamp (by omega), E3]
      exact ⟨by omega, by omega, nI_ne0 hp (by omega)⟩
    refine ⟨stM (stM (stM (stM s 118 8 0) 118 9 0) 118 8 (nI (p + 1))) 118 9 (nI (e - p - 1)), p, e - p - 1, ?_, ?_, ?_, ?_, by omega, q3, q4⟩
    · unfold f_X5_openCode b_X5_openCode_63
      rw [lt_eq, lt_eq, hasS, bd_mk, bz_t HS, if_neg n10, ck_t (inb_nI hc (by decide)), nI_clamp (by omega), E3, nI_1, lt_eq, ck_t (inb_nI hc (by decide)), stM_hit, stM_ne (show (24 : Nat) ≠ 118 by decide), stM_ne (show (24 : Nat) ≠ 118 by decide), stM_ne (show (24 : Nat) ≠ 118 by decide), e4, q2, lt_eq, pk_sub (by omega), show e - (p + 1) = e - p - 1 by omega]
    · intro z hz
      rw [stM_ne hz, stM_ne hz, stM_ne hz, stM_ne hz]
    · rw [stM_far (Or.inr (by decide)), stM_hit]
    · rw [stM_hit]
theorem or_33 {n i c p0 L S B p : Nat} {σ τ : Mem} (hn : 1000 ≤ n) (h : OC i c p0 L S B p σ τ) (hG : RG i L 33 σ τ) : OR n i S B 33 σ τ := by
  have e0 := hG.1 0 (by decide)
  have hi := h.2.1.1
  by_cases e : 0 < (σ 119 0).toInt ∧ (σ 119 0).toInt < 61 ∧ σ 23 (σ 119 0).toNatClampNeg ≠ 0
  · have eM := (scr_iff h.1.1 h.1.2.1.2.1 ⟨e.1, e.2.1⟩).mp e.2.2
    obtain ⟨d, hd1, hd2, ed⟩ : ∃ c, 0 < c ∧ c < 61 ∧ σ 119 0 = nI c := ⟨(σ 119 0).toInt.toNat, by omega, by omega, nI_oT (by omega)⟩
    have hd3 : σ 23 d ≠ 0 := by
      have := e.2.2
      rw [ed, nI_clamp (by omega)] at this
      exact this
    obtain ⟨s', p1, L1, c1, c2, c3, c4, c5, c6, c7⟩ := code_eq (n := n) h.1.1 h.1.2.1.2.1 hd1 hd2 hd3 (stM (stM σ (42 + 2 * i) 0 (nI d)) (42 + 2 * i) 1 0) (by rw [stM_ne (by omega), stM_ne (by omega)]) (by rw [stM_ne (by omega), stM_ne (by omega)])
    have T := h.1.sl (i := i) (σ' := s') (τ' := stM (stM τ 15 (70 + 10 * i + 0) (nI d)) 15 (70 + 10 * i + 1) 0) hi (fun z a b c => by rw [c2 z (by omega), stM_ne a, stM_ne a]) (fun z a b c d => by rw [stM_ne b, stM_ne b]) (fun j hj => by rw [stM_ne (by decide), stM_ne (by decide)]) (fun z _ hz => by rw [stM_far (Or.inr (by omega)), stM_far (Or.inr (by omega))]) (fun j hj => by
      rw [c2 _ (by omega)]
      by_cases j1 : j = 1
      · subst j1; rw [stM_hit, stM_hit]
      · rw [stM_far (Or.inr (by omega)), stM_far (Or.inr j1)]
        by_cases j0 : j = 0
        · subst j0; rw [stM_hit, stM_hit]
        · rw [stM_far (Or.inr (by omega)), stM_far (Or.inr j0)]; exact h.1.s hi hj) (fun j hj => by
      rw [stM_far (Or.inr (by omega)), stM_far (Or.inr (by omega)), c2 _ (by omega), stM_ne (by omega), stM_ne (by omega)]; exact h.1.l hi hj) (by
      obtain ⟨f1, f2, f3, f4, f5, f6, f7⟩ := h.1.slI hi
      unfold SlotI
      rw [c2 _ (by omega), c2 23 (by omega), c2 29 (by omega), stM_ne (show 23 ≠ 42 + 2 * i by omega), stM_ne (show 23 ≠ 42 + 2 * i by omega), stM_ne (show 29 ≠ 42 + 2 * i by omega), stM_ne (show 29 ≠ 42 + 2 * i by omega), stM_hit, stM_far (Or.inr (show (0 : Nat) ≠ 1 by decide)), stM_hit]
      simp only [stM_far (Or.inr (show (3 : Nat) ≠ 1 by decide)), stM_far (Or.inr (show (3 : Nat) ≠ 0 by decide)), stM_far (Or.inr (show (4 : Nat) ≠ 1 by decide)), stM_far (Or.inr (show (4 : Nat) ≠ 0 by decide)), stM_far (Or.inr (show (5 : Nat) ≠ 1 by decide)), stM_far (Or.inr (show (5 : Nat) ≠ 0 by decide))]
      exact ⟨f1, f2, fun e => absurd e (nI_ne0 hd1 (by omega)), fun _ => ⟨d, hd1, hd2, rfl, hd3⟩, by decide, by decide, f7⟩)
    refine Or.inr ⟨fun u _ => ma_33 n u, 0, s', 1, _, ?_, ?_, T.1, T.2.1, T.2.2.up (by omega), Or.inl ⟨rfl, rfl, d, p1, L1, hi, ⟨hd1, hd2⟩, ?_, c3, c4, c5, ?_, ?_, ?_⟩⟩
    · rw [pf_33, bd_id]
      unfold f_X5_chain
      rw [hasS, bd_mk, bz_t e, if_neg n10, lt_eq, lt_eq, ed, c1, bv_mk]
    · rw [do_33]
      unfold f_X11_changes
      rw [ck0_4, cl0, ← e0, isScript_eq, bd_mk, bz_t ⟨e.1, e.2.1, eM⟩, if_neg n10, ck0_4, ← e0, ed, h.i4, to_c n (x := 0) (j := 0) rfl hi (by decide), bv_mk, stM_ne (show (0 : Nat) ≠ 15 by decide), h.i4, to_c n (x := 1) (j := 1) rfl hi (by decide), bv_mk, ckz1, bd_mk, ckz1]
    · rw [c2 _ (by omega), stM_far (Or.inr (by decide)), stM_hit]
    · rw [stM_ne (by decide), stM_ne (by decide)]; exact c6
    · rw [stM_ne (by decide), stM_ne (by decide)]; exact c7
    · rw [stM_ne (by decide), stM_ne (by decide)]; exact h.i4
  · have eM : ¬ (0 < (σ 119 0).toInt ∧ (σ 119 0).toInt < 61 ∧ 0 < (τ 7 (σ 119 0).toNatClampNeg).toInt) := fun q => e ⟨q.1, q.2.1, (scr_iff h.1.1 h.1.2.1.2.1 ⟨q.1, q.2.1⟩).mpr q.2.2⟩
    obtain ⟨f, g, t⟩ := h.1.free hi (CFr.rf i σ) (RdM.rf τ)
    refine Or.inr ⟨fun u _ => ma_33 n u, 1, _, 0, _, ?_, ?_, f, g, t.up (by omega), Or.inr ⟨rfl, rfl⟩⟩
    · rw [pf_33, bd_id]
      unfold f_X5_chain
      rw [hasS, bd_mk, bz_f e, if_pos rfl, rel_eq, bv_mk]
    · rw [do_33]
      unfold f_X11_changes
      rw [ck0_4, cl0, ← e0, isScript_eq, bd_mk, bz_f eM, if_pos rfl, h.i4, frees_eq (by omega) hi, bv_mk, ckz0, bd_mk, ckz0]
