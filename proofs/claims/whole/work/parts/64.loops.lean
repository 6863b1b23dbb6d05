/-! ===== orders over all slots ===== -/
theorem relM_id {σ : Mem} {q : Nat} (h : SlotI σ q) (h0 : σ q 0 = 0) : relM σ q = σ := by
  obtain ⟨-, -, f3, -⟩ := h
  obtain ⟨g1, g2, g3, g4, g5, g6⟩ := f3 h0
  unfold relM
  rw [stM_id h0, stM_id g1, stM_id g2, stM_id g3, stM_id g4, stM_id g5]
  funext a b
  unfold fillM rwM
  by_cases ha : a = q + 1
  · rw [if_pos ha]
    by_cases hb : b < 4
    · rw [if_pos hb, ha, g6 b hb]
    · rw [if_neg hb, ha]
  · rw [if_neg ha]
theorem stop_lp {i S B : Nat} {σ0 τ0 : Mem} {v l1 : Int32} (hi : i < 8) (hv : v = τ0 18 0) (h8 : okZ l1) : ∀ (d k m1 m2 : Nat) (σ τ : Mem), k + d = 8 → d < m1 → d + 20 < m2 → TI S B σ τ → FrC σ0 σ → FrM τ0 τ → τ 18 = τ0 18 → τ 0 = τ0 0 → σ 118 = σ0 118 → (∀ j, j < 8 → σ (42 + 2 * j) 0 = if j < k ∧ σ0 (42 + 2 * j) 0 = v then 0 else σ0 (42 + 2 * j) 0) → ∃ σ' τ', itr3 b_X5_stopScript_2 m1 (42 + 2 * i) v (nI k) σ = some (if σ' (42 + 2 * i) 0 = 0 then 1 else 0, σ') ∧ itr2 b_X11_stops_26 m2 l1 (nI k) τ = some (l1, τ') ∧ TI S B σ' τ' ∧ FrC σ0 σ' ∧ FrM τ0 τ' ∧ τ' 0 = τ0 0 ∧ σ' 118 = σ0 118 ∧ σ' (42 + 2 * i) 0 = if σ0 (42 + 2 * i) 0 = v then 0 else σ0 (42 + 2 * i) 0 := by
  intro d
  induction d with
  | zero =>
    intro k m1 m2 σ τ hk hm1 hm2 t f g e18 e0 e118 hj
    have hk8 : k = 8 := by omega
    subst hk8
    obtain ⟨m1, rfl⟩ : ∃ m', m1 = m' + 1 := ⟨m1 - 1, by omega⟩
    obtain ⟨m2, rfl⟩ : ∃ m', m2 = m' + 1 := ⟨m2 - 1, by omega⟩
    refine ⟨σ, τ, ?_, ?_, t, f, g, e0, e118, ?_⟩
    · show b_X5_stopScript_2 m1 (itr3 b_X5_stopScript_2 m1) _ _ _ σ = _
      generalize itr3 b_X5_stopScript_2 m1 = w
      unfold b_X5_stopScript_2 b_X5_stopScript_54
      rw [if_pos (show (8 : Int32) ≤ nI 8 by decide), runs_eq, bd_mk]
      by_cases z : σ (42 + 2 * i) 0 = 0
      · rw [bz_f (fun q => q z), if_pos rfl, if_pos z]
      · rw [bz_t z, if_neg n10, if_neg z]
    · show b_X11_stops_26 m2 (itr2 b_X11_stops_26 m2) _ _ τ = _
      generalize itr2 b_X11_stops_26 m2 = w
      unfold b_X11_stops_26
      rw [if_pos (show (8 : Int32) ≤ nI 8 by decide), ck_t h8]
    · rw [hj i hi]
      by_cases q : σ0 (42 + 2 * i) 0 = v
      · rw [if_pos ⟨hi, q⟩, if_pos q]
      · rw [if_neg (fun w => q w.2), if_neg q]
  | succ d ih =>
    intro k m1 m2 σ τ hk hm1 hm2 t f g e18 e0 e118 hj
    have hk8 : k < 8 := by omega
    obtain ⟨m1, rfl⟩ : ∃ m', m1 = m' + 1 := ⟨m1 - 1, by omega⟩
    obtain ⟨m2, rfl⟩ : ∃ m', m2 = m' + 1 := ⟨m2 - 1, by omega⟩
    have C : itr3 b_X5_stopScript_2 (m1 + 1) (42 + 2 * i) v (nI k) σ = if σ (42 + 2 * k) 0 = v then itr3 b_X5_stopScript_2 m1 (42 + 2 * i) v (nI (k + 1)) (relM σ (42 + 2 * k)) else itr3 b_X5_stopScript_2 m1 (42 + 2 * i) v (nI (k + 1)) σ := by
      show b_X5_stopScript_2 m1 (itr3 b_X5_stopScript_2 m1) _ _ _ σ = _
      generalize itr3 b_X5_stopScript_2 m1 = w
      unfold b_X5_stopScript_2 b_X5_stopScript_36
      rw [if_neg (show ¬ (8 : Int32) ≤ nI k from nI_ge (a := k) (b := 8) hk8 (by omega)), ck_t (inb_nI hk8 (by decide)), nI_clamp (by omega), lt_eq, show 40 + 2 + 2 * k = 42 + 2 * k by omega, ck_t (inb_nI hk8 (by decide)), lt_eq, rel_eq, bv_mk, lt_eq, show nI k + Int32.ofInt 1 = nI (k + 1) from nI_1 k]
      rfl
    have M : itr2 b_X11_stops_26 (m2 + 1) l1 (nI k) τ = if σ (42 + 2 * k) 0 = v ∧ v ≠ 0 then itr2 b_X11_stops_26 m2 l1 (nI (k + 1)) (freeM τ k) else itr2 b_X11_stops_26 m2 l1 (nI (k + 1)) τ := by
      show b_X11_stops_26 m2 (itr2 b_X11_stops_26 m2) _ _ τ = _
      generalize itr2 b_X11_stops_26 m2 = w
      unfold b_X11_stops_26 b_X11_stops_61
      have ek := t.s (i := k) (j := 0) hk8 (by decide)
      rw [Nat.add_zero] at ek
      rw [if_neg (show ¬ (8 : Int32) ≤ nI k from nI_ge (a := k) (b := 8) hk8 (by omega)), of0 m2 hk8, bd_mk, ck0_4, cl0, e18, ← hv, ek, frees_eq (by omega) hk8, bv_mk, ck0_4, lt_eq, lt_eq, show nI k + Int32.ofInt 1 = nI (k + 1) from nI_1 k]
      by_cases q : σ (42 + 2 * k) 0 = v
      · rw [if_pos q]
        by_cases z : v = 0
        · rw [if_pos z, if_neg (fun w => w.2 z)]
        · rw [if_neg z, if_pos ⟨q, z⟩]
      · rw [if_neg q, if_neg (fun w => q w.1)]
    rw [C, M]
    have ekk : σ (42 + 2 * k) 0 = σ0 (42 + 2 * k) 0 := by rw [hj k hk8, if_neg (by omega)]
    by_cases q : σ (42 + 2 * k) 0 = v
    · by_cases z : v = 0
      · rw [if_pos q, if_neg (fun w => w.2 z), relM_id (t.slI hk8) (by rw [q, z])]
        refine ih (k + 1) m1 m2 σ τ (by omega) (by omega) (by omega) t f g e18 e0 e118 (fun j hj8 => ?_)
        rw [hj j hj8]
        by_cases j1 : j < k ∧ σ0 (42 + 2 * j) 0 = v
        · rw [if_pos j1, if_pos ⟨by omega, j1.2⟩]
        · rw [if_neg j1]
          by_cases j2 : j < k + 1 ∧ σ0 (42 + 2 * j) 0 = v
          · rw [if_pos j2, j2.2, z]
          · rw [if_neg j2]
      · rw [if_pos q, if_pos ⟨q, z⟩]
        obtain ⟨f1, g1, t1⟩ := t.free hk8 (CFr.rf k σ) (RdM.rf τ)
        refine ih (k + 1) m1 m2 _ _ (by omega) (by omega) (by omega) t1 (f.tr f1) (g.tr g1) (by rw [freeM_ne (by decide), e18]) (by rw [freeM_ne (by decide), e0]) (by rw [relM_ne (by omega) (by omega), e118]) (fun j hj8 => ?_)
        by_cases ej : j = k
        · subst ej
          rw [relM_0 0 (by decide), if_pos ⟨by omega, by rw [← ekk]; exact q⟩]
        · rw [relM_ne (by omega) (by omega), hj j hj8]
          by_cases j1 : j < k ∧ σ0 (42 + 2 * j) 0 = v
          · rw [if_pos j1, if_pos ⟨by omega, j1.2⟩]
          · rw [if_neg j1, if_neg (fun w => j1 ⟨by omega, w.2⟩)]
    · rw [if_neg q, if_neg (fun w => q w.1)]
      refine ih (k + 1) m1 m2 σ τ (by omega) (by omega) (by omega) t f g e18 e0 e118 (fun j hj8 => ?_)
      rw [hj j hj8]
      by_cases j1 : j < k ∧ σ0 (42 + 2 * j) 0 = v
      · rw [if_pos j1, if_pos ⟨by omega, j1.2⟩]
      · rw [if_neg j1, if_neg (fun w => ?_)]
        by_cases ej : j = k
        · subst ej; exact q (by rw [ekk]; exact w.2)
        · exact j1 ⟨by omega, w.2⟩
theorem or_12 {n i c p0 L S B p : Nat} {σ τ : Mem} (hn : 1000 ≤ n) (h : OC i c p0 L S B p σ τ) (hG : RG i L 12 σ τ) : OR n i S B 12 σ τ := by
  have e0 := hG.1 0 (by decide)
  have hi := h.2.1.1
  have ei := h.1.s (i := i) (j := 0) hi (by decide)
  rw [Nat.add_zero] at ei
  have D : f_X11_does n (nI 12) τ = bd (itr2 b_X11_stops_26 n (if σ (42 + 2 * i) 0 = σ 119 0 then 0 else 1) (nI 0) τ) fun x7 s6 => ck (okZ x7) (some (x7, s6)) := by
    rw [do_12]
    unfold f_X11_stops b_X11_stops_23
    rw [h.i4, of0 n hi, bd_mk, ck0_4, cl0, ← e0, ei]
    by_cases q : σ (42 + 2 * i) 0 = σ 119 0
    · rw [if_pos q, if_pos q]; rfl
    · rw [if_neg q, if_neg q]; rfl
  obtain ⟨σ', τ', c1, m1, t1, f1, g1, k0, k118, kq⟩ := stop_lp (i := i) (S := S) (B := B) (σ0 := σ) (τ0 := τ) (v := σ 119 0) (l1 := if σ (42 + 2 * i) 0 = σ 119 0 then 0 else 1) hi e0 (by by_cases q : σ (42 + 2 * i) 0 = σ 119 0 <;> simp [q, okZ]) 8 0 n n σ τ (by omega) (by omega) (by omega) h.1 (FrC.rf σ) (FrM.rf τ) rfl rfl rfl (fun j _ => by rw [if_neg (by omega)])
  have P : f_X5_perform n (42 + 2 * i) (nI 12) σ = some (if σ' (42 + 2 * i) 0 = 0 then 1 else 0, σ') := by
    rw [pf_12, bd_id]
    exact c1
  rw [m1, bd_mk] at D
  by_cases q : σ (42 + 2 * i) 0 = σ 119 0
  · rw [if_pos q, ckz0] at D
    rw [if_pos q] at kq
    rw [if_pos kq] at P
    exact Or.inr ⟨fun u _ => ma_12 n u, 1, σ', 0, τ', P, D, f1, g1, t1.up (by omega), Or.inr ⟨rfl, rfl⟩⟩
  · rw [if_neg q, ckz1] at D
    rw [if_neg q] at kq
    rw [if_neg (by rw [kq]; exact h.run)] at P
    exact actg h (fun u _ => ma_12 n u) P D f1 g1 (t1.up (by omega)) kq k118 (by rw [k0])
/-- a slot's word of being frozen -/
theorem SlotI.fz {σ : Mem} {q : Nat} {v : Int32} (h : SlotI σ q) (hq : 30 < q) (hv : okZ v) (h0 : σ q 0 = 0 → v = 0) : SlotI (stM σ q 4 v) q := by
  obtain ⟨f1, f2, f3, f4, f5, f6, f7⟩ := h
  unfold SlotI
  rw [stM_ne (show 23 ≠ q by omega), stM_ne (show 29 ≠ q by omega), stM_ne (show q + 1 ≠ q by omega), stM_hit, stM_far (Or.inr (show (0 : Nat) ≠ 4 by decide)), stM_far (Or.inr (show (1 : Nat) ≠ 4 by decide)), stM_far (Or.inr (show (2 : Nat) ≠ 4 by decide)), stM_far (Or.inr (show (3 : Nat) ≠ 4 by decide)), stM_far (Or.inr (show (5 : Nat) ≠ 4 by decide))]
  exact ⟨hv, f2, fun e => ⟨(f3 e).1, (f3 e).2.1, (f3 e).2.2.1, h0 e, (f3 e).2.2.2.2.1, (f3 e).2.2.2.2.2⟩, f4, f5, f6, f7⟩
theorem frz_lp {i S B : Nat} {σ0 τ0 : Mem} {l2 : Int32} (hi : i < 8) (hv : l2 = 0 ↔ τ0 18 0 = 0) (h34 : τ0 0 34 = nI i) : ∀ (d k m1 m2 : Nat) (σ τ : Mem), k + d = 8 → d < m1 → d < m2 → TI S B σ τ → FrC σ0 σ → FrM τ0 τ → τ 18 = τ0 18 → τ 0 = τ0 0 → σ 118 = σ0 118 → σ (42 + 2 * i) 0 = σ0 (42 + 2 * i) 0 → ∃ σ' τ', itr3 b_X5_freezeOthers_2 m1 (42 + 2 * i) l2 (nI k) σ = some (0, σ') ∧ itr1 b_X11_does_311 m2 (nI k) τ = some (1, τ') ∧ TI S B σ' τ' ∧ FrC σ0 σ' ∧ FrM τ0 τ' ∧ τ' 0 = τ0 0 ∧ σ' 118 = σ0 118 ∧ σ' (42 + 2 * i) 0 = σ0 (42 + 2 * i) 0 := by
  intro d
  induction d with
  | zero =>
    intro k m1 m2 σ τ hk hm1 hm2 t f g e18 e0 e118 hj
    have hk8 : k = 8 := by omega
    subst hk8
    obtain ⟨m1, rfl⟩ : ∃ m', m1 = m' + 1 := ⟨m1 - 1, by omega⟩
    obtain ⟨m2, rfl⟩ : ∃ m', m2 = m' + 1 := ⟨m2 - 1, by omega⟩
    refine ⟨σ, τ, ?_, ?_, t, f, g, e0, e118, hj⟩
    · show b_X5_freezeOthers_2 m1 (itr3 b_X5_freezeOthers_2 m1) _ _ _ σ = _
      generalize itr3 b_X5_freezeOthers_2 m1 = w
      unfold b_X5_freezeOthers_2
      rw [if_pos (show (8 : Int32) ≤ nI 8 by decide)]
    · show b_X11_does_311 m2 (itr1 b_X11_does_311 m2) _ τ = _
      generalize itr1 b_X11_does_311 m2 = w
      unfold b_X11_does_311
      rw [if_pos (show (8 : Int32) ≤ nI 8 by decide), ckz1]
  | succ d ih =>
    intro k m1 m2 σ τ hk hm1 hm2 t f g e18 e0 e118 hj
    have hk8 : k < 8 := by omega
    obtain ⟨m1, rfl⟩ : ∃ m', m1 = m' + 1 := ⟨m1 - 1, by omega⟩
    obtain ⟨m2, rfl⟩ : ∃ m', m2 = m' + 1 := ⟨m2 - 1, by omega⟩
    have C : ∀ b : Int32, okZ b → (b = if l2 = 0 then 0 else if σ (42 + 2 * k) 0 = 0 then 0 else if k = i then 0 else 1) → itr3 b_X5_freezeOthers_2 (m1 + 1) (42 + 2 * i) l2 (nI k) σ = itr3 b_X5_freezeOthers_2 m1 (42 + 2 * i) l2 (nI (k + 1)) (stM σ (42 + 2 * k) 4 b) := by
      intro b hb eb
      show b_X5_freezeOthers_2 m1 (itr3 b_X5_freezeOthers_2 m1) _ _ _ σ = _
      generalize itr3 b_X5_freezeOthers_2 m1 = w
      unfold b_X5_freezeOthers_2 b_X5_freezeOthers_43 b_X5_freezeOthers_44
      rw [if_neg (show ¬ (8 : Int32) ≤ nI k from nI_ge (a := k) (b := 8) hk8 (by omega)), ck_t (inb_nI hk8 (by decide)), nI_clamp (by omega), lt_eq, show 40 + 2 + 2 * k = 42 + 2 * k by omega, runs_eq, bd_mk, ckz0, ckz1]
      simp only [lt_eq, show nI k + Int32.ofInt 1 = nI (k + 1) from nI_1 k]
      by_cases z : l2 = 0
      · rw [if_pos z] at eb
        rw [if_pos z, eb]
      · rw [if_neg z] at eb
        rw [if_neg z]
        by_cases r : σ (42 + 2 * k) 0 = 0
        · rw [if_pos r] at eb
          rw [bz_f (fun q => q r), if_pos rfl, eb]
        · rw [if_neg r] at eb
          rw [bz_t r, if_neg n10]
          by_cases e : k = i
          · rw [if_pos e] at eb
            rw [if_pos (by rw [e]), eb]
          · rw [if_neg e] at eb
            rw [if_neg (by omega), eb]
    have M : ∀ b : Int32, (b = if l2 = 0 then 0 else if σ (42 + 2 * k) 0 = 0 then 0 else if k = i then 0 else 1) → itr1 b_X11_does_311 (m2 + 1) (nI k) τ = itr1 b_X11_does_311 m2 (nI (k + 1)) (stM τ 15 (70 + 10 * k + 4) b) := by
      intro b eb
      show b_X11_does_311 m2 (itr1 b_X11_does_311 m2) _ τ = _
      generalize itr1 b_X11_does_311 m2 = w
      unfold b_X11_does_311 b_X11_does_350 b_X11_does_351
      have ek := t.s (i := k) (j := 0) hk8 (by decide)
      rw [Nat.add_zero] at ek
      rw [if_neg (show ¬ (8 : Int32) ≤ nI k from nI_ge (a := k) (b := 8) hk8 (by omega)), ck0_4, cl0, e18, e0, h34, of0 m2 hk8, bd_mk, ek]
      simp only [to_c m2 (x := 4) (j := 4) rfl hk8 (by decide), bv_mk, lt_eq, show nI k + Int32.ofInt 1 = nI (k + 1) from nI_1 k]
      by_cases z : l2 = 0
      · rw [if_pos z] at eb
        rw [if_pos (hv.mp z), eb]
      · rw [if_neg z] at eb
        rw [if_neg (fun q => z (hv.mpr q))]
        by_cases e : k = i
        · rw [if_pos e] at eb
          rw [if_pos (by rw [e])]
          by_cases r : σ (42 + 2 * k) 0 = 0
          · rw [if_pos r] at eb; rw [eb]
          · rw [if_neg r] at eb; rw [eb]
        · rw [if_neg e] at eb
          rw [if_neg (fun q => e ((nI_eq (by omega) (by omega)).mp q))]
          by_cases r : σ (42 + 2 * k) 0 = 0
          · rw [if_pos r] at eb
            rw [if_pos r, eb]
          · rw [if_neg r] at eb
            rw [if_neg r, eb]
    obtain ⟨b, eb, hb, hb0⟩ : ∃ b : Int32, (b = if l2 = 0 then 0 else if σ (42 + 2 * k) 0 = 0 then 0 else if k = i then 0 else 1) ∧ okZ b ∧ (σ (42 + 2 * k) 0 = 0 → b = 0) := by
      refine ⟨_, rfl, ?_, fun q => ?_⟩
      · by_cases z : l2 = 0
        · rw [if_pos z]; exact okZ0
        · rw [if_neg z]
          by_cases r : σ (42 + 2 * k) 0 = 0
          · rw [if_pos r]; exact okZ0
          · rw [if_neg r]
            by_cases e : k = i
            · rw [if_pos e]; exact okZ0
            · rw [if_neg e]; exact okZ1
      · by_cases z : l2 = 0
        · rw [if_pos z]
        · rw [if_neg z, if_pos q]
    rw [C b hb eb, M b eb]
    obtain ⟨f1, g1, t1⟩ := t.slw (i := k) (j0 := 4) (v := b) hk8 (by decide) ((t.slI hk8).fz (by omega) hb hb0)
    exact ih (k + 1) m1 m2 _ _ (by omega) (by omega) (by omega) t1 (f.tr f1) (g.tr g1) (by rw [stM_ne (by decide), e18]) (by rw [stM_ne (by decide), e0]) (by rw [stM_ne (by omega), e118]) (by rw [stM_far (Or.inr (by decide)), hj])
theorem or_22 {n i c p0 L S B p : Nat} {σ τ : Mem} (hn : 1000 ≤ n) (h : OC i c p0 L S B p σ τ) (hG : RG i L 22 σ τ) : OR n i S B 22 σ τ := by
  have e0 := hG.1 0 (by decide)
  have hi := h.2.1.1
  obtain ⟨σ', τ', c1, m1, t1, f1, g1, k0, k118, kq⟩ := frz_lp (i := i) (S := S) (B := B) (σ0 := σ) (τ0 := τ) (l2 := if σ 119 0 = 0 then 0 else 1) hi (by rw [← e0]; by_cases q : σ 119 0 = 0 <;> simp [q]) h.i4 8 0 n n σ τ (by omega) (by omega) (by omega) h.1 (FrC.rf σ) (FrM.rf τ) rfl rfl rfl rfl
  refine actg h (fun u _ => ma_22 n u) ?_ ?_ f1 g1 (t1.up (by omega)) kq k118 (by rw [k0])
  · rw [pf_22, bd_id, bd_id, ← c1]
    unfold f_X5_freezeOthers
    by_cases q : σ 119 0 = 0
    · rw [if_pos q, if_pos q]; rfl
    · rw [if_neg q, if_neg q]; rfl
  · rw [do_22]
    exact m1
theorem or_all {n i c p0 L S B p o : Nat} {σ τ : Mem} (hn : 1000 ≤ n) (hB : B < 1900000000) (ho : o < 34) (h : OC i c p0 L S B p σ τ) (hG : RG i L o σ τ) : OR n i S B o σ τ := by
  rcases (show o = 0 ∨ o = 1 ∨ o = 2 ∨ o = 3 ∨ o = 4 ∨ o = 5 ∨ o = 6 ∨ o = 7 ∨ o = 8 ∨ o = 9 ∨ o = 10 ∨ o = 11 ∨ o = 12 ∨ o = 13 ∨ o = 14 ∨ o = 15 ∨ o = 16 ∨ o = 17 ∨ o = 18 ∨ o = 19 ∨ o = 20 ∨ o = 21 ∨ o = 22 ∨ o = 23 ∨ o = 24 ∨ o = 25 ∨ o = 26 ∨ o = 27 ∨ o = 28 ∨ o = 29 ∨ o = 30 ∨ o = 31 ∨ o = 32 ∨ o = 33 by omega) with rfl | rfl | rfl | rfl | rfl | rfl | rfl | rfl | rfl | rfl | rfl | rfl | rfl | rfl | rfl | rfl | rfl | rfl | rfl | rfl | rfl | rfl | rfl | rfl | rfl | rfl | rfl | rfl | rfl | rfl | rfl | rfl | rfl | rfl
  · exact or_0 hn h
  · exact or_1 h
  · exact or_2 h hG
  · exact or_3 h hG
  · exact or_4 h hG
  · exact or_5 h hG
  · exact or_6 h hG
  · exact or_7 h hG
  · exact or_8 h hG
  · exact or_9 h hG
  · exact or_10 h hG
  · exact or_11 hn h hG
  · exact or_12 hn h hG
  · exact or_13 h hG
  · exact or_14 h hG
  · exact or_15 h hG
  · exact or_16 h hG
  · exact or_17 h hG
  · exact or_18 h hG
  · exact or_19 h hG
  · exact or_20 hB h hG
  · exact or_21 h hG
  · exact or_22 hn h hG
  · exact or_23 h hG
  · exact or_24 h hG
  · exact or_25 h hG
  · exact or_26 hn h hG
  · exact or_27 h hG
  · exact or_28 h hG
  · exact or_29 h hG
  · exact or_30 hn h hG
  · exact or_31 h hG
  · exact or_32 h hG
  · exact or_33 hn h hG
