/-! ===== play: the whole tape is read ===== -/
def tgK (t : Nat) : Nat := if t = 82 then 0 else if t = 83 then 1 else if t = 79 then 2 else 3
theorem tgK_lt (t : Nat) : tgK t < 4 := by
  unfold tgK
  by_cases a : t = 82
  · rw [if_pos a]; omega
  · rw [if_neg a]
    by_cases b : t = 83
    · rw [if_pos b]; omega
    · rw [if_neg b]
      by_cases c : t = 79
      · rw [if_pos c]; omega
      · rw [if_neg c]; omega
def lnB (B : Nat → Nat) (q : Nat) : Nat := 256 * B (q + 1) + B (q + 2)
def nxB (B : Nat → Nat) (q : Nat) : Nat := q + 3 + lnB B q
def posB (B : Nat → Nat) : Nat → Nat
  | 0 => 4
  | k + 1 => nxB B (posB B k)
def cntB (B : Nat → Nat) (K : Nat) : Nat → Nat
  | 0 => 0
  | k + 1 => cntB B K k + if tgK (B (posB B k)) = K then 1 else 0
theorem posB_ge (B : Nat → Nat) : ∀ k, 4 + 3 * k ≤ posB B k := by
  intro k
  induction k with
  | zero => show 4 + 3 * 0 ≤ 4; omega
  | succ k ih =>
    show 4 + 3 * (k + 1) ≤ posB B k + 3 + lnB B (posB B k)
    omega
theorem posB_mono (B : Nat → Nat) {j k : Nat} (h : j ≤ k) : posB B j ≤ posB B k := by
  induction k with
  | zero =>
    have : j = 0 := by omega
    subst this; exact Nat.le_refl _
  | succ k ih =>
    by_cases e : j = k + 1
    · subst e; exact Nat.le_refl _
    · have := ih (by omega)
      show posB B j ≤ posB B k + 3 + lnB B (posB B k)
      omega
def BOK (B : Nat → Nat) (T q : Nat) : Prop := (B q = 82 ∨ B q = 83 ∨ B q = 79 ∨ B q = 65) ∧ nxB B q ≤ T ∧ (0 < B (q + 3) ∧ B (q + 3) ≤ mxK (tgK (B q))) ∧ q + 3 < nxB B q ∧ KOK B (tgK (B q)) (q + 3) (nxB B q)
/-- after m blocks without fault -/
def AI (B : Nat → Nat) (T m : Nat) (σ0 τ0 σ τ : Mem) : Prop := RC σ0 σ ∧ RM τ0 τ ∧ σ 31 0 = 0 ∧ τ 0 19 = 0 ∧ σ 31 4 = nI (posB B m) ∧ posB B m ≤ T ∧
  (∀ j, j < m → BOK B T (posB B j) ∧ σ (5 + 3 * tgK (B (posB B j))) (B (posB B j + 3)) = nI (posB B j + 3) ∧ σ (6 + 3 * tgK (B (posB B j))) (B (posB B j + 3)) = nI (posB B (j + 1))) ∧
  (∀ K, K < 4 → ∀ x, x ≤ mxK K → σ (5 + 3 * K) x ≠ 0 → ∃ j, j < m ∧ tgK (B (posB B j)) = K ∧ B (posB B j + 3) = x) ∧
  (∀ K, K < 4 → ∀ x, 0 < x → x ≤ mxK K → (σ (5 + 3 * K) x = 0 ↔ τ 13 (64 * K + x) = 0)) ∧
  (∀ K, K < 4 → σ (4 + 3 * K) 2 = nI (cntB B K m)) ∧ (∀ K, K < 4 → σ (5 + 3 * K) 0 = 0) ∧ σ 31 1 = 0
theorem stM_cj {s : Mem} {k j b : Nat} {v w : Int32} (h : j ≠ b) : stM (stM s k j v) k b w = stM (stM s k b w) k j v := by
  funext x y
  by_cases h1 : x = k
  · subst h1
    by_cases h2 : y = j
    · subst h2; rw [stM_far (Or.inr h), stM_hit, stM_hit]
    · by_cases h3 : y = b
      · subst h3; rw [stM_hit, stM_far (Or.inr h2), stM_hit]
      · rw [stM_far (Or.inr h3), stM_far (Or.inr h2), stM_far (Or.inr h2), stM_far (Or.inr h3)]
  · rw [stM_ne h1, stM_ne h1, stM_ne h1, stM_ne h1]
theorem at_tot (n : Nat) {σ : Mem} {T p : Nat} (hT : σ 2 1 = nI T) (h6 : T ≤ 6000) (hp : p < 10000) : ∃ x, f_X8_at n 2 (nI p) σ = some (x, σ) := by
  by_cases q : p < T
  · exact ⟨_, at_eq n σ hT h6 q⟩
  · exact ⟨_, at_out n σ hT h6 (Or.inr (by rw [nI_toInt (by omega)]; omega))⟩
/-- a block's inside, whatever its tag -/
theorem body_b {T e p t : Nat} {σ τ σ0 τ0 : Mem} (n m : Nat) (hn : 8000 ≤ n) (hm' : 8000 ≤ m) (ht : t = 82 ∨ t = 83 ∨ t = 79 ∨ t = 65) (h : BS T e σ τ) (hp : p ≤ e) (hy : ∀ K, K < 4 → ∀ x, 0 < x → x ≤ mxK K → (σ (5 + 3 * K) x = 0 ↔ τ 13 (64 * K + x) = 0)) (hc : RC σ0 σ) (hm : RM τ0 τ) : BR (byN (τ 1)) (tgK t) p e σ0 τ0 σ τ (if (nI t).toInt = 79 then f_X4_readObject n (Sp σ p) else if (nI t).toInt = 80 then f_X4_readActor n (Sp σ p) else if (nI t).toInt = 81 then f_X4_readActor n (Sp σ p) else if (nI t).toInt = 82 then f_X4_readRoom n (Sp σ p) else if (nI t).toInt = 83 then f_X4_readScript n (Sp σ p) else f_X4_readActor n (Sp σ p)) (f_X11_judgeBlock m (nI t) (Up τ p)) := by
  rcases ht with rfl | rfl | rfl | rfl
  · rw [if_neg (by decide), if_neg (by decide), if_neg (by decide), if_pos (by decide)]
    exact rroom_b n m (by omega) (by omega) h hp (hy 0 (by decide)) hc hm
  · rw [if_neg (by decide), if_neg (by decide), if_neg (by decide), if_neg (by decide), if_pos (by decide)]
    exact script_b n m h hp (hy 1 (by decide)) hc hm
  · rw [if_pos (by decide)]
    exact object_b n m hn hm' h hp (hy 2 (by decide)) hc hm
  · rw [if_neg (by decide), if_neg (by decide), if_neg (by decide), if_neg (by decide), if_neg (by decide)]
    exact actor_b n m h hp (hy 3 (by decide)) hc hm
theorem AI.next {B : Nat → Nat} {T m : Nat} {σ0 τ0 σ τ σb τb σ' τ' : Mem} (h : AI B T m σ0 τ0 σ τ) (ht : B (posB B m) = 82 ∨ B (posB B m) = 83 ∨ B (posB B m) = 79 ∨ B (posB B m) = 65) (hT : nxB B (posB B m) ≤ T) (hT6 : T ≤ 6000) (eb : ∀ z, z ≠ 31 → σb z = σ z) (ub : ∀ z, z ≠ 0 → τb z = τ z) (hR : RC σ0 σ') (hM : RM τ0 τ') (hp : posB B m + 3 < nxB B (posB B m)) (h0 : 0 < B (posB B m + 3)) (h1 : B (posB B m + 3) ≤ mxK (tgK (B (posB B m)))) (h2 : σb (5 + 3 * tgK (B (posB B m))) (B (posB B m + 3)) = 0) (f0 : σ' 31 0 = 0) (f1 : τ' 0 19 = 0) (f2 : σ' 31 4 = nI (nxB B (posB B m))) (g1 : ∀ z, z ≠ 31 → z ≠ 32 → σ' z = NS σb (tgK (B (posB B m))) (posB B m + 3) (nxB B (posB B m)) (B (posB B m + 3)) z) (g2 : ∀ z, z ≠ 0 → z ≠ 14 → τ' z = NU τb (tgK (B (posB B m))) (B (posB B m + 3)) z) (hk : KOK B (tgK (B (posB B m))) (posB B m + 3) (nxB B (posB B m))) (f3 : σ' 31 1 = 0) : AI B T (m + 1) σ0 τ0 σ' τ' := by
  obtain ⟨-, -, -, -, -, a6, a7, a8, a9, a10, a11, -⟩ := h
  have K4 := tgK_lt (B (posB B m))
  generalize eK : tgK (B (posB B m)) = K at *
  generalize eq : posB B m = q at *
  generalize ex : B (q + 3) = x at *
  generalize ee : nxB B q = e at *
  have pe : posB B (m + 1) = e := by
    show nxB B (posB B m) = e
    rw [eq, ee]
  have A5 : ∀ K', K' < 4 → ∀ y, σ' (5 + 3 * K') y = if K' = K ∧ y = x then nI (q + 3) else σ (5 + 3 * K') y := fun K' hK' y => by
    rw [g1 _ (by omega) (by omega)]
    unfold NS
    rw [stM_ne (show 5 + 3 * K' ≠ 4 + 3 * K by omega), stM_ne (show 5 + 3 * K' ≠ 6 + 3 * K by omega)]
    by_cases c : K' = K
    · subst c
      by_cases d : y = x
      · subst d; rw [stM_hit, if_pos ⟨rfl, rfl⟩]
      · rw [stM_far (Or.inr d), if_neg (fun w => d w.2), eb _ (by omega)]
    · rw [stM_ne (by omega), if_neg (fun w => c w.1), eb _ (by omega)]
  have A6 : ∀ K', K' < 4 → ∀ y, σ' (6 + 3 * K') y = if K' = K ∧ y = x then nI e else σ (6 + 3 * K') y := fun K' hK' y => by
    rw [g1 _ (by omega) (by omega)]
    unfold NS
    rw [stM_ne (show 6 + 3 * K' ≠ 4 + 3 * K by omega)]
    by_cases c : K' = K
    · subst c
      by_cases d : y = x
      · subst d; rw [stM_hit, if_pos ⟨rfl, rfl⟩]
      · rw [stM_far (Or.inr d), stM_ne (by omega), if_neg (fun w => d w.2), eb _ (by omega)]
    · rw [stM_ne (by omega), stM_ne (by omega), if_neg (fun w => c w.1), eb _ (by omega)]
  have z0 : σ (5 + 3 * K) x = 0 := by rw [← eb _ (by omega)]; exact h2
  have mk := mxK_le K K4
  refine ⟨hR, hM, f0, f1, by rw [pe]; exact f2, by rw [pe]; exact hT, ?_, ?_, ?_, ?_, ?_, f3⟩
  · intro j hj
    by_cases ej : j = m
    · subst ej
      rw [eq, pe, ex, eK]
      refine ⟨⟨by rw [← eq]; rw [eq]; exact ht, by rw [ee]; exact hT, by rw [ex, eK]; exact ⟨h0, h1⟩, by rw [ee]; exact hp, by rw [eK, ee]; exact hk⟩, ?_, ?_⟩
      · rw [A5 K K4, if_pos ⟨rfl, rfl⟩]
      · rw [A6 K K4, if_pos ⟨rfl, rfl⟩]
    · obtain ⟨b1, b2, b3⟩ := a7 j (by omega)
      have ne : ¬ (tgK (B (posB B j)) = K ∧ B (posB B j + 3) = x) := fun w => by
        rw [w.1, w.2, z0] at b2
        have b4 : nI (posB B j + 3) = 0 := b2.symm
        have := posB_mono B (show j ≤ m by omega)
        rw [eq] at this
        exact nI_ne0 (by omega) (by omega) b4
      refine ⟨b1, ?_, ?_⟩
      · rw [A5 _ (tgK_lt _), if_neg ne]; exact b2
      · rw [A6 _ (tgK_lt _), if_neg ne]; exact b3
  · intro K' hK' y hy hne
    rw [A5 K' hK'] at hne
    by_cases c : K' = K ∧ y = x
    · exact ⟨m, by omega, by rw [eq, eK, c.1], by rw [eq, ex, c.2]⟩
    · rw [if_neg c] at hne
      obtain ⟨j, hj, j1, j2⟩ := a8 K' hK' y hy hne
      exact ⟨j, by omega, j1, j2⟩
  · intro K' hK' y hy0 hy
    have mk' := mxK_le K' hK'
    rw [A5 K' hK', g2 13 (by decide) (by decide)]
    unfold NU
    by_cases c : K' = K ∧ y = x
    · rw [if_pos c, c.1, c.2, stM_hit]
      exact ⟨fun w => absurd w (nI_ne0 (by omega) (by omega)), fun w => absurd w (by decide)⟩
    · rw [if_neg c, stM_far (Or.inr (by omega)), ub 13 (by decide)]
      exact a9 K' hK' y hy0 hy
  · intro K' hK'
    rw [g1 _ (by omega) (by omega)]
    unfold NS
    show _ = nI (cntB B K' m + if tgK (B (posB B m)) = K' then 1 else 0)
    rw [eq, eK]
    by_cases c : K' = K
    · subst c
      rw [stM_hit, eb _ (by omega), a10 K' hK', if_pos rfl, nI_1]
    · rw [stM_ne (by omega), stM_ne (by omega), stM_ne (by omega), eb _ (by omega), a10 K' hK', if_neg (fun w => c w.symm)]
      rfl
  · intro K' hK'
    rw [A5 K' hK', if_neg (by omega)]
    exact a11 K' hK'
theorem blk_b {T m : Nat} {σ0 τ0 σ τ : Mem} (n n' : Nat) (hn : 8000 ≤ n) (hn' : 8000 ≤ n') (hT : TapeR σ0 2 T (τ0 1)) (h : AI (byN (τ0 1)) T m σ0 τ0 σ τ) (hq : posB (byN (τ0 1)) m < T) (k92 : Int32 → Int32 → Int32 → Mem → Option (Int32 × Mem)) :
    (∃ σ' τ', f_X4_readBlock n σ = some σ' ∧ b_X11_judge_92 n' k92 (nI T) (nI m) (nI (posB (byN (τ0 1)) m)) τ = k92 (nI T) (nI (m + 1)) (nI (posB (byN (τ0 1)) (m + 1))) τ' ∧ AI (byN (τ0 1)) T (m + 1) σ0 τ0 σ' τ') ∨
    ∃ x y σ' τ', f_X4_readBlock n σ = some σ' ∧ b_X11_judge_92 n' k92 (nI T) (nI m) (nI (posB (byN (τ0 1)) m)) τ = k92 (nI T) x y τ' ∧ FO σ0 τ0 σ' τ' := by
  obtain ⟨a1, a2, a3, a4, a5, a6, a7, a8, a9, a10, a11, a12⟩ := id h
  have T6 := hT.2.1
  have e1 : τ 1 = τ0 1 := a2.1 1 (by decide) (by decide) (by decide) (by decide)
  have e2 : σ 2 = σ0 2 := a1 2 (by omega)
  have e3 : σ 3 = σ0 3 := a1 3 (by omega)
  have hTs : TapeR σ 2 T (τ 1) := hT.agr (fun k x y => a1 k (by omega)) e1
  have sz : σ 2 1 = nI T := hTs.1
  generalize eB : byN (τ0 1) = B at *
  have B1 : byN (τ 1) = B := by rw [e1, eB]
  generalize eq : posB B m = q at *
  have Bq := tape_by hT (show q < T by omega)
  rw [eB] at Bq
  have atq : f_X8_at n 2 (nI q) σ = some (nI (B q), σ) := by
    have := at_by n (s := σ) hT (show q < T by omega) e2 e3
    rw [eB] at this
    exact this
  have C0 : f_X4_readBlock n σ = bd (f_X4_readHead n (nI (B q)) σ) (fun x4 s3 => if x4 = 0 then (some s3) else (bv (if (nI (B q)).toInt = 79 then f_X4_readObject n s3 else if (nI (B q)).toInt = 80 then f_X4_readActor n s3 else if (nI (B q)).toInt = 81 then f_X4_readActor n s3 else if (nI (B q)).toInt = 82 then f_X4_readRoom n s3 else if (nI (B q)).toInt = 83 then f_X4_readScript n s3 else f_X4_readActor n s3) fun s5 => b_X4_readBlock_85 n s5)) := by
    unfold f_X4_readBlock b_X4_readBlock_81
    rw [a5, atq, bd_mk]
    congr 1
    funext x4 s3
    by_cases z : x4 = 0
    · rw [if_pos z, if_pos z]
    · rw [if_neg z, if_neg z]
      by_cases c1 : (nI (B q)).toInt = 79
      · rw [if_pos c1, if_pos c1]
      · rw [if_neg c1, if_neg c1]
        by_cases c2 : (nI (B q)).toInt = 80
        · rw [if_pos c2, if_pos c2]
        · rw [if_neg c2, if_neg c2]
          by_cases c3 : (nI (B q)).toInt = 81
          · rw [if_pos c3, if_pos c3]
          · rw [if_neg c3, if_neg c3]
            by_cases c4 : (nI (B q)).toInt = 82
            · rw [if_pos c4, if_pos c4]
            · rw [if_neg c4, if_neg c4]
              by_cases c5 : (nI (B q)).toInt = 83
              · rw [if_pos c5, if_pos c5]
              · rw [if_neg c5, if_neg c5]
  have tv : τ 1 q = nI (B q) := by rw [e1]; exact Bq.1
  have M0 : b_X11_judge_92 n' k92 (nI T) (nI m) (nI q) τ = if B q = 82 ∨ B q = 83 ∨ B q = 79 ∨ B q = 65 then b_X11_judge_152 k92 n' (nI T) (nI m) (nI q) (nI (B q)) τ else bv (f_X11_flaw n' 2 (nI q) τ) fun s1 => k92 (nI T) (nI m) (nI q) s1 := by
    unfold b_X11_judge_92 b_X11_judge_275
    rw [if_pos a4, if_neg (nI_ge (by omega) (by omega)), ck_t (inb_nI (by omega) (by decide)), nI_clamp (by omega), tv]
    by_cases c1 : B q = 82
    · rw [if_pos (by rw [c1]; rfl), if_pos (Or.inl c1)]
    · rw [if_neg (show ¬ nI (B q) = (82 : Int32) from fun w => c1 ((nI_eq (a := B q) (b := 82) (by omega) (by omega)).mp w))]
      by_cases c2 : B q = 83
      · rw [if_pos (by rw [c2]; rfl), if_pos (Or.inr (Or.inl c2))]
      · rw [if_neg (show ¬ nI (B q) = (83 : Int32) from fun w => c2 ((nI_eq (a := B q) (b := 83) (by omega) (by omega)).mp w))]
        by_cases c3 : B q = 79
        · rw [if_pos (by rw [c3]; rfl), if_pos (Or.inr (Or.inr (Or.inl c3)))]
        · rw [if_neg (show ¬ nI (B q) = (79 : Int32) from fun w => c3 ((nI_eq (a := B q) (b := 79) (by omega) (by omega)).mp w))]
          by_cases c4 : B q = 65
          · rw [if_pos (by rw [c4]; rfl), if_pos (Or.inr (Or.inr (Or.inr c4)))]
          · rw [if_neg (show ¬ nI (B q) = (65 : Int32) from fun w => c4 ((nI_eq (a := B q) (b := 65) (by omega) (by omega)).mp w)), if_neg (by omega)]
  have H0 : f_X4_readHead n (nI (B q)) σ = if B q = 82 ∨ B q = 83 ∨ B q = 79 ∨ B q = 65 then b_X4_readHead_31 n σ else bv (f_X4_fail n 2 σ) fun s1 => some (0, s1) := by
    unfold f_X4_readHead
    simp only [ckz0]
    by_cases c1 : B q = 82
    · rw [if_pos (by rw [c1]; rfl), if_pos (Or.inl c1)]
    · rw [if_neg (show ¬ nI (B q) = (82 : Int32) from fun w => c1 ((nI_eq (a := B q) (b := 82) (by omega) (by omega)).mp w))]
      by_cases c2 : B q = 83
      · rw [if_pos (by rw [c2]; rfl), if_pos (Or.inr (Or.inl c2))]
      · rw [if_neg (show ¬ nI (B q) = (83 : Int32) from fun w => c2 ((nI_eq (a := B q) (b := 83) (by omega) (by omega)).mp w))]
        by_cases c3 : B q = 79
        · rw [if_pos (by rw [c3]; rfl), if_pos (Or.inr (Or.inr (Or.inl c3)))]
        · rw [if_neg (show ¬ nI (B q) = (79 : Int32) from fun w => c3 ((nI_eq (a := B q) (b := 79) (by omega) (by omega)).mp w))]
          by_cases c4 : B q = 65
          · rw [if_pos (by rw [c4]; rfl), if_pos (Or.inr (Or.inr (Or.inr c4)))]
          · rw [if_neg (show ¬ nI (B q) = (65 : Int32) from fun w => c4 ((nI_eq (a := B q) (b := 65) (by omega) (by omega)).mp w)), if_neg (by omega)]
  rw [C0, M0, H0]
  by_cases ht : B q = 82 ∨ B q = 83 ∨ B q = 79 ∨ B q = 65
  · rw [if_pos ht, if_pos ht]
    have FL : (∃ x y σ' τ', (bd (b_X4_readHead_105 n σ) (fun x4 s3 => if x4 = 0 then (some s3) else (bv (if (nI (B q)).toInt = 79 then f_X4_readObject n s3 else if (nI (B q)).toInt = 80 then f_X4_readActor n s3 else if (nI (B q)).toInt = 81 then f_X4_readActor n s3 else if (nI (B q)).toInt = 82 then f_X4_readRoom n s3 else if (nI (B q)).toInt = 83 then f_X4_readScript n s3 else f_X4_readActor n s3) fun s5 => b_X4_readBlock_85 n s5))) = some σ' ∧ b_X11_judge_191 k92 n' (nI T) (nI m) (nI q) τ = k92 (nI T) x y τ' ∧ FO σ0 τ0 σ' τ') := by
      refine ⟨nI m, nI q, stM (stM σ 31 0 (nI 3)) 31 1 (nI q), stM (stM τ 0 19 (nI 3)) 0 20 (nI q), ?_, ?_, FO.mk2 (by omega) a1 a2⟩
      · unfold b_X4_readHead_105
        rw [fail_0 n a3, bv_mk, ckz0, bd_mk, if_pos rfl, a5]
        rfl
      · unfold b_X11_judge_191 b_X11_judge_275
        rw [flaw_0 n' a4, bv_mk]
        rfl
    have q3 : nI q + (3 : Int32) = nI (q + 3) := nI_add q 3
    have q1 : nI q + (1 : Int32) = nI (q + 1) := nI_1 q
    have q2 : nI q + (2 : Int32) = nI (q + 2) := nI_add q 2
    by_cases c3 : q + 3 ≤ T
    · have B1' := tape_by hT (show q + 1 < T by omega)
      have B2' := tape_by hT (show q + 2 < T by omega)
      rw [eB] at B1' B2'
      have at1 : f_X8_at n 2 (nI (q + 1)) σ = some (nI (B (q + 1)), σ) := by
        have := at_by n (s := σ) hT (show q + 1 < T by omega) e2 e3
        rw [eB] at this
        exact this
      have at2 : f_X8_at n 2 (nI (q + 2)) σ = some (nI (B (q + 2)), σ) := by
        have := at_by n (s := σ) hT (show q + 2 < T by omega) e2 e3
        rw [eB] at this
        exact this
      have len : (nI (B (q + 1)) <<< ((8 : Int32) &&& 31)) ||| nI (B (q + 2)) = nI (lnB B q) := hl_nat _ B1'.2 _ B2'.2
      have lnl : lnB B q < 66000 := by unfold lnB; omega
      have add : nI (q + 3) + nI (lnB B q) = nI (nxB B q) := nI_add _ _
      have nxl : nxB B q = q + 3 + lnB B q := rfl
      have HC : b_X4_readHead_31 n σ = if nxB B q ≤ T then some (1, Sp (stM σ 31 5 (nI (nxB B q))) (q + 3)) else b_X4_readHead_105 n σ := by
        unfold b_X4_readHead_31
        rw [a5, q3, q1, lt_eq, at1, bd_mk, a5, q2, at2, bd_mk, len, lt_eq, sz, if_neg (nI_nlt (by omega) (by omega)), add]
        by_cases c : nxB B q ≤ T
        · rw [if_pos (nI_le c (by omega)), if_pos c, lt_eq, lt_eq, ckz1]
          congr 2
          exact stM_cj (by decide)
        · rw [if_neg (nI_ge (by omega) (by omega)), if_neg c]
      have t1 : τ 1 (q + 1) = nI (B (q + 1)) := by rw [e1]; exact B1'.1
      have t2 : τ 1 (q + 2) = nI (B (q + 2)) := by rw [e1]; exact B2'.1
      have HM : b_X11_judge_152 k92 n' (nI T) (nI m) (nI q) (nI (B q)) τ = if nxB B q ≤ T then bv (f_X11_judgeBlock n' (nI (B q)) (Up (stM τ 0 23 (nI (nxB B q))) (q + 3))) (fun s3 => if (s3 0 23) ≤ (s3 0 22) then (b_X11_judge_266 k92 n' (nI T) (nI m) s3) else (bv (f_X11_flaw n' (4 : Int32) (s3 0 22) s3) (fun s4 => b_X11_judge_266 k92 n' (nI T) (nI m) s4))) else b_X11_judge_191 k92 n' (nI T) (nI m) (nI q) τ := by
        unfold b_X11_judge_152
        rw [q3, q1, q2, if_neg (nI_nlt (by omega) (by omega)), ck_t (inb_nI (by omega) (by decide)), ck_t (inb_nI (by omega) (by decide)), nI_clamp (by omega), nI_clamp (by omega), t1, t2, len, add]
        by_cases c : nxB B q ≤ T
        · rw [if_pos (nI_le c (by omega)), if_pos c, lt_eq, ck_t (inb_nI (by omega) (by decide)), ck_t (inb_nI (by omega) (by decide)), stM_ne (show (1 : Nat) ≠ 0 by decide), t1, t2, len, stM_hit, add, lt_eq, stM_cj (show (22 : Nat) ≠ 23 by decide)]
          rfl
        · rw [if_neg (nI_ge (by omega) (by omega)), if_neg c]
      rw [HC, HM]
      by_cases c : nxB B q ≤ T
      · rw [if_pos c, if_pos c, bd_mk, if_neg n10]
        have bs : BS T (nxB B q) (stM σ 31 5 (nI (nxB B q))) (stM τ 0 23 (nI (nxB B q))) := ⟨by rw [stM_far (Or.inr (by decide))]; exact a3, by rw [stM_far (Or.inr (by decide))]; exact a4, stM_hit _ _ _ _, stM_hit _ _ _ _, c, hTs.agr (fun k x y => stM_ne (by omega)) (stM_ne (by decide))⟩
        have hB1 : byN ((stM τ 0 23 (nI (nxB B q))) 1) = B := by rw [stM_ne (by decide)]; exact B1
        have bb := body_b (t := B q) n n' hn hn' ht bs (show q + 3 ≤ nxB B q by omega) (fun K hK x x0 xm => by
          rw [stM_ne (show 5 + 3 * K ≠ 31 by omega), stM_ne (show (13 : Nat) ≠ 0 by decide)]
          exact a9 K hK x x0 xm) (a1.w (by omega)) (a2.w0 (by omega))
        rw [hB1] at bb
        rcases bb with ⟨σ', τ', x1, x2, P', w1, w2, w3, w4, w5, w6, w7, w8, w9, w10, w11, w12, w13, w14, w15, w16⟩ | ⟨σ', τ', x1, x2, fo⟩
        · rw [x1, x2, bv_mk, bv_mk]
          have RC' : RC σ0 σ' := fun z hz => by
            have K4 := tgK_lt (B q)
            rw [w12 z (by omega) (by omega), NS_ne (by omega) (by omega) (by omega), stM_ne (by omega)]
            exact a1 z hz
          have RM' : RM τ0 τ' := by
            refine ⟨fun z b1 b2 b3 b4 => ?_, fun j b1 b2 b3 b4 => ?_⟩
            · rw [w13 z b1 b3, NU_ne b2, stM_ne b1]; exact a2.1 z b1 b2 b3 b4
            · rw [w14 j b3, stM_far (Or.inr b4)]; exact a2.2 j b1 b2 b3 b4
          unfold b_X4_readBlock_85 b_X4_readBlock_101 b_X11_judge_266 b_X11_judge_275
          rw [w7, w8, w9, w10]
          by_cases eP : P' = nxB B q
          · rw [if_pos (nI_le (by omega) (by omega)), if_pos (nI_le (by omega) (by omega)), lt_eq, show nI m + Int32.ofInt 1 = nI (m + 1) from nI_1 m]
            left
            have pe : posB B (m + 1) = nxB B q := by
              show nxB B (posB B m) = _
              rw [eq]
            refine ⟨σ', τ', rfl, by rw [pe], ?_⟩
            refine h.next (σb := stM σ 31 5 (nI (nxB B q))) (τb := stM τ 0 23 (nI (nxB B q))) (by rw [eq]; exact ht) (by rw [eq]; exact c) T6 (fun z hz => stM_ne hz) (fun z hz => stM_ne hz) RC' RM' (by rw [eq]; exact w1) (by rw [eq]; exact w2) (by rw [eq]; exact w3) (by rw [eq]; exact w4) w5 w6 (by rw [eq, ← eP]; exact w7) (by rw [eq]; exact w12) (by rw [eq]; exact w13) (by rw [eq]; exact w15 eP) (by rw [w16, stM_far (Or.inr (by decide))]; exact a12)
          · rw [if_neg (nI_ge (by omega) (by omega)), if_neg (nI_ge (by omega) (by omega)), fail_0 n w5, bv_mk, flaw_0 n' w6, bv_mk, w7, lt_eq]
            exact Or.inr ⟨_, _, _, _, rfl, rfl, FO.mk2 (k := 4) (by omega) RC' RM'⟩
        · rw [x1, x2, bv_mk, bv_mk]
          have fo' : FO σ0 τ0 σ' τ' := fo
          have A : b_X4_readBlock_85 n σ' = some σ' := by
            unfold b_X4_readBlock_85 b_X4_readBlock_101
            by_cases z : σ' 31 5 ≤ σ' 31 4
            · rw [if_pos z]
            · rw [if_neg z, fail_f n fo.c, bv_mk]
          have Bm : (if τ' 0 23 ≤ τ' 0 22 then b_X11_judge_266 k92 n' (nI T) (nI m) τ' else bv (f_X11_flaw n' 4 (τ' 0 22) τ') fun s4 => b_X11_judge_266 k92 n' (nI T) (nI m) s4) = b_X11_judge_266 k92 n' (nI T) (nI m) τ' := by
            by_cases z : τ' 0 23 ≤ τ' 0 22
            · rw [if_pos z]
            · rw [if_neg z, flaw_f n' fo.m, bv_mk]
          rw [A, Bm]
          exact Or.inr ⟨_, _, _, _, rfl, rfl, fo⟩
      · rw [if_neg c, if_neg c]
        exact Or.inr FL
    · have HC : b_X4_readHead_31 n σ = b_X4_readHead_105 n σ := by
        obtain ⟨y1, z1⟩ := at_tot n sz T6 (show q + 1 < 10000 by omega)
        obtain ⟨y2, z2⟩ := at_tot n sz T6 (show q + 2 < 10000 by omega)
        unfold b_X4_readHead_31
        rw [a5, q3, q1, lt_eq, z1, bd_mk, a5, q2, z2, bd_mk, lt_eq, sz, if_pos (nI_lt (by omega) (by omega))]
      have HM : b_X11_judge_152 k92 n' (nI T) (nI m) (nI q) (nI (B q)) τ = b_X11_judge_191 k92 n' (nI T) (nI m) (nI q) τ := by
        unfold b_X11_judge_152
        rw [q3, if_pos (nI_lt (by omega) (by omega))]
      rw [HC, HM]
      exact Or.inr FL
  · rw [if_neg ht, if_neg ht, fail_0 n a3, bv_mk, bd_mk, if_pos rfl, flaw_0 n' a4, bv_mk, a5]
    exact Or.inr ⟨_, _, _, _, rfl, rfl, FO.mk2 (k := 2) (by omega) a1 a2⟩
