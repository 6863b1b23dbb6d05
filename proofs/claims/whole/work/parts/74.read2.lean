/-! ===== play: from the mark to the end ===== -/
theorem rdC_f {M : Nat} (hM : 0 < M) (x : Int32) {σ : Mem} (h : ¬ σ 31 0 = 0) : itr1 b_X4_read_23 M x σ = some (-1, σ) := by
  obtain ⟨M, rfl⟩ : ∃ m', M = m' + 1 := ⟨M - 1, by omega⟩
  show b_X4_read_23 M (itr1 b_X4_read_23 M) _ σ = _
  generalize itr1 b_X4_read_23 M = w
  unfold b_X4_read_23 b_X4_read_64 b_X4_read_76
  rw [if_neg h, if_neg h]
  by_cases q : (6000 : Int32) ≤ x
  · rw [if_pos q]
  · rw [if_neg q]
theorem jdM_f {M : Nat} (hM : 0 < M) (x y z : Int32) {τ : Mem} (h : ¬ τ 0 19 = 0) : itr3 b_X11_judge_92 M x y z τ = some (y, τ) := by
  obtain ⟨M, rfl⟩ : ∃ m', M = m' + 1 := ⟨M - 1, by omega⟩
  show b_X11_judge_92 M (itr3 b_X11_judge_92 M) _ _ _ τ = _
  generalize itr3 b_X11_judge_92 M = w
  unfold b_X11_judge_92 b_X11_judge_278
  rw [if_neg h]
theorem rd_lp {T : Nat} {σ0 τ0 : Mem} (hT : TapeR σ0 2 T (τ0 1)) : ∀ (d m M M' : Nat) (σ τ : Mem), T ≤ posB (byN (τ0 1)) m + d → d + 8001 ≤ M → d + 8001 ≤ M' → AI (byN (τ0 1)) T m σ0 τ0 σ τ →
    (∃ m' σ' τ', posB (byN (τ0 1)) m' = T ∧ itr1 b_X4_read_23 M (nI m) σ = some (nI m', σ') ∧ itr3 b_X11_judge_92 M' (nI T) (nI m) (nI (posB (byN (τ0 1)) m)) τ = some (nI m', τ') ∧ AI (byN (τ0 1)) T m' σ0 τ0 σ' τ') ∨
    ∃ x σ' τ', itr1 b_X4_read_23 M (nI m) σ = some (-1, σ') ∧ itr3 b_X11_judge_92 M' (nI T) (nI m) (nI (posB (byN (τ0 1)) m)) τ = some (x, τ') ∧ FO σ0 τ0 σ' τ' := by
  intro d
  have T6 := hT.2.1
  induction d with
  | zero =>
    intro m M M' σ τ hd hM hM' h
    obtain ⟨a1, a2, a3, a4, a5, a6, -⟩ := id h
    have eT : posB (byN (τ0 1)) m = T := by omega
    have pg := posB_ge (byN (τ0 1)) m
    obtain ⟨M, rfl⟩ : ∃ m', M = m' + 1 := ⟨M - 1, by omega⟩
    obtain ⟨M', rfl⟩ : ∃ m', M' = m' + 1 := ⟨M' - 1, by omega⟩
    refine Or.inl ⟨m, σ, τ, eT, ?_, ?_, h⟩
    · show b_X4_read_23 M (itr1 b_X4_read_23 M) _ σ = _
      generalize itr1 b_X4_read_23 M = w
      unfold b_X4_read_23 b_X4_read_64 b_X4_read_76
      rw [if_neg (show ¬ (6000 : Int32) ≤ nI m from nI_ge (a := m) (b := 6000) (by omega) (by omega)), if_pos a3, a1 2 (by omega), hT.1, a5, eT, if_pos (nI_le (by omega) (by omega)), if_pos a3]
    · show b_X11_judge_92 M' (itr3 b_X11_judge_92 M') _ _ _ τ = _
      generalize itr3 b_X11_judge_92 M' = w
      unfold b_X11_judge_92 b_X11_judge_278
      rw [if_pos a4, eT, if_pos (nI_le (by omega) (by omega))]
  | succ d ih =>
    intro m M M' σ τ hd hM hM' h
    obtain ⟨a1, a2, a3, a4, a5, a6, -⟩ := id h
    have pg := posB_ge (byN (τ0 1)) m
    by_cases eT : posB (byN (τ0 1)) m = T
    · exact ih m M M' σ τ (by omega) (by omega) (by omega) h
    · obtain ⟨M, rfl⟩ : ∃ m', M = m' + 1 := ⟨M - 1, by omega⟩
      obtain ⟨M', rfl⟩ : ∃ m', M' = m' + 1 := ⟨M' - 1, by omega⟩
      have C : itr1 b_X4_read_23 (M + 1) (nI m) σ = bv (f_X4_readBlock M σ) fun s1 => itr1 b_X4_read_23 M (nI (m + 1)) s1 := by
        show b_X4_read_23 M (itr1 b_X4_read_23 M) _ σ = _
        generalize itr1 b_X4_read_23 M = w
        unfold b_X4_read_23
        rw [if_neg (show ¬ (6000 : Int32) ≤ nI m from nI_ge (a := m) (b := 6000) (by omega) (by omega)), if_pos a3, a1 2 (by omega), hT.1, a5, if_neg (nI_ge (by omega) (by omega)), show nI m + Int32.ofInt 1 = nI (m + 1) from nI_1 m]
        rfl
      have Mo : itr3 b_X11_judge_92 (M' + 1) (nI T) (nI m) (nI (posB (byN (τ0 1)) m)) τ = b_X11_judge_92 M' (itr3 b_X11_judge_92 M') (nI T) (nI m) (nI (posB (byN (τ0 1)) m)) τ := rfl
      rw [C, Mo]
      have pm : posB (byN (τ0 1)) m + 3 ≤ posB (byN (τ0 1)) (m + 1) := by
        show _ ≤ posB (byN (τ0 1)) m + 3 + lnB (byN (τ0 1)) (posB (byN (τ0 1)) m)
        omega
      rcases blk_b M M' (by omega) (by omega) hT h (by omega) (itr3 b_X11_judge_92 M') with ⟨σ', τ', x1, x2, x3⟩ | ⟨x, y, σ', τ', x1, x2, fo⟩
      · rw [x1, x2, bv_mk]
        exact ih (m + 1) M M' σ' τ' (by omega) (by omega) (by omega) x3
      · rw [x1, x2, bv_mk, rdC_f (by omega) _ fo.c, jdM_f (by omega) _ _ _ fo.m]
        exact Or.inr ⟨_, _, _, rfl, rfl, fo⟩
/-! the mark -/
theorem mkC_f {M : Nat} (hM : 0 < M) (x : Int32) {σ : Mem} (h : ¬ σ 31 0 = 0) : itr1 b_X4_readMark_7 M x σ = some σ := by
  obtain ⟨M, rfl⟩ : ∃ m', M = m' + 1 := ⟨M - 1, by omega⟩
  show b_X4_readMark_7 M (itr1 b_X4_readMark_7 M) _ σ = _
  generalize itr1 b_X4_readMark_7 M = w
  unfold b_X4_readMark_7 b_X4_readMark_65
  rw [if_neg h]
  by_cases q : (4 : Int32) ≤ x
  · rw [if_pos q]
  · rw [if_neg q]
theorem mkM_f {T : Nat} (hT : T ≤ 6000) {τ : Mem} (h : ¬ τ 0 19 = 0) : ∀ (d k M : Nat), k + d = 4 → d < M → ∃ M', M ≤ M' + d + 1 ∧ itr2 b_X11_judge_53 M (nI T) (nI k) τ = itr3 b_X11_judge_92 M' (nI T) (nI 0) (nI 4) τ := by
  intro d
  induction d with
  | zero =>
    intro k M hk hM
    have e : k = 4 := by omega
    subst e
    obtain ⟨M, rfl⟩ : ∃ m', M = m' + 1 := ⟨M - 1, by omega⟩
    refine ⟨M, by omega, ?_⟩
    show b_X11_judge_53 M (itr2 b_X11_judge_53 M) _ _ τ = _
    generalize itr2 b_X11_judge_53 M = w
    unfold b_X11_judge_53
    rw [if_pos (show (4 : Int32) ≤ nI 4 by decide)]
    rfl
  | succ d ih =>
    intro k M hk hM
    have hk4 : k < 4 := by omega
    obtain ⟨M, rfl⟩ : ∃ m', M = m' + 1 := ⟨M - 1, by omega⟩
    obtain ⟨M', hM', e1⟩ := ih (k + 1) M (by omega) (by omega)
    refine ⟨M', by omega, ?_⟩
    rw [← e1]
    show b_X11_judge_53 M (itr2 b_X11_judge_53 M) _ _ τ = _
    generalize itr2 b_X11_judge_53 M = w
    unfold b_X11_judge_53 b_X11_judge_75 b_X11_judge_81
    rw [if_neg (show ¬ (4 : Int32) ≤ nI k from nI_ge (a := k) (b := 4) hk4 (by omega)), flaw_f M h, bv_mk, lt_eq, show nI k + Int32.ofInt 1 = nI (k + 1) from nI_1 k]
    by_cases q : nI T ≤ nI k
    · rw [if_pos q]
    · have : ¬ T ≤ k := fun w => q (nI_le w (by omega))
      rw [if_neg q, ck_t (inb_nI (by omega) (by decide)), ck_t (inb_nI (by omega) (by decide))]
      by_cases q2 : τ 1 (nI k).toNatClampNeg = τ 19 (nI k).toNatClampNeg
      · rw [if_pos q2]
      · rw [if_neg q2]
theorem mk_lp {T : Nat} {σ0 τ0 σ τ : Mem} (hT : TapeR σ 2 T (τ 1)) (h3 : σ 31 0 = 0) (h4 : τ 0 19 = 0) (h9 : ∀ k, k < 4 → τ 19 k = tbM k) (hc : RC σ0 σ) (hm : RM τ0 τ) : ∀ (d k M M' : Nat), k + d = 4 → d + 1 < M → d + 1 < M' → k ≤ T →
    (∃ M2, 4 ≤ T ∧ M' ≤ M2 + d + 1 ∧ itr1 b_X4_readMark_7 M (nI k) (Sp σ k) = some (Sp σ 4) ∧ itr2 b_X11_judge_53 M' (nI T) (nI k) τ = itr3 b_X11_judge_92 M2 (nI T) (nI 0) (nI 4) τ) ∨
    ∃ M2 σ' τ', M' ≤ M2 + d + 1 ∧ itr1 b_X4_readMark_7 M (nI k) (Sp σ k) = some σ' ∧ itr2 b_X11_judge_53 M' (nI T) (nI k) τ = itr3 b_X11_judge_92 M2 (nI T) (nI 0) (nI 4) τ' ∧ FO σ0 τ0 σ' τ' := by
  have T6 := hT.2.1
  intro d
  induction d with
  | zero =>
    intro k M M' hk hM hM' hkT
    have e : k = 4 := by omega
    subst e
    obtain ⟨M, rfl⟩ : ∃ m', M = m' + 1 := ⟨M - 1, by omega⟩
    obtain ⟨M', rfl⟩ : ∃ m', M' = m' + 1 := ⟨M' - 1, by omega⟩
    refine Or.inl ⟨M', hkT, by omega, ?_, ?_⟩
    · show b_X4_readMark_7 M (itr1 b_X4_readMark_7 M) _ _ = _
      generalize itr1 b_X4_readMark_7 M = w
      unfold b_X4_readMark_7 b_X4_readMark_65
      rw [if_pos (show (4 : Int32) ≤ nI 4 by decide)]
    · show b_X11_judge_53 M' (itr2 b_X11_judge_53 M') _ _ τ = _
      generalize itr2 b_X11_judge_53 M' = w
      unfold b_X11_judge_53
      rw [if_pos (show (4 : Int32) ≤ nI 4 by decide)]
      rfl
  | succ d ih =>
    intro k M M' hk hM hM' hkT
    have hk4 : k < 4 := by omega
    obtain ⟨M, rfl⟩ : ∃ m', M = m' + 1 := ⟨M - 1, by omega⟩
    obtain ⟨M', rfl⟩ : ∃ m', M' = m' + 1 := ⟨M' - 1, by omega⟩
    have ih' := fun a => ih (k + 1) M M' (by omega) (by omega) (by omega) a
    have fo : FO σ0 τ0 (stM (stM (Sp σ k) 31 0 (nI 1)) 31 1 (nI k)) (stM (stM τ 0 19 (nI 1)) 0 20 (nI k)) := FO.mk2 (by omega) hc.Sp hm
    obtain ⟨M2, hM2, eM2⟩ := mkM_f T6 fo.m d (k + 1) M' (by omega) (by omega)
    have cF : itr1 b_X4_readMark_7 M (nI (k + 1)) (stM (stM (Sp σ k) 31 0 (nI 1)) 31 1 (nI k)) = some _ := mkC_f (by omega) _ fo.c
    have C : ∀ x, f_X8_at M 2 (nI k) (Sp σ k) = some (x, Sp σ k) → itr1 b_X4_readMark_7 (M + 1) (nI k) (Sp σ k) = if x = tbM k then itr1 b_X4_readMark_7 M (nI (k + 1)) (Sp σ (k + 1)) else itr1 b_X4_readMark_7 M (nI (k + 1)) (stM (stM (Sp σ k) 31 0 (nI 1)) 31 1 (nI k)) := fun x hx => by
      show b_X4_readMark_7 M (itr1 b_X4_readMark_7 M) _ _ = _
      generalize itr1 b_X4_readMark_7 M = w
      unfold b_X4_readMark_7 b_X4_readMark_59
      rw [if_neg (show ¬ (4 : Int32) ≤ nI k from nI_ge (a := k) (b := 4) hk4 (by omega)), Sp_31 (by decide), if_pos h3, hx, bd_mk, ck_t (inb_nI hk4 (by decide)), nI_clamp (by omega), fail_0 M (by rw [Sp_31 (by decide)]; exact h3), bv_mk, Sp_4, nI_1, lt_eq, lt_eq, show nI k + Int32.ofInt 1 = nI (k + 1) from nI_1 k]
      by_cases z : x = tbM k
      · rw [if_pos z, if_pos z, show stM (Sp σ k) 31 4 (nI (k + 1)) = Sp σ (k + 1) from Sp_tw σ k (k + 1)]
      · rw [if_neg z, if_neg z]
        rfl
    have Mo : itr2 b_X11_judge_53 (M' + 1) (nI T) (nI k) τ = if k < T ∧ τ 1 k = tbM k then itr2 b_X11_judge_53 M' (nI T) (nI (k + 1)) τ else itr2 b_X11_judge_53 M' (nI T) (nI (k + 1)) (stM (stM τ 0 19 (nI 1)) 0 20 (nI k)) := by
      show b_X11_judge_53 M' (itr2 b_X11_judge_53 M') _ _ τ = _
      generalize itr2 b_X11_judge_53 M' = w
      unfold b_X11_judge_53 b_X11_judge_75 b_X11_judge_81
      rw [if_neg (show ¬ (4 : Int32) ≤ nI k from nI_ge (a := k) (b := 4) hk4 (by omega)), flaw_0 M' h4, bv_mk, lt_eq, lt_eq, show nI k + Int32.ofInt 1 = nI (k + 1) from nI_1 k]
      by_cases q : k < T
      · rw [if_neg (nI_ge q (by omega)), ck_t (inb_nI (by omega) (by decide)), ck_t (inb_nI (by omega) (by decide)), nI_clamp (by omega), h9 k hk4]
        by_cases z : τ 1 k = tbM k
        · rw [if_pos z, if_pos ⟨q, z⟩]
        · rw [if_neg z, if_neg (fun w => z w.2)]
          rfl
      · rw [if_pos (nI_le (by omega) (by omega)), if_neg (fun w => q w.1)]
        rfl
    by_cases q : k < T
    · have bk := tape_by hT q
      have hx := at_by M (s := Sp σ k) hT q (Sp_ne (by decide)) (Sp_ne (by decide))
      rw [← bk.1] at hx
      rw [C _ hx, Mo]
      by_cases z : τ 1 k = tbM k
      · rw [if_pos z, if_pos ⟨q, z⟩]
        rcases ih' (by omega) with ⟨M3, v1, v2, v3, v4⟩ | ⟨M3, σ', τ', v2, v3, v4, v5⟩
        · exact Or.inl ⟨M3, v1, by omega, v3, v4⟩
        · exact Or.inr ⟨M3, σ', τ', by omega, v3, v4, v5⟩
      · rw [if_neg z, if_neg (fun w => z w.2), cF, eM2]
        exact Or.inr ⟨M2, _, _, by omega, rfl, rfl, fo⟩
    · have hx := at_out M (r := 2) (T := T) (x := nI k) (Sp σ k) (by rw [Sp_ne (by decide)]; exact hT.1) T6 (Or.inr (by rw [nI_toInt (by omega)]; omega))
      have nz : ¬ (-1 : Int32) = tbM k := by
        rcases (show k = 0 ∨ k = 1 ∨ k = 2 ∨ k = 3 by omega) with rfl | rfl | rfl | rfl <;> decide
      rw [C _ hx, Mo, if_neg nz, if_neg (fun w => q w.1), cF, eM2]
      exact Or.inr ⟨M2, _, _, by omega, rfl, rfl, fo⟩
/-! what comes before -/
theorem clr13 : ∀ (d k M : Nat) (l1 : Int32) (s : Mem), k + d = 256 → d < M → ∃ M' s', M ≤ M' + d + 1 ∧ itr2 b_X11_judge_7 M l1 (nI k) s = itr2 b_X11_judge_53 M' l1 (nI 0) s' ∧ (∀ z, z ≠ 13 → z ≠ 19 → s' z = s z) ∧ (∀ z, k ≤ z → z < 256 → s' 13 z = 0) ∧ (∀ z, z < k → s' 13 z = s 13 z) ∧ ∀ j, j < 4 → s' 19 j = tbM j := by
  intro d
  induction d with
  | zero =>
    intro k M l1 s hk hM
    have e : k = 256 := by omega
    subst e
    obtain ⟨M, rfl⟩ : ∃ m', M = m' + 1 := ⟨M - 1, by omega⟩
    refine ⟨M, stM (stM (stM (stM (rwM s 19 (fun _ => 0)) 19 0 80) 19 1 76) 19 2 65) 19 3 89, by omega, ?_, fun z h1 h2 => ?_, fun z h1 h2 => by omega, fun z hz => ?_, fun j hj => ?_⟩
    · show b_X11_judge_7 M (itr2 b_X11_judge_7 M) _ _ s = _
      generalize itr2 b_X11_judge_7 M = w
      unfold b_X11_judge_7
      rw [if_pos (show (256 : Int32) ≤ nI 256 by decide)]
      simp only [lt_eq, ck0_4, ck1_4, ck2_4, ck3_4, cl0, cl1, cl2, cl3]
      rfl
    · rw [stM_ne h2, stM_ne h2, stM_ne h2, stM_ne h2, rwM_ne h2]
    · rw [stM_ne (by decide), stM_ne (by decide), stM_ne (by decide), stM_ne (by decide), rwM_ne (by decide)]
    · rcases (show j = 0 ∨ j = 1 ∨ j = 2 ∨ j = 3 by omega) with rfl | rfl | rfl | rfl
      · rw [stM_far (Or.inr (by decide)), stM_far (Or.inr (by decide)), stM_far (Or.inr (by decide)), stM_hit]; rfl
      · rw [stM_far (Or.inr (by decide)), stM_far (Or.inr (by decide)), stM_hit]; rfl
      · rw [stM_far (Or.inr (by decide)), stM_hit]; rfl
      · rw [stM_hit]; rfl
  | succ d ih =>
    intro k M l1 s hk hM
    obtain ⟨M, rfl⟩ : ∃ m', M = m' + 1 := ⟨M - 1, by omega⟩
    obtain ⟨M', s', h1, h2, h3, h4, h5, h6⟩ := ih (k + 1) M l1 (stM s 13 k 0) (by omega) (by omega)
    refine ⟨M', s', by omega, ?_, fun z a b => by rw [h3 z a b, stM_ne a], fun z a b => ?_, fun z a => ?_, h6⟩
    · rw [← h2]
      show b_X11_judge_7 M (itr2 b_X11_judge_7 M) _ _ s = _
      generalize itr2 b_X11_judge_7 M = w
      unfold b_X11_judge_7
      rw [if_neg (show ¬ (256 : Int32) ≤ nI k from nI_ge (a := k) (b := 256) (by omega) (by omega)), ck_t ⟨inb_nI (by omega) (by decide), okZ0⟩, nI_clamp (by omega), lt_eq, lt_eq, show nI k + Int32.ofInt 1 = nI (k + 1) from nI_1 k]
    · by_cases e : z = k
      · subst e; rw [h5 z (by omega), stM_hit]
      · exact h4 z (by omega) b
    · rw [h5 z (by omega), stM_far (Or.inr (by omega))]
/-- the draft's rows are made empty -/
def clM (r : Nat) (s : Mem) : Mem := stM (fillM (fillM s (r + 1) (lenC (r + 1)) 0) (r + 2) (lenC (r + 2)) 0) r 2 0
theorem clear_eq (n : Nat) (s : Mem) : f_X3_clear n 1 s = some (clM 13 (clM 10 (clM 7 (clM 4 s)))) := rfl
theorem clM_ne {r z : Nat} {s : Mem} (h1 : z ≠ r) (h2 : z ≠ r + 1) (h3 : z ≠ r + 2) : clM r s z = s z := by
  unfold clM fillM
  rw [stM_ne h1, rwM_ne h3, rwM_ne h2]
theorem clM_p {r x : Nat} {s : Mem} (h : x < lenC (r + 1)) : clM r s (r + 1) x = 0 := by
  unfold clM fillM
  rw [stM_ne (by omega), rwM_ne (by omega), rwM_row, if_pos h]
theorem clM_n {r : Nat} {s : Mem} : clM r s r 2 = 0 := by
  unfold clM
  rw [stM_hit]
theorem clr_all (s : Mem) : (∀ z, z < 4 ∨ 16 ≤ z → clM 13 (clM 10 (clM 7 (clM 4 s))) z = s z) ∧ (∀ K, K < 4 → ∀ x, x ≤ mxK K → clM 13 (clM 10 (clM 7 (clM 4 s))) (5 + 3 * K) x = 0) ∧ ∀ K, K < 4 → clM 13 (clM 10 (clM 7 (clM 4 s))) (4 + 3 * K) 2 = 0 := by
  refine ⟨fun z hz => ?_, fun K hK x hx => ?_, fun K hK => ?_⟩
  · rw [clM_ne (by omega) (by omega) (by omega), clM_ne (by omega) (by omega) (by omega), clM_ne (by omega) (by omega) (by omega), clM_ne (by omega) (by omega) (by omega)]
  · have L := (mx_len K hK).2.1
    rcases (show K = 0 ∨ K = 1 ∨ K = 2 ∨ K = 3 by omega) with rfl | rfl | rfl | rfl
    · rw [clM_ne (by omega) (by omega) (by omega), clM_ne (by omega) (by omega) (by omega), clM_ne (by omega) (by omega) (by omega)]
      exact clM_p (r := 4) (by rw [L]; omega)
    · rw [clM_ne (by omega) (by omega) (by omega), clM_ne (by omega) (by omega) (by omega)]
      exact clM_p (r := 7) (by rw [L]; omega)
    · rw [clM_ne (by omega) (by omega) (by omega)]
      exact clM_p (r := 10) (by rw [L]; omega)
    · exact clM_p (r := 13) (by rw [L]; omega)
  · rcases (show K = 0 ∨ K = 1 ∨ K = 2 ∨ K = 3 by omega) with rfl | rfl | rfl | rfl
    · rw [clM_ne (by omega) (by omega) (by omega), clM_ne (by omega) (by omega) (by omega), clM_ne (by omega) (by omega) (by omega)]
      exact clM_n
    · rw [clM_ne (by omega) (by omega) (by omega), clM_ne (by omega) (by omega) (by omega)]
      exact clM_n
    · rw [clM_ne (by omega) (by omega) (by omega)]
      exact clM_n
    · exact clM_n
theorem read_b {T n : Nat} {σ τ : Mem} (hn : 20000 ≤ n) (hT : TapeR σ 2 T (τ 1)) :
    (∃ m σ' τ', posB (byN (τ 1)) m = T ∧ f_X4_read n σ = some (nI m, σ') ∧ f_X11_judge n (nI T) τ = some (nI m, τ') ∧ AI (byN (τ 1)) T m σ τ σ' τ') ∨
    ∃ x σ' τ', f_X4_read n σ = some (-1, σ') ∧ f_X11_judge n (nI T) τ = some (x, τ') ∧ FO σ τ σ' τ' := by
  have T6 := hT.2.1
  obtain ⟨z1, z2, z3⟩ := clr_all (stM (stM σ 31 0 0) 31 1 0)
  have C : f_X4_read n σ = bv (itr1 b_X4_readMark_7 n (nI 0) (Sp (clM 13 (clM 10 (clM 7 (clM 4 (stM (stM σ 31 0 0) 31 1 0))))) 0)) fun s4 => itr1 b_X4_read_23 n (nI 0) s4 := by
    unfold f_X4_read f_X4_readMark
    rw [lt_eq, lt_eq, clear_eq, bv_mk, lt_eq]
    rfl
  have Mo : f_X11_judge n (nI T) τ = itr2 b_X11_judge_7 n (nI T) (nI 0) (stM τ 0 19 0) := rfl
  obtain ⟨M', u, h1, h2, h3, h4, -, h6⟩ := clr13 256 0 n (nI T) (stM τ 0 19 0) (by omega) (by omega)
  rw [C, Mo, h2]
  generalize clM 13 (clM 10 (clM 7 (clM 4 (stM (stM σ 31 0 0) 31 1 0)))) = s at z1 z2 z3 ⊢
  have hc : RC σ s := fun z hz => by rw [z1 z (by omega), stM_ne (by omega), stM_ne (by omega)]
  have hm : RM τ u := ⟨fun z a b c d => by rw [h3 z b d, stM_ne a], fun j a b c d => by rw [h3 0 (by decide) (by decide), stM_far (Or.inr a)]⟩
  have s0 : s 31 0 = 0 := by rw [z1 31 (by omega), stM_far (Or.inr (by decide)), stM_hit]
  have u0 : u 0 19 = 0 := by rw [h3 0 (by decide) (by decide), stM_hit]
  have e1 : u 1 = τ 1 := by rw [h3 1 (by decide) (by decide), stM_ne (by decide)]
  have hT2 : TapeR s 2 T (u 1) := hT.agr (fun k x y => hc k (by omega)) e1
  rcases mk_lp hT2 s0 u0 h6 hc hm 4 0 n M' (by omega) (by omega) (by omega) (by omega) with ⟨M2, v1, v2, v3, v4⟩ | ⟨M2, σ', τ', v2, v3, v4, fo⟩
  · rw [v3, v4, bv_mk]
    have ai : AI (byN (τ 1)) T 0 σ τ (Sp s 4) u := by
      refine ⟨hc.Sp, hm, by rw [Sp_31 (by decide)]; exact s0, u0, Sp_4 _ _, v1, fun j hj => by omega, fun K hK x hx hne => ?_, fun K hK x x0 xm => ?_, fun K hK => ?_, fun K hK => ?_, ?_⟩
      · rw [Sp_ne (by omega), z2 K hK x hx] at hne
        exact absurd rfl hne
      · have mk := mxK_le K hK
        rw [Sp_ne (by omega), z2 K hK x xm, h4 _ (by omega) (by omega)]
      · rw [Sp_ne (by omega), z3 K hK]; rfl
      · rw [Sp_ne (by omega), z2 K hK 0 (by omega)]
      · rw [Sp_31 (by decide), z1 31 (by omega), stM_hit]
    exact rd_lp hT T 0 n M2 (Sp s 4) u (by show T ≤ 4 + T; omega) (by omega) (by omega) ai
  · rw [v3, v4, bv_mk, rdC_f (by omega) _ fo.c, jdM_f (by omega) _ _ _ fo.m]
    exact Or.inr ⟨_, _, _, rfl, rfl, fo⟩
