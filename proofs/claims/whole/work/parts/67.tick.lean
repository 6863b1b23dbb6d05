/-! ===== a tick ===== -/
theorem mv_in {S B a v : Nat} (ha : a < 13) (hv : v ≤ 8) (k2 : Int32 → Mem → Option Mem) (k69 : Int32 → Int32 → Mem → Option (Int32 × Mem)) (l1 : Int32) : ∀ (d k m : Nat) (σ τ : Mem), k + d = v → d + 1001 ≤ m → TI S B σ τ → σ (58 + a) 3 = nI v → ∃ σ' τ', itr3 (b_X9_moveAll_20 k2) m (nI a) (58 + a) (nI k) σ = k2 (nI (a + 1)) σ' ∧ itr4 (b_X11_one_85 k69) m l1 (nI a) (nI v) (nI k) τ = k69 l1 (nI (a + 1)) τ' ∧ FrC σ σ' ∧ FrM τ τ' ∧ TI S B σ' τ' := by
  intro d
  induction d with
  | zero =>
    intro k m σ τ hk hm t e3
    have e : k = v := by omega
    subst e
    obtain ⟨m, rfl⟩ : ∃ m', m = m' + 1 := ⟨m - 1, by omega⟩
    refine ⟨σ, τ, ?_, ?_, FrC.rf σ, FrM.rf τ, t⟩
    · show b_X9_moveAll_20 k2 m (itr3 (b_X9_moveAll_20 k2) m) _ _ _ σ = _
      generalize itr3 (b_X9_moveAll_20 k2) m = w
      unfold b_X9_moveAll_20 b_X9_moveAll_46
      rw [e3, if_pos (nI_le (by omega) (by omega)), lt_eq, show nI a + Int32.ofInt 1 = nI (a + 1) from nI_1 a]
    · show b_X11_one_85 k69 m (itr4 (b_X11_one_85 k69) m) _ _ _ _ τ = _
      generalize itr4 (b_X11_one_85 k69) m = w
      unfold b_X11_one_85 b_X11_one_112
      rw [if_pos (nI_le (by omega) (by omega)), lt_eq, show nI a + Int32.ofInt 1 = nI (a + 1) from nI_1 a]
  | succ d ih =>
    intro k m σ τ hk hm t e3
    obtain ⟨m, rfl⟩ : ∃ m', m = m' + 1 := ⟨m - 1, by omega⟩
    have ih' := fun σ τ t e => ih (k + 1) m σ τ (by omega) (by omega) t e
    show ∃ σ' τ', b_X9_moveAll_20 k2 m (itr3 (b_X9_moveAll_20 k2) m) _ _ _ σ = _ ∧ b_X11_one_85 k69 m (itr4 (b_X11_one_85 k69) m) _ _ _ _ τ = _ ∧ _
    generalize itr3 (b_X9_moveAll_20 k2) m = w1 at ih' ⊢
    generalize itr4 (b_X11_one_85 k69) m = w2 at ih' ⊢
    unfold b_X9_moveAll_20 b_X9_moveAll_46 b_X11_one_85 b_X11_one_112
    rw [e3, if_neg (nI_ge (by omega) (by omega)), if_neg (nI_ge (by omega) (by omega)), aOf_eq m (x := 4) (j := 4) rfl ha (by omega), bd_mk, t.a ha (by omega), lt_eq, lt_eq, show nI a + Int32.ofInt 1 = nI (a + 1) from nI_1 a]
    rcases (act_r t.2.2.2.1 ha).2.1 with z | z
    · rw [z, if_pos rfl, if_neg (by decide)]
      exact ⟨σ, τ, rfl, rfl, FrC.rf σ, FrM.rf τ, t⟩
    · obtain ⟨σ1, τ1, c1, m1, f1, g1, t1, K⟩ := step_both (n := m) (by omega) t ha z
      rw [z, if_neg n10, if_pos rfl, c1, bv_mk, m1, bv_mk, lt_eq, lt_eq, show nI k + Int32.ofInt 1 = nI (k + 1) from nI_1 k]
      obtain ⟨σ2, τ2, c2, m2, f2, g2, t2⟩ := ih' σ1 τ1 t1 (by rw [K.2]; exact e3)
      exact ⟨σ2, τ2, c2, m2, f1.tr f2, g1.tr g2, t2⟩
theorem mv_out {S B : Nat} (l1 : Int32) : ∀ (d a m : Nat) (σ τ : Mem), a + d = 13 → d + 1020 ≤ m → TI S B σ τ → ∃ σ' τ', itr1 b_X9_moveAll_2 m (nI a) σ = some σ' ∧ itr2 b_X11_one_69 m l1 (nI a) τ = some (l1, τ') ∧ FrC σ σ' ∧ FrM τ τ' ∧ TI S B σ' τ' := by
  intro d
  induction d with
  | zero =>
    intro a m σ τ hk hm t
    have e : a = 13 := by omega
    subst e
    obtain ⟨m, rfl⟩ : ∃ m', m = m' + 1 := ⟨m - 1, by omega⟩
    refine ⟨σ, τ, ?_, ?_, FrC.rf σ, FrM.rf τ, t⟩
    · show b_X9_moveAll_2 m (itr1 b_X9_moveAll_2 m) _ σ = _
      generalize itr1 b_X9_moveAll_2 m = w
      unfold b_X9_moveAll_2
      rw [if_pos (show (12 : Int32) < nI 13 by decide)]
    · show b_X11_one_69 m (itr2 b_X11_one_69 m) _ _ τ = _
      generalize itr2 b_X11_one_69 m = w
      unfold b_X11_one_69
      rw [if_pos (show (13 : Int32) ≤ nI 13 by decide)]
  | succ d ih =>
    intro a m σ τ hk hm t
    have ha : a < 13 := by omega
    obtain ⟨m, rfl⟩ : ∃ m', m = m' + 1 := ⟨m - 1, by omega⟩
    have ih' := fun σ τ t => ih (a + 1) m σ τ (by omega) (by omega) t
    show ∃ σ' τ', b_X9_moveAll_2 m (itr1 b_X9_moveAll_2 m) _ σ = _ ∧ b_X11_one_69 m (itr2 b_X11_one_69 m) _ _ τ = _ ∧ _
    generalize itr1 b_X9_moveAll_2 m = w1 at ih' ⊢
    generalize itr2 b_X11_one_69 m = w2 at ih' ⊢
    unfold b_X9_moveAll_2 b_X11_one_69
    obtain ⟨⟨r, x, y, v, z0, zr, z1, zx, z2, zy, z3, zv⟩, -⟩ := act_r t.2.2.2.1 ha
    rw [if_neg (show ¬ (12 : Int32) < nI a from nI_nlt (a := 12) (b := a) (by omega) (by omega)), ck_t (inb_nI ha (by decide)), nI_clamp (by omega), lt_eq, show 41 + 17 + a = 58 + a by omega, if_neg (show ¬ (13 : Int32) ≤ nI a from nI_ge (a := a) (b := 13) ha (by omega)), aOf_eq m (x := 3) (j := 3) rfl ha (by omega), bd_mk, t.a ha (by omega), z3, show (0 : Int32) = nI 0 from rfl]
    obtain ⟨σ1, τ1, c1, m1, f1, g1, t1⟩ := mv_in ha zv w1 w2 l1 v 0 m σ τ (by omega) (by omega) t z3
    rw [c1, m1]
    obtain ⟨σ2, τ2, c2, m2, f2, g2, t2⟩ := ih' σ1 τ1 t1
    exact ⟨σ2, τ2, c2, m2, f1.tr f2, g1.tr g2, t2⟩
theorem sl_lp {S B : Nat} (hB : B + 2400 < 1900000000) : ∀ (d k m c : Nat) (σ τ : Mem), k + d = 8 → d + 3000 ≤ m → c ≤ 300 * k → TI S (B + 300 * k) σ τ → ∃ r σ' τ', r ≤ 2400 ∧ itr2 b_X5_beat_57 m (nI c) (nI k) σ = some (nI r, σ') ∧ itr2 b_X11_one_47 m (nI c) (nI k) τ = some (nI r, τ') ∧ FrC σ σ' ∧ FrM τ τ' ∧ TI S (B + 2400) σ' τ' := by
  intro d
  induction d with
  | zero =>
    intro k m c σ τ hk hm hc t
    have e : k = 8 := by omega
    subst e
    obtain ⟨m, rfl⟩ : ∃ m', m = m' + 1 := ⟨m - 1, by omega⟩
    obtain ⟨σ', τ', c1, m1, f1, g1, t1⟩ := mv_out (nI c) 12 1 m σ τ (by omega) (by omega) t
    refine ⟨c, σ', τ', by omega, ?_, ?_, f1, g1, t1⟩
    · show b_X5_beat_57 m (itr2 b_X5_beat_57 m) _ _ σ = _
      generalize itr2 b_X5_beat_57 m = w
      unfold b_X5_beat_57 f_X9_moveAll
      rw [if_pos (show (8 : Int32) ≤ nI 8 by decide), show (1 : Int32) = nI 1 from rfl, c1, bv_mk]
    · show b_X11_one_47 m (itr2 b_X11_one_47 m) _ _ τ = _
      generalize itr2 b_X11_one_47 m = w
      unfold b_X11_one_47
      rw [if_pos (show (8 : Int32) ≤ nI 8 by decide), show (1 : Int32) = nI 1 from rfl, m1]
  | succ d ih =>
    intro k m c σ τ hk hm hc t
    have hk8 : k < 8 := by omega
    obtain ⟨m, rfl⟩ : ∃ m', m = m' + 1 := ⟨m - 1, by omega⟩
    have ih' := fun c σ τ a t => ih (k + 1) m c σ τ (by omega) (by omega) a t
    show ∃ r σ' τ', r ≤ 2400 ∧ b_X5_beat_57 m (itr2 b_X5_beat_57 m) _ _ σ = _ ∧ b_X11_one_47 m (itr2 b_X11_one_47 m) _ _ τ = _ ∧ _
    generalize itr2 b_X5_beat_57 m = w1 at ih' ⊢
    generalize itr2 b_X11_one_47 m = w2 at ih' ⊢
    unfold b_X5_beat_57 b_X11_one_47
    obtain ⟨r, σ1, τ1, hr, c1, m1, f1, g1, t1⟩ := turn_eq (n := m) (i := k) (by omega) (by omega) hk8 t
    rw [if_neg (show ¬ (8 : Int32) ≤ nI k from nI_ge (a := k) (b := 8) hk8 (by omega)), if_neg (show ¬ (8 : Int32) ≤ nI k from nI_ge (a := k) (b := 8) hk8 (by omega)), ck_t (inb_nI hk8 (by decide)), nI_clamp (by omega), lt_eq, show 40 + 2 + 2 * k = 42 + 2 * k by omega, c1, bd_mk, lt_eq, lt_eq, m1, bd_mk, lt_eq, lt_eq, nI_add, show nI k + Int32.ofInt 1 = nI (k + 1) from nI_1 k]
    obtain ⟨r2, σ2, τ2, q1, q2, q3, q4, q5, q6⟩ := ih' (c + r) σ1 τ1 (by omega) (by rw [show B + 300 * (k + 1) = B + 300 * k + 300 by omega]; exact t1)
    exact ⟨r2, σ2, τ2, q1, q2, q3, f1.tr q4, g1.tr q5, q6⟩
theorem beat_eq {n S B : Nat} {σ τ : Mem} (hn : 9000 ≤ n) (hB : B + 2400 < 1900000000) (h : TI S B σ τ) : ∃ r σ' τ', r ≤ 2400 ∧ f_X5_beat n σ = some (nI r, σ') ∧ f_X11_one n τ = some (nI r, τ') ∧ FrC σ σ' ∧ FrM τ τ' ∧ TI S (B + 2400) σ' τ' := by
  have e0 : τ 15 0 = σ 33 0 := h.2.2.1.1 0 (by decide)
  have f1 : FrC σ (stM σ 33 0 (σ 33 0 + 1)) := fun z hz => stM_ne (by omega)
  have t1 : TI S B (stM σ 33 0 (σ 33 0 + 1)) (stM τ 15 0 (σ 33 0 + 1)) := by
    refine h.go f1 frA ?_ ?_ ?_
    · rw [stM_row]; exact h.2.2.1.sc0 h.2.2.2.1.2.1 _
    · exact h.2.2.2.1.wr (fun _ => by decide) (fun i h => by omega) (fun a h => by omega) (by decide) (by decide) (by decide)
    · rw [stM_far (Or.inr (by decide))]; exact h.2.2.2.2
  have f2 : FrC (stM σ 33 0 (σ 33 0 + 1)) (stM (stM σ 33 0 (σ 33 0 + 1)) 34 0 (σ 33 0 + 1)) := fun z hz => stM_ne (by omega)
  have t2 : TI S B (stM (stM σ 33 0 (σ 33 0 + 1)) 34 0 (σ 33 0 + 1)) (stM (stM τ 15 0 (σ 33 0 + 1)) 15 6 (σ 33 0 + 1)) := by
    refine t1.go f2 frA ?_ ?_ ?_
    · rw [stM_row]
      exact t1.2.2.1.var (i0 := 0) t1.2.2.2.1.2.1 _ (by decide)
    · exact t1.2.2.2.1.wr (fun q => absurd q (by decide)) (fun i h => by omega) (fun a h => by omega) (by decide) (by decide) (by decide)
    · rw [stM_ne (by decide)]; exact t1.2.2.2.2
  have g2 : FrM τ (stM (stM τ 15 0 (σ 33 0 + 1)) 15 6 (σ 33 0 + 1)) := frA.tr frA
  have f12 := f1.tr f2
  unfold f_X5_beat f_X11_one
  simp only [lt_eq, ck0_781, ck6_781, ck5_781, cl0, cl5, cl6, e0, stM_hit, ck_t (show inb (0 : Int32) 64 by decide)]
  generalize stM (stM σ 33 0 (σ 33 0 + 1)) 34 0 (σ 33 0 + 1) = s at t2 f12 ⊢
  generalize stM (stM τ 15 0 (σ 33 0 + 1)) 15 6 (σ 33 0 + 1) = u at t2 g2 ⊢
  rw [t2.2.2.1.1 5 (by decide)]
  have GO : ∀ (s' u' : Mem), FrC σ s' → FrM τ u' → TI S B s' u' → ∃ r σ' τ', r ≤ 2400 ∧ b_X5_beat_53 n s' = some (nI r, σ') ∧ b_X11_one_43 n u' = some (nI r, τ') ∧ FrC σ σ' ∧ FrM τ τ' ∧ TI S (B + 2400) σ' τ' := fun s' u' f g t => by
    obtain ⟨r, σ', τ', q1, q2, q3, q4, q5, q6⟩ := sl_lp hB 8 0 n 0 s' u' (by omega) (by omega) (by omega) t
    exact ⟨r, σ', τ', q1, q2, q3, f.tr q4, g.tr q5, q6⟩
  by_cases z : s 33 5 ≤ 0
  · rw [if_pos z, if_pos z]
    exact GO s u f12 g2 t2
  · rw [if_neg z, if_neg z]
    obtain ⟨r, hr, r1, r2⟩ := rs_lp t2 8 0 n n (by omega) (by omega) (by omega)
    unfold f_X7_runsSentence f_X11_isAtSentence
    rw [show (0 : Int32) = nI 0 from rfl, r1, r2, bd_mk, bd_mk]
    rcases hr with rfl | rfl
    · obtain ⟨s3, u3, c3, m3, f3, g3, t3⟩ := sent_eq (n := n) (by omega) t2 z
      rw [if_pos (show (0 : Int32) = nI 0 from rfl), if_pos (show (0 : Int32) = nI 0 from rfl), c3, m3, bv_mk, bv_mk]
      exact GO s3 u3 (f12.tr f3) (g2.tr g3) t3
    · rw [if_neg (show ¬ (1 : Int32) = nI 0 by decide), if_neg (show ¬ (1 : Int32) = nI 0 by decide)]
      exact GO s u f12 g2 t2
theorem tick_lp {S B N : Nat} (hN : N ≤ 200) (hB : B + 480000 < 1900000000) : ∀ (d k m c : Nat) (σ τ : Mem), k + d = N → d + 9001 ≤ m → c ≤ 2400 * k → TI S (B + 2400 * k) σ τ → ∃ r σ' τ', itr3 b_X10_tick_17 m (nI N) (nI c) (nI k) σ = some (r, σ') ∧ itr3 b_X11_tick_23 m (nI N) (nI c) (nI k) τ = some (r, τ') ∧ FrC σ σ' ∧ FrM τ τ' ∧ TI S (B + 480000) σ' τ' := by
  intro d
  induction d with
  | zero =>
    intro k m c σ τ hk hm hc t
    have e : k = N := by omega
    subst e
    obtain ⟨m, rfl⟩ : ∃ m', m = m' + 1 := ⟨m - 1, by omega⟩
    refine ⟨nI c, σ, τ, ?_, ?_, FrC.rf σ, FrM.rf τ, t.up (by omega)⟩
    · show b_X10_tick_17 m (itr3 b_X10_tick_17 m) _ _ _ σ = _
      generalize itr3 b_X10_tick_17 m = w
      unfold b_X10_tick_17
      rw [if_pos (nI_le (by omega) (by omega))]
    · show b_X11_tick_23 m (itr3 b_X11_tick_23 m) _ _ _ τ = _
      generalize itr3 b_X11_tick_23 m = w
      unfold b_X11_tick_23
      rw [if_pos (nI_le (by omega) (by omega))]
  | succ d ih =>
    intro k m c σ τ hk hm hc t
    obtain ⟨m, rfl⟩ : ∃ m', m = m' + 1 := ⟨m - 1, by omega⟩
    have ih' := fun c σ τ a t => ih (k + 1) m c σ τ (by omega) (by omega) a t
    show ∃ r σ' τ', b_X10_tick_17 m (itr3 b_X10_tick_17 m) _ _ _ σ = _ ∧ b_X11_tick_23 m (itr3 b_X11_tick_23 m) _ _ _ τ = _ ∧ _
    generalize itr3 b_X10_tick_17 m = w1 at ih' ⊢
    generalize itr3 b_X11_tick_23 m = w2 at ih' ⊢
    unfold b_X10_tick_17 b_X11_tick_23
    obtain ⟨r, σ1, τ1, hr, c1, m1, f1, g1, t1⟩ := beat_eq (n := m) (by omega) (by omega) t
    rw [if_neg (nI_ge (by omega) (by omega)), if_neg (nI_ge (by omega) (by omega)), c1, m1, bd_mk, bd_mk, lt_eq, lt_eq, lt_eq, lt_eq, nI_add, show nI k + Int32.ofInt 1 = nI (k + 1) from nI_1 k]
    obtain ⟨r2, σ2, τ2, q2, q3, q4, q5, q6⟩ := ih' (c + r) σ1 τ1 (by omega) (by rw [show B + 2400 * (k + 1) = B + 2400 * k + 2400 by omega]; exact t1)
    exact ⟨r2, σ2, τ2, q2, q3, f1.tr q4, g1.tr q5, q6⟩
theorem sim_tick {t : Nat} {σ τ : Mem} (h : Rel t σ τ) (ht : t ≤ 512) {n : Nat} (hn : 10000 ≤ n) (x : Int32) : Sim t (f_X10_tick n x σ) (f_X11_tick n x τ) := by
  unfold f_X10_tick f_X11_tick b_X10_tick_11
  rw [lt_eq, in_eq, bd_mk, show (0 : Int64).toInt = 0 from rfl, show (200 : Int64).toInt = 200 from rfl]
  by_cases q : 0 ≤ x.toInt ∧ x.toInt ≤ 200
  · obtain ⟨N, hN, rfl⟩ : ∃ N, N ≤ 200 ∧ x = nI N := ⟨x.toInt.toNat, by omega, nI_oT (by omega)⟩
    rw [if_pos q, if_neg n10, if_neg (nI_pos (by omega)), if_pos (show nI N ≤ (200 : Int32) from nI_le (a := N) (b := 200) hN (by omega))]
    obtain ⟨T, S, -, ⟨a3, -⟩, a5, ⟨sR, sI⟩, -⟩ := id h
    have g0 : FrM τ (stM τ 0 0 0) ∨ True := Or.inr trivial
    have t0 : TI S (480000 * t + 2400 * 0) σ (stM τ 0 0 0) := by
      refine ⟨a5.agr (agr_rf σ 19 30) (agr_rf σ 110 116) (agr_st (Or.inl (by omega))) (fun j h1 h2 => stM_far (Or.inr (by omega))), a3.agr (agr_rf _ _ _) (stM_ne (by decide)), by rw [stM_ne (by decide)]; exact sR, ?_, ?_⟩
      · obtain ⟨b1, b2, b3, b4, b5⟩ := sI
        exact ⟨b1, b2, b3, by omega, b5⟩
      · have := sI.2.2.2.1
        omega
    obtain ⟨r, σ', τ', c1, m1, f1, g1, t1⟩ := tick_lp (S := S) (B := 480000 * t) hN (by omega) N 0 n 0 σ (stM τ 0 0 0) (by omega) (by omega) (by omega) t0
    refine ⟨r, σ', τ', c1, m1, ?_⟩
    refine h.step (fun j h1 h2 h3 h4 h5 h6 => ?_) (f1 0 (by omega)) (fun k h1 h2 => f1 k (by omega)) (fun k h1 h2 => f1 k (by omega)) ⟨by rw [f1 31 (by omega)], by rw [f1 31 (by omega)]⟩ (fun k h1 h2 => f1 k (by omega)) (fun k h1 h2 => ?_) ?_ ⟨t1.2.2.1, ?_⟩
    · rw [g1.2 j (by omega), stM_far (Or.inr h2)]
    · rw [g1.1 k (by omega) (by omega) (by omega) (by omega), stM_ne (by omega)]
    · rw [g1.1 16 (by decide) (by decide) (by decide) (by decide), stM_ne (by decide)]
    · obtain ⟨b1, b2, b3, b4, b5⟩ := t1.2.2.2.1
      exact ⟨b1, b2, b3, by have := t1.2.2.2.2; omega, b5⟩
  · rw [if_neg q, if_pos rfl]
    have C : (if x < 0 then some ((-1 : Int32), σ) else if x ≤ (200 : Int32) then itr3 b_X10_tick_17 n x 0 0 σ else some (-1, σ)) = some (-1, σ) := by
      by_cases z : x < 0
      · rw [if_pos z]
      · rw [if_neg z, if_neg (fun w => q ⟨by have z0 : ¬ x.toInt < 0 := fun e => z (lt_T.mpr e); omega, le_T.mp w⟩)]
    rw [C]
    exact ⟨_, _, _, rfl, rfl, h.th 0⟩
