/-! ===== a turn ===== -/
theorem crash_b {n i S B : Nat} {σ τ σ1 τ1 : Mem} (hn : 1000 ≤ n) (h : TI S B σ τ) (hi : i < 8) (hc : CFr i σ σ1) (hm : RdM τ τ1) (l : Int32) : ∃ σ' τ', (bv (f_X6_release n (42 + 2 * i) σ1) fun s2 => lt (stM s2 33 3 (s2 33 3 + 1)) fun s3 => some (l, s3)) = some (l, σ') ∧ b_X11_turn_158 n (nI i) l τ1 = some (l, τ') ∧ FrC σ σ' ∧ FrM τ τ' ∧ TI S B σ' τ' := by
  obtain ⟨f, g, t⟩ := h.free hi hc hm
  have f2 : ∀ v, FrC (relM σ1 (42 + 2 * i)) (stM (relM σ1 (42 + 2 * i)) 33 3 v) := fun v z hz => stM_ne (by omega)
  refine ⟨stM (relM σ1 (42 + 2 * i)) 33 3 (relM σ1 (42 + 2 * i) 33 3 + 1), stM (freeM τ1 i) 15 3 (relM σ1 (42 + 2 * i) 33 3 + 1), ?_, ?_, f.tr (f2 _), g.tr frA, t.go (f2 (relM σ1 (42 + 2 * i) 33 3 + 1)) frA ?_ ?_ ?_⟩
  · rw [rel_eq, bv_mk, lt_eq]
  · unfold b_X11_turn_158
    rw [frees_eq (by omega) hi, bv_mk, ck3_781, cl3, ck3_781, lt_eq, t.2.2.1.1 3 (by decide)]
  · rw [stM_row]; exact t.2.2.1.sc3 t.2.2.2.1.2.1 _
  · exact t.2.2.2.1.wr (fun _ => by decide) (fun i h => by omega) (fun a h => by omega) (by decide) (by decide) (by decide)
  · rw [stM_far (Or.inr (by decide))]; exact t.2.2.2.2
theorem turn_lp {i S B : Nat} (hB : B + 300 < 1900000000) : ∀ (k d m : Nat) (σ τ : Mem) (c p0 L : Nat), d + k = 300 → k + 1001 ≤ m → TI S (B + d) σ τ → CX i c p0 L S σ τ → ∃ r σ' τ', r ≤ 300 ∧ itr2 b_X5_turn_20 m (42 + 2 * i) (nI d) σ = some (nI r, σ') ∧ itr3 b_X11_turn_97 m (nI i) (nI d) 1 τ = some (nI r, τ') ∧ FrC σ σ' ∧ FrM τ τ' ∧ TI S (B + 300) σ' τ' := by
  intro k
  induction k with
  | zero =>
    intro d m σ τ c p0 L hd hm t X
    have e : d = 300 := by omega
    subst e
    obtain ⟨m, rfl⟩ : ∃ m', m = m' + 1 := ⟨m - 1, by omega⟩
    refine ⟨300, σ, τ, by omega, ?_, ?_, FrC.rf σ, FrM.rf τ, t⟩
    · show b_X5_turn_20 m (itr2 b_X5_turn_20 m) _ _ σ = _
      generalize itr2 b_X5_turn_20 m = w
      unfold b_X5_turn_20
      rw [if_pos (show (300 : Int32) ≤ nI 300 by decide)]
      rfl
    · show b_X11_turn_97 m (itr3 b_X11_turn_97 m) _ _ _ τ = _
      generalize itr3 b_X11_turn_97 m = w
      unfold b_X11_turn_97 b_X11_turn_198
      rw [if_neg n10, if_pos (show (300 : Int32) ≤ nI 300 by decide)]
  | succ k ih =>
    intro d m σ τ c p0 L hd hm t X
    obtain ⟨m, rfl⟩ : ∃ m', m = m' + 1 := ⟨m - 1, by omega⟩
    have hi := X.1
    have ih' := fun σ τ c p0 L a b => ih (d + 1) m σ τ c p0 L (by omega) (by omega) a b
    have h0m : ∀ (l : Nat) (s : Mem), itr3 b_X11_turn_97 m (nI i) (nI l) 0 s = some (nI l, s) := fun l s => by
      obtain ⟨m', rfl⟩ : ∃ m', m = m' + 1 := ⟨m - 1, by omega⟩
      show b_X11_turn_97 m' (itr3 b_X11_turn_97 m') _ _ _ s = _
      generalize itr3 b_X11_turn_97 m' = w
      unfold b_X11_turn_97 b_X11_turn_198
      rw [if_pos rfl]
    have C : itr2 b_X5_turn_20 (m + 1) (42 + 2 * i) (nI d) σ = bd (f_X5_readOrder m (42 + 2 * i) σ) (fun x2 s1 => if x2 = (-1 : Int32) then (b_X5_turn_48 (itr2 b_X5_turn_20 m) m (42 + 2 * i) (nI d) (2 : Int32) s1) else (bd (f_X5_perform m (42 + 2 * i) x2 s1) (fun x4 s3 => b_X5_turn_48 (itr2 b_X5_turn_20 m) m (42 + 2 * i) (nI d) x4 s3))) := by
      show b_X5_turn_20 m (itr2 b_X5_turn_20 m) _ _ σ = _
      generalize itr2 b_X5_turn_20 m = w
      unfold b_X5_turn_20
      rw [if_neg (show ¬ (300 : Int32) ≤ nI d from nI_ge (a := d) (b := 300) (by omega) (by omega))]
    have M : itr3 b_X11_turn_97 (m + 1) (nI i) (nI d) 1 τ = b_X11_turn_97 m (itr3 b_X11_turn_97 m) (nI i) (nI d) 1 τ := rfl
    rw [C, M]
    generalize itr2 b_X5_turn_20 m = w1 at ih' ⊢
    generalize itr3 b_X11_turn_97 m = w2 at ih' h0m ⊢
    have e1 := t.s (i := i) (j := 1) hi (by decide)
    have ei := t.s (i := i) (j := 0) hi (by decide)
    rw [Nat.add_zero] at ei
    obtain ⟨s1, s2, s3, s4, s5, s6, s7⟩ := t.slI hi
    obtain ⟨p, hp, ep⟩ : ∃ p, p ≤ 65536 ∧ σ (42 + 2 * i) 1 = nI p := ⟨(σ (42 + 2 * i) 1).toInt.toNat, by omega, nI_oT (by omega)⟩
    have RXh : RX i c p0 L S σ τ := ⟨X, t.2.1, by rw [ei]; exact X.2.2.1, fun j hj => t.2.2.1.2.1 j hj, fun j hj => t.l hi hj⟩
    have L6 : L ≤ 6000 := by have := X.2.2.2.2.2.1; have := t.2.1.2.1; omega
    have r0 : σ (42 + 2 * i) 0 ≠ 0 := by rw [X.2.2.1]; exact nI_ne0 X.2.1.1 (by have := X.2.1.2; omega)
    have CR : ∀ (σ1 τ1 : Mem), CFr i σ σ1 → RdM τ τ1 → ∃ r σ' τ', r ≤ 300 ∧ b_X5_turn_48 w1 m (42 + 2 * i) (nI d) 2 σ1 = some (nI r, σ') ∧ b_X11_turn_158 m (nI i) (nI d) τ1 = some (nI r, τ') ∧ FrC σ σ' ∧ FrM τ τ' ∧ TI S (B + 300) σ' τ' := fun σ1 τ1 hc hm1 => by
      obtain ⟨σ', τ', q1, q2, q3, q4, q5⟩ := crash_b (n := m) (by omega) t hi hc hm1 (nI d)
      refine ⟨d, σ', τ', by omega, ?_, q2, q3, q4, q5.up (by omega)⟩
      unfold b_X5_turn_48
      rw [if_pos rfl]
      exact q1
    rcases rdo RXh (n := m) (m := m) (by omega) (by omega) ep (by rw [e1]; exact ep) hp (show d < 300 by omega) w2 with ⟨o, σ1, τ1, p', ho, k1, k2, k3, k4⟩ | ⟨x, σ1, τ1, k1, k2, k3, k4⟩
    · rw [k1, bd_mk, if_neg (m1_ne o (by omega)), k2]
      obtain ⟨f1, g1, t1⟩ := t.rd hi (by omega) r0 k3
      obtain ⟨⟨r1, r2, r3, r4, -⟩, ⟨m1, m2⟩, hp', q1, q36, q7, q35⟩ := id k3
      have X2 : CX i c p0 L S σ1 (stM τ1 15 (70 + 10 * i + 1) (nI p')) := X.keep (r2 0 (by decide)) r3 r4 g1 (by rw [stM_ne (by decide)]; exact m2 34 (by decide))
      have O2 : OC i c p0 L S (B + d) p' σ1 (stM τ1 15 (70 + 10 * i + 1) (nI p')) := ⟨t1, X2, hp', q1, by rw [stM_ne (by decide)]; exact q36⟩
      have G2 : RG i L o σ1 (stM τ1 15 (70 + 10 * i + 1) (nI p')) := by
        refine ⟨fun j hj => ?_, fun q => ?_, fun q => ?_⟩
        · rw [stM_ne (by decide)]; exact k4.1 j hj
        · rw [stM_ne (by decide)]; exact k4.2.1 q
        · rw [stM_ne (by decide)]; exact k4.2.2 q
      have u1 : ∀ z, z ≠ 15 → τ1 z = (stM τ1 15 (70 + 10 * i + 1) (nI p')) z := fun z hz => (stM_ne hz).symm
      rcases or_all (n := m) (by omega) (by omega) ho O2 G2 with ⟨a1, a2⟩ | ⟨a2, w, σ', g, τ', b1, b2, b3, b4, b5, b6⟩
      · obtain ⟨r, σ', τ', z1, z2, z3, z4⟩ := CR σ1 τ1 k3.1.fr k3.2.1
        refine ⟨r, σ', τ', z1, ?_, ?_, z4⟩
        · rw [a1, bd_mk]; exact z2
        · unfold b_X11_turn_142
          rw [if_pos q35, a2 τ1 u1, bd_mk, if_pos rfl]
          exact z3
      · rw [b1, bd_mk]
        have M2 : b_X11_turn_142 w2 m (nI i) (nI d) (nI o) τ1 = w2 (nI i) (nI (d + 1)) g τ' := by
          unfold b_X11_turn_142
          rw [if_pos q35, a2 τ1 u1, bd_mk, if_neg n10, q36, to_c m (x := 1) (j := 1) rfl hi (by decide), bv_mk, b2, bd_mk, lt_eq, show nI d + Int32.ofInt 1 = nI (d + 1) from nI_1 d]
        rw [M2]
        rcases b6 with ⟨rfl, rfl, c', p1, L', X3⟩ | ⟨rfl, rfl⟩
        · obtain ⟨r, σ2, τ2, z1, z2, z3, z4, z5, z6⟩ := ih' σ' τ' c' p1 L' b5 X3
          refine ⟨r, σ2, τ2, z1, ?_, z3, (f1.tr b3).tr z4, (g1.tr b4).tr z5, z6⟩
          unfold b_X5_turn_48
          rw [if_neg (by decide), if_neg (by decide), lt_eq, show nI d + Int32.ofInt 1 = nI (d + 1) from nI_1 d]
          exact z2
        · refine ⟨d + 1, σ', τ', by omega, ?_, h0m (d + 1) τ', f1.tr b3, g1.tr b4, b5.up (by omega)⟩
          unfold b_X5_turn_48
          rw [if_neg (by decide), if_pos rfl, nI_1]
    · obtain ⟨r, σ', τ', z1, z2, z3, z4⟩ := CR σ1 τ1 k3 k4.1
      rw [k1, bd_mk, if_pos rfl, k2]
      refine ⟨r, σ', τ', z1, z2, ?_, z4⟩
      unfold b_X11_turn_142
      rw [if_neg (by rw [k4.2]; decide)]
      exact z3
theorem TI.m0 {S B j : Nat} {σ τ : Mem} {v : Int32} (h : TI S B σ τ) (hj : 31 ≤ j) : FrM τ (stM τ 0 j v) ∧ TI S B σ (stM τ 0 j v) := by
  have g : FrM τ (stM τ 0 j v) := ⟨fun z a _ _ _ => stM_ne a, fun k hk => stM_far (Or.inr (by omega))⟩
  refine ⟨g, h.go (FrC.rf σ) g ?_ h.2.2.2.1 h.2.2.2.2⟩
  rw [stM_ne (by decide)]; exact h.2.2.1
/-- from where its orders begin -/
theorem turn_b {n i S B : Nat} {σ τ : Mem} (hn : 2000 ≤ n) (hB : B + 300 < 1900000000) (hi : i < 8) (h : TI S B σ τ) (h4 : τ 0 34 = nI i) (r0 : σ (42 + 2 * i) 0 ≠ 0) : ∃ r σ' τ', r ≤ 300 ∧ (bv (f_X5_openCode n (σ (42 + 2 * i) 0) σ) fun s3 => itr2 b_X5_turn_20 n (42 + 2 * i) 0 s3) = some (nI r, σ') ∧ b_X11_turn_93 n (nI i) τ = some (nI r, τ') ∧ FrC σ σ' ∧ FrM τ τ' ∧ TI S (B + 300) σ' τ' := by
  obtain ⟨c, hc0, hc, ec, hs⟩ := (h.slI hi).2.2.2.1 r0
  obtain ⟨s', p0, L, c1, c2, c3, c4, c5, c6, c7⟩ := code_eq (n := n) h.1 h.2.1.2.1 hc0 hc hs σ rfl rfl
  have f : FrC σ s' := fun z hz => c2 z (by omega)
  have t : TI S (B + 0) s' τ := h.go f (FrM.rf τ) (h.2.2.1.agr (fun k _ hk => c2 k (by omega))) (h.2.2.2.1.agr (fun k _ hk => c2 k (by omega)) (fun k _ hk => c2 k (by omega))) (by rw [c2 33 (by decide)]; exact h.2.2.2.2)
  have X : CX i c p0 L S s' τ := ⟨hi, ⟨hc0, hc⟩, by rw [c2 _ (by omega)]; exact ec, c3, c4, c5, c6, c7, h4⟩
  obtain ⟨r, σ', τ', z1, z2, z3, z4, z5, z6⟩ := turn_lp hB 300 0 n s' τ c p0 L (by omega) (by omega) t X
  refine ⟨r, σ', τ', z1, ?_, z3, f.tr z4, z5, z6⟩
  rw [ec, c1, bv_mk]
  exact z2
theorem turn_eq {n i S B : Nat} {σ τ : Mem} (hn : 2000 ≤ n) (hB : B + 300 < 1900000000) (hi : i < 8) (h : TI S B σ τ) : ∃ r σ' τ', r ≤ 300 ∧ f_X5_turn n (42 + 2 * i) σ = some (nI r, σ') ∧ f_X11_turn n (nI i) τ = some (nI r, τ') ∧ FrC σ σ' ∧ FrM τ τ' ∧ TI S (B + 300) σ' τ' := by
  obtain ⟨g0, t0⟩ := h.m0 (j := 34) (v := nI i) (by decide)
  have h34 : (stM τ 0 34 (nI i)) 0 34 = nI i := stM_hit _ _ _ _
  unfold f_X5_turn f_X11_turn
  rw [lt_eq]
  generalize stM τ 0 34 (nI i) = u at g0 t0 h34 ⊢
  have e0 := t0.s (i := i) (j := 0) hi (by decide)
  have e2 := t0.s (i := i) (j := 2) hi (by decide)
  have e3 := t0.s (i := i) (j := 3) hi (by decide)
  have e4 := t0.s (i := i) (j := 4) hi (by decide)
  rw [Nat.add_zero] at e0
  have SI := t0.slI hi
  have DONE : ∀ (σ' τ' : Mem), FrC σ σ' → FrM τ τ' → TI S B σ' τ' → ∃ r σ'' τ'', r ≤ 300 ∧ some ((0 : Int32), σ') = some (nI r, σ'') ∧ some ((0 : Int32), τ') = some (nI r, τ'') ∧ FrC σ σ'' ∧ FrM τ τ'' ∧ TI S (B + 300) σ'' τ'' := fun σ' τ' a b c => ⟨0, σ', τ', by omega, rfl, rfl, a, b, c.up (by omega)⟩
  unfold f_X5_comesToOrders b_X5_comesToOrders_14
  rw [runs_eq, bd_mk, of0 n hi, bd_mk, e0]
  by_cases r0 : σ (42 + 2 * i) 0 = 0
  · rw [bz_f (fun q => q r0), if_pos rfl, ckz0, bd_mk, if_pos rfl, if_pos r0]
    unfold b_X11_turn_24
    exact DONE σ u (FrC.rf σ) g0 t0
  · rw [bz_t r0, if_neg n10, if_neg r0, of_c n (x := 4) (j := 4) rfl hi (by decide), bd_mk, e4]
    by_cases z4 : σ (42 + 2 * i) 4 = 0
    · rw [if_pos z4, if_neg (show ¬ σ (42 + 2 * i) 4 = 1 by rw [z4]; decide), of_c n (x := 2) (j := 2) rfl hi (by decide), bd_mk, e2]
      have W42 : ∀ (s u : Mem), FrC σ s → FrM τ u → TI S B s u → u 0 34 = nI i → s (42 + 2 * i) 0 ≠ 0 → ∃ r σ' τ', r ≤ 300 ∧ (bd (b_X5_comesToOrders_42 n (42 + 2 * i) s) fun x2 s1 => if x2 = 0 then some (0, s1) else bv (f_X5_openCode n (s1 (42 + 2 * i) 0) s1) fun s3 => itr2 b_X5_turn_20 n (42 + 2 * i) 0 s3) = some (nI r, σ') ∧ b_X11_turn_60 n (nI i) u = some (nI r, τ') ∧ FrC σ σ' ∧ FrM τ τ' ∧ TI S (B + 300) σ' τ' := by
        intro s u f g t h34 r0
        have e3 := t.s (i := i) (j := 3) hi (by decide)
        obtain ⟨s1, s2, s3, s4, s5, s6, s7⟩ := t.slI hi
        unfold b_X5_comesToOrders_42 b_X5_comesToOrders_79 b_X11_turn_60
        rw [of_c n (x := 3) (j := 3) rfl hi (by decide), bd_mk, e3]
        by_cases z3 : s (42 + 2 * i) 3 = 0
        · have na : ¬ isA s (s (42 + 2 * i) 3) := fun q => by rw [z3] at q; exact absurd q.1 (by decide)
          rw [if_pos z3, hasA_f n na, bd_mk, if_pos rfl, lt_eq, ckz1, bd_mk, if_neg n10, stM_id z3]
          obtain ⟨r, σ', τ', q1, q2, q3, q4, q5, q6⟩ := turn_b (n := n) hn hB hi t h34 r0
          exact ⟨r, σ', τ', q1, q2, q3, f.tr q4, g.tr q5, q6⟩
        · obtain ⟨a, ha0, ha, ea, hz⟩ := s7.resolve_left z3
          have ia : isA s (s (42 + 2 * i) 3) := by
            rw [ea]
            refine ⟨by rw [nI_toInt (by omega)]; omega, by rw [nI_toInt (by omega)]; omega, by rw [nI_clamp (by omega)]; exact hz⟩
          rw [if_neg z3, hasA_t n ia, bd_mk, if_neg n10, of_c n (x := 3) (j := 3) rfl hi (by decide), bd_mk, e3, ea, ck_t (inb_nI ha (by decide)), nI_clamp (by omega), lt_eq, show 41 + 17 + a = 58 + a by omega, aOf_eq n (x := 4) (j := 4) rfl ha (by omega), bd_mk, t.a ha (by omega)]
          rcases (act_r t.2.2.2.1 ha).2.1 with w | w
          · obtain ⟨f1, g1, t1⟩ := t.slw (i := i) (j0 := 3) (v := 0) hi (by decide) ((t.slI hi).w r0 (by omega) (Or.inr (Or.inr (Or.inl ⟨rfl, Or.inl rfl⟩))))
            rw [w, if_pos rfl, if_neg (by decide), lt_eq, ckz1, bd_mk, if_neg n10, to_c n (x := 3) (j := 3) rfl hi (by decide), bv_mk]
            obtain ⟨r, σ', τ', q1, q2, q3, q4, q5, q6⟩ := turn_b (n := n) hn hB hi t1 (by rw [stM_ne (by decide)]; exact h34) (by rw [stM_far (Or.inr (by decide))]; exact r0)
            exact ⟨r, σ', τ', q1, q2, q3, (f.tr f1).tr q4, (g.tr g1).tr q5, q6⟩
          · rw [w, if_neg n10, if_pos rfl, ckz0, bd_mk, if_pos rfl]
            exact DONE s u f g t
      by_cases z2 : σ (42 + 2 * i) 2 ≤ 0
      · rw [if_pos z2, if_pos z2]
        exact W42 σ u (FrC.rf σ) g0 t0 h34 r0
      · obtain ⟨f1, g1, t1⟩ := t0.slw (i := i) (j0 := 2) (v := σ (42 + 2 * i) 2 - 1) hi (by decide) (SI.w r0 (by omega) (Or.inr (Or.inl rfl)))
        rw [if_neg z2, if_neg z2, lt_eq, stM_hit, of_c n (x := 2) (j := 2) rfl hi (by decide), bd_mk, e2, to_c n (x := 2) (j := 2) rfl hi (by decide), bv_mk, of_c n (x := 2) (j := 2) rfl hi (by decide), bd_mk, stM_hit]
        by_cases z : σ (42 + 2 * i) 2 - 1 ≤ 0
        · rw [if_pos z, if_pos z]
          exact W42 _ _ f1 (g0.tr g1) t1 (by rw [stM_ne (by decide)]; exact h34) (by rw [stM_far (Or.inr (by decide))]; exact r0)
        · rw [if_neg z, if_neg z, ckz0, bd_mk, if_pos rfl]
          exact DONE _ _ f1 (g0.tr g1) t1
    · have z41 : σ (42 + 2 * i) 4 = 1 := SI.1.resolve_left z4
      rw [if_neg z4, ckz0, bd_mk, if_pos rfl, if_pos z41]
      unfold b_X11_turn_24
      exact DONE σ u (FrC.rf σ) g0 t0
