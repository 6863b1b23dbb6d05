/-! ===== way, actor, goal ===== -/
theorem PlayR.lo {σ σ' τ : Mem} {S : Nat} (h : PlayR σ τ S) (hs : ∀ z, z < 116 → σ' z = σ z) : PlayR σ' τ S :=
  h.agr (fun k _ hk => hs k (by omega)) (fun k _ hk => hs k (by omega)) (agr_rf τ 2 13) (fun _ _ _ => rfl)
theorem Rel.aux {t : Nat} {σ τ σ' τ' : Mem} (h : Rel t σ τ) (hs : ∀ z, z < 116 → σ' z = σ z) (ht : ∀ z, z ≠ 0 → z ≠ 17 → τ' z = τ z) (h0 : ∀ j, j ≠ 0 → j < 31 → τ' 0 j = τ 0 j) : Rel (t + 1) σ' τ' := by
  obtain ⟨sR, sI⟩ := h.st
  have a : ∀ lo hi, hi ≤ 116 → agr σ σ' lo hi := fun lo hi hh k _ hk => hs k (by omega)
  refine h.step (fun j g1 g2 _ _ _ g6 => h0 j g2 (by omega)) (hs 0 (by omega)) (a _ _ (by omega)) (a _ _ (by omega)) ⟨by rw [hs 31 (by omega)], by rw [hs 31 (by omega)]⟩ (a _ _ (by omega)) (fun k _ hk => ht k (by omega) (by omega)) (ht 16 (by decide) (by decide)) ?_
  rw [ht 15 (by decide) (by decide)]
  exact ⟨sR.agr (a _ _ (by omega)), (sI.agr (a _ _ (by omega)) (a _ _ (by omega))).up⟩
theorem isOpen_C {σ τ : Mem} {S : Nat} (h : PlayR σ τ S) (n : Nat) (x y : Int32) [Decidable (isBx τ x y)] : f_X9_isOpen n x y σ = some (bz (isBx τ x y ∧ bitI (σ 39 x.toNatClampNeg) y.toNatClampNeg = 0), σ) := by
  by_cases e : isBx τ x y
  · obtain ⟨r, b, h0, hr, hb, hb16, rfl, rfl⟩ := isBx_nI e h.cs
    rw [open_C h n h0 hr hb, nI_clamp (by omega), nI_clamp (by omega)]
    congr 2
    exact bz_c ⟨fun q => ⟨e, q⟩, fun q => q.2⟩
  · unfold f_X9_isOpen b_X9_isOpen_32 b_X9_isOpen_33
    rw [hasBox_eq h n, bd_mk, bz_f e, if_pos rfl, ck_t okZ0, bz_f (fun q => e q.1)]
theorem sim_way {t : Nat} {σ τ : Mem} (h : Rel t σ τ) {n : Nat} (hn : 10000 ≤ n) (x y z : Int32) : Sim t (f_X10_way n x y z σ) (f_X11_way n x y z τ) := by
  obtain ⟨sR, sI⟩ := h.st
  obtain ⟨T, S, -, -, a5, -⟩ := id h
  haveI : Decidable (isBx τ x y) := Classical.propDecidable _
  haveI : Decidable (isBx τ x z) := Classical.propDecidable _
  unfold f_X10_way f_X11_way b_X10_way_24 b_X11_way_41
  rw [lt_eq, isOpen_C a5 n x y, isBox_eq a5 n x y (stM_ne (by decide)), bd_mk, bd_mk]
  by_cases e : isBx τ x y
  · by_cases e2 : isBx τ x z
    · obtain ⟨r, b, h0, hr, hb, hb16, rfl, rfl⟩ := isBx_nI e a5.cs
      obtain ⟨r2, c, -, hr2, hc, hc16, hx, rfl⟩ := isBx_nI e2 a5.cs
      have er : r2 = r := ((nI_eq (by omega) (by omega)).mp hx).symm
      subst er
      rw [bz_t e, if_neg (show ¬ (1 : Int32) = 0 by decide), isBox_eq a5 n _ _ (stM_ne (by decide)), bd_mk, bz_t e2, if_neg (show ¬ (1 : Int32) = 0 by decide), open_M n hr hb16, bd_mk, stM_ne (show (15 : Nat) ≠ 0 by decide), nI_clamp (by omega), nI_clamp (by omega)]
      have o1 : τ 15 (445 + 16 * r2 + b) = 0 ↔ bitI (σ 39 r2) b = 0 := by rw [sR.2.2.2.2.2.2.2.2.2.2 r2 hr b hb16]
      have o2 : τ 15 (445 + 16 * r2 + c) = 0 ↔ bitI (σ 39 r2) c = 0 := by rw [sR.2.2.2.2.2.2.2.2.2.2 r2 hr c hc16]
      by_cases p : bitI (σ 39 r2) b = 0
      · rw [bz_t ⟨e, p⟩, if_neg (show ¬ (1 : Int32) = 0 by decide), bz_t (o1.mpr p), if_neg (show ¬ (1 : Int32) = 0 by decide), open_M n hr hc16, bd_mk, stM_ne (show (15 : Nat) ≠ 0 by decide), isOpen_C a5 n, bd_mk, nI_clamp (by omega), nI_clamp (by omega)]
        by_cases p2 : bitI (σ 39 r2) c = 0
        · rw [bz_t ⟨e2, p2⟩, if_neg (show ¬ (1 : Int32) = 0 by decide), bz_t (o2.mpr p2), if_neg (show ¬ (1 : Int32) = 0 by decide)]
          obtain ⟨f, q1, q2⟩ := meas_eq (n := n) a5 (by omega) hr hb
          obtain ⟨u, v1, v2, v3⟩ := ways_eq (n := n) (s := stM τ 0 0 0) a5 sR (by omega) hr hb ⟨stM_ne (by decide), stM_ne (by decide), stM_ne (by decide)⟩
          unfold f_X9_boxesBetween
          rw [q1, bv_mk, ck_t (inb_nI hc16 (by decide)), bd_mk, v1, bv_mk, ck_t (inb_nI hc16 (by decide)), nI_clamp (by omega), rwM_row, q2 c hc16, v3 c hc16]
          refine ⟨_, _, _, rfl, rfl, h.aux (fun z hz => rwM_ne (by omega)) (fun z h1 h2 => by rw [v2 z h2, stM_ne h1]) (fun j h1 h2 => by rw [v2 0 (by decide), stM_far (Or.inr h1)])⟩
        · rw [bz_f (fun q => p2 q.2), if_pos rfl, bz_f (fun q => p2 (o2.mp q)), if_pos rfl]
          exact ⟨_, _, _, rfl, rfl, h.th 0⟩
      · rw [bz_f (fun q => p q.2), if_pos rfl, bz_f (fun q => p (o1.mp q)), if_pos rfl]
        exact ⟨_, _, _, rfl, rfl, h.th 0⟩
    · have m : (bd (f_X11_isBox n x z (stM τ 0 0 0)) fun x5 s4 => if x5 = 0 then some ((-1 : Int32), s4) else bd (f_X11_isOpen n x y s4) fun x7 s6 => if x7 = 0 then some ((-1 : Int32), s6) else bd (f_X11_isOpen n x z s6) fun x9 s8 => if x9 = 0 then some ((-1 : Int32), s8) else bv (f_X11_ways n x y s8) fun s10 => ck (inb z 16) (some (s10 17 z.toNatClampNeg, s10))) = some (-1, stM τ 0 0 0) := by
        rw [isBox_eq a5 n x z (stM_ne (by decide)), bd_mk, bz_f e2, if_pos rfl]
      rw [bz_t e, if_neg (show ¬ (1 : Int32) = 0 by decide), m]
      by_cases p : isBx τ x y ∧ bitI (σ 39 x.toNatClampNeg) y.toNatClampNeg = 0
      · rw [bz_t p, if_neg (show ¬ (1 : Int32) = 0 by decide), isOpen_C a5 n, bd_mk, bz_f (fun q => e2 q.1), if_pos rfl]
        exact ⟨_, _, _, rfl, rfl, h.th 0⟩
      · rw [bz_f p, if_pos rfl]
        exact ⟨_, _, _, rfl, rfl, h.th 0⟩
  · rw [bz_f e, if_pos rfl, bz_f (fun q => e q.1), if_pos rfl]
    exact ⟨_, _, _, rfl, rfl, h.th 0⟩
theorem act_r {σ : Mem} {t a : Nat} (h : StI σ 33 t) (ha : a < 13) : ActI σ (58 + a) a := by
  have := h.2.2.2.2.2.1 a ha
  rw [show 33 + 25 + a = 58 + a by omega] at this
  exact this
theorem anum_eq (n : Nat) {q j : Nat} (s : Mem) (h4 : okZ (s q 4)) (hj : j < 7) : f_X0_number n q (nI j) s = some (s q j, s) := by
  unfold f_X0_number b_X0_number_76
  rcases (show j = 0 ∨ j = 1 ∨ j = 2 ∨ j = 3 ∨ j = 4 ∨ j = 5 ∨ j = 6 by omega) with rfl | rfl | rfl | rfl | rfl | rfl | rfl
  · rw [if_pos (by decide)]
  · rw [if_neg (by decide), if_pos (by decide)]
  · rw [if_neg (by decide), if_neg (by decide), if_pos (by decide)]
  · rw [if_neg (by decide), if_neg (by decide), if_neg (by decide), if_pos (by decide)]
  · rw [if_neg (by decide), if_neg (by decide), if_neg (by decide), if_neg (by decide), if_pos (by decide)]
    rcases h4 with e | e
    · rw [if_pos e, e]
    · rw [if_neg (by rw [e]; decide), e]
  · rw [if_neg (by decide), if_neg (by decide), if_neg (by decide), if_neg (by decide), if_neg (by decide), if_pos (by decide)]
  · rw [if_neg (by decide), if_neg (by decide), if_neg (by decide), if_neg (by decide), if_neg (by decide), if_neg (by decide), if_pos (by decide)]
theorem hasA (n : Nat) (x : Int32) (s : Mem) : f_X2_has n 28 x s = some (bz (0 < x.toInt ∧ x.toInt < 13 ∧ s 29 x.toNatClampNeg ≠ 0), s) := has_eq n io_2_28 x s
theorem sim_actor {t : Nat} {σ τ : Mem} (h : Rel t σ τ) {n : Nat} (hn : 10000 ≤ n) (x w : Int32) : SimX t (f_X10_actor n x w σ) (f_X11_actor n x w τ) := by
  obtain ⟨sR, sI⟩ := h.st
  obtain ⟨T, S, -, ⟨a3, -⟩, a5, -⟩ := id h
  unfold f_X10_actor f_X11_actor b_X10_actor_24 b_X10_actor_66 b_X11_actor_25 b_X11_actor_60 b_X11_actor_66
  rw [lt_eq, isActor_eq, bd_mk, hasA n, bd_mk, stM_ne (show (12 : Nat) ≠ 0 by decide)]
  by_cases e : 0 < x.toInt ∧ x.toInt < 13 ∧ σ 29 x.toNatClampNeg ≠ 0
  · rw [bz_t e, if_neg (show ¬ (1 : Int32) = 0 by decide), bz_t ((actor_iff a5 x).mp e), if_neg (show ¬ (1 : Int32) = 0 by decide), in_eq n w, bd_mk, show (0 : Int64).toInt = 0 from rfl, show (7 : Int64).toInt = 7 from rfl]
    obtain ⟨q, h0, hq, rfl⟩ : ∃ q, 0 < q ∧ q < 13 ∧ x = nI q := ⟨x.toInt.toNat, by omega, by omega, nI_oT (by omega)⟩
    rw [nI_clamp (by omega)] at e
    rcases pk_ix w (n := 8) (by decide) with hw | hw | ⟨j, hj, rfl⟩
    · have g3 : w.toInt < 0 := lt_T.mp hw
      rw [if_pos hw, if_neg (show ¬ ((0 : Int) ≤ w.toInt ∧ w.toInt ≤ 7) by omega), if_pos rfl, refuse_eq, bd_mk]
      exact Or.inr ⟨_, _, _, rfl, rfl, stM_hit _ _ _ _, h.th2 0 1⟩
    · have g3 : 8 ≤ w.toInt := le_T.mp hw
      rw [if_neg (fun q => by have : w.toInt < 0 := lt_T.mp q; omega), if_neg (fun q => by have : w.toInt ≤ 7 := le_T.mp q; omega), if_neg (show ¬ ((0 : Int) ≤ w.toInt ∧ w.toInt ≤ 7) by omega), if_pos rfl, refuse_eq, bd_mk]
      exact Or.inr ⟨_, _, _, rfl, rfl, stM_hit _ _ _ _, h.th2 0 1⟩
    · have g3 : (nI j).toInt = (j : Int) := nI_toInt (by omega)
      obtain ⟨⟨r, X, Y, v, z0, zr, z1, zx, z2, zy, z3, zv⟩, z4, z5, z6⟩ := act_r sI hq
      have hW : WC τ (stM τ 0 0 0) := ⟨stM_ne (by decide), stM_ne (by decide), stM_ne (by decide)⟩
      rw [if_neg (nI_pos (by omega)), if_pos (show nI j ≤ (7 : Int32) from nI_le (a := j) (b := 7) (by omega) (by omega)), if_pos (show (0 : Int) ≤ (nI j).toInt ∧ (nI j).toInt ≤ 7 by omega), if_neg (show ¬ (1 : Int32) = 0 by decide), ck_t (inb_nI hq (by decide)), lt_eq, nI_clamp (by omega), show 41 + 17 + q = 58 + q by omega]
      by_cases j7 : j = 7
      · subst j7
        rw [if_pos (show nI 7 = (7 : Int32) from rfl), if_pos (show nI 7 = (7 : Int32) from rfl), boxOf_C a5 (by omega) (show r < 21 by omega) z0, bd_mk, boxOf_M a5 sR hW (by omega) hq (show r < 21 by omega) z0, bd_mk]
        exact Or.inl ⟨_, _, _, rfl, rfl, stM_hit _ _ _ _, h.th 0⟩
      · have n7 : ¬ nI j = (7 : Int32) := fun q => by have := (nI_eq (a := j) (b := 7) (by omega) (by omega)).mp q; omega
        rw [if_neg n7, if_neg n7, anum_eq n σ z4 (show j < 7 by omega), bd_mk]
        by_cases j4 : j ≤ 4
        · rw [if_pos (show nI j ≤ (4 : Int32) from nI_le (a := j) (b := 4) j4 (by omega)), aOf_eq n rfl hq (by omega), bd_mk, stM_ne (show (15 : Nat) ≠ 0 by decide), sR.2.2.2.2.2.2.1 q hq j (by omega)]
          exact Or.inl ⟨_, _, _, rfl, by rw [show 33 + 25 + q = 58 + q by omega], stM_hit _ _ _ _, h.th 0⟩
        · rw [if_neg (show ¬ nI j ≤ (4 : Int32) from nI_ge (a := 4) (b := j) (by omega) (by omega)), aOf_eq n (x := 4) (j := 4) rfl hq (by omega), bd_mk, aOf_eq n rfl hq (by omega), bd_mk, stM_ne (show (15 : Nat) ≠ 0 by decide), sR.2.2.2.2.2.2.1 q hq 4 (by omega), show 33 + 25 + q = 58 + q by omega]
          rcases z4 with k | k
          · have := z6 k e.2.2
            have ej : σ (58 + q) j = -1 := by
              rcases (show j = 5 ∨ j = 6 by omega) with rfl | rfl
              · exact this.1
              · exact this.2
            rw [if_pos k, ej]
            exact Or.inl ⟨_, _, _, rfl, rfl, stM_hit _ _ _ _, h.th 0⟩
          · have := sR.2.2.2.2.2.2.2.1 q hq (by rw [show 33 + 25 + q = 58 + q by omega]; exact k)
            rw [show 33 + 25 + q = 58 + q by omega] at this
            have ej : τ 15 (232 + 7 * q + j) = σ (58 + q) j := by
              rcases (show j = 5 ∨ j = 6 by omega) with rfl | rfl
              · rw [← this.1]
                congr 1
                omega
              · rw [← this.2]
                congr 1
                omega
            rw [if_neg (by rw [k]; decide), ej]
            exact Or.inl ⟨_, _, _, rfl, rfl, stM_hit _ _ _ _, h.th 0⟩
  · rw [bz_f e, if_pos rfl, bz_f (fun q => e ((actor_iff a5 x).mpr q)), if_pos rfl, refuse_eq, bd_mk]
    exact Or.inr ⟨_, _, _, rfl, rfl, stM_hit _ _ _ _, h.th2 0 1⟩
/-- the goal that both have found -/
def GG (F : Nat → Nat) (τ : Mem) (r : Nat) (s u : Mem) : Prop := ∃ gx gy gb : Nat, gx ≤ 255 ∧ gy ≤ 255 ∧ F gb ≠ 0 ∧ inB τ r gb gx gy = true ∧ s 116 4 = nI gx ∧ s 116 5 = nI gy ∧ s 116 6 = nI gb ∧ u 0 32 = nI gx ∧ u 0 33 = nI gy ∧ u 0 31 = nI gb
theorem goal_tail {F : Nat → Nat} {c : Nat} (hF : ∀ j, c ≤ j → F j = 0) (x y rr : Int32) : ∀ (M k : Nat) (ls : Int32) (s : Mem), c ≤ k → k ≤ 16 → 16 < k + M → (∀ j, j < 16 → s 117 j = nI (F j)) → itr5 (b_X9_findGoal_13) M rr x y ls (nI k) s = some s := by
  intro M
  induction M with
  | zero => intro k ls s h1 h2 h3; omega
  | succ M ih =>
    intro k ls s h1 h2 h3 hs
    show b_X9_findGoal_13 M (itr5 (b_X9_findGoal_13) M) rr x y ls (nI k) s = _
    generalize itr5 (b_X9_findGoal_13) M = g at ih ⊢
    unfold b_X9_findGoal_13 b_X9_findGoal_112
    rw [show (16 : Int32) = nI 16 from rfl]
    by_cases hk : 16 ≤ k
    · rw [if_pos (nI_le hk (by omega))]
    · rw [if_neg (nI_ge (a := k) (by omega) (by omega)), ck_t (inb_nI (by omega) (by decide)), nI_clamp (by omega), hs k (by omega), hF k h1, if_pos (show nI 0 = 0 from rfl), lt_eq, show Int32.ofInt 1 = 1 from rfl, nI_1]
      exact ih (k + 1) ls s (by omega) (by omega) (by omega) hs
theorem goal_lp {τ : Mem} {S r : Nat} {F : Nat → Nat} (hr : r < 21) (hF : ∀ j, cnt τ r ≤ j → F j = 0) (hF16 : ∀ j, F j ≤ 16) {X Y : Nat} (hX : X ≤ 255) (hY : Y ≤ 255) : ∀ (M k : Nat) (ls lm : Int32) (s u : Mem), k ≤ cnt τ r → 16 < k + M → PlayR s τ S → u 4 = τ 4 → u 5 = τ 5 → (∀ j, j < 16 → s 117 j = nI (F j)) → (∀ j, j < 16 → u 17 j = nI (F j)) → ((ls = 131072 ∧ lm = 2147483647 ∧ ∀ j, j < k → F j = 0) ∨ ∃ D, D ≤ 130050 ∧ ls = nI D ∧ lm = nI D ∧ GG F τ r s u) → ∃ s' u', itr5 (b_X9_findGoal_13) M (nI r) (nI X) (nI Y) ls (nI k) s = some s' ∧ itr5 (b_X11_goals_13) M (nI r) (nI X) (nI Y) lm (nI k) u = some u' ∧ (∀ z, z ≠ 116 → s' z = s z) ∧ (∀ z, z ≠ 0 → u' z = u z) ∧ (∀ j, j < 31 → u' 0 j = u 0 j) ∧ ((∀ j, F j = 0) ∨ GG F τ r s' u') := by
  intro M
  induction M with
  | zero => intro k ls lm s u h1 h2 hP; have := (hP.cs r hr).1; omega
  | succ M ih =>
    intro k ls lm s u h1 h2 hP e4 e5 hs hu hI
    have c16 := (hP.cs r hr).1
    by_cases hk : cnt τ r ≤ k
    · refine ⟨s, u, goal_tail hF (nI X) (nI Y) (nI r) (M + 1) k ls s hk (by omega) (by omega) hs, ?_, fun _ _ => rfl, fun _ _ => rfl, fun _ _ => rfl, ?_⟩
      · show b_X11_goals_13 M (itr5 (b_X11_goals_13) M) (nI r) (nI X) (nI Y) lm (nI k) u = _
        generalize itr5 (b_X11_goals_13) M = g
        unfold b_X11_goals_13
        rw [ck_t (inb_nI hr (by decide)), nI_clamp (by omega), e4, (hP.2.2.2.2.1 r hr).c.2.2.2.1, if_pos (nI_le hk (by omega))]
      · rcases hI with ⟨-, -, q⟩ | ⟨D, -, -, -, q⟩
        · left
          intro j
          by_cases hj : j < k
          · exact q j hj
          · exact hF j (by omega)
        · exact Or.inr q
    · show ∃ s' u', b_X9_findGoal_13 M (itr5 (b_X9_findGoal_13) M) (nI r) (nI X) (nI Y) ls (nI k) s = _ ∧ b_X11_goals_13 M (itr5 (b_X11_goals_13) M) (nI r) (nI X) (nI Y) lm (nI k) u = _ ∧ _
      generalize itr5 (b_X9_findGoal_13) M = g at ih ⊢
      generalize itr5 (b_X11_goals_13) M = g2 at ih ⊢
      unfold b_X9_findGoal_13 b_X9_findGoal_112 b_X11_goals_13 b_X11_goals_134
      rw [if_neg (show ¬ (16 : Int32) ≤ nI k from nI_ge (a := k) (b := 16) (by omega) (by omega)), ck_t (inb_nI (by omega) (by decide)), ck_t (inb_nI hr (by decide)), nI_clamp (show r < 2 ^ 31 by omega), e4, (hP.2.2.2.2.1 r hr).c.2.2.2.1, if_neg (nI_ge (a := k) (by omega) (by omega)), ck_t (inb_nI (by omega) (by decide)), nI_clamp (show k < 2 ^ 31 by omega), hs k (by omega), hu k (by omega)]
      have hk16 := hF16 k
      by_cases f0 : F k = 0
      · rw [f0, if_pos (show nI 0 = 0 from rfl), if_pos (show nI 0 = 0 from rfl), lt_eq, lt_eq, show Int32.ofInt 1 = 1 from rfl, nI_1]
        refine ih (k + 1) ls lm s u (by omega) (by omega) hP e4 e5 hs hu ?_
        rcases hI with ⟨q1, q2, q3⟩ | q
        · refine Or.inl ⟨q1, q2, fun j hj => ?_⟩
          by_cases e : j = k
          · rw [e, f0]
          · exact q3 j (by omega)
        · exact Or.inr q
      · have nz := nI_ne0 (n := F k) (by omega) (by omega)
        obtain ⟨gx, gy, x1, y1, x2, y2, xy⟩ := near_pt hP hr (show k < cnt τ r by omega) hX hY
        obtain ⟨D1, d1, d2⟩ := sq_nat hX x1
        obtain ⟨D2, d3, d4⟩ := sq_nat hY y1
        rw [if_neg nz, if_neg nz, nearX_eq hP M hr (show k < cnt τ r by omega), bd_mk, nearY_eq hP M hr (show k < cnt τ r by omega), bd_mk]
        rw [side_eq M (x := 0) (i := 0) rfl hr (by omega) (by omega), bd_mk, side_eq M (x := 2) (i := 2) rfl hr (by omega) (by omega), bd_mk, e5, within_eq, bd_mk, side_eq M (x := 1) (i := 1) rfl hr (by omega) (by omega), bd_mk, side_eq M (x := 3) (i := 3) rfl hr (by omega) (by omega), bd_mk, e5, within_eq, bd_mk, x2, y2, d2, d4, nI_add, lt_eq (nI (D1 + D2)), lt_eq (nI (D1 + D2))]
        have go : ∃ s' u', (lt (stM s 116 4 (nI gx)) fun s6 => lt (stM s6 116 5 (nI gy)) fun s7 => lt (stM s7 116 6 (nI k)) fun s8 => lt (nI k + Int32.ofInt 1) fun x1 => g (nI r) (nI X) (nI Y) (nI (D1 + D2)) x1 s8) = some s' ∧ (lt (stM u 0 31 (nI k)) fun s14 => lt (stM s14 0 32 (nI gx)) fun s15 => lt (stM s15 0 33 (nI gy)) fun s16 => lt (nI k + Int32.ofInt 1) fun x1 => g2 (nI r) (nI X) (nI Y) (nI (D1 + D2)) x1 s16) = some u' ∧ (∀ z, z ≠ 116 → s' z = s z) ∧ (∀ z, z ≠ 0 → u' z = u z) ∧ (∀ j, j < 31 → u' 0 j = u 0 j) ∧ ((∀ j, F j = 0) ∨ GG F τ r s' u') := by
          simp only [lt_eq]
          rw [show Int32.ofInt 1 = 1 from rfl, nI_1]
          have hoff : ∀ z, z ≠ 116 → (stM (stM (stM s 116 4 (nI gx)) 116 5 (nI gy)) 116 6 (nI k)) z = s z := fun z hz => by rw [stM_ne hz, stM_ne hz, stM_ne hz]
          have hofu : ∀ z, z ≠ 0 → (stM (stM (stM u 0 31 (nI k)) 0 32 (nI gx)) 0 33 (nI gy)) z = u z := fun z hz => by rw [stM_ne hz, stM_ne hz, stM_ne hz]
          obtain ⟨s', u', w1, w2, w3, w4, w5, w6⟩ := ih (k + 1) (nI (D1 + D2)) (nI (D1 + D2)) (stM (stM (stM s 116 4 (nI gx)) 116 5 (nI gy)) 116 6 (nI k)) (stM (stM (stM u 0 31 (nI k)) 0 32 (nI gx)) 0 33 (nI gy)) (by omega) (by omega) (hP.lo (fun z hz => hoff z (by omega))) (by rw [hofu 4 (by decide), e4]) (by rw [hofu 5 (by decide), e5]) (fun j hj => by rw [hoff 117 (by decide)]; exact hs j hj) (fun j hj => by rw [hofu 17 (by decide)]; exact hu j hj) (Or.inr ⟨D1 + D2, by omega, rfl, rfl, gx, gy, k, x1, y1, f0, xy, by rw [stM_far (Or.inr (by decide)), stM_far (Or.inr (by decide)), stM_hit], by rw [stM_far (Or.inr (by decide)), stM_hit], stM_hit _ _ _ _, by rw [stM_far (Or.inr (by decide)), stM_hit], stM_hit _ _ _ _, by rw [stM_far (Or.inr (by decide)), stM_far (Or.inr (by decide)), stM_hit]⟩)
          exact ⟨s', u', w1, w2, fun z hz => by rw [w3 z hz, hoff z hz], fun z hz => by rw [w4 z hz, hofu z hz], fun j hj => by rw [w5 j hj, stM_far (Or.inr (by omega)), stM_far (Or.inr (by omega)), stM_far (Or.inr (by omega))], w6⟩
        rcases hI with ⟨rfl, rfl, -⟩ | ⟨D, hD, rfl, rfl, q⟩
        · rw [if_neg (show ¬ (131072 : Int32) ≤ nI (D1 + D2) from nI_ge (a := D1 + D2) (b := 131072) (by omega) (by omega)), if_neg (show ¬ (2147483647 : Int32) ≤ nI (D1 + D2) from nI_ge (a := D1 + D2) (b := 2147483647) (by omega) (by omega))]
          exact go
        · by_cases le : D ≤ D1 + D2
          · rw [if_pos (nI_le le (by omega)), if_pos (nI_le le (by omega)), lt_eq, lt_eq, show Int32.ofInt 1 = 1 from rfl, nI_1]
            exact ih (k + 1) (nI D) (nI D) s u (by omega) (by omega) hP e4 e5 hs hu (Or.inr ⟨D, hD, rfl, rfl, q⟩)
          · rw [if_neg (nI_ge (by omega) (by omega)), if_neg (nI_ge (by omega) (by omega))]
            exact go
theorem FR_c {σ τ : Mem} {r a : Nat} (ha : a < cnt τ r) : ∀ j, cnt τ r ≤ j → FR σ τ r a j = 0 := by
  intro j hj
  by_cases q : FR σ τ r a j = 0
  · exact q
  · unfold FR FRm at q
    rcases gN_supp 16 j q with e | e
    · omega
    · omega
theorem FR_16 {σ τ : Mem} {r a : Nat} (hc : cnt τ r ≤ 16) (ha : a < cnt τ r) (j : Nat) : FR σ τ r a j ≤ 16 := by
  unfold FR FRm
  exact gN_16 hc (by omega) j
theorem FR_a {σ τ : Mem} {r a : Nat} : FR σ τ r a a = 1 := by
  unfold FR FRm
  exact gN_a 16
theorem goal_both {σ τ u : Mem} {S r a X Y n : Nat} (h : PlayR σ τ S) (hS : StR σ 33 (τ 15)) (hn : 200 ≤ n) (hr : r < 21) (ha : a < cnt τ r) (hX : X ≤ 255) (hY : Y ≤ 255) (hW : WC τ u) : ∃ s' u', f_X9_findGoal n (nI r) (nI a) (nI X) (nI Y) σ = some s' ∧ f_X11_goals n (nI r) (nI a) (nI X) (nI Y) u = some u' ∧ (∀ z, z ≠ 116 → z ≠ 117 → s' z = σ z) ∧ (∀ z, z ≠ 0 → z ≠ 17 → u' z = u z) ∧ (∀ j, j < 31 → u' 0 j = u 0 j) ∧ GG (FR σ τ r a) τ r s' u' := by
  have c16 := (h.cs r hr).1
  obtain ⟨f, q1, q2⟩ := meas_eq (n := n) h (by omega) hr ha
  obtain ⟨v, v1, v2, v3⟩ := ways_eq (n := n) h hS (by omega) hr ha hW
  unfold f_X9_findGoal f_X11_goals
  rw [q1, bv_mk, v1, bv_mk, show (0 : Int32) = nI 0 from rfl]
  obtain ⟨s', u', w1, w2, w3, w4, w5, w6⟩ := goal_lp (F := FR σ τ r a) hr (FR_c ha) (FR_16 c16 ha) hX hY n 0 131072 2147483647 (rwM σ 117 f) v (by omega) (by omega) (h.lo (fun z hz => rwM_ne (by omega))) (by rw [v2 4 (by decide), hW.1]) (by rw [v2 5 (by decide), hW.2.1]) (fun j hj => by rw [rwM_row]; exact q2 j hj) v3 (Or.inl ⟨rfl, rfl, fun j hj => by omega⟩)
  refine ⟨s', u', w1, w2, fun z h1 h2 => by rw [w3 z h1, rwM_ne h2], fun z h1 h2 => by rw [w4 z h1, v2 z h2], fun j hj => by rw [w5 j hj, v2 0 (by decide)], ?_⟩
  rcases w6 with e | e
  · have := e a
    rw [FR_a] at this
    cases this
  · exact e
theorem boxI_n {o : Option Nat} (h : o = none) : boxI o = -1 := by rw [h]; rfl
theorem sim_goal {t : Nat} {σ τ : Mem} (h : Rel t σ τ) {n : Nat} (hn : 10000 ≤ n) (x y z : Int32) : Sim t (f_X10_goal n x y z σ) (f_X11_goal n x y z τ) := by
  obtain ⟨sR, sI⟩ := h.st
  obtain ⟨T, S, -, -, a5, -⟩ := id h
  unfold f_X10_goal f_X11_goal b_X10_goal_28 b_X11_goal_35
  rw [lt_eq, isActor_eq, bd_mk, hasA n, bd_mk, stM_ne (show (12 : Nat) ≠ 0 by decide)]
  by_cases e : 0 < x.toInt ∧ x.toInt < 13 ∧ σ 29 x.toNatClampNeg ≠ 0
  · rw [bz_t e, if_neg (show ¬ (1 : Int32) = 0 by decide), bz_t ((actor_iff a5 x).mp e), if_neg (show ¬ (1 : Int32) = 0 by decide), isByteC_eq, bd_mk, isByteM_eq, bd_mk]
    by_cases e2 : 0 ≤ y.toInt ∧ y.toInt ≤ 255
    · rw [bz_t e2, if_neg (show ¬ (1 : Int32) = 0 by decide), if_neg (show ¬ (1 : Int32) = 0 by decide), isByteC_eq, bd_mk, isByteM_eq, bd_mk]
      by_cases e3 : 0 ≤ z.toInt ∧ z.toInt ≤ 255
      · rw [bz_t e3, if_neg (show ¬ (1 : Int32) = 0 by decide), if_neg (show ¬ (1 : Int32) = 0 by decide)]
        obtain ⟨q, h0, hq, rfl⟩ : ∃ q, 0 < q ∧ q < 13 ∧ x = nI q := ⟨x.toInt.toNat, by omega, by omega, nI_oT (by omega)⟩
        obtain ⟨X, hX, rfl⟩ : ∃ q, q ≤ 255 ∧ y = nI q := ⟨y.toInt.toNat, by omega, nI_oT (by omega)⟩
        obtain ⟨Y, hY, rfl⟩ : ∃ q, q ≤ 255 ∧ z = nI q := ⟨z.toInt.toNat, by omega, nI_oT (by omega)⟩
        obtain ⟨⟨r, ax, ay, v, z0, zr, z1, zx, z2, zy, z3, zv⟩, z4, z5, z6⟩ := act_r sI hq
        have hW : WC τ (stM τ 0 0 0) := ⟨stM_ne (by decide), stM_ne (by decide), stM_ne (by decide)⟩
        unfold f_X9_goalFor
        rw [ck_t (inb_nI hq (by decide)), lt_eq, nI_clamp (by omega), show 41 + 17 + q = 58 + q by omega, boxOf_C a5 (by omega) (show r < 21 by omega) z0, bd_mk, boxOf_M a5 sR hW (by omega) hq (show r < 21 by omega) z0, bd_mk]
        cases eb : boxN σ τ r (σ (58 + q) 1).toInt (σ (58 + q) 2).toInt with
        | none =>
          rw [boxI_n rfl, if_pos rfl, bd_mk, if_neg (by decide)]
          exact ⟨_, _, _, rfl, rfl, h.th 0⟩
        | some b =>
          have hb := boxN_s eb
          have c16 := (a5.cs r (by omega)).1
          show Sim t (bd (if nI b = -1 then _ else _) _) (if 0 ≤ nI b then _ else _)
          rw [if_neg (by intro w; have := congrArg Int32.toInt w; rw [nI_toInt (by omega)] at this; exact absurd this (by simp)), if_pos (nI_pos' (by omega)), aOf_eq n (x := 0) (j := 0) rfl hq (by omega), bd_mk, boxOf_M a5 sR hW (by omega) hq (show r < 21 by omega) z0, bd_mk, stM_ne (show (15 : Nat) ≠ 0 by decide), sR.2.2.2.2.2.2.1 q hq 0 (by omega), show 33 + 25 + q = 58 + q by omega, z0, eb]
          obtain ⟨s', u', w1, w2, w3, w4, w5, gx, gy, gb, -, -, -, -, w6, w7, -, w8, w9, -⟩ := goal_both (n := n) (u := stM τ 0 0 0) a5 sR (by omega) (show r < 21 by omega) hb.1 hX hY hW
          show Sim t (bd (bv (f_X9_findGoal n (nI r) (nI b) (nI X) (nI Y) σ) _) _) (bv (f_X11_goals n (nI r) (nI b) (nI X) (nI Y) (stM τ 0 0 0)) _)
          rw [w1, w2, bv_mk, bv_mk, bd_mk, w6, w7, w8, w9]
          exact ⟨_, _, _, rfl, rfl, h.aux (fun z hz => w3 z (by omega) (by omega)) (fun z h1 h2 => by rw [w4 z h1 h2, stM_ne h1]) (fun j h1 h2 => by rw [w5 j h2, stM_far (Or.inr h1)])⟩
      · rw [bz_f e3, if_pos rfl, if_pos rfl]
        exact ⟨_, _, _, rfl, rfl, h.th 0⟩
    · rw [bz_f e2, if_pos rfl, if_pos rfl]
      exact ⟨_, _, _, rfl, rfl, h.th 0⟩
  · rw [bz_f e, if_pos rfl, bz_f (fun q => e ((actor_iff a5 x).mpr q)), if_pos rfl]
    exact ⟨_, _, _, rfl, rfl, h.th 0⟩
