/-! ===== orders that ask ===== -/
theorem or_26 {n i c p0 L S B p : Nat} {σ τ : Mem} (hn : 1000 ≤ n) (h : OC i c p0 L S B p σ τ) (hG : RG i L 26 σ τ) : OR n i S B 26 σ τ := by
  have e0 := hG.1 0 (by decide)
  by_cases q : isA σ (σ 119 0)
  · obtain ⟨a, ha0, ha, ea, -⟩ := isA_n q
    obtain ⟨⟨r, x, y, v, z0, zr, -⟩, -⟩ := act_r h.1.2.2.2.1 ha
    have bC := boxOf_C (n := n) h.1.1 (by omega) (show r < 21 by omega) z0
    have bM := boxOf_M (n := n) h.1.1 h.1.2.2.1 (⟨rfl, rfl, rfl⟩ : WC τ τ) (by omega) ha (show r < 21 by omega) z0
    refine asg0 h hG (by decide) (boxI (boxN σ τ r (σ (58 + a) 1).toInt (σ (58 + a) 2).toInt)) (fun u hu => ?_) ?_ ?_ (do_26 n τ)
    · rw [ma_26, hu 18 (by decide), ← e0, isAM_t n h.1.1 (hu 12 (by decide)) q, bd_mk, ckz1]
    · rw [pf_26]
      unfold f_X5_askActor
      rw [ck0_4, cl0, hasA_t n q, bd_mk, if_neg (show ¬ (1 : Int32) = 0 by decide), ck0_4, ea, ck_t (inb_nI ha (by decide)), nI_clamp (by omega), lt_eq, if_neg (by decide), if_neg (by decide), if_neg (by decide), if_pos (by decide), show 41 + 17 + a = 58 + a by omega, bC, bd_mk, bd_id]
    · rw [an_26, ← e0, ea, bM, bd_mk]
  · left
    refine ⟨by rw [pf_26, aa_no n _ q], fun u hu => ?_⟩
    rw [ma_26, hu 18 (by decide), ← e0, isAM_f n h.1.1 (hu 12 (by decide)) q, bd_mk, ckz0]
theorem or_27 {n i c p0 L S B p : Nat} {σ τ : Mem} (h : OC i c p0 L S B p σ τ) (hG : RG i L 27 σ τ) : OR n i S B 27 σ τ := by
  have e0 := hG.1 0 (by decide)
  by_cases q : isA σ (σ 119 0)
  · obtain ⟨a, ha0, ha, ea, -⟩ := isA_n q
    have ok4 : okZ (σ (58 + a) 4) := (act_r h.1.2.2.2.1 ha).2.1
    refine asg0 h hG (by decide) (σ (58 + a) 4) (fun u hu => ?_) ?_ ?_ (do_27 n τ)
    · rw [ma_27, hu 18 (by decide), ← e0, isAM_t n h.1.1 (hu 12 (by decide)) q, bd_mk, ckz1]
    · rw [pf_27]
      unfold f_X5_askActor b_X5_askActor_130
      rw [ck0_4, cl0, hasA_t n q, bd_mk, if_neg (show ¬ (1 : Int32) = 0 by decide), ck0_4, ea, ck_t (inb_nI ha (by decide)), nI_clamp (by omega), lt_eq, if_neg (by decide), if_neg (by decide), if_neg (by decide), if_neg (by decide), if_pos (by decide), show 41 + 17 + a = 58 + a by omega, bd_id, bd_id]
      rcases ok4 with e | e
      · rw [e, if_pos rfl]
      · rw [e, if_neg (show ¬ (1 : Int32) = 0 by decide)]
    · rw [an_27, ← e0, ea, aOf_eq n (x := 4) (j := 4) rfl ha (by omega), bd_mk, h.1.a ha (by omega)]
  · left
    refine ⟨by rw [pf_27, aa_no n _ q], fun u hu => ?_⟩
    rw [ma_27, hu 18 (by decide), ← e0, isAM_f n h.1.1 (hu 12 (by decide)) q, bd_mk, ckz0]
/-! of an object -/
def isB (σ : Mem) (x : Int32) : Prop := 0 < x.toInt ∧ x.toInt < 61 ∧ σ 26 x.toNatClampNeg ≠ 0
theorem isB_n {σ : Mem} {x : Int32} (h : isB σ x) : ∃ a, 0 < a ∧ a < 61 ∧ x = nI a ∧ σ 26 a ≠ 0 := by
  obtain ⟨h1, h2, h3⟩ := h
  have e : x = nI x.toInt.toNat := nI_oT (by omega)
  refine ⟨x.toInt.toNat, by omega, by omega, e, ?_⟩
  have ec : x.toNatClampNeg = x.toInt.toNat := by
    have := congrArg Int32.toNatClampNeg e
    rw [nI_clamp (by omega)] at this
    exact this
  rw [← ec]
  exact h3
theorem hasB_t (n : Nat) {x : Int32} {s : Mem} (h : isB s x) : f_X2_has n 25 x s = some (1, s) := by unfold isB at h; rw [hasO, bz_t h]
theorem hasB_f (n : Nat) {x : Int32} {s : Mem} (h : ¬ isB s x) : f_X2_has n 25 x s = some (0, s) := by unfold isB at h; rw [hasO, bz_f h]
theorem isBM_t (n : Nat) {x : Int32} {σ τ u : Mem} {S : Nat} (hP : PlayR σ τ S) (hS : S ≤ 6000) (e : u 8 = τ 8) (h : isB σ x) : f_X11_isObject n x u = some (1, u) := by rw [isObject_eq, e, bz_t ((obj_iff hP hS x).mp h)]
theorem isBM_f (n : Nat) {x : Int32} {σ τ u : Mem} {S : Nat} (hP : PlayR σ τ S) (hS : S ≤ 6000) (e : u 8 = τ 8) (h : ¬ isB σ x) : f_X11_isObject n x u = some (0, u) := by rw [isObject_eq, e, bz_f (fun q => h ((obj_iff hP hS x).mpr q))]
theorem ix323 (a : Nat) : (323 : Int32) + nI a = nI (323 + a) := nI_add 323 a
theorem ix384 (a : Nat) : (384 : Int32) + nI a = nI (384 + a) := nI_add 384 a
theorem or_28 {n i c p0 L S B p : Nat} {σ τ : Mem} (h : OC i c p0 L S B p σ τ) (hG : RG i L 28 σ τ) : OR n i S B 28 σ τ := by
  have e0 := hG.1 0 (by decide)
  have hS := h.1.2.1.2.1
  by_cases q : isB σ (σ 119 0)
  · obtain ⟨a, ha0, ha, ea, -⟩ := isB_n q
    refine asg0 h hG (by decide) (σ 37 a) (fun u hu => ?_) ?_ ?_ (do_28 n τ)
    · rw [ma_28, hu 18 (by decide), ← e0, isBM_t n h.1.1 hS (hu 8 (by decide)) q, bd_mk, ckz1]
    · rw [pf_28, as_28, hasB_t n q, bd_mk, if_neg (show ¬ (1 : Int32) = 0 by decide), ea, ck_t (inb_nI ha (by decide)), nI_clamp (by omega), bd_id]
    · rw [an_28, ← e0, ea, ix323, ck_t (inb_nI (by omega) (by decide)), nI_clamp (by omega)]
      have := h.1.2.2.1.2.2.2.2.2.2.2.2.1 a ha
      rw [this]
  · left
    refine ⟨by rw [pf_28, as_28, hasB_f n q, bd_mk, if_pos rfl], fun u hu => ?_⟩
    rw [ma_28, hu 18 (by decide), ← e0, isBM_f n h.1.1 hS (hu 8 (by decide)) q, bd_mk, ckz0]
theorem or_29 {n i c p0 L S B p : Nat} {σ τ : Mem} (h : OC i c p0 L S B p σ τ) (hG : RG i L 29 σ τ) : OR n i S B 29 σ τ := by
  have e0 := hG.1 0 (by decide)
  have hS := h.1.2.1.2.1
  by_cases q : isB σ (σ 119 0)
  · obtain ⟨a, ha0, ha, ea, -⟩ := isB_n q
    refine asg0 h hG (by decide) (σ 38 a) (fun u hu => ?_) ?_ ?_ (do_29 n τ)
    · rw [ma_29, hu 18 (by decide), ← e0, isBM_t n h.1.1 hS (hu 8 (by decide)) q, bd_mk, ckz1]
    · rw [pf_29, as_29, hasB_t n q, bd_mk, if_neg (show ¬ (1 : Int32) = 0 by decide), ea, ck_t (inb_nI ha (by decide)), nI_clamp (by omega), bd_id]
    · rw [an_29, ← e0, ea, ix384, ck_t (inb_nI (by omega) (by decide)), nI_clamp (by omega)]
      have := h.1.2.2.1.2.2.2.2.2.2.2.2.2.1 a ha
      rw [this]
  · left
    refine ⟨by rw [pf_29, as_29, hasB_f n q, bd_mk, if_pos rfl], fun u hu => ?_⟩
    rw [ma_29, hu 18 (by decide), ← e0, isBM_f n h.1.1 hS (hu 8 (by decide)) q, bd_mk, ckz0]
/-! how many slots -/
theorem slw_lp (x : Int32) : ∀ (m k c : Nat) (s : Mem), k ≤ 8 → 8 < k + m → itr4 (b_X7_slotsWith_4) m 33 x (nI c) (nI k) s = some (nI (c + cntP (fun i => s (42 + 2 * i) 0 ≠ 0 ∧ s (42 + 2 * i) 0 = x) k (8 - k)), s) := by
  intro m
  induction m with
  | zero => intro k c s h1 h2; omega
  | succ m ih =>
    intro k c s h1 h2
    show b_X7_slotsWith_4 m (itr4 b_X7_slotsWith_4 m) 33 x (nI c) (nI k) s = _
    by_cases e : k = 8
    · subst e
      generalize itr4 b_X7_slotsWith_4 m = g
      unfold b_X7_slotsWith_4
      rw [if_pos (show (8 : Int32) ≤ nI 8 by decide)]
      rfl
    · have ih1 := fun c' => ih (k + 1) c' s (by omega) (by omega)
      generalize itr4 b_X7_slotsWith_4 m = g at ih1 ⊢
      unfold b_X7_slotsWith_4 b_X7_slotsWith_38
      have c8 : 8 - k = (8 - (k + 1)) + 1 := by omega
      rw [if_neg (show ¬ (8 : Int32) ≤ nI k from nI_ge (a := k) (b := 8) (by omega) (by omega)), ck_t (inb_nI (by omega) (by decide)), nI_clamp (by omega), lt_eq, show 33 + 7 + 2 + 2 * k = 42 + 2 * k by omega, runs_eq, bd_mk, c8]
      simp only [cntP, lt_eq, ck_t (inb_nI (show k < 8 by omega) (show 8 < 2 ^ 31 by decide)), show nI k + Int32.ofInt 1 = nI (k + 1) from nI_1 k, show nI c + Int32.ofInt 1 = nI (c + 1) from nI_1 c]
      by_cases r : s (42 + 2 * k) 0 ≠ 0
      · rw [bz_t r, if_neg (show ¬ (1 : Int32) = 0 by decide)]
        by_cases y : s (42 + 2 * k) 0 = x
        · rw [if_pos y, ih1 (c + 1), if_pos ⟨r, y⟩]
          congr 3
          omega
        · rw [if_neg y, ih1 c, if_neg (fun q => y q.2)]
          congr 3
          omega
      · rw [bz_f r, if_pos rfl, ih1 c, if_neg (fun q => r q.1)]
        congr 3
        omega
theorem run_lp (x : Int32) : ∀ (m k c : Nat) (s : Mem), k ≤ 8 → 8 < k + m → itr3 (b_X11_running_4) m x (nI c) (nI k) s = some (nI (c + cntP (fun i => s 15 (70 + 10 * i) ≠ 0 ∧ s 15 (70 + 10 * i) = x) k (8 - k)), s) := by
  intro m
  induction m with
  | zero => intro k c s h1 h2; omega
  | succ m ih =>
    intro k c s h1 h2
    show b_X11_running_4 m (itr3 b_X11_running_4 m) x (nI c) (nI k) s = _
    by_cases e : k = 8
    · subst e
      generalize itr3 b_X11_running_4 m = g
      unfold b_X11_running_4
      rw [if_pos (show (8 : Int32) ≤ nI 8 by decide)]
      rfl
    · have ih1 := fun c' => ih (k + 1) c' s (by omega) (by omega)
      generalize itr3 b_X11_running_4 m = g at ih1 ⊢
      unfold b_X11_running_4 b_X11_running_29 b_X11_running_30
      have c8 : 8 - k = (8 - (k + 1)) + 1 := by omega
      rw [if_neg (show ¬ (8 : Int32) ≤ nI k from nI_ge (a := k) (b := 8) (by omega) (by omega)), of0 m (by omega), bd_mk, c8]
      simp only [cntP, lt_eq, show nI k + Int32.ofInt 1 = nI (k + 1) from nI_1 k, show nI c + (1 : Int32) = nI (c + 1) from nI_1 c, show nI c + (0 : Int32) = nI c from nI_add c 0]
      by_cases x0 : x = 0
      · rw [if_pos x0, ih1 c, if_neg (fun q => q.1 (by rw [q.2, x0]))]
        congr 3
        omega
      · rw [if_neg x0]
        by_cases y : s 15 (70 + 10 * k) = x
        · rw [if_pos y, ih1 (c + 1), if_pos ⟨by rw [y]; exact x0, y⟩]
          congr 3
          omega
        · rw [if_neg y, ih1 c, if_neg (fun q => y q.2)]
          congr 3
          omega
theorem or_30 {n i c p0 L S B p : Nat} {σ τ : Mem} (hn : 1000 ≤ n) (h : OC i c p0 L S B p σ τ) (hG : RG i L 30 σ τ) : OR n i S B 30 σ τ := by
  have e0 := hG.1 0 (by decide)
  refine asg0 h hG (by decide) (nI (0 + cntP (fun i => σ (42 + 2 * i) 0 ≠ 0 ∧ σ (42 + 2 * i) 0 = σ 119 0) 0 (8 - 0))) (fun u hu => ?_) ?_ ?_ (do_30 n τ)
  · rw [ma_30]
  · rw [pf_30, as_30]
    show bd (itr4 b_X7_slotsWith_4 n 33 (σ 119 0) (nI 0) (nI 0) σ) _ = _
    rw [slw_lp _ n 0 0 σ (by omega) (by omega), bd_mk, bd_id]
  · rw [an_30, bd_id, ← e0]
    show itr3 b_X11_running_4 n (σ 119 0) (nI 0) (nI 0) τ = _
    rw [run_lp _ n 0 0 τ (by omega) (by omega)]
    rw [cntP_c (P := fun i => τ 15 (70 + 10 * i) ≠ 0 ∧ τ 15 (70 + 10 * i) = σ 119 0) (Q := fun i => σ (42 + 2 * i) 0 ≠ 0 ∧ σ (42 + 2 * i) 0 = σ 119 0) 8 0 (fun k _ hk => by
      have := h.1.s (i := k) (j := 0) (by omega) (by decide)
      rw [Nat.add_zero] at this
      rw [this])]
/-! how far -/
theorem abs_sym (x y : Nat) (hx : x ≤ 255) (hy : y ≤ 255) : (if 0 ≤ nI x - nI y then nI x - nI y else 0 - (nI x - nI y)) = (if 0 ≤ nI y - nI x then nI y - nI x else 0 - (nI y - nI x)) := by
  have key : ∀ a b : Nat, a ≤ b → b ≤ 255 → (if 0 ≤ nI b - nI a then nI b - nI a else 0 - (nI b - nI a)) = nI (b - a) ∧ (if 0 ≤ nI a - nI b then nI a - nI b else 0 - (nI a - nI b)) = nI (b - a) := by
    intro a b hab hb
    have e1 : nI b - nI a = nI (b - a) := pk_sub hab
    have e2 : nI a - nI b = - nI (b - a) := by rw [← Int32.neg_sub, e1]
    rw [e1, e2, if_pos (nI_pos' (by omega))]
    refine ⟨rfl, ?_⟩
    by_cases z : b - a = 0
    · rw [z]; decide
    · have t : (- nI (b - a)).toInt = - ((b - a : Nat) : Int) := by
        rw [Int32.toInt_neg, nI_toInt (by omega)]
        exact Int.bmod_eq_of_le (by omega) (by omega)
      rw [if_neg (fun q => by have := le_T.mp q; rw [t] at this; have z0 : (0 : Int32).toInt = 0 := rfl; omega)]
      rw [Int32.zero_sub, Int32.neg_neg]
  rcases Nat.le_total x y with q | q
  · rw [(key x y q hy).1, (key x y q hy).2]
  · rw [(key y x q hx).1, (key y x q hx).2]
theorem or_32 {n i c p0 L S B p : Nat} {σ τ : Mem} (h : OC i c p0 L S B p σ τ) (hG : RG i L 32 σ τ) : OR n i S B 32 σ τ := by
  have e0 := hG.1 0 (by decide)
  have e1 : τ 15 1 = σ 33 1 := h.1.2.2.1.1 1 (by decide)
  have f : ∀ v, FrC σ (stM σ 33 1 v) := fun v z hz => stM_ne (by omega)
  have g : ∀ v, FrM τ (stM τ 15 1 v) := fun v => ⟨fun z _ b _ _ => stM_ne b, fun j _ => stM_far (Or.inl (by decide))⟩
  have t : ∀ v, TI S B (stM σ 33 1 v) (stM τ 15 1 v) := fun v => by
    refine h.1.go (f v) (g v) ?_ ?_ ?_
    · rw [stM_row]; exact h.1.2.2.1.sc1 h.1.2.2.2.1.2.1 v
    · exact h.1.2.2.2.1.wr (fun q => by decide) (fun i h => by omega) (fun a h => by omega) (by decide) (by decide) (by decide)
    · rw [stM_far (Or.inr (by decide))]; exact h.1.2.2.2.2
  have dL : f_X7_drawLuck n 33 (σ 119 0) σ = some (if σ 119 0 ≤ 0 then 0 else ((σ 33 1 * 1103515245 + 12345) &&& 2147483647) - ((σ 33 1 * 1103515245 + 12345) &&& 2147483647) / σ 119 0 * σ 119 0, stM σ 33 1 (σ 33 1 * 1103515245 + 12345)) := by
    unfold f_X7_drawLuck b_X7_drawLuck_32
    rw [lt_eq]
    by_cases z : σ 119 0 ≤ 0
    · rw [if_pos z, if_pos z]
    · rw [if_neg z, if_neg z, ck_t (show ¬ σ 119 0 = 0 from fun q => z (by rw [q]; decide)), stM_hit]
  have dM : f_X11_answer n (nI 32) τ = some (if σ 119 0 ≤ 0 then 0 else ((σ 33 1 * 1103515245 + 12345) &&& 2147483647) - ((σ 33 1 * 1103515245 + 12345) &&& 2147483647) / σ 119 0 * σ 119 0, stM τ 15 1 (σ 33 1 * 1103515245 + 12345)) := by
    rw [an_32, lt_eq, stM_ne (show (18 : Nat) ≠ 15 by decide), ← e0, e1, stM_hit]
    by_cases z : σ 119 0 ≤ 0
    · rw [if_pos z, if_pos z]
    · rw [if_neg z, if_neg z, ck_t (show ¬ σ 119 0 = 0 from fun q => z (by rw [q]; decide))]
  refine asg h hG.2.1 (by decide) (if σ 119 0 ≤ 0 then 0 else ((σ 33 1 * 1103515245 + 12345) &&& 2147483647) - ((σ 33 1 * 1103515245 + 12345) &&& 2147483647) / σ 119 0 * σ 119 0) (fun u _ => ma_32 n u) (f _) (g _) (t (σ 33 1 * 1103515245 + 12345)) (fun z hz => stM_ne (by omega)) (stM_ne (by decide)) ?_ ?_
  · rw [pf_32, as_32, dL, bd_mk, bd_id]
  · rw [do_32, dM, bd_mk]
theorem ix3 (a k : Nat) : (3 : Int32) * nI a + nI k = nI (3 * a + k) := by
  show nI 3 * nI a + nI k = _
  rw [pk_mul, nI_add]
theorem or_31 {n i c p0 L S B p : Nat} {σ τ : Mem} (h : OC i c p0 L S B p σ τ) (hG : RG i L 31 σ τ) : OR n i S B 31 σ τ := by
  have e0 := hG.1 0 (by decide)
  have e1 := hG.1 1 (by decide)
  have hS := h.1.2.1.2.1
  by_cases q : isA σ (σ 119 0)
  · by_cases q2 : isB σ (σ 119 1)
    · obtain ⟨a, ha0, ha, ea, -⟩ := isA_n q
      obtain ⟨b, hb0, hb, eb, hb2⟩ := isB_n q2
      obtain ⟨⟨r, x, y, v, z0, zr, z1, zx, z2, zy, -⟩, -⟩ := act_r h.1.2.2.2.1 ha
      have W := fun (w : Nat) (hw : w < 3) => where_eq h.1.1 h.1.2.1 n hb0 hb hw hb2
      have B9 : ∀ w, w < 3 → ∃ u, u < 256 ∧ τ 9 (3 * b + w) = nI u := fun w hw => by
        rcases h.1.1.2.2.1 b hb with ⟨o1, -⟩ | ⟨p1, v1, -, o3, o4, -, -, o7, -⟩
        · exact absurd o1 hb2
        · rw [o7 w hw, ← h.1.2.1.2.2 (p1 + 1 + w) (by omega)]
          exact bcl_nat _ _
      obtain ⟨u1, hu1, w1⟩ := B9 1 (by decide)
      obtain ⟨u2, hu2, w2⟩ := B9 2 (by decide)
      have W0 := W 0 (by decide)
      have W1 := W 1 (by decide)
      have W2 := W 2 (by decide)
      rw [Nat.add_zero] at W0
      have A : ∀ V, (f_X5_perform n (42 + 2 * i) (nI 31) σ = f_X5_store n (42 + 2 * i) V σ) → (f_X11_answer n (nI 31) τ = some (V, τ)) → OR n i S B 31 σ τ := fun V hV hW => asg0 h hG (by decide) V (fun u hu => by
        rw [ma_31, hu 18 (by decide), ← e0, isAM_t n h.1.1 (hu 12 (by decide)) q, bd_mk, if_neg (show ¬ (1 : Int32) = 0 by decide), hu 18 (by decide), ← e1, isBM_t n h.1.1 hS (hu 8 (by decide)) q2, bd_mk, if_neg (show ¬ (1 : Int32) = 0 by decide)]) hV hW (do_31 n τ)
      by_cases er : τ 9 (3 * b) = σ (58 + a) 0
      · refine A ((if 0 ≤ nI u1 - nI x then nI u1 - nI x else 0 - (nI u1 - nI x)) + (if 0 ≤ nI u2 - nI y then nI u2 - nI y else 0 - (nI u2 - nI y))) ?_ ?_
        · rw [pf_31, bd_id]
          unfold f_X5_askDistance
          rw [ck1_4, ck0_4, cl0, cl1, hasA_t n q, bd_mk, if_neg (show ¬ (1 : Int32) = 0 by decide), hasB_t n q2, bd_mk, if_neg (show ¬ (1 : Int32) = 0 by decide), ck0_4, ea, ck_t (inb_nI ha (by decide)), nI_clamp (by omega), lt_eq, eb, show (0 : Int32) = nI 0 from rfl, W0, bd_mk, show 41 + 17 + a = 58 + a by omega, if_pos er, show (1 : Int32) = nI 1 from rfl, W1, bd_mk, lt_eq, show (2 : Int32) = nI 2 from rfl, W2, bd_mk, lt_eq, bd_id, w1, w2, z1, z2]
        · rw [an_31, ← e0, ea, aOf_eq n (x := 0) (j := 0) rfl ha (by omega), bd_mk, ← e1, eb, show (3 : Int32) * nI b = nI (3 * b) from pk_mul 3 b, ck_t (inb_nI (by omega) (by decide)), nI_clamp (by omega), Nat.add_zero, show τ 15 (232 + 7 * a) = σ (58 + a) 0 from h.1.a (j := 0) ha (by omega), if_pos er.symm, ← e0, ea, aOf_eq n (x := 1) (j := 1) rfl ha (by omega), bd_mk, ← e1, ← e0, eb, ea, show (3 : Int32) * nI b = nI (3 * b) from pk_mul 3 b, show nI (3 * b) + (1 : Int32) = nI (3 * b + 1) from nI_1 _, ck_t (inb_nI (by omega) (by decide)), aOf_eq n (x := 2) (j := 2) rfl ha (by omega), bd_mk, ← e1, eb, show (3 : Int32) * nI b = nI (3 * b) from pk_mul 3 b, show nI (3 * b) + (2 : Int32) = nI (3 * b + 2) from nI_add _ 2, ck_t (inb_nI (by omega) (by decide)), nI_clamp (by omega), nI_clamp (by omega), h.1.a (j := 1) ha (by omega), h.1.a (j := 2) ha (by omega), w1, w2, z1, z2, abs_sym x u1 zx (by omega), abs_sym y u2 zy (by omega)]
      · refine A 999 ?_ ?_
        · rw [pf_31, bd_id]
          unfold f_X5_askDistance
          rw [ck1_4, ck0_4, cl0, cl1, hasA_t n q, bd_mk, if_neg (show ¬ (1 : Int32) = 0 by decide), hasB_t n q2, bd_mk, if_neg (show ¬ (1 : Int32) = 0 by decide), ck0_4, ea, ck_t (inb_nI ha (by decide)), nI_clamp (by omega), lt_eq, eb, show (0 : Int32) = nI 0 from rfl, W0, bd_mk, show 41 + 17 + a = 58 + a by omega, if_neg er, bd_id]
        · rw [an_31, ← e0, ea, aOf_eq n (x := 0) (j := 0) rfl ha (by omega), bd_mk, ← e1, eb, show (3 : Int32) * nI b = nI (3 * b) from pk_mul 3 b, ck_t (inb_nI (by omega) (by decide)), nI_clamp (by omega), Nat.add_zero, show τ 15 (232 + 7 * a) = σ (58 + a) 0 from h.1.a (j := 0) ha (by omega), if_neg (fun w => er w.symm)]
    · left
      refine ⟨?_, fun u hu => ?_⟩
      · rw [pf_31, bd_id]
        unfold f_X5_askDistance b_X5_askDistance_40
        rw [ck1_4, ck0_4, cl0, cl1, hasA_t n q, bd_mk, if_neg (show ¬ (1 : Int32) = 0 by decide), hasB_f n q2, bd_mk, if_pos rfl]
      · rw [ma_31, hu 18 (by decide), ← e0, isAM_t n h.1.1 (hu 12 (by decide)) q, bd_mk, if_neg (show ¬ (1 : Int32) = 0 by decide), hu 18 (by decide), ← e1, isBM_f n h.1.1 hS (hu 8 (by decide)) q2, bd_mk, if_pos rfl]
  · left
    refine ⟨?_, fun u hu => ?_⟩
    · rw [pf_31, bd_id]
      unfold f_X5_askDistance b_X5_askDistance_40
      rw [ck1_4, ck0_4, cl0, cl1, hasA_f n q, bd_mk, if_pos rfl]
    · rw [ma_31, hu 18 (by decide), ← e0, isAM_f n h.1.1 (hu 12 (by decide)) q, bd_mk, if_pos rfl]
