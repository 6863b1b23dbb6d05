/-! ===== orders: what an order does to both ===== -/
def OC (i c p0 L S B p : Nat) (σ τ : Mem) : Prop := TI S B σ τ ∧ CX i c p0 L S σ τ ∧ p ≤ L ∧ σ (42 + 2 * i) 1 = nI p ∧ τ 0 36 = nI p
def OR (n i S B o : Nat) (σ τ : Mem) : Prop :=
  (f_X5_perform n (42 + 2 * i) (nI o) σ = some (2, σ) ∧ ∀ u : Mem, (∀ z, z ≠ 15 → u z = τ z) → f_X11_may n (nI o) u = some (0, u)) ∨
  ((∀ u : Mem, (∀ z, z ≠ 15 → u z = τ z) → f_X11_may n (nI o) u = some (1, u)) ∧ ∃ w σ' g τ', f_X5_perform n (42 + 2 * i) (nI o) σ = some (w, σ') ∧ f_X11_does n (nI o) τ = some (g, τ') ∧ FrC σ σ' ∧ FrM τ τ' ∧ TI S (B + 1) σ' τ' ∧ ((w = 0 ∧ g = 1 ∧ ∃ c p0 L, CX i c p0 L S σ' τ') ∨ (w = 1 ∧ g = 0)))
theorem OC.run {i c p0 L S B p : Nat} {σ τ : Mem} (h : OC i c p0 L S B p σ τ) : σ (42 + 2 * i) 0 ≠ 0 := by
  rw [h.2.1.2.2.1]
  exact nI_ne0 h.2.1.2.1.1 (by have := h.2.1.2.1.2; omega)
theorem CX.keep {i c p0 L S : Nat} {σ τ σ' τ' : Mem} (h : CX i c p0 L S σ τ) (h0 : σ' (42 + 2 * i) 0 = σ (42 + 2 * i) 0) (h8 : σ' 118 8 = σ 118 8) (h9 : σ' 118 9 = σ 118 9) (g : FrM τ τ') (g4 : τ' 0 34 = τ 0 34) : CX i c p0 L S σ' τ' := by
  obtain ⟨a1, a2, a3, a4, a5, a6, a7, a8, a9⟩ := h
  exact ⟨a1, a2, h0.trans a3, h8.trans a4, h9.trans a5, a6, by rw [g.1 6 (by decide) (by decide) (by decide) (by decide)]; exact a7, by rw [g.1 7 (by decide) (by decide) (by decide) (by decide)]; exact a8, g4.trans a9⟩
theorem gadr_lt {i w : Nat} (hi : i < 8) (hw : w < 68) : gadr i w < 781 := by
  unfold gadr
  by_cases e : w < 64
  · rw [if_pos e]; omega
  · rw [if_neg e]; omega
def stC (σ : Mem) (i w : Nat) (v : Int32) : Mem := if w < 64 then stM σ 34 w v else stM σ (43 + 2 * i) (w - 64) v
theorem store_eq (n : Nat) {i w : Nat} (hw : w < 68) (v : Int32) (σ : Mem) (h : σ 118 5 = nI w) : f_X5_store n (42 + 2 * i) v σ = some (0, stC σ i w v) := by
  unfold f_X5_store b_X5_store_38 stC
  rw [h]
  by_cases e : w < 64
  · rw [if_neg (show ¬ (64 : Int32) ≤ nI w from nI_ge (a := w) (b := 64) e (by omega)), ck_t (inb_nI e (by decide)), nI_clamp (by omega), lt_eq, if_pos e]
  · have e2 : nI w - (64 : Int32) = nI (w - 64) := by
      show nI w - nI 64 = _
      rw [pk_sub (by omega)]
    rw [if_pos (show (64 : Int32) ≤ nI w from nI_le (a := 64) (by omega) (by omega)), e2, ck_t (inb_nI (by omega) (by decide)), nI_clamp (by omega), lt_eq, if_neg e, show 42 + 2 * i + 1 = 43 + 2 * i by omega]
theorem fetch_eq (n : Nat) {i w S B : Nat} {σ τ : Mem} (h : TI S B σ τ) (hi : i < 8) (hw : w < 68) : f_X5_fetch n (42 + 2 * i) (nI w) σ = some (τ 15 (gadr i w), σ) := by
  unfold gadr
  by_cases e : w < 64
  · rw [fet1 n _ e, if_pos e, h.2.2.1.2.1 w e]
  · have := fet2 n (42 + 2 * i) (v := w - 64) (by omega) σ
    rw [show 64 + (w - 64) = w by omega] at this
    rw [this, if_neg e, h.l hi (by omega), show 42 + 2 * i + 1 = 43 + 2 * i by omega]
theorem SlotI.loc {σ : Mem} {q k : Nat} {v : Int32} (h : SlotI σ q) (h0 : σ q 0 ≠ 0) (hq : 30 < q) : SlotI (stM σ (q + 1) k v) q := by
  obtain ⟨f1, f2, f3, f4, f5, f6, f7⟩ := h
  unfold SlotI
  rw [stM_ne (show q ≠ q + 1 by omega), stM_ne (show 23 ≠ q + 1 by omega), stM_ne (show 29 ≠ q + 1 by omega)]
  exact ⟨f1, f2, fun e => absurd e h0, f4, f5, f6, f7⟩
theorem TI.store {S B i w : Nat} {σ τ : Mem} (h : TI S B σ τ) (hi : i < 8) (hw : w < 68) (h0 : σ (42 + 2 * i) 0 ≠ 0) (v : Int32) : FrC σ (stC σ i w v) ∧ FrM τ (stM τ 15 (gadr i w) v) ∧ TI S B (stC σ i w v) (stM τ 15 (gadr i w) v) := by
  unfold stC gadr
  by_cases e : w < 64
  · rw [if_pos e, if_pos e]
    have f : FrC σ (stM σ 34 w v) := fun z hz => stM_ne (by omega)
    have g : FrM τ (stM τ 15 (6 + w) v) := ⟨fun z _ b _ _ => stM_ne b, fun j _ => stM_far (Or.inl (by decide))⟩
    refine ⟨f, g, h.go f g ?_ ?_ ?_⟩
    · rw [stM_row]
      exact h.2.2.1.var h.2.2.2.1.2.1 v e
    · exact h.2.2.2.1.wr (fun q => absurd q (by decide)) (fun i h => by omega) (fun a h => by omega) (by decide) (by decide) (by decide)
    · rw [stM_ne (by decide)]; exact h.2.2.2.2
  · rw [if_neg e, if_neg e]
    refine h.sl hi (fun k a b c => stM_ne b) (fun z a b c d => stM_ne b) (fun j hj => stM_far (Or.inl (by decide))) (fun z _ hz => stM_far (Or.inr (by omega))) (fun j hj => ?_) (fun j hj => ?_) ?_
    · rw [stM_far (Or.inr (by omega)), stM_ne (by omega)]; exact h.s hi hj
    · by_cases ej : j = w - 64
      · subst ej; rw [stM_hit, stM_hit]
      · rw [stM_far (Or.inr (by omega)), stM_far (Or.inr ej)]; exact h.l hi hj
    · have := (h.slI hi).loc (k := w - 64) (v := v) h0 (by omega)
      rw [show 42 + 2 * i + 1 = 43 + 2 * i by omega] at this
      exact this
theorem stC_k {σ : Mem} {i w j : Nat} {v : Int32} : stC σ i w v (42 + 2 * i) j = σ (42 + 2 * i) j := by
  unfold stC
  by_cases e : w < 64
  · rw [if_pos e, stM_ne (by omega)]
  · rw [if_neg e, stM_ne (by omega)]
theorem stC_8 {σ : Mem} {i w : Nat} {v : Int32} (hi : i < 8) : stC σ i w v 118 = σ 118 := by
  unfold stC
  by_cases e : w < 64
  · rw [if_pos e, stM_ne (by omega)]
  · rw [if_neg e, stM_ne (by omega)]
/-- a target is written, after (σL, τL) -/
theorem asg {n i c p0 L S B p o : Nat} {σ τ σL τL : Mem} (h : OC i c p0 L S B p σ τ) (hG : tbT o ≠ 0 → ∃ w, w < 68 ∧ σ 118 5 = nI w ∧ τ 0 38 = nI (gadr i w)) (ho : tbT o ≠ 0) (v : Int32) (hm : ∀ u : Mem, (∀ z, z ≠ 15 → u z = τ z) → f_X11_may n (nI o) u = some (1, u)) (fL : FrC σ σL) (gL : FrM τ τL) (hL : TI S B σL τL) (hs : ∀ z, 40 ≤ z → σL z = σ z) (ht : τL 0 = τ 0) (hp : f_X5_perform n (42 + 2 * i) (nI o) σ = f_X5_store n (42 + 2 * i) v σL) (hd : f_X11_does n (nI o) τ = ck (inb (τ 0 38) 781) (some (1, stM τL 15 (τ 0 38).toNatClampNeg v))) : OR n i S B o σ τ := by
  obtain ⟨w, hw, e5, e38⟩ := hG ho
  have hi := h.2.1.1
  have gl := gadr_lt hi hw
  refine Or.inr ⟨hm, 0, stC σL i w v, 1, stM τL 15 (gadr i w) v, ?_, ?_, ?_⟩
  · rw [hp, store_eq n hw v σL (by rw [hs 118 (by omega)]; exact e5)]
  · rw [hd, e38, ck_t (inb_nI gl (by decide)), nI_clamp (by omega)]
  · have r0 : σL (42 + 2 * i) 0 ≠ 0 := by rw [hs _ (by omega)]; exact h.run
    obtain ⟨f, g, t⟩ := hL.store hi hw r0 v
    refine ⟨fL.tr f, gL.tr g, t.up (by omega), Or.inl ⟨rfl, rfl, c, p0, L, ?_⟩⟩
    refine h.2.1.keep (by rw [stC_k, hs _ (by omega)]) (by rw [stC_8 hi, hs _ (by omega)]) (by rw [stC_8 hi, hs _ (by omega)]) (gL.tr g) ?_
    rw [stM_ne (by decide), ht]
theorem asg0 {n i c p0 L S B p o : Nat} {σ τ : Mem} (h : OC i c p0 L S B p σ τ) (hG : RG i L o σ τ) (ho : tbT o ≠ 0) (v : Int32) (hm : ∀ u : Mem, (∀ z, z ≠ 15 → u z = τ z) → f_X11_may n (nI o) u = some (1, u)) (hp : f_X5_perform n (42 + 2 * i) (nI o) σ = f_X5_store n (42 + 2 * i) v σ) (hd : f_X11_answer n (nI o) τ = some (v, τ)) (hd2 : f_X11_does n (nI o) τ = bd (f_X11_answer n (nI o) τ) fun x4 s3 => ck (inb (τ 0 38) 781) (some (1, stM s3 15 (τ 0 38).toNatClampNeg x4))) : OR n i S B o σ τ :=
  asg h hG.2.1 ho v hm (FrC.rf σ) (FrM.rf τ) h.1 (fun _ _ => rfl) rfl hp (by rw [hd2, hd, bd_mk])
/-- the target's old value -/
theorem old_eq {n i c p0 L S B p o : Nat} {σ τ : Mem} (h : OC i c p0 L S B p σ τ) (hG : RG i L o σ τ) (ho : tbT o ≠ 0) : ∃ v, f_X5_fetch n (42 + 2 * i) (σ 118 5) σ = some (v, σ) ∧ inb (τ 0 38) 781 ∧ τ 15 (τ 0 38).toNatClampNeg = v := by
  obtain ⟨w, hw, e5, e38⟩ := hG.2.1 ho
  have hi := h.2.1.1
  have gl := gadr_lt hi hw
  exact ⟨_, by rw [e5]; exact fetch_eq n h.1 hi hw, by rw [e38]; exact inb_nI gl (by decide), by rw [e38, nI_clamp (by omega)]⟩
theorem or_3 {n i c p0 L S B p : Nat} {σ τ : Mem} (h : OC i c p0 L S B p σ τ) (hG : RG i L 3 σ τ) : OR n i S B 3 σ τ := by
  refine asg0 h hG (by decide) (σ 119 0) (fun u _ => ma_3 n u) ?_ ?_ (do_3 n τ)
  · rw [pf_3, as_3, bd_id]
  · rw [an_3, hG.1 0 (by decide)]
theorem or_4 {n i c p0 L S B p : Nat} {σ τ : Mem} (h : OC i c p0 L S B p σ τ) (hG : RG i L 4 σ τ) : OR n i S B 4 σ τ := by
  obtain ⟨v, e1, e2, e3⟩ := old_eq (n := n) h hG (by decide)
  refine asg0 h hG (by decide) (v + σ 119 0) (fun u _ => ma_4 n u) ?_ ?_ (do_4 n τ)
  · rw [pf_4, as_4, e1, bd_mk, bd_id]
  · rw [an_4, ck_t e2, e3, hG.1 0 (by decide)]
theorem or_5 {n i c p0 L S B p : Nat} {σ τ : Mem} (h : OC i c p0 L S B p σ τ) (hG : RG i L 5 σ τ) : OR n i S B 5 σ τ := by
  obtain ⟨v, e1, e2, e3⟩ := old_eq (n := n) h hG (by decide)
  refine asg0 h hG (by decide) (v - σ 119 0) (fun u _ => ma_5 n u) ?_ ?_ (do_5 n τ)
  · rw [pf_5, as_5, e1, bd_mk, bd_id]
  · rw [an_5, ck_t e2, e3, hG.1 0 (by decide)]
theorem or_6 {n i c p0 L S B p : Nat} {σ τ : Mem} (h : OC i c p0 L S B p σ τ) (hG : RG i L 6 σ τ) : OR n i S B 6 σ τ := by
  obtain ⟨v, e1, e2, e3⟩ := old_eq (n := n) h hG (by decide)
  refine asg0 h hG (by decide) (v * σ 119 0) (fun u _ => ma_6 n u) ?_ ?_ (do_6 n τ)
  · rw [pf_6, as_6, e1, bd_mk, bd_id]
  · rw [an_6, ck_t e2, e3, hG.1 0 (by decide)]
theorem or_7 {n i c p0 L S B p : Nat} {σ τ : Mem} (h : OC i c p0 L S B p σ τ) (hG : RG i L 7 σ τ) : OR n i S B 7 σ τ := by
  obtain ⟨v, e1, e2, e3⟩ := old_eq (n := n) h hG (by decide)
  have e0 := hG.1 0 (by decide)
  by_cases z : σ 119 0 = 0
  · left
    refine ⟨?_, fun u hu => ?_⟩
    · rw [pf_7, as_7, if_pos z]
    · rw [ma_7, hu 18 (by decide), ← e0, if_pos z]
  · refine asg0 h hG (by decide) (v / σ 119 0) (fun u hu => ?_) ?_ ?_ (do_7 n τ)
    · rw [ma_7, hu 18 (by decide), ← e0, if_neg z]
    · rw [pf_7, as_7, if_neg z, e1, bd_mk, ck_t z, bd_id]
    · rw [an_7, ck_t e2, e3, ← e0, ck_t z]
/-! of an actor -/
def isA (σ : Mem) (x : Int32) : Prop := 0 < x.toInt ∧ x.toInt < 13 ∧ σ 29 x.toNatClampNeg ≠ 0
theorem isA_n {σ : Mem} {x : Int32} (h : isA σ x) : ∃ a, 0 < a ∧ a < 13 ∧ x = nI a ∧ σ 29 a ≠ 0 := by
  obtain ⟨h1, h2, h3⟩ := h
  have e : x = nI x.toInt.toNat := nI_oT (by omega)
  refine ⟨x.toInt.toNat, by omega, by omega, e, ?_⟩
  have ec : x.toNatClampNeg = x.toInt.toNat := by
    have := congrArg Int32.toNatClampNeg e
    rw [nI_clamp (by omega)] at this
    exact this
  rw [← ec]
  exact h3
theorem hasA_t (n : Nat) {x : Int32} {s : Mem} (h : isA s x) : f_X2_has n 28 x s = some (1, s) := by unfold isA at h; rw [hasA, bz_t h]
theorem hasA_f (n : Nat) {x : Int32} {s : Mem} (h : ¬ isA s x) : f_X2_has n 28 x s = some (0, s) := by unfold isA at h; rw [hasA, bz_f h]
theorem isAM_t (n : Nat) {x : Int32} {σ τ u : Mem} {S : Nat} (hP : PlayR σ τ S) (e : u 12 = τ 12) (h : isA σ x) : f_X11_isActor n x u = some (1, u) := by rw [isActor_eq, e, bz_t ((actor_iff hP x).mp h)]
theorem isAM_f (n : Nat) {x : Int32} {σ τ u : Mem} {S : Nat} (hP : PlayR σ τ S) (e : u 12 = τ 12) (h : ¬ isA σ x) : f_X11_isActor n x u = some (0, u) := by rw [isActor_eq, e, bz_f (fun q => h ((actor_iff hP x).mpr q))]
theorem aa_no (n q : Nat) {l : Int32} {s : Mem} (h : ¬ isA s (s 119 0)) : f_X5_askActor n q l s = some (2, s) := by
  unfold f_X5_askActor
  rw [ck0_4, cl0, hasA_f n h, bd_mk, if_pos rfl]
theorem TI.a {S B a j : Nat} {σ τ : Mem} (h : TI S B σ τ) (ha : a < 13) (hj : j < 5) : τ 15 (232 + 7 * a + j) = σ (58 + a) j := by
  have := h.2.2.1.2.2.2.2.2.2.1 a ha j hj
  rw [show 33 + 25 + a = 58 + a by omega] at this
  exact this
theorem or_23 {n i c p0 L S B p : Nat} {σ τ : Mem} (h : OC i c p0 L S B p σ τ) (hG : RG i L 23 σ τ) : OR n i S B 23 σ τ := by
  have e0 := hG.1 0 (by decide)
  by_cases q : isA σ (σ 119 0)
  · obtain ⟨a, ha0, ha, ea, -⟩ := isA_n q
    refine asg0 h hG (by decide) (σ (58 + a) 1) (fun u hu => ?_) ?_ ?_ (do_23 n τ)
    · rw [ma_23, hu 18 (by decide), ← e0, isAM_t n h.1.1 (hu 12 (by decide)) q, bd_mk, ckz1]
    · rw [pf_23]
      unfold f_X5_askActor
      rw [ck0_4, cl0, hasA_t n q, bd_mk, if_neg (show ¬ (1 : Int32) = 0 by decide), ck0_4, ea, ck_t (inb_nI ha (by decide)), nI_clamp (by omega), lt_eq, if_pos (by decide), bd_id, show 41 + 17 + a = 58 + a by omega]
    · rw [an_23, ← e0, ea, aOf_eq n (x := 1) (j := 1) rfl ha (by omega), bd_mk, h.1.a ha (by omega)]
  · left
    refine ⟨by rw [pf_23, aa_no n _ q], fun u hu => ?_⟩
    rw [ma_23, hu 18 (by decide), ← e0, isAM_f n h.1.1 (hu 12 (by decide)) q, bd_mk, ckz0]
theorem or_24 {n i c p0 L S B p : Nat} {σ τ : Mem} (h : OC i c p0 L S B p σ τ) (hG : RG i L 24 σ τ) : OR n i S B 24 σ τ := by
  have e0 := hG.1 0 (by decide)
  by_cases q : isA σ (σ 119 0)
  · obtain ⟨a, ha0, ha, ea, -⟩ := isA_n q
    refine asg0 h hG (by decide) (σ (58 + a) 2) (fun u hu => ?_) ?_ ?_ (do_24 n τ)
    · rw [ma_24, hu 18 (by decide), ← e0, isAM_t n h.1.1 (hu 12 (by decide)) q, bd_mk, ckz1]
    · rw [pf_24]
      unfold f_X5_askActor
      rw [ck0_4, cl0, hasA_t n q, bd_mk, if_neg (show ¬ (1 : Int32) = 0 by decide), ck0_4, ea, ck_t (inb_nI ha (by decide)), nI_clamp (by omega), lt_eq, if_neg (by decide), if_pos (by decide), bd_id, show 41 + 17 + a = 58 + a by omega]
    · rw [an_24, ← e0, ea, aOf_eq n (x := 2) (j := 2) rfl ha (by omega), bd_mk, h.1.a ha (by omega)]
  · left
    refine ⟨by rw [pf_24, aa_no n _ q], fun u hu => ?_⟩
    rw [ma_24, hu 18 (by decide), ← e0, isAM_f n h.1.1 (hu 12 (by decide)) q, bd_mk, ckz0]
theorem or_25 {n i c p0 L S B p : Nat} {σ τ : Mem} (h : OC i c p0 L S B p σ τ) (hG : RG i L 25 σ τ) : OR n i S B 25 σ τ := by
  have e0 := hG.1 0 (by decide)
  by_cases q : isA σ (σ 119 0)
  · obtain ⟨a, ha0, ha, ea, -⟩ := isA_n q
    refine asg0 h hG (by decide) (σ (58 + a) 0) (fun u hu => ?_) ?_ ?_ (do_25 n τ)
    · rw [ma_25, hu 18 (by decide), ← e0, isAM_t n h.1.1 (hu 12 (by decide)) q, bd_mk, ckz1]
    · rw [pf_25]
      unfold f_X5_askActor
      rw [ck0_4, cl0, hasA_t n q, bd_mk, if_neg (show ¬ (1 : Int32) = 0 by decide), ck0_4, ea, ck_t (inb_nI ha (by decide)), nI_clamp (by omega), lt_eq, if_neg (by decide), if_neg (by decide), if_pos (by decide), bd_id, show 41 + 17 + a = 58 + a by omega]
    · rw [an_25, ← e0, ea, aOf_eq n (x := 0) (j := 0) rfl ha (by omega), bd_mk, h.1.a ha (by omega)]
  · left
    refine ⟨by rw [pf_25, aa_no n _ q], fun u hu => ?_⟩
    rw [ma_25, hu 18 (by decide), ← e0, isAM_f n h.1.1 (hu 12 (by decide)) q, bd_mk, ckz0]
