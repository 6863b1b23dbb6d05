/-! ===== points and boxes; the goal ===== -/
def inB (τ : Mem) (r b : Nat) (x y : Int) : Bool := decide (sdM τ (16 * r + b) 0 ≤ x ∧ x ≤ sdM τ (16 * r + b) 2 ∧ sdM τ (16 * r + b) 1 ≤ y ∧ y ≤ sdM τ (16 * r + b) 3)
theorem inB_iff {τ : Mem} {r b : Nat} {x y : Int} : inB τ r b x y = true ↔ (sdM τ (16 * r + b) 0 ≤ x ∧ x ≤ sdM τ (16 * r + b) 2 ∧ sdM τ (16 * r + b) 1 ≤ y ∧ y ≤ sdM τ (16 * r + b) 3) := decide_eq_true_iff
theorem hasPoint_eq {σ τ : Mem} {S : Nat} (h : PlayR σ τ S) (n : Nat) {r b : Nat} (hr : r < 21) (hb : b < cnt τ r) (x y : Int32) : f_X1_hasPoint n (nI r) (nI b) x y σ = some (bz (inB τ r b x.toInt y.toInt = true), σ) := by
  obtain ⟨c16, -, -, -, hbx⟩ := (h.2.2.2.2.1 r hr).c
  obtain ⟨⟨s0, s1, s2, s3, -⟩, -⟩ := hbx b hb
  have hin : inb (nI (16 * r + b)) 336 := inb_nI (by omega) (by decide)
  have hcl : (nI (16 * r + b)).toNatClampNeg = 16 * r + b := nI_clamp (by omega)
  unfold f_X1_hasPoint b_X1_hasPoint_58 b_X1_hasPoint_59
  simp only [lt_eq, ixB, hcl, ck_t hin, s0, s1, s2, s3]
  by_cases h1 : x < τ 5 (4 * (16 * r + b))
  · have g1 := lt_T.mp h1
    rw [if_pos h1, ck_t okZ0, bz_f (by rw [inB_iff]; unfold sdM; rw [Nat.add_zero]; omega)]
  · have g1 : ¬ x.toInt < (τ 5 (4 * (16 * r + b))).toInt := fun q => h1 (lt_T.mpr q)
    rw [if_neg h1]
    by_cases h2 : τ 5 (4 * (16 * r + b) + 2) < x
    · have g2 := lt_T.mp h2
      rw [if_pos h2, ck_t okZ0, bz_f (by rw [inB_iff]; unfold sdM; omega)]
    · have g2 : ¬ (τ 5 (4 * (16 * r + b) + 2)).toInt < x.toInt := fun q => h2 (lt_T.mpr q)
      rw [if_neg h2]
      by_cases h3 : y < τ 5 (4 * (16 * r + b) + 1)
      · have g3 := lt_T.mp h3
        rw [if_pos h3, ck_t okZ0, bz_f (by rw [inB_iff]; unfold sdM; omega)]
      · have g3 : ¬ y.toInt < (τ 5 (4 * (16 * r + b) + 1)).toInt := fun q => h3 (lt_T.mpr q)
        rw [if_neg h3]
        by_cases h4 : τ 5 (4 * (16 * r + b) + 3) < y
        · have g4 := lt_T.mp h4
          rw [if_pos h4, ck_t okZ0, bz_f (by rw [inB_iff]; unfold sdM; omega)]
        · have g4 : ¬ (τ 5 (4 * (16 * r + b) + 3)).toInt < y.toInt := fun q => h4 (lt_T.mpr q)
          rw [if_neg h4, ck_t okZ1, bz_t (by rw [inB_iff]; unfold sdM; rw [Nat.add_zero]; omega)]
theorem hasM_eq {τ s : Mem} (e5 : s 5 = τ 5) (n : Nat) {r b : Nat} (hr : r < 21) (hb : b < 16) (x y : Int32) : f_X11_has n (nI r) (nI b) x y s = some (bz (inB τ r b x.toInt y.toInt = true), s) := by
  unfold f_X11_has b_X11_has_50 b_X11_has_51
  rw [side_eq n (x := 0) (i := 0) rfl hr hb (by omega), bd_mk, e5]
  by_cases h1 : x < τ 5 (4 * (16 * r + b) + 0)
  · have g1 := lt_T.mp h1
    rw [if_pos h1, ck_t okZ0, bz_f (by rw [inB_iff]; unfold sdM; omega)]
  · have g1 : ¬ x.toInt < (τ 5 (4 * (16 * r + b) + 0)).toInt := fun q => h1 (lt_T.mpr q)
    rw [if_neg h1, side_eq n (x := 2) (i := 2) rfl hr hb (by omega), bd_mk, e5]
    by_cases h2 : τ 5 (4 * (16 * r + b) + 2) < x
    · have g2 := lt_T.mp h2
      rw [if_pos h2, ck_t okZ0, bz_f (by rw [inB_iff]; unfold sdM; omega)]
    · have g2 : ¬ (τ 5 (4 * (16 * r + b) + 2)).toInt < x.toInt := fun q => h2 (lt_T.mpr q)
      rw [if_neg h2, side_eq n (x := 1) (i := 1) rfl hr hb (by omega), bd_mk, e5]
      by_cases h3 : y < τ 5 (4 * (16 * r + b) + 1)
      · have g3 := lt_T.mp h3
        rw [if_pos h3, ck_t okZ0, bz_f (by rw [inB_iff]; unfold sdM; omega)]
      · have g3 : ¬ y.toInt < (τ 5 (4 * (16 * r + b) + 1)).toInt := fun q => h3 (lt_T.mpr q)
        rw [if_neg h3, side_eq n (x := 3) (i := 3) rfl hr hb (by omega), bd_mk, e5]
        by_cases h4 : τ 5 (4 * (16 * r + b) + 3) < y
        · have g4 := lt_T.mp h4
          rw [if_pos h4, ck_t okZ0, bz_f (by rw [inB_iff]; unfold sdM; omega)]
        · have g4 : ¬ (τ 5 (4 * (16 * r + b) + 3)).toInt < y.toInt := fun q => h4 (lt_T.mpr q)
          rw [if_neg h4, ck_t okZ1, bz_t (by rw [inB_iff]; unfold sdM; omega)]
/-- the open box of a point -/
def boxN (σ τ : Mem) (r : Nat) (x y : Int) : Option Nat := ffd (fun i => oB σ r i = true ∧ inB τ r i x y = true) 0 (cnt τ r)
def boxI (o : Option Nat) : Int32 := match o with
  | some i => nI i
  | none => -1
theorem boxN_s {σ τ : Mem} {r i : Nat} {x y : Int} (h : boxN σ τ r x y = some i) : i < cnt τ r ∧ oB σ r i = true ∧ inB τ r i x y = true := by
  have := ffd_s _ _ _ h
  exact ⟨by omega, this.2.2.1, this.2.2.2⟩
theorem boxC_lp {σ τ : Mem} {S : Nat} (h : PlayR σ τ S) {q r : Nat} (hr : r < 21) (hq : σ q 0 = nI r) : ∀ (M k : Nat), k ≤ cnt τ r → 16 < k + M → itr3 (b_X9_boxOf_14) M q (nI (cnt τ r)) (nI k) σ = some (boxI (ffd (fun i => oB σ r i = true ∧ inB τ r i (σ q 1).toInt (σ q 2).toInt = true) k (cnt τ r - k)), σ) := by
  have c16 := (h.cs r hr).1
  intro M
  induction M with
  | zero => intro k h1 h2; omega
  | succ M ih =>
    intro k h1 h2
    show b_X9_boxOf_14 M (itr3 (b_X9_boxOf_14) M) q (nI (cnt τ r)) (nI k) σ = _
    generalize itr3 (b_X9_boxOf_14) M = g at ih ⊢
    unfold b_X9_boxOf_14 b_X9_boxOf_43 b_X9_boxOf_75
    by_cases hk : cnt τ r ≤ k
    · rw [if_pos (nI_le hk (by omega)), show cnt τ r - k = 0 by omega]
      rfl
    · rw [if_neg (nI_ge (a := k) (by omega) (by omega)), hq, ck_t (inb_nI hr (by decide)), nI_clamp (by omega)]
      rw [show cnt τ r - k = (cnt τ r - (k + 1)) + 1 by omega]
      unfold ffd
      show (if bitI (σ 39 r) k = 0 then _ else _) = _
      have e0 : bitI (σ 39 r) k = 0 ↔ oB σ r k = true := by
        rw [bit0 (by omega)]
        unfold oB
        cases tb (σ 39 r) k <;> decide
      have nx : lt (nI k + Int32.ofInt 1) (fun x1 => g q (nI (cnt τ r)) x1 σ) = some (boxI (ffd (fun i => oB σ r i = true ∧ inB τ r i (σ q 1).toInt (σ q 2).toInt = true) (k + 1) (cnt τ r - (k + 1))), σ) := by
        rw [lt_eq, show Int32.ofInt 1 = 1 from rfl, nI_1, ih (k + 1) (by omega) (by omega)]
      by_cases e : bitI (σ 39 r) k = 0
      · rw [if_pos e, if_pos rfl, hasPoint_eq h M hr (show k < cnt τ r by omega), bd_mk]
        by_cases p : inB τ r k (σ q 1).toInt (σ q 2).toInt = true
        · rw [bz_t p, if_neg (show ¬ (1 : Int32) = 0 by decide), if_pos ⟨e0.mp e, p⟩]
          rfl
        · rw [bz_f p, if_pos rfl, if_neg (fun w => p w.2), nx]
      · rw [if_neg e, if_neg (show ¬ (1 : Int32) = 0 by decide), if_neg (fun w => e (e0.mpr w.1)), nx]
theorem boxesIn_eq {σ τ : Mem} {S : Nat} (h : PlayR σ τ S) (n : Nat) {r : Nat} (hr : r < 21) : f_X1_boxesIn n (nI r) σ = some (nI (cnt τ r), σ) := by
  obtain ⟨c16, c0, h110, -, -⟩ := (h.2.2.2.2.1 r hr).c
  unfold f_X1_boxesIn b_X1_boxesIn_19 b_X1_boxesIn_20
  by_cases e : r = 0
  · subst e
    rw [if_pos (show nI 0 ≤ 0 by decide), c0 rfl]
    rfl
  · have e1 : ¬ nI r ≤ 0 := fun q => by
      have g : (nI r).toInt ≤ 0 := le_T.mp q
      rw [nI_toInt (by omega)] at g
      omega
    have e2 : ¬ (20 : Int32) < nI r := fun q => by
      have g : 20 < (nI r).toInt := lt_T.mp q
      rw [nI_toInt (by omega)] at g
      omega
    rw [if_neg e1, if_neg e2, ck_t (inb_nI hr (by decide)), nI_clamp (by omega), h110]
theorem boxOf_C {σ τ : Mem} {S : Nat} (h : PlayR σ τ S) {n q r : Nat} (hn : 20 ≤ n) (hr : r < 21) (hq : σ q 0 = nI r) : f_X9_boxOf n q σ = some (boxI (boxN σ τ r (σ q 1).toInt (σ q 2).toInt), σ) := by
  unfold f_X9_boxOf
  rw [hq, boxesIn_eq h n hr, bd_mk, show (0 : Int32) = nI 0 from rfl, boxC_lp h hr hq n 0 (by omega) (by omega)]
  rfl
theorem boxM_lp {σ τ s : Mem} {S : Nat} (h : PlayR σ τ S) (hS : StR σ 33 (τ 15)) (hW : WC τ s) {r : Nat} (hr : r < 21) (x y : Int32) : ∀ (M k : Nat), k ≤ cnt τ r → 16 < k + M → itr4 (b_X11_boxAt_3) M (nI r) x y (nI k) s = some (boxI (ffd (fun i => oB σ r i = true ∧ inB τ r i x.toInt y.toInt = true) k (cnt τ r - k)), s) := by
  obtain ⟨c16, -, -, h4, -⟩ := (h.2.2.2.2.1 r hr).c
  intro M
  induction M with
  | zero => intro k h1 h2; omega
  | succ M ih =>
    intro k h1 h2
    show b_X11_boxAt_3 M (itr4 (b_X11_boxAt_3) M) (nI r) x y (nI k) s = _
    generalize itr4 (b_X11_boxAt_3) M = g at ih ⊢
    unfold b_X11_boxAt_3 b_X11_boxAt_39
    rw [ck_t (inb_nI hr (by decide)), nI_clamp (by omega), hW.1, h4]
    by_cases hk : cnt τ r ≤ k
    · rw [if_pos (nI_le hk (by omega)), show cnt τ r - k = 0 by omega]
      rfl
    · rw [if_neg (nI_ge (a := k) (by omega) (by omega)), open_M M hr (by omega), bd_mk, hW.2.2]
      rw [show cnt τ r - k = (cnt τ r - (k + 1)) + 1 by omega]
      unfold ffd
      have e0 := open_tb hS hr (show k < 16 by omega)
      have nx : lt (nI k + Int32.ofInt 1) (fun x1 => g (nI r) x y x1 s) = some (boxI (ffd (fun i => oB σ r i = true ∧ inB τ r i x.toInt y.toInt = true) (k + 1) (cnt τ r - (k + 1))), s) := by
        rw [lt_eq, show Int32.ofInt 1 = 1 from rfl, nI_1, ih (k + 1) (by omega) (by omega)]
      by_cases e : τ 15 (445 + 16 * r + k) = 0
      · rw [bz_t e, if_neg (show ¬ (1 : Int32) = 0 by decide), hasM_eq hW.2.1 M hr (show k < 16 by omega), bd_mk]
        by_cases p : inB τ r k x.toInt y.toInt = true
        · rw [bz_t p, if_neg (show ¬ (1 : Int32) = 0 by decide), if_pos ⟨e0.mp e, p⟩]
          rfl
        · rw [bz_f p, if_pos rfl, if_neg (fun w => p w.2), nx]
      · rw [bz_f e, if_pos rfl, if_neg (fun w => e (e0.mpr w.1)), nx]
theorem boxAt_eq {σ τ s : Mem} {S n : Nat} (h : PlayR σ τ S) (hS : StR σ 33 (τ 15)) (hW : WC τ s) (hn : 20 ≤ n) {r : Nat} (hr : r < 21) (x y : Int32) : f_X11_boxAt n (nI r) x y s = some (boxI (boxN σ τ r x.toInt y.toInt), s) := by
  unfold f_X11_boxAt
  rw [show (0 : Int32) = nI 0 from rfl, boxM_lp h hS hW hr x y n 0 (by omega) (by omega)]
  rfl
theorem boxOf_M {σ τ s : Mem} {S n : Nat} (h : PlayR σ τ S) (hS : StR σ 33 (τ 15)) (hW : WC τ s) (hn : 20 ≤ n) {a r : Nat} (ha : a < 13) (hr : r < 21) (hq : σ (58 + a) 0 = nI r) : f_X11_boxOf n (nI a) s = some (boxI (boxN σ τ r (σ (58 + a) 1).toInt (σ (58 + a) 2).toInt), s) := by
  have g : ∀ j, j < 5 → τ 15 (232 + 7 * a + j) = σ (58 + a) j := fun j hj => hS.2.2.2.2.2.2.1 a ha j hj
  unfold f_X11_boxOf
  rw [aOf_eq n (x := 0) (j := 0) rfl ha (by omega), bd_mk, aOf_eq n (x := 1) (j := 1) rfl ha (by omega), bd_mk, aOf_eq n (x := 2) (j := 2) rfl ha (by omega), bd_mk, hW.2.2, g 0 (by omega), g 1 (by omega), g 2 (by omega), hq, boxAt_eq h hS hW hn hr, bd_mk]
/-- nearest to v within lo .. hi -/
def wi (v lo hi : Int32) : Int32 := if lo < (if v < hi then v else hi) then (if v < hi then v else hi) else lo
theorem wi_nat {V L H : Nat} (h1 : L ≤ H) (h2 : H ≤ 255) (h3 : V ≤ 255) : ∃ W, L ≤ W ∧ W ≤ H ∧ wi (nI V) (nI L) (nI H) = nI W := by
  unfold wi
  by_cases a : V < H
  · rw [if_pos (nI_lt a (by omega))]
    by_cases b : L < V
    · rw [if_pos (nI_lt b (by omega))]
      exact ⟨V, by omega, by omega, rfl⟩
    · rw [if_neg (nI_nlt (by omega) (by omega))]
      exact ⟨L, by omega, by omega, rfl⟩
  · rw [if_neg (nI_nlt (by omega) (by omega))]
    by_cases b : L < H
    · rw [if_pos (nI_lt b (by omega))]
      exact ⟨H, by omega, by omega, rfl⟩
    · rw [if_neg (nI_nlt (by omega) (by omega))]
      exact ⟨L, by omega, by omega, rfl⟩
theorem sq_nat {V W : Nat} (h1 : V ≤ 255) (h2 : W ≤ 255) : ∃ D, D ≤ 65025 ∧ (nI V - nI W) * (nI V - nI W) = nI D := by
  have e := pk_sub_toInt (a := V) (b := W) (by omega) (by omega)
  obtain ⟨D, hD, hD2⟩ : ∃ D : Nat, D ≤ 65025 ∧ ((V : Int) - W) * (V - W) = D := by
    by_cases q : W ≤ V
    · refine ⟨(V - W) * (V - W), ?_, ?_⟩
      · exact Nat.le_trans (Nat.mul_le_mul (show V - W ≤ 255 by omega) (show V - W ≤ 255 by omega)) (by decide)
      · rw [Int.natCast_mul, Int.natCast_sub q]
    · refine ⟨(W - V) * (W - V), ?_, ?_⟩
      · exact Nat.le_trans (Nat.mul_le_mul (show W - V ≤ 255 by omega) (show W - V ≤ 255 by omega)) (by decide)
      · rw [Int.natCast_mul, Int.natCast_sub (by omega), ← Int.neg_sub (W : Int) V, Int.neg_mul_neg]
  refine ⟨D, hD, ?_⟩
  apply Int32.toInt_inj.mp
  rw [Int32.toInt_mul, e, hD2, nI_toInt (by omega)]
  apply Int.bmod_eq_of_le
  · have : (0 : Int) ≤ D := Int.natCast_nonneg D
    omega
  · omega
theorem nearX_eq {σ τ : Mem} {S : Nat} (h : PlayR σ τ S) (n : Nat) {r b : Nat} (hr : r < 21) (hb : b < cnt τ r) (x : Int32) : f_X1_nearestX n (nI r) (nI b) x σ = some (wi x (τ 5 (4 * (16 * r + b) + 0)) (τ 5 (4 * (16 * r + b) + 2)), σ) := by
  obtain ⟨c16, -, -, -, hbx⟩ := (h.2.2.2.2.1 r hr).c
  obtain ⟨⟨s0, s1, s2, s3, -⟩, -⟩ := hbx b hb
  have hin : inb (nI (16 * r + b)) 336 := inb_nI (by omega) (by decide)
  have hcl : (nI (16 * r + b)).toNatClampNeg = 16 * r + b := nI_clamp (by omega)
  unfold f_X1_nearestX
  simp only [lt_eq, ixB, hcl, ck_t hin, s0, s2]
  rfl
theorem nearY_eq {σ τ : Mem} {S : Nat} (h : PlayR σ τ S) (n : Nat) {r b : Nat} (hr : r < 21) (hb : b < cnt τ r) (x : Int32) : f_X1_nearestY n (nI r) (nI b) x σ = some (wi x (τ 5 (4 * (16 * r + b) + 1)) (τ 5 (4 * (16 * r + b) + 3)), σ) := by
  obtain ⟨c16, -, -, -, hbx⟩ := (h.2.2.2.2.1 r hr).c
  obtain ⟨⟨s0, s1, s2, s3, -⟩, -⟩ := hbx b hb
  have hin : inb (nI (16 * r + b)) 336 := inb_nI (by omega) (by decide)
  have hcl : (nI (16 * r + b)).toNatClampNeg = 16 * r + b := nI_clamp (by omega)
  unfold f_X1_nearestY
  simp only [lt_eq, ixB, hcl, ck_t hin, s1, s3]
  rfl
theorem within_eq (n : Nat) (v lo hi : Int32) (s : Mem) : f_X11_within n v lo hi s = some (wi v lo hi, s) := rfl
/-- a point of a box -/
theorem near_pt {σ τ : Mem} {S : Nat} (h : PlayR σ τ S) {r b : Nat} (hr : r < 21) (hb : b < cnt τ r) {X Y : Nat} (hX : X ≤ 255) (hY : Y ≤ 255) : ∃ gx gy, gx ≤ 255 ∧ gy ≤ 255 ∧ wi (nI X) (τ 5 (4 * (16 * r + b) + 0)) (τ 5 (4 * (16 * r + b) + 2)) = nI gx ∧ wi (nI Y) (τ 5 (4 * (16 * r + b) + 1)) (τ 5 (4 * (16 * r + b) + 3)) = nI gy ∧ inB τ r b gx gy = true := by
  obtain ⟨c16, -, -, -, hbx⟩ := (h.2.2.2.2.1 r hr).c
  obtain ⟨⟨-, -, -, -, b1, b2, b3, b4, b5, b6⟩, -⟩ := hbx b hb
  unfold sdM at b1 b2 b3 b4 b5 b6
  have nat : ∀ z : Int32, 0 ≤ z.toInt → z = nI z.toInt.toNat := fun z q => nI_oT (by omega)
  obtain ⟨gx, x1, x2, x3⟩ := wi_nat (V := X) (L := (τ 5 (4 * (16 * r + b) + 0)).toInt.toNat) (H := (τ 5 (4 * (16 * r + b) + 2)).toInt.toNat) (by omega) (by omega) hX
  obtain ⟨gy, y1, y2, y3⟩ := wi_nat (V := Y) (L := (τ 5 (4 * (16 * r + b) + 1)).toInt.toNat) (H := (τ 5 (4 * (16 * r + b) + 3)).toInt.toNat) (by omega) (by omega) hY
  rw [← nat _ b1, ← nat _ (by omega)] at x3
  rw [← nat _ b4, ← nat _ (by omega)] at y3
  refine ⟨gx, gy, by omega, by omega, x3, y3, ?_⟩
  rw [inB_iff]
  unfold sdM
  omega
