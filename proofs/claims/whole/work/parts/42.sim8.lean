/-! ===== object; boxes: box, neighbours ===== -/
theorem where_eq {σ τ : Mem} {S : Nat} (h : PlayR σ τ S) (hT : TapeR σ 17 S (τ 2)) (n : Nat) {q w : Nat} (h0 : 0 < q) (hq : q < 61) (hw : w < 3) (ho : σ 26 q ≠ 0) : f_X3_whereIs n 16 (nI q) (nI w) σ = some (τ 9 (3 * q + w), σ) := by
  rcases h.2.2.1 q hq with ⟨e1, -⟩ | ⟨p, v, h1, h2, e1, e2, e3, e4, e5, e6⟩
  · exact absurd e1 ho
  · have hS := hT.2.1
    have g : (nI q).toInt = (q : Int) := nI_toInt (by omega)
    unfold f_X3_whereIs b_X3_whereIs_35
    rw [hasO n, bd_mk, bz_t (by rw [g, nI_clamp (by omega)]; exact ⟨by omega, by omega, ho⟩), if_neg (by decide), ck_t (inb_nI hq (by decide)), nI_clamp (by omega)]
    show bd (f_X8_at n 17 (σ 26 q + (1 : Int32) + nI w) σ) _ = _
    rw [e1, nI_1, nI_add, at_eq n (r := 17) σ hT.1 hS (by omega), bd_mk, hT.2.2 _ (by omega), e4 w hw]
theorem verbs_eq {σ τ : Mem} {S : Nat} (h : PlayR σ τ S) (hS : S ≤ 6000) (n : Nat) {q : Nat} (h0 : 0 < q) (hq : q < 61) (ho : σ 26 q ≠ 0) : f_X3_verbsOf n 16 (nI q) σ = some (τ 11 q, σ) := by
  rcases h.2.2.1 q hq with ⟨e1, -⟩ | ⟨p, v, h1, h2, e1, e2, e3, e4, e5, e6⟩
  · exact absurd e1 ho
  · have g : (nI q).toInt = (q : Int) := nI_toInt (by omega)
    unfold f_X3_verbsOf
    rw [hasO n, bd_mk, bz_t (by rw [g, nI_clamp (by omega)]; exact ⟨by omega, by omega, ho⟩), if_neg (by decide), ck_t (inb_nI hq (by decide)), ck_t (inb_nI hq (by decide)), ck_t (by decide), nI_clamp (by omega)]
    show some ((σ 27 q - σ 26 q - (5 : Int32)) / (2 : Int32), σ) = _
    rw [e1, e2, pk_sub (by omega), show nI (p + 5 + 2 * v - p) - (5 : Int32) = nI (p + 5 + 2 * v - p - 5) from pk_sub (a := p + 5 + 2 * v - p) (b := 5) (by omega), show nI (p + 5 + 2 * v - p - 5) / (2 : Int32) = nI ((p + 5 + 2 * v - p - 5) / 2) from pk_div (a := p + 5 + 2 * v - p - 5) (d := 2) (by omega) (by omega) (by omega), e6, show (p + 5 + 2 * v - p - 5) / 2 = v by omega]
theorem sim_object {t : Nat} {σ τ : Mem} (h : Rel t σ τ) (n : Nat) (x w : Int32) : SimX t (f_X10_object n x w σ) (f_X11_object n x w τ) := by
  obtain ⟨sR, sI⟩ := h.st
  obtain ⟨T, S, -, ⟨a3, -⟩, a5, -⟩ := id h
  unfold f_X10_object f_X11_object b_X10_object_23 b_X11_object_25 b_X11_object_90
  rw [lt_eq, isObject_eq, bd_mk, hasO n, bd_mk, stM_ne (show (8 : Nat) ≠ 0 by decide)]
  by_cases e : 0 < x.toInt ∧ x.toInt < 61 ∧ σ 26 x.toNatClampNeg ≠ 0
  · rw [bz_t e, if_neg (show ¬ (1 : Int32) = 0 by decide), bz_t ((obj_iff a5 a3.2.1 x).mp e), if_neg (show ¬ (1 : Int32) = 0 by decide), in_eq n w, bd_mk, show (0 : Int64).toInt = 0 from rfl, show (5 : Int64).toInt = 5 from rfl]
    obtain ⟨q, h0, hq, rfl⟩ : ∃ q, 0 < q ∧ q < 61 ∧ x = nI q := ⟨x.toInt.toNat, by omega, by omega, nI_oT (by omega)⟩
    rw [nI_clamp (by omega)] at e
    rcases pk_ix w (n := 6) (by decide) with hw | hw | ⟨j, hj, rfl⟩
    · have g3 : w.toInt < 0 := lt_T.mp hw
      rw [if_pos hw, if_neg (show ¬ ((0 : Int) ≤ w.toInt ∧ w.toInt ≤ 5) by omega), if_pos rfl, refuse_eq, bd_mk]
      exact Or.inr ⟨_, _, _, rfl, rfl, stM_hit _ _ _ _, h.th2 0 1⟩
    · have g3 : 6 ≤ w.toInt := le_T.mp hw
      rw [if_neg (fun q => by have : w.toInt < 0 := lt_T.mp q; omega), if_neg (fun q => by have : w.toInt ≤ 5 := le_T.mp q; omega), if_neg (show ¬ ((0 : Int) ≤ w.toInt ∧ w.toInt ≤ 5) by omega), if_pos rfl, refuse_eq, bd_mk]
      exact Or.inr ⟨_, _, _, rfl, rfl, stM_hit _ _ _ _, h.th2 0 1⟩
    · have g3 : (nI j).toInt = (j : Int) := nI_toInt (by omega)
      have i3 : (3 : Int32) * nI q + nI j = nI (3 * q + j) := by
        show nI 3 * nI q + nI j = _
        rw [pk_mul, nI_add]
      have i4 : (323 : Int32) + nI q = nI (323 + q) := nI_add 323 q
      have i5 : (384 : Int32) + nI q = nI (384 + q) := nI_add 384 q
      rw [if_neg (nI_pos (by omega)), if_pos (show nI j ≤ (5 : Int32) from nI_le (a := j) (b := 5) (by omega) (by omega)), if_pos (show (0 : Int) ≤ (nI j).toInt ∧ (nI j).toInt ≤ 5 by omega), if_neg (show ¬ (1 : Int32) = 0 by decide)]
      by_cases hj3 : j < 3
      · rw [if_neg (show ¬ (nI j).toInt = 3 by omega), if_neg (show ¬ (nI j).toInt = 4 by omega), if_neg (show ¬ (nI j).toInt = 5 by omega), if_neg (show ¬ (3 : Int32) ≤ nI j from nI_ge (a := j) (b := 3) hj3 (by omega)), where_eq a5 a3 n h0 hq hj3 e.2.2, bd_mk]
        simp only [i3]
        rw [ck_t (inb_nI (by omega) (by decide)), nI_clamp (by omega), stM_ne (show (9 : Nat) ≠ 0 by decide)]
        exact Or.inl ⟨_, _, _, rfl, rfl, stM_hit _ _ _ _, h.th 0⟩
      · rw [if_pos (show (3 : Int32) ≤ nI j from nI_le (a := 3) (b := j) (by omega) (by omega))]
        simp only [i4, i5]
        rcases (show j = 3 ∨ j = 4 ∨ j = 5 by omega) with rfl | rfl | rfl
        · rw [if_pos (by decide), if_pos (by decide), ck_t (inb_nI hq (by decide)), ck_t (inb_nI (by omega) (by decide)), nI_clamp (by omega), nI_clamp (by omega), stM_ne (show (15 : Nat) ≠ 0 by decide), sR.2.2.2.2.2.2.2.2.1 q hq]
          exact Or.inl ⟨_, _, _, rfl, rfl, stM_hit _ _ _ _, h.th 0⟩
        · rw [if_neg (by decide), if_pos (by decide), if_neg (by decide), if_pos (by decide), ck_t (inb_nI hq (by decide)), ck_t (inb_nI (by omega) (by decide)), nI_clamp (by omega), nI_clamp (by omega), stM_ne (show (15 : Nat) ≠ 0 by decide), sR.2.2.2.2.2.2.2.2.2.1 q hq]
          exact Or.inl ⟨_, _, _, rfl, rfl, stM_hit _ _ _ _, h.th 0⟩
        · rw [if_neg (by decide), if_neg (by decide), if_pos (by decide), if_neg (by decide), if_neg (by decide), verbs_eq a5 a3.2.1 n h0 hq e.2.2, bd_mk, ck_t (inb_nI hq (by decide)), nI_clamp (by omega), stM_ne (show (11 : Nat) ≠ 0 by decide)]
          exact Or.inl ⟨_, _, _, rfl, rfl, stM_hit _ _ _ _, h.th 0⟩
  · rw [bz_f e, if_pos rfl, bz_f (fun q => e ((obj_iff a5 a3.2.1 x).mpr q)), if_pos rfl, refuse_eq, bd_mk]
    exact Or.inr ⟨_, _, _, rfl, rfl, stM_hit _ _ _ _, h.th2 0 1⟩
/-! boxes -/
/-- how many boxes a room has -/
def cnt (τ : Mem) (r : Nat) : Nat := (τ 4 r).toNatClampNeg
theorem RoomR.c {σ τ : Mem} {r : Nat} (h : RoomR σ τ r) : cnt τ r ≤ 16 ∧ (r = 0 → cnt τ r = 0) ∧ σ 110 r = nI (cnt τ r) ∧ τ 4 r = nI (cnt τ r) ∧ ∀ b, b < cnt τ r → BoxR σ τ (16 * r + b) ∧ 0 ≤ (σ 115 (16 * r + b)).toInt ∧ (σ 115 (16 * r + b)).toInt < 65536 ∧ ∀ d, d < 16 → (bitI (σ 115 (16 * r + b)) d = 0 ∨ bitI (σ 115 (16 * r + b)) d = 1) ∧ (bitI (σ 115 (16 * r + b)) d = 1 ↔ d < cnt τ r ∧ nearP τ (16 * r + b) (16 * r + d)) := by
  obtain ⟨c, h1, h2, h3, h4, h5⟩ := h
  have e : cnt τ r = c := by unfold cnt; rw [h4, nI_clamp (by omega)]
  rw [e]
  exact ⟨h1, h2, h3, h4, h5⟩
def isBx (τ : Mem) (x y : Int32) : Prop := 0 ≤ x.toInt ∧ x.toInt ≤ 20 ∧ 0 ≤ y.toInt ∧ y.toInt < (cnt τ x.toNatClampNeg : Int)
theorem hasBox_eq {σ τ : Mem} {S : Nat} (h : PlayR σ τ S) (n : Nat) (x y : Int32) [Decidable (isBx τ x y)] : f_X1_hasBox n x y σ = some (bz (isBx τ x y), σ) := by
  unfold f_X1_hasBox b_X1_hasBox_28 b_X1_hasBox_29
  by_cases e1 : x ≤ 0
  · have g : x.toInt ≤ 0 := le_T.mp e1
    rw [if_pos e1, ck_t okZ0, bz_f]
    rintro ⟨p, q, r, s⟩
    have e0 : x.toNatClampNeg = 0 := by show x.toInt.toNat = 0; omega
    rw [e0, (h.2.2.2.2.1 0 (by omega)).c.2.1 rfl] at s
    omega
  · have g : ¬ x.toInt ≤ 0 := fun q => e1 (le_T.mpr q)
    rw [if_neg e1]
    by_cases e2 : (20 : Int32) < x
    · have g2 : 20 < x.toInt := lt_T.mp e2
      rw [if_pos e2, ck_t okZ0, bz_f (fun q => by have := q.2.1; omega)]
    · have g2 : ¬ 20 < x.toInt := fun q => e2 (lt_T.mpr q)
      rw [if_neg e2]
      by_cases e3 : y < 0
      · have g3 : y.toInt < 0 := lt_T.mp e3
        rw [if_pos e3, ck_t okZ0, bz_f (fun q => by have := q.2.2.1; omega)]
      · have g3 : ¬ y.toInt < 0 := fun q => e3 (lt_T.mpr q)
        have hr : x.toNatClampNeg < 21 := by show x.toInt.toNat < 21; omega
        obtain ⟨c1, -, c3, -, -⟩ := (h.2.2.2.2.1 _ hr).c
        rw [if_neg e3, ck_t (show inb x 21 from ⟨by omega, by omega⟩), c3]
        by_cases e4 : nI (cnt τ x.toNatClampNeg) ≤ y
        · have g4 : (cnt τ x.toNatClampNeg : Int) ≤ y.toInt := by have := le_T.mp e4; rwa [nI_toInt (by omega)] at this
          rw [if_pos e4, ck_t okZ0, bz_f (fun q => by have := q.2.2.2; omega)]
        · have g4 : ¬ (cnt τ x.toNatClampNeg : Int) ≤ y.toInt := fun q => e4 (le_T.mpr (by rw [nI_toInt (by omega)]; exact q))
          rw [if_neg e4, ck_t okZ1, bz_t ⟨by omega, by omega, by omega, by omega⟩]
theorem isBox_eq {σ τ τ' : Mem} {S : Nat} (h : PlayR σ τ S) (n : Nat) (x y : Int32) (e : τ' 4 = τ 4) [Decidable (isBx τ x y)] : f_X11_isBox n x y τ' = some (bz (isBx τ x y), τ') := by
  unfold f_X11_isBox b_X11_isBox_34 b_X11_isBox_35
  by_cases e1 : 0 ≤ x.toInt ∧ x.toInt ≤ 20
  · have hr : x.toNatClampNeg < 21 := by show x.toInt.toNat < 21; omega
    obtain ⟨c1, -, -, c4, -⟩ := (h.2.2.2.2.1 _ hr).c
    have hhi : ((nI (cnt τ x.toNatClampNeg) - (1 : Int32)).toInt64).toInt = (cnt τ x.toNatClampNeg : Int) - 1 := by
      rw [Int32.toInt_toInt64]
      exact pk_sub_toInt (b := 1) (by omega) (by omega)
    rw [in_t n x 0 20 _ e1, bd_mk, if_neg (by decide), ck_t (show inb x 21 from ⟨by omega, by omega⟩), e, c4, in_eq n y, hhi, bd_mk, show (0 : Int64).toInt = 0 from rfl]
    by_cases e2 : 0 ≤ y.toInt ∧ y.toInt ≤ (cnt τ x.toNatClampNeg : Int) - 1
    · rw [if_pos e2, if_neg (by decide), ck_t okZ1, bz_t ⟨by omega, by omega, by omega, by omega⟩]
    · rw [if_neg e2, if_pos rfl, ck_t okZ0, bz_f (fun q => e2 ⟨q.2.2.1, by have := q.2.2.2; omega⟩)]
  · rw [in_f n x 0 20 _ e1, bd_mk, if_pos rfl, ck_t okZ0, bz_f (fun q => e1 ⟨q.1, q.2.1⟩)]
theorem isBx_nI {τ : Mem} {x y : Int32} (h : isBx τ x y) (hc : ∀ r, r < 21 → cnt τ r ≤ 16 ∧ (r = 0 → cnt τ r = 0)) : ∃ r b, 0 < r ∧ r < 21 ∧ b < cnt τ r ∧ b < 16 ∧ x = nI r ∧ y = nI b := by
  obtain ⟨p, q, r, s⟩ := h
  have hr : x.toNatClampNeg < 21 := by show x.toInt.toNat < 21; omega
  have := hc _ hr
  have e : x.toNatClampNeg = x.toInt.toNat := rfl
  refine ⟨x.toInt.toNat, y.toInt.toNat, ?_, by omega, by rw [e] at s; omega, by omega, nI_oT (by omega), nI_oT (by omega)⟩
  rcases Nat.eq_zero_or_pos x.toInt.toNat with z | z
  · rw [e] at this s
    have := this.2 z
    omega
  · exact z
theorem PlayR.cs {σ τ : Mem} {S : Nat} (h : PlayR σ τ S) : ∀ r, r < 21 → cnt τ r ≤ 16 ∧ (r = 0 → cnt τ r = 0) := fun r hr => ⟨(h.2.2.2.2.1 r hr).c.1, (h.2.2.2.2.1 r hr).c.2.1⟩
