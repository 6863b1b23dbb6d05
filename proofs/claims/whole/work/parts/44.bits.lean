/-! ===== a byte is set in a word ===== -/
theorem byte_set (w v : BitVec 32) (hv : v.toNat < 256) {a b : Nat} (ha : a = 0 ∨ a = 8 ∨ a = 16 ∨ a = 24) (hb : b = 0 ∨ b = 8 ∨ b = 16 ∨ b = 24) : ((((w &&& ~~~((255#32) <<< a)) ||| (v <<< a)) >>> b) &&& 255#32) = if b = a then v else ((w >>> b) &&& 255#32) := by
  have h255 : ∀ i, i < 32 → (255#32).getLsbD i = decide (i < 8) := by decide
  have hvb : ∀ i, 8 ≤ i → v.getLsbD i = false := fun i hi => by
    unfold BitVec.getLsbD
    exact Nat.testBit_lt_two_pow (Nat.lt_of_lt_of_le hv (Nat.le_trans (show 256 ≤ 2 ^ 8 by decide) (Nat.pow_le_pow_right (by decide) hi)))
  by_cases e : b = a
  · subst e
    rw [if_pos rfl]
    apply BitVec.eq_of_getLsbD_eq
    intro i hi
    simp only [BitVec.getLsbD_and, BitVec.getLsbD_ushiftRight, BitVec.getLsbD_or, BitVec.getLsbD_not, BitVec.getLsbD_shiftLeft]
    rw [h255 i hi]
    by_cases h8 : i < 8
    · have h1 : b + i < 32 := by omega
      have h2 : b + i - b = i := by omega
      rw [h2, h255 i hi]
      simp [h8, h1, show ¬ b + i < b by omega]
    · simp [h8, hvb i (by omega)]
  · rw [if_neg e]
    apply BitVec.eq_of_getLsbD_eq
    intro i hi
    simp only [BitVec.getLsbD_and, BitVec.getLsbD_ushiftRight, BitVec.getLsbD_or, BitVec.getLsbD_not, BitVec.getLsbD_shiftLeft]
    rw [h255 i hi]
    by_cases h8 : i < 8
    · have h1 : b + i < 32 := by omega
      by_cases h3 : b + i < a
      · simp [h8, h1, h3]
      · have h4 : 8 ≤ b + i - a := by omega
        rw [hvb _ h4, h255 (b + i - a) (by omega)]
        simp [h8, h1, h3, show ¬ b + i - a < 8 by omega]
    · simp [h8]
/-- as the class writes it -/
def setB (w v : Int32) (k : Nat) : Int32 := (w &&& (((255 : Int32) <<< (nI (24 - 8 * k) &&& 31)) ^^^ (-1 : Int32))) ||| (v <<< (nI (24 - 8 * k) &&& 31))
def getB (w : Int32) (k : Nat) : Int32 := ((w.toUInt32 >>> ((nI (24 - 8 * k)).toUInt32 &&& Int32.toUInt32 31)).toInt32) &&& 255
theorem setB_bv (w v : Int32) {k : Nat} (hk : k < 4) : (setB w v k).toBitVec = (w.toBitVec &&& ~~~((255#32) <<< (24 - 8 * k))) ||| (v.toBitVec <<< (24 - 8 * k)) := by
  have hx : ∀ x : BitVec 32, x ^^^ (-1 : Int32).toBitVec = ~~~x := by
    intro x
    rw [show (-1 : Int32).toBitVec = BitVec.allOnes 32 by decide]
    exact BitVec.xor_allOnes
  rcases (show k = 0 ∨ k = 1 ∨ k = 2 ∨ k = 3 by omega) with rfl | rfl | rfl | rfl
  · show (w.toBitVec &&& ((((255 : Int32) <<< (nI 24 &&& 31))).toBitVec ^^^ (-1 : Int32).toBitVec)) ||| (v <<< (nI 24 &&& 31)).toBitVec = _
    rw [hx]
    rfl
  · show (w.toBitVec &&& ((((255 : Int32) <<< (nI 16 &&& 31))).toBitVec ^^^ (-1 : Int32).toBitVec)) ||| (v <<< (nI 16 &&& 31)).toBitVec = _
    rw [hx]
    rfl
  · show (w.toBitVec &&& ((((255 : Int32) <<< (nI 8 &&& 31))).toBitVec ^^^ (-1 : Int32).toBitVec)) ||| (v <<< (nI 8 &&& 31)).toBitVec = _
    rw [hx]
    rfl
  · show (w.toBitVec &&& ((((255 : Int32) <<< (nI 0 &&& 31))).toBitVec ^^^ (-1 : Int32).toBitVec)) ||| (v <<< (nI 0 &&& 31)).toBitVec = _
    rw [hx]
    rfl
theorem getB_bv (w : Int32) {k : Nat} (hk : k < 4) : (getB w k).toBitVec = (w.toBitVec >>> (24 - 8 * k)) &&& 255#32 := by
  rcases (show k = 0 ∨ k = 1 ∨ k = 2 ∨ k = 3 by omega) with rfl | rfl | rfl | rfl <;> rfl
theorem getB_setB (w : Int32) {v : Int32} (hv : v.toBitVec.toNat < 256) {k j : Nat} (hk : k < 4) (hj : j < 4) : getB (setB w v k) j = if j = k then v else getB w j := by
  apply Int32.toBitVec_inj.mp
  rw [getB_bv _ hj, setB_bv _ _ hk, byte_set _ _ hv (by omega) (by omega)]
  by_cases e : j = k
  · rw [if_pos (by omega), if_pos e]
  · rw [if_neg (by omega), if_neg e, getB_bv _ hj]
theorem bcl_getB (w : Nat → Int32) (p : Nat) : bcl w p = getB (w (p / 4)) (p % 4) := rfl
