/-! ===== an order is read ===== -/
theorem bv_id {x : Option Mem} : (bv x fun s => some s) = x := by cases x <;> rfl
theorem dsp (n : Nat) (s : Mem) : ∀ o, 2 ≤ o → o < 34 → f_X11_readOrder n (nI o) s = f_X11_reads n (tbT o) (tbV o) (tbJ o) s := by
  intro o h1 h2
  rcases (show o = 2 ∨ o = 3 ∨ o = 4 ∨ o = 5 ∨ o = 6 ∨ o = 7 ∨ o = 8 ∨ o = 9 ∨ o = 10 ∨ o = 11 ∨ o = 12 ∨ o = 13 ∨ o = 14 ∨ o = 15 ∨ o = 16 ∨ o = 17 ∨ o = 18 ∨ o = 19 ∨ o = 20 ∨ o = 21 ∨ o = 22 ∨ o = 23 ∨ o = 24 ∨ o = 25 ∨ o = 26 ∨ o = 27 ∨ o = 28 ∨ o = 29 ∨ o = 30 ∨ o = 31 ∨ o = 32 ∨ o = 33 by omega) with rfl | rfl | rfl | rfl | rfl | rfl | rfl | rfl | rfl | rfl | rfl | rfl | rfl | rfl | rfl | rfl | rfl | rfl | rfl | rfl | rfl | rfl | rfl | rfl | rfl | rfl | rfl | rfl | rfl | rfl | rfl | rfl
  · unfold f_X11_readOrder
    rw [if_neg (by decide), if_neg (by decide), if_pos (by decide), bv_id]
    rfl
  · unfold f_X11_readOrder
    rw [if_neg (by decide), if_neg (by decide), if_neg (by decide), if_pos (by decide)]
    unfold b_X11_readOrder_209 b_X11_readOrder_243
    rw [in_t n (nI 3) 3 7 _ (by decide), bd_mk, if_neg (show ¬ (1 : Int32) = 0 by decide), bv_id]
    rfl
  · unfold f_X11_readOrder
    rw [if_neg (by decide), if_neg (by decide), if_neg (by decide), if_neg (by decide), if_pos (by decide)]
    unfold b_X11_readOrder_209 b_X11_readOrder_243
    rw [in_t n (nI 4) 3 7 _ (by decide), bd_mk, if_neg (show ¬ (1 : Int32) = 0 by decide), bv_id]
    rfl
  · unfold f_X11_readOrder
    rw [if_neg (by decide), if_neg (by decide), if_neg (by decide), if_neg (by decide), if_neg (by decide), if_pos (by decide)]
    unfold b_X11_readOrder_209 b_X11_readOrder_243
    rw [in_t n (nI 5) 3 7 _ (by decide), bd_mk, if_neg (show ¬ (1 : Int32) = 0 by decide), bv_id]
    rfl
  · unfold f_X11_readOrder
    rw [if_neg (by decide), if_neg (by decide), if_neg (by decide), if_neg (by decide), if_neg (by decide), if_neg (by decide), if_pos (by decide)]
    unfold b_X11_readOrder_209 b_X11_readOrder_243
    rw [in_t n (nI 6) 3 7 _ (by decide), bd_mk, if_neg (show ¬ (1 : Int32) = 0 by decide), bv_id]
    rfl
  · unfold f_X11_readOrder
    rw [if_neg (by decide), if_neg (by decide), if_neg (by decide), if_neg (by decide), if_neg (by decide), if_neg (by decide), if_neg (by decide), if_pos (by decide)]
    unfold b_X11_readOrder_209 b_X11_readOrder_243
    rw [in_t n (nI 7) 3 7 _ (by decide), bd_mk, if_neg (show ¬ (1 : Int32) = 0 by decide), bv_id]
    rfl
  · unfold f_X11_readOrder
    rw [if_neg (by decide), if_neg (by decide), if_neg (by decide), if_neg (by decide), if_neg (by decide), if_neg (by decide), if_neg (by decide), if_neg (by decide), if_pos (by decide)]
    unfold b_X11_readOrder_161
    rw [bv_id]
    rfl
  · unfold f_X11_readOrder
    rw [if_neg (by decide), if_neg (by decide), if_neg (by decide), if_neg (by decide), if_neg (by decide), if_neg (by decide), if_neg (by decide), if_neg (by decide), if_neg (by decide), if_pos (by decide)]
    unfold b_X11_readOrder_161
    rw [bv_id]
    rfl
  · unfold f_X11_readOrder
    rw [if_neg (by decide), if_neg (by decide), if_neg (by decide), if_neg (by decide), if_neg (by decide), if_neg (by decide), if_neg (by decide), if_neg (by decide), if_neg (by decide), if_neg (by decide), if_pos (by decide)]
    unfold b_X11_readOrder_169
    rw [bv_id]
    rfl
  · unfold f_X11_readOrder
    rw [if_neg (by decide), if_neg (by decide), if_neg (by decide), if_neg (by decide), if_neg (by decide), if_neg (by decide), if_neg (by decide), if_neg (by decide), if_neg (by decide), if_neg (by decide), if_neg (by decide), if_pos (by decide)]
    unfold b_X11_readOrder_169
    rw [bv_id]
    rfl
  · unfold f_X11_readOrder
    rw [if_neg (by decide), if_neg (by decide), if_neg (by decide), if_neg (by decide), if_neg (by decide), if_neg (by decide), if_neg (by decide), if_neg (by decide), if_neg (by decide), if_neg (by decide), if_neg (by decide), if_neg (by decide), if_pos (by decide)]
    unfold b_X11_readOrder_169
    rw [bv_id]
    rfl
  · unfold f_X11_readOrder
    rw [if_neg (by decide), if_neg (by decide), if_neg (by decide), if_neg (by decide), if_neg (by decide), if_neg (by decide), if_neg (by decide), if_neg (by decide), if_neg (by decide), if_neg (by decide), if_neg (by decide), if_neg (by decide), if_neg (by decide), if_pos (by decide), bv_id]
    rfl
  · unfold f_X11_readOrder
    rw [if_neg (by decide), if_neg (by decide), if_neg (by decide), if_neg (by decide), if_neg (by decide), if_neg (by decide), if_neg (by decide), if_neg (by decide), if_neg (by decide), if_neg (by decide), if_neg (by decide), if_neg (by decide), if_neg (by decide), if_neg (by decide), if_pos (by decide)]
    unfold b_X11_readOrder_185
    rw [bv_id]
    rfl
  · unfold f_X11_readOrder
    rw [if_neg (by decide), if_neg (by decide), if_neg (by decide), if_neg (by decide), if_neg (by decide), if_neg (by decide), if_neg (by decide), if_neg (by decide), if_neg (by decide), if_neg (by decide), if_neg (by decide), if_neg (by decide), if_neg (by decide), if_neg (by decide), if_neg (by decide), if_pos (by decide)]
    unfold b_X11_readOrder_169
    rw [bv_id]
    rfl
  · unfold f_X11_readOrder
    rw [if_neg (by decide), if_neg (by decide), if_neg (by decide), if_neg (by decide), if_neg (by decide), if_neg (by decide), if_neg (by decide), if_neg (by decide), if_neg (by decide), if_neg (by decide), if_neg (by decide), if_neg (by decide), if_neg (by decide), if_neg (by decide), if_neg (by decide), if_neg (by decide), if_pos (by decide)]
    unfold b_X11_readOrder_193
    rw [bv_id]
    rfl
  · unfold f_X11_readOrder
    rw [if_neg (by decide), if_neg (by decide), if_neg (by decide), if_neg (by decide), if_neg (by decide), if_neg (by decide), if_neg (by decide), if_neg (by decide), if_neg (by decide), if_neg (by decide), if_neg (by decide), if_neg (by decide), if_neg (by decide), if_neg (by decide), if_neg (by decide), if_neg (by decide), if_neg (by decide), if_pos (by decide)]
    unfold b_X11_readOrder_193
    rw [bv_id]
    rfl
  · unfold f_X11_readOrder
    rw [if_neg (by decide), if_neg (by decide), if_neg (by decide), if_neg (by decide), if_neg (by decide), if_neg (by decide), if_neg (by decide), if_neg (by decide), if_neg (by decide), if_neg (by decide), if_neg (by decide), if_neg (by decide), if_neg (by decide), if_neg (by decide), if_neg (by decide), if_neg (by decide), if_neg (by decide), if_neg (by decide), if_pos (by decide)]
    unfold b_X11_readOrder_193
    rw [bv_id]
    rfl
  · unfold f_X11_readOrder
    rw [if_neg (by decide), if_neg (by decide), if_neg (by decide), if_neg (by decide), if_neg (by decide), if_neg (by decide), if_neg (by decide), if_neg (by decide), if_neg (by decide), if_neg (by decide), if_neg (by decide), if_neg (by decide), if_neg (by decide), if_neg (by decide), if_neg (by decide), if_neg (by decide), if_neg (by decide), if_neg (by decide), if_neg (by decide), if_pos (by decide)]
    unfold b_X11_readOrder_185
    rw [bv_id]
    rfl
  · unfold f_X11_readOrder
    rw [if_neg (by decide), if_neg (by decide), if_neg (by decide), if_neg (by decide), if_neg (by decide), if_neg (by decide), if_neg (by decide), if_neg (by decide), if_neg (by decide), if_neg (by decide), if_neg (by decide), if_neg (by decide), if_neg (by decide), if_neg (by decide), if_neg (by decide), if_neg (by decide), if_neg (by decide), if_neg (by decide), if_neg (by decide), if_neg (by decide), if_pos (by decide)]
    unfold b_X11_readOrder_169
    rw [bv_id]
    rfl
  · unfold f_X11_readOrder
    rw [if_neg (by decide), if_neg (by decide), if_neg (by decide), if_neg (by decide), if_neg (by decide), if_neg (by decide), if_neg (by decide), if_neg (by decide), if_neg (by decide), if_neg (by decide), if_neg (by decide), if_neg (by decide), if_neg (by decide), if_neg (by decide), if_neg (by decide), if_neg (by decide), if_neg (by decide), if_neg (by decide), if_neg (by decide), if_neg (by decide), if_neg (by decide), if_pos (by decide)]
    unfold b_X11_readOrder_185
    rw [bv_id]
    rfl
  · unfold f_X11_readOrder
    rw [if_neg (by decide), if_neg (by decide), if_neg (by decide), if_neg (by decide), if_neg (by decide), if_neg (by decide), if_neg (by decide), if_neg (by decide), if_neg (by decide), if_neg (by decide), if_neg (by decide), if_neg (by decide), if_neg (by decide), if_neg (by decide), if_neg (by decide), if_neg (by decide), if_neg (by decide), if_neg (by decide), if_neg (by decide), if_neg (by decide), if_neg (by decide), if_neg (by decide), if_pos (by decide)]
    unfold b_X11_readOrder_169
    rw [bv_id]
    rfl
  · unfold f_X11_readOrder
    rw [if_neg (by decide), if_neg (by decide), if_neg (by decide), if_neg (by decide), if_neg (by decide), if_neg (by decide), if_neg (by decide), if_neg (by decide), if_neg (by decide), if_neg (by decide), if_neg (by decide), if_neg (by decide), if_neg (by decide), if_neg (by decide), if_neg (by decide), if_neg (by decide), if_neg (by decide), if_neg (by decide), if_neg (by decide), if_neg (by decide), if_neg (by decide), if_neg (by decide), if_neg (by decide), if_pos (by decide)]
    unfold b_X11_readOrder_209 b_X11_readOrder_243
    rw [in_f n (nI 23) 3 7 _ (by decide), bd_mk, if_pos rfl, in_t n (nI 23) 23 32 _ (by decide), bd_mk, if_neg (show ¬ (1 : Int32) = 0 by decide), bv_id]
    rfl
  · unfold f_X11_readOrder
    rw [if_neg (by decide), if_neg (by decide), if_neg (by decide), if_neg (by decide), if_neg (by decide), if_neg (by decide), if_neg (by decide), if_neg (by decide), if_neg (by decide), if_neg (by decide), if_neg (by decide), if_neg (by decide), if_neg (by decide), if_neg (by decide), if_neg (by decide), if_neg (by decide), if_neg (by decide), if_neg (by decide), if_neg (by decide), if_neg (by decide), if_neg (by decide), if_neg (by decide), if_neg (by decide), if_neg (by decide), if_pos (by decide)]
    unfold b_X11_readOrder_209 b_X11_readOrder_243
    rw [in_f n (nI 24) 3 7 _ (by decide), bd_mk, if_pos rfl, in_t n (nI 24) 23 32 _ (by decide), bd_mk, if_neg (show ¬ (1 : Int32) = 0 by decide), bv_id]
    rfl
  · unfold f_X11_readOrder
    rw [if_neg (by decide), if_neg (by decide), if_neg (by decide), if_neg (by decide), if_neg (by decide), if_neg (by decide), if_neg (by decide), if_neg (by decide), if_neg (by decide), if_neg (by decide), if_neg (by decide), if_neg (by decide), if_neg (by decide), if_neg (by decide), if_neg (by decide), if_neg (by decide), if_neg (by decide), if_neg (by decide), if_neg (by decide), if_neg (by decide), if_neg (by decide), if_neg (by decide), if_neg (by decide), if_neg (by decide), if_neg (by decide), if_pos (by decide)]
    unfold b_X11_readOrder_209 b_X11_readOrder_243
    rw [in_f n (nI 25) 3 7 _ (by decide), bd_mk, if_pos rfl, in_t n (nI 25) 23 32 _ (by decide), bd_mk, if_neg (show ¬ (1 : Int32) = 0 by decide), bv_id]
    rfl
  · unfold f_X11_readOrder
    rw [if_neg (by decide), if_neg (by decide), if_neg (by decide), if_neg (by decide), if_neg (by decide), if_neg (by decide), if_neg (by decide), if_neg (by decide), if_neg (by decide), if_neg (by decide), if_neg (by decide), if_neg (by decide), if_neg (by decide), if_neg (by decide), if_neg (by decide), if_neg (by decide), if_neg (by decide), if_neg (by decide), if_neg (by decide), if_neg (by decide), if_neg (by decide), if_neg (by decide), if_neg (by decide), if_neg (by decide), if_neg (by decide), if_neg (by decide), if_pos (by decide)]
    unfold b_X11_readOrder_209 b_X11_readOrder_243
    rw [in_f n (nI 26) 3 7 _ (by decide), bd_mk, if_pos rfl, in_t n (nI 26) 23 32 _ (by decide), bd_mk, if_neg (show ¬ (1 : Int32) = 0 by decide), bv_id]
    rfl
  · unfold f_X11_readOrder
    rw [if_neg (by decide), if_neg (by decide), if_neg (by decide), if_neg (by decide), if_neg (by decide), if_neg (by decide), if_neg (by decide), if_neg (by decide), if_neg (by decide), if_neg (by decide), if_neg (by decide), if_neg (by decide), if_neg (by decide), if_neg (by decide), if_neg (by decide), if_neg (by decide), if_neg (by decide), if_neg (by decide), if_neg (by decide), if_neg (by decide), if_neg (by decide), if_neg (by decide), if_neg (by decide), if_neg (by decide), if_neg (by decide), if_neg (by decide), if_neg (by decide), if_pos (by decide)]
    unfold b_X11_readOrder_209 b_X11_readOrder_243
    rw [in_f n (nI 27) 3 7 _ (by decide), bd_mk, if_pos rfl, in_t n (nI 27) 23 32 _ (by decide), bd_mk, if_neg (show ¬ (1 : Int32) = 0 by decide), bv_id]
    rfl
  · unfold f_X11_readOrder
    rw [if_neg (by decide), if_neg (by decide), if_neg (by decide), if_neg (by decide), if_neg (by decide), if_neg (by decide), if_neg (by decide), if_neg (by decide), if_neg (by decide), if_neg (by decide), if_neg (by decide), if_neg (by decide), if_neg (by decide), if_neg (by decide), if_neg (by decide), if_neg (by decide), if_neg (by decide), if_neg (by decide), if_neg (by decide), if_neg (by decide), if_neg (by decide), if_neg (by decide), if_neg (by decide), if_neg (by decide), if_neg (by decide), if_neg (by decide), if_neg (by decide), if_neg (by decide), if_pos (by decide)]
    unfold b_X11_readOrder_209 b_X11_readOrder_243
    rw [in_f n (nI 28) 3 7 _ (by decide), bd_mk, if_pos rfl, in_t n (nI 28) 23 32 _ (by decide), bd_mk, if_neg (show ¬ (1 : Int32) = 0 by decide), bv_id]
    rfl
  · unfold f_X11_readOrder
    rw [if_neg (by decide), if_neg (by decide), if_neg (by decide), if_neg (by decide), if_neg (by decide), if_neg (by decide), if_neg (by decide), if_neg (by decide), if_neg (by decide), if_neg (by decide), if_neg (by decide), if_neg (by decide), if_neg (by decide), if_neg (by decide), if_neg (by decide), if_neg (by decide), if_neg (by decide), if_neg (by decide), if_neg (by decide), if_neg (by decide), if_neg (by decide), if_neg (by decide), if_neg (by decide), if_neg (by decide), if_neg (by decide), if_neg (by decide), if_neg (by decide), if_neg (by decide), if_neg (by decide), if_pos (by decide)]
    unfold b_X11_readOrder_209 b_X11_readOrder_243
    rw [in_f n (nI 29) 3 7 _ (by decide), bd_mk, if_pos rfl, in_t n (nI 29) 23 32 _ (by decide), bd_mk, if_neg (show ¬ (1 : Int32) = 0 by decide), bv_id]
    rfl
  · unfold f_X11_readOrder
    rw [if_neg (by decide), if_neg (by decide), if_neg (by decide), if_neg (by decide), if_neg (by decide), if_neg (by decide), if_neg (by decide), if_neg (by decide), if_neg (by decide), if_neg (by decide), if_neg (by decide), if_neg (by decide), if_neg (by decide), if_neg (by decide), if_neg (by decide), if_neg (by decide), if_neg (by decide), if_neg (by decide), if_neg (by decide), if_neg (by decide), if_neg (by decide), if_neg (by decide), if_neg (by decide), if_neg (by decide), if_neg (by decide), if_neg (by decide), if_neg (by decide), if_neg (by decide), if_neg (by decide), if_neg (by decide), if_pos (by decide)]
    unfold b_X11_readOrder_209 b_X11_readOrder_243
    rw [in_f n (nI 30) 3 7 _ (by decide), bd_mk, if_pos rfl, in_t n (nI 30) 23 32 _ (by decide), bd_mk, if_neg (show ¬ (1 : Int32) = 0 by decide), bv_id]
    rfl
  · unfold f_X11_readOrder
    rw [if_neg (by decide), if_neg (by decide), if_neg (by decide), if_neg (by decide), if_neg (by decide), if_neg (by decide), if_neg (by decide), if_neg (by decide), if_neg (by decide), if_neg (by decide), if_neg (by decide), if_neg (by decide), if_neg (by decide), if_neg (by decide), if_neg (by decide), if_neg (by decide), if_neg (by decide), if_neg (by decide), if_neg (by decide), if_neg (by decide), if_neg (by decide), if_neg (by decide), if_neg (by decide), if_neg (by decide), if_neg (by decide), if_neg (by decide), if_neg (by decide), if_neg (by decide), if_neg (by decide), if_neg (by decide), if_neg (by decide), if_pos (by decide), bv_id]
    rfl
  · unfold f_X11_readOrder
    rw [if_neg (by decide), if_neg (by decide), if_neg (by decide), if_neg (by decide), if_neg (by decide), if_neg (by decide), if_neg (by decide), if_neg (by decide), if_neg (by decide), if_neg (by decide), if_neg (by decide), if_neg (by decide), if_neg (by decide), if_neg (by decide), if_neg (by decide), if_neg (by decide), if_neg (by decide), if_neg (by decide), if_neg (by decide), if_neg (by decide), if_neg (by decide), if_neg (by decide), if_neg (by decide), if_neg (by decide), if_neg (by decide), if_neg (by decide), if_neg (by decide), if_neg (by decide), if_neg (by decide), if_neg (by decide), if_neg (by decide), if_neg (by decide), if_pos (by decide)]
    unfold b_X11_readOrder_209 b_X11_readOrder_243
    rw [in_f n (nI 32) 3 7 _ (by decide), bd_mk, if_pos rfl, in_t n (nI 32) 23 32 _ (by decide), bd_mk, if_neg (show ¬ (1 : Int32) = 0 by decide), bv_id]
    rfl
  · unfold f_X11_readOrder
    rw [if_neg (by decide), if_neg (by decide), if_neg (by decide), if_neg (by decide), if_neg (by decide), if_neg (by decide), if_neg (by decide), if_neg (by decide), if_neg (by decide), if_neg (by decide), if_neg (by decide), if_neg (by decide), if_neg (by decide), if_neg (by decide), if_neg (by decide), if_neg (by decide), if_neg (by decide), if_neg (by decide), if_neg (by decide), if_neg (by decide), if_neg (by decide), if_neg (by decide), if_neg (by decide), if_neg (by decide), if_neg (by decide), if_neg (by decide), if_neg (by decide), if_neg (by decide), if_neg (by decide), if_neg (by decide), if_neg (by decide), if_neg (by decide), if_neg (by decide), if_pos (by decide)]
    unfold b_X11_readOrder_169
    rw [bv_id]
    rfl
theorem dsp01 (n : Nat) (s : Mem) : ∀ o, o < 2 → f_X11_readOrder n (nI o) s = some s := by
  intro o h1
  rcases (show o = 0 ∨ o = 1 by omega) with rfl | rfl
  · unfold f_X11_readOrder
    rw [if_pos (by decide)]
    rfl
  · unfold f_X11_readOrder
    rw [if_neg (by decide), if_pos (by decide)]
    rfl
theorem dspB (n : Nat) (s : Mem) {o : Nat} (h : 34 ≤ o) (h2 : o < 256) : f_X11_readOrder n (nI o) s = some (stM s 0 35 1) := by
  have e : (nI o).toInt = (o : Int) := nI_toInt (by omega)
  unfold f_X11_readOrder
  rw [e, if_neg (by omega), if_neg (by omega), if_neg (by omega), if_neg (by omega), if_neg (by omega), if_neg (by omega), if_neg (by omega), if_neg (by omega), if_neg (by omega), if_neg (by omega), if_neg (by omega), if_neg (by omega), if_neg (by omega), if_neg (by omega), if_neg (by omega), if_neg (by omega), if_neg (by omega), if_neg (by omega), if_neg (by omega), if_neg (by omega), if_neg (by omega), if_neg (by omega), if_neg (by omega), if_neg (by omega), if_neg (by omega), if_neg (by omega), if_neg (by omega), if_neg (by omega), if_neg (by omega), if_neg (by omega), if_neg (by omega), if_neg (by omega), if_neg (by omega), if_neg (by omega)]
  unfold b_X11_readOrder_209
  rw [in_f n (nI o) 3 7 _ (by rw [e, show (3 : Int64).toInt = 3 from rfl, show (7 : Int64).toInt = 7 from rfl]; omega), bd_mk, if_pos rfl, in_f n (nI o) 23 32 _ (by rw [e, show (23 : Int64).toInt = 23 from rfl, show (32 : Int64).toInt = 32 from rfl]; omega), bd_mk, if_pos rfl, ck_t okZ1, lt_eq]
/-- what reading may change of the class -/
def CFr (i : Nat) (σ0 σ : Mem) : Prop := (∀ z, z ≠ 42 + 2 * i → z ≠ 118 → z ≠ 119 → σ z = σ0 z) ∧ ∀ j, j ≠ 1 → σ (42 + 2 * i) j = σ0 (42 + 2 * i) j
theorem RdC.fr {i L : Nat} {σ0 σ : Mem} (h : RdC i L σ0 σ) : CFr i σ0 σ := ⟨h.1, h.2.1⟩
theorem CFr.rf (i : Nat) (σ : Mem) : CFr i σ σ := ⟨fun _ _ _ _ => rfl, fun _ _ => rfl⟩
theorem RdM.rf (τ : Mem) : RdM τ τ := ⟨fun _ _ _ => rfl, fun _ _ => rfl⟩
theorem tbT_j : ∀ o, o < 2 → tbT o = 0 ∧ tbJ o = 0 ∧ nvT o = 0 := by decide
theorem rdo {i c p0 L S p : Nat} {σ0 τ0 : Mem} (X : RX i c p0 L S σ0 τ0) {n m : Nat} (hn : 10 ≤ n) (hm : 10 ≤ m) (hp : σ0 (42 + 2 * i) 1 = nI p) (hp2 : τ0 15 (70 + 10 * i + 1) = nI p) (hp3 : p ≤ 65536) {d : Nat} (hd : d < 300) (k97 : Int32 → Int32 → Int32 → Mem → Option (Int32 × Mem)) :
    (∃ o σ' τ' p', o < 34 ∧ f_X5_readOrder n (42 + 2 * i) σ0 = some (nI o, σ') ∧ b_X11_turn_97 m k97 (nI i) (nI d) 1 τ0 = b_X11_turn_142 k97 m (nI i) (nI d) (nI o) τ' ∧ RO i L σ0 τ0 p' σ' τ' ∧ RG i L o σ' τ') ∨
    (∃ x σ' τ', f_X5_readOrder n (42 + 2 * i) σ0 = some (-1, σ') ∧ b_X11_turn_97 m k97 (nI i) (nI d) 1 τ0 = b_X11_turn_142 k97 m (nI i) (nI d) x τ' ∧ CFr i σ0 σ' ∧ BM τ0 τ') := by
  have hi := X.1.1
  have L6 : L ≤ 6000 := by have := X.1.2.2.2.2.2.1; have := X.2.1.2.1; omega
  have C0 : f_X5_readOrder n (42 + 2 * i) σ0 = bd (f_X5_nextByte n (42 + 2 * i) (stM σ0 118 7 0)) (fun x3 s2 => if x3 < 0 then (b_X5_readOrder_21  n s2) else (if x3 < (34 : Int32) then (ck (inb x3 34) (if (tbT x3.toNatClampNeg) = 0 then (b_X5_readOrder_40  n (42 + 2 * i) x3 s2) else (bd (f_X5_readTarget n (42 + 2 * i) s2) (fun x6 s5 => lt (stM s5 118 5 x6) (fun s7 => b_X5_readOrder_40  n (42 + 2 * i) x3 s7))))) else (b_X5_readOrder_21  n s2))) := by
    unfold f_X5_readOrder
    rw [ck_t okZ0, lt_eq]
  have e1 : (stM τ0 0 35 0) 15 (70 + 10 * i + 1) = nI p := by rw [stM_ne (by decide)]; exact hp2
  have M0 : b_X11_turn_97 m k97 (nI i) (nI d) 1 τ0 = bd (f_X11_byteOf m (stM (stM τ0 0 35 0) 0 36 (nI p))) (fun x6 s5 => if (s5 0 35) = 0 then (bv (f_X11_readOrder m x6 s5) (fun s7 => b_X11_turn_142 k97 m (nI i) (nI d) x6 s7)) else (b_X11_turn_142 k97 m (nI i) (nI d) x6 s5)) := by
    unfold b_X11_turn_97
    rw [if_neg (by decide), if_neg (show ¬ (300 : Int32) ≤ nI d from nI_ge (a := d) (b := 300) hd (by omega)), ck_t okZ0, lt_eq, show (1 : Int32) = nI 1 from rfl, of_eq m hi (by omega), bd_mk, lt_eq, e1]
  rw [C0, M0]
  have rm : RdM τ0 (stM (stM τ0 0 35 0) 0 36 (nI p)) := ((RdM.rf τ0).w0 (by decide)).w0 (by decide)
  have q1 : (stM σ0 118 7 0) (42 + 2 * i) 1 = nI p := by rw [stM_ne (by omega)]; exact hp
  have t1 : (stM (stM τ0 0 35 0) 0 36 (nI p)) 0 36 = nI p := stM_hit _ _ _ _
  have t2 : (stM (stM τ0 0 35 0) 0 36 (nI p)) 0 35 = 0 := by rw [stM_far (Or.inr (by decide)), stM_hit]
  have s7 : (stM σ0 118 7 0) 118 7 = 0 := stM_hit _ _ _ _
  have fr0 : CFr i σ0 (stM σ0 118 7 0) := ⟨fun z a b c => stM_ne b, fun j hj => by rw [stM_ne (by omega)]⟩
  by_cases hpL : p ≤ L
  · have h0 : RO i L σ0 τ0 p (stM σ0 118 7 0) (stM (stM τ0 0 35 0) 0 36 (nI p)) := ⟨⟨fr0.1, fr0.2, by rw [stM_far (Or.inr (by decide))], by rw [stM_far (Or.inr (by decide))], p, hpL, q1⟩, rm, hpL, q1, t1, s7, t2⟩
    rcases nb2 X n m h0 with ⟨v, hv, c1, m1, h1⟩ | ⟨c1, m1, b1, d1⟩
    · rw [c1, bd_mk, m1, bd_mk, if_neg (nI_pos (by omega)), if_pos h1.2.2.2.2.2.2]
      generalize stM (stM σ0 118 7 0) (42 + 2 * i) 1 (nI (p + 1)) = s at h1 ⊢
      generalize stM (stM (stM τ0 0 35 0) 0 36 (nI p)) 0 36 (nI (p + 1)) = u at h1 ⊢
      by_cases v34 : v < 34
      · rw [if_pos (show nI v < (34 : Int32) from nI_lt (a := v) (b := 34) v34 (by omega)), ck_t (inb_nI v34 (by decide)), nI_clamp (by omega)]
        by_cases v2 : v < 2
        · rw [dsp01 m u v v2, bv_mk, if_pos (tbT_j v v2).1]
          obtain ⟨n, rfl⟩ : ∃ n', n = n' + 1 := ⟨n - 1, by omega⟩
          refine Or.inl ⟨v, s, u, _, v34, ?_, rfl, h1, fun j hj => ?_, fun q => absurd (tbT_j v v2).1 q, fun q => absurd (tbT_j v v2).2.1 q⟩
          · show b_X5_readOrder_42 n (itr3 b_X5_readOrder_42 n) _ _ _ s = _
            generalize itr3 b_X5_readOrder_42 n = g
            unfold b_X5_readOrder_42 b_X5_readOrder_85 b_X5_readOrder_97
            rw [ck_t (inb_nI v34 (by decide)), nI_clamp (by omega), nvT_eq v v34, (tbT_j v v2).2.2, if_pos (by decide), ck_t (inb_nI v34 (by decide)), if_pos (tbT_j v v2).2.1, if_pos h1.2.2.2.2.2.1]
          · rw [(tbT_j v v2).2.2] at hj; omega
        · have R : f_X11_readOrder m (nI v) u = f_X11_reads m (tbT v) (tbV v) (tbJ v) u := dsp m u v (by omega) v34
          rw [R]
          by_cases tv : tbT v = 0
          · have R2 : f_X11_reads m (tbT v) (tbV v) (tbJ v) u = itr3 b_X11_reads_19 m (tbV v) (tbJ v) (nI 0) (stM u 0 38 0) := by
              unfold f_X11_reads b_X11_reads_13
              rw [if_pos tv, lt_eq]
              rfl
            rw [R2, if_pos tv]
            unfold b_X5_readOrder_40
            have n4 := nvT_le v v34
            rw [show (0 : Int32) = nI 0 from rfl]
            rcases nv2 X v34 (nvT v) 0 n m s (stM u 0 38 (nI 0)) (p + 1) (by omega) (by omega) (by omega) (h1.w0 (by decide)) (fun j hj => by omega) (fun q => absurd tv q) with ⟨σ', τ', p', f1, f2, f3, f4⟩ | ⟨σ', τ', f1, f2, f3, f4⟩
            · rw [f1, f2, bv_mk]
              exact Or.inl ⟨v, _, _, p', v34, rfl, rfl, f3, f4⟩
            · rw [f1, f2, bv_mk]
              exact Or.inr ⟨_, _, _, rfl, rfl, f3.1.fr, f4⟩
          · have R2 : f_X11_reads m (tbT v) (tbV v) (tbJ v) u = bd (f_X11_target m u) fun x2 s1 => itr3 b_X11_reads_19 m (tbV v) (tbJ v) (nI 0) (stM s1 0 38 x2) := by
              unfold f_X11_reads b_X11_reads_13
              rw [if_neg tv]
              rfl
            rw [R2, if_neg tv]
            unfold b_X5_readOrder_40
            have n4 := nvT_le v v34
            rcases tgt2 X n m h1 with ⟨x, y, p', g1, g2, ⟨w, hw, ex, ey⟩, h2⟩ | ⟨x, y, σ', τ', g1, g2, b1, b2⟩
            · rw [g1, bd_mk, g2, bd_mk, lt_eq, show (0 : Int32) = nI 0 from rfl]
              rcases nv2 X v34 (nvT v) 0 n m _ _ p' (by omega) (by omega) (by omega) ((h2.w118 (j := 5) (v := x) hi (by decide)).w0 (j := 38) (v := y) (by decide)) (fun j hj => by omega) (fun q => ⟨w, hw, by rw [stM_hit]; exact ex, by rw [stM_hit]; exact ey⟩) with ⟨σ', τ', p', f1, f2, f3, f4⟩ | ⟨σ', τ', f1, f2, f3, f4⟩
              · rw [f1, f2, bv_mk]
                exact Or.inl ⟨v, _, _, p', v34, rfl, rfl, f3, f4⟩
              · rw [f1, f2, bv_mk]
                exact Or.inr ⟨_, _, _, rfl, rfl, f3.1.fr, f4⟩
            · rw [g1, bd_mk, g2, bd_mk, lt_eq, show (0 : Int32) = nI 0 from rfl]
              obtain ⟨s1, f1, k1⟩ := nvC X v34 (nvT v) 0 n (stM σ' 118 5 x) (by omega) (by omega) ⟨b1.1.w118 hi (by decide), by rw [stM_far (Or.inr (by decide))]; exact b1.2⟩
              obtain ⟨s2, f2, k2⟩ := nvM X v34 (nvT v) 0 m (stM τ' 0 38 y) (by omega) (by omega) ⟨b2.1.w0 (by decide), by rw [stM_far (Or.inr (by decide))]; exact b2.2⟩
              rw [f1, f2, bv_mk]
              exact Or.inr ⟨_, _, _, rfl, rfl, k1.1.fr, k2⟩
      · rw [if_neg (show ¬ nI v < (34 : Int32) from nI_nlt (a := v) (b := 34) (by omega) (by omega)), dspB m u (by omega) hv, bv_mk]
        exact Or.inr ⟨_, _, _, rfl, rfl, h1.1.fr, BM.mk2 h1.2.1⟩
    · rw [c1, bd_mk, m1, bd_mk, if_pos (show (-1 : Int32) < 0 by decide), if_neg (by rw [d1.2]; decide)]
      exact Or.inr ⟨_, _, _, rfl, rfl, b1.1.fr, d1⟩
  · obtain ⟨⟨_, hc, x1, x2, x3, x4, x5, x6, x7⟩, ⟨y1, y2, y3⟩, x8, -⟩ := X
    have c1 : f_X5_nextByte n (42 + 2 * i) (stM σ0 118 7 0) = some (-1, stM (stM σ0 118 7 0) 118 7 1) := by
      unfold f_X5_nextByte b_X5_nextByte_18
      rw [q1, stM_far (Or.inr (by decide)), x3, if_neg (nI_pos (by omega)), if_neg (nI_nlt (by omega) (by omega)), ck_t okZ1]
      rfl
    have m1 : f_X11_byteOf m (stM (stM τ0 0 35 0) 0 36 (nI p)) = some (0, stM (stM (stM τ0 0 35 0) 0 36 (nI p)) 0 35 1) := by
      unfold f_X11_byteOf b_X11_byteOf_30
      rw [rm.2 34 (by decide), x7, of0 m hi, bd_mk, rm.1 15 (by decide) (by decide), x8, if_pos t2, ck_t (inb_nI hc.2 (by decide)), nI_clamp (by omega), t1, rm.1 7 (by decide) (by decide), x6, if_neg (nI_nlt (by omega) (by omega)), ck_t okZ1]
      rfl
    have d1 := BM.mk2 rm
    rw [c1, bd_mk, m1, bd_mk, if_pos (show (-1 : Int32) < 0 by decide), if_neg (by rw [d1.2]; decide)]
    exact Or.inr ⟨_, _, _, rfl, rfl, ⟨fun z a b c => by rw [stM_ne b]; exact fr0.1 z a b c, fun j hj => by rw [stM_ne (by omega)]; exact fr0.2 j hj⟩, d1⟩
