/-! ===== each order's own branch ===== -/
theorem ck0_4 {ω : Type} {k : Option ω} : ck (inb (0 : Int32) 4) k = k := ck_t (by decide)
theorem ck1_4 {ω : Type} {k : Option ω} : ck (inb (1 : Int32) 4) k = k := ck_t (by decide)
theorem ck2_4 {ω : Type} {k : Option ω} : ck (inb (2 : Int32) 4) k = k := ck_t (by decide)
theorem ck3_4 {ω : Type} {k : Option ω} : ck (inb (3 : Int32) 4) k = k := ck_t (by decide)
theorem ck0_781 {ω : Type} {k : Option ω} : ck (inb (0 : Int32) 781) k = k := ck_t (by decide)
theorem ck1_781 {ω : Type} {k : Option ω} : ck (inb (1 : Int32) 781) k = k := ck_t (by decide)
theorem ck2_781 {ω : Type} {k : Option ω} : ck (inb (2 : Int32) 781) k = k := ck_t (by decide)
theorem ck3_781 {ω : Type} {k : Option ω} : ck (inb (3 : Int32) 781) k = k := ck_t (by decide)
theorem ck4_781 {ω : Type} {k : Option ω} : ck (inb (4 : Int32) 781) k = k := ck_t (by decide)
theorem ck5_781 {ω : Type} {k : Option ω} : ck (inb (5 : Int32) 781) k = k := ck_t (by decide)
theorem ck6_781 {ω : Type} {k : Option ω} : ck (inb (6 : Int32) 781) k = k := ck_t (by decide)
theorem ckz0 {ω : Type} {k : Option ω} : ck (okZ (0 : Int32)) k = k := ck_t okZ0
theorem ckz1 {ω : Type} {k : Option ω} : ck (okZ (1 : Int32)) k = k := ck_t okZ1
theorem cl6 : (6 : Int32).toNatClampNeg = 6 := rfl
theorem bd_id {x : Option (Int32 × Mem)} : (bd x fun a s => some (a, s)) = x := by cases x <;> rfl
theorem pf_3 (n r1 : Nat) (s : Mem) : f_X5_perform n r1 (nI 3) s = f_X5_assign n r1 (nI 3) s := by
  unfold f_X5_perform
  rw [ck0_4, if_neg (by decide), if_neg (by decide), if_neg (by decide), if_pos (by decide)]
  unfold b_X5_perform_319 b_X5_perform_341
  rw [ck_t (by decide), if_neg (by decide), bd_id]
theorem pf_4 (n r1 : Nat) (s : Mem) : f_X5_perform n r1 (nI 4) s = f_X5_assign n r1 (nI 4) s := by
  unfold f_X5_perform
  rw [ck0_4, if_neg (by decide), if_neg (by decide), if_neg (by decide), if_neg (by decide), if_pos (by decide)]
  unfold b_X5_perform_319 b_X5_perform_341
  rw [ck_t (by decide), if_neg (by decide), bd_id]
theorem pf_5 (n r1 : Nat) (s : Mem) : f_X5_perform n r1 (nI 5) s = f_X5_assign n r1 (nI 5) s := by
  unfold f_X5_perform
  rw [ck0_4, if_neg (by decide), if_neg (by decide), if_neg (by decide), if_neg (by decide), if_neg (by decide), if_pos (by decide)]
  unfold b_X5_perform_319 b_X5_perform_341
  rw [ck_t (by decide), if_neg (by decide), bd_id]
theorem pf_6 (n r1 : Nat) (s : Mem) : f_X5_perform n r1 (nI 6) s = f_X5_assign n r1 (nI 6) s := by
  unfold f_X5_perform
  rw [ck0_4, if_neg (by decide), if_neg (by decide), if_neg (by decide), if_neg (by decide), if_neg (by decide), if_neg (by decide), if_pos (by decide)]
  unfold b_X5_perform_319 b_X5_perform_341
  rw [ck_t (by decide), if_neg (by decide), bd_id]
theorem pf_7 (n r1 : Nat) (s : Mem) : f_X5_perform n r1 (nI 7) s = f_X5_assign n r1 (nI 7) s := by
  unfold f_X5_perform
  rw [ck0_4, if_neg (by decide), if_neg (by decide), if_neg (by decide), if_neg (by decide), if_neg (by decide), if_neg (by decide), if_neg (by decide), if_pos (by decide)]
  unfold b_X5_perform_319 b_X5_perform_341
  rw [ck_t (by decide), if_neg (by decide), bd_id]
theorem pf_28 (n r1 : Nat) (s : Mem) : f_X5_perform n r1 (nI 28) s = f_X5_assign n r1 (nI 28) s := by
  unfold f_X5_perform
  rw [ck0_4, if_neg (by decide), if_neg (by decide), if_neg (by decide), if_neg (by decide), if_neg (by decide), if_neg (by decide), if_neg (by decide), if_neg (by decide), if_neg (by decide), if_neg (by decide), if_neg (by decide), if_neg (by decide), if_neg (by decide), if_neg (by decide), if_neg (by decide), if_neg (by decide), if_neg (by decide), if_neg (by decide), if_neg (by decide), if_neg (by decide), if_neg (by decide), if_neg (by decide), if_neg (by decide), if_neg (by decide), if_neg (by decide), if_neg (by decide), if_neg (by decide), if_neg (by decide), if_pos (by decide)]
  unfold b_X5_perform_319 b_X5_perform_341
  rw [ck_t (by decide), if_neg (by decide), bd_id]
theorem pf_29 (n r1 : Nat) (s : Mem) : f_X5_perform n r1 (nI 29) s = f_X5_assign n r1 (nI 29) s := by
  unfold f_X5_perform
  rw [ck0_4, if_neg (by decide), if_neg (by decide), if_neg (by decide), if_neg (by decide), if_neg (by decide), if_neg (by decide), if_neg (by decide), if_neg (by decide), if_neg (by decide), if_neg (by decide), if_neg (by decide), if_neg (by decide), if_neg (by decide), if_neg (by decide), if_neg (by decide), if_neg (by decide), if_neg (by decide), if_neg (by decide), if_neg (by decide), if_neg (by decide), if_neg (by decide), if_neg (by decide), if_neg (by decide), if_neg (by decide), if_neg (by decide), if_neg (by decide), if_neg (by decide), if_neg (by decide), if_neg (by decide), if_pos (by decide)]
  unfold b_X5_perform_319 b_X5_perform_341
  rw [ck_t (by decide), if_neg (by decide), bd_id]
theorem pf_30 (n r1 : Nat) (s : Mem) : f_X5_perform n r1 (nI 30) s = f_X5_assign n r1 (nI 30) s := by
  unfold f_X5_perform
  rw [ck0_4, if_neg (by decide), if_neg (by decide), if_neg (by decide), if_neg (by decide), if_neg (by decide), if_neg (by decide), if_neg (by decide), if_neg (by decide), if_neg (by decide), if_neg (by decide), if_neg (by decide), if_neg (by decide), if_neg (by decide), if_neg (by decide), if_neg (by decide), if_neg (by decide), if_neg (by decide), if_neg (by decide), if_neg (by decide), if_neg (by decide), if_neg (by decide), if_neg (by decide), if_neg (by decide), if_neg (by decide), if_neg (by decide), if_neg (by decide), if_neg (by decide), if_neg (by decide), if_neg (by decide), if_neg (by decide), if_pos (by decide)]
  unfold b_X5_perform_319 b_X5_perform_341
  rw [ck_t (by decide), if_neg (by decide), bd_id]
theorem pf_32 (n r1 : Nat) (s : Mem) : f_X5_perform n r1 (nI 32) s = f_X5_assign n r1 (nI 32) s := by
  unfold f_X5_perform
  rw [ck0_4, if_neg (by decide), if_neg (by decide), if_neg (by decide), if_neg (by decide), if_neg (by decide), if_neg (by decide), if_neg (by decide), if_neg (by decide), if_neg (by decide), if_neg (by decide), if_neg (by decide), if_neg (by decide), if_neg (by decide), if_neg (by decide), if_neg (by decide), if_neg (by decide), if_neg (by decide), if_neg (by decide), if_neg (by decide), if_neg (by decide), if_neg (by decide), if_neg (by decide), if_neg (by decide), if_neg (by decide), if_neg (by decide), if_neg (by decide), if_neg (by decide), if_neg (by decide), if_neg (by decide), if_neg (by decide), if_neg (by decide), if_neg (by decide), if_pos (by decide)]
  unfold b_X5_perform_319 b_X5_perform_341
  rw [ck_t (by decide), if_neg (by decide), bd_id]
theorem pf_13 (n r1 : Nat) (s : Mem) : f_X5_perform n r1 (nI 13) s = f_X5_changeStage n (nI 13) s := by
  unfold f_X5_perform
  rw [ck0_4, if_neg (by decide), if_neg (by decide), if_neg (by decide), if_neg (by decide), if_neg (by decide), if_neg (by decide), if_neg (by decide), if_neg (by decide), if_neg (by decide), if_neg (by decide), if_neg (by decide), if_neg (by decide), if_neg (by decide), if_pos (by decide)]
  unfold b_X5_perform_319 b_X5_perform_341
  rw [ck_t (by decide), if_pos (by decide), bd_id]
theorem pf_14 (n r1 : Nat) (s : Mem) : f_X5_perform n r1 (nI 14) s = f_X5_changeStage n (nI 14) s := by
  unfold f_X5_perform
  rw [ck0_4, if_neg (by decide), if_neg (by decide), if_neg (by decide), if_neg (by decide), if_neg (by decide), if_neg (by decide), if_neg (by decide), if_neg (by decide), if_neg (by decide), if_neg (by decide), if_neg (by decide), if_neg (by decide), if_neg (by decide), if_neg (by decide), if_pos (by decide)]
  unfold b_X5_perform_319 b_X5_perform_341
  rw [ck_t (by decide), if_pos (by decide), bd_id]
theorem pf_16 (n r1 : Nat) (s : Mem) : f_X5_perform n r1 (nI 16) s = f_X5_changeStage n (nI 16) s := by
  unfold f_X5_perform
  rw [ck0_4, if_neg (by decide), if_neg (by decide), if_neg (by decide), if_neg (by decide), if_neg (by decide), if_neg (by decide), if_neg (by decide), if_neg (by decide), if_neg (by decide), if_neg (by decide), if_neg (by decide), if_neg (by decide), if_neg (by decide), if_neg (by decide), if_neg (by decide), if_neg (by decide), if_pos (by decide)]
  unfold b_X5_perform_319 b_X5_perform_341
  rw [ck_t (by decide), if_pos (by decide), bd_id]
theorem pf_17 (n r1 : Nat) (s : Mem) : f_X5_perform n r1 (nI 17) s = f_X5_changeStage n (nI 17) s := by
  unfold f_X5_perform
  rw [ck0_4, if_neg (by decide), if_neg (by decide), if_neg (by decide), if_neg (by decide), if_neg (by decide), if_neg (by decide), if_neg (by decide), if_neg (by decide), if_neg (by decide), if_neg (by decide), if_neg (by decide), if_neg (by decide), if_neg (by decide), if_neg (by decide), if_neg (by decide), if_neg (by decide), if_neg (by decide), if_pos (by decide)]
  unfold b_X5_perform_319 b_X5_perform_341
  rw [ck_t (by decide), if_pos (by decide), bd_id]
theorem pf_18 (n r1 : Nat) (s : Mem) : f_X5_perform n r1 (nI 18) s = f_X5_changeStage n (nI 18) s := by
  unfold f_X5_perform
  rw [ck0_4, if_neg (by decide), if_neg (by decide), if_neg (by decide), if_neg (by decide), if_neg (by decide), if_neg (by decide), if_neg (by decide), if_neg (by decide), if_neg (by decide), if_neg (by decide), if_neg (by decide), if_neg (by decide), if_neg (by decide), if_neg (by decide), if_neg (by decide), if_neg (by decide), if_neg (by decide), if_neg (by decide), if_pos (by decide)]
  unfold b_X5_perform_319 b_X5_perform_341
  rw [ck_t (by decide), if_pos (by decide), bd_id]
theorem pf_19 (n r1 : Nat) (s : Mem) : f_X5_perform n r1 (nI 19) s = f_X5_changeStage n (nI 19) s := by
  unfold f_X5_perform
  rw [ck0_4, if_neg (by decide), if_neg (by decide), if_neg (by decide), if_neg (by decide), if_neg (by decide), if_neg (by decide), if_neg (by decide), if_neg (by decide), if_neg (by decide), if_neg (by decide), if_neg (by decide), if_neg (by decide), if_neg (by decide), if_neg (by decide), if_neg (by decide), if_neg (by decide), if_neg (by decide), if_neg (by decide), if_neg (by decide), if_pos (by decide)]
  unfold b_X5_perform_319 b_X5_perform_341
  rw [ck_t (by decide), if_pos (by decide), bd_id]
theorem pf_23 (n r1 : Nat) (s : Mem) : f_X5_perform n r1 (nI 23) s = f_X5_askActor n r1 (nI 23) s := by
  unfold f_X5_perform
  rw [ck0_4, if_neg (by decide), if_neg (by decide), if_neg (by decide), if_neg (by decide), if_neg (by decide), if_neg (by decide), if_neg (by decide), if_neg (by decide), if_neg (by decide), if_neg (by decide), if_neg (by decide), if_neg (by decide), if_neg (by decide), if_neg (by decide), if_neg (by decide), if_neg (by decide), if_neg (by decide), if_neg (by decide), if_neg (by decide), if_neg (by decide), if_neg (by decide), if_neg (by decide), if_neg (by decide), if_pos (by decide)]
  unfold b_X5_perform_306
  rw [bd_id]
theorem pf_24 (n r1 : Nat) (s : Mem) : f_X5_perform n r1 (nI 24) s = f_X5_askActor n r1 (nI 24) s := by
  unfold f_X5_perform
  rw [ck0_4, if_neg (by decide), if_neg (by decide), if_neg (by decide), if_neg (by decide), if_neg (by decide), if_neg (by decide), if_neg (by decide), if_neg (by decide), if_neg (by decide), if_neg (by decide), if_neg (by decide), if_neg (by decide), if_neg (by decide), if_neg (by decide), if_neg (by decide), if_neg (by decide), if_neg (by decide), if_neg (by decide), if_neg (by decide), if_neg (by decide), if_neg (by decide), if_neg (by decide), if_neg (by decide), if_neg (by decide), if_pos (by decide)]
  unfold b_X5_perform_306
  rw [bd_id]
theorem pf_25 (n r1 : Nat) (s : Mem) : f_X5_perform n r1 (nI 25) s = f_X5_askActor n r1 (nI 25) s := by
  unfold f_X5_perform
  rw [ck0_4, if_neg (by decide), if_neg (by decide), if_neg (by decide), if_neg (by decide), if_neg (by decide), if_neg (by decide), if_neg (by decide), if_neg (by decide), if_neg (by decide), if_neg (by decide), if_neg (by decide), if_neg (by decide), if_neg (by decide), if_neg (by decide), if_neg (by decide), if_neg (by decide), if_neg (by decide), if_neg (by decide), if_neg (by decide), if_neg (by decide), if_neg (by decide), if_neg (by decide), if_neg (by decide), if_neg (by decide), if_neg (by decide), if_pos (by decide)]
  unfold b_X5_perform_306
  rw [bd_id]
theorem pf_26 (n r1 : Nat) (s : Mem) : f_X5_perform n r1 (nI 26) s = f_X5_askActor n r1 (nI 26) s := by
  unfold f_X5_perform
  rw [ck0_4, if_neg (by decide), if_neg (by decide), if_neg (by decide), if_neg (by decide), if_neg (by decide), if_neg (by decide), if_neg (by decide), if_neg (by decide), if_neg (by decide), if_neg (by decide), if_neg (by decide), if_neg (by decide), if_neg (by decide), if_neg (by decide), if_neg (by decide), if_neg (by decide), if_neg (by decide), if_neg (by decide), if_neg (by decide), if_neg (by decide), if_neg (by decide), if_neg (by decide), if_neg (by decide), if_neg (by decide), if_neg (by decide), if_neg (by decide), if_pos (by decide)]
  unfold b_X5_perform_306
  rw [bd_id]
theorem pf_27 (n r1 : Nat) (s : Mem) : f_X5_perform n r1 (nI 27) s = f_X5_askActor n r1 (nI 27) s := by
  unfold f_X5_perform
  rw [ck0_4, if_neg (by decide), if_neg (by decide), if_neg (by decide), if_neg (by decide), if_neg (by decide), if_neg (by decide), if_neg (by decide), if_neg (by decide), if_neg (by decide), if_neg (by decide), if_neg (by decide), if_neg (by decide), if_neg (by decide), if_neg (by decide), if_neg (by decide), if_neg (by decide), if_neg (by decide), if_neg (by decide), if_neg (by decide), if_neg (by decide), if_neg (by decide), if_neg (by decide), if_neg (by decide), if_neg (by decide), if_neg (by decide), if_neg (by decide), if_neg (by decide), if_pos (by decide)]
  unfold b_X5_perform_306
  rw [bd_id]
theorem do_3 (n : Nat) (s : Mem) : f_X11_does n (nI 3) s = bd (f_X11_answer n (nI 3) s) fun x4 s3 => ck (inb (s 0 38) 781) (some (1, stM s3 15 (s 0 38).toNatClampNeg x4)) := by
  unfold f_X11_does
  rw [if_neg (by decide), if_neg (by decide), if_neg (by decide), if_pos (by decide)]
  unfold b_X11_does_367 b_X11_does_403
  rw [in_f n (nI 3) 13 21 _ (by decide), bd_mk, if_pos rfl]
  simp only [ckz1, lt_eq]
theorem do_4 (n : Nat) (s : Mem) : f_X11_does n (nI 4) s = bd (f_X11_answer n (nI 4) s) fun x4 s3 => ck (inb (s 0 38) 781) (some (1, stM s3 15 (s 0 38).toNatClampNeg x4)) := by
  unfold f_X11_does
  rw [if_neg (by decide), if_neg (by decide), if_neg (by decide), if_neg (by decide), if_pos (by decide)]
  unfold b_X11_does_367 b_X11_does_403
  rw [in_f n (nI 4) 13 21 _ (by decide), bd_mk, if_pos rfl]
  simp only [ckz1, lt_eq]
theorem do_5 (n : Nat) (s : Mem) : f_X11_does n (nI 5) s = bd (f_X11_answer n (nI 5) s) fun x4 s3 => ck (inb (s 0 38) 781) (some (1, stM s3 15 (s 0 38).toNatClampNeg x4)) := by
  unfold f_X11_does
  rw [if_neg (by decide), if_neg (by decide), if_neg (by decide), if_neg (by decide), if_neg (by decide), if_pos (by decide)]
  unfold b_X11_does_367 b_X11_does_403
  rw [in_f n (nI 5) 13 21 _ (by decide), bd_mk, if_pos rfl]
  simp only [ckz1, lt_eq]
theorem do_6 (n : Nat) (s : Mem) : f_X11_does n (nI 6) s = bd (f_X11_answer n (nI 6) s) fun x4 s3 => ck (inb (s 0 38) 781) (some (1, stM s3 15 (s 0 38).toNatClampNeg x4)) := by
  unfold f_X11_does
  rw [if_neg (by decide), if_neg (by decide), if_neg (by decide), if_neg (by decide), if_neg (by decide), if_neg (by decide), if_pos (by decide)]
  unfold b_X11_does_367 b_X11_does_403
  rw [in_f n (nI 6) 13 21 _ (by decide), bd_mk, if_pos rfl]
  simp only [ckz1, lt_eq]
theorem do_7 (n : Nat) (s : Mem) : f_X11_does n (nI 7) s = bd (f_X11_answer n (nI 7) s) fun x4 s3 => ck (inb (s 0 38) 781) (some (1, stM s3 15 (s 0 38).toNatClampNeg x4)) := by
  unfold f_X11_does
  rw [if_neg (by decide), if_neg (by decide), if_neg (by decide), if_neg (by decide), if_neg (by decide), if_neg (by decide), if_neg (by decide), if_pos (by decide)]
  unfold b_X11_does_367 b_X11_does_403
  rw [in_f n (nI 7) 13 21 _ (by decide), bd_mk, if_pos rfl]
  simp only [ckz1, lt_eq]
theorem do_23 (n : Nat) (s : Mem) : f_X11_does n (nI 23) s = bd (f_X11_answer n (nI 23) s) fun x4 s3 => ck (inb (s 0 38) 781) (some (1, stM s3 15 (s 0 38).toNatClampNeg x4)) := by
  unfold f_X11_does
  rw [if_neg (by decide), if_neg (by decide), if_neg (by decide), if_neg (by decide), if_neg (by decide), if_neg (by decide), if_neg (by decide), if_neg (by decide), if_neg (by decide), if_neg (by decide), if_neg (by decide), if_neg (by decide), if_neg (by decide), if_neg (by decide), if_neg (by decide), if_neg (by decide), if_neg (by decide), if_neg (by decide), if_neg (by decide), if_neg (by decide), if_neg (by decide), if_neg (by decide), if_neg (by decide), if_pos (by decide)]
  unfold b_X11_does_367 b_X11_does_403
  rw [in_f n (nI 23) 13 21 _ (by decide), bd_mk, if_pos rfl]
  simp only [ckz1, lt_eq]
theorem do_24 (n : Nat) (s : Mem) : f_X11_does n (nI 24) s = bd (f_X11_answer n (nI 24) s) fun x4 s3 => ck (inb (s 0 38) 781) (some (1, stM s3 15 (s 0 38).toNatClampNeg x4)) := by
  unfold f_X11_does
  rw [if_neg (by decide), if_neg (by decide), if_neg (by decide), if_neg (by decide), if_neg (by decide), if_neg (by decide), if_neg (by decide), if_neg (by decide), if_neg (by decide), if_neg (by decide), if_neg (by decide), if_neg (by decide), if_neg (by decide), if_neg (by decide), if_neg (by decide), if_neg (by decide), if_neg (by decide), if_neg (by decide), if_neg (by decide), if_neg (by decide), if_neg (by decide), if_neg (by decide), if_neg (by decide), if_neg (by decide), if_pos (by decide)]
  unfold b_X11_does_367 b_X11_does_403
  rw [in_f n (nI 24) 13 21 _ (by decide), bd_mk, if_pos rfl]
  simp only [ckz1, lt_eq]
theorem do_25 (n : Nat) (s : Mem) : f_X11_does n (nI 25) s = bd (f_X11_answer n (nI 25) s) fun x4 s3 => ck (inb (s 0 38) 781) (some (1, stM s3 15 (s 0 38).toNatClampNeg x4)) := by
  unfold f_X11_does
  rw [if_neg (by decide), if_neg (by decide), if_neg (by decide), if_neg (by decide), if_neg (by decide), if_neg (by decide), if_neg (by decide), if_neg (by decide), if_neg (by decide), if_neg (by decide), if_neg (by decide), if_neg (by decide), if_neg (by decide), if_neg (by decide), if_neg (by decide), if_neg (by decide), if_neg (by decide), if_neg (by decide), if_neg (by decide), if_neg (by decide), if_neg (by decide), if_neg (by decide), if_neg (by decide), if_neg (by decide), if_neg (by decide), if_pos (by decide)]
  unfold b_X11_does_367 b_X11_does_403
  rw [in_f n (nI 25) 13 21 _ (by decide), bd_mk, if_pos rfl]
  simp only [ckz1, lt_eq]
theorem do_26 (n : Nat) (s : Mem) : f_X11_does n (nI 26) s = bd (f_X11_answer n (nI 26) s) fun x4 s3 => ck (inb (s 0 38) 781) (some (1, stM s3 15 (s 0 38).toNatClampNeg x4)) := by
  unfold f_X11_does
  rw [if_neg (by decide), if_neg (by decide), if_neg (by decide), if_neg (by decide), if_neg (by decide), if_neg (by decide), if_neg (by decide), if_neg (by decide), if_neg (by decide), if_neg (by decide), if_neg (by decide), if_neg (by decide), if_neg (by decide), if_neg (by decide), if_neg (by decide), if_neg (by decide), if_neg (by decide), if_neg (by decide), if_neg (by decide), if_neg (by decide), if_neg (by decide), if_neg (by decide), if_neg (by decide), if_neg (by decide), if_neg (by decide), if_neg (by decide), if_pos (by decide)]
  unfold b_X11_does_367 b_X11_does_403
  rw [in_f n (nI 26) 13 21 _ (by decide), bd_mk, if_pos rfl]
  simp only [ckz1, lt_eq]
theorem do_27 (n : Nat) (s : Mem) : f_X11_does n (nI 27) s = bd (f_X11_answer n (nI 27) s) fun x4 s3 => ck (inb (s 0 38) 781) (some (1, stM s3 15 (s 0 38).toNatClampNeg x4)) := by
  unfold f_X11_does
  rw [if_neg (by decide), if_neg (by decide), if_neg (by decide), if_neg (by decide), if_neg (by decide), if_neg (by decide), if_neg (by decide), if_neg (by decide), if_neg (by decide), if_neg (by decide), if_neg (by decide), if_neg (by decide), if_neg (by decide), if_neg (by decide), if_neg (by decide), if_neg (by decide), if_neg (by decide), if_neg (by decide), if_neg (by decide), if_neg (by decide), if_neg (by decide), if_neg (by decide), if_neg (by decide), if_neg (by decide), if_neg (by decide), if_neg (by decide), if_neg (by decide), if_pos (by decide)]
  unfold b_X11_does_367 b_X11_does_403
  rw [in_f n (nI 27) 13 21 _ (by decide), bd_mk, if_pos rfl]
  simp only [ckz1, lt_eq]
theorem do_28 (n : Nat) (s : Mem) : f_X11_does n (nI 28) s = bd (f_X11_answer n (nI 28) s) fun x4 s3 => ck (inb (s 0 38) 781) (some (1, stM s3 15 (s 0 38).toNatClampNeg x4)) := by
  unfold f_X11_does
  rw [if_neg (by decide), if_neg (by decide), if_neg (by decide), if_neg (by decide), if_neg (by decide), if_neg (by decide), if_neg (by decide), if_neg (by decide), if_neg (by decide), if_neg (by decide), if_neg (by decide), if_neg (by decide), if_neg (by decide), if_neg (by decide), if_neg (by decide), if_neg (by decide), if_neg (by decide), if_neg (by decide), if_neg (by decide), if_neg (by decide), if_neg (by decide), if_neg (by decide), if_neg (by decide), if_neg (by decide), if_neg (by decide), if_neg (by decide), if_neg (by decide), if_neg (by decide), if_pos (by decide)]
  unfold b_X11_does_367 b_X11_does_403
  rw [in_f n (nI 28) 13 21 _ (by decide), bd_mk, if_pos rfl]
  simp only [ckz1, lt_eq]
theorem do_29 (n : Nat) (s : Mem) : f_X11_does n (nI 29) s = bd (f_X11_answer n (nI 29) s) fun x4 s3 => ck (inb (s 0 38) 781) (some (1, stM s3 15 (s 0 38).toNatClampNeg x4)) := by
  unfold f_X11_does
  rw [if_neg (by decide), if_neg (by decide), if_neg (by decide), if_neg (by decide), if_neg (by decide), if_neg (by decide), if_neg (by decide), if_neg (by decide), if_neg (by decide), if_neg (by decide), if_neg (by decide), if_neg (by decide), if_neg (by decide), if_neg (by decide), if_neg (by decide), if_neg (by decide), if_neg (by decide), if_neg (by decide), if_neg (by decide), if_neg (by decide), if_neg (by decide), if_neg (by decide), if_neg (by decide), if_neg (by decide), if_neg (by decide), if_neg (by decide), if_neg (by decide), if_neg (by decide), if_neg (by decide), if_pos (by decide)]
  unfold b_X11_does_367 b_X11_does_403
  rw [in_f n (nI 29) 13 21 _ (by decide), bd_mk, if_pos rfl]
  simp only [ckz1, lt_eq]
theorem do_30 (n : Nat) (s : Mem) : f_X11_does n (nI 30) s = bd (f_X11_answer n (nI 30) s) fun x4 s3 => ck (inb (s 0 38) 781) (some (1, stM s3 15 (s 0 38).toNatClampNeg x4)) := by
  unfold f_X11_does
  rw [if_neg (by decide), if_neg (by decide), if_neg (by decide), if_neg (by decide), if_neg (by decide), if_neg (by decide), if_neg (by decide), if_neg (by decide), if_neg (by decide), if_neg (by decide), if_neg (by decide), if_neg (by decide), if_neg (by decide), if_neg (by decide), if_neg (by decide), if_neg (by decide), if_neg (by decide), if_neg (by decide), if_neg (by decide), if_neg (by decide), if_neg (by decide), if_neg (by decide), if_neg (by decide), if_neg (by decide), if_neg (by decide), if_neg (by decide), if_neg (by decide), if_neg (by decide), if_neg (by decide), if_neg (by decide), if_pos (by decide)]
  unfold b_X11_does_367 b_X11_does_403
  rw [in_f n (nI 30) 13 21 _ (by decide), bd_mk, if_pos rfl]
  simp only [ckz1, lt_eq]
theorem do_31 (n : Nat) (s : Mem) : f_X11_does n (nI 31) s = bd (f_X11_answer n (nI 31) s) fun x4 s3 => ck (inb (s 0 38) 781) (some (1, stM s3 15 (s 0 38).toNatClampNeg x4)) := by
  unfold f_X11_does
  rw [if_neg (by decide), if_neg (by decide), if_neg (by decide), if_neg (by decide), if_neg (by decide), if_neg (by decide), if_neg (by decide), if_neg (by decide), if_neg (by decide), if_neg (by decide), if_neg (by decide), if_neg (by decide), if_neg (by decide), if_neg (by decide), if_neg (by decide), if_neg (by decide), if_neg (by decide), if_neg (by decide), if_neg (by decide), if_neg (by decide), if_neg (by decide), if_neg (by decide), if_neg (by decide), if_neg (by decide), if_neg (by decide), if_neg (by decide), if_neg (by decide), if_neg (by decide), if_neg (by decide), if_neg (by decide), if_neg (by decide), if_pos (by decide)]
  unfold b_X11_does_367 b_X11_does_403
  rw [in_f n (nI 31) 13 21 _ (by decide), bd_mk, if_pos rfl]
  simp only [ckz1, lt_eq]
theorem do_32 (n : Nat) (s : Mem) : f_X11_does n (nI 32) s = bd (f_X11_answer n (nI 32) s) fun x4 s3 => ck (inb (s 0 38) 781) (some (1, stM s3 15 (s 0 38).toNatClampNeg x4)) := by
  unfold f_X11_does
  rw [if_neg (by decide), if_neg (by decide), if_neg (by decide), if_neg (by decide), if_neg (by decide), if_neg (by decide), if_neg (by decide), if_neg (by decide), if_neg (by decide), if_neg (by decide), if_neg (by decide), if_neg (by decide), if_neg (by decide), if_neg (by decide), if_neg (by decide), if_neg (by decide), if_neg (by decide), if_neg (by decide), if_neg (by decide), if_neg (by decide), if_neg (by decide), if_neg (by decide), if_neg (by decide), if_neg (by decide), if_neg (by decide), if_neg (by decide), if_neg (by decide), if_neg (by decide), if_neg (by decide), if_neg (by decide), if_neg (by decide), if_neg (by decide), if_pos (by decide)]
  unfold b_X11_does_367 b_X11_does_403
  rw [in_f n (nI 32) 13 21 _ (by decide), bd_mk, if_pos rfl]
  simp only [ckz1, lt_eq]
theorem do_13 (n : Nat) (s : Mem) : f_X11_does n (nI 13) s = bv (f_X11_acts n (nI 13) s) fun s6 => some (1, s6) := by
  unfold f_X11_does
  rw [if_neg (by decide), if_neg (by decide), if_neg (by decide), if_neg (by decide), if_neg (by decide), if_neg (by decide), if_neg (by decide), if_neg (by decide), if_neg (by decide), if_neg (by decide), if_neg (by decide), if_neg (by decide), if_neg (by decide), if_pos (by decide)]
  unfold b_X11_does_367 b_X11_does_403
  rw [in_t n (nI 13) 13 21 _ (by decide), bd_mk, if_neg (show ¬ (1 : Int32) = 0 by decide)]
  simp only [ckz1, lt_eq]
theorem do_14 (n : Nat) (s : Mem) : f_X11_does n (nI 14) s = bv (f_X11_acts n (nI 14) s) fun s6 => some (1, s6) := by
  unfold f_X11_does
  rw [if_neg (by decide), if_neg (by decide), if_neg (by decide), if_neg (by decide), if_neg (by decide), if_neg (by decide), if_neg (by decide), if_neg (by decide), if_neg (by decide), if_neg (by decide), if_neg (by decide), if_neg (by decide), if_neg (by decide), if_neg (by decide), if_pos (by decide)]
  unfold b_X11_does_367 b_X11_does_403
  rw [in_t n (nI 14) 13 21 _ (by decide), bd_mk, if_neg (show ¬ (1 : Int32) = 0 by decide)]
  simp only [ckz1, lt_eq]
theorem do_16 (n : Nat) (s : Mem) : f_X11_does n (nI 16) s = bv (f_X11_acts n (nI 16) s) fun s6 => some (1, s6) := by
  unfold f_X11_does
  rw [if_neg (by decide), if_neg (by decide), if_neg (by decide), if_neg (by decide), if_neg (by decide), if_neg (by decide), if_neg (by decide), if_neg (by decide), if_neg (by decide), if_neg (by decide), if_neg (by decide), if_neg (by decide), if_neg (by decide), if_neg (by decide), if_neg (by decide), if_neg (by decide), if_pos (by decide)]
  unfold b_X11_does_367 b_X11_does_403
  rw [in_t n (nI 16) 13 21 _ (by decide), bd_mk, if_neg (show ¬ (1 : Int32) = 0 by decide)]
  simp only [ckz1, lt_eq]
theorem do_17 (n : Nat) (s : Mem) : f_X11_does n (nI 17) s = bv (f_X11_acts n (nI 17) s) fun s6 => some (1, s6) := by
  unfold f_X11_does
  rw [if_neg (by decide), if_neg (by decide), if_neg (by decide), if_neg (by decide), if_neg (by decide), if_neg (by decide), if_neg (by decide), if_neg (by decide), if_neg (by decide), if_neg (by decide), if_neg (by decide), if_neg (by decide), if_neg (by decide), if_neg (by decide), if_neg (by decide), if_neg (by decide), if_neg (by decide), if_pos (by decide)]
  unfold b_X11_does_367 b_X11_does_403
  rw [in_t n (nI 17) 13 21 _ (by decide), bd_mk, if_neg (show ¬ (1 : Int32) = 0 by decide)]
  simp only [ckz1, lt_eq]
theorem do_18 (n : Nat) (s : Mem) : f_X11_does n (nI 18) s = bv (f_X11_acts n (nI 18) s) fun s6 => some (1, s6) := by
  unfold f_X11_does
  rw [if_neg (by decide), if_neg (by decide), if_neg (by decide), if_neg (by decide), if_neg (by decide), if_neg (by decide), if_neg (by decide), if_neg (by decide), if_neg (by decide), if_neg (by decide), if_neg (by decide), if_neg (by decide), if_neg (by decide), if_neg (by decide), if_neg (by decide), if_neg (by decide), if_neg (by decide), if_neg (by decide), if_pos (by decide)]
  unfold b_X11_does_367 b_X11_does_403
  rw [in_t n (nI 18) 13 21 _ (by decide), bd_mk, if_neg (show ¬ (1 : Int32) = 0 by decide)]
  simp only [ckz1, lt_eq]
theorem do_19 (n : Nat) (s : Mem) : f_X11_does n (nI 19) s = bv (f_X11_acts n (nI 19) s) fun s6 => some (1, s6) := by
  unfold f_X11_does
  rw [if_neg (by decide), if_neg (by decide), if_neg (by decide), if_neg (by decide), if_neg (by decide), if_neg (by decide), if_neg (by decide), if_neg (by decide), if_neg (by decide), if_neg (by decide), if_neg (by decide), if_neg (by decide), if_neg (by decide), if_neg (by decide), if_neg (by decide), if_neg (by decide), if_neg (by decide), if_neg (by decide), if_neg (by decide), if_pos (by decide)]
  unfold b_X11_does_367 b_X11_does_403
  rw [in_t n (nI 19) 13 21 _ (by decide), bd_mk, if_neg (show ¬ (1 : Int32) = 0 by decide)]
  simp only [ckz1, lt_eq]
theorem do_20 (n : Nat) (s : Mem) : f_X11_does n (nI 20) s = bv (f_X11_acts n (nI 20) s) fun s6 => some (1, s6) := by
  unfold f_X11_does
  rw [if_neg (by decide), if_neg (by decide), if_neg (by decide), if_neg (by decide), if_neg (by decide), if_neg (by decide), if_neg (by decide), if_neg (by decide), if_neg (by decide), if_neg (by decide), if_neg (by decide), if_neg (by decide), if_neg (by decide), if_neg (by decide), if_neg (by decide), if_neg (by decide), if_neg (by decide), if_neg (by decide), if_neg (by decide), if_neg (by decide), if_pos (by decide)]
  unfold b_X11_does_367 b_X11_does_403
  rw [in_t n (nI 20) 13 21 _ (by decide), bd_mk, if_neg (show ¬ (1 : Int32) = 0 by decide)]
  simp only [ckz1, lt_eq]
theorem do_21 (n : Nat) (s : Mem) : f_X11_does n (nI 21) s = bv (f_X11_acts n (nI 21) s) fun s6 => some (1, s6) := by
  unfold f_X11_does
  rw [if_neg (by decide), if_neg (by decide), if_neg (by decide), if_neg (by decide), if_neg (by decide), if_neg (by decide), if_neg (by decide), if_neg (by decide), if_neg (by decide), if_neg (by decide), if_neg (by decide), if_neg (by decide), if_neg (by decide), if_neg (by decide), if_neg (by decide), if_neg (by decide), if_neg (by decide), if_neg (by decide), if_neg (by decide), if_neg (by decide), if_neg (by decide), if_pos (by decide)]
  unfold b_X11_does_367 b_X11_does_403
  rw [in_t n (nI 21) 13 21 _ (by decide), bd_mk, if_neg (show ¬ (1 : Int32) = 0 by decide)]
  simp only [ckz1, lt_eq]
theorem pf_0 (n r1 : Nat) (s : Mem) : f_X5_perform n r1 (nI 0) s = bv (f_X6_release n r1 s) (fun s1 => some ((1 : Int32), s1)) := by
  unfold f_X5_perform
  rw [ck0_4, if_pos (by decide)]
  all_goals (try simp only [b_X5_perform_192, b_X5_perform_213, b_X5_perform_302, b_X5_perform_306, b_X5_perform_341, b_X5_perform_319, ck0_4, ck1_4, ck2_4, ck3_4, ck0_781, ck1_781, ck2_781, ck3_781, ck4_781, ck5_781, ck6_781, ckz0, ckz1, cl0, cl1, cl2, cl3, cl4, cl5, cl6])
theorem pf_1 (n r1 : Nat) (s : Mem) : f_X5_perform n r1 (nI 1) s = some ((1 : Int32), s) := by
  unfold f_X5_perform
  rw [ck0_4, if_neg (by decide), if_pos (by decide)]
  all_goals (try simp only [b_X5_perform_192, b_X5_perform_213, b_X5_perform_302, b_X5_perform_306, b_X5_perform_341, b_X5_perform_319, ck0_4, ck1_4, ck2_4, ck3_4, ck0_781, ck1_781, ck2_781, ck3_781, ck4_781, ck5_781, ck6_781, ckz0, ckz1, cl0, cl1, cl2, cl3, cl4, cl5, cl6])
theorem pf_2 (n r1 : Nat) (s : Mem) : f_X5_perform n r1 (nI 2) s = bd (f_X5_goIf n r1 (1 : Int32) s) (fun x3 s2 => some (x3, s2)) := by
  unfold f_X5_perform
  rw [ck0_4, if_neg (by decide), if_neg (by decide), if_pos (by decide)]
  all_goals (try simp only [b_X5_perform_192, b_X5_perform_213, b_X5_perform_302, b_X5_perform_306, b_X5_perform_341, b_X5_perform_319, ck0_4, ck1_4, ck2_4, ck3_4, ck0_781, ck1_781, ck2_781, ck3_781, ck4_781, ck5_781, ck6_781, ckz0, ckz1, cl0, cl1, cl2, cl3, cl4, cl5, cl6])
theorem pf_8 (n r1 : Nat) (s : Mem) : f_X5_perform n r1 (nI 8) s = (if (s 119 0) = (s 119 1) then ((bd (f_X5_goIf n r1 (1 : Int32) s) (fun x2 s1 => some (x2, s1)))) else ((bd (f_X5_goIf n r1 (0 : Int32) s) (fun x2 s1 => some (x2, s1))))) := by
  unfold f_X5_perform
  rw [ck0_4, if_neg (by decide), if_neg (by decide), if_neg (by decide), if_neg (by decide), if_neg (by decide), if_neg (by decide), if_neg (by decide), if_neg (by decide), if_pos (by decide)]
  all_goals (try simp only [b_X5_perform_192, b_X5_perform_213, b_X5_perform_302, b_X5_perform_306, b_X5_perform_341, b_X5_perform_319, ck0_4, ck1_4, ck2_4, ck3_4, ck0_781, ck1_781, ck2_781, ck3_781, ck4_781, ck5_781, ck6_781, ckz0, ckz1, cl0, cl1, cl2, cl3, cl4, cl5, cl6])
theorem pf_9 (n r1 : Nat) (s : Mem) : f_X5_perform n r1 (nI 9) s = (if (s 119 1) ≤ (s 119 0) then ((bd (f_X5_goIf n r1 (0 : Int32) s) (fun x2 s1 => some (x2, s1)))) else ((bd (f_X5_goIf n r1 (1 : Int32) s) (fun x2 s1 => some (x2, s1))))) := by
  unfold f_X5_perform
  rw [ck0_4, if_neg (by decide), if_neg (by decide), if_neg (by decide), if_neg (by decide), if_neg (by decide), if_neg (by decide), if_neg (by decide), if_neg (by decide), if_neg (by decide), if_pos (by decide)]
  all_goals (try simp only [b_X5_perform_192, b_X5_perform_213, b_X5_perform_302, b_X5_perform_306, b_X5_perform_341, b_X5_perform_319, ck0_4, ck1_4, ck2_4, ck3_4, ck0_781, ck1_781, ck2_781, ck3_781, ck4_781, ck5_781, ck6_781, ckz0, ckz1, cl0, cl1, cl2, cl3, cl4, cl5, cl6])
theorem pf_10 (n r1 : Nat) (s : Mem) : f_X5_perform n r1 (nI 10) s = lt (stM s r1 2 (if (0 : Int32) < (s 119 0) then (s 119 0) else (0 : Int32))) (fun s4 => some ((1 : Int32), s4)) := by
  unfold f_X5_perform
  rw [ck0_4, if_neg (by decide), if_neg (by decide), if_neg (by decide), if_neg (by decide), if_neg (by decide), if_neg (by decide), if_neg (by decide), if_neg (by decide), if_neg (by decide), if_neg (by decide), if_pos (by decide)]
  all_goals (try simp only [b_X5_perform_192, b_X5_perform_213, b_X5_perform_302, b_X5_perform_306, b_X5_perform_341, b_X5_perform_319, ck0_4, ck1_4, ck2_4, ck3_4, ck0_781, ck1_781, ck2_781, ck3_781, ck4_781, ck5_781, ck6_781, ckz0, ckz1, cl0, cl1, cl2, cl3, cl4, cl5, cl6])
theorem pf_11 (n r1 : Nat) (s : Mem) : f_X5_perform n r1 (nI 11) s = bd (f_X5_startScript n (s 119 0) (0 : Int32) s) (fun x6 s5 => some ((0 : Int32), s5)) := by
  unfold f_X5_perform
  rw [ck0_4, if_neg (by decide), if_neg (by decide), if_neg (by decide), if_neg (by decide), if_neg (by decide), if_neg (by decide), if_neg (by decide), if_neg (by decide), if_neg (by decide), if_neg (by decide), if_neg (by decide), if_pos (by decide)]
  all_goals (try simp only [b_X5_perform_192, b_X5_perform_213, b_X5_perform_302, b_X5_perform_306, b_X5_perform_341, b_X5_perform_319, ck0_4, ck1_4, ck2_4, ck3_4, ck0_781, ck1_781, ck2_781, ck3_781, ck4_781, ck5_781, ck6_781, ckz0, ckz1, cl0, cl1, cl2, cl3, cl4, cl5, cl6])
theorem pf_12 (n r1 : Nat) (s : Mem) : f_X5_perform n r1 (nI 12) s = bd (f_X5_stopScript n r1 (s 119 0) s) (fun x8 s7 => some (x8, s7)) := by
  unfold f_X5_perform
  rw [ck0_4, if_neg (by decide), if_neg (by decide), if_neg (by decide), if_neg (by decide), if_neg (by decide), if_neg (by decide), if_neg (by decide), if_neg (by decide), if_neg (by decide), if_neg (by decide), if_neg (by decide), if_neg (by decide), if_pos (by decide)]
  all_goals (try simp only [b_X5_perform_192, b_X5_perform_213, b_X5_perform_302, b_X5_perform_306, b_X5_perform_341, b_X5_perform_319, ck0_4, ck1_4, ck2_4, ck3_4, ck0_781, ck1_781, ck2_781, ck3_781, ck4_781, ck5_781, ck6_781, ckz0, ckz1, cl0, cl1, cl2, cl3, cl4, cl5, cl6])
theorem pf_15 (n r1 : Nat) (s : Mem) : f_X5_perform n r1 (nI 15) s = bd (f_X5_await n r1 (s 119 0) s) (fun x10 s9 => some (x10, s9)) := by
  unfold f_X5_perform
  rw [ck0_4, if_neg (by decide), if_neg (by decide), if_neg (by decide), if_neg (by decide), if_neg (by decide), if_neg (by decide), if_neg (by decide), if_neg (by decide), if_neg (by decide), if_neg (by decide), if_neg (by decide), if_neg (by decide), if_neg (by decide), if_neg (by decide), if_neg (by decide), if_pos (by decide)]
  all_goals (try simp only [b_X5_perform_192, b_X5_perform_213, b_X5_perform_302, b_X5_perform_306, b_X5_perform_341, b_X5_perform_319, ck0_4, ck1_4, ck2_4, ck3_4, ck0_781, ck1_781, ck2_781, ck3_781, ck4_781, ck5_781, ck6_781, ckz0, ckz1, cl0, cl1, cl2, cl3, cl4, cl5, cl6])
theorem pf_20 (n r1 : Nat) (s : Mem) : f_X5_perform n r1 (nI 20) s = bv (f_X7_addNote n 33 (s 119 0) s) (fun s11 => some ((0 : Int32), s11)) := by
  unfold f_X5_perform
  rw [ck0_4, if_neg (by decide), if_neg (by decide), if_neg (by decide), if_neg (by decide), if_neg (by decide), if_neg (by decide), if_neg (by decide), if_neg (by decide), if_neg (by decide), if_neg (by decide), if_neg (by decide), if_neg (by decide), if_neg (by decide), if_neg (by decide), if_neg (by decide), if_neg (by decide), if_neg (by decide), if_neg (by decide), if_neg (by decide), if_neg (by decide), if_pos (by decide)]
  all_goals (try simp only [b_X5_perform_192, b_X5_perform_213, b_X5_perform_302, b_X5_perform_306, b_X5_perform_341, b_X5_perform_319, ck0_4, ck1_4, ck2_4, ck3_4, ck0_781, ck1_781, ck2_781, ck3_781, ck4_781, ck5_781, ck6_781, ckz0, ckz1, cl0, cl1, cl2, cl3, cl4, cl5, cl6])
theorem pf_21 (n r1 : Nat) (s : Mem) : f_X5_perform n r1 (nI 21) s = ((bd (f_X7_addSentence n 33 (s 119 0) (s 119 1) (s 119 2) s) (fun x13 s12 => some ((0 : Int32), s12)))) := by
  unfold f_X5_perform
  rw [ck0_4, if_neg (by decide), if_neg (by decide), if_neg (by decide), if_neg (by decide), if_neg (by decide), if_neg (by decide), if_neg (by decide), if_neg (by decide), if_neg (by decide), if_neg (by decide), if_neg (by decide), if_neg (by decide), if_neg (by decide), if_neg (by decide), if_neg (by decide), if_neg (by decide), if_neg (by decide), if_neg (by decide), if_neg (by decide), if_neg (by decide), if_neg (by decide), if_pos (by decide)]
  all_goals (try simp only [b_X5_perform_192, b_X5_perform_213, b_X5_perform_302, b_X5_perform_306, b_X5_perform_341, b_X5_perform_319, ck0_4, ck1_4, ck2_4, ck3_4, ck0_781, ck1_781, ck2_781, ck3_781, ck4_781, ck5_781, ck6_781, ckz0, ckz1, cl0, cl1, cl2, cl3, cl4, cl5, cl6])
theorem pf_22 (n r1 : Nat) (s : Mem) : f_X5_perform n r1 (nI 22) s = if (s 119 0) = 0 then ((bd (f_X5_freezeOthers n r1 (0 : Int32) s) (fun x2 s1 => some (x2, s1)))) else ((bd (f_X5_freezeOthers n r1 (1 : Int32) s) (fun x2 s1 => some (x2, s1)))) := by
  unfold f_X5_perform
  rw [ck0_4, if_neg (by decide), if_neg (by decide), if_neg (by decide), if_neg (by decide), if_neg (by decide), if_neg (by decide), if_neg (by decide), if_neg (by decide), if_neg (by decide), if_neg (by decide), if_neg (by decide), if_neg (by decide), if_neg (by decide), if_neg (by decide), if_neg (by decide), if_neg (by decide), if_neg (by decide), if_neg (by decide), if_neg (by decide), if_neg (by decide), if_neg (by decide), if_neg (by decide), if_pos (by decide)]
  all_goals (try simp only [b_X5_perform_192, b_X5_perform_213, b_X5_perform_302, b_X5_perform_306, b_X5_perform_341, b_X5_perform_319, ck0_4, ck1_4, ck2_4, ck3_4, ck0_781, ck1_781, ck2_781, ck3_781, ck4_781, ck5_781, ck6_781, ckz0, ckz1, cl0, cl1, cl2, cl3, cl4, cl5, cl6])
theorem pf_31 (n r1 : Nat) (s : Mem) : f_X5_perform n r1 (nI 31) s = bd (f_X5_askDistance n r1 s) (fun x15 s14 => some (x15, s14)) := by
  unfold f_X5_perform
  rw [ck0_4, if_neg (by decide), if_neg (by decide), if_neg (by decide), if_neg (by decide), if_neg (by decide), if_neg (by decide), if_neg (by decide), if_neg (by decide), if_neg (by decide), if_neg (by decide), if_neg (by decide), if_neg (by decide), if_neg (by decide), if_neg (by decide), if_neg (by decide), if_neg (by decide), if_neg (by decide), if_neg (by decide), if_neg (by decide), if_neg (by decide), if_neg (by decide), if_neg (by decide), if_neg (by decide), if_neg (by decide), if_neg (by decide), if_neg (by decide), if_neg (by decide), if_neg (by decide), if_neg (by decide), if_neg (by decide), if_neg (by decide), if_pos (by decide)]
  all_goals (try simp only [b_X5_perform_192, b_X5_perform_213, b_X5_perform_302, b_X5_perform_306, b_X5_perform_341, b_X5_perform_319, ck0_4, ck1_4, ck2_4, ck3_4, ck0_781, ck1_781, ck2_781, ck3_781, ck4_781, ck5_781, ck6_781, ckz0, ckz1, cl0, cl1, cl2, cl3, cl4, cl5, cl6])
theorem pf_33 (n r1 : Nat) (s : Mem) : f_X5_perform n r1 (nI 33) s = bd (f_X5_chain n r1 (s 119 0) s) (fun x17 s16 => some (x17, s16)) := by
  unfold f_X5_perform
  rw [ck0_4, if_neg (by decide), if_neg (by decide), if_neg (by decide), if_neg (by decide), if_neg (by decide), if_neg (by decide), if_neg (by decide), if_neg (by decide), if_neg (by decide), if_neg (by decide), if_neg (by decide), if_neg (by decide), if_neg (by decide), if_neg (by decide), if_neg (by decide), if_neg (by decide), if_neg (by decide), if_neg (by decide), if_neg (by decide), if_neg (by decide), if_neg (by decide), if_neg (by decide), if_neg (by decide), if_neg (by decide), if_neg (by decide), if_neg (by decide), if_neg (by decide), if_neg (by decide), if_neg (by decide), if_neg (by decide), if_neg (by decide), if_neg (by decide), if_neg (by decide), if_pos (by decide)]
  all_goals (try simp only [b_X5_perform_192, b_X5_perform_213, b_X5_perform_302, b_X5_perform_306, b_X5_perform_341, b_X5_perform_319, ck0_4, ck1_4, ck2_4, ck3_4, ck0_781, ck1_781, ck2_781, ck3_781, ck4_781, ck5_781, ck6_781, ckz0, ckz1, cl0, cl1, cl2, cl3, cl4, cl5, cl6])
theorem cs_13 (n : Nat) (s : Mem) : f_X5_changeStage n (nI 13) s = (((bd (f_X5_putActor n (s 119 0) (s 119 1) (s 119 2) (s 119 3) s) (fun x2 s1 => some (x2, s1))))) := by
  unfold f_X5_changeStage
  rw [ck0_4, if_pos (by decide)]
  all_goals (try simp only [b_X5_changeStage_104, b_X5_changeStage_163, b_X5_changeStage_167, ck0_4, ck1_4, ck2_4, ck3_4, ck0_781, ck1_781, ck2_781, ck3_781, ck4_781, ck5_781, ck6_781, ckz0, ckz1, cl0, cl1, cl2, cl3, cl4, cl5, cl6])
theorem cs_14 (n : Nat) (s : Mem) : f_X5_changeStage n (nI 14) s = ((bd (f_X9_send n (s 119 0) (s 119 1) (s 119 2) s) (fun x4 s3 => if x4 = 0 then ((some ((2 : Int32), s3))) else ((some ((0 : Int32), s3)))))) := by
  unfold f_X5_changeStage
  rw [ck0_4, if_neg (by decide), if_pos (by decide)]
  all_goals (try simp only [b_X5_changeStage_104, b_X5_changeStage_163, b_X5_changeStage_167, ck0_4, ck1_4, ck2_4, ck3_4, ck0_781, ck1_781, ck2_781, ck3_781, ck4_781, ck5_781, ck6_781, ckz0, ckz1, cl0, cl1, cl2, cl3, cl4, cl5, cl6])
theorem cs_16 (n : Nat) (s : Mem) : f_X5_changeStage n (nI 16) s = (bd (f_X5_setSpeed n (s 119 0) (s 119 1) s) (fun x6 s5 => some (x6, s5))) := by
  unfold f_X5_changeStage
  rw [ck0_4, if_neg (by decide), if_neg (by decide), if_neg (by decide), if_pos (by decide)]
  all_goals (try simp only [b_X5_changeStage_104, b_X5_changeStage_163, b_X5_changeStage_167, ck0_4, ck1_4, ck2_4, ck3_4, ck0_781, ck1_781, ck2_781, ck3_781, ck4_781, ck5_781, ck6_781, ckz0, ckz1, cl0, cl1, cl2, cl3, cl4, cl5, cl6])
theorem cs_17 (n : Nat) (s : Mem) : f_X5_changeStage n (nI 17) s = (bd (f_X5_setState n (s 119 0) (s 119 1) s) (fun x8 s7 => some (x8, s7))) := by
  unfold f_X5_changeStage
  rw [ck0_4, if_neg (by decide), if_neg (by decide), if_neg (by decide), if_neg (by decide), if_pos (by decide)]
  all_goals (try simp only [b_X5_changeStage_104, b_X5_changeStage_163, b_X5_changeStage_167, ck0_4, ck1_4, ck2_4, ck3_4, ck0_781, ck1_781, ck2_781, ck3_781, ck4_781, ck5_781, ck6_781, ckz0, ckz1, cl0, cl1, cl2, cl3, cl4, cl5, cl6])
theorem cs_18 (n : Nat) (s : Mem) : f_X5_changeStage n (nI 18) s = (bd (f_X5_setOwner n (s 119 0) (s 119 1) s) (fun x10 s9 => some (x10, s9))) := by
  unfold f_X5_changeStage
  rw [ck0_4, if_neg (by decide), if_neg (by decide), if_neg (by decide), if_neg (by decide), if_neg (by decide), if_pos (by decide)]
  all_goals (try simp only [b_X5_changeStage_104, b_X5_changeStage_163, b_X5_changeStage_167, ck0_4, ck1_4, ck2_4, ck3_4, ck0_781, ck1_781, ck2_781, ck3_781, ck4_781, ck5_781, ck6_781, ckz0, ckz1, cl0, cl1, cl2, cl3, cl4, cl5, cl6])
theorem cs_19 (n : Nat) (s : Mem) : f_X5_changeStage n (nI 19) s = ((if (s 119 2) = 0 then ((bd (f_X5_shutBox n (s 119 0) (s 119 1) (0 : Int32) s) (fun x2 s1 => some (x2, s1)))) else ((bd (f_X5_shutBox n (s 119 0) (s 119 1) (1 : Int32) s) (fun x2 s1 => some (x2, s1)))))) := by
  unfold f_X5_changeStage
  rw [ck0_4, if_neg (by decide), if_neg (by decide), if_neg (by decide), if_neg (by decide), if_neg (by decide), if_neg (by decide), if_pos (by decide)]
  all_goals (try simp only [b_X5_changeStage_104, b_X5_changeStage_163, b_X5_changeStage_167, ck0_4, ck1_4, ck2_4, ck3_4, ck0_781, ck1_781, ck2_781, ck3_781, ck4_781, ck5_781, ck6_781, ckz0, ckz1, cl0, cl1, cl2, cl3, cl4, cl5, cl6])
theorem as_3 (n r1 : Nat) (s : Mem) : f_X5_assign n r1 (nI 3) s = bd (f_X5_store n r1 (s 119 0) s) (fun x2 s1 => some (x2, s1)) := by
  unfold f_X5_assign
  rw [ck0_4, if_pos (by decide)]
  all_goals (try simp only [b_X5_assign_226, b_X5_assign_259, b_X5_assign_292, b_X5_assign_321, ck0_4, ck1_4, ck2_4, ck3_4, ck0_781, ck1_781, ck2_781, ck3_781, ck4_781, ck5_781, ck6_781, ckz0, ckz1, cl0, cl1, cl2, cl3, cl4, cl5, cl6])
theorem as_4 (n r1 : Nat) (s : Mem) : f_X5_assign n r1 (nI 4) s = bd (f_X5_fetch n r1 (s 118 5) s) (fun x4 s3 => bd (f_X5_store n r1 (x4 + (s 119 0)) s3) (fun x6 s5 => some (x6, s5))) := by
  unfold f_X5_assign
  rw [ck0_4, if_neg (by decide), if_pos (by decide)]
  all_goals (try simp only [b_X5_assign_226, b_X5_assign_259, b_X5_assign_292, b_X5_assign_321, ck0_4, ck1_4, ck2_4, ck3_4, ck0_781, ck1_781, ck2_781, ck3_781, ck4_781, ck5_781, ck6_781, ckz0, ckz1, cl0, cl1, cl2, cl3, cl4, cl5, cl6])
theorem as_5 (n r1 : Nat) (s : Mem) : f_X5_assign n r1 (nI 5) s = bd (f_X5_fetch n r1 (s 118 5) s) (fun x8 s7 => bd (f_X5_store n r1 (x8 - (s 119 0)) s7) (fun x10 s9 => some (x10, s9))) := by
  unfold f_X5_assign
  rw [ck0_4, if_neg (by decide), if_neg (by decide), if_pos (by decide)]
  all_goals (try simp only [b_X5_assign_226, b_X5_assign_259, b_X5_assign_292, b_X5_assign_321, ck0_4, ck1_4, ck2_4, ck3_4, ck0_781, ck1_781, ck2_781, ck3_781, ck4_781, ck5_781, ck6_781, ckz0, ckz1, cl0, cl1, cl2, cl3, cl4, cl5, cl6])
theorem as_6 (n r1 : Nat) (s : Mem) : f_X5_assign n r1 (nI 6) s = bd (f_X5_fetch n r1 (s 118 5) s) (fun x12 s11 => bd (f_X5_store n r1 (x12 * (s 119 0)) s11) (fun x14 s13 => some (x14, s13))) := by
  unfold f_X5_assign
  rw [ck0_4, if_neg (by decide), if_neg (by decide), if_neg (by decide), if_pos (by decide)]
  all_goals (try simp only [b_X5_assign_226, b_X5_assign_259, b_X5_assign_292, b_X5_assign_321, ck0_4, ck1_4, ck2_4, ck3_4, ck0_781, ck1_781, ck2_781, ck3_781, ck4_781, ck5_781, ck6_781, ckz0, ckz1, cl0, cl1, cl2, cl3, cl4, cl5, cl6])
theorem as_7 (n r1 : Nat) (s : Mem) : f_X5_assign n r1 (nI 7) s = if (s 119 0) = 0 then ((some ((2 : Int32), s))) else (bd (f_X5_fetch n r1 (s 118 5) s) (fun x16 s15 => ck (¬ (s 119 0) = 0) (bd (f_X5_store n r1 (x16 / (s 119 0)) s15) (fun x18 s17 => (some (x18, s17)))))) := by
  unfold f_X5_assign
  rw [ck0_4, if_neg (by decide), if_neg (by decide), if_neg (by decide), if_neg (by decide), if_pos (by decide)]
  all_goals (try simp only [b_X5_assign_226, b_X5_assign_259, b_X5_assign_292, b_X5_assign_321, ck0_4, ck1_4, ck2_4, ck3_4, ck0_781, ck1_781, ck2_781, ck3_781, ck4_781, ck5_781, ck6_781, ckz0, ckz1, cl0, cl1, cl2, cl3, cl4, cl5, cl6])
theorem as_28 (n r1 : Nat) (s : Mem) : f_X5_assign n r1 (nI 28) s = bd (f_X2_has n 25 (s 119 0) s) (fun x20 s19 => if x20 = 0 then ((some ((2 : Int32), s19))) else (ck (inb (s 119 0) 61) (bd (f_X5_store n r1 (s19 37 (s 119 0).toNatClampNeg) s19) (fun x22 s21 => (some (x22, s21)))))) := by
  unfold f_X5_assign
  rw [ck0_4, if_neg (by decide), if_neg (by decide), if_neg (by decide), if_neg (by decide), if_neg (by decide), if_neg (by decide), if_neg (by decide), if_neg (by decide), if_neg (by decide), if_neg (by decide), if_neg (by decide), if_neg (by decide), if_neg (by decide), if_neg (by decide), if_neg (by decide), if_neg (by decide), if_neg (by decide), if_neg (by decide), if_neg (by decide), if_neg (by decide), if_neg (by decide), if_neg (by decide), if_neg (by decide), if_neg (by decide), if_neg (by decide), if_pos (by decide)]
  all_goals (try simp only [b_X5_assign_226, b_X5_assign_259, b_X5_assign_292, b_X5_assign_321, ck0_4, ck1_4, ck2_4, ck3_4, ck0_781, ck1_781, ck2_781, ck3_781, ck4_781, ck5_781, ck6_781, ckz0, ckz1, cl0, cl1, cl2, cl3, cl4, cl5, cl6])
theorem as_29 (n r1 : Nat) (s : Mem) : f_X5_assign n r1 (nI 29) s = bd (f_X2_has n 25 (s 119 0) s) (fun x24 s23 => if x24 = 0 then ((some ((2 : Int32), s23))) else (ck (inb (s 119 0) 61) (bd (f_X5_store n r1 (s23 38 (s 119 0).toNatClampNeg) s23) (fun x26 s25 => (some (x26, s25)))))) := by
  unfold f_X5_assign
  rw [ck0_4, if_neg (by decide), if_neg (by decide), if_neg (by decide), if_neg (by decide), if_neg (by decide), if_neg (by decide), if_neg (by decide), if_neg (by decide), if_neg (by decide), if_neg (by decide), if_neg (by decide), if_neg (by decide), if_neg (by decide), if_neg (by decide), if_neg (by decide), if_neg (by decide), if_neg (by decide), if_neg (by decide), if_neg (by decide), if_neg (by decide), if_neg (by decide), if_neg (by decide), if_neg (by decide), if_neg (by decide), if_neg (by decide), if_neg (by decide), if_pos (by decide)]
  all_goals (try simp only [b_X5_assign_226, b_X5_assign_259, b_X5_assign_292, b_X5_assign_321, ck0_4, ck1_4, ck2_4, ck3_4, ck0_781, ck1_781, ck2_781, ck3_781, ck4_781, ck5_781, ck6_781, ckz0, ckz1, cl0, cl1, cl2, cl3, cl4, cl5, cl6])
theorem as_30 (n r1 : Nat) (s : Mem) : f_X5_assign n r1 (nI 30) s = bd (f_X7_slotsWith n 33 (s 119 0) s) (fun x28 s27 => bd (f_X5_store n r1 x28 s27) (fun x30 s29 => some (x30, s29))) := by
  unfold f_X5_assign
  rw [ck0_4, if_neg (by decide), if_neg (by decide), if_neg (by decide), if_neg (by decide), if_neg (by decide), if_neg (by decide), if_neg (by decide), if_neg (by decide), if_neg (by decide), if_neg (by decide), if_neg (by decide), if_neg (by decide), if_neg (by decide), if_neg (by decide), if_neg (by decide), if_neg (by decide), if_neg (by decide), if_neg (by decide), if_neg (by decide), if_neg (by decide), if_neg (by decide), if_neg (by decide), if_neg (by decide), if_neg (by decide), if_neg (by decide), if_neg (by decide), if_neg (by decide), if_pos (by decide)]
  all_goals (try simp only [b_X5_assign_226, b_X5_assign_259, b_X5_assign_292, b_X5_assign_321, ck0_4, ck1_4, ck2_4, ck3_4, ck0_781, ck1_781, ck2_781, ck3_781, ck4_781, ck5_781, ck6_781, ckz0, ckz1, cl0, cl1, cl2, cl3, cl4, cl5, cl6])
theorem as_32 (n r1 : Nat) (s : Mem) : f_X5_assign n r1 (nI 32) s = bd (f_X7_drawLuck n 33 (s 119 0) s) (fun x32 s31 => bd (f_X5_store n r1 x32 s31) (fun x34 s33 => some (x34, s33))) := by
  unfold f_X5_assign
  rw [ck0_4, if_neg (by decide), if_neg (by decide), if_neg (by decide), if_neg (by decide), if_neg (by decide), if_neg (by decide), if_neg (by decide), if_neg (by decide), if_neg (by decide), if_neg (by decide), if_neg (by decide), if_neg (by decide), if_neg (by decide), if_neg (by decide), if_neg (by decide), if_neg (by decide), if_neg (by decide), if_neg (by decide), if_neg (by decide), if_neg (by decide), if_neg (by decide), if_neg (by decide), if_neg (by decide), if_neg (by decide), if_neg (by decide), if_neg (by decide), if_neg (by decide), if_neg (by decide), if_neg (by decide), if_pos (by decide)]
  all_goals (try simp only [b_X5_assign_226, b_X5_assign_259, b_X5_assign_292, b_X5_assign_321, ck0_4, ck1_4, ck2_4, ck3_4, ck0_781, ck1_781, ck2_781, ck3_781, ck4_781, ck5_781, ck6_781, ckz0, ckz1, cl0, cl1, cl2, cl3, cl4, cl5, cl6])
theorem ma_0 (n : Nat) (s : Mem) : f_X11_may n (nI 0) s = ((some ((1 : Int32), s))) := by
  unfold f_X11_may
  rw [if_neg (by decide), if_neg (by decide), if_neg (by decide), if_neg (by decide), if_neg (by decide), if_neg (by decide), if_neg (by decide), if_neg (by decide), if_neg (by decide), if_neg (by decide), if_neg (by decide), if_neg (by decide), if_neg (by decide), if_neg (by decide), if_neg (by decide), if_neg (by decide), if_neg (by decide), if_neg (by decide), if_neg (by decide), if_neg (by decide), if_neg (by decide), if_neg (by decide), if_neg (by decide), if_neg (by decide), if_neg (by decide)]
  all_goals (try simp only [b_X11_may_130, b_X11_may_190, b_X11_may_189, b_X11_may_233, b_X11_may_232, b_X11_may_280, b_X11_may_279, b_X11_may_311, b_X11_may_310, b_X11_may_352, b_X11_may_347, b_X11_may_351, b_X11_may_370, b_X11_may_381, b_X11_may_423, b_X11_may_422, b_X11_may_424, ck0_4, ck1_4, ck2_4, ck3_4, ck0_781, ck1_781, ck2_781, ck3_781, ck4_781, ck5_781, ck6_781, ckz0, ckz1, cl0, cl1, cl2, cl3, cl4, cl5, cl6])
theorem ma_1 (n : Nat) (s : Mem) : f_X11_may n (nI 1) s = ((some ((1 : Int32), s))) := by
  unfold f_X11_may
  rw [if_neg (by decide), if_neg (by decide), if_neg (by decide), if_neg (by decide), if_neg (by decide), if_neg (by decide), if_neg (by decide), if_neg (by decide), if_neg (by decide), if_neg (by decide), if_neg (by decide), if_neg (by decide), if_neg (by decide), if_neg (by decide), if_neg (by decide), if_neg (by decide), if_neg (by decide), if_neg (by decide), if_neg (by decide), if_neg (by decide), if_neg (by decide), if_neg (by decide), if_neg (by decide), if_neg (by decide), if_neg (by decide)]
  all_goals (try simp only [b_X11_may_130, b_X11_may_190, b_X11_may_189, b_X11_may_233, b_X11_may_232, b_X11_may_280, b_X11_may_279, b_X11_may_311, b_X11_may_310, b_X11_may_352, b_X11_may_347, b_X11_may_351, b_X11_may_370, b_X11_may_381, b_X11_may_423, b_X11_may_422, b_X11_may_424, ck0_4, ck1_4, ck2_4, ck3_4, ck0_781, ck1_781, ck2_781, ck3_781, ck4_781, ck5_781, ck6_781, ckz0, ckz1, cl0, cl1, cl2, cl3, cl4, cl5, cl6])
theorem ma_2 (n : Nat) (s : Mem) : f_X11_may n (nI 2) s = ((some ((1 : Int32), s))) := by
  unfold f_X11_may
  rw [if_neg (by decide), if_neg (by decide), if_neg (by decide), if_neg (by decide), if_neg (by decide), if_neg (by decide), if_neg (by decide), if_neg (by decide), if_neg (by decide), if_neg (by decide), if_neg (by decide), if_neg (by decide), if_neg (by decide), if_neg (by decide), if_neg (by decide), if_neg (by decide), if_neg (by decide), if_neg (by decide), if_neg (by decide), if_neg (by decide), if_neg (by decide), if_neg (by decide), if_neg (by decide), if_neg (by decide), if_neg (by decide)]
  all_goals (try simp only [b_X11_may_130, b_X11_may_190, b_X11_may_189, b_X11_may_233, b_X11_may_232, b_X11_may_280, b_X11_may_279, b_X11_may_311, b_X11_may_310, b_X11_may_352, b_X11_may_347, b_X11_may_351, b_X11_may_370, b_X11_may_381, b_X11_may_423, b_X11_may_422, b_X11_may_424, ck0_4, ck1_4, ck2_4, ck3_4, ck0_781, ck1_781, ck2_781, ck3_781, ck4_781, ck5_781, ck6_781, ckz0, ckz1, cl0, cl1, cl2, cl3, cl4, cl5, cl6])
theorem ma_3 (n : Nat) (s : Mem) : f_X11_may n (nI 3) s = ((some ((1 : Int32), s))) := by
  unfold f_X11_may
  rw [if_neg (by decide), if_neg (by decide), if_neg (by decide), if_neg (by decide), if_neg (by decide), if_neg (by decide), if_neg (by decide), if_neg (by decide), if_neg (by decide), if_neg (by decide), if_neg (by decide), if_neg (by decide), if_neg (by decide), if_neg (by decide), if_neg (by decide), if_neg (by decide), if_neg (by decide), if_neg (by decide), if_neg (by decide), if_neg (by decide), if_neg (by decide), if_neg (by decide), if_neg (by decide), if_neg (by decide), if_neg (by decide)]
  all_goals (try simp only [b_X11_may_130, b_X11_may_190, b_X11_may_189, b_X11_may_233, b_X11_may_232, b_X11_may_280, b_X11_may_279, b_X11_may_311, b_X11_may_310, b_X11_may_352, b_X11_may_347, b_X11_may_351, b_X11_may_370, b_X11_may_381, b_X11_may_423, b_X11_may_422, b_X11_may_424, ck0_4, ck1_4, ck2_4, ck3_4, ck0_781, ck1_781, ck2_781, ck3_781, ck4_781, ck5_781, ck6_781, ckz0, ckz1, cl0, cl1, cl2, cl3, cl4, cl5, cl6])
theorem ma_4 (n : Nat) (s : Mem) : f_X11_may n (nI 4) s = ((some ((1 : Int32), s))) := by
  unfold f_X11_may
  rw [if_neg (by decide), if_neg (by decide), if_neg (by decide), if_neg (by decide), if_neg (by decide), if_neg (by decide), if_neg (by decide), if_neg (by decide), if_neg (by decide), if_neg (by decide), if_neg (by decide), if_neg (by decide), if_neg (by decide), if_neg (by decide), if_neg (by decide), if_neg (by decide), if_neg (by decide), if_neg (by decide), if_neg (by decide), if_neg (by decide), if_neg (by decide), if_neg (by decide), if_neg (by decide), if_neg (by decide), if_neg (by decide)]
  all_goals (try simp only [b_X11_may_130, b_X11_may_190, b_X11_may_189, b_X11_may_233, b_X11_may_232, b_X11_may_280, b_X11_may_279, b_X11_may_311, b_X11_may_310, b_X11_may_352, b_X11_may_347, b_X11_may_351, b_X11_may_370, b_X11_may_381, b_X11_may_423, b_X11_may_422, b_X11_may_424, ck0_4, ck1_4, ck2_4, ck3_4, ck0_781, ck1_781, ck2_781, ck3_781, ck4_781, ck5_781, ck6_781, ckz0, ckz1, cl0, cl1, cl2, cl3, cl4, cl5, cl6])
theorem ma_5 (n : Nat) (s : Mem) : f_X11_may n (nI 5) s = ((some ((1 : Int32), s))) := by
  unfold f_X11_may
  rw [if_neg (by decide), if_neg (by decide), if_neg (by decide), if_neg (by decide), if_neg (by decide), if_neg (by decide), if_neg (by decide), if_neg (by decide), if_neg (by decide), if_neg (by decide), if_neg (by decide), if_neg (by decide), if_neg (by decide), if_neg (by decide), if_neg (by decide), if_neg (by decide), if_neg (by decide), if_neg (by decide), if_neg (by decide), if_neg (by decide), if_neg (by decide), if_neg (by decide), if_neg (by decide), if_neg (by decide), if_neg (by decide)]
  all_goals (try simp only [b_X11_may_130, b_X11_may_190, b_X11_may_189, b_X11_may_233, b_X11_may_232, b_X11_may_280, b_X11_may_279, b_X11_may_311, b_X11_may_310, b_X11_may_352, b_X11_may_347, b_X11_may_351, b_X11_may_370, b_X11_may_381, b_X11_may_423, b_X11_may_422, b_X11_may_424, ck0_4, ck1_4, ck2_4, ck3_4, ck0_781, ck1_781, ck2_781, ck3_781, ck4_781, ck5_781, ck6_781, ckz0, ckz1, cl0, cl1, cl2, cl3, cl4, cl5, cl6])
theorem ma_6 (n : Nat) (s : Mem) : f_X11_may n (nI 6) s = ((some ((1 : Int32), s))) := by
  unfold f_X11_may
  rw [if_neg (by decide), if_neg (by decide), if_neg (by decide), if_neg (by decide), if_neg (by decide), if_neg (by decide), if_neg (by decide), if_neg (by decide), if_neg (by decide), if_neg (by decide), if_neg (by decide), if_neg (by decide), if_neg (by decide), if_neg (by decide), if_neg (by decide), if_neg (by decide), if_neg (by decide), if_neg (by decide), if_neg (by decide), if_neg (by decide), if_neg (by decide), if_neg (by decide), if_neg (by decide), if_neg (by decide), if_neg (by decide)]
  all_goals (try simp only [b_X11_may_130, b_X11_may_190, b_X11_may_189, b_X11_may_233, b_X11_may_232, b_X11_may_280, b_X11_may_279, b_X11_may_311, b_X11_may_310, b_X11_may_352, b_X11_may_347, b_X11_may_351, b_X11_may_370, b_X11_may_381, b_X11_may_423, b_X11_may_422, b_X11_may_424, ck0_4, ck1_4, ck2_4, ck3_4, ck0_781, ck1_781, ck2_781, ck3_781, ck4_781, ck5_781, ck6_781, ckz0, ckz1, cl0, cl1, cl2, cl3, cl4, cl5, cl6])
theorem ma_7 (n : Nat) (s : Mem) : f_X11_may n (nI 7) s = (if (s 18 0) = 0 then (((some ((0 : Int32), s)))) else (((some ((1 : Int32), s))))) := by
  unfold f_X11_may
  rw [if_pos (by decide)]
  all_goals (try simp only [b_X11_may_130, b_X11_may_190, b_X11_may_189, b_X11_may_233, b_X11_may_232, b_X11_may_280, b_X11_may_279, b_X11_may_311, b_X11_may_310, b_X11_may_352, b_X11_may_347, b_X11_may_351, b_X11_may_370, b_X11_may_381, b_X11_may_423, b_X11_may_422, b_X11_may_424, ck0_4, ck1_4, ck2_4, ck3_4, ck0_781, ck1_781, ck2_781, ck3_781, ck4_781, ck5_781, ck6_781, ckz0, ckz1, cl0, cl1, cl2, cl3, cl4, cl5, cl6])
theorem ma_8 (n : Nat) (s : Mem) : f_X11_may n (nI 8) s = ((some ((1 : Int32), s))) := by
  unfold f_X11_may
  rw [if_neg (by decide), if_pos (by decide)]
  all_goals (try simp only [b_X11_may_130, b_X11_may_190, b_X11_may_189, b_X11_may_233, b_X11_may_232, b_X11_may_280, b_X11_may_279, b_X11_may_311, b_X11_may_310, b_X11_may_352, b_X11_may_347, b_X11_may_351, b_X11_may_370, b_X11_may_381, b_X11_may_423, b_X11_may_422, b_X11_may_424, ck0_4, ck1_4, ck2_4, ck3_4, ck0_781, ck1_781, ck2_781, ck3_781, ck4_781, ck5_781, ck6_781, ckz0, ckz1, cl0, cl1, cl2, cl3, cl4, cl5, cl6])
theorem ma_9 (n : Nat) (s : Mem) : f_X11_may n (nI 9) s = ((some ((1 : Int32), s))) := by
  unfold f_X11_may
  rw [if_neg (by decide), if_neg (by decide), if_pos (by decide)]
  all_goals (try simp only [b_X11_may_130, b_X11_may_190, b_X11_may_189, b_X11_may_233, b_X11_may_232, b_X11_may_280, b_X11_may_279, b_X11_may_311, b_X11_may_310, b_X11_may_352, b_X11_may_347, b_X11_may_351, b_X11_may_370, b_X11_may_381, b_X11_may_423, b_X11_may_422, b_X11_may_424, ck0_4, ck1_4, ck2_4, ck3_4, ck0_781, ck1_781, ck2_781, ck3_781, ck4_781, ck5_781, ck6_781, ckz0, ckz1, cl0, cl1, cl2, cl3, cl4, cl5, cl6])
theorem ma_10 (n : Nat) (s : Mem) : f_X11_may n (nI 10) s = ((some ((1 : Int32), s))) := by
  unfold f_X11_may
  rw [if_neg (by decide), if_neg (by decide), if_neg (by decide), if_pos (by decide)]
  all_goals (try simp only [b_X11_may_130, b_X11_may_190, b_X11_may_189, b_X11_may_233, b_X11_may_232, b_X11_may_280, b_X11_may_279, b_X11_may_311, b_X11_may_310, b_X11_may_352, b_X11_may_347, b_X11_may_351, b_X11_may_370, b_X11_may_381, b_X11_may_423, b_X11_may_422, b_X11_may_424, ck0_4, ck1_4, ck2_4, ck3_4, ck0_781, ck1_781, ck2_781, ck3_781, ck4_781, ck5_781, ck6_781, ckz0, ckz1, cl0, cl1, cl2, cl3, cl4, cl5, cl6])
theorem ma_11 (n : Nat) (s : Mem) : f_X11_may n (nI 11) s = ((some ((1 : Int32), s))) := by
  unfold f_X11_may
  rw [if_neg (by decide), if_neg (by decide), if_neg (by decide), if_neg (by decide), if_pos (by decide)]
  all_goals (try simp only [b_X11_may_130, b_X11_may_190, b_X11_may_189, b_X11_may_233, b_X11_may_232, b_X11_may_280, b_X11_may_279, b_X11_may_311, b_X11_may_310, b_X11_may_352, b_X11_may_347, b_X11_may_351, b_X11_may_370, b_X11_may_381, b_X11_may_423, b_X11_may_422, b_X11_may_424, ck0_4, ck1_4, ck2_4, ck3_4, ck0_781, ck1_781, ck2_781, ck3_781, ck4_781, ck5_781, ck6_781, ckz0, ckz1, cl0, cl1, cl2, cl3, cl4, cl5, cl6])
theorem ma_12 (n : Nat) (s : Mem) : f_X11_may n (nI 12) s = ((some ((1 : Int32), s))) := by
  unfold f_X11_may
  rw [if_neg (by decide), if_neg (by decide), if_neg (by decide), if_neg (by decide), if_neg (by decide), if_pos (by decide)]
  all_goals (try simp only [b_X11_may_130, b_X11_may_190, b_X11_may_189, b_X11_may_233, b_X11_may_232, b_X11_may_280, b_X11_may_279, b_X11_may_311, b_X11_may_310, b_X11_may_352, b_X11_may_347, b_X11_may_351, b_X11_may_370, b_X11_may_381, b_X11_may_423, b_X11_may_422, b_X11_may_424, ck0_4, ck1_4, ck2_4, ck3_4, ck0_781, ck1_781, ck2_781, ck3_781, ck4_781, ck5_781, ck6_781, ckz0, ckz1, cl0, cl1, cl2, cl3, cl4, cl5, cl6])
theorem ma_13 (n : Nat) (s : Mem) : f_X11_may n (nI 13) s = (bd (f_X11_isActor n (s 18 0) s) (fun x2 s1 => if x2 = 0 then ((((some ((0 : Int32), s1))))) else ((bd (f_X11_in n ((s1 18 1).toInt64) (0 : Int64) (20 : Int64) s1) (fun x4 s3 => if x4 = 0 then ((((some ((0 : Int32), s3))))) else ((bd (f_X11_isByte n (s3 18 2) s3) (fun x6 s5 => if x6 = 0 then ((((some ((0 : Int32), s5))))) else ((bd (f_X11_isByte n (s5 18 3) s5) (fun x8 s7 => if x8 = 0 then ((((some ((0 : Int32), s7))))) else (((some ((1 : Int32), s7))))))))))))))) := by
  unfold f_X11_may
  rw [if_neg (by decide), if_neg (by decide), if_neg (by decide), if_neg (by decide), if_neg (by decide), if_neg (by decide), if_pos (by decide)]
  all_goals (try simp only [b_X11_may_130, b_X11_may_190, b_X11_may_189, b_X11_may_233, b_X11_may_232, b_X11_may_280, b_X11_may_279, b_X11_may_311, b_X11_may_310, b_X11_may_352, b_X11_may_347, b_X11_may_351, b_X11_may_370, b_X11_may_381, b_X11_may_423, b_X11_may_422, b_X11_may_424, ck0_4, ck1_4, ck2_4, ck3_4, ck0_781, ck1_781, ck2_781, ck3_781, ck4_781, ck5_781, ck6_781, ckz0, ckz1, cl0, cl1, cl2, cl3, cl4, cl5, cl6])
theorem ma_14 (n : Nat) (s : Mem) : f_X11_may n (nI 14) s = (bd (f_X11_isActor n (s 18 0) s) (fun x10 s9 => if x10 = 0 then ((((some ((0 : Int32), s9))))) else ((bd (f_X11_isByte n (s9 18 1) s9) (fun x12 s11 => if x12 = 0 then ((((some ((0 : Int32), s11))))) else ((bd (f_X11_isByte n (s11 18 2) s11) (fun x14 s13 => if x14 = 0 then ((((some ((0 : Int32), s13))))) else (((some ((1 : Int32), s13)))))))))))) := by
  unfold f_X11_may
  rw [if_neg (by decide), if_neg (by decide), if_neg (by decide), if_neg (by decide), if_neg (by decide), if_neg (by decide), if_neg (by decide), if_pos (by decide)]
  all_goals (try simp only [b_X11_may_130, b_X11_may_190, b_X11_may_189, b_X11_may_233, b_X11_may_232, b_X11_may_280, b_X11_may_279, b_X11_may_311, b_X11_may_310, b_X11_may_352, b_X11_may_347, b_X11_may_351, b_X11_may_370, b_X11_may_381, b_X11_may_423, b_X11_may_422, b_X11_may_424, ck0_4, ck1_4, ck2_4, ck3_4, ck0_781, ck1_781, ck2_781, ck3_781, ck4_781, ck5_781, ck6_781, ckz0, ckz1, cl0, cl1, cl2, cl3, cl4, cl5, cl6])
theorem ma_15 (n : Nat) (s : Mem) : f_X11_may n (nI 15) s = (bd (f_X11_isActor n (s 18 0) s) (fun x16 s15 => ck (okZ x16) (some (x16, s15)))) := by
  unfold f_X11_may
  rw [if_neg (by decide), if_neg (by decide), if_neg (by decide), if_neg (by decide), if_neg (by decide), if_neg (by decide), if_neg (by decide), if_neg (by decide), if_pos (by decide)]
  all_goals (try simp only [b_X11_may_130, b_X11_may_190, b_X11_may_189, b_X11_may_233, b_X11_may_232, b_X11_may_280, b_X11_may_279, b_X11_may_311, b_X11_may_310, b_X11_may_352, b_X11_may_347, b_X11_may_351, b_X11_may_370, b_X11_may_381, b_X11_may_423, b_X11_may_422, b_X11_may_424, ck0_4, ck1_4, ck2_4, ck3_4, ck0_781, ck1_781, ck2_781, ck3_781, ck4_781, ck5_781, ck6_781, ckz0, ckz1, cl0, cl1, cl2, cl3, cl4, cl5, cl6])
theorem ma_16 (n : Nat) (s : Mem) : f_X11_may n (nI 16) s = (bd (f_X11_isActor n (s 18 0) s) (fun x18 s17 => if x18 = 0 then ((((some ((0 : Int32), s17))))) else ((bd (f_X11_in n ((s17 18 1).toInt64) (0 : Int64) (8 : Int64) s17) (fun x20 s19 => if x20 = 0 then ((((some ((0 : Int32), s19))))) else (((some ((1 : Int32), s19))))))))) := by
  unfold f_X11_may
  rw [if_neg (by decide), if_neg (by decide), if_neg (by decide), if_neg (by decide), if_neg (by decide), if_neg (by decide), if_neg (by decide), if_neg (by decide), if_neg (by decide), if_pos (by decide)]
  all_goals (try simp only [b_X11_may_130, b_X11_may_190, b_X11_may_189, b_X11_may_233, b_X11_may_232, b_X11_may_280, b_X11_may_279, b_X11_may_311, b_X11_may_310, b_X11_may_352, b_X11_may_347, b_X11_may_351, b_X11_may_370, b_X11_may_381, b_X11_may_423, b_X11_may_422, b_X11_may_424, ck0_4, ck1_4, ck2_4, ck3_4, ck0_781, ck1_781, ck2_781, ck3_781, ck4_781, ck5_781, ck6_781, ckz0, ckz1, cl0, cl1, cl2, cl3, cl4, cl5, cl6])
theorem ma_17 (n : Nat) (s : Mem) : f_X11_may n (nI 17) s = (bd (f_X11_isObject n (s 18 0) s) (fun x22 s21 => if x22 = 0 then ((((some ((0 : Int32), s21))))) else ((bd (f_X11_isByte n (s21 18 1) s21) (fun x24 s23 => if x24 = 0 then ((((some ((0 : Int32), s23))))) else (((some ((1 : Int32), s23))))))))) := by
  unfold f_X11_may
  rw [if_neg (by decide), if_neg (by decide), if_neg (by decide), if_neg (by decide), if_neg (by decide), if_neg (by decide), if_neg (by decide), if_neg (by decide), if_neg (by decide), if_neg (by decide), if_pos (by decide)]
  all_goals (try simp only [b_X11_may_130, b_X11_may_190, b_X11_may_189, b_X11_may_233, b_X11_may_232, b_X11_may_280, b_X11_may_279, b_X11_may_311, b_X11_may_310, b_X11_may_352, b_X11_may_347, b_X11_may_351, b_X11_may_370, b_X11_may_381, b_X11_may_423, b_X11_may_422, b_X11_may_424, ck0_4, ck1_4, ck2_4, ck3_4, ck0_781, ck1_781, ck2_781, ck3_781, ck4_781, ck5_781, ck6_781, ckz0, ckz1, cl0, cl1, cl2, cl3, cl4, cl5, cl6])
theorem ma_18 (n : Nat) (s : Mem) : f_X11_may n (nI 18) s = (bd (f_X11_isObject n (s 18 0) s) (fun x26 s25 => if x26 = 0 then ((((some ((0 : Int32), s25))))) else ((if (s25 18 1) = 0 then ((((some ((1 : Int32), s25))))) else ((bd (f_X11_isActor n (s25 18 1) s25) (fun x28 s27 => if x28 = 0 then ((((some ((0 : Int32), s27))))) else ((((some ((1 : Int32), s27)))))))))))) := by
  unfold f_X11_may
  rw [if_neg (by decide), if_neg (by decide), if_neg (by decide), if_neg (by decide), if_neg (by decide), if_neg (by decide), if_neg (by decide), if_neg (by decide), if_neg (by decide), if_neg (by decide), if_neg (by decide), if_pos (by decide)]
  all_goals (try simp only [b_X11_may_130, b_X11_may_190, b_X11_may_189, b_X11_may_233, b_X11_may_232, b_X11_may_280, b_X11_may_279, b_X11_may_311, b_X11_may_310, b_X11_may_352, b_X11_may_347, b_X11_may_351, b_X11_may_370, b_X11_may_381, b_X11_may_423, b_X11_may_422, b_X11_may_424, ck0_4, ck1_4, ck2_4, ck3_4, ck0_781, ck1_781, ck2_781, ck3_781, ck4_781, ck5_781, ck6_781, ckz0, ckz1, cl0, cl1, cl2, cl3, cl4, cl5, cl6])
theorem ma_19 (n : Nat) (s : Mem) : f_X11_may n (nI 19) s = ((bd (f_X11_isBox n (s 18 0) (s 18 1) s) (fun x30 s29 => ck (okZ x30) (some (x30, s29))))) := by
  unfold f_X11_may
  rw [if_neg (by decide), if_neg (by decide), if_neg (by decide), if_neg (by decide), if_neg (by decide), if_neg (by decide), if_neg (by decide), if_neg (by decide), if_neg (by decide), if_neg (by decide), if_neg (by decide), if_neg (by decide), if_pos (by decide)]
  all_goals (try simp only [b_X11_may_130, b_X11_may_190, b_X11_may_189, b_X11_may_233, b_X11_may_232, b_X11_may_280, b_X11_may_279, b_X11_may_311, b_X11_may_310, b_X11_may_352, b_X11_may_347, b_X11_may_351, b_X11_may_370, b_X11_may_381, b_X11_may_423, b_X11_may_422, b_X11_may_424, ck0_4, ck1_4, ck2_4, ck3_4, ck0_781, ck1_781, ck2_781, ck3_781, ck4_781, ck5_781, ck6_781, ckz0, ckz1, cl0, cl1, cl2, cl3, cl4, cl5, cl6])
theorem ma_20 (n : Nat) (s : Mem) : f_X11_may n (nI 20) s = ((some ((1 : Int32), s))) := by
  unfold f_X11_may
  rw [if_neg (by decide), if_neg (by decide), if_neg (by decide), if_neg (by decide), if_neg (by decide), if_neg (by decide), if_neg (by decide), if_neg (by decide), if_neg (by decide), if_neg (by decide), if_neg (by decide), if_neg (by decide), if_neg (by decide), if_pos (by decide)]
  all_goals (try simp only [b_X11_may_130, b_X11_may_190, b_X11_may_189, b_X11_may_233, b_X11_may_232, b_X11_may_280, b_X11_may_279, b_X11_may_311, b_X11_may_310, b_X11_may_352, b_X11_may_347, b_X11_may_351, b_X11_may_370, b_X11_may_381, b_X11_may_423, b_X11_may_422, b_X11_may_424, ck0_4, ck1_4, ck2_4, ck3_4, ck0_781, ck1_781, ck2_781, ck3_781, ck4_781, ck5_781, ck6_781, ckz0, ckz1, cl0, cl1, cl2, cl3, cl4, cl5, cl6])
theorem ma_21 (n : Nat) (s : Mem) : f_X11_may n (nI 21) s = ((some ((1 : Int32), s))) := by
  unfold f_X11_may
  rw [if_neg (by decide), if_neg (by decide), if_neg (by decide), if_neg (by decide), if_neg (by decide), if_neg (by decide), if_neg (by decide), if_neg (by decide), if_neg (by decide), if_neg (by decide), if_neg (by decide), if_neg (by decide), if_neg (by decide), if_neg (by decide), if_pos (by decide)]
  all_goals (try simp only [b_X11_may_130, b_X11_may_190, b_X11_may_189, b_X11_may_233, b_X11_may_232, b_X11_may_280, b_X11_may_279, b_X11_may_311, b_X11_may_310, b_X11_may_352, b_X11_may_347, b_X11_may_351, b_X11_may_370, b_X11_may_381, b_X11_may_423, b_X11_may_422, b_X11_may_424, ck0_4, ck1_4, ck2_4, ck3_4, ck0_781, ck1_781, ck2_781, ck3_781, ck4_781, ck5_781, ck6_781, ckz0, ckz1, cl0, cl1, cl2, cl3, cl4, cl5, cl6])
theorem ma_22 (n : Nat) (s : Mem) : f_X11_may n (nI 22) s = ((some ((1 : Int32), s))) := by
  unfold f_X11_may
  rw [if_neg (by decide), if_neg (by decide), if_neg (by decide), if_neg (by decide), if_neg (by decide), if_neg (by decide), if_neg (by decide), if_neg (by decide), if_neg (by decide), if_neg (by decide), if_neg (by decide), if_neg (by decide), if_neg (by decide), if_neg (by decide), if_neg (by decide), if_pos (by decide)]
  all_goals (try simp only [b_X11_may_130, b_X11_may_190, b_X11_may_189, b_X11_may_233, b_X11_may_232, b_X11_may_280, b_X11_may_279, b_X11_may_311, b_X11_may_310, b_X11_may_352, b_X11_may_347, b_X11_may_351, b_X11_may_370, b_X11_may_381, b_X11_may_423, b_X11_may_422, b_X11_may_424, ck0_4, ck1_4, ck2_4, ck3_4, ck0_781, ck1_781, ck2_781, ck3_781, ck4_781, ck5_781, ck6_781, ckz0, ckz1, cl0, cl1, cl2, cl3, cl4, cl5, cl6])
theorem ma_23 (n : Nat) (s : Mem) : f_X11_may n (nI 23) s = ((bd (f_X11_isActor n (s 18 0) s) (fun x2 s1 => ck (okZ x2) (some (x2, s1))))) := by
  unfold f_X11_may
  rw [if_neg (by decide), if_neg (by decide), if_neg (by decide), if_neg (by decide), if_neg (by decide), if_neg (by decide), if_neg (by decide), if_neg (by decide), if_neg (by decide), if_neg (by decide), if_neg (by decide), if_neg (by decide), if_neg (by decide), if_neg (by decide), if_neg (by decide), if_neg (by decide), if_pos (by decide)]
  all_goals (try simp only [b_X11_may_130, b_X11_may_190, b_X11_may_189, b_X11_may_233, b_X11_may_232, b_X11_may_280, b_X11_may_279, b_X11_may_311, b_X11_may_310, b_X11_may_352, b_X11_may_347, b_X11_may_351, b_X11_may_370, b_X11_may_381, b_X11_may_423, b_X11_may_422, b_X11_may_424, ck0_4, ck1_4, ck2_4, ck3_4, ck0_781, ck1_781, ck2_781, ck3_781, ck4_781, ck5_781, ck6_781, ckz0, ckz1, cl0, cl1, cl2, cl3, cl4, cl5, cl6])
theorem ma_24 (n : Nat) (s : Mem) : f_X11_may n (nI 24) s = ((bd (f_X11_isActor n (s 18 0) s) (fun x2 s1 => ck (okZ x2) (some (x2, s1))))) := by
  unfold f_X11_may
  rw [if_neg (by decide), if_neg (by decide), if_neg (by decide), if_neg (by decide), if_neg (by decide), if_neg (by decide), if_neg (by decide), if_neg (by decide), if_neg (by decide), if_neg (by decide), if_neg (by decide), if_neg (by decide), if_neg (by decide), if_neg (by decide), if_neg (by decide), if_neg (by decide), if_neg (by decide), if_pos (by decide)]
  all_goals (try simp only [b_X11_may_130, b_X11_may_190, b_X11_may_189, b_X11_may_233, b_X11_may_232, b_X11_may_280, b_X11_may_279, b_X11_may_311, b_X11_may_310, b_X11_may_352, b_X11_may_347, b_X11_may_351, b_X11_may_370, b_X11_may_381, b_X11_may_423, b_X11_may_422, b_X11_may_424, ck0_4, ck1_4, ck2_4, ck3_4, ck0_781, ck1_781, ck2_781, ck3_781, ck4_781, ck5_781, ck6_781, ckz0, ckz1, cl0, cl1, cl2, cl3, cl4, cl5, cl6])
theorem ma_25 (n : Nat) (s : Mem) : f_X11_may n (nI 25) s = ((bd (f_X11_isActor n (s 18 0) s) (fun x2 s1 => ck (okZ x2) (some (x2, s1))))) := by
  unfold f_X11_may
  rw [if_neg (by decide), if_neg (by decide), if_neg (by decide), if_neg (by decide), if_neg (by decide), if_neg (by decide), if_neg (by decide), if_neg (by decide), if_neg (by decide), if_neg (by decide), if_neg (by decide), if_neg (by decide), if_neg (by decide), if_neg (by decide), if_neg (by decide), if_neg (by decide), if_neg (by decide), if_neg (by decide), if_pos (by decide)]
  all_goals (try simp only [b_X11_may_130, b_X11_may_190, b_X11_may_189, b_X11_may_233, b_X11_may_232, b_X11_may_280, b_X11_may_279, b_X11_may_311, b_X11_may_310, b_X11_may_352, b_X11_may_347, b_X11_may_351, b_X11_may_370, b_X11_may_381, b_X11_may_423, b_X11_may_422, b_X11_may_424, ck0_4, ck1_4, ck2_4, ck3_4, ck0_781, ck1_781, ck2_781, ck3_781, ck4_781, ck5_781, ck6_781, ckz0, ckz1, cl0, cl1, cl2, cl3, cl4, cl5, cl6])
theorem ma_26 (n : Nat) (s : Mem) : f_X11_may n (nI 26) s = ((bd (f_X11_isActor n (s 18 0) s) (fun x2 s1 => ck (okZ x2) (some (x2, s1))))) := by
  unfold f_X11_may
  rw [if_neg (by decide), if_neg (by decide), if_neg (by decide), if_neg (by decide), if_neg (by decide), if_neg (by decide), if_neg (by decide), if_neg (by decide), if_neg (by decide), if_neg (by decide), if_neg (by decide), if_neg (by decide), if_neg (by decide), if_neg (by decide), if_neg (by decide), if_neg (by decide), if_neg (by decide), if_neg (by decide), if_neg (by decide), if_pos (by decide)]
  all_goals (try simp only [b_X11_may_130, b_X11_may_190, b_X11_may_189, b_X11_may_233, b_X11_may_232, b_X11_may_280, b_X11_may_279, b_X11_may_311, b_X11_may_310, b_X11_may_352, b_X11_may_347, b_X11_may_351, b_X11_may_370, b_X11_may_381, b_X11_may_423, b_X11_may_422, b_X11_may_424, ck0_4, ck1_4, ck2_4, ck3_4, ck0_781, ck1_781, ck2_781, ck3_781, ck4_781, ck5_781, ck6_781, ckz0, ckz1, cl0, cl1, cl2, cl3, cl4, cl5, cl6])
theorem ma_27 (n : Nat) (s : Mem) : f_X11_may n (nI 27) s = ((bd (f_X11_isActor n (s 18 0) s) (fun x2 s1 => ck (okZ x2) (some (x2, s1))))) := by
  unfold f_X11_may
  rw [if_neg (by decide), if_neg (by decide), if_neg (by decide), if_neg (by decide), if_neg (by decide), if_neg (by decide), if_neg (by decide), if_neg (by decide), if_neg (by decide), if_neg (by decide), if_neg (by decide), if_neg (by decide), if_neg (by decide), if_neg (by decide), if_neg (by decide), if_neg (by decide), if_neg (by decide), if_neg (by decide), if_neg (by decide), if_neg (by decide), if_pos (by decide)]
  all_goals (try simp only [b_X11_may_130, b_X11_may_190, b_X11_may_189, b_X11_may_233, b_X11_may_232, b_X11_may_280, b_X11_may_279, b_X11_may_311, b_X11_may_310, b_X11_may_352, b_X11_may_347, b_X11_may_351, b_X11_may_370, b_X11_may_381, b_X11_may_423, b_X11_may_422, b_X11_may_424, ck0_4, ck1_4, ck2_4, ck3_4, ck0_781, ck1_781, ck2_781, ck3_781, ck4_781, ck5_781, ck6_781, ckz0, ckz1, cl0, cl1, cl2, cl3, cl4, cl5, cl6])
theorem ma_28 (n : Nat) (s : Mem) : f_X11_may n (nI 28) s = ((bd (f_X11_isObject n (s 18 0) s) (fun x2 s1 => ck (okZ x2) (some (x2, s1))))) := by
  unfold f_X11_may
  rw [if_neg (by decide), if_neg (by decide), if_neg (by decide), if_neg (by decide), if_neg (by decide), if_neg (by decide), if_neg (by decide), if_neg (by decide), if_neg (by decide), if_neg (by decide), if_neg (by decide), if_neg (by decide), if_neg (by decide), if_neg (by decide), if_neg (by decide), if_neg (by decide), if_neg (by decide), if_neg (by decide), if_neg (by decide), if_neg (by decide), if_neg (by decide), if_pos (by decide)]
  all_goals (try simp only [b_X11_may_130, b_X11_may_190, b_X11_may_189, b_X11_may_233, b_X11_may_232, b_X11_may_280, b_X11_may_279, b_X11_may_311, b_X11_may_310, b_X11_may_352, b_X11_may_347, b_X11_may_351, b_X11_may_370, b_X11_may_381, b_X11_may_423, b_X11_may_422, b_X11_may_424, ck0_4, ck1_4, ck2_4, ck3_4, ck0_781, ck1_781, ck2_781, ck3_781, ck4_781, ck5_781, ck6_781, ckz0, ckz1, cl0, cl1, cl2, cl3, cl4, cl5, cl6])
theorem ma_29 (n : Nat) (s : Mem) : f_X11_may n (nI 29) s = ((bd (f_X11_isObject n (s 18 0) s) (fun x2 s1 => ck (okZ x2) (some (x2, s1))))) := by
  unfold f_X11_may
  rw [if_neg (by decide), if_neg (by decide), if_neg (by decide), if_neg (by decide), if_neg (by decide), if_neg (by decide), if_neg (by decide), if_neg (by decide), if_neg (by decide), if_neg (by decide), if_neg (by decide), if_neg (by decide), if_neg (by decide), if_neg (by decide), if_neg (by decide), if_neg (by decide), if_neg (by decide), if_neg (by decide), if_neg (by decide), if_neg (by decide), if_neg (by decide), if_neg (by decide), if_pos (by decide)]
  all_goals (try simp only [b_X11_may_130, b_X11_may_190, b_X11_may_189, b_X11_may_233, b_X11_may_232, b_X11_may_280, b_X11_may_279, b_X11_may_311, b_X11_may_310, b_X11_may_352, b_X11_may_347, b_X11_may_351, b_X11_may_370, b_X11_may_381, b_X11_may_423, b_X11_may_422, b_X11_may_424, ck0_4, ck1_4, ck2_4, ck3_4, ck0_781, ck1_781, ck2_781, ck3_781, ck4_781, ck5_781, ck6_781, ckz0, ckz1, cl0, cl1, cl2, cl3, cl4, cl5, cl6])
theorem ma_30 (n : Nat) (s : Mem) : f_X11_may n (nI 30) s = ((some ((1 : Int32), s))) := by
  unfold f_X11_may
  rw [if_neg (by decide), if_neg (by decide), if_neg (by decide), if_neg (by decide), if_neg (by decide), if_neg (by decide), if_neg (by decide), if_neg (by decide), if_neg (by decide), if_neg (by decide), if_neg (by decide), if_neg (by decide), if_neg (by decide), if_neg (by decide), if_neg (by decide), if_neg (by decide), if_neg (by decide), if_neg (by decide), if_neg (by decide), if_neg (by decide), if_neg (by decide), if_neg (by decide), if_neg (by decide), if_pos (by decide)]
  all_goals (try simp only [b_X11_may_130, b_X11_may_190, b_X11_may_189, b_X11_may_233, b_X11_may_232, b_X11_may_280, b_X11_may_279, b_X11_may_311, b_X11_may_310, b_X11_may_352, b_X11_may_347, b_X11_may_351, b_X11_may_370, b_X11_may_381, b_X11_may_423, b_X11_may_422, b_X11_may_424, ck0_4, ck1_4, ck2_4, ck3_4, ck0_781, ck1_781, ck2_781, ck3_781, ck4_781, ck5_781, ck6_781, ckz0, ckz1, cl0, cl1, cl2, cl3, cl4, cl5, cl6])
theorem ma_31 (n : Nat) (s : Mem) : f_X11_may n (nI 31) s = (bd (f_X11_isActor n (s 18 0) s) (fun x32 s31 => if x32 = 0 then ((((some ((0 : Int32), s31))))) else ((bd (f_X11_isObject n (s31 18 1) s31) (fun x34 s33 => if x34 = 0 then ((((some ((0 : Int32), s33))))) else (((some ((1 : Int32), s33))))))))) := by
  unfold f_X11_may
  rw [if_neg (by decide), if_neg (by decide), if_neg (by decide), if_neg (by decide), if_neg (by decide), if_neg (by decide), if_neg (by decide), if_neg (by decide), if_neg (by decide), if_neg (by decide), if_neg (by decide), if_neg (by decide), if_neg (by decide), if_neg (by decide), if_neg (by decide), if_neg (by decide), if_neg (by decide), if_neg (by decide), if_neg (by decide), if_neg (by decide), if_neg (by decide), if_neg (by decide), if_neg (by decide), if_neg (by decide), if_pos (by decide)]
  all_goals (try simp only [b_X11_may_130, b_X11_may_190, b_X11_may_189, b_X11_may_233, b_X11_may_232, b_X11_may_280, b_X11_may_279, b_X11_may_311, b_X11_may_310, b_X11_may_352, b_X11_may_347, b_X11_may_351, b_X11_may_370, b_X11_may_381, b_X11_may_423, b_X11_may_422, b_X11_may_424, ck0_4, ck1_4, ck2_4, ck3_4, ck0_781, ck1_781, ck2_781, ck3_781, ck4_781, ck5_781, ck6_781, ckz0, ckz1, cl0, cl1, cl2, cl3, cl4, cl5, cl6])
theorem ma_32 (n : Nat) (s : Mem) : f_X11_may n (nI 32) s = ((some ((1 : Int32), s))) := by
  unfold f_X11_may
  rw [if_neg (by decide), if_neg (by decide), if_neg (by decide), if_neg (by decide), if_neg (by decide), if_neg (by decide), if_neg (by decide), if_neg (by decide), if_neg (by decide), if_neg (by decide), if_neg (by decide), if_neg (by decide), if_neg (by decide), if_neg (by decide), if_neg (by decide), if_neg (by decide), if_neg (by decide), if_neg (by decide), if_neg (by decide), if_neg (by decide), if_neg (by decide), if_neg (by decide), if_neg (by decide), if_neg (by decide), if_neg (by decide)]
  all_goals (try simp only [b_X11_may_130, b_X11_may_190, b_X11_may_189, b_X11_may_233, b_X11_may_232, b_X11_may_280, b_X11_may_279, b_X11_may_311, b_X11_may_310, b_X11_may_352, b_X11_may_347, b_X11_may_351, b_X11_may_370, b_X11_may_381, b_X11_may_423, b_X11_may_422, b_X11_may_424, ck0_4, ck1_4, ck2_4, ck3_4, ck0_781, ck1_781, ck2_781, ck3_781, ck4_781, ck5_781, ck6_781, ckz0, ckz1, cl0, cl1, cl2, cl3, cl4, cl5, cl6])
theorem ma_33 (n : Nat) (s : Mem) : f_X11_may n (nI 33) s = ((some ((1 : Int32), s))) := by
  unfold f_X11_may
  rw [if_neg (by decide), if_neg (by decide), if_neg (by decide), if_neg (by decide), if_neg (by decide), if_neg (by decide), if_neg (by decide), if_neg (by decide), if_neg (by decide), if_neg (by decide), if_neg (by decide), if_neg (by decide), if_neg (by decide), if_neg (by decide), if_neg (by decide), if_neg (by decide), if_neg (by decide), if_neg (by decide), if_neg (by decide), if_neg (by decide), if_neg (by decide), if_neg (by decide), if_neg (by decide), if_neg (by decide), if_neg (by decide)]
  all_goals (try simp only [b_X11_may_130, b_X11_may_190, b_X11_may_189, b_X11_may_233, b_X11_may_232, b_X11_may_280, b_X11_may_279, b_X11_may_311, b_X11_may_310, b_X11_may_352, b_X11_may_347, b_X11_may_351, b_X11_may_370, b_X11_may_381, b_X11_may_423, b_X11_may_422, b_X11_may_424, ck0_4, ck1_4, ck2_4, ck3_4, ck0_781, ck1_781, ck2_781, ck3_781, ck4_781, ck5_781, ck6_781, ckz0, ckz1, cl0, cl1, cl2, cl3, cl4, cl5, cl6])
theorem do_0 (n : Nat) (s : Mem) : f_X11_does n (nI 0) s = bv (f_X11_frees n (s 0 34) s) (fun s1 => (some ((0 : Int32), s1))) := by
  unfold f_X11_does
  rw [if_pos (by decide)]
  all_goals (try simp only [b_X11_does_211, b_X11_does_248, b_X11_does_367, b_X11_does_403, ck0_4, ck1_4, ck2_4, ck3_4, ck0_781, ck1_781, ck2_781, ck3_781, ck4_781, ck5_781, ck6_781, ckz0, ckz1, cl0, cl1, cl2, cl3, cl4, cl5, cl6])
theorem do_1 (n : Nat) (s : Mem) : f_X11_does n (nI 1) s = (some ((0 : Int32), s)) := by
  unfold f_X11_does
  rw [if_neg (by decide), if_pos (by decide)]
  all_goals (try simp only [b_X11_does_211, b_X11_does_248, b_X11_does_367, b_X11_does_403, ck0_4, ck1_4, ck2_4, ck3_4, ck0_781, ck1_781, ck2_781, ck3_781, ck4_781, ck5_781, ck6_781, ckz0, ckz1, cl0, cl1, cl2, cl3, cl4, cl5, cl6])
theorem do_2 (n : Nat) (s : Mem) : f_X11_does n (nI 2) s = bv (f_X11_to n (s 0 34) (1 : Int32) (s 0 39) s) (fun s2 => (some ((1 : Int32), s2))) := by
  unfold f_X11_does
  rw [if_neg (by decide), if_neg (by decide), if_pos (by decide)]
  all_goals (try simp only [b_X11_does_211, b_X11_does_248, b_X11_does_367, b_X11_does_403, ck0_4, ck1_4, ck2_4, ck3_4, ck0_781, ck1_781, ck2_781, ck3_781, ck4_781, ck5_781, ck6_781, ckz0, ckz1, cl0, cl1, cl2, cl3, cl4, cl5, cl6])
theorem do_8 (n : Nat) (s : Mem) : f_X11_does n (nI 8) s = ((if (s 18 0) = (s 18 1) then ((bv (f_X11_to n (s 0 34) (1 : Int32) (s 0 39) s) (fun s1 => (some ((1 : Int32), s1))))) else ((bv (f_X11_to n (s 0 34) (1 : Int32) (s 0 36) s) (fun s1 => (some ((1 : Int32), s1))))))) := by
  unfold f_X11_does
  rw [if_neg (by decide), if_neg (by decide), if_neg (by decide), if_neg (by decide), if_neg (by decide), if_neg (by decide), if_neg (by decide), if_neg (by decide), if_pos (by decide)]
  all_goals (try simp only [b_X11_does_211, b_X11_does_248, b_X11_does_367, b_X11_does_403, ck0_4, ck1_4, ck2_4, ck3_4, ck0_781, ck1_781, ck2_781, ck3_781, ck4_781, ck5_781, ck6_781, ckz0, ckz1, cl0, cl1, cl2, cl3, cl4, cl5, cl6])
theorem do_9 (n : Nat) (s : Mem) : f_X11_does n (nI 9) s = ((if (s 18 1) ≤ (s 18 0) then ((bv (f_X11_to n (s 0 34) (1 : Int32) (s 0 36) s) (fun s1 => (some ((1 : Int32), s1))))) else ((bv (f_X11_to n (s 0 34) (1 : Int32) (s 0 39) s) (fun s1 => (some ((1 : Int32), s1))))))) := by
  unfold f_X11_does
  rw [if_neg (by decide), if_neg (by decide), if_neg (by decide), if_neg (by decide), if_neg (by decide), if_neg (by decide), if_neg (by decide), if_neg (by decide), if_neg (by decide), if_pos (by decide)]
  all_goals (try simp only [b_X11_does_211, b_X11_does_248, b_X11_does_367, b_X11_does_403, ck0_4, ck1_4, ck2_4, ck3_4, ck0_781, ck1_781, ck2_781, ck3_781, ck4_781, ck5_781, ck6_781, ckz0, ckz1, cl0, cl1, cl2, cl3, cl4, cl5, cl6])
theorem do_10 (n : Nat) (s : Mem) : f_X11_does n (nI 10) s = (bv (f_X11_to n (s 0 34) (2 : Int32) (if (0 : Int32) < (s 18 0) then (s 18 0) else (0 : Int32)) s) (fun s3 => (some ((0 : Int32), s3)))) := by
  unfold f_X11_does
  rw [if_neg (by decide), if_neg (by decide), if_neg (by decide), if_neg (by decide), if_neg (by decide), if_neg (by decide), if_neg (by decide), if_neg (by decide), if_neg (by decide), if_neg (by decide), if_pos (by decide)]
  all_goals (try simp only [b_X11_does_211, b_X11_does_248, b_X11_does_367, b_X11_does_403, ck0_4, ck1_4, ck2_4, ck3_4, ck0_781, ck1_781, ck2_781, ck3_781, ck4_781, ck5_781, ck6_781, ckz0, ckz1, cl0, cl1, cl2, cl3, cl4, cl5, cl6])
theorem do_11 (n : Nat) (s : Mem) : f_X11_does n (nI 11) s = (bd (f_X11_started n (s 18 0) s) (fun x5 s4 => (some ((1 : Int32), s4)))) := by
  unfold f_X11_does
  rw [if_neg (by decide), if_neg (by decide), if_neg (by decide), if_neg (by decide), if_neg (by decide), if_neg (by decide), if_neg (by decide), if_neg (by decide), if_neg (by decide), if_neg (by decide), if_neg (by decide), if_pos (by decide)]
  all_goals (try simp only [b_X11_does_211, b_X11_does_248, b_X11_does_367, b_X11_does_403, ck0_4, ck1_4, ck2_4, ck3_4, ck0_781, ck1_781, ck2_781, ck3_781, ck4_781, ck5_781, ck6_781, ckz0, ckz1, cl0, cl1, cl2, cl3, cl4, cl5, cl6])
theorem do_12 (n : Nat) (s : Mem) : f_X11_does n (nI 12) s = bd (f_X11_stops n s) (fun x7 s6 => ck (okZ x7) (some (x7, s6))) := by
  unfold f_X11_does
  rw [if_neg (by decide), if_neg (by decide), if_neg (by decide), if_neg (by decide), if_neg (by decide), if_neg (by decide), if_neg (by decide), if_neg (by decide), if_neg (by decide), if_neg (by decide), if_neg (by decide), if_neg (by decide), if_pos (by decide)]
  all_goals (try simp only [b_X11_does_211, b_X11_does_248, b_X11_does_367, b_X11_does_403, ck0_4, ck1_4, ck2_4, ck3_4, ck0_781, ck1_781, ck2_781, ck3_781, ck4_781, ck5_781, ck6_781, ckz0, ckz1, cl0, cl1, cl2, cl3, cl4, cl5, cl6])
theorem do_15 (n : Nat) (s : Mem) : f_X11_does n (nI 15) s = (bv (f_X11_to n (s 0 34) (3 : Int32) (s 18 0) s) (fun s8 => (some ((0 : Int32), s8)))) := by
  unfold f_X11_does
  rw [if_neg (by decide), if_neg (by decide), if_neg (by decide), if_neg (by decide), if_neg (by decide), if_neg (by decide), if_neg (by decide), if_neg (by decide), if_neg (by decide), if_neg (by decide), if_neg (by decide), if_neg (by decide), if_neg (by decide), if_neg (by decide), if_neg (by decide), if_pos (by decide)]
  all_goals (try simp only [b_X11_does_211, b_X11_does_248, b_X11_does_367, b_X11_does_403, ck0_4, ck1_4, ck2_4, ck3_4, ck0_781, ck1_781, ck2_781, ck3_781, ck4_781, ck5_781, ck6_781, ckz0, ckz1, cl0, cl1, cl2, cl3, cl4, cl5, cl6])
theorem do_22 (n : Nat) (s : Mem) : f_X11_does n (nI 22) s = itr1 (b_X11_does_311) n (0 : Int32) s := by
  unfold f_X11_does
  rw [if_neg (by decide), if_neg (by decide), if_neg (by decide), if_neg (by decide), if_neg (by decide), if_neg (by decide), if_neg (by decide), if_neg (by decide), if_neg (by decide), if_neg (by decide), if_neg (by decide), if_neg (by decide), if_neg (by decide), if_neg (by decide), if_neg (by decide), if_neg (by decide), if_neg (by decide), if_neg (by decide), if_neg (by decide), if_neg (by decide), if_neg (by decide), if_neg (by decide), if_pos (by decide)]
  all_goals (try simp only [b_X11_does_211, b_X11_does_248, b_X11_does_367, b_X11_does_403, ck0_4, ck1_4, ck2_4, ck3_4, ck0_781, ck1_781, ck2_781, ck3_781, ck4_781, ck5_781, ck6_781, ckz0, ckz1, cl0, cl1, cl2, cl3, cl4, cl5, cl6])
theorem do_33 (n : Nat) (s : Mem) : f_X11_does n (nI 33) s = bd (f_X11_changes n s) (fun x10 s9 => ck (okZ x10) (some (x10, s9))) := by
  unfold f_X11_does
  rw [if_neg (by decide), if_neg (by decide), if_neg (by decide), if_neg (by decide), if_neg (by decide), if_neg (by decide), if_neg (by decide), if_neg (by decide), if_neg (by decide), if_neg (by decide), if_neg (by decide), if_neg (by decide), if_neg (by decide), if_neg (by decide), if_neg (by decide), if_neg (by decide), if_neg (by decide), if_neg (by decide), if_neg (by decide), if_neg (by decide), if_neg (by decide), if_neg (by decide), if_neg (by decide), if_neg (by decide), if_neg (by decide), if_neg (by decide), if_neg (by decide), if_neg (by decide), if_neg (by decide), if_neg (by decide), if_neg (by decide), if_neg (by decide), if_neg (by decide), if_pos (by decide)]
  all_goals (try simp only [b_X11_does_211, b_X11_does_248, b_X11_does_367, b_X11_does_403, ck0_4, ck1_4, ck2_4, ck3_4, ck0_781, ck1_781, ck2_781, ck3_781, ck4_781, ck5_781, ck6_781, ckz0, ckz1, cl0, cl1, cl2, cl3, cl4, cl5, cl6])
theorem ac_13 (n : Nat) (s : Mem) : f_X11_acts n (nI 13) s = ((bv (f_X11_actorTo n (s 18 0) (0 : Int32) (s 18 1) s) (fun s1 => ((bv (f_X11_actorTo n (s1 18 0) (1 : Int32) (s1 18 2) s1) (fun s2 => ((bv (f_X11_actorTo n (s2 18 0) (2 : Int32) (s2 18 3) s2) (fun s3 => (bv (f_X11_actorTo n (s3 18 0) (4 : Int32) (0 : Int32) s3) (fun s4 => (some s4)))))))))))) := by
  unfold f_X11_acts
  rw [if_pos (by decide)]
  all_goals (try simp only [b_X11_acts_309, b_X11_acts_245, b_X11_acts_286, ck0_4, ck1_4, ck2_4, ck3_4, ck0_781, ck1_781, ck2_781, ck3_781, ck4_781, ck5_781, ck6_781, ckz0, ckz1, cl0, cl1, cl2, cl3, cl4, cl5, cl6])
theorem ac_14 (n : Nat) (s : Mem) : f_X11_acts n (nI 14) s = (((bv (f_X11_walks n (s 18 0) (s 18 1) (s 18 2) s) (fun s5 => (some s5))))) := by
  unfold f_X11_acts
  rw [if_neg (by decide), if_pos (by decide)]
  all_goals (try simp only [b_X11_acts_309, b_X11_acts_245, b_X11_acts_286, ck0_4, ck1_4, ck2_4, ck3_4, ck0_781, ck1_781, ck2_781, ck3_781, ck4_781, ck5_781, ck6_781, ckz0, ckz1, cl0, cl1, cl2, cl3, cl4, cl5, cl6])
theorem ac_16 (n : Nat) (s : Mem) : f_X11_acts n (nI 16) s = ((bv (f_X11_actorTo n (s 18 0) (3 : Int32) (s 18 1) s) (fun s6 => (some s6)))) := by
  unfold f_X11_acts
  rw [if_neg (by decide), if_neg (by decide), if_neg (by decide), if_pos (by decide)]
  all_goals (try simp only [b_X11_acts_309, b_X11_acts_245, b_X11_acts_286, ck0_4, ck1_4, ck2_4, ck3_4, ck0_781, ck1_781, ck2_781, ck3_781, ck4_781, ck5_781, ck6_781, ckz0, ckz1, cl0, cl1, cl2, cl3, cl4, cl5, cl6])
theorem ac_17 (n : Nat) (s : Mem) : f_X11_acts n (nI 17) s = ((ck (inb ((323 : Int32) + (s 18 0)) 781) (lt (stM s 15 ((323 : Int32) + (s 18 0)).toNatClampNeg (s 18 1)) (fun s7 => (some s7))))) := by
  unfold f_X11_acts
  rw [if_neg (by decide), if_neg (by decide), if_neg (by decide), if_neg (by decide), if_pos (by decide)]
  all_goals (try simp only [b_X11_acts_309, b_X11_acts_245, b_X11_acts_286, ck0_4, ck1_4, ck2_4, ck3_4, ck0_781, ck1_781, ck2_781, ck3_781, ck4_781, ck5_781, ck6_781, ckz0, ckz1, cl0, cl1, cl2, cl3, cl4, cl5, cl6])
theorem ac_18 (n : Nat) (s : Mem) : f_X11_acts n (nI 18) s = ((ck (inb ((384 : Int32) + (s 18 0)) 781) (lt (stM s 15 ((384 : Int32) + (s 18 0)).toNatClampNeg (s 18 1)) (fun s8 => (some s8))))) := by
  unfold f_X11_acts
  rw [if_neg (by decide), if_neg (by decide), if_neg (by decide), if_neg (by decide), if_neg (by decide), if_pos (by decide)]
  all_goals (try simp only [b_X11_acts_309, b_X11_acts_245, b_X11_acts_286, ck0_4, ck1_4, ck2_4, ck3_4, ck0_781, ck1_781, ck2_781, ck3_781, ck4_781, ck5_781, ck6_781, ckz0, ckz1, cl0, cl1, cl2, cl3, cl4, cl5, cl6])
theorem ac_19 (n : Nat) (s : Mem) : f_X11_acts n (nI 19) s = (((if (s 18 2) = 0 then ((ck (inb (((445 : Int32) + ((s 18 0) * (16 : Int32))) + (s 18 1)) 781) (lt (stM s 15 (((445 : Int32) + ((s 18 0) * (16 : Int32))) + (s 18 1)).toNatClampNeg (0 : Int32)) (fun s1 => (some s1))))) else ((ck (inb (((445 : Int32) + ((s 18 0) * (16 : Int32))) + (s 18 1)) 781) (lt (stM s 15 (((445 : Int32) + ((s 18 0) * (16 : Int32))) + (s 18 1)).toNatClampNeg (1 : Int32)) (fun s1 => (some s1)))))))) := by
  unfold f_X11_acts
  rw [if_neg (by decide), if_neg (by decide), if_neg (by decide), if_neg (by decide), if_neg (by decide), if_neg (by decide), if_pos (by decide)]
  all_goals (try simp only [b_X11_acts_309, b_X11_acts_245, b_X11_acts_286, ck0_4, ck1_4, ck2_4, ck3_4, ck0_781, ck1_781, ck2_781, ck3_781, ck4_781, ck5_781, ck6_781, ckz0, ckz1, cl0, cl1, cl2, cl3, cl4, cl5, cl6])
theorem ac_20 (n : Nat) (s : Mem) : f_X11_acts n (nI 20) s = (ck (¬ (64 : Int32) = 0) ((ck (inb ((168 : Int32) + ((s 15 2) - (s 15 2) / (64 : Int32) * (64 : Int32))) 781) (lt (stM s 15 ((168 : Int32) + ((s 15 2) - (s 15 2) / (64 : Int32) * (64 : Int32))).toNatClampNeg (s 18 0)) (fun s9 => ((lt (stM s9 15 2 ((s9 15 2) + (1 : Int32))) (fun s10 => (some s10))))))))) := by
  unfold f_X11_acts
  rw [if_neg (by decide), if_neg (by decide), if_neg (by decide), if_neg (by decide), if_neg (by decide), if_neg (by decide), if_neg (by decide), if_pos (by decide)]
  all_goals (try simp only [b_X11_acts_309, b_X11_acts_245, b_X11_acts_286, ck0_4, ck1_4, ck2_4, ck3_4, ck0_781, ck1_781, ck2_781, ck3_781, ck4_781, ck5_781, ck6_781, ckz0, ckz1, cl0, cl1, cl2, cl3, cl4, cl5, cl6])
theorem ac_21 (n : Nat) (s : Mem) : f_X11_acts n (nI 21) s = ((((bd (f_X11_says n (s 18 0) (s 18 1) (s 18 2) s) (fun x2 s1 => (some s1)))))) := by
  unfold f_X11_acts
  rw [if_neg (by decide), if_neg (by decide), if_neg (by decide), if_neg (by decide), if_neg (by decide), if_neg (by decide), if_neg (by decide), if_neg (by decide)]
  all_goals (try simp only [b_X11_acts_309, b_X11_acts_245, b_X11_acts_286, ck0_4, ck1_4, ck2_4, ck3_4, ck0_781, ck1_781, ck2_781, ck3_781, ck4_781, ck5_781, ck6_781, ckz0, ckz1, cl0, cl1, cl2, cl3, cl4, cl5, cl6])
theorem an_3 (n : Nat) (s : Mem) : f_X11_answer n (nI 3) s = (some ((s 18 0), s)) := by
  unfold f_X11_answer
  rw [if_pos (by decide)]
  all_goals (try simp only [b_X11_answer_451, b_X11_answer_402, ck0_4, ck1_4, ck2_4, ck3_4, ck0_781, ck1_781, ck2_781, ck3_781, ck4_781, ck5_781, ck6_781, ckz0, ckz1, cl0, cl1, cl2, cl3, cl4, cl5, cl6])
theorem an_4 (n : Nat) (s : Mem) : f_X11_answer n (nI 4) s = ck (inb (s 0 38) 781) ((some ((s 15 (s 0 38).toNatClampNeg) + (s 18 0), s))) := by
  unfold f_X11_answer
  rw [if_neg (by decide), if_pos (by decide)]
  all_goals (try simp only [b_X11_answer_451, b_X11_answer_402, ck0_4, ck1_4, ck2_4, ck3_4, ck0_781, ck1_781, ck2_781, ck3_781, ck4_781, ck5_781, ck6_781, ckz0, ckz1, cl0, cl1, cl2, cl3, cl4, cl5, cl6])
theorem an_5 (n : Nat) (s : Mem) : f_X11_answer n (nI 5) s = ck (inb (s 0 38) 781) ((some ((s 15 (s 0 38).toNatClampNeg) - (s 18 0), s))) := by
  unfold f_X11_answer
  rw [if_neg (by decide), if_neg (by decide), if_pos (by decide)]
  all_goals (try simp only [b_X11_answer_451, b_X11_answer_402, ck0_4, ck1_4, ck2_4, ck3_4, ck0_781, ck1_781, ck2_781, ck3_781, ck4_781, ck5_781, ck6_781, ckz0, ckz1, cl0, cl1, cl2, cl3, cl4, cl5, cl6])
theorem an_6 (n : Nat) (s : Mem) : f_X11_answer n (nI 6) s = ck (inb (s 0 38) 781) ((some ((s 15 (s 0 38).toNatClampNeg) * (s 18 0), s))) := by
  unfold f_X11_answer
  rw [if_neg (by decide), if_neg (by decide), if_neg (by decide), if_pos (by decide)]
  all_goals (try simp only [b_X11_answer_451, b_X11_answer_402, ck0_4, ck1_4, ck2_4, ck3_4, ck0_781, ck1_781, ck2_781, ck3_781, ck4_781, ck5_781, ck6_781, ckz0, ckz1, cl0, cl1, cl2, cl3, cl4, cl5, cl6])
theorem an_7 (n : Nat) (s : Mem) : f_X11_answer n (nI 7) s = ck (inb (s 0 38) 781) ((ck (¬ (s 18 0) = 0) (some ((s 15 (s 0 38).toNatClampNeg) / (s 18 0), s)))) := by
  unfold f_X11_answer
  rw [if_neg (by decide), if_neg (by decide), if_neg (by decide), if_neg (by decide), if_pos (by decide)]
  all_goals (try simp only [b_X11_answer_451, b_X11_answer_402, ck0_4, ck1_4, ck2_4, ck3_4, ck0_781, ck1_781, ck2_781, ck3_781, ck4_781, ck5_781, ck6_781, ckz0, ckz1, cl0, cl1, cl2, cl3, cl4, cl5, cl6])
theorem an_23 (n : Nat) (s : Mem) : f_X11_answer n (nI 23) s = (bd (f_X11_actorOf n (s 18 0) (1 : Int32) s) (fun x2 s1 => some (x2, s1))) := by
  unfold f_X11_answer
  rw [if_neg (by decide), if_neg (by decide), if_neg (by decide), if_neg (by decide), if_neg (by decide), if_neg (by decide), if_neg (by decide), if_neg (by decide), if_neg (by decide), if_neg (by decide), if_neg (by decide), if_neg (by decide), if_neg (by decide), if_neg (by decide), if_neg (by decide), if_neg (by decide), if_neg (by decide), if_neg (by decide), if_neg (by decide), if_neg (by decide), if_pos (by decide)]
  all_goals (try simp only [b_X11_answer_451, b_X11_answer_402, ck0_4, ck1_4, ck2_4, ck3_4, ck0_781, ck1_781, ck2_781, ck3_781, ck4_781, ck5_781, ck6_781, ckz0, ckz1, cl0, cl1, cl2, cl3, cl4, cl5, cl6])
theorem an_24 (n : Nat) (s : Mem) : f_X11_answer n (nI 24) s = (bd (f_X11_actorOf n (s 18 0) (2 : Int32) s) (fun x4 s3 => some (x4, s3))) := by
  unfold f_X11_answer
  rw [if_neg (by decide), if_neg (by decide), if_neg (by decide), if_neg (by decide), if_neg (by decide), if_neg (by decide), if_neg (by decide), if_neg (by decide), if_neg (by decide), if_neg (by decide), if_neg (by decide), if_neg (by decide), if_neg (by decide), if_neg (by decide), if_neg (by decide), if_neg (by decide), if_neg (by decide), if_neg (by decide), if_neg (by decide), if_neg (by decide), if_neg (by decide), if_pos (by decide)]
  all_goals (try simp only [b_X11_answer_451, b_X11_answer_402, ck0_4, ck1_4, ck2_4, ck3_4, ck0_781, ck1_781, ck2_781, ck3_781, ck4_781, ck5_781, ck6_781, ckz0, ckz1, cl0, cl1, cl2, cl3, cl4, cl5, cl6])
theorem an_25 (n : Nat) (s : Mem) : f_X11_answer n (nI 25) s = (bd (f_X11_actorOf n (s 18 0) (0 : Int32) s) (fun x6 s5 => some (x6, s5))) := by
  unfold f_X11_answer
  rw [if_neg (by decide), if_neg (by decide), if_neg (by decide), if_neg (by decide), if_neg (by decide), if_neg (by decide), if_neg (by decide), if_neg (by decide), if_neg (by decide), if_neg (by decide), if_neg (by decide), if_neg (by decide), if_neg (by decide), if_neg (by decide), if_neg (by decide), if_neg (by decide), if_neg (by decide), if_neg (by decide), if_neg (by decide), if_neg (by decide), if_neg (by decide), if_neg (by decide), if_pos (by decide)]
  all_goals (try simp only [b_X11_answer_451, b_X11_answer_402, ck0_4, ck1_4, ck2_4, ck3_4, ck0_781, ck1_781, ck2_781, ck3_781, ck4_781, ck5_781, ck6_781, ckz0, ckz1, cl0, cl1, cl2, cl3, cl4, cl5, cl6])
theorem an_26 (n : Nat) (s : Mem) : f_X11_answer n (nI 26) s = (bd (f_X11_boxOf n (s 18 0) s) (fun x8 s7 => some (x8, s7))) := by
  unfold f_X11_answer
  rw [if_neg (by decide), if_neg (by decide), if_neg (by decide), if_neg (by decide), if_neg (by decide), if_neg (by decide), if_neg (by decide), if_neg (by decide), if_neg (by decide), if_neg (by decide), if_neg (by decide), if_neg (by decide), if_neg (by decide), if_neg (by decide), if_neg (by decide), if_neg (by decide), if_neg (by decide), if_neg (by decide), if_neg (by decide), if_neg (by decide), if_neg (by decide), if_neg (by decide), if_neg (by decide), if_pos (by decide)]
  all_goals (try simp only [b_X11_answer_451, b_X11_answer_402, ck0_4, ck1_4, ck2_4, ck3_4, ck0_781, ck1_781, ck2_781, ck3_781, ck4_781, ck5_781, ck6_781, ckz0, ckz1, cl0, cl1, cl2, cl3, cl4, cl5, cl6])
theorem an_27 (n : Nat) (s : Mem) : f_X11_answer n (nI 27) s = (bd (f_X11_actorOf n (s 18 0) (4 : Int32) s) (fun x10 s9 => some (x10, s9))) := by
  unfold f_X11_answer
  rw [if_neg (by decide), if_neg (by decide), if_neg (by decide), if_neg (by decide), if_neg (by decide), if_neg (by decide), if_neg (by decide), if_neg (by decide), if_neg (by decide), if_neg (by decide), if_neg (by decide), if_neg (by decide), if_neg (by decide), if_neg (by decide), if_neg (by decide), if_neg (by decide), if_neg (by decide), if_neg (by decide), if_neg (by decide), if_neg (by decide), if_neg (by decide), if_neg (by decide), if_neg (by decide), if_neg (by decide), if_pos (by decide)]
  all_goals (try simp only [b_X11_answer_451, b_X11_answer_402, ck0_4, ck1_4, ck2_4, ck3_4, ck0_781, ck1_781, ck2_781, ck3_781, ck4_781, ck5_781, ck6_781, ckz0, ckz1, cl0, cl1, cl2, cl3, cl4, cl5, cl6])
theorem an_28 (n : Nat) (s : Mem) : f_X11_answer n (nI 28) s = (ck (inb ((323 : Int32) + (s 18 0)) 781) (some ((s 15 ((323 : Int32) + (s 18 0)).toNatClampNeg), s))) := by
  unfold f_X11_answer
  rw [if_neg (by decide), if_neg (by decide), if_neg (by decide), if_neg (by decide), if_neg (by decide), if_neg (by decide), if_neg (by decide), if_neg (by decide), if_neg (by decide), if_neg (by decide), if_neg (by decide), if_neg (by decide), if_neg (by decide), if_neg (by decide), if_neg (by decide), if_neg (by decide), if_neg (by decide), if_neg (by decide), if_neg (by decide), if_neg (by decide), if_neg (by decide), if_neg (by decide), if_neg (by decide), if_neg (by decide), if_neg (by decide), if_pos (by decide)]
  all_goals (try simp only [b_X11_answer_451, b_X11_answer_402, ck0_4, ck1_4, ck2_4, ck3_4, ck0_781, ck1_781, ck2_781, ck3_781, ck4_781, ck5_781, ck6_781, ckz0, ckz1, cl0, cl1, cl2, cl3, cl4, cl5, cl6])
theorem an_29 (n : Nat) (s : Mem) : f_X11_answer n (nI 29) s = (ck (inb ((384 : Int32) + (s 18 0)) 781) (some ((s 15 ((384 : Int32) + (s 18 0)).toNatClampNeg), s))) := by
  unfold f_X11_answer
  rw [if_neg (by decide), if_neg (by decide), if_neg (by decide), if_neg (by decide), if_neg (by decide), if_neg (by decide), if_neg (by decide), if_neg (by decide), if_neg (by decide), if_neg (by decide), if_neg (by decide), if_neg (by decide), if_neg (by decide), if_neg (by decide), if_neg (by decide), if_neg (by decide), if_neg (by decide), if_neg (by decide), if_neg (by decide), if_neg (by decide), if_neg (by decide), if_neg (by decide), if_neg (by decide), if_neg (by decide), if_neg (by decide), if_neg (by decide), if_pos (by decide)]
  all_goals (try simp only [b_X11_answer_451, b_X11_answer_402, ck0_4, ck1_4, ck2_4, ck3_4, ck0_781, ck1_781, ck2_781, ck3_781, ck4_781, ck5_781, ck6_781, ckz0, ckz1, cl0, cl1, cl2, cl3, cl4, cl5, cl6])
theorem an_30 (n : Nat) (s : Mem) : f_X11_answer n (nI 30) s = (bd (f_X11_running n (s 18 0) s) (fun x12 s11 => some (x12, s11))) := by
  unfold f_X11_answer
  rw [if_neg (by decide), if_neg (by decide), if_neg (by decide), if_neg (by decide), if_neg (by decide), if_neg (by decide), if_neg (by decide), if_neg (by decide), if_neg (by decide), if_neg (by decide), if_neg (by decide), if_neg (by decide), if_neg (by decide), if_neg (by decide), if_neg (by decide), if_neg (by decide), if_neg (by decide), if_neg (by decide), if_neg (by decide), if_neg (by decide), if_neg (by decide), if_neg (by decide), if_neg (by decide), if_neg (by decide), if_neg (by decide), if_neg (by decide), if_neg (by decide), if_pos (by decide)]
  all_goals (try simp only [b_X11_answer_451, b_X11_answer_402, ck0_4, ck1_4, ck2_4, ck3_4, ck0_781, ck1_781, ck2_781, ck3_781, ck4_781, ck5_781, ck6_781, ckz0, ckz1, cl0, cl1, cl2, cl3, cl4, cl5, cl6])
theorem an_31 (n : Nat) (s : Mem) : f_X11_answer n (nI 31) s = (bd (f_X11_actorOf n (s 18 0) (0 : Int32) s) (fun x14 s13 => (ck (inb ((3 : Int32) * (s13 18 1)) 183) (if x14 = (s13 9 ((3 : Int32) * (s13 18 1)).toNatClampNeg) then ((bd (f_X11_actorOf n (s13 18 0) (1 : Int32) s13) (fun x16 s15 => (ck (inb (((3 : Int32) * (s15 18 1)) + (1 : Int32)) 183) ((bd (f_X11_actorOf n (s15 18 0) (2 : Int32) s15) (fun x18 s17 => (ck (inb (((3 : Int32) * (s17 18 1)) + (2 : Int32)) 183) (some ((if 0 ≤ (x16 - (s15 9 (((3 : Int32) * (s15 18 1)) + (1 : Int32)).toNatClampNeg)) then (x16 - (s15 9 (((3 : Int32) * (s15 18 1)) + (1 : Int32)).toNatClampNeg)) else 0 - (x16 - (s15 9 (((3 : Int32) * (s15 18 1)) + (1 : Int32)).toNatClampNeg))) + (if 0 ≤ (x18 - (s17 9 (((3 : Int32) * (s17 18 1)) + (2 : Int32)).toNatClampNeg)) then (x18 - (s17 9 (((3 : Int32) * (s17 18 1)) + (2 : Int32)).toNatClampNeg)) else 0 - (x18 - (s17 9 (((3 : Int32) * (s17 18 1)) + (2 : Int32)).toNatClampNeg))), s17)))))))))) else (some ((999 : Int32), s13)))))) := by
  unfold f_X11_answer
  rw [if_neg (by decide), if_neg (by decide), if_neg (by decide), if_neg (by decide), if_neg (by decide), if_neg (by decide), if_neg (by decide), if_neg (by decide), if_neg (by decide), if_neg (by decide), if_neg (by decide), if_neg (by decide), if_neg (by decide), if_neg (by decide), if_neg (by decide), if_neg (by decide), if_neg (by decide), if_neg (by decide), if_neg (by decide), if_neg (by decide), if_neg (by decide), if_neg (by decide), if_neg (by decide), if_neg (by decide), if_neg (by decide), if_neg (by decide), if_neg (by decide), if_neg (by decide), if_pos (by decide)]
  all_goals (try simp only [b_X11_answer_451, b_X11_answer_402, ck0_4, ck1_4, ck2_4, ck3_4, ck0_781, ck1_781, ck2_781, ck3_781, ck4_781, ck5_781, ck6_781, ckz0, ckz1, cl0, cl1, cl2, cl3, cl4, cl5, cl6])
theorem an_32 (n : Nat) (s : Mem) : f_X11_answer n (nI 32) s = (((lt (stM s 15 1 (((s 15 1) * (1103515245 : Int32)) + (12345 : Int32))) (fun s1 => (if (s1 18 0) ≤ 0 then ((some ((0 : Int32), s1))) else (((ck (¬ (s1 18 0) = 0) ((some ((((s1 15 1) &&& (2147483647 : Int32)) - ((s1 15 1) &&& (2147483647 : Int32)) / (s1 18 0) * (s1 18 0)), s1))))))))))) := by
  unfold f_X11_answer
  rw [if_neg (by decide), if_neg (by decide), if_neg (by decide), if_neg (by decide), if_neg (by decide), if_neg (by decide), if_neg (by decide), if_neg (by decide), if_neg (by decide), if_neg (by decide), if_neg (by decide), if_neg (by decide), if_neg (by decide), if_neg (by decide), if_neg (by decide), if_neg (by decide), if_neg (by decide), if_neg (by decide), if_neg (by decide), if_neg (by decide), if_neg (by decide), if_neg (by decide), if_neg (by decide), if_neg (by decide), if_neg (by decide), if_neg (by decide), if_neg (by decide), if_neg (by decide), if_neg (by decide)]
  all_goals (try simp only [b_X11_answer_451, b_X11_answer_402, ck0_4, ck1_4, ck2_4, ck3_4, ck0_781, ck1_781, ck2_781, ck3_781, ck4_781, ck5_781, ck6_781, ckz0, ckz1, cl0, cl1, cl2, cl3, cl4, cl5, cl6])
