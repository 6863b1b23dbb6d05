theorem tw_49 : Cond.selects RX11 yX11_judge yX11_judge ∈ TT := TT_of 49 (by decide +kernel) (by decide +kernel)
theorem tw_51 : Cond.selects RX11 yX11_judgeBlock yX11_judgeBlock ∈ TT := TT_of 51 (by decide +kernel) (by decide +kernel)
theorem tw_57 : Cond.selects RX11 yX11_forget yX11_forget ∈ TT := TT_of 57 (by decide +kernel) (by decide +kernel)
theorem tw_58 : Cond.selects RX11 yX11_load yX11_load ∈ TT := TT_of 58 (by decide +kernel) (by decide +kernel)
theorem tw_151 : Cond.arrayClass .int ∈ TT := TT_of 151 (by decide +kernel) (by decide +kernel)
theorem tw_1197 : Cond.fieldLink RX11 139 "StageHouseModel" "size" "I" ∈ TT := TT_of 1197 (by decide +kernel) (by decide +kernel)
theorem tw_1330 : Cond.methodLink RX11 125 yX11_judge ∈ TT := TT_of 1330 (by decide +kernel) (by decide +kernel)
theorem tw_1332 : Cond.instanceMethod yX11_judge ∈ TT := TT_of 1332 (by decide +kernel) (by decide +kernel)
theorem tw_1333 : Cond.code yX11_judge cX11_judge 6 (some .int) ∈ TT := TT_of 1333 (by decide +kernel) (by decide +kernel)
theorem tw_1338 : Cond.methodLink RX11 99 yX11_judgeBlock ∈ TT := TT_of 1338 (by decide +kernel) (by decide +kernel)
theorem tw_1340 : Cond.instanceMethod yX11_judgeBlock ∈ TT := TT_of 1340 (by decide +kernel) (by decide +kernel)
theorem tw_1341 : Cond.code yX11_judgeBlock cX11_judgeBlock 3 none ∈ TT := TT_of 1341 (by decide +kernel) (by decide +kernel)
theorem tw_1362 : Cond.methodLink RX11 142 yX11_forget ∈ TT := TT_of 1362 (by decide +kernel) (by decide +kernel)
theorem tw_1364 : Cond.instanceMethod yX11_forget ∈ TT := TT_of 1364 (by decide +kernel) (by decide +kernel)
theorem tw_1365 : Cond.code yX11_forget cX11_forget 2 none ∈ TT := TT_of 1365 (by decide +kernel) (by decide +kernel)
theorem tw_1366 : Cond.methodLink RX11 145 yX11_load ∈ TT := TT_of 1366 (by decide +kernel) (by decide +kernel)
theorem tw_1368 : Cond.instanceMethod yX11_load ∈ TT := TT_of 1368 (by decide +kernel) (by decide +kernel)
theorem tw_1369 : Cond.code yX11_load cX11_load 7 none ∈ TT := TT_of 1369 (by decide +kernel) (by decide +kernel)
theorem cw_RX11_99 : CwV RX11 99 RX11 yX11_judgeBlock cX11_judgeBlock 3 none 1 := CwV_of tw_1338 tw_1340 tw_51 tw_112 tw_1341 (by decide +kernel)
theorem cw_RX11_142 : CwV RX11 142 RX11 yX11_forget cX11_forget 2 none 0 := CwV_of tw_1362 tw_1364 tw_57 tw_112 tw_1365 (by decide +kernel)
theorem cw_RX11_145 : CwV RX11 145 RX11 yX11_load cX11_load 7 none 1 := CwV_of tw_1366 tw_1368 tw_58 tw_112 tw_1369 (by decide +kernel)
theorem cw_RX11_125 : CwV RX11 125 RX11 yX11_judge cX11_judge 6 (some .int) 1 := CwV_of tw_1330 tw_1332 tw_49 tw_112 tw_1333 (by decide +kernel)
def b_X11_judge_81 (k53 : Int32 → Int32 → Mem → Option (Int32 × Mem)) (n : Nat)  (l1 : Int32) (l3 : Int32) (s : Mem) : Option (Int32 × Mem) := lt (l3 + Int32.ofInt 1) (fun x1 => k53 l1 x1 s)
def b_X11_judge_75 (k53 : Int32 → Int32 → Mem → Option (Int32 × Mem)) (n : Nat)  (l1 : Int32) (l3 : Int32) (s : Mem) : Option (Int32 × Mem) := bv (f_X11_flaw n (1 : Int32) l3 s) (fun s1 => b_X11_judge_81 k53 n l1 l3 s1)
def b_X11_judge_275 (k92 : Int32 → Int32 → Int32 → Mem → Option (Int32 × Mem)) (n : Nat)  (l1 : Int32) (l3 : Int32) (l4 : Int32) (s : Mem) : Option (Int32 × Mem) := k92 l1 l3 l4 s
def b_X11_judge_191 (k92 : Int32 → Int32 → Int32 → Mem → Option (Int32 × Mem)) (n : Nat)  (l1 : Int32) (l3 : Int32) (l4 : Int32) (s : Mem) : Option (Int32 × Mem) := bv (f_X11_flaw n (3 : Int32) l4 s) (fun s1 => b_X11_judge_275 k92 n l1 l3 l4 s1)
def b_X11_judge_266 (k92 : Int32 → Int32 → Int32 → Mem → Option (Int32 × Mem)) (n : Nat)  (l1 : Int32) (l3 : Int32) (s : Mem) : Option (Int32 × Mem) := lt (l3 + Int32.ofInt 1) (fun x1 => b_X11_judge_275 k92 n l1 x1 (s 0 23) s)
def b_X11_judge_152 (k92 : Int32 → Int32 → Int32 → Mem → Option (Int32 × Mem)) (n : Nat)  (l1 : Int32) (l3 : Int32) (l4 : Int32) (l5 : Int32) (s : Mem) : Option (Int32 × Mem) := if l1 < (l4 + (3 : Int32)) then (b_X11_judge_191 k92 n l1 l3 l4 s) else (ck (inb (l4 + (1 : Int32)) 6000) (ck (inb (l4 + (2 : Int32)) 6000) (if ((l4 + (3 : Int32)) + (((s 1 (l4 + (1 : Int32)).toNatClampNeg) <<< ((8 : Int32) &&& 31)) ||| (s 1 (l4 + (2 : Int32)).toNatClampNeg))) ≤ l1 then (lt (stM s 0 22 (l4 + (3 : Int32))) (fun s1 => ck (inb (l4 + (1 : Int32)) 6000) (ck (inb (l4 + (2 : Int32)) 6000) (lt (stM s1 0 23 ((s1 0 22) + (((s1 1 (l4 + (1 : Int32)).toNatClampNeg) <<< ((8 : Int32) &&& 31)) ||| (s1 1 (l4 + (2 : Int32)).toNatClampNeg)))) (fun s2 => bv (f_X11_judgeBlock n l5 s2) (fun s3 => if (s3 0 23) ≤ (s3 0 22) then (b_X11_judge_266 k92 n l1 l3 s3) else (bv (f_X11_flaw n (4 : Int32) (s3 0 22) s3) (fun s4 => b_X11_judge_266 k92 n l1 l3 s4)))))))) else (b_X11_judge_191 k92 n l1 l3 l4 s))))
def b_X11_judge_278  (n : Nat)  (l3 : Int32) (s : Mem) : Option (Int32 × Mem) := some (l3, s)
def b_X11_judge_92  (n : Nat) (k92 : Int32 → Int32 → Int32 → Mem → Option (Int32 × Mem)) (l1 : Int32) (l3 : Int32) (l4 : Int32) (s : Mem) : Option (Int32 × Mem) := if (s 0 19) = 0 then (if l1 ≤ l4 then (b_X11_judge_278  n l3 s) else (ck (inb l4 6000) (if (s 1 l4.toNatClampNeg) = (82 : Int32) then (b_X11_judge_152 k92 n l1 l3 l4 (s 1 l4.toNatClampNeg) s) else (if (s 1 l4.toNatClampNeg) = (83 : Int32) then (b_X11_judge_152 k92 n l1 l3 l4 (s 1 l4.toNatClampNeg) s) else (if (s 1 l4.toNatClampNeg) = (79 : Int32) then (b_X11_judge_152 k92 n l1 l3 l4 (s 1 l4.toNatClampNeg) s) else (if (s 1 l4.toNatClampNeg) = (65 : Int32) then (b_X11_judge_152 k92 n l1 l3 l4 (s 1 l4.toNatClampNeg) s) else (bv (f_X11_flaw n (2 : Int32) l4 s) (fun s1 => b_X11_judge_275 k92 n l1 l3 l4 s1)))))))) else (b_X11_judge_278  n l3 s)
def b_X11_judge_53  (n : Nat) (k53 : Int32 → Int32 → Mem → Option (Int32 × Mem)) (l1 : Int32) (l3 : Int32) (s : Mem) : Option (Int32 × Mem) := if (4 : Int32) ≤ l3 then (itr3 (b_X11_judge_92) n l1 (0 : Int32) (4 : Int32) s) else (if l1 ≤ l3 then (b_X11_judge_75 k53 n l1 l3 s) else (ck (inb l3 6000) (ck (inb l3 4) (if (s 1 l3.toNatClampNeg) = (s 19 l3.toNatClampNeg) then (b_X11_judge_81 k53 n l1 l3 s) else (b_X11_judge_75 k53 n l1 l3 s)))))
def b_X11_judge_7  (n : Nat) (k7 : Int32 → Int32 → Mem → Option (Int32 × Mem)) (l1 : Int32) (l2 : Int32) (s : Mem) : Option (Int32 × Mem) := if (256 : Int32) ≤ l2 then (lt (rwM s 19 (fun _ => 0)) (fun s1 => ck (inb (0 : Int32) 4) (lt (stM s1 19 (0 : Int32).toNatClampNeg (80 : Int32)) (fun s2 => ck (inb (1 : Int32) 4) (lt (stM s2 19 (1 : Int32).toNatClampNeg (76 : Int32)) (fun s3 => ck (inb (2 : Int32) 4) (lt (stM s3 19 (2 : Int32).toNatClampNeg (65 : Int32)) (fun s4 => ck (inb (3 : Int32) 4) (lt (stM s4 19 (3 : Int32).toNatClampNeg (89 : Int32)) (fun s5 => itr2 (b_X11_judge_53) n l1 (0 : Int32) s5)))))))))) else (ck (inb l2 256 ∧ okZ (0 : Int32)) (lt (stM s 13 l2.toNatClampNeg (0 : Int32)) (fun s6 => lt (l2 + Int32.ofInt 1) (fun x7 => k7 l1 x7 s6))))
def f_X11_judge (n : Nat) (l1 : Int32) (s : Mem) : Option (Int32 × Mem) := lt (stM s 0 19 (0 : Int32)) (fun s1 => itr2 (b_X11_judge_7) n l1 (0 : Int32) s1)
def rm_X11_judge : Room := { frames := 5, cells := 1, slots := 4, locals := 121 }
def b_X11_play_96  (n : Nat) (k96 : Int32 → Int32 → Mem → Option (Int32 × Mem)) (l2 : Int32) (l3 : Int32) (s : Mem) : Option (Int32 × Mem) := if (s 0 4) ≤ l3 then (some (l2, s)) else (bv (f_X11_load n l3 s) (fun s1 => ck (inb (l3 + (1 : Int32)) 6000) (ck (inb (l3 + (2 : Int32)) 6000) (lt (l3 + ((3 : Int32) + (((s1 2 (l3 + (1 : Int32)).toNatClampNeg) <<< ((8 : Int32) &&& 31)) ||| (s1 2 (l3 + (2 : Int32)).toNatClampNeg)))) (fun x2 => k96 l2 x2 s1)))))
def b_X11_play_62  (n : Nat) (k62 : Int32 → Int32 → Int32 → Mem → Option (Int32 × Mem)) (l1 : Int32) (l2 : Int32) (l3 : Int32) (s : Mem) : Option (Int32 × Mem) := if l1 ≤ l3 then (lt (stM s 0 4 l1) (fun s1 => bv (f_X11_forget n s1) (fun s2 => itr2 (b_X11_play_96) n l2 (4 : Int32) s2))) else (ck (inb l3 6000) (ck (inb l3 6000) (lt (stM s 2 l3.toNatClampNeg (s 1 l3.toNatClampNeg)) (fun s3 => lt (l3 + Int32.ofInt 1) (fun x4 => k62 l1 l2 x4 s3)))))
def b_X11_play_45  (n : Nat)  (l1 : Int32) (l2 : Int32) (t0 : Int32) (s : Mem) : Option (Int32 × Mem) := lt (stM s 0 26 t0) (fun s1 => if (s1 0 19) = 0 then (itr3 (b_X11_play_62) n l1 l2 (0 : Int32) s1) else (bd (f_X11_refuse n s1) (fun x3 s2 => some (x3, s2))))
def f_X11_play (n : Nat)  (s : Mem) : Option (Int32 × Mem) := lt (stM s 0 0 (0 : Int32)) (fun s1 => lt (stM s1 0 2 (0 : Int32)) (fun s2 => bd (f_X11_judge n (s1 0 2) s2) (fun x4 s3 => lt (stM s3 0 25 (s3 0 19)) (fun s5 => if (s5 0 19) = 0 then (b_X11_play_45  n (s1 0 2) x4 (0 : Int32) s5) else (b_X11_play_45  n (s1 0 2) x4 (s5 0 20) s5)))))
def rm_X11_play : Room := { frames := 6, cells := 1, slots := 4, locals := 146 }
set_option maxHeartbeats 4000000 in
theorem jb_X11_judge_81 {X : CtxT (Int32 × Mem)} (C : Cx (YM true) X 6 cX11_judge RX11 (some .int) rm_X11_judge) (CR : CRj true X) (k53 : Int32 → Int32 → Mem → Option (Int32 × Mem)) (hk53 : ∀ (l1 : Int32) (l3 : Int32) (s : Mem), J (YM true) X 6 (k53 l1 l3 s) 53 [(0, .ref (adX X 0)), (1, .int l1), (2, .ref (adX X 19)), (3, .int l3)] [] s) (n : Nat)  (l1 : Int32) (l3 : Int32) (s : Mem) : J (YM true) X 6 (b_X11_judge_81 k53 n  l1 l3 s) 81 [(0, .ref (adX X 0)), (1, .int l1), (2, .ref (adX X 19)), (3, .int l3)] [] s := by
  unfold b_X11_judge_81
  refine j_iinc (L2 := fun x1 => [(0, .ref (adX X 0)), (1, .int l1), (2, .ref (adX X 19)), (3, .int x1)]) C dX11_judge_81 3 rfl (by decide) [1, 2, 3, 0] (fun _ => rfl) (fun x1 => ?_)
  refine j_goto (tgt := 53) C dX11_judge_84 (by decide) ?_
  exact hk53 l1 x1 s
set_option maxHeartbeats 4000000 in
theorem jb_X11_judge_75 {X : CtxT (Int32 × Mem)} (C : Cx (YM true) X 6 cX11_judge RX11 (some .int) rm_X11_judge) (CR : CRj true X) (k53 : Int32 → Int32 → Mem → Option (Int32 × Mem)) (hk53 : ∀ (l1 : Int32) (l3 : Int32) (s : Mem), J (YM true) X 6 (k53 l1 l3 s) 53 [(0, .ref (adX X 0)), (1, .int l1), (2, .ref (adX X 19)), (3, .int l3)] [] s) (n : Nat)  (l1 : Int32) (l3 : Int32) (s : Mem) : J (YM true) X 6 (b_X11_judge_75 k53 n  l1 l3 s) 75 [(0, .ref (adX X 0)), (1, .int l1), (2, .ref (adX X 19)), (3, .int l3)] [] s := by
  unfold b_X11_judge_75
  refine j_aload_n C dX11_judge_75 0 rfl rfl ?_
  refine j_iconst (v := (1 : Int32)) C dX11_judge_76 (by decide) ?_
  refine j_iload_n C dX11_judge_77 3 rfl rfl ?_
  refine j_callVn C (c_X11_flaw true n (1 : Int32) l3 s) cw_RX11_88 ⟨rfl, rfl, Nat.le_of_ble_eq_true rfl, Nat.le_of_ble_eq_true rfl⟩ 0 kX11 (km_0 true) (lm_0 true) [.int (1 : Int32), .int l3] [] rfl rfl rfl (Nat.le_of_ble_eq_true rfl) dX11_judge_78 (fun s1 => ?_)
  exact jb_X11_judge_81 C CR k53 hk53 n l1 l3 s1
set_option maxHeartbeats 4000000 in
theorem jb_X11_judge_275 {X : CtxT (Int32 × Mem)} (C : Cx (YM true) X 6 cX11_judge RX11 (some .int) rm_X11_judge) (CR : CRj true X) (k92 : Int32 → Int32 → Int32 → Mem → Option (Int32 × Mem)) (hk92 : ∀ (l1 : Int32) (l3 : Int32) (l4 : Int32) (s : Mem), J (YM true) X 6 (k92 l1 l3 l4 s) 92 [(0, .ref (adX X 0)), (1, .int l1), (3, .int l3), (4, .int l4)] [] s) (n : Nat)  (l1 : Int32) (l3 : Int32) (l4 : Int32) (s : Mem) : J (YM true) X 6 (b_X11_judge_275 k92 n  l1 l3 l4 s) 275 [(0, .ref (adX X 0)), (1, .int l1), (3, .int l3), (4, .int l4)] [] s := by
  unfold b_X11_judge_275
  refine j_goto (tgt := 92) C dX11_judge_275 (by decide) ?_
  exact hk92 l1 l3 l4 s
set_option maxHeartbeats 4000000 in
theorem jb_X11_judge_191 {X : CtxT (Int32 × Mem)} (C : Cx (YM true) X 6 cX11_judge RX11 (some .int) rm_X11_judge) (CR : CRj true X) (k92 : Int32 → Int32 → Int32 → Mem → Option (Int32 × Mem)) (hk92 : ∀ (l1 : Int32) (l3 : Int32) (l4 : Int32) (s : Mem), J (YM true) X 6 (k92 l1 l3 l4 s) 92 [(0, .ref (adX X 0)), (1, .int l1), (3, .int l3), (4, .int l4)] [] s) (n : Nat)  (l1 : Int32) (l3 : Int32) (l4 : Int32) (s : Mem) : J (YM true) X 6 (b_X11_judge_191 k92 n  l1 l3 l4 s) 191 [(0, .ref (adX X 0)), (1, .int l1), (3, .int l3), (4, .int l4)] [] s := by
  unfold b_X11_judge_191
  refine j_aload_n C dX11_judge_191 0 rfl rfl ?_
  refine j_iconst (v := (3 : Int32)) C dX11_judge_192 (by decide) ?_
  refine j_iload C dX11_judge_193 3 rfl ?_
  refine j_callVn C (c_X11_flaw true n (3 : Int32) l4 s) cw_RX11_88 ⟨rfl, rfl, Nat.le_of_ble_eq_true rfl, Nat.le_of_ble_eq_true rfl⟩ 0 kX11 (km_0 true) (lm_0 true) [.int (3 : Int32), .int l4] [] rfl rfl rfl (Nat.le_of_ble_eq_true rfl) dX11_judge_195 (fun s1 => ?_)
  refine j_goto (tgt := 275) C dX11_judge_198 (by decide) ?_
  exact jb_X11_judge_275 C CR k92 hk92 n l1 l3 l4 s1
set_option maxHeartbeats 4000000 in
theorem jb_X11_judge_266 {X : CtxT (Int32 × Mem)} (C : Cx (YM true) X 6 cX11_judge RX11 (some .int) rm_X11_judge) (CR : CRj true X) (k92 : Int32 → Int32 → Int32 → Mem → Option (Int32 × Mem)) (hk92 : ∀ (l1 : Int32) (l3 : Int32) (l4 : Int32) (s : Mem), J (YM true) X 6 (k92 l1 l3 l4 s) 92 [(0, .ref (adX X 0)), (1, .int l1), (3, .int l3), (4, .int l4)] [] s) (n : Nat)  (l1 : Int32) (l3 : Int32) (s : Mem) : J (YM true) X 6 (b_X11_judge_266 k92 n  l1 l3 s) 266 [(0, .ref (adX X 0)), (1, .int l1), (3, .int l3)] [] s := by
  unfold b_X11_judge_266
  refine j_aload_n C dX11_judge_266 0 rfl rfl ?_
  refine j_get C kX11 (km_0 true) (lm_0 true) 23 (by decide) tw_1216 (rm_23 true) dX11_judge_267 ?_
  refine j_istore (L' := [(0, .ref (adX X 0)), (1, .int l1), (3, .int l3), (4, .int (s 0 23))]) C dX11_judge_270 (by decide) [1, 2, 3, 0] rfl ?_
  refine j_iinc (L2 := fun x1 => [(0, .ref (adX X 0)), (1, .int l1), (3, .int x1), (4, .int (s 0 23))]) C dX11_judge_272 2 rfl (by decide) [1, 2, 0, 3] (fun _ => rfl) (fun x1 => ?_)
  exact jb_X11_judge_275 C CR k92 hk92 n l1 x1 (s 0 23) s
set_option maxHeartbeats 4000000 in
theorem jb_X11_judge_152 {X : CtxT (Int32 × Mem)} (C : Cx (YM true) X 6 cX11_judge RX11 (some .int) rm_X11_judge) (CR : CRj true X) (k92 : Int32 → Int32 → Int32 → Mem → Option (Int32 × Mem)) (hk92 : ∀ (l1 : Int32) (l3 : Int32) (l4 : Int32) (s : Mem), J (YM true) X 6 (k92 l1 l3 l4 s) 92 [(0, .ref (adX X 0)), (1, .int l1), (3, .int l3), (4, .int l4)] [] s) (n : Nat)  (l1 : Int32) (l3 : Int32) (l4 : Int32) (l5 : Int32) (s : Mem) : J (YM true) X 6 (b_X11_judge_152 k92 n  l1 l3 l4 l5 s) 152 [(0, .ref (adX X 0)), (1, .int l1), (3, .int l3), (4, .int l4), (5, .int l5)] [] s := by
  unfold b_X11_judge_152
  refine j_iload C dX11_judge_152 3 rfl ?_
  refine j_iconst (v := (3 : Int32)) C dX11_judge_154 (by decide) ?_
  refine j_iadd C dX11_judge_155 ?_
  refine j_iload_n C dX11_judge_156 1 rfl rfl ?_
  refine j_icmp_gt (tgt := 191) C dX11_judge_157 (by decide) ?_ ?_
  · refine j_sub (L' := [(0, .ref (adX X 0)), (1, .int l1), (3, .int l3), (4, .int l4)]) [0, 1, 2, 3] rfl ?_
    exact jb_X11_judge_191 C CR k92 hk92 n l1 l3 l4 s
  · refine j_iload C dX11_judge_160 3 rfl ?_
    refine j_iconst (v := (3 : Int32)) C dX11_judge_162 (by decide) ?_
    refine j_iadd C dX11_judge_163 ?_
    refine j_aload_n C dX11_judge_164 0 rfl rfl ?_
    refine j_getR (z := 1) C kX11 (km_0 true) (lm_0 true) 1 (by decide) tw_1194 (rm_1 true) rfl dX11_judge_165 ?_
    refine j_iload C dX11_judge_168 3 rfl ?_
    refine j_iconst (v := (1 : Int32)) C dX11_judge_170 (by decide) ?_
    refine j_iadd C dX11_judge_171 ?_
    refine j_iald C (km_1 true) (lm_1 true) dX11_judge_172 ?_
    refine j_bipush (v := (8 : Int32)) C dX11_judge_173 (by decide) ?_
    refine j_ishl C dX11_judge_175 ?_
    refine j_aload_n C dX11_judge_176 0 rfl rfl ?_
    refine j_getR (z := 1) C kX11 (km_0 true) (lm_0 true) 1 (by decide) tw_1194 (rm_1 true) rfl dX11_judge_177 ?_
    refine j_iload C dX11_judge_180 3 rfl ?_
    refine j_iconst (v := (2 : Int32)) C dX11_judge_182 (by decide) ?_
    refine j_iadd C dX11_judge_183 ?_
    refine j_iald C (km_1 true) (lm_1 true) dX11_judge_184 ?_
    refine j_ior C dX11_judge_185 ?_
    refine j_iadd C dX11_judge_186 ?_
    refine j_iload_n C dX11_judge_187 1 rfl rfl ?_
    refine j_icmp_le (tgt := 201) C dX11_judge_188 (by decide) ?_ ?_
    · refine j_aload_n C dX11_judge_201 0 rfl rfl ?_
      refine j_iload C dX11_judge_202 3 rfl ?_
      refine j_iconst (v := (3 : Int32)) C dX11_judge_204 (by decide) ?_
      refine j_iadd C dX11_judge_205 ?_
      refine j_put C kX11 (km_0 true) (lm_0 true) 22 (by decide) tw_1215 (rm_22 true) rfl rfl dX11_judge_206 (fun s1 => ?_)
      refine j_aload_n C dX11_judge_209 0 rfl rfl ?_
      refine j_aload_n C dX11_judge_210 0 rfl rfl ?_
      refine j_get C kX11 (km_0 true) (lm_0 true) 22 (by decide) tw_1215 (rm_22 true) dX11_judge_211 ?_
      refine j_aload_n C dX11_judge_214 0 rfl rfl ?_
      refine j_getR (z := 1) C kX11 (km_0 true) (lm_0 true) 1 (by decide) tw_1194 (rm_1 true) rfl dX11_judge_215 ?_
      refine j_iload C dX11_judge_218 3 rfl ?_
      refine j_iconst (v := (1 : Int32)) C dX11_judge_220 (by decide) ?_
      refine j_iadd C dX11_judge_221 ?_
      refine j_iald C (km_1 true) (lm_1 true) dX11_judge_222 ?_
      refine j_bipush (v := (8 : Int32)) C dX11_judge_223 (by decide) ?_
      refine j_ishl C dX11_judge_225 ?_
      refine j_aload_n C dX11_judge_226 0 rfl rfl ?_
      refine j_getR (z := 1) C kX11 (km_0 true) (lm_0 true) 1 (by decide) tw_1194 (rm_1 true) rfl dX11_judge_227 ?_
      refine j_iload C dX11_judge_230 3 rfl ?_
      refine j_iconst (v := (2 : Int32)) C dX11_judge_232 (by decide) ?_
      refine j_iadd C dX11_judge_233 ?_
      refine j_iald C (km_1 true) (lm_1 true) dX11_judge_234 ?_
      refine j_ior C dX11_judge_235 ?_
      refine j_iadd C dX11_judge_236 ?_
      refine j_put C kX11 (km_0 true) (lm_0 true) 23 (by decide) tw_1216 (rm_23 true) rfl rfl dX11_judge_237 (fun s2 => ?_)
      refine j_aload_n C dX11_judge_240 0 rfl rfl ?_
      refine j_iload C dX11_judge_241 4 rfl ?_
      refine j_callVn C (c_X11_judgeBlock true n l5 s2) cw_RX11_99 ⟨rfl, rfl, Nat.le_of_ble_eq_true rfl, Nat.le_of_ble_eq_true rfl⟩ 0 kX11 (km_0 true) (lm_0 true) [.int l5] [] rfl rfl rfl (Nat.le_of_ble_eq_true rfl) dX11_judge_243 (fun s3 => ?_)
      refine j_aload_n C dX11_judge_246 0 rfl rfl ?_
      refine j_get C kX11 (km_0 true) (lm_0 true) 22 (by decide) tw_1215 (rm_22 true) dX11_judge_247 ?_
      refine j_aload_n C dX11_judge_250 0 rfl rfl ?_
      refine j_get C kX11 (km_0 true) (lm_0 true) 23 (by decide) tw_1216 (rm_23 true) dX11_judge_251 ?_
      refine j_icmp_ge (tgt := 266) C dX11_judge_254 (by decide) ?_ ?_
      · refine j_sub (L' := [(0, .ref (adX X 0)), (1, .int l1), (3, .int l3)]) [0, 1, 2] rfl ?_
        exact jb_X11_judge_266 C CR k92 hk92 n l1 l3 s3
      · refine j_aload_n C dX11_judge_257 0 rfl rfl ?_
        refine j_iconst (v := (4 : Int32)) C dX11_judge_258 (by decide) ?_
        refine j_aload_n C dX11_judge_259 0 rfl rfl ?_
        refine j_get C kX11 (km_0 true) (lm_0 true) 22 (by decide) tw_1215 (rm_22 true) dX11_judge_260 ?_
        refine j_callVn C (c_X11_flaw true n (4 : Int32) (s3 0 22) s3) cw_RX11_88 ⟨rfl, rfl, Nat.le_of_ble_eq_true rfl, Nat.le_of_ble_eq_true rfl⟩ 0 kX11 (km_0 true) (lm_0 true) [.int (4 : Int32), .int (s3 0 22)] [] rfl rfl rfl (Nat.le_of_ble_eq_true rfl) dX11_judge_263 (fun s4 => ?_)
        refine j_sub (L' := [(0, .ref (adX X 0)), (1, .int l1), (3, .int l3)]) [0, 1, 2] rfl ?_
        exact jb_X11_judge_266 C CR k92 hk92 n l1 l3 s4
    · refine j_sub (L' := [(0, .ref (adX X 0)), (1, .int l1), (3, .int l3), (4, .int l4)]) [0, 1, 2, 3] rfl ?_
      exact jb_X11_judge_191 C CR k92 hk92 n l1 l3 l4 s
set_option maxHeartbeats 4000000 in
theorem jb_X11_judge_278 {X : CtxT (Int32 × Mem)} (C : Cx (YM true) X 6 cX11_judge RX11 (some .int) rm_X11_judge) (CR : CRj true X)  (n : Nat)  (l3 : Int32) (s : Mem) : J (YM true) X 6 (b_X11_judge_278  n  l3 s) 278 [(3, .int l3)] [] s := by
  unfold b_X11_judge_278
  refine j_iload_n C dX11_judge_278 0 rfl rfl ?_
  exact j_jret C CR dX11_judge_279
set_option maxHeartbeats 4000000 in
theorem jb_X11_judge_92 {X : CtxT (Int32 × Mem)} (C : Cx (YM true) X 6 cX11_judge RX11 (some .int) rm_X11_judge) (CR : CRj true X)  (n : Nat) (k92 : Int32 → Int32 → Int32 → Mem → Option (Int32 × Mem)) (hk92 : ∀ (l1 : Int32) (l3 : Int32) (l4 : Int32) (s : Mem), J (YM true) X 6 (k92 l1 l3 l4 s) 92 [(0, .ref (adX X 0)), (1, .int l1), (3, .int l3), (4, .int l4)] [] s) (l1 : Int32) (l3 : Int32) (l4 : Int32) (s : Mem) : J (YM true) X 6 (b_X11_judge_92  n k92 l1 l3 l4 s) 92 [(0, .ref (adX X 0)), (1, .int l1), (3, .int l3), (4, .int l4)] [] s := by
  unfold b_X11_judge_92
  refine j_aload_n C dX11_judge_92 0 rfl rfl ?_
  refine j_get C kX11 (km_0 true) (lm_0 true) 19 (by decide) tw_1212 (rm_19 true) dX11_judge_93 ?_
  refine j_if_ne (tgt := 278) C dX11_judge_96 (by decide) ?_ ?_
  · refine j_sub (L' := [(3, .int l3)]) [2] rfl ?_
    exact jb_X11_judge_278 C CR  n l3 s
  · refine j_iload C dX11_judge_99 3 rfl ?_
    refine j_iload_n C dX11_judge_101 1 rfl rfl ?_
    refine j_icmp_ge (tgt := 278) C dX11_judge_102 (by decide) ?_ ?_
    · refine j_sub (L' := [(3, .int l3)]) [2] rfl ?_
      exact jb_X11_judge_278 C CR  n l3 s
    · refine j_aload_n C dX11_judge_105 0 rfl rfl ?_
      refine j_getR (z := 1) C kX11 (km_0 true) (lm_0 true) 1 (by decide) tw_1194 (rm_1 true) rfl dX11_judge_106 ?_
      refine j_iload C dX11_judge_109 3 rfl ?_
      refine j_iald C (km_1 true) (lm_1 true) dX11_judge_111 ?_
      refine j_istore (L' := [(0, .ref (adX X 0)), (1, .int l1), (3, .int l3), (4, .int l4), (5, .int (s 1 l4.toNatClampNeg))]) C dX11_judge_112 (by decide) [1, 2, 3, 4, 0] rfl ?_
      refine j_iload C dX11_judge_114 4 rfl ?_
      refine j_bipush (v := (82 : Int32)) C dX11_judge_116 (by decide) ?_
      refine j_icmp_eq (tgt := 152) C dX11_judge_118 (by decide) ?_ ?_
      · exact jb_X11_judge_152 C CR k92 hk92 n l1 l3 l4 (s 1 l4.toNatClampNeg) s
      · refine j_iload C dX11_judge_121 4 rfl ?_
        refine j_bipush (v := (83 : Int32)) C dX11_judge_123 (by decide) ?_
        refine j_icmp_eq (tgt := 152) C dX11_judge_125 (by decide) ?_ ?_
        · exact jb_X11_judge_152 C CR k92 hk92 n l1 l3 l4 (s 1 l4.toNatClampNeg) s
        · refine j_iload C dX11_judge_128 4 rfl ?_
          refine j_bipush (v := (79 : Int32)) C dX11_judge_130 (by decide) ?_
          refine j_icmp_eq (tgt := 152) C dX11_judge_132 (by decide) ?_ ?_
          · exact jb_X11_judge_152 C CR k92 hk92 n l1 l3 l4 (s 1 l4.toNatClampNeg) s
          · refine j_iload C dX11_judge_135 4 rfl ?_
            refine j_bipush (v := (65 : Int32)) C dX11_judge_137 (by decide) ?_
            refine j_icmp_eq (tgt := 152) C dX11_judge_139 (by decide) ?_ ?_
            · exact jb_X11_judge_152 C CR k92 hk92 n l1 l3 l4 (s 1 l4.toNatClampNeg) s
            · refine j_aload_n C dX11_judge_142 0 rfl rfl ?_
              refine j_iconst (v := (2 : Int32)) C dX11_judge_143 (by decide) ?_
              refine j_iload C dX11_judge_144 3 rfl ?_
              refine j_callVn C (c_X11_flaw true n (2 : Int32) l4 s) cw_RX11_88 ⟨rfl, rfl, Nat.le_of_ble_eq_true rfl, Nat.le_of_ble_eq_true rfl⟩ 0 kX11 (km_0 true) (lm_0 true) [.int (2 : Int32), .int l4] [] rfl rfl rfl (Nat.le_of_ble_eq_true rfl) dX11_judge_146 (fun s1 => ?_)
              refine j_goto (tgt := 275) C dX11_judge_149 (by decide) ?_
              refine j_sub (L' := [(0, .ref (adX X 0)), (1, .int l1), (3, .int l3), (4, .int l4)]) [0, 1, 2, 3] rfl ?_
              exact jb_X11_judge_275 C CR k92 hk92 n l1 l3 l4 s1
theorem lb_X11_judge_92 {X : CtxT (Int32 × Mem)} (C : Cx (YM true) X 6 cX11_judge RX11 (some .int) rm_X11_judge) (CR : CRj true X)  : ∀ (n : Nat) (l1 : Int32) (l3 : Int32) (l4 : Int32) (s : Mem), J (YM true) X 6 (itr3 (b_X11_judge_92) n l1 l3 l4 s) 92 [(0, .ref (adX X 0)), (1, .int l1), (3, .int l3), (4, .int l4)] [] s := by
  intro n
  induction n with
  | zero => intros; exact j_none
  | succ n ih =>
    intro l1 l3 l4 s
    exact jb_X11_judge_92 C CR  n _ ih l1 l3 l4 s
set_option maxHeartbeats 4000000 in
theorem jb_X11_judge_53 {X : CtxT (Int32 × Mem)} (C : Cx (YM true) X 6 cX11_judge RX11 (some .int) rm_X11_judge) (CR : CRj true X)  (n : Nat) (k53 : Int32 → Int32 → Mem → Option (Int32 × Mem)) (hk53 : ∀ (l1 : Int32) (l3 : Int32) (s : Mem), J (YM true) X 6 (k53 l1 l3 s) 53 [(0, .ref (adX X 0)), (1, .int l1), (2, .ref (adX X 19)), (3, .int l3)] [] s) (l1 : Int32) (l3 : Int32) (s : Mem) : J (YM true) X 6 (b_X11_judge_53  n k53 l1 l3 s) 53 [(0, .ref (adX X 0)), (1, .int l1), (2, .ref (adX X 19)), (3, .int l3)] [] s := by
  unfold b_X11_judge_53
  refine j_iload_n C dX11_judge_53 3 rfl rfl ?_
  refine j_iconst (v := (4 : Int32)) C dX11_judge_54 (by decide) ?_
  refine j_icmp_ge (tgt := 87) C dX11_judge_55 (by decide) ?_ ?_
  · refine j_iconst (v := (0 : Int32)) C dX11_judge_87 (by decide) ?_
    refine j_istore_n (L' := [(0, .ref (adX X 0)), (1, .int l1), (2, .ref (adX X 19)), (3, .int (0 : Int32))]) C dX11_judge_88 rfl (by decide) [1, 2, 3, 0] rfl ?_
    refine j_iconst (v := (4 : Int32)) C dX11_judge_89 (by decide) ?_
    refine j_istore (L' := [(0, .ref (adX X 0)), (1, .int l1), (2, .ref (adX X 19)), (3, .int (0 : Int32)), (4, .int (4 : Int32))]) C dX11_judge_90 (by decide) [1, 2, 3, 4, 0] rfl ?_
    refine j_sub (L' := [(0, .ref (adX X 0)), (1, .int l1), (3, .int (0 : Int32)), (4, .int (4 : Int32))]) [0, 1, 3, 4] rfl ?_
    exact lb_X11_judge_92 C CR  n l1 (0 : Int32) (4 : Int32) s
  · refine j_iload_n C dX11_judge_58 3 rfl rfl ?_
    refine j_iload_n C dX11_judge_59 1 rfl rfl ?_
    refine j_icmp_ge (tgt := 75) C dX11_judge_60 (by decide) ?_ ?_
    · exact jb_X11_judge_75 C CR k53 hk53 n l1 l3 s
    · refine j_aload_n C dX11_judge_63 0 rfl rfl ?_
      refine j_getR (z := 1) C kX11 (km_0 true) (lm_0 true) 1 (by decide) tw_1194 (rm_1 true) rfl dX11_judge_64 ?_
      refine j_iload_n C dX11_judge_67 3 rfl rfl ?_
      refine j_iald C (km_1 true) (lm_1 true) dX11_judge_68 ?_
      refine j_aload_n C dX11_judge_69 2 rfl rfl ?_
      refine j_iload_n C dX11_judge_70 3 rfl rfl ?_
      refine j_iald C (km_19 true) (by decide) dX11_judge_71 ?_
      refine j_icmp_eq (tgt := 81) C dX11_judge_72 (by decide) ?_ ?_
      · exact jb_X11_judge_81 C CR k53 hk53 n l1 l3 s
      · exact jb_X11_judge_75 C CR k53 hk53 n l1 l3 s
theorem lb_X11_judge_53 {X : CtxT (Int32 × Mem)} (C : Cx (YM true) X 6 cX11_judge RX11 (some .int) rm_X11_judge) (CR : CRj true X)  : ∀ (n : Nat) (l1 : Int32) (l3 : Int32) (s : Mem), J (YM true) X 6 (itr2 (b_X11_judge_53) n l1 l3 s) 53 [(0, .ref (adX X 0)), (1, .int l1), (2, .ref (adX X 19)), (3, .int l3)] [] s := by
  intro n
  induction n with
  | zero => intros; exact j_none
  | succ n ih =>
    intro l1 l3 s
    exact jb_X11_judge_53 C CR  n _ ih l1 l3 s
set_option maxHeartbeats 4000000 in
theorem jb_X11_judge_7 {X : CtxT (Int32 × Mem)} (C : Cx (YM false) X 6 cX11_judge RX11 (some .int) rm_X11_judge) (CR : CRj false X)  (n : Nat) (k7 : Int32 → Int32 → Mem → Option (Int32 × Mem)) (hk7 : ∀ (l1 : Int32) (l2 : Int32) (s : Mem), J (YM false) X 6 (k7 l1 l2 s) 7 [(0, .ref (adX X 0)), (1, .int l1), (2, .int l2)] [] s) (l1 : Int32) (l2 : Int32) (s : Mem) : J (YM false) X 6 (b_X11_judge_7  n k7 l1 l2 s) 7 [(0, .ref (adX X 0)), (1, .int l1), (2, .int l2)] [] s := by
  unfold b_X11_judge_7
  refine j_iload_n C dX11_judge_7 2 rfl rfl ?_
  refine j_sipush (v := (256 : Int32)) C dX11_judge_8 (by decide) ?_
  refine j_icmp_ge (tgt := 27) C dX11_judge_11 (by decide) ?_ ?_
  · refine j_iconst (v := (4 : Int32)) C dX11_judge_27 (by decide) ?_
    refine j_newj C CR tw_151 ⟨rfl, rfl⟩ dX11_judge_28 (fun X C CR e2 s1 => ?_)
    rw [← e2 0 (by decide)]
    refine j_dup C dX11_judge_30 rfl ?_
    refine j_iconst (v := (0 : Int32)) C dX11_judge_31 (by decide) ?_
    refine j_bipush (v := (80 : Int32)) C dX11_judge_32 (by decide) ?_
    refine j_iast C (km_19 true) (by decide) dX11_judge_34 (fun s2 => ?_)
    refine j_dup C dX11_judge_35 rfl ?_
    refine j_iconst (v := (1 : Int32)) C dX11_judge_36 (by decide) ?_
    refine j_bipush (v := (76 : Int32)) C dX11_judge_37 (by decide) ?_
    refine j_iast C (km_19 true) (by decide) dX11_judge_39 (fun s3 => ?_)
    refine j_dup C dX11_judge_40 rfl ?_
    refine j_iconst (v := (2 : Int32)) C dX11_judge_41 (by decide) ?_
    refine j_bipush (v := (65 : Int32)) C dX11_judge_42 (by decide) ?_
    refine j_iast C (km_19 true) (by decide) dX11_judge_44 (fun s4 => ?_)
    refine j_dup C dX11_judge_45 rfl ?_
    refine j_iconst (v := (3 : Int32)) C dX11_judge_46 (by decide) ?_
    refine j_bipush (v := (89 : Int32)) C dX11_judge_47 (by decide) ?_
    refine j_iast C (km_19 true) (by decide) dX11_judge_49 (fun s5 => ?_)
    refine j_astore_n (L' := [(0, .ref (adX X 0)), (1, .int l1), (2, .ref (adX X 19))]) C dX11_judge_50 rfl (by decide) [1, 2, 0] rfl ?_
    refine j_iconst (v := (0 : Int32)) C dX11_judge_51 (by decide) ?_
    refine j_istore_n (L' := [(0, .ref (adX X 0)), (1, .int l1), (2, .ref (adX X 19)), (3, .int (0 : Int32))]) C dX11_judge_52 rfl (by decide) [1, 2, 3, 0] rfl ?_
    exact lb_X11_judge_53 C CR  n l1 (0 : Int32) s5
  · refine j_aload_n C dX11_judge_14 0 rfl rfl ?_
    refine j_getR (z := 13) C kX11 (km_0 false) (lm_0 false) 21 (by decide) tw_1214 (rm_21 false) rfl dX11_judge_15 ?_
    refine j_iload_n C dX11_judge_18 2 rfl rfl ?_
    refine j_iconst (v := (0 : Int32)) C dX11_judge_19 (by decide) ?_
    refine j_zast C (km_13 false) (lm_13 false) dX11_judge_20 (fun s6 => ?_)
    refine j_iinc (L2 := fun x7 => [(0, .ref (adX X 0)), (1, .int l1), (2, .int x7)]) C dX11_judge_21 2 rfl (by decide) [1, 2, 0] (fun _ => rfl) (fun x7 => ?_)
    refine j_goto (tgt := 7) C dX11_judge_24 (by decide) ?_
    exact hk7 l1 x7 s6
theorem lb_X11_judge_7 {X : CtxT (Int32 × Mem)} (C : Cx (YM false) X 6 cX11_judge RX11 (some .int) rm_X11_judge) (CR : CRj false X)  : ∀ (n : Nat) (l1 : Int32) (l2 : Int32) (s : Mem), J (YM false) X 6 (itr2 (b_X11_judge_7) n l1 l2 s) 7 [(0, .ref (adX X 0)), (1, .int l1), (2, .int l2)] [] s := by
  intro n
  induction n with
  | zero => intros; exact j_none
  | succ n ih =>
    intro l1 l2 s
    exact jb_X11_judge_7 C CR  n _ ih l1 l2 s
set_option maxHeartbeats 4000000 in
theorem c_X11_judge (n : Nat) (l1 : Int32) (s : Mem) : CTj (YM false) yX11_judge cX11_judge 6 (some .int) rm_X11_judge (fun ad => [.ref (ad 0), .int l1]) s (f_X11_judge n l1 s) := by
  refine CTj_of (by decide) (fun _ => Nat.le_of_ble_eq_true rfl) (fun X C CR => ?_)
  show J (YM false) X 6 (f_X11_judge n l1 s) 0 [(0, .ref (adX X 0)), (1, .int l1)] [] s
  unfold f_X11_judge
  refine j_aload_n C dX11_judge_0 0 rfl rfl ?_
  refine j_iconst (v := (0 : Int32)) C dX11_judge_1 (by decide) ?_
  refine j_put C kX11 (km_0 false) (lm_0 false) 19 (by decide) tw_1212 (rm_19 false) rfl rfl dX11_judge_2 (fun s1 => ?_)
  refine j_iconst (v := (0 : Int32)) C dX11_judge_5 (by decide) ?_
  refine j_istore_n (L' := [(0, .ref (adX X 0)), (1, .int l1), (2, .int (0 : Int32))]) C dX11_judge_6 rfl (by decide) [1, 2, 0] rfl ?_
  exact lb_X11_judge_7 C CR  n l1 (0 : Int32) s1
set_option maxHeartbeats 4000000 in
theorem jb_X11_play_96 {X : CtxT (Int32 × Mem)} (C : Cx (YM false) X 4 cX11_play RX11 (some .int) rm_X11_play) (CR : CRi (YM false) X)  (n : Nat) (k96 : Int32 → Int32 → Mem → Option (Int32 × Mem)) (hk96 : ∀ (l2 : Int32) (l3 : Int32) (s : Mem), J (YM false) X 4 (k96 l2 l3 s) 96 [(0, .ref (adX X 0)), (2, .int l2), (3, .int l3)] [] s) (l2 : Int32) (l3 : Int32) (s : Mem) : J (YM false) X 4 (b_X11_play_96  n k96 l2 l3 s) 96 [(0, .ref (adX X 0)), (2, .int l2), (3, .int l3)] [] s := by
  unfold b_X11_play_96
  refine j_iload_n C dX11_play_96 2 rfl rfl ?_
  refine j_aload_n C dX11_play_97 0 rfl rfl ?_
  refine j_get C kX11 (km_0 false) (lm_0 false) 4 (by decide) tw_1197 (rm_4 false) dX11_play_98 ?_
  refine j_icmp_ge (tgt := 137) C dX11_play_101 (by decide) ?_ ?_
  · refine j_iload_n C dX11_play_137 1 rfl rfl ?_
    exact j_iret C CR dX11_play_138
  · refine j_aload_n C dX11_play_104 0 rfl rfl ?_
    refine j_iload_n C dX11_play_105 2 rfl rfl ?_
    refine j_callVn C (c_X11_load false n l3 s) cw_RX11_145 ⟨rfl, rfl, Nat.le_of_ble_eq_true rfl, Nat.le_of_ble_eq_true rfl⟩ 0 kX11 (km_0 false) (lm_0 false) [.int l3] [] rfl rfl rfl (Nat.le_of_ble_eq_true rfl) dX11_play_106 (fun s1 => ?_)
    refine j_iload_n C dX11_play_109 2 rfl rfl ?_
    refine j_iconst (v := (3 : Int32)) C dX11_play_110 (by decide) ?_
    refine j_aload_n C dX11_play_111 0 rfl rfl ?_
    refine j_getR (z := 2) C kX11 (km_0 false) (lm_0 false) 3 (by decide) tw_1196 (rm_3 false) rfl dX11_play_112 ?_
    refine j_iload_n C dX11_play_115 2 rfl rfl ?_
    refine j_iconst (v := (1 : Int32)) C dX11_play_116 (by decide) ?_
    refine j_iadd C dX11_play_117 ?_
    refine j_iald C (km_2 false) (lm_2 false) dX11_play_118 ?_
    refine j_bipush (v := (8 : Int32)) C dX11_play_119 (by decide) ?_
    refine j_ishl C dX11_play_121 ?_
    refine j_aload_n C dX11_play_122 0 rfl rfl ?_
    refine j_getR (z := 2) C kX11 (km_0 false) (lm_0 false) 3 (by decide) tw_1196 (rm_3 false) rfl dX11_play_123 ?_
    refine j_iload_n C dX11_play_126 2 rfl rfl ?_
    refine j_iconst (v := (2 : Int32)) C dX11_play_127 (by decide) ?_
    refine j_iadd C dX11_play_128 ?_
    refine j_iald C (km_2 false) (lm_2 false) dX11_play_129 ?_
    refine j_ior C dX11_play_130 ?_
    refine j_iadd C dX11_play_131 ?_
    refine j_iadd C dX11_play_132 ?_
    refine j_top (fun x2 => ?_)
    refine j_istore_n (L' := [(0, .ref (adX X 0)), (2, .int l2), (3, .int x2)]) C dX11_play_133 rfl (by decide) [1, 2, 0] rfl ?_
    refine j_goto (tgt := 96) C dX11_play_134 (by decide) ?_
    exact hk96 l2 x2 s1
theorem lb_X11_play_96 {X : CtxT (Int32 × Mem)} (C : Cx (YM false) X 4 cX11_play RX11 (some .int) rm_X11_play) (CR : CRi (YM false) X)  : ∀ (n : Nat) (l2 : Int32) (l3 : Int32) (s : Mem), J (YM false) X 4 (itr2 (b_X11_play_96) n l2 l3 s) 96 [(0, .ref (adX X 0)), (2, .int l2), (3, .int l3)] [] s := by
  intro n
  induction n with
  | zero => intros; exact j_none
  | succ n ih =>
    intro l2 l3 s
    exact jb_X11_play_96 C CR  n _ ih l2 l3 s
set_option maxHeartbeats 4000000 in
theorem jb_X11_play_62 {X : CtxT (Int32 × Mem)} (C : Cx (YM false) X 4 cX11_play RX11 (some .int) rm_X11_play) (CR : CRi (YM false) X)  (n : Nat) (k62 : Int32 → Int32 → Int32 → Mem → Option (Int32 × Mem)) (hk62 : ∀ (l1 : Int32) (l2 : Int32) (l3 : Int32) (s : Mem), J (YM false) X 4 (k62 l1 l2 l3 s) 62 [(0, .ref (adX X 0)), (1, .int l1), (2, .int l2), (3, .int l3)] [] s) (l1 : Int32) (l2 : Int32) (l3 : Int32) (s : Mem) : J (YM false) X 4 (b_X11_play_62  n k62 l1 l2 l3 s) 62 [(0, .ref (adX X 0)), (1, .int l1), (2, .int l2), (3, .int l3)] [] s := by
  unfold b_X11_play_62
  refine j_iload_n C dX11_play_62 3 rfl rfl ?_
  refine j_iload_n C dX11_play_63 1 rfl rfl ?_
  refine j_icmp_ge (tgt := 85) C dX11_play_64 (by decide) ?_ ?_
  · refine j_aload_n C dX11_play_85 0 rfl rfl ?_
    refine j_iload_n C dX11_play_86 1 rfl rfl ?_
    refine j_put C kX11 (km_0 false) (lm_0 false) 4 (by decide) tw_1197 (rm_4 false) rfl rfl dX11_play_87 (fun s1 => ?_)
    refine j_aload_n C dX11_play_90 0 rfl rfl ?_
    refine j_callVn C (c_X11_forget false n  s1) cw_RX11_142 ⟨rfl, rfl, Nat.le_of_ble_eq_true rfl, Nat.le_of_ble_eq_true rfl⟩ 0 kX11 (km_0 false) (lm_0 false) [] [] rfl rfl rfl (Nat.le_of_ble_eq_true rfl) dX11_play_91 (fun s2 => ?_)
    refine j_iconst (v := (4 : Int32)) C dX11_play_94 (by decide) ?_
    refine j_istore_n (L' := [(0, .ref (adX X 0)), (1, .int l1), (2, .int l2), (3, .int (4 : Int32))]) C dX11_play_95 rfl (by decide) [1, 2, 3, 0] rfl ?_
    refine j_sub (L' := [(0, .ref (adX X 0)), (2, .int l2), (3, .int (4 : Int32))]) [0, 2, 3] rfl ?_
    exact lb_X11_play_96 C CR  n l2 (4 : Int32) s2
  · refine j_aload_n C dX11_play_67 0 rfl rfl ?_
    refine j_getR (z := 2) C kX11 (km_0 false) (lm_0 false) 3 (by decide) tw_1196 (rm_3 false) rfl dX11_play_68 ?_
    refine j_iload_n C dX11_play_71 3 rfl rfl ?_
    refine j_aload_n C dX11_play_72 0 rfl rfl ?_
    refine j_getR (z := 1) C kX11 (km_0 false) (lm_0 false) 1 (by decide) tw_1194 (rm_1 false) rfl dX11_play_73 ?_
    refine j_iload_n C dX11_play_76 3 rfl rfl ?_
    refine j_iald C (km_1 false) (lm_1 false) dX11_play_77 ?_
    refine j_iast C (km_2 false) (lm_2 false) dX11_play_78 (fun s3 => ?_)
    refine j_iinc (L2 := fun x4 => [(0, .ref (adX X 0)), (1, .int l1), (2, .int l2), (3, .int x4)]) C dX11_play_79 3 rfl (by decide) [1, 2, 3, 0] (fun _ => rfl) (fun x4 => ?_)
    refine j_goto (tgt := 62) C dX11_play_82 (by decide) ?_
    exact hk62 l1 l2 x4 s3
theorem lb_X11_play_62 {X : CtxT (Int32 × Mem)} (C : Cx (YM false) X 4 cX11_play RX11 (some .int) rm_X11_play) (CR : CRi (YM false) X)  : ∀ (n : Nat) (l1 : Int32) (l2 : Int32) (l3 : Int32) (s : Mem), J (YM false) X 4 (itr3 (b_X11_play_62) n l1 l2 l3 s) 62 [(0, .ref (adX X 0)), (1, .int l1), (2, .int l2), (3, .int l3)] [] s := by
  intro n
  induction n with
  | zero => intros; exact j_none
  | succ n ih =>
    intro l1 l2 l3 s
    exact jb_X11_play_62 C CR  n _ ih l1 l2 l3 s
set_option maxHeartbeats 4000000 in
theorem jb_X11_play_45 {X : CtxT (Int32 × Mem)} (C : Cx (YM false) X 4 cX11_play RX11 (some .int) rm_X11_play) (CR : CRi (YM false) X)  (n : Nat)  (l1 : Int32) (l2 : Int32) (t0 : Int32) (s : Mem) : J (YM false) X 4 (b_X11_play_45  n  l1 l2 t0 s) 45 [(0, .ref (adX X 0)), (1, .int l1), (2, .int l2)] [.int t0, .ref (adX X 0)] s := by
  unfold b_X11_play_45
  refine j_put C kX11 (km_0 false) (lm_0 false) 26 (by decide) tw_1219 (rm_26 false) rfl rfl dX11_play_45 (fun s1 => ?_)
  refine j_aload_n C dX11_play_48 0 rfl rfl ?_
  refine j_get C kX11 (km_0 false) (lm_0 false) 19 (by decide) tw_1212 (rm_19 false) dX11_play_49 ?_
  refine j_if_eq (tgt := 60) C dX11_play_52 (by decide) ?_ ?_
  · refine j_iconst (v := (0 : Int32)) C dX11_play_60 (by decide) ?_
    refine j_istore_n (L' := [(0, .ref (adX X 0)), (1, .int l1), (2, .int l2), (3, .int (0 : Int32))]) C dX11_play_61 rfl (by decide) [1, 2, 3, 0] rfl ?_
    exact lb_X11_play_62 C CR  n l1 l2 (0 : Int32) s1
  · refine j_aload_n C dX11_play_55 0 rfl rfl ?_
    refine j_callVi C (c_X11_refuse false n  s1) cw_RX11_135 ⟨rfl, rfl, Nat.le_of_ble_eq_true rfl, Nat.le_of_ble_eq_true rfl⟩ 0 kX11 (km_0 false) (lm_0 false) [] [] rfl rfl rfl (Nat.le_of_ble_eq_true rfl) dX11_play_56 (fun x3 s2 => ?_)
    exact j_iret C CR dX11_play_59
set_option maxHeartbeats 4000000 in
theorem c_X11_play (n : Nat)  (s : Mem) : CTj (YM false) yX11_play cX11_play 4 (some .int) rm_X11_play (fun ad => [.ref (ad 0)]) s (f_X11_play n  s) := by
  refine CTp_of (by decide) (fun _ => Nat.le_of_ble_eq_true rfl) (fun X C CR => ?_)
  show J (YM false) X 4 (f_X11_play n  s) 0 [(0, .ref (adX X 0))] [] s
  unfold f_X11_play
  refine j_aload_n C dX11_play_0 0 rfl rfl ?_
  refine j_iconst (v := (0 : Int32)) C dX11_play_1 (by decide) ?_
  refine j_put C kX11 (km_0 false) (lm_0 false) 0 (by decide) tw_1193 (rm_0 false) rfl rfl dX11_play_2 (fun s1 => ?_)
  refine j_aload_n C dX11_play_5 0 rfl rfl ?_
  refine j_get C kX11 (km_0 false) (lm_0 false) 2 (by decide) tw_1195 (rm_2 false) dX11_play_6 ?_
  refine j_istore_n (L' := [(0, .ref (adX X 0)), (1, .int (s1 0 2))]) C dX11_play_9 rfl (by decide) [1, 0] rfl ?_
  refine j_aload_n C dX11_play_10 0 rfl rfl ?_
  refine j_iconst (v := (0 : Int32)) C dX11_play_11 (by decide) ?_
  refine j_put C kX11 (km_0 false) (lm_0 false) 2 (by decide) tw_1195 (rm_2 false) rfl rfl dX11_play_12 (fun s2 => ?_)
  refine j_aload_n C dX11_play_15 0 rfl rfl ?_
  refine j_iload_n C dX11_play_16 1 rfl rfl ?_
  refine j_callJ C CR (c_X11_judge n (s1 0 2) s2) cw_RX11_125 ⟨rfl, rfl, Nat.le_of_ble_eq_true rfl, Nat.le_of_ble_eq_true rfl⟩ ⟨rfl, rfl⟩ 0 kX11 (km_0 false) (lm_0 false) [.int (s1 0 2)] [] rfl rfl rfl (Nat.le_of_ble_eq_true rfl) dX11_play_17 (fun X C CR e2 x4 s3 => ?_)
  rw [← e2]
  refine j_istore_n (L' := [(0, .ref (adX X 0)), (1, .int (s1 0 2)), (2, .int x4)]) C dX11_play_20 rfl (by decide) [1, 2, 0] rfl ?_
  refine j_aload_n C dX11_play_21 0 rfl rfl ?_
  refine j_aload_n C dX11_play_22 0 rfl rfl ?_
  refine j_get C kX11 (km_0 false) (lm_0 false) 19 (by decide) tw_1212 (rm_19 false) dX11_play_23 ?_
  refine j_put C kX11 (km_0 false) (lm_0 false) 25 (by decide) tw_1218 (rm_25 false) rfl rfl dX11_play_26 (fun s5 => ?_)
  refine j_aload_n C dX11_play_29 0 rfl rfl ?_
  refine j_aload_n C dX11_play_30 0 rfl rfl ?_
  refine j_get C kX11 (km_0 false) (lm_0 false) 19 (by decide) tw_1212 (rm_19 false) dX11_play_31 ?_
  refine j_if_ne (tgt := 41) C dX11_play_34 (by decide) ?_ ?_
  · refine j_aload_n C dX11_play_41 0 rfl rfl ?_
    refine j_get C kX11 (km_0 false) (lm_0 false) 20 (by decide) tw_1213 (rm_20 false) dX11_play_42 ?_
    exact jb_X11_play_45 C CR  n (s1 0 2) x4 (s5 0 20) s5
  · refine j_iconst (v := (0 : Int32)) C dX11_play_37 (by decide) ?_
    refine j_goto (tgt := 45) C dX11_play_38 (by decide) ?_
    exact jb_X11_play_45 C CR  n (s1 0 2) x4 (0 : Int32) s5
