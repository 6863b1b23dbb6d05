/-! ===== the rows of J: an instruction each ===== -/
section JR
variable {ω : Type} {Y : Lay} {X : CtxT ω} {nL : Nat} {cc : ByteArray} {own : String} {rt : Option FieldType} {rm : Room} {E E1 E2 : Option ω} {pc : Nat} {L L' : List (Nat × Value)} {st : List Value} {σ : Mem}
theorem j_none : J Y X nL none pc L st σ := by
  intro x hx
  cases hx
theorem j_sub (ks : List Nat) (hL : lv_pick L ks = L') (h : J Y X nL E pc L' st σ) : J Y X nL E pc L st σ := by
  intro x hx H locs ls hl hP hS
  exact h x hx H locs ls (lv_sub hl ks hL) hP hS
theorem j_top {v : Int32} {k : Int32 → Option ω} (h : ∀ y, J Y X nL (k y) pc L (.int y :: st) σ) : J Y X nL (lt v k) pc L (.int v :: st) σ := h v
theorem j_topl {v : Int64} {k : Int64 → Option ω} (h : ∀ y, J Y X nL (k y) pc L (.long y :: st) σ) : J Y X nL (lt v k) pc L (.long v :: st) σ := h v
theorem j_eq {E' : Option ω} (he : E = E') (h : J Y X nL E' pc L st σ) : J Y X nL E pc L st σ := by rw [he]; exact h

theorem j_iconst (C : Cx Y X nL cc own rt rm) {n : Int} {v : Int32} (d : decode cc pc = .ok (.iconst n, 1)) (hv : Int32.ofInt n = v) (h : J Y X nL E (pc + 1) L (.int v :: st) σ) : J Y X nL E pc L (st) σ := by
  intro x hx H locs ls hl hP hS
  obtain ⟨c1, c2, -⟩ := C
  exact lv_iconst c1 c2 d hv (h x hx H locs ls hl hP hS)
theorem j_bipush (C : Cx Y X nL cc own rt rm) {n : Int} {v : Int32} (d : decode cc pc = .ok (.bipush n, 2)) (hv : (Int8.ofInt n).toInt32 = v) (h : J Y X nL E (pc + 2) L (.int v :: st) σ) : J Y X nL E pc L (st) σ := by
  intro x hx H locs ls hl hP hS
  obtain ⟨c1, c2, -⟩ := C
  exact lv_bipush c1 c2 d hv (h x hx H locs ls hl hP hS)
theorem j_sipush (C : Cx Y X nL cc own rt rm) {n : Int} {v : Int32} (d : decode cc pc = .ok (.sipush n, 3)) (hv : (Int16.ofInt n).toInt32 = v) (h : J Y X nL E (pc + 3) L (.int v :: st) σ) : J Y X nL E pc L (st) σ := by
  intro x hx H locs ls hl hP hS
  obtain ⟨c1, c2, -⟩ := C
  exact lv_sipush c1 c2 d hv (h x hx H locs ls hl hP hS)
theorem j_lconst (C : Cx Y X nL cc own rt rm) {n : Fin 2} {v : Int64} (d : decode cc pc = .ok (.lconst n, 1)) (hv : Int64.ofNat (n : Nat) = v) (h : J Y X nL E (pc + 1) L (.long v :: st) σ) : J Y X nL E pc L (st) σ := by
  intro x hx H locs ls hl hP hS
  obtain ⟨c1, c2, -⟩ := C
  exact lv_lconst c1 c2 d hv (h x hx H locs ls hl hP hS)
theorem j_iload_n (C : Cx Y X nL cc own rt rm) {kf : Fin 4} {i : Nat} {v : Int32} (d : decode cc pc = .ok (.iload_n kf, 1)) (k : Nat) (hi : (kf : Nat) = i) (hk : L[k]? = some (i, .int v)) (h : J Y X nL E (pc + 1) L (.int v :: st) σ) : J Y X nL E pc L (st) σ := by
  intro x hx H locs ls hl hP hS
  obtain ⟨c1, c2, -⟩ := C
  exact lv_iload_n c1 c2 d hi (lv_at hl k hk) (h x hx H locs ls hl hP hS)
theorem j_iload (C : Cx Y X nL cc own rt rm) {i : Nat} {v : Int32} (d : decode cc pc = .ok (.iload i, 2)) (k : Nat) (hk : L[k]? = some (i, .int v)) (h : J Y X nL E (pc + 2) L (.int v :: st) σ) : J Y X nL E pc L (st) σ := by
  intro x hx H locs ls hl hP hS
  obtain ⟨c1, c2, -⟩ := C
  exact lv_iload c1 c2 d (lv_at hl k hk) (h x hx H locs ls hl hP hS)
theorem j_lload_n (C : Cx Y X nL cc own rt rm) {kf : Fin 4} {i : Nat} {v : Int64} (d : decode cc pc = .ok (.lload_n kf, 1)) (k : Nat) (hi : (kf : Nat) = i) (hk : L[k]? = some (i, .long v)) (h : J Y X nL E (pc + 1) L (.long v :: st) σ) : J Y X nL E pc L (st) σ := by
  intro x hx H locs ls hl hP hS
  obtain ⟨c1, c2, -⟩ := C
  exact lv_lload_n c1 c2 d hi (lv_at hl k hk) (h x hx H locs ls hl hP hS)
theorem j_lload (C : Cx Y X nL cc own rt rm) {i : Nat} {v : Int64} (d : decode cc pc = .ok (.lload i, 2)) (k : Nat) (hk : L[k]? = some (i, .long v)) (h : J Y X nL E (pc + 2) L (.long v :: st) σ) : J Y X nL E pc L (st) σ := by
  intro x hx H locs ls hl hP hS
  obtain ⟨c1, c2, -⟩ := C
  exact lv_lload c1 c2 d (lv_at hl k hk) (h x hx H locs ls hl hP hS)
theorem j_aload_n (C : Cx Y X nL cc own rt rm) {kf : Fin 4} {i : Nat} {v : Nat} (d : decode cc pc = .ok (.aload_n kf, 1)) (k : Nat) (hi : (kf : Nat) = i) (hk : L[k]? = some (i, .ref v)) (h : J Y X nL E (pc + 1) L (.ref v :: st) σ) : J Y X nL E pc L (st) σ := by
  intro x hx H locs ls hl hP hS
  obtain ⟨c1, c2, -⟩ := C
  exact lv_aload_n c1 c2 d hi (lv_at hl k hk) (h x hx H locs ls hl hP hS)
theorem j_aload (C : Cx Y X nL cc own rt rm) {i : Nat} {v : Nat} (d : decode cc pc = .ok (.aload i, 2)) (k : Nat) (hk : L[k]? = some (i, .ref v)) (h : J Y X nL E (pc + 2) L (.ref v :: st) σ) : J Y X nL E pc L (st) σ := by
  intro x hx H locs ls hl hP hS
  obtain ⟨c1, c2, -⟩ := C
  exact lv_aload c1 c2 d (lv_at hl k hk) (h x hx H locs ls hl hP hS)
theorem j_istore_n (C : Cx Y X nL cc own rt rm) {kf : Fin 4} {i : Nat} {v : Int32} (d : decode cc pc = .ok (.istore_n kf, 1)) (hi : (kf : Nat) = i) (hn : i < nL) (ks : List Nat) (hL : lv_pick ((i, Value.int v) :: L.filter (fun q => !(q.1 == i) && !(q.1 + 1 == i && q.2.category == 2))) ks = L') (h : J Y X nL E (pc + 1) L' st σ) : J Y X nL E pc L (.int v :: st) σ := by
  intro x hx H locs ls hl hP hS
  obtain ⟨c1, c2, -⟩ := C
  exact lv_istore_n c1 c2 d hi hl hn rfl (fun ls' hl' => h x hx H locs ls' (lv_sub hl' ks hL) hP hS)
theorem j_istore (C : Cx Y X nL cc own rt rm) {i : Nat} {v : Int32} (d : decode cc pc = .ok (.istore i, 2)) (hn : i < nL) (ks : List Nat) (hL : lv_pick ((i, Value.int v) :: L.filter (fun q => !(q.1 == i) && !(q.1 + 1 == i && q.2.category == 2))) ks = L') (h : J Y X nL E (pc + 2) L' st σ) : J Y X nL E pc L (.int v :: st) σ := by
  intro x hx H locs ls hl hP hS
  obtain ⟨c1, c2, -⟩ := C
  exact lv_istore c1 c2 d hl hn rfl (fun ls' hl' => h x hx H locs ls' (lv_sub hl' ks hL) hP hS)
theorem j_astore_n (C : Cx Y X nL cc own rt rm) {kf : Fin 4} {i : Nat} {v : Nat} (d : decode cc pc = .ok (.astore_n kf, 1)) (hi : (kf : Nat) = i) (hn : i < nL) (ks : List Nat) (hL : lv_pick ((i, Value.ref v) :: L.filter (fun q => !(q.1 == i) && !(q.1 + 1 == i && q.2.category == 2))) ks = L') (h : J Y X nL E (pc + 1) L' st σ) : J Y X nL E pc L (.ref v :: st) σ := by
  intro x hx H locs ls hl hP hS
  obtain ⟨c1, c2, -⟩ := C
  exact lv_astore_n c1 c2 d hi hl hn rfl (fun ls' hl' => h x hx H locs ls' (lv_sub hl' ks hL) hP hS)
theorem j_astore (C : Cx Y X nL cc own rt rm) {i : Nat} {v : Nat} (d : decode cc pc = .ok (.astore i, 2)) (hn : i < nL) (ks : List Nat) (hL : lv_pick ((i, Value.ref v) :: L.filter (fun q => !(q.1 == i) && !(q.1 + 1 == i && q.2.category == 2))) ks = L') (h : J Y X nL E (pc + 2) L' st σ) : J Y X nL E pc L (.ref v :: st) σ := by
  intro x hx H locs ls hl hP hS
  obtain ⟨c1, c2, -⟩ := C
  exact lv_astore c1 c2 d hl hn rfl (fun ls' hl' => h x hx H locs ls' (lv_sub hl' ks hL) hP hS)
theorem j_iinc (C : Cx Y X nL cc own rt rm) {i : Nat} {n : Int} {v : Int32} {L2 : Int32 → List (Nat × Value)} {k : Int32 → Option ω} (d : decode cc pc = .ok (.iinc i n, 3)) (q : Nat) (hq : L[q]? = some (i, .int v)) (hn : i < nL) (ks : List Nat) (hL : ∀ y : Int32, lv_pick ((i, Value.int y) :: L.filter (fun q => !(q.1 == i) && !(q.1 + 1 == i && q.2.category == 2))) ks = L2 y) (h : ∀ y : Int32, J Y X nL (k y) (pc + 3) (L2 y) st σ) : J Y X nL (lt (v + Int32.ofInt n) k) pc L st σ := by
  intro x hx H locs ls hl hP hS
  obtain ⟨c1, c2, -⟩ := C
  exact lv_iinc c1 c2 d hl hq rfl hn rfl (fun ls' hl' => h _ x hx H locs ls' (lv_sub hl' ks (hL _)) hP hS)
theorem j_iadd (C : Cx Y X nL cc own rt rm) {a b : Int32} (d : decode cc pc = .ok (.iadd, 1))  (h : J Y X nL E (pc + 1) L (.int (a + b) :: st) σ) : J Y X nL E pc L (.int b :: .int a :: st) σ := by
  intro x hx H locs ls hl hP hS
  obtain ⟨c1, c2, -⟩ := C
  exact lv_iadd c1 c2 d  (h x hx H locs ls hl hP hS)
theorem j_isub (C : Cx Y X nL cc own rt rm) {a b : Int32} (d : decode cc pc = .ok (.isub, 1))  (h : J Y X nL E (pc + 1) L (.int (a - b) :: st) σ) : J Y X nL E pc L (.int b :: .int a :: st) σ := by
  intro x hx H locs ls hl hP hS
  obtain ⟨c1, c2, -⟩ := C
  exact lv_isub c1 c2 d  (h x hx H locs ls hl hP hS)
theorem j_imul (C : Cx Y X nL cc own rt rm) {a b : Int32} (d : decode cc pc = .ok (.imul, 1))  (h : J Y X nL E (pc + 1) L (.int (a * b) :: st) σ) : J Y X nL E pc L (.int b :: .int a :: st) σ := by
  intro x hx H locs ls hl hP hS
  obtain ⟨c1, c2, -⟩ := C
  exact lv_imul c1 c2 d  (h x hx H locs ls hl hP hS)
theorem j_iand (C : Cx Y X nL cc own rt rm) {a b : Int32} (d : decode cc pc = .ok (.iand, 1))  (h : J Y X nL E (pc + 1) L (.int (a &&& b) :: st) σ) : J Y X nL E pc L (.int b :: .int a :: st) σ := by
  intro x hx H locs ls hl hP hS
  obtain ⟨c1, c2, -⟩ := C
  exact lv_iand c1 c2 d  (h x hx H locs ls hl hP hS)
theorem j_ior (C : Cx Y X nL cc own rt rm) {a b : Int32} (d : decode cc pc = .ok (.ior, 1))  (h : J Y X nL E (pc + 1) L (.int (a ||| b) :: st) σ) : J Y X nL E pc L (.int b :: .int a :: st) σ := by
  intro x hx H locs ls hl hP hS
  obtain ⟨c1, c2, -⟩ := C
  exact lv_ior c1 c2 d  (h x hx H locs ls hl hP hS)
theorem j_ixor (C : Cx Y X nL cc own rt rm) {a b : Int32} (d : decode cc pc = .ok (.ixor, 1))  (h : J Y X nL E (pc + 1) L (.int (a ^^^ b) :: st) σ) : J Y X nL E pc L (.int b :: .int a :: st) σ := by
  intro x hx H locs ls hl hP hS
  obtain ⟨c1, c2, -⟩ := C
  exact lv_ixor c1 c2 d  (h x hx H locs ls hl hP hS)
theorem j_ishl (C : Cx Y X nL cc own rt rm) {a b : Int32} (d : decode cc pc = .ok (.ishl, 1))  (h : J Y X nL E (pc + 1) L (.int (a <<< (b &&& 31)) :: st) σ) : J Y X nL E pc L (.int b :: .int a :: st) σ := by
  intro x hx H locs ls hl hP hS
  obtain ⟨c1, c2, -⟩ := C
  exact lv_ishl c1 c2 d  (h x hx H locs ls hl hP hS)
theorem j_ishr (C : Cx Y X nL cc own rt rm) {a b : Int32} (d : decode cc pc = .ok (.ishr, 1))  (h : J Y X nL E (pc + 1) L (.int (a >>> (b &&& 31)) :: st) σ) : J Y X nL E pc L (.int b :: .int a :: st) σ := by
  intro x hx H locs ls hl hP hS
  obtain ⟨c1, c2, -⟩ := C
  exact lv_ishr c1 c2 d  (h x hx H locs ls hl hP hS)
theorem j_iushr (C : Cx Y X nL cc own rt rm) {a b : Int32} (d : decode cc pc = .ok (.iushr, 1))  (h : J Y X nL E (pc + 1) L (.int ((a.toUInt32 >>> (b.toUInt32 &&& Int32.toUInt32 31)).toInt32) :: st) σ) : J Y X nL E pc L (.int b :: .int a :: st) σ := by
  intro x hx H locs ls hl hP hS
  obtain ⟨c1, c2, -⟩ := C
  exact lv_iushr c1 c2 d rfl (h x hx H locs ls hl hP hS)
theorem j_ineg (C : Cx Y X nL cc own rt rm) {a : Int32} (d : decode cc pc = .ok (.ineg, 1))  (h : J Y X nL E (pc + 1) L (.int (-a) :: st) σ) : J Y X nL E pc L (.int a :: st) σ := by
  intro x hx H locs ls hl hP hS
  obtain ⟨c1, c2, -⟩ := C
  exact lv_ineg c1 c2 d  (h x hx H locs ls hl hP hS)
theorem j_i2s (C : Cx Y X nL cc own rt rm) {a : Int32} (d : decode cc pc = .ok (.i2s, 1))  (h : J Y X nL E (pc + 1) L (.int (a.toInt16.toInt32) :: st) σ) : J Y X nL E pc L (.int a :: st) σ := by
  intro x hx H locs ls hl hP hS
  obtain ⟨c1, c2, -⟩ := C
  exact lv_i2s c1 c2 d rfl (h x hx H locs ls hl hP hS)
theorem j_i2l (C : Cx Y X nL cc own rt rm) {a : Int32} (d : decode cc pc = .ok (.i2l, 1))  (h : J Y X nL E (pc + 1) L (.long (a.toInt64) :: st) σ) : J Y X nL E pc L (.int a :: st) σ := by
  intro x hx H locs ls hl hP hS
  obtain ⟨c1, c2, -⟩ := C
  exact lv_i2l c1 c2 d rfl (h x hx H locs ls hl hP hS)
theorem j_lcmp (C : Cx Y X nL cc own rt rm) {a b : Int64} (d : decode cc pc = .ok (.lcmp, 1))  (h : J Y X nL E (pc + 1) L (.int (lg_cmp a b) :: st) σ) : J Y X nL E pc L (.long b :: .long a :: st) σ := by
  intro x hx H locs ls hl hP hS
  obtain ⟨c1, c2, -⟩ := C
  exact W.lcmp c1 c2 d  (h x hx H locs ls hl hP hS)
theorem j_dup (C : Cx Y X nL cc own rt rm) {v : Value} (d : decode cc pc = .ok (.dup, 1)) (hv : v.category = 1) (h : J Y X nL E (pc + 1) L (v :: v :: st) σ) : J Y X nL E pc L (v :: st) σ := by
  intro x hx H locs ls hl hP hS
  obtain ⟨c1, c2, -⟩ := C
  exact lv_dup c1 c2 d hv (h x hx H locs ls hl hP hS)
theorem j_pop (C : Cx Y X nL cc own rt rm) {v : Value} (d : decode cc pc = .ok (.pop, 1)) (hv : v.category = 1) (h : J Y X nL E (pc + 1) L (st) σ) : J Y X nL E pc L (v :: st) σ := by
  intro x hx H locs ls hl hP hS
  obtain ⟨c1, c2, -⟩ := C
  exact lv_pop c1 c2 d hv (h x hx H locs ls hl hP hS)
theorem j_dup_x1 (C : Cx Y X nL cc own rt rm) {v u : Value} (d : decode cc pc = .ok (.dup_x1, 1)) (hv : v.category = 1) (hu : u.category = 1) (h : J Y X nL E (pc + 1) L (v :: u :: v :: st) σ) : J Y X nL E pc L (v :: u :: st) σ := by
  intro x hx H locs ls hl hP hS
  obtain ⟨c1, c2, -⟩ := C
  exact lv_dup_x1 c1 c2 d hv hu (h x hx H locs ls hl hP hS)
theorem j_dup2 (C : Cx Y X nL cc own rt rm) {v u : Value} (d : decode cc pc = .ok (.dup2, 1)) (hv : v.category = 1) (hu : u.category = 1) (h : J Y X nL E (pc + 1) L (v :: u :: v :: u :: st) σ) : J Y X nL E pc L (v :: u :: st) σ := by
  intro x hx H locs ls hl hP hS
  obtain ⟨c1, c2, -⟩ := C
  exact lv_dup2_11 c1 c2 d hv hu (h x hx H locs ls hl hP hS)
theorem j_idiv (C : Cx Y X nL cc own rt rm) {a b : Int32} (d : decode cc pc = .ok (.idiv, 1)) (h : J Y X nL E (pc + 1) L (.int (a / b) :: st) σ) : J Y X nL (ck (¬ b = 0) E) pc L (.int b :: .int a :: st) σ := by
  intro x hx H locs ls hl hP hS
  obtain ⟨c1, c2, -⟩ := C
  unfold ck at hx
  by_cases hb : b = 0
  · rw [if_neg (fun q => q hb)] at hx; cases hx
  · rw [if_pos hb] at hx
    exact lv_idiv c1 c2 d hb (h x hx H locs ls hl hP hS)
theorem j_irem (C : Cx Y X nL cc own rt rm) {a b : Int32} (d : decode cc pc = .ok (.irem, 1)) (h : J Y X nL E (pc + 1) L (.int (a - a / b * b) :: st) σ) : J Y X nL (ck (¬ b = 0) E) pc L (.int b :: .int a :: st) σ := by
  intro x hx H locs ls hl hP hS
  obtain ⟨c1, c2, -⟩ := C
  unfold ck at hx
  by_cases hb : b = 0
  · rw [if_neg (fun q => q hb)] at hx; cases hx
  · rw [if_pos hb] at hx
    exact lv_irem c1 c2 d hb (h x hx H locs ls hl hP hS)
theorem j_if_eq (C : Cx Y X nL cc own rt rm) {a : Int32} {off : Int} {tgt : Nat} (d : decode cc pc = .ok (.ifCond .eq off, 3)) (ht : (pc : Int) + off = (tgt : Int)) (h1 : J Y X nL E1 tgt L st σ) (h2 : J Y X nL E2 (pc + 3) L st σ) : J Y X nL (if a = 0 then E1 else E2) pc L (.int a :: st) σ := by
  intro x hx H locs ls hl hP hS
  obtain ⟨c1, c2, -⟩ := C
  refine lv_if_eq c1 c2 d ht (fun hc => ?_) (fun hc => ?_)
  · rw [if_pos hc] at hx
    exact h1 x hx H locs ls hl hP hS
  · rw [if_neg hc] at hx
    exact h2 x hx H locs ls hl hP hS
theorem j_icmp_eq (C : Cx Y X nL cc own rt rm) {a b : Int32} {off : Int} {tgt : Nat} (d : decode cc pc = .ok (.if_icmp .eq off, 3)) (ht : (pc : Int) + off = (tgt : Int)) (h1 : J Y X nL E1 tgt L st σ) (h2 : J Y X nL E2 (pc + 3) L st σ) : J Y X nL (if a = b then E1 else E2) pc L (.int b :: .int a :: st) σ := by
  intro x hx H locs ls hl hP hS
  obtain ⟨c1, c2, -⟩ := C
  refine lv_icmp_eq c1 c2 d ht (fun hc => ?_) (fun hc => ?_)
  · rw [if_pos hc] at hx
    exact h1 x hx H locs ls hl hP hS
  · rw [if_neg hc] at hx
    exact h2 x hx H locs ls hl hP hS
theorem j_if_ne (C : Cx Y X nL cc own rt rm) {a : Int32} {off : Int} {tgt : Nat} (d : decode cc pc = .ok (.ifCond .ne off, 3)) (ht : (pc : Int) + off = (tgt : Int)) (h1 : J Y X nL E1 tgt L st σ) (h2 : J Y X nL E2 (pc + 3) L st σ) : J Y X nL (if a = 0 then E2 else E1) pc L (.int a :: st) σ := by
  intro x hx H locs ls hl hP hS
  obtain ⟨c1, c2, -⟩ := C
  refine lv_if_ne c1 c2 d ht (fun hc => ?_) (fun hc => ?_)
  · rw [if_neg hc] at hx
    exact h1 x hx H locs ls hl hP hS
  · rw [if_pos hc] at hx
    exact h2 x hx H locs ls hl hP hS
theorem j_icmp_ne (C : Cx Y X nL cc own rt rm) {a b : Int32} {off : Int} {tgt : Nat} (d : decode cc pc = .ok (.if_icmp .ne off, 3)) (ht : (pc : Int) + off = (tgt : Int)) (h1 : J Y X nL E1 tgt L st σ) (h2 : J Y X nL E2 (pc + 3) L st σ) : J Y X nL (if a = b then E2 else E1) pc L (.int b :: .int a :: st) σ := by
  intro x hx H locs ls hl hP hS
  obtain ⟨c1, c2, -⟩ := C
  refine lv_icmp_ne c1 c2 d ht (fun hc => ?_) (fun hc => ?_)
  · rw [if_neg hc] at hx
    exact h1 x hx H locs ls hl hP hS
  · rw [if_pos hc] at hx
    exact h2 x hx H locs ls hl hP hS
theorem j_if_lt (C : Cx Y X nL cc own rt rm) {a : Int32} {off : Int} {tgt : Nat} (d : decode cc pc = .ok (.ifCond .lt off, 3)) (ht : (pc : Int) + off = (tgt : Int)) (h1 : J Y X nL E1 tgt L st σ) (h2 : J Y X nL E2 (pc + 3) L st σ) : J Y X nL (if a < 0 then E1 else E2) pc L (.int a :: st) σ := by
  intro x hx H locs ls hl hP hS
  obtain ⟨c1, c2, -⟩ := C
  refine lv_if_lt c1 c2 d ht (fun hc => ?_) (fun hc => ?_)
  · rw [if_pos hc] at hx
    exact h1 x hx H locs ls hl hP hS
  · rw [if_neg hc] at hx
    exact h2 x hx H locs ls hl hP hS
theorem j_icmp_lt (C : Cx Y X nL cc own rt rm) {a b : Int32} {off : Int} {tgt : Nat} (d : decode cc pc = .ok (.if_icmp .lt off, 3)) (ht : (pc : Int) + off = (tgt : Int)) (h1 : J Y X nL E1 tgt L st σ) (h2 : J Y X nL E2 (pc + 3) L st σ) : J Y X nL (if a < b then E1 else E2) pc L (.int b :: .int a :: st) σ := by
  intro x hx H locs ls hl hP hS
  obtain ⟨c1, c2, -⟩ := C
  refine lv_icmp_lt c1 c2 d ht (fun hc => ?_) (fun hc => ?_)
  · rw [if_pos hc] at hx
    exact h1 x hx H locs ls hl hP hS
  · rw [if_neg hc] at hx
    exact h2 x hx H locs ls hl hP hS
theorem j_if_ge (C : Cx Y X nL cc own rt rm) {a : Int32} {off : Int} {tgt : Nat} (d : decode cc pc = .ok (.ifCond .ge off, 3)) (ht : (pc : Int) + off = (tgt : Int)) (h1 : J Y X nL E1 tgt L st σ) (h2 : J Y X nL E2 (pc + 3) L st σ) : J Y X nL (if 0 ≤ a then E1 else E2) pc L (.int a :: st) σ := by
  intro x hx H locs ls hl hP hS
  obtain ⟨c1, c2, -⟩ := C
  refine lv_if_ge c1 c2 d ht (fun hc => ?_) (fun hc => ?_)
  · rw [if_pos hc] at hx
    exact h1 x hx H locs ls hl hP hS
  · rw [if_neg hc] at hx
    exact h2 x hx H locs ls hl hP hS
theorem j_icmp_ge (C : Cx Y X nL cc own rt rm) {a b : Int32} {off : Int} {tgt : Nat} (d : decode cc pc = .ok (.if_icmp .ge off, 3)) (ht : (pc : Int) + off = (tgt : Int)) (h1 : J Y X nL E1 tgt L st σ) (h2 : J Y X nL E2 (pc + 3) L st σ) : J Y X nL (if b ≤ a then E1 else E2) pc L (.int b :: .int a :: st) σ := by
  intro x hx H locs ls hl hP hS
  obtain ⟨c1, c2, -⟩ := C
  refine lv_icmp_ge c1 c2 d ht (fun hc => ?_) (fun hc => ?_)
  · rw [if_pos hc] at hx
    exact h1 x hx H locs ls hl hP hS
  · rw [if_neg hc] at hx
    exact h2 x hx H locs ls hl hP hS
theorem j_if_gt (C : Cx Y X nL cc own rt rm) {a : Int32} {off : Int} {tgt : Nat} (d : decode cc pc = .ok (.ifCond .gt off, 3)) (ht : (pc : Int) + off = (tgt : Int)) (h1 : J Y X nL E1 tgt L st σ) (h2 : J Y X nL E2 (pc + 3) L st σ) : J Y X nL (if 0 < a then E1 else E2) pc L (.int a :: st) σ := by
  intro x hx H locs ls hl hP hS
  obtain ⟨c1, c2, -⟩ := C
  refine lv_if_gt c1 c2 d ht (fun hc => ?_) (fun hc => ?_)
  · rw [if_pos hc] at hx
    exact h1 x hx H locs ls hl hP hS
  · rw [if_neg hc] at hx
    exact h2 x hx H locs ls hl hP hS
theorem j_icmp_gt (C : Cx Y X nL cc own rt rm) {a b : Int32} {off : Int} {tgt : Nat} (d : decode cc pc = .ok (.if_icmp .gt off, 3)) (ht : (pc : Int) + off = (tgt : Int)) (h1 : J Y X nL E1 tgt L st σ) (h2 : J Y X nL E2 (pc + 3) L st σ) : J Y X nL (if b < a then E1 else E2) pc L (.int b :: .int a :: st) σ := by
  intro x hx H locs ls hl hP hS
  obtain ⟨c1, c2, -⟩ := C
  refine lv_icmp_gt c1 c2 d ht (fun hc => ?_) (fun hc => ?_)
  · rw [if_pos hc] at hx
    exact h1 x hx H locs ls hl hP hS
  · rw [if_neg hc] at hx
    exact h2 x hx H locs ls hl hP hS
theorem j_if_le (C : Cx Y X nL cc own rt rm) {a : Int32} {off : Int} {tgt : Nat} (d : decode cc pc = .ok (.ifCond .le off, 3)) (ht : (pc : Int) + off = (tgt : Int)) (h1 : J Y X nL E1 tgt L st σ) (h2 : J Y X nL E2 (pc + 3) L st σ) : J Y X nL (if a ≤ 0 then E1 else E2) pc L (.int a :: st) σ := by
  intro x hx H locs ls hl hP hS
  obtain ⟨c1, c2, -⟩ := C
  refine lv_if_le c1 c2 d ht (fun hc => ?_) (fun hc => ?_)
  · rw [if_pos hc] at hx
    exact h1 x hx H locs ls hl hP hS
  · rw [if_neg hc] at hx
    exact h2 x hx H locs ls hl hP hS
theorem j_icmp_le (C : Cx Y X nL cc own rt rm) {a b : Int32} {off : Int} {tgt : Nat} (d : decode cc pc = .ok (.if_icmp .le off, 3)) (ht : (pc : Int) + off = (tgt : Int)) (h1 : J Y X nL E1 tgt L st σ) (h2 : J Y X nL E2 (pc + 3) L st σ) : J Y X nL (if a ≤ b then E1 else E2) pc L (.int b :: .int a :: st) σ := by
  intro x hx H locs ls hl hP hS
  obtain ⟨c1, c2, -⟩ := C
  refine lv_icmp_le c1 c2 d ht (fun hc => ?_) (fun hc => ?_)
  · rw [if_pos hc] at hx
    exact h1 x hx H locs ls hl hP hS
  · rw [if_neg hc] at hx
    exact h2 x hx H locs ls hl hP hS
theorem j_goto (C : Cx Y X nL cc own rt rm) {off : Int} {tgt : Nat} (d : decode cc pc = .ok (.goto off, 3)) (ht : (pc : Int) + off = (tgt : Int)) (h : J Y X nL E tgt L st σ) : J Y X nL E pc L st σ := by
  intro x hx H locs ls hl hP hS
  obtain ⟨c1, c2, -⟩ := C
  exact lv_goto c1 c2 d ht (h x hx H locs ls hl hP hS)
theorem j_ldc (C : Cx Y X nL cc own rt rm) {idx : Nat} {v : Int32} (hw : Cond.constant own idx v ∈ TT) (d : decode cc pc = .ok (.ldc idx, 2)) (h : J Y X nL E (pc + 2) L (.int v :: st) σ) : J Y X nL E pc L st σ := by
  intro x hx H locs ls hl hP hS
  obtain ⟨c1, c2, -, c4, c5, -⟩ := C
  exact lv_ldc c1 c2 c4 (c5 _ hw) d (h x hx H locs ls hl hP hS)
theorem j_ldcw (C : Cx Y X nL cc own rt rm) {idx : Nat} {v : Int32} (hw : Cond.constant own idx v ∈ TT) (d : decode cc pc = .ok (.ldc_w idx, 3)) (h : J Y X nL E (pc + 3) L (.int v :: st) σ) : J Y X nL E pc L st σ := by
  intro x hx H locs ls hl hP hS
  obtain ⟨c1, c2, -, c4, c5, -⟩ := C
  exact lv_ldcw c1 c2 c4 (c5 _ hw) d (h x hx H locs ls hl hP hS)
theorem j_ldc2 (C : Cx Y X nL cc own rt rm) {idx : Nat} {v : Int64} (hw : Cond.constantLong own idx v ∈ TT) (d : decode cc pc = .ok (.ldc2_w idx, 3)) (h : J Y X nL E (pc + 3) L (.long v :: st) σ) : J Y X nL E pc L st σ := by
  intro x hx H locs ls hl hP hS
  obtain ⟨c1, c2, -, c4, c5, -⟩ := C
  exact lv_ldc2 c1 c2 c4 (c5 _ hw) d (h x hx H locs ls hl hP hS)
theorem j_tswO (C : Cx Y X nL cc own rt rm) {dflt lo hi : Int} {offs : Array Int} {len : Nat} {v : Int32} {tgt : Nat} (d : decode cc pc = .ok (.tableswitch dflt lo hi offs, len)) (hv : v.toInt < lo ∨ hi < v.toInt) (ht : (pc : Int) + dflt = (tgt : Int)) (h : J Y X nL E tgt L st σ) : J Y X nL E pc L (.int v :: st) σ := by
  intro x hx H locs ls hl hP hS
  obtain ⟨c1, c2, -⟩ := C
  exact lv_tableOut c1 c2 d hv ht (h x hx H locs ls hl hP hS)
theorem j_tswI (C : Cx Y X nL cc own rt rm) {dflt lo hi : Int} {offs : Array Int} {len : Nat} {v : Int32} {off : Int} {tgt : Nat} (d : decode cc pc = .ok (.tableswitch dflt lo hi offs, len)) (h1 : ¬ v.toInt < lo) (h2 : ¬ hi < v.toInt) (ho : offs[(v.toInt - lo).toNat]? = some off) (ht : (pc : Int) + off = (tgt : Int)) (h : J Y X nL E tgt L st σ) : J Y X nL E pc L (.int v :: st) σ := by
  intro x hx H locs ls hl hP hS
  obtain ⟨c1, c2, -⟩ := C
  exact lv_tableIn c1 c2 d h1 h2 ho ht (h x hx H locs ls hl hP hS)
/-- a case of a switch, by its number -/
theorem j_ite {c : Prop} [Decidable c] (h1 : c → J Y X nL E1 pc L st σ) (h2 : ¬ c → J Y X nL E2 pc L st σ) : J Y X nL (if c then E1 else E2) pc L st σ := by
  by_cases hc : c
  · rw [if_pos hc]; exact h1 hc
  · rw [if_neg hc]; exact h2 hc
/-! fields -/
/-- what is known of a class: its number in the worlds, its words, its fields' types and names -/
def KI (ci : Nat) (Cn : String) (T : u_T) (N : Nat) (ty : Nat → FieldType) : Prop := vwCl[ci]? = some (Cn, T, N) ∧ (∀ w ∈ u_ws Cn T N, w ∈ TT) ∧ (∀ k, k < N → parseFieldDescriptor (T k).2.2.1 = some (ty k)) ∧ (∀ a, a < N → ∀ b, b < N → a ≠ b → (T a).2.1 ≠ (T b).2.1)
theorem fs_get {n : Nat} {f : Nat → Value} {j : Nat} (h : j < n) : ((List.range n).map f)[j]? = some (f j) := by simp [h]
theorem fvY_int {ad : Nat → Nat} {q ci j : Nat} (h : Y.2.2 ci j = none) : fvY Y ad σ q ci j = .int (σ q j) := by simp [fvY, h]
theorem fvY_rel {ad : Nat → Nat} {q ci j o : Nat} (h : Y.2.2 ci j = some (true, o)) : fvY Y ad σ q ci j = .ref (ad (q + o)) := by simp [fvY, h]
theorem fvY_abs {ad : Nat → Nat} {q ci j o : Nat} (h : Y.2.2 ci j = some (false, o)) : fvY Y ad σ q ci j = .ref (ad o) := by simp [fvY, h]
theorem j_getV (C : Cx Y X nL cc own rt rm) {q ci N idx : Nat} {Cn : String} {T : u_T} {ty : Nat → FieldType} {v : Value} (hc : KI ci Cn T N ty) (hk : Y.2.1 q = (0, ci, N)) (hq : q < Y.1) (j : Nat) (hj : j < N) (hl9 : Cond.fieldLink own idx (T j).1 (T j).2.1 (T j).2.2.1 ∈ TT) (hv : fvY Y (adX X) σ q ci j = v) (d : decode cc pc = .ok (.getfield idx, 3)) (h : J Y X nL E (pc + 3) L (v :: st) σ) : J Y X nL E pc L (.ref (adX X q) :: st) σ := by
  intro x hx H locs ls hl hP hS
  obtain ⟨c1, c2, -, c4, c5, -, -, -, c9, -⟩ := C
  have hg := wsY_get (Y := Y) (dA := X.2.2.1.2.1) (ad := X.2.2.1.2.2) (σ := σ) hq
  rw [cellY_obj hk] at hg
  refine va_get c1 c2 c5 hc.2.1 c4 c9 hP q hg hc.1 j hj (c5 _ hl9) (fun _ h9 => h9) (v := v) ?_ d (h x hx H locs ls hl hP hS)
  rw [fs_get hj]
  exact congrArg some hv
theorem j_get (C : Cx Y X nL cc own rt rm) {q ci N idx : Nat} {Cn : String} {T : u_T} {ty : Nat → FieldType} (hc : KI ci Cn T N ty) (hk : Y.2.1 q = (0, ci, N)) (hq : q < Y.1) (j : Nat) (hj : j < N) (hl9 : Cond.fieldLink own idx (T j).1 (T j).2.1 (T j).2.2.1 ∈ TT) (hr : Y.2.2 ci j = none) (d : decode cc pc = .ok (.getfield idx, 3)) (h : J Y X nL E (pc + 3) L (.int (σ q j) :: st) σ) : J Y X nL E pc L (.ref (adX X q) :: st) σ :=
  j_getV C hc hk hq j hj hl9 (fvY_int hr) d h
theorem j_getR (C : Cx Y X nL cc own rt rm) {q ci N idx o z : Nat} {Cn : String} {T : u_T} {ty : Nat → FieldType} (hc : KI ci Cn T N ty) (hk : Y.2.1 q = (0, ci, N)) (hq : q < Y.1) (j : Nat) (hj : j < N) (hl9 : Cond.fieldLink own idx (T j).1 (T j).2.1 (T j).2.2.1 ∈ TT) (hr : Y.2.2 ci j = some (true, o)) (hz : q + o = z) (d : decode cc pc = .ok (.getfield idx, 3)) (h : J Y X nL E (pc + 3) L (.ref (adX X z) :: st) σ) : J Y X nL E pc L (.ref (adX X q) :: st) σ :=
  j_getV C hc hk hq j hj hl9 (by rw [fvY_rel hr, hz]) d h
theorem j_getA (C : Cx Y X nL cc own rt rm) {q ci N idx o : Nat} {Cn : String} {T : u_T} {ty : Nat → FieldType} (hc : KI ci Cn T N ty) (hk : Y.2.1 q = (0, ci, N)) (hq : q < Y.1) (j : Nat) (hj : j < N) (hl9 : Cond.fieldLink own idx (T j).1 (T j).2.1 (T j).2.2.1 ∈ TT) (hr : Y.2.2 ci j = some (false, o)) (d : decode cc pc = .ok (.getfield idx, 3)) (h : J Y X nL E (pc + 3) L (.ref (adX X o) :: st) σ) : J Y X nL E pc L (.ref (adX X q) :: st) σ :=
  j_getV C hc hk hq j hj hl9 (fvY_abs hr) d h
theorem j_putV (C : Cx Y X nL cc own rt rm) {q ci N idx : Nat} {Cn : String} {T : u_T} {ty : Nat → FieldType} {v : Int32} {tj : FieldType} (hc : KI ci Cn T N ty) (hk : Y.2.1 q = (0, ci, N)) (hq : q < Y.1) (j : Nat) (hj : j < N) (hl9 : Cond.fieldLink own idx (T j).1 (T j).2.1 (T j).2.2.1 ∈ TT) (hr : Y.2.2 ci j = none) (hf : (T j).2.2.2 = false) (htj : ty j = tj) (hn : narrow tj (.int v) = .int v) (hfit : fits tj (.int v) = true) (d : decode cc pc = .ok (.putfield idx, 3)) (h : J Y X nL E (pc + 3) L st (stM σ q j v)) : J Y X nL E pc L (.int v :: .ref (adX X q) :: st) σ := by
  intro x hx H locs ls hl hP hS
  obtain ⟨c1, c2, -, c4, c5, -, -, -, c9, c10, -⟩ := C
  have hg := wsY_get (Y := Y) (dA := X.2.2.1.2.1) (ad := X.2.2.1.2.2) (σ := σ) hq
  rw [cellY_obj hk] at hg
  refine va_put c1 c2 c5 hc.2.1 ty hc.2.2.1 hc.2.2.2 c4 c9 hP (c10.D σ _) hS q hg hc.1 j hj (c5 _ hl9) (fun _ h9 => h9) hf (ty := tj) (v := .int v) (by rw [← htj]; exact hc.2.2.1 j hj) hn hfit (by simpa using hj) d (fun H1 locs1 hP1 _ hS1 => ?_)
  rw [wsY_fld hq hk hr] at hP1
  exact h x hx H1 locs1 ls hl hP1 hS1
theorem j_put (C : Cx Y X nL cc own rt rm) {q ci N idx : Nat} {Cn : String} {T : u_T} {ty : Nat → FieldType} {v : Int32} {k : Mem → Option ω} (hc : KI ci Cn T N ty) (hk : Y.2.1 q = (0, ci, N)) (hq : q < Y.1) (j : Nat) (hj : j < N) (hl9 : Cond.fieldLink own idx (T j).1 (T j).2.1 (T j).2.2.1 ∈ TT) (hr : Y.2.2 ci j = none) (hf : (T j).2.2.2 = false) (htj : ty j = .int) (d : decode cc pc = .ok (.putfield idx, 3)) (h : ∀ τ, J Y X nL (k τ) (pc + 3) L st τ) : J Y X nL (lt (stM σ q j v) k) pc L (.int v :: .ref (adX X q) :: st) σ :=
  j_putV C hc hk hq j hj hl9 hr hf htj rfl rfl d (h _)
theorem j_putZ (C : Cx Y X nL cc own rt rm) {q ci N idx : Nat} {Cn : String} {T : u_T} {ty : Nat → FieldType} {v : Int32} {k : Mem → Option ω} (hc : KI ci Cn T N ty) (hk : Y.2.1 q = (0, ci, N)) (hq : q < Y.1) (j : Nat) (hj : j < N) (hl9 : Cond.fieldLink own idx (T j).1 (T j).2.1 (T j).2.2.1 ∈ TT) (hr : Y.2.2 ci j = none) (hf : (T j).2.2.2 = false) (htj : ty j = .boolean) (d : decode cc pc = .ok (.putfield idx, 3)) (h : ∀ τ, J Y X nL (k τ) (pc + 3) L st τ) : J Y X nL (ck (okZ v) (lt (stM σ q j v) k)) pc L (.int v :: .ref (adX X q) :: st) σ := by
  by_cases hv : okZ v
  · rw [show ck (okZ v) (lt (stM σ q j v) k) = k (stM σ q j v) from if_pos hv]
    refine j_putV C hc hk hq j hj hl9 hr hf htj ?_ ?_ d (h _)
    · rcases hv with rfl | rfl <;> rfl
    · rcases hv with rfl | rfl <;> rfl
  · rw [show ck (okZ v) (lt (stM σ q j v) k) = none from if_neg hv]
    exact j_none
/-! arrays -/
theorem ck_pos {c : Prop} [Decidable c] {x : ω} (h : ck c E = some x) : c ∧ E = some x := by
  unfold ck at h
  by_cases hc : c
  · rw [if_pos hc] at h; exact ⟨hc, h⟩
  · rw [if_neg hc] at h; cases h
theorem j_iald (C : Cx Y X nL cc own rt rm) {q n o : Nat} {i : Int32} (hk : Y.2.1 q = (1, n, o)) (hq : q < Y.1) (d : decode cc pc = .ok (.iaload, 1)) (h : J Y X nL E (pc + 1) L (.int (σ q i.toNatClampNeg) :: st) σ) : J Y X nL (ck (inb i n) E) pc L (.int i :: .ref (adX X q) :: st) σ := by
  intro x hx H locs ls hl hP hS
  obtain ⟨hi, hx⟩ := ck_pos hx
  obtain ⟨c1, c2, -, c4, c5, -, -, -, c9, c10, -⟩ := C
  have hg := wsY_get (Y := Y) (dA := X.2.2.1.2.1) (ad := X.2.2.1.2.2) (σ := σ) hq
  rw [cellY_int hk] at hg
  exact va_iald c1 c2 c9 hP q 0 hg rfl (inb_in hi) d (h x hx H locs ls hl hP hS)
theorem j_zald (C : Cx Y X nL cc own rt rm) {q n o : Nat} {i : Int32} (hk : Y.2.1 q = (2, n, o)) (hq : q < Y.1) (d : decode cc pc = .ok (.baload, 1)) (h : J Y X nL E (pc + 1) L (.int (σ q i.toNatClampNeg) :: st) σ) : J Y X nL (ck (inb i n) E) pc L (.int i :: .ref (adX X q) :: st) σ := by
  intro x hx H locs ls hl hP hS
  obtain ⟨hi, hx⟩ := ck_pos hx
  obtain ⟨c1, c2, -, c4, c5, -, -, -, c9, c10, -⟩ := C
  have hg := wsY_get (Y := Y) (dA := X.2.2.1.2.1) (ad := X.2.2.1.2.2) (σ := σ) hq
  rw [cellY_bool hk] at hg
  exact va_zald c1 c2 c9 hP q 1 hg rfl (inb_in hi) d (h x hx H locs ls hl hP hS)
theorem j_iast (C : Cx Y X nL cc own rt rm) {q n o : Nat} {i v : Int32} {k : Mem → Option ω} (hk : Y.2.1 q = (1, n, o)) (hq : q < Y.1) (d : decode cc pc = .ok (.iastore, 1)) (h : ∀ τ, J Y X nL (k τ) (pc + 1) L st τ) : J Y X nL (ck (inb i n) (lt (stM σ q i.toNatClampNeg v) k)) pc L (.int v :: .int i :: .ref (adX X q) :: st) σ := by
  intro x hx H locs ls hl hP hS
  obtain ⟨hi, hx⟩ := ck_pos hx
  obtain ⟨c1, c2, -, c4, c5, -, -, -, c9, c10, -⟩ := C
  have hg := wsY_get (Y := Y) (dA := X.2.2.1.2.1) (ad := X.2.2.1.2.2) (σ := σ) hq
  rw [cellY_int hk] at hg
  refine va_iast c1 c2 c9 hP (c10.D σ _) hS q 0 hg rfl (inb_in hi) d (fun H1 locs1 hP1 _ hS1 => ?_)
  rw [wsY_arr hq hk] at hP1
  exact h _ x hx H1 locs1 ls hl hP1 hS1
theorem j_zast (C : Cx Y X nL cc own rt rm) {q n o : Nat} {i v : Int32} {k : Mem → Option ω} (hk : Y.2.1 q = (2, n, o)) (hq : q < Y.1) (d : decode cc pc = .ok (.bastore, 1)) (h : ∀ τ, J Y X nL (k τ) (pc + 1) L st τ) : J Y X nL (ck (inb i n ∧ okZ v) (lt (stM σ q i.toNatClampNeg v) k)) pc L (.int v :: .int i :: .ref (adX X q) :: st) σ := by
  intro x hx H locs ls hl hP hS
  obtain ⟨⟨hi, hz⟩, hx⟩ := ck_pos hx
  obtain ⟨c1, c2, -, c4, c5, -, -, -, c9, c10, -⟩ := C
  have hg := wsY_get (Y := Y) (dA := X.2.2.1.2.1) (ad := X.2.2.1.2.2) (σ := σ) hq
  rw [cellY_bool hk] at hg
  have hv : vp_nar .boolean v = v := by rcases hz with rfl | rfl <;> rfl
  refine va_zast c1 c2 c9 hP (c10.D σ _) hS q 1 hg rfl (inb_in hi) d (fun H1 locs1 hP1 _ hS1 => ?_)
  rw [hv, wsY_barr hq hk] at hP1
  exact h _ x hx H1 locs1 ls hl hP1 hS1
theorem inb_nat {i : Int32} {n : Nat} (h : inb i n) : i.toNatClampNeg < n := by
  have : i.toNatClampNeg = i.toInt.toNat := rfl
  rw [this]
  have := h.1
  have := h.2
  omega
theorem j_aald3 (C : Cx Y X nL cc own rt rm) {q n o : Nat} {i : Int32} {k : Nat → Option ω} (hk : Y.2.1 q = (3, n, o)) (hq : q < Y.1) (d : decode cc pc = .ok (.aaload, 1)) (h : ∀ z, (∃ j, j < n ∧ z = q + o + 2 * j) → J Y X nL (k z) (pc + 1) L (.ref (adX X z) :: st) σ) : J Y X nL (ck (inb i n) (lt (q + o + 2 * i.toNatClampNeg) k)) pc L (.int i :: .ref (adX X q) :: st) σ := by
  intro x hx H locs ls hl hP hS
  obtain ⟨hi, hx⟩ := ck_pos hx
  obtain ⟨c1, c2, -, c4, c5, -, -, -, c9, c10, -⟩ := C
  have hg := wsY_get (Y := Y) (dA := X.2.2.1.2.1) (ad := X.2.2.1.2.2) (σ := σ) hq
  rw [cellY_r3 hk] at hg
  exact va_aldq c1 c2 c9 hP q 2 hg rfl (inb_in hi) d (h _ ⟨i.toNatClampNeg, inb_nat hi, rfl⟩ x hx H locs ls hl hP hS)
theorem j_aald4 (C : Cx Y X nL cc own rt rm) {q n o : Nat} {i : Int32} {k : Nat → Option ω} (hk : Y.2.1 q = (4, n, o)) (hq : q < Y.1) (d : decode cc pc = .ok (.aaload, 1)) (h : ∀ z, (∃ j, j < n ∧ z = q + o + j) → J Y X nL (k z) (pc + 1) L (.ref (adX X z) :: st) σ) : J Y X nL (ck (inb i n) (lt (q + o + i.toNatClampNeg) k)) pc L (.int i :: .ref (adX X q) :: st) σ := by
  intro x hx H locs ls hl hP hS
  obtain ⟨hi, hx⟩ := ck_pos hx
  obtain ⟨c1, c2, -, c4, c5, -, -, -, c9, c10, -⟩ := C
  have hg := wsY_get (Y := Y) (dA := X.2.2.1.2.1) (ad := X.2.2.1.2.2) (σ := σ) hq
  rw [cellY_r4 hk] at hg
  exact va_aldq c1 c2 c9 hP q 3 hg rfl (inb_in hi) d (h _ ⟨i.toNatClampNeg, inb_nat hi, rfl⟩ x hx H locs ls hl hP hS)
theorem j_alen (C : Cx Y X nL cc own rt rm) {q n o : Nat} {v : Int32} (hk : Y.2.1 q = (1, n, o)) (hq : q < Y.1) (hv : Int32.ofNat n = v) (d : decode cc pc = .ok (.arraylength, 1)) (h : J Y X nL E (pc + 1) L (.int v :: st) σ) : J Y X nL E pc L (.ref (adX X q) :: st) σ := by
  intro x hx H locs ls hl hP hS
  obtain ⟨c1, c2, -, c4, c5, -, -, -, c9, c10, -⟩ := C
  have hg := wsY_get (Y := Y) (dA := X.2.2.1.2.1) (ad := X.2.2.1.2.2) (σ := σ) hq
  rw [cellY_int hk] at hg
  exact va_alen c1 c2 c9 hP q 0 hg rfl hv d (h x hx H locs ls hl hP hS)
/-! statics -/
def TbX (Y : Lay) (X : CtxT ω) (t N : Nat) (f : Nat → Int32) : Prop := va_T .int t N (fun j => .int (f j)) (AY Y X.2.2.1.2.2 X.1.2.2.2.2.heap.size) X.1.2.2.2.2 X.1.2.2.2.2.heap
theorem j_gets (C : Cx Y X nL cc own rt rm) {nm : String} {N idx : Nat} {f : Nat → Int32} (hO : stO "StageHouse" nm N f (AY Y X.2.2.1.2.2 X.1.2.2.2.2.heap.size) X.1.2.2.2.2 X.1.2.2.2.2.heap) (hw : (own, idx, "StageHouse", nm, "[I", "StageHouse") ∈ nF) (d : decode cc pc = .ok (.getstatic idx, 3)) (h : ∀ t, TbX Y X t N f → J Y X nL E (pc + 3) L (.ref t :: st) σ) : J Y X nL E pc L st σ := by
  intro x hx H locs ls hl hP hS
  obtain ⟨c1, c2, -, c4, c5, -, -, -, c9, c10, -, -, -, c14⟩ := C
  obtain ⟨t, hZ, hT⟩ := hO
  exact va_getsN c1 c2 hZ hS c4 (va_Nw.use rfl (c14.1 _ hw)) (fun _ h9 => h9) d (h t hT x hx H locs ls hl hP hS)
theorem j_tald (C : Cx Y X nL cc own rt rm) {t N : Nat} {f : Nat → Int32} {i : Int32} (hT : TbX Y X t N f) (d : decode cc pc = .ok (.iaload, 1)) (h : J Y X nL E (pc + 1) L (.int (f i.toNatClampNeg) :: st) σ) : J Y X nL (ck (inb i N) E) pc L (.int i :: .ref t :: st) σ := by
  intro x hx H locs ls hl hP hS
  obtain ⟨hi, hx⟩ := ck_pos hx
  obtain ⟨c1, c2, -⟩ := C
  exact va_ti c1 c2 hT hS (inb_in hi) rfl d (h x hx H locs ls hl hP hS)
theorem j_tlen (C : Cx Y X nL cc own rt rm) {t N : Nat} {f : Nat → Int32} {v : Int32} (hT : TbX Y X t N f) (hv : Int32.ofNat N = v) (d : decode cc pc = .ok (.arraylength, 1)) (h : J Y X nL E (pc + 1) L (.int v :: st) σ) : J Y X nL E pc L (.ref t :: st) σ := by
  intro x hx H locs ls hl hP hS
  obtain ⟨c1, c2, -⟩ := C
  exact va_tlen c1 c2 hT hS hv d (h x hx H locs ls hl hP hS)
theorem j_acmp_eq (C : Cx Y X nL cc own rt rm) {a b : Nat} {off : Int} {tgt : Nat} (ha : a < Y.1) (hb : b < Y.1) (d : decode cc pc = .ok (.if_acmp .eq off, 3)) (ht : (pc : Int) + off = (tgt : Int)) (h1 : J Y X nL E1 tgt L st σ) (h2 : J Y X nL E2 (pc + 3) L st σ) : J Y X nL (if a = b then E1 else E2) pc L (.ref (adX X b) :: .ref (adX X a) :: st) σ := by
  intro x hx H locs ls hl hP hS
  obtain ⟨c1, c2, -, c4, c5, -, -, -, c9, c10, -⟩ := C
  refine lv_acmp_eq (rx := some (adX X a)) (ry := some (adX X b)) c1 c2 d ht (fun hc => ?_) (fun hc => ?_)
  · have e : a = b := c10 a b ha hb (Option.some.inj hc)
    rw [if_pos e] at hx
    exact h1 x hx H locs ls hl hP hS
  · have e : ¬ a = b := fun q => hc (by rw [q])
    rw [if_neg e] at hx
    exact h2 x hx H locs ls hl hP hS
end JR
