/-! ===== the law's body: class, reference and the row of one long stand one behind another ===== -/
def adC (h : Nat) : Nat → Nat := fun k => h + k
def adM (h : Nat) : Nat → Nat := fun k => h + 120 + k
theorem adC_ok (h : Nat) : adOK YC (adC h) := fun i j _ _ e => by
  have e : h + i = h + j := e
  omega
theorem adM_ok (h : Nat) : adOK (YM false) (adM h) := fun i j _ _ e => by
  have e : h + 120 + i = h + 120 + j := e
  omega
def LWd (D : va_G) (dA : Nat → ClassId) (cL : ClassId) (h : Nat) (σ τ : Mem) (v : Int64) (H : Heap) : Prop := va_P D vwCl (wsY YC dA (adC h) σ) H ∧ va_P D vwCl (wsY (YM false) dA (adM h) τ) H ∧ H[h + 139]? = some (outC cL v)
abbrev LtT : Type := (Program × Launch × Env × State) × (MethodId × List Frame × Method × Code) × (va_G × (Nat → ClassId) × ClassId) × (Nat × Nat × (Nat → Int32))
def LaH (X : LtT) : Nat := X.1.2.2.2.heap.size
def LaB (X : LtT) : Nat := X.2.2.2.1
def LaN (X : LtT) : Nat := X.2.2.2.2.1
def LaX (X : LtT) : Nat → Int32 := X.2.2.2.2.2
def LJ (X : LtT) (pc : Nat) (L : List (Nat × Value)) (st : List Value) (σ τ : Mem) (v : Int64) (nc ns : Nat) : Prop :=
  ∀ (H : Heap) (locs : List Loc) (ls : Array Slot), lv_has ls 7 L → LWd X.2.2.1.1 X.2.2.1.2.1 X.2.2.1.2.2 (LaH X) σ τ v H → va_S (fun q => LaH X ≤ q) X.1.2.2.2.heap H locs →
    W X.1.1 X.1.2.1 X.1.2.2.1 room_1 X.1.2.2.2 X.2.1.1 #[Value.ref (LaB X)] X.2.1.2.1 X.2.1.2.2.1 X.2.1.2.2.2 H locs nc ns (lw_Z X.2.1.2.1 #[Value.ref (LaB X)] X.1.2.2.2) (F0 X.2.1.1 pc ls st)
def LC (X : LtT) : Prop := X.1.1.tables.exec = Jvm.exec ∧ X.2.1.2.2.2.code = code ∧ X.2.1.2.2.1.sig.returnType = ret ∧ X.2.1.2.2.2.maxLocals = 7 ∧ X.1.2.2.2.vm.findClass RL = some X.2.1.1.cls ∧ (∀ w ∈ TT, w.before #[Value.ref (LaB X)] X.1.2.2.2 = true) ∧ X.2.1.2.2.1.locks = false ∧ X.1.2.1.stackTraces = false ∧ va_K X.2.2.1.1 vwCl (tysY X.2.2.1.2.1) X.1.2.2.2 ∧ NwOK X.1.2.2.2 ∧ stOK (fun q => LaH X ≤ q) X.1.2.2.2 X.1.2.2.2.heap ∧ ThOK (fun q => LaH X ≤ q) X.1.2.2.2 X.1.2.2.2.heap ∧ ArrOfT X.1.2.2.2 X.2.2.1.2.2 .long ∧ va_X (LaB X) (LaN X) (LaX X) X.1.2.2.2 X.1.2.2.2.heap ∧ LaB X < LaH X ∧ LaN X ≤ 3072
/-- the locals between two calls; t: calls so far -/
def LaL (X : LtT) (t : Nat) : List (Nat × Value) := [(0, .ref (LaB X)), (1, .ref (LaH X)), (2, .ref (LaH X + 120)), (3, .ref (LaH X + 139)), (4, .int (nI (6 * t)))]
section LR
variable {X : LtT} {pc : Nat} {L L' : List (Nat × Value)} {st : List Value} {σ τ : Mem} {v : Int64} {nc ns : Nat}
theorem l_widen {nc' ns' : Nat} (h1 : nc ≤ nc') (h2 : ns ≤ ns') (h : LJ X pc L st σ τ v nc' ns') : LJ X pc L st σ τ v nc ns := fun H locs ls hl hP hS => W.widen h1 h2 (h H locs ls hl hP hS)
theorem l_sub (ks : List Nat) (hL : lv_pick L ks = L') (h : LJ X pc L' st σ τ v nc ns) : LJ X pc L st σ τ v nc ns := fun H locs ls hl hP hS => h H locs ls (lv_sub hl ks hL) hP hS
theorem l_iconst (C : LC X) {n : Int} {w : Int32} (d : decode cL_law pc = .ok (.iconst n, 1)) (hv : Int32.ofInt n = w) (h : LJ X (pc + 1) L (.int w :: st) σ τ v nc ns) : LJ X pc L st σ τ v nc ns := fun H locs ls hl hP hS => lv_iconst C.1 C.2.1 d hv (h H locs ls hl hP hS)
theorem l_bipush (C : LC X) {n : Int} {w : Int32} (d : decode cL_law pc = .ok (.bipush n, 2)) (hv : (Int8.ofInt n).toInt32 = w) (h : LJ X (pc + 2) L (.int w :: st) σ τ v nc ns) : LJ X pc L st σ τ v nc ns := fun H locs ls hl hP hS => lv_bipush C.1 C.2.1 d hv (h H locs ls hl hP hS)
theorem l_aload_n (C : LC X) {kf : Fin 4} {i w : Nat} (d : decode cL_law pc = .ok (.aload_n kf, 1)) (k : Nat) (hi : (kf : Nat) = i) (hk : L[k]? = some (i, .ref w)) (h : LJ X (pc + 1) L (.ref w :: st) σ τ v nc ns) : LJ X pc L st σ τ v nc ns := fun H locs ls hl hP hS => lv_aload_n C.1 C.2.1 d hi (lv_at hl k hk) (h H locs ls hl hP hS)
theorem l_iload (C : LC X) {i : Nat} {w : Int32} (d : decode cL_law pc = .ok (.iload i, 2)) (k : Nat) (hk : L[k]? = some (i, .int w)) (h : LJ X (pc + 2) L (.int w :: st) σ τ v nc ns) : LJ X pc L st σ τ v nc ns := fun H locs ls hl hP hS => lv_iload C.1 C.2.1 d (lv_at hl k hk) (h H locs ls hl hP hS)
theorem l_istore (C : LC X) {i : Nat} {w : Int32} (d : decode cL_law pc = .ok (.istore i, 2)) (hn : i < 7) (ks : List Nat) (hL : lv_pick ((i, Value.int w) :: L.filter (fun q => !(q.1 == i) && !(q.1 + 1 == i && q.2.category == 2))) ks = L') (h : LJ X (pc + 2) L' st σ τ v nc ns) : LJ X pc L (.int w :: st) σ τ v nc ns := fun H locs _ hl hP hS => lv_istore C.1 C.2.1 d hl hn rfl (fun ls' hl' => h H locs ls' (lv_sub hl' ks hL) hP hS)
theorem l_iinc (C : LC X) {i : Nat} {n : Int} {w w' : Int32} (d : decode cL_law pc = .ok (.iinc i n, 3)) (q : Nat) (hq : L[q]? = some (i, .int w)) (hn : i < 7) (hv : w + Int32.ofInt n = w') (ks : List Nat) (hL : lv_pick ((i, Value.int w') :: L.filter (fun q => !(q.1 == i) && !(q.1 + 1 == i && q.2.category == 2))) ks = L') (h : LJ X (pc + 3) L' st σ τ v nc ns) : LJ X pc L st σ τ v nc ns := by
  subst hv
  exact fun H locs _ hl hP hS => lv_iinc C.1 C.2.1 d hl hq rfl hn rfl (fun ls' hl' => h H locs ls' (lv_sub hl' ks hL) hP hS)
theorem l_iadd (C : LC X) {a b : Int32} (d : decode cL_law pc = .ok (.iadd, 1)) (h : LJ X (pc + 1) L (.int (a + b) :: st) σ τ v nc ns) : LJ X pc L (.int b :: .int a :: st) σ τ v nc ns := fun H locs ls hl hP hS => lv_iadd C.1 C.2.1 d (h H locs ls hl hP hS)
theorem l_isub (C : LC X) {a b : Int32} (d : decode cL_law pc = .ok (.isub, 1)) (h : LJ X (pc + 1) L (.int (a - b) :: st) σ τ v nc ns) : LJ X pc L (.int b :: .int a :: st) σ τ v nc ns := fun H locs ls hl hP hS => lv_isub C.1 C.2.1 d (h H locs ls hl hP hS)
theorem l_iand (C : LC X) {a b : Int32} (d : decode cL_law pc = .ok (.iand, 1)) (h : LJ X (pc + 1) L (.int (a &&& b) :: st) σ τ v nc ns) : LJ X pc L (.int b :: .int a :: st) σ τ v nc ns := fun H locs ls hl hP hS => lv_iand C.1 C.2.1 d (h H locs ls hl hP hS)
theorem l_goto (C : LC X) {off : Int} {tgt : Nat} (d : decode cL_law pc = .ok (.goto off, 3)) (ht : (pc : Int) + off = (tgt : Int)) (h : LJ X tgt L st σ τ v nc ns) : LJ X pc L st σ τ v nc ns := fun H locs ls hl hP hS => lv_goto C.1 C.2.1 d ht (h H locs ls hl hP hS)
theorem l_i2l (C : LC X) {a : Int32} (d : decode cL_law pc = .ok (.i2l, 1)) (h : LJ X (pc + 1) L (.long a.toInt64 :: st) σ τ v nc ns) : LJ X pc L (.int a :: st) σ τ v nc ns := fun H locs ls hl hP hS => lv_i2l C.1 C.2.1 d rfl (h H locs ls hl hP hS)
theorem l_lcmp (C : LC X) {a b : Int64} (d : decode cL_law pc = .ok (.lcmp, 1)) (h : LJ X (pc + 1) L (.int (lg_cmp a b) :: st) σ τ v nc ns) : LJ X pc L (.long b :: .long a :: st) σ τ v nc ns := fun H locs ls hl hP hS => W.lcmp C.1 C.2.1 d (h H locs ls hl hP hS)
theorem l_icmp_eq (C : LC X) {a b : Int32} {off : Int} {tgt : Nat} (d : decode cL_law pc = .ok (.if_icmp .eq off, 3)) (ht : (pc : Int) + off = (tgt : Int)) (h : a = b) (k : LJ X tgt L st σ τ v nc ns) : LJ X pc L (.int b :: .int a :: st) σ τ v nc ns := fun H locs ls hl hP hS => lv_icmp_eq C.1 C.2.1 d ht (fun _ => k H locs ls hl hP hS) (fun q => absurd h q)
theorem l_icmp_gt (C : LC X) {a b : Int32} {off : Int} {tgt : Nat} (d : decode cL_law pc = .ok (.if_icmp .gt off, 3)) (ht : (pc : Int) + off = (tgt : Int)) (h1 : b < a → LJ X tgt L st σ τ v nc ns) (h2 : ¬ b < a → LJ X (pc + 3) L st σ τ v nc ns) : LJ X pc L (.int b :: .int a :: st) σ τ v nc ns := fun H locs ls hl hP hS => lv_icmp_gt C.1 C.2.1 d ht (fun hc => h1 hc H locs ls hl hP hS) (fun hc => h2 hc H locs ls hl hP hS)
theorem l_if_ne (C : LC X) {a : Int32} {off : Int} {tgt : Nat} (d : decode cL_law pc = .ok (.ifCond .ne off, 3)) (ht : (pc : Int) + off = (tgt : Int)) (h1 : ¬ a = 0 → LJ X tgt L st σ τ v nc ns) (h2 : a = 0 → LJ X (pc + 3) L st σ τ v nc ns) : LJ X pc L (.int a :: st) σ τ v nc ns := fun H locs ls hl hP hS => lv_if_ne C.1 C.2.1 d ht (fun hc => h1 hc H locs ls hl hP hS) (fun hc => h2 hc H locs ls hl hP hS)
theorem l_if_eq (C : LC X) {a : Int32} {off : Int} {tgt : Nat} (d : decode cL_law pc = .ok (.ifCond .eq off, 3)) (ht : (pc : Int) + off = (tgt : Int)) (h : a = 0) (k : LJ X tgt L st σ τ v nc ns) : LJ X pc L (.int a :: st) σ τ v nc ns := fun H locs ls hl hP hS => lv_if_eq C.1 C.2.1 d ht (fun _ => k H locs ls hl hP hS) (fun q => absurd h q)
/-- an int of the script -/
theorem l_sld (C : LC X) {j : Nat} {x : Int32} (hj : j < LaN X) (hx : x = nI j) (d : decode cL_law pc = .ok (.iaload, 1)) (h : LJ X (pc + 1) L (.int (LaX X j) :: st) σ τ v nc ns) : LJ X pc L (.int x :: .ref (LaB X) :: st) σ τ v nc ns := by
  intro H locs ls hl hP hS
  obtain ⟨c1, c2, c3, c4, c5, c6, c7, c8, c9, c10, c11, c12, c13, c14, c15, c16⟩ := C
  subst hx
  have e : (nI j).toNatClampNeg = j := nI_clamp (by omega)
  refine va_sld (A := fun q => LaH X ≤ q) c1 c2 c14 c15 (Nat.not_le.mpr c15) hS (vp_in_nI hj (by omega)) d ?_
  rw [e]
  exact h H locs ls hl hP hS
theorem l_slen (C : LC X) (d : decode cL_law pc = .ok (.arraylength, 1)) (h : LJ X (pc + 1) L (.int (nI (LaN X)) :: st) σ τ v nc ns) : LJ X pc L (.ref (LaB X) :: st) σ τ v nc ns := by
  intro H locs ls hl hP hS
  obtain ⟨c1, c2, c3, c4, c5, c6, c7, c8, c9, c10, c11, c12, c13, c14, c15, c16⟩ := C
  exact va_slen (A := fun q => LaH X ≤ q) c1 c2 c14 c15 (Nat.not_le.mpr c15) hS d (h H locs ls hl hP hS)
/-- argument k of the call at hand -/
theorem l_arg (C : LC X) {t : Nat} {n : Int} (k : Nat) (d0 : decode cL_law pc = .ok (.aload_n 0, 1)) (d1 : decode cL_law (pc + 1) = .ok (.iload 4, 2)) (d3 : decode cL_law (pc + 1 + 2) = .ok (.iconst n, 1)) (d4 : decode cL_law (pc + 1 + 2 + 1) = .ok (.iadd, 1)) (d5 : decode cL_law (pc + 1 + 2 + 1 + 1) = .ok (.iaload, 1)) (hv : Int32.ofInt n = nI k) (hj : 6 * t + k < LaN X) (h : LJ X (pc + 1 + 2 + 1 + 1 + 1) (LaL X t) (.int (LaX X (6 * t + k)) :: st) σ τ v nc ns) : LJ X pc (LaL X t) st σ τ v nc ns :=
  l_aload_n C d0 0 rfl rfl (l_iload C d1 4 rfl (l_iconst C d3 hv (l_iadd C d4 (l_sld C hj (nI_add _ _) d5 h))))
theorem l_lald (C : LC X) (d : decode cL_law pc = .ok (.laload, 1)) (h : LJ X (pc + 1) L (.long v :: st) σ τ v nc ns) : LJ X pc L (.int 0 :: .ref (LaH X + 139) :: st) σ τ v nc ns := by
  intro H locs ls hl hP hS
  obtain ⟨c1, c2, c3, c4, c5, c6, c7, c8, c9, c10, c11, c12, c13, c14, c15, c16⟩ := C
  exact W.lald (v := .long v) c1 c2 hP.2.2 (c13 1 (fun _ => .long v)) (fun q => by cases q) (by show ¬ (_ ∨ (arrV _ _ _).slots.size ≤ _); rw [arrV_size]; show ¬ ((0 : Int32) < 0 ∨ 1 ≤ (0 : Int32).toNatClampNeg); decide) (by show (arrV _ _ _).slots[_]? = _; exact arrV_read _ _ (show (0 : Int32).toNatClampNeg < 1 by decide)) rfl rfl d (h H locs ls hl hP hS)
theorem l_stOK (C : LC X) {H : Heap} {locs : List Loc} {U : State} {B : Nat → Prop} (hS : va_S (fun q => LaH X ≤ q) X.1.2.2.2.heap H locs) (hB : ∀ q, B q → LaH X ≤ q) (hU : U.heap = H) (hW : X.1.2.2.2.WarmedH U.vm) : stOK B U U.heap := by
  obtain ⟨c1, c2, c3, c4, c5, c6, c7, c8, c9, c10, c11, -⟩ := C
  rw [hU]
  exact c11.via hW.alike (fun a h1 h2 => hS.2.1 a h1 h2) hB
theorem AC_ge {h sz : Nat} (hz : h ≤ sz) : ∀ q, AY YC (adC h) sz q → h ≤ q := by
  rintro q (⟨k, -, rfl⟩ | h2)
  · exact Nat.le_add_right _ _
  · omega
theorem AM_ge {h sz : Nat} (hz : h ≤ sz) : ∀ q, AY (YM false) (adM h) sz q → h ≤ q := by
  rintro q (⟨k, -, rfl⟩ | h2)
  · show h ≤ h + 120 + k
    omega
  · omega
theorem LWd.szC {D : va_G} {dA : Nat → ClassId} {cL : ClassId} {h : Nat} {σ τ : Mem} {v : Int64} {H : Heap} (w : LWd D dA cL h σ τ v H) : h + 139 < H.size := (Array.getElem?_eq_some_iff.mp w.2.2).1
/-- a call on the class, a call on the reference -/
theorem l_callC (C : LC X) {y : MethodName} {ccy : ByteArray} {nLy idx n : Nat} {rty : Option FieldType} {rmy : Room} {av : (Nat → Nat) → List Value} {E0 : Option (Int32 × Mem)} {r : Int32} {σ' : Mem} (hM : CTi YC y ccy nLy rty rmy av σ E0) (hE : E0 = some (r, σ')) (hw : CwV RL idx RX10 y ccy nLy rty n) (hR : rmIn rmy nLy room_1) (As rest : List Value) (hav : av (adC (LaH X)) = .ref (LaH X) :: As) (hn : As.length = n) (hst : st = As.reverse ++ .ref (LaH X) :: rest) (hs8 : (rest.map fun v => v.category).sum ≤ 8) (hcs : nc ≤ 601024 ∧ ns ≤ 7293034) (d : decode cL_law pc = .ok (.invokevirtual idx, 3)) (h : LJ X (pc + 3) L (.int r :: rest) σ' τ v nc ns) : LJ X pc L st σ τ v nc ns := by
  intro H locs ls hl hP hS
  have hC := C
  obtain ⟨c1, c2, c3, c4, c5, c6, c7, c8, c9, c10, c11, c12, c13, c14, c15, c16⟩ := C
  obtain ⟨r1, r2, r3, r4⟩ := hR
  have hMet := hM X.1.2.1 X.2.2.1.1 X.2.2.1.2.1 (adC (LaH X)) H.size _ hE
  rw [hav] at hMet
  subst hst
  have hg := wsY_get (Y := YC) (dA := X.2.2.1.2.1) (ad := adC (LaH X)) (σ := σ) (k := 0) (by decide)
  rw [cellY_obj kc_0] at hg
  have hA := AC_ge (h := LaH X) hS.1
  have hsz := hP.szC
  refine va_calli (va_runV (g := F0 X.2.1.1 pc ls (As.reverse ++ .ref (LaH X) :: rest)) (As := As) (rest := rest) ⟨c1, c2, c4, c5, c6⟩ hMet (cwV n c6 hw.1 rfl r1 r2 hw.2 ⟨r3, r4⟩) ⟨PreY_blind, va_recv c9 hP.1 kX10.1 hg, fun U hU hW => ⟨rfl, by rw [hU], by rw [hU]; exact hP.1, va_K.moved hW.alike c9, adC_ok _, l_stOK hC hS hA hU hW, c10.warm hW⟩⟩ rfl hn hl.1 rfl (lv_room hs8) d hcs) hS (fun q _ h => hA q h) hA (fun r9 u t H1 locs1 ht hvm hpo hB hz hk1 hS1 => ?_)
  cases hpo
  obtain ⟨hP1, -⟩ := hB
  rw [ht] at hP1
  refine h H1 locs1 ls hl ⟨hP1, hP.2.1.kept (fun k q hq => ?_), ?_⟩ hS1
  · obtain ⟨hk9, rfl⟩ := wsY_inv hq
    have hk9 : k < 19 := hk9
    refine hk1 _ (by show LaH X + 120 + k < H.size; omega) ?_
    rintro (⟨j, hj, e9⟩ | h9)
    · have hj : j < 120 := hj
      have e9 : LaH X + 120 + k = LaH X + j := e9
      omega
    · have h9 : H.size ≤ LaH X + 120 + k := h9
      omega
  · rw [hk1 _ hsz ?_]
    · exact hP.2.2
    · rintro (⟨j, hj, e9⟩ | h9)
      · have hj : j < 120 := hj
        have e9 : LaH X + 139 = LaH X + j := e9
        omega
      · omega
theorem LWd.afterM {H H1 : Heap} {D : va_G} {dA : Nat → ClassId} {cL : ClassId} {h : Nat} {τ' : Mem} (hP : LWd D dA cL h σ τ v H) (hk1 : ∀ q : Nat, q < H.size → ¬ AY (YM false) (adM h) H.size q → H1[q]? = H[q]?) (hP1 : va_P D vwCl (wsY (YM false) dA (adM h) τ') H1) : LWd D dA cL h σ τ' v H1 := by
  have hsz := hP.szC
  refine ⟨hP.1.kept (fun k q hq => ?_), hP1, ?_⟩
  · obtain ⟨hk9, rfl⟩ := wsY_inv hq
    have hk9 : k < 120 := hk9
    refine hk1 _ (by show h + k < H.size; omega) ?_
    rintro (⟨j, hj, e9⟩ | h9)
    · have e9 : h + k = h + 120 + j := e9
      omega
    · have h9 : H.size ≤ h + k := h9
      omega
  · rw [hk1 _ hsz ?_]
    · exact hP.2.2
    · rintro (⟨j, hj, e9⟩ | h9)
      · have hj : j < 19 := hj
        have e9 : h + 139 = h + 120 + j := e9
        omega
      · omega
theorem l_callM (C : LC X) {y : MethodName} {ccy : ByteArray} {nLy idx n : Nat} {rty : Option FieldType} {rmy : Room} {av : (Nat → Nat) → List Value} {E0 : Option (Int32 × Mem)} {r : Int32} {τ' : Mem} (hM : CTi (YM false) y ccy nLy rty rmy av τ E0) (hE : E0 = some (r, τ')) (hw : CwV RL idx RX11 y ccy nLy rty n) (hR : rmIn rmy nLy room_1) (As rest : List Value) (hav : av (adM (LaH X)) = .ref (LaH X + 120) :: As) (hn : As.length = n) (hst : st = As.reverse ++ .ref (LaH X + 120) :: rest) (hs8 : (rest.map fun v => v.category).sum ≤ 8) (hcs : nc ≤ 601024 ∧ ns ≤ 7293034) (d : decode cL_law pc = .ok (.invokevirtual idx, 3)) (h : LJ X (pc + 3) L (.int r :: rest) σ τ' v nc ns) : LJ X pc L st σ τ v nc ns := by
  intro H locs ls hl hP hS
  have hC := C
  obtain ⟨c1, c2, c3, c4, c5, c6, c7, c8, c9, c10, c11, c12, c13, c14, c15, c16⟩ := C
  obtain ⟨r1, r2, r3, r4⟩ := hR
  have hMet := hM X.1.2.1 X.2.2.1.1 X.2.2.1.2.1 (adM (LaH X)) H.size _ hE
  rw [hav] at hMet
  subst hst
  have hg := wsY_get (Y := YM false) (dA := X.2.2.1.2.1) (ad := adM (LaH X)) (σ := τ) (k := 0) (by decide)
  rw [cellY_obj (km_0 false)] at hg
  have hA := AM_ge (h := LaH X) hS.1
  refine va_calli (va_runV (g := F0 X.2.1.1 pc ls (As.reverse ++ .ref (LaH X + 120) :: rest)) (As := As) (rest := rest) ⟨c1, c2, c4, c5, c6⟩ hMet (cwV n c6 hw.1 rfl r1 r2 hw.2 ⟨r3, r4⟩) ⟨PreY_blind, va_recv c9 hP.2.1 kX11.1 hg, fun U hU hW => ⟨rfl, by rw [hU], by rw [hU]; exact hP.2.1, va_K.moved hW.alike c9, adM_ok _, l_stOK hC hS hA hU hW, c10.warm hW⟩⟩ rfl hn hl.1 rfl (lv_room hs8) d hcs) hS (fun q _ h => hA q h) hA (fun r9 u t H1 locs1 ht hvm hpo hB hz hk1 hS1 => ?_)
  cases hpo
  obtain ⟨hP1, -⟩ := hB
  rw [ht] at hP1
  exact h H1 locs1 ls hl (hP.afterM hk1 hP1) hS1
theorem l_callJ (C : LC X) {y : MethodName} {ccy : ByteArray} {nLy idx n : Nat} {rty : Option FieldType} {rmy : Room} {av : (Nat → Nat) → List Value} {E0 : Option (Int32 × Mem)} {r : Int32} {τ' : Mem} (hM : CTj (YM false) y ccy nLy rty rmy av τ E0) (hE : E0 = some (r, τ')) (hw : CwV RL idx RX11 y ccy nLy rty n) (hR : rmy.cells = 1 ∧ rmy.slots = 4 ∧ rmy.frames + 1 ≤ room_1.frames ∧ 8 + (nLy + 11) + rmy.locals ≤ room_1.locals) (As rest : List Value) (hav : av (adM (LaH X)) = .ref (LaH X + 120) :: As) (hn : As.length = n) (hst : st = As.reverse ++ .ref (LaH X + 120) :: rest) (hs8 : (rest.map fun v => v.category).sum ≤ 8) (hcs : nc + 1 ≤ 601024 ∧ ns + 4 ≤ 7293034) (d : decode cL_law pc = .ok (.invokevirtual idx, 3)) (h : LJ X (pc + 3) L (.int r :: rest) σ τ' v (nc + 1) (ns + 4)) : LJ X pc L st σ τ v nc ns := by
  intro H locs ls hl hP hS
  have hC := C
  obtain ⟨c1, c2, c3, c4, c5, c6, c7, c8, c9, c10, c11, c12, c13, c14, c15, c16⟩ := C
  obtain ⟨r1, r2, r3, r4⟩ := hR
  have hMet := hM X.1.2.1 X.2.2.1.1 X.2.2.1.2.1 (adM (LaH X)) H.size _ hE
  rw [hav] at hMet
  subst hst
  have hg := wsY_get (Y := YM false) (dA := X.2.2.1.2.1) (ad := adM (LaH X)) (σ := τ) (k := 0) (by decide)
  rw [cellY_obj (km_0 false)] at hg
  have hA := AM_ge (h := LaH X) hS.1
  refine va_calli (va_runV (g := F0 X.2.1.1 pc ls (As.reverse ++ .ref (LaH X + 120) :: rest)) (As := As) (rest := rest) ⟨c1, c2, c4, c5, c6⟩ hMet (cwV n c6 hw.1 rfl r1 r2 hw.2 ⟨r3, r4⟩) ⟨PreY_blind, va_recv c9 hP.2.1 kX11.1 hg, fun U hU hW => ⟨rfl, by rw [hU], by rw [hU]; exact hP.2.1, va_K.moved hW.alike c9, adM_ok _, l_stOK hC hS hA hU hW, c10.warm hW⟩⟩ rfl hn hl.1 rfl (lv_room hs8) d hcs) hS (fun q _ h => hA q h) hA (fun r9 u t H1 locs1 ht hvm hpo hB hz hk1 hS1 => ?_)
  cases hpo
  obtain ⟨hP1, -⟩ := hB
  rw [ht] at hP1
  exact h H1 locs1 ls hl (hP.afterM hk1 hP1) hS1
/-- a helper's call -/
def CwH (own : String) (idx : Nat) (y : MethodName) (cc : ByteArray) (nL : Nat) (hh : List (Nat × Nat × Nat × Nat)) (n : Nat) : Prop := GoodIn TT (va_wsS own idx y (wH y cc nL hh)) ∧ (y.cls ≠ "java/lang/invoke/MethodHandle" ∧ y.cls ≠ "java/lang/invoke/VarHandle" ∧ (parseMethodDescriptor y.desc).map (fun d => d.parameters.length) = some n)
theorem CwH_of {own : String} {idx : Nat} {y : MethodName} {cc : ByteArray} {nL : Nat} {hh : List (Nat × Nat × Nat × Nat)} {n : Nat} (h1 : Cond.methodLink own idx y ∈ TT) (h2 : Cond.static y ∈ TT) (h4 : Cond.initialized y.cls ∈ TT) (h5 : Cond.codeWith y cc nL (some .int) hh ∈ TT) (hd : y.cls ≠ "java/lang/invoke/MethodHandle" ∧ y.cls ≠ "java/lang/invoke/VarHandle" ∧ (parseMethodDescriptor y.desc).map (fun d => d.parameters.length) = some n) : CwH own idx y cc nL hh n := by
  refine ⟨good_TT _ ?_, hd⟩
  intro w hw
  simp only [va_wsS, wH, List.mem_append, List.mem_cons, List.not_mem_nil, or_false] at hw
  rcases hw with (rfl | rfl | rfl) | rfl | h
  · exact h1
  · exact h2
  · exact h4
  · exact h5
  · exact h
theorem l_callH (C : LC X) {y : MethodName} {ccy : ByteArray} {nLy idx n : Nat} {hh : List (Nat × Nat × Nat × Nat)} {rmy : Room} {av : (Nat → Nat) → Nat → List Value} {E0 : Option (Option Int32 × Mem)} {x : Option Int32 × Mem} (hM : CTh y ccy nLy hh rmy av σ E0) (hE : E0 = some x) (hw : CwH RL idx y ccy nLy hh n) (hR : rmy.cells = 1 ∧ rmy.slots = 6 ∧ rmy.frames + 1 ≤ room_1.frames ∧ 8 + (nLy + 11) + rmy.locals ≤ room_1.locals) (As rest : List Value) (hav : av (adC (LaH X)) (LaH X + 139) = As) (hn : As.length = n) (hst : st = As.reverse ++ rest) (hs8 : (rest.map fun v => v.category).sum ≤ 8) (hcs : nc + 1 ≤ 601024 ∧ ns + 6 ≤ 7293034) (d : decode cL_law pc = .ok (.invokestatic idx, 3)) (h : ∀ r u, hpost x v r u → LJ X (pc + 3) L (.int r :: rest) u.1 τ u.2 (nc + 1) (ns + 6)) : LJ X pc L st σ τ v nc ns := by
  intro H locs ls hl hP hS
  have hC := C
  obtain ⟨c1, c2, c3, c4, c5, c6, c7, c8, c9, c10, c11, c12, c13, c14, c15, c16⟩ := C
  obtain ⟨r1, r2, r3, r4⟩ := hR
  have hMet := hM X.1.2.1 c8 X.2.2.1.1 X.2.2.1.2.1 (adC (LaH X)) X.2.2.1.2.2 (LaH X + 139) v H.size _ hE
  rw [hav] at hMet
  subst hst
  have hsz := hP.szC
  have hA : ∀ q, AH (adC (LaH X)) (LaH X + 139) H.size q → LaH X ≤ q := by
    rintro q (h9 | rfl)
    · exact AC_ge (h := LaH X) hS.1 q h9
    · exact Nat.le_add_right _ _
  refine va_calli (vx_runSW (hh := hh) (g := F0 X.2.1.1 pc ls (As.reverse ++ rest)) (As := As) (rest := rest) ⟨c1, c2, c4, c5, c6⟩ hMet (vx_cwSW n c6 hw.1 rfl r1 r2 hw.2 ⟨r3, r4⟩) ⟨PreH_blind, fun U hU hW => ⟨rfl, ⟨⟨by rw [hU], by rw [hU]; exact hP.1, va_K.moved hW.alike c9, adC_ok _, l_stOK hC hS (AC_ge (h := LaH X) hS.1) hU hW, c10.warm hW⟩, by rw [hU]; exact c12.via hW (fun a h1 h2 => hS.2.1 a h1 h2) (AC_ge (h := LaH X) hS.1)⟩, by rw [hU]; exact hP.2.2, fun k hk e9 => by
      have e9 : LaH X + k = LaH X + 139 := e9
      omega, arrOfT_moved hW.alike c13⟩⟩ rfl hn hl.1 rfl (lv_room hs8) d hcs) hS (fun q _ h => hA q h) hA (fun r9 u t H1 locs1 ht hvm hpo hB hz hk1 hS1 => ?_)
  obtain ⟨hP1, ho1⟩ := hB
  rw [ht] at hP1 ho1
  refine h r9 u hpo H1 locs1 ls hl ⟨hP1, hP.2.1.kept (fun k q hq => ?_), ho1⟩ hS1
  obtain ⟨hk9, rfl⟩ := wsY_inv hq
  have hk9 : k < 19 := hk9
  refine hk1 _ (by show LaH X + 120 + k < H.size; omega) ?_
  rintro ((⟨j, hj, e9⟩ | h9) | h9)
  · have hj : j < 120 := hj
    have e9 : LaH X + 120 + k = LaH X + j := e9
    omega
  · have h9 : H.size ≤ LaH X + 120 + k := h9
    omega
  · have h9 : LaH X + 120 + k = LaH X + 139 := h9
    omega
/-- what a throwing call's answer is held against -/
theorem lg_self (x : Int64) : lg_cmp x x = 0 := by
  unfold lg_cmp
  rw [if_neg (by rw [gt_iff_lt, Int64.lt_iff_toInt_lt]; omega), if_pos rfl]
end LR
