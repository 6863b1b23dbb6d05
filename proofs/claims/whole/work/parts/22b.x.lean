/-! ===== methods that return or throw ===== -/
def xTx : List (Nat × String) := [(87, "the tape has a fault"), (130, "no such variable"), (156, "no such actor, or nothing such of it"), (171, "no such object, or nothing such of it"), (216, "not so many notes"), (221, "no such sentence, or nothing such of it")]
def xCa : List String := ["java/lang/IllegalArgumentException", "java/util/NoSuchElementException"]
def xDe : List MethodName := [⟨"java/lang/RuntimeException", "<init>", "()V"⟩, ⟨"java/lang/RuntimeException", "<init>", "(Ljava/lang/String;)V"⟩, ⟨"java/lang/Exception", "<init>", "()V"⟩, ⟨"java/lang/Exception", "<init>", "(Ljava/lang/String;)V"⟩, ⟨"java/lang/Throwable", "<init>", "()V"⟩, ⟨"java/lang/Throwable", "<init>", "(Ljava/lang/String;)V"⟩]
def xIAE : String := "java/lang/IllegalArgumentException"
def xNSE : String := "java/util/NoSuchElementException"
def xNs : List String := ["java/lang/RuntimeException", "java/lang/Exception"]
def xB : List Cond := xCa.map (fun c => Cond.castable c c) ++ xDe.map Cond.declares
def ThOK (A : Nat → Prop) (U : State) (H : Heap) : Prop := vx_Zq Bundle.tN "UNASSIGNED_STACK" Bundle.steD A U H ∧ vx_Zq Bundle.tN "SUPPRESSED_SENTINEL" Bundle.listD A U H ∧ (∀ q ∈ xTx, ∃ sa, vk_R RX10 q.1 q.2 sa U) ∧ (∀ c ∈ xCa, va_Nw (.castable c c) U) ∧ ∀ y ∈ xDe, va_Nw (.declares y) U
theorem ThOK.via {A B : Nat → Prop} {s U : State} {H H1 : Heap} (h : ThOK A s H) (hW : s.WarmedH U.vm) (hq : ∀ a : Nat, a < H.size → ¬ A a → H1[a]? = H[a]?) (hAB : ∀ q, B q → A q) : ThOK B U H1 :=
  ⟨((h.1.moved hW.alike).kept hq).narrow hAB, ((h.2.1.moved hW.alike).kept hq).narrow hAB, fun q hq => (h.2.2.1 q hq).elim fun sa hs => ⟨sa, hs.warm hW⟩, fun c hc => va_Nw.warmC hW (h.2.2.2.1 c hc), fun y hy => va_Nw.warmD hW (h.2.2.2.2 y hy)⟩
theorem ThOK.call {A : Nat → Prop} {U V : State} (h : ThOK A U U.heap) (hv : V.vm = U.vm) (hh : V.heap = U.heap) : ThOK A V V.heap := by
  rw [hh]
  exact h.via (by rw [hv]; exact State.WarmedH.refl U) (fun _ _ _ => rfl) (fun _ h => h)
def PreX (Y : Lay) (D : va_G) (dA : Nat → ClassId) (ad : Nat → Nat) (σ : Mem) (sz : Nat) (U : State) : Prop := PreY Y D dA ad σ sz U ∧ ThOK (AY Y ad sz) U U.heap
theorem PreX_blind {Y : Lay} {D : va_G} {dA : Nat → ClassId} {ad : Nat → Nat} {σ : Mem} {sz : Nat} {av : List Value} : FrameBlind (va_Pc av (PreX Y D dA ad σ sz)) := fun a U g mk q => ⟨q.1, (PreY_blind (av := av) a U g mk ⟨q.1, q.2.1⟩).2, q.2.2.call rfl rfl⟩
def QxY (Y : Lay) (D : va_G) (dA : Nat → ClassId) (ad : Nat → Nat) (sz : Nat) (x : Option Int32 × Mem) : Array Value → State → Outcome → State → Prop := va_Qi (fun r u => (some r, u) = x) (PostY Y D dA ad) (AY Y ad sz)
def XcY (Y : Lay) (D : va_G) (dA : Nat → ClassId) (ad : Nat → Nat) (sz : Nat) (Xc : String) (x : Option Int32 × Mem) : String → State → State → Prop := vx_X (fun u => (none, u) = x) (fun En u t => En = Xc ∧ PostY Y D dA ad u t) (AY Y ad sz)
def CTx (Y : Lay) (y : MethodName) (cc : ByteArray) (nL : Nat) (rt : Option FieldType) (rm : Room) (av : (Nat → Nat) → List Value) (σ : Mem) (Xc : String) (E : Option (Option Int32 × Mem)) : Prop :=
  ∀ (l : Launch), l.stackTraces = false → ∀ (D : va_G) (dA : Nat → ClassId) (ad : Nat → Nat) (sz : Nat) (x : Option Int32 × Mem), E = some x → vx_Met l y (wT y cc nL rt) rm (va_Pc (av ad) (PreX Y D dA ad σ sz)) (QxY Y D dA ad sz x) (XcY Y D dA ad sz Xc x) 1 6 (AY Y ad sz)
def CRx (Y : Lay) (Xc : String) (X : CtxT (Option Int32 × Mem)) : Prop := (X.2.2.2.1 = fun x => vx_MQ X.2.1.2.2.1 (QxY Y X.2.2.1.1 X.2.2.1.2.1 X.2.2.1.2.2 X.1.2.2.2.2.heap.size x) (XcY Y X.2.2.1.1 X.2.2.1.2.1 X.2.2.1.2.2 X.1.2.2.2.2.heap.size Xc x) X.2.1.2.1 X.1.2.2.2.2 1 6 (AY Y X.2.2.1.2.2 X.1.2.2.2.2.heap.size)) ∧ X.2.2.2.2 = (0, 0) ∧ X.1.2.1.stackTraces = false ∧ ThOK (AY Y X.2.2.1.2.2 X.1.2.2.2.2.heap.size) X.1.2.2.2.2 X.1.2.2.2.2.heap ∧ ∀ z ∈ X.2.1.2.2.2.2.exceptionTable.toList, False
section JX
variable {Y : Lay} {nL : Nat} {cc : ByteArray} {own : String} {rt : Option FieldType} {rm : Room} {pc : Nat} {L : List (Nat × Value)} {σ : Mem} {Xc : String}
theorem j_xret {X : CtxT (Option Int32 × Mem)} (C : Cx Y X nL cc own (some .int) rm) (CR : CRx Y Xc X) {v : Int32} (d : decode cc pc = .ok (.ireturn, 1)) : J Y X nL (some (some v, σ)) pc L [.int v] σ := by
  intro x hx H locs ls hl hP hS
  obtain ⟨c1, c2, c3, c4, c5, c6, c7, c8, c9, c10, c11, c12, c13, c14⟩ := C
  obtain ⟨r1, r2, -⟩ := CR
  cases hx
  rw [r1, r2]
  refine vx_ret (W.widen (k := 1) (n := 6) (Nat.zero_le _) (Nat.zero_le _) ?_)
  exact W.iret (v := v) c1 c2 c6 (fun t ht hW => ⟨⟨v, σ, rfl, rfl, by rw [ht]; exact hP, va_K.moved hW.alike c9⟩, hS.F ht⟩) hS.2.2 d c7
theorem j_thr {X : CtxT (Option Int32 × Mem)} (C : Cx Y X nL cc RX10 rt rm) (CR : CRx Y Xc X) {ik is ic : Nat} {text : String} {rest : List Value} (hk : Cond.classLink RX10 ik Xc ∈ TT) (hi : Cond.initialized Xc ∈ TT) (hf : Bundle.fit Xc = true) (ht : (is, text) ∈ xTx)
    (hg1 : ∀ w ∈ (vx_atS RX10 ic Xc xNs).filter goodWord, w ∈ TT) (hg2 : ∀ w ∈ (vx_atS RX10 ic Xc xNs).filter (fun w => !goodWord w), w ∈ xB) (hg3 : ∀ w ∈ Cond.classLink RX10 ik Xc :: Cond.initialized Xc :: vx_atS RX10 ic Xc xNs, vx_ot w = true)
    (d0 : decode cc pc = .ok (.new ik, 3)) (d3 : decode cc (pc + 3) = .ok (.dup, 1)) (d4 : decode cc (pc + 4) = .ok (.ldc is, 2)) (d6 : decode cc (pc + 6) = .ok (.invokespecial ic, 3)) (d9 : decode cc (pc + 9) = .ok (.athrow, 1))
    (hR : 5 < rm.frames ∧ 90 ≤ rm.locals ∧ rm.cells = 1 ∧ rm.slots = 6) (hs8 : (rest.map fun v => v.category).sum ≤ 8) : J Y X nL (some (none, σ)) pc L rest σ := by
  intro x hx H locs ls hl hP hS
  obtain ⟨c1, c2, c3, c4, c5, c6, c7, c8, c9, c10, c11, c12, c13, c14⟩ := C
  obtain ⟨r1, r2, r3, r4, r5⟩ := CR
  cases hx
  rw [r1, r2]
  obtain ⟨sa, hsa⟩ := r4.2.2.1 _ ht
  have hB : ∀ w ∈ xB, w.before X.2.1.2.1 X.1.2.2.2.2 = true := by
    intro w hw
    rcases List.mem_append.mp hw with h | h
    · obtain ⟨c, hc, rfl⟩ := List.mem_map.mp h
      exact va_Nw.use rfl (r4.2.2.2.1 c hc)
    · obtain ⟨y, hy, rfl⟩ := List.mem_map.mp h
      exact va_Nw.use rfl (r4.2.2.2.2 y hy)
  obtain ⟨k1, k2, k3, k4⟩ := hR
  refine vx_throwS (names := xNs) (A := AY Y X.2.2.1.2.2 X.1.2.2.2.2.heap.size) c1 c2 r3 c4 hf (by decide) (c5 _ hk) (c5 _ hi) hsa (vx_hat (fun w hw => c5 _ (hg1 w hw)) hg2 hB) hg3 r4.1 r4.2.1 hS (by rw [c3]; exact hl.1) d0 d3 d4 d6 d9 (fun z hz => (r5 z hz).elim) (by rw [c8]; exact k1) (by rw [c8]; simp only [xNs, List.length_cons, List.length_nil]; omega) (by rw [c8, k3]; exact Nat.le_refl _) (by rw [c8, k4]; exact Nat.le_refl _) c7 ?_ hS.2.2 (Nat.le_refl _) (Nat.le_refl _)
  intro t hvm hsz hkeep
  refine ⟨σ, rfl, ⟨rfl, fun k q hk => (hP k q hk).kept (hkeep q.1 (vx_lt hP hk)), va_K.moved hvm c9⟩, ?_⟩
  exact ⟨Nat.le_trans hS.1 hsz, fun q h1 h2 => by rw [hkeep q (Nat.lt_of_lt_of_le h1 hS.1)]; exact hS.2.1 q h1 h2⟩
theorem j_thrN {X : CtxT (Option Int32 × Mem)} (C : Cx Y X nL cc RX10 rt rm) (CR : CRx Y Xc X) {ik is ic : Nat} {text : String} {rest : List Value} (hk : Cond.classLink RX10 ik Xc ∈ TT) (hi : Cond.initialized Xc ∈ TT) (hf : Bundle.fit Xc = true) {Y1 : String} {ix : Nat} {bytes : ByteArray} {ns : List String} (hY1 : Bundle.fit Y1 = true) (hns : ∀ n ∈ ns, Bundle.fit n = true) (hnl : ns.length = 1) (b0 : decode bytes 0 = .ok (.aload_n 0, 1)) (b1 : decode bytes 1 = .ok (.aload_n 1, 1)) (b2 : decode bytes 2 = .ok (.invokespecial ix, 3)) (b5 : decode bytes 5 = .ok (.return_, 1)) (ht : (is, text) ∈ xTx)
    (hg1 : ∀ w ∈ (xn_atS RX10 ic Xc Y1 ix bytes ns).filter goodWord, w ∈ TT) (hg2 : ∀ w ∈ (xn_atS RX10 ic Xc Y1 ix bytes ns).filter (fun w => !goodWord w), w ∈ xB) (hg3 : ∀ w ∈ Cond.classLink RX10 ik Xc :: Cond.initialized Xc :: xn_atS RX10 ic Xc Y1 ix bytes ns, vx_ot w = true)
    (d0 : decode cc pc = .ok (.new ik, 3)) (d3 : decode cc (pc + 3) = .ok (.dup, 1)) (d4 : decode cc (pc + 4) = .ok (.ldc is, 2)) (d6 : decode cc (pc + 6) = .ok (.invokespecial ic, 3)) (d9 : decode cc (pc + 9) = .ok (.athrow, 1))
    (hR : 5 < rm.frames ∧ 90 ≤ rm.locals ∧ rm.cells = 1 ∧ rm.slots = 6) (hs8 : (rest.map fun v => v.category).sum ≤ 8) : J Y X nL (some (none, σ)) pc L rest σ := by
  intro x hx H locs ls hl hP hS
  obtain ⟨c1, c2, c3, c4, c5, c6, c7, c8, c9, c10, c11, c12, c13, c14⟩ := C
  obtain ⟨r1, r2, r3, r4, r5⟩ := CR
  cases hx
  rw [r1, r2]
  obtain ⟨sa, hsa⟩ := r4.2.2.1 _ ht
  have hB : ∀ w ∈ xB, w.before X.2.1.2.1 X.1.2.2.2.2 = true := by
    intro w hw
    rcases List.mem_append.mp hw with h | h
    · obtain ⟨c, hc, rfl⟩ := List.mem_map.mp h
      exact va_Nw.use rfl (r4.2.2.2.1 c hc)
    · obtain ⟨y, hy, rfl⟩ := List.mem_map.mp h
      exact va_Nw.use rfl (r4.2.2.2.2 y hy)
  obtain ⟨k1, k2, k3, k4⟩ := hR
  refine xn_throwS (names := ns) (A := AY Y X.2.2.1.2.2 X.1.2.2.2.2.heap.size) c1 c2 r3 b0 b1 b2 b5 c4 hf hY1 hns (c5 _ hk) (c5 _ hi) hsa (vx_hat (fun w hw => c5 _ (hg1 w hw)) hg2 hB) hg3 r4.1 r4.2.1 hS (by rw [c3]; exact hl.1) d0 d3 d4 d6 d9 (fun z hz => (r5 z hz).elim) (by rw [c8, hnl]; exact k1) (by rw [c8, hnl]; omega) (by rw [c8, k3]; exact Nat.le_refl _) (by rw [c8, k4]; exact Nat.le_refl _) c7 ?_ hS.2.2 (Nat.le_refl _) (Nat.le_refl _)
  intro t hvm hsz hkeep
  refine ⟨σ, rfl, ⟨rfl, fun k q hk => (hP k q hk).kept (hkeep q.1 (vx_lt hP hk)), va_K.moved hvm c9⟩, ?_⟩
  exact ⟨Nat.le_trans hS.1 hsz, fun q h1 h2 => by rw [hkeep q (Nat.lt_of_lt_of_le h1 hS.1)]; exact hS.2.1 q h1 h2⟩
theorem CTx_of {y : MethodName} {av : (Nat → Nat) → List Value} {E : Option (Option Int32 × Mem)} (hy : plainName y.cls = true) (hsl : ∀ ad, (lg_sl (av ad)).length ≤ nL) (h : ∀ X : CtxT (Option Int32 × Mem), Cx Y X nL cc y.cls rt rm → CRx Y Xc X → J Y X nL E 0 (lv_args 0 (av (adX X))) [] σ) : CTx Y y cc nL rt rm av σ Xc E := by
  intro l hst0 D dA ad sz x hE
  refine vx_ofW (cc := cc) (maxL := nL) (ret := rt) hy rfl ?_
  intro p e s m args below meth c s₁ B hml htb hv
  obtain ⟨rfl, ⟨hsz, hP, hK, hD, hst, hnw⟩, hth⟩ := hv
  subst hsz
  have hts := atoms_spec (ws := wT y cc nL rt) B.pre
  have hl := lv_entry (av ad) (n := nL) (hsl ad)
  rw [lg_entry_eq]
  exact h ((p, l, e, (headSpec (wT y cc nL rt) rm).room, s), (m, (av ad).toArray, below, meth, c), (D, dA, ad), (fun x => vx_MQ below (QxY Y D dA ad s.heap.size x) (XcY Y D dA ad s.heap.size Xc x) (av ad).toArray s 1 6 (AY Y ad s.heap.size)), (0, 0)) ⟨B.exec, B.bytes, hml, findClass_of_methodNamed B.named, fun w hw => hts w (List.mem_cons_of_mem _ hw), B.returns, B.notSynchronized, rfl, hK, hD, hst, Nat.zero_le _, Nat.zero_le _, hnw⟩ ⟨rfl, rfl, hst0, hth, htb⟩ x hE s.heap [] _ hl hP va_S.rf
end JX
theorem xk_IAE : Cond.classLink RX10 85 xIAE ∈ TT := TT_of 989 (by decide +kernel) (by decide +kernel)
theorem xi_IAE : Cond.initialized xIAE ∈ TT := TT_of 117 (by decide +kernel) (by decide +kernel)
theorem xg1_IAE : ∀ w ∈ (vx_atS RX10 89 xIAE xNs).filter goodWord, w ∈ TT := by
  have h : ∀ w ∈ (vx_atS RX10 89 xIAE xNs).filter goodWord, w ∈ lw_tbl := by decide +kernel
  exact fun w hw => List.mem_filter.mpr ⟨h w hw, (List.mem_filter.mp hw).2⟩
theorem xg2_IAE : ∀ w ∈ (vx_atS RX10 89 xIAE xNs).filter (fun w => !goodWord w), w ∈ xB := by decide +kernel
theorem xg3_IAE : ∀ w ∈ Cond.classLink RX10 85 xIAE :: Cond.initialized xIAE :: vx_atS RX10 89 xIAE xNs, vx_ot w = true := by decide +kernel
abbrev xbN : ByteArray := prog_23_method_4_code
theorem xb0 : decode xbN 0 = .ok (.aload_n 0, 1) := by decide +kernel
theorem xb1 : decode xbN 1 = .ok (.aload_n 1, 1) := by decide +kernel
theorem xb2 : decode xbN 2 = .ok (.invokespecial 13, 3) := by decide +kernel
theorem xb5 : decode xbN 5 = .ok (.return_, 1) := by decide +kernel
def xRE : String := "java/lang/RuntimeException"
def xNs1 : List String := ["java/lang/Exception"]
theorem xk_NSE : Cond.classLink RX10 128 xNSE ∈ TT := TT_of 1118 (by decide +kernel) (by decide +kernel)
theorem xi_NSE : Cond.initialized xNSE ∈ TT := TT_of 121 (by decide +kernel) (by decide +kernel)
theorem xg1_NSE : ∀ w ∈ (xn_atS RX10 132 xNSE xRE 13 xbN xNs1).filter goodWord, w ∈ TT := by
  have h : ∀ w ∈ (xn_atS RX10 132 xNSE xRE 13 xbN xNs1).filter goodWord, w ∈ lw_tbl := by decide +kernel
  exact fun w hw => List.mem_filter.mpr ⟨h w hw, (List.mem_filter.mp hw).2⟩
theorem xg2_NSE : ∀ w ∈ (xn_atS RX10 132 xNSE xRE 13 xbN xNs1).filter (fun w => !goodWord w), w ∈ xB := by decide +kernel
theorem xg3_NSE : ∀ w ∈ Cond.classLink RX10 128 xNSE :: Cond.initialized xNSE :: xn_atS RX10 132 xNSE xRE 13 xbN xNs1, vx_ot w = true := by decide +kernel
