/-! ===== calls, copies, returns, a method's contract ===== -/
theorem AY_up {Y : Lay} {ad : Nat → Nat} {a b : Nat} (h : a ≤ b) : ∀ q, AY Y ad b q → AY Y ad a q := fun q hq => hq.elim Or.inl (fun h2 => Or.inr (Nat.le_trans h h2))
theorem PreY_blind {Y : Lay} {D : va_G} {dA : Nat → ClassId} {ad : Nat → Nat} {σ : Mem} {sz : Nat} {av : List Value} : FrameBlind (va_Pc av (PreY Y D dA ad σ sz)) := fun a U g mk q => ⟨q.1, q.2.1, q.2.2.1, va_K.moved (u := U) (U := U.calling g mk a) (Vm.Alike.refl U.vm) q.2.2.2.1, q.2.2.2.2.1, q.2.2.2.2.2.1.via (U := U.calling g mk a) (Vm.Alike.refl U.vm) (fun _ _ _ => rfl) (fun _ h => h), q.2.2.2.2.2.2.same rfl⟩
theorem PreY_at {Y : Lay} {D : va_G} {dA : Nat → ClassId} {ad : Nat → Nat} {σ : Mem} {s U : State} {H : Heap} {locs : List Loc} (hP : va_P D vwCl (wsY Y dA ad σ) H) (hK : va_K D vwCl (tysY dA) s) (hD : adOK Y ad) (hst : stOK (AY Y ad s.heap.size) s s.heap) (hnw : NwOK s) (hS : va_S (AY Y ad s.heap.size) s.heap H locs) (hU : U.heap = H) (hW : s.WarmedH U.vm) : PreY Y D dA ad σ H.size U :=
  ⟨by rw [hU], by rw [hU]; exact hP, va_K.moved hW.alike hK, hD, hst.via hW.alike (fun a h1 h2 => by rw [hU]; exact hS.2.1 a h1 h2) (AY_up hS.1), hnw.warm hW⟩
/-- a call's words: an instance method, a static one, a nest mate's static one -/
def CwV (own : String) (idx : Nat) (Cn : String) (y : MethodName) (cc : ByteArray) (nL : Nat) (rt : Option FieldType) (n : Nat) : Prop := GoodIn TT (wsV own idx Cn y (wT y cc nL rt)) ∧ (y.cls = Cn ∧ y.cls ≠ "java/lang/invoke/MethodHandle" ∧ y.cls ≠ "java/lang/invoke/VarHandle" ∧ (parseMethodDescriptor y.desc).map (fun d => d.parameters.length) = some n)
def CwS (own : String) (idx : Nat) (y : MethodName) (cc : ByteArray) (nL : Nat) (rt : Option FieldType) (n : Nat) : Prop := GoodIn TT (va_wsS own idx y (wT y cc nL rt)) ∧ (y.cls ≠ "java/lang/invoke/MethodHandle" ∧ y.cls ≠ "java/lang/invoke/VarHandle" ∧ (parseMethodDescriptor y.desc).map (fun d => d.parameters.length) = some n)
def CwN (own : String) (idx : Nat) (y : MethodName) (host : String) (cc : ByteArray) (nL : Nat) (rt : Option FieldType) (n : Nat) : Prop := GoodIn TT (wT y cc nL rt) ∧ (own, idx, y, host) ∈ nM ∧ Cond.initialized y.cls ∈ TT ∧ Cond.static y ∈ TT ∧ (y.cls ≠ "java/lang/invoke/MethodHandle" ∧ y.cls ≠ "java/lang/invoke/VarHandle" ∧ (parseMethodDescriptor y.desc).map (fun d => d.parameters.length) = some n)
theorem good_TT (ws : List Cond) (h : ∀ w ∈ ws, w ∈ TT) : GoodIn TT ws := fun w hw => ⟨h w hw, good_of_word (TT_good w (h w hw))⟩
theorem CwV_of {own : String} {idx : Nat} {Cn : String} {y : MethodName} {cc : ByteArray} {nL : Nat} {rt : Option FieldType} {n : Nat} (h1 : Cond.methodLink own idx y ∈ TT) (h2 : Cond.instanceMethod y ∈ TT) (h3 : Cond.selects Cn y y ∈ TT) (h4 : Cond.initialized Cn ∈ TT) (h5 : Cond.code y cc nL rt ∈ TT) (hd : y.cls = Cn ∧ y.cls ≠ "java/lang/invoke/MethodHandle" ∧ y.cls ≠ "java/lang/invoke/VarHandle" ∧ (parseMethodDescriptor y.desc).map (fun d => d.parameters.length) = some n) : CwV own idx Cn y cc nL rt n := by
  refine ⟨good_TT _ ?_, hd⟩
  intro w hw
  simp only [wsV, wT, List.mem_append, List.mem_cons, List.not_mem_nil, or_false] at hw
  rcases hw with (rfl | rfl | rfl | rfl) | rfl | h
  · exact h1
  · exact h2
  · exact h3
  · exact h4
  · exact h5
  · exact h
theorem CwS_of {own : String} {idx : Nat} {y : MethodName} {cc : ByteArray} {nL : Nat} {rt : Option FieldType} {n : Nat} (h1 : Cond.methodLink own idx y ∈ TT) (h2 : Cond.static y ∈ TT) (h4 : Cond.initialized y.cls ∈ TT) (h5 : Cond.code y cc nL rt ∈ TT) (hd : y.cls ≠ "java/lang/invoke/MethodHandle" ∧ y.cls ≠ "java/lang/invoke/VarHandle" ∧ (parseMethodDescriptor y.desc).map (fun d => d.parameters.length) = some n) : CwS own idx y cc nL rt n := by
  refine ⟨good_TT _ ?_, hd⟩
  intro w hw
  simp only [va_wsS, wT, List.mem_append, List.mem_cons, List.not_mem_nil, or_false] at hw
  rcases hw with (rfl | rfl | rfl) | rfl | h
  · exact h1
  · exact h2
  · exact h4
  · exact h5
  · exact h
theorem CwN_of {own : String} {idx : Nat} {y : MethodName} {host : String} {cc : ByteArray} {nL : Nat} {rt : Option FieldType} {n : Nat} (h1 : (own, idx, y, host) ∈ nM) (h2 : Cond.static y ∈ TT) (h4 : Cond.initialized y.cls ∈ TT) (h5 : Cond.code y cc nL rt ∈ TT) (hd : y.cls ≠ "java/lang/invoke/MethodHandle" ∧ y.cls ≠ "java/lang/invoke/VarHandle" ∧ (parseMethodDescriptor y.desc).map (fun d => d.parameters.length) = some n) : CwN own idx y host cc nL rt n := by
  refine ⟨good_TT _ ?_, h1, h4, h2, hd⟩
  intro w hw
  rcases List.mem_cons.mp hw with rfl | h
  · exact h5
  · exact h
/-- a callee's room within the caller's -/
def rmIn (a : Room) (nL : Nat) (b : Room) : Prop := a.cells = 0 ∧ a.slots = 0 ∧ a.frames + 1 ≤ b.frames ∧ 8 + (nL + 11) + a.locals ≤ b.locals
section JC
variable {ω : Type} {Y : Lay} {X : CtxT ω} {nL : Nat} {cc : ByteArray} {own : String} {rt : Option FieldType} {rm : Room} {E E1 E2 : Option ω} {pc : Nat} {L L' : List (Nat × Value)} {st rest As : List Value} {σ : Mem}
theorem bd_some {o : Option (Int32 × Mem)} {k : Int32 → Mem → Option ω} {x : ω} (h : bd o k = some x) : ∃ y, o = some y ∧ k y.1 y.2 = some x := by
  cases o with
  | none => cases h
  | some y => exact ⟨y, rfl, h⟩
theorem bv_some {o : Option Mem} {k : Mem → Option ω} {x : ω} (h : bv o k = some x) : ∃ y, o = some y ∧ k y = some x := by
  cases o with
  | none => cases h
  | some y => exact ⟨y, rfl, h⟩

theorem j_callVi (C : Cx Y X nL cc own rt rm) {y : MethodName} {ccy : ByteArray} {nLy idx : Nat} {rty : Option FieldType} {rmy : Room} {av : (Nat → Nat) → List Value} {E0 : Option (Int32 × Mem)} {k : Int32 → Mem → Option ω} {ci N n : Nat} {Cn : String} {T : u_T} {ty : Nat → FieldType} (hM : CTi Y y ccy nLy rty rmy av σ E0) (hw : CwV own idx Cn y ccy nLy rty n) (hR : rmIn rmy nLy rm) (q : Nat) (hc : KI ci Cn T N ty) (hk : Y.2.1 q = (0, ci, N)) (hq : q < Y.1) (As rest : List Value) (hav : av (adX X) = .ref (adX X q) :: As) (hn : As.length = n) (hst : st = As.reverse ++ .ref (adX X q) :: rest) (hs8 : (rest.map fun v => v.category).sum ≤ 8) (d : decode cc pc = .ok (.invokevirtual idx, 3)) (h : ∀ r τ, J Y X nL (k r τ) (pc + 3) L (.int r :: rest) τ) : J Y X nL (bd E0 k) pc L st σ := by
  intro x hx H locs ls hl hP hS
  obtain ⟨y0, hE, hx⟩ := bd_some hx
  obtain ⟨c1, c2, c3, c4, c5, c6, c7, c8, c9, c10, c11, c12, c13, c14⟩ := C
  obtain ⟨r1, r2, r3, r4⟩ := hR
  rw [← c8] at r3 r4
  have hMet := hM X.1.2.1 X.2.2.1.1 X.2.2.1.2.1 X.2.2.1.2.2 H.size y0 hE
  rw [show av X.2.2.1.2.2 = _ from hav] at hMet
  subst hst
  have hg := wsY_get (Y := Y) (dA := X.2.2.1.2.1) (ad := X.2.2.1.2.2) (σ := σ) hq
  rw [cellY_obj hk] at hg
  refine va_calli (va_runV (g := F0 X.2.1.1 pc ls (As.reverse ++ .ref (adX X q) :: rest)) (As := As) (rest := rest) ⟨c1, c2, c3, c4, c5⟩ hMet (cwV n c5 hw.1 rfl r1 r2 hw.2 ⟨r3, r4⟩) ⟨PreY_blind, va_recv c9 hP hc.1 hg, fun U hU hW => ⟨rfl, PreY_at hP c9 c10 c11 c14 hS hU hW⟩⟩ rfl hn hl.1 rfl (lv_room hs8) d ⟨by rw [c8]; exact c12, by rw [c8]; exact c13⟩) hS (fun q _ h => AY_up hS.1 q h) (AY_up hS.1) (fun r u t H1 locs1 ht hvm hpost hB hz hk1 hS1 => ?_)
  obtain ⟨hP1, -⟩ := hB
  rw [ht] at hP1
  subst hpost
  exact h r u x hx H1 locs1 ls hl hP1 hS1
theorem j_callVn (C : Cx Y X nL cc own rt rm) {y : MethodName} {ccy : ByteArray} {nLy idx : Nat} {rty : Option FieldType} {rmy : Room} {av : (Nat → Nat) → List Value} {E0 : Option Mem} {k : Mem → Option ω} {ci N n : Nat} {Cn : String} {T : u_T} {ty : Nat → FieldType} (hM : CTn Y y ccy nLy rty rmy av σ E0) (hw : CwV own idx Cn y ccy nLy rty n) (hR : rmIn rmy nLy rm) (q : Nat) (hc : KI ci Cn T N ty) (hk : Y.2.1 q = (0, ci, N)) (hq : q < Y.1) (As rest : List Value) (hav : av (adX X) = .ref (adX X q) :: As) (hn : As.length = n) (hst : st = As.reverse ++ .ref (adX X q) :: rest) (hs8 : (rest.map fun v => v.category).sum ≤ 8) (d : decode cc pc = .ok (.invokevirtual idx, 3)) (h : ∀ τ, J Y X nL (k τ) (pc + 3) L rest τ) : J Y X nL (bv E0 k) pc L st σ := by
  intro x hx H locs ls hl hP hS
  obtain ⟨y0, hE, hx⟩ := bv_some hx
  obtain ⟨c1, c2, c3, c4, c5, c6, c7, c8, c9, c10, c11, c12, c13, c14⟩ := C
  obtain ⟨r1, r2, r3, r4⟩ := hR
  rw [← c8] at r3 r4
  have hMet := hM X.1.2.1 X.2.2.1.1 X.2.2.1.2.1 X.2.2.1.2.2 H.size y0 hE
  rw [show av X.2.2.1.2.2 = _ from hav] at hMet
  subst hst
  have hg := wsY_get (Y := Y) (dA := X.2.2.1.2.1) (ad := X.2.2.1.2.2) (σ := σ) hq
  rw [cellY_obj hk] at hg
  refine va_callv (va_runV (g := F0 X.2.1.1 pc ls (As.reverse ++ .ref (adX X q) :: rest)) (As := As) (rest := rest) ⟨c1, c2, c3, c4, c5⟩ hMet (cwV n c5 hw.1 rfl r1 r2 hw.2 ⟨r3, r4⟩) ⟨PreY_blind, va_recv c9 hP hc.1 hg, fun U hU hW => ⟨rfl, PreY_at hP c9 c10 c11 c14 hS hU hW⟩⟩ rfl hn hl.1 rfl (lv_room hs8) d ⟨by rw [c8]; exact c12, by rw [c8]; exact c13⟩) hS (fun q _ h => AY_up hS.1 q h) (AY_up hS.1) (fun u t H1 locs1 ht hvm hpost hB hz hk1 hS1 => ?_)
  obtain ⟨hP1, -⟩ := hB
  rw [ht] at hP1
  subst hpost
  exact h u x hx H1 locs1 ls hl hP1 hS1
theorem j_callSi (C : Cx Y X nL cc own rt rm) {y : MethodName} {ccy : ByteArray} {nLy idx : Nat} {rty : Option FieldType} {rmy : Room} {av : (Nat → Nat) → List Value} {E0 : Option (Int32 × Mem)} {k : Int32 → Mem → Option ω} {n : Nat} (hM : CTi Y y ccy nLy rty rmy av σ E0) (hw : CwS own idx y ccy nLy rty n) (hR : rmIn rmy nLy rm) (As rest : List Value) (hav : av (adX X) = As) (hn : As.length = n) (hst : st = As.reverse ++ rest) (hs8 : (rest.map fun v => v.category).sum ≤ 8) (d : decode cc pc = .ok (.invokestatic idx, 3)) (h : ∀ r τ, J Y X nL (k r τ) (pc + 3) L (.int r :: rest) τ) : J Y X nL (bd E0 k) pc L st σ := by
  intro x hx H locs ls hl hP hS
  obtain ⟨y0, hE, hx⟩ := bd_some hx
  obtain ⟨c1, c2, c3, c4, c5, c6, c7, c8, c9, c10, c11, c12, c13, c14⟩ := C
  obtain ⟨r1, r2, r3, r4⟩ := hR
  rw [← c8] at r3 r4
  have hMet := hM X.1.2.1 X.2.2.1.1 X.2.2.1.2.1 X.2.2.1.2.2 H.size y0 hE
  rw [show av X.2.2.1.2.2 = _ from hav] at hMet
  subst hst
  refine va_calli (va_runS (g := F0 X.2.1.1 pc ls (As.reverse ++ rest)) (As := As) (rest := rest) ⟨c1, c2, c3, c4, c5⟩ hMet (va_cwS n c5 hw.1 rfl r1 r2 hw.2 ⟨r3, r4⟩) ⟨PreY_blind, fun U hU hW => ⟨rfl, PreY_at hP c9 c10 c11 c14 hS hU hW⟩⟩ rfl hn hl.1 rfl (lv_room hs8) d ⟨by rw [c8]; exact c12, by rw [c8]; exact c13⟩) hS (fun q _ h => AY_up hS.1 q h) (AY_up hS.1) (fun r u t H1 locs1 ht hvm hpost hB hz hk1 hS1 => ?_)
  obtain ⟨hP1, -⟩ := hB
  rw [ht] at hP1
  subst hpost
  exact h r u x hx H1 locs1 ls hl hP1 hS1
theorem j_callSn (C : Cx Y X nL cc own rt rm) {y : MethodName} {ccy : ByteArray} {nLy idx : Nat} {rty : Option FieldType} {rmy : Room} {av : (Nat → Nat) → List Value} {E0 : Option Mem} {k : Mem → Option ω} {n : Nat} (hM : CTn Y y ccy nLy rty rmy av σ E0) (hw : CwS own idx y ccy nLy rty n) (hR : rmIn rmy nLy rm) (As rest : List Value) (hav : av (adX X) = As) (hn : As.length = n) (hst : st = As.reverse ++ rest) (hs8 : (rest.map fun v => v.category).sum ≤ 8) (d : decode cc pc = .ok (.invokestatic idx, 3)) (h : ∀ τ, J Y X nL (k τ) (pc + 3) L rest τ) : J Y X nL (bv E0 k) pc L st σ := by
  intro x hx H locs ls hl hP hS
  obtain ⟨y0, hE, hx⟩ := bv_some hx
  obtain ⟨c1, c2, c3, c4, c5, c6, c7, c8, c9, c10, c11, c12, c13, c14⟩ := C
  obtain ⟨r1, r2, r3, r4⟩ := hR
  rw [← c8] at r3 r4
  have hMet := hM X.1.2.1 X.2.2.1.1 X.2.2.1.2.1 X.2.2.1.2.2 H.size y0 hE
  rw [show av X.2.2.1.2.2 = _ from hav] at hMet
  subst hst
  refine va_callv (va_runS (g := F0 X.2.1.1 pc ls (As.reverse ++ rest)) (As := As) (rest := rest) ⟨c1, c2, c3, c4, c5⟩ hMet (va_cwS n c5 hw.1 rfl r1 r2 hw.2 ⟨r3, r4⟩) ⟨PreY_blind, fun U hU hW => ⟨rfl, PreY_at hP c9 c10 c11 c14 hS hU hW⟩⟩ rfl hn hl.1 rfl (lv_room hs8) d ⟨by rw [c8]; exact c12, by rw [c8]; exact c13⟩) hS (fun q _ h => AY_up hS.1 q h) (AY_up hS.1) (fun u t H1 locs1 ht hvm hpost hB hz hk1 hS1 => ?_)
  obtain ⟨hP1, -⟩ := hB
  rw [ht] at hP1
  subst hpost
  exact h u x hx H1 locs1 ls hl hP1 hS1
theorem j_callNi (C : Cx Y X nL cc own rt rm) {y : MethodName} {ccy : ByteArray} {nLy idx : Nat} {rty : Option FieldType} {rmy : Room} {av : (Nat → Nat) → List Value} {E0 : Option (Int32 × Mem)} {k : Int32 → Mem → Option ω} {n : Nat} {host : String} (hM : CTi Y y ccy nLy rty rmy av σ E0) (hw : CwN own idx y host ccy nLy rty n) (hR : rmIn rmy nLy rm) (As rest : List Value) (hav : av (adX X) = As) (hn : As.length = n) (hst : st = As.reverse ++ rest) (hs8 : (rest.map fun v => v.category).sum ≤ 8) (d : decode cc pc = .ok (.invokestatic idx, 3)) (h : ∀ r τ, J Y X nL (k r τ) (pc + 3) L (.int r :: rest) τ) : J Y X nL (bd E0 k) pc L st σ := by
  intro x hx H locs ls hl hP hS
  obtain ⟨y0, hE, hx⟩ := bd_some hx
  obtain ⟨c1, c2, c3, c4, c5, c6, c7, c8, c9, c10, c11, c12, c13, c14⟩ := C
  obtain ⟨r1, r2, r3, r4⟩ := hR
  rw [← c8] at r3 r4
  have hMet := hM X.1.2.1 X.2.2.1.1 X.2.2.1.2.1 X.2.2.1.2.2 H.size y0 hE
  rw [show av X.2.2.1.2.2 = _ from hav] at hMet
  subst hst
  refine va_calli (va_runSN (g := F0 X.2.1.1 pc ls (As.reverse ++ rest)) (As := As) (rest := rest) ⟨c1, c2, c3, c4, c5⟩ hMet ⟨va_cnB n c5 hw.1 rfl r1 r2 (c14.2 _ hw.2.1) (c5 _ hw.2.2.1) hw.2.2.2.2 ⟨r3, r4⟩, c5 _ hw.2.2.2.1, trivial⟩ ⟨PreY_blind, fun U hU hW => ⟨rfl, PreY_at hP c9 c10 c11 c14 hS hU hW⟩⟩ rfl hn hl.1 rfl (lv_room hs8) d ⟨by rw [c8]; exact c12, by rw [c8]; exact c13⟩) hS (fun q _ h => AY_up hS.1 q h) (AY_up hS.1) (fun r u t H1 locs1 ht hvm hpost hB hz hk1 hS1 => ?_)
  obtain ⟨hP1, -⟩ := hB
  rw [ht] at hP1
  subst hpost
  exact h r u x hx H1 locs1 ls hl hP1 hS1
theorem j_mmax (C : Cx Y X nL cc own rt rm) {idx : Nat} {a b : Int32} (hw : Cond.methodLink own idx Lib.Math.max.name ∈ TT ∧ Cond.static Lib.Math.max.name ∈ TT ∧ Cond.initialized "java/lang/Math" ∈ TT ∧ Cond.code Lib.Math.max.name Lib.Math.max.code 2 (some .int) ∈ TT) (hR : 1 ≤ rm.frames ∧ 21 ≤ rm.locals) (hs8 : (st.map fun v => v.category).sum ≤ 8) (d : decode cc pc = .ok (.invokestatic idx, 3)) (h : J Y X nL E (pc + 3) L (.int (if a < b then b else a) :: st) σ) : J Y X nL E pc L (.int b :: .int a :: st) σ := by
  intro x hx H locs ls hl hP hS
  obtain ⟨c1, c2, c3, c4, c5, c6, c7, c8, c9, c10, c11, c12, c13, c14⟩ := C
  rw [← c8] at hR
  exact va_mmax c1 c2 (by rw [c3]; exact hl.1.symm) c4 (c5 _ hw.1) (c5 _ hw.2.1) (c5 _ hw.2.2.1) (c5 _ hw.2.2.2) hR.1 (by omega) (by rw [c8]; exact c12) (by rw [c8]; exact c13) d (h x hx H locs ls hl hP hS)
theorem j_mmin (C : Cx Y X nL cc own rt rm) {idx : Nat} {a b : Int32} (hw : Cond.methodLink own idx Lib.Math.min.name ∈ TT ∧ Cond.static Lib.Math.min.name ∈ TT ∧ Cond.initialized "java/lang/Math" ∈ TT ∧ Cond.code Lib.Math.min.name Lib.Math.min.code 2 (some .int) ∈ TT) (hR : 1 ≤ rm.frames ∧ 21 ≤ rm.locals) (hs8 : (st.map fun v => v.category).sum ≤ 8) (d : decode cc pc = .ok (.invokestatic idx, 3)) (h : J Y X nL E (pc + 3) L (.int (if b < a then b else a) :: st) σ) : J Y X nL E pc L (.int b :: .int a :: st) σ := by
  intro x hx H locs ls hl hP hS
  obtain ⟨c1, c2, c3, c4, c5, c6, c7, c8, c9, c10, c11, c12, c13, c14⟩ := C
  rw [← c8] at hR
  exact va_mmin c1 c2 (by rw [c3]; exact hl.1.symm) c4 (c5 _ hw.1) (c5 _ hw.2.1) (c5 _ hw.2.2.1) (c5 _ hw.2.2.2) hR.1 (by omega) (by rw [c8]; exact c12) (by rw [c8]; exact c13) d (h x hx H locs ls hl hP hS)
theorem j_mabs (C : Cx Y X nL cc own rt rm) {idx : Nat} {a : Int32} (hw : Cond.methodLink own idx Lib.Math.abs.name ∈ TT ∧ Cond.static Lib.Math.abs.name ∈ TT ∧ Cond.initialized "java/lang/Math" ∈ TT ∧ Cond.code Lib.Math.abs.name Lib.Math.abs.code 1 (some .int) ∈ TT) (hR : 1 ≤ rm.frames ∧ 21 ≤ rm.locals) (hs8 : (st.map fun v => v.category).sum ≤ 8) (d : decode cc pc = .ok (.invokestatic idx, 3)) (h : J Y X nL E (pc + 3) L (.int (if 0 ≤ a then a else 0 - a) :: st) σ) : J Y X nL E pc L (.int a :: st) σ := by
  intro x hx H locs ls hl hP hS
  obtain ⟨c1, c2, c3, c4, c5, c6, c7, c8, c9, c10, c11, c12, c13, c14⟩ := C
  rw [← c8] at hR
  exact va_mabs c1 c2 (by rw [c3]; exact hl.1.symm) c4 (c5 _ hw.1) (c5 _ hw.2.1) (c5 _ hw.2.2.1) (c5 _ hw.2.2.2) hR.1 (by omega) (by rw [c8]; exact c12) (by rw [c8]; exact c13) d (h x hx H locs ls hl hP hS)
abbrev cpOK (sp dp n : Int32) (n0 n1 : Nat) : Prop := ¬ sp < 0 ∧ ¬ dp < 0 ∧ ¬ n < 0 ∧ sp.toNatClampNeg + n.toNatClampNeg ≤ n0 ∧ dp.toNatClampNeg + n.toNatClampNeg ≤ n1
theorem j_copy (C : Cx Y X nL cc own rt rm) {idx q0 q1 n0 n1 o0 o1 : Nat} {sp dp n : Int32} {k : Mem → Option ω} (hw : Cond.methodLink own idx arraycopyName ∈ TT ∧ Cond.native arraycopyName ∈ TT ∧ Cond.static arraycopyName ∈ TT ∧ Cond.initialized "java/lang/System" ∈ TT) (hR : 1 ≤ rm.frames ∧ 8 + (nativeFrameWords "java/lang/System" "arraycopy" 5 + 11) ≤ rm.locals) (hk0 : Y.2.1 q0 = (1, n0, o0)) (hq0 : q0 < Y.1) (hk1 : Y.2.1 q1 = (1, n1, o1)) (hq1 : q1 < Y.1) (hs8 : (st.map fun v => v.category).sum ≤ 8) (d : decode cc pc = .ok (.invokestatic idx, 3)) (h : ∀ τ, J Y X nL (k τ) (pc + 3) L st τ) :
    J Y X nL (ck (cpOK sp dp n n0 n1) (lt (rwM σ q1 (va_cpy (σ q0) (σ q1) sp.toNatClampNeg dp.toNatClampNeg n.toNatClampNeg)) k)) pc L (.int n :: .int dp :: .ref (adX X q1) :: .int sp :: .ref (adX X q0) :: st) σ := by
  intro x hx H locs ls hl hP hS
  obtain ⟨⟨h1, h2, h3, h4, h5⟩, hx⟩ := ck_pos hx
  obtain ⟨c1, c2, c3, c4, c5, c6, c7, c8, c9, c10, c11, c12, c13, c14⟩ := C
  rw [← c8] at hR
  have hg0 := wsY_get (Y := Y) (dA := X.2.2.1.2.1) (ad := X.2.2.1.2.2) (σ := σ) hq0
  have hg1 := wsY_get (Y := Y) (dA := X.2.2.1.2.1) (ad := X.2.2.1.2.2) (σ := σ) hq1
  rw [cellY_int hk0] at hg0
  rw [cellY_int hk1] at hg1
  refine va_copyi c1 c2 (by rw [c3]; exact hl.1.symm) c4 (c5 _ hw.1) (c5 _ hw.2.1) (c5 _ hw.2.2.1) (c5 _ hw.2.2.2) c9 hP (c10.D σ _) hS q0 q1 0 0 hg0 hg1 rfl rfl rfl h1 h2 h3 h4 h5 (fun _ _ => rfl) hR.1 (by omega) d (fun H1 locs1 hP1 _ hS1 => ?_)
  rw [wsY_row hq1 hk1] at hP1
  exact h _ x hx H1 locs1 ls hl hP1 hS1
end JC
section JE
variable {Y : Lay} {nL : Nat} {cc : ByteArray} {own : String} {rt : Option FieldType} {rm : Room} {pc : Nat} {L : List (Nat × Value)} {σ : Mem}
theorem j_iret {X : CtxT (Int32 × Mem)} (C : Cx Y X nL cc own (some .int) rm) (CR : CRi Y X) {v : Int32} (d : decode cc pc = .ok (.ireturn, 1)) : J Y X nL (some (v, σ)) pc L [.int v] σ := by
  intro x hx H locs ls hl hP hS
  obtain ⟨c1, c2, c3, c4, c5, c6, c7, c8, c9, c10, c11, c12, c13, c14⟩ := C
  cases hx
  rw [show X.2.2.2.1 = _ from CR]
  exact W.iret (v := v) c1 c2 c6 (fun t ht hW => ⟨⟨v, σ, rfl, rfl, by rw [ht]; exact hP, va_K.moved hW.alike c9⟩, hS.F ht⟩) hS.2.2 d c7
theorem j_zret {X : CtxT (Int32 × Mem)} (C : Cx Y X nL cc own (some .boolean) rm) (CR : CRi Y X) {v : Int32} (d : decode cc pc = .ok (.ireturn, 1)) : J Y X nL (ck (okZ v) (some (v, σ))) pc L [.int v] σ := by
  intro x hx H locs ls hl hP hS
  obtain ⟨hz, hx⟩ := ck_pos hx
  obtain ⟨c1, c2, c3, c4, c5, c6, c7, c8, c9, c10, c11, c12, c13, c14⟩ := C
  cases hx
  rw [show X.2.2.2.1 = _ from CR]
  exact W.zret (v := v) c1 c2 c6 (by rcases hz with rfl | rfl <;> rfl) (fun t ht hW => ⟨⟨v, σ, rfl, rfl, by rw [ht]; exact hP, va_K.moved hW.alike c9⟩, hS.F ht⟩) hS.2.2 d c7
theorem j_vret {X : CtxT Mem} (C : Cx Y X nL cc own none rm) (CR : CRn Y X) (d : decode cc pc = .ok (.return_, 1)) : J Y X nL (some σ) pc L [] σ := by
  intro x hx H locs ls hl hP hS
  obtain ⟨c1, c2, c3, c4, c5, c6, c7, c8, c9, c10, c11, c12, c13, c14⟩ := C
  cases hx
  rw [show X.2.2.2.1 = _ from CR]
  exact W.vret c1 c2 c6 (fun t ht hW => ⟨⟨σ, rfl, rfl, by rw [ht]; exact hP, va_K.moved hW.alike c9⟩, hS.F ht⟩) hS.2.2 d c7
theorem CTi_of {y : MethodName} {av : (Nat → Nat) → List Value} {E : Option (Int32 × Mem)} (hy : plainName y.cls = true) (hsl : ∀ ad, (lg_sl (av ad)).length ≤ nL) (h : ∀ X : CtxT (Int32 × Mem), Cx Y X nL cc y.cls rt rm → CRi Y X → J Y X nL E 0 (lv_args 0 (av (adX X))) [] σ) : CTi Y y cc nL rt rm av σ E := by
  intro l D dA ad sz x hE
  refine Met.ofW (cc := cc) (maxL := nL) (ret := rt) hy rfl ?_
  intro p e s m args below meth c s₁ B hml hv
  obtain ⟨rfl, hsz, hP, hK, hD, hst, hnw⟩ := hv
  subst hsz
  have hts := atoms_spec (ws := wT y cc nL rt) B.pre
  have hl := lv_entry (av ad) (n := nL) (hsl ad)
  rw [lg_entry_eq]
  exact h ((p, l, e, (headSpec (wT y cc nL rt) rm).room, s), (m, (av ad).toArray, below, meth, c), (D, dA, ad), fun x => MQ below (va_Qi (fun r u => (r, u) = x) (PostY Y D dA ad) (AY Y ad s.heap.size)) (av ad).toArray s 0 0 (AY Y ad s.heap.size), (0, 0)) ⟨B.exec, B.bytes, hml, findClass_of_methodNamed B.named, fun w hw => hts w (List.mem_cons_of_mem _ hw), B.returns, B.notSynchronized, rfl, hK, hD, hst, Nat.zero_le _, Nat.zero_le _, hnw⟩ rfl x hE s.heap [] _ hl hP va_S.rf
theorem CTn_of {y : MethodName} {av : (Nat → Nat) → List Value} {E : Option Mem} (hy : plainName y.cls = true) (hsl : ∀ ad, (lg_sl (av ad)).length ≤ nL) (h : ∀ X : CtxT Mem, Cx Y X nL cc y.cls rt rm → CRn Y X → J Y X nL E 0 (lv_args 0 (av (adX X))) [] σ) : CTn Y y cc nL rt rm av σ E := by
  intro l D dA ad sz x hE
  refine Met.ofW (cc := cc) (maxL := nL) (ret := rt) hy rfl ?_
  intro p e s m args below meth c s₁ B hml hv
  obtain ⟨rfl, hsz, hP, hK, hD, hst, hnw⟩ := hv
  subst hsz
  have hts := atoms_spec (ws := wT y cc nL rt) B.pre
  have hl := lv_entry (av ad) (n := nL) (hsl ad)
  rw [lg_entry_eq]
  exact h ((p, l, e, (headSpec (wT y cc nL rt) rm).room, s), (m, (av ad).toArray, below, meth, c), (D, dA, ad), fun x => MQ below (va_Qv (fun u => u = x) (PostY Y D dA ad) (AY Y ad s.heap.size)) (av ad).toArray s 0 0 (AY Y ad s.heap.size), (0, 0)) ⟨B.exec, B.bytes, hml, findClass_of_methodNamed B.named, fun w hw => hts w (List.mem_cons_of_mem _ hw), B.returns, B.notSynchronized, rfl, hK, hD, hst, Nat.zero_le _, Nat.zero_le _, hnw⟩ rfl x hE s.heap [] _ hl hP va_S.rf
end JE
