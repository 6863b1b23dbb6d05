/-! ===== constructors: cells that come one behind another ===== -/
def Sq (D : va_G) (b : Nat) (ws : List va_E) (H : Heap) : Prop := H.size = b + ws.length ∧ ∀ (k : Nat) (e : va_E), ws[k]? = some e → va_at D vwCl (b + k, e) H
theorem Sq.set {D : va_G} {b k : Nat} {ws : List va_E} {e : va_E} {H H1 : Heap} (h : Sq D b ws H) (hk : k < ws.length) (he : va_at D vwCl (b + k, e) H1) (z : H1.size = H.size) (oq : ∀ q : Nat, q ≠ b + k → H1[q]? = H[q]?) : Sq D b (ws.set k e) H1 := by
  refine ⟨by rw [z, h.1, List.length_set], fun j x hx => ?_⟩
  by_cases c : j = k
  · subst c
    rw [List.getElem?_set_self hk] at hx
    cases hx
    exact he
  · rw [List.getElem?_set_ne (Ne.symm c)] at hx
    exact (h.2 j x hx).kept (oq (b + j) (by omega))
theorem Sq.push {D : va_G} {b : Nat} {ws : List va_E} {e : va_E} {H H1 : Heap} (h : Sq D b ws H) (he : va_at D vwCl (H.size, e) H1) (z : H1.size = H.size + 1) (oq : ∀ q : Nat, q < H.size → H1[q]? = H[q]?) : Sq D b (ws ++ [e]) H1 := by
  have hz := h.1
  refine ⟨by rw [List.length_append, z, hz]; rfl, fun j x hx => ?_⟩
  by_cases c : j < ws.length
  · rw [List.getElem?_append_left c] at hx
    exact (h.2 j x hx).kept (oq (b + j) (by omega))
  · rw [List.getElem?_append_right (by omega)] at hx
    have hz1 : j - ws.length < 1 := (List.getElem?_eq_some_iff.mp hx).1
    rw [show j - ws.length = 0 by omega] at hx
    cases hx
    rw [show b + j = H.size by omega]
    exact he
theorem Sq.join {D : va_G} {b : Nat} {ws w1 : List va_E} {d : va_E} {H H1 : Heap} (h : Sq D b (ws ++ [d]) H) (h1 : Sq D (b + ws.length) w1 H1) (oq : ∀ q : Nat, q < H.size → ¬ (b + ws.length ≤ q) → H1[q]? = H[q]?) : Sq D b (ws ++ w1) H1 := by
  have hz : H.size = b + ws.length + 1 := by rw [h.1, List.length_append]; rfl
  refine ⟨by rw [List.length_append, h1.1, Nat.add_assoc], fun j x hx => ?_⟩
  by_cases c : j < ws.length
  · rw [List.getElem?_append_left c] at hx
    exact (h.2 j x (by rw [List.getElem?_append_left c]; exact hx)).kept (oq (b + j) (by omega) (by omega))
  · rw [List.getElem?_append_right (by omega)] at hx
    have := h1.2 _ x hx
    rw [show b + ws.length + (j - ws.length) = b + j by omega] at this
    exact this
theorem Sq.last {D : va_G} {b : Nat} {ws : List va_E} {d : va_E} {H : Heap} (h : Sq D b (ws ++ [d]) H) : Sq D (b + ws.length) [d] H := by
  refine ⟨by rw [h.1, List.length_append, Nat.add_assoc], fun j x hx => ?_⟩
  have hz1 : j < 1 := (List.getElem?_eq_some_iff.mp hx).1
  rw [show j = 0 by omega] at hx ⊢
  cases hx
  have := h.2 ws.length d (by rw [List.getElem?_append_right (Nat.le_refl _), Nat.sub_self]; rfl)
  exact this
/-- the arrays over own classes can be made -/
def AoOK (U : State) : Prop := va_AO "StageHouse$Slot" U ∧ va_AO "StageHouse$Actor" U
theorem AoOK.moved {u U : State} (hvm : u.vm.Alike U.vm) (h : AoOK u) : AoOK U := ⟨h.1.moved hvm, h.2.moved hvm⟩
def KPre (D : va_G) (dA : Nat → ClassId) (b : Nat) (d : va_E) (U : State) : Prop := Sq D b [d] U.heap ∧ va_K D vwCl (tysY dA) U ∧ NwOK U ∧ AoOK U
theorem KPre_blind {D : va_G} {dA : Nat → ClassId} {b : Nat} {d : va_E} {av : List Value} : FrameBlind (va_Pc av (KPre D dA b d)) := fun a U g mk q => ⟨q.1, q.2.1, va_K.moved (u := U) (U := U.calling g mk a) (Vm.Alike.refl U.vm) q.2.2.1, q.2.2.2.1.same rfl, q.2.2.2.2.moved (U := U.calling g mk a) (Vm.Alike.refl U.vm)⟩
/-- a constructor's contract: of the cell d at b it makes the cells w1 from b on -/
def CK (y : MethodName) (cc : ByteArray) (nL : Nat) (rm : Room) (As : List Value) (d : va_E) (w1 : (Nat → ClassId) → Nat → List va_E) : Prop :=
  ∀ (l : Launch) (D : va_G) (dA : Nat → ClassId) (b : Nat), Met l y (wT y cc nL none) rm (va_Pc (.ref b :: As) (KPre D dA b d)) (va_Qv (fun _ : Unit => True) (fun _ t => Sq D b (w1 dA b) t.heap) (fun q => b ≤ q)) rm.cells rm.slots (fun q => b ≤ q)
abbrev KtT : Type := (Program × Launch × Env × Room × State) × (MethodId × Array Value × List Frame × Method × Code) × (va_G × (Nat → ClassId) × Nat) × (State → Prop)
def kA (X : KtT) : Nat := X.2.2.1.2.2
def kD (X : KtT) : Nat → ClassId := X.2.2.1.2.1
def KJ (X : KtT) (nL pc : Nat) (L : List (Nat × Value)) (st : List Value) (ws : List va_E) (nc ns : Nat) : Prop :=
  ∀ (H : Heap) (locs : List Loc) (ls : Array Slot), lv_has ls nL L → Sq X.2.2.1.1 (kA X) ws H → va_S (fun q => kA X ≤ q) X.1.2.2.2.2.heap H locs →
    W X.1.1 X.1.2.1 X.1.2.2.1 X.1.2.2.2.1 X.1.2.2.2.2 X.2.1.1 X.2.1.2.1 X.2.1.2.2.1 X.2.1.2.2.2.1 X.2.1.2.2.2.2 H locs nc ns X.2.2.2 (F0 X.2.1.1 pc ls st)
def KC (X : KtT) (nL : Nat) (cc : ByteArray) (own : String) (rm : Room) : Prop :=
  X.1.1.tables.exec = Jvm.exec ∧ X.2.1.2.2.2.2.code = cc ∧ X.2.1.2.2.2.2.maxLocals = nL ∧ X.1.2.2.2.2.vm.findClass own = some X.2.1.1.cls ∧ (∀ w ∈ TT, w.before X.2.1.2.1 X.1.2.2.2.2 = true) ∧ X.1.2.2.2.1 = rm ∧ va_K X.2.2.1.1 vwCl (tysY (kD X)) X.1.2.2.2.2 ∧ NwOK X.1.2.2.2.2 ∧ AoOK X.1.2.2.2.2 ∧ kA X ≤ X.1.2.2.2.2.heap.size
/-- it is a constructor, and what it comes to -/
def KI0 (X : KtT) (rm : Room) (w1 : (Nat → ClassId) → Nat → List va_E) : Prop := X.2.1.2.2.2.1.name = "<init>" ∧ X.2.1.2.2.2.1.sig.returnType = none ∧ X.2.1.2.2.2.1.locks = false ∧ X.2.2.2 = MQ X.2.1.2.2.1 (va_Qv (fun _ : Unit => True) (fun _ t => Sq X.2.2.1.1 (kA X) (w1 (kD X) (kA X)) t.heap) (fun q => kA X ≤ q)) X.2.1.2.1 X.1.2.2.2.2 rm.cells rm.slots (fun q => kA X ≤ q)
section KR
variable {X : KtT} {nL : Nat} {cc : ByteArray} {own : String} {rm : Room} {pc : Nat} {L L' : List (Nat × Value)} {st : List Value} {ws ws' : List va_E} {nc ns : Nat}
theorem k_iconst (C : KC X nL cc own rm) {n : Int} {v : Int32} (d : decode cc pc = .ok (.iconst n, 1)) (hv : Int32.ofInt n = v) (h : KJ X nL (pc + 1) L (.int v :: st) ws nc ns) : KJ X nL pc L st ws nc ns := fun H locs ls hl hP hS => lv_iconst C.1 C.2.1 d hv (h H locs ls hl hP hS)
theorem k_bipush (C : KC X nL cc own rm) {n : Int} {v : Int32} (d : decode cc pc = .ok (.bipush n, 2)) (hv : (Int8.ofInt n).toInt32 = v) (h : KJ X nL (pc + 2) L (.int v :: st) ws nc ns) : KJ X nL pc L st ws nc ns := fun H locs ls hl hP hS => lv_bipush C.1 C.2.1 d hv (h H locs ls hl hP hS)
theorem k_sipush (C : KC X nL cc own rm) {n : Int} {v : Int32} (d : decode cc pc = .ok (.sipush n, 3)) (hv : (Int16.ofInt n).toInt32 = v) (h : KJ X nL (pc + 3) L (.int v :: st) ws nc ns) : KJ X nL pc L st ws nc ns := fun H locs ls hl hP hS => lv_sipush C.1 C.2.1 d hv (h H locs ls hl hP hS)
theorem k_iload_n (C : KC X nL cc own rm) {kf : Fin 4} {i : Nat} {v : Int32} (d : decode cc pc = .ok (.iload_n kf, 1)) (k : Nat) (hi : (kf : Nat) = i) (hk : L[k]? = some (i, .int v)) (h : KJ X nL (pc + 1) L (.int v :: st) ws nc ns) : KJ X nL pc L st ws nc ns := fun H locs ls hl hP hS => lv_iload_n C.1 C.2.1 d hi (lv_at hl k hk) (h H locs ls hl hP hS)
theorem k_aload_n (C : KC X nL cc own rm) {kf : Fin 4} {i : Nat} {v : Nat} (d : decode cc pc = .ok (.aload_n kf, 1)) (k : Nat) (hi : (kf : Nat) = i) (hk : L[k]? = some (i, .ref v)) (h : KJ X nL (pc + 1) L (.ref v :: st) ws nc ns) : KJ X nL pc L st ws nc ns := fun H locs ls hl hP hS => lv_aload_n C.1 C.2.1 d hi (lv_at hl k hk) (h H locs ls hl hP hS)
theorem k_aload (C : KC X nL cc own rm) {i : Nat} {v : Nat} (d : decode cc pc = .ok (.aload i, 2)) (k : Nat) (hk : L[k]? = some (i, .ref v)) (h : KJ X nL (pc + 2) L (.ref v :: st) ws nc ns) : KJ X nL pc L st ws nc ns := fun H locs ls hl hP hS => lv_aload C.1 C.2.1 d (lv_at hl k hk) (h H locs ls hl hP hS)
theorem k_iadd (C : KC X nL cc own rm) {a b : Int32} (d : decode cc pc = .ok (.iadd, 1)) (h : KJ X nL (pc + 1) L (.int (a + b) :: st) ws nc ns) : KJ X nL pc L (.int b :: .int a :: st) ws nc ns := fun H locs ls hl hP hS => lv_iadd C.1 C.2.1 d (h H locs ls hl hP hS)
theorem k_dup (C : KC X nL cc own rm) {v : Value} (d : decode cc pc = .ok (.dup, 1)) (hv : v.category = 1) (h : KJ X nL (pc + 1) L (v :: v :: st) ws nc ns) : KJ X nL pc L (v :: st) ws nc ns := fun H locs ls hl hP hS => lv_dup C.1 C.2.1 d hv (h H locs ls hl hP hS)
theorem k_goto (C : KC X nL cc own rm) {off : Int} {tgt : Nat} (d : decode cc pc = .ok (.goto off, 3)) (ht : (pc : Int) + off = (tgt : Int)) (h : KJ X nL tgt L st ws nc ns) : KJ X nL pc L st ws nc ns := fun H locs ls hl hP hS => lv_goto C.1 C.2.1 d ht (h H locs ls hl hP hS)
theorem k_istore_n (C : KC X nL cc own rm) {kf : Fin 4} {i : Nat} {v : Int32} (d : decode cc pc = .ok (.istore_n kf, 1)) (hi : (kf : Nat) = i) (hn : i < nL) (ks : List Nat) (hL : lv_pick ((i, Value.int v) :: L.filter (fun q => !(q.1 == i) && !(q.1 + 1 == i && q.2.category == 2))) ks = L') (h : KJ X nL (pc + 1) L' st ws nc ns) : KJ X nL pc L (.int v :: st) ws nc ns := fun H locs _ hl hP hS => lv_istore_n C.1 C.2.1 d hi hl hn rfl (fun ls' hl' => h H locs ls' (lv_sub hl' ks hL) hP hS)
theorem k_astore_n (C : KC X nL cc own rm) {kf : Fin 4} {i : Nat} {v : Nat} (d : decode cc pc = .ok (.astore_n kf, 1)) (hi : (kf : Nat) = i) (hn : i < nL) (ks : List Nat) (hL : lv_pick ((i, Value.ref v) :: L.filter (fun q => !(q.1 == i) && !(q.1 + 1 == i && q.2.category == 2))) ks = L') (h : KJ X nL (pc + 1) L' st ws nc ns) : KJ X nL pc L (.ref v :: st) ws nc ns := fun H locs _ hl hP hS => lv_astore_n C.1 C.2.1 d hi hl hn rfl (fun ls' hl' => h H locs ls' (lv_sub hl' ks hL) hP hS)
theorem k_iinc (C : KC X nL cc own rm) {i : Nat} {n : Int} {v v' : Int32} (d : decode cc pc = .ok (.iinc i n, 3)) (q : Nat) (hq : L[q]? = some (i, .int v)) (hn : i < nL) (hv : v + Int32.ofInt n = v') (ks : List Nat) (hL : lv_pick ((i, Value.int v') :: L.filter (fun q => !(q.1 == i) && !(q.1 + 1 == i && q.2.category == 2))) ks = L') (h : KJ X nL (pc + 3) L' st ws nc ns) : KJ X nL pc L st ws nc ns := by
  subst hv
  exact fun H locs _ hl hP hS => lv_iinc C.1 C.2.1 d hl hq rfl hn rfl (fun ls' hl' => h H locs ls' (lv_sub hl' ks hL) hP hS)
theorem k_icmp_ge (C : KC X nL cc own rm) {a b : Int32} {off : Int} {tgt : Nat} (d : decode cc pc = .ok (.if_icmp .ge off, 3)) (ht : (pc : Int) + off = (tgt : Int)) (h1 : b ≤ a → KJ X nL tgt L st ws nc ns) (h2 : ¬ b ≤ a → KJ X nL (pc + 3) L st ws nc ns) : KJ X nL pc L (.int b :: .int a :: st) ws nc ns := fun H locs ls hl hP hS => lv_icmp_ge C.1 C.2.1 d ht (fun hc => h1 hc H locs ls hl hP hS) (fun hc => h2 hc H locs ls hl hP hS)
theorem k_icmp_gt (C : KC X nL cc own rm) {a b : Int32} {off : Int} {tgt : Nat} (d : decode cc pc = .ok (.if_icmp .gt off, 3)) (ht : (pc : Int) + off = (tgt : Int)) (h1 : b < a → KJ X nL tgt L st ws nc ns) (h2 : ¬ b < a → KJ X nL (pc + 3) L st ws nc ns) : KJ X nL pc L (.int b :: .int a :: st) ws nc ns := fun H locs ls hl hP hS => lv_icmp_gt C.1 C.2.1 d ht (fun hc => h1 hc H locs ls hl hP hS) (fun hc => h2 hc H locs ls hl hP hS)
theorem k_objInit (C : KC X nL cc own rm) {idx a : Nat} (w1 : Cond.methodLink own idx Lib.objectInit ∈ TT) (w2 : Cond.instanceMethod Lib.objectInit ∈ TT) (w3 : Cond.code Lib.objectInit ⟨#[0xb1]⟩ 1 none ∈ TT) (hR : 1 ≤ rm.frames ∧ (st.map fun v => v.category).sum + 12 ≤ rm.locals) (d : decode cc pc = .ok (.invokespecial idx, 3)) (h : KJ X nL (pc + 3) L st ws nc ns) : KJ X nL pc L (.ref a :: st) ws nc ns := by
  intro H locs ls hl hP hS
  obtain ⟨c1, c2, c3, c4, c5, c6, -⟩ := C
  rw [← c6] at hR
  exact W.objInit c1 c2 c4 (c5 _ w1) (c5 _ w2) (c5 _ w3) rfl (by rw [c3]; exact hl.1) rfl d hR.1 (by show 2 * 0 + _ + 12 ≤ _; rw [Nat.mul_zero, Nat.zero_add]; exact hR.2) (h H locs ls hl hP hS)
theorem k_putF (C : KC X nL cc own rm) (hin : X.2.1.2.2.2.1.name = "<init>") {ci N idx : Nat} {Cn : String} {T : u_T} {ty : Nat → FieldType} (hc : KI ci Cn T N ty) {a : Nat} (k0 : Nat) (ha : kA X + k0 = a) {fs : List Value} (he : ws[k0]? = some (.inr (ci, fs))) (j : Nat) (hj : j < N) (hl9 : Cond.fieldLink own idx (T j).1 (T j).2.1 (T j).2.2.1 ∈ TT) (hfin : (T j).2.2.2 = true) (hdecl : (T j).1 = own) {v : Value} (hn : narrow (ty j) v = v) (hfit : fits (ty j) v = true) (hl : j < fs.length) (hws : ws.set k0 (.inr (ci, fs.set j v)) = ws') (d : decode cc pc = .ok (.putfield idx, 3)) (h : KJ X nL (pc + 3) L st ws' nc ns) : KJ X nL pc L (v :: .ref a :: st) ws nc ns := by
  intro H locs ls hls hP hS
  subst ha
  subst hws
  obtain ⟨c1, c2, c3, c4, c5, c6, c7, c8, c9, c10⟩ := C
  obtain ⟨k1, k2, k3, k4⟩ := hc
  have hap := va_apart (own := own) c5 k2 ty k3 k4 c7 k1
  obtain ⟨r, h1, cell, q1, q2, q3, q4⟩ := hP.2 k0 _ he
  have hr : r = (Cn, T, N) := Option.some.inj (h1.symm.trans k1)
  subst hr
  obtain ⟨hSl, hfc, kC, hkC, hkind⟩ := c7.1 ci _ k1
  obtain ⟨cf, kf, fi, f, hi, hsl⟩ := hSl j hj
  have hlay := c5 _ (k2 _ (u_in_lay hj))
  unfold u_lay at hlay
  rw [if_pos hfin] at hlay
  have hst := (u_facts hfc hkC (u_lays c5 k2 hj) hi).1
  have hcf : X.2.1.1.cls = cf := by
    obtain ⟨_, _, c', _, _, _, -, -, hf', -, -, -, hown2, -⟩ := Cond.laysFinal_spec hlay
    have e1 : c' = cf := by have := hi.symm.trans hf'; simp at this; exact this.1.symm
    rw [hdecl] at hown2
    rw [← e1]; exact Option.some.inj (c4.symm.trans hown2)
  have h6 := u_fits hfc hkC hkind (Or.inr hlay) hi (k3 j hj) hn hfit
  refine W.putFinK c1 c2 c4 (c5 _ hl9) hi hst hcf hin (by rw [q2]; exact h6) q1 q3 (by rw [hsl]; exact k2_hasslot (q4 j hj)) rfl rfl d fun H' e1 e2 e3 => ?_
  rw [hsl] at e1 ⊢
  exact h H' _ ls hls (hP.set (List.getElem?_eq_some_iff.mp he).1 ⟨_, k1, t_OB.to (V := updV (vp_V fs) j v) ⟨_, e1, q2, q3, t_set q4 hap hj v⟩ (fun j _ => vp_updV_set hl v j)⟩ e2 e3) (hS.put e2 e3 (Nat.le_add_right _ _))
theorem k_put (C : KC X nL cc own rm) {ci N idx : Nat} {Cn : String} {T : u_T} {ty : Nat → FieldType} (hc : KI ci Cn T N ty) {a : Nat} (k0 : Nat) (ha : kA X + k0 = a) {fs : List Value} (he : ws[k0]? = some (.inr (ci, fs))) (j : Nat) (hj : j < N) (hl9 : Cond.fieldLink own idx (T j).1 (T j).2.1 (T j).2.2.1 ∈ TT) (hfin : (T j).2.2.2 = false) {v : Value} (hn : narrow (ty j) v = v) (hfit : fits (ty j) v = true) (hl : j < fs.length) (hws : ws.set k0 (.inr (ci, fs.set j v)) = ws') (d : decode cc pc = .ok (.putfield idx, 3)) (h : KJ X nL (pc + 3) L st ws' nc ns) : KJ X nL pc L (v :: .ref a :: st) ws nc ns := by
  intro H locs ls hls hP hS
  subst ha
  subst hws
  obtain ⟨c1, c2, c3, c4, c5, c6, c7, c8, c9, c10⟩ := C
  obtain ⟨k1, k2, k3, k4⟩ := hc
  have hap := va_apart (own := own) c5 k2 ty k3 k4 c7 k1
  obtain ⟨r, h1, cell, q1, q2, q3, q4⟩ := hP.2 k0 _ he
  have hr : r = (Cn, T, N) := Option.some.inj (h1.symm.trans k1)
  subst hr
  obtain ⟨hSl, hfc, kC, hkC, hkind⟩ := c7.1 ci _ k1
  obtain ⟨cf, kf, fi, f, hi, hsl⟩ := hSl j hj
  have hlay := c5 _ (k2 _ (u_in_lay hj))
  unfold u_lay at hlay
  rw [if_neg (by rw [hfin]; decide)] at hlay
  have hst := (u_facts hfc hkC (u_lays c5 k2 hj) hi).1
  have h6 := u_store hfc hkC hkind hlay hi (k3 j hj) hn hfit
  refine W.putK c1 c2 (f := f) ⟨c4, c5 _ hl9, ⟨_, _, _, hi⟩, hst⟩ (by rw [q2]; exact h6) q1 q3 (by rw [hsl]; exact k2_hasslot (q4 j hj)) rfl rfl d fun H' e1 e2 e3 => ?_
  rw [hsl] at e1 ⊢
  exact h H' _ ls hls (hP.set (List.getElem?_eq_some_iff.mp he).1 ⟨_, k1, t_OB.to (V := updV (vp_V fs) j v) ⟨_, e1, q2, q3, t_set q4 hap hj v⟩ (fun j _ => vp_updV_set hl v j)⟩ e2 e3) (hS.put e2 e3 (Nat.le_add_right _ _))
theorem k_get (C : KC X nL cc own rm) {ci N idx : Nat} {Cn : String} {T : u_T} {ty : Nat → FieldType} (hc : KI ci Cn T N ty) {a : Nat} (k0 : Nat) (ha : kA X + k0 = a) {fs : List Value} (he : ws[k0]? = some (.inr (ci, fs))) (j : Nat) (hj : j < N) (hl9 : Cond.fieldLink own idx (T j).1 (T j).2.1 (T j).2.2.1 ∈ TT) {v : Value} (hv : fs[j]? = some v) (d : decode cc pc = .ok (.getfield idx, 3)) (h : KJ X nL (pc + 3) L (v :: st) ws nc ns) : KJ X nL pc L (.ref a :: st) ws nc ns := by
  intro H locs ls hls hP hS
  subst ha
  obtain ⟨c1, c2, c3, c4, c5, c6, c7, c8, c9, c10⟩ := C
  obtain ⟨k1, k2, k3, k4⟩ := hc
  have hP1 : va_P X.2.2.1.1 vwCl [(kA X + k0, .inr (ci, fs))] H := fun k q hq => by
    have hz : k < 1 := (List.getElem?_eq_some_iff.mp hq).1
    rw [show k = 0 by omega] at hq
    cases hq
    exact hP.2 k0 _ he
  exact va_get (ci := ci) (C := Cn) (T := T) (N := N) c1 c2 c5 k2 c4 c7 hP1 0 rfl k1 j hj (c5 _ hl9) (fun _ h9 => h9) hv d (h H locs ls hls hP hS)
theorem k_newa (C : KC X nL cc own rm) {atype : ArrayType} {ty : FieldType} (t0 : Nat) (hp : (ty = .int ∧ t0 = 0) ∨ (ty = .boolean ∧ t0 = 1)) (hty : newarray.typeOf atype = ty) (hw : Cond.arrayClass ty ∈ TT) {n : Int32} {a : Nat} (N : Nat) (hn : ¬ n < 0) (hN : n.toNatClampNeg = N) (hby : N * componentBytes ty ≤ 536870912) (hcc : nc + 1 ≤ rm.cells) (hsl : ns + N ≤ rm.slots) (ha : kA X + ws.length = a) (hws : ws ++ [.inl (kD X t0, N, .inl (fun _ => 0))] = ws') (d : decode cc pc = .ok (.newarray atype, 2)) (h : KJ X nL (pc + 2) L (.ref a :: st) ws' (nc + 1) (ns + N)) : KJ X nL pc L (.int n :: st) ws nc ns := by
  intro H locs ls hls hP hS
  subst hws
  subst hty
  obtain ⟨c1, c2, c3, c4, c5, c6, c7, c8, c9, c10⟩ := C
  rw [← c6] at hcc hsl
  refine va_newaK c1 c2 (c5 _ hw) rfl d rfl hn hN hby hcc hsl (hP.1.trans ha) fun H1 cA e1 z1 o1 hAr hNm => ?_
  have hz : H.size = a := hP.1.trans ha
  have hcA : cA = kD X t0 ∧ (fun _ => defaultValue (newarray.typeOf atype) : Nat → Value) = fun _ => .int 0 := by
    rcases hp with ⟨e, rfl⟩ | ⟨e, rfl⟩
    · rw [e] at hNm ⊢
      have h2 : X.1.2.2.2.2.vm.findClass ("[" ++ FieldType.int.toString) = some (kD X 0) := (c7.2 0 (kD X 0, .int) rfl).2
      exact ⟨Option.some.inj (hNm.symm.trans h2), rfl⟩
    · rw [e] at hNm ⊢
      have h2 : X.1.2.2.2.2.vm.findClass ("[" ++ FieldType.boolean.toString) = some (kD X 1) := (c7.2 1 (kD X 1, .boolean) rfl).2
      exact ⟨Option.some.inj (hNm.symm.trans h2), rfl⟩
  refine h H1 locs ls hls (hP.push ?_ (by rw [z1, hz]) (fun q hq => o1 q (by omega))) ⟨Nat.le_trans hS.1 (by omega), fun q h1 h2 => (o1 q (by have := hS.1; omega)).trans (hS.2.1 q h1 h2), hS.2.2⟩
  show H1[H.size]? = some (vp_cell _ _)
  rw [hz, e1, hcA.2, hcA.1]
  rfl
theorem k_newq (C : KC X nL cc own rm) {Cn : String} {idx : Nat} (t0 : Nat) (ht : (tysY (kD X))[t0]? = some (kD X t0, .object Cn)) (hao : AoOK X.1.2.2.2.2 → va_AO Cn X.1.2.2.2.2) (hw : Cond.classLink own idx Cn ∈ TT) {n : Int32} {a : Nat} (N : Nat) (hn : ¬ n < 0) (hN : n.toNatClampNeg = N) (hby : N * 4 ≤ 536870912) (hcc : nc + 1 ≤ rm.cells) (hsl : ns + N ≤ rm.slots) (ha : kA X + ws.length = a) (hws : ws ++ [.inl (kD X t0, N, .inr (.inr (.inr (.inr (fun _ => none)))))] = ws') (d : decode cc pc = .ok (.anewarray idx, 3)) (h : KJ X nL (pc + 3) L (.ref a :: st) ws' (nc + 1) (ns + N)) : KJ X nL pc L (.int n :: st) ws nc ns := by
  intro H locs ls hls hP hS
  subst hws
  obtain ⟨c1, c2, c3, c4, c5, c6, c7, c8, c9, c10⟩ := C
  rw [← c6] at hcc hsl
  subst hN
  have hz : H.size = a := hP.1.trans ha
  refine W.anew c1 c2 c4 (c5 _ hw) (va_AO.use (hao c9)) rfl d rfl hn hby hcc hsl fun cA kA0 comp f1 f2 f3 f4 => ?_
  obtain ⟨kA1, comp1, g1, g2, g3, g4⟩ := (c7.2 t0 _ ht).2
  have hcA : cA = kD X t0 := Option.some.inj (f1.symm.trans g4)
  subst hcA
  rw [hz]
  refine h _ locs ls hls (hP.push ?_ (Array.size_push _) (fun q hq => by rw [Array.getElem?_push, if_neg (Nat.ne_of_lt hq)])) ⟨Nat.le_trans hS.1 (by rw [Array.size_push]; omega), fun q h1 h2 => by rw [Array.getElem?_push, if_neg (by have := hS.1; omega)]; exact hS.2.1 q h1 h2, hS.2.2⟩
  show _ = some (vp_cell _ _)
  rw [Array.getElem?_push_size, arrV_new, vp_cell_q]
  rfl
theorem k_new (C : KC X nL cc own rm) {ci N idx a : Nat} {Cn : String} {T : u_T} {ty : Nat → FieldType} (hc : KI ci Cn T N ty) (w1 : Cond.classLink own idx Cn ∈ TT) (w2 : Cond.instantiable Cn N ∈ TT) (w3 : Cond.initialized Cn ∈ TT) {fs : List Value} (hfs : ∀ j, j < N → defaultValue (ty j) = vp_V fs j) (hcc : nc + 1 ≤ rm.cells) (hsl : ns + N ≤ rm.slots) (ha : kA X + ws.length = a) (hws : ws ++ [.inr (ci, fs)] = ws') (d : decode cc pc = .ok (.new idx, 3)) (h : KJ X nL (pc + 3) L (.ref a :: st) ws' (nc + 1) (ns + N)) : KJ X nL pc L st ws nc ns := by
  intro H locs ls hls hP hS
  subst hws
  obtain ⟨c1, c2, c3, c4, c5, c6, c7, c8, c9, c10⟩ := C
  rw [← c6] at hcc hsl
  obtain ⟨k1, k2, k3, k4⟩ := hc
  have hKn := c7.1 ci _ k1
  have hz : H.size = a := hP.1.trans ha
  refine W.newcK c1 c2 c4 (c5 _ w1) (c5 _ w2) (c5 _ w3) rfl d hcc hsl hKn.2.1 hz fun H1 kC hkC e1 z1 o1 => ?_
  refine h H1 locs ls hls (hP.push ?_ (by rw [z1, hz]) (fun q hq => o1 q (by omega))) ⟨Nat.le_trans hS.1 (by omega), fun q h1 h2 => (o1 q (by have := hS.1; omega)).trans (hS.2.1 q h1 h2), hS.2.2⟩
  rw [hz]
  exact ⟨_, k1, (u_born ty c5 k2 hKn hkC e1 k3).to hfs⟩
/-- a reference comes into a row of references -/
theorem k_astq (C : KC X nL cc own rm) {r : vw_C} {a v n ci : Nat} (k0 qk t0 : Nat) (ha : kA X + k0 = a) (hva : kA X + qk = v) {f : Nat → Option Nat} {vs : List Value} (he : ws[k0]? = some (.inl (kD X t0, n, .inr (.inr (.inr (.inr f)))))) (ht : (tysY (kD X))[t0]? = some (kD X t0, .object r.1)) (hv : ws[qk]? = some (.inr (ci, vs))) (hc : vwCl[ci]? = some r) {i : Nat} {x : Int32} (hi : i < n) (hx : x = nI i) (hn : n < 2 ^ 31) (hws : ws.set k0 (.inl (kD X t0, n, .inr (.inr (.inr (.inr (va_up f i (some v))))))) = ws') (d : decode cc pc = .ok (.aastore, 1)) (h : KJ X nL (pc + 1) L st ws' nc ns) : KJ X nL pc L (.ref v :: .int x :: .ref a :: st) ws nc ns := by
  intro H locs ls hls hP hS
  subst ha
  subst hva
  subst hws
  subst hx
  obtain ⟨c1, c2, c3, c4, c5, c6, c7, c8, c9, c10⟩ := C
  have e0 : (nI i).toNatClampNeg = i := nI_clamp (by omega)
  obtain ⟨r', hr', cellV, g1, g2, g3, -⟩ := hP.2 qk _ hv
  have hcls := (c7.1 ci r hc).2
  obtain ⟨kA0, comp, k1, k2, k3, -⟩ := (c7.2 t0 _ ht).2
  have hcomp : comp = X.2.2.1.1.1 ci := Option.some.inj (k3.symm.trans hcls.1)
  subst hcomp
  obtain ⟨kC, hkC, -⟩ := hcls.2
  refine W.aast c1 c2 (hP.2 k0 _ he) (fun q h => by cases h) (fun h => by cases h) k1 k2 rfl hkC ⟨nI_pos (by omega), by show _ < (arrV _ _ _).slots.size; rw [arrV_size, e0]; exact hi⟩ g1 (fun q h => by rw [g3] at h; cases h) (by rw [g2]; exact hkC) (by rw [g2]; exact va_assign hcls) rfl rfl d fun H1 e z oq => ?_
  refine h H1 _ ls hls (hP.set (List.getElem?_eq_some_iff.mp he).1 ?_ z oq) (hS.put z oq (Nat.le_add_right _ _))
  show H1[kA X + k0]? = some (vp_cell _ _)
  rw [e, e0]
  rw [vp_cell_q, vp_cell_q, arrV_store]
  congr 2
  funext q
  by_cases hq : q = i
  · subst hq
    simp [updV, va_up, va_rf]
  · simp [updV, va_up, hq]
theorem k_iast (C : KC X nL cc own rm) {a n : Nat} (k0 : Nat) (ha : kA X + k0 = a) {f : Nat → Int32} (he : ws[k0]? = some (.inl (kD X 0, n, .inl f))) {i : Nat} {x y : Int32} (hi : i < n) (hx : x = nI i) (hn : n < 2 ^ 31) (hws : ws.set k0 (.inl (kD X 0, n, .inl (upd f i y))) = ws') (d : decode cc pc = .ok (.iastore, 1)) (h : KJ X nL (pc + 1) L st ws' nc ns) : KJ X nL pc L (.int y :: .int x :: .ref a :: st) ws nc ns := by
  intro H locs ls hls hP hS
  subst ha
  subst hws
  subst hx
  obtain ⟨c1, c2, c3, c4, c5, c6, c7, c8, c9, c10⟩ := C
  have e0 : (nI i).toNatClampNeg = i := nI_clamp (by omega)
  refine W.iast c1 c2 (hP.2 k0 _ he) ((c7.2 0 (kD X 0, .int) rfl).1 n (fun j => .int (f j))) (fun q => by cases q) (by show ¬ (nI i < 0 ∨ (arrV (kD X 0) n (fun j => Value.int (f j))).slots.size ≤ (nI i).toNatClampNeg); rw [arrV_size, e0]; exact fun q => q.elim (nI_pos (by omega)) (fun h9 => by omega)) rfl rfl d fun H1 e z oq => ?_
  refine h H1 _ ls hls (hP.set (List.getElem?_eq_some_iff.mp he).1 ?_ z oq) (hS.put z oq (Nat.le_add_right _ _))
  show H1[kA X + k0]? = some (vp_cell _ _)
  rw [e, e0]
  rw [vp_cell_i, vp_cell_i, arrV_store]
  congr 2
  funext q
  by_cases hq : q = i
  · subst hq
    simp [updV, upd]
  · simp [updV, upd, hq]
/-- a constructor's call: a linked one, a nest mate's -/
def CwI (own : String) (idx : Nat) (y : MethodName) (cc : ByteArray) (nL n : Nat) : Prop := Cond.methodLink own idx y ∈ TT ∧ Cond.instanceMethod y ∈ TT ∧ Cond.initialized y.cls ∈ TT ∧ Cond.code y cc nL none ∈ TT ∧ y.name = "<init>" ∧ (y.cls ≠ "java/lang/invoke/MethodHandle" ∧ y.cls ≠ "java/lang/invoke/VarHandle" ∧ (parseMethodDescriptor y.desc).map (fun d => d.parameters.length) = some n)
def CwJ (own : String) (idx : Nat) (y : MethodName) (host : String) (cc : ByteArray) (nL n : Nat) : Prop := (own, idx, y, host) ∈ nM ∧ Cond.instanceMethod y ∈ TT ∧ Cond.initialized y.cls ∈ TT ∧ Cond.code y cc nL none ∈ TT ∧ y.name = "<init>" ∧ (y.cls ≠ "java/lang/invoke/MethodHandle" ∧ y.cls ≠ "java/lang/invoke/VarHandle" ∧ (parseMethodDescriptor y.desc).map (fun d => d.parameters.length) = some n)
theorem good_wT {y : MethodName} {cc : ByteArray} {nL : Nat} {rt : Option FieldType} (h : Cond.code y cc nL rt ∈ TT) : GoodIn TT (wT y cc nL rt) := good_TT _ (fun w hw => by
  rcases List.mem_cons.mp hw with rfl | h2
  · exact h
  · exact h2)
theorem k_callI (C : KC X nL cc own rm) {y : MethodName} {ccy : ByteArray} {nLy idx n a : Nat} {rmy : Room} {As rest : List Value} {e : va_E} {w1 : (Nat → ClassId) → Nat → List va_E} (hM : CK y ccy nLy rmy As e w1) (hw : CwI own idx y ccy nLy n) (hR : rmy.frames + 1 ≤ rm.frames ∧ 8 + (nLy + 11) + rmy.locals ≤ rm.locals) (hf : nc + rmy.cells ≤ rm.cells ∧ ns + rmy.slots ≤ rm.slots) (hn : As.length = n) (ws0 : List va_E) (hw0 : ws = ws0 ++ [e]) (ha : kA X + ws0.length = a) (hws : ws0 ++ w1 (kD X) a = ws') (hst : st = As.reverse ++ .ref a :: rest) (hs8 : (rest.map fun v => v.category).sum ≤ 8) (d : decode cc pc = .ok (.invokespecial idx, 3)) (h : KJ X nL (pc + 3) L rest ws' (nc + rmy.cells) (ns + rmy.slots)) : KJ X nL pc L st ws nc ns := by
  intro H locs ls hls hP hS
  subst hw0
  subst ha
  subst hws
  subst hst
  obtain ⟨c1, c2, c3, c4, c5, c6, c7, c8, c9, c10⟩ := C
  obtain ⟨w1', w2, w3, w4, w5, w6⟩ := hw
  rw [← c6] at hR hf
  have hA : ∀ q : Nat, kA X + ws0.length ≤ q → kA X ≤ q := fun q hq => by omega
  refine va_callv (va_runI (As := As) (rest := rest) ⟨c1, c2, c3, c4, c5⟩ (hM X.1.2.1 X.2.2.1.1 (kD X) (kA X + ws0.length)) (cwI n c5 (good_wT w4) rfl rfl rfl (c5 _ w3) (c5 _ w1') (c5 _ w2) w5 w6 hR) ⟨KPre_blind, fun U hU hW => ⟨rfl, by rw [hU]; exact hP.last, va_K.moved hW.alike c7, c8.warm hW, c9.moved hW.alike⟩⟩ rfl hn hls.1 rfl (lv_room hs8) d hf) hS (fun q _ h => hA q h) hA (fun u t H1 locs ht hvm hw hB hz1 hk1 hS => ?_)
  subst ht
  exact h _ locs ls hls (hP.join hB hk1) hS
theorem k_callJ (C : KC X nL cc own rm) {y : MethodName} {ccy : ByteArray} {nLy idx n a : Nat} {host : String} {rmy : Room} {As rest : List Value} {e : va_E} {w1 : (Nat → ClassId) → Nat → List va_E} (hM : CK y ccy nLy rmy As e w1) (hw : CwJ own idx y host ccy nLy n) (hR : rmy.frames + 1 ≤ rm.frames ∧ 8 + (nLy + 11) + rmy.locals ≤ rm.locals) (hf : nc + rmy.cells ≤ rm.cells ∧ ns + rmy.slots ≤ rm.slots) (hn : As.length = n) (ws0 : List va_E) (hw0 : ws = ws0 ++ [e]) (ha : kA X + ws0.length = a) (hws : ws0 ++ w1 (kD X) a = ws') (hst : st = As.reverse ++ .ref a :: rest) (hs8 : (rest.map fun v => v.category).sum ≤ 8) (d : decode cc pc = .ok (.invokespecial idx, 3)) (h : KJ X nL (pc + 3) L rest ws' (nc + rmy.cells) (ns + rmy.slots)) : KJ X nL pc L st ws nc ns := by
  intro H locs ls hls hP hS
  subst hw0
  subst ha
  subst hws
  subst hst
  obtain ⟨c1, c2, c3, c4, c5, c6, c7, c8, c9, c10⟩ := C
  obtain ⟨w1', w2, w3, w4, w5, w6⟩ := hw
  rw [← c6] at hR hf
  have hA : ∀ q : Nat, kA X + ws0.length ≤ q → kA X ≤ q := fun q hq => by omega
  refine va_callv (va_runIN (host := host) (As := As) (rest := rest) ⟨c1, c2, c3, c4, c5⟩ (hM X.1.2.1 X.2.2.1.1 (kD X) (kA X + ws0.length)) ⟨va_cnB n c5 (good_wT w4) rfl rfl rfl (c8.2 _ w1') (c5 _ w3) w6 hR, w5, c5 _ w2⟩ ⟨KPre_blind, fun U hU hW => ⟨rfl, by rw [hU]; exact hP.last, va_K.moved hW.alike c7, c8.warm hW, c9.moved hW.alike⟩⟩ rfl hn hls.1 rfl (lv_room hs8) d hf) hS (fun q _ h => hA q h) hA (fun u t H1 locs ht hvm hw hB hz1 hk1 hS => ?_)
  subst ht
  exact h _ locs ls hls (hP.join hB hk1) hS
theorem k_ret {w1 : (Nat → ClassId) → Nat → List va_E} (C : KC X nL cc own rm) (K : KI0 X rm w1) (hc : nc = rm.cells) (hs : ns = rm.slots) (hws : ws = w1 (kD X) (kA X)) (d : decode cc pc = .ok (.return_, 1)) : KJ X nL pc L [] ws nc ns := by
  intro H locs ls hls hP hS
  subst hc
  subst hs
  subst hws
  obtain ⟨c1, c2, -⟩ := C
  obtain ⟨-, k2, k3, k4⟩ := K
  rw [k4]
  exact W.vret c1 c2 k2 (fun t ht hW => ⟨⟨(), rfl, trivial, by show Sq _ _ _ t.heap; rw [ht]; exact hP⟩, hS.F ht⟩) hS.2.2 d k3
theorem k_upd {w1 w2 : (Nat → ClassId) → Nat → List va_E} (hw : ∀ (D : va_G) (H : Heap), Sq D (kA X) ws H → Sq D (kA X) ws' H) (h : KJ X nL pc L st ws' nc ns) : KJ X nL pc L st ws nc ns := fun H locs ls hls hP hS => h H locs ls hls (hw _ _ hP) hS
theorem CK_of {y : MethodName} {As : List Value} {e : va_E} {w1 : (Nat → ClassId) → Nat → List va_E} (hy : plainName y.cls = true) (hnm : y.name = "<init>") (hsl : ∀ b, (lg_sl (.ref b :: As)).length ≤ nL) (h : ∀ X : KtT, KC X nL cc y.cls rm → KI0 X rm w1 → KJ X nL 0 (lv_args 0 (.ref (kA X) :: As)) [] [e] 0 0) : CK y cc nL rm As e w1 := by
  intro l D dA b
  refine Met.ofW (cc := cc) (maxL := nL) (ret := none) hy rfl ?_
  intro p ev s m args below meth c s₁ B hml hv
  obtain ⟨rfl, hP, hK, hnw, hao⟩ := hv
  have hts := atoms_spec (ws := wT y cc nL none) B.pre
  have hl := lv_entry (.ref b :: As) (n := nL) (hsl b)
  rw [lg_entry_eq]
  exact h ((p, l, ev, (headSpec (wT y cc nL none) rm).room, s), (m, (Value.ref b :: As).toArray, below, meth, c), (D, dA, b), MQ below (va_Qv (fun _ : Unit => True) (fun _ t => Sq D b (w1 dA b) t.heap) (fun q => b ≤ q)) (Value.ref b :: As).toArray s rm.cells rm.slots (fun q => b ≤ q)) ⟨B.exec, B.bytes, hml, findClass_of_methodNamed B.named, fun w hw => hts w (List.mem_cons_of_mem _ hw), rfl, hK, hnw, hao, by show b ≤ s.heap.size; rw [hP.1]; exact Nat.le_add_right _ _⟩ ⟨((name_of_methodNamed B.named B.method).1).trans hnm, B.returns, B.notSynchronized, rfl⟩ s.heap [] _ hl hP va_S.rf
end KR
