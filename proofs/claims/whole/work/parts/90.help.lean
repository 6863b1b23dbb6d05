/-! ===== the law's helpers: a call that may throw, and its catching ===== -/
theorem Met_ofWH {l : Launch} {y : MethodName} {ws ws' : List Cond} {rm : Room} {Pc : Array Value → State → Prop} {Qc : Array Value → State → Outcome → State → Prop} {mc ms : Nat} {free : Addr → Prop} {cc : ByteArray} {maxL : Nat} {ret : Option FieldType} {hh : List (Nat × Nat × Nat × Nat)}
    (hy : plainName y.cls = true) (hw : ws = Cond.codeWith y cc maxL ret hh :: ws')
    (body : ∀ p e s m args below meth c s₁, BodyLoose p l y (headSpec ws rm) cc maxL ret e s m args below meth c s₁ → c.maxLocals = maxL → Pc args s →
      W p l e (headSpec ws rm).room s m args below meth c s.heap [] 0 0 (MQ below Qc args s mc ms free) (entryFrame m args maxL)) : Met l y ws rm Pc Qc mc ms free := by
  refine MetFree.of_bodyS (code := cc) (maxLocals := maxL) (ret := ret) hy ?_ ?_
  · intro args s m h hn
    obtain ⟨m9, meth, c, hn9, h1, h2, h3, h4, -, h5, h6, -⟩ := Cond.codeWith_spec (atoms_spec (ws := ws) h _ (by rw [hw]; exact List.mem_cons_self))
    cases hn.symm.trans hn9
    exact ⟨meth, c, h1, h2, h3, h4, h5, h6⟩
  · intro p e s m args below meth c s₁ B hml hP _
    have hh0 : s₁.heap = s.heap := by rw [B.state]; rfl
    obtain ⟨t, a1, o, b1, b2, b3⟩ := body p e s m args below meth c s₁ B hml hP s₁ hh0 (Stand.of_body B)
    exact ⟨t, o, a1, b1, b2, ⟨b3.1, b3.2⟩⟩
abbrev wH (y : MethodName) (cc : ByteArray) (nL : Nat) (hh : List (Nat × Nat × Nat × Nat)) : List Cond := Cond.codeWith y cc nL (some .int) hh :: TT
/-- the row of one long -/
def outC (cL : ClassId) (v : Int64) : Cell := vp_cell cL (1, .inr (.inl (fun _ => v)))
def AH (ad : Nat → Nat) (o sz : Nat) : Nat → Prop := fun q => AY YC ad sz q ∨ q = o
def PreH (D : va_G) (dA : Nat → ClassId) (ad : Nat → Nat) (cL : ClassId) (o : Nat) (v : Int64) (σ : Mem) (sz : Nat) (U : State) : Prop := PreX YC D dA ad σ sz U ∧ U.heap[o]? = some (outC cL v) ∧ (∀ k, k < 120 → ad k ≠ o) ∧ ArrOfT U cL .long
theorem PreH_blind {D : va_G} {dA : Nat → ClassId} {ad : Nat → Nat} {cL : ClassId} {o : Nat} {v : Int64} {σ : Mem} {sz : Nat} {av : List Value} : FrameBlind (va_Pc av (PreH D dA ad cL o v σ sz)) := fun a U g mk q => ⟨q.1, (PreX_blind (av := av) a U g mk ⟨q.1, q.2.1⟩).2, q.2.2.1, q.2.2.2.1, arrOfT_moved (show U.vm.Alike (U.calling g mk a).vm from Vm.Alike.refl U.vm) q.2.2.2.2⟩
def PostH (D : va_G) (dA : Nat → ClassId) (ad : Nat → Nat) (cL : ClassId) (o : Nat) (u : Mem × Int64) (t : State) : Prop := va_P D vwCl (wsY YC dA ad u.1) t.heap ∧ t.heap[o]? = some (outC cL u.2)
def hpost (x : Option Int32 × Mem) (v : Int64) (r : Int32) (u : Mem × Int64) : Prop := (x.1 = none ∧ r = 1 ∧ u = (x.2, v)) ∨ ∃ a : Int32, x.1 = some a ∧ r = 0 ∧ u = (x.2, a.toInt64)
def CTh (y : MethodName) (cc : ByteArray) (nL : Nat) (hh : List (Nat × Nat × Nat × Nat)) (rm : Room) (av : (Nat → Nat) → Nat → List Value) (σ : Mem) (E : Option (Option Int32 × Mem)) : Prop :=
  ∀ (l : Launch), l.stackTraces = false → ∀ (D : va_G) (dA : Nat → ClassId) (ad : Nat → Nat) (cL : ClassId) (o : Nat) (v : Int64) (sz : Nat) (x : Option Int32 × Mem), E = some x → Met l y (wH y cc nL hh) rm (va_Pc (av ad o) (PreH D dA ad cL o v σ sz)) (va_Qi (hpost x v) (PostH D dA ad cL o) (AH ad o sz)) 1 6 (AH ad o sz)
theorem outC_set (cL : ClassId) (v x : Int64) : (outC cL v).setSlot (0 : Int32).toNatClampNeg (.long x) = outC cL x := by
  unfold outC
  rw [vp_cell_l, vp_cell_l, arrV_store]
  exact arrV_cg (fun j hj => by
    have e : j = 0 := by omega
    subst e
    rfl)
theorem h_tail {p : Program} {l : Launch} {e : Env} {R : Room} {s : State} {m : MethodId} {args : Array Value} {below : List Frame} {meth : Method} {c : Code} {D : va_G} {dA : Nat → ClassId} {ad : Nat → Nat} {cL : ClassId} {o : Nat} {v : Int64} {σ : Mem} {nL : Nat} {cc : ByteArray} {ls : Array Slot} {pc idx n ep hp hp2 ct tgt : Nat} {off : Int} {y : MethodName} {ccy : ByteArray} {nLy : Nat} {rmy : Room} {av : (Nat → Nat) → List Value} {Xc : String} {E : Option (Option Int32 × Mem)} {x : Option Int32 × Mem} {As : List Value}
    (hl : l.stackTraces = false) (hx : p.tables.exec = Jvm.exec) (hb : c.code = cc) (hml : c.maxLocals = nL) (hown : s.vm.findClass RL = some m.cls) (hts : ∀ w ∈ TT, w.before args s = true) (hr : meth.sig.returnType = some .int) (hlocks : meth.locks = false) (hPre : PreH D dA ad cL o v σ s.heap.size s) (hsz : ls.size = nL)
    (hM : CTx YC y ccy nLy (some .int) rmy av σ Xc E) (hE : E = some x) (hw : CwV RL idx RX10 y ccy nLy (some .int) n) (hR : rmy.frames + 1 ≤ R.frames ∧ 8 + (nLy + 11) + rmy.locals ≤ R.locals) (hrc : rmy.cells = 1) (hrs : rmy.slots = 6) (hRc : 1 ≤ R.cells ∧ 6 ≤ R.slots) (hav : av ad = .ref (ad 0) :: As) (hn : As.length = n)
    (htab : c.exceptionTable.toList = tableOf [(0, ep, hp, ct)]) (hcov : covers ⟨0, ep, hp, ct⟩ pc = true) (hct : ct ≠ 0) (hcl : Cond.classLink RL ct Xc ∈ TT) (hXc : Xc ∈ xCa)
    (d0 : decode cc pc = .ok (.invokevirtual idx, 3)) (d3 : decode cc (pc + 3) = .ok (.i2l, 1)) (d4 : decode cc (pc + 3 + 1) = .ok (.lastore, 1)) (d5 : decode cc (pc + 3 + 1 + 1) = .ok (.goto off, 3)) (htg : ((pc + 3 + 1 + 1 : Nat) : Int) + off = (tgt : Int)) (e0 : decode cc tgt = .ok (.iconst 0, 1)) (e1 : decode cc (tgt + 1) = .ok (.ireturn, 1)) (f0 : decode cc hp2 = .ok (.iconst 1, 1)) (f1 : decode cc (hp2 + 1) = .ok (.ireturn, 1))
    (hk : ∀ (Q : State → Prop) (H : Heap) (locs : List Loc) (q : Nat), (∀ ls', W p l e R s m args below meth c H locs (0 + 1) (0 + 6) Q (F0 m hp2 ls' [])) → W p l e R s m args below meth c H locs (0 + 1) (0 + 6) Q (F0 m hp ls [.ref q])) :
    W p l e R s m args below meth c s.heap [] 0 0 (MQ below (va_Qi (hpost x v) (PostH D dA ad cL o) (AH ad o s.heap.size)) args s 1 6 (AH ad o s.heap.size)) (F0 m pc ls (As.reverse ++ .ref (ad 0) :: [.int 0, .ref o])) := by
  obtain ⟨⟨⟨-, hP, hK, hD, hso, hnw⟩, hth⟩, hout, hoa, hAr⟩ := hPre
  have hS : va_S (AH ad o s.heap.size) s.heap s.heap [] := va_S.rf
  have hol : o < s.heap.size := (Array.getElem?_eq_some_iff.mp hout).1
  have hMet := hM l hl D dA ad s.heap.size x hE
  rw [hav] at hMet
  have hg := wsY_get (Y := YC) (dA := dA) (ad := ad) (σ := σ) (k := 0) (by decide)
  rw [cellY_obj kc_0] at hg
  have hA1 : ∀ q : Nat, AY YC ad s.heap.size q → AH ad o s.heap.size q := fun q h => Or.inl h
  have hno : ¬ AY YC ad s.heap.size o := by
    rintro (⟨k, hk9, e9⟩ | h)
    · exact hoa k hk9 e9.symm
    · exact absurd hol (Nat.not_lt.mpr h)
  refine vx_calli (vx_runV (g := F0 m pc ls (As.reverse ++ .ref (ad 0) :: [.int 0, .ref o])) (As := As) (rest := [.int 0, .ref o]) ⟨hx, hb, hml, hown, hts⟩ hMet (cwV n hts hw.1 rfl hrc hrs hw.2 hR) ⟨PreX_blind, va_recv hK hP kX10.1 hg, fun U hU hW => ⟨rfl, PreY_at hP hK hD hso hnw va_S.rf hU hW, by rw [hU]; exact hth.via hW (fun _ _ _ => rfl) (fun _ h => h)⟩⟩ rfl hn hsz rfl (lv_room (Nat.le_of_ble_eq_true rfl)) d0 ⟨by omega, by omega⟩) hS (fun q _ h => hA1 q h) hA1 (fun q _ h => hA1 q h) ?_ ?_
  · intro E9 ce q9 u t H1 locs1 ht hvm hpx hbx hz hkk hS1 hcell hcv hclE
    obtain ⟨rfl, hB⟩ := hbx
    refine vx_catch (own := RL) (name := E9) hown [] ⟨0, ep, hp, ct⟩ [] htab (fun z hz => nomatch hz) hcov hct (hts _ hcl) (va_Nw.use rfl (hth.2.2.2.1 E9 hXc)) hcell hcv hclE ?_
    refine hk _ _ _ _ (fun ls' => ?_)
    refine lv_iconst (v := 1) hx hb f0 (by decide) ?_
    exact W.iret (v := 1) hx hb hr (fun t2 ht2 hW2 => ⟨⟨1, (u, v), rfl, Or.inl ⟨by rw [← hpx], rfl, by rw [← hpx]⟩, by rw [ht2, ← ht]; exact hB.1, by rw [ht2, hkk o hol hno]; exact hout⟩, hS1.F ht2⟩) hS1.2.2 f1 hlocks
  · intro r u t H1 locs1 ht hvm hpo hB hz hkk hS1
    refine lv_i2l hx hb d3 rfl ?_
    have ho1 : H1[o]? = some (outC cL v) := by rw [hkk o hol hno]; exact hout
    refine W.last hx hb ho1 (hAr 1 (fun _ => .long v)) (fun q => by cases q) (by show ¬ (_ ∨ (arrV _ _ _).slots.size ≤ _); rw [arrV_size]; show ¬ ((0 : Int32) < 0 ∨ 1 ≤ (0 : Int32).toNatClampNeg); decide) rfl rfl d4 fun H2 e2 z2 oq => ?_
    refine lv_goto (tgt := tgt) hx hb d5 htg ?_
    refine lv_iconst (v := 0) hx hb e0 (by decide) ?_
    have hS2 := hS1.put (k := (0 : Int32).toNatClampNeg) z2 oq (Or.inr rfl : AH ad o s.heap.size o)
    have hP2 : va_P D vwCl (wsY YC dA ad u) H2 := by
      have hP1 : va_P D vwCl (wsY YC dA ad u) H1 := by rw [← ht]; exact hB.1
      refine hP1.kept (fun k q hq => ?_)
      obtain ⟨hk9, rfl⟩ := wsY_inv hq
      exact oq _ (hoa k hk9)
    exact W.iret (v := 0) hx hb hr (fun t2 ht2 hW2 => ⟨⟨0, (u, r.toInt64), rfl, Or.inr ⟨r, by rw [← hpo], rfl, by rw [← hpo]⟩, by rw [ht2]; exact hP2, by rw [ht2, e2, outC_set]⟩, hS2.F ht2⟩) hS2.2.2 e1 hlocks
