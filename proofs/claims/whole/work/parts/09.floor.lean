/-! ===== contracts of methods of a class that the table of natives names, but not for this method (Math.floorMod) ===== -/
section JF
variable {Y : Lay} {nL : Nat} {cc : ByteArray} {rt : Option FieldType} {rm : Room} {σ : Mem}
theorem Met_ofWF {l : Launch} {y : MethodName} {ws ws' : List Cond} {rm : Room} {Pc : Array Value → State → Prop} {Qc : Array Value → State → Outcome → State → Prop} {mc ms : Nat} {free : Addr → Prop} {cc : ByteArray} {maxL : Nat} {ret : Option FieldType}
    (hy : plainFor y = true) (hw : ws = Cond.code y cc maxL ret :: ws')
    (body : ∀ p e s m args below meth c s₁, BodyLoose p l y (headSpec ws rm) cc maxL ret e s m args below meth c s₁ → c.maxLocals = maxL → Pc args s →
      W p l e (headSpec ws rm).room s m args below meth c s.heap [] 0 0 (MQ below Qc args s mc ms free) (entryFrame m args maxL)) : Met l y ws rm Pc Qc mc ms free := by
  refine MetFree.of_bodySF (code := cc) (maxLocals := maxL) (ret := ret) hy ?_ ?_
  · intro args s m h hn
    obtain ⟨meth, c, h1, h2, h3, h4, h5, h6, -, -⟩ := Cond.code_spec hn (atoms_spec (ws := ws) h _ (by rw [hw]; exact List.mem_cons_self))
    exact ⟨meth, c, h1, h2, h3, h4, h5, h6⟩
  · intro p e s m args below meth c s₁ B hml hP _
    have hh0 : s₁.heap = s.heap := by rw [B.state]; rfl
    obtain ⟨t, a1, o, b1, b2, b3⟩ := body p e s m args below meth c s₁ B hml hP s₁ hh0 (Stand.of_body B)
    exact ⟨t, o, a1, b1, b2, ⟨b3.1, b3.2⟩⟩
theorem CTi_ofF {y : MethodName} {av : (Nat → Nat) → List Value} {E : Option (Int32 × Mem)} (hy : plainFor y = true) (hsl : ∀ ad, (lg_sl (av ad)).length ≤ nL) (h : ∀ X : CtxT (Int32 × Mem), Cx Y X nL cc y.cls rt rm → CRi Y X → J Y X nL E 0 (lv_args 0 (av (adX X))) [] σ) : CTi Y y cc nL rt rm av σ E := by
  intro l D dA ad sz x hE
  refine Met_ofWF (cc := cc) (maxL := nL) (ret := rt) hy rfl ?_
  intro p e s m args below meth c s₁ B hml hv
  obtain ⟨rfl, hsz, hP, hK, hD, hst, hnw⟩ := hv
  subst hsz
  have hts := atoms_spec (ws := wT y cc nL rt) B.pre
  have hl := lv_entry (av ad) (n := nL) (hsl ad)
  rw [lg_entry_eq]
  exact h ((p, l, e, (headSpec (wT y cc nL rt) rm).room, s), (m, (av ad).toArray, below, meth, c), (D, dA, ad), fun x => MQ below (va_Qi (fun r u => (r, u) = x) (PostY Y D dA ad) (AY Y ad s.heap.size)) (av ad).toArray s 0 0 (AY Y ad s.heap.size), (0, 0)) ⟨B.exec, B.bytes, hml, findClass_of_methodNamed B.named, fun w hw => hts w (List.mem_cons_of_mem _ hw), B.returns, B.notSynchronized, rfl, hK, hD, hst, Nat.zero_le _, Nat.zero_le _, hnw⟩ rfl x hE s.heap [] _ hl hP va_S.rf
end JF
