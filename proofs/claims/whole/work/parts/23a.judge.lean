/-! ===== the model's judge makes one row of four ints: its world with it and without ===== -/
theorem cellY_nr {Y : Lay} {dA : Nat → ClassId} {ad ad' : Nat → Nat} {σ : Mem} {k n o : Nat} (h : Y.2.1 k = (1, n, o) ∨ Y.2.1 k = (2, n, o)) : cellY Y dA ad' σ k = cellY Y dA ad σ k := by
  rcases h with h | h
  · rw [cellY_int h, cellY_int h]
  · rw [cellY_bool h, cellY_bool h]
theorem ym_arr : ∀ k, 0 < k → k < 19 → kdM k = (1, (kdM k).2.1, 0) ∨ kdM k = (2, (kdM k).2.1, 0) := by
  have h : ∀ k, k < 19 → 0 < k → kdM k = (1, (kdM k).2.1, 0) ∨ kdM k = (2, (kdM k).2.1, 0) := by decide
  exact fun k h0 h1 => h k h1 h0
theorem ym_rel : ∀ j, j < 40 → ∀ o, o < 19 ∨ rlM 11 j ≠ some (true, o) := by
  have h : ∀ j, j < 40 → (match rlM 11 j with | some (true, o) => decide (o < 19) | _ => true) = true := by decide
  intro j hj o
  have := h j hj
  by_cases e : rlM 11 j = some (true, o)
  · rw [e] at this
    exact Or.inl (by simpa using this)
  · exact Or.inr e
theorem ym_abs : ∀ j, j < 40 → ∀ o, rlM 11 j ≠ some (false, o) := by
  have h : ∀ j, j < 40 → (match rlM 11 j with | some (false, _) => false | _ => true) = true := by decide
  intro j hj o e
  have := h j hj
  rw [e] at this
  cases this
theorem cellM_ad {b : Bool} {dA : Nat → ClassId} {ad ad' : Nat → Nat} {σ : Mem} (h : ∀ k, k < 19 → ad' k = ad k) {k : Nat} (hk : k < 19) : cellY (YM b) dA ad' σ k = cellY (YM b) dA ad σ k := by
  rcases Nat.eq_zero_or_pos k with rfl | h0
  · rw [cellY_obj (km_0 b), cellY_obj (km_0 b)]
    congr 2
    apply List.map_congr_left
    intro j hj
    have hj : j < 40 := by simpa using hj
    cases e : rlM 11 j with
    | none =>
      have e : (YM b).2.2 11 j = none := e
      rw [fvY_int e, fvY_int e]
    | some q =>
      obtain ⟨t, o⟩ := q
      cases t with
      | false => exact absurd e (ym_abs j hj o)
      | true =>
        have ho : o < 19 := (ym_rel j hj o).resolve_right (fun n => n e)
        have e : (YM b).2.2 11 j = some (true, o) := e
        rw [fvY_rel e, fvY_rel e, h (0 + o) (by omega)]
  · exact cellY_nr (ym_arr k h0 hk)
theorem wsM_ad {dA : Nat → ClassId} {ad ad' : Nat → Nat} {σ : Mem} (h : ∀ k, k < 19 → ad' k = ad k) : wsY (YM false) dA ad' σ = wsY (YM false) dA ad σ := by
  unfold wsY
  apply List.map_congr_left
  intro k hk
  have hk : k < 19 := by simpa [YM] using hk
  rw [h k hk, cellM_ad h hk]
theorem vaP_cut {D : va_G} {dA : Nat → ClassId} {ad : Nat → Nat} {σ : Mem} {H : Heap} (h : va_P D vwCl (wsY (YM true) dA ad σ) H) : va_P D vwCl (wsY (YM false) dA ad σ) H := by
  intro k q hq
  obtain ⟨hk, rfl⟩ := wsY_inv hq
  have hk : k < 19 := hk
  exact h k _ (wsY_get (Y := YM true) (show k < 20 by omega))
/-- the addresses with the new one -/
def adJ (ad : Nat → Nat) (q : Nat) : Nat → Nat := fun k => if k = 19 then q else ad k
theorem adJ_old (ad : Nat → Nat) (q : Nat) : ∀ k, k < 19 → adJ ad q k = ad k := fun k h => if_neg (by omega)
theorem vaP_add {D : va_G} {dA : Nat → ClassId} {ad : Nat → Nat} {σ : Mem} {H : Heap} {q : Nat} {f : Nat → Int32} (h : va_P D vwCl (wsY (YM false) dA ad σ ++ [(q, .inl (dA 0, 4, .inl f))]) H) : va_P D vwCl (wsY (YM true) dA (adJ ad q) (rwM σ 19 f)) H := by
  intro k x hx
  obtain ⟨hk, rfl⟩ := wsY_inv hx
  have hk : k < 20 := hk
  by_cases e : k = 19
  · subst e
    rw [cellY_int (km_19 true), rwM_row]
    refine h 19 (adJ ad q 19, _) ?_
    rw [List.getElem?_append_right (by rw [wsY_len]; decide), wsY_len]
    rfl
  · have hk : k < 19 := by omega
    rw [cellM_ad (adJ_old ad q) hk, adJ_old ad q k hk, cellY_ext (show (rwM σ 19 f) k = σ k from rwM_ne e)]
    refine h k _ ?_
    rw [List.getElem?_append_left (by rw [wsY_len]; exact hk)]
    exact wsY_get (Y := YM false) hk
theorem AY_J {ad : Nat → Nat} {sz q : Nat} (hq : sz ≤ q) : AY (YM true) (adJ ad q) sz = AY (YM false) ad sz := by
  funext z
  apply propext
  constructor
  · rintro (⟨k, hk, rfl⟩ | h)
    · have hk : k < 20 := hk
      by_cases e : k = 19
      · subst e
        exact Or.inr hq
      · exact Or.inl ⟨k, show k < 19 by omega, adJ_old ad q k (by omega)⟩
    · exact Or.inr h
  · rintro (⟨k, hk, rfl⟩ | h)
    · have hk : k < 19 := hk
      exact Or.inl ⟨k, show k < 20 by omega, (adJ_old ad q k hk).symm⟩
    · exact Or.inr h
def CTj (Y : Lay) (y : MethodName) (cc : ByteArray) (nL : Nat) (rt : Option FieldType) (rm : Room) (av : (Nat → Nat) → List Value) (σ : Mem) (E : Option (Int32 × Mem)) : Prop :=
  ∀ (l : Launch) (D : va_G) (dA : Nat → ClassId) (ad : Nat → Nat) (sz : Nat) (x : Int32 × Mem), E = some x → Met l y (wT y cc nL rt) rm (va_Pc (av ad) (PreY Y D dA ad σ sz)) (va_Qi (fun r u => (r, u) = x) (PostY Y D dA ad) (AY Y ad sz)) 1 4 (AY Y ad sz)
/-- what judge comes to: the world without the row -/
def CRj (b : Bool) (X : CtxT (Int32 × Mem)) : Prop := ∃ ad0 : Nat → Nat, (∀ k, k < 19 → X.2.2.1.2.2 k = ad0 k) ∧ AY (YM b) X.2.2.1.2.2 X.1.2.2.2.2.heap.size = AY (YM false) ad0 X.1.2.2.2.2.heap.size ∧ (X.2.2.2.1 = fun x => MQ X.2.1.2.2.1 (va_Qi (fun r u => (r, u) = x) (PostY (YM false) X.2.2.1.1 X.2.2.1.2.1 ad0) (AY (YM false) ad0 X.1.2.2.2.2.heap.size)) X.2.1.2.1 X.1.2.2.2.2 1 4 (AY (YM false) ad0 X.1.2.2.2.2.heap.size)) ∧ X.2.2.2.2 = (if b then (1, 4) else (0, 0))
section JJ
variable {nL : Nat} {cc : ByteArray} {own : String} {rt : Option FieldType} {rm : Room} {pc : Nat} {L : List (Nat × Value)} {st : List Value} {σ : Mem}
theorem j_newj {X : CtxT (Int32 × Mem)} (C : Cx (YM false) X nL cc own rt rm) (CR : CRj false X) {k : Mem → Option (Int32 × Mem)} (hw : Cond.arrayClass .int ∈ TT) (hrm : rm.cells = 1 ∧ rm.slots = 4) (d : decode cc pc = .ok (.newarray .int, 2))
    (h : ∀ (X2 : CtxT (Int32 × Mem)), Cx (YM true) X2 nL cc own rt rm → CRj true X2 → (∀ i, i < 19 → adX X2 i = adX X i) → ∀ τ, J (YM true) X2 nL (k τ) (pc + 2) L (.ref (adX X2 19) :: st) τ) : J (YM false) X nL (lt (rwM σ 19 (fun _ => 0)) k) pc L (.int 4 :: st) σ := by
  intro x hx H locs ls hl hP hS
  obtain ⟨c1, c2, c3, c4, c5, c6, c7, c8, c9, c10, c11, c12, c13, c14⟩ := C
  obtain ⟨ad0, r1, r2, r3, r4⟩ := CR
  obtain ⟨⟨p, l, e, R, s⟩, ⟨m, args, below, meth, c⟩, ⟨D, dA, ad⟩, Q, cs⟩ := X
  dsimp only at c1 c2 c3 c4 c5 c6 c7 c8 c9 c10 c11 c14 r1 r2 r3 r4 hP hS h ⊢
  subst r4
  subst c8
  have hA : ∀ q, s.heap.size ≤ q → AY (YM false) ad s.heap.size q := fun q h => Or.inr h
  refine va_newa (atype := .int) (a0 := (4, .inl (fun _ => 0))) (N' := 4) (ty := .int) c1 c2 (c5 _ hw) rfl c9 hP (c10.D σ _) hS hA (fun _ => rfl) (by decide) (by decide) (by decide) (by rw [hrm.1]; exact Nat.le_refl _) (by rw [hrm.2]; exact Nat.le_refl _) d (fun q cA H1 hK1 hP1 hD1 hS1 => ?_)
  have hcA : cA = dA 0 := by
    have h1 := (hK1.2 4 (cA, .int) rfl).2
    have h2 := (c9.2 0 (dA 0, .int) rfl).2
    exact Option.some.inj ((va_nm_int h1).symm.trans (va_nm_int h2))
  subst hcA
  have hqD : ∀ i, i < 19 → ad i ≠ q := by
    intro i hi e9
    have g1 : (wsY (YM false) dA ad σ ++ [(q, (.inl (dA 0, 4, .inl (fun _ => 0)) : va_E))])[i]? = some (ad i, cellY (YM false) dA ad σ i) := by
      rw [List.getElem?_append_left (by rw [wsY_len]; exact hi)]
      exact wsY_get (Y := YM false) hi
    have g2 : (wsY (YM false) dA ad σ ++ [(q, (.inl (dA 0, 4, .inl (fun _ => 0)) : va_E))])[19]? = some (q, .inl (dA 0, 4, .inl (fun _ => 0))) := by
      rw [List.getElem?_append_right (by rw [wsY_len]; decide), wsY_len]
      rfl
    have := hD1.1 i 19 _ _ g1 g2 e9
    omega
  have hq : s.heap.size ≤ q := by
    have g2 : (wsY (YM false) dA ad σ ++ [(q, (.inl (dA 0, 4, .inl (fun _ => 0)) : va_E))])[19]? = some (q, .inl (dA 0, 4, .inl (fun _ => 0))) := by
      rw [List.getElem?_append_right (by rw [wsY_len]; decide), wsY_len]
      rfl
    rcases hD1.2 19 _ g2 with ⟨k9, hk9, e9⟩ | h9
    · exact absurd e9.symm (hqD k9 hk9)
    · exact h9
  have hAA := AY_J (ad := ad) hq
  refine h ((p, l, e, R, s), (m, args, below, meth, c), (D, dA, adJ ad q), Q, (1, 4)) ⟨c1, c2, c3, c4, c5, c6, c7, rfl, c9, ?_, ?_, by rw [hrm.1]; exact Nat.le_refl _, by rw [hrm.2]; exact Nat.le_refl _, c14⟩ ⟨ad0, ?_, ?_, r3, rfl⟩ (adJ_old ad q) (rwM σ 19 (fun _ => 0)) x hx H1 locs ls hl (vaP_add hP1) ?_
  · intro i j hi hj e9
    have hi : i < 20 := hi
    have hj : j < 20 := hj
    have e9 : adJ ad q i = adJ ad q j := e9
    by_cases hi9 : i = 19
    · by_cases hj9 : j = 19
      · omega
      · subst hi9
        rw [show adJ ad q 19 = q from rfl, adJ_old ad q j (by omega)] at e9
        exact absurd e9.symm (hqD j (by omega))
    · by_cases hj9 : j = 19
      · subst hj9
        rw [show adJ ad q 19 = q from rfl, adJ_old ad q i (by omega)] at e9
        exact absurd e9 (hqD i (by omega))
      · rw [adJ_old ad q i (by omega), adJ_old ad q j (by omega)] at e9
        exact c10 i j (show i < 19 by omega) (show j < 19 by omega) e9
  · show stOK (AY (YM true) (adJ ad q) s.heap.size) s s.heap
    rw [hAA]
    exact c11
  · intro i hi
    exact (adJ_old ad q i hi).trans (r1 i hi)
  · exact hAA.trans r2
  · show va_S (AY (YM true) (adJ ad q) s.heap.size) s.heap H1 locs
    rw [hAA]
    exact hS1
theorem j_jret {X : CtxT (Int32 × Mem)} (C : Cx (YM true) X nL cc own (some .int) rm) (CR : CRj true X) {v : Int32} (d : decode cc pc = .ok (.ireturn, 1)) : J (YM true) X nL (some (v, σ)) pc L [.int v] σ := by
  intro x hx H locs ls hl hP hS
  obtain ⟨c1, c2, c3, c4, c5, c6, c7, c8, c9, c10, c11, c12, c13, c14⟩ := C
  obtain ⟨ad0, r1, r2, r3, r4⟩ := CR
  cases hx
  rw [r3, show X.2.2.2.2 = (1, 4) from r4]
  rw [r2] at hS
  refine W.iret (v := v) c1 c2 c6 (fun t ht hW => ⟨⟨v, σ, rfl, rfl, ?_, va_K.moved hW.alike c9⟩, hS.F ht⟩) hS.2.2 d c7
  rw [ht, ← wsM_ad r1]
  exact vaP_cut hP
theorem CTj_of {y : MethodName} {av : (Nat → Nat) → List Value} {E : Option (Int32 × Mem)} (hy : plainName y.cls = true) (hsl : ∀ ad, (lg_sl (av ad)).length ≤ nL) (h : ∀ X : CtxT (Int32 × Mem), Cx (YM false) X nL cc y.cls rt rm → CRj false X → J (YM false) X nL E 0 (lv_args 0 (av (adX X))) [] σ) : CTj (YM false) y cc nL rt rm av σ E := by
  intro l D dA ad sz x hE
  refine Met.ofW (cc := cc) (maxL := nL) (ret := rt) hy rfl ?_
  intro p e s m args below meth c s₁ B hml hv
  obtain ⟨rfl, hsz, hP, hK, hD, hst, hnw⟩ := hv
  subst hsz
  have hts := atoms_spec (ws := wT y cc nL rt) B.pre
  have hl := lv_entry (av ad) (n := nL) (hsl ad)
  rw [lg_entry_eq]
  exact h ((p, l, e, (headSpec (wT y cc nL rt) rm).room, s), (m, (av ad).toArray, below, meth, c), (D, dA, ad), (fun x => MQ below (va_Qi (fun r u => (r, u) = x) (PostY (YM false) D dA ad) (AY (YM false) ad s.heap.size)) (av ad).toArray s 1 4 (AY (YM false) ad s.heap.size)), (0, 0)) ⟨B.exec, B.bytes, hml, findClass_of_methodNamed B.named, fun w hw => hts w (List.mem_cons_of_mem _ hw), B.returns, B.notSynchronized, rfl, hK, hD, hst, Nat.zero_le _, Nat.zero_le _, hnw⟩ ⟨ad, fun _ _ => rfl, rfl, rfl, rfl⟩ x hE s.heap [] _ hl hP va_S.rf
/-- what play comes to: one row made, whatever came of it -/
def CRp (X : CtxT (Int32 × Mem)) : Prop := (X.2.2.2.1 = fun x => MQ X.2.1.2.2.1 (va_Qi (fun r u => (r, u) = x) (PostY (YM false) X.2.2.1.1 X.2.2.1.2.1 X.2.2.1.2.2) (AY (YM false) X.2.2.1.2.2 X.1.2.2.2.2.heap.size)) X.2.1.2.1 X.1.2.2.2.2 1 4 (AY (YM false) X.2.2.1.2.2 X.1.2.2.2.2.heap.size)) ∧ X.2.2.2.2 = (0, 0)
theorem j_callJ {X : CtxT (Int32 × Mem)} (C : Cx (YM false) X nL cc own rt rm) (CR : CRp X) {y : MethodName} {ccy : ByteArray} {nLy idx : Nat} {rty : Option FieldType} {rmy : Room} {av : (Nat → Nat) → List Value} {E0 : Option (Int32 × Mem)} {k : Int32 → Mem → Option (Int32 × Mem)} {ci N n : Nat} {Cn : String} {T : u_T} {ty : Nat → FieldType} (hM : CTj (YM false) y ccy nLy rty rmy av σ E0) (hw : CwV own idx Cn y ccy nLy rty n)
    (hR : rmy.cells = 1 ∧ rmy.slots = 4 ∧ rmy.frames + 1 ≤ rm.frames ∧ 8 + (nLy + 11) + rmy.locals ≤ rm.locals) (hrm : rm.cells = 1 ∧ rm.slots = 4) (q : Nat) (hc : KI ci Cn T N ty) (hk : (YM false).2.1 q = (0, ci, N)) (hq : q < (YM false).1) (As rest : List Value) (hav : av (adX X) = .ref (adX X q) :: As) (hn : As.length = n) (hst : st = As.reverse ++ .ref (adX X q) :: rest) (hs8 : (rest.map fun v => v.category).sum ≤ 8) (d : decode cc pc = .ok (.invokevirtual idx, 3))
    (h : ∀ X2 : CtxT (Int32 × Mem), Cx (YM false) X2 nL cc own rt rm → CRi (YM false) X2 → adX X2 = adX X → ∀ r τ, J (YM false) X2 nL (k r τ) (pc + 3) L (.int r :: rest) τ) : J (YM false) X nL (bd E0 k) pc L st σ := by
  intro x hx H locs ls hl hP hS
  obtain ⟨y0, hE, hx⟩ := bd_some hx
  obtain ⟨c1, c2, c3, c4, c5, c6, c7, c8, c9, c10, c11, c12, c13, c14⟩ := C
  obtain ⟨r1, r2, r3, r4⟩ := hR
  obtain ⟨t1, t2⟩ := CR
  rw [← c8] at r3 r4
  have hMet := hM X.1.2.1 X.2.2.1.1 X.2.2.1.2.1 X.2.2.1.2.2 H.size y0 hE
  rw [show av X.2.2.1.2.2 = _ from hav] at hMet
  subst hst
  have hg := wsY_get (Y := YM false) (dA := X.2.2.1.2.1) (ad := X.2.2.1.2.2) (σ := σ) hq
  rw [cellY_obj hk] at hg
  rw [t2]
  refine va_calli (va_runV (g := F0 X.2.1.1 pc ls (As.reverse ++ .ref (adX X q) :: rest)) (As := As) (rest := rest) ⟨c1, c2, c3, c4, c5⟩ hMet (cwV n c5 hw.1 rfl r1 r2 hw.2 ⟨r3, r4⟩) ⟨PreY_blind, va_recv c9 hP hc.1 hg, fun U hU hW => ⟨rfl, PreY_at hP c9 c10 c11 c14 hS hU hW⟩⟩ rfl hn hl.1 rfl (lv_room hs8) d ⟨by rw [c8, hrm.1]; exact Nat.le_refl _, by rw [c8, hrm.2]; exact Nat.le_refl _⟩) hS (fun q _ h => AY_up hS.1 q h) (AY_up hS.1) (fun r u t H1 locs1 ht hvm hpost hB hz hk1 hS1 => ?_)
  obtain ⟨hP1, -⟩ := hB
  rw [ht] at hP1
  subst hpost
  exact h (X.1, X.2.1, X.2.2.1, X.2.2.2.1, (1, 4)) ⟨c1, c2, c3, c4, c5, c6, c7, c8, c9, c10, c11, by rw [hrm.1]; exact Nat.le_refl _, by rw [hrm.2]; exact Nat.le_refl _, c14⟩ t1 rfl r u x hx H1 locs1 ls hl hP1 hS1
theorem CTp_of {y : MethodName} {av : (Nat → Nat) → List Value} {E : Option (Int32 × Mem)} (hy : plainName y.cls = true) (hsl : ∀ ad, (lg_sl (av ad)).length ≤ nL) (h : ∀ X : CtxT (Int32 × Mem), Cx (YM false) X nL cc y.cls rt rm → CRp X → J (YM false) X nL E 0 (lv_args 0 (av (adX X))) [] σ) : CTj (YM false) y cc nL rt rm av σ E := by
  intro l D dA ad sz x hE
  refine Met.ofW (cc := cc) (maxL := nL) (ret := rt) hy rfl ?_
  intro p e s m args below meth c s₁ B hml hv
  obtain ⟨rfl, hsz, hP, hK, hD, hst, hnw⟩ := hv
  subst hsz
  have hts := atoms_spec (ws := wT y cc nL rt) B.pre
  have hl := lv_entry (av ad) (n := nL) (hsl ad)
  rw [lg_entry_eq]
  exact h ((p, l, e, (headSpec (wT y cc nL rt) rm).room, s), (m, (av ad).toArray, below, meth, c), (D, dA, ad), (fun x => MQ below (va_Qi (fun r u => (r, u) = x) (PostY (YM false) D dA ad) (AY (YM false) ad s.heap.size)) (av ad).toArray s 1 4 (AY (YM false) ad s.heap.size)), (0, 0)) ⟨B.exec, B.bytes, hml, findClass_of_methodNamed B.named, fun w hw => hts w (List.mem_cons_of_mem _ hw), B.returns, B.notSynchronized, rfl, hK, hD, hst, Nat.zero_le _, Nat.zero_le _, hnw⟩ ⟨rfl, rfl⟩ x hE s.heap [] _ hl hP va_S.rf
end JJ

