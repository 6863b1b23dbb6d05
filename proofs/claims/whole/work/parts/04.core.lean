/-! ===== the pure memory, the layout, the world of a system whose cells stand still ===== -/
abbrev Mem : Type := Nat → Nat → Int32
def stM (σ : Mem) (k j : Nat) (v : Int32) : Mem := fun a b => if a = k then (if b = j then v else σ a b) else σ a b
theorem stM_row (σ : Mem) (k j : Nat) (v : Int32) : (stM σ k j v) k = upd (σ k) j v := by
  funext b
  simp [stM, upd]
theorem stM_ne {σ : Mem} {k j a : Nat} {v : Int32} (h : a ≠ k) : (stM σ k j v) a = σ a := by
  funext b
  simp [stM, h]
/-- a row of a memory in place of another -/
def rwM (σ : Mem) (k : Nat) (f : Nat → Int32) : Mem := fun a => if a = k then f else σ a
theorem rwM_row (σ : Mem) (k : Nat) (f : Nat → Int32) : (rwM σ k f) k = f := by simp [rwM]
theorem rwM_ne {σ : Mem} {k a : Nat} {f : Nat → Int32} (h : a ≠ k) : (rwM σ k f) a = σ a := by simp [rwM, h]
abbrev Lay : Type := Nat × (Nat → Nat × Nat × Nat) × (Nat → Nat → Option (Bool × Nat))
def fvY (Y : Lay) (ad : Nat → Nat) (σ : Mem) (k ci j : Nat) : Value := match Y.2.2 ci j with
  | none => .int (σ k j)
  | some (true, o) => .ref (ad (k + o))
  | some (false, q) => .ref (ad q)
def cellY (Y : Lay) (dA : Nat → ClassId) (ad : Nat → Nat) (σ : Mem) (k : Nat) : va_E := match Y.2.1 k with
  | (0, ci, n) => .inr (ci, (List.range n).map (fvY Y ad σ k ci))
  | (1, n, _) => .inl (dA 0, n, .inl (σ k))
  | (2, n, _) => .inl (dA 1, n, .inl (σ k))
  | (3, n, o) => .inl (dA 2, n, .inr (.inr (.inr (.inr (fun i => some (ad (k + o + 2 * i)))))))
  | (_, n, o) => .inl (dA 3, n, .inr (.inr (.inr (.inr (fun i => some (ad (k + o + i)))))))
def wsY (Y : Lay) (dA : Nat → ClassId) (ad : Nat → Nat) (σ : Mem) : va_W := (List.range Y.1).map (fun k => (ad k, cellY Y dA ad σ k))
def tysY (dA : Nat → ClassId) : List (ClassId × FieldType) := [(dA 0, .int), (dA 1, .boolean), (dA 2, .object "StageHouse$Slot"), (dA 3, .object "StageHouse$Actor")]
theorem wsY_get {Y : Lay} {dA : Nat → ClassId} {ad : Nat → Nat} {σ : Mem} {k : Nat} (h : k < Y.1) : (wsY Y dA ad σ)[k]? = some (ad k, cellY Y dA ad σ k) := by
  simp [wsY, h]
theorem wsY_len {Y : Lay} {dA : Nat → ClassId} {ad : Nat → Nat} {σ : Mem} : (wsY Y dA ad σ).length = Y.1 := by simp [wsY]
theorem wsY_inv {Y : Lay} {dA : Nat → ClassId} {ad : Nat → Nat} {σ : Mem} {k : Nat} {q : Nat × va_E} (h : (wsY Y dA ad σ)[k]? = some q) : k < Y.1 ∧ q = (ad k, cellY Y dA ad σ k) := by
  have hk : k < Y.1 := by
    have := (List.getElem?_eq_some_iff.mp h).1
    rwa [wsY_len] at this
  rw [wsY_get hk] at h
  exact ⟨hk, (Option.some.inj h).symm⟩
theorem cellY_obj {Y : Lay} {dA : Nat → ClassId} {ad : Nat → Nat} {σ : Mem} {k ci n : Nat} (h : Y.2.1 k = (0, ci, n)) : cellY Y dA ad σ k = .inr (ci, (List.range n).map (fvY Y ad σ k ci)) := by
  simp [cellY, h]
theorem cellY_int {Y : Lay} {dA : Nat → ClassId} {ad : Nat → Nat} {σ : Mem} {k n o : Nat} (h : Y.2.1 k = (1, n, o)) : cellY Y dA ad σ k = .inl (dA 0, n, .inl (σ k)) := by
  simp [cellY, h]
theorem cellY_bool {Y : Lay} {dA : Nat → ClassId} {ad : Nat → Nat} {σ : Mem} {k n o : Nat} (h : Y.2.1 k = (2, n, o)) : cellY Y dA ad σ k = .inl (dA 1, n, .inl (σ k)) := by
  simp [cellY, h]
theorem cellY_r3 {Y : Lay} {dA : Nat → ClassId} {ad : Nat → Nat} {σ : Mem} {k n o : Nat} (h : Y.2.1 k = (3, n, o)) : cellY Y dA ad σ k = .inl (dA 2, n, .inr (.inr (.inr (.inr (fun i => some (ad (k + o + 2 * i))))))) := by
  simp [cellY, h]
theorem cellY_r4 {Y : Lay} {dA : Nat → ClassId} {ad : Nat → Nat} {σ : Mem} {k n o : Nat} (h : Y.2.1 k = (4, n, o)) : cellY Y dA ad σ k = .inl (dA 3, n, .inr (.inr (.inr (.inr (fun i => some (ad (k + o + i))))))) := by
  simp [cellY, h]
/-- a cell's contents look at its own row of the memory alone -/
theorem cellY_ext {Y : Lay} {dA : Nat → ClassId} {ad : Nat → Nat} {σ τ : Mem} {k : Nat} (h : σ k = τ k) : cellY Y dA ad σ k = cellY Y dA ad τ k := by
  have hf : ∀ ci, fvY Y ad σ k ci = fvY Y ad τ k ci := by
    intro ci
    funext j
    simp only [fvY, h]
  simp only [cellY, h, hf]
theorem wsY_set {Y : Lay} {dA : Nat → ClassId} {ad : Nat → Nat} {σ τ : Mem} {k : Nat} (hk : k < Y.1) (ho : ∀ a, a ≠ k → τ a = σ a) : (wsY Y dA ad σ).set k (ad k, cellY Y dA ad τ k) = wsY Y dA ad τ := by
  apply List.ext_getElem?
  intro i
  rw [List.getElem?_set]
  by_cases h : k = i
  · subst h
    simp [wsY, hk]
  · rw [if_neg h]
    by_cases hi : i < Y.1
    · rw [wsY_get hi, wsY_get hi, cellY_ext (ho i (Ne.symm h))]
    · rw [List.getElem?_eq_none (by rw [wsY_len]; omega), List.getElem?_eq_none (by rw [wsY_len]; omega)]
theorem wsY_fld {Y : Lay} {dA : Nat → ClassId} {ad : Nat → Nat} {σ : Mem} {k ci n j : Nat} {v : Int32} (hk : k < Y.1) (h : Y.2.1 k = (0, ci, n)) (hj : Y.2.2 ci j = none) : (wsY Y dA ad σ).set k (ad k, .inr (ci, ((List.range n).map (fvY Y ad σ k ci)).set j (.int v))) = wsY Y dA ad (stM σ k j v) := by
  have e : (Sum.inr (ci, ((List.range n).map (fvY Y ad σ k ci)).set j (Value.int v)) : va_E) = cellY Y dA ad (stM σ k j v) k := by
    rw [cellY_obj h]
    congr 2
    apply List.ext_getElem?
    intro i
    rw [List.getElem?_set]
    by_cases e : j = i
    · subst e
      by_cases hn : j < n
      · simp [hn, fvY, hj, stM]
      · simp [hn]
    · rw [if_neg e]
      by_cases hn : i < n
      · simp only [List.getElem?_map, List.getElem?_range hn, Option.map_some]
        congr 1
        simp only [fvY]
        cases Y.2.2 ci i with
        | none => simp [stM, Ne.symm e]
        | some q => obtain ⟨b, o⟩ := q; cases b <;> rfl
      · simp [hn]
  rw [e]
  exact wsY_set hk fun a ha => stM_ne ha
theorem wsY_arr {Y : Lay} {dA : Nat → ClassId} {ad : Nat → Nat} {σ : Mem} {k n o j : Nat} {v : Int32} (hk : k < Y.1) (h : Y.2.1 k = (1, n, o)) : (wsY Y dA ad σ).set k (ad k, .inl (dA 0, n, .inl (upd (σ k) j v))) = wsY Y dA ad (stM σ k j v) := by
  rw [← stM_row, ← cellY_int (Y := Y) (dA := dA) (ad := ad) (σ := stM σ k j v) h]
  exact wsY_set hk fun a ha => stM_ne ha
theorem wsY_barr {Y : Lay} {dA : Nat → ClassId} {ad : Nat → Nat} {σ : Mem} {k n o j : Nat} {v : Int32} (hk : k < Y.1) (h : Y.2.1 k = (2, n, o)) : (wsY Y dA ad σ).set k (ad k, .inl (dA 1, n, .inl (upd (σ k) j v))) = wsY Y dA ad (stM σ k j v) := by
  rw [← stM_row, ← cellY_bool (Y := Y) (dA := dA) (ad := ad) (σ := stM σ k j v) h]
  exact wsY_set hk fun a ha => stM_ne ha
theorem wsY_row {Y : Lay} {dA : Nat → ClassId} {ad : Nat → Nat} {σ : Mem} {k n o : Nat} {f : Nat → Int32} (hk : k < Y.1) (h : Y.2.1 k = (1, n, o)) : (wsY Y dA ad σ).set k (ad k, .inl (dA 0, n, .inl f)) = wsY Y dA ad (rwM σ k f) := by
  have e : (rwM σ k f) k = f := rwM_row σ k f
  have e2 : cellY Y dA ad (rwM σ k f) k = .inl (dA 0, n, .inl f) := by rw [cellY_int h, e]
  rw [← e2]
  exact wsY_set hk fun a ha => rwM_ne ha
/-- the addresses are apart -/
def adOK (Y : Lay) (ad : Nat → Nat) : Prop := ∀ i j, i < Y.1 → j < Y.1 → ad i = ad j → i = j
/-- where a method may write: its world's cells, and new ones -/
def AY (Y : Lay) (ad : Nat → Nat) (sz : Nat) : Nat → Prop := fun q => (∃ k, k < Y.1 ∧ q = ad k) ∨ sz ≤ q
theorem adOK.D {Y : Lay} {dA : Nat → ClassId} {ad : Nat → Nat} (h : adOK Y ad) (σ : Mem) (sz : Nat) : va_D (AY Y ad sz) (wsY Y dA ad σ) := by
  constructor
  · intro i j a b hi hj e
    obtain ⟨h1, rfl⟩ := wsY_inv hi
    obtain ⟨h2, rfl⟩ := wsY_inv hj
    exact h i j h1 h2 e
  · intro k q hq
    obtain ⟨h1, rfl⟩ := wsY_inv hq
    exact Or.inl ⟨k, h1, rfl⟩
/-! the tables that the class keeps as statics: what each holds -/
def tbM : Nat → Int32 := fun j => ([80, 76, 65, 89] : List Int32).getD j 0
def tbT : Nat → Int32 := fun j => ([0, 0, 0, 1, 1, 1, 1, 1, 0, 0, 0, 0, 0, 0, 0, 0, 0, 0, 0, 0, 0, 0, 0, 1, 1, 1, 1, 1, 1, 1, 1, 1, 1, 0] : List Int32).getD j 0
def tbV : Nat → Int32 := fun j => ([0, 0, 0, 1, 1, 1, 1, 1, 2, 2, 1, 1, 1, 4, 3, 1, 2, 2, 2, 3, 1, 3, 1, 1, 1, 1, 1, 1, 1, 1, 1, 2, 1, 1] : List Int32).getD j 0
def tbJ : Nat → Int32 := fun j => ([0, 0, 1, 0, 0, 0, 0, 0, 1, 1, 0, 0, 0, 0, 0, 0, 0, 0, 0, 0, 0, 0, 0, 0, 0, 0, 0, 0, 0, 0, 0, 0, 0, 0] : List Int32).getD j 0
def stO (C nm : String) (N : Nat) (f : Nat → Int32) (A : Nat → Prop) (U : State) (H : Heap) : Prop := ∃ t : Nat, va_Z C nm "[I" (.ref t) A U H ∧ va_T .int t N (fun j => .int (f j)) A U H
def stOK (A : Nat → Prop) (U : State) (H : Heap) : Prop := stO "StageHouse" "MARK" 4 tbM A U H ∧ stO "StageHouse" "ORDER_TARGETS" 34 tbT A U H ∧ stO "StageHouse" "ORDER_VALUES" 34 tbV A U H ∧ stO "StageHouse" "ORDER_JUMPS" 34 tbJ A U H
theorem stO.via {C nm : String} {N : Nat} {f : Nat → Int32} {A B : Nat → Prop} {u U : State} {H H1 : Heap} (h : stO C nm N f A u H) (hvm : u.vm.Alike U.vm) (hq : ∀ a : Nat, a < H.size → ¬ A a → H1[a]? = H[a]?) (hAB : ∀ q, B q → A q) : stO C nm N f B U H1 := by
  obtain ⟨t, h1, h2⟩ := h
  exact ⟨t, ((h1.moved hvm).kept hq).narrow hAB, ((h2.moved hvm).kept hq).narrow hAB⟩
theorem stOK.via {A B : Nat → Prop} {u U : State} {H H1 : Heap} (h : stOK A u H) (hvm : u.vm.Alike U.vm) (hq : ∀ a : Nat, a < H.size → ¬ A a → H1[a]? = H[a]?) (hAB : ∀ q, B q → A q) : stOK B U H1 :=
  ⟨h.1.via hvm hq hAB, h.2.1.via hvm hq hAB, h.2.2.1.via hvm hq hAB, h.2.2.2.via hvm hq hAB⟩
/-- what holds of the heap when a method is called -/
def PreY (Y : Lay) (D : va_G) (dA : Nat → ClassId) (ad : Nat → Nat) (σ : Mem) (sz : Nat) (U : State) : Prop := U.heap.size = sz ∧ va_P D vwCl (wsY Y dA ad σ) U.heap ∧ va_K D vwCl (tysY dA) U ∧ adOK Y ad ∧ stOK (AY Y ad sz) U U.heap ∧ NwOK U
def PostY (Y : Lay) (D : va_G) (dA : Nat → ClassId) (ad : Nat → Nat) (τ : Mem) (t : State) : Prop := va_P D vwCl (wsY Y dA ad τ) t.heap ∧ va_K D vwCl (tysY dA) t
/-- contracts: int, void -/
def CTi (Y : Lay) (y : MethodName) (cc : ByteArray) (nL : Nat) (rt : Option FieldType) (rm : Room) (av : (Nat → Nat) → List Value) (σ : Mem) (E : Option (Int32 × Mem)) : Prop :=
  ∀ (l : Launch) (D : va_G) (dA : Nat → ClassId) (ad : Nat → Nat) (sz : Nat) (x : Int32 × Mem), E = some x → Met l y (wT y cc nL rt) rm (va_Pc (av ad) (PreY Y D dA ad σ sz)) (va_Qi (fun r u => (r, u) = x) (PostY Y D dA ad) (AY Y ad sz)) 0 0 (AY Y ad sz)
def CTn (Y : Lay) (y : MethodName) (cc : ByteArray) (nL : Nat) (rt : Option FieldType) (rm : Room) (av : (Nat → Nat) → List Value) (σ : Mem) (E : Option Mem) : Prop :=
  ∀ (l : Launch) (D : va_G) (dA : Nat → ClassId) (ad : Nat → Nat) (sz : Nat) (x : Mem), E = some x → Met l y (wT y cc nL rt) rm (va_Pc (av ad) (PreY Y D dA ad σ sz)) (va_Qv (fun u => u = x) (PostY Y D dA ad) (AY Y ad sz)) 0 0 (AY Y ad sz)
/-! a walk's fixed things in one -/
abbrev CtxT (ω : Type) : Type := (Program × Launch × Env × Room × State) × (MethodId × Array Value × List Frame × Method × Code) × (va_G × (Nat → ClassId) × (Nat → Nat)) × (ω → State → Prop) × (Nat × Nat)
def adX {ω : Type} (X : CtxT ω) : Nat → Nat := X.2.2.1.2.2
/-- at pc, with locals L, stack st and memory σ, the method comes to what E says -/
def J {ω : Type} (Y : Lay) (X : CtxT ω) (nL : Nat) (E : Option ω) (pc : Nat) (L : List (Nat × Value)) (st : List Value) (σ : Mem) : Prop :=
  ∀ x, E = some x → ∀ (H : Heap) (locs : List Loc) (ls : Array Slot), lv_has ls nL L → va_P X.2.2.1.1 vwCl (wsY Y X.2.2.1.2.1 X.2.2.1.2.2 σ) H → va_S (AY Y X.2.2.1.2.2 X.1.2.2.2.2.heap.size) X.1.2.2.2.2.heap H locs →
    W X.1.1 X.1.2.1 X.1.2.2.1 X.1.2.2.2.1 X.1.2.2.2.2 X.2.1.1 X.2.1.2.1 X.2.1.2.2.1 X.2.1.2.2.2.1 X.2.1.2.2.2.2 H locs X.2.2.2.2.1 X.2.2.2.2.2 (X.2.2.2.1 x) (F0 X.2.1.1 pc ls st)
def Cx {ω : Type} (Y : Lay) (X : CtxT ω) (nL : Nat) (cc : ByteArray) (own : String) (rt : Option FieldType) (rm : Room) : Prop :=
  X.1.1.tables.exec = Jvm.exec ∧ X.2.1.2.2.2.2.code = cc ∧ X.2.1.2.2.2.2.maxLocals = nL ∧ X.1.2.2.2.2.vm.findClass own = some X.2.1.1.cls ∧ (∀ w ∈ TT, w.before X.2.1.2.1 X.1.2.2.2.2 = true) ∧ X.2.1.2.2.2.1.sig.returnType = rt ∧ X.2.1.2.2.2.1.locks = false ∧ X.1.2.2.2.1 = rm ∧ va_K X.2.2.1.1 vwCl (tysY X.2.2.1.2.1) X.1.2.2.2.2 ∧ adOK Y X.2.2.1.2.2 ∧ stOK (AY Y X.2.2.1.2.2 X.1.2.2.2.2.heap.size) X.1.2.2.2.2 X.1.2.2.2.2.heap ∧ X.2.2.2.2.1 ≤ rm.cells ∧ X.2.2.2.2.2 ≤ rm.slots ∧ NwOK X.1.2.2.2.2
def CRi (Y : Lay) (X : CtxT (Int32 × Mem)) : Prop := X.2.2.2.1 = fun x => MQ X.2.1.2.2.1 (va_Qi (fun r u => (r, u) = x) (PostY Y X.2.2.1.1 X.2.2.1.2.1 X.2.2.1.2.2) (AY Y X.2.2.1.2.2 X.1.2.2.2.2.heap.size)) X.2.1.2.1 X.1.2.2.2.2 X.2.2.2.2.1 X.2.2.2.2.2 (AY Y X.2.2.1.2.2 X.1.2.2.2.2.heap.size)
def CRn (Y : Lay) (X : CtxT Mem) : Prop := X.2.2.2.1 = fun x => MQ X.2.1.2.2.1 (va_Qv (fun u => u = x) (PostY Y X.2.2.1.1 X.2.2.1.2.1 X.2.2.1.2.2) (AY Y X.2.2.1.2.2 X.1.2.2.2.2.heap.size)) X.2.1.2.1 X.1.2.2.2.2 X.2.2.2.2.1 X.2.2.2.2.2 (AY Y X.2.2.1.2.2 X.1.2.2.2.2.heap.size)
/-! words of the pure functions -/
abbrev inb (i : Int32) (n : Nat) : Prop := 0 ≤ i.toInt ∧ i.toInt < (n : Int)
def ck {ω : Type} (c : Prop) [Decidable c] (k : Option ω) : Option ω := if c then k else none
def lt {α β : Type} (v : α) (k : α → β) : β := k v
def bd {ω : Type} (o : Option (Int32 × Mem)) (k : Int32 → Mem → Option ω) : Option ω := match o with
  | none => none
  | some x => k x.1 x.2
def bv {ω : Type} (o : Option Mem) (k : Mem → Option ω) : Option ω := match o with
  | none => none
  | some x => k x
abbrev okZ (v : Int32) : Prop := v = 0 ∨ v = 1
theorem inb_in {i : Int32} {n : Nat} (h : inb i n) : vp_in i n := vp_in_iff.mpr h
