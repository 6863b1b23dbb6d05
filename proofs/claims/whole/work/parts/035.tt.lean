/-- the words that every method is given -/
def TT : List Cond := lw_tbl.filter goodWord
abbrev wT (y : MethodName) (cc : ByteArray) (nL : Nat) (rt : Option FieldType) : List Cond := .code y cc nL rt :: TT
theorem TT_of {w : Cond} (i : Nat) (h : lw_tbl[i]? = some w) (hg : goodWord w = true) : w ∈ TT := List.mem_filter.mpr ⟨List.mem_of_getElem? h, hg⟩
theorem TT_good : ∀ w ∈ TT, goodWord w = true := fun _ h => (List.mem_filter.mp h).2
/-- the words on private members of nest mates -/
def nF : List (String × Nat × String × String × String × String) := [(RX5, 165, "StageHouse", "ORDER_TARGETS", "[I", "StageHouse"), (RX5, 174, "StageHouse", "ORDER_VALUES", "[I", "StageHouse"), (RX5, 180, "StageHouse", "ORDER_JUMPS", "[I", "StageHouse"), (RX4, 49, "StageHouse", "MARK", "[I", "StageHouse")]
def nM : List (String × Nat × MethodName × String) := [(RX10, 9, yX3_init, "StageHouse"), (RX3, 11, yX8_init, "StageHouse"), (RX7, 46, yX6_init, "StageHouse"), (RX7, 47, yX0_init, "StageHouse"), (RX10, 40, yX1_init, "StageHouse"), (RX5, 271, yX10_isByte, "StageHouse"), (RX9, 39, yX10_isByte, "StageHouse")]
def NwOK (U : State) : Prop := (∀ q ∈ nF, va_Nw (.fieldLinkNest q.1 q.2.1 q.2.2.1 q.2.2.2.1 q.2.2.2.2.1 q.2.2.2.2.2) U) ∧ ∀ q ∈ nM, va_Nw (.methodLinkNest q.1 q.2.1 q.2.2.1 q.2.2.2) U
theorem NwOK.warm {s U : State} (hW : s.WarmedH U.vm) (h : NwOK s) : NwOK U := ⟨fun q hq => va_Nw.warmF hW (h.1 q hq), fun q hq => va_Nw.warmM hW (h.2 q hq)⟩
theorem NwOK.same {u U : State} (h : u.vm = U.vm) (hz : NwOK u) : NwOK U := ⟨fun q hq => va_Nw.same rfl h (hz.1 q hq), fun q hq => va_Nw.same rfl h (hz.2 q hq)⟩
