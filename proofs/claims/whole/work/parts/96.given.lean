/-! ===== what the statement gives of the start ===== -/
section GV
variable {s : State} {b : Nat}
theorem g_Nw (hts : ∀ w ∈ lw_tbl, w.before #[Value.ref b] s = true) : NwOK s := by
  have h1 : ∀ q ∈ nF, Cond.fieldLinkNest q.1 q.2.1 q.2.2.1 q.2.2.2.1 q.2.2.2.2.1 q.2.2.2.2.2 ∈ lw_tbl := by decide +kernel
  have h2 : ∀ q ∈ nM, Cond.methodLinkNest q.1 q.2.1 q.2.2.1 q.2.2.2 ∈ lw_tbl := by decide +kernel
  exact ⟨fun q hq => va_tabs rfl rfl (hts _ (h1 q hq)), fun q hq => va_tabs rfl rfl (hts _ (h2 q hq))⟩
theorem g_Ao (hts : ∀ w ∈ lw_tbl, w.before #[Value.ref b] s = true) : AoOK s := ⟨va_AO.of (hts (.arrayOver (.object "StageHouse$Slot")) (by decide +kernel)), va_AO.of (hts (.arrayOver (.object "StageHouse$Actor")) (by decide +kernel))⟩
theorem g_ac {ty : FieldType} (h : (Cond.arrayClass ty).before #[Value.ref b] s = true) : ∃ cA : ClassId, ArrOfT s cA ty ∧ s.vm.findClass ("[" ++ ty.toString) = some cA := by
  obtain ⟨cA, kA, comp, h1, h2, h3⟩ := Cond.arrayClass_spec h
  exact ⟨cA, fun n z => ⟨fun k h => (by cases h), kA, h2, comp, h3⟩, h1⟩
theorem g_ao {C : String} (h : (Cond.arrayOver (.object C)).before #[Value.ref b] s = true) : ∃ cA : ClassId, ArrOfT s cA (.object C) ∧ va_RA s cA (.object C) := by
  obtain ⟨comp, cA, kA, h1, -, h3, h4, h5⟩ := Cond.arrayOver_spec h
  exact ⟨cA, fun n z => ⟨fun k h => (by cases h), kA, h3, comp, h4⟩, kA, comp, h3, h4, h1, h5⟩
theorem g_K (hts : ∀ w ∈ lw_tbl, w.before #[Value.ref b] s = true) : ∃ (D : va_G) (dA : Nat → ClassId), va_K D vwCl (tysY dA) s := by
  have htt : ∀ w ∈ TT, w.before #[Value.ref b] s = true := fun w hw => hts w (List.mem_filter.mp hw).1
  obtain ⟨c0, i0, k0⟩ := u_known (n := 7) htt kX0.2.1 (htt _ kw_276)
  obtain ⟨c1, i1, k1⟩ := u_known (n := 6) htt kX1.2.1 (htt _ kw_384)
  obtain ⟨c2, i2, k2⟩ := u_known (n := 3) htt kX2.2.1 (htt _ kw_153)
  obtain ⟨c3, i3, k3⟩ := u_known (n := 5) htt kX3.2.1 (htt _ kw_131)
  obtain ⟨c4, i4, k4⟩ := u_known (n := 6) htt kX4.2.1 (htt _ kw_205)
  obtain ⟨c5, i5, k5⟩ := u_known (n := 10) htt kX5.2.1 (htt _ kw_439)
  obtain ⟨c6, i6, k6⟩ := u_known (n := 7) htt kX6.2.1 (htt _ kw_241)
  obtain ⟨c7, i7, k7⟩ := u_known (n := 14) htt kX7.2.1 (htt _ kw_232)
  obtain ⟨c8, i8, k8⟩ := u_known (n := 2) htt kX8.2.1 (htt _ kw_137)
  obtain ⟨c9, i9, k9⟩ := u_known (n := 7) htt kX9.2.1 (htt _ kw_411)
  obtain ⟨c10, i10, k10⟩ := u_known (n := 9) htt kX10.2.1 (htt _ kw_123)
  obtain ⟨c11, i11, k11⟩ := u_known (n := 40) htt kX11.2.1 (htt _ kw_1188)
  obtain ⟨a0, x0, y0⟩ := g_ac (htt _ kw_151)
  obtain ⟨a1, x1, y1⟩ := g_ac (htt _ kw_1314)
  obtain ⟨a2, x2, y2⟩ := g_ao (hts (.arrayOver (.object "StageHouse$Slot")) (by decide +kernel))
  obtain ⟨a3, x3, y3⟩ := g_ao (hts (.arrayOver (.object "StageHouse$Actor")) (by decide +kernel))
  refine ⟨(fun k => [c0, c1, c2, c3, c4, c5, c6, c7, c8, c9, c10, c11].getD k c0, fun k => [i0, i1, i2, i3, i4, i5, i6, i7, i8, i9, i10, i11].getD k i0), fun k => [a0, a1, a2, a3].getD k a0, ?_, ?_⟩
  · intro c q hq
    match c, hq with
    | 0, hq => cases hq; exact k0
    | 1, hq => cases hq; exact k1
    | 2, hq => cases hq; exact k2
    | 3, hq => cases hq; exact k3
    | 4, hq => cases hq; exact k4
    | 5, hq => cases hq; exact k5
    | 6, hq => cases hq; exact k6
    | 7, hq => cases hq; exact k7
    | 8, hq => cases hq; exact k8
    | 9, hq => cases hq; exact k9
    | 10, hq => cases hq; exact k10
    | 11, hq => cases hq; exact k11
    | c + 12, hq => cases hq
  · intro k q hq
    match k, hq with
    | 0, hq => cases hq; exact ⟨x0, y0⟩
    | 1, hq => cases hq; exact ⟨x1, y1⟩
    | 2, hq => cases hq; exact ⟨x2, y2⟩
    | 3, hq => cases hq; exact ⟨x3, y3⟩
    | k + 4, hq => cases hq
theorem g_out : ∀ a : Nat, a < s.heap.size → ¬ (fun q : Nat => s.heap.size ≤ q) a := fun _ h => Nat.not_le.mpr h
theorem g_st {nm : String} {N : Nat} {f : Nat → Int32} (hN : N < 2 ^ 31) (hl : (Cond.laysStatic "StageHouse" nm "[I").before #[Value.ref b] s = true) (hini : (Cond.initialized "StageHouse").before #[Value.ref b] s = true) (harr : (Cond.arrayOf (.static "StageHouse" nm "[I") .int).before #[Value.ref b] s = true) (hlen : (Cond.eq (.length (.static "StageHouse" nm "[I")) (.int (Int32.ofNat N))).before #[Value.ref b] s = true) (hel : ∀ j, j < N → (Cond.eq (.elem (.static "StageHouse" nm "[I") (.int (Int32.ofNat j))) (.int (f j))).before #[Value.ref b] s = true) : stO "StageHouse" nm N f (fun q => s.heap.size ≤ q) s s.heap := by
  obtain ⟨t, h1, h2⟩ := va_Tof (N := N) (f := fun j => .int (f j)) (A := fun q => s.heap.size ≤ q) hN harr (va_eqt hlen) (fun j hj => va_eqt (hel j hj)) g_out
  exact ⟨t, va_Zref hl hini h1 g_out, h2⟩
theorem g_stOK (hts : ∀ w ∈ lw_tbl, w.before #[Value.ref b] s = true) (hgv : (Jvm.Cond.and given_1 narrow_1).before #[Value.ref b] s = true) : stOK (fun q => s.heap.size ≤ q) s s.heap := by
  have hg := flat_of_before _ hgv
  have e1 : ∀ j, j < 4 → Cond.eq (.elem (.static "StageHouse" "MARK" "[I") (.int (Int32.ofNat j))) (.int (tbM j)) ∈ flatC (Jvm.Cond.and given_1 narrow_1) := by decide +kernel
  have e2 : ∀ j, j < 34 → Cond.eq (.elem (.static "StageHouse" "ORDER_TARGETS" "[I") (.int (Int32.ofNat j))) (.int (tbT j)) ∈ flatC (Jvm.Cond.and given_1 narrow_1) := by decide +kernel
  have e3 : ∀ j, j < 34 → Cond.eq (.elem (.static "StageHouse" "ORDER_VALUES" "[I") (.int (Int32.ofNat j))) (.int (tbV j)) ∈ flatC (Jvm.Cond.and given_1 narrow_1) := by decide +kernel
  have e4 : ∀ j, j < 34 → Cond.eq (.elem (.static "StageHouse" "ORDER_JUMPS" "[I") (.int (Int32.ofNat j))) (.int (tbJ j)) ∈ flatC (Jvm.Cond.and given_1 narrow_1) := by decide +kernel
  have hi := hts (.initialized "StageHouse") (by decide +kernel)
  exact ⟨g_st (by decide) (hts (.laysStatic "StageHouse" "MARK" "[I") (by decide +kernel)) hi (hg (.arrayOf (.static "StageHouse" "MARK" "[I") .int) (by decide +kernel)) (hg (.eq (.length (.static "StageHouse" "MARK" "[I")) (.int (Int32.ofNat 4))) (by decide +kernel)) (fun j hj => hg _ (e1 j hj)),
    g_st (by decide) (hts (.laysStatic "StageHouse" "ORDER_TARGETS" "[I") (by decide +kernel)) hi (hg (.arrayOf (.static "StageHouse" "ORDER_TARGETS" "[I") .int) (by decide +kernel)) (hg (.eq (.length (.static "StageHouse" "ORDER_TARGETS" "[I")) (.int (Int32.ofNat 34))) (by decide +kernel)) (fun j hj => hg _ (e2 j hj)),
    g_st (by decide) (hts (.laysStatic "StageHouse" "ORDER_VALUES" "[I") (by decide +kernel)) hi (hg (.arrayOf (.static "StageHouse" "ORDER_VALUES" "[I") .int) (by decide +kernel)) (hg (.eq (.length (.static "StageHouse" "ORDER_VALUES" "[I")) (.int (Int32.ofNat 34))) (by decide +kernel)) (fun j hj => hg _ (e3 j hj)),
    g_st (by decide) (hts (.laysStatic "StageHouse" "ORDER_JUMPS" "[I") (by decide +kernel)) hi (hg (.arrayOf (.static "StageHouse" "ORDER_JUMPS" "[I") .int) (by decide +kernel)) (hg (.eq (.length (.static "StageHouse" "ORDER_JUMPS" "[I")) (.int (Int32.ofNat 34))) (by decide +kernel)) (fun j hj => hg _ (e4 j hj))⟩
theorem g_ThOK (hts : ∀ w ∈ lw_tbl, w.before #[Value.ref b] s = true) (hgv : (Jvm.Cond.and given_1 narrow_1).before #[Value.ref b] s = true) : ThOK (fun q => s.heap.size ≤ q) s s.heap := by
  have hg := flat_of_before _ hgv
  have hi := hts (.initialized Bundle.tN) (by decide +kernel)
  have e1 : ∀ q ∈ xTx, Cond.stringRef RX10 q.1 q.2 ∈ lw_tbl := by decide +kernel
  have e2 : ∀ q ∈ xTx, Cond.exactly (.string RX10 q.1) "java/lang/String" ∈ flatC (Jvm.Cond.and given_1 narrow_1) := by decide +kernel
  have e3 : ∀ c ∈ xCa, Cond.castable c c ∈ lw_tbl := by decide +kernel
  have e4 : ∀ y ∈ xDe, Cond.declares y ∈ lw_tbl := by decide +kernel
  refine ⟨vx_Zqof (hts (.laysStatic Bundle.tN "UNASSIGNED_STACK" Bundle.steD) (by decide +kernel)) hi (hg (.isRef (.static Bundle.tN "UNASSIGNED_STACK" Bundle.steD)) (by decide +kernel)) g_out, vx_Zqof (hts (.laysStatic Bundle.tN "SUPPRESSED_SENTINEL" Bundle.listD) (by decide +kernel)) hi (hg (.isRef (.static Bundle.tN "SUPPRESSED_SENTINEL" Bundle.listD)) (by decide +kernel)) g_out, fun q hq => ?_, fun c hc => va_tabs rfl rfl (hts _ (e3 c hc)), fun y hy => va_tabs rfl rfl (hts _ (e4 y hy))⟩
  obtain ⟨a, -, -, -, h1, -⟩ := Cond.exactly_spec (hg _ (e2 q hq))
  exact ⟨a, vk_R.of (hts _ (e1 q hq)) h1⟩
end GV
