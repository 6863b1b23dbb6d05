/-! ===== the helpers ===== -/
def rm_L_play : Room := { frames := 7, cells := 1, slots := 6, locals := 153 }
set_option maxRecDepth 100000 in
theorem c_L_play (n : Nat)  (s0 : Mem) : CTh yL_play cL_play 3 [(0, 8, 11, 13)] rm_L_play (fun ad o => [.ref (ad 0), .ref o]) s0 (f_X10_play n  s0) := by
  intro l hst D dA ad cL o v sz x hE
  refine Met_ofWH (cc := cL_play) (maxL := 3) (ret := some .int) (hh := [(0, 8, 11, 13)]) (by decide) rfl ?_
  intro p e s m args below meth c s₁ B hml hv
  obtain ⟨rfl, hPre⟩ := hv
  have hsz : s.heap.size = sz := hPre.1.1.1
  subst hsz
  have hx := B.exec
  have hb := B.bytes
  have hts0 := atoms_spec (ws := wH yL_play cL_play 3 [(0, 8, 11, 13)]) B.pre
  have hl := lv_entry ([.ref (ad 0), .ref o]) (n := 3) (Nat.le_of_ble_eq_true rfl)
  rw [lg_entry_eq]
  generalize (lg_sl ([.ref (ad 0), .ref o]) ++ List.replicate (3 - (lg_sl ([.ref (ad 0), .ref o])).length) Slot.unset).toArray = ls at hl ⊢
  have hl : lv_has ls 3 [(0, .ref (ad 0)), (1, .ref o)] := hl
  refine lv_aload_n hx hb dL_play_0 rfl (lv_at hl 1 rfl) ?_
  refine lv_iconst (v := 0) hx hb dL_play_1 (by decide) ?_
  refine lv_aload_n hx hb dL_play_2 rfl (lv_at hl 0 rfl) ?_
  exact h_tail (y := yX10_play) (As := []) (hp2 := 12) (tgt := 14) hst hx hb hml (findClass_of_methodNamed B.named) (fun w hw => hts0 w (List.mem_cons_of_mem _ hw)) B.returns B.notSynchronized hPre hl.1 (c_X10_play n  s0) hE cwl_7 ⟨(Nat.le_of_ble_eq_true rfl), (Nat.le_of_ble_eq_true rfl)⟩ rfl rfl ⟨(Nat.le_of_ble_eq_true rfl), (Nat.le_of_ble_eq_true rfl)⟩ rfl rfl (vx_table (x := yL_play) B (hts0 _ List.mem_cons_self)) (by decide) (by decide) lk_909 (by decide +kernel) dL_play_3 dL_play_6 dL_play_7 dL_play_8 (by decide) dL_play_14 dL_play_15 dL_play_12 dL_play_13 (fun Q H locs q k => lv_astore_n hx hb dL_play_11 rfl hl (by decide) rfl (fun ls' _ => k ls'))
def rm_L_set : Room := { frames := 7, cells := 1, slots := 6, locals := 113 }
set_option maxRecDepth 100000 in
theorem c_L_set (n : Nat) (l1 : Int32) (l2 : Int32) (s0 : Mem) : CTh yL_set cL_set 5 [(0, 10, 13, 19)] rm_L_set (fun ad o => [.ref (ad 0), .int l1, .int l2, .ref o]) s0 (f_X10_set n l1 l2 s0) := by
  intro l hst D dA ad cL o v sz x hE
  refine Met_ofWH (cc := cL_set) (maxL := 5) (ret := some .int) (hh := [(0, 10, 13, 19)]) (by decide) rfl ?_
  intro p e s m args below meth c s₁ B hml hv
  obtain ⟨rfl, hPre⟩ := hv
  have hsz : s.heap.size = sz := hPre.1.1.1
  subst hsz
  have hx := B.exec
  have hb := B.bytes
  have hts0 := atoms_spec (ws := wH yL_set cL_set 5 [(0, 10, 13, 19)]) B.pre
  have hl := lv_entry ([.ref (ad 0), .int l1, .int l2, .ref o]) (n := 5) (Nat.le_of_ble_eq_true rfl)
  rw [lg_entry_eq]
  generalize (lg_sl ([.ref (ad 0), .int l1, .int l2, .ref o]) ++ List.replicate (5 - (lg_sl ([.ref (ad 0), .int l1, .int l2, .ref o])).length) Slot.unset).toArray = ls at hl ⊢
  have hl : lv_has ls 5 [(0, .ref (ad 0)), (1, .int l1), (2, .int l2), (3, .ref o)] := hl
  refine lv_aload_n hx hb dL_set_0 rfl (lv_at hl 3 rfl) ?_
  refine lv_iconst (v := 0) hx hb dL_set_1 (by decide) ?_
  refine lv_aload_n hx hb dL_set_2 rfl (lv_at hl 0 rfl) ?_
  refine lv_iload_n hx hb dL_set_3 rfl (lv_at hl 1 rfl) ?_
  refine lv_iload_n hx hb dL_set_4 rfl (lv_at hl 2 rfl) ?_
  exact h_tail (y := yX10_set) (As := [.int l1, .int l2]) (hp2 := 15) (tgt := 17) hst hx hb hml (findClass_of_methodNamed B.named) (fun w hw => hts0 w (List.mem_cons_of_mem _ hw)) B.returns B.notSynchronized hPre hl.1 (c_X10_set n l1 l2 s0) hE cwl_15 ⟨(Nat.le_of_ble_eq_true rfl), (Nat.le_of_ble_eq_true rfl)⟩ rfl rfl ⟨(Nat.le_of_ble_eq_true rfl), (Nat.le_of_ble_eq_true rfl)⟩ rfl rfl (vx_table (x := yL_play) B (hts0 _ List.mem_cons_self)) (by decide) (by decide) lk_1113 (by decide +kernel) dL_set_5 dL_set_8 dL_set_9 dL_set_10 (by decide) dL_set_17 dL_set_18 dL_set_15 dL_set_16 (fun Q H locs q k => lv_astore hx hb dL_set_13 hl (by decide) rfl (fun ls' _ => k ls'))
def rm_L_variable : Room := { frames := 7, cells := 1, slots := 6, locals := 111 }
set_option maxRecDepth 100000 in
theorem c_L_variable (n : Nat) (l1 : Int32) (s0 : Mem) : CTh yL_variable cL_variable 4 [(0, 9, 12, 19)] rm_L_variable (fun ad o => [.ref (ad 0), .int l1, .ref o]) s0 (f_X10_variable n l1 s0) := by
  intro l hst D dA ad cL o v sz x hE
  refine Met_ofWH (cc := cL_variable) (maxL := 4) (ret := some .int) (hh := [(0, 9, 12, 19)]) (by decide) rfl ?_
  intro p e s m args below meth c s₁ B hml hv
  obtain ⟨rfl, hPre⟩ := hv
  have hsz : s.heap.size = sz := hPre.1.1.1
  subst hsz
  have hx := B.exec
  have hb := B.bytes
  have hts0 := atoms_spec (ws := wH yL_variable cL_variable 4 [(0, 9, 12, 19)]) B.pre
  have hl := lv_entry ([.ref (ad 0), .int l1, .ref o]) (n := 4) (Nat.le_of_ble_eq_true rfl)
  rw [lg_entry_eq]
  generalize (lg_sl ([.ref (ad 0), .int l1, .ref o]) ++ List.replicate (4 - (lg_sl ([.ref (ad 0), .int l1, .ref o])).length) Slot.unset).toArray = ls at hl ⊢
  have hl : lv_has ls 4 [(0, .ref (ad 0)), (1, .int l1), (2, .ref o)] := hl
  refine lv_aload_n hx hb dL_variable_0 rfl (lv_at hl 2 rfl) ?_
  refine lv_iconst (v := 0) hx hb dL_variable_1 (by decide) ?_
  refine lv_aload_n hx hb dL_variable_2 rfl (lv_at hl 0 rfl) ?_
  refine lv_iload_n hx hb dL_variable_3 rfl (lv_at hl 1 rfl) ?_
  exact h_tail (y := yX10_variable) (As := [.int l1]) (hp2 := 13) (tgt := 15) hst hx hb hml (findClass_of_methodNamed B.named) (fun w hw => hts0 w (List.mem_cons_of_mem _ hw)) B.returns B.notSynchronized hPre hl.1 (c_X10_variable n l1 s0) hE cwl_21 ⟨(Nat.le_of_ble_eq_true rfl), (Nat.le_of_ble_eq_true rfl)⟩ rfl rfl ⟨(Nat.le_of_ble_eq_true rfl), (Nat.le_of_ble_eq_true rfl)⟩ rfl rfl (vx_table (x := yL_play) B (hts0 _ List.mem_cons_self)) (by decide) (by decide) lk_1113 (by decide +kernel) dL_variable_4 dL_variable_7 dL_variable_8 dL_variable_9 (by decide) dL_variable_15 dL_variable_16 dL_variable_13 dL_variable_14 (fun Q H locs q k => lv_astore_n hx hb dL_variable_12 rfl hl (by decide) rfl (fun ls' _ => k ls'))
def rm_L_actor : Room := { frames := 7, cells := 1, slots := 6, locals := 113 }
set_option maxRecDepth 100000 in
theorem c_L_actor (n : Nat) (l1 : Int32) (l2 : Int32) (s0 : Mem) : CTh yL_actor cL_actor 5 [(0, 10, 13, 19)] rm_L_actor (fun ad o => [.ref (ad 0), .int l1, .int l2, .ref o]) s0 (f_X10_actor n l1 l2 s0) := by
  intro l hst D dA ad cL o v sz x hE
  refine Met_ofWH (cc := cL_actor) (maxL := 5) (ret := some .int) (hh := [(0, 10, 13, 19)]) (by decide) rfl ?_
  intro p e s m args below meth c s₁ B hml hv
  obtain ⟨rfl, hPre⟩ := hv
  have hsz : s.heap.size = sz := hPre.1.1.1
  subst hsz
  have hx := B.exec
  have hb := B.bytes
  have hts0 := atoms_spec (ws := wH yL_actor cL_actor 5 [(0, 10, 13, 19)]) B.pre
  have hl := lv_entry ([.ref (ad 0), .int l1, .int l2, .ref o]) (n := 5) (Nat.le_of_ble_eq_true rfl)
  rw [lg_entry_eq]
  generalize (lg_sl ([.ref (ad 0), .int l1, .int l2, .ref o]) ++ List.replicate (5 - (lg_sl ([.ref (ad 0), .int l1, .int l2, .ref o])).length) Slot.unset).toArray = ls at hl ⊢
  have hl : lv_has ls 5 [(0, .ref (ad 0)), (1, .int l1), (2, .int l2), (3, .ref o)] := hl
  refine lv_aload_n hx hb dL_actor_0 rfl (lv_at hl 3 rfl) ?_
  refine lv_iconst (v := 0) hx hb dL_actor_1 (by decide) ?_
  refine lv_aload_n hx hb dL_actor_2 rfl (lv_at hl 0 rfl) ?_
  refine lv_iload_n hx hb dL_actor_3 rfl (lv_at hl 1 rfl) ?_
  refine lv_iload_n hx hb dL_actor_4 rfl (lv_at hl 2 rfl) ?_
  exact h_tail (y := yX10_actor) (As := [.int l1, .int l2]) (hp2 := 15) (tgt := 17) hst hx hb hml (findClass_of_methodNamed B.named) (fun w hw => hts0 w (List.mem_cons_of_mem _ hw)) B.returns B.notSynchronized hPre hl.1 (c_X10_actor n l1 l2 s0) hE cwl_25 ⟨(Nat.le_of_ble_eq_true rfl), (Nat.le_of_ble_eq_true rfl)⟩ rfl rfl ⟨(Nat.le_of_ble_eq_true rfl), (Nat.le_of_ble_eq_true rfl)⟩ rfl rfl (vx_table (x := yL_play) B (hts0 _ List.mem_cons_self)) (by decide) (by decide) lk_1113 (by decide +kernel) dL_actor_5 dL_actor_8 dL_actor_9 dL_actor_10 (by decide) dL_actor_17 dL_actor_18 dL_actor_15 dL_actor_16 (fun Q H locs q k => lv_astore hx hb dL_actor_13 hl (by decide) rfl (fun ls' _ => k ls'))
def rm_L_object : Room := { frames := 7, cells := 1, slots := 6, locals := 112 }
set_option maxRecDepth 100000 in
theorem c_L_object (n : Nat) (l1 : Int32) (l2 : Int32) (s0 : Mem) : CTh yL_object cL_object 5 [(0, 10, 13, 19)] rm_L_object (fun ad o => [.ref (ad 0), .int l1, .int l2, .ref o]) s0 (f_X10_object n l1 l2 s0) := by
  intro l hst D dA ad cL o v sz x hE
  refine Met_ofWH (cc := cL_object) (maxL := 5) (ret := some .int) (hh := [(0, 10, 13, 19)]) (by decide) rfl ?_
  intro p e s m args below meth c s₁ B hml hv
  obtain ⟨rfl, hPre⟩ := hv
  have hsz : s.heap.size = sz := hPre.1.1.1
  subst hsz
  have hx := B.exec
  have hb := B.bytes
  have hts0 := atoms_spec (ws := wH yL_object cL_object 5 [(0, 10, 13, 19)]) B.pre
  have hl := lv_entry ([.ref (ad 0), .int l1, .int l2, .ref o]) (n := 5) (Nat.le_of_ble_eq_true rfl)
  rw [lg_entry_eq]
  generalize (lg_sl ([.ref (ad 0), .int l1, .int l2, .ref o]) ++ List.replicate (5 - (lg_sl ([.ref (ad 0), .int l1, .int l2, .ref o])).length) Slot.unset).toArray = ls at hl ⊢
  have hl : lv_has ls 5 [(0, .ref (ad 0)), (1, .int l1), (2, .int l2), (3, .ref o)] := hl
  refine lv_aload_n hx hb dL_object_0 rfl (lv_at hl 3 rfl) ?_
  refine lv_iconst (v := 0) hx hb dL_object_1 (by decide) ?_
  refine lv_aload_n hx hb dL_object_2 rfl (lv_at hl 0 rfl) ?_
  refine lv_iload_n hx hb dL_object_3 rfl (lv_at hl 1 rfl) ?_
  refine lv_iload_n hx hb dL_object_4 rfl (lv_at hl 2 rfl) ?_
  exact h_tail (y := yX10_object) (As := [.int l1, .int l2]) (hp2 := 15) (tgt := 17) hst hx hb hml (findClass_of_methodNamed B.named) (fun w hw => hts0 w (List.mem_cons_of_mem _ hw)) B.returns B.notSynchronized hPre hl.1 (c_X10_object n l1 l2 s0) hE cwl_28 ⟨(Nat.le_of_ble_eq_true rfl), (Nat.le_of_ble_eq_true rfl)⟩ rfl rfl ⟨(Nat.le_of_ble_eq_true rfl), (Nat.le_of_ble_eq_true rfl)⟩ rfl rfl (vx_table (x := yL_play) B (hts0 _ List.mem_cons_self)) (by decide) (by decide) lk_1113 (by decide +kernel) dL_object_5 dL_object_8 dL_object_9 dL_object_10 (by decide) dL_object_17 dL_object_18 dL_object_15 dL_object_16 (fun Q H locs q k => lv_astore hx hb dL_object_13 hl (by decide) rfl (fun ls' _ => k ls'))
def rm_L_note : Room := { frames := 7, cells := 1, slots := 6, locals := 111 }
set_option maxRecDepth 100000 in
theorem c_L_note (n : Nat) (l1 : Int32) (s0 : Mem) : CTh yL_note cL_note 4 [(0, 9, 12, 19)] rm_L_note (fun ad o => [.ref (ad 0), .int l1, .ref o]) s0 (f_X10_note n l1 s0) := by
  intro l hst D dA ad cL o v sz x hE
  refine Met_ofWH (cc := cL_note) (maxL := 4) (ret := some .int) (hh := [(0, 9, 12, 19)]) (by decide) rfl ?_
  intro p e s m args below meth c s₁ B hml hv
  obtain ⟨rfl, hPre⟩ := hv
  have hsz : s.heap.size = sz := hPre.1.1.1
  subst hsz
  have hx := B.exec
  have hb := B.bytes
  have hts0 := atoms_spec (ws := wH yL_note cL_note 4 [(0, 9, 12, 19)]) B.pre
  have hl := lv_entry ([.ref (ad 0), .int l1, .ref o]) (n := 4) (Nat.le_of_ble_eq_true rfl)
  rw [lg_entry_eq]
  generalize (lg_sl ([.ref (ad 0), .int l1, .ref o]) ++ List.replicate (4 - (lg_sl ([.ref (ad 0), .int l1, .ref o])).length) Slot.unset).toArray = ls at hl ⊢
  have hl : lv_has ls 4 [(0, .ref (ad 0)), (1, .int l1), (2, .ref o)] := hl
  refine lv_aload_n hx hb dL_note_0 rfl (lv_at hl 2 rfl) ?_
  refine lv_iconst (v := 0) hx hb dL_note_1 (by decide) ?_
  refine lv_aload_n hx hb dL_note_2 rfl (lv_at hl 0 rfl) ?_
  refine lv_iload_n hx hb dL_note_3 rfl (lv_at hl 1 rfl) ?_
  exact h_tail (y := yX10_note) (As := [.int l1]) (hp2 := 13) (tgt := 15) hst hx hb hml (findClass_of_methodNamed B.named) (fun w hw => hts0 w (List.mem_cons_of_mem _ hw)) B.returns B.notSynchronized hPre hl.1 (c_X10_note n l1 s0) hE cwl_31 ⟨(Nat.le_of_ble_eq_true rfl), (Nat.le_of_ble_eq_true rfl)⟩ rfl rfl ⟨(Nat.le_of_ble_eq_true rfl), (Nat.le_of_ble_eq_true rfl)⟩ rfl rfl (vx_table (x := yL_play) B (hts0 _ List.mem_cons_self)) (by decide) (by decide) lk_1113 (by decide +kernel) dL_note_4 dL_note_7 dL_note_8 dL_note_9 (by decide) dL_note_15 dL_note_16 dL_note_13 dL_note_14 (fun Q H locs q k => lv_astore_n hx hb dL_note_12 rfl hl (by decide) rfl (fun ls' _ => k ls'))
def rm_L_sentence : Room := { frames := 7, cells := 1, slots := 6, locals := 112 }
set_option maxRecDepth 100000 in
theorem c_L_sentence (n : Nat) (l1 : Int32) (l2 : Int32) (s0 : Mem) : CTh yL_sentence cL_sentence 5 [(0, 10, 13, 19)] rm_L_sentence (fun ad o => [.ref (ad 0), .int l1, .int l2, .ref o]) s0 (f_X10_sentence n l1 l2 s0) := by
  intro l hst D dA ad cL o v sz x hE
  refine Met_ofWH (cc := cL_sentence) (maxL := 5) (ret := some .int) (hh := [(0, 10, 13, 19)]) (by decide) rfl ?_
  intro p e s m args below meth c s₁ B hml hv
  obtain ⟨rfl, hPre⟩ := hv
  have hsz : s.heap.size = sz := hPre.1.1.1
  subst hsz
  have hx := B.exec
  have hb := B.bytes
  have hts0 := atoms_spec (ws := wH yL_sentence cL_sentence 5 [(0, 10, 13, 19)]) B.pre
  have hl := lv_entry ([.ref (ad 0), .int l1, .int l2, .ref o]) (n := 5) (Nat.le_of_ble_eq_true rfl)
  rw [lg_entry_eq]
  generalize (lg_sl ([.ref (ad 0), .int l1, .int l2, .ref o]) ++ List.replicate (5 - (lg_sl ([.ref (ad 0), .int l1, .int l2, .ref o])).length) Slot.unset).toArray = ls at hl ⊢
  have hl : lv_has ls 5 [(0, .ref (ad 0)), (1, .int l1), (2, .int l2), (3, .ref o)] := hl
  refine lv_aload_n hx hb dL_sentence_0 rfl (lv_at hl 3 rfl) ?_
  refine lv_iconst (v := 0) hx hb dL_sentence_1 (by decide) ?_
  refine lv_aload_n hx hb dL_sentence_2 rfl (lv_at hl 0 rfl) ?_
  refine lv_iload_n hx hb dL_sentence_3 rfl (lv_at hl 1 rfl) ?_
  refine lv_iload_n hx hb dL_sentence_4 rfl (lv_at hl 2 rfl) ?_
  exact h_tail (y := yX10_sentence) (As := [.int l1, .int l2]) (hp2 := 15) (tgt := 17) hst hx hb hml (findClass_of_methodNamed B.named) (fun w hw => hts0 w (List.mem_cons_of_mem _ hw)) B.returns B.notSynchronized hPre hl.1 (c_X10_sentence n l1 l2 s0) hE cwl_34 ⟨(Nat.le_of_ble_eq_true rfl), (Nat.le_of_ble_eq_true rfl)⟩ rfl rfl ⟨(Nat.le_of_ble_eq_true rfl), (Nat.le_of_ble_eq_true rfl)⟩ rfl rfl (vx_table (x := yL_play) B (hts0 _ List.mem_cons_self)) (by decide) (by decide) lk_1113 (by decide +kernel) dL_sentence_5 dL_sentence_8 dL_sentence_9 dL_sentence_10 (by decide) dL_sentence_17 dL_sentence_18 dL_sentence_15 dL_sentence_16 (fun Q H locs q k => lv_astore hx hb dL_sentence_13 hl (by decide) rfl (fun ls' _ => k ls'))
