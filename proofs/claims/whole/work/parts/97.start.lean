/-! ===== the law from its entry ===== -/
theorem cwk_L_37 : CwI RL 37 yX10_init cX10_init 1 0 := ⟨kw_124, kw_125, kw_101, kw_126, rfl, by decide +kernel⟩
theorem cwk_L_40 : CwI RL 40 yX11_init cX11_init 1 0 := ⟨kw_1189, kw_1190, kw_112, kw_1191, rfl, by decide +kernel⟩
set_option maxHeartbeats 4000000 in
set_option maxRecDepth 100000 in
theorem whole_start {p : Program} {e : Env} {s : State} {m : MethodId} {below : List Frame} {meth : Method} {c : Code} (l : Launch) (hst : l.stackTraces = false) {b L : Nat} {xs : Nat → Int32} (hL : L ≤ 3072) (C0 : lw_At p s m meth c b L xs) : W p l e room_1 s m #[Value.ref b] below meth c s.heap [] 0 0 (lw_Z below #[Value.ref b] s) (entryFrame m ([Value.ref b] : List Value).toArray 7) := by
  obtain ⟨hx, hb, hr, hml, hown, hts, hX, hbl, hlocks, hgv⟩ := C0
  have htt : ∀ w ∈ TT, w.before #[Value.ref b] s = true := fun w hw => hts w (List.mem_filter.mp hw).1
  have hnw := g_Nw hts
  have hao := g_Ao hts
  have hso := g_stOK hts hgv
  have hth := g_ThOK hts hgv
  obtain ⟨D, dA, hK⟩ := g_K hts
  have hl := lv_entry ([.ref b]) (n := 7) (Nat.le_of_ble_eq_true rfl)
  rw [lg_entry_eq]
  generalize (lg_sl ([.ref b]) ++ List.replicate (7 - (lg_sl ([.ref b])).length) Slot.unset).toArray = ls at hl ⊢
  have hl : lv_has ls 7 [(0, .ref b)] := hl
  obtain ⟨X, hXe⟩ : ∃ X : KtT, X = ((p, l, e, room_1, s), (m, #[Value.ref b], below, meth, c), (D, dA, s.heap.size), lw_Z below #[Value.ref b] s) := ⟨_, rfl⟩
  have C : KC X 7 cL_law RL room_1 := by
    subst hXe
    exact ⟨hx, hb, hml, hown, htt, rfl, hK, hnw, hao, Nat.le_refl _⟩
  have key : KJ X 7 0 [(0, .ref b)] [] [] 0 0 := by
    refine k_new (fs := dfX10) (ws' := [.inr (10, dfX10)]) (a := kA X) C kX10 kw_122 kw_123 kw_101 dfX10_ok (Nat.le_of_ble_eq_true rfl) (Nat.le_of_ble_eq_true rfl) rfl rfl dL_law_0 ?_
    refine k_dup C dL_law_3 rfl ?_
    refine k_callI (ws' := wX10 (kD X) (kA X)) (As := []) (rest := [.ref (kA X)]) (a := kA X) C c_X10_init cwk_L_37 ⟨Nat.le_of_ble_eq_true rfl, Nat.le_of_ble_eq_true rfl⟩ ⟨Nat.le_of_ble_eq_true rfl, Nat.le_of_ble_eq_true rfl⟩ rfl [] rfl rfl rfl rfl (Nat.le_of_ble_eq_true rfl) dL_law_4 ?_
    refine k_astore_n (L' := [(0, .ref b), (1, .ref (kA X))]) C dL_law_7 rfl (by decide) [1, 0] rfl ?_
    refine k_new (fs := dfX11) (ws' := wX10 (kD X) (kA X) ++ [.inr (11, dfX11)]) (a := kA X + 120) C kX11 kw_1187 kw_1188 kw_112 dfX11_ok (Nat.le_of_ble_eq_true rfl) (Nat.le_of_ble_eq_true rfl) (by rw [ln_X10]) rfl dL_law_8 ?_
    refine k_dup C dL_law_11 rfl ?_
    refine k_callI (ws' := wX10 (kD X) (kA X) ++ wX11 (kD X) (kA X + 120)) (As := []) (rest := [.ref (kA X + 120)]) (a := kA X + 120) C c_X11_init cwk_L_40 ⟨Nat.le_of_ble_eq_true rfl, Nat.le_of_ble_eq_true rfl⟩ ⟨Nat.le_of_ble_eq_true rfl, Nat.le_of_ble_eq_true rfl⟩ rfl (wX10 (kD X) (kA X)) rfl (by rw [ln_X10]) rfl rfl (Nat.le_of_ble_eq_true rfl) dL_law_12 ?_
    refine k_astore_n (L' := [(0, .ref b), (1, .ref (kA X)), (2, .ref (kA X + 120))]) C dL_law_15 rfl (by decide) [1, 2, 0] rfl ?_
    refine k_iconst (v := (1 : Int32)) C dL_law_16 (by decide) ?_
    subst hXe
    intro H locs ls hl hP hS
    have hz : H.size = s.heap.size + 139 := by
      have := hP.1
      rw [List.length_append, ln_X10, ln_X11] at this
      exact this
    refine va_newaK (atype := .long) (N := 1) hx hb (htt _ kw_1648) rfl dL_law_17 rfl (by decide) (by decide) (by decide) (Nat.le_of_ble_eq_true rfl) (Nat.le_of_ble_eq_true rfl) hz fun H1 cL e1 z1 o1 hAr hNm => ?_
    refine lv_astore_n (lv' := [(3, .ref (s.heap.size + 139)), (0, .ref b), (1, .ref s.heap.size), (2, .ref (s.heap.size + 120))]) hx hb dL_law_19 rfl hl (by decide) rfl (fun ls hl => ?_)
    refine lv_iconst (v := 0) hx hb dL_law_20 (by decide) ?_
    refine lv_istore (lv' := [(4, .int 0), (3, .ref (s.heap.size + 139)), (0, .ref b), (1, .ref s.heap.size), (2, .ref (s.heap.size + 120))]) hx hb dL_law_21 hl (by decide) rfl (fun ls hl => ?_)
    have CL : LC ((p, l, e, s), (m, below, meth, c), (D, dA, cL), (b, L, xs)) := ⟨hx, hb, hr, hml, hown, htt, hlocks, hst, hK, hnw, hso, hth, hAr, hX, hbl, hL⟩
    refine W.widen (k := 140) (n := 22705) (Nat.le_of_ble_eq_true rfl) (Nat.le_of_ble_eq_true rfl) ?_
    have hP1 : ∀ {ws : va_W}, va_P D vwCl ws H → va_P D vwCl ws H1 := fun hp => hp.kept (fun k q hq => o1 q.1 (by rw [← hz]; exact (hp k q hq).lt))
    exact law_loop CL 512 0 σ00 τ00 0 (by omega) (Nat.zero_le _) Rel0 H1 locs ls (lv_sub hl [2, 3, 4, 1, 0] rfl) ⟨hP1 (house_P hP), hP1 (model_P hP), e1⟩ ⟨Nat.le_trans hS.1 (by omega), fun q h1 h2 => (o1 q (by have h9 : q < s.heap.size := h1; omega)).trans (hS.2.1 q h1 h2), hS.2.2⟩
  subst hXe
  exact key s.heap [] ls hl ⟨rfl, fun k e h => by cases h⟩ va_S.rf
