/-! ===== play: an object's block ===== -/
theorem verbC_f {M : Nat} (hM : 0 < M) (x : Int32) {σ : Mem} (h : ¬ σ 31 0 = 0) : itr1 b_X4_readObject_56 M x σ = some σ := by
  obtain ⟨M, rfl⟩ : ∃ m', M = m' + 1 := ⟨M - 1, by omega⟩
  show b_X4_readObject_56 M (itr1 b_X4_readObject_56 M) _ σ = _
  generalize itr1 b_X4_readObject_56 M = w
  unfold b_X4_readObject_56 b_X4_readObject_99
  by_cases q : (6000 : Int32) ≤ x
  · rw [if_pos q]
  · rw [if_neg q, if_neg h]
theorem verbM_f {M : Nat} (hM : 0 < M) {τ : Mem} (h : ¬ τ 0 19 = 0) : itr0 b_X11_judgeObject_59 M τ = some τ := by
  obtain ⟨M, rfl⟩ : ∃ m', M = m' + 1 := ⟨M - 1, by omega⟩
  show b_X11_judgeObject_59 M (itr0 b_X11_judgeObject_59 M) τ = _
  generalize itr0 b_X11_judgeObject_59 M = w
  unfold b_X11_judgeObject_59 b_X11_judgeObject_131
  rw [if_neg h]
theorem verb_lp {T e p : Nat} {σ0 τ0 : Mem} : ∀ (d k M M' : Nat) (σ τ : Mem), e ≤ p + 5 + 2 * k + d → d < M → d + 1 < M' → BS T e σ τ → p + 5 + 2 * k ≤ e → (∀ v, v < 256 → (σ 32 v = 0 ↔ τ 14 v = 0)) → RC σ0 σ → RM τ0 τ →
    (∃ v σ' τ', e = p + 5 + 2 * v ∧ itr1 b_X4_readObject_56 M (nI k) (Sp σ (p + 5 + 2 * k)) = some (Sp σ' e) ∧ itr0 b_X11_judgeObject_59 M' (Up τ (p + 5 + 2 * k)) = some (Up τ' e) ∧ (∀ z, z ≠ 32 → σ' z = σ z) ∧ ∀ z, z ≠ 14 → τ' z = τ z) ∨
    ∃ σ' τ', itr1 b_X4_readObject_56 M (nI k) (Sp σ (p + 5 + 2 * k)) = some σ' ∧ itr0 b_X11_judgeObject_59 M' (Up τ (p + 5 + 2 * k)) = some τ' ∧ FO σ0 τ0 σ' τ' := by
  intro d
  induction d with
  | zero =>
    intro k M M' σ τ hd hM hM' h hp hy hc hm
    have eP : p + 5 + 2 * k = e := by omega
    have T6 := h.2.2.2.2.2.2.1
    have eT := h.2.2.2.2.1
    obtain ⟨M, rfl⟩ : ∃ m', M = m' + 1 := ⟨M - 1, by omega⟩
    obtain ⟨M', rfl⟩ : ∃ m', M' = m' + 1 := ⟨M' - 1, by omega⟩
    refine Or.inl ⟨k, σ, τ, eP.symm, ?_, ?_, fun _ _ => rfl, fun _ _ => rfl⟩
    · show b_X4_readObject_56 M (itr1 b_X4_readObject_56 M) _ _ = _
      generalize itr1 b_X4_readObject_56 M = w
      unfold b_X4_readObject_56 b_X4_readObject_99
      rw [if_neg (show ¬ (6000 : Int32) ≤ nI k from nI_ge (a := k) (b := 6000) (by omega) (by omega)), Sp_31 (by decide), if_pos h.1, Sp_31 (by decide), h.2.2.1, Sp_4, if_pos (nI_le (by omega) (by omega)), eP]
    · show b_X11_judgeObject_59 M' (itr0 b_X11_judgeObject_59 M') _ = _
      generalize itr0 b_X11_judgeObject_59 M' = w
      unfold b_X11_judgeObject_59 b_X11_judgeObject_131
      rw [Up_0 (show 19 ≠ 22 by decide), if_pos h.2.1, Up_0 (show 23 ≠ 22 by decide), h.2.2.2.1, Up_22, if_pos (nI_le (by omega) (by omega)), eP]
  | succ d ih =>
    intro k M M' σ τ hd hM hM' h hp hy hc hm
    by_cases eP : p + 5 + 2 * k = e
    · exact ih k M M' σ τ (by omega) (by omega) (by omega) h hp hy hc hm
    · have T6 := h.2.2.2.2.2.2.1
      have eT := h.2.2.2.2.1
      obtain ⟨M, rfl⟩ : ∃ m', M = m' + 1 := ⟨M - 1, by omega⟩
      obtain ⟨M', rfl⟩ : ∃ m', M' = m' + 1 := ⟨M' - 1, by omega⟩
      generalize eQ : p + 5 + 2 * k = P at *
      have ih' := fun σ τ => ih (k + 1) M M' σ τ (by omega) (by omega) (by omega)
      rw [show p + 5 + 2 * (k + 1) = P + 1 + 1 by omega] at ih'
      have Bp := (tape_by h.2.2.2.2.2 (show P < T by omega)).2
      have C : itr1 b_X4_readObject_56 (M + 1) (nI k) (Sp σ P) = bv (f_X4_takeVerb M (Sp σ P)) fun s1 => bd (f_X4_take M (nI 1) (nI 60) s1) fun x3 s2 => itr1 b_X4_readObject_56 M (nI (k + 1)) s2 := by
        show b_X4_readObject_56 M (itr1 b_X4_readObject_56 M) _ _ = _
        generalize itr1 b_X4_readObject_56 M = w
        unfold b_X4_readObject_56
        rw [if_neg (show ¬ (6000 : Int32) ≤ nI k from nI_ge (a := k) (b := 6000) (by omega) (by omega)), Sp_31 (show 0 ≠ 4 by decide), if_pos h.1, Sp_31 (show 5 ≠ 4 by decide), h.2.2.1, Sp_4, if_neg (nI_ge (by omega) (by omega)), show nI k + Int32.ofInt 1 = nI (k + 1) from nI_1 k]
        rfl
      have Mo : itr0 b_X11_judgeObject_59 (M' + 1) (Up τ P) = bd (f_X11_wants M' (nI 1) (nI 255) (Up τ P)) (fun x2 s1 => if (s1 0 19) = 0 then (ck (inb x2 256) (if (s1 14 x2.toNatClampNeg) = 0 then (b_X11_judgeObject_113 (itr0 b_X11_judgeObject_59 M') M' x2 s1) else (bv (f_X11_flaw M' (4 : Int32) (nI P) s1) (fun s3 => b_X11_judgeObject_113 (itr0 b_X11_judgeObject_59 M') M' x2 s3)))) else (b_X11_judgeObject_113 (itr0 b_X11_judgeObject_59 M') M' x2 s1)) := by
        show b_X11_judgeObject_59 M' (itr0 b_X11_judgeObject_59 M') _ = _
        generalize itr0 b_X11_judgeObject_59 M' = w
        unfold b_X11_judgeObject_59
        rw [Up_0 (show 19 ≠ 22 by decide), if_pos h.2.1, Up_0 (show 23 ≠ 22 by decide), h.2.2.2.1, Up_22, if_neg (nI_ge (by omega) (by omega))]
        rfl
      have CF : ∀ σ' : Mem, ¬ σ' 31 0 = 0 → itr1 b_X4_readObject_56 M (nI (k + 1)) σ' = some σ' := fun σ' q => verbC_f (by omega) _ q
      have MF : ∀ τ' : Mem, ¬ τ' 0 19 = 0 → itr0 b_X11_judgeObject_59 M' τ' = some τ' := fun τ' q => verbM_f (by omega) q
      rw [C, Mo]
      generalize itr1 b_X4_readObject_56 M (nI (k + 1)) = g1 at ih' CF ⊢
      generalize itr0 b_X11_judgeObject_59 M' = g2 at ih' MF ⊢
      have pk := peek_e M h hp
      rw [if_pos (by omega)] at pk
      have F : (bv (f_X4_fail M 4 (Sp σ P)) fun s1 => some s1) = some (FS σ P) := by
        rw [fail_0 M (by rw [Sp_31 (by decide)]; exact h.1), bv_mk, Sp_4]
        rfl
      have fo := FS_FO (p := P) hc hm
      have B113 : ∀ (x : Nat) (τ' : Mem), x < 256 → ¬ τ' 0 19 = 0 → b_X11_judgeObject_113 g2 M' (nI x) τ' = some (stM τ' 14 x 1) := fun x τ' hx q => by
        unfold b_X11_judgeObject_113
        have q2 : ¬ (stM τ' 14 x 1) 0 19 = 0 := by rw [stM_ne (by decide)]; exact q
        rw [ck_t ⟨inb_nI hx (by decide), okZ1⟩, nI_clamp (by omega), lt_eq, wants_f M' q2, bd_mk]
        exact MF _ q2
      rcases take_b (p := P) (a := 1) (b := 255) M M' h hp (by omega) (by omega) with ⟨v1, v2, -, -, v5⟩ | ⟨v4, v5⟩
      · rw [v5, bd_mk, Up_0 (show 19 ≠ 22 by decide), if_pos h.2.1, ck_t (inb_nI Bp (by decide)), nI_clamp (by omega), Up_ne (show 14 ≠ 0 by decide)]
        by_cases z : σ 32 (byN (τ 1) P) = 0
        · have TV : f_X4_takeVerb M (Sp σ P) = some (Sp (stM σ 32 (byN (τ 1) P) 1) (P + 1)) := by
            unfold f_X4_takeVerb
            rw [pk, bd_mk, if_neg (show ¬ nI (byN (τ 1) P) < (1 : Int32) from nI_nlt (a := byN (τ 1) P) (b := 1) v2 (by omega)), if_neg (show ¬ (256 : Int32) ≤ nI (byN (τ 1) P) from nI_ge (a := byN (τ 1) P) (b := 256) Bp (by omega)), ck_t (inb_nI Bp (by decide)), nI_clamp (by omega), Sp_ne (by decide), if_pos z, ck_t (inb_nI Bp (by decide)), lt_eq, stM_ne (show (31 : Nat) ≠ 32 by decide), Sp_4, nI_1, lt_eq]
            unfold Sp
            rw [stM_cm (show (31 : Nat) ≠ 32 by decide), stM_tw]
          rw [TV, bv_mk, if_pos ((hy _ Bp).mp z)]
          have U1 : stM (Up τ (P + 1)) 14 (byN (τ 1) P) 1 = Up (stM τ 14 (byN (τ 1) P) 1) (P + 1) := stM_cm (by decide)
          have b2 : BS T e (stM σ 32 (byN (τ 1) P) 1) (stM τ 14 (byN (τ 1) P) 1) := by
            obtain ⟨a1, a2, a3, a4, a5, a6⟩ := h
            exact ⟨by rw [stM_ne (by decide)]; exact a1, by rw [stM_ne (by decide)]; exact a2, by rw [stM_ne (by decide)]; exact a3, by rw [stM_ne (by decide)]; exact a4, a5, a6.agr (fun k x y => stM_ne (by omega)) (stM_ne (by decide))⟩
          have hc2 : RC σ0 (stM σ 32 (byN (τ 1) P) 1) := hc.w (by omega)
          have hm2 : RM τ0 (stM τ 14 (byN (τ 1) P) 1) := hm.w (by omega)
          have M2 : b_X11_judgeObject_113 g2 M' (nI (byN (τ 1) P)) (Up τ (P + 1)) = bd (f_X11_wants M' (nI 1) (nI 60) (Up (stM τ 14 (byN (τ 1) P) 1) (P + 1))) fun x3 s2 => g2 s2 := by
            unfold b_X11_judgeObject_113
            rw [ck_t ⟨inb_nI Bp (by decide), okZ1⟩, nI_clamp (by omega), lt_eq, U1]
            rfl
          rw [M2]
          rcases take_b (p := P + 1) (a := 1) (b := 60) M M' b2 (by omega) (by omega) (by omega) with ⟨u1, -, -, u4, u5⟩ | ⟨u4, u5⟩
          · rw [u4, u5, bd_mk, bd_mk]
            rcases ih' (stM σ 32 (byN (τ 1) P) 1) (stM τ 14 (byN (τ 1) P) 1) b2 (by omega) (fun v hv => by
              by_cases ev : v = byN (τ 1) P
              · rw [ev, stM_hit, stM_hit]
              · rw [stM_far (Or.inr ev), stM_far (Or.inr ev)]; exact hy v hv) hc2 hm2 with ⟨v, σ', τ', x1, x2, x3, x4, x5⟩ | x
            · exact Or.inl ⟨v, σ', τ', x1, x2, x3, fun z hz => by rw [x4 z hz, stM_ne hz], fun z hz => by rw [x5 z hz, stM_ne hz]⟩
            · exact Or.inr x
          · have fo2 := FS_FO (p := P + 1) hc2 hm2
            rw [u4, u5, bd_mk, bd_mk, CF _ fo2.c, MF _ fo2.m]
            exact Or.inr ⟨_, _, rfl, rfl, fo2⟩
        · have TV : f_X4_takeVerb M (Sp σ P) = some (FS σ P) := by
            unfold f_X4_takeVerb b_X4_takeVerb_28
            rw [pk, bd_mk, if_neg (show ¬ nI (byN (τ 1) P) < (1 : Int32) from nI_nlt (a := byN (τ 1) P) (b := 1) v2 (by omega)), if_neg (show ¬ (256 : Int32) ≤ nI (byN (τ 1) P) from nI_ge (a := byN (τ 1) P) (b := 256) Bp (by omega)), ck_t (inb_nI Bp (by decide)), nI_clamp (by omega), Sp_ne (by decide), if_neg z]
            exact F
          have fo3 : FO σ0 τ0 (FS σ P) (stM (stM (Up τ (P + 1)) 0 19 4) 0 20 (nI P)) := ⟨⟨4, by omega, by omega, by unfold FS; rw [stM_far (Or.inr (by decide)), stM_hit]; rfl, by rw [stM_far (Or.inr (by decide)), stM_hit]; rfl⟩, by unfold FS; rw [stM_hit, stM_hit], fo.2.2.1, (hm.Up.w0 (by omega)).w0 (by omega)⟩
          rw [TV, bv_mk, take_f M fo.c, bd_mk, CF _ fo.c, if_neg (fun w => z ((hy _ Bp).mpr w)), flaw_0 M' (by rw [Up_0 (by decide)]; exact h.2.1), bv_mk, B113 _ _ Bp fo3.m]
          exact Or.inr ⟨_, _, rfl, rfl, fo3.w (by omega)⟩
      · have z0 : byN (τ 1) P = 0 := by
          rcases Nat.eq_zero_or_pos (byN (τ 1) P) with q | q
          · exact q
          · exfalso
            have : f_X4_take M (nI 1) (nI 255) (Sp σ P) = some (nI (byN (τ 1) P), Sp σ (P + 1)) := by
              unfold f_X4_take
              rw [Sp_31 (by decide), if_pos h.1, pk, bd_mk, if_neg (m1_ne _ (by omega)), if_neg (nI_nlt (by omega) (by omega)), if_pos (nI_le (by omega) (by omega)), lt_eq, Sp_4, nI_1]
              congr 2
              exact Sp_tw σ P (P + 1)
            rw [this] at v4
            exact m1_ne _ (by omega) (Prod.mk.inj (Option.some.inj v4)).1
        have TV : f_X4_takeVerb M (Sp σ P) = some (FS σ P) := by
          unfold f_X4_takeVerb b_X4_takeVerb_28
          rw [pk, bd_mk, z0, if_pos (by decide)]
          exact F
        rw [TV, bv_mk, take_f M fo.c, bd_mk, CF _ fo.c, v5, bd_mk, if_neg fo.m, show (0 : Int32) = nI 0 from rfl, B113 _ _ (by omega) fo.m]
        exact Or.inr ⟨_, _, rfl, rfl, fo.w (by omega)⟩
theorem obj39 : ∀ (d k M : Nat) (s : Mem), k + d = 256 → d < M → ∃ M', M ≤ M' + d + 1 ∧ itr1 b_X11_judgeObject_39 M (nI k) s = itr0 b_X11_judgeObject_59 M' (rwM s 14 (fun z => if k ≤ z ∧ z < 256 then 0 else s 14 z)) := by
  intro d
  induction d with
  | zero =>
    intro k M s hk hM
    have e : k = 256 := by omega
    subst e
    obtain ⟨M, rfl⟩ : ∃ m', M = m' + 1 := ⟨M - 1, by omega⟩
    refine ⟨M, by omega, ?_⟩
    have e : (rwM s 14 (fun z => if 256 ≤ z ∧ z < 256 then 0 else s 14 z)) = s := by
      funext a b
      unfold rwM
      by_cases ha : a = 14
      · subst ha; rw [if_pos rfl, if_neg (by omega)]
      · rw [if_neg ha]
    rw [e]
    show b_X11_judgeObject_39 M (itr1 b_X11_judgeObject_39 M) _ _ = _
    generalize itr1 b_X11_judgeObject_39 M = w
    unfold b_X11_judgeObject_39
    rw [if_pos (show (256 : Int32) ≤ nI 256 by decide)]
  | succ d ih =>
    intro k M s hk hM
    obtain ⟨M, rfl⟩ : ∃ m', M = m' + 1 := ⟨M - 1, by omega⟩
    obtain ⟨M', hM', e1⟩ := ih (k + 1) M (stM s 14 k 0) (by omega) (by omega)
    refine ⟨M', by omega, ?_⟩
    have E : (rwM (stM s 14 k 0) 14 (fun z => if k + 1 ≤ z ∧ z < 256 then 0 else stM s 14 k 0 14 z)) = rwM s 14 (fun z => if k ≤ z ∧ z < 256 then 0 else s 14 z) := by
      funext a b
      unfold rwM
      by_cases ha : a = 14
      · subst ha
        rw [if_pos rfl, if_pos rfl]
        by_cases h1 : k + 1 ≤ b ∧ b < 256
        · rw [if_pos h1, if_pos (by omega)]
        · rw [if_neg h1]
          by_cases h2 : b = k
          · subst h2
            rw [stM_hit, if_pos (by omega)]
          · rw [stM_far (Or.inr h2), if_neg (by omega)]
      · rw [if_neg ha, if_neg ha, stM_ne ha]
    rw [E] at e1
    rw [← e1]
    show b_X11_judgeObject_39 M (itr1 b_X11_judgeObject_39 M) _ _ = _
    generalize itr1 b_X11_judgeObject_39 M = w
    unfold b_X11_judgeObject_39
    rw [if_neg (show ¬ (256 : Int32) ≤ nI k from nI_ge (a := k) (b := 256) (by omega) (by omega)), ck_t ⟨inb_nI (by omega) (by decide), okZ0⟩, nI_clamp (by omega), lt_eq, lt_eq, show nI k + Int32.ofInt 1 = nI (k + 1) from nI_1 k]
theorem obj17s (M : Nat) (k : Nat) (hk : k < 3) (s : Mem) : itr1 b_X11_judgeObject_17 (M + 1) (nI k) s = bd (f_X11_wants M (nI 0) (nI 255) s) fun x2 s1 => itr1 b_X11_judgeObject_17 M (nI (k + 1)) s1 := by
  show b_X11_judgeObject_17 M (itr1 b_X11_judgeObject_17 M) _ _ = _
  generalize itr1 b_X11_judgeObject_17 M = w
  unfold b_X11_judgeObject_17
  rw [if_neg (show ¬ (3 : Int32) ≤ nI k from nI_ge (a := k) (b := 3) hk (by omega)), show nI k + Int32.ofInt 1 = nI (k + 1) from nI_1 k]
  rfl
theorem obj17e (M : Nat) (s : Mem) : itr1 b_X11_judgeObject_17 (M + 1) (nI 3) s = itr1 b_X11_judgeObject_39 M (nI 0) s := by
  show b_X11_judgeObject_17 M (itr1 b_X11_judgeObject_17 M) _ _ = _
  generalize itr1 b_X11_judgeObject_17 M = w
  unfold b_X11_judgeObject_17
  rw [if_pos (show (3 : Int32) ≤ nI 3 by decide)]
  rfl
theorem obj17 (m : Nat) (s : Mem) : itr1 b_X11_judgeObject_17 (m + 4) (nI 0) s = tksM m (nIL [(0, 255), (0, 255), (0, 255)]) (fun s3 => itr1 b_X11_judgeObject_39 m (nI 0) s3) s := by
  rw [obj17s (m + 3) 0 (by decide)]
  show _ = bd (f_X11_wants m (nI 0) (nI 255) s) fun _ s1 => bd (f_X11_wants m (nI 0) (nI 255) s1) fun _ s2 => bd (f_X11_wants m (nI 0) (nI 255) s2) fun _ s3 => itr1 b_X11_judgeObject_39 m (nI 0) s3
  show bd (f_X11_wants m (nI 0) (nI 255) s) _ = _
  congr 1
/-- both rows of verbs are made empty -/
def V0 (σ : Mem) : Mem := rwM σ 32 (fun j => if j < 256 then 0 else σ 32 j)
def W0 (τ : Mem) : Mem := rwM τ 14 (fun j => if 0 ≤ j ∧ j < 256 then 0 else τ 14 j)
theorem fillSp (σ : Mem) (P : Nat) : fillM (Sp σ P) 32 256 0 = Sp (V0 σ) P := by
  funext a b
  unfold fillM V0 Sp rwM
  by_cases h1 : a = 32
  · subst h1
    rw [if_pos rfl, stM_ne (show (32 : Nat) ≠ 31 by decide), stM_ne (show (32 : Nat) ≠ 31 by decide), if_pos rfl]
  · rw [if_neg h1]
    by_cases h2 : a = 31
    · subst h2
      by_cases h3 : b = 4
      · subst h3; rw [stM_hit, stM_hit]
      · rw [stM_far (Or.inr h3), stM_far (Or.inr h3), if_neg h1]
    · rw [stM_ne h2, stM_ne h2, if_neg h1]
theorem W0Up (τ : Mem) (P : Nat) : rwM (Up τ P) 14 (fun z => if 0 ≤ z ∧ z < 256 then 0 else Up τ P 14 z) = Up (W0 τ) P := by
  funext a b
  unfold W0 Up rwM
  by_cases h1 : a = 14
  · subst h1
    rw [if_pos rfl, stM_ne (show (14 : Nat) ≠ 0 by decide), stM_ne (show (14 : Nat) ≠ 0 by decide), if_pos rfl]
  · rw [if_neg h1]
    by_cases h2 : a = 0
    · subst h2
      by_cases h3 : b = 22
      · subst h3; rw [stM_hit, stM_hit]
      · rw [stM_far (Or.inr h3), stM_far (Or.inr h3), if_neg h1]
    · rw [stM_ne h2, stM_ne h2, if_neg h1]
theorem object_b {T e p : Nat} {σ τ σ0 τ0 : Mem} (n m : Nat) (hn : 8000 ≤ n) (hm' : 8000 ≤ m) (h : BS T e σ τ) (hp : p ≤ e) (hy : ∀ x, 0 < x → x ≤ mxK 2 → (σ (5 + 3 * 2) x = 0 ↔ τ 13 (64 * 2 + x) = 0)) (hc : RC σ0 σ) (hm : RM τ0 τ) : BR (byN (τ 1)) 2 p e σ0 τ0 σ τ (f_X4_readObject n (Sp σ p)) (f_X11_judgeBlock m (nI 79) (Up τ p)) := by
  obtain ⟨m, rfl⟩ : ∃ m', m = m' + 4 := ⟨m - 4, by omega⟩
  have C : f_X4_readObject n (Sp σ p) = bv (f_X4_takeNumber n (4 + 3 * 2) (Sp σ p)) fun s1 => tksC n (nIL [(0, 20), (0, 255), (0, 255), (0, 255)]) (fun s8 => itr1 b_X4_readObject_56 n (nI 0) (fillM s8 32 256 0)) s1 := rfl
  have M : f_X11_judgeBlock (m + 4) (nI 79) (Up τ p) = bv (f_X11_names m (nI 2) (nI (mxK 2)) (Up τ p)) fun s1 => tksM m (nIL [(0, 20), (0, 255), (0, 255), (0, 255)]) (fun s8 => itr1 b_X11_judgeObject_39 m (nI 0) s8) s1 := by
    unfold f_X11_judgeBlock f_X11_judgeObject
    rw [if_neg (by decide), if_neg (by decide), if_pos (by decide)]
    show bv (bv (f_X11_names m (nI 2) (nI (mxK 2)) (Up τ p)) fun s1 => bd (f_X11_wants m (nI 0) (nI 20) s1) fun x3 s2 => itr1 b_X11_judgeObject_17 (m + 4) (nI 0) s2) (fun s => some s) = _
    rw [bv_id]
    congr 1
  have FF : ∀ σ' τ', FO σ0 τ0 σ' τ' → BR (byN (τ 1)) 2 p e σ0 τ0 σ τ (itr1 b_X4_readObject_56 n (nI 0) (fillM σ' 32 256 0)) (itr1 b_X11_judgeObject_39 m (nI 0) τ') := fun σ' τ' fo => by
    obtain ⟨m2, hm2, e2⟩ := obj39 256 0 m τ' (by omega) (by omega)
    have f1 : FO σ0 τ0 (fillM σ' 32 256 0) (rwM τ' 14 (fun z => if 0 ≤ z ∧ z < 256 then 0 else τ' 14 z)) := by
      obtain ⟨⟨c, a1, a2, a3, a4⟩, a5, a6, a7⟩ := fo
      refine ⟨⟨c, a1, a2, ?_, ?_⟩, ?_, ?_, ?_⟩
      · unfold fillM; rw [rwM_ne (by decide)]; exact a3
      · rw [rwM_ne (by decide)]; exact a4
      · unfold fillM; rw [rwM_ne (by decide), rwM_ne (by decide)]; exact a5
      · intro z hz
        unfold fillM; rw [rwM_ne (by omega)]; exact a6 z hz
      · exact ⟨fun z b1 b2 b3 b4 => by rw [rwM_ne b3]; exact a7.1 z b1 b2 b3 b4, fun j b1 b2 b3 b4 => by rw [rwM_ne (by decide)]; exact a7.2 j b1 b2 b3 b4⟩
    rw [e2, verbC_f (by omega) _ f1.c, verbM_f (by omega) f1.m]
    exact Or.inr ⟨_, _, rfl, rfl, f1⟩
  rw [C, M]
  rcases num_b n m (show 2 < 4 by decide) h hp hy hc hm with ⟨w1, w2, w3, w4, w5, w6⟩ | ⟨σ', τ', w5, w6, fo⟩
  · rw [w5, w6, bv_mk, bv_mk]
    have b1 := h.num (p := p) (K := 2) (x := byN (τ 1) p) (by decide)
    have BT : byN ((NU τ 2 (byN (τ 1) p)) 1) = byN (τ 1) := by rw [NU_ne (by decide)]
    have hc1 := hc.num (K := 2) (p := p) (e := e) (x := byN (τ 1) p) (by decide)
    have hm1 := hm.num (K := 2) (x := byN (τ 1) p)
    rcases tks_b n m (fun s8 => itr1 b_X4_readObject_56 n (nI 0) (fillM s8 32 256 0)) (fun s8 => itr1 b_X11_judgeObject_39 m (nI 0) s8) b1 hc1 hm1 [(0, 20), (0, 255), (0, 255), (0, 255)] (p + 1) (by omega) (by decide) with ⟨v1, v2, v3, v4⟩ | ⟨σ', τ', v3, v4, fo⟩
    · rw [v3, v4]
      rw [BT] at v2
      have L4 : ([(0, 20), (0, 255), (0, 255), (0, 255)] : List (Nat × Nat)).length = 4 := rfl
      rw [L4] at v1 ⊢
      obtain ⟨m2, hm2, e2⟩ := obj39 256 0 m (Up (NU τ 2 (byN (τ 1) p)) (p + 1 + 4)) (by omega) (by omega)
      rw [e2, fillSp, W0Up]
      have b2 : BS T e (V0 (NS σ 2 p e (byN (τ 1) p))) (W0 (NU τ 2 (byN (τ 1) p))) := by
        obtain ⟨a1, a2, a3, a4, a5, a6⟩ := b1
        exact ⟨by unfold V0; rw [rwM_ne (by decide)]; exact a1, by unfold W0; rw [rwM_ne (by decide)]; exact a2, by unfold V0; rw [rwM_ne (by decide)]; exact a3, by unfold W0; rw [rwM_ne (by decide)]; exact a4, a5, a6.agr (fun k x y => rwM_ne (by omega)) (rwM_ne (by decide))⟩
      have hc2 : RC σ0 (V0 (NS σ 2 p e (byN (τ 1) p))) := fun z hz => by unfold V0; rw [rwM_ne (by omega)]; exact hc1 z hz
      have hm2' : RM τ0 (W0 (NU τ 2 (byN (τ 1) p))) := ⟨fun z c1 c2 c3 c4 => by unfold W0; rw [rwM_ne c3]; exact hm1.1 z c1 c2 c3 c4, fun j c1 c2 c3 c4 => by unfold W0; rw [rwM_ne (by decide)]; exact hm1.2 j c1 c2 c3 c4⟩
      have eT := h.2.2.2.2.1
      have T6 := h.2.2.2.2.2.2.1
      rcases verb_lp (p := p) (σ0 := σ0) (τ0 := τ0) (e - (p + 5)) 0 n m2 (V0 (NS σ 2 p e (byN (τ 1) p))) (W0 (NU τ 2 (byN (τ 1) p))) (by omega) (by omega) (by omega) b2 (by omega) (fun v hv => by unfold V0 W0; rw [rwM_row, rwM_row, if_pos hv, if_pos (by omega)]) hc2 hm2' with ⟨v, σ', τ', x1, x2, x3, x4, x5⟩ | ⟨σ', τ', x2, x3, fo⟩
      · rw [show p + 5 + 2 * 0 = p + 1 + 4 by omega] at x2 x3
        rw [x2, x3]
        refine Or.inl ⟨_, _, rfl, rfl, e, w1, w2, w3, w4, ?_, ?_, Sp_4 _ _, Up_22 _ _, ?_, ?_, by omega, fun z c1 c2 => ?_, fun z c1 c2 => ?_, fun j hj => ?_, fun _ => ?_, ?_⟩
        · rw [Sp_31 (by decide), x4 31 (by decide)]; exact b2.1
        · rw [Up_0 (by decide), x5 0 (by decide)]; exact b2.2.1
        · rw [Sp_31 (by decide), x4 31 (by decide)]; exact b2.2.2.1
        · rw [Up_0 (by decide), x5 0 (by decide)]; exact b2.2.2.2.1
        · rw [Sp_ne c1, x4 z c2]; unfold V0; rw [rwM_ne c2]
        · rw [Up_ne c1, x5 z c2]; unfold W0; rw [rwM_ne c2]
        · rw [Up_0 hj, x5 0 (by decide)]; unfold W0; rw [rwM_ne (by decide), NU_ne (by decide)]
        · exact ⟨fun q => absurd q (by decide), fun q => absurd q (by decide), fun _ => ⟨(v2 0 (by decide)).2, v, x1⟩, fun q => absurd q (by decide)⟩
        · rw [Sp_31 (by decide), x4 31 (by decide)]; unfold V0; rw [rwM_ne (by decide), NS_ne (by decide) (by decide) (by decide)]
      · rw [show p + 5 + 2 * 0 = p + 1 + 4 by omega] at x2 x3
        rw [x2, x3]
        exact Or.inr ⟨_, _, rfl, rfl, fo⟩
    · rw [v3, v4]
      exact FF _ _ fo
  · rw [w5, w6, bv_mk, bv_mk, tksC_f n _ fo.c, tksM_f m _ fo.m]
    exact FF _ _ fo
