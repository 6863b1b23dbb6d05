/-! ===== within a tick; one step ===== -/
def FrC (σ σ' : Mem) : Prop := ∀ z, z < 33 ∨ (71 ≤ z ∧ z < 116) → σ' z = σ z
def FrM (τ τ' : Mem) : Prop := (∀ z, z ≠ 0 → z ≠ 15 → z ≠ 17 → z ≠ 18 → τ' z = τ z) ∧ ∀ j, j < 31 → τ' 0 j = τ 0 j
theorem FrC.rf (σ : Mem) : FrC σ σ := fun _ _ => rfl
theorem FrM.rf (τ : Mem) : FrM τ τ := ⟨fun _ _ _ _ _ => rfl, fun _ _ => rfl⟩
theorem FrC.tr {σ σ' σ'' : Mem} (h : FrC σ σ') (g : FrC σ' σ'') : FrC σ σ'' := fun z hz => (g z hz).trans (h z hz)
theorem FrM.tr {τ τ' τ'' : Mem} (h : FrM τ τ') (g : FrM τ' τ'') : FrM τ τ'' := ⟨fun z a b c d => (g.1 z a b c d).trans (h.1 z a b c d), fun j hj => (g.2 j hj).trans (h.2 j hj)⟩
/-- what holds at each moment of a tick -/
def TI (S B : Nat) (σ τ : Mem) : Prop := PlayR σ τ S ∧ TapeR σ 17 S (τ 2) ∧ StR σ 33 (τ 15) ∧ StI σ 33 4000 ∧ (σ 33 2).toInt ≤ (B : Int)
theorem PlayR.fr {σ σ' τ τ' : Mem} {S : Nat} (h : PlayR σ τ S) (f : FrC σ σ') (g : FrM τ τ') : PlayR σ' τ' S :=
  h.agr (fun k _ hk => f k (by omega)) (fun k _ hk => f k (by omega)) (fun k h1 h2 => g.1 k (by omega) (by omega) (by omega) (by omega)) (fun j _ hj => g.2 j (by omega))
theorem TI.go {S B B' : Nat} {σ τ σ' τ' : Mem} (h : TI S B σ τ) (f : FrC σ σ') (g : FrM τ τ') (hS : StR σ' 33 (τ' 15)) (hI : StI σ' 33 4000) (hB : (σ' 33 2).toInt ≤ (B' : Int)) : TI S B' σ' τ' :=
  ⟨h.1.fr f g, h.2.1.agr (fun k _ hk => f k (by omega)) (g.1 2 (by decide) (by decide) (by decide) (by decide)), hS, hI, hB⟩
def sgI (A B : Nat) : Int32 := if A < B then -1 else if A = B then 0 else 1
theorem compare_eq (n : Nat) {A B : Nat} (s : Mem) (hA : A ≤ 255) (hB : B ≤ 255) : f_J6_compare_7cf53 n (nI A) (nI B) s = some (sgI A B, s) := by
  unfold f_J6_compare_7cf53 b_J6_compare_7cf53_19 sgI
  by_cases h : A < B
  · rw [if_neg (nI_ge h (by omega)), if_pos h]
  · rw [if_pos (nI_le (by omega) (by omega)), if_neg h]
    by_cases e : A = B
    · rw [if_pos (by rw [e]), if_pos e]
    · rw [if_neg (fun q => e ((nI_eq (by omega) (by omega)).mp q)), if_neg e]
def sigF (l0 : Int32) : Int32 := (l0 >>> ((31 : Int32) &&& 31)) ||| (((-l0).toUInt32 >>> ((31 : Int32).toUInt32 &&& Int32.toUInt32 31)).toInt32)
theorem sig_pos : ∀ d, d < 256 → 0 < d → sigF (nI d) = 1 := by decide +kernel
theorem sig_neg : ∀ d, d < 256 → 0 < d → sigF (- nI d) = -1 := by decide +kernel
theorem signum_eq (n : Nat) {A B : Nat} (s : Mem) (hA : A ≤ 255) (hB : B ≤ 255) : f_J6_signum_0f7a4 n (nI A - nI B) s = some (sgI A B, s) := by
  show some (sigF (nI A - nI B), s) = _
  unfold sgI
  by_cases h : A < B
  · rw [← Int32.neg_sub, pk_sub (show A ≤ B by omega), sig_neg _ (by omega) (by omega), if_pos h]
  · rw [if_neg h, pk_sub (show B ≤ A by omega)]
    by_cases e : A = B
    · rw [if_pos e, show A - B = 0 by omega]
      rfl
    · rw [if_neg e, sig_pos _ (by omega) (by omega)]
theorem sgI_0 {A B : Nat} : sgI A B = 0 ↔ A = B := by
  unfold sgI
  by_cases h : A < B
  · rw [if_pos h]
    exact ⟨fun q => absurd q (by decide), fun q => by omega⟩
  · rw [if_neg h]
    by_cases e : A = B
    · rw [if_pos e]
      exact ⟨fun _ => e, fun _ => rfl⟩
    · rw [if_neg e]
      exact ⟨fun q => absurd q (by decide), fun q => absurd q e⟩
theorem sgI_at {A B : Nat} (hA : A ≤ 255) (hB : B ≤ 255) : ∃ C, C ≤ 255 ∧ nI B + sgI A B = nI C := by
  unfold sgI
  by_cases h : A < B
  · rw [if_pos h]
    obtain ⟨b, rfl⟩ : ∃ b, B = b + 1 := ⟨B - 1, by omega⟩
    exact ⟨b, by omega, pk_m1 b⟩
  · rw [if_neg h]
    by_cases e : A = B
    · rw [if_pos e]
      exact ⟨B, hB, nI_add B 0⟩
    · rw [if_neg e, nI_1]
      exact ⟨B + 1, by omega, rfl⟩
/-- where a step goes by x -/
def goX (τ : Mem) (r own nx tx x y : Nat) : Bool := decide (sgI tx x ≠ 0) && (inB τ r own (nI x + sgI tx x).toInt y || inB τ r nx (nI x + sgI tx x).toInt y)
theorem stepC {s τ : Mem} {S r q own nx tx ty x y : Nat} (n : Nat) (h : PlayR s τ S) (hr : r < 21) (ho : own < cnt τ r) (hn : nx < cnt τ r) (htx : tx ≤ 255) (hty : ty ≤ 255) (hx : x ≤ 255) (hy : y ≤ 255) (q0 : s q 0 = nI r) (q1 : s q 1 = nI x) (q2 : s q 2 = nI y) : f_X9_stepTo n q (nI own) (nI nx) (nI tx) (nI ty) s = some (if goX τ r own nx tx x y = true then stM s q 1 (nI x + sgI tx x) else stM s q 2 (nI y + sgI ty y)) := by
  have yI : (nI y).toInt = (y : Int) := nI_toInt (by omega)
  have eq0 : nI x + sgI tx x = nI x ↔ sgI tx x = 0 := by
    rw [sgI_0]
    constructor
    · intro e
      by_cases z : tx = x
      · exact z
      · exfalso
        unfold sgI at e
        by_cases h : tx < x
        · rw [if_pos h] at e
          obtain ⟨b, rfl⟩ : ∃ b, x = b + 1 := ⟨x - 1, by omega⟩
          rw [pk_m1] at e
          have := (nI_eq (by omega) (by omega)).mp e
          omega
        · rw [if_neg h, if_neg z, nI_1] at e
          have := (nI_eq (by omega) (by omega)).mp e
          omega
    · intro e
      unfold sgI
      rw [if_neg (by omega), if_pos e]
      exact nI_add x 0
  unfold f_X9_stepTo b_X9_stepTo_58 b_X9_stepTo_63 b_X9_stepTo_88 b_X9_stepTo_106
  rw [q1, compare_eq n s htx hx, bd_mk, lt_eq, q0, q2, hasPoint_eq h n hr ho, bd_mk, yI]
  have gy : (bd (f_J6_compare_7cf53 n (nI ty) (s q 2) s) fun x2 s1 => lt (stM s1 q 2 (s q 2 + x2)) fun s3 => some s3) = some (stM s q 2 (nI y + sgI ty y)) := by
    rw [q2, compare_eq n s hty hy, bd_mk, lt_eq]
  by_cases z : sgI tx x = 0
  · have nz : ¬ (goX τ r own nx tx x y = true) := by unfold goX; rw [z]; simp
    rw [if_neg nz]
    by_cases p : inB τ r own (nI x + sgI tx x).toInt y = true
    · rw [bz_t p, if_neg (show ¬ (1 : Int32) = 0 by decide), q1, if_pos (eq0.mpr z), gy]
    · rw [bz_f p, if_pos rfl, q0, q2, hasPoint_eq h n hr hn, bd_mk, yI]
      by_cases p2 : inB τ r nx (nI x + sgI tx x).toInt y = true
      · rw [bz_t p2, if_neg (show ¬ (1 : Int32) = 0 by decide), q1, if_pos (eq0.mpr z), gy]
      · rw [bz_f p2, if_pos rfl, q1, if_pos (eq0.mpr z), gy]
  · by_cases p : inB τ r own (nI x + sgI tx x).toInt y = true
    · rw [bz_t p, if_neg (show ¬ (1 : Int32) = 0 by decide), q1, if_neg (fun w => z (eq0.mp w)), if_neg (show ¬ (1 : Int32) = 0 by decide), lt_eq, if_pos (by unfold goX; rw [p]; simp [z])]
    · rw [bz_f p, if_pos rfl, q0, q2, hasPoint_eq h n hr hn, bd_mk, yI]
      by_cases p2 : inB τ r nx (nI x + sgI tx x).toInt y = true
      · rw [bz_t p2, if_neg (show ¬ (1 : Int32) = 0 by decide), q1, if_neg (fun w => z (eq0.mp w)), if_neg (show ¬ (1 : Int32) = 0 by decide), lt_eq, if_pos (by unfold goX; rw [p2]; simp [z])]
      · rw [bz_f p2, if_pos rfl, q1, if_neg (fun w => z (eq0.mp w)), if_pos rfl, gy, if_neg (by unfold goX; rw [Bool.eq_false_iff.mpr p, Bool.eq_false_iff.mpr p2]; simp)]
theorem stepM {u τ : Mem} {r a own nx tx ty x y : Nat} (n : Nat) (e5 : u 5 = τ 5) (ha : a < 13) (hr : r < 21) (ho : own < 16) (hn : nx < 16) (htx : tx ≤ 255) (hty : ty ≤ 255) (hx : x ≤ 255) (hy : y ≤ 255) : b_X11_step_235 n (nI a) (nI r) (nI x) (nI y) (nI own) (nI tx) (nI ty) (nI nx) u = some (if goX τ r own nx tx x y = true then stM u 15 (232 + 7 * a + 1) (nI x + sgI tx x) else stM u 15 (232 + 7 * a + 2) (nI y + sgI ty y)) := by
  have yI : (nI y).toInt = (y : Int) := nI_toInt (by omega)
  have gy : (bd (f_J6_signum_0f7a4 n (nI ty - nI y) u) fun x2 s1 => bv (f_X11_actorTo n (nI a) 2 (nI y + x2) s1) fun s3 => some s3) = some (stM u 15 (232 + 7 * a + 2) (nI y + sgI ty y)) := by
    rw [signum_eq n u hty hy, bd_mk, aTo_eq n (x := 2) (j := 2) rfl ha (by omega), bv_mk]
  have gx : (bv (f_X11_actorTo n (nI a) 1 (nI x + sgI tx x) u) fun s1 => some s1) = some (stM u 15 (232 + 7 * a + 1) (nI x + sgI tx x)) := by
    rw [aTo_eq n (x := 1) (j := 1) rfl ha (by omega), bv_mk]
  unfold b_X11_step_235 b_X11_step_294 b_X11_step_281 b_X11_step_311
  rw [signum_eq n u htx hx, bd_mk]
  by_cases z : sgI tx x = 0
  · have nz : ¬ (goX τ r own nx tx x y = true) := by unfold goX; rw [z]; simp
    rw [if_pos z, gy, if_neg nz]
  · rw [if_neg z, hasM_eq e5 n hr ho, bd_mk, yI]
    by_cases p : inB τ r own (nI x + sgI tx x).toInt y = true
    · rw [bz_t p, if_neg (show ¬ (1 : Int32) = 0 by decide), gx, if_pos (by unfold goX; rw [p]; simp [z])]
    · rw [bz_f p, if_pos rfl, hasM_eq e5 n hr hn, bd_mk, yI]
      by_cases p2 : inB τ r nx (nI x + sgI tx x).toInt y = true
      · rw [bz_t p2, if_neg (show ¬ (1 : Int32) = 0 by decide), gx, if_pos (by unfold goX; rw [p2]; simp [z])]
      · rw [bz_f p2, if_pos rfl, gy, if_neg (by unfold goX; rw [Bool.eq_false_iff.mpr p, Bool.eq_false_iff.mpr p2]; simp)]
/-- the next box on the way -/
def NxP (F : Nat → Nat) (τ : Mem) (r own i : Nat) : Prop := i < cnt τ r ∧ nB τ r own i = true ∧ F i ≠ 0 ∧ F i + 1 = F own
theorem nextC {s τ : Mem} {S r own i0 : Nat} {F : Nat → Nat} (h : PlayR s τ S) (hr : r < 21) (ho : own < cnt τ r) (hF : ∀ j, F j ≤ 16) (hF2 : 2 ≤ F own) (hs : ∀ j, j < 16 → s 117 j = nI (F j)) (hi : NxP F τ r own i0) (hl : ∀ j, j < i0 → ¬ NxP F τ r own j) : ∀ (M k : Nat), k ≤ i0 → i0 < k + M → itr3 (b_X9_nextBox_27) M (nI own) (s 115 (16 * r + own)) (nI k) s = some (nI i0, s) := by
  have c16 := (h.cs r hr).1
  have hi16 : i0 < 16 := by have := hi.1; omega
  intro M
  induction M with
  | zero => intro k h1 h2; omega
  | succ M ih =>
    intro k h1 h2
    show b_X9_nextBox_27 M (itr3 (b_X9_nextBox_27) M) (nI own) (s 115 (16 * r + own)) (nI k) s = _
    generalize itr3 (b_X9_nextBox_27) M = g at ih ⊢
    unfold b_X9_nextBox_27 b_X9_nextBox_74
    rw [if_neg (show ¬ (16 : Int32) ≤ nI k from nI_ge (a := k) (b := 16) (by omega) (by omega))]
    show (if bitI (s 115 (16 * r + own)) k = 0 then _ else _) = _
    have hk16 := hF k
    have ho16 := hF own
    have bt : ¬ (bitI (s 115 (16 * r + own)) k = 0) ↔ k < cnt τ r ∧ nB τ r own k = true := by
      rw [bit0 (by omega), ← near_tb h hr ho (show k < 32 by omega)]
      cases tb (s 115 (16 * r + own)) k <;> decide
    have e1 : nI (F own) - (1 : Int32) = nI (F own - 1) := pk_sub (a := F own) (b := 1) (by omega)
    have nx : k < i0 → lt (nI k + Int32.ofInt 1) (fun x1 => g (nI own) (s 115 (16 * r + own)) x1 s) = some (nI i0, s) := fun q => by
      rw [lt_eq, show Int32.ofInt 1 = 1 from rfl, nI_1, ih (k + 1) (by omega) (by omega)]
    rw [ck_t (inb_nI (by omega) (by decide)), ck_t (inb_nI (by omega) (by decide)), ck_t (inb_nI (show own < 16 by omega) (by decide)), nI_clamp (by omega), nI_clamp (by omega), hs k (by omega), hs own (by omega), e1]
    by_cases ek : k = i0
    · subst ek
      rw [if_neg (bt.mpr ⟨hi.1, hi.2.1⟩), if_neg (nI_ne0 (by have := hi.2.2.1; omega) (by omega)), if_pos (by have := hi.2.2.2; rw [show F own - 1 = F k by omega])]
    · have np := hl k (by omega)
      by_cases b : bitI (s 115 (16 * r + own)) k = 0
      · rw [if_pos b, nx (by omega)]
      · obtain ⟨b1, b2⟩ := bt.mp b
        rw [if_neg b]
        by_cases f0 : nI (F k) = 0
        · rw [if_pos f0, nx (by omega)]
        · have f1 : F k ≠ 0 := fun q => f0 (by rw [q]; rfl)
          rw [if_neg f0, if_neg (fun q => np ⟨b1, b2, f1, by have := (nI_eq (by omega) (by omega)).mp q; omega⟩), nx (by omega)]
theorem nextM {u τ σ : Mem} {S r own i0 a x y tx ty : Nat} {F : Nat → Nat} (h : PlayR σ τ S) (hS : StR σ 33 (τ 15)) (hW : WC τ u) (hr : r < 21) (ho : own < cnt τ r) (hF : ∀ j, F j ≤ 16) (hF2 : 2 ≤ F own) (hFo : ∀ j, F j ≠ 0 → j < cnt τ r ∧ oB σ r j = true) (hs : ∀ j, j < 16 → u 17 j = nI (F j)) (hi : NxP F τ r own i0) (hl : ∀ j, j < i0 → ¬ NxP F τ r own j) (hx : wi (nI x) (τ 5 (4 * (16 * r + i0) + 0)) (τ 5 (4 * (16 * r + i0) + 2)) = nI tx) (hy : wi (nI y) (τ 5 (4 * (16 * r + i0) + 1)) (τ 5 (4 * (16 * r + i0) + 3)) = nI ty) : ∀ (M k : Nat), k ≤ i0 → i0 < k + M → ∃ M', itr6 (b_X11_step_133) M (nI a) (nI r) (nI x) (nI y) (nI own) (nI k) u = b_X11_step_235 M' (nI a) (nI r) (nI x) (nI y) (nI own) (nI tx) (nI ty) (nI i0) u := by
  have c16 := (h.cs r hr).1
  have hi16 : i0 < 16 := by have := hi.1; omega
  intro M
  induction M with
  | zero => intro k h1 h2; omega
  | succ M ih =>
    intro k h1 h2
    show ∃ M', b_X11_step_133 M (itr6 (b_X11_step_133) M) (nI a) (nI r) (nI x) (nI y) (nI own) (nI k) u = _
    generalize itr6 (b_X11_step_133) M = g at ih ⊢
    unfold b_X11_step_133 b_X11_step_184
    have hk16 := hF k
    have ho16 := hF own
    have e1 : nI (F own) - (1 : Int32) = nI (F own - 1) := pk_sub (a := F own) (b := 1) (by omega)
    have nx : k < i0 → ∃ M', lt (nI k + Int32.ofInt 1) (fun x1 => g (nI a) (nI r) (nI x) (nI y) (nI own) x1 u) = b_X11_step_235 M' (nI a) (nI r) (nI x) (nI y) (nI own) (nI tx) (nI ty) (nI i0) u := fun q => by
      rw [lt_eq, show Int32.ofInt 1 = 1 from rfl, nI_1]
      exact ih (k + 1) (by omega) (by omega)
    rw [ck_t (inb_nI (by omega) (by decide)), ck_t (inb_nI (by omega) (by decide)), ck_t (inb_nI (show own < 16 by omega) (by decide)), nI_clamp (show k < 2 ^ 31 by omega), nI_clamp (show own < 2 ^ 31 by omega), hs k (by omega), hs own (by omega), e1]
    haveI : Decidable (nearP τ (16 * r + own) (16 * r + k)) := Classical.propDecidable _
    by_cases f0 : F k = 0
    · have : k ≠ i0 := fun q => hi.2.2.1 (by rw [← q]; exact f0)
      rw [if_pos (by rw [f0]; decide)]
      exact nx (by omega)
    · rw [if_neg (nI_nle (by omega) (by omega))]
      obtain ⟨kc, ko⟩ := hFo k f0
      by_cases f1 : F k + 1 = F own
      · rw [if_pos (by rw [show F own - 1 = F k by omega]), open_M M hr (by omega), bd_mk, hW.2.2, bz_t ((open_tb hS hr (by omega)).mpr ko), if_neg (show ¬ (1 : Int32) = 0 by decide), near_eq h hW.2.1 M hr ho kc, bd_mk]
        by_cases nr : nearP τ (16 * r + own) (16 * r + k)
        · have ek : k = i0 := by
            by_cases q : k = i0
            · exact q
            · exact absurd ⟨kc, nB_iff.mpr nr, f0, f1⟩ (hl k (by omega))
          subst ek
          rw [bz_t nr, if_neg (show ¬ (1 : Int32) = 0 by decide), side_eq M (x := 0) (i := 0) rfl hr (by omega) (by omega), bd_mk, side_eq M (x := 2) (i := 2) rfl hr (by omega) (by omega), bd_mk, hW.2.1, within_eq, bd_mk, side_eq M (x := 1) (i := 1) rfl hr (by omega) (by omega), bd_mk, side_eq M (x := 3) (i := 3) rfl hr (by omega) (by omega), bd_mk, hW.2.1, within_eq, bd_mk, hx, hy]
          exact ⟨M, rfl⟩
        · have : k ≠ i0 := fun q => nr (nB_iff.mp (by rw [q]; exact hi.2.1))
          rw [bz_f nr, if_pos rfl]
          exact nx (by omega)
      · have : k ≠ i0 := fun q => f1 (by rw [q]; exact hi.2.2.2)
        rw [if_neg (fun q => f1 (by have := (nI_eq (by omega) (by omega)).mp q; omega))]
        exact nx (by omega)
