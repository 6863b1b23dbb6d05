/-! ===== bytes of a tape; object, verb ===== -/
theorem at_eq (n : Nat) {r T p : Nat} (s : Mem) (hT : s r 1 = nI T) (h6 : T ≤ 6000) (hp : p < T) : f_X8_at n r (nI p) s = some (bcl (s (r + 1)) p, s) := by
  have i1 : nI p >>> ((2 : Int32) &&& 31) = nI (p / 4) := pk_shrN (by omega) _ 2 (by decide)
  have i2 : nI p &&& (3 : Int32) = nI (p % 4) := pk_andN (by omega) 2 (by decide)
  have i3 : (24 : Int32) - (8 : Int32) * nI (p % 4) = nI (24 - 8 * (p % 4)) := by
    show nI 24 - nI 8 * nI (p % 4) = _
    rw [pk_mul, pk_sub (by omega)]
  unfold f_X8_at
  rw [if_neg (nI_pos (by omega)), hT, if_pos (nI_lt hp (by omega))]
  simp only [i1, i2, i3]
  rw [ck_t (inb_nI (by omega) (by decide)), nI_clamp (by omega)]
  rfl
theorem at_out (n : Nat) {r T : Nat} (s : Mem) (hT : s r 1 = nI T) (h6 : T ≤ 6000) {x : Int32} (hx : x.toInt < 0 ∨ (T : Int) ≤ x.toInt) : f_X8_at n r x s = some (-1, s) := by
  have g : (nI T).toInt = (T : Int) := nI_toInt (by omega)
  unfold f_X8_at b_X8_at_12
  by_cases e : x < 0
  · rw [if_pos e]
  · have : ¬ x.toInt < 0 := fun q => e (lt_T.mpr q)
    rw [if_neg e, hT, if_neg (fun q => by have := lt_T.mp q; rw [g] at this; omega)]
theorem obj_iff {σ τ : Mem} {S : Nat} (h : PlayR σ τ S) (hS : S ≤ 6000) (x : Int32) : (0 < x.toInt ∧ x.toInt < 61 ∧ σ 26 x.toNatClampNeg ≠ 0) ↔ (0 < x.toInt ∧ x.toInt < 61 ∧ τ 8 x.toNatClampNeg ≠ 0) := by
  have key : 0 < x.toInt → x.toInt < 61 → (σ 26 x.toNatClampNeg ≠ 0 ↔ τ 8 x.toNatClampNeg ≠ 0) := by
    intro p q
    have hq : x.toNatClampNeg < 61 := by show x.toInt.toNat < 61; omega
    rcases h.2.2.1 _ hq with ⟨e1, e2⟩ | ⟨p, v, h1, h2, e1, e2, e3, -⟩
    · rw [e1, e2]
    · rw [e1, e3]
      exact ⟨fun _ => by decide, fun _ => nI_ne0 h1 (by omega)⟩
  exact ⟨fun ⟨a, b, c⟩ => ⟨a, b, (key a b).mp c⟩, fun ⟨a, b, c⟩ => ⟨a, b, (key a b).mpr c⟩⟩
theorem isO3 : isO 3 16 := io_3_16
theorem hasO (n : Nat) (x : Int32) (s : Mem) : f_X2_has n 25 x s = some (bz (0 < x.toInt ∧ x.toInt < 61 ∧ s 26 x.toNatClampNeg ≠ 0), s) := has_eq n io_2_25 x s
/-- the script for a verb, on the model's bytes -/
def verbS (b : Nat → Int32) (p v : Nat) (w : Int32) : Int32 := match ffd (fun i => b (p + 5 + 2 * i) = w) 0 v with
  | some i => b (p + 6 + 2 * i)
  | none => 0
theorem scriptFor_lp {S p v : Nat} {b : Nat → Int32} {w : Int32} (hS : S ≤ 6000) (hv : p + 5 + 2 * v ≤ S) : ∀ (m k : Nat) (s : Mem), k ≤ v → v < k + m → TapeR s 17 S b → itr4 (b_X3_scriptFor_36) m 16 w (nI (p + 5 + 2 * v)) (nI (p + 5 + 2 * k)) s = some (match ffd (fun i => b (p + 5 + 2 * i) = w) k (v - k) with | some i => b (p + 6 + 2 * i) | none => 0, s) := by
  intro m
  induction m with
  | zero => intro k s h1 h2; omega
  | succ m ih =>
    intro k s h1 h2 hT
    show b_X3_scriptFor_36 m (itr4 (b_X3_scriptFor_36) m) 16 w (nI (p + 5 + 2 * v)) (nI (p + 5 + 2 * k)) s = _
    generalize itr4 (b_X3_scriptFor_36) m = g at ih ⊢
    unfold b_X3_scriptFor_36
    by_cases h : v ≤ k
    · rw [if_pos (nI_le (by omega) (by omega)), show v - k = 0 by omega]
      rfl
    · rw [if_neg (nI_ge (a := p + 5 + 2 * k) (b := p + 5 + 2 * v) (by omega) (by omega)), at_eq m (r := 16 + 1) s hT.1 hT.2.1 (by omega), bd_mk, hT.2.2 _ (by omega), show v - k = (v - (k + 1)) + 1 by omega]
      unfold ffd
      by_cases a : b (p + 5 + 2 * k) = w
      · rw [if_pos a, if_pos a, nI_1, at_eq m (r := 16 + 1) s hT.1 hT.2.1 (by omega), bd_mk, hT.2.2 _ (by omega), show p + 5 + 2 * k + 1 = p + 6 + 2 * k by omega]
      · rw [if_neg a, if_neg a, lt_eq, show nI (p + 5 + 2 * k) + Int32.ofInt 2 = nI (p + 5 + 2 * (k + 1)) by (show nI (p + 5 + 2 * k) + nI 2 = _; rw [nI_add]; rfl), ih (k + 1) s (by omega) (by omega) hT]
theorem scriptOf_lp {S p v q : Nat} {w : Int32} (hq : q < 61) (hS : S ≤ 6000) (hv : p + 5 + 2 * v ≤ S) : ∀ (m k : Nat) (s : Mem), k ≤ v → v < k + m → s 10 q = nI (p + 5) → s 11 q = nI v → itr3 (b_X11_scriptOf_2) m (nI q) w (nI k) s = some (match ffd (fun i => s 2 (p + 5 + 2 * i) = w) k (v - k) with | some i => s 2 (p + 6 + 2 * i) | none => 0, s) := by
  intro m
  induction m with
  | zero => intro k s h1 h2; omega
  | succ m ih =>
    intro k s h1 h2 e10 e11
    show b_X11_scriptOf_2 m (itr3 (b_X11_scriptOf_2) m) (nI q) w (nI k) s = _
    generalize itr3 (b_X11_scriptOf_2) m = g at ih ⊢
    have i1 : nI (p + 5) + (2 : Int32) * nI k = nI (p + 5 + 2 * k) := by
      show nI (p + 5) + nI 2 * nI k = _
      rw [pk_mul, nI_add]
    have i2 : nI (p + 5 + 2 * k) + (1 : Int32) = nI (p + 6 + 2 * k) := by
      rw [nI_1, show p + 5 + 2 * k + 1 = p + 6 + 2 * k by omega]
    unfold b_X11_scriptOf_2
    simp only [nI_clamp (show q < 2 ^ 31 by omega), e10, e11, i1, i2]
    rw [ck_t (inb_nI hq (by decide))]
    by_cases h : v ≤ k
    · rw [if_pos (nI_le h (by omega)), show v - k = 0 by omega]
      rfl
    · rw [if_neg (nI_ge (a := k) (b := v) (by omega) (by omega)), ck_t (inb_nI hq (by decide)), ck_t (inb_nI (by omega) (by decide)), nI_clamp (by omega), show v - k = (v - (k + 1)) + 1 by omega]
      unfold ffd
      by_cases a : s 2 (p + 5 + 2 * k) = w
      · rw [if_pos a, if_pos a, ck_t (inb_nI hq (by decide)), ck_t (inb_nI (by omega) (by decide)), nI_clamp (by omega)]
      · rw [if_neg a, if_neg a, lt_eq, show Int32.ofInt 1 = 1 from rfl, nI_1, ih (k + 1) s (by omega) (by omega) e10 e11]
/-- the class's script for a verb, the model's: one value -/
theorem scripts_both {σ τ : Mem} {S : Nat} (h : PlayR σ τ S) (hT : TapeR σ 17 S (τ 2)) {n : Nat} (hn : 7000 ≤ n) {q : Nat} (h0 : 0 < q) (hq : q < 61) (w : Int32) (ho : σ 26 q ≠ 0) : ∃ r, f_X3_scriptFor n 16 (nI q) w σ = some (r, σ) ∧ ∀ τ' : Mem, τ' 2 = τ 2 → τ' 10 = τ 10 → τ' 11 = τ 11 → f_X11_scriptOf n (nI q) w τ' = some (r, τ') := by
  rcases h.2.2.1 q hq with ⟨e1, -⟩ | ⟨p, v, h1, h2, e1, e2, e3, e4, e5, e6⟩
  · exact absurd e1 ho
  · have hS := hT.2.1
    refine ⟨verbS (τ 2) p v w, ?_, fun τ' t2 t10 t11 => ?_⟩
    · have g : (nI q).toInt = (q : Int) := nI_toInt (by omega)
      unfold f_X3_scriptFor
      rw [hasO n, bd_mk, bz_t (by rw [g, nI_clamp (by omega)]; exact ⟨by omega, by omega, ho⟩), if_neg (by decide), ck_t (inb_nI hq (by decide)), ck_t (inb_nI hq (by decide)), lt_eq, nI_clamp (by omega)]
      show itr4 (b_X3_scriptFor_36) n 16 w (σ 27 q) (σ 26 q + (5 : Int32)) σ = _
      rw [e1, e2, show nI p + (5 : Int32) = nI (p + 5 + 2 * 0) from nI_add p 5, scriptFor_lp hS h2 n 0 σ (by omega) (by omega) hT]
      rfl
    · unfold f_X11_scriptOf
      show itr3 (b_X11_scriptOf_2) n (nI q) w (nI 0) τ' = _
      rw [scriptOf_lp hq hS h2 n 0 τ' (by omega) (by omega) (by rw [t10]; exact e5) (by rw [t11]; exact e6), t2]
      rfl
theorem sim_verb {t : Nat} {σ τ : Mem} (h : Rel t σ τ) {n : Nat} (hn : 10000 ≤ n) (x w : Int32) : Sim t (f_X10_verb n x w σ) (f_X11_verb n x w τ) := by
  obtain ⟨T, S, -, ⟨a3, -⟩, a5, -⟩ := id h
  unfold f_X10_verb f_X11_verb b_X11_verb_23
  rw [lt_eq, isObject_eq, bd_mk, stM_ne (show (8 : Nat) ≠ 0 by decide)]
  by_cases e : 0 < x.toInt ∧ x.toInt < 61 ∧ σ 26 x.toNatClampNeg ≠ 0
  · rw [bz_t ((obj_iff a5 a3.2.1 x).mp e), if_neg (by decide)]
    obtain ⟨q, h0, hq, rfl⟩ : ∃ q, 0 < q ∧ q < 61 ∧ x = nI q := ⟨x.toInt.toNat, by omega, by omega, nI_oT (by omega)⟩
    rw [nI_clamp (by omega)] at e
    obtain ⟨r, e1, e2⟩ := scripts_both a5 a3 (n := n) (by omega) h0 hq w e.2.2
    rw [e1, bd_mk, e2 (stM τ 0 0 0) (stM_ne (by decide)) (stM_ne (by decide)) (stM_ne (by decide)), bd_mk]
    exact ⟨_, _, _, rfl, rfl, h.th 0⟩
  · rw [bz_f (fun q => e ((obj_iff a5 a3.2.1 x).mpr q)), if_pos rfl]
    unfold f_X3_scriptFor
    rw [hasO n, bd_mk, bz_f e, if_pos rfl, bd_mk]
    exact ⟨_, _, _, rfl, rfl, h.th 0⟩
