/-! ===== an order is read: both ===== -/
/-- how a read of both ends -/
def R2 (i L : Nat) (σ0 τ0 : Mem) (g : Int32 → Int32 → Prop) (σ τ : Mem) (E1 E2 : Option (Int32 × Mem)) : Prop := (∃ x y p', E1 = some (x, stM σ (42 + 2 * i) 1 (nI p')) ∧ E2 = some (y, stM τ 0 36 (nI p')) ∧ g x y ∧ RO i L σ0 τ0 p' (stM σ (42 + 2 * i) 1 (nI p')) (stM τ 0 36 (nI p'))) ∨ ∃ x y σ' τ', E1 = some (x, σ') ∧ E2 = some (y, τ') ∧ BC i L σ0 σ' ∧ BM τ0 τ'
theorem R2.tw {i L p : Nat} {σ0 τ0 : Mem} {g : Int32 → Int32 → Prop} {σ τ : Mem} {E1 E2 : Option (Int32 × Mem)} (h : R2 i L σ0 τ0 g (stM σ (42 + 2 * i) 1 (nI p)) (stM τ 0 36 (nI p)) E1 E2) : R2 i L σ0 τ0 g σ τ E1 E2 := by
  rcases h with ⟨x, y, p', e1, e2, e3, e4⟩ | h
  · rw [stM_tw] at e1 e4
    rw [stM_tw] at e2 e4
    exact Or.inl ⟨x, y, p', e1, e2, e3, e4⟩
  · exact Or.inr h
theorem nm39 (n : Nat) {τ0 τ : Mem} (k v : Int32) (hk : ¬ k = 2) (h : RdM τ0 τ) : ∃ τ', (ck (okZ 1) (lt (stM τ 0 35 1) fun s1 => b_X11_named_44 n k v s1)) = some (0, τ') ∧ BM τ0 τ' := by
  unfold b_X11_named_44 b_X11_named_82
  rw [ck_t okZ1, lt_eq, stM_hit, if_neg (by decide)]
  exact ⟨_, rfl, BM.mk2 h⟩
theorem nm44 (n : Nat) {τ0 τ : Mem} (k v : Int32) (h : BM τ0 τ) : b_X11_named_44 n k v τ = some (0, τ) := by
  unfold b_X11_named_44 b_X11_named_82
  rw [if_neg (by rw [h.2]; decide)]
theorem nm39b (n : Nat) {τ0 τ : Mem} (k v : Int32) (h : RdM τ0 τ) : b_X11_named_39 n k v τ = some (0, stM τ 0 35 1) ∧ BM τ0 (stM τ 0 35 1) := by
  have b := BM.mk2 h
  unfold b_X11_named_39
  rw [ck_t okZ1, lt_eq, nm44 n k v b]
  exact ⟨rfl, b⟩
/-- once crashed, a name is 0 -/
theorem named_bad {i c p0 L S : Nat} {σ0 τ0 : Mem} (X : RX i c p0 L S σ0 τ0) (n : Nat) {τ : Mem} (k : Int32) (E : f_X11_byteOf n τ = some (0, stM τ 0 35 1)) (h : RdM τ0 τ) : f_X11_named n k τ = some (0, stM τ 0 35 1) ∧ BM τ0 (stM τ 0 35 1) := by
  have b := BM.mk2 h
  have e22 : b_X11_named_22 n k 0 (stM τ 0 35 1) = some (0, stM τ 0 35 1) := by
    unfold b_X11_named_22
    by_cases a : k = 2
    · rw [if_pos a, in_t n 0 0 3 _ (by decide), bd_mk, if_neg (show ¬ (1 : Int32) = 0 by decide), nm44 n k 0 b]
    · rw [if_neg a, nm44 n k 0 b]
  refine ⟨?_, b⟩
  unfold f_X11_named
  rw [E, bd_mk]
  by_cases a : k = 1
  · rw [if_pos a, in_t n 0 0 63 _ (by decide), bd_mk, if_neg (show ¬ (1 : Int32) = 0 by decide), e22]
  · rw [if_neg a, e22]
theorem in_nat (n : Nat) {v hi : Nat} (hv : v < 256) (h : Int64) (hh : h.toInt = (hi : Int)) (s : Mem) : f_X11_in n (nI v).toInt64 0 h s = some (bz (v ≤ hi), s) := by
  rw [in_eq, hh, nI_toInt (by omega), show (0 : Int64).toInt = 0 from rfl]
  congr 2
  by_cases q : v ≤ hi
  · rw [if_pos (by omega), bz_t q]
  · rw [if_neg (by omega), bz_f q]
/-- a name of the model, from its second byte -/
theorem named1 {i c p0 L S p v : Nat} {σ0 τ0 σ τ : Mem} (X : RX i c p0 L S σ0 τ0) (n : Nat) (hv : v < 256) (h : RO i L σ0 τ0 p σ τ) (E : f_X11_byteOf n τ = some (nI v, stM τ 0 36 (nI (p + 1)))) (hp : p + 1 ≤ L) : f_X11_named n 1 τ = if v < 64 then some (nI (6 + v), stM τ 0 36 (nI (p + 1))) else some (0, stM (stM τ 0 36 (nI (p + 1))) 0 35 1) := by
  have rm := (h.pl X.1.1 hp).2.1
  have z35 := (h.pl X.1.1 hp).2.2.2.2.2.2
  unfold f_X11_named
  rw [E, bd_mk, if_pos rfl, in_nat n hv 63 (hi := 63) rfl, bd_mk]
  by_cases q : v < 64
  · rw [bz_t (show v ≤ 63 by omega), if_neg (show ¬ (1 : Int32) = 0 by decide), if_pos q]
    unfold b_X11_named_22 b_X11_named_44 b_X11_named_82
    rw [if_neg (by decide), if_pos z35, if_pos rfl, ix6]
  · rw [bz_f (show ¬ v ≤ 63 by omega), if_pos rfl, if_neg q, (nm39b n 1 (nI v) rm).1]
theorem named2 {i c p0 L S p v : Nat} {σ0 τ0 σ τ : Mem} (X : RX i c p0 L S σ0 τ0) (n : Nat) (hv : v < 256) (h : RO i L σ0 τ0 p σ τ) (E : f_X11_byteOf n τ = some (nI v, stM τ 0 36 (nI (p + 1)))) (hp : p + 1 ≤ L) : f_X11_named n 2 τ = if v < 4 then some (nI (76 + 10 * i + v), stM τ 0 36 (nI (p + 1))) else some (0, stM (stM τ 0 36 (nI (p + 1))) 0 35 1) := by
  have rm := (h.pl X.1.1 hp).2.1
  have z35 := (h.pl X.1.1 hp).2.2.2.2.2.2
  unfold f_X11_named b_X11_named_22
  rw [E, bd_mk, if_neg (by decide), if_pos rfl, in_nat n hv 3 (hi := 3) rfl, bd_mk]
  by_cases q : v < 4
  · rw [bz_t (show v ≤ 3 by omega), if_neg (show ¬ (1 : Int32) = 0 by decide), if_pos q]
    unfold b_X11_named_44 b_X11_named_82
    have e34 : (stM τ 0 36 (nI (p + 1))) 0 34 = nI i := by rw [rm.2 34 (by decide)]; exact X.1.2.2.2.2.2.2.2.2
    rw [if_pos z35, if_neg (by decide), e34, show (6 : Int32) = nI 6 from rfl, ixS, nI_add]
    congr 3
    omega
  · rw [bz_f (show ¬ v ≤ 3 by omega), if_pos rfl, if_neg q, (nm39b n 2 (nI v) rm).1]
theorem val2 {i c p0 L S p : Nat} {σ0 τ0 σ τ : Mem} (X : RX i c p0 L S σ0 τ0) (n m : Nat) (h : RO i L σ0 τ0 p σ τ) : R2 i L σ0 τ0 (fun x y => x = y) σ τ (f_X5_readValue n (42 + 2 * i) σ) (f_X11_value m τ) := by
  have hi := X.1.1
  rcases nb2 X n m h with ⟨k, hk, c1, m1, h1⟩ | ⟨c1, m1, b1, d1⟩
  · apply R2.tw (p := p + 1)
    have hp1 := h1.2.2.1
    rcases nb2 X n m h1 with ⟨v, hv, c2, m2, h2⟩ | ⟨c2, m2, b2, d2⟩
    · have hp2 := h2.2.2.1
      have VC : f_X5_readValue n (42 + 2 * i) σ = (if nI k = 0 then (bd (f_X5_nextByte n (42 + 2 * i) (stM (stM σ (42 + 2 * i) 1 (nI (p + 1))) (42 + 2 * i) 1 (nI (p + 1 + 1)))) fun x10 s9 => some ((nI v <<< ((8 : Int32) &&& 31) ||| x10).toInt16.toInt32, s9)) else bd (f_X5_addressOf n (nI k) (nI v) (stM (stM σ (42 + 2 * i) 1 (nI (p + 1))) (42 + 2 * i) 1 (nI (p + 1 + 1)))) fun x6 s5 => if x6 = -1 then some (0, s5) else bd (f_X5_fetch n (42 + 2 * i) x6 s5) fun x8 s7 => some (x8, s7)) := by
        unfold f_X5_readValue b_X5_readValue_53
        rw [c1, bd_mk, c2, bd_mk]
      have z35 := h1.2.2.2.2.2.2
      by_cases k0 : k = 0
      · subst k0
        rw [VC, if_pos (show nI 0 = 0 from rfl)]
        unfold f_X11_value b_X11_value_15 b_X11_value_46 f_X11_count2
        rw [m1, bd_mk, if_pos (by decide), z35, if_pos rfl, if_pos (show nI 0 = 0 from rfl), m2, bd_mk]
        apply R2.tw (p := p + 1 + 1)
        rcases nb2 X n m h2 with ⟨w, hw, c3, m3, h3⟩ | ⟨c3, m3, b3, d3⟩
        · rw [c3, bd_mk, m3, bd_mk, bd_mk]
          exact Or.inl ⟨_, _, _, rfl, rfl, rfl, h3⟩
        · rw [c3, bd_mk, m3, bd_mk, bd_mk]
          exact Or.inr ⟨_, _, _, _, rfl, rfl, b3, d3⟩
      · have k0' : ¬ nI k = 0 := nI_ne0 (by omega) (by omega)
        rw [VC, if_neg k0']
        by_cases k3 : k ≤ 2
        · have VM : f_X11_value m τ = bd (f_X11_named m (nI k) (stM τ 0 36 (nI (p + 1)))) fun x2 s1 => ck (inb x2 781) (some (s1 15 x2.toNatClampNeg, s1)) := by
            unfold f_X11_value b_X11_value_15 b_X11_value_46
            rw [m1, bd_mk, if_pos (show nI k ≤ (2 : Int32) from nI_le (a := k) (b := 2) k3 (by omega)), z35, if_pos rfl, if_neg k0']
          have e34 : (stM (stM σ (42 + 2 * i) 1 (nI (p + 1))) (42 + 2 * i) 1 (nI (p + 1 + 1))) 34 = σ0 34 := h2.1.1 34 (by omega) (by decide) (by decide)
          have e43 : (stM (stM σ (42 + 2 * i) 1 (nI (p + 1))) (42 + 2 * i) 1 (nI (p + 1 + 1))) (42 + 2 * i + 1) = σ0 (43 + 2 * i) := by rw [show 42 + 2 * i + 1 = 43 + 2 * i by omega]; exact h2.1.1 _ (by omega) (by omega) (by omega)
          have e15 : (stM (stM τ 0 36 (nI (p + 1))) 0 36 (nI (p + 1 + 1))) 15 = τ0 15 := h2.2.1.1 15 (by decide) (by decide)
          rcases (show k = 1 ∨ k = 2 by omega) with rfl | rfl
          · rw [VM, show nI 1 = (1 : Int32) from rfl, named1 X m hv h1 m2 (by omega)]
            by_cases q : v < 64
            · rw [if_pos q, bd_mk, ck_t (inb_nI (by omega) (by decide)), nI_clamp (by omega), adr1 n q, bd_mk, if_neg (m1_ne v (by omega)), fet1 n _ q, bd_mk, e34, e15, X.2.2.2.1 v q]
              exact Or.inl ⟨_, _, _, rfl, rfl, rfl, h2⟩
            · rw [if_neg q, bd_mk, ck_t (by decide), adr0 n (by rw [nI_toInt (by omega)]; omega) (by intro w; exact absurd w.1 (by decide)), bd_mk, if_pos rfl]
              exact Or.inr ⟨_, _, _, _, rfl, rfl, BC.mk2 hi h2.1, BM.mk2 h2.2.1⟩
          · rw [VM, show nI 2 = (2 : Int32) from rfl, named2 X m hv h1 m2 (by omega)]
            by_cases q : v < 4
            · rw [if_pos q, bd_mk, ck_t (inb_nI (by omega) (by decide)), nI_clamp (by omega), adr2 n q, bd_mk, if_neg (m1_ne _ (by omega)), fet2 n _ q, bd_mk, e43, e15, X.2.2.2.2 v q]
              exact Or.inl ⟨_, _, _, rfl, rfl, rfl, h2⟩
            · rw [if_neg q, bd_mk, ck_t (by decide), adr0 n (by intro w; exact absurd w.1 (by decide)) (by rw [nI_toInt (by omega)]; omega), bd_mk, if_pos rfl]
              exact Or.inr ⟨_, _, _, _, rfl, rfl, BC.mk2 hi h2.1, BM.mk2 h2.2.1⟩
        · have VM : f_X11_value m τ = some (0, stM (stM τ 0 36 (nI (p + 1))) 0 35 1) := by
            unfold f_X11_value b_X11_value_15
            rw [m1, bd_mk, if_neg (show ¬ nI k ≤ (2 : Int32) from nI_ge (a := 2) (b := k) (by omega) (by omega)), ck_t okZ1, lt_eq, stM_hit, if_neg (by decide)]
          rw [VM, adr0 n (fun w => by have := (nI_eq (a := k) (b := 1) (by omega) (by omega)).mp w.1; omega) (fun w => by have := (nI_eq (a := k) (b := 2) (by omega) (by omega)).mp w.1; omega), bd_mk, if_pos rfl]
          exact Or.inr ⟨_, _, _, _, rfl, rfl, BC.mk2 hi h2.1, BM.mk2 h1.2.1⟩
    · -- the second byte is not there
      have z35 := h1.2.2.2.2.2.2
      have C : ∃ x σ', f_X5_readValue n (42 + 2 * i) σ = some (x, σ') ∧ BC i L σ0 σ' := by
        unfold f_X5_readValue b_X5_readValue_53
        rw [c1, bd_mk, c2, bd_mk]
        by_cases k0 : nI k = 0
        · obtain ⟨x3, s3, e3, r3, k3⟩ := nbCt X n b2.1
          rw [if_pos k0, e3, bd_mk]
          exact ⟨_, _, rfl, r3, k3 b2.2⟩
        · rw [if_neg k0]
          rcases adrt hi n (nI k) (-1) b2.1 with ⟨w, hw, e3⟩ | e3
          · obtain ⟨x4, e4⟩ := fett n (42 + 2 * i) hw (stM (stM σ (42 + 2 * i) 1 (nI (p + 1))) 118 7 1)
            rw [e3, bd_mk, if_neg (m1_ne w (by omega)), e4, bd_mk]
            exact ⟨_, _, rfl, b2⟩
          · rw [e3, bd_mk, if_pos rfl]
            exact ⟨_, _, rfl, BC.mk2 hi b2.1⟩
      have M : ∃ x τ', f_X11_value m τ = some (x, τ') ∧ BM τ0 τ' := by
        unfold f_X11_value b_X11_value_15 b_X11_value_46
        rw [m1, bd_mk]
        by_cases k3 : nI k ≤ 2
        · rw [if_pos k3, z35, if_pos rfl]
          by_cases k0 : nI k = 0
          · unfold f_X11_count2
            rw [if_pos k0, m2, bd_mk, nbMb X m d2, bd_mk, bd_mk]
            exact ⟨_, _, rfl, BM.mk2 d2.1⟩
          · rw [if_neg k0, (named_bad X m (nI k) m2 h1.2.1).1, bd_mk, ck_t (by decide)]
            exact ⟨_, _, rfl, d2⟩
        · rw [if_neg k3, ck_t okZ1, lt_eq, stM_hit, if_neg (by decide)]
          exact ⟨_, _, rfl, BM.mk2 h1.2.1⟩
      obtain ⟨x, s1, e1, r1⟩ := C
      obtain ⟨y, s2, e2, r2⟩ := M
      exact Or.inr ⟨x, y, s1, s2, e1, e2, r1, r2⟩
  · have C : ∃ x σ', f_X5_readValue n (42 + 2 * i) σ = some (x, σ') ∧ BC i L σ0 σ' := by
      unfold f_X5_readValue b_X5_readValue_53
      obtain ⟨x2, s2, e2, r2, k2⟩ := nbCt X n b1.1
      rw [c1, bd_mk, e2, bd_mk, if_neg (by decide)]
      rcases adrt hi n (-1) x2 r2 with ⟨w, hw, e3⟩ | e3
      · obtain ⟨x4, e4⟩ := fett n (42 + 2 * i) hw s2
        rw [e3, bd_mk, if_neg (m1_ne w (by omega)), e4, bd_mk]
        exact ⟨_, _, rfl, r2, k2 b1.2⟩
      · rw [e3, bd_mk, if_pos rfl]
        exact ⟨_, _, rfl, BC.mk2 hi r2⟩
    have M : ∃ x τ', f_X11_value m τ = some (x, τ') ∧ BM τ0 τ' := by
      unfold f_X11_value b_X11_value_15
      rw [m1, bd_mk, if_pos (by decide), stM_hit, if_neg (by decide)]
      exact ⟨_, _, rfl, d1⟩
    obtain ⟨x, s1, e1, r1⟩ := C
    obtain ⟨y, s2, e2, r2⟩ := M
    exact Or.inr ⟨x, y, s1, s2, e1, e2, r1, r2⟩
/-- the model's place of an address -/
def gadr (i w : Nat) : Nat := if w < 64 then 6 + w else 76 + 10 * i + (w - 64)
theorem tgt2 {i c p0 L S p : Nat} {σ0 τ0 σ τ : Mem} (X : RX i c p0 L S σ0 τ0) (n m : Nat) (h : RO i L σ0 τ0 p σ τ) : R2 i L σ0 τ0 (fun x y => ∃ w, w < 68 ∧ x = nI w ∧ y = nI (gadr i w)) σ τ (f_X5_readTarget n (42 + 2 * i) σ) (f_X11_target m τ) := by
  have hi := X.1.1
  rcases nb2 X n m h with ⟨k, hk, c1, m1, h1⟩ | ⟨c1, m1, b1, d1⟩
  · apply R2.tw (p := p + 1)
    have hp1 := h1.2.2.1
    have z35 := h1.2.2.2.2.2.2
    have in12 : f_X11_in m (nI k).toInt64 1 2 (stM τ 0 36 (nI (p + 1))) = some (bz (k = 1 ∨ k = 2), stM τ 0 36 (nI (p + 1))) := by
      rw [in_eq, nI_toInt (by omega), show (1 : Int64).toInt = 1 from rfl, show (2 : Int64).toInt = 2 from rfl]
      congr 2
      by_cases q : k = 1 ∨ k = 2
      · rw [if_pos (by omega), bz_t q]
      · rw [if_neg (by omega), bz_f q]
    have VM : k = 1 ∨ k = 2 → f_X11_target m τ = bd (f_X11_named m (nI k) (stM τ 0 36 (nI (p + 1)))) fun x2 s1 => some (x2, s1) := fun q => by
      unfold f_X11_target b_X11_target_22 b_X11_target_38
      rw [m1, bd_mk, in12, bd_mk, bz_t q, if_neg (show ¬ (1 : Int32) = 0 by decide), if_pos z35]
    have VB : ¬ (k = 1 ∨ k = 2) → f_X11_target m τ = some (0, stM (stM τ 0 36 (nI (p + 1))) 0 35 1) := fun q => by
      unfold f_X11_target b_X11_target_22 b_X11_target_38
      rw [m1, bd_mk, in12, bd_mk, bz_f q, if_pos rfl, ck_t okZ1, lt_eq, stM_hit, if_neg (by decide)]
    rcases nb2 X n m h1 with ⟨v, hv, c2, m2, h2⟩ | ⟨c2, m2, b2, d2⟩
    · have hp2 := h2.2.2.1
      unfold f_X5_readTarget
      rw [c1, bd_mk, c2, bd_mk]
      by_cases q : k = 1 ∨ k = 2
      · rw [VM q]
        rcases q with rfl | rfl
        · rw [show nI 1 = (1 : Int32) from rfl, named1 X m hv h1 m2 (by omega)]
          by_cases q : v < 64
          · rw [if_pos q, bd_mk, adr1 n q, bd_mk]
            exact Or.inl ⟨_, _, _, rfl, rfl, ⟨v, by omega, rfl, by unfold gadr; rw [if_pos q]⟩, h2⟩
          · rw [if_neg q, bd_mk, adr0 n (by rw [nI_toInt (by omega)]; omega) (by intro w; exact absurd w.1 (by decide)), bd_mk]
            exact Or.inr ⟨_, _, _, _, rfl, rfl, BC.mk2 hi h2.1, BM.mk2 h2.2.1⟩
        · rw [show nI 2 = (2 : Int32) from rfl, named2 X m hv h1 m2 (by omega)]
          by_cases q : v < 4
          · rw [if_pos q, bd_mk, adr2 n q, bd_mk]
            exact Or.inl ⟨_, _, _, rfl, rfl, ⟨64 + v, by omega, rfl, by unfold gadr; rw [if_neg (by omega)]; congr 1; omega⟩, h2⟩
          · rw [if_neg q, bd_mk, adr0 n (by intro w; exact absurd w.1 (by decide)) (by rw [nI_toInt (by omega)]; omega), bd_mk]
            exact Or.inr ⟨_, _, _, _, rfl, rfl, BC.mk2 hi h2.1, BM.mk2 h2.2.1⟩
      · rw [VB q, adr0 n (fun w => q (Or.inl ((nI_eq (a := k) (b := 1) (by omega) (by omega)).mp w.1))) (fun w => q (Or.inr ((nI_eq (a := k) (b := 2) (by omega) (by omega)).mp w.1))), bd_mk]
        exact Or.inr ⟨_, _, _, _, rfl, rfl, BC.mk2 hi h2.1, BM.mk2 h1.2.1⟩
    · have C : ∃ x σ', f_X5_readTarget n (42 + 2 * i) σ = some (x, σ') ∧ BC i L σ0 σ' := by
        unfold f_X5_readTarget
        rw [c1, bd_mk, c2, bd_mk]
        rcases adrt hi n (nI k) (-1) b2.1 with ⟨w, hw, e3⟩ | e3
        · rw [e3, bd_mk]
          exact ⟨_, _, rfl, b2⟩
        · rw [e3, bd_mk]
          exact ⟨_, _, rfl, BC.mk2 hi b2.1⟩
      have M : ∃ x τ', f_X11_target m τ = some (x, τ') ∧ BM τ0 τ' := by
        by_cases q : k = 1 ∨ k = 2
        · rw [VM q, (named_bad X m (nI k) m2 h1.2.1).1, bd_mk]
          exact ⟨_, _, rfl, d2⟩
        · rw [VB q]
          exact ⟨_, _, rfl, BM.mk2 h1.2.1⟩
      obtain ⟨x, s1, e1, r1⟩ := C
      obtain ⟨y, s2, e2, r2⟩ := M
      exact Or.inr ⟨x, y, s1, s2, e1, e2, r1, r2⟩
  · have C : ∃ x σ', f_X5_readTarget n (42 + 2 * i) σ = some (x, σ') ∧ BC i L σ0 σ' := by
      unfold f_X5_readTarget
      obtain ⟨x2, s2, e2, r2, k2⟩ := nbCt X n b1.1
      rw [c1, bd_mk, e2, bd_mk]
      rcases adrt hi n (-1) x2 r2 with ⟨w, hw, e3⟩ | e3
      · rw [e3, bd_mk]
        exact ⟨_, _, rfl, r2, k2 b1.2⟩
      · rw [e3, bd_mk]
        exact ⟨_, _, rfl, BC.mk2 hi r2⟩
    have M : ∃ x τ', f_X11_target m τ = some (x, τ') ∧ BM τ0 τ' := by
      unfold f_X11_target b_X11_target_22 b_X11_target_38
      rw [m1, bd_mk, in_f m 0 1 2 _ (by decide), bd_mk, if_pos rfl, ck_t okZ1, lt_eq, stM_hit, if_neg (by decide)]
      exact ⟨_, _, rfl, BM.mk2 d1.1⟩
    obtain ⟨x, s1, e1, r1⟩ := C
    obtain ⟨y, s2, e2, r2⟩ := M
    exact Or.inr ⟨x, y, s1, s2, e1, e2, r1, r2⟩
theorem hl_nat : ∀ a, a < 256 → ∀ b, b < 256 → (nI a <<< ((8 : Int32) &&& 31)) ||| nI b = nI (256 * a + b) := by
  intro a ha b hb
  have e1 : nI a <<< ((8 : Int32) &&& 31) = nI (a * 2 ^ 8) := pk_shlN _ 8 (by decide) (by omega)
  rw [e1]
  apply Int32.toBitVec_inj.mp
  apply BitVec.eq_of_toNat_eq
  rw [Int32.toBitVec_or, BitVec.toNat_or, pk_tn (by omega), pk_tn (by omega), pk_tn (by omega), Nat.mul_comm a, ← Nat.two_pow_add_eq_or_of_lt (show b < 2 ^ 8 by omega) a]
theorem jmp2 {i c p0 L S p : Nat} {σ0 τ0 σ τ : Mem} (X : RX i c p0 L S σ0 τ0) (n m : Nat) (h : RO i L σ0 τ0 p σ τ) : R2 i L σ0 τ0 (fun x y => ∃ w, w < L ∧ x = nI w ∧ y = nI w) σ τ (f_X5_readJump n (42 + 2 * i) σ) (f_X11_jump m τ) := by
  have hi := X.1.1
  have L6 : L ≤ 6000 := by have := X.1.2.2.2.2.2.1; have := X.2.1.2.1; omega
  rcases nb2 X n m h with ⟨k, hk, c1, m1, h1⟩ | ⟨c1, m1, b1, d1⟩
  · apply R2.tw (p := p + 1)
    rcases nb2 X n m h1 with ⟨v, hv, c2, m2, h2⟩ | ⟨c2, m2, b2, d2⟩
    · unfold f_X5_readJump b_X5_readJump_29 b_X5_readJump_34 f_X11_jump b_X11_jump_28 f_X11_count2
      have e9 : (stM (stM σ (42 + 2 * i) 1 (nI (p + 1))) (42 + 2 * i) 1 (nI (p + 1 + 1))) 118 9 = nI L := by rw [h2.1.2.2.2.1]; exact X.1.2.2.2.2.1
      rw [c1, bd_mk, c2, bd_mk, lt_eq, m1, bd_mk, m2, bd_mk, bd_mk, hl_nat k hk v hv, e9, if_neg (nI_pos (by omega))]
      obtain ⟨s3, e3, r3, w⟩ := jmp2M X m (nI (256 * k + v)) h2.2.1
      rw [e3]
      rcases w with ⟨w, w2⟩ | ⟨w, w2⟩
      · rw [if_pos w2, w]
        exact Or.inl ⟨_, _, _, rfl, rfl, ⟨256 * k + v, (nI_ltI (by omega) (by omega)).mp w2, rfl, rfl⟩, h2⟩
      · rw [if_neg w2, w, ck_t okZ1, lt_eq]
        exact Or.inr ⟨_, _, _, _, rfl, rfl, BC.mk2 hi h2.1, BM.mk2 h2.2.1⟩
    · have C : ∃ x σ', f_X5_readJump n (42 + 2 * i) σ = some (x, σ') ∧ BC i L σ0 σ' := by
        unfold f_X5_readJump b_X5_readJump_29 b_X5_readJump_34
        rw [c1, bd_mk, c2, bd_mk, lt_eq]
        have bad : ∃ x σ', ck (okZ 1) (lt (stM (stM (stM σ (42 + 2 * i) 1 (nI (p + 1))) 118 7 1) 118 7 1) fun s1 => some (nI k <<< ((8 : Int32) &&& 31) ||| -1, s1)) = some (x, σ') ∧ BC i L σ0 σ' := by
          rw [ck_t okZ1, lt_eq]
          exact ⟨_, _, rfl, BC.mk2 hi b2.1⟩
        by_cases a : (nI k <<< ((8 : Int32) &&& 31) ||| -1) < 0
        · rw [if_pos a]; exact bad
        · rw [if_neg a]
          by_cases b : (nI k <<< ((8 : Int32) &&& 31) ||| -1) < (stM (stM σ (42 + 2 * i) 1 (nI (p + 1))) 118 7 1) 118 9
          · rw [if_pos b]
            exact ⟨_, _, rfl, b2⟩
          · rw [if_neg b]; exact bad
      have M : ∃ x τ', f_X11_jump m τ = some (x, τ') ∧ BM τ0 τ' := by
        unfold f_X11_jump b_X11_jump_28 f_X11_count2
        rw [m1, bd_mk, m2, bd_mk, bd_mk]
        obtain ⟨s3, e3, r3, w⟩ := jmp2M X m (nI k <<< ((8 : Int32) &&& 31) ||| 0) d2.1
        rw [e3]
        refine ⟨_, _, rfl, r3, ?_⟩
        rcases w with ⟨w, -⟩ | ⟨w, -⟩
        · rw [w]; exact d2.2
        · rw [w]; exact stM_hit _ _ _ _
      obtain ⟨x, s1, e1, r1⟩ := C
      obtain ⟨y, s2, e2, r2⟩ := M
      exact Or.inr ⟨x, y, s1, s2, e1, e2, r1, r2⟩
  · have C : ∃ x σ', f_X5_readJump n (42 + 2 * i) σ = some (x, σ') ∧ BC i L σ0 σ' := by
      unfold f_X5_readJump b_X5_readJump_29 b_X5_readJump_34
      obtain ⟨x2, s2, e2, r2, k2⟩ := nbCt X n b1.1
      rw [c1, bd_mk, e2, bd_mk, lt_eq]
      have bad : ∃ x σ', ck (okZ 1) (lt (stM s2 118 7 1) fun s1 => some ((-1 : Int32) <<< ((8 : Int32) &&& 31) ||| x2, s1)) = some (x, σ') ∧ BC i L σ0 σ' := by
        rw [ck_t okZ1, lt_eq]
        exact ⟨_, _, rfl, BC.mk2 hi r2⟩
      by_cases a : ((-1 : Int32) <<< ((8 : Int32) &&& 31) ||| x2) < 0
      · rw [if_pos a]; exact bad
      · rw [if_neg a]
        by_cases b : ((-1 : Int32) <<< ((8 : Int32) &&& 31) ||| x2) < s2 118 9
        · rw [if_pos b]
          exact ⟨_, _, rfl, r2, k2 b1.2⟩
        · rw [if_neg b]; exact bad
    have M : ∃ x τ', f_X11_jump m τ = some (x, τ') ∧ BM τ0 τ' := by
      unfold f_X11_jump b_X11_jump_28 f_X11_count2
      rw [m1, bd_mk, nbMb X m d1, bd_mk, bd_mk]
      obtain ⟨s3, e3, r3, w⟩ := jmp2M X m ((0 : Int32) <<< ((8 : Int32) &&& 31) ||| 0) (BM.mk2 d1.1).1
      rw [e3]
      refine ⟨_, _, rfl, r3, ?_⟩
      rcases w with ⟨w, -⟩ | ⟨w, -⟩
      · rw [w]; exact stM_hit _ _ _ _
      · rw [w]; exact stM_hit _ _ _ _
    obtain ⟨x, s1, e1, r1⟩ := C
    obtain ⟨y, s2, e2, r2⟩ := M
    exact Or.inr ⟨x, y, s1, s2, e1, e2, r1, r2⟩
