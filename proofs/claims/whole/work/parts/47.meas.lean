/-! ===== bits of a mask; the class measures ===== -/
def tb (x : Int32) (i : Nat) : Bool := x.toBitVec.getLsbD i
theorem sm_ix : ∀ i, i < 32 → ((nI i &&& (31 : Int32)).toBitVec.smod 32).toNat = i := by decide +kernel
theorem tb_bit {x : Int32} {i : Nat} (hi : i < 32) : bitI x i = if tb x i then 1 else 0 := by
  apply Int32.toBitVec_inj.mp
  have h1 : ∀ k, k < 32 → (1#32).getLsbD k = decide (k = 0) := by decide +kernel
  have e : (bitI x i).toBitVec = x.toBitVec.sshiftRight i &&& 1#32 := by
    unfold bitI
    rw [Int32.toBitVec_and, Int32.toBitVec_shiftRight]
    unfold BitVec.sshiftRight'
    rw [sm_ix i hi]
    rfl
  rw [e]
  have key : ∀ b : Bool, (if b = true then (1 : Int32) else 0).toBitVec = if b = true then 1#32 else 0#32 := by decide
  rw [key]
  apply BitVec.eq_of_getLsbD_eq
  intro k hk
  rw [BitVec.getLsbD_and, BitVec.getLsbD_sshiftRight, h1 k hk]
  unfold tb
  by_cases h0 : k = 0
  · subst h0
    cases e : x.toBitVec.getLsbD i <;> simp [hi, e]
  · cases e : x.toBitVec.getLsbD i <;> simp [h0]
theorem bit0 {x : Int32} {i : Nat} (hi : i < 32) : bitI x i = 0 ↔ tb x i = false := by
  rw [tb_bit hi]
  cases tb x i <;> decide
theorem bit1 {x : Int32} {i : Nat} (hi : i < 32) : bitI x i = 1 ↔ tb x i = true := by
  rw [tb_bit hi]
  cases tb x i <;> decide
theorem tb_or (x y : Int32) (i : Nat) : tb (x ||| y) i = (tb x i || tb y i) := by
  unfold tb; rw [Int32.toBitVec_or, BitVec.getLsbD_or]
theorem tb_and (x y : Int32) (i : Nat) : tb (x &&& y) i = (tb x i && tb y i) := by
  unfold tb; rw [Int32.toBitVec_and, BitVec.getLsbD_and]
theorem tb_not (x : Int32) {i : Nat} (hi : i < 32) : tb (x ^^^ (-1 : Int32)) i = !(tb x i) := by
  unfold tb
  rw [Int32.toBitVec_xor, BitVec.getLsbD_xor, show (-1 : Int32).toBitVec = BitVec.allOnes 32 by decide, BitVec.getLsbD_allOnes]
  simp [hi]
theorem tb_one : ∀ a, a < 16 → ∀ i, i < 32 → tb ((1 : Int32) <<< (nI a &&& 31)) i = decide (i = a) := by decide +kernel
theorem tb_zero (i : Nat) : tb 0 i = false := by
  unfold tb
  rw [show (0 : Int32).toBitVec = 0#32 from rfl, BitVec.getLsbD_zero]
theorem tb_hi {x : Int32} (h : 0 ≤ x.toInt ∧ x.toInt < 65536) {i : Nat} (hi : 16 ≤ i) : tb x i = false := by
  obtain ⟨M, hM, rfl⟩ : ∃ M, M < 65536 ∧ x = nI M := ⟨x.toInt.toNat, by omega, nI_oT (by omega)⟩
  unfold tb BitVec.getLsbD
  rw [pk_tn (by omega)]
  exact Nat.testBit_lt_two_pow (Nat.lt_of_lt_of_le hM (Nat.le_trans (show 65536 ≤ 2 ^ 16 by decide) (Nat.pow_le_pow_right (by decide) hi)))
theorem tb_lo {x : Int32} (h : ∀ i, 16 ≤ i → i < 32 → tb x i = false) : 0 ≤ x.toInt ∧ x.toInt < 65536 := by
  have h2 : x.toBitVec.toNat < 2 ^ 16 := by
    apply Nat.lt_pow_two_of_testBit
    intro i hi
    by_cases h3 : i < 32
    · exact h i hi h3
    · exact Nat.testBit_lt_two_pow (Nat.lt_of_lt_of_le x.toBitVec.isLt (Nat.pow_le_pow_right (by decide) (by omega)))
  have e : x = nI x.toBitVec.toNat := by
    apply Int32.toBitVec_inj.mp
    apply BitVec.eq_of_toNat_eq
    rw [pk_tn (by omega)]
  rw [e, nI_toInt (by omega)]
  omega
theorem tb_ext {x y : Int32} (h : ∀ i, i < 32 → tb x i = tb y i) : x = y := by
  apply Int32.toBitVec_inj.mp
  apply BitVec.eq_of_getLsbD_eq
  intro i hi
  exact h i hi
theorem tb_e0 {x : Int32} (h : ∀ i, i < 32 → tb x i = false) : x = 0 := tb_ext (fun i hi => by rw [h i hi, tb_zero])
def nB (τ : Mem) (r b j : Nat) : Bool := decide (gapI (sdM τ (16 * r + b) 0) (sdM τ (16 * r + b) 2) (sdM τ (16 * r + j) 0) (sdM τ (16 * r + j) 2) + gapI (sdM τ (16 * r + b) 1) (sdM τ (16 * r + b) 3) (sdM τ (16 * r + j) 1) (sdM τ (16 * r + j) 3) ≤ 1)
theorem nB_iff {τ : Mem} {r b j : Nat} : nB τ r b j = true ↔ nearP τ (16 * r + b) (16 * r + j) := decide_eq_true_iff
theorem gapI_sy (a b c d : Int) : gapI a b c d = gapI c d a b := by
  unfold gapI
  rw [Int.max_comm a c, Int.min_comm b d]
theorem nB_sy {τ : Mem} {r b j : Nat} (h : nB τ r b j = true) : nB τ r j b = true := by
  rw [nB_iff] at h ⊢
  unfold nearP at h ⊢
  rw [gapI_sy (sdM τ (16 * r + j) 0), gapI_sy (sdM τ (16 * r + j) 1)]
  exact h
def oB (σ : Mem) (r j : Nat) : Bool := !(tb (σ 39 r) j)
/-- how far boxes of room r are from box a, as round m + 1 begins; at last -/
def FRm (σ τ : Mem) (r a m : Nat) : Nat → Nat := gN (cnt τ r) (oB σ r) (nB τ r) a m
def FR (σ τ : Mem) (r a : Nat) : Nat → Nat := FRm σ τ r a 16
theorem near_tb {σ τ : Mem} {S r b : Nat} (h : PlayR σ τ S) (hr : r < 21) (hb : b < cnt τ r) {i : Nat} (hi : i < 32) : tb (σ 115 (16 * r + b)) i = true ↔ i < cnt τ r ∧ nB τ r b i = true := by
  obtain ⟨c16, -, -, -, hbx⟩ := (h.2.2.2.2.1 r hr).c
  obtain ⟨-, n1, n2, n3⟩ := hbx b hb
  by_cases h16 : i < 16
  · rw [← bit1 hi, (n3 i h16).2, nB_iff]
  · rw [tb_hi ⟨n1, n2⟩ (by omega)]
    constructor
    · intro q; cases q
    · intro q; omega
theorem FRm_lt {σ τ : Mem} {S r a : Nat} (h : PlayR σ τ S) (hr : r < 21) (ha : a < cnt τ r) {m j : Nat} (hj : FRm σ τ r a m j ≠ 0) : j < cnt τ r := by
  rcases gN_supp m j hj with e | e
  · omega
  · exact e.1
theorem FRm_new {σ τ : Mem} {r a m j : Nat} : FRm σ τ r a (m + 1) j = m + 2 ↔ FRm σ τ r a m j = 0 ∧ j < cnt τ r ∧ oB σ r j = true ∧ ∃ b, b < cnt τ r ∧ FRm σ τ r a m b = m + 1 ∧ nB τ r b j = true := by
  constructor
  · intro h
    have h2 : FRm σ τ r a m j ≤ m + 1 := gN_le m j
    obtain ⟨a1, -, a3, a4, a5⟩ := gN_new (show gN (cnt τ r) (oB σ r) (nB τ r) a (m + 1) j ≠ gN (cnt τ r) (oB σ r) (nB τ r) a m j from fun q => by unfold FRm at h h2; omega)
    exact ⟨a1, a3, a4, a5⟩
  · rintro ⟨h1, h2, h3, h4⟩
    show nxG _ _ _ (FRm σ τ r a m) (m + 1) j = _
    unfold nxG
    rw [if_pos ⟨h1, h2, h3, any_iff.mpr h4⟩]
/-- one round of the class -/
theorem meas_in {σ : Mem} {r : Nat} (hr : r < 21) (k18 : Int32 → Int32 → Int32 → Int32 → Mem → Option Mem) (fd ed nn : Int32) : ∀ (M k : Nat) (nx : Int32) (s : Mem), k ≤ 16 → 16 < k + M → s 115 = σ 115 → s 39 = σ 39 → ∃ X, itr6 (b_X9_measureFrom_36 k18) M (nI r) fd ed nn nx (nI k) s = k18 (nI r) (fd ||| ((X &&& (fd ^^^ (-1 : Int32))) &&& ((σ 39 r) ^^^ (-1 : Int32)))) ((X &&& (fd ^^^ (-1 : Int32))) &&& ((σ 39 r) ^^^ (-1 : Int32))) (nn + 1) (rwM s 117 (fun j => if k ≤ j ∧ j < 16 ∧ tb ed j = true then nn else s 117 j)) ∧ ∀ i, (tb X i = true ↔ tb nx i = true ∨ ∃ b, k ≤ b ∧ b < 16 ∧ tb ed b = true ∧ tb (σ 115 (16 * r + b)) i = true) := by
  intro M
  induction M with
  | zero => intro k nx s h1 h2; omega
  | succ M ih =>
    intro k nx s h1 h2 e115 e39
    show ∃ X, b_X9_measureFrom_36 k18 M (itr6 (b_X9_measureFrom_36 k18) M) (nI r) fd ed nn nx (nI k) s = _ ∧ _
    generalize itr6 (b_X9_measureFrom_36 k18) M = g at ih ⊢
    unfold b_X9_measureFrom_36 b_X9_measureFrom_82
    rw [show (16 : Int32) = nI 16 from rfl]
    by_cases h : 16 ≤ k
    · rw [if_pos (nI_le h (by omega)), ck_t (inb_nI hr (by decide)), lt_eq, lt_eq, lt_eq, show Int32.ofInt 1 = 1 from rfl, nI_clamp (by omega), e39]
      refine ⟨nx, ?_, ?_⟩
      · congr 1
        funext a b
        unfold rwM
        by_cases ha : a = 117
        · subst ha
          rw [if_pos rfl, if_neg (by omega)]
        · rw [if_neg ha]
      · intro i
        constructor
        · exact fun q => Or.inl q
        · rintro (q | ⟨b, h3, h4, -⟩)
          · exact q
          · omega
    · rw [if_neg (nI_ge (a := k) (b := 16) (by omega) (by omega))]
      show ∃ X, (if bitI ed k = 0 then _ else _) = _ ∧ _
      by_cases e : bitI ed k = 0
      · have e2 := (bit0 (by omega)).mp e
        rw [if_pos e, lt_eq, show Int32.ofInt 1 = 1 from rfl, nI_1]
        obtain ⟨X, q1, q2⟩ := ih (k + 1) nx s (by omega) (by omega) e115 e39
        refine ⟨X, ?_, ?_⟩
        · rw [q1]
          congr 1
          funext a b
          unfold rwM
          by_cases ha : a = 117
          · subst ha
            rw [if_pos rfl, if_pos rfl]
            by_cases hb : b = k
            · subst hb
              rw [if_neg (by omega), if_neg (by rw [e2]; simp)]
            · by_cases h3 : k ≤ b ∧ b < 16 ∧ tb ed b = true
              · rw [if_pos h3, if_pos ⟨by omega, h3.2⟩]
              · rw [if_neg h3, if_neg (fun q => h3 ⟨by omega, q.2⟩)]
          · rw [if_neg ha, if_neg ha]
        · intro i
          rw [q2 i]
          constructor
          · rintro (q | ⟨b, h3, h4, h5, h6⟩)
            · exact Or.inl q
            · exact Or.inr ⟨b, by omega, h4, h5, h6⟩
          · rintro (q | ⟨b, h3, h4, h5, h6⟩)
            · exact Or.inl q
            · by_cases hb : b = k
              · subst hb
                rw [e2] at h5
                cases h5
              · exact Or.inr ⟨b, by omega, h4, h5, h6⟩
      · have e2 : tb ed k = true := by
          cases q : tb ed k
          · exact absurd ((bit0 (by omega)).mpr q) e
          · rfl
        rw [if_neg e, ck_t (inb_nI (by omega) (by decide)), lt_eq, show nI 16 = (16 : Int32) from rfl]
        simp only [ixB, nI_clamp (show k < 2 ^ 31 by omega)]
        rw [ck_t (inb_nI (by omega) (by decide)), lt_eq, lt_eq, nI_clamp (by omega), show Int32.ofInt 1 = 1 from rfl, nI_1, stM_ne (show (115 : Nat) ≠ 117 by decide), e115]
        obtain ⟨X, q1, q2⟩ := ih (k + 1) (nx ||| σ 115 (16 * r + k)) (stM s 117 k nn) (by omega) (by omega) (by rw [stM_ne (by decide), e115]) (by rw [stM_ne (by decide), e39])
        refine ⟨X, ?_, ?_⟩
        · rw [q1]
          congr 1
          funext a b
          unfold rwM
          by_cases ha : a = 117
          · subst ha
            rw [if_pos rfl, if_pos rfl]
            by_cases hb : b = k
            · subst hb
              rw [if_neg (by omega), if_pos ⟨by omega, by omega, e2⟩, stM_hit]
            · rw [stM_far (Or.inr hb)]
              by_cases h3 : k ≤ b ∧ b < 16 ∧ tb ed b = true
              · rw [if_pos h3, if_pos ⟨by omega, h3.2⟩]
              · rw [if_neg h3, if_neg (fun q => h3 ⟨by omega, q.2⟩)]
          · rw [if_neg ha, if_neg ha, stM_ne ha]
        · intro i
          rw [q2 i, tb_or, Bool.or_eq_true]
          constructor
          · rintro ((q | q) | ⟨b, h3, h4, h5, h6⟩)
            · exact Or.inl q
            · exact Or.inr ⟨k, by omega, by omega, e2, q⟩
            · exact Or.inr ⟨b, by omega, h4, h5, h6⟩
          · rintro (q | ⟨b, h3, h4, h5, h6⟩)
            · exact Or.inl (Or.inl q)
            · by_cases hb : b = k
              · subst hb
                exact Or.inl (Or.inr h6)
              · exact Or.inr ⟨b, by omega, h4, h5, h6⟩
theorem meas_lp {σ τ : Mem} {S r a : Nat} (h : PlayR σ τ S) (hr : r < 21) (ha : a < cnt τ r) : ∀ (M m : Nat) (fd ed : Int32) (s : Mem), m ≤ 16 → 40 < m + M → s 115 = σ 115 → s 39 = σ 39 → (∀ i, i < 32 → (tb ed i = true ↔ FRm σ τ r a m i = m + 1)) → (∀ i, i < 32 → (tb fd i = true ↔ FRm σ τ r a m i ≠ 0)) → (∀ j, j < 16 → s 117 j = nI (if FRm σ τ r a m j = m + 1 then 0 else FRm σ τ r a m j)) → ∃ f, itr4 (b_X9_measureFrom_18) M (nI r) fd ed (nI (m + 1)) s = some (rwM s 117 f) ∧ ∀ j, j < 16 → f j = nI (FR σ τ r a j) := by
  have c16 := (h.cs r hr).1
  intro M
  induction M with
  | zero => intro m fd ed s h1 h2; omega
  | succ M ih =>
    intro m fd ed s h1 h2 e115 e39 hed hfd h117
    show ∃ f, b_X9_measureFrom_18 M (itr4 (b_X9_measureFrom_18) M) (nI r) fd ed (nI (m + 1)) s = _ ∧ _
    generalize itr4 (b_X9_measureFrom_18) M = g at ih ⊢
    unfold b_X9_measureFrom_18 b_X9_measureFrom_119
    rw [show (16 : Int32) = nI 16 from rfl]
    have idr : rwM s 117 (s 117) = s := by
      funext a b
      unfold rwM
      by_cases q : a = 117
      · rw [if_pos q, q]
      · rw [if_neg q]
    by_cases hm : 16 < m + 1
    · rw [if_pos (nI_lt hm (by omega))]
      refine ⟨s 117, by rw [idr], ?_⟩
      intro j hj
      have e : m = 16 := by omega
      subst e
      have := gN_16 (O := oB σ r) (N := nB τ r) c16 (show a < 16 by omega) j
      rw [h117 j hj, if_neg (fun q => by unfold FRm at q; omega)]
      rfl
    · rw [if_neg (nI_nlt (by omega) (by omega))]
      by_cases he : ed = 0
      · rw [if_pos he]
        refine ⟨s 117, by rw [idr], ?_⟩
        intro j hj
        have st : ∀ b, FRm σ τ r a m b = m + 1 → b < 32 → False := fun b q hb => by
          have := (hed b hb).mpr q
          rw [he, tb_zero] at this
          cases this
        have := gN_stop (c := cnt τ r) (O := oB σ r) (N := nB τ r) (a := a) (m := m) (fun b hb q => st b q (by omega)) (16 - m)
        rw [show m + (16 - m) = 16 by omega] at this
        rw [h117 j hj, if_neg (fun q => st j q (by omega))]
        unfold FR FRm
        rw [this]
      · rw [if_neg he]
        obtain ⟨X, q1, q2⟩ := meas_in (σ := σ) hr g fd ed (nI (m + 1)) M 0 0 s (by omega) (by omega) e115 e39
        rw [show (0 : Int32) = nI 0 from rfl] at q1 ⊢
        rw [q1, nI_1]
        have ex : ∀ i, i < 32 → (tb ((X &&& (fd ^^^ (-1 : Int32))) &&& ((σ 39 r) ^^^ (-1 : Int32))) i = true ↔ FRm σ τ r a (m + 1) i = m + 1 + 1) := by
          intro i hi
          rw [FRm_new, tb_and, tb_and, tb_not _ hi, tb_not _ hi, Bool.and_eq_true, Bool.and_eq_true, q2 i, tb_zero]
          constructor
          · rintro ⟨⟨q | ⟨b, -, h4, h5, h6⟩, h7⟩, h8⟩
            · cases q
            · have h9 := (hed b (by omega)).mp h5
              have hb := FRm_lt h hr ha (show FRm σ τ r a m b ≠ 0 by omega)
              obtain ⟨z1, z2⟩ := (near_tb h hr hb hi).mp h6
              refine ⟨?_, z1, h8, b, hb, h9, z2⟩
              by_cases z : FRm σ τ r a m i = 0
              · exact z
              · rw [(hfd i hi).mpr z] at h7
                cases h7
          · rintro ⟨h3, h4, h5, b, h6, h7, h8⟩
            refine ⟨⟨Or.inr ⟨b, by omega, by omega, (hed b (by omega)).mpr h7, (near_tb h hr h6 hi).mpr ⟨h4, h8⟩⟩, ?_⟩, h5⟩
            cases z : tb fd i
            · rfl
            · exact absurd h3 ((hfd i hi).mp z)
        have w2 := fun A B => ih (m + 1) (fd ||| ((X &&& (fd ^^^ (-1 : Int32))) &&& ((σ 39 r) ^^^ (-1 : Int32)))) ((X &&& (fd ^^^ (-1 : Int32))) &&& ((σ 39 r) ^^^ (-1 : Int32))) (rwM s 117 (fun j => if 0 ≤ j ∧ j < 16 ∧ tb ed j = true then nI (m + 1) else s 117 j)) (by omega) (by omega) (by rw [rwM_ne (by decide), e115]) (by rw [rwM_ne (by decide), e39]) ex A B
        obtain ⟨f, g1, g2⟩ := w2 (by
          intro i hi
          rw [tb_or, Bool.or_eq_true, ex i hi, hfd i hi]
          constructor
          · rintro (q | q)
            · have : FRm σ τ r a (m + 1) i = FRm σ τ r a m i := gN_keep q
              rw [this]; exact q
            · omega
          · intro q
            by_cases z : FRm σ τ r a (m + 1) i = FRm σ τ r a m i
            · exact Or.inl (by rw [← z]; exact q)
            · exact Or.inr (gN_new z).2.1) (by
          intro j hj
          rw [rwM_row]
          by_cases z : FRm σ τ r a m j = m + 1
          · have z2 : FRm σ τ r a (m + 1) j = FRm σ τ r a m j := gN_keep (by unfold FRm at z; omega)
            show (if _ then _ else _) = _
            rw [if_pos ⟨by omega, hj, (hed j (by omega)).mpr z⟩, if_neg (by omega), z2, z]
          · show (if _ then _ else _) = _
            rw [if_neg (fun q => z ((hed j (by omega)).mp q.2.2)), h117 j hj, if_neg z]
            by_cases z2 : FRm σ τ r a (m + 1) j = FRm σ τ r a m j
            · have := gN_le (c := cnt τ r) (O := oB σ r) (N := nB τ r) (a := a) m j
              rw [if_neg (by unfold FRm at z2 ⊢; omega), z2]
            · obtain ⟨y1, y2, -⟩ := gN_new z2
              rw [if_pos (by unfold FRm; omega)]
              unfold FRm
              rw [y1])
        refine ⟨f, ?_, g2⟩
        rw [g1]
        congr 1
        funext a b
        unfold rwM
        by_cases q : a = 117
        · rw [if_pos q, if_pos q]
        · rw [if_neg q, if_neg q, if_neg q]
theorem meas_eq {σ τ : Mem} {S r a n : Nat} (h : PlayR σ τ S) (hn : 50 ≤ n) (hr : r < 21) (ha : a < cnt τ r) : ∃ f, f_X9_measureFrom n (nI r) (nI a) σ = some (rwM σ 117 f) ∧ ∀ j, j < 16 → f j = nI (FR σ τ r a j) := by
  have c16 := (h.cs r hr).1
  unfold f_X9_measureFrom
  show ∃ f, bv (some (fillM σ 117 16 0)) _ = _ ∧ _
  rw [bv_mk, lt_eq]
  have e0 : ∀ i, FRm σ τ r a 0 i = if i = a then 1 else 0 := fun i => rfl
  have w2 := fun A B C => meas_lp h hr ha n 0 ((1 : Int32) <<< (nI a &&& 31)) ((1 : Int32) <<< (nI a &&& 31)) (fillM σ 117 16 0) (by omega) (by omega) (rwM_ne (by decide)) (rwM_ne (by decide)) A B C
  obtain ⟨f, q1, q2⟩ := w2 (by
    intro i hi
    rw [tb_one a (by omega) i hi, e0]
    by_cases q : i = a
    · rw [if_pos q]; simp [q]
    · rw [if_neg q]; simp [q]) (by
    intro i hi
    rw [tb_one a (by omega) i hi, e0]
    by_cases q : i = a
    · rw [if_pos q]; simp [q]
    · rw [if_neg q]; simp [q]) (by
    intro j hj
    unfold fillM
    rw [rwM_row]
    show (if j < 16 then (0 : Int32) else _) = _
    rw [if_pos hj, e0]
    by_cases q : j = a
    · rw [if_pos q]; rfl
    · rw [if_neg q]; rfl)
  refine ⟨f, ?_, q2⟩
  rw [show (1 : Int32) = nI (0 + 1) from rfl] at q1 ⊢
  rw [q1]
  congr 1
  funext a b
  unfold fillM rwM
  by_cases q : a = 117
  · rw [if_pos q, if_pos q]
  · rw [if_neg q, if_neg q, if_neg q]
