/-! ===== the model's ways ===== -/
/-- box j has been met by round m + 1 before (b, k) -/
def WQ (σ τ : Mem) (r a m b k j : Nat) : Prop := FRm σ τ r a m j = 0 ∧ j < cnt τ r ∧ oB σ r j = true ∧ ∃ d, d < cnt τ r ∧ (d < b ∨ (d = b ∧ j < k)) ∧ FRm σ τ r a m d = m + 1 ∧ nB τ r d j = true
def WS (σ τ : Mem) (r a m b k : Nat) (s : Mem) : Prop := ∀ j, j < 16 → (WQ σ τ r a m b k j → s 17 j = nI (m + 2)) ∧ (¬ WQ σ τ r a m b k j → s 17 j = nI (FRm σ τ r a m j))
def WF (σ τ : Mem) (r a m b k : Nat) (fl : Int32) : Prop := (fl = 1 ∧ ∃ j, WQ σ τ r a m b k j) ∨ (fl = 0 ∧ ∀ j, ¬ WQ σ τ r a m b k j)
theorem WS_c {σ τ : Mem} {r a m b k b' k' : Nat} {s : Mem} (h : WS σ τ r a m b k s) (e : ∀ j, j < 16 → (WQ σ τ r a m b k j ↔ WQ σ τ r a m b' k' j)) : WS σ τ r a m b' k' s := fun j hj => ⟨fun q => (h j hj).1 ((e j hj).mpr q), fun q => (h j hj).2 (fun w => q ((e j hj).mp w))⟩
theorem WF_c {σ τ : Mem} {r a m b k b' k' : Nat} {fl : Int32} (h : WF σ τ r a m b k fl) (e : ∀ j, (WQ σ τ r a m b k j ↔ WQ σ τ r a m b' k' j)) : WF σ τ r a m b' k' fl := by
  rcases h with ⟨h1, j, h2⟩ | ⟨h1, h2⟩
  · exact Or.inl ⟨h1, j, (e j).mp h2⟩
  · exact Or.inr ⟨h1, fun j q => h2 j ((e j).mpr q)⟩
/-- what the model's rounds look at -/
def WC (τ s : Mem) : Prop := s 4 = τ 4 ∧ s 5 = τ 5 ∧ s 15 = τ 15
theorem open_tb {σ τ : Mem} (hS : StR σ 33 (τ 15)) {r j : Nat} (hr : r < 21) (hj : j < 16) : τ 15 (445 + 16 * r + j) = 0 ↔ oB σ r j = true := by
  rw [hS.2.2.2.2.2.2.2.2.2.2 r hr j hj, bit0 (by omega)]
  unfold oB
  show tb (σ 39 r) j = false ↔ _
  cases tb (σ 39 r) j <;> decide
theorem FRm_le {σ τ : Mem} {r a m j : Nat} : FRm σ τ r a m j ≤ m + 1 := gN_le m j
theorem ways_in {σ τ : Mem} {S r a m b : Nat} (h : PlayR σ τ S) (hS : StR σ 33 (τ 15)) (hr : r < 21) (hm : m ≤ 16) (hb : b < cnt τ r) (k35 : Int32 → Int32 → Int32 → Mem → Option Mem) (k44 : Int32 → Int32 → Int32 → Int32 → Mem → Option Mem) : ∀ (M k : Nat) (fl : Int32) (s : Mem), k ≤ cnt τ r → 16 < k + M → WC τ s → WS σ τ r a m b k s → WF σ τ r a m b k fl → ∃ fl' s', itr5 (b_X11_ways_58 k35 k44) M (nI r) fl (nI (m + 1)) (nI b) (nI k) s = k44 (nI r) fl' (nI (m + 1)) (nI (b + 1)) s' ∧ (∀ z, z ≠ 17 → s' z = s z) ∧ WS σ τ r a m (b + 1) 0 s' ∧ WF σ τ r a m (b + 1) 0 fl' := by
  obtain ⟨c16, -, -, h4, hbx⟩ := (h.2.2.2.2.1 r hr).c
  intro M
  induction M with
  | zero => intro k fl s h1 h2; omega
  | succ M ih =>
    intro k fl s h1 h2 hW hs hf
    obtain ⟨w4, w5, w15⟩ := hW
    show ∃ fl' s', b_X11_ways_58 k35 k44 M (itr5 (b_X11_ways_58 k35 k44) M) (nI r) fl (nI (m + 1)) (nI b) (nI k) s = _ ∧ _
    generalize itr5 (b_X11_ways_58 k35 k44) M = g at ih ⊢
    unfold b_X11_ways_58 b_X11_ways_126 b_X11_ways_132
    rw [ck_t (inb_nI hr (by decide)), nI_clamp (by omega), w4, h4]
    have hbQ : ¬ WQ σ τ r a m b k b → s 17 b = nI (FRm σ τ r a m b) := (hs b (by omega)).2
    by_cases hk : cnt τ r ≤ k
    · rw [if_pos (nI_le hk (by omega)), lt_eq, show Int32.ofInt 1 = 1 from rfl, nI_1]
      have e : ∀ j, WQ σ τ r a m b k j ↔ WQ σ τ r a m (b + 1) 0 j := by
        intro j
        unfold WQ
        constructor
        · rintro ⟨q1, q2, q3, d, q4, q5, q6, q7⟩
          exact ⟨q1, q2, q3, d, q4, by omega, q6, q7⟩
        · rintro ⟨q1, q2, q3, d, q4, q5, q6, q7⟩
          exact ⟨q1, q2, q3, d, q4, by omega, q6, q7⟩
      exact ⟨fl, s, rfl, fun _ _ => rfl, WS_c hs (fun j _ => e j), WF_c hf e⟩
    · rw [if_neg (nI_ge (a := k) (by omega) (by omega)), ck_t (inb_nI (by omega) (by decide)), nI_clamp (by omega)]
      have eb : s 17 b = nI (m + 1) ↔ FRm σ τ r a m b = m + 1 := by
        by_cases q : WQ σ τ r a m b k b
        · rw [(hs b (by omega)).1 q, nI_eq (by omega) (by omega)]
          have := q.1
          omega
        · have := FRm_le (σ := σ) (τ := τ) (r := r) (a := a) (m := m) (j := b)
          rw [hbQ q, nI_eq (by omega) (by omega)]
      by_cases e1 : s 17 b = nI (m + 1)
      · have e2 := eb.mp e1
        rw [if_pos e1, ck_t (inb_nI (by omega) (by decide)), nI_clamp (by omega)]
        have ek : s 17 k = 0 ↔ FRm σ τ r a m k = 0 ∧ ¬ WQ σ τ r a m b k k := by
          have := FRm_le (σ := σ) (τ := τ) (r := r) (a := a) (m := m) (j := k)
          by_cases q : WQ σ τ r a m b k k
          · rw [(hs k (by omega)).1 q]
            constructor
            · intro z; exact absurd z (nI_ne0 (by omega) (by omega))
            · intro z; exact absurd q z.2
          · rw [(hs k (by omega)).2 q, show (0 : Int32) = nI 0 from rfl, nI_eq (by omega) (by omega)]
            exact ⟨fun z => ⟨z, q⟩, fun z => z.1⟩
        -- the next place, where nothing is met at k
        have skip : (¬ (FRm σ τ r a m k = 0 ∧ ¬ WQ σ τ r a m b k k) ∨ ¬ oB σ r k = true ∨ ¬ nB τ r b k = true) → ∀ j, WQ σ τ r a m b k j ↔ WQ σ τ r a m b (k + 1) j := by
          intro hq j
          constructor
          · rintro ⟨q1, q2, q3, d, q4, q5, q6, q7⟩
            exact ⟨q1, q2, q3, d, q4, by omega, q6, q7⟩
          · rintro ⟨q1, q2, q3, d, q4, q5, q6, q7⟩
            by_cases hjk : d = b ∧ j = k
            · obtain ⟨rfl, rfl⟩ := hjk
              rcases hq with z | z | z
              · by_cases y : WQ σ τ r a m d j j
                · exact y
                · exact absurd ⟨q1, y⟩ z
              · exact absurd q3 z
              · exact absurd q7 z
            · exact ⟨q1, q2, q3, d, q4, by omega, q6, q7⟩
        have go : (¬ (FRm σ τ r a m k = 0 ∧ ¬ WQ σ τ r a m b k k) ∨ ¬ oB σ r k = true ∨ ¬ nB τ r b k = true) → ∃ fl' s', lt (nI k + Int32.ofInt 1) (fun x1 => g (nI r) fl (nI (m + 1)) (nI b) x1 s) = k44 (nI r) fl' (nI (m + 1)) (nI (b + 1)) s' ∧ (∀ z, z ≠ 17 → s' z = s z) ∧ WS σ τ r a m (b + 1) 0 s' ∧ WF σ τ r a m (b + 1) 0 fl' := by
          intro hq
          rw [lt_eq, show Int32.ofInt 1 = 1 from rfl, nI_1]
          exact ih (k + 1) fl s (by omega) (by omega) ⟨w4, w5, w15⟩ (WS_c hs (fun j _ => skip hq j)) (WF_c hf (skip hq))
        by_cases e3 : s 17 k = 0
        · have e4 := ek.mp e3
          rw [if_pos e3, open_M M hr (by omega), bd_mk, w15]
          by_cases e5 : τ 15 (445 + 16 * r + k) = 0
          · have e6 := (open_tb hS hr (by omega)).mp e5
            haveI : Decidable (nearP τ (16 * r + b) (16 * r + k)) := Classical.propDecidable _
            rw [bz_t e5, if_neg (show ¬ (1 : Int32) = 0 by decide), near_eq h w5 M hr hb (by omega), bd_mk]
            by_cases e7 : nearP τ (16 * r + b) (16 * r + k)
            · have e8 := nB_iff.mpr e7
              rw [bz_t e7, if_neg (show ¬ (1 : Int32) = 0 by decide), ck_t (inb_nI (by omega) (by decide)), lt_eq, lt_eq, show Int32.ofInt 1 = 1 from rfl, nI_1, nI_1]
              have hQ : WQ σ τ r a m b (k + 1) k := ⟨e4.1, by omega, e6, b, hb, by omega, e2, e8⟩
              have hne : ∀ j, j ≠ k → (WQ σ τ r a m b k j ↔ WQ σ τ r a m b (k + 1) j) := by
                intro j hj
                constructor
                · rintro ⟨q1, q2, q3, d, q4, q5, q6, q7⟩
                  exact ⟨q1, q2, q3, d, q4, by omega, q6, q7⟩
                · rintro ⟨q1, q2, q3, d, q4, q5, q6, q7⟩
                  exact ⟨q1, q2, q3, d, q4, by omega, q6, q7⟩
              obtain ⟨fl', s', z1, z2, z3, z4⟩ := ih (k + 1) 1 (stM s 17 k (nI (m + 1 + 1))) (by omega) (by omega) ⟨by rw [stM_ne (by decide), w4], by rw [stM_ne (by decide), w5], by rw [stM_ne (by decide), w15]⟩ (by
                intro j hj
                by_cases hjk : j = k
                · subst hjk
                  exact ⟨fun _ => stM_hit _ _ _ _, fun q => absurd hQ q⟩
                · rw [stM_far (Or.inr hjk)]
                  exact ⟨fun q => (hs j hj).1 ((hne j hjk).mpr q), fun q => (hs j hj).2 (fun w => q ((hne j hjk).mp w))⟩) (Or.inl ⟨rfl, k, hQ⟩)
              exact ⟨fl', s', z1, fun z hz => by rw [z2 z hz, stM_ne hz], z3, z4⟩
            · rw [bz_f e7, if_pos rfl]
              exact go (Or.inr (Or.inr (fun q => e7 (nB_iff.mp q))))
          · rw [bz_f e5, if_pos rfl]
            exact go (Or.inr (Or.inl (fun q => e5 ((open_tb hS hr (by omega)).mpr q))))
        · rw [if_neg e3]
          exact go (Or.inl (fun q => e3 (ek.mpr q)))
      · have e2 : ¬ FRm σ τ r a m b = m + 1 := fun q => e1 (eb.mpr q)
        rw [if_neg e1, lt_eq, show Int32.ofInt 1 = 1 from rfl, nI_1]
        have e : ∀ j, WQ σ τ r a m b k j ↔ WQ σ τ r a m (b + 1) 0 j := by
          intro j
          constructor
          · rintro ⟨q1, q2, q3, d, q4, q5, q6, q7⟩
            exact ⟨q1, q2, q3, d, q4, by omega, q6, q7⟩
          · rintro ⟨q1, q2, q3, d, q4, q5, q6, q7⟩
            refine ⟨q1, q2, q3, d, q4, ?_, q6, q7⟩
            by_cases hd : d = b
            · subst hd; exact absurd q6 e2
            · omega
        exact ⟨fl, s, rfl, fun _ _ => rfl, WS_c hs (fun j _ => e j), WF_c hf e⟩
theorem ways_mid {σ τ : Mem} {S r a m : Nat} (h : PlayR σ τ S) (hS : StR σ 33 (τ 15)) (hr : r < 21) (hm : m ≤ 16) (k35 : Int32 → Int32 → Int32 → Mem → Option Mem) : ∀ (M b : Nat) (fl : Int32) (s : Mem), b ≤ cnt τ r → 40 < b + M → WC τ s → WS σ τ r a m b 0 s → WF σ τ r a m b 0 fl → ∃ fl' s', itr4 (b_X11_ways_44 k35) M (nI r) fl (nI (m + 1)) (nI b) s = k35 (nI r) fl' (nI (m + 2)) s' ∧ (∀ z, z ≠ 17 → s' z = s z) ∧ WS σ τ r a m (cnt τ r) 0 s' ∧ WF σ τ r a m (cnt τ r) 0 fl' := by
  obtain ⟨c16, -, -, h4, hbx⟩ := (h.2.2.2.2.1 r hr).c
  intro M
  induction M with
  | zero => intro b fl s h1 h2; omega
  | succ M ih =>
    intro b fl s h1 h2 hW hs hf
    show ∃ fl' s', b_X11_ways_44 k35 M (itr4 (b_X11_ways_44 k35) M) (nI r) fl (nI (m + 1)) (nI b) s = _ ∧ _
    generalize itr4 (b_X11_ways_44 k35) M = g at ih ⊢
    unfold b_X11_ways_44
    rw [ck_t (inb_nI hr (by decide)), nI_clamp (by omega), hW.1, h4]
    by_cases hk : cnt τ r ≤ b
    · rw [if_pos (nI_le hk (by omega)), lt_eq, show Int32.ofInt 1 = 1 from rfl, nI_1]
      have e : b = cnt τ r := by omega
      subst e
      exact ⟨fl, s, rfl, fun _ _ => rfl, hs, hf⟩
    · rw [if_neg (nI_ge (a := b) (by omega) (by omega)), show (0 : Int32) = nI 0 from rfl]
      obtain ⟨fl', s', z1, z2, z3, z4⟩ := ways_in h hS hr hm (show b < cnt τ r by omega) k35 g M 0 fl s (by omega) (by omega) hW hs hf
      rw [z1]
      obtain ⟨fl2, s2, y1, y2, y3, y4⟩ := ih (b + 1) fl' s' (by omega) (by omega) ⟨by rw [z2 4 (by decide), hW.1], by rw [z2 5 (by decide), hW.2.1], by rw [z2 15 (by decide), hW.2.2]⟩ z3 z4
      exact ⟨fl2, s2, y1, fun z hz => by rw [y2 z hz, z2 z hz], y3, y4⟩
theorem ways_out {σ τ : Mem} {S r a : Nat} (h : PlayR σ τ S) (hS : StR σ 33 (τ 15)) (hr : r < 21) (ha : a < cnt τ r) : ∀ (M m : Nat) (fl : Int32) (s : Mem), m ≤ 16 → 80 < m + M → WC τ s → (∀ j, j < 16 → s 17 j = nI (FRm σ τ r a m j)) → ((fl = 1 ∧ ∃ j, FRm σ τ r a m j = m + 1) ∨ (fl = 0 ∧ ∀ j, FRm σ τ r a m j ≠ m + 1)) → ∃ s', itr3 (b_X11_ways_35) M (nI r) fl (nI (m + 1)) s = some s' ∧ (∀ z, z ≠ 17 → s' z = s z) ∧ ∀ j, j < 16 → s' 17 j = nI (FR σ τ r a j) := by
  have c16 := (h.cs r hr).1
  intro M
  induction M with
  | zero => intro m fl s h1 h2; omega
  | succ M ih =>
    intro m fl s h1 h2 hW hs hf
    show ∃ s', b_X11_ways_35 M (itr3 (b_X11_ways_35) M) (nI r) fl (nI (m + 1)) s = _ ∧ _
    generalize itr3 (b_X11_ways_35) M = g at ih ⊢
    unfold b_X11_ways_35
    rcases hf with ⟨rfl, j, hj⟩ | ⟨rfl, hj⟩
    · have m16 : m ≠ 16 := by
        rintro rfl
        have := gN_16 (O := oB σ r) (N := nB τ r) c16 (show a < 16 by omega) j
        unfold FRm at hj
        omega
      have noQ : ∀ j, ¬ WQ σ τ r a m 0 0 j := by
        rintro j ⟨-, -, -, d, -, q, -⟩
        omega
      rw [if_neg (by decide), show (0 : Int32) = nI 0 from rfl]
      obtain ⟨fl', s', z1, z2, z3, z4⟩ := ways_mid (a := a) (m := m) h hS hr (by omega) g M 0 (nI 0) s (by omega) (by omega) hW (fun j hj => ⟨fun q => absurd q (noQ j), fun _ => hs j hj⟩) (Or.inr ⟨rfl, noQ⟩)
      rw [z1]
      have eq : ∀ j, WQ σ τ r a m (cnt τ r) 0 j ↔ FRm σ τ r a (m + 1) j = m + 2 := by
        intro j
        rw [FRm_new]
        constructor
        · rintro ⟨q1, q2, q3, d, q4, q5, q6, q7⟩
          exact ⟨q1, q2, q3, d, q4, q6, q7⟩
        · rintro ⟨q1, q2, q3, d, q4, q6, q7⟩
          exact ⟨q1, q2, q3, d, q4, by omega, q6, q7⟩
      obtain ⟨s2, y1, y2, y3⟩ := ih (m + 1) fl' s' (by omega) (by omega) ⟨by rw [z2 4 (by decide), hW.1], by rw [z2 5 (by decide), hW.2.1], by rw [z2 15 (by decide), hW.2.2]⟩ (by
        intro j hj
        by_cases q : WQ σ τ r a m (cnt τ r) 0 j
        · rw [(z3 j hj).1 q, (eq j).mp q]
        · rw [(z3 j hj).2 q]
          by_cases w : FRm σ τ r a (m + 1) j = FRm σ τ r a m j
          · rw [w]
          · exact absurd ((eq j).mpr (gN_new w).2.1) q) (by
        rcases z4 with ⟨e, j, q⟩ | ⟨e, q⟩
        · exact Or.inl ⟨e, j, (eq j).mp q⟩
        · exact Or.inr ⟨e, fun j w => q j ((eq j).mpr w)⟩)
      exact ⟨s2, y1, fun z hz => by rw [y2 z hz, z2 z hz], y3⟩
    · rw [if_pos rfl]
      refine ⟨s, rfl, fun _ _ => rfl, ?_⟩
      intro j hj2
      have := gN_stop (c := cnt τ r) (O := oB σ r) (N := nB τ r) (a := a) (m := m) (fun b _ => hj b) (16 - m)
      rw [show m + (16 - m) = 16 by omega] at this
      rw [hs j hj2]
      unfold FR FRm
      rw [this]
theorem ways_lp {σ τ : Mem} {S r a : Nat} (h : PlayR σ τ S) (hS : StR σ 33 (τ 15)) (hr : r < 21) (ha : a < cnt τ r) : ∀ (M k : Nat) (s : Mem), k ≤ 16 → 110 < k + M → WC τ s → (∀ j, j < k → s 17 j = nI (if j = a then 1 else 0)) → ∃ s', itr3 (b_X11_ways_2) M (nI r) (nI a) (nI k) s = some s' ∧ (∀ z, z ≠ 17 → s' z = s z) ∧ ∀ j, j < 16 → s' 17 j = nI (FR σ τ r a j) := by
  have c16 := (h.cs r hr).1
  intro M
  induction M with
  | zero => intro k s h1 h2; omega
  | succ M ih =>
    intro k s h1 h2 hW hs
    show ∃ s', b_X11_ways_2 M (itr3 (b_X11_ways_2) M) (nI r) (nI a) (nI k) s = _ ∧ _
    generalize itr3 (b_X11_ways_2) M = g at ih ⊢
    unfold b_X11_ways_2 b_X11_ways_23
    rw [show (16 : Int32) = nI 16 from rfl]
    by_cases hk : 16 ≤ k
    · rw [if_pos (nI_le hk (by omega))]
      exact ways_out h hS hr ha M 0 1 s (by omega) (by omega) hW (fun j hj => hs j (by omega)) (Or.inl ⟨rfl, a, gN_a 0⟩)
    · rw [if_neg (nI_ge (a := k) (by omega) (by omega))]
      have st : ∀ v : Int32, v = nI (if k = a then 1 else 0) → ∃ s', ck (inb (nI k) 16) (lt (stM s 17 (nI k).toNatClampNeg v) fun s1 => lt (nI k + Int32.ofInt 1) fun x2 => g (nI r) (nI a) x2 s1) = some s' ∧ (∀ z, z ≠ 17 → s' z = s z) ∧ ∀ j, j < 16 → s' 17 j = nI (FR σ τ r a j) := by
        intro v hv
        rw [ck_t (inb_nI (by omega) (by decide)), lt_eq, lt_eq, show Int32.ofInt 1 = 1 from rfl, nI_1, nI_clamp (by omega)]
        obtain ⟨s', z1, z2, z3⟩ := ih (k + 1) (stM s 17 k v) (by omega) (by omega) ⟨by rw [stM_ne (by decide), hW.1], by rw [stM_ne (by decide), hW.2.1], by rw [stM_ne (by decide), hW.2.2]⟩ (by
          intro j hj
          by_cases e : j = k
          · subst e
            rw [stM_hit, hv]
          · rw [stM_far (Or.inr e), hs j (by omega)])
        exact ⟨s', z1, fun z hz => by rw [z2 z hz, stM_ne hz], z3⟩
      by_cases e : nI k = nI a
      · have e2 : k = a := (nI_eq (by omega) (by omega)).mp e
        rw [if_pos e]
        exact st 1 (by rw [if_pos e2]; rfl)
      · have e2 : ¬ k = a := fun q => e (by rw [q])
        rw [if_neg e]
        exact st 0 (by rw [if_neg e2]; rfl)
theorem ways_eq {σ τ s : Mem} {S r a n : Nat} (h : PlayR σ τ S) (hS : StR σ 33 (τ 15)) (hn : 120 ≤ n) (hr : r < 21) (ha : a < cnt τ r) (hW : WC τ s) : ∃ s', f_X11_ways n (nI r) (nI a) s = some s' ∧ (∀ z, z ≠ 17 → s' z = s z) ∧ ∀ j, j < 16 → s' 17 j = nI (FR σ τ r a j) :=
  ways_lp h hS hr ha n 0 s (by omega) (by omega) hW (fun j hj => by omega)
